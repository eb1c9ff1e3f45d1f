/-! ===== kinds of both programs ===== -/
def kmL : List Int := [1, 0, 4, 3, 2, 0, 0, 0, 0, 0, 5, 6, 7, 10, 14, 16, 19, 8, 9, 11, 12, 13, 15, 17, 18, 20, 21, 22, 23, 24, 25, 26, 27, 28, 29]
/-- the class's kind of a kind of the reference -/
def kmp (k : Int) : Int := kmL.getD k.toNat 0
def kiL : List Nat := [0, 0, 0, 0, 0, 0, 1, 2, 7, 8, 3, 9, 10, 11, 4, 12, 5, 13, 14, 6, 15, 16, 17, 18, 19, 20, 21, 22, 23, 24]
theorem fnd_m1 (p : Nat → Bool) (k : Nat) : fnd p k 0 = -1 ↔ ∀ i, i < k → p i = false := by
  rcases fnd_spec p k 0 with ⟨h1, h2⟩ | ⟨i, h1, h2, h3, h4, h5⟩
  · exact ⟨fun _ i hi => h2 i (by omega) (by omega), fun _ => h1⟩
  · refine ⟨fun h => by omega, fun h => ?_⟩
    rw [h i (by omega)] at h4
    cases h4
theorem kw_1 : ∀ w : Nat, w < 25 → (sLen (kwd (kmp (10 + w))) = wl w ∧ ∀ i : Nat, i < wl w → sByt (kwd (kmp (10 + w))) i = sByt 0 (wo w + i)) := by decide +kernel
theorem kw_2 : ∀ o : Nat, o < 5 → sLen (kwd o) = 0 := by decide +kernel
theorem kw_3 : ∀ o : Nat, o < 30 → 5 ≤ o → kiL.getD o 0 < 25 ∧ kmp (10 + ((kiL.getD o 0 : Nat) : Int)) = o := by decide +kernel
theorem kw_4 : ∀ w : Nat, w < 25 → ∀ w' : Nat, w' < 25 → wl w = wl w' → (∀ i : Nat, i < wl w → sByt 0 (wo w + i) = sByt 0 (wo w' + i)) → w = w' := by decide +kernel
theorem kw_5 : ∀ w : Nat, w < 25 → 5 ≤ kmp (10 + w) ∧ kmp (10 + w) < 30 := by decide +kernel
theorem weq_iff {b : Int → Int} {p m : Int} {w : Nat} : wEq b p m w ↔ ((wl w : Int) = m ∧ ∀ i : Nat, i < wl w → ((sByt 0 (wo w + i) : Nat) : Int) = b (p + i)) := by
  constructor
  · rintro ⟨h1, h2⟩
    refine ⟨h1, fun i hi => ?_⟩
    have := (fnd_m1 _ _).mp h2 i (by omega)
    simpa using this
  · rintro ⟨h1, h2⟩
    refine ⟨h1, (fnd_m1 _ _).mpr (fun i hi => ?_)⟩
    have := h2 i (by omega)
    simpa using this
theorem teq_iff {b : Int → Int} {t p m : Int} : tEq b t p m ↔ ((sLen t : Int) = m ∧ ∀ i : Nat, i < sLen t → ((sByt t i : Nat) : Int) = b (p + i)) := by
  constructor
  · rintro ⟨h1, h2⟩
    refine ⟨h1, fun i hi => ?_⟩
    have := (fnd_m1 _ _).mp h2 i (by omega)
    simpa using this
  · rintro ⟨h1, h2⟩
    refine ⟨h1, (fnd_m1 _ _).mpr (fun i hi => ?_)⟩
    have := h2 i (by omega)
    simpa using this
theorem tw_iff {b : Int → Int} {p m : Int} {w : Nat} (hw : w < 25) : tEq b (kwd (kmp (10 + w))) p m ↔ wEq b p m w := by
  obtain ⟨h1, h2⟩ := kw_1 w hw
  rw [teq_iff, weq_iff, h1]
  constructor
  · rintro ⟨a, c⟩
    exact ⟨a, fun i hi => by rw [← h2 i hi]; exact c i hi⟩
  · rintro ⟨a, c⟩
    exact ⟨a, fun i hi => by rw [h2 i hi]; exact c i hi⟩
theorem weq_u {b : Int → Int} {p m : Int} {w w' : Nat} (hw : w < 25) (hw' : w' < 25) (h : wEq b p m w) (h' : wEq b p m w') : w = w' := by
  obtain ⟨a, c⟩ := weq_iff.mp h
  obtain ⟨a', c'⟩ := weq_iff.mp h'
  refine kw_4 w hw w' hw' (by omega) (fun i hi => ?_)
  have := c i hi
  have := c' i (by omega)
  omega
theorem cwr_eq (b : Int → Int) (p m : Int) (hm : 1 ≤ m) : cwr b p m = kmp (wrd b p m) := by
  unfold cwr wrd cwf wfn
  rcases fnd_spec (fun o => decide (tEq b (kwd o) p m)) 30 0 with ⟨h1, h2⟩ | ⟨o, h1, h2, h3, h4, h5⟩
  · have : fnd (fun w => decide (wEq b p m w)) 25 0 = -1 := (fnd_m1 _ _).mpr (fun w hw => by
      have k5 := kw_5 w hw
      have := h2 (kmp (10 + w)).toNat (by omega) (by omega)
      rw [show (((kmp (10 + (w : Int))).toNat : Nat) : Int) = kmp (10 + w) by omega] at this
      refine decide_eq_false (fun z => of_decide_eq_false this ((tw_iff hw).mpr z)))
    rw [h1, this, if_pos rfl, if_pos rfl]
    decide
  · have h4 := of_decide_eq_true h4
    have o5 : 5 ≤ o := by
      by_cases d : 5 ≤ o
      · exact d
      · have := kw_2 o (by omega)
        have := h4.1
        omega
    obtain ⟨k1, k2⟩ := kw_3 o (by omega) o5
    have hw : wEq b p m (kiL.getD o 0) := (tw_iff k1).mp (by rw [k2]; exact h4)
    rcases fnd_spec (fun w => decide (wEq b p m w)) 25 0 with ⟨g1, g2⟩ | ⟨w, g1, g2, g3, g4, g5⟩
    · exact absurd hw (of_decide_eq_false (g2 _ (by omega) (by omega)))
    · have := weq_u (by omega) k1 (of_decide_eq_true g4) hw
      rw [h1, g1, if_neg (by omega), if_neg (by omega), this, k2]
/-- the class's kind of the token at p -/
def cko (b : Int → Int) (n p : Int) : Int := if n ≤ p then 1 else if isLe (b p) then (if ru (pNm b) p - p ≤ 12 then cwr b p (ru (pNm b) p - p) else 0) else if isDi (b p) then (if isNp (b (ru (pDi b) p)) ∨ 65535 < cnv b p (ru (pDi b) p - p).toNat then 0 else 3) else if b p = 44 then 2 else 0
theorem cko_eq (b : Int → Int) (n p : Int) (hn : n ≤ 4000) (hb : ∀ k, n ≤ k → b k = 0) : cko b n p = kmp (tkK b n p) := by
  unfold cko tkK
  by_cases c0 : n ≤ p
  · rw [if_pos c0, if_pos c0]; decide
  rw [if_neg c0, if_neg c0]
  by_cases c1 : isLe (b p)
  · rw [if_pos c1, if_pos c1]
    have hu : p + 1 ≤ ru (pNm b) p := by
      rw [ru_t (nm_p hn hb) (nm_iff.mpr (Or.inl c1))]
      exact ru_up _ _
    by_cases c2 : ru (pNm b) p - p ≤ 12
    · rw [if_pos c2, if_pos c2]
      exact cwr_eq b p _ (by omega)
    · rw [if_neg c2, if_neg c2]; decide
  rw [if_neg c1, if_neg c1]
  by_cases c2 : isDi (b p)
  · rw [if_pos c2, if_pos c2]
    have he := ru_end (pDi b) (di_p hn hb) p
    have he : ¬ isDi (b (ru (pDi b) p)) := fun z => by rw [di_iff.mpr z] at he; cases he
    have hv := (cnv_b b p (ru (pDi b) p - p).toNat (fun j hj => di_iff.mp (ru_all (pDi b) _ p (p + j) (by omega) (by show p + (j : Int) < ru (pDi b) p; omega)))).2
    generalize cnv b p (ru (pDi b) p - p).toNat = x at hv ⊢
    generalize nvl b p (ru (pDi b) p - p).toNat = y at hv ⊢
    generalize b (ru (pDi b) p) = z at he ⊢
    by_cases c3 : y ≤ 65535 ∧ ¬ isLe z ∧ ¬ z = 95
    · rw [if_pos c3, if_neg]
      · decide
      · rw [if_pos c3.1] at hv
        rintro (h | h)
        · exact h.elim c3.2.1 (fun h => h.elim he c3.2.2)
        · omega
    · rw [if_neg c3, if_pos]
      · decide
      · by_cases d1 : isLe z
        · exact Or.inl (Or.inl d1)
        · by_cases d2 : z = 95
          · exact Or.inl (Or.inr (Or.inr d2))
          · right
            rw [hv, if_neg (fun h => c3 ⟨h, d1, d2⟩)]
            decide
  · rw [if_neg c2, if_neg c2]
    by_cases c3 : b p = 44
    · rw [if_pos c3, if_pos c3]; decide
    · rw [if_neg c3, if_neg c3]; decide
