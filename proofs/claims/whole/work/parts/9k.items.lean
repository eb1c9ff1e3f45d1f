/-! ===== every ITEM has six bytes at least ===== -/
section ITEMS
variable {b : Int → Int} {n : Int}
theorem tk_le {p : Int} (h : 10 ≤ tkK b n p ∨ tkK b n p = 2) : p < n ∧ isLe (b p) := by
  unfold tkK at h
  by_cases c : n ≤ p
  · rw [if_pos c] at h; omega
  · rw [if_neg c] at h
    by_cases c2 : isLe (b p)
    · exact ⟨by omega, c2⟩
    · rw [if_neg c2] at h
      exfalso
      split at h
      · split at h <;> omega
      · split at h <;> omega
theorem tk_wl {p : Int} (h : 10 ≤ tkK b n p) : tkE b p = p + wl (tkK b n p - 10).toNat := by
  have h0 := tk_le (Or.inl h)
  have e1 : tkK b n p = if ru (pNm b) p - p ≤ 12 then wrd b p (ru (pNm b) p - p) else 1 := by
    unfold tkK; rw [if_neg (by omega), if_pos h0.2]
  have e2 : tkE b p = ru (pNm b) p := by unfold tkE; rw [if_pos h0.2]
  rw [e1] at h ⊢
  rw [e2]
  by_cases c : ru (pNm b) p - p ≤ 12
  · rw [if_pos c] at h ⊢
    unfold wrd at h ⊢
    by_cases d : wfn b p (ru (pNm b) p - p) = -1
    · rw [if_pos d] at h; omega
    · rw [if_neg d] at h ⊢
      rcases fnd_spec (fun w => decide (wEq b p (ru (pNm b) p - p) w)) 25 0 with u | ⟨w, u1, u2, u3, u4, u5⟩
      · exact absurd u.1 d
      · have v := (of_decide_eq_true u4).1
        have u1 : wfn b p (ru (pNm b) p - p) = w := u1
        rw [u1, show (10 + (w : Int) - 10).toNat = w by omega]
        omega
  · rw [if_neg c] at h; omega
/-- behind a word or name comes no letter at once -/
theorem tk_gap (hn : n ≤ 4000) (hb : ∀ k, n ≤ k → b k = 0) {p : Int} (h : isLe (b p)) (h' : isLe (b (sk b n (tkE b p)))) : tkE b p + 1 ≤ sk b n (tkE b p) := by
  have e2 : tkE b p = ru (pNm b) p := by unfold tkE; rw [if_pos h]
  have e3 := ru_end (pNm b) (nm_p hn hb) p
  rw [← e2] at e3
  have := sk_up (b := b) (n := n) (4001 - tkE b p).toNat (tkE b p)
  by_cases c : sk b n (tkE b p) = tkE b p
  · rw [c] at h'
    rw [nm_iff.mpr (Or.inl h')] at e3
    cases e3
  · unfold sk at c ⊢; omega
/-- the kinds of the tokens -/
def tkz (b : Int → Int) (n : Int) (j : Nat) : Int := tkK b n (pos b n j)
theorem pos_1 (hn : n ≤ 4000) (hb : ∀ k, n ≤ k → b k = 0) (j : Nat) : pos b n j + 1 ≤ pos b n (j + 1) := by
  have h1 := tkE_up b n (pos b n j) hn hb
  have h2 := sk_up (b := b) (n := n) (4001 - tkE b (pos b n j)).toNat (tkE b (pos b n j))
  show _ ≤ skF b n (4001 - tkE b (pos b n j)).toNat (tkE b (pos b n j))
  omega
theorem pos_m (hn : n ≤ 4000) (hb : ∀ k, n ≤ k → b k = 0) : ∀ i j : Nat, pos b n i + j ≤ pos b n (i + j)
  | i, 0 => by show pos b n i + 0 ≤ pos b n i; omega
  | i, j + 1 => by
    have h1 := pos_m hn hb i j
    have h2 := pos_1 hn hb (i + j)
    show pos b n i + ((j + 1 : Nat) : Int) ≤ pos b n ((i + j) + 1)
    omega
theorem pos_w {j : Nat} (h : 10 ≤ tkz b n j) : pos b n j + wl (tkz b n j - 10).toNat ≤ pos b n (j + 1) := by
  have h1 := tk_wl h
  have h2 := sk_up (b := b) (n := n) (4001 - tkE b (pos b n j)).toNat (tkE b (pos b n j))
  show _ ≤ skF b n (4001 - tkE b (pos b n j)).toNat (tkE b (pos b n j))
  unfold tkz
  omega
theorem pos_g (hn : n ≤ 4000) (hb : ∀ k, n ≤ k → b k = 0) {j : Nat} (h : 10 ≤ tkz b n j) (h' : tkz b n (j + 1) = 2) : pos b n j + wl (tkz b n j - 10).toNat + 1 ≤ pos b n (j + 1) := by
  have h1 := tk_wl h
  have h2 := tk_gap hn hb (tk_le (Or.inl h)).2 (tk_le (Or.inr h')).2
  show _ ≤ sk b n (tkE b (pos b n j))
  unfold tkz
  omega
theorem wl_t : ∀ w : Nat, w < 7 → 3 ≤ wl w ∧ (w ≠ 5 → 4 ≤ wl w) := by decide
theorem wl_13 : wl 13 = 5 := rfl
theorem pos_d (hn : n ≤ 4000) (hb : ∀ k, n ≤ k → b k = 0) {j j' : Nat} (h : dit (tkz b n) j) (h' : dit (tkz b n) j') (hj : j < j') : pos b n j + 6 ≤ pos b n j' := by
  have d1 := dit_s h
  have n99 : ∀ i : Nat, i ≤ j' → dst (tkz b n) i ≠ 99 := fun i hi e => by
    have := h'.1
    rw [dst_99 e j' hi] at this
    cases this
  have nac : ∀ i : Nat, i = j' → dac (dst (tkz b n) i) = true := fun i e => by rw [e]; exact h'.1
  obtain ⟨_, _, l1, l2⟩ := h
  obtain ⟨w, hw⟩ : ∃ w : Nat, tkz b n j = 10 + w := ⟨(tkz b n j - 10).toNat, by omega⟩
  have hw7 : w < 7 := by omega
  have s1 : dst (tkz b n) (j + 1) = w + 1 := by rw [d1]; omega
  have c1 : ¬ j + 1 = j' := fun e => by
    have z := nac (j + 1) e
    rw [s1] at z
    exact (show ∀ w : Nat, w < 7 → dac (w + 1) = true → False by decide) w hw7 z
  have k1 : tkz b n (j + 1) = 2 := by
    have e : dst (tkz b n) (j + 2) ≠ 99 := n99 _ (by omega)
    have e2 : dst (tkz b n) (j + 2) = dt (w + 1) (tkz b n (j + 1)) := dst_s s1
    rw [e2] at e
    match w, hw7 with
    | 0, _ | 1, _ | 2, _ | 3, _ | 4, _ | 5, _ | 6, _ =>
      by_cases d : tkz b n (j + 1) = 2
      · exact d
      · exact absurd (if_neg d) e
  have g := pos_g hn hb (j := j) (by omega) k1
  rw [hw, show (10 + (w : Int) - 10).toNat = w by omega] at g
  have g2 := pos_m hn hb (j + 1) (j' - (j + 1))
  rw [show j + 1 + (j' - (j + 1)) = j' by omega] at g2
  have t := wl_t w hw7
  by_cases c5 : w = 5
  · have s2 : dst (tkz b n) (j + 2) = 26 := by rw [show j + 2 = (j + 1) + 1 by omega, dst_s s1, k1, c5]; rfl
    have c2 : ¬ j + 2 = j' := fun e => by
      have := nac (j + 2) e
      rw [s2] at this
      cases this
    omega
  · have := t.2 c5
    omega
theorem dnI_6 (hn : n ≤ 4000) (hb : ∀ k, n ≤ k → b k = 0) : ∀ (N i : Nat), i < N → dit (tkz b n) i → 6 * (dnI (tkz b n) i : Int) ≤ pos b n i := by
  intro N
  induction N with
  | zero => intro i h; omega
  | succ N ih =>
    intro i hi h
    have p0 : 0 ≤ pos b n i := by
      have h1 := pos_m hn hb 0 i
      have h2 := sk_up (b := b) (n := n) (4001 - 0 : Int).toNat 0
      have h3 : pos b n 0 = skF b n (4001 - 0 : Int).toNat 0 := rfl
      rw [show 0 + i = i by omega] at h1
      omega
    by_cases c : dnI (tkz b n) i = 0
    · rw [c]; omega
    · obtain ⟨j, h1, h2, h3⟩ := dnI_o (K := tkz b n) i (dnI (tkz b n) i - 1) (by omega)
      have := ih j (by omega) h2
      have := pos_d hn hb h2 h h1
      omega
theorem dnI_b (hn : n ≤ 4000) (hb : ∀ k, n ≤ k → b k = 0) {i : Nat} (h : dit (tkz b n) i) : dnI (tkz b n) i < 667 := by
  have h1 := dnI_6 hn hb (i + 1) i (by omega) h
  have h2 := (tk_le (b := b) (n := n) (p := pos b n i) (Or.inl h.2.2.1)).1
  omega
end ITEMS
