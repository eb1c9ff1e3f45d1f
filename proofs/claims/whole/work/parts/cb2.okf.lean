theorem nl_own1 : ∀ g ∈ gAo, ∀ t : Nat, t < (gn g).toNat → nl[od g t]? = some (g, (t : Int)) := by decide +kernel
theorem nl_all1 : ∀ g ∈ [1, 2, 3, 4, 5, 6, 7, 8, 9, 10, 11], g ∈ gAo := by decide +kernel
theorem nl_all2 : ∀ g ∈ gOwn, g ∈ gAo := by decide +kernel
theorem nl_own {g : Nat} {t : Int} (h : isOwn g) (h0 : 0 ≤ t) (h1 : t < gn g) : nl[od g t]? = some (g, t) := by
  have hm : g ∈ gAo := by
    rcases h with h | h
    · exact nl_all1 g (isO_mem h)
    · exact nl_all2 g h
  have := nl_own1 g hm t.toNat (by omega)
  rw [Int.toNat_of_nonneg h0] at this
  exact this
theorem Lk_f {g : Nat} {t x : Int} : ∀ L : LW, Lk (L.filter fun q => decide (q.1 = g) && decide (q.2.1 = t)) g t x = Lk L g t x
  | [] => rfl
  | q :: L => by
    by_cases h : q.1 = g ∧ q.2.1 = t
    · rw [List.filter_cons_of_pos (by rw [Bool.and_eq_true]; exact ⟨decide_eq_true h.1, decide_eq_true h.2⟩)]
      unfold Lk
      rw [Lk_f L]
    · rw [List.filter_cons_of_neg (by rw [Bool.and_eq_true]; exact fun z => h ⟨of_decide_eq_true z.1, of_decide_eq_true z.2⟩), Lk_f L]
      conv => rhs; unfold Lk
      rw [if_neg (fun z => h ⟨z.1, z.2.1⟩)]
def lwf (g : Nat) (t : Int) : LW := lw2.filter fun q => decide (q.1 = g) && decide (q.2.1 = t)
theorem lwf_e (g : Nat) (t x : Int) : Lk (lwf g t) g t x = Lk lw2 g t x := Lk_f lw2
def okf (g : Nat) (t : Int) (k : Nat) : Bool := match oY g k with
  | .object _ => decide (Lk (lwf g t) g t k ≠ 0)
  | .array _ => decide (Lk (lwf g t) g t k ≠ 0)
  | _ => decide (Lk (lwf g t) g t k = M0 g t k)
set_option maxRecDepth 100000 in
theorem okf_1 : ∀ g ∈ [1, 2, 3, 4, 5, 6, 7, 11], ∀ k : Nat, k < oN g → okf g 0 k = true := by decide +kernel
set_option maxRecDepth 100000 in
theorem okf_8 : ∀ t : Nat, t < 65 → ∀ k : Nat, k < 15 → okf 8 t k = true := by decide +kernel
set_option maxRecDepth 100000 in
theorem okf_9 : ∀ t : Nat, t < 16 → ∀ k : Nat, k < 6 → okf 9 t k = true := by decide +kernel
set_option maxRecDepth 100000 in
theorem okf_10 : ∀ t : Nat, t < 48 → ∀ k : Nat, k < 9 → okf 10 t k = true := by decide +kernel
theorem okf_all {g k : Nat} {t : Int} (h : isO g) (h0 : 0 ≤ t) (h1 : t < gn g) (hk : k < oN g) : okf g t k = true := by
  obtain ⟨j, rfl⟩ : ∃ j : Nat, t = j := ⟨t.toNat, by omega⟩
  unfold isO at h
  have : g = 1 ∨ g = 2 ∨ g = 3 ∨ g = 4 ∨ g = 5 ∨ g = 6 ∨ g = 7 ∨ g = 11 ∨ g = 8 ∨ g = 9 ∨ g = 10 := by omega
  rcases this with rfl | rfl | rfl | rfl | rfl | rfl | rfl | rfl | rfl | rfl | rfl
  · rw [show j = 0 by have h1 : (j : Int) < 1 := h1; omega]; exact okf_1 1 (by decide) k hk
  · rw [show j = 0 by have h1 : (j : Int) < 1 := h1; omega]; exact okf_1 2 (by decide) k hk
  · rw [show j = 0 by have h1 : (j : Int) < 1 := h1; omega]; exact okf_1 3 (by decide) k hk
  · rw [show j = 0 by have h1 : (j : Int) < 1 := h1; omega]; exact okf_1 4 (by decide) k hk
  · rw [show j = 0 by have h1 : (j : Int) < 1 := h1; omega]; exact okf_1 5 (by decide) k hk
  · rw [show j = 0 by have h1 : (j : Int) < 1 := h1; omega]; exact okf_1 6 (by decide) k hk
  · rw [show j = 0 by have h1 : (j : Int) < 1 := h1; omega]; exact okf_1 7 (by decide) k hk
  · rw [show j = 0 by have h1 : (j : Int) < 1 := h1; omega]; exact okf_1 11 (by decide) k hk
  · exact okf_8 j (by have h1 : (j : Int) < 65 := h1; omega) k hk
  · exact okf_9 j (by have h1 : (j : Int) < 16 := h1; omega) k hk
  · exact okf_10 j (by have h1 : (j : Int) < 48 := h1; omega) k hk
theorem fvP_eq {E : EV} {g k : Nat} {t : Int} (h : okf g t k = true) : fvP E g k t (Lk lw2 g t k) = fval E g k t (M0 g t k) := by
  unfold okf at h
  rw [lwf_e] at h
  unfold fvP fval
  cases hq : oY g k <;> rw [hq] at h <;> first | (have h := of_decide_eq_true h; rw [h]; done) | exact if_neg (of_decide_eq_true h)
def oka (g : Nat) (t i : Int) : Bool := if gk g = 3 then decide ((aT g).2.1 = 1 ∧ Lk (lwf g t) g t i ≠ 0) else decide (Lk (lwf g t) g t i = M0 g t i)
set_option maxRecDepth 100000 in
theorem oka_1 : ∀ g ∈ wg2, gn g = 1 ∧ ∀ j : Nat, j < gl g → oka g 0 j = true := by decide +kernel
set_option maxRecDepth 100000 in
theorem wg_no : lw2.all (fun q => decide (q.1 ≤ 11) || wg2.contains q.1) = true := by decide +kernel
theorem wg_in : ∀ g ∈ [14370, 65579, 65582], g ∈ wg2 := by decide +kernel
theorem wg_m1 : ∀ g ∈ gOwn, gk g = 3 → (aT g).2.1 = 1 → g ∈ wg2 := by decide +kernel
theorem Lk_no {g : Nat} {t x : Int} : ∀ {L : LW}, (∀ q ∈ L, q.1 ≠ g) → Lk L g t x = MI g
  | [], _ => rfl
  | q :: L, h => by
    unfold Lk
    rw [if_neg (fun z => h q List.mem_cons_self z.1)]
    exact Lk_no (fun z hz => h z (List.mem_cons_of_mem _ hz))
theorem M0_own {g : Nat} {t x : Int} (h : 11 < g) (h1 : g ≠ 14370) (h2 : g ≠ 65579) (h3 : g ≠ 65582) (h4 : g % 256 < 120) : M0 g t x = MI g := by
  unfold M0 MI
  rw [if_neg (by omega), if_neg (by omega), if_neg (by omega), if_neg (by omega), if_neg (by omega), if_neg (by omega), if_neg h1, if_neg (by omega)]
  by_cases c : g = 8194837 ∨ g = 8194842
  · rw [if_pos c, if_pos c]
  · rw [if_neg c, if_neg c, if_neg (by omega)]
theorem avP_eq {E : EV} {g : Nat} {i x y : Int} (h3 : gk g = 3 → ((aT g).2.1 = 1 ∧ x ≠ 0) ∨ ((aT g).2.1 = 2 ∧ x = y)) (hn : gk g ≠ 3 → x = y) : avP E g i x = aval E g i y := by
  unfold avP aval
  by_cases k : gk g = 3
  · rw [k]
    show (if ((aT g).2.1 = 2 ∧ x < 0) ∨ ((aT g).2.1 = 1 ∧ x = 0) then Value.null else .ref (E.2.2.1 (aT g).1 ((aT g).2.2 + (if (aT g).2.1 = 1 then i else x)))) = (if (aT g).2.1 = 2 ∧ y < 0 then Value.null else .ref (E.2.2.1 (aT g).1 ((aT g).2.2 + (if (aT g).2.1 = 1 then i else y))))
    rcases h3 k with ⟨a, b⟩ | ⟨a, rfl⟩
    · have n1 : ¬ (((aT g).2.1 = 2 ∧ x < 0) ∨ ((aT g).2.1 = 1 ∧ x = 0)) := by
        rintro (z | z)
        · omega
        · exact b z.2
      have n2 : ¬ ((aT g).2.1 = 2 ∧ y < 0) := by omega
      rw [if_neg n1, if_neg n2, if_pos a, if_pos a]
    · by_cases c : x < 0
      · rw [if_pos (Or.inl ⟨a, c⟩), if_pos ⟨a, c⟩]
      · have n1 : ¬ (((aT g).2.1 = 2 ∧ x < 0) ∨ ((aT g).2.1 = 1 ∧ x = 0)) := by
          rintro (z | z)
          · exact c z.2
          · omega
        have n2 : ¬ ((aT g).2.1 = 2 ∧ x < 0) := fun z => c z.2
        rw [if_neg n1, if_neg n2]
  · rw [hn k]
    split
    · rename_i h
      rw [h]
      rfl
    · rename_i h; exact absurd h k
    · rename_i h2 h3
      split
      · rename_i h; exact (h2 h).elim
      · rename_i h; exact absurd h k
      · rfl
theorem repk_0 {E : EV} {s : State} {H : Heap} (hP : RepP E s H 300 lw2) (hE : ∀ (g : Nat) (t : Int), nl[od g t]? = some (g, t) → E.2.2.1 g t = E.2.2.2.1 + od g t) (hcon : ∀ (g : Nat) (t : Int), g ∈ gCon → 0 ≤ t → t < gn g → ArrK (g ∈ gOwn) s H (E.2.2.1 g t) (aY g) (gl g) (fun j => aval E g j (M0 g t j))) : RepK E s H M0 := by
  refine ⟨fun g t hg h0 h1 => ?_, fun g t hg h0 h1 => ?_⟩
  · have hn := nl_own (Or.inl hg) h0 h1
    have hc := (hP.2 _ g t (nl_lt hn) hn).1 hg
    unfold ObjK
    rw [hE g t hn]
    exact hc.to (fun k hk => fvP_eq (okf_all hg h0 h1 hk))
  · rcases hg with hg | hg
    · have hn := nl_own (Or.inr hg) h0 h1
      have hc := (hP.2 _ g t (nl_lt hn) hn).2 (Or.inl hg)
      rw [hE g t hn]
      obtain ⟨cell, q1, q2, q3, q4, q5, q6⟩ := hc
      refine ⟨cell, q1, q2, q3, q4, q5, fun j hj => ?_⟩
      rw [q6 j hj]
      congr 1
      have hdi := tb_di g hg
      by_cases hw : g ∈ wg2
      · obtain ⟨g1, ga⟩ := oka_1 g hw
        rw [g1] at h1
        have ht : t = 0 := by omega
        subst ht
        have := ga j hj
        unfold oka at this
        rw [lwf_e] at this
        show avP E g (j : Int) (Lk lw2 g 0 (j : Int)) = aval E g (j : Int) (M0 g 0 (j : Int))
        refine avP_eq (fun k => ?_) (fun k => ?_)
        · rw [if_pos k] at this
          exact Or.inl (of_decide_eq_true this)
        · rw [if_neg k] at this
          exact of_decide_eq_true this
      · have hL : Lk lw2 g t j = MI g := Lk_no (fun q hq e => by
          have := List.all_eq_true.mp wg_no q hq
          rw [Bool.or_eq_true] at this
          rcases this with z | z
          · have := of_decide_eq_true z
            omega
          · rw [e] at z
            exact hw (by simpa using z))
        have hM : M0 g t j = MI g := M0_own hdi.2.2.2.2.1 (fun e => hw (wg_in _ (by rw [e]; decide))) (fun e => hw (wg_in _ (by rw [e]; decide))) (fun e => hw (wg_in _ (by rw [e]; decide))) (tb_own g hg)
        show avP E g (j : Int) (Lk lw2 g t (j : Int)) = aval E g (j : Int) (M0 g t (j : Int))
        rw [hL, hM]
        refine avP_eq (fun k => ?_) (fun _ => rfl)
        rcases hdi.1 k with ⟨a, b⟩ | ⟨a, b⟩
        · exact (hw (wg_m1 g hg k a)).elim
        · exact Or.inr ⟨a, rfl⟩
    · exact hcon g t hg h0 h1
