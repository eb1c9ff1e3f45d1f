/-! ===== where states come from (by program: wip/whole/gen/mka7.py) ===== -/
theorem d3_e (k : Int) : (k = 32 ∧ d3 k = 18) ∨ (k = 33 ∧ d3 k = 19) ∨ (k = 29 ∧ d3 k = 20) ∨ (k = 24 ∧ d3 k = 22) ∨ (k = 34 ∧ d3 k = 24) ∨ (d3 k = d0 k ∧ ¬ k = 32 ∧ ¬ k = 33 ∧ ¬ k = 29 ∧ ¬ k = 24 ∧ ¬ k = 34) := by
  unfold d3
  by_cases a : k = 32
  · rw [if_pos a]; omega
  by_cases b : k = 33
  · rw [if_neg a, if_pos b]; omega
  by_cases c : k = 29
  · rw [if_neg a, if_neg b, if_pos c]; omega
  by_cases d : k = 24
  · rw [if_neg a, if_neg b, if_neg c, if_pos d]; omega
  by_cases e : k = 34
  · rw [if_neg a, if_neg b, if_neg c, if_neg d, if_pos e]; omega
  rw [if_neg a, if_neg b, if_neg c, if_neg d, if_neg e]
  omega
theorem d0_e (k : Int) : (d0 k = 99 ∧ ¬ (10 ≤ k ∧ k ≤ 16)) ∨ ((d0 k : Int) = k - 9 ∧ 10 ≤ k ∧ k ≤ 16) := by
  unfold d0
  split
  · right; omega
  · left; omega
theorem dp_8 (s : Nat) (k : Int) (h : dt s k = 8) : s = 3 ∧ k = 2 := by
  have h0 := d0_e k
  have h3 := d3_e k
  unfold dt at h
  split at h <;> first | omega | (unfold dw at h; split at h <;> omega) | ((repeat' split at h) <;> omega)
theorem dp_9 (s : Nat) (k : Int) (h : dt s k = 9) : s = 8 ∧ k = 18 := by
  have h0 := d0_e k
  have h3 := d3_e k
  unfold dt at h
  split at h <;> first | omega | (unfold dw at h; split at h <;> omega) | ((repeat' split at h) <;> omega)
theorem dp_10 (s : Nat) (k : Int) (h : dt s k = 10) : s = 4 ∧ k = 2 := by
  have h0 := d0_e k
  have h3 := d3_e k
  unfold dt at h
  split at h <;> first | omega | (unfold dw at h; split at h <;> omega) | ((repeat' split at h) <;> omega)
theorem dp_11 (s : Nat) (k : Int) (h : dt s k = 11) : s = 10 ∧ k = 19 := by
  have h0 := d0_e k
  have h3 := d3_e k
  unfold dt at h
  split at h <;> first | omega | (unfold dw at h; split at h <;> omega) | ((repeat' split at h) <;> omega)
theorem dp_12 (s : Nat) (k : Int) (h : dt s k = 12) : s = 11 ∧ k = 3 := by
  have h0 := d0_e k
  have h3 := d3_e k
  unfold dt at h
  split at h <;> first | omega | (unfold dw at h; split at h <;> omega) | ((repeat' split at h) <;> omega)
theorem dp_13 (s : Nat) (k : Int) (h : dt s k = 13) : s = 12 ∧ k = 20 := by
  have h0 := d0_e k
  have h3 := d3_e k
  unfold dt at h
  split at h <;> first | omega | (unfold dw at h; split at h <;> omega) | ((repeat' split at h) <;> omega)
theorem dp_14 (s : Nat) (k : Int) (h : dt s k = 14) : s = 13 ∧ k = 3 := by
  have h0 := d0_e k
  have h3 := d3_e k
  unfold dt at h
  split at h <;> first | omega | (unfold dw at h; split at h <;> omega) | ((repeat' split at h) <;> omega)
theorem dp_15 (s : Nat) (k : Int) (h : dt s k = 15) : s = 14 ∧ k = 21 := by
  have h0 := d0_e k
  have h3 := d3_e k
  unfold dt at h
  split at h <;> first | omega | (unfold dw at h; split at h <;> omega) | ((repeat' split at h) <;> omega)
theorem dp_16 (s : Nat) (k : Int) (h : dt s k = 16) : s = 5 ∧ k = 2 := by
  have h0 := d0_e k
  have h3 := d3_e k
  unfold dt at h
  split at h <;> first | omega | (unfold dw at h; split at h <;> omega) | ((repeat' split at h) <;> omega)
theorem dp_17 (s : Nat) (k : Int) (h : dt s k = 17) : s = 16 ∧ k = 22 := by
  have h0 := d0_e k
  have h3 := d3_e k
  unfold dt at h
  split at h <;> first | omega | (unfold dw at h; split at h <;> omega) | ((repeat' split at h) <;> omega)
theorem dp_19 (s : Nat) (k : Int) (h : dt s k = 19) : (s = 18 ∨ s = 21 ∨ s = 23 ∨ s = 25) ∧ k = 33 := by
  have h0 := d0_e k
  have h3 := d3_e k
  unfold dt at h
  split at h <;> first | omega | (unfold dw at h; split at h <;> omega) | ((repeat' split at h) <;> omega)
theorem dp_20 (s : Nat) (k : Int) (h : dt s k = 20) : ((s = 18 ∨ s = 21 ∨ s = 23 ∨ s = 25) ∧ k = 29) ∨ (s = 21 ∧ k = 4) := by
  have h0 := d0_e k
  have h3 := d3_e k
  unfold dt at h
  split at h <;> first | omega | (unfold dw at h; split at h <;> omega) | ((repeat' split at h) <;> omega)
theorem dp_21 (s : Nat) (k : Int) (h : dt s k = 21) : s = 20 ∧ k = 2 := by
  have h0 := d0_e k
  have h3 := d3_e k
  unfold dt at h
  split at h <;> first | omega | (unfold dw at h; split at h <;> omega) | ((repeat' split at h) <;> omega)
theorem dp_22 (s : Nat) (k : Int) (h : dt s k = 22) : ((s = 18 ∨ s = 21 ∨ s = 23 ∨ s = 25) ∧ k = 24) ∨ (s = 23 ∧ k = 4) := by
  have h0 := d0_e k
  have h3 := d3_e k
  unfold dt at h
  split at h <;> first | omega | (unfold dw at h; split at h <;> omega) | ((repeat' split at h) <;> omega)
theorem dp_23 (s : Nat) (k : Int) (h : dt s k = 23) : s = 22 ∧ k = 2 := by
  have h0 := d0_e k
  have h3 := d3_e k
  unfold dt at h
  split at h <;> first | omega | (unfold dw at h; split at h <;> omega) | ((repeat' split at h) <;> omega)
theorem dp_24 (s : Nat) (k : Int) (h : dt s k = 24) : ((s = 18 ∨ s = 21 ∨ s = 23 ∨ s = 25) ∧ k = 34) ∨ (s = 25 ∧ k = 4) := by
  have h0 := d0_e k
  have h3 := d3_e k
  unfold dt at h
  split at h <;> first | omega | (unfold dw at h; split at h <;> omega) | ((repeat' split at h) <;> omega)
theorem dp_25 (s : Nat) (k : Int) (h : dt s k = 25) : s = 24 ∧ k = 2 := by
  have h0 := d0_e k
  have h3 := d3_e k
  unfold dt at h
  split at h <;> first | omega | (unfold dw at h; split at h <;> omega) | ((repeat' split at h) <;> omega)
theorem dp_26 (s : Nat) (k : Int) (h : dt s k = 26) : s = 6 ∧ k = 2 := by
  have h0 := d0_e k
  have h3 := d3_e k
  unfold dt at h
  split at h <;> first | omega | (unfold dw at h; split at h <;> omega) | ((repeat' split at h) <;> omega)
theorem dp_27 (s : Nat) (k : Int) (h : dt s k = 27) : s = 26 ∧ k = 23 := by
  have h0 := d0_e k
  have h3 := d3_e k
  unfold dt at h
  split at h <;> first | omega | (unfold dw at h; split at h <;> omega) | ((repeat' split at h) <;> omega)
theorem dp_29 (s : Nat) (k : Int) (h : dt s k = 29) : (s = 28 ∧ k = 24) ∨ (s = 30 ∧ k = 4) := by
  have h0 := d0_e k
  have h3 := d3_e k
  unfold dt at h
  split at h <;> first | omega | (unfold dw at h; split at h <;> omega) | ((repeat' split at h) <;> omega)
theorem dp_30 (s : Nat) (k : Int) (h : dt s k = 30) : s = 29 ∧ k = 2 := by
  have h0 := d0_e k
  have h3 := d3_e k
  unfold dt at h
  split at h <;> first | omega | (unfold dw at h; split at h <;> omega) | ((repeat' split at h) <;> omega)
theorem dp_31 (s : Nat) (k : Int) (h : dt s k = 31) : s = 7 ∧ k = 2 := by
  have h0 := d0_e k
  have h3 := d3_e k
  unfold dt at h
  split at h <;> first | omega | (unfold dw at h; split at h <;> omega) | ((repeat' split at h) <;> omega)
theorem dp_32 (s : Nat) (k : Int) (h : dt s k = 32) : s = 31 ∧ k = 25 := by
  have h0 := d0_e k
  have h3 := d3_e k
  unfold dt at h
  split at h <;> first | omega | (unfold dw at h; split at h <;> omega) | ((repeat' split at h) <;> omega)
theorem dp_33 (s : Nat) (k : Int) (h : dt s k = 33) : s = 32 ∧ k = 2 := by
  have h0 := d0_e k
  have h3 := d3_e k
  unfold dt at h
  split at h <;> first | omega | (unfold dw at h; split at h <;> omega) | ((repeat' split at h) <;> omega)
theorem dp_34 (s : Nat) (k : Int) (h : dt s k = 34) : s = 33 ∧ k = 26 := by
  have h0 := d0_e k
  have h3 := d3_e k
  unfold dt at h
  split at h <;> first | omega | (unfold dw at h; split at h <;> omega) | ((repeat' split at h) <;> omega)
theorem dp_35 (s : Nat) (k : Int) (h : dt s k = 35) : s = 33 ∧ k = 27 := by
  have h0 := d0_e k
  have h3 := d3_e k
  unfold dt at h
  split at h <;> first | omega | (unfold dw at h; split at h <;> omega) | ((repeat' split at h) <;> omega)
theorem dp_36 (s : Nat) (k : Int) (h : dt s k = 36) : s = 35 ∧ k = 2 := by
  have h0 := d0_e k
  have h3 := d3_e k
  unfold dt at h
  split at h <;> first | omega | (unfold dw at h; split at h <;> omega) | ((repeat' split at h) <;> omega)
theorem dp_38 (s : Nat) (k : Int) (h : dt s k = 38) : (s = 37 ∧ k = 29) ∨ (s = 39 ∧ k = 4) := by
  have h0 := d0_e k
  have h3 := d3_e k
  unfold dt at h
  split at h <;> first | omega | (unfold dw at h; split at h <;> omega) | ((repeat' split at h) <;> omega)
theorem dp_39 (s : Nat) (k : Int) (h : dt s k = 39) : s = 38 ∧ k = 2 := by
  have h0 := d0_e k
  have h3 := d3_e k
  unfold dt at h
  split at h <;> first | omega | (unfold dw at h; split at h <;> omega) | ((repeat' split at h) <;> omega)
theorem dp_40 (s : Nat) (k : Int) (h : dt s k = 40) : s = 39 ∧ k = 30 := by
  have h0 := d0_e k
  have h3 := d3_e k
  unfold dt at h
  split at h <;> first | omega | (unfold dw at h; split at h <;> omega) | ((repeat' split at h) <;> omega)
theorem dp_41 (s : Nat) (k : Int) (h : dt s k = 41) : s = 40 ∧ k = 3 := by
  have h0 := d0_e k
  have h3 := d3_e k
  unfold dt at h
  split at h <;> first | omega | (unfold dw at h; split at h <;> omega) | ((repeat' split at h) <;> omega)
theorem dp_42 (s : Nat) (k : Int) (h : dt s k = 42) : s = 41 ∧ k = 31 := by
  have h0 := d0_e k
  have h3 := d3_e k
  unfold dt at h
  split at h <;> first | omega | (unfold dw at h; split at h <;> omega) | ((repeat' split at h) <;> omega)
theorem dp_37 (s : Nat) (k : Int) (h : dt s k = 37) : (s = 34 ∧ k = 2) ∨ (s = 36 ∧ k = 2) ∨ (s = 33 ∧ k = 28) := by
  have h0 := d0_e k
  have h3 := d3_e k
  unfold dt at h
  split at h <;> first | omega | (unfold dw at h; split at h <;> omega) | ((repeat' split at h) <;> omega)
theorem dr_1 (s : Nat) (k : Int) (h : dro s k = 1) : 1 ≤ s ∧ s ≤ 7 := by
  unfold dro at h
  split at h <;> first | omega | (split at h <;> omega)
theorem dr_2 (s : Nat) (k : Int) (h : dro s k = 2) : (s = 18 ∨ s = 21 ∨ s = 23 ∨ s = 25) ∧ (k = 32 ∨ k = 33 ∨ k = 29 ∨ k = 24 ∨ k = 34) := by
  unfold dro at h
  split at h <;> first | omega | (split at h <;> omega)
theorem dr_3 (s : Nat) (k : Int) (h : dro s k = 3) : s = 9 := by
  unfold dro at h
  split at h <;> first | omega | (split at h <;> omega)
theorem dr_4 (s : Nat) (k : Int) (h : dro s k = 4) : s = 22 ∨ s = 29 := by
  unfold dro at h
  split at h <;> first | omega | (split at h <;> omega)
theorem dr_5 (s : Nat) (k : Int) (h : dro s k = 5) : s = 32 := by
  unfold dro at h
  split at h <;> first | omega | (split at h <;> omega)
theorem dr_6 (s : Nat) (k : Int) (h : dro s k = 6) : s = 34 := by
  unfold dro at h
  split at h <;> first | omega | (split at h <;> omega)
theorem dr_7 (s : Nat) (k : Int) (h : dro s k = 7) : s = 35 := by
  unfold dro at h
  split at h <;> first | omega | (split at h <;> omega)
theorem dr_8 (s : Nat) (k : Int) (h : dro s k = 8) : s = 36 := by
  unfold dro at h
  split at h <;> first | omega | (split at h <;> omega)
theorem dr_9 (s : Nat) (k : Int) (h : dro s k = 9) : s = 24 := by
  unfold dro at h
  split at h <;> first | omega | (split at h <;> omega)
theorem dr_10 (s : Nat) (k : Int) (h : dro s k = 10) : s = 20 ∨ s = 38 := by
  unfold dro at h
  split at h <;> first | omega | (split at h <;> omega)
theorem dr_11 (s : Nat) (k : Int) (h : dro s k = 11) : s = 17 := by
  unfold dro at h
  split at h <;> first | omega | (split at h <;> omega)
theorem dr_12 (s : Nat) (k : Int) (h : dro s k = 12) : s = 19 := by
  unfold dro at h
  split at h <;> first | omega | (split at h <;> omega)
theorem dr_13 (s : Nat) (k : Int) (h : dro s k = 13) : s = 11 := by
  unfold dro at h
  split at h <;> first | omega | (split at h <;> omega)
theorem dr_14 (s : Nat) (k : Int) (h : dro s k = 14) : s = 13 := by
  unfold dro at h
  split at h <;> first | omega | (split at h <;> omega)
theorem dr_15 (s : Nat) (k : Int) (h : dro s k = 15) : s = 15 := by
  unfold dro at h
  split at h <;> first | omega | (split at h <;> omega)
theorem dr_16 (s : Nat) (k : Int) (h : dro s k = 16) : s = 27 := by
  unfold dro at h
  split at h <;> first | omega | (split at h <;> omega)
theorem dr_17 (s : Nat) (k : Int) (h : dro s k = 17) : s = 40 := by
  unfold dro at h
  split at h <;> first | omega | (split at h <;> omega)
theorem dr_18 (s : Nat) (k : Int) (h : dro s k = 18) : s = 42 := by
  unfold dro at h
  split at h <;> first | omega | (split at h <;> omega)
theorem dp_it (s : Nat) (k : Int) (x : Nat) (hx : 1 ≤ x ∧ x ≤ 7) (h : dt s k = x) : dac s = true ∧ dt s k = d0 k ∧ k = (x : Int) + 9 ∧ 10 ≤ k ∧ k ≤ 16 := by
  have h0 := d0_e k
  have h3 := d3_e k
  have key : (dt s k = d0 k → k = (x : Int) + 9 ∧ 10 ≤ k ∧ k ≤ 16) := fun e => by rw [e] at h; omega
  have k1 : 10 ≤ k ∧ k ≤ 16 := by
    unfold dt at h
    split at h <;> first | omega | (unfold dw at h; split at h <;> omega) | ((repeat' split at h) <;> omega)
  have h9 : dt s k ≠ 99 := by rw [h]; omega
  have z := dt_it s k k1 h9
  exact ⟨z.1, z.2, (key z.2).1, k1⟩
section STR
variable {K : Nat → Int} {F : Nat}
theorem st_p {t x : Nat} (h : dst K t = x) (hx : x ≠ 0) : ∃ u : Nat, t = u + 1 ∧ dt (dst K u) (K u) = x := by
  cases t with
  | zero => exact absurd h.symm hx
  | succ u => exact ⟨u, rfl, h⟩
theorem st_it {t x : Nat} (h : dst K t = x) (hx : 1 ≤ x ∧ x ≤ 7) : ∃ j : Nat, t = j + 1 ∧ dit K j ∧ K j = (x : Int) + 9 := by
  obtain ⟨u, e, q⟩ := st_p h (by omega)
  obtain ⟨a, b, c, d⟩ := dp_it _ _ x hx q
  exact ⟨u, e, ⟨a, b, d⟩, c⟩
/-- the ITEM of a token -/
theorem own_ex (ok : dok K F) : ∀ u : Nat, u < F → ∃ j : Nat, dit K j ∧ j ≤ u ∧ nd K (j + 1) (u + 1) ∧ itf K u = dnI K j := by
  intro u
  induction u with
  | zero =>
    intro h
    have n9 := ok_9 (i := 1) ok (by omega)
    have c : 10 ≤ K 0 ∧ K 0 ≤ 16 := by
      have e : dst K 1 = d0 (K 0) := rfl
      have := d0_e (K 0)
      omega
    have hd : dit K 0 := ⟨rfl, rfl, c⟩
    refine ⟨0, hd, by omega, nd_0 _ _, ?_⟩
    unfold itf
    have := dnI_i hd
    omega
  | succ u ih =>
    intro h
    by_cases c : 10 ≤ K (u + 1) ∧ K (u + 1) ≤ 16
    · have n9 := ok_9 (i := u + 1 + 1) ok (by omega)
      have z := dt_it _ _ c n9
      have hd : dit K (u + 1) := ⟨z.1, z.2, c⟩
      refine ⟨u + 1, hd, by omega, nd_0 _ _, ?_⟩
      unfold itf
      have := dnI_i hd
      omega
    · obtain ⟨j, h1, h2, h3, h4⟩ := ih (by omega)
      exact ⟨j, h1, by omega, nd_1 h3 rfl (by omega), itf_d h1 h3 c⟩
theorem own_u {j j' u : Nat} (hd : dit K j) (hd' : dit K j') (h : j ≤ u) (h' : j' ≤ u) (hn : nd K (j + 1) (u + 1)) (hn' : nd K (j' + 1) (u + 1)) : j = j' := by
  by_cases a : j < j'
  · exact absurd hd' (nd_d hn (by omega) (by omega))
  · by_cases b : j' < j
    · exact absurd hd (nd_d hn' (by omega) (by omega))
    · omega
end STR
