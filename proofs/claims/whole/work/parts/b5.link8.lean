/-! ===== ITEMs lie in the arrays ===== -/
theorem dit_2 {K : Nat → Int} {F j : Nat} (ok : dok K F) (hd : dit K j) (hj : j < F) : j + 2 ≤ F ∧ K (j + 1) = 2 := by
  have s1 := dit_s hd
  have l1 := hd.2.2
  have n1 : dac (dst K (j + 1)) = false := by
    rw [s1]
    obtain e | e | e | e | e | e | e : K j = 10 ∨ K j = 11 ∨ K j = 12 ∨ K j = 13 ∨ K j = 14 ∨ K j = 15 ∨ K j = 16 := by omega
    all_goals (rw [e]; rfl)
  have l2 := (ok_n ok (i := j + 1) rfl (by omega) n1).1
  refine ⟨by omega, ?_⟩
  by_cases c : K (j + 1) = 2
  · exact c
  · exact absurd (dit_1 hd c).2.1 (ok_n ok rfl (by omega) n1).2
theorem ib_of {M : AMem} {K : Nat → Int} {T F : Nat} (rk : RK M K T) (ga : GA M K F) (ok : dok K F) (n6 : dnI K F ≤ 666) : IB M ∧ ∀ x : Int, 0 ≤ x → x < (M 11 0 19) → pas M x → (M 1433667 0 (x)) + 2 < (M 11 0 10) := by
  have it := ga.it
  have hT : F ≤ T := dst_le rk.2.2.2 (dac_99 ok.1)
  have tk := rk.2.1
  refine ⟨⟨by omega, fun k a b => ?_⟩, fun k a b p => ?_⟩
  · obtain ⟨j, b1, b2, b3⟩ := dnI_o (K := K) F k.toNat (by omega)
    have q := dit_2 ok b2 b1
    have l := b2.2.2
    rw [show k = (dnI K j : Int) by omega, ga.na j b1 b2, ga.so j b1 b2]
    omega
  · obtain ⟨j, b1, b2, b3⟩ := dnI_o (K := K) F k.toNat (by omega)
    have q := dit_2 ok b2 b1
    have e1 : (M 1433667 0 (k)) = j + 1 := by rw [show k = (dnI K j : Int) by omega]; exact ga.na j b1 b2
    have e2 : (M 1433666 0 (k)) = K j - 10 := by rw [show k = (dnI K j : Int) by omega]; exact ga.so j b1 b2
    obtain ⟨_, p2, p3⟩ := p
    rw [e1, show (j : Int) + 1 + 1 = ((j + 2 : Nat) : Int) by omega, rk.2.2.1 (j + 2) (by omega)] at p3
    have k12 : K j = 12 := by omega
    have s2 : dst K (j + 2) = 8 := by rw [dit_dsb b2 q.2, k12]; rfl
    have l3 := dok_lt ok q.1 (by rw [p3]; decide)
    have s3 : dst K (j + 3) = 9 := by rw [show j + 3 = (j + 2) + 1 by omega, dst_s s2, p3]; rfl
    obtain ⟨g1, g2, g3⟩ := W_2 (w := 2) (s1 := 0) ok s3 l3 rfl rfl
    rw [e1]
    omega
