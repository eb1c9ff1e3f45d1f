/-! ===== the reference's tokens: bounds ===== -/
theorem tkz_v (b : Int → Int) (n : Int) (t : Nat) : vdk (tkz b n t) := tkK_r b n (pos b n t)
theorem pos_0 {b : Int → Int} {n : Int} (hn : n ≤ 4000) (hb : ∀ k, n ≤ k → b k = 0) (t : Nat) : 0 ≤ pos b n t := by
  have h1 := pos_m hn hb 0 t
  have h2 := sk_up (b := b) (n := n) (4001 - 0 : Int).toNat 0
  have h3 : pos b n 0 = skF b n (4001 - 0 : Int).toNat 0 := rfl
  rw [show 0 + t = t by omega] at h1
  omega
theorem scan_tb {M : AMem} (hn : 0 ≤ (M 11 0 5) ∧ (M 11 0 5) ≤ 4000) (h : 0 ≤ lst (bya M) (M 11 0 5) ∧ lst (bya M) (M 11 0 5) ≤ 4000) : TB (sct M ((lst (bya M) (M 11 0 5)).toNat + 1)) := by
  have e := (sct_l M ((lst (bya M) (M 11 0 5)).toNat + 1)).2.1
  refine ⟨by rw [e]; omega, fun t a c => ?_⟩
  rw [e] at c
  obtain ⟨_, k2, k3, _⟩ := sct_t M ((lst (bya M) (M 11 0 5)).toNat + 1) t.toNat (by omega)
  rw [show ((t.toNat : Nat) : Int) = t by omega] at k2 k3
  rw [k2, k3]
  have p0 := pos_0 (b := bya M) hn.2 (bya_n M) t.toNat
  unfold tkP tkS
  by_cases q : (M 11 0 5) ≤ pos (bya M) (M 11 0 5) t.toNat
  · rw [if_pos q, if_pos q]; omega
  · rw [if_neg q, if_neg q]
    have u1 := tkE_up (bya M) (M 11 0 5) (pos (bya M) (M 11 0 5) t.toNat) hn.2 (bya_n M)
    have u2 := tkE_le (bya M) (M 11 0 5) (pos (bya M) (M 11 0 5) t.toNat) (by omega) (bya_n M)
    omega
