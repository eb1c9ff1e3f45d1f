/-! ===== the reference's tokens, for its walks ===== -/
theorem lst_s (b : Int → Int) (n : Int) (h : 0 ≤ lst b n) : (tkz b n (lst b n).toNat = 0 ∨ tkz b n (lst b n).toNat = 1) ∧ ∀ t : Nat, t < (lst b n).toNat → 2 ≤ tkz b n t := by
  have r : ∀ t : Nat, (0 ≤ tkz b n t ∧ tkz b n t ≤ 4) ∨ (10 ≤ tkz b n t ∧ tkz b n t ≤ 34) := fun t => tkK_r b n (pos b n t)
  rcases fnd_spec (fun j => decide (tkK b n (pos b n j) ≤ 1)) 4001 0 with q | ⟨i, q1, q2, q3, q4, q5⟩
  · have e : lst b n = -1 := q.1
    omega
  · have e : lst b n = i := q1
    have q4 : tkz b n i ≤ 1 := of_decide_eq_true q4
    rw [e, show ((i : Nat) : Int).toNat = i by omega]
    refine ⟨by have := r i; omega, fun t l => ?_⟩
    have z := q5 t (by omega) l
    rw [decide_eq_false_iff_not] at z
    have z : ¬ tkz b n t ≤ 1 := z
    omega
section LNK
variable {M : AMem} (h : 0 ≤ lst (bya M) (M 11 0 5) ∧ lst (bya M) (M 11 0 5) ≤ 4000)
theorem scan_rk (h : 0 ≤ lst (bya M) (M 11 0 5) ∧ lst (bya M) (M 11 0 5) ≤ 4000) : RK (sct M ((lst (bya M) (M 11 0 5)).toNat + 1)) (tkz (bya M) (M 11 0 5)) (lst (bya M) (M 11 0 5)).toNat := by
  refine ⟨by omega, ?_, fun i hi => (sct_t M _ i (by omega)).1, (lst_s _ _ h.1).1⟩
  rw [(sct_l M _).2.1]
  omega
theorem scan_pm (hn : 0 ≤ (M 11 0 5) ∧ (M 11 0 5) ≤ 4000) (h : 0 ≤ lst (bya M) (M 11 0 5) ∧ lst (bya M) (M 11 0 5) ≤ 4000) : PM (sct M ((lst (bya M) (M 11 0 5)).toNat + 1)) (lst (bya M) (M 11 0 5)).toNat := by
  intro a c a0 ac cT
  have ea := (sct_t M ((lst (bya M) (M 11 0 5)).toNat + 1) a.toNat (by omega)).2.1
  have ec := (sct_t M ((lst (bya M) (M 11 0 5)).toNat + 1) c.toNat (by omega)).2.1
  rw [show ((a.toNat : Nat) : Int) = a by omega] at ea
  rw [show ((c.toNat : Nat) : Int) = c by omega] at ec
  rw [ea, ec]
  have ka := (lst_s _ _ h.1).2 a.toNat (by omega)
  have la : pos (bya M) (M 11 0 5) a.toNat < (M 11 0 5) := by
    by_cases q : (M 11 0 5) ≤ pos (bya M) (M 11 0 5) a.toNat
    · have z : tkz (bya M) (M 11 0 5) a.toNat = 0 := by unfold tkz tkK; rw [if_pos q]
      omega
    · omega
  have g := pos_m hn.2 (bya_n M) a.toNat (c.toNat - a.toNat)
  rw [show a.toNat + (c.toNat - a.toNat) = c.toNat by omega] at g
  unfold tkP
  rw [if_neg (by omega)]
  split <;> omega
end LNK
