/-! ===== numbers on both sides ===== -/
theorem num_e {b : Int → Int} {n p : Int} (h : tkK b n p = 3) : (¬ n ≤ p ∧ ¬ isLe (b p) ∧ isDi (b p)) ∧ tkV b n p = cnv b p (ru (pDi b) p - p).toNat ∧ 0 ≤ tkV b n p ∧ tkV b n p ≤ 65535 := by
  have c0 : ¬ n ≤ p := fun c => by unfold tkK at h; rw [if_pos c] at h; exact absurd h (by decide)
  have c1 : ¬ isLe (b p) := fun c => by
    unfold tkK at h
    rw [if_neg c0, if_pos c] at h
    by_cases d : ru (pNm b) p - p ≤ 12
    · rw [if_pos d] at h
      unfold wrd at h
      by_cases e : wfn b p (ru (pNm b) p - p) = -1
      · rw [if_pos e] at h; exact absurd h (by decide)
      · rw [if_neg e] at h
        have r := fnd_rng (fun w => decide (wEq b p (ru (pNm b) p - p) w)) 25 0
        have r : wfn b p (ru (pNm b) p - p) = -1 ∨ (((0 : Nat) : Int) ≤ wfn b p (ru (pNm b) p - p) ∧ wfn b p (ru (pNm b) p - p) < ((0 : Nat) : Int) + ((25 : Nat) : Int)) := r
        omega
    · rw [if_neg d] at h; exact absurd h (by decide)
  have c2 : isDi (b p) := by
    by_cases c : isDi (b p)
    · exact c
    · exfalso
      unfold tkK at h
      rw [if_neg c0, if_neg c1, if_neg c] at h
      split at h <;> exact absurd h (by decide)
  have c3 : nvl b p (ru (pDi b) p - p).toNat ≤ 65535 := by
    unfold tkK at h
    rw [if_neg c0, if_neg c1, if_pos c2] at h
    by_cases c : nvl b p (ru (pDi b) p - p).toNat ≤ 65535 ∧ ¬ isLe (b (ru (pDi b) p)) ∧ ¬ b (ru (pDi b) p) = 95
    · exact c.1
    · rw [if_neg c] at h; exact absurd h (by decide)
  have dig : ∀ j : Nat, j < (ru (pDi b) p - p).toNat → isDi (b (p + j)) := fun j hj => di_iff.mp (ru_all (pDi b) _ p (p + j) (by omega) (by show p + (j : Int) < ru (pDi b) p; omega))
  have q := (cnv_b b p (ru (pDi b) p - p).toNat dig).2
  rw [if_pos c3] at q
  have r := nvl_b b p (ru (pDi b) p - p).toNat dig
  have v : tkV b n p = nvl b p (ru (pDi b) p - p).toNat := by unfold tkV; rw [if_neg c0, if_neg c1, if_pos c2]
  exact ⟨⟨c0, c1, c2⟩, by rw [v, q], by rw [v]; exact r.1, by rw [v]; exact c3⟩
