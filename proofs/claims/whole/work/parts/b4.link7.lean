/-! ===== names on both sides ===== -/
theorem name_e {b : Int → Int} {n p : Int} (h : tkK b n p = 2) : ¬ n ≤ p ∧ isLe (b p) ∧ ru (pNm b) p - p ≤ 12 ∧ tkE b p = ru (pNm b) p ∧ tkS b n p = ru (pNm b) p - p := by
  have h0 := tk_le (Or.inr h)
  have c0 : ¬ n ≤ p := by omega
  have e : tkE b p = ru (pNm b) p := by unfold tkE; rw [if_pos h0.2]
  refine ⟨c0, h0.2, ?_, e, by unfold tkS; rw [if_neg c0, e]⟩
  by_cases c : ru (pNm b) p - p ≤ 12
  · exact c
  · unfold tkK at h
    rw [if_neg c0, if_pos h0.2, if_neg c] at h
    exact absurd h (by decide)
/-- a name's bytes are name parts -/
theorem name_p {b : Int → Int} {p k : Int} (h1 : p ≤ k) (h2 : k < ru (pNm b) p) : isNp (b k) := nm_iff.mp (ru_all (pNm b) _ p k h1 h2)
