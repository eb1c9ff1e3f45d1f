/-! ===== one end ===== -/
theorem dok_99 {K : Nat → Int} {F i : Nat} (h : dok K F) (hi : F < i) : dst K i = 99 := dst_99 (i := F + 1) (dt_01 _ _ (Or.inl h.2)) i hi
theorem dok_u {K : Nat → Int} {F F' : Nat} (h : dok K F) (h' : dok K F') : F = F' := by
  by_cases a : F < F'
  · exact absurd (dok_99 h a) (dac_99 h'.1)
  · by_cases b : F' < F
    · exact absurd (dok_99 h' b) (dac_99 h.1)
    · omega
theorem dok_fl {K : Nat → Int} {F f : Nat} (h : dok K F) (h' : dfl K f) : False := by
  by_cases a : F < f
  · exact h'.1 (dok_99 h a)
  · by_cases b : f < F
    · have e : dst K (f + 1) = 99 := h'.2.1
      exact dac_99 h.1 (dst_99 e F b)
    · rw [show f = F by omega] at h'
      exact h'.2.2 ⟨h.2, h.1⟩
