/-! ===== things and their ITEMs ===== -/
section ITM3
variable {K : Nat → Int}
/-- every number of a sort is an ITEM's -/
theorem dnS_o (s : Int) : ∀ (F : Nat) (k : Int), (if s = 2 then 1 else 0) ≤ k → k < dnS K s F → ∃ j : Nat, j < F ∧ dit K j ∧ K j = s + 10 ∧ dnS K s j = k
  | 0, k, h, h' => by
    have e : dnS K s 0 = if s = 2 then 1 else 0 := rfl
    omega
  | F + 1, k, h, h' => by
    have e : dnS K s (F + 1) = dnS K s F + (if dit K F ∧ K F = s + 10 then 1 else 0) := rfl
    by_cases c : k < dnS K s F
    · obtain ⟨j, a, b⟩ := dnS_o s F k h c
      exact ⟨j, by omega, b⟩
    · by_cases d : dit K F ∧ K F = s + 10
      · rw [if_pos d] at e
        exact ⟨F, by omega, d.1, d.2, by omega⟩
      · rw [if_neg d] at e
        omega
theorem dnS_p (s : Int) : ∀ F : Nat, (if s = 2 then 1 else 0) ≤ dnS K s F
  | 0 => Int.le_refl _
  | F + 1 => by
    have e : dnS K s (F + 1) = dnS K s F + (if dit K F ∧ K F = s + 10 then 1 else 0) := rfl
    have ih := dnS_p s F
    have : (0 : Int) ≤ (if dit K F ∧ K F = s + 10 then 1 else 0) := by split <;> omega
    omega
/-- there are no more of a sort than may be -/
theorem dnS_l {F : Nat} {s : Int} (hs : 0 ≤ s ∧ s ≤ 6) (h : ∀ j : Nat, j < F → dit K j → kno K j < pmo (K j - 10)) : dnS K s F ≤ pmo s := by
  have p := dnS_p (K := K) s F
  have b : (if s = 2 then 1 else 0) ≤ pmo s ∧ 8 ≤ pmo s := by
    obtain e | e | e | e | e | e | e : s = 0 ∨ s = 1 ∨ s = 2 ∨ s = 3 ∨ s = 4 ∨ s = 5 ∨ s = 6 := by omega
    all_goals (subst e; decide)
  by_cases c : (if s = 2 then (1 : Int) else 0) ≤ dnS K s F - 1
  · obtain ⟨j, a1, a2, a3, a4⟩ := dnS_o (K := K) s F (dnS K s F - 1) c (by omega)
    have q := h j a1 a2
    unfold kno at q
    rw [show K j - 10 = s by omega, a4] at q
    omega
  · omega
theorem dnS_u {s : Int} {i j : Nat} (hi : dit K i) (hj : dit K j) (ei : K i = s + 10) (ej : K j = s + 10) (h : dnS K s i = dnS K s j) : i = j := by
  have st : ∀ {i j : Nat}, dit K i → K i = s + 10 → i < j → dnS K s i < dnS K s j := fun {i j} a b c => by
    have e : dnS K s (i + 1) = dnS K s i + (if dit K i ∧ K i = s + 10 then 1 else 0) := rfl
    rw [if_pos ⟨a, b⟩] at e
    have := dnS_m (K := K) s (i + 1) j (by omega)
    omega
  by_cases a : i < j
  · have := st hi ei a; omega
  · by_cases b : j < i
    · have := st hj ej b; omega
    · omega
end ITM3
