/-! ===== the class's Plan: fill, up to the groups ===== -/
/-- what an ITEM's thing has -/
def fcl (s k : Int) (g : Nat) (t x : Int) : Prop := ((g = 98852 ∨ g = 98854) ∧ t = s ∧ x = k) ∨ (s = 2 ∧ (g = 65837 ∨ g = 65582) ∧ t = 0 ∧ x = k) ∨ (s = 3 ∧ g = 9 ∧ t = k ∧ 0 ≤ x ∧ x ≤ 4) ∨ (s = 4 ∧ g = 8 ∧ t = k ∧ 0 ≤ x ∧ x ≤ 6) ∨ (s = 5 ∧ g = 8 ∧ t = 48 + k ∧ (x = 0 ∨ x = 5)) ∨ (s = 6 ∧ g = 10 ∧ t = k ∧ 0 ≤ x ∧ x ≤ 5)
theorem mu_o {M : AMem} {g g' : Nat} {t t' i i' v : Int} (h : ¬ (g' = g ∧ t' = t ∧ i' = i)) : mup M g t i v g' t' i' = M g' t' i' := mup_other h
section FILL4
variable {Y Z : AMem} {K : Nat → Int} {T F : Nat} {m s k b : Int}
theorem nfl_o {g : Nat} {t x : Int} (h : ¬ ((g = 98852 ∨ g = 98854) ∧ t = s ∧ x = k)) : nfl Y m s k Z g t x = Z g t x := by
  unfold nfl
  rw [mu_o (fun q => h ⟨Or.inr q.1, q.2⟩), mu_o (fun q => h ⟨Or.inl q.1, q.2⟩)]
/-- a write: the same value over any memory, or both memories through -/
theorem mu_cg {M1 M2 : AMem} {g g' : Nat} {t t' i i' v : Int} (h : ¬ (g' = g ∧ t' = t ∧ i' = i) → M1 g' t' i' = M2 g' t' i') : mup M1 g t i v g' t' i' = mup M2 g t i v g' t' i' := by
  unfold mup
  by_cases c : g' = g ∧ t' = t ∧ i' = i
  · rw [if_pos c, if_pos c]
  · rw [if_neg c, if_neg c]; exact h c
theorem nfl_i (Z1 Z2 : AMem) {g : Nat} {t x : Int} (h : (g = 98852 ∨ g = 98854) ∧ t = s ∧ x = k) : nfl Y m s k Z1 g t x = nfl Y m s k Z2 g t x := by
  obtain ⟨h1, rfl, rfl⟩ := h
  unfold nfl
  rcases h1 with rfl | rfl
  · exact mu_cg fun _ => mu_cg fun q => absurd ⟨rfl, rfl, rfl⟩ q
  · exact mu_cg fun q => absurd ⟨rfl, rfl, rfl⟩ q
theorem fcl_0 {g : Nat} {t x : Int} (h : ¬ fcl s k g t x) : ¬ ((g = 98852 ∨ g = 98854) ∧ t = s ∧ x = k) := fun z => h (Or.inl z)
theorem fth_o {g : Nat} {t x : Int} (h : ¬ fcl s k g t x) : fth Y K m s k b Z g t x = Z g t x := by
  have n0 : nfl Y m s k Z g t x = Z g t x := nfl_o (fcl_0 h)
  unfold fth
  by_cases c2 : s = 2
  · rw [if_pos c2]
    rw [mu_o (fun q => h (Or.inr (Or.inl ⟨c2, Or.inr q.1, q.2⟩))), mu_o (fun q => h (Or.inr (Or.inl ⟨c2, Or.inl q.1, q.2⟩)))]; exact n0
  rw [if_neg c2]
  by_cases c3 : s = 3
  · rw [if_pos c3]
    have z : ∀ y : Int, 0 ≤ y → y ≤ 4 → ¬ (g = 9 ∧ t = k ∧ x = y) := fun y a b q => h (Or.inr (Or.inr (Or.inl ⟨c3, q.1, q.2.1, by omega, by omega⟩)))
    unfold cfl czr
    rw [mu_o (z 4 (by decide) (by decide)), mu_o (z 3 (by decide) (by decide)), mu_o (z 2 (by decide) (by decide)), mu_o (z 1 (by decide) (by decide)), mu_o (z 0 (by decide) (by decide))]; exact n0
  rw [if_neg c3]
  by_cases c4 : s = 4
  · rw [if_pos c4]
    have z : ∀ y : Int, 0 ≤ y → y ≤ 6 → ¬ (g = 8 ∧ t = k ∧ x = y) := fun y a b q => h (Or.inr (Or.inr (Or.inr (Or.inl ⟨c4, q.1, q.2.1, by omega, by omega⟩))))
    unfold tfl
    rw [mu_o (z 6 (by decide) (by decide)), mu_o (z 5 (by decide) (by decide)), mu_o (z 4 (by decide) (by decide)), mu_o (z 3 (by decide) (by decide)), mu_o (z 2 (by decide) (by decide)), mu_o (z 1 (by decide) (by decide)), mu_o (z 0 (by decide) (by decide))]; exact n0
  rw [if_neg c4]
  by_cases c5 : s = 5
  · rw [if_pos c5]
    unfold ifl
    rw [mu_o (fun q => h (Or.inr (Or.inr (Or.inr (Or.inr (Or.inl ⟨c5, q.1, q.2.1, Or.inr q.2.2⟩)))))), mu_o (fun q => h (Or.inr (Or.inr (Or.inr (Or.inr (Or.inl ⟨c5, q.1, q.2.1, Or.inl q.2.2⟩))))))]; exact n0
  rw [if_neg c5]
  by_cases c6 : s = 6
  · rw [if_pos c6]
    have z : ∀ y : Int, 0 ≤ y → y ≤ 5 → ¬ (g = 10 ∧ t = k ∧ x = y) := fun y a b q => h (Or.inr (Or.inr (Or.inr (Or.inr (Or.inr ⟨c6, q.1, q.2.1, by omega, by omega⟩)))))
    unfold afl
    rw [mu_o (z 5 (by decide) (by decide)), mu_o (z 4 (by decide) (by decide)), mu_o (z 3 (by decide) (by decide)), mu_o (z 1 (by decide) (by decide)), mu_o (z 2 (by decide) (by decide)), mu_o (z 0 (by decide) (by decide))]; exact n0
  rw [if_neg c6]
  exact n0
theorem fcl_s {g : Nat} {t x : Int} (h : fcl s k g t x) : ((g = 98852 ∨ g = 98854) ∧ t = s ∧ x = k) ∨ (s = 2 ∧ (g = 65837 ∨ g = 65582) ∧ t = 0 ∧ x = k) ∨ (s = 3 ∧ g = 9 ∧ t = k ∧ (x = 0 ∨ x = 1 ∨ x = 2 ∨ x = 3 ∨ x = 4)) ∨ (s = 4 ∧ g = 8 ∧ t = k ∧ (x = 0 ∨ x = 1 ∨ x = 2 ∨ x = 3 ∨ x = 4 ∨ x = 5 ∨ x = 6)) ∨ (s = 5 ∧ g = 8 ∧ t = 48 + k ∧ (x = 0 ∨ x = 5)) ∨ (s = 6 ∧ g = 10 ∧ t = k ∧ (x = 0 ∨ x = 1 ∨ x = 2 ∨ x = 3 ∨ x = 4 ∨ x = 5)) := by
  unfold fcl at h
  rcases h with h | h | ⟨a, b, c, d, e⟩ | ⟨a, b, c, d, e⟩ | h | ⟨a, b, c, d, e⟩
  · exact Or.inl h
  · exact Or.inr (Or.inl h)
  · exact Or.inr (Or.inr (Or.inl ⟨a, b, c, by omega⟩))
  · exact Or.inr (Or.inr (Or.inr (Or.inl ⟨a, b, c, by omega⟩)))
  · exact Or.inr (Or.inr (Or.inr (Or.inr (Or.inl h))))
  · exact Or.inr (Or.inr (Or.inr (Or.inr (Or.inr ⟨a, b, c, by omega⟩))))
theorem fth_i (Z1 Z2 : AMem) {g : Nat} {t x : Int} (h : fcl s k g t x) : fth Y K m s k b Z1 g t x = fth Y K m s k b Z2 g t x := by
  have n0 : (g = 98852 ∨ g = 98854) ∧ t = s ∧ x = k → nfl Y m s k Z1 g t x = nfl Y m s k Z2 g t x := nfl_i Z1 Z2
  have w0 := fcl_s h
  clear h
  rcases w0 with w | ⟨rfl, w, rfl, rfl⟩ | ⟨rfl, rfl, rfl, w⟩ | ⟨rfl, rfl, rfl, w⟩ | ⟨rfl, rfl, rfl, w⟩ | ⟨rfl, rfl, rfl, w⟩
  · have n1 := n0 w
    unfold fth
    by_cases c2 : s = 2
    · rw [if_pos c2, if_pos c2]
      exact mu_cg fun _ => mu_cg fun _ => n1
    rw [if_neg c2, if_neg c2]
    by_cases c3 : s = 3
    · rw [if_pos c3, if_pos c3]
      unfold cfl czr
      exact mu_cg fun _ => mu_cg fun _ => mu_cg fun _ => mu_cg fun _ => mu_cg fun _ => n1
    rw [if_neg c3, if_neg c3]
    by_cases c4 : s = 4
    · rw [if_pos c4, if_pos c4]
      unfold tfl
      exact mu_cg fun _ => mu_cg fun _ => mu_cg fun _ => mu_cg fun _ => mu_cg fun _ => mu_cg fun _ => mu_cg fun _ => n1
    rw [if_neg c4, if_neg c4]
    by_cases c5 : s = 5
    · rw [if_pos c5, if_pos c5]
      unfold ifl
      exact mu_cg fun _ => mu_cg fun _ => n1
    rw [if_neg c5, if_neg c5]
    by_cases c6 : s = 6
    · rw [if_pos c6, if_pos c6]
      unfold afl
      exact mu_cg fun _ => mu_cg fun _ => mu_cg fun _ => mu_cg fun _ => mu_cg fun _ => mu_cg fun _ => n1
    rw [if_neg c6, if_neg c6]
    exact n1
  · unfold fth
    rw [if_pos rfl, if_pos rfl]
    rcases w with rfl | rfl
    · exact mu_cg fun _ => mu_cg fun q => absurd ⟨rfl, rfl, rfl⟩ q
    · exact mu_cg fun q => absurd ⟨rfl, rfl, rfl⟩ q
  · show cfl Y K m t (nfl Y m 3 t Z1) 9 t x = cfl Y K m t (nfl Y m 3 t Z2) 9 t x
    unfold cfl czr
    rcases w with rfl | rfl | rfl | rfl | rfl
    · exact mu_cg fun _ => mu_cg fun _ => mu_cg fun _ => mu_cg fun _ => mu_cg fun q => absurd ⟨rfl, rfl, rfl⟩ q
    · exact mu_cg fun _ => mu_cg fun _ => mu_cg fun _ => mu_cg fun q => absurd ⟨rfl, rfl, rfl⟩ q
    · exact mu_cg fun _ => mu_cg fun _ => mu_cg fun q => absurd ⟨rfl, rfl, rfl⟩ q
    · exact mu_cg fun _ => mu_cg fun q => absurd ⟨rfl, rfl, rfl⟩ q
    · exact mu_cg fun q => absurd ⟨rfl, rfl, rfl⟩ q
  · show tfl Y K m t b (nfl Y m 4 t Z1) 8 t x = tfl Y K m t b (nfl Y m 4 t Z2) 8 t x
    unfold tfl
    rcases w with rfl | rfl | rfl | rfl | rfl | rfl | rfl
    · exact mu_cg fun _ => mu_cg fun _ => mu_cg fun _ => mu_cg fun _ => mu_cg fun _ => mu_cg fun _ => mu_cg fun q => absurd ⟨rfl, rfl, rfl⟩ q
    · exact mu_cg fun _ => mu_cg fun _ => mu_cg fun _ => mu_cg fun _ => mu_cg fun _ => mu_cg fun q => absurd ⟨rfl, rfl, rfl⟩ q
    · exact mu_cg fun _ => mu_cg fun _ => mu_cg fun _ => mu_cg fun _ => mu_cg fun q => absurd ⟨rfl, rfl, rfl⟩ q
    · exact mu_cg fun _ => mu_cg fun _ => mu_cg fun _ => mu_cg fun q => absurd ⟨rfl, rfl, rfl⟩ q
    · exact mu_cg fun _ => mu_cg fun _ => mu_cg fun q => absurd ⟨rfl, rfl, rfl⟩ q
    · exact mu_cg fun _ => mu_cg fun q => absurd ⟨rfl, rfl, rfl⟩ q
    · exact mu_cg fun q => absurd ⟨rfl, rfl, rfl⟩ q
  · show ifl Y K m (48 + k) (nfl Y m 5 k Z1) 8 (48 + k) x = ifl Y K m (48 + k) (nfl Y m 5 k Z2) 8 (48 + k) x
    unfold ifl
    rcases w with rfl | rfl
    · exact mu_cg fun _ => mu_cg fun q => absurd ⟨rfl, rfl, rfl⟩ q
    · exact mu_cg fun q => absurd ⟨rfl, rfl, rfl⟩ q
  · show afl Y K m t (nfl Y m 6 t Z1) 10 t x = afl Y K m t (nfl Y m 6 t Z2) 10 t x
    unfold afl
    rcases w with rfl | rfl | rfl | rfl | rfl | rfl
    · exact mu_cg fun _ => mu_cg fun _ => mu_cg fun _ => mu_cg fun _ => mu_cg fun _ => mu_cg fun q => absurd ⟨rfl, rfl, rfl⟩ q
    · exact mu_cg fun _ => mu_cg fun _ => mu_cg fun _ => mu_cg fun q => absurd ⟨rfl, rfl, rfl⟩ q
    · exact mu_cg fun _ => mu_cg fun _ => mu_cg fun _ => mu_cg fun _ => mu_cg fun q => absurd ⟨rfl, rfl, rfl⟩ q
    · exact mu_cg fun _ => mu_cg fun _ => mu_cg fun q => absurd ⟨rfl, rfl, rfl⟩ q
    · exact mu_cg fun _ => mu_cg fun q => absurd ⟨rfl, rfl, rfl⟩ q
    · exact mu_cg fun q => absurd ⟨rfl, rfl, rfl⟩ q
end FILL4
