/-! ===== the numbers of the first memory are in their bounds ===== -/
theorem M0_b {g : Nat} {t x : Int} (h : g ∉ gCon) : -1 ≤ M0 g t x ∧ M0 g t x ≤ 1 := by
  have hc : ¬ (g = 62328 ∨ g = 14457 ∨ g = 61562 ∨ g = 39035) := fun z => h (by rcases z with rfl | rfl | rfl | rfl <;> decide)
  unfold M0
  repeat' split
  all_goals first | decide | contradiction
theorem con_b : ∀ g ∈ gCon, ∀ i : Nat, i < gl g → -1000 ≤ (conL g).getD i 0 ∧ (conL g).getD i 0 ≤ 1000 := by decide +kernel
theorem M0_c {g : Nat} {t : Int} {i : Nat} (h : g ∈ gCon) : M0 g t i = (conL g).getD i 0 := by
  have h' : g ∈ [62328, 14457, 61562, 39035] := h
  simp only [List.mem_cons, List.not_mem_nil, or_false] at h'
  rcases h' with rfl | rfl | rfl | rfl <;> rfl
theorem tb_m2 : ∀ g ∈ gOwn ++ gCon, gk g = 3 → (aT g).2.1 = 2 → 2 ≤ gn (aT g).1 := by decide +kernel
theorem own_nc {g : Nat} (h : g ∈ gOwn) : g ∉ gCon := fun z => own_con h z
theorem o_nc {g : Nat} (h : isO g) : g ∉ gCon := fun z => isO_nA h (Or.inr z)
theorem mok_0 : MOK M0 := by
  refine ⟨fun g t k hg h0 h1 hk => ?_, fun g t i hg h0 h1 hi0 hi1 => ?_, fun g t i hg hk hi => M0_c hg⟩
  · have := M0_b (t := t) (x := k) (o_nc hg)
    unfold fok
    split
    · unfold in64; omega
    · trivial
    · trivial
    · unfold in32; omega
  · have hb : -1000 ≤ M0 g t i ∧ M0 g t i ≤ 1000 ∧ (g ∈ gOwn → -1 ≤ M0 g t i ∧ M0 g t i ≤ 1) := by
      rcases hg with hg | hg
      · have := M0_b (t := t) (x := i) (own_nc hg)
        exact ⟨by omega, by omega, fun _ => this⟩
      · obtain ⟨j, rfl⟩ : ∃ j : Nat, i = j := ⟨i.toNat, by omega⟩
        rw [M0_c hg]
        have := con_b g hg j (by omega)
        exact ⟨this.1, this.2, fun z => (own_con z hg).elim⟩
    unfold aaok
    split
    · unfold in64; omega
    · rename_i hk
      intro hm
      have h2 := tb_m2 g (isA_mem hg) hk hm
      rcases hg with hg | hg
      · have := hb.2.2 hg
        omega
      · obtain ⟨j, rfl⟩ : ∃ j : Nat, i = j := ⟨i.toNat, by omega⟩
        have h3 : g = 62328 := by
          have h' : g ∈ [62328, 14457, 61562, 39035] := hg
          simp only [List.mem_cons, List.not_mem_nil, or_false] at h'
          rcases h' with rfl | rfl | rfl | rfl
          · rfl
          · exact absurd hk (by decide)
          · exact absurd hk (by decide)
          · exact absurd hk (by decide)
        subst h3
        exact absurd hm (by decide)
    · unfold in32; omega
