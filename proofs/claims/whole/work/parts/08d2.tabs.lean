theorem tb_t1 : ∀ g ∈ gOwn ++ gCon, gk g = 3 → (aT g).2.1 = 1 → gval (aT g).1 = true ∧ 0 ≤ (aT g).2.2 ∧ (aT g).2.2 + gl g ≤ gn (aT g).1 := by decide +kernel
theorem tb_t2 : ∀ g ∈ gOwn ++ gCon, gk g = 3 → (aT g).2.1 = 2 → gval (aT g).1 = true := by decide +kernel
theorem tb_t3 : ∀ g ∈ gOwn ++ gCon, gk g = 3 → (aT g).2.1 = 2 → ((aT g).1 = 12 ∧ aY g = .object "StaticKernel$Kind") ∨ ((aT g).1 = 13 ∧ aY g = .object "StaticKernel$Role") := by decide +kernel
