/-! ===== the class's Plan: fill, the ITEMs ===== -/
theorem fcl_u {s k s' k' : Int} {g : Nat} {t x : Int} (h : fcl s k g t x) (h' : fcl s' k' g t x) (a : 0 ≤ k ∧ k < 48) (b : 0 ≤ k' ∧ k' < 48) : s = s' ∧ k = k' := by
  unfold fcl at h h'
  rcases h with h | h | h | h | h | h <;> rcases h' with h' | h' | h' | h' | h' | h' <;> omega
theorem fcl_g {s k : Int} {g : Nat} {t x : Int} (h : fcl s k g t x) : ogr g = false ∧ g ≠ 14370 := by
  unfold fcl at h
  rcases h with ⟨h | h, _⟩ | ⟨_, h | h, _⟩ | ⟨_, h, _⟩ | ⟨_, h, _⟩ | ⟨_, h, _⟩ | ⟨_, h, _⟩ <;> subst h <;> decide
section FILL5
variable {Y Z1 : AMem} {K : Nat → Int} {T F : Nat}
abbrev sY (Y : AMem) (m : Nat) : Int := (Y 1366045 0 ((m : Int)))
abbrev kY (Y : AMem) (m : Nat) : Int := (Y 1366046 0 ((m : Int)))
def BC (Y : AMem) (K : Nat → Int) (m s b : Int) : Prop := (b = 1 ∨ b = 0) ∧ (s = 2 → (b = 1 ↔ csy Y K m 17)) ∧ (s = 4 → (b = 1 ↔ csy Y K m 32))
/-- the first n ITEMs are taken over -/
def L2 (Y Z1 Z : AMem) (K : Nat → Int) (n : Nat) : Prop := (OG Y Z) ∧ (∀ (g : Nat) (t x : Int), (∀ m : Nat, m < n → ¬ fcl (sY Y m) (kY Y m) g t x) → Z g t x = Z1 g t x) ∧ (∀ m : Nat, m < n → ∃ b : Int, BC Y K m (sY Y m) b ∧ ∀ (g : Nat) (t x : Int), fcl (sY Y m) (kY Y m) g t x → Z g t x = fth Y K m (sY Y m) (kY Y m) b Z1 g t x)
theorem L2.og {Y Z1 Z : AMem} {K : Nat → Int} {n : Nat} (h : L2 Y Z1 Z K n) : OG Y Z := h.1
theorem L2.fr {Y Z1 Z : AMem} {K : Nat → Int} {n : Nat} (h : L2 Y Z1 Z K n) : ∀ (g : Nat) (t x : Int), (∀ m : Nat, m < n → ¬ fcl (sY Y m) (kY Y m) g t x) → Z g t x = Z1 g t x := h.2.1
theorem L2.sp {Y Z1 Z : AMem} {K : Nat → Int} {n : Nat} (h : L2 Y Z1 Z K n) : ∀ m : Nat, m < n → ∃ b : Int, BC Y K m (sY Y m) b ∧ ∀ (g : Nat) (t x : Int), fcl (sY Y m) (kY Y m) g t x → Z g t x = fth Y K m (sY Y m) (kY Y m) b Z1 g t x := h.2.2
theorem L2.mk {Y Z1 Z : AMem} {K : Nat → Int} {n : Nat} (og : OG Y Z) (fr : ∀ (g : Nat) (t x : Int), (∀ m : Nat, m < n → ¬ fcl (sY Y m) (kY Y m) g t x) → Z g t x = Z1 g t x) (sp : ∀ m : Nat, m < n → ∃ b : Int, BC Y K m (sY Y m) b ∧ ∀ (g : Nat) (t x : Int), fcl (sY Y m) (kY Y m) g t x → Z g t x = fth Y K m (sY Y m) (kY Y m) b Z1 g t x) : L2 Y Z1 Z K n := ⟨og, fr, sp⟩
/-- numbers in range, and one for each thing -/
def UQ (Y : AMem) : Prop := (∀ m : Nat, (m : Int) < (Y 3 0 9) → 0 ≤ kY Y m ∧ kY Y m < pmo (sY Y m)) ∧ ∀ m m' : Nat, (m : Int) < (Y 3 0 9) → m' < m → ¬ (sY Y m = sY Y m' ∧ kY Y m = kY Y m')
theorem L2_s {Z : AMem} {n : Nat} {b : Int} (uq : UQ Y) (hn : (n : Int) < (Y 3 0 9)) (h : L2 Y Z1 Z K n) (hb : BC Y K n (sY Y n) b) : L2 Y Z1 (fth Y K n (sY Y n) (kY Y n) b Z) K (n + 1) := by
  have pb : ∀ s : Int, pmo s ≤ 48 := fun s => by unfold pmo; split; decide; split; decide; split; decide; split; decide; decide
  have kb : ∀ m : Nat, (m : Int) < (Y 3 0 9) → 0 ≤ kY Y m ∧ kY Y m < 48 := fun m q => by have := uq.1 m q; have := pb (sY Y m); omega
  refine L2.mk ?_ ?_ ?_
  · intro g t x e
    rw [fth_o (fun z => by rw [(fcl_g z).1] at e; cases e)]
    exact h.og g t x e
  · intro g t x q
    rw [fth_o (q n (by omega))]
    exact h.fr g t x (fun m a => q m (by omega))
  · intro m a
    by_cases c : m = n
    · subst c
      exact ⟨b, hb, fun g t x q => fth_i _ _ q⟩
    · obtain ⟨b', h1, h2⟩ := h.sp m (by omega)
      refine ⟨b', h1, fun g t x q => ?_⟩
      rw [fth_o (fun z => uq.2 n m hn (by omega) (fcl_u z q (kb n hn) (kb m (by omega))))]
      exact h2 g t x q
end FILL5
