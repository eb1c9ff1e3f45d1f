/-! ===== all tokens that the class's read leaves ===== -/
/-- token t of the class, at place p -/
def CT (X : AMem) (b : Int → Int) (n p : Int) (t : Int) : Prop := (X 8194837 0 (t)) = cko b n p ∧ (X 8194070 0 (t)) = tkP n p ∧ (¬ n ≤ p → isLe (b p) → ru (pNm b) p - p ≤ 12 → (X 8194584 0 (t)) = pkd b p (ru (pNm b) p) 8 ∧ (X 8194585 0 (t)) = pkd b (p + 8) (ru (pNm b) p) 8) ∧ (¬ n ≤ p → ¬ isLe (b p) → isDi (b p) → (X 8194071 0 (t)) = cnv b p (ru (pDi b) p - p).toNat)
theorem ctk_t (M : AMem) (n : Int) : ∀ (j t : Nat), t < j → CT (ctk M n j) (cby M n) n (pos (cby M n) n t) (t : Int)
  | 0, t, h => by omega
  | j + 1, t, h => by
    have ej := (ctk_l M n j).1
    show CT (ctn (ctk M n j) (cby M n) n (pos (cby M n) n j)) (cby M n) n (pos (cby M n) n t) (t : Int)
    by_cases c : t = j
    · subst c
      obtain ⟨_, _, k3, k4⟩ := ctn_l (ctk M n t) (cby M n) n (pos (cby M n) n t) n
      have q := ctn_n (ctk M n t) (cby M n) n (pos (cby M n) n t)
      rw [ej] at k3 k4 q
      exact ⟨k3, k4, q.1, q.2⟩
    · have ih := ctk_t M n j t (by omega)
      have ne : ¬ (t : Int) = ((ctk M n j) 2 0 5) := by rw [ej]; omega
      unfold CT at ih ⊢
      rw [ctn_o _ _ _ _ (fun _ => ne) (fun z => absurd z (by decide)), ctn_o _ _ _ _ (fun _ => ne) (fun z => absurd z (by decide)), ctn_o _ _ _ _ (fun _ => ne) (fun z => absurd z (by decide)), ctn_o _ _ _ _ (fun _ => ne) (fun z => absurd z (by decide)), ctn_o _ _ _ _ (fun _ => ne) (fun z => absurd z (by decide))]
      exact ih
/-- nothing else changes -/
theorem ctk_o (M : AMem) (n : Int) (g : Nat) (t x : Int) (h : g ≠ 8194837 ∧ g ≠ 8194070 ∧ g ≠ 8194071 ∧ g ≠ 8194584 ∧ g ≠ 8194585) (h2 : g = 2 → ¬ x = 5) : ∀ j : Nat, ctk M n j g t x = M g t x
  | 0 => by
    show (mup M 2 0 5 (0)) g t x = _
    exact mu_o (fun q => h2 q.1 q.2.2)
  | j + 1 => by
    rw [← ctk_o M n g t x h h2 j]
    exact ctn_o _ _ _ _ (fun z => by omega) h2
