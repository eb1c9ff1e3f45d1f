/-! ===== what the class's read leaves ===== -/
theorem cad2_o (X : AMem) (o f : Int) {g : Nat} {t x : Int} (h1 : g = 8194837 → ¬ x = (X 2 0 5)) (h2 : g = 8194070 → ¬ x = (X 2 0 5)) (h3 : g = 2 → ¬ x = 5) : cad2 X o f g t x = X g t x := by
  unfold cad2
  rw [mu_o (fun q => h3 q.1 q.2.2), mu_o (fun q => h2 q.1 q.2.2), mu_o (fun q => h1 q.1 q.2.2)]
/-- an older token stays, and all else -/
theorem ctn_o (X : AMem) (b : Int → Int) (n p : Int) {g : Nat} {t x : Int} (h : (g = 8194837 ∨ g = 8194070 ∨ g = 8194071 ∨ g = 8194584 ∨ g = 8194585) → ¬ x = (X 2 0 5)) (h3 : g = 2 → ¬ x = 5) : ctn X b n p g t x = X g t x := by
  have k1 : g = 8194837 → ¬ x = (X 2 0 5) := fun z => h (Or.inl z)
  have k2 : g = 8194070 → ¬ x = (X 2 0 5) := fun z => h (Or.inr (Or.inl z))
  unfold ctn
  by_cases c0 : n ≤ p
  · rw [if_pos c0]; exact cad2_o X _ _ k1 k2 h3
  rw [if_neg c0]
  by_cases c1 : isLe (b p)
  · rw [if_pos c1]
    unfold crn
    by_cases c2 : ru (pNm b) p - p ≤ 12
    · rw [if_pos c2]
      have es : ((mup (mup X 8194584 0 ((X 2 0 5)) (pkd b p (ru (pNm b) p) 8)) 8194585 0 ((X 2 0 5)) (pkd b (p + 8) (ru (pNm b) p) 8)) 2 0 5) = (X 2 0 5) := by rw [mu_ng (by decide), mu_ng (by decide)]
      rw [cad2_o _ _ _ (by rw [es]; exact k1) (by rw [es]; exact k2) h3]
      rw [mu_o (fun q => h (Or.inr (Or.inr (Or.inr (Or.inr q.1)))) q.2.2), mu_o (fun q => h (Or.inr (Or.inr (Or.inr (Or.inl q.1)))) q.2.2)]
    · rw [if_neg c2]; exact cad2_o X _ _ k1 k2 h3
  rw [if_neg c1]
  by_cases c3 : isDi (b p)
  · rw [if_pos c3]
    unfold cdn
    have es : ((mup X 8194071 0 ((X 2 0 5)) (cnv b p (ru (pDi b) p - p).toNat)) 2 0 5) = (X 2 0 5) := mu_ng (by decide)
    rw [cad2_o _ _ _ (by rw [es]; exact k1) (by rw [es]; exact k2) h3]
    rw [mu_o (fun q => h (Or.inr (Or.inr (Or.inl q.1))) q.2.2)]
  rw [if_neg c3]
  exact cad2_o X _ _ k1 k2 h3
/-- a name's bytes, a number's value -/
theorem ctn_n (X : AMem) (b : Int → Int) (n p : Int) : (¬ n ≤ p → isLe (b p) → ru (pNm b) p - p ≤ 12 → ((ctn X b n p) 8194584 0 ((X 2 0 5))) = pkd b p (ru (pNm b) p) 8 ∧ ((ctn X b n p) 8194585 0 ((X 2 0 5))) = pkd b (p + 8) (ru (pNm b) p) 8) ∧ (¬ n ≤ p → ¬ isLe (b p) → isDi (b p) → ((ctn X b n p) 8194071 0 ((X 2 0 5))) = cnv b p (ru (pDi b) p - p).toNat) := by
  refine ⟨fun c0 c1 c2 => ?_, fun c0 c1 c3 => ?_⟩
  · unfold ctn
    rw [if_neg c0, if_pos c1]
    unfold crn
    rw [if_pos c2]
    constructor
    · rw [cad2_o _ _ _ (fun z => absurd z (by decide)) (fun z => absurd z (by decide)) (fun z => absurd z (by decide)), mu_ng (by decide), mup_same]
    · rw [cad2_o _ _ _ (fun z => absurd z (by decide)) (fun z => absurd z (by decide)) (fun z => absurd z (by decide)), mup_same]
  · unfold ctn
    rw [if_neg c0, if_neg c1, if_pos c3]
    unfold cdn
    rw [cad2_o _ _ _ (fun z => absurd z (by decide)) (fun z => absurd z (by decide)) (fun z => absurd z (by decide)), mup_same]
