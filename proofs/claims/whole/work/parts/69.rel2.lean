/-! ===== what stays: the plan; priorities on both sides ===== -/
def dynC (g : Nat) (i : Int) : Bool := g == 6 || g == 7 || g == 786481 || g == 786482 || g == 32815 || g == 1024048 || g == 65587 || (g == 8 && decide (7 ≤ i)) || (g == 9 && decide (3 ≤ i)) || (g == 10 && decide (6 ≤ i))
def dynR (g : Nat) (i : Int) : Bool := g == 819297 || g == 819298 || g == 819299 || g == 819812 || g == 819301 || g == 98406 || g == 65639 || g == 66152 || g == 819561 || g == 33130 || g == 32875 || g == 32876 || g == 32877 || g == 32878 || g == 98671 || g == 98416 || g == 98417 || g == 1024114 || (g == 11 && (decide (50 ≤ i) || decide (i = 0)))
def frC (A A' : AMem) : Prop := ∀ (g : Nat) (t i : Int), dynC g i = false → A' g t i = A g t i
def frR (A A' : AMem) : Prop := ∀ (g : Nat) (t i : Int), dynR g i = false → A' g t i = A g t i
theorem frC.rf (A : AMem) : frC A A := fun _ _ _ _ => rfl
theorem frR.rf (A : AMem) : frR A A := fun _ _ _ _ => rfl
theorem frC.tr {A B C : AMem} (h : frC A B) (h2 : frC B C) : frC A C := fun g t i d => (h2 g t i d).trans (h g t i d)
theorem frR.tr {A B C : AMem} (h : frR A B) (h2 : frR B C) : frR A C := fun g t i d => (h2 g t i d).trans (h g t i d)
theorem frC.up {A A' : AMem} {g : Nat} {t i v : Int} (hd : dynC g i = true) (h : frC A A') : frC A (mup A' g t i v) := fun g' t' i' h' => by
  have ne : ¬ (g' = g ∧ t' = t ∧ i' = i) := by
    rintro ⟨rfl, _, rfl⟩
    rw [hd] at h'
    cases h'
  rw [mup_other ne]
  exact h _ _ _ h'
theorem frR.up {A A' : AMem} {g : Nat} {t i v : Int} (hd : dynR g i = true) (h : frR A A') : frR A (mup A' g t i v) := fun g' t' i' h' => by
  have ne : ¬ (g' = g ∧ t' = t ∧ i' = i) := by
    rintro ⟨rfl, _, rfl⟩
    rw [hd] at h'
    cases h'
  rw [mup_other ne]
  exact h _ _ _ h'
theorem frC.ite {A X Y : AMem} {c : Prop} [Decidable c] (h : frC A X) (h2 : frC A Y) : frC A (if c then X else Y) := by split <;> assumption
theorem frR.ite {A X Y : AMem} {c : Prop} [Decidable c] (h : frR A X) (h2 : frR A Y) : frR A (if c then X else Y) := by split <;> assumption
theorem frC.shE {A A' : AMem} {s n : Int} (h : frC A A') : frC A (shf A' s n) := fun g t i d => by
  unfold shf
  rw [if_neg (by rintro ⟨e | e, _⟩ <;> (subst e; cases d))]
  exact h g t i d
theorem frR.fiE {A A' : AMem} {g : Nat} {n v : Int} (hd : ∀ i, dynR g i = true) (h : frR A A') : frR A (fil A' g n v) := fun g' t i d => by
  unfold fil
  rw [if_neg (by rintro ⟨e, _⟩; subst e; rw [hd i] at d; cases d)]
  exact h g' t i d
theorem frR.mrE {B B' : AMem} (h : frR B B') : mrs B' = mrs B := by
  unfold mrs
  rw [h 14408 0 2 rfl]
theorem frR.inE {B B' : AMem} (h : frR B B') (t : Int) : inn B' t = inn B t := by
  unfold inn
  rw [h 14408 0 2 rfl, h 98390 0 t rfl]
  exact fnd_congr (fun i => by rw [h 65867 0 i rfl]) _ _
theorem frR.mb {B B' : AMem} (h : frR B B') (m : MB B) : MB B' := by
  unfold MB at *
  rw [h 14408 0 0 rfl, h 14408 0 1 rfl, h 14408 0 2 rfl, h 14408 0 3 rfl, h 14408 0 4 rfl, h 14408 0 5 rfl, h 14408 0 6 rfl]
  exact m
theorem PL.fr {A A' B B' : AMem} (p : PL A B) (h : frC A A') (k : frR B B') : PL A' B' := by
  have a1 : ∀ x, A' 14370 0 x = A 14370 0 x := fun _ => h _ _ _ rfl
  have a2 : ∀ x, A' 8 x 0 = A 8 x 0 := fun _ => h _ _ _ rfl
  have a3 : ∀ x, A' 8 x 1 = A 8 x 1 := fun _ => h _ _ _ rfl
  have a4 : ∀ x, A' 8 x 2 = A 8 x 2 := fun _ => h _ _ _ rfl
  have a5 : ∀ x, A' 8 x 3 = A 8 x 3 := fun _ => h _ _ _ rfl
  have a6 : ∀ x, A' 8 x 4 = A 8 x 4 := fun _ => h _ _ _ rfl
  have a7 : ∀ x, A' 8 x 6 = A 8 x 6 := fun _ => h _ _ _ rfl
  have a8 : ∀ x, A' 65579 0 x = A 65579 0 x := fun _ => h _ _ _ rfl
  have a9 : ∀ x, A' 65837 0 x = A 65837 0 x := fun _ => h _ _ _ rfl
  have a10 : ∀ x, A' 65580 0 x = A 65580 0 x := fun _ => h _ _ _ rfl
  have a11 : ∀ x, A' 9 x 0 = A 9 x 0 := fun _ => h _ _ _ rfl
  have a12 : ∀ x, A' 9 x 1 = A 9 x 1 := fun _ => h _ _ _ rfl
  have a13 : ∀ x, A' 9 x 2 = A 9 x 2 := fun _ => h _ _ _ rfl
  have a14 : ∀ x, A' 10 x 0 = A 10 x 0 := fun _ => h _ _ _ rfl
  have a15 : ∀ x, A' 10 x 1 = A 10 x 1 := fun _ => h _ _ _ rfl
  have a16 : ∀ x, A' 10 x 2 = A 10 x 2 := fun _ => h _ _ _ rfl
  have a17 : ∀ x, A' 10 x 3 = A 10 x 3 := fun _ => h _ _ _ rfl
  have a18 : ∀ x, A' 10 x 4 = A 10 x 4 := fun _ => h _ _ _ rfl
  have a19 : ∀ x, A' 10 x 5 = A 10 x 5 := fun _ => h _ _ _ rfl
  have b1 : ∀ x, B' 14408 0 x = B 14408 0 x := fun _ => k _ _ _ rfl
  have b2 : ∀ x, B' 98385 0 x = B 98385 0 x := fun _ => k _ _ _ rfl
  have b3 : ∀ x, B' 98642 0 x = B 98642 0 x := fun _ => k _ _ _ rfl
  have b4 : ∀ x, B' 98387 0 x = B 98387 0 x := fun _ => k _ _ _ rfl
  have b5 : ∀ x, B' 98388 0 x = B 98388 0 x := fun _ => k _ _ _ rfl
  have b6 : ∀ x, B' 98389 0 x = B 98389 0 x := fun _ => k _ _ _ rfl
  have b7 : ∀ x, B' 32855 0 x = B 32855 0 x := fun _ => k _ _ _ rfl
  have b8 : ∀ x, B' 65613 0 x = B 65613 0 x := fun _ => k _ _ _ rfl
  have b9 : ∀ x, B' 65867 0 x = B 65867 0 x := fun _ => k _ _ _ rfl
  have b10 : ∀ x, B' 65612 0 x = B 65612 0 x := fun _ => k _ _ _ rfl
  have b11 : ∀ x, B' 32846 0 x = B 32846 0 x := fun _ => k _ _ _ rfl
  have b12 : ∀ x, B' 32847 0 x = B 32847 0 x := fun _ => k _ _ _ rfl
  have b13 : ∀ x, B' 32848 0 x = B 32848 0 x := fun _ => k _ _ _ rfl
  have b14 : ∀ x, B' 98393 0 x = B 98393 0 x := fun _ => k _ _ _ rfl
  have b15 : ∀ x, B' 98394 0 x = B 98394 0 x := fun _ => k _ _ _ rfl
  have b16 : ∀ x, B' 98395 0 x = B 98395 0 x := fun _ => k _ _ _ rfl
  have b17 : ∀ x, B' 98396 0 x = B 98396 0 x := fun _ => k _ _ _ rfl
  have b18 : ∀ x, B' 98397 0 x = B 98397 0 x := fun _ => k _ _ _ rfl
  have b19 : ∀ x, B' 98398 0 x = B 98398 0 x := fun _ => k _ _ _ rfl
  have b20 : ∀ x, B' 98399 0 x = B 98399 0 x := fun _ => k _ _ _ rfl
  have m := k.mb p.mb
  have p := p.2
  unfold PL
  refine ⟨m, ?_⟩
  simp only [k.mrE, k.inE, a1, a2, a3, a4, a5, a6, a7, a8, a9, a10, a11, a12, a13, a14, a15, a16, a17, a18, a19, b1, b2, b3, b4, b5, b6, b7, b8, b9, b10, b11, b12, b13, b14, b15, b16, b17, b18, b19, b20]
  exact p
/-- the greatest of some numbers, on both sides -/
theorem cpf_spec (M : AMem) (w p : Int) : ∀ n : Nat, p ≤ cpf M w n p ∧ (∀ r : Int, 0 ≤ r → r < n → (M 65639 0 (r)) = w → (M 65613 0 (r)) ≤ cpf M w n p) ∧ (cpf M w n p = p ∨ ∃ r : Int, (0 ≤ r ∧ r < n) ∧ (M 65639 0 (r)) = w ∧ cpf M w n p = (M 65613 0 (r)))
  | 0 => ⟨by unfold cpf; omega, fun r a b => by omega, Or.inl rfl⟩
  | n + 1 => by
    obtain ⟨h1, h2, h3⟩ := cpf_spec M w p n
    unfold cpf
    by_cases c : (M 65639 0 (n)) = w
    · rw [if_pos c]
      by_cases d : cpf M w n p < (M 65613 0 (n))
      · rw [if_pos d]
        refine ⟨by omega, fun r a b e => ?_, Or.inr ⟨n, ⟨by omega, by omega⟩, c, rfl⟩⟩
        by_cases f : r = n
        · subst f; omega
        · have := h2 r a (by omega) e; omega
      · rw [if_neg d]
        refine ⟨h1, fun r a b e => ?_, ?_⟩
        · by_cases f : r = n
          · subst f; omega
          · exact h2 r a (by omega) e
        · rcases h3 with h | ⟨r, ⟨x1, x2⟩, x3, x4⟩
          · exact Or.inl h
          · exact Or.inr ⟨r, ⟨x1, by omega⟩, x3, x4⟩
    · rw [if_neg c]
      refine ⟨h1, fun r a b e => ?_, ?_⟩
      · by_cases f : r = n
        · subst f; exact absurd e c
        · exact h2 r a (by omega) e
      · rcases h3 with h | ⟨r, ⟨x1, x2⟩, x3, x4⟩
        · exact Or.inl h
        · exact Or.inr ⟨r, ⟨x1, by omega⟩, x3, x4⟩
theorem kcf_spec (M : AMem) (w : Int) : ∀ n : Nat, (M 8 (w) 0) ≤ kcf M w n ∧ (∀ i : Int, 0 ≤ i → i < n → (M 65579 0 ((M 65587 w (i)))) ≤ kcf M w n) ∧ (kcf M w n = (M 8 (w) 0) ∨ ∃ i : Int, (0 ≤ i ∧ i < n) ∧ kcf M w n = (M 65579 0 ((M 65587 w (i)))))
  | 0 => ⟨by unfold kcf; omega, fun r a b => by omega, Or.inl rfl⟩
  | n + 1 => by
    obtain ⟨h1, h2, h3⟩ := kcf_spec M w n
    unfold kcf
    by_cases d : kcf M w n < (M 65579 0 ((M 65587 w (n))))
    · rw [if_pos d]
      refine ⟨by omega, fun r a b => ?_, Or.inr ⟨n, ⟨by omega, by omega⟩, rfl⟩⟩
      by_cases f : r = n
      · subst f; omega
      · have := h2 r a (by omega); omega
    · rw [if_neg d]
      refine ⟨h1, fun r a b => ?_, ?_⟩
      · by_cases f : r = n
        · subst f; omega
        · exact h2 r a (by omega)
      · rcases h3 with h | ⟨r, ⟨x1, x2⟩, x4⟩
        · exact Or.inl h
        · exact Or.inr ⟨r, ⟨x1, by omega⟩, x4⟩
theorem inn_b' {M : AMem} (hb : MB M) (t : Int) (h : ¬ inn M t = -1) : (1 ≤ inn M t ∧ inn M t < mrs M) ∧ ¬ (M 14408 0 (2)) = 0 := by
  have a := fnd_rng (fun r => !(M 65867 0 r == 0) && (iAnd (iShr (M 98390 0 t) r) 1 == 1)) (M 14408 0 2 - 1).toNat 1
  have e : inn M t = fnd (fun r => !(M 65867 0 r == 0) && (iAnd (iShr (M 98390 0 t) r) 1 == 1)) (M 14408 0 2 - 1).toNat 1 := rfl
  rw [← e] at a
  unfold mrs
  split <;> omega
theorem inn_i {M : AMem} (t : Int) (h : ¬ inn M t = -1) : ¬ (M 65867 0 (inn M t)) = 0 := by
  rcases fnd_spec (fun r => !(M 65867 0 r == 0) && (iAnd (iShr (M 98390 0 t) r) 1 == 1)) (M 14408 0 2 - 1).toNat 1 with ⟨h1, h2⟩ | ⟨i, h1, h2, h3, h4, h5⟩
  · exact absurd h1 h
  · have e : inn M t = i := h1
    rw [e]
    intro z
    simp [z] at h4
/-- current priorities are the same where the resources are -/
theorem cp_eq {A B : AMem} (w x : Int) (pl : PL A B) (hc : 0 ≤ (A 8 (w) 14)) (hp : (A 8 (w) 0) = opr B x)
    (h1 : ∀ i : Int, 0 ≤ i → i < (A 8 (w) 14) → (0 ≤ (A 65587 w (i)) ∧ (A 65587 w (i)) < mrs B) ∧ (B 65639 0 ((A 65587 w (i)))) = x)
    (h2 : ∀ r : Int, 0 ≤ r → r < mrs B → (B 65639 0 (r)) = x → ¬ (B 14408 0 (2)) = 0 ∧ ∃ i : Int, (0 ≤ i ∧ i < (A 8 (w) 14)) ∧ (A 65587 w (i)) = r)
    (h3 : ¬ (A 8 (w) 11) = 0 ↔ (x < 1000 ∧ ¬ (B 819561 0 (x - 1)) = 0))
    (h4 : ¬ (A 8 (w) 11) = 0 → (A 8 (w) 6) = inn B (B 819297 0 (x - 1)) ∧ ¬ inn B (B 819297 0 (x - 1)) = -1) : kcp A w = cpr B x := by
  have hm := mrs_b pl.mb
  have ch : kch A w = cpf B x (mrs B).toNat (opr B x) := by
    obtain ⟨a1, a2, a3⟩ := cpf_spec B x (opr B x) (mrs B).toNat
    obtain ⟨b1, b2, b3⟩ := kcf_spec A w (A 8 (w) 14).toNat
    unfold kch
    have le1 : kcf A w (A 8 (w) 14).toNat ≤ cpf B x (mrs B).toNat (opr B x) := by
      rcases b3 with e | ⟨i, ⟨i0, i1⟩, e⟩
      · omega
      · have c := h1 i i0 (by omega)
        have d := (h2 _ c.1.1 c.1.2 c.2).1
        have f := (pl.ce _ c.1.1 c.1.2).1
        rw [if_neg d] at f
        rw [e, f]
        exact a2 _ c.1.1 (by omega) c.2
    have le2 : cpf B x (mrs B).toNat (opr B x) ≤ kcf A w (A 8 (w) 14).toNat := by
      rcases a3 with e | ⟨r, ⟨r0, r1⟩, rh, e⟩
      · omega
      · obtain ⟨d, i, ⟨i0, i1⟩, ie⟩ := h2 r r0 (by omega) rh
        have f := (pl.ce r r0 (by omega)).1
        rw [if_neg d] at f
        have g := b2 i i0 (by omega)
        rw [ie, f] at g
        omega
    omega
  unfold kcp cpr
  by_cases c : (A 8 (w) 11) = 0
  · rw [if_neg (fun z => z.1 c), if_neg (fun z => (h3.mpr z) c), ch]
  · obtain ⟨e1, e2⟩ := h4 c
    have b := inn_b' pl.mb (B 819297 0 (x - 1)) e2
    have f := (pl.ce (inn B (B 819297 0 (x - 1))) (by omega) (by omega)).1
    rw [if_neg (by omega)] at f
    rw [if_pos ⟨c, by rw [e1]; exact e2⟩, if_pos (h3.mp c), ch, e1, f]
