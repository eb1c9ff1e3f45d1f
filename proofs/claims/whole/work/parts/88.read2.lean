/-! ===== the rows, seen on both sides ===== -/
theorem cnt_lt {p r : Nat → Bool} : ∀ (n k : Nat), (∀ j, j < n → p j = true → r j = true) → k < n → r k = true → p k = false → cnt p n < cnt r n
  | 0, k, _, hk, _, _ => absurd hk (by omega)
  | n + 1, k, h, hk, h1, h2 => by
    have e1 : cnt p (n + 1) = cnt p n + if p n = true then 1 else 0 := rfl
    have e2 : cnt r (n + 1) = cnt r n + if r n = true then 1 else 0 := rfl
    rw [e1, e2]
    by_cases c : k = n
    · subst c
      have := cnt_le (p := p) (r := r) k (fun j hj => h j (by omega))
      rw [if_pos h1, if_neg (by rw [h2]; decide)]
      omega
    · have := cnt_lt n k (fun j hj => h j (by omega)) (by omega) h1 h2
      have hn := h n (by omega)
      by_cases d : p n = true
      · rw [if_pos d, if_pos (hn d)]; omega
      · rw [if_neg d]
        split <;> omega
/-- requests of row p above place x, of the first s places -/
def upr (M : AMem) (p : Int) (x : Int) (s : Nat) : Int := cnt (fun y => decide (x < y ∧ (M 786481 0 (y)) = p)) s
theorem upr_s (M : AMem) (p x : Int) (s : Nat) : upr M p x (s + 1) = upr M p x s + if x < s ∧ (M 786481 0 (s)) = p then 1 else 0 := by
  show cnt _ s + (if decide (x < s ∧ (M 786481 0 (s)) = p) = true then 1 else 0) = _
  unfold upr
  by_cases c : x < s ∧ (M 786481 0 (s)) = p
  · rw [if_pos c, if_pos (decide_eq_true c)]
  · rw [if_neg c, if_neg (show ¬ decide (x < s ∧ (M 786481 0 (s)) = p) = true by simpa using c)]
theorem upr_0 (M : AMem) (p x : Int) (s : Nat) (h : s ≤ x + 1) : upr M p x s = 0 := cnt_0 s (fun j hj => by
  simp only [decide_eq_false_iff_not]
  intro z
  omega)
theorem kta_spec (M : AMem) (p i : Int) : ∀ (s : Nat) (a : Int), (kta M p i s a = -1 ∧ ∀ x : Int, 0 ≤ x → x < s → (M 786481 0 (x)) = p → ¬ a + upr M p x s = i) ∨ (∃ x : Int, (0 ≤ x ∧ x < s) ∧ (M 786481 0 (x)) = p ∧ a + upr M p x s = i ∧ kta M p i s a = (M 786482 0 (x)))
  | 0, a => Or.inl ⟨rfl, fun x x0 x1 => by omega⟩
  | s + 1, a => by
    have e : kta M p i (s + 1) a = if (M 786481 0 (s)) = p then (if a = i then (M 786482 0 (s)) else kta M p i s (a + 1)) else kta M p i s a := rfl
    rw [e]
    by_cases c : (M 786481 0 (s)) = p
    · rw [if_pos c]
      by_cases d : a = i
      · rw [if_pos d]
        right
        exact ⟨s, ⟨by omega, by omega⟩, c, by rw [upr_0 M p s (s + 1) (by omega)]; omega, rfl⟩
      · rw [if_neg d]
        rcases kta_spec M p i s (a + 1) with ⟨h1, h2⟩ | ⟨x, x0, x1, x2, x3⟩
        · left
          refine ⟨h1, fun x x0 x1 xr => ?_⟩
          rw [upr_s]
          by_cases f : x = s
          · subst f
            rw [if_neg (by omega), upr_0 M p s s (by omega)]
            omega
          · rw [if_pos ⟨by omega, c⟩]
            have := h2 x x0 (by omega) xr
            omega
        · right
          refine ⟨x, ⟨x0.1, by omega⟩, x1, ?_, x3⟩
          rw [upr_s, if_pos ⟨x0.2, c⟩]
          omega
    · rw [if_neg c]
      rcases kta_spec M p i s a with ⟨h1, h2⟩ | ⟨x, x0, x1, x2, x3⟩
      · left
        refine ⟨h1, fun x x0 x1 xr => ?_⟩
        rw [upr_s, if_neg (fun z => c z.2)]
        by_cases f : x = s
        · subst f; exact absurd xr c
        · have := h2 x x0 (by omega) xr
          omega
      · right
        refine ⟨x, ⟨x0.1, by omega⟩, x1, ?_, x3⟩
        rw [upr_s, if_neg (fun z => c z.2)]
        omega
/-- counting what one function carries onto another -/
theorem cnt_inj {p q : Nat → Bool} (N : Nat) : ∀ (n : Nat) (s : Nat → Nat), (∀ i, i < n → p i = true → s i < N ∧ q (s i) = true) → (∀ i j, i < j → j < n → p i = true → p j = true → s i ≠ s j) → cnt p n ≤ cnt q N
  | 0, s, _, _ => (cnt_b q N).1
  | n + 1, s, h1, h2 => by
    have e1 : cnt p (n + 1) = cnt p n + if p n = true then 1 else 0 := rfl
    rw [e1]
    by_cases c : p n = true
    · have a := h1 n (by omega) c
      have ih := cnt_inj (q := fun j => q j && !(j == s n)) N n s (fun i hi pi => ⟨(h1 i (by omega) pi).1, by
        have := h2 i n (by omega) (by omega) pi c
        simp [(h1 i (by omega) pi).2, this]⟩) (fun i j hi hj => h2 i j hi (by omega))
      have u := cnt_upd (p := q) (p' := fun j => q j && !(j == s n)) (s n) (fun j hj => by simp [hj]) N a.1
      rw [if_pos a.2, if_neg (by simp)] at u
      rw [if_pos c]
      omega
    · rw [if_neg c]
      have ih := cnt_inj (q := q) N n s (fun i hi => h1 i (by omega)) (fun i j hi hj => h2 i j hi (by omega))
      omega
theorem cnt_srj {p q : Nat → Bool} (N : Nat) : ∀ (n : Nat) (s : Nat → Nat), (∀ r, r < N → q r = true → ∃ i, i < n ∧ p i = true ∧ s i = r) → cnt q N ≤ cnt p n := by
  intro n
  induction n generalizing q with
  | zero =>
    intro s h
    rw [cnt_0 N (fun j hj => by
      cases e : q j
      · rfl
      · obtain ⟨i, hi, _⟩ := h j hj e
        omega)]
    exact (cnt_b p 0).1
  | succ n ih =>
    intro s h
    have e1 : cnt p (n + 1) = cnt p n + if p n = true then 1 else 0 := rfl
    rw [e1]
    by_cases c : p n = true
    · rw [if_pos c]
      have i2 := ih (q := fun r => q r && !(r == s n)) s (fun r hr pr => by
        simp only [Bool.and_eq_true, Bool.not_eq_true', beq_eq_false_iff_ne, ne_eq] at pr
        obtain ⟨i, hi, pi, e⟩ := h r hr pr.1
        refine ⟨i, ?_, pi, e⟩
        by_cases d : i = n
        · subst d; exact absurd e.symm pr.2
        · omega)
      by_cases d : s n < N
      · have u := cnt_upd (p := q) (p' := fun r => q r && !(r == s n)) (s n) (fun j hj => by simp [hj]) N d
        rw [if_neg (show ¬ (q (s n) && !(s n == s n)) = true by simp)] at u
        split at u <;> omega
      · have e : cnt (fun r => q r && !(r == s n)) N = cnt q N := cnt_congr N (fun j hj => by
          have : ¬ j = s n := by omega
          simp [this])
        omega
    · rw [if_neg c]
      have i2 := ih (q := q) s (fun r hr qr => by
        obtain ⟨i, hi, pi, e⟩ := h r hr qr
        refine ⟨i, ?_, pi, e⟩
        by_cases d : i = n
        · subst d; exact absurd pi c
        · omega)
      omega
theorem v_row {n : Int} {A T : AMem} (h : RL n A T) (p i : Int) : kta A p i (A 7 0 2).toNat 0 = (if i < 0 then -1 else if rrw T p i = -1 then -1 else (T 819297 0 (rrw T p i))) := by
  obtain ⟨sg, r⟩ := h.rx
  have z0 := r.1
  have ra : ∀ x : Int, 0 ≤ x → x < (A 7 0 2) → (A 786481 0 (x)) = p → ∀ q : Nat, (q : Int) = sg x → rra T p q = upr A p x (A 7 0 2).toNat := fun x x0 x1 xr q hq => by
    have ax := r.pt x x0 x1
    have ax4 : (T 819299 0 (sg x)) = (A 786481 0 (x)) := ax.2.2.2
    unfold rra upr
    have l1 : cnt (fun y => decide (x < y ∧ (A 786481 0 (y)) = p)) (A 7 0 2).toNat ≤ cnt (fun o => decide (rwp T p q o)) 400 := by
      refine cnt_inj 400 _ (fun y => (sg y).toNat) (fun y hy z => ?_) (fun y w yw hw _ _ e => ?_)
      · simp only [decide_eq_true_eq] at z
        have ay := r.pt y (by omega) (by omega)
        have ay4 : (T 819299 0 (sg y)) = (A 786481 0 (y)) := ay.2.2.2
        have ay2 : (T 819298 0 (sg y)) = 1 := ay.2.1
        refine ⟨by omega, ?_⟩
        have od := r.od x y x0 z.1 (by omega)
        have od : (T 819299 0 (sg x)) < (T 819299 0 (sg y)) ∨ ((T 819299 0 (sg y)) = (T 819299 0 (sg x)) ∧ (T 819812 0 (sg y)) < (T 819812 0 (sg x))) := od
        refine decide_eq_true ?_
        have yn : (((sg y).toNat : Nat) : Int) = sg y := by omega
        show (T 819298 0 ((((sg y).toNat : Nat) : Int))) = 1 ∧ (T 819299 0 ((((sg y).toNat : Nat) : Int))) = p ∧ ((T 819299 0 ((q : Int))) < (T 819299 0 ((((sg y).toNat : Nat) : Int))) ∨ ((T 819299 0 ((((sg y).toNat : Nat) : Int))) = (T 819299 0 ((q : Int))) ∧ (T 819812 0 ((((sg y).toNat : Nat) : Int))) < (T 819812 0 ((q : Int)))))
        rw [yn, hq]
        exact ⟨ay2, by rw [ay4]; exact z.2, od⟩
      · have ay := r.pt y (by omega) (by omega)
        have aw := r.pt w (by omega) (by omega)
        have := r.inj y w (by omega) (by omega) (by omega) (by omega) (by omega)
        omega
    have l2 : cnt (fun o => decide (rwp T p q o)) 400 ≤ cnt (fun y => decide (x < y ∧ (A 786481 0 (y)) = p)) (A 7 0 2).toNat := by
      refine cnt_srj 400 _ (fun y => (sg y).toNat) (fun o ho z => ?_)
      simp only [decide_eq_true_eq] at z
      have z : (T 819298 0 ((o : Int))) = 1 ∧ (T 819299 0 ((o : Int))) = p ∧ ((T 819299 0 ((q : Int))) < (T 819299 0 ((o : Int))) ∨ ((T 819299 0 ((o : Int))) = (T 819299 0 ((q : Int))) ∧ (T 819812 0 ((o : Int))) < (T 819812 0 ((q : Int))))) := z
      rw [hq] at z
      obtain ⟨y, y0, y1, y2⟩ := r.on o (by omega) (by omega) z.1
      have ay4 : (T 819299 0 (sg y)) = (A 786481 0 (y)) := (r.pt y y0 y1).2.2.2
      rw [y2] at ay4
      refine ⟨y.toNat, by omega, ?_, ?_⟩
      · rw [show ((y.toNat : Nat) : Int) = y by omega]
        refine decide_eq_true ⟨?_, by rw [← ay4]; exact z.2.1⟩
        by_cases c : x < y
        · exact c
        · exfalso
          have z3 : ahb T o (sg x) := z.2.2
          by_cases d : y = x
          · rw [d] at y2
            rw [← y2] at z3
            exact ahp_irr z3
          · have od := r.od y x y0 (by omega) x1
            rw [y2] at od
            exact ahp_as z3 od
      · show (sg ((y.toNat : Nat) : Int)).toNat = o
        rw [show ((y.toNat : Nat) : Int) = y by omega, y2]
        omega
    omega
  have inj : ∀ x y : Int, 0 ≤ x → x < y → y < (A 7 0 2) → (A 786481 0 (y)) = p → upr A p y (A 7 0 2).toNat < upr A p x (A 7 0 2).toNat := fun x y x0 xy y1 yr => by
    unfold upr
    refine cnt_lt _ y.toNat (fun j hj z => ?_) (by omega) ?_ ?_
    · simp only [decide_eq_true_eq] at z ⊢
      exact ⟨by omega, z.2⟩
    · simp only [decide_eq_true_eq]
      rw [show ((y.toNat : Nat) : Int) = y by omega]
      exact ⟨xy, yr⟩
    · simp only [decide_eq_false_iff_not]
      omega
  have up0 : ∀ x, 0 ≤ upr A p x (A 7 0 2).toNat := fun x => (cnt_b _ _).1
  have er : rrw T p i = fnd (fun q : Nat => (T 819298 0 (q)) == 1 && ((T 819299 0 (q)) == p && rra T p q == i)) 400 0 := rfl
  rcases kta_spec A p i (A 7 0 2).toNat 0 with ⟨h1, h2⟩ | ⟨x, x0, x1, x2, x3⟩
  · rw [h1]
    by_cases c : i < 0
    · rw [if_pos c]
    · rw [if_neg c]
      have : rrw T p i = -1 := by
        rw [er]
        rcases fnd_spec (fun q : Nat => (T 819298 0 (q)) == 1 && ((T 819299 0 (q)) == p && rra T p q == i)) 400 0 with ⟨a, _⟩ | ⟨q, a, b, d, f, _⟩
        · exact a
        · exfalso
          simp only [Bool.and_eq_true, beq_iff_eq] at f
          obtain ⟨y, y0, y1, y2⟩ := r.on q (by omega) (by omega) f.1
          have ay := (r.pt y y0 y1).2.2.2
          have ay4 : (T 819299 0 (sg y)) = (A 786481 0 (y)) := ay
          rw [y2] at ay4
          have e := ra y y0 y1 (by rw [← ay4]; exact f.2.1) q y2.symm
          exact h2 y y0 (by omega) (by rw [← ay4]; exact f.2.1) (by omega)
      rw [if_pos this]
  · have u := up0 x
    rw [x3, if_neg (by omega)]
    have ax := r.pt x x0.1 (by omega)
    have ax3 : (T 819297 0 (sg x)) = (A 786482 0 (x)) := ax.2.2.1
    have ax4 : (T 819299 0 (sg x)) = (A 786481 0 (x)) := ax.2.2.2
    have ax2 : (T 819298 0 (sg x)) = 1 := ax.2.1
    rcases fnd_spec (fun q : Nat => (T 819298 0 (q)) == 1 && ((T 819299 0 (q)) == p && rra T p q == i)) 400 0 with ⟨a, b⟩ | ⟨q, a, b, d, f, _⟩
    · exfalso
      have := b (sg x).toNat (by omega) (by omega)
      have e := ra x x0.1 (by omega) x1 (sg x).toNat (by omega)
      rw [show (((sg x).toNat : Nat) : Int) = sg x by omega] at this
      simp [ax2, ax4, x1, e] at this
      omega
    · rw [← er] at a
      simp only [Bool.and_eq_true, beq_iff_eq] at f
      obtain ⟨y, y0, y1, y2⟩ := r.on q (by omega) (by omega) f.1
      have ay4 : (T 819299 0 (sg y)) = (A 786481 0 (y)) := (r.pt y y0 y1).2.2.2
      rw [y2] at ay4
      have yr : (A 786481 0 (y)) = p := by rw [← ay4]; exact f.2.1
      have e := ra y y0 y1 yr q y2.symm
      have xy : x = y := by
        by_cases c : x < y
        · have := inj x y x0.1 c y1 yr; omega
        · by_cases c2 : y < x
          · have := inj y x y0 c2 (by omega) x1; omega
          · omega
      rw [a, if_neg (by omega), ← y2, ← xy, ax3]
