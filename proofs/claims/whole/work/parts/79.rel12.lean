/-! ===== resources; an ISR ends (by program: wip/whole/gen/mk79.py) ===== -/
theorem own_wk {n : Int} {A B : AMem} (h : RL n A B) (c : ¬ wk B = 0) : own B (wk B) = kw A ∧ (0 ≤ kw A ∧ kw A < 64) ∧ ¬ (B 14408 0 (2)) = 0 ∧ ((wk B = 1 + rn B ∧ ¬ rn B = -1) ∨ (1000 ≤ wk B ∧ wk B < 1000 + (B 14408 0 (5)) ∧ ¬ (B 32875 0 (wk B - 1000)) = -1)) := by
  have hm := h.mB
  have m5 : (0 ≤ (B 14408 0 (5)) ∧ (B 14408 0 (5)) ≤ 16) ∧ (0 ≤ (B 14408 0 (4)) ∧ (B 14408 0 (4)) ≤ 48) := by unfold MB at hm; omega
  have m2 := h.pl.m2
  unfold own
  rcases h.who with ⟨a, b, d, e⟩ | ⟨a, b, d, e⟩ | ⟨a, b, d, e⟩
  · have g := h.bg ((B 11 0 65) - 1) (by omega) (by omega)
    rw [d, e, if_neg (by omega), show 1000 + (A 32815 0 (((B 11 0 65) - 1))) - 1000 = (A 32815 0 (((B 11 0 65) - 1))) by omega, g.2.1]
    refine ⟨by omega, by omega, by omega, Or.inr ⟨by omega, by omega, by omega⟩⟩
  · exact absurd d c
  · have r := h.run b
    rw [d, e, if_pos (by omega), show 1 + rn B - 1 = rn B by omega]
    exact ⟨rfl, by omega, by omega, Or.inl ⟨rfl, b⟩⟩
/-- a worker holds a resource where the reference says that it has it -/
theorem held_iff {n : Int} {A B : AMem} (h : RL n A B) (w r : Int) (w0 : 0 ≤ w) (w1 : w < 65) (r0 : 0 ≤ r) (r1 : r < 32) : (¬ khf A w r = -1 ↔ (¬ (B 65639 0 (r)) = 0 ∧ own B (B 65639 0 (r)) = w)) := by
  have hc := h.hc w w0 w1
  have e : khf A w r = fnd (fun i : Nat => (A 65587 w (i)) == r) (A 8 (w) 14).toNat 0 := rfl
  rcases fnd_int (fun i => (A 65587 w (i)) == r) (A 8 (w) 14).toNat with ⟨a, b⟩ | ⟨a, b, c, d⟩
  · rw [← e] at a
    constructor
    · exact fun z => absurd a z
    · rintro ⟨z1, z2⟩
      obtain ⟨i, i0, i1⟩ := h.ho r r0 r1 z1
      rw [z2] at i0 i1
      have := b i i0.1 (by omega)
      simp [i1] at this
  · rw [← e] at a b c
    constructor
    · intro _
      have x := h.hd w (khf A w r) w0 w1 a (by omega)
      rw [show (A 65587 w (khf A w r)) = r by simpa using c] at x
      exact x.2
    · intro _ z
      omega
theorem khr_iff {n : Int} {A B : AMem} (h : RL n A B) (w r : Int) (w0 : 0 ≤ w) (w1 : w < 65) (r0 : 0 ≤ r) (r1 : r < 32) (hi : (B 65867 0 (r)) = 0) : (khr A w r ↔ (¬ (B 65639 0 (r)) = 0 ∧ own B (B 65639 0 (r)) = w)) := by
  rw [← held_iff h w r w0 w1 r0 r1]
  unfold khr
  constructor
  · rintro (z | ⟨z1, z2⟩)
    · exact z
    · exfalso
      by_cases c : w < 48
      · obtain ⟨q, q0, q1, q2⟩ := (h.hi w w0 c).mp z1
        have x := (h.sb.hi q q0.1 q0.2 q1)
        have t4 := (h.slot q q0.1 q0.2).2.2 (by omega)
        rw [q2] at x t4
        rw [h.pl.it w w0 t4] at z2
        have := inn_i w x.2
        rw [z2] at this
        exact this hi
      · exact z1 (h.hx w (by omega) w1).1
  · exact fun z => Or.inl z
/-- an internal resource -/
theorem khr_int {n : Int} {A B : AMem} (h : RL n A B) (w r : Int) (w0 : 0 ≤ w) (w1 : w < 65) (r0 : 0 ≤ r) (r1 : r < 32) (hi : ¬ (B 65867 0 (r)) = 0) : (khr A w r ↔ (w < 48 ∧ ∃ q : Int, (0 ≤ q ∧ q < 400) ∧ ¬ (B 819561 0 (q)) = 0 ∧ (B 819297 0 (q)) = w ∧ inn B w = r)) := by
  have hf := held_iff h w r w0 w1 r0 r1
  unfold khr
  constructor
  · rintro (z | ⟨z1, z2⟩)
    · exfalso
      have := hf.mp z
      rcases h.sb.hv r r0 r1 with d | ⟨d, _⟩
      · exact this.1 d
      · exact hi d.2.2
    · by_cases c : w < 48
      · refine ⟨c, ?_⟩
        obtain ⟨q, q0, q1, q2⟩ := (h.hi w w0 c).mp z1
        have x := (h.sb.hi q q0.1 q0.2 q1)
        have t4 := (h.slot q q0.1 q0.2).2.2 (by omega)
        rw [q2] at t4
        rw [h.pl.it w w0 t4] at z2
        exact ⟨q, q0, q1, q2, z2⟩
      · exact absurd (h.hx w (by omega) w1).1 z1
  · rintro ⟨c, q, q0, q1, q2, q3⟩
    right
    have x := (h.sb.hi q q0.1 q0.2 q1)
    have t4 := (h.slot q q0.1 q0.2).2.2 (by omega)
    rw [q2] at t4
    exact ⟨(h.hi w w0 c).mpr ⟨q, q0, q1, q2⟩, by rw [h.pl.it w w0 t4]; exact q3⟩
theorem hif_spec (M : AMem) (rr : Int) (ht : ∀ q : Int, 0 ≤ q → q < 400 → 0 ≤ (M 819297 0 (q))) : ∀ n : Nat, n ≤ 400 → (hif M rr n = -1 ∧ ∀ q : Int, 0 ≤ q → q < n → ¬ (¬ (M 819298 0 (q)) = 0 ∧ ¬ (M 819561 0 (q)) = 0 ∧ inn M (M 819297 0 (q)) = rr)) ∨ (∃ q : Int, (0 ≤ q ∧ q < n) ∧ (¬ (M 819298 0 (q)) = 0 ∧ ¬ (M 819561 0 (q)) = 0 ∧ inn M (M 819297 0 (q)) = rr) ∧ hif M rr n = (M 819297 0 (q)) ∧ ∀ p : Int, 0 ≤ p → p < n → (¬ (M 819298 0 (p)) = 0 ∧ ¬ (M 819561 0 (p)) = 0 ∧ inn M (M 819297 0 (p)) = rr) → (M 819297 0 (q)) ≤ (M 819297 0 (p)))
  | 0, _ => Or.inl ⟨rfl, fun q a b => by omega⟩
  | n + 1, hn => by
    have t0 := ht n (by omega) (by omega)
    have e : hif M rr (n + 1) = if ¬ (M 819298 0 (n)) = 0 ∧ ¬ (M 819561 0 (n)) = 0 ∧ inn M (M 819297 0 (n)) = rr ∧ (hif M rr n = -1 ∨ (M 819297 0 (n)) < hif M rr n) then (M 819297 0 (n)) else hif M rr n := rfl
    rw [e]
    rcases hif_spec M rr ht n (by omega) with ⟨h1, h2⟩ | ⟨q, h1, h2, h3, h4⟩
    · by_cases c : ¬ (M 819298 0 (n)) = 0 ∧ ¬ (M 819561 0 (n)) = 0 ∧ inn M (M 819297 0 (n)) = rr
      · rw [if_pos ⟨c.1, c.2.1, c.2.2, Or.inl h1⟩]
        refine Or.inr ⟨n, ⟨by omega, by omega⟩, c, rfl, fun p p0 p1 pc => ?_⟩
        by_cases d : p = n
        · subst d; omega
        · exact absurd pc (h2 p p0 (by omega))
      · rw [if_neg (fun z => c ⟨z.1, z.2.1, z.2.2.1⟩)]
        refine Or.inl ⟨h1, fun p p0 p1 pc => ?_⟩
        by_cases d : p = n
        · subst d; exact c pc
        · exact h2 p p0 (by omega) pc
    · have q0 := ht q h1.1 (by omega)
      by_cases c : (¬ (M 819298 0 (n)) = 0 ∧ ¬ (M 819561 0 (n)) = 0 ∧ inn M (M 819297 0 (n)) = rr) ∧ (M 819297 0 (n)) < hif M rr n
      · rw [if_pos ⟨c.1.1, c.1.2.1, c.1.2.2, Or.inr c.2⟩]
        refine Or.inr ⟨n, ⟨by omega, by omega⟩, c.1, rfl, fun p p0 p1 pc => ?_⟩
        by_cases d : p = n
        · subst d; omega
        · have := h4 p p0 (by omega) pc
          omega
      · rw [if_neg (fun z => c ⟨⟨z.1, z.2.1, z.2.2.1⟩, by omega⟩)]
        refine Or.inr ⟨q, ⟨by omega, by omega⟩, h2, h3, fun p p0 p1 pc => ?_⟩
        by_cases d : p = n
        · subst d
          by_cases f : (M 819297 0 (n)) < hif M rr n
          · exact absurd ⟨pc, f⟩ c
          · omega
        · exact h4 p p0 (by omega) pc
theorem kho_eq {n : Int} {A B : AMem} (h : RL n A B) (r : Int) (r0 : 0 ≤ r) (r1 : r < mrs B) : kho A r = hvo B r := by
  have hm := h.mB
  have m5 : (0 ≤ (B 14408 0 (5)) ∧ (B 14408 0 (5)) ≤ 16) ∧ (0 ≤ (B 14408 0 (4)) ∧ (B 14408 0 (4)) ≤ 48) := by unfold MB at hm; omega
  have r2 : r < 32 := by have := h.mrB; omega
  have e4 : kh4 A r = fnd (fun t : Nat => decide (khr A t r)) (B 14408 0 (4)).toNat 0 := by unfold kh4; rw [h.pl.t4]
  have e5 : kh5 A r = fnd (fun t : Nat => decide (khr A (48 + t) r)) (B 14408 0 (5)).toNat 0 := by unfold kh5; rw [h.pl.t5]
  unfold kho hvo
  by_cases hi : (B 65867 0 (r)) = 0
  · rw [if_pos hi]
    have k := fun w w0 w1 => khr_iff h w r w0 w1 r0 r2 hi
    rcases h.sb.hv r r0 r2 with d | ⟨_, _, ⟨d1, d2, d3⟩ | ⟨d1, d2, d3⟩⟩
    · have x4 : kh4 A r = -1 := by
        rw [e4]
        exact fnd_none (fun t => decide (khr A t r)) _ (fun y y0 y1 => by
          simp only [decide_eq_false_iff_not]
          rw [k y y0 (by omega)]
          exact fun z => z.1 d)
      have x5 : kh5 A r = -1 := by
        rw [e5]
        exact fnd_none (fun t => decide (khr A (48 + t) r)) _ (fun y y0 y1 => by
          simp only [decide_eq_false_iff_not]
          rw [k (48 + y) (by omega) (by omega)]
          exact fun z => z.1 d)
      rw [if_pos x4, if_pos x5, if_pos d]
    · have s := h.slot ((B 65639 0 (r)) - 1) (by omega) (by omega)
      have s4 := s.2.2 (by omega)
      have ow : own B (B 65639 0 (r)) = (B 819297 0 ((B 65639 0 (r)) - 1)) := by unfold own; rw [if_pos (by omega)]
      have x4 : kh4 A r = (B 819297 0 ((B 65639 0 (r)) - 1)) := by
        rw [e4]
        exact fnd_uni (fun t => decide (khr A t r)) _ _ s.2.1.1 (by omega) (by
          simp only [decide_eq_true_eq]
          rw [k _ s.2.1.1 (by omega)]
          exact ⟨by omega, ow⟩) (fun y y0 y1 yz => by
          simp only [decide_eq_true_eq] at yz
          rw [k y y0 (by omega)] at yz
          rw [← ow]
          exact yz.2.symm)
      rw [if_neg (by omega), if_neg (by omega), if_neg (by omega), x4]
    · have ow : own B (B 65639 0 (r)) = 48 + ((B 65639 0 (r)) - 1000) := by unfold own; rw [if_neg (by omega)]
      have x4 : kh4 A r = -1 := by
        rw [e4]
        exact fnd_none (fun t => decide (khr A t r)) _ (fun y y0 y1 => by
          simp only [decide_eq_false_iff_not]
          rw [k y y0 (by omega)]
          exact fun z => by omega)
      have x5 : kh5 A r = (B 65639 0 (r)) - 1000 := by
        rw [e5]
        exact fnd_uni (fun t => decide (khr A (48 + t) r)) _ _ (by omega) (by omega) (by
          simp only [decide_eq_true_eq]
          rw [k _ (by omega) (by omega)]
          exact ⟨by omega, ow⟩) (fun y y0 y1 yz => by
          simp only [decide_eq_true_eq] at yz
          rw [k (48 + y) (by omega) (by omega)] at yz
          omega)
      rw [if_pos x4, if_neg (by omega), if_neg (by omega), if_pos d1, x5]
      omega
  · rw [if_neg hi]
    have k := fun w w0 w1 => khr_int h w r w0 w1 r0 r2 hi
    have x5 : kh5 A r = -1 := by
      rw [e5]
      exact fnd_none (fun t => decide (khr A (48 + t) r)) _ (fun y y0 y1 => by
        simp only [decide_eq_false_iff_not]
        rw [k (48 + y) (by omega) (by omega)]
        exact fun z => by omega)
    have goal : kh4 A r = hif B r 400 := by
      rw [e4]
      rcases hif_spec B r (fun q a b => (h.slot q a b).2.1.1) 400 (by omega) with ⟨a, b⟩ | ⟨q, q0, q1, q2, q3⟩
      · rw [a]
        exact fnd_none (fun t => decide (khr A t r)) _ (fun y y0 y1 => by
          simp only [decide_eq_false_iff_not]
          rw [k y y0 (by omega)]
          rintro ⟨_, p, p0, p1, p2, p3⟩
          exact b p p0.1 (by omega) ⟨by have := (h.sb.hi p p0.1 p0.2 p1).1; omega, p1, by rw [p2]; exact p3⟩)
      · rw [q2]
        have s := h.slot q q0.1 (by omega)
        have s4 := s.2.2 q1.1
        rcases fnd_int (fun t => decide (khr A t r)) (B 14408 0 (4)).toNat with ⟨a, b⟩ | ⟨a, b, c, d⟩
        · have := b (B 819297 0 (q)) s.2.1.1 (by omega)
          simp only [decide_eq_false_iff_not] at this
          exact absurd ((k _ s.2.1.1 (by omega)).mpr ⟨by omega, q, ⟨q0.1, by omega⟩, q1.2.1, rfl, q1.2.2⟩) this
        · generalize fnd (fun t : Nat => decide (khr A t r)) (B 14408 0 (4)).toNat 0 = f at a b c d ⊢
          simp only [decide_eq_true_eq] at c
          rw [k f a (by omega)] at c
          obtain ⟨_, p, p0, p1, p2, p3⟩ := c
          have x := q3 p p0.1 (by omega) ⟨by have := (h.sb.hi p p0.1 p0.2 p1).1; omega, p1, by rw [p2]; exact p3⟩
          by_cases z : (B 819297 0 (q)) < f
          · have y := d (B 819297 0 (q)) s.2.1.1 z
            simp only [decide_eq_false_iff_not] at y
            exact absurd ((k _ s.2.1.1 (by omega)).mpr ⟨by omega, q, ⟨q0.1, by omega⟩, q1.2.1, rfl, q1.2.2⟩) y
          · omega
    rw [goal, x5, if_pos rfl]
    by_cases z : hif B r 400 = -1
    · rw [if_pos z, z]
    · rw [if_neg z]
/-- a resource has one holder at most -/
theorem khs_1 {n : Int} {A B : AMem} (h : RL n A B) (r : Int) (r0 : 0 ≤ r) (r1 : r < (A 14370 0 (2))) (hi : (A 65837 0 (r)) = 0) : khs A r ≤ 1 := by
  have hm := h.mB
  have m5 : (0 ≤ (B 14408 0 (5)) ∧ (B 14408 0 (5)) ≤ 16) ∧ (0 ≤ (B 14408 0 (4)) ∧ (B 14408 0 (4)) ≤ 48) := by unfold MB at hm; omega
  rw [h.pl.t2] at r1
  have r2 : r < 32 := by have := h.mrB; omega
  rw [(h.pl.ir r r0 r1).1] at hi
  have k := fun w w0 w1 => khr_iff h w r w0 w1 r0 r2 hi
  unfold khs
  rw [h.pl.t4, h.pl.t5]
  by_cases c : own B (B 65639 0 (r)) < 48
  · rw [cnt_0 (p := fun t : Nat => decide (khr A (48 + t) r)) (B 14408 0 (5)).toNat (fun j hj => by
      simp only [decide_eq_false_iff_not]
      rw [k (48 + j) (by omega) (by omega)]
      exact fun z => by omega)]
    have := cnt_1 (p := fun t : Nat => decide (khr A t r)) (B 14408 0 (4)).toNat (fun i j hi hj a b => by
      simp only [decide_eq_true_eq] at a b
      rw [k i (by omega) (by omega)] at a
      rw [k j (by omega) (by omega)] at b
      omega)
    omega
  · rw [cnt_0 (p := fun t : Nat => decide (khr A t r)) (B 14408 0 (4)).toNat (fun j hj => by
      simp only [decide_eq_false_iff_not]
      rw [k j (by omega) (by omega)]
      exact fun z => by omega)]
    have := cnt_1 (p := fun t : Nat => decide (khr A (48 + t) r)) (B 14408 0 (5)).toNat (fun i j hi hj a b => by
      simp only [decide_eq_true_eq] at a b
      rw [k (48 + i) (by omega) (by omega)] at a
      rw [k (48 + j) (by omega) (by omega)] at b
      omega)
    omega
/-- the audit finds nothing -/
theorem RL.kA {n : Int} {A B : AMem} (h : RL n A B) (s : Std A) : KA A := by
  intro ⟨a, b⟩
  refine ⟨?_, fun r r0 r1 hi => khs_1 h r r0 r1 hi⟩
  by_cases c : (A 6 0 2) = 0
  · rw [h.on.1] at c
    have o := (h.of c).1
    rw [kdu_eq h]
    rintro ⟨x, _⟩
    rcases topf_spec B 400 with ⟨y, _⟩ | ⟨y, z, _⟩
    · exact x y
    · have := o _ y.1 (by omega)
      omega
  · exact (s c a).2 b
def tkA (A : AMem) (r : Int) : AMem := (mup (mup A 65587 (kw A) ((A 8 ((kw A)) 14)) (r)) 8 ((kw A)) 14 ((A 8 ((kw A)) 14) + 1))
def tkB (B : AMem) (r : Int) : AMem := (mup (mup (mup B 65639 0 (r) (wk B)) 11 0 58 ((B 11 0 58) + 1)) 66152 0 (r) ((B 11 0 58) + 1))
/-- the resources of READY requests stay -/
theorem SB.hvch {B B' : AMem} (s : SB B) (m : MB B) (k : frR B B') (r : Int) (v : Int)
    (e1 : ∀ x : Int, (B' 819298 0 (x)) = (B 819298 0 (x)) ∧ (B' 819297 0 (x)) = (B 819297 0 (x)) ∧ (B' 819299 0 (x)) = (B 819299 0 (x)) ∧ (B' 819812 0 (x)) = (B 819812 0 (x)) ∧ (B' 819561 0 (x)) = (B 819561 0 (x)))
    (e2 : ∀ x : Int, (B' 65639 0 (x)) = if x = r then v else (B 65639 0 (x))) (e3 : ∀ x : Int, ¬ x = r → (B' 66152 0 (x)) = (B 66152 0 (x))) (e4 : (B 11 0 58) ≤ (B' 11 0 58)) (e5 : ∀ i : Int, (B' 32875 0 (i)) = (B 32875 0 (i)))
    (a1 : ∀ q : Int, 0 ≤ q → q < 400 → (B 819298 0 (q)) = 1 → ¬ v = 1 + q ∧ ¬ (B 65639 0 (r)) = 1 + q)
    (a2 : v = 0 ∨ ((r < mrs B ∧ ¬ (B 14408 0 (2)) = 0 ∧ (B 65867 0 (r)) = 0) ∧ (B' 66152 0 (r)) ≤ (B' 11 0 58) ∧ ((v = 1 + rn B ∧ ¬ rn B = -1) ∨ (1000 ≤ v ∧ v < 1000 + (B 14408 0 (5)) ∧ ¬ (B 32875 0 (v - 1000)) = -1)))) : SB B' := by
  have er : rn B' = rn B := rn_cg (fun q _ _ => (e1 q).1)
  have l1 : ∀ q : Int, ldd B' q → ldd B q ∨ v = 1 + q := fun q z => by
    rcases z with z | ⟨x, x0, z⟩
    · rw [(e1 q).2.2.2.2] at z; exact Or.inl (Or.inl z)
    · rw [e2] at z
      by_cases c : x = r
      · rw [if_pos c] at z; exact Or.inr z
      · rw [if_neg c] at z; exact Or.inl (Or.inr ⟨x, x0, z⟩)
  have ah : ∀ x y : Int, (ahb B' x y ↔ ahb B x y) := fun x y => by
    show ahp _ _ _ _ ↔ ahp _ _ _ _
    unfold ahp
    simp only [(e1 x).2.2.1, (e1 y).2.2.1, (e1 x).2.2.2.1, (e1 y).2.2.2.1]
  have rnr : ¬ rn B = -1 → (0 ≤ rn B ∧ rn B < 400) ∧ (B 819298 0 (rn B)) = 2 := fun z => by
    rcases rn_spec B with ⟨a, _⟩ | a
    · exact absurd a z
    · exact a
  have v2 : ∀ q : Int, 0 ≤ q → q < 400 → v = 1 + q → (B 819298 0 (q)) = 2 := fun q q0 q1 z => by
    rcases a2 with a | ⟨_, _, a | a⟩
    · omega
    · have := rnr a.2
      rw [show q = rn B by omega]
      exact this.2
    · omega
  have m4 : (B' 14408 0 (4)) = (B 14408 0 (4)) := k _ _ _ rfl
  have m5 : (B' 14408 0 (5)) = (B 14408 0 (5)) := k _ _ _ rfl
  have m2 : (B' 14408 0 (2)) = (B 14408 0 (2)) := k _ _ _ rfl
  have ir : ∀ r, (B' 65867 0 (r)) = (B 65867 0 (r)) := fun r => k _ _ _ rfl
  have ev : ∀ r, (B' 98388 0 (r)) = (B 98388 0 (r)) := fun r => k _ _ _ rfl
  refine SB.mk (fun x x0 x1 => ?_) (fun x x0 x1 z => ?_) (fun x x0 x1 => ?_) (fun x x0 x1 => ?_) (fun x x0 x1 => ?_) (fun x x0 x1 => ?_) (fun x p x0 x1 p0 p1 xp xs ps tt hl => ?_) (fun x x0 x1 z => ?_) (by have := s.se; omega)
  · rw [(e1 x).1, (e1 x).2.1, m4]; exact s.rg x x0 x1
  · rw [(e1 x).1] at z; rw [er]; exact s.r1 x x0 x1 z
  · rw [(e1 x).2.2.2.1]; have := s.ky x x0 x1; omega
  · rw [(e1 x).1, (e1 x).2.1, (e1 x).2.2.2.2, k.inE]; exact s.hi x x0 x1
  · rw [(e1 x).1, (e1 x).2.1, ev]; exact s.wt x x0 x1
  · rw [k.mrE, m2, m5, ir, e2, e5, (e1 _).1]
    by_cases c : x = r
    · rw [if_pos c, c]
      rcases a2 with a | ⟨a, b, d⟩
      · exact Or.inl a
      · refine Or.inr ⟨a, b, ?_⟩
        rcases d with d | d
        · have := rnr d.2
          exact Or.inl ⟨by omega, by omega, Or.inr (by rw [show v - 1 = rn B by omega]; exact this.2)⟩
        · exact Or.inr d
    · rw [if_neg c, e3 x c]
      rcases s.hv x x0 x1 with d | ⟨d, f, g⟩
      · exact Or.inl d
      · exact Or.inr ⟨d, by omega, g⟩
  · rw [(e1 x).1] at xs hl ⊢
    rw [(e1 p).1] at ps ⊢
    rw [(e1 x).2.1, (e1 p).2.1] at tt
    rw [ah]
    have hl2 : ldd B x ∨ (B 819298 0 (x)) = 2 := by
      rcases hl with z | z
      · rcases l1 x z with y | y
        · exact Or.inl y
        · exact Or.inr (v2 x x0 x1 y)
      · exact Or.inr z
    have u := s.ld x p x0 x1 p0 p1 xp xs ps tt hl2
    refine ⟨u.1, fun z => ?_, u.2.2⟩
    rcases l1 p z with y | y
    · exact u.2.1 y
    · have := v2 p p0 p1 y
      omega
  · rw [(e1 x).1] at z
    have a := a1 x x0 x1 z
    rw [(e1 x).2.2.1, cpr_cg k m (w := 1 + x) (fun y y0 y1 => by
      rw [e2]
      by_cases c : y = r
      · rw [if_pos c, c]; exact ⟨fun w => absurd w a.1, fun w => absurd w a.2⟩
      · rw [if_neg c]) (by rw [show 1 + x - 1 = x by omega]; exact (e1 x).2.1) (by rw [show 1 + x - 1 = x by omega]; exact (e1 x).2.2.2.2)]
    exact s.rx x x0 x1 z
set_option maxHeartbeats 1000000 in
theorem rl_tk {n : Int} {A B : AMem} (h : RL n A B) (ho : ¬ (B 11 0 50) = 0) (hw : ¬ wk B = 0) (r : Int) (r0 : 0 ≤ r) (r1 : r < mrs B) (hi : (B 65867 0 (r)) = 0) (hf : (B 65639 0 (r)) = 0) : RL (n + 1) (tkA A r) (tkB B r) := by
  have r2 : r < 32 := by have := h.mrB; omega
  obtain ⟨ow, kwb, m2, wo⟩ := own_wk h hw
  have hs := h.sb.se
  have hn := h.no
  have fc : frC A (tkA A r) := frC.up rfl (frC.up rfl (frC.rf A))
  have fr : frR B (tkB B r) := frR.up rfl (frR.up rfl (frR.up rfl (frR.rf B)))
  have e2 : ∀ x, ((tkB B r) 65639 0 (x)) = if x = r then wk B else (B 65639 0 (x)) := fun x => by unfold tkB; simp only [mup_same, mu_ng, mu_ni, mu_xi, mu_xt, cq_fr, rn_fr, mrs_fr, inn_fr, cpr_fr, opr_fr, ldd_fr, own_fr, ne_eq, Nat.reduceEqDiff, not_false_eq_true, Int.reduceEq, ↓reduceIte]
  have e3 : ∀ x, ((tkB B r) 66152 0 (x)) = if x = r then (B 11 0 58) + 1 else (B 66152 0 (x)) := fun x => by unfold tkB; simp only [mup_same, mu_ng, mu_ni, mu_xi, mu_xt, cq_fr, rn_fr, mrs_fr, inn_fr, cpr_fr, opr_fr, ldd_fr, own_fr, ne_eq, Nat.reduceEqDiff, not_false_eq_true, Int.reduceEq, ↓reduceIte]
  have es : ((tkB B r) 11 0 58) = (B 11 0 58) + 1 := by unfold tkB; simp only [mup_same, mu_ng, mu_ni, mu_xi, mu_xt, cq_fr, rn_fr, mrs_fr, inn_fr, cpr_fr, opr_fr, ldd_fr, own_fr, ne_eq, Nat.reduceEqDiff, not_false_eq_true, Int.reduceEq, ↓reduceIte]
  have eo : ∀ x, own (tkB B r) x = own B x := fun x => by unfold tkB; simp only [mup_same, mu_ng, mu_ni, mu_xi, mu_xt, cq_fr, rn_fr, mrs_fr, inn_fr, cpr_fr, opr_fr, ldd_fr, own_fr, ne_eq, Nat.reduceEqDiff, not_false_eq_true, Int.reduceEq, ↓reduceIte]
  have f1 : ∀ w, ((tkA A r) 8 (w) 14) = if w = kw A then (A 8 ((kw A)) 14) + 1 else (A 8 (w) 14) := fun w => by unfold tkA; simp only [mup_same, mu_ng, mu_ni, mu_xi, mu_xt, cq_fr, rn_fr, mrs_fr, inn_fr, cpr_fr, opr_fr, ldd_fr, own_fr, ne_eq, Nat.reduceEqDiff, not_false_eq_true, Int.reduceEq, ↓reduceIte]
  have f2 : ∀ w i, ((tkA A r) 65587 w (i)) = if w = kw A ∧ i = (A 8 ((kw A)) 14) then r else (A 65587 w (i)) := fun w i => by
    unfold tkA
    rw [mu_ng (by decide)]
    unfold mup
    by_cases c : w = kw A ∧ i = (A 8 ((kw A)) 14)
    · rw [if_pos c, if_pos ⟨rfl, c.1, c.2⟩]
    · rw [if_neg c, if_neg (fun z => c z.2)]
  have hc := h.hc (kw A) kwb.1 (by omega)
  have nr : ∀ w i : Int, 0 ≤ w → w < 65 → 0 ≤ i → i < (A 8 (w) 14) → ¬ (A 65587 w (i)) = r := fun w i w0 w1 i0 i1 z => by
    have := (h.hd w i w0 w1 i0 i1).2.1
    rw [z] at this
    exact this hf
  have sb : SB (tkB B r) := SB.hvch h.sb h.mB fr r (wk B) (fun x => by unfold tkB; simp only [mup_same, mu_ng, mu_ni, mu_xi, mu_xt, cq_fr, rn_fr, mrs_fr, inn_fr, cpr_fr, opr_fr, ldd_fr, own_fr, ne_eq, Nat.reduceEqDiff, not_false_eq_true, Int.reduceEq, ↓reduceIte]; exact ⟨trivial, trivial, trivial, trivial, trivial⟩) e2 (fun x xn => by rw [e3, if_neg xn]) (by omega) (fun i => by unfold tkB; simp only [mup_same, mu_ng, mu_ni, mu_xi, mu_xt, cq_fr, rn_fr, mrs_fr, inn_fr, cpr_fr, opr_fr, ldd_fr, own_fr, ne_eq, Nat.reduceEqDiff, not_false_eq_true, Int.reduceEq, ↓reduceIte]) (fun q q0 q1 qs => ⟨fun z => by
      rcases wo with ⟨a, b⟩ | ⟨a, _⟩
      · have := h.run b
        rw [show q = rn B by omega] at qs
        omega
      · omega, by omega⟩) (Or.inr ⟨⟨r1, m2, hi⟩, by rw [e3, if_pos rfl]; omega, wo⟩)
  refine RL.mk (h.pl.fr fc fr) sb ?_ ?_ ?_ ?_ ?_ ?_ ?_ ?_ ?_ ?_ ?_ ?_ ?_ ?_ ?_ ?_ ?_ ?_ ?_ ?_ ?_ ?_ ?_ ?_ ?_ ?_ ?_ ?_ ?_
  · simp only [mup_same, mu_ng, mu_ni, mu_xi, mu_xt, cq_fr, rn_fr, mrs_fr, inn_fr, cpr_fr, opr_fr, ldd_fr, own_fr, ne_eq, Nat.reduceEqDiff, not_false_eq_true, Int.reduceEq, ↓reduceIte, tkA, tkB]; exact h.on
  · simp only [mup_same, mu_ng, mu_ni, mu_xi, mu_xt, cq_fr, rn_fr, mrs_fr, inn_fr, cpr_fr, opr_fr, ldd_fr, own_fr, ne_eq, Nat.reduceEqDiff, not_false_eq_true, Int.reduceEq, ↓reduceIte, tkA, tkB]; exact h.sh
  · rw [es]; simp only [mup_same, mu_ng, mu_ni, mu_xi, mu_xt, cq_fr, rn_fr, mrs_fr, inn_fr, cpr_fr, opr_fr, ldd_fr, own_fr, ne_eq, Nat.reduceEqDiff, not_false_eq_true, Int.reduceEq, ↓reduceIte, tkA, tkB]; omega
  · simp only [mup_same, mu_ng, mu_ni, mu_xi, mu_xt, cq_fr, rn_fr, mrs_fr, inn_fr, cpr_fr, opr_fr, ldd_fr, own_fr, ne_eq, Nat.reduceEqDiff, not_false_eq_true, Int.reduceEq, ↓reduceIte, tkA, tkB]; exact h.na
  · simp only [mup_same, mu_ng, mu_ni, mu_xi, mu_xt, cq_fr, rn_fr, mrs_fr, inn_fr, cpr_fr, opr_fr, ldd_fr, own_fr, ne_eq, Nat.reduceEqDiff, not_false_eq_true, Int.reduceEq, ↓reduceIte, tkA, tkB]; exact h.bt
  · simp only [mup_same, mu_ng, mu_ni, mu_xi, mu_xt, cq_fr, rn_fr, mrs_fr, inn_fr, cpr_fr, opr_fr, ldd_fr, own_fr, ne_eq, Nat.reduceEqDiff, not_false_eq_true, Int.reduceEq, ↓reduceIte, tkA, tkB]; exact h.cu
  · simp only [mup_same, mu_ng, mu_ni, mu_xi, mu_xt, cq_fr, rn_fr, mrs_fr, inn_fr, cpr_fr, opr_fr, ldd_fr, own_fr, ne_eq, Nat.reduceEqDiff, not_false_eq_true, Int.reduceEq, ↓reduceIte, tkA, tkB]; exact h.rq
  · simp only [mup_same, mu_ng, mu_ni, mu_xi, mu_xt, cq_fr, rn_fr, mrs_fr, inn_fr, cpr_fr, opr_fr, ldd_fr, own_fr, ne_eq, Nat.reduceEqDiff, not_false_eq_true, Int.reduceEq, ↓reduceIte, tkA, tkB]; exact h.wa
  · simp only [mup_same, mu_ng, mu_ni, mu_xi, mu_xt, cq_fr, rn_fr, mrs_fr, inn_fr, cpr_fr, opr_fr, ldd_fr, own_fr, ne_eq, Nat.reduceEqDiff, not_false_eq_true, Int.reduceEq, ↓reduceIte, tkA, tkB]; exact h.wf
  · simp only [mup_same, mu_ng, mu_ni, mu_xi, mu_xt, cq_fr, rn_fr, mrs_fr, inn_fr, cpr_fr, opr_fr, ldd_fr, own_fr, ne_eq, Nat.reduceEqDiff, not_false_eq_true, Int.reduceEq, ↓reduceIte, tkA, tkB]; exact h.hi
  · simp only [mup_same, mu_ng, mu_ni, mu_xi, mu_xt, cq_fr, rn_fr, mrs_fr, inn_fr, cpr_fr, opr_fr, ldd_fr, own_fr, ne_eq, Nat.reduceEqDiff, not_false_eq_true, Int.reduceEq, ↓reduceIte, tkA, tkB]; exact h.hx
  · intro w w0 w1
    have := h.hc w w0 w1
    rw [f1]
    split <;> omega
  · intro w i w0 w1 i0 i1
    rw [f1] at i1
    rw [f2, eo, e2]
    by_cases c : w = kw A ∧ i = (A 8 ((kw A)) 14)
    · simp only [if_pos c, ↓reduceIte]
      exact ⟨⟨r0, r2⟩, hw, by rw [ow]; exact c.1.symm⟩
    · have i2 : i < (A 8 (w) 14) := by
        by_cases d : w = kw A
        · rw [if_pos d] at i1
          rw [d]
          have : ¬ i = (A 8 ((kw A)) 14) := fun z => c ⟨d, z⟩
          omega
        · rw [if_neg d] at i1; exact i1
      rw [if_neg c, if_neg (nr w i w0 w1 i0 i2)]
      exact h.hd w i w0 w1 i0 i2
  · intro w i j w0 w1 i0 ij j1
    rw [f1] at j1
    rw [f2, f2, e3, e3]
    have i2 : i < (A 8 (w) 14) := by
      by_cases d : w = kw A
      · rw [if_pos d] at j1; rw [d]; omega
      · rw [if_neg d] at j1; omega
    have ci : ¬ (w = kw A ∧ i = (A 8 ((kw A)) 14)) := fun z => by rw [z.1] at i2; omega
    rw [if_neg ci, if_neg (nr w i w0 w1 i0 i2)]
    have xi := h.hd w i w0 w1 i0 i2
    by_cases c : w = kw A ∧ j = (A 8 ((kw A)) 14)
    · rw [if_pos c, if_pos rfl]
      rcases h.sb.hv _ xi.1.1 xi.1.2 with d | ⟨_, d, _⟩
      · exact absurd d xi.2.1
      · omega
    · have j2 : j < (A 8 (w) 14) := by
        by_cases d : w = kw A
        · rw [if_pos d] at j1
          rw [d]
          have : ¬ j = (A 8 ((kw A)) 14) := fun z => c ⟨d, z⟩
          omega
        · rw [if_neg d] at j1; exact j1
      rw [if_neg c, if_neg (nr w j w0 w1 (by omega) j2)]
      exact h.hs w i j w0 w1 i0 ij j2
  · intro x x0 x1 z
    rw [e2] at z
    rw [e2, eo]
    by_cases c : x = r
    · rw [if_pos c, ow, c]
      refine ⟨(A 8 ((kw A)) 14), ⟨hc, by rw [f1, if_pos rfl]; omega⟩, by rw [f2, if_pos ⟨rfl, rfl⟩]⟩
    · rw [if_neg c] at z ⊢
      obtain ⟨i, i0, i1⟩ := h.ho x x0 x1 z
      have ne : ¬ (own B (B 65639 0 (x)) = kw A ∧ i = (A 8 ((kw A)) 14)) := fun y => by rw [y.1] at i0; omega
      refine ⟨i, ⟨i0.1, ?_⟩, by rw [f2, if_neg ne]; exact i1⟩
      rw [f1]
      by_cases d : own B (B 65639 0 (x)) = kw A
      · rw [if_pos d]; rw [d] at i0; omega
      · rw [if_neg d]; exact i0.2
  · simp only [mup_same, mu_ng, mu_ni, mu_xi, mu_xt, cq_fr, rn_fr, mrs_fr, inn_fr, cpr_fr, opr_fr, ldd_fr, own_fr, ne_eq, Nat.reduceEqDiff, not_false_eq_true, Int.reduceEq, ↓reduceIte, tkA, tkB]; exact h.bc
  · simp only [mup_same, mu_ng, mu_ni, mu_xi, mu_xt, cq_fr, rn_fr, mrs_fr, inn_fr, cpr_fr, opr_fr, ldd_fr, own_fr, ne_eq, Nat.reduceEqDiff, not_false_eq_true, Int.reduceEq, ↓reduceIte, tkA, tkB]; exact h.bg
  · simp only [mup_same, mu_ng, mu_ni, mu_xi, mu_xt, cq_fr, rn_fr, mrs_fr, inn_fr, cpr_fr, opr_fr, ldd_fr, own_fr, ne_eq, Nat.reduceEqDiff, not_false_eq_true, Int.reduceEq, ↓reduceIte, tkA, tkB]; exact h.bo
  · simp only [mup_same, mu_ng, mu_ni, mu_xi, mu_xt, cq_fr, rn_fr, mrs_fr, inn_fr, cpr_fr, opr_fr, ldd_fr, own_fr, ne_eq, Nat.reduceEqDiff, not_false_eq_true, Int.reduceEq, ↓reduceIte, tkA, tkB]; exact h.bi
  · simp only [mup_same, mu_ng, mu_ni, mu_xi, mu_xt, cq_fr, rn_fr, mrs_fr, inn_fr, cpr_fr, opr_fr, ldd_fr, own_fr, ne_eq, Nat.reduceEqDiff, not_false_eq_true, Int.reduceEq, ↓reduceIte, tkA, tkB]; exact h.ca
  · simp only [mup_same, mu_ng, mu_ni, mu_xi, mu_xt, cq_fr, rn_fr, mrs_fr, inn_fr, cpr_fr, opr_fr, ldd_fr, own_fr, ne_eq, Nat.reduceEqDiff, not_false_eq_true, Int.reduceEq, ↓reduceIte, tkA, tkB]; exact h.st
  · simp only [mup_same, mu_ng, mu_ni, mu_xi, mu_xt, cq_fr, rn_fr, mrs_fr, inn_fr, cpr_fr, opr_fr, ldd_fr, own_fr, ne_eq, Nat.reduceEqDiff, not_false_eq_true, Int.reduceEq, ↓reduceIte, tkA, tkB]; exact h.co
  · unfold CO; simp only [mup_same, mu_ng, mu_ni, mu_xi, mu_xt, cq_fr, rn_fr, mrs_fr, inn_fr, cpr_fr, opr_fr, ldd_fr, own_fr, ne_eq, Nat.reduceEqDiff, not_false_eq_true, Int.reduceEq, ↓reduceIte, tkA, tkB]; exact h.ko
  · simp only [mup_same, mu_ng, mu_ni, mu_xi, mu_xt, cq_fr, rn_fr, mrs_fr, inn_fr, cpr_fr, opr_fr, ldd_fr, own_fr, ne_eq, Nat.reduceEqDiff, not_false_eq_true, Int.reduceEq, ↓reduceIte, tkA, tkB]; exact h.wg
  · simp only [mup_same, mu_ng, mu_ni, mu_xi, mu_xt, cq_fr, rn_fr, mrs_fr, inn_fr, cpr_fr, opr_fr, ldd_fr, own_fr, ne_eq, Nat.reduceEqDiff, not_false_eq_true, Int.reduceEq, ↓reduceIte, tkA, tkB]; exact h.au
  · simp only [mup_same, mu_ng, mu_ni, mu_xi, mu_xt, cq_fr, rn_fr, mrs_fr, inn_fr, cpr_fr, opr_fr, ldd_fr, own_fr, ne_eq, Nat.reduceEqDiff, not_false_eq_true, Int.reduceEq, ↓reduceIte, tkA, tkB]; exact h.ad
  · simp only [mup_same, mu_ng, mu_ni, mu_xi, mu_xt, cq_fr, rn_fr, mrs_fr, inn_fr, cpr_fr, opr_fr, ldd_fr, own_fr, ne_eq, Nat.reduceEqDiff, not_false_eq_true, Int.reduceEq, ↓reduceIte, tkA, tkB]; exact h.ee
  · simp only [mup_same, mu_ng, mu_ni, mu_xi, mu_xt, cq_fr, rn_fr, mrs_fr, inn_fr, cpr_fr, opr_fr, ldd_fr, own_fr, ne_eq, Nat.reduceEqDiff, not_false_eq_true, Int.reduceEq, ↓reduceIte, tkA, tkB]; exact fun z => absurd z ho
  · simp only [mup_same, mu_ng, mu_ni, mu_xi, mu_xt, cq_fr, rn_fr, mrs_fr, inn_fr, cpr_fr, opr_fr, ldd_fr, own_fr, ne_eq, Nat.reduceEqDiff, not_false_eq_true, Int.reduceEq, ↓reduceIte, tkA, tkB]; exact h.rx
def gvA (A : AMem) : AMem := (mup A 8 ((kw A)) 14 ((A 8 ((kw A)) 14) - 1))
def gvB (B : AMem) (r : Int) : AMem := (mup B 65639 0 (r) (0))
set_option maxHeartbeats 1000000 in
theorem rl_gv {n : Int} {A B : AMem} (h : RL n A B) (ho : ¬ (B 11 0 50) = 0) (hw : ¬ wk B = 0) (r : Int) (hc0 : 0 < (A 8 ((kw A)) 14)) (hl : (A 65587 (kw A) (((A 8 ((kw A)) 14) - 1))) = r) : RL n (gvA A) (gvB B r) := by
  obtain ⟨ow, kwb, m2, wo⟩ := own_wk h hw
  have y := h.hd (kw A) ((A 8 ((kw A)) 14) - 1) kwb.1 (by omega) (by omega) (by omega)
  rw [hl] at y
  have fc : frC A (gvA A) := frC.up rfl (frC.rf A)
  have fr : frR B (gvB B r) := frR.up rfl (frR.rf B)
  have e2 : ∀ x, ((gvB B r) 65639 0 (x)) = if x = r then 0 else (B 65639 0 (x)) := fun x => by unfold gvB; simp only [mup_same, mu_ng, mu_ni, mu_xi, mu_xt, cq_fr, rn_fr, mrs_fr, inn_fr, cpr_fr, opr_fr, ldd_fr, own_fr, ne_eq, Nat.reduceEqDiff, not_false_eq_true, Int.reduceEq, ↓reduceIte]
  have eo : ∀ x, own (gvB B r) x = own B x := fun x => by unfold gvB; simp only [mup_same, mu_ng, mu_ni, mu_xi, mu_xt, cq_fr, rn_fr, mrs_fr, inn_fr, cpr_fr, opr_fr, ldd_fr, own_fr, ne_eq, Nat.reduceEqDiff, not_false_eq_true, Int.reduceEq, ↓reduceIte]
  have e3 : ∀ x, ((gvB B r) 66152 0 (x)) = (B 66152 0 (x)) := fun x => by unfold gvB; simp only [mup_same, mu_ng, mu_ni, mu_xi, mu_xt, cq_fr, rn_fr, mrs_fr, inn_fr, cpr_fr, opr_fr, ldd_fr, own_fr, ne_eq, Nat.reduceEqDiff, not_false_eq_true, Int.reduceEq, ↓reduceIte]
  have f1 : ∀ w, ((gvA A) 8 (w) 14) = if w = kw A then (A 8 ((kw A)) 14) - 1 else (A 8 (w) 14) := fun w => by unfold gvA; simp only [mup_same, mu_ng, mu_ni, mu_xi, mu_xt, cq_fr, rn_fr, mrs_fr, inn_fr, cpr_fr, opr_fr, ldd_fr, own_fr, ne_eq, Nat.reduceEqDiff, not_false_eq_true, Int.reduceEq, ↓reduceIte]
  have f2 : ∀ w i, ((gvA A) 65587 w (i)) = (A 65587 w (i)) := fun w i => by unfold gvA; simp only [mup_same, mu_ng, mu_ni, mu_xi, mu_xt, cq_fr, rn_fr, mrs_fr, inn_fr, cpr_fr, opr_fr, ldd_fr, own_fr, ne_eq, Nat.reduceEqDiff, not_false_eq_true, Int.reduceEq, ↓reduceIte]
  have nr : ∀ w i : Int, 0 ≤ w → w < 65 → 0 ≤ i → i < (if w = kw A then (A 8 ((kw A)) 14) - 1 else (A 8 (w) 14)) → i < (A 8 (w) 14) ∧ ¬ (A 65587 w (i)) = r := fun w i w0 w1 i0 i1 => by
    by_cases c : w = kw A
    · rw [if_pos c] at i1
      rw [c]
      refine ⟨by omega, fun z => ?_⟩
      have := h.hs (kw A) i ((A 8 ((kw A)) 14) - 1) kwb.1 (by omega) i0 (by omega) (by omega)
      rw [z, hl] at this
      omega
    · rw [if_neg c] at i1
      refine ⟨i1, fun z => ?_⟩
      have := (h.hd w i w0 w1 i0 i1).2.2
      rw [z, y.2.2] at this
      exact c this.symm
  have sb : SB (gvB B r) := SB.hvch h.sb h.mB fr r 0 (fun x => by unfold gvB; simp only [mup_same, mu_ng, mu_ni, mu_xi, mu_xt, cq_fr, rn_fr, mrs_fr, inn_fr, cpr_fr, opr_fr, ldd_fr, own_fr, ne_eq, Nat.reduceEqDiff, not_false_eq_true, Int.reduceEq, ↓reduceIte]; exact ⟨trivial, trivial, trivial, trivial, trivial⟩) e2 (fun x xn => e3 x) (by unfold gvB; simp only [mup_same, mu_ng, mu_ni, mu_xi, mu_xt, cq_fr, rn_fr, mrs_fr, inn_fr, cpr_fr, opr_fr, ldd_fr, own_fr, ne_eq, Nat.reduceEqDiff, not_false_eq_true, Int.reduceEq, ↓reduceIte]; omega) (fun i => by unfold gvB; simp only [mup_same, mu_ng, mu_ni, mu_xi, mu_xt, cq_fr, rn_fr, mrs_fr, inn_fr, cpr_fr, opr_fr, ldd_fr, own_fr, ne_eq, Nat.reduceEqDiff, not_false_eq_true, Int.reduceEq, ↓reduceIte]) (fun q q0 q1 qs => ⟨by omega, fun z => by
      have d := y.2.2
      rw [z] at d
      unfold own at d
      rw [if_pos (by omega), show 1 + q - 1 = q by omega] at d
      rcases h.who with ⟨a1, a2, a3, a4⟩ | ⟨a1, a2, a3, a4⟩ | ⟨a1, a2, a3, a4⟩
      · have s := (h.slot q q0 q1).2.1
        omega
      · exact hw a3
      · have ru := h.run a2
        rw [a4] at d
        have u := h.sb.ld (rn B) q ru.1.1 ru.1.2 q0 q1 (fun w => by rw [← w] at qs; omega) (by omega) (by omega) d.symm (Or.inr ru.2.1)
        exact u.2.1 (Or.inr ⟨r, y.1, z⟩)⟩) (Or.inl rfl)
  refine RL.mk (h.pl.fr fc fr) sb ?_ ?_ ?_ ?_ ?_ ?_ ?_ ?_ ?_ ?_ ?_ ?_ ?_ ?_ ?_ ?_ ?_ ?_ ?_ ?_ ?_ ?_ ?_ ?_ ?_ ?_ ?_ ?_ ?_
  · simp only [mup_same, mu_ng, mu_ni, mu_xi, mu_xt, cq_fr, rn_fr, mrs_fr, inn_fr, cpr_fr, opr_fr, ldd_fr, own_fr, ne_eq, Nat.reduceEqDiff, not_false_eq_true, Int.reduceEq, ↓reduceIte, gvA, gvB]; exact h.on
  · simp only [mup_same, mu_ng, mu_ni, mu_xi, mu_xt, cq_fr, rn_fr, mrs_fr, inn_fr, cpr_fr, opr_fr, ldd_fr, own_fr, ne_eq, Nat.reduceEqDiff, not_false_eq_true, Int.reduceEq, ↓reduceIte, gvA, gvB]; exact h.sh
  · simp only [mup_same, mu_ng, mu_ni, mu_xi, mu_xt, cq_fr, rn_fr, mrs_fr, inn_fr, cpr_fr, opr_fr, ldd_fr, own_fr, ne_eq, Nat.reduceEqDiff, not_false_eq_true, Int.reduceEq, ↓reduceIte, gvA, gvB]; exact h.no
  · simp only [mup_same, mu_ng, mu_ni, mu_xi, mu_xt, cq_fr, rn_fr, mrs_fr, inn_fr, cpr_fr, opr_fr, ldd_fr, own_fr, ne_eq, Nat.reduceEqDiff, not_false_eq_true, Int.reduceEq, ↓reduceIte, gvA, gvB]; exact h.na
  · simp only [mup_same, mu_ng, mu_ni, mu_xi, mu_xt, cq_fr, rn_fr, mrs_fr, inn_fr, cpr_fr, opr_fr, ldd_fr, own_fr, ne_eq, Nat.reduceEqDiff, not_false_eq_true, Int.reduceEq, ↓reduceIte, gvA, gvB]; exact h.bt
  · simp only [mup_same, mu_ng, mu_ni, mu_xi, mu_xt, cq_fr, rn_fr, mrs_fr, inn_fr, cpr_fr, opr_fr, ldd_fr, own_fr, ne_eq, Nat.reduceEqDiff, not_false_eq_true, Int.reduceEq, ↓reduceIte, gvA, gvB]; exact h.cu
  · simp only [mup_same, mu_ng, mu_ni, mu_xi, mu_xt, cq_fr, rn_fr, mrs_fr, inn_fr, cpr_fr, opr_fr, ldd_fr, own_fr, ne_eq, Nat.reduceEqDiff, not_false_eq_true, Int.reduceEq, ↓reduceIte, gvA, gvB]; exact h.rq
  · simp only [mup_same, mu_ng, mu_ni, mu_xi, mu_xt, cq_fr, rn_fr, mrs_fr, inn_fr, cpr_fr, opr_fr, ldd_fr, own_fr, ne_eq, Nat.reduceEqDiff, not_false_eq_true, Int.reduceEq, ↓reduceIte, gvA, gvB]; exact h.wa
  · simp only [mup_same, mu_ng, mu_ni, mu_xi, mu_xt, cq_fr, rn_fr, mrs_fr, inn_fr, cpr_fr, opr_fr, ldd_fr, own_fr, ne_eq, Nat.reduceEqDiff, not_false_eq_true, Int.reduceEq, ↓reduceIte, gvA, gvB]; exact h.wf
  · simp only [mup_same, mu_ng, mu_ni, mu_xi, mu_xt, cq_fr, rn_fr, mrs_fr, inn_fr, cpr_fr, opr_fr, ldd_fr, own_fr, ne_eq, Nat.reduceEqDiff, not_false_eq_true, Int.reduceEq, ↓reduceIte, gvA, gvB]; exact h.hi
  · simp only [mup_same, mu_ng, mu_ni, mu_xi, mu_xt, cq_fr, rn_fr, mrs_fr, inn_fr, cpr_fr, opr_fr, ldd_fr, own_fr, ne_eq, Nat.reduceEqDiff, not_false_eq_true, Int.reduceEq, ↓reduceIte, gvA, gvB]; exact h.hx
  · intro w w0 w1
    have := h.hc w w0 w1
    rw [f1]
    split <;> omega
  · intro w i w0 w1 i0 i1
    rw [f1] at i1
    rw [f2, eo, e2]
    have u := nr w i w0 w1 i0 i1
    rw [if_neg u.2]
    exact h.hd w i w0 w1 i0 u.1
  · intro w i j w0 w1 i0 ij j1
    rw [f1] at j1
    rw [f2, f2, e3, e3]
    exact h.hs w i j w0 w1 i0 ij (nr w j w0 w1 (by omega) j1).1
  · intro x x0 x1 z
    rw [e2] at z
    rw [e2, eo]
    by_cases c : x = r
    · rw [if_pos c] at z; exact absurd rfl z
    · rw [if_neg c] at z ⊢
      obtain ⟨i, i0, i1⟩ := h.ho x x0 x1 z
      refine ⟨i, ⟨i0.1, ?_⟩, by rw [f2]; exact i1⟩
      rw [f1]
      by_cases d : own B (B 65639 0 (x)) = kw A
      · rw [if_pos d]
        rw [d] at i0 i1
        have : ¬ i = (A 8 ((kw A)) 14) - 1 := fun w => c (by rw [← i1, w]; exact hl)
        omega
      · rw [if_neg d]; exact i0.2
  · simp only [mup_same, mu_ng, mu_ni, mu_xi, mu_xt, cq_fr, rn_fr, mrs_fr, inn_fr, cpr_fr, opr_fr, ldd_fr, own_fr, ne_eq, Nat.reduceEqDiff, not_false_eq_true, Int.reduceEq, ↓reduceIte, gvA, gvB]; exact h.bc
  · simp only [mup_same, mu_ng, mu_ni, mu_xi, mu_xt, cq_fr, rn_fr, mrs_fr, inn_fr, cpr_fr, opr_fr, ldd_fr, own_fr, ne_eq, Nat.reduceEqDiff, not_false_eq_true, Int.reduceEq, ↓reduceIte, gvA, gvB]; exact h.bg
  · simp only [mup_same, mu_ng, mu_ni, mu_xi, mu_xt, cq_fr, rn_fr, mrs_fr, inn_fr, cpr_fr, opr_fr, ldd_fr, own_fr, ne_eq, Nat.reduceEqDiff, not_false_eq_true, Int.reduceEq, ↓reduceIte, gvA, gvB]; exact h.bo
  · simp only [mup_same, mu_ng, mu_ni, mu_xi, mu_xt, cq_fr, rn_fr, mrs_fr, inn_fr, cpr_fr, opr_fr, ldd_fr, own_fr, ne_eq, Nat.reduceEqDiff, not_false_eq_true, Int.reduceEq, ↓reduceIte, gvA, gvB]; exact h.bi
  · simp only [mup_same, mu_ng, mu_ni, mu_xi, mu_xt, cq_fr, rn_fr, mrs_fr, inn_fr, cpr_fr, opr_fr, ldd_fr, own_fr, ne_eq, Nat.reduceEqDiff, not_false_eq_true, Int.reduceEq, ↓reduceIte, gvA, gvB]; exact h.ca
  · simp only [mup_same, mu_ng, mu_ni, mu_xi, mu_xt, cq_fr, rn_fr, mrs_fr, inn_fr, cpr_fr, opr_fr, ldd_fr, own_fr, ne_eq, Nat.reduceEqDiff, not_false_eq_true, Int.reduceEq, ↓reduceIte, gvA, gvB]; exact h.st
  · simp only [mup_same, mu_ng, mu_ni, mu_xi, mu_xt, cq_fr, rn_fr, mrs_fr, inn_fr, cpr_fr, opr_fr, ldd_fr, own_fr, ne_eq, Nat.reduceEqDiff, not_false_eq_true, Int.reduceEq, ↓reduceIte, gvA, gvB]; exact h.co
  · unfold CO; simp only [mup_same, mu_ng, mu_ni, mu_xi, mu_xt, cq_fr, rn_fr, mrs_fr, inn_fr, cpr_fr, opr_fr, ldd_fr, own_fr, ne_eq, Nat.reduceEqDiff, not_false_eq_true, Int.reduceEq, ↓reduceIte, gvA, gvB]; exact h.ko
  · simp only [mup_same, mu_ng, mu_ni, mu_xi, mu_xt, cq_fr, rn_fr, mrs_fr, inn_fr, cpr_fr, opr_fr, ldd_fr, own_fr, ne_eq, Nat.reduceEqDiff, not_false_eq_true, Int.reduceEq, ↓reduceIte, gvA, gvB]; exact h.wg
  · simp only [mup_same, mu_ng, mu_ni, mu_xi, mu_xt, cq_fr, rn_fr, mrs_fr, inn_fr, cpr_fr, opr_fr, ldd_fr, own_fr, ne_eq, Nat.reduceEqDiff, not_false_eq_true, Int.reduceEq, ↓reduceIte, gvA, gvB]; exact h.au
  · simp only [mup_same, mu_ng, mu_ni, mu_xi, mu_xt, cq_fr, rn_fr, mrs_fr, inn_fr, cpr_fr, opr_fr, ldd_fr, own_fr, ne_eq, Nat.reduceEqDiff, not_false_eq_true, Int.reduceEq, ↓reduceIte, gvA, gvB]; exact h.ad
  · simp only [mup_same, mu_ng, mu_ni, mu_xi, mu_xt, cq_fr, rn_fr, mrs_fr, inn_fr, cpr_fr, opr_fr, ldd_fr, own_fr, ne_eq, Nat.reduceEqDiff, not_false_eq_true, Int.reduceEq, ↓reduceIte, gvA, gvB]; exact h.ee
  · simp only [mup_same, mu_ng, mu_ni, mu_xi, mu_xt, cq_fr, rn_fr, mrs_fr, inn_fr, cpr_fr, opr_fr, ldd_fr, own_fr, ne_eq, Nat.reduceEqDiff, not_false_eq_true, Int.reduceEq, ↓reduceIte, gvA, gvB]; exact fun z => absurd z ho
  · simp only [mup_same, mu_ng, mu_ni, mu_xi, mu_xt, cq_fr, rn_fr, mrs_fr, inn_fr, cpr_fr, opr_fr, ldd_fr, own_fr, ne_eq, Nat.reduceEqDiff, not_false_eq_true, Int.reduceEq, ↓reduceIte, gvA, gvB]; exact h.rx
def eiA (A : AMem) : AMem := (mup A 6 0 7 ((A 6 0 7) - 1))
def eiB (B : AMem) (i : Int) : AMem := (mup (mup B 32875 0 (i) (-1)) 11 0 65 ((B 11 0 65) - 1))
theorem kei_eq (A : AMem) : kei A = knt (eiA A) (60000 + klb A) := by
  unfold kei eiA
  rw [knt_c (by decide) (by decide)]
theorem rl_ei {n : Int} {A B : AMem} (h : RL n A B) (ho : ¬ (B 11 0 50) = 0) (hd0 : 0 < (B 11 0 65)) (hh : nhv B (1000 + (A 32815 0 (((B 11 0 65) - 1))))) : RL n (eiA A) (eiB B (A 32815 0 (((B 11 0 65) - 1)))) := by
  have g := h.bg ((B 11 0 65) - 1) (by omega) (by omega)
  have hb := h.bc
  generalize ei : (A 32815 0 (((B 11 0 65) - 1))) = i at *
  have fc : frC A (eiA A) := frC.up rfl (frC.rf A)
  have fr : frR B (eiB B i) := frR.up rfl (frR.up rfl (frR.rf B))
  have sb0 := h.sb
  have ub : ∀ p : Int, 0 ≤ p → p < (B 11 0 65) - 1 → ¬ (A 32815 0 (p)) = i := fun p p0 p1 z => by
    have a := (h.bg p p0 (by omega)).2.1
    rw [z, g.2.1] at a
    omega
  have sb : SB (eiB B i) := by
    refine SB.mk ?_ ?_ ?_ ?_ ?_ ?_ ?_ ?_ ?_
    · unfold eiB; simp only [mup_same, mu_ng, mu_ni, mu_xi, mu_xt, cq_fr, rn_fr, mrs_fr, inn_fr, cpr_fr, opr_fr, ldd_fr, own_fr, ne_eq, Nat.reduceEqDiff, not_false_eq_true, Int.reduceEq, ↓reduceIte]; exact sb0.rg
    · unfold eiB; simp only [mup_same, mu_ng, mu_ni, mu_xi, mu_xt, cq_fr, rn_fr, mrs_fr, inn_fr, cpr_fr, opr_fr, ldd_fr, own_fr, ne_eq, Nat.reduceEqDiff, not_false_eq_true, Int.reduceEq, ↓reduceIte]; exact sb0.r1
    · unfold eiB; simp only [mup_same, mu_ng, mu_ni, mu_xi, mu_xt, cq_fr, rn_fr, mrs_fr, inn_fr, cpr_fr, opr_fr, ldd_fr, own_fr, ne_eq, Nat.reduceEqDiff, not_false_eq_true, Int.reduceEq, ↓reduceIte]; exact sb0.ky
    · unfold eiB; simp only [mup_same, mu_ng, mu_ni, mu_xi, mu_xt, cq_fr, rn_fr, mrs_fr, inn_fr, cpr_fr, opr_fr, ldd_fr, own_fr, ne_eq, Nat.reduceEqDiff, not_false_eq_true, Int.reduceEq, ↓reduceIte]; exact sb0.hi
    · unfold eiB; simp only [mup_same, mu_ng, mu_ni, mu_xi, mu_xt, cq_fr, rn_fr, mrs_fr, inn_fr, cpr_fr, opr_fr, ldd_fr, own_fr, ne_eq, Nat.reduceEqDiff, not_false_eq_true, Int.reduceEq, ↓reduceIte]; exact sb0.wt
    · intro r r0 r1
      have e := sb0.hv r r0 r1
      unfold eiB
      simp only [mup_same, mu_ng, mu_ni, mu_xi, mu_xt, cq_fr, rn_fr, mrs_fr, inn_fr, cpr_fr, opr_fr, ldd_fr, own_fr, ne_eq, Nat.reduceEqDiff, not_false_eq_true, Int.reduceEq, ↓reduceIte]
      rcases e with e | ⟨e1, e2, e3⟩
      · exact Or.inl e
      · refine Or.inr ⟨e1, e2, ?_⟩
        rcases e3 with e3 | ⟨e3, e4, e5⟩
        · exact Or.inl e3
        · exact Or.inr ⟨e3, e4, by rw [if_neg (fun z => hh r r0 r1 (by omega))]; exact e5⟩
    · unfold eiB; simp only [mup_same, mu_ng, mu_ni, mu_xi, mu_xt, cq_fr, rn_fr, mrs_fr, inn_fr, cpr_fr, opr_fr, ldd_fr, own_fr, ne_eq, Nat.reduceEqDiff, not_false_eq_true, Int.reduceEq, ↓reduceIte]; exact sb0.ld
    · unfold eiB; simp only [mup_same, mu_ng, mu_ni, mu_xi, mu_xt, cq_fr, rn_fr, mrs_fr, inn_fr, cpr_fr, opr_fr, ldd_fr, own_fr, ne_eq, Nat.reduceEqDiff, not_false_eq_true, Int.reduceEq, ↓reduceIte]; exact sb0.rx
    · unfold eiB; simp only [mup_same, mu_ng, mu_ni, mu_xi, mu_xt, cq_fr, rn_fr, mrs_fr, inn_fr, cpr_fr, opr_fr, ldd_fr, own_fr, ne_eq, Nat.reduceEqDiff, not_false_eq_true, Int.reduceEq, ↓reduceIte]; exact sb0.se
  refine RL.mk (h.pl.fr fc fr) sb ?_ ?_ ?_ ?_ ?_ ?_ ?_ ?_ ?_ ?_ ?_ ?_ ?_ ?_ ?_ ?_ ?_ ?_ ?_ ?_ ?_ ?_ ?_ ?_ ?_ ?_ ?_ ?_ ?_
  · simp only [mup_same, mu_ng, mu_ni, mu_xi, mu_xt, cq_fr, rn_fr, mrs_fr, inn_fr, cpr_fr, opr_fr, ldd_fr, own_fr, ne_eq, Nat.reduceEqDiff, not_false_eq_true, Int.reduceEq, ↓reduceIte, eiA, eiB]; exact h.on
  · simp only [mup_same, mu_ng, mu_ni, mu_xi, mu_xt, cq_fr, rn_fr, mrs_fr, inn_fr, cpr_fr, opr_fr, ldd_fr, own_fr, ne_eq, Nat.reduceEqDiff, not_false_eq_true, Int.reduceEq, ↓reduceIte, eiA, eiB]; exact h.sh
  · simp only [mup_same, mu_ng, mu_ni, mu_xi, mu_xt, cq_fr, rn_fr, mrs_fr, inn_fr, cpr_fr, opr_fr, ldd_fr, own_fr, ne_eq, Nat.reduceEqDiff, not_false_eq_true, Int.reduceEq, ↓reduceIte, eiA, eiB]; exact h.no
  · simp only [mup_same, mu_ng, mu_ni, mu_xi, mu_xt, cq_fr, rn_fr, mrs_fr, inn_fr, cpr_fr, opr_fr, ldd_fr, own_fr, ne_eq, Nat.reduceEqDiff, not_false_eq_true, Int.reduceEq, ↓reduceIte, eiA, eiB]; exact h.na
  · simp only [mup_same, mu_ng, mu_ni, mu_xi, mu_xt, cq_fr, rn_fr, mrs_fr, inn_fr, cpr_fr, opr_fr, ldd_fr, own_fr, ne_eq, Nat.reduceEqDiff, not_false_eq_true, Int.reduceEq, ↓reduceIte, eiA, eiB]; exact h.bt
  · simp only [mup_same, mu_ng, mu_ni, mu_xi, mu_xt, cq_fr, rn_fr, mrs_fr, inn_fr, cpr_fr, opr_fr, ldd_fr, own_fr, ne_eq, Nat.reduceEqDiff, not_false_eq_true, Int.reduceEq, ↓reduceIte, eiA, eiB]; exact h.cu
  · simp only [mup_same, mu_ng, mu_ni, mu_xi, mu_xt, cq_fr, rn_fr, mrs_fr, inn_fr, cpr_fr, opr_fr, ldd_fr, own_fr, ne_eq, Nat.reduceEqDiff, not_false_eq_true, Int.reduceEq, ↓reduceIte, eiA, eiB]; exact h.rq
  · simp only [mup_same, mu_ng, mu_ni, mu_xi, mu_xt, cq_fr, rn_fr, mrs_fr, inn_fr, cpr_fr, opr_fr, ldd_fr, own_fr, ne_eq, Nat.reduceEqDiff, not_false_eq_true, Int.reduceEq, ↓reduceIte, eiA, eiB]; exact h.wa
  · simp only [mup_same, mu_ng, mu_ni, mu_xi, mu_xt, cq_fr, rn_fr, mrs_fr, inn_fr, cpr_fr, opr_fr, ldd_fr, own_fr, ne_eq, Nat.reduceEqDiff, not_false_eq_true, Int.reduceEq, ↓reduceIte, eiA, eiB]; exact h.wf
  · simp only [mup_same, mu_ng, mu_ni, mu_xi, mu_xt, cq_fr, rn_fr, mrs_fr, inn_fr, cpr_fr, opr_fr, ldd_fr, own_fr, ne_eq, Nat.reduceEqDiff, not_false_eq_true, Int.reduceEq, ↓reduceIte, eiA, eiB]; exact h.hi
  · simp only [mup_same, mu_ng, mu_ni, mu_xi, mu_xt, cq_fr, rn_fr, mrs_fr, inn_fr, cpr_fr, opr_fr, ldd_fr, own_fr, ne_eq, Nat.reduceEqDiff, not_false_eq_true, Int.reduceEq, ↓reduceIte, eiA, eiB]; exact h.hx
  · simp only [mup_same, mu_ng, mu_ni, mu_xi, mu_xt, cq_fr, rn_fr, mrs_fr, inn_fr, cpr_fr, opr_fr, ldd_fr, own_fr, ne_eq, Nat.reduceEqDiff, not_false_eq_true, Int.reduceEq, ↓reduceIte, eiA, eiB]; exact h.hc
  · simp only [mup_same, mu_ng, mu_ni, mu_xi, mu_xt, cq_fr, rn_fr, mrs_fr, inn_fr, cpr_fr, opr_fr, ldd_fr, own_fr, ne_eq, Nat.reduceEqDiff, not_false_eq_true, Int.reduceEq, ↓reduceIte, eiA, eiB]; exact h.hd
  · simp only [mup_same, mu_ng, mu_ni, mu_xi, mu_xt, cq_fr, rn_fr, mrs_fr, inn_fr, cpr_fr, opr_fr, ldd_fr, own_fr, ne_eq, Nat.reduceEqDiff, not_false_eq_true, Int.reduceEq, ↓reduceIte, eiA, eiB]; exact h.hs
  · simp only [mup_same, mu_ng, mu_ni, mu_xi, mu_xt, cq_fr, rn_fr, mrs_fr, inn_fr, cpr_fr, opr_fr, ldd_fr, own_fr, ne_eq, Nat.reduceEqDiff, not_false_eq_true, Int.reduceEq, ↓reduceIte, eiA, eiB]; exact h.ho
  · simp only [mup_same, mu_ng, mu_ni, mu_xi, mu_xt, cq_fr, rn_fr, mrs_fr, inn_fr, cpr_fr, opr_fr, ldd_fr, own_fr, ne_eq, Nat.reduceEqDiff, not_false_eq_true, Int.reduceEq, ↓reduceIte, eiA, eiB]; omega
  · intro p p0 p1
    have p1 : p < (B 11 0 65) - 1 := by revert p1; unfold eiB; simp only [mup_same, mu_ng, mu_ni, mu_xi, mu_xt, cq_fr, rn_fr, mrs_fr, inn_fr, cpr_fr, opr_fr, ldd_fr, own_fr, ne_eq, Nat.reduceEqDiff, not_false_eq_true, Int.reduceEq, ↓reduceIte]; exact fun z => z
    have x := h.bg p p0 (by omega)
    simp only [mup_same, mu_ng, mu_ni, mu_xi, mu_xt, cq_fr, rn_fr, mrs_fr, inn_fr, cpr_fr, opr_fr, ldd_fr, own_fr, ne_eq, Nat.reduceEqDiff, not_false_eq_true, Int.reduceEq, ↓reduceIte, eiA, eiB]
    rw [if_neg (ub p p0 p1)]
    exact x
  · intro p p0 p1
    have p1 : p + 1 < (B 11 0 65) - 1 := by revert p1; unfold eiB; simp only [mup_same, mu_ng, mu_ni, mu_xi, mu_xt, cq_fr, rn_fr, mrs_fr, inn_fr, cpr_fr, opr_fr, ldd_fr, own_fr, ne_eq, Nat.reduceEqDiff, not_false_eq_true, Int.reduceEq, ↓reduceIte]; exact fun z => z
    simp only [mup_same, mu_ng, mu_ni, mu_xi, mu_xt, cq_fr, rn_fr, mrs_fr, inn_fr, cpr_fr, opr_fr, ldd_fr, own_fr, ne_eq, Nat.reduceEqDiff, not_false_eq_true, Int.reduceEq, ↓reduceIte, eiA, eiB]
    exact h.bo p p0 (by omega)
  · intro j j0 j1
    have x := h.bi j j0 j1
    simp only [mup_same, mu_ng, mu_ni, mu_xi, mu_xt, cq_fr, rn_fr, mrs_fr, inn_fr, cpr_fr, opr_fr, ldd_fr, own_fr, ne_eq, Nat.reduceEqDiff, not_false_eq_true, Int.reduceEq, ↓reduceIte, eiA, eiB]
    by_cases c : j = i
    · simp only [if_pos c]; exact Or.inl trivial
    · simp only [if_neg c]
      rcases x with x | ⟨x, y⟩
      · exact Or.inl x
      · refine Or.inr ⟨⟨x.1, ?_⟩, y⟩
        by_cases d : (B 32875 0 (j)) = (B 11 0 65) - 1
        · rw [d, ei] at y; exact absurd y.symm c
        · omega
  · simp only [mup_same, mu_ng, mu_ni, mu_xi, mu_xt, cq_fr, rn_fr, mrs_fr, inn_fr, cpr_fr, opr_fr, ldd_fr, own_fr, ne_eq, Nat.reduceEqDiff, not_false_eq_true, Int.reduceEq, ↓reduceIte, eiA, eiB]; exact h.ca
  · simp only [mup_same, mu_ng, mu_ni, mu_xi, mu_xt, cq_fr, rn_fr, mrs_fr, inn_fr, cpr_fr, opr_fr, ldd_fr, own_fr, ne_eq, Nat.reduceEqDiff, not_false_eq_true, Int.reduceEq, ↓reduceIte, eiA, eiB]; exact h.st
  · simp only [mup_same, mu_ng, mu_ni, mu_xi, mu_xt, cq_fr, rn_fr, mrs_fr, inn_fr, cpr_fr, opr_fr, ldd_fr, own_fr, ne_eq, Nat.reduceEqDiff, not_false_eq_true, Int.reduceEq, ↓reduceIte, eiA, eiB]; exact h.co
  · unfold CO; simp only [mup_same, mu_ng, mu_ni, mu_xi, mu_xt, cq_fr, rn_fr, mrs_fr, inn_fr, cpr_fr, opr_fr, ldd_fr, own_fr, ne_eq, Nat.reduceEqDiff, not_false_eq_true, Int.reduceEq, ↓reduceIte, eiA, eiB]; exact h.ko
  · simp only [mup_same, mu_ng, mu_ni, mu_xi, mu_xt, cq_fr, rn_fr, mrs_fr, inn_fr, cpr_fr, opr_fr, ldd_fr, own_fr, ne_eq, Nat.reduceEqDiff, not_false_eq_true, Int.reduceEq, ↓reduceIte, eiA, eiB]; exact h.wg
  · simp only [mup_same, mu_ng, mu_ni, mu_xi, mu_xt, cq_fr, rn_fr, mrs_fr, inn_fr, cpr_fr, opr_fr, ldd_fr, own_fr, ne_eq, Nat.reduceEqDiff, not_false_eq_true, Int.reduceEq, ↓reduceIte, eiA, eiB]; exact h.au
  · simp only [mup_same, mu_ng, mu_ni, mu_xi, mu_xt, cq_fr, rn_fr, mrs_fr, inn_fr, cpr_fr, opr_fr, ldd_fr, own_fr, ne_eq, Nat.reduceEqDiff, not_false_eq_true, Int.reduceEq, ↓reduceIte, eiA, eiB]; exact h.ad
  · simp only [mup_same, mu_ng, mu_ni, mu_xi, mu_xt, cq_fr, rn_fr, mrs_fr, inn_fr, cpr_fr, opr_fr, ldd_fr, own_fr, ne_eq, Nat.reduceEqDiff, not_false_eq_true, Int.reduceEq, ↓reduceIte, eiA, eiB]; exact h.ee
  · simp only [mup_same, mu_ng, mu_ni, mu_xi, mu_xt, cq_fr, rn_fr, mrs_fr, inn_fr, cpr_fr, opr_fr, ldd_fr, own_fr, ne_eq, Nat.reduceEqDiff, not_false_eq_true, Int.reduceEq, ↓reduceIte, eiA, eiB]; exact fun z => absurd z ho
  · simp only [mup_same, mu_ng, mu_ni, mu_xi, mu_xt, cq_fr, rn_fr, mrs_fr, inn_fr, cpr_fr, opr_fr, ldd_fr, own_fr, ne_eq, Nat.reduceEqDiff, not_false_eq_true, Int.reduceEq, ↓reduceIte, eiA, eiB]; exact h.rx
