/-! ===== what there is to see, on both sides ===== -/
section RD
variable {n : Int} {A T : AMem}
theorem v_atWork (h : RL n A T) : (if 0 < (A 6 0 7) then 100 + klb A else (A 6 0 5)) = atw T := by
  have bc := h.bc
  unfold atw klb
  rw [bc.1]
  rcases h.who with ⟨a1, a2, a3, a4⟩ | ⟨a1, a2, a3, a4⟩ | ⟨a1, a2, a3, a4⟩
  · rw [if_pos a1, if_pos a1, if_neg (by omega), if_pos (by omega), a3]
    omega
  · rw [if_neg (by omega), if_pos a3]
    exact (h.idle a2).1
  · have ru := h.run a2
    rw [if_neg (by omega), if_neg (by omega), if_neg (by omega), a3, show 1 + rn T - 1 = rn T by omega]
    exact ru.2.2.1
theorem rbf_spec (M : AMem) (t : Int) : ∀ n : Nat, (rbf M t n = -1 ∧ ∀ q : Int, 0 ≤ q → q < n → ¬ ((M 819298 0 (q)) = 1 ∧ (M 819297 0 (q)) = t)) ∨ ((0 ≤ rbf M t n ∧ rbf M t n < n) ∧ ((M 819298 0 (rbf M t n)) = 1 ∧ (M 819297 0 (rbf M t n)) = t) ∧ ∀ q : Int, 0 ≤ q → q < n → ((M 819298 0 (q)) = 1 ∧ (M 819297 0 (q)) = t) → ¬ ahb M q (rbf M t n))
  | 0 => Or.inl ⟨rfl, fun q a b => by omega⟩
  | n + 1 => by
    have ih := rbf_spec M t n
    have e : rbf M t (n + 1) = if (M 819298 0 (n)) = 1 ∧ (M 819297 0 (n)) = t ∧ (rbf M t n = -1 ∨ ((M 819299 0 (rbf M t n)) < (M 819299 0 (n)) ∨ ((M 819299 0 (n)) = (M 819299 0 (rbf M t n)) ∧ (M 819812 0 (n)) < (M 819812 0 (rbf M t n))))) then (n : Int) else rbf M t n := rfl
    rw [e]
    by_cases c : (M 819298 0 (n)) = 1 ∧ (M 819297 0 (n)) = t ∧ (rbf M t n = -1 ∨ ((M 819299 0 (rbf M t n)) < (M 819299 0 (n)) ∨ ((M 819299 0 (n)) = (M 819299 0 (rbf M t n)) ∧ (M 819812 0 (n)) < (M 819812 0 (rbf M t n)))))
    · rw [if_pos c]
      right
      refine ⟨by omega, ⟨c.1, c.2.1⟩, fun q a b s => ?_⟩
      by_cases e : q = n
      · subst e; exact fun z => ahp_irr z
      · rcases ih with ⟨h1, h2⟩ | ⟨h1, h2, h3⟩
        · exact absurd s (h2 q a (by omega))
        · intro z
          have w : ahb M n (rbf M t n) := by
            rcases c.2.2 with d | d
            · omega
            · exact d
          exact h3 q a (by omega) s (ahp_tr z w)
    · rw [if_neg c]
      rcases ih with ⟨h1, h2⟩ | ⟨h1, h2, h3⟩
      · left
        refine ⟨h1, fun q a b s => ?_⟩
        by_cases e : q = n
        · subst e; exact c ⟨s.1, s.2, Or.inl h1⟩
        · exact h2 q a (by omega) s
      · right
        refine ⟨by omega, h2, fun q a b s => ?_⟩
        by_cases e : q = n
        · subst e; exact fun z => c ⟨s.1, s.2, Or.inr z⟩
        · exact h3 q a (by omega) s
/-- the request that is shown for a task -/
theorem rqo_spec (h : RL n A T) (t : Int) : (rqo T t = -1 ∧ ∀ q : Int, 0 ≤ q → q < 400 → (T 819297 0 (q)) = t → (T 819298 0 (q)) = 0) ∨ ((0 ≤ rqo T t ∧ rqo T t < 400) ∧ ¬ (T 819298 0 (rqo T t)) = 0 ∧ (T 819297 0 (rqo T t)) = t ∧ ∀ p : Int, 0 ≤ p → p < 400 → ¬ p = rqo T t → ¬ (T 819298 0 (p)) = 0 → (T 819297 0 (p)) = t → (T 819298 0 (p)) = 1 ∧ ¬ ldd T p) := by
  have e : rqx T t = fnd (fun q : Nat => !((T 819298 0 (q)) == 0) && ((T 819297 0 (q)) == t && !((T 819298 0 (q)) == 1))) 400 0 := rfl
  unfold rqo
  rcases fnd_int (fun q => !((T 819298 0 (q)) == 0) && ((T 819297 0 (q)) == t && !((T 819298 0 (q)) == 1))) 400 with ⟨a, b⟩ | ⟨a, b, c, d⟩
  · rw [← e] at a
    rw [if_pos a]
    have nx : ∀ q : Int, 0 ≤ q → q < 400 → (T 819297 0 (q)) = t → ¬ (T 819298 0 (q)) = 0 → (T 819298 0 (q)) = 1 := fun q q0 q1 qt qs => by
      have := b q q0 (by omega)
      simp [qt, qs] at this
      exact this
    rcases rbf_spec T t 400 with ⟨x, y⟩ | ⟨x, y, z⟩
    · left
      refine ⟨x, fun q q0 q1 qt => ?_⟩
      by_cases w : (T 819298 0 (q)) = 0
      · exact w
      · exact absurd ⟨nx q q0 q1 qt w, qt⟩ (y q q0 (by omega))
    · right
      refine ⟨by omega, by omega, y.2, fun p p0 p1 pn ps pt => ?_⟩
      have s1 := nx p p0 p1 pt ps
      refine ⟨s1, fun w => ?_⟩
      have u := h.sb.ld p (rbf T t 400) p0 p1 x.1 (by omega) pn ps (by omega) (by rw [pt, y.2]) (Or.inl w)
      exact z p p0 (by omega) ⟨s1, pt⟩ (u.2.2 s1)
  · rw [← e] at a b c
    rw [if_neg (by omega)]
    simp only [Bool.and_eq_true, Bool.not_eq_true', beq_eq_false_iff_ne, beq_iff_eq, ne_eq] at c
    right
    have b : rqx T t < 400 := by omega
    refine ⟨⟨a, b⟩, c.1, c.2.1, fun p p0 p1 pn ps pt => ?_⟩
    have s := (h.slot _ a b).1
    have s23 : (T 819298 0 (rqx T t)) = 2 ∨ (T 819298 0 (rqx T t)) = 3 := by omega
    rcases s23 with s2 | s3
    · have u := h.sb.ld (rqx T t) p a b p0 p1 (fun z => pn z.symm) c.1 ps (by rw [pt, c.2.1]) (Or.inr s2)
      exact ⟨u.1, u.2.1⟩
    · exfalso
      have w := h.sb.wt _ a b s3
      exact w (wt_one h p0 p1 a b pn ps c.1 (by rw [pt, c.2.1]))
theorem cnt_sur {p : Nat → Bool} (N : Nat) : ∀ (n : Nat) (g : Nat → Nat), (∀ r, r < N → p r = true → ∃ i, i < n ∧ g i = r) → cnt p N ≤ n
  | 0, g, h => by
    rw [cnt_0 N (fun j hj => by
      cases e : p j
      · rfl
      · obtain ⟨i, hi, _⟩ := h j hj e
        omega)]
    omega
  | n + 1, g, h => by
    have ih := cnt_sur (p := fun r => p r && !(r == g n)) N n g (fun r hr pr => by
      simp only [Bool.and_eq_true, Bool.not_eq_true', beq_eq_false_iff_ne, ne_eq] at pr
      obtain ⟨i, hi, e⟩ := h r hr pr.1
      refine ⟨i, ?_, e⟩
      by_cases c : i = n
      · subst c; exact absurd e.symm pr.2
      · omega)
    by_cases c : g n < N
    · have u := cnt_upd (p := p) (p' := fun r => p r && !(r == g n)) (g n) (fun j hj => by simp [hj]) N c
      rw [if_neg (show ¬ (p (g n) && !(g n == g n)) = true by simp)] at u
      split at u <;> omega
    · have e : cnt (fun r => p r && !(r == g n)) N = cnt p N := cnt_congr N (fun j hj => by
        have : ¬ j = g n := by omega
        simp [this])
      omega
theorem mhf_cnt (M : AMem) (q : Int) : ∀ n : Nat, mhf M q n = (if (M 819561 0 (q)) = 0 then 0 else 1) + cnt (fun r => decide ((M 65639 0 (r)) = 1 + q)) n
  | 0 => by show (if (M 819561 0 (q)) = 0 then (0 : Int) else 1) = _ + 0; omega
  | n + 1 => by
    have e : mhf M q (n + 1) = mhf M q n + if (M 65639 0 (n)) = 1 + q then 1 else 0 := rfl
    have e2 : cnt (fun r => decide ((M 65639 0 (r)) = 1 + q)) (n + 1) = cnt (fun r => decide ((M 65639 0 (r)) = 1 + q)) n + if decide ((M 65639 0 (n)) = 1 + q) = true then 1 else 0 := rfl
    rw [e, e2, mhf_cnt M q n]
    by_cases c : (M 65639 0 (n)) = 1 + q
    · rw [if_pos c, if_pos (decide_eq_true c)]; omega
    · rw [if_neg c, if_neg (show ¬ decide ((M 65639 0 (n)) = 1 + q) = true by simpa using c)]; omega
/-- the shown request's resources are the task's -/
theorem shown (h : RL n A T) (t : Int) (t0 : 0 ≤ t) (t1 : t < (T 14408 0 (4))) (q : Int) (q0 : 0 ≤ q) (q1 : q < 400) (qs : ¬ (T 819298 0 (q)) = 0) (qt : (T 819297 0 (q)) = t) (hu : ∀ p : Int, 0 ≤ p → p < 400 → ¬ p = q → ¬ (T 819298 0 (p)) = 0 → (T 819297 0 (p)) = t → (T 819298 0 (p)) = 1 ∧ ¬ ldd T p) : mhf T q (mrs T).toNat = (A 8 (t) 14) + (if (A 8 (t) 11) = 0 then 0 else 1) := by
  have hm := h.mB
  have m4 : 0 ≤ (T 14408 0 (4)) ∧ (T 14408 0 (4)) ≤ 48 := by unfold MB at hm; omega
  have mr := h.mrB
  have hc := h.hc t t0 (by omega)
  have hh : ∀ r : Int, 0 ≤ r → r < 32 → ¬ (T 65639 0 (r)) = 0 → own T (T 65639 0 (r)) = t → (T 65639 0 (r)) = 1 + q := by
    intro r r0 r1 e f
    rcases h.sb.hv r r0 r1 with d | ⟨d, _, g⟩
    · exact absurd d e
    · unfold own at f
      rcases g with ⟨g1, g2, g3⟩ | ⟨g1, g2, g3⟩
      · rw [if_pos (by omega)] at f
        by_cases c : (T 65639 0 (r)) - 1 = q
        · omega
        · exact absurd (Or.inr ⟨r, ⟨r0, r1⟩, by omega⟩) (hu _ (by omega) (by omega) c (by omega) f).2
      · rw [if_neg (by omega)] at f
        omega
  have owq : own T (1 + q) = t := by unfold own; rw [if_pos (by omega), show 1 + q - 1 = q by omega]; exact qt
  rw [mhf_cnt]
  have c1 : (A 8 (t) 14) ≤ cnt (fun r => decide ((T 65639 0 (r)) = 1 + q)) (mrs T).toNat := by
    have := inj_cnt (mrs T).toNat (A 8 (t) 14).toNat (fun r => decide ((T 65639 0 (r)) = 1 + q)) (fun i => (A 65587 t (i)).toNat) (fun i hi => by
      have x := h.hd t i t0 (by omega) (by omega) (by omega)
      have y := hh _ x.1.1 x.1.2 x.2.1 x.2.2
      have z : (A 65587 t (i)) < mrs T := by
        rcases h.sb.hv _ x.1.1 x.1.2 with d | ⟨d, _⟩
        · exact absurd d x.2.1
        · exact d.1
      refine ⟨by omega, ?_⟩
      rw [show (((A 65587 t (i)).toNat : Nat) : Int) = (A 65587 t (i)) by omega]
      exact decide_eq_true y) (fun i j hi hj e => by
      have x := (h.hd t i t0 (by omega) (by omega) (by omega)).1
      have y := (h.hd t j t0 (by omega) (by omega) (by omega)).1
      have z := h.hs t i j t0 (by omega) (by omega) (by omega) (by omega)
      rw [show (A 65587 t (i)) = (A 65587 t (j)) by omega] at z
      omega)
    omega
  have c2 : cnt (fun r => decide ((T 65639 0 (r)) = 1 + q)) (mrs T).toNat ≤ (A 8 (t) 14) := by
    have := cnt_sur (p := fun r => decide ((T 65639 0 (r)) = 1 + q)) (mrs T).toNat (A 8 (t) 14).toNat (fun i => (A 65587 t (i)).toNat) (fun r hr pr => by
      simp only [decide_eq_true_eq] at pr
      obtain ⟨i, i0, i1⟩ := h.ho r (by omega) (by omega) (by omega)
      rw [pr, owq] at i0 i1
      refine ⟨i.toNat, by omega, ?_⟩
      rw [show ((i.toNat : Nat) : Int) = i by omega, i1]
      omega)
    omega
  have hi : ((T 819561 0 (q)) = 0 ↔ (A 8 (t) 11) = 0) := by
    constructor
    · intro z
      by_cases c : (A 8 (t) 11) = 0
      · exact c
      · exfalso
        obtain ⟨p, p0, p1, p2⟩ := (h.hi t t0 (by omega)).mp c
        have ps := (h.sb.hi p p0.1 p0.2 p1).1
        by_cases d : p = q
        · subst d; exact p1 z
        · exact (hu p p0.1 p0.2 d (by omega) p2).2 (Or.inl p1)
    · intro z
      by_cases c : (T 819561 0 (q)) = 0
      · exact c
      · exact absurd z ((h.hi t t0 (by omega)).mpr ⟨q, ⟨q0, q1⟩, c, qt⟩)
  by_cases c : (T 819561 0 (q)) = 0
  · rw [if_pos c, if_pos (hi.mp c)]; omega
  · rw [if_neg c, if_neg (fun z => c (hi.mpr z))]; omega
theorem v_task (h : RL n A T) (t w : Int) (t0 : 0 ≤ t) (t1 : t < (T 14408 0 (4))) : (if w = 0 then kso A t else if w = 1 then (A 8 (t) 7) else if w = 2 then kcp A t else if w = 3 then (A 8 (t) 14) + (if (A 8 (t) 11) = 0 then 0 else 1) else if w = 4 then (A 8 (t) 0) else if w = 5 then (A 8 (t) 2) else if w = 6 then (if (A 8 (t) 1) = 0 then 0 else 1) else -1) = tskR T t w := by
  have hm := h.mB
  have m4 : 0 ≤ (T 14408 0 (4)) ∧ (T 14408 0 (4)) ≤ 48 := by unfold MB at hm; omega
  have rq := (h.rq t t0 (by omega)).1
  have wa := h.wa t t0 (by omega)
  unfold tskR
  rw [rq, (h.pl.pr t t0 t1).1, (h.pl.lm t t0 t1).1, h.pl.wh t t0 t1]
  rcases rqo_spec h t with ⟨a, b⟩ | ⟨a, b, c, d⟩
  · have r0 : cq T t 400 = 0 := by
      rw [cq_cnt]
      exact cnt_0 400 (fun j hj => by
        simp only [decide_eq_false_iff_not]
        rintro ⟨x, y⟩
        exact x (b j (by omega) (by omega) y))
    have cu : ¬ t = (A 6 0 5) := fun z => by
      by_cases r : rn T = -1
      · have := (h.idle r).1; omega
      · have ru := h.run r
        have := b (rn T) ru.1.1 ru.1.2 (by omega)
        omega
    have w0 : (A 8 (t) 8) = 0 := by
      by_cases z : (A 8 (t) 8) = 0
      · exact z
      · obtain ⟨q, q0, q1, q2⟩ := wa.1.mp z
        have := b q q0.1 q0.2 q2
        omega
    have k0 : kso A t = 0 := by
      unfold kso
      rw [if_neg cu, if_pos w0, if_neg (by omega)]
    have hcz : (A 8 (t) 14) = 0 := by
      have hc := h.hc t t0 (by omega)
      by_cases z : (A 8 (t) 14) = 0
      · exact z
      · exfalso
        obtain ⟨x, y, o⟩ := h.hd t 0 t0 (by omega) (by omega) (by omega)
        rcases h.sb.hv _ x.1 x.2 with d | ⟨_, _, g⟩
        · exact y d
        · unfold own at o
          rcases g with ⟨g1, g2, g3⟩ | ⟨g1, g2, g3⟩
          · rw [if_pos (by omega)] at o
            have := b _ (by omega) (by omega) o
            omega
          · rw [if_neg (by omega)] at o
            omega
    have hiz : (A 8 (t) 11) = 0 := by
      by_cases z : (A 8 (t) 11) = 0
      · exact z
      · obtain ⟨q, q0, q1, q2⟩ := (h.hi t t0 (by omega)).mp z
        have := (h.sb.hi q q0.1 q0.2 q1).1
        have := b q q0.1 q0.2 q2
        omega
    have kp : kcp A t = (T 98385 0 (t)) := by
      unfold kcp kch
      rw [if_neg (fun z => z.1 hiz), hcz, ← (h.pl.pr t t0 t1).1]
      rfl
    simp only [if_pos a, k0, kp, hcz, if_pos hiz, Int.add_zero]
  · have k := h.kcpT (rqo T t) a.1 a.2 b (fun p p0 p1 pn ps pt => (d p p0 p1 pn ps (by rw [pt, c])).2)
    rw [c] at k
    have m := shown h t t0 t1 (rqo T t) a.1 a.2 b c d
    have ne : ¬ rqo T t = -1 := by omega
    have ks : kso A t = (T 819298 0 (rqo T t)) := by
      unfold kso
      have s := (h.slot _ a.1 a.2).1
      by_cases s2 : (T 819298 0 (rqo T t)) = 2
      · have e := h.sb.r1 _ a.1 a.2 s2
        have ru := h.run (by omega)
        rw [if_pos (by rw [ru.2.2.1, ← e, c]), s2]
      · have cu : ¬ t = (A 6 0 5) := fun z => by
          by_cases r : rn T = -1
          · have := (h.idle r).1; omega
          · have ru := h.run r
            have u := (d (rn T) ru.1.1 ru.1.2 (fun w => s2 (by rw [← w]; exact ru.2.1)) (by omega) (by omega)).1
            omega
        rw [if_neg cu]
        by_cases s3 : (T 819298 0 (rqo T t)) = 3
        · rw [if_neg (wa.1.mpr ⟨_, a, s3, c⟩), s3]
        · have w0 : (A 8 (t) 8) = 0 := by
            by_cases z : (A 8 (t) 8) = 0
            · exact z
            · obtain ⟨q, q0, q1, q2⟩ := wa.1.mp z
              have u := (d q q0.1 q0.2 (fun w => s3 (by rw [← w]; exact q1)) (by omega) q2).1
              omega
          have r1 : 1 ≤ cq T t 400 := by
            rw [cq_cnt]
            refine cnt_pos 400 (rqo T t).toNat (by omega) ?_
            rw [show (((rqo T t).toNat : Nat) : Int) = rqo T t by omega]
            exact decide_eq_true ⟨b, c⟩
          rw [if_pos w0, if_pos (by omega)]
          omega
    simp only [if_neg ne, ks, k, m]
theorem v_bits (h : RL n A T) (t w : Int) (t0 : 0 ≤ t) (t1 : t < (T 14408 0 (4))) : (if w = 0 then lAnd (A 8 (t) 3) 4294967295 else if w = 1 then lAnd (A 8 (t) 10) 4294967295 else if w = 2 then lAnd (A 8 (t) 9) 4294967295 else 0) = lAnd (btR T t w) 4294967295 := by
  have hm := h.mB
  have m4 : 0 ≤ (T 14408 0 (4)) ∧ (T 14408 0 (4)) ≤ 48 := by unfold MB at hm; omega
  have wa := h.wa t t0 (by omega)
  have z0 : lAnd 0 4294967295 = 0 := rfl
  unfold btR
  rw [(h.pl.ev t t0 t1).1, (h.st t t0 (by omega)).1]
  by_cases c0 : w = 0
  · rw [if_pos c0, if_pos c0]
  · rw [if_neg c0, if_neg c0]
    by_cases c1 : w = 1
    · rw [if_pos c1, if_pos c1]
    · rw [if_neg c1, if_neg c1]
      by_cases c2 : w = 2
      · rw [if_pos c2]
        rcases rqo_spec h t with ⟨a, b⟩ | ⟨a, b, c, d⟩
        · have w0 : (A 8 (t) 8) = 0 := by
            by_cases z : (A 8 (t) 8) = 0
            · exact z
            · obtain ⟨q, q0, q1, q2⟩ := wa.1.mp z
              have := b q q0.1 q0.2 q2
              omega
          rw [if_neg (fun z => z.2.1 a), wa.2 w0]
        · by_cases s3 : (T 819298 0 (rqo T t)) = 3
          · have wf := h.wf _ a.1 a.2 s3
            rw [c] at wf
            rw [if_pos ⟨c2, by omega, s3⟩, wf]
          · have w0 : (A 8 (t) 8) = 0 := by
              by_cases z : (A 8 (t) 8) = 0
              · exact z
              · obtain ⟨q, q0, q1, q2⟩ := wa.1.mp z
                have u := (d q q0.1 q0.2 (fun w => s3 (by rw [← w]; exact q1)) (by omega) q2).1
                omega
            rw [if_neg (fun z => s3 z.2.2), wa.2 w0]
      · rw [if_neg c2, if_neg (fun z => c2 z.1), z0]
theorem v_resource (h : RL n A T) (r w : Int) (r0 : 0 ≤ r) (r1 : r < mrs T) : (if w = 0 then (A 65579 0 (r)) else if w = 1 then kho A r else if w = 2 then (A 65580 0 (r)) else if w = 3 then (if (A 65837 0 (r)) = 0 then 0 else 1) else -1) = (if w = 0 then (if (T 14408 0 (2)) = 0 then -1 else (T 65613 0 (r))) else if w = 1 then hvo T r else if w = 2 then (T 65612 0 (r)) else if w = 3 then (if (T 65867 0 (r)) = 0 then 0 else 1) else -1) := by
  rw [(h.pl.ce r r0 r1).1, kho_eq h r r0 r1, (h.pl.ir r r0 r1).1, (h.pl.ir r r0 r1).2]
theorem v_isr (h : RL n A T) (i w : Int) (i0 : 0 ≤ i) (i1 : i < (T 14408 0 (5))) : (if w = 0 then kcp A (48 + i) else if w = 1 then kpb A i else if w = 2 then (if (A 8 ((48 + i)) 12) = 0 then 0 else 1) else -1) = (if w = 0 then (if (T 32875 0 (i)) = -1 then (T 32855 0 (i)) else cpr T (1000 + i)) else if w = 1 then (T 32875 0 (i)) else if w = 2 then (if (T 33130 0 (i)) = 0 then 0 else 1) else -1) := by
  have hm := h.mB
  have m5 : 0 ≤ (T 14408 0 (5)) ∧ (T 14408 0 (5)) ≤ 16 := by unfold MB at hm; omega
  have mr := h.mrB
  have bc := h.bc
  have k0 : kcp A (48 + i) = if (T 32875 0 (i)) = -1 then (T 32855 0 (i)) else cpr T (1000 + i) := by
    rw [h.kcpI i i0 i1]
    by_cases c : (T 32875 0 (i)) = -1
    · rw [if_pos c]
      unfold cpr
      rw [if_neg (by omega)]
      have o : opr T (1000 + i) = (T 32855 0 (i)) := by unfold opr; rw [if_pos (by omega), show 1000 + i - 1000 = i by omega]
      obtain ⟨a, b, d⟩ := cpf_spec T (1000 + i) (opr T (1000 + i)) (mrs T).toNat
      rcases d with d | ⟨r, r0, r1, r2⟩
      · rw [d, o]
      · exfalso
        rcases h.sb.hv r r0.1 (by omega) with f | ⟨_, _, ⟨f1, f2, f3⟩ | ⟨f1, f2, f3⟩⟩
        · omega
        · omega
        · rw [show (T 65639 0 (r)) - 1000 = i by omega] at f3
          exact f3 c
    · rw [if_neg c]
  have k1 : kpb A i = (T 32875 0 (i)) := by
    have e : kpb A i = fnd (fun p : Nat => (A 32815 0 (p)) == i) (T 11 0 65).toNat 0 := by unfold kpb; rw [bc.1]
    rw [e]
    rcases h.bi i i0 (by omega) with f | ⟨f, g⟩
    · rw [f]
      exact fnd_none (fun p => (A 32815 0 (p)) == i) _ (fun p p0 p1 => by
        have x := (h.bg p p0 (by omega)).2.1
        simp only [beq_eq_false_iff_ne, ne_eq]
        intro z
        rw [z, f] at x
        omega)
    · exact fnd_uni (fun p => (A 32815 0 (p)) == i) _ _ f.1 (by omega) (by simpa using g) (fun p p0 p1 z => by
        simp only [beq_iff_eq] at z
        have x := (h.bg p p0 (by omega)).2.1
        rw [z] at x
        exact x.symm)
  rw [k0, k1, (h.ca i i0 (by omega)).1]
theorem v_counter (h : RL n A T) (c w : Int) (c0 : 0 ≤ c) (c1 : c < (T 14408 0 (3))) : (if w = 0 then (A 9 (c) 3) else if w = 1 then (A 9 (c) 4) else if w = 2 then (A 9 (c) 5) else if w = 3 then (A 9 (c) 0) else if w = 4 then (A 9 (c) 1) else if w = 5 then (A 9 (c) 2) else -1) = (if w = 0 then (T 32876 0 (c)) else if w = 1 then (T 32877 0 (c)) else if w = 2 then (T 32878 0 (c)) else if w = 3 then (T 32846 0 (c)) else if w = 4 then (T 32847 0 (c)) else if w = 5 then (T 32848 0 (c)) else -1) := by
  have hm := h.mB
  have m3 : 0 ≤ (T 14408 0 (3)) ∧ (T 14408 0 (3)) ≤ 16 := by unfold MB at hm; omega
  have co := h.co c c0 c1
  have ct := h.pl.ct c c0 c1
  rw [co.1.1, co.2.1, ((h.wg c c0 (by omega)).1).1, ct.1.1, ct.2.1.1, ct.2.2.1]
theorem v_alarm (h : RL n A T) (a w : Int) (a0 : 0 ≤ a) (a1 : a < (T 14408 0 (6))) : (if w = 0 then (if (A 10 (a) 6) = 0 then -1 else cst A (A 10 (a) 0) (A 10 (a) 7)) else if w = 1 then (if (A 10 (a) 6) = 0 then -1 else (A 10 (a) 8)) else if w = 2 then (A 10 (a) 0) else if w = 3 then (A 10 (a) 1) else if w = 4 then (A 10 (a) 2) else -1) = (if w = 0 then (if (T 98671 0 (a)) = 0 then -1 else spt T a) else if w = 1 then (if (T 98671 0 (a)) = 0 then -1 else (T 98417 0 (a))) else if w = 2 then (T 98393 0 (a)) else if w = 3 then (T 98395 0 (a)) else if w = 4 then (T 98396 0 (a)) else -1) ∧ (¬ (A 10 (a) 6) = 0 → SA A a) ∧ (¬ (T 98671 0 (a)) = 0 → AL T a) := by
  have hm := h.mB
  have m6 : 0 ≤ (T 14408 0 (6)) ∧ (T 14408 0 (6)) ≤ 48 := by unfold MB at hm; omega
  have al := h.pl.al a a0 a1
  have au := (h.au a a0 (by omega)).1.1
  refine ⟨?_, fun z => (left_eq h a0 a1 (by rw [← au]; exact z)).2.1, fun z => (left_eq h a0 a1 z).2.2⟩
  rw [au]
  by_cases c : (T 98671 0 (a)) = 0
  · simp only [if_pos c, al.1.1, al.2.1, al.2.2]
  · have l := (left_eq h a0 a1 c).1
    have e := (h.ad a a0 a1 c).2.1
    simp only [if_neg c, l, e]
    rw [al.1.1, al.2.1, al.2.2]
theorem kaf_sum (M : AMem) : ∀ k : Nat, kaf M k = sumi (fun t => (M 8 (t) 7)) k
  | 0 => rfl
  | k + 1 => by
    show kaf M k + (M 8 (k) 7) = sumi (fun t => (M 8 (t) 7)) k + (M 8 (k) 7)
    rw [kaf_sum M k]
theorem sumi_cut {f : Nat → Int} (k : Nat) : ∀ d : Nat, (∀ i, k ≤ i → f i = 0) → sumi f (k + d) = sumi f k
  | 0, _ => rfl
  | d + 1, h => by
    show sumi f (k + d) + f (k + d) = _
    rw [sumi_cut k d h, h (k + d) (by omega)]
    omega
theorem v_reqs (h : RL n A T) : kaf A (A 14370 0 (4)).toNat = nrq T 400 := by
  have hm := h.mB
  have m4 : 0 ≤ (T 14408 0 (4)) ∧ (T 14408 0 (4)) ≤ 48 := by unfold MB at hm; omega
  rw [nrq_sum T (fun q a b => (h.slot q a b).2.1) 400 (by omega), h.pl.t4, kaf_sum]
  have z : ∀ t : Int, (T 14408 0 (4)) ≤ t → cq T t 400 = 0 := fun t t0 => by
    rw [cq_cnt]
    exact cnt_0 400 (fun j hj => by
      have s := h.slot j (by omega) (by omega)
      simp only [decide_eq_false_iff_not]
      rintro ⟨a, b⟩
      have := s.2.2 a
      omega)
  have e := sumi_cut (f := fun t : Nat => cq T t 400) (T 14408 0 (4)).toNat (48 - (T 14408 0 (4)).toNat) (fun i hi => z i (by omega))
  rw [show (T 14408 0 (4)).toNat + (48 - (T 14408 0 (4)).toNat) = 48 by omega] at e
  rw [e]
  exact sumi_congr _ (fun i hi => (h.rq i (by omega) (by omega)).1)
theorem v_many (h : RL n A T) (x : Int) : (if 0 ≤ x ∧ x < 7 then (A 14370 0 (x)) else -1) = (if x < 0 ∨ 6 < x then -1 else if x = 2 then (if 1 < (T 14408 0 (x)) then (T 14408 0 (x)) else 1) else (T 14408 0 (x))) := by
  by_cases c : 0 ≤ x ∧ x < 7
  · rw [if_pos c, if_neg (by omega)]
    have : x = 0 ∨ x = 1 ∨ x = 2 ∨ x = 3 ∨ x = 4 ∨ x = 5 ∨ x = 6 := by omega
    rcases this with z | z | z | z | z | z | z <;> subst z
    · exact h.pl.t0
    · exact h.pl.t1
    · exact h.pl.t2
    · exact h.pl.t3
    · exact h.pl.t4
    · exact h.pl.t5
    · exact h.pl.t6
  · rw [if_neg c, if_pos (by omega)]
end RD
