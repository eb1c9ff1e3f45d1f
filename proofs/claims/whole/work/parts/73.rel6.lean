/-! ===== settling: a task runs, is preempted ===== -/
theorem cq_two {B : AMem} {p q t : Int} (p0 : 0 ≤ p) (p1 : p < 400) (q0 : 0 ≤ q) (q1 : q < 400) (ne : ¬ p = q) (sp : ¬ (B 819298 0 (p)) = 0) (sq : ¬ (B 819298 0 (q)) = 0) (tp : (B 819297 0 (p)) = t) (tq : (B 819297 0 (q)) = t) : 2 ≤ cq B t 400 := by
  rw [cq_cnt]
  exact inj_cnt 400 2 _ (fun i => if i = 0 then p.toNat else q.toNat) (fun i hi => by
    by_cases c : i = 0
    · simp only [if_pos c]
      refine ⟨by omega, ?_⟩
      rw [show ((p.toNat : Nat) : Int) = p by omega]
      exact decide_eq_true ⟨sp, tp⟩
    · simp only [if_neg c]
      refine ⟨by omega, ?_⟩
      rw [show ((q.toNat : Nat) : Int) = q by omega]
      exact decide_eq_true ⟨sq, tq⟩) (fun i j hi hj => by
    rw [if_pos (by omega), if_neg (by omega)]
    omega)
/-- a task that may wait has one request -/
theorem wt_one {n : Int} {A B : AMem} (h : RL n A B) {p q : Int} (p0 : 0 ≤ p) (p1 : p < 400) (q0 : 0 ≤ q) (q1 : q < 400) (ne : ¬ p = q) (sp : ¬ (B 819298 0 (p)) = 0) (sq : ¬ (B 819298 0 (q)) = 0) (tq : (B 819297 0 (p)) = (B 819297 0 (q))) : (B 98388 0 ((B 819297 0 (q)))) = 0 := by
  have a := cq_two p0 p1 q0 q1 ne sp sq tq rfl
  have s := h.slot q q0 q1
  have s3 := s.2.2 sq
  have r := h.rq _ s.2.1.1 s.2.1.2
  have e := (h.pl.ev _ s.2.1.1 s3).2
  have := r.2 s3
  omega
theorem cpr_un {B : AMem} (m : MB B) {p : Int} (p0 : 0 ≤ p) (p1 : p < 400) (h : ¬ ldd B p) : cpr B (1 + p) = (B 98385 0 ((B 819297 0 (p)))) := by
  have hm := mrs_b m
  have hi : (B 819561 0 (p)) = 0 := by
    by_cases c : (B 819561 0 (p)) = 0
    · exact c
    · exact absurd (Or.inl c) h
  unfold cpr
  rw [show 1 + p - 1 = p by omega, if_neg (fun z => z.2 hi)]
  have o : opr B (1 + p) = (B 98385 0 ((B 819297 0 (p)))) := by
    unfold opr
    rw [if_neg (by omega), show 1 + p - 1 = p by omega]
  obtain ⟨a, b, c⟩ := cpf_spec B (1 + p) (opr B (1 + p)) (mrs B).toNat
  rcases c with c | ⟨r, r0, r1, r2⟩
  · rw [c, o]
  · exact absurd (Or.inr ⟨r, ⟨r0.1, by omega⟩, r1⟩) h
theorem cpr_ge {B : AMem} {p : Int} (p1 : p < 400) : (B 98385 0 ((B 819297 0 (p)))) ≤ cpr B (1 + p) := by
  have o : opr B (1 + p) = (B 98385 0 ((B 819297 0 (p)))) := by
    unfold opr
    rw [if_neg (by omega), show 1 + p - 1 = p by omega]
  have a := (cpf_spec B (1 + p) (opr B (1 + p)) (mrs B).toNat).1
  unfold cpr
  split
  · split <;> omega
  · omega
/-- the rows' array when a request comes in -/
theorem pj_sp (M : AMem) (l : Int) : ∀ s : Nat, pj M l s ≤ s ∧ (∀ i : Int, pj M l s ≤ i → i < s → l ≤ (M 786481 0 (i))) ∧ (0 < pj M l s → (M 786481 0 ((pj M l s - 1))) < l)
  | 0 => by
    unfold pj
    exact ⟨Nat.le_refl _, fun i a b => by omega, fun z => by omega⟩
  | s + 1 => by
    have ih := pj_sp M l s
    unfold pj
    by_cases c : l ≤ (M 786481 0 (s))
    · rw [if_pos c]
      refine ⟨by omega, fun i a b => ?_, ih.2.2⟩
      by_cases e : i = s
      · subst e; exact c
      · exact ih.2.1 i a (by omega)
    · rw [if_neg c]
      refine ⟨Nat.le_refl _, fun i a b => by omega, fun _ => ?_⟩
      rw [show ((s + 1 : Nat) : Int) - 1 = s by omega]
      omega
section KP
variable {A : AMem} {t p l : Int}
theorem kp_z (hz : (A 7 0 2) < 384) : ((kput A t p l) 7 0 2) = (A 7 0 2) + 1 := by
  unfold kput
  rw [if_pos hz, mup_same]
theorem kp_t (hz : (A 7 0 2) < 384) (i : Int) (h1 : i ≤ (A 7 0 2)) : ((kput A t p l) 786482 0 (i)) = if i < pj A l (A 7 0 2).toNat then (A 786482 0 (i)) else if i = pj A l (A 7 0 2).toNat then t else (A 786482 0 ((i - 1))) := by
  unfold kput
  rw [if_pos hz, mu_ng (by decide), mu_xi, mu_ng (by decide)]
  unfold shf
  by_cases c : i < pj A l (A 7 0 2).toNat
  · rw [if_pos c, if_neg (by omega), if_neg (by omega)]
  · by_cases d : i = pj A l (A 7 0 2).toNat
    · rw [if_neg c, if_pos d, if_pos d]
    · rw [if_neg c, if_neg d, if_neg d, if_pos ⟨Or.inr rfl, rfl, by omega, by omega⟩]
theorem kp_r (hz : (A 7 0 2) < 384) (i : Int) (h1 : i ≤ (A 7 0 2)) : ((kput A t p l) 786481 0 (i)) = if i < pj A l (A 7 0 2).toNat then (A 786481 0 (i)) else if i = pj A l (A 7 0 2).toNat then p else (A 786481 0 ((i - 1))) := by
  unfold kput
  rw [if_pos hz, mu_ng (by decide), mu_ng (by decide), mu_xi]
  unfold shf
  by_cases c : i < pj A l (A 7 0 2).toNat
  · rw [if_pos c, if_neg (by omega), if_neg (by omega)]
  · by_cases d : i = pj A l (A 7 0 2).toNat
    · rw [if_neg c, if_pos d, if_pos d]
    · rw [if_neg c, if_neg d, if_neg d, if_pos ⟨Or.inl rfl, rfl, by omega, by omega⟩]
end KP
theorem kp_o {A : AMem} {t p l : Int} {g : Nat} {x y : Int} (h1 : g ≠ 7) (h2 : g ≠ 786481) (h3 : g ≠ 786482) : (kput A t p l) g x y = A g x y := by
  unfold kput
  split
  · rw [mu_ng h1, mu_ng h3, mu_ng h2]
    unfold shf
    rw [if_neg (by rintro ⟨z | z, _⟩ <;> contradiction)]
  · rfl
theorem kp_fr {A A' : AMem} {t p l : Int} (h : frC A A') : frC A (kput A' t p l) := by
  unfold kput
  exact frC.ite (frC.up rfl (frC.up rfl (frC.up rfl (frC.shE h)))) h
/-- a request comes into the rows, on both sides -/
theorem rw_ins {A : AMem} {B B' : AMem} {sg : Int → Int} {q p t k l : Int} (h : RwR (A 7 0 2) (fun i => (A 786482 0 (i))) (fun i => (A 786481 0 (i))) (fun q => (B 819298 0 (q))) (fun q => (B 819297 0 (q))) (fun q => (B 819299 0 (q))) (fun q => (B 819812 0 (q))) sg)
    (ky : ∀ x : Int, 0 ≤ x → x < 400 → -(B 11 0 58) ≤ (B 819812 0 (x)) ∧ (B 819812 0 (x)) ≤ (B 11 0 58)) (hz : (A 7 0 2) < 384) (h0 : 0 ≤ q) (h1 : q < 400) (hs : ¬ (B 819298 0 (q)) = 1)
    (e1 : ∀ x, (B' 819298 0 (x)) = if x = q then 1 else (B 819298 0 (x))) (e2 : ∀ x, (B' 819297 0 (x)) = if x = q then t else (B 819297 0 (x))) (e3 : ∀ x, (B' 819299 0 (x)) = if x = q then p else (B 819299 0 (x))) (e4 : ∀ x, (B' 819812 0 (x)) = if x = q then k else (B 819812 0 (x)))
    (hl : (l = p ∧ k = (B 11 0 58) + 1) ∨ (l = p + 1 ∧ k = -((B 11 0 58) + 1))) :
    RwR ((kput A t p l) 7 0 2) (fun i => ((kput A t p l) 786482 0 (i))) (fun i => ((kput A t p l) 786481 0 (i))) (fun q => (B' 819298 0 (q))) (fun q => (B' 819297 0 (q))) (fun q => (B' 819299 0 (q))) (fun q => (B' 819812 0 (q))) (fun i => if i < pj A l (A 7 0 2).toNat then sg i else if i = pj A l (A 7 0 2).toNat then q else sg (i - 1)) := by
  have z0 := h.1
  obtain ⟨p1, p2, p3⟩ := pj_sp A l (A 7 0 2).toNat
  rw [kp_z hz]
  refine RwR.ins (p := p) (k := k) (t := t) h ⟨h0, h1⟩ hs ⟨by omega, by omega⟩ e1 e2 e3 e4 (fun i a b => kp_t hz i b) (fun i a b => kp_r hz i b) (fun i a b => ?_) (fun i a b => ?_)
  · have c := p3 (by omega)
    have d : (A 786481 0 (i)) ≤ (A 786481 0 ((pj A l (A 7 0 2).toNat - 1))) := h.srt i _ a (by omega) (by omega)
    have e := h.pt i a (by omega)
    have f : -(B 11 0 58) ≤ (B 819812 0 (sg i)) ∧ (B 819812 0 (sg i)) ≤ (B 11 0 58) := ky _ e.1.1 e.1.2
    show (A 786481 0 (i)) < p ∨ ((A 786481 0 (i)) = p ∧ k < (B 819812 0 (sg i)))
    omega
  · have c := p2 i a (by omega)
    have e := h.pt i (by omega) (by omega)
    have f : -(B 11 0 58) ≤ (B 819812 0 (sg i)) ∧ (B 819812 0 (sg i)) ≤ (B 11 0 58) := ky _ e.1.1 e.1.2
    show p < (A 786481 0 (i)) ∨ ((A 786481 0 (i)) = p ∧ (B 819812 0 (sg i)) < k)
    omega
def ruA (A : AMem) : AMem := (mup (mup (mup A 7 0 2 ((A 7 0 2) - 1)) 6 0 5 ((A 786482 0 ((A 7 0 2) - 1)))) 8 ((A 786482 0 ((A 7 0 2) - 1))) 11 (if (A 8 ((A 786482 0 ((A 7 0 2) - 1))) 6) = -1 then 0 else 1))
def ruB (B : AMem) (q : Int) : AMem := (mup (mup B 819298 0 (q) (2)) 819561 0 (q) ((if inn B (B 819297 0 (q)) = -1 then 0 else 1)))
theorem krt_eq (A : AMem) : krt A = knt (ruA A) (10000 + (A 786482 0 ((A 7 0 2) - 1))) := rfl
theorem rns_eq (B : AMem) (q : Int) : rns B q = nt (ruB B q) (10000 + (B 819297 0 (q))) := rfl
set_option maxHeartbeats 1000000 in
theorem rl_ru {n : Int} {A B : AMem} (h : RL n A B) (ho : ¬ (B 11 0 50) = 0) (hr : rn B = -1) (hz : 0 < (A 7 0 2)) : RL n (ruA A) (ruB B (tp B)) ∧ rn (ruB B (tp B)) = tp B ∧ (B 819297 0 (tp B)) = (A 786482 0 ((A 7 0 2) - 1)) ∧ (0 ≤ tp B ∧ tp B < 400) ∧ (B 819298 0 (tp B)) = 1 := by
  obtain ⟨sg, r⟩ := h.rx
  have et := r.tpE
  rw [if_neg (by omega)] at et
  have a := r.pt ((A 7 0 2) - 1) (by omega) (by omega)
  rw [← et] at a
  have q0 := a.1.1
  have q1 := a.1.2
  have qs : (B 819298 0 (tp B)) = 1 := a.2.1
  have qt : (B 819297 0 (tp B)) = (A 786482 0 ((A 7 0 2) - 1)) := a.2.2.1
  have top : ∀ p : Int, 0 ≤ p → p < 400 → (B 819298 0 (p)) = 1 → ¬ p = tp B → ¬ ahb B p (tp B) := fun p p0 p1 ps pn z => by
    have := r.top2 p p0 p1 ps
    rw [← et] at this
    rcases this with e | e
    · exact pn e
    · exact ahp_as z e
  have sl := h.slot _ q0 q1
  have t4 := sl.2.2 (by omega)
  have id := h.idle hr
  have un : ∀ p : Int, 0 ≤ p → p < 400 → ¬ p = tp B → ¬ (B 819298 0 (p)) = 0 → (B 819297 0 (p)) = (B 819297 0 (tp B)) → (B 819298 0 (p)) = 1 ∧ ¬ ldd B p := fun p p0 p1 pn ps pt => by
    have sp := h.slot p p0 p1
    have n2 := id.2 p p0 p1
    have n3 : ¬ (B 819298 0 (p)) = 3 := fun z => by
      have := h.sb.wt p p0 p1 z
      have w := wt_one h p0 p1 q0 q1 pn ps (by omega) pt
      rw [pt] at this
      exact this w
    have s1 : (B 819298 0 (p)) = 1 := by omega
    refine ⟨s1, fun z => ?_⟩
    have := (h.sb.ld p (tp B) p0 p1 q0 q1 pn ps (by omega) pt (Or.inl z)).2.2 s1
    exact top p p0 p1 s1 pn this
  have ti : (A 8 ((B 819297 0 (tp B))) 6) = inn B (B 819297 0 (tp B)) := h.pl.it _ sl.2.1.1 t4
  have e1 : ∀ x, ((ruB B (tp B)) 819298 0 (x)) = if x = tp B then 2 else (B 819298 0 (x)) := fun x => by unfold ruB; simp only [mup_same, mu_ng, mu_ni, mu_xi, mu_xt, cq_fr, rn_fr, mrs_fr, inn_fr, cpr_fr, opr_fr, ldd_fr, own_fr, ne_eq, Nat.reduceEqDiff, not_false_eq_true, Int.reduceEq, ↓reduceIte]
  have e5 : ∀ x, ((ruB B (tp B)) 819561 0 (x)) = if x = tp B then (if inn B (B 819297 0 (tp B)) = -1 then 0 else 1) else (B 819561 0 (x)) := fun x => by unfold ruB; simp only [mup_same, mu_ng, mu_ni, mu_xi, mu_xt, cq_fr, rn_fr, mrs_fr, inn_fr, cpr_fr, opr_fr, ldd_fr, own_fr, ne_eq, Nat.reduceEqDiff, not_false_eq_true, Int.reduceEq, ↓reduceIte]
  have er : rn (ruB B (tp B)) = tp B := rn_1 q0 q1 (by rw [e1, if_pos rfl]) (fun x x0 x1 xs => by
    rw [e1] at xs
    by_cases c : x = tp B
    · exact c
    · rw [if_neg c] at xs; exact absurd xs (id.2 x x0 x1))
  have fc : frC A (ruA A) := frC.up rfl (frC.up rfl (frC.up rfl (frC.rf A)))
  have fr : frR B (ruB B (tp B)) := frR.up rfl (frR.up rfl (frR.rf B))
  have eo : ∀ x, own (ruB B (tp B)) x = own B x := fun x => by unfold ruB; simp only [mup_same, mu_ng, mu_ni, mu_xi, mu_xt, cq_fr, rn_fr, mrs_fr, inn_fr, cpr_fr, opr_fr, ldd_fr, own_fr, ne_eq, Nat.reduceEqDiff, not_false_eq_true, Int.reduceEq, ↓reduceIte]
  have et2 : ∀ x, ((ruB B (tp B)) 819297 0 (x)) = (B 819297 0 (x)) := fun x => by unfold ruB; simp only [mup_same, mu_ng, mu_ni, mu_xi, mu_xt, cq_fr, rn_fr, mrs_fr, inn_fr, cpr_fr, opr_fr, ldd_fr, own_fr, ne_eq, Nat.reduceEqDiff, not_false_eq_true, Int.reduceEq, ↓reduceIte]
  have e0 : ∀ r, ((ruB B (tp B)) 65639 0 (r)) = (B 65639 0 (r)) ∧ ((ruB B (tp B)) 66152 0 (r)) = (B 66152 0 (r)) := fun r => by unfold ruB; simp only [mup_same, mu_ng, mu_ni, mu_xi, mu_xt, cq_fr, rn_fr, mrs_fr, inn_fr, cpr_fr, opr_fr, ldd_fr, own_fr, ne_eq, Nat.reduceEqDiff, not_false_eq_true, Int.reduceEq, ↓reduceIte]; exact ⟨trivial, trivial⟩
  refine ⟨?_, er, qt, ⟨q0, q1⟩, qs⟩
  have sb : SB (ruB B (tp B)) := by
    refine SB.ch h.sb h.mB (tp B) q0 q1 fr (fun x xn => ?_) e0 (fun i => by unfold ruB; simp only [mup_same, mu_ng, mu_ni, mu_xi, mu_xt, cq_fr, rn_fr, mrs_fr, inn_fr, cpr_fr, opr_fr, ldd_fr, own_fr, ne_eq, Nat.reduceEqDiff, not_false_eq_true, Int.reduceEq, ↓reduceIte]) (by unfold ruB; simp only [mup_same, mu_ng, mu_ni, mu_xi, mu_xt, cq_fr, rn_fr, mrs_fr, inn_fr, cpr_fr, opr_fr, ldd_fr, own_fr, ne_eq, Nat.reduceEqDiff, not_false_eq_true, Int.reduceEq, ↓reduceIte]; omega) ?_ (fun x x0 x1 xs => ?_) ?_ (fun z => ?_) (fun z => ?_) (fun r r0 r1 z => ?_) (fun p p0 p1 pn ps qn pt _ => ?_) (fun p p0 p1 pn ps qn pt z => ?_) (fun z => ?_)
    · rw [e1, e5, if_neg xn, if_neg xn]
      unfold ruB
      simp only [mup_same, mu_ng, mu_ni, mu_xi, mu_xt, cq_fr, rn_fr, mrs_fr, inn_fr, cpr_fr, opr_fr, ldd_fr, own_fr, ne_eq, Nat.reduceEqDiff, not_false_eq_true, Int.reduceEq, ↓reduceIte]
      exact ⟨trivial, trivial, trivial, trivial, trivial⟩
    · rw [e1, if_pos rfl, et2]
      exact ⟨by omega, sl.2.1, fun _ => t4⟩
    · rw [er]
      rw [e1] at xs
      by_cases c : x = tp B
      · exact c
      · rw [if_neg c] at xs; exact absurd xs (id.2 x x0 x1)
    · have := h.sb.ky _ q0 q1
      unfold ruB
      simp only [mup_same, mu_ng, mu_ni, mu_xi, mu_xt, cq_fr, rn_fr, mrs_fr, inn_fr, cpr_fr, opr_fr, ldd_fr, own_fr, ne_eq, Nat.reduceEqDiff, not_false_eq_true, Int.reduceEq, ↓reduceIte]
      exact this
    · rw [e1, if_pos rfl, et2]
      rw [e5, if_pos rfl] at z
      refine ⟨Or.inr rfl, fun w => ?_⟩
      rw [if_pos w] at z
      exact z rfl
    · rw [e1, if_pos rfl] at z
      omega
    · rw [e1, if_pos rfl]
      exact Or.inr rfl
    · rw [et2] at pt
      have u := un p p0 p1 pn ps pt
      refine ⟨u.1, u.2, fun z => ?_⟩
      rw [e1, if_pos rfl] at z
      omega
    · rw [et2] at pt
      have u := un p p0 p1 pn ps pt
      rcases z with z | z
      · exact absurd z u.2
      · omega
    · rw [e1, if_pos rfl] at z
      omega
  refine RL.mk (h.pl.fr fc fr) sb ?_ ?_ ?_ ?_ ?_ ?_ ?_ ?_ ?_ ?_ ?_ ?_ ?_ ?_ ?_ ?_ ?_ ?_ ?_ ?_ ?_ ?_ ?_ ?_ ?_ ?_ ?_ ?_ ?_
  · simp only [mup_same, mu_ng, mu_ni, mu_xi, mu_xt, cq_fr, rn_fr, mrs_fr, inn_fr, cpr_fr, opr_fr, ldd_fr, own_fr, ne_eq, Nat.reduceEqDiff, not_false_eq_true, Int.reduceEq, ↓reduceIte, ruA, ruB]; exact h.on
  · simp only [mup_same, mu_ng, mu_ni, mu_xi, mu_xt, cq_fr, rn_fr, mrs_fr, inn_fr, cpr_fr, opr_fr, ldd_fr, own_fr, ne_eq, Nat.reduceEqDiff, not_false_eq_true, Int.reduceEq, ↓reduceIte, ruA, ruB]; exact h.sh
  · simp only [mup_same, mu_ng, mu_ni, mu_xi, mu_xt, cq_fr, rn_fr, mrs_fr, inn_fr, cpr_fr, opr_fr, ldd_fr, own_fr, ne_eq, Nat.reduceEqDiff, not_false_eq_true, Int.reduceEq, ↓reduceIte, ruA, ruB]; exact h.no
  · simp only [mup_same, mu_ng, mu_ni, mu_xi, mu_xt, cq_fr, rn_fr, mrs_fr, inn_fr, cpr_fr, opr_fr, ldd_fr, own_fr, ne_eq, Nat.reduceEqDiff, not_false_eq_true, Int.reduceEq, ↓reduceIte, ruA, ruB]; exact h.na
  · simp only [mup_same, mu_ng, mu_ni, mu_xi, mu_xt, cq_fr, rn_fr, mrs_fr, inn_fr, cpr_fr, opr_fr, ldd_fr, own_fr, ne_eq, Nat.reduceEqDiff, not_false_eq_true, Int.reduceEq, ↓reduceIte, ruA, ruB]; exact h.bt
  · rw [er, if_neg (by omega), et2, qt]
    unfold ruA
    simp only [mup_same, mu_ng, mu_ni, mu_xi, mu_xt, cq_fr, rn_fr, mrs_fr, inn_fr, cpr_fr, opr_fr, ldd_fr, own_fr, ne_eq, Nat.reduceEqDiff, not_false_eq_true, Int.reduceEq, ↓reduceIte]
  · intro t t0 t1
    have x := h.rq t t0 t1
    have u := cq_upd (B := B) (B' := ruB B (tp B)) (q := tp B) (t := t) q0 q1 (fun y yn => ⟨by rw [e1, if_neg yn], et2 y⟩)
    rw [e1, if_pos rfl, et2] at u
    have c2 : cq (ruB B (tp B)) t 400 = cq B t 400 := by
      rw [u]
      by_cases c : (B 819297 0 (tp B)) = t
      · rw [if_pos ⟨by omega, c⟩, if_pos ⟨by omega, c⟩]; omega
      · rw [if_neg (fun z => c z.2), if_neg (fun z => c z.2)]; omega
    rw [c2]
    simp only [mup_same, mu_ng, mu_ni, mu_xi, mu_xt, cq_fr, rn_fr, mrs_fr, inn_fr, cpr_fr, opr_fr, ldd_fr, own_fr, ne_eq, Nat.reduceEqDiff, not_false_eq_true, Int.reduceEq, ↓reduceIte, ruA, ruB]
    exact x
  · intro t t0 t1
    have x := h.wa t t0 t1
    have y : (∃ q : Int, (0 ≤ q ∧ q < 400) ∧ ((ruB B (tp B)) 819298 0 (q)) = 3 ∧ ((ruB B (tp B)) 819297 0 (q)) = t) ↔ ∃ q : Int, (0 ≤ q ∧ q < 400) ∧ (B 819298 0 (q)) = 3 ∧ (B 819297 0 (q)) = t := by
      constructor
      · rintro ⟨q, a1, a2, a3⟩
        rw [e1] at a2
        rw [et2] at a3
        by_cases c : q = tp B
        · rw [if_pos c] at a2; omega
        · rw [if_neg c] at a2; exact ⟨q, a1, a2, a3⟩
      · rintro ⟨q, a1, a2, a3⟩
        refine ⟨q, a1, ?_, by rw [et2]; exact a3⟩
        rw [e1, if_neg (fun z => by rw [z] at a2; omega)]
        exact a2
    rw [y]
    unfold ruA
    simp only [mup_same, mu_ng, mu_ni, mu_xi, mu_xt, cq_fr, rn_fr, mrs_fr, inn_fr, cpr_fr, opr_fr, ldd_fr, own_fr, ne_eq, Nat.reduceEqDiff, not_false_eq_true, Int.reduceEq, ↓reduceIte]
    exact x
  · intro q a1 a2 a3
    rw [et2]
    have b : (B 819298 0 (q)) = 3 := by
      rw [e1] at a3
      by_cases c : q = tp B
      · rw [if_pos c] at a3; omega
      · rw [if_neg c] at a3; exact a3
    have x := h.wf q a1 a2 b
    simp only [mup_same, mu_ng, mu_ni, mu_xi, mu_xt, cq_fr, rn_fr, mrs_fr, inn_fr, cpr_fr, opr_fr, ldd_fr, own_fr, ne_eq, Nat.reduceEqDiff, not_false_eq_true, Int.reduceEq, ↓reduceIte, ruA, ruB]
    exact x
  · intro t t0 t1
    have x := h.hi t t0 t1
    have y : ((ruA A) 8 (t) 11) = if t = (B 819297 0 (tp B)) then (if inn B (B 819297 0 (tp B)) = -1 then 0 else 1) else (A 8 (t) 11) := by
      unfold ruA
      rw [← qt, ti]
      simp only [mup_same, mu_ng, mu_ni, mu_xi, mu_xt, cq_fr, rn_fr, mrs_fr, inn_fr, cpr_fr, opr_fr, ldd_fr, own_fr, ne_eq, Nat.reduceEqDiff, not_false_eq_true, Int.reduceEq, ↓reduceIte]
    rw [y]
    by_cases c : t = (B 819297 0 (tp B))
    · rw [if_pos c]
      constructor
      · intro z
        refine ⟨tp B, ⟨q0, q1⟩, ?_, by rw [et2]; exact c.symm⟩
        rw [e5, if_pos rfl]
        exact z
      · rintro ⟨q, a1, a2, a3⟩
        rw [e5] at a2
        rw [et2] at a3
        by_cases d : q = tp B
        · rw [if_pos d] at a2; exact a2
        · rw [if_neg d] at a2
          have u := un q a1.1 a1.2 d (by have := (h.sb.hi q a1.1 a1.2 a2).1; omega) (by rw [a3, c])
          exact absurd (Or.inl a2) u.2
    · rw [if_neg c, x]
      constructor
      · rintro ⟨q, a1, a2, a3⟩
        refine ⟨q, a1, ?_, by rw [et2]; exact a3⟩
        rw [e5, if_neg (fun z => c (by rw [← a3, z]))]
        exact a2
      · rintro ⟨q, a1, a2, a3⟩
        rw [et2] at a3
        rw [e5, if_neg (fun z => c (by rw [← a3, z]))] at a2
        exact ⟨q, a1, a2, a3⟩
  · intro w w0 w1
    have x := h.hx w w0 w1
    unfold ruA
    rw [← qt]
    simp only [mup_same, mu_ng, mu_ni, mu_xi, mu_xt, cq_fr, rn_fr, mrs_fr, inn_fr, cpr_fr, opr_fr, ldd_fr, own_fr, ne_eq, Nat.reduceEqDiff, not_false_eq_true, Int.reduceEq, ↓reduceIte]
    rw [if_neg (by omega)]
    exact x
  · simp only [mup_same, mu_ng, mu_ni, mu_xi, mu_xt, cq_fr, rn_fr, mrs_fr, inn_fr, cpr_fr, opr_fr, ldd_fr, own_fr, ne_eq, Nat.reduceEqDiff, not_false_eq_true, Int.reduceEq, ↓reduceIte, ruA, ruB]; exact h.hc
  · simp only [mup_same, mu_ng, mu_ni, mu_xi, mu_xt, cq_fr, rn_fr, mrs_fr, inn_fr, cpr_fr, opr_fr, ldd_fr, own_fr, ne_eq, Nat.reduceEqDiff, not_false_eq_true, Int.reduceEq, ↓reduceIte, ruA, ruB]; exact h.hd
  · simp only [mup_same, mu_ng, mu_ni, mu_xi, mu_xt, cq_fr, rn_fr, mrs_fr, inn_fr, cpr_fr, opr_fr, ldd_fr, own_fr, ne_eq, Nat.reduceEqDiff, not_false_eq_true, Int.reduceEq, ↓reduceIte, ruA, ruB]; exact h.hs
  · simp only [mup_same, mu_ng, mu_ni, mu_xi, mu_xt, cq_fr, rn_fr, mrs_fr, inn_fr, cpr_fr, opr_fr, ldd_fr, own_fr, ne_eq, Nat.reduceEqDiff, not_false_eq_true, Int.reduceEq, ↓reduceIte, ruA, ruB]; exact h.ho
  · simp only [mup_same, mu_ng, mu_ni, mu_xi, mu_xt, cq_fr, rn_fr, mrs_fr, inn_fr, cpr_fr, opr_fr, ldd_fr, own_fr, ne_eq, Nat.reduceEqDiff, not_false_eq_true, Int.reduceEq, ↓reduceIte, ruA, ruB]; exact h.bc
  · simp only [mup_same, mu_ng, mu_ni, mu_xi, mu_xt, cq_fr, rn_fr, mrs_fr, inn_fr, cpr_fr, opr_fr, ldd_fr, own_fr, ne_eq, Nat.reduceEqDiff, not_false_eq_true, Int.reduceEq, ↓reduceIte, ruA, ruB]; exact h.bg
  · simp only [mup_same, mu_ng, mu_ni, mu_xi, mu_xt, cq_fr, rn_fr, mrs_fr, inn_fr, cpr_fr, opr_fr, ldd_fr, own_fr, ne_eq, Nat.reduceEqDiff, not_false_eq_true, Int.reduceEq, ↓reduceIte, ruA, ruB]; exact h.bo
  · simp only [mup_same, mu_ng, mu_ni, mu_xi, mu_xt, cq_fr, rn_fr, mrs_fr, inn_fr, cpr_fr, opr_fr, ldd_fr, own_fr, ne_eq, Nat.reduceEqDiff, not_false_eq_true, Int.reduceEq, ↓reduceIte, ruA, ruB]; exact h.bi
  · simp only [mup_same, mu_ng, mu_ni, mu_xi, mu_xt, cq_fr, rn_fr, mrs_fr, inn_fr, cpr_fr, opr_fr, ldd_fr, own_fr, ne_eq, Nat.reduceEqDiff, not_false_eq_true, Int.reduceEq, ↓reduceIte, ruA, ruB]; exact h.ca
  · simp only [mup_same, mu_ng, mu_ni, mu_xi, mu_xt, cq_fr, rn_fr, mrs_fr, inn_fr, cpr_fr, opr_fr, ldd_fr, own_fr, ne_eq, Nat.reduceEqDiff, not_false_eq_true, Int.reduceEq, ↓reduceIte, ruA, ruB]; exact h.st
  · simp only [mup_same, mu_ng, mu_ni, mu_xi, mu_xt, cq_fr, rn_fr, mrs_fr, inn_fr, cpr_fr, opr_fr, ldd_fr, own_fr, ne_eq, Nat.reduceEqDiff, not_false_eq_true, Int.reduceEq, ↓reduceIte, ruA, ruB]; exact h.co
  · unfold CO; simp only [mup_same, mu_ng, mu_ni, mu_xi, mu_xt, cq_fr, rn_fr, mrs_fr, inn_fr, cpr_fr, opr_fr, ldd_fr, own_fr, ne_eq, Nat.reduceEqDiff, not_false_eq_true, Int.reduceEq, ↓reduceIte, ruA, ruB]; exact h.ko
  · simp only [mup_same, mu_ng, mu_ni, mu_xi, mu_xt, cq_fr, rn_fr, mrs_fr, inn_fr, cpr_fr, opr_fr, ldd_fr, own_fr, ne_eq, Nat.reduceEqDiff, not_false_eq_true, Int.reduceEq, ↓reduceIte, ruA, ruB]; exact h.wg
  · simp only [mup_same, mu_ng, mu_ni, mu_xi, mu_xt, cq_fr, rn_fr, mrs_fr, inn_fr, cpr_fr, opr_fr, ldd_fr, own_fr, ne_eq, Nat.reduceEqDiff, not_false_eq_true, Int.reduceEq, ↓reduceIte, ruA, ruB]; exact h.au
  · simp only [mup_same, mu_ng, mu_ni, mu_xi, mu_xt, cq_fr, rn_fr, mrs_fr, inn_fr, cpr_fr, opr_fr, ldd_fr, own_fr, ne_eq, Nat.reduceEqDiff, not_false_eq_true, Int.reduceEq, ↓reduceIte, ruA, ruB]; exact h.ad
  · simp only [mup_same, mu_ng, mu_ni, mu_xi, mu_xt, cq_fr, rn_fr, mrs_fr, inn_fr, cpr_fr, opr_fr, ldd_fr, own_fr, ne_eq, Nat.reduceEqDiff, not_false_eq_true, Int.reduceEq, ↓reduceIte, ruA, ruB]; exact h.ee
  · simp only [mup_same, mu_ng, mu_ni, mu_xi, mu_xt, cq_fr, rn_fr, mrs_fr, inn_fr, cpr_fr, opr_fr, ldd_fr, own_fr, ne_eq, Nat.reduceEqDiff, not_false_eq_true, Int.reduceEq, ↓reduceIte, ruA, ruB]; exact fun z => absurd z ho
  · refine ⟨sg, ?_⟩
    have p := RwR.pop (v := 2) (st' := fun q => ((ruB B (tp B)) 819298 0 (q))) r hz (by omega) (fun x => by rw [← et]; exact e1 x)
    have zz : ((ruA A) 7 0 2) = (A 7 0 2) - 1 := by unfold ruA; simp only [mup_same, mu_ng, mu_ni, mu_xi, mu_xt, cq_fr, rn_fr, mrs_fr, inn_fr, cpr_fr, opr_fr, ldd_fr, own_fr, ne_eq, Nat.reduceEqDiff, not_false_eq_true, Int.reduceEq, ↓reduceIte]
    rw [zz]
    unfold ruA ruB at p ⊢
    revert p
    simp only [mup_same, mu_ng, mu_ni, mu_xi, mu_xt, cq_fr, rn_fr, mrs_fr, inn_fr, cpr_fr, opr_fr, ldd_fr, own_fr, ne_eq, Nat.reduceEqDiff, not_false_eq_true, Int.reduceEq, ↓reduceIte]
    exact fun z => z
