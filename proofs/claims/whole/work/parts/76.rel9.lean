/-! ===== a request comes ===== -/
theorem rn_cg2 {B B' : AMem} (h : ∀ q : Int, 0 ≤ q → q < 400 → ((B' 819298 0 (q)) = 2 ↔ (B 819298 0 (q)) = 2)) : rn B' = rn B := by
  have key : ∀ (k j : Nat), j + k ≤ 400 → fnd (fun q => B' 819298 0 q == 2) k j = fnd (fun q => B 819298 0 q == 2) k j := by
    intro k
    induction k with
    | zero => intro j _; rfl
    | succ k ih =>
      intro j hj
      have e := h j (by omega) (by omega)
      unfold fnd
      rw [ih (j + 1) (by omega)]
      by_cases c : (B 819298 0 (j)) = 2
      · rw [if_pos (by simpa using e.mpr c), if_pos (by simpa using c)]
      · rw [if_neg (by simpa using fun z => c (e.mp z)), if_neg (by simpa using c)]
  exact key 400 0 (by omega)
/-- reads behind a request -/
theorem rq_og {A : AMem} {t : Int} {g : Nat} {x y : Int} (h1 : g ≠ 7) (h2 : g ≠ 786481) (h3 : g ≠ 786482) (h4 : g ≠ 8) : (kreq A t) g x y = A g x y := by
  unfold kreq
  rw [kp_o h1 h2 h3, mu_ng h4]
  split
  · rw [mu_ng h4]
  · rfl
theorem rq_o8 {A : AMem} {t x y : Int} (h1 : y ≠ 7) (h2 : y ≠ 10) : (kreq A t) 8 x y = A 8 x y := by
  unfold kreq
  rw [kp_o (by decide) (by decide) (by decide), mu_ni h1]
  split
  · rw [mu_ni h2]
  · rfl
theorem rq_r {A : AMem} {t x : Int} : ((kreq A t) 8 (x) 7) = if x = t then (A 8 (t) 7) + 1 else (A 8 (x) 7) := by
  unfold kreq
  rw [kp_o (by decide) (by decide) (by decide), mu_xt]
  by_cases c : x = t
  · rw [if_pos c, if_pos c]
  · rw [if_neg c, if_neg c]
    split
    · rw [mu_ni (by decide)]
    · rfl
theorem rq_s {A : AMem} {t x : Int} : ((kreq A t) 8 (x) 10) = if x = t ∧ (A 8 (t) 7) = 0 then 0 else (A 8 (x) 10) := by
  unfold kreq
  rw [kp_o (by decide) (by decide) (by decide), mu_ni (by decide)]
  by_cases c : (A 8 (t) 7) = 0
  · rw [if_pos c, mu_xt]
    by_cases d : x = t
    · rw [if_pos d, if_pos ⟨d, c⟩]
    · rw [if_neg d, if_neg (fun z => d z.1)]
  · rw [if_neg c, if_neg (fun z => c z.2)]
theorem rs_og {B : AMem} {t : Int} {g : Nat} {x y : Int} (h1 : g ≠ 819297) (h2 : g ≠ 819298) (h3 : g ≠ 819299) (h4 : g ≠ 819812) (h5 : g ≠ 819561) (h6 : g ≠ 98406) (h7 : g ≠ 11) : (rqs B t) g x y = B g x y := by
  unfold rqs clast
  rw [mu_ng h4, mu_ng h7, mu_ng h3, mu_ng h2, mu_ng h5, mu_ng h1]
  split
  · rw [mu_ng h6]
  · rfl
theorem rs_oi {B : AMem} {t x y : Int} (h1 : y ≠ 58) : (rqs B t) 11 x y = B 11 x y := by
  unfold rqs clast
  rw [mu_ng (by decide), mu_ni h1, mu_ng (by decide), mu_ng (by decide), mu_ng (by decide), mu_ng (by decide)]
  split
  · rw [mu_ng (by decide)]
  · rfl
section RS
variable {B : AMem} {t : Int}
theorem rs_se : ((rqs B t) 11 0 58) = (B 11 0 58) + 1 := by
  unfold rqs clast
  rw [mu_ng (by decide), mup_same, mu_ng (by decide), mu_ng (by decide)]
  split
  · rw [mu_ng (by decide)]
  · rfl
theorem rs_st (x : Int) : ((rqs B t) 819298 0 (x)) = if x = fq B then 1 else (B 819298 0 (x)) := by
  unfold rqs clast
  rw [mu_ng (by decide), mu_ng (by decide), mu_ng (by decide), mu_xi, mu_ng (by decide), mu_ng (by decide)]
  by_cases c : x = fq B
  · rw [if_pos c, if_pos c]
  · rw [if_neg c, if_neg c]
    split
    · rw [mu_ng (by decide)]
    · rfl
theorem rs_tk (x : Int) : ((rqs B t) 819297 0 (x)) = if x = fq B then t else (B 819297 0 (x)) := by
  unfold rqs clast
  rw [mu_ng (by decide), mu_ng (by decide), mu_ng (by decide), mu_ng (by decide), mu_ng (by decide), mu_xi]
  by_cases c : x = fq B
  · rw [if_pos c, if_pos c]
  · rw [if_neg c, if_neg c]
    split
    · rw [mu_ng (by decide)]
    · rfl
theorem rs_hi (x : Int) : ((rqs B t) 819561 0 (x)) = if x = fq B then 0 else (B 819561 0 (x)) := by
  unfold rqs clast
  rw [mu_ng (by decide), mu_ng (by decide), mu_ng (by decide), mu_ng (by decide), mu_xi, mu_ng (by decide)]
  by_cases c : x = fq B
  · rw [if_pos c, if_pos c]
  · rw [if_neg c, if_neg c]
    split
    · rw [mu_ng (by decide)]
    · rfl
theorem rs_rw (x : Int) : ((rqs B t) 819299 0 (x)) = if x = fq B then (B 98385 0 (t)) else (B 819299 0 (x)) := by
  unfold rqs clast
  rw [mu_ng (by decide), mu_ng (by decide), mu_xi]
  by_cases c : x = fq B
  · rw [if_pos c, if_pos c, mu_ng (show (98385 : Nat) ≠ 819561 by decide), mu_ng (show (98385 : Nat) ≠ 819297 by decide), mu_ng (show (819297 : Nat) ≠ 819561 by decide), mup_same]
    split
    · rw [mu_ng (by decide)]
    · rfl
  · rw [if_neg c, if_neg c, mu_ng (by decide), mu_ng (by decide), mu_ng (by decide)]
    split
    · rw [mu_ng (by decide)]
    · rfl
theorem rs_ky (x : Int) : ((rqs B t) 819812 0 (x)) = if x = fq B then (B 11 0 58) + 1 else (B 819812 0 (x)) := by
  unfold rqs clast
  rw [mu_xi]
  by_cases c : x = fq B
  · rw [if_pos c, if_pos c, mu_ng (by decide), mu_ng (by decide)]
    split
    · rw [mu_ng (by decide)]
    · rfl
  · rw [if_neg c, if_neg c, mu_ng (by decide), mu_ng (by decide), mu_ng (by decide), mu_ng (by decide), mu_ng (by decide)]
    split
    · rw [mu_ng (by decide)]
    · rfl
theorem rs_set (x : Int) : ((rqs B t) 98406 0 (x)) = if x = t ∧ cq B t 400 = 0 ∧ (B 98388 0 (t)) ≠ 0 then 0 else (B 98406 0 (x)) := by
  unfold rqs clast
  rw [mu_ng (by decide), mu_ng (by decide), mu_ng (by decide), mu_ng (by decide), mu_ng (by decide), mu_ng (by decide)]
  by_cases c : cq B t 400 = 0 ∧ (B 98388 0 (t)) ≠ 0
  · rw [if_pos c, mu_xi]
    by_cases d : x = t
    · rw [if_pos d, if_pos ⟨d, c⟩]
    · rw [if_neg d, if_neg (fun z => d z.1)]
  · rw [if_neg c, if_neg (fun z => c z.2)]
theorem rs_fr : frR B (rqs B t) := by
  unfold rqs clast
  exact frR.up rfl (frR.up rfl (frR.up rfl (frR.up rfl (frR.up rfl (frR.up rfl (frR.ite (frR.up rfl (frR.rf B)) (frR.rf B)))))))
theorem rq_fr {A : AMem} : frC A (kreq A t) := by
  unfold kreq
  exact kp_fr (frC.up rfl (frC.ite (frC.up rfl (frC.rf A)) (frC.rf A)))
end RS
def rqA (A : AMem) (t : Int) : AMem := (mup (if (A 8 (t) 7) = 0 then (mup A 8 (t) 10 (0)) else A) 8 (t) 7 ((A 8 (t) 7) + 1))
theorem rqA_o {A : AMem} {t : Int} {g : Nat} {x y : Int} (h4 : g ≠ 8) : (rqA A t) g x y = A g x y := by
  unfold rqA
  rw [mu_ng h4]
  split
  · rw [mu_ng h4]
  · rfl
theorem sumi_lt {f : Nat → Int} {c : Int} : ∀ (n k : Nat), (∀ i, i < n → f i ≤ c) → k < n → f k < c → sumi f n < c * n
  | 0, k, _, h, _ => by omega
  | n + 1, k, h, hk, hf => by
    have hn := h n (by omega)
    unfold sumi
    rw [Int.natCast_add, Int.mul_add]
    by_cases e : k = n
    · subst e
      have := sumi_le k (fun i hi => h i (by omega))
      omega
    · have := sumi_lt n k (fun i hi => h i (by omega)) (by omega) hf
      omega
theorem RL.sz_lt {n : Int} {A B : AMem} (h : RL n A B) (t : Int) (t0 : 0 ≤ t) (t1 : t < (B 14408 0 (4))) (hl : (A 8 (t) 7) < (B 98387 0 (t))) : (A 7 0 2) < 384 := by
  have hm := h.mB
  have m4 : 0 ≤ (B 14408 0 (4)) ∧ (B 14408 0 (4)) ≤ 48 := by unfold MB at hm; omega
  obtain ⟨sg, r⟩ := h.rx
  have b := r.len
  have d := cnt_le (p := fun q => decide ((B 819298 0 (q)) = 1)) (r := fun q => decide ((B 819298 0 (q)) ≠ 0)) 400 (fun j hj e => by simp only [decide_eq_true_eq] at *; omega)
  have a := nrq_sum B (fun q a b => (h.slot q a b).2.1) 400 (by omega)
  rw [nrq_cnt] at a
  have lm := h.pl.lm t t0 t1
  have rq := h.rq t t0 (by omega)
  have s := sumi_lt (f := fun t : Nat => cq B t 400) (c := 8) 48 t.toNat (fun i hi => (h.cq8 i (by omega) (by omega)).2) (by omega) (by
    show cq B ((t.toNat : Nat) : Int) 400 < 8
    rw [show ((t.toNat : Nat) : Int) = t by omega]
    omega)
  omega
set_option maxHeartbeats 1000000 in
theorem rl_rq {n : Int} {A B : AMem} (h : RL n A B) (ho : ¬ (B 11 0 50) = 0) (t : Int) (t0 : 0 ≤ t) (t1 : t < (B 14408 0 (4))) (hl : (A 8 (t) 7) < (B 98387 0 (t))) : RL (n + 1) (kreq A t) (rqs B t) := by
  have hm := h.mB
  have m4 : 0 ≤ (B 14408 0 (4)) ∧ (B 14408 0 (4)) ≤ 48 := by unfold MB at hm; omega
  obtain ⟨sg, r⟩ := h.rx
  obtain ⟨⟨q0, q1⟩, qs⟩ : (0 ≤ fq B ∧ fq B < 400) ∧ (B 819298 0 (fq B)) = 0 := by
    rcases fq_spec B with ⟨z, _⟩ | z
    · exact absurd z h.free
    · exact z
  have fc : frC A (kreq A t) := rq_fr
  have fr : frR B (rqs B t) := rs_fr
  have hs := h.sb.se
  have hn := h.no
  have rq := h.rq t t0 (by omega)
  have hv : ∀ r : Int, 0 ≤ r → r < 32 → ¬ (B 65639 0 (r)) = 1 + fq B := fun r r0 r1 z => by
    rcases h.sb.hv r r0 r1 with d | ⟨_, _, ⟨_, _, d⟩ | ⟨d, _⟩⟩
    · omega
    · rw [show (B 65639 0 (r)) - 1 = fq B by omega] at d; omega
    · omega
  have hvE : ∀ r, ((rqs B t) 65639 0 (r)) = (B 65639 0 (r)) ∧ ((rqs B t) 66152 0 (r)) = (B 66152 0 (r)) := fun r => by
    simp only [mup_same, mu_ng, mu_ni, mu_xi, mu_xt, cq_fr, rn_fr, mrs_fr, inn_fr, cpr_fr, opr_fr, ldd_fr, own_fr, ne_eq, Nat.reduceEqDiff, not_false_eq_true, Int.reduceEq, ↓reduceIte, rs_og]; exact ⟨trivial, trivial⟩
  have nl : ¬ ldd (rqs B t) (fq B) := by
    rintro (z | ⟨r, r0, z⟩)
    · rw [rs_hi, if_pos rfl] at z; exact z rfl
    · rw [(hvE r).1] at z; exact hv r r0.1 r0.2 z
  have er : rn (rqs B t) = rn B := rn_cg2 (fun x x0 x1 => by
    rw [rs_st]
    by_cases c : x = fq B
    · rw [if_pos c, c]; omega
    · rw [if_neg c])
  have rnn : ¬ rn B = fq B := fun z => by
    have := (h.run (by omega)).2.1
    rw [z] at this
    omega
  have eo : ∀ r : Int, 0 ≤ r → r < 32 → ¬ (B 65639 0 (r)) = 0 → own (rqs B t) (B 65639 0 (r)) = own B (B 65639 0 (r)) := fun r r0 r1 z => by
    unfold own
    by_cases c : (B 65639 0 (r)) < 1000
    · rw [if_pos c, if_pos c, rs_tk, if_neg (fun w => hv r r0 r1 (by omega))]
    · rw [if_neg c, if_neg c]
  have sb : SB (rqs B t) := by
    refine SB.ch h.sb h.mB (fq B) q0 q1 fr (fun x xn => ?_) hvE (fun i => by simp only [mup_same, mu_ng, mu_ni, mu_xi, mu_xt, cq_fr, rn_fr, mrs_fr, inn_fr, cpr_fr, opr_fr, ldd_fr, own_fr, ne_eq, Nat.reduceEqDiff, not_false_eq_true, Int.reduceEq, ↓reduceIte, rs_og]) (by rw [rs_se]; omega) ?_ (fun x x0 x1 xs => ?_) ?_ (fun z => ?_) (fun z => ?_) (fun r r0 r1 z => absurd z (hv r r0 r1)) (fun p p0 p1 pn ps qn pt z => ?_) (fun p p0 p1 pn ps qn pt z => ?_) (fun z => ?_)
    · rw [rs_st, rs_tk, rs_rw, rs_ky, rs_hi, if_neg xn, if_neg xn, if_neg xn, if_neg xn, if_neg xn]
      exact ⟨rfl, rfl, rfl, rfl, rfl⟩
    · rw [rs_st, if_pos rfl, rs_tk, if_pos rfl]
      exact ⟨by omega, by omega, fun _ => t1⟩
    · rw [er]
      rw [rs_st] at xs
      by_cases c : x = fq B
      · rw [if_pos c] at xs; omega
      · rw [if_neg c] at xs; exact h.sb.r1 x x0 x1 xs
    · rw [rs_ky, if_pos rfl, rs_se]
      omega
    · rw [rs_hi, if_pos rfl] at z; exact absurd rfl z
    · rw [rs_st, if_pos rfl] at z; omega
    · rcases z with z | z
      · exact absurd z nl
      · rw [rs_st, if_pos rfl] at z; omega
    · rw [rs_st, if_pos rfl]
      rw [rs_tk, if_pos rfl] at pt
      refine ⟨rfl, nl, fun s1 => ?_⟩
      have a := h.sb.rx p p0 p1 s1
      have b := cpr_ge (B := B) (p := p) p1
      rw [pt] at b
      have k := h.sb.ky p p0 p1
      show ((rqs B t) 819299 0 (fq B)) < ((rqs B t) 819299 0 (p)) ∨ (((rqs B t) 819299 0 (p)) = ((rqs B t) 819299 0 (fq B)) ∧ ((rqs B t) 819812 0 (p)) < ((rqs B t) 819812 0 (fq B)))
      rw [rs_rw, rs_rw, rs_ky, rs_ky, if_pos rfl, if_pos rfl, if_neg pn, if_neg pn]
      omega
    · rw [cpr_un (fr.mb h.mB) q0 q1 nl, rs_tk, if_pos rfl, rs_rw, if_pos rfl, fr 98385 0 t rfl]
  refine RL.mk (h.pl.fr fc fr) sb ?_ ?_ ?_ ?_ ?_ ?_ ?_ ?_ ?_ ?_ ?_ ?_ ?_ ?_ ?_ ?_ ?_ ?_ ?_ ?_ ?_ ?_ ?_ ?_ ?_ ?_ ?_ ?_ ?_
  · simp only [mup_same, mu_ng, mu_ni, mu_xi, mu_xt, cq_fr, rn_fr, mrs_fr, inn_fr, cpr_fr, opr_fr, ldd_fr, own_fr, ne_eq, Nat.reduceEqDiff, not_false_eq_true, Int.reduceEq, ↓reduceIte, rq_og, rs_oi]; exact h.on
  · simp only [mup_same, mu_ng, mu_ni, mu_xi, mu_xt, cq_fr, rn_fr, mrs_fr, inn_fr, cpr_fr, opr_fr, ldd_fr, own_fr, ne_eq, Nat.reduceEqDiff, not_false_eq_true, Int.reduceEq, ↓reduceIte, rq_og, rs_oi]; exact h.sh
  · rw [rs_se]; simp only [mup_same, mu_ng, mu_ni, mu_xi, mu_xt, cq_fr, rn_fr, mrs_fr, inn_fr, cpr_fr, opr_fr, ldd_fr, own_fr, ne_eq, Nat.reduceEqDiff, not_false_eq_true, Int.reduceEq, ↓reduceIte, rq_og, rs_oi]; omega
  · simp only [mup_same, mu_ng, mu_ni, mu_xi, mu_xt, cq_fr, rn_fr, mrs_fr, inn_fr, cpr_fr, opr_fr, ldd_fr, own_fr, ne_eq, Nat.reduceEqDiff, not_false_eq_true, Int.reduceEq, ↓reduceIte, rq_og, rs_og]; exact h.na
  · simp only [mup_same, mu_ng, mu_ni, mu_xi, mu_xt, cq_fr, rn_fr, mrs_fr, inn_fr, cpr_fr, opr_fr, ldd_fr, own_fr, ne_eq, Nat.reduceEqDiff, not_false_eq_true, Int.reduceEq, ↓reduceIte, rq_og, rs_oi]; exact h.bt
  · rw [er, rs_tk, if_neg rnn]; simp only [mup_same, mu_ng, mu_ni, mu_xi, mu_xt, cq_fr, rn_fr, mrs_fr, inn_fr, cpr_fr, opr_fr, ldd_fr, own_fr, ne_eq, Nat.reduceEqDiff, not_false_eq_true, Int.reduceEq, ↓reduceIte, rq_og]; exact h.cu
  · intro x x0 x1
    have y := h.rq x x0 x1
    have u := cq_upd (B := B) (B' := rqs B t) (q := fq B) (t := x) q0 q1 (fun y yn => ⟨by rw [rs_st, if_neg yn], by rw [rs_tk, if_neg yn]⟩)
    rw [rs_st, if_pos rfl, rs_tk, if_pos rfl, if_neg (fun z => z.1 qs)] at u
    rw [u, rq_r, fr 14408 0 4 rfl, fr 98387 0 x rfl]
    by_cases c : x = t
    · rw [if_pos c, if_pos ⟨by decide, c.symm⟩]
      rw [c] at y ⊢
      exact ⟨by omega, fun _ => by omega⟩
    · rw [if_neg c, if_neg (fun z => c z.2.symm)]
      exact ⟨by omega, y.2⟩
  · intro x x0 x1
    have y := h.wa x x0 x1
    have w : (∃ q : Int, (0 ≤ q ∧ q < 400) ∧ ((rqs B t) 819298 0 (q)) = 3 ∧ ((rqs B t) 819297 0 (q)) = x) ↔ ∃ q : Int, (0 ≤ q ∧ q < 400) ∧ (B 819298 0 (q)) = 3 ∧ (B 819297 0 (q)) = x := by
      constructor
      · rintro ⟨q, a1, a2, a3⟩
        rw [rs_st] at a2
        rw [rs_tk] at a3
        by_cases c : q = fq B
        · rw [if_pos c] at a2; omega
        · rw [if_neg c] at a2 a3; exact ⟨q, a1, a2, a3⟩
      · rintro ⟨q, a1, a2, a3⟩
        have c : ¬ q = fq B := fun z => by rw [z] at a2; omega
        exact ⟨q, a1, by rw [rs_st, if_neg c]; exact a2, by rw [rs_tk, if_neg c]; exact a3⟩
    rw [w]
    simp only [mup_same, mu_ng, mu_ni, mu_xi, mu_xt, cq_fr, rn_fr, mrs_fr, inn_fr, cpr_fr, opr_fr, ldd_fr, own_fr, ne_eq, Nat.reduceEqDiff, not_false_eq_true, Int.reduceEq, ↓reduceIte, rq_o8]
    exact y
  · intro q a1 a2 a3
    have c : ¬ q = fq B := fun z => by rw [rs_st, if_pos z] at a3; omega
    rw [rs_st, if_neg c] at a3
    rw [rs_tk, if_neg c]
    have y := h.wf q a1 a2 a3
    simp only [mup_same, mu_ng, mu_ni, mu_xi, mu_xt, cq_fr, rn_fr, mrs_fr, inn_fr, cpr_fr, opr_fr, ldd_fr, own_fr, ne_eq, Nat.reduceEqDiff, not_false_eq_true, Int.reduceEq, ↓reduceIte, rq_o8, rs_og]
    exact y
  · intro x x0 x1
    have y := h.hi x x0 x1
    have w : (∃ q : Int, (0 ≤ q ∧ q < 400) ∧ ¬ ((rqs B t) 819561 0 (q)) = 0 ∧ ((rqs B t) 819297 0 (q)) = x) ↔ ∃ q : Int, (0 ≤ q ∧ q < 400) ∧ ¬ (B 819561 0 (q)) = 0 ∧ (B 819297 0 (q)) = x := by
      constructor
      · rintro ⟨q, a1, a2, a3⟩
        rw [rs_hi] at a2
        rw [rs_tk] at a3
        by_cases c : q = fq B
        · rw [if_pos c] at a2; exact absurd rfl a2
        · rw [if_neg c] at a2 a3; exact ⟨q, a1, a2, a3⟩
      · rintro ⟨q, a1, a2, a3⟩
        have c : ¬ q = fq B := fun z => by
          have := (h.sb.hi q a1.1 a1.2 a2).1
          rw [z] at this
          omega
        exact ⟨q, a1, by rw [rs_hi, if_neg c]; exact a2, by rw [rs_tk, if_neg c]; exact a3⟩
    rw [w]
    simp only [mup_same, mu_ng, mu_ni, mu_xi, mu_xt, cq_fr, rn_fr, mrs_fr, inn_fr, cpr_fr, opr_fr, ldd_fr, own_fr, ne_eq, Nat.reduceEqDiff, not_false_eq_true, Int.reduceEq, ↓reduceIte, rq_o8]
    exact y
  · intro w w0 w1
    rw [rq_r, if_neg (by omega)]
    simp only [mup_same, mu_ng, mu_ni, mu_xi, mu_xt, cq_fr, rn_fr, mrs_fr, inn_fr, cpr_fr, opr_fr, ldd_fr, own_fr, ne_eq, Nat.reduceEqDiff, not_false_eq_true, Int.reduceEq, ↓reduceIte, rq_o8]
    exact h.hx w w0 w1
  · simp only [mup_same, mu_ng, mu_ni, mu_xi, mu_xt, cq_fr, rn_fr, mrs_fr, inn_fr, cpr_fr, opr_fr, ldd_fr, own_fr, ne_eq, Nat.reduceEqDiff, not_false_eq_true, Int.reduceEq, ↓reduceIte, rq_o8]; exact h.hc
  · intro w i w0 w1 i0 i1
    have i1 : i < (A 8 (w) 14) := by revert i1; simp only [mup_same, mu_ng, mu_ni, mu_xi, mu_xt, cq_fr, rn_fr, mrs_fr, inn_fr, cpr_fr, opr_fr, ldd_fr, own_fr, ne_eq, Nat.reduceEqDiff, not_false_eq_true, Int.reduceEq, ↓reduceIte, rq_o8]; exact fun z => z
    have y := h.hd w i w0 w1 i0 i1
    simp only [mup_same, mu_ng, mu_ni, mu_xi, mu_xt, cq_fr, rn_fr, mrs_fr, inn_fr, cpr_fr, opr_fr, ldd_fr, own_fr, ne_eq, Nat.reduceEqDiff, not_false_eq_true, Int.reduceEq, ↓reduceIte, rq_og, rs_og]
    refine ⟨y.1, y.2.1, ?_⟩
    rw [eo _ y.1.1 y.1.2 y.2.1]
    exact y.2.2
  · simp only [mup_same, mu_ng, mu_ni, mu_xi, mu_xt, cq_fr, rn_fr, mrs_fr, inn_fr, cpr_fr, opr_fr, ldd_fr, own_fr, ne_eq, Nat.reduceEqDiff, not_false_eq_true, Int.reduceEq, ↓reduceIte, rq_o8, rq_og, rs_og]; exact h.hs
  · intro r r0 r1 z
    have z : ¬ (B 65639 0 (r)) = 0 := by revert z; simp only [mup_same, mu_ng, mu_ni, mu_xi, mu_xt, cq_fr, rn_fr, mrs_fr, inn_fr, cpr_fr, opr_fr, ldd_fr, own_fr, ne_eq, Nat.reduceEqDiff, not_false_eq_true, Int.reduceEq, ↓reduceIte, rs_og]; exact fun z => z
    have y := h.ho r r0 r1 z
    rw [(hvE r).1, eo r r0 r1 z]
    simp only [mup_same, mu_ng, mu_ni, mu_xi, mu_xt, cq_fr, rn_fr, mrs_fr, inn_fr, cpr_fr, opr_fr, ldd_fr, own_fr, ne_eq, Nat.reduceEqDiff, not_false_eq_true, Int.reduceEq, ↓reduceIte, rq_o8, rq_og]
    exact y
  · simp only [mup_same, mu_ng, mu_ni, mu_xi, mu_xt, cq_fr, rn_fr, mrs_fr, inn_fr, cpr_fr, opr_fr, ldd_fr, own_fr, ne_eq, Nat.reduceEqDiff, not_false_eq_true, Int.reduceEq, ↓reduceIte, rq_og, rs_oi]; exact h.bc
  · simp only [mup_same, mu_ng, mu_ni, mu_xi, mu_xt, cq_fr, rn_fr, mrs_fr, inn_fr, cpr_fr, opr_fr, ldd_fr, own_fr, ne_eq, Nat.reduceEqDiff, not_false_eq_true, Int.reduceEq, ↓reduceIte, rq_og, rs_oi, rs_og]; exact h.bg
  · simp only [mup_same, mu_ng, mu_ni, mu_xi, mu_xt, cq_fr, rn_fr, mrs_fr, inn_fr, cpr_fr, opr_fr, ldd_fr, own_fr, ne_eq, Nat.reduceEqDiff, not_false_eq_true, Int.reduceEq, ↓reduceIte, rq_og, rs_oi, rs_og]; exact h.bo
  · simp only [mup_same, mu_ng, mu_ni, mu_xi, mu_xt, cq_fr, rn_fr, mrs_fr, inn_fr, cpr_fr, opr_fr, ldd_fr, own_fr, ne_eq, Nat.reduceEqDiff, not_false_eq_true, Int.reduceEq, ↓reduceIte, rq_og, rs_oi, rs_og]; exact h.bi
  · simp only [mup_same, mu_ng, mu_ni, mu_xi, mu_xt, cq_fr, rn_fr, mrs_fr, inn_fr, cpr_fr, opr_fr, ldd_fr, own_fr, ne_eq, Nat.reduceEqDiff, not_false_eq_true, Int.reduceEq, ↓reduceIte, rq_o8, rs_og]; exact h.ca
  · intro x x0 x1
    have y := h.st x x0 x1
    rw [rq_s, rs_set, fr 14408 0 4 rfl, fr 98388 0 x rfl, rq.1]
    by_cases c : x = t
    · subst c
      by_cases d : cq B x 400 = 0
      · rw [if_pos ⟨rfl, d⟩]
        by_cases e : (B 98388 0 (x)) = 0
        · rw [if_neg (fun z => z.2.2 e)]
          have f := y.2 (Or.inr e)
          exact ⟨by omega, fun _ => f⟩
        · rw [if_pos ⟨rfl, d, e⟩]
          exact ⟨rfl, fun _ => rfl⟩
      · rw [if_neg (fun z => d z.2), if_neg (fun z => d z.2.1)]
        exact y
    · rw [if_neg (fun z => c z.1), if_neg (fun z => c z.1)]
      exact y
  · simp only [mup_same, mu_ng, mu_ni, mu_xi, mu_xt, cq_fr, rn_fr, mrs_fr, inn_fr, cpr_fr, opr_fr, ldd_fr, own_fr, ne_eq, Nat.reduceEqDiff, not_false_eq_true, Int.reduceEq, ↓reduceIte, rq_og, rs_og]; exact h.co
  · unfold CO; simp only [mup_same, mu_ng, mu_ni, mu_xi, mu_xt, cq_fr, rn_fr, mrs_fr, inn_fr, cpr_fr, opr_fr, ldd_fr, own_fr, ne_eq, Nat.reduceEqDiff, not_false_eq_true, Int.reduceEq, ↓reduceIte, rq_og, rs_og]; exact h.ko
  · simp only [mup_same, mu_ng, mu_ni, mu_xi, mu_xt, cq_fr, rn_fr, mrs_fr, inn_fr, cpr_fr, opr_fr, ldd_fr, own_fr, ne_eq, Nat.reduceEqDiff, not_false_eq_true, Int.reduceEq, ↓reduceIte, rq_og, rs_og]; exact h.wg
  · simp only [mup_same, mu_ng, mu_ni, mu_xi, mu_xt, cq_fr, rn_fr, mrs_fr, inn_fr, cpr_fr, opr_fr, ldd_fr, own_fr, ne_eq, Nat.reduceEqDiff, not_false_eq_true, Int.reduceEq, ↓reduceIte, rq_og, rs_og]; exact h.au
  · simp only [mup_same, mu_ng, mu_ni, mu_xi, mu_xt, cq_fr, rn_fr, mrs_fr, inn_fr, cpr_fr, opr_fr, ldd_fr, own_fr, ne_eq, Nat.reduceEqDiff, not_false_eq_true, Int.reduceEq, ↓reduceIte, rq_og, rs_og]; exact h.ad
  · simp only [mup_same, mu_ng, mu_ni, mu_xi, mu_xt, cq_fr, rn_fr, mrs_fr, inn_fr, cpr_fr, opr_fr, ldd_fr, own_fr, ne_eq, Nat.reduceEqDiff, not_false_eq_true, Int.reduceEq, ↓reduceIte, rq_og, rs_og]; exact h.ee
  · simp only [mup_same, mu_ng, mu_ni, mu_xi, mu_xt, cq_fr, rn_fr, mrs_fr, inn_fr, cpr_fr, opr_fr, ldd_fr, own_fr, ne_eq, Nat.reduceEqDiff, not_false_eq_true, Int.reduceEq, ↓reduceIte, rs_oi]; exact fun z => absurd z ho
  · have pr := h.pl.pr t t0 t1
    have za : (A 7 0 2) < 384 := h.sz_lt t t0 t1 hl
    have r2 : RwR ((rqA A t) 7 0 2) (fun i => ((rqA A t) 786482 0 (i))) (fun i => ((rqA A t) 786481 0 (i))) (fun q => (B 819298 0 (q))) (fun q => (B 819297 0 (q))) (fun q => (B 819299 0 (q))) (fun q => (B 819812 0 (q))) sg := by
      simp only [rqA_o (g := 7) (by decide), rqA_o (g := 786482) (by decide), rqA_o (g := 786481) (by decide)]
      exact r
    have e : kreq A t = kput (rqA A t) t (B 98385 0 (t)) (B 98385 0 (t)) := by rw [← pr.1]; rfl
    rw [e]
    exact ⟨_, rw_ins (A := rqA A t) (B' := rqs B t) (q := fq B) (p := (B 98385 0 (t))) (t := t) (k := (B 11 0 58) + 1) (l := (B 98385 0 (t))) r2 h.sb.ky (by rw [rqA_o (by decide)]; exact za) q0 q1 (by omega) rs_st rs_tk rs_rw rs_ky (Or.inl ⟨rfl, rfl⟩)⟩
