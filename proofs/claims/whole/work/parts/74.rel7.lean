/-! ===== settling: the running task is preempted; settling as a whole ===== -/
theorem rn_ntE (M : AMem) (v : Int) : rn (nt M v) = rn M := by unfold nt; simp only [mup_same, mu_ng, mu_ni, mu_xi, mu_xt, cq_fr, rn_fr, mrs_fr, inn_fr, cpr_fr, opr_fr, ldd_fr, own_fr, ne_eq, Nat.reduceEqDiff, not_false_eq_true, Int.reduceEq, ↓reduceIte]
def prA (A : AMem) : AMem := (mup (kput A (A 6 0 5) (kcp A (A 6 0 5)) (kcp A (A 6 0 5) + 1)) 6 0 5 (-1))
def prB (B : AMem) (q : Int) : AMem := (mup (mup (mup (mup B 819298 0 (q) (1)) 819299 0 (q) (cpr B (1 + q))) 11 0 58 ((B 11 0 58) + 1)) 819812 0 (q) (-((B 11 0 58) + 1)))
theorem pre_eq (B : AMem) (q : Int) : pre B q = nt (prB B q) (20000 + (B 819297 0 (q))) := by
  unfold prB
  rw [nt_c (by decide) (by omega), nt_c (by decide) (by omega), nt_c (by decide) (by omega)]
  rfl
theorem krt_cu (A : AMem) (v : Int) : krt (mup A 6 0 5 (v)) = krt A := by
  unfold krt
  simp only [mup_same, mu_ng, mu_ni, mu_xi, mu_xt, cq_fr, rn_fr, mrs_fr, inn_fr, cpr_fr, opr_fr, ldd_fr, own_fr, ne_eq, Nat.reduceEqDiff, not_false_eq_true, Int.reduceEq, ↓reduceIte]
  congr 2
  rw [mu_cm (g := 6) (g' := 7) (by decide)]
  funext a b c
  unfold mup
  by_cases h : a = 6 ∧ b = 0 ∧ c = 5
  · rw [if_pos h, if_pos h]
  · rw [if_neg h, if_neg h, if_neg h]
theorem kpre_eq (A : AMem) : krt (kpre A) = krt (knt (prA A) (20000 + (A 6 0 5))) := by
  unfold prA
  rw [knt_c (by decide) (by decide), krt_cu]
  rfl
set_option maxHeartbeats 1000000 in
theorem rl_pr {n : Int} {A B : AMem} (h : RL n A B) (ho : ¬ (B 11 0 50) = 0) (hr : ¬ rn B = -1) : RL (n + 1) (prA A) (prB B (rn B)) ∧ rn (prB B (rn B)) = -1 := by
  obtain ⟨sg, r⟩ := h.rx
  obtain ⟨⟨q0, q1⟩, qs, qc, qt⟩ := h.run hr
  have zz := h.sz.2 hr
  have kc := h.kcpR hr
  have sl := h.slot _ q0 q1
  have hs := h.sb.se
  have hn := h.no
  have e1 : ∀ x, ((prB B (rn B)) 819298 0 (x)) = if x = rn B then 1 else (B 819298 0 (x)) := fun x => by unfold prB; simp only [mup_same, mu_ng, mu_ni, mu_xi, mu_xt, cq_fr, rn_fr, mrs_fr, inn_fr, cpr_fr, opr_fr, ldd_fr, own_fr, ne_eq, Nat.reduceEqDiff, not_false_eq_true, Int.reduceEq, ↓reduceIte]
  have e2 : ∀ x, ((prB B (rn B)) 819297 0 (x)) = (B 819297 0 (x)) := fun x => by unfold prB; simp only [mup_same, mu_ng, mu_ni, mu_xi, mu_xt, cq_fr, rn_fr, mrs_fr, inn_fr, cpr_fr, opr_fr, ldd_fr, own_fr, ne_eq, Nat.reduceEqDiff, not_false_eq_true, Int.reduceEq, ↓reduceIte]
  have e3 : ∀ x, ((prB B (rn B)) 819299 0 (x)) = if x = rn B then cpr B (1 + rn B) else (B 819299 0 (x)) := fun x => by unfold prB; simp only [mup_same, mu_ng, mu_ni, mu_xi, mu_xt, cq_fr, rn_fr, mrs_fr, inn_fr, cpr_fr, opr_fr, ldd_fr, own_fr, ne_eq, Nat.reduceEqDiff, not_false_eq_true, Int.reduceEq, ↓reduceIte]
  have e4 : ∀ x, ((prB B (rn B)) 819812 0 (x)) = if x = rn B then -((B 11 0 58) + 1) else (B 819812 0 (x)) := fun x => by unfold prB; simp only [mup_same, mu_ng, mu_ni, mu_xi, mu_xt, cq_fr, rn_fr, mrs_fr, inn_fr, cpr_fr, opr_fr, ldd_fr, own_fr, ne_eq, Nat.reduceEqDiff, not_false_eq_true, Int.reduceEq, ↓reduceIte]
  have e5 : ∀ x, ((prB B (rn B)) 819561 0 (x)) = (B 819561 0 (x)) := fun x => by unfold prB; simp only [mup_same, mu_ng, mu_ni, mu_xi, mu_xt, cq_fr, rn_fr, mrs_fr, inn_fr, cpr_fr, opr_fr, ldd_fr, own_fr, ne_eq, Nat.reduceEqDiff, not_false_eq_true, Int.reduceEq, ↓reduceIte]
  have e0 : ∀ r, ((prB B (rn B)) 65639 0 (r)) = (B 65639 0 (r)) ∧ ((prB B (rn B)) 66152 0 (r)) = (B 66152 0 (r)) := fun r => by unfold prB; simp only [mup_same, mu_ng, mu_ni, mu_xi, mu_xt, cq_fr, rn_fr, mrs_fr, inn_fr, cpr_fr, opr_fr, ldd_fr, own_fr, ne_eq, Nat.reduceEqDiff, not_false_eq_true, Int.reduceEq, ↓reduceIte]; exact ⟨trivial, trivial⟩
  have e6 : ((prB B (rn B)) 11 0 58) = (B 11 0 58) + 1 := by unfold prB; simp only [mup_same, mu_ng, mu_ni, mu_xi, mu_xt, cq_fr, rn_fr, mrs_fr, inn_fr, cpr_fr, opr_fr, ldd_fr, own_fr, ne_eq, Nat.reduceEqDiff, not_false_eq_true, Int.reduceEq, ↓reduceIte]
  have ns : ∀ x : Int, 0 ≤ x → x < 400 → ¬ ((prB B (rn B)) 819298 0 (x)) = 2 := fun x x0 x1 xs => by
    rw [e1] at xs
    by_cases c : x = rn B
    · rw [if_pos c] at xs; omega
    · rw [if_neg c] at xs; exact c (h.sb.r1 x x0 x1 xs)
  have er : rn (prB B (rn B)) = -1 := rn_0 ns
  have fc : frC A (prA A) := frC.up rfl (kp_fr (frC.rf A))
  have fr : frR B (prB B (rn B)) := frR.up rfl (frR.up rfl (frR.up rfl (frR.up rfl (frR.rf B))))
  have cp : cpr (prB B (rn B)) (1 + rn B) = cpr B (1 + rn B) := cpr_cg fr h.mB (fun r _ _ => by rw [(e0 r).1]) (e2 _) (e5 _)
  have un : ∀ p : Int, 0 ≤ p → p < 400 → ¬ p = rn B → ¬ (B 819298 0 (p)) = 0 → (B 819297 0 (p)) = (B 819297 0 (rn B)) → (B 819298 0 (p)) = 1 ∧ ¬ ldd B p := fun p p0 p1 pn ps pt => by
    have := h.sb.ld (rn B) p q0 q1 p0 p1 (fun z => pn z.symm) (by omega) ps pt.symm (Or.inr qs)
    exact ⟨this.1, this.2.1⟩
  have sb : SB (prB B (rn B)) := by
    refine SB.ch h.sb h.mB (rn B) q0 q1 fr (fun x xn => ?_) e0 (fun i => by unfold prB; simp only [mup_same, mu_ng, mu_ni, mu_xi, mu_xt, cq_fr, rn_fr, mrs_fr, inn_fr, cpr_fr, opr_fr, ldd_fr, own_fr, ne_eq, Nat.reduceEqDiff, not_false_eq_true, Int.reduceEq, ↓reduceIte]) (by omega) ?_ (fun x x0 x1 xs => absurd xs (ns x x0 x1)) ?_ (fun z => ?_) (fun z => ?_) (fun r r0 r1 z => ?_) (fun p p0 p1 pn ps qn pt _ => ?_) (fun p p0 p1 pn ps qn pt z => ?_) (fun z => ?_)
    · rw [e1, e2, e3, e4, e5, if_neg xn, if_neg xn, if_neg xn]
      exact ⟨rfl, rfl, rfl, rfl, rfl⟩
    · rw [e1, if_pos rfl, e2]
      exact ⟨by omega, sl.2.1, fun _ => qt.2⟩
    · rw [e4, if_pos rfl, e6]
      omega
    · rw [e1, if_pos rfl, e2]
      rw [e5] at z
      exact ⟨Or.inl rfl, (h.sb.hi _ q0 q1 z).2⟩
    · rw [e1, if_pos rfl] at z
      omega
    · rw [e1, if_pos rfl]
      exact Or.inl rfl
    · rw [e2] at pt
      have u := un p p0 p1 pn ps pt
      refine ⟨u.1, u.2, fun _ => ?_⟩
      have a := h.sb.rx p p0 p1 u.1
      rw [cpr_un h.mB p0 p1 u.2, pt] at a
      have b := cpr_ge (B := B) (p := rn B) q1
      have k := h.sb.ky p p0 p1
      have k1 := e3 (rn B)
      have k2 := e4 (rn B)
      have k3 := e3 p
      have k4 := e4 p
      rw [if_pos rfl] at k1 k2
      rw [if_neg pn] at k3 k4
      show ((prB B (rn B)) 819299 0 (p)) < ((prB B (rn B)) 819299 0 (rn B)) ∨ (((prB B (rn B)) 819299 0 (rn B)) = ((prB B (rn B)) 819299 0 (p)) ∧ ((prB B (rn B)) 819812 0 (rn B)) < ((prB B (rn B)) 819812 0 (p)))
      rw [k1, k2, k3, k4]
      omega
    · rw [e2] at pt
      have u := un p p0 p1 pn ps pt
      rcases z with z | z
      · exact absurd z u.2
      · omega
    · rw [cp, e3, if_pos rfl]
  refine ⟨RL.mk (h.pl.fr fc fr) sb ?_ ?_ ?_ ?_ ?_ ?_ ?_ ?_ ?_ ?_ ?_ ?_ ?_ ?_ ?_ ?_ ?_ ?_ ?_ ?_ ?_ ?_ ?_ ?_ ?_ ?_ ?_ ?_ ?_, er⟩
  · simp only [mup_same, mu_ng, mu_ni, mu_xi, mu_xt, cq_fr, rn_fr, mrs_fr, inn_fr, cpr_fr, opr_fr, ldd_fr, own_fr, ne_eq, Nat.reduceEqDiff, not_false_eq_true, Int.reduceEq, ↓reduceIte, prA, prB, kp_o]; exact h.on
  · simp only [mup_same, mu_ng, mu_ni, mu_xi, mu_xt, cq_fr, rn_fr, mrs_fr, inn_fr, cpr_fr, opr_fr, ldd_fr, own_fr, ne_eq, Nat.reduceEqDiff, not_false_eq_true, Int.reduceEq, ↓reduceIte, prA, prB, kp_o]; exact h.sh
  · simp only [mup_same, mu_ng, mu_ni, mu_xi, mu_xt, cq_fr, rn_fr, mrs_fr, inn_fr, cpr_fr, opr_fr, ldd_fr, own_fr, ne_eq, Nat.reduceEqDiff, not_false_eq_true, Int.reduceEq, ↓reduceIte, prA, prB, kp_o]; omega
  · simp only [mup_same, mu_ng, mu_ni, mu_xi, mu_xt, cq_fr, rn_fr, mrs_fr, inn_fr, cpr_fr, opr_fr, ldd_fr, own_fr, ne_eq, Nat.reduceEqDiff, not_false_eq_true, Int.reduceEq, ↓reduceIte, prA, prB, kp_o]; exact h.na
  · simp only [mup_same, mu_ng, mu_ni, mu_xi, mu_xt, cq_fr, rn_fr, mrs_fr, inn_fr, cpr_fr, opr_fr, ldd_fr, own_fr, ne_eq, Nat.reduceEqDiff, not_false_eq_true, Int.reduceEq, ↓reduceIte, prA, prB, kp_o]; exact h.bt
  · rw [er]; unfold prA; simp only [mup_same, mu_ng, mu_ni, mu_xi, mu_xt, cq_fr, rn_fr, mrs_fr, inn_fr, cpr_fr, opr_fr, ldd_fr, own_fr, ne_eq, Nat.reduceEqDiff, not_false_eq_true, Int.reduceEq, ↓reduceIte, kp_o]
  · intro t t0 t1
    have x := h.rq t t0 t1
    have u := cq_upd (B := B) (B' := prB B (rn B)) (q := rn B) (t := t) q0 q1 (fun y yn => ⟨by rw [e1, if_neg yn], e2 y⟩)
    rw [e1, if_pos rfl, e2] at u
    have c2 : cq (prB B (rn B)) t 400 = cq B t 400 := by
      rw [u]
      by_cases c : (B 819297 0 (rn B)) = t
      · rw [if_pos ⟨by omega, c⟩, if_pos ⟨by omega, c⟩]; omega
      · rw [if_neg (fun z => c z.2), if_neg (fun z => c z.2)]; omega
    rw [c2]
    simp only [mup_same, mu_ng, mu_ni, mu_xi, mu_xt, cq_fr, rn_fr, mrs_fr, inn_fr, cpr_fr, opr_fr, ldd_fr, own_fr, ne_eq, Nat.reduceEqDiff, not_false_eq_true, Int.reduceEq, ↓reduceIte, prA, prB, kp_o]
    exact x
  · intro t t0 t1
    have x := h.wa t t0 t1
    have y : (∃ q : Int, (0 ≤ q ∧ q < 400) ∧ ((prB B (rn B)) 819298 0 (q)) = 3 ∧ ((prB B (rn B)) 819297 0 (q)) = t) ↔ ∃ q : Int, (0 ≤ q ∧ q < 400) ∧ (B 819298 0 (q)) = 3 ∧ (B 819297 0 (q)) = t := by
      constructor
      · rintro ⟨q, a1, a2, a3⟩
        rw [e1] at a2
        rw [e2] at a3
        by_cases c : q = rn B
        · rw [if_pos c] at a2; omega
        · rw [if_neg c] at a2; exact ⟨q, a1, a2, a3⟩
      · rintro ⟨q, a1, a2, a3⟩
        refine ⟨q, a1, ?_, by rw [e2]; exact a3⟩
        rw [e1, if_neg (fun z => by rw [z] at a2; omega)]
        exact a2
    rw [y]
    unfold prA
    simp only [mup_same, mu_ng, mu_ni, mu_xi, mu_xt, cq_fr, rn_fr, mrs_fr, inn_fr, cpr_fr, opr_fr, ldd_fr, own_fr, ne_eq, Nat.reduceEqDiff, not_false_eq_true, Int.reduceEq, ↓reduceIte, kp_o]
    exact x
  · intro q a1 a2 a3
    rw [e2]
    have b : (B 819298 0 (q)) = 3 := by
      rw [e1] at a3
      by_cases c : q = rn B
      · rw [if_pos c] at a3; omega
      · rw [if_neg c] at a3; exact a3
    have x := h.wf q a1 a2 b
    simp only [mup_same, mu_ng, mu_ni, mu_xi, mu_xt, cq_fr, rn_fr, mrs_fr, inn_fr, cpr_fr, opr_fr, ldd_fr, own_fr, ne_eq, Nat.reduceEqDiff, not_false_eq_true, Int.reduceEq, ↓reduceIte, prA, prB, kp_o]
    exact x
  · simp only [mup_same, mu_ng, mu_ni, mu_xi, mu_xt, cq_fr, rn_fr, mrs_fr, inn_fr, cpr_fr, opr_fr, ldd_fr, own_fr, ne_eq, Nat.reduceEqDiff, not_false_eq_true, Int.reduceEq, ↓reduceIte, prA, prB, kp_o]; exact h.hi
  · simp only [mup_same, mu_ng, mu_ni, mu_xi, mu_xt, cq_fr, rn_fr, mrs_fr, inn_fr, cpr_fr, opr_fr, ldd_fr, own_fr, ne_eq, Nat.reduceEqDiff, not_false_eq_true, Int.reduceEq, ↓reduceIte, prA, prB, kp_o]; exact h.hx
  · simp only [mup_same, mu_ng, mu_ni, mu_xi, mu_xt, cq_fr, rn_fr, mrs_fr, inn_fr, cpr_fr, opr_fr, ldd_fr, own_fr, ne_eq, Nat.reduceEqDiff, not_false_eq_true, Int.reduceEq, ↓reduceIte, prA, prB, kp_o]; exact h.hc
  · simp only [mup_same, mu_ng, mu_ni, mu_xi, mu_xt, cq_fr, rn_fr, mrs_fr, inn_fr, cpr_fr, opr_fr, ldd_fr, own_fr, ne_eq, Nat.reduceEqDiff, not_false_eq_true, Int.reduceEq, ↓reduceIte, prA, prB, kp_o]; exact h.hd
  · simp only [mup_same, mu_ng, mu_ni, mu_xi, mu_xt, cq_fr, rn_fr, mrs_fr, inn_fr, cpr_fr, opr_fr, ldd_fr, own_fr, ne_eq, Nat.reduceEqDiff, not_false_eq_true, Int.reduceEq, ↓reduceIte, prA, prB, kp_o]; exact h.hs
  · simp only [mup_same, mu_ng, mu_ni, mu_xi, mu_xt, cq_fr, rn_fr, mrs_fr, inn_fr, cpr_fr, opr_fr, ldd_fr, own_fr, ne_eq, Nat.reduceEqDiff, not_false_eq_true, Int.reduceEq, ↓reduceIte, prA, prB, kp_o]; exact h.ho
  · simp only [mup_same, mu_ng, mu_ni, mu_xi, mu_xt, cq_fr, rn_fr, mrs_fr, inn_fr, cpr_fr, opr_fr, ldd_fr, own_fr, ne_eq, Nat.reduceEqDiff, not_false_eq_true, Int.reduceEq, ↓reduceIte, prA, prB, kp_o]; exact h.bc
  · simp only [mup_same, mu_ng, mu_ni, mu_xi, mu_xt, cq_fr, rn_fr, mrs_fr, inn_fr, cpr_fr, opr_fr, ldd_fr, own_fr, ne_eq, Nat.reduceEqDiff, not_false_eq_true, Int.reduceEq, ↓reduceIte, prA, prB, kp_o]; exact h.bg
  · simp only [mup_same, mu_ng, mu_ni, mu_xi, mu_xt, cq_fr, rn_fr, mrs_fr, inn_fr, cpr_fr, opr_fr, ldd_fr, own_fr, ne_eq, Nat.reduceEqDiff, not_false_eq_true, Int.reduceEq, ↓reduceIte, prA, prB, kp_o]; exact h.bo
  · simp only [mup_same, mu_ng, mu_ni, mu_xi, mu_xt, cq_fr, rn_fr, mrs_fr, inn_fr, cpr_fr, opr_fr, ldd_fr, own_fr, ne_eq, Nat.reduceEqDiff, not_false_eq_true, Int.reduceEq, ↓reduceIte, prA, prB, kp_o]; exact h.bi
  · simp only [mup_same, mu_ng, mu_ni, mu_xi, mu_xt, cq_fr, rn_fr, mrs_fr, inn_fr, cpr_fr, opr_fr, ldd_fr, own_fr, ne_eq, Nat.reduceEqDiff, not_false_eq_true, Int.reduceEq, ↓reduceIte, prA, prB, kp_o]; exact h.ca
  · simp only [mup_same, mu_ng, mu_ni, mu_xi, mu_xt, cq_fr, rn_fr, mrs_fr, inn_fr, cpr_fr, opr_fr, ldd_fr, own_fr, ne_eq, Nat.reduceEqDiff, not_false_eq_true, Int.reduceEq, ↓reduceIte, prA, prB, kp_o]; exact h.st
  · simp only [mup_same, mu_ng, mu_ni, mu_xi, mu_xt, cq_fr, rn_fr, mrs_fr, inn_fr, cpr_fr, opr_fr, ldd_fr, own_fr, ne_eq, Nat.reduceEqDiff, not_false_eq_true, Int.reduceEq, ↓reduceIte, prA, prB, kp_o]; exact h.co
  · unfold CO; simp only [mup_same, mu_ng, mu_ni, mu_xi, mu_xt, cq_fr, rn_fr, mrs_fr, inn_fr, cpr_fr, opr_fr, ldd_fr, own_fr, ne_eq, Nat.reduceEqDiff, not_false_eq_true, Int.reduceEq, ↓reduceIte, prA, prB, kp_o]; exact h.ko
  · simp only [mup_same, mu_ng, mu_ni, mu_xi, mu_xt, cq_fr, rn_fr, mrs_fr, inn_fr, cpr_fr, opr_fr, ldd_fr, own_fr, ne_eq, Nat.reduceEqDiff, not_false_eq_true, Int.reduceEq, ↓reduceIte, prA, prB, kp_o]; exact h.wg
  · simp only [mup_same, mu_ng, mu_ni, mu_xi, mu_xt, cq_fr, rn_fr, mrs_fr, inn_fr, cpr_fr, opr_fr, ldd_fr, own_fr, ne_eq, Nat.reduceEqDiff, not_false_eq_true, Int.reduceEq, ↓reduceIte, prA, prB, kp_o]; exact h.au
  · simp only [mup_same, mu_ng, mu_ni, mu_xi, mu_xt, cq_fr, rn_fr, mrs_fr, inn_fr, cpr_fr, opr_fr, ldd_fr, own_fr, ne_eq, Nat.reduceEqDiff, not_false_eq_true, Int.reduceEq, ↓reduceIte, prA, prB, kp_o]; exact h.ad
  · simp only [mup_same, mu_ng, mu_ni, mu_xi, mu_xt, cq_fr, rn_fr, mrs_fr, inn_fr, cpr_fr, opr_fr, ldd_fr, own_fr, ne_eq, Nat.reduceEqDiff, not_false_eq_true, Int.reduceEq, ↓reduceIte, prA, prB, kp_o]; exact h.ee
  · simp only [mup_same, mu_ng, mu_ni, mu_xi, mu_xt, cq_fr, rn_fr, mrs_fr, inn_fr, cpr_fr, opr_fr, ldd_fr, own_fr, ne_eq, Nat.reduceEqDiff, not_false_eq_true, Int.reduceEq, ↓reduceIte, prA, prB, kp_o]; exact fun z => absurd z ho
  · have p := rw_ins (B' := prB B (rn B)) (q := rn B) (p := cpr B (1 + rn B)) (t := (B 819297 0 (rn B))) (k := -((B 11 0 58) + 1)) (l := cpr B (1 + rn B) + 1) r h.sb.ky zz q0 q1 (by omega) e1 (fun x => by
      rw [e2]
      by_cases c : x = rn B
      · rw [if_pos c, c]
      · rw [if_neg c]) e3 e4 (Or.inr ⟨rfl, rfl⟩)
    exact ⟨_, by
      unfold prA
      rw [qc, kc]
      rw [mu_ng (by decide)]
      simp only [mu_ng (M := kput A (B 819297 0 (rn B)) (cpr B (1 + rn B)) (cpr B (1 + rn B) + 1)) (show (786482 : Nat) ≠ 6 by decide), mu_ng (M := kput A (B 819297 0 (rn B)) (cpr B (1 + rn B)) (cpr B (1 + rn B) + 1)) (show (786481 : Nat) ≠ 6 by decide)]
      exact p⟩
/-- the reference's condition for running the top is the class's -/
theorem kdu_eq {n : Int} {A B : AMem} (h : RL n A B) : kdu A ↔ (¬ tp B = -1 ∧ (rn B = -1 ∨ ((B 98642 0 ((B 819297 0 (rn B)))) = 0 ∧ cpr B (1 + rn B) < (B 819299 0 (tp B))))) := by
  obtain ⟨sg, r⟩ := h.rx
  have et := r.tpE
  have z0 := r.1
  unfold kdu
  by_cases c : rn B = -1
  · have id := h.idle c
    by_cases d : (A 7 0 2) = 0
    · rw [if_pos d] at et
      constructor
      · rintro (⟨a, b⟩ | ⟨a, b⟩)
        · omega
        · exact absurd id.1 a
      · exact fun z => absurd et z.1
    · rw [if_neg d] at et
      have a := r.pt ((A 7 0 2) - 1) (by omega) (by omega)
      constructor
      · exact fun _ => ⟨by omega, Or.inl c⟩
      · exact fun _ => Or.inl ⟨id.1, by omega⟩
  · have ru := h.run c
    have kc := h.kcpR c
    have w := h.pl.wh _ ru.2.2.2.1 ru.2.2.2.2
    have cg := cpr_ge (B := B) (p := rn B) ru.1.2
    have pp := h.pl.pr _ ru.2.2.2.1 ru.2.2.2.2
    rw [ru.2.2.1, kc, w]
    unfold ktr
    by_cases d : (A 7 0 2) = 0
    · rw [if_pos d] at et
      rw [if_neg (by omega)]
      constructor
      · rintro (⟨a, b⟩ | ⟨a, b, e⟩)
        · omega
        · omega
      · exact fun z => absurd et z.1
    · rw [if_neg d] at et
      have a := r.pt ((A 7 0 2) - 1) (by omega) (by omega)
      have ar : (B 819299 0 (sg ((A 7 0 2) - 1))) = (A 786481 0 (((A 7 0 2) - 1))) := a.2.2.2
      rw [if_pos (by omega), et, ar]
      constructor
      · rintro (⟨x, y⟩ | ⟨x, y, e⟩)
        · omega
        · exact ⟨by omega, Or.inr ⟨y, e⟩⟩
      · rintro ⟨x, y | y⟩
        · exact absurd y c
        · exact Or.inr ⟨by omega, y⟩
/-- settled: what is due has been done -/
def Std (A : AMem) : Prop := ¬ (A 6 0 2) = 0 → (A 6 0 4) = 0 → kgc A = -1 ∧ ((A 6 0 7) = 0 → ¬ kdu A)
theorem kcp_nt (A : AMem) (v w : Int) : kcp (knt A v) w = kcp A w := by
  have f : ∀ m, kcf (knt A v) w m = kcf A w m := by
    intro m
    induction m with
    | zero => simp only [mup_same, mu_ng, mu_ni, mu_xi, mu_xt, cq_fr, rn_fr, mrs_fr, inn_fr, cpr_fr, opr_fr, ldd_fr, own_fr, ne_eq, Nat.reduceEqDiff, not_false_eq_true, Int.reduceEq, ↓reduceIte, kcf, knt]
    | succ m ih => unfold kcf; rw [ih]; unfold knt; simp only [mup_same, mu_ng, mu_ni, mu_xi, mu_xt, cq_fr, rn_fr, mrs_fr, inn_fr, cpr_fr, opr_fr, ldd_fr, own_fr, ne_eq, Nat.reduceEqDiff, not_false_eq_true, Int.reduceEq, ↓reduceIte]
  unfold kcp kch
  rw [f]
  unfold knt
  simp only [mup_same, mu_ng, mu_ni, mu_xi, mu_xt, cq_fr, rn_fr, mrs_fr, inn_fr, cpr_fr, opr_fr, ldd_fr, own_fr, ne_eq, Nat.reduceEqDiff, not_false_eq_true, Int.reduceEq, ↓reduceIte]
/-- after a run the new one lies at or above the rest of the rows -/
theorem rl_run {n : Int} {A B : AMem} (h : RL n A B) (ho : ¬ (B 11 0 50) = 0) (hr : rn B = -1) (hz : 0 < (A 7 0 2)) : RL (n + 1) (krt A) (rns B (tp B)) ∧ ((krt A) 6 0 7) = (A 6 0 7) ∧ ¬ kdu (krt A) ∧ (B 819299 0 (tp B)) ≤ kcp (krt A) ((krt A) 6 0 5) ∧ ((krt A) 6 0 5) = (A 786482 0 ((A 7 0 2) - 1)) ∧ (∀ i : Int, ((krt A) 8 (i) 12) = (A 8 (i) 12)) := by
  obtain ⟨h1, h2, h3, h4, h5⟩ := rl_ru h ho hr hz
  obtain ⟨sg, r⟩ := h.rx
  have et := r.tpE
  rw [if_neg (by omega)] at et
  have nt1 := rl_note h1 (10000 + (B 819297 0 (tp B)))
  have ea : krt A = knt (ruA A) (10000 + (B 819297 0 (tp B))) := by rw [h3]; rfl
  have eb : rns B (tp B) = nt (ruB B (tp B)) (10000 + (B 819297 0 (tp B))) := rfl
  rw [ea, eb]
  have cu : ((knt (ruA A) (10000 + (B 819297 0 (tp B)))) 6 0 5) = (A 786482 0 ((A 7 0 2) - 1)) := by simp only [mup_same, mu_ng, mu_ni, mu_xi, mu_xt, cq_fr, rn_fr, mrs_fr, inn_fr, cpr_fr, opr_fr, ldd_fr, own_fr, ne_eq, Nat.reduceEqDiff, not_false_eq_true, Int.reduceEq, ↓reduceIte, knt, ruA]
  have hr2 : rn (nt (ruB B (tp B)) (10000 + (B 819297 0 (tp B)))) = tp B := by rw [rn_ntE, h2]
  have k2 := nt1.kcpR (by omega)
  rw [hr2] at k2
  have tk : ((nt (ruB B (tp B)) (10000 + (B 819297 0 (tp B)))) 819297 0 (tp B)) = (A 786482 0 ((A 7 0 2) - 1)) := by
    rw [← h3]
    simp only [mup_same, mu_ng, mu_ni, mu_xi, mu_xt, cq_fr, rn_fr, mrs_fr, inn_fr, cpr_fr, opr_fr, ldd_fr, own_fr, ne_eq, Nat.reduceEqDiff, not_false_eq_true, Int.reduceEq, ↓reduceIte, nt, ruB]
  rw [tk] at k2
  have rx := h.sb.rx (tp B) h4.1 h4.2 h5
  have mono : cpr B (1 + tp B) ≤ cpr (nt (ruB B (tp B)) (10000 + (B 819297 0 (tp B)))) (1 + tp B) := by
    have fr : frR B (nt (ruB B (tp B)) (10000 + (B 819297 0 (tp B)))) := frR.up rfl (frR.up rfl (frR.up rfl (frR.up rfl (frR.rf B))))
    have q1 : 1 + tp B - 1 = tp B := by omega
    have c1 : cpf (nt (ruB B (tp B)) (10000 + (B 819297 0 (tp B)))) (1 + tp B) (mrs B).toNat (opr B (1 + tp B)) = cpf B (1 + tp B) (mrs B).toNat (opr B (1 + tp B)) := cpf_cg _ (fun r _ _ => by simp only [mup_same, mu_ng, mu_ni, mu_xi, mu_xt, cq_fr, rn_fr, mrs_fr, inn_fr, cpr_fr, opr_fr, ldd_fr, own_fr, ne_eq, Nat.reduceEqDiff, not_false_eq_true, Int.reduceEq, ↓reduceIte, nt, ruB]) (fun r => fr _ _ _ rfl)
    have o1 : opr (nt (ruB B (tp B)) (10000 + (B 819297 0 (tp B)))) (1 + tp B) = opr B (1 + tp B) := opr_cg fr (by simp only [mup_same, mu_ng, mu_ni, mu_xi, mu_xt, cq_fr, rn_fr, mrs_fr, inn_fr, cpr_fr, opr_fr, ldd_fr, own_fr, ne_eq, Nat.reduceEqDiff, not_false_eq_true, Int.reduceEq, ↓reduceIte, nt, ruB])
    have hi : ((nt (ruB B (tp B)) (10000 + (B 819297 0 (tp B)))) 819561 0 (tp B)) = if inn B (B 819297 0 (tp B)) = -1 then 0 else 1 := by simp only [mup_same, mu_ng, mu_ni, mu_xi, mu_xt, cq_fr, rn_fr, mrs_fr, inn_fr, cpr_fr, opr_fr, ldd_fr, own_fr, ne_eq, Nat.reduceEqDiff, not_false_eq_true, Int.reduceEq, ↓reduceIte, nt, ruB]
    have tt : ((nt (ruB B (tp B)) (10000 + (B 819297 0 (tp B)))) 819297 0 (tp B)) = (B 819297 0 (tp B)) := by simp only [mup_same, mu_ng, mu_ni, mu_xi, mu_xt, cq_fr, rn_fr, mrs_fr, inn_fr, cpr_fr, opr_fr, ldd_fr, own_fr, ne_eq, Nat.reduceEqDiff, not_false_eq_true, Int.reduceEq, ↓reduceIte, nt, ruB]
    have i1 := fr.inE (B 819297 0 (tp B))
    have c3 : ((nt (ruB B (tp B)) (10000 + (B 819297 0 (tp B)))) 65613 0 (inn B (B 819297 0 (tp B)))) = (B 65613 0 (inn B (B 819297 0 (tp B)))) := fr _ _ _ rfl
    unfold cpr
    rw [fr.mrE, o1, c1, q1, hi, tt, i1, c3]
    by_cases c : inn B (B 819297 0 (tp B)) = -1
    · have d : (B 819561 0 (tp B)) = 0 := by
        by_cases e : (B 819561 0 (tp B)) = 0
        · exact e
        · exact absurd c (h.sb.hi _ h4.1 h4.2 e).2
      simp only [if_pos c]
      rw [if_neg (fun z => z.2 d), if_neg (fun z => z.2 rfl)]
      omega
    · simp only [if_neg c]
      rw [if_pos (show 1 + tp B < 1000 ∧ (1 : Int) ≠ 0 from ⟨by omega, by decide⟩)]
      split
      · omega
      · split <;> omega
  have bc : ((knt (ruA A) (10000 + (B 819297 0 (tp B)))) 6 0 7) = (A 6 0 7) := by simp only [mup_same, mu_ng, mu_ni, mu_xi, mu_xt, cq_fr, rn_fr, mrs_fr, inn_fr, cpr_fr, opr_fr, ldd_fr, own_fr, ne_eq, Nat.reduceEqDiff, not_false_eq_true, Int.reduceEq, ↓reduceIte, knt, ruA]
  refine ⟨nt1, bc, ?_, by rw [cu, k2]; omega, cu, fun i => by simp only [mup_same, mu_ng, mu_ni, mu_xi, mu_xt, cq_fr, rn_fr, mrs_fr, inn_fr, cpr_fr, opr_fr, ldd_fr, own_fr, ne_eq, Nat.reduceEqDiff, not_false_eq_true, Int.reduceEq, ↓reduceIte, knt, ruA]⟩
  rw [kdu_eq nt1, hr2]
  rintro ⟨a, b | ⟨b1, b2⟩⟩
  · omega
  · obtain ⟨sg2, r2⟩ := nt1.rx
    have et2 := r2.tpE
    have zz : ((knt (ruA A) (10000 + (B 819297 0 (tp B)))) 7 0 2) = (A 7 0 2) - 1 := by simp only [mup_same, mu_ng, mu_ni, mu_xi, mu_xt, cq_fr, rn_fr, mrs_fr, inn_fr, cpr_fr, opr_fr, ldd_fr, own_fr, ne_eq, Nat.reduceEqDiff, not_false_eq_true, Int.reduceEq, ↓reduceIte, knt, ruA]
    rw [zz] at et2
    by_cases c : (A 7 0 2) - 1 = 0
    · rw [if_pos c] at et2; exact a et2
    · rw [if_neg c] at et2
      have x := r2.pt ((A 7 0 2) - 1 - 1) (by omega) (by omega)
      have x4 : ((nt (ruB B (tp B)) (10000 + (B 819297 0 (tp B)))) 819299 0 (sg2 ((A 7 0 2) - 1 - 1))) = ((knt (ruA A) (10000 + (B 819297 0 (tp B)))) 786481 0 (((A 7 0 2) - 1 - 1))) := x.2.2.2
      have y : ((knt (ruA A) (10000 + (B 819297 0 (tp B)))) 786481 0 (((A 7 0 2) - 1 - 1))) = (A 786481 0 (((A 7 0 2) - 1 - 1))) := by simp only [mup_same, mu_ng, mu_ni, mu_xi, mu_xt, cq_fr, rn_fr, mrs_fr, inn_fr, cpr_fr, opr_fr, ldd_fr, own_fr, ne_eq, Nat.reduceEqDiff, not_false_eq_true, Int.reduceEq, ↓reduceIte, knt, ruA]
      have w : (A 786481 0 (((A 7 0 2) - 1 - 1))) ≤ (A 786481 0 (((A 7 0 2) - 1))) := r.srt _ _ (by omega) (by omega) (by omega)
      have v := (r.pt ((A 7 0 2) - 1) (by omega) (by omega)).2.2.2
      have v : (B 819299 0 (sg ((A 7 0 2) - 1))) = (A 786481 0 (((A 7 0 2) - 1))) := v
      rw [et2, x4, y] at b2
      rw [et] at rx mono b2
      rw [et] at *
      omega
