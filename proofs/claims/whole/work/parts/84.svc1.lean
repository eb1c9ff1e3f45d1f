/-! ===== services on both sides ===== -/
/-- a service's end: status, relation, what both contracts ask for -/
def OV (n : Int) (A1 T D : AMem) (k s s2 : Int) : Prop := s = svS T s2 ∧ RL (n + 9) (kfi A1 k s) (sld (svM T k s2 D)) ∧ Std (kfi A1 k s) ∧ FI A1 k s ∧ SH (svM T k s2 D)
def OW (n : Int) (A1 T D : AMem) (k s s2 : Int) : Prop := s = svT T s2 ∧ RL (n + 9) (kfi A1 k s) (sld (svN T k s2 D)) ∧ Std (kfi A1 k s) ∧ FI A1 k s ∧ SH (svN T k s2 D)
theorem rl_th {n : Int} {A B : AMem} (h : RL n A B) : RL n A (th B) := by
  have fr : frR B (th B) := frR.up rfl (frR.rf B)
  have sb : SB (th B) := by unfold SB th; simp only [mup_same, mu_ng, mu_ni, mu_xi, mu_xt, cq_fr, rn_fr, mrs_fr, inn_fr, cpr_fr, opr_fr, ldd_fr, own_fr, ne_eq, Nat.reduceEqDiff, not_false_eq_true, Int.reduceEq, ↓reduceIte]; exact h.sb
  refine RL.mk (h.pl.fr (frC.rf A) fr) sb ?_ ?_ ?_ ?_ ?_ ?_ ?_ ?_ ?_ ?_ ?_ ?_ ?_ ?_ ?_ ?_ ?_ ?_ ?_ ?_ ?_ ?_ ?_ ?_ ?_ ?_ ?_ ?_ ?_
  · unfold th; simp only [mup_same, mu_ng, mu_ni, mu_xi, mu_xt, cq_fr, rn_fr, mrs_fr, inn_fr, cpr_fr, opr_fr, ldd_fr, own_fr, ne_eq, Nat.reduceEqDiff, not_false_eq_true, Int.reduceEq, ↓reduceIte]; exact h.on
  · unfold th; simp only [mup_same, mu_ng, mu_ni, mu_xi, mu_xt, cq_fr, rn_fr, mrs_fr, inn_fr, cpr_fr, opr_fr, ldd_fr, own_fr, ne_eq, Nat.reduceEqDiff, not_false_eq_true, Int.reduceEq, ↓reduceIte]; exact h.sh
  · unfold th; simp only [mup_same, mu_ng, mu_ni, mu_xi, mu_xt, cq_fr, rn_fr, mrs_fr, inn_fr, cpr_fr, opr_fr, ldd_fr, own_fr, ne_eq, Nat.reduceEqDiff, not_false_eq_true, Int.reduceEq, ↓reduceIte]; exact h.no
  · unfold th; simp only [mup_same, mu_ng, mu_ni, mu_xi, mu_xt, cq_fr, rn_fr, mrs_fr, inn_fr, cpr_fr, opr_fr, ldd_fr, own_fr, ne_eq, Nat.reduceEqDiff, not_false_eq_true, Int.reduceEq, ↓reduceIte]; exact h.na
  · unfold th; simp only [mup_same, mu_ng, mu_ni, mu_xi, mu_xt, cq_fr, rn_fr, mrs_fr, inn_fr, cpr_fr, opr_fr, ldd_fr, own_fr, ne_eq, Nat.reduceEqDiff, not_false_eq_true, Int.reduceEq, ↓reduceIte]; exact h.bt
  · unfold th; simp only [mup_same, mu_ng, mu_ni, mu_xi, mu_xt, cq_fr, rn_fr, mrs_fr, inn_fr, cpr_fr, opr_fr, ldd_fr, own_fr, ne_eq, Nat.reduceEqDiff, not_false_eq_true, Int.reduceEq, ↓reduceIte]; exact h.cu
  · unfold th; simp only [mup_same, mu_ng, mu_ni, mu_xi, mu_xt, cq_fr, rn_fr, mrs_fr, inn_fr, cpr_fr, opr_fr, ldd_fr, own_fr, ne_eq, Nat.reduceEqDiff, not_false_eq_true, Int.reduceEq, ↓reduceIte]; exact h.rq
  · unfold th; simp only [mup_same, mu_ng, mu_ni, mu_xi, mu_xt, cq_fr, rn_fr, mrs_fr, inn_fr, cpr_fr, opr_fr, ldd_fr, own_fr, ne_eq, Nat.reduceEqDiff, not_false_eq_true, Int.reduceEq, ↓reduceIte]; exact h.wa
  · unfold th; simp only [mup_same, mu_ng, mu_ni, mu_xi, mu_xt, cq_fr, rn_fr, mrs_fr, inn_fr, cpr_fr, opr_fr, ldd_fr, own_fr, ne_eq, Nat.reduceEqDiff, not_false_eq_true, Int.reduceEq, ↓reduceIte]; exact h.wf
  · unfold th; simp only [mup_same, mu_ng, mu_ni, mu_xi, mu_xt, cq_fr, rn_fr, mrs_fr, inn_fr, cpr_fr, opr_fr, ldd_fr, own_fr, ne_eq, Nat.reduceEqDiff, not_false_eq_true, Int.reduceEq, ↓reduceIte]; exact h.hi
  · exact h.hx
  · exact h.hc
  · unfold th; simp only [mup_same, mu_ng, mu_ni, mu_xi, mu_xt, cq_fr, rn_fr, mrs_fr, inn_fr, cpr_fr, opr_fr, ldd_fr, own_fr, ne_eq, Nat.reduceEqDiff, not_false_eq_true, Int.reduceEq, ↓reduceIte]; exact h.hd
  · unfold th; simp only [mup_same, mu_ng, mu_ni, mu_xi, mu_xt, cq_fr, rn_fr, mrs_fr, inn_fr, cpr_fr, opr_fr, ldd_fr, own_fr, ne_eq, Nat.reduceEqDiff, not_false_eq_true, Int.reduceEq, ↓reduceIte]; exact h.hs
  · unfold th; simp only [mup_same, mu_ng, mu_ni, mu_xi, mu_xt, cq_fr, rn_fr, mrs_fr, inn_fr, cpr_fr, opr_fr, ldd_fr, own_fr, ne_eq, Nat.reduceEqDiff, not_false_eq_true, Int.reduceEq, ↓reduceIte]; exact h.ho
  · unfold th; simp only [mup_same, mu_ng, mu_ni, mu_xi, mu_xt, cq_fr, rn_fr, mrs_fr, inn_fr, cpr_fr, opr_fr, ldd_fr, own_fr, ne_eq, Nat.reduceEqDiff, not_false_eq_true, Int.reduceEq, ↓reduceIte]; exact h.bc
  · unfold th; simp only [mup_same, mu_ng, mu_ni, mu_xi, mu_xt, cq_fr, rn_fr, mrs_fr, inn_fr, cpr_fr, opr_fr, ldd_fr, own_fr, ne_eq, Nat.reduceEqDiff, not_false_eq_true, Int.reduceEq, ↓reduceIte]; exact h.bg
  · unfold th; simp only [mup_same, mu_ng, mu_ni, mu_xi, mu_xt, cq_fr, rn_fr, mrs_fr, inn_fr, cpr_fr, opr_fr, ldd_fr, own_fr, ne_eq, Nat.reduceEqDiff, not_false_eq_true, Int.reduceEq, ↓reduceIte]; exact h.bo
  · unfold th; simp only [mup_same, mu_ng, mu_ni, mu_xi, mu_xt, cq_fr, rn_fr, mrs_fr, inn_fr, cpr_fr, opr_fr, ldd_fr, own_fr, ne_eq, Nat.reduceEqDiff, not_false_eq_true, Int.reduceEq, ↓reduceIte]; exact h.bi
  · unfold th; simp only [mup_same, mu_ng, mu_ni, mu_xi, mu_xt, cq_fr, rn_fr, mrs_fr, inn_fr, cpr_fr, opr_fr, ldd_fr, own_fr, ne_eq, Nat.reduceEqDiff, not_false_eq_true, Int.reduceEq, ↓reduceIte]; exact h.ca
  · unfold th; simp only [mup_same, mu_ng, mu_ni, mu_xi, mu_xt, cq_fr, rn_fr, mrs_fr, inn_fr, cpr_fr, opr_fr, ldd_fr, own_fr, ne_eq, Nat.reduceEqDiff, not_false_eq_true, Int.reduceEq, ↓reduceIte]; exact h.st
  · unfold th; simp only [mup_same, mu_ng, mu_ni, mu_xi, mu_xt, cq_fr, rn_fr, mrs_fr, inn_fr, cpr_fr, opr_fr, ldd_fr, own_fr, ne_eq, Nat.reduceEqDiff, not_false_eq_true, Int.reduceEq, ↓reduceIte]; exact h.co
  · unfold CO th; simp only [mup_same, mu_ng, mu_ni, mu_xi, mu_xt, cq_fr, rn_fr, mrs_fr, inn_fr, cpr_fr, opr_fr, ldd_fr, own_fr, ne_eq, Nat.reduceEqDiff, not_false_eq_true, Int.reduceEq, ↓reduceIte]; exact h.ko
  · unfold th; simp only [mup_same, mu_ng, mu_ni, mu_xi, mu_xt, cq_fr, rn_fr, mrs_fr, inn_fr, cpr_fr, opr_fr, ldd_fr, own_fr, ne_eq, Nat.reduceEqDiff, not_false_eq_true, Int.reduceEq, ↓reduceIte]; exact h.wg
  · unfold th; simp only [mup_same, mu_ng, mu_ni, mu_xi, mu_xt, cq_fr, rn_fr, mrs_fr, inn_fr, cpr_fr, opr_fr, ldd_fr, own_fr, ne_eq, Nat.reduceEqDiff, not_false_eq_true, Int.reduceEq, ↓reduceIte]; exact h.au
  · unfold th; simp only [mup_same, mu_ng, mu_ni, mu_xi, mu_xt, cq_fr, rn_fr, mrs_fr, inn_fr, cpr_fr, opr_fr, ldd_fr, own_fr, ne_eq, Nat.reduceEqDiff, not_false_eq_true, Int.reduceEq, ↓reduceIte]; exact h.ad
  · unfold th; simp only [mup_same, mu_ng, mu_ni, mu_xi, mu_xt, cq_fr, rn_fr, mrs_fr, inn_fr, cpr_fr, opr_fr, ldd_fr, own_fr, ne_eq, Nat.reduceEqDiff, not_false_eq_true, Int.reduceEq, ↓reduceIte]; exact h.ee
  · unfold th; simp only [mup_same, mu_ng, mu_ni, mu_xi, mu_xt, cq_fr, rn_fr, mrs_fr, inn_fr, cpr_fr, opr_fr, ldd_fr, own_fr, ne_eq, Nat.reduceEqDiff, not_false_eq_true, Int.reduceEq, ↓reduceIte]; exact h.of
  · unfold th; simp only [mup_same, mu_ng, mu_ni, mu_xi, mu_xt, cq_fr, rn_fr, mrs_fr, inn_fr, cpr_fr, opr_fr, ldd_fr, own_fr, ne_eq, Nat.reduceEqDiff, not_false_eq_true, Int.reduceEq, ↓reduceIte]; exact h.rx
theorem fin {n : Int} {A1 B1 : AMem} {k s : Int} (hs : 0 ≤ s ∧ s ≤ 10) (hn : n + 4 < 2146000000) (hA : (A1 6 0 9) < 2146000000 ∧ 0 ≤ (A1 6 0 9)) (r : RL n (kfs A1 k s) B1) : RL (n + 3) (kfi A1 k s) (sld B1) ∧ Std (kfi A1 k s) ∧ FI A1 k s ∧ SH B1 := by
  obtain ⟨s1, s2, s3⟩ := rl_stl r
  have e : sld B1 = stl B1 := lks_id s1 s2
  rw [e]
  exact ⟨s1, s2, ⟨hs, ⟨hA.2, by omega⟩, r.kS (by omega), s1.cB (by omega), s1.kA s2⟩, r.sH (by omega)⟩
theorem svc {n : Int} {A A1 T D : AMem} {k s s2 : Int} (h : RL n A T) (hn : n + 20 < 2146000000) (hs : s = svS T s2) (h0 : s = 0 → RL (n + 5) A1 D) (h1 : ¬ s = 0 → A1 = A) (h2 : 0 ≤ s2 ∧ s2 ≤ 9) : OV n A1 T D k s s2 := by
  refine ⟨hs, ?_⟩
  have no := h.no
  have note : ∀ v, RL (n + 6) (knt A (30000 + 100 * k + v)) (rf T k v) := fun v => by
    have := rl_note h (30000 + 100 * k + v)
    have e : rf T k v = nt T (30000 + 100 * k + v) := by unfold rf; rw [show 30000 + (100 * k + v) = 30000 + 100 * k + v by omega]
    rw [e]
    exact this.mono (by omega)
  have main : RL (n + 6) (kfs A1 k s) (svM T k s2 D) := by
    unfold svS at hs
    unfold svM mm0'
    by_cases c : st0 T = 0
    · rw [if_pos c] at hs
      rw [if_pos c]
      by_cases d : s2 = 0
      · rw [if_pos d]
        unfold kfs
        rw [if_pos (Or.inl (by omega))]
        exact (h0 (by omega)).mono (by omega)
      · rw [if_neg d, h1 (by omega)]
        unfold kfs
        rw [if_neg (by omega), hs]
        exact note s2
    · rw [if_neg c] at hs
      rw [if_neg c]
      rcases st0_n (T := T) with z | z | z
      · exact absurd z c
      · rw [if_pos z, h1 (by omega)]
        unfold kfs
        rw [if_neg (by omega), hs, z]
        exact note 9
      · rw [if_neg (by omega), h1 (by omega)]
        unfold kfs
        rw [if_pos (Or.inr (by omega))]
        exact h.mono (by omega)
  have sr : 0 ≤ s ∧ s ≤ 10 := by
    rw [hs]
    unfold svS
    rcases st0_n (T := T) with z | z | z
    · rw [if_pos z]; omega
    · rw [if_neg (by omega)]; omega
    · rw [if_neg (by omega)]; omega
  have nA : (A1 6 0 9) < 2146000000 ∧ 0 ≤ (A1 6 0 9) := by
    by_cases c : s = 0
    · have := (h0 c).no; omega
    · rw [h1 c]; omega
  obtain ⟨f1, f2, f3, f4⟩ := fin sr (by omega) nA main
  exact ⟨f1.mono (by omega), f2, f3, f4⟩
theorem svc1 {n : Int} {A A1 T D : AMem} {k s s2 : Int} (h : RL n A T) (hn : n + 20 < 2146000000) (hs : s = svT T s2) (h0 : s = 0 → RL (n + 5) A1 D) (h1 : ¬ s = 0 → A1 = A) (h2 : 0 ≤ s2 ∧ s2 ≤ 9) : OW n A1 T D k s s2 := by
  refine ⟨hs, ?_⟩
  have no := h.no
  have note : ∀ v, RL (n + 6) (knt A (30000 + 100 * k + v)) (rf T k v) := fun v => by
    have := rl_note h (30000 + 100 * k + v)
    have e : rf T k v = nt T (30000 + 100 * k + v) := by unfold rf; rw [show 30000 + (100 * k + v) = 30000 + 100 * k + v by omega]
    rw [e]
    exact this.mono (by omega)
  have main : RL (n + 6) (kfs A1 k s) (svN T k s2 D) := by
    unfold svT at hs
    unfold svN
    by_cases c : st1 T = 0
    · rw [if_pos c] at hs
      rw [if_pos c]
      by_cases d : s2 = 0
      · rw [if_pos d]
        unfold kfs
        rw [if_pos (Or.inl (by omega))]
        exact (h0 (by omega)).mono (by omega)
      · rw [if_neg d, h1 (by omega)]
        unfold kfs
        rw [if_neg (by omega), hs]
        exact note s2
    · rw [if_neg c] at hs
      rw [if_neg c]
      rcases st1_n (T := T) with z | z
      · exact absurd z c
      · rw [h1 (by omega)]
        unfold kfs
        rw [if_pos (Or.inr (by omega))]
        exact h.mono (by omega)
  have sr : 0 ≤ s ∧ s ≤ 10 := by
    rw [hs]
    unfold svT
    rcases st1_n (T := T) with z | z
    · rw [if_pos z]; omega
    · rw [if_neg (by omega)]; omega
  have nA : (A1 6 0 9) < 2146000000 ∧ 0 ≤ (A1 6 0 9) := by
    by_cases c : s = 0
    · have := (h0 c).no; omega
    · rw [h1 c]; omega
  obtain ⟨f1, f2, f3, f4⟩ := fin sr (by omega) nA main
  exact ⟨f1.mono (by omega), f2, f3, f4⟩
section SV
variable {n : Int} {A T : AMem}
theorem RL.act (h : RL n A T) (c : st0 T = 0) : ¬ (T 11 0 50) = 0 ∧ ¬ wk T = 0 := by
  have := (st0_0i c).1
  unfold idl at this
  exact ⟨fun z => this (Or.inl z), fun z => this (Or.inr z)⟩
theorem s_activate (h : RL n A T) (hn : n + 20 < 2146000000) (t : Int) : OV n (k_activateM A t) T (rqs T t) 1 (k_activateS A t) (act2 T t) := by
  have e : k_activateS A t = svS T (act2 T t) := by
    unfold k_activateS svS act2
    rw [h.kenE, h.pl.t4]
    by_cases c : st0 T = 0
    · rw [if_pos c, if_pos c]
      by_cases d : 0 ≤ t ∧ t < (T 14408 0 (4))
      · have hm := h.mB
        have m4 : 0 ≤ (T 14408 0 (4)) ∧ (T 14408 0 (4)) ≤ 48 := by unfold MB at hm; omega
        have rq := h.rq t d.1 (by omega)
        have lm := h.pl.lm t d.1 d.2
        have := rq.2 d.2
        have d2 : ¬ ¬ (0 ≤ t ∧ t < (T 14408 0 (4))) := fun z => z d
        by_cases f : cq T t 400 = (T 98387 0 (t))
        · have g : (A 8 (t) 2) ≤ (A 8 (t) 7) := by omega
          simp only [if_pos d, if_neg d2, if_pos f, if_pos g]
        · have g : ¬ (A 8 (t) 2) ≤ (A 8 (t) 7) := by omega
          simp only [if_pos d, if_neg d2, if_neg f, if_neg g]
      · rw [if_neg d, if_pos d]
    · rw [if_neg c, if_neg c]
  refine svc h hn e (fun z => ?_) (fun z => by unfold k_activateM; rw [if_neg z]) (by unfold act2; split <;> (try split) <;> omega)
  unfold k_activateM
  rw [if_pos z]
  rw [e] at z
  unfold svS at z
  by_cases c : st0 T = 0
  · rw [if_pos c] at z
    have d : 0 ≤ t ∧ t < (T 14408 0 (4)) := by
      by_cases d : 0 ≤ t ∧ t < (T 14408 0 (4))
      · exact d
      · unfold act2 at z; rw [if_pos d] at z; omega
    have hm := h.mB
    have m4 : 0 ≤ (T 14408 0 (4)) ∧ (T 14408 0 (4)) ≤ 48 := by unfold MB at hm; omega
    unfold act2 at z
    rw [if_neg (fun w => w d)] at z
    have rq := h.rq t d.1 (by omega)
    have lm := h.pl.lm t d.1 d.2
    have r3 := rq.2 d.2
    have f : ¬ cq T t 400 = (T 98387 0 (t)) := fun w => by rw [if_pos w] at z; omega
    exact (rl_rq h (h.act c).1 t d.1 d.2 (by omega)).mono (by omega)
  · rw [if_neg c] at z; omega
/-- a task's service, by a task without resources -/
theorem kfe_eq (h : RL n A T) : kfe A = svS T (terminate2 T) := by
  unfold kfe kte svS terminate2
  rw [h.kenE, h.bc.1]
  by_cases c : st0 T = 0
  · have w := (h.act c).2
    have hh := hsf_hc h w
    have hc := h.hc (kw A) (own_wk h w).2.1.1 (by have := (own_wk h w).2.1; omega)
    rw [if_pos c, if_pos c]
    by_cases d : 0 < (T 11 0 65)
    · rw [if_pos d, if_pos d, if_neg (by omega)]
    · rw [if_neg d, if_neg d, if_pos rfl]
      by_cases f : (A 8 ((kw A)) 14) = 0
      · rw [if_neg (by omega), if_neg (fun z => z (hh.mpr f))]
      · rw [if_pos (by omega), if_pos (fun z => f (hh.mp z))]
  · rw [if_neg c, if_neg c, if_neg c]
theorem free_0 (h : RL n A T) (z : svS T (terminate2 T) = 0) : st0 T = 0 ∧ (T 11 0 65) = 0 ∧ ¬ rn T = -1 ∧ wk T = 1 + rn T ∧ kw A = (T 819297 0 (rn T)) ∧ nhv T (1 + rn T) ∧ (A 8 ((kw A)) 14) = 0 := by
  unfold svS at z
  by_cases c : st0 T = 0
  · rw [if_pos c] at z
    unfold terminate2 at z
    have w := (h.act c).2
    have hd := h.dep
    by_cases d : 0 < (T 11 0 65)
    · rw [if_pos d] at z; omega
    · rw [if_neg d] at z
      by_cases f : hsf T (wk T) = -1
      · have g := (hsf_hc h w).mp f
        rcases h.who with ⟨a1, a2, a3, a4⟩ | ⟨a1, a2, a3, a4⟩ | ⟨a1, a2, a3, a4⟩
        · omega
        · exact absurd a3 w
        · refine ⟨c, a1, a2, a3, a4, ?_, g⟩
          have := (hc_nhv h w).mp g
          rw [a3] at this
          exact this
      · rw [if_pos f] at z; omega
  · rw [if_neg c] at z; omega
theorem term_r : 0 ≤ terminate2 T ∧ terminate2 T ≤ 9 := by
  unfold terminate2
  split <;> (try split) <;> omega
theorem s_terminate (h : RL n A T) (hn : n + 20 < 2146000000) : OV n (k_terminateM A) T (thr T (rn T)) 2 (k_terminateS A) (terminate2 T) := by
  have e : k_terminateS A = svS T (terminate2 T) := kfe_eq h
  refine svc h hn e (fun z => ?_) (fun z => by unfold k_terminateM; rw [if_neg z]) term_r
  unfold k_terminateM
  rw [if_pos z]
  obtain ⟨c, d, r, w, k, nh, _⟩ := free_0 h (e ▸ z)
  have ru := h.run r
  have en := (rl_en h (h.act c).1 r nh).1
  have := rl_note en (20000 + (T 819297 0 (rn T)))
  rw [kend_eq, thr_eq, ru.2.2.1]
  exact this.mono (by omega)
theorem s_chain (h : RL n A T) (hn : n + 20 < 2146000000) (t : Int) : OV n (k_chainM A t) T (rqs (thr T (rn T)) t) 3 (k_chainS A t) (chain2 T t) ∧ (kfe A = 0 → (0 ≤ t ∧ t < (A 14370 0 (4))) → (t = (A 6 0 5) ∨ (A 8 (t) 7) < (A 8 (t) 2)) → RQ (kend A) t ∧ ((kend A) 8 (t) 7) < ((kend A) 8 (t) 2)) ∧ fq (thr T (rn T)) ≠ -1 ∧ SM (thr T (rn T)) := by
  have hm := h.mB
  have m4 : 0 ≤ (T 14408 0 (4)) ∧ (T 14408 0 (4)) ≤ 48 := by unfold MB at hm; omega
  have fe := kfe_eq h
  have e : k_chainS A t = svS T (chain2 T t) := by
    unfold k_chainS
    rw [fe, h.pl.t4]
    by_cases z : svS T (terminate2 T) = 0
    · obtain ⟨c, d, r, w, k, nh, hc⟩ := free_0 h z
      have ru := h.run r
      rw [if_pos z, ru.2.2.1]
      unfold svS chain2
      have f := hsf_yes h nh
      have dd : ¬ 0 < (T 11 0 65) := by omega
      have ff : ¬ ¬ hsf T (1 + rn T) = -1 := fun y => y f
      by_cases g : 0 ≤ t ∧ t < (T 14408 0 (4))
      · have rq := h.rq t g.1 (by omega)
        have lm := h.pl.lm t g.1 g.2
        have r3 := rq.2 g.2
        have g2 : ¬ ¬ (0 ≤ t ∧ t < (T 14408 0 (4))) := fun y => y g
        by_cases p : ¬ t = (T 819297 0 (rn T)) ∧ cq T t 400 = (T 98387 0 (t))
        · have p2 : ¬ t = (T 819297 0 (rn T)) ∧ (A 8 (t) 2) ≤ (A 8 (t) 7) := ⟨p.1, by omega⟩
          simp only [w, if_pos c, if_neg dd, if_neg ff, if_pos g, if_neg g2, if_pos p, if_pos p2]
        · have p2 : ¬ (¬ t = (T 819297 0 (rn T)) ∧ (A 8 (t) 2) ≤ (A 8 (t) 7)) := fun y => p ⟨y.1, by omega⟩
          simp only [w, if_pos c, if_neg dd, if_neg ff, if_pos g, if_neg g2, if_neg p, if_neg p2]
      · simp only [w, if_pos c, if_neg dd, if_neg ff, if_neg g, if_pos g]
    · rw [if_neg z]
      unfold svS at z ⊢
      by_cases c : st0 T = 0
      · rw [if_pos c] at z ⊢
        rw [if_pos c]
        unfold terminate2 at z ⊢
        unfold chain2
        by_cases d : 0 < (T 11 0 65)
        · rw [if_pos d, if_pos d]
        · rw [if_neg d] at z ⊢
          rw [if_neg d]
          by_cases f : hsf T (wk T) = -1
          · rw [if_neg (fun y => y f)] at z; exact absurd rfl z
          · rw [if_pos f, if_pos f]
      · rw [if_neg c, if_neg c]
  have en2 : kfe A = 0 → (0 ≤ t ∧ t < (T 14408 0 (4))) → (t = (A 6 0 5) ∨ (A 8 (t) 7) < (T 98387 0 (t))) → RL (n + 1) (kend A) (thr T (rn T)) ∧ ¬ ((thr T (rn T)) 11 0 50) = 0 ∧ ((thr T (rn T)) 14408 0 (4)) = (T 14408 0 (4)) ∧ ((kend A) 8 (t) 7) < ((thr T (rn T)) 98387 0 (t)) := by
    intro z g p
    obtain ⟨c, d, r, w, k, nh, hc⟩ := free_0 h (fe ▸ z)
    have ru := h.run r
    have en := (rl_en h (h.act c).1 r nh).1
    have n1 := rl_note en (20000 + (T 819297 0 (rn T)))
    have rq := h.rq t g.1 (by omega)
    have lm := h.pl.lm t g.1 g.2
    have r3 := rq.2 g.2
    have ek : kend A = knt (enA A) (20000 + (T 819297 0 (rn T))) := by rw [kend_eq, ru.2.2.1]
    rw [thr_eq, ek]
    refine ⟨n1, by simp only [mup_same, mu_ng, mu_ni, mu_xi, mu_xt, cq_fr, rn_fr, mrs_fr, inn_fr, cpr_fr, opr_fr, ldd_fr, own_fr, ne_eq, Nat.reduceEqDiff, not_false_eq_true, Int.reduceEq, ↓reduceIte, nt, enB]; exact (h.act c).1, by simp only [mup_same, mu_ng, mu_ni, mu_xi, mu_xt, cq_fr, rn_fr, mrs_fr, inn_fr, cpr_fr, opr_fr, ldd_fr, own_fr, ne_eq, Nat.reduceEqDiff, not_false_eq_true, Int.reduceEq, ↓reduceIte, nt, enB], ?_⟩
    simp only [mup_same, mu_ng, mu_ni, mu_xi, mu_xt, cq_fr, rn_fr, mrs_fr, inn_fr, cpr_fr, opr_fr, ldd_fr, own_fr, ne_eq, Nat.reduceEqDiff, not_false_eq_true, Int.reduceEq, ↓reduceIte, knt, enA, nt, enB]
    by_cases y : t = (A 6 0 5)
    · rw [if_pos y, ← y]; omega
    · rw [if_neg y]; omega
  refine ⟨svc h hn e (fun z => ?_) (fun z => by unfold k_chainM; rw [if_neg z]) (by unfold chain2; split <;> (try split) <;> (try split) <;> (try split) <;> omega), fun z g p => ?_, ?_, ?_⟩
  · have z2 : kfe A = 0 ∧ (0 ≤ t ∧ t < (T 14408 0 (4))) ∧ (t = (A 6 0 5) ∨ (A 8 (t) 7) < (T 98387 0 (t))) := by
      unfold k_chainS at z
      rw [h.pl.t4] at z
      by_cases y : kfe A = 0
      · rw [if_pos y] at z
        by_cases g : 0 ≤ t ∧ t < (T 14408 0 (4))
        · rw [if_pos g] at z
          refine ⟨y, g, ?_⟩
          have lm := (h.pl.lm t g.1 g.2).1
          by_cases p : t = (A 6 0 5)
          · exact Or.inl p
          · right
            by_cases q : (A 8 (t) 2) ≤ (A 8 (t) 7)
            · rw [if_pos ⟨p, q⟩] at z; omega
            · omega
        · rw [if_neg g] at z; omega
      · rw [if_neg y] at z; exact absurd z y
    obtain ⟨a, b, c, d⟩ := en2 z2.1 z2.2.1 z2.2.2
    unfold k_chainM
    rw [if_pos z]
    exact (rl_rq a b t z2.2.1.1 (by rw [c]; exact z2.2.1.2) d).mono (by omega)
  · rw [h.pl.t4] at g
    have lm := (h.pl.lm t g.1 g.2).1
    obtain ⟨a, b, c, d⟩ := en2 z g (by omega)
    have lm2 := (a.pl.lm t g.1 (by rw [c]; exact g.2)).1
    exact ⟨a.rQ t g.1 (by rw [c]; exact g.2), by omega⟩
  · rcases fq_spec T with ⟨z, _⟩ | ⟨z, y⟩
    · exact absurd z h.free
    · intro w
      rcases fq_spec (thr T (rn T)) with ⟨_, v⟩ | ⟨v, _⟩
      · apply v _ z.1 z.2
        unfold thr nt
        simp only [mup_same, mu_ng, mu_ni, mu_xi, mu_xt, cq_fr, rn_fr, mrs_fr, inn_fr, cpr_fr, opr_fr, ldd_fr, own_fr, ne_eq, Nat.reduceEqDiff, not_false_eq_true, Int.reduceEq, ↓reduceIte]
        split
        · rfl
        · exact y
      · omega
  · have := h.sM (by omega)
    have no := h.no
    unfold SM at this ⊢
    unfold thr nt
    simp only [mup_same, mu_ng, mu_ni, mu_xi, mu_xt, cq_fr, rn_fr, mrs_fr, inn_fr, cpr_fr, opr_fr, ldd_fr, own_fr, ne_eq, Nat.reduceEqDiff, not_false_eq_true, Int.reduceEq, ↓reduceIte]
    omega
end SV
