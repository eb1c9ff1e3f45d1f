/-! ===== services on both sides: schedule, resources, events ===== -/
section SW
variable {n : Int} {A T : AMem}
theorem ktr_eq (h : RL n A T) : (tp T = -1 ∧ ktr A = -1) ∨ (¬ tp T = -1 ∧ ktr A = (T 819299 0 (tp T)) ∧ 0 < (A 7 0 2)) := by
  obtain ⟨sg, r⟩ := h.rx
  have et := r.tpE
  have z0 := r.1
  unfold ktr
  by_cases d : (A 7 0 2) = 0
  · rw [if_pos d] at et
    rw [if_neg (by omega)]
    exact Or.inl ⟨et, rfl⟩
  · rw [if_neg d] at et
    have a := r.pt ((A 7 0 2) - 1) (by omega) (by omega)
    have ar : (T 819299 0 (sg ((A 7 0 2) - 1))) = (A 786481 0 (((A 7 0 2) - 1))) := a.2.2.2
    rw [if_pos (by omega)]
    refine Or.inr ⟨by omega, by rw [et, ar], by omega⟩
theorem tp_re (q : Int) : tp (reB T q) = tp T := by
  show topf (reB T q) 400 = topf T 400
  unfold reB
  exact topf_fr (by decide) (by decide) (by decide) 400
theorem s_schedule (h : RL n A T) (hn : n + 20 < 2146000000) : OV n (k_scheduleM A) T (schD T) 4 (k_scheduleS A) (schedule2 T) ∧ (kfe A = 0 → KS (mup A 8 ((A 6 0 5)) 11 (0))) := by
  have e0 : schedule2 T = terminate2 T := rfl
  have e : k_scheduleS A = svS T (schedule2 T) := by rw [e0]; exact kfe_eq h
  have re : kfe A = 0 → RL n (reA A) (reB T (rn T)) := fun z => by
    obtain ⟨c, d, r, w, k, nh, hc⟩ := free_0 h ((kfe_eq h) ▸ z)
    exact (rl_re h (h.act c).1 r).1
  refine ⟨svc h hn e (fun z => ?_) (fun z => by unfold k_scheduleM; rw [if_neg z]) (by rw [e0]; exact term_r), fun z => (re z).kS (by omega)⟩
  unfold k_scheduleM
  rw [if_pos z]
  have z1 : kfe A = 0 := z
  obtain ⟨c, d, r, w, k, nh, hc⟩ := free_0 h ((kfe_eq h) ▸ z1)
  have ru := h.run r
  have pr := h.pl.pr _ ru.2.2.2.1 ru.2.2.2.2
  have r1 := re z1
  have rnE := (rl_re h (h.act c).1 r).2
  unfold kyi schD
  rw [ru.2.2.1, pr.1]
  rcases ktr_eq h with ⟨t1, t2⟩ | ⟨t1, t2, t3⟩
  · rw [t2, if_neg (by omega), if_neg (fun y => y.1 t1)]
    exact h.mono (by omega)
  · rw [t2]
    by_cases y : (T 98385 0 ((T 819297 0 (rn T)))) < (T 819299 0 (tp T))
    · rw [if_pos y, if_pos ⟨t1, y⟩]
      have on1 : ¬ ((reB T (rn T)) 11 0 50) = 0 := by simp only [mup_same, mu_ng, mu_ni, mu_xi, mu_xt, cq_fr, rn_fr, mrs_fr, inn_fr, cpr_fr, opr_fr, ldd_fr, own_fr, ne_eq, Nat.reduceEqDiff, not_false_eq_true, Int.reduceEq, ↓reduceIte, reB]; exact (h.act c).1
      have nl : ¬ ldd (reB T (rn T)) (rn T) := by
        rintro (x | ⟨q, q0, x⟩)
        · revert x; simp only [mup_same, mu_ng, mu_ni, mu_xi, mu_xt, cq_fr, rn_fr, mrs_fr, inn_fr, cpr_fr, opr_fr, ldd_fr, own_fr, ne_eq, Nat.reduceEqDiff, not_false_eq_true, Int.reduceEq, ↓reduceIte, reB]; exact fun x => x trivial
        · revert x; simp only [mup_same, mu_ng, mu_ni, mu_xi, mu_xt, cq_fr, rn_fr, mrs_fr, inn_fr, cpr_fr, opr_fr, ldd_fr, own_fr, ne_eq, Nat.reduceEqDiff, not_false_eq_true, Int.reduceEq, ↓reduceIte, reB]; exact fun x => nh q q0.1 q0.2 x
      have cu := cpr_un (B := reB T (rn T)) r1.mB ru.1.1 ru.1.2 nl
      have cu2 : cpr (reB T (rn T)) (1 + rn T) = (T 98385 0 ((T 819297 0 (rn T)))) := by rw [cu]; simp only [mup_same, mu_ng, mu_ni, mu_xi, mu_xt, cq_fr, rn_fr, mrs_fr, inn_fr, cpr_fr, opr_fr, ldd_fr, own_fr, ne_eq, Nat.reduceEqDiff, not_false_eq_true, Int.reduceEq, ↓reduceIte, reB]
      obtain ⟨p1, p2⟩ := rl_pr r1 on1 (by rw [rnE]; exact r)
      have tpE := tp_re (T := T) (rn T)
      have p3 := rl_note p1 (20000 + (T 819297 0 (rn T)))
      have p4 := tp_pr r1 (by rw [rnE]; exact r) (by rw [tpE]; exact t1) (by rw [rnE, tpE, cu2]; simp only [mup_same, mu_ng, mu_ni, mu_xi, mu_xt, cq_fr, rn_fr, mrs_fr, inn_fr, cpr_fr, opr_fr, ldd_fr, own_fr, ne_eq, Nat.reduceEqDiff, not_false_eq_true, Int.reduceEq, ↓reduceIte, reB]; exact y) (20000 + (T 819297 0 (rn T)))
      have on2 : ¬ ((nt (prB (reB T (rn T)) (rn (reB T (rn T)))) (20000 + (T 819297 0 (rn T)))) 11 0 50) = 0 := by simp only [mup_same, mu_ng, mu_ni, mu_xi, mu_xt, cq_fr, rn_fr, mrs_fr, inn_fr, cpr_fr, opr_fr, ldd_fr, own_fr, ne_eq, Nat.reduceEqDiff, not_false_eq_true, Int.reduceEq, ↓reduceIte, nt, prB, reB]; exact (h.act c).1
      have rn2 : rn (nt (prB (reB T (rn T)) (rn (reB T (rn T)))) (20000 + (T 819297 0 (rn T)))) = -1 := by rw [rn_ntE, p2]
      have cuA : ((reA A) 6 0 5) = (T 819297 0 (rn T)) := by rw [← ru.2.2.1]; simp only [mup_same, mu_ng, mu_ni, mu_xi, mu_xt, cq_fr, rn_fr, mrs_fr, inn_fr, cpr_fr, opr_fr, ldd_fr, own_fr, ne_eq, Nat.reduceEqDiff, not_false_eq_true, Int.reduceEq, ↓reduceIte, reA]
      have sz2 : 0 < ((knt (prA (reA A)) (20000 + (T 819297 0 (rn T)))) 7 0 2) := by
        have z0 := r1.sz
        have := kp_z (A := reA A) (t := ((reA A) 6 0 5)) (p := kcp (reA A) ((reA A) 6 0 5)) (l := kcp (reA A) ((reA A) 6 0 5) + 1) (z0.2 (by rw [rnE]; exact r))
        unfold knt prA
        simp only [mup_same, mu_ng, mu_ni, mu_xi, mu_xt, cq_fr, rn_fr, mrs_fr, inn_fr, cpr_fr, opr_fr, ldd_fr, own_fr, ne_eq, Nat.reduceEqDiff, not_false_eq_true, Int.reduceEq, ↓reduceIte]
        omega
      obtain ⟨q1, q2, q3, q4, q5, q6⟩ := rl_run p3 on2 rn2 sz2
      rw [p4.1, tpE] at q1
      have eA : krun (mup A 8 ((T 819297 0 (rn T))) 11 (0)) = krt (knt (prA (reA A)) (20000 + (T 819297 0 (rn T)))) := by
        have x : (mup A 8 ((T 819297 0 (rn T))) 11 (0)) = reA A := by unfold reA; rw [ru.2.2.1]
        rw [x]
        unfold krun
        rw [if_neg (by omega), kpre_eq, cuA]
      have eB : rns (pre (mup T 819561 0 (rn T) (0)) (rn T)) (tp T) = rns (nt (prB (reB T (rn T)) (rn (reB T (rn T)))) (20000 + (T 819297 0 (rn T)))) (tp T) := by
        rw [rnE]
        have x : pre (reB T (rn T)) (rn T) = nt (prB (reB T (rn T)) (rn T)) (20000 + ((reB T (rn T)) 819297 0 (rn T))) := pre_eq _ _
        have x2 : ((reB T (rn T)) 819297 0 (rn T)) = (T 819297 0 (rn T)) := by simp only [mup_same, mu_ng, mu_ni, mu_xi, mu_xt, cq_fr, rn_fr, mrs_fr, inn_fr, cpr_fr, opr_fr, ldd_fr, own_fr, ne_eq, Nat.reduceEqDiff, not_false_eq_true, Int.reduceEq, ↓reduceIte, reB]
        rw [x2] at x
        rw [← x]
        rfl
      rw [eA, eB]
      exact q1.mono (by omega)
    · rw [if_neg y, if_neg (fun w => y w.2)]
      exact h.mono (by omega)
theorem h31 (h : RL n A T) (w : Int) (w0 : 0 ≤ w) (w1 : w < 65) (r : Int) (r0 : 0 ≤ r) (r1 : r < 32) (hf : (T 65639 0 (r)) = 0) : (A 8 (w) 14) < 32 := by
  have a := h.hc w w0 w1
  have nr : ∀ i : Int, 0 ≤ i → i < (A 8 (w) 14) → ¬ (A 65587 w (i)) = r := fun i i0 i1 z => by
    have := (h.hd w i w0 w1 i0 i1).2.1
    rw [z] at this
    exact this hf
  have := inj_cnt 32 ((A 8 (w) 14).toNat + 1) (fun _ => true) (fun i => if i < (A 8 (w) 14).toNat then (A 65587 w (i)).toNat else r.toNat) (fun i hi => by
    by_cases c : i < (A 8 (w) 14).toNat
    · simp only [if_pos c]
      have := (h.hd w i w0 w1 (by omega) (by omega)).1
      exact ⟨by omega, trivial⟩
    · simp only [if_neg c]
      exact ⟨by omega, trivial⟩) (fun i j hi hj e => by
    have ci : i < (A 8 (w) 14).toNat := by omega
    have x := (h.hd w i w0 w1 (by omega) (by omega)).1
    simp only [if_pos ci] at e
    by_cases c : j < (A 8 (w) 14).toNat
    · simp only [if_pos c] at e
      have y := (h.hd w j w0 w1 (by omega) (by omega)).1
      have z := h.hs w i j w0 w1 (by omega) (by omega) (by omega)
      rw [show (A 65587 w (i)) = (A 65587 w (j)) by omega] at z
      omega
    · simp only [if_neg c] at e
      exact nr i (by omega) (by omega) (by omega))
  have b := (cnt_b (fun _ => true) 32).2
  omega
theorem s_take (h : RL n A T) (hn : n + 20 < 2146000000) (r : Int) : OV n (k_takeM A r) T (mup (mup (mup T 65639 0 (r) (wk T)) 11 0 58 ((T 11 0 58) + 1)) 66152 0 (r) ((T 11 0 58) + 1)) 5 (k_takeS A r) (take2 T r) := by
  have hm := h.mrB
  have key : st0 T = 0 → (0 ≤ r ∧ r < mrs T ∧ (T 65867 0 (r)) = 0) → ((¬ kho A r = -1 ∨ (A 65579 0 (r)) < (A 8 ((kw A)) 0)) ↔ (¬ (T 65639 0 (r)) = 0 ∨ (T 65613 0 (r)) < opr T (wk T))) := fun c d => by
    have w := (h.act c).2
    have ow := own_wk h w
    have ce := (h.pl.ce r d.1 d.2.1).1
    rw [if_neg ow.2.2.1] at ce
    rw [ce, opr_wk h w, kho_eq h r d.1 d.2.1]
    have : ¬ hvo T r = -1 ↔ ¬ (T 65639 0 (r)) = 0 := by
      unfold hvo
      rw [if_pos d.2.2]
      rcases h.sb.hv r d.1 (by omega) with f | ⟨_, _, ⟨f1, f2, f3⟩ | ⟨f1, f2, f3⟩⟩
      · rw [if_pos f]
        exact ⟨fun z => absurd rfl z, fun z => absurd f z⟩
      · rw [if_neg (by omega), if_neg (by omega)]
        have s := h.slot ((T 65639 0 (r)) - 1) (by omega) (by omega)
        constructor <;> intro _ <;> omega
      · rw [if_neg (by omega), if_pos f1]
        constructor <;> intro _ <;> omega
    rw [this]
  have e : k_takeS A r = svS T (take2 T r) := by
    unfold k_takeS svS take2
    rw [h.kenE, h.pl.t2]
    by_cases c : st0 T = 0
    · rw [if_pos c, if_pos c]
      by_cases d : 0 ≤ r ∧ r < mrs T ∧ (T 65867 0 (r)) = 0
      · have d1 : 0 ≤ r ∧ r < mrs T ∧ (A 65837 0 (r)) = 0 := ⟨d.1, d.2.1, by rw [(h.pl.ir r d.1 d.2.1).1]; exact d.2.2⟩
        have d2 : ¬ ¬ (0 ≤ r ∧ r < mrs T ∧ (T 65867 0 (r)) = 0) := fun z => z d
        have k := key c d
        by_cases f : ¬ (T 65639 0 (r)) = 0 ∨ (T 65613 0 (r)) < opr T (wk T)
        · have f2 := k.mpr f
          simp only [if_pos d1, if_neg d2, if_pos f, if_pos f2]
        · have f2 := fun z => f (k.mp z)
          simp only [if_pos d1, if_neg d2, if_neg f, if_neg f2]
      · have d1 : ¬ (0 ≤ r ∧ r < mrs T ∧ (A 65837 0 (r)) = 0) := fun z => d ⟨z.1, z.2.1, by rw [← (h.pl.ir r z.1 z.2.1).1]; exact z.2.2⟩
        simp only [if_neg d1, if_pos d]
    · rw [if_neg c, if_neg c]
  refine svc h hn e (fun z => ?_) (fun z => by unfold k_takeM; rw [if_neg z]) (by unfold take2; split <;> (try split) <;> omega)
  unfold k_takeM
  rw [if_pos z]
  rw [e] at z
  unfold svS at z
  by_cases c : st0 T = 0
  · rw [if_pos c] at z
    unfold take2 at z
    by_cases d : 0 ≤ r ∧ r < mrs T ∧ (T 65867 0 (r)) = 0
    · have d2 : ¬ ¬ (0 ≤ r ∧ r < mrs T ∧ (T 65867 0 (r)) = 0) := fun z => z d
      rw [if_neg d2] at z
      have f : (T 65639 0 (r)) = 0 := by
        by_cases f : (T 65639 0 (r)) = 0
        · exact f
        · rw [if_pos (Or.inl f)] at z; omega
      have ow := own_wk h (h.act c).2
      rw [if_pos (h31 h (kw A) ow.2.1.1 (by omega) r d.1 (by omega) f)]
      exact (rl_tk h (h.act c).1 (h.act c).2 r d.1 d.2.1 d.2.2 f).mono (by omega)
    · rw [if_pos d] at z; omega
  · rw [if_neg c] at z; omega
theorem s_give (h : RL n A T) (hn : n + 20 < 2146000000) (r : Int) : OV n (k_giveM A r) T (mup T 65639 0 (r) (0)) 6 (k_giveS A r) (give2 T r) := by
  have e : k_giveS A r = svS T (give2 T r) := by
    unfold k_giveS svS give2
    rw [h.kenE, h.pl.t2]
    by_cases c : st0 T = 0
    · rw [if_pos c, if_pos c, lto_eq h (h.act c).2]
      by_cases d : 0 ≤ r ∧ r < mrs T ∧ (T 65867 0 (r)) = 0
      · have d1 : 0 ≤ r ∧ r < mrs T ∧ (A 65837 0 (r)) = 0 := ⟨d.1, d.2.1, by rw [(h.pl.ir r d.1 d.2.1).1]; exact d.2.2⟩
        have d2 : ¬ ¬ (0 ≤ r ∧ r < mrs T ∧ (T 65867 0 (r)) = 0) := fun z => z d
        by_cases f : (if 0 < (A 8 ((kw A)) 14) then (A 65587 (kw A) (((A 8 ((kw A)) 14) - 1))) else -1) = r
        · have f2 : ¬ ¬ (if 0 < (A 8 ((kw A)) 14) then (A 65587 (kw A) (((A 8 ((kw A)) 14) - 1))) else -1) = r := fun z => z f
          rw [if_pos d1, if_neg d2, if_pos f, if_neg f2]
        · rw [if_pos d1, if_neg d2, if_neg f, if_pos f]
      · have d1 : ¬ (0 ≤ r ∧ r < mrs T ∧ (A 65837 0 (r)) = 0) := fun z => d ⟨z.1, z.2.1, by rw [← (h.pl.ir r z.1 z.2.1).1]; exact z.2.2⟩
        rw [if_neg d1, if_pos d]
    · rw [if_neg c, if_neg c]
  refine svc h hn e (fun z => ?_) (fun z => by unfold k_giveM; rw [if_neg z]) (by unfold give2; split <;> (try split) <;> omega)
  unfold k_giveM
  rw [if_pos z]
  unfold k_giveS at z
  rw [h.kenE] at z
  by_cases c : st0 T = 0
  · rw [if_pos c] at z
    by_cases d : 0 ≤ r ∧ r < (A 14370 0 (2)) ∧ (A 65837 0 (r)) = 0
    · rw [if_pos d] at z
      by_cases f : 0 < (A 8 ((kw A)) 14)
      · rw [if_pos f] at z
        by_cases g : (A 65587 (kw A) (((A 8 ((kw A)) 14) - 1))) = r
        · exact (rl_gv h (h.act c).1 (h.act c).2 r f g).mono (by omega)
        · rw [if_neg g] at z; omega
      · rw [if_neg f, if_neg (by omega)] at z; omega
    · rw [if_neg d] at z; omega
  · rw [if_neg c] at z; exact absurd z c
theorem kee_eq (h : RL n A T) (t : Int) : kee A t = svS T (ofe T t) := by
  have hm := h.mB
  have m4 : 0 ≤ (T 14408 0 (4)) ∧ (T 14408 0 (4)) ≤ 48 := by unfold MB at hm; omega
  unfold kee svS ofe
  rw [h.kenE, h.pl.t4]
  by_cases c : st0 T = 0
  · rw [if_pos c, if_pos c]
    by_cases d : 0 ≤ t ∧ t < (T 14408 0 (4))
    · have d2 : ¬ ¬ (0 ≤ t ∧ t < (T 14408 0 (4))) := fun z => z d
      rw [if_pos d, if_neg d2, (h.pl.ev t d.1 d.2).1, (h.rq t d.1 (by omega)).1]
    · rw [if_neg d, if_pos d]
  · rw [if_neg c, if_neg c]
theorem kee_0 (h : RL n A T) (t : Int) (z : svS T (ofe T t) = 0) : st0 T = 0 ∧ (0 ≤ t ∧ t < (T 14408 0 (4))) ∧ ¬ (T 98388 0 (t)) = 0 := by
  unfold svS ofe at z
  by_cases c : st0 T = 0
  · rw [if_pos c] at z
    by_cases d : 0 ≤ t ∧ t < (T 14408 0 (4))
    · rw [if_neg (fun w => w d)] at z
      by_cases f : (T 98388 0 (t)) = 0
      · rw [if_pos f] at z; omega
      · exact ⟨c, d, f⟩
    · rw [if_pos d] at z; omega
  · rw [if_neg c] at z; exact absurd z c
theorem ofe_r (t : Int) : 0 ≤ ofe T t ∧ ofe T t ≤ 9 := by unfold ofe; split <;> (try split) <;> (try split) <;> omega
theorem s_signal (h : RL n A T) (hn : n + 20 < 2146000000) (t mask : Int) : OV n (k_signalM A t mask) T (sts T t mask) 7 (k_signalS A t mask) (signal2 T t mask) := by
  have e : k_signalS A t mask = svS T (signal2 T t mask) := kee_eq h t
  refine svc h hn e (fun z => ?_) (fun z => by unfold k_signalM; rw [if_neg z]) (ofe_r t)
  unfold k_signalM
  rw [if_pos z]
  rw [e] at z
  obtain ⟨c, d, f⟩ := kee_0 h t z
  exact (rl_sets h (h.act c).1 t mask d.1 d.2).mono (by omega)
theorem s_given (h : RL n A T) (hn : n + 20 < 2146000000) (t : Int) : OV n A T T 10 (kee A t) (given2 T t) ∧ kgv A t = (if 0 < svS T (given2 T t) then -(svS T (given2 T t)) else lAnd ((sld (svM T 10 (given2 T t) T)) 98406 0 (t)) 4294967295) := by
  have hm := h.mB
  have m4 : 0 ≤ (T 14408 0 (4)) ∧ (T 14408 0 (4)) ≤ 48 := by unfold MB at hm; omega
  have e : kee A t = svS T (given2 T t) := kee_eq h t
  have o : OV n A T T 10 (kee A t) (given2 T t) := svc h hn e (fun _ => h.mono (by omega)) (fun _ => rfl) (ofe_r t)
  refine ⟨o, ?_⟩
  unfold kgv
  by_cases c : kee A t = 0
  · rw [if_pos c, if_neg (by omega)]
    obtain ⟨_, d, _⟩ := kee_0 h t (e ▸ c)
    rw [(o.2.1.st t d.1 (by omega)).1]
  · have := o.2.2.2.1.1
    rw [if_neg c, if_pos (by omega), e]
/-- a service of a running task that may wait -/
theorem kxe_eq (h : RL n A T) (mask : Int) : kxe A = svS T (clear2 T mask) := by
  unfold kxe kte svS clear2
  rw [h.kenE, h.bc.1]
  by_cases c : st0 T = 0
  · rw [if_pos c, if_pos c]
    by_cases d : 0 < (T 11 0 65)
    · rw [if_pos d, if_pos d, if_neg (by omega)]
    · rw [if_neg d, if_neg d, if_pos rfl]
      have hd := h.dep
      rcases h.who with ⟨a1, a2, a3, a4⟩ | ⟨a1, a2, a3, a4⟩ | ⟨a1, a2, a3, a4⟩
      · omega
      · exact absurd a3 (h.act c).2
      · have ru := h.run a2
        rw [a4, (h.pl.ev _ ru.2.2.2.1 ru.2.2.2.2).1]
  · rw [if_neg c, if_neg c, if_neg c]
theorem kxe_0 (h : RL n A T) (mask : Int) (z : svS T (clear2 T mask) = 0) : st0 T = 0 ∧ (T 11 0 65) = 0 ∧ ¬ rn T = -1 ∧ kw A = (T 819297 0 (rn T)) ∧ wk T = 1 + rn T ∧ ¬ (T 98388 0 ((T 819297 0 (rn T)))) = 0 := by
  unfold svS clear2 at z
  by_cases c : st0 T = 0
  · rw [if_pos c] at z
    have hd := h.dep
    by_cases d : 0 < (T 11 0 65)
    · rw [if_pos d] at z; omega
    · rw [if_neg d] at z
      by_cases f : (T 98388 0 ((T 819297 0 (rn T)))) = 0
      · rw [if_pos f] at z; omega
      · rcases h.who with ⟨a1, a2, a3, a4⟩ | ⟨a1, a2, a3, a4⟩ | ⟨a1, a2, a3, a4⟩
        · omega
        · exact absurd a3 (h.act c).2
        · exact ⟨c, a1, a2, a4, a3, f⟩
  · rw [if_neg c] at z; exact absurd z c
theorem s_clear (h : RL n A T) (hn : n + 20 < 2146000000) (mask : Int) : OV n (k_clearM A mask) T (mup T 98406 0 ((T 819297 0 (rn T))) (iAnd (T 98406 0 ((T 819297 0 (rn T)))) (iXor mask (-1)))) 8 (k_clearS A mask) (clear2 T mask) := by
  have e : k_clearS A mask = svS T (clear2 T mask) := kxe_eq h mask
  refine svc h hn e (fun z => ?_) (fun z => by unfold k_clearM; rw [if_neg z]) (by unfold clear2; split <;> (try split) <;> omega)
  unfold k_clearM
  rw [if_pos z]
  rw [e] at z
  obtain ⟨c, d, r, k, w, f⟩ := kxe_0 h mask z
  have ru := h.run r
  have hm := h.mB
  have m4 : 0 ≤ (T 14408 0 (4)) ∧ (T 14408 0 (4)) ≤ 48 := by unfold MB at hm; omega
  rw [k, (h.st _ ru.2.2.2.1 (by omega)).1]
  exact (rl_se h (h.act c).1 _ _ ru.2.2.2.2 (fun y => absurd y f)).mono (by omega)
theorem s_await (h : RL n A T) (hn : n + 20 < 2146000000) (mask : Int) : OV n (k_awaitM A mask) T (if iAnd (T 98406 0 ((T 819297 0 (rn T)))) mask = 0 then nt (mup (mup (mup T 819301 0 (rn T) (iAnd (T 98388 0 ((T 819297 0 (rn T)))) mask)) 819561 0 ((rn T)) (0)) 819298 0 ((rn T)) (3)) (20000 + (T 819297 0 (rn T))) else T) 9 (k_awaitS A mask) (await2 T mask) := by
  have hm := h.mB
  have m4 : 0 ≤ (T 14408 0 (4)) ∧ (T 14408 0 (4)) ≤ 48 := by unfold MB at hm; omega
  have kx := kxe_eq h mask
  have e : k_awaitS A mask = svS T (await2 T mask) := by
    unfold k_awaitS
    rw [kx]
    by_cases z : svS T (clear2 T mask) = 0
    · obtain ⟨c, d, r, k, w, f⟩ := kxe_0 h mask z
      have hh := hsf_hc h (h.act c).2
      rw [w] at hh
      have ow := own_wk h (h.act c).2
      have hc := h.hc (kw A) ow.2.1.1 (by omega)
      have dd : ¬ 0 < (T 11 0 65) := by omega
      rw [if_pos z]
      unfold svS await2
      by_cases g : (A 8 ((kw A)) 14) = 0
      · have g2 : ¬ ¬ hsf T (1 + rn T) = -1 := fun y => y (hh.mpr g)
        have g3 : ¬ 0 < (A 8 ((kw A)) 14) := by omega
        simp only [if_pos c, if_neg dd, if_neg f, if_neg g2, if_neg g3]
      · have g2 : ¬ hsf T (1 + rn T) = -1 := fun y => g (hh.mp y)
        have g3 : 0 < (A 8 ((kw A)) 14) := by omega
        simp only [if_pos c, if_neg dd, if_neg f, if_pos g2, if_pos g3]
    · rw [if_neg z]
      unfold svS clear2 at z ⊢
      unfold await2
      by_cases c : st0 T = 0
      · rw [if_pos c] at z ⊢
        rw [if_pos c]
        by_cases d : 0 < (T 11 0 65)
        · rw [if_pos d, if_pos d]
        · rw [if_neg d] at z ⊢
          rw [if_neg d]
          by_cases f : (T 98388 0 ((T 819297 0 (rn T)))) = 0
          · rw [if_pos f, if_pos f]
          · rw [if_neg f] at z; exact absurd rfl z
      · rw [if_neg c, if_neg c]
  refine svc h hn e (fun z => ?_) (fun z => by unfold k_awaitM; rw [if_neg z]) (by unfold await2; split <;> (try split) <;> (try split) <;> omega)
  unfold k_awaitM
  rw [if_pos z]
  have z1 : svS T (clear2 T mask) = 0 := by
    by_cases y : svS T (clear2 T mask) = 0
    · exact y
    · unfold k_awaitS at z
      rw [kx, if_neg y] at z
      exact absurd z y
  obtain ⟨c, d, r, k, w, f⟩ := kxe_0 h mask z1
  have ru := h.run r
  have hh := hsf_hc h (h.act c).2
  have ow := own_wk h (h.act c).2
  have hc := h.hc (kw A) ow.2.1.1 (by omega)
  have g : (A 8 ((kw A)) 14) = 0 := by
    unfold k_awaitS at z
    rw [kx, if_pos z1] at z
    by_cases g : 0 < (A 8 ((kw A)) 14)
    · rw [if_pos g] at z; omega
    · omega
  have nh := (hc_nhv h (h.act c).2).mp g
  rw [w] at nh
  unfold kwf
  rw [ru.2.2.1, (h.st _ ru.2.2.2.1 (by omega)).1]
  by_cases y : iAnd (T 98406 0 ((T 819297 0 (rn T)))) mask = 0
  · rw [if_pos y, if_pos y]
    have wa := (rl_wa h (h.act c).1 r nh (iAnd (T 98388 0 ((T 819297 0 (rn T)))) mask) f).1
    have n1 := rl_note wa (20000 + (T 819297 0 (rn T)))
    have eA : kstp (mup (mup A 8 ((T 819297 0 (rn T))) 8 (1)) 8 ((T 819297 0 (rn T))) 9 (iAnd (A 8 ((T 819297 0 (rn T))) 3) mask)) = knt (waA A (iAnd (T 98388 0 ((T 819297 0 (rn T)))) mask)) (20000 + (T 819297 0 (rn T))) := by
      have := kstp_wa A (iAnd (T 98388 0 ((T 819297 0 (rn T)))) mask)
      rw [ru.2.2.1] at this
      rw [(h.pl.ev _ ru.2.2.2.1 ru.2.2.2.2).1]
      exact this
    rw [eA]
    exact n1.mono (by omega)
  · rw [if_neg y, if_neg y]
    exact h.mono (by omega)
end SW
