/-! ===== services on both sides: alarms, shut, open, leave, halt, ticks, calls, start ===== -/
section SX
variable {n : Int} {A T : AMem}
theorem RL.kC (h : RL n A T) : KC A := fun a a0 a1 => by
  rw [h.pl.t6] at a1
  have al := (h.pl.al a a0 a1).1
  have hm := h.mB
  have m3 : 0 ≤ (T 14408 0 (3)) ∧ (T 14408 0 (3)) ≤ 16 := by unfold MB at hm; omega
  rw [al.1]
  exact ⟨by omega, h.cV _ al.2.1 al.2.2⟩
/-- the alarm's part of an entry -/
theorem kae_eq (h : RL n A T) (a lo x e : Int) : kae A a lo x e = svS T (if ¬ (0 ≤ a ∧ a < (T 14408 0 (6))) then 3 else if ¬ (T 98671 0 (a)) = 0 then 7 else if (x < lo ∨ (T 32846 0 ((T 98393 0 (a)))) < x) ∨ ¬ (e = 0 ∨ ((T 32848 0 ((T 98393 0 (a)))) ≤ e ∧ e ≤ (T 32846 0 ((T 98393 0 (a)))))) then 8 else 0) := by
  have hm := h.mB
  have m6 : 0 ≤ (T 14408 0 (6)) ∧ (T 14408 0 (6)) ≤ 48 := by unfold MB at hm; omega
  unfold kae svS
  rw [h.kenE, h.pl.t6]
  by_cases c : st0 T = 0
  · rw [if_pos c, if_pos c]
    by_cases d : 0 ≤ a ∧ a < (T 14408 0 (6))
    · have d2 : ¬ ¬ (0 ≤ a ∧ a < (T 14408 0 (6))) := fun z => z d
      have al := (h.pl.al a d.1 d.2).1
      have ct := h.pl.ct _ al.2.1 al.2.2
      have au := (h.au a d.1 (by omega)).1.1
      rw [if_pos d, if_neg d2, au, al.1, ct.1.1, ct.2.2.1]
      by_cases f : (T 98671 0 (a)) = 0
      · have f2 : ¬ ¬ (T 98671 0 (a)) = 0 := fun z => z f
        rw [if_pos f, if_neg f2]
        by_cases g : (x < lo ∨ (T 32846 0 ((T 98393 0 (a)))) < x) ∨ ¬ (e = 0 ∨ ((T 32848 0 ((T 98393 0 (a)))) ≤ e ∧ e ≤ (T 32846 0 ((T 98393 0 (a))))))
        · have g2 : ¬ (lo ≤ x ∧ x ≤ (T 32846 0 ((T 98393 0 (a)))) ∧ (e = 0 ∨ ((T 32848 0 ((T 98393 0 (a)))) ≤ e ∧ e ≤ (T 32846 0 ((T 98393 0 (a))))))) := by omega
          rw [if_pos g, if_neg g2]
        · have g2 : (lo ≤ x ∧ x ≤ (T 32846 0 ((T 98393 0 (a)))) ∧ (e = 0 ∨ ((T 32848 0 ((T 98393 0 (a)))) ≤ e ∧ e ≤ (T 32846 0 ((T 98393 0 (a))))))) := by omega
          rw [if_neg g, if_pos g2]
      · rw [if_neg f, if_pos f]
    · rw [if_neg d, if_pos d]
  · rw [if_neg c, if_neg c]
theorem kae_x (h : RL n A T) {a lo x e : Int} (z : kae A a lo x e = 0) : st0 T = 0 ∧ (0 ≤ a ∧ a < (T 14408 0 (6))) ∧ (lo ≤ x ∧ x ≤ (T 32846 0 ((T 98393 0 (a))))) ∧ (e = 0 ∨ ((T 32848 0 ((T 98393 0 (a)))) ≤ e ∧ e ≤ (T 32846 0 ((T 98393 0 (a)))))) := by
  obtain ⟨z1, z2, z3, z4, z5⟩ := kae_0 z
  rw [h.pl.t6] at z2
  rw [h.kenE] at z1
  have al := (h.pl.al a z2.1 z2.2).1
  have ct := h.pl.ct _ al.2.1 al.2.2
  rw [al.1, ct.1.1] at z4 z5
  rw [ct.2.2.1] at z5
  exact ⟨z1, z2, z4, z5⟩
theorem s_after (h : RL n A T) (hn : n + 20 < 2146000000) (a x e : Int) : OV n (k_afterM A a x e) T (mup (mup (mup T 98671 0 (a) (1)) 98416 0 (a) (((T 32876 0 ((T 98393 0 (a)))) + x) % ((T 32846 0 ((T 98393 0 (a)))) + 1))) 98417 0 (a) (e)) 11 (k_afterS A a x e) (after2 T a x e) := by
  have e0 : k_afterS A a x e = svS T (after2 T a x e) := kae_eq h a 1 x e
  refine svc h hn e0 (fun z => ?_) (fun z => by unfold k_afterM; rw [if_neg z]) (by unfold after2; split <;> (try split) <;> (try split) <;> omega)
  unfold k_afterM
  rw [if_pos z]
  obtain ⟨z1, z2, z3, z4⟩ := kae_x h z
  have al := (h.pl.al a z2.1 z2.2).1
  have cv := cvb_eq h (T 98393 0 (a)) x al.2.1 al.2.2 (by omega) z3.2
  rw [al.1, ← cv.1]
  exact (rl_us h (h.act z1).1 a _ e z2.1 z2.2 cv.2.1 cv.2.2 z4).mono (by omega)
theorem s_at (h : RL n A T) (hn : n + 20 < 2146000000) (a x e : Int) : OV n (k_atM A a x e) T (mup (mup (mup T 98671 0 (a) (1)) 98416 0 (a) (x)) 98417 0 (a) (e)) 12 (k_atS A a x e) (at2 T a x e) := by
  have e0 : k_atS A a x e = svS T (at2 T a x e) := kae_eq h a 0 x e
  refine svc h hn e0 (fun z => ?_) (fun z => by unfold k_atM; rw [if_neg z]) (by unfold at2; split <;> (try split) <;> (try split) <;> omega)
  unfold k_atM
  rw [if_pos z]
  obtain ⟨z1, z2, z3, z4⟩ := kae_x h z
  exact (rl_us h (h.act z1).1 a x e z2.1 z2.2 z3.1 z3.2 z4).mono (by omega)
theorem kue_eq (h : RL n A T) (a : Int) : kue A a = svS T (cancel2 T a) := by
  have hm := h.mB
  have m6 : 0 ≤ (T 14408 0 (6)) ∧ (T 14408 0 (6)) ≤ 48 := by unfold MB at hm; omega
  unfold kue svS cancel2
  rw [h.kenE, h.pl.t6]
  by_cases c : st0 T = 0
  · rw [if_pos c, if_pos c]
    by_cases d : 0 ≤ a ∧ a < (T 14408 0 (6))
    · have au := (h.au a d.1 (by omega)).1.1
      have d2 : ¬ ¬ (0 ≤ a ∧ a < (T 14408 0 (6))) := fun z => z d
      rw [if_pos d, if_neg d2, au]
    · rw [if_neg d, if_pos d]
  · rw [if_neg c, if_neg c]
theorem kue_x (h : RL n A T) {a : Int} (z : kue A a = 0) : st0 T = 0 ∧ (0 ≤ a ∧ a < (T 14408 0 (6))) ∧ ¬ (T 98671 0 (a)) = 0 := by
  rw [kue_eq h] at z
  unfold svS cancel2 at z
  by_cases c : st0 T = 0
  · rw [if_pos c] at z
    by_cases d : 0 ≤ a ∧ a < (T 14408 0 (6))
    · rw [if_neg (fun z => z d)] at z
      by_cases f : (T 98671 0 (a)) = 0
      · rw [if_pos f] at z; omega
      · exact ⟨c, d, f⟩
    · rw [if_pos d] at z; omega
  · rw [if_neg c] at z; exact absurd z c
theorem can_r (a : Int) : 0 ≤ cancel2 T a ∧ cancel2 T a ≤ 9 := by unfold cancel2; split <;> (try split) <;> omega
theorem s_cancel (h : RL n A T) (hn : n + 20 < 2146000000) (a : Int) : OV n (k_cancelM A a) T (mup T 98671 0 (a) (0)) 13 (k_cancelS A a) (cancel2 T a) := by
  have e0 : k_cancelS A a = svS T (cancel2 T a) := kue_eq h a
  refine svc h hn e0 (fun z => ?_) (fun z => by unfold k_cancelM; rw [if_neg z]) (can_r a)
  unfold k_cancelM
  rw [if_pos z]
  obtain ⟨z1, z2, z3⟩ := kue_x h z
  exact (rl_cn h (h.act z1).1 a z2.2).mono (by omega)
/-- how far an alarm is, on both sides -/
theorem left_eq (h : RL n A T) {a : Int} (a0 : 0 ≤ a) (a1 : a < (T 14408 0 (6))) (hu : ¬ (T 98671 0 (a)) = 0) : cst A (A 10 (a) 0) (A 10 (a) 7) = spt T a ∧ SA A a ∧ AL T a := by
  have hm := h.mB
  have m6 : (0 ≤ (T 14408 0 (6)) ∧ (T 14408 0 (6)) ≤ 48) ∧ (0 ≤ (T 14408 0 (3)) ∧ (T 14408 0 (3)) ≤ 16) := by unfold MB at hm; omega
  have al := (h.pl.al a a0 a1).1
  have ct := (h.pl.ct _ al.2.1 al.2.2).1
  have co := (h.co _ al.2.1 al.2.2).1
  have ad := (h.ad a a0 a1 hu).1
  refine ⟨?_, ⟨⟨a0, by omega⟩, by omega, by rw [al.1]; exact h.cV _ al.2.1 al.2.2, by omega⟩, ⟨by omega, by omega, by omega, by omega⟩⟩
  unfold cst spt
  rw [al.1, ad.1, co.1, ct.1]
theorem s_left (h : RL n A T) (hn : n + 20 < 2146000000) (a : Int) : OV n A T T 14 (kue A a) (left2 T a) ∧ klf A a = (if 0 < svS T (left2 T a) then -(svS T (left2 T a)) else spt (sld (svM T 14 (left2 T a) T)) a) ∧ (kue A a = 0 → SA (kfi A 14 (kue A a)) a) ∧ (svS T (left2 T a) = 0 → AL (sld (svM T 14 (left2 T a) T)) a) := by
  have e : kue A a = svS T (left2 T a) := kue_eq h a
  have o : OV n A T T 14 (kue A a) (left2 T a) := svc h hn e (fun _ => h.mono (by omega)) (fun _ => rfl) (can_r a)
  have fr : kue A a = 0 → (0 ≤ a ∧ a < ((sld (svM T 14 (left2 T a) T)) 14408 0 (6))) ∧ ¬ ((sld (svM T 14 (left2 T a) T)) 98671 0 (a)) = 0 := fun z => by
    obtain ⟨z1, z2, z3⟩ := kue_x h z
    have s0 : left2 T a = 0 := by rw [e] at z; unfold svS at z; rw [if_pos z1] at z; exact z
    have sv : svM T 14 (left2 T a) T = T := by unfold svM; rw [if_pos z1, if_pos s0]
    rw [sv]
    obtain ⟨t1, t2, _⟩ := rl_stl h
    have ls : sld T = stl T := lks_id t1 t2
    rw [ls]
    refine ⟨by rw [stl_fr T 14408 0 6 rfl]; exact z2, ?_⟩
    have : ((stl T) 98671 0 (a)) = (T 98671 0 (a)) := by
      refine stl_keep (P := fun M => (M 98671 0 (a)) = (T 98671 0 (a))) rfl (fun b => ?_) (fun M q z => ?_) (fun M q z => ?_)
      · simp only [mup_same, mu_ng, mu_ni, mu_xi, mu_xt, cq_fr, rn_fr, mrs_fr, inn_fr, cpr_fr, opr_fr, ldd_fr, own_fr, ne_eq, Nat.reduceEqDiff, not_false_eq_true, Int.reduceEq, ↓reduceIte, beg, nt]
      · simp only [mup_same, mu_ng, mu_ni, mu_xi, mu_xt, cq_fr, rn_fr, mrs_fr, inn_fr, cpr_fr, opr_fr, ldd_fr, own_fr, ne_eq, Nat.reduceEqDiff, not_false_eq_true, Int.reduceEq, ↓reduceIte, rns, nt]; exact z
      · simp only [mup_same, mu_ng, mu_ni, mu_xi, mu_xt, cq_fr, rn_fr, mrs_fr, inn_fr, cpr_fr, opr_fr, ldd_fr, own_fr, ne_eq, Nat.reduceEqDiff, not_false_eq_true, Int.reduceEq, ↓reduceIte, pre, nt]; exact z
    rw [this]
    exact z3
  refine ⟨o, ?_, fun z => ?_, fun z => ?_⟩
  · unfold klf
    by_cases c : kue A a = 0
    · have f := fr c
      rw [if_pos c, if_neg (by omega), (left_eq o.2.1 f.1.1 f.1.2 f.2).1]
    · have := o.2.2.2.1.1
      rw [if_neg c, if_pos (by omega), e]
  · have f := fr z
    exact (left_eq o.2.1 f.1.1 f.1.2 f.2).2.1
  · have f := fr (e.trans z)
    exact (left_eq o.2.1 f.1.1 f.1.2 f.2).2.2
theorem kid_eq (h : RL n A T) : (if kid A then (10 : Int) else 0) = st1 T := by
  have e := h.kidE
  unfold st1
  by_cases c : (T 11 0 50) = 0 ∨ wk T = 0
  · rw [if_pos c, if_pos (e.mpr c)]
  · rw [if_neg c, if_neg (fun z => c (e.mp z))]
theorem RL.act1 (h : RL n A T) (c : st1 T = 0) : ¬ (T 11 0 50) = 0 ∧ ¬ wk T = 0 := by
  have := st1_0i c
  unfold idl at this
  exact ⟨fun z => this (Or.inl z), fun z => this (Or.inr z)⟩
theorem s_shut (h : RL n A T) (hn : n + 20 < 2146000000) : OW n (k_shutM A) T (mup T 11 0 52 ((T 11 0 52) + 1)) 15 (k_shutS A) (shut2 T) := by
  have e := h.kidE
  have sh := h.sh
  have e0 : k_shutS A = svT T (shut2 T) := by
    unfold k_shutS svT st1 shut2
    rw [sh.1]
    by_cases c : (T 11 0 50) = 0 ∨ wk T = 0
    · rw [if_pos (e.mpr c), if_pos c, if_neg (by omega)]
    · rw [if_neg (fun z => c (e.mp z)), if_neg c, if_pos rfl]
      by_cases d : (T 11 0 52) = 100
      · rw [if_pos d, if_pos (by omega)]
      · rw [if_neg d, if_neg (by omega)]
  refine svc1 h hn e0 (fun z => ?_) (fun z => by unfold k_shutM; rw [if_neg z]) (by unfold shut2; split <;> omega)
  unfold k_shutM
  rw [if_pos z]
  rw [e0] at z
  unfold svT at z
  by_cases c : st1 T = 0
  · rw [if_pos c] at z
    unfold shut2 at z
    have d : ¬ (T 11 0 52) = 100 := fun w => by rw [if_pos w] at z; omega
    rw [sh.1]
    exact (rl_sh h (h.act1 c).1 ((T 11 0 52) + 1) (by omega) (by omega)).mono (by omega)
  · rw [if_neg c] at z; exact absurd z c
theorem s_leave (h : RL n A T) (hn : n + 20 < 2146000000) : OV n (k_leaveM A) T (nt (mup (mup T 32875 0 (iw T) (-1)) 11 0 65 ((T 11 0 65) - 1)) (60000 + iw T)) 17 (k_leaveS A) (leave2 T) ∧ (0 < (T 11 0 65) → iw T ≠ -1) := by
  have bc := h.bc
  have iwE := h.iwE
  have e0 : k_leaveS A = svS T (leave2 T) := by
    unfold k_leaveS svS leave2
    rw [h.kenE, bc.1]
    by_cases c : st0 T = 0
    · have hh := hsf_hc h (h.act c).2
      have ow := own_wk h (h.act c).2
      have hc := h.hc (kw A) ow.2.1.1 (by omega)
      rw [if_pos c, if_pos c]
      by_cases d : (T 11 0 65) = 0
      · rw [if_pos d, if_pos d]
      · rw [if_neg d, if_neg d]
        by_cases f : (A 8 ((kw A)) 14) = 0
        · rw [if_neg (by omega), if_neg (fun z => z (hh.mpr f))]
        · rw [if_pos (by omega), if_pos (fun z => f (hh.mp z))]
    · rw [if_neg c, if_neg c]
  refine ⟨svc h hn e0 (fun z => ?_) (fun z => by unfold k_leaveM; rw [if_neg z]) (by unfold leave2; split <;> (try split) <;> omega), fun z => ?_⟩
  · unfold k_leaveM
    rw [if_pos z]
    rw [e0] at z
    unfold svS at z
    by_cases c : st0 T = 0
    · rw [if_pos c] at z
      unfold leave2 at z
      by_cases d : (T 11 0 65) = 0
      · rw [if_pos d] at z; omega
      · rw [if_neg d] at z
        rw [if_neg d] at iwE
        by_cases f : hsf T (wk T) = -1
        · have nh := (hc_nhv h (h.act c).2).mp ((hsf_hc h (h.act c).2).mp f)
          rcases h.who with ⟨a1, a2, a3, a4⟩ | ⟨a1, a2, a3, a4⟩ | ⟨a1, a2, a3, a4⟩
          · rw [a3] at nh
            have ei := rl_ei h (h.act c).1 a1 nh
            have n1 := rl_note ei (60000 + (A 32815 0 (((T 11 0 65) - 1))))
            have kl : klb A = (A 32815 0 (((T 11 0 65) - 1))) := by unfold klb; rw [bc.1, if_pos (by omega)]
            rw [kei_eq, kl, iwE]
            exact n1.mono (by omega)
          · omega
          · omega
        · rw [if_pos f] at z; omega
    · rw [if_neg c] at z; exact absurd z c
  · rw [if_neg (by omega)] at iwE
    have := (h.bg ((T 11 0 65) - 1) (by omega) (by omega)).1
    omega
theorem s_open (h : RL n A T) (hn : n + 3200000 < 2146000000) : (k_openS A = svT T (op2 T) ∧ RL (n + 3190000) (kfi (k_openM A) 16 (k_openS A)) (sld (svN T 16 (op2 T) (opD T))) ∧ Std (kfi (k_openM A) 16 (k_openS A)) ∧ FI (k_openM A) 16 (k_openS A) ∧ SH (svN T 16 (op2 T) (opD T))) ∧ (k_openS A = 0 → (A 6 0 4) = 1 → KW (mup A 6 0 4 (0)) (A 14370 0 (3)) ∧ ((kdw (mup A 6 0 4 (0)) (A 14370 0 (3)).toNat) 14370 0 (3)) = (A 14370 0 (3))) ∧ (st1 T = 0 → (T 11 0 52) = 1 → RW (mup T 11 0 52 (0)) (T 14408 0 (3)) ∧ ((row (mup T 11 0 52 (0)) (T 14408 0 (3)).toNat) 14408 0 (3)) = (T 14408 0 (3))) := by
  have e := h.kidE
  have sh := h.sh
  have hm := h.mB
  have m3 : 0 ≤ (T 14408 0 (3)) ∧ (T 14408 0 (3)) ≤ 16 := by unfold MB at hm; omega
  have e0 : k_openS A = svT T (op2 T) := by
    unfold k_openS svT st1 op2
    rw [sh.1]
    by_cases c : (T 11 0 50) = 0 ∨ wk T = 0
    · rw [if_pos (e.mpr c), if_pos c, if_neg (by omega)]
    · rw [if_neg (fun z => c (e.mp z)), if_neg c, if_pos rfl]
  have big : ¬ (T 11 0 50) = 0 → ∀ k : Nat, (k : Int) ≤ (T 14408 0 (3)) → RL (n + 198000 * k) (kdw (mup A 6 0 4 (0)) k) (row (mup T 11 0 52 (0)) k) ∧ ((row (mup T 11 0 52 (0)) k) 11 0 50) = (T 11 0 50) ∧ ((row (mup T 11 0 52 (0)) k) 14408 0 (3)) = (T 14408 0 (3)) ∧ (∀ c : Nat, c < k → (∀ j : Nat, (j : Int) < ((kdw (mup A 6 0 4 (0)) c) 9 (c) 5) → KT (kts (mup (kdw (mup A 6 0 4 (0)) c) 9 (c) 5 (0)) c j) c) ∧ ∀ j : Nat, (j : Int) < ((row (mup T 11 0 52 (0)) c) 32878 0 (c)) → RT (rts (mup (row (mup T 11 0 52 (0)) c) 32878 0 (c) (0)) c j) c) := fun ho k hk => by
    have r := rl_sh h ho 0 (by omega) (by omega)
    have on1 : ((shB T 0) 11 0 50) = (T 11 0 50) := by simp only [mup_same, mu_ng, mu_ni, mu_xi, mu_xt, cq_fr, rn_fr, mrs_fr, inn_fr, cpr_fr, opr_fr, ldd_fr, own_fr, ne_eq, Nat.reduceEqDiff, not_false_eq_true, Int.reduceEq, ↓reduceIte, shB]
    have m1 : ((shB T 0) 14408 0 (3)) = (T 14408 0 (3)) := by simp only [mup_same, mu_ng, mu_ni, mu_xi, mu_xt, cq_fr, rn_fr, mrs_fr, inn_fr, cpr_fr, opr_fr, ldd_fr, own_fr, ne_eq, Nat.reduceEqDiff, not_false_eq_true, Int.reduceEq, ↓reduceIte, shB]
    obtain ⟨a1, a2, a3, a4⟩ := rl_open r (by rw [on1]; exact ho) (by omega) k (by rw [m1]; exact hk)
    exact ⟨a1, a2.trans on1, a3.trans m1, a4⟩
  have main : k_openS A = 0 → RL (n + 3168000) (k_openM A) (opD T) := fun z => by
    rw [e0] at z
    unfold svT at z
    by_cases c : st1 T = 0
    · rw [if_pos c] at z
      have s0 : ¬ (T 11 0 52) = 0 := fun w => by unfold op2 at z; rw [if_pos w] at z; omega
      have z2 : k_openS A = 0 := by rw [e0]; unfold svT; rw [if_pos c]; exact z
      have ho := (h.act1 c).1
      unfold k_openM opD
      rw [if_pos z2, sh.1, h.pl.t3]
      by_cases d : (T 11 0 52) = 1
      · rw [if_pos d, if_pos d]
        exact (big ho (T 14408 0 (3)).toNat (by omega)).1.mono (by omega)
      · rw [if_neg d, if_neg d]
        exact (rl_sh h ho ((T 11 0 52) - 1) (by omega) (by omega)).mono (by omega)
    · rw [if_neg c] at z; exact absurd z c
  refine ⟨⟨e0, ?_⟩, fun z d => ?_, fun c d => ?_⟩
  · have no := h.no
    have sr : 0 ≤ k_openS A ∧ k_openS A ≤ 10 := by unfold k_openS; split <;> (try split) <;> omega
    have m2 : RL (n + 3168001) (kfs (k_openM A) 16 (k_openS A)) (svN T 16 (op2 T) (opD T)) := by
      by_cases z : k_openS A = 0
      · have := main z
        have z2 := z
        rw [e0] at z2
        unfold svT at z2
        unfold kfs svN
        by_cases c : st1 T = 0
        · rw [if_pos c] at z2
          rw [if_pos (Or.inl z), if_pos c, if_pos z2]
          exact this.mono (by omega)
        · rw [if_neg c] at z2; exact absurd z2 c
      · have eA : k_openM A = A := by unfold k_openM; rw [if_neg z]
        rw [eA]
        rw [e0] at z ⊢
        unfold svT at z ⊢
        unfold svN kfs
        by_cases c : st1 T = 0
        · rw [if_pos c] at z ⊢
          rw [if_pos c, if_neg z]
          have s2 : op2 T = 5 := by
            unfold op2 at z ⊢
            by_cases w : (T 11 0 52) = 0
            · rw [if_pos w]
            · rw [if_neg w] at z; exact absurd rfl z
          rw [s2, if_neg (by omega)]
          exact (rl_note h _).mono (by omega)
        · rw [if_neg c] at z ⊢
          rcases st1_n (T := T) with y | y
          · exact absurd y c
          · rw [if_neg c, if_pos (Or.inr y)]
            exact h.mono (by omega)
    have nA : ((k_openM A) 6 0 9) < 2146000000 ∧ 0 ≤ ((k_openM A) 6 0 9) := by
      by_cases z : k_openS A = 0
      · have := (main z).no; omega
      · have eA : k_openM A = A := by unfold k_openM; rw [if_neg z]
        rw [eA]; omega
    obtain ⟨f1, f2, f3, f4⟩ := fin sr (by omega) nA m2
    exact ⟨f1.mono (by omega), f2, f3, f4⟩
  · have ho : ¬ (T 11 0 50) = 0 := by
      intro w
      unfold k_openS at z
      rw [if_pos (e.mpr (Or.inl w))] at z
      omega
    rw [h.pl.t3]
    refine ⟨fun c hc => ?_, ?_⟩
    · obtain ⟨b1, b2, b3, b4⟩ := big ho (c + 1) (by omega)
      obtain ⟨a1, a2, a3, a4⟩ := big ho c (by omega)
      have w := (a1.wg c (by omega) (by omega)).1
      exact ⟨by rw [a1.pl.t3, a3], by omega, (b4 c (by omega)).1⟩
    · obtain ⟨a1, a2, a3, a4⟩ := big ho (T 14408 0 (3)).toNat (by omega)
      rw [a1.pl.t3, a3]
  · have ho := (h.act1 c).1
    refine ⟨fun c hc => ?_, (big ho (T 14408 0 (3)).toNat (by omega)).2.2.1⟩
    obtain ⟨b1, b2, b3, b4⟩ := big ho (c + 1) (by omega)
    obtain ⟨a1, a2, a3, a4⟩ := big ho c (by omega)
    have w := (a1.wg c (by omega) (by omega)).1
    refine ⟨a3, w.2, fun j hj => ?_⟩
    rw [rwn_eq, mu_2]
    exact RT_mu ((b4 c (by omega)).2 j hj)
theorem std_id {A : AMem} (s0 : 0 ≤ (A 6 0 4)) (sd : Std A) : kstl A = A := by
  unfold kstl
  by_cases c : (A 6 0 2) = 0 ∨ 0 < (A 6 0 4)
  · rw [if_pos c]
  · rw [if_neg c]
    by_cases z : (A 6 0 4) = 0
    · have s := sd (fun w => c (Or.inl w)) z
      rw [if_pos (Or.inl s.1)]
      unfold krn1
      rw [if_neg (fun w => s.2 w.1 w.2)]
    · exact absurd (Or.inr (show 0 < (A 6 0 4) by omega)) c
theorem s_halt (h : RL n A T) (sd : Std A) (hn : n + 20 < 2146000000) (co : Int) : k_haltS A co = st1 T ∧ RL (n + 4) (kfi (k_haltM A co) 18 (k_haltS A co)) (if st1 T = 0 then gof (nt T (80000 + iAnd co 127)) else T) ∧ Std (kfi (k_haltM A co) 18 (k_haltS A co)) ∧ FI (k_haltM A co) 18 (k_haltS A co) ∧ (¬ kid A → CB (knt A (80000 + iAnd co 127))) := by
  have e0 : k_haltS A co = st1 T := kid_eq h
  have n1 := rl_note h (80000 + iAnd co 127)
  refine ⟨e0, ?_⟩
  have sr : 0 ≤ k_haltS A co ∧ k_haltS A co ≤ 10 := by unfold k_haltS; split <;> omega
  have s10 : k_haltS A co = 0 ∨ k_haltS A co = 10 := by unfold k_haltS; split <;> omega
  have kf : ∀ X, kfs X 18 (k_haltS A co) = X := fun X => by unfold kfs; rw [if_pos s10]
  by_cases c : st1 T = 0
  · rw [if_pos c]
    have main : RL (n + 1) (k_haltM A co) (gof (nt T (80000 + iAnd co 127))) := by
      unfold k_haltM
      rw [e0, if_pos c]
      exact rl_off n1
    have no := main.no
    obtain ⟨f1, f2, f3, f4⟩ := fin (n := n + 1) (A1 := k_haltM A co) (k := 18) sr (by omega) (by omega) (by rw [kf]; exact main)
    refine ⟨?_, f2, f3, fun _ => n1.cB (by omega)⟩
    have st : stl (gof (nt T (80000 + iAnd co 127))) = gof (nt T (80000 + iAnd co 127)) := by
      unfold stl
      rw [if_pos (Or.inl (by rw [gof_11]; simp only [mup_same, mu_ng, mu_ni, mu_xi, mu_xt, cq_fr, rn_fr, mrs_fr, inn_fr, cpr_fr, opr_fr, ldd_fr, own_fr, ne_eq, Nat.reduceEqDiff, not_false_eq_true, Int.reduceEq, ↓reduceIte, gf0]))]
    obtain ⟨t1, t2, _⟩ := rl_stl main
    have ls : sld (gof (nt T (80000 + iAnd co 127))) = gof (nt T (80000 + iAnd co 127)) := by
      unfold sld
      rw [lks_id t1 t2, st]
    rw [ls] at f1
    exact f1.mono (by omega)
  · rw [if_neg c]
    have eA : k_haltM A co = A := by unfold k_haltM; rw [e0, if_neg c]
    rw [eA]
    have ek : kfi A 18 (k_haltS A co) = A := by unfold kfi; rw [kf, std_id (by have := h.sh; omega) sd]
    have no := h.no
    obtain ⟨f1, f2, f3, f4⟩ := fin (n := n) (A1 := A) (k := 18) sr (by omega) (by omega) (by rw [kf]; exact h)
    exact ⟨by rw [ek]; exact h.mono (by omega), f2, f3, fun _ => n1.cB (by omega)⟩
/-- ticks -/
theorem s_tick (h : RL n A T) (sd : Std A) (hn : n + 100000 < 2146000000) (c k : Int) : (kok A c k ↔ rok T c k) ∧ (rok T c k → (if (A 6 0 4) = 0 then ktn A c k.toNat else 0) = rtwS T c k ∧ RL (n + 99000) (ktw A c k) (rtw T c k) ∧ Std (ktw A c k) ∧ CB (ktw A c k) ∧ KA (ktw A c k)) ∧ (rok T c k → 0 ≤ (A 9 (c) 5) ∧ (A 9 (c) 5) ≤ 2000) ∧ (rok T c k → 0 ≤ (T 32878 0 (c)) ∧ (T 32878 0 (c)) ≤ 2000) ∧ (rok T c k → (A 6 0 4) = 0 → ∀ j : Nat, (j : Int) < k → KT (kts A c j) c) ∧ (rok T c k → (T 11 0 52) = 0 → (∀ j : Nat, (j : Int) < k → RT (rts T c j) c) ∧ MB (rts T c k.toNat) ∧ WT (rts T c k.toNat) ∧ (0 ≤ ((rts T c k.toNat) 11 0 74) ∧ ((rts T c k.toNat) 11 0 74) < 2147483000)) := by
  have hm := h.mB
  have m3 : 0 ≤ (T 14408 0 (3)) ∧ (T 14408 0 (3)) ≤ 16 := by unfold MB at hm; omega
  have sh := h.sh
  have big : rok T c k → ∀ j : Nat, (j : Int) ≤ k → RL (n + 99 * j) (kts A c j) (rts T c j) ∧ (0 < j → Std (kts A c j)) ∧ ktn A c j = rtn T c j ∧ (∀ i : Nat, i < j → KT (kts A c i) c ∧ RT (rts T c i) c) ∧ ((rts T c j) 11 0 50) = (T 11 0 50) ∧ ((rts T c j) 14408 0 (3)) = (T 14408 0 (3)) := fun r j hj => rl_ticks h r.1 c r.2.1.1 r.2.1.2 j (by omega)
  have wg : rok T c k → ((A 9 (c) 5) = (T 32878 0 (c)) ∧ 0 ≤ (T 32878 0 (c)) ∧ (T 32878 0 (c)) ≤ 2000) := fun r => (h.wg c r.2.1.1 (by omega)).1
  refine ⟨?_, fun r => ?_, fun r => by have := wg r; omega, fun r => (wg r).2, fun r s j hj => ((big r k.toNat (by omega)).2.2.2.1 j (by omega)).1, fun r s => ?_⟩
  · unfold kok rok
    rw [h.on.1, h.pl.t3]
  · have main : (if (A 6 0 4) = 0 then ktn A c k.toNat else 0) = rtwS T c k ∧ RL (n + 99000) (ktw A c k) (rtw T c k) ∧ Std (ktw A c k) := by
      unfold rtwS rtw ktw
      rw [sh.1]
      by_cases z : (T 11 0 52) = 0
      · simp only [if_pos z]
        obtain ⟨a1, a2, a3, _⟩ := big r k.toNat (by omega)
        have s := a2 (by omega)
        rw [lks_id a1 s]
        exact ⟨a3, a1.mono (by omega), s⟩
      · simp only [if_neg z]
        have w := wg r
        refine ⟨trivial, ?_, ?_⟩
        · have v : (if 2000 < (A 9 (c) 5) + k then 2000 else (A 9 (c) 5) + k) = (if (T 32878 0 (c)) + k < 2000 then (T 32878 0 (c)) + k else 2000) := by
            rw [w.1]
            split <;> split <;> omega
          rw [v]
          exact (rl_wg h r.1 c _ r.2.1.2 (by split <;> omega) (by split <;> omega)).mono (by omega)
        · refine Std.off (Or.inr ?_)
          simp only [mup_same, mu_ng, mu_ni, mu_xi, mu_xt, cq_fr, rn_fr, mrs_fr, inn_fr, cpr_fr, opr_fr, ldd_fr, own_fr, ne_eq, Nat.reduceEqDiff, not_false_eq_true, Int.reduceEq, ↓reduceIte]
          omega
    exact ⟨main.1, main.2.1, main.2.2, main.2.1.cB (by omega), main.2.1.kA main.2.2⟩
  · obtain ⟨a1, a2, a3, a4, _⟩ := big r k.toNat (by omega)
    exact ⟨fun j hj => (a4 j (by omega)).2, a1.mB, a1.wT, by have := a1.bt; omega⟩
theorem s_call (h : RL n A T) (sd : Std A) (hn : n + 20 < 2146000000) (i : Int) : k_callS A i = calS T i ∧ RL (n + 3) (kstl (k_callM A i)) (if calS T i = -1 then T else sld (calM T i)) ∧ Std (kstl (k_callM A i)) ∧ KS (k_callM A i) ∧ CB (kstl (k_callM A i)) ∧ KA (kstl (k_callM A i)) ∧ (¬ calS T i = -1 → SH (calM T i)) := by
  have hm := h.mB
  have m5 : 0 ≤ (T 14408 0 (5)) ∧ (T 14408 0 (5)) ≤ 16 := by unfold MB at hm; omega
  have e0 : k_callS A i = calS T i := by
    unfold k_callS calS
    rw [h.on.1, h.pl.t5]
    by_cases c : ¬ (T 11 0 50) = 0 ∧ 0 ≤ i ∧ i < (T 14408 0 (5))
    · rw [if_pos c, if_pos c, (h.ca i c.2.1 (by omega)).1]
    · rw [if_neg c, if_neg c]
  refine ⟨e0, ?_⟩
  have main : RL n (k_callM A i) (calM T i) := by
    unfold k_callM calM
    rw [e0]
    by_cases z : calS T i = 0
    · rw [if_pos z, if_pos z]
      unfold calS at z
      by_cases c : ¬ (T 11 0 50) = 0 ∧ 0 ≤ i ∧ i < (T 14408 0 (5))
      · exact rl_ca h c.1 i c.2.2
      · rw [if_neg c] at z; omega
    · rw [if_neg z, if_neg z]; exact h
  obtain ⟨t1, t2, t3⟩ := rl_stl main
  refine ⟨?_, t2, main.kS (by omega), t1.cB (by omega), t1.kA t2, fun _ => main.sH (by omega)⟩
  by_cases z : calS T i = -1
  · have eA : k_callM A i = A := by unfold k_callM; rw [e0, if_neg (by omega)]
    rw [if_pos z, eA, std_id (by have := h.sh; omega) sd]
    exact h.mono (by omega)
  · have l : sld (calM T i) = stl (calM T i) := lks_id t1 t2
    rw [if_neg z, l]
    exact t1
theorem s_start (h : RL n A T) (sd : Std A) (hn : n + 60 < 2146000000) (m : Int) : k_startS A m = stS T m ∧ RL (n + 52) (kstl (k_startM A m)) (if stS T m = 0 then sld (rs7 T m) else T) ∧ Std (kstl (k_startM A m)) ∧ (k_startS A m = 0 → KG A m) ∧ KS (k_startM A m) ∧ CB (kstl (k_startM A m)) ∧ KA (kstl (k_startM A m)) ∧ (stS T m = 0 → RS T m) := by
  have e0 : k_startS A m = stS T m := by
    unfold k_startS stS
    rw [h.on.1, h.pl.t0]
  have big : stS T m = 0 → RL (n + 49) (kgn A m) (rs7 T m) ∧ KG A m ∧ RS T m := fun z => by
    unfold stS at z
    by_cases c : (T 11 0 50) = 0
    · rw [if_pos c] at z
      by_cases d : 0 ≤ m ∧ m < (T 14408 0 (0))
      · exact rl_start h (by omega) c m d.1 d.2
      · rw [if_neg d] at z; omega
    · rw [if_neg c] at z; omega
  refine ⟨e0, ?_⟩
  by_cases z : stS T m = 0
  · obtain ⟨b1, b2, b3⟩ := big z
    have eA : k_startM A m = kgn A m := by unfold k_startM; rw [e0, if_pos z]
    obtain ⟨t1, t2, t3⟩ := rl_stl b1
    rw [eA, if_pos z]
    have l : sld (rs7 T m) = stl (rs7 T m) := lks_id t1 t2
    rw [l]
    exact ⟨t1.mono (by omega), t2, fun _ => b2, b1.kS (by omega), t1.cB (by omega), t1.kA t2, fun _ => b3⟩
  · have eA : k_startM A m = A := by unfold k_startM; rw [e0, if_neg z]
    rw [eA, if_neg z, std_id (by have := h.sh; omega) sd]
    exact ⟨h.mono (by omega), sd, fun y => absurd (e0 ▸ y) z, h.kS (by omega), h.cB (by omega), h.kA sd, fun y => absurd y z⟩
end SX
