/-! ===== the reference: services ===== -/
def th (M : AMem) : AMem := (mup M 11 0 0 (0))
/-- at a service's entry -/
def ME (M : AMem) : Prop := MB M ∧ (0 ≤ (M 11 0 65) ∧ (M 11 0 65) ≤ 16) ∧ WT M ∧ SM M ∧ (0 ≤ (M 11 0 52) ∧ (M 11 0 52) ≤ 100)
/-- a refused service's note -/
def rf (M : AMem) (k s : Int) : AMem := nt M (30000 + (100 * k + s))
theorem R_rf (k s : Int) (M : AMem) (he : ME M) (hk : 0 ≤ k ∧ k ≤ 20) (hs : 0 ≤ s ∧ s ≤ 10) : Runs 49 [aR 11 0, aI k, aI s] M (fun r M' => r = some (aI s) ∧ M' = rf M k s) := by
  have h := he.2.2.2.1.1
  exact R_refused k s M (by omega) (by omega) hk hs
theorem R_as9 (k : Int) (M : AMem) (he : ME M) (h : ¬ idl M) (hsh : 0 < (M 11 0 52)) (hk : 0 ≤ k ∧ k ≤ 20) : Runs 45 [aR 11 0, aI k, aI 0] M (fun r M' => r = some (aI 9) ∧ M' = rf M k 9) := R_asked9 k M he.1 he.2.1 h hsh he.2.2.2.1 hk
theorem wk_pos {M : AMem} (h : ¬ idl M) : wk M ≠ 0 := fun z => h (Or.inr z)
/-- the status that all services but a few begin with -/
def st0 (T : AMem) : Int := if (T 11 0 50) = 0 ∨ wk T = 0 then 10 else if 0 < (T 11 0 52) then 9 else 0
def mm0' (T : AMem) (k : Int) : AMem := if st0 T = 9 then rf T k 9 else T
theorem st0_10 {T : AMem} (h : idl T) : st0 T = 10 := by unfold st0; exact if_pos h
theorem st0_9 {T : AMem} (h : ¬ idl T) (h2 : 0 < (T 11 0 52)) : st0 T = 9 := by unfold st0 idl at *; rw [if_neg h, if_pos h2]
theorem st0_0 {T : AMem} (h : ¬ idl T) (h2 : ¬ 0 < (T 11 0 52)) : st0 T = 0 := by unfold st0 idl at *; rw [if_neg h, if_neg h2]
theorem st0_i {T : AMem} : st0 T = 10 ∧ idl T ∨ st0 T = 9 ∧ ¬ idl T ∧ 0 < (T 11 0 52) ∨ st0 T = 0 ∧ ¬ idl T ∧ ¬ 0 < (T 11 0 52) := by
  by_cases h : idl T
  · exact Or.inl ⟨st0_10 h, h⟩
  · by_cases h2 : 0 < (T 11 0 52)
    · exact Or.inr (Or.inl ⟨st0_9 h h2, h, h2⟩)
    · exact Or.inr (Or.inr ⟨st0_0 h h2, h, h2⟩)
theorem R_asked (k : Int) (T : AMem) (he : ME T) (hk : 0 ≤ k ∧ k ≤ 20) : Runs 45 [aR 11 0, aI k, aI 0] T (fun r M' => r = some (aI (st0 T)) ∧ M' = mm0' T k) := by
  rcases st0_i (T := T) with ⟨e, h⟩ | ⟨e, h, h2⟩ | ⟨e, h, h2⟩
  · rw [e, show mm0' T k = T by unfold mm0'; rw [e]; rfl]
    exact R_asked10 k 0 T he.1 he.2.1 h
  · rw [e, show mm0' T k = rf T k 9 by unfold mm0'; rw [e]; rfl]
    exact R_as9 k T he h h2 hk
  · rw [e, show mm0' T k = T by unfold mm0'; rw [e]; rfl]
    exact R_asked0 k 0 T he.1 he.2.1 h (Or.inr (by omega))
/-- status and memory of a service in three steps: asked; refused with s2 where that isn't 0; done -/
def svS (T : AMem) (s2 : Int) : Int := if st0 T = 0 then s2 else st0 T
def svM (T : AMem) (k s2 : Int) (D : AMem) : AMem := if st0 T = 0 then (if s2 = 0 then D else rf T k s2) else mm0' T k
theorem sv_x {T : AMem} {k s2 : Int} {D : AMem} (h : ¬ st0 T = 0) : svS T s2 = st0 T ∧ svM T k s2 D = mm0' T k := by
  unfold svS svM
  rw [if_neg h, if_neg h]
  exact ⟨rfl, rfl⟩
theorem sv_r {T : AMem} {k s2 : Int} {D : AMem} (h : st0 T = 0) (h2 : ¬ s2 = 0) : svS T s2 = s2 ∧ svM T k s2 D = rf T k s2 := by
  unfold svS svM
  rw [if_pos h, if_pos h, if_neg h2]
  exact ⟨rfl, rfl⟩
theorem sv_d {T : AMem} {k s2 : Int} {D : AMem} (h : st0 T = 0) (h2 : s2 = 0) : svS T s2 = 0 ∧ svM T k s2 D = D := by
  unfold svS svM
  rw [if_pos h, if_pos h, if_pos h2]
  exact ⟨h2, rfl⟩
theorem mm0_0 {T : AMem} {k : Int} (h : st0 T = 0) : mm0' T k = T := by unfold mm0'; rw [h]; rfl
def act2 (T : AMem) (t : Int) : Int := if ¬ (0 ≤ t ∧ t < (T 14408 0 (4))) then 3 else if cq T t 400 = (T 98387 0 (t)) then 4 else 0
theorem act2_i (T : AMem) (t : Int) : (act2 T t = 3 ∧ ¬ (0 ≤ t ∧ t < (T 14408 0 (4)))) ∨ (act2 T t = 4 ∧ (0 ≤ t ∧ t < (T 14408 0 (4))) ∧ cq T t 400 = (T 98387 0 (t))) ∨ (act2 T t = 0 ∧ (0 ≤ t ∧ t < (T 14408 0 (4))) ∧ ¬ cq T t 400 = (T 98387 0 (t))) := by
  unfold act2
  by_cases h1 : ¬ (0 ≤ t ∧ t < (T 14408 0 (4)))
  · rw [if_pos h1]; exact Or.inl ⟨rfl, h1⟩
  · rw [if_neg h1]
    by_cases h2 : cq T t 400 = (T 98387 0 (t))
    · rw [if_pos h2]; exact Or.inr (Or.inl ⟨rfl, by omega, h2⟩)
    · rw [if_neg h2]; exact Or.inr (Or.inr ⟨rfl, by omega, h2⟩)
theorem R_activate (t : Int) (M T : AMem) (hT : T = th M) (he : ME T) (hf : act2 T t = 0 → fq T ≠ -1) (h : SH (svM T 1 (act2 T t) (rqs T t))) : Runs 44 [aR 11 0, aI t] M (fun r M' => r = some (aI (svS T (act2 T t))) ∧ M' = sld (svM T 1 (act2 T t) (rqs T t))) := by
  have hm := he.1.2.2.2.2.1
  refine Runs.go2 (cd := cd_44) _ (by decide) (by decide) ck_44 rfl (Nat.le_of_ble_eq_true rfl) (show _ = ([some (aR 11 0), some (aI t), none] : Lc) from rfl) (fun ho hM => ?_)
  refine b_44_0 ?_
  simp only [wx_iconst, wx_ldc2, wx_iload, wx_lload, wx_aload, wx_istore, wx_lstore, wx_astore, wx_iinc, wx_iadd, wx_isub, wx_imul, wx_iand, wx_ior, wx_ixor, wx_ishl, wx_ishr, wx_iushr, wx_irem, wx_ineg, wx_ladd, wx_land, wx_lor, wx_lrem, wx_lneg, wx_lshl, wx_lushr, wx_lcmp, wx_i2l, wx_l2i, wx_i2b, wx_i2c, wx_dupI, wx_popI, wx_dupR, wx_popR, wx_dup2, wx_icmp_eq, wx_if_eq, wx_icmp_ne, wx_if_ne, wx_icmp_lt, wx_if_lt, wx_icmp_ge, wx_if_ge, wx_icmp_gt, wx_if_gt, wx_icmp_le, wx_if_le, wx_acmp_eq, wx_acmp_ne, wx_goto, wx_tsw, wx_lsw, wx_getf, wx_putf, wx_iald, wx_bald, wx_cald, wx_lald, wx_aald1, wx_aald2, wx_iast, wx_bast, wx_cast, wx_last, wx_alen, wx_gets, wx_invV, wx_invS, wx_ret0, wx_ret1, wx_lret, wx_aret, wx_vret, wl_nil, wl_cons, li_0, li_s, lr_0, lr_s, ll_0, ll_s, pp_0, pp_s, rc_mk, rp_n, rp_s, fp_0, fp_1, fp_2, fg_0, fg_1, fg_2, fg_3, wcallV, wcall, List.set_cons_zero, List.set_cons_succ, Nat.reduceDiv, Nat.reduceMod, Nat.reduceAdd, Nat.reduceSub, Nat.reduceEqDiff, Int.reduceToNat, Int.reduceNatCast', gk, inr, gl, true_and, and_true, Int.zero_add, Int.add_zero, List.length_cons, List.length_nil, Nat.reduceLeDiff, Nat.reduceLT, Nat.le_refl, Nat.zero_le, Classical.not_not, Nat.zero_add, lc_ge, lc_gt, lc_le, lc_lt, lc_eq, mup_same, mu_ng, mu_ni, ne_eq, not_false_eq_true, Int.reduceEq, false_and, and_false, false_or, or_false, true_or, or_true, i10, i11, Int.reduceMul, Int.reduceAdd, Int.reduceSub, Int.mul_one, not_true_eq_false, false_implies, true_implies, implies_true, i01, i02]
  rw [show mup M 11 0 0 0 = T from hT.symm]
  refine call_fn (R_asked 1 T he (by omega)) ?_
  simp only [wx_iconst, wx_ldc2, wx_iload, wx_lload, wx_aload, wx_istore, wx_lstore, wx_astore, wx_iinc, wx_iadd, wx_isub, wx_imul, wx_iand, wx_ior, wx_ixor, wx_ishl, wx_ishr, wx_iushr, wx_irem, wx_ineg, wx_ladd, wx_land, wx_lor, wx_lrem, wx_lneg, wx_lshl, wx_lushr, wx_lcmp, wx_i2l, wx_l2i, wx_i2b, wx_i2c, wx_dupI, wx_popI, wx_dupR, wx_popR, wx_dup2, wx_icmp_eq, wx_if_eq, wx_icmp_ne, wx_if_ne, wx_icmp_lt, wx_if_lt, wx_icmp_ge, wx_if_ge, wx_icmp_gt, wx_if_gt, wx_icmp_le, wx_if_le, wx_acmp_eq, wx_acmp_ne, wx_goto, wx_tsw, wx_lsw, wx_getf, wx_putf, wx_iald, wx_bald, wx_cald, wx_lald, wx_aald1, wx_aald2, wx_iast, wx_bast, wx_cast, wx_last, wx_alen, wx_gets, wx_invV, wx_invS, wx_ret0, wx_ret1, wx_lret, wx_aret, wx_vret, wl_nil, wl_cons, li_0, li_s, lr_0, lr_s, ll_0, ll_s, pp_0, pp_s, rc_mk, rp_n, rp_s, fp_0, fp_1, fp_2, fg_0, fg_1, fg_2, fg_3, wcallV, wcall, List.set_cons_zero, List.set_cons_succ, Nat.reduceDiv, Nat.reduceMod, Nat.reduceAdd, Nat.reduceSub, Nat.reduceEqDiff, Int.reduceToNat, Int.reduceNatCast', gk, inr, gl, true_and, and_true, Int.zero_add, Int.add_zero, List.length_cons, List.length_nil, Nat.reduceLeDiff, Nat.reduceLT, Nat.le_refl, Nat.zero_le, Classical.not_not, Nat.zero_add, lc_ge, lc_gt, lc_le, lc_lt, lc_eq, mup_same, mu_ng, mu_ni, ne_eq, not_false_eq_true, Int.reduceEq, false_and, and_false, false_or, or_false, true_or, or_true, i10, i11, Int.reduceMul, Int.reduceAdd, Int.reduceSub, Int.mul_one, not_true_eq_false, false_implies, true_implies, implies_true, i01, i02]
  by_cases c0 : st0 T = 0
  · rw [mm0_0 c0]
    rcases act2_i T t with ⟨e, d⟩ | ⟨e, d1, d⟩ | ⟨e, d1, d⟩
    · obtain ⟨e1, e2⟩ := sv_r (T := T) (k := 1) (s2 := 3) (D := rqs T t) c0 (by decide)
      rw [e, e2] at h
      rw [e, e1, e2, c0]
      repeat' (first | ((first | refine Wq_i (i := 0) rfl (b_44_0 ?_) | refine Wq_i (i := 20) rfl (b_44_20 ?_) | refine Wq_i (i := 36) rfl (b_44_36 ?_) | refine Wq_i (i := 41) rfl (b_44_41 ?_) | refine call_f2 (n := 51) rfl (R_isTask _ _) ?_ | refine call_f2 (n := 49) rfl (R_rf _ _ _ he (by omega) (by omega)) ?_ | refine call_f2 (n := 55) rfl (R_settled _ _ h) ?_); (try simp only [wx_iconst, wx_ldc2, wx_iload, wx_lload, wx_aload, wx_istore, wx_lstore, wx_astore, wx_iinc, wx_iadd, wx_isub, wx_imul, wx_iand, wx_ior, wx_ixor, wx_ishl, wx_ishr, wx_iushr, wx_irem, wx_ineg, wx_ladd, wx_land, wx_lor, wx_lrem, wx_lneg, wx_lshl, wx_lushr, wx_lcmp, wx_i2l, wx_l2i, wx_i2b, wx_i2c, wx_dupI, wx_popI, wx_dupR, wx_popR, wx_dup2, wx_icmp_eq, wx_if_eq, wx_icmp_ne, wx_if_ne, wx_icmp_lt, wx_if_lt, wx_icmp_ge, wx_if_ge, wx_icmp_gt, wx_if_gt, wx_icmp_le, wx_if_le, wx_acmp_eq, wx_acmp_ne, wx_goto, wx_tsw, wx_lsw, wx_getf, wx_putf, wx_iald, wx_bald, wx_cald, wx_lald, wx_aald1, wx_aald2, wx_iast, wx_bast, wx_cast, wx_last, wx_alen, wx_gets, wx_invV, wx_invS, wx_ret0, wx_ret1, wx_lret, wx_aret, wx_vret, wl_nil, wl_cons, li_0, li_s, lr_0, lr_s, ll_0, ll_s, pp_0, pp_s, rc_mk, rp_n, rp_s, fp_0, fp_1, fp_2, fg_0, fg_1, fg_2, fg_3, wcallV, wcall, List.set_cons_zero, List.set_cons_succ, Nat.reduceDiv, Nat.reduceMod, Nat.reduceAdd, Nat.reduceSub, Nat.reduceEqDiff, Int.reduceToNat, Int.reduceNatCast', gk, inr, gl, true_and, and_true, Int.zero_add, Int.add_zero, List.length_cons, List.length_nil, Nat.reduceLeDiff, Nat.reduceLT, Nat.le_refl, Nat.zero_le, Classical.not_not, Nat.zero_add, lc_ge, lc_gt, lc_le, lc_lt, lc_eq, mup_same, mu_ng, mu_ni, ne_eq, not_false_eq_true, Int.reduceEq, false_and, and_false, false_or, or_false, true_or, or_true, i10, i11, Int.reduceMul, Int.reduceAdd, Int.reduceSub, Int.mul_one, not_true_eq_false, false_implies, true_implies, implies_true, i01, i02]); (try (simp (disch := omega) only [w32_of, w64_of]))) | (refine And.intro ?_ ?_) | (refine (fun _ => ?_ : _ → _)) | (simp (disch := omega) only [w32_of, w64_of]))
      all_goals (first | rfl | omega | (exfalso; omega) | decide | (simp only [or_true, true_or]; done) | (split <;> first | rfl | (exfalso; omega) | (split <;> first | rfl | (exfalso; omega) | (split <;> first | rfl | (exfalso; omega)))) | skip)
    · obtain ⟨e1, e2⟩ := sv_r (T := T) (k := 1) (s2 := 4) (D := rqs T t) c0 (by decide)
      rw [e, e2] at h
      rw [e, e1, e2, c0]
      repeat' (first | ((first | refine Wq_i (i := 0) rfl (b_44_0 ?_) | refine Wq_i (i := 20) rfl (b_44_20 ?_) | refine Wq_i (i := 36) rfl (b_44_36 ?_) | refine Wq_i (i := 41) rfl (b_44_41 ?_) | refine call_f2 (n := 51) rfl (R_isTask _ _) ?_ | refine call_f2 (n := 52) rfl (R_requestsOf _ _) ?_ | refine call_f2 (n := 49) rfl (R_rf _ _ _ he (by omega) (by omega)) ?_ | refine call_f2 (n := 55) rfl (R_settled _ _ h) ?_); (try simp only [wx_iconst, wx_ldc2, wx_iload, wx_lload, wx_aload, wx_istore, wx_lstore, wx_astore, wx_iinc, wx_iadd, wx_isub, wx_imul, wx_iand, wx_ior, wx_ixor, wx_ishl, wx_ishr, wx_iushr, wx_irem, wx_ineg, wx_ladd, wx_land, wx_lor, wx_lrem, wx_lneg, wx_lshl, wx_lushr, wx_lcmp, wx_i2l, wx_l2i, wx_i2b, wx_i2c, wx_dupI, wx_popI, wx_dupR, wx_popR, wx_dup2, wx_icmp_eq, wx_if_eq, wx_icmp_ne, wx_if_ne, wx_icmp_lt, wx_if_lt, wx_icmp_ge, wx_if_ge, wx_icmp_gt, wx_if_gt, wx_icmp_le, wx_if_le, wx_acmp_eq, wx_acmp_ne, wx_goto, wx_tsw, wx_lsw, wx_getf, wx_putf, wx_iald, wx_bald, wx_cald, wx_lald, wx_aald1, wx_aald2, wx_iast, wx_bast, wx_cast, wx_last, wx_alen, wx_gets, wx_invV, wx_invS, wx_ret0, wx_ret1, wx_lret, wx_aret, wx_vret, wl_nil, wl_cons, li_0, li_s, lr_0, lr_s, ll_0, ll_s, pp_0, pp_s, rc_mk, rp_n, rp_s, fp_0, fp_1, fp_2, fg_0, fg_1, fg_2, fg_3, wcallV, wcall, List.set_cons_zero, List.set_cons_succ, Nat.reduceDiv, Nat.reduceMod, Nat.reduceAdd, Nat.reduceSub, Nat.reduceEqDiff, Int.reduceToNat, Int.reduceNatCast', gk, inr, gl, true_and, and_true, Int.zero_add, Int.add_zero, List.length_cons, List.length_nil, Nat.reduceLeDiff, Nat.reduceLT, Nat.le_refl, Nat.zero_le, Classical.not_not, Nat.zero_add, lc_ge, lc_gt, lc_le, lc_lt, lc_eq, mup_same, mu_ng, mu_ni, ne_eq, not_false_eq_true, Int.reduceEq, false_and, and_false, false_or, or_false, true_or, or_true, i10, i11, Int.reduceMul, Int.reduceAdd, Int.reduceSub, Int.mul_one, not_true_eq_false, false_implies, true_implies, implies_true, i01, i02]); (try (simp (disch := omega) only [w32_of, w64_of]))) | (refine And.intro ?_ ?_) | (refine (fun _ => ?_ : _ → _)) | (simp (disch := omega) only [w32_of, w64_of]))
      all_goals (first | rfl | omega | (exfalso; omega) | decide | (simp only [or_true, true_or]; done) | (split <;> first | rfl | (exfalso; omega) | (split <;> first | rfl | (exfalso; omega) | (split <;> first | rfl | (exfalso; omega)))) | skip)
    · obtain ⟨e1, e2⟩ := sv_d (T := T) (k := 1) (s2 := 0) (D := rqs T t) c0 rfl
      have c2 := hf e
      rw [e, e2] at h
      rw [e, e1, e2, c0]
      repeat' (first | ((first | refine Wq_i (i := 0) rfl (b_44_0 ?_) | refine Wq_i (i := 20) rfl (b_44_20 ?_) | refine Wq_i (i := 36) rfl (b_44_36 ?_) | refine Wq_i (i := 41) rfl (b_44_41 ?_) | refine call_f2 (n := 51) rfl (R_isTask _ _) ?_ | refine call_f2 (n := 52) rfl (R_requestsOf _ _) ?_ | refine call_f2 (n := 53) rfl (R_requests _ _ (by omega) c2 he.2.2.2.1) ?_ | refine call_f2 (n := 55) rfl (R_settled _ _ h) ?_); (try simp only [wx_iconst, wx_ldc2, wx_iload, wx_lload, wx_aload, wx_istore, wx_lstore, wx_astore, wx_iinc, wx_iadd, wx_isub, wx_imul, wx_iand, wx_ior, wx_ixor, wx_ishl, wx_ishr, wx_iushr, wx_irem, wx_ineg, wx_ladd, wx_land, wx_lor, wx_lrem, wx_lneg, wx_lshl, wx_lushr, wx_lcmp, wx_i2l, wx_l2i, wx_i2b, wx_i2c, wx_dupI, wx_popI, wx_dupR, wx_popR, wx_dup2, wx_icmp_eq, wx_if_eq, wx_icmp_ne, wx_if_ne, wx_icmp_lt, wx_if_lt, wx_icmp_ge, wx_if_ge, wx_icmp_gt, wx_if_gt, wx_icmp_le, wx_if_le, wx_acmp_eq, wx_acmp_ne, wx_goto, wx_tsw, wx_lsw, wx_getf, wx_putf, wx_iald, wx_bald, wx_cald, wx_lald, wx_aald1, wx_aald2, wx_iast, wx_bast, wx_cast, wx_last, wx_alen, wx_gets, wx_invV, wx_invS, wx_ret0, wx_ret1, wx_lret, wx_aret, wx_vret, wl_nil, wl_cons, li_0, li_s, lr_0, lr_s, ll_0, ll_s, pp_0, pp_s, rc_mk, rp_n, rp_s, fp_0, fp_1, fp_2, fg_0, fg_1, fg_2, fg_3, wcallV, wcall, List.set_cons_zero, List.set_cons_succ, Nat.reduceDiv, Nat.reduceMod, Nat.reduceAdd, Nat.reduceSub, Nat.reduceEqDiff, Int.reduceToNat, Int.reduceNatCast', gk, inr, gl, true_and, and_true, Int.zero_add, Int.add_zero, List.length_cons, List.length_nil, Nat.reduceLeDiff, Nat.reduceLT, Nat.le_refl, Nat.zero_le, Classical.not_not, Nat.zero_add, lc_ge, lc_gt, lc_le, lc_lt, lc_eq, mup_same, mu_ng, mu_ni, ne_eq, not_false_eq_true, Int.reduceEq, false_and, and_false, false_or, or_false, true_or, or_true, i10, i11, Int.reduceMul, Int.reduceAdd, Int.reduceSub, Int.mul_one, not_true_eq_false, false_implies, true_implies, implies_true, i01, i02]); (try (simp (disch := omega) only [w32_of, w64_of]))) | (refine And.intro ?_ ?_) | (refine (fun _ => ?_ : _ → _)) | (simp (disch := omega) only [w32_of, w64_of]))
      all_goals (first | rfl | omega | (exfalso; omega) | decide | (simp only [or_true, true_or]; done) | (split <;> first | rfl | (exfalso; omega) | (split <;> first | rfl | (exfalso; omega) | (split <;> first | rfl | (exfalso; omega)))) | skip)
  · obtain ⟨e1, e2⟩ := sv_x (T := T) (k := 1) (s2 := act2 T t) (D := rqs T t) c0
    rw [e2] at h
    rw [e1, e2]
    repeat' (first | ((first | refine Wq_i (i := 0) rfl (b_44_0 ?_) | refine Wq_i (i := 20) rfl (b_44_20 ?_) | refine Wq_i (i := 36) rfl (b_44_36 ?_) | refine Wq_i (i := 41) rfl (b_44_41 ?_) | refine call_f2 (n := 55) rfl (R_settled _ _ h) ?_); (try simp only [wx_iconst, wx_ldc2, wx_iload, wx_lload, wx_aload, wx_istore, wx_lstore, wx_astore, wx_iinc, wx_iadd, wx_isub, wx_imul, wx_iand, wx_ior, wx_ixor, wx_ishl, wx_ishr, wx_iushr, wx_irem, wx_ineg, wx_ladd, wx_land, wx_lor, wx_lrem, wx_lneg, wx_lshl, wx_lushr, wx_lcmp, wx_i2l, wx_l2i, wx_i2b, wx_i2c, wx_dupI, wx_popI, wx_dupR, wx_popR, wx_dup2, wx_icmp_eq, wx_if_eq, wx_icmp_ne, wx_if_ne, wx_icmp_lt, wx_if_lt, wx_icmp_ge, wx_if_ge, wx_icmp_gt, wx_if_gt, wx_icmp_le, wx_if_le, wx_acmp_eq, wx_acmp_ne, wx_goto, wx_tsw, wx_lsw, wx_getf, wx_putf, wx_iald, wx_bald, wx_cald, wx_lald, wx_aald1, wx_aald2, wx_iast, wx_bast, wx_cast, wx_last, wx_alen, wx_gets, wx_invV, wx_invS, wx_ret0, wx_ret1, wx_lret, wx_aret, wx_vret, wl_nil, wl_cons, li_0, li_s, lr_0, lr_s, ll_0, ll_s, pp_0, pp_s, rc_mk, rp_n, rp_s, fp_0, fp_1, fp_2, fg_0, fg_1, fg_2, fg_3, wcallV, wcall, List.set_cons_zero, List.set_cons_succ, Nat.reduceDiv, Nat.reduceMod, Nat.reduceAdd, Nat.reduceSub, Nat.reduceEqDiff, Int.reduceToNat, Int.reduceNatCast', gk, inr, gl, true_and, and_true, Int.zero_add, Int.add_zero, List.length_cons, List.length_nil, Nat.reduceLeDiff, Nat.reduceLT, Nat.le_refl, Nat.zero_le, Classical.not_not, Nat.zero_add, lc_ge, lc_gt, lc_le, lc_lt, lc_eq, mup_same, mu_ng, mu_ni, ne_eq, not_false_eq_true, Int.reduceEq, false_and, and_false, false_or, or_false, true_or, or_true, i10, i11, Int.reduceMul, Int.reduceAdd, Int.reduceSub, Int.mul_one, not_true_eq_false, false_implies, true_implies, implies_true, i01, i02]); (try (simp (disch := omega) only [w32_of, w64_of]))) | (refine And.intro ?_ ?_) | (refine (fun _ => ?_ : _ → _)) | (simp (disch := omega) only [w32_of, w64_of]))
    all_goals (first | rfl | omega | (exfalso; omega) | decide | (simp only [or_true, true_or]; done) | (split <;> first | rfl | (exfalso; omega) | (split <;> first | rfl | (exfalso; omega) | (split <;> first | rfl | (exfalso; omega)))) | skip)
