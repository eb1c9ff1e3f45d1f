/-! ===== the class's Tokens: readOne and read ===== -/
def ro1 (b : Int → Int) (n k : Int) : Int := if b k = 32 ∨ b k = 10 then k + 1 else if b k = 35 then ru (pCm b n) k else tkE b k
/-- a token is read at p -/
def ctn (X : AMem) (b : Int → Int) (n p : Int) : AMem := if n ≤ p then cad2 X 1 n else if isLe (b p) then crn X b p (ru (pNm b) p) else if isDi (b p) then cdn X b p (ru (pDi b) p) else cad2 X (if b p = 44 then 2 else 0) p
def rom (X : AMem) (b : Int → Int) (n k : Int) : AMem := if b k = 32 ∨ b k = 10 ∨ b k = 35 then X else ctn X b n k
theorem R_T_readOne (k n : Int) (M : AMem) (hk : 0 ≤ k ∧ k < n) (hn : n ≤ 4000) (hs : 0 ≤ (M 2 0 5) ∧ (M 2 0 5) ≤ 4000) : Runs 124 [aR 2 0, aR 8193300 0, aI k, aI n] M (fun r M' => r = some (aI (ro1 (cby M n) n k)) ∧ M' = rom M (cby M n) n k) := by
  have ek : cby M n k = (M 8193300 0 (k)) := if_pos hk.2
  unfold ro1 rom ctn tkE
  rw [if_neg (show ¬ n ≤ k by omega)]
  rw [ek]
  generalize hc : (M 8193300 0 (k)) = c
  by_cases c1 : c = 32 ∨ c = 10
  · rw [if_pos c1, if_pos (c1.elim Or.inl (fun z => Or.inr (Or.inl z)))]
    refine Runs.go2 (cd := cd_124) _ (by decide) (by decide) ck_124 rfl (Nat.le_of_ble_eq_true rfl) (show _ = ([some (aR 2 0), some (aR 8193300 0), some (aI k), some (aI n), none] : Lc) from rfl) (fun ho hM => ?_)
    repeat' (first | ((first | refine Wq_i (i := 0) rfl (b_124_0 ?_) | refine Wq_i (i := 10) rfl (b_124_10 ?_) | refine Wq_i (i := 14) rfl (b_124_14 ?_) | refine Wq_i (i := 22) rfl (b_124_22 ?_) | refine Wq_i (i := 31) rfl (b_124_31 ?_) | refine Wq_i (i := 40) rfl (b_124_40 ?_) | refine Wq_i (i := 46) rfl (b_124_46 ?_) | refine Wq_i (i := 47) rfl (b_124_47 ?_)); (try simp only [wx_iconst, wx_ldc2, wx_iload, wx_lload, wx_aload, wx_istore, wx_lstore, wx_astore, wx_iinc, wx_iadd, wx_isub, wx_imul, wx_iand, wx_ior, wx_ixor, wx_ishl, wx_ishr, wx_iushr, wx_irem, wx_ineg, wx_ladd, wx_land, wx_lor, wx_lrem, wx_lneg, wx_lshl, wx_lushr, wx_lcmp, wx_i2l, wx_l2i, wx_i2b, wx_i2c, wx_dupI, wx_popI, wx_dupR, wx_popR, wx_dup2, wx_icmp_eq, wx_if_eq, wx_icmp_ne, wx_if_ne, wx_icmp_lt, wx_if_lt, wx_icmp_ge, wx_if_ge, wx_icmp_gt, wx_if_gt, wx_icmp_le, wx_if_le, wx_acmp_eq, wx_acmp_ne, wx_goto, wx_tsw, wx_lsw, wx_getf, wx_putf, wx_iald, wx_bald, wx_cald, wx_lald, wx_aald1, wx_aald2, wx_iast, wx_bast, wx_cast, wx_last, wx_alen, wx_gets, wx_invV, wx_ord12, wx_ord13, wx_word, wx_want, wx_slen, wx_schr, wx_invS, wx_ret0, wx_ret1, wx_lret, wx_aret, wx_vret, wl_nil, wl_cons, li_0, li_s, lr_0, lr_s, ll_0, ll_s, pp_0, pp_s, rc_mk, rp_n, rp_s, fp_0, fp_1, fp_2, fg_0, fg_1, fg_2, fg_3, wcallV, wcall, List.set_cons_zero, List.set_cons_succ, Nat.reduceDiv, Nat.reduceMod, Nat.reduceAdd, Nat.reduceSub, Nat.reduceEqDiff, Int.reduceToNat, Int.reduceNatCast', gk, inr, gl, true_and, and_true, Int.zero_add, Int.add_zero, List.length_cons, List.length_nil, Nat.reduceLeDiff, Nat.reduceLT, Nat.le_refl, Nat.zero_le, Classical.not_not, Nat.zero_add, lc_ge, lc_gt, lc_le, lc_lt, lc_eq, mup_same, mu_ng, mu_ni, ne_eq, not_false_eq_true, Int.reduceEq, false_and, and_false, false_or, or_false, true_or, or_true, i10, i11, Int.reduceMul, Int.reduceAdd, Int.reduceSub, Int.mul_one, not_true_eq_false, false_implies, true_implies, implies_true, i01, i02, wx_a39, wx_a40, wx_a41, wx_a42, wx_a35, wx_a37, wx_a21, wx_a26, wx_aK, wx_s21, wx_s26, wx_ldcs, hc]); (try (simp (disch := omega) only [w32_of, w64_of]))) | (refine And.intro ?_ ?_) | (refine (fun _ => ?_ : _ → _)) | (simp (disch := omega) only [w32_of, w64_of]))
    all_goals (first | rfl | omega | (refine congrArg (fun z : Int => some (aI z)) ?_; omega) | (exact absurd True.intro (by assumption)) | (exfalso; omega) | decide | (simp only [or_true, true_or]; done) | (split <;> first | rfl | (exfalso; omega) | (split <;> first | rfl | (exfalso; omega) | (split <;> first | rfl | (exfalso; omega)))) | skip)
    all_goals (first | (exfalso; (try simp (disch := omega) only [w32_of, w64_of] at *); first | omega | contradiction) | skip)
  · rw [if_neg c1]
    by_cases c2 : c = 35
    · rw [if_pos c2, if_pos (Or.inr (Or.inr c2))]
      refine Runs.go2 (cd := cd_124) _ (by decide) (by decide) ck_124 rfl (Nat.le_of_ble_eq_true rfl) (show _ = ([some (aR 2 0), some (aR 8193300 0), some (aI k), some (aI n), none] : Lc) from rfl) (fun ho hM => ?_)
      repeat' (first | ((first | refine Wq_i (i := 0) rfl (b_124_0 ?_) | refine Wq_i (i := 10) rfl (b_124_10 ?_) | refine Wq_i (i := 14) rfl (b_124_14 ?_) | refine Wq_i (i := 22) rfl (b_124_22 ?_) | refine Wq_i (i := 31) rfl (b_124_31 ?_) | refine Wq_i (i := 40) rfl (b_124_40 ?_) | refine Wq_i (i := 46) rfl (b_124_46 ?_) | refine Wq_i (i := 47) rfl (b_124_47 ?_) | refine call_f2 (n := 125) rfl (R_T_endOfNote _ _ _ hk.1 (by omega) (by omega)) ?_); (try simp only [wx_iconst, wx_ldc2, wx_iload, wx_lload, wx_aload, wx_istore, wx_lstore, wx_astore, wx_iinc, wx_iadd, wx_isub, wx_imul, wx_iand, wx_ior, wx_ixor, wx_ishl, wx_ishr, wx_iushr, wx_irem, wx_ineg, wx_ladd, wx_land, wx_lor, wx_lrem, wx_lneg, wx_lshl, wx_lushr, wx_lcmp, wx_i2l, wx_l2i, wx_i2b, wx_i2c, wx_dupI, wx_popI, wx_dupR, wx_popR, wx_dup2, wx_icmp_eq, wx_if_eq, wx_icmp_ne, wx_if_ne, wx_icmp_lt, wx_if_lt, wx_icmp_ge, wx_if_ge, wx_icmp_gt, wx_if_gt, wx_icmp_le, wx_if_le, wx_acmp_eq, wx_acmp_ne, wx_goto, wx_tsw, wx_lsw, wx_getf, wx_putf, wx_iald, wx_bald, wx_cald, wx_lald, wx_aald1, wx_aald2, wx_iast, wx_bast, wx_cast, wx_last, wx_alen, wx_gets, wx_invV, wx_ord12, wx_ord13, wx_word, wx_want, wx_slen, wx_schr, wx_invS, wx_ret0, wx_ret1, wx_lret, wx_aret, wx_vret, wl_nil, wl_cons, li_0, li_s, lr_0, lr_s, ll_0, ll_s, pp_0, pp_s, rc_mk, rp_n, rp_s, fp_0, fp_1, fp_2, fg_0, fg_1, fg_2, fg_3, wcallV, wcall, List.set_cons_zero, List.set_cons_succ, Nat.reduceDiv, Nat.reduceMod, Nat.reduceAdd, Nat.reduceSub, Nat.reduceEqDiff, Int.reduceToNat, Int.reduceNatCast', gk, inr, gl, true_and, and_true, Int.zero_add, Int.add_zero, List.length_cons, List.length_nil, Nat.reduceLeDiff, Nat.reduceLT, Nat.le_refl, Nat.zero_le, Classical.not_not, Nat.zero_add, lc_ge, lc_gt, lc_le, lc_lt, lc_eq, mup_same, mu_ng, mu_ni, ne_eq, not_false_eq_true, Int.reduceEq, false_and, and_false, false_or, or_false, true_or, or_true, i10, i11, Int.reduceMul, Int.reduceAdd, Int.reduceSub, Int.mul_one, not_true_eq_false, false_implies, true_implies, implies_true, i01, i02, wx_a39, wx_a40, wx_a41, wx_a42, wx_a35, wx_a37, wx_a21, wx_a26, wx_aK, wx_s21, wx_s26, wx_ldcs, hc]); (try (simp (disch := omega) only [w32_of, w64_of]))) | (refine And.intro ?_ ?_) | (refine (fun _ => ?_ : _ → _)) | (simp (disch := omega) only [w32_of, w64_of]))
      all_goals (first | rfl | omega | (refine congrArg (fun z : Int => some (aI z)) ?_; omega) | (exact absurd True.intro (by assumption)) | (exfalso; omega) | decide | (simp only [or_true, true_or]; done) | (split <;> first | rfl | (exfalso; omega) | (split <;> first | rfl | (exfalso; omega) | (split <;> first | rfl | (exfalso; omega)))) | skip)
      all_goals (first | (exfalso; (try simp (disch := omega) only [w32_of, w64_of] at *); first | omega | contradiction) | skip)
    · have c6 : ¬ (c = 32 ∨ c = 10 ∨ c = 35) := by omega
      rw [if_neg c2, if_neg c6]
      by_cases c3 : isLe c
      · rw [if_pos c3, if_pos c3]
        refine Runs.go2 (cd := cd_124) _ (by decide) (by decide) ck_124 rfl (Nat.le_of_ble_eq_true rfl) (show _ = ([some (aR 2 0), some (aR 8193300 0), some (aI k), some (aI n), none] : Lc) from rfl) (fun ho hM => ?_)
        repeat' (first | ((first | refine Wq_i (i := 0) rfl (b_124_0 ?_) | refine Wq_i (i := 10) rfl (b_124_10 ?_) | refine Wq_i (i := 14) rfl (b_124_14 ?_) | refine Wq_i (i := 22) rfl (b_124_22 ?_) | refine Wq_i (i := 31) rfl (b_124_31 ?_) | refine Wq_i (i := 40) rfl (b_124_40 ?_) | refine Wq_i (i := 46) rfl (b_124_46 ?_) | refine Wq_i (i := 47) rfl (b_124_47 ?_) | refine call_f2 (n := 126) rfl (R_T_isLetter _ _) ?_ | refine call_f2 (n := 127) rfl (R_T_readName _ _ _ (by omega) hn hs) ?_); (try simp only [wx_iconst, wx_ldc2, wx_iload, wx_lload, wx_aload, wx_istore, wx_lstore, wx_astore, wx_iinc, wx_iadd, wx_isub, wx_imul, wx_iand, wx_ior, wx_ixor, wx_ishl, wx_ishr, wx_iushr, wx_irem, wx_ineg, wx_ladd, wx_land, wx_lor, wx_lrem, wx_lneg, wx_lshl, wx_lushr, wx_lcmp, wx_i2l, wx_l2i, wx_i2b, wx_i2c, wx_dupI, wx_popI, wx_dupR, wx_popR, wx_dup2, wx_icmp_eq, wx_if_eq, wx_icmp_ne, wx_if_ne, wx_icmp_lt, wx_if_lt, wx_icmp_ge, wx_if_ge, wx_icmp_gt, wx_if_gt, wx_icmp_le, wx_if_le, wx_acmp_eq, wx_acmp_ne, wx_goto, wx_tsw, wx_lsw, wx_getf, wx_putf, wx_iald, wx_bald, wx_cald, wx_lald, wx_aald1, wx_aald2, wx_iast, wx_bast, wx_cast, wx_last, wx_alen, wx_gets, wx_invV, wx_ord12, wx_ord13, wx_word, wx_want, wx_slen, wx_schr, wx_invS, wx_ret0, wx_ret1, wx_lret, wx_aret, wx_vret, wl_nil, wl_cons, li_0, li_s, lr_0, lr_s, ll_0, ll_s, pp_0, pp_s, rc_mk, rp_n, rp_s, fp_0, fp_1, fp_2, fg_0, fg_1, fg_2, fg_3, wcallV, wcall, List.set_cons_zero, List.set_cons_succ, Nat.reduceDiv, Nat.reduceMod, Nat.reduceAdd, Nat.reduceSub, Nat.reduceEqDiff, Int.reduceToNat, Int.reduceNatCast', gk, inr, gl, true_and, and_true, Int.zero_add, Int.add_zero, List.length_cons, List.length_nil, Nat.reduceLeDiff, Nat.reduceLT, Nat.le_refl, Nat.zero_le, Classical.not_not, Nat.zero_add, lc_ge, lc_gt, lc_le, lc_lt, lc_eq, mup_same, mu_ng, mu_ni, ne_eq, not_false_eq_true, Int.reduceEq, false_and, and_false, false_or, or_false, true_or, or_true, i10, i11, Int.reduceMul, Int.reduceAdd, Int.reduceSub, Int.mul_one, not_true_eq_false, false_implies, true_implies, implies_true, i01, i02, wx_a39, wx_a40, wx_a41, wx_a42, wx_a35, wx_a37, wx_a21, wx_a26, wx_aK, wx_s21, wx_s26, wx_ldcs, hc, if_pos c3]); (try (simp (disch := omega) only [w32_of, w64_of]))) | (refine And.intro ?_ ?_) | (refine (fun _ => ?_ : _ → _)) | (simp (disch := omega) only [w32_of, w64_of]))
        all_goals (first | rfl | omega | (refine congrArg (fun z : Int => some (aI z)) ?_; omega) | (exact absurd True.intro (by assumption)) | (exfalso; omega) | decide | (simp only [or_true, true_or]; done) | (split <;> first | rfl | (exfalso; omega) | (split <;> first | rfl | (exfalso; omega) | (split <;> first | rfl | (exfalso; omega)))) | skip)
        all_goals (first | (exfalso; (try simp (disch := omega) only [w32_of, w64_of] at *); first | omega | contradiction) | skip)
      · rw [if_neg c3, if_neg c3]
        by_cases c4 : isDi c
        · rw [if_pos c4, if_pos c4]
          refine Runs.go2 (cd := cd_124) _ (by decide) (by decide) ck_124 rfl (Nat.le_of_ble_eq_true rfl) (show _ = ([some (aR 2 0), some (aR 8193300 0), some (aI k), some (aI n), none] : Lc) from rfl) (fun ho hM => ?_)
          repeat' (first | ((first | refine Wq_i (i := 0) rfl (b_124_0 ?_) | refine Wq_i (i := 10) rfl (b_124_10 ?_) | refine Wq_i (i := 14) rfl (b_124_14 ?_) | refine Wq_i (i := 22) rfl (b_124_22 ?_) | refine Wq_i (i := 31) rfl (b_124_31 ?_) | refine Wq_i (i := 40) rfl (b_124_40 ?_) | refine Wq_i (i := 46) rfl (b_124_46 ?_) | refine Wq_i (i := 47) rfl (b_124_47 ?_) | refine call_f2 (n := 126) rfl (R_T_isLetter _ _) ?_ | refine call_f2 (n := 129) rfl (R_T_isDigit _ _) ?_ | refine call_f2 (n := 134) rfl (R_T_readNumber _ _ _ (by omega) hn hs) ?_); (try simp only [wx_iconst, wx_ldc2, wx_iload, wx_lload, wx_aload, wx_istore, wx_lstore, wx_astore, wx_iinc, wx_iadd, wx_isub, wx_imul, wx_iand, wx_ior, wx_ixor, wx_ishl, wx_ishr, wx_iushr, wx_irem, wx_ineg, wx_ladd, wx_land, wx_lor, wx_lrem, wx_lneg, wx_lshl, wx_lushr, wx_lcmp, wx_i2l, wx_l2i, wx_i2b, wx_i2c, wx_dupI, wx_popI, wx_dupR, wx_popR, wx_dup2, wx_icmp_eq, wx_if_eq, wx_icmp_ne, wx_if_ne, wx_icmp_lt, wx_if_lt, wx_icmp_ge, wx_if_ge, wx_icmp_gt, wx_if_gt, wx_icmp_le, wx_if_le, wx_acmp_eq, wx_acmp_ne, wx_goto, wx_tsw, wx_lsw, wx_getf, wx_putf, wx_iald, wx_bald, wx_cald, wx_lald, wx_aald1, wx_aald2, wx_iast, wx_bast, wx_cast, wx_last, wx_alen, wx_gets, wx_invV, wx_ord12, wx_ord13, wx_word, wx_want, wx_slen, wx_schr, wx_invS, wx_ret0, wx_ret1, wx_lret, wx_aret, wx_vret, wl_nil, wl_cons, li_0, li_s, lr_0, lr_s, ll_0, ll_s, pp_0, pp_s, rc_mk, rp_n, rp_s, fp_0, fp_1, fp_2, fg_0, fg_1, fg_2, fg_3, wcallV, wcall, List.set_cons_zero, List.set_cons_succ, Nat.reduceDiv, Nat.reduceMod, Nat.reduceAdd, Nat.reduceSub, Nat.reduceEqDiff, Int.reduceToNat, Int.reduceNatCast', gk, inr, gl, true_and, and_true, Int.zero_add, Int.add_zero, List.length_cons, List.length_nil, Nat.reduceLeDiff, Nat.reduceLT, Nat.le_refl, Nat.zero_le, Classical.not_not, Nat.zero_add, lc_ge, lc_gt, lc_le, lc_lt, lc_eq, mup_same, mu_ng, mu_ni, ne_eq, not_false_eq_true, Int.reduceEq, false_and, and_false, false_or, or_false, true_or, or_true, i10, i11, Int.reduceMul, Int.reduceAdd, Int.reduceSub, Int.mul_one, not_true_eq_false, false_implies, true_implies, implies_true, i01, i02, wx_a39, wx_a40, wx_a41, wx_a42, wx_a35, wx_a37, wx_a21, wx_a26, wx_aK, wx_s21, wx_s26, wx_ldcs, hc, if_neg c3, if_pos c4]); (try (simp (disch := omega) only [w32_of, w64_of]))) | (refine And.intro ?_ ?_) | (refine (fun _ => ?_ : _ → _)) | (simp (disch := omega) only [w32_of, w64_of]))
          all_goals (first | rfl | omega | (refine congrArg (fun z : Int => some (aI z)) ?_; omega) | (exact absurd True.intro (by assumption)) | (exfalso; omega) | decide | (simp only [or_true, true_or]; done) | (split <;> first | rfl | (exfalso; omega) | (split <;> first | rfl | (exfalso; omega) | (split <;> first | rfl | (exfalso; omega)))) | skip)
          all_goals (first | (exfalso; (try simp (disch := omega) only [w32_of, w64_of] at *); first | omega | contradiction) | skip)
        · rw [if_neg c4, if_neg c4]
          by_cases c5 : c = 44
          · rw [if_pos c5]
            refine Runs.go2 (cd := cd_124) _ (by decide) (by decide) ck_124 rfl (Nat.le_of_ble_eq_true rfl) (show _ = ([some (aR 2 0), some (aR 8193300 0), some (aI k), some (aI n), none] : Lc) from rfl) (fun ho hM => ?_)
            repeat' (first | ((first | refine Wq_i (i := 0) rfl (b_124_0 ?_) | refine Wq_i (i := 10) rfl (b_124_10 ?_) | refine Wq_i (i := 14) rfl (b_124_14 ?_) | refine Wq_i (i := 22) rfl (b_124_22 ?_) | refine Wq_i (i := 31) rfl (b_124_31 ?_) | refine Wq_i (i := 40) rfl (b_124_40 ?_) | refine Wq_i (i := 46) rfl (b_124_46 ?_) | refine Wq_i (i := 47) rfl (b_124_47 ?_) | refine call_f2 (n := 126) rfl (R_T_isLetter _ _) ?_ | refine call_f2 (n := 129) rfl (R_T_isDigit _ _) ?_ | refine call_f2 (n := 130) rfl (R_T_add _ _ _ hs) ?_); (try simp only [wx_iconst, wx_ldc2, wx_iload, wx_lload, wx_aload, wx_istore, wx_lstore, wx_astore, wx_iinc, wx_iadd, wx_isub, wx_imul, wx_iand, wx_ior, wx_ixor, wx_ishl, wx_ishr, wx_iushr, wx_irem, wx_ineg, wx_ladd, wx_land, wx_lor, wx_lrem, wx_lneg, wx_lshl, wx_lushr, wx_lcmp, wx_i2l, wx_l2i, wx_i2b, wx_i2c, wx_dupI, wx_popI, wx_dupR, wx_popR, wx_dup2, wx_icmp_eq, wx_if_eq, wx_icmp_ne, wx_if_ne, wx_icmp_lt, wx_if_lt, wx_icmp_ge, wx_if_ge, wx_icmp_gt, wx_if_gt, wx_icmp_le, wx_if_le, wx_acmp_eq, wx_acmp_ne, wx_goto, wx_tsw, wx_lsw, wx_getf, wx_putf, wx_iald, wx_bald, wx_cald, wx_lald, wx_aald1, wx_aald2, wx_iast, wx_bast, wx_cast, wx_last, wx_alen, wx_gets, wx_invV, wx_ord12, wx_ord13, wx_word, wx_want, wx_slen, wx_schr, wx_invS, wx_ret0, wx_ret1, wx_lret, wx_aret, wx_vret, wl_nil, wl_cons, li_0, li_s, lr_0, lr_s, ll_0, ll_s, pp_0, pp_s, rc_mk, rp_n, rp_s, fp_0, fp_1, fp_2, fg_0, fg_1, fg_2, fg_3, wcallV, wcall, List.set_cons_zero, List.set_cons_succ, Nat.reduceDiv, Nat.reduceMod, Nat.reduceAdd, Nat.reduceSub, Nat.reduceEqDiff, Int.reduceToNat, Int.reduceNatCast', gk, inr, gl, true_and, and_true, Int.zero_add, Int.add_zero, List.length_cons, List.length_nil, Nat.reduceLeDiff, Nat.reduceLT, Nat.le_refl, Nat.zero_le, Classical.not_not, Nat.zero_add, lc_ge, lc_gt, lc_le, lc_lt, lc_eq, mup_same, mu_ng, mu_ni, ne_eq, not_false_eq_true, Int.reduceEq, false_and, and_false, false_or, or_false, true_or, or_true, i10, i11, Int.reduceMul, Int.reduceAdd, Int.reduceSub, Int.mul_one, not_true_eq_false, false_implies, true_implies, implies_true, i01, i02, wx_a39, wx_a40, wx_a41, wx_a42, wx_a35, wx_a37, wx_a21, wx_a26, wx_aK, wx_s21, wx_s26, wx_ldcs, hc, if_neg c3, if_neg c4]); (try (simp (disch := omega) only [w32_of, w64_of]))) | (refine And.intro ?_ ?_) | (refine (fun _ => ?_ : _ → _)) | (simp (disch := omega) only [w32_of, w64_of]))
            all_goals (first | rfl | omega | (refine congrArg (fun z : Int => some (aI z)) ?_; omega) | (exact absurd True.intro (by assumption)) | (exfalso; omega) | decide | (simp only [or_true, true_or]; done) | (split <;> first | rfl | (exfalso; omega) | (split <;> first | rfl | (exfalso; omega) | (split <;> first | rfl | (exfalso; omega)))) | skip)
            all_goals (first | (exfalso; (try simp (disch := omega) only [w32_of, w64_of] at *); first | omega | contradiction) | skip)
          · rw [if_neg c5]
            refine Runs.go2 (cd := cd_124) _ (by decide) (by decide) ck_124 rfl (Nat.le_of_ble_eq_true rfl) (show _ = ([some (aR 2 0), some (aR 8193300 0), some (aI k), some (aI n), none] : Lc) from rfl) (fun ho hM => ?_)
            repeat' (first | ((first | refine Wq_i (i := 0) rfl (b_124_0 ?_) | refine Wq_i (i := 10) rfl (b_124_10 ?_) | refine Wq_i (i := 14) rfl (b_124_14 ?_) | refine Wq_i (i := 22) rfl (b_124_22 ?_) | refine Wq_i (i := 31) rfl (b_124_31 ?_) | refine Wq_i (i := 40) rfl (b_124_40 ?_) | refine Wq_i (i := 46) rfl (b_124_46 ?_) | refine Wq_i (i := 47) rfl (b_124_47 ?_) | refine call_f2 (n := 126) rfl (R_T_isLetter _ _) ?_ | refine call_f2 (n := 129) rfl (R_T_isDigit _ _) ?_ | refine call_f2 (n := 130) rfl (R_T_add _ _ _ hs) ?_); (try simp only [wx_iconst, wx_ldc2, wx_iload, wx_lload, wx_aload, wx_istore, wx_lstore, wx_astore, wx_iinc, wx_iadd, wx_isub, wx_imul, wx_iand, wx_ior, wx_ixor, wx_ishl, wx_ishr, wx_iushr, wx_irem, wx_ineg, wx_ladd, wx_land, wx_lor, wx_lrem, wx_lneg, wx_lshl, wx_lushr, wx_lcmp, wx_i2l, wx_l2i, wx_i2b, wx_i2c, wx_dupI, wx_popI, wx_dupR, wx_popR, wx_dup2, wx_icmp_eq, wx_if_eq, wx_icmp_ne, wx_if_ne, wx_icmp_lt, wx_if_lt, wx_icmp_ge, wx_if_ge, wx_icmp_gt, wx_if_gt, wx_icmp_le, wx_if_le, wx_acmp_eq, wx_acmp_ne, wx_goto, wx_tsw, wx_lsw, wx_getf, wx_putf, wx_iald, wx_bald, wx_cald, wx_lald, wx_aald1, wx_aald2, wx_iast, wx_bast, wx_cast, wx_last, wx_alen, wx_gets, wx_invV, wx_ord12, wx_ord13, wx_word, wx_want, wx_slen, wx_schr, wx_invS, wx_ret0, wx_ret1, wx_lret, wx_aret, wx_vret, wl_nil, wl_cons, li_0, li_s, lr_0, lr_s, ll_0, ll_s, pp_0, pp_s, rc_mk, rp_n, rp_s, fp_0, fp_1, fp_2, fg_0, fg_1, fg_2, fg_3, wcallV, wcall, List.set_cons_zero, List.set_cons_succ, Nat.reduceDiv, Nat.reduceMod, Nat.reduceAdd, Nat.reduceSub, Nat.reduceEqDiff, Int.reduceToNat, Int.reduceNatCast', gk, inr, gl, true_and, and_true, Int.zero_add, Int.add_zero, List.length_cons, List.length_nil, Nat.reduceLeDiff, Nat.reduceLT, Nat.le_refl, Nat.zero_le, Classical.not_not, Nat.zero_add, lc_ge, lc_gt, lc_le, lc_lt, lc_eq, mup_same, mu_ng, mu_ni, ne_eq, not_false_eq_true, Int.reduceEq, false_and, and_false, false_or, or_false, true_or, or_true, i10, i11, Int.reduceMul, Int.reduceAdd, Int.reduceSub, Int.mul_one, not_true_eq_false, false_implies, true_implies, implies_true, i01, i02, wx_a39, wx_a40, wx_a41, wx_a42, wx_a35, wx_a37, wx_a21, wx_a26, wx_aK, wx_s21, wx_s26, wx_ldcs, hc, if_neg c3, if_neg c4]); (try (simp (disch := omega) only [w32_of, w64_of]))) | (refine And.intro ?_ ?_) | (refine (fun _ => ?_ : _ → _)) | (simp (disch := omega) only [w32_of, w64_of]))
            all_goals (first | rfl | omega | (refine congrArg (fun z : Int => some (aI z)) ?_; omega) | (exact absurd True.intro (by assumption)) | (exfalso; omega) | decide | (simp only [or_true, true_or]; done) | (split <;> first | rfl | (exfalso; omega) | (split <;> first | rfl | (exfalso; omega) | (split <;> first | rfl | (exfalso; omega)))) | skip)
            all_goals (first | (exfalso; (try simp (disch := omega) only [w32_of, w64_of] at *); first | omega | contradiction) | skip)
/-- the tokens that read has made -/
def ctk (M : AMem) (n : Int) : Nat → AMem
  | 0 => (mup M 2 0 5 (0))
  | j + 1 => ctn (ctk M n j) (cby M n) n (pos (cby M n) n j)
theorem ctn_l (X : AMem) (b : Int → Int) (n p m : Int) : ((ctn X b n p) 2 0 5) = (X 2 0 5) + 1 ∧ cby (ctn X b n p) m = cby X m ∧ ((ctn X b n p) 8194837 0 ((X 2 0 5))) = cko b n p ∧ ((ctn X b n p) 8194070 0 ((X 2 0 5))) = tkP n p := by
  unfold ctn cko tkP crn cdn cad2
  by_cases c0 : n ≤ p
  · rw [if_pos c0, if_pos c0, if_pos c0]
    refine ⟨?_, ?_, ?_, ?_⟩
    · simp only [mup_same, mu_ng, mu_ni, mu_xi, mu_xt, cq_fr, rn_fr, mrs_fr, inn_fr, cpr_fr, opr_fr, ldd_fr, own_fr, ne_eq, Nat.reduceEqDiff, not_false_eq_true, Int.reduceEq, ↓reduceIte]
    · rw [cby_g (by decide), cby_g (by decide), cby_g (by decide)]
    · simp only [mup_same, mu_ng, mu_ni, mu_xi, mu_xt, cq_fr, rn_fr, mrs_fr, inn_fr, cpr_fr, opr_fr, ldd_fr, own_fr, ne_eq, Nat.reduceEqDiff, not_false_eq_true, Int.reduceEq, ↓reduceIte]
    · simp only [mup_same, mu_ng, mu_ni, mu_xi, mu_xt, cq_fr, rn_fr, mrs_fr, inn_fr, cpr_fr, opr_fr, ldd_fr, own_fr, ne_eq, Nat.reduceEqDiff, not_false_eq_true, Int.reduceEq, ↓reduceIte]
  rw [if_neg c0, if_neg c0, if_neg c0]
  by_cases c1 : isLe (b p)
  · rw [if_pos c1, if_pos c1]
    by_cases c2 : ru (pNm b) p - p ≤ 12
    · rw [if_pos c2, if_pos c2]
      refine ⟨?_, ?_, ?_, ?_⟩
      · simp only [mup_same, mu_ng, mu_ni, mu_xi, mu_xt, cq_fr, rn_fr, mrs_fr, inn_fr, cpr_fr, opr_fr, ldd_fr, own_fr, ne_eq, Nat.reduceEqDiff, not_false_eq_true, Int.reduceEq, ↓reduceIte]
      · rw [cby_g (by decide), cby_g (by decide), cby_g (by decide), cby_g (by decide), cby_g (by decide)]
      · simp only [mup_same, mu_ng, mu_ni, mu_xi, mu_xt, cq_fr, rn_fr, mrs_fr, inn_fr, cpr_fr, opr_fr, ldd_fr, own_fr, ne_eq, Nat.reduceEqDiff, not_false_eq_true, Int.reduceEq, ↓reduceIte]
      · simp only [mup_same, mu_ng, mu_ni, mu_xi, mu_xt, cq_fr, rn_fr, mrs_fr, inn_fr, cpr_fr, opr_fr, ldd_fr, own_fr, ne_eq, Nat.reduceEqDiff, not_false_eq_true, Int.reduceEq, ↓reduceIte]
    · rw [if_neg c2, if_neg c2]
      refine ⟨?_, ?_, ?_, ?_⟩
      · simp only [mup_same, mu_ng, mu_ni, mu_xi, mu_xt, cq_fr, rn_fr, mrs_fr, inn_fr, cpr_fr, opr_fr, ldd_fr, own_fr, ne_eq, Nat.reduceEqDiff, not_false_eq_true, Int.reduceEq, ↓reduceIte]
      · rw [cby_g (by decide), cby_g (by decide), cby_g (by decide)]
      · simp only [mup_same, mu_ng, mu_ni, mu_xi, mu_xt, cq_fr, rn_fr, mrs_fr, inn_fr, cpr_fr, opr_fr, ldd_fr, own_fr, ne_eq, Nat.reduceEqDiff, not_false_eq_true, Int.reduceEq, ↓reduceIte]
      · simp only [mup_same, mu_ng, mu_ni, mu_xi, mu_xt, cq_fr, rn_fr, mrs_fr, inn_fr, cpr_fr, opr_fr, ldd_fr, own_fr, ne_eq, Nat.reduceEqDiff, not_false_eq_true, Int.reduceEq, ↓reduceIte]
  · rw [if_neg c1, if_neg c1]
    by_cases c2 : isDi (b p)
    · rw [if_pos c2, if_pos c2]
      refine ⟨?_, ?_, ?_, ?_⟩
      · simp only [mup_same, mu_ng, mu_ni, mu_xi, mu_xt, cq_fr, rn_fr, mrs_fr, inn_fr, cpr_fr, opr_fr, ldd_fr, own_fr, ne_eq, Nat.reduceEqDiff, not_false_eq_true, Int.reduceEq, ↓reduceIte]
      · rw [cby_g (by decide), cby_g (by decide), cby_g (by decide), cby_g (by decide)]
      · simp only [mup_same, mu_ng, mu_ni, mu_xi, mu_xt, cq_fr, rn_fr, mrs_fr, inn_fr, cpr_fr, opr_fr, ldd_fr, own_fr, ne_eq, Nat.reduceEqDiff, not_false_eq_true, Int.reduceEq, ↓reduceIte]
      · simp only [mup_same, mu_ng, mu_ni, mu_xi, mu_xt, cq_fr, rn_fr, mrs_fr, inn_fr, cpr_fr, opr_fr, ldd_fr, own_fr, ne_eq, Nat.reduceEqDiff, not_false_eq_true, Int.reduceEq, ↓reduceIte]
    · rw [if_neg c2, if_neg c2]
      refine ⟨?_, ?_, ?_, ?_⟩
      · simp only [mup_same, mu_ng, mu_ni, mu_xi, mu_xt, cq_fr, rn_fr, mrs_fr, inn_fr, cpr_fr, opr_fr, ldd_fr, own_fr, ne_eq, Nat.reduceEqDiff, not_false_eq_true, Int.reduceEq, ↓reduceIte]
      · rw [cby_g (by decide), cby_g (by decide), cby_g (by decide)]
      · simp only [mup_same, mu_ng, mu_ni, mu_xi, mu_xt, cq_fr, rn_fr, mrs_fr, inn_fr, cpr_fr, opr_fr, ldd_fr, own_fr, ne_eq, Nat.reduceEqDiff, not_false_eq_true, Int.reduceEq, ↓reduceIte]
      · simp only [mup_same, mu_ng, mu_ni, mu_xi, mu_xt, cq_fr, rn_fr, mrs_fr, inn_fr, cpr_fr, opr_fr, ldd_fr, own_fr, ne_eq, Nat.reduceEqDiff, not_false_eq_true, Int.reduceEq, ↓reduceIte]
theorem ctk_l (M : AMem) (n : Int) : ∀ j : Nat, ((ctk M n j) 2 0 5) = j ∧ cby (ctk M n j) n = cby M n
  | 0 => by
    unfold ctk
    exact ⟨mup_same _ _ _ _ _, cby_g (by decide)⟩
  | j + 1 => by
    obtain ⟨h1, h2⟩ := ctk_l M n j
    obtain ⟨k1, k2, k3, k4⟩ := ctn_l (ctk M n j) (cby M n) n (pos (cby M n) n j) n
    unfold ctk
    refine ⟨?_, ?_⟩
    · rw [k1, h1]; omega
    · rw [k2, h2]
theorem kmp_r : ∀ k : Nat, k < 35 → 0 ≤ kmp k ∧ (kmp k = 0 → k = 1 ∨ (5 ≤ k ∧ k ≤ 9)) ∧ (kmp k = 1 → k = 0) := by decide +kernel
theorem wrd_r (b : Int → Int) (p m : Int) : wrd b p m = 2 ∨ (10 ≤ wrd b p m ∧ wrd b p m ≤ 34) := by
  have := fnd_rng (fun w => decide (wEq b p m w)) 25 0
  unfold wrd wfn
  split <;> omega
theorem tkK_r (b : Int → Int) (n p : Int) : (0 ≤ tkK b n p ∧ tkK b n p ≤ 4) ∨ (10 ≤ tkK b n p ∧ tkK b n p ≤ 34) := by
  have := wrd_r b p (ru (pNm b) p - p)
  unfold tkK
  repeat' split
  all_goals omega
theorem cko_r (b : Int → Int) (n p : Int) (hn : n ≤ 4000) (hb : ∀ k, n ≤ k → b k = 0) : 0 ≤ cko b n p ∧ (cko b n p = 0 ↔ tkK b n p = 1) ∧ (n ≤ p ↔ tkK b n p = 0) := by
  have h := tkK_r b n p
  have e := cko_eq b n p hn hb
  have k := kmp_r (tkK b n p).toNat (by omega)
  rw [show (((tkK b n p).toNat : Nat) : Int) = tkK b n p by omega, ← e] at k
  refine ⟨k.1, ⟨fun z => by have := k.2.1 z; omega, fun z => by rw [e, z]; decide⟩, ⟨fun z => if_pos z, fun z => ?_⟩⟩
  by_cases c : n ≤ p
  · exact c
  · exfalso
    have := wrd_r b p (ru (pNm b) p - p)
    unfold tkK at z
    rw [if_neg c] at z
    revert z
    repeat' split
    all_goals omega
