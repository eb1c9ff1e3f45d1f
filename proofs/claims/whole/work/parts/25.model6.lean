/-! ===== the reference: what changes ===== -/
/-- a note is kept -/
def nt (M : AMem) (v : Int) : AMem := (mup (mup M 1024114 0 (((M 11 0 73) % 500)) (v)) 11 0 73 ((M 11 0 73) + 1))
/-- a request comes last in its row -/
def clast (M : AMem) (q : Int) : AMem := (mup (mup (mup (mup M 819298 0 (q) (1)) 819299 0 (q) ((M 98385 0 ((M 819297 0 (q)))))) 11 0 58 ((M 11 0 58) + 1)) 819812 0 (q) ((M 11 0 58) + 1))
def fq (M : AMem) : Int := fnd (fun q => M 819298 0 q == 0) 400 0
theorem fq_rng (M : AMem) : fq M = -1 ∨ (0 ≤ fq M ∧ fq M < 400) := by
  have := fnd_rng (fun q => M 819298 0 q == 0) 400 0
  unfold fq
  omega
/-! frames: what a written cell leaves alone -/
theorem fnd_congr {p p' : Nat → Bool} (h : ∀ i, p i = p' i) : ∀ (k j : Nat), fnd p k j = fnd p' k j
  | 0, _ => rfl
  | k + 1, j => by unfold fnd; rw [h j, fnd_congr h k (j + 1)]
section FR
variable {M : AMem} {g : Nat} {t i v x w : Int}
theorem cq_fr (h1 : g ≠ 819298) (h2 : g ≠ 819297) : ∀ n : Nat, cq (mup M g t i v) x n = cq M x n
  | 0 => rfl
  | n + 1 => by unfold cq; rw [cq_fr h1 h2 n, mu_ng (Ne.symm h1), mu_ng (Ne.symm h2)]
theorem rn_fr (h1 : g ≠ 819298) : rn (mup M g t i v) = rn M := by
  unfold rn
  exact fnd_congr (fun q => by rw [mu_ng (Ne.symm h1)]) _ _
theorem fq_fr (h1 : g ≠ 819298) : fq (mup M g t i v) = fq M := by
  unfold fq
  exact fnd_congr (fun q => by rw [mu_ng (Ne.symm h1)]) _ _
theorem mrs_fr (h1 : g ≠ 14408) : mrs (mup M g t i v) = mrs M := by
  unfold mrs
  rw [mu_ng (Ne.symm h1)]
theorem inn_fr (h1 : g ≠ 65867) (h2 : g ≠ 98390) (h3 : g ≠ 14408) : inn (mup M g t i v) x = inn M x := by
  unfold inn
  rw [mu_ng (Ne.symm h3)]
  exact fnd_congr (fun q => by rw [mu_ng (Ne.symm h1), mu_ng (Ne.symm h2)]) _ _
theorem iw_fr (h1 : g ≠ 32875) (h2 : g ≠ 11) (h3 : g ≠ 14408) : iw (mup M g t i v) = iw M := by
  unfold iw
  rw [mu_ng (Ne.symm h3), mu_ng (Ne.symm h2)]
  exact fnd_congr (fun q => by rw [mu_ng (Ne.symm h1)]) _ _
theorem iw_fi (h1 : i ≠ 65) : iw (mup M 11 t i v) = iw M := by
  unfold iw
  rw [mu_ni (Ne.symm h1), mu_ng (show (14408 : Nat) ≠ 11 by decide)]
  exact fnd_congr (fun q => by rw [mu_ng (by decide)]) _ _
theorem wk_fr (h1 : g ≠ 32875) (h2 : g ≠ 11) (h3 : g ≠ 14408) (h4 : g ≠ 819298) : wk (mup M g t i v) = wk M := by
  unfold wk
  rw [iw_fr h1 h2 h3, rn_fr h4]
theorem wk_fi (h1 : i ≠ 65) : wk (mup M 11 t i v) = wk M := by
  unfold wk
  rw [iw_fi h1, rn_fr (by decide)]
theorem hsf_fr (h1 : g ≠ 65639) (h2 : g ≠ 14408) : hsf (mup M g t i v) w = hsf M w := by
  unfold hsf
  rw [mrs_fr h2]
  exact fnd_congr (fun q => by rw [mu_ng (Ne.symm h1)]) _ _
theorem cpf_fr (h1 : g ≠ 65639) (h2 : g ≠ 65613) : ∀ (n : Nat) (p : Int), cpf (mup M g t i v) w n p = cpf M w n p
  | 0, _ => rfl
  | n + 1, p => by unfold cpf; rw [cpf_fr h1 h2 n p, mu_ng (Ne.symm h1), mu_ng (Ne.symm h2)]
theorem opr_fr (h1 : g ≠ 32855) (h2 : g ≠ 98385) (h3 : g ≠ 819297) : opr (mup M g t i v) w = opr M w := by
  unfold opr
  rw [mu_ng (Ne.symm h1), mu_ng (Ne.symm h2), mu_ng (Ne.symm h3)]
theorem cpr_fr (h1 : g ≠ 65639) (h2 : g ≠ 65613) (h3 : g ≠ 32855) (h4 : g ≠ 98385) (h5 : g ≠ 819297) (h6 : g ≠ 819561) (h7 : g ≠ 65867) (h8 : g ≠ 98390) (h9 : g ≠ 14408) : cpr (mup M g t i v) w = cpr M w := by
  unfold cpr
  rw [mu_ng (Ne.symm h6), mu_ng (Ne.symm h5), mu_ng (Ne.symm h2), cpf_fr h1 h2, opr_fr h3 h4 h5, inn_fr h7 h8 h9, mrs_fr h9]
theorem topf_fr (h1 : g ≠ 819298) (h2 : g ≠ 819299) (h3 : g ≠ 819812) : ∀ n : Nat, topf (mup M g t i v) n = topf M n
  | 0 => rfl
  | n + 1 => by unfold topf; simp only [topf_fr h1 h2 h3 n, mu_ng (Ne.symm h1), mu_ng (Ne.symm h2), mu_ng (Ne.symm h3)]
end FR
def rqs (M : AMem) (t : Int) : AMem := clast (mup (mup (if cq M t 400 = 0 ∧ (M 98388 0 (t)) ≠ 0 then (mup M 98406 0 (t) (0)) else M) 819297 0 ((fq M)) (t)) 819561 0 ((fq M)) (0)) (fq M)
/-- the numbers of notes and serials are small -/
def SM (M : AMem) : Prop := (0 ≤ (M 11 0 73) ∧ (M 11 0 73) < 2147000000) ∧ (0 ≤ (M 11 0 58) ∧ (M 11 0 58) < 9000000000000000000)
theorem lp_requests {post : Option AV → AMem → Prop} {M : AMem} {t : Int} (ht : 0 ≤ t ∧ t < 48) (hf : fq M ≠ -1) (hs : 0 ≤ (M 11 0 58) ∧ (M 11 0 58) < 9000000000000000000) (h : post none (clast (mup (mup M 819297 0 ((fq M)) (t)) 819561 0 ((fq M)) (0)) (fq M))) : Wq 53 cd_53 post 16 [some (aR 11 0), some (aI t), some (aI 0)] [] M := by
  refine Wq.loopR (n := 53) 400 (fun j loc => loc = [some (aR 11 0), some (aI t), some (aI j)] ∧ fq M = fnd (fun q => M 819298 0 q == 0) (400 - j) j) ?_ ?_ 0 (by omega) _ ⟨rfl, rfl⟩
  · rintro _ ⟨rfl, h⟩
    exact absurd h hf
  · rintro j hj _ ⟨rfl, h2⟩ ih
    rw [show 400 - j = (400 - (j + 1)) + 1 by omega] at h2
    refine b_53_16 ?_
    simp only [wx_iconst, wx_ldc2, wx_iload, wx_lload, wx_aload, wx_istore, wx_lstore, wx_astore, wx_iinc, wx_iadd, wx_isub, wx_imul, wx_iand, wx_ior, wx_ixor, wx_ishl, wx_ishr, wx_iushr, wx_irem, wx_ineg, wx_ladd, wx_land, wx_lor, wx_lrem, wx_lneg, wx_lshl, wx_lushr, wx_lcmp, wx_i2l, wx_l2i, wx_i2b, wx_i2c, wx_dupI, wx_popI, wx_dupR, wx_popR, wx_dup2, wx_icmp_eq, wx_if_eq, wx_icmp_ne, wx_if_ne, wx_icmp_lt, wx_if_lt, wx_icmp_ge, wx_if_ge, wx_icmp_gt, wx_if_gt, wx_icmp_le, wx_if_le, wx_acmp_eq, wx_acmp_ne, wx_goto, wx_tsw, wx_lsw, wx_getf, wx_putf, wx_iald, wx_bald, wx_cald, wx_lald, wx_aald1, wx_aald2, wx_iast, wx_bast, wx_cast, wx_last, wx_alen, wx_gets, wx_invV, wx_invS, wx_ret0, wx_ret1, wx_lret, wx_aret, wx_vret, wl_nil, wl_cons, li_0, li_s, lr_0, lr_s, ll_0, ll_s, pp_0, pp_s, rc_mk, rp_n, rp_s, fp_0, fp_1, fp_2, fg_0, fg_1, fg_2, fg_3, wcallV, wcall, List.set_cons_zero, List.set_cons_succ, Nat.reduceDiv, Nat.reduceMod, Nat.reduceAdd, Nat.reduceSub, Nat.reduceEqDiff, Int.reduceToNat, Int.reduceNatCast', gk, inr, gl, true_and, and_true, Int.zero_add, Int.add_zero, List.length_cons, List.length_nil, Nat.reduceLeDiff, Nat.reduceLT, Nat.le_refl, Nat.zero_le, Classical.not_not, Nat.zero_add, lc_ge, lc_gt, lc_le, lc_lt, lc_eq, mup_same, mu_ng, mu_ni, ne_eq, not_false_eq_true, Int.reduceEq, false_and, and_false, false_or, or_false, true_or, or_true, i10, i11, Int.reduceMul, Int.reduceAdd, Int.reduceSub, Int.mul_one, not_true_eq_false, false_implies, true_implies, implies_true, i01, i02]
    repeat' (first | ((first | refine Wq_i (i := 0) rfl (b_53_0 ?_) | refine Wq_i (i := 14) rfl (b_53_14 ?_) | refine Wq_i (i := 23) rfl (b_53_23 ?_) | refine call_f2 (n := 54) rfl (R_comesLast _ _ (by omega) (by first | omega | (simp only [mup_same, mu_ng, mu_ni, ne_eq, Nat.reduceEqDiff, not_false_eq_true, Int.reduceEq]; first | assumption | omega)) (by first | omega | (simp only [mup_same, mu_ng, mu_ni, ne_eq, Nat.reduceEqDiff, not_false_eq_true, Int.reduceEq]; first | assumption | omega))) ?_); (try simp only [wx_iconst, wx_ldc2, wx_iload, wx_lload, wx_aload, wx_istore, wx_lstore, wx_astore, wx_iinc, wx_iadd, wx_isub, wx_imul, wx_iand, wx_ior, wx_ixor, wx_ishl, wx_ishr, wx_iushr, wx_irem, wx_ineg, wx_ladd, wx_land, wx_lor, wx_lrem, wx_lneg, wx_lshl, wx_lushr, wx_lcmp, wx_i2l, wx_l2i, wx_i2b, wx_i2c, wx_dupI, wx_popI, wx_dupR, wx_popR, wx_dup2, wx_icmp_eq, wx_if_eq, wx_icmp_ne, wx_if_ne, wx_icmp_lt, wx_if_lt, wx_icmp_ge, wx_if_ge, wx_icmp_gt, wx_if_gt, wx_icmp_le, wx_if_le, wx_acmp_eq, wx_acmp_ne, wx_goto, wx_tsw, wx_lsw, wx_getf, wx_putf, wx_iald, wx_bald, wx_cald, wx_lald, wx_aald1, wx_aald2, wx_iast, wx_bast, wx_cast, wx_last, wx_alen, wx_gets, wx_invV, wx_invS, wx_ret0, wx_ret1, wx_lret, wx_aret, wx_vret, wl_nil, wl_cons, li_0, li_s, lr_0, lr_s, ll_0, ll_s, pp_0, pp_s, rc_mk, rp_n, rp_s, fp_0, fp_1, fp_2, fg_0, fg_1, fg_2, fg_3, wcallV, wcall, List.set_cons_zero, List.set_cons_succ, Nat.reduceDiv, Nat.reduceMod, Nat.reduceAdd, Nat.reduceSub, Nat.reduceEqDiff, Int.reduceToNat, Int.reduceNatCast', gk, inr, gl, true_and, and_true, Int.zero_add, Int.add_zero, List.length_cons, List.length_nil, Nat.reduceLeDiff, Nat.reduceLT, Nat.le_refl, Nat.zero_le, Classical.not_not, Nat.zero_add, lc_ge, lc_gt, lc_le, lc_lt, lc_eq, mup_same, mu_ng, mu_ni, ne_eq, not_false_eq_true, Int.reduceEq, false_and, and_false, false_or, or_false, true_or, or_true, i10, i11, Int.reduceMul, Int.reduceAdd, Int.reduceSub, Int.mul_one, not_true_eq_false, false_implies, true_implies, implies_true, i01, i02]); (try (simp (disch := omega) only [w32_of, w64_of]))) | (refine And.intro ?_ ?_) | (refine (fun _ => ?_ : _ → _)) | (simp (disch := omega) only [w32_of, w64_of]))
    all_goals (first | rfl | omega | (exfalso; omega) | decide | (simp only [or_true, true_or]; done) | (split <;> first | rfl | (exfalso; omega) | (split <;> first | rfl | (exfalso; omega) | (split <;> first | rfl | (exfalso; omega)))) | skip)
    · rename_i c
      rw [fnd_t (by simpa using c)] at h2
      rw [h2] at h
      simp only [mup_same, mu_ng, mu_ni, ne_eq, Nat.reduceEqDiff, not_false_eq_true, Int.reduceEq, Int.reduceMul, Int.mul_one, clast] at h
      exact h
    · rename_i c
      rw [fnd_f (by simpa using c)] at h2
      refine Wq.eq (ih _ ⟨rfl, h2⟩) ?_
      simp only [List.cons.injEq, Option.some.injEq, Sum.inl.injEq, Sum.inr.injEq, Prod.mk.injEq, true_and, and_true]
      simp
theorem R_requests (t : Int) (M : AMem) (ht : 0 ≤ t ∧ t < 48) (hf : fq M ≠ -1) (hs : SM M) : Runs 53 [aR 11 0, aI t] M (fun r M' => r = none ∧ M' = rqs M t) := by
  refine Runs.go2 (cd := cd_53) _ (by decide) (by decide) ck_53 rfl (Nat.le_of_ble_eq_true rfl) (show _ = ([some (aR 11 0), some (aI t), none] : Lc) from rfl) (fun ho hM => ?_)
  refine b_53_0 ?_
  simp only [wx_iconst, wx_ldc2, wx_iload, wx_lload, wx_aload, wx_istore, wx_lstore, wx_astore, wx_iinc, wx_iadd, wx_isub, wx_imul, wx_iand, wx_ior, wx_ixor, wx_ishl, wx_ishr, wx_iushr, wx_irem, wx_ineg, wx_ladd, wx_land, wx_lor, wx_lrem, wx_lneg, wx_lshl, wx_lushr, wx_lcmp, wx_i2l, wx_l2i, wx_i2b, wx_i2c, wx_dupI, wx_popI, wx_dupR, wx_popR, wx_dup2, wx_icmp_eq, wx_if_eq, wx_icmp_ne, wx_if_ne, wx_icmp_lt, wx_if_lt, wx_icmp_ge, wx_if_ge, wx_icmp_gt, wx_if_gt, wx_icmp_le, wx_if_le, wx_acmp_eq, wx_acmp_ne, wx_goto, wx_tsw, wx_lsw, wx_getf, wx_putf, wx_iald, wx_bald, wx_cald, wx_lald, wx_aald1, wx_aald2, wx_iast, wx_bast, wx_cast, wx_last, wx_alen, wx_gets, wx_invV, wx_invS, wx_ret0, wx_ret1, wx_lret, wx_aret, wx_vret, wl_nil, wl_cons, li_0, li_s, lr_0, lr_s, ll_0, ll_s, pp_0, pp_s, rc_mk, rp_n, rp_s, fp_0, fp_1, fp_2, fg_0, fg_1, fg_2, fg_3, wcallV, wcall, List.set_cons_zero, List.set_cons_succ, Nat.reduceDiv, Nat.reduceMod, Nat.reduceAdd, Nat.reduceSub, Nat.reduceEqDiff, Int.reduceToNat, Int.reduceNatCast', gk, inr, gl, true_and, and_true, Int.zero_add, Int.add_zero, List.length_cons, List.length_nil, Nat.reduceLeDiff, Nat.reduceLT, Nat.le_refl, Nat.zero_le, Classical.not_not, Nat.zero_add, lc_ge, lc_gt, lc_le, lc_lt, lc_eq, mup_same, mu_ng, mu_ni, ne_eq, not_false_eq_true, Int.reduceEq, false_and, and_false, false_or, or_false, true_or, or_true, i10, i11, Int.reduceMul, Int.reduceAdd, Int.reduceSub, Int.mul_one, not_true_eq_false, false_implies, true_implies, implies_true, i01, i02]
  repeat' (first | ((first | refine Wq_i (i := 0) rfl (b_53_0 ?_) | refine Wq_i (i := 14) rfl (b_53_14 ?_) | refine Wq_i (i := 23) rfl (b_53_23 ?_) | refine call_f2 (n := 52) rfl (R_requestsOf _ _) ?_); (try simp only [wx_iconst, wx_ldc2, wx_iload, wx_lload, wx_aload, wx_istore, wx_lstore, wx_astore, wx_iinc, wx_iadd, wx_isub, wx_imul, wx_iand, wx_ior, wx_ixor, wx_ishl, wx_ishr, wx_iushr, wx_irem, wx_ineg, wx_ladd, wx_land, wx_lor, wx_lrem, wx_lneg, wx_lshl, wx_lushr, wx_lcmp, wx_i2l, wx_l2i, wx_i2b, wx_i2c, wx_dupI, wx_popI, wx_dupR, wx_popR, wx_dup2, wx_icmp_eq, wx_if_eq, wx_icmp_ne, wx_if_ne, wx_icmp_lt, wx_if_lt, wx_icmp_ge, wx_if_ge, wx_icmp_gt, wx_if_gt, wx_icmp_le, wx_if_le, wx_acmp_eq, wx_acmp_ne, wx_goto, wx_tsw, wx_lsw, wx_getf, wx_putf, wx_iald, wx_bald, wx_cald, wx_lald, wx_aald1, wx_aald2, wx_iast, wx_bast, wx_cast, wx_last, wx_alen, wx_gets, wx_invV, wx_invS, wx_ret0, wx_ret1, wx_lret, wx_aret, wx_vret, wl_nil, wl_cons, li_0, li_s, lr_0, lr_s, ll_0, ll_s, pp_0, pp_s, rc_mk, rp_n, rp_s, fp_0, fp_1, fp_2, fg_0, fg_1, fg_2, fg_3, wcallV, wcall, List.set_cons_zero, List.set_cons_succ, Nat.reduceDiv, Nat.reduceMod, Nat.reduceAdd, Nat.reduceSub, Nat.reduceEqDiff, Int.reduceToNat, Int.reduceNatCast', gk, inr, gl, true_and, and_true, Int.zero_add, Int.add_zero, List.length_cons, List.length_nil, Nat.reduceLeDiff, Nat.reduceLT, Nat.le_refl, Nat.zero_le, Classical.not_not, Nat.zero_add, lc_ge, lc_gt, lc_le, lc_lt, lc_eq, mup_same, mu_ng, mu_ni, ne_eq, not_false_eq_true, Int.reduceEq, false_and, and_false, false_or, or_false, true_or, or_true, i10, i11, Int.reduceMul, Int.reduceAdd, Int.reduceSub, Int.mul_one, not_true_eq_false, false_implies, true_implies, implies_true, i01, i02]); (try (simp (disch := omega) only [w32_of, w64_of]))) | (refine And.intro ?_ ?_) | (refine (fun _ => ?_ : _ → _)) | (simp (disch := omega) only [w32_of, w64_of]))
  all_goals (first | rfl | omega | (exfalso; omega) | decide | (simp only [or_true, true_or]; done) | (split <;> first | rfl | (exfalso; omega) | (split <;> first | rfl | (exfalso; omega) | (split <;> first | rfl | (exfalso; omega)))) | skip)
  · rename_i c; exact lp_requests ht hf hs.2 ⟨rfl, by unfold rqs; rw [if_neg (by omega)]⟩
  · rename_i c1 c; exact lp_requests ht hf hs.2 ⟨rfl, by unfold rqs; rw [if_neg (by omega)]⟩
  · rename_i c1 c
    refine lp_requests ht (by rw [fq_fr (by decide)]; exact hf) (by rw [mu_ng (by decide)]; exact hs.2) ⟨rfl, ?_⟩
    unfold rqs
    rw [if_pos ⟨c1, c⟩, fq_fr (by decide)]
theorem R_runs (q : Int) (M : AMem) (hb : MB M) (hq : 0 ≤ q ∧ q < 400) (ht : 0 ≤ (M 819297 0 (q)) ∧ (M 819297 0 (q)) < 48) (hn : 0 ≤ (M 11 0 73) ∧ (M 11 0 73) < 2147483000) : Runs 62 [aR 11 0, aI q] M (fun r M' => r = none ∧ M' = nt (mup (mup M 819298 0 (q) (2)) 819561 0 (q) ((if inn M (M 819297 0 (q)) = -1 then 0 else 1))) (10000 + (M 819297 0 (q)))) := by
  refine Runs.go2 (cd := cd_62) _ (by decide) (by decide) ck_62 rfl (Nat.le_of_ble_eq_true rfl) (show _ = ([some (aR 11 0), some (aI q)] : Lc) from rfl) (fun ho hM => ?_)
  have hb2 : MB (mup M 819298 0 (q) (2)) := by unfold MB; simp only [mup_same, mu_ng, mu_ni, ne_eq, Nat.reduceEqDiff, not_false_eq_true, Int.reduceEq, Int.reduceMul, Int.mul_one, and_self]; exact hb
  repeat' (first | ((first | refine Wq_i (i := 0) rfl (b_62_0 ?_) | refine Wq_i (i := 18) rfl (b_62_18 ?_) | refine Wq_i (i := 19) rfl (b_62_19 ?_) | refine call_f2 (n := 59) rfl (R_internalOf _ _ hb2 (by omega)) ?_ | refine call_f2 (n := 50) rfl (R_notes _ _ _ (by first | omega | (simp only [mup_same, mu_ng, mu_ni, ne_eq, Nat.reduceEqDiff, not_false_eq_true, Int.reduceEq]; first | assumption | omega)) (by first | omega | (simp only [mup_same, mu_ng, mu_ni, ne_eq, Nat.reduceEqDiff, not_false_eq_true, Int.reduceEq]; first | assumption | omega)) (by omega) (by omega)) ?_); (try simp only [wx_iconst, wx_ldc2, wx_iload, wx_lload, wx_aload, wx_istore, wx_lstore, wx_astore, wx_iinc, wx_iadd, wx_isub, wx_imul, wx_iand, wx_ior, wx_ixor, wx_ishl, wx_ishr, wx_iushr, wx_irem, wx_ineg, wx_ladd, wx_land, wx_lor, wx_lrem, wx_lneg, wx_lshl, wx_lushr, wx_lcmp, wx_i2l, wx_l2i, wx_i2b, wx_i2c, wx_dupI, wx_popI, wx_dupR, wx_popR, wx_dup2, wx_icmp_eq, wx_if_eq, wx_icmp_ne, wx_if_ne, wx_icmp_lt, wx_if_lt, wx_icmp_ge, wx_if_ge, wx_icmp_gt, wx_if_gt, wx_icmp_le, wx_if_le, wx_acmp_eq, wx_acmp_ne, wx_goto, wx_tsw, wx_lsw, wx_getf, wx_putf, wx_iald, wx_bald, wx_cald, wx_lald, wx_aald1, wx_aald2, wx_iast, wx_bast, wx_cast, wx_last, wx_alen, wx_gets, wx_invV, wx_invS, wx_ret0, wx_ret1, wx_lret, wx_aret, wx_vret, wl_nil, wl_cons, li_0, li_s, lr_0, lr_s, ll_0, ll_s, pp_0, pp_s, rc_mk, rp_n, rp_s, fp_0, fp_1, fp_2, fg_0, fg_1, fg_2, fg_3, wcallV, wcall, List.set_cons_zero, List.set_cons_succ, Nat.reduceDiv, Nat.reduceMod, Nat.reduceAdd, Nat.reduceSub, Nat.reduceEqDiff, Int.reduceToNat, Int.reduceNatCast', gk, inr, gl, true_and, and_true, Int.zero_add, Int.add_zero, List.length_cons, List.length_nil, Nat.reduceLeDiff, Nat.reduceLT, Nat.le_refl, Nat.zero_le, Classical.not_not, Nat.zero_add, lc_ge, lc_gt, lc_le, lc_lt, lc_eq, mup_same, mu_ng, mu_ni, ne_eq, not_false_eq_true, Int.reduceEq, false_and, and_false, false_or, or_false, true_or, or_true, i10, i11, Int.reduceMul, Int.reduceAdd, Int.reduceSub, Int.mul_one, not_true_eq_false, false_implies, true_implies, implies_true, i01, i02, nt, inn_fr]); (try (simp (disch := omega) only [w32_of, w64_of]))) | (refine And.intro ?_ ?_) | (refine (fun _ => ?_ : _ → _)) | (simp (disch := omega) only [w32_of, w64_of]))
  all_goals (first | rfl | omega | (exfalso; omega) | decide | (simp only [or_true, true_or]; done) | (split <;> first | rfl | (exfalso; omega) | (split <;> first | rfl | (exfalso; omega) | (split <;> first | rfl | (exfalso; omega)))) | skip)
  all_goals (rename_i c; first | rw [if_pos c] | rw [if_neg c])
