/-! ===== the reference: open, start, row, name, feed (by program: wip/whole/gen/mk46.py) ===== -/
def llb : Lc → Lc → Prop
  | [], [] => True
  | none :: a, _ :: b => llb a b
  | some v :: a, w :: b => w = some v ∧ (lcat v = 2 → b[0]? = some none) ∧ llb a b
  | _, _ => False
theorem llb.lle : ∀ {a b : Lc}, llb a b → lle a b
  | [], [], _ => ⟨rfl, fun i v h => by simp at h⟩
  | none :: a, w :: b, h => by
    have h1 := llb.lle (a := a) (b := b) h
    refine ⟨by simp only [List.length_cons]; rw [h1.1], fun i v hv => ?_⟩
    match i with
    | 0 => simp at hv
    | i + 1 =>
      have h2 := h1.2 i v (by simpa using hv)
      exact ⟨by simpa using h2.1, fun c => by simpa using h2.2 c⟩
  | some u :: a, w :: b, h => by
    obtain ⟨e, hc, h⟩ := h
    have h1 := llb.lle (a := a) (b := b) h
    refine ⟨by simp only [List.length_cons]; rw [h1.1], fun i v hv => ?_⟩
    match i with
    | 0 =>
      have hv : some u = some v := by simpa using hv
      injection hv with hv
      subst hv
      exact ⟨by simpa using e, fun c => by simpa using hc c⟩
    | i + 1 =>
      have h2 := h1.2 i v (by simpa using hv)
      exact ⟨by simpa using h2.1, fun c => by simpa using h2.2 c⟩
theorem nt_w (M : AMem) (v : Int) (t i : Int) : nt M v 32878 t i = M 32878 t i := nt_ng M v (by decide) (by decide) t i
theorem rns_w (M : AMem) (q : Int) (t i : Int) : rns M q 32878 t i = M 32878 t i := by
  unfold rns
  rw [nt_w, mu_ng (by decide), mu_ng (by decide)]
theorem pre_w (M : AMem) (q : Int) (t i : Int) : pre M q 32878 t i = M 32878 t i := by
  unfold pre
  rw [mu_ng (by decide), mu_ng (by decide), mu_ng (by decide), nt_w, mu_ng (by decide)]
theorem run1_w (M : AMem) (t i : Int) : run1 M 32878 t i = M 32878 t i := by
  unfold run1
  split
  · rfl
  · split
    · exact rns_w _ _ _ _
    · split
      · rw [rns_w, pre_w]
      · rfl
theorem stl_w (M : AMem) (t i : Int) : stl M 32878 t i = M 32878 t i := by
  unfold stl
  split
  · rfl
  · rw [run1_w]
    split
    · rfl
    · unfold beg
      rw [nt_w, mu_ng (by decide), mu_ng (by decide), mu_ng (by decide)]
theorem rns_h (M : AMem) (q : Int) : ((rns M q) 11 0 52) = (M 11 0 52) := by
  unfold rns
  rw [nt_ni _ _ (by decide), mu_ng (by decide), mu_ng (by decide)]
theorem pre_h (M : AMem) (q : Int) : ((pre M q) 11 0 52) = (M 11 0 52) := by
  unfold pre
  rw [mu_ng (by decide), mu_ni (by decide), mu_ng (by decide), nt_ni _ _ (by decide), mu_ng (by decide)]
theorem run1_h (M : AMem) : ((run1 M) 11 0 52) = (M 11 0 52) := by
  unfold run1
  split
  · rfl
  · split
    · exact rns_h _ _
    · split
      · rw [rns_h, pre_h]
      · rfl
theorem stl_h (M : AMem) : ((stl M) 11 0 52) = (M 11 0 52) := by
  unfold stl
  split
  · rfl
  · rw [run1_h]
    split
    · rfl
    · unfold beg
      rw [nt_ni _ _ (by decide), mu_ni (by decide), mu_ng (by decide), mu_ng (by decide)]
theorem rt1_w (M : AMem) (c t i : Int) : rt1 M c 32878 t i = M 32878 t i := by
  unfold rt1
  split
  · rw [rmm_ng _ _ (by decide) (by decide) (by decide) (by decide) (by decide) (by decide) (by decide) (by decide) (by decide) (by decide)]
    unfold rtv rt0
    rw [mu_ng (by decide), mu_ng (by decide), mu_ng (by decide)]
  · unfold rt0
    rw [mu_ng (by decide)]
theorem rt1_h (M : AMem) (c : Int) : ((rt1 M c) 11 0 52) = (M 11 0 52) := by
  unfold rt1
  split
  · rw [rmm_ni _ _ (by decide) (by decide)]
    unfold rtv rt0
    rw [mu_ng (by decide), mu_ng (by decide), mu_ng (by decide)]
  · unfold rt0
    rw [mu_ng (by decide)]
theorem rtk_w (M : AMem) (c t i : Int) : rtk M c 32878 t i = M 32878 t i := by unfold rtk; rw [stl_w, rt1_w]
theorem rtk_h (M : AMem) (c : Int) : ((rtk M c) 11 0 52) = (M 11 0 52) := by unfold rtk; rw [stl_h, rt1_h]
/-- ticks that waited are done, n of them -/
def rwn (M : AMem) (c : Int) : Nat → AMem
  | 0 => M
  | n + 1 => rtk (mup (rwn M c n) 32878 0 (c) ((M 32878 0 (c)) - (n + 1))) c
theorem rwn_w (M : AMem) (c : Int) : ∀ n : Nat, ((rwn M c n) 32878 0 (c)) = (M 32878 0 (c)) - n
  | 0 => by show (M 32878 0 (c)) = (M 32878 0 (c)) - ((0 : Nat) : Int); omega
  | n + 1 => by
    show rtk (mup (rwn M c n) 32878 0 (c) ((M 32878 0 (c)) - (n + 1))) c 32878 0 c = _
    rw [rtk_w, mup_same]
    omega
theorem rwn_h (M : AMem) (c : Int) : ∀ n : Nat, ((rwn M c n) 11 0 52) = (M 11 0 52)
  | 0 => rfl
  | n + 1 => by
    show ((rtk (mup (rwn M c n) 32878 0 (c) ((M 32878 0 (c)) - (n + 1))) c) 11 0 52) = _
    rw [rtk_h, mu_ng (by decide)]
    exact rwn_h M c n
def row (M : AMem) : Nat → AMem
  | 0 => M
  | n + 1 => rwn (row M n) n ((row M n) 32878 0 (n)).toNat
theorem row_h (M : AMem) : ∀ n : Nat, ((row M n) 11 0 52) = (M 11 0 52)
  | 0 => rfl
  | n + 1 => by
    show ((rwn (row M n) n ((row M n) 32878 0 (n)).toNat) 11 0 52) = _
    rw [rwn_h]
    exact row_h M n
/-- what open() does when it is not refused -/
def opD (T : AMem) : AMem := if (T 11 0 52) = 1 then row (mup T 11 0 52 (0)) (T 14408 0 (3)).toNat else (mup T 11 0 52 ((T 11 0 52) - 1))
def op2 (T : AMem) : Int := if (T 11 0 52) = 0 then 5 else 0
/-- what the waiting ticks ask for -/
def RW (M : AMem) (k : Int) : Prop := ∀ c : Nat, (c : Int) < k → ((row M c) 14408 0 (3)) = k ∧ (0 ≤ ((row M c) 32878 0 (c)) ∧ ((row M c) 32878 0 (c)) ≤ 2000) ∧ ∀ j : Nat, (j : Int) < ((row M c) 32878 0 (c)) → RT (mup (rwn (row M c) c j) 32878 0 (c) (((row M c) 32878 0 (c)) - (j + 1))) c
set_option maxHeartbeats 2000000 in
theorem open_loop (s : Int) (M : AMem) (k : Int) (hk : 0 ≤ k ∧ k ≤ 16) (h0 : (M 11 0 52) = 0) (hm : ((row M k.toNat) 14408 0 (3)) = k) (h : RW M k) (post : Option AV → AMem → Prop) (last : ∀ o : Option AV, Wq 92 cd_92 post 58 [some (aR 11 0), some (aI s), some (aI k), o] [] (row M k.toNat)) : Wq 92 cd_92 post 29 [some (aR 11 0), some (aI s), some (aI 0), none] [] M := by
  refine Wq.loop (n := 92) k.toNat (fun j => [some (aR 11 0), some (aI s), some (aI j), none]) (fun j => row M j) ?_ ?_
  · have e1 := row_h M k.toNat
    have last := last none
    rw [show (k.toNat : Int) = k by omega]
    refine b_92_29 ?_
    simp only [wx_iconst, wx_ldc2, wx_iload, wx_lload, wx_aload, wx_istore, wx_lstore, wx_astore, wx_iinc, wx_iadd, wx_isub, wx_imul, wx_iand, wx_ior, wx_ixor, wx_ishl, wx_ishr, wx_iushr, wx_irem, wx_ineg, wx_ladd, wx_land, wx_lor, wx_lrem, wx_lneg, wx_lshl, wx_lushr, wx_lcmp, wx_i2l, wx_l2i, wx_i2b, wx_i2c, wx_dupI, wx_popI, wx_dupR, wx_popR, wx_dup2, wx_icmp_eq, wx_if_eq, wx_icmp_ne, wx_if_ne, wx_icmp_lt, wx_if_lt, wx_icmp_ge, wx_if_ge, wx_icmp_gt, wx_if_gt, wx_icmp_le, wx_if_le, wx_acmp_eq, wx_acmp_ne, wx_goto, wx_tsw, wx_lsw, wx_getf, wx_putf, wx_iald, wx_bald, wx_cald, wx_lald, wx_aald1, wx_aald2, wx_iast, wx_bast, wx_cast, wx_last, wx_alen, wx_gets, wx_invV, wx_ord12, wx_ord13, wx_word, wx_want, wx_slen, wx_schr, wx_invS, wx_ret0, wx_ret1, wx_lret, wx_aret, wx_vret, wl_nil, wl_cons, li_0, li_s, lr_0, lr_s, ll_0, ll_s, pp_0, pp_s, rc_mk, rp_n, rp_s, fp_0, fp_1, fp_2, fg_0, fg_1, fg_2, fg_3, wcallV, wcall, List.set_cons_zero, List.set_cons_succ, Nat.reduceDiv, Nat.reduceMod, Nat.reduceAdd, Nat.reduceSub, Nat.reduceEqDiff, Int.reduceToNat, Int.reduceNatCast', gk, inr, gl, true_and, and_true, Int.zero_add, Int.add_zero, List.length_cons, List.length_nil, Nat.reduceLeDiff, Nat.reduceLT, Nat.le_refl, Nat.zero_le, Classical.not_not, Nat.zero_add, lc_ge, lc_gt, lc_le, lc_lt, lc_eq, mup_same, mu_ng, mu_ni, ne_eq, not_false_eq_true, Int.reduceEq, false_and, and_false, false_or, or_false, true_or, or_true, i10, i11, Int.reduceMul, Int.reduceAdd, Int.reduceSub, Int.mul_one, not_true_eq_false, false_implies, true_implies, implies_true, i01, i02, hm]
    repeat' (first | ((first | refine Wq_i (i := 0) rfl (b_92_0 ?_) | refine Wq_i (i := 19) rfl (b_92_19 ?_) | refine Wq_i (i := 56) rfl (b_92_56 ?_)); (try simp only [wx_iconst, wx_ldc2, wx_iload, wx_lload, wx_aload, wx_istore, wx_lstore, wx_astore, wx_iinc, wx_iadd, wx_isub, wx_imul, wx_iand, wx_ior, wx_ixor, wx_ishl, wx_ishr, wx_iushr, wx_irem, wx_ineg, wx_ladd, wx_land, wx_lor, wx_lrem, wx_lneg, wx_lshl, wx_lushr, wx_lcmp, wx_i2l, wx_l2i, wx_i2b, wx_i2c, wx_dupI, wx_popI, wx_dupR, wx_popR, wx_dup2, wx_icmp_eq, wx_if_eq, wx_icmp_ne, wx_if_ne, wx_icmp_lt, wx_if_lt, wx_icmp_ge, wx_if_ge, wx_icmp_gt, wx_if_gt, wx_icmp_le, wx_if_le, wx_acmp_eq, wx_acmp_ne, wx_goto, wx_tsw, wx_lsw, wx_getf, wx_putf, wx_iald, wx_bald, wx_cald, wx_lald, wx_aald1, wx_aald2, wx_iast, wx_bast, wx_cast, wx_last, wx_alen, wx_gets, wx_invV, wx_ord12, wx_ord13, wx_word, wx_want, wx_slen, wx_schr, wx_invS, wx_ret0, wx_ret1, wx_lret, wx_aret, wx_vret, wl_nil, wl_cons, li_0, li_s, lr_0, lr_s, ll_0, ll_s, pp_0, pp_s, rc_mk, rp_n, rp_s, fp_0, fp_1, fp_2, fg_0, fg_1, fg_2, fg_3, wcallV, wcall, List.set_cons_zero, List.set_cons_succ, Nat.reduceDiv, Nat.reduceMod, Nat.reduceAdd, Nat.reduceSub, Nat.reduceEqDiff, Int.reduceToNat, Int.reduceNatCast', gk, inr, gl, true_and, and_true, Int.zero_add, Int.add_zero, List.length_cons, List.length_nil, Nat.reduceLeDiff, Nat.reduceLT, Nat.le_refl, Nat.zero_le, Classical.not_not, Nat.zero_add, lc_ge, lc_gt, lc_le, lc_lt, lc_eq, mup_same, mu_ng, mu_ni, ne_eq, not_false_eq_true, Int.reduceEq, false_and, and_false, false_or, or_false, true_or, or_true, i10, i11, Int.reduceMul, Int.reduceAdd, Int.reduceSub, Int.mul_one, not_true_eq_false, false_implies, true_implies, implies_true, i01, i02, hm]); (try (simp (disch := omega) only [w32_of, w64_of]))) | (refine And.intro ?_ ?_) | (refine (fun _ => ?_ : _ → _)) | (simp (disch := omega) only [w32_of, w64_of]))
    all_goals (first | rfl | omega | (refine congrArg (fun z : Int => some (aI z)) ?_; omega) | (exact absurd True.intro (by assumption)) | (exfalso; omega) | decide | (simp only [or_true, true_or]; done) | (split <;> first | rfl | (exfalso; omega) | (split <;> first | rfl | (exfalso; omega) | (split <;> first | rfl | (exfalso; omega)))) | skip)
    all_goals (first | exact last | skip)
  · intro j hj ih
    obtain ⟨g1, g2, g3⟩ := h j (by omega)
    have e1 := row_h M j
    have hr : row M (j + 1) = rwn (row M j) j ((row M j) 32878 0 (j)).toNat := rfl
    rw [hr] at ih
    generalize row M j = N at g1 g2 g3 e1 ih ⊢
    have inner : Wq 92 cd_92 post 38 [some (aR 11 0), some (aI s), some (aI j), none] [] N := by
      refine Wq.loop (n := 92) (N 32878 0 (j)).toNat (fun _ => [some (aR 11 0), some (aI s), some (aI j), none]) (fun i => rwn N j i) ?_ ?_
      · have e2 := rwn_w N j (N 32878 0 (j)).toNat
        refine b_92_38 ?_
        simp only [wx_iconst, wx_ldc2, wx_iload, wx_lload, wx_aload, wx_istore, wx_lstore, wx_astore, wx_iinc, wx_iadd, wx_isub, wx_imul, wx_iand, wx_ior, wx_ixor, wx_ishl, wx_ishr, wx_iushr, wx_irem, wx_ineg, wx_ladd, wx_land, wx_lor, wx_lrem, wx_lneg, wx_lshl, wx_lushr, wx_lcmp, wx_i2l, wx_l2i, wx_i2b, wx_i2c, wx_dupI, wx_popI, wx_dupR, wx_popR, wx_dup2, wx_icmp_eq, wx_if_eq, wx_icmp_ne, wx_if_ne, wx_icmp_lt, wx_if_lt, wx_icmp_ge, wx_if_ge, wx_icmp_gt, wx_if_gt, wx_icmp_le, wx_if_le, wx_acmp_eq, wx_acmp_ne, wx_goto, wx_tsw, wx_lsw, wx_getf, wx_putf, wx_iald, wx_bald, wx_cald, wx_lald, wx_aald1, wx_aald2, wx_iast, wx_bast, wx_cast, wx_last, wx_alen, wx_gets, wx_invV, wx_ord12, wx_ord13, wx_word, wx_want, wx_slen, wx_schr, wx_invS, wx_ret0, wx_ret1, wx_lret, wx_aret, wx_vret, wl_nil, wl_cons, li_0, li_s, lr_0, lr_s, ll_0, ll_s, pp_0, pp_s, rc_mk, rp_n, rp_s, fp_0, fp_1, fp_2, fg_0, fg_1, fg_2, fg_3, wcallV, wcall, List.set_cons_zero, List.set_cons_succ, Nat.reduceDiv, Nat.reduceMod, Nat.reduceAdd, Nat.reduceSub, Nat.reduceEqDiff, Int.reduceToNat, Int.reduceNatCast', gk, inr, gl, true_and, and_true, Int.zero_add, Int.add_zero, List.length_cons, List.length_nil, Nat.reduceLeDiff, Nat.reduceLT, Nat.le_refl, Nat.zero_le, Classical.not_not, Nat.zero_add, lc_ge, lc_gt, lc_le, lc_lt, lc_eq, mup_same, mu_ng, mu_ni, ne_eq, not_false_eq_true, Int.reduceEq, false_and, and_false, false_or, or_false, true_or, or_true, i10, i11, Int.reduceMul, Int.reduceAdd, Int.reduceSub, Int.mul_one, not_true_eq_false, false_implies, true_implies, implies_true, i01, i02]
        repeat' (first | ((first | refine Wq_i (i := 0) rfl (b_92_0 ?_) | refine Wq_i (i := 19) rfl (b_92_19 ?_) | refine Wq_i (i := 56) rfl (b_92_56 ?_) | refine Wq_i (i := 58) rfl (b_92_58 ?_)); (try simp only [wx_iconst, wx_ldc2, wx_iload, wx_lload, wx_aload, wx_istore, wx_lstore, wx_astore, wx_iinc, wx_iadd, wx_isub, wx_imul, wx_iand, wx_ior, wx_ixor, wx_ishl, wx_ishr, wx_iushr, wx_irem, wx_ineg, wx_ladd, wx_land, wx_lor, wx_lrem, wx_lneg, wx_lshl, wx_lushr, wx_lcmp, wx_i2l, wx_l2i, wx_i2b, wx_i2c, wx_dupI, wx_popI, wx_dupR, wx_popR, wx_dup2, wx_icmp_eq, wx_if_eq, wx_icmp_ne, wx_if_ne, wx_icmp_lt, wx_if_lt, wx_icmp_ge, wx_if_ge, wx_icmp_gt, wx_if_gt, wx_icmp_le, wx_if_le, wx_acmp_eq, wx_acmp_ne, wx_goto, wx_tsw, wx_lsw, wx_getf, wx_putf, wx_iald, wx_bald, wx_cald, wx_lald, wx_aald1, wx_aald2, wx_iast, wx_bast, wx_cast, wx_last, wx_alen, wx_gets, wx_invV, wx_ord12, wx_ord13, wx_word, wx_want, wx_slen, wx_schr, wx_invS, wx_ret0, wx_ret1, wx_lret, wx_aret, wx_vret, wl_nil, wl_cons, li_0, li_s, lr_0, lr_s, ll_0, ll_s, pp_0, pp_s, rc_mk, rp_n, rp_s, fp_0, fp_1, fp_2, fg_0, fg_1, fg_2, fg_3, wcallV, wcall, List.set_cons_zero, List.set_cons_succ, Nat.reduceDiv, Nat.reduceMod, Nat.reduceAdd, Nat.reduceSub, Nat.reduceEqDiff, Int.reduceToNat, Int.reduceNatCast', gk, inr, gl, true_and, and_true, Int.zero_add, Int.add_zero, List.length_cons, List.length_nil, Nat.reduceLeDiff, Nat.reduceLT, Nat.le_refl, Nat.zero_le, Classical.not_not, Nat.zero_add, lc_ge, lc_gt, lc_le, lc_lt, lc_eq, mup_same, mu_ng, mu_ni, ne_eq, not_false_eq_true, Int.reduceEq, false_and, and_false, false_or, or_false, true_or, or_true, i10, i11, Int.reduceMul, Int.reduceAdd, Int.reduceSub, Int.mul_one, not_true_eq_false, false_implies, true_implies, implies_true, i01, i02]); (try (simp (disch := omega) only [w32_of, w64_of]))) | (refine And.intro ?_ ?_) | (refine (fun _ => ?_ : _ → _)) | (simp (disch := omega) only [w32_of, w64_of]))
        all_goals (first | rfl | omega | (refine congrArg (fun z : Int => some (aI z)) ?_; omega) | (exact absurd True.intro (by assumption)) | (exfalso; omega) | decide | (simp only [or_true, true_or]; done) | (split <;> first | rfl | (exfalso; omega) | (split <;> first | rfl | (exfalso; omega) | (split <;> first | rfl | (exfalso; omega)))) | skip)
        all_goals (first | exact Wq.eq ih (by simp only [List.cons.injEq, Option.some.injEq, Sum.inl.injEq, Sum.inr.injEq, Prod.mk.injEq, true_and, and_true]; omega) | skip)
      · intro i hi ih2
        have e2 := rwn_w N j i
        have g3 := g3 i (by omega)
        have hr2 : rwn N j (i + 1) = rtk (mup (rwn N j i) 32878 0 (j) ((N 32878 0 (j)) - (i + 1))) j := rfl
        rw [hr2] at ih2
        generalize rwn N j i = P at e2 g3 ih2 ⊢
        rw [show (N 32878 0 (j)) - (i + 1) = (P 32878 0 (j)) - 1 by omega] at g3 ih2
        refine b_92_38 ?_
        simp only [wx_iconst, wx_ldc2, wx_iload, wx_lload, wx_aload, wx_istore, wx_lstore, wx_astore, wx_iinc, wx_iadd, wx_isub, wx_imul, wx_iand, wx_ior, wx_ixor, wx_ishl, wx_ishr, wx_iushr, wx_irem, wx_ineg, wx_ladd, wx_land, wx_lor, wx_lrem, wx_lneg, wx_lshl, wx_lushr, wx_lcmp, wx_i2l, wx_l2i, wx_i2b, wx_i2c, wx_dupI, wx_popI, wx_dupR, wx_popR, wx_dup2, wx_icmp_eq, wx_if_eq, wx_icmp_ne, wx_if_ne, wx_icmp_lt, wx_if_lt, wx_icmp_ge, wx_if_ge, wx_icmp_gt, wx_if_gt, wx_icmp_le, wx_if_le, wx_acmp_eq, wx_acmp_ne, wx_goto, wx_tsw, wx_lsw, wx_getf, wx_putf, wx_iald, wx_bald, wx_cald, wx_lald, wx_aald1, wx_aald2, wx_iast, wx_bast, wx_cast, wx_last, wx_alen, wx_gets, wx_invV, wx_ord12, wx_ord13, wx_word, wx_want, wx_slen, wx_schr, wx_invS, wx_ret0, wx_ret1, wx_lret, wx_aret, wx_vret, wl_nil, wl_cons, li_0, li_s, lr_0, lr_s, ll_0, ll_s, pp_0, pp_s, rc_mk, rp_n, rp_s, fp_0, fp_1, fp_2, fg_0, fg_1, fg_2, fg_3, wcallV, wcall, List.set_cons_zero, List.set_cons_succ, Nat.reduceDiv, Nat.reduceMod, Nat.reduceAdd, Nat.reduceSub, Nat.reduceEqDiff, Int.reduceToNat, Int.reduceNatCast', gk, inr, gl, true_and, and_true, Int.zero_add, Int.add_zero, List.length_cons, List.length_nil, Nat.reduceLeDiff, Nat.reduceLT, Nat.le_refl, Nat.zero_le, Classical.not_not, Nat.zero_add, lc_ge, lc_gt, lc_le, lc_lt, lc_eq, mup_same, mu_ng, mu_ni, ne_eq, not_false_eq_true, Int.reduceEq, false_and, and_false, false_or, or_false, true_or, or_true, i10, i11, Int.reduceMul, Int.reduceAdd, Int.reduceSub, Int.mul_one, not_true_eq_false, false_implies, true_implies, implies_true, i01, i02]
        repeat' (first | ((first | refine Wq_i (i := 0) rfl (b_92_0 ?_) | refine Wq_i (i := 19) rfl (b_92_19 ?_) | refine Wq_i (i := 56) rfl (b_92_56 ?_) | refine Wq_i (i := 58) rfl (b_92_58 ?_) | refine call_f2 (n := 93) rfl (R_ticked _ _ (by omega) g3) ?_); (try simp only [wx_iconst, wx_ldc2, wx_iload, wx_lload, wx_aload, wx_istore, wx_lstore, wx_astore, wx_iinc, wx_iadd, wx_isub, wx_imul, wx_iand, wx_ior, wx_ixor, wx_ishl, wx_ishr, wx_iushr, wx_irem, wx_ineg, wx_ladd, wx_land, wx_lor, wx_lrem, wx_lneg, wx_lshl, wx_lushr, wx_lcmp, wx_i2l, wx_l2i, wx_i2b, wx_i2c, wx_dupI, wx_popI, wx_dupR, wx_popR, wx_dup2, wx_icmp_eq, wx_if_eq, wx_icmp_ne, wx_if_ne, wx_icmp_lt, wx_if_lt, wx_icmp_ge, wx_if_ge, wx_icmp_gt, wx_if_gt, wx_icmp_le, wx_if_le, wx_acmp_eq, wx_acmp_ne, wx_goto, wx_tsw, wx_lsw, wx_getf, wx_putf, wx_iald, wx_bald, wx_cald, wx_lald, wx_aald1, wx_aald2, wx_iast, wx_bast, wx_cast, wx_last, wx_alen, wx_gets, wx_invV, wx_ord12, wx_ord13, wx_word, wx_want, wx_slen, wx_schr, wx_invS, wx_ret0, wx_ret1, wx_lret, wx_aret, wx_vret, wl_nil, wl_cons, li_0, li_s, lr_0, lr_s, ll_0, ll_s, pp_0, pp_s, rc_mk, rp_n, rp_s, fp_0, fp_1, fp_2, fg_0, fg_1, fg_2, fg_3, wcallV, wcall, List.set_cons_zero, List.set_cons_succ, Nat.reduceDiv, Nat.reduceMod, Nat.reduceAdd, Nat.reduceSub, Nat.reduceEqDiff, Int.reduceToNat, Int.reduceNatCast', gk, inr, gl, true_and, and_true, Int.zero_add, Int.add_zero, List.length_cons, List.length_nil, Nat.reduceLeDiff, Nat.reduceLT, Nat.le_refl, Nat.zero_le, Classical.not_not, Nat.zero_add, lc_ge, lc_gt, lc_le, lc_lt, lc_eq, mup_same, mu_ng, mu_ni, ne_eq, not_false_eq_true, Int.reduceEq, false_and, and_false, false_or, or_false, true_or, or_true, i10, i11, Int.reduceMul, Int.reduceAdd, Int.reduceSub, Int.mul_one, not_true_eq_false, false_implies, true_implies, implies_true, i01, i02]); (try (simp (disch := omega) only [w32_of, w64_of]))) | (refine And.intro ?_ ?_) | (refine (fun _ => ?_ : _ → _)) | (simp (disch := omega) only [w32_of, w64_of]))
        all_goals (first | rfl | omega | (refine congrArg (fun z : Int => some (aI z)) ?_; omega) | (exact absurd True.intro (by assumption)) | (exfalso; omega) | decide | (simp only [or_true, true_or]; done) | (split <;> first | rfl | (exfalso; omega) | (split <;> first | rfl | (exfalso; omega) | (split <;> first | rfl | (exfalso; omega)))) | skip)
        all_goals (refine Wq.less _ (llb.lle ?_) ih2; simp only [llb]; simp only [List.cons.injEq, Option.some.injEq, Sum.inl.injEq, Sum.inr.injEq, Prod.mk.injEq, true_and, and_true]; simp [lcat]; done)
    refine b_92_29 ?_
    simp only [wx_iconst, wx_ldc2, wx_iload, wx_lload, wx_aload, wx_istore, wx_lstore, wx_astore, wx_iinc, wx_iadd, wx_isub, wx_imul, wx_iand, wx_ior, wx_ixor, wx_ishl, wx_ishr, wx_iushr, wx_irem, wx_ineg, wx_ladd, wx_land, wx_lor, wx_lrem, wx_lneg, wx_lshl, wx_lushr, wx_lcmp, wx_i2l, wx_l2i, wx_i2b, wx_i2c, wx_dupI, wx_popI, wx_dupR, wx_popR, wx_dup2, wx_icmp_eq, wx_if_eq, wx_icmp_ne, wx_if_ne, wx_icmp_lt, wx_if_lt, wx_icmp_ge, wx_if_ge, wx_icmp_gt, wx_if_gt, wx_icmp_le, wx_if_le, wx_acmp_eq, wx_acmp_ne, wx_goto, wx_tsw, wx_lsw, wx_getf, wx_putf, wx_iald, wx_bald, wx_cald, wx_lald, wx_aald1, wx_aald2, wx_iast, wx_bast, wx_cast, wx_last, wx_alen, wx_gets, wx_invV, wx_ord12, wx_ord13, wx_word, wx_want, wx_slen, wx_schr, wx_invS, wx_ret0, wx_ret1, wx_lret, wx_aret, wx_vret, wl_nil, wl_cons, li_0, li_s, lr_0, lr_s, ll_0, ll_s, pp_0, pp_s, rc_mk, rp_n, rp_s, fp_0, fp_1, fp_2, fg_0, fg_1, fg_2, fg_3, wcallV, wcall, List.set_cons_zero, List.set_cons_succ, Nat.reduceDiv, Nat.reduceMod, Nat.reduceAdd, Nat.reduceSub, Nat.reduceEqDiff, Int.reduceToNat, Int.reduceNatCast', gk, inr, gl, true_and, and_true, Int.zero_add, Int.add_zero, List.length_cons, List.length_nil, Nat.reduceLeDiff, Nat.reduceLT, Nat.le_refl, Nat.zero_le, Classical.not_not, Nat.zero_add, lc_ge, lc_gt, lc_le, lc_lt, lc_eq, mup_same, mu_ng, mu_ni, ne_eq, not_false_eq_true, Int.reduceEq, false_and, and_false, false_or, or_false, true_or, or_true, i10, i11, Int.reduceMul, Int.reduceAdd, Int.reduceSub, Int.mul_one, not_true_eq_false, false_implies, true_implies, implies_true, i01, i02, g1]
    repeat' (first | ((first | refine Wq_i (i := 0) rfl (b_92_0 ?_) | refine Wq_i (i := 19) rfl (b_92_19 ?_) | refine Wq_i (i := 56) rfl (b_92_56 ?_)); (try simp only [wx_iconst, wx_ldc2, wx_iload, wx_lload, wx_aload, wx_istore, wx_lstore, wx_astore, wx_iinc, wx_iadd, wx_isub, wx_imul, wx_iand, wx_ior, wx_ixor, wx_ishl, wx_ishr, wx_iushr, wx_irem, wx_ineg, wx_ladd, wx_land, wx_lor, wx_lrem, wx_lneg, wx_lshl, wx_lushr, wx_lcmp, wx_i2l, wx_l2i, wx_i2b, wx_i2c, wx_dupI, wx_popI, wx_dupR, wx_popR, wx_dup2, wx_icmp_eq, wx_if_eq, wx_icmp_ne, wx_if_ne, wx_icmp_lt, wx_if_lt, wx_icmp_ge, wx_if_ge, wx_icmp_gt, wx_if_gt, wx_icmp_le, wx_if_le, wx_acmp_eq, wx_acmp_ne, wx_goto, wx_tsw, wx_lsw, wx_getf, wx_putf, wx_iald, wx_bald, wx_cald, wx_lald, wx_aald1, wx_aald2, wx_iast, wx_bast, wx_cast, wx_last, wx_alen, wx_gets, wx_invV, wx_ord12, wx_ord13, wx_word, wx_want, wx_slen, wx_schr, wx_invS, wx_ret0, wx_ret1, wx_lret, wx_aret, wx_vret, wl_nil, wl_cons, li_0, li_s, lr_0, lr_s, ll_0, ll_s, pp_0, pp_s, rc_mk, rp_n, rp_s, fp_0, fp_1, fp_2, fg_0, fg_1, fg_2, fg_3, wcallV, wcall, List.set_cons_zero, List.set_cons_succ, Nat.reduceDiv, Nat.reduceMod, Nat.reduceAdd, Nat.reduceSub, Nat.reduceEqDiff, Int.reduceToNat, Int.reduceNatCast', gk, inr, gl, true_and, and_true, Int.zero_add, Int.add_zero, List.length_cons, List.length_nil, Nat.reduceLeDiff, Nat.reduceLT, Nat.le_refl, Nat.zero_le, Classical.not_not, Nat.zero_add, lc_ge, lc_gt, lc_le, lc_lt, lc_eq, mup_same, mu_ng, mu_ni, ne_eq, not_false_eq_true, Int.reduceEq, false_and, and_false, false_or, or_false, true_or, or_true, i10, i11, Int.reduceMul, Int.reduceAdd, Int.reduceSub, Int.mul_one, not_true_eq_false, false_implies, true_implies, implies_true, i01, i02, g1]); (try (simp (disch := omega) only [w32_of, w64_of]))) | (refine And.intro ?_ ?_) | (refine (fun _ => ?_ : _ → _)) | (simp (disch := omega) only [w32_of, w64_of]))
    all_goals (first | rfl | omega | (refine congrArg (fun z : Int => some (aI z)) ?_; omega) | (exact absurd True.intro (by assumption)) | (exfalso; omega) | decide | (simp only [or_true, true_or]; done) | (split <;> first | rfl | (exfalso; omega) | (split <;> first | rfl | (exfalso; omega) | (split <;> first | rfl | (exfalso; omega)))) | skip)
    all_goals (first | exact inner | skip)
