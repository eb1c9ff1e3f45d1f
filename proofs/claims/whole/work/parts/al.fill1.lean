/-! ===== the class's Plan: from the Outline ===== -/
/-- what Outline and Tokens have -/
def ogr (g : Nat) : Bool := g == 2 || g == 3 || g == 8194837 || g == 8194070 || g == 8194071 || g == 8194584 || g == 8194585 || g == 8194842 || g == 8194075 || g == 8194076 || g == 1366045 || g == 1366046 || g == 1366047 || g == 1366048 || g == 14369 || g == 61562 || g == 39035 || g == 14457
def OG (Y Z : AMem) : Prop := ∀ (g : Nat) (t x : Int), ogr g = true → Z g t x = Y g t x
theorem OG.w {Y Z : AMem} (h : OG Y Z) {g : Nat} (t x v : Int) (hg : ogr g = false) : OG Y (mup Z g t x v) := fun g' t' x' e => by
  rw [mu_ng (by rintro rfl; rw [hg] at e; cases e)]
  exact h g' t' x' e
section FILL1
variable {Y Z : AMem} {K : Nat → Int} {T F : Nat} {m : Int}
theorem OG_cmg (h : OG Y Z) (t : Int) : cmg Z t = cmg Y t := by
  unfold cmg cam
  simp only [h 8194584 _ _ rfl, h 8194585 _ _ rfl, h 1366047 _ _ rfl, h 3 _ _ rfl]
theorem OG_c2 (h : OG Y Z) (hc : C2 Y K T F) : C2 Z K T F := by
  refine C2.mk ⟨hc.ck.1, ?_, fun i hi => ?_, hc.ck.2.2.2.1, hc.ck.2.2.2.2⟩ ?_ (fun t q => ?_) (fun t q => ?_) (fun t q => ?_) ?_ (fun j f a b c l => ?_) hc.ok ⟨fun i hi => ?_, fun i hi => ?_, fun i hi => ?_⟩ hc.n6
  · rw [h _ _ _ rfl]; exact hc.ck.2.1
  · rw [h _ _ _ rfl]; exact hc.ck.2.2.1 i hi
  · rw [h _ _ _ rfl]; exact hc.nx
  · rw [h _ _ _ rfl]; exact hc.ro t q
  · rw [h _ _ _ rfl]; exact hc.ow t q
  · rw [h _ _ _ rfl, OG_cmg h]; exact hc.me t q
  · refine GC.mk ?_ ?_ ?_ ?_ ?_
    · rw [h _ _ _ rfl]; exact hc.gc.it
    · intro s a b; rw [h _ _ _ rfl]; exact hc.gc.to s a b
    · intro s a b; rw [h _ _ _ rfl]; exact hc.gc.so s a b
    · intro s a b; rw [h _ _ _ rfl]; exact hc.gc.na s a b
    · intro s a b; rw [h _ _ _ rfl]; exact hc.gc.nu s a b
  · rw [h _ _ _ rfl]; exact hc.he j f a b c l
  · rw [h _ _ _ rfl]; exact hc.sw.1 i hi
  · rw [h _ _ _ rfl]; exact hc.sw.2.1 i hi
  · rw [h _ _ _ rfl]; exact hc.sw.2.2 i hi
theorem OG_cfn (h : OG Y Z) (m r : Int) : cfn Z K m r = cfn Y K m r := by
  unfold cfn
  rw [h 1366048 _ _ rfl, h 1366047 _ _ rfl]
theorem OG_cvl (h : OG Y Z) (m r d : Int) : cvl Z K m r d = cvl Y K m r d := by
  unfold cvl
  rw [OG_cfn h, h 8194071 _ _ rfl]
theorem OG_cio (h : OG Y Z) (m r : Int) : cio Z K m r = cio Y K m r := by
  unfold cio
  rw [OG_cfn h, h 8194076 _ _ rfl]
theorem OG_cno (h : OG Y Z) (m r : Int) : cno Z K m r = cno Y K m r := by
  unfold cno
  rw [OG_cio h, h 1366046 _ _ rfl]
theorem OG_csy (h : OG Y Z) (m w : Int) : csy Z K m w ↔ csy Y K m w := by
  unfold csy
  rw [h 1366048 _ _ rfl, h 1366047 _ _ rfl]
theorem OG_itm (h : OG Y Z) : itm Z m ↔ itm Y m := by
  unfold itm
  rw [h 3 _ _ rfl]
theorem FV (hc : C2 Y K T F) (h : OG Y Z) (hm : itm Y m) (r d : Int) (hr : 0 ≤ r ∧ r < 19) : Runs 158 [aR 3 0, aI m, aR 13 r, aI d] Z (fun x M' => x = some (aI (cvl Y K m r d)) ∧ M' = Z) := by
  have q := R_O_valueOf (OG_c2 h hc) ((OG_itm h).mpr hm) r d hr
  rw [OG_cvl h] at q
  exact q
theorem FN (hc : C2 Y K T F) (h : OG Y Z) (hm : itm Y m) (r : Int) (hr : 0 ≤ r ∧ r < 19) : Runs 172 [aR 3 0, aI m, aR 13 r] Z (fun x M' => x = some (aI (cno Y K m r)) ∧ M' = Z) := by
  have q := R_O_numberOf (OG_c2 h hc) ((OG_itm h).mpr hm) r hr
  rw [OG_cno h] at q
  exact q
theorem FY (hc : C2 Y K T F) (h : OG Y Z) (hm : itm Y m) {w o : Int} (hw : vdk w) (ho : kmp w = o) : Runs 163 [aR 3 0, aI m, aR 12 o] Z (EW Z (csy Y K m w)) := by
  have q := R_O_says (OG_c2 h hc) ((OG_itm h).mpr hm) hw ho
  rw [propext (OG_csy (K := K) h m w)] at q
  exact q
/-- the numbers of the names of a role, as bits -/
def cbf (Y : AMem) (K : Nat → Int) (r : Int) (a : Nat) : Nat → Int
  | 0 => 0
  | n + 1 => if rol K (a + n) = r ∧ ¬ cmt Y (a + n) = -1 then iOr (cbf Y K r a n) (iShl 1 (Y 1366046 0 ((cmt Y (a + n))))) else cbf Y K r a n
def cbt (Y : AMem) (K : Nat → Int) (m r : Int) : Int := cbf Y K r (Y 1366047 0 (m)).toNat ((Y 1366048 0 (m)).toNat - (Y 1366047 0 (m)).toNat)
theorem R_O_bitsOf (hc : C2 Y K T F) (h0 : 0 ≤ m) (h1 : m < (Y 3 0 9)) (r : Int) (hr : 0 ≤ r ∧ r < 19) : Runs 176 [aR 3 0, aI m, aR 13 r] Y (fun x M' => x = some (aI (cbt Y K m r)) ∧ M' = Y) := by
  obtain ⟨j, f, i1, i2, i3, i4, i5, i6, i7, i8, _⟩ := hc.item h0 h1
  have hT := hc.FT
  have h4 := hc.ck.1
  have h6 := hc.n6
  have it := hc.gc.it
  have l := i6.1.1
  have key : ∀ (N n : Nat), f = j + 1 + n + N → Wq 176 cd_176 (fun x M' => x = some (aI (cbf Y K r (j + 1) (f - (j + 1)))) ∧ M' = Y) 7 [some (aR 3 0), some (aI m), some (aR 13 r), some (aI (cbf Y K r (j + 1) n)), some (aI ((j + 1 + n : Nat) : Int))] [] Y := by
    intro N
    induction N with
    | zero =>
      intro n e
      rw [show f - (j + 1) = n by omega]
      generalize cbf Y K r (j + 1) n = b at *
      refine b_176_7 ?_
      simp only [wx_iconst, wx_ldc2, wx_iload, wx_lload, wx_aload, wx_istore, wx_lstore, wx_astore, wx_iinc, wx_iadd, wx_isub, wx_imul, wx_iand, wx_ior, wx_ixor, wx_ishl, wx_ishr, wx_iushr, wx_irem, wx_ineg, wx_ladd, wx_land, wx_lor, wx_lrem, wx_lneg, wx_lshl, wx_lushr, wx_lcmp, wx_i2l, wx_l2i, wx_i2b, wx_i2c, wx_dupI, wx_popI, wx_dupR, wx_popR, wx_dup2, wx_icmp_eq, wx_if_eq, wx_icmp_ne, wx_if_ne, wx_icmp_lt, wx_if_lt, wx_icmp_ge, wx_if_ge, wx_icmp_gt, wx_if_gt, wx_icmp_le, wx_if_le, wx_acmp_eq, wx_acmp_ne, wx_goto, wx_tsw, wx_lsw, wx_getf, wx_putf, wx_iald, wx_bald, wx_cald, wx_lald, wx_aald1, wx_aald2, wx_iast, wx_bast, wx_cast, wx_last, wx_alen, wx_gets, wx_invV, wx_ord12, wx_ord13, wx_word, wx_want, wx_slen, wx_schr, wx_invS, wx_ret0, wx_ret1, wx_lret, wx_aret, wx_vret, wl_nil, wl_cons, li_0, li_s, lr_0, lr_s, ll_0, ll_s, pp_0, pp_s, rc_mk, rp_n, rp_s, fp_0, fp_1, fp_2, fg_0, fg_1, fg_2, fg_3, wcallV, wcall, List.set_cons_zero, List.set_cons_succ, Nat.reduceDiv, Nat.reduceMod, Nat.reduceAdd, Nat.reduceSub, Nat.reduceEqDiff, Int.reduceToNat, Int.reduceNatCast', gk, inr, gl, true_and, and_true, Int.zero_add, Int.add_zero, List.length_cons, List.length_nil, Nat.reduceLeDiff, Nat.reduceLT, Nat.le_refl, Nat.zero_le, Classical.not_not, Nat.zero_add, lc_ge, lc_gt, lc_le, lc_lt, lc_eq, mup_same, mu_ng, mu_ni, ne_eq, not_false_eq_true, Int.reduceEq, false_and, and_false, false_or, or_false, true_or, or_true, i10, i11, Int.reduceMul, Int.reduceAdd, Int.reduceSub, Int.mul_one, not_true_eq_false, false_implies, true_implies, implies_true, i01, i02, wx_a39, wx_a40, wx_a41, wx_a42, wx_a35, wx_a37, wx_a21, wx_a26, wx_aK, wx_s21, wx_s26, wx_ldcs, i8]
      repeat' (first | ((first | refine Wq_i (i := 0) rfl (b_176_0 ?_) | refine Wq_i (i := 37) rfl (b_176_37 ?_) | refine Wq_i (i := 39) rfl (b_176_39 ?_)); (try simp only [wx_iconst, wx_ldc2, wx_iload, wx_lload, wx_aload, wx_istore, wx_lstore, wx_astore, wx_iinc, wx_iadd, wx_isub, wx_imul, wx_iand, wx_ior, wx_ixor, wx_ishl, wx_ishr, wx_iushr, wx_irem, wx_ineg, wx_ladd, wx_land, wx_lor, wx_lrem, wx_lneg, wx_lshl, wx_lushr, wx_lcmp, wx_i2l, wx_l2i, wx_i2b, wx_i2c, wx_dupI, wx_popI, wx_dupR, wx_popR, wx_dup2, wx_icmp_eq, wx_if_eq, wx_icmp_ne, wx_if_ne, wx_icmp_lt, wx_if_lt, wx_icmp_ge, wx_if_ge, wx_icmp_gt, wx_if_gt, wx_icmp_le, wx_if_le, wx_acmp_eq, wx_acmp_ne, wx_goto, wx_tsw, wx_lsw, wx_getf, wx_putf, wx_iald, wx_bald, wx_cald, wx_lald, wx_aald1, wx_aald2, wx_iast, wx_bast, wx_cast, wx_last, wx_alen, wx_gets, wx_invV, wx_ord12, wx_ord13, wx_word, wx_want, wx_slen, wx_schr, wx_invS, wx_ret0, wx_ret1, wx_lret, wx_aret, wx_vret, wl_nil, wl_cons, li_0, li_s, lr_0, lr_s, ll_0, ll_s, pp_0, pp_s, rc_mk, rp_n, rp_s, fp_0, fp_1, fp_2, fg_0, fg_1, fg_2, fg_3, wcallV, wcall, List.set_cons_zero, List.set_cons_succ, Nat.reduceDiv, Nat.reduceMod, Nat.reduceAdd, Nat.reduceSub, Nat.reduceEqDiff, Int.reduceToNat, Int.reduceNatCast', gk, inr, gl, true_and, and_true, Int.zero_add, Int.add_zero, List.length_cons, List.length_nil, Nat.reduceLeDiff, Nat.reduceLT, Nat.le_refl, Nat.zero_le, Classical.not_not, Nat.zero_add, lc_ge, lc_gt, lc_le, lc_lt, lc_eq, mup_same, mu_ng, mu_ni, ne_eq, not_false_eq_true, Int.reduceEq, false_and, and_false, false_or, or_false, true_or, or_true, i10, i11, Int.reduceMul, Int.reduceAdd, Int.reduceSub, Int.mul_one, not_true_eq_false, false_implies, true_implies, implies_true, i01, i02, wx_a39, wx_a40, wx_a41, wx_a42, wx_a35, wx_a37, wx_a21, wx_a26, wx_aK, wx_s21, wx_s26, wx_ldcs, i8]); (try (simp (disch := omega) only [w32_of, w64_of]))) | (refine And.intro ?_ ?_) | (refine (fun _ => ?_ : _ → _)) | (simp (disch := omega) only [w32_of, w64_of]))
      all_goals (first | rfl | omega | (refine congrArg (fun z : Int => some (aI z)) ?_; omega) | (exact absurd True.intro (by assumption)) | (exfalso; omega) | decide | (simp only [or_true, true_or]; done) | (split <;> first | rfl | (exfalso; omega) | (split <;> first | rfl | (exfalso; omega) | (split <;> first | rfl | (exfalso; omega)))) | skip)
      all_goals (first | (exfalso; (try simp (disch := omega) only [w32_of, w64_of] at *); first | omega | contradiction) | skip)
    | succ N ih =>
      intro n e
      have ih := ih (n + 1) (by omega)
      rw [show ((j + 1 + (n + 1) : Nat) : Int) = ((j + 1 + n : Nat) : Int) + 1 by omega] at ih
      have ro := hc.ro (j + 1 + n) (by omega)
      have rb : 0 ≤ rol K (j + 1 + n) ∧ rol K (j + 1 + n) ≤ 18 := dro_b _ _
      have mb := me_b hc (show j + 1 + n < F by omega)
      have st : cbf Y K r (j + 1) (n + 1) = if rol K (j + 1 + n) = r ∧ ¬ cmt Y (j + 1 + n) = -1 then iOr (cbf Y K r (j + 1) n) (iShl 1 (Y 1366046 0 ((cmt Y (j + 1 + n))))) else cbf Y K r (j + 1) n := rfl
      have em : (Y 8194076 0 (((j + 1 + n : Nat) : Int))) = cmt Y (j + 1 + n) := rfl
      rw [em] at mb
      by_cases d : rol K (j + 1 + n) = r ∧ ¬ cmt Y (j + 1 + n) = -1
      · rw [if_pos d] at st
        rw [st] at ih
        have mb := mb.resolve_left d.2
        have d2 := d.2
        rw [d.1] at ro
        clear st d
        generalize cmt Y (j + 1 + n) = c at *
        generalize cbf Y K r (j + 1) n = b at *
        refine b_176_7 ?_
        simp only [wx_iconst, wx_ldc2, wx_iload, wx_lload, wx_aload, wx_istore, wx_lstore, wx_astore, wx_iinc, wx_iadd, wx_isub, wx_imul, wx_iand, wx_ior, wx_ixor, wx_ishl, wx_ishr, wx_iushr, wx_irem, wx_ineg, wx_ladd, wx_land, wx_lor, wx_lrem, wx_lneg, wx_lshl, wx_lushr, wx_lcmp, wx_i2l, wx_l2i, wx_i2b, wx_i2c, wx_dupI, wx_popI, wx_dupR, wx_popR, wx_dup2, wx_icmp_eq, wx_if_eq, wx_icmp_ne, wx_if_ne, wx_icmp_lt, wx_if_lt, wx_icmp_ge, wx_if_ge, wx_icmp_gt, wx_if_gt, wx_icmp_le, wx_if_le, wx_acmp_eq, wx_acmp_ne, wx_goto, wx_tsw, wx_lsw, wx_getf, wx_putf, wx_iald, wx_bald, wx_cald, wx_lald, wx_aald1, wx_aald2, wx_iast, wx_bast, wx_cast, wx_last, wx_alen, wx_gets, wx_invV, wx_ord12, wx_ord13, wx_word, wx_want, wx_slen, wx_schr, wx_invS, wx_ret0, wx_ret1, wx_lret, wx_aret, wx_vret, wl_nil, wl_cons, li_0, li_s, lr_0, lr_s, ll_0, ll_s, pp_0, pp_s, rc_mk, rp_n, rp_s, fp_0, fp_1, fp_2, fg_0, fg_1, fg_2, fg_3, wcallV, wcall, List.set_cons_zero, List.set_cons_succ, Nat.reduceDiv, Nat.reduceMod, Nat.reduceAdd, Nat.reduceSub, Nat.reduceEqDiff, Int.reduceToNat, Int.reduceNatCast', gk, inr, gl, true_and, and_true, Int.zero_add, Int.add_zero, List.length_cons, List.length_nil, Nat.reduceLeDiff, Nat.reduceLT, Nat.le_refl, Nat.zero_le, Classical.not_not, Nat.zero_add, lc_ge, lc_gt, lc_le, lc_lt, lc_eq, mup_same, mu_ng, mu_ni, ne_eq, not_false_eq_true, Int.reduceEq, false_and, and_false, false_or, or_false, true_or, or_true, i10, i11, Int.reduceMul, Int.reduceAdd, Int.reduceSub, Int.mul_one, not_true_eq_false, false_implies, true_implies, implies_true, i01, i02, wx_a39, wx_a40, wx_a41, wx_a42, wx_a35, wx_a37, wx_a21, wx_a26, wx_aK, wx_s21, wx_s26, wx_ldcs, i8, ro, em]
        repeat' (first | ((first | refine Wq_i (i := 0) rfl (b_176_0 ?_) | refine Wq_i (i := 37) rfl (b_176_37 ?_) | refine Wq_i (i := 39) rfl (b_176_39 ?_)); (try simp only [wx_iconst, wx_ldc2, wx_iload, wx_lload, wx_aload, wx_istore, wx_lstore, wx_astore, wx_iinc, wx_iadd, wx_isub, wx_imul, wx_iand, wx_ior, wx_ixor, wx_ishl, wx_ishr, wx_iushr, wx_irem, wx_ineg, wx_ladd, wx_land, wx_lor, wx_lrem, wx_lneg, wx_lshl, wx_lushr, wx_lcmp, wx_i2l, wx_l2i, wx_i2b, wx_i2c, wx_dupI, wx_popI, wx_dupR, wx_popR, wx_dup2, wx_icmp_eq, wx_if_eq, wx_icmp_ne, wx_if_ne, wx_icmp_lt, wx_if_lt, wx_icmp_ge, wx_if_ge, wx_icmp_gt, wx_if_gt, wx_icmp_le, wx_if_le, wx_acmp_eq, wx_acmp_ne, wx_goto, wx_tsw, wx_lsw, wx_getf, wx_putf, wx_iald, wx_bald, wx_cald, wx_lald, wx_aald1, wx_aald2, wx_iast, wx_bast, wx_cast, wx_last, wx_alen, wx_gets, wx_invV, wx_ord12, wx_ord13, wx_word, wx_want, wx_slen, wx_schr, wx_invS, wx_ret0, wx_ret1, wx_lret, wx_aret, wx_vret, wl_nil, wl_cons, li_0, li_s, lr_0, lr_s, ll_0, ll_s, pp_0, pp_s, rc_mk, rp_n, rp_s, fp_0, fp_1, fp_2, fg_0, fg_1, fg_2, fg_3, wcallV, wcall, List.set_cons_zero, List.set_cons_succ, Nat.reduceDiv, Nat.reduceMod, Nat.reduceAdd, Nat.reduceSub, Nat.reduceEqDiff, Int.reduceToNat, Int.reduceNatCast', gk, inr, gl, true_and, and_true, Int.zero_add, Int.add_zero, List.length_cons, List.length_nil, Nat.reduceLeDiff, Nat.reduceLT, Nat.le_refl, Nat.zero_le, Classical.not_not, Nat.zero_add, lc_ge, lc_gt, lc_le, lc_lt, lc_eq, mup_same, mu_ng, mu_ni, ne_eq, not_false_eq_true, Int.reduceEq, false_and, and_false, false_or, or_false, true_or, or_true, i10, i11, Int.reduceMul, Int.reduceAdd, Int.reduceSub, Int.mul_one, not_true_eq_false, false_implies, true_implies, implies_true, i01, i02, wx_a39, wx_a40, wx_a41, wx_a42, wx_a35, wx_a37, wx_a21, wx_a26, wx_aK, wx_s21, wx_s26, wx_ldcs, i8, ro, em]); (try (simp (disch := omega) only [w32_of, w64_of]))) | (refine And.intro ?_ ?_) | (refine (fun _ => ?_ : _ → _)) | (simp (disch := omega) only [w32_of, w64_of]))
        all_goals (first | rfl | omega | (refine congrArg (fun z : Int => some (aI z)) ?_; omega) | (exact absurd True.intro (by assumption)) | (exfalso; omega) | decide | (simp only [or_true, true_or]; done) | (split <;> first | rfl | (exfalso; omega) | (split <;> first | rfl | (exfalso; omega) | (split <;> first | rfl | (exfalso; omega)))) | skip)
        all_goals (first | exact ih | (exfalso; (try simp (disch := omega) only [w32_of, w64_of] at *); first | omega | contradiction) | skip)
      · rw [if_neg d] at st
        rw [st] at ih
        clear st
        generalize cmt Y (j + 1 + n) = c at *
        generalize cbf Y K r (j + 1) n = b at *
        generalize rol K (j + 1 + n) = z at *
        refine b_176_7 ?_
        simp only [wx_iconst, wx_ldc2, wx_iload, wx_lload, wx_aload, wx_istore, wx_lstore, wx_astore, wx_iinc, wx_iadd, wx_isub, wx_imul, wx_iand, wx_ior, wx_ixor, wx_ishl, wx_ishr, wx_iushr, wx_irem, wx_ineg, wx_ladd, wx_land, wx_lor, wx_lrem, wx_lneg, wx_lshl, wx_lushr, wx_lcmp, wx_i2l, wx_l2i, wx_i2b, wx_i2c, wx_dupI, wx_popI, wx_dupR, wx_popR, wx_dup2, wx_icmp_eq, wx_if_eq, wx_icmp_ne, wx_if_ne, wx_icmp_lt, wx_if_lt, wx_icmp_ge, wx_if_ge, wx_icmp_gt, wx_if_gt, wx_icmp_le, wx_if_le, wx_acmp_eq, wx_acmp_ne, wx_goto, wx_tsw, wx_lsw, wx_getf, wx_putf, wx_iald, wx_bald, wx_cald, wx_lald, wx_aald1, wx_aald2, wx_iast, wx_bast, wx_cast, wx_last, wx_alen, wx_gets, wx_invV, wx_ord12, wx_ord13, wx_word, wx_want, wx_slen, wx_schr, wx_invS, wx_ret0, wx_ret1, wx_lret, wx_aret, wx_vret, wl_nil, wl_cons, li_0, li_s, lr_0, lr_s, ll_0, ll_s, pp_0, pp_s, rc_mk, rp_n, rp_s, fp_0, fp_1, fp_2, fg_0, fg_1, fg_2, fg_3, wcallV, wcall, List.set_cons_zero, List.set_cons_succ, Nat.reduceDiv, Nat.reduceMod, Nat.reduceAdd, Nat.reduceSub, Nat.reduceEqDiff, Int.reduceToNat, Int.reduceNatCast', gk, inr, gl, true_and, and_true, Int.zero_add, Int.add_zero, List.length_cons, List.length_nil, Nat.reduceLeDiff, Nat.reduceLT, Nat.le_refl, Nat.zero_le, Classical.not_not, Nat.zero_add, lc_ge, lc_gt, lc_le, lc_lt, lc_eq, mup_same, mu_ng, mu_ni, ne_eq, not_false_eq_true, Int.reduceEq, false_and, and_false, false_or, or_false, true_or, or_true, i10, i11, Int.reduceMul, Int.reduceAdd, Int.reduceSub, Int.mul_one, not_true_eq_false, false_implies, true_implies, implies_true, i01, i02, wx_a39, wx_a40, wx_a41, wx_a42, wx_a35, wx_a37, wx_a21, wx_a26, wx_aK, wx_s21, wx_s26, wx_ldcs, i8, ro, em]
        repeat' (first | ((first | refine Wq_i (i := 0) rfl (b_176_0 ?_) | refine Wq_i (i := 37) rfl (b_176_37 ?_) | refine Wq_i (i := 39) rfl (b_176_39 ?_)); (try simp only [wx_iconst, wx_ldc2, wx_iload, wx_lload, wx_aload, wx_istore, wx_lstore, wx_astore, wx_iinc, wx_iadd, wx_isub, wx_imul, wx_iand, wx_ior, wx_ixor, wx_ishl, wx_ishr, wx_iushr, wx_irem, wx_ineg, wx_ladd, wx_land, wx_lor, wx_lrem, wx_lneg, wx_lshl, wx_lushr, wx_lcmp, wx_i2l, wx_l2i, wx_i2b, wx_i2c, wx_dupI, wx_popI, wx_dupR, wx_popR, wx_dup2, wx_icmp_eq, wx_if_eq, wx_icmp_ne, wx_if_ne, wx_icmp_lt, wx_if_lt, wx_icmp_ge, wx_if_ge, wx_icmp_gt, wx_if_gt, wx_icmp_le, wx_if_le, wx_acmp_eq, wx_acmp_ne, wx_goto, wx_tsw, wx_lsw, wx_getf, wx_putf, wx_iald, wx_bald, wx_cald, wx_lald, wx_aald1, wx_aald2, wx_iast, wx_bast, wx_cast, wx_last, wx_alen, wx_gets, wx_invV, wx_ord12, wx_ord13, wx_word, wx_want, wx_slen, wx_schr, wx_invS, wx_ret0, wx_ret1, wx_lret, wx_aret, wx_vret, wl_nil, wl_cons, li_0, li_s, lr_0, lr_s, ll_0, ll_s, pp_0, pp_s, rc_mk, rp_n, rp_s, fp_0, fp_1, fp_2, fg_0, fg_1, fg_2, fg_3, wcallV, wcall, List.set_cons_zero, List.set_cons_succ, Nat.reduceDiv, Nat.reduceMod, Nat.reduceAdd, Nat.reduceSub, Nat.reduceEqDiff, Int.reduceToNat, Int.reduceNatCast', gk, inr, gl, true_and, and_true, Int.zero_add, Int.add_zero, List.length_cons, List.length_nil, Nat.reduceLeDiff, Nat.reduceLT, Nat.le_refl, Nat.zero_le, Classical.not_not, Nat.zero_add, lc_ge, lc_gt, lc_le, lc_lt, lc_eq, mup_same, mu_ng, mu_ni, ne_eq, not_false_eq_true, Int.reduceEq, false_and, and_false, false_or, or_false, true_or, or_true, i10, i11, Int.reduceMul, Int.reduceAdd, Int.reduceSub, Int.mul_one, not_true_eq_false, false_implies, true_implies, implies_true, i01, i02, wx_a39, wx_a40, wx_a41, wx_a42, wx_a35, wx_a37, wx_a21, wx_a26, wx_aK, wx_s21, wx_s26, wx_ldcs, i8, ro, em]); (try (simp (disch := omega) only [w32_of, w64_of]))) | (refine And.intro ?_ ?_) | (refine (fun _ => ?_ : _ → _)) | (simp (disch := omega) only [w32_of, w64_of]))
        all_goals (first | rfl | omega | (refine congrArg (fun z : Int => some (aI z)) ?_; omega) | (exact absurd True.intro (by assumption)) | (exfalso; omega) | decide | (simp only [or_true, true_or]; done) | (split <;> first | rfl | (exfalso; omega) | (split <;> first | rfl | (exfalso; omega) | (split <;> first | rfl | (exfalso; omega)))) | skip)
        all_goals (first | exact ih | (exfalso; (try simp (disch := omega) only [w32_of, w64_of] at *); first | omega | contradiction) | skip)
  have key := key (f - (j + 1)) 0 (by omega)
  have eb : cbt Y K m r = cbf Y K r (j + 1) (f - (j + 1)) := by
    unfold cbt
    rw [i5, i8]
    rw [show (((j + 1 : Nat) : Nat) : Int).toNat = j + 1 by omega, show (((f : Nat) : Int).toNat - (j + 1)) = f - (j + 1) by omega]
  rw [eb]
  refine Runs.go2 (cd := cd_176) _ (by decide) (by decide) ck_176 rfl (Nat.le_of_ble_eq_true rfl) (show _ = ([some (aR 3 0), some (aI m), some (aR 13 r), none, none] : Lc) from rfl) (fun ho hM => ?_)
  repeat' (first | ((first | refine Wq_i (i := 0) rfl (b_176_0 ?_) | refine Wq_i (i := 37) rfl (b_176_37 ?_) | refine Wq_i (i := 39) rfl (b_176_39 ?_)); (try simp only [wx_iconst, wx_ldc2, wx_iload, wx_lload, wx_aload, wx_istore, wx_lstore, wx_astore, wx_iinc, wx_iadd, wx_isub, wx_imul, wx_iand, wx_ior, wx_ixor, wx_ishl, wx_ishr, wx_iushr, wx_irem, wx_ineg, wx_ladd, wx_land, wx_lor, wx_lrem, wx_lneg, wx_lshl, wx_lushr, wx_lcmp, wx_i2l, wx_l2i, wx_i2b, wx_i2c, wx_dupI, wx_popI, wx_dupR, wx_popR, wx_dup2, wx_icmp_eq, wx_if_eq, wx_icmp_ne, wx_if_ne, wx_icmp_lt, wx_if_lt, wx_icmp_ge, wx_if_ge, wx_icmp_gt, wx_if_gt, wx_icmp_le, wx_if_le, wx_acmp_eq, wx_acmp_ne, wx_goto, wx_tsw, wx_lsw, wx_getf, wx_putf, wx_iald, wx_bald, wx_cald, wx_lald, wx_aald1, wx_aald2, wx_iast, wx_bast, wx_cast, wx_last, wx_alen, wx_gets, wx_invV, wx_ord12, wx_ord13, wx_word, wx_want, wx_slen, wx_schr, wx_invS, wx_ret0, wx_ret1, wx_lret, wx_aret, wx_vret, wl_nil, wl_cons, li_0, li_s, lr_0, lr_s, ll_0, ll_s, pp_0, pp_s, rc_mk, rp_n, rp_s, fp_0, fp_1, fp_2, fg_0, fg_1, fg_2, fg_3, wcallV, wcall, List.set_cons_zero, List.set_cons_succ, Nat.reduceDiv, Nat.reduceMod, Nat.reduceAdd, Nat.reduceSub, Nat.reduceEqDiff, Int.reduceToNat, Int.reduceNatCast', gk, inr, gl, true_and, and_true, Int.zero_add, Int.add_zero, List.length_cons, List.length_nil, Nat.reduceLeDiff, Nat.reduceLT, Nat.le_refl, Nat.zero_le, Classical.not_not, Nat.zero_add, lc_ge, lc_gt, lc_le, lc_lt, lc_eq, mup_same, mu_ng, mu_ni, ne_eq, not_false_eq_true, Int.reduceEq, false_and, and_false, false_or, or_false, true_or, or_true, i10, i11, Int.reduceMul, Int.reduceAdd, Int.reduceSub, Int.mul_one, not_true_eq_false, false_implies, true_implies, implies_true, i01, i02, wx_a39, wx_a40, wx_a41, wx_a42, wx_a35, wx_a37, wx_a21, wx_a26, wx_aK, wx_s21, wx_s26, wx_ldcs, i5]); (try (simp (disch := omega) only [w32_of, w64_of]))) | (refine And.intro ?_ ?_) | (refine (fun _ => ?_ : _ → _)) | (simp (disch := omega) only [w32_of, w64_of]))
  all_goals (first | rfl | omega | (refine congrArg (fun z : Int => some (aI z)) ?_; omega) | (exact absurd True.intro (by assumption)) | (exfalso; omega) | decide | (simp only [or_true, true_or]; done) | (split <;> first | rfl | (exfalso; omega) | (split <;> first | rfl | (exfalso; omega) | (split <;> first | rfl | (exfalso; omega)))) | skip)
  all_goals (first | exact key | (exfalso; (try simp (disch := omega) only [w32_of, w64_of] at *); first | omega | contradiction) | skip)
theorem OG_cbt (h : OG Y Z) (m r : Int) : cbt Z K m r = cbt Y K m r := by
  have e : ∀ n a : Nat, cbf Z K r a n = cbf Y K r a n := by
    intro n a
    induction n with
    | zero => rfl
    | succ n ih =>
      have e1 : cmt Z (a + n) = cmt Y (a + n) := h 8194076 _ _ rfl
      show (if rol K (a + n) = r ∧ ¬ cmt Z (a + n) = -1 then iOr (cbf Z K r a n) (iShl 1 (Z 1366046 0 ((cmt Z (a + n))))) else cbf Z K r a n) = (if rol K (a + n) = r ∧ ¬ cmt Y (a + n) = -1 then iOr (cbf Y K r a n) (iShl 1 (Y 1366046 0 ((cmt Y (a + n))))) else cbf Y K r a n)
      rw [e1, ih, h 1366046 _ _ rfl]
  unfold cbt
  rw [e, h 1366048 _ _ rfl, h 1366047 _ _ rfl]
theorem FT (hc : C2 Y K T F) (h : OG Y Z) (h0 : 0 ≤ m) (h1 : m < (Y 3 0 9)) (r : Int) (hr : 0 ≤ r ∧ r < 19) : Runs 176 [aR 3 0, aI m, aR 13 r] Z (fun x M' => x = some (aI (cbt Y K m r)) ∧ M' = Z) := by
  have q := R_O_bitsOf (OG_c2 h hc) h0 (by rw [h 3 _ _ rfl]; exact h1) r hr
  rw [OG_cbt h] at q
  exact q
end FILL1
