/-! ===== the reference's walk 2: alarm ===== -/
def gA : List Nat := [98393, 98394, 98395, 98396, 98397, 98398, 98399]
/-- an alarm's counter and action -/
def SA1 (M : AMem) (K : Nat → Int) (j : Nat) (k : Int) (Y : AMem) : Prop := (Y 98393 0 (k)) = (M 1433669 0 ((mng M ((j + 3 : Nat) : Int)))) ∧ (Y 98394 0 (k)) = K (j + 4) - 26 ∧ (Y 98395 0 (k)) = (if K (j + 4) = 28 then -1 else (M 1433669 0 ((mng M ((j + 5 : Nat) : Int))))) ∧ (Y 98396 0 (k)) = (if K (j + 4) = 27 then (M 1433669 0 ((mng M ((j + 6 : Nat) : Int)))) else -1)
/-- its auto -/
def SA2 (M : AMem) (K : Nat → Int) (j : Nat) (k : Int) (f : Nat) (Y : AMem) : Prop := (Y 98397 0 (k)) = bfo M K 10 (j + 1) (f - (j + 1)) ∧ ((∃ u : Nat, (j + 1 < u ∧ u < f) ∧ rol K u = 17 ∧ (Y 98398 0 (k)) = (M 8194113 0 ((u : Int)))) ∨ ∀ u : Nat, j + 1 ≤ u → u < f → ¬ rol K u = 17 ∧ ¬ rol K u = 10) ∧ ((∃ u : Nat, (j + 1 < u ∧ u < f) ∧ rol K u = 18 ∧ (Y 98399 0 (k)) = (M 8194113 0 ((u : Int)))) ∨ ((∀ u : Nat, j + 1 ≤ u → u < f → ¬ rol K u = 18) ∧ (Y 98399 0 (k)) = 0))
def SAl (M : AMem) (K : Nat → Int) (j : Nat) (k : Int) (f : Nat) (Y : AMem) : Prop := SA1 M K j k Y ∧ SA2 M K j k f Y
section W2A
variable {M Y0 Y : AMem} {K : Nat → Int} {T F j i : Nat} {k : Int}
theorem SA1_o {Y' : AMem} (h : SA1 M K j k Y) (o : ∀ g : Nat, g ≠ 11 → g ≠ 98397 → g ≠ 98398 → g ≠ 98399 → ∀ t x : Int, Y' g t x = Y g t x) : SA1 M K j k Y' := by
  unfold SA1
  rw [o _ (by decide) (by decide) (by decide) (by decide), o _ (by decide) (by decide) (by decide) (by decide), o _ (by decide) (by decide) (by decide) (by decide), o _ (by decide) (by decide) (by decide) (by decide)]
  exact h
/-- before auto there is none of its roles -/
def nAu (K : Nat → Int) (j i : Nat) : Prop := ∀ u : Nat, j + 1 ≤ u → u < i → ¬ rol K u = 17 ∧ ¬ rol K u = 10 ∧ ¬ rol K u = 18
theorem R_W2_auto (hc : C1 M K T F) (nf : NF M K F) (hw : (M 11 0 21) = 2) (hk : 0 ≤ k ∧ k < 48) (on : Int) (h : dst K i = 37) (hi : i ≤ F) (hji : j + 1 < i) (kk : K i = 29) (hn : nd K (j + 2) i) (na : nAu K j i) (hy : P2 M Y0 Y gA k i) (s1 : SA1 M K j k Y) (ev0 : (Y 98399 0 (k)) = 0) : Runs 34 [aR 11 0, aI k, aI on] Y (E2 M Y0 K F gA k (j + 2) (SAl M K j k)) := by
  have hT := hc.FT
  have hT2 := hc.T4
  have nw := hy.nw
  have l1 := dok_lt hc.ok hi (by rw [kk]; decide)
  have h1 : dst K (i + 1) = 38 := by rw [dst_s h, kk]; rfl
  have ri : rol K i = 0 := rol_e h kk
  obtain ⟨Y1, p1, y1, _, o1⟩ := NX2 hy
  rw [nw] at p1
  have rn := R_W2_names (so := 0) (ru := 0) (ro := 10) hc hw (s := 38) (s' := 39) (fun _ => rfl) rfl rfl rfl rfl (by decide) (fun t q1 q2 q3 q4 => mng_n (nf_auto nf q1 (Or.inr q2) q3) (by decide)) h1 l1 y1
  refine Runs.go2 (cd := cd_34) _ (by decide) (by decide) ck_34 rfl (Nat.le_of_ble_eq_true rfl) (show _ = ([some (aR 11 0), some (aI k), some (aI on), none, none, none, none] : Lc) from rfl) (fun ho hM => ?_)
  refine b_34_0 ?_
  simp only [wx_iconst, wx_ldc2, wx_iload, wx_lload, wx_aload, wx_istore, wx_lstore, wx_astore, wx_iinc, wx_iadd, wx_isub, wx_imul, wx_iand, wx_ior, wx_ixor, wx_ishl, wx_ishr, wx_iushr, wx_irem, wx_ineg, wx_ladd, wx_land, wx_lor, wx_lrem, wx_lneg, wx_lshl, wx_lushr, wx_lcmp, wx_i2l, wx_l2i, wx_i2b, wx_i2c, wx_dupI, wx_popI, wx_dupR, wx_popR, wx_dup2, wx_icmp_eq, wx_if_eq, wx_icmp_ne, wx_if_ne, wx_icmp_lt, wx_if_lt, wx_icmp_ge, wx_if_ge, wx_icmp_gt, wx_if_gt, wx_icmp_le, wx_if_le, wx_acmp_eq, wx_acmp_ne, wx_goto, wx_tsw, wx_lsw, wx_getf, wx_putf, wx_iald, wx_bald, wx_cald, wx_lald, wx_aald1, wx_aald2, wx_iast, wx_bast, wx_cast, wx_last, wx_alen, wx_gets, wx_invV, wx_ord12, wx_ord13, wx_word, wx_want, wx_slen, wx_schr, wx_invS, wx_ret0, wx_ret1, wx_lret, wx_aret, wx_vret, wl_nil, wl_cons, li_0, li_s, lr_0, lr_s, ll_0, ll_s, pp_0, pp_s, rc_mk, rp_n, rp_s, fp_0, fp_1, fp_2, fg_0, fg_1, fg_2, fg_3, wcallV, wcall, List.set_cons_zero, List.set_cons_succ, Nat.reduceDiv, Nat.reduceMod, Nat.reduceAdd, Nat.reduceSub, Nat.reduceEqDiff, Int.reduceToNat, Int.reduceNatCast', gk, inr, gl, true_and, and_true, Int.zero_add, Int.add_zero, List.length_cons, List.length_nil, Nat.reduceLeDiff, Nat.reduceLT, Nat.le_refl, Nat.zero_le, Classical.not_not, Nat.zero_add, lc_ge, lc_gt, lc_le, lc_lt, lc_eq, mup_same, mu_ng, mu_ni, ne_eq, not_false_eq_true, Int.reduceEq, false_and, and_false, false_or, or_false, true_or, or_true, i10, i11, Int.reduceMul, Int.reduceAdd, Int.reduceSub, Int.mul_one, not_true_eq_false, false_implies, true_implies, implies_true, i01, i02, wx_a39, wx_a40, wx_a41, wx_a42, wx_a35, wx_a37, wx_a21, wx_a26, wx_aK, wx_s21, wx_s26, wx_ldcs, nw]
  all_goals (try (simp (disch := omega) only [w32_of, w64_of]))
  rw [p1]
  refine call_re rn ?_
  rintro r M' ⟨f, rfl, u1, u2, u3, u4, u5, u6, u7, u8⟩
  have lf := u2.1
  obtain ⟨a1, a2, a3, a4, a5⟩ := N_2 (w := 30) (s1 := 40) (s2 := 41) hc.ok u4 u3 rfl (by show (if K f = 4 then _ else _) = _; rw [if_neg u5]; rfl) rfl (fun _ => rfl)
  obtain ⟨Y2, r2, y2, b2, o2⟩ := NU2 hc u1 a5 a1 a3
  have n2 := y2.nw
  have r3 := IS1 (y2.pd.rkq hc) n2 (by omega) 31
  have rf : rol K f = 0 := rol_e u4 a1
  have rf1 : rol K (f + 1) = 17 := rol_e a2 a3
  have nn : nd K (j + 2) (f + 2) := nd_2 (nd_t (nd_1 hn kk (by decide)) u2) a1 a3 (by decide)
  have mid : ∀ u : Nat, j + 1 ≤ u → u < f + 1 → ¬ rol K u = 18 := fun u a b z => by
    by_cases c : u < i
    · exact (na u a c).2.2 z
    · by_cases c1 : u = i
      · rw [c1, ri] at z; exact absurd z (by decide)
      · by_cases c2 : u = f
        · rw [c2, rf] at z; exact absurd z (by decide)
        · rcases u7 u (by omega) (by omega) with q | q
          · rw [q.1] at z; exact absurd z (by decide)
          · rw [q.1] at z; exact absurd z (by decide)
  have bs : ∀ g : Nat, f ≤ g → (∀ u : Nat, f ≤ u → u < g → ¬ rol K u = 10) → (Y2 11 0 48) = bfo M K 10 (j + 1) (g - (j + 1)) := fun g l q => by
    rw [b2, u6, bfo_x (j := j) (i := f) (by omega) l q, bfo_y (j := j) (b := i + 1) (by omega) (by omega) (fun u a b z => by
      by_cases c : u < i
      · exact (na u a c).2.1 z
      · rw [show u = i by omega, ri] at z; exact absurd z (by decide))]
  have oo : ∀ (g : Nat) (t x : Int), g ≠ 11 → Y2 g t x = Y g t x := fun g t x q => by rw [o2 g t x q, u8 g t x q, o1 g t x q]
  have w2 : (Y2 11 0 21) = 2 := by rw [y2.pd.2.2.2]; exact hw
  have v2 : (Y2 8194113 0 (((f + 1 : Nat) : Int))) = (M 8194113 0 (((f + 1 : Nat) : Int))) := y2.pd.1 _ _ (show pdG 8194113 = true from rfl)
  by_cases d : K (f + 2) = 31
  · rw [if_pos d] at r3
    have c2 : dst K (f + 3) = 42 := by rw [show f + 3 = (f + 2) + 1 by omega, dst_s a4, d]; rfl
    have l3 := dok_lt hc.ok a5 (by rw [d]; decide)
    obtain ⟨c3, c4, c5⟩ := W_2 (w := 3) (s1 := 0) hc.ok c2 l3 rfl rfl
    obtain ⟨Y3, r4, y3, b3, o3⟩ := NU2 hc y2 c5 d c3
    have rf2 : rol K (f + 2) = 0 := rol_e a4 d
    have rf3 : rol K (f + 3) = 18 := rol_e c2 c3
    have bb := bs (f + 4) (by omega) (fun u a b z => by
      obtain e | e | e | e : u = f ∨ u = f + 1 ∨ u = f + 2 ∨ u = f + 3 := by omega
      · rw [e, rf] at z; exact absurd z (by decide)
      · rw [e, rf1] at z; exact absurd z (by decide)
      · rw [e, rf2] at z; exact absurd z (by decide)
      · rw [e, rf3] at z; exact absurd z (by decide))
    rw [← b3] at bb
    have w3 : (Y3 11 0 21) = 2 := by rw [y3.pd.2.2.2]; exact hw
    have v3 : (Y3 8194113 0 (((f + 1 : Nat) : Int))) = (M 8194113 0 (((f + 1 : Nat) : Int))) := y3.pd.1 _ _ (show pdG 8194113 = true from rfl)
    have v4 : (Y3 8194113 0 (((f + 2 + 1 : Nat) : Int))) = (M 8194113 0 (((f + 3 : Nat) : Int))) := y3.pd.1 _ _ (show pdG 8194113 = true from rfl)
    obtain ⟨Z, eZ⟩ : ∃ Z, (mup (mup (mup Y3 98397 0 (k) (bfo M K 10 (j + 1) (f + 4 - (j + 1)))) 98398 0 (k) ((M 8194113 0 (((f + 1 : Nat) : Int))))) 98399 0 (k) ((M 8194113 0 (((f + 3 : Nat) : Int))))) = Z := ⟨_, rfl⟩
    have yZ : P2 M Y0 Z gA k (f + 2 + 2) := by
      rw [← eZ]
      exact ((y3.w _ (by decide) rfl (by decide)).w _ (by decide) rfl (by decide)).w _ (by decide) rfl (by decide)
    have fin : E2 M Y0 K F gA k (j + 2) (SAl M K j k) (some (aI 1)) Z := by
      refine ⟨f + 2 + 2, rfl, yZ, ⟨nd_2 nn d c3 (by decide), dex_0 c4⟩, c5, SA1_o s1 (fun g q1 q2 q3 q4 t x => by rw [← eZ, mu_ng q4, mu_ng q3, mu_ng q2, o3 g t x q1]; exact oo g t x q1), ?_, Or.inl ⟨f + 1, by omega, rf1, ?_⟩, Or.inl ⟨f + 3, by omega, rf3, ?_⟩⟩
      · rw [← eZ, mu_ng (by decide), mu_ng (by decide), mup_same]
      · rw [← eZ, mu_ng (by decide), mup_same]
      · rw [← eZ, mup_same]
    generalize bfo M K 10 (j + 1) (f + 4 - (j + 1)) = bq at *
    simp only [wx_iconst, wx_ldc2, wx_iload, wx_lload, wx_aload, wx_istore, wx_lstore, wx_astore, wx_iinc, wx_iadd, wx_isub, wx_imul, wx_iand, wx_ior, wx_ixor, wx_ishl, wx_ishr, wx_iushr, wx_irem, wx_ineg, wx_ladd, wx_land, wx_lor, wx_lrem, wx_lneg, wx_lshl, wx_lushr, wx_lcmp, wx_i2l, wx_l2i, wx_i2b, wx_i2c, wx_dupI, wx_popI, wx_dupR, wx_popR, wx_dup2, wx_icmp_eq, wx_if_eq, wx_icmp_ne, wx_if_ne, wx_icmp_lt, wx_if_lt, wx_icmp_ge, wx_if_ge, wx_icmp_gt, wx_if_gt, wx_icmp_le, wx_if_le, wx_acmp_eq, wx_acmp_ne, wx_goto, wx_tsw, wx_lsw, wx_getf, wx_putf, wx_iald, wx_bald, wx_cald, wx_lald, wx_aald1, wx_aald2, wx_iast, wx_bast, wx_cast, wx_last, wx_alen, wx_gets, wx_invV, wx_ord12, wx_ord13, wx_word, wx_want, wx_slen, wx_schr, wx_invS, wx_ret0, wx_ret1, wx_lret, wx_aret, wx_vret, wl_nil, wl_cons, li_0, li_s, lr_0, lr_s, ll_0, ll_s, pp_0, pp_s, rc_mk, rp_n, rp_s, fp_0, fp_1, fp_2, fg_0, fg_1, fg_2, fg_3, wcallV, wcall, List.set_cons_zero, List.set_cons_succ, Nat.reduceDiv, Nat.reduceMod, Nat.reduceAdd, Nat.reduceSub, Nat.reduceEqDiff, Int.reduceToNat, Int.reduceNatCast', gk, inr, gl, true_and, and_true, Int.zero_add, Int.add_zero, List.length_cons, List.length_nil, Nat.reduceLeDiff, Nat.reduceLT, Nat.le_refl, Nat.zero_le, Classical.not_not, Nat.zero_add, lc_ge, lc_gt, lc_le, lc_lt, lc_eq, mup_same, mu_ng, mu_ni, ne_eq, not_false_eq_true, Int.reduceEq, false_and, and_false, false_or, or_false, true_or, or_true, i10, i11, Int.reduceMul, Int.reduceAdd, Int.reduceSub, Int.mul_one, not_true_eq_false, false_implies, true_implies, implies_true, i01, i02, wx_a39, wx_a40, wx_a41, wx_a42, wx_a35, wx_a37, wx_a21, wx_a26, wx_aK, wx_s21, wx_s26, wx_ldcs]
    repeat' (first | ((first | refine Wq_i (i := 0) rfl (b_34_0 ?_) | refine Wq_i (i := 13) rfl (b_34_13 ?_) | refine Wq_i (i := 22) rfl (b_34_22 ?_) | refine Wq_i (i := 37) rfl (b_34_37 ?_) | refine Wq_i (i := 83) rfl (b_34_83 ?_) | refine Wq_i (i := 109) rfl (b_34_109 ?_) | refine Wq_i (i := 113) rfl (b_34_113 ?_) | refine Wq_i (i := 114) rfl (b_34_114 ?_) | refine call_f2 (n := 26) rfl r2 ?_ | refine call_f2 (n := 12) rfl r3 ?_ | refine call_f2 (n := 26) rfl r4 ?_); (try simp only [wx_iconst, wx_ldc2, wx_iload, wx_lload, wx_aload, wx_istore, wx_lstore, wx_astore, wx_iinc, wx_iadd, wx_isub, wx_imul, wx_iand, wx_ior, wx_ixor, wx_ishl, wx_ishr, wx_iushr, wx_irem, wx_ineg, wx_ladd, wx_land, wx_lor, wx_lrem, wx_lneg, wx_lshl, wx_lushr, wx_lcmp, wx_i2l, wx_l2i, wx_i2b, wx_i2c, wx_dupI, wx_popI, wx_dupR, wx_popR, wx_dup2, wx_icmp_eq, wx_if_eq, wx_icmp_ne, wx_if_ne, wx_icmp_lt, wx_if_lt, wx_icmp_ge, wx_if_ge, wx_icmp_gt, wx_if_gt, wx_icmp_le, wx_if_le, wx_acmp_eq, wx_acmp_ne, wx_goto, wx_tsw, wx_lsw, wx_getf, wx_putf, wx_iald, wx_bald, wx_cald, wx_lald, wx_aald1, wx_aald2, wx_iast, wx_bast, wx_cast, wx_last, wx_alen, wx_gets, wx_invV, wx_ord12, wx_ord13, wx_word, wx_want, wx_slen, wx_schr, wx_invS, wx_ret0, wx_ret1, wx_lret, wx_aret, wx_vret, wl_nil, wl_cons, li_0, li_s, lr_0, lr_s, ll_0, ll_s, pp_0, pp_s, rc_mk, rp_n, rp_s, fp_0, fp_1, fp_2, fg_0, fg_1, fg_2, fg_3, wcallV, wcall, List.set_cons_zero, List.set_cons_succ, Nat.reduceDiv, Nat.reduceMod, Nat.reduceAdd, Nat.reduceSub, Nat.reduceEqDiff, Int.reduceToNat, Int.reduceNatCast', gk, inr, gl, true_and, and_true, Int.zero_add, Int.add_zero, List.length_cons, List.length_nil, Nat.reduceLeDiff, Nat.reduceLT, Nat.le_refl, Nat.zero_le, Classical.not_not, Nat.zero_add, lc_ge, lc_gt, lc_le, lc_lt, lc_eq, mup_same, mu_ng, mu_ni, ne_eq, not_false_eq_true, Int.reduceEq, false_and, and_false, false_or, or_false, true_or, or_true, i10, i11, Int.reduceMul, Int.reduceAdd, Int.reduceSub, Int.mul_one, not_true_eq_false, false_implies, true_implies, implies_true, i01, i02, wx_a39, wx_a40, wx_a41, wx_a42, wx_a35, wx_a37, wx_a21, wx_a26, wx_aK, wx_s21, wx_s26, wx_ldcs, w3, v3, v4, bb]); (try (simp (disch := omega) only [w32_of, w64_of]))) | (refine And.intro ?_ ?_) | (refine (fun _ => ?_ : _ → _)) | (simp (disch := omega) only [w32_of, w64_of]))
    all_goals (first | rfl | omega | (refine congrArg (fun z : Int => some (aI z)) ?_; omega) | (exact absurd True.intro (by assumption)) | (exfalso; omega) | decide | (simp only [or_true, true_or]; done) | (split <;> first | rfl | (exfalso; omega) | (split <;> first | rfl | (exfalso; omega) | (split <;> first | rfl | (exfalso; omega)))) | skip)
    all_goals (first | (rw [eZ]; exact fin) | exact fin | (exfalso; (try simp (disch := omega) only [w32_of, w64_of] at *); first | omega | contradiction))
  · rw [if_neg d] at r3
    have bb := bs (f + 2) (by omega) (fun u a b z => by
      obtain e | e : u = f ∨ u = f + 1 := by omega
      · rw [e, rf] at z; exact absurd z (by decide)
      · rw [e, rf1] at z; exact absurd z (by decide))
    obtain ⟨Z, eZ⟩ : ∃ Z, (mup (mup (mup Y2 98397 0 (k) (bfo M K 10 (j + 1) (f + 2 - (j + 1)))) 98398 0 (k) ((M 8194113 0 (((f + 1 : Nat) : Int))))) 98399 0 (k) (0)) = Z := ⟨_, rfl⟩
    have yZ : P2 M Y0 Z gA k (f + 2) := by
      rw [← eZ]
      exact ((y2.w _ (by decide) rfl (by decide)).w _ (by decide) rfl (by decide)).w _ (by decide) rfl (by decide)
    have fin : E2 M Y0 K F gA k (j + 2) (SAl M K j k) (some (aI 1)) Z := by
      refine ⟨f + 2, rfl, yZ, ⟨nn, by rw [dex, a4]; exact ⟨rfl, if_neg d⟩⟩, a5, SA1_o s1 (fun g q1 q2 q3 q4 t x => by rw [← eZ, mu_ng q4, mu_ng q3, mu_ng q2]; exact oo g t x q1), ?_, Or.inl ⟨f + 1, by omega, rf1, ?_⟩, Or.inr ⟨fun u a b z => ?_, ?_⟩⟩
      · rw [← eZ, mu_ng (by decide), mu_ng (by decide), mup_same]
      · rw [← eZ, mu_ng (by decide), mup_same]
      · by_cases c : u = f + 1
        · rw [c, rf1] at z; exact absurd z (by decide)
        · exact mid u a (by omega) z
      · rw [← eZ, mup_same]
    generalize bfo M K 10 (j + 1) (f + 2 - (j + 1)) = bq at *
    simp only [wx_iconst, wx_ldc2, wx_iload, wx_lload, wx_aload, wx_istore, wx_lstore, wx_astore, wx_iinc, wx_iadd, wx_isub, wx_imul, wx_iand, wx_ior, wx_ixor, wx_ishl, wx_ishr, wx_iushr, wx_irem, wx_ineg, wx_ladd, wx_land, wx_lor, wx_lrem, wx_lneg, wx_lshl, wx_lushr, wx_lcmp, wx_i2l, wx_l2i, wx_i2b, wx_i2c, wx_dupI, wx_popI, wx_dupR, wx_popR, wx_dup2, wx_icmp_eq, wx_if_eq, wx_icmp_ne, wx_if_ne, wx_icmp_lt, wx_if_lt, wx_icmp_ge, wx_if_ge, wx_icmp_gt, wx_if_gt, wx_icmp_le, wx_if_le, wx_acmp_eq, wx_acmp_ne, wx_goto, wx_tsw, wx_lsw, wx_getf, wx_putf, wx_iald, wx_bald, wx_cald, wx_lald, wx_aald1, wx_aald2, wx_iast, wx_bast, wx_cast, wx_last, wx_alen, wx_gets, wx_invV, wx_ord12, wx_ord13, wx_word, wx_want, wx_slen, wx_schr, wx_invS, wx_ret0, wx_ret1, wx_lret, wx_aret, wx_vret, wl_nil, wl_cons, li_0, li_s, lr_0, lr_s, ll_0, ll_s, pp_0, pp_s, rc_mk, rp_n, rp_s, fp_0, fp_1, fp_2, fg_0, fg_1, fg_2, fg_3, wcallV, wcall, List.set_cons_zero, List.set_cons_succ, Nat.reduceDiv, Nat.reduceMod, Nat.reduceAdd, Nat.reduceSub, Nat.reduceEqDiff, Int.reduceToNat, Int.reduceNatCast', gk, inr, gl, true_and, and_true, Int.zero_add, Int.add_zero, List.length_cons, List.length_nil, Nat.reduceLeDiff, Nat.reduceLT, Nat.le_refl, Nat.zero_le, Classical.not_not, Nat.zero_add, lc_ge, lc_gt, lc_le, lc_lt, lc_eq, mup_same, mu_ng, mu_ni, ne_eq, not_false_eq_true, Int.reduceEq, false_and, and_false, false_or, or_false, true_or, or_true, i10, i11, Int.reduceMul, Int.reduceAdd, Int.reduceSub, Int.mul_one, not_true_eq_false, false_implies, true_implies, implies_true, i01, i02, wx_a39, wx_a40, wx_a41, wx_a42, wx_a35, wx_a37, wx_a21, wx_a26, wx_aK, wx_s21, wx_s26, wx_ldcs]
    repeat' (first | ((first | refine Wq_i (i := 0) rfl (b_34_0 ?_) | refine Wq_i (i := 13) rfl (b_34_13 ?_) | refine Wq_i (i := 22) rfl (b_34_22 ?_) | refine Wq_i (i := 37) rfl (b_34_37 ?_) | refine Wq_i (i := 83) rfl (b_34_83 ?_) | refine Wq_i (i := 109) rfl (b_34_109 ?_) | refine Wq_i (i := 113) rfl (b_34_113 ?_) | refine Wq_i (i := 114) rfl (b_34_114 ?_) | refine call_f2 (n := 26) rfl r2 ?_ | refine call_f2 (n := 12) rfl r3 ?_); (try simp only [wx_iconst, wx_ldc2, wx_iload, wx_lload, wx_aload, wx_istore, wx_lstore, wx_astore, wx_iinc, wx_iadd, wx_isub, wx_imul, wx_iand, wx_ior, wx_ixor, wx_ishl, wx_ishr, wx_iushr, wx_irem, wx_ineg, wx_ladd, wx_land, wx_lor, wx_lrem, wx_lneg, wx_lshl, wx_lushr, wx_lcmp, wx_i2l, wx_l2i, wx_i2b, wx_i2c, wx_dupI, wx_popI, wx_dupR, wx_popR, wx_dup2, wx_icmp_eq, wx_if_eq, wx_icmp_ne, wx_if_ne, wx_icmp_lt, wx_if_lt, wx_icmp_ge, wx_if_ge, wx_icmp_gt, wx_if_gt, wx_icmp_le, wx_if_le, wx_acmp_eq, wx_acmp_ne, wx_goto, wx_tsw, wx_lsw, wx_getf, wx_putf, wx_iald, wx_bald, wx_cald, wx_lald, wx_aald1, wx_aald2, wx_iast, wx_bast, wx_cast, wx_last, wx_alen, wx_gets, wx_invV, wx_ord12, wx_ord13, wx_word, wx_want, wx_slen, wx_schr, wx_invS, wx_ret0, wx_ret1, wx_lret, wx_aret, wx_vret, wl_nil, wl_cons, li_0, li_s, lr_0, lr_s, ll_0, ll_s, pp_0, pp_s, rc_mk, rp_n, rp_s, fp_0, fp_1, fp_2, fg_0, fg_1, fg_2, fg_3, wcallV, wcall, List.set_cons_zero, List.set_cons_succ, Nat.reduceDiv, Nat.reduceMod, Nat.reduceAdd, Nat.reduceSub, Nat.reduceEqDiff, Int.reduceToNat, Int.reduceNatCast', gk, inr, gl, true_and, and_true, Int.zero_add, Int.add_zero, List.length_cons, List.length_nil, Nat.reduceLeDiff, Nat.reduceLT, Nat.le_refl, Nat.zero_le, Classical.not_not, Nat.zero_add, lc_ge, lc_gt, lc_le, lc_lt, lc_eq, mup_same, mu_ng, mu_ni, ne_eq, not_false_eq_true, Int.reduceEq, false_and, and_false, false_or, or_false, true_or, or_true, i10, i11, Int.reduceMul, Int.reduceAdd, Int.reduceSub, Int.mul_one, not_true_eq_false, false_implies, true_implies, implies_true, i01, i02, wx_a39, wx_a40, wx_a41, wx_a42, wx_a35, wx_a37, wx_a21, wx_a26, wx_aK, wx_s21, wx_s26, wx_ldcs, w2, v2, bb]); (try (simp (disch := omega) only [w32_of, w64_of]))) | (refine And.intro ?_ ?_) | (refine (fun _ => ?_ : _ → _)) | (simp (disch := omega) only [w32_of, w64_of]))
    all_goals (first | rfl | omega | (refine congrArg (fun z : Int => some (aI z)) ?_; omega) | (exact absurd True.intro (by assumption)) | (exfalso; omega) | decide | (simp only [or_true, true_or]; done) | (split <;> first | rfl | (exfalso; omega) | (split <;> first | rfl | (exfalso; omega) | (split <;> first | rfl | (exfalso; omega)))) | skip)
    all_goals (first | (rw [eZ]; exact fin) | exact fin | (exfalso; (try simp (disch := omega) only [w32_of, w64_of] at *); first | omega | contradiction))
end W2A
