/-! ===== build(): both sides, where there is no plan ===== -/
theorem pcC_r {g : Nat} (h : rG g = true) : pcC g = false := by
  cases e : pcC g with
  | false => rfl
  | true =>
    unfold pcC at e
    simp only [Bool.or_eq_true, beq_iff_eq] at e
    rcases e with ((((((((((((((((e | e) | e) | e) | e) | e) | e) | e) | e) | e) | e) | e) | e) | e) | e) | e) | e)
    all_goals (subst e; exact absurd h (by decide))
theorem pcR_c {g : Nat} {i : Int} (h : rG g = false) : pcR g i = false := by
  cases e : pcR g i with
  | false => rfl
  | true =>
    unfold pcR at e
    simp only [Bool.or_eq_true, Bool.and_eq_true, beq_iff_eq] at e
    rcases e with ((((((((((e | e) | e) | e) | e) | e) | e) | e) | e) | e) | ⟨e, _⟩)
    all_goals (subst e; exact absurd h (by decide))
theorem inv_m {n : Int} {M1 M2 : AMem} (d : ∀ (g : Nat) (t x : Int), rG g = false → M2 g t x = M1 g t x) (h : INV n M1 M2) : INV n M2 M2 := by
  have e : M2 = jn M1 M2 := by
    funext g t x
    unfold jn
    by_cases c : rG g = true
    · rw [if_pos c]
    · rw [if_neg c]; exact d g t x (by simpa using c)
  have q := INV_jn n M1 M2
  rw [← e] at q
  rw [q]
  exact h
theorem inv_j {n : Int} {M M1 M2 : AMem} (d : ∀ (g : Nat) (t x : Int), rG g = false → M2 g t x = M1 g t x) (h : INV n M1 (jn M M2)) : INV n M2 M2 := by
  have e : M2 = jn M1 (jn M M2) := by
    funext g t x
    unfold jn
    by_cases c : rG g = true
    · rw [if_pos c, if_pos c]
    · rw [if_neg c]; exact d g t x (by simpa using c)
  have q := INV_jn n M1 (jn M M2)
  rw [← e] at q
  rw [q]
  exact h
theorem frQ_j {M M1 M2 : AMem} (k : frP M M1) (q : frQ M1 M2) : frQ M (jn M M2) := fun g t i d => by
  unfold jn
  by_cases c : rG g = true
  · rw [if_pos c, q g t i d, k g t i (pcC_r c)]
  · rw [if_neg c]
/-- the parsers found a fault, the same on both sides -/
theorem inv_f {n : Int} {M M1 M2 : AMem} (h : INV n M M) (h0 : (M 11 0 50) = 0) (k : frP M M1) (q : frQ M1 M2) (t1 : (M1 1 0 1) = 0) (t2 : (M2 11 0 2) = 0) (f1 : (M1 4 0 2) = (M2 11 0 13)) (f2 : (M1 4 0 3) = (M2 11 0 14)) : INV n M2 M2 := by
  have qj := frQ_j k q
  have j : ∀ (g : Nat) (t x : Int), rG g = true → jn M M2 g t x = M2 g t x := fun g t x c => by unfold jn; rw [if_pos c]
  have rl := rl_p h.1 h0 k qj
  refine inv_j (M := M) (M1 := M1) (fun g t x c => q g t x (pcR_c c)) ⟨rl, Std.off (Or.inl ?_), ⟨?_, ?_, ?_⟩, ⟨?_, ?_, ⟨?_, ?_, ?_, ?_⟩, ?_⟩, h.2.2.2.2.fp k qj⟩
  · rw [k _ _ _ rfl, h.1.on.1]; exact h0
  · rw [j _ _ _ rfl, t1, t2]
  · rw [j _ _ _ rfl, t2]; omega
  · intro i i0 i1
    rw [j _ _ _ rfl, t2] at i1
    omega
  · rw [j _ _ _ rfl]; exact f1
  · rw [j _ _ _ rfl]; exact f2
  · rw [k _ _ _ rfl]; exact h.2.2.2.1.2.2.1.1
  · rw [k _ _ _ rfl]; exact h.2.2.2.1.2.2.1.2.1
  · rw [k _ _ _ rfl]; exact h.2.2.2.1.2.2.1.2.2.1
  · rw [k _ _ _ rfl]; exact h.2.2.2.1.2.2.1.2.2.2
  · unfold OM
    rw [qj 11 0 50 rfl, qj 11 0 51 rfl]
    exact h.2.2.2.1.2.2.2
theorem R_build0 (n : Int) (M : AMem) (hq : ¬ (M 11 0 50) = 0 ∨ n < 0 ∨ (M 11 0 2) < n) : Runs 4 [aR 11 0, aI n] M (fun r M' => r = some (aI (-2)) ∧ M' = th M) := by
  have o1 : ((mup M 11 0 0 (0)) 11 0 50) = (M 11 0 50) := mu_ni (by decide)
  have o2 : ((mup M 11 0 0 (0)) 11 0 2) = (M 11 0 2) := mu_ni (by decide)
  refine Runs.go2 (cd := cd_4) _ (by decide) (by decide) ck_4 rfl (Nat.le_of_ble_eq_true rfl) (show _ = ([some (aR 11 0), some (aI n), none, none] : Lc) from rfl) (fun ho hM => ?_)
  refine b_4_0 ?_
  simp only [wx_iconst, wx_ldc2, wx_iload, wx_lload, wx_aload, wx_istore, wx_lstore, wx_astore, wx_iinc, wx_iadd, wx_isub, wx_imul, wx_iand, wx_ior, wx_ixor, wx_ishl, wx_ishr, wx_iushr, wx_irem, wx_ineg, wx_ladd, wx_land, wx_lor, wx_lrem, wx_lneg, wx_lshl, wx_lushr, wx_lcmp, wx_i2l, wx_l2i, wx_i2b, wx_i2c, wx_dupI, wx_popI, wx_dupR, wx_popR, wx_dup2, wx_icmp_eq, wx_if_eq, wx_icmp_ne, wx_if_ne, wx_icmp_lt, wx_if_lt, wx_icmp_ge, wx_if_ge, wx_icmp_gt, wx_if_gt, wx_icmp_le, wx_if_le, wx_acmp_eq, wx_acmp_ne, wx_goto, wx_tsw, wx_lsw, wx_getf, wx_putf, wx_iald, wx_bald, wx_cald, wx_lald, wx_aald1, wx_aald2, wx_iast, wx_bast, wx_cast, wx_last, wx_alen, wx_gets, wx_invV, wx_ord12, wx_ord13, wx_word, wx_want, wx_slen, wx_schr, wx_invS, wx_ret0, wx_ret1, wx_lret, wx_aret, wx_vret, wl_nil, wl_cons, li_0, li_s, lr_0, lr_s, ll_0, ll_s, pp_0, pp_s, rc_mk, rp_n, rp_s, fp_0, fp_1, fp_2, fg_0, fg_1, fg_2, fg_3, wcallV, wcall, List.set_cons_zero, List.set_cons_succ, Nat.reduceDiv, Nat.reduceMod, Nat.reduceAdd, Nat.reduceSub, Nat.reduceEqDiff, Int.reduceToNat, Int.reduceNatCast', gk, inr, gl, true_and, and_true, Int.zero_add, Int.add_zero, List.length_cons, List.length_nil, Nat.reduceLeDiff, Nat.reduceLT, Nat.le_refl, Nat.zero_le, Classical.not_not, Nat.zero_add, lc_ge, lc_gt, lc_le, lc_lt, lc_eq, mup_same, mu_ng, mu_ni, ne_eq, not_false_eq_true, Int.reduceEq, false_and, and_false, false_or, or_false, true_or, or_true, i10, i11, Int.reduceMul, Int.reduceAdd, Int.reduceSub, Int.mul_one, not_true_eq_false, false_implies, true_implies, implies_true, i01, i02, wx_a39, wx_a40, wx_a41, wx_a42, wx_a35, wx_a37, wx_a21, wx_a26, wx_aK, wx_s21, wx_s26, wx_ldcs, o1, o2]
  repeat' (first | ((first | refine Wq_i (i := 0) rfl (b_4_0 ?_) | refine Wq_i (i := 12) rfl (b_4_12 ?_) | refine Wq_i (i := 14) rfl (b_4_14 ?_) | refine Wq_i (i := 32) rfl (b_4_32 ?_) | refine Wq_i (i := 51) rfl (b_4_51 ?_) | refine Wq_i (i := 52) rfl (b_4_52 ?_) | refine Wq_i (i := 55) rfl (b_4_55 ?_) | refine Wq_i (i := 76) rfl (b_4_76 ?_) | refine Wq_i (i := 77) rfl (b_4_77 ?_) | refine Wq_i (i := 90) rfl (b_4_90 ?_) | refine Wq_i (i := 109) rfl (b_4_109 ?_) | refine Wq_i (i := 124) rfl (b_4_124 ?_) | refine Wq_i (i := 143) rfl (b_4_143 ?_)); (try simp only [wx_iconst, wx_ldc2, wx_iload, wx_lload, wx_aload, wx_istore, wx_lstore, wx_astore, wx_iinc, wx_iadd, wx_isub, wx_imul, wx_iand, wx_ior, wx_ixor, wx_ishl, wx_ishr, wx_iushr, wx_irem, wx_ineg, wx_ladd, wx_land, wx_lor, wx_lrem, wx_lneg, wx_lshl, wx_lushr, wx_lcmp, wx_i2l, wx_l2i, wx_i2b, wx_i2c, wx_dupI, wx_popI, wx_dupR, wx_popR, wx_dup2, wx_icmp_eq, wx_if_eq, wx_icmp_ne, wx_if_ne, wx_icmp_lt, wx_if_lt, wx_icmp_ge, wx_if_ge, wx_icmp_gt, wx_if_gt, wx_icmp_le, wx_if_le, wx_acmp_eq, wx_acmp_ne, wx_goto, wx_tsw, wx_lsw, wx_getf, wx_putf, wx_iald, wx_bald, wx_cald, wx_lald, wx_aald1, wx_aald2, wx_iast, wx_bast, wx_cast, wx_last, wx_alen, wx_gets, wx_invV, wx_ord12, wx_ord13, wx_word, wx_want, wx_slen, wx_schr, wx_invS, wx_ret0, wx_ret1, wx_lret, wx_aret, wx_vret, wl_nil, wl_cons, li_0, li_s, lr_0, lr_s, ll_0, ll_s, pp_0, pp_s, rc_mk, rp_n, rp_s, fp_0, fp_1, fp_2, fg_0, fg_1, fg_2, fg_3, wcallV, wcall, List.set_cons_zero, List.set_cons_succ, Nat.reduceDiv, Nat.reduceMod, Nat.reduceAdd, Nat.reduceSub, Nat.reduceEqDiff, Int.reduceToNat, Int.reduceNatCast', gk, inr, gl, true_and, and_true, Int.zero_add, Int.add_zero, List.length_cons, List.length_nil, Nat.reduceLeDiff, Nat.reduceLT, Nat.le_refl, Nat.zero_le, Classical.not_not, Nat.zero_add, lc_ge, lc_gt, lc_le, lc_lt, lc_eq, mup_same, mu_ng, mu_ni, ne_eq, not_false_eq_true, Int.reduceEq, false_and, and_false, false_or, or_false, true_or, or_true, i10, i11, Int.reduceMul, Int.reduceAdd, Int.reduceSub, Int.mul_one, not_true_eq_false, false_implies, true_implies, implies_true, i01, i02, wx_a39, wx_a40, wx_a41, wx_a42, wx_a35, wx_a37, wx_a21, wx_a26, wx_aK, wx_s21, wx_s26, wx_ldcs, o1, o2]); (try (simp (disch := omega) only [w32_of, w64_of]))) | (refine And.intro ?_ ?_) | (refine (fun _ => ?_ : _ → _)) | (simp (disch := omega) only [w32_of, w64_of]))
  all_goals (first | rfl | omega | (refine congrArg (fun z : Int => some (aI z)) ?_; omega) | (exact absurd True.intro (by assumption)) | (exfalso; omega) | decide | (simp only [or_true, true_or]; done) | (split <;> first | rfl | (exfalso; omega) | (split <;> first | rfl | (exfalso; omega) | (split <;> first | rfl | (exfalso; omega)))) | skip)
  all_goals (first | exact ⟨rfl, rfl⟩ | (exfalso; (try simp (disch := omega) only [w32_of, w64_of] at *); first | omega | contradiction) | skip)
theorem R_build {M : AMem} {n : Nat} {post : Option AV → AMem → Prop} (h0 : (M 11 0 50) = 0) (hn : (n : Int) ≤ (M 11 0 2)) (h4 : n ≤ 4000) (kt : ∀ (W : AMem) (x y : Option AV), BT M n W → Wq 4 cd_4 post 55 [some (aR 11 0), some (aI (n : Int)), x, y] [] W) : Runs 4 [aR 11 0, aI (n : Int)] M post := by
  refine Runs.go2 (cd := cd_4) _ (by decide) (by decide) ck_4 rfl (Nat.le_of_ble_eq_true rfl) (show _ = ([some (aR 11 0), some (aI (n : Int)), none, none] : Lc) from rfl) (fun ho hM => ?_)
  exact q_0 h0 hn h4 kt
