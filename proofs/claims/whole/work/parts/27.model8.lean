/-! ===== the reference: settled, and the first services ===== -/
/-- a top that should run is counted -/
def lks (M : AMem) : AMem := if (M 11 0 50) ≠ 0 ∧ (M 11 0 52) = 0 ∧ (M 11 0 65) = 0 ∧ tp M ≠ -1 ∧ (rn M = -1 ∨ ((M 98642 0 ((M 819297 0 (rn M)))) = 0 ∧ cpr M (1 + rn M) < (M 819299 0 (tp M)))) then (mup M 11 0 74 ((M 11 0 74) + 1)) else M
theorem R_looks (M : AMem) (hb : MB M) (hw : WT M) (hx : 0 ≤ (M 11 0 74) ∧ (M 11 0 74) < 2147483000) : Runs 65 [aR 11 0] M (fun r M' => r = none ∧ M' = lks M) := by
  have h1 := rn_rng M
  have h2 : -1 ≤ tp M ∧ tp M < 400 := topf_b M 400
  have hR : rn M ≠ -1 → 0 ≤ (M 819297 0 (rn M)) ∧ (M 819297 0 (rn M)) < 48 := fun z => (hw (rn M) (by omega) (by omega)).1
  unfold lks
  refine Runs.go2 (cd := cd_65) _ (by decide) (by decide) ck_65 rfl (Nat.le_of_ble_eq_true rfl) (show _ = ([some (aR 11 0), none, none] : Lc) from rfl) (fun ho hM => ?_)
  repeat' (first | ((first | refine Wq_i (i := 0) rfl (b_65_0 ?_) | refine Wq_i (i := 4) rfl (b_65_4 ?_) | refine Wq_i (i := 40) rfl (b_65_40 ?_) | refine Wq_i (i := 46) rfl (b_65_46 ?_) | refine call_f2 (n := 48) rfl (R_runner _) ?_ | refine call_f2 (n := 60) rfl (R_top _) ?_ | refine call_f2 (n := 57) rfl (R_currentPriority _ _ hb (hw.k (by omega) (by omega))) ?_); (try simp only [wx_iconst, wx_ldc2, wx_iload, wx_lload, wx_aload, wx_istore, wx_lstore, wx_astore, wx_iinc, wx_iadd, wx_isub, wx_imul, wx_iand, wx_ior, wx_ixor, wx_ishl, wx_ishr, wx_iushr, wx_irem, wx_ineg, wx_ladd, wx_land, wx_lor, wx_lrem, wx_lneg, wx_lshl, wx_lushr, wx_lcmp, wx_i2l, wx_l2i, wx_i2b, wx_i2c, wx_dupI, wx_popI, wx_dupR, wx_popR, wx_dup2, wx_icmp_eq, wx_if_eq, wx_icmp_ne, wx_if_ne, wx_icmp_lt, wx_if_lt, wx_icmp_ge, wx_if_ge, wx_icmp_gt, wx_if_gt, wx_icmp_le, wx_if_le, wx_acmp_eq, wx_acmp_ne, wx_goto, wx_tsw, wx_lsw, wx_getf, wx_putf, wx_iald, wx_bald, wx_cald, wx_lald, wx_aald1, wx_aald2, wx_iast, wx_bast, wx_cast, wx_last, wx_alen, wx_gets, wx_invV, wx_invS, wx_ret0, wx_ret1, wx_lret, wx_aret, wx_vret, wl_nil, wl_cons, li_0, li_s, lr_0, lr_s, ll_0, ll_s, pp_0, pp_s, rc_mk, rp_n, rp_s, fp_0, fp_1, fp_2, fg_0, fg_1, fg_2, fg_3, wcallV, wcall, List.set_cons_zero, List.set_cons_succ, Nat.reduceDiv, Nat.reduceMod, Nat.reduceAdd, Nat.reduceSub, Nat.reduceEqDiff, Int.reduceToNat, Int.reduceNatCast', gk, inr, gl, true_and, and_true, Int.zero_add, Int.add_zero, List.length_cons, List.length_nil, Nat.reduceLeDiff, Nat.reduceLT, Nat.le_refl, Nat.zero_le, Classical.not_not, Nat.zero_add, lc_ge, lc_gt, lc_le, lc_lt, lc_eq, mup_same, mu_ng, mu_ni, ne_eq, not_false_eq_true, Int.reduceEq, false_and, and_false, false_or, or_false, true_or, or_true, i10, i11, Int.reduceMul, Int.reduceAdd, Int.reduceSub, Int.mul_one, not_true_eq_false, false_implies, true_implies, implies_true, i01, i02]); (try (simp (disch := omega) only [w32_of, w64_of]))) | (refine And.intro ?_ ?_) | (refine (fun _ => ?_ : _ → _)) | (simp (disch := omega) only [w32_of, w64_of]))
  all_goals (first | rfl | omega | (exfalso; omega) | decide | (simp only [or_true, true_or]; done) | (split <;> first | rfl | (exfalso; omega) | (split <;> first | rfl | (exfalso; omega) | (split <;> first | rfl | (exfalso; omega)))) | skip)
  all_goals (first | (have := hR (by omega); omega) | (rw [if_pos (by omega)]; done) | (rw [if_neg (by omega)]; done))
/-- what settling asks for -/
def SH (M : AMem) : Prop := MB M ∧ (0 ≤ (M 11 0 65) ∧ (M 11 0 65) ≤ 16) ∧ WT M ∧ SM M ∧ (bst M ≠ -1 → (M 11 0 65) < 16 ∧ bst (beg M (bst M)) = -1) ∧ (0 ≤ (M 11 0 74) ∧ (M 11 0 74) < 2147483000)
theorem inn_rng (M : AMem) (t : Int) (hb : MB M) : inn M t = -1 ∨ (0 ≤ inn M t ∧ inn M t < 32) := by
  have := fnd_rng (fun r => !(M 65867 0 r == 0) && (iAnd (iShr (M 98390 0 t) r) 1 == 1)) (M 14408 0 2 - 1).toNat 1
  have h := hb.2.2.1
  unfold inn
  omega
theorem MB_rns {M : AMem} (h : MB M) (q : Int) : MB (rns M q) := by unfold MB rns nt; simp only [mup_same, mu_ng, mu_ni, ne_eq, Nat.reduceEqDiff, not_false_eq_true, Int.reduceEq, Int.reduceMul, Int.mul_one, and_self]; exact h
theorem MB_pre {M : AMem} (h : MB M) (q : Int) : MB (pre M q) := by unfold MB pre nt; simp only [mup_same, mu_ng, mu_ni, ne_eq, Nat.reduceEqDiff, not_false_eq_true, Int.reduceEq, Int.reduceMul, Int.mul_one, and_self]; exact h
theorem MB_beg {M : AMem} (h : MB M) (q : Int) : MB (beg M q) := by unfold MB beg nt; simp only [mup_same, mu_ng, mu_ni, ne_eq, Nat.reduceEqDiff, not_false_eq_true, Int.reduceEq, Int.reduceMul, Int.mul_one, and_self]; exact h
theorem WT_beg {M : AMem} (h : WT M) (b : Int) : WT (beg M b) := by
  intro q h0 h1
  have := h q h0 h1
  unfold beg nt
  simp only [mup_same, mu_ng, mu_ni, ne_eq, Nat.reduceEqDiff, not_false_eq_true, Int.reduceEq, Int.reduceMul, Int.mul_one, inn_fr, and_self]
  exact this
theorem WT_pre {M : AMem} (h : WT M) (b : Int) : WT (pre M b) := by
  intro q h0 h1
  have := h q h0 h1
  unfold pre nt
  simp only [mup_same, mu_ng, mu_ni, ne_eq, Nat.reduceEqDiff, not_false_eq_true, Int.reduceEq, Int.reduceMul, Int.mul_one, inn_fr, and_self]
  exact this
theorem WT_rns {M : AMem} (hb : MB M) (h : WT M) (b : Int) : WT (rns M b) := by
  intro q h0 h1
  have h2 := h q h0 h1
  have h3 := inn_rng M (M 819297 0 (b)) hb
  unfold rns nt
  simp only [mup_same, mu_ng, mu_ni, ne_eq, Nat.reduceEqDiff, not_false_eq_true, Int.reduceEq, Int.reduceMul, Int.mul_one, inn_fr, and_self]
  refine ⟨h2.1, fun z => ?_⟩
  by_cases hq : q = b
  · subst hq
    rw [mup_same] at z
    by_cases hi : inn M (M 819297 0 (q)) = -1
    · rw [if_pos hi] at z; exact absurd rfl z
    · omega
  · rw [mu_ni hq] at z
    simp only [mup_same, mu_ng, mu_ni, ne_eq, Nat.reduceEqDiff, not_false_eq_true, Int.reduceEq, Int.reduceMul, Int.mul_one, and_self] at z
    exact h2.2 z
theorem run1_cases (M : AMem) : run1 M = M ∨ run1 M = rns M (tp M) ∨ run1 M = rns (pre M (rn M)) (tp M) := by
  unfold run1
  by_cases h1 : 0 < (M 11 0 65) ∨ tp M = -1
  · rw [if_pos h1]; exact Or.inl rfl
  · rw [if_neg h1]
    by_cases h2 : rn M = -1
    · rw [if_pos h2]; exact Or.inr (Or.inl rfl)
    · rw [if_neg h2]
      by_cases h3 : (M 98642 0 ((M 819297 0 (rn M)))) = 0 ∧ cpr M (1 + rn M) < (M 819299 0 (tp M))
      · rw [if_pos h3]; exact Or.inr (Or.inr rfl)
      · rw [if_neg h3]; exact Or.inl rfl
theorem stl_keep {M : AMem} (P : AMem → Prop) (h0 : P M) (hb : ∀ b, P (beg M b)) (hr : ∀ M q, P M → P (rns M q)) (hp : ∀ M q, P M → P (pre M q)) : P (stl M) := by
  unfold stl
  by_cases h1 : (M 11 0 50) = 0 ∨ 0 < (M 11 0 52)
  · rw [if_pos h1]; exact h0
  · rw [if_neg h1]
    have h2 : P (if bst M = -1 then M else beg M (bst M)) := by
      by_cases h3 : bst M = -1
      · rw [if_pos h3]; exact h0
      · rw [if_neg h3]; exact hb _
    generalize (if bst M = -1 then M else beg M (bst M)) = M1 at h2 ⊢
    rcases run1_cases M1 with h | h | h <;> rw [h]
    · exact h2
    · exact hr _ _ h2
    · exact hr _ _ (hp _ _ h2)
theorem stl_ok {M : AMem} (h : SH M) : MB (stl M) ∧ WT (stl M) ∧ ((stl M) 11 0 74) = (M 11 0 74) := by
  have h1 : MB (stl M) ∧ WT (stl M) := stl_keep (fun M => MB M ∧ WT M) ⟨h.1, h.2.2.1⟩ (fun b => ⟨MB_beg h.1 b, WT_beg h.2.2.1 b⟩) (fun M q z => ⟨MB_rns z.1 q, WT_rns z.1 z.2 q⟩) (fun M q z => ⟨MB_pre z.1 q, WT_pre z.2 q⟩)
  refine ⟨h1.1, h1.2, ?_⟩
  refine stl_keep (fun M' => (M' 11 0 74) = (M 11 0 74)) rfl (fun b => ?_) (fun M1 q z => ?_) (fun M1 q z => ?_)
  · unfold beg nt; simp only [mup_same, mu_ng, mu_ni, ne_eq, Nat.reduceEqDiff, not_false_eq_true, Int.reduceEq, Int.reduceMul, Int.mul_one, and_self]
  · rw [← z]; unfold rns nt; simp only [mup_same, mu_ng, mu_ni, ne_eq, Nat.reduceEqDiff, not_false_eq_true, Int.reduceEq, Int.reduceMul, Int.mul_one, and_self]
  · rw [← z]; unfold pre nt; simp only [mup_same, mu_ng, mu_ni, ne_eq, Nat.reduceEqDiff, not_false_eq_true, Int.reduceEq, Int.reduceMul, Int.mul_one, and_self]
def sld (M : AMem) : AMem := lks (stl M)
theorem R_settled (v : Int) (M : AMem) (h : SH M) : Runs 55 [aR 11 0, aI v] M (fun r M' => r = some (aI v) ∧ M' = sld M) := by
  obtain ⟨k1, k2, k3⟩ := stl_ok h
  have hx := h.2.2.2.2.2
  refine Runs.go2 (cd := cd_55) _ (by decide) (by decide) ck_55 rfl (Nat.le_of_ble_eq_true rfl) (show _ = ([some (aR 11 0), some (aI v)] : Lc) from rfl) (fun ho hM => ?_)
  repeat' (first | ((first | refine Wq_i (i := 0) rfl (b_55_0 ?_) | refine call_f2 (n := 56) rfl (R_settles _ h.1 h.2.1 h.2.2.1 h.2.2.2.1 h.2.2.2.2.1) ?_ | refine call_f2 (n := 65) rfl (R_looks _ k1 k2 (by rw [k3]; exact hx)) ?_); (try simp only [wx_iconst, wx_ldc2, wx_iload, wx_lload, wx_aload, wx_istore, wx_lstore, wx_astore, wx_iinc, wx_iadd, wx_isub, wx_imul, wx_iand, wx_ior, wx_ixor, wx_ishl, wx_ishr, wx_iushr, wx_irem, wx_ineg, wx_ladd, wx_land, wx_lor, wx_lrem, wx_lneg, wx_lshl, wx_lushr, wx_lcmp, wx_i2l, wx_l2i, wx_i2b, wx_i2c, wx_dupI, wx_popI, wx_dupR, wx_popR, wx_dup2, wx_icmp_eq, wx_if_eq, wx_icmp_ne, wx_if_ne, wx_icmp_lt, wx_if_lt, wx_icmp_ge, wx_if_ge, wx_icmp_gt, wx_if_gt, wx_icmp_le, wx_if_le, wx_acmp_eq, wx_acmp_ne, wx_goto, wx_tsw, wx_lsw, wx_getf, wx_putf, wx_iald, wx_bald, wx_cald, wx_lald, wx_aald1, wx_aald2, wx_iast, wx_bast, wx_cast, wx_last, wx_alen, wx_gets, wx_invV, wx_invS, wx_ret0, wx_ret1, wx_lret, wx_aret, wx_vret, wl_nil, wl_cons, li_0, li_s, lr_0, lr_s, ll_0, ll_s, pp_0, pp_s, rc_mk, rp_n, rp_s, fp_0, fp_1, fp_2, fg_0, fg_1, fg_2, fg_3, wcallV, wcall, List.set_cons_zero, List.set_cons_succ, Nat.reduceDiv, Nat.reduceMod, Nat.reduceAdd, Nat.reduceSub, Nat.reduceEqDiff, Int.reduceToNat, Int.reduceNatCast', gk, inr, gl, true_and, and_true, Int.zero_add, Int.add_zero, List.length_cons, List.length_nil, Nat.reduceLeDiff, Nat.reduceLT, Nat.le_refl, Nat.zero_le, Classical.not_not, Nat.zero_add, lc_ge, lc_gt, lc_le, lc_lt, lc_eq, mup_same, mu_ng, mu_ni, ne_eq, not_false_eq_true, Int.reduceEq, false_and, and_false, false_or, or_false, true_or, or_true, i10, i11, Int.reduceMul, Int.reduceAdd, Int.reduceSub, Int.mul_one, not_true_eq_false, false_implies, true_implies, implies_true, i01, i02]); (try (simp (disch := omega) only [w32_of, w64_of]))) | (refine And.intro ?_ ?_) | (refine (fun _ => ?_ : _ → _)) | (simp (disch := omega) only [w32_of, w64_of]))
  all_goals (first | rfl | omega | (exfalso; omega) | decide | (simp only [or_true, true_or]; done) | (split <;> first | rfl | (exfalso; omega) | (split <;> first | rfl | (exfalso; omega) | (split <;> first | rfl | (exfalso; omega)))) | skip)
