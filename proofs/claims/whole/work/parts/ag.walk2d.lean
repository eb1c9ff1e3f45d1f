/-! ===== the reference's walk 2: task (by program: wip/whole/gen/mkag.py) ===== -/
def gT : List Nat := [98385, 98642, 98387, 98388, 98389, 98390]
/-- what a task's arrays hold behind token i -/
def TP (M : AMem) (K : Nat → Int) (j : Nat) (k : Int) (i : Nat) (Y : AMem) : Prop := ((Y 98385 0 (k)) = (M 8194113 0 (((j + 3 : Nat) : Int)))) ∧ (((Y 98642 0 (k)) = 1 ∧ ∃ u : Nat, j + 1 < u ∧ u < i ∧ K u = 32) ∨ ((Y 98642 0 (k)) = 0 ∧ ∀ u : Nat, j + 1 < u → u < i → ¬ K u = 32)) ∧ ((∃ u : Nat, (j + 1 < u ∧ u < i) ∧ rol K u = 12 ∧ (Y 98387 0 (k)) = (M 8194113 0 ((u : Int)))) ∨ ((∀ u : Nat, j + 1 < u → u < i → ¬ rol K u = 12) ∧ (Y 98387 0 (k)) = 1)) ∧ ((Y 98388 0 (k)) = bfo M K 9 (j + 1) (i - (j + 1))) ∧ ((Y 98389 0 (k)) = bfo M K 10 (j + 1) (i - (j + 1))) ∧ ((Y 98390 0 (k)) = bfo M K 4 (j + 1) (i - (j + 1)))
theorem TP.pr {M : AMem} {K : Nat → Int} {j : Nat} {k : Int} {i : Nat} {Y : AMem} (h : TP M K j k i Y) : (Y 98385 0 (k)) = (M 8194113 0 (((j + 3 : Nat) : Int))) := h.1
theorem TP.wh {M : AMem} {K : Nat → Int} {j : Nat} {k : Int} {i : Nat} {Y : AMem} (h : TP M K j k i Y) : ((Y 98642 0 (k)) = 1 ∧ ∃ u : Nat, j + 1 < u ∧ u < i ∧ K u = 32) ∨ ((Y 98642 0 (k)) = 0 ∧ ∀ u : Nat, j + 1 < u → u < i → ¬ K u = 32) := h.2.1
theorem TP.lm {M : AMem} {K : Nat → Int} {j : Nat} {k : Int} {i : Nat} {Y : AMem} (h : TP M K j k i Y) : (∃ u : Nat, (j + 1 < u ∧ u < i) ∧ rol K u = 12 ∧ (Y 98387 0 (k)) = (M 8194113 0 ((u : Int)))) ∨ ((∀ u : Nat, j + 1 < u → u < i → ¬ rol K u = 12) ∧ (Y 98387 0 (k)) = 1) := h.2.2.1
theorem TP.ev {M : AMem} {K : Nat → Int} {j : Nat} {k : Int} {i : Nat} {Y : AMem} (h : TP M K j k i Y) : (Y 98388 0 (k)) = bfo M K 9 (j + 1) (i - (j + 1)) := h.2.2.2.1
theorem TP.mo {M : AMem} {K : Nat → Int} {j : Nat} {k : Int} {i : Nat} {Y : AMem} (h : TP M K j k i Y) : (Y 98389 0 (k)) = bfo M K 10 (j + 1) (i - (j + 1)) := h.2.2.2.2.1
theorem TP.us {M : AMem} {K : Nat → Int} {j : Nat} {k : Int} {i : Nat} {Y : AMem} (h : TP M K j k i Y) : (Y 98390 0 (k)) = bfo M K 4 (j + 1) (i - (j + 1)) := h.2.2.2.2.2
theorem TP.mk {M : AMem} {K : Nat → Int} {j : Nat} {k : Int} {i : Nat} {Y : AMem} (pr : (Y 98385 0 (k)) = (M 8194113 0 (((j + 3 : Nat) : Int)))) (wh : ((Y 98642 0 (k)) = 1 ∧ ∃ u : Nat, j + 1 < u ∧ u < i ∧ K u = 32) ∨ ((Y 98642 0 (k)) = 0 ∧ ∀ u : Nat, j + 1 < u → u < i → ¬ K u = 32)) (lm : (∃ u : Nat, (j + 1 < u ∧ u < i) ∧ rol K u = 12 ∧ (Y 98387 0 (k)) = (M 8194113 0 ((u : Int)))) ∨ ((∀ u : Nat, j + 1 < u → u < i → ¬ rol K u = 12) ∧ (Y 98387 0 (k)) = 1)) (ev : (Y 98388 0 (k)) = bfo M K 9 (j + 1) (i - (j + 1))) (mo : (Y 98389 0 (k)) = bfo M K 10 (j + 1) (i - (j + 1))) (us : (Y 98390 0 (k)) = bfo M K 4 (j + 1) (i - (j + 1))) : TP M K j k i Y := ⟨pr, wh, lm, ev, mo, us⟩
section W2T
variable {M Y0 Y : AMem} {K : Nat → Int} {T F j : Nat} {k : Int}
theorem bfo_x {r : Int} {i f : Nat} (h1 : j + 1 ≤ i) (h2 : i ≤ f) (h : ∀ u : Nat, i ≤ u → u < f → ¬ rol K u = r) : bfo M K r (j + 1) (f - (j + 1)) = bfo M K r (j + 1) (i - (j + 1)) := by
  rw [show f - (j + 1) = (i - (j + 1)) + (f - i) by omega]
  exact bfo_e _ (fun u a b => h u (by omega) (by omega))
theorem bfo_y {r : Int} {b f : Nat} (h1 : j + 1 ≤ b) (h2 : b ≤ f) (h : ∀ u : Nat, j + 1 ≤ u → u < b → ¬ rol K u = r) : bfo M K r (j + 1) (f - (j + 1)) = bfo M K r b (f - b) := by
  rw [← bfo_s h1 h (f - b)]
  exact congrArg _ (by omega)
/-- a part's word is there once -/
theorem once (hc : C1 M K T F) (nf : NF M K F) (hd : dit K j) (k2 : K (j + 1) = 2) {i : Nat} {w : Int} (hi : i < F) (hn : nd K (j + 2) i) (hr : rol K i = 2) (hk : K i = w) (hw : prw w) {u : Nat} (h1 : j + 1 < u) (h2 : u < i) (h3 : rol K u = 2) : ¬ K u = w := fun h4 => by
  have nm : nmf M K i = j + 1 := nmf_d hc (by omega) hd (nd_t (nd_1 (nd_0 _ _) k2 (by decide)) hn) (by rw [hk]; unfold prw at hw; omega)
  refine nf i hi 2 ((RP_e hr 2).mpr ?_)
  show (2 : Int) = 2 ∧ ∃ u : Nat, nmf M K i < u ∧ u < i ∧ rol K u = 2 ∧ K u = K i
  exact ⟨rfl, u, by rw [nm]; omega, h2, h3, by rw [h4, hk]⟩
/-- so are its names -/
theorem once_n (hc : C1 M K T F) (nf : NF M K F) (hd : dit K j) (hj : K j = 14) (k2 : K (j + 1) = 2) (hjF : j + 2 ≤ F) {i s s' : Nat} {w r : Int} (hi : i < F) (hji : j + 1 < i) (hn : nd K (j + 2) i) (hr : rol K i = 2) (hk : K i = w) (hw : prw w) (h0 : s ≠ 0 ∧ s' ≠ 0) (e4 : ∀ s0 k, dt s0 k = s → ((s0 = 18 ∨ s0 = 21 ∨ s0 = 23 ∨ s0 = 25) ∧ k = w) ∨ (s0 = s' ∧ k = 4)) (e5 : ∀ s0 k, dt s0 k = s' → s0 = s ∧ k = 2) (es : ∀ v : Nat, rol K v = r → (16 ≤ dst K v ∧ dst K v ≤ 25) → dst K v = s) (ha : dac s = false) (ed : ∀ k, dt s k = dw k 2 s') (r1 : ¬ r = 1) : ∀ u : Nat, j + 1 ≤ u → u < i + 1 → r ≠ 2 → ¬ rol K u = r := by
  intro v a b hr2 z
  by_cases c0 : v = i
  · rw [c0, hr] at z; exact hr2 z.symm
  by_cases c1' : v = j + 1
  · rw [c1', rol_t hd k2] at z; exact r1 z.symm
  have fam := fm_t hc.ok hd k2 (v - (j + 2)) (by omega) (by rw [show j + 2 + (v - (j + 2)) = v by omega]; exact ⟨by omega, fun x p q => hn.2 x p (by omega)⟩)
  rw [show j + 2 + (v - (j + 2)) = v by omega] at fam
  have sv := es v z (fam.1.mpr hj)
  have kv := (W_2 hc.ok sv (by omega) ha (ed _)).1
  obtain ⟨p, d, x1, x2, x3, x4⟩ := lst_b (s := s) (s' := s') (P := fun s0 k => (s0 = 18 ∨ s0 = 21 ∨ s0 = 23 ∨ s0 = 25) ∧ k = w) h0 e4 e5 v sv kv
  have x2 : (dst K p = 18 ∨ dst K p = 21 ∨ dst K p = 23 ∨ dst K p = 25) ∧ K p = w := x2
  have jp : j < p := by
    by_cases q : p < j
    · exact (lst_j hd x1 x3 (fun c l => (x4 c l).1) q (by omega)).elim
    · by_cases q2 : p = j
      · have l := hd.2.2
        rw [← q2, x2.2] at l
        unfold prw at hw
        omega
      · omega
  have jp2 : ¬ p = j + 1 := fun q => by
    have l := x2.2
    rw [q, k2] at l
    unfold prw at hw
    omega
  have rp : rol K p = 2 := by
    have e : (if K p = 32 ∨ K p = 33 ∨ K p = 29 ∨ K p = 24 ∨ K p = 34 then (2 : Int) else 0) = 2 := if_pos (by rw [x2.2]; exact hw)
    unfold rol
    rcases x2.1 with q | q | q | q
    all_goals (rw [q]; exact e)
  exact once hc nf hd k2 hi hn hr hk hw (by omega) (by omega) rp x2.2
theorem t2_53 {p it : Int} (hc : C1 M K T F) (nf : NF M K F) (hw : (M 11 0 21) = 2) (hk : 0 ≤ k ∧ k < 48) (hd : dit K j) (k2 : K (j + 1) = 2) (hj : K j = 14) (hjF : j + 2 ≤ F) : ∀ (N i : Nat) (Y : AMem) (se : Int) (x y : Option AV), F + 1 ≤ i + N → dpt K i → dps K i → i ≤ F → j + 1 < i → nd K (j + 2) i → P2 M Y0 Y gT k i → TP M K j k i Y → Wq 29 cd_29 (E2 M Y0 K F gT k (j + 2) (TP M K j k)) 53 [some (aR 11 0), some (aI it), some (aI k), some (aI p), some (aI se), x, y] [] Y := by
  have hT := hc.FT
  have hT2 := hc.T4
  intro N
  induction N with
  | zero => intro i Y se x y hN h hs hi; omega
  | succ N ih =>
    intro i Y se x y hN h hs hi hji hnd hy tp
    have nw := hy.nw
    have w0 : (Y 11 0 21) = 2 := by rw [hy.pd.2.2.2]; exact hw
    have q : (Y 8194110 0 ((i : Int))) = K i := (hy.pd.rkq hc).2.2.1 i (by omega)
    have r1 := IS1 (hy.pd.rkq hc) nw (by omega)
    by_cases d1 : K i = 32
    · have zz := r1 32
      rw [if_pos d1] at zz
      have pw : prw 32 := by unfold prw; decide
      have rr := dpt_r h hs d1 pw
      have l1 := dok_lt hc.ok hi (by rw [d1]; decide)
      have nn := nd_1 hnd d1 (by decide)
      have h1 : dst K (i + 1) = 18 := by show dt (dst K i) (K i) = 18; rw [h.2.2, d1]; rfl
      obtain ⟨Y1, p1, y1, _, o1⟩ := NX2 hy
      rw [nw] at p1
      have w1 : (Y1 11 0 21) = 2 := by rw [y1.pd.2.2.2]; exact hw
      obtain ⟨Y2, e2⟩ : ∃ Z, (mup Y1 98642 0 (k) (1)) = Z := ⟨_, rfl⟩
      have y2 : P2 M Y0 Y2 gT k (i + 1) := by rw [← e2]; exact y1.w _ (by decide) rfl (by decide)
      have nx : ∀ r : Int, ¬ r = 2 → ∀ u : Nat, i ≤ u → u < i + 1 → ¬ rol K u = r := fun r hr u a b z => by
        rw [show u = i by omega, rr] at z
        exact hr z.symm
      have oo : ∀ g : Nat, g ≠ 11 → g ≠ 98642 → ∀ t x : Int, Y2 g t x = Y g t x := fun g a b t x => by rw [← e2, mu_ng b]; exact o1 g t x a
      have tp2 : TP M K j k (i + 1) Y2 := by
        refine TP.mk ?_ ?_ ?_ ?_ ?_ ?_
        · rw [oo _ (by decide) (by decide)]; exact tp.pr
        · exact Or.inl ⟨by rw [← e2, mup_same], i, hji, by omega, d1⟩
        · rw [oo _ (by decide) (by decide)]
          rcases tp.lm with ⟨u, a, b, c⟩ | ⟨a, b⟩
          · exact Or.inl ⟨u, by omega, b, c⟩
          · refine Or.inr ⟨fun u x y z => ?_, b⟩
            by_cases e : u = i
            · rw [e, rr] at z; exact absurd z (by decide)
            · exact a u x (by omega) z
        · rw [oo _ (by decide) (by decide), bfo_x (i := i) (by omega) (by omega) (nx 9 (by decide))]; exact tp.ev
        · rw [oo _ (by decide) (by decide), bfo_x (i := i) (by omega) (by omega) (nx 10 (by decide))]; exact tp.mo
        · rw [oo _ (by decide) (by decide), bfo_x (i := i) (by omega) (by omega) (nx 4 (by decide))]; exact tp.us
      have ih := fun se x y => ih (i + 1) Y2 se x y (by omega) (dpt_18 h1) (Or.inl h1) l1 (by omega) nn y2 tp2
      refine b_29_53 ?_
      simp only [wx_iconst, wx_ldc2, wx_iload, wx_lload, wx_aload, wx_istore, wx_lstore, wx_astore, wx_iinc, wx_iadd, wx_isub, wx_imul, wx_iand, wx_ior, wx_ixor, wx_ishl, wx_ishr, wx_iushr, wx_irem, wx_ineg, wx_ladd, wx_land, wx_lor, wx_lrem, wx_lneg, wx_lshl, wx_lushr, wx_lcmp, wx_i2l, wx_l2i, wx_i2b, wx_i2c, wx_dupI, wx_popI, wx_dupR, wx_popR, wx_dup2, wx_icmp_eq, wx_if_eq, wx_icmp_ne, wx_if_ne, wx_icmp_lt, wx_if_lt, wx_icmp_ge, wx_if_ge, wx_icmp_gt, wx_if_gt, wx_icmp_le, wx_if_le, wx_acmp_eq, wx_acmp_ne, wx_goto, wx_tsw, wx_lsw, wx_getf, wx_putf, wx_iald, wx_bald, wx_cald, wx_lald, wx_aald1, wx_aald2, wx_iast, wx_bast, wx_cast, wx_last, wx_alen, wx_gets, wx_invV, wx_ord12, wx_ord13, wx_word, wx_want, wx_slen, wx_schr, wx_invS, wx_ret0, wx_ret1, wx_lret, wx_aret, wx_vret, wl_nil, wl_cons, li_0, li_s, lr_0, lr_s, ll_0, ll_s, pp_0, pp_s, rc_mk, rp_n, rp_s, fp_0, fp_1, fp_2, fg_0, fg_1, fg_2, fg_3, wcallV, wcall, List.set_cons_zero, List.set_cons_succ, Nat.reduceDiv, Nat.reduceMod, Nat.reduceAdd, Nat.reduceSub, Nat.reduceEqDiff, Int.reduceToNat, Int.reduceNatCast', gk, inr, gl, true_and, and_true, Int.zero_add, Int.add_zero, List.length_cons, List.length_nil, Nat.reduceLeDiff, Nat.reduceLT, Nat.le_refl, Nat.zero_le, Classical.not_not, Nat.zero_add, lc_ge, lc_gt, lc_le, lc_lt, lc_eq, mup_same, mu_ng, mu_ni, ne_eq, not_false_eq_true, Int.reduceEq, false_and, and_false, false_or, or_false, true_or, or_true, i10, i11, Int.reduceMul, Int.reduceAdd, Int.reduceSub, Int.mul_one, not_true_eq_false, false_implies, true_implies, implies_true, i01, i02, wx_a39, wx_a40, wx_a41, wx_a42, wx_a35, wx_a37, wx_a21, wx_a26, wx_aK, wx_s21, wx_s26, wx_ldcs]
      repeat' (first | ((first | refine Wq_i (i := 0) rfl (b_29_0 ?_) | refine Wq_i (i := 9) rfl (b_29_9 ?_) | refine Wq_i (i := 51) rfl (b_29_51 ?_) | refine Wq_i (i := 73) rfl (b_29_73 ?_) | refine Wq_i (i := 97) rfl (b_29_97 ?_) | refine Wq_i (i := 117) rfl (b_29_117 ?_) | refine Wq_i (i := 141) rfl (b_29_141 ?_) | refine Wq_i (i := 154) rfl (b_29_154 ?_) | refine Wq_i (i := 173) rfl (b_29_173 ?_) | refine Wq_i (i := 179) rfl (b_29_179 ?_) | refine Wq_i (i := 184) rfl (b_29_184 ?_) | refine Wq_i (i := 185) rfl (b_29_185 ?_) | refine Wq_i (i := 190) rfl (b_29_190 ?_) | refine Wq_i (i := 191) rfl (b_29_191 ?_) | refine Wq_i (i := 195) rfl (b_29_195 ?_) | refine Wq_i (i := 209) rfl (b_29_209 ?_) | refine Wq_i (i := 219) rfl (b_29_219 ?_) | refine Wq_i (i := 225) rfl (b_29_225 ?_) | refine Wq_i (i := 226) rfl (b_29_226 ?_) | refine call_f2 (n := 12) rfl zz ?_); (try simp only [wx_iconst, wx_ldc2, wx_iload, wx_lload, wx_aload, wx_istore, wx_lstore, wx_astore, wx_iinc, wx_iadd, wx_isub, wx_imul, wx_iand, wx_ior, wx_ixor, wx_ishl, wx_ishr, wx_iushr, wx_irem, wx_ineg, wx_ladd, wx_land, wx_lor, wx_lrem, wx_lneg, wx_lshl, wx_lushr, wx_lcmp, wx_i2l, wx_l2i, wx_i2b, wx_i2c, wx_dupI, wx_popI, wx_dupR, wx_popR, wx_dup2, wx_icmp_eq, wx_if_eq, wx_icmp_ne, wx_if_ne, wx_icmp_lt, wx_if_lt, wx_icmp_ge, wx_if_ge, wx_icmp_gt, wx_if_gt, wx_icmp_le, wx_if_le, wx_acmp_eq, wx_acmp_ne, wx_goto, wx_tsw, wx_lsw, wx_getf, wx_putf, wx_iald, wx_bald, wx_cald, wx_lald, wx_aald1, wx_aald2, wx_iast, wx_bast, wx_cast, wx_last, wx_alen, wx_gets, wx_invV, wx_ord12, wx_ord13, wx_word, wx_want, wx_slen, wx_schr, wx_invS, wx_ret0, wx_ret1, wx_lret, wx_aret, wx_vret, wl_nil, wl_cons, li_0, li_s, lr_0, lr_s, ll_0, ll_s, pp_0, pp_s, rc_mk, rp_n, rp_s, fp_0, fp_1, fp_2, fg_0, fg_1, fg_2, fg_3, wcallV, wcall, List.set_cons_zero, List.set_cons_succ, Nat.reduceDiv, Nat.reduceMod, Nat.reduceAdd, Nat.reduceSub, Nat.reduceEqDiff, Int.reduceToNat, Int.reduceNatCast', gk, inr, gl, true_and, and_true, Int.zero_add, Int.add_zero, List.length_cons, List.length_nil, Nat.reduceLeDiff, Nat.reduceLT, Nat.le_refl, Nat.zero_le, Classical.not_not, Nat.zero_add, lc_ge, lc_gt, lc_le, lc_lt, lc_eq, mup_same, mu_ng, mu_ni, ne_eq, not_false_eq_true, Int.reduceEq, false_and, and_false, false_or, or_false, true_or, or_true, i10, i11, Int.reduceMul, Int.reduceAdd, Int.reduceSub, Int.mul_one, not_true_eq_false, false_implies, true_implies, implies_true, i01, i02, wx_a39, wx_a40, wx_a41, wx_a42, wx_a35, wx_a37, wx_a21, wx_a26, wx_aK, wx_s21, wx_s26, wx_ldcs, nw, w0, q, d1]); (try (simp (disch := omega) only [w32_of, w64_of]))) | (refine And.intro ?_ ?_) | (refine (fun _ => ?_ : _ → _)) | (simp (disch := omega) only [w32_of, w64_of]))
      all_goals (first | rfl | omega | (refine congrArg (fun z : Int => some (aI z)) ?_; omega) | (exact absurd True.intro (by assumption)) | (exfalso; omega) | decide | (simp only [or_true, true_or]; done) | (split <;> first | rfl | (exfalso; omega) | (split <;> first | rfl | (exfalso; omega) | (split <;> first | rfl | (exfalso; omega)))) | skip)
      all_goals (first | (exfalso; (try simp (disch := omega) only [w32_of, w64_of] at *); first | omega | contradiction) | skip)
      all_goals (rw [p1])
      repeat' (first | ((first | refine Wq_i (i := 0) rfl (b_29_0 ?_) | refine Wq_i (i := 9) rfl (b_29_9 ?_) | refine Wq_i (i := 51) rfl (b_29_51 ?_) | refine Wq_i (i := 73) rfl (b_29_73 ?_) | refine Wq_i (i := 97) rfl (b_29_97 ?_) | refine Wq_i (i := 117) rfl (b_29_117 ?_) | refine Wq_i (i := 141) rfl (b_29_141 ?_) | refine Wq_i (i := 154) rfl (b_29_154 ?_) | refine Wq_i (i := 173) rfl (b_29_173 ?_) | refine Wq_i (i := 179) rfl (b_29_179 ?_) | refine Wq_i (i := 184) rfl (b_29_184 ?_) | refine Wq_i (i := 185) rfl (b_29_185 ?_) | refine Wq_i (i := 190) rfl (b_29_190 ?_) | refine Wq_i (i := 191) rfl (b_29_191 ?_) | refine Wq_i (i := 195) rfl (b_29_195 ?_) | refine Wq_i (i := 209) rfl (b_29_209 ?_) | refine Wq_i (i := 219) rfl (b_29_219 ?_) | refine Wq_i (i := 225) rfl (b_29_225 ?_) | refine Wq_i (i := 226) rfl (b_29_226 ?_)); (try simp only [wx_iconst, wx_ldc2, wx_iload, wx_lload, wx_aload, wx_istore, wx_lstore, wx_astore, wx_iinc, wx_iadd, wx_isub, wx_imul, wx_iand, wx_ior, wx_ixor, wx_ishl, wx_ishr, wx_iushr, wx_irem, wx_ineg, wx_ladd, wx_land, wx_lor, wx_lrem, wx_lneg, wx_lshl, wx_lushr, wx_lcmp, wx_i2l, wx_l2i, wx_i2b, wx_i2c, wx_dupI, wx_popI, wx_dupR, wx_popR, wx_dup2, wx_icmp_eq, wx_if_eq, wx_icmp_ne, wx_if_ne, wx_icmp_lt, wx_if_lt, wx_icmp_ge, wx_if_ge, wx_icmp_gt, wx_if_gt, wx_icmp_le, wx_if_le, wx_acmp_eq, wx_acmp_ne, wx_goto, wx_tsw, wx_lsw, wx_getf, wx_putf, wx_iald, wx_bald, wx_cald, wx_lald, wx_aald1, wx_aald2, wx_iast, wx_bast, wx_cast, wx_last, wx_alen, wx_gets, wx_invV, wx_ord12, wx_ord13, wx_word, wx_want, wx_slen, wx_schr, wx_invS, wx_ret0, wx_ret1, wx_lret, wx_aret, wx_vret, wl_nil, wl_cons, li_0, li_s, lr_0, lr_s, ll_0, ll_s, pp_0, pp_s, rc_mk, rp_n, rp_s, fp_0, fp_1, fp_2, fg_0, fg_1, fg_2, fg_3, wcallV, wcall, List.set_cons_zero, List.set_cons_succ, Nat.reduceDiv, Nat.reduceMod, Nat.reduceAdd, Nat.reduceSub, Nat.reduceEqDiff, Int.reduceToNat, Int.reduceNatCast', gk, inr, gl, true_and, and_true, Int.zero_add, Int.add_zero, List.length_cons, List.length_nil, Nat.reduceLeDiff, Nat.reduceLT, Nat.le_refl, Nat.zero_le, Classical.not_not, Nat.zero_add, lc_ge, lc_gt, lc_le, lc_lt, lc_eq, mup_same, mu_ng, mu_ni, ne_eq, not_false_eq_true, Int.reduceEq, false_and, and_false, false_or, or_false, true_or, or_true, i10, i11, Int.reduceMul, Int.reduceAdd, Int.reduceSub, Int.mul_one, not_true_eq_false, false_implies, true_implies, implies_true, i01, i02, wx_a39, wx_a40, wx_a41, wx_a42, wx_a35, wx_a37, wx_a21, wx_a26, wx_aK, wx_s21, wx_s26, wx_ldcs, w1]); (try (simp (disch := omega) only [w32_of, w64_of]))) | (refine And.intro ?_ ?_) | (refine (fun _ => ?_ : _ → _)) | (simp (disch := omega) only [w32_of, w64_of]))
      all_goals (first | rfl | omega | (refine congrArg (fun z : Int => some (aI z)) ?_; omega) | (exact absurd True.intro (by assumption)) | (exfalso; omega) | decide | (simp only [or_true, true_or]; done) | (split <;> first | rfl | (exfalso; omega) | (split <;> first | rfl | (exfalso; omega) | (split <;> first | rfl | (exfalso; omega)))) | skip)
      all_goals (first | (rw [e2]; exact ih _ _ _) | exact ih _ _ _ | (exfalso; (try simp (disch := omega) only [w32_of, w64_of] at *); first | omega | contradiction))
    by_cases d2 : K i = 33
    · have z32 := r1 32
      rw [if_neg d1] at z32
      have zz := r1 33
      rw [if_pos d2] at zz
      have pw : prw 33 := by unfold prw; decide
      have rr := dpt_r h hs d2 pw
      have l1 := dok_lt hc.ok hi (by rw [d2]; decide)
      have nn := nd_1 hnd d2 (by decide)
      have h1 : dst K (i + 1) = 19 := by show dt (dst K i) (K i) = 19; rw [h.2.2, d2]; rfl
      obtain ⟨a3, a4, a5⟩ := W_2 (w := 3) (s1 := 18) hc.ok h1 l1 rfl rfl
      obtain ⟨Y1, r2, y1, _, o1⟩ := NU2 hc hy a5 d2 a3
      have r3 := RG2 hc hw y1 (i + 1) l1 1 8
      have w1 : (Y1 11 0 21) = 2 := by rw [y1.pd.2.2.2]; exact hw
      have v1 : (Y1 8194113 0 (((i + 1 : Nat) : Int))) = (M 8194113 0 (((i + 1 : Nat) : Int))) := y1.pd.1 _ _ (show pdG 8194113 = true from rfl)
      obtain ⟨Y2, e2⟩ : ∃ Z, (mup Y1 98387 0 (k) ((M 8194113 0 (((i + 1 : Nat) : Int))))) = Z := ⟨_, rfl⟩
      have y2 : P2 M Y0 Y2 gT k (i + 2) := by rw [← e2]; exact y1.w _ (by decide) rfl (by decide)
      have ro2 : rol K (i + 1) = 12 := rol_e h1 a3
      have nx : ∀ r : Int, ¬ r = 2 → ¬ r = 12 → ∀ u : Nat, i ≤ u → u < i + 2 → ¬ rol K u = r := fun r hr hr' u a b z => by
        obtain e | e : u = i ∨ u = i + 1 := by omega
        · rw [e, rr] at z; exact hr z.symm
        · rw [e, ro2] at z; exact hr' z.symm
      have oo : ∀ g : Nat, g ≠ 11 → g ≠ 98387 → ∀ t x : Int, Y2 g t x = Y g t x := fun g a b t x => by rw [← e2, mu_ng b]; exact o1 g t x a
      have tp2 : TP M K j k (i + 2) Y2 := by
        refine TP.mk ?_ ?_ ?_ ?_ ?_ ?_
        · rw [oo _ (by decide) (by decide)]; exact tp.pr
        · rw [oo _ (by decide) (by decide)]
          rcases tp.wh with ⟨a, u, b, c, e⟩ | ⟨a, b⟩
          · exact Or.inl ⟨a, u, b, by omega, e⟩
          · refine Or.inr ⟨a, fun u x y z => ?_⟩
            by_cases e : u = i
            · rw [e, d2] at z; exact absurd z (by decide)
            · by_cases e' : u = i + 1
              · rw [e', a3] at z; exact absurd z (by decide)
              · exact b u x (by omega) z
        · exact Or.inl ⟨i + 1, by omega, ro2, by rw [← e2, mup_same]⟩
        · rw [oo _ (by decide) (by decide), bfo_x (i := i) (by omega) (by omega) (nx 9 (by decide) (by decide))]; exact tp.ev
        · rw [oo _ (by decide) (by decide), bfo_x (i := i) (by omega) (by omega) (nx 10 (by decide) (by decide))]; exact tp.mo
        · rw [oo _ (by decide) (by decide), bfo_x (i := i) (by omega) (by omega) (nx 4 (by decide) (by decide))]; exact tp.us
      have ih := fun se x y => ih (i + 2) Y2 se x y (by omega) (dpt_18 a4) (Or.inl a4) a5 (by omega) (nd_1 nn a3 (by decide)) y2 tp2
      refine b_29_53 ?_
      simp only [wx_iconst, wx_ldc2, wx_iload, wx_lload, wx_aload, wx_istore, wx_lstore, wx_astore, wx_iinc, wx_iadd, wx_isub, wx_imul, wx_iand, wx_ior, wx_ixor, wx_ishl, wx_ishr, wx_iushr, wx_irem, wx_ineg, wx_ladd, wx_land, wx_lor, wx_lrem, wx_lneg, wx_lshl, wx_lushr, wx_lcmp, wx_i2l, wx_l2i, wx_i2b, wx_i2c, wx_dupI, wx_popI, wx_dupR, wx_popR, wx_dup2, wx_icmp_eq, wx_if_eq, wx_icmp_ne, wx_if_ne, wx_icmp_lt, wx_if_lt, wx_icmp_ge, wx_if_ge, wx_icmp_gt, wx_if_gt, wx_icmp_le, wx_if_le, wx_acmp_eq, wx_acmp_ne, wx_goto, wx_tsw, wx_lsw, wx_getf, wx_putf, wx_iald, wx_bald, wx_cald, wx_lald, wx_aald1, wx_aald2, wx_iast, wx_bast, wx_cast, wx_last, wx_alen, wx_gets, wx_invV, wx_ord12, wx_ord13, wx_word, wx_want, wx_slen, wx_schr, wx_invS, wx_ret0, wx_ret1, wx_lret, wx_aret, wx_vret, wl_nil, wl_cons, li_0, li_s, lr_0, lr_s, ll_0, ll_s, pp_0, pp_s, rc_mk, rp_n, rp_s, fp_0, fp_1, fp_2, fg_0, fg_1, fg_2, fg_3, wcallV, wcall, List.set_cons_zero, List.set_cons_succ, Nat.reduceDiv, Nat.reduceMod, Nat.reduceAdd, Nat.reduceSub, Nat.reduceEqDiff, Int.reduceToNat, Int.reduceNatCast', gk, inr, gl, true_and, and_true, Int.zero_add, Int.add_zero, List.length_cons, List.length_nil, Nat.reduceLeDiff, Nat.reduceLT, Nat.le_refl, Nat.zero_le, Classical.not_not, Nat.zero_add, lc_ge, lc_gt, lc_le, lc_lt, lc_eq, mup_same, mu_ng, mu_ni, ne_eq, not_false_eq_true, Int.reduceEq, false_and, and_false, false_or, or_false, true_or, or_true, i10, i11, Int.reduceMul, Int.reduceAdd, Int.reduceSub, Int.mul_one, not_true_eq_false, false_implies, true_implies, implies_true, i01, i02, wx_a39, wx_a40, wx_a41, wx_a42, wx_a35, wx_a37, wx_a21, wx_a26, wx_aK, wx_s21, wx_s26, wx_ldcs]
      repeat' (first | ((first | refine Wq_i (i := 0) rfl (b_29_0 ?_) | refine Wq_i (i := 9) rfl (b_29_9 ?_) | refine Wq_i (i := 51) rfl (b_29_51 ?_) | refine Wq_i (i := 73) rfl (b_29_73 ?_) | refine Wq_i (i := 97) rfl (b_29_97 ?_) | refine Wq_i (i := 117) rfl (b_29_117 ?_) | refine Wq_i (i := 141) rfl (b_29_141 ?_) | refine Wq_i (i := 154) rfl (b_29_154 ?_) | refine Wq_i (i := 173) rfl (b_29_173 ?_) | refine Wq_i (i := 179) rfl (b_29_179 ?_) | refine Wq_i (i := 184) rfl (b_29_184 ?_) | refine Wq_i (i := 185) rfl (b_29_185 ?_) | refine Wq_i (i := 190) rfl (b_29_190 ?_) | refine Wq_i (i := 191) rfl (b_29_191 ?_) | refine Wq_i (i := 195) rfl (b_29_195 ?_) | refine Wq_i (i := 209) rfl (b_29_209 ?_) | refine Wq_i (i := 219) rfl (b_29_219 ?_) | refine Wq_i (i := 225) rfl (b_29_225 ?_) | refine Wq_i (i := 226) rfl (b_29_226 ?_) | refine call_f2 (n := 12) rfl z32 ?_ | refine call_f2 (n := 12) rfl zz ?_ | refine call_f2 (n := 26) rfl r2 ?_ | refine call_f2 (n := 28) rfl r3 ?_); (try simp only [wx_iconst, wx_ldc2, wx_iload, wx_lload, wx_aload, wx_istore, wx_lstore, wx_astore, wx_iinc, wx_iadd, wx_isub, wx_imul, wx_iand, wx_ior, wx_ixor, wx_ishl, wx_ishr, wx_iushr, wx_irem, wx_ineg, wx_ladd, wx_land, wx_lor, wx_lrem, wx_lneg, wx_lshl, wx_lushr, wx_lcmp, wx_i2l, wx_l2i, wx_i2b, wx_i2c, wx_dupI, wx_popI, wx_dupR, wx_popR, wx_dup2, wx_icmp_eq, wx_if_eq, wx_icmp_ne, wx_if_ne, wx_icmp_lt, wx_if_lt, wx_icmp_ge, wx_if_ge, wx_icmp_gt, wx_if_gt, wx_icmp_le, wx_if_le, wx_acmp_eq, wx_acmp_ne, wx_goto, wx_tsw, wx_lsw, wx_getf, wx_putf, wx_iald, wx_bald, wx_cald, wx_lald, wx_aald1, wx_aald2, wx_iast, wx_bast, wx_cast, wx_last, wx_alen, wx_gets, wx_invV, wx_ord12, wx_ord13, wx_word, wx_want, wx_slen, wx_schr, wx_invS, wx_ret0, wx_ret1, wx_lret, wx_aret, wx_vret, wl_nil, wl_cons, li_0, li_s, lr_0, lr_s, ll_0, ll_s, pp_0, pp_s, rc_mk, rp_n, rp_s, fp_0, fp_1, fp_2, fg_0, fg_1, fg_2, fg_3, wcallV, wcall, List.set_cons_zero, List.set_cons_succ, Nat.reduceDiv, Nat.reduceMod, Nat.reduceAdd, Nat.reduceSub, Nat.reduceEqDiff, Int.reduceToNat, Int.reduceNatCast', gk, inr, gl, true_and, and_true, Int.zero_add, Int.add_zero, List.length_cons, List.length_nil, Nat.reduceLeDiff, Nat.reduceLT, Nat.le_refl, Nat.zero_le, Classical.not_not, Nat.zero_add, lc_ge, lc_gt, lc_le, lc_lt, lc_eq, mup_same, mu_ng, mu_ni, ne_eq, not_false_eq_true, Int.reduceEq, false_and, and_false, false_or, or_false, true_or, or_true, i10, i11, Int.reduceMul, Int.reduceAdd, Int.reduceSub, Int.mul_one, not_true_eq_false, false_implies, true_implies, implies_true, i01, i02, wx_a39, wx_a40, wx_a41, wx_a42, wx_a35, wx_a37, wx_a21, wx_a26, wx_aK, wx_s21, wx_s26, wx_ldcs, nw, w0, q, d2, w1, v1]); (try (simp (disch := omega) only [w32_of, w64_of]))) | (refine And.intro ?_ ?_) | (refine (fun _ => ?_ : _ → _)) | (simp (disch := omega) only [w32_of, w64_of]))
      all_goals (first | rfl | omega | (refine congrArg (fun z : Int => some (aI z)) ?_; omega) | (exact absurd True.intro (by assumption)) | (exfalso; omega) | decide | (simp only [or_true, true_or]; done) | (split <;> first | rfl | (exfalso; omega) | (split <;> first | rfl | (exfalso; omega) | (split <;> first | rfl | (exfalso; omega)))) | skip)
      all_goals (first | (rw [e2]; exact ih _ _ _) | exact ih _ _ _ | (exfalso; (try simp (disch := omega) only [w32_of, w64_of] at *); first | omega | contradiction))
    by_cases d3x : K i = 29
    · have z32 := r1 32
      rw [if_neg d1] at z32
      have z33 := r1 33
      rw [if_neg d2] at z33
      have zz := r1 29
      rw [if_pos d3x] at zz
      have pw : prw 29 := by unfold prw; decide
      have rr := dpt_r h hs d3x pw
      have l1 := dok_lt hc.ok hi (by rw [d3x]; decide)
      have nn := nd_1 hnd d3x (by decide)
      have h1 : dst K (i + 1) = 20 := by show dt (dst K i) (K i) = 20; rw [h.2.2, d3x]; rfl
      obtain ⟨Y1, p1, y1, _, o1⟩ := NX2 hy
      rw [nw] at p1
      have rn := R_W2_names (so := 0) (ru := 0) (ro := 10) hc hw (s := 20) (s' := 21) (fun _ => rfl) rfl rfl rfl rfl (by decide) (fun t q1 q2 q3 q4 => mng_n (nf_auto nf q1 (Or.inl q2) q3) (by decide)) h1 l1 y1
      have on := once_n hc nf hd hj k2 hjF (by omega) hji hnd rr d3x pw (s := 20) (s' := 21) (r := 10) (by decide) (fun s0 k q => dp_20 s0 k q) (fun s0 k q => dp_21 s0 k q) (fun v z f => by have := dr_10 _ _ z; omega) rfl (fun _ => rfl) (by decide)
      refine b_29_53 ?_
      simp only [wx_iconst, wx_ldc2, wx_iload, wx_lload, wx_aload, wx_istore, wx_lstore, wx_astore, wx_iinc, wx_iadd, wx_isub, wx_imul, wx_iand, wx_ior, wx_ixor, wx_ishl, wx_ishr, wx_iushr, wx_irem, wx_ineg, wx_ladd, wx_land, wx_lor, wx_lrem, wx_lneg, wx_lshl, wx_lushr, wx_lcmp, wx_i2l, wx_l2i, wx_i2b, wx_i2c, wx_dupI, wx_popI, wx_dupR, wx_popR, wx_dup2, wx_icmp_eq, wx_if_eq, wx_icmp_ne, wx_if_ne, wx_icmp_lt, wx_if_lt, wx_icmp_ge, wx_if_ge, wx_icmp_gt, wx_if_gt, wx_icmp_le, wx_if_le, wx_acmp_eq, wx_acmp_ne, wx_goto, wx_tsw, wx_lsw, wx_getf, wx_putf, wx_iald, wx_bald, wx_cald, wx_lald, wx_aald1, wx_aald2, wx_iast, wx_bast, wx_cast, wx_last, wx_alen, wx_gets, wx_invV, wx_ord12, wx_ord13, wx_word, wx_want, wx_slen, wx_schr, wx_invS, wx_ret0, wx_ret1, wx_lret, wx_aret, wx_vret, wl_nil, wl_cons, li_0, li_s, lr_0, lr_s, ll_0, ll_s, pp_0, pp_s, rc_mk, rp_n, rp_s, fp_0, fp_1, fp_2, fg_0, fg_1, fg_2, fg_3, wcallV, wcall, List.set_cons_zero, List.set_cons_succ, Nat.reduceDiv, Nat.reduceMod, Nat.reduceAdd, Nat.reduceSub, Nat.reduceEqDiff, Int.reduceToNat, Int.reduceNatCast', gk, inr, gl, true_and, and_true, Int.zero_add, Int.add_zero, List.length_cons, List.length_nil, Nat.reduceLeDiff, Nat.reduceLT, Nat.le_refl, Nat.zero_le, Classical.not_not, Nat.zero_add, lc_ge, lc_gt, lc_le, lc_lt, lc_eq, mup_same, mu_ng, mu_ni, ne_eq, not_false_eq_true, Int.reduceEq, false_and, and_false, false_or, or_false, true_or, or_true, i10, i11, Int.reduceMul, Int.reduceAdd, Int.reduceSub, Int.mul_one, not_true_eq_false, false_implies, true_implies, implies_true, i01, i02, wx_a39, wx_a40, wx_a41, wx_a42, wx_a35, wx_a37, wx_a21, wx_a26, wx_aK, wx_s21, wx_s26, wx_ldcs]
      repeat' (first | ((first | refine Wq_i (i := 0) rfl (b_29_0 ?_) | refine Wq_i (i := 9) rfl (b_29_9 ?_) | refine Wq_i (i := 51) rfl (b_29_51 ?_) | refine Wq_i (i := 73) rfl (b_29_73 ?_) | refine Wq_i (i := 97) rfl (b_29_97 ?_) | refine Wq_i (i := 117) rfl (b_29_117 ?_) | refine Wq_i (i := 141) rfl (b_29_141 ?_) | refine Wq_i (i := 154) rfl (b_29_154 ?_) | refine Wq_i (i := 173) rfl (b_29_173 ?_) | refine Wq_i (i := 179) rfl (b_29_179 ?_) | refine Wq_i (i := 184) rfl (b_29_184 ?_) | refine Wq_i (i := 185) rfl (b_29_185 ?_) | refine Wq_i (i := 190) rfl (b_29_190 ?_) | refine Wq_i (i := 191) rfl (b_29_191 ?_) | refine Wq_i (i := 195) rfl (b_29_195 ?_) | refine Wq_i (i := 209) rfl (b_29_209 ?_) | refine Wq_i (i := 219) rfl (b_29_219 ?_) | refine Wq_i (i := 225) rfl (b_29_225 ?_) | refine Wq_i (i := 226) rfl (b_29_226 ?_) | refine call_f2 (n := 12) rfl z32 ?_ | refine call_f2 (n := 12) rfl z33 ?_ | refine call_f2 (n := 12) rfl zz ?_); (try simp only [wx_iconst, wx_ldc2, wx_iload, wx_lload, wx_aload, wx_istore, wx_lstore, wx_astore, wx_iinc, wx_iadd, wx_isub, wx_imul, wx_iand, wx_ior, wx_ixor, wx_ishl, wx_ishr, wx_iushr, wx_irem, wx_ineg, wx_ladd, wx_land, wx_lor, wx_lrem, wx_lneg, wx_lshl, wx_lushr, wx_lcmp, wx_i2l, wx_l2i, wx_i2b, wx_i2c, wx_dupI, wx_popI, wx_dupR, wx_popR, wx_dup2, wx_icmp_eq, wx_if_eq, wx_icmp_ne, wx_if_ne, wx_icmp_lt, wx_if_lt, wx_icmp_ge, wx_if_ge, wx_icmp_gt, wx_if_gt, wx_icmp_le, wx_if_le, wx_acmp_eq, wx_acmp_ne, wx_goto, wx_tsw, wx_lsw, wx_getf, wx_putf, wx_iald, wx_bald, wx_cald, wx_lald, wx_aald1, wx_aald2, wx_iast, wx_bast, wx_cast, wx_last, wx_alen, wx_gets, wx_invV, wx_ord12, wx_ord13, wx_word, wx_want, wx_slen, wx_schr, wx_invS, wx_ret0, wx_ret1, wx_lret, wx_aret, wx_vret, wl_nil, wl_cons, li_0, li_s, lr_0, lr_s, ll_0, ll_s, pp_0, pp_s, rc_mk, rp_n, rp_s, fp_0, fp_1, fp_2, fg_0, fg_1, fg_2, fg_3, wcallV, wcall, List.set_cons_zero, List.set_cons_succ, Nat.reduceDiv, Nat.reduceMod, Nat.reduceAdd, Nat.reduceSub, Nat.reduceEqDiff, Int.reduceToNat, Int.reduceNatCast', gk, inr, gl, true_and, and_true, Int.zero_add, Int.add_zero, List.length_cons, List.length_nil, Nat.reduceLeDiff, Nat.reduceLT, Nat.le_refl, Nat.zero_le, Classical.not_not, Nat.zero_add, lc_ge, lc_gt, lc_le, lc_lt, lc_eq, mup_same, mu_ng, mu_ni, ne_eq, not_false_eq_true, Int.reduceEq, false_and, and_false, false_or, or_false, true_or, or_true, i10, i11, Int.reduceMul, Int.reduceAdd, Int.reduceSub, Int.mul_one, not_true_eq_false, false_implies, true_implies, implies_true, i01, i02, wx_a39, wx_a40, wx_a41, wx_a42, wx_a35, wx_a37, wx_a21, wx_a26, wx_aK, wx_s21, wx_s26, wx_ldcs, nw, w0, q, d3x]); (try (simp (disch := omega) only [w32_of, w64_of]))) | (refine And.intro ?_ ?_) | (refine (fun _ => ?_ : _ → _)) | (simp (disch := omega) only [w32_of, w64_of]))
      all_goals (first | rfl | omega | (refine congrArg (fun z : Int => some (aI z)) ?_; omega) | (exact absurd True.intro (by assumption)) | (exfalso; omega) | decide | (simp only [or_true, true_or]; done) | (split <;> first | rfl | (exfalso; omega) | (split <;> first | rfl | (exfalso; omega) | (split <;> first | rfl | (exfalso; omega)))) | skip)
      all_goals (first | (exfalso; (try simp (disch := omega) only [w32_of, w64_of] at *); first | omega | contradiction) | skip)
      all_goals (rw [p1]; refine call_re rn ?_; rintro r M' ⟨f, rfl, u1, u2, u3, u4, u5, u6, u7, u8⟩)
      have lf := u2.1
      have w5 : (M' 11 0 21) = 2 := by rw [u1.pd.2.2.2]; exact hw
      have hf : dpt K f := ⟨by rw [u4]; decide, by rw [u4]; rfl, by rw [u4]; exact if_neg u5⟩
      have bs : (M' 11 0 48) = bfo M K 10 (j + 1) (f - (j + 1)) := by
        rw [u6, bfo_y (b := i + 1) (by omega) (by omega) (fun u a b => on u a b (by decide))]
      obtain ⟨Y2, e2⟩ : ∃ Z, (mup M' 98389 0 (k) (bfo M K 10 (j + 1) (f - (j + 1)))) = Z := ⟨_, rfl⟩
      have y2 : P2 M Y0 Y2 gT k f := by rw [← e2]; exact u1.w _ (by decide) rfl (by decide)
      have oo : ∀ g : Nat, g ≠ 11 → g ≠ 98389 → ∀ t x : Int, Y2 g t x = Y g t x := fun g a b t x => by rw [← e2, mu_ng b, u8 g t x a]; exact o1 g t x a
      have nx : ∀ r : Int, ¬ r = 2 → ¬ r = 0 → ¬ r = 10 → ∀ u : Nat, i ≤ u → u < f → ¬ rol K u = r := fun r hr hr0 hr' u a b z => by
        by_cases e : u = i
        · rw [e, rr] at z; exact hr z.symm
        · rcases u7 u (by omega) b with c | c
          · rw [c.1] at z; exact hr' z.symm
          · rw [c.1] at z; exact hr0 z.symm
      have tp2 : TP M K j k f Y2 := by
        refine TP.mk ?_ ?_ ?_ ?_ ?_ ?_
        · rw [oo _ (by decide) (by decide)]; exact tp.pr
        · rw [oo _ (by decide) (by decide)]
          rcases tp.wh with ⟨a, u, b, c, e⟩ | ⟨a, b⟩
          · exact Or.inl ⟨a, u, b, by omega, e⟩
          · refine Or.inr ⟨a, fun u x y z => ?_⟩
            by_cases e : u < i
            · exact b u x e z
            · by_cases e' : u = i
              · rw [e', d3x] at z; exact absurd z (by decide)
              · rcases u7 u (by omega) y with c | c
                · rw [c.2] at z; exact absurd z (by decide)
                · rw [c.2] at z; exact absurd z (by decide)
        · rw [oo _ (by decide) (by decide)]
          rcases tp.lm with ⟨u, a, b, c⟩ | ⟨a, b⟩
          · exact Or.inl ⟨u, by omega, b, c⟩
          · refine Or.inr ⟨fun u x y z => ?_, b⟩
            by_cases e : u < i
            · exact a u x e z
            · exact nx 12 (by decide) (by decide) (by decide) u (by omega) y z
        · rw [oo _ (by decide) (by decide), bfo_x (i := i) (by omega) (by omega) (nx 9 (by decide) (by decide) (by decide))]; exact tp.ev
        · rw [← e2, mup_same]
        · rw [oo _ (by decide) (by decide), bfo_x (i := i) (by omega) (by omega) (nx 4 (by decide) (by decide) (by decide))]; exact tp.us
      have ih := fun se x y => ih f Y2 se x y (by omega) hf (by unfold dps; omega) u3 (by omega) (nd_t nn u2) y2 tp2
      generalize bfo M K 10 (j + 1) (f - (j + 1)) = bb at *
      simp only [wx_iconst, wx_ldc2, wx_iload, wx_lload, wx_aload, wx_istore, wx_lstore, wx_astore, wx_iinc, wx_iadd, wx_isub, wx_imul, wx_iand, wx_ior, wx_ixor, wx_ishl, wx_ishr, wx_iushr, wx_irem, wx_ineg, wx_ladd, wx_land, wx_lor, wx_lrem, wx_lneg, wx_lshl, wx_lushr, wx_lcmp, wx_i2l, wx_l2i, wx_i2b, wx_i2c, wx_dupI, wx_popI, wx_dupR, wx_popR, wx_dup2, wx_icmp_eq, wx_if_eq, wx_icmp_ne, wx_if_ne, wx_icmp_lt, wx_if_lt, wx_icmp_ge, wx_if_ge, wx_icmp_gt, wx_if_gt, wx_icmp_le, wx_if_le, wx_acmp_eq, wx_acmp_ne, wx_goto, wx_tsw, wx_lsw, wx_getf, wx_putf, wx_iald, wx_bald, wx_cald, wx_lald, wx_aald1, wx_aald2, wx_iast, wx_bast, wx_cast, wx_last, wx_alen, wx_gets, wx_invV, wx_ord12, wx_ord13, wx_word, wx_want, wx_slen, wx_schr, wx_invS, wx_ret0, wx_ret1, wx_lret, wx_aret, wx_vret, wl_nil, wl_cons, li_0, li_s, lr_0, lr_s, ll_0, ll_s, pp_0, pp_s, rc_mk, rp_n, rp_s, fp_0, fp_1, fp_2, fg_0, fg_1, fg_2, fg_3, wcallV, wcall, List.set_cons_zero, List.set_cons_succ, Nat.reduceDiv, Nat.reduceMod, Nat.reduceAdd, Nat.reduceSub, Nat.reduceEqDiff, Int.reduceToNat, Int.reduceNatCast', gk, inr, gl, true_and, and_true, Int.zero_add, Int.add_zero, List.length_cons, List.length_nil, Nat.reduceLeDiff, Nat.reduceLT, Nat.le_refl, Nat.zero_le, Classical.not_not, Nat.zero_add, lc_ge, lc_gt, lc_le, lc_lt, lc_eq, mup_same, mu_ng, mu_ni, ne_eq, not_false_eq_true, Int.reduceEq, false_and, and_false, false_or, or_false, true_or, or_true, i10, i11, Int.reduceMul, Int.reduceAdd, Int.reduceSub, Int.mul_one, not_true_eq_false, false_implies, true_implies, implies_true, i01, i02, wx_a39, wx_a40, wx_a41, wx_a42, wx_a35, wx_a37, wx_a21, wx_a26, wx_aK, wx_s21, wx_s26, wx_ldcs]
      repeat' (first | ((first | refine Wq_i (i := 0) rfl (b_29_0 ?_) | refine Wq_i (i := 9) rfl (b_29_9 ?_) | refine Wq_i (i := 51) rfl (b_29_51 ?_) | refine Wq_i (i := 73) rfl (b_29_73 ?_) | refine Wq_i (i := 97) rfl (b_29_97 ?_) | refine Wq_i (i := 117) rfl (b_29_117 ?_) | refine Wq_i (i := 141) rfl (b_29_141 ?_) | refine Wq_i (i := 154) rfl (b_29_154 ?_) | refine Wq_i (i := 173) rfl (b_29_173 ?_) | refine Wq_i (i := 179) rfl (b_29_179 ?_) | refine Wq_i (i := 184) rfl (b_29_184 ?_) | refine Wq_i (i := 185) rfl (b_29_185 ?_) | refine Wq_i (i := 190) rfl (b_29_190 ?_) | refine Wq_i (i := 191) rfl (b_29_191 ?_) | refine Wq_i (i := 195) rfl (b_29_195 ?_) | refine Wq_i (i := 209) rfl (b_29_209 ?_) | refine Wq_i (i := 219) rfl (b_29_219 ?_) | refine Wq_i (i := 225) rfl (b_29_225 ?_) | refine Wq_i (i := 226) rfl (b_29_226 ?_)); (try simp only [wx_iconst, wx_ldc2, wx_iload, wx_lload, wx_aload, wx_istore, wx_lstore, wx_astore, wx_iinc, wx_iadd, wx_isub, wx_imul, wx_iand, wx_ior, wx_ixor, wx_ishl, wx_ishr, wx_iushr, wx_irem, wx_ineg, wx_ladd, wx_land, wx_lor, wx_lrem, wx_lneg, wx_lshl, wx_lushr, wx_lcmp, wx_i2l, wx_l2i, wx_i2b, wx_i2c, wx_dupI, wx_popI, wx_dupR, wx_popR, wx_dup2, wx_icmp_eq, wx_if_eq, wx_icmp_ne, wx_if_ne, wx_icmp_lt, wx_if_lt, wx_icmp_ge, wx_if_ge, wx_icmp_gt, wx_if_gt, wx_icmp_le, wx_if_le, wx_acmp_eq, wx_acmp_ne, wx_goto, wx_tsw, wx_lsw, wx_getf, wx_putf, wx_iald, wx_bald, wx_cald, wx_lald, wx_aald1, wx_aald2, wx_iast, wx_bast, wx_cast, wx_last, wx_alen, wx_gets, wx_invV, wx_ord12, wx_ord13, wx_word, wx_want, wx_slen, wx_schr, wx_invS, wx_ret0, wx_ret1, wx_lret, wx_aret, wx_vret, wl_nil, wl_cons, li_0, li_s, lr_0, lr_s, ll_0, ll_s, pp_0, pp_s, rc_mk, rp_n, rp_s, fp_0, fp_1, fp_2, fg_0, fg_1, fg_2, fg_3, wcallV, wcall, List.set_cons_zero, List.set_cons_succ, Nat.reduceDiv, Nat.reduceMod, Nat.reduceAdd, Nat.reduceSub, Nat.reduceEqDiff, Int.reduceToNat, Int.reduceNatCast', gk, inr, gl, true_and, and_true, Int.zero_add, Int.add_zero, List.length_cons, List.length_nil, Nat.reduceLeDiff, Nat.reduceLT, Nat.le_refl, Nat.zero_le, Classical.not_not, Nat.zero_add, lc_ge, lc_gt, lc_le, lc_lt, lc_eq, mup_same, mu_ng, mu_ni, ne_eq, not_false_eq_true, Int.reduceEq, false_and, and_false, false_or, or_false, true_or, or_true, i10, i11, Int.reduceMul, Int.reduceAdd, Int.reduceSub, Int.mul_one, not_true_eq_false, false_implies, true_implies, implies_true, i01, i02, wx_a39, wx_a40, wx_a41, wx_a42, wx_a35, wx_a37, wx_a21, wx_a26, wx_aK, wx_s21, wx_s26, wx_ldcs, w5, bs]); (try (simp (disch := omega) only [w32_of, w64_of]))) | (refine And.intro ?_ ?_) | (refine (fun _ => ?_ : _ → _)) | (simp (disch := omega) only [w32_of, w64_of]))
      all_goals (first | rfl | omega | (refine congrArg (fun z : Int => some (aI z)) ?_; omega) | (exact absurd True.intro (by assumption)) | (exfalso; omega) | decide | (simp only [or_true, true_or]; done) | (split <;> first | rfl | (exfalso; omega) | (split <;> first | rfl | (exfalso; omega) | (split <;> first | rfl | (exfalso; omega)))) | skip)
      all_goals (first | (rw [e2]; exact ih _ _ _) | exact ih _ _ _ | (exfalso; (try simp (disch := omega) only [w32_of, w64_of] at *); first | omega | contradiction))
    by_cases d4 : K i = 24
    · have z32 := r1 32
      rw [if_neg d1] at z32
      have z33 := r1 33
      rw [if_neg d2] at z33
      have z29 := r1 29
      rw [if_neg d3x] at z29
      have zz := r1 24
      rw [if_pos d4] at zz
      have pw : prw 24 := by unfold prw; decide
      have rr := dpt_r h hs d4 pw
      have l1 := dok_lt hc.ok hi (by rw [d4]; decide)
      have nn := nd_1 hnd d4 (by decide)
      have h1 : dst K (i + 1) = 22 := by show dt (dst K i) (K i) = 22; rw [h.2.2, d4]; rfl
      obtain ⟨Y1, p1, y1, _, o1⟩ := NX2 hy
      rw [nw] at p1
      have rn := R_W2_names (so := 2) (ru := 1) (ro := 4) hc hw (s := 22) (s' := 23) (fun _ => rfl) rfl rfl rfl rfl (by decide) (fun t q1 q2 q3 q4 => mng_n (nf_uses nf q1 (Or.inl q2) q3) (by decide)) h1 l1 y1
      have on := once_n hc nf hd hj k2 hjF (by omega) hji hnd rr d4 pw (s := 22) (s' := 23) (r := 4) (by decide) (fun s0 k q => dp_22 s0 k q) (fun s0 k q => dp_23 s0 k q) (fun v z f => by have := dr_4 _ _ z; omega) rfl (fun _ => rfl) (by decide)
      refine b_29_53 ?_
      simp only [wx_iconst, wx_ldc2, wx_iload, wx_lload, wx_aload, wx_istore, wx_lstore, wx_astore, wx_iinc, wx_iadd, wx_isub, wx_imul, wx_iand, wx_ior, wx_ixor, wx_ishl, wx_ishr, wx_iushr, wx_irem, wx_ineg, wx_ladd, wx_land, wx_lor, wx_lrem, wx_lneg, wx_lshl, wx_lushr, wx_lcmp, wx_i2l, wx_l2i, wx_i2b, wx_i2c, wx_dupI, wx_popI, wx_dupR, wx_popR, wx_dup2, wx_icmp_eq, wx_if_eq, wx_icmp_ne, wx_if_ne, wx_icmp_lt, wx_if_lt, wx_icmp_ge, wx_if_ge, wx_icmp_gt, wx_if_gt, wx_icmp_le, wx_if_le, wx_acmp_eq, wx_acmp_ne, wx_goto, wx_tsw, wx_lsw, wx_getf, wx_putf, wx_iald, wx_bald, wx_cald, wx_lald, wx_aald1, wx_aald2, wx_iast, wx_bast, wx_cast, wx_last, wx_alen, wx_gets, wx_invV, wx_ord12, wx_ord13, wx_word, wx_want, wx_slen, wx_schr, wx_invS, wx_ret0, wx_ret1, wx_lret, wx_aret, wx_vret, wl_nil, wl_cons, li_0, li_s, lr_0, lr_s, ll_0, ll_s, pp_0, pp_s, rc_mk, rp_n, rp_s, fp_0, fp_1, fp_2, fg_0, fg_1, fg_2, fg_3, wcallV, wcall, List.set_cons_zero, List.set_cons_succ, Nat.reduceDiv, Nat.reduceMod, Nat.reduceAdd, Nat.reduceSub, Nat.reduceEqDiff, Int.reduceToNat, Int.reduceNatCast', gk, inr, gl, true_and, and_true, Int.zero_add, Int.add_zero, List.length_cons, List.length_nil, Nat.reduceLeDiff, Nat.reduceLT, Nat.le_refl, Nat.zero_le, Classical.not_not, Nat.zero_add, lc_ge, lc_gt, lc_le, lc_lt, lc_eq, mup_same, mu_ng, mu_ni, ne_eq, not_false_eq_true, Int.reduceEq, false_and, and_false, false_or, or_false, true_or, or_true, i10, i11, Int.reduceMul, Int.reduceAdd, Int.reduceSub, Int.mul_one, not_true_eq_false, false_implies, true_implies, implies_true, i01, i02, wx_a39, wx_a40, wx_a41, wx_a42, wx_a35, wx_a37, wx_a21, wx_a26, wx_aK, wx_s21, wx_s26, wx_ldcs]
      repeat' (first | ((first | refine Wq_i (i := 0) rfl (b_29_0 ?_) | refine Wq_i (i := 9) rfl (b_29_9 ?_) | refine Wq_i (i := 51) rfl (b_29_51 ?_) | refine Wq_i (i := 73) rfl (b_29_73 ?_) | refine Wq_i (i := 97) rfl (b_29_97 ?_) | refine Wq_i (i := 117) rfl (b_29_117 ?_) | refine Wq_i (i := 141) rfl (b_29_141 ?_) | refine Wq_i (i := 154) rfl (b_29_154 ?_) | refine Wq_i (i := 173) rfl (b_29_173 ?_) | refine Wq_i (i := 179) rfl (b_29_179 ?_) | refine Wq_i (i := 184) rfl (b_29_184 ?_) | refine Wq_i (i := 185) rfl (b_29_185 ?_) | refine Wq_i (i := 190) rfl (b_29_190 ?_) | refine Wq_i (i := 191) rfl (b_29_191 ?_) | refine Wq_i (i := 195) rfl (b_29_195 ?_) | refine Wq_i (i := 209) rfl (b_29_209 ?_) | refine Wq_i (i := 219) rfl (b_29_219 ?_) | refine Wq_i (i := 225) rfl (b_29_225 ?_) | refine Wq_i (i := 226) rfl (b_29_226 ?_) | refine call_f2 (n := 12) rfl z32 ?_ | refine call_f2 (n := 12) rfl z33 ?_ | refine call_f2 (n := 12) rfl z29 ?_ | refine call_f2 (n := 12) rfl zz ?_); (try simp only [wx_iconst, wx_ldc2, wx_iload, wx_lload, wx_aload, wx_istore, wx_lstore, wx_astore, wx_iinc, wx_iadd, wx_isub, wx_imul, wx_iand, wx_ior, wx_ixor, wx_ishl, wx_ishr, wx_iushr, wx_irem, wx_ineg, wx_ladd, wx_land, wx_lor, wx_lrem, wx_lneg, wx_lshl, wx_lushr, wx_lcmp, wx_i2l, wx_l2i, wx_i2b, wx_i2c, wx_dupI, wx_popI, wx_dupR, wx_popR, wx_dup2, wx_icmp_eq, wx_if_eq, wx_icmp_ne, wx_if_ne, wx_icmp_lt, wx_if_lt, wx_icmp_ge, wx_if_ge, wx_icmp_gt, wx_if_gt, wx_icmp_le, wx_if_le, wx_acmp_eq, wx_acmp_ne, wx_goto, wx_tsw, wx_lsw, wx_getf, wx_putf, wx_iald, wx_bald, wx_cald, wx_lald, wx_aald1, wx_aald2, wx_iast, wx_bast, wx_cast, wx_last, wx_alen, wx_gets, wx_invV, wx_ord12, wx_ord13, wx_word, wx_want, wx_slen, wx_schr, wx_invS, wx_ret0, wx_ret1, wx_lret, wx_aret, wx_vret, wl_nil, wl_cons, li_0, li_s, lr_0, lr_s, ll_0, ll_s, pp_0, pp_s, rc_mk, rp_n, rp_s, fp_0, fp_1, fp_2, fg_0, fg_1, fg_2, fg_3, wcallV, wcall, List.set_cons_zero, List.set_cons_succ, Nat.reduceDiv, Nat.reduceMod, Nat.reduceAdd, Nat.reduceSub, Nat.reduceEqDiff, Int.reduceToNat, Int.reduceNatCast', gk, inr, gl, true_and, and_true, Int.zero_add, Int.add_zero, List.length_cons, List.length_nil, Nat.reduceLeDiff, Nat.reduceLT, Nat.le_refl, Nat.zero_le, Classical.not_not, Nat.zero_add, lc_ge, lc_gt, lc_le, lc_lt, lc_eq, mup_same, mu_ng, mu_ni, ne_eq, not_false_eq_true, Int.reduceEq, false_and, and_false, false_or, or_false, true_or, or_true, i10, i11, Int.reduceMul, Int.reduceAdd, Int.reduceSub, Int.mul_one, not_true_eq_false, false_implies, true_implies, implies_true, i01, i02, wx_a39, wx_a40, wx_a41, wx_a42, wx_a35, wx_a37, wx_a21, wx_a26, wx_aK, wx_s21, wx_s26, wx_ldcs, nw, w0, q, d4]); (try (simp (disch := omega) only [w32_of, w64_of]))) | (refine And.intro ?_ ?_) | (refine (fun _ => ?_ : _ → _)) | (simp (disch := omega) only [w32_of, w64_of]))
      all_goals (first | rfl | omega | (refine congrArg (fun z : Int => some (aI z)) ?_; omega) | (exact absurd True.intro (by assumption)) | (exfalso; omega) | decide | (simp only [or_true, true_or]; done) | (split <;> first | rfl | (exfalso; omega) | (split <;> first | rfl | (exfalso; omega) | (split <;> first | rfl | (exfalso; omega)))) | skip)
      all_goals (first | (exfalso; (try simp (disch := omega) only [w32_of, w64_of] at *); first | omega | contradiction) | skip)
      all_goals (rw [p1]; refine call_re rn ?_; rintro r M' ⟨f, rfl, u1, u2, u3, u4, u5, u6, u7, u8⟩)
      have lf := u2.1
      have w5 : (M' 11 0 21) = 2 := by rw [u1.pd.2.2.2]; exact hw
      have hf : dpt K f := ⟨by rw [u4]; decide, by rw [u4]; rfl, by rw [u4]; exact if_neg u5⟩
      have bs : (M' 11 0 48) = bfo M K 4 (j + 1) (f - (j + 1)) := by
        rw [u6, bfo_y (b := i + 1) (by omega) (by omega) (fun u a b => on u a b (by decide))]
      obtain ⟨Y2, e2⟩ : ∃ Z, (mup M' 98390 0 (k) (bfo M K 4 (j + 1) (f - (j + 1)))) = Z := ⟨_, rfl⟩
      have y2 : P2 M Y0 Y2 gT k f := by rw [← e2]; exact u1.w _ (by decide) rfl (by decide)
      have oo : ∀ g : Nat, g ≠ 11 → g ≠ 98390 → ∀ t x : Int, Y2 g t x = Y g t x := fun g a b t x => by rw [← e2, mu_ng b, u8 g t x a]; exact o1 g t x a
      have nx : ∀ r : Int, ¬ r = 2 → ¬ r = 0 → ¬ r = 4 → ∀ u : Nat, i ≤ u → u < f → ¬ rol K u = r := fun r hr hr0 hr' u a b z => by
        by_cases e : u = i
        · rw [e, rr] at z; exact hr z.symm
        · rcases u7 u (by omega) b with c | c
          · rw [c.1] at z; exact hr' z.symm
          · rw [c.1] at z; exact hr0 z.symm
      have tp2 : TP M K j k f Y2 := by
        refine TP.mk ?_ ?_ ?_ ?_ ?_ ?_
        · rw [oo _ (by decide) (by decide)]; exact tp.pr
        · rw [oo _ (by decide) (by decide)]
          rcases tp.wh with ⟨a, u, b, c, e⟩ | ⟨a, b⟩
          · exact Or.inl ⟨a, u, b, by omega, e⟩
          · refine Or.inr ⟨a, fun u x y z => ?_⟩
            by_cases e : u < i
            · exact b u x e z
            · by_cases e' : u = i
              · rw [e', d4] at z; exact absurd z (by decide)
              · rcases u7 u (by omega) y with c | c
                · rw [c.2] at z; exact absurd z (by decide)
                · rw [c.2] at z; exact absurd z (by decide)
        · rw [oo _ (by decide) (by decide)]
          rcases tp.lm with ⟨u, a, b, c⟩ | ⟨a, b⟩
          · exact Or.inl ⟨u, by omega, b, c⟩
          · refine Or.inr ⟨fun u x y z => ?_, b⟩
            by_cases e : u < i
            · exact a u x e z
            · exact nx 12 (by decide) (by decide) (by decide) u (by omega) y z
        · rw [oo _ (by decide) (by decide), bfo_x (i := i) (by omega) (by omega) (nx 9 (by decide) (by decide) (by decide))]; exact tp.ev
        · rw [oo _ (by decide) (by decide), bfo_x (i := i) (by omega) (by omega) (nx 10 (by decide) (by decide) (by decide))]; exact tp.mo
        · rw [← e2, mup_same]
      have ih := fun se x y => ih f Y2 se x y (by omega) hf (by unfold dps; omega) u3 (by omega) (nd_t nn u2) y2 tp2
      generalize bfo M K 4 (j + 1) (f - (j + 1)) = bb at *
      simp only [wx_iconst, wx_ldc2, wx_iload, wx_lload, wx_aload, wx_istore, wx_lstore, wx_astore, wx_iinc, wx_iadd, wx_isub, wx_imul, wx_iand, wx_ior, wx_ixor, wx_ishl, wx_ishr, wx_iushr, wx_irem, wx_ineg, wx_ladd, wx_land, wx_lor, wx_lrem, wx_lneg, wx_lshl, wx_lushr, wx_lcmp, wx_i2l, wx_l2i, wx_i2b, wx_i2c, wx_dupI, wx_popI, wx_dupR, wx_popR, wx_dup2, wx_icmp_eq, wx_if_eq, wx_icmp_ne, wx_if_ne, wx_icmp_lt, wx_if_lt, wx_icmp_ge, wx_if_ge, wx_icmp_gt, wx_if_gt, wx_icmp_le, wx_if_le, wx_acmp_eq, wx_acmp_ne, wx_goto, wx_tsw, wx_lsw, wx_getf, wx_putf, wx_iald, wx_bald, wx_cald, wx_lald, wx_aald1, wx_aald2, wx_iast, wx_bast, wx_cast, wx_last, wx_alen, wx_gets, wx_invV, wx_ord12, wx_ord13, wx_word, wx_want, wx_slen, wx_schr, wx_invS, wx_ret0, wx_ret1, wx_lret, wx_aret, wx_vret, wl_nil, wl_cons, li_0, li_s, lr_0, lr_s, ll_0, ll_s, pp_0, pp_s, rc_mk, rp_n, rp_s, fp_0, fp_1, fp_2, fg_0, fg_1, fg_2, fg_3, wcallV, wcall, List.set_cons_zero, List.set_cons_succ, Nat.reduceDiv, Nat.reduceMod, Nat.reduceAdd, Nat.reduceSub, Nat.reduceEqDiff, Int.reduceToNat, Int.reduceNatCast', gk, inr, gl, true_and, and_true, Int.zero_add, Int.add_zero, List.length_cons, List.length_nil, Nat.reduceLeDiff, Nat.reduceLT, Nat.le_refl, Nat.zero_le, Classical.not_not, Nat.zero_add, lc_ge, lc_gt, lc_le, lc_lt, lc_eq, mup_same, mu_ng, mu_ni, ne_eq, not_false_eq_true, Int.reduceEq, false_and, and_false, false_or, or_false, true_or, or_true, i10, i11, Int.reduceMul, Int.reduceAdd, Int.reduceSub, Int.mul_one, not_true_eq_false, false_implies, true_implies, implies_true, i01, i02, wx_a39, wx_a40, wx_a41, wx_a42, wx_a35, wx_a37, wx_a21, wx_a26, wx_aK, wx_s21, wx_s26, wx_ldcs]
      repeat' (first | ((first | refine Wq_i (i := 0) rfl (b_29_0 ?_) | refine Wq_i (i := 9) rfl (b_29_9 ?_) | refine Wq_i (i := 51) rfl (b_29_51 ?_) | refine Wq_i (i := 73) rfl (b_29_73 ?_) | refine Wq_i (i := 97) rfl (b_29_97 ?_) | refine Wq_i (i := 117) rfl (b_29_117 ?_) | refine Wq_i (i := 141) rfl (b_29_141 ?_) | refine Wq_i (i := 154) rfl (b_29_154 ?_) | refine Wq_i (i := 173) rfl (b_29_173 ?_) | refine Wq_i (i := 179) rfl (b_29_179 ?_) | refine Wq_i (i := 184) rfl (b_29_184 ?_) | refine Wq_i (i := 185) rfl (b_29_185 ?_) | refine Wq_i (i := 190) rfl (b_29_190 ?_) | refine Wq_i (i := 191) rfl (b_29_191 ?_) | refine Wq_i (i := 195) rfl (b_29_195 ?_) | refine Wq_i (i := 209) rfl (b_29_209 ?_) | refine Wq_i (i := 219) rfl (b_29_219 ?_) | refine Wq_i (i := 225) rfl (b_29_225 ?_) | refine Wq_i (i := 226) rfl (b_29_226 ?_)); (try simp only [wx_iconst, wx_ldc2, wx_iload, wx_lload, wx_aload, wx_istore, wx_lstore, wx_astore, wx_iinc, wx_iadd, wx_isub, wx_imul, wx_iand, wx_ior, wx_ixor, wx_ishl, wx_ishr, wx_iushr, wx_irem, wx_ineg, wx_ladd, wx_land, wx_lor, wx_lrem, wx_lneg, wx_lshl, wx_lushr, wx_lcmp, wx_i2l, wx_l2i, wx_i2b, wx_i2c, wx_dupI, wx_popI, wx_dupR, wx_popR, wx_dup2, wx_icmp_eq, wx_if_eq, wx_icmp_ne, wx_if_ne, wx_icmp_lt, wx_if_lt, wx_icmp_ge, wx_if_ge, wx_icmp_gt, wx_if_gt, wx_icmp_le, wx_if_le, wx_acmp_eq, wx_acmp_ne, wx_goto, wx_tsw, wx_lsw, wx_getf, wx_putf, wx_iald, wx_bald, wx_cald, wx_lald, wx_aald1, wx_aald2, wx_iast, wx_bast, wx_cast, wx_last, wx_alen, wx_gets, wx_invV, wx_ord12, wx_ord13, wx_word, wx_want, wx_slen, wx_schr, wx_invS, wx_ret0, wx_ret1, wx_lret, wx_aret, wx_vret, wl_nil, wl_cons, li_0, li_s, lr_0, lr_s, ll_0, ll_s, pp_0, pp_s, rc_mk, rp_n, rp_s, fp_0, fp_1, fp_2, fg_0, fg_1, fg_2, fg_3, wcallV, wcall, List.set_cons_zero, List.set_cons_succ, Nat.reduceDiv, Nat.reduceMod, Nat.reduceAdd, Nat.reduceSub, Nat.reduceEqDiff, Int.reduceToNat, Int.reduceNatCast', gk, inr, gl, true_and, and_true, Int.zero_add, Int.add_zero, List.length_cons, List.length_nil, Nat.reduceLeDiff, Nat.reduceLT, Nat.le_refl, Nat.zero_le, Classical.not_not, Nat.zero_add, lc_ge, lc_gt, lc_le, lc_lt, lc_eq, mup_same, mu_ng, mu_ni, ne_eq, not_false_eq_true, Int.reduceEq, false_and, and_false, false_or, or_false, true_or, or_true, i10, i11, Int.reduceMul, Int.reduceAdd, Int.reduceSub, Int.mul_one, not_true_eq_false, false_implies, true_implies, implies_true, i01, i02, wx_a39, wx_a40, wx_a41, wx_a42, wx_a35, wx_a37, wx_a21, wx_a26, wx_aK, wx_s21, wx_s26, wx_ldcs, w5, bs]); (try (simp (disch := omega) only [w32_of, w64_of]))) | (refine And.intro ?_ ?_) | (refine (fun _ => ?_ : _ → _)) | (simp (disch := omega) only [w32_of, w64_of]))
      all_goals (first | rfl | omega | (refine congrArg (fun z : Int => some (aI z)) ?_; omega) | (exact absurd True.intro (by assumption)) | (exfalso; omega) | decide | (simp only [or_true, true_or]; done) | (split <;> first | rfl | (exfalso; omega) | (split <;> first | rfl | (exfalso; omega) | (split <;> first | rfl | (exfalso; omega)))) | skip)
      all_goals (first | (rw [e2]; exact ih _ _ _) | exact ih _ _ _ | (exfalso; (try simp (disch := omega) only [w32_of, w64_of] at *); first | omega | contradiction))
    by_cases d5 : K i = 34
    · have z32 := r1 32
      rw [if_neg d1] at z32
      have z33 := r1 33
      rw [if_neg d2] at z33
      have z29 := r1 29
      rw [if_neg d3x] at z29
      have z24 := r1 24
      rw [if_neg d4] at z24
      have zz := r1 34
      rw [if_pos d5] at zz
      have pw : prw 34 := by unfold prw; decide
      have rr := dpt_r h hs d5 pw
      have l1 := dok_lt hc.ok hi (by rw [d5]; decide)
      have nn := nd_1 hnd d5 (by decide)
      have h1 : dst K (i + 1) = 24 := by show dt (dst K i) (K i) = 24; rw [h.2.2, d5]; rfl
      obtain ⟨Y1, p1, y1, _, o1⟩ := NX2 hy
      rw [nw] at p1
      have rn := R_W2_names (so := 1) (ru := 0) (ro := 9) hc hw (s := 24) (s' := 25) (fun _ => rfl) rfl rfl rfl rfl (by decide) (fun t q1 q2 q3 q4 => mng_n (nf_waits nf q1 q2 q3) (by decide)) h1 l1 y1
      have on := once_n hc nf hd hj k2 hjF (by omega) hji hnd rr d5 pw (s := 24) (s' := 25) (r := 9) (by decide) (fun s0 k q => dp_24 s0 k q) (fun s0 k q => dp_25 s0 k q) (fun v z f => dr_9 _ _ z) rfl (fun _ => rfl) (by decide)
      refine b_29_53 ?_
      simp only [wx_iconst, wx_ldc2, wx_iload, wx_lload, wx_aload, wx_istore, wx_lstore, wx_astore, wx_iinc, wx_iadd, wx_isub, wx_imul, wx_iand, wx_ior, wx_ixor, wx_ishl, wx_ishr, wx_iushr, wx_irem, wx_ineg, wx_ladd, wx_land, wx_lor, wx_lrem, wx_lneg, wx_lshl, wx_lushr, wx_lcmp, wx_i2l, wx_l2i, wx_i2b, wx_i2c, wx_dupI, wx_popI, wx_dupR, wx_popR, wx_dup2, wx_icmp_eq, wx_if_eq, wx_icmp_ne, wx_if_ne, wx_icmp_lt, wx_if_lt, wx_icmp_ge, wx_if_ge, wx_icmp_gt, wx_if_gt, wx_icmp_le, wx_if_le, wx_acmp_eq, wx_acmp_ne, wx_goto, wx_tsw, wx_lsw, wx_getf, wx_putf, wx_iald, wx_bald, wx_cald, wx_lald, wx_aald1, wx_aald2, wx_iast, wx_bast, wx_cast, wx_last, wx_alen, wx_gets, wx_invV, wx_ord12, wx_ord13, wx_word, wx_want, wx_slen, wx_schr, wx_invS, wx_ret0, wx_ret1, wx_lret, wx_aret, wx_vret, wl_nil, wl_cons, li_0, li_s, lr_0, lr_s, ll_0, ll_s, pp_0, pp_s, rc_mk, rp_n, rp_s, fp_0, fp_1, fp_2, fg_0, fg_1, fg_2, fg_3, wcallV, wcall, List.set_cons_zero, List.set_cons_succ, Nat.reduceDiv, Nat.reduceMod, Nat.reduceAdd, Nat.reduceSub, Nat.reduceEqDiff, Int.reduceToNat, Int.reduceNatCast', gk, inr, gl, true_and, and_true, Int.zero_add, Int.add_zero, List.length_cons, List.length_nil, Nat.reduceLeDiff, Nat.reduceLT, Nat.le_refl, Nat.zero_le, Classical.not_not, Nat.zero_add, lc_ge, lc_gt, lc_le, lc_lt, lc_eq, mup_same, mu_ng, mu_ni, ne_eq, not_false_eq_true, Int.reduceEq, false_and, and_false, false_or, or_false, true_or, or_true, i10, i11, Int.reduceMul, Int.reduceAdd, Int.reduceSub, Int.mul_one, not_true_eq_false, false_implies, true_implies, implies_true, i01, i02, wx_a39, wx_a40, wx_a41, wx_a42, wx_a35, wx_a37, wx_a21, wx_a26, wx_aK, wx_s21, wx_s26, wx_ldcs]
      repeat' (first | ((first | refine Wq_i (i := 0) rfl (b_29_0 ?_) | refine Wq_i (i := 9) rfl (b_29_9 ?_) | refine Wq_i (i := 51) rfl (b_29_51 ?_) | refine Wq_i (i := 73) rfl (b_29_73 ?_) | refine Wq_i (i := 97) rfl (b_29_97 ?_) | refine Wq_i (i := 117) rfl (b_29_117 ?_) | refine Wq_i (i := 141) rfl (b_29_141 ?_) | refine Wq_i (i := 154) rfl (b_29_154 ?_) | refine Wq_i (i := 173) rfl (b_29_173 ?_) | refine Wq_i (i := 179) rfl (b_29_179 ?_) | refine Wq_i (i := 184) rfl (b_29_184 ?_) | refine Wq_i (i := 185) rfl (b_29_185 ?_) | refine Wq_i (i := 190) rfl (b_29_190 ?_) | refine Wq_i (i := 191) rfl (b_29_191 ?_) | refine Wq_i (i := 195) rfl (b_29_195 ?_) | refine Wq_i (i := 209) rfl (b_29_209 ?_) | refine Wq_i (i := 219) rfl (b_29_219 ?_) | refine Wq_i (i := 225) rfl (b_29_225 ?_) | refine Wq_i (i := 226) rfl (b_29_226 ?_) | refine call_f2 (n := 12) rfl z32 ?_ | refine call_f2 (n := 12) rfl z33 ?_ | refine call_f2 (n := 12) rfl z29 ?_ | refine call_f2 (n := 12) rfl z24 ?_ | refine call_f2 (n := 12) rfl zz ?_); (try simp only [wx_iconst, wx_ldc2, wx_iload, wx_lload, wx_aload, wx_istore, wx_lstore, wx_astore, wx_iinc, wx_iadd, wx_isub, wx_imul, wx_iand, wx_ior, wx_ixor, wx_ishl, wx_ishr, wx_iushr, wx_irem, wx_ineg, wx_ladd, wx_land, wx_lor, wx_lrem, wx_lneg, wx_lshl, wx_lushr, wx_lcmp, wx_i2l, wx_l2i, wx_i2b, wx_i2c, wx_dupI, wx_popI, wx_dupR, wx_popR, wx_dup2, wx_icmp_eq, wx_if_eq, wx_icmp_ne, wx_if_ne, wx_icmp_lt, wx_if_lt, wx_icmp_ge, wx_if_ge, wx_icmp_gt, wx_if_gt, wx_icmp_le, wx_if_le, wx_acmp_eq, wx_acmp_ne, wx_goto, wx_tsw, wx_lsw, wx_getf, wx_putf, wx_iald, wx_bald, wx_cald, wx_lald, wx_aald1, wx_aald2, wx_iast, wx_bast, wx_cast, wx_last, wx_alen, wx_gets, wx_invV, wx_ord12, wx_ord13, wx_word, wx_want, wx_slen, wx_schr, wx_invS, wx_ret0, wx_ret1, wx_lret, wx_aret, wx_vret, wl_nil, wl_cons, li_0, li_s, lr_0, lr_s, ll_0, ll_s, pp_0, pp_s, rc_mk, rp_n, rp_s, fp_0, fp_1, fp_2, fg_0, fg_1, fg_2, fg_3, wcallV, wcall, List.set_cons_zero, List.set_cons_succ, Nat.reduceDiv, Nat.reduceMod, Nat.reduceAdd, Nat.reduceSub, Nat.reduceEqDiff, Int.reduceToNat, Int.reduceNatCast', gk, inr, gl, true_and, and_true, Int.zero_add, Int.add_zero, List.length_cons, List.length_nil, Nat.reduceLeDiff, Nat.reduceLT, Nat.le_refl, Nat.zero_le, Classical.not_not, Nat.zero_add, lc_ge, lc_gt, lc_le, lc_lt, lc_eq, mup_same, mu_ng, mu_ni, ne_eq, not_false_eq_true, Int.reduceEq, false_and, and_false, false_or, or_false, true_or, or_true, i10, i11, Int.reduceMul, Int.reduceAdd, Int.reduceSub, Int.mul_one, not_true_eq_false, false_implies, true_implies, implies_true, i01, i02, wx_a39, wx_a40, wx_a41, wx_a42, wx_a35, wx_a37, wx_a21, wx_a26, wx_aK, wx_s21, wx_s26, wx_ldcs, nw, w0, q, d5]); (try (simp (disch := omega) only [w32_of, w64_of]))) | (refine And.intro ?_ ?_) | (refine (fun _ => ?_ : _ → _)) | (simp (disch := omega) only [w32_of, w64_of]))
      all_goals (first | rfl | omega | (refine congrArg (fun z : Int => some (aI z)) ?_; omega) | (exact absurd True.intro (by assumption)) | (exfalso; omega) | decide | (simp only [or_true, true_or]; done) | (split <;> first | rfl | (exfalso; omega) | (split <;> first | rfl | (exfalso; omega) | (split <;> first | rfl | (exfalso; omega)))) | skip)
      all_goals (first | (exfalso; (try simp (disch := omega) only [w32_of, w64_of] at *); first | omega | contradiction) | skip)
      all_goals (rw [p1]; refine call_re rn ?_; rintro r M' ⟨f, rfl, u1, u2, u3, u4, u5, u6, u7, u8⟩)
      have lf := u2.1
      have w5 : (M' 11 0 21) = 2 := by rw [u1.pd.2.2.2]; exact hw
      have hf : dpt K f := ⟨by rw [u4]; decide, by rw [u4]; rfl, by rw [u4]; exact if_neg u5⟩
      have bs : (M' 11 0 48) = bfo M K 9 (j + 1) (f - (j + 1)) := by
        rw [u6, bfo_y (b := i + 1) (by omega) (by omega) (fun u a b => on u a b (by decide))]
      obtain ⟨Y2, e2⟩ : ∃ Z, (mup M' 98388 0 (k) (bfo M K 9 (j + 1) (f - (j + 1)))) = Z := ⟨_, rfl⟩
      have y2 : P2 M Y0 Y2 gT k f := by rw [← e2]; exact u1.w _ (by decide) rfl (by decide)
      have oo : ∀ g : Nat, g ≠ 11 → g ≠ 98388 → ∀ t x : Int, Y2 g t x = Y g t x := fun g a b t x => by rw [← e2, mu_ng b, u8 g t x a]; exact o1 g t x a
      have nx : ∀ r : Int, ¬ r = 2 → ¬ r = 0 → ¬ r = 9 → ∀ u : Nat, i ≤ u → u < f → ¬ rol K u = r := fun r hr hr0 hr' u a b z => by
        by_cases e : u = i
        · rw [e, rr] at z; exact hr z.symm
        · rcases u7 u (by omega) b with c | c
          · rw [c.1] at z; exact hr' z.symm
          · rw [c.1] at z; exact hr0 z.symm
      have tp2 : TP M K j k f Y2 := by
        refine TP.mk ?_ ?_ ?_ ?_ ?_ ?_
        · rw [oo _ (by decide) (by decide)]; exact tp.pr
        · rw [oo _ (by decide) (by decide)]
          rcases tp.wh with ⟨a, u, b, c, e⟩ | ⟨a, b⟩
          · exact Or.inl ⟨a, u, b, by omega, e⟩
          · refine Or.inr ⟨a, fun u x y z => ?_⟩
            by_cases e : u < i
            · exact b u x e z
            · by_cases e' : u = i
              · rw [e', d5] at z; exact absurd z (by decide)
              · rcases u7 u (by omega) y with c | c
                · rw [c.2] at z; exact absurd z (by decide)
                · rw [c.2] at z; exact absurd z (by decide)
        · rw [oo _ (by decide) (by decide)]
          rcases tp.lm with ⟨u, a, b, c⟩ | ⟨a, b⟩
          · exact Or.inl ⟨u, by omega, b, c⟩
          · refine Or.inr ⟨fun u x y z => ?_, b⟩
            by_cases e : u < i
            · exact a u x e z
            · exact nx 12 (by decide) (by decide) (by decide) u (by omega) y z
        · rw [← e2, mup_same]
        · rw [oo _ (by decide) (by decide), bfo_x (i := i) (by omega) (by omega) (nx 10 (by decide) (by decide) (by decide))]; exact tp.mo
        · rw [oo _ (by decide) (by decide), bfo_x (i := i) (by omega) (by omega) (nx 4 (by decide) (by decide) (by decide))]; exact tp.us
      have ih := fun se x y => ih f Y2 se x y (by omega) hf (by unfold dps; omega) u3 (by omega) (nd_t nn u2) y2 tp2
      generalize bfo M K 9 (j + 1) (f - (j + 1)) = bb at *
      simp only [wx_iconst, wx_ldc2, wx_iload, wx_lload, wx_aload, wx_istore, wx_lstore, wx_astore, wx_iinc, wx_iadd, wx_isub, wx_imul, wx_iand, wx_ior, wx_ixor, wx_ishl, wx_ishr, wx_iushr, wx_irem, wx_ineg, wx_ladd, wx_land, wx_lor, wx_lrem, wx_lneg, wx_lshl, wx_lushr, wx_lcmp, wx_i2l, wx_l2i, wx_i2b, wx_i2c, wx_dupI, wx_popI, wx_dupR, wx_popR, wx_dup2, wx_icmp_eq, wx_if_eq, wx_icmp_ne, wx_if_ne, wx_icmp_lt, wx_if_lt, wx_icmp_ge, wx_if_ge, wx_icmp_gt, wx_if_gt, wx_icmp_le, wx_if_le, wx_acmp_eq, wx_acmp_ne, wx_goto, wx_tsw, wx_lsw, wx_getf, wx_putf, wx_iald, wx_bald, wx_cald, wx_lald, wx_aald1, wx_aald2, wx_iast, wx_bast, wx_cast, wx_last, wx_alen, wx_gets, wx_invV, wx_ord12, wx_ord13, wx_word, wx_want, wx_slen, wx_schr, wx_invS, wx_ret0, wx_ret1, wx_lret, wx_aret, wx_vret, wl_nil, wl_cons, li_0, li_s, lr_0, lr_s, ll_0, ll_s, pp_0, pp_s, rc_mk, rp_n, rp_s, fp_0, fp_1, fp_2, fg_0, fg_1, fg_2, fg_3, wcallV, wcall, List.set_cons_zero, List.set_cons_succ, Nat.reduceDiv, Nat.reduceMod, Nat.reduceAdd, Nat.reduceSub, Nat.reduceEqDiff, Int.reduceToNat, Int.reduceNatCast', gk, inr, gl, true_and, and_true, Int.zero_add, Int.add_zero, List.length_cons, List.length_nil, Nat.reduceLeDiff, Nat.reduceLT, Nat.le_refl, Nat.zero_le, Classical.not_not, Nat.zero_add, lc_ge, lc_gt, lc_le, lc_lt, lc_eq, mup_same, mu_ng, mu_ni, ne_eq, not_false_eq_true, Int.reduceEq, false_and, and_false, false_or, or_false, true_or, or_true, i10, i11, Int.reduceMul, Int.reduceAdd, Int.reduceSub, Int.mul_one, not_true_eq_false, false_implies, true_implies, implies_true, i01, i02, wx_a39, wx_a40, wx_a41, wx_a42, wx_a35, wx_a37, wx_a21, wx_a26, wx_aK, wx_s21, wx_s26, wx_ldcs]
      repeat' (first | ((first | refine Wq_i (i := 0) rfl (b_29_0 ?_) | refine Wq_i (i := 9) rfl (b_29_9 ?_) | refine Wq_i (i := 51) rfl (b_29_51 ?_) | refine Wq_i (i := 73) rfl (b_29_73 ?_) | refine Wq_i (i := 97) rfl (b_29_97 ?_) | refine Wq_i (i := 117) rfl (b_29_117 ?_) | refine Wq_i (i := 141) rfl (b_29_141 ?_) | refine Wq_i (i := 154) rfl (b_29_154 ?_) | refine Wq_i (i := 173) rfl (b_29_173 ?_) | refine Wq_i (i := 179) rfl (b_29_179 ?_) | refine Wq_i (i := 184) rfl (b_29_184 ?_) | refine Wq_i (i := 185) rfl (b_29_185 ?_) | refine Wq_i (i := 190) rfl (b_29_190 ?_) | refine Wq_i (i := 191) rfl (b_29_191 ?_) | refine Wq_i (i := 195) rfl (b_29_195 ?_) | refine Wq_i (i := 209) rfl (b_29_209 ?_) | refine Wq_i (i := 219) rfl (b_29_219 ?_) | refine Wq_i (i := 225) rfl (b_29_225 ?_) | refine Wq_i (i := 226) rfl (b_29_226 ?_)); (try simp only [wx_iconst, wx_ldc2, wx_iload, wx_lload, wx_aload, wx_istore, wx_lstore, wx_astore, wx_iinc, wx_iadd, wx_isub, wx_imul, wx_iand, wx_ior, wx_ixor, wx_ishl, wx_ishr, wx_iushr, wx_irem, wx_ineg, wx_ladd, wx_land, wx_lor, wx_lrem, wx_lneg, wx_lshl, wx_lushr, wx_lcmp, wx_i2l, wx_l2i, wx_i2b, wx_i2c, wx_dupI, wx_popI, wx_dupR, wx_popR, wx_dup2, wx_icmp_eq, wx_if_eq, wx_icmp_ne, wx_if_ne, wx_icmp_lt, wx_if_lt, wx_icmp_ge, wx_if_ge, wx_icmp_gt, wx_if_gt, wx_icmp_le, wx_if_le, wx_acmp_eq, wx_acmp_ne, wx_goto, wx_tsw, wx_lsw, wx_getf, wx_putf, wx_iald, wx_bald, wx_cald, wx_lald, wx_aald1, wx_aald2, wx_iast, wx_bast, wx_cast, wx_last, wx_alen, wx_gets, wx_invV, wx_ord12, wx_ord13, wx_word, wx_want, wx_slen, wx_schr, wx_invS, wx_ret0, wx_ret1, wx_lret, wx_aret, wx_vret, wl_nil, wl_cons, li_0, li_s, lr_0, lr_s, ll_0, ll_s, pp_0, pp_s, rc_mk, rp_n, rp_s, fp_0, fp_1, fp_2, fg_0, fg_1, fg_2, fg_3, wcallV, wcall, List.set_cons_zero, List.set_cons_succ, Nat.reduceDiv, Nat.reduceMod, Nat.reduceAdd, Nat.reduceSub, Nat.reduceEqDiff, Int.reduceToNat, Int.reduceNatCast', gk, inr, gl, true_and, and_true, Int.zero_add, Int.add_zero, List.length_cons, List.length_nil, Nat.reduceLeDiff, Nat.reduceLT, Nat.le_refl, Nat.zero_le, Classical.not_not, Nat.zero_add, lc_ge, lc_gt, lc_le, lc_lt, lc_eq, mup_same, mu_ng, mu_ni, ne_eq, not_false_eq_true, Int.reduceEq, false_and, and_false, false_or, or_false, true_or, or_true, i10, i11, Int.reduceMul, Int.reduceAdd, Int.reduceSub, Int.mul_one, not_true_eq_false, false_implies, true_implies, implies_true, i01, i02, wx_a39, wx_a40, wx_a41, wx_a42, wx_a35, wx_a37, wx_a21, wx_a26, wx_aK, wx_s21, wx_s26, wx_ldcs, w5, bs]); (try (simp (disch := omega) only [w32_of, w64_of]))) | (refine And.intro ?_ ?_) | (refine (fun _ => ?_ : _ → _)) | (simp (disch := omega) only [w32_of, w64_of]))
      all_goals (first | rfl | omega | (refine congrArg (fun z : Int => some (aI z)) ?_; omega) | (exact absurd True.intro (by assumption)) | (exfalso; omega) | decide | (simp only [or_true, true_or]; done) | (split <;> first | rfl | (exfalso; omega) | (split <;> first | rfl | (exfalso; omega) | (split <;> first | rfl | (exfalso; omega)))) | skip)
      all_goals (first | (rw [e2]; exact ih _ _ _) | exact ih _ _ _ | (exfalso; (try simp (disch := omega) only [w32_of, w64_of] at *); first | omega | contradiction))
    have z32 := r1 32
    rw [if_neg d1] at z32
    have z33 := r1 33
    rw [if_neg d2] at z33
    have z29 := r1 29
    rw [if_neg d3x] at z29
    have z24 := r1 24
    rw [if_neg d4] at z24
    have z34 := r1 34
    rw [if_neg d5] at z34
    have fin : E2 M Y0 K F gT k (j + 2) (TP M K j k) (some (aI 1)) Y := ⟨i, rfl, hy, ⟨hnd, h.2.1, by rw [h.2.2]; unfold d3; rw [if_neg d1, if_neg d2, if_neg d3x, if_neg d4, if_neg d5]⟩, hi, tp⟩
    refine b_29_53 ?_
    simp only [wx_iconst, wx_ldc2, wx_iload, wx_lload, wx_aload, wx_istore, wx_lstore, wx_astore, wx_iinc, wx_iadd, wx_isub, wx_imul, wx_iand, wx_ior, wx_ixor, wx_ishl, wx_ishr, wx_iushr, wx_irem, wx_ineg, wx_ladd, wx_land, wx_lor, wx_lrem, wx_lneg, wx_lshl, wx_lushr, wx_lcmp, wx_i2l, wx_l2i, wx_i2b, wx_i2c, wx_dupI, wx_popI, wx_dupR, wx_popR, wx_dup2, wx_icmp_eq, wx_if_eq, wx_icmp_ne, wx_if_ne, wx_icmp_lt, wx_if_lt, wx_icmp_ge, wx_if_ge, wx_icmp_gt, wx_if_gt, wx_icmp_le, wx_if_le, wx_acmp_eq, wx_acmp_ne, wx_goto, wx_tsw, wx_lsw, wx_getf, wx_putf, wx_iald, wx_bald, wx_cald, wx_lald, wx_aald1, wx_aald2, wx_iast, wx_bast, wx_cast, wx_last, wx_alen, wx_gets, wx_invV, wx_ord12, wx_ord13, wx_word, wx_want, wx_slen, wx_schr, wx_invS, wx_ret0, wx_ret1, wx_lret, wx_aret, wx_vret, wl_nil, wl_cons, li_0, li_s, lr_0, lr_s, ll_0, ll_s, pp_0, pp_s, rc_mk, rp_n, rp_s, fp_0, fp_1, fp_2, fg_0, fg_1, fg_2, fg_3, wcallV, wcall, List.set_cons_zero, List.set_cons_succ, Nat.reduceDiv, Nat.reduceMod, Nat.reduceAdd, Nat.reduceSub, Nat.reduceEqDiff, Int.reduceToNat, Int.reduceNatCast', gk, inr, gl, true_and, and_true, Int.zero_add, Int.add_zero, List.length_cons, List.length_nil, Nat.reduceLeDiff, Nat.reduceLT, Nat.le_refl, Nat.zero_le, Classical.not_not, Nat.zero_add, lc_ge, lc_gt, lc_le, lc_lt, lc_eq, mup_same, mu_ng, mu_ni, ne_eq, not_false_eq_true, Int.reduceEq, false_and, and_false, false_or, or_false, true_or, or_true, i10, i11, Int.reduceMul, Int.reduceAdd, Int.reduceSub, Int.mul_one, not_true_eq_false, false_implies, true_implies, implies_true, i01, i02, wx_a39, wx_a40, wx_a41, wx_a42, wx_a35, wx_a37, wx_a21, wx_a26, wx_aK, wx_s21, wx_s26, wx_ldcs]
    repeat' (first | ((first | refine Wq_i (i := 0) rfl (b_29_0 ?_) | refine Wq_i (i := 9) rfl (b_29_9 ?_) | refine Wq_i (i := 51) rfl (b_29_51 ?_) | refine Wq_i (i := 73) rfl (b_29_73 ?_) | refine Wq_i (i := 97) rfl (b_29_97 ?_) | refine Wq_i (i := 117) rfl (b_29_117 ?_) | refine Wq_i (i := 141) rfl (b_29_141 ?_) | refine Wq_i (i := 154) rfl (b_29_154 ?_) | refine Wq_i (i := 173) rfl (b_29_173 ?_) | refine Wq_i (i := 179) rfl (b_29_179 ?_) | refine Wq_i (i := 184) rfl (b_29_184 ?_) | refine Wq_i (i := 185) rfl (b_29_185 ?_) | refine Wq_i (i := 190) rfl (b_29_190 ?_) | refine Wq_i (i := 191) rfl (b_29_191 ?_) | refine Wq_i (i := 195) rfl (b_29_195 ?_) | refine Wq_i (i := 209) rfl (b_29_209 ?_) | refine Wq_i (i := 219) rfl (b_29_219 ?_) | refine Wq_i (i := 225) rfl (b_29_225 ?_) | refine Wq_i (i := 226) rfl (b_29_226 ?_) | refine call_f2 (n := 12) rfl z32 ?_ | refine call_f2 (n := 12) rfl z33 ?_ | refine call_f2 (n := 12) rfl z29 ?_ | refine call_f2 (n := 12) rfl z24 ?_ | refine call_f2 (n := 12) rfl z34 ?_); (try simp only [wx_iconst, wx_ldc2, wx_iload, wx_lload, wx_aload, wx_istore, wx_lstore, wx_astore, wx_iinc, wx_iadd, wx_isub, wx_imul, wx_iand, wx_ior, wx_ixor, wx_ishl, wx_ishr, wx_iushr, wx_irem, wx_ineg, wx_ladd, wx_land, wx_lor, wx_lrem, wx_lneg, wx_lshl, wx_lushr, wx_lcmp, wx_i2l, wx_l2i, wx_i2b, wx_i2c, wx_dupI, wx_popI, wx_dupR, wx_popR, wx_dup2, wx_icmp_eq, wx_if_eq, wx_icmp_ne, wx_if_ne, wx_icmp_lt, wx_if_lt, wx_icmp_ge, wx_if_ge, wx_icmp_gt, wx_if_gt, wx_icmp_le, wx_if_le, wx_acmp_eq, wx_acmp_ne, wx_goto, wx_tsw, wx_lsw, wx_getf, wx_putf, wx_iald, wx_bald, wx_cald, wx_lald, wx_aald1, wx_aald2, wx_iast, wx_bast, wx_cast, wx_last, wx_alen, wx_gets, wx_invV, wx_ord12, wx_ord13, wx_word, wx_want, wx_slen, wx_schr, wx_invS, wx_ret0, wx_ret1, wx_lret, wx_aret, wx_vret, wl_nil, wl_cons, li_0, li_s, lr_0, lr_s, ll_0, ll_s, pp_0, pp_s, rc_mk, rp_n, rp_s, fp_0, fp_1, fp_2, fg_0, fg_1, fg_2, fg_3, wcallV, wcall, List.set_cons_zero, List.set_cons_succ, Nat.reduceDiv, Nat.reduceMod, Nat.reduceAdd, Nat.reduceSub, Nat.reduceEqDiff, Int.reduceToNat, Int.reduceNatCast', gk, inr, gl, true_and, and_true, Int.zero_add, Int.add_zero, List.length_cons, List.length_nil, Nat.reduceLeDiff, Nat.reduceLT, Nat.le_refl, Nat.zero_le, Classical.not_not, Nat.zero_add, lc_ge, lc_gt, lc_le, lc_lt, lc_eq, mup_same, mu_ng, mu_ni, ne_eq, not_false_eq_true, Int.reduceEq, false_and, and_false, false_or, or_false, true_or, or_true, i10, i11, Int.reduceMul, Int.reduceAdd, Int.reduceSub, Int.mul_one, not_true_eq_false, false_implies, true_implies, implies_true, i01, i02, wx_a39, wx_a40, wx_a41, wx_a42, wx_a35, wx_a37, wx_a21, wx_a26, wx_aK, wx_s21, wx_s26, wx_ldcs, nw, q]); (try (simp (disch := omega) only [w32_of, w64_of]))) | (refine And.intro ?_ ?_) | (refine (fun _ => ?_ : _ → _)) | (simp (disch := omega) only [w32_of, w64_of]))
    all_goals (first | rfl | omega | (refine congrArg (fun z : Int => some (aI z)) ?_; omega) | (exact absurd True.intro (by assumption)) | (exfalso; omega) | decide | (simp only [or_true, true_or]; done) | (split <;> first | rfl | (exfalso; omega) | (split <;> first | rfl | (exfalso; omega) | (split <;> first | rfl | (exfalso; omega)))) | skip)
    all_goals (first | exact fin | (exfalso; (try simp (disch := omega) only [w32_of, w64_of] at *); first | omega | contradiction))
theorem R_W2_task {it : Int} (hc : C1 M K T F) (nf : NF M K F) (hw : (M 11 0 21) = 2) (hk : 0 ≤ k ∧ k < 48) (hd : dit K j) (hj : K j = 14) (h : dst K (j + 2) = 16) (hi : j + 2 ≤ F) (k2 : K (j + 1) = 2) (pd : PD M Y) (nw : (Y 11 0 22) = (j + 2 : Nat)) : Runs 29 [aR 11 0, aI it, aI k] Y (E2 M Y K F gT k (j + 2) (TP M K j k)) := by
  have hy : P2 M Y Y gT k (j + 2) := P2.mk pd (ch_r _ _ _) nw
  obtain ⟨a1, a2, a3, a4, a5⟩ := N_2 (w := 22) (s1 := 17) (s2 := 18) hc.ok h hi rfl rfl rfl (fun _ => rfl)
  obtain ⟨Y1, r1, y1, _, o1⟩ := NU2 hc hy a5 a1 a3
  have hT := hc.FT
  have hT2 := hc.T4
  have r2 := RG2 hc hw y1 (j + 2 + 1) (by omega) 0 63
  have w1 : (Y1 11 0 21) = 2 := by rw [y1.pd.2.2.2]; exact hw
  have v1 : (Y1 8194113 0 (((j + 2 + 1 : Nat) : Int))) = (M 8194113 0 (((j + 3 : Nat) : Int))) := y1.pd.1 _ _ (show pdG 8194113 = true from rfl)
  obtain ⟨Y2, e2⟩ : ∃ Z, (mup (mup (mup (mup (mup (mup Y1 98385 0 (k) ((M 8194113 0 (((j + 3 : Nat) : Int))))) 98642 0 (k) (0)) 98387 0 (k) (1)) 98388 0 (k) (0)) 98389 0 (k) (0)) 98390 0 (k) (0)) = Z := ⟨_, rfl⟩
  have y2 : P2 M Y Y2 gT k (j + 2 + 2) := by
    rw [← e2]
    exact (((((y1.w _ (by decide) rfl (by decide)).w _ (by decide) rfl (by decide)).w _ (by decide) rfl (by decide)).w _ (by decide) rfl (by decide)).w _ (by decide) rfl (by decide)).w _ (by decide) rfl (by decide)
  have ro1 := rol_t hd k2
  have ro2 : rol K (j + 2) = 0 := rol_e h a1
  have ro3 : rol K (j + 3) = 11 := rol_e a2 a3
  have nx : ∀ r : Int, ¬ r = 1 → ¬ r = 0 → ¬ r = 11 → ∀ u : Nat, j + 1 ≤ u → u < j + 4 → ¬ rol K u = r := fun r h1 h2 h3 u a b z => by
    obtain e | e | e : u = j + 1 ∨ u = j + 2 ∨ u = j + 3 := by omega
    · rw [e, ro1] at z; exact h1 z.symm
    · rw [e, ro2] at z; exact h2 z.symm
    · rw [e, ro3] at z; exact h3 z.symm
  have tp2 : TP M K j k (j + 2 + 2) Y2 := by
    rw [← e2]
    refine TP.mk ?_ (Or.inr ⟨?_, fun u x y z => ?_⟩) (Or.inr ⟨fun u x y z => ?_, ?_⟩) ?_ ?_ ?_
    · rw [mu_ng (by decide), mu_ng (by decide), mu_ng (by decide), mu_ng (by decide), mu_ng (by decide), mup_same]
    · rw [mu_ng (by decide), mu_ng (by decide), mu_ng (by decide), mu_ng (by decide), mup_same]
    · obtain e | e : u = j + 2 ∨ u = j + 3 := by omega
      · rw [e, a1] at z; exact absurd z (by decide)
      · rw [e, a3] at z; exact absurd z (by decide)
    · exact nx 12 (by decide) (by decide) (by decide) u (by omega) (by omega) z
    · rw [mu_ng (by decide), mu_ng (by decide), mu_ng (by decide), mup_same]
    · rw [mu_ng (by decide), mu_ng (by decide), mup_same]; exact (bfo_0 _ (fun u a b => nx 9 (by decide) (by decide) (by decide) u a (by omega))).symm
    · rw [mu_ng (by decide), mup_same]; exact (bfo_0 _ (fun u a b => nx 10 (by decide) (by decide) (by decide) u a (by omega))).symm
    · rw [mup_same]; exact (bfo_0 _ (fun u a b => nx 4 (by decide) (by decide) (by decide) u a (by omega))).symm
  have key := fun p se x y => t2_53 (p := p) (it := it) hc nf hw hk hd k2 hj hi F (j + 2 + 2) Y2 se x y (by omega) (dpt_18 a4) (Or.inl a4) a5 (by omega) (nd_2 (nd_0 _ _) a1 a3 (by decide)) y2 tp2
  refine Runs.go2 (cd := cd_29) _ (by decide) (by decide) ck_29 rfl (Nat.le_of_ble_eq_true rfl) (show _ = ([some (aR 11 0), some (aI it), some (aI k), none, none, none, none] : Lc) from rfl) (fun ho hM => ?_)
  repeat' (first | ((first | refine Wq_i (i := 0) rfl (b_29_0 ?_) | refine Wq_i (i := 9) rfl (b_29_9 ?_) | refine Wq_i (i := 51) rfl (b_29_51 ?_) | refine Wq_i (i := 73) rfl (b_29_73 ?_) | refine Wq_i (i := 97) rfl (b_29_97 ?_) | refine Wq_i (i := 117) rfl (b_29_117 ?_) | refine Wq_i (i := 141) rfl (b_29_141 ?_) | refine Wq_i (i := 154) rfl (b_29_154 ?_) | refine Wq_i (i := 173) rfl (b_29_173 ?_) | refine Wq_i (i := 179) rfl (b_29_179 ?_) | refine Wq_i (i := 184) rfl (b_29_184 ?_) | refine Wq_i (i := 185) rfl (b_29_185 ?_) | refine Wq_i (i := 190) rfl (b_29_190 ?_) | refine Wq_i (i := 191) rfl (b_29_191 ?_) | refine Wq_i (i := 195) rfl (b_29_195 ?_) | refine Wq_i (i := 209) rfl (b_29_209 ?_) | refine Wq_i (i := 219) rfl (b_29_219 ?_) | refine Wq_i (i := 225) rfl (b_29_225 ?_) | refine Wq_i (i := 226) rfl (b_29_226 ?_) | refine call_f2 (n := 26) rfl r1 ?_ | refine call_f2 (n := 28) rfl r2 ?_); (try simp only [wx_iconst, wx_ldc2, wx_iload, wx_lload, wx_aload, wx_istore, wx_lstore, wx_astore, wx_iinc, wx_iadd, wx_isub, wx_imul, wx_iand, wx_ior, wx_ixor, wx_ishl, wx_ishr, wx_iushr, wx_irem, wx_ineg, wx_ladd, wx_land, wx_lor, wx_lrem, wx_lneg, wx_lshl, wx_lushr, wx_lcmp, wx_i2l, wx_l2i, wx_i2b, wx_i2c, wx_dupI, wx_popI, wx_dupR, wx_popR, wx_dup2, wx_icmp_eq, wx_if_eq, wx_icmp_ne, wx_if_ne, wx_icmp_lt, wx_if_lt, wx_icmp_ge, wx_if_ge, wx_icmp_gt, wx_if_gt, wx_icmp_le, wx_if_le, wx_acmp_eq, wx_acmp_ne, wx_goto, wx_tsw, wx_lsw, wx_getf, wx_putf, wx_iald, wx_bald, wx_cald, wx_lald, wx_aald1, wx_aald2, wx_iast, wx_bast, wx_cast, wx_last, wx_alen, wx_gets, wx_invV, wx_ord12, wx_ord13, wx_word, wx_want, wx_slen, wx_schr, wx_invS, wx_ret0, wx_ret1, wx_lret, wx_aret, wx_vret, wl_nil, wl_cons, li_0, li_s, lr_0, lr_s, ll_0, ll_s, pp_0, pp_s, rc_mk, rp_n, rp_s, fp_0, fp_1, fp_2, fg_0, fg_1, fg_2, fg_3, wcallV, wcall, List.set_cons_zero, List.set_cons_succ, Nat.reduceDiv, Nat.reduceMod, Nat.reduceAdd, Nat.reduceSub, Nat.reduceEqDiff, Int.reduceToNat, Int.reduceNatCast', gk, inr, gl, true_and, and_true, Int.zero_add, Int.add_zero, List.length_cons, List.length_nil, Nat.reduceLeDiff, Nat.reduceLT, Nat.le_refl, Nat.zero_le, Classical.not_not, Nat.zero_add, lc_ge, lc_gt, lc_le, lc_lt, lc_eq, mup_same, mu_ng, mu_ni, ne_eq, not_false_eq_true, Int.reduceEq, false_and, and_false, false_or, or_false, true_or, or_true, i10, i11, Int.reduceMul, Int.reduceAdd, Int.reduceSub, Int.mul_one, not_true_eq_false, false_implies, true_implies, implies_true, i01, i02, wx_a39, wx_a40, wx_a41, wx_a42, wx_a35, wx_a37, wx_a21, wx_a26, wx_aK, wx_s21, wx_s26, wx_ldcs, w1, v1]); (try (simp (disch := omega) only [w32_of, w64_of]))) | (refine And.intro ?_ ?_) | (refine (fun _ => ?_ : _ → _)) | (simp (disch := omega) only [w32_of, w64_of]))
  all_goals (first | rfl | omega | (refine congrArg (fun z : Int => some (aI z)) ?_; omega) | (exact absurd True.intro (by assumption)) | (exfalso; omega) | decide | (simp only [or_true, true_or]; done) | (split <;> first | rfl | (exfalso; omega) | (split <;> first | rfl | (exfalso; omega) | (split <;> first | rfl | (exfalso; omega)))) | skip)
  all_goals (first | (rw [e2]; exact key _ _ _ _) | exact key _ _ _ _ | (exfalso; (try simp (disch := omega) only [w32_of, w64_of] at *); first | omega | contradiction))
end W2T
