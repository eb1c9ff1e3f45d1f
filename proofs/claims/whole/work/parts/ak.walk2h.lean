/-! ===== the reference's walk 2: goesOver ===== -/
def gAll (g : Nat) : Bool := ([917577, 917578] ++ gR ++ gC ++ gT ++ gI ++ gA).contains g
def FG (M Y : AMem) : Prop := ∀ (g : Nat) (t x : Int), gAll g = false → (g = 11 → x ≠ 22 ∧ x ≠ 48) → Y g t x = M g t x
theorem gsr_m {w : Int} {g : Nat} (h : g ∈ gsr w) : (w = 12 ∧ (g = 65867 ∨ g = 65612)) ∨ (w = 13 ∧ (g = 32846 ∨ g = 32847 ∨ g = 32848)) ∨ (w = 14 ∧ (g = 98385 ∨ g = 98642 ∨ g = 98387 ∨ g = 98388 ∨ g = 98389 ∨ g = 98390)) ∨ (w = 15 ∧ (g = 32855 ∨ g = 32856)) ∨ (w = 16 ∧ (g = 98393 ∨ g = 98394 ∨ g = 98395 ∨ g = 98396 ∨ g = 98397 ∨ g = 98398 ∨ g = 98399)) := by
  unfold gsr at h
  by_cases a : w = 12
  · rw [if_pos a] at h
    simp only [gR, List.mem_cons, List.not_mem_nil, or_false] at h
    exact Or.inl ⟨a, h⟩
  rw [if_neg a] at h
  by_cases b : w = 13
  · rw [if_pos b] at h
    simp only [gC, List.mem_cons, List.not_mem_nil, or_false] at h
    exact Or.inr (Or.inl ⟨b, h⟩)
  rw [if_neg b] at h
  by_cases c : w = 14
  · rw [if_pos c] at h
    simp only [gT, List.mem_cons, List.not_mem_nil, or_false] at h
    exact Or.inr (Or.inr (Or.inl ⟨c, h⟩))
  rw [if_neg c] at h
  by_cases d : w = 15
  · rw [if_pos d] at h
    simp only [gI, List.mem_cons, List.not_mem_nil, or_false] at h
    exact Or.inr (Or.inr (Or.inr (Or.inl ⟨d, h⟩)))
  rw [if_neg d] at h
  by_cases e : w = 16
  · rw [if_pos e] at h
    simp only [gA, List.mem_cons, List.not_mem_nil, or_false] at h
    exact Or.inr (Or.inr (Or.inr (Or.inr ⟨e, h⟩)))
  rw [if_neg e] at h
  cases h
theorem gsr_u {w w' : Int} {g : Nat} (h : g ∈ gsr w) (h' : g ∈ gsr w') : w = w' := by
  have a := gsr_m h
  have b := gsr_m h'
  omega
theorem gsr_n {w : Int} {g : Nat} (h : g ∈ gsr w) : g ≠ 917577 ∧ g ≠ 917578 ∧ g ≠ 11 := by
  have a := gsr_m h
  omega
theorem gsr_a {w : Int} {g : Nat} (h : g ∈ gsr w) : gAll g = true := by
  have a := gsr_m h
  rcases a with ⟨_, a⟩ | ⟨_, a⟩ | ⟨_, a⟩ | ⟨_, a⟩ | ⟨_, a⟩
  · rcases a with rfl | rfl <;> decide
  · rcases a with rfl | rfl | rfl <;> decide
  · rcases a with rfl | rfl | rfl | rfl | rfl | rfl <;> decide
  · rcases a with rfl | rfl <;> decide
  · rcases a with rfl | rfl | rfl | rfl | rfl | rfl | rfl <;> decide
section W2H
variable {M Y : AMem} {K : Nat → Int} {T F j : Nat}
theorem dnS_m (s : Int) : ∀ i j : Nat, i ≤ j → dnS K s i ≤ dnS K s j := by
  intro i j h
  induction j with
  | zero => rw [show i = 0 by omega]; exact Int.le_refl _
  | succ j ih =>
    by_cases c : i = j + 1
    · rw [c]; exact Int.le_refl _
    · have := ih (by omega)
      show _ ≤ dnS K s j + (if dit K j ∧ K j = s + 10 then 1 else 0)
      split <;> omega
theorem kno_u {i : Nat} (hi : dit K i) (hl : i < j) (h : K i = K j) : kno K i < kno K j := by
  have e : dnS K (K i - 10) (i + 1) = dnS K (K i - 10) i + 1 := by
    show dnS K (K i - 10) i + (if dit K i ∧ K i = K i - 10 + 10 then 1 else 0) = _
    rw [if_pos ⟨hi, by omega⟩]
  have := dnS_m (K := K) (K i - 10) (i + 1) j hl
  unfold kno
  rw [← h]
  omega
theorem SPR_o {f : Nat} {Y' : AMem} (h : SPR M K j f Y) (o : ∀ g : Nat, g ∈ gsr (K j) → Y' g 0 (kno K j) = Y g 0 (kno K j)) : SPR M K j f Y' := by
  obtain ⟨h1, h2, h3, h4, h5⟩ := h
  unfold gsr at o
  refine ⟨fun e => ?_, fun e => ?_, fun e => ?_, fun e => ?_, fun e => ?_⟩
  · rw [if_pos e] at o
    have q := h1 e
    unfold SR at q ⊢
    rw [o 65867 (by decide), o 65612 (by decide)]
    exact q
  · rw [if_neg (by omega), if_pos e] at o
    have q := h2 e
    unfold SC at q ⊢
    rw [o 32846 (by decide), o 32847 (by decide), o 32848 (by decide)]
    exact q
  · rw [if_neg (by omega), if_neg (by omega), if_pos e] at o
    have q := h3 e
    unfold TP at q ⊢
    rw [o 98385 (by decide), o 98642 (by decide), o 98387 (by decide), o 98388 (by decide), o 98389 (by decide), o 98390 (by decide)]
    exact q
  · rw [if_neg (by omega), if_neg (by omega), if_neg (by omega), if_pos e] at o
    have q := h4 e
    unfold SI at q ⊢
    rw [o 32855 (by decide), o 32856 (by decide)]
    exact q
  · rw [if_neg (by omega), if_neg (by omega), if_neg (by omega), if_neg (by omega), if_pos e] at o
    have q := h5 e
    unfold SAl SA1 SA2 at q ⊢
    rw [o 98393 (by decide), o 98394 (by decide), o 98395 (by decide), o 98396 (by decide), o 98397 (by decide), o 98398 (by decide), o 98399 (by decide)]
    exact q
/-- within walk 2, between ITEMs -/
def J2 (M Y : AMem) (K : Nat → Int) (i : Nat) : Prop := (PD M Y) ∧ ((Y 11 0 22) = i) ∧ (FG M Y) ∧ (∀ j f : Nat, j < i → dit K j → dxt K (j + 2) f → f ≤ i → SPN M K j Y ∧ SPR M K j f Y) ∧ (∀ (g : Nat) (t x : Int), g ≠ 11 → (g = 917577 ∨ g = 917578 → ∀ j : Nat, j < i → dit K j → x ≠ 64 * (K j - 10) + kno K j) → (∀ j : Nat, j < i → dit K j → ¬ (g ∈ gsr (K j) ∧ x = kno K j)) → Y g t x = M g t x)
theorem J2.pd {M Y : AMem} {K : Nat → Int} {i : Nat} (h : J2 M Y K i) : PD M Y := h.1
theorem J2.nw {M Y : AMem} {K : Nat → Int} {i : Nat} (h : J2 M Y K i) : (Y 11 0 22) = i := h.2.1
theorem J2.fg {M Y : AMem} {K : Nat → Int} {i : Nat} (h : J2 M Y K i) : FG M Y := h.2.2.1
theorem J2.sp {M Y : AMem} {K : Nat → Int} {i : Nat} (h : J2 M Y K i) : ∀ j f : Nat, j < i → dit K j → dxt K (j + 2) f → f ≤ i → SPN M K j Y ∧ SPR M K j f Y := h.2.2.2.1
theorem J2.fu {M Y : AMem} {K : Nat → Int} {i : Nat} (h : J2 M Y K i) : ∀ (g : Nat) (t x : Int), g ≠ 11 → (g = 917577 ∨ g = 917578 → ∀ j : Nat, j < i → dit K j → x ≠ 64 * (K j - 10) + kno K j) → (∀ j : Nat, j < i → dit K j → ¬ (g ∈ gsr (K j) ∧ x = kno K j)) → Y g t x = M g t x := h.2.2.2.2
theorem J2.mk {M Y : AMem} {K : Nat → Int} {i : Nat} (pd : PD M Y) (nw : (Y 11 0 22) = i) (fg : FG M Y) (sp : ∀ j f : Nat, j < i → dit K j → dxt K (j + 2) f → f ≤ i → SPN M K j Y ∧ SPR M K j f Y) (fu : ∀ (g : Nat) (t x : Int), g ≠ 11 → (g = 917577 ∨ g = 917578 → ∀ j : Nat, j < i → dit K j → x ≠ 64 * (K j - 10) + kno K j) → (∀ j : Nat, j < i → dit K j → ¬ (g ∈ gsr (K j) ∧ x = kno K j)) → Y g t x = M g t x) : J2 M Y K i := ⟨pd, nw, fg, sp, fu⟩
def G2 (M : AMem) (K : Nat → Int) (F : Nat) (r : Option AV) (Y : AMem) : Prop := ∃ f : Nat, f = F ∧ r = some (aI 1) ∧ J2 M Y K f
/-- one ITEM -/
theorem J2_s {Y1 Y4 : AMem} {f : Nat} (hc : C1 M K T F) (nf : NF M K F) (hd : dit K j) (hi : j + 2 ≤ F) (k2 : K (j + 1) = 2) (h : J2 M Y K j) (e1 : ∀ (g : Nat) (t x : Int), (g = 917577 ∨ g = 917578 → x ≠ 64 * (K j - 10) + kno K j) → (g = 11 → x ≠ 22 ∧ x ≠ 48) → Y1 g t x = Y g t x) (n1 : SPN M K j Y1) (q1 : PD M Y4) (q2 : (Y4 11 0 22) = f) (q3 : dxt K (j + 2) f) (q4 : ch (gsr (K j)) (kno K j) Y1 Y4) (q5 : SPR M K j f Y4) : J2 M Y4 K f := by
  have nn : nd K (j + 1) f := nd_t (nd_1 (nd_0 _ _) k2 (by decide)) q3.1
  have kb := kno_b hc nf hd hi k2
  have pb : ∀ s : Int, pmo s ≤ 48 := fun s => by unfold pmo; split; decide; split; decide; split; decide; split; decide; decide
  refine J2.mk q1 q2 ?_ ?_ (fun g t x g3 hv hu => by
    have jf := q3.1.1
    rw [q4 g t x (fun z w => hu j (by omega) hd ⟨z, w⟩) (fun z => absurd z g3), e1 g t x (fun z => hv z j (by omega) hd) (fun z => absurd z g3)]
    exact h.fu g t x g3 (fun z j' a b => hv z j' (by omega) b) (fun j' a b => hu j' (by omega) b))
  · intro g t x a b
    rw [q4 g t x (fun z => by rw [gsr_a z] at a; cases a) b, e1 g t x (fun z => by rcases z with rfl | rfl <;> cases a) b]
    exact h.fg g t x a b
  · intro j' f' a b c d
    have n4 : ∀ j'' : Nat, SPN M K j'' Y1 → SPN M K j'' Y4 := fun j'' z => by
      unfold SPN at z ⊢
      rw [q4 917577 _ _ (fun q => absurd rfl (gsr_n q).1) (fun q => absurd q (by decide)), q4 917578 _ _ (fun q => absurd rfl (gsr_n q).2.1) (fun q => absurd q (by decide))]
      exact z
    by_cases e : j' = j
    · subst e
      rw [← dxt_u q3 c]
      exact ⟨n4 _ n1, q5⟩
    · have lt : j' < j := by
        by_cases z : j' < j
        · exact z
        · exact absurd b (nd_d nn (by omega) a)
      have lf : f' ≤ j := by
        by_cases z : f' ≤ j
        · exact z
        · have c3 : ¬ j = j' + 1 := fun c3 => by
            have s1 := dit_s b
            have z := hd.1
            rw [c3, s1] at z
            have l1 := b.2.2
            obtain e | e | e | e | e | e | e : K j' = 10 ∨ K j' = 11 ∨ K j' = 12 ∨ K j' = 13 ∨ K j' = 14 ∨ K j' = 15 ∨ K j' = 16 := by omega
            all_goals (rw [e] at z; cases z)
          exact absurd hd (nd_d c.1 (by omega) (by omega))
      obtain ⟨p1, p2⟩ := h.sp j' f' lt b c lf
      have l1 := b.2.2
      have l2 := hd.2.2
      have k2' : K (j' + 1) = 2 := by
        by_cases z : K (j' + 1) = 2
        · exact z
        · exact absurd (dit_1 b z).2.1 (ok_9 (i := j' + 2) hc.ok (by omega))
      have kb' := kno_b hc nf b (by omega) k2'
      have pb1 := pb (K j - 10)
      have pb2 := pb (K j' - 10)
      have ne : K j' = K j → kno K j' < kno K j := fun z => kno_u b lt z
      have idx : ¬ 64 * (K j' - 10) + kno K j' = 64 * (K j - 10) + kno K j := fun z => by
        by_cases w : K j' = K j
        · have := ne w; rw [w] at z; omega
        · omega
      refine ⟨n4 _ ?_, SPR_o p2 (fun g hg => ?_)⟩
      · unfold SPN at p1 ⊢
        rw [e1 _ _ _ (fun _ => idx) (fun q => absurd q (by decide)), e1 _ _ _ (fun _ => idx) (fun q => absurd q (by decide))]
        exact p1
      · have g3 := gsr_n hg
        rw [q4 g 0 _ (fun z => by have := ne (gsr_u hg z); omega) (fun q => absurd q g3.2.2), e1 g 0 _ (fun z => by rcases z with rfl | rfl; exact absurd rfl g3.1; exact absurd rfl g3.2.1) (fun q => absurd q g3.2.2)]
theorem g2_8 (hc : C1 M K T F) (nf : NF M K F) (hw : (M 11 0 21) = 2) : ∀ (N i : Nat) (Y : AMem) (x : Option AV), F + 1 ≤ i + N → i ≤ F → dex K i → J2 M Y K i → Wq 11 cd_11 (G2 M K F) 8 [some (aR 11 0), some (aI 2), some (aI (dnI K i : Int)), x] [] Y := by
  have hT := hc.FT
  have hT2 := hc.T4
  intro N
  induction N with
  | zero => intro i Y x hN hi; omega
  | succ N ih =>
    intro i Y x hN hi hx hy
    have p := hy.pd
    have nw := hy.nw
    have r1 := IS1 (p.rk hc.rk) nw (by omega) 0
    have q2 : (Y 8194110 0 ((i : Int))) = K i := (p.rk hc.rk).2.2.1 i (by omega)
    by_cases dI : 10 ≤ K i ∧ K i ≤ 16
    case neg =>
      have eF := dex_F hc.ok hi hx dI
      have k0 : K i = 0 := by rw [eF]; exact hc.ok.2
      rw [if_pos k0] at r1
      have fin : G2 M K F (some (aI 1)) Y := ⟨i, eF, rfl, hy⟩
      refine b_11_8 ?_
      simp only [wx_iconst, wx_ldc2, wx_iload, wx_lload, wx_aload, wx_istore, wx_lstore, wx_astore, wx_iinc, wx_iadd, wx_isub, wx_imul, wx_iand, wx_ior, wx_ixor, wx_ishl, wx_ishr, wx_iushr, wx_irem, wx_ineg, wx_ladd, wx_land, wx_lor, wx_lrem, wx_lneg, wx_lshl, wx_lushr, wx_lcmp, wx_i2l, wx_l2i, wx_i2b, wx_i2c, wx_dupI, wx_popI, wx_dupR, wx_popR, wx_dup2, wx_icmp_eq, wx_if_eq, wx_icmp_ne, wx_if_ne, wx_icmp_lt, wx_if_lt, wx_icmp_ge, wx_if_ge, wx_icmp_gt, wx_if_gt, wx_icmp_le, wx_if_le, wx_acmp_eq, wx_acmp_ne, wx_goto, wx_tsw, wx_lsw, wx_getf, wx_putf, wx_iald, wx_bald, wx_cald, wx_lald, wx_aald1, wx_aald2, wx_iast, wx_bast, wx_cast, wx_last, wx_alen, wx_gets, wx_invV, wx_ord12, wx_ord13, wx_word, wx_want, wx_slen, wx_schr, wx_invS, wx_ret0, wx_ret1, wx_lret, wx_aret, wx_vret, wl_nil, wl_cons, li_0, li_s, lr_0, lr_s, ll_0, ll_s, pp_0, pp_s, rc_mk, rp_n, rp_s, fp_0, fp_1, fp_2, fg_0, fg_1, fg_2, fg_3, wcallV, wcall, List.set_cons_zero, List.set_cons_succ, Nat.reduceDiv, Nat.reduceMod, Nat.reduceAdd, Nat.reduceSub, Nat.reduceEqDiff, Int.reduceToNat, Int.reduceNatCast', gk, inr, gl, true_and, and_true, Int.zero_add, Int.add_zero, List.length_cons, List.length_nil, Nat.reduceLeDiff, Nat.reduceLT, Nat.le_refl, Nat.zero_le, Classical.not_not, Nat.zero_add, lc_ge, lc_gt, lc_le, lc_lt, lc_eq, mup_same, mu_ng, mu_ni, ne_eq, not_false_eq_true, Int.reduceEq, false_and, and_false, false_or, or_false, true_or, or_true, i10, i11, Int.reduceMul, Int.reduceAdd, Int.reduceSub, Int.mul_one, not_true_eq_false, false_implies, true_implies, implies_true, i01, i02, wx_a39, wx_a40, wx_a41, wx_a42, wx_a35, wx_a37, wx_a21, wx_a26, wx_aK, wx_s21, wx_s26, wx_ldcs]
      repeat' (first | ((first | refine Wq_i (i := 0) rfl (b_11_0 ?_) | refine Wq_i (i := 25) rfl (b_11_25 ?_) | refine Wq_i (i := 28) rfl (b_11_28 ?_) | refine Wq_i (i := 41) rfl (b_11_41 ?_) | refine Wq_i (i := 81) rfl (b_11_81 ?_) | refine Wq_i (i := 89) rfl (b_11_89 ?_) | refine Wq_i (i := 92) rfl (b_11_92 ?_) | refine Wq_i (i := 105) rfl (b_11_105 ?_) | refine Wq_i (i := 113) rfl (b_11_113 ?_) | refine call_f2 (n := 12) rfl r1 ?_); (try simp only [wx_iconst, wx_ldc2, wx_iload, wx_lload, wx_aload, wx_istore, wx_lstore, wx_astore, wx_iinc, wx_iadd, wx_isub, wx_imul, wx_iand, wx_ior, wx_ixor, wx_ishl, wx_ishr, wx_iushr, wx_irem, wx_ineg, wx_ladd, wx_land, wx_lor, wx_lrem, wx_lneg, wx_lshl, wx_lushr, wx_lcmp, wx_i2l, wx_l2i, wx_i2b, wx_i2c, wx_dupI, wx_popI, wx_dupR, wx_popR, wx_dup2, wx_icmp_eq, wx_if_eq, wx_icmp_ne, wx_if_ne, wx_icmp_lt, wx_if_lt, wx_icmp_ge, wx_if_ge, wx_icmp_gt, wx_if_gt, wx_icmp_le, wx_if_le, wx_acmp_eq, wx_acmp_ne, wx_goto, wx_tsw, wx_lsw, wx_getf, wx_putf, wx_iald, wx_bald, wx_cald, wx_lald, wx_aald1, wx_aald2, wx_iast, wx_bast, wx_cast, wx_last, wx_alen, wx_gets, wx_invV, wx_ord12, wx_ord13, wx_word, wx_want, wx_slen, wx_schr, wx_invS, wx_ret0, wx_ret1, wx_lret, wx_aret, wx_vret, wl_nil, wl_cons, li_0, li_s, lr_0, lr_s, ll_0, ll_s, pp_0, pp_s, rc_mk, rp_n, rp_s, fp_0, fp_1, fp_2, fg_0, fg_1, fg_2, fg_3, wcallV, wcall, List.set_cons_zero, List.set_cons_succ, Nat.reduceDiv, Nat.reduceMod, Nat.reduceAdd, Nat.reduceSub, Nat.reduceEqDiff, Int.reduceToNat, Int.reduceNatCast', gk, inr, gl, true_and, and_true, Int.zero_add, Int.add_zero, List.length_cons, List.length_nil, Nat.reduceLeDiff, Nat.reduceLT, Nat.le_refl, Nat.zero_le, Classical.not_not, Nat.zero_add, lc_ge, lc_gt, lc_le, lc_lt, lc_eq, mup_same, mu_ng, mu_ni, ne_eq, not_false_eq_true, Int.reduceEq, false_and, and_false, false_or, or_false, true_or, or_true, i10, i11, Int.reduceMul, Int.reduceAdd, Int.reduceSub, Int.mul_one, not_true_eq_false, false_implies, true_implies, implies_true, i01, i02, wx_a39, wx_a40, wx_a41, wx_a42, wx_a35, wx_a37, wx_a21, wx_a26, wx_aK, wx_s21, wx_s26, wx_ldcs]); (try (simp (disch := omega) only [w32_of, w64_of]))) | (refine And.intro ?_ ?_) | (refine (fun _ => ?_ : _ → _)) | (simp (disch := omega) only [w32_of, w64_of]))
      all_goals (first | rfl | omega | (refine congrArg (fun z : Int => some (aI z)) ?_; omega) | (exact absurd True.intro (by assumption)) | (exfalso; omega) | decide | (simp only [or_true, true_or]; done) | (split <;> first | rfl | (exfalso; omega) | (split <;> first | rfl | (exfalso; omega) | (split <;> first | rfl | (exfalso; omega)))) | skip)
      all_goals (first | exact fin | (exfalso; (try simp (disch := omega) only [w32_of, w64_of] at *); first | omega | contradiction))
    rw [if_neg (by omega)] at r1
    have hd : dit K i := ⟨hx.1, hx.2, dI⟩
    have lF : i < F := by
      by_cases z : i = F
      · have := hc.ok.2
        rw [← z] at this
        omega
      · omega
    have em := dnI_s hd lF
    obtain ⟨j, f, i1, i2, i3, i4, i5, i6, i7, i8, i9⟩ := hc.item (m := (dnI K i : Int)) (by omega) (by rw [hc.it]; omega)
    have ej : i = j := dnI_u hd i1 (by omega)
    subst ej
    have h7 := hc.n6 i hd
    have kb := kno_b hc nf hd i3 i4
    have pb : pmo (K i - 10) ≤ 48 := by unfold pmo; split; decide; split; decide; split; decide; split; decide; decide
    obtain ⟨Y1, p1⟩ : ∃ Z, (mup Y 11 0 22 ((i : Int) + 1)) = Z := ⟨_, rfl⟩
    have pd1 : PD M Y1 := by rw [← p1]; exact PD_n p _ (by decide)
    have n1 : (Y1 11 0 22) = (i + 1 : Nat) := by rw [← p1, mup_same]; rfl
    have r2 := IS1 (pd1.rk hc.rk) n1 (by omega) 2
    rw [if_pos i4] at r2
    have w1 : (Y1 11 0 21) = 2 := by rw [pd1.2.2.2]; exact hw
    have es : (Y1 1433666 0 ((dnI K i : Int))) = K i - 10 := by rw [pd1.1 _ _ (show pdG 1433666 = true from rfl)]; exact i9
    have en : (Y1 1433669 0 ((dnI K i : Int))) = kno K i := by rw [pd1.1 _ _ (show pdG 1433669 = true from rfl)]; exact hc.ga.nu i lF hd
    have ea : (Y1 1433667 0 ((dnI K i : Int))) = ((i + 1 : Nat) : Int) := by rw [pd1.1 _ _ (show pdG 1433667 = true from rfl)]; exact i5
    have it0 := pd1.2.1
    have r3 := R_named (dnI K i : Int) Y1 (pd1.tb hc.tb) (pd1.ib hc.ib) ⟨by omega, by rw [it0, hc.it]; omega⟩ (by rw [en]; omega)
    have ep : pnm Y1 (dnI K i : Int) = (mup (mup Y1 917577 0 ((64 * (K i - 10) + kno K i)) ((M 8194111 0 (((i + 1 : Nat) : Int))))) 917578 0 ((64 * (K i - 10) + kno K i)) ((M 8194112 0 (((i + 1 : Nat) : Int))))) := by
      unfold pnm
      rw [es, en, ea, pd1.1 _ _ (show pdG 8194111 = true from rfl), pd1.1 _ _ (show pdG 8194112 = true from rfl)]
    obtain ⟨Y2, e2⟩ : ∃ Z, pnm Y1 (dnI K i : Int) = Z := ⟨_, rfl⟩
    rw [e2] at r3
    rw [e2] at ep
    have pd2 : PD M Y2 := by rw [ep]; exact PD_w (PD_w pd1 _ _ _ rfl (by decide)) _ _ _ rfl (by decide)
    have n2 : (Y2 11 0 22) = (i + 1 : Nat) := by rw [ep, mu_ng (by decide), mu_ng (by decide)]; exact n1
    obtain ⟨Y3, p3⟩ : ∃ Z, (mup Y2 11 0 22 (((i + 1 : Nat) : Int) + 1)) = Z := ⟨_, rfl⟩
    have pd3 : PD M Y3 := by rw [← p3]; exact PD_n pd2 _ (by decide)
    have n3 : (Y3 11 0 22) = (i + 2 : Nat) := by rw [← p3, mup_same]; rfl
    have c1 : ∀ (g : Nat) (t x : Int), (g = 917577 ∨ g = 917578 → x ≠ 64 * (K i - 10) + kno K i) → (g = 11 → x ≠ 22 ∧ x ≠ 48) → Y3 g t x = Y g t x := fun g t x a b => by
      rw [← p3]
      by_cases e : g = 11
      · subst e
        rw [mu_ni (b rfl).1, ep, mu_ng (by decide), mu_ng (by decide), ← p1, mu_ni (b rfl).1]
      · rw [mu_ng e, ep]
        by_cases e1 : g = 917578
        · rw [mu_ni (a (Or.inr e1)), mu_ng (by rw [e1]; decide), ← p1, mu_ng e]
        · rw [mu_ng e1]
          by_cases e3 : g = 917577
          · rw [mu_ni (a (Or.inl e3)), ← p1, mu_ng e]
          · rw [mu_ng e3, ← p1, mu_ng e]
    have sn : SPN M K i Y3 := by
      unfold SPN
      rw [← p3, mu_ng (by decide), mu_ng (by decide), ep]
      exact ⟨by rw [mu_ng (by decide), mup_same], mup_same _ _ _ _ _⟩
    have r4 := R_W2_rest hc nf hw hd i3 i4 pd3 n3
    refine b_11_8 ?_
    simp only [wx_iconst, wx_ldc2, wx_iload, wx_lload, wx_aload, wx_istore, wx_lstore, wx_astore, wx_iinc, wx_iadd, wx_isub, wx_imul, wx_iand, wx_ior, wx_ixor, wx_ishl, wx_ishr, wx_iushr, wx_irem, wx_ineg, wx_ladd, wx_land, wx_lor, wx_lrem, wx_lneg, wx_lshl, wx_lushr, wx_lcmp, wx_i2l, wx_l2i, wx_i2b, wx_i2c, wx_dupI, wx_popI, wx_dupR, wx_popR, wx_dup2, wx_icmp_eq, wx_if_eq, wx_icmp_ne, wx_if_ne, wx_icmp_lt, wx_if_lt, wx_icmp_ge, wx_if_ge, wx_icmp_gt, wx_if_gt, wx_icmp_le, wx_if_le, wx_acmp_eq, wx_acmp_ne, wx_goto, wx_tsw, wx_lsw, wx_getf, wx_putf, wx_iald, wx_bald, wx_cald, wx_lald, wx_aald1, wx_aald2, wx_iast, wx_bast, wx_cast, wx_last, wx_alen, wx_gets, wx_invV, wx_ord12, wx_ord13, wx_word, wx_want, wx_slen, wx_schr, wx_invS, wx_ret0, wx_ret1, wx_lret, wx_aret, wx_vret, wl_nil, wl_cons, li_0, li_s, lr_0, lr_s, ll_0, ll_s, pp_0, pp_s, rc_mk, rp_n, rp_s, fp_0, fp_1, fp_2, fg_0, fg_1, fg_2, fg_3, wcallV, wcall, List.set_cons_zero, List.set_cons_succ, Nat.reduceDiv, Nat.reduceMod, Nat.reduceAdd, Nat.reduceSub, Nat.reduceEqDiff, Int.reduceToNat, Int.reduceNatCast', gk, inr, gl, true_and, and_true, Int.zero_add, Int.add_zero, List.length_cons, List.length_nil, Nat.reduceLeDiff, Nat.reduceLT, Nat.le_refl, Nat.zero_le, Classical.not_not, Nat.zero_add, lc_ge, lc_gt, lc_le, lc_lt, lc_eq, mup_same, mu_ng, mu_ni, ne_eq, not_false_eq_true, Int.reduceEq, false_and, and_false, false_or, or_false, true_or, or_true, i10, i11, Int.reduceMul, Int.reduceAdd, Int.reduceSub, Int.mul_one, not_true_eq_false, false_implies, true_implies, implies_true, i01, i02, wx_a39, wx_a40, wx_a41, wx_a42, wx_a35, wx_a37, wx_a21, wx_a26, wx_aK, wx_s21, wx_s26, wx_ldcs]
    repeat' (first | ((first | refine Wq_i (i := 0) rfl (b_11_0 ?_) | refine Wq_i (i := 25) rfl (b_11_25 ?_) | refine Wq_i (i := 28) rfl (b_11_28 ?_) | refine Wq_i (i := 41) rfl (b_11_41 ?_) | refine Wq_i (i := 81) rfl (b_11_81 ?_) | refine Wq_i (i := 89) rfl (b_11_89 ?_) | refine Wq_i (i := 92) rfl (b_11_92 ?_) | refine Wq_i (i := 105) rfl (b_11_105 ?_) | refine Wq_i (i := 113) rfl (b_11_113 ?_) | refine call_f2 (n := 12) rfl r1 ?_); (try simp only [wx_iconst, wx_ldc2, wx_iload, wx_lload, wx_aload, wx_istore, wx_lstore, wx_astore, wx_iinc, wx_iadd, wx_isub, wx_imul, wx_iand, wx_ior, wx_ixor, wx_ishl, wx_ishr, wx_iushr, wx_irem, wx_ineg, wx_ladd, wx_land, wx_lor, wx_lrem, wx_lneg, wx_lshl, wx_lushr, wx_lcmp, wx_i2l, wx_l2i, wx_i2b, wx_i2c, wx_dupI, wx_popI, wx_dupR, wx_popR, wx_dup2, wx_icmp_eq, wx_if_eq, wx_icmp_ne, wx_if_ne, wx_icmp_lt, wx_if_lt, wx_icmp_ge, wx_if_ge, wx_icmp_gt, wx_if_gt, wx_icmp_le, wx_if_le, wx_acmp_eq, wx_acmp_ne, wx_goto, wx_tsw, wx_lsw, wx_getf, wx_putf, wx_iald, wx_bald, wx_cald, wx_lald, wx_aald1, wx_aald2, wx_iast, wx_bast, wx_cast, wx_last, wx_alen, wx_gets, wx_invV, wx_ord12, wx_ord13, wx_word, wx_want, wx_slen, wx_schr, wx_invS, wx_ret0, wx_ret1, wx_lret, wx_aret, wx_vret, wl_nil, wl_cons, li_0, li_s, lr_0, lr_s, ll_0, ll_s, pp_0, pp_s, rc_mk, rp_n, rp_s, fp_0, fp_1, fp_2, fg_0, fg_1, fg_2, fg_3, wcallV, wcall, List.set_cons_zero, List.set_cons_succ, Nat.reduceDiv, Nat.reduceMod, Nat.reduceAdd, Nat.reduceSub, Nat.reduceEqDiff, Int.reduceToNat, Int.reduceNatCast', gk, inr, gl, true_and, and_true, Int.zero_add, Int.add_zero, List.length_cons, List.length_nil, Nat.reduceLeDiff, Nat.reduceLT, Nat.le_refl, Nat.zero_le, Classical.not_not, Nat.zero_add, lc_ge, lc_gt, lc_le, lc_lt, lc_eq, mup_same, mu_ng, mu_ni, ne_eq, not_false_eq_true, Int.reduceEq, false_and, and_false, false_or, or_false, true_or, or_true, i10, i11, Int.reduceMul, Int.reduceAdd, Int.reduceSub, Int.mul_one, not_true_eq_false, false_implies, true_implies, implies_true, i01, i02, wx_a39, wx_a40, wx_a41, wx_a42, wx_a35, wx_a37, wx_a21, wx_a26, wx_aK, wx_s21, wx_s26, wx_ldcs, nw, q2]); (try (simp (disch := omega) only [w32_of, w64_of]))) | (refine And.intro ?_ ?_) | (refine (fun _ => ?_ : _ → _)) | (simp (disch := omega) only [w32_of, w64_of]))
    all_goals (first | rfl | omega | (refine congrArg (fun z : Int => some (aI z)) ?_; omega) | (exact absurd True.intro (by assumption)) | (exfalso; omega) | decide | (simp only [or_true, true_or]; done) | (split <;> first | rfl | (exfalso; omega) | (split <;> first | rfl | (exfalso; omega) | (split <;> first | rfl | (exfalso; omega)))) | skip)
    all_goals (first | (exfalso; (try simp (disch := omega) only [w32_of, w64_of] at *); first | omega | contradiction) | skip)
    all_goals (rw [p1]; refine call_f2 (n := 12) rfl r2 ?_; simp only [wx_iconst, wx_ldc2, wx_iload, wx_lload, wx_aload, wx_istore, wx_lstore, wx_astore, wx_iinc, wx_iadd, wx_isub, wx_imul, wx_iand, wx_ior, wx_ixor, wx_ishl, wx_ishr, wx_iushr, wx_irem, wx_ineg, wx_ladd, wx_land, wx_lor, wx_lrem, wx_lneg, wx_lshl, wx_lushr, wx_lcmp, wx_i2l, wx_l2i, wx_i2b, wx_i2c, wx_dupI, wx_popI, wx_dupR, wx_popR, wx_dup2, wx_icmp_eq, wx_if_eq, wx_icmp_ne, wx_if_ne, wx_icmp_lt, wx_if_lt, wx_icmp_ge, wx_if_ge, wx_icmp_gt, wx_if_gt, wx_icmp_le, wx_if_le, wx_acmp_eq, wx_acmp_ne, wx_goto, wx_tsw, wx_lsw, wx_getf, wx_putf, wx_iald, wx_bald, wx_cald, wx_lald, wx_aald1, wx_aald2, wx_iast, wx_bast, wx_cast, wx_last, wx_alen, wx_gets, wx_invV, wx_ord12, wx_ord13, wx_word, wx_want, wx_slen, wx_schr, wx_invS, wx_ret0, wx_ret1, wx_lret, wx_aret, wx_vret, wl_nil, wl_cons, li_0, li_s, lr_0, lr_s, ll_0, ll_s, pp_0, pp_s, rc_mk, rp_n, rp_s, fp_0, fp_1, fp_2, fg_0, fg_1, fg_2, fg_3, wcallV, wcall, List.set_cons_zero, List.set_cons_succ, Nat.reduceDiv, Nat.reduceMod, Nat.reduceAdd, Nat.reduceSub, Nat.reduceEqDiff, Int.reduceToNat, Int.reduceNatCast', gk, inr, gl, true_and, and_true, Int.zero_add, Int.add_zero, List.length_cons, List.length_nil, Nat.reduceLeDiff, Nat.reduceLT, Nat.le_refl, Nat.zero_le, Classical.not_not, Nat.zero_add, lc_ge, lc_gt, lc_le, lc_lt, lc_eq, mup_same, mu_ng, mu_ni, ne_eq, not_false_eq_true, Int.reduceEq, false_and, and_false, false_or, or_false, true_or, or_true, i10, i11, Int.reduceMul, Int.reduceAdd, Int.reduceSub, Int.mul_one, not_true_eq_false, false_implies, true_implies, implies_true, i01, i02, wx_a39, wx_a40, wx_a41, wx_a42, wx_a35, wx_a37, wx_a21, wx_a26, wx_aK, wx_s21, wx_s26, wx_ldcs])
    repeat' (first | ((first | refine Wq_i (i := 0) rfl (b_11_0 ?_) | refine Wq_i (i := 25) rfl (b_11_25 ?_) | refine Wq_i (i := 28) rfl (b_11_28 ?_) | refine Wq_i (i := 41) rfl (b_11_41 ?_) | refine Wq_i (i := 81) rfl (b_11_81 ?_) | refine Wq_i (i := 89) rfl (b_11_89 ?_) | refine Wq_i (i := 92) rfl (b_11_92 ?_) | refine Wq_i (i := 105) rfl (b_11_105 ?_) | refine Wq_i (i := 113) rfl (b_11_113 ?_) | refine call_f2 (n := 18) rfl r3 ?_); (try simp only [wx_iconst, wx_ldc2, wx_iload, wx_lload, wx_aload, wx_istore, wx_lstore, wx_astore, wx_iinc, wx_iadd, wx_isub, wx_imul, wx_iand, wx_ior, wx_ixor, wx_ishl, wx_ishr, wx_iushr, wx_irem, wx_ineg, wx_ladd, wx_land, wx_lor, wx_lrem, wx_lneg, wx_lshl, wx_lushr, wx_lcmp, wx_i2l, wx_l2i, wx_i2b, wx_i2c, wx_dupI, wx_popI, wx_dupR, wx_popR, wx_dup2, wx_icmp_eq, wx_if_eq, wx_icmp_ne, wx_if_ne, wx_icmp_lt, wx_if_lt, wx_icmp_ge, wx_if_ge, wx_icmp_gt, wx_if_gt, wx_icmp_le, wx_if_le, wx_acmp_eq, wx_acmp_ne, wx_goto, wx_tsw, wx_lsw, wx_getf, wx_putf, wx_iald, wx_bald, wx_cald, wx_lald, wx_aald1, wx_aald2, wx_iast, wx_bast, wx_cast, wx_last, wx_alen, wx_gets, wx_invV, wx_ord12, wx_ord13, wx_word, wx_want, wx_slen, wx_schr, wx_invS, wx_ret0, wx_ret1, wx_lret, wx_aret, wx_vret, wl_nil, wl_cons, li_0, li_s, lr_0, lr_s, ll_0, ll_s, pp_0, pp_s, rc_mk, rp_n, rp_s, fp_0, fp_1, fp_2, fg_0, fg_1, fg_2, fg_3, wcallV, wcall, List.set_cons_zero, List.set_cons_succ, Nat.reduceDiv, Nat.reduceMod, Nat.reduceAdd, Nat.reduceSub, Nat.reduceEqDiff, Int.reduceToNat, Int.reduceNatCast', gk, inr, gl, true_and, and_true, Int.zero_add, Int.add_zero, List.length_cons, List.length_nil, Nat.reduceLeDiff, Nat.reduceLT, Nat.le_refl, Nat.zero_le, Classical.not_not, Nat.zero_add, lc_ge, lc_gt, lc_le, lc_lt, lc_eq, mup_same, mu_ng, mu_ni, ne_eq, not_false_eq_true, Int.reduceEq, false_and, and_false, false_or, or_false, true_or, or_true, i10, i11, Int.reduceMul, Int.reduceAdd, Int.reduceSub, Int.mul_one, not_true_eq_false, false_implies, true_implies, implies_true, i01, i02, wx_a39, wx_a40, wx_a41, wx_a42, wx_a35, wx_a37, wx_a21, wx_a26, wx_aK, wx_s21, wx_s26, wx_ldcs, w1, n2]); (try (simp (disch := omega) only [w32_of, w64_of]))) | (refine And.intro ?_ ?_) | (refine (fun _ => ?_ : _ → _)) | (simp (disch := omega) only [w32_of, w64_of]))
    all_goals (first | rfl | omega | (refine congrArg (fun z : Int => some (aI z)) ?_; omega) | (exact absurd True.intro (by assumption)) | (exfalso; omega) | decide | (simp only [or_true, true_or]; done) | (split <;> first | rfl | (exfalso; omega) | (split <;> first | rfl | (exfalso; omega) | (split <;> first | rfl | (exfalso; omega)))) | skip)
    all_goals (first | (exfalso; (try simp (disch := omega) only [w32_of, w64_of] at *); first | omega | contradiction) | skip)
    all_goals (rw [p3]; refine call_re r4 ?_; rintro r M' ⟨g, rfl, u1, u2, u3, u4, u5, u6⟩; simp only [wx_iconst, wx_ldc2, wx_iload, wx_lload, wx_aload, wx_istore, wx_lstore, wx_astore, wx_iinc, wx_iadd, wx_isub, wx_imul, wx_iand, wx_ior, wx_ixor, wx_ishl, wx_ishr, wx_iushr, wx_irem, wx_ineg, wx_ladd, wx_land, wx_lor, wx_lrem, wx_lneg, wx_lshl, wx_lushr, wx_lcmp, wx_i2l, wx_l2i, wx_i2b, wx_i2c, wx_dupI, wx_popI, wx_dupR, wx_popR, wx_dup2, wx_icmp_eq, wx_if_eq, wx_icmp_ne, wx_if_ne, wx_icmp_lt, wx_if_lt, wx_icmp_ge, wx_if_ge, wx_icmp_gt, wx_if_gt, wx_icmp_le, wx_if_le, wx_acmp_eq, wx_acmp_ne, wx_goto, wx_tsw, wx_lsw, wx_getf, wx_putf, wx_iald, wx_bald, wx_cald, wx_lald, wx_aald1, wx_aald2, wx_iast, wx_bast, wx_cast, wx_last, wx_alen, wx_gets, wx_invV, wx_ord12, wx_ord13, wx_word, wx_want, wx_slen, wx_schr, wx_invS, wx_ret0, wx_ret1, wx_lret, wx_aret, wx_vret, wl_nil, wl_cons, li_0, li_s, lr_0, lr_s, ll_0, ll_s, pp_0, pp_s, rc_mk, rp_n, rp_s, fp_0, fp_1, fp_2, fg_0, fg_1, fg_2, fg_3, wcallV, wcall, List.set_cons_zero, List.set_cons_succ, Nat.reduceDiv, Nat.reduceMod, Nat.reduceAdd, Nat.reduceSub, Nat.reduceEqDiff, Int.reduceToNat, Int.reduceNatCast', gk, inr, gl, true_and, and_true, Int.zero_add, Int.add_zero, List.length_cons, List.length_nil, Nat.reduceLeDiff, Nat.reduceLT, Nat.le_refl, Nat.zero_le, Classical.not_not, Nat.zero_add, lc_ge, lc_gt, lc_le, lc_lt, lc_eq, mup_same, mu_ng, mu_ni, ne_eq, not_false_eq_true, Int.reduceEq, false_and, and_false, false_or, or_false, true_or, or_true, i10, i11, Int.reduceMul, Int.reduceAdd, Int.reduceSub, Int.mul_one, not_true_eq_false, false_implies, true_implies, implies_true, i01, i02, wx_a39, wx_a40, wx_a41, wx_a42, wx_a35, wx_a37, wx_a21, wx_a26, wx_aK, wx_s21, wx_s26, wx_ldcs, u2])
    repeat' (first | ((first | refine Wq_i (i := 0) rfl (b_11_0 ?_) | refine Wq_i (i := 25) rfl (b_11_25 ?_) | refine Wq_i (i := 28) rfl (b_11_28 ?_) | refine Wq_i (i := 41) rfl (b_11_41 ?_) | refine Wq_i (i := 81) rfl (b_11_81 ?_) | refine Wq_i (i := 89) rfl (b_11_89 ?_) | refine Wq_i (i := 92) rfl (b_11_92 ?_) | refine Wq_i (i := 105) rfl (b_11_105 ?_) | refine Wq_i (i := 113) rfl (b_11_113 ?_)); (try simp only [wx_iconst, wx_ldc2, wx_iload, wx_lload, wx_aload, wx_istore, wx_lstore, wx_astore, wx_iinc, wx_iadd, wx_isub, wx_imul, wx_iand, wx_ior, wx_ixor, wx_ishl, wx_ishr, wx_iushr, wx_irem, wx_ineg, wx_ladd, wx_land, wx_lor, wx_lrem, wx_lneg, wx_lshl, wx_lushr, wx_lcmp, wx_i2l, wx_l2i, wx_i2b, wx_i2c, wx_dupI, wx_popI, wx_dupR, wx_popR, wx_dup2, wx_icmp_eq, wx_if_eq, wx_icmp_ne, wx_if_ne, wx_icmp_lt, wx_if_lt, wx_icmp_ge, wx_if_ge, wx_icmp_gt, wx_if_gt, wx_icmp_le, wx_if_le, wx_acmp_eq, wx_acmp_ne, wx_goto, wx_tsw, wx_lsw, wx_getf, wx_putf, wx_iald, wx_bald, wx_cald, wx_lald, wx_aald1, wx_aald2, wx_iast, wx_bast, wx_cast, wx_last, wx_alen, wx_gets, wx_invV, wx_ord12, wx_ord13, wx_word, wx_want, wx_slen, wx_schr, wx_invS, wx_ret0, wx_ret1, wx_lret, wx_aret, wx_vret, wl_nil, wl_cons, li_0, li_s, lr_0, lr_s, ll_0, ll_s, pp_0, pp_s, rc_mk, rp_n, rp_s, fp_0, fp_1, fp_2, fg_0, fg_1, fg_2, fg_3, wcallV, wcall, List.set_cons_zero, List.set_cons_succ, Nat.reduceDiv, Nat.reduceMod, Nat.reduceAdd, Nat.reduceSub, Nat.reduceEqDiff, Int.reduceToNat, Int.reduceNatCast', gk, inr, gl, true_and, and_true, Int.zero_add, Int.add_zero, List.length_cons, List.length_nil, Nat.reduceLeDiff, Nat.reduceLT, Nat.le_refl, Nat.zero_le, Classical.not_not, Nat.zero_add, lc_ge, lc_gt, lc_le, lc_lt, lc_eq, mup_same, mu_ng, mu_ni, ne_eq, not_false_eq_true, Int.reduceEq, false_and, and_false, false_or, or_false, true_or, or_true, i10, i11, Int.reduceMul, Int.reduceAdd, Int.reduceSub, Int.mul_one, not_true_eq_false, false_implies, true_implies, implies_true, i01, i02, wx_a39, wx_a40, wx_a41, wx_a42, wx_a35, wx_a37, wx_a21, wx_a26, wx_aK, wx_s21, wx_s26, wx_ldcs, u2]); (try (simp (disch := omega) only [w32_of, w64_of]))) | (refine And.intro ?_ ?_) | (refine (fun _ => ?_ : _ → _)) | (simp (disch := omega) only [w32_of, w64_of]))
    all_goals (first | rfl | omega | (refine congrArg (fun z : Int => some (aI z)) ?_; omega) | (exact absurd True.intro (by assumption)) | (exfalso; omega) | decide | (simp only [or_true, true_or]; done) | (split <;> first | rfl | (exfalso; omega) | (split <;> first | rfl | (exfalso; omega) | (split <;> first | rfl | (exfalso; omega)))) | skip)
    all_goals (first | (exfalso; (try simp (disch := omega) only [w32_of, w64_of] at *); first | omega | contradiction) | skip)
    all_goals (
      have eg : g = f := dxt_u u3 i6
      have e5 : (M' 1433668 0 ((dnI K i : Int))) = g := by rw [u1.1 _ _ (show pdG 1433668 = true from rfl), i8, eg]
      have e6 : (mup M' 1433668 0 ((dnI K i : Int)) ((g : Int))) = M' := by rw [← e5]; exact mu_id rfl
      rw [e6])
    all_goals (
      have e7 : (dnI K i : Int) + 1 = (dnI K g : Int) := by
        rw [dnI_nd u3.1]
        rw [dnI_nd (nd_1 (nd_0 K (i + 1)) i4 (by decide))]
        show _ = ((dnI K i + (if dit K i then 1 else 0) : Nat) : Int)
        rw [if_pos hd]
        omega
      rw [e7]
      exact ih g M' _ (by have := u3.1.1; omega) u4 u3.2 (J2_s hc nf hd i3 i4 hy c1 sn u1 u2 u3 u5 u6))
theorem R_W2 (hc : C1 (mup (mup Y 11 0 21 (2)) 11 0 22 (0)) K T F) (nf : NF (mup (mup Y 11 0 21 (2)) 11 0 22 (0)) K F) : Runs 11 [aR 11 0, aI 2] Y (G2 (mup (mup Y 11 0 21 (2)) 11 0 22 (0)) K F) := by
  have key := fun x => g2_8 hc nf (by rw [mu_ni (by decide), mup_same]) (F + 1) 0 (mup (mup Y 11 0 21 (2)) 11 0 22 (0)) x (by omega) (by omega) (dex_0 rfl) (J2.mk ⟨fun _ _ _ => rfl, rfl, rfl, rfl⟩ (mup_same _ _ _ _ _) (fun _ _ _ _ _ => rfl) (fun j f a => by omega) (fun _ _ _ _ _ _ => rfl))
  refine Runs.go2 (cd := cd_11) _ (by decide) (by decide) ck_11 rfl (Nat.le_of_ble_eq_true rfl) (show _ = ([some (aR 11 0), some (aI 2), none, none] : Lc) from rfl) (fun ho hM => ?_)
  refine b_11_0 ?_
  simp only [wx_iconst, wx_ldc2, wx_iload, wx_lload, wx_aload, wx_istore, wx_lstore, wx_astore, wx_iinc, wx_iadd, wx_isub, wx_imul, wx_iand, wx_ior, wx_ixor, wx_ishl, wx_ishr, wx_iushr, wx_irem, wx_ineg, wx_ladd, wx_land, wx_lor, wx_lrem, wx_lneg, wx_lshl, wx_lushr, wx_lcmp, wx_i2l, wx_l2i, wx_i2b, wx_i2c, wx_dupI, wx_popI, wx_dupR, wx_popR, wx_dup2, wx_icmp_eq, wx_if_eq, wx_icmp_ne, wx_if_ne, wx_icmp_lt, wx_if_lt, wx_icmp_ge, wx_if_ge, wx_icmp_gt, wx_if_gt, wx_icmp_le, wx_if_le, wx_acmp_eq, wx_acmp_ne, wx_goto, wx_tsw, wx_lsw, wx_getf, wx_putf, wx_iald, wx_bald, wx_cald, wx_lald, wx_aald1, wx_aald2, wx_iast, wx_bast, wx_cast, wx_last, wx_alen, wx_gets, wx_invV, wx_ord12, wx_ord13, wx_word, wx_want, wx_slen, wx_schr, wx_invS, wx_ret0, wx_ret1, wx_lret, wx_aret, wx_vret, wl_nil, wl_cons, li_0, li_s, lr_0, lr_s, ll_0, ll_s, pp_0, pp_s, rc_mk, rp_n, rp_s, fp_0, fp_1, fp_2, fg_0, fg_1, fg_2, fg_3, wcallV, wcall, List.set_cons_zero, List.set_cons_succ, Nat.reduceDiv, Nat.reduceMod, Nat.reduceAdd, Nat.reduceSub, Nat.reduceEqDiff, Int.reduceToNat, Int.reduceNatCast', gk, inr, gl, true_and, and_true, Int.zero_add, Int.add_zero, List.length_cons, List.length_nil, Nat.reduceLeDiff, Nat.reduceLT, Nat.le_refl, Nat.zero_le, Classical.not_not, Nat.zero_add, lc_ge, lc_gt, lc_le, lc_lt, lc_eq, mup_same, mu_ng, mu_ni, ne_eq, not_false_eq_true, Int.reduceEq, false_and, and_false, false_or, or_false, true_or, or_true, i10, i11, Int.reduceMul, Int.reduceAdd, Int.reduceSub, Int.mul_one, not_true_eq_false, false_implies, true_implies, implies_true, i01, i02, wx_a39, wx_a40, wx_a41, wx_a42, wx_a35, wx_a37, wx_a21, wx_a26, wx_aK, wx_s21, wx_s26, wx_ldcs]
  exact key _
end W2H
