/-! ===== two memories: the reference (by program) ===== -/
theorem cq_j (A B : AMem) (t : Int) : ∀ n, cq (jn A B) t n = cq B t n
  | 0 => by first | rfl | (unfold cq; simp only [jr_819297, mr_819297, jr_819298, mr_819298, fl_819298, jn_ir]; done) | (unfold cq; simp only [jr_819297, mr_819297, jr_819298, mr_819298, fl_819298, jn_ir]; rfl)
  | n + 1 => by
    have ih := cq_j A B t n
    unfold cq
    first | (simp only [jr_819297, mr_819297, jr_819298, mr_819298, fl_819298, jn_ir, ih]; done) | (simp only [jr_819297, mr_819297, jr_819298, mr_819298, fl_819298, jn_ir, ih]; rfl)
theorem rn_j (A B : AMem)  : rn (jn A B) = rn B := by
  unfold rn
  first | (simp only [jr_819298, mr_819298, fl_819298, jn_ir]; done) | (simp only [jr_819298, mr_819298, fl_819298, jn_ir]; rfl) | rfl
theorem iw_j (A B : AMem)  : iw (jn A B) = iw B := by
  unfold iw
  first | (simp only [jr_11, mr_11, jr_14408, mr_14408, jr_32875, mr_32875, fl_32875, jn_ir]; done) | (simp only [jr_11, mr_11, jr_14408, mr_14408, jr_32875, mr_32875, fl_32875, jn_ir]; rfl) | rfl
theorem MB_j (A B : AMem)  : MB (jn A B) = MB B := by
  unfold MB
  first | (simp only [jr_14408, mr_14408, jn_ir]; done) | (simp only [jr_14408, mr_14408, jn_ir]; rfl) | rfl
theorem wk_j (A B : AMem)  : wk (jn A B) = wk B := by
  unfold wk
  first | (simp only [jn_ir, rn_j, iw_j]; done) | (simp only [jn_ir, rn_j, iw_j]; rfl) | rfl
theorem inn_j (A B : AMem) (t : Int) : inn (jn A B) t = inn B t := by
  unfold inn
  first | (simp only [jr_14408, mr_14408, jr_65867, mr_65867, jr_98390, mr_98390, jn_ir]; done) | (simp only [jr_14408, mr_14408, jr_65867, mr_65867, jr_98390, mr_98390, jn_ir]; rfl) | rfl
theorem mrs_j (A B : AMem)  : mrs (jn A B) = mrs B := by
  unfold mrs
  first | (simp only [jr_14408, mr_14408, jn_ir]; done) | (simp only [jr_14408, mr_14408, jn_ir]; rfl) | rfl
theorem hsf_j (A B : AMem) (w : Int) : hsf (jn A B) w = hsf B w := by
  unfold hsf
  first | (simp only [jr_65639, mr_65639, fl_65639, jn_ir, mrs_j]; done) | (simp only [jr_65639, mr_65639, fl_65639, jn_ir, mrs_j]; rfl) | rfl
theorem cpf_j (A B : AMem) (w : Int) : ∀ n p_, cpf (jn A B) w n p_ = cpf B w n p_
  | 0, p_ => by first | rfl | (unfold cpf; simp only [jr_65613, mr_65613, jr_65639, mr_65639, fl_65639, jn_ir]; done)
  | n + 1, p_ => by
    have ih := fun p_ => cpf_j A B w n p_
    unfold cpf
    first | (simp only [jr_65613, mr_65613, jr_65639, mr_65639, fl_65639, jn_ir, ih]; done) | (simp only [jr_65613, mr_65613, jr_65639, mr_65639, fl_65639, jn_ir, ih]; rfl)
theorem opr_j (A B : AMem) (w : Int) : opr (jn A B) w = opr B w := by
  unfold opr
  first | (simp only [jr_32855, mr_32855, jr_98385, mr_98385, jr_819297, mr_819297, jn_ir]; done) | (simp only [jr_32855, mr_32855, jr_98385, mr_98385, jr_819297, mr_819297, jn_ir]; rfl) | rfl
theorem cpr_j (A B : AMem) (w : Int) : cpr (jn A B) w = cpr B w := by
  unfold cpr
  first | (simp only [jr_65613, mr_65613, jr_819297, mr_819297, jr_819561, mr_819561, fl_819561, jn_ir, inn_j, mrs_j, cpf_j, opr_j]; done) | (simp only [jr_65613, mr_65613, jr_819297, mr_819297, jr_819561, mr_819561, fl_819561, jn_ir, inn_j, mrs_j, cpf_j, opr_j]; rfl) | rfl
theorem wok_j (A B : AMem) (w : Int) : wok (jn A B) w = wok B w := by
  unfold wok
  first | (simp only [jr_819297, mr_819297, jr_819561, mr_819561, fl_819561, jn_ir, inn_j]; done) | (simp only [jr_819297, mr_819297, jr_819561, mr_819561, fl_819561, jn_ir, inn_j]; rfl) | rfl
theorem ahd_j (A B : AMem) (a : Int) (b : Int) : ahd (jn A B) a b = ahd B a b := by
  unfold ahd
  first | (simp only [jr_819299, mr_819299, jr_819812, mr_819812, jn_ir]; done) | (simp only [jr_819299, mr_819299, jr_819812, mr_819812, jn_ir]; rfl) | rfl
theorem topf_j (A B : AMem)  : ∀ n, topf (jn A B) n = topf B n
  | 0 => by first | rfl | (unfold topf; simp only [jr_819298, mr_819298, jr_819299, mr_819299, jr_819812, mr_819812, fl_819298, jn_ir]; done) | (unfold topf; simp only [jr_819298, mr_819298, jr_819299, mr_819299, jr_819812, mr_819812, fl_819298, jn_ir]; rfl)
  | n + 1 => by
    have ih := topf_j A B  n
    unfold topf
    first | (simp only [jr_819298, mr_819298, jr_819299, mr_819299, jr_819812, mr_819812, fl_819298, jn_ir, ih]; done) | (simp only [jr_819298, mr_819298, jr_819299, mr_819299, jr_819812, mr_819812, fl_819298, jn_ir, ih]; rfl)
theorem nt_j (A B : AMem) (v : Int) : nt (jn A B) v = jn A (nt B v) := by
  unfold nt
  first | (simp only [jr_11, mr_11, jr_1024114, mr_1024114, jn_ir]; done) | (simp only [jr_11, mr_11, jr_1024114, mr_1024114, jn_ir]; rfl) | rfl
theorem clast_j (A B : AMem) (q : Int) : clast (jn A B) q = jn A (clast B q) := by
  unfold clast
  first | (simp only [jr_11, mr_11, jr_98385, mr_98385, jr_819297, mr_819297, jr_819298, mr_819298, jr_819299, mr_819299, jr_819812, mr_819812, fl_819298, jn_ir]; done) | (simp only [jr_11, mr_11, jr_98385, mr_98385, jr_819297, mr_819297, jr_819298, mr_819298, jr_819299, mr_819299, jr_819812, mr_819812, fl_819298, jn_ir]; rfl) | rfl
theorem fq_j (A B : AMem)  : fq (jn A B) = fq B := by
  unfold fq
  first | (simp only [jr_819298, mr_819298, fl_819298, jn_ir]; done) | (simp only [jr_819298, mr_819298, fl_819298, jn_ir]; rfl) | rfl
theorem rqs_j (A B : AMem) (t : Int) : rqs (jn A B) t = jn A (rqs B t) := by
  unfold rqs
  first | (simp only [jr_98388, mr_98388, jr_98406, mr_98406, jr_819297, mr_819297, jr_819561, mr_819561, fl_819561, fl_98406, jn_ir, cq_j, clast_j, fq_j]; done) | (simp only [jr_98388, mr_98388, jr_98406, mr_98406, jr_819297, mr_819297, jr_819561, mr_819561, fl_819561, fl_98406, jn_ir, cq_j, clast_j, fq_j]; rfl) | rfl
theorem SM_j (A B : AMem)  : SM (jn A B) = SM B := by
  unfold SM
  first | (simp only [jr_11, mr_11, jn_ir]; done) | (simp only [jr_11, mr_11, jn_ir]; rfl) | rfl
theorem pre_j (A B : AMem) (q : Int) : pre (jn A B) q = jn A (pre B q) := by
  unfold pre
  first | (simp only [jr_11, mr_11, jr_819297, mr_819297, jr_819298, mr_819298, jr_819299, mr_819299, jr_819812, mr_819812, fl_819298, jn_ir, cpr_j, nt_j]; done) | (simp only [jr_11, mr_11, jr_819297, mr_819297, jr_819298, mr_819298, jr_819299, mr_819299, jr_819812, mr_819812, fl_819298, jn_ir, cpr_j, nt_j]; rfl) | rfl
theorem thr_j (A B : AMem) (q : Int) : thr (jn A B) q = jn A (thr B q) := by
  unfold thr
  first | (simp only [jr_819297, mr_819297, jr_819298, mr_819298, jr_819561, mr_819561, fl_819298, fl_819561, jn_ir, nt_j]; done) | (simp only [jr_819297, mr_819297, jr_819298, mr_819298, jr_819561, mr_819561, fl_819298, fl_819561, jn_ir, nt_j]; rfl) | rfl
theorem rns_j (A B : AMem) (q : Int) : rns (jn A B) q = jn A (rns B q) := by
  unfold rns
  first | (simp only [jr_819297, mr_819297, jr_819298, mr_819298, jr_819561, mr_819561, fl_819298, fl_819561, jn_ir, inn_j, nt_j]; done) | (simp only [jr_819297, mr_819297, jr_819298, mr_819298, jr_819561, mr_819561, fl_819298, fl_819561, jn_ir, inn_j, nt_j]; rfl) | rfl
theorem idl_j (A B : AMem)  : idl (jn A B) = idl B := by
  unfold idl
  first | (simp only [jr_11, mr_11, jn_ir, wk_j]; done) | (simp only [jr_11, mr_11, jn_ir, wk_j]; rfl) | rfl
theorem bsd_j (A B : AMem) (w : Int) (p : Int) : ∀ n p_, bsd (jn A B) w p n p_ = bsd B w p n p_
  | 0, p_ => by first | rfl | (unfold bsd; simp only [jr_32855, mr_32855, jr_33130, mr_33130, fl_33130, jn_ir]; done)
  | n + 1, p_ => by
    have ih := fun p_ => bsd_j A B w p n p_
    unfold bsd
    first | (simp only [jr_32855, mr_32855, jr_33130, mr_33130, fl_33130, jn_ir, ih]; done) | (simp only [jr_32855, mr_32855, jr_33130, mr_33130, fl_33130, jn_ir, ih]; rfl)
theorem bst_j (A B : AMem)  : bst (jn A B) = bst B := by
  unfold bst
  first | (simp only [jr_14408, mr_14408, jn_ir, wk_j, cpr_j, bsd_j]; done) | (simp only [jr_14408, mr_14408, jn_ir, wk_j, cpr_j, bsd_j]; rfl) | rfl
theorem beg_j (A B : AMem) (b : Int) : beg (jn A B) b = jn A (beg B b) := by
  unfold beg
  first | (simp only [jr_11, mr_11, jr_32875, mr_32875, jr_33130, mr_33130, fl_33130, fl_32875, jn_ir, nt_j]; done) | (simp only [jr_11, mr_11, jr_32875, mr_32875, jr_33130, mr_33130, fl_33130, fl_32875, jn_ir, nt_j]; rfl) | rfl
theorem run1_j (A B : AMem)  : run1 (jn A B) = jn A (run1 B) := by
  unfold run1
  first | (simp only [jr_11, mr_11, jr_98642, mr_98642, jr_819297, mr_819297, jr_819299, mr_819299, jn_ir, rn_j, cpr_j, topf_j, pre_j, rns_j]; done) | (simp only [jr_11, mr_11, jr_98642, mr_98642, jr_819297, mr_819297, jr_819299, mr_819299, jn_ir, rn_j, cpr_j, topf_j, pre_j, rns_j]; rfl) | rfl
theorem stl_j (A B : AMem)  : stl (jn A B) = jn A (stl B) := by
  unfold stl
  first | (simp only [jr_11, mr_11, jn_ir, bst_j, beg_j, run1_j]; done) | (simp only [jr_11, mr_11, jn_ir, bst_j, beg_j, run1_j]; rfl) | rfl
theorem WT_j (A B : AMem)  : WT (jn A B) = WT B := by
  unfold WT
  first | (simp only [jr_819297, mr_819297, jr_819561, mr_819561, fl_819561, jn_ir, inn_j]; done) | (simp only [jr_819297, mr_819297, jr_819561, mr_819561, fl_819561, jn_ir, inn_j]; rfl) | rfl
theorem lks_j (A B : AMem)  : lks (jn A B) = jn A (lks B) := by
  unfold lks
  first | (simp only [jr_11, mr_11, jr_98642, mr_98642, jr_819297, mr_819297, jr_819299, mr_819299, jn_ir, rn_j, cpr_j, topf_j]; done) | (simp only [jr_11, mr_11, jr_98642, mr_98642, jr_819297, mr_819297, jr_819299, mr_819299, jn_ir, rn_j, cpr_j, topf_j]; rfl) | rfl
theorem SH_j (A B : AMem)  : SH (jn A B) = SH B := by
  unfold SH
  first | (simp only [jr_11, mr_11, jn_ir, MB_j, SM_j, bst_j, beg_j, WT_j]; done) | (simp only [jr_11, mr_11, jn_ir, MB_j, SM_j, bst_j, beg_j, WT_j]; rfl) | rfl
theorem sld_j (A B : AMem)  : sld (jn A B) = jn A (sld B) := by
  unfold sld
  first | (simp only [jn_ir, stl_j, lks_j]; done) | (simp only [jn_ir, stl_j, lks_j]; rfl) | rfl
theorem th_j (A B : AMem)  : th (jn A B) = jn A (th B) := by
  unfold th
  first | (simp only [jr_11, mr_11, jn_ir]; done) | (simp only [jr_11, mr_11, jn_ir]; rfl) | rfl
theorem ME_j (A B : AMem)  : ME (jn A B) = ME B := by
  unfold ME
  first | (simp only [jr_11, mr_11, jn_ir, MB_j, SM_j, WT_j]; done) | (simp only [jr_11, mr_11, jn_ir, MB_j, SM_j, WT_j]; rfl) | rfl
theorem rf_j (A B : AMem) (k : Int) (s : Int) : rf (jn A B) k s = jn A (rf B k s) := by
  unfold rf
  first | (simp only [jn_ir, nt_j]; done) | (simp only [jn_ir, nt_j]; rfl) | rfl
theorem st0_j (A B : AMem)  : st0 (jn A B) = st0 B := by
  unfold st0
  first | (simp only [jr_11, mr_11, jn_ir, wk_j]; done) | (simp only [jr_11, mr_11, jn_ir, wk_j]; rfl) | rfl
theorem mm0'_j (A B : AMem) (k : Int) : mm0' (jn A B) k = jn A (mm0' B k) := by
  unfold mm0'
  first | (simp only [jn_ir, rf_j, st0_j]; done) | (simp only [jn_ir, rf_j, st0_j]; rfl) | rfl
theorem svS_j (A B : AMem) (s2 : Int) : svS (jn A B) s2 = svS B s2 := by
  unfold svS
  first | (simp only [jn_ir, st0_j]; done) | (simp only [jn_ir, st0_j]; rfl) | rfl
theorem svM_j (A B : AMem) (k : Int) (s2 : Int) (B' : AMem) : svM (jn A B) k s2 (jn A B') = jn A (svM B k s2 B') := by
  unfold svM
  first | (simp only [jn_ir, rf_j, st0_j, mm0'_j]; done) | (simp only [jn_ir, rf_j, st0_j, mm0'_j]; rfl) | rfl
theorem act2_j (A B : AMem) (t : Int) : act2 (jn A B) t = act2 B t := by
  unfold act2
  first | (simp only [jr_14408, mr_14408, jr_98387, mr_98387, jn_ir, cq_j]; done) | (simp only [jr_14408, mr_14408, jr_98387, mr_98387, jn_ir, cq_j]; rfl) | rfl
theorem terminate2_j (A B : AMem)  : terminate2 (jn A B) = terminate2 B := by
  unfold terminate2
  first | (simp only [jr_11, mr_11, jn_ir, wk_j, hsf_j]; done) | (simp only [jr_11, mr_11, jn_ir, wk_j, hsf_j]; rfl) | rfl
theorem ltf_j (A B : AMem) (w : Int) : ∀ n, ltf (jn A B) w n = ltf B w n
  | 0 => by first | rfl | (unfold ltf; simp only [jr_65639, mr_65639, jr_66152, mr_66152, fl_65639, jn_ir]; done) | (unfold ltf; simp only [jr_65639, mr_65639, jr_66152, mr_66152, fl_65639, jn_ir]; rfl)
  | n + 1 => by
    have ih := ltf_j A B w n
    unfold ltf
    first | (simp only [jr_65639, mr_65639, jr_66152, mr_66152, fl_65639, jn_ir, ih]; done) | (simp only [jr_65639, mr_65639, jr_66152, mr_66152, fl_65639, jn_ir, ih]; rfl)
theorem lto_j (A B : AMem) (w : Int) : lto (jn A B) w = lto B w := by
  unfold lto
  first | (simp only [jn_ir, mrs_j, ltf_j]; done) | (simp only [jn_ir, mrs_j, ltf_j]; rfl) | rfl
theorem chain2_j (A B : AMem) (t : Int) : chain2 (jn A B) t = chain2 B t := by
  unfold chain2
  first | (simp only [jr_11, mr_11, jr_14408, mr_14408, jr_98387, mr_98387, jr_819297, mr_819297, jn_ir, cq_j, rn_j, wk_j, hsf_j]; done) | (simp only [jr_11, mr_11, jr_14408, mr_14408, jr_98387, mr_98387, jr_819297, mr_819297, jn_ir, cq_j, rn_j, wk_j, hsf_j]; rfl) | rfl
theorem take2_j (A B : AMem) (rr : Int) : take2 (jn A B) rr = take2 B rr := by
  unfold take2
  first | (simp only [jr_65613, mr_65613, jr_65639, mr_65639, jr_65867, mr_65867, fl_65639, jn_ir, wk_j, mrs_j, opr_j]; done) | (simp only [jr_65613, mr_65613, jr_65639, mr_65639, jr_65867, mr_65867, fl_65639, jn_ir, wk_j, mrs_j, opr_j]; rfl) | rfl
theorem give2_j (A B : AMem) (rr : Int) : give2 (jn A B) rr = give2 B rr := by
  unfold give2
  first | (simp only [jr_65867, mr_65867, jn_ir, wk_j, mrs_j, lto_j]; done) | (simp only [jr_65867, mr_65867, jn_ir, wk_j, mrs_j, lto_j]; rfl) | rfl
theorem clear2_j (A B : AMem) (mask : Int) : clear2 (jn A B) mask = clear2 B mask := by
  unfold clear2
  first | (simp only [jr_11, mr_11, jr_98388, mr_98388, jr_819297, mr_819297, jn_ir, rn_j]; done) | (simp only [jr_11, mr_11, jr_98388, mr_98388, jr_819297, mr_819297, jn_ir, rn_j]; rfl) | rfl
theorem stq_j (A B : AMem) (t : Int) : ∀ n, stq t n (jn A B) = jn A (stq t n B)
  | 0 => rfl
  | n + 1 => by
    have ih := stq_j A B t n
    unfold stq
    simp only [jr_98406, mr_98406, jr_819297, mr_819297, jr_819298, mr_819298, jr_819301, mr_819301, fl_819298, fl_98406, jn_ir, clast_j, ih]
theorem sts_j (A B : AMem) (t : Int) (mask : Int) : sts (jn A B) t mask = jn A (sts B t mask) := by
  unfold sts
  first | (simp only [jr_98388, mr_98388, jr_98406, mr_98406, fl_98406, jn_ir, stq_j]; done) | (simp only [jr_98388, mr_98388, jr_98406, mr_98406, fl_98406, jn_ir, stq_j]; rfl) | rfl
theorem ofe_j (A B : AMem) (t : Int) : ofe (jn A B) t = ofe B t := by
  unfold ofe
  first | (simp only [jr_14408, mr_14408, jr_98388, mr_98388, jn_ir, cq_j]; done) | (simp only [jr_14408, mr_14408, jr_98388, mr_98388, jn_ir, cq_j]; rfl) | rfl
theorem signal2_j (A B : AMem) (t : Int) (mask : Int) : signal2 (jn A B) t mask = signal2 B t mask := by
  unfold signal2
  first | (simp only [jr_14408, mr_14408, jr_98388, mr_98388, jn_ir, cq_j]; done) | (simp only [jr_14408, mr_14408, jr_98388, mr_98388, jn_ir, cq_j]; rfl) | rfl
theorem await2_j (A B : AMem) (mask : Int) : await2 (jn A B) mask = await2 B mask := by
  unfold await2
  first | (simp only [jr_11, mr_11, jr_98388, mr_98388, jr_819297, mr_819297, jn_ir, rn_j, hsf_j]; done) | (simp only [jr_11, mr_11, jr_98388, mr_98388, jr_819297, mr_819297, jn_ir, rn_j, hsf_j]; rfl) | rfl
theorem schD_j (A B : AMem)  : schD (jn A B) = jn A (schD B) := by
  unfold schD
  first | (simp only [jr_98385, mr_98385, jr_819297, mr_819297, jr_819299, mr_819299, jr_819561, mr_819561, fl_819561, jn_ir, rn_j, topf_j, pre_j, rns_j]; done) | (simp only [jr_98385, mr_98385, jr_819297, mr_819297, jr_819299, mr_819299, jr_819561, mr_819561, fl_819561, jn_ir, rn_j, topf_j, pre_j, rns_j]; rfl) | rfl
theorem CO_j (A B : AMem)  : CO (jn A B) = CO B := by
  unfold CO
  first | (simp only [jr_32846, mr_32846, jr_32876, mr_32876, jr_98393, mr_98393, fl_32876, jn_ir]; done) | (simp only [jr_32846, mr_32846, jr_32876, mr_32876, jr_98393, mr_98393, fl_32876, jn_ir]; rfl) | rfl
theorem schedule2_j (A B : AMem)  : schedule2 (jn A B) = schedule2 B := by
  unfold schedule2
  first | (simp only [jr_11, mr_11, jn_ir, wk_j, hsf_j]; done) | (simp only [jr_11, mr_11, jn_ir, wk_j, hsf_j]; rfl) | rfl
theorem cancel2_j (A B : AMem) (a : Int) : cancel2 (jn A B) a = cancel2 B a := by
  unfold cancel2
  first | (simp only [jr_14408, mr_14408, jr_98671, mr_98671, fl_98671, jn_ir]; done) | (simp only [jr_14408, mr_14408, jr_98671, mr_98671, fl_98671, jn_ir]; rfl) | rfl
theorem after2_j (A B : AMem) (a : Int) (ii : Int) (ev : Int) : after2 (jn A B) a ii ev = after2 B a ii ev := by
  unfold after2
  first | (simp only [jr_14408, mr_14408, jr_32846, mr_32846, jr_32848, mr_32848, jr_98393, mr_98393, jr_98671, mr_98671, fl_98671, jn_ir]; done) | (simp only [jr_14408, mr_14408, jr_32846, mr_32846, jr_32848, mr_32848, jr_98393, mr_98393, jr_98671, mr_98671, fl_98671, jn_ir]; rfl) | rfl
theorem at2_j (A B : AMem) (a : Int) (ii : Int) (ev : Int) : at2 (jn A B) a ii ev = at2 B a ii ev := by
  unfold at2
  first | (simp only [jr_14408, mr_14408, jr_32846, mr_32846, jr_32848, mr_32848, jr_98393, mr_98393, jr_98671, mr_98671, fl_98671, jn_ir]; done) | (simp only [jr_14408, mr_14408, jr_32846, mr_32846, jr_32848, mr_32848, jr_98393, mr_98393, jr_98671, mr_98671, fl_98671, jn_ir]; rfl) | rfl
theorem st1_j (A B : AMem)  : st1 (jn A B) = st1 B := by
  unfold st1
  first | (simp only [jr_11, mr_11, jn_ir, wk_j]; done) | (simp only [jr_11, mr_11, jn_ir, wk_j]; rfl) | rfl
theorem svT_j (A B : AMem) (s2 : Int) : svT (jn A B) s2 = svT B s2 := by
  unfold svT
  first | (simp only [jn_ir, st1_j]; done) | (simp only [jn_ir, st1_j]; rfl) | rfl
theorem svN_j (A B : AMem) (k : Int) (s2 : Int) (B' : AMem) : svN (jn A B) k s2 (jn A B') = jn A (svN B k s2 B') := by
  unfold svN
  first | (simp only [jn_ir, rf_j, st1_j]; done) | (simp only [jn_ir, rf_j, st1_j]; rfl) | rfl
theorem gf0_j (A B : AMem)  : gf0 (jn A B) = jn A (gf0 B) := by
  unfold gf0
  first | (simp only [jr_11, mr_11, jn_ir]; done) | (simp only [jr_11, mr_11, jn_ir]; rfl) | rfl
theorem gf1_j (A B : AMem) (j : Int) : gf1 (jn A B) j = jn A (gf1 B j) := by
  unfold gf1
  first | (simp only [jr_819298, mr_819298, jr_819561, mr_819561, fl_819298, fl_819561, jn_ir]; done) | (simp only [jr_819298, mr_819298, jr_819561, mr_819561, fl_819298, fl_819561, jn_ir]; rfl) | rfl
theorem gf2_j (A B : AMem) (j : Int) : gf2 (jn A B) j = jn A (gf2 B j) := by
  unfold gf2
  first | (simp only [jr_98406, mr_98406, jr_98671, mr_98671, fl_98406, fl_98671, jn_ir]; done) | (simp only [jr_98406, mr_98406, jr_98671, mr_98671, fl_98406, fl_98671, jn_ir]; rfl) | rfl
theorem gf3_j (A B : AMem) (j : Int) : gf3 (jn A B) j = jn A (gf3 B j) := by
  unfold gf3
  first | (simp only [jr_65639, mr_65639, fl_65639, jn_ir]; done) | (simp only [jr_65639, mr_65639, fl_65639, jn_ir]; rfl) | rfl
theorem gf4_j (A B : AMem) (j : Int) : gf4 (jn A B) j = jn A (gf4 B j) := by
  unfold gf4
  first | (simp only [jr_32875, mr_32875, jr_32878, mr_32878, jr_33130, mr_33130, fl_33130, fl_32875, fl_32878, jn_ir]; done) | (simp only [jr_32875, mr_32875, jr_32878, mr_32878, jr_33130, mr_33130, fl_33130, fl_32875, fl_32878, jn_ir]; rfl) | rfl
theorem gof_j (A B : AMem)  : gof (jn A B) = jn A (gof B) := by
  unfold gof
  first | (simp only [jn_ir, gf0_j, gf1_j, gf2_j, gf3_j, gf4_j]; done) | (simp only [jn_ir, gf0_j, gf1_j, gf2_j, gf3_j, gf4_j]; rfl) | rfl
theorem leave2_j (A B : AMem)  : leave2 (jn A B) = leave2 B := by
  unfold leave2
  first | (simp only [jr_11, mr_11, jn_ir, wk_j, hsf_j]; done) | (simp only [jr_11, mr_11, jn_ir, wk_j, hsf_j]; rfl) | rfl
theorem shut2_j (A B : AMem)  : shut2 (jn A B) = shut2 B := by
  unfold shut2
  first | (simp only [jr_11, mr_11, jn_ir]; done) | (simp only [jr_11, mr_11, jn_ir]; rfl) | rfl
theorem given2_j (A B : AMem) (t : Int) : given2 (jn A B) t = given2 B t := by
  unfold given2
  first | (simp only [jr_14408, mr_14408, jr_98388, mr_98388, jn_ir, cq_j]; done) | (simp only [jr_14408, mr_14408, jr_98388, mr_98388, jn_ir, cq_j]; rfl) | rfl
theorem spt_j (A B : AMem) (a : Int) : spt (jn A B) a = spt B a := by
  unfold spt
  first | (simp only [jr_32846, mr_32846, jr_32876, mr_32876, jr_98393, mr_98393, jr_98416, mr_98416, fl_32876, jn_ir]; done) | (simp only [jr_32846, mr_32846, jr_32876, mr_32876, jr_98393, mr_98393, jr_98416, mr_98416, fl_32876, jn_ir]; rfl) | rfl
theorem AL_j (A B : AMem) (a : Int) : AL (jn A B) a = AL B a := by
  unfold AL
  first | (simp only [jr_32846, mr_32846, jr_32876, mr_32876, jr_98393, mr_98393, jr_98416, mr_98416, fl_32876, jn_ir]; done) | (simp only [jr_32846, mr_32846, jr_32876, mr_32876, jr_98393, mr_98393, jr_98416, mr_98416, fl_32876, jn_ir]; rfl) | rfl
theorem atw_j (A B : AMem)  : atw (jn A B) = atw B := by
  unfold atw
  first | (simp only [jr_819297, mr_819297, jn_ir, wk_j]; done) | (simp only [jr_819297, mr_819297, jn_ir, wk_j]; rfl) | rfl
theorem thx_j (A B : AMem) (c : Prop) [Decidable c] : thx c (jn A B) = jn A (thx c B) := by
  unfold thx
  first | (simp only [jr_11, mr_11, jn_ir]; done) | (simp only [jr_11, mr_11, jn_ir]; rfl) | rfl
theorem rbf_j (A B : AMem) (t : Int) : ∀ n, rbf (jn A B) t n = rbf B t n
  | 0 => by first | rfl | (unfold rbf; simp only [jr_819297, mr_819297, jr_819298, mr_819298, jr_819299, mr_819299, jr_819812, mr_819812, fl_819298, jn_ir]; done) | (unfold rbf; simp only [jr_819297, mr_819297, jr_819298, mr_819298, jr_819299, mr_819299, jr_819812, mr_819812, fl_819298, jn_ir]; rfl)
  | n + 1 => by
    have ih := rbf_j A B t n
    unfold rbf
    first | (simp only [jr_819297, mr_819297, jr_819298, mr_819298, jr_819299, mr_819299, jr_819812, mr_819812, fl_819298, jn_ir, ih]; done) | (simp only [jr_819297, mr_819297, jr_819298, mr_819298, jr_819299, mr_819299, jr_819812, mr_819812, fl_819298, jn_ir, ih]; rfl)
theorem rqx_j (A B : AMem) (t : Int) : rqx (jn A B) t = rqx B t := by
  unfold rqx
  first | (simp only [jr_819297, mr_819297, jr_819298, mr_819298, fl_819298, jn_ir]; done) | (simp only [jr_819297, mr_819297, jr_819298, mr_819298, fl_819298, jn_ir]; rfl) | rfl
theorem rqo_j (A B : AMem) (t : Int) : rqo (jn A B) t = rqo B t := by
  unfold rqo
  first | (simp only [jn_ir, rbf_j, rqx_j]; done) | (simp only [jn_ir, rbf_j, rqx_j]; rfl) | rfl
theorem mhf_j (A B : AMem) (q : Int) : ∀ n, mhf (jn A B) q n = mhf B q n
  | 0 => by first | rfl | (unfold mhf; simp only [jr_65639, mr_65639, jr_819561, mr_819561, fl_819561, fl_65639, jn_ir]; done) | (unfold mhf; simp only [jr_65639, mr_65639, jr_819561, mr_819561, fl_819561, fl_65639, jn_ir]; rfl)
  | n + 1 => by
    have ih := mhf_j A B q n
    unfold mhf
    first | (simp only [jr_65639, mr_65639, jr_819561, mr_819561, fl_819561, fl_65639, jn_ir, ih]; done) | (simp only [jr_65639, mr_65639, jr_819561, mr_819561, fl_819561, fl_65639, jn_ir, ih]; rfl)
theorem tskR_j (A B : AMem) (t : Int) (w : Int) : tskR (jn A B) t w = tskR B t w := by
  unfold tskR
  first | (simp only [jr_98385, mr_98385, jr_98387, mr_98387, jr_98642, mr_98642, jr_819298, mr_819298, fl_819298, jn_ir, cq_j, mrs_j, cpr_j, rqo_j, mhf_j]; done) | (simp only [jr_98385, mr_98385, jr_98387, mr_98387, jr_98642, mr_98642, jr_819298, mr_819298, fl_819298, jn_ir, cq_j, mrs_j, cpr_j, rqo_j, mhf_j]; rfl) | rfl
theorem btR_j (A B : AMem) (t : Int) (w : Int) : btR (jn A B) t w = btR B t w := by
  unfold btR
  first | (simp only [jr_98388, mr_98388, jr_98406, mr_98406, jr_819298, mr_819298, jr_819301, mr_819301, fl_819298, fl_98406, jn_ir, rqo_j]; done) | (simp only [jr_98388, mr_98388, jr_98406, mr_98406, jr_819298, mr_819298, jr_819301, mr_819301, fl_819298, fl_98406, jn_ir, rqo_j]; rfl) | rfl
theorem hif_j (A B : AMem) (rr : Int) : ∀ n, hif (jn A B) rr n = hif B rr n
  | 0 => by first | rfl | (unfold hif; simp only [jr_819297, mr_819297, jr_819298, mr_819298, jr_819561, mr_819561, fl_819298, fl_819561, jn_ir, inn_j]; done) | (unfold hif; simp only [jr_819297, mr_819297, jr_819298, mr_819298, jr_819561, mr_819561, fl_819298, fl_819561, jn_ir, inn_j]; rfl)
  | n + 1 => by
    have ih := hif_j A B rr n
    unfold hif
    first | (simp only [jr_819297, mr_819297, jr_819298, mr_819298, jr_819561, mr_819561, fl_819298, fl_819561, jn_ir, inn_j, ih]; done) | (simp only [jr_819297, mr_819297, jr_819298, mr_819298, jr_819561, mr_819561, fl_819298, fl_819561, jn_ir, inn_j, ih]; rfl)
theorem hvo_j (A B : AMem) (rr : Int) : hvo (jn A B) rr = hvo B rr := by
  unfold hvo
  first | (simp only [jr_65639, mr_65639, jr_65867, mr_65867, jr_819297, mr_819297, fl_65639, jn_ir, hif_j]; done) | (simp only [jr_65639, mr_65639, jr_65867, mr_65867, jr_819297, mr_819297, fl_65639, jn_ir, hif_j]; rfl) | rfl
theorem nrq_j (A B : AMem)  : ∀ n, nrq (jn A B) n = nrq B n
  | 0 => by first | rfl | (unfold nrq; simp only [jr_819298, mr_819298, fl_819298, jn_ir]; done) | (unfold nrq; simp only [jr_819298, mr_819298, fl_819298, jn_ir]; rfl)
  | n + 1 => by
    have ih := nrq_j A B  n
    unfold nrq
    first | (simp only [jr_819298, mr_819298, fl_819298, jn_ir, ih]; done) | (simp only [jr_819298, mr_819298, fl_819298, jn_ir, ih]; rfl)
theorem calS_j (A B : AMem) (i : Int) : calS (jn A B) i = calS B i := by
  unfold calS
  first | (simp only [jr_11, mr_11, jr_14408, mr_14408, jr_33130, mr_33130, fl_33130, jn_ir]; done) | (simp only [jr_11, mr_11, jr_14408, mr_14408, jr_33130, mr_33130, fl_33130, jn_ir]; rfl) | rfl
theorem calM_j (A B : AMem) (i : Int) : calM (jn A B) i = jn A (calM B i) := by
  unfold calM
  first | (simp only [jr_33130, mr_33130, fl_33130, jn_ir, calS_j]; done) | (simp only [jr_33130, mr_33130, fl_33130, jn_ir, calS_j]; rfl) | rfl
theorem rmA_j (A B : AMem) (a : Int) : rmA (jn A B) a = jn A (rmA B a) := by
  unfold rmA
  first | (simp only [jr_98387, mr_98387, jr_98394, mr_98394, jr_98395, mr_98395, jr_98396, mr_98396, jn_ir, cq_j, nt_j, rqs_j, sts_j]; done) | (simp only [jr_98387, mr_98387, jr_98394, mr_98394, jr_98395, mr_98395, jr_98396, mr_98396, jn_ir, cq_j, nt_j, rqs_j, sts_j]; rfl) | rfl
theorem rmE_j (A B : AMem) (a : Int) : rmE (jn A B) a = jn A (rmE B a) := by
  unfold rmE
  first | (simp only [jr_32846, mr_32846, jr_32876, mr_32876, jr_98393, mr_98393, jr_98416, mr_98416, jr_98417, mr_98417, jr_98671, mr_98671, fl_98671, fl_32876, jn_ir]; done) | (simp only [jr_32846, mr_32846, jr_32876, mr_32876, jr_98393, mr_98393, jr_98416, mr_98416, jr_98417, mr_98417, jr_98671, mr_98671, fl_98671, fl_32876, jn_ir]; rfl) | rfl
theorem rme_j (A B : AMem) (a : Int) : rme (jn A B) a = jn A (rme B a) := by
  unfold rme
  first | (simp only [jn_ir, nt_j, rmA_j, rmE_j]; done) | (simp only [jn_ir, nt_j, rmA_j, rmE_j]; rfl) | rfl
theorem RM_j (A B : AMem) (a : Int) : RM (jn A B) a = RM B a := by
  unfold RM
  first | (simp only [jr_11, mr_11, jr_32846, mr_32846, jr_32876, mr_32876, jr_98393, mr_98393, jr_98394, mr_98394, jr_98395, mr_98395, jr_98417, mr_98417, fl_32876, jn_ir, fq_j, SM_j, WT_j]; done) | (simp only [jr_11, mr_11, jr_32846, mr_32846, jr_32876, mr_32876, jr_98393, mr_98393, jr_98394, mr_98394, jr_98395, mr_98395, jr_98417, mr_98417, fl_32876, jn_ir, fq_j, SM_j, WT_j]; rfl) | rfl
theorem rmm_j (A B : AMem) (c : Int) : ∀ n, rmm (jn A B) c n = jn A (rmm B c n)
  | 0 => by first | rfl | (unfold rmm; simp only [jr_32876, mr_32876, jr_98393, mr_98393, jr_98416, mr_98416, jr_98671, mr_98671, fl_98671, fl_32876, jn_ir, rme_j]; done) | (unfold rmm; simp only [jr_32876, mr_32876, jr_98393, mr_98393, jr_98416, mr_98416, jr_98671, mr_98671, fl_98671, fl_32876, jn_ir, rme_j]; rfl)
  | n + 1 => by
    have ih := rmm_j A B c n
    unfold rmm
    first | (simp only [jr_32876, mr_32876, jr_98393, mr_98393, jr_98416, mr_98416, jr_98671, mr_98671, fl_98671, fl_32876, jn_ir, rme_j, ih]; done) | (simp only [jr_32876, mr_32876, jr_98393, mr_98393, jr_98416, mr_98416, jr_98671, mr_98671, fl_98671, fl_32876, jn_ir, rme_j, ih]; rfl)
theorem rmn_j (A B : AMem) (c : Int) : ∀ n, rmn (jn A B) c n = rmn B c n
  | 0 => by first | rfl | (unfold rmn; simp only [jr_32876, mr_32876, jr_98393, mr_98393, jr_98416, mr_98416, jr_98671, mr_98671, fl_98671, fl_32876, jn_ir, rmm_j]; done) | (unfold rmn; simp only [jr_32876, mr_32876, jr_98393, mr_98393, jr_98416, mr_98416, jr_98671, mr_98671, fl_98671, fl_32876, jn_ir, rmm_j]; rfl)
  | n + 1 => by
    have ih := rmn_j A B c n
    unfold rmn
    first | (simp only [jr_32876, mr_32876, jr_98393, mr_98393, jr_98416, mr_98416, jr_98671, mr_98671, fl_98671, fl_32876, jn_ir, rmm_j, ih]; done) | (simp only [jr_32876, mr_32876, jr_98393, mr_98393, jr_98416, mr_98416, jr_98671, mr_98671, fl_98671, fl_32876, jn_ir, rmm_j, ih]; rfl)
theorem rt0_j (A B : AMem) (c : Int) : rt0 (jn A B) c = jn A (rt0 B c) := by
  unfold rt0
  first | (simp only [jr_32877, mr_32877, fl_32877, jn_ir]; done) | (simp only [jr_32877, mr_32877, fl_32877, jn_ir]; rfl) | rfl
theorem rtv_j (A B : AMem) (c : Int) : rtv (jn A B) c = jn A (rtv B c) := by
  unfold rtv
  first | (simp only [jr_32846, mr_32846, jr_32876, mr_32876, jr_32877, mr_32877, fl_32876, fl_32877, jn_ir, rt0_j]; done) | (simp only [jr_32846, mr_32846, jr_32876, mr_32876, jr_32877, mr_32877, fl_32876, fl_32877, jn_ir, rt0_j]; rfl) | rfl
theorem rt1_j (A B : AMem) (c : Int) : rt1 (jn A B) c = jn A (rt1 B c) := by
  unfold rt1
  first | (simp only [jr_14408, mr_14408, jr_32847, mr_32847, jr_32877, mr_32877, fl_32877, jn_ir, rmm_j, rt0_j, rtv_j]; done) | (simp only [jr_14408, mr_14408, jr_32847, mr_32847, jr_32877, mr_32877, fl_32877, jn_ir, rmm_j, rt0_j, rtv_j]; rfl) | rfl
theorem rt1n_j (A B : AMem) (c : Int) : rt1n (jn A B) c = rt1n B c := by
  unfold rt1n
  first | (simp only [jr_14408, mr_14408, jr_32847, mr_32847, jr_32877, mr_32877, fl_32877, jn_ir, rmn_j, rtv_j]; done) | (simp only [jr_14408, mr_14408, jr_32847, mr_32847, jr_32877, mr_32877, fl_32877, jn_ir, rmn_j, rtv_j]; rfl) | rfl
theorem rtk_j (A B : AMem) (c : Int) : rtk (jn A B) c = jn A (rtk B c) := by
  unfold rtk
  first | (simp only [jn_ir, stl_j, rt1_j]; done) | (simp only [jn_ir, stl_j, rt1_j]; rfl) | rfl
theorem STL_j (A B : AMem)  : STL (jn A B) = STL B := by
  unfold STL
  first | (simp only [jr_11, mr_11, jn_ir, MB_j, SM_j, bst_j, beg_j, WT_j]; done) | (simp only [jr_11, mr_11, jn_ir, MB_j, SM_j, bst_j, beg_j, WT_j]; rfl) | rfl
theorem RT_j (A B : AMem) (c : Int) : RT (jn A B) c = RT B c := by
  unfold RT
  first | (simp only [jr_14408, mr_14408, jr_32846, mr_32846, jr_32876, mr_32876, jr_32877, mr_32877, fl_32876, fl_32877, jn_ir, RM_j, rmm_j, rtv_j, rt1_j, STL_j]; done) | (simp only [jr_14408, mr_14408, jr_32846, mr_32846, jr_32876, mr_32876, jr_32877, mr_32877, fl_32876, fl_32877, jn_ir, RM_j, rmm_j, rtv_j, rt1_j, STL_j]; rfl) | rfl
theorem rts_j (A B : AMem) (c : Int) : ∀ n, rts (jn A B) c n = jn A (rts B c n)
  | 0 => by first | rfl | (unfold rts; simp only [jn_ir, rtk_j]; done) | (unfold rts; simp only [jn_ir, rtk_j]; rfl)
  | n + 1 => by
    have ih := rts_j A B c n
    unfold rts
    first | (simp only [jn_ir, rtk_j, ih]; done) | (simp only [jn_ir, rtk_j, ih]; rfl)
theorem rtn_j (A B : AMem) (c : Int) : ∀ n, rtn (jn A B) c n = rtn B c n
  | 0 => by first | rfl | (unfold rtn; simp only [jn_ir, rt1n_j, rts_j]; done) | (unfold rtn; simp only [jn_ir, rt1n_j, rts_j]; rfl)
  | n + 1 => by
    have ih := rtn_j A B c n
    unfold rtn
    first | (simp only [jn_ir, rt1n_j, rts_j, ih]; done) | (simp only [jn_ir, rt1n_j, rts_j, ih]; rfl)
theorem rok_j (A B : AMem) (c : Int) (n : Int) : rok (jn A B) c n = rok B c n := by
  unfold rok
  first | (simp only [jr_11, mr_11, jr_14408, mr_14408, jn_ir]; done) | (simp only [jr_11, mr_11, jr_14408, mr_14408, jn_ir]; rfl) | rfl
theorem rtw_j (A B : AMem) (c : Int) (n : Int) : rtw (jn A B) c n = jn A (rtw B c n) := by
  unfold rtw
  first | (simp only [jr_11, mr_11, jr_32878, mr_32878, fl_32878, jn_ir, lks_j, rts_j]; done) | (simp only [jr_11, mr_11, jr_32878, mr_32878, fl_32878, jn_ir, lks_j, rts_j]; rfl) | rfl
theorem rtwS_j (A B : AMem) (c : Int) (n : Int) : rtwS (jn A B) c n = rtwS B c n := by
  unfold rtwS
  first | (simp only [jr_11, mr_11, jn_ir, rtn_j]; done) | (simp only [jr_11, mr_11, jn_ir, rtn_j]; rfl) | rfl
theorem rwn_j (A B : AMem) (c : Int) : ∀ n, rwn (jn A B) c n = jn A (rwn B c n)
  | 0 => by first | rfl | (unfold rwn; simp only [jr_32878, mr_32878, fl_32878, jn_ir, rtk_j]; done) | (unfold rwn; simp only [jr_32878, mr_32878, fl_32878, jn_ir, rtk_j]; rfl)
  | n + 1 => by
    have ih := rwn_j A B c n
    unfold rwn
    first | (simp only [jr_32878, mr_32878, fl_32878, jn_ir, rtk_j, ih]; done) | (simp only [jr_32878, mr_32878, fl_32878, jn_ir, rtk_j, ih]; rfl)
theorem row_j (A B : AMem)  : ∀ n, row (jn A B) n = jn A (row B n)
  | 0 => by first | rfl | (unfold row; simp only [jr_32878, mr_32878, fl_32878, jn_ir, rwn_j]; done) | (unfold row; simp only [jr_32878, mr_32878, fl_32878, jn_ir, rwn_j]; rfl)
  | n + 1 => by
    have ih := row_j A B  n
    unfold row
    first | (simp only [jr_32878, mr_32878, fl_32878, jn_ir, rwn_j, ih]; done) | (simp only [jr_32878, mr_32878, fl_32878, jn_ir, rwn_j, ih]; rfl)
theorem opD_j (A B : AMem)  : opD (jn A B) = jn A (opD B) := by
  unfold opD
  first | (simp only [jr_11, mr_11, jr_14408, mr_14408, jn_ir, row_j]; done) | (simp only [jr_11, mr_11, jr_14408, mr_14408, jn_ir, row_j]; rfl) | rfl
theorem op2_j (A B : AMem)  : op2 (jn A B) = op2 B := by
  unfold op2
  first | (simp only [jr_11, mr_11, jn_ir]; done) | (simp only [jr_11, mr_11, jn_ir]; rfl) | rfl
theorem RW_j (A B : AMem) (k : Int) : RW (jn A B) k = RW B k := by
  unfold RW
  first | (simp only [jr_14408, mr_14408, jr_32878, mr_32878, fl_32878, jn_ir, RT_j, rwn_j, row_j]; done) | (simp only [jr_14408, mr_14408, jr_32878, mr_32878, fl_32878, jn_ir, RT_j, rwn_j, row_j]; rfl) | rfl
theorem rz_j (A B : AMem) (j : Int) : rz (jn A B) j = jn A (rz B j) := by
  unfold rz
  first | (simp only [jr_32876, mr_32876, jr_32877, mr_32877, fl_32876, fl_32877, jn_ir]; done) | (simp only [jr_32876, mr_32876, jr_32877, mr_32877, fl_32876, fl_32877, jn_ir]; rfl) | rfl
theorem rs1_j (A B : AMem) (m : Int) : rs1 (jn A B) m = jn A (rs1 B m) := by
  unfold rs1
  first | (simp only [jr_11, mr_11, jn_ir, nt_j, rz_j]; done) | (simp only [jr_11, mr_11, jn_ir, nt_j, rz_j]; rfl) | rfl
theorem rs4_j (A B : AMem) (m : Int) : ∀ n, rs4 (jn A B) m n = jn A (rs4 B m n)
  | 0 => by first | rfl | (unfold rs4; simp only [jr_98389, mr_98389, jn_ir, rqs_j]; done) | (unfold rs4; simp only [jr_98389, mr_98389, jn_ir, rqs_j]; rfl)
  | n + 1 => by
    have ih := rs4_j A B m n
    unfold rs4
    first | (simp only [jr_98389, mr_98389, jn_ir, rqs_j, ih]; done) | (simp only [jr_98389, mr_98389, jn_ir, rqs_j, ih]; rfl)
theorem rs6_j (A B : AMem) (m : Int) : ∀ n, rs6 (jn A B) m n = jn A (rs6 B m n)
  | 0 => by first | rfl | (unfold rs6; simp only [jr_32846, mr_32846, jr_32876, mr_32876, jr_98393, mr_98393, jr_98397, mr_98397, jr_98398, mr_98398, jr_98399, mr_98399, jr_98416, mr_98416, jr_98417, mr_98417, jr_98671, mr_98671, fl_98671, fl_32876, jn_ir]; done) | (unfold rs6; simp only [jr_32846, mr_32846, jr_32876, mr_32876, jr_98393, mr_98393, jr_98397, mr_98397, jr_98398, mr_98398, jr_98399, mr_98399, jr_98416, mr_98416, jr_98417, mr_98417, jr_98671, mr_98671, fl_98671, fl_32876, jn_ir]; rfl)
  | n + 1 => by
    have ih := rs6_j A B m n
    unfold rs6
    first | (simp only [jr_32846, mr_32846, jr_32876, mr_32876, jr_98393, mr_98393, jr_98397, mr_98397, jr_98398, mr_98398, jr_98399, mr_98399, jr_98416, mr_98416, jr_98417, mr_98417, jr_98671, mr_98671, fl_98671, fl_32876, jn_ir, ih]; done) | (simp only [jr_32846, mr_32846, jr_32876, mr_32876, jr_98393, mr_98393, jr_98397, mr_98397, jr_98398, mr_98398, jr_98399, mr_98399, jr_98416, mr_98416, jr_98417, mr_98417, jr_98671, mr_98671, fl_98671, fl_32876, jn_ir, ih]; rfl)
theorem stS_j (A B : AMem) (m : Int) : stS (jn A B) m = stS B m := by
  unfold stS
  first | (simp only [jr_11, mr_11, jr_14408, mr_14408, jn_ir]; done) | (simp only [jr_11, mr_11, jr_14408, mr_14408, jn_ir]; rfl) | rfl
theorem rs5_j (A B : AMem) (m : Int) : rs5 (jn A B) m = jn A (rs5 B m) := by
  unfold rs5
  first | (simp only [jr_14408, mr_14408, jn_ir, rs1_j, rs4_j]; done) | (simp only [jr_14408, mr_14408, jn_ir, rs1_j, rs4_j]; rfl) | rfl
theorem rs7_j (A B : AMem) (m : Int) : rs7 (jn A B) m = jn A (rs7 B m) := by
  unfold rs7
  first | (simp only [jr_14408, mr_14408, jn_ir, rs6_j, rs5_j]; done) | (simp only [jr_14408, mr_14408, jn_ir, rs6_j, rs5_j]; rfl) | rfl
theorem RS_j (A B : AMem) (m : Int) : RS (jn A B) m = RS B m := by
  unfold RS
  first | (simp only [jr_14408, mr_14408, jr_32846, mr_32846, jr_32876, mr_32876, jr_98389, mr_98389, jr_98393, mr_98393, jr_98397, mr_98397, jr_98398, mr_98398, fl_32876, jn_ir, fq_j, SM_j, SH_j, rs1_j, rs4_j, rs6_j, rs5_j, rs7_j]; done) | (simp only [jr_14408, mr_14408, jr_32846, mr_32846, jr_32876, mr_32876, jr_98389, mr_98389, jr_98393, mr_98393, jr_98397, mr_98397, jr_98398, mr_98398, fl_32876, jn_ir, fq_j, SM_j, SH_j, rs1_j, rs4_j, rs6_j, rs5_j, rs7_j]; rfl) | rfl
theorem rwp_j (A B : AMem) (p : Int) (q : Nat) (o : Nat) : rwp (jn A B) p q o = rwp B p q o := by
  unfold rwp
  first | (simp only [jr_819298, mr_819298, jr_819299, mr_819299, jr_819812, mr_819812, fl_819298, jn_ir]; done) | (simp only [jr_819298, mr_819298, jr_819299, mr_819299, jr_819812, mr_819812, fl_819298, jn_ir]; rfl) | rfl
theorem rra_j (A B : AMem) (p : Int) (q : Nat) : rra (jn A B) p q = rra B p q := by
  unfold rra
  first | (simp only [jn_ir, rwp_j]; done) | (simp only [jn_ir, rwp_j]; rfl) | rfl
theorem rrw_j (A B : AMem) (p : Int) (i : Int) : rrw (jn A B) p i = rrw B p i := by
  unfold rrw
  first | (simp only [jr_819298, mr_819298, jr_819299, mr_819299, fl_819298, jn_ir, rra_j]; done) | (simp only [jr_819298, mr_819298, jr_819299, mr_819299, fl_819298, jn_ir, rra_j]; rfl) | rfl
theorem nmc_j (A B : AMem) (s : Int) (i : Int) (k : Int) (b : Nat) : nmc (jn A B) s i k b = nmc B s i k b := by
  unfold nmc
  first | (simp only [jr_917577, mr_917577, jr_917578, mr_917578, jr_8193095, mr_8193095, jn_ir]; done) | (simp only [jr_917577, mr_917577, jr_917578, mr_917578, jr_8193095, mr_8193095, jn_ir]; rfl) | rfl
theorem nmv_j (A B : AMem) (s : Int) (i : Int) (k : Int) : ∀ n, nmv (jn A B) s i k n = nmv B s i k n
  | 0 => by first | rfl | (unfold nmv; simp only [jn_ir, nmc_j]; done) | (unfold nmv; simp only [jn_ir, nmc_j]; rfl)
  | n + 1 => by
    have ih := nmv_j A B s i k n
    unfold nmv
    first | (simp only [jn_ir, nmc_j, ih]; done) | (simp only [jn_ir, nmc_j, ih]; rfl)
theorem nmk_j (A B : AMem) (s : Int) (i : Int) (k : Int) : nmk (jn A B) s i k = nmk B s i k := by
  unfold nmk
  first | (simp only [jr_14408, mr_14408, jn_ir]; done) | (simp only [jr_14408, mr_14408, jn_ir]; rfl) | rfl
theorem fdm_j (A B : AMem) (a : Int) (b : Int) (c : Int) (d : Int) (e : Int) : ∀ n, fdm (jn A B) a b c d e n = jn A (fdm B a b c d e n)
  | 0 => by first | rfl | (unfold fdm; simp only [jr_11, mr_11, jr_8193084, mr_8193084, jn_ir]; done) | (unfold fdm; simp only [jr_11, mr_11, jr_8193084, mr_8193084, jn_ir]; rfl)
  | n + 1 => by
    have ih := fdm_j A B a b c d e n
    unfold fdm
    first | (simp only [jr_11, mr_11, jr_8193084, mr_8193084, jn_ir, ih]; done) | (simp only [jr_11, mr_11, jr_8193084, mr_8193084, jn_ir, ih]; rfl)
theorem left2_j (A B : AMem) (a : Int) : left2 (jn A B) a = left2 B a := by
  unfold left2
  first | (simp only [jr_14408, mr_14408, jr_98671, mr_98671, fl_98671, jn_ir]; done) | (simp only [jr_14408, mr_14408, jr_98671, mr_98671, fl_98671, jn_ir]; rfl) | rfl
