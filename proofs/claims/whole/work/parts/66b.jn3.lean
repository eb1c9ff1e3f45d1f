/-! ===== two memories: the class (by program) ===== -/
theorem CB_j (A B : AMem)  : CB (jn A B) = CB A := by
  unfold CB
  first | (simp only [jc_1, mc_1, jc_2, mc_2, jc_3, mc_3, jc_4, mc_4, jc_5, mc_5, jc_6, mc_6, jc_7, mc_7, jc_8, mc_8, jc_9, mc_9, jc_14370, mc_14370, jc_32815, mc_32815, jc_65587, mc_65587, jc_786482, mc_786482, jn_ic]; done) | (simp only [jc_1, mc_1, jc_2, mc_2, jc_3, mc_3, jc_4, mc_4, jc_5, mc_5, jc_6, mc_6, jc_7, mc_7, jc_8, mc_8, jc_9, mc_9, jc_14370, mc_14370, jc_32815, mc_32815, jc_65587, mc_65587, jc_786482, mc_786482, jn_ic]; rfl) | rfl
theorem wrst_j (A B : AMem) (w : Int) : wrst (jn A B) w = jn (wrst A w) B := by
  unfold wrst
  first | (simp only [jc_7, mc_7, jc_8, mc_8, jc_9, mc_9, jc_10, mc_10, jn_ic]; done) | (simp only [jc_7, mc_7, jc_8, mc_8, jc_9, mc_9, jc_10, mc_10, jn_ic]; rfl) | rfl
theorem czr_j (A B : AMem) (c : Int) : czr (jn A B) c = jn (czr A c) B := by
  unfold czr
  first | (simp only [jc_3, mc_3, jc_4, mc_4, jc_9, mc_9, jn_ic]; done) | (simp only [jc_3, mc_3, jc_4, mc_4, jc_9, mc_9, jn_ic]; rfl) | rfl
theorem cvb_j (A B : AMem) (c : Int) (k : Int) : cvb (jn A B) c k = cvb A c k := by
  unfold cvb
  first | (simp only [jc_1, mc_1, jc_3, mc_3, jc_9, mc_9, jn_ic]; done) | (simp only [jc_1, mc_1, jc_3, mc_3, jc_9, mc_9, jn_ic]; rfl) | rfl
theorem CV_j (A B : AMem) (c : Int) : CV (jn A B) c = CV A c := by
  unfold CV
  first | (simp only [jc_3, mc_3, jc_9, mc_9, jn_ic]; done) | (simp only [jc_3, mc_3, jc_9, mc_9, jn_ic]; rfl) | rfl
theorem cad_j (A B : AMem) (c : Int) : cad (jn A B) c = jn (cad A c) B := by
  unfold cad
  first | (simp only [jc_1, mc_1, jc_3, mc_3, jc_4, mc_4, jc_9, mc_9, jn_ic, cvb_j]; done) | (simp only [jc_1, mc_1, jc_3, mc_3, jc_4, mc_4, jc_9, mc_9, jn_ic, cvb_j]; rfl) | rfl
theorem cst_j (A B : AMem) (c : Int) (d : Int) : cst (jn A B) c d = cst A c d := by
  unfold cst
  first | (simp only [jc_1, mc_1, jc_3, mc_3, jc_9, mc_9, jn_ic]; done) | (simp only [jc_1, mc_1, jc_3, mc_3, jc_9, mc_9, jn_ic]; rfl) | rfl
theorem aus_j (A B : AMem) (a : Int) (d : Int) (e : Int) : aus (jn A B) a d e = jn (aus A a d e) B := by
  unfold aus
  first | (simp only [jc_1, mc_1, jc_6, mc_6, jc_7, mc_7, jc_8, mc_8, jc_10, mc_10, jn_ic]; done) | (simp only [jc_1, mc_1, jc_6, mc_6, jc_7, mc_7, jc_8, mc_8, jc_10, mc_10, jn_ic]; rfl) | rfl
theorem ktr_j (A B : AMem)  : ktr (jn A B) = ktr A := by
  unfold ktr
  first | (simp only [jc_1, mc_1, jc_2, mc_2, jc_7, mc_7, jc_786481, mc_786481, jn_ic]; done) | (simp only [jc_1, mc_1, jc_2, mc_2, jc_7, mc_7, jc_786481, mc_786481, jn_ic]; rfl) | rfl
theorem knt_j (A B : AMem) (v : Int) : knt (jn A B) v = jn (knt A v) B := by
  unfold knt
  first | (simp only [jc_1, mc_1, jc_6, mc_6, jc_9, mc_9, jc_1024048, mc_1024048, jn_ic]; done) | (simp only [jc_1, mc_1, jc_6, mc_6, jc_9, mc_9, jc_1024048, mc_1024048, jn_ic]; rfl) | rfl
theorem kfn_j (A B : AMem)  : kfn (jn A B) = jn (kfn A) B := by
  unfold kfn
  first | (simp only [jc_6, mc_6, jc_9, mc_9, jc_10, mc_10, jn_ic]; done) | (simp only [jc_6, mc_6, jc_9, mc_9, jc_10, mc_10, jn_ic]; rfl) | rfl
theorem klb_j (A B : AMem)  : klb (jn A B) = klb A := by
  unfold klb
  first | (simp only [jc_1, mc_1, jc_6, mc_6, jc_7, mc_7, jc_32815, mc_32815, jn_ic]; done) | (simp only [jc_1, mc_1, jc_6, mc_6, jc_7, mc_7, jc_32815, mc_32815, jn_ic]; rfl) | rfl
theorem kw_j (A B : AMem)  : kw (jn A B) = kw A := by
  unfold kw
  first | (simp only [jc_1, mc_1, jc_5, mc_5, jc_6, mc_6, jc_7, mc_7, jc_32815, mc_32815, jn_ic]; done) | (simp only [jc_1, mc_1, jc_5, mc_5, jc_6, mc_6, jc_7, mc_7, jc_32815, mc_32815, jn_ic]; rfl) | rfl
theorem kid_j (A B : AMem)  : kid (jn A B) = kid A := by
  unfold kid
  first | (simp only [jc_1, mc_1, jc_2, mc_2, jc_5, mc_5, jc_6, mc_6, jc_7, mc_7, jn_ic]; done) | (simp only [jc_1, mc_1, jc_2, mc_2, jc_5, mc_5, jc_6, mc_6, jc_7, mc_7, jn_ic]; rfl) | rfl
theorem ken_j (A B : AMem)  : ken (jn A B) = ken A := by
  unfold ken
  first | (simp only [jc_4, mc_4, jc_6, mc_6, jc_9, mc_9, jc_10, mc_10, jn_ic, kid_j]; done) | (simp only [jc_4, mc_4, jc_6, mc_6, jc_9, mc_9, jc_10, mc_10, jn_ic, kid_j]; rfl) | rfl
theorem kte_j (A B : AMem)  : kte (jn A B) = kte A := by
  unfold kte
  first | (simp only [jc_2, mc_2, jc_6, mc_6, jc_7, mc_7, jn_ic, ken_j]; done) | (simp only [jc_2, mc_2, jc_6, mc_6, jc_7, mc_7, jn_ic, ken_j]; rfl) | rfl
theorem kfe_j (A B : AMem)  : kfe (jn A B) = kfe A := by
  unfold kfe
  first | (simp only [jc_6, mc_6, jc_8, mc_8, jn_ic, kw_j, kte_j]; done) | (simp only [jc_6, mc_6, jc_8, mc_8, jn_ic, kw_j, kte_j]; rfl) | rfl
theorem kxe_j (A B : AMem)  : kxe (jn A B) = kxe A := by
  unfold kxe
  first | (simp only [jc_1, mc_1, jc_3, mc_3, jc_8, mc_8, jn_ic, kw_j, kte_j]; done) | (simp only [jc_1, mc_1, jc_3, mc_3, jc_8, mc_8, jn_ic, kw_j, kte_j]; rfl) | rfl
theorem kee_j (A B : AMem) (t : Int) : kee (jn A B) t = kee A t := by
  unfold kee
  first | (simp only [jc_1, mc_1, jc_3, mc_3, jc_4, mc_4, jc_7, mc_7, jc_8, mc_8, jc_14370, mc_14370, jn_ic, ken_j]; done) | (simp only [jc_1, mc_1, jc_3, mc_3, jc_4, mc_4, jc_7, mc_7, jc_8, mc_8, jc_14370, mc_14370, jn_ic, ken_j]; rfl) | rfl
theorem kso_j (A B : AMem) (t : Int) : kso (jn A B) t = kso A t := by
  unfold kso
  first | (simp only [jc_1, mc_1, jc_2, mc_2, jc_3, mc_3, jc_5, mc_5, jc_6, mc_6, jc_7, mc_7, jc_8, mc_8, jn_ic]; done) | (simp only [jc_1, mc_1, jc_2, mc_2, jc_3, mc_3, jc_5, mc_5, jc_6, mc_6, jc_7, mc_7, jc_8, mc_8, jn_ic]; rfl) | rfl
theorem khf_j (A B : AMem) (w : Int) (rr : Int) : khf (jn A B) w rr = khf A w rr := by
  unfold khf
  first | (simp only [jc_8, mc_8, jc_65587, mc_65587, jn_ic]; done) | (simp only [jc_8, mc_8, jc_65587, mc_65587, jn_ic]; rfl) | rfl
theorem khr_j (A B : AMem) (w : Int) (rr : Int) : khr (jn A B) w rr = khr A w rr := by
  unfold khr
  first | (simp only [jc_1, mc_1, jc_6, mc_6, jc_8, mc_8, jn_ic, khf_j]; done) | (simp only [jc_1, mc_1, jc_6, mc_6, jc_8, mc_8, jn_ic, khf_j]; rfl) | rfl
theorem kcf_j (A B : AMem) (w : Int) : ∀ n, kcf (jn A B) w n = kcf A w n
  | 0 => by first | rfl | (unfold kcf; simp only [jc_1, mc_1, jc_8, mc_8, jc_65579, mc_65579, jc_65587, mc_65587, jn_ic]; done) | (unfold kcf; simp only [jc_1, mc_1, jc_8, mc_8, jc_65579, mc_65579, jc_65587, mc_65587, jn_ic]; rfl)
  | n + 1 => by
    have ih := kcf_j A B w n
    unfold kcf
    first | (simp only [jc_1, mc_1, jc_8, mc_8, jc_65579, mc_65579, jc_65587, mc_65587, jn_ic, ih]; done) | (simp only [jc_1, mc_1, jc_8, mc_8, jc_65579, mc_65579, jc_65587, mc_65587, jn_ic, ih]; rfl)
theorem kch_j (A B : AMem) (w : Int) : kch (jn A B) w = kch A w := by
  unfold kch
  first | (simp only [jc_8, mc_8, jn_ic, kcf_j]; done) | (simp only [jc_8, mc_8, jn_ic, kcf_j]; rfl) | rfl
theorem kcp_j (A B : AMem) (w : Int) : kcp (jn A B) w = kcp A w := by
  unfold kcp
  first | (simp only [jc_1, mc_1, jc_6, mc_6, jc_8, mc_8, jc_65579, mc_65579, jn_ic, kch_j]; done) | (simp only [jc_1, mc_1, jc_6, mc_6, jc_8, mc_8, jc_65579, mc_65579, jn_ic, kch_j]; rfl) | rfl
theorem WB_j (A B : AMem) (w : Int) : WB (jn A B) w = WB A w := by
  unfold WB
  first | (simp only [jc_1, mc_1, jc_6, mc_6, jc_8, mc_8, jc_65587, mc_65587, jn_ic]; done) | (simp only [jc_1, mc_1, jc_6, mc_6, jc_8, mc_8, jc_65587, mc_65587, jn_ic]; rfl) | rfl
theorem kh4_j (A B : AMem) (rr : Int) : kh4 (jn A B) rr = kh4 A rr := by
  unfold kh4
  first | (simp only [jc_4, mc_4, jc_14370, mc_14370, jn_ic, khr_j]; done) | (simp only [jc_4, mc_4, jc_14370, mc_14370, jn_ic, khr_j]; rfl) | rfl
theorem kh5_j (A B : AMem) (rr : Int) : kh5 (jn A B) rr = kh5 A rr := by
  unfold kh5
  first | (simp only [jc_5, mc_5, jc_14370, mc_14370, jn_ic, khr_j]; done) | (simp only [jc_5, mc_5, jc_14370, mc_14370, jn_ic, khr_j]; rfl) | rfl
theorem kho_j (A B : AMem) (rr : Int) : kho (jn A B) rr = kho A rr := by
  unfold kho
  first | (simp only [jc_1, mc_1, jn_ic, kh4_j, kh5_j]; done) | (simp only [jc_1, mc_1, jn_ic, kh4_j, kh5_j]; rfl) | rfl
theorem khs_j (A B : AMem) (rr : Int) : khs (jn A B) rr = khs A rr := by
  unfold khs
  first | (simp only [jc_4, mc_4, jc_5, mc_5, jc_14370, mc_14370, jn_ic, khr_j]; done) | (simp only [jc_4, mc_4, jc_5, mc_5, jc_14370, mc_14370, jn_ic, khr_j]; rfl) | rfl
theorem kaf_j (A B : AMem)  : ∀ n, kaf (jn A B) n = kaf A n
  | 0 => by first | rfl | (unfold kaf; simp only [jc_1, mc_1, jc_7, mc_7, jc_8, mc_8, jn_ic]; done) | (unfold kaf; simp only [jc_1, mc_1, jc_7, mc_7, jc_8, mc_8, jn_ic]; rfl)
  | n + 1 => by
    have ih := kaf_j A B  n
    unfold kaf
    first | (simp only [jc_1, mc_1, jc_7, mc_7, jc_8, mc_8, jn_ic, ih]; done) | (simp only [jc_1, mc_1, jc_7, mc_7, jc_8, mc_8, jn_ic, ih]; rfl)
theorem kpb_j (A B : AMem) (i : Int) : kpb (jn A B) i = kpb A i := by
  unfold kpb
  first | (simp only [jc_6, mc_6, jc_7, mc_7, jc_32815, mc_32815, jn_ic]; done) | (simp only [jc_6, mc_6, jc_7, mc_7, jc_32815, mc_32815, jn_ic]; rfl) | rfl
theorem kgf_j (A B : AMem) (g : Int) : ∀ n, kgf (jn A B) g n = kgf A g n
  | 0 => by first | rfl | (unfold kgf; simp only [jc_1, mc_1, jc_8, mc_8, jn_ic]; done) | (unfold kgf; simp only [jc_1, mc_1, jc_8, mc_8, jn_ic]; rfl)
  | n + 1 => by
    have ih := kgf_j A B g n
    unfold kgf
    first | (simp only [jc_1, mc_1, jc_8, mc_8, jn_ic, ih]; done) | (simp only [jc_1, mc_1, jc_8, mc_8, jn_ic, ih]; rfl)
theorem kgc_j (A B : AMem)  : kgc (jn A B) = kgc A := by
  unfold kgc
  first | (simp only [jc_2, mc_2, jc_5, mc_5, jc_14370, mc_14370, jn_ic, kw_j, kcp_j, kgf_j]; done) | (simp only [jc_2, mc_2, jc_5, mc_5, jc_14370, mc_14370, jn_ic, kw_j, kcp_j, kgf_j]; rfl) | rfl
theorem pj_j (A B : AMem) (l : Int) : ∀ n, pj (jn A B) l n = pj A l n
  | 0 => by first | rfl | (unfold pj; simp only [jc_1, mc_1, jc_786481, mc_786481, jn_ic]; done) | (unfold pj; simp only [jc_1, mc_1, jc_786481, mc_786481, jn_ic]; rfl)
  | n + 1 => by
    have ih := pj_j A B l n
    unfold pj
    first | (simp only [jc_1, mc_1, jc_786481, mc_786481, jn_ic, ih]; done) | (simp only [jc_1, mc_1, jc_786481, mc_786481, jn_ic, ih]; rfl)
theorem kput_j (A B : AMem) (t : Int) (p : Int) (l : Int) : kput (jn A B) t p l = jn (kput A t p l) B := by
  unfold kput
  first | (simp only [jc_1, mc_1, jc_2, mc_2, jc_7, mc_7, jc_786481, mc_786481, jc_786482, mc_786482, jn_ic, shf_j, pj_j]; done) | (simp only [jc_1, mc_1, jc_2, mc_2, jc_7, mc_7, jc_786481, mc_786481, jc_786482, mc_786482, jn_ic, shf_j, pj_j]; rfl) | rfl
theorem kta_j (A B : AMem) (p : Int) (i : Int) : ∀ n p_, kta (jn A B) p i n p_ = kta A p i n p_
  | 0, p_ => by first | rfl | (unfold kta; simp only [jc_1, mc_1, jc_786481, mc_786481, jc_786482, mc_786482, jn_ic]; done)
  | n + 1, p_ => by
    have ih := fun p_ => kta_j A B p i n p_
    unfold kta
    first | (simp only [jc_1, mc_1, jc_786481, mc_786481, jc_786482, mc_786482, jn_ic, ih]; done) | (simp only [jc_1, mc_1, jc_786481, mc_786481, jc_786482, mc_786482, jn_ic, ih]; rfl)
theorem kr4_j (A B : AMem)  : ∀ n, kr4 (jn A B) n = jn (kr4 A n) B
  | 0 => by first | rfl | (unfold kr4; simp only [jc_1, mc_1, jn_ic, wrst_j]; done) | (unfold kr4; simp only [jc_1, mc_1, jn_ic, wrst_j]; rfl)
  | n + 1 => by
    have ih := kr4_j A B  n
    unfold kr4
    first | (simp only [jc_1, mc_1, jn_ic, wrst_j, ih]; done) | (simp only [jc_1, mc_1, jn_ic, wrst_j, ih]; rfl)
theorem kr5_j (A B : AMem)  : ∀ n, kr5 (jn A B) n = jn (kr5 A n) B
  | 0 => by first | rfl | (unfold kr5; simp only [jc_1, mc_1, jn_ic, wrst_j]; done) | (unfold kr5; simp only [jc_1, mc_1, jn_ic, wrst_j]; rfl)
  | n + 1 => by
    have ih := kr5_j A B  n
    unfold kr5
    first | (simp only [jc_1, mc_1, jn_ic, wrst_j, ih]; done) | (simp only [jc_1, mc_1, jn_ic, wrst_j, ih]; rfl)
theorem kr3_j (A B : AMem)  : ∀ n, kr3 (jn A B) n = jn (kr3 A n) B
  | 0 => by first | rfl | (unfold kr3; simp only [jc_1, mc_1, jc_5, mc_5, jc_9, mc_9, jn_ic]; done) | (unfold kr3; simp only [jc_1, mc_1, jc_5, mc_5, jc_9, mc_9, jn_ic]; rfl)
  | n + 1 => by
    have ih := kr3_j A B  n
    unfold kr3
    first | (simp only [jc_1, mc_1, jc_5, mc_5, jc_9, mc_9, jn_ic, ih]; done) | (simp only [jc_1, mc_1, jc_5, mc_5, jc_9, mc_9, jn_ic, ih]; rfl)
theorem kr6_j (A B : AMem)  : ∀ n, kr6 (jn A B) n = jn (kr6 A n) B
  | 0 => by first | rfl | (unfold kr6; simp only [jc_1, mc_1, jc_6, mc_6, jc_10, mc_10, jn_ic]; done) | (unfold kr6; simp only [jc_1, mc_1, jc_6, mc_6, jc_10, mc_10, jn_ic]; rfl)
  | n + 1 => by
    have ih := kr6_j A B  n
    unfold kr6
    first | (simp only [jc_1, mc_1, jc_6, mc_6, jc_10, mc_10, jn_ic, ih]; done) | (simp only [jc_1, mc_1, jc_6, mc_6, jc_10, mc_10, jn_ic, ih]; rfl)
theorem krs_j (A B : AMem)  : krs (jn A B) = jn (krs A) B := by
  unfold krs
  first | (simp only [jc_3, mc_3, jc_4, mc_4, jc_5, mc_5, jc_6, mc_6, jc_14370, mc_14370, jn_ic, kr4_j, kr5_j, kr3_j, kr6_j]; done) | (simp only [jc_3, mc_3, jc_4, mc_4, jc_5, mc_5, jc_6, mc_6, jc_14370, mc_14370, jn_ic, kr4_j, kr5_j, kr3_j, kr6_j]; rfl) | rfl
theorem kdu_j (A B : AMem)  : kdu (jn A B) = kdu A := by
  unfold kdu
  first | (simp only [jc_1, mc_1, jc_2, mc_2, jc_5, mc_5, jc_6, mc_6, jc_7, mc_7, jc_8, mc_8, jn_ic, ktr_j, kcp_j]; done) | (simp only [jc_1, mc_1, jc_2, mc_2, jc_5, mc_5, jc_6, mc_6, jc_7, mc_7, jc_8, mc_8, jn_ic, ktr_j, kcp_j]; rfl) | rfl
theorem krt_j (A B : AMem)  : krt (jn A B) = jn (krt A) B := by
  unfold krt
  first | (simp only [jc_1, mc_1, jc_2, mc_2, jc_5, mc_5, jc_6, mc_6, jc_7, mc_7, jc_8, mc_8, jc_786482, mc_786482, jn_ic, knt_j]; done) | (simp only [jc_1, mc_1, jc_2, mc_2, jc_5, mc_5, jc_6, mc_6, jc_7, mc_7, jc_8, mc_8, jc_786482, mc_786482, jn_ic, knt_j]; rfl) | rfl
theorem kpre_j (A B : AMem)  : kpre (jn A B) = jn (kpre A) B := by
  unfold kpre
  first | (simp only [jc_1, mc_1, jc_5, mc_5, jc_6, mc_6, jn_ic, knt_j, kcp_j, kput_j]; done) | (simp only [jc_1, mc_1, jc_5, mc_5, jc_6, mc_6, jn_ic, knt_j, kcp_j, kput_j]; rfl) | rfl
theorem krun_j (A B : AMem)  : krun (jn A B) = jn (krun A) B := by
  unfold krun
  first | (simp only [jc_1, mc_1, jc_5, mc_5, jc_6, mc_6, jn_ic, krt_j, kpre_j]; done) | (simp only [jc_1, mc_1, jc_5, mc_5, jc_6, mc_6, jn_ic, krt_j, kpre_j]; rfl) | rfl
theorem KR_j (A B : AMem)  : KR (jn A B) = KR A := by
  unfold KR
  first | (simp only [jc_1, mc_1, jc_2, mc_2, jc_6, mc_6, jc_7, mc_7, jc_9, mc_9, jc_786482, mc_786482, jn_ic]; done) | (simp only [jc_1, mc_1, jc_2, mc_2, jc_6, mc_6, jc_7, mc_7, jc_9, mc_9, jc_786482, mc_786482, jn_ic]; rfl) | rfl
theorem kbeg_j (A B : AMem) (i : Int) : kbeg (jn A B) i = jn (kbeg A i) B := by
  unfold kbeg
  first | (simp only [jc_1, mc_1, jc_6, mc_6, jc_7, mc_7, jc_8, mc_8, jc_32815, mc_32815, jn_ic, knt_j]; done) | (simp only [jc_1, mc_1, jc_6, mc_6, jc_7, mc_7, jc_8, mc_8, jc_32815, mc_32815, jn_ic, knt_j]; rfl) | rfl
theorem krn1_j (A B : AMem)  : krn1 (jn A B) = jn (krn1 A) B := by
  unfold krn1
  first | (simp only [jc_6, mc_6, jc_7, mc_7, jn_ic, kdu_j, krun_j]; done) | (simp only [jc_6, mc_6, jc_7, mc_7, jn_ic, kdu_j, krun_j]; rfl) | rfl
theorem kstl_j (A B : AMem)  : kstl (jn A B) = jn (kstl A) B := by
  unfold kstl
  first | (simp only [jc_1, mc_1, jc_2, mc_2, jc_4, mc_4, jc_6, mc_6, jc_7, mc_7, jn_ic, kgc_j, kbeg_j, krn1_j]; done) | (simp only [jc_1, mc_1, jc_2, mc_2, jc_4, mc_4, jc_6, mc_6, jc_7, mc_7, jn_ic, kgc_j, kbeg_j, krn1_j]; rfl) | rfl
theorem KS_j (A B : AMem)  : KS (jn A B) = KS A := by
  unfold KS
  first | (simp only [jc_1, mc_1, jc_2, mc_2, jc_5, mc_5, jc_6, mc_6, jc_7, mc_7, jc_8, mc_8, jc_65579, mc_65579, jn_ic, CB_j]; done) | (simp only [jc_1, mc_1, jc_2, mc_2, jc_5, mc_5, jc_6, mc_6, jc_7, mc_7, jc_8, mc_8, jc_65579, mc_65579, jn_ic, CB_j]; rfl) | rfl
theorem KA_j (A B : AMem)  : KA (jn A B) = KA A := by
  unfold KA
  first | (simp only [jc_1, mc_1, jc_2, mc_2, jc_4, mc_4, jc_6, mc_6, jc_7, mc_7, jc_14370, mc_14370, jc_65837, mc_65837, jn_ic, khs_j, kdu_j]; done) | (simp only [jc_1, mc_1, jc_2, mc_2, jc_4, mc_4, jc_6, mc_6, jc_7, mc_7, jc_14370, mc_14370, jc_65837, mc_65837, jn_ic, khs_j, kdu_j]; rfl) | rfl
theorem kreq_j (A B : AMem) (t : Int) : kreq (jn A B) t = jn (kreq A t) B := by
  unfold kreq
  first | (simp only [jc_1, mc_1, jc_7, mc_7, jc_8, mc_8, jc_10, mc_10, jn_ic, kput_j]; done) | (simp only [jc_1, mc_1, jc_7, mc_7, jc_8, mc_8, jc_10, mc_10, jn_ic, kput_j]; rfl) | rfl
theorem RQ_j (A B : AMem) (t : Int) : RQ (jn A B) t = RQ A t := by
  unfold RQ
  first | (simp only [jc_1, mc_1, jc_2, mc_2, jc_7, mc_7, jc_8, mc_8, jn_ic]; done) | (simp only [jc_1, mc_1, jc_2, mc_2, jc_7, mc_7, jc_8, mc_8, jn_ic]; rfl) | rfl
theorem kstp_j (A B : AMem)  : kstp (jn A B) = jn (kstp A) B := by
  unfold kstp
  first | (simp only [jc_1, mc_1, jc_5, mc_5, jc_6, mc_6, jc_8, mc_8, jn_ic, knt_j]; done) | (simp only [jc_1, mc_1, jc_5, mc_5, jc_6, mc_6, jc_8, mc_8, jn_ic, knt_j]; rfl) | rfl
theorem kend_j (A B : AMem)  : kend (jn A B) = jn (kend A) B := by
  unfold kend
  first | (simp only [jc_1, mc_1, jc_5, mc_5, jc_6, mc_6, jc_7, mc_7, jc_8, mc_8, jn_ic, kstp_j]; done) | (simp only [jc_1, mc_1, jc_5, mc_5, jc_6, mc_6, jc_7, mc_7, jc_8, mc_8, jn_ic, kstp_j]; rfl) | rfl
theorem CN_j (A B : AMem)  : CN (jn A B) = CN A := by
  unfold CN
  first | (simp only [jc_5, mc_5, jc_6, mc_6, jc_9, mc_9, jn_ic]; done) | (simp only [jc_5, mc_5, jc_6, mc_6, jc_9, mc_9, jn_ic]; rfl) | rfl
theorem kyi_j (A B : AMem)  : kyi (jn A B) = jn (kyi A) B := by
  unfold kyi
  first | (simp only [jc_5, mc_5, jc_6, mc_6, jc_8, mc_8, jn_ic, ktr_j, krun_j]; done) | (simp only [jc_5, mc_5, jc_6, mc_6, jc_8, mc_8, jn_ic, ktr_j, krun_j]; rfl) | rfl
theorem kwf_j (A B : AMem) (mask : Int) : kwf (jn A B) mask = jn (kwf A mask) B := by
  unfold kwf
  first | (simp only [jc_1, mc_1, jc_3, mc_3, jc_5, mc_5, jc_6, mc_6, jc_8, mc_8, jc_9, mc_9, jc_10, mc_10, jn_ic, kstp_j]; done) | (simp only [jc_1, mc_1, jc_3, mc_3, jc_5, mc_5, jc_6, mc_6, jc_8, mc_8, jc_9, mc_9, jc_10, mc_10, jn_ic, kstp_j]; rfl) | rfl
theorem kse_j (A B : AMem) (t : Int) (mask : Int) : kse (jn A B) t mask = jn (kse A t mask) B := by
  unfold kse
  first | (simp only [jc_3, mc_3, jc_8, mc_8, jc_9, mc_9, jc_10, mc_10, jn_ic, kput_j]; done) | (simp only [jc_3, mc_3, jc_8, mc_8, jc_9, mc_9, jc_10, mc_10, jn_ic, kput_j]; rfl) | rfl
theorem kei_j (A B : AMem)  : kei (jn A B) = jn (kei A) B := by
  unfold kei
  first | (simp only [jc_1, mc_1, jc_6, mc_6, jc_7, mc_7, jn_ic, knt_j, klb_j]; done) | (simp only [jc_1, mc_1, jc_6, mc_6, jc_7, mc_7, jn_ic, knt_j, klb_j]; rfl) | rfl
theorem kgo_j (A B : AMem)  : kgo (jn A B) = jn (kgo A) B := by
  unfold kgo
  first | (simp only [jc_1, mc_1, jc_2, mc_2, jc_3, mc_3, jc_4, mc_4, jc_5, mc_5, jc_6, mc_6, jc_7, mc_7, jn_ic, krs_j]; done) | (simp only [jc_1, mc_1, jc_2, mc_2, jc_3, mc_3, jc_4, mc_4, jc_5, mc_5, jc_6, mc_6, jc_7, mc_7, jn_ic, krs_j]; rfl) | rfl
theorem kfs_j (A B : AMem) (k : Int) (s : Int) : kfs (jn A B) k s = jn (kfs A k s) B := by
  unfold kfs
  first | (simp only [jc_10, mc_10, jn_ic, knt_j]; done) | (simp only [jc_10, mc_10, jn_ic, knt_j]; rfl) | rfl
theorem kfi_j (A B : AMem) (k : Int) (s : Int) : kfi (jn A B) k s = jn (kfi A k s) B := by
  unfold kfi
  first | (simp only [jn_ic, kstl_j, kfs_j]; done) | (simp only [jn_ic, kstl_j, kfs_j]; rfl) | rfl
theorem kmS_j (A B : AMem) (a : Int) : kmS (jn A B) a = kmS A a := by
  unfold kmS
  first | (simp only [jc_1, mc_1, jc_2, mc_2, jc_4, mc_4, jc_7, mc_7, jc_8, mc_8, jc_10, mc_10, jn_ic]; done) | (simp only [jc_1, mc_1, jc_2, mc_2, jc_4, mc_4, jc_7, mc_7, jc_8, mc_8, jc_10, mc_10, jn_ic]; rfl) | rfl
theorem kmA_j (A B : AMem) (a : Int) : kmA (jn A B) a = jn (kmA A a) B := by
  unfold kmA
  first | (simp only [jc_1, mc_1, jc_2, mc_2, jc_7, mc_7, jc_8, mc_8, jc_10, mc_10, jn_ic, kreq_j, kse_j]; done) | (simp only [jc_1, mc_1, jc_2, mc_2, jc_7, mc_7, jc_8, mc_8, jc_10, mc_10, jn_ic, kreq_j, kse_j]; rfl) | rfl
theorem kmB_j (A B : AMem) (a : Int) (s : Int) : kmB (jn A B) a s = jn (kmB A a s) B := by
  unfold kmB
  first | (simp only [jn_ic, knt_j]; done) | (simp only [jn_ic, knt_j]; rfl) | rfl
theorem kmE_j (A B : AMem) (a : Int) : kmE (jn A B) a = jn (kmE A a) B := by
  unfold kmE
  first | (simp only [jc_1, mc_1, jc_6, mc_6, jc_7, mc_7, jc_8, mc_8, jc_10, mc_10, jn_ic, cvb_j]; done) | (simp only [jc_1, mc_1, jc_6, mc_6, jc_7, mc_7, jc_8, mc_8, jc_10, mc_10, jn_ic, cvb_j]; rfl) | rfl
theorem kme_j (A B : AMem) (a : Int) : kme (jn A B) a = jn (kme A a) B := by
  unfold kme
  first | (simp only [jn_ic, knt_j, kmS_j, kmA_j, kmB_j, kmE_j]; done) | (simp only [jn_ic, knt_j, kmS_j, kmA_j, kmB_j, kmE_j]; rfl) | rfl
theorem KM_j (A B : AMem) (a : Int) : KM (jn A B) a = KM A a := by
  unfold KM
  first | (simp only [jc_1, mc_1, jc_2, mc_2, jc_6, mc_6, jc_8, mc_8, jc_9, mc_9, jc_10, mc_10, jn_ic, CV_j, RQ_j]; done) | (simp only [jc_1, mc_1, jc_2, mc_2, jc_6, mc_6, jc_8, mc_8, jc_9, mc_9, jc_10, mc_10, jn_ic, CV_j, RQ_j]; rfl) | rfl
theorem kmm_j (A B : AMem) (c : Int) (v : Int) : ∀ n, kmm (jn A B) c v n = jn (kmm A c v n) B
  | 0 => by first | rfl | (unfold kmm; simp only [jc_1, mc_1, jc_6, mc_6, jc_7, mc_7, jc_10, mc_10, jn_ic, kme_j]; done) | (unfold kmm; simp only [jc_1, mc_1, jc_6, mc_6, jc_7, mc_7, jc_10, mc_10, jn_ic, kme_j]; rfl)
  | n + 1 => by
    have ih := kmm_j A B c v n
    unfold kmm
    first | (simp only [jc_1, mc_1, jc_6, mc_6, jc_7, mc_7, jc_10, mc_10, jn_ic, kme_j, ih]; done) | (simp only [jc_1, mc_1, jc_6, mc_6, jc_7, mc_7, jc_10, mc_10, jn_ic, kme_j, ih]; rfl)
theorem kmn_j (A B : AMem) (c : Int) (v : Int) : ∀ n, kmn (jn A B) c v n = kmn A c v n
  | 0 => by first | rfl | (unfold kmn; simp only [jc_1, mc_1, jc_6, mc_6, jc_7, mc_7, jc_10, mc_10, jn_ic, kmm_j]; done) | (unfold kmn; simp only [jc_1, mc_1, jc_6, mc_6, jc_7, mc_7, jc_10, mc_10, jn_ic, kmm_j]; rfl)
  | n + 1 => by
    have ih := kmn_j A B c v n
    unfold kmn
    first | (simp only [jc_1, mc_1, jc_6, mc_6, jc_7, mc_7, jc_10, mc_10, jn_ic, kmm_j, ih]; done) | (simp only [jc_1, mc_1, jc_6, mc_6, jc_7, mc_7, jc_10, mc_10, jn_ic, kmm_j, ih]; rfl)
theorem kma_j (A B : AMem) (c : Int) : kma (jn A B) c = jn (kma A c) B := by
  unfold kma
  first | (simp only [jc_3, mc_3, jc_6, mc_6, jc_9, mc_9, jc_14370, mc_14370, jn_ic, kmm_j]; done) | (simp only [jc_3, mc_3, jc_6, mc_6, jc_9, mc_9, jc_14370, mc_14370, jn_ic, kmm_j]; rfl) | rfl
theorem kt1_j (A B : AMem) (c : Int) : kt1 (jn A B) c = jn (kt1 A c) B := by
  unfold kt1
  first | (simp only [jc_1, mc_1, jc_4, mc_4, jc_9, mc_9, jn_ic, cad_j, kma_j]; done) | (simp only [jc_1, mc_1, jc_4, mc_4, jc_9, mc_9, jn_ic, cad_j, kma_j]; rfl) | rfl
theorem kt1n_j (A B : AMem) (c : Int) : kt1n (jn A B) c = kt1n A c := by
  unfold kt1n
  first | (simp only [jc_1, mc_1, jc_3, mc_3, jc_4, mc_4, jc_6, mc_6, jc_9, mc_9, jc_14370, mc_14370, jn_ic, cad_j, kmn_j]; done) | (simp only [jc_1, mc_1, jc_3, mc_3, jc_4, mc_4, jc_6, mc_6, jc_9, mc_9, jc_14370, mc_14370, jn_ic, cad_j, kmn_j]; rfl) | rfl
theorem ktk_j (A B : AMem) (c : Int) : ktk (jn A B) c = jn (ktk A c) B := by
  unfold ktk
  first | (simp only [jn_ic, kstl_j, kt1_j]; done) | (simp only [jn_ic, kstl_j, kt1_j]; rfl) | rfl
theorem kts_j (A B : AMem) (c : Int) : ∀ n, kts (jn A B) c n = jn (kts A c n) B
  | 0 => by first | rfl | (unfold kts; simp only [jc_1, mc_1, jn_ic, ktk_j]; done) | (unfold kts; simp only [jc_1, mc_1, jn_ic, ktk_j]; rfl)
  | n + 1 => by
    have ih := kts_j A B c n
    unfold kts
    first | (simp only [jc_1, mc_1, jn_ic, ktk_j, ih]; done) | (simp only [jc_1, mc_1, jn_ic, ktk_j, ih]; rfl)
theorem ktn_j (A B : AMem) (c : Int) : ∀ n, ktn (jn A B) c n = ktn A c n
  | 0 => by first | rfl | (unfold ktn; simp only [jc_1, mc_1, jn_ic, kt1n_j, kts_j]; done) | (unfold ktn; simp only [jc_1, mc_1, jn_ic, kt1n_j, kts_j]; rfl)
  | n + 1 => by
    have ih := ktn_j A B c n
    unfold ktn
    first | (simp only [jc_1, mc_1, jn_ic, kt1n_j, kts_j, ih]; done) | (simp only [jc_1, mc_1, jn_ic, kt1n_j, kts_j, ih]; rfl)
theorem KT_j (A B : AMem) (c : Int) : KT (jn A B) c = KT A c := by
  unfold KT
  first | (simp only [jc_3, mc_3, jc_4, mc_4, jc_6, mc_6, jc_9, mc_9, jc_14370, mc_14370, jn_ic, CV_j, cad_j, KS_j, KM_j, kmm_j, kt1_j]; done) | (simp only [jc_3, mc_3, jc_4, mc_4, jc_6, mc_6, jc_9, mc_9, jc_14370, mc_14370, jn_ic, CV_j, cad_j, KS_j, KM_j, kmm_j, kt1_j]; rfl) | rfl
theorem FI_j (A B : AMem) (k : Int) (s : Int) : FI (jn A B) k s = FI A k s := by
  unfold FI
  first | (simp only [jc_6, mc_6, jc_9, mc_9, jc_10, mc_10, jn_ic, CB_j, KS_j, KA_j, kfs_j, kfi_j]; done) | (simp only [jc_6, mc_6, jc_9, mc_9, jc_10, mc_10, jn_ic, CB_j, KS_j, KA_j, kfs_j, kfi_j]; rfl) | rfl
theorem k_activateS_j (A B : AMem) (t : Int) : k_activateS (jn A B) t = k_activateS A t := by
  unfold k_activateS
  first | (simp only [jc_2, mc_2, jc_3, mc_3, jc_4, mc_4, jc_7, mc_7, jc_8, mc_8, jc_14370, mc_14370, jn_ic, ken_j]; done) | (simp only [jc_2, mc_2, jc_3, mc_3, jc_4, mc_4, jc_7, mc_7, jc_8, mc_8, jc_14370, mc_14370, jn_ic, ken_j]; rfl) | rfl
theorem k_activateM_j (A B : AMem) (t : Int) : k_activateM (jn A B) t = jn (k_activateM A t) B := by
  unfold k_activateM
  first | (simp only [jn_ic, kreq_j, k_activateS_j]; done) | (simp only [jn_ic, kreq_j, k_activateS_j]; rfl) | rfl
theorem k_terminateS_j (A B : AMem)  : k_terminateS (jn A B) = k_terminateS A := by
  unfold k_terminateS
  first | (simp only [jn_ic, kfe_j]; done) | (simp only [jn_ic, kfe_j]; rfl) | rfl
theorem k_terminateM_j (A B : AMem)  : k_terminateM (jn A B) = jn (k_terminateM A) B := by
  unfold k_terminateM
  first | (simp only [jn_ic, kend_j, k_terminateS_j]; done) | (simp only [jn_ic, kend_j, k_terminateS_j]; rfl) | rfl
theorem k_chainS_j (A B : AMem) (t : Int) : k_chainS (jn A B) t = k_chainS A t := by
  unfold k_chainS
  first | (simp only [jc_2, mc_2, jc_3, mc_3, jc_4, mc_4, jc_5, mc_5, jc_6, mc_6, jc_7, mc_7, jc_8, mc_8, jc_14370, mc_14370, jn_ic, kfe_j]; done) | (simp only [jc_2, mc_2, jc_3, mc_3, jc_4, mc_4, jc_5, mc_5, jc_6, mc_6, jc_7, mc_7, jc_8, mc_8, jc_14370, mc_14370, jn_ic, kfe_j]; rfl) | rfl
theorem k_chainM_j (A B : AMem) (t : Int) : k_chainM (jn A B) t = jn (k_chainM A t) B := by
  unfold k_chainM
  first | (simp only [jn_ic, kreq_j, kend_j, k_chainS_j]; done) | (simp only [jn_ic, kreq_j, kend_j, k_chainS_j]; rfl) | rfl
theorem k_scheduleS_j (A B : AMem)  : k_scheduleS (jn A B) = k_scheduleS A := by
  unfold k_scheduleS
  first | (simp only [jn_ic, kfe_j]; done) | (simp only [jn_ic, kfe_j]; rfl) | rfl
theorem k_scheduleM_j (A B : AMem)  : k_scheduleM (jn A B) = jn (k_scheduleM A) B := by
  unfold k_scheduleM
  first | (simp only [jn_ic, kyi_j, k_scheduleS_j]; done) | (simp only [jn_ic, kyi_j, k_scheduleS_j]; rfl) | rfl
theorem k_takeS_j (A B : AMem) (rr : Int) : k_takeS (jn A B) rr = k_takeS A rr := by
  unfold k_takeS
  first | (simp only [jc_1, mc_1, jc_2, mc_2, jc_3, mc_3, jc_8, mc_8, jc_14370, mc_14370, jc_65579, mc_65579, jc_65837, mc_65837, jn_ic, kw_j, ken_j, kho_j]; done) | (simp only [jc_1, mc_1, jc_2, mc_2, jc_3, mc_3, jc_8, mc_8, jc_14370, mc_14370, jc_65579, mc_65579, jc_65837, mc_65837, jn_ic, kw_j, ken_j, kho_j]; rfl) | rfl
theorem k_takeM_j (A B : AMem) (rr : Int) : k_takeM (jn A B) rr = jn (k_takeM A rr) B := by
  unfold k_takeM
  first | (simp only [jc_1, mc_1, jc_8, mc_8, jc_65587, mc_65587, jn_ic, kw_j, k_takeS_j]; done) | (simp only [jc_1, mc_1, jc_8, mc_8, jc_65587, mc_65587, jn_ic, kw_j, k_takeS_j]; rfl) | rfl
theorem k_giveS_j (A B : AMem) (rr : Int) : k_giveS (jn A B) rr = k_giveS A rr := by
  unfold k_giveS
  first | (simp only [jc_1, mc_1, jc_2, mc_2, jc_3, mc_3, jc_5, mc_5, jc_8, mc_8, jc_14370, mc_14370, jc_65587, mc_65587, jc_65837, mc_65837, jn_ic, kw_j, ken_j]; done) | (simp only [jc_1, mc_1, jc_2, mc_2, jc_3, mc_3, jc_5, mc_5, jc_8, mc_8, jc_14370, mc_14370, jc_65587, mc_65587, jc_65837, mc_65837, jn_ic, kw_j, ken_j]; rfl) | rfl
theorem k_giveM_j (A B : AMem) (rr : Int) : k_giveM (jn A B) rr = jn (k_giveM A rr) B := by
  unfold k_giveM
  first | (simp only [jc_1, mc_1, jc_8, mc_8, jn_ic, kw_j, k_giveS_j]; done) | (simp only [jc_1, mc_1, jc_8, mc_8, jn_ic, kw_j, k_giveS_j]; rfl) | rfl
theorem k_signalS_j (A B : AMem) (t : Int) (mask : Int) : k_signalS (jn A B) t mask = k_signalS A t mask := by
  unfold k_signalS
  first | (simp only [jn_ic, kee_j]; done) | (simp only [jn_ic, kee_j]; rfl) | rfl
theorem k_signalM_j (A B : AMem) (t : Int) (mask : Int) : k_signalM (jn A B) t mask = jn (k_signalM A t mask) B := by
  unfold k_signalM
  first | (simp only [jn_ic, kse_j, k_signalS_j]; done) | (simp only [jn_ic, kse_j, k_signalS_j]; rfl) | rfl
theorem k_clearS_j (A B : AMem) (mask : Int) : k_clearS (jn A B) mask = k_clearS A mask := by
  unfold k_clearS
  first | (simp only [jn_ic, kxe_j]; done) | (simp only [jn_ic, kxe_j]; rfl) | rfl
theorem k_clearM_j (A B : AMem) (mask : Int) : k_clearM (jn A B) mask = jn (k_clearM A mask) B := by
  unfold k_clearM
  first | (simp only [jc_1, mc_1, jc_8, mc_8, jc_10, mc_10, jn_ic, kw_j, k_clearS_j]; done) | (simp only [jc_1, mc_1, jc_8, mc_8, jc_10, mc_10, jn_ic, kw_j, k_clearS_j]; rfl) | rfl
theorem k_awaitS_j (A B : AMem) (mask : Int) : k_awaitS (jn A B) mask = k_awaitS A mask := by
  unfold k_awaitS
  first | (simp only [jc_6, mc_6, jc_8, mc_8, jn_ic, kw_j, kxe_j]; done) | (simp only [jc_6, mc_6, jc_8, mc_8, jn_ic, kw_j, kxe_j]; rfl) | rfl
theorem k_awaitM_j (A B : AMem) (mask : Int) : k_awaitM (jn A B) mask = jn (k_awaitM A mask) B := by
  unfold k_awaitM
  first | (simp only [jn_ic, kwf_j, k_awaitS_j]; done) | (simp only [jn_ic, kwf_j, k_awaitS_j]; rfl) | rfl
theorem kae_j (A B : AMem) (a : Int) (lo : Int) (x : Int) (e : Int) : kae (jn A B) a lo x e = kae A a lo x e := by
  unfold kae
  first | (simp only [jc_2, mc_2, jc_3, mc_3, jc_6, mc_6, jc_7, mc_7, jc_8, mc_8, jc_9, mc_9, jc_10, mc_10, jc_14370, mc_14370, jn_ic, ken_j]; done) | (simp only [jc_2, mc_2, jc_3, mc_3, jc_6, mc_6, jc_7, mc_7, jc_8, mc_8, jc_9, mc_9, jc_10, mc_10, jc_14370, mc_14370, jn_ic, ken_j]; rfl) | rfl
theorem KC_j (A B : AMem)  : KC (jn A B) = KC A := by
  unfold KC
  first | (simp only [jc_6, mc_6, jc_10, mc_10, jc_14370, mc_14370, jn_ic, CV_j]; done) | (simp only [jc_6, mc_6, jc_10, mc_10, jc_14370, mc_14370, jn_ic, CV_j]; rfl) | rfl
theorem k_afterS_j (A B : AMem) (a : Int) (x : Int) (e : Int) : k_afterS (jn A B) a x e = k_afterS A a x e := by
  unfold k_afterS
  first | (simp only [jc_1, mc_1, jn_ic, kae_j]; done) | (simp only [jc_1, mc_1, jn_ic, kae_j]; rfl) | rfl
theorem k_afterM_j (A B : AMem) (a : Int) (x : Int) (e : Int) : k_afterM (jn A B) a x e = jn (k_afterM A a x e) B := by
  unfold k_afterM
  first | (simp only [jc_10, mc_10, jn_ic, cvb_j, aus_j, k_afterS_j]; done) | (simp only [jc_10, mc_10, jn_ic, cvb_j, aus_j, k_afterS_j]; rfl) | rfl
theorem k_atS_j (A B : AMem) (a : Int) (x : Int) (e : Int) : k_atS (jn A B) a x e = k_atS A a x e := by
  unfold k_atS
  first | (simp only [jn_ic, kae_j]; done) | (simp only [jn_ic, kae_j]; rfl) | rfl
theorem k_atM_j (A B : AMem) (a : Int) (x : Int) (e : Int) : k_atM (jn A B) a x e = jn (k_atM A a x e) B := by
  unfold k_atM
  first | (simp only [jn_ic, aus_j, k_atS_j]; done) | (simp only [jn_ic, aus_j, k_atS_j]; rfl) | rfl
theorem kue_j (A B : AMem) (a : Int) : kue (jn A B) a = kue A a := by
  unfold kue
  first | (simp only [jc_3, mc_3, jc_5, mc_5, jc_6, mc_6, jc_10, mc_10, jc_14370, mc_14370, jn_ic, ken_j]; done) | (simp only [jc_3, mc_3, jc_5, mc_5, jc_6, mc_6, jc_10, mc_10, jc_14370, mc_14370, jn_ic, ken_j]; rfl) | rfl
theorem k_cancelS_j (A B : AMem) (a : Int) : k_cancelS (jn A B) a = k_cancelS A a := by
  unfold k_cancelS
  first | (simp only [jn_ic, kue_j]; done) | (simp only [jn_ic, kue_j]; rfl) | rfl
theorem k_cancelM_j (A B : AMem) (a : Int) : k_cancelM (jn A B) a = jn (k_cancelM A a) B := by
  unfold k_cancelM
  first | (simp only [jc_6, mc_6, jc_10, mc_10, jn_ic, k_cancelS_j]; done) | (simp only [jc_6, mc_6, jc_10, mc_10, jn_ic, k_cancelS_j]; rfl) | rfl
theorem k_shutS_j (A B : AMem)  : k_shutS (jn A B) = k_shutS A := by
  unfold k_shutS
  first | (simp only [jc_4, mc_4, jc_6, mc_6, jc_10, mc_10, jn_ic, kid_j]; done) | (simp only [jc_4, mc_4, jc_6, mc_6, jc_10, mc_10, jn_ic, kid_j]; rfl) | rfl
theorem k_shutM_j (A B : AMem)  : k_shutM (jn A B) = jn (k_shutM A) B := by
  unfold k_shutM
  first | (simp only [jc_1, mc_1, jc_4, mc_4, jc_6, mc_6, jn_ic, k_shutS_j]; done) | (simp only [jc_1, mc_1, jc_4, mc_4, jc_6, mc_6, jn_ic, k_shutS_j]; rfl) | rfl
theorem k_leaveS_j (A B : AMem)  : k_leaveS (jn A B) = k_leaveS A := by
  unfold k_leaveS
  first | (simp only [jc_2, mc_2, jc_6, mc_6, jc_7, mc_7, jc_8, mc_8, jn_ic, kw_j, ken_j]; done) | (simp only [jc_2, mc_2, jc_6, mc_6, jc_7, mc_7, jc_8, mc_8, jn_ic, kw_j, ken_j]; rfl) | rfl
theorem k_leaveM_j (A B : AMem)  : k_leaveM (jn A B) = jn (k_leaveM A) B := by
  unfold k_leaveM
  first | (simp only [jn_ic, kei_j, k_leaveS_j]; done) | (simp only [jn_ic, kei_j, k_leaveS_j]; rfl) | rfl
theorem kz3_j (A B : AMem)  : ∀ n, kz3 (jn A B) n = jn (kz3 A n) B
  | 0 => by first | rfl | (unfold kz3; simp only [jc_1, mc_1, jn_ic, czr_j]; done) | (unfold kz3; simp only [jc_1, mc_1, jn_ic, czr_j]; rfl)
  | n + 1 => by
    have ih := kz3_j A B  n
    unfold kz3
    first | (simp only [jc_1, mc_1, jn_ic, czr_j, ih]; done) | (simp only [jc_1, mc_1, jn_ic, czr_j, ih]; rfl)
theorem ks4_j (A B : AMem)  : ∀ n, ks4 (jn A B) n = jn (ks4 A n) B
  | 0 => by first | rfl | (unfold ks4; simp only [jc_1, mc_1, jc_2, mc_2, jc_3, mc_3, jc_4, mc_4, jc_6, mc_6, jc_7, mc_7, jc_8, mc_8, jn_ic, kreq_j]; done) | (unfold ks4; simp only [jc_1, mc_1, jc_2, mc_2, jc_3, mc_3, jc_4, mc_4, jc_6, mc_6, jc_7, mc_7, jc_8, mc_8, jn_ic, kreq_j]; rfl)
  | n + 1 => by
    have ih := ks4_j A B  n
    unfold ks4
    first | (simp only [jc_1, mc_1, jc_2, mc_2, jc_3, mc_3, jc_4, mc_4, jc_6, mc_6, jc_7, mc_7, jc_8, mc_8, jn_ic, kreq_j, ih]; done) | (simp only [jc_1, mc_1, jc_2, mc_2, jc_3, mc_3, jc_4, mc_4, jc_6, mc_6, jc_7, mc_7, jc_8, mc_8, jn_ic, kreq_j, ih]; rfl)
theorem ks6_j (A B : AMem)  : ∀ n, ks6 (jn A B) n = jn (ks6 A n) B
  | 0 => by first | rfl | (unfold ks6; simp only [jc_1, mc_1, jc_3, mc_3, jc_4, mc_4, jc_5, mc_5, jc_6, mc_6, jc_10, mc_10, jn_ic, cvb_j, aus_j]; done) | (unfold ks6; simp only [jc_1, mc_1, jc_3, mc_3, jc_4, mc_4, jc_5, mc_5, jc_6, mc_6, jc_10, mc_10, jn_ic, cvb_j, aus_j]; rfl)
  | n + 1 => by
    have ih := ks6_j A B  n
    unfold ks6
    first | (simp only [jc_1, mc_1, jc_3, mc_3, jc_4, mc_4, jc_5, mc_5, jc_6, mc_6, jc_10, mc_10, jn_ic, cvb_j, aus_j, ih]; done) | (simp only [jc_1, mc_1, jc_3, mc_3, jc_4, mc_4, jc_5, mc_5, jc_6, mc_6, jc_10, mc_10, jn_ic, cvb_j, aus_j, ih]; rfl)
theorem kg1_j (A B : AMem) (m : Int) : kg1 (jn A B) m = jn (kg1 A m) B := by
  unfold kg1
  first | (simp only [jc_1, mc_1, jc_2, mc_2, jc_3, mc_3, jc_6, mc_6, jc_14370, mc_14370, jn_ic, knt_j, kfn_j, kz3_j]; done) | (simp only [jc_1, mc_1, jc_2, mc_2, jc_3, mc_3, jc_6, mc_6, jc_14370, mc_14370, jn_ic, knt_j, kfn_j, kz3_j]; rfl) | rfl
theorem kg2_j (A B : AMem) (m : Int) : kg2 (jn A B) m = jn (kg2 A m) B := by
  unfold kg2
  first | (simp only [jc_4, mc_4, jc_14370, mc_14370, jn_ic, ks4_j, kg1_j]; done) | (simp only [jc_4, mc_4, jc_14370, mc_14370, jn_ic, ks4_j, kg1_j]; rfl) | rfl
theorem kgn_j (A B : AMem) (m : Int) : kgn (jn A B) m = jn (kgn A m) B := by
  unfold kgn
  first | (simp only [jc_6, mc_6, jc_14370, mc_14370, jn_ic, ks6_j, kg2_j]; done) | (simp only [jc_6, mc_6, jc_14370, mc_14370, jn_ic, ks6_j, kg2_j]; rfl) | rfl
theorem KG_j (A B : AMem) (m : Int) : KG (jn A B) m = KG A m := by
  unfold KG
  first | (simp only [jc_1, mc_1, jc_3, mc_3, jc_4, mc_4, jc_6, mc_6, jc_8, mc_8, jc_10, mc_10, jc_14370, mc_14370, jn_ic, CB_j, CV_j, RQ_j, ks4_j, ks6_j, kg1_j, kg2_j]; done) | (simp only [jc_1, mc_1, jc_3, mc_3, jc_4, mc_4, jc_6, mc_6, jc_8, mc_8, jc_10, mc_10, jc_14370, mc_14370, jn_ic, CB_j, CV_j, RQ_j, ks4_j, ks6_j, kg1_j, kg2_j]; rfl) | rfl
theorem k_haltS_j (A B : AMem) (code : Int) : k_haltS (jn A B) code = k_haltS A code := by
  unfold k_haltS
  first | (simp only [jc_10, mc_10, jn_ic, kid_j]; done) | (simp only [jc_10, mc_10, jn_ic, kid_j]; rfl) | rfl
theorem k_haltM_j (A B : AMem) (code : Int) : k_haltM (jn A B) code = jn (k_haltM A code) B := by
  unfold k_haltM
  first | (simp only [jn_ic, knt_j, kgo_j, k_haltS_j]; done) | (simp only [jn_ic, knt_j, kgo_j, k_haltS_j]; rfl) | rfl
theorem kgv_j (A B : AMem) (t : Int) : kgv (jn A B) t = kgv A t := by
  unfold kgv
  first | (simp only [jc_8, mc_8, jc_10, mc_10, jn_ic, kee_j, kfi_j]; done) | (simp only [jc_8, mc_8, jc_10, mc_10, jn_ic, kee_j, kfi_j]; rfl) | rfl
theorem klf_j (A B : AMem) (a : Int) : klf (jn A B) a = klf A a := by
  unfold klf
  first | (simp only [jc_7, mc_7, jc_10, mc_10, jn_ic, cst_j, kfi_j, kue_j]; done) | (simp only [jc_7, mc_7, jc_10, mc_10, jn_ic, cst_j, kfi_j, kue_j]; rfl) | rfl
theorem SA_j (A B : AMem) (a : Int) : SA (jn A B) a = SA A a := by
  unfold SA
  first | (simp only [jc_7, mc_7, jc_10, mc_10, jn_ic, CV_j]; done) | (simp only [jc_7, mc_7, jc_10, mc_10, jn_ic, CV_j]; rfl) | rfl
theorem k_startS_j (A B : AMem) (m : Int) : k_startS (jn A B) m = k_startS A m := by
  unfold k_startS
  first | (simp only [jc_2, mc_2, jc_3, mc_3, jc_6, mc_6, jc_7, mc_7, jc_14370, mc_14370, jn_ic]; done) | (simp only [jc_2, mc_2, jc_3, mc_3, jc_6, mc_6, jc_7, mc_7, jc_14370, mc_14370, jn_ic]; rfl) | rfl
theorem k_startM_j (A B : AMem) (m : Int) : k_startM (jn A B) m = jn (k_startM A m) B := by
  unfold k_startM
  first | (simp only [jn_ic, kgn_j, k_startS_j]; done) | (simp only [jn_ic, kgn_j, k_startS_j]; rfl) | rfl
theorem k_callS_j (A B : AMem) (i : Int) : k_callS (jn A B) i = k_callS A i := by
  unfold k_callS
  first | (simp only [jc_1, mc_1, jc_2, mc_2, jc_5, mc_5, jc_6, mc_6, jc_8, mc_8, jc_14370, mc_14370, jn_ic]; done) | (simp only [jc_1, mc_1, jc_2, mc_2, jc_5, mc_5, jc_6, mc_6, jc_8, mc_8, jc_14370, mc_14370, jn_ic]; rfl) | rfl
theorem k_callM_j (A B : AMem) (i : Int) : k_callM (jn A B) i = jn (k_callM A i) B := by
  unfold k_callM
  first | (simp only [jc_1, mc_1, jc_8, mc_8, jn_ic, k_callS_j]; done) | (simp only [jc_1, mc_1, jc_8, mc_8, jn_ic, k_callS_j]; rfl) | rfl
theorem ktw_j (A B : AMem) (c : Int) (n : Int) : ktw (jn A B) c n = jn (ktw A c n) B := by
  unfold ktw
  first | (simp only [jc_4, mc_4, jc_5, mc_5, jc_6, mc_6, jc_9, mc_9, jn_ic, kts_j]; done) | (simp only [jc_4, mc_4, jc_5, mc_5, jc_6, mc_6, jc_9, mc_9, jn_ic, kts_j]; rfl) | rfl
theorem kok_j (A B : AMem) (c : Int) (n : Int) : kok (jn A B) c n = kok A c n := by
  unfold kok
  first | (simp only [jc_1, mc_1, jc_2, mc_2, jc_3, mc_3, jc_6, mc_6, jc_14370, mc_14370, jn_ic]; done) | (simp only [jc_1, mc_1, jc_2, mc_2, jc_3, mc_3, jc_6, mc_6, jc_14370, mc_14370, jn_ic]; rfl) | rfl
theorem kdw_j (A B : AMem)  : ∀ n, kdw (jn A B) n = jn (kdw A n) B
  | 0 => by first | rfl | (unfold kdw; simp only [jc_1, mc_1, jc_5, mc_5, jc_9, mc_9, jn_ic, kts_j]; done) | (unfold kdw; simp only [jc_1, mc_1, jc_5, mc_5, jc_9, mc_9, jn_ic, kts_j]; rfl)
  | n + 1 => by
    have ih := kdw_j A B  n
    unfold kdw
    first | (simp only [jc_1, mc_1, jc_5, mc_5, jc_9, mc_9, jn_ic, kts_j, ih]; done) | (simp only [jc_1, mc_1, jc_5, mc_5, jc_9, mc_9, jn_ic, kts_j, ih]; rfl)
theorem KW_j (A B : AMem) (k : Int) : KW (jn A B) k = KW A k := by
  unfold KW
  first | (simp only [jc_3, mc_3, jc_5, mc_5, jc_9, mc_9, jc_14370, mc_14370, jn_ic, kts_j, KT_j, kdw_j]; done) | (simp only [jc_3, mc_3, jc_5, mc_5, jc_9, mc_9, jc_14370, mc_14370, jn_ic, kts_j, KT_j, kdw_j]; rfl) | rfl
theorem k_openS_j (A B : AMem)  : k_openS (jn A B) = k_openS A := by
  unfold k_openS
  first | (simp only [jc_4, mc_4, jc_5, mc_5, jc_6, mc_6, jc_10, mc_10, jn_ic, kid_j]; done) | (simp only [jc_4, mc_4, jc_5, mc_5, jc_6, mc_6, jc_10, mc_10, jn_ic, kid_j]; rfl) | rfl
theorem k_openM_j (A B : AMem)  : k_openM (jn A B) = jn (k_openM A) B := by
  unfold k_openM
  first | (simp only [jc_1, mc_1, jc_3, mc_3, jc_4, mc_4, jc_6, mc_6, jc_14370, mc_14370, jn_ic, kdw_j, k_openS_j]; done) | (simp only [jc_1, mc_1, jc_3, mc_3, jc_4, mc_4, jc_6, mc_6, jc_14370, mc_14370, jn_ic, kdw_j, k_openS_j]; rfl) | rfl
theorem kpf_j (A B : AMem) (w : Int) : ∀ n, kpf (jn A B) w n = jn (kpf A w n) B
  | 0 => by first | rfl | (unfold kpf; simp only [jc_1, mc_1, jc_8, mc_8, jc_8193300, mc_8193300, jn_ic]; done) | (unfold kpf; simp only [jc_1, mc_1, jc_8, mc_8, jc_8193300, mc_8193300, jn_ic]; rfl)
  | n + 1 => by
    have ih := kpf_j A B w n
    unfold kpf
    first | (simp only [jc_1, mc_1, jc_8, mc_8, jc_8193300, mc_8193300, jn_ic, ih]; done) | (simp only [jc_1, mc_1, jc_8, mc_8, jc_8193300, mc_8193300, jn_ic, ih]; rfl)
theorem kfd_j (A B : AMem) (a : Int) (b : Int) (c : Int) (d : Int) (e : Int) : kfd (jn A B) a b c d e = jn (kfd A a b c d e) B := by
  unfold kfd
  first | (simp only [jc_4, mc_4, jn_ic, kpf_j]; done) | (simp only [jc_4, mc_4, jn_ic, kpf_j]; rfl) | rfl
theorem kna_j (A B : AMem) (s : Int) (i : Int) (k : Int) : kna (jn A B) s i k = kna A s i k := by
  unfold kna
  first | (simp only [jc_8, mc_8, jc_98852, mc_98852, jc_98854, mc_98854, jn_ic]; done) | (simp only [jc_8, mc_8, jc_98852, mc_98852, jc_98854, mc_98854, jn_ic]; rfl) | rfl
