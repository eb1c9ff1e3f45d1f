/-! ===== both sides find the same FAULT: role by role ===== -/
section EQ5
variable {M Y : AMem} {K : Nat → Int} {T F t : Nat}
/-- a role that has a number only -/
theorem k3_of (ok : dok K F) (ht : t < F) {s s1 : Nat} (hs : dst K t = s) (ha : dac s = false) (e : ∀ k, dt s k = dw k 3 s1) : K t = 3 := (W_2 ok hs (by omega) ha (e _)).1
theorem k2_of (ok : dok K F) (ht : t < F) {s s1 : Nat} (hs : dst K t = s) (ha : dac s = false) (e : ∀ k, dt s k = dw k 2 s1) : K t = 2 := (W_2 ok hs (by omega) ha (e _)).1
theorem X_0 (hr : rol K t = 0) : XE M Y K t := XE_n hr (by decide) rfl (C := False) (D := False) (fun k => ⟨False.elim, fun q => by rcases q with q | q <;> exact q.2⟩) Iff.rfl Iff.rfl id
theorem X_1 (c1 : C1 M K T F) (c2 : C2 Y K T F) (ln : LN M Y K F) (ht : t < F) (hr : rol K t = 1) : XE M Y K t := by
  obtain ⟨j, f, o1, o2, o3, o4, o5, o6, o7, o8, o9, o10, o11, o12, o13, o14, _⟩ := nm_own c1 c2 ht
  have s := dr_1 _ _ hr
  obtain ⟨w, w1, w2, w3⟩ := st_it (K := K) rfl s
  have k2 : K t = 2 := by
    by_cases c : K (w + 1) = 2
    · rw [w1]; exact c
    · exfalso
      have z := dit_1 w2 c
      rw [← w1] at z
      exact ok_9 (i := t + 1) c1.ok (by omega) z.2.1
  refine ⟨mng M (t : Int) ≠ itf K t, False, False, False, pmo (M 1433666 0 ((itf K t))) ≤ (M 1433669 0 ((itf K t))), fun k => ?_, ?_⟩
  · rw [RP_e hr]
    show (k = 2 ∧ mng M (t : Int) ≠ itf K t) ∨ (k = 6 ∧ pmo (M 1433666 0 ((itf K t))) ≤ (M 1433669 0 ((itf K t)))) ↔ _
    simp only [and_false, false_or, or_false]
  · rw [hr]
    refine ⟨?_, ⟨False.elim, fun z => z.1 rfl⟩, Iff.rfl, fun _ => Iff.rfl, ?_⟩
    · rw [mng_eq c1 c2 ln ht k2]; exact Iff.rfl
    · unfold TMr
      rw [o12, o13, o14]
      exact ⟨fun z => ⟨rfl, z⟩, fun z => z.2⟩
theorem X_2 (c1 : C1 M K T F) (c2 : C2 Y K T F) (ht : t < F) (hr : rol K t = 2) : XE M Y K t := by
  obtain ⟨j, f, o1, o2, o3, o4, o5, o6, o7, o8, o9, o10, o11, _⟩ := nm_own c1 c2 ht
  refine ⟨∃ u : Nat, nmf M K t < u ∧ u < t ∧ rol K u = 2 ∧ K u = K t, False, False, False, False, fun k => ?_, ?_⟩
  · rw [RP_e hr]
    show (k = 2 ∧ ∃ u : Nat, nmf M K t < u ∧ u < t ∧ rol K u = 2 ∧ K u = K t) ↔ _
    simp only [and_false, or_false]
  · rw [hr]
    refine ⟨?_, ⟨False.elim, fun z => z.1 rfl⟩, Iff.rfl, fun _ => Iff.rfl, ⟨False.elim, fun z => absurd z.1 (by decide)⟩⟩
    show _ ↔ cpa Y K t
    unfold cpa
    rw [o9, o10]
    constructor
    · rintro ⟨u, a, b⟩; exact ⟨u, by omega, b⟩
    · rintro ⟨u, a, b, c, d⟩
      refine ⟨u, ?_, b, c, d⟩
      by_cases z : u = j + 1
      · rw [z, rol_t o1 o6] at c; exact absurd c (by decide)
      · omega
theorem X_3 (c1 : C1 M K T F) (c2 : C2 Y K T F) (ln : LN M Y K F) (ht : t < F) (hr : rol K t = 3) : XE M Y K t := by
  have k2 := k2_of (s1 := 0) c1.ok ht (dr_3 _ _ hr) rfl (fun _ => rfl)
  refine XE_m (w := 2) (A := False) (D := srt M (t : Int) = 2 ∧ (pin M (mng M (t : Int)) ∨ prf M (mng M (t : Int)) = -1)) c1 c2 ln ht k2 hr (by decide) rfl (by decide) (fun k => ?_) Iff.rfl id (fun z => ?_)
  · show (k = 3 ∧ srt M (t : Int) ≠ 2) ∨ (k = 5 ∧ srt M (t : Int) = 2 ∧ (pin M (mng M (t : Int)) ∨ prf M (mng M (t : Int)) = -1)) ↔ _
    simp only [and_false, false_or]
  · obtain ⟨m0, m1, m2⟩ := mng_s c1 z (by decide)
    show _ ↔ (cin Y K (cmt Y t) ∨ ces Y K (cmt Y t))
    rw [← mng_eq c1 c2 ln ht k2, ← pin_e c1 c2 m0 m1, ← ring_e c1 c2 ln m0 m1]
    exact ⟨fun q => q.2, fun q => ⟨z, q⟩⟩
theorem X_567 (c1 : C1 M K T F) (c2 : C2 Y K T F) (ln : LN M Y K F) (ht : t < F) (hr : rol K t = 5 ∨ rol K t = 6 ∨ rol K t = 7) : XE M Y K t := by
  rcases hr with hr | hr | hr
  · have k2 := k2_of (s1 := 33) c1.ok ht (dr_5 _ _ hr) rfl (fun _ => rfl)
    refine XE_m (w := 3) (A := False) (D := False) c1 c2 ln ht k2 hr (by decide) rfl (by decide) (fun k => ?_) Iff.rfl id (fun z => Iff.rfl)
    show (k = 3 ∧ srt M (t : Int) ≠ 3) ↔ _
    simp only [and_false, false_or, or_false]
  · have k2 := k2_of (s1 := 37) c1.ok ht (dr_6 _ _ hr) rfl (fun _ => rfl)
    refine XE_m (w := 4) (A := False) (D := False) c1 c2 ln ht k2 hr (by decide) rfl (by decide) (fun k => ?_) Iff.rfl id (fun z => Iff.rfl)
    show (k = 3 ∧ srt M (t : Int) ≠ 4) ↔ _
    simp only [and_false, false_or, or_false]
  · have k2 := k2_of (s1 := 36) c1.ok ht (dr_7 _ _ hr) rfl (fun _ => rfl)
    refine XE_m (w := 4) (A := False) (D := False) c1 c2 ln ht k2 hr (by decide) rfl (by decide) (fun k => ?_) Iff.rfl id (fun z => Iff.rfl)
    show (k = 3 ∧ srt M (t : Int) ≠ 4) ↔ _
    simp only [and_false, false_or, or_false]
theorem X_9 (c1 : C1 M K T F) (c2 : C2 Y K T F) (ln : LN M Y K F) (ht : t < F) (hr : rol K t = 9) : XE M Y K t := by
  have s := dr_9 _ _ hr
  have k2 := k2_of (s1 := 25) c1.ok ht s rfl (fun _ => rfl)
  refine XE_m (w := 1) (A := ahn M K t) (D := False) c1 c2 ln ht k2 hr (by decide) rfl (by decide) (fun k => ?_) (can_e (s := 24) (s' := 25) ln ht (by unfold nst; decide) s k2) id (fun z => Iff.rfl)
  show (k = 2 ∧ ahn M K t) ∨ (k = 3 ∧ srt M (t : Int) ≠ 1) ↔ _
  simp only [and_false, or_false]
theorem X_10 (c1 : C1 M K T F) (c2 : C2 Y K T F) (ln : LN M Y K F) (ht : t < F) (hr : rol K t = 10) : XE M Y K t := by
  have key : K t = 2 ∧ (ahn M K t ↔ can Y K t) := by
    rcases dr_10 _ _ hr with s | s
    · have k2 := k2_of (s1 := 21) c1.ok ht s rfl (fun _ => rfl)
      exact ⟨k2, can_e (s := 20) (s' := 21) ln ht (by unfold nst; decide) s k2⟩
    · have k2 := k2_of (s1 := 39) c1.ok ht s rfl (fun _ => rfl)
      exact ⟨k2, can_e (s := 38) (s' := 39) ln ht (by unfold nst; decide) s k2⟩
  refine XE_m (w := 0) (A := ahn M K t) (D := False) c1 c2 ln ht key.1 hr (by decide) rfl (by decide) (fun k => ?_) key.2 id (fun z => Iff.rfl)
  show (k = 2 ∧ ahn M K t) ∨ (k = 3 ∧ srt M (t : Int) ≠ 0) ↔ _
  simp only [and_false, or_false]
theorem X_num {r lo hi : Int} (hr : rol K t = r) (h1 : ¬ r = 1) (hw : rwt r = -1) (RE : ∀ k, RQl M K r t k ↔ k = 4 ∧ (vl M t < lo ∨ hi < vl M t)) (c : (vl M t < lo ∨ hi < vl M t) ↔ ORr Y K r t) (br : ¬ BRr Y K r t) (tw : ¬ TWr Y K r t) : XE M Y K t :=
  XE_n hr h1 hw (D := False) (fun k => by rw [RE]; simp only [and_false, or_false]) c ⟨False.elim, br⟩ tw
theorem X_nums (c1 : C1 M K T F) (ln : LN M Y K F) (ht : t < F) (hr : rol K t = 11 ∨ rol K t = 13 ∨ rol K t = 14 ∨ rol K t = 16) : XE M Y K t := by
  rcases hr with hr | hr | hr | hr
  · have v := vl_e ln ht (k3_of (s1 := 18) c1.ok ht (dr_11 _ _ hr) rfl (fun _ => rfl))
    refine X_num (lo := 0) (hi := 63) hr (by decide) rfl (fun k => Iff.rfl) ?_ id id
    show _ ↔ 63 < cvt Y t
    omega
  · have v := vl_e ln ht (k3_of (s1 := 12) c1.ok ht (dr_13 _ _ hr) rfl (fun _ => rfl))
    refine X_num (lo := 1) (hi := 65535) hr (by decide) rfl (fun k => Iff.rfl) ?_ id id
    show _ ↔ cvt Y t = 0
    omega
  · have v := vl_e ln ht (k3_of (s1 := 14) c1.ok ht (dr_14 _ _ hr) rfl (fun _ => rfl))
    refine X_num (lo := 1) (hi := 1000) hr (by decide) rfl (fun k => Iff.rfl) ?_ id id
    show _ ↔ (cvt Y t < 1 ∨ 1000 < cvt Y t)
    omega
  · have v := vl_e ln ht (k3_of (s1 := 28) c1.ok ht (dr_16 _ _ hr) rfl (fun _ => rfl))
    refine X_num (lo := 1) (hi := 16) hr (by decide) rfl (fun k => Iff.rfl) ?_ id id
    show _ ↔ (cvt Y t < 1 ∨ 16 < cvt Y t)
    omega
theorem X_12 (c1 : C1 M K T F) (c2 : C2 Y K T F) (ln : LN M Y K F) (ht : t < F) (hr : rol K t = 12) : XE M Y K t := by
  have v := vl_e ln ht (k3_of (s1 := 18) c1.ok ht (dr_12 _ _ hr) rfl (fun _ => rfl))
  obtain ⟨j, f, o1, o2, o3, o4, o5, o6, o7, o8, o9, o10, o11, o12, o13, o14, o15, o16⟩ := nm_own c1 c2 ht
  refine XE_n (C := vl M t < 1 ∨ 8 < vl M t) (D := 1 < vl M t ∧ wtn M K (itf K t)) hr (by decide) rfl (fun k => Iff.rfl) ?_ ?_ id
  · show _ ↔ (cvt Y t < 1 ∨ 8 < cvt Y t)
    omega
  · show _ ↔ (1 < cvt Y t ∧ csy Y K (itf K t) 34)
    rw [v.1]
    refine and_congr Iff.rfl ?_
    unfold wtn csy
    rw [o10, o11, o15, o16]
    constructor
    · rintro ⟨u, a, b, c⟩; exact ⟨by omega, u, by omega, b, c⟩
    · rintro ⟨_, u, a, b, c⟩
      refine ⟨u, ?_, b, c⟩
      by_cases z : u = j + 1
      · rw [z, o6] at c; exact absurd c (by decide)
      · omega
theorem X_15 (c1 : C1 M K T F) (c2 : C2 Y K T F) (ln : LN M Y K F) (ht : t < F) (hr : rol K t = 15) : XE M Y K t := by
  have s := dr_15 _ _ hr
  have v := vl_e ln ht (k3_of (s1 := 0) c1.ok ht s rfl (fun _ => rfl))
  obtain ⟨a6, e6, q6⟩ := st_p s (by decide)
  have p6 := dp_15 _ _ q6
  obtain ⟨a5, e5, q5⟩ := st_p p6.1 (by decide)
  have p5 := dp_14 _ _ q5
  obtain ⟨a4, e4, q4⟩ := st_p p5.1 (by decide)
  have p4 := dp_13 _ _ q4
  obtain ⟨a3, e3, q3⟩ := st_p p4.1 (by decide)
  have p3 := dp_12 _ _ q3
  obtain ⟨a2, e2, q2⟩ := st_p p3.1 (by decide)
  have p2 := dp_11 _ _ q2
  obtain ⟨a1, e1, q1⟩ := st_p p2.1 (by decide)
  have p1 := dp_10 _ _ q1
  obtain ⟨w, w1, w2, w3⟩ := st_it p1.1 (by decide)
  obtain ⟨j, f, o1, o2, o3, o4, o5, o6, o7, o8, o9, _⟩ := nm_own c1 c2 ht
  have ej : w = j := by
    by_cases c : j < w
    · exact absurd w2 (nd_d o3 (by omega) (by omega))
    · by_cases c2' : w < j
      · exfalso
        have l := o1.2.2
        have k3 := k3_of (s1 := 0) c1.ok ht s rfl (fun _ => rfl)
        obtain e | e | e | e | e | e | e : j = a1 ∨ j = a2 ∨ j = a3 ∨ j = a4 ∨ j = a5 ∨ j = a6 ∨ j = t := by omega
        · rw [e, p1.2] at l; omega
        · rw [e, p2.2] at l; omega
        · rw [e, p3.2] at l; omega
        · rw [e, p4.2] at l; omega
        · rw [e, p5.2] at l; omega
        · rw [e, p6.2] at l; omega
        · rw [e, k3] at l; omega
      · omega
  subst ej
  obtain ⟨g1, g2, g3, g4, g5⟩ := ctr_e c2 o1 (by rw [w3]; decide) o5 o6
  have q := ln.va (w + 3) (by omega) g3
  refine X_num (lo := 1) (hi := (M 8194113 0 ((nmf M K t + 2)))) hr (by decide) rfl (fun k => Iff.rfl) ?_ id id
  show _ ↔ (cvt Y t < 1 ∨ cvl Y K (itf K t) 13 0 < cvt Y t)
  rw [o4, g1, o9, show ((w + 1 : Nat) : Int) + 2 = ((w + 3 : Nat) : Int) by omega, q.1, v.1]
/-- an alarm, up to its action -/
theorem alm_st {u : Nat} (ok : dok K F) (h : dst K u = 37) (hu : u ≤ F) : ∃ w : Nat, dit K w ∧ K w = 16 ∧ w + 5 ≤ u ∧ ∀ x : Nat, w < x → x < u → ¬ (10 ≤ K x ∧ K x ≤ 16) := by
  have base : ∀ v : Nat, dst K v = 33 → ∃ w : Nat, dit K w ∧ K w = 16 ∧ v = w + 4 ∧ K (w + 1) = 2 ∧ K (w + 2) = 25 ∧ K (w + 3) = 2 := by
    intro v hv
    obtain ⟨a3, e3, q3⟩ := st_p hv (by decide)
    have p3 := dp_33 _ _ q3
    obtain ⟨a2, e2, q2⟩ := st_p p3.1 (by decide)
    have p2 := dp_32 _ _ q2
    obtain ⟨a1, e1, q1⟩ := st_p p2.1 (by decide)
    have p1 := dp_31 _ _ q1
    obtain ⟨w, w1, w2, w3⟩ := st_it p1.1 (by decide)
    refine ⟨w, w2, by rw [w3]; decide, by omega, ?_, ?_, ?_⟩
    · rw [← w1]; exact p1.2
    · rw [show w + 2 = a2 by omega]; exact p2.2
    · rw [show w + 3 = a3 by omega]; exact p3.2
  obtain ⟨a, ea, qa⟩ := st_p h (by decide)
  rcases dp_37 _ _ qa with ⟨s, k⟩ | ⟨s, k⟩ | ⟨s, k⟩
  · obtain ⟨b, eb, qb⟩ := st_p s (by decide)
    have pb := dp_34 _ _ qb
    obtain ⟨w, w1, w2, w3, w4, w5, w6⟩ := base b pb.1
    refine ⟨w, w1, w2, by omega, fun x x1 x2 => ?_⟩
    obtain e | e | e | e | e : x = w + 1 ∨ x = w + 2 ∨ x = w + 3 ∨ x = b ∨ x = a := by omega
    · rw [e, w4]; decide
    · rw [e, w5]; decide
    · rw [e, w6]; decide
    · rw [e, pb.2]; decide
    · rw [e, k]; decide
  · obtain ⟨b, eb, qb⟩ := st_p s (by decide)
    have pb := dp_36 _ _ qb
    obtain ⟨c, ec, qc⟩ := st_p pb.1 (by decide)
    have pc := dp_35 _ _ qc
    obtain ⟨w, w1, w2, w3, w4, w5, w6⟩ := base c pc.1
    refine ⟨w, w1, w2, by omega, fun x x1 x2 => ?_⟩
    obtain e | e | e | e | e | e : x = w + 1 ∨ x = w + 2 ∨ x = w + 3 ∨ x = c ∨ x = b ∨ x = a := by omega
    · rw [e, w4]; decide
    · rw [e, w5]; decide
    · rw [e, w6]; decide
    · rw [e, pc.2]; decide
    · rw [e, pb.2]; decide
    · rw [e, k]; decide
  · obtain ⟨w, w1, w2, w3, w4, w5, w6⟩ := base a s
    refine ⟨w, w1, w2, by omega, fun x x1 x2 => ?_⟩
    obtain e | e | e | e : x = w + 1 ∨ x = w + 2 ∨ x = w + 3 ∨ x = a := by omega
    · rw [e, w4]; decide
    · rw [e, w5]; decide
    · rw [e, w6]; decide
    · rw [e, k]; decide
/-- nothing before token t -/
def CL (Y : AMem) (K : Nat → Int) (t : Nat) : Prop := ∀ u : Nat, u < t → KF Y K u 0
theorem CL_un (c1 : C1 M K T F) (c2 : C2 Y K T F) (ln : LN M Y K F) (ht : t < F) (cl : CL Y K t) {u : Nat} (hu : u < t) (k2 : K u = 2) {r w : Int} (hr : rol K u = r) (hw : rwt r = w) (hw0 : 0 ≤ w) : srt M (u : Int) = w := by
  have z := (KF_0.mp (cl u hu)).2.1
  rw [hr, un_e c1 c2 ln (by omega) k2 hw hw0] at z
  exact Classical.not_not.mp z
/-- the counter of an alarm -/
theorem cof_e (c1 : C1 M K T F) (c2 : C2 Y K T F) (ln : LN M Y K F) (ht : t < F) (cl : CL Y K t) {j : Nat} (hd : dit K j) (hj : K j = 16) (hF : j + 2 ≤ F) (k2 : K (j + 1) = 2) (hjt : j + 3 < t) (ei : itf K t = dnI K j) : srt M ((j + 3 : Nat) : Int) = 3 ∧ cof Y K t 13 = (M 8194113 0 (((M 1433667 0 ((mng M ((j + 3 : Nat) : Int)))) + 2))) ∧ cof Y K t 15 = (M 8194113 0 (((M 1433667 0 ((mng M ((j + 3 : Nat) : Int)))) + 6))) := by
  obtain ⟨a1, a2, a3, a4, _⟩ := alm_e c2 hd hj hF k2
  have s3 : srt M ((j + 3 : Nat) : Int) = 3 := CL_un c1 c2 ln ht cl hjt a2 a3 rfl (by decide)
  have m3 := mng_eq c1 c2 ln (show j + 3 < F by omega) a2
  obtain ⟨m0, m1, m2⟩ := mng_s c1 s3 (by decide)
  obtain ⟨c, f, i1, i2, i3, i4, i5, i6, i7, i8, i9, _⟩ := LI c1 c2 m0 m1
  have kc : K c = 13 := by have := i9.1; omega
  obtain ⟨g1, g2, g3, g4, g5⟩ := ctr_e c2 i1 kc i3 i4
  have v1 := ln.va (c + 3) (by omega) g3
  have v2 := ln.va (c + 7) (by omega) g4
  have e1 : cio Y K (itf K t) 5 = (dnI K c : Int) := by rw [ei, a1, ← m3]; exact i2
  refine ⟨s3, ?_, ?_⟩
  · unfold cof
    rw [e1, g1, i7.1, show ((c + 1 : Nat) : Int) + 2 = ((c + 3 : Nat) : Int) by omega, v1.1]
  · unfold cof
    rw [e1, g2, i7.1, show ((c + 1 : Nat) : Int) + 6 = ((c + 7 : Nat) : Int) by omega, v2.1]
/-- IN and EVERY belong to an alarm -/
theorem in_st (c1 : C1 M K T F) (c2 : C2 Y K T F) {u : Nat} (hu : u < F) (hs : dst K u = 40) : ∃ j : Nat, dit K j ∧ K j = 16 ∧ j + 2 ≤ F ∧ K (j + 1) = 2 ∧ j + 3 < u ∧ nd K (j + 1) (u + 1) := by
  have k3 := k3_of (s1 := 41) c1.ok hu hs rfl (fun _ => rfl)
  obtain ⟨a, ea, qa⟩ := st_p hs (by decide)
  have pa := dp_40 _ _ qa
  obtain ⟨b, eb, qb⟩ := st_p pa.1 (by decide)
  have pb := dp_39 _ _ qb
  obtain ⟨v, d, b1, b2, b3, b4⟩ := lst_b (s := 38) (s' := 39) (P := fun s k => s = 37 ∧ k = 29) (by decide) (fun s0 k q => dp_38 s0 k q) (fun s0 k q => dp_39 s0 k q) b pb.1 pb.2
  have b2 : dst K v = 37 ∧ K v = 29 := b2
  obtain ⟨w, w1, w2, w3, w4⟩ := alm_st c1.ok b2.1 (by omega)
  obtain ⟨j, f, o1, o2, o3, o4, o5, o6, _⟩ := nm_own c1 c2 hu
  have ej : w = j := by
    by_cases c : j < w
    · exact absurd w1 (nd_d o3 (by omega) (by omega))
    · by_cases c2' : w < j
      · exfalso
        have l := o1.2.2
        by_cases x1 : j < v
        · exact w4 j c2' x1 l
        · by_cases x2 : j = v
          · rw [x2, b2.2] at l; omega
          · by_cases x3 : j ≤ b
            · exact lst_j o1 b1 b3 (fun c l => (b4 c l).1) (by omega) x3
            · obtain e | e : j = a ∨ j = u := by omega
              · rw [e, pa.2] at l; omega
              · rw [e, k3] at l; omega
      · omega
  subst ej
  exact ⟨w, o1, w2, o5, o6, by omega, o3⟩
theorem X_17 (c1 : C1 M K T F) (c2 : C2 Y K T F) (ln : LN M Y K F) (ht : t < F) (cl : CL Y K t) (hr : rol K t = 17) : XE M Y K t := by
  have s := dr_17 _ _ hr
  have k3 := k3_of (s1 := 41) c1.ok ht s rfl (fun _ => rfl)
  have v := vl_e ln ht k3
  obtain ⟨j, o1, o2, o3, o4, o5, o6⟩ := in_st c1 c2 ht s
  have ei : itf K t = dnI K j := itf_d o1 ⟨by omega, fun x a b => o6.2 x a (by omega)⟩ (by rw [k3]; decide)
  obtain ⟨q1, q2, q3⟩ := cof_e c1 c2 ln ht cl o1 o2 o3 o4 o5 ei
  have nm : nmf M K t + 2 = ((j + 3 : Nat) : Int) := by unfold nmf; rw [ei, c1.ga.na j (by omega) o1]; omega
  refine XE_n (C := srt M (nmf M K t + 2) = 3 ∧ (vl M t < 1 ∨ (M 8194113 0 (((M 1433667 0 ((mng M (nmf M K t + 2)))) + 2))) < vl M t)) (D := False) hr (by decide) rfl (fun k => ?_) ?_ Iff.rfl id
  · show (k = 4 ∧ srt M (nmf M K t + 2) = 3 ∧ (vl M t < 1 ∨ (M 8194113 0 (((M 1433667 0 ((mng M (nmf M K t + 2)))) + 2))) < vl M t)) ↔ _
    simp only [and_false, or_false]
  · show _ ↔ (cvt Y t < 1 ∨ cof Y K t 13 < cvt Y t)
    rw [nm, q2, v.1]
    exact ⟨fun z => z.2, fun z => ⟨q1, z⟩⟩
theorem X_18 (c1 : C1 M K T F) (c2 : C2 Y K T F) (ln : LN M Y K F) (ht : t < F) (cl : CL Y K t) (hr : rol K t = 18) : XE M Y K t := by
  have s := dr_18 _ _ hr
  have k3 := k3_of (s1 := 0) c1.ok ht s rfl (fun _ => rfl)
  have v := vl_e ln ht k3
  obtain ⟨a, ea, qa⟩ := st_p s (by decide)
  have pa := dp_42 _ _ qa
  obtain ⟨b, eb, qb⟩ := st_p pa.1 (by decide)
  have pb := dp_41 _ _ qb
  obtain ⟨j, o1, o2, o3, o4, o5, o6⟩ := in_st c1 c2 (show b < F by omega) pb.1
  have nn : nd K (j + 1) t := by
    rw [show t = b + 1 + 1 by omega]
    exact nd_1 o6 (show K (b + 1) = 31 by rw [← eb]; exact pa.2) (by decide)
  have ei : itf K t = dnI K j := itf_d o1 nn (by rw [k3]; decide)
  obtain ⟨q1, q2, q3⟩ := cof_e c1 c2 ln ht cl o1 o2 o3 o4 (by omega) ei
  have nm : nmf M K t + 2 = ((j + 3 : Nat) : Int) := by unfold nmf; rw [ei, c1.ga.na j (by omega) o1]; omega
  refine XE_n (C := srt M (nmf M K t + 2) = 3 ∧ vl M t ≠ 0 ∧ (vl M t < (M 8194113 0 (((M 1433667 0 ((mng M (nmf M K t + 2)))) + 6))) ∨ (M 8194113 0 (((M 1433667 0 ((mng M (nmf M K t + 2)))) + 2))) < vl M t)) (D := False) hr (by decide) rfl (fun k => ?_) ?_ Iff.rfl id
  · show (k = 4 ∧ srt M (nmf M K t + 2) = 3 ∧ vl M t ≠ 0 ∧ (vl M t < (M 8194113 0 (((M 1433667 0 ((mng M (nmf M K t + 2)))) + 6))) ∨ (M 8194113 0 (((M 1433667 0 ((mng M (nmf M K t + 2)))) + 2))) < vl M t)) ↔ _
    simp only [and_false, or_false]
  · show _ ↔ (¬ cvt Y t = 0 ∧ (cvt Y t < cof Y K t 15 ∨ cof Y K t 13 < cvt Y t))
    rw [nm, q2, q3, v.1]
    exact ⟨fun z => z.2, fun z => ⟨q1, z⟩⟩
theorem X_8 (c1 : C1 M K T F) (c2 : C2 Y K T F) (ln : LN M Y K F) (ht : t < F) (cl : CL Y K t) (hr : rol K t = 8) : XE M Y K t := by
  have s := dr_8 _ _ hr
  have k2 := k2_of (s1 := 37) c1.ok ht s rfl (fun _ => rfl)
  obtain ⟨a5, e5, q5⟩ := st_p s (by decide)
  have p5 := dp_36 _ _ q5
  obtain ⟨a4, e4, q4⟩ := st_p p5.1 (by decide)
  have p4 := dp_35 _ _ q4
  obtain ⟨a3, e3, q3⟩ := st_p p4.1 (by decide)
  have p3 := dp_33 _ _ q3
  obtain ⟨a2, e2, q2⟩ := st_p p3.1 (by decide)
  have p2 := dp_32 _ _ q2
  obtain ⟨a1, e1, q1⟩ := st_p p2.1 (by decide)
  have p1 := dp_31 _ _ q1
  obtain ⟨w, w1, w2, w3⟩ := st_it p1.1 (by decide)
  obtain ⟨j, f, o1, o2, o3, o4, o5, o6, o7, o8, o9, _⟩ := nm_own c1 c2 ht
  have ej : w = j := by
    by_cases c : j < w
    · exact absurd w2 (nd_d o3 (by omega) (by omega))
    · by_cases c2' : w < j
      · exfalso
        have l := o1.2.2
        obtain e | e | e | e | e | e : j = a1 ∨ j = a2 ∨ j = a3 ∨ j = a4 ∨ j = a5 ∨ j = t := by omega
        · rw [e, p1.2] at l; omega
        · rw [e, p2.2] at l; omega
        · rw [e, p3.2] at l; omega
        · rw [e, p4.2] at l; omega
        · rw [e, p5.2] at l; omega
        · rw [e, k2] at l; omega
      · omega
  subst ej
  obtain ⟨g1, g2, g3, g4, g5⟩ := alm_e c2 o1 (by rw [w3]; decide) o5 o6
  obtain ⟨h1, h2, h3, h4⟩ := g5 (by rw [show w + 4 = a4 by omega]; exact p4.2)
  have et : t - 1 = w + 5 := by omega
  have s4 : srt M ((w + 5 : Nat) : Int) = 4 := CL_un c1 c2 ln ht cl (show w + 5 < t by omega) h2 h3 rfl (by decide)
  have m5 := mng_eq c1 c2 ln (show w + 5 < F by omega) h2
  obtain ⟨m0, m1, m2⟩ := mng_s c1 s4 (by decide)
  refine XE_m (w := 1) (A := False) (D := srt M (t : Int) = 1 ∧ srt M ((t - 1 : Nat) : Int) = 4 ∧ ¬ wtf M K (mng M ((t - 1 : Nat) : Int)) (mng M (t : Int))) c1 c2 ln ht k2 hr (by decide) rfl (by decide) (fun k => ?_) Iff.rfl id (fun z => ?_)
  · show (k = 3 ∧ srt M (t : Int) ≠ 1) ∨ (k = 5 ∧ srt M (t : Int) = 1 ∧ srt M ((t - 1 : Nat) : Int) = 4 ∧ ¬ wtf M K (mng M ((t - 1 : Nat) : Int)) (mng M (t : Int))) ↔ _
    simp only [and_false, false_or]
  · show _ ↔ ¬ cwt Y K (cio Y K (itf K t) 7) (cmt Y t)
    rw [et, o4, h1, ← m5, ← mng_eq c1 c2 ln ht k2, ← wt_e c1 c2 ln m0 m1]
    exact ⟨fun q => q.2.2, fun q => ⟨z, s4, q⟩⟩
/-- the same NAMES hold both -/
theorem X_4 (c1 : C1 M K T F) (c2 : C2 Y K T F) (ln : LN M Y K F) (ht : t < F) (cl : CL Y K t) (hr : rol K t = 4) : XE M Y K t := by
  obtain ⟨j, f, o1, o2, o3, o4, o5, o6, o7, o8, o9, o10, o11, o12, o13, _⟩ := nm_own c1 c2 ht
  have jt : j + 2 ≤ t := by
    have l := o1.2.2
    by_cases z : t = j
    · rw [z] at hr
      have := dro_it (dst K j) (K j) l o1.1
      unfold rol at hr
      rw [this] at hr
      exact absurd hr (by decide)
    · by_cases z2 : t = j + 1
      · rw [z2, rol_t o1 o6] at hr; exact absurd hr (by decide)
      · omega
  have fam := fm_t c1.ok o1 o6 (t - (j + 2)) (by omega) (by rw [show j + 2 + (t - (j + 2)) = t by omega]; exact ⟨jt, fun x a b => o3.2 x (by omega) (by omega)⟩)
  rw [show j + 2 + (t - (j + 2)) = t by omega] at fam
  have key : K t = 2 ∧ (ahn M K t ↔ can Y K t) ∧ (srt M (t : Int) = 2 → (((M 1433666 0 ((itf K t))) = 5 ∨ iah M K t) ↔ ((Y 1366045 0 ((itf K t))) = 5 ∨ cia Y K (itf K t) t))) := by
    rcases dr_4 _ _ hr with s | s
    · have k2 := k2_of (s1 := 23) c1.ok ht s rfl (fun _ => rfl)
      have nt : nst 22 23 := by unfold nst; decide
      refine ⟨k2, can_e ln ht nt s k2, fun sr => ?_⟩
      have k14 : K j = 14 := fam.1.mp (by omega)
      rw [o12, o13]
      refine or_congr Iff.rfl ?_
      constructor
      · rintro ⟨d, d1, d2, d3, d4⟩
        obtain ⟨b1, b2⟩ := bk_n nt s k2 d2
        have l2 := d2.1
        have ju : j < t - 2 * d := by
          by_cases z : j < t - 2 * d
          · exact z
          · exfalso
            have l := o1.2.2
            obtain ⟨x, e | e⟩ : ∃ x : Nat, j + 2 * x = t ∨ (1 ≤ x ∧ j + 2 * x = t + 1) := ⟨(t - j + 1) / 2, by omega⟩
            · have q := (bk_n (d := x) nt s k2 ⟨by omega, fun y y1 y2 => d2.2 y y1 (by omega)⟩).2
              rw [show t - 2 * x = j by omega] at q; omega
            · have q := d2.2 x e.1 (by omega)
              rw [show t - 2 * x + 1 = j by omega] at q; omega
        have m := mng_eq c1 c2 ln (show t - 2 * d < F by omega) b2
        obtain ⟨m0, m1, m2⟩ := mng_s c1 d3 (by decide)
        refine ⟨t - 2 * d, by rw [o10]; omega, by omega, rol_e b1 b2, ?_⟩
        have q := (pin_e c1 c2 m0 m1).mp d4
        rw [m] at q
        exact q
      · rintro ⟨v, v1, v2, v3, v4⟩
        rw [o10] at v1
        have vF : v < F := by omega
        have sv : dst K v = 22 := by
          rcases dr_4 _ _ v3 with sv | sv
          · exact sv
          · exfalso
            have jv : j + 2 ≤ v := by
              by_cases z2 : v = j + 1
              · rw [z2, rol_t o1 o6] at v3; exact absurd v3 (by decide)
              · omega
            have fv := fm_t c1.ok o1 o6 (v - (j + 2)) (by omega) (by rw [show j + 2 + (v - (j + 2)) = v by omega]; exact ⟨jv, fun x a b => o3.2 x (by omega) (by omega)⟩)
            rw [show j + 2 + (v - (j + 2)) = v by omega] at fv
            have := fv.2.mp (by omega)
            omega
        have kv2 := k2_of (s1 := 23) c1.ok vF sv rfl (fun _ => rfl)
        have sr2 : srt M (v : Int) = 2 := CL_un c1 c2 ln ht cl v2 kv2 v3 rfl (by decide)
        have m := mng_eq c1 c2 ln vF kv2
        obtain ⟨m0, m1, m2⟩ := mng_s c1 sr2 (by decide)
        have pv : pin M (mng M (v : Int)) := (pin_e c1 c2 m0 m1).mpr (by rw [m]; exact v4)
        have eP : ∀ s0 k, dt s0 k = 22 → ((s0 = 18 ∨ s0 = 21 ∨ s0 = 23 ∨ s0 = 25) ∧ k = 24) ∨ (s0 = 23 ∧ k = 4) := fun s0 k q => dp_22 s0 k q
        obtain ⟨p, a, x1, x2, x3, x4⟩ := lst_b (s := 22) (s' := 23) (P := fun s k => (s = 18 ∨ s = 21 ∨ s = 23 ∨ s = 25) ∧ k = 24) (by decide) eP (fun s0 k q => dp_23 s0 k q) v sv kv2
        obtain ⟨p', a', y1, y2, y3, y4⟩ := lst_b (s := 22) (s' := 23) (P := fun s k => (s = 18 ∨ s = 21 ∨ s = 23 ∨ s = 25) ∧ k = 24) (by decide) eP (fun s0 k q => dp_23 s0 k q) t s k2
        have x2 : (dst K p = 18 ∨ dst K p = 21 ∨ dst K p = 23 ∨ dst K p = 25) ∧ K p = 24 := x2
        have y2 : (dst K p' = 18 ∨ dst K p' = 21 ∨ dst K p' = 23 ∨ dst K p' = 25) ∧ K p' = 24 := y2
        have rp : ∀ q : Nat, ((dst K q = 18 ∨ dst K q = 21 ∨ dst K q = 23 ∨ dst K q = 25) ∧ K q = 24) → rol K q = 2 := fun q z => by
          unfold rol
          rw [z.2]
          rcases z.1 with e | e | e | e <;> rw [e] <;> rfl
        have jp : j < p := by
          by_cases z : p < j
          · exact (lst_j o1 x1 x3 (fun c l => (x4 c l).1) z (by omega)).elim
          · by_cases z2 : p = j
            · have l := o1.2.2
              rw [← z2, x2.2] at l
              omega
            · omega
        have ep : p = p' := by
          by_cases z : p < p'
          · exfalso
            have kf := (KF_0.mp (cl p' (by omega))).1
            have rp' := rp p' y2
            rw [rp'] at kf
            refine kf ?_
            show cpa Y K p'
            have ei : itf K p' = dnI K j := itf_d o1 ⟨by omega, fun x a b => o3.2 x a (by omega)⟩ (by rw [y2.2]; decide)
            refine ⟨p, ?_, z, rp p x2, by rw [x2.2, y2.2]⟩
            rw [ei, ← o4, o10]
            omega
          · by_cases z2 : p' < p
            · exfalso
              obtain ⟨x, e | e⟩ : ∃ x : Nat, p = p' + 1 + 2 * x ∨ p = p' + 2 + 2 * x := ⟨(p - p' - 1) / 2, by omega⟩
              · have q := (y4 x (by omega)).1
                rw [← e, x2.2] at q; exact absurd q (by decide)
              · have q := y3 x (by omega)
                rw [← e, x2.2] at q; exact absurd q (by decide)
            · omega
        subst ep
        refine ⟨a' - a, by omega, ⟨by omega, fun e e1 e2 => ?_⟩, ?_, ?_⟩
        · rw [show t - 2 * e + 1 = p + 2 + 2 * (a' - e) by omega]
          exact y3 _ (by omega)
        · rw [show t - 2 * (a' - a) = v by omega]; exact sr2
        · rw [show t - 2 * (a' - a) = v by omega]; exact pv
    · have k2 := k2_of (s1 := 30) c1.ok ht s rfl (fun _ => rfl)
      have nt : nst 29 30 := by unfold nst; decide
      have k15 : K j = 15 := fam.2.mp (by omega)
      refine ⟨k2, can_e ln ht nt s k2, fun sr => ?_⟩
      rw [o12, o13, k15]
      exact ⟨fun _ => Or.inl rfl, fun _ => Or.inl rfl⟩
  obtain ⟨k2, kA, kD⟩ := key
  refine XE_m (w := 2) (A := ahn M K t) (D := srt M (t : Int) = 2 ∧ pin M (mng M (t : Int)) ∧ ((M 1433666 0 ((itf K t))) = 5 ∨ iah M K t)) c1 c2 ln ht k2 hr (by decide) rfl (by decide) (fun k => Iff.rfl) kA id (fun z => ?_)
  obtain ⟨m0, m1, m2⟩ := mng_s c1 z (by decide)
  show _ ↔ (cin Y K (cmt Y t) ∧ ((Y 1366045 0 ((itf K t))) = 5 ∨ cia Y K (itf K t) t))
  rw [← mng_eq c1 c2 ln ht k2, ← pin_e c1 c2 m0 m1, ← kD z]
  exact ⟨fun q => q.2, fun q => ⟨z, q⟩⟩
theorem X_t (c1 : C1 M K T F) (c2 : C2 Y K T F) (ln : LN M Y K F) (ht : t < F) (cl : CL Y K t) : XE M Y K t := by
  have rb : 0 ≤ rol K t ∧ rol K t ≤ 18 := dro_b (dst K t) (K t)
  obtain r | r | r | r | r | r | r | r | r | r | r | r | r | r : rol K t = 0 ∨ rol K t = 1 ∨ rol K t = 2 ∨ rol K t = 3 ∨ rol K t = 4 ∨ (rol K t = 5 ∨ rol K t = 6 ∨ rol K t = 7) ∨ rol K t = 8 ∨ rol K t = 9 ∨ rol K t = 10 ∨ (rol K t = 11 ∨ rol K t = 13 ∨ rol K t = 14 ∨ rol K t = 16) ∨ rol K t = 12 ∨ rol K t = 15 ∨ rol K t = 17 ∨ rol K t = 18 := by omega
  · exact X_0 r
  · exact X_1 c1 c2 ln ht r
  · exact X_2 c1 c2 ht r
  · exact X_3 c1 c2 ln ht r
  · exact X_4 c1 c2 ln ht cl r
  · exact X_567 c1 c2 ln ht r
  · exact X_8 c1 c2 ln ht cl r
  · exact X_9 c1 c2 ln ht r
  · exact X_10 c1 c2 ln ht r
  · exact X_nums c1 ln ht r
  · exact X_12 c1 c2 ln ht r
  · exact X_15 c1 c2 ln ht r
  · exact X_17 c1 c2 ln ht cl r
  · exact X_18 c1 c2 ln ht cl r
/-- the FAULT of both -/
theorem fault_eq (c1 : C1 M K T F) (c2 : C2 Y K T F) (ln : LN M Y K F) : ((∀ t : Nat, t < F → KF Y K t 0) → ∀ t k, ¬ SN M K F noQ t k) ∧ (∀ (t : Nat) (k : Int), t < F → KF Y K t k → ¬ k = 0 → CL Y K t → SN M K F noQ (t : Int) k ∧ ∀ t' k', SN M K F noQ t' k' → (t : Int) < t' ∨ ((t : Int) = t' ∧ k ≤ k')) := by
  constructor
  · rintro h t k (⟨u, u1, u2, u3⟩ | ⟨_, u⟩)
    · obtain ⟨k', q1, q2, q3⟩ := XE_A (X_t c1 c2 ln u1 (fun w hw => h w (by omega))) u3
      exact q2 (KF_u q1 (h u u1))
    · exact u
  · intro t k ht hk h0 cl
    refine ⟨Or.inl ⟨t, ht, rfl, XE_B (X_t c1 c2 ln ht cl) hk h0⟩, ?_⟩
    rintro t' k' (⟨u, u1, u2, u3⟩ | ⟨_, u⟩)
    · by_cases c : u < t
      · exfalso
        obtain ⟨k'', q1, q2, q3⟩ := XE_A (X_t c1 c2 ln u1 (fun w hw => cl w (by omega))) u3
        exact q2 (KF_u q1 (cl u c))
      · by_cases c2' : u = t
        · subst c2'
          obtain ⟨k'', q1, q2, q3⟩ := XE_A (X_t c1 c2 ln u1 cl) u3
          have := KF_u q1 hk
          exact Or.inr ⟨u2.symm, by omega⟩
        · exact Or.inl (by omega)
    · exact absurd u id
end EQ5
