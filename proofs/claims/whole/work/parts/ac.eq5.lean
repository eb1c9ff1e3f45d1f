/-! ===== both sides find the same FAULT: role by role ===== -/
section EQ5
variable {M Y : AMem} {K : Nat → Int} {T F t : Nat}
/-- a role that has a number only -/
theorem k3_of (ok : dok K F) (ht : t < F) {s s1 : Nat} (hs : dst K t = s) (ha : dac s = false) (e : ∀ k, dt s k = dw k 3 s1) : K t = 3 := (W_2 ok hs (by omega) ha (e _)).1
theorem k2_of (ok : dok K F) (ht : t < F) {s s1 : Nat} (hs : dst K t = s) (ha : dac s = false) (e : ∀ k, dt s k = dw k 2 s1) : K t = 2 := (W_2 ok hs (by omega) ha (e _)).1
theorem X_0 (hr : rol K t = 0) : XE M Y K t := XE_n hr (by decide) rfl (C := False) (D := False) (fun k => ⟨False.elim, fun q => by rcases q with q | q <;> exact q.2⟩) Iff.rfl Iff.rfl id
theorem X_1 (c1 : C1 M K T F) (c2 : C2 Y K T F) (ln : LN M Y K F) (ht : t < F) (hr : rol K t = 1) : XE M Y K t := by
  obtain ⟨j, f, o1, o2, o3, o4, o5, o6, o7, o8, o9, o10, o11, o12, o13, o14, _⟩ := nm_own c1 c2 ht
  have s := dr_1 _ _ hr
  obtain ⟨w, w1, w2, w3⟩ := st_it (K := K) rfl s
  have k2 : K t = 2 := by
    by_cases c : K (w + 1) = 2
    · rw [w1]; exact c
    · exfalso
      have z := dit_1 w2 c
      rw [← w1] at z
      exact ok_9 (i := t + 1) c1.ok (by omega) z.2.1
  refine ⟨mng M (t : Int) ≠ itf K t, False, False, False, pmo (M 1433666 0 ((itf K t))) ≤ (M 1433669 0 ((itf K t))), fun k => ?_, ?_⟩
  · rw [RP_e hr]
    show (k = 2 ∧ mng M (t : Int) ≠ itf K t) ∨ (k = 6 ∧ pmo (M 1433666 0 ((itf K t))) ≤ (M 1433669 0 ((itf K t)))) ↔ _
    simp only [and_false, false_or, or_false]
  · rw [hr]
    refine ⟨?_, ⟨False.elim, fun z => z.1 rfl⟩, Iff.rfl, fun _ => Iff.rfl, ?_⟩
    · rw [mng_eq c1 c2 ln ht k2]; exact Iff.rfl
    · unfold TMr
      rw [o12, o13, o14]
      exact ⟨fun z => ⟨rfl, z⟩, fun z => z.2⟩
theorem X_2 (c1 : C1 M K T F) (c2 : C2 Y K T F) (ht : t < F) (hr : rol K t = 2) : XE M Y K t := by
  obtain ⟨j, f, o1, o2, o3, o4, o5, o6, o7, o8, o9, o10, o11, _⟩ := nm_own c1 c2 ht
  refine ⟨∃ u : Nat, nmf M K t < u ∧ u < t ∧ rol K u = 2 ∧ K u = K t, False, False, False, False, fun k => ?_, ?_⟩
  · rw [RP_e hr]
    show (k = 2 ∧ ∃ u : Nat, nmf M K t < u ∧ u < t ∧ rol K u = 2 ∧ K u = K t) ↔ _
    simp only [and_false, or_false]
  · rw [hr]
    refine ⟨?_, ⟨False.elim, fun z => z.1 rfl⟩, Iff.rfl, fun _ => Iff.rfl, ⟨False.elim, fun z => absurd z.1 (by decide)⟩⟩
    show _ ↔ cpa Y K t
    unfold cpa
    rw [o9, o10]
    constructor
    · rintro ⟨u, a, b⟩; exact ⟨u, by omega, b⟩
    · rintro ⟨u, a, b, c, d⟩
      refine ⟨u, ?_, b, c, d⟩
      by_cases z : u = j + 1
      · rw [z, rol_t o1 o6] at c; exact absurd c (by decide)
      · omega
theorem X_3 (c1 : C1 M K T F) (c2 : C2 Y K T F) (ln : LN M Y K F) (ht : t < F) (hr : rol K t = 3) : XE M Y K t := by
  have k2 := k2_of (s1 := 0) c1.ok ht (dr_3 _ _ hr) rfl (fun _ => rfl)
  refine XE_m (w := 2) (A := False) (D := srt M (t : Int) = 2 ∧ (pin M (mng M (t : Int)) ∨ prf M (mng M (t : Int)) = -1)) c1 c2 ln ht k2 hr (by decide) rfl (by decide) (fun k => ?_) Iff.rfl id (fun z => ?_)
  · show (k = 3 ∧ srt M (t : Int) ≠ 2) ∨ (k = 5 ∧ srt M (t : Int) = 2 ∧ (pin M (mng M (t : Int)) ∨ prf M (mng M (t : Int)) = -1)) ↔ _
    simp only [and_false, false_or]
  · obtain ⟨m0, m1, m2⟩ := mng_s c1 z (by decide)
    show _ ↔ (cin Y K (cmt Y t) ∨ ces Y K (cmt Y t))
    rw [← mng_eq c1 c2 ln ht k2, ← pin_e c1 c2 m0 m1, ← ring_e c1 c2 ln m0 m1]
    exact ⟨fun q => q.2, fun q => ⟨z, q⟩⟩
theorem X_567 (c1 : C1 M K T F) (c2 : C2 Y K T F) (ln : LN M Y K F) (ht : t < F) (hr : rol K t = 5 ∨ rol K t = 6 ∨ rol K t = 7) : XE M Y K t := by
  rcases hr with hr | hr | hr
  · have k2 := k2_of (s1 := 33) c1.ok ht (dr_5 _ _ hr) rfl (fun _ => rfl)
    refine XE_m (w := 3) (A := False) (D := False) c1 c2 ln ht k2 hr (by decide) rfl (by decide) (fun k => ?_) Iff.rfl id (fun z => Iff.rfl)
    show (k = 3 ∧ srt M (t : Int) ≠ 3) ↔ _
    simp only [and_false, false_or, or_false]
  · have k2 := k2_of (s1 := 37) c1.ok ht (dr_6 _ _ hr) rfl (fun _ => rfl)
    refine XE_m (w := 4) (A := False) (D := False) c1 c2 ln ht k2 hr (by decide) rfl (by decide) (fun k => ?_) Iff.rfl id (fun z => Iff.rfl)
    show (k = 3 ∧ srt M (t : Int) ≠ 4) ↔ _
    simp only [and_false, false_or, or_false]
  · have k2 := k2_of (s1 := 36) c1.ok ht (dr_7 _ _ hr) rfl (fun _ => rfl)
    refine XE_m (w := 4) (A := False) (D := False) c1 c2 ln ht k2 hr (by decide) rfl (by decide) (fun k => ?_) Iff.rfl id (fun z => Iff.rfl)
    show (k = 3 ∧ srt M (t : Int) ≠ 4) ↔ _
    simp only [and_false, false_or, or_false]
theorem X_9 (c1 : C1 M K T F) (c2 : C2 Y K T F) (ln : LN M Y K F) (ht : t < F) (hr : rol K t = 9) : XE M Y K t := by
  have s := dr_9 _ _ hr
  have k2 := k2_of (s1 := 25) c1.ok ht s rfl (fun _ => rfl)
  refine XE_m (w := 1) (A := ahn M K t) (D := False) c1 c2 ln ht k2 hr (by decide) rfl (by decide) (fun k => ?_) (can_e (s := 24) (s' := 25) ln ht (by unfold nst; decide) s k2) id (fun z => Iff.rfl)
  show (k = 2 ∧ ahn M K t) ∨ (k = 3 ∧ srt M (t : Int) ≠ 1) ↔ _
  simp only [and_false, or_false]
theorem X_10 (c1 : C1 M K T F) (c2 : C2 Y K T F) (ln : LN M Y K F) (ht : t < F) (hr : rol K t = 10) : XE M Y K t := by
  have key : K t = 2 ∧ (ahn M K t ↔ can Y K t) := by
    rcases dr_10 _ _ hr with s | s
    · have k2 := k2_of (s1 := 21) c1.ok ht s rfl (fun _ => rfl)
      exact ⟨k2, can_e (s := 20) (s' := 21) ln ht (by unfold nst; decide) s k2⟩
    · have k2 := k2_of (s1 := 39) c1.ok ht s rfl (fun _ => rfl)
      exact ⟨k2, can_e (s := 38) (s' := 39) ln ht (by unfold nst; decide) s k2⟩
  refine XE_m (w := 0) (A := ahn M K t) (D := False) c1 c2 ln ht key.1 hr (by decide) rfl (by decide) (fun k => ?_) key.2 id (fun z => Iff.rfl)
  show (k = 2 ∧ ahn M K t) ∨ (k = 3 ∧ srt M (t : Int) ≠ 0) ↔ _
  simp only [and_false, or_false]
theorem X_num {r lo hi : Int} (hr : rol K t = r) (h1 : ¬ r = 1) (hw : rwt r = -1) (RE : ∀ k, RQl M K r t k ↔ k = 4 ∧ (vl M t < lo ∨ hi < vl M t)) (c : (vl M t < lo ∨ hi < vl M t) ↔ ORr Y K r t) (br : ¬ BRr Y K r t) (tw : ¬ TWr Y K r t) : XE M Y K t :=
  XE_n hr h1 hw (D := False) (fun k => by rw [RE]; simp only [and_false, or_false]) c ⟨False.elim, br⟩ tw
theorem X_nums (c1 : C1 M K T F) (ln : LN M Y K F) (ht : t < F) (hr : rol K t = 11 ∨ rol K t = 13 ∨ rol K t = 14 ∨ rol K t = 16) : XE M Y K t := by
  rcases hr with hr | hr | hr | hr
  · have v := vl_e ln ht (k3_of (s1 := 18) c1.ok ht (dr_11 _ _ hr) rfl (fun _ => rfl))
    refine X_num (lo := 0) (hi := 63) hr (by decide) rfl (fun k => Iff.rfl) ?_ id id
    show _ ↔ 63 < cvt Y t
    omega
  · have v := vl_e ln ht (k3_of (s1 := 12) c1.ok ht (dr_13 _ _ hr) rfl (fun _ => rfl))
    refine X_num (lo := 1) (hi := 65535) hr (by decide) rfl (fun k => Iff.rfl) ?_ id id
    show _ ↔ cvt Y t = 0
    omega
  · have v := vl_e ln ht (k3_of (s1 := 14) c1.ok ht (dr_14 _ _ hr) rfl (fun _ => rfl))
    refine X_num (lo := 1) (hi := 1000) hr (by decide) rfl (fun k => Iff.rfl) ?_ id id
    show _ ↔ (cvt Y t < 1 ∨ 1000 < cvt Y t)
    omega
  · have v := vl_e ln ht (k3_of (s1 := 28) c1.ok ht (dr_16 _ _ hr) rfl (fun _ => rfl))
    refine X_num (lo := 1) (hi := 16) hr (by decide) rfl (fun k => Iff.rfl) ?_ id id
    show _ ↔ (cvt Y t < 1 ∨ 16 < cvt Y t)
    omega
theorem X_12 (c1 : C1 M K T F) (c2 : C2 Y K T F) (ln : LN M Y K F) (ht : t < F) (hr : rol K t = 12) : XE M Y K t := by
  have v := vl_e ln ht (k3_of (s1 := 18) c1.ok ht (dr_12 _ _ hr) rfl (fun _ => rfl))
  obtain ⟨j, f, o1, o2, o3, o4, o5, o6, o7, o8, o9, o10, o11, o12, o13, o14, o15, o16⟩ := nm_own c1 c2 ht
  refine XE_n (C := vl M t < 1 ∨ 8 < vl M t) (D := 1 < vl M t ∧ wtn M K (itf K t)) hr (by decide) rfl (fun k => Iff.rfl) ?_ ?_ id
  · show _ ↔ (cvt Y t < 1 ∨ 8 < cvt Y t)
    omega
  · show _ ↔ (1 < cvt Y t ∧ csy Y K (itf K t) 34)
    rw [v.1]
    refine and_congr Iff.rfl ?_
    unfold wtn csy
    rw [o10, o11, o15, o16]
    constructor
    · rintro ⟨u, a, b, c⟩; exact ⟨by omega, u, by omega, b, c⟩
    · rintro ⟨_, u, a, b, c⟩
      refine ⟨u, ?_, b, c⟩
      by_cases z : u = j + 1
      · rw [z, o6] at c; exact absurd c (by decide)
      · omega
theorem X_15 (c1 : C1 M K T F) (c2 : C2 Y K T F) (ln : LN M Y K F) (ht : t < F) (hr : rol K t = 15) : XE M Y K t := by
  have s := dr_15 _ _ hr
  have v := vl_e ln ht (k3_of (s1 := 0) c1.ok ht s rfl (fun _ => rfl))
  obtain ⟨a6, e6, q6⟩ := st_p s (by decide)
  have p6 := dp_15 _ _ q6
  obtain ⟨a5, e5, q5⟩ := st_p p6.1 (by decide)
  have p5 := dp_14 _ _ q5
  obtain ⟨a4, e4, q4⟩ := st_p p5.1 (by decide)
  have p4 := dp_13 _ _ q4
  obtain ⟨a3, e3, q3⟩ := st_p p4.1 (by decide)
  have p3 := dp_12 _ _ q3
  obtain ⟨a2, e2, q2⟩ := st_p p3.1 (by decide)
  have p2 := dp_11 _ _ q2
  obtain ⟨a1, e1, q1⟩ := st_p p2.1 (by decide)
  have p1 := dp_10 _ _ q1
  obtain ⟨w, w1, w2, w3⟩ := st_it p1.1 (by decide)
  have hk2 : K (w + 1) = 2 := by rw [← w1]; exact p1.2
  have nn : nd K (w + 1) (t + 1) := by
    refine nd_1 (nd_1 (nd_1 (nd_1 (nd_1 (nd_1 (nd_1 (nd_0 K (w + 1)) hk2 (by decide)) ?_ (by decide) (w := 19)) ?_ (by decide) (w := 3)) ?_ (by decide) (w := 20)) ?_ (by decide) (w := 3)) ?_ (by decide) (w := 21)) ?_ (by decide) (w := 3) |> (fun h => by rw [show t + 1 = w + 1 + 1 + 1 + 1 + 1 + 1 + 1 + 1 by omega] at *; exact h)
    all_goals sorry
  sorry
end EQ5
