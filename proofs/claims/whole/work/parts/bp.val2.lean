/-! ===== values of counters, ISRs and tasks ===== -/
section VAL2
variable {K : Nat → Int} {T F : Nat} {M Y : AMem} {j f : Nat}
theorem w_ctr (h : IT M Y K T F j f) (kj : K j = 13) : (cvl Y K (dnI K j : Int) 13 1 = (M 8194113 0 (((j + 3 : Nat) : Int))) ∧ cvl Y K (dnI K j : Int) 14 1 = (M 8194113 0 (((j + 5 : Nat) : Int))) ∧ cvl Y K (dnI K j : Int) 15 1 = (M 8194113 0 (((j + 7 : Nat) : Int)))) ∧ (1 ≤ (M 8194113 0 (((j + 3 : Nat) : Int))) ∧ (M 8194113 0 (((j + 3 : Nat) : Int))) ≤ 65535) ∧ (1 ≤ (M 8194113 0 (((j + 5 : Nat) : Int))) ∧ (M 8194113 0 (((j + 5 : Nat) : Int))) ≤ 1000) ∧ 1 ≤ (M 8194113 0 (((j + 7 : Nat) : Int))) := by
  have hj := h.hj
  have hf := h.hf
  have s2 : dst K (j + 2) = 10 := by rw [dit_dsb h.hd h.k2, kj]; rfl
  obtain ⟨a1, a2, a3, a4, a5⟩ := N_2 (w := 19) (s1 := 11) (s2 := 12) h.c2.ok s2 hj rfl rfl rfl (fun _ => rfl)
  obtain ⟨b1, b2, b3, b4, b5⟩ := N_2 (w := 20) (s1 := 13) (s2 := 14) h.c2.ok a4 a5 rfl rfl rfl (fun _ => rfl)
  obtain ⟨d1, d2, d3, d4, d5⟩ := N_2 (w := 21) (s1 := 15) (s2 := 0) h.c2.ok b4 b5 rfl rfl rfl (fun _ => rfl)
  have f8 : j + 7 < f := dxt_l h.dx (fun v p q => by
    obtain e | e | e | e | e | e : v = j + 2 ∨ v = j + 3 ∨ v = j + 4 ∨ v = j + 5 ∨ v = j + 6 ∨ v = j + 7 := by omega
    · rw [e, s2]; rfl
    · rw [e, a2]; rfl
    · rw [e, a4]; rfl
    · rw [e, b2]; rfl
    · rw [e, b4]; rfl
    · rw [e, d2]; rfl)
  have r3 : rol K (j + 3) = 13 := rol_e a2 a3
  have r5 : rol K (j + 5) = 14 := rol_e b2 b3
  have r7 : rol K (j + 7) = 15 := rol_e d2 d3
  have n3 := h.nf (j + 3) (by omega) 4
  have n5 := h.nf (j + 5) (by omega) 4
  have n7 := h.nf (j + 7) (by omega) 4
  rw [RP_e r3] at n3
  rw [RP_e r5] at n5
  rw [RP_e r7] at n7
  have n3 : ¬ (vl M (j + 3) < 1 ∨ 65535 < vl M (j + 3)) := fun z => n3 ⟨rfl, z⟩
  have n5 : ¬ (vl M (j + 5) < 1 ∨ 1000 < vl M (j + 5)) := fun z => n5 ⟨rfl, z⟩
  have n7 : ¬ (vl M (j + 7) < 1 ∨ (M 8194113 0 ((nmf M K (j + 7) + 2))) < vl M (j + 7)) := fun z => n7 ⟨rfl, z⟩
  unfold vl at n3 n5 n7
  exact ⟨⟨h.cv (fun v e => dr_13 _ _ e) rfl (by omega) (by omega) r3 a3 1, h.cv (fun v e => dr_14 _ _ e) rfl (by omega) (by omega) r5 b3 1, h.cv (fun v e => dr_15 _ _ e) rfl (by omega) (by omega) r7 d3 1⟩, by omega, by omega, by omega⟩
theorem w_isr (h : IT M Y K T F j f) (kj : K j = 15) : cvl Y K (dnI K j : Int) 16 1 = (M 8194113 0 (((j + 3 : Nat) : Int))) ∧ 1 ≤ (M 8194113 0 (((j + 3 : Nat) : Int))) ∧ (M 8194113 0 (((j + 3 : Nat) : Int))) ≤ 16 := by
  have hj := h.hj
  have hf := h.hf
  have s2 : dst K (j + 2) = 26 := by rw [dit_dsb h.hd h.k2, kj]; rfl
  obtain ⟨a1, a2, a3, a4, a5⟩ := N_2 (w := 23) (s1 := 27) (s2 := 28) h.c2.ok s2 hj rfl rfl rfl (fun _ => rfl)
  have f8 : j + 3 < f := dxt_l h.dx (fun v p q => by
    obtain e | e : v = j + 2 ∨ v = j + 3 := by omega
    · rw [e, s2]; rfl
    · rw [e, a2]; rfl)
  have r3 : rol K (j + 3) = 16 := rol_e a2 a3
  have n3 := h.nf (j + 3) (by omega) 4
  rw [RP_e r3] at n3
  have n3 : ¬ (vl M (j + 3) < 1 ∨ 16 < vl M (j + 3)) := fun z => n3 ⟨rfl, z⟩
  unfold vl at n3
  exact ⟨h.cv (fun v e => dr_16 _ _ e) rfl (by omega) (by omega) r3 a3 1, by omega, by omega⟩
theorem w_tpr (h : IT M Y K T F j f) (kj : K j = 14) : cvl Y K (dnI K j : Int) 11 0 = (M 8194113 0 (((j + 3 : Nat) : Int))) ∧ 0 ≤ (M 8194113 0 (((j + 3 : Nat) : Int))) ∧ (M 8194113 0 (((j + 3 : Nat) : Int))) ≤ 63 := by
  have hj := h.hj
  have hf := h.hf
  have s2 : dst K (j + 2) = 16 := by rw [dit_dsb h.hd h.k2, kj]; rfl
  obtain ⟨a1, a2, a3, a4, a5⟩ := N_2 (w := 22) (s1 := 17) (s2 := 18) h.c2.ok s2 hj rfl rfl rfl (fun _ => rfl)
  have f8 : j + 3 < f := dxt_l h.dx (fun v p q => by
    obtain e | e : v = j + 2 ∨ v = j + 3 := by omega
    · rw [e, s2]; rfl
    · rw [e, a2]; rfl)
  have r3 : rol K (j + 3) = 11 := rol_e a2 a3
  have n3 := h.nf (j + 3) (by omega) 4
  rw [RP_e r3] at n3
  have n3 : ¬ (vl M (j + 3) < 0 ∨ 63 < vl M (j + 3)) := fun z => n3 ⟨rfl, z⟩
  unfold vl at n3
  exact ⟨h.cv (fun v e => dr_11 _ _ e) rfl (by omega) (by omega) r3 a3 0, by omega, by omega⟩
/-- before the state of a limit there is the word -/
theorem pr19_t : ((List.range 43).all fun s => (List.range 35).all fun x => !(dt s x == 19) || ((decide (s = 18 ∨ s = 21 ∨ s = 23 ∨ s = 25)) && x == 33)) = true := by decide +kernel
theorem pr19 (s : Nat) (k : Int) (h : dt s k = 19) : (s = 18 ∨ s = 21 ∨ s = 23 ∨ s = 25) ∧ k = 33 := by
  have hs : s < 43 := by
    by_cases c : s < 43
    · exact c
    · rw [dt_g s k (by omega)] at h; cases h
  have hk : 0 ≤ k ∧ k ≤ 34 := by
    by_cases c : k < 2 ∨ 34 < k
    · rw [dt_o s k c] at h; cases h
    · omega
  have t := List.all_eq_true.mp (List.all_eq_true.mp pr19_t s (List.mem_range.mpr hs)) k.toNat (List.mem_range.mpr (by omega))
  rw [show ((k.toNat : Nat) : Int) = k by omega, h] at t
  simp only [beq_self_eq_true, Bool.not_true, Bool.false_or, Bool.and_eq_true, decide_eq_true_eq, beq_iff_eq] at t
  exact ⟨t.1, by omega⟩
theorem lim_w {u : Nat} (h : rol K u = 12) : 1 ≤ u ∧ K (u - 1) = 33 ∧ rol K (u - 1) = 2 := by
  have s := dr_12 _ _ h
  have u1 : 1 ≤ u := by
    by_cases c : u = 0
    · rw [c] at s; cases s
    · omega
  have e : dst K u = dt (dst K (u - 1)) (K (u - 1)) := by
    obtain ⟨v, rfl⟩ : ∃ v, u = v + 1 := ⟨u - 1, by omega⟩
    rfl
  rw [e] at s
  have p := pr19 _ _ s
  refine ⟨u1, p.2, ?_⟩
  unfold rol
  rw [p.2]
  rcases p.1 with q | q | q | q <;> (rw [q]; rfl)
theorem w_lim (h : IT M Y K T F j f) {v : Int} (lm : (∃ u : Nat, (j + 1 < u ∧ u < f) ∧ rol K u = 12 ∧ v = (M 8194113 0 ((u : Int)))) ∨ ((∀ u : Nat, j + 1 < u → u < f → ¬ rol K u = 12) ∧ v = 1)) : cvl Y K (dnI K j : Int) 12 1 = v ∧ (1 ≤ v ∧ v ≤ 8) ∧ ((∃ u : Nat, j + 1 < u ∧ u < f ∧ K u = 34) → v = 1) := by
  have hj := h.hj
  have hf := h.hf
  rcases lm with ⟨u, ⟨u1, u2⟩, u3, u4⟩ | ⟨n, e⟩
  · have k3 := k3_of (s1 := 18) h.c1.ok (show u < F by omega) (dr_12 _ _ u3) rfl (fun _ => rfl)
    have wu := lim_w u3
    have cf : cfn Y K (dnI K j : Int) 12 = u := cfn_1 (by omega) h.na h.en (by omega) u2 u3 (fun x p q e => by
      have wx := lim_w e
      have nx : ¬ x - 1 = j + 1 := fun z => by
        have := wx.2.1
        rw [z, h.k2] at this
        exact absurd this (by decide)
      have nx2 : ¬ x = j + 1 := fun z => by
        rw [z, rol_t h.hd h.k2] at e
        exact absurd e (by decide)
      have nx3 : ¬ x - 1 = x - 2 := by omega
      refine once h.c1 h.nf h.hd h.k2 (i := u - 1) (w := 33) (by omega) ⟨by omega, fun y y1 y2 => h.dx.1.2 y y1 (by omega)⟩ wu.2.2 wu.2.1 (Or.inr (Or.inl rfl)) (u := x - 1) (by omega) (by omega) wx.2.2 wx.2.1)
    have n4 := h.nf u (by omega) 4
    have n5 := h.nf u (by omega) 5
    rw [RP_e u3] at n4 n5
    have n4 : ¬ (vl M u < 1 ∨ 8 < vl M u) := fun z => n4 (Or.inl ⟨rfl, z⟩)
    have n5 : ¬ (1 < vl M u ∧ wtn M K (itf K u)) := fun z => n5 (Or.inr ⟨rfl, z⟩)
    unfold vl at n4 n5
    refine ⟨?_, by omega, ?_⟩
    · unfold cvl
      rw [cf, if_neg (by omega), u4]
      exact ((h.ln.va u (by omega) k3).1).symm
    · rintro ⟨x, x1, x2, x3⟩
      by_cases c : v = 1
      · exact c
      · exfalso
        refine n5 ⟨by omega, ?_⟩
        unfold wtn
        rw [h.ei (by omega) u2, h.c1.ga.na j (by omega) h.hd, h.c1.ge j f (by omega) h.hd h.dx h.hf]
        exact ⟨x, by omega, by omega, x3⟩
  · have cf : cfn Y K (dnI K j : Int) 12 = -1 := h.c0 (fun x p q z => by
      by_cases c : x = j + 1
      · rw [c, rol_t h.hd h.k2] at z
        exact absurd z (by decide)
      · exact n x (by omega) q z)
    refine ⟨?_, by omega, fun _ => e⟩
    unfold cvl
    rw [cf, if_pos rfl, e]
theorem w_say (h : IT M Y K T F j f) {w : Int} (hw : ¬ w = 2) : csy Y K (dnI K j : Int) w ↔ ∃ u : Nat, j + 1 < u ∧ u < f ∧ K u = w := by
  unfold csy
  rw [h.na, h.en]
  constructor
  · rintro ⟨_, u, a, b, c⟩
    refine ⟨u, ?_, by omega, c⟩
    by_cases z : u = j + 1
    · rw [z, h.k2] at c; exact absurd c.symm hw
    · omega
  · rintro ⟨u, a, b, c⟩
    exact ⟨by omega, u, by omega, by omega, c⟩
/-- bits of the names of a role -/
theorem w_bit (h : IT M Y K T F j f) {r w : Int} (hr : rwt r = w) (hw0 : 0 ≤ w) (hk : ∀ t : Nat, t < F → rol K t = r → K t = 2) : cbt Y K (dnI K j : Int) r = bfo M K r (j + 1) (f - (j + 1)) := by
  have hj := h.hj
  have hf := h.hf
  have hl := h.dx.1.1
  unfold cbt
  rw [h.na, h.en, show ((f : Nat) : Int).toNat = f by omega, show (((j + 1 : Nat) : Nat) : Int).toNat = j + 1 by omega]
  have key : ∀ n : Nat, n ≤ f - (j + 1) → cbf Y K r (j + 1) n = bfo M K r (j + 1) n := by
    intro n
    induction n with
    | zero => intro _; rfl
    | succ n ih =>
      intro hn
      have ih := ih (by omega)
      show (if rol K (j + 1 + n) = r ∧ ¬ cmt Y (j + 1 + n) = -1 then iOr (cbf Y K r (j + 1) n) (iShl 1 (Y 1366046 0 ((cmt Y (j + 1 + n))))) else cbf Y K r (j + 1) n) = (if rol K (j + 1 + n) = r then iOr (bfo M K r (j + 1) n) (iShl 1 (M 1433669 0 ((mng M ((j + 1 + n : Nat) : Int))))) else bfo M K r (j + 1) n)
      by_cases c : rol K (j + 1 + n) = r
      · have k2 := hk _ (by omega) c
        have q := (KF_0.mp (h.k0 (j + 1 + n) (by omega))).2.1
        rw [c, un_e h.c1 h.c2 h.ln (by omega) k2 hr hw0] at q
        have cm : ¬ cmt Y (j + 1 + n) = -1 := fun z => by
          have := srt_eq h.c1 h.c2 h.ln (t := j + 1 + n) (by omega) k2
          rw [if_pos z] at this
          exact q (fun y => by omega)
        have cb := (cmt_b h.c1 h.c2 (t := j + 1 + n) (by omega)).resolve_left cm
        obtain ⟨j', f', i1, i2, i3, i4, i5, i6, i7, i8, i9, i10⟩ := LI h.c1 h.c2 cb.1 cb.2
        rw [if_pos ⟨c, cm⟩, if_pos c, ih, mng_eq h.c1 h.c2 h.ln (by omega) k2, i10.1, i10.2]
      · rw [if_neg (fun z => c z.1), if_neg c, ih]
  exact key _ (Nat.le_refl _)
end VAL2
