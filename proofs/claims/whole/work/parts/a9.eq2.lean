/-! ===== both sides see the same: what an ITEM's tokens say ===== -/
section EQ2
variable {M Y : AMem} {K : Nat → Int} {T F : Nat} {m : Int}
theorem cfn_1 {r : Int} {a f u : Nat} (hm : ¬ m = -1) (h1 : (Y 1366047 0 (m)) = (a : Nat)) (h2 : (Y 1366048 0 (m)) = (f : Nat)) (hu : a ≤ u) (hf : u < f) (hr : rol K u = r) (hn : ∀ v : Nat, a ≤ v → v < u → ¬ rol K v = r) : cfn Y K m r = u := by
  unfold cfn
  rw [if_neg hm, h1, h2]
  rcases fnd_spec (fun u => decide (rol K u = r)) ((f : Int).toNat - (a : Int).toNat) (a : Int).toNat with ⟨h, q⟩ | ⟨w, q1, q2, q3, q4, q5⟩
  · have := q u (by omega) (by omega)
    rw [decide_eq_false_iff_not] at this
    exact absurd hr this
  · rw [q1]
    have q4 := of_decide_eq_true q4
    by_cases c : w < u
    · exact absurd q4 (hn w (by omega) c)
    · by_cases c2 : u < w
      · have := q5 u (by omega) c2
        rw [decide_eq_false_iff_not] at this
        exact absurd hr this
      · omega
theorem cfn_0 {r : Int} {a f : Nat} (h1 : (Y 1366047 0 (m)) = (a : Nat)) (h2 : (Y 1366048 0 (m)) = (f : Nat)) (hn : ∀ v : Nat, a ≤ v → v < f → ¬ rol K v = r) : cfn Y K m r = -1 := by
  unfold cfn
  split
  · rfl
  · rw [h1, h2]
    rcases fnd_spec (fun u => decide (rol K u = r)) ((f : Int).toNat - (a : Int).toNat) (a : Int).toNat with ⟨h, q⟩ | ⟨w, q1, q2, q3, q4, q5⟩
    · exact h
    · exact absurd (of_decide_eq_true q4) (hn w (by omega) (by omega))
theorem dxt_n {i f g s : Nat} (h : dxt K i f) (e : f = g) (hs : dst K g = s) (ha : dac s = false) : False := by
  have := h.2.1
  rw [e, hs, ha] at this
  cases this
/-- a counter's numbers -/
theorem ctr_e (c2 : C2 Y K T F) {j : Nat} (hd : dit K j) (hj : K j = 13) (hF : j + 2 ≤ F) (k2 : K (j + 1) = 2) : cvl Y K (dnI K j : Int) 13 0 = (Y 8194071 0 (((j + 3 : Nat) : Int))) ∧ cvl Y K (dnI K j : Int) 15 0 = (Y 8194071 0 (((j + 7 : Nat) : Int))) ∧ K (j + 3) = 3 ∧ K (j + 7) = 3 ∧ j + 8 ≤ F := by
  have em := dnI_s hd (show j < F by omega)
  obtain ⟨j', f, i1, i2, i3, i4, i5, i6, i7, i8, _⟩ := c2.item (m := (dnI K j : Int)) (by omega) (by rw [c2.gc.it]; omega)
  have ej : j = j' := dnI_u hd i1 (by omega)
  subst ej
  have s2 : dst K (j + 2) = 10 := by rw [dit_dsb hd k2, hj]; rfl
  obtain ⟨a1, a2, a3, a4, a5⟩ := N_2 (w := 19) (s1 := 11) (s2 := 12) c2.ok s2 hF rfl rfl rfl (fun _ => rfl)
  obtain ⟨b1, b2, b3, b4, b5⟩ := N_2 (w := 20) (s1 := 13) (s2 := 14) c2.ok a4 a5 rfl rfl rfl (fun _ => rfl)
  obtain ⟨d1, d2, d3, d4, d5⟩ := N_2 (w := 21) (s1 := 15) (s2 := 0) c2.ok b4 b5 rfl rfl rfl (fun _ => rfl)
  have l := i6.1.1
  have f8 : j + 8 ≤ f := by
    by_cases e2 : f = j + 2
    · exact (dxt_n i6 e2 s2 rfl).elim
    by_cases e3 : f = j + 3
    · exact (dxt_n i6 e3 a2 rfl).elim
    by_cases e4 : f = j + 4
    · exact (dxt_n i6 e4 a4 rfl).elim
    by_cases e5 : f = j + 5
    · exact (dxt_n i6 e5 b2 rfl).elim
    by_cases e6 : f = j + 6
    · exact (dxt_n i6 e6 b4 rfl).elim
    by_cases e7 : f = j + 7
    · exact (dxt_n i6 e7 d2 rfl).elim
    omega
  have r1 := rol_t hd k2
  have r2 : rol K (j + 2) = 0 := rol_e s2 a1
  have r3 : rol K (j + 3) = 13 := rol_e a2 a3
  have r4 : rol K (j + 4) = 0 := rol_e a4 b1
  have r5 : rol K (j + 5) = 14 := rol_e b2 b3
  have r6 : rol K (j + 6) = 0 := rol_e b4 d1
  have r7 : rol K (j + 7) = 15 := rol_e d2 d3
  have e1 : cfn Y K (dnI K j : Int) 13 = (j + 3 : Nat) := cfn_1 (by omega) i5 i8 (by omega) (by omega) r3 (fun v a b => by
    obtain e | e : v = j + 1 ∨ v = j + 2 := by omega
    · rw [e, r1]; decide
    · rw [e, r2]; decide)
  have e2 : cfn Y K (dnI K j : Int) 15 = (j + 7 : Nat) := cfn_1 (by omega) i5 i8 (by omega) (by omega) r7 (fun v a b => by
    obtain e | e | e | e | e | e : v = j + 1 ∨ v = j + 2 ∨ v = j + 3 ∨ v = j + 4 ∨ v = j + 5 ∨ v = j + 6 := by omega
    · rw [e, r1]; decide
    · rw [e, r2]; decide
    · rw [e, r3]; decide
    · rw [e, r4]; decide
    · rw [e, r5]; decide
    · rw [e, r6]; decide)
  refine ⟨?_, ?_, a3, d3, d5⟩
  · unfold cvl; rw [e1, if_neg (by omega)]
  · unfold cvl; rw [e2, if_neg (by omega)]
/-- an alarm's counter, task -/
theorem alm_e (c2 : C2 Y K T F) {j : Nat} (hd : dit K j) (hj : K j = 16) (hF : j + 2 ≤ F) (k2 : K (j + 1) = 2) : cio Y K (dnI K j : Int) 5 = cmt Y (j + 3) ∧ K (j + 3) = 2 ∧ rol K (j + 3) = 5 ∧ j + 5 ≤ F ∧ (K (j + 4) = 27 → cio Y K (dnI K j : Int) 7 = cmt Y (j + 5) ∧ K (j + 5) = 2 ∧ rol K (j + 5) = 7 ∧ j + 7 ≤ F) := by
  have em := dnI_s hd (show j < F by omega)
  obtain ⟨j', f, i1, i2, i3, i4, i5, i6, i7, i8, _⟩ := c2.item (m := (dnI K j : Int)) (by omega) (by rw [c2.gc.it]; omega)
  have ej : j = j' := dnI_u hd i1 (by omega)
  subst ej
  have s2 : dst K (j + 2) = 31 := by rw [dit_dsb hd k2, hj]; rfl
  obtain ⟨a1, a2, a3⟩ := W_2 (w := 25) (s1 := 32) c2.ok s2 hF rfl rfl
  obtain ⟨b1, b2, b3⟩ := W_2 (w := 2) (s1 := 33) c2.ok a2 a3 rfl rfl
  have l := i6.1.1
  have f5 : j + 5 ≤ f := by
    by_cases e2 : f = j + 2
    · exact (dxt_n i6 e2 s2 rfl).elim
    by_cases e3 : f = j + 3
    · exact (dxt_n i6 e3 a2 rfl).elim
    by_cases e4 : f = j + 4
    · exact (dxt_n i6 e4 b2 rfl).elim
    omega
  have r1 := rol_t hd k2
  have r2 : rol K (j + 2) = 0 := rol_e s2 a1
  have r3 : rol K (j + 3) = 5 := rol_e a2 b1
  have r4 : rol K (j + 4) = 0 := rol_e b2 rfl
  have e1 : cfn Y K (dnI K j : Int) 5 = (j + 3 : Nat) := cfn_1 (by omega) i5 i8 (by omega) (by omega) r3 (fun v a b => by
    obtain e | e : v = j + 1 ∨ v = j + 2 := by omega
    · rw [e, r1]; decide
    · rw [e, r2]; decide)
  refine ⟨by unfold cio; rw [e1, if_neg (by omega)]; rfl, b1, r3, by omega, fun k27 => ?_⟩
  have s5 : dst K (j + 5) = 35 := by rw [show j + 5 = (j + 4) + 1 by omega, dst_s b2, k27]; rfl
  obtain ⟨g1, g2, g3⟩ := W_2 (w := 2) (s1 := 36) c2.ok s5 (by omega) rfl rfl
  obtain ⟨h1, h2, h3⟩ := W_2 (w := 2) (s1 := 37) c2.ok g2 g3 rfl rfl
  have f6 : j + 6 ≤ f := by
    by_cases e5 : f = j + 5
    · exact (dxt_n i6 e5 s5 rfl).elim
    omega
  have r5 : rol K (j + 5) = 7 := rol_e s5 g1
  have e2 : cfn Y K (dnI K j : Int) 7 = (j + 5 : Nat) := cfn_1 (by omega) i5 i8 (by omega) (by omega) r5 (fun v a b => by
    obtain e | e | e | e : v = j + 1 ∨ v = j + 2 ∨ v = j + 3 ∨ v = j + 4 := by omega
    · rw [e, r1]; decide
    · rw [e, r2]; decide
    · rw [e, r3]; decide
    · rw [e, r4]; decide)
  exact ⟨by unfold cio; rw [e2, if_neg (by omega)]; rfl, g1, r5, h3⟩
/-- a resource's as -/
theorem as_e (c1 : C1 M K T F) (c2 : C2 Y K T F) (ln : LN M Y K F) (h0 : 0 ≤ m) (h1 : m < (M 11 0 19)) : (pas M m → cio Y K m 3 = mng M ((M 1433667 0 (m)) + 2)) ∧ (¬ pas M m → cio Y K m 3 = -1) := by
  obtain ⟨j, f, i1, i2, i3, i4, i5, i6, i7, i8, i9, _⟩ := LI c1 c2 h0 h1
  have hT := c1.FT
  have e : pas M m ↔ (K j = 12 ∧ K (j + 2) = 18) := by
    show (¬ m = -1 ∧ (M 1433666 0 (m)) = 2 ∧ (M 8194110 0 ((M 1433667 0 (m)) + 1)) = 18) ↔ _
    rw [i7.1, i9.1, show ((j + 1 : Nat) : Int) + 1 = ((j + 2 : Nat) : Int) by omega, c1.rk.2.2.1 (j + 2) (by omega)]
    constructor
    · rintro ⟨_, a, b⟩; exact ⟨by omega, b⟩
    · rintro ⟨a, b⟩; exact ⟨by omega, by omega, b⟩
  constructor
  · intro p
    obtain ⟨k12, k18⟩ := e.mp p
    have s2 : dst K (j + 2) = 8 := by rw [dit_dsb i1 i4, k12]; rfl
    have l3 := dok_lt c1.ok i3 (by rw [k18]; decide)
    have s3 : dst K (j + 3) = 9 := by rw [show j + 3 = (j + 2) + 1 by omega, dst_s s2, k18]; rfl
    obtain ⟨g1, g2, g3⟩ := W_2 (w := 2) (s1 := 0) c1.ok s3 l3 rfl rfl
    have l := i5.1.1
    have f4 : j + 4 ≤ f := by
      by_cases e2 : f = j + 2
      · exfalso
        have q := i5.2.2
        rw [e2, s2, k18] at q
        exact absurd q (by decide)
      by_cases e3 : f = j + 3
      · exact (dxt_n i5 e3 s3 rfl).elim
      omega
    have r1 := rol_t i1 i4
    have r2 : rol K (j + 2) = 0 := rol_e s2 k18
    have r3 : rol K (j + 3) = 3 := rol_e s3 g1
    have e1 : cfn Y K m 3 = (j + 3 : Nat) := cfn_1 (by omega) i7.2 i8.2 (by omega) (by omega) r3 (fun v a b => by
      obtain e | e : v = j + 1 ∨ v = j + 2 := by omega
      · rw [e, r1]; decide
      · rw [e, r2]; decide)
    have q := mng_eq c1 c2 ln (show j + 3 < F by omega) g1
    unfold cio
    rw [e1, if_neg (by omega), i7.1, show ((j + 1 : Nat) : Int) + 2 = ((j + 3 : Nat) : Int) by omega, q]
    rfl
  · intro p
    have e1 : cfn Y K m 3 = -1 := cfn_0 i7.2 i8.2 (fun v a b z => by
      have s := dr_3 _ _ z
      obtain ⟨w, w1, w2⟩ := st_p s (by decide)
      have w3 := dp_9 _ _ w2
      obtain ⟨x, x1, x2⟩ := st_p w3.1 (by decide)
      have x3 := dp_8 _ _ x2
      obtain ⟨y, y1, y2, y3⟩ := st_it x3.1 (by decide)
      have nn : nd K (j + 1) f := nd_t (nd_1 (nd_0 _ _) i4 (by decide)) i5.1
      have ey : y = j := by
        by_cases c : j < y
        · exact absurd y2 (nd_d nn (by omega) (by omega))
        · by_cases c3 : y + 1 = j
          · have kk := x3.2
            have := i1.2.2
            rw [show x = j by omega] at kk
            omega
          · by_cases c4 : y + 2 = j
            · have kk := w3.2
              have := i1.2.2
              rw [show w = j by omega] at kk
              omega
            · omega
      refine p (e.mpr ⟨by rw [← ey]; omega, ?_⟩)
      rw [← ey, show y + 2 = w by omega]
      exact w3.2)
    unfold cio
    rw [e1, if_pos rfl]
end EQ2
