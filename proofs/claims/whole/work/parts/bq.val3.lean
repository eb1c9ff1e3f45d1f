/-! ===== values of alarms and resources ===== -/
section VAL3
variable {K : Nat → Int} {T F : Nat} {M Y : AMem} {j f : Nat}
/-- a name's thing -/
theorem num_in (c1 : C1 M K T F) (c2 : C2 Y K T F) (ln : LN M Y K F) {u : Nat} (hu : u < F) (k2 : K u = 2) {w : Int} (hw : 0 ≤ w) (h : srt M (u : Int) = w) : ∃ x : Nat, x + 2 ≤ F ∧ dit K x ∧ K x = w + 10 ∧ K (x + 1) = 2 ∧ mng M (u : Int) = dnI K x ∧ (M 1433667 0 ((mng M (u : Int)))) = (x + 1 : Nat) ∧ (M 1433669 0 ((mng M (u : Int)))) = kno K x ∧ 0 ≤ kno K x ∧ kno K x < dnS K w F := by
  have me := mng_eq c1 c2 ln hu k2
  have se := srt_eq c1 c2 ln hu k2
  have cm : ¬ cmt Y u = -1 := fun z => by rw [if_pos z] at se; omega
  rw [if_neg cm, h] at se
  have cb := (cmt_b c1 c2 hu).resolve_left cm
  obtain ⟨x, f', i1, i2, i3, i4, i5, i6, i7, i8, i9, i10⟩ := LI c1 c2 cb.1 cb.2
  have kx : K x = w + 10 := by rw [i9.2] at se; omega
  have kl := kno_l (K := K) (F := F) (j := x) (by omega) i1
  rw [show K x - 10 = w by omega] at kl
  rw [me]
  exact ⟨x, i3, i1, kx, i4, i2, i7.1, i10.1, (dnS_b K _ x).1, kl⟩
theorem w_alm (h : IT M Y K T F j f) (kj : K j = 16) : (K (j + 4) = 26 ∨ K (j + 4) = 27 ∨ K (j + 4) = 28) ∧ (j + 5 ≤ F ∧ K (j + 3) = 2 ∧ srt M ((j + 3 : Nat) : Int) = 3 ∧ cno Y K (dnI K j : Int) 5 = (M 1433669 0 ((mng M ((j + 3 : Nat) : Int))))) ∧ cno Y K (dnI K j : Int) 8 = (if K (j + 4) = 27 then (M 1433669 0 ((mng M ((j + 6 : Nat) : Int)))) else -1) ∧ (if cno Y K (dnI K j : Int) 8 = -1 then cno Y K (dnI K j : Int) 6 else cno Y K (dnI K j : Int) 7) = (if K (j + 4) = 28 then -1 else (M 1433669 0 ((mng M ((j + 5 : Nat) : Int))))) ∧ (¬ K (j + 4) = 28 → j + 5 < F ∧ K (j + 5) = 2 ∧ srt M ((j + 5 : Nat) : Int) = 4) ∧ (K (j + 4) = 27 → j + 6 < F ∧ K (j + 6) = 2 ∧ srt M ((j + 6 : Nat) : Int) = 1) := by
  have hj := h.hj
  have hf := h.hf
  have ok := h.c2.ok
  have s2 : dst K (j + 2) = 31 := by rw [dit_dsb h.hd h.k2, kj]; rfl
  obtain ⟨a1, a2, a3⟩ := W_2 (w := 25) (s1 := 32) ok s2 hj rfl rfl
  obtain ⟨b1, b2, b3⟩ := W_2 (w := 2) (s1 := 33) ok a2 a3 rfl rfl
  have f4 : j + 4 < f := dxt_l h.dx (fun v p q => by
    obtain e | e | e : v = j + 2 ∨ v = j + 3 ∨ v = j + 4 := by omega
    · rw [e, s2]; rfl
    · rw [e, a2]; rfl
    · rw [e, b2]; rfl)
  have r3 : rol K (j + 3) = 5 := rol_e a2 b1
  have d4 : dst K (j + 5) = dt 33 (K (j + 4)) := dst_s b2
  have n4 := (ok_n ok b2 (by omega) rfl).2
  have w4 : K (j + 4) = 26 ∨ K (j + 4) = 27 ∨ K (j + 4) = 28 := by
    by_cases x : K (j + 4) = 26
    · exact Or.inl x
    by_cases y : K (j + 4) = 27
    · exact Or.inr (Or.inl y)
    by_cases z : K (j + 4) = 28
    · exact Or.inr (Or.inr z)
    exfalso
    refine n4 ?_
    show (if K (j + 4) = 26 then 34 else if K (j + 4) = 27 then 35 else if K (j + 4) = 28 then 37 else 99) = 99
    rw [if_neg x, if_neg y, if_neg z]
  have q5 := h.cn (r := 5) (w := 3) (u := j + 3) (fun v e => dr_5 _ _ e) rfl (by omega) (by omega) r3 b1 rfl (by decide)
  have fl : j + 5 ≤ F := by omega
  have hi : ∀ {p : Nat}, 37 ≤ rnk (dst K p) → p ≤ f → j + 1 ≤ p → ∀ v : Nat, p ≤ v → v < f → 37 ≤ rnk (dst K v) := fun {p} a b b' v c d => by
    have h9 : dst K v ≠ 99 := ok_9 ok (by omega)
    exact Nat.le_trans a (rnk_m v c (fun x x1 x2 => h.nd x (by omega) (by omega)) h9)
  have lo : ∀ v : Nat, j + 1 ≤ v → v < j + 5 → ¬ rol K v = 8 ∧ ¬ rol K v = 6 ∧ ¬ rol K v = 7 := fun v p q => by
    obtain e | e | e | e : v = j + 1 ∨ v = j + 2 ∨ v = j + 3 ∨ v = j + 4 := by omega
    · rw [e, rol_t h.hd h.k2]; decide
    · rw [e, show rol K (j + 2) = 0 from rol_e s2 a1]; decide
    · rw [e, r3]; decide
    · rw [e, show rol K (j + 4) = 0 from rol_e b2 rfl]; decide
  have up : ∀ v : Nat, 37 ≤ rnk (dst K v) → ¬ rol K v = 8 ∧ ¬ rol K v = 6 ∧ ¬ rol K v = 7 := fun v z => ⟨fun e => by rw [dr_8 _ _ e] at z; exact absurd z (by decide), fun e => by rw [dr_6 _ _ e] at z; exact absurd z (by decide), fun e => by rw [dr_7 _ _ e] at z; exact absurd z (by decide)⟩
  have cn0 : ∀ r : Int, (∀ v : Nat, j + 1 ≤ v → v < f → ¬ rol K v = r) → cno Y K (dnI K j : Int) r = -1 := fun r z => by
    unfold cno cio
    rw [h.c0 z, if_pos rfl, if_pos rfl]
  rcases w4 with e | e | e
  · have s5 : dst K (j + 5) = 34 := by rw [d4, e]; rfl
    obtain ⟨g1, g2, g3⟩ := W_2 (w := 2) (s1 := 37) ok s5 (by omega) rfl rfl
    have f5 : j + 5 < f := dxt_l h.dx (fun v p q => by
      obtain z | z | z | z : v = j + 2 ∨ v = j + 3 ∨ v = j + 4 ∨ v = j + 5 := by omega
      · rw [z, s2]; rfl
      · rw [z, a2]; rfl
      · rw [z, b2]; rfl
      · rw [z, s5]; rfl)
    have r5 : rol K (j + 5) = 6 := rol_e s5 g1
    have q6 := h.cn (r := 6) (w := 4) (u := j + 5) (fun v e => dr_6 _ _ e) rfl (by omega) (by omega) r5 g1 rfl (by decide)
    have n8 := cn0 8 (fun v p q => by
      by_cases z : v < j + 5
      · exact (lo v p z).1
      · by_cases z5 : v = j + 5
        · rw [z5, r5]; decide
        · exact (up v (hi (p := j + 6) (by rw [g2]; decide) (by omega) (by omega) v (by omega) q)).1)
    refine ⟨Or.inl e, ⟨fl, b1, q5.2.2, q5.1⟩, by rw [n8, if_neg (by omega)], by rw [n8, if_pos rfl, if_neg (by omega)]; exact q6.1, fun _ => ⟨by omega, g1, q6.2.2⟩, fun z => by omega⟩
  · have s5 : dst K (j + 5) = 35 := by rw [d4, e]; rfl
    obtain ⟨g1, g2, g3⟩ := W_2 (w := 2) (s1 := 36) ok s5 (by omega) rfl rfl
    obtain ⟨h1, h2, h3⟩ := W_2 (w := 2) (s1 := 37) ok g2 g3 rfl rfl
    have f6 : j + 6 < f := dxt_l h.dx (fun v p q => by
      obtain z | z | z | z | z : v = j + 2 ∨ v = j + 3 ∨ v = j + 4 ∨ v = j + 5 ∨ v = j + 6 := by omega
      · rw [z, s2]; rfl
      · rw [z, a2]; rfl
      · rw [z, b2]; rfl
      · rw [z, s5]; rfl
      · rw [z, g2]; rfl)
    have r5 : rol K (j + 5) = 7 := rol_e s5 g1
    have r6 : rol K (j + 6) = 8 := rol_e g2 h1
    have q7 := h.cn (r := 7) (w := 4) (u := j + 5) (fun v e => dr_7 _ _ e) rfl (by omega) (by omega) r5 g1 rfl (by decide)
    have q8 := h.cn (r := 8) (w := 1) (u := j + 6) (fun v e => dr_8 _ _ e) rfl (by omega) (by omega) r6 h1 rfl (by decide)
    obtain ⟨x, _, _, _, _, _, _, x7, x8, _⟩ := num_in h.c1 h.c2 h.ln (show j + 6 < F by omega) h1 (by decide) q8.2.2
    refine ⟨Or.inr (Or.inl e), ⟨fl, b1, q5.2.2, q5.1⟩, by rw [q8.1, if_pos e], by rw [q8.1, if_neg (by omega), if_neg (by omega)]; exact q7.1, fun _ => ⟨by omega, g1, q7.2.2⟩, fun _ => ⟨by omega, h1, q8.2.2⟩⟩
  · have s5 : dst K (j + 5) = 37 := by rw [d4, e]; rfl
    have n8 : ∀ v : Nat, j + 1 ≤ v → v < f → ¬ rol K v = 8 ∧ ¬ rol K v = 6 ∧ ¬ rol K v = 7 := fun v p q => by
      by_cases z : v < j + 5
      · exact lo v p z
      · exact up v (hi (p := j + 5) (by rw [s5]; decide) (by omega) (by omega) v (by omega) q)
    refine ⟨Or.inr (Or.inr e), ⟨fl, b1, q5.2.2, q5.1⟩, by rw [cn0 8 (fun v p q => (n8 v p q).1), if_neg (by omega)], by rw [cn0 8 (fun v p q => (n8 v p q).1), if_pos rfl, if_pos e]; exact cn0 6 (fun v p q => (n8 v p q).2.1), fun z => absurd e z, fun z => by omega⟩
/-- an alarm's auto -/
theorem w_aut (h : IT M Y K T F j f) (kj : K j = 16) {am ai ae : Int} (sa : am = bfo M K 10 (j + 1) (f - (j + 1)) ∧ ((∃ u : Nat, (j + 1 < u ∧ u < f) ∧ rol K u = 17 ∧ ai = (M 8194113 0 ((u : Int)))) ∨ ∀ u : Nat, j + 1 ≤ u → u < f → ¬ rol K u = 17 ∧ ¬ rol K u = 10) ∧ ((∃ u : Nat, (j + 1 < u ∧ u < f) ∧ rol K u = 18 ∧ ae = (M 8194113 0 ((u : Int)))) ∨ ((∀ u : Nat, j + 1 ≤ u → u < f → ¬ rol K u = 18) ∧ ae = 0))) :
    cbt Y K (dnI K j : Int) 10 = am ∧ cvl Y K (dnI K j : Int) 18 0 = ae ∧ (ae = 0 ∨ ((M 8194113 0 (((M 1433667 0 ((mng M ((j + 3 : Nat) : Int)))) + 6))) ≤ ae ∧ ae ≤ (M 8194113 0 (((M 1433667 0 ((mng M ((j + 3 : Nat) : Int)))) + 2))))) ∧ (¬ am = 0 → cvl Y K (dnI K j : Int) 17 0 = ai ∧ 1 ≤ ai ∧ ai ≤ (M 8194113 0 (((M 1433667 0 ((mng M ((j + 3 : Nat) : Int)))) + 2)))) := by
  have hj := h.hj
  have hf := h.hf
  have va := w_alm h kj
  have s3 := va.2.1.2.2.1
  obtain ⟨sa1, sa2, sa3⟩ := sa
  have k10 : ∀ t : Nat, t < F → rol K t = 10 → K t = 2 := fun t ht e => by
    rcases dr_10 _ _ e with s | s
    · exact k2_of (s1 := 21) h.c1.ok ht s rfl (fun _ => rfl)
    · exact k2_of (s1 := 39) h.c1.ok ht s rfl (fun _ => rfl)
  have nm : ∀ u : Nat, j + 1 < u → u < f → nmf M K u + 2 = ((j + 3 : Nat) : Int) := fun u a b => by rw [h.nm (by omega) b]; omega
  refine ⟨by rw [sa1]; exact w_bit h (w := 0) rfl (by decide) k10, ?_, ?_, ?_⟩
  · rcases sa3 with ⟨u, ⟨u1, u2⟩, u3, u4⟩ | ⟨n, e⟩
    · have k3 := k3_of (s1 := 0) h.c1.ok (show u < F by omega) (dr_18 _ _ u3) rfl (fun _ => rfl)
      rw [u4]
      exact h.cv (fun v e => dr_18 _ _ e) rfl (by omega) u2 u3 k3 0
    · unfold cvl
      rw [h.c0 n, if_pos rfl, e]
  · rcases sa3 with ⟨u, ⟨u1, u2⟩, u3, u4⟩ | ⟨n, e⟩
    · have n4 := h.nf u (by omega) 4
      rw [RP_e u3] at n4
      have n4 : ¬ (srt M (nmf M K u + 2) = 3 ∧ vl M u ≠ 0 ∧ (vl M u < (M 8194113 0 (((M 1433667 0 ((mng M (nmf M K u + 2)))) + 6))) ∨ (M 8194113 0 (((M 1433667 0 ((mng M (nmf M K u + 2)))) + 2))) < vl M u)) := fun z => n4 ⟨rfl, z⟩
      rw [nm u u1 u2] at n4
      unfold vl at n4
      rw [← u4] at n4
      by_cases c : ae = 0
      · exact Or.inl c
      · right
        have n4 : ¬ (ae < (M 8194113 0 (((M 1433667 0 ((mng M ((j + 3 : Nat) : Int)))) + 6))) ∨ (M 8194113 0 (((M 1433667 0 ((mng M ((j + 3 : Nat) : Int)))) + 2))) < ae) := fun z => n4 ⟨s3, c, z⟩
        omega
    · exact Or.inl e
  · intro c
    rcases sa2 with ⟨u, ⟨u1, u2⟩, u3, u4⟩ | n
    · have k3 := k3_of (s1 := 41) h.c1.ok (show u < F by omega) (dr_17 _ _ u3) rfl (fun _ => rfl)
      have n4 := h.nf u (by omega) 4
      rw [RP_e u3] at n4
      have n4 : ¬ (srt M (nmf M K u + 2) = 3 ∧ (vl M u < 1 ∨ (M 8194113 0 (((M 1433667 0 ((mng M (nmf M K u + 2)))) + 2))) < vl M u)) := fun z => n4 ⟨rfl, z⟩
      rw [nm u u1 u2] at n4
      unfold vl at n4
      rw [← u4] at n4
      have n4 : ¬ (ai < 1 ∨ (M 8194113 0 (((M 1433667 0 ((mng M ((j + 3 : Nat) : Int)))) + 2))) < ai) := fun z => n4 ⟨s3, z⟩
      refine ⟨?_, by omega, by omega⟩
      rw [u4]
      exact h.cv (fun v e => dr_17 _ _ e) rfl (by omega) u2 u3 k3 0
    · exfalso
      apply c
      rw [sa1]
      have hl := h.dx.1.1
      exact bfo_0 _ (fun u a b => (n u a (by omega)).2)
/-- a resource -/
theorem w_res (h : IT M Y K T F j f) (kj : K j = 12) : (csy Y K (dnI K j : Int) 17 ↔ K (j + 2) = 17) ∧ cno Y K (dnI K j : Int) 3 = (if K (j + 2) = 18 then (M 1433669 0 ((mng M ((j + 3 : Nat) : Int)))) else -1) ∧ (K (j + 2) = 18 → j + 3 < F ∧ K (j + 3) = 2 ∧ srt M ((j + 3 : Nat) : Int) = 2 ∧ ¬ prf M (mng M ((j + 3 : Nat) : Int)) = -1) := by
  have hj := h.hj
  have hf := h.hf
  have hT := h.c1.FT
  have ok := h.c1.ok
  have im := h.im
  have s2 : dst K (j + 2) = 8 := by rw [dit_dsb h.hd h.k2, kj]; rfl
  have p1 := pin_e h.c1 h.c2 (m := (dnI K j : Int)) (by omega) im.1
  have e1 : pin M (dnI K j : Int) ↔ K (j + 2) = 17 := by
    show (M 8194110 0 ((M 1433667 0 ((dnI K j : Int))) + 1)) = 17 ↔ _
    rw [h.c1.ga.na j (by omega) h.hd, show ((j : Int) + 1) + 1 = ((j + 2 : Nat) : Int) by omega, h.c1.rk.2.2.1 (j + 2) (by omega)]
  refine ⟨by rw [← e1]; exact p1.symm, ?_, fun e => ?_⟩
  · by_cases e : K (j + 2) = 18
    · rw [if_pos e]
      have l3 := dok_lt ok hj (by rw [e]; decide)
      have s3 : dst K (j + 3) = 9 := by rw [show j + 3 = (j + 2) + 1 by omega, dst_s s2, e]; rfl
      obtain ⟨g1, g2, g3⟩ := W_2 (w := 2) (s1 := 0) ok s3 l3 rfl rfl
      have r3 : rol K (j + 3) = 3 := rol_e s3 g1
      have f3 : j + 3 < f := by
        have l := h.dx.1.1
        by_cases z : f = j + 2
        · exfalso
          have y := h.dx.2.2
          rw [z, s2, e] at y
          exact absurd y (by decide)
        by_cases z : f = j + 3
        · exact (dxt_n h.dx z s3 rfl).elim
        omega
      exact (h.cn (r := 3) (w := 2) (u := j + 3) (fun v e => dr_3 _ _ e) rfl (by omega) f3 r3 g1 rfl (by decide)).1
    · rw [if_neg e]
      unfold cno cio
      rw [h.c0 (fun v a b z => ?_), if_pos rfl, if_pos rfl]
      have sv := dr_3 _ _ z
      have l : j + 2 ≤ v := by
        by_cases y : v = j + 1
        · rw [y, rol_t h.hd h.k2] at z; exact absurd z (by decide)
        · omega
      by_cases y : v = j + 2
      · rw [y, s2] at sv; exact absurd sv (by decide)
      · have d3 : dst K (j + 3) = dt 8 (K (j + 2)) := dst_s s2
        have n9 := ok_9 ok (show j + 3 ≤ F by omega)
        have z0 : dst K (j + 3) = 0 := by
          rw [d3] at n9 ⊢
          have nk := h.nd (j + 2) (by omega) (by omega)
          show (if K (j + 2) = 17 then 0 else if K (j + 2) = 18 then 9 else d0 (K (j + 2))) = 0
          by_cases x : K (j + 2) = 17
          · rw [if_pos x]
          · exfalso
            apply n9
            show (if K (j + 2) = 17 then 0 else if K (j + 2) = 18 then 9 else d0 (K (j + 2))) = 99
            rw [if_neg x, if_neg e]
            unfold d0
            rw [if_neg nk]
        have m := rnk_m (K := K) (u := j + 3) v (by omega) (fun x x1 x2 => h.nd x (by omega) (by omega)) (by rw [sv]; decide)
        rw [z0, sv] at m
        exact absurd m (by decide)
  · have l3 := dok_lt ok hj (by rw [e]; decide)
    have s3 : dst K (j + 3) = 9 := by rw [show j + 3 = (j + 2) + 1 by omega, dst_s s2, e]; rfl
    obtain ⟨g1, g2, g3⟩ := W_2 (w := 2) (s1 := 0) ok s3 l3 rfl rfl
    have r3 : rol K (j + 3) = 3 := rol_e s3 g1
    have n3 := h.nf (j + 3) (by omega) 3
    have n5 := h.nf (j + 3) (by omega) 5
    rw [RP_e r3] at n3 n5
    have n3 : ¬ srt M ((j + 3 : Nat) : Int) ≠ 2 := fun z => n3 (Or.inl ⟨rfl, z⟩)
    have n3 : srt M ((j + 3 : Nat) : Int) = 2 := by
      by_cases z : srt M ((j + 3 : Nat) : Int) = 2
      · exact z
      · exact absurd z n3
    exact ⟨by omega, g1, n3, fun z => n5 (Or.inr ⟨rfl, n3, Or.inr z⟩)⟩
end VAL3
