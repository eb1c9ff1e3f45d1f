/-! ===== the two plans are the same ===== -/
section SUC4
variable {M Y2 W M1 M2 : AMem} {K : Nat → Int} {T F n n2 n4 n5 : Nat}
theorem PP.mx (h : PP Y2 W M1 M2 K T F n n2 n4 n5) {s : Int} (s0 : 0 ≤ s) (s1 : s ≤ 6) : 0 ≤ dnS K s F ∧ dnS K s F ≤ pmo s := ⟨(dnS_b K s F).1, dnS_l ⟨s0, s1⟩ (fun j hj hd => kno_c h.c2 h.k0 hj hd)⟩
/-- waits makes the limit 1 -/
theorem ev_lim {j f : Nat} (it : IT Y2 W K T F j f) : bfo Y2 K 9 (j + 1) (f - (j + 1)) = 0 ∨ ∃ u : Nat, j + 1 < u ∧ u < f ∧ K u = 34 := by
  have hl := it.dx.1.1
  have hf := it.hf
  by_cases c : ∃ u : Nat, j + 1 ≤ u ∧ u < f ∧ rol K u = 9
  · right
    obtain ⟨x, x1, x2, x3⟩ := c
    have sx := dr_9 _ _ x3
    have k2 := k2_of (s1 := 25) it.c1.ok (show x < F by omega) sx rfl (fun _ => rfl)
    obtain ⟨p, d, y1, y2, y3, y4⟩ := lst_b (s := 24) (s' := 25) (P := fun s0 k => (s0 = 18 ∨ s0 = 21 ∨ s0 = 23 ∨ s0 = 25) ∧ k = 34) (by decide) (fun s0 k q => dp_24 s0 k q) (fun s0 k q => dp_25 s0 k q) x sx k2
    have y2 : (dst K p = 18 ∨ dst K p = 21 ∨ dst K p = 23 ∨ dst K p = 25) ∧ K p = 34 := y2
    refine ⟨p, ?_, by omega, y2.2⟩
    by_cases q : p < j
    · exact (lst_j it.hd y1 y3 (fun c l => (y4 c l).1) q (by omega)).elim
    · by_cases q2 : p = j
      · have l := it.hd.2.2
        rw [← q2, y2.2] at l
        omega
      · by_cases q3 : p = j + 1
        · have l := y2.2
          rw [q3, it.k2] at l
          exact absurd l (by decide)
        · omega
  · left
    exact bfo_0 _ (fun u a b e => c ⟨u, a, by omega, e⟩)
theorem PP.rz (h : PP Y2 W M1 M2 K T F n n2 n4 n5) {r : Int} (r0 : 0 ≤ r) (r2 : r < n2) : (M1 65837 0 (r)) = (M2 65867 0 (r)) := by
  have e2 := h.e2
  by_cases c : r = 0
  · rw [c, h.a0.2, h.rs.z0.2.1]
  · obtain ⟨j, f, it, j1, j2, j3⟩ := h.it (s := 2) (k := r) (by rw [if_pos rfl]; omega) (by omega)
    have e12 : K j = 12 := by omega
    have w := (w_res it e12).1
    have q := (h.rs.sp j f j1 it.hd it.dx it.hf).2.2.2.2.2 e12
    have c := (h.cs.re j j1 it.hd e12).1
    rw [j3] at q c
    rw [q]
    by_cases z : K (j + 2) = 17
    · rw [if_pos z]
      exact c.2.mpr (w.mpr z)
    · rw [if_neg z]
      rcases c.1 with y | y
      · exact absurd (w.mp (c.2.mp y)) z
      · exact y
theorem PP.in (h : PP Y2 W M1 M2 K T F n n2 n4 n5) {t : Int} (t0 : 0 ≤ t) (t1 : t < n4) : (M1 8 (t) 6) = inn M2 t := by
  have e2 := h.e2
  have mn := h.rs.mn 2 (by decide) (by decide)
  rw [e2.1] at mn
  obtain ⟨j, f, it, j1, j2, j3, tp, pr, us⟩ := h.tk t0 t1
  have ti := h.cs.ti j j1 it.hd j2
  rw [j3] at ti
  have b0 := h.ub it
  rw [← tp.us] at b0
  have bm : ∀ r : Int, 0 ≤ r → r < n2 → (¬ iAnd (iUshr (M2 98390 0 (t)) r) 1 = 0 ↔ iAnd (iShr (M2 98390 0 (t)) r) 1 = 1) := fun r r0 r1 => by
    have q := (bit_m (M2 98390 0 (t)) r r0 (by omega)).1
    constructor
    · intro z
      by_cases y : iAnd (iShr (M2 98390 0 (t)) r) 1 = 1
      · exact y
      · exact absurd (q.mpr y) z
    · intro z y
      exact (q.mp y) z
  have ui : ∀ r : Int, 0 ≤ r → r < n2 → (uir M1 t r ↔ (¬ (M2 65867 0 (r)) = 0 ∧ iAnd (iShr (M2 98390 0 (t)) r) 1 = 1)) := fun r r0 r1 => by
    unfold uir
    rw [us, h.rz r0 r1, bm r r0 r1]
  have un : ∀ r r' : Int, 1 ≤ r → r < n2 → 1 ≤ r' → r' < n2 → uir M1 t r → uir M1 t r' → r = r' := fun r r' a b c d p q => by
    have p := (ui r (by omega) b).mp p
    have q := (ui r' (by omega) d).mp q
    rw [tp.us] at p q
    obtain ⟨u, u1, u2, u3, u4⟩ := (it.ub (b := r) (by omega)).mp p.2
    obtain ⟨v, v1, v2, v3, v4⟩ := (it.ub (b := r') (by omega)).mp q.2
    have pin' : ∀ (x : Nat) (y : Int), j + 1 ≤ x → x < f → rol K x = 4 → (Y2 1433669 0 ((mng Y2 (x : Int)))) = y → ¬ (M2 65867 0 (y)) = 0 → pin Y2 (mng Y2 (x : Int)) := fun x y x1 x2 x3 x4 x5 => by
      obtain ⟨_, z, z1, z2, z3, z4, z5, z6, z7, _⟩ := it.us x1 x2 x3
      obtain ⟨fz, dz, hz⟩ := dxt_ex h.c1.ok F (z + 2) (by omega) (by omega)
      have iz : IT Y2 W K T F z fz := IT.mk h.c1 h.c2 h.ln h.nf h.k0 z2 z1 z4 dz hz
      have s := (h.rs.sp z fz (by omega) z2 dz hz).2.2.2.2.2 z3
      have ey : kno K z = y := by rw [← z6, x4]
      rw [ey] at s
      have k17 : K (z + 2) = 17 := by
        by_cases w : K (z + 2) = 17
        · exact w
        · rw [if_neg w] at s; exact absurd s x5
      rw [z5]
      exact (pin_e h.c1 h.c2 (by omega) iz.im.1).mpr ((w_res iz z3).1.mpr k17)
    have pu := pin' u r u1 u2 u3 u4 p.1
    have pv := pin' v r' v1 v2 v3 v4 q.1
    by_cases e : u = v
    · rw [← u4, ← v4, e]
    · exfalso
      by_cases l : u < v
      · exact it.i1 j2 u1 l v2 u3 v3 pu pv
      · exact it.i1 j2 v1 (by omega) u2 v3 u3 pv pu
  unfold inn
  rw [mn]
  rcases fnd_spec (fun r => !(M2 65867 0 r == 0) && (iAnd (iShr (M2 98390 0 t) r) 1 == 1)) ((n2 : Int) - 1).toNat 1 with ⟨e, q⟩ | ⟨i, e, i1, i2, q, _⟩
  · rw [e]
    rcases ti with ⟨x, _⟩ | ⟨x, y⟩
    · exact x
    · exfalso
      have y' := (ui _ x.1 x.2).mp y
      have v1 : 1 ≤ (M1 8 (t) 6) := by
        by_cases z : (M1 8 (t) 6) = 0
        · rw [z] at y'; exact absurd y'.2 b0
        · omega
      have w := q (M1 8 (t) 6).toNat (by omega) (by omega)
      rw [show (((M1 8 (t) 6).toNat : Nat) : Int) = (M1 8 (t) 6) by omega] at w
      have w1 : (M2 65867 0 (M1 8 (t) 6) == 0) = false := beq_eq_false_iff_ne.mpr y'.1
      have w2 : (iAnd (iShr (M2 98390 0 t) (M1 8 (t) 6)) 1 == 1) = true := beq_iff_eq.mpr y'.2
      rw [w1, w2] at w
      cases w
  · rw [e]
    rw [Bool.and_eq_true, beq_iff_eq, Bool.not_eq_true', beq_eq_false_iff_ne] at q
    have u1 : uir M1 t (i : Int) := (ui i (by omega) (by omega)).mpr q
    rcases ti with ⟨_, x⟩ | ⟨x, y⟩
    · exact absurd u1 (x i (by omega) (by omega))
    · have v1 : 1 ≤ (M1 8 (t) 6) := by
        by_cases z : (M1 8 (t) 6) = 0
        · have y' := (ui _ x.1 x.2).mp y
          rw [z] at y'
          exact absurd y'.2 b0
        · omega
      exact un _ _ v1 x.2 (by omega) (by omega) y u1
/-- a counter on both sides -/
theorem PP.kc (h : PP Y2 W M1 M2 K T F n n2 n4 n5) {x : Nat} (x1 : x + 2 ≤ F) (x2 : dit K x) (x3 : K x = 13) : (M2 32846 0 ((kno K x))) = (Y2 8194113 0 (((x + 3 : Nat) : Int))) ∧ (M2 32848 0 ((kno K x))) = (Y2 8194113 0 (((x + 7 : Nat) : Int))) := by
  obtain ⟨f, dx, hf⟩ := dxt_ex h.c1.ok F (x + 2) (by omega) (by omega)
  have s := (h.rs.sp x f (by omega) x2 dx hf).2.1 x3
  exact ⟨s.1, s.2.2⟩
theorem PP.al (h : PP Y2 W M1 M2 K T F n n2 n4 n5) {a : Int} (a0 : 0 ≤ a) (a1 : a < dnS K 6 F) : (((M1 10 (a) 0) = (M2 98393 0 (a)) ∧ 0 ≤ (M2 98393 0 (a)) ∧ (M2 98393 0 (a)) < dnS K 3 F) ∧ (M1 10 (a) 1) = (M2 98395 0 (a)) ∧ (M1 10 (a) 2) = (M2 98396 0 (a))) ∧ (((M2 98394 0 (a)) = 0 ∧ (0 ≤ (M2 98395 0 (a)) ∧ (M2 98395 0 (a)) < dnS K 4 F) ∧ (M2 98396 0 (a)) = -1) ∨ ((M2 98394 0 (a)) = 1 ∧ (0 ≤ (M2 98395 0 (a)) ∧ (M2 98395 0 (a)) < dnS K 4 F) ∧ 0 ≤ (M2 98396 0 (a)) ∧ (M2 98396 0 (a)) < 32) ∨ ((M2 98394 0 (a)) = 2 ∧ (M2 98395 0 (a)) = -1 ∧ (M2 98396 0 (a)) = -1)) ∧ (M1 10 (a) 3) = (M2 98397 0 (a)) ∧ (M1 10 (a) 5) = (M2 98399 0 (a)) ∧ ((M2 98399 0 (a)) = 0 ∨ ((M2 32848 0 ((M2 98393 0 (a)))) ≤ (M2 98399 0 (a)) ∧ (M2 98399 0 (a)) ≤ (M2 32846 0 ((M2 98393 0 (a)))))) ∧ (¬ (M2 98397 0 (a)) = 0 → (M1 10 (a) 4) = (M2 98398 0 (a)) ∧ 1 ≤ (M2 98398 0 (a)) ∧ (M2 98398 0 (a)) ≤ (M2 32846 0 ((M2 98393 0 (a))))) := by
  obtain ⟨j, f, it, j1, j2, j3⟩ := h.it (s := 6) (k := a) (by rw [if_neg (by decide)]; exact a0) a1
  have e16 : K j = 16 := by omega
  obtain ⟨s1, s2⟩ := (h.rs.sp j f j1 it.hd it.dx it.hf).2.2.2.2.1 e16
  have cs := h.cs.al j j1 it.hd e16
  rw [j3] at s1 s2 cs
  obtain ⟨v1, ⟨v2, v3, v4, v5⟩, v6, v7, v8, v9⟩ := w_alm it e16
  obtain ⟨q1, q2, q3, q4⟩ := s1
  obtain ⟨u1, u2, u3, u4⟩ := w_aut it e16 s2
  obtain ⟨x, x1, x2, x3, x4, x5, x6, x7, x8, x9⟩ := num_in h.c1 h.c2 h.ln (show j + 3 < F by omega) v3 (by decide) v4
  have kc := h.kc x1 x2 (by omega)
  have ec : (M2 98393 0 (a)) = kno K x := by rw [q1, x7]
  have en : (Y2 1433667 0 ((mng Y2 ((j + 3 : Nat) : Int)))) + 2 = ((x + 3 : Nat) : Int) := by rw [x6]; omega
  have en6 : (Y2 1433667 0 ((mng Y2 ((j + 3 : Nat) : Int)))) + 6 = ((x + 7 : Nat) : Int) := by rw [x6]; omega
  rw [en, en6] at u3
  rw [en] at u4
  refine ⟨⟨⟨by rw [cs.1, q1]; exact v5, by omega, by omega⟩, by rw [cs.2.2.1, q3]; exact v7, by rw [cs.2.1, q4]; exact v6⟩, ?_, by rw [cs.2.2.2.1]; exact u1, by rw [cs.2.2.2.2.2]; exact u2, by rw [ec, kc.1, kc.2]; exact u3, fun z => by rw [ec, kc.1, cs.2.2.2.2.1]; exact u4 z⟩
  have tg : ¬ K (j + 4) = 28 → 0 ≤ (M2 98395 0 (a)) ∧ (M2 98395 0 (a)) < dnS K 4 F := fun z => by
    obtain ⟨w1, w2, w3⟩ := v8 z
    obtain ⟨y, _, _, _, _, _, _, y7, y8, y9⟩ := num_in h.c1 h.c2 h.ln w1 w2 (by decide) w3
    rw [q3, if_neg z, y7]
    exact ⟨y8, y9⟩
  rcases v1 with e | e | e
  · left
    exact ⟨by omega, tg (by omega), by rw [q4, if_neg (by omega)]⟩
  · right; left
    obtain ⟨w1, w2, w3⟩ := v9 e
    obtain ⟨y, y1, y2, y3, _, _, _, y7, y8, y9⟩ := num_in h.c1 h.c2 h.ln w1 w2 (by decide) w3
    have b := kno_c h.c2 h.k0 (j := y) (by omega) y2
    rw [show K y - 10 = 1 by omega] at b
    have p1 : pmo 1 = 32 := rfl
    refine ⟨by omega, tg (by omega), ?_⟩
    rw [q4, if_pos e, y7]
    omega
  · right; right
    exact ⟨by omega, by rw [q3, if_pos e], by rw [q4, if_neg (by omega)]⟩
theorem PP.pl (h : PP Y2 W M1 M2 K T F n n2 n4 n5) (old : PL M M) (fw : frP M W) : PL M1 M2 := by
  have e2 := h.e2
  have e4 := h.e4
  have e5 := h.e5
  have mn := h.rs.mn
  have m2 : (M2 14408 0 (2)) = n2 := by rw [mn 2 (by decide) (by decide)]; exact e2.1
  have m4 : (M2 14408 0 (4)) = n4 := by rw [mn 4 (by decide) (by decide)]; exact e4.1
  have m5 : (M2 14408 0 (5)) = n5 := by rw [mn 5 (by decide) (by decide)]; exact e5.1
  have mr : mrs M2 = n2 := by unfold mrs; rw [m2]; split <;> omega
  have b0 := h.mx (s := 0) (by decide) (by decide)
  have b1 := h.mx (s := 1) (by decide) (by decide)
  have b3 := h.mx (s := 3) (by decide) (by decide)
  have b6 := h.mx (s := 6) (by decide) (by decide)
  have p0 : pmo 0 = 8 := rfl
  have p1 : pmo 1 = 32 := rfl
  have p3 : pmo 3 = 16 := rfl
  have p6 : pmo 6 = 48 := rfl
  have mb : MB M2 := by
    unfold MB
    rw [mn 0 (by decide) (by decide), mn 1 (by decide) (by decide), m2, mn 3 (by decide) (by decide), m4, m5, mn 6 (by decide) (by decide)]
    omega
  have kbd : ∀ j : Nat, j < F → dit K j → 0 ≤ kno K j ∧ kno K j < pmo (K j - 10) := fun j hj hd => ⟨(dnS_b K _ j).1, kno_c h.c2 h.k0 hj hd⟩
  refine PL.mk mb (fun z => by omega) ?_ ?_ ?_ ?_ ?_ ?_ ?_ ?_ ?_ ?_ ?_ ?_ ?_ ?_ ?_ ?_ ?_ ?_ ?_ ?_ ?_ ?_
  · rw [h.cs.tl 0 (by decide) (by decide), mn 0 (by decide) (by decide)]
  · rw [h.cs.tl 1 (by decide) (by decide), mn 1 (by decide) (by decide)]
  · rw [h.cs.tl 2 (by decide) (by decide), mr, e2.1]
  · rw [h.cs.tl 3 (by decide) (by decide), mn 3 (by decide) (by decide)]
  · rw [h.cs.tl 4 (by decide) (by decide), mn 4 (by decide) (by decide)]
  · rw [h.cs.tl 5 (by decide) (by decide), mn 5 (by decide) (by decide)]
  · rw [h.cs.tl 6 (by decide) (by decide), mn 6 (by decide) (by decide)]
  · intro t t0 t1
    obtain ⟨j, f, it, j1, j2, j3, tp, pr, us⟩ := h.tk t0 (by omega)
    exact pr
  · intro t t0 t1
    obtain ⟨j, f, it, j1, j2, j3, tp, pr, us⟩ := h.tk t0 (by omega)
    have c := (h.cs.tk j j1 it.hd j2).2.1
    rw [j3, w_say it (by decide)] at c
    rcases tp.wh with ⟨e, q⟩ | ⟨e, q⟩
    · rw [e]; exact c.2.mpr q
    · rw [e]
      rcases c.1 with y | y
      · obtain ⟨u, u1, u2, u3⟩ := c.2.mp y
        exact absurd u3 (q u u1 u2)
      · exact y
  · intro t t0 t1
    obtain ⟨j, f, it, j1, j2, j3, tp, pr, us⟩ := h.tk t0 (by omega)
    have c := (h.cs.tk j j1 it.hd j2).2.2.1
    rw [j3] at c
    have w := w_lim it tp.lm
    exact ⟨by rw [c]; exact w.1, w.2.1⟩
  · intro t t0 t1
    obtain ⟨j, f, it, j1, j2, j3, tp, pr, us⟩ := h.tk t0 (by omega)
    have c := (h.cs.tk j j1 it.hd j2).2.2.2.1
    rw [j3] at c
    have w := w_lim it tp.lm
    refine ⟨?_, ?_⟩
    · rw [c, tp.ev]
      exact w_bit it (w := 1) rfl (by decide) (fun x hx e => k2_of (s1 := 25) h.c1.ok hx (dr_9 _ _ e) rfl (fun _ => rfl))
    · rcases ev_lim it with z | z
      · left; rw [tp.ev]; exact z
      · right; exact w.2.2 z
  · intro t t0 t1
    obtain ⟨j, f, it, j1, j2, j3, tp, pr, us⟩ := h.tk t0 (by omega)
    have c := (h.cs.tk j j1 it.hd j2).2.2.2.2.1
    rw [j3] at c
    rw [c, tp.mo]
    exact w_bit it (w := 0) rfl (by decide) (fun x hx e => by
      rcases dr_10 _ _ e with s | s
      · exact k2_of (s1 := 21) h.c1.ok hx s rfl (fun _ => rfl)
      · exact k2_of (s1 := 39) h.c1.ok hx s rfl (fun _ => rfl))
  · intro t t0 t1
    exact h.in t0 (by omega)
  · intro i i0 i1
    obtain ⟨j, f, it, j1, j2, j3, si, pr, us⟩ := h.sr i0 (by omega)
    exact pr
  · intro r r0 r1
    rw [mr] at r1
    have c := h.ce r0 r1
    rw [if_neg (by omega)]
    exact ⟨c.1, fun _ => c.2⟩
  · intro r r0 r1
    rw [mr] at r1
    exact ⟨h.rz r0 r1, (h.gr r0 r1).1⟩
  · intro c c0 c1
    rw [mn 3 (by decide) (by decide)] at c1
    obtain ⟨j, f, it, j1, j2, j3⟩ := h.it (s := 3) (k := c) (by rw [if_neg (by decide)]; exact c0) c1
    have e13 : K j = 13 := by omega
    have s := (h.rs.sp j f j1 it.hd it.dx it.hf).2.1 e13
    have k := h.cs.ct j j1 it.hd e13
    have w := w_ctr it e13
    rw [j3] at s k
    obtain ⟨s1, s2, s3⟩ := s
    rw [k.1, k.2.1, k.2.2.1, w.1.1, w.1.2.1, w.1.2.2, s1, s2, s3]
    exact ⟨⟨rfl, w.2.1⟩, ⟨rfl, w.2.2.1⟩, rfl, w.2.2.2⟩
  · intro a a0 a1
    rw [mn 6 (by decide) (by decide)] at a1
    rw [mn 3 (by decide) (by decide)]
    exact (h.al a0 a1).1
  · intro a a0 a1
    rw [mn 6 (by decide) (by decide)] at a1
    rw [mn 4 (by decide) (by decide)]
    exact (h.al a0 a1).2.1
  · intro a a0 a1
    rw [mn 6 (by decide) (by decide)] at a1
    exact (h.al a0 a1).2.2
  · have on := old.nb
    have f8 : ∀ w x : Int, (∀ j : Nat, j < F → dit K j → ¬ fcl (K j - 10) (kno K j) 8 w x) → M1 8 w x = M 8 w x := fun w x z => by
      rw [h.cs.fr 8 w x (by decide) (by decide) (by omega) (by omega) z, fw 8 w x rfl]
    have nfc : ∀ w x : Int, (¬ (0 ≤ w ∧ w < n4) ∨ 7 ≤ x) → (¬ (48 ≤ w ∧ w < 48 + (n5 : Int)) ∨ (x ≠ 0 ∧ x ≠ 5)) → M1 8 w x = M 8 w x := fun w x a b => f8 w x (fun j hj hd z => by
      have kl := kno_l hj hd
      have kb := kbd j hj hd
      rcases z with ⟨z, _⟩ | ⟨_, z, _⟩ | ⟨_, z, _⟩ | ⟨z1, _, z3, z4⟩ | ⟨z1, _, z3, z4⟩ | ⟨_, z, _⟩
      · omega
      · omega
      · omega
      · rw [z1] at kl; omega
      · rw [z1] at kl; omega
      · omega)
    refine ⟨?_, fun w w0 w1 => ?_⟩
    · rw [nfc 64 0 (by omega) (by omega)]; exact on.1
    · have ow := on.2 w w0 w1
      by_cases c : w < n4
      · obtain ⟨j, f, it, j1, j2, j3, tp, pr, us⟩ := h.tk w0 c
        have k := (h.cs.tk j j1 it.hd j2).2.2.1
        rw [j3] at k
        have wl := w_lim it tp.lm
        have ti := h.cs.ti j j1 it.hd j2
        rw [j3] at ti
        refine ⟨by omega, ?_, by omega⟩
        rcases ti with ⟨x, _⟩ | ⟨x, _⟩ <;> omega
      · by_cases d : 48 ≤ w ∧ w < 48 + (n5 : Int)
        · obtain ⟨j, f, it, j1, j2, j3, si, pr, us⟩ := h.sr (i := w - 48) (by omega) (by omega)
          rw [show 48 + (w - 48) = w by omega] at pr
          refine ⟨by omega, ?_, ?_⟩
          · rw [nfc w 6 (by omega) (by omega)]; exact ow.2.1
          · rw [nfc w 2 (by omega) (by omega)]; exact ow.2.2
        · rw [nfc w 0 (by omega) (by omega), nfc w 6 (by omega) (by omega), nfc w 2 (by omega) (by omega)]
          exact ow
  · intro r r0 r1
    by_cases c : r < n2
    · have q := h.ce r0 c
      omega
    · rw [h.cs.fr 65579 0 r (by decide) (by decide) (by omega) (by omega) (fun j hj hd z => by
        rcases z with ⟨z, _⟩ | ⟨_, z, _⟩ | ⟨_, z, _⟩ | ⟨_, z, _⟩ | ⟨_, z, _⟩ | ⟨_, z, _⟩ <;> omega), fw 65579 0 r rfl]
      exact old.cb r r0 r1
end SUC4
