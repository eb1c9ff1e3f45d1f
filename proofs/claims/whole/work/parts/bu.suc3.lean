/-! ===== the two plans: groups and ceilings ===== -/
theorem imx_i (c p : Int) : imx (imx c p) p = imx c p := by
  unfold imx
  by_cases h : c < p
  · rw [if_pos h, if_neg (by omega)]
  · rw [if_neg h, if_neg h]
/-- a worker that uses a resource of the group raises the ceiling -/
theorem cvn_e (Z : AMem) (w r c : Int) : ∀ n : Nat, ((∃ u : Nat, u < n ∧ ¬ iAnd (iUshr (Z 8 (w) 5) (u : Int)) 1 = 0 ∧ (Z 65580 0 ((u : Int))) = (Z 65580 0 (r))) → cvn Z w r c n = imx c (Z 8 (w) 0)) ∧ ((¬ ∃ u : Nat, u < n ∧ ¬ iAnd (iUshr (Z 8 (w) 5) (u : Int)) 1 = 0 ∧ (Z 65580 0 ((u : Int))) = (Z 65580 0 (r))) → cvn Z w r c n = c)
  | 0 => ⟨fun ⟨u, h, _⟩ => by omega, fun _ => rfl⟩
  | n + 1 => by
    have ih := cvn_e Z w r c n
    have e : cvn Z w r c (n + 1) = if ¬ iAnd (iUshr (Z 8 (w) 5) (n : Int)) 1 = 0 ∧ (Z 65580 0 ((n : Int))) = (Z 65580 0 (r)) then imx (cvn Z w r c n) (Z 8 (w) 0) else cvn Z w r c n := rfl
    by_cases k : ¬ iAnd (iUshr (Z 8 (w) 5) (n : Int)) 1 = 0 ∧ (Z 65580 0 ((n : Int))) = (Z 65580 0 (r))
    · rw [e, if_pos k]
      refine ⟨fun _ => ?_, fun q => absurd ⟨n, by omega, k⟩ q⟩
      by_cases x : ∃ u : Nat, u < n ∧ ¬ iAnd (iUshr (Z 8 (w) 5) (u : Int)) 1 = 0 ∧ (Z 65580 0 ((u : Int))) = (Z 65580 0 (r))
      · rw [ih.1 x, imx_i]
      · rw [ih.2 x]
    · rw [e, if_neg k]
      refine ⟨fun ⟨u, u1, u2⟩ => ih.1 ⟨u, ?_, u2⟩, fun q => ih.2 (fun ⟨u, u1, u2⟩ => q ⟨u, by omega, u2⟩)⟩
      by_cases y : u = n
      · rw [y] at u2; exact absurd u2 k
      · omega
theorem uof_n {M : AMem} {u g : Int} {m : Nat} (hm : (M 14408 0 (2)) = m) : ¬ uof M u g = -1 ↔ ∃ x : Nat, 1 ≤ x ∧ x < m ∧ iAnd (iShr u (x : Int)) 1 = 1 ∧ (M 65612 0 ((x : Int))) = g := by
  unfold uof
  rw [hm]
  rcases fnd_spec (fun rr => iAnd (iShr u rr) 1 == 1 && (M 65612 0 (rr)) == g) ((m : Int) - 1).toNat 1 with ⟨e, h⟩ | ⟨i, e, i1, i2, h, _⟩
  · rw [e]
    refine ⟨fun z => absurd rfl z, fun ⟨x, x1, x2, x3, x4⟩ => ?_⟩
    have q := h x x1 (by omega)
    rw [x3, x4] at q
    simp at q
  · rw [e]
    refine ⟨fun _ => ⟨i, i1, by omega, ?_⟩, fun _ => by omega⟩
    rw [Bool.and_eq_true, beq_iff_eq, beq_iff_eq] at h
    exact h
section SUC3
variable {Y2 W M1 M2 : AMem} {K : Nat → Int} {T F n n2 n4 n5 : Nat}
def PP (Y2 W M1 M2 : AMem) (K : Nat → Int) (T F n n2 n4 n5 : Nat) : Prop := (C1 Y2 K T F) ∧ (C2 W K T F) ∧ (LN Y2 W K F) ∧ (NF Y2 K F) ∧ (∀ t : Nat, t < F → KF W K t 0) ∧ (RS2 Y2 M2 K F n n2 n4 n5) ∧ (CS2 W M1 K F n2 n4 n5) ∧ (dnS K 2 F = n2 ∧ 1 ≤ n2 ∧ n2 ≤ 32) ∧ (dnS K 4 F = n4 ∧ n4 ≤ 48) ∧ (dnS K 5 F = n5 ∧ n5 ≤ 16) ∧ ((M1 65582 0 (0)) = -1 ∧ (M1 65837 0 (0)) = 0)
theorem PP.c1 {Y2 W M1 M2 : AMem} {K : Nat → Int} {T F n n2 n4 n5 : Nat} (h : PP Y2 W M1 M2 K T F n n2 n4 n5) : C1 Y2 K T F := h.1
theorem PP.c2 {Y2 W M1 M2 : AMem} {K : Nat → Int} {T F n n2 n4 n5 : Nat} (h : PP Y2 W M1 M2 K T F n n2 n4 n5) : C2 W K T F := h.2.1
theorem PP.ln {Y2 W M1 M2 : AMem} {K : Nat → Int} {T F n n2 n4 n5 : Nat} (h : PP Y2 W M1 M2 K T F n n2 n4 n5) : LN Y2 W K F := h.2.2.1
theorem PP.nf {Y2 W M1 M2 : AMem} {K : Nat → Int} {T F n n2 n4 n5 : Nat} (h : PP Y2 W M1 M2 K T F n n2 n4 n5) : NF Y2 K F := h.2.2.2.1
theorem PP.k0 {Y2 W M1 M2 : AMem} {K : Nat → Int} {T F n n2 n4 n5 : Nat} (h : PP Y2 W M1 M2 K T F n n2 n4 n5) : ∀ t : Nat, t < F → KF W K t 0 := h.2.2.2.2.1
theorem PP.rs {Y2 W M1 M2 : AMem} {K : Nat → Int} {T F n n2 n4 n5 : Nat} (h : PP Y2 W M1 M2 K T F n n2 n4 n5) : RS2 Y2 M2 K F n n2 n4 n5 := h.2.2.2.2.2.1
theorem PP.cs {Y2 W M1 M2 : AMem} {K : Nat → Int} {T F n n2 n4 n5 : Nat} (h : PP Y2 W M1 M2 K T F n n2 n4 n5) : CS2 W M1 K F n2 n4 n5 := h.2.2.2.2.2.2.1
theorem PP.e2 {Y2 W M1 M2 : AMem} {K : Nat → Int} {T F n n2 n4 n5 : Nat} (h : PP Y2 W M1 M2 K T F n n2 n4 n5) : dnS K 2 F = n2 ∧ 1 ≤ n2 ∧ n2 ≤ 32 := h.2.2.2.2.2.2.2.1
theorem PP.e4 {Y2 W M1 M2 : AMem} {K : Nat → Int} {T F n n2 n4 n5 : Nat} (h : PP Y2 W M1 M2 K T F n n2 n4 n5) : dnS K 4 F = n4 ∧ n4 ≤ 48 := h.2.2.2.2.2.2.2.2.1
theorem PP.e5 {Y2 W M1 M2 : AMem} {K : Nat → Int} {T F n n2 n4 n5 : Nat} (h : PP Y2 W M1 M2 K T F n n2 n4 n5) : dnS K 5 F = n5 ∧ n5 ≤ 16 := h.2.2.2.2.2.2.2.2.2.1
theorem PP.a0 {Y2 W M1 M2 : AMem} {K : Nat → Int} {T F n n2 n4 n5 : Nat} (h : PP Y2 W M1 M2 K T F n n2 n4 n5) : (M1 65582 0 (0)) = -1 ∧ (M1 65837 0 (0)) = 0 := h.2.2.2.2.2.2.2.2.2.2
theorem PP.mk {Y2 W M1 M2 : AMem} {K : Nat → Int} {T F n n2 n4 n5 : Nat} (c1 : C1 Y2 K T F) (c2 : C2 W K T F) (ln : LN Y2 W K F) (nf : NF Y2 K F) (k0 : ∀ t : Nat, t < F → KF W K t 0) (rs : RS2 Y2 M2 K F n n2 n4 n5) (cs : CS2 W M1 K F n2 n4 n5) (e2 : dnS K 2 F = n2 ∧ 1 ≤ n2 ∧ n2 ≤ 32) (e4 : dnS K 4 F = n4 ∧ n4 ≤ 48) (e5 : dnS K 5 F = n5 ∧ n5 ≤ 16) (a0 : (M1 65582 0 (0)) = -1 ∧ (M1 65837 0 (0)) = 0) : PP Y2 W M1 M2 K T F n n2 n4 n5 := ⟨c1, c2, ln, nf, k0, rs, cs, e2, e4, e5, a0⟩
theorem PP.it (h : PP Y2 W M1 M2 K T F n n2 n4 n5) {s k : Int} (h1 : (if s = 2 then 1 else 0) ≤ k) (h2 : k < dnS K s F) : ∃ j f : Nat, IT Y2 W K T F j f ∧ j < F ∧ K j = s + 10 ∧ kno K j = k := by
  obtain ⟨j, j1, j2, j3, j4⟩ := dnS_o (K := K) s F k h1 h2
  obtain ⟨l, k2⟩ := dit_2 h.c1.ok j2 j1
  obtain ⟨f, dx, hf⟩ := dxt_ex h.c1.ok F (j + 2) (by omega) (by omega)
  exact ⟨j, f, IT.mk h.c1 h.c2 h.ln h.nf h.k0 j2 l k2 dx hf, j1, j3, by unfold kno; rw [show K j - 10 = s by omega]; exact j4⟩
/-- the class's as is the reference's -/
theorem PP.as (h : PP Y2 W M1 M2 K T F n n2 n4 n5) {a : Int → Int} (ha : ∀ x f : Nat, x < F → dit K x → K x = 12 → dxt K (x + 2) f → f ≤ F → a (kno K x) = if K (x + 2) = 18 then (Y2 1433669 0 ((mng Y2 ((x + 3 : Nat) : Int)))) else -1) {r : Int} (r1 : 1 ≤ r) (r2 : r < n2) : (M1 65582 0 (r)) = a r ∧ (a r = -1 ∨ (1 ≤ a r ∧ a r < n2)) := by
  have e2 := h.e2
  obtain ⟨j, f, it, j1, j2, j3⟩ := h.it (s := 2) (k := r) (by rw [if_pos rfl]; exact r1) (by omega)
  have w := w_res it (by omega)
  have q := ha j f j1 it.hd (by omega) it.dx it.hf
  have c := (h.cs.re j j1 it.hd (by omega)).2
  rw [j3] at q c
  refine ⟨by rw [c, q]; exact w.2.1, ?_⟩
  rw [q]
  by_cases z : K (j + 2) = 18
  · rw [if_pos z]
    right
    obtain ⟨w1, w2, w3, _⟩ := w.2.2 z
    obtain ⟨x, _, x2, x3, _, _, _, x7, x8, x9⟩ := num_in h.c1 h.c2 h.ln w1 w2 (by decide) w3
    have p := dnS_p (K := K) (K x - 10) x
    rw [show K x - 10 = 2 by omega, if_pos rfl] at p
    have ek : kno K x = dnS K 2 x := by unfold kno; rw [show K x - 10 = 2 by omega]
    rw [x7]
    omega
  · rw [if_neg z]; exact Or.inl rfl
theorem PP.gr (h : PP Y2 W M1 M2 K T F n n2 n4 n5) {r : Int} (r0 : 0 ≤ r) (r2 : r < n2) : (M1 65580 0 (r)) = (M2 65612 0 (r)) ∧ (1 ≤ r → 1 ≤ (M2 65612 0 (r))) := by
  have e2 := h.e2
  have lg := h.cs.lg r r0 r2
  by_cases c : r = 0
  · subst c
    have q := lg.1
    rw [h.rs.z0.1]
    exact ⟨by omega, fun z => by omega⟩
  · obtain ⟨a, ha, hg⟩ := h.rs.gr
    have as := fun x (x1 : 1 ≤ x) (x2 : x < (n2 : Int)) => h.as ha x1 x2
    have nr : ∀ x : Int, 1 ≤ x → x < n2 → ∃ N : Nat, a (ez a N x) = -1 := fun x x1 x2 => ring_n h.c1 h.c2 h.ln h.nf h.k0 ha x1 (by omega)
    have hb : ∀ x : Int, 1 ≤ x → x < n2 → a x = -1 ∨ (1 ≤ a x ∧ a x < n2) := fun x x1 x2 => (as x x1 x2).2
    have z := mgr_l (m := n2) ⟨e2.2.1, e2.2.2⟩ hb nr (r0 := r) (by omega) r2
    rw [← hg r (by omega) r2] at z
    have ee : ∀ (N : Nat) (x : Int), 1 ≤ x → x < n2 → eas M1 N x = ez a N x := by
      intro N
      induction N with
      | zero => intro x _ _; rfl
      | succ N ih =>
        intro x x1 x2
        show (if (M1 65582 0 (x)) = -1 then x else eas M1 N (M1 65582 0 (x))) = (if a x = -1 then x else ez a N (a x))
        rw [(as x x1 x2).1]
        by_cases q : a x = -1
        · rw [if_pos q, if_pos q]
        · rw [if_neg q, if_neg q]
          have b := (hb x x1 x2).resolve_left q
          exact ih (a x) b.1 b.2
    have e0 : eas M1 32 0 = 0 := by
      show (if (M1 65582 0 (0)) = -1 then 0 else _) = (0 : Int)
      rw [if_pos h.a0.1]
    obtain ⟨l1, l2, l3⟩ := lg
    have er := ez_r hb 32 r (by omega) r2
    have v1 : 1 ≤ (M1 65580 0 (r)) := by
      by_cases q : (M1 65580 0 (r)) = 0
      · rw [q, e0, ee 32 r (by omega) r2] at l2
        omega
      · omega
    have lz : LGz a r (M1 65580 0 (r)) := by
      refine ⟨⟨v1, l1.2⟩, ?_, fun o o1 o2 q => l3 o (by omega) o2 ?_⟩
      · rw [← ee 32 _ v1 (by omega), ← ee 32 r (by omega) r2]; exact l2
      · rw [ee 32 o o1 (by omega), ee 32 r (by omega) r2]; exact q
    have e := LGz_u lz z
    exact ⟨e, fun _ => by omega⟩
/-- bits of uses name told resources -/
theorem PP.ub (h : PP Y2 W M1 M2 K T F n n2 n4 n5) {j f : Nat} (it : IT Y2 W K T F j f) : ¬ iAnd (iShr (bfo Y2 K 4 (j + 1) (f - (j + 1))) 0) 1 = 1 := fun z => by
  obtain ⟨u, u1, u2, u3, u4⟩ := (it.ub (b := 0) (by decide)).mp z
  obtain ⟨_, x, _, _, _, _, _, x6, x7, _⟩ := it.us u1 u2 u3
  omega
theorem PP.cv (h : PP Y2 W M1 M2 K T F n n2 n4 n5) {w r u p c : Int} (r0 : 0 ≤ r) (r2 : r < n2) (hu : (M1 8 (w) 5) = u) (hp : (M1 8 (w) 0) = p) (b0 : ¬ iAnd (iShr u 0) 1 = 1) : cvn M1 w r c n2 = if 0 < r ∧ ¬ uof M2 u (M2 65612 0 (r)) = -1 then imx c p else c := by
  have e2 := h.e2
  have mn := h.rs.mn 2 (by decide) (by decide)
  rw [e2.1] at mn
  have q := cvn_e M1 w r c n2
  rw [hu, hp] at q
  have key : (∃ x : Nat, x < n2 ∧ ¬ iAnd (iUshr u (x : Int)) 1 = 0 ∧ (M1 65580 0 ((x : Int))) = (M1 65580 0 (r))) ↔ (0 < r ∧ ¬ uof M2 u (M2 65612 0 (r)) = -1) := by
    rw [uof_n mn]
    have gr := h.gr r0 r2
    constructor
    · rintro ⟨x, x1, x2, x3⟩
      have gx := h.gr (r := (x : Int)) (by omega) (by omega)
      have bx : iAnd (iShr u (x : Int)) 1 = 1 := by
        have := (bit_m u (x : Int) (by omega) (by omega)).1
        by_cases z : iAnd (iShr u (x : Int)) 1 = 1
        · exact z
        · exact absurd (this.mpr z) x2
      have x0 : 1 ≤ x := by
        by_cases z : x = 0
        · rw [z] at bx; exact absurd bx b0
        · omega
      have g1 := gx.2 (by omega)
      rw [gx.1, gr.1] at x3
      have r1 : 0 < r := by
        by_cases z : r = 0
        · rw [z, h.rs.z0.1] at x3; omega
        · omega
      exact ⟨r1, x, x0, x1, bx, x3⟩
    · rintro ⟨r1, x, x0, x1, bx, x3⟩
      have gx := h.gr (r := (x : Int)) (by omega) (by omega)
      refine ⟨x, x1, fun z => ?_, by rw [gx.1, gr.1]; exact x3⟩
      exact ((bit_m u (x : Int) (by omega) (by omega)).1.mp z) bx
  by_cases c0 : 0 < r ∧ ¬ uof M2 u (M2 65612 0 (r)) = -1
  · rw [if_pos c0]; exact q.1 (key.mpr c0)
  · rw [if_neg c0]; exact q.2 (fun z => c0 (key.mp z))
/-- a task on both sides -/
theorem PP.tk (h : PP Y2 W M1 M2 K T F n n2 n4 n5) {t : Int} (t0 : 0 ≤ t) (t1 : t < n4) : ∃ j f : Nat, IT Y2 W K T F j f ∧ j < F ∧ K j = 14 ∧ kno K j = t ∧ TP Y2 K j t f M2 ∧ ((M1 8 (t) 0) = (M2 98385 0 (t)) ∧ 0 ≤ (M2 98385 0 (t)) ∧ (M2 98385 0 (t)) ≤ 63) ∧ (M1 8 (t) 5) = (M2 98390 0 (t)) := by
  have e4 := h.e4
  obtain ⟨j, f, it, j1, j2, j3⟩ := h.it (s := 4) (k := t) (by rw [if_neg (by decide)]; exact t0) (by omega)
  have e14 : K j = 14 := by omega
  have tp := (h.rs.sp j f j1 it.hd it.dx it.hf).2.2.1 e14
  have cs := h.cs.tk j j1 it.hd e14
  rw [j3] at tp cs
  have w := w_tpr it e14
  have k4 : ∀ x : Nat, x < F → rol K x = 4 → K x = 2 := fun x hx e => by
    rcases dr_4 _ _ e with s | s
    · exact k2_of (s1 := 23) h.c1.ok hx s rfl (fun _ => rfl)
    · exact k2_of (s1 := 30) h.c1.ok hx s rfl (fun _ => rfl)
  refine ⟨j, f, it, j1, e14, j3, tp, ⟨by rw [cs.1, tp.pr]; exact w.1, by rw [tp.pr]; exact w.2.1, by rw [tp.pr]; exact w.2.2⟩, ?_⟩
  rw [cs.2.2.2.2.2, tp.us]
  exact w_bit it (w := 2) rfl (by decide) k4
theorem PP.sr (h : PP Y2 W M1 M2 K T F n n2 n4 n5) {i : Int} (i0 : 0 ≤ i) (i1 : i < n5) : ∃ j f : Nat, IT Y2 W K T F j f ∧ j < F ∧ K j = 15 ∧ kno K j = i ∧ SI Y2 K j i f M2 ∧ ((M1 8 ((48 + i)) 0) = (M2 32855 0 (i)) ∧ 64 ≤ (M2 32855 0 (i)) ∧ (M2 32855 0 (i)) ≤ 79) ∧ (M1 8 ((48 + i)) 5) = (M2 32856 0 (i)) := by
  have e5 := h.e5
  obtain ⟨j, f, it, j1, j2, j3⟩ := h.it (s := 5) (k := i) (by rw [if_neg (by decide)]; exact i0) (by omega)
  have e15 : K j = 15 := by omega
  have si := (h.rs.sp j f j1 it.hd it.dx it.hf).2.2.2.1 e15
  have cs := h.cs.si j j1 it.hd e15
  rw [j3] at si cs
  have w := w_isr it e15
  have k4 : ∀ x : Nat, x < F → rol K x = 4 → K x = 2 := fun x hx e => by
    rcases dr_4 _ _ e with s | s
    · exact k2_of (s1 := 23) h.c1.ok hx s rfl (fun _ => rfl)
    · exact k2_of (s1 := 30) h.c1.ok hx s rfl (fun _ => rfl)
  have s1 := si.1
  refine ⟨j, f, it, j1, e15, j3, si, ⟨by rw [cs.1, s1, w.1], by omega, by omega⟩, ?_⟩
  rw [cs.2, si.2]
  exact w_bit it (w := 2) rfl (by decide) k4
theorem PP.ce (h : PP Y2 W M1 M2 K T F n n2 n4 n5) {r : Int} (r0 : 0 ≤ r) (r2 : r < n2) : (M1 65579 0 (r)) = (M2 65613 0 (r)) ∧ -1 ≤ (M2 65613 0 (r)) ∧ (M2 65613 0 (r)) ≤ 79 := by
  rw [h.cs.ce r r0 r2, h.rs.ce r r0 r2]
  have t4 : ∀ t : Nat, t ≤ n4 → ctk4 M1 n2 r t = rct M2 r t ∧ -1 ≤ rct M2 r t ∧ rct M2 r t ≤ 79 := by
    intro t
    induction t with
    | zero => intro _; exact ⟨rfl, show (-1 : Int) ≤ -1 by decide, show (-1 : Int) ≤ 79 by decide⟩
    | succ t ih =>
      intro ht
      obtain ⟨i1, i2, i3⟩ := ih (by omega)
      obtain ⟨j, f, it, j1, j2, j3, tp, pr, us⟩ := h.tk (t := (t : Int)) (by omega) (by omega)
      have b0 := h.ub it
      rw [← tp.us] at b0
      have cv := h.cv (c := rct M2 r t) r0 r2 us pr.1 b0
      have e1 : ctk4 M1 n2 r (t + 1) = if r = 0 then imx (cvn M1 (t : Int) r (ctk4 M1 n2 r t) n2) (M1 8 ((t : Int)) 0) else cvn M1 (t : Int) r (ctk4 M1 n2 r t) n2 := rfl
      have e2 : rct M2 r (t + 1) = if r = 0 ∨ ¬ uof M2 (M2 98390 0 ((t : Int))) (M2 65612 0 (r)) = -1 then imx (rct M2 r t) (M2 98385 0 ((t : Int))) else rct M2 r t := rfl
      have bx : -1 ≤ imx (rct M2 r t) (M2 98385 0 ((t : Int))) ∧ imx (rct M2 r t) (M2 98385 0 ((t : Int))) ≤ 79 := by
        unfold imx
        split <;> omega
      rw [e1, e2, i1, pr.1, cv]
      by_cases z : r = 0
      · rw [if_pos z, if_pos (Or.inl z), if_neg (fun y => by omega)]
        exact ⟨rfl, bx⟩
      · rw [if_neg z]
        by_cases y : uof M2 (M2 98390 0 ((t : Int))) (M2 65612 0 (r)) = -1
        · rw [if_neg (fun q => q.2 y), if_neg (fun q => q.elim z (fun q => q y))]
          exact ⟨rfl, i2, i3⟩
        · rw [if_pos ⟨by omega, y⟩, if_pos (Or.inr y)]
          exact ⟨rfl, bx⟩
  have t5 : ∀ i : Nat, i ≤ n5 → cti5 M1 n2 n4 r i = rci M2 n4 r i ∧ -1 ≤ rci M2 n4 r i ∧ rci M2 n4 r i ≤ 79 := by
    intro i
    induction i with
    | zero => intro _; exact t4 n4 (Nat.le_refl _)
    | succ i ih =>
      intro hi
      obtain ⟨i1, i2, i3⟩ := ih (by omega)
      obtain ⟨j, f, it, j1, j2, j3, si, pr, us⟩ := h.sr (i := (i : Int)) (by omega) (by omega)
      have b0 := h.ub it
      rw [← si.2] at b0
      have cv := h.cv (c := rci M2 n4 r i) r0 r2 us pr.1 b0
      have e1 : cti5 M1 n2 n4 r (i + 1) = cvn M1 (48 + (i : Int)) r (cti5 M1 n2 n4 r i) n2 := rfl
      have e2 : rci M2 n4 r (i + 1) = if 0 < r ∧ ¬ uof M2 (M2 32856 0 ((i : Int))) (M2 65612 0 (r)) = -1 then imx (rci M2 n4 r i) (M2 32855 0 ((i : Int))) else rci M2 n4 r i := rfl
      have bx : -1 ≤ imx (rci M2 n4 r i) (M2 32855 0 ((i : Int))) ∧ imx (rci M2 n4 r i) (M2 32855 0 ((i : Int))) ≤ 79 := by
        unfold imx
        split <;> omega
      rw [e1, e2, i1, cv]
      refine ⟨rfl, ?_⟩
      split
      · exact bx
      · exact ⟨i2, i3⟩
  exact t5 n5 (Nat.le_refl _)
end SUC3
