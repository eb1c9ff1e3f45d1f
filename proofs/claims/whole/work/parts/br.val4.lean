/-! ===== bits of uses; at most one internal resource; no ring ===== -/
section VAL4
variable {K : Nat → Int} {T F : Nat} {M Y : AMem} {j f : Nat}
theorem bfo_b {r : Int} {a : Nat} {b : Int} (hb : 0 ≤ b ∧ b < 32) : ∀ n : Nat, (∀ u : Nat, a ≤ u → u < a + n → rol K u = r → 0 ≤ (M 1433669 0 ((mng M (u : Int)))) ∧ (M 1433669 0 ((mng M (u : Int)))) < 32) → (iAnd (iShr (bfo M K r a n) b) 1 = 1 ↔ ∃ u : Nat, a ≤ u ∧ u < a + n ∧ rol K u = r ∧ (M 1433669 0 ((mng M (u : Int)))) = b)
  | 0, _ => ⟨fun z => absurd z (bit_0 b hb.1 hb.2), fun ⟨u, a1, a2, _⟩ => by omega⟩
  | n + 1, h => by
    have ih := bfo_b (r := r) (a := a) hb n (fun u x y => h u x (by omega))
    show iAnd (iShr (if rol K (a + n) = r then iOr (bfo M K r a n) (iShl 1 (M 1433669 0 ((mng M ((a + n : Nat) : Int))))) else bfo M K r a n) b) 1 = 1 ↔ _
    by_cases c : rol K (a + n) = r
    · rw [if_pos c, bit_s _ _ _ (h (a + n) (by omega) (by omega) c) hb, ih]
      constructor
      · rintro (⟨u, x, y, z⟩ | e)
        · exact ⟨u, x, by omega, z⟩
        · exact ⟨a + n, by omega, by omega, c, e⟩
      · rintro ⟨u, x, y, z, w⟩
        by_cases e : u = a + n
        · right; rw [← w, e]
        · left; exact ⟨u, x, by omega, z, w⟩
    · rw [if_neg c, ih]
      constructor
      · rintro ⟨u, x, y, z⟩
        exact ⟨u, x, by omega, z⟩
      · rintro ⟨u, x, y, z, w⟩
        by_cases e : u = a + n
        · rw [e] at z; exact absurd z c
        · exact ⟨u, x, by omega, z, w⟩
/-- a resource of a uses -/
theorem IT.us (h : IT M Y K T F j f) {u : Nat} (a : j + 1 ≤ u) (b : u < f) (hr : rol K u = 4) : K u = 2 ∧ ∃ x : Nat, x + 2 ≤ F ∧ dit K x ∧ K x = 12 ∧ K (x + 1) = 2 ∧ mng M (u : Int) = dnI K x ∧ (M 1433669 0 ((mng M (u : Int)))) = kno K x ∧ (1 ≤ kno K x ∧ kno K x < dnS K 2 F ∧ kno K x < 32) ∧ srt M (u : Int) = 2 := by
  have hf := h.hf
  have k2 : K u = 2 := by
    rcases dr_4 _ _ hr with s | s
    · exact k2_of (s1 := 23) h.c1.ok (by omega) s rfl (fun _ => rfl)
    · exact k2_of (s1 := 30) h.c1.ok (by omega) s rfl (fun _ => rfl)
  have q := (KF_0.mp (h.k0 u (by omega))).2.1
  rw [hr, un_e h.c1 h.c2 h.ln (by omega) k2 (w := 2) rfl (by decide)] at q
  have sw : srt M (u : Int) = 2 := by
    by_cases z : srt M (u : Int) = 2
    · exact z
    · exact absurd z q
  obtain ⟨x, x1, x2, x3, x4, x5, x6, x7, x8, x9⟩ := num_in h.c1 h.c2 h.ln (show u < F by omega) k2 (by decide) sw
  have p := dnS_p (K := K) (K x - 10) x
  have b2 := kno_c h.c2 h.k0 (j := x) (by omega) x2
  rw [show K x - 10 = 2 by omega] at p b2
  rw [if_pos rfl] at p
  have e : kno K x = dnS K 2 x := by unfold kno; rw [show K x - 10 = 2 by omega]
  have e2 : pmo 2 = 32 := rfl
  exact ⟨k2, x, x1, x2, by omega, x4, x5, x7, ⟨by omega, x9, by omega⟩, sw⟩
theorem IT.ub (h : IT M Y K T F j f) {b : Int} (hb : 0 ≤ b ∧ b < 32) : iAnd (iShr (bfo M K 4 (j + 1) (f - (j + 1))) b) 1 = 1 ↔ ∃ u : Nat, j + 1 ≤ u ∧ u < f ∧ rol K u = 4 ∧ (M 1433669 0 ((mng M (u : Int)))) = b := by
  have hl := h.dx.1.1
  rw [bfo_b hb _ (fun u x y z => ?_)]
  · constructor
    · rintro ⟨u, x, y, z⟩; exact ⟨u, x, by omega, z⟩
    · rintro ⟨u, x, y, z⟩; exact ⟨u, x, by omega, z⟩
  · obtain ⟨_, x', _, _, _, _, _, e, e2, _⟩ := h.us x (by omega) z
    rw [e]
    omega
/-- one internal resource at most -/
theorem IT.i1 (h : IT M Y K T F j f) (kj : K j = 14) {u v : Nat} (u1 : j + 1 ≤ u) (uv : u < v) (v1 : v < f) (ru : rol K u = 4) (rv : rol K v = 4) (pu : pin M (mng M (u : Int))) (pv : pin M (mng M (v : Int))) : False := by
  have hf := h.hf
  have hj := h.hj
  have us := h.us u1 (by omega) ru
  have vs := h.us (by omega) v1 rv
  have ux : ∀ x : Nat, j + 1 ≤ x → x < f → rol K x = 4 → K x = 2 → dst K x = 22 := fun x x1 x2 x3 x4 => by
    have nx : ¬ x = j + 1 := fun z => by rw [z, rol_t h.hd h.k2] at x3; exact absurd x3 (by decide)
    have fam := fm_t h.c1.ok h.hd h.k2 (x - (j + 2)) (by omega) (by rw [show j + 2 + (x - (j + 2)) = x by omega]; exact ⟨by omega, fun y p q => h.dx.1.2 y p (by omega)⟩)
    rw [show j + 2 + (x - (j + 2)) = x by omega] at fam
    have s := fam.1.mpr kj
    rcases dr_4 _ _ x3 with z | z
    · exact z
    · rw [z] at s; omega
  have gp : ∀ x : Nat, j + 1 ≤ x → x < f → rol K x = 4 → K x = 2 → ∃ p d : Nat, x = p + 1 + 2 * d ∧ (j + 1 < p ∧ p < x) ∧ rol K p = 2 ∧ K p = 24 ∧ (∀ c : Nat, c < d → K (p + 2 + 2 * c) = 4) := fun x x1 x2 x3 x4 => by
    obtain ⟨p, d, y1, y2, y3, y4⟩ := lst_b (s := 22) (s' := 23) (P := fun s0 k => (s0 = 18 ∨ s0 = 21 ∨ s0 = 23 ∨ s0 = 25) ∧ k = 24) (by decide) (fun s0 k q => dp_22 s0 k q) (fun s0 k q => dp_23 s0 k q) x (ux x x1 x2 x3 x4) x4
    have y2 : (dst K p = 18 ∨ dst K p = 21 ∨ dst K p = 23 ∨ dst K p = 25) ∧ K p = 24 := y2
    have jp : j + 1 < p := by
      by_cases q : p < j
      · exact (lst_j h.hd y1 y3 (fun c l => (y4 c l).1) q (by omega)).elim
      · by_cases q2 : p = j
        · have l := h.hd.2.2
          rw [← q2, y2.2] at l
          omega
        · by_cases q3 : p = j + 1
          · have l := y2.2
            rw [q3, h.k2] at l
            exact absurd l (by decide)
          · omega
    have rp : rol K p = 2 := by
      unfold rol
      rw [y2.2]
      rcases y2.1 with q | q | q | q <;> (rw [q]; rfl)
    exact ⟨p, d, y1, ⟨jp, by omega⟩, rp, y2.2, y3⟩
  obtain ⟨p, d, a1, a2, a3, a4, a5⟩ := gp u u1 (by omega) ru us.1
  obtain ⟨p', d', b1, b2, b3, b4, b5⟩ := gp v (by omega) v1 rv vs.1
  have on : ∀ x y : Nat, j + 1 < x → x < y → y < f → rol K x = 2 → rol K y = 2 → K x = 24 → K y = 24 → False := fun x y x1 xy y1 rx ry kx ky => once h.c1 h.nf h.hd h.k2 (i := y) (w := 24) (by omega) ⟨by omega, fun z z1 z2 => h.dx.1.2 z z1 (by omega)⟩ ry ky (by unfold prw; omega) (u := x) x1 xy rx kx
  have pe : p = p' := by
    by_cases z : p < p'
    · exact (on p p' a2.1 z (by omega) a3 b3 a4 b4).elim
    · by_cases z2 : p' < p
      · exact (on p' p b2.1 z2 (by omega) b3 a3 b4 a4).elim
      · omega
  subst pe
  have n5 := h.nf v (by omega) 5
  rw [RP_e rv] at n5
  refine n5 (Or.inr (Or.inr ⟨rfl, ?_, pv, Or.inr ⟨d' - d, by omega, ⟨by omega, fun e e1 e2 => ?_⟩, ?_⟩⟩))
  · obtain ⟨_, _, _, _, _, _, _, _, _, z⟩ := vs
    exact z
  · have := b5 (d' - e) (by omega)
    rw [show v - 2 * e + 1 = p + 2 + 2 * (d' - e) by omega]
    exact this
  · rw [show v - 2 * (d' - d) = u by omega]
    obtain ⟨_, _, _, _, _, _, _, _, _, z⟩ := us
    exact ⟨z, pu⟩
/-- a chain of as ends -/
theorem ring_n (c1 : C1 M K T F) (c2 : C2 Y K T F) (ln : LN M Y K F) (nf : NF M K F) (k0 : ∀ t : Nat, t < F → KF Y K t 0) {a : Int → Int} (ha : ∀ x f : Nat, x < F → dit K x → K x = 12 → dxt K (x + 2) f → f ≤ F → a (kno K x) = if K (x + 2) = 18 then (M 1433669 0 ((mng M ((x + 3 : Nat) : Int)))) else -1) {r : Int} (r1 : 1 ≤ r) (r2 : r < dnS K 2 F) : ∃ N : Nat, a (ez a N r) = -1 := by
  have itx : ∀ x : Nat, x < F → dit K x → ∃ f : Nat, IT M Y K T F x f := fun x hx hd => by
    obtain ⟨l, k2⟩ := dit_2 c1.ok hd hx
    obtain ⟨f, dx, hf⟩ := dxt_ex c1.ok F (x + 2) (by omega) (by omega)
    exact ⟨f, IT.mk c1 c2 ln nf k0 hd l k2 dx hf⟩
  obtain ⟨x, x1, x2, x3, x4⟩ := dnS_o (K := K) 2 F r (by rw [if_pos rfl]; omega) r2
  have ex : kno K x = r := by unfold kno; rw [show K x - 10 = 2 by omega]; exact x4
  obtain ⟨f, it⟩ := itx x x1 x2
  have w := w_res it (by omega)
  have ax := ha x f x1 x2 (by omega) it.dx it.hf
  by_cases c : K (x + 2) = 18
  · rw [if_pos c, ex] at ax
    obtain ⟨w1, w2, w3, w4⟩ := w.2.2 c
    have pf : ∃ n : Nat, ¬ pas M (prn M (mng M ((x + 3 : Nat) : Int)) n) ∧ ∀ i : Nat, i < n → pas M (prn M (mng M ((x + 3 : Nat) : Int)) i) := by
      unfold prf at w4
      rcases fnd_spec (fun n => !(decide (pas M (prn M (mng M ((x + 3 : Nat) : Int)) n)))) ((M 11 0 19) + 1).toNat 0 with ⟨e, _⟩ | ⟨i, e, _, _, h1, h2⟩
      · exact absurd e w4
      · refine ⟨i, (fun z => by have h1' : (!(decide (pas M (prn M (mng M ((x + 3 : Nat) : Int)) i)))) = true := h1; rw [decide_eq_true z] at h1'; cases h1'), fun k hk => ?_⟩
        have h2' : (!(decide (pas M (prn M (mng M ((x + 3 : Nat) : Int)) k)))) = false := h2 k (by omega) hk
        exact of_decide_eq_true (by simpa only [Bool.not_eq_false'] using h2')
    obtain ⟨n, n1, n2⟩ := pf
    obtain ⟨y, y1, y2, y3, y4, y5, y6, y7, y8, y9⟩ := num_in c1 c2 ln w1 w2 (by decide) w3
    have key : ∀ i : Nat, i ≤ n → ∃ z : Nat, z < F ∧ dit K z ∧ K z = 12 ∧ prn M (mng M ((x + 3 : Nat) : Int)) i = dnI K z ∧ ez a i (kno K y) = kno K z := by
      intro i
      induction i with
      | zero => intro _; exact ⟨y, by omega, y2, by omega, y5, rfl⟩
      | succ i ih =>
        intro hi
        obtain ⟨z, z1, z2, z3, z4, z5⟩ := ih (by omega)
        obtain ⟨fz, iz⟩ := itx z z1 z2
        have pz := n2 i (by omega)
        rw [z4] at pz
        have k18 : K (z + 2) = 18 := by
          have q := pz.2.2
          have hT := c1.FT
          rw [c1.ga.na z z1 z2, show ((z : Int) + 1) + 1 = ((z + 2 : Nat) : Int) by omega, c1.rk.2.2.1 (z + 2) (by have := iz.hj; omega)] at q
          exact q
        have wz := (w_res iz z3).2.2 k18
        obtain ⟨v, v1, v2, v3, v4, v5, v6, v7, v8, v9⟩ := num_in c1 c2 ln wz.1 wz.2.1 (by decide) wz.2.2.1
        have az := ha z fz z1 z2 z3 iz.dx iz.hf
        rw [if_pos k18, v7] at az
        refine ⟨v, by omega, v2, by omega, ?_, ?_⟩
        · show mng M ((M 1433667 0 ((prn M (mng M ((x + 3 : Nat) : Int)) i))) + 2) = _
          rw [z4, c1.ga.na z z1 z2, show ((z : Int) + 1) + 2 = ((z + 3 : Nat) : Int) by omega]
          exact v5
        · rw [ez_add i 1, z5]
          show (if a (kno K z) = -1 then kno K z else a (kno K z)) = _
          rw [az, if_neg (by omega)]
    obtain ⟨z, z1, z2, z3, z4, z5⟩ := key n (Nat.le_refl _)
    obtain ⟨fz, iz⟩ := itx z z1 z2
    have az := ha z fz z1 z2 z3 iz.dx iz.hf
    have nz : ¬ K (z + 2) = 18 := fun q => by
      refine n1 ?_
      rw [z4]
      have hT := c1.FT
      have hz := iz.hj
      refine ⟨by omega, by rw [c1.ga.so z z1 z2]; omega, ?_⟩
      rw [c1.ga.na z z1 z2, show ((z : Int) + 1) + 1 = ((z + 2 : Nat) : Int) by omega, c1.rk.2.2.1 (z + 2) (by omega)]
      exact q
    rw [if_neg nz] at az
    refine ⟨n + 1, ?_⟩
    have e1 : ez a (n + 1) r = ez a n (a r) := by
      show (if a r = -1 then r else ez a n (a r)) = _
      rw [ax, y7, if_neg (by omega)]
    rw [e1, ax, y7, z5]
    exact az
  · rw [if_neg c, ex] at ax
    exact ⟨0, ax⟩
end VAL4
