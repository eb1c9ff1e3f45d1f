/-! ===== names on both sides; the kernel is off ===== -/
section SUC5
variable {M Y2 W M1 M2 : AMem} {K : Nat → Int} {T F n n2 n4 n5 : Nat} {b : Int → Int}
/-- the name of an ITEM on both sides -/
def NX (Y2 W : AMem) (n : Nat) (b : Int → Int) (u : Nat) : Prop := ∃ p e : Int, (Y2 8194111 0 ((u : Int))) = p ∧ (Y2 8194112 0 ((u : Int))) = e - p ∧ (0 ≤ p ∧ p ≤ e ∧ e - p ≤ 12 ∧ e ≤ n) ∧ (W 8194584 0 ((u : Int))) = pkd b p e 8 ∧ (W 8194585 0 ((u : Int))) = pkd b (p + 8) e 8
theorem npk_e {s i p e : Int} (k : Nat) (at0 : (M2 917577 0 (64 * s + i)) = p) (sz : (M2 917578 0 (64 * s + i)) = e - p) (pt : ∀ x : Int, 0 ≤ x → x < n → iAnd (M2 8193095 0 (x)) 255 = b x) (hp : 0 ≤ p ∧ p ≤ e ∧ e ≤ n) : ∀ w : Nat, npk M2 s i k w = pkd b (p + k) e w
  | 0 => rfl
  | w + 1 => by
    show lOr (lShl (npk M2 s i k w) 8) (nby M2 s i (k + w)) = lOr (lShl (pkd b (p + k) e w) 8) (if p + k + w < e then b (p + k + w) else 0)
    rw [npk_e k at0 sz pt hp w]
    congr 1
    unfold nby
    rw [sz, at0]
    by_cases c : ((k + w : Nat) : Int) < e - p
    · rw [if_pos c, if_pos (by omega), pt _ (by omega) (by omega)]
      congr 1
      omega
    · rw [if_neg c, if_neg (by omega)]
theorem npk_0 {s i : Int} (k : Nat) (sz : (M2 917578 0 (64 * s + i)) = 0) : ∀ w : Nat, npk M2 s i k w = 0
  | 0 => rfl
  | w + 1 => by
    show lOr (lShl (npk M2 s i k w) 8) (nby M2 s i (k + w)) = 0
    rw [npk_0 k sz w]
    unfold nby
    rw [sz, if_neg (by omega)]
    decide
theorem PP.nm (h : PP Y2 W M1 M2 K T F n n2 n4 n5) (hn : n ≤ 4000) (xt : ∀ k : Int, 0 ≤ k → k < n → iAnd (Y2 8193085 0 (k)) 255 = b k) (nx : ∀ j : Nat, j < F → dit K j → NX Y2 W n b (j + 1)) (z1 : (M1 98852 2 (0)) = 0 ∧ (M1 98854 2 (0)) = 0) (z2 : 0 ≤ (Y2 917577 0 (128)) ∧ (Y2 917577 0 (128)) ≤ 4000) : NMR M1 M2 := by
  have e2 := h.e2
  have mn := h.rs.mn
  intro s i th
  have mr : mrs M2 = n2 := by
    unfold mrs
    rw [mn 2 (by decide) (by decide)]
    split <;> omega
  obtain ⟨s0, i0, i1⟩ := th
  by_cases c : s = 2 ∧ i = 0
  · obtain ⟨rfl, rfl⟩ := c
    have sz : (M2 917578 0 (64 * 2 + 0)) = 0 := h.rs.z0.2.2
    have na : (M2 917577 0 (64 * 2 + 0)) = (Y2 917577 0 (128)) := h.rs.na
    rw [npk_0 0 sz, npk_0 8 sz, sz, na]
    exact ⟨⟨z2.1, by omega, by omega, by omega⟩, z1⟩
  · have lt : i < dnS K s F := by
      by_cases q : s = 2
      · rw [if_pos q, mr] at i1
        rw [q]; omega
      · rw [if_neg q, mn s s0.1 s0.2] at i1
        exact i1
    have lo : (if s = 2 then 1 else 0) ≤ i := by
      by_cases q : s = 2
      · rw [if_pos q]; omega
      · rw [if_neg q]; exact i0
    obtain ⟨j, f, it, j1, j2, j3⟩ := h.it lo lt
    obtain ⟨p, e, p1, p2, p3, p4, p5⟩ := nx j j1 it.hd
    obtain ⟨q1, q2⟩ := (h.rs.sp j f j1 it.hd it.dx it.hf).1
    have nm := h.cs.nm j j1 it.hd
    rw [show K j - 10 = s by omega, j3] at q1 q2 nm
    rw [p1] at q1
    rw [p2] at q2
    have pt : ∀ x : Int, 0 ≤ x → x < n → iAnd (M2 8193095 0 (x)) 255 = b x := fun x x0 x1 => by
      rw [h.rs.pt x x0 x1, ← xt x x0 x1, and255, and255]
      unfold w8
      omega
    have k0 := npk_e (M2 := M2) (s := s) (i := i) 0 q1 q2 pt ⟨p3.1, p3.2.1, p3.2.2.2⟩ 8
    have k8 := npk_e (M2 := M2) (s := s) (i := i) 8 q1 q2 pt ⟨p3.1, p3.2.1, p3.2.2.2⟩ 8
    rw [show p + ((0 : Nat) : Int) = p by omega] at k0
    rw [show p + ((8 : Nat) : Int) = p + 8 by omega] at k8
    rw [q1, q2, k0, k8, nm.1, nm.2]
    exact ⟨⟨by omega, by omega, by omega, by omega⟩, p4, p5⟩
/-- the class's dynamic cells are as they were -/
theorem PP.dc (h : PP Y2 W M1 M2 K T F n n2 n4 n5) (fw : frP M W) {g : Nat} {t x : Int} (hd : dynC g x = true) (h6 : ¬ (g = 6 ∧ 9 ≤ x ∧ x ≤ 11)) (h9 : ¬ (g = 9 ∧ 3 ≤ x ∧ x ≤ 4)) : M1 g t x = M g t x := by
  have gs : g = 6 ∨ g = 7 ∨ g = 786481 ∨ g = 786482 ∨ g = 32815 ∨ g = 1024048 ∨ g = 65587 ∨ (g = 8 ∧ 7 ≤ x) ∨ (g = 9 ∧ 3 ≤ x) ∨ (g = 10 ∧ 6 ≤ x) := by
    unfold dynC at hd
    simp only [Bool.or_eq_true, Bool.and_eq_true, beq_iff_eq, decide_eq_true_eq] at hd
    omega
  rw [h.cs.fr g t x (by omega) (by omega) (by omega) h6 (fun j hj hd z => by
    rcases z with ⟨z, _⟩ | ⟨_, z, _⟩ | ⟨_, z, z1, z2⟩ | ⟨_, z, z1, z2⟩ | ⟨_, z, z1, z2⟩ | ⟨_, z, z1, z2⟩ <;> omega)]
  exact fw g t x (by
    rcases gs with e | e | e | e | e | e | e | e | e | e
    all_goals first | (subst e; rfl) | (obtain ⟨e, _⟩ := e; subst e; rfl))
theorem PP.oc (h : PP Y2 W M1 M2 K T F n n2 n4 n5) (fw : frP M W) (o : OFc M) (k10 : (M1 6 0 10) = 0 ∧ (M1 6 0 11) = 0) : OFc M1 := by
  have d8 : ∀ w x : Int, 7 ≤ x → M1 8 w x = M 8 w x := fun w x hx => h.dc fw (by show (_ || _) = true; simp [dynC, hx]) (by omega) (by omega)
  refine OFc.mk ?_ ?_ k10 ?_ ?_ ?_ ?_ ?_ ?_ ?_ ?_ ?_ ?_
  · rw [h.dc fw rfl (by omega) (by omega)]; exact o.oo
  · rw [h.dc fw rfl (by omega) (by omega)]; exact o.sd
  · rw [h.dc fw rfl (by omega) (by omega)]; exact o.cu
  · intro t a c
    rw [h.dc fw rfl (by omega) (by omega), h.dc fw rfl (by omega) (by omega), h.dc fw rfl (by omega) (by omega), h.dc fw rfl (by omega) (by omega), h.dc fw rfl (by omega) (by omega)]
    exact o.rq t a c
  · intro t a c
    rw [h.dc fw rfl (by omega) (by omega), h.dc fw rfl (by omega) (by omega)]
    exact o.hx t a c
  · intro t a c
    rw [h.dc fw rfl (by omega) (by omega)]; exact o.hc t a c
  · rw [h.dc fw rfl (by omega) (by omega)]; exact o.bc
  · intro t a c
    rw [h.dc fw rfl (by omega) (by omega)]; exact o.ca t a c
  · intro t a c
    rw [h.dc fw rfl (by omega) (by omega)]; exact o.wg t a c
  · intro t a c
    rw [h.dc fw rfl (by omega) (by omega)]; exact o.iu t a c
  · intro t a c
    rw [h.dc fw rfl (by omega) (by omega)]; exact o.ee t a c
  · rw [h.dc fw rfl (by omega) (by omega)]; exact o.rz
/-- the reference's state is off -/
theorem PP.or (h : PP Y2 W M1 M2 K T F n n2 n4 n5) {k : Int} {G : AMem} (fq : ∀ (g : Nat) (t x : Int), rG g = true → pcR g x = false → Y2 g t x = M g t x) (o : OFr M k) (eg : M2 = gof G) : OFr M2 k := by
  have fg : ∀ {g : Nat} (t x : Int), ebG g = false → g ≠ 65612 → g ≠ 65632 → g ≠ 14408 → g ≠ 8193095 → gAll g = false → rG g = true → pcR g x = false → M2 g t x = M g t x := fun {g} t x a1 a2 a3 a4 a5 a6 a7 a8 => by
    rw [h.rs.fg g t x a1 a2 a3 a4 a5 a6, fq g t x a7 a8]
  have fl : ∀ x : Int, 50 ≤ x → x ≠ 50 → x ≠ 51 → x ≠ 52 → x ≠ 65 → x ≠ 73 → M2 11 0 x = M 11 0 x := fun x a b c d e f => by
    rw [h.rs.fl x (by omega) b c d e f, fq 11 0 x rfl (by
      have e : pcR 11 x = decide (x < 50) := rfl
      rw [e]
      exact decide_eq_false (by omega))]
  refine OFr.mk ?_ ?_ ?_ ?_ ?_ ?_ ?_ ?_ ?_ ?_ ?_ ?_ ?_ ?_ ?_ ⟨?_, ?_⟩
  · intro q a c; rw [eg]; exact gof_st q a c
  · intro q a c; rw [eg]; exact gof_hi q a c
  · intro q a c
    rw [fg _ _ rfl (by decide) (by decide) (by decide) (by decide) rfl rfl rfl]
    exact o.tk q a c
  · intro q a c
    rw [fl 58 (by decide) (by decide) (by decide) (by decide) (by decide) (by decide), fg _ _ rfl (by decide) (by decide) (by decide) (by decide) rfl rfl rfl]
    exact o.ky q a c
  · rw [fl 58 (by decide) (by decide) (by decide) (by decide) (by decide) (by decide)]; exact o.se
  · intro q a c; rw [eg]; exact gof_hv q a c
  · rw [eg, gof_11]; unfold gf0; rw [mup_same]
  · rw [eg, gof_11]; unfold gf0; rw [mu_ni (by decide), mup_same]
  · intro q a c; rw [eg]; exact gof_bg q a c
  · intro q a c; rw [eg]; exact gof_ca q a c
  · intro q a c; rw [eg]; exact gof_wg q a c
  · intro q a c; rw [eg]; exact gof_iu q a c
  · intro q a c; rw [eg]; exact gof_se q a c
  · intro q a c
    rw [fg _ _ rfl (by decide) (by decide) (by decide) (by decide) rfl rfl rfl]
    exact o.ee q a c
  · rw [eg, gof_11]; unfold gf0; rw [mu_ni (by decide), mu_ni (by decide), mu_ni (by decide), mup_same]
  · rw [fl 74 (by decide) (by decide) (by decide) (by decide) (by decide) (by decide)]; exact o.bt.1
  · rw [fl 75 (by decide) (by decide) (by decide) (by decide) (by decide) (by decide)]; exact o.bt.2
theorem PP.ko (h : PP Y2 W M1 M2 K T F n n2 n4 n5) (fq : ∀ (g : Nat) (t x : Int), rG g = true → pcR g x = false → Y2 g t x = M g t x) (o : CO M) : CO M2 := by
  have p3 : pmo 3 = 16 := rfl
  have b3 := h.mx (s := 3) (by decide) (by decide)
  unfold CO at o ⊢
  refine ⟨fun a a0 a1 => ?_, fun c c0 c1 => ?_⟩
  · by_cases z : a < dnS K 6 F
    · have q := (h.al a0 z).1.1
      omega
    · rw [h.rs.fu a (fun j hj hd e16 e => by
        have kl := kno_l hj hd
        rw [show K j - 10 = 6 by omega] at kl
        omega), fq _ _ _ rfl rfl]
      exact o.1 a a0 a1
  · have q := h.rs.cz c c0 c1
    rw [q.1]
    refine ⟨?_, by omega⟩
    by_cases z : c < dnS K 3 F
    · obtain ⟨j, f, it, j1, j2, j3⟩ := h.it (s := 3) (k := c) (by rw [if_neg (by decide)]; exact c0) z
      have e13 : K j = 13 := by omega
      have s := (h.rs.sp j f j1 it.hd it.dx it.hf).2.1 e13
      have w := w_ctr it e13
      rw [j3] at s
      rw [s.1]
      omega
    · rw [h.rs.fv c (fun j hj hd e13 e => by
        have kl := kno_l hj hd
        rw [show K j - 10 = 3 by omega] at kl
        omega), fq _ _ _ rfl rfl]
      exact (o.2 c c0 c1).1
theorem PP.co (h : PP Y2 W M1 M2 K T F n n2 n4 n5) : ∀ c : Int, 0 ≤ c → c < (M2 14408 0 (3)) → ((M1 9 (c) 3) = (M2 32876 0 (c)) ∧ 0 ≤ (M2 32876 0 (c)) ∧ (M2 32876 0 (c)) ≤ (M2 32846 0 (c))) ∧ (M1 9 (c) 4) = (M2 32877 0 (c)) ∧ 0 ≤ (M2 32877 0 (c)) ∧ (M2 32877 0 (c)) < (M2 32847 0 (c)) := by
  intro c c0 c1
  have b3 := h.mx (s := 3) (by decide) (by decide)
  have p3 : pmo 3 = 16 := rfl
  rw [h.rs.mn 3 (by decide) (by decide)] at c1
  obtain ⟨j, f, it, j1, j2, j3⟩ := h.it (s := 3) (k := c) (by rw [if_neg (by decide)]; exact c0) c1
  have e13 : K j = 13 := by omega
  have s := (h.rs.sp j f j1 it.hd it.dx it.hf).2.1 e13
  have k := h.cs.ct j j1 it.hd e13
  have w := w_ctr it e13
  rw [j3] at s k
  obtain ⟨s1, s2, s3⟩ := s
  have q := h.rs.cz c c0 (by omega)
  rw [k.2.2.2.1, k.2.2.2.2, q.1, q.2, s1, s2]
  omega
end SUC5
