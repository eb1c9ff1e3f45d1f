/-! ===== a role is there once in an ITEM ===== -/
def rnk (s : Nat) : Nat := if s = 0 then 50 else if 18 ≤ s ∧ s ≤ 25 then 18 else if s = 30 then 29 else if s = 39 then 38 else s
def sgl (s : Nat) : Bool := s == 9 || s == 11 || s == 13 || s == 15 || s == 17 || s == 27 || s == 32 || s == 34 || s == 35 || s == 36 || s == 40 || s == 42
theorem rnk_t : ((List.range 43).all fun s => (List.range 35).all fun x => (decide (10 ≤ x ∧ x ≤ 16)) || (dt s x == 99) || (decide (rnk s ≤ rnk (dt s x)) && (!(sgl s) || decide (rnk s < rnk (dt s x))))) = true := by decide +kernel
theorem rnk_s (s : Nat) (k : Int) (h9 : dt s k ≠ 99) (hi : ¬ (10 ≤ k ∧ k ≤ 16)) : rnk s ≤ rnk (dt s k) ∧ (sgl s = true → rnk s < rnk (dt s k)) := by
  have hs : s < 43 := by
    by_cases c : s < 43
    · exact c
    · exact absurd (dt_g s k (by omega)) h9
  have hk : 0 ≤ k ∧ k ≤ 34 := by
    by_cases c : k < 2 ∨ 34 < k
    · exact absurd (dt_o s k c) h9
    · omega
  have t := List.all_eq_true.mp (List.all_eq_true.mp rnk_t s (List.mem_range.mpr hs)) k.toNat (List.mem_range.mpr (by omega))
  rw [show ((k.toNat : Nat) : Int) = k by omega] at t
  simp only [Bool.or_eq_true, Bool.and_eq_true, decide_eq_true_eq, beq_iff_eq, Bool.not_eq_true'] at t
  rcases t with (t | t) | t
  · exact absurd (by omega) hi
  · exact absurd t h9
  · refine ⟨t.1, fun e => ?_⟩
    rcases t.2 with z | z
    · rw [z] at e; cases e
    · exact z
section VAL1
variable {K : Nat → Int} {T F : Nat}
theorem rnk_m {u : Nat} : ∀ v : Nat, u ≤ v → (∀ x : Nat, u ≤ x → x < v → ¬ (10 ≤ K x ∧ K x ≤ 16)) → dst K v ≠ 99 → rnk (dst K u) ≤ rnk (dst K v)
  | 0, h, _, _ => by rw [show u = 0 by omega]; exact Nat.le_refl _
  | v + 1, h, hn, h9 => by
    by_cases c : u = v + 1
    · rw [c]; exact Nat.le_refl _
    · have e : dst K (v + 1) = dt (dst K v) (K v) := rfl
      have h9' : dst K v ≠ 99 := fun z => h9 (by rw [e, z]; rfl)
      have ih := rnk_m v (by omega) (fun x a b => hn x a (by omega)) h9'
      rw [e] at h9 ⊢
      exact Nat.le_trans ih (rnk_s _ _ h9 (hn v (by omega) (by omega))).1
theorem sgl_u {u v : Nat} (hs : sgl (dst K u) = true) (e : dst K v = dst K u) (h : u < v) (hn : ∀ x : Nat, u ≤ x → x < v → ¬ (10 ≤ K x ∧ K x ≤ 16)) (h9 : dst K v ≠ 99) : False := by
  have e1 : dst K (u + 1) = dt (dst K u) (K u) := rfl
  have m := rnk_m (K := K) (u := u + 1) v h (fun x a b => hn x (by omega) b) h9
  have h9' : dst K (u + 1) ≠ 99 := fun z => h9 (dst_99 z v h)
  rw [e1] at m h9'
  have s := (rnk_s _ _ h9' (hn u (Nat.le_refl _) h)).2 hs
  rw [e] at m
  omega
theorem dxt_l {i f u : Nat} (h : dxt K i f) (hn : ∀ v : Nat, i ≤ v → v ≤ u → dac (dst K v) = false) : u < f := by
  by_cases c : u < f
  · exact c
  · have z := hn f h.1.1 (by omega)
    have y := h.2.1
    rw [z] at y
    cases y
variable {M Y : AMem} {j f : Nat}
/-- what is known of an ITEM on both sides -/
def IT (M Y : AMem) (K : Nat → Int) (T F j f : Nat) : Prop := (C1 M K T F) ∧ (C2 Y K T F) ∧ (LN M Y K F) ∧ (NF M K F) ∧ (∀ t : Nat, t < F → KF Y K t 0) ∧ (dit K j) ∧ (j + 2 ≤ F) ∧ (K (j + 1) = 2) ∧ (dxt K (j + 2) f) ∧ (f ≤ F)
theorem IT.c1 {M Y : AMem} {K : Nat → Int} {T F j f : Nat} (h : IT M Y K T F j f) : C1 M K T F := h.1
theorem IT.c2 {M Y : AMem} {K : Nat → Int} {T F j f : Nat} (h : IT M Y K T F j f) : C2 Y K T F := h.2.1
theorem IT.ln {M Y : AMem} {K : Nat → Int} {T F j f : Nat} (h : IT M Y K T F j f) : LN M Y K F := h.2.2.1
theorem IT.nf {M Y : AMem} {K : Nat → Int} {T F j f : Nat} (h : IT M Y K T F j f) : NF M K F := h.2.2.2.1
theorem IT.k0 {M Y : AMem} {K : Nat → Int} {T F j f : Nat} (h : IT M Y K T F j f) : ∀ t : Nat, t < F → KF Y K t 0 := h.2.2.2.2.1
theorem IT.hd {M Y : AMem} {K : Nat → Int} {T F j f : Nat} (h : IT M Y K T F j f) : dit K j := h.2.2.2.2.2.1
theorem IT.hj {M Y : AMem} {K : Nat → Int} {T F j f : Nat} (h : IT M Y K T F j f) : j + 2 ≤ F := h.2.2.2.2.2.2.1
theorem IT.k2 {M Y : AMem} {K : Nat → Int} {T F j f : Nat} (h : IT M Y K T F j f) : K (j + 1) = 2 := h.2.2.2.2.2.2.2.1
theorem IT.dx {M Y : AMem} {K : Nat → Int} {T F j f : Nat} (h : IT M Y K T F j f) : dxt K (j + 2) f := h.2.2.2.2.2.2.2.2.1
theorem IT.hf {M Y : AMem} {K : Nat → Int} {T F j f : Nat} (h : IT M Y K T F j f) : f ≤ F := h.2.2.2.2.2.2.2.2.2
theorem IT.mk {M Y : AMem} {K : Nat → Int} {T F j f : Nat} (c1 : C1 M K T F) (c2 : C2 Y K T F) (ln : LN M Y K F) (nf : NF M K F) (k0 : ∀ t : Nat, t < F → KF Y K t 0) (hd : dit K j) (hj : j + 2 ≤ F) (k2 : K (j + 1) = 2) (dx : dxt K (j + 2) f) (hf : f ≤ F) : IT M Y K T F j f := ⟨c1, c2, ln, nf, k0, hd, hj, k2, dx, hf⟩
theorem IT.na (h : IT M Y K T F j f) : (Y 1366047 0 ((dnI K j : Int))) = (j + 1 : Nat) := h.c2.gc.na j (by have := h.hj; omega) h.hd
theorem IT.en (h : IT M Y K T F j f) : (Y 1366048 0 ((dnI K j : Int))) = (f : Nat) := h.c2.he j f (by have := h.hj; omega) h.hd h.dx h.hf
theorem IT.im (h : IT M Y K T F j f) : ((dnI K j : Nat) : Int) < (M 11 0 19) ∧ ((dnI K j : Nat) : Int) < (Y 3 0 9) := by
  have hj := h.hj
  have e := dnI_s h.hd (show j < F by omega)
  rw [h.c1.it, h.c2.gc.it]
  omega
theorem IT.nd (h : IT M Y K T F j f) : ∀ x : Nat, j + 1 ≤ x → x < f → ¬ (10 ≤ K x ∧ K x ≤ 16) := fun x a b => by
  by_cases c : x = j + 1
  · rw [c, h.k2]; omega
  · exact h.dx.1.2 x (by omega) b
theorem IT.ei (h : IT M Y K T F j f) {t : Nat} (a : j + 1 ≤ t) (b : t < f) : itf K t = dnI K j := itf_d h.hd ⟨by omega, fun x p q => h.nd x p (by omega)⟩ (h.nd t a b)
theorem IT.nm (h : IT M Y K T F j f) {t : Nat} (a : j + 1 ≤ t) (b : t < f) : nmf M K t = j + 1 := by
  have hj := h.hj
  exact nmf_d h.c1 (by omega) h.hd ⟨by omega, fun x p q => h.nd x p (by omega)⟩ (h.nd t a b)
/-- where a role is found -/
theorem IT.cf (h : IT M Y K T F j f) {r : Int} {s u : Nat} (dr : ∀ v : Nat, rol K v = r → dst K v = s) (hs : sgl s = true) (a : j + 1 ≤ u) (b : u < f) (hr : rol K u = r) : cfn Y K (dnI K j : Int) r = u := by
  have hf := h.hf
  refine cfn_1 (by omega) h.na h.en a b hr (fun v p q e => ?_)
  have sv := dr v e
  have su := dr u hr
  exact sgl_u (u := v) (v := u) (by rw [sv]; exact hs) (by rw [su, sv]) q (fun x x1 x2 => h.nd x (by omega) (by omega)) (by rw [su]; exact fun z => by rw [z] at hs; cases hs)
theorem IT.cv (h : IT M Y K T F j f) {r : Int} {s u : Nat} (dr : ∀ v : Nat, rol K v = r → dst K v = s) (hs : sgl s = true) (a : j + 1 ≤ u) (b : u < f) (hr : rol K u = r) (k3 : K u = 3) (d : Int) : cvl Y K (dnI K j : Int) r d = (M 8194113 0 ((u : Int))) := by
  have hf := h.hf
  unfold cvl
  rw [h.cf dr hs a b hr, if_neg (by omega)]
  exact ((h.ln.va u (by omega) k3).1).symm
theorem IT.c0 (h : IT M Y K T F j f) {r : Int} (hn : ∀ v : Nat, j + 1 ≤ v → v < f → ¬ rol K v = r) : cfn Y K (dnI K j : Int) r = -1 := cfn_0 h.na h.en hn
theorem IT.cn (h : IT M Y K T F j f) {r w : Int} {s u : Nat} (dr : ∀ v : Nat, rol K v = r → dst K v = s) (hs : sgl s = true) (a : j + 1 ≤ u) (b : u < f) (hr : rol K u = r) (k2 : K u = 2) (hw : rwt r = w) (hw0 : 0 ≤ w) : cno Y K (dnI K j : Int) r = (M 1433669 0 ((mng M (u : Int)))) ∧ ¬ mng M (u : Int) = -1 ∧ srt M (u : Int) = w := by
  have hf := h.hf
  have e : cio Y K (dnI K j : Int) r = cmt Y u := by
    unfold cio
    rw [h.cf dr hs a b hr, if_neg (by omega)]
    rfl
  have q := (KF_0.mp (h.k0 u (by omega))).2.1
  rw [hr, un_e h.c1 h.c2 h.ln (by omega) k2 hw hw0] at q
  have sw : srt M (u : Int) = w := by
    by_cases z : srt M (u : Int) = w
    · exact z
    · exact absurd z q
  have me := mng_eq h.c1 h.c2 h.ln (t := u) (by omega) k2
  have cm : ¬ cmt Y u = -1 := fun z => by
    have := srt_eq h.c1 h.c2 h.ln (t := u) (by omega) k2
    rw [if_pos z] at this
    omega
  have cb := (cmt_b h.c1 h.c2 (t := u) (by omega)).resolve_left cm
  unfold cno
  rw [e, if_neg cm, me]
  obtain ⟨j', f', i1, i2, i3, i4, i5, i6, i7, i8, i9, i10⟩ := LI h.c1 h.c2 cb.1 cb.2
  exact ⟨by rw [i10.1, i10.2], cm, sw⟩
end VAL1
