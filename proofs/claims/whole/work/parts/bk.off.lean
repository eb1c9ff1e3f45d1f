/-! ===== the kernel is off: what the relation says then ===== -/
def OFr (B : AMem) (n : Int) : Prop := (∀ q : Int, 0 ≤ q → q < 400 → (B 819298 0 (q)) = 0) ∧ (∀ q : Int, 0 ≤ q → q < 400 → (B 819561 0 (q)) = 0) ∧ (∀ q : Int, 0 ≤ q → q < 400 → 0 ≤ (B 819297 0 (q)) ∧ (B 819297 0 (q)) < 48) ∧ (∀ q : Int, 0 ≤ q → q < 400 → -(B 11 0 58) ≤ (B 819812 0 (q)) ∧ (B 819812 0 (q)) ≤ (B 11 0 58)) ∧ (0 ≤ (B 11 0 58) ∧ (B 11 0 58) ≤ n) ∧ (∀ r : Int, 0 ≤ r → r < 32 → (B 65639 0 (r)) = 0) ∧ ((B 11 0 65) = 0) ∧ ((B 11 0 52) = 0) ∧ (∀ i : Int, 0 ≤ i → i < 16 → (B 32875 0 (i)) = -1) ∧ (∀ i : Int, 0 ≤ i → i < 16 → (B 33130 0 (i)) = 0) ∧ (∀ c : Int, 0 ≤ c → c < 16 → (B 32878 0 (c)) = 0) ∧ (∀ a : Int, 0 ≤ a → a < 48 → (B 98671 0 (a)) = 0) ∧ (∀ t : Int, 0 ≤ t → t < 48 → (B 98406 0 (t)) = 0) ∧ (∀ a : Int, 0 ≤ a → a < 48 → 0 ≤ (B 98417 0 (a)) ∧ (B 98417 0 (a)) ≤ 65535) ∧ ((B 11 0 50) = 0) ∧ ((B 11 0 74) = 0 ∧ (B 11 0 75) = 0)
theorem OFr.st {B : AMem} {n : Int} (h : OFr B n) : ∀ q : Int, 0 ≤ q → q < 400 → (B 819298 0 (q)) = 0 := h.1
theorem OFr.hi {B : AMem} {n : Int} (h : OFr B n) : ∀ q : Int, 0 ≤ q → q < 400 → (B 819561 0 (q)) = 0 := h.2.1
theorem OFr.tk {B : AMem} {n : Int} (h : OFr B n) : ∀ q : Int, 0 ≤ q → q < 400 → 0 ≤ (B 819297 0 (q)) ∧ (B 819297 0 (q)) < 48 := h.2.2.1
theorem OFr.ky {B : AMem} {n : Int} (h : OFr B n) : ∀ q : Int, 0 ≤ q → q < 400 → -(B 11 0 58) ≤ (B 819812 0 (q)) ∧ (B 819812 0 (q)) ≤ (B 11 0 58) := h.2.2.2.1
theorem OFr.se {B : AMem} {n : Int} (h : OFr B n) : 0 ≤ (B 11 0 58) ∧ (B 11 0 58) ≤ n := h.2.2.2.2.1
theorem OFr.hv {B : AMem} {n : Int} (h : OFr B n) : ∀ r : Int, 0 ≤ r → r < 32 → (B 65639 0 (r)) = 0 := h.2.2.2.2.2.1
theorem OFr.dp {B : AMem} {n : Int} (h : OFr B n) : (B 11 0 65) = 0 := h.2.2.2.2.2.2.1
theorem OFr.sh {B : AMem} {n : Int} (h : OFr B n) : (B 11 0 52) = 0 := h.2.2.2.2.2.2.2.1
theorem OFr.bg {B : AMem} {n : Int} (h : OFr B n) : ∀ i : Int, 0 ≤ i → i < 16 → (B 32875 0 (i)) = -1 := h.2.2.2.2.2.2.2.2.1
theorem OFr.ca {B : AMem} {n : Int} (h : OFr B n) : ∀ i : Int, 0 ≤ i → i < 16 → (B 33130 0 (i)) = 0 := h.2.2.2.2.2.2.2.2.2.1
theorem OFr.wg {B : AMem} {n : Int} (h : OFr B n) : ∀ c : Int, 0 ≤ c → c < 16 → (B 32878 0 (c)) = 0 := h.2.2.2.2.2.2.2.2.2.2.1
theorem OFr.iu {B : AMem} {n : Int} (h : OFr B n) : ∀ a : Int, 0 ≤ a → a < 48 → (B 98671 0 (a)) = 0 := h.2.2.2.2.2.2.2.2.2.2.2.1
theorem OFr.zs {B : AMem} {n : Int} (h : OFr B n) : ∀ t : Int, 0 ≤ t → t < 48 → (B 98406 0 (t)) = 0 := h.2.2.2.2.2.2.2.2.2.2.2.2.1
theorem OFr.ee {B : AMem} {n : Int} (h : OFr B n) : ∀ a : Int, 0 ≤ a → a < 48 → 0 ≤ (B 98417 0 (a)) ∧ (B 98417 0 (a)) ≤ 65535 := h.2.2.2.2.2.2.2.2.2.2.2.2.2.1
theorem OFr.oo {B : AMem} {n : Int} (h : OFr B n) : (B 11 0 50) = 0 := h.2.2.2.2.2.2.2.2.2.2.2.2.2.2.1
theorem OFr.bt {B : AMem} {n : Int} (h : OFr B n) : (B 11 0 74) = 0 ∧ (B 11 0 75) = 0 := h.2.2.2.2.2.2.2.2.2.2.2.2.2.2.2
theorem OFr.mk {B : AMem} {n : Int} (st : ∀ q : Int, 0 ≤ q → q < 400 → (B 819298 0 (q)) = 0) (hi : ∀ q : Int, 0 ≤ q → q < 400 → (B 819561 0 (q)) = 0) (tk : ∀ q : Int, 0 ≤ q → q < 400 → 0 ≤ (B 819297 0 (q)) ∧ (B 819297 0 (q)) < 48) (ky : ∀ q : Int, 0 ≤ q → q < 400 → -(B 11 0 58) ≤ (B 819812 0 (q)) ∧ (B 819812 0 (q)) ≤ (B 11 0 58)) (se : 0 ≤ (B 11 0 58) ∧ (B 11 0 58) ≤ n) (hv : ∀ r : Int, 0 ≤ r → r < 32 → (B 65639 0 (r)) = 0) (dp : (B 11 0 65) = 0) (sh : (B 11 0 52) = 0) (bg : ∀ i : Int, 0 ≤ i → i < 16 → (B 32875 0 (i)) = -1) (ca : ∀ i : Int, 0 ≤ i → i < 16 → (B 33130 0 (i)) = 0) (wg : ∀ c : Int, 0 ≤ c → c < 16 → (B 32878 0 (c)) = 0) (iu : ∀ a : Int, 0 ≤ a → a < 48 → (B 98671 0 (a)) = 0) (zs : ∀ t : Int, 0 ≤ t → t < 48 → (B 98406 0 (t)) = 0) (ee : ∀ a : Int, 0 ≤ a → a < 48 → 0 ≤ (B 98417 0 (a)) ∧ (B 98417 0 (a)) ≤ 65535) (oo : (B 11 0 50) = 0) (bt : (B 11 0 74) = 0 ∧ (B 11 0 75) = 0) : OFr B n := ⟨st, hi, tk, ky, se, hv, dp, sh, bg, ca, wg, iu, zs, ee, oo, bt⟩
def OFc (A : AMem) : Prop := ((A 6 0 2) = 0) ∧ ((A 6 0 4) = 0) ∧ ((A 6 0 10) = 0 ∧ (A 6 0 11) = 0) ∧ ((A 6 0 5) = -1) ∧ (∀ t : Int, 0 ≤ t → t < 48 → (A 8 (t) 7) = 0 ∧ (A 8 (t) 8) = 0 ∧ (A 8 (t) 9) = 0 ∧ (A 8 (t) 11) = 0 ∧ (A 8 (t) 10) = 0) ∧ (∀ w : Int, 48 ≤ w → w < 65 → (A 8 (w) 11) = 0 ∧ (A 8 (w) 7) = 0) ∧ (∀ w : Int, 0 ≤ w → w < 65 → (A 8 (w) 14) = 0) ∧ ((A 6 0 7) = 0) ∧ (∀ i : Int, 0 ≤ i → i < 16 → (A 8 ((48 + i)) 12) = 0) ∧ (∀ c : Int, 0 ≤ c → c < 16 → (A 9 (c) 5) = 0) ∧ (∀ a : Int, 0 ≤ a → a < 48 → (A 10 (a) 6) = 0) ∧ (∀ a : Int, 0 ≤ a → a < 48 → 0 ≤ (A 10 (a) 8) ∧ (A 10 (a) 8) ≤ 65535) ∧ ((A 7 0 2) = 0)
theorem OFc.oo {A : AMem} (h : OFc A) : (A 6 0 2) = 0 := h.1
theorem OFc.sd {A : AMem} (h : OFc A) : (A 6 0 4) = 0 := h.2.1
theorem OFc.un {A : AMem} (h : OFc A) : (A 6 0 10) = 0 ∧ (A 6 0 11) = 0 := h.2.2.1
theorem OFc.cu {A : AMem} (h : OFc A) : (A 6 0 5) = -1 := h.2.2.2.1
theorem OFc.rq {A : AMem} (h : OFc A) : ∀ t : Int, 0 ≤ t → t < 48 → (A 8 (t) 7) = 0 ∧ (A 8 (t) 8) = 0 ∧ (A 8 (t) 9) = 0 ∧ (A 8 (t) 11) = 0 ∧ (A 8 (t) 10) = 0 := h.2.2.2.2.1
theorem OFc.hx {A : AMem} (h : OFc A) : ∀ w : Int, 48 ≤ w → w < 65 → (A 8 (w) 11) = 0 ∧ (A 8 (w) 7) = 0 := h.2.2.2.2.2.1
theorem OFc.hc {A : AMem} (h : OFc A) : ∀ w : Int, 0 ≤ w → w < 65 → (A 8 (w) 14) = 0 := h.2.2.2.2.2.2.1
theorem OFc.bc {A : AMem} (h : OFc A) : (A 6 0 7) = 0 := h.2.2.2.2.2.2.2.1
theorem OFc.ca {A : AMem} (h : OFc A) : ∀ i : Int, 0 ≤ i → i < 16 → (A 8 ((48 + i)) 12) = 0 := h.2.2.2.2.2.2.2.2.1
theorem OFc.wg {A : AMem} (h : OFc A) : ∀ c : Int, 0 ≤ c → c < 16 → (A 9 (c) 5) = 0 := h.2.2.2.2.2.2.2.2.2.1
theorem OFc.iu {A : AMem} (h : OFc A) : ∀ a : Int, 0 ≤ a → a < 48 → (A 10 (a) 6) = 0 := h.2.2.2.2.2.2.2.2.2.2.1
theorem OFc.ee {A : AMem} (h : OFc A) : ∀ a : Int, 0 ≤ a → a < 48 → 0 ≤ (A 10 (a) 8) ∧ (A 10 (a) 8) ≤ 65535 := h.2.2.2.2.2.2.2.2.2.2.2.1
theorem OFc.rz {A : AMem} (h : OFc A) : (A 7 0 2) = 0 := h.2.2.2.2.2.2.2.2.2.2.2.2
theorem OFc.mk {A : AMem} (oo : (A 6 0 2) = 0) (sd : (A 6 0 4) = 0) (un : (A 6 0 10) = 0 ∧ (A 6 0 11) = 0) (cu : (A 6 0 5) = -1) (rq : ∀ t : Int, 0 ≤ t → t < 48 → (A 8 (t) 7) = 0 ∧ (A 8 (t) 8) = 0 ∧ (A 8 (t) 9) = 0 ∧ (A 8 (t) 11) = 0 ∧ (A 8 (t) 10) = 0) (hx : ∀ w : Int, 48 ≤ w → w < 65 → (A 8 (w) 11) = 0 ∧ (A 8 (w) 7) = 0) (hc : ∀ w : Int, 0 ≤ w → w < 65 → (A 8 (w) 14) = 0) (bc : (A 6 0 7) = 0) (ca : ∀ i : Int, 0 ≤ i → i < 16 → (A 8 ((48 + i)) 12) = 0) (wg : ∀ c : Int, 0 ≤ c → c < 16 → (A 9 (c) 5) = 0) (iu : ∀ a : Int, 0 ≤ a → a < 48 → (A 10 (a) 6) = 0) (ee : ∀ a : Int, 0 ≤ a → a < 48 → 0 ≤ (A 10 (a) 8) ∧ (A 10 (a) 8) ≤ 65535) (rz : (A 7 0 2) = 0) : OFc A := ⟨oo, sd, un, cu, rq, hx, hc, bc, ca, wg, iu, ee, rz⟩
theorem off_rl {n : Int} {A B : AMem} (pl : PL A B) (c : OFc A) (r : OFr B n) (mo : (A 6 0 3) = (B 11 0 51)) (no : (A 6 0 9) = (B 11 0 73) ∧ 0 ≤ (B 11 0 73) ∧ (B 11 0 73) ≤ n) (na : ∀ i : Int, 0 ≤ i → i < 500 → (A 1024048 0 (i)) = (B 1024114 0 (i))) (co : ∀ c : Int, 0 ≤ c → c < (B 14408 0 (3)) → ((A 9 (c) 3) = (B 32876 0 (c)) ∧ 0 ≤ (B 32876 0 (c)) ∧ (B 32876 0 (c)) ≤ (B 32846 0 (c))) ∧ (A 9 (c) 4) = (B 32877 0 (c)) ∧ 0 ≤ (B 32877 0 (c)) ∧ (B 32877 0 (c)) < (B 32847 0 (c))) (ko : CO B) : RL n A B := by
  have hm := pl.mb
  have m4 : (0 ≤ (B 14408 0 (4)) ∧ (B 14408 0 (4)) ≤ 48) ∧ (0 ≤ (B 14408 0 (5)) ∧ (B 14408 0 (5)) ≤ 16) ∧ (0 ≤ (B 14408 0 (3)) ∧ (B 14408 0 (3)) ≤ 16) ∧ (0 ≤ (B 14408 0 (6)) ∧ (B 14408 0 (6)) ≤ 48) := by unfold MB at hm; omega
  have er : rn B = -1 := rn_0 (fun x x0 x1 => by rw [r.st x x0 x1]; omega)
  have sb : SB B := by
    refine SB.mk (fun x x0 x1 => ?_) (fun x x0 x1 z => ?_) (fun x x0 x1 => r.ky x x0 x1) (fun x x0 x1 z => ?_) (fun x x0 x1 z => ?_) (fun q q0 q1 => Or.inl (r.hv q q0 q1)) (fun x p x0 x1 p0 p1 xp xs ps tt hl => ?_) (fun x x0 x1 z => ?_) r.se.1
    · rw [r.st x x0 x1]
      exact ⟨by omega, r.tk x x0 x1, fun z => absurd rfl z⟩
    · rw [r.st x x0 x1] at z; omega
    · exact absurd (r.hi x x0 x1) z
    · rw [r.st x x0 x1] at z; omega
    · exact absurd (r.st x x0 x1) xs
    · rw [r.st x x0 x1] at z; omega
  refine RL.mk pl sb ⟨by rw [c.oo, r.oo], mo⟩ ⟨by rw [c.sd, r.sh], by rw [r.sh]; omega, by rw [r.sh]; omega⟩ ⟨no.1, no.2.1, no.2.2, r.se.2⟩ na ⟨r.bt.1, r.bt.2, c.un⟩ (by rw [er, c.cu, if_pos rfl]) ?_ ?_ ?_ ?_ c.hx ?_ ?_ ?_ ?_ ⟨by rw [c.bc, r.dp], by rw [r.dp]; omega⟩ ?_ ?_ (fun i i0 i1 => Or.inl (r.bg i i0 i1)) ?_ ?_ co ko ?_ ?_ ?_ (fun a a0 a1 => ⟨c.ee a a0 a1, r.ee a a0 a1⟩) (fun _ => ⟨r.st, r.dp, r.sh, r.ca, r.wg, r.iu, r.zs, r.hv⟩) ?_
  · intro t t0 t1
    rw [(c.rq t t0 t1).1, cq_cnt, cnt_0 400 (fun j hj => by
      simp only [decide_eq_false_iff_not]
      rintro ⟨a, b⟩
      exact a (r.st j (by omega) (by omega)))]
    refine ⟨rfl, fun z => ?_⟩
    have := pl.lm t t0 z
    omega
  · intro t t0 t1
    rw [(c.rq t t0 t1).2.1, (c.rq t t0 t1).2.2.1]
    refine ⟨⟨fun z => absurd rfl z, ?_⟩, fun _ => rfl⟩
    rintro ⟨q, q0, q1, _⟩
    rw [r.st q q0.1 q0.2] at q1
    omega
  · intro q q0 q1 z
    rw [r.st q q0 q1] at z
    omega
  · intro t t0 t1
    rw [(c.rq t t0 t1).2.2.2.1]
    refine ⟨fun z => absurd rfl z, ?_⟩
    rintro ⟨q, q0, q1, _⟩
    exact absurd (r.hi q q0.1 q0.2) q1
  · intro w w0 w1
    rw [c.hc w w0 w1]
    omega
  · intro w i w0 w1 i0 i1
    rw [c.hc w w0 w1] at i1
    omega
  · intro w i j w0 w1 i0 ij j1
    rw [c.hc w w0 w1] at j1
    omega
  · intro q q0 q1 z
    exact absurd (r.hv q q0 q1) z
  · intro p p0 p1
    rw [r.dp] at p1
    omega
  · intro p p0 p1
    rw [r.dp] at p1
    omega
  · intro i i0 i1
    rw [c.ca i i0 i1, r.ca i i0 i1]
    exact ⟨rfl, fun _ => rfl⟩
  · intro t t0 t1
    rw [(c.rq t t0 t1).2.2.2.2, r.zs t t0 t1]
    exact ⟨rfl, fun _ => rfl⟩
  · intro k k0 k1
    rw [c.wg k k0 k1, r.wg k k0 k1]
    exact ⟨⟨rfl, by omega, by omega⟩, fun _ => rfl⟩
  · intro a a0 a1
    rw [c.iu a a0 a1, r.iu a a0 a1]
    exact ⟨⟨rfl, Or.inl rfl⟩, fun _ => rfl⟩
  · intro a a0 a1 z
    exact absurd (r.iu a a0 (by omega)) z
  · rw [c.rz]
    refine ⟨fun _ => 0, by omega, fun i a b => by omega, fun i j a b c => by omega, fun q q0 q1 qs => ?_⟩
    have qs : (B 819298 0 (q)) = 1 := qs
    rw [r.st q q0 q1] at qs
    omega
theorem off_of {n : Int} {A B : AMem} (h : RL n A B) (h0 : (B 11 0 50) = 0) : OFc A ∧ OFr B n := by
  have o := h.of h0
  have er : rn B = -1 := rn_0 (fun x x0 x1 => by rw [o.1 x x0 x1]; omega)
  have s := h.sb
  have hm := h.mB
  have m5 : 0 ≤ (B 14408 0 (5)) ∧ (B 14408 0 (5)) ≤ 16 := by unfold MB at hm; omega
  have cq0 : ∀ t : Int, cq B t 400 = 0 := fun t => by
    rw [cq_cnt]
    exact cnt_0 400 (fun j hj => by
      simp only [decide_eq_false_iff_not]
      rintro ⟨a, b⟩
      exact a (o.1 j (by omega) (by omega)))
  have hi : ∀ q : Int, 0 ≤ q → q < 400 → (B 819561 0 (q)) = 0 := fun q q0 q1 => by
    by_cases z : (B 819561 0 (q)) = 0
    · exact z
    · have := (s.hi q q0 q1 z).1
      rw [o.1 q q0 q1] at this
      omega
  refine ⟨OFc.mk ?_ ?_ ⟨h.bt.2.2.1, h.bt.2.2.2⟩ ?_ ?_ h.hx ?_ ?_ ?_ ?_ ?_ (fun a a0 a1 => (h.ee a a0 a1).1) ?_, OFr.mk o.1 hi (fun q q0 q1 => (s.rg q q0 q1).2.1) s.ky ⟨s.se, h.no.2.2.2⟩ o.2.2.2.2.2.2.2 o.2.1 o.2.2.1 ?_ o.2.2.2.1 o.2.2.2.2.1 o.2.2.2.2.2.1 o.2.2.2.2.2.2.1 (fun a a0 a1 => (h.ee a a0 a1).2) h0 ⟨h.bt.1, h.bt.2.1⟩⟩
  · rw [h.on.1]; exact h0
  · rw [h.sh.1]; exact o.2.2.1
  · rw [h.cu, er, if_pos rfl]
  · intro t t0 t1
    have w0 : (A 8 (t) 8) = 0 := by
      by_cases z : (A 8 (t) 8) = 0
      · exact z
      · obtain ⟨q, q0, q1, _⟩ := (h.wa t t0 t1).1.mp z
        rw [o.1 q q0.1 q0.2] at q1
        omega
    refine ⟨by rw [(h.rq t t0 t1).1]; exact cq0 t, w0, (h.wa t t0 t1).2 w0, ?_, by rw [(h.st t t0 t1).1]; exact o.2.2.2.2.2.2.1 t t0 t1⟩
    by_cases z : (A 8 (t) 11) = 0
    · exact z
    · obtain ⟨q, q0, q1, _⟩ := (h.hi t t0 t1).mp z
      exact absurd (hi q q0.1 q0.2) q1
  · intro w w0 w1
    have a := h.hc w w0 w1
    by_cases z : (A 8 (w) 14) = 0
    · exact z
    · have d := h.hd w 0 w0 w1 (by omega) (by omega)
      exact absurd (o.2.2.2.2.2.2.2 _ d.1.1 d.1.2) d.2.1
  · rw [h.bc.1]; exact o.2.1
  · intro i i0 i1
    rw [(h.ca i i0 i1).1]; exact o.2.2.2.1 i i0 i1
  · intro c c0 c1
    rw [((h.wg c c0 c1).1).1]; exact o.2.2.2.2.1 c c0 c1
  · intro a a0 a1
    rw [((h.au a a0 a1).1).1]; exact o.2.2.2.2.2.1 a a0 a1
  · obtain ⟨sg, r0, r1, _⟩ := h.rx
    by_cases z : (A 7 0 2) = 0
    · exact z
    · have q := r1 0 (by omega) (by omega)
      have q1 : (B 819298 0 ((sg 0))) = 1 := q.2.1
      rw [o.1 _ q.1.1 q.1.2] at q1
      omega
  · intro i i0 i1
    rcases h.bi i i0 i1 with e | ⟨e, _⟩
    · exact e
    · rw [o.2.1] at e; omega
