/-! ===== the running request ends, waits, gives its internal resource (by program: wip/whole/gen/mk77.py) ===== -/
/-- nobody has a resource -/
def nhv (B : AMem) (x : Int) : Prop := ∀ r : Int, 0 ≤ r → r < 32 → ¬ (B 65639 0 (r)) = x
theorem hsf_no {n : Int} {A B : AMem} (h : RL n A B) {x : Int} (x0 : ¬ x = 0) (c : hsf B x = -1) : nhv B x := by
  intro r r0 r1 z
  have hm := h.mrB
  rcases h.sb.hv r r0 r1 with d | ⟨d, _⟩
  · omega
  · rcases fnd_int (fun r => (B 65639 0 (r)) == x) (mrs B).toNat with ⟨_, a⟩ | ⟨a, _⟩
    · have := a r r0 (by omega)
      simp [z] at this
    · have e : hsf B x = fnd (fun r : Nat => (B 65639 0 (r)) == x) (mrs B).toNat 0 := rfl
      omega
theorem hsf_yes {n : Int} {A B : AMem} (h : RL n A B) {x : Int} (c : nhv B x) : hsf B x = -1 := by
  have hm := h.mrB
  exact fnd_none (fun r => (B 65639 0 (r)) == x) (mrs B).toNat (fun r r0 r1 => by simpa using c r r0 (by omega))
def enA (A : AMem) : AMem := (mup (mup (mup A 8 ((A 6 0 5)) 7 ((A 8 ((A 6 0 5)) 7) - 1)) 8 ((A 6 0 5)) 11 (0)) 6 0 5 (-1))
def enB (B : AMem) (q : Int) : AMem := (mup (mup B 819298 0 (q) (0)) 819561 0 (q) (0))
theorem kend_eq (A : AMem) : kend A = knt (enA A) (20000 + (A 6 0 5)) := by
  unfold kend kstp enA
  rw [knt_c (g := 6) (by decide) (by decide)]
  simp only [mup_same, mu_ng, mu_ni, mu_xi, mu_xt, cq_fr, rn_fr, mrs_fr, inn_fr, cpr_fr, opr_fr, ldd_fr, own_fr, ne_eq, Nat.reduceEqDiff, not_false_eq_true, Int.reduceEq, ↓reduceIte]
theorem thr_eq (B : AMem) (q : Int) : thr B q = nt (enB B q) (20000 + (B 819297 0 (q))) := by
  unfold thr enB
  rw [nt_c (g := 819561) (by decide) (by omega)]
def waA (A : AMem) (m : Int) : AMem := (mup (mup (mup (mup A 8 ((A 6 0 5)) 8 (1)) 8 ((A 6 0 5)) 9 (m)) 8 ((A 6 0 5)) 11 (0)) 6 0 5 (-1))
def waB (B : AMem) (q m : Int) : AMem := (mup (mup (mup B 819301 0 (q) (m)) 819561 0 (q) (0)) 819298 0 (q) (3))
theorem kstp_wa (A : AMem) (m : Int) : kstp (mup (mup A 8 ((A 6 0 5)) 8 (1)) 8 ((A 6 0 5)) 9 (m)) = knt (waA A m) (20000 + (A 6 0 5)) := by
  unfold kstp waA
  rw [knt_c (g := 6) (by decide) (by decide)]
  simp only [mup_same, mu_ng, mu_ni, mu_xi, mu_xt, cq_fr, rn_fr, mrs_fr, inn_fr, cpr_fr, opr_fr, ldd_fr, own_fr, ne_eq, Nat.reduceEqDiff, not_false_eq_true, Int.reduceEq, ↓reduceIte]
def reA (A : AMem) : AMem := (mup A 8 ((A 6 0 5)) 11 (0))
def reB (B : AMem) (q : Int) : AMem := (mup B 819561 0 (q) (0))
set_option maxHeartbeats 1000000 in
theorem rl_en {n : Int} {A B : AMem} (h : RL n A B) (ho : ¬ (B 11 0 50) = 0) (hr : ¬ rn B = -1) (hh : nhv B (1 + rn B)) : RL n (enA A) (enB B (rn B)) ∧ rn (enB B (rn B)) = -1 := by
  obtain ⟨sg, r⟩ := h.rx
  obtain ⟨⟨q0, q1⟩, qs, qc, qt⟩ := h.run hr
  have hm := h.mB
  have m4 : 0 ≤ (B 14408 0 (4)) ∧ (B 14408 0 (4)) ≤ 48 := by unfold MB at hm; omega
  have sl := h.slot _ q0 q1
  have un : ∀ p : Int, 0 ≤ p → p < 400 → ¬ p = rn B → ¬ (B 819298 0 (p)) = 0 → (B 819297 0 (p)) = (B 819297 0 (rn B)) → (B 819298 0 (p)) = 1 ∧ ¬ ldd B p := fun p p0 p1 pn ps pt => by
    have := h.sb.ld (rn B) p q0 q1 p0 p1 (fun z => pn z.symm) (by omega) ps pt.symm (Or.inr qs)
    exact ⟨this.1, this.2.1⟩
  have e1 : ∀ x, ((enB B (rn B)) 819298 0 (x)) = if x = rn B then 0 else (B 819298 0 (x)) := fun x => by unfold enB; simp only [mup_same, mu_ng, mu_ni, mu_xi, mu_xt, cq_fr, rn_fr, mrs_fr, inn_fr, cpr_fr, opr_fr, ldd_fr, own_fr, ne_eq, Nat.reduceEqDiff, not_false_eq_true, Int.reduceEq, ↓reduceIte]
  have e2 : ∀ x, ((enB B (rn B)) 819297 0 (x)) = (B 819297 0 (x)) := fun x => by unfold enB; simp only [mup_same, mu_ng, mu_ni, mu_xi, mu_xt, cq_fr, rn_fr, mrs_fr, inn_fr, cpr_fr, opr_fr, ldd_fr, own_fr, ne_eq, Nat.reduceEqDiff, not_false_eq_true, Int.reduceEq, ↓reduceIte]
  have e5 : ∀ x, ((enB B (rn B)) 819561 0 (x)) = if x = rn B then 0 else (B 819561 0 (x)) := fun x => by unfold enB; simp only [mup_same, mu_ng, mu_ni, mu_xi, mu_xt, cq_fr, rn_fr, mrs_fr, inn_fr, cpr_fr, opr_fr, ldd_fr, own_fr, ne_eq, Nat.reduceEqDiff, not_false_eq_true, Int.reduceEq, ↓reduceIte]
  have e0 : ∀ r, ((enB B (rn B)) 65639 0 (r)) = (B 65639 0 (r)) ∧ ((enB B (rn B)) 66152 0 (r)) = (B 66152 0 (r)) := fun r => by unfold enB; simp only [mup_same, mu_ng, mu_ni, mu_xi, mu_xt, cq_fr, rn_fr, mrs_fr, inn_fr, cpr_fr, opr_fr, ldd_fr, own_fr, ne_eq, Nat.reduceEqDiff, not_false_eq_true, Int.reduceEq, ↓reduceIte]; exact ⟨trivial, trivial⟩
  have ns : ∀ x : Int, 0 ≤ x → x < 400 → ¬ ((enB B (rn B)) 819298 0 (x)) = 2 := fun x x0 x1 xs => by
    rw [e1] at xs
    by_cases c : x = rn B
    · rw [if_pos c] at xs; omega
    · rw [if_neg c] at xs; exact c (h.sb.r1 x x0 x1 xs)
  have er : rn (enB B (rn B)) = -1 := rn_0 ns
  have hiE : ∀ t : Int, 0 ≤ t → t < 48 → (¬ (if t = (B 819297 0 (rn B)) then 0 else (A 8 (t) 11)) = 0 ↔ ∃ q : Int, (0 ≤ q ∧ q < 400) ∧ ¬ ((enB B (rn B)) 819561 0 (q)) = 0 ∧ ((enB B (rn B)) 819297 0 (q)) = t) := fun t t0 t1 => by
    have x := h.hi t t0 t1
    by_cases c : t = (B 819297 0 (rn B))
    · rw [if_pos c]
      constructor
      · exact fun z => absurd rfl z
      · rintro ⟨q, a1, a2, a3⟩
        rw [e5] at a2
        rw [e2] at a3
        by_cases d : q = rn B
        · rw [if_pos d] at a2; exact absurd rfl a2
        · rw [if_neg d] at a2
          have u := un q a1.1 a1.2 d (by have := (h.sb.hi q a1.1 a1.2 a2).1; omega) (by rw [a3, c])
          exact absurd (Or.inl a2) u.2
    · rw [if_neg c, x]
      constructor
      · rintro ⟨q, a1, a2, a3⟩
        refine ⟨q, a1, ?_, by rw [e2]; exact a3⟩
        rw [e5, if_neg (fun z => c (by rw [← a3, z]))]
        exact a2
      · rintro ⟨q, a1, a2, a3⟩
        rw [e2] at a3
        rw [e5, if_neg (fun z => c (by rw [← a3, z]))] at a2
        exact ⟨q, a1, a2, a3⟩
  have fc : frC A (enA A) := frC.up rfl (frC.up rfl (frC.up rfl (frC.rf A)))
  have fr : frR B (enB B (rn B)) := frR.up rfl (frR.up rfl (frR.rf B))
  have sb : SB (enB B (rn B)) := by
    refine SB.ch h.sb h.mB (rn B) q0 q1 fr (fun x xn => ?_) e0 (fun i => by unfold enB; simp only [mup_same, mu_ng, mu_ni, mu_xi, mu_xt, cq_fr, rn_fr, mrs_fr, inn_fr, cpr_fr, opr_fr, ldd_fr, own_fr, ne_eq, Nat.reduceEqDiff, not_false_eq_true, Int.reduceEq, ↓reduceIte]) (by unfold enB; simp only [mup_same, mu_ng, mu_ni, mu_xi, mu_xt, cq_fr, rn_fr, mrs_fr, inn_fr, cpr_fr, opr_fr, ldd_fr, own_fr, ne_eq, Nat.reduceEqDiff, not_false_eq_true, Int.reduceEq, ↓reduceIte]; omega) ?_ (fun x x0 x1 xs => absurd xs (ns x x0 x1)) ?_ (fun z => ?_) (fun z => ?_) (fun r r0 r1 z => absurd z (hh r r0 r1)) (fun p p0 p1 pn ps qn pt _ => ?_) (fun p p0 p1 pn ps qn pt z => ?_) (fun z => ?_)
    · rw [e1, e5, if_neg xn, if_neg xn]
      unfold enB
      simp only [mup_same, mu_ng, mu_ni, mu_xi, mu_xt, cq_fr, rn_fr, mrs_fr, inn_fr, cpr_fr, opr_fr, ldd_fr, own_fr, ne_eq, Nat.reduceEqDiff, not_false_eq_true, Int.reduceEq, ↓reduceIte]
      exact ⟨trivial, trivial, trivial, trivial, trivial⟩
    · rw [e1, if_pos rfl, e2]
      exact ⟨by omega, sl.2.1, fun z => absurd rfl z⟩
    · have := h.sb.ky _ q0 q1
      unfold enB
      simp only [mup_same, mu_ng, mu_ni, mu_xi, mu_xt, cq_fr, rn_fr, mrs_fr, inn_fr, cpr_fr, opr_fr, ldd_fr, own_fr, ne_eq, Nat.reduceEqDiff, not_false_eq_true, Int.reduceEq, ↓reduceIte]
      exact this
    · rw [e5, if_pos rfl] at z; exact absurd rfl z
    · rw [e1, if_pos rfl] at z; omega
    · rw [e1, if_pos rfl] at qn; exact absurd rfl qn
    · rw [e1, if_pos rfl] at qn; exact absurd rfl qn
    · rw [e1, if_pos rfl] at z; omega
  refine ⟨RL.mk (h.pl.fr fc fr) sb ?_ ?_ ?_ ?_ ?_ ?_ ?_ ?_ ?_ ?_ ?_ ?_ ?_ ?_ ?_ ?_ ?_ ?_ ?_ ?_ ?_ ?_ ?_ ?_ ?_ ?_ ?_ ?_ ?_, er⟩
  · simp only [mup_same, mu_ng, mu_ni, mu_xi, mu_xt, cq_fr, rn_fr, mrs_fr, inn_fr, cpr_fr, opr_fr, ldd_fr, own_fr, ne_eq, Nat.reduceEqDiff, not_false_eq_true, Int.reduceEq, ↓reduceIte, enA, enB]; exact h.on
  · simp only [mup_same, mu_ng, mu_ni, mu_xi, mu_xt, cq_fr, rn_fr, mrs_fr, inn_fr, cpr_fr, opr_fr, ldd_fr, own_fr, ne_eq, Nat.reduceEqDiff, not_false_eq_true, Int.reduceEq, ↓reduceIte, enA, enB]; exact h.sh
  · simp only [mup_same, mu_ng, mu_ni, mu_xi, mu_xt, cq_fr, rn_fr, mrs_fr, inn_fr, cpr_fr, opr_fr, ldd_fr, own_fr, ne_eq, Nat.reduceEqDiff, not_false_eq_true, Int.reduceEq, ↓reduceIte, enA, enB]; exact h.no
  · simp only [mup_same, mu_ng, mu_ni, mu_xi, mu_xt, cq_fr, rn_fr, mrs_fr, inn_fr, cpr_fr, opr_fr, ldd_fr, own_fr, ne_eq, Nat.reduceEqDiff, not_false_eq_true, Int.reduceEq, ↓reduceIte, enA, enB]; exact h.na
  · simp only [mup_same, mu_ng, mu_ni, mu_xi, mu_xt, cq_fr, rn_fr, mrs_fr, inn_fr, cpr_fr, opr_fr, ldd_fr, own_fr, ne_eq, Nat.reduceEqDiff, not_false_eq_true, Int.reduceEq, ↓reduceIte, enA, enB]; exact h.bt
  · rw [er]; unfold enA; simp only [mup_same, mu_ng, mu_ni, mu_xi, mu_xt, cq_fr, rn_fr, mrs_fr, inn_fr, cpr_fr, opr_fr, ldd_fr, own_fr, ne_eq, Nat.reduceEqDiff, not_false_eq_true, Int.reduceEq, ↓reduceIte]
  · intro t t0 t1
    have x := h.rq t t0 t1
    have u := cq_upd (B := B) (B' := enB B (rn B)) (q := rn B) (t := t) q0 q1 (fun y yn => ⟨by rw [e1, if_neg yn], e2 y⟩)
    rw [e1, if_pos rfl, e2, if_neg (fun z : (0 : Int) ≠ 0 ∧ _ => z.1 rfl)] at u
    rw [u, fr 14408 0 4 rfl, fr 98387 0 t rfl]
    simp only [mup_same, mu_ng, mu_ni, mu_xi, mu_xt, cq_fr, rn_fr, mrs_fr, inn_fr, cpr_fr, opr_fr, ldd_fr, own_fr, ne_eq, Nat.reduceEqDiff, not_false_eq_true, Int.reduceEq, ↓reduceIte, enA]
    rw [qc]
    by_cases c : t = (B 819297 0 (rn B))
    · rw [if_pos c, if_pos ⟨by omega, c.symm⟩, ← c]
      exact ⟨by omega, fun z => by have := x.2 z; omega⟩
    · rw [if_neg c, if_neg (fun z => c z.2.symm)]
      exact ⟨by omega, x.2⟩
  · intro t t0 t1
    have x := h.wa t t0 t1
    have y : (∃ q : Int, (0 ≤ q ∧ q < 400) ∧ ((enB B (rn B)) 819298 0 (q)) = 3 ∧ ((enB B (rn B)) 819297 0 (q)) = t) ↔ ∃ q : Int, (0 ≤ q ∧ q < 400) ∧ (B 819298 0 (q)) = 3 ∧ (B 819297 0 (q)) = t := by
      constructor
      · rintro ⟨q, a1, a2, a3⟩
        rw [e1] at a2
        rw [e2] at a3
        by_cases c : q = rn B
        · rw [if_pos c] at a2; omega
        · rw [if_neg c] at a2; exact ⟨q, a1, a2, a3⟩
      · rintro ⟨q, a1, a2, a3⟩
        refine ⟨q, a1, ?_, by rw [e2]; exact a3⟩
        rw [e1, if_neg (fun z => by rw [z] at a2; omega)]
        exact a2
    rw [y]
    simp only [mup_same, mu_ng, mu_ni, mu_xi, mu_xt, cq_fr, rn_fr, mrs_fr, inn_fr, cpr_fr, opr_fr, ldd_fr, own_fr, ne_eq, Nat.reduceEqDiff, not_false_eq_true, Int.reduceEq, ↓reduceIte, enA]
    exact x
  · intro q a1 a2 a3
    rw [e2]
    have b : (B 819298 0 (q)) = 3 := by
      rw [e1] at a3
      by_cases c : q = rn B
      · rw [if_pos c] at a3; omega
      · rw [if_neg c] at a3; exact a3
    have x := h.wf q a1 a2 b
    simp only [mup_same, mu_ng, mu_ni, mu_xi, mu_xt, cq_fr, rn_fr, mrs_fr, inn_fr, cpr_fr, opr_fr, ldd_fr, own_fr, ne_eq, Nat.reduceEqDiff, not_false_eq_true, Int.reduceEq, ↓reduceIte, enA, enB]
    exact x
  · intro t t0 t1
    have x := hiE t t0 t1
    rw [← qc] at x
    revert x
    simp only [mup_same, mu_ng, mu_ni, mu_xi, mu_xt, cq_fr, rn_fr, mrs_fr, inn_fr, cpr_fr, opr_fr, ldd_fr, own_fr, ne_eq, Nat.reduceEqDiff, not_false_eq_true, Int.reduceEq, ↓reduceIte, enA]
    exact fun z => z
  · intro w w0 w1
    have x := h.hx w w0 w1
    simp only [mup_same, mu_ng, mu_ni, mu_xi, mu_xt, cq_fr, rn_fr, mrs_fr, inn_fr, cpr_fr, opr_fr, ldd_fr, own_fr, ne_eq, Nat.reduceEqDiff, not_false_eq_true, Int.reduceEq, ↓reduceIte, enA]
    rw [if_neg (by omega), if_neg (by omega)]
    exact x
  · simp only [mup_same, mu_ng, mu_ni, mu_xi, mu_xt, cq_fr, rn_fr, mrs_fr, inn_fr, cpr_fr, opr_fr, ldd_fr, own_fr, ne_eq, Nat.reduceEqDiff, not_false_eq_true, Int.reduceEq, ↓reduceIte, enA, enB]; exact h.hc
  · simp only [mup_same, mu_ng, mu_ni, mu_xi, mu_xt, cq_fr, rn_fr, mrs_fr, inn_fr, cpr_fr, opr_fr, ldd_fr, own_fr, ne_eq, Nat.reduceEqDiff, not_false_eq_true, Int.reduceEq, ↓reduceIte, enA, enB]; exact h.hd
  · simp only [mup_same, mu_ng, mu_ni, mu_xi, mu_xt, cq_fr, rn_fr, mrs_fr, inn_fr, cpr_fr, opr_fr, ldd_fr, own_fr, ne_eq, Nat.reduceEqDiff, not_false_eq_true, Int.reduceEq, ↓reduceIte, enA, enB]; exact h.hs
  · simp only [mup_same, mu_ng, mu_ni, mu_xi, mu_xt, cq_fr, rn_fr, mrs_fr, inn_fr, cpr_fr, opr_fr, ldd_fr, own_fr, ne_eq, Nat.reduceEqDiff, not_false_eq_true, Int.reduceEq, ↓reduceIte, enA, enB]; exact h.ho
  · simp only [mup_same, mu_ng, mu_ni, mu_xi, mu_xt, cq_fr, rn_fr, mrs_fr, inn_fr, cpr_fr, opr_fr, ldd_fr, own_fr, ne_eq, Nat.reduceEqDiff, not_false_eq_true, Int.reduceEq, ↓reduceIte, enA, enB]; exact h.bc
  · simp only [mup_same, mu_ng, mu_ni, mu_xi, mu_xt, cq_fr, rn_fr, mrs_fr, inn_fr, cpr_fr, opr_fr, ldd_fr, own_fr, ne_eq, Nat.reduceEqDiff, not_false_eq_true, Int.reduceEq, ↓reduceIte, enA, enB]; exact h.bg
  · simp only [mup_same, mu_ng, mu_ni, mu_xi, mu_xt, cq_fr, rn_fr, mrs_fr, inn_fr, cpr_fr, opr_fr, ldd_fr, own_fr, ne_eq, Nat.reduceEqDiff, not_false_eq_true, Int.reduceEq, ↓reduceIte, enA, enB]; exact h.bo
  · simp only [mup_same, mu_ng, mu_ni, mu_xi, mu_xt, cq_fr, rn_fr, mrs_fr, inn_fr, cpr_fr, opr_fr, ldd_fr, own_fr, ne_eq, Nat.reduceEqDiff, not_false_eq_true, Int.reduceEq, ↓reduceIte, enA, enB]; exact h.bi
  · simp only [mup_same, mu_ng, mu_ni, mu_xi, mu_xt, cq_fr, rn_fr, mrs_fr, inn_fr, cpr_fr, opr_fr, ldd_fr, own_fr, ne_eq, Nat.reduceEqDiff, not_false_eq_true, Int.reduceEq, ↓reduceIte, enA, enB]; exact h.ca
  · simp only [mup_same, mu_ng, mu_ni, mu_xi, mu_xt, cq_fr, rn_fr, mrs_fr, inn_fr, cpr_fr, opr_fr, ldd_fr, own_fr, ne_eq, Nat.reduceEqDiff, not_false_eq_true, Int.reduceEq, ↓reduceIte, enA, enB]; exact h.st
  · simp only [mup_same, mu_ng, mu_ni, mu_xi, mu_xt, cq_fr, rn_fr, mrs_fr, inn_fr, cpr_fr, opr_fr, ldd_fr, own_fr, ne_eq, Nat.reduceEqDiff, not_false_eq_true, Int.reduceEq, ↓reduceIte, enA, enB]; exact h.co
  · unfold CO; simp only [mup_same, mu_ng, mu_ni, mu_xi, mu_xt, cq_fr, rn_fr, mrs_fr, inn_fr, cpr_fr, opr_fr, ldd_fr, own_fr, ne_eq, Nat.reduceEqDiff, not_false_eq_true, Int.reduceEq, ↓reduceIte, enA, enB]; exact h.ko
  · simp only [mup_same, mu_ng, mu_ni, mu_xi, mu_xt, cq_fr, rn_fr, mrs_fr, inn_fr, cpr_fr, opr_fr, ldd_fr, own_fr, ne_eq, Nat.reduceEqDiff, not_false_eq_true, Int.reduceEq, ↓reduceIte, enA, enB]; exact h.wg
  · simp only [mup_same, mu_ng, mu_ni, mu_xi, mu_xt, cq_fr, rn_fr, mrs_fr, inn_fr, cpr_fr, opr_fr, ldd_fr, own_fr, ne_eq, Nat.reduceEqDiff, not_false_eq_true, Int.reduceEq, ↓reduceIte, enA, enB]; exact h.au
  · simp only [mup_same, mu_ng, mu_ni, mu_xi, mu_xt, cq_fr, rn_fr, mrs_fr, inn_fr, cpr_fr, opr_fr, ldd_fr, own_fr, ne_eq, Nat.reduceEqDiff, not_false_eq_true, Int.reduceEq, ↓reduceIte, enA, enB]; exact h.ad
  · simp only [mup_same, mu_ng, mu_ni, mu_xi, mu_xt, cq_fr, rn_fr, mrs_fr, inn_fr, cpr_fr, opr_fr, ldd_fr, own_fr, ne_eq, Nat.reduceEqDiff, not_false_eq_true, Int.reduceEq, ↓reduceIte, enA, enB]; exact h.ee
  · simp only [mup_same, mu_ng, mu_ni, mu_xi, mu_xt, cq_fr, rn_fr, mrs_fr, inn_fr, cpr_fr, opr_fr, ldd_fr, own_fr, ne_eq, Nat.reduceEqDiff, not_false_eq_true, Int.reduceEq, ↓reduceIte, enA, enB]; exact fun z => absurd z ho
  · refine ⟨sg, ?_⟩
    have p := RwR.oth (v := 0) (q := rn B) (st' := fun q => ((enB B (rn B)) 819298 0 (q))) r (by show ¬ (B 819298 0 (rn B)) = 1; omega) (by omega) e1
    unfold enA enB at p ⊢
    revert p
    simp only [mup_same, mu_ng, mu_ni, mu_xi, mu_xt, cq_fr, rn_fr, mrs_fr, inn_fr, cpr_fr, opr_fr, ldd_fr, own_fr, ne_eq, Nat.reduceEqDiff, not_false_eq_true, Int.reduceEq, ↓reduceIte]
    exact fun z => z
set_option maxHeartbeats 1000000 in
theorem rl_wa {n : Int} {A B : AMem} (h : RL n A B) (ho : ¬ (B 11 0 50) = 0) (hr : ¬ rn B = -1) (hh : nhv B (1 + rn B)) (m : Int) (hv : ¬ (B 98388 0 ((B 819297 0 (rn B)))) = 0) : RL n (waA A m) (waB B (rn B) m) ∧ rn (waB B (rn B) m) = -1 := by
  obtain ⟨sg, r⟩ := h.rx
  obtain ⟨⟨q0, q1⟩, qs, qc, qt⟩ := h.run hr
  have hm := h.mB
  have m4 : 0 ≤ (B 14408 0 (4)) ∧ (B 14408 0 (4)) ≤ 48 := by unfold MB at hm; omega
  have sl := h.slot _ q0 q1
  have un : ∀ p : Int, 0 ≤ p → p < 400 → ¬ p = rn B → ¬ (B 819298 0 (p)) = 0 → (B 819297 0 (p)) = (B 819297 0 (rn B)) → (B 819298 0 (p)) = 1 ∧ ¬ ldd B p := fun p p0 p1 pn ps pt => by
    have := h.sb.ld (rn B) p q0 q1 p0 p1 (fun z => pn z.symm) (by omega) ps pt.symm (Or.inr qs)
    exact ⟨this.1, this.2.1⟩
  have e1 : ∀ x, ((waB B (rn B) m) 819298 0 (x)) = if x = rn B then 3 else (B 819298 0 (x)) := fun x => by unfold waB; simp only [mup_same, mu_ng, mu_ni, mu_xi, mu_xt, cq_fr, rn_fr, mrs_fr, inn_fr, cpr_fr, opr_fr, ldd_fr, own_fr, ne_eq, Nat.reduceEqDiff, not_false_eq_true, Int.reduceEq, ↓reduceIte]
  have e2 : ∀ x, ((waB B (rn B) m) 819297 0 (x)) = (B 819297 0 (x)) := fun x => by unfold waB; simp only [mup_same, mu_ng, mu_ni, mu_xi, mu_xt, cq_fr, rn_fr, mrs_fr, inn_fr, cpr_fr, opr_fr, ldd_fr, own_fr, ne_eq, Nat.reduceEqDiff, not_false_eq_true, Int.reduceEq, ↓reduceIte]
  have e5 : ∀ x, ((waB B (rn B) m) 819561 0 (x)) = if x = rn B then 0 else (B 819561 0 (x)) := fun x => by unfold waB; simp only [mup_same, mu_ng, mu_ni, mu_xi, mu_xt, cq_fr, rn_fr, mrs_fr, inn_fr, cpr_fr, opr_fr, ldd_fr, own_fr, ne_eq, Nat.reduceEqDiff, not_false_eq_true, Int.reduceEq, ↓reduceIte]
  have e0 : ∀ r, ((waB B (rn B) m) 65639 0 (r)) = (B 65639 0 (r)) ∧ ((waB B (rn B) m) 66152 0 (r)) = (B 66152 0 (r)) := fun r => by unfold waB; simp only [mup_same, mu_ng, mu_ni, mu_xi, mu_xt, cq_fr, rn_fr, mrs_fr, inn_fr, cpr_fr, opr_fr, ldd_fr, own_fr, ne_eq, Nat.reduceEqDiff, not_false_eq_true, Int.reduceEq, ↓reduceIte]; exact ⟨trivial, trivial⟩
  have ns : ∀ x : Int, 0 ≤ x → x < 400 → ¬ ((waB B (rn B) m) 819298 0 (x)) = 2 := fun x x0 x1 xs => by
    rw [e1] at xs
    by_cases c : x = rn B
    · rw [if_pos c] at xs; omega
    · rw [if_neg c] at xs; exact c (h.sb.r1 x x0 x1 xs)
  have er : rn (waB B (rn B) m) = -1 := rn_0 ns
  have hiE : ∀ t : Int, 0 ≤ t → t < 48 → (¬ (if t = (B 819297 0 (rn B)) then 0 else (A 8 (t) 11)) = 0 ↔ ∃ q : Int, (0 ≤ q ∧ q < 400) ∧ ¬ ((waB B (rn B) m) 819561 0 (q)) = 0 ∧ ((waB B (rn B) m) 819297 0 (q)) = t) := fun t t0 t1 => by
    have x := h.hi t t0 t1
    by_cases c : t = (B 819297 0 (rn B))
    · rw [if_pos c]
      constructor
      · exact fun z => absurd rfl z
      · rintro ⟨q, a1, a2, a3⟩
        rw [e5] at a2
        rw [e2] at a3
        by_cases d : q = rn B
        · rw [if_pos d] at a2; exact absurd rfl a2
        · rw [if_neg d] at a2
          have u := un q a1.1 a1.2 d (by have := (h.sb.hi q a1.1 a1.2 a2).1; omega) (by rw [a3, c])
          exact absurd (Or.inl a2) u.2
    · rw [if_neg c, x]
      constructor
      · rintro ⟨q, a1, a2, a3⟩
        refine ⟨q, a1, ?_, by rw [e2]; exact a3⟩
        rw [e5, if_neg (fun z => c (by rw [← a3, z]))]
        exact a2
      · rintro ⟨q, a1, a2, a3⟩
        rw [e2] at a3
        rw [e5, if_neg (fun z => c (by rw [← a3, z]))] at a2
        exact ⟨q, a1, a2, a3⟩
  have one : ∀ p : Int, 0 ≤ p → p < 400 → ¬ p = rn B → ¬ (B 819298 0 (p)) = 0 → ¬ (B 819297 0 (p)) = (B 819297 0 (rn B)) := fun p p0 p1 pn ps pt => hv (wt_one h p0 p1 q0 q1 pn ps (by omega) pt)
  have fc : frC A (waA A m) := frC.up rfl (frC.up rfl (frC.up rfl (frC.up rfl (frC.rf A))))
  have fr : frR B (waB B (rn B) m) := frR.up rfl (frR.up rfl (frR.up rfl (frR.rf B)))
  have e6 : ∀ x, ((waB B (rn B) m) 819301 0 (x)) = if x = rn B then m else (B 819301 0 (x)) := fun x => by unfold waB; simp only [mup_same, mu_ng, mu_ni, mu_xi, mu_xt, cq_fr, rn_fr, mrs_fr, inn_fr, cpr_fr, opr_fr, ldd_fr, own_fr, ne_eq, Nat.reduceEqDiff, not_false_eq_true, Int.reduceEq, ↓reduceIte]
  have sb : SB (waB B (rn B) m) := by
    refine SB.ch h.sb h.mB (rn B) q0 q1 fr (fun x xn => ?_) e0 (fun i => by unfold waB; simp only [mup_same, mu_ng, mu_ni, mu_xi, mu_xt, cq_fr, rn_fr, mrs_fr, inn_fr, cpr_fr, opr_fr, ldd_fr, own_fr, ne_eq, Nat.reduceEqDiff, not_false_eq_true, Int.reduceEq, ↓reduceIte]) (by unfold waB; simp only [mup_same, mu_ng, mu_ni, mu_xi, mu_xt, cq_fr, rn_fr, mrs_fr, inn_fr, cpr_fr, opr_fr, ldd_fr, own_fr, ne_eq, Nat.reduceEqDiff, not_false_eq_true, Int.reduceEq, ↓reduceIte]; omega) ?_ (fun x x0 x1 xs => absurd xs (ns x x0 x1)) ?_ (fun z => ?_) (fun z => ?_) (fun r r0 r1 z => absurd z (hh r r0 r1)) (fun p p0 p1 pn ps qn pt _ => ?_) (fun p p0 p1 pn ps qn pt z => ?_) (fun z => ?_)
    · rw [e1, e5, if_neg xn, if_neg xn]
      unfold waB
      simp only [mup_same, mu_ng, mu_ni, mu_xi, mu_xt, cq_fr, rn_fr, mrs_fr, inn_fr, cpr_fr, opr_fr, ldd_fr, own_fr, ne_eq, Nat.reduceEqDiff, not_false_eq_true, Int.reduceEq, ↓reduceIte]
      exact ⟨trivial, trivial, trivial, trivial, trivial⟩
    · rw [e1, if_pos rfl, e2]
      exact ⟨by omega, sl.2.1, fun _ => qt.2⟩
    · have := h.sb.ky _ q0 q1
      unfold waB
      simp only [mup_same, mu_ng, mu_ni, mu_xi, mu_xt, cq_fr, rn_fr, mrs_fr, inn_fr, cpr_fr, opr_fr, ldd_fr, own_fr, ne_eq, Nat.reduceEqDiff, not_false_eq_true, Int.reduceEq, ↓reduceIte]
      exact this
    · rw [e5, if_pos rfl] at z; exact absurd rfl z
    · rw [e2]; exact hv
    · rw [e2] at pt; exact absurd pt (one p p0 p1 pn ps)
    · rw [e2] at pt; exact absurd pt (one p p0 p1 pn ps)
    · rw [e1, if_pos rfl] at z; omega
  refine ⟨RL.mk (h.pl.fr fc fr) sb ?_ ?_ ?_ ?_ ?_ ?_ ?_ ?_ ?_ ?_ ?_ ?_ ?_ ?_ ?_ ?_ ?_ ?_ ?_ ?_ ?_ ?_ ?_ ?_ ?_ ?_ ?_ ?_ ?_, er⟩
  · simp only [mup_same, mu_ng, mu_ni, mu_xi, mu_xt, cq_fr, rn_fr, mrs_fr, inn_fr, cpr_fr, opr_fr, ldd_fr, own_fr, ne_eq, Nat.reduceEqDiff, not_false_eq_true, Int.reduceEq, ↓reduceIte, waA, waB]; exact h.on
  · simp only [mup_same, mu_ng, mu_ni, mu_xi, mu_xt, cq_fr, rn_fr, mrs_fr, inn_fr, cpr_fr, opr_fr, ldd_fr, own_fr, ne_eq, Nat.reduceEqDiff, not_false_eq_true, Int.reduceEq, ↓reduceIte, waA, waB]; exact h.sh
  · simp only [mup_same, mu_ng, mu_ni, mu_xi, mu_xt, cq_fr, rn_fr, mrs_fr, inn_fr, cpr_fr, opr_fr, ldd_fr, own_fr, ne_eq, Nat.reduceEqDiff, not_false_eq_true, Int.reduceEq, ↓reduceIte, waA, waB]; exact h.no
  · simp only [mup_same, mu_ng, mu_ni, mu_xi, mu_xt, cq_fr, rn_fr, mrs_fr, inn_fr, cpr_fr, opr_fr, ldd_fr, own_fr, ne_eq, Nat.reduceEqDiff, not_false_eq_true, Int.reduceEq, ↓reduceIte, waA, waB]; exact h.na
  · simp only [mup_same, mu_ng, mu_ni, mu_xi, mu_xt, cq_fr, rn_fr, mrs_fr, inn_fr, cpr_fr, opr_fr, ldd_fr, own_fr, ne_eq, Nat.reduceEqDiff, not_false_eq_true, Int.reduceEq, ↓reduceIte, waA, waB]; exact h.bt
  · rw [er]; unfold waA; simp only [mup_same, mu_ng, mu_ni, mu_xi, mu_xt, cq_fr, rn_fr, mrs_fr, inn_fr, cpr_fr, opr_fr, ldd_fr, own_fr, ne_eq, Nat.reduceEqDiff, not_false_eq_true, Int.reduceEq, ↓reduceIte]
  · intro t t0 t1
    have x := h.rq t t0 t1
    have u := cq_upd (B := B) (B' := waB B (rn B) m) (q := rn B) (t := t) q0 q1 (fun y yn => ⟨by rw [e1, if_neg yn], e2 y⟩)
    rw [e1, if_pos rfl, e2] at u
    have c2 : cq (waB B (rn B) m) t 400 = cq B t 400 := by
      rw [u]
      by_cases c : (B 819297 0 (rn B)) = t
      · rw [if_pos ⟨by omega, c⟩, if_pos ⟨by omega, c⟩]; omega
      · rw [if_neg (fun z => c z.2), if_neg (fun z => c z.2)]; omega
    rw [c2]
    simp only [mup_same, mu_ng, mu_ni, mu_xi, mu_xt, cq_fr, rn_fr, mrs_fr, inn_fr, cpr_fr, opr_fr, ldd_fr, own_fr, ne_eq, Nat.reduceEqDiff, not_false_eq_true, Int.reduceEq, ↓reduceIte, waA, waB]
    exact x
  · intro t t0 t1
    have x := h.wa t t0 t1
    by_cases c : t = (B 819297 0 (rn B))
    · simp only [mup_same, mu_ng, mu_ni, mu_xi, mu_xt, cq_fr, rn_fr, mrs_fr, inn_fr, cpr_fr, opr_fr, ldd_fr, own_fr, ne_eq, Nat.reduceEqDiff, not_false_eq_true, Int.reduceEq, ↓reduceIte, waA]
      rw [qc, if_pos c, if_pos c]
      refine ⟨⟨fun _ => ⟨rn B, ⟨q0, q1⟩, by rw [e1, if_pos rfl], by rw [e2, c]⟩, fun _ => by decide⟩, fun z => absurd z (by decide)⟩
    · have y : (∃ q : Int, (0 ≤ q ∧ q < 400) ∧ ((waB B (rn B) m) 819298 0 (q)) = 3 ∧ ((waB B (rn B) m) 819297 0 (q)) = t) ↔ ∃ q : Int, (0 ≤ q ∧ q < 400) ∧ (B 819298 0 (q)) = 3 ∧ (B 819297 0 (q)) = t := by
        constructor
        · rintro ⟨q, a1, a2, a3⟩
          rw [e1] at a2
          rw [e2] at a3
          rw [if_neg (fun z => c (by rw [← a3, z]))] at a2
          exact ⟨q, a1, a2, a3⟩
        · rintro ⟨q, a1, a2, a3⟩
          refine ⟨q, a1, ?_, by rw [e2]; exact a3⟩
          rw [e1, if_neg (fun z => by rw [z] at a2; omega)]
          exact a2
      rw [y]
      simp only [mup_same, mu_ng, mu_ni, mu_xi, mu_xt, cq_fr, rn_fr, mrs_fr, inn_fr, cpr_fr, opr_fr, ldd_fr, own_fr, ne_eq, Nat.reduceEqDiff, not_false_eq_true, Int.reduceEq, ↓reduceIte, waA]
      rw [qc, if_neg c, if_neg c]
      exact x
  · intro q a1 a2 a3
    rw [e2, e6]
    by_cases c : q = rn B
    · rw [if_pos c, c]
      simp only [mup_same, mu_ng, mu_ni, mu_xi, mu_xt, cq_fr, rn_fr, mrs_fr, inn_fr, cpr_fr, opr_fr, ldd_fr, own_fr, ne_eq, Nat.reduceEqDiff, not_false_eq_true, Int.reduceEq, ↓reduceIte, waA]
      rw [qc, if_pos rfl]
    · have b : (B 819298 0 (q)) = 3 := by
        rw [e1, if_neg c] at a3
        exact a3
      have x := h.wf q a1 a2 b
      rw [if_neg c]
      simp only [mup_same, mu_ng, mu_ni, mu_xi, mu_xt, cq_fr, rn_fr, mrs_fr, inn_fr, cpr_fr, opr_fr, ldd_fr, own_fr, ne_eq, Nat.reduceEqDiff, not_false_eq_true, Int.reduceEq, ↓reduceIte, waA]
      rw [qc, if_neg (one q a1 a2 c (by omega))]
      exact x
  · intro t t0 t1
    have x := hiE t t0 t1
    rw [← qc] at x
    revert x
    simp only [mup_same, mu_ng, mu_ni, mu_xi, mu_xt, cq_fr, rn_fr, mrs_fr, inn_fr, cpr_fr, opr_fr, ldd_fr, own_fr, ne_eq, Nat.reduceEqDiff, not_false_eq_true, Int.reduceEq, ↓reduceIte, waA]
    exact fun z => z
  · intro w w0 w1
    have x := h.hx w w0 w1
    simp only [mup_same, mu_ng, mu_ni, mu_xi, mu_xt, cq_fr, rn_fr, mrs_fr, inn_fr, cpr_fr, opr_fr, ldd_fr, own_fr, ne_eq, Nat.reduceEqDiff, not_false_eq_true, Int.reduceEq, ↓reduceIte, waA]
    rw [if_neg (by omega)]
    exact x
  · simp only [mup_same, mu_ng, mu_ni, mu_xi, mu_xt, cq_fr, rn_fr, mrs_fr, inn_fr, cpr_fr, opr_fr, ldd_fr, own_fr, ne_eq, Nat.reduceEqDiff, not_false_eq_true, Int.reduceEq, ↓reduceIte, waA, waB]; exact h.hc
  · simp only [mup_same, mu_ng, mu_ni, mu_xi, mu_xt, cq_fr, rn_fr, mrs_fr, inn_fr, cpr_fr, opr_fr, ldd_fr, own_fr, ne_eq, Nat.reduceEqDiff, not_false_eq_true, Int.reduceEq, ↓reduceIte, waA, waB]; exact h.hd
  · simp only [mup_same, mu_ng, mu_ni, mu_xi, mu_xt, cq_fr, rn_fr, mrs_fr, inn_fr, cpr_fr, opr_fr, ldd_fr, own_fr, ne_eq, Nat.reduceEqDiff, not_false_eq_true, Int.reduceEq, ↓reduceIte, waA, waB]; exact h.hs
  · simp only [mup_same, mu_ng, mu_ni, mu_xi, mu_xt, cq_fr, rn_fr, mrs_fr, inn_fr, cpr_fr, opr_fr, ldd_fr, own_fr, ne_eq, Nat.reduceEqDiff, not_false_eq_true, Int.reduceEq, ↓reduceIte, waA, waB]; exact h.ho
  · simp only [mup_same, mu_ng, mu_ni, mu_xi, mu_xt, cq_fr, rn_fr, mrs_fr, inn_fr, cpr_fr, opr_fr, ldd_fr, own_fr, ne_eq, Nat.reduceEqDiff, not_false_eq_true, Int.reduceEq, ↓reduceIte, waA, waB]; exact h.bc
  · simp only [mup_same, mu_ng, mu_ni, mu_xi, mu_xt, cq_fr, rn_fr, mrs_fr, inn_fr, cpr_fr, opr_fr, ldd_fr, own_fr, ne_eq, Nat.reduceEqDiff, not_false_eq_true, Int.reduceEq, ↓reduceIte, waA, waB]; exact h.bg
  · simp only [mup_same, mu_ng, mu_ni, mu_xi, mu_xt, cq_fr, rn_fr, mrs_fr, inn_fr, cpr_fr, opr_fr, ldd_fr, own_fr, ne_eq, Nat.reduceEqDiff, not_false_eq_true, Int.reduceEq, ↓reduceIte, waA, waB]; exact h.bo
  · simp only [mup_same, mu_ng, mu_ni, mu_xi, mu_xt, cq_fr, rn_fr, mrs_fr, inn_fr, cpr_fr, opr_fr, ldd_fr, own_fr, ne_eq, Nat.reduceEqDiff, not_false_eq_true, Int.reduceEq, ↓reduceIte, waA, waB]; exact h.bi
  · simp only [mup_same, mu_ng, mu_ni, mu_xi, mu_xt, cq_fr, rn_fr, mrs_fr, inn_fr, cpr_fr, opr_fr, ldd_fr, own_fr, ne_eq, Nat.reduceEqDiff, not_false_eq_true, Int.reduceEq, ↓reduceIte, waA, waB]; exact h.ca
  · simp only [mup_same, mu_ng, mu_ni, mu_xi, mu_xt, cq_fr, rn_fr, mrs_fr, inn_fr, cpr_fr, opr_fr, ldd_fr, own_fr, ne_eq, Nat.reduceEqDiff, not_false_eq_true, Int.reduceEq, ↓reduceIte, waA, waB]; exact h.st
  · simp only [mup_same, mu_ng, mu_ni, mu_xi, mu_xt, cq_fr, rn_fr, mrs_fr, inn_fr, cpr_fr, opr_fr, ldd_fr, own_fr, ne_eq, Nat.reduceEqDiff, not_false_eq_true, Int.reduceEq, ↓reduceIte, waA, waB]; exact h.co
  · unfold CO; simp only [mup_same, mu_ng, mu_ni, mu_xi, mu_xt, cq_fr, rn_fr, mrs_fr, inn_fr, cpr_fr, opr_fr, ldd_fr, own_fr, ne_eq, Nat.reduceEqDiff, not_false_eq_true, Int.reduceEq, ↓reduceIte, waA, waB]; exact h.ko
  · simp only [mup_same, mu_ng, mu_ni, mu_xi, mu_xt, cq_fr, rn_fr, mrs_fr, inn_fr, cpr_fr, opr_fr, ldd_fr, own_fr, ne_eq, Nat.reduceEqDiff, not_false_eq_true, Int.reduceEq, ↓reduceIte, waA, waB]; exact h.wg
  · simp only [mup_same, mu_ng, mu_ni, mu_xi, mu_xt, cq_fr, rn_fr, mrs_fr, inn_fr, cpr_fr, opr_fr, ldd_fr, own_fr, ne_eq, Nat.reduceEqDiff, not_false_eq_true, Int.reduceEq, ↓reduceIte, waA, waB]; exact h.au
  · simp only [mup_same, mu_ng, mu_ni, mu_xi, mu_xt, cq_fr, rn_fr, mrs_fr, inn_fr, cpr_fr, opr_fr, ldd_fr, own_fr, ne_eq, Nat.reduceEqDiff, not_false_eq_true, Int.reduceEq, ↓reduceIte, waA, waB]; exact h.ad
  · simp only [mup_same, mu_ng, mu_ni, mu_xi, mu_xt, cq_fr, rn_fr, mrs_fr, inn_fr, cpr_fr, opr_fr, ldd_fr, own_fr, ne_eq, Nat.reduceEqDiff, not_false_eq_true, Int.reduceEq, ↓reduceIte, waA, waB]; exact h.ee
  · simp only [mup_same, mu_ng, mu_ni, mu_xi, mu_xt, cq_fr, rn_fr, mrs_fr, inn_fr, cpr_fr, opr_fr, ldd_fr, own_fr, ne_eq, Nat.reduceEqDiff, not_false_eq_true, Int.reduceEq, ↓reduceIte, waA, waB]; exact fun z => absurd z ho
  · refine ⟨sg, ?_⟩
    have p := RwR.oth (v := 3) (q := rn B) (st' := fun q => ((waB B (rn B) m) 819298 0 (q))) r (by show ¬ (B 819298 0 (rn B)) = 1; omega) (by omega) e1
    unfold waA waB at p ⊢
    revert p
    simp only [mup_same, mu_ng, mu_ni, mu_xi, mu_xt, cq_fr, rn_fr, mrs_fr, inn_fr, cpr_fr, opr_fr, ldd_fr, own_fr, ne_eq, Nat.reduceEqDiff, not_false_eq_true, Int.reduceEq, ↓reduceIte]
    exact fun z => z
set_option maxHeartbeats 1000000 in
theorem rl_re {n : Int} {A B : AMem} (h : RL n A B) (ho : ¬ (B 11 0 50) = 0) (hr : ¬ rn B = -1) : RL n (reA A) (reB B (rn B)) ∧ rn (reB B (rn B)) = rn B := by
  obtain ⟨sg, r⟩ := h.rx
  obtain ⟨⟨q0, q1⟩, qs, qc, qt⟩ := h.run hr
  have hm := h.mB
  have m4 : 0 ≤ (B 14408 0 (4)) ∧ (B 14408 0 (4)) ≤ 48 := by unfold MB at hm; omega
  have sl := h.slot _ q0 q1
  have un : ∀ p : Int, 0 ≤ p → p < 400 → ¬ p = rn B → ¬ (B 819298 0 (p)) = 0 → (B 819297 0 (p)) = (B 819297 0 (rn B)) → (B 819298 0 (p)) = 1 ∧ ¬ ldd B p := fun p p0 p1 pn ps pt => by
    have := h.sb.ld (rn B) p q0 q1 p0 p1 (fun z => pn z.symm) (by omega) ps pt.symm (Or.inr qs)
    exact ⟨this.1, this.2.1⟩
  have e1 : ∀ x, ((reB B (rn B)) 819298 0 (x)) = (B 819298 0 (x)) := fun x => by unfold reB; simp only [mup_same, mu_ng, mu_ni, mu_xi, mu_xt, cq_fr, rn_fr, mrs_fr, inn_fr, cpr_fr, opr_fr, ldd_fr, own_fr, ne_eq, Nat.reduceEqDiff, not_false_eq_true, Int.reduceEq, ↓reduceIte]
  have e2 : ∀ x, ((reB B (rn B)) 819297 0 (x)) = (B 819297 0 (x)) := fun x => by unfold reB; simp only [mup_same, mu_ng, mu_ni, mu_xi, mu_xt, cq_fr, rn_fr, mrs_fr, inn_fr, cpr_fr, opr_fr, ldd_fr, own_fr, ne_eq, Nat.reduceEqDiff, not_false_eq_true, Int.reduceEq, ↓reduceIte]
  have e5 : ∀ x, ((reB B (rn B)) 819561 0 (x)) = if x = rn B then 0 else (B 819561 0 (x)) := fun x => by unfold reB; simp only [mup_same, mu_ng, mu_ni, mu_xi, mu_xt, cq_fr, rn_fr, mrs_fr, inn_fr, cpr_fr, opr_fr, ldd_fr, own_fr, ne_eq, Nat.reduceEqDiff, not_false_eq_true, Int.reduceEq, ↓reduceIte]
  have e0 : ∀ r, ((reB B (rn B)) 65639 0 (r)) = (B 65639 0 (r)) ∧ ((reB B (rn B)) 66152 0 (r)) = (B 66152 0 (r)) := fun r => by unfold reB; simp only [mup_same, mu_ng, mu_ni, mu_xi, mu_xt, cq_fr, rn_fr, mrs_fr, inn_fr, cpr_fr, opr_fr, ldd_fr, own_fr, ne_eq, Nat.reduceEqDiff, not_false_eq_true, Int.reduceEq, ↓reduceIte]; exact ⟨trivial, trivial⟩
  have er : rn (reB B (rn B)) = rn B := by unfold reB; simp only [mup_same, mu_ng, mu_ni, mu_xi, mu_xt, cq_fr, rn_fr, mrs_fr, inn_fr, cpr_fr, opr_fr, ldd_fr, own_fr, ne_eq, Nat.reduceEqDiff, not_false_eq_true, Int.reduceEq, ↓reduceIte]
  have hiE : ∀ t : Int, 0 ≤ t → t < 48 → (¬ (if t = (B 819297 0 (rn B)) then 0 else (A 8 (t) 11)) = 0 ↔ ∃ q : Int, (0 ≤ q ∧ q < 400) ∧ ¬ ((reB B (rn B)) 819561 0 (q)) = 0 ∧ ((reB B (rn B)) 819297 0 (q)) = t) := fun t t0 t1 => by
    have x := h.hi t t0 t1
    by_cases c : t = (B 819297 0 (rn B))
    · rw [if_pos c]
      constructor
      · exact fun z => absurd rfl z
      · rintro ⟨q, a1, a2, a3⟩
        rw [e5] at a2
        rw [e2] at a3
        by_cases d : q = rn B
        · rw [if_pos d] at a2; exact absurd rfl a2
        · rw [if_neg d] at a2
          have u := un q a1.1 a1.2 d (by have := (h.sb.hi q a1.1 a1.2 a2).1; omega) (by rw [a3, c])
          exact absurd (Or.inl a2) u.2
    · rw [if_neg c, x]
      constructor
      · rintro ⟨q, a1, a2, a3⟩
        refine ⟨q, a1, ?_, by rw [e2]; exact a3⟩
        rw [e5, if_neg (fun z => c (by rw [← a3, z]))]
        exact a2
      · rintro ⟨q, a1, a2, a3⟩
        rw [e2] at a3
        rw [e5, if_neg (fun z => c (by rw [← a3, z]))] at a2
        exact ⟨q, a1, a2, a3⟩
  have fc : frC A (reA A) := frC.up rfl (frC.rf A)
  have fr : frR B (reB B (rn B)) := frR.up rfl (frR.rf B)
  have sb : SB (reB B (rn B)) := by
    refine SB.ch h.sb h.mB (rn B) q0 q1 fr (fun x xn => ?_) e0 (fun i => by unfold reB; simp only [mup_same, mu_ng, mu_ni, mu_xi, mu_xt, cq_fr, rn_fr, mrs_fr, inn_fr, cpr_fr, opr_fr, ldd_fr, own_fr, ne_eq, Nat.reduceEqDiff, not_false_eq_true, Int.reduceEq, ↓reduceIte]) (by unfold reB; simp only [mup_same, mu_ng, mu_ni, mu_xi, mu_xt, cq_fr, rn_fr, mrs_fr, inn_fr, cpr_fr, opr_fr, ldd_fr, own_fr, ne_eq, Nat.reduceEqDiff, not_false_eq_true, Int.reduceEq, ↓reduceIte]; omega) ?_ (fun x x0 x1 xs => ?_) ?_ (fun z => ?_) (fun z => ?_) (fun r r0 r1 z => ?_) (fun p p0 p1 pn ps qn pt _ => ?_) (fun p p0 p1 pn ps qn pt z => ?_) (fun z => ?_)
    · rw [e1, e5, if_neg xn]
      unfold reB
      simp only [mup_same, mu_ng, mu_ni, mu_xi, mu_xt, cq_fr, rn_fr, mrs_fr, inn_fr, cpr_fr, opr_fr, ldd_fr, own_fr, ne_eq, Nat.reduceEqDiff, not_false_eq_true, Int.reduceEq, ↓reduceIte]
      exact ⟨trivial, trivial, trivial, trivial, trivial⟩
    · rw [e1, e2]
      exact ⟨by omega, sl.2.1, fun _ => qt.2⟩
    · rw [er]; rw [e1] at xs; exact h.sb.r1 x x0 x1 xs
    · have := h.sb.ky _ q0 q1
      unfold reB
      simp only [mup_same, mu_ng, mu_ni, mu_xi, mu_xt, cq_fr, rn_fr, mrs_fr, inn_fr, cpr_fr, opr_fr, ldd_fr, own_fr, ne_eq, Nat.reduceEqDiff, not_false_eq_true, Int.reduceEq, ↓reduceIte]
      exact this
    · rw [e5, if_pos rfl] at z; exact absurd rfl z
    · rw [e1] at z; omega
    · rw [e1]; exact Or.inr qs
    · rw [e2] at pt
      have u := un p p0 p1 pn ps pt
      exact ⟨u.1, u.2, fun z => by rw [e1] at z; omega⟩
    · rw [e2] at pt
      have u := un p p0 p1 pn ps pt
      rcases z with z | z
      · exact absurd z u.2
      · omega
    · rw [e1] at z; omega
  refine ⟨RL.mk (h.pl.fr fc fr) sb ?_ ?_ ?_ ?_ ?_ ?_ ?_ ?_ ?_ ?_ ?_ ?_ ?_ ?_ ?_ ?_ ?_ ?_ ?_ ?_ ?_ ?_ ?_ ?_ ?_ ?_ ?_ ?_ ?_, er⟩
  · simp only [mup_same, mu_ng, mu_ni, mu_xi, mu_xt, cq_fr, rn_fr, mrs_fr, inn_fr, cpr_fr, opr_fr, ldd_fr, own_fr, ne_eq, Nat.reduceEqDiff, not_false_eq_true, Int.reduceEq, ↓reduceIte, reA, reB]; exact h.on
  · simp only [mup_same, mu_ng, mu_ni, mu_xi, mu_xt, cq_fr, rn_fr, mrs_fr, inn_fr, cpr_fr, opr_fr, ldd_fr, own_fr, ne_eq, Nat.reduceEqDiff, not_false_eq_true, Int.reduceEq, ↓reduceIte, reA, reB]; exact h.sh
  · simp only [mup_same, mu_ng, mu_ni, mu_xi, mu_xt, cq_fr, rn_fr, mrs_fr, inn_fr, cpr_fr, opr_fr, ldd_fr, own_fr, ne_eq, Nat.reduceEqDiff, not_false_eq_true, Int.reduceEq, ↓reduceIte, reA, reB]; exact h.no
  · simp only [mup_same, mu_ng, mu_ni, mu_xi, mu_xt, cq_fr, rn_fr, mrs_fr, inn_fr, cpr_fr, opr_fr, ldd_fr, own_fr, ne_eq, Nat.reduceEqDiff, not_false_eq_true, Int.reduceEq, ↓reduceIte, reA, reB]; exact h.na
  · simp only [mup_same, mu_ng, mu_ni, mu_xi, mu_xt, cq_fr, rn_fr, mrs_fr, inn_fr, cpr_fr, opr_fr, ldd_fr, own_fr, ne_eq, Nat.reduceEqDiff, not_false_eq_true, Int.reduceEq, ↓reduceIte, reA, reB]; exact h.bt
  · simp only [mup_same, mu_ng, mu_ni, mu_xi, mu_xt, cq_fr, rn_fr, mrs_fr, inn_fr, cpr_fr, opr_fr, ldd_fr, own_fr, ne_eq, Nat.reduceEqDiff, not_false_eq_true, Int.reduceEq, ↓reduceIte, reA, reB]; exact h.cu
  · simp only [mup_same, mu_ng, mu_ni, mu_xi, mu_xt, cq_fr, rn_fr, mrs_fr, inn_fr, cpr_fr, opr_fr, ldd_fr, own_fr, ne_eq, Nat.reduceEqDiff, not_false_eq_true, Int.reduceEq, ↓reduceIte, reA, reB]; exact h.rq
  · simp only [mup_same, mu_ng, mu_ni, mu_xi, mu_xt, cq_fr, rn_fr, mrs_fr, inn_fr, cpr_fr, opr_fr, ldd_fr, own_fr, ne_eq, Nat.reduceEqDiff, not_false_eq_true, Int.reduceEq, ↓reduceIte, reA, reB]; exact h.wa
  · simp only [mup_same, mu_ng, mu_ni, mu_xi, mu_xt, cq_fr, rn_fr, mrs_fr, inn_fr, cpr_fr, opr_fr, ldd_fr, own_fr, ne_eq, Nat.reduceEqDiff, not_false_eq_true, Int.reduceEq, ↓reduceIte, reA, reB]; exact h.wf
  · intro t t0 t1
    have x := hiE t t0 t1
    rw [← qc] at x
    revert x
    simp only [mup_same, mu_ng, mu_ni, mu_xi, mu_xt, cq_fr, rn_fr, mrs_fr, inn_fr, cpr_fr, opr_fr, ldd_fr, own_fr, ne_eq, Nat.reduceEqDiff, not_false_eq_true, Int.reduceEq, ↓reduceIte, reA]
    exact fun z => z
  · intro w w0 w1
    have x := h.hx w w0 w1
    simp only [mup_same, mu_ng, mu_ni, mu_xi, mu_xt, cq_fr, rn_fr, mrs_fr, inn_fr, cpr_fr, opr_fr, ldd_fr, own_fr, ne_eq, Nat.reduceEqDiff, not_false_eq_true, Int.reduceEq, ↓reduceIte, reA]
    rw [if_neg (by omega)]
    exact x
  · simp only [mup_same, mu_ng, mu_ni, mu_xi, mu_xt, cq_fr, rn_fr, mrs_fr, inn_fr, cpr_fr, opr_fr, ldd_fr, own_fr, ne_eq, Nat.reduceEqDiff, not_false_eq_true, Int.reduceEq, ↓reduceIte, reA, reB]; exact h.hc
  · simp only [mup_same, mu_ng, mu_ni, mu_xi, mu_xt, cq_fr, rn_fr, mrs_fr, inn_fr, cpr_fr, opr_fr, ldd_fr, own_fr, ne_eq, Nat.reduceEqDiff, not_false_eq_true, Int.reduceEq, ↓reduceIte, reA, reB]; exact h.hd
  · simp only [mup_same, mu_ng, mu_ni, mu_xi, mu_xt, cq_fr, rn_fr, mrs_fr, inn_fr, cpr_fr, opr_fr, ldd_fr, own_fr, ne_eq, Nat.reduceEqDiff, not_false_eq_true, Int.reduceEq, ↓reduceIte, reA, reB]; exact h.hs
  · simp only [mup_same, mu_ng, mu_ni, mu_xi, mu_xt, cq_fr, rn_fr, mrs_fr, inn_fr, cpr_fr, opr_fr, ldd_fr, own_fr, ne_eq, Nat.reduceEqDiff, not_false_eq_true, Int.reduceEq, ↓reduceIte, reA, reB]; exact h.ho
  · simp only [mup_same, mu_ng, mu_ni, mu_xi, mu_xt, cq_fr, rn_fr, mrs_fr, inn_fr, cpr_fr, opr_fr, ldd_fr, own_fr, ne_eq, Nat.reduceEqDiff, not_false_eq_true, Int.reduceEq, ↓reduceIte, reA, reB]; exact h.bc
  · simp only [mup_same, mu_ng, mu_ni, mu_xi, mu_xt, cq_fr, rn_fr, mrs_fr, inn_fr, cpr_fr, opr_fr, ldd_fr, own_fr, ne_eq, Nat.reduceEqDiff, not_false_eq_true, Int.reduceEq, ↓reduceIte, reA, reB]; exact h.bg
  · simp only [mup_same, mu_ng, mu_ni, mu_xi, mu_xt, cq_fr, rn_fr, mrs_fr, inn_fr, cpr_fr, opr_fr, ldd_fr, own_fr, ne_eq, Nat.reduceEqDiff, not_false_eq_true, Int.reduceEq, ↓reduceIte, reA, reB]; exact h.bo
  · simp only [mup_same, mu_ng, mu_ni, mu_xi, mu_xt, cq_fr, rn_fr, mrs_fr, inn_fr, cpr_fr, opr_fr, ldd_fr, own_fr, ne_eq, Nat.reduceEqDiff, not_false_eq_true, Int.reduceEq, ↓reduceIte, reA, reB]; exact h.bi
  · simp only [mup_same, mu_ng, mu_ni, mu_xi, mu_xt, cq_fr, rn_fr, mrs_fr, inn_fr, cpr_fr, opr_fr, ldd_fr, own_fr, ne_eq, Nat.reduceEqDiff, not_false_eq_true, Int.reduceEq, ↓reduceIte, reA, reB]; exact h.ca
  · simp only [mup_same, mu_ng, mu_ni, mu_xi, mu_xt, cq_fr, rn_fr, mrs_fr, inn_fr, cpr_fr, opr_fr, ldd_fr, own_fr, ne_eq, Nat.reduceEqDiff, not_false_eq_true, Int.reduceEq, ↓reduceIte, reA, reB]; exact h.st
  · simp only [mup_same, mu_ng, mu_ni, mu_xi, mu_xt, cq_fr, rn_fr, mrs_fr, inn_fr, cpr_fr, opr_fr, ldd_fr, own_fr, ne_eq, Nat.reduceEqDiff, not_false_eq_true, Int.reduceEq, ↓reduceIte, reA, reB]; exact h.co
  · unfold CO; simp only [mup_same, mu_ng, mu_ni, mu_xi, mu_xt, cq_fr, rn_fr, mrs_fr, inn_fr, cpr_fr, opr_fr, ldd_fr, own_fr, ne_eq, Nat.reduceEqDiff, not_false_eq_true, Int.reduceEq, ↓reduceIte, reA, reB]; exact h.ko
  · simp only [mup_same, mu_ng, mu_ni, mu_xi, mu_xt, cq_fr, rn_fr, mrs_fr, inn_fr, cpr_fr, opr_fr, ldd_fr, own_fr, ne_eq, Nat.reduceEqDiff, not_false_eq_true, Int.reduceEq, ↓reduceIte, reA, reB]; exact h.wg
  · simp only [mup_same, mu_ng, mu_ni, mu_xi, mu_xt, cq_fr, rn_fr, mrs_fr, inn_fr, cpr_fr, opr_fr, ldd_fr, own_fr, ne_eq, Nat.reduceEqDiff, not_false_eq_true, Int.reduceEq, ↓reduceIte, reA, reB]; exact h.au
  · simp only [mup_same, mu_ng, mu_ni, mu_xi, mu_xt, cq_fr, rn_fr, mrs_fr, inn_fr, cpr_fr, opr_fr, ldd_fr, own_fr, ne_eq, Nat.reduceEqDiff, not_false_eq_true, Int.reduceEq, ↓reduceIte, reA, reB]; exact h.ad
  · simp only [mup_same, mu_ng, mu_ni, mu_xi, mu_xt, cq_fr, rn_fr, mrs_fr, inn_fr, cpr_fr, opr_fr, ldd_fr, own_fr, ne_eq, Nat.reduceEqDiff, not_false_eq_true, Int.reduceEq, ↓reduceIte, reA, reB]; exact h.ee
  · simp only [mup_same, mu_ng, mu_ni, mu_xi, mu_xt, cq_fr, rn_fr, mrs_fr, inn_fr, cpr_fr, opr_fr, ldd_fr, own_fr, ne_eq, Nat.reduceEqDiff, not_false_eq_true, Int.reduceEq, ↓reduceIte, reA, reB]; exact fun z => absurd z ho
  · simp only [mup_same, mu_ng, mu_ni, mu_xi, mu_xt, cq_fr, rn_fr, mrs_fr, inn_fr, cpr_fr, opr_fr, ldd_fr, own_fr, ne_eq, Nat.reduceEqDiff, not_false_eq_true, Int.reduceEq, ↓reduceIte, reA, reB]; exact h.rx
