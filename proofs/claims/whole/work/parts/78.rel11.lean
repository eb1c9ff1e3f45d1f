/-! ===== events (by program: wip/whole/gen/mk78.py) ===== -/
theorem iAnd_cm (x y : Int) : iAnd x y = iAnd y x := by
  unfold iAnd
  rw [Int32.and_comm]
theorem iAnd_0 (x : Int) : iAnd 0 x = 0 := by
  unfold iAnd
  rw [show Int32.ofInt 0 = 0 from rfl, Int32.zero_and]
  rfl
theorem iOr_0 : iOr 0 0 = 0 := rfl
def seA (A : AMem) (t s : Int) : AMem := (mup A 8 (t) 10 (s))
def seB (B : AMem) (t s : Int) : AMem := (mup B 98406 0 (t) (s))
theorem rl_se {n : Int} {A B : AMem} (h : RL n A B) (ho : ¬ (B 11 0 50) = 0) (t s : Int) (t1 : t < (B 14408 0 (4))) (hs : (B 98388 0 (t)) = 0 → s = 0) : RL n (seA A t s) (seB B t s) := by
  have fc : frC A (seA A t s) := frC.up rfl (frC.rf A)
  have fr : frR B (seB B t s) := frR.up rfl (frR.rf B)
  have sb : SB (seB B t s) := by unfold SB seB; simp only [mup_same, mu_ng, mu_ni, mu_xi, mu_xt, cq_fr, rn_fr, mrs_fr, inn_fr, cpr_fr, opr_fr, ldd_fr, own_fr, ne_eq, Nat.reduceEqDiff, not_false_eq_true, Int.reduceEq, ↓reduceIte]; exact h.sb
  refine RL.mk (h.pl.fr fc fr) sb ?_ ?_ ?_ ?_ ?_ ?_ ?_ ?_ ?_ ?_ ?_ ?_ ?_ ?_ ?_ ?_ ?_ ?_ ?_ ?_ ?_ ?_ ?_ ?_ ?_ ?_ ?_ ?_ ?_
  · simp only [mup_same, mu_ng, mu_ni, mu_xi, mu_xt, cq_fr, rn_fr, mrs_fr, inn_fr, cpr_fr, opr_fr, ldd_fr, own_fr, ne_eq, Nat.reduceEqDiff, not_false_eq_true, Int.reduceEq, ↓reduceIte, seA, seB]; exact h.on
  · simp only [mup_same, mu_ng, mu_ni, mu_xi, mu_xt, cq_fr, rn_fr, mrs_fr, inn_fr, cpr_fr, opr_fr, ldd_fr, own_fr, ne_eq, Nat.reduceEqDiff, not_false_eq_true, Int.reduceEq, ↓reduceIte, seA, seB]; exact h.sh
  · simp only [mup_same, mu_ng, mu_ni, mu_xi, mu_xt, cq_fr, rn_fr, mrs_fr, inn_fr, cpr_fr, opr_fr, ldd_fr, own_fr, ne_eq, Nat.reduceEqDiff, not_false_eq_true, Int.reduceEq, ↓reduceIte, seA, seB]; exact h.no
  · simp only [mup_same, mu_ng, mu_ni, mu_xi, mu_xt, cq_fr, rn_fr, mrs_fr, inn_fr, cpr_fr, opr_fr, ldd_fr, own_fr, ne_eq, Nat.reduceEqDiff, not_false_eq_true, Int.reduceEq, ↓reduceIte, seA, seB]; exact h.na
  · simp only [mup_same, mu_ng, mu_ni, mu_xi, mu_xt, cq_fr, rn_fr, mrs_fr, inn_fr, cpr_fr, opr_fr, ldd_fr, own_fr, ne_eq, Nat.reduceEqDiff, not_false_eq_true, Int.reduceEq, ↓reduceIte, seA, seB]; exact h.bt
  · simp only [mup_same, mu_ng, mu_ni, mu_xi, mu_xt, cq_fr, rn_fr, mrs_fr, inn_fr, cpr_fr, opr_fr, ldd_fr, own_fr, ne_eq, Nat.reduceEqDiff, not_false_eq_true, Int.reduceEq, ↓reduceIte, seA, seB]; exact h.cu
  · simp only [mup_same, mu_ng, mu_ni, mu_xi, mu_xt, cq_fr, rn_fr, mrs_fr, inn_fr, cpr_fr, opr_fr, ldd_fr, own_fr, ne_eq, Nat.reduceEqDiff, not_false_eq_true, Int.reduceEq, ↓reduceIte, seA, seB]; exact h.rq
  · simp only [mup_same, mu_ng, mu_ni, mu_xi, mu_xt, cq_fr, rn_fr, mrs_fr, inn_fr, cpr_fr, opr_fr, ldd_fr, own_fr, ne_eq, Nat.reduceEqDiff, not_false_eq_true, Int.reduceEq, ↓reduceIte, seA, seB]; exact h.wa
  · simp only [mup_same, mu_ng, mu_ni, mu_xi, mu_xt, cq_fr, rn_fr, mrs_fr, inn_fr, cpr_fr, opr_fr, ldd_fr, own_fr, ne_eq, Nat.reduceEqDiff, not_false_eq_true, Int.reduceEq, ↓reduceIte, seA, seB]; exact h.wf
  · simp only [mup_same, mu_ng, mu_ni, mu_xi, mu_xt, cq_fr, rn_fr, mrs_fr, inn_fr, cpr_fr, opr_fr, ldd_fr, own_fr, ne_eq, Nat.reduceEqDiff, not_false_eq_true, Int.reduceEq, ↓reduceIte, seA, seB]; exact h.hi
  · simp only [mup_same, mu_ng, mu_ni, mu_xi, mu_xt, cq_fr, rn_fr, mrs_fr, inn_fr, cpr_fr, opr_fr, ldd_fr, own_fr, ne_eq, Nat.reduceEqDiff, not_false_eq_true, Int.reduceEq, ↓reduceIte, seA, seB]; exact h.hx
  · simp only [mup_same, mu_ng, mu_ni, mu_xi, mu_xt, cq_fr, rn_fr, mrs_fr, inn_fr, cpr_fr, opr_fr, ldd_fr, own_fr, ne_eq, Nat.reduceEqDiff, not_false_eq_true, Int.reduceEq, ↓reduceIte, seA, seB]; exact h.hc
  · simp only [mup_same, mu_ng, mu_ni, mu_xi, mu_xt, cq_fr, rn_fr, mrs_fr, inn_fr, cpr_fr, opr_fr, ldd_fr, own_fr, ne_eq, Nat.reduceEqDiff, not_false_eq_true, Int.reduceEq, ↓reduceIte, seA, seB]; exact h.hd
  · simp only [mup_same, mu_ng, mu_ni, mu_xi, mu_xt, cq_fr, rn_fr, mrs_fr, inn_fr, cpr_fr, opr_fr, ldd_fr, own_fr, ne_eq, Nat.reduceEqDiff, not_false_eq_true, Int.reduceEq, ↓reduceIte, seA, seB]; exact h.hs
  · simp only [mup_same, mu_ng, mu_ni, mu_xi, mu_xt, cq_fr, rn_fr, mrs_fr, inn_fr, cpr_fr, opr_fr, ldd_fr, own_fr, ne_eq, Nat.reduceEqDiff, not_false_eq_true, Int.reduceEq, ↓reduceIte, seA, seB]; exact h.ho
  · simp only [mup_same, mu_ng, mu_ni, mu_xi, mu_xt, cq_fr, rn_fr, mrs_fr, inn_fr, cpr_fr, opr_fr, ldd_fr, own_fr, ne_eq, Nat.reduceEqDiff, not_false_eq_true, Int.reduceEq, ↓reduceIte, seA, seB]; exact h.bc
  · simp only [mup_same, mu_ng, mu_ni, mu_xi, mu_xt, cq_fr, rn_fr, mrs_fr, inn_fr, cpr_fr, opr_fr, ldd_fr, own_fr, ne_eq, Nat.reduceEqDiff, not_false_eq_true, Int.reduceEq, ↓reduceIte, seA, seB]; exact h.bg
  · simp only [mup_same, mu_ng, mu_ni, mu_xi, mu_xt, cq_fr, rn_fr, mrs_fr, inn_fr, cpr_fr, opr_fr, ldd_fr, own_fr, ne_eq, Nat.reduceEqDiff, not_false_eq_true, Int.reduceEq, ↓reduceIte, seA, seB]; exact h.bo
  · simp only [mup_same, mu_ng, mu_ni, mu_xi, mu_xt, cq_fr, rn_fr, mrs_fr, inn_fr, cpr_fr, opr_fr, ldd_fr, own_fr, ne_eq, Nat.reduceEqDiff, not_false_eq_true, Int.reduceEq, ↓reduceIte, seA, seB]; exact h.bi
  · simp only [mup_same, mu_ng, mu_ni, mu_xi, mu_xt, cq_fr, rn_fr, mrs_fr, inn_fr, cpr_fr, opr_fr, ldd_fr, own_fr, ne_eq, Nat.reduceEqDiff, not_false_eq_true, Int.reduceEq, ↓reduceIte, seA, seB]; exact h.ca
  · intro x x0 x1
    have y := h.st x x0 x1
    simp only [mup_same, mu_ng, mu_ni, mu_xi, mu_xt, cq_fr, rn_fr, mrs_fr, inn_fr, cpr_fr, opr_fr, ldd_fr, own_fr, ne_eq, Nat.reduceEqDiff, not_false_eq_true, Int.reduceEq, ↓reduceIte, seA, seB]
    by_cases c : x = t
    · rw [if_pos c, if_pos c]
      exact ⟨rfl, fun z => by
        rcases z with z | z
        · omega
        · rw [c] at z; exact hs z⟩
    · rw [if_neg c, if_neg c]
      exact y
  · simp only [mup_same, mu_ng, mu_ni, mu_xi, mu_xt, cq_fr, rn_fr, mrs_fr, inn_fr, cpr_fr, opr_fr, ldd_fr, own_fr, ne_eq, Nat.reduceEqDiff, not_false_eq_true, Int.reduceEq, ↓reduceIte, seA, seB]; exact h.co
  · unfold CO; simp only [mup_same, mu_ng, mu_ni, mu_xi, mu_xt, cq_fr, rn_fr, mrs_fr, inn_fr, cpr_fr, opr_fr, ldd_fr, own_fr, ne_eq, Nat.reduceEqDiff, not_false_eq_true, Int.reduceEq, ↓reduceIte, seA, seB]; exact h.ko
  · simp only [mup_same, mu_ng, mu_ni, mu_xi, mu_xt, cq_fr, rn_fr, mrs_fr, inn_fr, cpr_fr, opr_fr, ldd_fr, own_fr, ne_eq, Nat.reduceEqDiff, not_false_eq_true, Int.reduceEq, ↓reduceIte, seA, seB]; exact h.wg
  · simp only [mup_same, mu_ng, mu_ni, mu_xi, mu_xt, cq_fr, rn_fr, mrs_fr, inn_fr, cpr_fr, opr_fr, ldd_fr, own_fr, ne_eq, Nat.reduceEqDiff, not_false_eq_true, Int.reduceEq, ↓reduceIte, seA, seB]; exact h.au
  · simp only [mup_same, mu_ng, mu_ni, mu_xi, mu_xt, cq_fr, rn_fr, mrs_fr, inn_fr, cpr_fr, opr_fr, ldd_fr, own_fr, ne_eq, Nat.reduceEqDiff, not_false_eq_true, Int.reduceEq, ↓reduceIte, seA, seB]; exact h.ad
  · simp only [mup_same, mu_ng, mu_ni, mu_xi, mu_xt, cq_fr, rn_fr, mrs_fr, inn_fr, cpr_fr, opr_fr, ldd_fr, own_fr, ne_eq, Nat.reduceEqDiff, not_false_eq_true, Int.reduceEq, ↓reduceIte, seA, seB]; exact h.ee
  · simp only [mup_same, mu_ng, mu_ni, mu_xi, mu_xt, cq_fr, rn_fr, mrs_fr, inn_fr, cpr_fr, opr_fr, ldd_fr, own_fr, ne_eq, Nat.reduceEqDiff, not_false_eq_true, Int.reduceEq, ↓reduceIte, seA, seB]; exact fun z => absurd z ho
  · simp only [mup_same, mu_ng, mu_ni, mu_xi, mu_xt, cq_fr, rn_fr, mrs_fr, inn_fr, cpr_fr, opr_fr, ldd_fr, own_fr, ne_eq, Nat.reduceEqDiff, not_false_eq_true, Int.reduceEq, ↓reduceIte, seA, seB]; exact h.rx
section CL
variable {B : AMem} {q : Int}
theorem cl_se : ((clast B q) 11 0 58) = (B 11 0 58) + 1 := by unfold clast; simp only [mup_same, mu_ng, mu_ni, mu_xi, mu_xt, cq_fr, rn_fr, mrs_fr, inn_fr, cpr_fr, opr_fr, ldd_fr, own_fr, ne_eq, Nat.reduceEqDiff, not_false_eq_true, Int.reduceEq, ↓reduceIte]
theorem cl_st (x : Int) : ((clast B q) 819298 0 (x)) = if x = q then 1 else (B 819298 0 (x)) := by unfold clast; simp only [mup_same, mu_ng, mu_ni, mu_xi, mu_xt, cq_fr, rn_fr, mrs_fr, inn_fr, cpr_fr, opr_fr, ldd_fr, own_fr, ne_eq, Nat.reduceEqDiff, not_false_eq_true, Int.reduceEq, ↓reduceIte]
theorem cl_tk (x : Int) : ((clast B q) 819297 0 (x)) = (B 819297 0 (x)) := by unfold clast; simp only [mup_same, mu_ng, mu_ni, mu_xi, mu_xt, cq_fr, rn_fr, mrs_fr, inn_fr, cpr_fr, opr_fr, ldd_fr, own_fr, ne_eq, Nat.reduceEqDiff, not_false_eq_true, Int.reduceEq, ↓reduceIte]
theorem cl_hi (x : Int) : ((clast B q) 819561 0 (x)) = (B 819561 0 (x)) := by unfold clast; simp only [mup_same, mu_ng, mu_ni, mu_xi, mu_xt, cq_fr, rn_fr, mrs_fr, inn_fr, cpr_fr, opr_fr, ldd_fr, own_fr, ne_eq, Nat.reduceEqDiff, not_false_eq_true, Int.reduceEq, ↓reduceIte]
theorem cl_rw (x : Int) : ((clast B q) 819299 0 (x)) = if x = q then (B 98385 0 ((B 819297 0 (q)))) else (B 819299 0 (x)) := by unfold clast; simp only [mup_same, mu_ng, mu_ni, mu_xi, mu_xt, cq_fr, rn_fr, mrs_fr, inn_fr, cpr_fr, opr_fr, ldd_fr, own_fr, ne_eq, Nat.reduceEqDiff, not_false_eq_true, Int.reduceEq, ↓reduceIte]
theorem cl_ky (x : Int) : ((clast B q) 819812 0 (x)) = if x = q then (B 11 0 58) + 1 else (B 819812 0 (x)) := by unfold clast; simp only [mup_same, mu_ng, mu_ni, mu_xi, mu_xt, cq_fr, rn_fr, mrs_fr, inn_fr, cpr_fr, opr_fr, ldd_fr, own_fr, ne_eq, Nat.reduceEqDiff, not_false_eq_true, Int.reduceEq, ↓reduceIte]
theorem cl_aw (x : Int) : ((clast B q) 819301 0 (x)) = (B 819301 0 (x)) := by unfold clast; simp only [mup_same, mu_ng, mu_ni, mu_xi, mu_xt, cq_fr, rn_fr, mrs_fr, inn_fr, cpr_fr, opr_fr, ldd_fr, own_fr, ne_eq, Nat.reduceEqDiff, not_false_eq_true, Int.reduceEq, ↓reduceIte]
theorem cl_fr : frR B (clast B q) := frR.up rfl (frR.up rfl (frR.up rfl (frR.up rfl (frR.rf B))))
end CL
/-- a waiting task comes into its row again -/
def wkA (A : AMem) (t : Int) : AMem := kput (mup (mup A 8 (t) 8 (0)) 8 (t) 9 (0)) t (A 8 (t) 0) (A 8 (t) 0)
set_option maxHeartbeats 1000000 in
theorem rl_wk {n : Int} {A B : AMem} (h : RL n A B) (ho : ¬ (B 11 0 50) = 0) (q : Int) (q0 : 0 ≤ q) (q1 : q < 400) (qs : (B 819298 0 (q)) = 3) : RL (n + 1) (wkA A (B 819297 0 (q))) (clast B q) := by
  obtain ⟨sg, r⟩ := h.rx
  have hm := h.mB
  have m4 : 0 ≤ (B 14408 0 (4)) ∧ (B 14408 0 (4)) ≤ 48 := by unfold MB at hm; omega
  have sl := h.slot q q0 q1
  have qt := sl.2.2 (by omega)
  have ev := h.sb.wt q q0 q1 qs
  have hs := h.sb.se
  have hn := h.no
  have one : ∀ p : Int, 0 ≤ p → p < 400 → ¬ p = q → ¬ (B 819298 0 (p)) = 0 → ¬ (B 819297 0 (p)) = (B 819297 0 (q)) := fun p p0 p1 pn ps pt => ev (wt_one h p0 p1 q0 q1 pn ps (by omega) pt)
  have hv : ∀ r : Int, 0 ≤ r → r < 32 → ¬ (B 65639 0 (r)) = 1 + q := fun r r0 r1 z => by
    rcases h.sb.hv r r0 r1 with d | ⟨_, _, ⟨_, _, d⟩ | ⟨d, _⟩⟩
    · omega
    · rw [show (B 65639 0 (r)) - 1 = q by omega] at d; omega
    · omega
  have hi0 : (B 819561 0 (q)) = 0 := by
    by_cases c : (B 819561 0 (q)) = 0
    · exact c
    · have := (h.sb.hi q q0 q1 c).1; omega
  have hvE : ∀ r, ((clast B q) 65639 0 (r)) = (B 65639 0 (r)) ∧ ((clast B q) 66152 0 (r)) = (B 66152 0 (r)) := fun r => by unfold clast; simp only [mup_same, mu_ng, mu_ni, mu_xi, mu_xt, cq_fr, rn_fr, mrs_fr, inn_fr, cpr_fr, opr_fr, ldd_fr, own_fr, ne_eq, Nat.reduceEqDiff, not_false_eq_true, Int.reduceEq, ↓reduceIte]; exact ⟨trivial, trivial⟩
  have nl : ¬ ldd (clast B q) q := by
    rintro (z | ⟨r, r0, z⟩)
    · rw [cl_hi] at z; exact z hi0
    · rw [(hvE r).1] at z; exact hv r r0.1 r0.2 z
  have er : rn (clast B q) = rn B := rn_cg2 (fun x x0 x1 => by
    rw [cl_st]
    by_cases c : x = q
    · rw [if_pos c, c]; omega
    · rw [if_neg c])
  have fc : frC A (wkA A (B 819297 0 (q))) := kp_fr (frC.up rfl (frC.up rfl (frC.rf A)))
  have fr : frR B (clast B q) := cl_fr
  have sb : SB (clast B q) := by
    refine SB.ch h.sb h.mB q q0 q1 fr (fun x xn => ?_) hvE (fun i => by unfold clast; simp only [mup_same, mu_ng, mu_ni, mu_xi, mu_xt, cq_fr, rn_fr, mrs_fr, inn_fr, cpr_fr, opr_fr, ldd_fr, own_fr, ne_eq, Nat.reduceEqDiff, not_false_eq_true, Int.reduceEq, ↓reduceIte]) (by rw [cl_se]; omega) ?_ (fun x x0 x1 xs => ?_) ?_ (fun z => ?_) (fun z => ?_) (fun r r0 r1 z => absurd z (hv r r0 r1)) (fun p p0 p1 pn ps qn pt z => ?_) (fun p p0 p1 pn ps qn pt z => ?_) (fun z => ?_)
    · rw [cl_st, cl_tk, cl_rw, cl_ky, cl_hi, if_neg xn, if_neg xn, if_neg xn]
      exact ⟨rfl, rfl, rfl, rfl, rfl⟩
    · rw [cl_st, if_pos rfl, cl_tk]
      exact ⟨by omega, sl.2.1, fun _ => qt⟩
    · rw [er]
      rw [cl_st] at xs
      by_cases c : x = q
      · rw [if_pos c] at xs; omega
      · rw [if_neg c] at xs; exact h.sb.r1 x x0 x1 xs
    · rw [cl_ky, if_pos rfl, cl_se]
      omega
    · rw [cl_hi] at z; exact absurd hi0 z
    · rw [cl_st, if_pos rfl] at z; omega
    · rw [cl_tk] at pt; exact absurd pt (one p p0 p1 pn ps)
    · rw [cl_tk] at pt; exact absurd pt (one p p0 p1 pn ps)
    · rw [cpr_un (fr.mb h.mB) q0 q1 nl, cl_tk, cl_rw, if_pos rfl, fr 98385 0 _ rfl]
  refine RL.mk (h.pl.fr fc fr) sb ?_ ?_ ?_ ?_ ?_ ?_ ?_ ?_ ?_ ?_ ?_ ?_ ?_ ?_ ?_ ?_ ?_ ?_ ?_ ?_ ?_ ?_ ?_ ?_ ?_ ?_ ?_ ?_ ?_
  · simp only [mup_same, mu_ng, mu_ni, mu_xi, mu_xt, cq_fr, rn_fr, mrs_fr, inn_fr, cpr_fr, opr_fr, ldd_fr, own_fr, ne_eq, Nat.reduceEqDiff, not_false_eq_true, Int.reduceEq, ↓reduceIte, wkA, clast, kp_o]; exact h.on
  · simp only [mup_same, mu_ng, mu_ni, mu_xi, mu_xt, cq_fr, rn_fr, mrs_fr, inn_fr, cpr_fr, opr_fr, ldd_fr, own_fr, ne_eq, Nat.reduceEqDiff, not_false_eq_true, Int.reduceEq, ↓reduceIte, wkA, clast, kp_o]; exact h.sh
  · rw [cl_se]; simp only [mup_same, mu_ng, mu_ni, mu_xi, mu_xt, cq_fr, rn_fr, mrs_fr, inn_fr, cpr_fr, opr_fr, ldd_fr, own_fr, ne_eq, Nat.reduceEqDiff, not_false_eq_true, Int.reduceEq, ↓reduceIte, wkA, clast, kp_o]; omega
  · simp only [mup_same, mu_ng, mu_ni, mu_xi, mu_xt, cq_fr, rn_fr, mrs_fr, inn_fr, cpr_fr, opr_fr, ldd_fr, own_fr, ne_eq, Nat.reduceEqDiff, not_false_eq_true, Int.reduceEq, ↓reduceIte, wkA, clast, kp_o]; exact h.na
  · simp only [mup_same, mu_ng, mu_ni, mu_xi, mu_xt, cq_fr, rn_fr, mrs_fr, inn_fr, cpr_fr, opr_fr, ldd_fr, own_fr, ne_eq, Nat.reduceEqDiff, not_false_eq_true, Int.reduceEq, ↓reduceIte, wkA, clast, kp_o]; exact h.bt
  · rw [er, cl_tk]; simp only [mup_same, mu_ng, mu_ni, mu_xi, mu_xt, cq_fr, rn_fr, mrs_fr, inn_fr, cpr_fr, opr_fr, ldd_fr, own_fr, ne_eq, Nat.reduceEqDiff, not_false_eq_true, Int.reduceEq, ↓reduceIte, wkA, kp_o]; exact h.cu
  · intro t t0 t1
    have x := h.rq t t0 t1
    have u := cq_upd (B := B) (B' := clast B q) (q := q) (t := t) q0 q1 (fun y yn => ⟨by rw [cl_st, if_neg yn], cl_tk y⟩)
    rw [cl_st, if_pos rfl, cl_tk] at u
    have c2 : cq (clast B q) t 400 = cq B t 400 := by
      rw [u]
      by_cases c : (B 819297 0 (q)) = t
      · rw [if_pos ⟨by omega, c⟩, if_pos ⟨by omega, c⟩]; omega
      · rw [if_neg (fun z => c z.2), if_neg (fun z => c z.2)]; omega
    rw [c2]
    simp only [mup_same, mu_ng, mu_ni, mu_xi, mu_xt, cq_fr, rn_fr, mrs_fr, inn_fr, cpr_fr, opr_fr, ldd_fr, own_fr, ne_eq, Nat.reduceEqDiff, not_false_eq_true, Int.reduceEq, ↓reduceIte, wkA, clast, kp_o]
    exact x
  · intro t t0 t1
    have x := h.wa t t0 t1
    by_cases c : t = (B 819297 0 (q))
    · simp only [mup_same, mu_ng, mu_ni, mu_xi, mu_xt, cq_fr, rn_fr, mrs_fr, inn_fr, cpr_fr, opr_fr, ldd_fr, own_fr, ne_eq, Nat.reduceEqDiff, not_false_eq_true, Int.reduceEq, ↓reduceIte, wkA, kp_o]
      rw [if_pos c, if_pos c]
      refine ⟨⟨fun z => absurd rfl z, ?_⟩, fun _ => rfl⟩
      rintro ⟨p, a1, a2, a3⟩
      rw [cl_st] at a2
      rw [cl_tk] at a3
      by_cases d : p = q
      · rw [if_pos d] at a2; omega
      · rw [if_neg d] at a2
        exact absurd (a3.trans c) (one p a1.1 a1.2 d (by omega))
    · have y : (∃ p : Int, (0 ≤ p ∧ p < 400) ∧ ((clast B q) 819298 0 (p)) = 3 ∧ ((clast B q) 819297 0 (p)) = t) ↔ ∃ p : Int, (0 ≤ p ∧ p < 400) ∧ (B 819298 0 (p)) = 3 ∧ (B 819297 0 (p)) = t := by
        constructor
        · rintro ⟨p, a1, a2, a3⟩
          rw [cl_st] at a2
          rw [cl_tk] at a3
          by_cases d : p = q
          · rw [if_pos d] at a2; omega
          · rw [if_neg d] at a2; exact ⟨p, a1, a2, a3⟩
        · rintro ⟨p, a1, a2, a3⟩
          have d : ¬ p = q := fun z => c (by rw [← a3, z])
          exact ⟨p, a1, by rw [cl_st, if_neg d]; exact a2, by rw [cl_tk]; exact a3⟩
      rw [y]
      simp only [mup_same, mu_ng, mu_ni, mu_xi, mu_xt, cq_fr, rn_fr, mrs_fr, inn_fr, cpr_fr, opr_fr, ldd_fr, own_fr, ne_eq, Nat.reduceEqDiff, not_false_eq_true, Int.reduceEq, ↓reduceIte, wkA, kp_o]
      rw [if_neg c, if_neg c]
      exact x
  · intro p a1 a2 a3
    rw [cl_tk, cl_aw]
    have d : ¬ p = q := fun z => by rw [cl_st, if_pos z] at a3; omega
    rw [cl_st, if_neg d] at a3
    have x := h.wf p a1 a2 a3
    simp only [mup_same, mu_ng, mu_ni, mu_xi, mu_xt, cq_fr, rn_fr, mrs_fr, inn_fr, cpr_fr, opr_fr, ldd_fr, own_fr, ne_eq, Nat.reduceEqDiff, not_false_eq_true, Int.reduceEq, ↓reduceIte, wkA, kp_o]
    rw [if_neg (one p a1 a2 d (by omega))]
    exact x
  · simp only [mup_same, mu_ng, mu_ni, mu_xi, mu_xt, cq_fr, rn_fr, mrs_fr, inn_fr, cpr_fr, opr_fr, ldd_fr, own_fr, ne_eq, Nat.reduceEqDiff, not_false_eq_true, Int.reduceEq, ↓reduceIte, wkA, clast, kp_o]; exact h.hi
  · simp only [mup_same, mu_ng, mu_ni, mu_xi, mu_xt, cq_fr, rn_fr, mrs_fr, inn_fr, cpr_fr, opr_fr, ldd_fr, own_fr, ne_eq, Nat.reduceEqDiff, not_false_eq_true, Int.reduceEq, ↓reduceIte, wkA, clast, kp_o]; exact h.hx
  · simp only [mup_same, mu_ng, mu_ni, mu_xi, mu_xt, cq_fr, rn_fr, mrs_fr, inn_fr, cpr_fr, opr_fr, ldd_fr, own_fr, ne_eq, Nat.reduceEqDiff, not_false_eq_true, Int.reduceEq, ↓reduceIte, wkA, clast, kp_o]; exact h.hc
  · simp only [mup_same, mu_ng, mu_ni, mu_xi, mu_xt, cq_fr, rn_fr, mrs_fr, inn_fr, cpr_fr, opr_fr, ldd_fr, own_fr, ne_eq, Nat.reduceEqDiff, not_false_eq_true, Int.reduceEq, ↓reduceIte, wkA, clast, kp_o]; exact h.hd
  · simp only [mup_same, mu_ng, mu_ni, mu_xi, mu_xt, cq_fr, rn_fr, mrs_fr, inn_fr, cpr_fr, opr_fr, ldd_fr, own_fr, ne_eq, Nat.reduceEqDiff, not_false_eq_true, Int.reduceEq, ↓reduceIte, wkA, clast, kp_o]; exact h.hs
  · simp only [mup_same, mu_ng, mu_ni, mu_xi, mu_xt, cq_fr, rn_fr, mrs_fr, inn_fr, cpr_fr, opr_fr, ldd_fr, own_fr, ne_eq, Nat.reduceEqDiff, not_false_eq_true, Int.reduceEq, ↓reduceIte, wkA, clast, kp_o]; exact h.ho
  · simp only [mup_same, mu_ng, mu_ni, mu_xi, mu_xt, cq_fr, rn_fr, mrs_fr, inn_fr, cpr_fr, opr_fr, ldd_fr, own_fr, ne_eq, Nat.reduceEqDiff, not_false_eq_true, Int.reduceEq, ↓reduceIte, wkA, clast, kp_o]; exact h.bc
  · simp only [mup_same, mu_ng, mu_ni, mu_xi, mu_xt, cq_fr, rn_fr, mrs_fr, inn_fr, cpr_fr, opr_fr, ldd_fr, own_fr, ne_eq, Nat.reduceEqDiff, not_false_eq_true, Int.reduceEq, ↓reduceIte, wkA, clast, kp_o]; exact h.bg
  · simp only [mup_same, mu_ng, mu_ni, mu_xi, mu_xt, cq_fr, rn_fr, mrs_fr, inn_fr, cpr_fr, opr_fr, ldd_fr, own_fr, ne_eq, Nat.reduceEqDiff, not_false_eq_true, Int.reduceEq, ↓reduceIte, wkA, clast, kp_o]; exact h.bo
  · simp only [mup_same, mu_ng, mu_ni, mu_xi, mu_xt, cq_fr, rn_fr, mrs_fr, inn_fr, cpr_fr, opr_fr, ldd_fr, own_fr, ne_eq, Nat.reduceEqDiff, not_false_eq_true, Int.reduceEq, ↓reduceIte, wkA, clast, kp_o]; exact h.bi
  · simp only [mup_same, mu_ng, mu_ni, mu_xi, mu_xt, cq_fr, rn_fr, mrs_fr, inn_fr, cpr_fr, opr_fr, ldd_fr, own_fr, ne_eq, Nat.reduceEqDiff, not_false_eq_true, Int.reduceEq, ↓reduceIte, wkA, clast, kp_o]; exact h.ca
  · simp only [mup_same, mu_ng, mu_ni, mu_xi, mu_xt, cq_fr, rn_fr, mrs_fr, inn_fr, cpr_fr, opr_fr, ldd_fr, own_fr, ne_eq, Nat.reduceEqDiff, not_false_eq_true, Int.reduceEq, ↓reduceIte, wkA, clast, kp_o]; exact h.st
  · simp only [mup_same, mu_ng, mu_ni, mu_xi, mu_xt, cq_fr, rn_fr, mrs_fr, inn_fr, cpr_fr, opr_fr, ldd_fr, own_fr, ne_eq, Nat.reduceEqDiff, not_false_eq_true, Int.reduceEq, ↓reduceIte, wkA, clast, kp_o]; exact h.co
  · unfold CO; simp only [mup_same, mu_ng, mu_ni, mu_xi, mu_xt, cq_fr, rn_fr, mrs_fr, inn_fr, cpr_fr, opr_fr, ldd_fr, own_fr, ne_eq, Nat.reduceEqDiff, not_false_eq_true, Int.reduceEq, ↓reduceIte, wkA, clast, kp_o]; exact h.ko
  · simp only [mup_same, mu_ng, mu_ni, mu_xi, mu_xt, cq_fr, rn_fr, mrs_fr, inn_fr, cpr_fr, opr_fr, ldd_fr, own_fr, ne_eq, Nat.reduceEqDiff, not_false_eq_true, Int.reduceEq, ↓reduceIte, wkA, clast, kp_o]; exact h.wg
  · simp only [mup_same, mu_ng, mu_ni, mu_xi, mu_xt, cq_fr, rn_fr, mrs_fr, inn_fr, cpr_fr, opr_fr, ldd_fr, own_fr, ne_eq, Nat.reduceEqDiff, not_false_eq_true, Int.reduceEq, ↓reduceIte, wkA, clast, kp_o]; exact h.au
  · simp only [mup_same, mu_ng, mu_ni, mu_xi, mu_xt, cq_fr, rn_fr, mrs_fr, inn_fr, cpr_fr, opr_fr, ldd_fr, own_fr, ne_eq, Nat.reduceEqDiff, not_false_eq_true, Int.reduceEq, ↓reduceIte, wkA, clast, kp_o]; exact h.ad
  · simp only [mup_same, mu_ng, mu_ni, mu_xi, mu_xt, cq_fr, rn_fr, mrs_fr, inn_fr, cpr_fr, opr_fr, ldd_fr, own_fr, ne_eq, Nat.reduceEqDiff, not_false_eq_true, Int.reduceEq, ↓reduceIte, wkA, clast, kp_o]; exact h.ee
  · simp only [mup_same, mu_ng, mu_ni, mu_xi, mu_xt, cq_fr, rn_fr, mrs_fr, inn_fr, cpr_fr, opr_fr, ldd_fr, own_fr, ne_eq, Nat.reduceEqDiff, not_false_eq_true, Int.reduceEq, ↓reduceIte, wkA, clast, kp_o]; exact fun z => absurd z ho
  · have pr := h.pl.pr _ sl.2.1.1 qt
    have za : (A 7 0 2) < 384 := by
      have a := h.nrB
      rw [nrq_cnt] at a
      have b := r.len
      have u := cnt_upd (p := fun x => decide ((B 819298 0 (x)) ≠ 0)) (p' := fun x => decide ((B 819298 0 (x)) ≠ 0) && !decide ((x : Int) = q)) q.toNat (fun j hj => by
        have : ¬ (j : Int) = q := by omega
        simp [this]) 400 (by omega)
      rw [show ((q.toNat : Nat) : Int) = q by omega, if_pos (by simp [qs]), if_neg (by simp)] at u
      have d := cnt_le (p := fun x => decide ((B 819298 0 (x)) = 1)) (r := fun x => decide ((B 819298 0 (x)) ≠ 0) && !decide ((x : Int) = q)) 400 (fun j hj e => by
        simp only [decide_eq_true_eq] at e
        have : ¬ (j : Int) = q := fun z => by rw [z] at e; omega
        simp [this, e])
      omega
    have e : wkA A (B 819297 0 (q)) = kput (mup (mup A 8 ((B 819297 0 (q))) 8 (0)) 8 ((B 819297 0 (q))) 9 (0)) (B 819297 0 (q)) (B 98385 0 ((B 819297 0 (q)))) (B 98385 0 ((B 819297 0 (q)))) := by rw [← pr.1]; rfl
    rw [e]
    have r2 : RwR ((mup (mup A 8 ((B 819297 0 (q))) 8 (0)) 8 ((B 819297 0 (q))) 9 (0)) 7 0 2) (fun i => ((mup (mup A 8 ((B 819297 0 (q))) 8 (0)) 8 ((B 819297 0 (q))) 9 (0)) 786482 0 (i))) (fun i => ((mup (mup A 8 ((B 819297 0 (q))) 8 (0)) 8 ((B 819297 0 (q))) 9 (0)) 786481 0 (i))) (fun q => (B 819298 0 (q))) (fun q => (B 819297 0 (q))) (fun q => (B 819299 0 (q))) (fun q => (B 819812 0 (q))) sg := by
      simp only [mup_same, mu_ng, mu_ni, mu_xi, mu_xt, cq_fr, rn_fr, mrs_fr, inn_fr, cpr_fr, opr_fr, ldd_fr, own_fr, ne_eq, Nat.reduceEqDiff, not_false_eq_true, Int.reduceEq, ↓reduceIte]
      exact r
    exact ⟨_, rw_ins (B' := clast B q) (q := q) (p := (B 98385 0 ((B 819297 0 (q))))) (t := (B 819297 0 (q))) (k := (B 11 0 58) + 1) (l := (B 98385 0 ((B 819297 0 (q))))) r2 h.sb.ky (by simp only [mup_same, mu_ng, mu_ni, mu_xi, mu_xt, cq_fr, rn_fr, mrs_fr, inn_fr, cpr_fr, opr_fr, ldd_fr, own_fr, ne_eq, Nat.reduceEqDiff, not_false_eq_true, Int.reduceEq, ↓reduceIte]; exact za) q0 q1 (by omega) cl_st (fun x => by
      rw [cl_tk]
      by_cases c : x = q
      · rw [if_pos c, c]
      · rw [if_neg c]) cl_rw cl_ky (Or.inl ⟨rfl, rfl⟩)⟩
/-- the reference's search for the waiting request -/
theorem stq_0 {M : AMem} {t : Int} : ∀ n : Nat, n ≤ 400 → (∀ x : Int, 0 ≤ x → x < 400 → ¬ ((M 819298 0 (x)) = 3 ∧ (M 819297 0 (x)) = t ∧ iAnd (M 819301 0 (x)) (M 98406 0 (t)) ≠ 0)) → stq t n M = M
  | 0, _, _ => rfl
  | n + 1, hn, h => by
    unfold stq
    rw [stq_0 n (by omega) h, if_neg (h n (by omega) (by omega))]
theorem cl_set {B : AMem} {q x : Int} : ((clast B q) 98406 0 (x)) = (B 98406 0 (x)) := by unfold clast; simp only [mup_same, mu_ng, mu_ni, mu_xi, mu_xt, cq_fr, rn_fr, mrs_fr, inn_fr, cpr_fr, opr_fr, ldd_fr, own_fr, ne_eq, Nat.reduceEqDiff, not_false_eq_true, Int.reduceEq, ↓reduceIte]
theorem stq_1 {M : AMem} {t q : Int} (q0 : 0 ≤ q) (q1 : q < 400) (hq : (M 819298 0 (q)) = 3 ∧ (M 819297 0 (q)) = t ∧ iAnd (M 819301 0 (q)) (M 98406 0 (t)) ≠ 0) (hu : ∀ x : Int, 0 ≤ x → x < 400 → (M 819298 0 (x)) = 3 → (M 819297 0 (x)) = t → x = q) : ∀ n : Nat, n ≤ 400 → stq t n M = if q < n then clast M q else M
  | 0, _ => by rw [if_neg (by omega)]; rfl
  | n + 1, hn => by
    unfold stq
    rw [stq_1 q0 q1 hq hu n (by omega)]
    by_cases c : q < n
    · rw [if_pos c, if_pos (show q < ((n + 1 : Nat) : Int) by omega), if_neg]
      rintro ⟨a, b, _⟩
      rw [cl_st, if_neg (by omega)] at a
      rw [cl_tk] at b
      have := hu n (by omega) (by omega) a b
      omega
    · rw [if_neg c]
      by_cases d : q = n
      · subst d
        rw [if_pos hq, if_pos (show (n : Int) < ((n + 1 : Nat) : Int) by omega)]
      · rw [if_neg (show ¬ q < ((n + 1 : Nat) : Int) by omega), if_neg]
        rintro ⟨a, b, _⟩
        have := hu n (by omega) (by omega) a b
        omega
/-- events are set, on both sides -/
theorem rl_sets {n : Int} {A B : AMem} (h : RL n A B) (ho : ¬ (B 11 0 50) = 0) (t mask : Int) (t0 : 0 ≤ t) (t1 : t < (B 14408 0 (4))) : RL (n + 1) (kse A t mask) (sts B t mask) := by
  have hm := h.mB
  have m4 : 0 ≤ (B 14408 0 (4)) ∧ (B 14408 0 (4)) ≤ 48 := by unfold MB at hm; omega
  have es := (h.st t t0 (by omega)).1
  have ee := (h.pl.ev t t0 t1).1
  have s0 := (h.st t t0 (by omega)).2
  have w := h.wa t t0 (by omega)
  have hse := rl_se h ho t (iOr (B 98406 0 (t)) (iAnd (B 98388 0 (t)) mask)) t1 (fun z => by rw [s0 (Or.inr z), z, iAnd_0]; rfl)
  unfold kse sts
  rw [es, ee]
  have ro : ∀ x, ((seB B t (iOr (B 98406 0 (t)) (iAnd (B 98388 0 (t)) mask))) 819298 0 (x)) = (B 819298 0 (x)) ∧ ((seB B t (iOr (B 98406 0 (t)) (iAnd (B 98388 0 (t)) mask))) 819297 0 (x)) = (B 819297 0 (x)) ∧ ((seB B t (iOr (B 98406 0 (t)) (iAnd (B 98388 0 (t)) mask))) 819301 0 (x)) = (B 819301 0 (x)) := fun x => by unfold seB; simp only [mup_same, mu_ng, mu_ni, mu_xi, mu_xt, cq_fr, rn_fr, mrs_fr, inn_fr, cpr_fr, opr_fr, ldd_fr, own_fr, ne_eq, Nat.reduceEqDiff, not_false_eq_true, Int.reduceEq, ↓reduceIte]; exact ⟨trivial, trivial, trivial⟩
  have rs : ((seB B t (iOr (B 98406 0 (t)) (iAnd (B 98388 0 (t)) mask))) 98406 0 (t)) = iOr (B 98406 0 (t)) (iAnd (B 98388 0 (t)) mask) := by unfold seB; simp only [mup_same, mu_ng, mu_ni, mu_xi, mu_xt, cq_fr, rn_fr, mrs_fr, inn_fr, cpr_fr, opr_fr, ldd_fr, own_fr, ne_eq, Nat.reduceEqDiff, not_false_eq_true, Int.reduceEq, ↓reduceIte]
  have on2 : ¬ ((seB B t (iOr (B 98406 0 (t)) (iAnd (B 98388 0 (t)) mask))) 11 0 50) = 0 := by unfold seB; simp only [mup_same, mu_ng, mu_ni, mu_xi, mu_xt, cq_fr, rn_fr, mrs_fr, inn_fr, cpr_fr, opr_fr, ldd_fr, own_fr, ne_eq, Nat.reduceEqDiff, not_false_eq_true, Int.reduceEq, ↓reduceIte]; exact ho
  show RL (n + 1) _ (stq t 400 (seB B t (iOr (B 98406 0 (t)) (iAnd (B 98388 0 (t)) mask))))
  by_cases c : (A 8 (t) 8) = 0
  · rw [if_neg (fun z => z.1 c), stq_0 400 (by omega) (fun x x0 x1 z => by
      rw [(ro x).1, (ro x).2.1] at z
      exact (w.1.mpr ⟨x, ⟨x0, x1⟩, z.1, z.2.1⟩) c)]
    exact hse.mono (by omega)
  · obtain ⟨q, ⟨q0, q1⟩, qs, qt⟩ := w.1.mp c
    have uni : ∀ x : Int, 0 ≤ x → x < 400 → (B 819298 0 (x)) = 3 → (B 819297 0 (x)) = t → x = q := fun x x0 x1 xs xt => by
      by_cases d : x = q
      · exact d
      · exfalso
        exact h.sb.wt q q0 q1 qs (wt_one h x0 x1 q0 q1 d (by omega) (by omega) (by rw [xt, qt]))
    have wf := h.wf q q0 q1 qs
    rw [qt] at wf
    by_cases d : iAnd (iOr (B 98406 0 (t)) (iAnd (B 98388 0 (t)) mask)) (A 8 (t) 9) = 0
    · rw [if_neg (fun z => z.2 d), stq_0 400 (by omega) (fun x x0 x1 z => by
        rw [(ro x).1, (ro x).2.1, (ro x).2.2, rs] at z
        have := uni x x0 x1 z.1 z.2.1
        subst this
        exact z.2.2 (by rw [iAnd_cm, ← wf]; exact d))]
      exact hse.mono (by omega)
    · rw [if_pos ⟨c, d⟩, stq_1 q0 q1 ⟨by rw [(ro q).1]; exact qs, by rw [(ro q).2.1]; exact qt, by rw [(ro q).2.2, rs, iAnd_cm, ← wf]; exact d⟩ (fun x x0 x1 xs xt => uni x x0 x1 (by rw [← (ro x).1]; exact xs) (by rw [← (ro x).2.1]; exact xt)) 400 (by omega), if_pos (by omega)]
      have k := rl_wk hse on2 q q0 q1 (by rw [(ro q).1]; exact qs)
      rw [(ro q).2.1, qt] at k
      have e : wkA (seA A t (iOr (B 98406 0 (t)) (iAnd (B 98388 0 (t)) mask))) t = kput (mup (mup (mup A 8 (t) 10 (iOr (B 98406 0 (t)) (iAnd (B 98388 0 (t)) mask))) 8 (t) 8 (0)) 8 (t) 9 (0)) t (A 8 (t) 0) (A 8 (t) 0) := by
        unfold wkA seA
        simp only [mup_same, mu_ng, mu_ni, mu_xi, mu_xt, cq_fr, rn_fr, mrs_fr, inn_fr, cpr_fr, opr_fr, ldd_fr, own_fr, ne_eq, Nat.reduceEqDiff, not_false_eq_true, Int.reduceEq, ↓reduceIte]
      rw [e] at k
      exact k
