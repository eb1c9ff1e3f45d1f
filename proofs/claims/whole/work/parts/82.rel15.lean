/-! ===== the kernel goes off (by program: wip/whole/gen/mk82.py) ===== -/
theorem wrst_r (M : AMem) (w : Int) (g : Nat) (t i : Int) : wrst M w g t i = if g = 8 ∧ t = w ∧ 7 ≤ i ∧ i ≤ 14 ∧ ¬ i = 13 then 0 else M g t i := by
  simp only [wrst, mup]
  repeat' split
  all_goals first | rfl | omega
theorem kr4_r (M : AMem) (g : Nat) (t i : Int) : ∀ n : Nat, kr4 M n g t i = if g = 8 ∧ 0 ≤ t ∧ t < n ∧ 7 ≤ i ∧ i ≤ 14 ∧ ¬ i = 13 then 0 else M g t i
  | 0 => by rw [if_neg (by omega)]; rfl
  | n + 1 => by
    show wrst (kr4 M n) n g t i = _
    rw [wrst_r, kr4_r M g t i n]
    repeat' split
    all_goals first | rfl | omega
theorem kr5_r (M : AMem) (g : Nat) (t i : Int) : ∀ n : Nat, kr5 M n g t i = if g = 8 ∧ 48 ≤ t ∧ t < 48 + n ∧ 7 ≤ i ∧ i ≤ 14 ∧ ¬ i = 13 then 0 else M g t i
  | 0 => by rw [if_neg (by omega)]; rfl
  | n + 1 => by
    show wrst (kr5 M n) (48 + n) g t i = _
    rw [wrst_r, kr5_r M g t i n]
    repeat' split
    all_goals first | rfl | omega
theorem kr3_r (M : AMem) (g : Nat) (t i : Int) : ∀ n : Nat, kr3 M n g t i = if g = 9 ∧ 0 ≤ t ∧ t < n ∧ i = 5 then 0 else M g t i
  | 0 => by rw [if_neg (by omega)]; rfl
  | n + 1 => by
    show mup (kr3 M n) 9 n 5 0 g t i = _
    unfold mup
    rw [kr3_r M g t i n]
    repeat' split
    all_goals first | rfl | omega
theorem kr6_r (M : AMem) (g : Nat) (t i : Int) : ∀ n : Nat, kr6 M n g t i = if g = 10 ∧ 0 ≤ t ∧ t < n ∧ i = 6 then 0 else M g t i
  | 0 => by rw [if_neg (by omega)]; rfl
  | n + 1 => by
    show mup (kr6 M n) 10 n 6 0 g t i = _
    unfold mup
    rw [kr6_r M g t i n]
    repeat' split
    all_goals first | rfl | omega
theorem krs_r (M : AMem) (g : Nat) (t i : Int) (h4 : 0 ≤ (M 14370 0 (4))) (h5 : 0 ≤ (M 14370 0 (5))) (h3 : 0 ≤ (M 14370 0 (3))) (h6 : 0 ≤ (M 14370 0 (6))) : krs M g t i = if (g = 8 ∧ ((0 ≤ t ∧ t < (M 14370 0 (4))) ∨ (48 ≤ t ∧ t < 48 + (M 14370 0 (5)))) ∧ 7 ≤ i ∧ i ≤ 14 ∧ ¬ i = 13) ∨ (g = 9 ∧ (0 ≤ t ∧ t < (M 14370 0 (3))) ∧ i = 5) ∨ (g = 10 ∧ (0 ≤ t ∧ t < (M 14370 0 (6))) ∧ i = 6) then 0 else M g t i := by
  unfold krs
  rw [kr6_r, kr3_r, kr5_r, kr4_r]
  generalize (M 14370 0 (4)) = a at *
  generalize (M 14370 0 (5)) = b at *
  generalize (M 14370 0 (3)) = c at *
  generalize (M 14370 0 (6)) = d at *
  repeat' split
  all_goals first | rfl | omega
def kg0 (A : AMem) : AMem := (mup (mup (mup (mup (mup (mup A 6 0 2 (0)) 6 0 3 (-1)) 6 0 4 (0)) 6 0 5 (-1)) 6 0 7 (0)) 7 0 2 (0))
theorem kg0_o (A : AMem) {g : Nat} (h6 : g ≠ 6) (h7 : g ≠ 7) (t i : Int) : kg0 A g t i = A g t i := by
  unfold kg0
  rw [mu_ng h7, mu_ng h6, mu_ng h6, mu_ng h6, mu_ng h6, mu_ng h6]
theorem fil_x (M : AMem) (g : Nat) (n v i : Int) : fil M g n v g 0 i = if 0 ≤ i ∧ i < n then v else M g 0 i := by
  unfold fil
  by_cases c : 0 ≤ i ∧ i < n
  · rw [if_pos c, if_pos ⟨rfl, rfl, c⟩]
  · rw [if_neg c, if_neg (fun z => c z.2.2)]
theorem fil_n {M : AMem} {g g' : Nat} {n v t i : Int} (h : g' ≠ g) : fil M g n v g' t i = M g' t i := by
  unfold fil
  rw [if_neg (fun z => h z.1)]
theorem kgo_eq {n : Int} {A B : AMem} (h : RL n A B) (g : Nat) (t i : Int) (h6 : g ≠ 6) (h7 : g ≠ 7) : kgo A g t i = if (g = 8 ∧ ((0 ≤ t ∧ t < (B 14408 0 (4))) ∨ (48 ≤ t ∧ t < 48 + (B 14408 0 (5)))) ∧ 7 ≤ i ∧ i ≤ 14 ∧ ¬ i = 13) ∨ (g = 9 ∧ (0 ≤ t ∧ t < (B 14408 0 (3))) ∧ i = 5) ∨ (g = 10 ∧ (0 ≤ t ∧ t < (B 14408 0 (6))) ∧ i = 6) then 0 else A g t i := by
  have hm := h.mB
  unfold MB at hm
  have e : kgo A = krs (kg0 A) := rfl
  have e4 : ((kg0 A) 14370 0 (4)) = (B 14408 0 (4)) := by rw [kg0_o _ (by decide) (by decide)]; exact h.pl.t4
  have e5 : ((kg0 A) 14370 0 (5)) = (B 14408 0 (5)) := by rw [kg0_o _ (by decide) (by decide)]; exact h.pl.t5
  have e3 : ((kg0 A) 14370 0 (3)) = (B 14408 0 (3)) := by rw [kg0_o _ (by decide) (by decide)]; exact h.pl.t3
  have e6 : ((kg0 A) 14370 0 (6)) = (B 14408 0 (6)) := by rw [kg0_o _ (by decide) (by decide)]; exact h.pl.t6
  rw [e, krs_r _ g t i (by omega) (by omega) (by omega) (by omega), e3, e4, e5, e6, kg0_o _ h6 h7]
theorem kgo_o {n : Int} {A B : AMem} (h : RL n A B) {g : Nat} (t i : Int) (h6 : g ≠ 6) (h7 : g ≠ 7) (h8 : g ≠ 8) (h9 : g ≠ 9) (h10 : g ≠ 10) : kgo A g t i = A g t i := by
  rw [kgo_eq h g t i h6 h7, if_neg (by omega)]
theorem kgo_6 {n : Int} {A B : AMem} (h : RL n A B) (i : Int) : kgo A 6 0 i = kg0 A 6 0 i ∧ kgo A 7 0 i = kg0 A 7 0 i := by
  have hm := h.mB
  unfold MB at hm
  have e : kgo A = krs (kg0 A) := rfl
  have e4 : ((kg0 A) 14370 0 (4)) = (B 14408 0 (4)) := by rw [kg0_o _ (by decide) (by decide)]; exact h.pl.t4
  have e5 : ((kg0 A) 14370 0 (5)) = (B 14408 0 (5)) := by rw [kg0_o _ (by decide) (by decide)]; exact h.pl.t5
  have e3 : ((kg0 A) 14370 0 (3)) = (B 14408 0 (3)) := by rw [kg0_o _ (by decide) (by decide)]; exact h.pl.t3
  have e6 : ((kg0 A) 14370 0 (6)) = (B 14408 0 (6)) := by rw [kg0_o _ (by decide) (by decide)]; exact h.pl.t6
  rw [e, krs_r _ 6 0 i (by omega) (by omega) (by omega) (by omega), krs_r _ 7 0 i (by omega) (by omega) (by omega) (by omega), if_neg (by omega), if_neg (by omega)]
  exact ⟨rfl, rfl⟩
section GOF
variable {B : AMem}
theorem gof_o {g : Nat} {t i : Int} (h0 : g ≠ 11) (h1 : g ≠ 819298) (h2 : g ≠ 819561) (h3 : g ≠ 98406) (h4 : g ≠ 98671) (h5 : g ≠ 65639) (h6 : g ≠ 33130) (h7 : g ≠ 32875) (h8 : g ≠ 32878) : gof B g t i = B g t i := by
  unfold gof gf4 gf3 gf2 gf1 gf0
  rw [fil_n h8, fil_n h7, fil_n h6, fil_n h5, fil_n h4, fil_n h3, fil_n h2, fil_n h1, mu_ng h0, mu_ng h0, mu_ng h0, mu_ng h0]
theorem gof_11 (i : Int) : gof B 11 0 i = gf0 B 11 0 i := by
  unfold gof gf4 gf3 gf2 gf1
  rw [fil_n (by decide), fil_n (by decide), fil_n (by decide), fil_n (by decide), fil_n (by decide), fil_n (by decide), fil_n (by decide), fil_n (by decide)]
theorem gof_st (x : Int) (h0 : 0 ≤ x) (h1 : x < 400) : ((gof B) 819298 0 (x)) = 0 := by
  unfold gof gf4 gf3 gf2 gf1
  rw [fil_n (by decide), fil_n (by decide), fil_n (by decide), fil_n (by decide), fil_n (by decide), fil_n (by decide), fil_n (by decide), fil_x, if_pos ⟨h0, h1⟩]
theorem gof_hi (x : Int) (h0 : 0 ≤ x) (h1 : x < 400) : ((gof B) 819561 0 (x)) = 0 := by
  unfold gof gf4 gf3 gf2 gf1
  rw [fil_n (by decide), fil_n (by decide), fil_n (by decide), fil_n (by decide), fil_n (by decide), fil_n (by decide), fil_x, if_pos ⟨h0, h1⟩]
theorem gof_se (x : Int) (h0 : 0 ≤ x) (h1 : x < 48) : ((gof B) 98406 0 (x)) = 0 := by
  unfold gof gf4 gf3 gf2 gf1
  rw [fil_n (by decide), fil_n (by decide), fil_n (by decide), fil_n (by decide), fil_n (by decide), fil_x, if_pos ⟨h0, h1⟩]
theorem gof_iu (x : Int) (h0 : 0 ≤ x) (h1 : x < 48) : ((gof B) 98671 0 (x)) = 0 := by
  unfold gof gf4 gf3 gf2 gf1
  rw [fil_n (by decide), fil_n (by decide), fil_n (by decide), fil_n (by decide), fil_x, if_pos ⟨h0, h1⟩]
theorem gof_hv (x : Int) (h0 : 0 ≤ x) (h1 : x < 32) : ((gof B) 65639 0 (x)) = 0 := by
  unfold gof gf4 gf3
  rw [fil_n (by decide), fil_n (by decide), fil_n (by decide), fil_x, if_pos ⟨h0, h1⟩]
theorem gof_ca (x : Int) (h0 : 0 ≤ x) (h1 : x < 16) : ((gof B) 33130 0 (x)) = 0 := by
  unfold gof gf4
  rw [fil_n (by decide), fil_n (by decide), fil_x, if_pos ⟨h0, h1⟩]
theorem gof_bg (x : Int) (h0 : 0 ≤ x) (h1 : x < 16) : ((gof B) 32875 0 (x)) = -1 := by
  unfold gof gf4
  rw [fil_n (by decide), fil_x, if_pos ⟨h0, h1⟩]
theorem gof_wg (x : Int) (h0 : 0 ≤ x) (h1 : x < 16) : ((gof B) 32878 0 (x)) = 0 := by
  unfold gof gf4
  rw [fil_x, if_pos ⟨h0, h1⟩]
theorem gof_fr : frR B (gof B) := by
  unfold gof gf4 gf3 gf2 gf1 gf0
  exact frR.fiE (fun _ => rfl) (frR.fiE (fun _ => rfl) (frR.fiE (fun _ => rfl) (frR.fiE (fun _ => rfl) (frR.fiE (fun _ => rfl) (frR.fiE (fun _ => rfl) (frR.fiE (fun _ => rfl) (frR.fiE (fun _ => rfl) (frR.up rfl (frR.up rfl (frR.up rfl (frR.up rfl (frR.rf B))))))))))))
end GOF
theorem kgo_fr {n : Int} {A B : AMem} (h : RL n A B) : frC A (kgo A) := by
  intro g t i d
  by_cases h6 : g = 6
  · subst h6; cases d
  · by_cases h7 : g = 7
    · subst h7; cases d
    · rw [kgo_eq h g t i h6 h7, if_neg]
      rintro (⟨z, z1⟩ | ⟨z, z1⟩ | ⟨z, z1⟩)
      · subst z
        have : dynC 8 i = decide (7 ≤ i) := by simp [dynC]
        rw [this] at d
        simp only [decide_eq_false_iff_not] at d
        omega
      · subst z
        have : dynC 9 i = decide (3 ≤ i) := by simp [dynC]
        rw [this] at d
        simp only [decide_eq_false_iff_not] at d
        omega
      · subst z
        have : dynC 10 i = decide (6 ≤ i) := by simp [dynC]
        rw [this] at d
        simp only [decide_eq_false_iff_not] at d
        omega
/-- behind the told things all is at rest anyway -/
theorem RL.rst {n : Int} {A B : AMem} (h : RL n A B) (t : Int) (t0 : (B 14408 0 (4)) ≤ t) (t1 : t < 48) : (A 8 (t) 7) = 0 ∧ (A 8 (t) 8) = 0 ∧ (A 8 (t) 9) = 0 ∧ (A 8 (t) 11) = 0 ∧ (A 8 (t) 10) = 0 := by
  have hm := h.mB
  have m4 : 0 ≤ (B 14408 0 (4)) ∧ (B 14408 0 (4)) ≤ 48 := by unfold MB at hm; omega
  have c : cq B t 400 = 0 := by
    rw [cq_cnt]
    exact cnt_0 400 (fun j hj => by
      have s := h.slot j (by omega) (by omega)
      simp only [decide_eq_false_iff_not]
      rintro ⟨a, b⟩
      have := s.2.2 a
      omega)
  have w : (A 8 (t) 8) = 0 := by
    by_cases z : (A 8 (t) 8) = 0
    · exact z
    · obtain ⟨q, q0, q1, q2⟩ := (h.wa t (by omega) t1).1.mp z
      have := (h.slot q q0.1 q0.2).2.2 (by omega)
      omega
  refine ⟨by rw [(h.rq t (by omega) t1).1, c], w, (h.wa t (by omega) t1).2 w, ?_, ?_⟩
  · by_cases z : (A 8 (t) 11) = 0
    · exact z
    · obtain ⟨q, q0, q1, q2⟩ := (h.hi t (by omega) t1).mp z
      have := (h.slot q q0.1 q0.2).2.2 (by have := (h.sb.hi q q0.1 q0.2 q1).1; omega)
      omega
  · rw [(h.st t (by omega) t1).1]
    exact (h.st t (by omega) t1).2 (Or.inl t0)
theorem RL.hrst {n : Int} {A B : AMem} (h : RL n A B) (w : Int) (w0 : 0 ≤ w) (w1 : w < 65) (c : ¬ ((0 ≤ w ∧ w < (B 14408 0 (4))) ∨ (48 ≤ w ∧ w < 48 + (B 14408 0 (5))))) : (A 8 (w) 14) = 0 := by
  have hc := h.hc w w0 w1
  by_cases z : (A 8 (w) 14) = 0
  · exact z
  · exfalso
    have hm := h.mB
    have m4 : (0 ≤ (B 14408 0 (4)) ∧ (B 14408 0 (4)) ≤ 48) ∧ (0 ≤ (B 14408 0 (5)) ∧ (B 14408 0 (5)) ≤ 16) := by unfold MB at hm; omega
    obtain ⟨a, b, d⟩ := h.hd w 0 w0 w1 (by omega) (by omega)
    rcases h.sb.hv _ a.1 a.2 with e | ⟨_, _, g⟩
    · exact b e
    · unfold own at d
      rcases g with ⟨g1, g2, g3⟩ | ⟨g1, g2, g3⟩
      · rw [if_pos (by omega)] at d
        have := h.slot _ (show 0 ≤ (B 65639 0 ((A 65587 w (0)))) - 1 by omega) (by omega)
        have := this.2.2 (by omega)
        omega
      · rw [if_neg (by omega)] at d
        omega
set_option maxHeartbeats 1000000 in
theorem rl_off {n : Int} {A B : AMem} (h : RL n A B) : RL n (kgo A) (gof B) := by
  have hm := h.mB
  have m4 : (0 ≤ (B 14408 0 (4)) ∧ (B 14408 0 (4)) ≤ 48) ∧ (0 ≤ (B 14408 0 (5)) ∧ (B 14408 0 (5)) ≤ 16) ∧ (0 ≤ (B 14408 0 (3)) ∧ (B 14408 0 (3)) ≤ 16) ∧ (0 ≤ (B 14408 0 (6)) ∧ (B 14408 0 (6)) ≤ 48) := by unfold MB at hm; omega
  have fc := kgo_fr h
  have fr : frR B (gof B) := gof_fr
  have er : rn (gof B) = -1 := rn_0 (fun x x0 x1 => by rw [gof_st x x0 x1]; omega)
  have k8 : ∀ w i : Int, kgo A 8 w i = if ((0 ≤ w ∧ w < (B 14408 0 (4))) ∨ (48 ≤ w ∧ w < 48 + (B 14408 0 (5)))) ∧ 7 ≤ i ∧ i ≤ 14 ∧ ¬ i = 13 then 0 else A 8 w i := fun w i => by
    rw [kgo_eq h 8 w i (by decide) (by decide)]
    by_cases c : ((0 ≤ w ∧ w < (B 14408 0 (4))) ∨ (48 ≤ w ∧ w < 48 + (B 14408 0 (5)))) ∧ 7 ≤ i ∧ i ≤ 14 ∧ ¬ i = 13
    · rw [if_pos c, if_pos (Or.inl ⟨rfl, c⟩)]
    · rw [if_neg c, if_neg (by omega)]
  have z8 : ∀ t : Int, 0 ≤ t → t < 48 → ((kgo A) 8 (t) 7) = 0 ∧ ((kgo A) 8 (t) 8) = 0 ∧ ((kgo A) 8 (t) 9) = 0 ∧ ((kgo A) 8 (t) 11) = 0 ∧ ((kgo A) 8 (t) 10) = 0 := fun t t0 t1 => by
    rw [k8, k8, k8, k8, k8]
    by_cases c : t < (B 14408 0 (4))
    · rw [if_pos (by omega), if_pos (by omega), if_pos (by omega), if_pos (by omega), if_pos (by omega)]
      exact ⟨rfl, rfl, rfl, rfl, rfl⟩
    · rw [if_neg (by omega), if_neg (by omega), if_neg (by omega), if_neg (by omega), if_neg (by omega)]
      exact h.rst t (by omega) t1
  have zc : ∀ w : Int, 0 ≤ w → w < 65 → ((kgo A) 8 (w) 14) = 0 := fun w w0 w1 => by
    rw [k8]
    by_cases c : (0 ≤ w ∧ w < (B 14408 0 (4))) ∨ (48 ≤ w ∧ w < 48 + (B 14408 0 (5)))
    · rw [if_pos ⟨c, by omega⟩]
    · rw [if_neg (fun z => c z.1)]
      exact h.hrst w w0 w1 c
  have zw : ∀ c : Int, 0 ≤ c → c < 16 → ((kgo A) 9 (c) 5) = 0 := fun c c0 c1 => by
    rw [kgo_eq h 9 c 5 (by decide) (by decide)]
    by_cases d : c < (B 14408 0 (3))
    · rw [if_pos (by omega)]
    · rw [if_neg (by omega), ((h.wg c c0 c1).1).1]
      exact (h.wg c c0 c1).2 (by omega)
  have zi : ∀ a : Int, 0 ≤ a → a < 48 → ((kgo A) 10 (a) 6) = 0 := fun a a0 a1 => by
    rw [kgo_eq h 10 a 6 (by decide) (by decide)]
    by_cases d : a < (B 14408 0 (6))
    · rw [if_pos (by omega)]
    · rw [if_neg (by omega), ((h.au a a0 a1).1).1]
      exact (h.au a a0 a1).2 (by omega)
  have k6 := fun i => (kgo_6 h i).1
  have k7 := fun i => (kgo_6 h i).2
  have g11 : ∀ i, gof B 11 0 i = gf0 B 11 0 i := gof_11
  have s0 := h.sb
  have sb : SB (gof B) := by
    refine SB.mk (fun x x0 x1 => ?_) (fun x x0 x1 z => ?_) (fun x x0 x1 => ?_) (fun x x0 x1 z => ?_) (fun x x0 x1 z => ?_) (fun r r0 r1 => Or.inl (gof_hv r r0 r1)) (fun x p x0 x1 p0 p1 xp xs ps tt hl => ?_) (fun x x0 x1 z => ?_) ?_
    · rw [gof_st x x0 x1, gof_o (by decide) (by decide) (by decide) (by decide) (by decide) (by decide) (by decide) (by decide) (by decide)]
      exact ⟨by omega, (s0.rg x x0 x1).2.1, fun z => absurd rfl z⟩
    · rw [gof_st x x0 x1] at z; omega
    · rw [g11, gof_o (by decide) (by decide) (by decide) (by decide) (by decide) (by decide) (by decide) (by decide) (by decide)]
      unfold gf0
      simp only [mup_same, mu_ng, mu_ni, mu_xi, mu_xt, cq_fr, rn_fr, mrs_fr, inn_fr, cpr_fr, opr_fr, ldd_fr, own_fr, ne_eq, Nat.reduceEqDiff, not_false_eq_true, Int.reduceEq, ↓reduceIte]
      exact s0.ky x x0 x1
    · rw [gof_hi x x0 x1] at z; exact absurd rfl z
    · rw [gof_st x x0 x1] at z; omega
    · rw [gof_st x x0 x1] at xs; exact absurd rfl xs
    · rw [gof_st x x0 x1] at z; omega
    · rw [g11]; unfold gf0; simp only [mup_same, mu_ng, mu_ni, mu_xi, mu_xt, cq_fr, rn_fr, mrs_fr, inn_fr, cpr_fr, opr_fr, ldd_fr, own_fr, ne_eq, Nat.reduceEqDiff, not_false_eq_true, Int.reduceEq, ↓reduceIte]; exact s0.se
  refine RL.mk (h.pl.fr fc fr) sb ?_ ?_ ?_ ?_ ?_ ?_ ?_ ?_ ?_ ?_ ?_ ?_ ?_ ?_ ?_ ?_ ?_ ?_ ?_ ?_ ?_ ?_ ?_ ?_ ?_ ?_ ?_ ?_ ?_
  · rw [k6, k6, g11, g11]; simp only [mup_same, mu_ng, mu_ni, mu_xi, mu_xt, cq_fr, rn_fr, mrs_fr, inn_fr, cpr_fr, opr_fr, ldd_fr, own_fr, ne_eq, Nat.reduceEqDiff, not_false_eq_true, Int.reduceEq, ↓reduceIte, kg0, gf0]; exact ⟨trivial, trivial⟩
  · rw [k6, g11]; simp only [mup_same, mu_ng, mu_ni, mu_xi, mu_xt, cq_fr, rn_fr, mrs_fr, inn_fr, cpr_fr, opr_fr, ldd_fr, own_fr, ne_eq, Nat.reduceEqDiff, not_false_eq_true, Int.reduceEq, ↓reduceIte, kg0, gf0]; exact ⟨trivial, by omega, by omega⟩
  · rw [k6, g11, g11]; simp only [mup_same, mu_ng, mu_ni, mu_xi, mu_xt, cq_fr, rn_fr, mrs_fr, inn_fr, cpr_fr, opr_fr, ldd_fr, own_fr, ne_eq, Nat.reduceEqDiff, not_false_eq_true, Int.reduceEq, ↓reduceIte, kg0, gf0]; exact h.no
  · intro i i0 i1
    rw [kgo_o h _ _ (by decide) (by decide) (by decide) (by decide) (by decide), gof_o (by decide) (by decide) (by decide) (by decide) (by decide) (by decide) (by decide) (by decide) (by decide)]
    exact h.na i i0 i1
  · rw [k6, k6, g11, g11]; simp only [mup_same, mu_ng, mu_ni, mu_xi, mu_xt, cq_fr, rn_fr, mrs_fr, inn_fr, cpr_fr, opr_fr, ldd_fr, own_fr, ne_eq, Nat.reduceEqDiff, not_false_eq_true, Int.reduceEq, ↓reduceIte, kg0, gf0]; exact h.bt
  · rw [er, k6]; simp only [mup_same, mu_ng, mu_ni, mu_xi, mu_xt, cq_fr, rn_fr, mrs_fr, inn_fr, cpr_fr, opr_fr, ldd_fr, own_fr, ne_eq, Nat.reduceEqDiff, not_false_eq_true, Int.reduceEq, ↓reduceIte, kg0]
  · intro t t0 t1
    rw [(z8 t t0 t1).1, cq_cnt, cnt_0 400 (fun j hj => by
      simp only [decide_eq_false_iff_not]
      rintro ⟨a, b⟩
      exact a (gof_st j (by omega) (by omega)))]
    refine ⟨rfl, fun z => ?_⟩
    rw [fr 14408 0 4 rfl] at z
    rw [fr 98387 0 t rfl]
    have := h.pl.lm t t0 z
    omega
  · intro t t0 t1
    rw [(z8 t t0 t1).2.1, (z8 t t0 t1).2.2.1]
    refine ⟨⟨fun z => absurd rfl z, ?_⟩, fun _ => rfl⟩
    rintro ⟨q, q0, q1, _⟩
    rw [gof_st q q0.1 q0.2] at q1
    omega
  · intro q q0 q1 z
    rw [gof_st q q0 q1] at z
    omega
  · intro t t0 t1
    rw [(z8 t t0 t1).2.2.2.1]
    refine ⟨fun z => absurd rfl z, ?_⟩
    rintro ⟨q, q0, q1, _⟩
    rw [gof_hi q q0.1 q0.2] at q1
    exact absurd rfl q1
  · intro w w0 w1
    have x := h.hx w w0 w1
    rw [k8, k8]
    by_cases c : 48 ≤ w ∧ w < 48 + (B 14408 0 (5))
    · rw [if_pos (by omega), if_pos (by omega)]
      exact ⟨rfl, rfl⟩
    · rw [if_neg (by omega), if_neg (by omega)]
      exact x
  · intro w w0 w1
    rw [zc w w0 w1]
    omega
  · intro w i w0 w1 i0 i1
    rw [zc w w0 w1] at i1
    omega
  · intro w i j w0 w1 i0 ij j1
    rw [zc w w0 w1] at j1
    omega
  · intro r r0 r1 z
    rw [gof_hv r r0 r1] at z
    exact absurd rfl z
  · rw [k6, g11]; simp only [mup_same, mu_ng, mu_ni, mu_xi, mu_xt, cq_fr, rn_fr, mrs_fr, inn_fr, cpr_fr, opr_fr, ldd_fr, own_fr, ne_eq, Nat.reduceEqDiff, not_false_eq_true, Int.reduceEq, ↓reduceIte, kg0, gf0]; exact ⟨trivial, by omega⟩
  · intro p p0 p1
    have p1 : p < 0 := by revert p1; rw [g11]; simp only [mup_same, mu_ng, mu_ni, mu_xi, mu_xt, cq_fr, rn_fr, mrs_fr, inn_fr, cpr_fr, opr_fr, ldd_fr, own_fr, ne_eq, Nat.reduceEqDiff, not_false_eq_true, Int.reduceEq, ↓reduceIte, gf0]; exact fun z => z
    omega
  · intro p p0 p1
    have p1 : p + 1 < 0 := by revert p1; rw [g11]; simp only [mup_same, mu_ng, mu_ni, mu_xi, mu_xt, cq_fr, rn_fr, mrs_fr, inn_fr, cpr_fr, opr_fr, ldd_fr, own_fr, ne_eq, Nat.reduceEqDiff, not_false_eq_true, Int.reduceEq, ↓reduceIte, gf0]; exact fun z => z
    omega
  · intro i i0 i1
    exact Or.inl (gof_bg i i0 i1)
  · intro i i0 i1
    rw [gof_ca i i0 i1, k8]
    refine ⟨?_, fun _ => rfl⟩
    by_cases c : i < (B 14408 0 (5))
    · rw [if_pos (by omega)]
    · rw [if_neg (by omega), (h.ca i i0 i1).1]
      exact (h.ca i i0 i1).2 (by omega)
  · intro t t0 t1
    rw [(z8 t t0 t1).2.2.2.2, gof_se t t0 t1]
    exact ⟨rfl, fun _ => rfl⟩
  · intro c c0 c1
    rw [fr 14408 0 3 rfl] at c1
    have x := h.co c c0 c1
    rw [kgo_eq h 9 c 3 (by decide) (by decide), kgo_eq h 9 c 4 (by decide) (by decide), if_neg (by omega), if_neg (by omega), fr 32846 0 c rfl, fr 32847 0 c rfl, gof_o (by decide) (by decide) (by decide) (by decide) (by decide) (by decide) (by decide) (by decide) (by decide), gof_o (by decide) (by decide) (by decide) (by decide) (by decide) (by decide) (by decide) (by decide) (by decide)]
    exact x
  · have x := h.ko
    unfold CO at x ⊢
    refine ⟨fun a a0 a1 => ?_, fun c c0 c1 => ?_⟩
    · rw [fr 98393 0 a rfl]; exact x.1 a a0 a1
    · rw [fr 32846 0 c rfl, gof_o (by decide) (by decide) (by decide) (by decide) (by decide) (by decide) (by decide) (by decide) (by decide)]; exact x.2 c c0 c1
  · intro c c0 c1
    rw [zw c c0 c1, gof_wg c c0 c1]
    exact ⟨⟨rfl, by omega, by omega⟩, fun _ => rfl⟩
  · intro a a0 a1
    rw [zi a a0 a1, gof_iu a a0 a1]
    exact ⟨⟨rfl, Or.inl rfl⟩, fun _ => rfl⟩
  · intro a a0 a1 z
    rw [fr 14408 0 6 rfl] at a1
    rw [gof_iu a a0 (by omega)] at z
    exact absurd rfl z
  · intro a a0 a1
    rw [kgo_eq h 10 a 8 (by decide) (by decide), if_neg (by omega), gof_o (by decide) (by decide) (by decide) (by decide) (by decide) (by decide) (by decide) (by decide) (by decide)]
    exact h.ee a a0 a1
  · intro _
    refine ⟨gof_st, ?_, ?_, gof_ca, gof_wg, gof_iu, gof_se, gof_hv⟩
    · rw [g11]; simp only [mup_same, mu_ng, mu_ni, mu_xi, mu_xt, cq_fr, rn_fr, mrs_fr, inn_fr, cpr_fr, opr_fr, ldd_fr, own_fr, ne_eq, Nat.reduceEqDiff, not_false_eq_true, Int.reduceEq, ↓reduceIte, gf0]
    · rw [g11]; simp only [mup_same, mu_ng, mu_ni, mu_xi, mu_xt, cq_fr, rn_fr, mrs_fr, inn_fr, cpr_fr, opr_fr, ldd_fr, own_fr, ne_eq, Nat.reduceEqDiff, not_false_eq_true, Int.reduceEq, ↓reduceIte, gf0]
  · have z : ((kgo A) 7 0 2) = 0 := by rw [k7]; simp only [mup_same, mu_ng, mu_ni, mu_xi, mu_xt, cq_fr, rn_fr, mrs_fr, inn_fr, cpr_fr, opr_fr, ldd_fr, own_fr, ne_eq, Nat.reduceEqDiff, not_false_eq_true, Int.reduceEq, ↓reduceIte, kg0]
    rw [z]
    refine ⟨fun _ => 0, by omega, fun i a b => by omega, fun i j a b c => by omega, fun q q0 q1 qs => ?_⟩
    have qs : ((gof B) 819298 0 (q)) = 1 := qs
    rw [gof_st q q0 q1] at qs
    omega
