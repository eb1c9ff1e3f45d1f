/-! ===== readings that may throw, in one memory (by program: wip/whole/gen/mk93.py) ===== -/
theorem rl_th1 {n : Int} {A B : AMem} (h : RL n A B) : RL n A (mup (th B) 11 0 0 (1)) := by
  have e : (mup (th B) 11 0 0 (1)) = (mup B 11 0 0 (1)) := by unfold th; rw [mu_2]
  rw [e]
  have fr : frR B (mup B 11 0 0 (1)) := frR.up rfl (frR.rf B)
  have sb : SB (mup B 11 0 0 (1)) := by unfold SB; simp only [mup_same, mu_ng, mu_ni, mu_xi, mu_xt, cq_fr, rn_fr, mrs_fr, inn_fr, cpr_fr, opr_fr, ldd_fr, own_fr, ne_eq, Nat.reduceEqDiff, not_false_eq_true, Int.reduceEq, ↓reduceIte]; exact h.sb
  refine RL.mk (h.pl.fr (frC.rf A) fr) sb ?_ ?_ ?_ ?_ ?_ ?_ ?_ ?_ ?_ ?_ ?_ ?_ ?_ ?_ ?_ ?_ ?_ ?_ ?_ ?_ ?_ ?_ ?_ ?_ ?_ ?_ ?_ ?_ ?_
  · simp only [mup_same, mu_ng, mu_ni, mu_xi, mu_xt, cq_fr, rn_fr, mrs_fr, inn_fr, cpr_fr, opr_fr, ldd_fr, own_fr, ne_eq, Nat.reduceEqDiff, not_false_eq_true, Int.reduceEq, ↓reduceIte]; exact h.on
  · simp only [mup_same, mu_ng, mu_ni, mu_xi, mu_xt, cq_fr, rn_fr, mrs_fr, inn_fr, cpr_fr, opr_fr, ldd_fr, own_fr, ne_eq, Nat.reduceEqDiff, not_false_eq_true, Int.reduceEq, ↓reduceIte]; exact h.sh
  · simp only [mup_same, mu_ng, mu_ni, mu_xi, mu_xt, cq_fr, rn_fr, mrs_fr, inn_fr, cpr_fr, opr_fr, ldd_fr, own_fr, ne_eq, Nat.reduceEqDiff, not_false_eq_true, Int.reduceEq, ↓reduceIte]; exact h.no
  · simp only [mup_same, mu_ng, mu_ni, mu_xi, mu_xt, cq_fr, rn_fr, mrs_fr, inn_fr, cpr_fr, opr_fr, ldd_fr, own_fr, ne_eq, Nat.reduceEqDiff, not_false_eq_true, Int.reduceEq, ↓reduceIte]; exact h.na
  · simp only [mup_same, mu_ng, mu_ni, mu_xi, mu_xt, cq_fr, rn_fr, mrs_fr, inn_fr, cpr_fr, opr_fr, ldd_fr, own_fr, ne_eq, Nat.reduceEqDiff, not_false_eq_true, Int.reduceEq, ↓reduceIte]; exact h.bt
  · simp only [mup_same, mu_ng, mu_ni, mu_xi, mu_xt, cq_fr, rn_fr, mrs_fr, inn_fr, cpr_fr, opr_fr, ldd_fr, own_fr, ne_eq, Nat.reduceEqDiff, not_false_eq_true, Int.reduceEq, ↓reduceIte]; exact h.cu
  · simp only [mup_same, mu_ng, mu_ni, mu_xi, mu_xt, cq_fr, rn_fr, mrs_fr, inn_fr, cpr_fr, opr_fr, ldd_fr, own_fr, ne_eq, Nat.reduceEqDiff, not_false_eq_true, Int.reduceEq, ↓reduceIte]; exact h.rq
  · simp only [mup_same, mu_ng, mu_ni, mu_xi, mu_xt, cq_fr, rn_fr, mrs_fr, inn_fr, cpr_fr, opr_fr, ldd_fr, own_fr, ne_eq, Nat.reduceEqDiff, not_false_eq_true, Int.reduceEq, ↓reduceIte]; exact h.wa
  · simp only [mup_same, mu_ng, mu_ni, mu_xi, mu_xt, cq_fr, rn_fr, mrs_fr, inn_fr, cpr_fr, opr_fr, ldd_fr, own_fr, ne_eq, Nat.reduceEqDiff, not_false_eq_true, Int.reduceEq, ↓reduceIte]; exact h.wf
  · simp only [mup_same, mu_ng, mu_ni, mu_xi, mu_xt, cq_fr, rn_fr, mrs_fr, inn_fr, cpr_fr, opr_fr, ldd_fr, own_fr, ne_eq, Nat.reduceEqDiff, not_false_eq_true, Int.reduceEq, ↓reduceIte]; exact h.hi
  · exact h.hx
  · exact h.hc
  · simp only [mup_same, mu_ng, mu_ni, mu_xi, mu_xt, cq_fr, rn_fr, mrs_fr, inn_fr, cpr_fr, opr_fr, ldd_fr, own_fr, ne_eq, Nat.reduceEqDiff, not_false_eq_true, Int.reduceEq, ↓reduceIte]; exact h.hd
  · simp only [mup_same, mu_ng, mu_ni, mu_xi, mu_xt, cq_fr, rn_fr, mrs_fr, inn_fr, cpr_fr, opr_fr, ldd_fr, own_fr, ne_eq, Nat.reduceEqDiff, not_false_eq_true, Int.reduceEq, ↓reduceIte]; exact h.hs
  · simp only [mup_same, mu_ng, mu_ni, mu_xi, mu_xt, cq_fr, rn_fr, mrs_fr, inn_fr, cpr_fr, opr_fr, ldd_fr, own_fr, ne_eq, Nat.reduceEqDiff, not_false_eq_true, Int.reduceEq, ↓reduceIte]; exact h.ho
  · simp only [mup_same, mu_ng, mu_ni, mu_xi, mu_xt, cq_fr, rn_fr, mrs_fr, inn_fr, cpr_fr, opr_fr, ldd_fr, own_fr, ne_eq, Nat.reduceEqDiff, not_false_eq_true, Int.reduceEq, ↓reduceIte]; exact h.bc
  · simp only [mup_same, mu_ng, mu_ni, mu_xi, mu_xt, cq_fr, rn_fr, mrs_fr, inn_fr, cpr_fr, opr_fr, ldd_fr, own_fr, ne_eq, Nat.reduceEqDiff, not_false_eq_true, Int.reduceEq, ↓reduceIte]; exact h.bg
  · simp only [mup_same, mu_ng, mu_ni, mu_xi, mu_xt, cq_fr, rn_fr, mrs_fr, inn_fr, cpr_fr, opr_fr, ldd_fr, own_fr, ne_eq, Nat.reduceEqDiff, not_false_eq_true, Int.reduceEq, ↓reduceIte]; exact h.bo
  · simp only [mup_same, mu_ng, mu_ni, mu_xi, mu_xt, cq_fr, rn_fr, mrs_fr, inn_fr, cpr_fr, opr_fr, ldd_fr, own_fr, ne_eq, Nat.reduceEqDiff, not_false_eq_true, Int.reduceEq, ↓reduceIte]; exact h.bi
  · simp only [mup_same, mu_ng, mu_ni, mu_xi, mu_xt, cq_fr, rn_fr, mrs_fr, inn_fr, cpr_fr, opr_fr, ldd_fr, own_fr, ne_eq, Nat.reduceEqDiff, not_false_eq_true, Int.reduceEq, ↓reduceIte]; exact h.ca
  · simp only [mup_same, mu_ng, mu_ni, mu_xi, mu_xt, cq_fr, rn_fr, mrs_fr, inn_fr, cpr_fr, opr_fr, ldd_fr, own_fr, ne_eq, Nat.reduceEqDiff, not_false_eq_true, Int.reduceEq, ↓reduceIte]; exact h.st
  · simp only [mup_same, mu_ng, mu_ni, mu_xi, mu_xt, cq_fr, rn_fr, mrs_fr, inn_fr, cpr_fr, opr_fr, ldd_fr, own_fr, ne_eq, Nat.reduceEqDiff, not_false_eq_true, Int.reduceEq, ↓reduceIte]; exact h.co
  · unfold CO; simp only [mup_same, mu_ng, mu_ni, mu_xi, mu_xt, cq_fr, rn_fr, mrs_fr, inn_fr, cpr_fr, opr_fr, ldd_fr, own_fr, ne_eq, Nat.reduceEqDiff, not_false_eq_true, Int.reduceEq, ↓reduceIte]; exact h.ko
  · simp only [mup_same, mu_ng, mu_ni, mu_xi, mu_xt, cq_fr, rn_fr, mrs_fr, inn_fr, cpr_fr, opr_fr, ldd_fr, own_fr, ne_eq, Nat.reduceEqDiff, not_false_eq_true, Int.reduceEq, ↓reduceIte]; exact h.wg
  · simp only [mup_same, mu_ng, mu_ni, mu_xi, mu_xt, cq_fr, rn_fr, mrs_fr, inn_fr, cpr_fr, opr_fr, ldd_fr, own_fr, ne_eq, Nat.reduceEqDiff, not_false_eq_true, Int.reduceEq, ↓reduceIte]; exact h.au
  · simp only [mup_same, mu_ng, mu_ni, mu_xi, mu_xt, cq_fr, rn_fr, mrs_fr, inn_fr, cpr_fr, opr_fr, ldd_fr, own_fr, ne_eq, Nat.reduceEqDiff, not_false_eq_true, Int.reduceEq, ↓reduceIte]; exact h.ad
  · simp only [mup_same, mu_ng, mu_ni, mu_xi, mu_xt, cq_fr, rn_fr, mrs_fr, inn_fr, cpr_fr, opr_fr, ldd_fr, own_fr, ne_eq, Nat.reduceEqDiff, not_false_eq_true, Int.reduceEq, ↓reduceIte]; exact h.ee
  · simp only [mup_same, mu_ng, mu_ni, mu_xi, mu_xt, cq_fr, rn_fr, mrs_fr, inn_fr, cpr_fr, opr_fr, ldd_fr, own_fr, ne_eq, Nat.reduceEqDiff, not_false_eq_true, Int.reduceEq, ↓reduceIte]; exact h.of
  · simp only [mup_same, mu_ng, mu_ni, mu_xi, mu_xt, cq_fr, rn_fr, mrs_fr, inn_fr, cpr_fr, opr_fr, ldd_fr, own_fr, ne_eq, Nat.reduceEqDiff, not_false_eq_true, Int.reduceEq, ↓reduceIte]; exact h.rx
theorem inv_th {n : Int} {M : AMem} (h : INV n M M) : INV n (th M) (th M) := by
  have e2 : jn M (th M) = th M := by
    have e : th (jn M M) = jn M (th M) := by simp only [th_j]
    rw [← e, jn_self]
  rw [← e2, INV_jn]
  exact h.go (rl_th h.1) h.2.1 (frC.rf M) (g_th (frR.rf M)) (o_th (frO.rf M))
theorem inv_th1 {n : Int} {M : AMem} (h : INV n M M) : INV n (mup (th M) 11 0 0 (1)) (mup (th M) 11 0 0 (1)) := by
  have e2 : jn M (mup (th M) 11 0 0 (1)) = (mup (th M) 11 0 0 (1)) := by
    have e : (mup (th (jn M M)) 11 0 0 (1)) = jn M (mup (th M) 11 0 0 (1)) := by simp only [th_j, mr_11]
    rw [← e, jn_self]
  rw [← e2, INV_jn]
  exact h.go (rl_th1 h.1) h.2.1 (frC.rf M) (frR.up rfl (g_th (frR.rf M))) (frO.up rfl (o_th (frO.rf M)))
set_option maxHeartbeats 1000000 in
theorem x_task {n : Int} {M : AMem} (h : INV n M M) (hn : n + 4000000 < 2146000000) (t : Int) (w : Int) : ((0 ≤ t ∧ t < (M 14370 0 (4))) ∧ ∃ v : Int, Runs 283 [aR 1 0, aI t, aI w] M (fun r M' => r = some (aI v) ∧ M' = M) ∧ Runs 102 [aR 11 0, aI t, aI w] M (fun r M' => r = some (aI v) ∧ M' = th M)) ∨ (¬ (0 ≤ t ∧ t < (M 14370 0 (4))) ∧ ∃ v : Int, Runs 102 [aR 11 0, aI t, aI w] M (fun r M' => r = some (aI v) ∧ M' = (mup (th M) 11 0 0 (1)))) := by
  have rl := h.1
  have rt := rl_th rl
  have hm := rt.mB
  have mb : (0 ≤ ((th M) 14408 0 (4)) ∧ ((th M) 14408 0 (4)) ≤ 48) ∧ (0 ≤ ((th M) 14408 0 (5)) ∧ ((th M) 14408 0 (5)) ≤ 16) ∧ (0 ≤ ((th M) 14408 0 (3)) ∧ ((th M) 14408 0 (3)) ≤ 16) ∧ (0 ≤ ((th M) 14408 0 (6)) ∧ ((th M) 14408 0 (6)) ≤ 48) := by unfold MB at hm; omega
  have ce : (0 ≤ t ∧ t < (M 14370 0 (4))) ↔ (0 ≤ t ∧ t < ((th M) 14408 0 (4))) := by rw [rt.pl.t4]
  have r := R_task t w M (th M) rfl rt.mB rt.wT
  unfold thx at r
  by_cases c : 0 ≤ t ∧ t < (M 14370 0 (4))
  · have c2 := ce.mp c
    rw [if_pos c2, if_pos c2] at r
    have k := R_K_task t w M (rl.cB (by omega)) c
    rw [v_task rt t w c2.1 c2.2] at k
    exact Or.inl ⟨c, _, k, r⟩
  · have c2 := fun z => c (ce.mpr z)
    rw [if_neg c2, if_neg c2] at r
    exact Or.inr ⟨c, _, r⟩
set_option maxHeartbeats 1000000 in
theorem x_bits {n : Int} {M : AMem} (h : INV n M M) (hn : n + 4000000 < 2146000000) (t : Int) (w : Int) : ((0 ≤ t ∧ t < (M 14370 0 (4))) ∧ ∃ v : Int, Runs 285 [aR 1 0, aI t, aI w] M (fun r M' => r = some (aL v) ∧ M' = M) ∧ Runs 105 [aR 11 0, aI t, aI w] M (fun r M' => r = some (aL v) ∧ M' = th M)) ∨ (¬ (0 ≤ t ∧ t < (M 14370 0 (4))) ∧ ∃ v : Int, Runs 105 [aR 11 0, aI t, aI w] M (fun r M' => r = some (aL v) ∧ M' = (mup (th M) 11 0 0 (1)))) := by
  have rl := h.1
  have rt := rl_th rl
  have hm := rt.mB
  have mb : (0 ≤ ((th M) 14408 0 (4)) ∧ ((th M) 14408 0 (4)) ≤ 48) ∧ (0 ≤ ((th M) 14408 0 (5)) ∧ ((th M) 14408 0 (5)) ≤ 16) ∧ (0 ≤ ((th M) 14408 0 (3)) ∧ ((th M) 14408 0 (3)) ≤ 16) ∧ (0 ≤ ((th M) 14408 0 (6)) ∧ ((th M) 14408 0 (6)) ≤ 48) := by unfold MB at hm; omega
  have ce : (0 ≤ t ∧ t < (M 14370 0 (4))) ↔ (0 ≤ t ∧ t < ((th M) 14408 0 (4))) := by rw [rt.pl.t4]
  have r := R_bits t w M (th M) rfl rt.mB
  unfold thx at r
  by_cases c : 0 ≤ t ∧ t < (M 14370 0 (4))
  · have c2 := ce.mp c
    rw [if_pos c2, if_pos c2] at r
    have k := R_K_bits t w M (rl.cB (by omega)) c
    rw [v_bits rt t w c2.1 c2.2] at k
    exact Or.inl ⟨c, _, k, r⟩
  · have c2 := fun z => c (ce.mpr z)
    rw [if_neg c2, if_neg c2] at r
    exact Or.inr ⟨c, _, r⟩
set_option maxHeartbeats 1000000 in
theorem x_resource {n : Int} {M : AMem} (h : INV n M M) (hn : n + 4000000 < 2146000000) (rr : Int) (w : Int) : ((0 ≤ rr ∧ rr < (M 14370 0 (2))) ∧ ∃ v : Int, Runs 286 [aR 1 0, aI rr, aI w] M (fun r M' => r = some (aI v) ∧ M' = M) ∧ Runs 106 [aR 11 0, aI rr, aI w] M (fun r M' => r = some (aI v) ∧ M' = th M)) ∨ (¬ (0 ≤ rr ∧ rr < (M 14370 0 (2))) ∧ ∃ v : Int, Runs 106 [aR 11 0, aI rr, aI w] M (fun r M' => r = some (aI v) ∧ M' = (mup (th M) 11 0 0 (1)))) := by
  have rl := h.1
  have rt := rl_th rl
  have hm := rt.mB
  have mb : (0 ≤ ((th M) 14408 0 (4)) ∧ ((th M) 14408 0 (4)) ≤ 48) ∧ (0 ≤ ((th M) 14408 0 (5)) ∧ ((th M) 14408 0 (5)) ≤ 16) ∧ (0 ≤ ((th M) 14408 0 (3)) ∧ ((th M) 14408 0 (3)) ≤ 16) ∧ (0 ≤ ((th M) 14408 0 (6)) ∧ ((th M) 14408 0 (6)) ≤ 48) := by unfold MB at hm; omega
  have hh : ∀ x : Int, 0 ≤ x → x < 32 → ((th M) 65639 0 (x)) = 0 ∨ (1 ≤ ((th M) 65639 0 (x)) ∧ ((th M) 65639 0 (x)) ≤ 400) ∨ (1000 ≤ ((th M) 65639 0 (x)) ∧ ((th M) 65639 0 (x)) < 1016) := fun x x0 x1 => by
    rcases rt.sb.hv x x0 x1 with z | ⟨_, _, z | z⟩
    · exact Or.inl z
    · exact Or.inr (Or.inl ⟨z.1, z.2.1⟩)
    · exact Or.inr (Or.inr ⟨z.1, by omega⟩)
  have ce : (0 ≤ rr ∧ rr < (M 14370 0 (2))) ↔ (0 ≤ rr ∧ rr < mrs (th M)) := by rw [rt.pl.t2]
  have r := R_resource rr w M (th M) rfl rt.mB rt.wT hh
  unfold thx at r
  by_cases c : 0 ≤ rr ∧ rr < (M 14370 0 (2))
  · have c2 := ce.mp c
    rw [if_pos c2, if_pos c2] at r
    have k := R_K_resource rr w M (rl.cB (by omega)) c
    rw [v_resource rt rr w c2.1 c2.2] at k
    exact Or.inl ⟨c, _, k, r⟩
  · have c2 := fun z => c (ce.mpr z)
    rw [if_neg c2, if_neg c2] at r
    exact Or.inr ⟨c, _, r⟩
set_option maxHeartbeats 1000000 in
theorem x_isr {n : Int} {M : AMem} (h : INV n M M) (hn : n + 4000000 < 2146000000) (i : Int) (w : Int) : ((0 ≤ i ∧ i < (M 14370 0 (5))) ∧ ∃ v : Int, Runs 287 [aR 1 0, aI i, aI w] M (fun r M' => r = some (aI v) ∧ M' = M) ∧ Runs 108 [aR 11 0, aI i, aI w] M (fun r M' => r = some (aI v) ∧ M' = th M)) ∨ (¬ (0 ≤ i ∧ i < (M 14370 0 (5))) ∧ ∃ v : Int, Runs 108 [aR 11 0, aI i, aI w] M (fun r M' => r = some (aI v) ∧ M' = (mup (th M) 11 0 0 (1)))) := by
  have rl := h.1
  have rt := rl_th rl
  have hm := rt.mB
  have mb : (0 ≤ ((th M) 14408 0 (4)) ∧ ((th M) 14408 0 (4)) ≤ 48) ∧ (0 ≤ ((th M) 14408 0 (5)) ∧ ((th M) 14408 0 (5)) ≤ 16) ∧ (0 ≤ ((th M) 14408 0 (3)) ∧ ((th M) 14408 0 (3)) ≤ 16) ∧ (0 ≤ ((th M) 14408 0 (6)) ∧ ((th M) 14408 0 (6)) ≤ 48) := by unfold MB at hm; omega
  have ce : (0 ≤ i ∧ i < (M 14370 0 (5))) ↔ (0 ≤ i ∧ i < ((th M) 14408 0 (5))) := by rw [rt.pl.t5]
  have r := R_isr i w M (th M) rfl rt.mB
  unfold thx at r
  by_cases c : 0 ≤ i ∧ i < (M 14370 0 (5))
  · have c2 := ce.mp c
    rw [if_pos c2, if_pos c2] at r
    have k := R_K_isr i w M (rl.cB (by omega)) c
    rw [v_isr rt i w c2.1 c2.2] at k
    exact Or.inl ⟨c, _, k, r⟩
  · have c2 := fun z => c (ce.mpr z)
    rw [if_neg c2, if_neg c2] at r
    exact Or.inr ⟨c, _, r⟩
set_option maxHeartbeats 1000000 in
theorem x_counter {n : Int} {M : AMem} (h : INV n M M) (hn : n + 4000000 < 2146000000) (c9 : Int) (w : Int) : ((0 ≤ c9 ∧ c9 < (M 14370 0 (3))) ∧ ∃ v : Int, Runs 289 [aR 1 0, aI c9, aI w] M (fun r M' => r = some (aI v) ∧ M' = M) ∧ Runs 109 [aR 11 0, aI c9, aI w] M (fun r M' => r = some (aI v) ∧ M' = th M)) ∨ (¬ (0 ≤ c9 ∧ c9 < (M 14370 0 (3))) ∧ ∃ v : Int, Runs 109 [aR 11 0, aI c9, aI w] M (fun r M' => r = some (aI v) ∧ M' = (mup (th M) 11 0 0 (1)))) := by
  have rl := h.1
  have rt := rl_th rl
  have hm := rt.mB
  have mb : (0 ≤ ((th M) 14408 0 (4)) ∧ ((th M) 14408 0 (4)) ≤ 48) ∧ (0 ≤ ((th M) 14408 0 (5)) ∧ ((th M) 14408 0 (5)) ≤ 16) ∧ (0 ≤ ((th M) 14408 0 (3)) ∧ ((th M) 14408 0 (3)) ≤ 16) ∧ (0 ≤ ((th M) 14408 0 (6)) ∧ ((th M) 14408 0 (6)) ≤ 48) := by unfold MB at hm; omega
  have ce : (0 ≤ c9 ∧ c9 < (M 14370 0 (3))) ↔ (0 ≤ c9 ∧ c9 < ((th M) 14408 0 (3))) := by rw [rt.pl.t3]
  have r := R_counter c9 w M (th M) rfl rt.mB
  unfold thx at r
  by_cases c : 0 ≤ c9 ∧ c9 < (M 14370 0 (3))
  · have c2 := ce.mp c
    rw [if_pos c2, if_pos c2] at r
    have k := R_K_counter c9 w M (rl.cB (by omega)) c
    rw [v_counter rt c9 w c2.1 c2.2] at k
    exact Or.inl ⟨c, _, k, r⟩
  · have c2 := fun z => c (ce.mpr z)
    rw [if_neg c2, if_neg c2] at r
    exact Or.inr ⟨c, _, r⟩
set_option maxHeartbeats 1000000 in
theorem x_alarm {n : Int} {M : AMem} (h : INV n M M) (hn : n + 4000000 < 2146000000) (a : Int) (w : Int) : ((0 ≤ a ∧ a < (M 14370 0 (6))) ∧ ∃ v : Int, Runs 290 [aR 1 0, aI a, aI w] M (fun r M' => r = some (aI v) ∧ M' = M) ∧ Runs 110 [aR 11 0, aI a, aI w] M (fun r M' => r = some (aI v) ∧ M' = th M)) ∨ (¬ (0 ≤ a ∧ a < (M 14370 0 (6))) ∧ ∃ v : Int, Runs 110 [aR 11 0, aI a, aI w] M (fun r M' => r = some (aI v) ∧ M' = (mup (th M) 11 0 0 (1)))) := by
  have rl := h.1
  have rt := rl_th rl
  have hm := rt.mB
  have mb : (0 ≤ ((th M) 14408 0 (4)) ∧ ((th M) 14408 0 (4)) ≤ 48) ∧ (0 ≤ ((th M) 14408 0 (5)) ∧ ((th M) 14408 0 (5)) ≤ 16) ∧ (0 ≤ ((th M) 14408 0 (3)) ∧ ((th M) 14408 0 (3)) ≤ 16) ∧ (0 ≤ ((th M) 14408 0 (6)) ∧ ((th M) 14408 0 (6)) ≤ 48) := by unfold MB at hm; omega
  have ce : (0 ≤ a ∧ a < (M 14370 0 (6))) ↔ (0 ≤ a ∧ a < ((th M) 14408 0 (6))) := by rw [rt.pl.t6]
  have r := R_alarm a w M (th M) rfl rt.mB (fun z => (v_alarm rt a w z.1 z.2).2.2)
  unfold thx at r
  by_cases c : 0 ≤ a ∧ a < (M 14370 0 (6))
  · have c2 := ce.mp c
    rw [if_pos c2, if_pos c2] at r
    have k := R_K_alarm a w M (rl.cB (by omega)) c (v_alarm rt a w c2.1 c2.2).2.1
    rw [(v_alarm rt a w c2.1 c2.2).1] at k
    exact Or.inl ⟨c, _, k, r⟩
  · have c2 := fun z => c (ce.mpr z)
    rw [if_neg c2, if_neg c2] at r
    exact Or.inr ⟨c, _, r⟩
theorem x_note {n : Int} {M : AMem} (h : INV n M M) (hn : n + 4000000 < 2146000000) (k : Int) : ((0 ≤ k ∧ k < (if 500 < (M 6 0 9) then 500 else (M 6 0 9))) ∧ ∃ v : Int, Runs 291 [aR 1 0, aI k] M (fun r M' => r = some (aI v) ∧ M' = M) ∧ Runs 112 [aR 11 0, aI k] M (fun r M' => r = some (aI v) ∧ M' = th M)) ∨ (¬ (0 ≤ k ∧ k < (if 500 < (M 6 0 9) then 500 else (M 6 0 9))) ∧ ∃ v : Int, Runs 112 [aR 11 0, aI k] M (fun r M' => r = some (aI v) ∧ M' = (mup (th M) 11 0 0 (1)))) := by
  have rl := h.1
  have rt := rl_th rl
  have no := rt.no
  have r := R_note k M (th M) rfl (by omega)
  unfold thx mn5 at r
  rw [← no.1] at r
  by_cases c : 0 ≤ k ∧ k < (if 500 < (M 6 0 9) then 500 else (M 6 0 9))
  · rw [if_pos c, if_pos c] at r
    have c3 : 0 ≤ k ∧ k < (M 6 0 9) ∧ k < 500 := by
      by_cases z : 500 < (M 6 0 9)
      · rw [if_pos z] at c; omega
      · rw [if_neg z] at c; omega
    have kk := R_K_note k M c3 (by omega)
    rw [rt.na _ (Int.emod_nonneg _ (by omega)) (Int.emod_lt_of_pos _ (by omega))] at kk
    exact Or.inl ⟨c, _, kk, r⟩
  · rw [if_neg c, if_neg c] at r
    exact Or.inr ⟨c, _, r⟩
