/-! ===== what the reference's scan leaves ===== -/
theorem sct_t (M : AMem) : ∀ (j t : Nat), t < j → ((sct M j) 8194110 0 ((t : Int))) = tkK (bya M) (M 11 0 5) (pos (bya M) (M 11 0 5) t) ∧ ((sct M j) 8194111 0 ((t : Int))) = tkP (M 11 0 5) (pos (bya M) (M 11 0 5) t) ∧ ((sct M j) 8194112 0 ((t : Int))) = tkS (bya M) (M 11 0 5) (pos (bya M) (M 11 0 5) t) ∧ ((sct M j) 8194113 0 ((t : Int))) = tkV (bya M) (M 11 0 5) (pos (bya M) (M 11 0 5) t)
  | 0, t, h => by omega
  | j + 1, t, h => by
    have ej := (sct_l M j).2.1
    unfold sct ptk
    rw [ej]
    by_cases c : t = j
    · subst c
      refine ⟨?_, ?_, ?_, ?_⟩ <;> simp only [mup_same, mu_ng, mu_ni, mu_xi, mu_xt, cq_fr, rn_fr, mrs_fr, inn_fr, cpr_fr, opr_fr, ldd_fr, own_fr, ne_eq, Nat.reduceEqDiff, not_false_eq_true, Int.reduceEq, ↓reduceIte]
    · have ih := sct_t M j t (by omega)
      have ne : ¬ (t : Int) = (j : Int) := by omega
      refine ⟨?_, ?_, ?_, ?_⟩
      · simp only [mup_same, mu_ng, mu_ni, mu_xi, mu_xt, cq_fr, rn_fr, mrs_fr, inn_fr, cpr_fr, opr_fr, ldd_fr, own_fr, ne_eq, Nat.reduceEqDiff, not_false_eq_true, Int.reduceEq, ↓reduceIte, if_neg ne]
        exact ih.1
      · simp only [mup_same, mu_ng, mu_ni, mu_xi, mu_xt, cq_fr, rn_fr, mrs_fr, inn_fr, cpr_fr, opr_fr, ldd_fr, own_fr, ne_eq, Nat.reduceEqDiff, not_false_eq_true, Int.reduceEq, ↓reduceIte, if_neg ne]
        exact ih.2.1
      · simp only [mup_same, mu_ng, mu_ni, mu_xi, mu_xt, cq_fr, rn_fr, mrs_fr, inn_fr, cpr_fr, opr_fr, ldd_fr, own_fr, ne_eq, Nat.reduceEqDiff, not_false_eq_true, Int.reduceEq, ↓reduceIte, if_neg ne]
        exact ih.2.2.1
      · simp only [mup_same, mu_ng, mu_ni, mu_xi, mu_xt, cq_fr, rn_fr, mrs_fr, inn_fr, cpr_fr, opr_fr, ldd_fr, own_fr, ne_eq, Nat.reduceEqDiff, not_false_eq_true, Int.reduceEq, ↓reduceIte, if_neg ne]
        exact ih.2.2.2
/-- nothing else changes -/
theorem sct_o (M : AMem) (g : Nat) (t x : Int) (h1 : g ≠ 8194110) (h2 : g ≠ 8194111) (h3 : g ≠ 8194112) (h4 : g ≠ 8194113) (h5 : g = 11 → x ≠ 10) : ∀ j : Nat, sct M j g t x = M g t x
  | 0 => by
    unfold sct
    by_cases e : g = 11
    · subst e; rw [mu_ni (h5 rfl)]
    · rw [mu_ng e]
  | j + 1 => by
    rw [← sct_o M g t x h1 h2 h3 h4 h5 j]
    unfold sct ptk
    by_cases e : g = 11
    · subst e; rw [mu_ni (h5 rfl), mu_ng (by decide), mu_ng (by decide), mu_ng (by decide), mu_ng (by decide)]
      cases j <;> rfl
    · rw [mu_ng e, mu_ng h4, mu_ng h3, mu_ng h2, mu_ng h1]
      cases j <;> rfl
