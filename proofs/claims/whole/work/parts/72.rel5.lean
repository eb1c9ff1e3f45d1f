/-! ===== settling: an ISR begins ===== -/
theorem kgf_spec (M : AMem) (g : Int) : ∀ n : Nat, (kgf M g n = (g, -1) ∧ ∀ i : Int, 0 ≤ i → i < n → ¬ (M 8 ((48 + i)) 12) = 0 → (M 8 ((48 + i)) 0) ≤ g) ∨ (∃ f : Int, (0 ≤ f ∧ f < n) ∧ kgf M g n = ((M 8 ((48 + f)) 0), f) ∧ ¬ (M 8 ((48 + f)) 12) = 0 ∧ g < (M 8 ((48 + f)) 0) ∧ ∀ i : Int, 0 ≤ i → i < n → ¬ (M 8 ((48 + i)) 12) = 0 → (M 8 ((48 + i)) 0) ≤ (M 8 ((48 + f)) 0) ∧ (i < f → (M 8 ((48 + i)) 0) < (M 8 ((48 + f)) 0)))
  | 0 => Or.inl ⟨rfl, fun i a b => by omega⟩
  | n + 1 => by
    unfold kgf
    rcases kgf_spec M g n with ⟨h1, h2⟩ | ⟨f, h1, h2, h3, h4, h5⟩
    · rw [h1]
      by_cases c : ¬ (M 8 ((48 + n)) 12) = 0 ∧ (g, (-1 : Int)).1 < (M 8 ((48 + n)) 0)
      · rw [if_pos c]
        right
        have c2 : g < (M 8 ((48 + n)) 0) := c.2
        refine ⟨n, ⟨by omega, by omega⟩, rfl, c.1, c2, fun i a b d => ?_⟩
        by_cases e : i = n
        · subst e; exact ⟨by omega, fun z => by omega⟩
        · have := h2 i a (by omega) d
          exact ⟨by omega, fun _ => by omega⟩
      · rw [if_neg c]
        left
        refine ⟨rfl, fun i a b d => ?_⟩
        by_cases e : i = n
        · subst e
          by_cases f : g < (M 8 ((48 + n)) 0)
          · exact absurd ⟨d, f⟩ c
          · omega
        · exact h2 i a (by omega) d
    · rw [h2]
      by_cases c : ¬ (M 8 ((48 + n)) 12) = 0 ∧ ((M 8 ((48 + f)) 0), f).1 < (M 8 ((48 + n)) 0)
      · rw [if_pos c]
        right
        have c2 : (M 8 ((48 + f)) 0) < (M 8 ((48 + n)) 0) := c.2
        refine ⟨n, ⟨by omega, by omega⟩, rfl, c.1, by omega, fun i a b d => ?_⟩
        by_cases e : i = n
        · subst e; exact ⟨by omega, fun z => by omega⟩
        · have := (h5 i a (by omega) d).1
          exact ⟨by omega, fun _ => by omega⟩
      · rw [if_neg c]
        right
        refine ⟨f, ⟨by omega, by omega⟩, rfl, h3, h4, fun i a b d => ?_⟩
        by_cases e : i = n
        · subst e
          by_cases g : (M 8 ((48 + f)) 0) < (M 8 ((48 + n)) 0)
          · exact absurd ⟨d, g⟩ c
          · exact ⟨by omega, fun z => by omega⟩
        · exact h5 i a (by omega) d
abbrev cnd (M : AMem) (w p i : Int) : Prop := (M 33130 0 (i)) ≠ 0 ∧ (w = 0 ∨ p < (M 32855 0 (i)))
theorem bsd_spec (M : AMem) (w p : Int) : ∀ (n : Nat) (b : Int), (b = -1 ∨ n ≤ b) → (bsd M w p n b = b ∧ ∀ i : Int, 0 ≤ i → i < n → cnd M w p i → ¬ b = -1 ∧ (M 32855 0 (i)) < (M 32855 0 (b))) ∨ ((0 ≤ bsd M w p n b ∧ bsd M w p n b < n) ∧ cnd M w p (bsd M w p n b) ∧ (¬ b = -1 → (M 32855 0 (b)) ≤ (M 32855 0 (bsd M w p n b))) ∧ ∀ i : Int, 0 ≤ i → i < n → cnd M w p i → (M 32855 0 (i)) ≤ (M 32855 0 (bsd M w p n b)) ∧ (i < bsd M w p n b → (M 32855 0 (i)) < (M 32855 0 (bsd M w p n b))))
  | 0, b, _ => Or.inl ⟨rfl, fun i a c => by omega⟩
  | n + 1, b, hb => by
    unfold bsd
    by_cases c : (M 33130 0 (n)) ≠ 0 ∧ (w = 0 ∨ p < (M 32855 0 (n))) ∧ (b = -1 ∨ (M 32855 0 (b)) ≤ (M 32855 0 (n)))
    · rw [if_pos c]
      right
      rcases bsd_spec M w p n n (Or.inr (by omega)) with ⟨h1, h2⟩ | ⟨h1, h2, h3, h4⟩
      · rw [h1]
        refine ⟨by omega, ⟨c.1, c.2.1⟩, fun z => by omega, fun i a d e => ?_⟩
        by_cases f : i = n
        · subst f; exact ⟨by omega, fun z => by omega⟩
        · have := (h2 i a (by omega) e).2
          exact ⟨by omega, fun _ => this⟩
      · have h3 := h3 (by omega)
        refine ⟨by omega, h2, fun z => by omega, fun i a d e => ?_⟩
        by_cases f : i = n
        · subst f; exact ⟨h3, fun z => by omega⟩
        · exact h4 i a (by omega) e
    · rw [if_neg c]
      have hn : cnd M w p n → ¬ b = -1 ∧ (M 32855 0 (n)) < (M 32855 0 (b)) := fun z => by
        by_cases e : b = -1
        · exact absurd ⟨z.1, z.2, Or.inl e⟩ c
        · by_cases f : (M 32855 0 (b)) ≤ (M 32855 0 (n))
          · exact absurd ⟨z.1, z.2, Or.inr f⟩ c
          · exact ⟨e, by omega⟩
      rcases bsd_spec M w p n b (by omega) with ⟨h1, h2⟩ | ⟨h1, h2, h3, h4⟩
      · left
        refine ⟨h1, fun i a d e => ?_⟩
        by_cases f : i = n
        · subst f; exact hn e
        · exact h2 i a (by omega) e
      · right
        refine ⟨by omega, h2, h3, fun i a d e => ?_⟩
        by_cases f : i = n
        · subst f
          have x := hn e
          have y := h3 x.1
          exact ⟨by omega, fun z => by omega⟩
        · exact h4 i a (by omega) e
theorem kgc_eq {n : Int} {A B : AMem} (h : RL n A B) : kgc A = bst B := by
  have hm := h.mB
  have m5 : 0 ≤ (B 14408 0 (5)) ∧ (B 14408 0 (5)) ≤ 16 := by unfold MB at hm; omega
  have hp := h.kcpW
  have cd : ∀ i : Int, 0 ≤ i → i < (B 14408 0 (5)) → (cnd B (wk B) (if wk B = 0 then -1 else cpr B (wk B)) i ↔ (¬ (A 8 ((48 + i)) 12) = 0 ∧ kcp A (kw A) < (A 8 ((48 + i)) 0))) := fun i a b => by
    have l := h.pl.lv i a b
    rw [(h.ca i a (by omega)).1, l.1, hp]
    by_cases c : wk B = 0
    · simp only [if_pos c]
      constructor
      · exact fun z => ⟨z.1, by omega⟩
      · exact fun z => ⟨z.1, Or.inl c⟩
    · simp only [if_neg c]
      constructor
      · exact fun z => ⟨z.1, by omega⟩
      · exact fun z => ⟨z.1, Or.inr z.2⟩
  unfold kgc bst
  rw [h.pl.t5]
  rcases kgf_spec A (kcp A (kw A)) (B 14408 0 (5)).toNat with ⟨h1, h2⟩ | ⟨f, h1, h2, h3, h4, h5⟩
  · rw [h1]
    rcases bsd_spec B (wk B) (if wk B = 0 then -1 else cpr B (wk B)) (B 14408 0 (5)).toNat (-1) (Or.inl rfl) with ⟨k1, k2⟩ | ⟨k1, k2, k3, k4⟩
    · rw [k1]
    · have c := (cd _ k1.1 (by omega)).mp k2
      have := h2 _ k1.1 (by omega) c.1
      omega
  · rw [h2]
    have cf := (cd f h1.1 (by omega)).mpr ⟨h3, h4⟩
    rcases bsd_spec B (wk B) (if wk B = 0 then -1 else cpr B (wk B)) (B 14408 0 (5)).toNat (-1) (Or.inl rfl) with ⟨k1, k2⟩ | ⟨k1, k2, k3, k4⟩
    · have := (k2 f h1.1 (by omega) cf).1
      omega
    · generalize bsd B (wk B) (if wk B = 0 then -1 else cpr B (wk B)) (B 14408 0 (5)).toNat (-1) = g at k1 k2 k3 k4 ⊢
      have x := k4 f h1.1 (by omega) cf
      have y := h5 g k1.1 (by omega) ((cd g k1.1 (by omega)).mp k2).1
      have lf := (h.pl.lv f h1.1 (by omega)).1
      have lg := (h.pl.lv g k1.1 (by omega)).1
      show f = g
      by_cases c : f < g
      · have := x.2 c; omega
      · by_cases d : g < f
        · have := y.2 d; omega
        · omega
/-- what the chosen ISR is -/
theorem kgc_spec {n : Int} {A B : AMem} (h : RL n A B) (c : ¬ kgc A = -1) : (0 ≤ kgc A ∧ kgc A < (B 14408 0 (5))) ∧ ¬ (B 33130 0 (kgc A)) = 0 ∧ kcp A (kw A) < (B 32855 0 (kgc A)) ∧ ∀ i : Int, 0 ≤ i → i < (B 14408 0 (5)) → ¬ (B 33130 0 (i)) = 0 → (B 32855 0 (i)) ≤ (B 32855 0 (kgc A)) := by
  have hm := h.mB
  have m5 : 0 ≤ (B 14408 0 (5)) ∧ (B 14408 0 (5)) ≤ 16 := by unfold MB at hm; omega
  have e : kgc A = (kgf A (kcp A (kw A)) (A 14370 0 (5)).toNat).2 := rfl
  rw [h.pl.t5] at e
  rcases kgf_spec A (kcp A (kw A)) (B 14408 0 (5)).toNat with ⟨h1, h2⟩ | ⟨f, h1, h2, h3, h4, h5⟩
  · rw [h1] at e; exact absurd e c
  · rw [h2] at e
    have e : kgc A = f := e
    rw [e]
    have l := h.pl.lv f h1.1 (by omega)
    refine ⟨by omega, ?_, by omega, fun i a b d => ?_⟩
    · rw [← (h.ca f h1.1 (by omega)).1]; exact h3
    · have x := h5 i a (by omega) (by rw [(h.ca i a (by omega)).1]; exact d)
      rw [(h.pl.lv i a b).1, l.1] at x
      exact x.1
theorem kgc_none {A : AMem} {k : Int} (ht : (A 14370 0 (5)) = k) (h : ∀ i : Int, 0 ≤ i → i < k → ¬ (A 8 ((48 + i)) 12) = 0 → (A 8 ((48 + i)) 0) ≤ kcp A (kw A)) : kgc A = -1 := by
  unfold kgc
  rw [ht]
  rcases kgf_spec A (kcp A (kw A)) k.toNat with ⟨h1, h2⟩ | ⟨f, h1, h2, h3, h4, h5⟩
  · rw [h1]
  · have := h f h1.1 (by omega) h3
    omega
theorem kgc_m1 {A : AMem} {k : Int} (ht : (A 14370 0 (5)) = k) (c : kgc A = -1) (i : Int) (h0 : 0 ≤ i) (h1 : i < k) (h2 : ¬ (A 8 ((48 + i)) 12) = 0) : (A 8 ((48 + i)) 0) ≤ kcp A (kw A) := by
  unfold kgc at c
  rw [ht] at c
  rcases kgf_spec A (kcp A (kw A)) k.toNat with ⟨g1, g2⟩ | ⟨f, g1, g2, g3, g4, g5⟩
  · exact g2 i h0 (by omega) h2
  · rw [g2] at c
    have c : f = -1 := c
    omega
theorem kcp_ge (A : AMem) (w : Int) : (A 8 (w) 0) ≤ kcp A w := by
  have a := (kcf_spec A w (A 8 (w) 14).toNat).1
  unfold kcp kch
  split
  · split <;> omega
  · exact a
def bgA (A : AMem) (i : Int) : AMem := (mup (mup (mup A 8 ((48 + i)) 12 (0)) 32815 0 ((A 6 0 7)) (i)) 6 0 7 ((A 6 0 7) + 1))
def bgB (B : AMem) (b : Int) : AMem := (mup (mup (mup B 33130 0 (b) (0)) 32875 0 (b) ((B 11 0 65))) 11 0 65 ((B 11 0 65) + 1))
theorem kbeg_eq (A : AMem) (i : Int) : kbeg A i = knt (bgA A i) (50000 + i) := rfl
theorem beg_eq (B : AMem) (i : Int) : beg B i = nt (bgB B i) (50000 + i) := rfl
theorem lv_mono {n : Int} {A B : AMem} (h : RL n A B) : ∀ (k : Nat) (p : Int), 0 ≤ p → p + k < (B 11 0 65) → (B 32855 0 ((A 32815 0 (p)))) ≤ (B 32855 0 ((A 32815 0 ((p + k)))))
  | 0, p, _, _ => by rw [show p + ((0 : Nat) : Int) = p by omega]; omega
  | k + 1, p, h0, h1 => by
    have a := lv_mono h k p h0 (by omega)
    have b := h.bo (p + k) (by omega) (by omega)
    rw [show p + ((k + 1 : Nat) : Int) = p + k + 1 by omega]
    omega
/-- every ISR that is begun lies at or below the priority of who is at work -/
theorem begun_le {n : Int} {A B : AMem} (h : RL n A B) (p : Int) (h0 : 0 ≤ p) (h1 : p < (B 11 0 65)) : (B 32855 0 ((A 32815 0 (p)))) ≤ kcp A (kw A) := by
  rcases h.who with ⟨a, b, c, d⟩ | ⟨a, b, c, d⟩ | ⟨a, b, c, d⟩
  · have x := lv_mono h ((B 11 0 65) - 1 - p).toNat p h0 (by omega)
    rw [show p + ((((B 11 0 65) - 1 - p).toNat : Nat) : Int) = (B 11 0 65) - 1 by omega] at x
    rw [d]
    have y := kcp_ge A (48 + (A 32815 0 (((B 11 0 65) - 1))))
    rw [(h.pl.lv _ b.1 b.2).1] at y
    omega
  · omega
  · omega
theorem rl_bg {n : Int} {A B : AMem} (h : RL n A B) (ho : ¬ (B 11 0 50) = 0) (i : Int) (h0 : 0 ≤ i) (h1 : i < (B 14408 0 (5))) (hc : ∀ p : Int, 0 ≤ p → p < (B 11 0 65) → (B 32855 0 ((A 32815 0 (p)))) < (B 32855 0 (i))) : RL n (bgA A i) (bgB B i) := by
  have hm := h.mB
  have m5 : 0 ≤ (B 14408 0 (5)) ∧ (B 14408 0 (5)) ≤ 16 := by unfold MB at hm; omega
  have fc : frC A (bgA A i) := frC.up rfl (frC.up rfl (frC.up rfl (frC.rf A)))
  have fr : frR B (bgB B i) := frR.up rfl (frR.up rfl (frR.up rfl (frR.rf B)))
  have hb := h.bc
  have nb : (B 32875 0 (i)) = -1 := by
    rcases h.bi i h0 (by omega) with e | ⟨e, f⟩
    · exact e
    · have := hc _ e.1 e.2
      rw [f] at this
      omega
  have sb := h.sb
  refine RL.mk (h.pl.fr fc fr) (SB.mk ?_ ?_ ?_ ?_ ?_ ?_ ?_ ?_ ?_) ?_ ?_ ?_ ?_ ?_ ?_ ?_ ?_ ?_ ?_ ?_ ?_ ?_ ?_ ?_ ?_ ?_ ?_ ?_ ?_ ?_ ?_ ?_ ?_ ?_ ?_ ?_ ?_ ?_
  · unfold bgB; simp only [mup_same, mu_ng, mu_ni, mu_xi, mu_xt, cq_fr, rn_fr, mrs_fr, inn_fr, cpr_fr, opr_fr, ldd_fr, own_fr, ne_eq, Nat.reduceEqDiff, not_false_eq_true, Int.reduceEq, ↓reduceIte]; exact sb.rg
  · unfold bgB; simp only [mup_same, mu_ng, mu_ni, mu_xi, mu_xt, cq_fr, rn_fr, mrs_fr, inn_fr, cpr_fr, opr_fr, ldd_fr, own_fr, ne_eq, Nat.reduceEqDiff, not_false_eq_true, Int.reduceEq, ↓reduceIte]; exact sb.r1
  · unfold bgB; simp only [mup_same, mu_ng, mu_ni, mu_xi, mu_xt, cq_fr, rn_fr, mrs_fr, inn_fr, cpr_fr, opr_fr, ldd_fr, own_fr, ne_eq, Nat.reduceEqDiff, not_false_eq_true, Int.reduceEq, ↓reduceIte]; exact sb.ky
  · unfold bgB; simp only [mup_same, mu_ng, mu_ni, mu_xi, mu_xt, cq_fr, rn_fr, mrs_fr, inn_fr, cpr_fr, opr_fr, ldd_fr, own_fr, ne_eq, Nat.reduceEqDiff, not_false_eq_true, Int.reduceEq, ↓reduceIte]; exact sb.hi
  · unfold bgB; simp only [mup_same, mu_ng, mu_ni, mu_xi, mu_xt, cq_fr, rn_fr, mrs_fr, inn_fr, cpr_fr, opr_fr, ldd_fr, own_fr, ne_eq, Nat.reduceEqDiff, not_false_eq_true, Int.reduceEq, ↓reduceIte]; exact sb.wt
  · intro r r0 r1
    have e := sb.hv r r0 r1
    unfold bgB
    simp only [mup_same, mu_ng, mu_ni, mu_xi, mu_xt, cq_fr, rn_fr, mrs_fr, inn_fr, cpr_fr, opr_fr, ldd_fr, own_fr, ne_eq, Nat.reduceEqDiff, not_false_eq_true, Int.reduceEq, ↓reduceIte]
    rcases e with e | ⟨e1, e2, e3⟩
    · exact Or.inl e
    · refine Or.inr ⟨e1, e2, ?_⟩
      rcases e3 with e3 | ⟨e3, e4, e5⟩
      · exact Or.inl e3
      · refine Or.inr ⟨e3, e4, ?_⟩
        split
        · omega
        · exact e5
  · unfold bgB; simp only [mup_same, mu_ng, mu_ni, mu_xi, mu_xt, cq_fr, rn_fr, mrs_fr, inn_fr, cpr_fr, opr_fr, ldd_fr, own_fr, ne_eq, Nat.reduceEqDiff, not_false_eq_true, Int.reduceEq, ↓reduceIte]; exact sb.ld
  · unfold bgB; simp only [mup_same, mu_ng, mu_ni, mu_xi, mu_xt, cq_fr, rn_fr, mrs_fr, inn_fr, cpr_fr, opr_fr, ldd_fr, own_fr, ne_eq, Nat.reduceEqDiff, not_false_eq_true, Int.reduceEq, ↓reduceIte]; exact sb.rx
  · unfold bgB; simp only [mup_same, mu_ng, mu_ni, mu_xi, mu_xt, cq_fr, rn_fr, mrs_fr, inn_fr, cpr_fr, opr_fr, ldd_fr, own_fr, ne_eq, Nat.reduceEqDiff, not_false_eq_true, Int.reduceEq, ↓reduceIte]; exact sb.se
  · simp only [mup_same, mu_ng, mu_ni, mu_xi, mu_xt, cq_fr, rn_fr, mrs_fr, inn_fr, cpr_fr, opr_fr, ldd_fr, own_fr, ne_eq, Nat.reduceEqDiff, not_false_eq_true, Int.reduceEq, ↓reduceIte, bgA, bgB]; exact h.on
  · simp only [mup_same, mu_ng, mu_ni, mu_xi, mu_xt, cq_fr, rn_fr, mrs_fr, inn_fr, cpr_fr, opr_fr, ldd_fr, own_fr, ne_eq, Nat.reduceEqDiff, not_false_eq_true, Int.reduceEq, ↓reduceIte, bgA, bgB]; exact h.sh
  · simp only [mup_same, mu_ng, mu_ni, mu_xi, mu_xt, cq_fr, rn_fr, mrs_fr, inn_fr, cpr_fr, opr_fr, ldd_fr, own_fr, ne_eq, Nat.reduceEqDiff, not_false_eq_true, Int.reduceEq, ↓reduceIte, bgA, bgB]; exact h.no
  · simp only [mup_same, mu_ng, mu_ni, mu_xi, mu_xt, cq_fr, rn_fr, mrs_fr, inn_fr, cpr_fr, opr_fr, ldd_fr, own_fr, ne_eq, Nat.reduceEqDiff, not_false_eq_true, Int.reduceEq, ↓reduceIte, bgA, bgB]; exact h.na
  · simp only [mup_same, mu_ng, mu_ni, mu_xi, mu_xt, cq_fr, rn_fr, mrs_fr, inn_fr, cpr_fr, opr_fr, ldd_fr, own_fr, ne_eq, Nat.reduceEqDiff, not_false_eq_true, Int.reduceEq, ↓reduceIte, bgA, bgB]; exact h.bt
  · simp only [mup_same, mu_ng, mu_ni, mu_xi, mu_xt, cq_fr, rn_fr, mrs_fr, inn_fr, cpr_fr, opr_fr, ldd_fr, own_fr, ne_eq, Nat.reduceEqDiff, not_false_eq_true, Int.reduceEq, ↓reduceIte, bgA, bgB]; exact h.cu
  · simp only [mup_same, mu_ng, mu_ni, mu_xi, mu_xt, cq_fr, rn_fr, mrs_fr, inn_fr, cpr_fr, opr_fr, ldd_fr, own_fr, ne_eq, Nat.reduceEqDiff, not_false_eq_true, Int.reduceEq, ↓reduceIte, bgA, bgB]; exact h.rq
  · simp only [mup_same, mu_ng, mu_ni, mu_xi, mu_xt, cq_fr, rn_fr, mrs_fr, inn_fr, cpr_fr, opr_fr, ldd_fr, own_fr, ne_eq, Nat.reduceEqDiff, not_false_eq_true, Int.reduceEq, ↓reduceIte, bgA, bgB]; exact h.wa
  · simp only [mup_same, mu_ng, mu_ni, mu_xi, mu_xt, cq_fr, rn_fr, mrs_fr, inn_fr, cpr_fr, opr_fr, ldd_fr, own_fr, ne_eq, Nat.reduceEqDiff, not_false_eq_true, Int.reduceEq, ↓reduceIte, bgA, bgB]; exact h.wf
  · simp only [mup_same, mu_ng, mu_ni, mu_xi, mu_xt, cq_fr, rn_fr, mrs_fr, inn_fr, cpr_fr, opr_fr, ldd_fr, own_fr, ne_eq, Nat.reduceEqDiff, not_false_eq_true, Int.reduceEq, ↓reduceIte, bgA, bgB]; exact h.hi
  · simp only [mup_same, mu_ng, mu_ni, mu_xi, mu_xt, cq_fr, rn_fr, mrs_fr, inn_fr, cpr_fr, opr_fr, ldd_fr, own_fr, ne_eq, Nat.reduceEqDiff, not_false_eq_true, Int.reduceEq, ↓reduceIte, bgA, bgB]; exact h.hx
  · simp only [mup_same, mu_ng, mu_ni, mu_xi, mu_xt, cq_fr, rn_fr, mrs_fr, inn_fr, cpr_fr, opr_fr, ldd_fr, own_fr, ne_eq, Nat.reduceEqDiff, not_false_eq_true, Int.reduceEq, ↓reduceIte, bgA, bgB]; exact h.hc
  · simp only [mup_same, mu_ng, mu_ni, mu_xi, mu_xt, cq_fr, rn_fr, mrs_fr, inn_fr, cpr_fr, opr_fr, ldd_fr, own_fr, ne_eq, Nat.reduceEqDiff, not_false_eq_true, Int.reduceEq, ↓reduceIte, bgA, bgB]; exact h.hd
  · simp only [mup_same, mu_ng, mu_ni, mu_xi, mu_xt, cq_fr, rn_fr, mrs_fr, inn_fr, cpr_fr, opr_fr, ldd_fr, own_fr, ne_eq, Nat.reduceEqDiff, not_false_eq_true, Int.reduceEq, ↓reduceIte, bgA, bgB]; exact h.hs
  · simp only [mup_same, mu_ng, mu_ni, mu_xi, mu_xt, cq_fr, rn_fr, mrs_fr, inn_fr, cpr_fr, opr_fr, ldd_fr, own_fr, ne_eq, Nat.reduceEqDiff, not_false_eq_true, Int.reduceEq, ↓reduceIte, bgA, bgB]; exact h.ho
  · simp only [mup_same, mu_ng, mu_ni, mu_xi, mu_xt, cq_fr, rn_fr, mrs_fr, inn_fr, cpr_fr, opr_fr, ldd_fr, own_fr, ne_eq, Nat.reduceEqDiff, not_false_eq_true, Int.reduceEq, ↓reduceIte, bgA, bgB]; omega
  · intro p p0 p1
    unfold bgA bgB at p1 ⊢
    simp only [mup_same] at p1
    simp only [mup_same, mu_ng, mu_ni, mu_xi, mu_xt, cq_fr, rn_fr, mrs_fr, inn_fr, cpr_fr, opr_fr, ldd_fr, own_fr, ne_eq, Nat.reduceEqDiff, not_false_eq_true, Int.reduceEq, ↓reduceIte]
    by_cases c : p = (A 6 0 7)
    · simp only [if_pos c, if_true]
      have l := h.pl.lv i h0 h1
      refine ⟨⟨h0, h1⟩, by omega, ?_⟩
      by_cases d : (B 11 0 65) = 0
      · omega
      · have x := h.bg ((B 11 0 65) - 1) (by omega) (by omega)
        have y := hc ((B 11 0 65) - 1) (by omega) (by omega)
        omega
    · have x := h.bg p p0 (by omega)
      simp only [if_neg c]
      have y := hc p p0 (by omega)
      rw [if_neg (fun z => by rw [z] at y; omega)]
      exact x
  · intro p p0 p1
    unfold bgA bgB at p1 ⊢
    simp only [mup_same] at p1
    simp only [mup_same, mu_ng, mu_ni, mu_xi, mu_xt, cq_fr, rn_fr, mrs_fr, inn_fr, cpr_fr, opr_fr, ldd_fr, own_fr, ne_eq, Nat.reduceEqDiff, not_false_eq_true, Int.reduceEq, ↓reduceIte]
    rw [if_neg (by omega)]
    by_cases c : p + 1 = (A 6 0 7)
    · rw [if_pos c]; exact hc p p0 (by omega)
    · rw [if_neg c]; exact h.bo p p0 (by omega)
  · intro j j0 j1
    have x := h.bi j j0 j1
    simp only [mup_same, mu_ng, mu_ni, mu_xi, mu_xt, cq_fr, rn_fr, mrs_fr, inn_fr, cpr_fr, opr_fr, ldd_fr, own_fr, ne_eq, Nat.reduceEqDiff, not_false_eq_true, Int.reduceEq, ↓reduceIte, bgA, bgB]
    by_cases c : j = i
    · simp only [if_pos c]
      right
      refine ⟨by omega, ?_⟩
      rw [if_pos (by omega)]
      exact c.symm
    · simp only [if_neg c]
      rcases x with x | ⟨x, y⟩
      · exact Or.inl x
      · exact Or.inr ⟨by omega, by rw [if_neg (by omega)]; exact y⟩
  · intro j j0 j1
    have x := h.ca j j0 j1
    simp only [mup_same, mu_ng, mu_ni, mu_xi, mu_xt, cq_fr, rn_fr, mrs_fr, inn_fr, cpr_fr, opr_fr, ldd_fr, own_fr, ne_eq, Nat.reduceEqDiff, not_false_eq_true, Int.reduceEq, ↓reduceIte, bgA, bgB]
    by_cases c : j = i
    · simp only [c, if_true]
      exact ⟨trivial, fun _ => trivial⟩
    · rw [if_neg c, if_neg (by omega)]
      exact x
  · simp only [mup_same, mu_ng, mu_ni, mu_xi, mu_xt, cq_fr, rn_fr, mrs_fr, inn_fr, cpr_fr, opr_fr, ldd_fr, own_fr, ne_eq, Nat.reduceEqDiff, not_false_eq_true, Int.reduceEq, ↓reduceIte, bgA, bgB]; exact h.st
  · simp only [mup_same, mu_ng, mu_ni, mu_xi, mu_xt, cq_fr, rn_fr, mrs_fr, inn_fr, cpr_fr, opr_fr, ldd_fr, own_fr, ne_eq, Nat.reduceEqDiff, not_false_eq_true, Int.reduceEq, ↓reduceIte, bgA, bgB]; exact h.co
  · unfold CO; simp only [mup_same, mu_ng, mu_ni, mu_xi, mu_xt, cq_fr, rn_fr, mrs_fr, inn_fr, cpr_fr, opr_fr, ldd_fr, own_fr, ne_eq, Nat.reduceEqDiff, not_false_eq_true, Int.reduceEq, ↓reduceIte, bgA, bgB]; exact h.ko
  · simp only [mup_same, mu_ng, mu_ni, mu_xi, mu_xt, cq_fr, rn_fr, mrs_fr, inn_fr, cpr_fr, opr_fr, ldd_fr, own_fr, ne_eq, Nat.reduceEqDiff, not_false_eq_true, Int.reduceEq, ↓reduceIte, bgA, bgB]; exact h.wg
  · simp only [mup_same, mu_ng, mu_ni, mu_xi, mu_xt, cq_fr, rn_fr, mrs_fr, inn_fr, cpr_fr, opr_fr, ldd_fr, own_fr, ne_eq, Nat.reduceEqDiff, not_false_eq_true, Int.reduceEq, ↓reduceIte, bgA, bgB]; exact h.au
  · simp only [mup_same, mu_ng, mu_ni, mu_xi, mu_xt, cq_fr, rn_fr, mrs_fr, inn_fr, cpr_fr, opr_fr, ldd_fr, own_fr, ne_eq, Nat.reduceEqDiff, not_false_eq_true, Int.reduceEq, ↓reduceIte, bgA, bgB]; exact h.ad
  · simp only [mup_same, mu_ng, mu_ni, mu_xi, mu_xt, cq_fr, rn_fr, mrs_fr, inn_fr, cpr_fr, opr_fr, ldd_fr, own_fr, ne_eq, Nat.reduceEqDiff, not_false_eq_true, Int.reduceEq, ↓reduceIte, bgA, bgB]; exact h.ee
  · simp only [mup_same, mu_ng, mu_ni, mu_xi, mu_xt, cq_fr, rn_fr, mrs_fr, inn_fr, cpr_fr, opr_fr, ldd_fr, own_fr, ne_eq, Nat.reduceEqDiff, not_false_eq_true, Int.reduceEq, ↓reduceIte, bgA, bgB]; exact fun z => absurd z ho
  · simp only [mup_same, mu_ng, mu_ni, mu_xi, mu_xt, cq_fr, rn_fr, mrs_fr, inn_fr, cpr_fr, opr_fr, ldd_fr, own_fr, ne_eq, Nat.reduceEqDiff, not_false_eq_true, Int.reduceEq, ↓reduceIte, bgA, bgB]; exact h.rx
