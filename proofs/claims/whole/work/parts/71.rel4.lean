/-! ===== the relation kept: notes, a request's change ===== -/
theorem mu_xi (M : AMem) (g : Nat) (t i j v : Int) : mup M g t i v g t j = if j = i then v else M g t j := by
  unfold mup
  by_cases c : j = i
  · rw [if_pos c, if_pos ⟨rfl, rfl, c⟩]
  · rw [if_neg c, if_neg (fun z => c z.2.2)]
theorem mu_xt (M : AMem) (g : Nat) (t s i v : Int) : mup M g t i v g s i = if s = t then v else M g s i := by
  unfold mup
  by_cases c : s = t
  · rw [if_pos c, if_pos ⟨rfl, c, rfl⟩]
  · rw [if_neg c, if_neg (fun z => c z.2.1)]
theorem mu_cm {M : AMem} {g g' : Nat} {t t' i i' v v' : Int} (h : ¬ (g = g' ∧ t = t' ∧ i = i')) : mup (mup M g t i v) g' t' i' v' = mup (mup M g' t' i' v') g t i v := by
  funext a b c
  unfold mup
  by_cases h1 : a = g ∧ b = t ∧ c = i
  · by_cases h2 : a = g' ∧ b = t' ∧ c = i'
    · exact absurd ⟨h1.1.symm.trans h2.1, h1.2.1.symm.trans h2.2.1, h1.2.2.symm.trans h2.2.2⟩ h
    · simp only [if_pos h1, if_neg h2]
  · by_cases h2 : a = g' ∧ b = t' ∧ c = i'
    · simp only [if_neg h1, if_pos h2]
    · simp only [if_neg h1, if_neg h2]
theorem ldd_fr {M : AMem} {g : Nat} {t i v q : Int} (h1 : g ≠ 65639) (h2 : g ≠ 819561) : ldd (mup M g t i v) q = ldd M q := by
  unfold ldd
  simp only [mu_ng (Ne.symm h1), mu_ng (Ne.symm h2)]
theorem own_fr {M : AMem} {g : Nat} {t i v x : Int} (h1 : g ≠ 819297) : own (mup M g t i v) x = own M x := by
  unfold own
  rw [mu_ng (Ne.symm h1)]
theorem knt_c {M : AMem} {g : Nat} {t i v w : Int} (h1 : g ≠ 1024048) (h2 : ¬ (g = 6 ∧ i = 9)) : knt (mup M g t i v) w = mup (knt M w) g t i v := by
  unfold knt
  rw [mup_other (fun z => h2 ⟨z.1.symm, z.2.2.symm⟩), mu_cm (g := g) (fun z => h1 z.1), mu_cm (g := g) (fun z => h2 ⟨z.1, z.2.2⟩)]
theorem nt_c {M : AMem} {g : Nat} {t i v w : Int} (h1 : g ≠ 1024114) (h2 : ¬ (g = 11 ∧ i = 73)) : nt (mup M g t i v) w = mup (nt M w) g t i v := by
  unfold nt
  rw [mup_other (fun z => h2 ⟨z.1.symm, z.2.2.symm⟩), mu_cm (g := g) (fun z => h1 z.1), mu_cm (g := g) (fun z => h2 ⟨z.1, z.2.2⟩)]
theorem rn_cg {B B' : AMem} (h : ∀ q : Int, 0 ≤ q → q < 400 → (B' 819298 0 (q)) = (B 819298 0 (q))) : rn B' = rn B := by
  have key : ∀ (k j : Nat), j + k ≤ 400 → fnd (fun q => B' 819298 0 q == 2) k j = fnd (fun q => B 819298 0 q == 2) k j := by
    intro k
    induction k with
    | zero => intro j _; rfl
    | succ k ih =>
      intro j hj
      unfold fnd
      rw [h j (by omega) (by omega), ih (j + 1) (by omega)]
  exact key 400 0 (by omega)
theorem rn_1 {B : AMem} {q : Int} (h0 : 0 ≤ q) (h1 : q < 400) (h2 : (B 819298 0 (q)) = 2) (hu : ∀ x : Int, 0 ≤ x → x < 400 → (B 819298 0 (x)) = 2 → x = q) : rn B = q := fnd_uni (fun x => (B 819298 0 (x)) == 2) 400 q h0 (by omega) (by simpa using h2) (fun y a b c => hu y a (by omega) (by simpa using c))
theorem rn_0 {B : AMem} (hu : ∀ x : Int, 0 ≤ x → x < 400 → ¬ (B 819298 0 (x)) = 2) : rn B = -1 := fnd_none (fun x => (B 819298 0 (x)) == 2) 400 (fun y a b => by simpa using hu y a (by omega))
theorem cpf_cg {B B' : AMem} {w p : Int} : ∀ n : Nat, (∀ r : Int, 0 ≤ r → r < n → ((B' 65639 0 (r)) = w ↔ (B 65639 0 (r)) = w)) → (∀ r : Int, (B' 65613 0 (r)) = (B 65613 0 (r))) → cpf B' w n p = cpf B w n p
  | 0, _, _ => rfl
  | n + 1, h, k => by
    unfold cpf
    rw [cpf_cg n (fun r a b => h r a (by omega)) k, k]
    by_cases c : (B 65639 0 (n)) = w
    · rw [if_pos c, if_pos ((h n (by omega) (by omega)).mpr c)]
    · rw [if_neg c, if_neg (fun z => c ((h n (by omega) (by omega)).mp z))]
theorem opr_cg {B B' : AMem} (k : frR B B') {w : Int} (tk : (B' 819297 0 (w - 1)) = (B 819297 0 (w - 1))) : opr B' w = opr B w := by
  unfold opr
  rw [k 32855 0 _ rfl, tk, k 98385 0 _ rfl]
theorem cpr_cg {B B' : AMem} (k : frR B B') (m : MB B) {w : Int} (hv : ∀ r : Int, 0 ≤ r → r < mrs B → ((B' 65639 0 (r)) = w ↔ (B 65639 0 (r)) = w)) (tk : (B' 819297 0 (w - 1)) = (B 819297 0 (w - 1))) (hi : (B' 819561 0 (w - 1)) = (B 819561 0 (w - 1))) : cpr B' w = cpr B w := by
  have hm := mrs_b m
  unfold cpr
  rw [hi, tk, k.mrE, k.inE, opr_cg k tk, k 65613 0 _ rfl, cpf_cg (mrs B).toNat (fun r a b => hv r a (by omega)) (fun r => k 65613 0 r rfl)]
theorem cq_upd {B B' : AMem} {q t : Int} (h0 : 0 ≤ q) (h1 : q < 400) (h : ∀ x : Int, ¬ x = q → (B' 819298 0 (x)) = (B 819298 0 (x)) ∧ (B' 819297 0 (x)) = (B 819297 0 (x))) : cq B' t 400 = cq B t 400 - (if (B 819298 0 (q)) ≠ 0 ∧ (B 819297 0 (q)) = t then 1 else 0) + (if (B' 819298 0 (q)) ≠ 0 ∧ (B' 819297 0 (q)) = t then 1 else 0) := by
  rw [cq_cnt, cq_cnt]
  have u := cnt_upd (p := fun q => decide ((B 819298 0 (q)) ≠ 0 ∧ (B 819297 0 (q)) = t)) (p' := fun q => decide ((B' 819298 0 (q)) ≠ 0 ∧ (B' 819297 0 (q)) = t)) q.toNat (fun j hj => by
    have := h j (by omega)
    rw [this.1, this.2]) 400 (by omega)
  rw [show ((q.toNat : Nat) : Int) = q by omega] at u
  simp only [decide_eq_true_eq] at u
  exact u
/-- one request changes -/
theorem SB.ch {B B' : AMem} (s : SB B) (m : MB B) (q : Int) (h0 : 0 ≤ q) (h1 : q < 400) (k : frR B B')
    (e1 : ∀ x : Int, ¬ x = q → (B' 819298 0 (x)) = (B 819298 0 (x)) ∧ (B' 819297 0 (x)) = (B 819297 0 (x)) ∧ (B' 819299 0 (x)) = (B 819299 0 (x)) ∧ (B' 819812 0 (x)) = (B 819812 0 (x)) ∧ (B' 819561 0 (x)) = (B 819561 0 (x)))
    (e2 : ∀ r : Int, (B' 65639 0 (r)) = (B 65639 0 (r)) ∧ (B' 66152 0 (r)) = (B 66152 0 (r))) (e3 : ∀ i : Int, (B' 32875 0 (i)) = (B 32875 0 (i))) (e4 : (B 11 0 58) ≤ (B' 11 0 58))
    (a1 : (0 ≤ (B' 819298 0 (q)) ∧ (B' 819298 0 (q)) ≤ 3) ∧ (0 ≤ (B' 819297 0 (q)) ∧ (B' 819297 0 (q)) < 48) ∧ (¬ (B' 819298 0 (q)) = 0 → (B' 819297 0 (q)) < (B 14408 0 (4))))
    (a2 : ∀ x : Int, 0 ≤ x → x < 400 → (B' 819298 0 (x)) = 2 → x = rn B') (a3 : -(B' 11 0 58) ≤ (B' 819812 0 (q)) ∧ (B' 819812 0 (q)) ≤ (B' 11 0 58))
    (a4 : ¬ (B' 819561 0 (q)) = 0 → ((B' 819298 0 (q)) = 1 ∨ (B' 819298 0 (q)) = 2) ∧ ¬ inn B (B' 819297 0 (q)) = -1) (a5 : (B' 819298 0 (q)) = 3 → ¬ (B 98388 0 ((B' 819297 0 (q)))) = 0)
    (a6 : ∀ r : Int, 0 ≤ r → r < 32 → (B 65639 0 (r)) = 1 + q → (B' 819298 0 (q)) = 1 ∨ (B' 819298 0 (q)) = 2)
    (a7 : ∀ p : Int, 0 ≤ p → p < 400 → ¬ p = q → ¬ (B 819298 0 (p)) = 0 → ¬ (B' 819298 0 (q)) = 0 → (B 819297 0 (p)) = (B' 819297 0 (q)) → (ldd B' q ∨ (B' 819298 0 (q)) = 2) → (B 819298 0 (p)) = 1 ∧ ¬ ldd B p ∧ ((B' 819298 0 (q)) = 1 → ahb B' q p))
    (a8 : ∀ p : Int, 0 ≤ p → p < 400 → ¬ p = q → ¬ (B 819298 0 (p)) = 0 → ¬ (B' 819298 0 (q)) = 0 → (B 819297 0 (p)) = (B' 819297 0 (q)) → (ldd B p ∨ (B 819298 0 (p)) = 2) → (B' 819298 0 (q)) = 1 ∧ ¬ ldd B' q ∧ ((B 819298 0 (p)) = 1 → ahb B' p q))
    (a9 : (B' 819298 0 (q)) = 1 → (B' 819299 0 (q)) = cpr B' (1 + q)) : SB B' := by
  have ld : ∀ x : Int, ¬ x = q → (ldd B' x ↔ ldd B x) := fun x hx => by
    unfold ldd
    rw [(e1 x hx).2.2.2.2]
    simp only [(e2 _).1]
  have ah : ∀ x y : Int, ¬ x = q → ¬ y = q → (ahb B' x y ↔ ahb B x y) := fun x y hx hy => by
    show ahp _ _ _ _ ↔ ahp _ _ _ _
    unfold ahp
    simp only [(e1 x hx).2.2.1, (e1 y hy).2.2.1, (e1 x hx).2.2.2.1, (e1 y hy).2.2.2.1]
  have m4 : (B' 14408 0 (4)) = (B 14408 0 (4)) := k _ _ _ rfl
  have m5 : (B' 14408 0 (5)) = (B 14408 0 (5)) := k _ _ _ rfl
  have m2 : (B' 14408 0 (2)) = (B 14408 0 (2)) := k _ _ _ rfl
  have ir : ∀ r, (B' 65867 0 (r)) = (B 65867 0 (r)) := fun r => k _ _ _ rfl
  have ev : ∀ r, (B' 98388 0 (r)) = (B 98388 0 (r)) := fun r => k _ _ _ rfl
  refine SB.mk (fun x x0 x1 => ?_) a2 (fun x x0 x1 => ?_) (fun x x0 x1 => ?_) (fun x x0 x1 => ?_) (fun r r0 r1 => ?_) (fun x p x0 x1 p0 p1 xp xs ps tt hl => ?_) (fun x x0 x1 => ?_) (by have := s.se; omega)
  · rw [m4]
    by_cases c : x = q
    · rw [c]; exact a1
    · rw [(e1 x c).1, (e1 x c).2.1]; exact s.rg x x0 x1
  · by_cases c : x = q
    · rw [c]; exact a3
    · rw [(e1 x c).2.2.2.1]; have := s.ky x x0 x1; omega
  · rw [k.inE]
    by_cases c : x = q
    · rw [c]; exact a4
    · rw [(e1 x c).1, (e1 x c).2.1, (e1 x c).2.2.2.2]; exact s.hi x x0 x1
  · rw [ev]
    by_cases c : x = q
    · rw [c]; exact a5
    · rw [(e1 x c).1, (e1 x c).2.1]; exact s.wt x x0 x1
  · rw [k.mrE, m2, m5, ir, (e2 r).1, (e2 r).2, e3]
    rcases s.hv r r0 r1 with d | ⟨d, f, g⟩
    · exact Or.inl d
    · refine Or.inr ⟨d, by omega, ?_⟩
      rcases g with ⟨g1, g2, g3⟩ | g
      · left
        refine ⟨g1, g2, ?_⟩
        by_cases c : (B 65639 0 (r)) - 1 = q
        · rw [c]; exact a6 r r0 r1 (by omega)
        · rw [(e1 _ c).1]; exact g3
      · exact Or.inr g
  · by_cases c : x = q
    · subst c
      have cp : ¬ p = x := fun z => xp z.symm
      rw [(e1 p cp).1] at ps ⊢
      rw [(e1 p cp).2.1] at tt
      rw [ld p cp]
      exact a7 p p0 p1 cp ps xs tt.symm hl
    · rw [(e1 x c).1] at xs hl ⊢
      rw [(e1 x c).2.1] at tt
      rw [ld x c] at hl
      by_cases d : p = q
      · subst d
        exact a8 x x0 x1 c xs ps tt hl
      · rw [(e1 p d).1] at ps ⊢
        rw [(e1 p d).2.1] at tt
        rw [ld p d, ah x p c d]
        exact s.ld x p x0 x1 p0 p1 xp xs ps tt hl
  · by_cases c : x = q
    · rw [c]; exact a9
    · rw [(e1 x c).1, (e1 x c).2.2.1]
      rw [cpr_cg k m (w := 1 + x) (fun r _ _ => by rw [(e2 r).1]) (by rw [show 1 + x - 1 = x by omega]; exact (e1 x c).2.1) (by rw [show 1 + x - 1 = x by omega]; exact (e1 x c).2.2.2.2)]
      exact s.rx x x0 x1
/-- a note on both sides -/
theorem rl_note {n : Int} {A B : AMem} (h : RL n A B) (v : Int) : RL (n + 1) (knt A v) (nt B v) := by
  have fc : frC A (knt A v) := frC.up rfl (frC.up rfl (frC.rf A))
  have fr : frR B (nt B v) := frR.up rfl (frR.up rfl (frR.rf B))
  have hb := h.no
  refine RL.mk (h.pl.fr fc fr) ?_ ?_ ?_ ?_ ?_ ?_ ?_ ?_ ?_ ?_ ?_ ?_ ?_ ?_ ?_ ?_ ?_ ?_ ?_ ?_ ?_ ?_ ?_ ?_ ?_ ?_ ?_ ?_ ?_ ?_
  · unfold SB; simp only [mup_same, mu_ng, mu_ni, mu_xi, mu_xt, cq_fr, rn_fr, mrs_fr, inn_fr, cpr_fr, opr_fr, ldd_fr, own_fr, ne_eq, Nat.reduceEqDiff, not_false_eq_true, Int.reduceEq, ↓reduceIte, nt]; exact h.sb
  · simp only [mup_same, mu_ng, mu_ni, mu_xi, mu_xt, cq_fr, rn_fr, mrs_fr, inn_fr, cpr_fr, opr_fr, ldd_fr, own_fr, ne_eq, Nat.reduceEqDiff, not_false_eq_true, Int.reduceEq, ↓reduceIte, knt, nt]; exact h.on
  · simp only [mup_same, mu_ng, mu_ni, mu_xi, mu_xt, cq_fr, rn_fr, mrs_fr, inn_fr, cpr_fr, opr_fr, ldd_fr, own_fr, ne_eq, Nat.reduceEqDiff, not_false_eq_true, Int.reduceEq, ↓reduceIte, knt, nt]; exact h.sh
  · simp only [mup_same, mu_ng, mu_ni, mu_xi, mu_xt, cq_fr, rn_fr, mrs_fr, inn_fr, cpr_fr, opr_fr, ldd_fr, own_fr, ne_eq, Nat.reduceEqDiff, not_false_eq_true, Int.reduceEq, ↓reduceIte, knt, nt]; omega
  · intro i i0 i1
    have e := h.na i i0 i1
    simp only [mup_same, mu_ng, mu_ni, mu_xi, mu_xt, cq_fr, rn_fr, mrs_fr, inn_fr, cpr_fr, opr_fr, ldd_fr, own_fr, ne_eq, Nat.reduceEqDiff, not_false_eq_true, Int.reduceEq, ↓reduceIte, knt, nt]
    rw [hb.1, e]
  · simp only [mup_same, mu_ng, mu_ni, mu_xi, mu_xt, cq_fr, rn_fr, mrs_fr, inn_fr, cpr_fr, opr_fr, ldd_fr, own_fr, ne_eq, Nat.reduceEqDiff, not_false_eq_true, Int.reduceEq, ↓reduceIte, knt, nt]; exact h.bt
  · simp only [mup_same, mu_ng, mu_ni, mu_xi, mu_xt, cq_fr, rn_fr, mrs_fr, inn_fr, cpr_fr, opr_fr, ldd_fr, own_fr, ne_eq, Nat.reduceEqDiff, not_false_eq_true, Int.reduceEq, ↓reduceIte, knt, nt]; exact h.cu
  · simp only [mup_same, mu_ng, mu_ni, mu_xi, mu_xt, cq_fr, rn_fr, mrs_fr, inn_fr, cpr_fr, opr_fr, ldd_fr, own_fr, ne_eq, Nat.reduceEqDiff, not_false_eq_true, Int.reduceEq, ↓reduceIte, knt, nt]; exact h.rq
  · simp only [mup_same, mu_ng, mu_ni, mu_xi, mu_xt, cq_fr, rn_fr, mrs_fr, inn_fr, cpr_fr, opr_fr, ldd_fr, own_fr, ne_eq, Nat.reduceEqDiff, not_false_eq_true, Int.reduceEq, ↓reduceIte, knt, nt]; exact h.wa
  · simp only [mup_same, mu_ng, mu_ni, mu_xi, mu_xt, cq_fr, rn_fr, mrs_fr, inn_fr, cpr_fr, opr_fr, ldd_fr, own_fr, ne_eq, Nat.reduceEqDiff, not_false_eq_true, Int.reduceEq, ↓reduceIte, knt, nt]; exact h.wf
  · simp only [mup_same, mu_ng, mu_ni, mu_xi, mu_xt, cq_fr, rn_fr, mrs_fr, inn_fr, cpr_fr, opr_fr, ldd_fr, own_fr, ne_eq, Nat.reduceEqDiff, not_false_eq_true, Int.reduceEq, ↓reduceIte, knt, nt]; exact h.hi
  · simp only [mup_same, mu_ng, mu_ni, mu_xi, mu_xt, cq_fr, rn_fr, mrs_fr, inn_fr, cpr_fr, opr_fr, ldd_fr, own_fr, ne_eq, Nat.reduceEqDiff, not_false_eq_true, Int.reduceEq, ↓reduceIte, knt, nt]; exact h.hx
  · simp only [mup_same, mu_ng, mu_ni, mu_xi, mu_xt, cq_fr, rn_fr, mrs_fr, inn_fr, cpr_fr, opr_fr, ldd_fr, own_fr, ne_eq, Nat.reduceEqDiff, not_false_eq_true, Int.reduceEq, ↓reduceIte, knt, nt]; exact h.hc
  · simp only [mup_same, mu_ng, mu_ni, mu_xi, mu_xt, cq_fr, rn_fr, mrs_fr, inn_fr, cpr_fr, opr_fr, ldd_fr, own_fr, ne_eq, Nat.reduceEqDiff, not_false_eq_true, Int.reduceEq, ↓reduceIte, knt, nt]; exact h.hd
  · simp only [mup_same, mu_ng, mu_ni, mu_xi, mu_xt, cq_fr, rn_fr, mrs_fr, inn_fr, cpr_fr, opr_fr, ldd_fr, own_fr, ne_eq, Nat.reduceEqDiff, not_false_eq_true, Int.reduceEq, ↓reduceIte, knt, nt]; exact h.hs
  · simp only [mup_same, mu_ng, mu_ni, mu_xi, mu_xt, cq_fr, rn_fr, mrs_fr, inn_fr, cpr_fr, opr_fr, ldd_fr, own_fr, ne_eq, Nat.reduceEqDiff, not_false_eq_true, Int.reduceEq, ↓reduceIte, knt, nt]; exact h.ho
  · simp only [mup_same, mu_ng, mu_ni, mu_xi, mu_xt, cq_fr, rn_fr, mrs_fr, inn_fr, cpr_fr, opr_fr, ldd_fr, own_fr, ne_eq, Nat.reduceEqDiff, not_false_eq_true, Int.reduceEq, ↓reduceIte, knt, nt]; exact h.bc
  · simp only [mup_same, mu_ng, mu_ni, mu_xi, mu_xt, cq_fr, rn_fr, mrs_fr, inn_fr, cpr_fr, opr_fr, ldd_fr, own_fr, ne_eq, Nat.reduceEqDiff, not_false_eq_true, Int.reduceEq, ↓reduceIte, knt, nt]; exact h.bg
  · simp only [mup_same, mu_ng, mu_ni, mu_xi, mu_xt, cq_fr, rn_fr, mrs_fr, inn_fr, cpr_fr, opr_fr, ldd_fr, own_fr, ne_eq, Nat.reduceEqDiff, not_false_eq_true, Int.reduceEq, ↓reduceIte, knt, nt]; exact h.bo
  · simp only [mup_same, mu_ng, mu_ni, mu_xi, mu_xt, cq_fr, rn_fr, mrs_fr, inn_fr, cpr_fr, opr_fr, ldd_fr, own_fr, ne_eq, Nat.reduceEqDiff, not_false_eq_true, Int.reduceEq, ↓reduceIte, knt, nt]; exact h.bi
  · simp only [mup_same, mu_ng, mu_ni, mu_xi, mu_xt, cq_fr, rn_fr, mrs_fr, inn_fr, cpr_fr, opr_fr, ldd_fr, own_fr, ne_eq, Nat.reduceEqDiff, not_false_eq_true, Int.reduceEq, ↓reduceIte, knt, nt]; exact h.ca
  · simp only [mup_same, mu_ng, mu_ni, mu_xi, mu_xt, cq_fr, rn_fr, mrs_fr, inn_fr, cpr_fr, opr_fr, ldd_fr, own_fr, ne_eq, Nat.reduceEqDiff, not_false_eq_true, Int.reduceEq, ↓reduceIte, knt, nt]; exact h.st
  · simp only [mup_same, mu_ng, mu_ni, mu_xi, mu_xt, cq_fr, rn_fr, mrs_fr, inn_fr, cpr_fr, opr_fr, ldd_fr, own_fr, ne_eq, Nat.reduceEqDiff, not_false_eq_true, Int.reduceEq, ↓reduceIte, knt, nt]; exact h.co
  · unfold CO; simp only [mup_same, mu_ng, mu_ni, mu_xi, mu_xt, cq_fr, rn_fr, mrs_fr, inn_fr, cpr_fr, opr_fr, ldd_fr, own_fr, ne_eq, Nat.reduceEqDiff, not_false_eq_true, Int.reduceEq, ↓reduceIte, knt, nt]; exact h.ko
  · simp only [mup_same, mu_ng, mu_ni, mu_xi, mu_xt, cq_fr, rn_fr, mrs_fr, inn_fr, cpr_fr, opr_fr, ldd_fr, own_fr, ne_eq, Nat.reduceEqDiff, not_false_eq_true, Int.reduceEq, ↓reduceIte, knt, nt]; exact h.wg
  · simp only [mup_same, mu_ng, mu_ni, mu_xi, mu_xt, cq_fr, rn_fr, mrs_fr, inn_fr, cpr_fr, opr_fr, ldd_fr, own_fr, ne_eq, Nat.reduceEqDiff, not_false_eq_true, Int.reduceEq, ↓reduceIte, knt, nt]; exact h.au
  · simp only [mup_same, mu_ng, mu_ni, mu_xi, mu_xt, cq_fr, rn_fr, mrs_fr, inn_fr, cpr_fr, opr_fr, ldd_fr, own_fr, ne_eq, Nat.reduceEqDiff, not_false_eq_true, Int.reduceEq, ↓reduceIte, knt, nt]; exact h.ad
  · simp only [mup_same, mu_ng, mu_ni, mu_xi, mu_xt, cq_fr, rn_fr, mrs_fr, inn_fr, cpr_fr, opr_fr, ldd_fr, own_fr, ne_eq, Nat.reduceEqDiff, not_false_eq_true, Int.reduceEq, ↓reduceIte, knt, nt]; exact h.ee
  · simp only [mup_same, mu_ng, mu_ni, mu_xi, mu_xt, cq_fr, rn_fr, mrs_fr, inn_fr, cpr_fr, opr_fr, ldd_fr, own_fr, ne_eq, Nat.reduceEqDiff, not_false_eq_true, Int.reduceEq, ↓reduceIte, knt, nt]; exact h.of
  · simp only [mup_same, mu_ng, mu_ni, mu_xi, mu_xt, cq_fr, rn_fr, mrs_fr, inn_fr, cpr_fr, opr_fr, ldd_fr, own_fr, ne_eq, Nat.reduceEqDiff, not_false_eq_true, Int.reduceEq, ↓reduceIte, knt, nt]; exact h.rx
theorem RL.mono {n n' : Int} {A B : AMem} (h : RL n A B) (hn : n ≤ n') : RL n' A B := by
  have a := h.no
  exact RL.mk h.pl h.sb h.on h.sh ⟨a.1, a.2.1, by omega, by omega⟩ h.na h.bt h.cu h.rq h.wa h.wf h.hi h.hx h.hc h.hd h.hs h.ho h.bc h.bg h.bo h.bi h.ca h.st h.co h.ko h.wg h.au h.ad h.ee h.of h.rx
