/-! ===== both sides see the same: rings, NAMES, parts ===== -/
theorem cnt_n (p : Nat → Bool) : ∀ n : Nat, cnt p n ≤ n
  | 0 => by show (0 : Int) ≤ 0; decide
  | n + 1 => by
    have := cnt_n p n
    show cnt p n + (if p n = true then 1 else 0) ≤ ((n + 1 : Nat) : Int)
    split <;> omega
/-- two of many are the same -/
theorem pgn (N : Nat) (s : Nat → Nat) (h : ∀ i, i ≤ N → s i < N) : ∃ i j : Nat, i < j ∧ j ≤ N ∧ s i = s j := by
  by_cases c : ∃ i j : Nat, i < j ∧ j ≤ N ∧ s i = s j
  · exact c
  · exfalso
    have z := inj_cnt N (N + 1) (fun _ => true) s (fun i a => ⟨h i (by omega), rfl⟩) (fun i j a b e => c ⟨i, j, a, by omega, e⟩)
    have := cnt_n (fun _ => true) N
    omega
section EQ3
variable {M Y : AMem} {K : Nat → Int} {T F : Nat} {m : Int}
theorem prn_b (c1 : C1 M K T F) (h0 : 0 ≤ m) (h1 : m < (M 11 0 19)) : ∀ n : Nat, prn M m n = -1 ∨ (0 ≤ prn M m n ∧ prn M m n < (M 11 0 19))
  | 0 => Or.inr ⟨h0, h1⟩
  | n + 1 => mng_b M _ c1.ib.1.1
theorem prn_c (c1 : C1 M K T F) (c2 : C2 Y K T F) (ln : LN M Y K F) (h0 : 0 ≤ m) (h1 : m < (M 11 0 19)) : ∀ n : Nat, (∀ i : Nat, i < n → pas M (prn M m i)) → cen Y K m n = prn M m n
  | 0, _ => rfl
  | n + 1, h => by
    have ih := prn_c c1 c2 ln h0 h1 n (fun i a => h i (by omega))
    have p := h n (by omega)
    have b := (prn_b c1 h0 h1 n).resolve_left p.1
    show cio Y K (cen Y K m n) 3 = mng M ((M 1433667 0 (prn M m n)) + 2)
    rw [ih]
    exact (as_e c1 c2 ln b.1 b.2).1 p
theorem ring_e (c1 : C1 M K T F) (c2 : C2 Y K T F) (ln : LN M Y K F) (h0 : 0 ≤ m) (h1 : m < (M 11 0 19)) : prf M m = -1 ↔ ces Y K m := by
  have i0 := c1.ib.1
  have ie := its_eq c1 c2
  have e : prf M m = -1 ↔ ∀ n : Nat, n ≤ (M 11 0 19).toNat → pas M (prn M m n) := by
    unfold prf
    rcases fnd_spec (fun n => !(decide (pas M (prn M m n)))) ((M 11 0 19) + 1).toNat 0 with ⟨a, b⟩ | ⟨w, q1, q2, q3, q4, q5⟩
    · refine ⟨fun _ n l => ?_, fun _ => a⟩
      have := b n (by omega) (by omega)
      rw [Bool.not_eq_false', decide_eq_true_iff] at this
      exact this
    · refine ⟨fun z => by omega, fun z => ?_⟩
      rw [Bool.not_eq_true', decide_eq_false_iff_not] at q4
      exact absurd (z w (by omega)) q4
  rw [e]
  unfold ces
  rw [← ie, show ((M 11 0 19) + 1).toNat = (M 11 0 19).toNat + 1 by omega]
  constructor
  · intro h
    rw [prn_c c1 c2 ln h0 h1 _ (fun i a => h i (by omega))]
    have val : ∀ n : Nat, n ≤ (M 11 0 19).toNat → 0 ≤ prn M m n ∧ prn M m n < (M 11 0 19) := fun n l => (prn_b c1 h0 h1 n).resolve_left (h n l).1
    obtain ⟨i, j, a, b, c⟩ := pgn (M 11 0 19).toNat (fun n => (prn M m n).toNat) (fun n l => by have := val n l; show (prn M m n).toNat < _; omega)
    have c : prn M m i = prn M m j := by
      have v1 := val i (by omega)
      have v2 := val j b
      have c : (prn M m i).toNat = (prn M m j).toNat := c
      omega
    have per : ∀ k : Nat, prn M m (i + k) = prn M m (j + k) := by
      intro k
      induction k with
      | zero => exact c
      | succ k ih =>
        show mng M ((M 1433667 0 (prn M m (i + k))) + 2) = mng M ((M 1433667 0 (prn M m (j + k))) + 2)
        rw [ih]
    have p := per ((M 11 0 19).toNat + 1 - j)
    rw [show j + ((M 11 0 19).toNat + 1 - j) = (M 11 0 19).toNat + 1 by omega] at p
    rw [← p]
    exact (h _ (by omega)).1
  · intro h
    have ne : ∀ n : Nat, n ≤ (M 11 0 19).toNat + 1 → ¬ cen Y K m n = -1 := fun n l z => h (cen_n n _ z l)
    intro n
    induction n using Nat.strongRecOn with
    | _ n ih =>
      intro l
      have q := prn_c c1 c2 ln h0 h1 n (fun i a => ih i a (by omega))
      by_cases p : pas M (prn M m n)
      · exact p
      · exfalso
        have z := ne n (by omega)
        rw [q] at z
        have b := (prn_b c1 h0 h1 n).resolve_left z
        refine ne (n + 1) (by omega) ?_
        show cio Y K (cen Y K m n) 3 = -1
        rw [q]
        exact (as_e c1 c2 ln b.1 b.2).2 p
/-- where NAMES begin -/
theorem lst_b {s s' : Nat} {P : Nat → Int → Prop} (h0 : s ≠ 0 ∧ s' ≠ 0) (e4 : ∀ s0 k, dt s0 k = s → P s0 k ∨ (s0 = s' ∧ k = 4)) (e5 : ∀ s0 k, dt s0 k = s' → s0 = s ∧ k = 2) : ∀ v : Nat, dst K v = s → K v = 2 → ∃ u d : Nat, v = u + 1 + 2 * d ∧ P (dst K u) (K u) ∧ (∀ c : Nat, c < d → K (u + 2 + 2 * c) = 4) ∧ ∀ c : Nat, c ≤ d → K (u + 1 + 2 * c) = 2 ∧ dst K (u + 1 + 2 * c) = s := by
  intro v
  induction v using Nat.strongRecOn with
  | _ v ih =>
    intro hs k2
    obtain ⟨w, e1, q1⟩ := st_p hs h0.1
    rcases e4 _ _ q1 with q | ⟨q2, q3⟩
    · exact ⟨w, 0, by omega, q, fun c l => by omega, fun c l => by rw [show c = 0 by omega, show w + 1 + 2 * 0 = v by omega]; exact ⟨k2, hs⟩⟩
    · obtain ⟨x, e2, q4⟩ := st_p q2 h0.2
      obtain ⟨q5, q6⟩ := e5 _ _ q4
      obtain ⟨u, d, a1, a2, a3, a4⟩ := ih x (by omega) q5 q6
      refine ⟨u, d + 1, by omega, a2, fun c l => ?_, fun c l => ?_⟩
      · by_cases z : c = d
        · rw [z, show u + 2 + 2 * d = w by omega]; exact q3
        · exact a3 c (by omega)
      · by_cases z : c = d + 1
        · rw [z, show u + 1 + 2 * (d + 1) = v by omega]; exact ⟨k2, hs⟩
        · exact a4 c (by omega)
/-- NAMES hold no begin of an ITEM -/
theorem lst_j {u d j v : Nat} (hd : dit K j) (ev : v = u + 1 + 2 * d) (a3 : ∀ c : Nat, c < d → K (u + 2 + 2 * c) = 4) (a4 : ∀ c : Nat, c ≤ d → K (u + 1 + 2 * c) = 2) (hu : u < j) (hv : j ≤ v) : False := by
  have l := hd.2.2
  obtain ⟨x, e | e⟩ : ∃ x : Nat, j = u + 1 + 2 * x ∨ j = u + 2 + 2 * x := ⟨(j - u - 1) / 2, by omega⟩
  · have := a4 x (by omega)
    rw [← e] at this
    omega
  · have := a3 x (by omega)
    rw [← e] at this
    omega
theorem wt_e (c1 : C1 M K T F) (c2 : C2 Y K T F) (ln : LN M Y K F) (h0 : 0 ≤ m) (h1 : m < (M 11 0 19)) (ev : Int) : wtf M K m ev ↔ cwt Y K m ev := by
  obtain ⟨j, f, i1, i2, i3, i4, i5, i6, i7, i8, i9, _⟩ := LI c1 c2 h0 h1
  unfold wtf cwt
  rw [i7.1, i8.1, i7.2, i8.2]
  constructor
  · rintro ⟨u, d, a1, a2, a3, a4, a5⟩
    have s1 : dst K (u + 1) = 24 := by
      have z := ok_9 (i := u + 1) c1.ok (by omega)
      have z3 : dst K (u + 1) = dt (dst K u) 34 := by rw [← a3]; rfl
      rw [z3] at z ⊢
      exact (dt_34 _).resolve_left z
    have key : ∀ c : Nat, c ≤ d → dst K (u + 1 + 2 * c) = 24 ∧ u + 1 + 2 * c < f := by
      intro c
      induction c with
      | zero =>
        intro _
        refine ⟨s1, ?_⟩
        by_cases z : f = u + 1
        · exact (dxt_n i5 z s1 rfl).elim
        · omega
      | succ c ih =>
        intro l
        obtain ⟨q1, q2⟩ := ih (by omega)
        obtain ⟨g1, g2, g3⟩ := W_2 (w := 2) (s1 := 25) c1.ok q1 (by omega) rfl rfl
        have k4 := a4 c (by omega)
        have k4 : K (u + 1 + 2 * c + 1) = 4 := by rw [show u + 1 + 2 * c + 1 = u + 2 + 2 * c by omega]; exact k4
        have nf : ¬ f = u + 1 + 2 * c + 1 := fun z => by
          have q := i5.2.2
          rw [z, g2, k4] at q
          exact absurd q (by decide)
        have s3 : dst K (u + 1 + 2 * c + 1 + 1) = 24 := by rw [dst_s g2, k4]; rfl
        rw [show u + 1 + 2 * (c + 1) = u + 1 + 2 * c + 1 + 1 by omega]
        refine ⟨s3, ?_⟩
        by_cases z : f = u + 1 + 2 * c + 1 + 1
        · exact (dxt_n i5 z s3 rfl).elim
        · omega
    obtain ⟨q1, q2⟩ := key d (by omega)
    obtain ⟨g1, g2, g3⟩ := W_2 (w := 2) (s1 := 25) c1.ok q1 (by omega) rfl rfl
    refine ⟨by omega, u + 1 + 2 * d, by omega, by omega, rol_e q1 g1, ?_⟩
    rw [mng_eq c1 c2 ln (by omega) g1] at a5
    exact a5
  · rintro ⟨_, v, a1, a2, a3, a4⟩
    have s := dr_9 _ _ a3
    obtain ⟨g1, g2, g3⟩ := W_2 (w := 2) (s1 := 25) c1.ok s (by omega) rfl rfl
    obtain ⟨u, d, b1, b2, b3, b4⟩ := lst_b (s := 24) (s' := 25) (P := fun _ k => k = 34) (by decide) (fun s0 k q => (dp_24 s0 k q).imp (fun z => z.2) id) (fun s0 k q => dp_25 s0 k q) v s g1
    have ju : j < u := by
      by_cases z : u < j
      · exact (lst_j i1 b1 b3 (fun c l => (b4 c l).1) z (by omega)).elim
      · by_cases z2 : u = j
        · have := i1.2.2
          have b2 : K u = 34 := b2
          rw [z2] at b2
          omega
        · omega
    have ju2 : ¬ u = j + 1 := fun z => by
      have b2 : K u = 34 := b2
      rw [z, i4] at b2
      exact absurd b2 (by decide)
    refine ⟨u, d, by omega, by omega, b2, b3, ?_⟩
    rw [← b1, mng_eq c1 c2 ln (by omega) g1]
    exact a4
/-! the states within a task, within an ISR -/
theorem dt_o (s : Nat) (k : Int) (hk : k < 2 ∨ 34 < k) : dt s k = 99 := by
  have h0 : d0 k = 99 := by unfold d0; rw [if_neg (by omega)]
  have h3 : d3 k = 99 := by
    unfold d3
    rw [if_neg (by omega), if_neg (by omega), if_neg (by omega), if_neg (by omega), if_neg (by omega)]
    exact h0
  have hw : ∀ w t, 2 ≤ w → w ≤ 34 → dw k w t = 99 := fun w t h h' => by unfold dw; rw [if_neg (by omega)]
  unfold dt
  split <;> first | rfl | exact h0 | exact h3 | exact hw _ _ (by decide) (by decide) | (repeat rw [if_neg (by omega)]) <;> first | exact h0 | exact h3
theorem dt_g (s : Nat) (k : Int) (hs : 43 ≤ s) : dt s k = 99 := by
  unfold dt
  split <;> first | rfl | (exfalso; omega)
theorem fAB : ((List.range 43).all fun s => (List.range 35).all fun x => decide (10 ≤ x ∧ x ≤ 16) || decide (1 ≤ s ∧ s ≤ 7) || (dt s x == 99) || ((decide (16 ≤ dt s x ∧ dt s x ≤ 25) == decide (16 ≤ s ∧ s ≤ 25)) && (decide (26 ≤ dt s x ∧ dt s x ≤ 30) == decide (26 ≤ s ∧ s ≤ 30)))) = true := by decide +kernel
theorem fA (s : Nat) (x : Int) (hs : ¬ (1 ≤ s ∧ s ≤ 7)) (hx : ¬ (10 ≤ x ∧ x ≤ 16)) (h9 : dt s x ≠ 99) : ((16 ≤ dt s x ∧ dt s x ≤ 25) ↔ (16 ≤ s ∧ s ≤ 25)) ∧ ((26 ≤ dt s x ∧ dt s x ≤ 30) ↔ (26 ≤ s ∧ s ≤ 30)) := by
  have a : s < 43 := by
    by_cases c : s < 43
    · exact c
    · exact absurd (dt_g s x (by omega)) h9
  have b : 2 ≤ x ∧ x ≤ 34 := by
    by_cases c : x < 2 ∨ 34 < x
    · exact absurd (dt_o s x c) h9
    · omega
  have h := List.all_eq_true.mp (List.all_eq_true.mp fAB s (List.mem_range.mpr a)) x.toNat (List.mem_range.mpr (by omega))
  rw [show (x.toNat : Int) = x by omega] at h
  simp only [Bool.or_eq_true, Bool.and_eq_true, beq_iff_eq, decide_eq_true_eq, decide_eq_decide] at h
  rcases h with ((h | h) | h) | h
  · omega
  · exact absurd h hs
  · exact absurd h h9
  · exact h
theorem fm_t (ok : dok K F) {j : Nat} (hd : dit K j) (k2 : K (j + 1) = 2) : ∀ n : Nat, j + 2 + n ≤ F → nd K (j + 2) (j + 2 + n) → ((16 ≤ dst K (j + 2 + n) ∧ dst K (j + 2 + n) ≤ 25) ↔ K j = 14) ∧ ((26 ≤ dst K (j + 2 + n) ∧ dst K (j + 2 + n) ≤ 30) ↔ K j = 15) := by
  intro n
  induction n with
  | zero =>
    intro _ _
    show ((16 ≤ dst K (j + 2) ∧ dst K (j + 2) ≤ 25) ↔ K j = 14) ∧ ((26 ≤ dst K (j + 2) ∧ dst K (j + 2) ≤ 30) ↔ K j = 15)
    rw [dit_dsb hd k2]
    have l := hd.2.2
    unfold dsb
    obtain e | e | e | e | e | e | e : K j = 10 ∨ K j = 11 ∨ K j = 12 ∨ K j = 13 ∨ K j = 14 ∨ K j = 15 ∨ K j = 16 := by omega
    all_goals (rw [e]; decide)
  | succ n ih =>
    intro l hn
    have i := ih (by omega) ⟨by omega, fun t a b => hn.2 t a (by omega)⟩
    have z := hn.2 (j + 2 + n) (by omega) (by omega)
    have z9 := ok_9 (i := j + 2 + n + 1) ok (by omega)
    have ns : ¬ (1 ≤ dst K (j + 2 + n) ∧ dst K (j + 2 + n) ≤ 7) := fun q => by
      obtain ⟨w, w1, w2, w3⟩ := st_it (K := K) rfl q
      by_cases c : n = 0
      · rw [show w = j + 1 by omega] at w2
        have := w2.2.2
        rw [k2] at this
        omega
      · exact hn.2 w (by omega) (by omega) w2.2.2
    have a := fA _ _ ns z z9
    exact ⟨a.1.trans i.1, a.2.trans i.2⟩
end EQ3
