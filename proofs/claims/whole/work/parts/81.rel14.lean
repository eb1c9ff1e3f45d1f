/-! ===== ticks on both sides ===== -/
theorem mu_2 (M : AMem) (g : Nat) (t i v w : Int) : mup (mup M g t i v) g t i w = mup M g t i w := by
  funext a b c
  unfold mup
  by_cases h : a = g ∧ b = t ∧ c = i
  · rw [if_pos h, if_pos h]
  · rw [if_neg h, if_neg h, if_neg h]
theorem mu_id {M : AMem} {g : Nat} {t i v : Int} (h : M g t i = v) : mup M g t i v = M := by
  funext a b c
  unfold mup
  by_cases e : a = g ∧ b = t ∧ c = i
  · rw [if_pos e, e.1, e.2.1, e.2.2, h]
  · rw [if_neg e]
theorem RL.rQ {n : Int} {A B : AMem} (h : RL n A B) (t : Int) (t0 : 0 ≤ t) (t1 : t < (B 14408 0 (4))) : RQ A t := by
  have hm := h.mB
  have m4 : 0 ≤ (B 14408 0 (4)) ∧ (B 14408 0 (4)) ≤ 48 := by unfold MB at hm; omega
  have p := h.pl.nb.2 t t0 (by omega)
  have c := h.cq8 t t0 (by omega)
  have r := (h.rq t t0 (by omega)).1
  exact ⟨⟨t0, by omega⟩, h.sz.1, p.1, by omega, by omega⟩
theorem RL.kM {n : Int} {A B : AMem} (h : RL n A B) (hn : n < 2146000000) (a : Int) (a0 : 0 ≤ a) (a1 : a < (B 14408 0 (6))) : KM A a := by
  have hm := h.mB
  have m6 : (0 ≤ (B 14408 0 (6)) ∧ (B 14408 0 (6)) ≤ 48) ∧ (0 ≤ (B 14408 0 (3)) ∧ (B 14408 0 (3)) ≤ 16) := by unfold MB at hm; omega
  have al := h.pl.al a a0 a1
  have no := h.no
  have e := h.ee a a0 (by omega)
  refine ⟨⟨a0, by omega⟩, ⟨by omega, by omega⟩, fun z => ?_, ?_, ?_, e.1⟩
  · rw [al.2.1]
    rw [al.2.1, al.2.2] at z
    rcases h.pl.ac a a0 a1 with ⟨b1, b2, b3⟩ | ⟨b1, b2, b3⟩ | ⟨b1, b2, b3⟩
    · exact h.rQ _ b2.1 b2.2
    · exact h.rQ _ b2.1 b2.2
    · exact absurd ⟨b3, b2⟩ z
  · rw [al.1.1]; omega
  · rw [al.1.1]; exact h.cV _ al.1.2.1 al.1.2.2
theorem RL.rM {n : Int} {A B : AMem} (h : RL n A B) (hn : n < 2146000000) (a : Int) (a0 : 0 ≤ a) (a1 : a < (B 14408 0 (6))) : RM B a := by
  have hm := h.mB
  have m6 : (0 ≤ (B 14408 0 (6)) ∧ (B 14408 0 (6)) ≤ 48) ∧ (0 ≤ (B 14408 0 (3)) ∧ (B 14408 0 (3)) ≤ 16) ∧ (0 ≤ (B 14408 0 (4)) ∧ (B 14408 0 (4)) ≤ 48) := by unfold MB at hm; omega
  have al := h.pl.al a a0 a1
  have no := h.no
  have e := h.ee a a0 (by omega)
  have ct := (h.pl.ct _ al.1.2.1 al.1.2.2).1
  have co := (h.co _ al.1.2.1 al.1.2.2).1
  refine ⟨⟨a0, by omega⟩, ⟨h.sM (by omega), by omega⟩, by omega, h.wT, h.free, fun z => ?_, by omega, by omega, by omega, e.2⟩
  rcases h.pl.ac a a0 a1 with ⟨b1, b2, b3⟩ | ⟨b1, b2, b3⟩ | ⟨b1, b2, b3⟩
  · omega
  · omega
  · omega
/-- alarms are met one after the other -/
theorem rl_chain {n : Int} {A B : AMem} (h : RL n A B) (ho : ¬ (B 11 0 50) = 0) (c : Int) (c0 : 0 ≤ c) (c1 : c < (B 14408 0 (3))) : ∀ j : Nat, (j : Int) ≤ (B 14408 0 (6)) → RL (n + 2 * j) (kmm A c (A 9 (c) 3) j) (rmm B c j) ∧ kmn A c (A 9 (c) 3) j = rmn B c j
  | 0, _ => ⟨h.mono (by omega), rfl⟩
  | j + 1, hj => by
    obtain ⟨r, e⟩ := rl_chain h ho c c0 c1 j (by omega)
    have hm := h.mB
    have m6 : (0 ≤ (B 14408 0 (6)) ∧ (B 14408 0 (6)) ≤ 48) := by unfold MB at hm; omega
    have om : ((rmm B c j) 11 0 50) = (B 11 0 50) := rmm_ni _ _ (by decide) (by decide) _ _
    have mm : ((rmm B c j) 14408 0 (6)) = (B 14408 0 (6)) := rmm_ng _ _ (by decide) (by decide) (by decide) (by decide) (by decide) (by decide) (by decide) (by decide) (by decide) (by decide) _ _ _
    have cm : ((rmm B c j) 32876 0 (c)) = (B 32876 0 (c)) := rmm_ng _ _ (by decide) (by decide) (by decide) (by decide) (by decide) (by decide) (by decide) (by decide) (by decide) (by decide) _ _ _
    have cv := (h.co c c0 c1).1
    have al := (r.pl.al j (by omega) (by omega)).1
    have au := (r.au j (by omega) (by omega)).1
    have eq : (((kmm A c (A 9 (c) 3) j) 10 (j) 0) = c ∧ ¬ ((kmm A c (A 9 (c) 3) j) 10 (j) 6) = 0 ∧ ((kmm A c (A 9 (c) 3) j) 10 (j) 7) = (A 9 (c) 3)) ↔ (¬ ((rmm B c j) 98671 0 (j)) = 0 ∧ ((rmm B c j) 98393 0 (j)) = c ∧ ((rmm B c j) 98416 0 (j)) = ((rmm B c j) 32876 0 (c))) := by
      rw [al.1, au.1, cm, ← cv.1]
      constructor
      · rintro ⟨z1, z2, z3⟩
        have ad := (r.ad j (by omega) (by omega) z2).1
        exact ⟨z2, z1, by rw [← ad.1]; exact z3⟩
      · rintro ⟨z1, z2, z3⟩
        have ad := (r.ad j (by omega) (by omega) z1).1
        exact ⟨z2, z1, by rw [ad.1]; exact z3⟩
    have k1 : kmm A c (A 9 (c) 3) (j + 1) = if ((kmm A c (A 9 (c) 3) j) 10 (j) 0) = c ∧ ¬ ((kmm A c (A 9 (c) 3) j) 10 (j) 6) = 0 ∧ ((kmm A c (A 9 (c) 3) j) 10 (j) 7) = (A 9 (c) 3) then kme (kmm A c (A 9 (c) 3) j) j else kmm A c (A 9 (c) 3) j := rfl
    have k2 : kmn A c (A 9 (c) 3) (j + 1) = if ((kmm A c (A 9 (c) 3) j) 10 (j) 0) = c ∧ ¬ ((kmm A c (A 9 (c) 3) j) 10 (j) 6) = 0 ∧ ((kmm A c (A 9 (c) 3) j) 10 (j) 7) = (A 9 (c) 3) then kmn A c (A 9 (c) 3) j + 1 else kmn A c (A 9 (c) 3) j := rfl
    have k3 : rmm B c (j + 1) = if ¬ ((rmm B c j) 98671 0 (j)) = 0 ∧ ((rmm B c j) 98393 0 (j)) = c ∧ ((rmm B c j) 98416 0 (j)) = ((rmm B c j) 32876 0 (c)) then rme (rmm B c j) j else rmm B c j := rfl
    have k4 : rmn B c (j + 1) = if ¬ ((rmm B c j) 98671 0 (j)) = 0 ∧ ((rmm B c j) 98393 0 (j)) = c ∧ ((rmm B c j) 98416 0 (j)) = ((rmm B c j) 32876 0 (c)) then rmn B c j + 1 else rmn B c j := rfl
    rw [k1, k2, k3, k4]
    by_cases d : ¬ ((rmm B c j) 98671 0 (j)) = 0 ∧ ((rmm B c j) 98393 0 (j)) = c ∧ ((rmm B c j) 98416 0 (j)) = ((rmm B c j) 32876 0 (c))
    · rw [if_pos (eq.mpr d), if_pos (eq.mpr d), if_pos d, if_pos d, e]
      exact ⟨(rl_meet r (by rw [om]; exact ho) j (by omega) (by omega) d.1).mono (by omega), rfl⟩
    · rw [if_neg (fun z => d (eq.mp z)), if_neg (fun z => d (eq.mp z)), if_neg d, if_neg d, e]
      exact ⟨r.mono (by omega), rfl⟩
/-- a counter's step -/
theorem rl_cv {n : Int} {A B : AMem} (h : RL n A B) (ho : ¬ (B 11 0 50) = 0) (c : Int) (c0 : 0 ≤ c) (c1 : c < (B 14408 0 (3))) : RL n (tkvA A c (cvb A c 1)) (rtv B c) := by
  have ct := (h.pl.ct c c0 c1).1
  have cv := cvb_eq h c 1 c0 c1 (by omega) (by omega)
  have r := rl_tkv h ho c (cvb A c 1) c0 c1 cv.2.1 cv.2.2
  have e : rtv B c = tkvB B c (cvb A c 1) := by
    unfold rtv rt0 tkvB
    rw [mu_2, cv.1]
  rw [e]
  exact r
theorem cad_lo {A : AMem} {c : Int} (d : (A 9 (c) 4) + 1 < (A 9 (c) 1)) : cad A c = tk1A A c ((A 9 (c) 4) + 1) := by
  unfold cad tk1A
  rw [if_pos d]
theorem cad_hi {A : AMem} {c : Int} (d : ¬ (A 9 (c) 4) + 1 < (A 9 (c) 1)) : cad A c = tkvA A c (cvb A c 1) := by
  unfold cad tkvA
  rw [if_neg d, mu_2]
theorem stl_fr (B : AMem) : frR B (stl B) := by
  have nf : ∀ M v, frR B M → frR B (nt M v) := fun M v z => frR.up rfl (frR.up rfl z)
  refine stl_keep (P := fun M => frR B M) (frR.rf B) (fun b => ?_) (fun M q z => ?_) (fun M q z => ?_)
  · exact nf _ _ (frR.up rfl (frR.up rfl (frR.up rfl (frR.rf B))))
  · exact nf _ _ (frR.up rfl (frR.up rfl z))
  · exact frR.up rfl (frR.up rfl (frR.up rfl (nf _ _ (frR.up rfl z))))
theorem stl_on (B : AMem) : ((stl B) 11 0 50) = (B 11 0 50) := by
  refine stl_keep (P := fun M => (M 11 0 50) = (B 11 0 50)) rfl (fun b => ?_) (fun M q z => ?_) (fun M q z => ?_)
  · simp only [mup_same, mu_ng, mu_ni, mu_xi, mu_xt, cq_fr, rn_fr, mrs_fr, inn_fr, cpr_fr, opr_fr, ldd_fr, own_fr, ne_eq, Nat.reduceEqDiff, not_false_eq_true, Int.reduceEq, ↓reduceIte, beg, nt]
  · simp only [mup_same, mu_ng, mu_ni, mu_xi, mu_xt, cq_fr, rn_fr, mrs_fr, inn_fr, cpr_fr, opr_fr, ldd_fr, own_fr, ne_eq, Nat.reduceEqDiff, not_false_eq_true, Int.reduceEq, ↓reduceIte, rns, nt]; exact z
  · simp only [mup_same, mu_ng, mu_ni, mu_xi, mu_xt, cq_fr, rn_fr, mrs_fr, inn_fr, cpr_fr, opr_fr, ldd_fr, own_fr, ne_eq, Nat.reduceEqDiff, not_false_eq_true, Int.reduceEq, ↓reduceIte, pre, nt]; exact z
/-- one tick, on both sides -/
theorem rl_t1 {n : Int} {A B : AMem} (h : RL n A B) (ho : ¬ (B 11 0 50) = 0) (c : Int) (c0 : 0 ≤ c) (c1 : c < (B 14408 0 (3))) : RL (n + 96) (kt1 A c) (rt1 B c) ∧ kt1n A c = rt1n B c ∧ ((rt1 B c) 11 0 50) = (B 11 0 50) ∧ ((rt1 B c) 14408 0 (3)) = (B 14408 0 (3)) ∧ (∀ j : Nat, (j : Int) < (B 14408 0 (6)) → ∃ B2, RL (n + 96) (kmm (cad A c) c ((cad A c) 9 (c) 3) j) B2 ∧ (B2 14408 0 (6)) = (B 14408 0 (6))) ∧ (∀ j : Nat, (j : Int) < (B 14408 0 (6)) → ∃ A2, RL (n + 96) A2 (rmm (rtv B c) c j) ∧ ((rmm (rtv B c) c j) 14408 0 (6)) = (B 14408 0 (6))) := by
  have hm := h.mB
  have m6 : (0 ≤ (B 14408 0 (6)) ∧ (B 14408 0 (6)) ≤ 48) := by unfold MB at hm; omega
  have ct := h.pl.ct c c0 c1
  have co := h.co c c0 c1
  have rv := rl_cv h ho c c0 c1
  have onv : ((rtv B c) 11 0 50) = (B 11 0 50) := by simp only [mup_same, mu_ng, mu_ni, mu_xi, mu_xt, cq_fr, rn_fr, mrs_fr, inn_fr, cpr_fr, opr_fr, ldd_fr, own_fr, ne_eq, Nat.reduceEqDiff, not_false_eq_true, Int.reduceEq, ↓reduceIte, rtv, rt0]
  have mv : ∀ k, ((rtv B c) 14408 0 (k)) = (B 14408 0 (k)) := fun k => by simp only [mup_same, mu_ng, mu_ni, mu_xi, mu_xt, cq_fr, rn_fr, mrs_fr, inn_fr, cpr_fr, opr_fr, ldd_fr, own_fr, ne_eq, Nat.reduceEqDiff, not_false_eq_true, Int.reduceEq, ↓reduceIte, rtv, rt0]
  have t6 : ((tkvA A c (cvb A c 1)) 14370 0 (6)) = (B 14408 0 (6)) := by rw [← h.pl.t6]; simp only [mup_same, mu_ng, mu_ni, mu_xi, mu_xt, cq_fr, rn_fr, mrs_fr, inn_fr, cpr_fr, opr_fr, ldd_fr, own_fr, ne_eq, Nat.reduceEqDiff, not_false_eq_true, Int.reduceEq, ↓reduceIte, tkvA]
  have ch := rl_chain rv (by rw [onv]; exact ho) c c0 (by rw [mv]; exact c1)
  have mr : ∀ j k, ((rmm (rtv B c) c j) 14408 0 (k)) = (B 14408 0 (k)) := fun j k => by
    rw [rmm_ng _ _ (by decide) (by decide) (by decide) (by decide) (by decide) (by decide) (by decide) (by decide) (by decide) (by decide), mv]
  have onr : ∀ j, ((rmm (rtv B c) c j) 11 0 50) = (B 11 0 50) := fun j => by
    rw [rmm_ni _ _ (by decide) (by decide), onv]
  have last : ∀ j : Nat, (j : Int) < (B 14408 0 (6)) → ∃ A2, RL (n + 96) A2 (rmm (rtv B c) c j) ∧ ((rmm (rtv B c) c j) 14408 0 (6)) = (B 14408 0 (6)) := fun j hj => ⟨_, (ch j (by rw [mv]; omega)).1.mono (by omega), mr j 6⟩
  by_cases d : (A 9 (c) 4) + 1 < (A 9 (c) 1)
  · have d2 : ¬ (B 32877 0 (c)) + 1 = (B 32847 0 (c)) := by omega
    have r := rl_tk1 h ho c ((B 32877 0 (c)) + 1) (by omega) (by omega)
    have e1 : kt1 A c = tk1A A c ((B 32877 0 (c)) + 1) := by unfold kt1; rw [if_pos d, cad_lo d, co.2.1]
    have e2 : rt1 B c = tk1B B c ((B 32877 0 (c)) + 1) := by unfold rt1; rw [if_neg d2]; rfl
    have e3 : kt1n A c = 0 := by unfold kt1n; rw [if_pos d]
    have e4 : rt1n B c = 0 := by unfold rt1n; rw [if_neg d2]
    have on1 : ((tk1B B c ((B 32877 0 (c)) + 1)) 11 0 50) = (B 11 0 50) := by simp only [mup_same, mu_ng, mu_ni, mu_xi, mu_xt, cq_fr, rn_fr, mrs_fr, inn_fr, cpr_fr, opr_fr, ldd_fr, own_fr, ne_eq, Nat.reduceEqDiff, not_false_eq_true, Int.reduceEq, ↓reduceIte, tk1B]
    have mk : ∀ k, ((tk1B B c ((B 32877 0 (c)) + 1)) 14408 0 (k)) = (B 14408 0 (k)) := fun k => by simp only [mup_same, mu_ng, mu_ni, mu_xi, mu_xt, cq_fr, rn_fr, mrs_fr, inn_fr, cpr_fr, opr_fr, ldd_fr, own_fr, ne_eq, Nat.reduceEqDiff, not_false_eq_true, Int.reduceEq, ↓reduceIte, tk1B]
    rw [e1, e2, e3, e4]
    refine ⟨r.mono (by omega), rfl, on1, mk 3, fun j hj => ?_, last⟩
    rw [cad_lo d, co.2.1]
    have q := rl_chain r (by rw [on1]; exact ho) c c0 (by rw [mk]; exact c1) j (by rw [mk]; omega)
    exact ⟨_, q.1.mono (by omega), by rw [rmm_ng _ _ (by decide) (by decide) (by decide) (by decide) (by decide) (by decide) (by decide) (by decide) (by decide) (by decide), mk]⟩
  · have d2 : (B 32877 0 (c)) + 1 = (B 32847 0 (c)) := by omega
    have e1 : kt1 A c = kmm (tkvA A c (cvb A c 1)) c ((tkvA A c (cvb A c 1)) 9 (c) 3) (B 14408 0 (6)).toNat := by unfold kt1 kma; rw [if_neg d, cad_hi d, t6]
    have e2 : rt1 B c = rmm (rtv B c) c (B 14408 0 (6)).toNat := by unfold rt1; rw [if_pos d2]
    have e3 : kt1n A c = kmn (tkvA A c (cvb A c 1)) c ((tkvA A c (cvb A c 1)) 9 (c) 3) (B 14408 0 (6)).toNat := by unfold kt1n; rw [if_neg d, cad_hi d, t6]
    have e4 : rt1n B c = rmn (rtv B c) c (B 14408 0 (6)).toNat := by unfold rt1n; rw [if_pos d2]
    have q := ch (B 14408 0 (6)).toNat (by rw [mv]; omega)
    rw [e1, e2, e3, e4]
    refine ⟨q.1.mono (by omega), q.2, onr _, mr _ 3, fun j hj => ?_, last⟩
    rw [cad_hi d]
    exact ⟨_, (ch j (by rw [mv]; omega)).1.mono (by omega), mr j 6⟩
theorem RL.sTL {n : Int} {A B : AMem} (h : RL n A B) (hn : n < 2146000000) : STL B := ⟨h.mB, h.dep, h.wT, h.sM (by omega), (rl_stl h).2.2⟩
theorem rl_tick1 {n : Int} {A B : AMem} (h : RL n A B) (hn : n + 99 < 2146000000) (ho : ¬ (B 11 0 50) = 0) (c : Int) (c0 : 0 ≤ c) (c1 : c < (B 14408 0 (3))) : RL (n + 99) (ktk A c) (rtk B c) ∧ Std (ktk A c) ∧ kt1n A c = rt1n B c ∧ KT A c ∧ RT B c ∧ ((rtk B c) 11 0 50) = (B 11 0 50) ∧ ((rtk B c) 14408 0 (3)) = (B 14408 0 (3)) := by
  obtain ⟨r1, r2, r3, r4, r5, r6⟩ := rl_t1 h ho c c0 c1
  obtain ⟨s1, s2, s3⟩ := rl_stl r1
  have hm := h.mB
  have m6 : (0 ≤ (B 14408 0 (6)) ∧ (B 14408 0 (6)) ≤ 48) := by unfold MB at hm; omega
  have co := h.co c c0 c1
  have ct := h.pl.ct c c0 c1
  refine ⟨s1.mono (by omega), s2, r2, ⟨h.cV c c0 c1, by omega, by rw [h.pl.t6]; omega, fun j hj => ?_, r1.kS (by omega)⟩, ⟨by omega, m6, by omega, by omega, fun j hj => ?_, r1.sTL (by omega)⟩, ?_, ?_⟩
  · rw [h.pl.t6] at hj
    obtain ⟨B2, q1, q2⟩ := r5 j hj
    exact q1.kM (by omega) j (by omega) (by rw [q2]; exact hj)
  · obtain ⟨A2, q1, q2⟩ := r6 j hj
    exact q1.rM (by omega) j (by omega) (by rw [q2]; exact hj)
  · unfold rtk; rw [stl_on, r3]
  · unfold rtk; rw [stl_fr _ 14408 0 3 rfl, r4]
/-- many ticks -/
theorem rl_ticks {n : Int} {A B : AMem} (h : RL n A B) (ho : ¬ (B 11 0 50) = 0) (c : Int) (c0 : 0 ≤ c) (c1 : c < (B 14408 0 (3))) : ∀ j : Nat, n + 99 * j < 2146000000 → RL (n + 99 * j) (kts A c j) (rts B c j) ∧ (0 < j → Std (kts A c j)) ∧ ktn A c j = rtn B c j ∧ (∀ i : Nat, i < j → KT (kts A c i) c ∧ RT (rts B c i) c) ∧ ((rts B c j) 11 0 50) = (B 11 0 50) ∧ ((rts B c j) 14408 0 (3)) = (B 14408 0 (3))
  | 0, _ => ⟨h.mono (by omega), fun z => by omega, rfl, fun i hi => by omega, rfl, rfl⟩
  | j + 1, hj => by
    obtain ⟨a1, a2, a3, a4, a5, a6⟩ := rl_ticks h ho c c0 c1 j (by omega)
    obtain ⟨b1, b2, b3, b4, b5, b6, b7⟩ := rl_tick1 a1 (by omega) (by rw [a5]; exact ho) c c0 (by rw [a6]; exact c1)
    refine ⟨b1.mono (by omega), fun _ => b2, ?_, fun i hi => ?_, b6.trans a5, b7.trans a6⟩
    · show ktn A c j + kt1n (kts A c j) c = rtn B c j + rt1n (rts B c j) c
      rw [a3, b3]
    · by_cases e : i = j
      · subst e; exact ⟨b4, b5⟩
      · exact a4 i (by omega)
/-- the reference counts its waiting ticks down; the class has forgotten them at once -/
theorem mu_jw (M : AMem) (d v : Int) : mup M 32878 0 d v = jw (fun t i => mup M 32878 0 d v 32878 t i) M := by
  funext g t i
  unfold jw
  by_cases z : g = 32878
  · rw [if_pos z, z]
  · rw [if_neg z, mu_ng z]
theorem rtk_mu (M : AMem) (c d v : Int) : rtk (mup M 32878 0 d v) c = mup (rtk M c) 32878 0 d v := by
  have e : mup M 32878 0 d v = jw (fun t i => mup M 32878 0 d v 32878 t i) M := by
    funext g t i
    unfold jw
    by_cases z : g = 32878
    · rw [if_pos z, z]
    · rw [if_neg z, mu_ng z]
  have e2 : rtk (jw (fun t i => mup M 32878 0 d v 32878 t i) M) c = jw (fun t i => mup M 32878 0 d v 32878 t i) (rtk M c) := rtk_jw _ _ _
  rw [e, e2]
  funext g t i
  unfold jw
  by_cases z : g = 32878
  · rw [if_pos z, z]
    unfold mup
    rw [rtk_w]
  · rw [if_neg z, mu_ng z]
theorem rts_wg (M : AMem) (c d : Int) : ∀ j : Nat, ((rts M c j) 32878 0 (d)) = (M 32878 0 (d))
  | 0 => rfl
  | j + 1 => by
    show rtk (rts M c j) c 32878 0 d = _
    rw [rtk_w, rts_wg M c d j]
theorem rwn_eq (M : AMem) (c : Int) : ∀ j : Nat, rwn M c j = mup (rts (mup M 32878 0 (c) (0)) c j) 32878 0 c ((M 32878 0 (c)) - j)
  | 0 => by
    show M = mup (mup M 32878 0 c 0) 32878 0 c ((M 32878 0 (c)) - ((0 : Nat) : Int))
    rw [mu_2, mu_id (by omega)]
  | j + 1 => by
    show rtk (mup (rwn M c j) 32878 0 c ((M 32878 0 (c)) - (j + 1))) c = mup (rtk (rts (mup M 32878 0 (c) (0)) c j) c) 32878 0 c ((M 32878 0 (c)) - ((j + 1 : Nat) : Int))
    rw [rwn_eq M c j, mu_2, rtk_mu]
    rfl
theorem rwn_all (M : AMem) (c : Int) (h : 0 ≤ (M 32878 0 (c))) : rwn M c (M 32878 0 (c)).toNat = rts (mup M 32878 0 (c) (0)) c (M 32878 0 (c)).toNat := by
  rw [rwn_eq, mu_id]
  rw [rts_wg, mup_same]
  omega
theorem RT_mu {M : AMem} {c d v : Int} (h : RT M c) : RT (mup M 32878 0 d v) c := by
  rw [mu_jw, RT_jw]
  exact h
/-- the waiting ticks of all counters -/
theorem rl_open {n : Int} {A B : AMem} (h : RL n A B) (ho : ¬ (B 11 0 50) = 0) (hn : n + 16 * 198000 < 2146000000) : ∀ k : Nat, (k : Int) ≤ (B 14408 0 (3)) → RL (n + 198000 * k) (kdw A k) (row B k) ∧ ((row B k) 11 0 50) = (B 11 0 50) ∧ ((row B k) 14408 0 (3)) = (B 14408 0 (3)) ∧ (∀ c : Nat, c < k → (∀ j : Nat, (j : Int) < ((kdw A c) 9 (c) 5) → KT (kts (mup (kdw A c) 9 (c) 5 (0)) c j) c) ∧ ∀ j : Nat, (j : Int) < ((row B c) 32878 0 (c)) → RT (rts (mup (row B c) 32878 0 (c) (0)) c j) c)
  | 0, _ => ⟨h.mono (by omega), rfl, rfl, fun c hc => by omega⟩
  | k + 1, hk => by
    obtain ⟨a1, a2, a3, a4⟩ := rl_open h ho hn k (by omega)
    have hm := h.mB
    have m3 : (0 ≤ (B 14408 0 (3)) ∧ (B 14408 0 (3)) ≤ 16) := by unfold MB at hm; omega
    have w := (a1.wg k (by omega) (by omega)).1
    have r := rl_wg a1 (by rw [a2]; exact ho) k 0 (by rw [a3]; omega) (by omega) (by omega)
    have on2 : ((wgB (row B k) k 0) 11 0 50) = (B 11 0 50) := by rw [← a2]; simp only [mup_same, mu_ng, mu_ni, mu_xi, mu_xt, cq_fr, rn_fr, mrs_fr, inn_fr, cpr_fr, opr_fr, ldd_fr, own_fr, ne_eq, Nat.reduceEqDiff, not_false_eq_true, Int.reduceEq, ↓reduceIte, wgB]
    have m2 : ((wgB (row B k) k 0) 14408 0 (3)) = (B 14408 0 (3)) := by rw [← a3]; simp only [mup_same, mu_ng, mu_ni, mu_xi, mu_xt, cq_fr, rn_fr, mrs_fr, inn_fr, cpr_fr, opr_fr, ldd_fr, own_fr, ne_eq, Nat.reduceEqDiff, not_false_eq_true, Int.reduceEq, ↓reduceIte, wgB]
    obtain ⟨t1, t2, t3, t4, t5, t6⟩ := rl_ticks r (by rw [on2]; exact ho) k (by omega) (by rw [m2]; omega) ((row B k) 32878 0 (k)).toNat (by omega)
    have eA : kdw A (k + 1) = kts (wgA (kdw A k) k 0) k ((row B k) 32878 0 (k)).toNat := by
      show kts (mup (kdw A k) 9 (k) 5 (0)) k ((kdw A k) 9 (k) 5).toNat = _
      rw [w.1]
      rfl
    have eB : row B (k + 1) = rts (wgB (row B k) k 0) k ((row B k) 32878 0 (k)).toNat := by
      show rwn (row B k) k ((row B k) 32878 0 (k)).toNat = _
      rw [rwn_all _ _ w.2.1]
      rfl
    rw [eA, eB]
    refine ⟨t1.mono (by omega), t5.trans on2, t6.trans m2, fun c hc => ?_⟩
    by_cases e : c = k
    · subst e
      refine ⟨fun j hj => (t4 j (by omega)).1, fun j hj => (t4 j (by omega)).2⟩
    · exact a4 c (by omega)
