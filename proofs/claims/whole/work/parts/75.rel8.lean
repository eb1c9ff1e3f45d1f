/-! ===== settling as a whole ===== -/
theorem tp_uni {B : AMem} {q : Int} (q0 : 0 ≤ q) (q1 : q < 400) (qs : (B 819298 0 (q)) = 1) (h : ∀ x : Int, 0 ≤ x → x < 400 → (B 819298 0 (x)) = 1 → ¬ x = q → ahb B q x) : tp B = q := by
  rcases topf_spec B 400 with ⟨h1, h2⟩ | ⟨h1, h2, h3⟩
  · exact absurd qs (h2 q q0 (by omega))
  · have tE : tp B = topf B 400 := rfl
    by_cases c : tp B = q
    · exact c
    · exact absurd (h (tp B) h1.1 (by omega) h2 c) (h3 q q0 (by omega) qs)
/-- the top after the running one was preempted by it -/
theorem tp_pr {n : Int} {A B : AMem} (h : RL n A B) (hr : ¬ rn B = -1) (ht : ¬ tp B = -1) (hc : cpr B (1 + rn B) < (B 819299 0 (tp B))) (v : Int) : tp (nt (prB B (rn B)) v) = tp B ∧ ((nt (prB B (rn B)) v) 819299 0 (tp B)) = (B 819299 0 (tp B)) := by
  obtain ⟨sg, r⟩ := h.rx
  have et := r.tpE
  have z0 := r.1
  have hz : ¬ (A 7 0 2) = 0 := fun z => by rw [if_pos z] at et; exact ht et
  rw [if_neg hz] at et
  have a := r.pt ((A 7 0 2) - 1) (by omega) (by omega)
  rw [← et] at a
  have qs : (B 819298 0 (tp B)) = 1 := a.2.1
  have ru := h.run hr
  have ne : ¬ tp B = rn B := fun z => by rw [z] at qs; omega
  have e1 : ∀ x, ((nt (prB B (rn B)) v) 819298 0 (x)) = if x = rn B then 1 else (B 819298 0 (x)) := fun x => by simp only [mup_same, mu_ng, mu_ni, mu_xi, mu_xt, cq_fr, rn_fr, mrs_fr, inn_fr, cpr_fr, opr_fr, ldd_fr, own_fr, ne_eq, Nat.reduceEqDiff, not_false_eq_true, Int.reduceEq, ↓reduceIte, nt, prB]
  have e3 : ∀ x, ((nt (prB B (rn B)) v) 819299 0 (x)) = if x = rn B then cpr B (1 + rn B) else (B 819299 0 (x)) := fun x => by simp only [mup_same, mu_ng, mu_ni, mu_xi, mu_xt, cq_fr, rn_fr, mrs_fr, inn_fr, cpr_fr, opr_fr, ldd_fr, own_fr, ne_eq, Nat.reduceEqDiff, not_false_eq_true, Int.reduceEq, ↓reduceIte, nt, prB]
  have e4 : ∀ x, ((nt (prB B (rn B)) v) 819812 0 (x)) = if x = rn B then -((B 11 0 58) + 1) else (B 819812 0 (x)) := fun x => by simp only [mup_same, mu_ng, mu_ni, mu_xi, mu_xt, cq_fr, rn_fr, mrs_fr, inn_fr, cpr_fr, opr_fr, ldd_fr, own_fr, ne_eq, Nat.reduceEqDiff, not_false_eq_true, Int.reduceEq, ↓reduceIte, nt, prB]
  refine ⟨tp_uni a.1.1 a.1.2 (by rw [e1, if_neg ne]; exact qs) (fun x x0 x1 xs xn => ?_), by rw [e3, if_neg ne]⟩
  show ((nt (prB B (rn B)) v) 819299 0 (x)) < ((nt (prB B (rn B)) v) 819299 0 (tp B)) ∨ (((nt (prB B (rn B)) v) 819299 0 (tp B)) = ((nt (prB B (rn B)) v) 819299 0 (x)) ∧ ((nt (prB B (rn B)) v) 819812 0 (tp B)) < ((nt (prB B (rn B)) v) 819812 0 (x)))
  rw [e3, e3, e4, e4, if_neg ne, if_neg ne]
  by_cases c : x = rn B
  · rw [if_pos c, if_pos c]
    omega
  · rw [if_neg c, if_neg c]
    rw [e1, if_neg c] at xs
    rcases r.top2 x x0 x1 xs with e | e
    · rw [← et] at e; exact absurd e xn
    · rw [← et] at e; exact e
theorem rl_beg {n : Int} {A B : AMem} (h : RL n A B) (ho : ¬ (B 11 0 50) = 0) (c : ¬ kgc A = -1) : RL (n + 1) (kbeg A (kgc A)) (beg B (kgc A)) ∧ (B 11 0 65) < 16 ∧ kgc (kbeg A (kgc A)) = -1 := by
  obtain ⟨k1, k2, k3, k4⟩ := kgc_spec h c
  have hb := h.bc
  have lv := h.pl.lv _ k1.1 k1.2
  have r1 := rl_bg h ho (kgc A) k1.1 k1.2 (fun p p0 p1 => by have := begun_le h p p0 p1; omega)
  have r2 := rl_note r1 (50000 + kgc A)
  rw [← kbeg_eq, ← beg_eq] at r2
  have d16 : (B 11 0 65) < 16 := by
    by_cases d : (B 11 0 65) = 0
    · omega
    · have x := h.bg ((B 11 0 65) - 1) (by omega) (by omega)
      have y := begun_le h ((B 11 0 65) - 1) (by omega) (by omega)
      omega
  refine ⟨r2, d16, ?_⟩
  generalize kgc A = i at *
  have hp := h.pl
  refine kgc_none (k := (B 14408 0 (5))) (by simp only [mup_same, mu_ng, mu_ni, mu_xi, mu_xt, cq_fr, rn_fr, mrs_fr, inn_fr, cpr_fr, opr_fr, ldd_fr, own_fr, ne_eq, Nat.reduceEqDiff, not_false_eq_true, Int.reduceEq, ↓reduceIte, kbeg, knt]; exact hp.t5) (fun j j0 j1 jc => ?_)
  have hm := h.mB
  have m5 : 0 ≤ (B 14408 0 (5)) ∧ (B 14408 0 (5)) ≤ 16 := by unfold MB at hm; omega
  have kwE : kw (kbeg A i) = 48 + i := by
    simp only [mup_same, mu_ng, mu_ni, mu_xi, mu_xt, cq_fr, rn_fr, mrs_fr, inn_fr, cpr_fr, opr_fr, ldd_fr, own_fr, ne_eq, Nat.reduceEqDiff, not_false_eq_true, Int.reduceEq, ↓reduceIte, kw, kbeg, knt]
    rw [if_pos (by omega), if_pos (by omega)]
  rw [kwE]
  have pj : ∀ x, ((kbeg A i) 8 (x) 0) = (A 8 (x) 0) := fun x => by simp only [mup_same, mu_ng, mu_ni, mu_xi, mu_xt, cq_fr, rn_fr, mrs_fr, inn_fr, cpr_fr, opr_fr, ldd_fr, own_fr, ne_eq, Nat.reduceEqDiff, not_false_eq_true, Int.reduceEq, ↓reduceIte, kbeg, knt]
  have g := kcp_ge (kbeg A i) (48 + i)
  rw [pj] at g ⊢
  rw [(hp.lv j j0 j1).1]
  rw [lv.1] at g
  have cj : ¬ (B 33130 0 (j)) = 0 := by
    rw [← (h.ca j j0 (by omega)).1]
    intro z
    apply jc
    simp only [mup_same, mu_ng, mu_ni, mu_xi, mu_xt, cq_fr, rn_fr, mrs_fr, inn_fr, cpr_fr, opr_fr, ldd_fr, own_fr, ne_eq, Nat.reduceEqDiff, not_false_eq_true, Int.reduceEq, ↓reduceIte, kbeg, knt]
    split
    · rfl
    · exact z
  have := k4 j j0 j1 cj
  omega
theorem Std.off {A : AMem} (h : (A 6 0 2) = 0 ∨ 0 < (A 6 0 4)) : Std A := fun a b => by omega
set_option maxHeartbeats 1000000 in
theorem rl_stl {n : Int} {A B : AMem} (h : RL n A B) : RL (n + 3) (kstl A) (stl B) ∧ Std (kstl A) ∧ (¬ bst B = -1 → (B 11 0 65) < 16 ∧ bst (beg B (bst B)) = -1) := by
  have hb := h.bc
  have hs := h.sh
  have hon := h.on
  have kg := kgc_eq h
  have part : ¬ (B 11 0 50) = 0 → ¬ bst B = -1 → (B 11 0 65) < 16 ∧ bst (beg B (bst B)) = -1 := fun o z => by
    rw [← kg] at z ⊢
    obtain ⟨a, b, c⟩ := rl_beg h o z
    refine ⟨b, ?_⟩
    rw [← kgc_eq a]
    exact c
  have part : ¬ bst B = -1 → (B 11 0 65) < 16 ∧ bst (beg B (bst B)) = -1 := fun z => by
    by_cases o : (B 11 0 50) = 0
    · exfalso
      rw [← kg] at z
      obtain ⟨k1, k2, _⟩ := kgc_spec h z
      have hm := h.mB
      have m5 : 0 ≤ (B 14408 0 (5)) ∧ (B 14408 0 (5)) ≤ 16 := by unfold MB at hm; omega
      exact k2 ((h.of o).2.2.2.1 _ k1.1 (by omega))
    · exact part o z
  by_cases c0 : (B 11 0 50) = 0 ∨ 0 < (B 11 0 52)
  · have ca : (A 6 0 2) = 0 ∨ 0 < (A 6 0 4) := by rw [hon.1, hs.1]; exact c0
    have ea : kstl A = A := by unfold kstl; rw [if_pos ca]
    have eb : stl B = B := by unfold stl; rw [if_pos c0]
    rw [ea, eb]
    exact ⟨h.mono (by omega), Std.off ca, part⟩
  · have ca : ¬ ((A 6 0 2) = 0 ∨ 0 < (A 6 0 4)) := by rw [hon.1, hs.1]; exact c0
    have ho : ¬ (B 11 0 50) = 0 := fun z => c0 (Or.inl z)
    by_cases c1 : kgc A = -1
    · have ea : kstl A = krn1 A := by unfold kstl; rw [if_neg ca, if_pos (Or.inl c1)]
      have eb : stl B = run1 B := by unfold stl; rw [if_neg c0, if_pos (by omega)]
      rw [ea, eb]
      by_cases c2 : (B 11 0 65) = 0
      · have kd := kdu_eq h
        by_cases c3 : kdu A
        · have ea2 : krn1 A = krun A := by unfold krn1; rw [if_pos ⟨by omega, c3⟩]
          obtain ⟨k1, k2⟩ := kd.mp c3
          have noc : ∀ i : Int, 0 ≤ i → i < (B 14408 0 (5)) → ¬ (A 8 ((48 + i)) 12) = 0 → (A 8 ((48 + i)) 0) ≤ kcp A (kw A) := fun i i0 i1 ic => kgc_m1 h.pl.t5 c1 i i0 i1 ic
          by_cases c4 : rn B = -1
          · have id := h.idle c4
            have eb2 : run1 B = rns B (tp B) := by unfold run1; rw [if_neg (by omega), if_pos c4]
            have ea3 : krun A = krt A := by unfold krun; rw [if_pos id.1]
            rw [ea2, ea3, eb2]
            have hz : 0 < (A 7 0 2) := by
              rcases c3 with ⟨_, z⟩ | ⟨z, _⟩
              · exact z
              · exact absurd id.1 z
            obtain ⟨r1, r2, r3, r4, r5, r6⟩ := rl_run h ho c4 hz
            refine ⟨r1.mono (by omega), fun _ _ => ⟨?_, fun _ => r3⟩, part⟩
            refine kgc_none (k := (B 14408 0 (5))) ?_ (fun i i0 i1 ic => ?_)
            · rw [r1.pl.t5]
              simp only [mup_same, mu_ng, mu_ni, mu_xi, mu_xt, cq_fr, rn_fr, mrs_fr, inn_fr, cpr_fr, opr_fr, ldd_fr, own_fr, ne_eq, Nat.reduceEqDiff, not_false_eq_true, Int.reduceEq, ↓reduceIte, rns, nt]
            · exfalso
              rw [r6] at ic
              have x := noc i i0 i1 ic
              have w := h.kcpW
              rw [if_pos (by rcases h.who with ⟨a, _⟩ | ⟨_, _, a, _⟩ | ⟨_, a, _⟩ <;> first | omega | exact a | exact absurd c4 a)] at w
              have l := h.pl.lv i i0 i1
              omega
          · have ru := h.run c4
            rcases k2 with k2 | ⟨k2, k3⟩
            · exact absurd k2 c4
            · have eb2 : run1 B = rns (pre B (rn B)) (tp B) := by unfold run1; rw [if_neg (by omega), if_neg c4, if_pos ⟨k2, k3⟩]
              have ea3 : krun A = krt (kpre A) := by unfold krun; rw [if_neg (by omega)]
              rw [ea2, ea3, eb2, kpre_eq, pre_eq]
              obtain ⟨p1, p2⟩ := rl_pr h ho c4
              have p3 := rl_note p1 (20000 + (B 819297 0 (rn B)))
              have p4 := tp_pr h c4 k1 k3 (20000 + (B 819297 0 (rn B)))
              rw [ru.2.2.1]
              have on2 : ¬ ((nt (prB B (rn B)) (20000 + (B 819297 0 (rn B)))) 11 0 50) = 0 := by simp only [mup_same, mu_ng, mu_ni, mu_xi, mu_xt, cq_fr, rn_fr, mrs_fr, inn_fr, cpr_fr, opr_fr, ldd_fr, own_fr, ne_eq, Nat.reduceEqDiff, not_false_eq_true, Int.reduceEq, ↓reduceIte, nt, prB]; exact ho
              have rn2 : rn (nt (prB B (rn B)) (20000 + (B 819297 0 (rn B)))) = -1 := by rw [rn_ntE, p2]
              have sz2 : 0 < ((knt (prA A) (20000 + (B 819297 0 (rn B)))) 7 0 2) := by
                have z0 := h.sz
                have := kp_z (A := A) (t := (A 6 0 5)) (p := kcp A (A 6 0 5)) (l := kcp A (A 6 0 5) + 1) (z0.2 c4)
                simp only [mup_same, mu_ng, mu_ni, mu_xi, mu_xt, cq_fr, rn_fr, mrs_fr, inn_fr, cpr_fr, opr_fr, ldd_fr, own_fr, ne_eq, Nat.reduceEqDiff, not_false_eq_true, Int.reduceEq, ↓reduceIte, knt, prA]
                omega
              obtain ⟨r1, r2, r3, r4, r5, r6⟩ := rl_run p3 on2 rn2 sz2
              rw [p4.1] at r1 r4
              rw [p4.2] at r4
              refine ⟨r1.mono (by omega), fun _ _ => ⟨?_, fun _ => r3⟩, part⟩
              have cl : ∀ i : Int, ((knt (prA A) (20000 + (B 819297 0 (rn B)))) 8 (i) 12) = (A 8 (i) 12) := fun i => by simp only [mup_same, mu_ng, mu_ni, mu_xi, mu_xt, cq_fr, rn_fr, mrs_fr, inn_fr, cpr_fr, opr_fr, ldd_fr, own_fr, ne_eq, Nat.reduceEqDiff, not_false_eq_true, Int.reduceEq, ↓reduceIte, knt, prA, kp_o]
              have wkE := h.kcpW
              have w1 : wk B = 1 + rn B := by rcases h.who with ⟨a, _⟩ | ⟨_, a, _⟩ | ⟨_, _, a, _⟩ <;> first | omega | exact absurd a c4 | exact a
              rw [w1, if_neg (by omega)] at wkE
              have fcp : ∀ i : Int, 0 ≤ i → i < (B 14408 0 (5)) → ((krt (knt (prA A) (20000 + (B 819297 0 (rn B))))) 8 ((48 + i)) 0) = (A 8 ((48 + i)) 0) := fun i _ _ => by simp only [mup_same, mu_ng, mu_ni, mu_xi, mu_xt, cq_fr, rn_fr, mrs_fr, inn_fr, cpr_fr, opr_fr, ldd_fr, own_fr, ne_eq, Nat.reduceEqDiff, not_false_eq_true, Int.reduceEq, ↓reduceIte, krt, knt, prA, kp_o]
              have kwN : kw (krt (knt (prA A) (20000 + (B 819297 0 (rn B))))) = ((krt (knt (prA A) (20000 + (B 819297 0 (rn B))))) 6 0 5) := by
                have bc0 : ((krt (knt (prA A) (20000 + (B 819297 0 (rn B))))) 6 0 7) = 0 := by
                  rw [r2]
                  simp only [mup_same, mu_ng, mu_ni, mu_xi, mu_xt, cq_fr, rn_fr, mrs_fr, inn_fr, cpr_fr, opr_fr, ldd_fr, own_fr, ne_eq, Nat.reduceEqDiff, not_false_eq_true, Int.reduceEq, ↓reduceIte, knt, prA, kp_o]
                  omega
                have cu0 : ¬ ((krt (knt (prA A) (20000 + (B 819297 0 (rn B))))) 6 0 5) = -1 := by
                  rw [r5]
                  obtain ⟨sg3, q3⟩ := p3.rx
                  have x := q3.pt (((knt (prA A) (20000 + (B 819297 0 (rn B)))) 7 0 2) - 1) (by omega) (by omega)
                  have y := p3.slot _ x.1.1 x.1.2
                  have z : ((nt (prB B (rn B)) (20000 + (B 819297 0 (rn B)))) 819297 0 (sg3 (((knt (prA A) (20000 + (B 819297 0 (rn B)))) 7 0 2) - 1))) = ((knt (prA A) (20000 + (B 819297 0 (rn B)))) 786482 0 ((((knt (prA A) (20000 + (B 819297 0 (rn B)))) 7 0 2) - 1))) := x.2.2.1
                  omega
                unfold kw
                rw [if_neg (by omega), if_neg cu0]
              refine kgc_none (k := (B 14408 0 (5))) ?_ (fun i i0 i1 ic => ?_)
              · rw [r1.pl.t5]
                simp only [mup_same, mu_ng, mu_ni, mu_xi, mu_xt, cq_fr, rn_fr, mrs_fr, inn_fr, cpr_fr, opr_fr, ldd_fr, own_fr, ne_eq, Nat.reduceEqDiff, not_false_eq_true, Int.reduceEq, ↓reduceIte, rns, nt, prB]
              · rw [r6, cl] at ic
                have x := noc i i0 i1 ic
                rw [fcp i i0 i1, kwN]
                omega
        · have ea2 : krn1 A = A := by unfold krn1; rw [if_neg (fun z => c3 z.2)]
          have eb2 : run1 B = B := by
            unfold run1
            by_cases t1 : tp B = -1
            · rw [if_pos (Or.inr t1)]
            · rw [if_neg (by omega)]
              by_cases t2 : rn B = -1
              · exact absurd (kd.mpr ⟨t1, Or.inl t2⟩) c3
              · rw [if_neg t2, if_neg (fun z => c3 (kd.mpr ⟨t1, Or.inr z⟩))]
          rw [ea2, eb2]
          exact ⟨h.mono (by omega), fun _ _ => ⟨c1, fun _ => c3⟩, part⟩
      · have ea2 : krn1 A = A := by unfold krn1; rw [if_neg (by omega)]
        have eb2 : run1 B = B := by unfold run1; rw [if_pos (by omega)]
        rw [ea2, eb2]
        exact ⟨h.mono (by omega), fun _ _ => ⟨c1, fun z => by omega⟩, part⟩
    · obtain ⟨r1, r2, r3⟩ := rl_beg h ho c1
      have ea : kstl A = kbeg A (kgc A) := by unfold kstl; rw [if_neg ca, if_neg (by omega)]
      have db : ((beg B (kgc A)) 11 0 65) = (B 11 0 65) + 1 := by simp only [mup_same, mu_ng, mu_ni, mu_xi, mu_xt, cq_fr, rn_fr, mrs_fr, inn_fr, cpr_fr, opr_fr, ldd_fr, own_fr, ne_eq, Nat.reduceEqDiff, not_false_eq_true, Int.reduceEq, ↓reduceIte, beg, nt]
      have eb : stl B = beg B (kgc A) := by
        unfold stl
        rw [if_neg c0, ← kg, if_neg c1]
        unfold run1
        rw [if_pos (by omega)]
      rw [ea, eb]
      refine ⟨r1.mono (by omega), fun _ _ => ⟨r3, fun z => ?_⟩, part⟩
      have := r1.bc
      omega
/-- the reference finds nothing unsettled -/
theorem lks_id {n : Int} {A B : AMem} (h : RL n A B) (s : Std A) : lks B = B := by
  unfold lks
  rw [if_neg]
  rintro ⟨a, b, c, d⟩
  have e := h.on
  have f := h.sh
  have g := h.bc
  have := (s (by omega) (by omega)).2 (by omega)
  exact this ((kdu_eq h).mpr d)
