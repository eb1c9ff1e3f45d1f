/-! ===== what the relation gives ===== -/
section RLS
variable {n : Int} {A B : AMem}
theorem RL.mrB (h : RL n A B) : 1 ≤ mrs B ∧ mrs B ≤ 32 := mrs_b h.pl.mb
theorem RL.mB (h : RL n A B) : MB B := h.pl.mb
theorem RL.slot (h : RL n A B) (q : Int) (h0 : 0 ≤ q) (h1 : q < 400) : (0 ≤ (B 819298 0 (q)) ∧ (B 819298 0 (q)) ≤ 3) ∧ (0 ≤ (B 819297 0 (q)) ∧ (B 819297 0 (q)) < 48) ∧ (¬ (B 819298 0 (q)) = 0 → (B 819297 0 (q)) < (B 14408 0 (4))) := h.sb.rg q h0 h1
/-- the one that runs -/
theorem RL.run (h : RL n A B) (c : ¬ rn B = -1) : (0 ≤ rn B ∧ rn B < 400) ∧ (B 819298 0 (rn B)) = 2 ∧ (A 6 0 5) = (B 819297 0 (rn B)) ∧ (0 ≤ (B 819297 0 (rn B)) ∧ (B 819297 0 (rn B)) < (B 14408 0 (4))) := by
  have h1 := h.cu
  rw [if_neg c] at h1
  rcases rn_spec B with ⟨a, _⟩ | ⟨a, b⟩
  · exact absurd a c
  · have d := h.slot _ a.1 a.2
    exact ⟨a, b, h1, d.2.1.1, d.2.2 (by omega)⟩
theorem RL.idle (h : RL n A B) (c : rn B = -1) : (A 6 0 5) = -1 ∧ ∀ q : Int, 0 ≤ q → q < 400 → ¬ (B 819298 0 (q)) = 2 := by
  have h1 := h.cu
  rw [if_pos c] at h1
  refine ⟨h1, fun q a b e => ?_⟩
  have := h.sb.r1 q a b e
  omega
theorem RL.cur (h : RL n A B) : ((A 6 0 5) = -1 ↔ rn B = -1) := by
  by_cases c : rn B = -1
  · exact ⟨fun _ => c, fun _ => (h.idle c).1⟩
  · have := h.run c
    exact ⟨fun z => by omega, fun z => absurd z c⟩
theorem RL.dep (h : RL n A B) : 0 ≤ (B 11 0 65) ∧ (B 11 0 65) ≤ 16 := by
  have h1 := h.bc
  by_cases c : (B 11 0 65) = 0
  · omega
  · have a := h.bg ((B 11 0 65) - 1) (by omega) (by omega)
    have b := h.pl.lv _ a.1.1 a.1.2
    omega
theorem RL.iwE (h : RL n A B) : iw B = if (B 11 0 65) = 0 then -1 else (A 32815 0 (((B 11 0 65) - 1))) := by
  have h1 := h.bc
  have hm := h.mB
  have m5 : 0 ≤ (B 14408 0 (5)) ∧ (B 14408 0 (5)) ≤ 16 := by unfold MB at hm; omega
  by_cases c : (B 11 0 65) = 0
  · rw [if_pos c]; exact iw_0 (by omega)
  · rw [if_neg c]
    have a := h.bg ((B 11 0 65) - 1) (by omega) (by omega)
    refine fnd_uni (fun i => (B 32875 0 (i)) == (B 11 0 65) - 1 && decide (0 < (B 11 0 65))) _ _ a.1.1 (by omega) (by simp [a.2.1]; omega) (fun y y0 y1 e => ?_)
    simp only [Bool.and_eq_true, beq_iff_eq] at e
    have b := h.bi y y0 (by omega)
    rw [e.1] at b
    omega
/-- who is at work, on both sides -/
theorem RL.who (h : RL n A B) : (0 < (B 11 0 65) ∧ (0 ≤ (A 32815 0 (((B 11 0 65) - 1))) ∧ (A 32815 0 (((B 11 0 65) - 1))) < (B 14408 0 (5))) ∧ wk B = 1000 + (A 32815 0 (((B 11 0 65) - 1))) ∧ kw A = 48 + (A 32815 0 (((B 11 0 65) - 1)))) ∨ ((B 11 0 65) = 0 ∧ rn B = -1 ∧ wk B = 0 ∧ kw A = 64) ∨ ((B 11 0 65) = 0 ∧ ¬ rn B = -1 ∧ wk B = 1 + rn B ∧ kw A = (B 819297 0 (rn B))) := by
  have h1 := h.bc
  have hi := h.iwE
  by_cases c : (B 11 0 65) = 0
  · rw [if_pos c] at hi
    have e1 : wk B = if rn B = -1 then 0 else 1 + rn B := by unfold wk; rw [if_pos hi]
    have e2 : kw A = if (A 6 0 5) = -1 then 64 else (A 6 0 5) := by unfold kw; rw [if_neg (by omega)]
    by_cases d : rn B = -1
    · rw [if_pos d] at e1
      rw [if_pos (h.idle d).1] at e2
      exact Or.inr (Or.inl ⟨c, d, e1, e2⟩)
    · have r := h.run d
      rw [if_neg d] at e1
      rw [if_neg (by omega), r.2.2.1] at e2
      exact Or.inr (Or.inr ⟨c, d, e1, e2⟩)
  · rw [if_neg c] at hi
    have a := h.bg ((B 11 0 65) - 1) (by omega) (by omega)
    have e1 : wk B = 1000 + (A 32815 0 (((B 11 0 65) - 1))) := by unfold wk; rw [if_neg (by omega), hi]
    have e2 : kw A = 48 + (A 32815 0 (((B 11 0 65) - 1))) := by unfold kw; rw [if_pos (by omega), h1.1]
    exact Or.inl ⟨by omega, a.1, e1, e2⟩
theorem RL.wk0 (h : RL n A B) : wk B = 0 ↔ ((A 6 0 7) = 0 ∧ (A 6 0 5) = -1) := by
  have h1 := h.bc
  have hc := h.cur
  rcases h.who with ⟨a, b, c, d⟩ | ⟨a, b, c, d⟩ | ⟨a, b, c, d⟩
  · omega
  · rw [hc, c]; omega
  · have := h.run b
    rw [hc, c]; omega
theorem RL.kidE (h : RL n A B) : kid A ↔ ((B 11 0 50) = 0 ∨ wk B = 0) := by
  unfold kid
  rw [h.wk0, h.on.1]
theorem RL.kenE (h : RL n A B) : ken A = st0 B := by
  have e := h.kidE
  have s := h.sh
  unfold ken st0
  by_cases c : (B 11 0 50) = 0 ∨ wk B = 0
  · rw [if_pos c, if_pos (e.mpr c)]
  · rw [if_neg c, if_neg (fun z => c (e.mp z)), s.1]
/-- an ISR's priority -/
theorem RL.kcpI (h : RL n A B) (i : Int) (h0 : 0 ≤ i) (h1 : i < (B 14408 0 (5))) : kcp A (48 + i) = cpr B (1000 + i) := by
  have hm := h.mB
  have m5 : 0 ≤ (B 14408 0 (5)) ∧ (B 14408 0 (5)) ≤ 16 := by unfold MB at hm; omega
  refine cp_eq (48 + i) (1000 + i) h.pl (h.hc _ (by omega) (by omega)) ?_ (fun j j0 j1 => ?_) (fun r r0 r1 e => ?_) ?_ (fun z => absurd (h.hx (48 + i) (by omega) (by omega)).1 z)
  · rw [(h.pl.lv i h0 h1).1]
    unfold opr
    rw [if_pos (by omega), show 1000 + i - 1000 = i by omega]
  · obtain ⟨a, b, c⟩ := h.hd (48 + i) j (by omega) (by omega) j0 j1
    rcases h.sb.hv _ a.1 a.2 with d | ⟨d, _, e⟩
    · exact absurd d b
    · refine ⟨⟨a.1, d.1⟩, ?_⟩
      unfold own at c
      rcases e with ⟨e1, e2, e3⟩ | ⟨e1, e2, e3⟩
      · rw [if_pos (by omega)] at c
        have := h.slot _ (show 0 ≤ (B 65639 0 ((A 65587 (48 + i) (j)))) - 1 by omega) (by omega)
        omega
      · rw [if_neg (by omega)] at c
        omega
  · have r2 : r < 32 := by have := h.mrB; omega
    obtain ⟨j, j0, j1⟩ := h.ho r r0 r2 (by omega)
    have eo : own B (B 65639 0 (r)) = 48 + i := by
      unfold own
      rw [e, if_neg (by omega)]
      omega
    rw [eo] at j0 j1
    refine ⟨?_, j, j0, j1⟩
    rcases h.sb.hv r r0 r2 with d | ⟨d, _, _⟩
    · omega
    · exact d.2.1
  · exact ⟨fun z => absurd (h.hx (48 + i) (by omega) (by omega)).1 z, fun z => by omega⟩
/-- a task's priority, where none but the request q has resources -/
theorem RL.kcpT (h : RL n A B) (q : Int) (h0 : 0 ≤ q) (h1 : q < 400) (hs : ¬ (B 819298 0 (q)) = 0) (hu : ∀ p : Int, 0 ≤ p → p < 400 → ¬ p = q → ¬ (B 819298 0 (p)) = 0 → (B 819297 0 (p)) = (B 819297 0 (q)) → ¬ ldd B p) : kcp A (B 819297 0 (q)) = cpr B (1 + q) := by
  have s := h.slot q h0 h1
  have s3 := s.2.2 hs
  have hm := h.mB
  have m4 : 0 ≤ (B 14408 0 (4)) ∧ (B 14408 0 (4)) ≤ 48 := by unfold MB at hm; omega
  have hh : ∀ r : Int, 0 ≤ r → r < 32 → ¬ (B 65639 0 (r)) = 0 → own B (B 65639 0 (r)) = (B 819297 0 (q)) → (B 65639 0 (r)) = 1 + q := by
    intro r r0 r1 e f
    rcases h.sb.hv r r0 r1 with d | ⟨d, _, g⟩
    · exact absurd d e
    · unfold own at f
      rcases g with ⟨g1, g2, g3⟩ | ⟨g1, g2, g3⟩
      · rw [if_pos (by omega)] at f
        by_cases c : (B 65639 0 (r)) - 1 = q
        · omega
        · exact absurd (Or.inr ⟨r, ⟨r0, r1⟩, by omega⟩) (hu _ (by omega) (by omega) c (by omega) f)
      · rw [if_neg (by omega)] at f
        omega
  refine cp_eq _ (1 + q) h.pl (h.hc _ (by omega) (by omega)) ?_ (fun j j0 j1 => ?_) (fun r r0 r1 e => ?_) ?_ (fun z => ?_)
  · rw [(h.pl.pr _ s.2.1.1 s3).1]
    unfold opr
    rw [if_neg (by omega), show 1 + q - 1 = q by omega]
  · obtain ⟨a, b, c⟩ := h.hd _ j s.2.1.1 (by omega) j0 j1
    rcases h.sb.hv _ a.1 a.2 with d | ⟨d, _, _⟩
    · exact absurd d b
    · exact ⟨⟨a.1, d.1⟩, hh _ a.1 a.2 b c⟩
  · have r2 : r < 32 := by have := h.mrB; omega
    obtain ⟨j, j0, j1⟩ := h.ho r r0 r2 (by omega)
    have eo : own B (B 65639 0 (r)) = (B 819297 0 (q)) := by
      unfold own
      rw [e, if_pos (by omega), show 1 + q - 1 = q by omega]
    rw [eo] at j0 j1
    refine ⟨?_, j, j0, j1⟩
    rcases h.sb.hv r r0 r2 with d | ⟨d, _, _⟩
    · omega
    · exact d.2.1
  · rw [show 1 + q - 1 = q by omega]
    constructor
    · intro z
      refine ⟨by omega, fun w => ?_⟩
      obtain ⟨p, p0, p1, p2⟩ := (h.hi _ s.2.1.1 s.2.1.2).mp z
      have ps := (h.sb.hi p p0.1 p0.2 p1).1
      by_cases c : p = q
      · subst c; exact p1 w
      · exact hu p p0.1 p0.2 c (by omega) p2 (Or.inl p1)
    · intro z
      exact (h.hi _ s.2.1.1 s.2.1.2).mpr ⟨q, ⟨h0, h1⟩, z.2, rfl⟩
  · rw [show 1 + q - 1 = q by omega]
    refine ⟨h.pl.it _ s.2.1.1 s3, ?_⟩
    obtain ⟨p, p0, p1, p2⟩ := (h.hi _ s.2.1.1 s.2.1.2).mp z
    have ps := (h.sb.hi p p0.1 p0.2 p1).2
    rw [p2] at ps
    exact ps
theorem RL.kcpR (h : RL n A B) (c : ¬ rn B = -1) : kcp A (B 819297 0 (rn B)) = cpr B (1 + rn B) := by
  have r := h.run c
  exact h.kcpT _ r.1.1 r.1.2 (by omega) (fun p p0 p1 e s t => (h.sb.ld (rn B) p r.1.1 r.1.2 p0 p1 (fun z => e z.symm) (by omega) s t.symm (Or.inr r.2.1)).2.1)
theorem RL.h64 (h : RL n A B) : (A 8 (64) 14) = 0 := by
  have hm := h.mB
  have m5 : 0 ≤ (B 14408 0 (5)) ∧ (B 14408 0 (5)) ≤ 16 := by unfold MB at hm; omega
  have := h.hc 64 (by omega) (by omega)
  by_cases c : (A 8 (64) 14) = 0
  · exact c
  · exfalso
    obtain ⟨a, b, d⟩ := h.hd 64 0 (by omega) (by omega) (by omega) (by omega)
    rcases h.sb.hv _ a.1 a.2 with e | ⟨_, _, g⟩
    · exact b e
    · unfold own at d
      rcases g with ⟨g1, g2, g3⟩ | ⟨g1, g2, g3⟩
      · rw [if_pos (by omega)] at d
        have := h.slot _ (show 0 ≤ (B 65639 0 ((A 65587 64 (0)))) - 1 by omega) (by omega)
        omega
      · rw [if_neg (by omega)] at d
        omega
theorem RL.kcp0 (h : RL n A B) : kcp A 64 = -1 := by
  unfold kcp kch
  rw [if_neg (fun z => z.1 (h.hx 64 (by omega) (by omega)).1), h.h64]
  exact h.pl.nb.1
/-- the priority of who is at work -/
theorem RL.kcpW (h : RL n A B) : kcp A (kw A) = if wk B = 0 then -1 else cpr B (wk B) := by
  rcases h.who with ⟨a, b, c, d⟩ | ⟨a, b, c, d⟩ | ⟨a, b, c, d⟩
  · rw [c, d, if_neg (by omega)]
    exact h.kcpI _ b.1 b.2
  · rw [c, d, if_pos rfl]
    exact h.kcp0
  · have r := h.run b
    rw [c, d, if_neg (by omega)]
    exact h.kcpR b
/-- counting -/
theorem RL.cq8 (h : RL n A B) (t : Int) (h0 : 0 ≤ t) (h1 : t < 48) : 0 ≤ cq B t 400 ∧ cq B t 400 ≤ 8 := by
  refine ⟨(cq_b B t 400).1, ?_⟩
  have r := h.rq t h0 h1
  by_cases c : t < (B 14408 0 (4))
  · have := (h.pl.lm t h0 c)
    have := r.2 c
    omega
  · rw [cq_cnt, cnt_0 400 (fun j hj => by
      have s := h.slot j (by omega) (by omega)
      simp only [decide_eq_false_iff_not]
      rintro ⟨a, b⟩
      have := s.2.2 a
      omega)]
    omega
theorem RL.nrB (h : RL n A B) : nrq B 400 ≤ 384 := by
  rw [nrq_sum B (fun q a b => (h.slot q a b).2.1) 400 (by omega)]
  have := sumi_le (f := fun t : Nat => cq B t 400) (c := 8) 48 (fun i hi => (h.cq8 i (by omega) (by omega)).2)
  omega
theorem RL.free (h : RL n A B) : fq B ≠ -1 := by
  intro c
  have a := h.nrB
  rcases fq_spec B with ⟨_, b⟩ | ⟨b, _⟩
  · rw [nrq_cnt] at a
    have := inj_cnt 400 400 (fun q => decide ((B 819298 0 (q)) ≠ 0)) (fun i => i) (fun i hi => ⟨hi, by simpa using b i (by omega) (by omega)⟩) (fun i j hi hj => by omega)
    omega
  · omega
theorem RL.sz (h : RL n A B) : (0 ≤ (A 7 0 2) ∧ (A 7 0 2) ≤ 384) ∧ (¬ rn B = -1 → (A 7 0 2) < 384) := by
  obtain ⟨sg, r⟩ := h.rx
  have a := h.nrB
  rw [nrq_cnt] at a
  have z := r.1
  refine ⟨⟨z, ?_⟩, fun c => ?_⟩
  · have b := r.len
    have d := cnt_le (p := fun q => decide ((B 819298 0 (q)) = 1)) (r := fun q => decide ((B 819298 0 (q)) ≠ 0)) 400 (fun j hj e => by simp only [decide_eq_true_eq] at *; omega)
    omega
  · have q := h.run c
    have := inj_cnt 400 ((A 7 0 2).toNat + 1) (fun q => decide ((B 819298 0 (q)) ≠ 0)) (fun i => if i < (A 7 0 2).toNat then (sg i).toNat else (rn B).toNat) (fun i hi => by
      by_cases e : i < (A 7 0 2).toNat
      · have f := r.pt i (by omega) (by omega)
        simp only [if_pos e]
        refine ⟨by omega, ?_⟩
        rw [show (((sg i).toNat : Nat) : Int) = sg i by omega, decide_eq_true_eq, f.2.1]
        omega
      · simp only [if_neg e]
        refine ⟨by omega, ?_⟩
        rw [show (((rn B).toNat : Nat) : Int) = rn B by omega, decide_eq_true_eq, q.2.1]
        omega) (fun i j hi hj => by
      have f := r.pt i (by omega) (by omega)
      simp only [if_pos (show i < (A 7 0 2).toNat by omega)]
      by_cases e : j < (A 7 0 2).toNat
      · simp only [if_pos e]
        have g := r.pt j (by omega) (by omega)
        intro k
        have := r.inj i j (by omega) (by omega) (by omega) (by omega) (by omega)
        omega
      · simp only [if_neg e]
        intro k
        have k : sg i = rn B := by omega
        rw [k] at f
        have f2 := f.2.1
        have q2 := q.2.1
        omega)
    omega
theorem RL.h32 (h : RL n A B) (w : Int) (h0 : 0 ≤ w) (h1 : w < 65) : 0 ≤ (A 8 (w) 14) ∧ (A 8 (w) 14) ≤ 32 := by
  have a := h.hc w h0 h1
  refine ⟨a, ?_⟩
  have := inj_cnt 32 (A 8 (w) 14).toNat (fun _ => true) (fun i => (A 65587 w (i)).toNat) (fun i hi => by
    have := (h.hd w i h0 h1 (by omega) (by omega)).1
    exact ⟨by omega, rfl⟩) (fun i j hi hj e => by
    have x := (h.hd w i h0 h1 (by omega) (by omega)).1
    have y := (h.hd w j h0 h1 (by omega) (by omega)).1
    have z := h.hs w i j h0 h1 (by omega) (by omega) (by omega)
    rw [show (A 65587 w (i)) = (A 65587 w (j)) by omega] at z
    omega)
  have b := (cnt_b (fun _ => true) 32).2
  omega
theorem RL.cB (h : RL n A B) (hn : n < 2147000000) : CB A := by
  have hm := h.mB
  unfold MB at hm
  have p := h.pl
  have m := h.mrB
  have d := h.dep
  have c := h.bc
  refine CB.mk ?_ ?_ ?_ ?_ ?_ ?_ ?_ (by omega) (fun i a b => ?_) ?_ h.sz.1 (fun i a b => ?_) (fun w a b => h.h32 w a b) (fun w i a b e f => (h.hd w i a b e f).1) (fun w a b => (p.nb.2 w a b).2.1) ?_ ?_ (fun w a b => ?_) (fun w a b => (p.nb.2 w a b).2.2)
  · rw [p.t0]; omega
  · rw [p.t1]; omega
  · rw [p.t2]; omega
  · rw [p.t3]; omega
  · rw [p.t4]; omega
  · rw [p.t5]; omega
  · rw [p.t6]; omega
  · have := (h.bg i a (by omega)).1
    omega
  · by_cases e : rn B = -1
    · have := h.idle e; omega
    · have := h.run e; omega
  · obtain ⟨sg, r⟩ := h.rx
    have e := r.pt i a b
    have := h.slot _ e.1.1 e.1.2
    have e3 : (B 819297 0 (sg i)) = (A 786482 0 (i)) := e.2.2.1
    omega
  · have := h.no; omega
  · have := h.sh; omega
  · by_cases e : w < 48
    · rw [(h.rq w a e).1]; exact h.cq8 w a e
    · rw [(h.hx w (by omega) b).2]; omega
theorem RL.kS (h : RL n A B) (hn : n < 2147000000) : KS A := ⟨h.cB hn, fun w a b => (h.pl.nb.2 w a b).1, h.pl.cb, fun e => h.sz.2 (fun z => e (h.idle z).1)⟩
theorem RL.wT (h : RL n A B) : WT B := fun q a b => by
  have s := h.slot q a b
  refine ⟨s.2.1, fun e => ?_⟩
  have := inn_b' h.mB _ (h.sb.hi q a b e).2
  have := h.mrB
  omega
theorem RL.sM (h : RL n A B) (hn : n < 2147000000) : SM B := by
  have a := h.no
  have b := h.sb.se
  unfold SM
  omega
theorem RL.mE (h : RL n A B) (hn : n < 2147000000) : ME B := ⟨h.mB, h.dep, h.wT, h.sM hn, h.sh.2⟩
end RLS
