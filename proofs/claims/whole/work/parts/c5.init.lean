/-! ===== the memory when both are made ===== -/
def M0 : AMem := fun g _ x =>
  if g = 4 then (if x = 3 then -1 else 0)
  else if g = 6 then (if x = 3 ∨ x = 5 then -1 else 0)
  else if g = 8 then (if x = 0 ∨ x = 6 then -1 else 0)
  else if g = 9 then (if x = 0 ∨ x = 1 ∨ x = 2 then 1 else 0)
  else if g = 10 then (if x = 1 ∨ x = 2 then -1 else 0)
  else if g = 11 then (if x = 14 ∨ x = 51 then -1 else 0)
  else if g = 14370 then (if x = 2 then 1 else 0)
  else if g = 65579 ∨ g = 65582 then (if x = 0 then -1 else 0)
  else if g = 8194837 ∨ g = 8194842 then -1
  else if g = 62328 ∨ g = 14457 ∨ g = 61562 ∨ g = 39035 then (conL g).getD x.toNat 0
  else 0
theorem g0_o {g : Nat} {t i : Int} (h0 : g ≠ 11) (h1 : g ≠ 819298) (h2 : g ≠ 819561) (h3 : g ≠ 98406) (h4 : g ≠ 98671) (h5 : g ≠ 65639) (h6 : g ≠ 33130) (h7 : g ≠ 32875) (h8 : g ≠ 32878) : gof M0 g t i = M0 g t i := gof_o h0 h1 h2 h3 h4 h5 h6 h7 h8
theorem g0_m (i : Int) : ((gof M0) 14408 0 (i)) = 0 := by rw [g0_o (by decide) (by decide) (by decide) (by decide) (by decide) (by decide) (by decide) (by decide) (by decide)]; rfl
theorem g0_11 {i : Int} (h : i ≠ 50 ∧ i ≠ 51 ∧ i ≠ 52 ∧ i ≠ 65) : gof M0 11 0 i = M0 11 0 i := by
  rw [gof_11]
  unfold gf0
  rw [mu_ni h.2.2.2, mu_ni h.2.2.1, mu_ni h.2.1, mu_ni h.1]
theorem pl_0 : PL M0 (gof M0) := by
  have mr : mrs (gof M0) = 1 := by unfold mrs; rw [g0_m]; rfl
  have mb : MB (gof M0) := by unfold MB; simp only [g0_m]; decide
  refine PL.mk mb (fun _ => ⟨g0_m _, g0_m _, g0_m _⟩) ?_ ?_ ?_ ?_ ?_ ?_ ?_ ?_ ?_ ?_ ?_ ?_ ?_ ?_ ?_ ?_ ?_ ?_ ?_ ?_ ?_ ?_
  · rw [g0_m]; rfl
  · rw [g0_m]; rfl
  · rw [mr]; rfl
  · rw [g0_m]; rfl
  · rw [g0_m]; rfl
  · rw [g0_m]; rfl
  · rw [g0_m]; rfl
  · intro t a b; rw [g0_m] at b; omega
  · intro t a b; rw [g0_m] at b; omega
  · intro t a b; rw [g0_m] at b; omega
  · intro t a b; rw [g0_m] at b; omega
  · intro t a b; rw [g0_m] at b; omega
  · intro t a b; rw [g0_m] at b; omega
  · intro t a b; rw [g0_m] at b; omega
  · intro r a b
    rw [mr] at b
    have e : r = 0 := by omega
    subst e
    rw [if_pos (g0_m 2)]
    exact ⟨rfl, fun z => absurd (g0_m 2) z⟩
  · intro r a b
    rw [mr] at b
    have e : r = 0 := by omega
    subst e
    rw [g0_o (by decide) (by decide) (by decide) (by decide) (by decide) (by decide) (by decide) (by decide) (by decide), g0_o (by decide) (by decide) (by decide) (by decide) (by decide) (by decide) (by decide) (by decide) (by decide)]
    exact ⟨rfl, rfl⟩
  · intro t a b; rw [g0_m] at b; omega
  · intro t a b; rw [g0_m] at b; omega
  · intro t a b; rw [g0_m] at b; omega
  · intro t a b; rw [g0_m] at b; omega
  · refine ⟨rfl, fun w a b => ?_⟩
    have e1 : (M0 8 (w) 0) = -1 := rfl
    have e2 : (M0 8 (w) 6) = -1 := rfl
    have e3 : (M0 8 (w) 2) = 0 := rfl
    rw [e1, e2, e3]
    decide
  · intro r a b
    by_cases c : r = 0
    · subst c
      show -1 ≤ (-1 : Int) ∧ (-1 : Int) ≤ 100
      decide
    · have e : (M0 65579 0 (r)) = 0 := by
        show (if r = 0 then (-1 : Int) else 0) = 0
        rw [if_neg c]
      rw [e]
      decide
theorem rl_0 : RL 0 M0 (gof M0) := by
  have g0 : ∀ {g : Nat} (t i : Int), g ≠ 11 → g ≠ 819298 → g ≠ 819561 → g ≠ 98406 → g ≠ 98671 → g ≠ 65639 → g ≠ 33130 → g ≠ 32875 → g ≠ 32878 → gof M0 g t i = M0 g t i := fun {g} t i => g0_o
  refine off_rl pl_0 (OFc.mk rfl rfl ⟨rfl, rfl⟩ rfl (fun _ _ _ => ⟨rfl, rfl, rfl, rfl, rfl⟩) (fun _ _ _ => ⟨rfl, rfl⟩) (fun _ _ _ => rfl) rfl (fun _ _ _ => rfl) (fun _ _ _ => rfl) (fun _ _ _ => rfl) (fun a _ _ => ?_) rfl) (OFr.mk gof_st gof_hi (fun q _ _ => ?_) (fun q _ _ => ?_) ?_ gof_hv ?_ ?_ gof_bg gof_ca gof_wg gof_iu gof_se (fun a _ _ => ?_) ?_ ⟨?_, ?_⟩) ?_ ⟨?_, ?_, ?_⟩ (fun i _ _ => ?_) (fun c _ h => ?_) ⟨fun a _ _ => ?_, fun c _ _ => ?_⟩
  · show (0 : Int) ≤ 0 ∧ (0 : Int) ≤ 65535
    decide
  · rw [g0 _ _ (by decide) (by decide) (by decide) (by decide) (by decide) (by decide) (by decide) (by decide) (by decide)]
    show (0 : Int) ≤ 0 ∧ (0 : Int) < 48
    decide
  · rw [g0_11 (by decide), g0 _ _ (by decide) (by decide) (by decide) (by decide) (by decide) (by decide) (by decide) (by decide) (by decide)]
    show -(0 : Int) ≤ 0 ∧ (0 : Int) ≤ 0
    decide
  · rw [g0_11 (by decide)]
    show (0 : Int) ≤ 0 ∧ (0 : Int) ≤ 0
    decide
  · rw [gof_11]; unfold gf0; rw [mup_same]
  · rw [gof_11]; unfold gf0; rw [mu_ni (by decide), mup_same]
  · rw [g0 _ _ (by decide) (by decide) (by decide) (by decide) (by decide) (by decide) (by decide) (by decide) (by decide)]
    show (0 : Int) ≤ 0 ∧ (0 : Int) ≤ 65535
    decide
  · rw [gof_11]; unfold gf0; rw [mu_ni (by decide), mu_ni (by decide), mu_ni (by decide), mup_same]
  · rw [g0_11 (by decide)]; rfl
  · rw [g0_11 (by decide)]; rfl
  · rw [gof_11]; unfold gf0; rw [mu_ni (by decide), mu_ni (by decide), mup_same]; rfl
  · rw [g0_11 (by decide)]; rfl
  · rw [g0_11 (by decide)]; exact Int.le_refl 0
  · rw [g0_11 (by decide)]; exact Int.le_refl 0
  · rw [g0 _ _ (by decide) (by decide) (by decide) (by decide) (by decide) (by decide) (by decide) (by decide) (by decide)]; rfl
  · rw [g0_m] at h; omega
  · rw [g0 _ _ (by decide) (by decide) (by decide) (by decide) (by decide) (by decide) (by decide) (by decide) (by decide)]
    show (0 : Int) ≤ 0 ∧ (0 : Int) < 16
    decide
  · rw [g0 _ _ (by decide) (by decide) (by decide) (by decide) (by decide) (by decide) (by decide) (by decide) (by decide), g0 _ _ (by decide) (by decide) (by decide) (by decide) (by decide) (by decide) (by decide) (by decide) (by decide)]
    show ((0 : Int) ≤ 0 ∧ (0 : Int) ≤ 65535) ∧ (0 : Int) ≤ 0 ∧ (0 : Int) ≤ 65535
    decide
theorem inv_0 : INV 0 (gof M0) (gof M0) := by
  have g0 : ∀ {g : Nat} (t i : Int), g ≠ 11 → g ≠ 819298 → g ≠ 819561 → g ≠ 98406 → g ≠ 98671 → g ≠ 65639 → g ≠ 33130 → g ≠ 32875 → g ≠ 32878 → gof M0 g t i = M0 g t i := fun {g} t i => g0_o
  refine inv_m (M1 := M0) (fun g t x hg => ?_) ⟨rl_0, Std.off (Or.inl rfl), ⟨?_, ?_, fun i a b => ?_⟩, ⟨?_, ?_, ⟨rfl, rfl, rfl, rfl⟩, gof_om M0⟩, fun s i th => ?_⟩
  · exact gof_o (fun e => by subst e; cases hg) (fun e => by subst e; cases hg) (fun e => by subst e; cases hg) (fun e => by subst e; cases hg) (fun e => by subst e; cases hg) (fun e => by subst e; cases hg) (fun e => by subst e; cases hg) (fun e => by subst e; cases hg) (fun e => by subst e; cases hg)
  · rw [g0_11 (by decide)]; rfl
  · rw [g0_11 (by decide)]
    show (0 : Int) ≤ 0 ∧ (0 : Int) ≤ 4000
    decide
  · rw [g0_11 (by decide)] at b
    have b : i < 0 := b
    omega
  · rw [g0_11 (by decide)]; rfl
  · rw [g0_11 (by decide)]; rfl
  · have sz : ((gof M0) 917578 0 (64 * s + i)) = 0 := by
      rw [g0 _ _ (by decide) (by decide) (by decide) (by decide) (by decide) (by decide) (by decide) (by decide) (by decide)]; rfl
    have na : ((gof M0) 917577 0 (64 * s + i)) = 0 := by
      rw [g0 _ _ (by decide) (by decide) (by decide) (by decide) (by decide) (by decide) (by decide) (by decide) (by decide)]; rfl
    rw [npk_0 0 sz, npk_0 8 sz, sz, na]
    exact ⟨by decide, rfl, rfl⟩
