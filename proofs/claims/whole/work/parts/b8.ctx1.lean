/-! ===== what the two scanners leave, side by side ===== -/
theorem bya_b (M : AMem) (k : Int) : 0 ≤ bya M k ∧ bya M k < 256 := by
  unfold bya
  split
  · rw [and255]; omega
  · omega
theorem read_ck {M : AMem} {n : Int} (hn : 0 ≤ n ∧ n ≤ 4000) (h : 0 ≤ lst (cby M n) n ∧ lst (cby M n) n ≤ 4000) : CK (ctk M n ((lst (cby M n) n).toNat + 1)) (tkz (cby M n) n) (lst (cby M n) n).toNat := by
  refine ⟨by omega, ?_, fun i hi => ?_, (lst_s _ _ h.1).1, fun i _ => tkz_v _ _ i⟩
  · rw [(ctk_l M n _).1]; omega
  · rw [(ctk_t M n _ i (by omega)).1, cko_eq _ _ _ hn.2 (cby_n M n)]
    rfl
/-- only walk, now, bits and the fault differ -/
def W3 (M Y : AMem) : Prop := ∀ (g : Nat) (t x : Int), (g = 11 → x ≠ 21 ∧ x ≠ 22 ∧ x ≠ 48 ∧ x ≠ 11 ∧ x ≠ 12 ∧ x ≠ 13 ∧ x ≠ 14) → Y g t x = M g t x
theorem W1.w3 {M Y : AMem} (h : W1 M Y) : W3 M Y := fun g t x q => h g t x (fun e => ⟨(q e).2.1, (q e).2.2.1, (q e).2.2.2.1, (q e).2.2.2.2.1⟩)
theorem W3.tr {M Y Z : AMem} (h : W3 M Y) (k : W3 Y Z) : W3 M Z := fun g t x q => by rw [k g t x q, h g t x q]
theorem W3.wn (M : AMem) (a b : Int) : W3 M (mup (mup M 11 0 21 (a)) 11 0 22 (b)) := fun g t x q => by
  show mup (mup M 11 0 21 a) 11 0 22 b g t x = _
  by_cases e : g = 11
  · rw [mu_ni (q e).2.1, mu_ni (q e).1]
  · rw [mu_ng e, mu_ng e]
theorem C1.w3 {M Y : AMem} {K : Nat → Int} {T F : Nat} (h : C1 M K T F) (k : W3 M Y) : C1 Y K T F := by
  have e0 : (Y 11 0 10) = (M 11 0 10) := k _ _ _ (fun _ => by decide)
  have e1 : (Y 11 0 19) = (M 11 0 19) := k _ _ _ (fun _ => by decide)
  have e2 : ∀ x, (Y 8194110 0 (x)) = (M 8194110 0 (x)) := fun x => k _ _ _ (fun e => by cases e)
  have e3 : ∀ x, (Y 8194111 0 (x)) = (M 8194111 0 (x)) := fun x => k _ _ _ (fun e => by cases e)
  have e4 : ∀ x, (Y 8194112 0 (x)) = (M 8194112 0 (x)) := fun x => k _ _ _ (fun e => by cases e)
  have e5 : ∀ x, (Y 1433667 0 (x)) = (M 1433667 0 (x)) := fun x => k _ _ _ (fun e => by cases e)
  have e6 : ∀ x, (Y 1433666 0 (x)) = (M 1433666 0 (x)) := fun x => k _ _ _ (fun e => by cases e)
  have e7 : ∀ x, (Y 1433668 0 (x)) = (M 1433668 0 (x)) := fun x => k _ _ _ (fun e => by cases e)
  have e8 : ∀ x, (Y 1433669 0 (x)) = (M 1433669 0 (x)) := fun x => k _ _ _ (fun e => by cases e)
  have e9 : ∀ x, (Y 14406 0 (x)) = (M 14406 0 (x)) := fun x => k _ _ _ (fun e => by cases e)
  refine C1.mk ?_ ?_ ?_ ?_ ?_ ?_ h.ok ?_ h.n6
  · have q := h.rk
    unfold RK at q ⊢
    simp only [e0, e2]
    exact q
  · have q := h.tb
    unfold TB at q ⊢
    simp only [e0, e3, e4]
    exact q
  · have q := h.ib
    unfold IB at q ⊢
    simp only [e0, e1, e5, e6]
    exact q
  · have q := h.pm
    unfold PM at q ⊢
    simp only [e3]
    exact q
  · refine GA.mk ?_ ?_ ?_ ?_ ?_
    · rw [e1]; exact h.ga.it
    · intro s a b; rw [e9]; exact h.ga.to s a b
    · intro s a b; rw [e6]; exact h.ga.so s a b
    · intro s a b; rw [e5]; exact h.ga.na s a b
    · intro s a b; rw [e8]; exact h.ga.nu s a b
  · have q := h.ge
    unfold GE at q ⊢
    simp only [e7]
    exact q
  · have q := h.ha
    simp only [pas, e0, e1, e2, e5, e6]
    exact q
theorem c1_of {M Y : AMem} {K : Nat → Int} {T F : Nat} (rk : RK M K T) (tb : TB M) (pm : PM M T) (fw : FW M Y) (ga : GA Y K F) (ge : GE Y K F) (ok : dok K F) (n6 : dnI K F ≤ 666) (n7 : ∀ j : Nat, dit K j → dnI K j < 667) : C1 Y K T F := by
  have e0 : (Y 11 0 10) = (M 11 0 10) := fw _ _ _ (by decide) (by decide) (by decide) (by decide) (by decide) (fun _ => by decide)
  have e2 : ∀ x, (Y 8194110 0 (x)) = (M 8194110 0 (x)) := fun x => fw _ _ _ (by decide) (by decide) (by decide) (by decide) (by decide) (fun e => by cases e)
  have e3 : ∀ x, (Y 8194111 0 (x)) = (M 8194111 0 (x)) := fun x => fw _ _ _ (by decide) (by decide) (by decide) (by decide) (by decide) (fun e => by cases e)
  have e4 : ∀ x, (Y 8194112 0 (x)) = (M 8194112 0 (x)) := fun x => fw _ _ _ (by decide) (by decide) (by decide) (by decide) (by decide) (fun e => by cases e)
  have rk' : RK Y K T := by
    unfold RK at rk ⊢
    simp only [e0, e2]
    exact rk
  have z := ib_of rk' ga ok n6
  refine C1.mk rk' ?_ z.1 ?_ ga ge ok z.2 n7
  · unfold TB at tb ⊢
    simp only [e0, e3, e4]
    exact tb
  · unfold PM at pm ⊢
    simp only [e3]
    exact pm
/-- the class's outline is told to the end -/
theorem c2_of {X Y : AMem} {K : Nat → Int} {T F : Nat} (ck : CK X K T) (oi : OI X Y K F) (me : ∀ t : Nat, t < F → (Y 8194076 0 ((t : Int))) = if K t = 2 then cmg Y t else -1) (ok : dok K F) (sw : SWc Y) (n6 : dnI K F ≤ 666) : C2 Y K T F := by
  have f := oi.fo
  refine C2.mk ?_ oi.nx oi.ro oi.ow me oi.gc oi.he ok sw n6
  have e0 : (Y 2 0 5) = (X 2 0 5) := f _ _ _ (by decide) (by decide) (by decide) (by decide) (by decide) (by decide) (by decide) (by decide) (fun e => by cases e)
  have e1 : ∀ x, (Y 8194837 0 (x)) = (X 8194837 0 (x)) := fun x => f _ _ _ (by decide) (by decide) (by decide) (by decide) (by decide) (by decide) (by decide) (by decide) (fun e => by cases e)
  unfold CK at ck ⊢
  simp only [e0, e1]
  exact ck
