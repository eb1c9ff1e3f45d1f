/-! ===== two memories in one: the class from A, the reference from B (by program: wip/whole/gen/jn.py) ===== -/
def rG (g : Nat) : Bool := g == 11 || (Nat.ble 60 (g % 256) && Nat.blt (g % 256) 120)
def jn (A B : AMem) : AMem := fun g t i => if rG g = true then B g t i else A g t i
theorem jn_self (M : AMem) : jn M M = M := by
  funext g t i
  unfold jn
  split <;> rfl
theorem jn_r {A B : AMem} {g : Nat} (h : rG g = true) (t i : Int) : jn A B g t i = B g t i := if_pos h
theorem jn_c {A B : AMem} {g : Nat} (h : ¬ rG g = true) (t i : Int) : jn A B g t i = A g t i := if_neg h
theorem mu_r {A B : AMem} {g : Nat} (h : rG g = true) (t i v : Int) : mup (jn A B) g t i v = jn A (mup B g t i v) := by
  funext a b c
  unfold jn mup
  by_cases e : a = g ∧ b = t ∧ c = i
  · rw [if_pos e, e.1, if_pos h, if_pos ⟨rfl, e.2.1, e.2.2⟩]
  · rw [if_neg e, if_neg e]
theorem mu_c {A B : AMem} {g : Nat} (h : ¬ rG g = true) (t i v : Int) : mup (jn A B) g t i v = jn (mup A g t i v) B := by
  funext a b c
  unfold jn mup
  by_cases e : a = g ∧ b = t ∧ c = i
  · rw [if_pos e, e.1, if_neg h, if_pos ⟨rfl, e.2.1, e.2.2⟩]
  · rw [if_neg e, if_neg e]
theorem jn_ir {A B B' : AMem} {c : Prop} [Decidable c] : (if c then jn A B else jn A B') = jn A (if c then B else B') := by split <;> rfl
theorem jn_ic {A A' B : AMem} {c : Prop} [Decidable c] : (if c then jn A B else jn A' B) = jn (if c then A else A') B := by split <;> rfl
theorem fil_jr {A B : AMem} {g : Nat} (h : rG g = true) (n v : Int) : fil (jn A B) g n v = jn A (fil B g n v) := by
  funext a b c
  unfold jn fil
  by_cases e : a = g ∧ b = 0 ∧ 0 ≤ c ∧ c < n
  · rw [if_pos e, e.1, if_pos h, if_pos ⟨rfl, e.2⟩]
  · rw [if_neg e, if_neg e]
theorem shf_j (A B : AMem) (s n : Int) : shf (jn A B) s n = jn (shf A s n) B := by
  funext a b c
  unfold jn shf
  by_cases e : (a = 786481 ∨ a = 786482) ∧ b = 0 ∧ s < c ∧ c ≤ n
  · rw [if_pos e, if_pos e]
    have z : ¬ rG a = true := by rcases e.1 with z | z <;> (rw [z]; decide)
    show (if rG a = true then B a b (c - 1) else A a b (c - 1)) = _
    rw [if_neg z, if_neg z]
  · rw [if_neg e, if_neg e]
theorem jc_1 {A B : AMem} (t i : Int) : jn A B 1 t i = A 1 t i := jn_c (by decide) t i
theorem mc_1 {A B : AMem} (t i v : Int) : mup (jn A B) 1 t i v = jn (mup A 1 t i v) B := mu_c (by decide) t i v
theorem jc_2 {A B : AMem} (t i : Int) : jn A B 2 t i = A 2 t i := jn_c (by decide) t i
theorem mc_2 {A B : AMem} (t i v : Int) : mup (jn A B) 2 t i v = jn (mup A 2 t i v) B := mu_c (by decide) t i v
theorem jc_3 {A B : AMem} (t i : Int) : jn A B 3 t i = A 3 t i := jn_c (by decide) t i
theorem mc_3 {A B : AMem} (t i v : Int) : mup (jn A B) 3 t i v = jn (mup A 3 t i v) B := mu_c (by decide) t i v
theorem jc_4 {A B : AMem} (t i : Int) : jn A B 4 t i = A 4 t i := jn_c (by decide) t i
theorem mc_4 {A B : AMem} (t i v : Int) : mup (jn A B) 4 t i v = jn (mup A 4 t i v) B := mu_c (by decide) t i v
theorem jc_5 {A B : AMem} (t i : Int) : jn A B 5 t i = A 5 t i := jn_c (by decide) t i
theorem mc_5 {A B : AMem} (t i v : Int) : mup (jn A B) 5 t i v = jn (mup A 5 t i v) B := mu_c (by decide) t i v
theorem jc_6 {A B : AMem} (t i : Int) : jn A B 6 t i = A 6 t i := jn_c (by decide) t i
theorem mc_6 {A B : AMem} (t i v : Int) : mup (jn A B) 6 t i v = jn (mup A 6 t i v) B := mu_c (by decide) t i v
theorem jc_7 {A B : AMem} (t i : Int) : jn A B 7 t i = A 7 t i := jn_c (by decide) t i
theorem mc_7 {A B : AMem} (t i v : Int) : mup (jn A B) 7 t i v = jn (mup A 7 t i v) B := mu_c (by decide) t i v
theorem jc_8 {A B : AMem} (t i : Int) : jn A B 8 t i = A 8 t i := jn_c (by decide) t i
theorem mc_8 {A B : AMem} (t i v : Int) : mup (jn A B) 8 t i v = jn (mup A 8 t i v) B := mu_c (by decide) t i v
theorem jc_9 {A B : AMem} (t i : Int) : jn A B 9 t i = A 9 t i := jn_c (by decide) t i
theorem mc_9 {A B : AMem} (t i v : Int) : mup (jn A B) 9 t i v = jn (mup A 9 t i v) B := mu_c (by decide) t i v
theorem jc_10 {A B : AMem} (t i : Int) : jn A B 10 t i = A 10 t i := jn_c (by decide) t i
theorem mc_10 {A B : AMem} (t i v : Int) : mup (jn A B) 10 t i v = jn (mup A 10 t i v) B := mu_c (by decide) t i v
theorem jr_11 {A B : AMem} (t i : Int) : jn A B 11 t i = B 11 t i := jn_r (by decide) t i
theorem mr_11 {A B : AMem} (t i v : Int) : mup (jn A B) 11 t i v = jn A (mup B 11 t i v) := mu_r (by decide) t i v
theorem jc_14369 {A B : AMem} (t i : Int) : jn A B 14369 t i = A 14369 t i := jn_c (by decide) t i
theorem mc_14369 {A B : AMem} (t i v : Int) : mup (jn A B) 14369 t i v = jn (mup A 14369 t i v) B := mu_c (by decide) t i v
theorem jc_14370 {A B : AMem} (t i : Int) : jn A B 14370 t i = A 14370 t i := jn_c (by decide) t i
theorem mc_14370 {A B : AMem} (t i v : Int) : mup (jn A B) 14370 t i v = jn (mup A 14370 t i v) B := mu_c (by decide) t i v
theorem jr_14406 {A B : AMem} (t i : Int) : jn A B 14406 t i = B 14406 t i := jn_r (by decide) t i
theorem mr_14406 {A B : AMem} (t i v : Int) : mup (jn A B) 14406 t i v = jn A (mup B 14406 t i v) := mu_r (by decide) t i v
theorem jr_14408 {A B : AMem} (t i : Int) : jn A B 14408 t i = B 14408 t i := jn_r (by decide) t i
theorem mr_14408 {A B : AMem} (t i v : Int) : mup (jn A B) 14408 t i v = jn A (mup B 14408 t i v) := mu_r (by decide) t i v
theorem jc_14457 {A B : AMem} (t i : Int) : jn A B 14457 t i = A 14457 t i := jn_c (by decide) t i
theorem mc_14457 {A B : AMem} (t i v : Int) : mup (jn A B) 14457 t i v = jn (mup A 14457 t i v) B := mu_c (by decide) t i v
theorem jc_15139 {A B : AMem} (t i : Int) : jn A B 15139 t i = A 15139 t i := jn_c (by decide) t i
theorem mc_15139 {A B : AMem} (t i v : Int) : mup (jn A B) 15139 t i v = jn (mup A 15139 t i v) B := mu_c (by decide) t i v
theorem jc_15141 {A B : AMem} (t i : Int) : jn A B 15141 t i = A 15141 t i := jn_c (by decide) t i
theorem mc_15141 {A B : AMem} (t i v : Int) : mup (jn A B) 15141 t i v = jn (mup A 15141 t i v) B := mu_c (by decide) t i v
theorem jc_32815 {A B : AMem} (t i : Int) : jn A B 32815 t i = A 32815 t i := jn_c (by decide) t i
theorem mc_32815 {A B : AMem} (t i v : Int) : mup (jn A B) 32815 t i v = jn (mup A 32815 t i v) B := mu_c (by decide) t i v
theorem jr_32846 {A B : AMem} (t i : Int) : jn A B 32846 t i = B 32846 t i := jn_r (by decide) t i
theorem mr_32846 {A B : AMem} (t i v : Int) : mup (jn A B) 32846 t i v = jn A (mup B 32846 t i v) := mu_r (by decide) t i v
theorem jr_32847 {A B : AMem} (t i : Int) : jn A B 32847 t i = B 32847 t i := jn_r (by decide) t i
theorem mr_32847 {A B : AMem} (t i v : Int) : mup (jn A B) 32847 t i v = jn A (mup B 32847 t i v) := mu_r (by decide) t i v
theorem jr_32848 {A B : AMem} (t i : Int) : jn A B 32848 t i = B 32848 t i := jn_r (by decide) t i
theorem mr_32848 {A B : AMem} (t i v : Int) : mup (jn A B) 32848 t i v = jn A (mup B 32848 t i v) := mu_r (by decide) t i v
theorem jr_32855 {A B : AMem} (t i : Int) : jn A B 32855 t i = B 32855 t i := jn_r (by decide) t i
theorem mr_32855 {A B : AMem} (t i v : Int) : mup (jn A B) 32855 t i v = jn A (mup B 32855 t i v) := mu_r (by decide) t i v
theorem jr_32856 {A B : AMem} (t i : Int) : jn A B 32856 t i = B 32856 t i := jn_r (by decide) t i
theorem mr_32856 {A B : AMem} (t i v : Int) : mup (jn A B) 32856 t i v = jn A (mup B 32856 t i v) := mu_r (by decide) t i v
theorem jr_32875 {A B : AMem} (t i : Int) : jn A B 32875 t i = B 32875 t i := jn_r (by decide) t i
theorem mr_32875 {A B : AMem} (t i v : Int) : mup (jn A B) 32875 t i v = jn A (mup B 32875 t i v) := mu_r (by decide) t i v
theorem jr_32876 {A B : AMem} (t i : Int) : jn A B 32876 t i = B 32876 t i := jn_r (by decide) t i
theorem mr_32876 {A B : AMem} (t i v : Int) : mup (jn A B) 32876 t i v = jn A (mup B 32876 t i v) := mu_r (by decide) t i v
theorem jr_32877 {A B : AMem} (t i : Int) : jn A B 32877 t i = B 32877 t i := jn_r (by decide) t i
theorem mr_32877 {A B : AMem} (t i v : Int) : mup (jn A B) 32877 t i v = jn A (mup B 32877 t i v) := mu_r (by decide) t i v
theorem jr_32878 {A B : AMem} (t i : Int) : jn A B 32878 t i = B 32878 t i := jn_r (by decide) t i
theorem mr_32878 {A B : AMem} (t i v : Int) : mup (jn A B) 32878 t i v = jn A (mup B 32878 t i v) := mu_r (by decide) t i v
theorem jr_33130 {A B : AMem} (t i : Int) : jn A B 33130 t i = B 33130 t i := jn_r (by decide) t i
theorem mr_33130 {A B : AMem} (t i v : Int) : mup (jn A B) 33130 t i v = jn A (mup B 33130 t i v) := mu_r (by decide) t i v
theorem jc_33576 {A B : AMem} (t i : Int) : jn A B 33576 t i = A 33576 t i := jn_c (by decide) t i
theorem mc_33576 {A B : AMem} (t i v : Int) : mup (jn A B) 33576 t i v = jn (mup A 33576 t i v) B := mu_c (by decide) t i v
theorem jc_33577 {A B : AMem} (t i : Int) : jn A B 33577 t i = A 33577 t i := jn_c (by decide) t i
theorem mc_33577 {A B : AMem} (t i v : Int) : mup (jn A B) 33577 t i v = jn (mup A 33577 t i v) B := mu_c (by decide) t i v
theorem jc_39035 {A B : AMem} (t i : Int) : jn A B 39035 t i = A 39035 t i := jn_c (by decide) t i
theorem mc_39035 {A B : AMem} (t i v : Int) : mup (jn A B) 39035 t i v = jn (mup A 39035 t i v) B := mu_c (by decide) t i v
theorem jc_61562 {A B : AMem} (t i : Int) : jn A B 61562 t i = A 61562 t i := jn_c (by decide) t i
theorem mc_61562 {A B : AMem} (t i v : Int) : mup (jn A B) 61562 t i v = jn (mup A 61562 t i v) B := mu_c (by decide) t i v
theorem jc_62328 {A B : AMem} (t i : Int) : jn A B 62328 t i = A 62328 t i := jn_c (by decide) t i
theorem mc_62328 {A B : AMem} (t i v : Int) : mup (jn A B) 62328 t i v = jn (mup A 62328 t i v) B := mu_c (by decide) t i v
theorem jc_65579 {A B : AMem} (t i : Int) : jn A B 65579 t i = A 65579 t i := jn_c (by decide) t i
theorem mc_65579 {A B : AMem} (t i v : Int) : mup (jn A B) 65579 t i v = jn (mup A 65579 t i v) B := mu_c (by decide) t i v
theorem jc_65580 {A B : AMem} (t i : Int) : jn A B 65580 t i = A 65580 t i := jn_c (by decide) t i
theorem mc_65580 {A B : AMem} (t i v : Int) : mup (jn A B) 65580 t i v = jn (mup A 65580 t i v) B := mu_c (by decide) t i v
theorem jc_65582 {A B : AMem} (t i : Int) : jn A B 65582 t i = A 65582 t i := jn_c (by decide) t i
theorem mc_65582 {A B : AMem} (t i v : Int) : mup (jn A B) 65582 t i v = jn (mup A 65582 t i v) B := mu_c (by decide) t i v
theorem jc_65587 {A B : AMem} (t i : Int) : jn A B 65587 t i = A 65587 t i := jn_c (by decide) t i
theorem mc_65587 {A B : AMem} (t i v : Int) : mup (jn A B) 65587 t i v = jn (mup A 65587 t i v) B := mu_c (by decide) t i v
theorem jr_65612 {A B : AMem} (t i : Int) : jn A B 65612 t i = B 65612 t i := jn_r (by decide) t i
theorem mr_65612 {A B : AMem} (t i v : Int) : mup (jn A B) 65612 t i v = jn A (mup B 65612 t i v) := mu_r (by decide) t i v
theorem jr_65613 {A B : AMem} (t i : Int) : jn A B 65613 t i = B 65613 t i := jn_r (by decide) t i
theorem mr_65613 {A B : AMem} (t i v : Int) : mup (jn A B) 65613 t i v = jn A (mup B 65613 t i v) := mu_r (by decide) t i v
theorem jr_65632 {A B : AMem} (t i : Int) : jn A B 65632 t i = B 65632 t i := jn_r (by decide) t i
theorem mr_65632 {A B : AMem} (t i v : Int) : mup (jn A B) 65632 t i v = jn A (mup B 65632 t i v) := mu_r (by decide) t i v
theorem jr_65639 {A B : AMem} (t i : Int) : jn A B 65639 t i = B 65639 t i := jn_r (by decide) t i
theorem mr_65639 {A B : AMem} (t i v : Int) : mup (jn A B) 65639 t i v = jn A (mup B 65639 t i v) := mu_r (by decide) t i v
theorem jc_65837 {A B : AMem} (t i : Int) : jn A B 65837 t i = A 65837 t i := jn_c (by decide) t i
theorem mc_65837 {A B : AMem} (t i v : Int) : mup (jn A B) 65837 t i v = jn (mup A 65837 t i v) B := mu_c (by decide) t i v
theorem jr_65867 {A B : AMem} (t i : Int) : jn A B 65867 t i = B 65867 t i := jn_r (by decide) t i
theorem mr_65867 {A B : AMem} (t i v : Int) : mup (jn A B) 65867 t i v = jn A (mup B 65867 t i v) := mu_r (by decide) t i v
theorem jr_66152 {A B : AMem} (t i : Int) : jn A B 66152 t i = B 66152 t i := jn_r (by decide) t i
theorem mr_66152 {A B : AMem} (t i v : Int) : mup (jn A B) 66152 t i v = jn A (mup B 66152 t i v) := mu_r (by decide) t i v
theorem jr_98385 {A B : AMem} (t i : Int) : jn A B 98385 t i = B 98385 t i := jn_r (by decide) t i
theorem mr_98385 {A B : AMem} (t i v : Int) : mup (jn A B) 98385 t i v = jn A (mup B 98385 t i v) := mu_r (by decide) t i v
theorem jr_98387 {A B : AMem} (t i : Int) : jn A B 98387 t i = B 98387 t i := jn_r (by decide) t i
theorem mr_98387 {A B : AMem} (t i v : Int) : mup (jn A B) 98387 t i v = jn A (mup B 98387 t i v) := mu_r (by decide) t i v
theorem jr_98388 {A B : AMem} (t i : Int) : jn A B 98388 t i = B 98388 t i := jn_r (by decide) t i
theorem mr_98388 {A B : AMem} (t i v : Int) : mup (jn A B) 98388 t i v = jn A (mup B 98388 t i v) := mu_r (by decide) t i v
theorem jr_98389 {A B : AMem} (t i : Int) : jn A B 98389 t i = B 98389 t i := jn_r (by decide) t i
theorem mr_98389 {A B : AMem} (t i v : Int) : mup (jn A B) 98389 t i v = jn A (mup B 98389 t i v) := mu_r (by decide) t i v
theorem jr_98390 {A B : AMem} (t i : Int) : jn A B 98390 t i = B 98390 t i := jn_r (by decide) t i
theorem mr_98390 {A B : AMem} (t i v : Int) : mup (jn A B) 98390 t i v = jn A (mup B 98390 t i v) := mu_r (by decide) t i v
theorem jr_98393 {A B : AMem} (t i : Int) : jn A B 98393 t i = B 98393 t i := jn_r (by decide) t i
theorem mr_98393 {A B : AMem} (t i v : Int) : mup (jn A B) 98393 t i v = jn A (mup B 98393 t i v) := mu_r (by decide) t i v
theorem jr_98394 {A B : AMem} (t i : Int) : jn A B 98394 t i = B 98394 t i := jn_r (by decide) t i
theorem mr_98394 {A B : AMem} (t i v : Int) : mup (jn A B) 98394 t i v = jn A (mup B 98394 t i v) := mu_r (by decide) t i v
theorem jr_98395 {A B : AMem} (t i : Int) : jn A B 98395 t i = B 98395 t i := jn_r (by decide) t i
theorem mr_98395 {A B : AMem} (t i v : Int) : mup (jn A B) 98395 t i v = jn A (mup B 98395 t i v) := mu_r (by decide) t i v
theorem jr_98396 {A B : AMem} (t i : Int) : jn A B 98396 t i = B 98396 t i := jn_r (by decide) t i
theorem mr_98396 {A B : AMem} (t i v : Int) : mup (jn A B) 98396 t i v = jn A (mup B 98396 t i v) := mu_r (by decide) t i v
theorem jr_98397 {A B : AMem} (t i : Int) : jn A B 98397 t i = B 98397 t i := jn_r (by decide) t i
theorem mr_98397 {A B : AMem} (t i v : Int) : mup (jn A B) 98397 t i v = jn A (mup B 98397 t i v) := mu_r (by decide) t i v
theorem jr_98398 {A B : AMem} (t i : Int) : jn A B 98398 t i = B 98398 t i := jn_r (by decide) t i
theorem mr_98398 {A B : AMem} (t i v : Int) : mup (jn A B) 98398 t i v = jn A (mup B 98398 t i v) := mu_r (by decide) t i v
theorem jr_98399 {A B : AMem} (t i : Int) : jn A B 98399 t i = B 98399 t i := jn_r (by decide) t i
theorem mr_98399 {A B : AMem} (t i v : Int) : mup (jn A B) 98399 t i v = jn A (mup B 98399 t i v) := mu_r (by decide) t i v
theorem jr_98406 {A B : AMem} (t i : Int) : jn A B 98406 t i = B 98406 t i := jn_r (by decide) t i
theorem mr_98406 {A B : AMem} (t i v : Int) : mup (jn A B) 98406 t i v = jn A (mup B 98406 t i v) := mu_r (by decide) t i v
theorem jr_98416 {A B : AMem} (t i : Int) : jn A B 98416 t i = B 98416 t i := jn_r (by decide) t i
theorem mr_98416 {A B : AMem} (t i v : Int) : mup (jn A B) 98416 t i v = jn A (mup B 98416 t i v) := mu_r (by decide) t i v
theorem jr_98417 {A B : AMem} (t i : Int) : jn A B 98417 t i = B 98417 t i := jn_r (by decide) t i
theorem mr_98417 {A B : AMem} (t i v : Int) : mup (jn A B) 98417 t i v = jn A (mup B 98417 t i v) := mu_r (by decide) t i v
theorem jr_98642 {A B : AMem} (t i : Int) : jn A B 98642 t i = B 98642 t i := jn_r (by decide) t i
theorem mr_98642 {A B : AMem} (t i v : Int) : mup (jn A B) 98642 t i v = jn A (mup B 98642 t i v) := mu_r (by decide) t i v
theorem jr_98671 {A B : AMem} (t i : Int) : jn A B 98671 t i = B 98671 t i := jn_r (by decide) t i
theorem mr_98671 {A B : AMem} (t i v : Int) : mup (jn A B) 98671 t i v = jn A (mup B 98671 t i v) := mu_r (by decide) t i v
theorem jc_98852 {A B : AMem} (t i : Int) : jn A B 98852 t i = A 98852 t i := jn_c (by decide) t i
theorem mc_98852 {A B : AMem} (t i v : Int) : mup (jn A B) 98852 t i v = jn (mup A 98852 t i v) B := mu_c (by decide) t i v
theorem jc_98854 {A B : AMem} (t i : Int) : jn A B 98854 t i = A 98854 t i := jn_c (by decide) t i
theorem mc_98854 {A B : AMem} (t i v : Int) : mup (jn A B) 98854 t i v = jn (mup A 98854 t i v) B := mu_c (by decide) t i v
theorem jc_99111 {A B : AMem} (t i : Int) : jn A B 99111 t i = A 99111 t i := jn_c (by decide) t i
theorem mc_99111 {A B : AMem} (t i v : Int) : mup (jn A B) 99111 t i v = jn (mup A 99111 t i v) B := mu_c (by decide) t i v
theorem jc_99114 {A B : AMem} (t i : Int) : jn A B 99114 t i = A 99114 t i := jn_c (by decide) t i
theorem mc_99114 {A B : AMem} (t i v : Int) : mup (jn A B) 99114 t i v = jn (mup A 99114 t i v) B := mu_c (by decide) t i v
theorem jc_786481 {A B : AMem} (t i : Int) : jn A B 786481 t i = A 786481 t i := jn_c (by decide) t i
theorem mc_786481 {A B : AMem} (t i v : Int) : mup (jn A B) 786481 t i v = jn (mup A 786481 t i v) B := mu_c (by decide) t i v
theorem jc_786482 {A B : AMem} (t i : Int) : jn A B 786482 t i = A 786482 t i := jn_c (by decide) t i
theorem mc_786482 {A B : AMem} (t i v : Int) : mup (jn A B) 786482 t i v = jn (mup A 786482 t i v) B := mu_c (by decide) t i v
theorem jr_819297 {A B : AMem} (t i : Int) : jn A B 819297 t i = B 819297 t i := jn_r (by decide) t i
theorem mr_819297 {A B : AMem} (t i v : Int) : mup (jn A B) 819297 t i v = jn A (mup B 819297 t i v) := mu_r (by decide) t i v
theorem jr_819298 {A B : AMem} (t i : Int) : jn A B 819298 t i = B 819298 t i := jn_r (by decide) t i
theorem mr_819298 {A B : AMem} (t i v : Int) : mup (jn A B) 819298 t i v = jn A (mup B 819298 t i v) := mu_r (by decide) t i v
theorem jr_819299 {A B : AMem} (t i : Int) : jn A B 819299 t i = B 819299 t i := jn_r (by decide) t i
theorem mr_819299 {A B : AMem} (t i v : Int) : mup (jn A B) 819299 t i v = jn A (mup B 819299 t i v) := mu_r (by decide) t i v
theorem jr_819301 {A B : AMem} (t i : Int) : jn A B 819301 t i = B 819301 t i := jn_r (by decide) t i
theorem mr_819301 {A B : AMem} (t i v : Int) : mup (jn A B) 819301 t i v = jn A (mup B 819301 t i v) := mu_r (by decide) t i v
theorem jr_819561 {A B : AMem} (t i : Int) : jn A B 819561 t i = B 819561 t i := jn_r (by decide) t i
theorem mr_819561 {A B : AMem} (t i v : Int) : mup (jn A B) 819561 t i v = jn A (mup B 819561 t i v) := mu_r (by decide) t i v
theorem jr_819812 {A B : AMem} (t i : Int) : jn A B 819812 t i = B 819812 t i := jn_r (by decide) t i
theorem mr_819812 {A B : AMem} (t i v : Int) : mup (jn A B) 819812 t i v = jn A (mup B 819812 t i v) := mu_r (by decide) t i v
theorem jr_917577 {A B : AMem} (t i : Int) : jn A B 917577 t i = B 917577 t i := jn_r (by decide) t i
theorem mr_917577 {A B : AMem} (t i v : Int) : mup (jn A B) 917577 t i v = jn A (mup B 917577 t i v) := mu_r (by decide) t i v
theorem jr_917578 {A B : AMem} (t i : Int) : jn A B 917578 t i = B 917578 t i := jn_r (by decide) t i
theorem mr_917578 {A B : AMem} (t i v : Int) : mup (jn A B) 917578 t i v = jn A (mup B 917578 t i v) := mu_r (by decide) t i v
theorem jc_1024048 {A B : AMem} (t i : Int) : jn A B 1024048 t i = A 1024048 t i := jn_c (by decide) t i
theorem mc_1024048 {A B : AMem} (t i v : Int) : mup (jn A B) 1024048 t i v = jn (mup A 1024048 t i v) B := mu_c (by decide) t i v
theorem jr_1024114 {A B : AMem} (t i : Int) : jn A B 1024114 t i = B 1024114 t i := jn_r (by decide) t i
theorem mr_1024114 {A B : AMem} (t i v : Int) : mup (jn A B) 1024114 t i v = jn A (mup B 1024114 t i v) := mu_r (by decide) t i v
theorem jc_1366045 {A B : AMem} (t i : Int) : jn A B 1366045 t i = A 1366045 t i := jn_c (by decide) t i
theorem mc_1366045 {A B : AMem} (t i v : Int) : mup (jn A B) 1366045 t i v = jn (mup A 1366045 t i v) B := mu_c (by decide) t i v
theorem jc_1366046 {A B : AMem} (t i : Int) : jn A B 1366046 t i = A 1366046 t i := jn_c (by decide) t i
theorem mc_1366046 {A B : AMem} (t i v : Int) : mup (jn A B) 1366046 t i v = jn (mup A 1366046 t i v) B := mu_c (by decide) t i v
theorem jc_1366047 {A B : AMem} (t i : Int) : jn A B 1366047 t i = A 1366047 t i := jn_c (by decide) t i
theorem mc_1366047 {A B : AMem} (t i v : Int) : mup (jn A B) 1366047 t i v = jn (mup A 1366047 t i v) B := mu_c (by decide) t i v
theorem jc_1366048 {A B : AMem} (t i : Int) : jn A B 1366048 t i = A 1366048 t i := jn_c (by decide) t i
theorem mc_1366048 {A B : AMem} (t i v : Int) : mup (jn A B) 1366048 t i v = jn (mup A 1366048 t i v) B := mu_c (by decide) t i v
theorem jr_1433666 {A B : AMem} (t i : Int) : jn A B 1433666 t i = B 1433666 t i := jn_r (by decide) t i
theorem mr_1433666 {A B : AMem} (t i v : Int) : mup (jn A B) 1433666 t i v = jn A (mup B 1433666 t i v) := mu_r (by decide) t i v
theorem jr_1433667 {A B : AMem} (t i : Int) : jn A B 1433667 t i = B 1433667 t i := jn_r (by decide) t i
theorem mr_1433667 {A B : AMem} (t i v : Int) : mup (jn A B) 1433667 t i v = jn A (mup B 1433667 t i v) := mu_r (by decide) t i v
theorem jr_1433668 {A B : AMem} (t i : Int) : jn A B 1433668 t i = B 1433668 t i := jn_r (by decide) t i
theorem mr_1433668 {A B : AMem} (t i v : Int) : mup (jn A B) 1433668 t i v = jn A (mup B 1433668 t i v) := mu_r (by decide) t i v
theorem jr_1433669 {A B : AMem} (t i : Int) : jn A B 1433669 t i = B 1433669 t i := jn_r (by decide) t i
theorem mr_1433669 {A B : AMem} (t i v : Int) : mup (jn A B) 1433669 t i v = jn A (mup B 1433669 t i v) := mu_r (by decide) t i v
theorem jr_8193084 {A B : AMem} (t i : Int) : jn A B 8193084 t i = B 8193084 t i := jn_r (by decide) t i
theorem mr_8193084 {A B : AMem} (t i v : Int) : mup (jn A B) 8193084 t i v = jn A (mup B 8193084 t i v) := mu_r (by decide) t i v
theorem jr_8193085 {A B : AMem} (t i : Int) : jn A B 8193085 t i = B 8193085 t i := jn_r (by decide) t i
theorem mr_8193085 {A B : AMem} (t i v : Int) : mup (jn A B) 8193085 t i v = jn A (mup B 8193085 t i v) := mu_r (by decide) t i v
theorem jr_8193095 {A B : AMem} (t i : Int) : jn A B 8193095 t i = B 8193095 t i := jn_r (by decide) t i
theorem mr_8193095 {A B : AMem} (t i v : Int) : mup (jn A B) 8193095 t i v = jn A (mup B 8193095 t i v) := mu_r (by decide) t i v
theorem jc_8193300 {A B : AMem} (t i : Int) : jn A B 8193300 t i = A 8193300 t i := jn_c (by decide) t i
theorem mc_8193300 {A B : AMem} (t i v : Int) : mup (jn A B) 8193300 t i v = jn (mup A 8193300 t i v) B := mu_c (by decide) t i v
theorem jc_8194070 {A B : AMem} (t i : Int) : jn A B 8194070 t i = A 8194070 t i := jn_c (by decide) t i
theorem mc_8194070 {A B : AMem} (t i v : Int) : mup (jn A B) 8194070 t i v = jn (mup A 8194070 t i v) B := mu_c (by decide) t i v
theorem jc_8194071 {A B : AMem} (t i : Int) : jn A B 8194071 t i = A 8194071 t i := jn_c (by decide) t i
theorem mc_8194071 {A B : AMem} (t i v : Int) : mup (jn A B) 8194071 t i v = jn (mup A 8194071 t i v) B := mu_c (by decide) t i v
theorem jc_8194075 {A B : AMem} (t i : Int) : jn A B 8194075 t i = A 8194075 t i := jn_c (by decide) t i
theorem mc_8194075 {A B : AMem} (t i v : Int) : mup (jn A B) 8194075 t i v = jn (mup A 8194075 t i v) B := mu_c (by decide) t i v
theorem jc_8194076 {A B : AMem} (t i : Int) : jn A B 8194076 t i = A 8194076 t i := jn_c (by decide) t i
theorem mc_8194076 {A B : AMem} (t i v : Int) : mup (jn A B) 8194076 t i v = jn (mup A 8194076 t i v) B := mu_c (by decide) t i v
theorem jr_8194110 {A B : AMem} (t i : Int) : jn A B 8194110 t i = B 8194110 t i := jn_r (by decide) t i
theorem mr_8194110 {A B : AMem} (t i v : Int) : mup (jn A B) 8194110 t i v = jn A (mup B 8194110 t i v) := mu_r (by decide) t i v
theorem jr_8194111 {A B : AMem} (t i : Int) : jn A B 8194111 t i = B 8194111 t i := jn_r (by decide) t i
theorem mr_8194111 {A B : AMem} (t i v : Int) : mup (jn A B) 8194111 t i v = jn A (mup B 8194111 t i v) := mu_r (by decide) t i v
theorem jr_8194112 {A B : AMem} (t i : Int) : jn A B 8194112 t i = B 8194112 t i := jn_r (by decide) t i
theorem mr_8194112 {A B : AMem} (t i v : Int) : mup (jn A B) 8194112 t i v = jn A (mup B 8194112 t i v) := mu_r (by decide) t i v
theorem jr_8194113 {A B : AMem} (t i : Int) : jn A B 8194113 t i = B 8194113 t i := jn_r (by decide) t i
theorem mr_8194113 {A B : AMem} (t i v : Int) : mup (jn A B) 8194113 t i v = jn A (mup B 8194113 t i v) := mu_r (by decide) t i v
theorem jc_8194584 {A B : AMem} (t i : Int) : jn A B 8194584 t i = A 8194584 t i := jn_c (by decide) t i
theorem mc_8194584 {A B : AMem} (t i v : Int) : mup (jn A B) 8194584 t i v = jn (mup A 8194584 t i v) B := mu_c (by decide) t i v
theorem jc_8194585 {A B : AMem} (t i : Int) : jn A B 8194585 t i = A 8194585 t i := jn_c (by decide) t i
theorem mc_8194585 {A B : AMem} (t i v : Int) : mup (jn A B) 8194585 t i v = jn (mup A 8194585 t i v) B := mu_c (by decide) t i v
theorem jc_8194837 {A B : AMem} (t i : Int) : jn A B 8194837 t i = A 8194837 t i := jn_c (by decide) t i
theorem mc_8194837 {A B : AMem} (t i v : Int) : mup (jn A B) 8194837 t i v = jn (mup A 8194837 t i v) B := mu_c (by decide) t i v
theorem jc_8194842 {A B : AMem} (t i : Int) : jn A B 8194842 t i = A 8194842 t i := jn_c (by decide) t i
theorem mc_8194842 {A B : AMem} (t i v : Int) : mup (jn A B) 8194842 t i v = jn (mup A 8194842 t i v) B := mu_c (by decide) t i v
theorem fl_819298 {A B : AMem} (n v : Int) : fil (jn A B) 819298 n v = jn A (fil B 819298 n v) := fil_jr (by decide) n v
theorem fl_819561 {A B : AMem} (n v : Int) : fil (jn A B) 819561 n v = jn A (fil B 819561 n v) := fil_jr (by decide) n v
theorem fl_98406 {A B : AMem} (n v : Int) : fil (jn A B) 98406 n v = jn A (fil B 98406 n v) := fil_jr (by decide) n v
theorem fl_98671 {A B : AMem} (n v : Int) : fil (jn A B) 98671 n v = jn A (fil B 98671 n v) := fil_jr (by decide) n v
theorem fl_65639 {A B : AMem} (n v : Int) : fil (jn A B) 65639 n v = jn A (fil B 65639 n v) := fil_jr (by decide) n v
theorem fl_33130 {A B : AMem} (n v : Int) : fil (jn A B) 33130 n v = jn A (fil B 33130 n v) := fil_jr (by decide) n v
theorem fl_32875 {A B : AMem} (n v : Int) : fil (jn A B) 32875 n v = jn A (fil B 32875 n v) := fil_jr (by decide) n v
theorem fl_32878 {A B : AMem} (n v : Int) : fil (jn A B) 32878 n v = jn A (fil B 32878 n v) := fil_jr (by decide) n v
theorem fl_32876 {A B : AMem} (n v : Int) : fil (jn A B) 32876 n v = jn A (fil B 32876 n v) := fil_jr (by decide) n v
theorem fl_32877 {A B : AMem} (n v : Int) : fil (jn A B) 32877 n v = jn A (fil B 32877 n v) := fil_jr (by decide) n v
