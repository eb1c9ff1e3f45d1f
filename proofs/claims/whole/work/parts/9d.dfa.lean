/-! ===== the grammar as a finite machine over kinds (of the reference) =====
0 an ITEM begins; 1..7 its name (sort + 1); 8, 9 resource; 10..15 counter; 16..25 task; 26..30 isr; 31..42 alarm; 99 wrong -/
def d0 (k : Int) : Nat := if 10 ≤ k ∧ k ≤ 16 then (k - 9).toNat else 99
def d3 (k : Int) : Nat := if k = 32 then 18 else if k = 33 then 19 else if k = 29 then 20 else if k = 24 then 22 else if k = 34 then 24 else d0 k
def dw (k w : Int) (s : Nat) : Nat := if k = w then s else 99
def dt (s : Nat) (k : Int) : Nat := match s with
  | 0 => d0 k
  | 1 => dw k 2 0
  | 2 => dw k 2 0
  | 3 => dw k 2 8
  | 4 => dw k 2 10
  | 5 => dw k 2 16
  | 6 => dw k 2 26
  | 7 => dw k 2 31
  | 8 => if k = 17 then 0 else if k = 18 then 9 else d0 k
  | 9 => dw k 2 0
  | 10 => dw k 19 11
  | 11 => dw k 3 12
  | 12 => dw k 20 13
  | 13 => dw k 3 14
  | 14 => dw k 21 15
  | 15 => dw k 3 0
  | 16 => dw k 22 17
  | 17 => dw k 3 18
  | 18 => d3 k
  | 19 => dw k 3 18
  | 20 => dw k 2 21
  | 21 => if k = 4 then 20 else d3 k
  | 22 => dw k 2 23
  | 23 => if k = 4 then 22 else d3 k
  | 24 => dw k 2 25
  | 25 => if k = 4 then 24 else d3 k
  | 26 => dw k 23 27
  | 27 => dw k 3 28
  | 28 => if k = 24 then 29 else d0 k
  | 29 => dw k 2 30
  | 30 => if k = 4 then 29 else d0 k
  | 31 => dw k 25 32
  | 32 => dw k 2 33
  | 33 => if k = 26 then 34 else if k = 27 then 35 else if k = 28 then 37 else 99
  | 34 => dw k 2 37
  | 35 => dw k 2 36
  | 36 => dw k 2 37
  | 37 => if k = 29 then 38 else d0 k
  | 38 => dw k 2 39
  | 39 => if k = 4 then 38 else if k = 30 then 40 else 99
  | 40 => dw k 3 41
  | 41 => if k = 31 then 42 else d0 k
  | 42 => dw k 3 0
  | _ => 99
/-- a token's role in a state (the class's numbers) -/
def dro (s : Nat) (k : Int) : Int := match s with
  | 1 | 2 | 3 | 4 | 5 | 6 | 7 => 1
  | 9 => 3
  | 11 => 13
  | 13 => 14
  | 15 => 15
  | 17 => 11
  | 19 => 12
  | 20 => 10
  | 22 => 4
  | 24 => 9
  | 27 => 16
  | 29 => 4
  | 32 => 5
  | 34 => 6
  | 35 => 7
  | 36 => 8
  | 38 => 10
  | 40 => 17
  | 42 => 18
  | 18 | 21 | 23 | 25 => if k = 32 ∨ k = 33 ∨ k = 29 ∨ k = 24 ∨ k = 34 then 2 else 0
  | _ => 0
/-- an ITEM may end in this state -/
def dac (s : Nat) : Bool := s == 0 || s == 8 || s == 18 || s == 21 || s == 23 || s == 25 || s == 28 || s == 30 || s == 37 || s == 41
section DFA
variable (K : Nat → Int)
/-- the state before token i -/
def dst : Nat → Nat
  | 0 => 0
  | i + 1 => dt (dst i) (K i)
/-- token i begins an ITEM -/
abbrev dit (i : Nat) : Prop := dac (dst K i) = true ∧ dt (dst K i) (K i) = d0 (K i) ∧ 10 ≤ K i ∧ K i ≤ 16
/-- an ITEM may end before token i, and does -/
def dex (i : Nat) : Prop := dac (dst K i) = true ∧ dt (dst K i) (K i) = d0 (K i)
/-- token f is the first that doesn't fit -/
def dfl (f : Nat) : Prop := dst K f ≠ 99 ∧ dt (dst K f) (K f) = 99 ∧ ¬ (K f = 0 ∧ dac (dst K f) = true)
/-- how many ITEMs begin before token i -/
def dnI : Nat → Nat
  | 0 => 0
  | i + 1 => dnI i + if dit K i then 1 else 0
/-- how many ITEMs of a sort begin before token i (resource 0 is there ahead) -/
def dnS (s : Int) : Nat → Int
  | 0 => if s = 2 then 1 else 0
  | i + 1 => dnS s i + if dit K i ∧ K i = s + 10 then 1 else 0
/-- the ITEM of token i begins here -/
def dow : Nat → Nat
  | 0 => 0
  | i + 1 => if dit K (i + 1) then i + 1 else dow i
end DFA
theorem dt_99 (k : Int) : dt 99 k = 99 := rfl
theorem d0_b (k : Int) : d0 k = 99 ∨ (1 ≤ d0 k ∧ d0 k ≤ 7) := by unfold d0; split <;> omega
theorem d3_b (k : Int) : d3 k = 99 ∨ (1 ≤ d3 k ∧ d3 k ≤ 42) := by 
  have := d0_b k
  unfold d3
  repeat' split
  all_goals omega
theorem dw_b (k w : Int) (s : Nat) : dw k w s = 99 ∨ dw k w s = s := by unfold dw; split <;> omega
theorem dt_b (s : Nat) (k : Int) : dt s k = 99 ∨ dt s k ≤ 42 := by
  have h0 := d0_b k
  have h3 := d3_b k
  unfold dt
  split <;> first | exact Or.inl rfl | skip
  all_goals (first | omega | (unfold dw; split <;> omega) | (repeat' split) <;> omega)
theorem dst_99 {K : Nat → Int} {i : Nat} (h : dst K i = 99) : ∀ j, i ≤ j → dst K j = 99 := by
  intro j hj
  induction j with
  | zero => rw [show 0 = i by omega]; exact h
  | succ j ih =>
    by_cases c : i = j + 1
    · rw [← c]; exact h
    · show dt (dst K j) (K j) = 99
      rw [ih (by omega)]
      rfl
theorem dfl_u {K : Nat → Int} {f f' : Nat} (h : dfl K f) (h' : dfl K f') : f = f' := by
  have e : dst K (f + 1) = 99 := h.2.1
  have e' : dst K (f' + 1) = 99 := h'.2.1
  by_cases c : f < f'
  · exact absurd (dst_99 e f' (by omega)) h'.1
  · by_cases c' : f' < f
    · exact absurd (dst_99 e' f (by omega)) h.1
    · omega
theorem dt_01 (s : Nat) (k : Int) (hk : k = 0 ∨ k = 1) : dt s k = 99 := by
  have h0 : d0 k = 99 := by unfold d0; rw [if_neg (by omega)]
  have h3 : d3 k = 99 := by
    unfold d3
    rw [if_neg (by omega), if_neg (by omega), if_neg (by omega), if_neg (by omega), if_neg (by omega)]
    exact h0
  have hw : ∀ w t, 2 ≤ w → dw k w t = 99 := fun w t h => by unfold dw; rw [if_neg (by omega)]
  unfold dt
  split <;> first | rfl | exact h0 | exact h3 | exact hw _ _ (by omega) | (repeat rw [if_neg (by omega)]) <;> first | exact h0 | exact h3
theorem dst_le {K : Nat → Int} {T i : Nat} (hT : K T = 0 ∨ K T = 1) (h : dst K i ≠ 99) : i ≤ T := by
  by_cases c : i ≤ T
  · exact c
  · exact absurd (dst_99 (i := T + 1) (dt_01 _ _ hT) i (by omega)) h
theorem dst_s {K : Nat → Int} {i s : Nat} (h : dst K i = s) : dst K (i + 1) = dt s (K i) := by rw [← h]; rfl
theorem dit_s {K : Nat → Int} {i : Nat} (h : dit K i) : dst K (i + 1) = (K i - 9).toNat := by
  show dt (dst K i) (K i) = _
  rw [h.2.1]
  unfold d0
  rw [if_pos ⟨h.2.2.1, h.2.2.2⟩]
theorem dnI_m (K : Nat → Int) : ∀ i j : Nat, i ≤ j → dnI K i ≤ dnI K j := by
  intro i j h
  induction j with
  | zero => rw [show i = 0 by omega]; exact Nat.le_refl _
  | succ j ih =>
    by_cases c : i = j + 1
    · rw [c]; exact Nat.le_refl _
    · have := ih (by omega)
      show _ ≤ dnI K j + _
      omega
theorem dnI_s {K : Nat → Int} {i j : Nat} (h : dit K i) (hj : i < j) : dnI K i < dnI K j := by
  have h1 : dnI K (i + 1) = dnI K i + 1 := by show dnI K i + (if dit K i then 1 else 0) = _; rw [if_pos h]
  have := dnI_m K (i + 1) j hj
  omega
theorem dnI_o {K : Nat → Int} : ∀ (i m : Nat), m < dnI K i → ∃ j, j < i ∧ dit K j ∧ dnI K j = m
  | 0, m, h => absurd h (by show ¬ m < 0; omega)
  | i + 1, m, h => by
    by_cases c : m < dnI K i
    · obtain ⟨j, h1, h2, h3⟩ := dnI_o i m c
      exact ⟨j, by omega, h2, h3⟩
    · have h : m < dnI K i + if dit K i then 1 else 0 := h
      by_cases d : dit K i
      · rw [if_pos d] at h
        exact ⟨i, by omega, d, by omega⟩
      · rw [if_neg d] at h; omega
