/-! ===== every ITEM that is whole has six bytes ===== -/
section ITEMS2
variable {b : Int → Int} {n : Int}
theorem pos_e (hn : n ≤ 4000) (hb : ∀ k, n ≤ k → b k = 0) {j j' : Nat} (h : dit (tkz b n) j) (h' : dac (dst (tkz b n) j') = true) (hj : j < j') : pos b n j + 6 ≤ pos b n j' := by
  have d1 := dit_s h
  have n99 : ∀ i : Nat, i ≤ j' → dst (tkz b n) i ≠ 99 := fun i hi e => by
    have := h'
    rw [dst_99 e j' hi] at this
    cases this
  have nac : ∀ i : Nat, i = j' → dac (dst (tkz b n) i) = true := fun i e => by rw [e]; exact h'
  obtain ⟨_, _, l1, l2⟩ := h
  obtain ⟨w, hw⟩ : ∃ w : Nat, tkz b n j = 10 + w := ⟨(tkz b n j - 10).toNat, by omega⟩
  have hw7 : w < 7 := by omega
  have s1 : dst (tkz b n) (j + 1) = w + 1 := by rw [d1]; omega
  have c1 : ¬ j + 1 = j' := fun e => by
    have z := nac (j + 1) e
    rw [s1] at z
    exact (show ∀ w : Nat, w < 7 → dac (w + 1) = true → False by decide) w hw7 z
  have k1 : tkz b n (j + 1) = 2 := by
    have e : dst (tkz b n) (j + 2) ≠ 99 := n99 _ (by omega)
    have e2 : dst (tkz b n) (j + 2) = dt (w + 1) (tkz b n (j + 1)) := dst_s s1
    rw [e2] at e
    match w, hw7 with
    | 0, _ | 1, _ | 2, _ | 3, _ | 4, _ | 5, _ | 6, _ =>
      by_cases d : tkz b n (j + 1) = 2
      · exact d
      · exact absurd (if_neg d) e
  have g := pos_g hn hb (j := j) (by omega) k1
  rw [hw, show (10 + (w : Int) - 10).toNat = w by omega] at g
  have g2 := pos_m hn hb (j + 1) (j' - (j + 1))
  rw [show j + 1 + (j' - (j + 1)) = j' by omega] at g2
  have t := wl_t w hw7
  by_cases c5 : w = 5
  · have s2 : dst (tkz b n) (j + 2) = 26 := by rw [show j + 2 = (j + 1) + 1 by omega, dst_s s1, k1, c5]; rfl
    have c2 : ¬ j + 2 = j' := fun e => by
      have := nac (j + 2) e
      rw [s2] at this
      cases this
    omega
  · have := t.2 c5
    omega
theorem pos_n (hn : 0 ≤ n ∧ n ≤ 4000) (hb : ∀ k, n ≤ k → b k = 0) : ∀ i : Nat, dst (tkz b n) i ≠ 99 → pos b n i ≤ n
  | 0, _ => sk_le (b := b) (n := n) (4001 - 0 : Int).toNat 0 hn.1
  | i + 1, h => by
    have k0 : ¬ tkz b n i = 0 := fun z => h (dt_01 _ _ (Or.inl z))
    have lt : pos b n i < n := by
      by_cases c : n ≤ pos b n i
      · exact absurd (show tkK b n (pos b n i) = 0 by unfold tkK; rw [if_pos c]) k0
      · omega
    have h1 := tkE_le b n (pos b n i) lt hb
    exact sk_le (b := b) (n := n) (4001 - tkE b (pos b n i)).toNat (tkE b (pos b n i)) h1
/-- how many ITEMs fit -/
theorem dnI_c (hn : 0 ≤ n ∧ n ≤ 4000) (hb : ∀ k, n ≤ k → b k = 0) {i : Nat} (h : dac (dst (tkz b n) i) = true) : dnI (tkz b n) i ≤ 666 := by
  by_cases c : dnI (tkz b n) i = 0
  · omega
  · obtain ⟨j, h1, h2, h3⟩ := dnI_o (K := tkz b n) i (dnI (tkz b n) i - 1) (by omega)
    have a := dnI_6 hn.2 hb (j + 1) j (by omega) h2
    have d := pos_e hn.2 hb h2 h h1
    have e := pos_n hn hb i (dac_99 h)
    omega
end ITEMS2
