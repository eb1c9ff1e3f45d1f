/-! ===== name() on both sides ===== -/
theorem b_pm (m : Nat) (x y : BitVec 64) (hm : m < 64) (hy : y.toNat < 2 ^ m) : (x <<< m ||| y) = x * BitVec.ofNat 64 (2 ^ m) + y := by
  have : x <<< m = x * BitVec.ofNat 64 (2 ^ m) := by
    apply BitVec.eq_of_toNat_eq
    rw [BitVec.toNat_shiftLeft, BitVec.toNat_mul, Nat.shiftLeft_eq, BitVec.toNat_ofNat, Nat.mod_eq_of_lt (a := 2 ^ m) (Nat.pow_lt_pow_right (by decide) hm)]
  have d : x <<< m &&& y = 0#64 := by
    apply BitVec.eq_of_toNat_eq
    apply Nat.eq_of_testBit_eq
    intro i
    rw [BitVec.toNat_and, Nat.testBit_and, BitVec.testBit_toNat, BitVec.testBit_toNat, BitVec.getLsbD_shiftLeft]
    by_cases h : i < m
    · simp [h]
    · have : y.getLsbD i = false := by
        rw [← BitVec.testBit_toNat]
        exact Nat.testBit_lt_two_pow (Nat.lt_of_lt_of_le hy (Nat.pow_le_pow_right (by decide) (by omega)))
      rw [this]
      simp
  rw [← BitVec.add_eq_or_of_and_eq_zero _ _ d, this]
theorem sh8 : ∀ k : Fin 8, ((Int32.ofInt (8 * (k.val : Int))).toInt64 &&& 63) = Int64.ofInt (8 * (k.val : Int)) := by decide
theorem sm8 : ∀ k : Fin 8, BitVec.smod (Int64.ofInt (8 * (k.val : Int))).toBitVec 64#64 = BitVec.ofNat 64 (8 * k.val) := by decide
theorem l_shl (x : Int) (k : Fin 8) : (Int64.ofInt (lShl x (8 * (k.val : Int)))).toBitVec = BitVec.ofInt 64 x <<< (8 * k.val) := by
  unfold lShl
  rw [Int64.ofInt_toInt, sh8, Int64.toBitVec_shiftLeft, Int64.toBitVec_ofInt]
  show BitVec.ofInt 64 x <<< (BitVec.smod (Int64.ofInt (8 * (k.val : Int))).toBitVec 64#64) = _
  rw [sm8]
  have hk := k.isLt
  show BitVec.ofInt 64 x <<< (BitVec.ofNat 64 (8 * k.val)).toNat = _
  rw [BitVec.toNat_ofNat, Nat.mod_eq_of_lt (by omega)]
theorem i64_wz (v : BitVec 64) (z : Int) (h : v = BitVec.ofInt 64 z) : v.toInt = w64 z := by
  rw [h, BitVec.toInt_ofInt]
  unfold w64
  rw [Int.bmod_def]
  have h2 : ((2 ^ 64 : Nat) : Int) = 18446744073709551616 := by decide
  rw [h2]
  split <;> omega
theorem l_pm (x y : Int) (k : Fin 8) (hy : 0 ≤ y ∧ y < 2 ^ (8 * k.val)) : lOr (lShl x (8 * (k.val : Int))) y = w64 (x * 2 ^ (8 * k.val) + y) := by
  have hk := k.isLt
  show (Int64.ofInt (lShl x (8 * (k.val : Int))) ||| Int64.ofInt y).toBitVec.toInt = _
  apply i64_wz
  have hb : (2 : Int) ^ (8 * k.val) ≤ 2 ^ 56 := by
    have : (2 : Nat) ^ (8 * k.val) ≤ 2 ^ 56 := Nat.pow_le_pow_right (by decide) (by omega)
    exact_mod_cast this
  have hy2 : (BitVec.ofInt 64 y).toNat < 2 ^ (8 * k.val) := by
    rw [BitVec.toNat_ofInt]
    have e : y % ((2 ^ 64 : Nat) : Int) = y := Int.emod_eq_of_lt hy.1 (by
      have : ((2 ^ 64 : Nat) : Int) = 18446744073709551616 := by decide
      rw [this]
      have : (2 : Int) ^ 56 = 72057594037927936 := by decide
      omega)
    rw [e]
    have : ((2 ^ (8 * k.val) : Nat) : Int) = (2 : Int) ^ (8 * k.val) := by push_cast; rfl
    omega
  rw [Int64.toBitVec_or, l_shl, Int64.toBitVec_ofInt, b_pm _ _ _ (by omega) hy2]
  apply BitVec.eq_of_toInt_eq
  rw [BitVec.toInt_add, BitVec.toInt_mul, BitVec.toInt_ofInt, BitVec.toInt_ofInt, BitVec.toInt_ofInt]
  have e2 : (BitVec.ofNat 64 (2 ^ (8 * k.val))).toInt = (((2 ^ (8 * k.val) : Nat)) : Int).bmod (2 ^ 64) := by rw [← BitVec.ofInt_natCast, BitVec.toInt_ofInt]
  rw [e2]
  simp only [Int.bmod_add_bmod, Int.add_bmod_bmod, Int.bmod_mul_bmod, Int.mul_bmod_bmod]
  push_cast
  rfl
theorem l_sw (x : Int) (k : Fin 8) : lShl x (8 * (k.val : Int)) = w64 (x * 2 ^ (8 * k.val)) := by
  have e : lOr (lShl x (8 * (k.val : Int))) 0 = lShl x (8 * (k.val : Int)) := by
    unfold lOr
    rw [show Int64.ofInt 0 = 0 from rfl]
    unfold lShl
    rw [Int64.ofInt_toInt, Int64.or_zero]
  rw [← e, l_pm x 0 k ⟨by omega, by
    have : (0 : Int) < 2 ^ (8 * k.val) := Int.pow_pos (by decide)
    omega⟩, Int.add_zero]
theorem su8 : ∀ k : Fin 8, ((Int32.ofInt (64 - 8 * (k.val : Int))).toInt64.toUInt64 &&& Int64.toUInt64 63).toBitVec = BitVec.ofNat 64 ((64 - 8 * k.val) % 64) := by decide
theorem l_us (L : Int) (k : Fin 8) (hk0 : 0 < k.val) (hL : 0 ≤ L ∧ L < 18446744073709551616) : lUshr (w64 L) (64 - 8 * (k.val : Int)) = L / 2 ^ (64 - 8 * k.val) := by
  have hk := k.isLt
  unfold lUshr
  show ((Int64.ofInt (w64 L)).toUInt64 >>> ((Int32.ofInt (64 - 8 * (k.val : Int))).toInt64.toUInt64 &&& Int64.toUInt64 63)).toBitVec.toInt = _
  rw [UInt64.toBitVec_shiftRight, su8]
  have e1 : (Int64.ofInt (w64 L)).toUInt64.toBitVec = BitVec.ofInt 64 L := by
    show (Int64.ofInt (w64 L)).toBitVec = _
    rw [Int64.toBitVec_ofInt]
    apply BitVec.eq_of_toInt_eq
    rw [BitVec.toInt_ofInt, BitVec.toInt_ofInt]
    unfold w64
    rw [Int.bmod_def, Int.bmod_def]
    have h2 : ((2 ^ 64 : Nat) : Int) = 18446744073709551616 := by decide
    rw [h2]
    split <;> split <;> omega
  rw [e1]
  have e2 : (BitVec.ofNat 64 ((64 - 8 * k.val) % 64) % 64#64) = BitVec.ofNat 64 (64 - 8 * k.val) := by
    apply BitVec.eq_of_toNat_eq
    rw [BitVec.toNat_umod, BitVec.toNat_ofNat, BitVec.toNat_ofNat]
    rw [BitVec.toNat_ofNat]
    have h2 : (2 : Nat) ^ 64 = 18446744073709551616 := by decide
    have h3 : (64 : Nat) % 18446744073709551616 = 64 := rfl
    rw [h2, h3]
    omega
  show (BitVec.ofInt 64 L >>> (BitVec.ofNat 64 ((64 - 8 * k.val) % 64) % 64#64)).toInt = _
  rw [e2]
  show (BitVec.ofInt 64 L >>> (BitVec.ofNat 64 (64 - 8 * k.val)).toNat).toInt = _
  rw [BitVec.toNat_ofNat, Nat.mod_eq_of_lt (by omega : 64 - 8 * k.val < 2 ^ 64)]
  have e3 : (BitVec.ofInt 64 L >>> (64 - 8 * k.val)).toNat = L.toNat / 2 ^ (64 - 8 * k.val) := by
    rw [BitVec.toNat_ushiftRight, BitVec.toNat_ofInt, Nat.shiftRight_eq_div_pow]
    have h2 : ((2 ^ 64 : Nat) : Int) = 18446744073709551616 := by decide
    rw [h2, Int.emod_eq_of_lt hL.1 hL.2]
  have lt : L.toNat / 2 ^ (64 - 8 * k.val) < 2 ^ 56 := by
    apply Nat.div_lt_of_lt_mul
    rw [← Nat.pow_add]
    have : 2 ^ 64 ≤ 2 ^ (64 - 8 * k.val + 56) := Nat.pow_le_pow_right (by decide) (by omega)
    have h2 : (2 : Nat) ^ 64 = 18446744073709551616 := by decide
    omega
  rw [BitVec.toInt_eq_toNat_of_lt (by rw [e3]; have : (2 : Nat) * 2 ^ 56 < 2 ^ 64 := by decide
                                      omega), e3]
  have e4 : L = ((L.toNat : Nat) : Int) := by omega
  conv => rhs; rw [e4]
  push_cast
  rfl

/-- bytes from k on, out of the first eight and the second eight -/
theorem pk8_k (f : Nat → Int) (h : ∀ i, 0 ≤ f i ∧ f i < 256) (z : ∀ i, 12 ≤ i → f i = 0) (k : Nat) : pk8 (fun i => f (k + i)) 8 = if (k : Int) = 0 then pk8 f 8 else if (k : Int) < 8 then lOr (lShl (pk8 f 8) (8 * (k : Int))) (lUshr (pk8 (fun i => f (8 + i)) 8) (64 - 8 * (k : Int))) else if (k : Int) < 12 then lShl (pk8 (fun i => f (8 + i)) 8) (8 * ((k : Int) - 8)) else 0 := by
  have b0 := h 0; have b1 := h 1; have b2 := h 2; have b3 := h 3; have b4 := h 4; have b5 := h 5; have b6 := h 6; have b7 := h 7
  have b8 := h 8; have b9 := h 9; have b10 := h 10; have b11 := h 11; have b12 := h 12; have b13 := h 13; have b14 := h 14; have b15 := h 15
  by_cases k0 : (k : Int) = 0
  · rw [if_pos k0]
    have : k = 0 := by omega
    subst this
    exact congrArg (fun g => pk8 g 8) (funext fun i => by rw [Nat.zero_add])
  rw [if_neg k0]
  rw [pk8_v _ (fun i => h (k + i))]
  by_cases k8 : (k : Int) < 8
  · rw [if_pos k8, pk8_v f h, pk8_v _ (fun i => h (8 + i))]
    have hL : 0 ≤ pv8 (fun i => f (8 + i)) 8 ∧ pv8 (fun i => f (8 + i)) 8 < 18446744073709551616 := by
      simp only [pv8, Nat.reduceAdd]
      omega
    have u := l_us (pv8 (fun i => f (8 + i)) 8) ⟨k, by omega⟩ (by show 0 < k; omega) hL
    have u : lUshr (w64 (pv8 (fun i => f (8 + i)) 8)) (64 - 8 * (k : Int)) = pv8 (fun i => f (8 + i)) 8 / 2 ^ (64 - 8 * k) := u
    rw [u]
    have c : k = 1 ∨ k = 2 ∨ k = 3 ∨ k = 4 ∨ k = 5 ∨ k = 6 ∨ k = 7 := by omega
    rcases c with rfl | rfl | rfl | rfl | rfl | rfl | rfl
    · refine Eq.trans ?_ (l_pm _ _ ⟨1, by decide⟩ ?_).symm <;> (simp only [pv8, Nat.reduceAdd, Nat.reduceMul, Nat.reduceSub, Int.reducePow]; (try unfold w64); omega)
    · refine Eq.trans ?_ (l_pm _ _ ⟨2, by decide⟩ ?_).symm <;> (simp only [pv8, Nat.reduceAdd, Nat.reduceMul, Nat.reduceSub, Int.reducePow]; (try unfold w64); omega)
    · refine Eq.trans ?_ (l_pm _ _ ⟨3, by decide⟩ ?_).symm <;> (simp only [pv8, Nat.reduceAdd, Nat.reduceMul, Nat.reduceSub, Int.reducePow]; (try unfold w64); omega)
    · refine Eq.trans ?_ (l_pm _ _ ⟨4, by decide⟩ ?_).symm <;> (simp only [pv8, Nat.reduceAdd, Nat.reduceMul, Nat.reduceSub, Int.reducePow]; (try unfold w64); omega)
    · refine Eq.trans ?_ (l_pm _ _ ⟨5, by decide⟩ ?_).symm <;> (simp only [pv8, Nat.reduceAdd, Nat.reduceMul, Nat.reduceSub, Int.reducePow]; (try unfold w64); omega)
    · refine Eq.trans ?_ (l_pm _ _ ⟨6, by decide⟩ ?_).symm <;> (simp only [pv8, Nat.reduceAdd, Nat.reduceMul, Nat.reduceSub, Int.reducePow]; (try unfold w64); omega)
    · refine Eq.trans ?_ (l_pm _ _ ⟨7, by decide⟩ ?_).symm <;> (simp only [pv8, Nat.reduceAdd, Nat.reduceMul, Nat.reduceSub, Int.reducePow]; (try unfold w64); omega)
  rw [if_neg k8]
  have z12 := z 12 (by omega); have z13 := z 13 (by omega); have z14 := z 14 (by omega); have z15 := z 15 (by omega); have z16 := z 16 (by omega); have z17 := z 17 (by omega); have z18 := z 18 (by omega)
  by_cases k12 : (k : Int) < 12
  · rw [if_pos k12, pk8_v _ (fun i => h (8 + i))]
    have c : k = 8 ∨ k = 9 ∨ k = 10 ∨ k = 11 := by omega
    rcases c with rfl | rfl | rfl | rfl
    · refine Eq.trans ?_ (l_sw _ ⟨0, by decide⟩).symm; simp only [pv8, Nat.reduceAdd, Nat.reduceMul, Int.reducePow]; unfold w64; omega
    · refine Eq.trans ?_ (l_sw _ ⟨1, by decide⟩).symm; simp only [pv8, Nat.reduceAdd, Nat.reduceMul, Int.reducePow]; unfold w64; omega
    · refine Eq.trans ?_ (l_sw _ ⟨2, by decide⟩).symm; simp only [pv8, Nat.reduceAdd, Nat.reduceMul, Int.reducePow]; unfold w64; omega
    · refine Eq.trans ?_ (l_sw _ ⟨3, by decide⟩).symm; simp only [pv8, Nat.reduceAdd, Nat.reduceMul, Int.reducePow]; unfold w64; omega
  · rw [if_neg k12]
    have e : ∀ j : Nat, pv8 (fun i => f (k + i)) j = 0 := by
      intro j
      induction j with
      | zero => rfl
      | succ j ih =>
        show 256 * pv8 (fun i => f (k + i)) j + f (k + j) = 0
        rw [ih, z (k + j) (by omega)]
        rfl
    rw [e]
    rfl
theorem npk_8 (B : AMem) (s i : Int) (k : Nat) : ∀ w : Nat, npk B s i k w = pk8 (fun j => nby B s i (k + j)) w
  | 0 => rfl
  | w + 1 => by
    show lOr (lShl (npk B s i k w) 8) (nby B s i (k + w)) = lOr (lShl (pk8 _ w) 8) (nby B s i (k + w))
    rw [npk_8 B s i k w]
theorem nby_b (B : AMem) (s i : Int) (j : Nat) : 0 ≤ nby B s i j ∧ nby B s i j < 256 := by
  unfold nby
  split
  · rw [and255]; omega
  · omega
theorem nmv_8 (T : AMem) (s i k : Int) (k0 : 0 ≤ k) : ∀ w : Nat, nmv T s i k w = pk8 (fun j => nby T s i (k.toNat + j)) w
  | 0 => rfl
  | w + 1 => by
    show lOr (lShl (nmv T s i k w) 8) (nmc T s i k w) = lOr (lShl (pk8 _ w) 8) (nby T s i (k.toNat + w))
    rw [nmv_8 T s i k k0 w]
    unfold nmc nby
    rw [show ((k.toNat + w : Nat) : Int) = k + w by omega]
theorem x_name {n : Int} {M : AMem} (h : INV n M M) (hn : n + 4000000 < 2146000000) (s i k : Int) (hk : k < 2147483648) : (((0 ≤ s ∧ s < 7 ∧ 0 ≤ i ∧ i < (M 14370 0 (s))) ∧ 0 ≤ k) ∧ ∃ v : Int, Runs 280 [aR 1 0, aI s, aI i, aI k] M (fun r M' => r = some (aL v) ∧ M' = M) ∧ Runs 41 [aR 11 0, aI s, aI i, aI k] M (fun r M' => r = some (aL v) ∧ M' = th M)) ∨ (¬ ((0 ≤ s ∧ s < 7 ∧ 0 ≤ i ∧ i < (M 14370 0 (s))) ∧ 0 ≤ k) ∧ ∃ v : Int, Runs 41 [aR 11 0, aI s, aI i, aI k] M (fun r M' => r = some (aL v) ∧ M' = (mup (th M) 11 0 0 (1)))) := by
  have rl := h.1
  have pl := rl.pl
  have mb := rl.mB
  have nr := h.2.2.2.2
  have em : ∀ x : Int, ((th M) 14408 0 (x)) = (M 14408 0 (x)) := fun x => by unfold th; rw [mu_ng (by decide)]
  have tl : 0 ≤ s → s < 7 → (M 14370 0 (s)) = (if s = 2 then (if 1 < (M 14408 0 (s)) then (M 14408 0 (s)) else 1) else (M 14408 0 (s))) ∧ (M 14370 0 (s)) ≤ 48 := fun a b => by
    unfold MB at mb
    have e2 : mrs M = if 1 < (M 14408 0 (2)) then (M 14408 0 (2)) else 1 := rfl
    have t0 := pl.t0; have t1 := pl.t1; have t2 := pl.t2; have t3 := pl.t3; have t4 := pl.t4; have t5 := pl.t5; have t6 := pl.t6
    obtain z | z | z | z | z | z | z : s = 0 ∨ s = 1 ∨ s = 2 ∨ s = 3 ∨ s = 4 ∨ s = 5 ∨ s = 6 := by omega
    all_goals subst z
    · rw [if_neg (by decide), t0]; exact ⟨rfl, by omega⟩
    · rw [if_neg (by decide), t1]; exact ⟨rfl, by omega⟩
    · rw [if_pos rfl, t2, e2]
      refine ⟨rfl, ?_⟩
      split <;> omega
    · rw [if_neg (by decide), t3]; exact ⟨rfl, by omega⟩
    · rw [if_neg (by decide), t4]; exact ⟨rfl, by omega⟩
    · rw [if_neg (by decide), t5]; exact ⟨rfl, by omega⟩
    · rw [if_neg (by decide), t6]; exact ⟨rfl, by omega⟩
  have ck : nmk (th M) s i k ↔ ((0 ≤ s ∧ s < 7 ∧ 0 ≤ i ∧ i < (M 14370 0 (s))) ∧ 0 ≤ k) := by
    unfold nmk
    rw [em]
    constructor
    · rintro ⟨⟨a, b, c, d⟩, e⟩
      exact ⟨⟨a, by omega, c, by rw [(tl a (by omega)).1]; exact d⟩, e⟩
    · rintro ⟨⟨a, b, c, d⟩, e⟩
      exact ⟨⟨a, by omega, c, by rw [← (tl a b).1]; exact d⟩, e⟩
  have tg : ((0 ≤ s ∧ s < 7 ∧ 0 ≤ i ∧ i < (M 14370 0 (s))) ∧ 0 ≤ k) → thg M s i := fun z => by
    refine ⟨by omega, z.1.2.2.1, ?_⟩
    have e := (tl z.1.1 z.1.2.1).1
    have d := z.1.2.2.2
    rw [e] at d
    by_cases c : s = 2
    · rw [if_pos c] at d ⊢
      rw [c] at d
      exact d
    · rw [if_neg c] at d ⊢
      exact d
  have sz : ∀ x : Int, ((th M) 917578 0 (x)) = (M 917578 0 (x)) := fun x => by unfold th; rw [mu_ng (by decide)]
  have at' : ∀ x : Int, ((th M) 917577 0 (x)) = (M 917577 0 (x)) := fun x => by unfold th; rw [mu_ng (by decide)]
  have pt : ∀ x : Int, ((th M) 8193095 0 (x)) = (M 8193095 0 (x)) := fun x => by unfold th; rw [mu_ng (by decide)]
  have nb : ∀ j : Nat, nby (th M) s i j = nby M s i j := fun j => by unfold nby; rw [sz, at', pt]
  have r := R_name s i k M (th M) rfl hk (fun z => by
    have c := ck.mp z
    have q := (nr s i (tg c)).1
    have t := (tl c.1.1 c.1.2.1).2
    rw [sz, at']
    omega)
  by_cases c : (0 ≤ s ∧ s < 7 ∧ 0 ≤ i ∧ i < (M 14370 0 (s))) ∧ 0 ≤ k
  · left
    have c2 := ck.mpr c
    have q := nr s i (tg c)
    have t := (tl c.1.1 c.1.2.1).2
    have kk := R_K_name s i k M (rl.cB (by omega)) (rl.kA h.2.1) c.1 (by omega) c.2
    unfold thx at r
    rw [if_pos c2, if_pos c2, nmv_8 _ _ _ _ c.2] at r
    refine ⟨c, _, kk, ?_⟩
    have e : kna M s i k = pk8 (fun j => nby (th M) s i (k.toNat + j)) 8 := by
      have e1 : (fun j => nby (th M) s i (k.toNat + j)) = (fun j => nby M s i (k.toNat + j)) := funext fun j => nb _
      rw [e1, pk8_k (nby M s i) (nby_b M s i) (fun j hj => by unfold nby; rw [if_neg (by omega)]) k.toNat]
      unfold kna
      rw [q.2.1, q.2.2, npk_8, npk_8, show ((k.toNat : Nat) : Int) = k by omega]
      have e2 : (fun j => nby M s i (0 + j)) = nby M s i := funext fun j => by rw [Nat.zero_add]
      rw [e2]
    rw [e]
    exact r
  · right
    have c2 : ¬ nmk (th M) s i k := fun z => c (ck.mp z)
    unfold thx at r
    rw [if_neg c2, if_neg c2] at r
    exact ⟨c, _, r⟩
