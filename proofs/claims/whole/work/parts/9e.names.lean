/-! ===== eight bytes in a long; names are the same ===== -/
theorem b_pk (x : BitVec 64) (y : BitVec 64) (hy : y.toNat < 256) : (x <<< 8 ||| y) = x * 256#64 + y := by
  have : x <<< 8 = x * 256#64 := by
    apply BitVec.eq_of_toNat_eq
    rw [BitVec.toNat_shiftLeft, BitVec.toNat_mul, Nat.shiftLeft_eq]
    rfl
  have d : x <<< 8 &&& y = 0#64 := by
    apply BitVec.eq_of_toNat_eq
    apply Nat.eq_of_testBit_eq
    intro i
    rw [BitVec.toNat_and, Nat.testBit_and, BitVec.testBit_toNat, BitVec.testBit_toNat, BitVec.getLsbD_shiftLeft]
    by_cases h : i < 8
    · simp [h]
    · have : y.getLsbD i = false := by
        rw [← BitVec.testBit_toNat]
        exact Nat.testBit_lt_two_pow (Nat.lt_of_lt_of_le hy (by have : 2 ^ 8 ≤ 2 ^ i := Nat.pow_le_pow_right (by decide) (by omega); omega))
      rw [this]
      simp
  rw [← BitVec.add_eq_or_of_and_eq_zero _ _ d, this]
theorem l_pk (x y : Int) (hy : 0 ≤ y ∧ y < 256) : lOr (lShl x 8) y = w64 (256 * x + y) := by
  unfold lOr lShl
  rw [Int64.ofInt_toInt]
  have e8 : ((Int32.ofInt 8).toInt64 &&& 63) = 8 := by decide
  rw [e8]
  show (Int64.ofInt x <<< 8 ||| Int64.ofInt y).toBitVec.toInt = _
  have e : (Int64.ofInt x <<< 8 ||| Int64.ofInt y).toBitVec = BitVec.ofInt 64 (256 * x + y) := by
    rw [Int64.toBitVec_or, Int64.toBitVec_shiftLeft, Int64.toBitVec_ofInt, Int64.toBitVec_ofInt]
    have hy2 : (BitVec.ofInt 64 y).toNat < 256 := by
      rw [BitVec.toNat_ofInt]
      omega
    have s8 : BitVec.ofInt 64 x <<< (BitVec.smod (8 : Int64).toBitVec 64#64) = BitVec.ofInt 64 x <<< (8 : Nat) := by
      have : BitVec.smod (8 : Int64).toBitVec 64#64 = 8#64 := by decide
      rw [this]
      rfl
    first
      | rw [show (BitVec.ofInt 64 x <<< (BitVec.smod (8 : Int64).toBitVec 64)) = BitVec.ofInt 64 x <<< (8 : Nat) from s8]
      | skip
    rw [b_pk _ _ hy2]
    apply BitVec.eq_of_toInt_eq
    rw [BitVec.toInt_add, BitVec.toInt_mul, BitVec.toInt_ofInt, BitVec.toInt_ofInt, BitVec.toInt_ofInt]
    rw [show (256#64).toInt = 256 by decide]
    simp only [Int.mul_comm 256 x, Int.bmod_add_bmod, Int.add_bmod_bmod, Int.bmod_mul_bmod]
    try rfl
  rw [e, BitVec.toInt_ofInt]
  unfold w64
  rw [Int.bmod_def]
  have h2 : ((2 ^ 64 : Nat) : Int) = 18446744073709551616 := by decide
  rw [h2]
  split <;> omega
/-- eight bytes one behind the other -/
def pk8 (f : Nat → Int) : Nat → Int
  | 0 => 0
  | j + 1 => lOr (lShl (pk8 f j) 8) (f j)
def pv8 (f : Nat → Int) : Nat → Int
  | 0 => 0
  | j + 1 => 256 * pv8 f j + f j
theorem pk8_v (f : Nat → Int) (h : ∀ i, 0 ≤ f i ∧ f i < 256) : ∀ j, pk8 f j = w64 (pv8 f j)
  | 0 => (by decide : (0 : Int) = w64 0)
  | j + 1 => by
    show lOr (lShl (pk8 f j) 8) (f j) = w64 (256 * pv8 f j + f j)
    rw [pk8_v f h j, l_pk _ _ (h j)]
    unfold w64
    omega
theorem pk8_inj (f g : Nat → Int) (hf : ∀ i, 0 ≤ f i ∧ f i < 256) (hg : ∀ i, 0 ≤ g i ∧ g i < 256) (h : pk8 f 8 = pk8 g 8) : ∀ i, i < 8 → f i = g i := by
  rw [pk8_v f hf, pk8_v g hg] at h
  simp only [pv8] at h
  have a0 := hf 0; have a1 := hf 1; have a2 := hf 2; have a3 := hf 3; have a4 := hf 4; have a5 := hf 5; have a6 := hf 6; have a7 := hf 7
  have b0 := hg 0; have b1 := hg 1; have b2 := hg 2; have b3 := hg 3; have b4 := hg 4; have b5 := hg 5; have b6 := hg 6; have b7 := hg 7
  unfold w64 at h
  intro i hi
  have : i = 0 ∨ i = 1 ∨ i = 2 ∨ i = 3 ∨ i = 4 ∨ i = 5 ∨ i = 6 ∨ i = 7 := by omega
  rcases this with rfl | rfl | rfl | rfl | rfl | rfl | rfl | rfl <;> omega
theorem pk8_c {f g : Nat → Int} : ∀ {j : Nat}, (∀ i, i < j → f i = g i) → pk8 f j = pk8 g j
  | 0, _ => rfl
  | j + 1, h => by
    show lOr (lShl (pk8 f j) 8) (f j) = lOr (lShl (pk8 g j) 8) (g j)
    rw [pk8_c (fun i hi => h i (by omega)), h j (by omega)]
theorem pkd_8 (b : Int → Int) (p e : Int) : ∀ j : Nat, pkd b p e j = pk8 (fun i => if p + (i : Int) < e then b (p + i) else 0) j
  | 0 => rfl
  | j + 1 => by
    show lOr (lShl (pkd b p e j) 8) _ = lOr (lShl (pk8 _ j) 8) _
    rw [pkd_8 b p e j]
/-- two names: packed the same, or byte by byte the same -/
theorem nm_eq (b : Int → Int) (hb : ∀ k, 0 ≤ b k ∧ b k < 256) (p e q d : Int) (hp : p ≤ e ∧ e - p ≤ 12) (hq : q ≤ d ∧ d - q ≤ 12) (np : ∀ k, p ≤ k → k < e → 0 < b k) (nq : ∀ k, q ≤ k → k < d → 0 < b k) : (pkd b p e 8 = pkd b q d 8 ∧ pkd b (p + 8) e 8 = pkd b (q + 8) d 8) ↔ (e - p = d - q ∧ ∀ k : Int, 0 ≤ k → k < e - p → b (p + k) = b (q + k)) := by
  have hf : ∀ p e : Int, ∀ i : Nat, 0 ≤ (if p + (i : Int) < e then b (p + i) else 0) ∧ (if p + (i : Int) < e then b (p + i) else 0) < 256 := fun p e i => by
    have := hb (p + i)
    split <;> omega
  rw [pkd_8, pkd_8, pkd_8, pkd_8]
  constructor
  · rintro ⟨h1, h2⟩
    have g1 := pk8_inj _ _ (hf p e) (hf q d) h1
    have g2 := pk8_inj _ _ (hf (p + 8) e) (hf (q + 8) d) h2
    have g : ∀ k : Int, 0 ≤ k → k < 16 → (if p + k < e then b (p + k) else 0) = if q + k < d then b (q + k) else 0 := by
      intro k k0 k1
      by_cases c : k < 8
      · have := g1 k.toNat (by omega)
        rw [show ((k.toNat : Nat) : Int) = k by omega] at this
        exact this
      · have := g2 (k - 8).toNat (by omega)
        rw [show (((k - 8).toNat : Nat) : Int) = k - 8 by omega, show p + 8 + (k - 8) = p + k by omega, show q + 8 + (k - 8) = q + k by omega] at this
        exact this
    have es : e - p = d - q := by
      by_cases c : e - p < d - q
      · have := g (e - p) (by omega) (by omega)
        rw [if_neg (by omega), if_pos (by omega)] at this
        have := nq (q + (e - p)) (by omega) (by omega)
        omega
      · by_cases c' : d - q < e - p
        · have := g (d - q) (by omega) (by omega)
          rw [if_pos (by omega), if_neg (by omega)] at this
          have := np (p + (d - q)) (by omega) (by omega)
          omega
        · omega
    refine ⟨es, fun k k0 k1 => ?_⟩
    have := g k k0 (by omega)
    rw [if_pos (by omega), if_pos (by omega)] at this
    exact this
  · rintro ⟨h1, h2⟩
    constructor
    · refine pk8_c (fun i hi => ?_)
      show (if p + (i : Int) < e then b (p + i) else 0) = if q + (i : Int) < d then b (q + i) else 0
      by_cases c : p + (i : Int) < e
      · rw [if_pos c, if_pos (by omega)]; exact h2 i (by omega) (by omega)
      · rw [if_neg c, if_neg (by omega)]
    · refine pk8_c (fun i hi => ?_)
      show (if p + 8 + (i : Int) < e then b (p + 8 + i) else 0) = if q + 8 + (i : Int) < d then b (q + 8 + i) else 0
      by_cases c : p + 8 + (i : Int) < e
      · rw [if_pos c, if_pos (by omega), show p + 8 + (i : Int) = p + (8 + i) by omega, show q + 8 + (i : Int) = q + (8 + i) by omega]; exact h2 (8 + i) (by omega) (by omega)
      · rw [if_neg c, if_neg (by omega)]
