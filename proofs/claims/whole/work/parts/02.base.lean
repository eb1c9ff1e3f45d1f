/-! ===== numbers: Int for int and long; abstract values; memory ===== -/
abbrev AV : Type := Int ⊕ (Int ⊕ (Nat × Int))
abbrev aI (x : Int) : AV := .inl x
abbrev aL (x : Int) : AV := .inr (.inl x)
abbrev aR (g : Nat) (t : Int) : AV := .inr (.inr (g, t))
abbrev AMem : Type := Nat → Int → Int → Int
def mup (M : AMem) (g : Nat) (t i v : Int) : AMem := fun g' t' i' => if g' = g ∧ t' = t ∧ i' = i then v else M g' t' i'
def w32 (x : Int) : Int := (x + 2147483648) % 4294967296 - 2147483648
def w64 (x : Int) : Int := (x + 9223372036854775808) % 18446744073709551616 - 9223372036854775808
def w8 (x : Int) : Int := (x + 128) % 256 - 128
def w16u (x : Int) : Int := x % 65536
def in32 (x : Int) : Prop := -2147483648 ≤ x ∧ x < 2147483648
def in64 (x : Int) : Prop := -9223372036854775808 ≤ x ∧ x < 9223372036854775808
theorem w32_in (x : Int) : in32 (w32 x) := by unfold in32 w32; omega
theorem w64_in (x : Int) : in64 (w64 x) := by unfold in64 w64; omega
theorem w8_in (x : Int) : in32 (w8 x) := by unfold in32 w8; omega
theorem w16u_in (x : Int) : in32 (w16u x) := by unfold in32 w16u; omega
theorem w32_id {x : Int} (h : in32 x) : w32 x = x := by unfold in32 at h; unfold w32; omega
theorem w64_id {x : Int} (h : in64 x) : w64 x = x := by unfold in64 at h; unfold w64; omega
theorem i32_toInt {x : Int} (h : in32 x) : (Int32.ofInt x).toInt = x := Int32.toInt_ofInt_of_le (by simpa using h.1) (by simpa using h.2)
theorem i64_toInt {x : Int} (h : in64 x) : (Int64.ofInt x).toInt = x := Int64.toInt_ofInt_of_le (by simpa using h.1) (by simpa using h.2)
theorem i32_in (v : Int32) : in32 v.toInt := ⟨by have := v.le_toInt; simpa using this, by have := v.toInt_lt; simpa using this⟩
theorem i64_in (v : Int64) : in64 v.toInt := ⟨by have := v.le_toInt; simpa using this, by have := v.toInt_lt; simpa using this⟩
theorem i32_of (v : Int32) : Int32.ofInt v.toInt = v := Int32.ofInt_toInt v
theorem i64_of (v : Int64) : Int64.ofInt v.toInt = v := Int64.ofInt_toInt v
theorem w32_bmod (x : Int) : w32 x = x.bmod (2 ^ 32) := by
  unfold w32; rw [Int.bmod_def, show (2 ^ 32 : Nat) = 4294967296 from rfl]; split <;> omega
theorem w64_bmod (x : Int) : w64 x = x.bmod (2 ^ 64) := by
  unfold w64; rw [Int.bmod_def, show (2 ^ 64 : Nat) = 18446744073709551616 from rfl]; split <;> omega
theorem i32_w (x : Int) : Int32.ofInt (w32 x) = Int32.ofInt x := by
  apply Int32.toInt_inj.mp
  rw [i32_toInt (w32_in x), Int32.toInt_ofInt, w32_bmod]
theorem i64_w (x : Int) : Int64.ofInt (w64 x) = Int64.ofInt x := by
  apply Int64.toInt_inj.mp
  rw [i64_toInt (w64_in x), Int64.toInt_ofInt, w64_bmod]
theorem i32_add (x y : Int) : Int32.ofInt x + Int32.ofInt y = Int32.ofInt (w32 (x + y)) := by rw [i32_w, Int32.ofInt_add]
theorem i32_sub (x y : Int) : Int32.ofInt x - Int32.ofInt y = Int32.ofInt (w32 (x - y)) := by rw [i32_w, Int32.ofInt_sub]
theorem i32_mul (x y : Int) : Int32.ofInt x * Int32.ofInt y = Int32.ofInt (w32 (x * y)) := by rw [i32_w, Int32.ofInt_mul]
theorem i32_neg (x : Int) : - Int32.ofInt x = Int32.ofInt (w32 (-x)) := by rw [i32_w, Int32.ofInt_neg]
theorem i64_add (x y : Int) : Int64.ofInt x + Int64.ofInt y = Int64.ofInt (w64 (x + y)) := by rw [i64_w, Int64.ofInt_add]
theorem i64_neg (x : Int) : - Int64.ofInt x = Int64.ofInt (w64 (-x)) := by rw [i64_w, Int64.ofInt_neg]
theorem i32_lt {x y : Int} (hx : in32 x) (hy : in32 y) : Int32.ofInt x < Int32.ofInt y ↔ x < y := by rw [Int32.lt_iff_toInt_lt, i32_toInt hx, i32_toInt hy]
theorem i32_le {x y : Int} (hx : in32 x) (hy : in32 y) : Int32.ofInt x ≤ Int32.ofInt y ↔ x ≤ y := by rw [Int32.le_iff_toInt_le, i32_toInt hx, i32_toInt hy]
theorem i32_eq {x y : Int} (hx : in32 x) (hy : in32 y) : Int32.ofInt x = Int32.ofInt y ↔ x = y := by rw [← Int32.toInt_inj, i32_toInt hx, i32_toInt hy]
theorem i64_lt {x y : Int} (hx : in64 x) (hy : in64 y) : Int64.ofInt x < Int64.ofInt y ↔ x < y := by rw [Int64.lt_iff_toInt_lt, i64_toInt hx, i64_toInt hy]
theorem i64_eq {x y : Int} (hx : in64 x) (hy : in64 y) : Int64.ofInt x = Int64.ofInt y ↔ x = y := by rw [← Int64.toInt_inj, i64_toInt hx, i64_toInt hy]
theorem i32_clamp {x : Int} (hx : in32 x) (h0 : 0 ≤ x) : (Int32.ofInt x).toNatClampNeg = x.toNat := by
  show (Int32.ofInt x).toInt.toNat = _
  rw [i32_toInt hx]
theorem in32_0 : in32 0 := by unfold in32; omega
def iAnd (x y : Int) : Int := (Int32.ofInt x &&& Int32.ofInt y).toInt
def iOr (x y : Int) : Int := (Int32.ofInt x ||| Int32.ofInt y).toInt
def iXor (x y : Int) : Int := (Int32.ofInt x ^^^ Int32.ofInt y).toInt
def iShl (x y : Int) : Int := (Int32.ofInt x <<< (Int32.ofInt y &&& 31)).toInt
def iShr (x y : Int) : Int := (Int32.ofInt x >>> (Int32.ofInt y &&& 31)).toInt
def iUshr (x y : Int) : Int := ((Int32.ofInt x).toUInt32 >>> ((Int32.ofInt y).toUInt32 &&& Int32.toUInt32 31)).toInt32.toInt
def lAnd (x y : Int) : Int := (Int64.ofInt x &&& Int64.ofInt y).toInt
def lOr (x y : Int) : Int := (Int64.ofInt x ||| Int64.ofInt y).toInt
def lShl (x y : Int) : Int := (Int64.ofInt x <<< ((Int32.ofInt y).toInt64 &&& 63)).toInt
def lUshr (x y : Int) : Int := ((Int64.ofInt x).toUInt64 >>> ((Int32.ofInt y).toInt64.toUInt64 &&& Int64.toUInt64 63)).toInt64.toInt
def lCmp (x y : Int) : Int := if x < y then -1 else if x = y then 0 else 1
