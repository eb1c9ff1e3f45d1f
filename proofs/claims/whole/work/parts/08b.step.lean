/-! ===== soundness, instruction by instruction ===== -/
theorem s1i_inv {stk : List AV} {f : Int → List AV → Prop} (h : s1i stk f) : ∃ x st, stk = aI x :: st ∧ f x st := by
  unfold s1i at h; split at h
  · exact ⟨_, _, rfl, h⟩
  · exact h.elim
theorem s2i_inv {stk : List AV} {f : Int → Int → List AV → Prop} (h : s2i stk f) : ∃ y x st, stk = aI y :: aI x :: st ∧ f y x st := by
  unfold s2i at h; split at h
  · exact ⟨_, _, _, rfl, h⟩
  · exact h.elim
theorem s1l_inv {stk : List AV} {f : Int → List AV → Prop} (h : s1l stk f) : ∃ x st, stk = aL x :: st ∧ f x st := by
  unfold s1l at h; split at h
  · exact ⟨_, _, rfl, h⟩
  · exact h.elim
theorem s2l_inv {stk : List AV} {f : Int → Int → List AV → Prop} (h : s2l stk f) : ∃ y x st, stk = aL y :: aL x :: st ∧ f y x st := by
  unfold s2l at h; split at h
  · exact ⟨_, _, _, rfl, h⟩
  · exact h.elim
theorem s2il_inv {stk : List AV} {f : Int → Int → List AV → Prop} (h : s2il stk f) : ∃ y x st, stk = aI y :: aL x :: st ∧ f y x st := by
  unfold s2il at h; split at h
  · exact ⟨_, _, _, rfl, h⟩
  · exact h.elim
theorem s1r_inv {stk : List AV} {f : Nat → Int → List AV → Prop} (h : s1r stk f) : ∃ g t st, stk = aR g t :: st ∧ f g t st := by
  unfold s1r at h; split at h
  · exact ⟨_, _, _, rfl, h⟩
  · exact h.elim
theorem s2r_inv {stk : List AV} {f : Nat → Int → Nat → Int → List AV → Prop} (h : s2r stk f) : ∃ g t g' t' st, stk = aR g t :: aR g' t' :: st ∧ f g t g' t' st := by
  unfold s2r at h; split at h
  · exact ⟨_, _, _, _, _, rfl, h⟩
  · exact h.elim
theorem s2ia_inv {stk : List AV} {f : Int → Nat → Int → List AV → Prop} (h : s2ia stk f) : ∃ i g t st, stk = aI i :: aR g t :: st ∧ f i g t st := by
  unfold s2ia at h; split at h
  · exact ⟨_, _, _, _, rfl, h⟩
  · exact h.elim
theorem s2la_inv {stk : List AV} {f : Int → Nat → Int → List AV → Prop} (h : s2la stk f) : ∃ i g t st, stk = aL i :: aR g t :: st ∧ f i g t st := by
  unfold s2la at h; split at h
  · exact ⟨_, _, _, _, rfl, h⟩
  · exact h.elim
theorem s3i_inv {stk : List AV} {f : Int → Int → Nat → Int → List AV → Prop} (h : s3i stk f) : ∃ x i g t st, stk = aI x :: aI i :: aR g t :: st ∧ f x i g t st := by
  unfold s3i at h; split at h
  · exact ⟨_, _, _, _, _, rfl, h⟩
  · exact h.elim
theorem s3l_inv {stk : List AV} {f : Int → Int → Nat → Int → List AV → Prop} (h : s3l stk f) : ∃ x i g t st, stk = aL x :: aI i :: aR g t :: st ∧ f x i g t st := by
  unfold s3l at h; split at h
  · exact ⟨_, _, _, _, _, rfl, h⟩
  · exact h.elim
theorem s3r_inv {stk : List AV} {f : Nat → Int → Int → Nat → Int → List AV → Prop} (h : s3r stk f) : ∃ g' t' i g t st, stk = aR g' t' :: aI i :: aR g t :: st ∧ f g' t' i g t st := by
  unfold s3r at h; split at h
  · exact ⟨_, _, _, _, _, _, rfl, h⟩
  · exact h.elim
theorem getD_inv {loc : Lc} {i : Nat} {v : AV} (h : loc.getD i none = some v) : loc[i]? = some (some v) := by
  rw [List.getD_eq_getElem?_getD] at h
  cases hq : loc[i]? with
  | none => rw [hq] at h; cases h
  | some o => rw [hq] at h; exact congrArg some h
theorem l1i_inv {loc : Lc} {i : Nat} {f : Int → Prop} (h : l1i loc i f) : ∃ x, loc[i]? = some (some (aI x)) ∧ f x := by
  unfold l1i at h; split at h
  · rename_i hq; exact ⟨_, getD_inv hq, h⟩
  · exact h.elim
theorem l1l_inv {loc : Lc} {i : Nat} {f : Int → Prop} (h : l1l loc i f) : ∃ x, loc[i]? = some (some (aL x)) ∧ loc[i + 1]? = some none ∧ f x := by
  unfold l1l at h; split at h
  · rename_i hq hr; exact ⟨_, getD_inv hq, hr, h⟩
  · exact h.elim
theorem l1r_inv {loc : Lc} {i : Nat} {f : Nat → Int → Prop} (h : l1r loc i f) : ∃ g t, loc[i]? = some (some (aR g t)) ∧ f g t := by
  unfold l1r at h; split at h
  · rename_i hq; exact ⟨_, _, getD_inv hq, h⟩
  · exact h.elim
theorem okT_inv {pcs : List Nat} {pc : Nat} {off t : Int} (h : okT pcs pc off t = true) : ∃ tgt : Nat, (pc : Int) + off = tgt ∧ pcs[t.toNat]? = some tgt := by
  unfold okT at h
  simp only [Bool.and_eq_true, decide_eq_true_eq] at h
  exact ⟨((pc : Int) + off).toNat, (Int.toNat_of_nonneg h.1).symm, h.2⟩
theorem in32_of {x : Int} (a : -2147483648 ≤ x) (b : x < 2147483648) : in32 x := ⟨a, b⟩
theorem tdiv_in {x y A : Int} (h0 : 0 < y) (h1 : -A ≤ x) (h2 : x < A) : -A ≤ x.tdiv y ∧ x.tdiv y < A := by
  have hab : (x.tdiv y).natAbs ≤ x.natAbs := Int.natAbs_tdiv_le_natAbs x y
  by_cases h : 0 ≤ x
  · have := Int.tdiv_nonneg (a := x) (b := y) h (by omega)
    omega
  · have h6 : x.tdiv y ≤ 0 := by
      have := Int.neg_tdiv (-x) y
      rw [Int.neg_neg] at this
      rw [this]
      have := Int.tdiv_nonneg (a := -x) (b := y) (by omega) (by omega)
      omega
    omega
theorem i32_tmod {x y : Int} (hx : in32 x) (hy : in32 y) (h0 : 0 < y) : Int32.ofInt x - Int32.ofInt x / Int32.ofInt y * Int32.ofInt y = Int32.ofInt (x.tmod y) := by
  have hd : Int32.ofInt x / Int32.ofInt y = Int32.ofInt (x.tdiv y) := by
    apply Int32.toInt_inj.mp
    rw [Int32.toInt_div, i32_toInt hx, i32_toInt hy]
    have hin : in32 (x.tdiv y) := tdiv_in h0 hx.1 hx.2
    rw [i32_toInt hin, ← w32_bmod, w32_id hin]
  rw [hd, ← Int32.ofInt_mul, ← Int32.ofInt_sub]
  congr 1
  have := Int.tmod_def x y
  rw [Int.mul_comm] at this
  omega
theorem i64_tmod {x y : Int} (hx : in64 x) (hy : in64 y) (h0 : 0 < y) : Int64.ofInt x - Int64.ofInt x / Int64.ofInt y * Int64.ofInt y = Int64.ofInt (x.tmod y) := by
  have hd : Int64.ofInt x / Int64.ofInt y = Int64.ofInt (x.tdiv y) := by
    apply Int64.toInt_inj.mp
    rw [Int64.toInt_div, i64_toInt hx, i64_toInt hy]
    have hin : in64 (x.tdiv y) := tdiv_in h0 hx.1 hx.2
    rw [i64_toInt hin, ← w64_bmod, w64_id hin]
  rw [hd, ← Int64.ofInt_mul, ← Int64.ofInt_sub]
  congr 1
  have := Int.tmod_def x y
  rw [Int.mul_comm] at this
  omega
theorem tmod_in32 {x y : Int} (hx : in32 x) (h0 : 0 < y) (hy : in32 y) : in32 (x.tmod y) := by
  have := tmod_bounds (a := x) h0
  unfold in32 at *
  omega
theorem tmod_in64 {x y : Int} (hx : in64 x) (h0 : 0 < y) (hy : in64 y) : in64 (x.tmod y) := by
  have := tmod_bounds (a := x) h0
  unfold in64 at *
  omega
theorem b_push {n : Int} (h1 : -128 ≤ n) (h2 : n < 128) : (Int8.ofInt n).toInt32 = Int32.ofInt n := by
  apply Int32.toInt_inj.mp
  rw [Int8.toInt_toInt32, Int8.toInt_ofInt_of_le (by simpa using h1) (by simpa using h2), i32_toInt (by unfold in32; omega)]
theorem s_push {n : Int} (h1 : -32768 ≤ n) (h2 : n < 32768) : (Int16.ofInt n).toInt32 = Int32.ofInt n := by
  apply Int32.toInt_inj.mp
  rw [Int16.toInt_toInt32, Int16.toInt_ofInt_of_le (by simpa using h1) (by simpa using h2), i32_toInt (by unfold in32; omega)]
theorem w8_ok (x : Int) : (Int32.ofInt x).toInt8.toInt32 = Int32.ofInt (w8 x) := by
  apply Int32.toInt_inj.mp
  rw [Int8.toInt_toInt32, i32_toInt (w8_in x), Int32.toInt_toInt8, Int32.toInt_ofInt]
  unfold w8
  rw [Int.bmod_def, Int.bmod_def, show (2 ^ 8 : Nat) = 256 from rfl, show Int32.size = 4294967296 from rfl]
  split <;> split <;> omega
theorem w16u_ok (x : Int) : ((Int32.ofInt x).toUInt32 % 65536).toInt32 = Int32.ofInt (w16u x) := by
  apply Int32.toInt_inj.mp
  rw [i32_toInt (w16u_in x)]
  unfold w16u
  have h1 : ((Int32.ofInt x).toUInt32 % 65536).toNat < 2147483648 := by
    rw [UInt32.toNat_mod]
    have : (65536 : UInt32).toNat = 65536 := rfl
    rw [this]
    omega
  rw [show ((Int32.ofInt x).toUInt32 % 65536).toInt32.toInt = (((Int32.ofInt x).toUInt32 % 65536).toNat : Int) by
    show (((Int32.ofInt x).toUInt32 % 65536).toBitVec).toInt = _
    rw [BitVec.toInt_eq_toNat_of_lt (by show 2 * ((Int32.ofInt x).toUInt32 % 65536).toNat < 2 ^ 32; omega)]
    rfl]
  rw [UInt32.toNat_mod, show (65536 : UInt32).toNat = 65536 from rfl]
  have h2 : ((Int32.ofInt x).toUInt32.toNat : Int) = x % 4294967296 := by
    show ((BitVec.ofInt 32 x).toNat : Int) = _
    rw [BitVec.toNat_ofInt]
    omega
  omega
theorem lcmp_ok {x y : Int} (hx : in64 x) (hy : in64 y) : lg_cmp (Int64.ofInt x) (Int64.ofInt y) = Int32.ofInt (lCmp x y) := by
  unfold lg_cmp lCmp
  simp only [gt_iff_lt, i64_lt hy hx, i64_eq hx hy]
  by_cases h : x < y
  · rw [if_neg (by omega), if_neg (by omega), if_pos h]; rfl
  · by_cases h2 : x = y
    · rw [if_neg (by omega), if_pos h2, if_neg h, if_pos h2]; rfl
    · rw [if_pos (by omega), if_neg h, if_neg h2]; rfl
theorem lCmp_in (x y : Int) : in32 (lCmp x y) := by
  unfold lCmp in32
  split
  · omega
  · split <;> omega
