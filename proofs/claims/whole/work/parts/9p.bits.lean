/-! ===== a bit more ===== -/
theorem shl32 : ∀ k : Fin 32, ((Int32.ofInt (k.val : Int) &&& 31).toBitVec.smod 32#32).toNat = k.val := shA32
theorem bit_v (x : Int) (k : Fin 32) : iAnd (iShr x k.val) 1 = 1 ↔ (Int32.ofInt x).toBitVec.getLsbD k.val = true := by
  have e1 : (Int32.ofInt x >>> (Int32.ofInt (k.val : Int) &&& 31)).toBitVec = (Int32.ofInt x).toBitVec.sshiftRight k.val := by
    rw [Int32.toBitVec_shiftRight, BitVec.sshiftRight_eq']
    exact congrArg (fun z => (Int32.ofInt x).toBitVec.sshiftRight z) (shA32 k)
  have hk := k.isLt
  have one : ∀ i, ¬ i = 0 → (Int32.ofInt 1).toBitVec.getLsbD i = false := fun i hi => by
    show (1#32).getLsbD i = false
    rw [BitVec.getLsbD_one]
    simp [hi]
  have g0 : ((Int32.ofInt x >>> (Int32.ofInt (k.val : Int) &&& 31)) &&& Int32.ofInt 1).toBitVec.getLsbD 0 = (Int32.ofInt x).toBitVec.getLsbD k.val := by
    rw [Int32.toBitVec_and, BitVec.getLsbD_and, e1, BitVec.getLsbD_sshiftRight]
    rw [show (Int32.ofInt 1).toBitVec.getLsbD 0 = true from rfl]
    simp [hk]
  unfold iAnd iShr
  rw [i32_of]
  have inj : ∀ y : Int32, y.toInt = 1 ↔ y = 1 := fun y => ⟨fun h => by rw [← i32_of y, h]; rfl, fun h => by rw [h]; rfl⟩
  rw [inj]
  constructor
  · intro h
    rw [h] at g0
    rw [← g0]
    rfl
  · intro h
    rw [h] at g0
    apply Int32.toBitVec_inj.mp
    apply BitVec.eq_of_getLsbD_eq
    intro i hi
    by_cases c : i = 0
    · subst c; rw [g0]; rfl
    · rw [Int32.toBitVec_and, BitVec.getLsbD_and, one i c, Bool.and_false]
      show false = (1#32).getLsbD i
      rw [BitVec.getLsbD_one]
      simp [c]
theorem bit_or (x : Int) (a b : Fin 32) : iAnd (iShr (iOr x (iShl 1 a.val)) b.val) 1 = 1 ↔ (iAnd (iShr x b.val) 1 = 1 ∨ a.val = b.val) := by
  rw [bit_v, bit_v]
  have e2 : (Int32.ofInt 1 <<< (Int32.ofInt (a.val : Int) &&& 31)).toBitVec = 1#32 <<< a.val := by
    rw [Int32.toBitVec_shiftLeft]
    show (1#32) <<< ((Int32.ofInt (a.val : Int) &&& 31).toBitVec.smod 32#32) = _
    rw [BitVec.shiftLeft_eq', shA32 a]
  have hb := b.isLt
  unfold iOr iShl
  rw [i32_of, i32_of, Int32.toBitVec_or, BitVec.getLsbD_or, e2, BitVec.getLsbD_shiftLeft, BitVec.getLsbD_one]
  have ha := a.isLt
  simp only [Bool.or_eq_true, Bool.and_eq_true, decide_eq_true_eq, Bool.not_eq_true']
  constructor
  · rintro (h | ⟨⟨_, h1⟩, _, h2⟩)
    · exact Or.inl h
    · have := of_decide_eq_false h1; exact Or.inr (by omega)
  · rintro (h | h)
    · exact Or.inl h
    · exact Or.inr ⟨⟨hb, decide_eq_false (by omega)⟩, by omega, by omega⟩
theorem bit_s (x a b : Int) (ha : 0 ≤ a ∧ a < 32) (hb : 0 ≤ b ∧ b < 32) : iAnd (iShr (iOr x (iShl 1 a)) b) 1 = 1 ↔ (iAnd (iShr x b) 1 = 1 ∨ a = b) := by
  have h := bit_or x ⟨a.toNat, by omega⟩ ⟨b.toNat, by omega⟩
  have ea : (((⟨a.toNat, by omega⟩ : Fin 32).val : Nat) : Int) = a := by show ((a.toNat : Nat) : Int) = a; omega
  have eb : (((⟨b.toNat, by omega⟩ : Fin 32).val : Nat) : Int) = b := by show ((b.toNat : Nat) : Int) = b; omega
  rw [ea, eb] at h
  rw [h]
  show _ ∨ a.toNat = b.toNat ↔ _
  rw [show (a.toNat = b.toNat) ↔ a = b by omega]
