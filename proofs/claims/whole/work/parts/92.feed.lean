/-! ===== feed (by program: wip/whole/gen/mk92.py) ===== -/
theorem and255 (y : Int) : iAnd y 255 = y % 256 := by
  unfold iAnd
  have h : (Int32.ofInt y &&& Int32.ofInt 255).toBitVec.toNat = (Int32.ofInt y).toBitVec.toNat % 256 := by
    rw [Int32.toBitVec_and, BitVec.toNat_and]
    exact Nat.and_two_pow_sub_one_eq_mod _ 8
  have e : (Int32.ofInt y &&& Int32.ofInt 255).toInt = (Int32.ofInt y &&& Int32.ofInt 255).toBitVec.toInt := rfl
  have e2 : (Int32.ofInt y).toBitVec.toNat = (y % 4294967296).toNat := by
    show (BitVec.ofInt 32 y).toNat = _
    rw [BitVec.toNat_ofInt]
    rfl
  rw [e, BitVec.toInt_eq_toNat_of_lt (by omega), h, e2]
  omega
theorem byt_k (x : Int) (k : Fin 25) : iAnd (iUshr x k.val) 255 = iAnd (iShr x k.val) 255 := by
  have hk := k.isLt
  have e1 : (Int32.ofInt x >>> (Int32.ofInt (k.val : Int) &&& 31)).toBitVec = (Int32.ofInt x).toBitVec.sshiftRight k.val := by
    rw [Int32.toBitVec_shiftRight, BitVec.sshiftRight_eq']
    exact congrArg (fun z => (Int32.ofInt x).toBitVec.sshiftRight z) (shA32 ⟨k.val, by omega⟩)
  have e2 : ((Int32.ofInt x).toUInt32 >>> ((Int32.ofInt (k.val : Int)).toUInt32 &&& Int32.toUInt32 31)).toInt32.toBitVec = (Int32.ofInt x).toBitVec >>> k.val := by
    show (Int32.ofInt x).toBitVec >>> (((Int32.ofInt (k.val : Int)).toUInt32 &&& Int32.toUInt32 31).toBitVec % 32#32) = _
    rw [BitVec.ushiftRight_eq', shU32 ⟨k.val, by omega⟩]
  have hi : ∀ i, 8 ≤ i → (Int32.ofInt 255).toBitVec.getLsbD i = false := fun i hi => by
    show (255#32).getLsbD i = false
    rw [BitVec.getLsbD_ofNat]
    have : Nat.testBit 255 i = false := Nat.testBit_lt_two_pow (Nat.lt_of_lt_of_le (by decide : 255 < 2 ^ 8) (Nat.pow_le_pow_right (by decide) hi))
    rw [this, Bool.and_false]
  unfold iAnd iUshr iShr
  rw [i32_of, i32_of]
  congr 1
  apply Int32.toBitVec_inj.mp
  apply BitVec.eq_of_getLsbD_eq
  intro i hi32
  rw [Int32.toBitVec_and, Int32.toBitVec_and, BitVec.getLsbD_and, BitVec.getLsbD_and]
  by_cases c : i < 8
  · rw [e1, e2, BitVec.getLsbD_sshiftRight, BitVec.getLsbD_ushiftRight, if_pos (by omega)]
    have : ¬ 32 ≤ i := by omega
    simp [this]
  · rw [hi i (by omega), Bool.and_false, Bool.and_false]
theorem byt_eq (x s : Int) (s0 : 0 ≤ s) (s1 : s ≤ 24) : w16u (w16u (iAnd (iUshr x s) 255)) = iAnd (w8 (w8 (iShr x s))) 255 := by
  have h := byt_k x ⟨s.toNat, by omega⟩
  rw [show (((⟨s.toNat, by omega⟩ : Fin 25).val : Nat) : Int) = s by show ((s.toNat : Nat) : Int) = s; omega] at h
  rw [h, and255, and255]
  unfold w16u w8
  omega
theorem kpf_x (M : AMem) (w : Int) (i : Int) : ∀ n : Nat, ((kpf M w n) 8193300 0 (i)) = if (M 1 0 1) ≤ i ∧ i < (M 1 0 1) + n then w16u (w16u (iAnd (iUshr w (24 - 8 * (i - (M 1 0 1)))) 255)) else (M 8193300 0 (i))
  | 0 => by rw [if_neg (by omega)]; rfl
  | n + 1 => by
    show (mup (mup (kpf M w n) 8193300 0 ((kpf M w n) 1 0 1) (w16u (w16u (iAnd (iUshr w (24 - 8 * n)) 255)))) 1 0 1 _) 8193300 0 i = _
    rw [mu_ng (by decide), mu_xi, kpf_x M w i n, kpf_t M w n]
    by_cases c : i = (M 1 0 1) + n
    · rw [if_pos c, if_pos (by omega), c, show (M 1 0 1) + (n : Int) - (M 1 0 1) = n by omega]
    · rw [if_neg c]
      by_cases d : (M 1 0 1) ≤ i ∧ i < (M 1 0 1) + n
      · rw [if_pos d, if_pos (by omega)]
      · rw [if_neg d, if_neg (by omega)]
theorem kpf_o (M : AMem) (w : Int) {g : Nat} (h1 : g ≠ 1) (h2 : g ≠ 8193300) (t i : Int) : ∀ n : Nat, kpf M w n g t i = M g t i
  | 0 => rfl
  | n + 1 => by
    show (mup (mup (kpf M w n) 8193300 0 _ _) 1 0 1 _) g t i = _
    rw [mu_ng h1, mu_ng h2, kpf_o M w h1 h2 t i n]
theorem kfd_o (M : AMem) (a b c d e : Int) {g : Nat} (h1 : g ≠ 1) (h2 : g ≠ 8193300) (t i : Int) : kfd M a b c d e g t i = M g t i := by
  unfold kfd
  rw [kpf_o _ _ h1 h2, kpf_o _ _ h1 h2, kpf_o _ _ h1 h2, kpf_o _ _ h1 h2, kpf_o _ _ h1 h2]
theorem kfd_t (M : AMem) (a b c d e : Int) : ((kfd M a b c d e) 1 0 1) = (M 1 0 1) + 20 := by
  unfold kfd
  rw [kpf_t, kpf_t, kpf_t, kpf_t, kpf_t]
  omega
theorem kfd_x (M : AMem) (a b c d e i : Int) : ((kfd M a b c d e) 8193300 0 (i)) = if (M 1 0 1) ≤ i ∧ i < (M 1 0 1) + 20 then w16u (w16u (iAnd (iUshr (fsl a b c d e (i - (M 1 0 1)).toNat) (24 - 8 * ((i - (M 1 0 1)) % 4))) 255)) else (M 8193300 0 (i)) := by
  unfold kfd fsl
  rw [kpf_x, kpf_x, kpf_x, kpf_x, kpf_x, kpf_t, kpf_t, kpf_t, kpf_t]
  generalize (M 1 0 1) = L
  by_cases c0 : L ≤ i ∧ i < L + 20
  · rw [if_pos c0]
    by_cases c1 : i < L + 4
    · rw [if_neg (by omega), if_neg (by omega), if_neg (by omega), if_neg (by omega), if_pos (by omega), if_pos (by omega), show (i - L) % 4 = i - L by omega]
    · by_cases c2 : i < L + 8
      · rw [if_neg (by omega), if_neg (by omega), if_neg (by omega), if_pos (by omega), if_neg (by omega), if_pos (by omega), show (i - L) % 4 = i - (L + (4 : Nat)) by omega]
      · by_cases c3 : i < L + 12
        · rw [if_neg (by omega), if_neg (by omega), if_pos (by omega), if_neg (by omega), if_neg (by omega), if_pos (by omega), show (i - L) % 4 = i - (L + (4 : Nat) + (4 : Nat)) by omega]
        · by_cases c4 : i < L + 16
          · rw [if_neg (by omega), if_pos (by omega), if_neg (by omega), if_neg (by omega), if_neg (by omega), if_pos (by omega), show (i - L) % 4 = i - (L + (4 : Nat) + (4 : Nat) + (4 : Nat)) by omega]
          · rw [if_pos (by omega), if_neg (by omega), if_neg (by omega), if_neg (by omega), if_neg (by omega), show (i - L) % 4 = i - (L + (4 : Nat) + (4 : Nat) + (4 : Nat) + (4 : Nat)) by omega]
  · rw [if_neg c0, if_neg (by omega), if_neg (by omega), if_neg (by omega), if_neg (by omega), if_neg (by omega)]
theorem fdm_x (M : AMem) (a b c d e i : Int) : ∀ k : Nat, ((fdm M a b c d e k) 8193084 0 (i)) = if (M 11 0 2) ≤ i ∧ i < (M 11 0 2) + k then fby a b c d e (i - (M 11 0 2)).toNat else (M 8193084 0 (i))
  | 0 => by rw [if_neg (by omega)]; rfl
  | k + 1 => by
    show (mup (mup (fdm M a b c d e k) 8193084 0 ((fdm M a b c d e k) 11 0 2) (fby a b c d e k)) 11 0 2 _) 8193084 0 i = _
    rw [mu_ng (by decide), mu_xi, fdm_x M a b c d e i k, fdm_t]
    by_cases z : i = (M 11 0 2) + k
    · rw [if_pos z, if_pos (by omega), z, show ((M 11 0 2) + (k : Int) - (M 11 0 2)).toNat = k by omega]
    · rw [if_neg z]
      by_cases y : (M 11 0 2) ≤ i ∧ i < (M 11 0 2) + k
      · rw [if_pos y, if_pos (by omega)]
      · rw [if_neg y, if_neg (by omega)]
theorem ig_1 {n : Int} {A B : AMem} (h : RL n A B) (i v : Int) : RL n A (mup B 8193084 0 i v) := by
  have pl : PL A (mup B 8193084 0 i v) := by
    have z := h.pl
    unfold PL MB at z ⊢
    simp only [mup_same, mu_ng, mu_ni, mu_xi, mu_xt, cq_fr, rn_fr, mrs_fr, inn_fr, cpr_fr, opr_fr, ldd_fr, own_fr, ne_eq, Nat.reduceEqDiff, not_false_eq_true, Int.reduceEq, ↓reduceIte]
    exact z
  have sb : SB (mup B 8193084 0 i v) := by unfold SB; simp only [mup_same, mu_ng, mu_ni, mu_xi, mu_xt, cq_fr, rn_fr, mrs_fr, inn_fr, cpr_fr, opr_fr, ldd_fr, own_fr, ne_eq, Nat.reduceEqDiff, not_false_eq_true, Int.reduceEq, ↓reduceIte]; exact h.sb
  refine RL.mk pl sb ?_ ?_ ?_ ?_ ?_ ?_ ?_ ?_ ?_ ?_ ?_ ?_ ?_ ?_ ?_ ?_ ?_ ?_ ?_ ?_ ?_ ?_ ?_ ?_ ?_ ?_ ?_ ?_ ?_
  · simp only [mup_same, mu_ng, mu_ni, mu_xi, mu_xt, cq_fr, rn_fr, mrs_fr, inn_fr, cpr_fr, opr_fr, ldd_fr, own_fr, ne_eq, Nat.reduceEqDiff, not_false_eq_true, Int.reduceEq, ↓reduceIte]; exact h.on
  · simp only [mup_same, mu_ng, mu_ni, mu_xi, mu_xt, cq_fr, rn_fr, mrs_fr, inn_fr, cpr_fr, opr_fr, ldd_fr, own_fr, ne_eq, Nat.reduceEqDiff, not_false_eq_true, Int.reduceEq, ↓reduceIte]; exact h.sh
  · simp only [mup_same, mu_ng, mu_ni, mu_xi, mu_xt, cq_fr, rn_fr, mrs_fr, inn_fr, cpr_fr, opr_fr, ldd_fr, own_fr, ne_eq, Nat.reduceEqDiff, not_false_eq_true, Int.reduceEq, ↓reduceIte]; exact h.no
  · simp only [mup_same, mu_ng, mu_ni, mu_xi, mu_xt, cq_fr, rn_fr, mrs_fr, inn_fr, cpr_fr, opr_fr, ldd_fr, own_fr, ne_eq, Nat.reduceEqDiff, not_false_eq_true, Int.reduceEq, ↓reduceIte]; exact h.na
  · simp only [mup_same, mu_ng, mu_ni, mu_xi, mu_xt, cq_fr, rn_fr, mrs_fr, inn_fr, cpr_fr, opr_fr, ldd_fr, own_fr, ne_eq, Nat.reduceEqDiff, not_false_eq_true, Int.reduceEq, ↓reduceIte]; exact h.bt
  · simp only [mup_same, mu_ng, mu_ni, mu_xi, mu_xt, cq_fr, rn_fr, mrs_fr, inn_fr, cpr_fr, opr_fr, ldd_fr, own_fr, ne_eq, Nat.reduceEqDiff, not_false_eq_true, Int.reduceEq, ↓reduceIte]; exact h.cu
  · simp only [mup_same, mu_ng, mu_ni, mu_xi, mu_xt, cq_fr, rn_fr, mrs_fr, inn_fr, cpr_fr, opr_fr, ldd_fr, own_fr, ne_eq, Nat.reduceEqDiff, not_false_eq_true, Int.reduceEq, ↓reduceIte]; exact h.rq
  · simp only [mup_same, mu_ng, mu_ni, mu_xi, mu_xt, cq_fr, rn_fr, mrs_fr, inn_fr, cpr_fr, opr_fr, ldd_fr, own_fr, ne_eq, Nat.reduceEqDiff, not_false_eq_true, Int.reduceEq, ↓reduceIte]; exact h.wa
  · simp only [mup_same, mu_ng, mu_ni, mu_xi, mu_xt, cq_fr, rn_fr, mrs_fr, inn_fr, cpr_fr, opr_fr, ldd_fr, own_fr, ne_eq, Nat.reduceEqDiff, not_false_eq_true, Int.reduceEq, ↓reduceIte]; exact h.wf
  · simp only [mup_same, mu_ng, mu_ni, mu_xi, mu_xt, cq_fr, rn_fr, mrs_fr, inn_fr, cpr_fr, opr_fr, ldd_fr, own_fr, ne_eq, Nat.reduceEqDiff, not_false_eq_true, Int.reduceEq, ↓reduceIte]; exact h.hi
  · exact h.hx
  · exact h.hc
  · simp only [mup_same, mu_ng, mu_ni, mu_xi, mu_xt, cq_fr, rn_fr, mrs_fr, inn_fr, cpr_fr, opr_fr, ldd_fr, own_fr, ne_eq, Nat.reduceEqDiff, not_false_eq_true, Int.reduceEq, ↓reduceIte]; exact h.hd
  · simp only [mup_same, mu_ng, mu_ni, mu_xi, mu_xt, cq_fr, rn_fr, mrs_fr, inn_fr, cpr_fr, opr_fr, ldd_fr, own_fr, ne_eq, Nat.reduceEqDiff, not_false_eq_true, Int.reduceEq, ↓reduceIte]; exact h.hs
  · simp only [mup_same, mu_ng, mu_ni, mu_xi, mu_xt, cq_fr, rn_fr, mrs_fr, inn_fr, cpr_fr, opr_fr, ldd_fr, own_fr, ne_eq, Nat.reduceEqDiff, not_false_eq_true, Int.reduceEq, ↓reduceIte]; exact h.ho
  · simp only [mup_same, mu_ng, mu_ni, mu_xi, mu_xt, cq_fr, rn_fr, mrs_fr, inn_fr, cpr_fr, opr_fr, ldd_fr, own_fr, ne_eq, Nat.reduceEqDiff, not_false_eq_true, Int.reduceEq, ↓reduceIte]; exact h.bc
  · simp only [mup_same, mu_ng, mu_ni, mu_xi, mu_xt, cq_fr, rn_fr, mrs_fr, inn_fr, cpr_fr, opr_fr, ldd_fr, own_fr, ne_eq, Nat.reduceEqDiff, not_false_eq_true, Int.reduceEq, ↓reduceIte]; exact h.bg
  · simp only [mup_same, mu_ng, mu_ni, mu_xi, mu_xt, cq_fr, rn_fr, mrs_fr, inn_fr, cpr_fr, opr_fr, ldd_fr, own_fr, ne_eq, Nat.reduceEqDiff, not_false_eq_true, Int.reduceEq, ↓reduceIte]; exact h.bo
  · simp only [mup_same, mu_ng, mu_ni, mu_xi, mu_xt, cq_fr, rn_fr, mrs_fr, inn_fr, cpr_fr, opr_fr, ldd_fr, own_fr, ne_eq, Nat.reduceEqDiff, not_false_eq_true, Int.reduceEq, ↓reduceIte]; exact h.bi
  · simp only [mup_same, mu_ng, mu_ni, mu_xi, mu_xt, cq_fr, rn_fr, mrs_fr, inn_fr, cpr_fr, opr_fr, ldd_fr, own_fr, ne_eq, Nat.reduceEqDiff, not_false_eq_true, Int.reduceEq, ↓reduceIte]; exact h.ca
  · simp only [mup_same, mu_ng, mu_ni, mu_xi, mu_xt, cq_fr, rn_fr, mrs_fr, inn_fr, cpr_fr, opr_fr, ldd_fr, own_fr, ne_eq, Nat.reduceEqDiff, not_false_eq_true, Int.reduceEq, ↓reduceIte]; exact h.st
  · simp only [mup_same, mu_ng, mu_ni, mu_xi, mu_xt, cq_fr, rn_fr, mrs_fr, inn_fr, cpr_fr, opr_fr, ldd_fr, own_fr, ne_eq, Nat.reduceEqDiff, not_false_eq_true, Int.reduceEq, ↓reduceIte]; exact h.co
  · unfold CO; simp only [mup_same, mu_ng, mu_ni, mu_xi, mu_xt, cq_fr, rn_fr, mrs_fr, inn_fr, cpr_fr, opr_fr, ldd_fr, own_fr, ne_eq, Nat.reduceEqDiff, not_false_eq_true, Int.reduceEq, ↓reduceIte]; exact h.ko
  · simp only [mup_same, mu_ng, mu_ni, mu_xi, mu_xt, cq_fr, rn_fr, mrs_fr, inn_fr, cpr_fr, opr_fr, ldd_fr, own_fr, ne_eq, Nat.reduceEqDiff, not_false_eq_true, Int.reduceEq, ↓reduceIte]; exact h.wg
  · simp only [mup_same, mu_ng, mu_ni, mu_xi, mu_xt, cq_fr, rn_fr, mrs_fr, inn_fr, cpr_fr, opr_fr, ldd_fr, own_fr, ne_eq, Nat.reduceEqDiff, not_false_eq_true, Int.reduceEq, ↓reduceIte]; exact h.au
  · simp only [mup_same, mu_ng, mu_ni, mu_xi, mu_xt, cq_fr, rn_fr, mrs_fr, inn_fr, cpr_fr, opr_fr, ldd_fr, own_fr, ne_eq, Nat.reduceEqDiff, not_false_eq_true, Int.reduceEq, ↓reduceIte]; exact h.ad
  · simp only [mup_same, mu_ng, mu_ni, mu_xi, mu_xt, cq_fr, rn_fr, mrs_fr, inn_fr, cpr_fr, opr_fr, ldd_fr, own_fr, ne_eq, Nat.reduceEqDiff, not_false_eq_true, Int.reduceEq, ↓reduceIte]; exact h.ee
  · simp only [mup_same, mu_ng, mu_ni, mu_xi, mu_xt, cq_fr, rn_fr, mrs_fr, inn_fr, cpr_fr, opr_fr, ldd_fr, own_fr, ne_eq, Nat.reduceEqDiff, not_false_eq_true, Int.reduceEq, ↓reduceIte]; exact h.of
  · simp only [mup_same, mu_ng, mu_ni, mu_xi, mu_xt, cq_fr, rn_fr, mrs_fr, inn_fr, cpr_fr, opr_fr, ldd_fr, own_fr, ne_eq, Nat.reduceEqDiff, not_false_eq_true, Int.reduceEq, ↓reduceIte]; exact h.rx
theorem ig_2 {n : Int} {A B : AMem} (h : RL n A B) (v : Int) : RL n A (mup B 11 0 2 v) := by
  have pl : PL A (mup B 11 0 2 v) := by
    have z := h.pl
    unfold PL MB at z ⊢
    simp only [mup_same, mu_ng, mu_ni, mu_xi, mu_xt, cq_fr, rn_fr, mrs_fr, inn_fr, cpr_fr, opr_fr, ldd_fr, own_fr, ne_eq, Nat.reduceEqDiff, not_false_eq_true, Int.reduceEq, ↓reduceIte]
    exact z
  have sb : SB (mup B 11 0 2 v) := by unfold SB; simp only [mup_same, mu_ng, mu_ni, mu_xi, mu_xt, cq_fr, rn_fr, mrs_fr, inn_fr, cpr_fr, opr_fr, ldd_fr, own_fr, ne_eq, Nat.reduceEqDiff, not_false_eq_true, Int.reduceEq, ↓reduceIte]; exact h.sb
  refine RL.mk pl sb ?_ ?_ ?_ ?_ ?_ ?_ ?_ ?_ ?_ ?_ ?_ ?_ ?_ ?_ ?_ ?_ ?_ ?_ ?_ ?_ ?_ ?_ ?_ ?_ ?_ ?_ ?_ ?_ ?_
  · simp only [mup_same, mu_ng, mu_ni, mu_xi, mu_xt, cq_fr, rn_fr, mrs_fr, inn_fr, cpr_fr, opr_fr, ldd_fr, own_fr, ne_eq, Nat.reduceEqDiff, not_false_eq_true, Int.reduceEq, ↓reduceIte]; exact h.on
  · simp only [mup_same, mu_ng, mu_ni, mu_xi, mu_xt, cq_fr, rn_fr, mrs_fr, inn_fr, cpr_fr, opr_fr, ldd_fr, own_fr, ne_eq, Nat.reduceEqDiff, not_false_eq_true, Int.reduceEq, ↓reduceIte]; exact h.sh
  · simp only [mup_same, mu_ng, mu_ni, mu_xi, mu_xt, cq_fr, rn_fr, mrs_fr, inn_fr, cpr_fr, opr_fr, ldd_fr, own_fr, ne_eq, Nat.reduceEqDiff, not_false_eq_true, Int.reduceEq, ↓reduceIte]; exact h.no
  · simp only [mup_same, mu_ng, mu_ni, mu_xi, mu_xt, cq_fr, rn_fr, mrs_fr, inn_fr, cpr_fr, opr_fr, ldd_fr, own_fr, ne_eq, Nat.reduceEqDiff, not_false_eq_true, Int.reduceEq, ↓reduceIte]; exact h.na
  · simp only [mup_same, mu_ng, mu_ni, mu_xi, mu_xt, cq_fr, rn_fr, mrs_fr, inn_fr, cpr_fr, opr_fr, ldd_fr, own_fr, ne_eq, Nat.reduceEqDiff, not_false_eq_true, Int.reduceEq, ↓reduceIte]; exact h.bt
  · simp only [mup_same, mu_ng, mu_ni, mu_xi, mu_xt, cq_fr, rn_fr, mrs_fr, inn_fr, cpr_fr, opr_fr, ldd_fr, own_fr, ne_eq, Nat.reduceEqDiff, not_false_eq_true, Int.reduceEq, ↓reduceIte]; exact h.cu
  · simp only [mup_same, mu_ng, mu_ni, mu_xi, mu_xt, cq_fr, rn_fr, mrs_fr, inn_fr, cpr_fr, opr_fr, ldd_fr, own_fr, ne_eq, Nat.reduceEqDiff, not_false_eq_true, Int.reduceEq, ↓reduceIte]; exact h.rq
  · simp only [mup_same, mu_ng, mu_ni, mu_xi, mu_xt, cq_fr, rn_fr, mrs_fr, inn_fr, cpr_fr, opr_fr, ldd_fr, own_fr, ne_eq, Nat.reduceEqDiff, not_false_eq_true, Int.reduceEq, ↓reduceIte]; exact h.wa
  · simp only [mup_same, mu_ng, mu_ni, mu_xi, mu_xt, cq_fr, rn_fr, mrs_fr, inn_fr, cpr_fr, opr_fr, ldd_fr, own_fr, ne_eq, Nat.reduceEqDiff, not_false_eq_true, Int.reduceEq, ↓reduceIte]; exact h.wf
  · simp only [mup_same, mu_ng, mu_ni, mu_xi, mu_xt, cq_fr, rn_fr, mrs_fr, inn_fr, cpr_fr, opr_fr, ldd_fr, own_fr, ne_eq, Nat.reduceEqDiff, not_false_eq_true, Int.reduceEq, ↓reduceIte]; exact h.hi
  · exact h.hx
  · exact h.hc
  · simp only [mup_same, mu_ng, mu_ni, mu_xi, mu_xt, cq_fr, rn_fr, mrs_fr, inn_fr, cpr_fr, opr_fr, ldd_fr, own_fr, ne_eq, Nat.reduceEqDiff, not_false_eq_true, Int.reduceEq, ↓reduceIte]; exact h.hd
  · simp only [mup_same, mu_ng, mu_ni, mu_xi, mu_xt, cq_fr, rn_fr, mrs_fr, inn_fr, cpr_fr, opr_fr, ldd_fr, own_fr, ne_eq, Nat.reduceEqDiff, not_false_eq_true, Int.reduceEq, ↓reduceIte]; exact h.hs
  · simp only [mup_same, mu_ng, mu_ni, mu_xi, mu_xt, cq_fr, rn_fr, mrs_fr, inn_fr, cpr_fr, opr_fr, ldd_fr, own_fr, ne_eq, Nat.reduceEqDiff, not_false_eq_true, Int.reduceEq, ↓reduceIte]; exact h.ho
  · simp only [mup_same, mu_ng, mu_ni, mu_xi, mu_xt, cq_fr, rn_fr, mrs_fr, inn_fr, cpr_fr, opr_fr, ldd_fr, own_fr, ne_eq, Nat.reduceEqDiff, not_false_eq_true, Int.reduceEq, ↓reduceIte]; exact h.bc
  · simp only [mup_same, mu_ng, mu_ni, mu_xi, mu_xt, cq_fr, rn_fr, mrs_fr, inn_fr, cpr_fr, opr_fr, ldd_fr, own_fr, ne_eq, Nat.reduceEqDiff, not_false_eq_true, Int.reduceEq, ↓reduceIte]; exact h.bg
  · simp only [mup_same, mu_ng, mu_ni, mu_xi, mu_xt, cq_fr, rn_fr, mrs_fr, inn_fr, cpr_fr, opr_fr, ldd_fr, own_fr, ne_eq, Nat.reduceEqDiff, not_false_eq_true, Int.reduceEq, ↓reduceIte]; exact h.bo
  · simp only [mup_same, mu_ng, mu_ni, mu_xi, mu_xt, cq_fr, rn_fr, mrs_fr, inn_fr, cpr_fr, opr_fr, ldd_fr, own_fr, ne_eq, Nat.reduceEqDiff, not_false_eq_true, Int.reduceEq, ↓reduceIte]; exact h.bi
  · simp only [mup_same, mu_ng, mu_ni, mu_xi, mu_xt, cq_fr, rn_fr, mrs_fr, inn_fr, cpr_fr, opr_fr, ldd_fr, own_fr, ne_eq, Nat.reduceEqDiff, not_false_eq_true, Int.reduceEq, ↓reduceIte]; exact h.ca
  · simp only [mup_same, mu_ng, mu_ni, mu_xi, mu_xt, cq_fr, rn_fr, mrs_fr, inn_fr, cpr_fr, opr_fr, ldd_fr, own_fr, ne_eq, Nat.reduceEqDiff, not_false_eq_true, Int.reduceEq, ↓reduceIte]; exact h.st
  · simp only [mup_same, mu_ng, mu_ni, mu_xi, mu_xt, cq_fr, rn_fr, mrs_fr, inn_fr, cpr_fr, opr_fr, ldd_fr, own_fr, ne_eq, Nat.reduceEqDiff, not_false_eq_true, Int.reduceEq, ↓reduceIte]; exact h.co
  · unfold CO; simp only [mup_same, mu_ng, mu_ni, mu_xi, mu_xt, cq_fr, rn_fr, mrs_fr, inn_fr, cpr_fr, opr_fr, ldd_fr, own_fr, ne_eq, Nat.reduceEqDiff, not_false_eq_true, Int.reduceEq, ↓reduceIte]; exact h.ko
  · simp only [mup_same, mu_ng, mu_ni, mu_xi, mu_xt, cq_fr, rn_fr, mrs_fr, inn_fr, cpr_fr, opr_fr, ldd_fr, own_fr, ne_eq, Nat.reduceEqDiff, not_false_eq_true, Int.reduceEq, ↓reduceIte]; exact h.wg
  · simp only [mup_same, mu_ng, mu_ni, mu_xi, mu_xt, cq_fr, rn_fr, mrs_fr, inn_fr, cpr_fr, opr_fr, ldd_fr, own_fr, ne_eq, Nat.reduceEqDiff, not_false_eq_true, Int.reduceEq, ↓reduceIte]; exact h.au
  · simp only [mup_same, mu_ng, mu_ni, mu_xi, mu_xt, cq_fr, rn_fr, mrs_fr, inn_fr, cpr_fr, opr_fr, ldd_fr, own_fr, ne_eq, Nat.reduceEqDiff, not_false_eq_true, Int.reduceEq, ↓reduceIte]; exact h.ad
  · simp only [mup_same, mu_ng, mu_ni, mu_xi, mu_xt, cq_fr, rn_fr, mrs_fr, inn_fr, cpr_fr, opr_fr, ldd_fr, own_fr, ne_eq, Nat.reduceEqDiff, not_false_eq_true, Int.reduceEq, ↓reduceIte]; exact h.ee
  · simp only [mup_same, mu_ng, mu_ni, mu_xi, mu_xt, cq_fr, rn_fr, mrs_fr, inn_fr, cpr_fr, opr_fr, ldd_fr, own_fr, ne_eq, Nat.reduceEqDiff, not_false_eq_true, Int.reduceEq, ↓reduceIte]; exact h.of
  · simp only [mup_same, mu_ng, mu_ni, mu_xi, mu_xt, cq_fr, rn_fr, mrs_fr, inn_fr, cpr_fr, opr_fr, ldd_fr, own_fr, ne_eq, Nat.reduceEqDiff, not_false_eq_true, Int.reduceEq, ↓reduceIte]; exact h.rx
theorem ig_3 {n : Int} {A B : AMem} (h : RL n A B) (i v : Int) : RL n (mup A 8193300 0 i v) B := by
  have pl : PL (mup A 8193300 0 i v) B := by
    have z := h.pl
    unfold PL at z ⊢
    simp only [mup_same, mu_ng, mu_ni, mu_xi, mu_xt, cq_fr, rn_fr, mrs_fr, inn_fr, cpr_fr, opr_fr, ldd_fr, own_fr, ne_eq, Nat.reduceEqDiff, not_false_eq_true, Int.reduceEq, ↓reduceIte]
    exact z
  refine RL.mk pl h.sb ?_ ?_ ?_ ?_ ?_ ?_ ?_ ?_ ?_ ?_ ?_ ?_ ?_ ?_ ?_ ?_ ?_ ?_ ?_ ?_ ?_ ?_ ?_ ?_ ?_ ?_ ?_ ?_ ?_
  · simp only [mup_same, mu_ng, mu_ni, mu_xi, mu_xt, cq_fr, rn_fr, mrs_fr, inn_fr, cpr_fr, opr_fr, ldd_fr, own_fr, ne_eq, Nat.reduceEqDiff, not_false_eq_true, Int.reduceEq, ↓reduceIte]; exact h.on
  · simp only [mup_same, mu_ng, mu_ni, mu_xi, mu_xt, cq_fr, rn_fr, mrs_fr, inn_fr, cpr_fr, opr_fr, ldd_fr, own_fr, ne_eq, Nat.reduceEqDiff, not_false_eq_true, Int.reduceEq, ↓reduceIte]; exact h.sh
  · simp only [mup_same, mu_ng, mu_ni, mu_xi, mu_xt, cq_fr, rn_fr, mrs_fr, inn_fr, cpr_fr, opr_fr, ldd_fr, own_fr, ne_eq, Nat.reduceEqDiff, not_false_eq_true, Int.reduceEq, ↓reduceIte]; exact h.no
  · simp only [mup_same, mu_ng, mu_ni, mu_xi, mu_xt, cq_fr, rn_fr, mrs_fr, inn_fr, cpr_fr, opr_fr, ldd_fr, own_fr, ne_eq, Nat.reduceEqDiff, not_false_eq_true, Int.reduceEq, ↓reduceIte]; exact h.na
  · simp only [mup_same, mu_ng, mu_ni, mu_xi, mu_xt, cq_fr, rn_fr, mrs_fr, inn_fr, cpr_fr, opr_fr, ldd_fr, own_fr, ne_eq, Nat.reduceEqDiff, not_false_eq_true, Int.reduceEq, ↓reduceIte]; exact h.bt
  · simp only [mup_same, mu_ng, mu_ni, mu_xi, mu_xt, cq_fr, rn_fr, mrs_fr, inn_fr, cpr_fr, opr_fr, ldd_fr, own_fr, ne_eq, Nat.reduceEqDiff, not_false_eq_true, Int.reduceEq, ↓reduceIte]; exact h.cu
  · simp only [mup_same, mu_ng, mu_ni, mu_xi, mu_xt, cq_fr, rn_fr, mrs_fr, inn_fr, cpr_fr, opr_fr, ldd_fr, own_fr, ne_eq, Nat.reduceEqDiff, not_false_eq_true, Int.reduceEq, ↓reduceIte]; exact h.rq
  · simp only [mup_same, mu_ng, mu_ni, mu_xi, mu_xt, cq_fr, rn_fr, mrs_fr, inn_fr, cpr_fr, opr_fr, ldd_fr, own_fr, ne_eq, Nat.reduceEqDiff, not_false_eq_true, Int.reduceEq, ↓reduceIte]; exact h.wa
  · simp only [mup_same, mu_ng, mu_ni, mu_xi, mu_xt, cq_fr, rn_fr, mrs_fr, inn_fr, cpr_fr, opr_fr, ldd_fr, own_fr, ne_eq, Nat.reduceEqDiff, not_false_eq_true, Int.reduceEq, ↓reduceIte]; exact h.wf
  · simp only [mup_same, mu_ng, mu_ni, mu_xi, mu_xt, cq_fr, rn_fr, mrs_fr, inn_fr, cpr_fr, opr_fr, ldd_fr, own_fr, ne_eq, Nat.reduceEqDiff, not_false_eq_true, Int.reduceEq, ↓reduceIte]; exact h.hi
  · simp only [mup_same, mu_ng, mu_ni, mu_xi, mu_xt, cq_fr, rn_fr, mrs_fr, inn_fr, cpr_fr, opr_fr, ldd_fr, own_fr, ne_eq, Nat.reduceEqDiff, not_false_eq_true, Int.reduceEq, ↓reduceIte]; exact h.hx
  · simp only [mup_same, mu_ng, mu_ni, mu_xi, mu_xt, cq_fr, rn_fr, mrs_fr, inn_fr, cpr_fr, opr_fr, ldd_fr, own_fr, ne_eq, Nat.reduceEqDiff, not_false_eq_true, Int.reduceEq, ↓reduceIte]; exact h.hc
  · simp only [mup_same, mu_ng, mu_ni, mu_xi, mu_xt, cq_fr, rn_fr, mrs_fr, inn_fr, cpr_fr, opr_fr, ldd_fr, own_fr, ne_eq, Nat.reduceEqDiff, not_false_eq_true, Int.reduceEq, ↓reduceIte]; exact h.hd
  · simp only [mup_same, mu_ng, mu_ni, mu_xi, mu_xt, cq_fr, rn_fr, mrs_fr, inn_fr, cpr_fr, opr_fr, ldd_fr, own_fr, ne_eq, Nat.reduceEqDiff, not_false_eq_true, Int.reduceEq, ↓reduceIte]; exact h.hs
  · simp only [mup_same, mu_ng, mu_ni, mu_xi, mu_xt, cq_fr, rn_fr, mrs_fr, inn_fr, cpr_fr, opr_fr, ldd_fr, own_fr, ne_eq, Nat.reduceEqDiff, not_false_eq_true, Int.reduceEq, ↓reduceIte]; exact h.ho
  · simp only [mup_same, mu_ng, mu_ni, mu_xi, mu_xt, cq_fr, rn_fr, mrs_fr, inn_fr, cpr_fr, opr_fr, ldd_fr, own_fr, ne_eq, Nat.reduceEqDiff, not_false_eq_true, Int.reduceEq, ↓reduceIte]; exact h.bc
  · simp only [mup_same, mu_ng, mu_ni, mu_xi, mu_xt, cq_fr, rn_fr, mrs_fr, inn_fr, cpr_fr, opr_fr, ldd_fr, own_fr, ne_eq, Nat.reduceEqDiff, not_false_eq_true, Int.reduceEq, ↓reduceIte]; exact h.bg
  · simp only [mup_same, mu_ng, mu_ni, mu_xi, mu_xt, cq_fr, rn_fr, mrs_fr, inn_fr, cpr_fr, opr_fr, ldd_fr, own_fr, ne_eq, Nat.reduceEqDiff, not_false_eq_true, Int.reduceEq, ↓reduceIte]; exact h.bo
  · simp only [mup_same, mu_ng, mu_ni, mu_xi, mu_xt, cq_fr, rn_fr, mrs_fr, inn_fr, cpr_fr, opr_fr, ldd_fr, own_fr, ne_eq, Nat.reduceEqDiff, not_false_eq_true, Int.reduceEq, ↓reduceIte]; exact h.bi
  · simp only [mup_same, mu_ng, mu_ni, mu_xi, mu_xt, cq_fr, rn_fr, mrs_fr, inn_fr, cpr_fr, opr_fr, ldd_fr, own_fr, ne_eq, Nat.reduceEqDiff, not_false_eq_true, Int.reduceEq, ↓reduceIte]; exact h.ca
  · simp only [mup_same, mu_ng, mu_ni, mu_xi, mu_xt, cq_fr, rn_fr, mrs_fr, inn_fr, cpr_fr, opr_fr, ldd_fr, own_fr, ne_eq, Nat.reduceEqDiff, not_false_eq_true, Int.reduceEq, ↓reduceIte]; exact h.st
  · simp only [mup_same, mu_ng, mu_ni, mu_xi, mu_xt, cq_fr, rn_fr, mrs_fr, inn_fr, cpr_fr, opr_fr, ldd_fr, own_fr, ne_eq, Nat.reduceEqDiff, not_false_eq_true, Int.reduceEq, ↓reduceIte]; exact h.co
  · exact h.ko
  · simp only [mup_same, mu_ng, mu_ni, mu_xi, mu_xt, cq_fr, rn_fr, mrs_fr, inn_fr, cpr_fr, opr_fr, ldd_fr, own_fr, ne_eq, Nat.reduceEqDiff, not_false_eq_true, Int.reduceEq, ↓reduceIte]; exact h.wg
  · simp only [mup_same, mu_ng, mu_ni, mu_xi, mu_xt, cq_fr, rn_fr, mrs_fr, inn_fr, cpr_fr, opr_fr, ldd_fr, own_fr, ne_eq, Nat.reduceEqDiff, not_false_eq_true, Int.reduceEq, ↓reduceIte]; exact h.au
  · simp only [mup_same, mu_ng, mu_ni, mu_xi, mu_xt, cq_fr, rn_fr, mrs_fr, inn_fr, cpr_fr, opr_fr, ldd_fr, own_fr, ne_eq, Nat.reduceEqDiff, not_false_eq_true, Int.reduceEq, ↓reduceIte]; exact h.ad
  · simp only [mup_same, mu_ng, mu_ni, mu_xi, mu_xt, cq_fr, rn_fr, mrs_fr, inn_fr, cpr_fr, opr_fr, ldd_fr, own_fr, ne_eq, Nat.reduceEqDiff, not_false_eq_true, Int.reduceEq, ↓reduceIte]; exact h.ee
  · exact h.of
  · simp only [mup_same, mu_ng, mu_ni, mu_xi, mu_xt, cq_fr, rn_fr, mrs_fr, inn_fr, cpr_fr, opr_fr, ldd_fr, own_fr, ne_eq, Nat.reduceEqDiff, not_false_eq_true, Int.reduceEq, ↓reduceIte]; exact h.rx
theorem ig_4 {n : Int} {A B : AMem} (h : RL n A B) (v : Int) : RL n (mup A 1 0 1 v) B := by
  have pl : PL (mup A 1 0 1 v) B := by
    have z := h.pl
    unfold PL at z ⊢
    simp only [mup_same, mu_ng, mu_ni, mu_xi, mu_xt, cq_fr, rn_fr, mrs_fr, inn_fr, cpr_fr, opr_fr, ldd_fr, own_fr, ne_eq, Nat.reduceEqDiff, not_false_eq_true, Int.reduceEq, ↓reduceIte]
    exact z
  refine RL.mk pl h.sb ?_ ?_ ?_ ?_ ?_ ?_ ?_ ?_ ?_ ?_ ?_ ?_ ?_ ?_ ?_ ?_ ?_ ?_ ?_ ?_ ?_ ?_ ?_ ?_ ?_ ?_ ?_ ?_ ?_
  · simp only [mup_same, mu_ng, mu_ni, mu_xi, mu_xt, cq_fr, rn_fr, mrs_fr, inn_fr, cpr_fr, opr_fr, ldd_fr, own_fr, ne_eq, Nat.reduceEqDiff, not_false_eq_true, Int.reduceEq, ↓reduceIte]; exact h.on
  · simp only [mup_same, mu_ng, mu_ni, mu_xi, mu_xt, cq_fr, rn_fr, mrs_fr, inn_fr, cpr_fr, opr_fr, ldd_fr, own_fr, ne_eq, Nat.reduceEqDiff, not_false_eq_true, Int.reduceEq, ↓reduceIte]; exact h.sh
  · simp only [mup_same, mu_ng, mu_ni, mu_xi, mu_xt, cq_fr, rn_fr, mrs_fr, inn_fr, cpr_fr, opr_fr, ldd_fr, own_fr, ne_eq, Nat.reduceEqDiff, not_false_eq_true, Int.reduceEq, ↓reduceIte]; exact h.no
  · simp only [mup_same, mu_ng, mu_ni, mu_xi, mu_xt, cq_fr, rn_fr, mrs_fr, inn_fr, cpr_fr, opr_fr, ldd_fr, own_fr, ne_eq, Nat.reduceEqDiff, not_false_eq_true, Int.reduceEq, ↓reduceIte]; exact h.na
  · simp only [mup_same, mu_ng, mu_ni, mu_xi, mu_xt, cq_fr, rn_fr, mrs_fr, inn_fr, cpr_fr, opr_fr, ldd_fr, own_fr, ne_eq, Nat.reduceEqDiff, not_false_eq_true, Int.reduceEq, ↓reduceIte]; exact h.bt
  · simp only [mup_same, mu_ng, mu_ni, mu_xi, mu_xt, cq_fr, rn_fr, mrs_fr, inn_fr, cpr_fr, opr_fr, ldd_fr, own_fr, ne_eq, Nat.reduceEqDiff, not_false_eq_true, Int.reduceEq, ↓reduceIte]; exact h.cu
  · simp only [mup_same, mu_ng, mu_ni, mu_xi, mu_xt, cq_fr, rn_fr, mrs_fr, inn_fr, cpr_fr, opr_fr, ldd_fr, own_fr, ne_eq, Nat.reduceEqDiff, not_false_eq_true, Int.reduceEq, ↓reduceIte]; exact h.rq
  · simp only [mup_same, mu_ng, mu_ni, mu_xi, mu_xt, cq_fr, rn_fr, mrs_fr, inn_fr, cpr_fr, opr_fr, ldd_fr, own_fr, ne_eq, Nat.reduceEqDiff, not_false_eq_true, Int.reduceEq, ↓reduceIte]; exact h.wa
  · simp only [mup_same, mu_ng, mu_ni, mu_xi, mu_xt, cq_fr, rn_fr, mrs_fr, inn_fr, cpr_fr, opr_fr, ldd_fr, own_fr, ne_eq, Nat.reduceEqDiff, not_false_eq_true, Int.reduceEq, ↓reduceIte]; exact h.wf
  · simp only [mup_same, mu_ng, mu_ni, mu_xi, mu_xt, cq_fr, rn_fr, mrs_fr, inn_fr, cpr_fr, opr_fr, ldd_fr, own_fr, ne_eq, Nat.reduceEqDiff, not_false_eq_true, Int.reduceEq, ↓reduceIte]; exact h.hi
  · simp only [mup_same, mu_ng, mu_ni, mu_xi, mu_xt, cq_fr, rn_fr, mrs_fr, inn_fr, cpr_fr, opr_fr, ldd_fr, own_fr, ne_eq, Nat.reduceEqDiff, not_false_eq_true, Int.reduceEq, ↓reduceIte]; exact h.hx
  · simp only [mup_same, mu_ng, mu_ni, mu_xi, mu_xt, cq_fr, rn_fr, mrs_fr, inn_fr, cpr_fr, opr_fr, ldd_fr, own_fr, ne_eq, Nat.reduceEqDiff, not_false_eq_true, Int.reduceEq, ↓reduceIte]; exact h.hc
  · simp only [mup_same, mu_ng, mu_ni, mu_xi, mu_xt, cq_fr, rn_fr, mrs_fr, inn_fr, cpr_fr, opr_fr, ldd_fr, own_fr, ne_eq, Nat.reduceEqDiff, not_false_eq_true, Int.reduceEq, ↓reduceIte]; exact h.hd
  · simp only [mup_same, mu_ng, mu_ni, mu_xi, mu_xt, cq_fr, rn_fr, mrs_fr, inn_fr, cpr_fr, opr_fr, ldd_fr, own_fr, ne_eq, Nat.reduceEqDiff, not_false_eq_true, Int.reduceEq, ↓reduceIte]; exact h.hs
  · simp only [mup_same, mu_ng, mu_ni, mu_xi, mu_xt, cq_fr, rn_fr, mrs_fr, inn_fr, cpr_fr, opr_fr, ldd_fr, own_fr, ne_eq, Nat.reduceEqDiff, not_false_eq_true, Int.reduceEq, ↓reduceIte]; exact h.ho
  · simp only [mup_same, mu_ng, mu_ni, mu_xi, mu_xt, cq_fr, rn_fr, mrs_fr, inn_fr, cpr_fr, opr_fr, ldd_fr, own_fr, ne_eq, Nat.reduceEqDiff, not_false_eq_true, Int.reduceEq, ↓reduceIte]; exact h.bc
  · simp only [mup_same, mu_ng, mu_ni, mu_xi, mu_xt, cq_fr, rn_fr, mrs_fr, inn_fr, cpr_fr, opr_fr, ldd_fr, own_fr, ne_eq, Nat.reduceEqDiff, not_false_eq_true, Int.reduceEq, ↓reduceIte]; exact h.bg
  · simp only [mup_same, mu_ng, mu_ni, mu_xi, mu_xt, cq_fr, rn_fr, mrs_fr, inn_fr, cpr_fr, opr_fr, ldd_fr, own_fr, ne_eq, Nat.reduceEqDiff, not_false_eq_true, Int.reduceEq, ↓reduceIte]; exact h.bo
  · simp only [mup_same, mu_ng, mu_ni, mu_xi, mu_xt, cq_fr, rn_fr, mrs_fr, inn_fr, cpr_fr, opr_fr, ldd_fr, own_fr, ne_eq, Nat.reduceEqDiff, not_false_eq_true, Int.reduceEq, ↓reduceIte]; exact h.bi
  · simp only [mup_same, mu_ng, mu_ni, mu_xi, mu_xt, cq_fr, rn_fr, mrs_fr, inn_fr, cpr_fr, opr_fr, ldd_fr, own_fr, ne_eq, Nat.reduceEqDiff, not_false_eq_true, Int.reduceEq, ↓reduceIte]; exact h.ca
  · simp only [mup_same, mu_ng, mu_ni, mu_xi, mu_xt, cq_fr, rn_fr, mrs_fr, inn_fr, cpr_fr, opr_fr, ldd_fr, own_fr, ne_eq, Nat.reduceEqDiff, not_false_eq_true, Int.reduceEq, ↓reduceIte]; exact h.st
  · simp only [mup_same, mu_ng, mu_ni, mu_xi, mu_xt, cq_fr, rn_fr, mrs_fr, inn_fr, cpr_fr, opr_fr, ldd_fr, own_fr, ne_eq, Nat.reduceEqDiff, not_false_eq_true, Int.reduceEq, ↓reduceIte]; exact h.co
  · exact h.ko
  · simp only [mup_same, mu_ng, mu_ni, mu_xi, mu_xt, cq_fr, rn_fr, mrs_fr, inn_fr, cpr_fr, opr_fr, ldd_fr, own_fr, ne_eq, Nat.reduceEqDiff, not_false_eq_true, Int.reduceEq, ↓reduceIte]; exact h.wg
  · simp only [mup_same, mu_ng, mu_ni, mu_xi, mu_xt, cq_fr, rn_fr, mrs_fr, inn_fr, cpr_fr, opr_fr, ldd_fr, own_fr, ne_eq, Nat.reduceEqDiff, not_false_eq_true, Int.reduceEq, ↓reduceIte]; exact h.au
  · simp only [mup_same, mu_ng, mu_ni, mu_xi, mu_xt, cq_fr, rn_fr, mrs_fr, inn_fr, cpr_fr, opr_fr, ldd_fr, own_fr, ne_eq, Nat.reduceEqDiff, not_false_eq_true, Int.reduceEq, ↓reduceIte]; exact h.ad
  · simp only [mup_same, mu_ng, mu_ni, mu_xi, mu_xt, cq_fr, rn_fr, mrs_fr, inn_fr, cpr_fr, opr_fr, ldd_fr, own_fr, ne_eq, Nat.reduceEqDiff, not_false_eq_true, Int.reduceEq, ↓reduceIte]; exact h.ee
  · exact h.of
  · simp only [mup_same, mu_ng, mu_ni, mu_xi, mu_xt, cq_fr, rn_fr, mrs_fr, inn_fr, cpr_fr, opr_fr, ldd_fr, own_fr, ne_eq, Nat.reduceEqDiff, not_false_eq_true, Int.reduceEq, ↓reduceIte]; exact h.rx
theorem kpf_rl {n : Int} {A B : AMem} (h : RL n A B) (w : Int) : ∀ k : Nat, RL n (kpf A w k) B
  | 0 => h
  | k + 1 => ig_4 (ig_3 (kpf_rl h w k) _ _) _
theorem fdm_rl {n : Int} {A B : AMem} (h : RL n A B) (a b c d e : Int) : ∀ k : Nat, RL n A (fdm B a b c d e k)
  | 0 => h
  | k + 1 => ig_2 (ig_1 (fdm_rl h a b c d e k) _ _) _
theorem kcf_cg {A A' : AMem} (h8 : ∀ t i, A' 8 t i = A 8 t i) (hh : ∀ t i, A' 65587 t i = A 65587 t i) (hc : ∀ t i, A' 65579 t i = A 65579 t i) (w : Int) : ∀ k : Nat, kcf A' w k = kcf A w k
  | 0 => h8 _ _
  | k + 1 => by
    unfold kcf
    rw [kcf_cg h8 hh hc w k, hh, hc]
theorem kcp_cg {A A' : AMem} (h8 : ∀ t i, A' 8 t i = A 8 t i) (hh : ∀ t i, A' 65587 t i = A 65587 t i) (hc : ∀ t i, A' 65579 t i = A 65579 t i) (w : Int) : kcp A' w = kcp A w := by
  unfold kcp kch
  simp only [h8, hc, kcf_cg h8 hh hc]
theorem kgf_cg {A A' : AMem} (h8 : ∀ t i, A' 8 t i = A 8 t i) (g : Int) : ∀ k : Nat, kgf A' g k = kgf A g k
  | 0 => rfl
  | k + 1 => by
    unfold kgf
    rw [kgf_cg h8 g k, h8, h8]
theorem Std_cg {A A' : AMem} (h6 : ∀ t i, A' 6 t i = A 6 t i) (h7 : ∀ t i, A' 7 t i = A 7 t i) (h8 : ∀ t i, A' 8 t i = A 8 t i) (hh : ∀ t i, A' 65587 t i = A 65587 t i) (hc : ∀ t i, A' 65579 t i = A 65579 t i) (hr : ∀ t i, A' 786481 t i = A 786481 t i) (ht : ∀ t i, A' 14370 t i = A 14370 t i) (hb : ∀ t i, A' 32815 t i = A 32815 t i) (s : Std A) : Std A' := by
  have k1 : kw A' = kw A := by unfold kw; simp only [h6, hb]
  have k2 : kgc A' = kgc A := by unfold kgc; rw [k1, kcp_cg h8 hh hc, kgf_cg h8, ht]
  have k3 : ktr A' = ktr A := by unfold ktr; simp only [h7, hr]
  unfold Std kdu at *
  simp only [h6, h7, h8, k2, k3, kcp_cg h8 hh hc]
  exact s
theorem c_feed {n : Int} {M : AMem} (h : INV n M M) (hn : n + 4000000 < 2146000000) (a b c d e : Int) : ∃ (v : Int) (M1 M2 : AMem), Runs 114 [aR 1 0, aI a, aI b, aI c, aI d, aI e] M (fun r M' => r = some (aI v) ∧ M' = M1) ∧ Runs 3 [aR 11 0, aI a, aI b, aI c, aI d, aI e] M1 (fun r M' => r = some (aI v) ∧ M' = M2) ∧ INV (n + 3200000) M2 M2 := by
  have rl := h.1
  have rt := rl_th rl
  have tp := h.2.2.1
  have e1 : (if 3980 < (M 1 0 1) then M else kfd M a b c d e) = jn (if 3980 < (M 1 0 1) then M else kfd M a b c d e) M := by
    have e : (if 3980 < ((jn M M) 1 0 1) then jn M M else kfd (jn M M) a b c d e) = jn (if 3980 < (M 1 0 1) then M else kfd M a b c d e) M := by simp only [kfd_j, jc_1, jn_ic]
    rw [jn_self] at e
    exact e
  have e2 : jn (if 3980 < (M 1 0 1) then M else kfd M a b c d e) (th M) = th (if 3980 < (M 1 0 1) then M else kfd M a b c d e) := by
    have e : th (jn (if 3980 < (M 1 0 1) then M else kfd M a b c d e) M) = jn (if 3980 < (M 1 0 1) then M else kfd M a b c d e) (th M) := by simp only [th_j]
    rw [← e, ← e1]
  have tt : ((th M) 11 0 2) = (M 11 0 2) := by simp only [mup_same, mu_ng, mu_ni, mu_xi, mu_xt, cq_fr, rn_fr, mrs_fr, inn_fr, cpr_fr, opr_fr, ldd_fr, own_fr, ne_eq, Nat.reduceEqDiff, not_false_eq_true, Int.reduceEq, ↓reduceIte, th]
  have k := R_K_feed a b c d e M (rl.cB (by omega)) (rl.kA h.2.1) (by rw [tp.1]; exact tp.2.1)
  have r := R_feed a b c d e (if 3980 < (M 1 0 1) then M else kfd M a b c d e) (jn (if 3980 < (M 1 0 1) then M else kfd M a b c d e) (th M)) e2 (by simp only [jr_11]; rw [tt]; exact tp.2.1)
  simp only [fdm_j, jr_11, jn_ir, tt] at r
  rw [tp.1] at k r
  refine ⟨_, _, _, k, r, ?_⟩
  rw [INV_jn]
  by_cases z : 3980 < (M 11 0 2)
  · rw [if_pos z, if_pos z]
    exact (h.go rt h.2.1 (frC.rf M) (g_th (frR.rf M)) (o_th (frO.rf M))).mono (by omega)
  · rw [if_neg z, if_neg z]
    have r1 : RL n (kfd M a b c d e) (fdm (th M) a b c d e 20) := fdm_rl (kpf_rl (kpf_rl (kpf_rl (kpf_rl (kpf_rl rt a 4) b 4) c 4) d 4) e 4) a b c d e 20
    have o := fun {g : Nat} (h1 : g ≠ 1) (h2 : g ≠ 8193300) => kfd_o M a b c d e h1 h2
    have q : ∀ k : Nat, ∀ (g : Nat) (t i : Int), g ≠ 8193084 → ¬ (g = 11 ∧ i = 2) → fdm (th M) a b c d e k g t i = th M g t i := fun k => by
      induction k with
      | zero => intro g t i _ _; rfl
      | succ k ih =>
        intro g t i h1 h2
        show (mup (mup (fdm (th M) a b c d e k) 8193084 0 _ _) 11 0 2 _) g t i = _
        rw [mup_other (fun z => h2 ⟨z.1, z.2.2⟩), mu_ng h1, ih g t i h1 h2]
    have q2 : ∀ (g : Nat) (t i : Int), g ≠ 8193084 → ¬ (g = 11 ∧ i = 2) → ¬ (g = 11 ∧ i = 0) → fdm (th M) a b c d e 20 g t i = M g t i := fun g t i h1 h2 h3 => by
      rw [q 20 g t i h1 h2]
      unfold th
      rw [mup_other (fun z => h3 ⟨z.1, z.2.2⟩)]
    refine INV.mono (n := n) ⟨r1, Std_cg (o (by decide) (by decide)) (o (by decide) (by decide)) (o (by decide) (by decide)) (o (by decide) (by decide)) (o (by decide) (by decide)) (o (by decide) (by decide)) (o (by decide) (by decide)) (o (by decide) (by decide)) h.2.1, ⟨?_, ?_, fun i i0 i1 => ?_⟩, ?_, ?_⟩ (by omega)
    · rw [kfd_t, fdm_t, tt, tp.1]
      rfl
    · rw [fdm_t, tt]
      have := tp.2.1
      omega
    · rw [fdm_t, tt] at i1
      rw [kfd_x, fdm_x, tt, tp.1]
      by_cases y : (M 11 0 2) ≤ i ∧ i < (M 11 0 2) + 20
      · rw [if_pos y, if_pos (by omega)]
        unfold fby
        rw [show (((i - (M 11 0 2)).toNat : Nat) : Int) = i - (M 11 0 2) by omega]
        exact byt_eq _ _ (by omega) (by omega)
      · rw [if_neg y, if_neg (by omega)]
        have te : ((th M) 8193084 0 (i)) = (M 8193084 0 (i)) := by simp only [mup_same, mu_ng, mu_ni, mu_xi, mu_xt, cq_fr, rn_fr, mrs_fr, inn_fr, cpr_fr, opr_fr, ldd_fr, own_fr, ne_eq, Nat.reduceEqDiff, not_false_eq_true, Int.reduceEq, ↓reduceIte, th]
        rw [te]
        exact tp.2.2 i i0 (by omega)
    · unfold FLR OM
      rw [o (by decide) (by decide), o (by decide) (by decide), o (by decide) (by decide), o (by decide) (by decide), o (by decide) (by decide), o (by decide) (by decide), q2 11 0 50 (by decide) (by decide) (by decide), q2 11 0 51 (by decide) (by decide) (by decide), q2 11 0 13 (by decide) (by decide) (by decide), q2 11 0 14 (by decide) (by decide) (by decide)]
      exact h.2.2.2.1
    · have nf : ∀ s i (k : Nat) (w : Nat), npk (fdm (th M) a b c d e 20) s i k w = npk M s i k w := fun s i k w => by
        induction w with
        | zero => rfl
        | succ w ih =>
          unfold npk nby
          rw [ih, q2 917578 _ _ (by decide) (by omega) (by omega), q2 917577 _ _ (by decide) (by omega) (by omega), q2 8193095 _ _ (by decide) (by omega) (by omega)]
      have mf : mrs (fdm (th M) a b c d e 20) = mrs M := by unfold mrs; rw [q2 14408 0 2 (by decide) (by omega) (by omega)]
      intro s i zz
      have z2 : thg M s i := by
        unfold thg at zz ⊢
        rw [mf, q2 14408 0 s (by decide) (by omega) (by omega)] at zz
        exact zz
      have x := h.2.2.2.2 s i z2
      rw [nf, nf, o (by decide) (by decide), o (by decide) (by decide), q2 917578 _ _ (by decide) (by omega) (by omega), q2 917577 _ _ (by decide) (by omega) (by omega)]
      exact x
