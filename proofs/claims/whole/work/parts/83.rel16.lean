/-! ===== bits; the kernel starts (by program: wip/whole/gen/mk83.py) ===== -/
theorem shA32 : ∀ k : Fin 32, ((Int32.ofInt (k.val : Int) &&& 31).toBitVec.smod 32#32).toNat = k.val := by decide
theorem shU32 : ∀ k : Fin 32, (((Int32.ofInt (k.val : Int)).toUInt32 &&& Int32.toUInt32 31).toBitVec % 32#32).toNat = k.val := by decide
theorem bit_k (x : Int) (k : Fin 32) : iAnd (iUshr x k.val) 1 = iAnd (iShr x k.val) 1 ∧ (iAnd (iShr x k.val) 1 = 0 ∨ iAnd (iShr x k.val) 1 = 1) := by
  have e1 : (Int32.ofInt x >>> (Int32.ofInt (k.val : Int) &&& 31)).toBitVec = (Int32.ofInt x).toBitVec.sshiftRight k.val := by
    rw [Int32.toBitVec_shiftRight, BitVec.sshiftRight_eq']
    exact congrArg (fun z => (Int32.ofInt x).toBitVec.sshiftRight z) (shA32 k)
  have e2 : ((Int32.ofInt x).toUInt32 >>> ((Int32.ofInt (k.val : Int)).toUInt32 &&& Int32.toUInt32 31)).toInt32.toBitVec = (Int32.ofInt x).toBitVec >>> k.val := by
    show (Int32.ofInt x).toBitVec >>> (((Int32.ofInt (k.val : Int)).toUInt32 &&& Int32.toUInt32 31).toBitVec % 32#32) = _
    rw [BitVec.ushiftRight_eq', shU32 k]
  have hk := k.isLt
  have one : ∀ i, ¬ i = 0 → (Int32.ofInt 1).toBitVec.getLsbD i = false := fun i hi => by
    show (1#32).getLsbD i = false
    rw [BitVec.getLsbD_one]
    simp [hi]
  have eq : ((Int32.ofInt x).toUInt32 >>> ((Int32.ofInt (k.val : Int)).toUInt32 &&& Int32.toUInt32 31)).toInt32 &&& Int32.ofInt 1 = (Int32.ofInt x >>> (Int32.ofInt (k.val : Int) &&& 31)) &&& Int32.ofInt 1 := by
    apply Int32.toBitVec_inj.mp
    apply BitVec.eq_of_getLsbD_eq
    intro i hi
    rw [Int32.toBitVec_and, Int32.toBitVec_and, BitVec.getLsbD_and, BitVec.getLsbD_and]
    by_cases c : i = 0
    · subst c
      rw [e1, e2, BitVec.getLsbD_sshiftRight, BitVec.getLsbD_ushiftRight]
      simp [hk]
    · rw [one i c, Bool.and_false, Bool.and_false]
  have val : ∀ y : Int32, (y &&& Int32.ofInt 1).toInt = 0 ∨ (y &&& Int32.ofInt 1).toInt = 1 := fun y => by
    cases hb : y.toBitVec.getLsbD 0
    · left
      have : y &&& Int32.ofInt 1 = 0 := by
        apply Int32.toBitVec_inj.mp
        apply BitVec.eq_of_getLsbD_eq
        intro i hi
        rw [Int32.toBitVec_and, BitVec.getLsbD_and]
        by_cases c : i = 0
        · subst c
          rw [hb, Bool.false_and]
          rfl
        · rw [one i c, Bool.and_false]
          show false = (0#32).getLsbD i
          simp
      rw [this]
      rfl
    · right
      have : y &&& Int32.ofInt 1 = 1 := by
        apply Int32.toBitVec_inj.mp
        apply BitVec.eq_of_getLsbD_eq
        intro i hi
        rw [Int32.toBitVec_and, BitVec.getLsbD_and]
        by_cases c : i = 0
        · subst c
          rw [hb, Bool.true_and]
          rfl
        · rw [one i c, Bool.and_false]
          show false = (1#32).getLsbD i
          rw [BitVec.getLsbD_one]
          simp [c]
      rw [this]
      rfl
  unfold iAnd iUshr iShr
  rw [i32_of, i32_of, eq]
  exact ⟨rfl, val _⟩
theorem bit_m (x m : Int) (m0 : 0 ≤ m) (m1 : m < 32) : (iAnd (iUshr x m) 1 = 0 ↔ ¬ iAnd (iShr x m) 1 = 1) ∧ (iAnd (iShr x m) 1 = 0 ∨ iAnd (iShr x m) 1 = 1) := by
  have h := bit_k x ⟨m.toNat, by omega⟩
  have e : (((⟨m.toNat, by omega⟩ : Fin 32).val : Nat) : Int) = m := by show ((m.toNat : Nat) : Int) = m; omega
  rw [e] at h
  rw [h.1]
  refine ⟨?_, h.2⟩
  rcases h.2 with z | z
  · rw [z]; decide
  · rw [z]; decide
theorem bit_0 (m : Int) (m0 : 0 ≤ m) (m1 : m < 32) : ¬ iAnd (iShr 0 m) 1 = 1 := by
  have h : ∀ k : Fin 32, ¬ iAnd (iShr 0 (k.val : Int)) 1 = 1 := by decide
  have := h ⟨m.toNat, by omega⟩
  rw [show (((⟨m.toNat, by omega⟩ : Fin 32).val : Nat) : Int) = m by show ((m.toNat : Nat) : Int) = m; omega] at this
  exact this
def onA (A : AMem) (m : Int) : AMem := kfn (mup (mup A 6 0 2 (1)) 6 0 3 (m))
theorem kz3_r (M : AMem) (g : Nat) (t i : Int) : ∀ n : Nat, kz3 M n g t i = if g = 9 ∧ 0 ≤ t ∧ t < n ∧ (i = 3 ∨ i = 4) then 0 else M g t i
  | 0 => by rw [if_neg (by omega)]; rfl
  | n + 1 => by
    show czr (kz3 M n) n g t i = _
    simp only [czr, mup]
    rw [kz3_r M g t i n]
    repeat' split
    all_goals first | rfl | omega
def onB (B : AMem) (m : Int) : AMem := (mup (mup (mup (mup (mup (rz B 16) 11 0 73 (0)) 11 0 74 (0)) 11 0 75 (0)) 11 0 50 (1)) 11 0 51 (m))
theorem rz_o {B : AMem} {g : Nat} {t i : Int} (h1 : g ≠ 32876) (h2 : g ≠ 32877) : rz B 16 g t i = B g t i := by
  unfold rz
  rw [fil_n h2, fil_n h1]
theorem rz_1 {B : AMem} {c : Int} (c0 : 0 ≤ c) (c1 : c < 16) : ((rz B 16) 32876 0 (c)) = 0 ∧ ((rz B 16) 32877 0 (c)) = 0 := by
  unfold rz
  rw [fil_n (by decide), fil_x, if_pos ⟨c0, c1⟩, fil_x, if_pos ⟨c0, c1⟩]
  exact ⟨rfl, rfl⟩
def kzA (A : AMem) (m : Int) (k : Nat) : AMem := kz3 (onA A m) k
theorem kz_o {A : AMem} {m : Int} {k : Nat} {g : Nat} {t i : Int} (h9 : g ≠ 9) : kzA A m k g t i = onA A m g t i := by
  unfold kzA
  rw [kz3_r, if_neg (fun z => h9 z.1)]
theorem kz_9 {A : AMem} {m : Int} {k : Nat} {t i : Int} (h3 : i ≠ 3) (h4 : i ≠ 4) : kzA A m k 9 t i = A 9 t i := by
  unfold kzA
  rw [kz3_r, if_neg (by omega)]
  unfold onA kfn
  simp only [mup_same, mu_ng, mu_ni, mu_xi, mu_xt, cq_fr, rn_fr, mrs_fr, inn_fr, cpr_fr, opr_fr, ldd_fr, own_fr, ne_eq, Nat.reduceEqDiff, not_false_eq_true, Int.reduceEq, ↓reduceIte]
theorem kz_fr {A : AMem} {m : Int} {k : Nat} : frC A (kzA A m k) := by
  intro g t i d
  unfold kzA
  rw [kz3_r]
  by_cases c : g = 9 ∧ 0 ≤ t ∧ t < k ∧ (i = 3 ∨ i = 4)
  · exfalso
    have e : dynC 9 i = decide (3 ≤ i) := by simp [dynC]
    rw [c.1, e] at d
    simp only [decide_eq_false_iff_not] at d
    omega
  · rw [if_neg c]
    have f : frC A (onA A m) := frC.up rfl (frC.up rfl (frC.up rfl (frC.up rfl (frC.up rfl (frC.rf A)))))
    exact f g t i d
theorem rz_fr {B : AMem} : frR B (rz B 16) := frR.fiE (fun _ => rfl) (frR.fiE (fun _ => rfl) (frR.rf B))
theorem rl_on {n : Int} {A B : AMem} (h : RL n A B) (m : Int) : RL n (kzA A m (B 14408 0 (3)).toNat) (onB B m) := by
  have hm := h.mB
  have m3 : 0 ≤ (B 14408 0 (3)) ∧ (B 14408 0 (3)) ≤ 16 := by unfold MB at hm; omega
  have fc : frC A (kzA A m (B 14408 0 (3)).toNat) := kz_fr
  have fr : frR B (onB B m) := frR.up rfl (frR.up rfl (frR.up rfl (frR.up rfl (frR.up rfl rz_fr))))
  have cqE : ∀ t, cq (onB B m) t 400 = cq B t 400 := fun t => by
    rw [cq_cnt, cq_cnt]
    exact cnt_congr 400 (fun j _ => by simp only [mup_same, mu_ng, mu_ni, mu_xi, mu_xt, cq_fr, rn_fr, mrs_fr, inn_fr, cpr_fr, opr_fr, ldd_fr, own_fr, ne_eq, Nat.reduceEqDiff, not_false_eq_true, Int.reduceEq, ↓reduceIte, onB, rz_o])
  have rnE : rn (onB B m) = rn B := rn_cg (fun q _ _ => by simp only [mup_same, mu_ng, mu_ni, mu_xi, mu_xt, cq_fr, rn_fr, mrs_fr, inn_fr, cpr_fr, opr_fr, ldd_fr, own_fr, ne_eq, Nat.reduceEqDiff, not_false_eq_true, Int.reduceEq, ↓reduceIte, onB, rz_o])
  have cpE : ∀ w, cpr (onB B m) w = cpr B w := fun w => cpr_cg fr h.mB (fun r _ _ => by simp only [mup_same, mu_ng, mu_ni, mu_xi, mu_xt, cq_fr, rn_fr, mrs_fr, inn_fr, cpr_fr, opr_fr, ldd_fr, own_fr, ne_eq, Nat.reduceEqDiff, not_false_eq_true, Int.reduceEq, ↓reduceIte, onB, rz_o]) (by simp only [mup_same, mu_ng, mu_ni, mu_xi, mu_xt, cq_fr, rn_fr, mrs_fr, inn_fr, cpr_fr, opr_fr, ldd_fr, own_fr, ne_eq, Nat.reduceEqDiff, not_false_eq_true, Int.reduceEq, ↓reduceIte, onB, rz_o]) (by simp only [mup_same, mu_ng, mu_ni, mu_xi, mu_xt, cq_fr, rn_fr, mrs_fr, inn_fr, cpr_fr, opr_fr, ldd_fr, own_fr, ne_eq, Nat.reduceEqDiff, not_false_eq_true, Int.reduceEq, ↓reduceIte, onB, rz_o])
  have lE : ∀ q, ldd (onB B m) q = ldd B q := fun q => by unfold ldd; simp only [mup_same, mu_ng, mu_ni, mu_xi, mu_xt, cq_fr, rn_fr, mrs_fr, inn_fr, cpr_fr, opr_fr, ldd_fr, own_fr, ne_eq, Nat.reduceEqDiff, not_false_eq_true, Int.reduceEq, ↓reduceIte, onB, rz_o]
  have owE : ∀ q, own (onB B m) q = own B q := fun q => by unfold own; simp only [mup_same, mu_ng, mu_ni, mu_xi, mu_xt, cq_fr, rn_fr, mrs_fr, inn_fr, cpr_fr, opr_fr, ldd_fr, own_fr, ne_eq, Nat.reduceEqDiff, not_false_eq_true, Int.reduceEq, ↓reduceIte, onB, rz_o]
  have sb0 := h.sb
  have hn := h.no
  have hse := h.sb.se
  have sb : SB (onB B m) := by
    unfold SB
    simp only [rnE, cpE, lE, fr.inE, fr.mrE]
    simp only [mup_same, mu_ng, mu_ni, mu_xi, mu_xt, cq_fr, rn_fr, mrs_fr, inn_fr, cpr_fr, opr_fr, ldd_fr, own_fr, ne_eq, Nat.reduceEqDiff, not_false_eq_true, Int.reduceEq, ↓reduceIte, onB, rz_o]
    exact sb0
  refine RL.mk (h.pl.fr fc fr) sb ?_ ?_ ?_ ?_ ?_ ?_ ?_ ?_ ?_ ?_ ?_ ?_ ?_ ?_ ?_ ?_ ?_ ?_ ?_ ?_ ?_ ?_ ?_ ?_ ?_ ?_ ?_ ?_ ?_
  · simp only [mup_same, mu_ng, mu_ni, mu_xi, mu_xt, cq_fr, rn_fr, mrs_fr, inn_fr, cpr_fr, opr_fr, ldd_fr, own_fr, ne_eq, Nat.reduceEqDiff, not_false_eq_true, Int.reduceEq, ↓reduceIte, kz_o, onA, kfn, onB, rz_o]; exact ⟨trivial, trivial⟩
  · simp only [mup_same, mu_ng, mu_ni, mu_xi, mu_xt, cq_fr, rn_fr, mrs_fr, inn_fr, cpr_fr, opr_fr, ldd_fr, own_fr, ne_eq, Nat.reduceEqDiff, not_false_eq_true, Int.reduceEq, ↓reduceIte, kz_o, onA, kfn, onB, rz_o]; exact h.sh
  · simp only [mup_same, mu_ng, mu_ni, mu_xi, mu_xt, cq_fr, rn_fr, mrs_fr, inn_fr, cpr_fr, opr_fr, ldd_fr, own_fr, ne_eq, Nat.reduceEqDiff, not_false_eq_true, Int.reduceEq, ↓reduceIte, kz_o, onA, kfn, onB, rz_o]; exact ⟨trivial, by omega, by omega, hn.2.2.2⟩
  · simp only [mup_same, mu_ng, mu_ni, mu_xi, mu_xt, cq_fr, rn_fr, mrs_fr, inn_fr, cpr_fr, opr_fr, ldd_fr, own_fr, ne_eq, Nat.reduceEqDiff, not_false_eq_true, Int.reduceEq, ↓reduceIte, kz_o, onA, kfn, onB, rz_o]; exact h.na
  · simp only [mup_same, mu_ng, mu_ni, mu_xi, mu_xt, cq_fr, rn_fr, mrs_fr, inn_fr, cpr_fr, opr_fr, ldd_fr, own_fr, ne_eq, Nat.reduceEqDiff, not_false_eq_true, Int.reduceEq, ↓reduceIte, kz_o, onA, kfn, onB, rz_o]; exact ⟨trivial, trivial, trivial, trivial⟩
  · rw [rnE]; simp only [mup_same, mu_ng, mu_ni, mu_xi, mu_xt, cq_fr, rn_fr, mrs_fr, inn_fr, cpr_fr, opr_fr, ldd_fr, own_fr, ne_eq, Nat.reduceEqDiff, not_false_eq_true, Int.reduceEq, ↓reduceIte, kz_o, onA, kfn, onB, rz_o]; exact h.cu
  · simp only [cqE]; simp only [mup_same, mu_ng, mu_ni, mu_xi, mu_xt, cq_fr, rn_fr, mrs_fr, inn_fr, cpr_fr, opr_fr, ldd_fr, own_fr, ne_eq, Nat.reduceEqDiff, not_false_eq_true, Int.reduceEq, ↓reduceIte, kz_o, onA, kfn, onB, rz_o]; exact h.rq
  · simp only [mup_same, mu_ng, mu_ni, mu_xi, mu_xt, cq_fr, rn_fr, mrs_fr, inn_fr, cpr_fr, opr_fr, ldd_fr, own_fr, ne_eq, Nat.reduceEqDiff, not_false_eq_true, Int.reduceEq, ↓reduceIte, kz_o, onA, kfn, onB, rz_o]; exact h.wa
  · simp only [mup_same, mu_ng, mu_ni, mu_xi, mu_xt, cq_fr, rn_fr, mrs_fr, inn_fr, cpr_fr, opr_fr, ldd_fr, own_fr, ne_eq, Nat.reduceEqDiff, not_false_eq_true, Int.reduceEq, ↓reduceIte, kz_o, onA, kfn, onB, rz_o]; exact h.wf
  · simp only [mup_same, mu_ng, mu_ni, mu_xi, mu_xt, cq_fr, rn_fr, mrs_fr, inn_fr, cpr_fr, opr_fr, ldd_fr, own_fr, ne_eq, Nat.reduceEqDiff, not_false_eq_true, Int.reduceEq, ↓reduceIte, kz_o, onA, kfn, onB, rz_o]; exact h.hi
  · simp only [mup_same, mu_ng, mu_ni, mu_xi, mu_xt, cq_fr, rn_fr, mrs_fr, inn_fr, cpr_fr, opr_fr, ldd_fr, own_fr, ne_eq, Nat.reduceEqDiff, not_false_eq_true, Int.reduceEq, ↓reduceIte, kz_o, onA, kfn, onB, rz_o]; exact h.hx
  · simp only [mup_same, mu_ng, mu_ni, mu_xi, mu_xt, cq_fr, rn_fr, mrs_fr, inn_fr, cpr_fr, opr_fr, ldd_fr, own_fr, ne_eq, Nat.reduceEqDiff, not_false_eq_true, Int.reduceEq, ↓reduceIte, kz_o, onA, kfn, onB, rz_o]; exact h.hc
  · simp only [owE]; simp only [mup_same, mu_ng, mu_ni, mu_xi, mu_xt, cq_fr, rn_fr, mrs_fr, inn_fr, cpr_fr, opr_fr, ldd_fr, own_fr, ne_eq, Nat.reduceEqDiff, not_false_eq_true, Int.reduceEq, ↓reduceIte, kz_o, onA, kfn, onB, rz_o]; exact h.hd
  · simp only [mup_same, mu_ng, mu_ni, mu_xi, mu_xt, cq_fr, rn_fr, mrs_fr, inn_fr, cpr_fr, opr_fr, ldd_fr, own_fr, ne_eq, Nat.reduceEqDiff, not_false_eq_true, Int.reduceEq, ↓reduceIte, kz_o, onA, kfn, onB, rz_o]; exact h.hs
  · simp only [owE]; simp only [mup_same, mu_ng, mu_ni, mu_xi, mu_xt, cq_fr, rn_fr, mrs_fr, inn_fr, cpr_fr, opr_fr, ldd_fr, own_fr, ne_eq, Nat.reduceEqDiff, not_false_eq_true, Int.reduceEq, ↓reduceIte, kz_o, onA, kfn, onB, rz_o]; exact h.ho
  · simp only [mup_same, mu_ng, mu_ni, mu_xi, mu_xt, cq_fr, rn_fr, mrs_fr, inn_fr, cpr_fr, opr_fr, ldd_fr, own_fr, ne_eq, Nat.reduceEqDiff, not_false_eq_true, Int.reduceEq, ↓reduceIte, kz_o, onA, kfn, onB, rz_o]; exact h.bc
  · simp only [mup_same, mu_ng, mu_ni, mu_xi, mu_xt, cq_fr, rn_fr, mrs_fr, inn_fr, cpr_fr, opr_fr, ldd_fr, own_fr, ne_eq, Nat.reduceEqDiff, not_false_eq_true, Int.reduceEq, ↓reduceIte, kz_o, onA, kfn, onB, rz_o]; exact h.bg
  · simp only [mup_same, mu_ng, mu_ni, mu_xi, mu_xt, cq_fr, rn_fr, mrs_fr, inn_fr, cpr_fr, opr_fr, ldd_fr, own_fr, ne_eq, Nat.reduceEqDiff, not_false_eq_true, Int.reduceEq, ↓reduceIte, kz_o, onA, kfn, onB, rz_o]; exact h.bo
  · simp only [mup_same, mu_ng, mu_ni, mu_xi, mu_xt, cq_fr, rn_fr, mrs_fr, inn_fr, cpr_fr, opr_fr, ldd_fr, own_fr, ne_eq, Nat.reduceEqDiff, not_false_eq_true, Int.reduceEq, ↓reduceIte, kz_o, onA, kfn, onB, rz_o]; exact h.bi
  · simp only [mup_same, mu_ng, mu_ni, mu_xi, mu_xt, cq_fr, rn_fr, mrs_fr, inn_fr, cpr_fr, opr_fr, ldd_fr, own_fr, ne_eq, Nat.reduceEqDiff, not_false_eq_true, Int.reduceEq, ↓reduceIte, kz_o, onA, kfn, onB, rz_o]; exact h.ca
  · simp only [mup_same, mu_ng, mu_ni, mu_xi, mu_xt, cq_fr, rn_fr, mrs_fr, inn_fr, cpr_fr, opr_fr, ldd_fr, own_fr, ne_eq, Nat.reduceEqDiff, not_false_eq_true, Int.reduceEq, ↓reduceIte, kz_o, onA, kfn, onB, rz_o]; exact h.st
  · intro c c0 c1
    rw [fr 14408 0 3 rfl] at c1
    have ct := h.pl.ct c c0 c1
    have x : ((onB B m) 32876 0 (c)) = 0 ∧ ((onB B m) 32877 0 (c)) = 0 := by
      simp only [mup_same, mu_ng, mu_ni, mu_xi, mu_xt, cq_fr, rn_fr, mrs_fr, inn_fr, cpr_fr, opr_fr, ldd_fr, own_fr, ne_eq, Nat.reduceEqDiff, not_false_eq_true, Int.reduceEq, ↓reduceIte, onB]
      exact rz_1 c0 (by omega)
    rw [x.1, x.2, fr 32846 0 c rfl, fr 32847 0 c rfl]
    unfold kzA
    rw [kz3_r, kz3_r, if_pos (by omega), if_pos (by omega)]
    exact ⟨⟨rfl, by omega, by omega⟩, rfl, by omega, by omega⟩
  · have x := h.ko
    unfold CO at x ⊢
    refine ⟨fun a a0 a1 => ?_, fun c c0 c1 => ?_⟩
    · rw [fr 98393 0 a rfl]; exact x.1 a a0 a1
    · rw [fr 32846 0 c rfl]
      refine ⟨(x.2 c c0 c1).1, ?_⟩
      simp only [mup_same, mu_ng, mu_ni, mu_xi, mu_xt, cq_fr, rn_fr, mrs_fr, inn_fr, cpr_fr, opr_fr, ldd_fr, own_fr, ne_eq, Nat.reduceEqDiff, not_false_eq_true, Int.reduceEq, ↓reduceIte, onB]
      rw [(rz_1 c0 c1).1]
      omega
  · simp only [mup_same, mu_ng, mu_ni, mu_xi, mu_xt, cq_fr, rn_fr, mrs_fr, inn_fr, cpr_fr, opr_fr, ldd_fr, own_fr, ne_eq, Nat.reduceEqDiff, not_false_eq_true, Int.reduceEq, ↓reduceIte, kz_o, kz_9, onA, kfn, onB, rz_o]; exact h.wg
  · simp only [mup_same, mu_ng, mu_ni, mu_xi, mu_xt, cq_fr, rn_fr, mrs_fr, inn_fr, cpr_fr, opr_fr, ldd_fr, own_fr, ne_eq, Nat.reduceEqDiff, not_false_eq_true, Int.reduceEq, ↓reduceIte, kz_o, onA, kfn, onB, rz_o]; exact h.au
  · simp only [mup_same, mu_ng, mu_ni, mu_xi, mu_xt, cq_fr, rn_fr, mrs_fr, inn_fr, cpr_fr, opr_fr, ldd_fr, own_fr, ne_eq, Nat.reduceEqDiff, not_false_eq_true, Int.reduceEq, ↓reduceIte, kz_o, onA, kfn, onB, rz_o]; exact h.ad
  · simp only [mup_same, mu_ng, mu_ni, mu_xi, mu_xt, cq_fr, rn_fr, mrs_fr, inn_fr, cpr_fr, opr_fr, ldd_fr, own_fr, ne_eq, Nat.reduceEqDiff, not_false_eq_true, Int.reduceEq, ↓reduceIte, kz_o, onA, kfn, onB, rz_o]; exact h.ee
  · simp only [mup_same, mu_ng, mu_ni, mu_xi, mu_xt, cq_fr, rn_fr, mrs_fr, inn_fr, cpr_fr, opr_fr, ldd_fr, own_fr, ne_eq, Nat.reduceEqDiff, not_false_eq_true, Int.reduceEq, ↓reduceIte, onB]; exact fun z => absurd z (by decide)
  · simp only [mup_same, mu_ng, mu_ni, mu_xi, mu_xt, cq_fr, rn_fr, mrs_fr, inn_fr, cpr_fr, opr_fr, ldd_fr, own_fr, ne_eq, Nat.reduceEqDiff, not_false_eq_true, Int.reduceEq, ↓reduceIte, kz_o, onA, kfn, onB, rz_o]; exact h.rx
theorem kg1_eq {n : Int} {A B : AMem} (h : RL n A B) (m : Int) : kg1 A m = knt (kzA A m (B 14408 0 (3)).toNat) (70000 + m) := by
  unfold kg1 kzA onA
  rw [h.pl.t3]
  generalize (B 14408 0 (3)).toNat = k
  induction k with
  | zero => rfl
  | succ k ih =>
    show czr (kz3 _ k) k = knt (czr (kz3 _ k) k) _
    rw [ih]
    unfold czr
    rw [knt_c (by decide) (by decide), knt_c (by decide) (by decide)]
theorem rs1_eq (B : AMem) (m : Int) : rs1 B m = nt (onB B m) (70000 + m) := rfl
/-- the tasks of a mode -/
theorem rl_s4 {n : Int} {A B : AMem} (h : RL n A B) (ho : ¬ (B 11 0 50) = 0) (m : Int) (m0 : 0 ≤ m) (m1 : m < 8) (hmo : (A 6 0 3) = m) (hz : ∀ t : Int, 0 ≤ t → t < 48 → (A 8 (t) 7) = 0) : ∀ j : Nat, (j : Int) ≤ (B 14408 0 (4)) → RL (n + j) (ks4 A j) (rs4 B m j) ∧ ((rs4 B m j) 11 0 50) = (B 11 0 50) ∧ (∀ k, ((rs4 B m j) 14408 0 (k)) = (B 14408 0 (k))) ∧ ((ks4 A j) 6 0 3) = m ∧ (∀ t : Int, j ≤ t → t < 48 → ((ks4 A j) 8 (t) 7) = 0)
  | 0, _ => ⟨h.mono (by omega), rfl, fun _ => rfl, hmo, fun t t0 t1 => hz t (by omega) t1⟩
  | j + 1, hj => by
    obtain ⟨r, o, mm, mo, z⟩ := rl_s4 h ho m m0 m1 hmo hz j (by omega)
    have hm := h.mB
    have m4 : 0 ≤ (B 14408 0 (4)) ∧ (B 14408 0 (4)) ≤ 48 := by unfold MB at hm; omega
    have jm : (j : Int) < ((rs4 B m j) 14408 0 (4)) := by rw [mm]; omega
    have e := r.pl.mo j (by omega) jm
    have lm := r.pl.lm j (by omega) jm
    have b := bit_m ((rs4 B m j) 98389 0 (j)) m m0 (by omega)
    have zj := z j (by omega) (by omega)
    have k1 : ks4 A (j + 1) = if iAnd (iUshr ((ks4 A j) 8 (j) 4) ((ks4 A j) 6 0 3)) 1 = 0 then ks4 A j else if ((ks4 A j) 8 (j) 2) ≤ ((ks4 A j) 8 (j) 7) then ks4 A j else kreq (ks4 A j) j := rfl
    have k2 : rs4 B m (j + 1) = if iAnd (iShr ((rs4 B m j) 98389 0 (j)) m) 1 = 1 then rqs (rs4 B m j) j else rs4 B m j := rfl
    rw [k1, k2, mo, e]
    by_cases c : iAnd (iShr ((rs4 B m j) 98389 0 (j)) m) 1 = 1
    · rw [if_pos c, if_neg (fun w => (b.1.mp w) c), if_neg (by omega)]
      refine ⟨(rl_rq r (by rw [o]; exact ho) j (by omega) jm (by omega)).mono (by omega), by simp only [mup_same, mu_ng, mu_ni, mu_xi, mu_xt, cq_fr, rn_fr, mrs_fr, inn_fr, cpr_fr, opr_fr, ldd_fr, own_fr, ne_eq, Nat.reduceEqDiff, not_false_eq_true, Int.reduceEq, ↓reduceIte, rs_oi]; exact o, fun k => by simp only [mup_same, mu_ng, mu_ni, mu_xi, mu_xt, cq_fr, rn_fr, mrs_fr, inn_fr, cpr_fr, opr_fr, ldd_fr, own_fr, ne_eq, Nat.reduceEqDiff, not_false_eq_true, Int.reduceEq, ↓reduceIte, rs_og]; exact mm k, by simp only [mup_same, mu_ng, mu_ni, mu_xi, mu_xt, cq_fr, rn_fr, mrs_fr, inn_fr, cpr_fr, opr_fr, ldd_fr, own_fr, ne_eq, Nat.reduceEqDiff, not_false_eq_true, Int.reduceEq, ↓reduceIte, rq_og]; exact mo, fun t t0 t1 => ?_⟩
      rw [rq_r, if_neg (by omega)]
      exact z t (by omega) t1
    · rw [if_neg c, if_pos (b.1.mpr c)]
      exact ⟨r.mono (by omega), o, mm, mo, fun t t0 t1 => z t (by omega) t1⟩
theorem rl_s6 {n : Int} {A B : AMem} (h : RL n A B) (ho : ¬ (B 11 0 50) = 0) (m : Int) (m0 : 0 ≤ m) (m1 : m < 8) (hmo : (A 6 0 3) = m) : ∀ j : Nat, (j : Int) ≤ (B 14408 0 (6)) → RL n (ks6 A j) (rs6 B m j) ∧ ((rs6 B m j) 11 0 50) = (B 11 0 50) ∧ (∀ k, ((rs6 B m j) 14408 0 (k)) = (B 14408 0 (k))) ∧ ((ks6 A j) 6 0 3) = m
  | 0, _ => ⟨h, rfl, fun _ => rfl, hmo⟩
  | j + 1, hj => by
    obtain ⟨r, o, mm, mo⟩ := rl_s6 h ho m m0 m1 hmo j (by omega)
    have jm : (j : Int) < ((rs6 B m j) 14408 0 (6)) := by rw [mm]; omega
    have am := r.pl.am j (by omega) jm
    have al := (r.pl.al j (by omega) jm).1
    have b := bit_m ((rs6 B m j) 98397 0 (j)) m m0 (by omega)
    have k1 : ks6 A (j + 1) = if iAnd (iUshr ((ks6 A j) 10 (j) 3) ((ks6 A j) 6 0 3)) 1 = 0 then ks6 A j else aus (ks6 A j) j (cvb (ks6 A j) ((ks6 A j) 10 (j) 0) ((ks6 A j) 10 (j) 4)) ((ks6 A j) 10 (j) 5) := rfl
    have k2 : rs6 B m (j + 1) = if iAnd (iShr ((rs6 B m j) 98397 0 (j)) m) 1 = 1 then (mup (mup (mup (rs6 B m j) 98671 0 (j) (1)) 98416 0 (j) ((((rs6 B m j) 32876 0 (((rs6 B m j) 98393 0 (j)))) + ((rs6 B m j) 98398 0 (j))) % (((rs6 B m j) 32846 0 (((rs6 B m j) 98393 0 (j)))) + 1))) 98417 0 (j) (((rs6 B m j) 98399 0 (j)))) else rs6 B m j := rfl
    rw [k1, k2, mo, am.1]
    by_cases c : iAnd (iShr ((rs6 B m j) 98397 0 (j)) m) 1 = 1
    · rw [if_pos c, if_neg (fun w => (b.1.mp w) c)]
      have a3 := am.2.2.2 (fun w => by rw [w] at c; exact bit_0 m m0 (by omega) c)
      have cv := cvb_eq r ((rs6 B m j) 98393 0 (j)) ((rs6 B m j) 98398 0 (j)) al.2.1 al.2.2 (by omega) a3.2.2
      rw [al.1, a3.1, am.2.1, ← cv.1]
      refine ⟨rl_us r (by rw [o]; exact ho) j _ _ (by omega) jm cv.2.1 cv.2.2 am.2.2.1, by simp only [mup_same, mu_ng, mu_ni, mu_xi, mu_xt, cq_fr, rn_fr, mrs_fr, inn_fr, cpr_fr, opr_fr, ldd_fr, own_fr, ne_eq, Nat.reduceEqDiff, not_false_eq_true, Int.reduceEq, ↓reduceIte]; exact o, fun k => by simp only [mup_same, mu_ng, mu_ni, mu_xi, mu_xt, cq_fr, rn_fr, mrs_fr, inn_fr, cpr_fr, opr_fr, ldd_fr, own_fr, ne_eq, Nat.reduceEqDiff, not_false_eq_true, Int.reduceEq, ↓reduceIte]; exact mm k, by simp only [mup_same, mu_ng, mu_ni, mu_xi, mu_xt, cq_fr, rn_fr, mrs_fr, inn_fr, cpr_fr, opr_fr, ldd_fr, own_fr, ne_eq, Nat.reduceEqDiff, not_false_eq_true, Int.reduceEq, ↓reduceIte, aus]; exact mo⟩
    · rw [if_neg c, if_pos (b.1.mpr c)]
      exact ⟨r, o, mm, mo⟩
theorem RL.sH {n : Int} {A B : AMem} (h : RL n A B) (hn : n < 2146000000) : SH B := ⟨h.mB, h.dep, h.wT, h.sM (by omega), (rl_stl h).2.2, by have := h.bt.1; omega⟩
/-- start, before it settles -/
theorem rl_start {n : Int} {A B : AMem} (h : RL n A B) (hn : n + 49 < 2146000000) (hf : (B 11 0 50) = 0) (m : Int) (m0 : 0 ≤ m) (m1 : m < (B 14408 0 (0))) : RL (n + 49) (kgn A m) (rs7 B m) ∧ KG A m ∧ RS B m := by
  have hm := h.mB
  have m4 : (0 ≤ (B 14408 0 (4)) ∧ (B 14408 0 (4)) ≤ 48) ∧ (0 ≤ (B 14408 0 (6)) ∧ (B 14408 0 (6)) ≤ 48) ∧ (0 ≤ (B 14408 0 (3)) ∧ (B 14408 0 (3)) ≤ 16) ∧ (0 ≤ (B 14408 0 (0)) ∧ (B 14408 0 (0)) ≤ 8) := by unfold MB at hm; omega
  have r1 := rl_note (rl_on h m) (70000 + m)
  rw [← kg1_eq h, ← rs1_eq] at r1
  have on1 : ((rs1 B m) 11 0 50) = 1 := by simp only [mup_same, mu_ng, mu_ni, mu_xi, mu_xt, cq_fr, rn_fr, mrs_fr, inn_fr, cpr_fr, opr_fr, ldd_fr, own_fr, ne_eq, Nat.reduceEqDiff, not_false_eq_true, Int.reduceEq, ↓reduceIte, rs1, nt]
  have mm1 : ∀ k, ((rs1 B m) 14408 0 (k)) = (B 14408 0 (k)) := fun k => by simp only [mup_same, mu_ng, mu_ni, mu_xi, mu_xt, cq_fr, rn_fr, mrs_fr, inn_fr, cpr_fr, opr_fr, ldd_fr, own_fr, ne_eq, Nat.reduceEqDiff, not_false_eq_true, Int.reduceEq, ↓reduceIte, rs1, nt, rz_o]
  have mo1 : ((kg1 A m) 6 0 3) = m := by rw [kg1_eq h]; simp only [mup_same, mu_ng, mu_ni, mu_xi, mu_xt, cq_fr, rn_fr, mrs_fr, inn_fr, cpr_fr, opr_fr, ldd_fr, own_fr, ne_eq, Nat.reduceEqDiff, not_false_eq_true, Int.reduceEq, ↓reduceIte, knt, kz_o, onA, kfn]
  have rq1 : ∀ t : Int, 0 ≤ t → t < 48 → ((kg1 A m) 8 (t) 7) = 0 := fun t t0 t1 => by
    rw [kg1_eq h]
    simp only [mup_same, mu_ng, mu_ni, mu_xi, mu_xt, cq_fr, rn_fr, mrs_fr, inn_fr, cpr_fr, opr_fr, ldd_fr, own_fr, ne_eq, Nat.reduceEqDiff, not_false_eq_true, Int.reduceEq, ↓reduceIte, knt, kz_o, onA, kfn]
    rw [(h.rq t t0 t1).1, cq_cnt]
    exact cnt_0 400 (fun j hj => by
      simp only [decide_eq_false_iff_not]
      rintro ⟨a, _⟩
      exact a ((h.of hf).1 j (by omega) (by omega)))
  have c4 := rl_s4 r1 (by omega) m m0 (by omega) mo1 rq1
  obtain ⟨a1, a2, a3, a4, _⟩ := c4 (B 14408 0 (4)).toNat (by rw [mm1]; omega)
  have e5 : kg2 A m = ks4 (kg1 A m) (B 14408 0 (4)).toNat := by unfold kg2; rw [h.pl.t4]
  have e6 : rs5 B m = rs4 (rs1 B m) m (B 14408 0 (4)).toNat := rfl
  rw [← e5, ← e6] at a1
  rw [← e6] at a2 a3
  rw [← e5] at a4
  have c6 := rl_s6 a1 (by rw [a2]; omega) m m0 (by omega) a4
  have m6 : ((rs5 B m) 14408 0 (6)) = (B 14408 0 (6)) := by rw [a3, mm1]
  obtain ⟨b1, b2, b3, b4⟩ := c6 (B 14408 0 (6)).toNat (by rw [m6]; omega)
  have e7 : kgn A m = ks6 (kg2 A m) (B 14408 0 (6)).toNat := by unfold kgn; rw [h.pl.t6]
  have e8 : rs7 B m = rs6 (rs5 B m) m (B 14408 0 (6)).toNat := rfl
  rw [← e7, ← e8] at b1
  refine ⟨b1.mono (by omega), ⟨h.cB (by omega), by omega, fun j hj => ?_, fun j hj hb => ?_⟩, ⟨fun j hj hb => ?_, fun j hj hb => ?_, b1.sH (by omega)⟩⟩
  · rw [h.pl.t4] at hj
    obtain ⟨x1, x2, x3, _⟩ := c4 j (by rw [mm1]; omega)
    exact x1.rQ j (by omega) (by rw [x3, mm1]; exact hj)
  · rw [h.pl.t6] at hj
    obtain ⟨x1, x2, x3, x4⟩ := c6 j (by rw [m6]; omega)
    have jm : (j : Int) < ((rs6 (rs5 B m) m j) 14408 0 (6)) := by rw [x3, m6]; exact hj
    have am := x1.pl.am j (by omega) jm
    have al := (x1.pl.al j (by omega) jm).1
    have mb3 : ((rs6 (rs5 B m) m j) 14408 0 (3)) = (B 14408 0 (3)) := by rw [x3, a3, mm1]
    rw [am.1] at hb
    have bb := bit_m ((rs6 (rs5 B m) m j) 98397 0 (j)) m m0 (by omega)
    have ai := am.2.2.2 (fun w => hb (bb.1.mpr (by rw [w]; exact bit_0 m m0 (by omega))))
    have ct := (x1.pl.ct _ al.2.1 al.2.2).1
    rw [al.1, ai.1]
    exact ⟨by omega, x1.cV _ al.2.1 al.2.2, by omega⟩
  · obtain ⟨x1, x2, x3, _⟩ := c4 j (by rw [mm1]; omega)
    exact ⟨x1.free, x1.sM (by omega)⟩
  · obtain ⟨x1, x2, x3, x4⟩ := c6 j (by rw [m6]; omega)
    have jm : (j : Int) < ((rs6 (rs5 B m) m j) 14408 0 (6)) := by rw [x3, m6]; exact hj
    have am := x1.pl.am j (by omega) jm
    have al := (x1.pl.al j (by omega) jm).1
    have mb3 : ((rs6 (rs5 B m) m j) 14408 0 (3)) = (B 14408 0 (3)) := by rw [x3, a3, mm1]
    have ai := am.2.2.2 (fun w => by rw [w] at hb; exact bit_0 m m0 (by omega) hb)
    have ct := (x1.pl.ct _ al.2.1 al.2.2).1
    have co := (x1.co _ al.2.1 al.2.2).1
    exact ⟨by omega, by omega, by omega, by omega⟩
