/-! ===== what the start gives: enums, strings, constant arrays ===== -/
def flw : List Cond := flatC (Jvm.Cond.and given_1 narrow_1)
def knm : List String := ["BAD", "END", "COMMA", "NUMBER", "NAME", "MODE", "EVENT", "RESOURCE", "INTERNAL", "AS", "COUNTER", "MAX", "BASE", "LEAST", "TASK", "PRIORITY", "ISR", "LEVEL", "USES", "ALARM", "ON", "STARTS", "SETS", "CALLS", "AUTO", "IN", "EVERY", "WHOLE", "LIMIT", "WAITS"]
def rnm : List String := ["WORD", "TELLS", "PART", "AS", "USES", "ON", "STARTS", "SETS", "EVENT", "WAITS", "AUTO", "PRIORITY", "LIMIT", "MAX", "BASE", "LEAST", "LEVEL", "IN", "EVERY"]
def sow : List String := ["StaticKernelModel", "StaticKernel$Kind", "StaticKernel$Kind", "StaticKernel$Kind", "StaticKernel$Kind", "StaticKernel$Kind", "StaticKernel$Kind", "StaticKernel$Kind", "StaticKernel$Kind", "StaticKernel$Kind", "StaticKernel$Kind", "StaticKernel$Kind", "StaticKernel$Kind", "StaticKernel$Kind", "StaticKernel$Kind", "StaticKernel$Kind", "StaticKernel$Kind", "StaticKernel$Kind", "StaticKernel$Kind", "StaticKernel$Kind", "StaticKernel$Kind", "StaticKernel$Kind", "StaticKernel$Kind", "StaticKernel$Kind", "StaticKernel$Kind", "StaticKernel$Kind", "StaticKernel$Kind"]
def six : List Nat := [36, 118, 137, 140, 146, 149, 152, 158, 164, 167, 173, 176, 179, 182, 185, 188, 191, 200, 194, 128, 131, 134, 143, 155, 161, 170, 197]
def kTm (i : Nat) : Term := .static "StaticKernel$Kind" (knm.getD i "") "LStaticKernel$Kind;"
def rTm (i : Nat) : Term := .static "StaticKernel$Role" (rnm.getD i "") "LStaticKernel$Role;"
def sTm (i : Nat) : Term := .string (sow.getD i "") (six.getD i 0)
def cTm (g : Nat) : Term := match g with
  | 62328 => .static "StaticKernel" "KINDS" "[LStaticKernel$Kind;"
  | 14457 => .static "StaticKernel" "MOST" "[I"
  | 61562 => .static "StaticKernel$1" "$SwitchMap$StaticKernel$Kind" "[I"
  | 39035 => .static "StaticKernel$1" "$SwitchMap$StaticKernel$Role" "[I"
  | _ => .int 0
theorem f_k : ∀ i : Nat, i < 30 → Cond.exactly (kTm i) "StaticKernel$Kind" ∈ flw ∧ Cond.eq (.field (kTm i) "java/lang/Enum" "ordinal" "I") (.int (Int32.ofInt i)) ∈ flw ∧ Cond.eq (.field (kTm i) "StaticKernel$Kind" "word" "Ljava/lang/String;") (sTm (kwdL.getD i 0)) ∈ flw ∧ Cond.laysStatic "StaticKernel$Kind" (knm.getD i "") "LStaticKernel$Kind;" ∈ lw_tbl := by decide +kernel
theorem f_r : ∀ i : Nat, i < 19 → Cond.exactly (rTm i) "StaticKernel$Role" ∈ flw ∧ Cond.eq (.field (rTm i) "java/lang/Enum" "ordinal" "I") (.int (Int32.ofInt i)) ∈ flw ∧ Cond.eq (.field (rTm i) "StaticKernel$Role" "wanted" "I") (.int (Int32.ofInt (rwtL.getD i 0))) ∈ flw ∧ Cond.laysStatic "StaticKernel$Role" (rnm.getD i "") "LStaticKernel$Role;" ∈ lw_tbl := by decide +kernel
def sbs : List Nat := [290, 437, 441, 453, 459, 466, 474, 483, 495, 504, 512, 518, 528, 536, 545, 553, 559, 568, 577, 586, 594, 603, 615, 626, 634, 641, 650]
theorem f_s0 : ∀ i : Nat, i < 27 → flw[sbs.getD i 0]? = some (Cond.exactly (sTm i) "java/lang/String") ∧ flw[sbs.getD i 0 + 1]? = some (Cond.eq (.field (sTm i) "java/lang/String" "coder" "B") (.int 0)) ∧ flw[sbs.getD i 0 + 2]? = some (Cond.arrayOf (.field (sTm i) "java/lang/String" "value" "[B") .byte) ∧ flw[sbs.getD i 0 + 3]? = some (Cond.eq (.length (.field (sTm i) "java/lang/String" "value" "[B")) (.int (Int32.ofNat (strL.getD i []).length))) := by decide +kernel
theorem f_se0 : ∀ i : Nat, i < 27 → ∀ j : Nat, j < (strL.getD i []).length → flw[sbs.getD i 0 + 4 + j]? = some (Cond.eq (.elem (.field (sTm i) "java/lang/String" "value" "[B") (.int (Int32.ofNat j))) (.int (Int32.ofInt ((strL.getD i []).getD j 0 : Nat)))) := by decide +kernel
theorem f_s : ∀ i : Nat, i < 27 → Cond.exactly (sTm i) "java/lang/String" ∈ flw ∧ Cond.eq (.field (sTm i) "java/lang/String" "coder" "B") (.int 0) ∈ flw ∧ Cond.arrayOf (.field (sTm i) "java/lang/String" "value" "[B") .byte ∈ flw ∧ Cond.eq (.length (.field (sTm i) "java/lang/String" "value" "[B")) (.int (Int32.ofNat (strL.getD i []).length)) ∈ flw := fun i h => ⟨List.mem_of_getElem? (f_s0 i h).1, List.mem_of_getElem? (f_s0 i h).2.1, List.mem_of_getElem? (f_s0 i h).2.2.1, List.mem_of_getElem? (f_s0 i h).2.2.2⟩
theorem f_se : ∀ i : Nat, i < 27 → ∀ j : Nat, j < (strL.getD i []).length → Cond.eq (.elem (.field (sTm i) "java/lang/String" "value" "[B") (.int (Int32.ofNat j))) (.int (Int32.ofInt ((strL.getD i []).getD j 0 : Nat))) ∈ flw := fun i h j hj => List.mem_of_getElem? (f_se0 i h j hj)
theorem f_ini : Cond.initialized "StaticKernel$Kind" ∈ lw_tbl ∧ Cond.initialized "StaticKernel$Role" ∈ lw_tbl ∧ Cond.initialized "StaticKernel" ∈ lw_tbl ∧ Cond.initialized "StaticKernel$1" ∈ lw_tbl ∧ Cond.initialized "java/lang/String" ∈ lw_tbl ∧ Cond.initialized "jdk/internal/util/Preconditions" ∈ lw_tbl := by decide +kernel
theorem f_c : (Cond.laysStatic "StaticKernel" "KINDS" "[LStaticKernel$Kind;" ∈ lw_tbl ∧ Cond.laysStatic "StaticKernel" "MOST" "[I" ∈ lw_tbl ∧ Cond.laysStatic "StaticKernel$1" "$SwitchMap$StaticKernel$Kind" "[I" ∈ lw_tbl ∧ Cond.laysStatic "StaticKernel$1" "$SwitchMap$StaticKernel$Role" "[I" ∈ lw_tbl) ∧ Cond.laysStatic "java/lang/String" "COMPACT_STRINGS" "Z" ∈ lw_tbl ∧ Cond.laysStatic "jdk/internal/util/Preconditions" "SIOOBE_FORMATTER" "Ljava/util/function/BiFunction;" ∈ lw_tbl ∧ Cond.eq (.static "java/lang/String" "COMPACT_STRINGS" "Z") (.int 1) ∈ flw ∧ Cond.isRef (.static "jdk/internal/util/Preconditions" "SIOOBE_FORMATTER" "Ljava/util/function/BiFunction;") ∈ flw ∧ Cond.stringRef "StaticKernelModel" 36 wdT ∈ lw_tbl := by decide +kernel
theorem f_a : ∀ g ∈ gCon, Cond.arrayOf (cTm g) (aY g) ∈ flw ∧ Cond.eq (.length (cTm g)) (.int (Int32.ofNat (gl g))) ∈ flw := by decide +kernel
theorem f_ae : ∀ g ∈ gCon, gk g = 0 → ∀ j : Nat, j < gl g → Cond.eq (.elem (cTm g) (.int (Int32.ofNat j))) (.int (Int32.ofInt ((conL g).getD j 0))) ∈ flw := by decide +kernel
theorem f_ak : ∀ j : Nat, j < 30 → Cond.eq (.elem (cTm 62328) (.int (Int32.ofNat j))) (kTm j) ∈ flw := by decide +kernel
theorem gs_eq : gs = (List.range 30).map (fun i => ("StaticKernel$Kind", knm.getD i "", "LStaticKernel$Kind;", aR 12 i)) ++ ((List.range 19).map (fun i => ("StaticKernel$Role", rnm.getD i "", "LStaticKernel$Role;", aR 13 i)) ++ [("StaticKernel", "KINDS", "[LStaticKernel$Kind;", aR 62328 0), ("StaticKernel", "MOST", "[I", aR 14457 0), ("StaticKernel$1", "$SwitchMap$StaticKernel$Kind", "[I", aR 61562 0), ("StaticKernel$1", "$SwitchMap$StaticKernel$Role", "[I", aR 39035 0)]) := rfl
/-- the constants, at addresses k (kinds), r (roles), w (strings), cn (arrays) -/
def Cst0 (k r w cn : Nat → Nat) (A : Nat → Prop) (args : Array Value) (s : State) : Prop :=
  (∀ i : Nat, i < 30 → va_Z "StaticKernel$Kind" (knm.getD i "") "LStaticKernel$Kind;" (.ref (k i)) A s s.heap ∧ va_O "StaticKernel$Kind" (k i) A s s.heap ∧ va_OF "java/lang/Enum" "ordinal" "I" (.int (Int32.ofInt i)) (k i) A s s.heap ∧ va_OF "StaticKernel$Kind" "word" "Ljava/lang/String;" (.ref (w (kwdL.getD i 0))) (k i) A s s.heap) ∧
  (∀ i : Nat, i < 19 → va_Z "StaticKernel$Role" (rnm.getD i "") "LStaticKernel$Role;" (.ref (r i)) A s s.heap ∧ va_O "StaticKernel$Role" (r i) A s s.heap ∧ va_OF "java/lang/Enum" "ordinal" "I" (.int (Int32.ofInt i)) (r i) A s s.heap ∧ va_OF "StaticKernel$Role" "wanted" "I" (.int (Int32.ofInt (rwtL.getD i 0))) (r i) A s s.heap) ∧
  (∀ i : Nat, i < 27 → JS A (w i) (strL.getD i []).length (fun j => Int32.ofInt ((strL.getD i []).getD j 0 : Nat)) s) ∧ JC A s ∧ vk_R "StaticKernelModel" 36 wdT (w 0) s ∧
  (∀ g ∈ gCon, va_T (aY g) (cn g) (gl g) (fun j => if gk g = 0 then .int (Int32.ofInt ((conL g).getD j 0)) else .ref (k j)) A s s.heap) ∧
  va_Z "StaticKernel" "KINDS" "[LStaticKernel$Kind;" (.ref (cn 62328)) A s s.heap ∧ va_Z "StaticKernel" "MOST" "[I" (.ref (cn 14457)) A s s.heap ∧ va_Z "StaticKernel$1" "$SwitchMap$StaticKernel$Kind" "[I" (.ref (cn 61562)) A s s.heap ∧ va_Z "StaticKernel$1" "$SwitchMap$StaticKernel$Role" "[I" (.ref (cn 39035)) A s s.heap
theorem ex_eval {args : Array Value} {s : State} {t : Term} {nm : String} (hex : (Cond.exactly t nm).before args s = true) : ∃ a : Nat, t.eval args s none [] s = some (.ref a) := by
  obtain ⟨a, c, cA, kA, q1, -⟩ := Cond.exactly_spec (args := args) (first := s) (o := none) (s := s) (idx := []) (t := t) (cls := nm) hex
  exact ⟨a, q1⟩
theorem kwl : ∀ i : Nat, i < 30 → kwdL.getD i 0 < 27 := by decide +kernel
theorem con_4 : ∀ g ∈ gCon, gl g < 2 ^ 31 ∧ (gk g = 0 ∨ g = 62328) := by decide +kernel
theorem cst_0 {args : Array Value} {s : State} {A : Nat → Prop} (hts : ∀ w ∈ lw_tbl, w.before args s = true) (hg : ∀ w ∈ flw, w.before args s = true) (hA : ∀ a : Nat, a < s.heap.size → ¬ A a) : ∃ k r w cn : Nat → Nat, Cst0 k r w cn A args s := by
  have hk : ∀ i : Nat, ∃ a : Nat, i < 30 → (kTm i).eval args s none [] s = some (.ref a) := fun i => by
    by_cases h : i < 30
    · obtain ⟨a, ha⟩ := ex_eval (hg _ (f_k i h).1)
      exact ⟨a, fun _ => ha⟩
    · exact ⟨0, fun z => absurd z h⟩
  have hr : ∀ i : Nat, ∃ a : Nat, i < 19 → (rTm i).eval args s none [] s = some (.ref a) := fun i => by
    by_cases h : i < 19
    · obtain ⟨a, ha⟩ := ex_eval (hg _ (f_r i h).1)
      exact ⟨a, fun _ => ha⟩
    · exact ⟨0, fun z => absurd z h⟩
  have hw : ∀ i : Nat, ∃ a : Nat, i < 27 → (sTm i).eval args s none [] s = some (.ref a) := fun i => by
    by_cases h : i < 27
    · obtain ⟨a, ha⟩ := ex_eval (hg _ (f_s i h).1)
      exact ⟨a, fun _ => ha⟩
    · exact ⟨0, fun z => absurd z h⟩
  obtain ⟨k, hk⟩ := Classical.axiomOfChoice hk
  obtain ⟨r, hr⟩ := Classical.axiomOfChoice hr
  obtain ⟨w, hw⟩ := Classical.axiomOfChoice hw
  have hc : ∀ g : Nat, ∃ a : Nat, g ∈ gCon → (cTm g).eval args s none [] s = some (.ref a) ∧ va_T (aY g) a (gl g) (fun j => if gk g = 0 then .int (Int32.ofInt ((conL g).getD j 0)) else .ref (k j)) A s s.heap := fun g => by
    by_cases h : g ∈ gCon
    · obtain ⟨a, h1, h2⟩ := va_Tof (f := fun j => if gk g = 0 then .int (Int32.ofInt ((conL g).getD j 0)) else .ref (k j)) (A := A) (con_4 g h).1 (hg _ (f_a g h).1) (va_eqt (hg _ (f_a g h).2)) (fun j hj => by
        by_cases k0 : gk g = 0
        · rw [if_pos k0]
          exact va_eqt (hg _ (f_ae g h k0 j hj))
        · rw [if_neg k0]
          rcases (con_4 g h).2 with z | z
          · exact absurd z k0
          · subst z
            exact va_eqv (hg _ (f_ak j hj)) (hk j hj)) hA
      exact ⟨a, fun _ => ⟨h1, h2⟩⟩
    · exact ⟨0, fun z => absurd z h⟩
  obtain ⟨cn, hc⟩ := Classical.axiomOfChoice hc
  refine ⟨k, r, w, cn, fun i hi => ⟨?_, ?_, ?_, ?_⟩, fun i hi => ⟨?_, ?_, ?_, ?_⟩, fun i hi => ⟨?_, ?_, ?_⟩, ⟨?_, ?_⟩, ?_, fun g h => (hc g h).2, ?_, ?_, ?_, ?_⟩
  · exact va_Zof (hts _ (f_k i hi).2.2.2) (hts _ f_ini.1) (hk i hi) hA
  · exact va_Oof (hg _ (f_k i hi).1) (hk i hi) hA
  · exact vk_OFof (hk i hi) (va_eqt (hg _ (f_k i hi).2.1)) hA
  · exact vk_OFof (hk i hi) (va_eqv (hg _ (f_k i hi).2.2.1) (hw _ (kwl i hi))) hA
  · exact va_Zof (hts _ (f_r i hi).2.2.2) (hts _ f_ini.2.1) (hr i hi) hA
  · exact va_Oof (hg _ (f_r i hi).1) (hr i hi) hA
  · exact vk_OFof (hr i hi) (va_eqt (hg _ (f_r i hi).2.1)) hA
  · exact vk_OFof (hr i hi) (va_eqt (hg _ (f_r i hi).2.2.1)) hA
  · exact va_Oof (hg _ (f_s i hi).1) (hw i hi) hA
  · exact vk_OFof (hw i hi) (va_eqt (hg _ (f_s i hi).2.1)) hA
  · obtain ⟨v, h1, h2⟩ := va_Tof (f := fun j => .int (Int32.ofInt ((strL.getD i []).getD j 0 : Nat))) (A := A) (Nat.lt_trans (str_all i hi).1 (by decide)) (hg _ (f_s i hi).2.2.1) (va_eqt (hg _ (f_s i hi).2.2.2)) (fun j hj => va_eqt (hg _ (f_se i hi j hj))) hA
    exact ⟨v, vk_OFof (hw i hi) h1 hA, h2⟩
  · exact va_Zof (hts _ f_c.2.1) (hts _ f_ini.2.2.2.2.1) (va_eqt (hg _ f_c.2.2.2.1)) hA
  · exact va_Zqof (hts _ f_c.2.2.1) (hts _ f_ini.2.2.2.2.2) (hg _ f_c.2.2.2.2.1) hA
  · exact vk_R.of (hts _ f_c.2.2.2.2.2) (hw 0 (by decide))
  · exact va_Zof (hts _ f_c.1.1) (hts _ f_ini.2.2.1) (hc 62328 (by decide)).1 hA
  · exact va_Zof (hts _ f_c.1.2.1) (hts _ f_ini.2.2.1) (hc 14457 (by decide)).1 hA
  · exact va_Zof (hts _ f_c.1.2.2.1) (hts _ f_ini.2.2.2.1) (hc 61562 (by decide)).1 hA
  · exact va_Zof (hts _ f_c.1.2.2.2) (hts _ f_ini.2.2.2.1) (hc 39035 (by decide)).1 hA
