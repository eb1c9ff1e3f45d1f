/-! ===== the JDK's own members that the code calls: Enum.ordinal, String.length, String.charAt ===== -/
abbrev jA : Type := MethodName × Nat × Nat × Option FieldType
def j_ord : jA := (⟨"java/lang/Enum", "ordinal", "()I"⟩, 780, 1, some .int)
def j_len : jA := (⟨"java/lang/String", "length", "()I"⟩, 694, 1, some .int)
def j_cod : jA := (⟨"java/lang/String", "coder", "()B"⟩, 698, 1, some .byte)
def j_chr : jA := (⟨"java/lang/String", "charAt", "(I)C"⟩, 704, 2, some .char)
def j_lat : jA := (⟨"java/lang/String", "isLatin1", "()Z"⟩, 708, 1, some .boolean)
def j_l1c : jA := (⟨"java/lang/StringLatin1", "charAt", "([BI)C"⟩, 711, 2, some .char)
def j_chk : jA := (⟨"java/lang/String", "checkIndex", "(II)V"⟩, 714, 2, none)
def j_pre : jA := (⟨"jdk/internal/util/Preconditions", "checkIndex", "(IILjava/util/function/BiFunction;)I"⟩, 719, 3, some .int)
abbrev jA.y (q : jA) : MethodName := q.1
abbrev jA.b (q : jA) : ByteArray := bOf q.2.1
abbrev jA.ml (q : jA) : Nat := q.2.2.1
abbrev jA.rt (q : jA) : Option FieldType := q.2.2.2
def wsJ (q : jA) : List Cond := .code q.y q.b q.ml q.rt :: lwg
def jq : List jA := [j_ord, j_len, j_cod, j_chr, j_lat, j_l1c, j_chk, j_pre]
set_option maxRecDepth 100000 in
theorem jq_ok : ∀ q ∈ jq, (match lw_tbl[q.2.1]? with
    | some (.code y' _ n' r') => decide (y' = q.1 ∧ n' = q.2.2.1 ∧ r' = q.2.2.2)
    | _ => false) = true := by decide +kernel
def jws : List Cond := [.fieldLink "java/lang/Enum" 7 "java/lang/Enum" "ordinal" "I", .fieldLink "java/lang/String" 38 "java/lang/String" "COMPACT_STRINGS" "Z", .fieldLink "java/lang/String" 15 "java/lang/String" "coder" "B", .fieldLink "java/lang/String" 9 "java/lang/String" "value" "[B", .fieldLink "java/lang/String" 1053 "jdk/internal/util/Preconditions" "SIOOBE_FORMATTER" "Ljava/util/function/BiFunction;",
  .methodLink "java/lang/String" 335 j_cod.y, .instanceMethod j_cod.y, .selects "java/lang/String" j_cod.y j_cod.y, .initialized "java/lang/String", .methodLink "java/lang/String" 492 j_lat.y, .instanceMethod j_lat.y, .selects "java/lang/String" j_lat.y j_lat.y, .methodLink "java/lang/String" 495 j_l1c.y, .static j_l1c.y, .initialized "java/lang/StringLatin1", .methodLink "java/lang/StringLatin1" 9 j_chk.y, .static j_chk.y, .methodLink "java/lang/String" 1059 j_pre.y, .static j_pre.y, .initialized "jdk/internal/util/Preconditions",
  .instanceMethod j_len.y, .selects "java/lang/String" j_len.y j_len.y, .instanceMethod j_chr.y, .selects "java/lang/String" j_chr.y j_chr.y, .instanceMethod j_ord.y, .initialized "java/lang/Enum", .sameMethod "StaticKernel$Kind" "java/lang/Enum" "ordinal" "()I", .sameMethod "StaticKernel$Role" "java/lang/Enum" "ordinal" "()I", .selects "StaticKernel$Kind" ⟨"StaticKernel$Kind", "ordinal", "()I"⟩ j_ord.y, .selects "StaticKernel$Role" ⟨"StaticKernel$Role", "ordinal", "()I"⟩ j_ord.y]
set_option maxRecDepth 100000 in
theorem jws_in : ∀ w ∈ jws, w ∈ lw_tbl := by decide +kernel
theorem jws_ok : ∀ w ∈ jws, w ∈ lwg := fun w hw => List.mem_filter.mpr ⟨jws_in w hw, List.all_eq_true.mp (show jws.all goodWord = true by decide +kernel) w hw⟩
theorem jq_code {q : jA} (h : q ∈ jq) : Cond.code q.y q.b q.ml q.rt ∈ lwg := by
  have h1 := jq_ok q h
  have h2 : lw_tbl[q.2.1]? = some (.code q.1 (bOf q.2.1) q.2.2.1 q.2.2.2) := by
    unfold bOf
    split at h1
    · rename_i hq
      rw [hq]
      obtain ⟨rfl, rfl, rfl⟩ := of_decide_eq_true h1
      rfl
    · cases h1
  exact lwg_at h2 rfl
theorem jq_good {q : jA} (h : q ∈ jq) : GoodIn lwg (wsJ q) := by
  intro w hw
  rcases List.mem_cons.mp hw with rfl | hw
  · exact ⟨jq_code h, good_of_word (List.mem_filter.mp (jq_code h)).2⟩
  · exact ⟨hw, good_of_word (List.mem_filter.mp hw).2⟩
/-- answers, and the heap is as it was -/
def QcP (r : Option Value) : Array Value → State → Outcome → State → Prop := fun _ st oc t => oc = .returned r ∧ t.heap = st.heap
def PcJ (as : List Value) (P : State → Prop) : Array Value → State → Prop := fun v U => v = as.toArray ∧ P U
section JW
variable {p : Program} {l : Launch} {e : Env} {R : Room} {s : State} {m : MethodId} {args : Array Value} {below : List Frame} {meth : Method} {c : Code} {Q : State → Prop} {H : Heap} {locs : List Loc} {cells slots : Nat} {ls : Array Slot} {pc : Nat}
theorem W.pcall {st rest : List Value} {a : Array Value} {r : Option Value} (hrun : va_Run p l e R s m args below meth c H locs cells slots 0 0 (F0 m pc ls st) rest (QcP r a) (fun _ => False)) (kk : W p l e R s m args below meth c H locs cells slots Q (F0 m (pc + 3) ls (r.toList ++ rest))) : W p l e R s m args below meth c H locs cells slots Q (F0 m pc ls st) := by
  intro T hT X
  obtain ⟨v, st₀, t, T', L, h0, X', hL, e1, e2, ⟨hv, hh⟩, stp⟩ := hrun T hT X
  injection hv with hv
  subst hv
  have hLn : L = [] := by
    cases L with
    | nil => rfl
    | cons z L => exact (hL z List.mem_cons_self).elim
  subst hLn
  rw [List.append_nil] at X'
  obtain ⟨t2, a1, b1⟩ := kk T' (by rw [e1, hh, h0]) X'
  exact ⟨t2, stp t2 a1, b1⟩
end JW
theorem JP.blind {as : List Value} {P : State → Prop} (h : ∀ u U : State, u.vm.Alike U.vm → U.heap = u.heap → P u → P U) : FrameBlind (PcJ as P) := fun a U g mk q => ⟨q.1, h U _ (Vm.Alike.refl U.vm) rfl q.2⟩
theorem JSC.same {A : Nat → Prop} {a n : Nat} {f : Nat → Int32} (u U : State) (hvm : u.vm.Alike U.vm) (hh : U.heap = u.heap) (h : JS A a n f u ∧ JC A u) : JS A a n f U ∧ JC A U := ⟨h.1.moved hvm (fun q _ _ => by rw [hh]), h.2.moved hvm (fun q _ _ => by rw [hh])⟩
theorem j_coder (l : Launch) (A : Nat → Prop) (a n : Nat) (f : Nat → Int32) : Met l j_cod.y (wsJ j_cod) (rmL 0) (PcJ [.ref a] (fun U => JS A a n f U ∧ JC A U)) (QcP (some (.int 0))) 0 0 (fun _ => False) := by
  refine Met.ofW (cc := j_cod.b) (maxL := j_cod.ml) (ret := j_cod.rt) (by decide) rfl ?_
  intro p e s m args below meth c s₁ B hml hv
  obtain ⟨rfl, hJ, hC⟩ := hv
  have hx := B.exec
  have hb := B.bytes
  have hlocks := B.notSynchronized
  have hts0 := atoms_spec (ws := wsJ j_cod) B.pre
  have htg : ∀ w ∈ lwg, w.before _ s = true := fun w hw => hts0 w (List.mem_cons_of_mem _ hw)
  have hts : ∀ w ∈ jws, w.before _ s = true := fun w hw => htg w (jws_ok w hw)
  have hown : s.vm.findClass "java/lang/String" = some m.cls := findClass_of_methodNamed B.named
  have hl := lv_entry ([.ref a]) (n := j_cod.ml) (Nat.le_of_ble_eq_true rfl)
  rw [lg_entry_eq]
  generalize (lg_sl ([.ref a]) ++ List.replicate (j_cod.ml - (lg_sl ([.ref a])).length) Slot.unset).toArray = ls at hl ⊢
  have hl : lv_has ls 1 [(0, .ref a)] := hl
  refine va_gets hx hb hC.1 va_S.rf hown (hts _ (by decide +kernel : Cond.fieldLink "java/lang/String" 38 "java/lang/String" "COMPACT_STRINGS" "Z" ∈ jws)) (fun _ h => h) (by decide +kernel) ?_
  refine lv_if_eq (off := 10) hx hb (by decide +kernel) (tgt := 13) (by decide) (fun h => absurd h (by decide)) (fun _ => ?_)
  refine lv_aload_n (k := 0) hx hb (by decide +kernel) rfl (lv_at hl 0 rfl) ?_
  refine vk_getf hx hb hJ.2.1 va_S.rf hown (hts _ (by decide +kernel : Cond.fieldLink "java/lang/String" 15 "java/lang/String" "coder" "B" ∈ jws)) (fun _ h => h) (by decide +kernel) ?_
  refine lv_goto (off := 4) hx hb (by decide +kernel) (tgt := 14) (by decide) ?_
  exact W.zret (ty := .byte) hx hb B.returns rfl (fun t ht _ => ⟨rfl, ht⟩) (fun q hq => by cases hq) (by decide +kernel)
theorem j_isLat (l : Launch) (A : Nat → Prop) (a n : Nat) (f : Nat → Int32) : Met l j_lat.y (wsJ j_lat) (rmL 0) (PcJ [.ref a] (fun U => JS A a n f U ∧ JC A U)) (QcP (some (.int 1))) 0 0 (fun _ => False) := by
  refine Met.ofW (cc := j_lat.b) (maxL := j_lat.ml) (ret := j_lat.rt) (by decide) rfl ?_
  intro p e s m args below meth c s₁ B hml hv
  obtain ⟨rfl, hJ, hC⟩ := hv
  have hx := B.exec
  have hb := B.bytes
  have hlocks := B.notSynchronized
  have hts0 := atoms_spec (ws := wsJ j_lat) B.pre
  have htg : ∀ w ∈ lwg, w.before _ s = true := fun w hw => hts0 w (List.mem_cons_of_mem _ hw)
  have hts : ∀ w ∈ jws, w.before _ s = true := fun w hw => htg w (jws_ok w hw)
  have hown : s.vm.findClass "java/lang/String" = some m.cls := findClass_of_methodNamed B.named
  have hl := lv_entry ([.ref a]) (n := j_lat.ml) (Nat.le_of_ble_eq_true rfl)
  rw [lg_entry_eq]
  generalize (lg_sl ([.ref a]) ++ List.replicate (j_lat.ml - (lg_sl ([.ref a])).length) Slot.unset).toArray = ls at hl ⊢
  have hl : lv_has ls 1 [(0, .ref a)] := hl
  refine va_gets hx hb hC.1 va_S.rf hown (hts _ (by decide +kernel : Cond.fieldLink "java/lang/String" 38 "java/lang/String" "COMPACT_STRINGS" "Z" ∈ jws)) (fun _ h => h) (by decide +kernel) ?_
  refine lv_if_eq (off := 14) hx hb (by decide +kernel) (tgt := 17) (by decide) (fun h => absurd h (by decide)) (fun _ => ?_)
  refine lv_aload_n (k := 0) hx hb (by decide +kernel) rfl (lv_at hl 0 rfl) ?_
  refine vk_getf hx hb hJ.2.1 va_S.rf hown (hts _ (by decide +kernel : Cond.fieldLink "java/lang/String" 15 "java/lang/String" "coder" "B" ∈ jws)) (fun _ h => h) (by decide +kernel) ?_
  refine lv_if_ne (off := 7) hx hb (by decide +kernel) (tgt := 17) (by decide) (fun h => absurd rfl h) (fun _ => ?_)
  refine lv_iconst (n := 1) hx hb (by decide +kernel) (v := 1) rfl ?_
  refine lv_goto (off := 4) hx hb (by decide +kernel) (tgt := 18) (by decide) ?_
  exact W.zret (ty := .boolean) hx hb B.returns rfl (fun t ht _ => ⟨rfl, ht⟩) (fun q hq => by cases hq) (by decide +kernel)
theorem j_pchkN (l : Launch) (A : Nat → Prop) (i n : Int32) (h0 : ¬ i < 0) (h1 : i < n) : Met l j_pre.y (wsJ j_pre) (rmL 0) (PcJ [.int i, .int n, .null] (fun U => True)) (QcP (some (.int i))) 0 0 (fun _ => False) := by
  refine Met.ofW (cc := j_pre.b) (maxL := j_pre.ml) (ret := j_pre.rt) (by decide) rfl ?_
  intro p e s m args below meth c s₁ B hml hv
  obtain ⟨rfl, -⟩ := hv
  have hx := B.exec
  have hb := B.bytes
  have hlocks := B.notSynchronized
  have hts0 := atoms_spec (ws := wsJ j_pre) B.pre
  have htg : ∀ w ∈ lwg, w.before _ s = true := fun w hw => hts0 w (List.mem_cons_of_mem _ hw)
  have hts : ∀ w ∈ jws, w.before _ s = true := fun w hw => htg w (jws_ok w hw)
  have hown : s.vm.findClass "jdk/internal/util/Preconditions" = some m.cls := findClass_of_methodNamed B.named
  have hl := lv_entry ([.int i, .int n, .null]) (n := j_pre.ml) (Nat.le_of_ble_eq_true rfl)
  rw [lg_entry_eq]
  generalize (lg_sl ([.int i, .int n, .null]) ++ List.replicate (j_pre.ml - (lg_sl ([.int i, .int n, .null])).length) Slot.unset).toArray = ls at hl ⊢
  have hl : lv_has ls 3 [(0, .int i), (1, .int n), (2, .null)] := hl
  refine lv_iload_n (k := 0) hx hb (by decide +kernel) rfl (lv_at hl 0 rfl) ?_
  refine lv_if_lt (off := 8) hx hb (by decide +kernel) (tgt := 9) (by decide) (fun h => absurd h h0) (fun _ => ?_)
  refine lv_iload_n (k := 0) hx hb (by decide +kernel) rfl (lv_at hl 0 rfl) ?_
  refine lv_iload_n (k := 1) hx hb (by decide +kernel) rfl (lv_at hl 1 rfl) ?_
  refine lv_icmp_lt (off := 10) hx hb (by decide +kernel) (tgt := 16) (by decide) (fun _ => ?_) (fun h => absurd h1 h)
  refine lv_iload_n (k := 0) hx hb (by decide +kernel) rfl (lv_at hl 0 rfl) ?_
  exact W.iret hx hb B.returns (fun t ht _ => ⟨rfl, ht⟩) (fun q hq => by cases hq) (by decide +kernel)
theorem j_pchkR (l : Launch) (A : Nat → Prop) (q : Nat) (i n : Int32) (h0 : ¬ i < 0) (h1 : i < n) : Met l j_pre.y (wsJ j_pre) (rmL 0) (PcJ [.int i, .int n, .ref q] (fun U => True)) (QcP (some (.int i))) 0 0 (fun _ => False) := by
  refine Met.ofW (cc := j_pre.b) (maxL := j_pre.ml) (ret := j_pre.rt) (by decide) rfl ?_
  intro p e s m args below meth c s₁ B hml hv
  obtain ⟨rfl, -⟩ := hv
  have hx := B.exec
  have hb := B.bytes
  have hlocks := B.notSynchronized
  have hts0 := atoms_spec (ws := wsJ j_pre) B.pre
  have htg : ∀ w ∈ lwg, w.before _ s = true := fun w hw => hts0 w (List.mem_cons_of_mem _ hw)
  have hts : ∀ w ∈ jws, w.before _ s = true := fun w hw => htg w (jws_ok w hw)
  have hown : s.vm.findClass "jdk/internal/util/Preconditions" = some m.cls := findClass_of_methodNamed B.named
  have hl := lv_entry ([.int i, .int n, .ref q]) (n := j_pre.ml) (Nat.le_of_ble_eq_true rfl)
  rw [lg_entry_eq]
  generalize (lg_sl ([.int i, .int n, .ref q]) ++ List.replicate (j_pre.ml - (lg_sl ([.int i, .int n, .ref q])).length) Slot.unset).toArray = ls at hl ⊢
  have hl : lv_has ls 3 [(0, .int i), (1, .int n), (2, .ref q)] := hl
  refine lv_iload_n (k := 0) hx hb (by decide +kernel) rfl (lv_at hl 0 rfl) ?_
  refine lv_if_lt (off := 8) hx hb (by decide +kernel) (tgt := 9) (by decide) (fun h => absurd h h0) (fun _ => ?_)
  refine lv_iload_n (k := 0) hx hb (by decide +kernel) rfl (lv_at hl 0 rfl) ?_
  refine lv_iload_n (k := 1) hx hb (by decide +kernel) rfl (lv_at hl 1 rfl) ?_
  refine lv_icmp_lt (off := 10) hx hb (by decide +kernel) (tgt := 16) (by decide) (fun _ => ?_) (fun h => absurd h1 h)
  refine lv_iload_n (k := 0) hx hb (by decide +kernel) rfl (lv_at hl 0 rfl) ?_
  exact W.iret hx hb B.returns (fun t ht _ => ⟨rfl, ht⟩) (fun q hq => by cases hq) (by decide +kernel)
theorem j_pchk (l : Launch) (A : Nat → Prop) (i n : Int32) (v : Value) (hv : v = .null ∨ ∃ q : Nat, v = .ref q) (h0 : ¬ i < 0) (h1 : i < n) : Met l j_pre.y (wsJ j_pre) (rmL 0) (PcJ [.int i, .int n, v] (fun U => True)) (QcP (some (.int i))) 0 0 (fun _ => False) := by
  rcases hv with rfl | ⟨q, rfl⟩
  · exact j_pchkN l A i n h0 h1
  · exact j_pchkR l A q i n h0 h1
theorem j_check (l : Launch) (A : Nat → Prop) (i n : Int32) (h0 : ¬ i < 0) (h1 : i < n) : Met l j_chk.y (wsJ j_chk) (rmL 1) (PcJ [.int i, .int n] (fun U => JC A U)) (QcP none) 0 0 (fun _ => False) := by
  refine Met.ofW (cc := j_chk.b) (maxL := j_chk.ml) (ret := j_chk.rt) (by decide) rfl ?_
  intro p e s m args below meth c s₁ B hml hv
  obtain ⟨rfl, hC⟩ := hv
  have hx := B.exec
  have hb := B.bytes
  have hlocks := B.notSynchronized
  have hts0 := atoms_spec (ws := wsJ j_chk) B.pre
  have htg : ∀ w ∈ lwg, w.before _ s = true := fun w hw => hts0 w (List.mem_cons_of_mem _ hw)
  have hts : ∀ w ∈ jws, w.before _ s = true := fun w hw => htg w (jws_ok w hw)
  have hown : s.vm.findClass "java/lang/String" = some m.cls := findClass_of_methodNamed B.named
  have hl := lv_entry ([.int i, .int n]) (n := j_chk.ml) (Nat.le_of_ble_eq_true rfl)
  rw [lg_entry_eq]
  generalize (lg_sl ([.int i, .int n]) ++ List.replicate (j_chk.ml - (lg_sl ([.int i, .int n])).length) Slot.unset).toArray = ls at hl ⊢
  have hl : lv_has ls 2 [(0, .int i), (1, .int n)] := hl
  refine lv_iload_n (k := 0) hx hb (by decide +kernel) rfl (lv_at hl 0 rfl) ?_
  refine lv_iload_n (k := 1) hx hb (by decide +kernel) rfl (lv_at hl 1 rfl) ?_
  obtain ⟨v, hv, hZ⟩ : ∃ v : Value, (v = .null ∨ ∃ q : Nat, v = .ref q) ∧ va_Z "jdk/internal/util/Preconditions" "SIOOBE_FORMATTER" "Ljava/util/function/BiFunction;" v A s s.heap := by
    rcases hC.2 with h | ⟨q, h⟩
    · exact ⟨_, Or.inl rfl, h⟩
    · exact ⟨_, Or.inr ⟨q, rfl⟩, h⟩
  refine va_gets hx hb hZ va_S.rf hown (hts _ (by decide +kernel : Cond.fieldLink "java/lang/String" 1053 "jdk/internal/util/Preconditions" "SIOOBE_FORMATTER" "Ljava/util/function/BiFunction;" ∈ jws)) (fun _ h => h) (by decide +kernel) ?_
  refine W.pcall (rest := []) (va_runS (As := [.int i, .int n, v]) (Ts := lwg) (own := "java/lang/String") ⟨hx, hb, hml, hown, htg⟩ (j_pchk l A i n v hv h0 h1) (va_cwS 3 htg (fun w hw => ?_) rfl rfl rfl (by decide +kernel) ⟨Nat.le_refl _, Nat.le_of_ble_eq_true rfl⟩) ⟨JP.blind (fun _ _ _ _ h => h), fun U hU hW => ⟨rfl, trivial⟩⟩ rfl rfl hl.1 rfl (Nat.le_of_ble_eq_true rfl) (show decode j_chk.b 5 = .ok (.invokestatic 1059, 3) by decide +kernel) ⟨Nat.le_refl _, Nat.le_refl _⟩) ?_
  · rcases List.mem_append.mp (show w ∈ ([Cond.methodLink "java/lang/String" 1059 j_pre.y, Cond.static j_pre.y, Cond.initialized j_pre.y.cls] : List Cond) ++ wsJ j_pre from hw) with h | h
    · have : w ∈ lwg := jws_ok w (by revert w; decide +kernel)
      exact ⟨this, good_of_word (List.mem_filter.mp this).2⟩
    · exact jq_good (by decide +kernel) w h
  refine lv_pop hx hb (by decide +kernel) rfl ?_
  exact W.vret hx hb B.returns (fun t ht _ => ⟨rfl, ht⟩) (fun q hq => by cases hq) (by decide +kernel)
theorem j_l1chr (l : Launch) (A : Nat → Prop) (v n : Nat) (f : Nat → Int32) (i z : Int32) (h0 : ¬ i < 0) (h1 : i < Int32.ofNat n) (h2 : i.toNatClampNeg < n) (hz : ((f i.toNatClampNeg &&& 255).toUInt32 % 65536).toInt32 = z) (hn : narrow .char (.int z) = .int z) : Met l j_l1c.y (wsJ j_l1c) (rmL 2) (PcJ [.ref v, .int i] (fun U => va_T .byte v n (fun j => .int (f j)) A U U.heap ∧ JC A U)) (QcP (some (.int z))) 0 0 (fun _ => False) := by
  refine Met.ofW (cc := j_l1c.b) (maxL := j_l1c.ml) (ret := j_l1c.rt) (by decide) rfl ?_
  intro p e s m args below meth c s₁ B hml hv
  obtain ⟨rfl, hT, hC⟩ := hv
  have hx := B.exec
  have hb := B.bytes
  have hlocks := B.notSynchronized
  have hts0 := atoms_spec (ws := wsJ j_l1c) B.pre
  have htg : ∀ w ∈ lwg, w.before _ s = true := fun w hw => hts0 w (List.mem_cons_of_mem _ hw)
  have hts : ∀ w ∈ jws, w.before _ s = true := fun w hw => htg w (jws_ok w hw)
  have hown : s.vm.findClass "java/lang/StringLatin1" = some m.cls := findClass_of_methodNamed B.named
  have hl := lv_entry ([.ref v, .int i]) (n := j_l1c.ml) (Nat.le_of_ble_eq_true rfl)
  rw [lg_entry_eq]
  generalize (lg_sl ([.ref v, .int i]) ++ List.replicate (j_l1c.ml - (lg_sl ([.ref v, .int i])).length) Slot.unset).toArray = ls at hl ⊢
  have hl : lv_has ls 2 [(0, .ref v), (1, .int i)] := hl
  refine lv_iload_n (k := 1) hx hb (by decide +kernel) rfl (lv_at hl 1 rfl) ?_
  refine lv_aload_n (k := 0) hx hb (by decide +kernel) rfl (lv_at hl 0 rfl) ?_
  obtain ⟨cell, q1, q2, q3, q4, q5, q6, q7⟩ := hT
  refine W.alen hx hb q1 q2 q5 rfl rfl (show decode j_l1c.b 2 = .ok (.arraylength, 1) by decide +kernel) ?_
  change W p l e _ s m _ below meth c s.heap [] 0 0 _ (F0 m 3 ls _)
  refine W.pcall (rest := []) (va_runS (As := [.int i, .int (Int32.ofNat n)]) (Ts := lwg) (own := "java/lang/StringLatin1") ⟨hx, hb, hml, hown, htg⟩ (j_check l A i (Int32.ofNat n) h0 h1) (va_cwS 2 htg (fun w hw => ?_) rfl rfl rfl (by decide +kernel) ⟨Nat.le_refl _, Nat.le_of_ble_eq_true rfl⟩) ⟨JP.blind (fun _ _ hvm hh h => h.moved hvm (fun q _ _ => by rw [hh])), fun U hU hW => ⟨rfl, hC.moved hW.alike (fun q _ _ => by rw [hU])⟩⟩ rfl rfl hl.1 rfl (Nat.le_of_ble_eq_true rfl) (show decode j_l1c.b 3 = .ok (.invokestatic 9, 3) by decide +kernel) ⟨Nat.le_refl _, Nat.le_refl _⟩) ?_
  · rcases List.mem_append.mp (show w ∈ ([Cond.methodLink "java/lang/StringLatin1" 9 j_chk.y, Cond.static j_chk.y, Cond.initialized j_chk.y.cls] : List Cond) ++ wsJ j_chk from hw) with h | h
    · have : w ∈ lwg := jws_ok w (by revert w; decide +kernel)
      exact ⟨this, good_of_word (List.mem_filter.mp this).2⟩
    · exact jq_good (by decide +kernel) w h
  refine lv_aload_n (k := 0) hx hb (by decide +kernel) rfl (lv_at hl 0 rfl) ?_
  refine lv_iload_n (k := 1) hx hb (by decide +kernel) rfl (lv_at hl 1 rfl) ?_
  refine W.bald hx hb q1 q2 q3 (fun h => ?_) (q6 _ h2) rfl rfl (show decode j_l1c.b 8 = .ok (.baload, 1) by decide +kernel) ?_
  · rcases h with h | h
    · exact h0 h
    · omega
  change W p l e _ s m _ below meth c s.heap [] 0 0 _ (F0 m 9 ls _)
  refine lv_sipush (n := 255) hx hb (by decide +kernel) (v := 255) rfl ?_
  refine lv_iand hx hb (by decide +kernel) ?_
  refine lv_i2c hx hb (by decide +kernel) (v := z) hz ?_
  exact W.zret (ty := .char) hx hb B.returns hn (fun t ht _ => ⟨rfl, ht⟩) (fun q hq => by cases hq) (by decide +kernel)
theorem j_length (l : Launch) (A : Nat → Prop) (a n : Nat) (f : Nat → Int32) (hn : Int32.ofNat n >>> ((0 : Int32) &&& 31) = Int32.ofNat n) : Met l j_len.y (wsJ j_len) (rmL 1) (PcJ [.ref a] (fun U => JS A a n f U ∧ JC A U)) (QcP (some (.int (Int32.ofNat n)))) 0 0 (fun _ => False) := by
  refine Met.ofW (cc := j_len.b) (maxL := j_len.ml) (ret := j_len.rt) (by decide) rfl ?_
  intro p e s m args below meth c s₁ B hml hv
  obtain ⟨rfl, hJ, hC⟩ := hv
  have hx := B.exec
  have hb := B.bytes
  have hlocks := B.notSynchronized
  have hts0 := atoms_spec (ws := wsJ j_len) B.pre
  have htg : ∀ w ∈ lwg, w.before _ s = true := fun w hw => hts0 w (List.mem_cons_of_mem _ hw)
  have hts : ∀ w ∈ jws, w.before _ s = true := fun w hw => htg w (jws_ok w hw)
  have hown : s.vm.findClass "java/lang/String" = some m.cls := findClass_of_methodNamed B.named
  have hl := lv_entry ([.ref a]) (n := j_len.ml) (Nat.le_of_ble_eq_true rfl)
  rw [lg_entry_eq]
  generalize (lg_sl ([.ref a]) ++ List.replicate (j_len.ml - (lg_sl ([.ref a])).length) Slot.unset).toArray = ls at hl ⊢
  have hl : lv_has ls 1 [(0, .ref a)] := hl
  obtain ⟨v, hV, hT⟩ := hJ.2.2
  refine lv_aload_n (k := 0) hx hb (by decide +kernel) rfl (lv_at hl 0 rfl) ?_
  refine vk_getf hx hb hV va_S.rf hown (hts _ (by decide +kernel : Cond.fieldLink "java/lang/String" 9 "java/lang/String" "value" "[B" ∈ jws)) (fun _ h => h) (by decide +kernel) ?_
  obtain ⟨cell, q1, q2, q3, q4, q5, q6, q7⟩ := hT
  refine W.alen hx hb q1 q2 q5 rfl rfl (show decode j_len.b 4 = .ok (.arraylength, 1) by decide +kernel) ?_
  change W p l e _ s m _ below meth c s.heap [] 0 0 _ (F0 m 5 ls _)
  refine lv_aload_n (k := 0) hx hb (by decide +kernel) rfl (lv_at hl 0 rfl) ?_
  refine W.pcall (rest := [.int (Int32.ofNat n)]) (va_runV (As := []) (b := a) (Ts := lwg) (own := "java/lang/String") ⟨hx, hb, hml, hown, htg⟩ (j_coder l A a n f) (cwV (C := "java/lang/String") 0 htg (fun w hw => ?_) rfl rfl rfl (by decide +kernel) ⟨Nat.le_of_ble_eq_true rfl, Nat.le_of_ble_eq_true rfl⟩) ⟨JP.blind JSC.same, va_Orecv hJ.1 va_S.rf, fun U hU hW => ⟨rfl, JSC.same s U hW.alike hU ⟨hJ, hC⟩⟩⟩ rfl rfl hl.1 rfl (Nat.le_of_ble_eq_true rfl) (show decode j_len.b 6 = .ok (.invokevirtual 335, 3) by decide +kernel) ⟨Nat.le_refl _, Nat.le_refl _⟩) ?_
  · rcases List.mem_append.mp (show w ∈ ([Cond.methodLink "java/lang/String" 335 j_cod.y, Cond.instanceMethod j_cod.y, Cond.selects "java/lang/String" j_cod.y j_cod.y, Cond.initialized "java/lang/String"] : List Cond) ++ wsJ j_cod from hw) with h | h
    · have : w ∈ lwg := jws_ok w (by revert w; decide +kernel)
      exact ⟨this, good_of_word (List.mem_filter.mp this).2⟩
    · exact jq_good (by decide +kernel) w h
  refine lv_ishr hx hb (by decide +kernel) ?_
  rw [show Int32.ofNat n >>> ((0 : Int32) &&& 31) = Int32.ofNat n from hn]
  exact W.iret hx hb B.returns (fun t ht _ => ⟨rfl, ht⟩) (fun q hq => by cases hq) (by decide +kernel)
theorem j_charAt (l : Launch) (A : Nat → Prop) (a n : Nat) (f : Nat → Int32) (i z : Int32) (h0 : ¬ i < 0) (h1 : i < Int32.ofNat n) (h2 : i.toNatClampNeg < n) (hz : ((f i.toNatClampNeg &&& 255).toUInt32 % 65536).toInt32 = z) (hn : narrow .char (.int z) = .int z) : Met l j_chr.y (wsJ j_chr) (rmL 3) (PcJ [.ref a, .int i] (fun U => JS A a n f U ∧ JC A U)) (QcP (some (.int z))) 0 0 (fun _ => False) := by
  refine Met.ofW (cc := j_chr.b) (maxL := j_chr.ml) (ret := j_chr.rt) (by decide) rfl ?_
  intro p e s m args below meth c s₁ B hml hv
  obtain ⟨rfl, hJ, hC⟩ := hv
  have hx := B.exec
  have hb := B.bytes
  have hlocks := B.notSynchronized
  have hts0 := atoms_spec (ws := wsJ j_chr) B.pre
  have htg : ∀ w ∈ lwg, w.before _ s = true := fun w hw => hts0 w (List.mem_cons_of_mem _ hw)
  have hts : ∀ w ∈ jws, w.before _ s = true := fun w hw => htg w (jws_ok w hw)
  have hown : s.vm.findClass "java/lang/String" = some m.cls := findClass_of_methodNamed B.named
  have hl := lv_entry ([.ref a, .int i]) (n := j_chr.ml) (Nat.le_of_ble_eq_true rfl)
  rw [lg_entry_eq]
  generalize (lg_sl ([.ref a, .int i]) ++ List.replicate (j_chr.ml - (lg_sl ([.ref a, .int i])).length) Slot.unset).toArray = ls at hl ⊢
  have hl : lv_has ls 2 [(0, .ref a), (1, .int i)] := hl
  obtain ⟨v, hV, hT⟩ := hJ.2.2
  refine lv_aload_n (k := 0) hx hb (by decide +kernel) rfl (lv_at hl 0 rfl) ?_
  refine W.pcall (rest := []) (va_runV (As := []) (b := a) (Ts := lwg) (own := "java/lang/String") ⟨hx, hb, hml, hown, htg⟩ (j_isLat l A a n f) (cwV (C := "java/lang/String") 0 htg (fun w hw => ?_) rfl rfl rfl (by decide +kernel) ⟨Nat.le_of_ble_eq_true rfl, Nat.le_of_ble_eq_true rfl⟩) ⟨JP.blind JSC.same, va_Orecv hJ.1 va_S.rf, fun U hU hW => ⟨rfl, JSC.same s U hW.alike hU ⟨hJ, hC⟩⟩⟩ rfl rfl hl.1 rfl (Nat.le_of_ble_eq_true rfl) (show decode j_chr.b 1 = .ok (.invokevirtual 492, 3) by decide +kernel) ⟨Nat.le_refl _, Nat.le_refl _⟩) ?_
  · rcases List.mem_append.mp (show w ∈ ([Cond.methodLink "java/lang/String" 492 j_lat.y, Cond.instanceMethod j_lat.y, Cond.selects "java/lang/String" j_lat.y j_lat.y, Cond.initialized "java/lang/String"] : List Cond) ++ wsJ j_lat from hw) with h | h
    · have : w ∈ lwg := jws_ok w (by revert w; decide +kernel)
      exact ⟨this, good_of_word (List.mem_filter.mp this).2⟩
    · exact jq_good (by decide +kernel) w h
  refine lv_if_eq (off := 12) hx hb (by decide +kernel) (tgt := 16) (by decide) (fun h => absurd h (by decide)) (fun _ => ?_)
  refine lv_aload_n (k := 0) hx hb (by decide +kernel) rfl (lv_at hl 0 rfl) ?_
  refine vk_getf hx hb hV va_S.rf hown (hts _ (by decide +kernel : Cond.fieldLink "java/lang/String" 9 "java/lang/String" "value" "[B" ∈ jws)) (fun _ h => h) (by decide +kernel) ?_
  refine lv_iload_n (k := 1) hx hb (by decide +kernel) rfl (lv_at hl 1 rfl) ?_
  refine W.pcall (rest := []) (va_runS (As := [.ref v, .int i]) (Ts := lwg) (own := "java/lang/String") ⟨hx, hb, hml, hown, htg⟩ (j_l1chr l A v n f i z h0 h1 h2 hz hn) (va_cwS 2 htg (fun w hw => ?_) rfl rfl rfl (by decide +kernel) ⟨Nat.le_refl _, Nat.le_of_ble_eq_true rfl⟩) ⟨JP.blind (fun _ _ hvm hh h => ⟨(h.1.moved hvm).kept (fun q _ _ => by rw [hh]), h.2.moved hvm (fun q _ _ => by rw [hh])⟩), fun U hU hW => ⟨rfl, (hT.moved hW.alike).kept (fun q _ _ => by rw [hU]), hC.moved hW.alike (fun q _ _ => by rw [hU])⟩⟩ rfl rfl hl.1 rfl (Nat.le_of_ble_eq_true rfl) (show decode j_chr.b 12 = .ok (.invokestatic 495, 3) by decide +kernel) ⟨Nat.le_refl _, Nat.le_refl _⟩) ?_
  · rcases List.mem_append.mp (show w ∈ ([Cond.methodLink "java/lang/String" 495 j_l1c.y, Cond.static j_l1c.y, Cond.initialized j_l1c.y.cls] : List Cond) ++ wsJ j_l1c from hw) with h | h
    · have : w ∈ lwg := jws_ok w (by revert w; decide +kernel)
      exact ⟨this, good_of_word (List.mem_filter.mp this).2⟩
    · exact jq_good (by decide +kernel) w h
  exact W.zret (ty := .char) hx hb B.returns hn (fun t ht _ => ⟨rfl, ht⟩) (fun q hq => by cases hq) (by decide +kernel)
theorem j_ordinal (l : Launch) (A : Nat → Prop) (a : Nat) (v : Int32) : Met l j_ord.y (wsJ j_ord) (rmL 0) (PcJ [.ref a] (fun U => va_OF "java/lang/Enum" "ordinal" "I" (.int v) a A U U.heap)) (QcP (some (.int v))) 0 0 (fun _ => False) := by
  refine Met.ofW (cc := j_ord.b) (maxL := j_ord.ml) (ret := j_ord.rt) (by decide) rfl ?_
  intro p e s m args below meth c s₁ B hml hv
  obtain ⟨rfl, hO⟩ := hv
  have hx := B.exec
  have hb := B.bytes
  have hlocks := B.notSynchronized
  have hts0 := atoms_spec (ws := wsJ j_ord) B.pre
  have htg : ∀ w ∈ lwg, w.before _ s = true := fun w hw => hts0 w (List.mem_cons_of_mem _ hw)
  have hts : ∀ w ∈ jws, w.before _ s = true := fun w hw => htg w (jws_ok w hw)
  have hown : s.vm.findClass "java/lang/Enum" = some m.cls := findClass_of_methodNamed B.named
  have hl := lv_entry ([.ref a]) (n := j_ord.ml) (Nat.le_of_ble_eq_true rfl)
  rw [lg_entry_eq]
  generalize (lg_sl ([.ref a]) ++ List.replicate (j_ord.ml - (lg_sl ([.ref a])).length) Slot.unset).toArray = ls at hl ⊢
  have hl : lv_has ls 1 [(0, .ref a)] := hl
  refine lv_aload_n (k := 0) hx hb (by decide +kernel) rfl (lv_at hl 0 rfl) ?_
  refine vk_getf hx hb hO va_S.rf hown (hts _ (by decide +kernel : Cond.fieldLink "java/lang/Enum" 7 "java/lang/Enum" "ordinal" "I" ∈ jws)) (fun _ h => h) (by decide +kernel) ?_
  exact W.iret hx hb B.returns (fun t ht _ => ⟨rfl, ht⟩) (fun q hq => by cases hq) (by decide +kernel)
