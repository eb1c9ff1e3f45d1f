/-! ===== the abstract machine: what a heap holds, in the words of a memory ===== -/
/-- classes' numbers, fields' slots, the cells' addresses, the first address of our own -/
abbrev EV : Type := (Nat → ClassId) × (Nat → Nat → Nat) × (Nat → Int → Nat) × Nat × Nat
/-- our own cells lie between two addresses -/
abbrev AA (E : EV) : Nat → Prop := fun q => E.2.2.2.1 ≤ q ∧ q < E.2.2.2.2
def enc (E : EV) : AV → Value
  | .inl x => .int (Int32.ofInt x)
  | .inr (.inl x) => .long (Int64.ofInt x)
  | .inr (.inr (g, t)) => .ref (E.2.2.1 g t)
def isO (g : Nat) : Prop := 1 ≤ g ∧ g ≤ 11
def isC (g : Nat) : Prop := 12 ≤ g ∧ g ≤ 14
def isA (g : Nat) : Prop := g ∈ gOwn ∨ g ∈ gCon
def isOwn (g : Nat) : Prop := isO g ∨ g ∈ gOwn
def vld (g : Nat) (t : Int) : Prop := (isO g ∨ isC g ∨ isA g) ∧ 0 ≤ t ∧ t < gn g
def aok : AV → Prop
  | .inl x => in32 x
  | .inr (.inl x) => in64 x
  | .inr (.inr (g, t)) => vld g t
/-- what a field's slot holds -/
def fval (E : EV) (g k : Nat) (t x : Int) : Value := match oY g k with
  | .long => .long (Int64.ofInt x)
  | .object _ => .ref (E.2.2.1 (fR g k).1 ((fR g k).2 + t))
  | .array _ => .ref (E.2.2.1 (fR g k).1 ((fR g k).2 + t))
  | _ => .int (Int32.ofInt x)
/-- what an array's place holds -/
def aval (E : EV) (g : Nat) (i x : Int) : Value := match gk g with
  | 2 => .long (Int64.ofInt x)
  | 3 => if (aT g).2.1 = 2 ∧ x < 0 then .null else .ref (E.2.2.1 (aT g).1 ((aT g).2.2 + (if (aT g).2.1 = 1 then i else x)))
  | _ => .int (Int32.ofInt x)
def fok (g k : Nat) (x : Int) : Prop := match oY g k with
  | .long => in64 x
  | .object _ => True
  | .array _ => True
  | _ => in32 x
def aaok (g : Nat) (x : Int) : Prop := match gk g with
  | 2 => in64 x
  | 3 => (aT g).2.1 = 2 → -1 ≤ x ∧ x < gn (aT g).1
  | _ => in32 x
def MOK (M : AMem) : Prop := (∀ (g : Nat) (t : Int) (k : Nat), isO g → 0 ≤ t → t < gn g → k < oN g → fok g k (M g t k)) ∧ (∀ (g : Nat) (t i : Int), isA g → 0 ≤ t → t < gn g → 0 ≤ i → i < gl g → aaok g (M g t i)) ∧ ∀ (g : Nat) (t : Int) (i : Nat), g ∈ gCon → gk g = 0 → i < gl g → M g t i = (conL g).getD i 0
/-- an array's class; where it holds objects, the class of them -/
def ArrC (o : Prop) (U : State) (cell : Cell) (ty : FieldType) : Prop := U.isArrayOf cell ty ∧ (o → ∀ C : String, ty = .object C → ∃ (kA : Class) (comp : ClassId), U.vm.classes[cell.cls]? = some kA ∧ kA.kind = .array comp (.object C) ∧ U.vm.findClass C = some comp)
/-- an array in the heap -/
def ArrK (o : Prop) (U : State) (H : Heap) (a : Nat) (ty : FieldType) (n : Nat) (f : Nat → Value) : Prop := ∃ cell : Cell, H[a]? = some cell ∧ ArrC o U cell ty ∧ cell.vm ≠ .unknown ∧ n ≤ cell.slots.size ∧ cell.slots.size.toInt32 = Int32.ofNat n ∧ ∀ j : Nat, j < n → cell.slots[j]? = some (f j)
def ObjK (E : EV) (H : Heap) (g : Nat) (t : Int) (M : AMem) : Prop := t_OB (E.2.2.1 g t) (E.1 g) (oN g) (E.2.1 g) H (fun k => fval E g k t (M g t k))
def RepK (E : EV) (U : State) (H : Heap) (M : AMem) : Prop := (∀ (g : Nat) (t : Int), isO g → 0 ≤ t → t < gn g → ObjK E H g t M) ∧ ∀ (g : Nat) (t : Int), isA g → 0 ≤ t → t < gn g → ArrK (g ∈ gOwn) U H (E.2.2.1 g t) (aY g) (gl g) (fun j => aval E g j (M g t j))
def InjK (E : EV) : Prop := ((∀ (g g' : Nat) (t t' : Int), isOwn g → vld g t → vld g' t' → E.2.2.1 g t = E.2.2.1 g' t' → g = g' ∧ t = t') ∧ ∀ (g : Nat) (t t' : Int), g = 12 ∨ g = 13 → vld g t → vld g t' → E.2.2.1 g t = E.2.2.1 g t' → t = t') ∧ ∀ (g : Nat) (t : Int), isOwn g → 0 ≤ t → t < gn g → AA E (E.2.2.1 g t)
def JS (A : Nat → Prop) (a n : Nat) (f : Nat → Int32) (U : State) : Prop := va_O "java/lang/String" a A U U.heap ∧ va_OF "java/lang/String" "coder" "B" (.int 0) a A U U.heap ∧ ∃ v : Nat, va_OF "java/lang/String" "value" "[B" (.ref v) a A U U.heap ∧ va_T .byte v n (fun j => .int (f j)) A U U.heap
def JC (A : Nat → Prop) (U : State) : Prop := va_Z "java/lang/String" "COMPACT_STRINGS" "Z" (.int 1) A U U.heap ∧ va_Zq "jdk/internal/util/Preconditions" "SIOOBE_FORMATTER" "Ljava/util/function/BiFunction;" A U U.heap
theorem JS.moved {A : Nat → Prop} {a n : Nat} {f : Nat → Int32} {u U : State} (hvm : u.vm.Alike U.vm) (hh : ∀ q : Nat, q < u.heap.size → ¬ A q → U.heap[q]? = u.heap[q]?) (h : JS A a n f u) : JS A a n f U := by
  obtain ⟨h1, h2, v, h3, h4⟩ := h
  exact ⟨(h1.moved hvm).kept hh, (h2.moved hvm).kept hh, v, (h3.moved hvm).kept hh, (h4.moved hvm).kept hh⟩
theorem JC.moved {A : Nat → Prop} {u U : State} (hvm : u.vm.Alike U.vm) (hh : ∀ q : Nat, q < u.heap.size → ¬ A q → U.heap[q]? = u.heap[q]?) (h : JC A u) : JC A U := ⟨(h.1.moved hvm).kept hh, (h.2.moved hvm).kept hh⟩
/-- the words' text -/
def wdT : String := "mode event resource counter task isr alarm internal as max base least priority level uses on starts sets calls auto in every whole limit waits "
/-- what is known of constants: the objects of Kind and Role, the strings -/
def CoK (E : EV) (U : State) : Prop :=
  (∀ t : Int, 0 ≤ t → t < 30 → va_O "StaticKernel$Kind" (E.2.2.1 12 t) (AA E) U U.heap ∧ va_OF "java/lang/Enum" "ordinal" "I" (.int (Int32.ofInt t)) (E.2.2.1 12 t) (AA E) U U.heap ∧ va_OF "StaticKernel$Kind" "word" "Ljava/lang/String;" (.ref (E.2.2.1 14 (kwd t))) (E.2.2.1 12 t) (AA E) U U.heap) ∧
  (∀ t : Int, 0 ≤ t → t < 19 → va_O "StaticKernel$Role" (E.2.2.1 13 t) (AA E) U U.heap ∧ va_OF "java/lang/Enum" "ordinal" "I" (.int (Int32.ofInt t)) (E.2.2.1 13 t) (AA E) U U.heap ∧ va_OF "StaticKernel$Role" "wanted" "I" (.int (Int32.ofInt (rwt t))) (E.2.2.1 13 t) (AA E) U U.heap) ∧
  (∀ t : Int, 0 ≤ t → t < 27 → JS (AA E) (E.2.2.1 14 t) (sLen t) (fun j => Int32.ofInt (sByt t j)) U) ∧ JC (AA E) U ∧ vk_R "StaticKernelModel" 36 wdT (E.2.2.1 14 0) U
theorem CoK.moved {E : EV} {u U : State} (hvm : u.vm.Alike U.vm) (hh : ∀ a : Nat, a < u.heap.size → ¬ AA E a → U.heap[a]? = u.heap[a]?) (hs : vk_R "StaticKernelModel" 36 wdT (E.2.2.1 14 0) u → vk_R "StaticKernelModel" 36 wdT (E.2.2.1 14 0) U) (h : CoK E u) : CoK E U :=
  ⟨fun t a b => ⟨((h.1 t a b).1.moved hvm).kept hh, ((h.1 t a b).2.1.moved hvm).kept hh, ((h.1 t a b).2.2.moved hvm).kept hh⟩, fun t a b => ⟨((h.2.1 t a b).1.moved hvm).kept hh, ((h.2.1 t a b).2.1.moved hvm).kept hh, ((h.2.1 t a b).2.2.moved hvm).kept hh⟩, fun t a b => (h.2.2.1 t a b).moved hvm hh, h.2.2.2.1.moved hvm hh, hs h.2.2.2.2⟩
/-- what stays: the classes, the addresses, the statics -/
def EnvK (E : EV) (U : State) : Prop := (∀ g : Nat, isO g → u_Kn U (oC g) (oT g) (oN g) (E.1 g) (E.2.1 g)) ∧ InjK E ∧ (∀ q ∈ gs, va_Z q.1 q.2.1 q.2.2.1 (enc E q.2.2.2) (AA E) U U.heap) ∧ (∀ q ∈ gfn, va_Nw (.fieldLinkNest q.1 q.2.1 q.2.2.1 q.2.2.2.1 q.2.2.2.2.1 q.2.2.2.2.2) U) ∧ (∀ q ∈ gmn, va_Nw (.methodLinkNest q.1 q.2.1 q.2.2.1 q.2.2.2) U) ∧ CoK E U
/-- the tables' words that a method may take along -/
def lwg : List Cond := lw_tbl.filter goodWord
theorem EnvK.moved {E : EV} {u U : State} (hW : u.WarmedH U.vm) (hh : ∀ a : Nat, a < u.heap.size → ¬ AA E a → U.heap[a]? = u.heap[a]?) (h : EnvK E u) : EnvK E U :=
  ⟨fun g hg => u_Kn_moved hW.alike (h.1 g hg), h.2.1, fun q hq => ((h.2.2.1 q hq).moved hW.alike).kept hh, fun q hq => (h.2.2.2.1 q hq).warmF hW, fun q hq => (h.2.2.2.2.1 q hq).warmM hW, h.2.2.2.2.2.moved hW.alike hh (fun z => z.warm hW)⟩
theorem EnvK.same {E : EV} {u U : State} (hv : u.vm = U.vm) (hh : U.heap = u.heap) (h : EnvK E u) : EnvK E U :=
  ⟨fun g hg => u_Kn_moved (by rw [hv]; exact Vm.Alike.refl _) (h.1 g hg), h.2.1, fun q hq => ((h.2.2.1 q hq).moved (by rw [hv]; exact Vm.Alike.refl _)).kept (fun a _ _ => by rw [hh]), fun q hq => (h.2.2.2.1 q hq).same rfl hv, fun q hq => (h.2.2.2.2.1 q hq).same rfl hv, h.2.2.2.2.2.moved (by rw [hv]; exact Vm.Alike.refl _) (fun a _ _ => by rw [hh]) (fun z => z.same hv.symm)⟩
theorem ArrK.moved {o : Prop} {u U : State} (hvm : u.vm.Alike U.vm) {H : Heap} {a : Nat} {ty : FieldType} {n : Nat} {f : Nat → Value} (h : ArrK o u H a ty n f) : ArrK o U H a ty n f := by
  obtain ⟨cell, h1, h2, h3⟩ := h
  refine ⟨cell, h1, ⟨State.isArrayOf_alike hvm h2.1, fun ho C hC => ?_⟩, h3⟩
  obtain ⟨kA, comp, g1, g2, g3⟩ := h2.2 ho C hC
  obtain ⟨k', hk', he⟩ := hvm.2.2 _ _ g1
  exact ⟨k', comp, hk', by rw [he]; exact g2, by rw [hvm.findClass]; exact g3⟩
theorem RepK.moved {E : EV} {u U : State} (hvm : u.vm.Alike U.vm) {H : Heap} {M : AMem} (h : RepK E u H M) : RepK E U H M := ⟨h.1, fun g t a b c => (h.2 g t a b c).moved hvm⟩
/-- the local variables -/
abbrev Lc : Type := List (Option AV)
def lcat (v : AV) : Nat := match v with
  | .inr (.inl _) => 2
  | _ => 1
def LH (E : EV) (ls : Array Slot) (nL : Nat) (loc : Lc) : Prop := ls.size = nL ∧ loc.length = nL ∧ lv_wf ls ∧ ∀ (i : Nat) (v : AV), loc[i]? = some (some v) → (lcat v = 2 → loc[i + 1]? = some none) → ls[i]? = some (.val (enc E v))
def lok (loc : Lc) : Prop := ∀ v : AV, some v ∈ loc → aok v
def sok (stk : List AV) : Prop := ∀ v ∈ stk, aok v
def Cf (E : EV) (s : State) (H : Heap) (locs : List Loc) (M : AMem) : Prop := va_S (AA E) s.heap H locs ∧ H.size = s.heap.size ∧ RepK E s H M ∧ MOK M
theorem enc_cat (E : EV) (v : AV) : (enc E v).category = lcat v := by
  match v with
  | .inl _ => rfl
  | .inr (.inl _) => rfl
  | .inr (.inr (_, _)) => rfl
section CW
variable {p : Program} {l : Launch} {e : Env} {R : Room} {s : State} {m : MethodId} {args : Array Value} {below : List Frame} {meth : Method} {c : Code} {Q : State → Prop} {E : EV} {cc : ByteArray} {nL pc : Nat} {loc : Lc} {stk : List AV} {M : AMem}
def Wi (p : Program) (l : Launch) (e : Env) (R : Room) (s : State) (m : MethodId) (args : Array Value) (below : List Frame) (meth : Method) (c : Code) (Q : State → Prop) (E : EV) (nL pc : Nat) (loc : Lc) (stk : List AV) (M : AMem) : Prop :=
  ∀ (H : Heap) (locs : List Loc) (ls : Array Slot), Cf E s H locs M → LH E ls nL loc → lok loc → sok stk → W p l e R s m args below meth c H locs 0 0 Q (F0 m pc ls (stk.map (enc E)))
theorem Wi.push {a : AV} {n : Nat} (ha : aok a)
    (row : ∀ (H : Heap) (locs : List Loc) (ls : Array Slot) (rest : List Value), Cf E s H locs M → LH E ls nL loc → W p l e R s m args below meth c H locs 0 0 Q (F0 m (pc + n) ls (enc E a :: rest)) → W p l e R s m args below meth c H locs 0 0 Q (F0 m pc ls rest))
    (k : Wi p l e R s m args below meth c Q E nL (pc + n) loc (a :: stk) M) : Wi p l e R s m args below meth c Q E nL pc loc stk M := by
  intro H locs ls hC hL hl hs
  exact row _ _ _ _ hC hL (k H locs ls hC hL hl (List.forall_mem_cons.mpr ⟨ha, hs⟩))
theorem Wi.top1 {a b : AV} {n : Nat} (ha : aok a → aok b)
    (row : ∀ (H : Heap) (locs : List Loc) (ls : Array Slot) (rest : List Value), Cf E s H locs M → aok a → W p l e R s m args below meth c H locs 0 0 Q (F0 m (pc + n) ls (enc E b :: rest)) → W p l e R s m args below meth c H locs 0 0 Q (F0 m pc ls (enc E a :: rest)))
    (k : Wi p l e R s m args below meth c Q E nL (pc + n) loc (b :: stk) M) : Wi p l e R s m args below meth c Q E nL pc loc (a :: stk) M := by
  intro H locs ls hC hL hl hs
  obtain ⟨h1, h2⟩ := List.forall_mem_cons.mp hs
  exact row _ _ _ _ hC h1 (k H locs ls hC hL hl (List.forall_mem_cons.mpr ⟨ha h1, h2⟩))
theorem Wi.top2 {a1 a2 b : AV} {n : Nat} (ha : aok a1 → aok a2 → aok b)
    (row : ∀ (H : Heap) (locs : List Loc) (ls : Array Slot) (rest : List Value), Cf E s H locs M → aok a1 → aok a2 → W p l e R s m args below meth c H locs 0 0 Q (F0 m (pc + n) ls (enc E b :: rest)) → W p l e R s m args below meth c H locs 0 0 Q (F0 m pc ls (enc E a1 :: enc E a2 :: rest)))
    (k : Wi p l e R s m args below meth c Q E nL (pc + n) loc (b :: stk) M) : Wi p l e R s m args below meth c Q E nL pc loc (a1 :: a2 :: stk) M := by
  intro H locs ls hC hL hl hs
  obtain ⟨h1, h2⟩ := List.forall_mem_cons.mp hs
  obtain ⟨h3, h4⟩ := List.forall_mem_cons.mp h2
  exact row _ _ _ _ hC h1 h3 (k H locs ls hC hL hl (List.forall_mem_cons.mpr ⟨ha h1 h3, h4⟩))
def ents (E : EV) (loc : Lc) : List (Nat × Value) := (List.range loc.length).filterMap fun i => match loc[i]? with
  | some (some v) => if lcat v = 2 ∧ loc[i + 1]? ≠ some none then none else some (i, enc E v)
  | _ => none
theorem ents_mem {i : Nat} {w : Value} : (i, w) ∈ ents E loc ↔ ∃ v : AV, loc[i]? = some (some v) ∧ (lcat v = 2 → loc[i + 1]? = some none) ∧ w = enc E v := by
  unfold ents
  rw [List.mem_filterMap]
  constructor
  · rintro ⟨j, hj, h⟩
    split at h
    · rename_i v hv
      split at h
      · cases h
      · rename_i hn
        injection h with h
        injection h with h1 h2
        subst h1
        refine ⟨v, hv, fun hc => ?_, h2.symm⟩
        by_cases hq : loc[j + 1]? = some none
        · exact hq
        · exact absurd ⟨hc, hq⟩ hn
    · cases h
  · rintro ⟨v, hv, hc, rfl⟩
    refine ⟨i, List.mem_range.mpr (List.getElem?_eq_some_iff.mp hv).1, ?_⟩
    rw [hv]
    dsimp only
    rw [if_neg (fun q => q.2 (hc q.1))]
theorem LH.has {ls : Array Slot} (h : LH E ls nL loc) : lv_has ls nL (ents E loc) := by
  refine ⟨h.1, h.2.2.1, fun q hq => ?_⟩
  obtain ⟨i, w⟩ := q
  obtain ⟨v, hv, hc, rfl⟩ := ents_mem.mp hq
  exact h.2.2.2 i v hv hc
theorem LH.set1 {ls : Array Slot} {i : Nat} {v : AV} (hlen : loc.length = nL) (hi : i < nL) (hv : lcat v = 1) (h : lv_has ls nL ((i, enc E v) :: (ents E loc).filter (fun q => !(q.1 == i) && !(q.1 + 1 == i && q.2.category == 2)))) : LH E ls nL (loc.set i (some v)) := by
  refine ⟨h.1, by rw [List.length_set]; exact hlen, h.2.1, fun j w hw hc => ?_⟩
  by_cases hj : j = i
  · subst hj
    rw [List.getElem?_set_self (by rw [hlen]; exact hi)] at hw
    injection hw with hw
    injection hw with hw
    subst hw
    exact h.2.2 (j, enc E v) List.mem_cons_self
  · rw [List.getElem?_set_ne (Ne.symm hj)] at hw
    refine h.2.2 (j, enc E w) (List.mem_cons_of_mem _ (List.mem_filter.mpr ⟨ents_mem.mpr ⟨w, hw, fun c2 => ?_, rfl⟩, ?_⟩))
    · have := hc c2
      by_cases hj1 : j + 1 = i
      · rw [hj1, List.getElem?_set_self (by rw [hlen]; exact hi)] at this
        injection this with this
        cases this
      · rwa [List.getElem?_set_ne (Ne.symm hj1)] at this
    · by_cases hj1 : j + 1 = i
      · by_cases c2 : lcat w = 2
        · have := hc c2
          rw [hj1, List.getElem?_set_self (by rw [hlen]; exact hi)] at this
          injection this with this
          cases this
        · simp [hj, enc_cat, c2]
      · simp [hj, hj1]
theorem LH.set2 {ls : Array Slot} {i : Nat} {v : AV} (hlen : loc.length = nL) (hi : i + 1 < nL) (h : lv_has ls nL ((i, enc E v) :: (ents E loc).filter (fun q => !(q.1 == i) && (!(q.1 == i + 1) && !(q.1 + 1 == i && q.2.category == 2))))) : LH E ls nL ((loc.set i (some v)).set (i + 1) none) := by
  refine ⟨h.1, by rw [List.length_set, List.length_set]; exact hlen, h.2.1, fun j w hw hc => ?_⟩
  by_cases hj1 : j = i + 1
  · subst hj1
    rw [List.getElem?_set_self (by rw [List.length_set, hlen]; exact hi)] at hw
    injection hw with hw
    cases hw
  rw [List.getElem?_set_ne (Ne.symm hj1)] at hw
  by_cases hj : j = i
  · subst hj
    rw [List.getElem?_set_self (by rw [hlen]; omega)] at hw
    injection hw with hw
    injection hw with hw
    subst hw
    exact h.2.2 (j, enc E v) List.mem_cons_self
  · rw [List.getElem?_set_ne (Ne.symm hj)] at hw
    have hcc : lcat w = 2 → j + 1 ≠ i ∧ loc[j + 1]? = some none := by
      intro c2
      have := hc c2
      rw [List.getElem?_set_ne (by omega)] at this
      by_cases hj2 : j + 1 = i
      · rw [hj2, List.getElem?_set_self (by rw [hlen]; omega)] at this
        injection this with this
        cases this
      · rw [List.getElem?_set_ne (Ne.symm hj2)] at this
        exact ⟨hj2, this⟩
    refine h.2.2 (j, enc E w) (List.mem_cons_of_mem _ (List.mem_filter.mpr ⟨ents_mem.mpr ⟨w, hw, fun c2 => (hcc c2).2, rfl⟩, ?_⟩))
    by_cases c2 : lcat w = 2
    · simp [hj, hj1, (hcc c2).1]
    · simp [hj, hj1, enc_cat, c2]
theorem lok_set {i : Nat} {o : Option AV} (h : lok loc) (ho : ∀ v, o = some v → aok v) : lok (loc.set i o) := by
  intro v hv
  rcases List.mem_or_eq_of_mem_set hv with h1 | h1
  · exact h v h1
  · exact ho v h1.symm
/-- fewer variables are known -/
def lle (a b : Lc) : Prop := a.length = b.length ∧ ∀ (i : Nat) (v : AV), a[i]? = some (some v) → b[i]? = some (some v) ∧ (lcat v = 2 → b[i + 1]? = some none)
theorem Wi.less {loc' : Lc} (h : lle loc' loc) (k : Wi p l e R s m args below meth c Q E nL pc loc' stk M) : Wi p l e R s m args below meth c Q E nL pc loc stk M := by
  intro H locs ls hC hL hl hs
  refine k H locs ls hC ⟨hL.1, h.1.trans hL.2.1, hL.2.2.1, fun i v hv _ => ?_⟩ (fun v hv => ?_) hs
  · exact hL.2.2.2 i v (h.2 i v hv).1 (h.2 i v hv).2
  · obtain ⟨i, hi⟩ := List.getElem?_of_mem hv
    exact hl v (List.mem_of_getElem? (h.2 i v hi).1)
/-- what is known of the numbers -/
theorem Wi.know (k : MOK M → lok loc → sok stk → Wi p l e R s m args below meth c Q E nL pc loc stk M) : Wi p l e R s m args below meth c Q E nL pc loc stk M := by
  intro H locs ls hC hL hl hs
  exact k hC.2.2.2 hl hs H locs ls hC hL hl hs
theorem Wi.load {a : AV} {i n : Nat} (hv : loc[i]? = some (some a)) (hc : lcat a = 2 → loc[i + 1]? = some none)
    (row : ∀ (H : Heap) (locs : List Loc) (ls : Array Slot) (rest : List Value), ls[i]? = some (.val (enc E a)) → W p l e R s m args below meth c H locs 0 0 Q (F0 m (pc + n) ls (enc E a :: rest)) → W p l e R s m args below meth c H locs 0 0 Q (F0 m pc ls rest))
    (k : Wi p l e R s m args below meth c Q E nL (pc + n) loc (a :: stk) M) : Wi p l e R s m args below meth c Q E nL pc loc stk M := by
  intro H locs ls hC hL hl hs
  exact row _ _ _ _ (hL.2.2.2 i a hv hc) (k H locs ls hC hL hl (List.forall_mem_cons.mpr ⟨hl a (List.mem_of_getElem? hv), hs⟩))
theorem Wi.store1 {a : AV} {i n : Nat} (hi : i < nL) (hv : lcat a = 1)
    (row : ∀ (H : Heap) (locs : List Loc) (ls : Array Slot) (rest : List Value) (lv : List (Nat × Value)), lv_has ls nL lv → (∀ ls' : Array Slot, lv_has ls' nL ((i, enc E a) :: lv.filter (fun q => !(q.1 == i) && !(q.1 + 1 == i && q.2.category == 2))) → W p l e R s m args below meth c H locs 0 0 Q (F0 m (pc + n) ls' rest)) → W p l e R s m args below meth c H locs 0 0 Q (F0 m pc ls (enc E a :: rest)))
    (k : Wi p l e R s m args below meth c Q E nL (pc + n) (loc.set i (some a)) stk M) : Wi p l e R s m args below meth c Q E nL pc loc (a :: stk) M := by
  intro H locs ls hC hL hl hs
  obtain ⟨h1, h2⟩ := List.forall_mem_cons.mp hs
  refine row _ _ _ _ _ hL.has (fun ls' h' => ?_)
  exact k H locs ls' hC (LH.set1 hL.2.1 hi hv h') (lok_set hl (fun v h => by injection h with h; subst h; exact h1)) h2
theorem Wi.store2 {a : AV} {i n : Nat} (hi : i + 1 < nL)
    (row : ∀ (H : Heap) (locs : List Loc) (ls : Array Slot) (rest : List Value) (lv : List (Nat × Value)), lv_has ls nL lv → (∀ ls' : Array Slot, lv_has ls' nL ((i, enc E a) :: lv.filter (fun q => !(q.1 == i) && (!(q.1 == i + 1) && !(q.1 + 1 == i && q.2.category == 2)))) → W p l e R s m args below meth c H locs 0 0 Q (F0 m (pc + n) ls' rest)) → W p l e R s m args below meth c H locs 0 0 Q (F0 m pc ls (enc E a :: rest)))
    (k : Wi p l e R s m args below meth c Q E nL (pc + n) ((loc.set i (some a)).set (i + 1) none) stk M) : Wi p l e R s m args below meth c Q E nL pc loc (a :: stk) M := by
  intro H locs ls hC hL hl hs
  obtain ⟨h1, h2⟩ := List.forall_mem_cons.mp hs
  refine row _ _ _ _ _ hL.has (fun ls' h' => ?_)
  exact k H locs ls' hC (LH.set2 hL.2.1 hi h') (lok_set (lok_set hl (fun v h => by injection h with h; subst h; exact h1)) (fun v h => by cases h)) h2
end CW
