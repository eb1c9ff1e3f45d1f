/-! ===== new long[n][m], out of the machine's own text of the instruction: the outer array, then a row and its place in the outer array, n times ===== -/
def aoA (U : State) : Prop := (Cond.arrayOver (.array .long)).before #[] U = true
theorem aoA.moved {u U : State} (hvm : u.vm.Alike U.vm) (h : aoA u) : aoA U := by
  have h2 : (Cond.arrayOver (.array .long)).before #[] (u.setVm U.vm) = true := (Cond.arrayOver_setVmC (args := #[]) (s := u) hvm (.array .long)).trans h
  unfold aoA
  simp only [Cond.before, Cond.holds, Cond.value, State.vm_setVm] at h2 ⊢
  exact h2
theorem aoA.found {u : State} (h : aoA u) : ∃ (cA cB : ClassId) (kA : Class), u.vm.findClass ("[" ++ (FieldType.array .long).toString) = some cA ∧ u.vm.findClass (FieldType.array .long).toString = some cB ∧ u.vm.classes[cA]? = some kA ∧ kA.kind = .array cB (.array .long) := by
  unfold aoA at h
  simp only [Cond.before, Cond.holds, Cond.value, beq_iff_eq, Option.bind_eq_some_iff, Option.map_eq_some_iff] at h
  obtain ⟨cB, h1, cA, h2, kA, h3, h4⟩ := h
  obtain ⟨hlt, hp, -⟩ := Array.findIdx?_eq_some_iff_getElem.mp h2
  have hkk : u.vm.classes[cA] = kA := (Array.getElem?_eq_some_iff.mp h3).2
  rw [hkk] at hp
  cases hk : kA.kind with
  | array x ty =>
    rw [hk] at h4 hp
    simp at h4 hp
    exact ⟨cA, cB, kA, h4.2, h1, h3, by rw [hk, hp, h4.1]⟩
  | _ => rw [hk] at h4; simp at h4
/-- the outer array when i rows stand in it; a row; the state then -/
def mn_o (cA : ClassId) (N h i : Nat) : Cell := { cls := cA, slots := Array.ofFn (fun j : Fin N => if j.val < i then Value.ref (h + 1 + j.val) else Value.null), vm := .none }
def mn_i (cB : ClassId) (K : Nat) : Cell := { cls := cB, slots := Array.replicate K (Value.long 0), vm := .none }
def mn_s (S : State) (cA cB : ClassId) (N K : Nat) : Nat → State
  | 0 => S.pushCell (mn_o cA N S.heap.size 0)
  | i + 1 => ((mn_s S cA cB N K i).pushCell (mn_i cB K)).setCell S.heap.size (mn_o cA N S.heap.size (i + 1))
theorem mn_osz {cA : ClassId} {N h i : Nat} : (mn_o cA N h i).slots.size = N := by simp [mn_o]
theorem mn_isz {cB : ClassId} {K : Nat} : (mn_i cB K).slots.size = K := by simp [mn_i]
theorem mn_oat {cA : ClassId} {N h i j : Nat} (hj : j < N) : (mn_o cA N h i).slots[j]? = some (if j < i then Value.ref (h + 1 + j) else Value.null) := by simp [mn_o, hj]
theorem mn_o0 {cA : ClassId} {N h : Nat} : ({ cls := cA, slots := Array.replicate N Value.null } : Cell) = mn_o cA N h 0 := by
  have e : Array.replicate N Value.null = (mn_o cA N h 0).slots := by
    apply Array.ext_getElem?
    intro j
    by_cases hj : j < N
    · rw [mn_oat hj]; simp [hj]
    · rw [Array.getElem?_eq_none (by simp; omega), Array.getElem?_eq_none (by rw [mn_osz]; omega)]
  rw [e]; rfl
theorem mn_oS {cA : ClassId} {N h i : Nat} (hi : i < N) : (mn_o cA N h i).setSlot i (.ref (h + 1 + i)) = mn_o cA N h (i + 1) := by
  have e : (mn_o cA N h i).slots.setIfInBounds i (.ref (h + 1 + i)) = (mn_o cA N h (i + 1)).slots := by
    apply Array.ext_getElem?
    intro j
    by_cases hj : j < N
    · rw [mn_oat hj, Array.getElem?_setIfInBounds, mn_osz]
      by_cases e : i = j
      · subst e; simp [hi]
      · rw [if_neg e, mn_oat hj]
        by_cases h1 : j < i
        · rw [if_pos h1, if_pos (by omega)]
        · rw [if_neg h1, if_neg (by omega)]
    · rw [Array.getElem?_eq_none (by rw [Array.size_setIfInBounds, mn_osz]; omega), Array.getElem?_eq_none (by rw [mn_osz]; omega)]
  unfold Cell.setSlot
  rw [e]; rfl
section MNS
variable {S : State} {cA cB : ClassId} {N K : Nat}
theorem mn_vm : ∀ i, (mn_s S cA cB N K i).vm = S.vm
  | 0 => rfl
  | i + 1 => mn_vm i
theorem mn_tj : ∀ i, (mn_s S cA cB N K i).topJava? = S.topJava?
  | 0 => rfl
  | i + 1 => mn_tj i
theorem mn_us : ∀ i, (mn_s S cA cB N K i).slotsUsed = S.slotsUsed + N + i * K
  | 0 => by
    show S.slotsUsed + (mn_o cA N S.heap.size 0).slots.size = _
    rw [mn_osz, Nat.zero_mul]; rfl
  | i + 1 => by
    show (mn_s S cA cB N K i).slotsUsed + (mn_i cB K).slots.size = _
    rw [mn_us i, mn_isz, Nat.succ_mul]; omega
theorem mn_sz : ∀ i, (mn_s S cA cB N K i).heap.size = S.heap.size + 1 + i
  | 0 => by show (S.heap.push _).size = _; simp
  | i + 1 => by
    show (((mn_s S cA cB N K i).heap.push _).setIfInBounds _ _).size = _
    simp [mn_sz i]; omega
theorem mn_at : ∀ i, (mn_s S cA cB N K i).heap[S.heap.size]? = some (mn_o cA N S.heap.size i)
  | 0 => by show (S.heap.push _)[S.heap.size]? = _; simp
  | i + 1 => by
    show (((mn_s S cA cB N K i).heap.push _).setIfInBounds S.heap.size _)[S.heap.size]? = _
    rw [Array.getElem?_setIfInBounds, if_pos rfl, if_pos (by simp [mn_sz i]; omega)]
theorem mn_old {x : Nat} (hx : x < S.heap.size) : ∀ i, (mn_s S cA cB N K i).heap[x]? = S.heap[x]?
  | 0 => by
    show (S.heap.push _)[x]? = _
    rw [Array.getElem?_push, if_neg (by omega)]
  | i + 1 => by
    show (((mn_s S cA cB N K i).heap.push _).setIfInBounds S.heap.size _)[x]? = _
    rw [Array.getElem?_setIfInBounds, if_neg (by omega), Array.getElem?_push, if_neg (by rw [mn_sz i]; omega)]
    exact mn_old hx i
theorem mn_new : ∀ i j, j < i → (mn_s S cA cB N K i).heap[S.heap.size + 1 + j]? = some (mn_i cB K)
  | 0, _, h => absurd h (Nat.not_lt_zero _)
  | i + 1, j, h => by
    show (((mn_s S cA cB N K i).heap.push _).setIfInBounds S.heap.size _)[S.heap.size + 1 + j]? = _
    rw [Array.getElem?_setIfInBounds, if_neg (by omega), Array.getElem?_push, mn_sz i]
    by_cases e : j = i
    · rw [if_pos (by omega)]
    · rw [if_neg (by omega)]
      exact mn_new i j (by omega)
theorem mn_top (f : JFrame) : ∀ i, mn_s (S.setTop f) cA cB N K i = (mn_s S cA cB N K i).setTop f
  | 0 => rfl
  | i + 1 => by
    show ((mn_s (S.setTop f) cA cB N K i).pushCell (mn_i cB K)).setCell S.heap.size (mn_o cA N S.heap.size (i + 1)) = _
    rw [mn_top f i]; rfl
end MNS
section MNW
variable {S : State} {cA cB cc : ClassId} {kA kB : Class} {k n : Int32} {E : CtlPost} {e : Env} {acts : List Action}
theorem mn_row {d : Bool} {Q : Addr → Pre} (hk : S.vm.classes[cB]? = some kB) (hkd : kB.kind = .array cc .long) (hn : ¬ k < 0) (hl : ¬ k.toNatClampNeg > e.platform.arrayLengthLimit)
    (hh : ¬ k.toNatClampNeg * componentBytes .long > e.platform.maxHeapBytes) (hc : S.heap.size < e.platform.maxCells) (hs : S.slotsUsed + k.toNatClampNeg ≤ e.platform.maxSlots)
    (hq : ∀ acts', Q S.heap.size d acts' (S.pushCell (mn_i cB k.toNatClampNeg))) : wp (multianewarray.make cB [k]) Q E e d acts S := by
  simp only [multianewarray.make, wp_bind', Jvm.W.ite, hn, if_false, wp_pure', Jvm.W.theClass, hk, Option.some.injEq, exists_eq_left', hkd]
  exact Jvm.W.newArray_of hk hkd hl hh hc hs rfl hq
theorem mn_loop {N K : Nat} {Q : PUnit → Pre} (f : Nat → PUnit → Sem (ForInStep PUnit))
    (hf : ∀ i u, f i u = (multianewarray.make cB [k] >>= fun a => Jvm.writeLoc S.heap.size i (.ref a) >>= fun _ => Pure.pure (ForInStep.yield PUnit.unit)))
    (hK : k.toNatClampNeg = K) (hA : S.vm.classes[cA]? = some kA) (hAd : kA.kind = .array cB (.array .long))
    (hk : S.vm.classes[cB]? = some kB) (hkd : kB.kind = .array cc .long) (hn : ¬ k < 0) (hl : ¬ k.toNatClampNeg > e.platform.arrayLengthLimit)
    (hh : ¬ k.toNatClampNeg * componentBytes .long > e.platform.maxHeapBytes) (hc : S.heap.size + (1 + N) ≤ e.platform.maxCells) (hs : S.slotsUsed + (N + N * K) ≤ e.platform.maxSlots)
    (hq : ∀ d' acts', Q PUnit.unit d' acts' (mn_s S cA cB N K N)) : ∀ j i, i + j = N → ∀ d acts, wp (forIn (List.range' i j) PUnit.unit f) Q E e d acts (mn_s S cA cB N K i) := by
  subst hK
  intro j
  induction j with
  | zero =>
    intro i hi d acts
    simp only [List.range'_zero, List.forIn_nil, wp_pure']
    have e1 : i = N := by omega
    subst e1
    exact hq d acts
  | succ j ih =>
    intro i hi d acts
    have hm : i * k.toNatClampNeg + k.toNatClampNeg ≤ N * k.toNatClampNeg := by
      rw [← Nat.succ_mul]; exact Nat.mul_le_mul_right _ (by omega)
    simp only [List.range'_succ, List.forIn_cons, hf, wp_bind']
    refine mn_row (S := mn_s S cA cB N k.toNatClampNeg i) (by rw [mn_vm]; exact hk) hkd hn hl hh (by rw [mn_sz]; omega) (by rw [mn_us]; omega) (fun acts' => ?_)
    have ho : ((mn_s S cA cB N k.toNatClampNeg i).pushCell (mn_i cB k.toNatClampNeg)).heap[S.heap.size]? = some (mn_o cA N S.heap.size i) := by
      show ((mn_s S cA cB N k.toNatClampNeg i).heap.push _)[S.heap.size]? = _
      rw [Array.getElem?_push, if_neg (by rw [mn_sz]; omega)]
      exact mn_at i
    simp only [wp_bind', Jvm.W.writeLoc, wp_pure']
    refine ⟨mn_o cA N S.heap.size i, ho, (by intro h; cases h), (by rw [mn_osz]; omega), ?_, ?_⟩
    · simp [State.fitsSlot, State.slotType?, mn_vm, mn_o, hA, hAd, fits]
    · rw [mn_sz i, mn_oS (by omega)]
      exact ih (i + 1) (by omega) _ _
theorem mn_sem {N K index : Nat} {d : Bool} {Q : Unit → Pre} {f : JFrame} {rest : List Value} (ht : S.topJava?.isSome) (hr : S.vm.classReady f.method.cls index cA) (hst : f.stack = .int k :: .int n :: rest)
    (hN : n.toNatClampNeg = N) (hK : k.toNatClampNeg = K) (hA : S.vm.classes[cA]? = some kA) (hAd : kA.kind = .array cB (.array .long))
    (hk : S.vm.classes[cB]? = some kB) (hkd : kB.kind = .array cc .long) (hn0 : ¬ n < 0) (hn : ¬ k < 0) (hl0 : ¬ n.toNatClampNeg > e.platform.arrayLengthLimit) (hl : ¬ k.toNatClampNeg > e.platform.arrayLengthLimit)
    (hh0 : ¬ n.toNatClampNeg * componentBytes (.array .long) > e.platform.maxHeapBytes)
    (hh : ¬ k.toNatClampNeg * componentBytes .long > e.platform.maxHeapBytes) (hc : S.heap.size + (1 + N) ≤ e.platform.maxCells) (hs : S.slotsUsed + (N + N * K) ≤ e.platform.maxSlots)
    (hq : ∀ d' acts', Q () d' acts' ((mn_s S cA cB N K N).setTop { f with stack := .ref S.heap.size :: rest })) : wp (multianewarray.sem index 2) Q E e d acts (S.setTop f) := by
  subst hN
  subst hK
  have e1 : [k].find? (fun x => decide (x < 0)) = none := by simp [hn]
  simp only [multianewarray.sem, wp_bind', Jvm.W.resolveClassAt_ready (State.method?_setTop f ht) hr]
  refine (popN_top ht (args := [.int n, .int k]) (rest := rest) hst).mpr ?_
  simp only [List.mapM_cons, List.mapM_nil, wp_bind', wp_pure']
  rw [multianewarray.make]
  simp only [wp_bind', Jvm.W.ite, hn0, if_false, Jvm.W.theClass, State.vm_setTop, hA, Option.some.injEq, exists_eq_left', hAd]
  refine Jvm.W.newArray_of (s := S.setTop { f with stack := rest }) hA hAd hl0 hh0 (by show S.heap.size < _; omega) (by show S.slotsUsed + _ ≤ _; omega) rfl (fun acts1 => ?_)
  rw [mn_o0 (h := S.heap.size)]
  simp only [e1, ite_self, wp_bind', Std.Legacy.Range.forIn_eq_forIn_range']
  have hz : ([:n.toNatClampNeg] : Std.Legacy.Range).size = n.toNatClampNeg := by simp [Std.Legacy.Range.size]
  rw [hz]
  refine mn_loop (S := S.setTop { f with stack := rest }) (cA := cA) (cB := cB) (k := k) _ (fun i u => rfl) rfl hA hAd hk hkd hn hl hh hc hs (fun d2 acts2 => ?_) n.toNatClampNeg 0 (by omega) _ _
  simp only [wp_pure', wp_bind', Jvm.W.mark, Jvm.W.pushRef, mn_top]
  exact ⟨_, State.topJava?_setTop' _ (by rw [mn_tj]; exact ht), by rw [State.setTop_setTop]; exact hq _ _⟩
end MNW
section MNA
variable {p : Program} {l : Launch} {e : Env} {R : Room} {s : State} {m : MethodId} {args : Array Value} {below : List Frame} {meth : Method} {c : Code} {H : Heap} {T : State} {locs : List Loc} {cells slots : Nat} {Q : State → Prop} {cc : ByteArray} {pc : Nat} {ls : Array Slot} {rest : List Value}
theorem mn_stand (X : Stand p l e R s m args below meth c T locs cells slots) (cA cB : ClassId) (N K : Nat) : ∀ i, i ≤ N → Stand p l e R s m args below meth c (mn_s T cA cB N K i) locs (cells + 1 + i) (slots + N + i * K)
  | 0, _ => by
    have h := X.pushed (mn_o cA N T.heap.size 0)
    rw [mn_osz] at h
    rw [Nat.zero_mul]
    exact h
  | i + 1, hi => by
    have h := (mn_stand X cA cB N K i (by omega)).pushed (mn_i cB K)
    rw [mn_isz] at h
    have ho : ((mn_s T cA cB N K i).pushCell (mn_i cB K)).heap[T.heap.size]? = some (mn_o cA N T.heap.size i) := by
      show ((mn_s T cA cB N K i).heap.push _)[T.heap.size]? = _
      rw [Array.getElem?_push, if_neg (by rw [mn_sz]; omega)]
      exact mn_at i
    have h2 := h.stored ho i (.ref (T.heap.size + 1 + i))
    rw [mn_oS (by omega)] at h2
    have h3 := h2.dropFresh (fun x hx => by rw [List.mem_singleton.mp hx]; exact X.heapGrown)
    rw [Nat.succ_mul, ← Nat.add_assoc (slots + N)]
    exact h3
theorem W.mnaL (hexec : p.tables.exec = Jvm.exec) (hb : c.code = cc) {own C : String} {index : Nat} (hown : s.vm.findClass own = some m.cls) (hC : "[" ++ (FieldType.array .long).toString = C) (hclink : (Cond.classLink own index C).before args s = true) (hover : aoA s) (harr : (Cond.arrayClass .long).before args s = true)
    {n k : Int32} {N K h : Nat} (hh : H.size = h) (hn : ¬ n < 0) (hk : ¬ k < 0) (hN : n.toNatClampNeg = N) (hK : k.toNatClampNeg = K) (hb1 : N * 4 ≤ 536870912) (hb2 : K * 8 ≤ 536870912) (hcells : cells + (1 + N) ≤ R.cells) (hslots : slots + (N + N * K) ≤ R.slots) (hdg : decode cc pc = .ok (.multianewarray index 2, 4))
    (kk : ∀ (H' : Heap) (co ci : Cell), H'.size = h + 1 + N → (∀ q : Nat, q < h → H'[q]? = H[q]?) → H'[h]? = some co → s.isArrayOf co (.array .long) → co.vm ≠ .unknown → co.slots.size = N → (∀ j : Nat, j < N → co.slots[j]? = some (.ref (h + 1 + j))) →
      (∀ j : Nat, j < N → H'[h + 1 + j]? = some ci) → s.isArrayOf ci .long → ci.vm ≠ .unknown → ci.slots.size = K → (∀ j : Nat, j < K → ci.slots[j]? = some (.long 0)) →
      W p l e R s m args below meth c H' locs (cells + 1 + N) (slots + N + N * K) Q (F0 m (pc + 4) ls (.ref h :: rest))) : W p l e R s m args below meth c H locs cells slots Q (F0 m pc ls (.int k :: .int n :: rest)) := by
  subst hN; subst hK; subst hh; subst hC; subst hb
  intro T hT X
  have hpl : e.platform.magicAccessors = ({} : Platform).magicAccessors := by rw [X.admits.platform]
  obtain ⟨cA, cB, kA, fA, fB, hkA, hdA⟩ := hover.found
  obtain ⟨cB2, kB, cl, fB2, hkB, hdB⟩ := Cond.arrayClass_spec harr
  have eB : cB2 = cB := Option.some.inj (fB2.symm.trans fB)
  subst eB
  obtain ⟨cA2, fA2, hcl⟩ := Cond.classLink_spec hown hclink e.platform hpl
  have eA : cA2 = cA := Option.some.inj (fA2.symm.trans fA)
  subst eA
  obtain ⟨hg₁, hwarm₁, hready₁⟩ := State.classEntry (e := e) X.warmed hcl
  generalize T.vm.noted m.cls index (.cls cA2) = vm₁ at hg₁ hwarm₁ hready₁
  have hal : s.vm.Alike vm₁ := hwarm₁.alike
  have halT : s.vm.Alike T.vm := X.warmed.alike
  obtain ⟨kA₁, hkA₁, heA⟩ := hal.2.2 _ _ hkA
  obtain ⟨kB₁, hkB₁, heB⟩ := hal.2.2 _ _ hkB
  have hdA₁ : kA₁.kind = .array cB2 (.array .long) := by rw [heA]; exact hdA
  have hdB₁ : kB₁.kind = .array cl .long := by rw [heB]; exact hdB
  obtain ⟨hr1, hr2⟩ := X.roomAbove hcells hslots
  have X₁ := mn_stand (X.noted hwarm₁) cA2 cB2 n.toNatClampNeg k.toNatClampNeg n.toNatClampNeg (Nat.le_refl _)
  have hS : (T.setVm vm₁).heap.size = H.size := by rw [← hT]; rfl
  have hold : ∀ x : Nat, x < H.size → (mn_s (T.setVm vm₁) cA2 cB2 n.toNatClampNeg k.toNatClampNeg n.toNatClampNeg).heap[x]? = H[x]? := fun x hx => by
    rw [mn_old (by rw [hS]; exact hx), ← hT]; rfl
  obtain ⟨t, a1, b1⟩ := kk (mn_s (T.setVm vm₁) cA2 cB2 n.toNatClampNeg k.toNatClampNeg n.toNatClampNeg).heap (mn_o cA2 n.toNatClampNeg H.size n.toNatClampNeg) (mn_i cB2 k.toNatClampNeg)
    (by rw [mn_sz, hS]) hold (by rw [← hS]; exact mn_at _) ⟨fun _ h => (by cases h), kA, hkA, cB2, hdA⟩ (fun h => by cases h) mn_osz (fun j hj => by rw [mn_oat hj, if_pos hj])
    (fun j hj => by rw [← hS]; exact mn_new _ j hj) ⟨fun _ h => (by cases h), kB, hkB, cl, hdB⟩ (fun h => by cases h) mn_isz (fun j hj => by simp [mn_i, hj]) _ rfl X₁
  refine ⟨t, ?_, b1⟩
  refine Steps.instr (c := c) (by simpa using X.here) ?_
  rw [show decode c.code (F0 m pc ls (.int k :: .int n :: rest)).pc = .ok (.multianewarray index 2, 4) from hdg, hexec]
  show wp (multianewarray.sem index 2) _ _ e false [] (T.setTop (F0 m pc ls (.int k :: .int n :: rest)))
  have hcold : ∀ (Q0 : Unit → Pre) (E0 : CtlPost), wp (multianewarray.sem index 2) Q0 E0 e false [] ((T.setVm vm₁).setTop (F0 m pc ls (.int k :: .int n :: rest))) → wp (multianewarray.sem index 2) Q0 E0 e false [] (T.setTop (F0 m pc ls (.int k :: .int n :: rest))) := by
    intro Q0 E0 h0
    simp only [multianewarray.sem, wp_bind'] at h0 ⊢
    exact (W.resolveClassAt_transfer (s := T.setTop _) (State.method?_setTop _ X.here.top) hg₁ hready₁ (Vm.Alike.size_le (halT.symm.trans hal))).mpr h0
  apply hcold
  refine mn_sem (S := T.setVm vm₁) (f := F0 m pc ls (.int k :: .int n :: rest)) (rest := rest) X.here.top hready₁ rfl rfl rfl hkA₁ hdA₁ hkB₁ hdB₁ hn hk ?_ ?_ ?_ ?_ hr1 hr2 (fun d2 acts2 => ?_)
  · rw [Launch.admits_arrayLengthLimit X.admits]; omega
  · rw [Launch.admits_arrayLengthLimit X.admits]; omega
  · rw [Launch.admits_maxHeapBytes X.admits]; show ¬ n.toNatClampNeg * 4 > 536870912; omega
  · rw [Launch.admits_maxHeapBytes X.admits]; show ¬ k.toNatClampNeg * 8 > 536870912; omega
  · intro acts3
    rw [afterInstr_ok]
    rw [hS]
    exact a1
end MNA
