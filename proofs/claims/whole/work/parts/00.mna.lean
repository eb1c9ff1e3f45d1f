/-! ===== new long[n][m]: the row, cell by cell ===== -/
def aoA (U : State) : Prop := (Cond.arrayOver (.array .long)).before #[] U = true
theorem aoA.moved {u U : State} (hvm : u.vm.Alike U.vm) (h : aoA u) : aoA U := Jvm.Stand.arrayOver_alikeB hvm h
section MNA
variable {p : Program} {l : Launch} {e : Env} {R : Room} {s : State} {m : MethodId} {args : Array Value} {below : List Frame} {meth : Method} {c : Code} {H : Heap} {locs : List Loc} {cells slots : Nat} {Q : State → Prop} {cc : ByteArray} {pc : Nat} {ls : Array Slot} {rest : List Value}
theorem W.mnaL (hexec : p.tables.exec = Jvm.exec) (hb : c.code = cc) {own C : String} {index : Nat} (hown : s.vm.findClass own = some m.cls) (hC : "[" ++ (FieldType.array .long).toString = C) (hclink : (Cond.classLink own index C).before args s = true) (hover : aoA s) (harr : (Cond.arrayClass .long).before args s = true)
    {n k : Int32} {N K h : Nat} (hh : H.size = h) (hn : ¬ n < 0) (hk : ¬ k < 0) (hN : n.toNatClampNeg = N) (hK : k.toNatClampNeg = K) (hb1 : N * 4 ≤ 536870912) (hb2 : K * 8 ≤ 536870912) (hcells : cells + (1 + N) ≤ R.cells) (hslots : slots + (N + N * K) ≤ R.slots) (hdg : decode cc pc = .ok (.multianewarray index 2, 4))
    (kk : ∀ (H' : Heap) (co ci : Cell), H'.size = h + 1 + N → (∀ q : Nat, q < h → H'[q]? = H[q]?) → H'[h]? = some co → s.isArrayOf co (.array .long) → co.vm ≠ .unknown → co.slots.size = N → (∀ j : Nat, j < N → co.slots[j]? = some (.ref (h + 1 + j))) →
      (∀ j : Nat, j < N → H'[h + 1 + j]? = some ci) → s.isArrayOf ci .long → ci.vm ≠ .unknown → ci.slots.size = K → (∀ j : Nat, j < K → ci.slots[j]? = some (.long 0)) →
      W p l e R s m args below meth c H' locs (cells + 1 + N) (slots + N + N * K) Q (F0 m (pc + 4) ls (.ref h :: rest))) : W p l e R s m args below meth c H locs cells slots Q (F0 m pc ls (.int k :: .int n :: rest)) := by
  subst hN; subst hK; subst hh; subst hC
  intro T hT Xs
  obtain ⟨vm₁, cA, comp, -, fA, fC, hO, hI, X', step⟩ := Xs.multianewarray2F (ty := .long) hexec hown hclink hover harr (g := F0 m pc ls (.int k :: .int n :: rest)) rfl (by rw [hb]; exact hdg) rfl hn hk hb1 hb2 (by omega) rfl rfl hcells hslots
  have hTh : (T.setVm vm₁).heap = H := hT
  obtain ⟨f1, f2, -, -⟩ := Jvm.Free.Multi.fill_facts (T.setVm vm₁) cA comp n.toNatClampNeg k.toNatClampNeg (defaultValue .long) n.toNatClampNeg
  rw [hTh] at f1 f2
  have hold : ∀ x : Nat, x < H.size → (Jvm.Free.Multi.fill (T.setVm vm₁) cA comp n.toNatClampNeg k.toNatClampNeg (defaultValue .long) n.toNatClampNeg).heap[x]? = H[x]? := fun x hx => by
    have := Jvm.Free.Multi.fill_old (T.setVm vm₁) cA comp n.toNatClampNeg k.toNatClampNeg (defaultValue .long) (a := x) (by rw [hTh]; exact hx) n.toNatClampNeg
    rw [hTh] at this
    exact this
  have hrow : ∀ j : Nat, j < n.toNatClampNeg → (Jvm.Free.Multi.fill (T.setVm vm₁) cA comp n.toNatClampNeg k.toNatClampNeg (defaultValue .long) n.toNatClampNeg).heap[H.size + 1 + j]? = some (Jvm.Free.Multi.innerC comp k.toNatClampNeg (defaultValue .long)) := fun j hj => by
    have := Jvm.Free.Multi.fill_inner (T.setVm vm₁) cA comp n.toNatClampNeg k.toNatClampNeg (defaultValue .long) n.toNatClampNeg j hj
    rw [hTh] at this
    exact this
  obtain ⟨t, a1, b1⟩ := kk _ _ _ f1 hold f2 (hO _ _ _).1 (hO _ _ _).2 (Jvm.Free.Multi.outerC_facts _ _ _ _).2.2 (fun j hj => by rw [Jvm.Free.Multi.outerC_slot _ _ _ _ _ hj, if_pos hj]) hrow (hI _ _).1 (hI _ _).2 (by simp [Jvm.Free.Multi.innerC]) (fun j hj => by simp [Jvm.Free.Multi.innerC, hj]; rfl) _ rfl X'
  refine ⟨t, step t ?_, b1⟩
  rw [hT]
  exact a1
end MNA
