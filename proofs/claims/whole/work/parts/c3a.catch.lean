/-! ===== caught by the first row of this method's own table, whose class may have been asked for never before ===== -/
theorem cx_find {e : Env} {U : State} {f : JFrame} {a : Addr} {meth : Method} {code : Code} {x : ExceptionTableEntry} {suf : List ExceptionTableEntry} {cT : ClassId} {cell : Cell} {vm' : Vm}
    (hm : U.vm.method? f.method = some meth) (hc : meth.code = some code) (htab : code.exceptionTable.toList = x :: suf) (hx : covers x f.pc = true) (h0 : x.catchType ≠ 0)
    (hg : (Jvm.resolveClass f.method.cls x.catchType).Gives e.toSetting U.vm (.ok cT) vm') (hsz : vm'.classes.size ≤ U.vm.classes.size) (hcell : U.heap[a]? = some cell) (hobj : ∀ k, cell.vm ≠ .statics k)
    (hk : ∃ k, vm'.classes[cell.cls]? = some k) (hcl : ∃ k, vm'.classes[cT]? = some k) (hfit : vm'.assignable cell.cls cT = true)
    (Q : Handler → Pre) (E : CtlPost) (d : Bool) (acts : List Action) (hq : ∀ d' acts', Q (.found x.handlerPc) d' acts' (U.setVm vm')) : wp (findHandler f a) Q E e d acts U := by
  rw [Jvm.W.findHandler_eq hm hc, htab]
  obtain ⟨ha, ht⟩ := hg.op (op := VmOp.resolveClass f.method.cls x.catchType) rfl
  simp only [covers] at hx
  simp [findHandler.go, hx, h0, ha, ht, hsz, hcell, hobj, hk, hcl, hfit, hq]
theorem cx_step {e : Env} {U : State} {f : JFrame} {a : Addr} {r : List Frame} {pc : Nat} {vm' : Vm}
    (h : ∀ (Q : Handler → Pre) (E : CtlPost) (d : Bool) (acts : List Action), (∀ d' acts', Q (.found pc) d' acts' (U.setVm vm')) → wp (findHandler f a) Q E e d acts U) :
    (stepThrowing e U a (.java f :: r)).1 = (U.setVm vm').setFrames (.java { f with pc := pc, stack := [.ref a] } :: r) := by
  simp only [stepThrowing, searchFrame, vmDo]
  generalize hr : Sem.go _ e false [] U = res
  obtain ⟨y, z, as, hgo, hy, hz⟩ := First.eq_ok_of' (P := fun y z => y = Handler.found pc ∧ z = U.setVm vm') hr (by rw [wp_bind']; exact h _ _ _ _ (fun d' acts' => ⟨rfl, rfl⟩))
  subst hy; subst hz; rw [hgo]
section CX
variable {p : Program} {l : Launch} {e : Env} {R : Room} {s : State} {m : MethodId} {args : Array Value} {below : List Frame} {meth : Method} {c : Code} {H : Heap} {locs : List Loc} {cells slots : Nat} {Q : State → Prop} {pc : Nat} {ls : Array Slot} {rest : List Value}
theorem cx_catch {own name E : String} {ce : Cell} {q : Addr} (hown : s.vm.findClass own = some m.cls) (x : ExceptionTableEntry) (suf : List ExceptionTableEntry) (htab : c.exceptionTable.toList = x :: suf) (hx : covers x pc = true) (h0 : x.catchType ≠ 0)
    (hlink : (Cond.classLink own x.catchType name).before args s = true) (hcast : (Cond.castable E name).before args s = true) (hcell : H[q]? = some ce) (hv : ce.vm = .none) (hcl : s.vm.findClass E = some ce.cls)
    (kk : W p l e R s m args below meth c H locs cells slots Q (F0 m x.handlerPc ls [.ref q])) : vx_W p l e R s m args below meth c H locs cells slots Q (F0 m pc ls rest) q := by
  intro T hT X
  have hpl : e.platform.magicAccessors = ({} : Platform).magicAccessors := by rw [X.admits.platform]
  obtain ⟨cE, cN, fE, fN, hasg⟩ := Cond.castable_spec hcast
  have eE : cE = ce.cls := Option.some.inj (fE.symm.trans hcl)
  subst eE
  obtain ⟨cN2, fN2, hlk⟩ := Cond.classLink_spec hown hlink e.platform hpl
  have eN : cN2 = cN := Option.some.inj (fN2.symm.trans fN)
  subst eN
  obtain ⟨hg₁, hwarm₁, -⟩ := State.classEntry (e := e) X.warmed hlk
  generalize T.vm.noted m.cls x.catchType (.cls cN2) = vm₁ at hg₁ hwarm₁
  have hal : s.vm.Alike vm₁ := hwarm₁.alike
  have halT : s.vm.Alike T.vm := X.warmed.alike
  obtain ⟨t, a1, b1⟩ := kk (T.setVm vm₁) hT (X.noted hwarm₁)
  refine ⟨t, ?_, b1⟩
  have hh : At T (F0 m pc ls rest).method c below := X.here
  obtain ⟨hgo, hw⟩ := hh.throwing q
  refine Steps.head hgo hw ?_
  rw [stepThread_throwing (frames_entered hh.top _), cx_step (U := (T.setTop (F0 m pc ls rest)).pushFrame (.throwing q)) (vm' := vm₁) (pc := x.handlerPc)
    (cx_find (by rw [throwing_vm]; exact X.method') X.code htab hx h0 (by rw [throwing_vm]; exact hg₁) (by rw [throwing_vm]; exact Vm.Alike.size_le (halT.symm.trans hal)) (by rw [throwing_heap, hT]; exact hcell)
      (fun k hk => by rw [hv] at hk; cases hk) (Vm.classAt_of_findClass (by rw [hal.findClass]; exact hcl)) (Vm.classAt_of_findClass (by rw [hal.findClass]; exact fN)) (by rw [hal.assignable]; exact hasg))]
  obtain ⟨g₀, hg⟩ := Option.isSome_iff_exists.mp hh.top
  obtain ⟨r, hr⟩ := State.topJava?_eq_some.mp hg
  have hr2 : (T.setVm vm₁).frames = .java g₀ :: r := hr
  rw [State.setTop_of_frames _ hr2] at a1
  rw [State.pushFrame, State.setTop_of_frames _ hr, State.setFrames_setFrames, hr]
  have e9 : ∀ fs, (T.setFrames fs).setVm vm₁ = (T.setVm vm₁).setFrames fs := fun _ => rfl
  rw [e9, State.setFrames_setFrames]
  exact a1
end CX
