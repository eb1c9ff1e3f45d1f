/-! ===== the law's own methods that catch: contracts (by program: wip/whole/gen/mkch.py) ===== -/
def PcW (E : EV) (as : List AV) (M : AMem) (o : Nat) : Array Value → State → Prop := fun v U => v = (as.map (enc E) ++ [Value.ref o]).toArray ∧ (∀ a ∈ as, aok a) ∧ EnvK E U ∧ XP E U ∧ RepK E U U.heap M ∧ MOK M ∧ OutH U U.heap o ∧ ¬ AA E o ∧ ∀ (g : Nat) (t : Int), g ∈ gCon → 0 ≤ t → t < gn g → E.2.2.1 g t ≠ o
def QcW (E : EV) (M : AMem) (o : Nat) (k : Int32) (v : Int) : Array Value → State → Outcome → State → Prop := fun _ st oc t => oc = .returned (some (.int k)) ∧ RepK E t t.heap M ∧ (∃ w : Int64, OutK t t.heap o w ∧ (k = 0 → w = Int64.ofInt v)) ∧ va_F (fun q => AA E q ∨ q = o) st t
theorem OutK.moved {u U : State} (hvm : u.vm.Alike U.vm) {H : Heap} {o : Nat} {v : Int64} (h : OutK u H o v) : OutK U H o v := by
  obtain ⟨cell, h1, h2, h3⟩ := h
  exact ⟨cell, h1, State.isArrayOf_alike hvm h2, h3⟩
theorem PcW.blind {E : EV} {as : List AV} {M : AMem} {o : Nat} : FrameBlind (PcW E as M o) := fun a U g mk h => ⟨h.1, h.2.1, h.2.2.1.same rfl rfl, XP.same (u := U) rfl rfl h.2.2.2.1, h.2.2.2.2.1.moved (Vm.Alike.refl U.vm), h.2.2.2.2.2.1, (by obtain ⟨v, z⟩ := h.2.2.2.2.2.2.1; exact ⟨v, z.moved (Vm.Alike.refl U.vm)⟩), h.2.2.2.2.2.2.2.1, h.2.2.2.2.2.2.2.2⟩
def lwW (y : MethodName) (b : ByteArray) (n : Nat) (hh : List (Nat × Nat × Nat × Nat)) : List Cond := Cond.codeWith y b n (some .int) hh :: lwg
/-- a wrapper's contract -/
def WMet (y : MethodName) (b : ByteArray) (n : Nat) (hh : List (Nat × Nat × Nat × Nat)) (as : List AV) (M : AMem) (k : Int32) (v : Int) : Prop := ∀ (l : Launch) (E : EV) (o : Nat), l.stackTraces = false → vx_Met l y (lwW y b n hh) (rmX 10) (PcW E as M o) (QcW E M o k v) (fun _ _ _ => False) 1 6 (fun q => AA E q ∨ q = o)
theorem RepK.other {E : EV} {s : State} {H H' : Heap} {M : AMem} {o : Nat} (hI : InjK E) (ho : ¬ AA E o) (hc : ∀ (g : Nat) (t : Int), g ∈ gCon → 0 ≤ t → t < gn g → E.2.2.1 g t ≠ o) (h : RepK E s H M) (hq : ∀ q : Nat, q ≠ o → H'[q]? = H[q]?) : RepK E s H' M := by
  refine ⟨fun g t a b c => ?_, fun g t a b c => ?_⟩
  · obtain ⟨cell, q1, q2⟩ := h.1 g t a b c
    exact ⟨cell, by rw [hq _ (fun e => ho (by rw [← e]; exact hI.2 g t (Or.inl a) b c))]; exact q1, q2⟩
  · obtain ⟨cell, q1, q2⟩ := h.2 g t a b c
    refine ⟨cell, ?_, q2⟩
    rw [hq]
    · exact q1
    · rcases a with a | a
      · exact fun e => ho (by rw [← e]; exact hI.2 g t (Or.inr a) b c)
      · exact hc g t a b c
theorem va_F.or {A : Nat → Prop} {o : Nat} {s : State} {H H' : Heap} {locs : List Loc} (h : va_S A s.heap H locs) (z : H'.size = H.size) (hq : ∀ q : Nat, q ≠ o → H'[q]? = H[q]?) {t : State} (ht : t.heap = H') : va_F (fun q => A q ∨ q = o) s t := by
  refine ⟨by rw [ht, z]; exact h.1, fun q h1 h2 => ?_⟩
  rw [ht, hq q (fun e => h2 (Or.inr e))]
  exact h.2.1 q h1 (fun a => h2 (Or.inl a))
theorem i2l_of {x : Int} (h : aok (aI x)) : (Int32.ofInt x).toInt64 = Int64.ofInt x := by
  have h : in32 x := h
  apply Int64.toInt_inj.mp
  rw [Int32.toInt_toInt64, i32_toInt h, i64_toInt (by unfold in32 at h; unfold in64; omega)]
theorem cw_law : Cond.classLink "StaticKernelLaw" 13 nsee ∈ lw_tbl := by decide +kernel
def bOfW (i : Nat) : ByteArray := match lw_tbl[i]? with
  | some (.codeWith _ b _ _ _) => b
  | _ => ⟨#[]⟩
theorem wc_at {i : Nat} {y : MethodName} {n : Nat} {hh : List (Nat × Nat × Nat × Nat)} (h : (match lw_tbl[i]? with
    | some (.codeWith y' _ n' r' h') => decide (y' = y ∧ n' = n ∧ r' = some .int ∧ h' = hh)
    | _ => false) = true) : Cond.codeWith y (bOfW i) n (some .int) hh ∈ lwg := by
  split at h
  · rename_i y' bb n' r' h' hq
    obtain ⟨rfl, rfl, rfl, rfl⟩ := of_decide_eq_true h
    have hB : bOfW i = bb := by
      unfold bOfW
      rw [hq]
    rw [hB]
    exact lwg_at hq rfl
  · cases h
abbrev wy_name : MethodName := ⟨"StaticKernelLaw", "name", "(LStaticKernel;III[J)I"⟩
abbrev wb_name : ByteArray := bOfW 1492
abbrev wh_name : List (Nat × Nat × Nat × Nat) := [(0, 11, 14, 13)]
theorem wc_name : Cond.codeWith wy_name wb_name 6 (some .int) wh_name ∈ lwg := wc_at (i := 1492) (by decide +kernel)
theorem d_wname_0 : decode wb_name 0 = .ok (.aload 4, 2) := by decide +kernel
theorem d_wname_2 : decode wb_name 2 = .ok (.iconst 0, 1) := by decide +kernel
theorem d_wname_3 : decode wb_name 3 = .ok (.aload_n 0, 1) := by decide +kernel
theorem d_wname_4 : decode wb_name 4 = .ok (.iload_n 1, 1) := by decide +kernel
theorem d_wname_5 : decode wb_name 5 = .ok (.iload_n 2, 1) := by decide +kernel
theorem d_wname_6 : decode wb_name 6 = .ok (.iload_n 3, 1) := by decide +kernel
theorem d_wname_7 : decode wb_name 7 = .ok (.invokevirtual 7, 3) := by decide +kernel
theorem d_wname_10 : decode wb_name 10 = .ok (.lastore, 1) := by decide +kernel
theorem d_wname_11 : decode wb_name 11 = .ok (.goto 7, 3) := by decide +kernel
theorem d_wname_14 : decode wb_name 14 = .ok (.astore 5, 2) := by decide +kernel
theorem d_wname_16 : decode wb_name 16 = .ok (.iconst 1, 1) := by decide +kernel
theorem d_wname_17 : decode wb_name 17 = .ok (.ireturn, 1) := by decide +kernel
theorem d_wname_18 : decode wb_name 18 = .ok (.iconst 0, 1) := by decide +kernel
theorem d_wname_19 : decode wb_name 19 = .ok (.ireturn, 1) := by decide +kernel
theorem W_name_ok (p0 : Int) (p1 : Int) (p2 : Int) (v : Int) (M : AMem) (hr : Runs 280 [aR 1 0, aI p0, aI p1, aI p2] M (fun r M' => r = some (aL v) ∧ M' = M)) : WMet wy_name wb_name 6 wh_name [aR 1 0, aI p0, aI p1, aI p2] M 0 v := by
  intro l E o hst
  refine vx_ofWH (cc := wb_name) (maxL := 6) (ret := some .int) (hh := wh_name) (by decide) rfl ?_
  intro p e s m args below meth c s₁ B hml hv
  obtain ⟨rfl, ho, hE, hXP, hR, hM, ⟨v0, hO⟩, hoA, hoC⟩ := hv
  have hts0 := atoms_spec (ws := lwW wy_name wb_name 6 wh_name) B.pre
  have hts : ∀ w ∈ lwg, w.before _ s = true := fun w hw => hts0 w (List.mem_cons_of_mem _ hw)
  have hown : s.vm.findClass "StaticKernelLaw" = some m.cls := findClass_of_methodNamed B.named
  have hx := B.exec
  have hb := B.bytes
  have hC : CfL E s s.heap [] M := ⟨va_S.rf, hR, hM⟩
  have hl := lv_entry ((([aR 1 0, aI p0, aI p1, aI p2] : List AV).map (enc E)) ++ [Value.ref o]) (n := 6) (Nat.le_of_ble_eq_true rfl)
  rw [lg_entry_eq]
  generalize (lg_sl ((([aR 1 0, aI p0, aI p1, aI p2] : List AV).map (enc E)) ++ [Value.ref o]) ++ List.replicate (6 - (lg_sl ((([aR 1 0, aI p0, aI p1, aI p2] : List AV).map (enc E)) ++ [Value.ref o])).length) Slot.unset).toArray = ls at hl ⊢
  refine lv_aload hx hb d_wname_0 (lv_at hl 4 rfl) ?_
  refine lv_iconst (v := 0) hx hb d_wname_2 rfl ?_
  refine lv_aload_n hx hb d_wname_3 rfl (lv_at hl 0 rfl) ?_
  refine lv_iload_n hx hb d_wname_4 rfl (lv_at hl 1 rfl) ?_
  refine lv_iload_n hx hb d_wname_5 rfl (lv_at hl 2 rfl) ?_
  refine lv_iload_n hx hb d_wname_6 rfl (lv_at hl 3 rfl) ?_
  refine L_callM (own := "StaticKernelLaw") (n := 280) (idx := 7) (t := 0) (as := [aI p0, aI p1, aI p2]) (rest := [.int 0, .ref o]) hx hb hml hown hts hE (by decide +kernel) (List.mem_filter.mpr ⟨by decide +kernel, rfl⟩) rfl ⟨Or.inl ⟨by decide, by decide⟩, by decide, by decide⟩ (fun a ha => ho a (List.mem_cons_of_mem _ ha)) rfl (by decide) (by decide) (by decide) (by decide) hC hr d_wname_7 hl.1 (Nat.le_of_ble_eq_true rfl) (fun r M2 H2 locs2 hp ok2 hC2 hz2 hk2 => ?_)
  obtain ⟨rfl, rfl⟩ := hp
  obtain ⟨cell, o1, o2, o3, o4, o5⟩ := hO
  have o1 : H2[o]? = some cell := by rw [hk2 o (Array.getElem?_eq_some_iff.mp o1).1 hoA]; exact o1
  refine W.last (j := 0) (x := Int64.ofInt v) hx hb o1 o2 o3 (by rw [o4]; decide) rfl rfl d_wname_10 (fun H3 e1 e2 e3 => ?_)
  refine lv_goto (tgt := 18) hx hb d_wname_11 rfl ?_
  refine lv_iconst (v := 0) hx hb d_wname_18 rfl ?_
  refine W.widen (k := 1) (n := 6) (by decide) (by decide) (vx_ret (W.iret hx hb B.returns (fun t ht hw => ?_) (fun q hq => ?_) d_wname_19 B.notSynchronized))
  · refine ⟨rfl, ?_, ⟨Int64.ofInt v, ⟨cell.setSlot 0 (.long (Int64.ofInt v)), by rw [ht]; exact e1, State.isArrayOf_alike hw.alike o2, o3, by simp [Cell.setSlot]; exact o4, Cell.slots_setSlot_self _ (by rw [o4]; decide)⟩, fun _ => rfl⟩, va_F.or hC2.1 e2 e3 ht⟩
    rw [ht]
    exact (RepK.other hE.2.1 hoA hoC hC2.2.1 e3).moved hw.alike
  · rcases List.mem_append.mp hq with h | h
    · exact Or.inl (hC2.1.2.2 q h)
    · rcases List.mem_singleton.mp h with rfl
      exact Or.inr rfl
theorem W_name_thr (p0 : Int) (p1 : Int) (p2 : Int) (v : Int) (M : AMem) (hr : XMet 280 [aR 1 0, aI p0, aI p1, aI p2] M) : WMet wy_name wb_name 6 wh_name [aR 1 0, aI p0, aI p1, aI p2] M 1 v := by
  intro l E o hst
  refine vx_ofWH (cc := wb_name) (maxL := 6) (ret := some .int) (hh := wh_name) (by decide) rfl ?_
  intro p e s m args below meth c s₁ B hml hv
  obtain ⟨rfl, ho, hE, hXP, hR, hM, ⟨v0, hO⟩, hoA, hoC⟩ := hv
  have hts0 := atoms_spec (ws := lwW wy_name wb_name 6 wh_name) B.pre
  have hts : ∀ w ∈ lwg, w.before _ s = true := fun w hw => hts0 w (List.mem_cons_of_mem _ hw)
  have hown : s.vm.findClass "StaticKernelLaw" = some m.cls := findClass_of_methodNamed B.named
  have hx := B.exec
  have hb := B.bytes
  have hC : CfL E s s.heap [] M := ⟨va_S.rf, hR, hM⟩
  have hl := lv_entry ((([aR 1 0, aI p0, aI p1, aI p2] : List AV).map (enc E)) ++ [Value.ref o]) (n := 6) (Nat.le_of_ble_eq_true rfl)
  rw [lg_entry_eq]
  generalize (lg_sl ((([aR 1 0, aI p0, aI p1, aI p2] : List AV).map (enc E)) ++ [Value.ref o]) ++ List.replicate (6 - (lg_sl ((([aR 1 0, aI p0, aI p1, aI p2] : List AV).map (enc E)) ++ [Value.ref o])).length) Slot.unset).toArray = ls at hl ⊢
  refine lv_aload hx hb d_wname_0 (lv_at hl 4 rfl) ?_
  refine lv_iconst (v := 0) hx hb d_wname_2 rfl ?_
  refine lv_aload_n hx hb d_wname_3 rfl (lv_at hl 0 rfl) ?_
  refine lv_iload_n hx hb d_wname_4 rfl (lv_at hl 1 rfl) ?_
  refine lv_iload_n hx hb d_wname_5 rfl (lv_at hl 2 rfl) ?_
  refine lv_iload_n hx hb d_wname_6 rfl (lv_at hl 3 rfl) ?_
  refine L_callX (own := "StaticKernelLaw") (n := 280) (idx := 7) (t := 0) (as := [aI p0, aI p1, aI p2]) (rest := [.int 0, .ref o]) hx hb hml hst hown hts hE hXP (by decide +kernel) (List.mem_filter.mpr ⟨by decide +kernel, rfl⟩) rfl ⟨Or.inl ⟨by decide, by decide⟩, by decide, by decide⟩ (fun a ha => ho a (List.mem_cons_of_mem _ ha)) rfl (by decide) (by decide) (by decide) (by decide) hC hr d_wname_7 hl.1 (Nat.le_of_ble_eq_true rfl) (fun q ce H2 locs2 hC2 hz2 hk2 hce hcv hcl => ?_)
  have htab : c.exceptionTable.toList = [] ++ (⟨0, 11, 14, 13⟩ : ExceptionTableEntry) :: [] := vx_table (x := wy_name) B (hts0 _ List.mem_cons_self)
  refine cx_catch (own := "StaticKernelLaw") (name := nsee) hown _ [] htab (by decide) (by decide) (hts _ (List.mem_filter.mpr ⟨cw_law, rfl⟩)) (va_Nw.use rfl (hXP.1 _ (by decide))) hce hcv hcl ?_
  refine lv_astore hx hb d_wname_14 hl (by decide) rfl (fun ls2 hl2 => ?_)
  refine lv_iconst (v := 1) hx hb d_wname_16 rfl ?_
  obtain ⟨cell, o1, o2⟩ := hO
  refine vx_ret (W.iret hx hb B.returns (fun t ht hw => ⟨rfl, by rw [ht]; exact hC2.2.1.moved hw.alike, ⟨v0, ⟨cell, by rw [ht, hk2 o (Array.getElem?_eq_some_iff.mp o1).1 hoA]; exact o1, State.isArrayOf_alike hw.alike o2.1, o2.2⟩, fun z => absurd z (by decide)⟩, ?_⟩) (fun q hq => Or.inl (hC2.1.2.2 q hq)) d_wname_17 B.notSynchronized)
  exact ⟨by rw [ht]; exact hC2.1.1, fun q h1 h2 => by rw [ht]; exact hC2.1.2.1 q h1 (fun a => h2 (Or.inl a))⟩
abbrev wy_task : MethodName := ⟨"StaticKernelLaw", "task", "(LStaticKernel;II[J)I"⟩
abbrev wb_task : ByteArray := bOfW 1569
abbrev wh_task : List (Nat × Nat × Nat × Nat) := [(0, 10, 13, 13)]
theorem wc_task : Cond.codeWith wy_task wb_task 5 (some .int) wh_task ∈ lwg := wc_at (i := 1569) (by decide +kernel)
theorem d_wtask_0 : decode wb_task 0 = .ok (.aload_n 3, 1) := by decide +kernel
theorem d_wtask_1 : decode wb_task 1 = .ok (.iconst 0, 1) := by decide +kernel
theorem d_wtask_2 : decode wb_task 2 = .ok (.aload_n 0, 1) := by decide +kernel
theorem d_wtask_3 : decode wb_task 3 = .ok (.iload_n 1, 1) := by decide +kernel
theorem d_wtask_4 : decode wb_task 4 = .ok (.iload_n 2, 1) := by decide +kernel
theorem d_wtask_5 : decode wb_task 5 = .ok (.invokevirtual 15, 3) := by decide +kernel
theorem d_wtask_8 : decode wb_task 8 = .ok (.i2l, 1) := by decide +kernel
theorem d_wtask_9 : decode wb_task 9 = .ok (.lastore, 1) := by decide +kernel
theorem d_wtask_10 : decode wb_task 10 = .ok (.goto 7, 3) := by decide +kernel
theorem d_wtask_13 : decode wb_task 13 = .ok (.astore 4, 2) := by decide +kernel
theorem d_wtask_15 : decode wb_task 15 = .ok (.iconst 1, 1) := by decide +kernel
theorem d_wtask_16 : decode wb_task 16 = .ok (.ireturn, 1) := by decide +kernel
theorem d_wtask_17 : decode wb_task 17 = .ok (.iconst 0, 1) := by decide +kernel
theorem d_wtask_18 : decode wb_task 18 = .ok (.ireturn, 1) := by decide +kernel
theorem W_task_ok (p0 : Int) (p1 : Int) (v : Int) (M : AMem) (hr : Runs 283 [aR 1 0, aI p0, aI p1] M (fun r M' => r = some (aI v) ∧ M' = M)) : WMet wy_task wb_task 5 wh_task [aR 1 0, aI p0, aI p1] M 0 v := by
  intro l E o hst
  refine vx_ofWH (cc := wb_task) (maxL := 5) (ret := some .int) (hh := wh_task) (by decide) rfl ?_
  intro p e s m args below meth c s₁ B hml hv
  obtain ⟨rfl, ho, hE, hXP, hR, hM, ⟨v0, hO⟩, hoA, hoC⟩ := hv
  have hts0 := atoms_spec (ws := lwW wy_task wb_task 5 wh_task) B.pre
  have hts : ∀ w ∈ lwg, w.before _ s = true := fun w hw => hts0 w (List.mem_cons_of_mem _ hw)
  have hown : s.vm.findClass "StaticKernelLaw" = some m.cls := findClass_of_methodNamed B.named
  have hx := B.exec
  have hb := B.bytes
  have hC : CfL E s s.heap [] M := ⟨va_S.rf, hR, hM⟩
  have hl := lv_entry ((([aR 1 0, aI p0, aI p1] : List AV).map (enc E)) ++ [Value.ref o]) (n := 5) (Nat.le_of_ble_eq_true rfl)
  rw [lg_entry_eq]
  generalize (lg_sl ((([aR 1 0, aI p0, aI p1] : List AV).map (enc E)) ++ [Value.ref o]) ++ List.replicate (5 - (lg_sl ((([aR 1 0, aI p0, aI p1] : List AV).map (enc E)) ++ [Value.ref o])).length) Slot.unset).toArray = ls at hl ⊢
  refine lv_aload_n hx hb d_wtask_0 rfl (lv_at hl 3 rfl) ?_
  refine lv_iconst (v := 0) hx hb d_wtask_1 rfl ?_
  refine lv_aload_n hx hb d_wtask_2 rfl (lv_at hl 0 rfl) ?_
  refine lv_iload_n hx hb d_wtask_3 rfl (lv_at hl 1 rfl) ?_
  refine lv_iload_n hx hb d_wtask_4 rfl (lv_at hl 2 rfl) ?_
  refine L_callM (own := "StaticKernelLaw") (n := 283) (idx := 15) (t := 0) (as := [aI p0, aI p1]) (rest := [.int 0, .ref o]) hx hb hml hown hts hE (by decide +kernel) (List.mem_filter.mpr ⟨by decide +kernel, rfl⟩) rfl ⟨Or.inl ⟨by decide, by decide⟩, by decide, by decide⟩ (fun a ha => ho a (List.mem_cons_of_mem _ ha)) rfl (by decide) (by decide) (by decide) (by decide) hC hr d_wtask_5 hl.1 (Nat.le_of_ble_eq_true rfl) (fun r M2 H2 locs2 hp ok2 hC2 hz2 hk2 => ?_)
  obtain ⟨rfl, rfl⟩ := hp
  refine lv_i2l (v := Int64.ofInt v) hx hb d_wtask_8 (i2l_of (ok2 _ rfl)) ?_
  obtain ⟨cell, o1, o2, o3, o4, o5⟩ := hO
  have o1 : H2[o]? = some cell := by rw [hk2 o (Array.getElem?_eq_some_iff.mp o1).1 hoA]; exact o1
  refine W.last (j := 0) (x := Int64.ofInt v) hx hb o1 o2 o3 (by rw [o4]; decide) rfl rfl d_wtask_9 (fun H3 e1 e2 e3 => ?_)
  refine lv_goto (tgt := 17) hx hb d_wtask_10 rfl ?_
  refine lv_iconst (v := 0) hx hb d_wtask_17 rfl ?_
  refine W.widen (k := 1) (n := 6) (by decide) (by decide) (vx_ret (W.iret hx hb B.returns (fun t ht hw => ?_) (fun q hq => ?_) d_wtask_18 B.notSynchronized))
  · refine ⟨rfl, ?_, ⟨Int64.ofInt v, ⟨cell.setSlot 0 (.long (Int64.ofInt v)), by rw [ht]; exact e1, State.isArrayOf_alike hw.alike o2, o3, by simp [Cell.setSlot]; exact o4, Cell.slots_setSlot_self _ (by rw [o4]; decide)⟩, fun _ => rfl⟩, va_F.or hC2.1 e2 e3 ht⟩
    rw [ht]
    exact (RepK.other hE.2.1 hoA hoC hC2.2.1 e3).moved hw.alike
  · rcases List.mem_append.mp hq with h | h
    · exact Or.inl (hC2.1.2.2 q h)
    · rcases List.mem_singleton.mp h with rfl
      exact Or.inr rfl
theorem W_task_thr (p0 : Int) (p1 : Int) (v : Int) (M : AMem) (hr : XMet 283 [aR 1 0, aI p0, aI p1] M) : WMet wy_task wb_task 5 wh_task [aR 1 0, aI p0, aI p1] M 1 v := by
  intro l E o hst
  refine vx_ofWH (cc := wb_task) (maxL := 5) (ret := some .int) (hh := wh_task) (by decide) rfl ?_
  intro p e s m args below meth c s₁ B hml hv
  obtain ⟨rfl, ho, hE, hXP, hR, hM, ⟨v0, hO⟩, hoA, hoC⟩ := hv
  have hts0 := atoms_spec (ws := lwW wy_task wb_task 5 wh_task) B.pre
  have hts : ∀ w ∈ lwg, w.before _ s = true := fun w hw => hts0 w (List.mem_cons_of_mem _ hw)
  have hown : s.vm.findClass "StaticKernelLaw" = some m.cls := findClass_of_methodNamed B.named
  have hx := B.exec
  have hb := B.bytes
  have hC : CfL E s s.heap [] M := ⟨va_S.rf, hR, hM⟩
  have hl := lv_entry ((([aR 1 0, aI p0, aI p1] : List AV).map (enc E)) ++ [Value.ref o]) (n := 5) (Nat.le_of_ble_eq_true rfl)
  rw [lg_entry_eq]
  generalize (lg_sl ((([aR 1 0, aI p0, aI p1] : List AV).map (enc E)) ++ [Value.ref o]) ++ List.replicate (5 - (lg_sl ((([aR 1 0, aI p0, aI p1] : List AV).map (enc E)) ++ [Value.ref o])).length) Slot.unset).toArray = ls at hl ⊢
  refine lv_aload_n hx hb d_wtask_0 rfl (lv_at hl 3 rfl) ?_
  refine lv_iconst (v := 0) hx hb d_wtask_1 rfl ?_
  refine lv_aload_n hx hb d_wtask_2 rfl (lv_at hl 0 rfl) ?_
  refine lv_iload_n hx hb d_wtask_3 rfl (lv_at hl 1 rfl) ?_
  refine lv_iload_n hx hb d_wtask_4 rfl (lv_at hl 2 rfl) ?_
  refine L_callX (own := "StaticKernelLaw") (n := 283) (idx := 15) (t := 0) (as := [aI p0, aI p1]) (rest := [.int 0, .ref o]) hx hb hml hst hown hts hE hXP (by decide +kernel) (List.mem_filter.mpr ⟨by decide +kernel, rfl⟩) rfl ⟨Or.inl ⟨by decide, by decide⟩, by decide, by decide⟩ (fun a ha => ho a (List.mem_cons_of_mem _ ha)) rfl (by decide) (by decide) (by decide) (by decide) hC hr d_wtask_5 hl.1 (Nat.le_of_ble_eq_true rfl) (fun q ce H2 locs2 hC2 hz2 hk2 hce hcv hcl => ?_)
  have htab : c.exceptionTable.toList = [] ++ (⟨0, 10, 13, 13⟩ : ExceptionTableEntry) :: [] := vx_table (x := wy_name) B (hts0 _ List.mem_cons_self)
  refine cx_catch (own := "StaticKernelLaw") (name := nsee) hown _ [] htab (by decide) (by decide) (hts _ (List.mem_filter.mpr ⟨cw_law, rfl⟩)) (va_Nw.use rfl (hXP.1 _ (by decide))) hce hcv hcl ?_
  refine lv_astore hx hb d_wtask_13 hl (by decide) rfl (fun ls2 hl2 => ?_)
  refine lv_iconst (v := 1) hx hb d_wtask_15 rfl ?_
  obtain ⟨cell, o1, o2⟩ := hO
  refine vx_ret (W.iret hx hb B.returns (fun t ht hw => ⟨rfl, by rw [ht]; exact hC2.2.1.moved hw.alike, ⟨v0, ⟨cell, by rw [ht, hk2 o (Array.getElem?_eq_some_iff.mp o1).1 hoA]; exact o1, State.isArrayOf_alike hw.alike o2.1, o2.2⟩, fun z => absurd z (by decide)⟩, ?_⟩) (fun q hq => Or.inl (hC2.1.2.2 q hq)) d_wtask_16 B.notSynchronized)
  exact ⟨by rw [ht]; exact hC2.1.1, fun q h1 h2 => by rw [ht]; exact hC2.1.2.1 q h1 (fun a => h2 (Or.inl a))⟩
abbrev wy_bits : MethodName := ⟨"StaticKernelLaw", "bits", "(LStaticKernel;II[J)I"⟩
abbrev wb_bits : ByteArray := bOfW 1581
abbrev wh_bits : List (Nat × Nat × Nat × Nat) := [(0, 9, 12, 13)]
theorem wc_bits : Cond.codeWith wy_bits wb_bits 5 (some .int) wh_bits ∈ lwg := wc_at (i := 1581) (by decide +kernel)
theorem d_wbits_0 : decode wb_bits 0 = .ok (.aload_n 3, 1) := by decide +kernel
theorem d_wbits_1 : decode wb_bits 1 = .ok (.iconst 0, 1) := by decide +kernel
theorem d_wbits_2 : decode wb_bits 2 = .ok (.aload_n 0, 1) := by decide +kernel
theorem d_wbits_3 : decode wb_bits 3 = .ok (.iload_n 1, 1) := by decide +kernel
theorem d_wbits_4 : decode wb_bits 4 = .ok (.iload_n 2, 1) := by decide +kernel
theorem d_wbits_5 : decode wb_bits 5 = .ok (.invokevirtual 19, 3) := by decide +kernel
theorem d_wbits_8 : decode wb_bits 8 = .ok (.lastore, 1) := by decide +kernel
theorem d_wbits_9 : decode wb_bits 9 = .ok (.goto 7, 3) := by decide +kernel
theorem d_wbits_12 : decode wb_bits 12 = .ok (.astore 4, 2) := by decide +kernel
theorem d_wbits_14 : decode wb_bits 14 = .ok (.iconst 1, 1) := by decide +kernel
theorem d_wbits_15 : decode wb_bits 15 = .ok (.ireturn, 1) := by decide +kernel
theorem d_wbits_16 : decode wb_bits 16 = .ok (.iconst 0, 1) := by decide +kernel
theorem d_wbits_17 : decode wb_bits 17 = .ok (.ireturn, 1) := by decide +kernel
theorem W_bits_ok (p0 : Int) (p1 : Int) (v : Int) (M : AMem) (hr : Runs 285 [aR 1 0, aI p0, aI p1] M (fun r M' => r = some (aL v) ∧ M' = M)) : WMet wy_bits wb_bits 5 wh_bits [aR 1 0, aI p0, aI p1] M 0 v := by
  intro l E o hst
  refine vx_ofWH (cc := wb_bits) (maxL := 5) (ret := some .int) (hh := wh_bits) (by decide) rfl ?_
  intro p e s m args below meth c s₁ B hml hv
  obtain ⟨rfl, ho, hE, hXP, hR, hM, ⟨v0, hO⟩, hoA, hoC⟩ := hv
  have hts0 := atoms_spec (ws := lwW wy_bits wb_bits 5 wh_bits) B.pre
  have hts : ∀ w ∈ lwg, w.before _ s = true := fun w hw => hts0 w (List.mem_cons_of_mem _ hw)
  have hown : s.vm.findClass "StaticKernelLaw" = some m.cls := findClass_of_methodNamed B.named
  have hx := B.exec
  have hb := B.bytes
  have hC : CfL E s s.heap [] M := ⟨va_S.rf, hR, hM⟩
  have hl := lv_entry ((([aR 1 0, aI p0, aI p1] : List AV).map (enc E)) ++ [Value.ref o]) (n := 5) (Nat.le_of_ble_eq_true rfl)
  rw [lg_entry_eq]
  generalize (lg_sl ((([aR 1 0, aI p0, aI p1] : List AV).map (enc E)) ++ [Value.ref o]) ++ List.replicate (5 - (lg_sl ((([aR 1 0, aI p0, aI p1] : List AV).map (enc E)) ++ [Value.ref o])).length) Slot.unset).toArray = ls at hl ⊢
  refine lv_aload_n hx hb d_wbits_0 rfl (lv_at hl 3 rfl) ?_
  refine lv_iconst (v := 0) hx hb d_wbits_1 rfl ?_
  refine lv_aload_n hx hb d_wbits_2 rfl (lv_at hl 0 rfl) ?_
  refine lv_iload_n hx hb d_wbits_3 rfl (lv_at hl 1 rfl) ?_
  refine lv_iload_n hx hb d_wbits_4 rfl (lv_at hl 2 rfl) ?_
  refine L_callM (own := "StaticKernelLaw") (n := 285) (idx := 19) (t := 0) (as := [aI p0, aI p1]) (rest := [.int 0, .ref o]) hx hb hml hown hts hE (by decide +kernel) (List.mem_filter.mpr ⟨by decide +kernel, rfl⟩) rfl ⟨Or.inl ⟨by decide, by decide⟩, by decide, by decide⟩ (fun a ha => ho a (List.mem_cons_of_mem _ ha)) rfl (by decide) (by decide) (by decide) (by decide) hC hr d_wbits_5 hl.1 (Nat.le_of_ble_eq_true rfl) (fun r M2 H2 locs2 hp ok2 hC2 hz2 hk2 => ?_)
  obtain ⟨rfl, rfl⟩ := hp
  obtain ⟨cell, o1, o2, o3, o4, o5⟩ := hO
  have o1 : H2[o]? = some cell := by rw [hk2 o (Array.getElem?_eq_some_iff.mp o1).1 hoA]; exact o1
  refine W.last (j := 0) (x := Int64.ofInt v) hx hb o1 o2 o3 (by rw [o4]; decide) rfl rfl d_wbits_8 (fun H3 e1 e2 e3 => ?_)
  refine lv_goto (tgt := 16) hx hb d_wbits_9 rfl ?_
  refine lv_iconst (v := 0) hx hb d_wbits_16 rfl ?_
  refine W.widen (k := 1) (n := 6) (by decide) (by decide) (vx_ret (W.iret hx hb B.returns (fun t ht hw => ?_) (fun q hq => ?_) d_wbits_17 B.notSynchronized))
  · refine ⟨rfl, ?_, ⟨Int64.ofInt v, ⟨cell.setSlot 0 (.long (Int64.ofInt v)), by rw [ht]; exact e1, State.isArrayOf_alike hw.alike o2, o3, by simp [Cell.setSlot]; exact o4, Cell.slots_setSlot_self _ (by rw [o4]; decide)⟩, fun _ => rfl⟩, va_F.or hC2.1 e2 e3 ht⟩
    rw [ht]
    exact (RepK.other hE.2.1 hoA hoC hC2.2.1 e3).moved hw.alike
  · rcases List.mem_append.mp hq with h | h
    · exact Or.inl (hC2.1.2.2 q h)
    · rcases List.mem_singleton.mp h with rfl
      exact Or.inr rfl
theorem W_bits_thr (p0 : Int) (p1 : Int) (v : Int) (M : AMem) (hr : XMet 285 [aR 1 0, aI p0, aI p1] M) : WMet wy_bits wb_bits 5 wh_bits [aR 1 0, aI p0, aI p1] M 1 v := by
  intro l E o hst
  refine vx_ofWH (cc := wb_bits) (maxL := 5) (ret := some .int) (hh := wh_bits) (by decide) rfl ?_
  intro p e s m args below meth c s₁ B hml hv
  obtain ⟨rfl, ho, hE, hXP, hR, hM, ⟨v0, hO⟩, hoA, hoC⟩ := hv
  have hts0 := atoms_spec (ws := lwW wy_bits wb_bits 5 wh_bits) B.pre
  have hts : ∀ w ∈ lwg, w.before _ s = true := fun w hw => hts0 w (List.mem_cons_of_mem _ hw)
  have hown : s.vm.findClass "StaticKernelLaw" = some m.cls := findClass_of_methodNamed B.named
  have hx := B.exec
  have hb := B.bytes
  have hC : CfL E s s.heap [] M := ⟨va_S.rf, hR, hM⟩
  have hl := lv_entry ((([aR 1 0, aI p0, aI p1] : List AV).map (enc E)) ++ [Value.ref o]) (n := 5) (Nat.le_of_ble_eq_true rfl)
  rw [lg_entry_eq]
  generalize (lg_sl ((([aR 1 0, aI p0, aI p1] : List AV).map (enc E)) ++ [Value.ref o]) ++ List.replicate (5 - (lg_sl ((([aR 1 0, aI p0, aI p1] : List AV).map (enc E)) ++ [Value.ref o])).length) Slot.unset).toArray = ls at hl ⊢
  refine lv_aload_n hx hb d_wbits_0 rfl (lv_at hl 3 rfl) ?_
  refine lv_iconst (v := 0) hx hb d_wbits_1 rfl ?_
  refine lv_aload_n hx hb d_wbits_2 rfl (lv_at hl 0 rfl) ?_
  refine lv_iload_n hx hb d_wbits_3 rfl (lv_at hl 1 rfl) ?_
  refine lv_iload_n hx hb d_wbits_4 rfl (lv_at hl 2 rfl) ?_
  refine L_callX (own := "StaticKernelLaw") (n := 285) (idx := 19) (t := 0) (as := [aI p0, aI p1]) (rest := [.int 0, .ref o]) hx hb hml hst hown hts hE hXP (by decide +kernel) (List.mem_filter.mpr ⟨by decide +kernel, rfl⟩) rfl ⟨Or.inl ⟨by decide, by decide⟩, by decide, by decide⟩ (fun a ha => ho a (List.mem_cons_of_mem _ ha)) rfl (by decide) (by decide) (by decide) (by decide) hC hr d_wbits_5 hl.1 (Nat.le_of_ble_eq_true rfl) (fun q ce H2 locs2 hC2 hz2 hk2 hce hcv hcl => ?_)
  have htab : c.exceptionTable.toList = [] ++ (⟨0, 9, 12, 13⟩ : ExceptionTableEntry) :: [] := vx_table (x := wy_name) B (hts0 _ List.mem_cons_self)
  refine cx_catch (own := "StaticKernelLaw") (name := nsee) hown _ [] htab (by decide) (by decide) (hts _ (List.mem_filter.mpr ⟨cw_law, rfl⟩)) (va_Nw.use rfl (hXP.1 _ (by decide))) hce hcv hcl ?_
  refine lv_astore hx hb d_wbits_12 hl (by decide) rfl (fun ls2 hl2 => ?_)
  refine lv_iconst (v := 1) hx hb d_wbits_14 rfl ?_
  obtain ⟨cell, o1, o2⟩ := hO
  refine vx_ret (W.iret hx hb B.returns (fun t ht hw => ⟨rfl, by rw [ht]; exact hC2.2.1.moved hw.alike, ⟨v0, ⟨cell, by rw [ht, hk2 o (Array.getElem?_eq_some_iff.mp o1).1 hoA]; exact o1, State.isArrayOf_alike hw.alike o2.1, o2.2⟩, fun z => absurd z (by decide)⟩, ?_⟩) (fun q hq => Or.inl (hC2.1.2.2 q hq)) d_wbits_15 B.notSynchronized)
  exact ⟨by rw [ht]; exact hC2.1.1, fun q h1 h2 => by rw [ht]; exact hC2.1.2.1 q h1 (fun a => h2 (Or.inl a))⟩
abbrev wy_resource : MethodName := ⟨"StaticKernelLaw", "resource", "(LStaticKernel;II[J)I"⟩
abbrev wb_resource : ByteArray := bOfW 1588
abbrev wh_resource : List (Nat × Nat × Nat × Nat) := [(0, 10, 13, 13)]
theorem wc_resource : Cond.codeWith wy_resource wb_resource 5 (some .int) wh_resource ∈ lwg := wc_at (i := 1588) (by decide +kernel)
theorem d_wresource_0 : decode wb_resource 0 = .ok (.aload_n 3, 1) := by decide +kernel
theorem d_wresource_1 : decode wb_resource 1 = .ok (.iconst 0, 1) := by decide +kernel
theorem d_wresource_2 : decode wb_resource 2 = .ok (.aload_n 0, 1) := by decide +kernel
theorem d_wresource_3 : decode wb_resource 3 = .ok (.iload_n 1, 1) := by decide +kernel
theorem d_wresource_4 : decode wb_resource 4 = .ok (.iload_n 2, 1) := by decide +kernel
theorem d_wresource_5 : decode wb_resource 5 = .ok (.invokevirtual 23, 3) := by decide +kernel
theorem d_wresource_8 : decode wb_resource 8 = .ok (.i2l, 1) := by decide +kernel
theorem d_wresource_9 : decode wb_resource 9 = .ok (.lastore, 1) := by decide +kernel
theorem d_wresource_10 : decode wb_resource 10 = .ok (.goto 7, 3) := by decide +kernel
theorem d_wresource_13 : decode wb_resource 13 = .ok (.astore 4, 2) := by decide +kernel
theorem d_wresource_15 : decode wb_resource 15 = .ok (.iconst 1, 1) := by decide +kernel
theorem d_wresource_16 : decode wb_resource 16 = .ok (.ireturn, 1) := by decide +kernel
theorem d_wresource_17 : decode wb_resource 17 = .ok (.iconst 0, 1) := by decide +kernel
theorem d_wresource_18 : decode wb_resource 18 = .ok (.ireturn, 1) := by decide +kernel
theorem W_resource_ok (p0 : Int) (p1 : Int) (v : Int) (M : AMem) (hr : Runs 286 [aR 1 0, aI p0, aI p1] M (fun r M' => r = some (aI v) ∧ M' = M)) : WMet wy_resource wb_resource 5 wh_resource [aR 1 0, aI p0, aI p1] M 0 v := by
  intro l E o hst
  refine vx_ofWH (cc := wb_resource) (maxL := 5) (ret := some .int) (hh := wh_resource) (by decide) rfl ?_
  intro p e s m args below meth c s₁ B hml hv
  obtain ⟨rfl, ho, hE, hXP, hR, hM, ⟨v0, hO⟩, hoA, hoC⟩ := hv
  have hts0 := atoms_spec (ws := lwW wy_resource wb_resource 5 wh_resource) B.pre
  have hts : ∀ w ∈ lwg, w.before _ s = true := fun w hw => hts0 w (List.mem_cons_of_mem _ hw)
  have hown : s.vm.findClass "StaticKernelLaw" = some m.cls := findClass_of_methodNamed B.named
  have hx := B.exec
  have hb := B.bytes
  have hC : CfL E s s.heap [] M := ⟨va_S.rf, hR, hM⟩
  have hl := lv_entry ((([aR 1 0, aI p0, aI p1] : List AV).map (enc E)) ++ [Value.ref o]) (n := 5) (Nat.le_of_ble_eq_true rfl)
  rw [lg_entry_eq]
  generalize (lg_sl ((([aR 1 0, aI p0, aI p1] : List AV).map (enc E)) ++ [Value.ref o]) ++ List.replicate (5 - (lg_sl ((([aR 1 0, aI p0, aI p1] : List AV).map (enc E)) ++ [Value.ref o])).length) Slot.unset).toArray = ls at hl ⊢
  refine lv_aload_n hx hb d_wresource_0 rfl (lv_at hl 3 rfl) ?_
  refine lv_iconst (v := 0) hx hb d_wresource_1 rfl ?_
  refine lv_aload_n hx hb d_wresource_2 rfl (lv_at hl 0 rfl) ?_
  refine lv_iload_n hx hb d_wresource_3 rfl (lv_at hl 1 rfl) ?_
  refine lv_iload_n hx hb d_wresource_4 rfl (lv_at hl 2 rfl) ?_
  refine L_callM (own := "StaticKernelLaw") (n := 286) (idx := 23) (t := 0) (as := [aI p0, aI p1]) (rest := [.int 0, .ref o]) hx hb hml hown hts hE (by decide +kernel) (List.mem_filter.mpr ⟨by decide +kernel, rfl⟩) rfl ⟨Or.inl ⟨by decide, by decide⟩, by decide, by decide⟩ (fun a ha => ho a (List.mem_cons_of_mem _ ha)) rfl (by decide) (by decide) (by decide) (by decide) hC hr d_wresource_5 hl.1 (Nat.le_of_ble_eq_true rfl) (fun r M2 H2 locs2 hp ok2 hC2 hz2 hk2 => ?_)
  obtain ⟨rfl, rfl⟩ := hp
  refine lv_i2l (v := Int64.ofInt v) hx hb d_wresource_8 (i2l_of (ok2 _ rfl)) ?_
  obtain ⟨cell, o1, o2, o3, o4, o5⟩ := hO
  have o1 : H2[o]? = some cell := by rw [hk2 o (Array.getElem?_eq_some_iff.mp o1).1 hoA]; exact o1
  refine W.last (j := 0) (x := Int64.ofInt v) hx hb o1 o2 o3 (by rw [o4]; decide) rfl rfl d_wresource_9 (fun H3 e1 e2 e3 => ?_)
  refine lv_goto (tgt := 17) hx hb d_wresource_10 rfl ?_
  refine lv_iconst (v := 0) hx hb d_wresource_17 rfl ?_
  refine W.widen (k := 1) (n := 6) (by decide) (by decide) (vx_ret (W.iret hx hb B.returns (fun t ht hw => ?_) (fun q hq => ?_) d_wresource_18 B.notSynchronized))
  · refine ⟨rfl, ?_, ⟨Int64.ofInt v, ⟨cell.setSlot 0 (.long (Int64.ofInt v)), by rw [ht]; exact e1, State.isArrayOf_alike hw.alike o2, o3, by simp [Cell.setSlot]; exact o4, Cell.slots_setSlot_self _ (by rw [o4]; decide)⟩, fun _ => rfl⟩, va_F.or hC2.1 e2 e3 ht⟩
    rw [ht]
    exact (RepK.other hE.2.1 hoA hoC hC2.2.1 e3).moved hw.alike
  · rcases List.mem_append.mp hq with h | h
    · exact Or.inl (hC2.1.2.2 q h)
    · rcases List.mem_singleton.mp h with rfl
      exact Or.inr rfl
theorem W_resource_thr (p0 : Int) (p1 : Int) (v : Int) (M : AMem) (hr : XMet 286 [aR 1 0, aI p0, aI p1] M) : WMet wy_resource wb_resource 5 wh_resource [aR 1 0, aI p0, aI p1] M 1 v := by
  intro l E o hst
  refine vx_ofWH (cc := wb_resource) (maxL := 5) (ret := some .int) (hh := wh_resource) (by decide) rfl ?_
  intro p e s m args below meth c s₁ B hml hv
  obtain ⟨rfl, ho, hE, hXP, hR, hM, ⟨v0, hO⟩, hoA, hoC⟩ := hv
  have hts0 := atoms_spec (ws := lwW wy_resource wb_resource 5 wh_resource) B.pre
  have hts : ∀ w ∈ lwg, w.before _ s = true := fun w hw => hts0 w (List.mem_cons_of_mem _ hw)
  have hown : s.vm.findClass "StaticKernelLaw" = some m.cls := findClass_of_methodNamed B.named
  have hx := B.exec
  have hb := B.bytes
  have hC : CfL E s s.heap [] M := ⟨va_S.rf, hR, hM⟩
  have hl := lv_entry ((([aR 1 0, aI p0, aI p1] : List AV).map (enc E)) ++ [Value.ref o]) (n := 5) (Nat.le_of_ble_eq_true rfl)
  rw [lg_entry_eq]
  generalize (lg_sl ((([aR 1 0, aI p0, aI p1] : List AV).map (enc E)) ++ [Value.ref o]) ++ List.replicate (5 - (lg_sl ((([aR 1 0, aI p0, aI p1] : List AV).map (enc E)) ++ [Value.ref o])).length) Slot.unset).toArray = ls at hl ⊢
  refine lv_aload_n hx hb d_wresource_0 rfl (lv_at hl 3 rfl) ?_
  refine lv_iconst (v := 0) hx hb d_wresource_1 rfl ?_
  refine lv_aload_n hx hb d_wresource_2 rfl (lv_at hl 0 rfl) ?_
  refine lv_iload_n hx hb d_wresource_3 rfl (lv_at hl 1 rfl) ?_
  refine lv_iload_n hx hb d_wresource_4 rfl (lv_at hl 2 rfl) ?_
  refine L_callX (own := "StaticKernelLaw") (n := 286) (idx := 23) (t := 0) (as := [aI p0, aI p1]) (rest := [.int 0, .ref o]) hx hb hml hst hown hts hE hXP (by decide +kernel) (List.mem_filter.mpr ⟨by decide +kernel, rfl⟩) rfl ⟨Or.inl ⟨by decide, by decide⟩, by decide, by decide⟩ (fun a ha => ho a (List.mem_cons_of_mem _ ha)) rfl (by decide) (by decide) (by decide) (by decide) hC hr d_wresource_5 hl.1 (Nat.le_of_ble_eq_true rfl) (fun q ce H2 locs2 hC2 hz2 hk2 hce hcv hcl => ?_)
  have htab : c.exceptionTable.toList = [] ++ (⟨0, 10, 13, 13⟩ : ExceptionTableEntry) :: [] := vx_table (x := wy_name) B (hts0 _ List.mem_cons_self)
  refine cx_catch (own := "StaticKernelLaw") (name := nsee) hown _ [] htab (by decide) (by decide) (hts _ (List.mem_filter.mpr ⟨cw_law, rfl⟩)) (va_Nw.use rfl (hXP.1 _ (by decide))) hce hcv hcl ?_
  refine lv_astore hx hb d_wresource_13 hl (by decide) rfl (fun ls2 hl2 => ?_)
  refine lv_iconst (v := 1) hx hb d_wresource_15 rfl ?_
  obtain ⟨cell, o1, o2⟩ := hO
  refine vx_ret (W.iret hx hb B.returns (fun t ht hw => ⟨rfl, by rw [ht]; exact hC2.2.1.moved hw.alike, ⟨v0, ⟨cell, by rw [ht, hk2 o (Array.getElem?_eq_some_iff.mp o1).1 hoA]; exact o1, State.isArrayOf_alike hw.alike o2.1, o2.2⟩, fun z => absurd z (by decide)⟩, ?_⟩) (fun q hq => Or.inl (hC2.1.2.2 q hq)) d_wresource_16 B.notSynchronized)
  exact ⟨by rw [ht]; exact hC2.1.1, fun q h1 h2 => by rw [ht]; exact hC2.1.2.1 q h1 (fun a => h2 (Or.inl a))⟩
abbrev wy_isr : MethodName := ⟨"StaticKernelLaw", "isr", "(LStaticKernel;II[J)I"⟩
abbrev wb_isr : ByteArray := bOfW 1595
abbrev wh_isr : List (Nat × Nat × Nat × Nat) := [(0, 10, 13, 13)]
theorem wc_isr : Cond.codeWith wy_isr wb_isr 5 (some .int) wh_isr ∈ lwg := wc_at (i := 1595) (by decide +kernel)
theorem d_wisr_0 : decode wb_isr 0 = .ok (.aload_n 3, 1) := by decide +kernel
theorem d_wisr_1 : decode wb_isr 1 = .ok (.iconst 0, 1) := by decide +kernel
theorem d_wisr_2 : decode wb_isr 2 = .ok (.aload_n 0, 1) := by decide +kernel
theorem d_wisr_3 : decode wb_isr 3 = .ok (.iload_n 1, 1) := by decide +kernel
theorem d_wisr_4 : decode wb_isr 4 = .ok (.iload_n 2, 1) := by decide +kernel
theorem d_wisr_5 : decode wb_isr 5 = .ok (.invokevirtual 26, 3) := by decide +kernel
theorem d_wisr_8 : decode wb_isr 8 = .ok (.i2l, 1) := by decide +kernel
theorem d_wisr_9 : decode wb_isr 9 = .ok (.lastore, 1) := by decide +kernel
theorem d_wisr_10 : decode wb_isr 10 = .ok (.goto 7, 3) := by decide +kernel
theorem d_wisr_13 : decode wb_isr 13 = .ok (.astore 4, 2) := by decide +kernel
theorem d_wisr_15 : decode wb_isr 15 = .ok (.iconst 1, 1) := by decide +kernel
theorem d_wisr_16 : decode wb_isr 16 = .ok (.ireturn, 1) := by decide +kernel
theorem d_wisr_17 : decode wb_isr 17 = .ok (.iconst 0, 1) := by decide +kernel
theorem d_wisr_18 : decode wb_isr 18 = .ok (.ireturn, 1) := by decide +kernel
theorem W_isr_ok (p0 : Int) (p1 : Int) (v : Int) (M : AMem) (hr : Runs 287 [aR 1 0, aI p0, aI p1] M (fun r M' => r = some (aI v) ∧ M' = M)) : WMet wy_isr wb_isr 5 wh_isr [aR 1 0, aI p0, aI p1] M 0 v := by
  intro l E o hst
  refine vx_ofWH (cc := wb_isr) (maxL := 5) (ret := some .int) (hh := wh_isr) (by decide) rfl ?_
  intro p e s m args below meth c s₁ B hml hv
  obtain ⟨rfl, ho, hE, hXP, hR, hM, ⟨v0, hO⟩, hoA, hoC⟩ := hv
  have hts0 := atoms_spec (ws := lwW wy_isr wb_isr 5 wh_isr) B.pre
  have hts : ∀ w ∈ lwg, w.before _ s = true := fun w hw => hts0 w (List.mem_cons_of_mem _ hw)
  have hown : s.vm.findClass "StaticKernelLaw" = some m.cls := findClass_of_methodNamed B.named
  have hx := B.exec
  have hb := B.bytes
  have hC : CfL E s s.heap [] M := ⟨va_S.rf, hR, hM⟩
  have hl := lv_entry ((([aR 1 0, aI p0, aI p1] : List AV).map (enc E)) ++ [Value.ref o]) (n := 5) (Nat.le_of_ble_eq_true rfl)
  rw [lg_entry_eq]
  generalize (lg_sl ((([aR 1 0, aI p0, aI p1] : List AV).map (enc E)) ++ [Value.ref o]) ++ List.replicate (5 - (lg_sl ((([aR 1 0, aI p0, aI p1] : List AV).map (enc E)) ++ [Value.ref o])).length) Slot.unset).toArray = ls at hl ⊢
  refine lv_aload_n hx hb d_wisr_0 rfl (lv_at hl 3 rfl) ?_
  refine lv_iconst (v := 0) hx hb d_wisr_1 rfl ?_
  refine lv_aload_n hx hb d_wisr_2 rfl (lv_at hl 0 rfl) ?_
  refine lv_iload_n hx hb d_wisr_3 rfl (lv_at hl 1 rfl) ?_
  refine lv_iload_n hx hb d_wisr_4 rfl (lv_at hl 2 rfl) ?_
  refine L_callM (own := "StaticKernelLaw") (n := 287) (idx := 26) (t := 0) (as := [aI p0, aI p1]) (rest := [.int 0, .ref o]) hx hb hml hown hts hE (by decide +kernel) (List.mem_filter.mpr ⟨by decide +kernel, rfl⟩) rfl ⟨Or.inl ⟨by decide, by decide⟩, by decide, by decide⟩ (fun a ha => ho a (List.mem_cons_of_mem _ ha)) rfl (by decide) (by decide) (by decide) (by decide) hC hr d_wisr_5 hl.1 (Nat.le_of_ble_eq_true rfl) (fun r M2 H2 locs2 hp ok2 hC2 hz2 hk2 => ?_)
  obtain ⟨rfl, rfl⟩ := hp
  refine lv_i2l (v := Int64.ofInt v) hx hb d_wisr_8 (i2l_of (ok2 _ rfl)) ?_
  obtain ⟨cell, o1, o2, o3, o4, o5⟩ := hO
  have o1 : H2[o]? = some cell := by rw [hk2 o (Array.getElem?_eq_some_iff.mp o1).1 hoA]; exact o1
  refine W.last (j := 0) (x := Int64.ofInt v) hx hb o1 o2 o3 (by rw [o4]; decide) rfl rfl d_wisr_9 (fun H3 e1 e2 e3 => ?_)
  refine lv_goto (tgt := 17) hx hb d_wisr_10 rfl ?_
  refine lv_iconst (v := 0) hx hb d_wisr_17 rfl ?_
  refine W.widen (k := 1) (n := 6) (by decide) (by decide) (vx_ret (W.iret hx hb B.returns (fun t ht hw => ?_) (fun q hq => ?_) d_wisr_18 B.notSynchronized))
  · refine ⟨rfl, ?_, ⟨Int64.ofInt v, ⟨cell.setSlot 0 (.long (Int64.ofInt v)), by rw [ht]; exact e1, State.isArrayOf_alike hw.alike o2, o3, by simp [Cell.setSlot]; exact o4, Cell.slots_setSlot_self _ (by rw [o4]; decide)⟩, fun _ => rfl⟩, va_F.or hC2.1 e2 e3 ht⟩
    rw [ht]
    exact (RepK.other hE.2.1 hoA hoC hC2.2.1 e3).moved hw.alike
  · rcases List.mem_append.mp hq with h | h
    · exact Or.inl (hC2.1.2.2 q h)
    · rcases List.mem_singleton.mp h with rfl
      exact Or.inr rfl
theorem W_isr_thr (p0 : Int) (p1 : Int) (v : Int) (M : AMem) (hr : XMet 287 [aR 1 0, aI p0, aI p1] M) : WMet wy_isr wb_isr 5 wh_isr [aR 1 0, aI p0, aI p1] M 1 v := by
  intro l E o hst
  refine vx_ofWH (cc := wb_isr) (maxL := 5) (ret := some .int) (hh := wh_isr) (by decide) rfl ?_
  intro p e s m args below meth c s₁ B hml hv
  obtain ⟨rfl, ho, hE, hXP, hR, hM, ⟨v0, hO⟩, hoA, hoC⟩ := hv
  have hts0 := atoms_spec (ws := lwW wy_isr wb_isr 5 wh_isr) B.pre
  have hts : ∀ w ∈ lwg, w.before _ s = true := fun w hw => hts0 w (List.mem_cons_of_mem _ hw)
  have hown : s.vm.findClass "StaticKernelLaw" = some m.cls := findClass_of_methodNamed B.named
  have hx := B.exec
  have hb := B.bytes
  have hC : CfL E s s.heap [] M := ⟨va_S.rf, hR, hM⟩
  have hl := lv_entry ((([aR 1 0, aI p0, aI p1] : List AV).map (enc E)) ++ [Value.ref o]) (n := 5) (Nat.le_of_ble_eq_true rfl)
  rw [lg_entry_eq]
  generalize (lg_sl ((([aR 1 0, aI p0, aI p1] : List AV).map (enc E)) ++ [Value.ref o]) ++ List.replicate (5 - (lg_sl ((([aR 1 0, aI p0, aI p1] : List AV).map (enc E)) ++ [Value.ref o])).length) Slot.unset).toArray = ls at hl ⊢
  refine lv_aload_n hx hb d_wisr_0 rfl (lv_at hl 3 rfl) ?_
  refine lv_iconst (v := 0) hx hb d_wisr_1 rfl ?_
  refine lv_aload_n hx hb d_wisr_2 rfl (lv_at hl 0 rfl) ?_
  refine lv_iload_n hx hb d_wisr_3 rfl (lv_at hl 1 rfl) ?_
  refine lv_iload_n hx hb d_wisr_4 rfl (lv_at hl 2 rfl) ?_
  refine L_callX (own := "StaticKernelLaw") (n := 287) (idx := 26) (t := 0) (as := [aI p0, aI p1]) (rest := [.int 0, .ref o]) hx hb hml hst hown hts hE hXP (by decide +kernel) (List.mem_filter.mpr ⟨by decide +kernel, rfl⟩) rfl ⟨Or.inl ⟨by decide, by decide⟩, by decide, by decide⟩ (fun a ha => ho a (List.mem_cons_of_mem _ ha)) rfl (by decide) (by decide) (by decide) (by decide) hC hr d_wisr_5 hl.1 (Nat.le_of_ble_eq_true rfl) (fun q ce H2 locs2 hC2 hz2 hk2 hce hcv hcl => ?_)
  have htab : c.exceptionTable.toList = [] ++ (⟨0, 10, 13, 13⟩ : ExceptionTableEntry) :: [] := vx_table (x := wy_name) B (hts0 _ List.mem_cons_self)
  refine cx_catch (own := "StaticKernelLaw") (name := nsee) hown _ [] htab (by decide) (by decide) (hts _ (List.mem_filter.mpr ⟨cw_law, rfl⟩)) (va_Nw.use rfl (hXP.1 _ (by decide))) hce hcv hcl ?_
  refine lv_astore hx hb d_wisr_13 hl (by decide) rfl (fun ls2 hl2 => ?_)
  refine lv_iconst (v := 1) hx hb d_wisr_15 rfl ?_
  obtain ⟨cell, o1, o2⟩ := hO
  refine vx_ret (W.iret hx hb B.returns (fun t ht hw => ⟨rfl, by rw [ht]; exact hC2.2.1.moved hw.alike, ⟨v0, ⟨cell, by rw [ht, hk2 o (Array.getElem?_eq_some_iff.mp o1).1 hoA]; exact o1, State.isArrayOf_alike hw.alike o2.1, o2.2⟩, fun z => absurd z (by decide)⟩, ?_⟩) (fun q hq => Or.inl (hC2.1.2.2 q hq)) d_wisr_16 B.notSynchronized)
  exact ⟨by rw [ht]; exact hC2.1.1, fun q h1 h2 => by rw [ht]; exact hC2.1.2.1 q h1 (fun a => h2 (Or.inl a))⟩
abbrev wy_counter : MethodName := ⟨"StaticKernelLaw", "counter", "(LStaticKernel;II[J)I"⟩
abbrev wb_counter : ByteArray := bOfW 1606
abbrev wh_counter : List (Nat × Nat × Nat × Nat) := [(0, 10, 13, 13)]
theorem wc_counter : Cond.codeWith wy_counter wb_counter 5 (some .int) wh_counter ∈ lwg := wc_at (i := 1606) (by decide +kernel)
theorem d_wcounter_0 : decode wb_counter 0 = .ok (.aload_n 3, 1) := by decide +kernel
theorem d_wcounter_1 : decode wb_counter 1 = .ok (.iconst 0, 1) := by decide +kernel
theorem d_wcounter_2 : decode wb_counter 2 = .ok (.aload_n 0, 1) := by decide +kernel
theorem d_wcounter_3 : decode wb_counter 3 = .ok (.iload_n 1, 1) := by decide +kernel
theorem d_wcounter_4 : decode wb_counter 4 = .ok (.iload_n 2, 1) := by decide +kernel
theorem d_wcounter_5 : decode wb_counter 5 = .ok (.invokevirtual 29, 3) := by decide +kernel
theorem d_wcounter_8 : decode wb_counter 8 = .ok (.i2l, 1) := by decide +kernel
theorem d_wcounter_9 : decode wb_counter 9 = .ok (.lastore, 1) := by decide +kernel
theorem d_wcounter_10 : decode wb_counter 10 = .ok (.goto 7, 3) := by decide +kernel
theorem d_wcounter_13 : decode wb_counter 13 = .ok (.astore 4, 2) := by decide +kernel
theorem d_wcounter_15 : decode wb_counter 15 = .ok (.iconst 1, 1) := by decide +kernel
theorem d_wcounter_16 : decode wb_counter 16 = .ok (.ireturn, 1) := by decide +kernel
theorem d_wcounter_17 : decode wb_counter 17 = .ok (.iconst 0, 1) := by decide +kernel
theorem d_wcounter_18 : decode wb_counter 18 = .ok (.ireturn, 1) := by decide +kernel
theorem W_counter_ok (p0 : Int) (p1 : Int) (v : Int) (M : AMem) (hr : Runs 289 [aR 1 0, aI p0, aI p1] M (fun r M' => r = some (aI v) ∧ M' = M)) : WMet wy_counter wb_counter 5 wh_counter [aR 1 0, aI p0, aI p1] M 0 v := by
  intro l E o hst
  refine vx_ofWH (cc := wb_counter) (maxL := 5) (ret := some .int) (hh := wh_counter) (by decide) rfl ?_
  intro p e s m args below meth c s₁ B hml hv
  obtain ⟨rfl, ho, hE, hXP, hR, hM, ⟨v0, hO⟩, hoA, hoC⟩ := hv
  have hts0 := atoms_spec (ws := lwW wy_counter wb_counter 5 wh_counter) B.pre
  have hts : ∀ w ∈ lwg, w.before _ s = true := fun w hw => hts0 w (List.mem_cons_of_mem _ hw)
  have hown : s.vm.findClass "StaticKernelLaw" = some m.cls := findClass_of_methodNamed B.named
  have hx := B.exec
  have hb := B.bytes
  have hC : CfL E s s.heap [] M := ⟨va_S.rf, hR, hM⟩
  have hl := lv_entry ((([aR 1 0, aI p0, aI p1] : List AV).map (enc E)) ++ [Value.ref o]) (n := 5) (Nat.le_of_ble_eq_true rfl)
  rw [lg_entry_eq]
  generalize (lg_sl ((([aR 1 0, aI p0, aI p1] : List AV).map (enc E)) ++ [Value.ref o]) ++ List.replicate (5 - (lg_sl ((([aR 1 0, aI p0, aI p1] : List AV).map (enc E)) ++ [Value.ref o])).length) Slot.unset).toArray = ls at hl ⊢
  refine lv_aload_n hx hb d_wcounter_0 rfl (lv_at hl 3 rfl) ?_
  refine lv_iconst (v := 0) hx hb d_wcounter_1 rfl ?_
  refine lv_aload_n hx hb d_wcounter_2 rfl (lv_at hl 0 rfl) ?_
  refine lv_iload_n hx hb d_wcounter_3 rfl (lv_at hl 1 rfl) ?_
  refine lv_iload_n hx hb d_wcounter_4 rfl (lv_at hl 2 rfl) ?_
  refine L_callM (own := "StaticKernelLaw") (n := 289) (idx := 29) (t := 0) (as := [aI p0, aI p1]) (rest := [.int 0, .ref o]) hx hb hml hown hts hE (by decide +kernel) (List.mem_filter.mpr ⟨by decide +kernel, rfl⟩) rfl ⟨Or.inl ⟨by decide, by decide⟩, by decide, by decide⟩ (fun a ha => ho a (List.mem_cons_of_mem _ ha)) rfl (by decide) (by decide) (by decide) (by decide) hC hr d_wcounter_5 hl.1 (Nat.le_of_ble_eq_true rfl) (fun r M2 H2 locs2 hp ok2 hC2 hz2 hk2 => ?_)
  obtain ⟨rfl, rfl⟩ := hp
  refine lv_i2l (v := Int64.ofInt v) hx hb d_wcounter_8 (i2l_of (ok2 _ rfl)) ?_
  obtain ⟨cell, o1, o2, o3, o4, o5⟩ := hO
  have o1 : H2[o]? = some cell := by rw [hk2 o (Array.getElem?_eq_some_iff.mp o1).1 hoA]; exact o1
  refine W.last (j := 0) (x := Int64.ofInt v) hx hb o1 o2 o3 (by rw [o4]; decide) rfl rfl d_wcounter_9 (fun H3 e1 e2 e3 => ?_)
  refine lv_goto (tgt := 17) hx hb d_wcounter_10 rfl ?_
  refine lv_iconst (v := 0) hx hb d_wcounter_17 rfl ?_
  refine W.widen (k := 1) (n := 6) (by decide) (by decide) (vx_ret (W.iret hx hb B.returns (fun t ht hw => ?_) (fun q hq => ?_) d_wcounter_18 B.notSynchronized))
  · refine ⟨rfl, ?_, ⟨Int64.ofInt v, ⟨cell.setSlot 0 (.long (Int64.ofInt v)), by rw [ht]; exact e1, State.isArrayOf_alike hw.alike o2, o3, by simp [Cell.setSlot]; exact o4, Cell.slots_setSlot_self _ (by rw [o4]; decide)⟩, fun _ => rfl⟩, va_F.or hC2.1 e2 e3 ht⟩
    rw [ht]
    exact (RepK.other hE.2.1 hoA hoC hC2.2.1 e3).moved hw.alike
  · rcases List.mem_append.mp hq with h | h
    · exact Or.inl (hC2.1.2.2 q h)
    · rcases List.mem_singleton.mp h with rfl
      exact Or.inr rfl
theorem W_counter_thr (p0 : Int) (p1 : Int) (v : Int) (M : AMem) (hr : XMet 289 [aR 1 0, aI p0, aI p1] M) : WMet wy_counter wb_counter 5 wh_counter [aR 1 0, aI p0, aI p1] M 1 v := by
  intro l E o hst
  refine vx_ofWH (cc := wb_counter) (maxL := 5) (ret := some .int) (hh := wh_counter) (by decide) rfl ?_
  intro p e s m args below meth c s₁ B hml hv
  obtain ⟨rfl, ho, hE, hXP, hR, hM, ⟨v0, hO⟩, hoA, hoC⟩ := hv
  have hts0 := atoms_spec (ws := lwW wy_counter wb_counter 5 wh_counter) B.pre
  have hts : ∀ w ∈ lwg, w.before _ s = true := fun w hw => hts0 w (List.mem_cons_of_mem _ hw)
  have hown : s.vm.findClass "StaticKernelLaw" = some m.cls := findClass_of_methodNamed B.named
  have hx := B.exec
  have hb := B.bytes
  have hC : CfL E s s.heap [] M := ⟨va_S.rf, hR, hM⟩
  have hl := lv_entry ((([aR 1 0, aI p0, aI p1] : List AV).map (enc E)) ++ [Value.ref o]) (n := 5) (Nat.le_of_ble_eq_true rfl)
  rw [lg_entry_eq]
  generalize (lg_sl ((([aR 1 0, aI p0, aI p1] : List AV).map (enc E)) ++ [Value.ref o]) ++ List.replicate (5 - (lg_sl ((([aR 1 0, aI p0, aI p1] : List AV).map (enc E)) ++ [Value.ref o])).length) Slot.unset).toArray = ls at hl ⊢
  refine lv_aload_n hx hb d_wcounter_0 rfl (lv_at hl 3 rfl) ?_
  refine lv_iconst (v := 0) hx hb d_wcounter_1 rfl ?_
  refine lv_aload_n hx hb d_wcounter_2 rfl (lv_at hl 0 rfl) ?_
  refine lv_iload_n hx hb d_wcounter_3 rfl (lv_at hl 1 rfl) ?_
  refine lv_iload_n hx hb d_wcounter_4 rfl (lv_at hl 2 rfl) ?_
  refine L_callX (own := "StaticKernelLaw") (n := 289) (idx := 29) (t := 0) (as := [aI p0, aI p1]) (rest := [.int 0, .ref o]) hx hb hml hst hown hts hE hXP (by decide +kernel) (List.mem_filter.mpr ⟨by decide +kernel, rfl⟩) rfl ⟨Or.inl ⟨by decide, by decide⟩, by decide, by decide⟩ (fun a ha => ho a (List.mem_cons_of_mem _ ha)) rfl (by decide) (by decide) (by decide) (by decide) hC hr d_wcounter_5 hl.1 (Nat.le_of_ble_eq_true rfl) (fun q ce H2 locs2 hC2 hz2 hk2 hce hcv hcl => ?_)
  have htab : c.exceptionTable.toList = [] ++ (⟨0, 10, 13, 13⟩ : ExceptionTableEntry) :: [] := vx_table (x := wy_name) B (hts0 _ List.mem_cons_self)
  refine cx_catch (own := "StaticKernelLaw") (name := nsee) hown _ [] htab (by decide) (by decide) (hts _ (List.mem_filter.mpr ⟨cw_law, rfl⟩)) (va_Nw.use rfl (hXP.1 _ (by decide))) hce hcv hcl ?_
  refine lv_astore hx hb d_wcounter_13 hl (by decide) rfl (fun ls2 hl2 => ?_)
  refine lv_iconst (v := 1) hx hb d_wcounter_15 rfl ?_
  obtain ⟨cell, o1, o2⟩ := hO
  refine vx_ret (W.iret hx hb B.returns (fun t ht hw => ⟨rfl, by rw [ht]; exact hC2.2.1.moved hw.alike, ⟨v0, ⟨cell, by rw [ht, hk2 o (Array.getElem?_eq_some_iff.mp o1).1 hoA]; exact o1, State.isArrayOf_alike hw.alike o2.1, o2.2⟩, fun z => absurd z (by decide)⟩, ?_⟩) (fun q hq => Or.inl (hC2.1.2.2 q hq)) d_wcounter_16 B.notSynchronized)
  exact ⟨by rw [ht]; exact hC2.1.1, fun q h1 h2 => by rw [ht]; exact hC2.1.2.1 q h1 (fun a => h2 (Or.inl a))⟩
abbrev wy_alarm : MethodName := ⟨"StaticKernelLaw", "alarm", "(LStaticKernel;II[J)I"⟩
abbrev wb_alarm : ByteArray := bOfW 1613
abbrev wh_alarm : List (Nat × Nat × Nat × Nat) := [(0, 10, 13, 13)]
theorem wc_alarm : Cond.codeWith wy_alarm wb_alarm 5 (some .int) wh_alarm ∈ lwg := wc_at (i := 1613) (by decide +kernel)
theorem d_walarm_0 : decode wb_alarm 0 = .ok (.aload_n 3, 1) := by decide +kernel
theorem d_walarm_1 : decode wb_alarm 1 = .ok (.iconst 0, 1) := by decide +kernel
theorem d_walarm_2 : decode wb_alarm 2 = .ok (.aload_n 0, 1) := by decide +kernel
theorem d_walarm_3 : decode wb_alarm 3 = .ok (.iload_n 1, 1) := by decide +kernel
theorem d_walarm_4 : decode wb_alarm 4 = .ok (.iload_n 2, 1) := by decide +kernel
theorem d_walarm_5 : decode wb_alarm 5 = .ok (.invokevirtual 32, 3) := by decide +kernel
theorem d_walarm_8 : decode wb_alarm 8 = .ok (.i2l, 1) := by decide +kernel
theorem d_walarm_9 : decode wb_alarm 9 = .ok (.lastore, 1) := by decide +kernel
theorem d_walarm_10 : decode wb_alarm 10 = .ok (.goto 7, 3) := by decide +kernel
theorem d_walarm_13 : decode wb_alarm 13 = .ok (.astore 4, 2) := by decide +kernel
theorem d_walarm_15 : decode wb_alarm 15 = .ok (.iconst 1, 1) := by decide +kernel
theorem d_walarm_16 : decode wb_alarm 16 = .ok (.ireturn, 1) := by decide +kernel
theorem d_walarm_17 : decode wb_alarm 17 = .ok (.iconst 0, 1) := by decide +kernel
theorem d_walarm_18 : decode wb_alarm 18 = .ok (.ireturn, 1) := by decide +kernel
theorem W_alarm_ok (p0 : Int) (p1 : Int) (v : Int) (M : AMem) (hr : Runs 290 [aR 1 0, aI p0, aI p1] M (fun r M' => r = some (aI v) ∧ M' = M)) : WMet wy_alarm wb_alarm 5 wh_alarm [aR 1 0, aI p0, aI p1] M 0 v := by
  intro l E o hst
  refine vx_ofWH (cc := wb_alarm) (maxL := 5) (ret := some .int) (hh := wh_alarm) (by decide) rfl ?_
  intro p e s m args below meth c s₁ B hml hv
  obtain ⟨rfl, ho, hE, hXP, hR, hM, ⟨v0, hO⟩, hoA, hoC⟩ := hv
  have hts0 := atoms_spec (ws := lwW wy_alarm wb_alarm 5 wh_alarm) B.pre
  have hts : ∀ w ∈ lwg, w.before _ s = true := fun w hw => hts0 w (List.mem_cons_of_mem _ hw)
  have hown : s.vm.findClass "StaticKernelLaw" = some m.cls := findClass_of_methodNamed B.named
  have hx := B.exec
  have hb := B.bytes
  have hC : CfL E s s.heap [] M := ⟨va_S.rf, hR, hM⟩
  have hl := lv_entry ((([aR 1 0, aI p0, aI p1] : List AV).map (enc E)) ++ [Value.ref o]) (n := 5) (Nat.le_of_ble_eq_true rfl)
  rw [lg_entry_eq]
  generalize (lg_sl ((([aR 1 0, aI p0, aI p1] : List AV).map (enc E)) ++ [Value.ref o]) ++ List.replicate (5 - (lg_sl ((([aR 1 0, aI p0, aI p1] : List AV).map (enc E)) ++ [Value.ref o])).length) Slot.unset).toArray = ls at hl ⊢
  refine lv_aload_n hx hb d_walarm_0 rfl (lv_at hl 3 rfl) ?_
  refine lv_iconst (v := 0) hx hb d_walarm_1 rfl ?_
  refine lv_aload_n hx hb d_walarm_2 rfl (lv_at hl 0 rfl) ?_
  refine lv_iload_n hx hb d_walarm_3 rfl (lv_at hl 1 rfl) ?_
  refine lv_iload_n hx hb d_walarm_4 rfl (lv_at hl 2 rfl) ?_
  refine L_callM (own := "StaticKernelLaw") (n := 290) (idx := 32) (t := 0) (as := [aI p0, aI p1]) (rest := [.int 0, .ref o]) hx hb hml hown hts hE (by decide +kernel) (List.mem_filter.mpr ⟨by decide +kernel, rfl⟩) rfl ⟨Or.inl ⟨by decide, by decide⟩, by decide, by decide⟩ (fun a ha => ho a (List.mem_cons_of_mem _ ha)) rfl (by decide) (by decide) (by decide) (by decide) hC hr d_walarm_5 hl.1 (Nat.le_of_ble_eq_true rfl) (fun r M2 H2 locs2 hp ok2 hC2 hz2 hk2 => ?_)
  obtain ⟨rfl, rfl⟩ := hp
  refine lv_i2l (v := Int64.ofInt v) hx hb d_walarm_8 (i2l_of (ok2 _ rfl)) ?_
  obtain ⟨cell, o1, o2, o3, o4, o5⟩ := hO
  have o1 : H2[o]? = some cell := by rw [hk2 o (Array.getElem?_eq_some_iff.mp o1).1 hoA]; exact o1
  refine W.last (j := 0) (x := Int64.ofInt v) hx hb o1 o2 o3 (by rw [o4]; decide) rfl rfl d_walarm_9 (fun H3 e1 e2 e3 => ?_)
  refine lv_goto (tgt := 17) hx hb d_walarm_10 rfl ?_
  refine lv_iconst (v := 0) hx hb d_walarm_17 rfl ?_
  refine W.widen (k := 1) (n := 6) (by decide) (by decide) (vx_ret (W.iret hx hb B.returns (fun t ht hw => ?_) (fun q hq => ?_) d_walarm_18 B.notSynchronized))
  · refine ⟨rfl, ?_, ⟨Int64.ofInt v, ⟨cell.setSlot 0 (.long (Int64.ofInt v)), by rw [ht]; exact e1, State.isArrayOf_alike hw.alike o2, o3, by simp [Cell.setSlot]; exact o4, Cell.slots_setSlot_self _ (by rw [o4]; decide)⟩, fun _ => rfl⟩, va_F.or hC2.1 e2 e3 ht⟩
    rw [ht]
    exact (RepK.other hE.2.1 hoA hoC hC2.2.1 e3).moved hw.alike
  · rcases List.mem_append.mp hq with h | h
    · exact Or.inl (hC2.1.2.2 q h)
    · rcases List.mem_singleton.mp h with rfl
      exact Or.inr rfl
theorem W_alarm_thr (p0 : Int) (p1 : Int) (v : Int) (M : AMem) (hr : XMet 290 [aR 1 0, aI p0, aI p1] M) : WMet wy_alarm wb_alarm 5 wh_alarm [aR 1 0, aI p0, aI p1] M 1 v := by
  intro l E o hst
  refine vx_ofWH (cc := wb_alarm) (maxL := 5) (ret := some .int) (hh := wh_alarm) (by decide) rfl ?_
  intro p e s m args below meth c s₁ B hml hv
  obtain ⟨rfl, ho, hE, hXP, hR, hM, ⟨v0, hO⟩, hoA, hoC⟩ := hv
  have hts0 := atoms_spec (ws := lwW wy_alarm wb_alarm 5 wh_alarm) B.pre
  have hts : ∀ w ∈ lwg, w.before _ s = true := fun w hw => hts0 w (List.mem_cons_of_mem _ hw)
  have hown : s.vm.findClass "StaticKernelLaw" = some m.cls := findClass_of_methodNamed B.named
  have hx := B.exec
  have hb := B.bytes
  have hC : CfL E s s.heap [] M := ⟨va_S.rf, hR, hM⟩
  have hl := lv_entry ((([aR 1 0, aI p0, aI p1] : List AV).map (enc E)) ++ [Value.ref o]) (n := 5) (Nat.le_of_ble_eq_true rfl)
  rw [lg_entry_eq]
  generalize (lg_sl ((([aR 1 0, aI p0, aI p1] : List AV).map (enc E)) ++ [Value.ref o]) ++ List.replicate (5 - (lg_sl ((([aR 1 0, aI p0, aI p1] : List AV).map (enc E)) ++ [Value.ref o])).length) Slot.unset).toArray = ls at hl ⊢
  refine lv_aload_n hx hb d_walarm_0 rfl (lv_at hl 3 rfl) ?_
  refine lv_iconst (v := 0) hx hb d_walarm_1 rfl ?_
  refine lv_aload_n hx hb d_walarm_2 rfl (lv_at hl 0 rfl) ?_
  refine lv_iload_n hx hb d_walarm_3 rfl (lv_at hl 1 rfl) ?_
  refine lv_iload_n hx hb d_walarm_4 rfl (lv_at hl 2 rfl) ?_
  refine L_callX (own := "StaticKernelLaw") (n := 290) (idx := 32) (t := 0) (as := [aI p0, aI p1]) (rest := [.int 0, .ref o]) hx hb hml hst hown hts hE hXP (by decide +kernel) (List.mem_filter.mpr ⟨by decide +kernel, rfl⟩) rfl ⟨Or.inl ⟨by decide, by decide⟩, by decide, by decide⟩ (fun a ha => ho a (List.mem_cons_of_mem _ ha)) rfl (by decide) (by decide) (by decide) (by decide) hC hr d_walarm_5 hl.1 (Nat.le_of_ble_eq_true rfl) (fun q ce H2 locs2 hC2 hz2 hk2 hce hcv hcl => ?_)
  have htab : c.exceptionTable.toList = [] ++ (⟨0, 10, 13, 13⟩ : ExceptionTableEntry) :: [] := vx_table (x := wy_name) B (hts0 _ List.mem_cons_self)
  refine cx_catch (own := "StaticKernelLaw") (name := nsee) hown _ [] htab (by decide) (by decide) (hts _ (List.mem_filter.mpr ⟨cw_law, rfl⟩)) (va_Nw.use rfl (hXP.1 _ (by decide))) hce hcv hcl ?_
  refine lv_astore hx hb d_walarm_13 hl (by decide) rfl (fun ls2 hl2 => ?_)
  refine lv_iconst (v := 1) hx hb d_walarm_15 rfl ?_
  obtain ⟨cell, o1, o2⟩ := hO
  refine vx_ret (W.iret hx hb B.returns (fun t ht hw => ⟨rfl, by rw [ht]; exact hC2.2.1.moved hw.alike, ⟨v0, ⟨cell, by rw [ht, hk2 o (Array.getElem?_eq_some_iff.mp o1).1 hoA]; exact o1, State.isArrayOf_alike hw.alike o2.1, o2.2⟩, fun z => absurd z (by decide)⟩, ?_⟩) (fun q hq => Or.inl (hC2.1.2.2 q hq)) d_walarm_16 B.notSynchronized)
  exact ⟨by rw [ht]; exact hC2.1.1, fun q h1 h2 => by rw [ht]; exact hC2.1.2.1 q h1 (fun a => h2 (Or.inl a))⟩
abbrev wy_note : MethodName := ⟨"StaticKernelLaw", "note", "(LStaticKernel;I[J)I"⟩
abbrev wb_note : ByteArray := bOfW 1620
abbrev wh_note : List (Nat × Nat × Nat × Nat) := [(0, 9, 12, 13)]
theorem wc_note : Cond.codeWith wy_note wb_note 4 (some .int) wh_note ∈ lwg := wc_at (i := 1620) (by decide +kernel)
theorem d_wnote_0 : decode wb_note 0 = .ok (.aload_n 2, 1) := by decide +kernel
theorem d_wnote_1 : decode wb_note 1 = .ok (.iconst 0, 1) := by decide +kernel
theorem d_wnote_2 : decode wb_note 2 = .ok (.aload_n 0, 1) := by decide +kernel
theorem d_wnote_3 : decode wb_note 3 = .ok (.iload_n 1, 1) := by decide +kernel
theorem d_wnote_4 : decode wb_note 4 = .ok (.invokevirtual 35, 3) := by decide +kernel
theorem d_wnote_7 : decode wb_note 7 = .ok (.i2l, 1) := by decide +kernel
theorem d_wnote_8 : decode wb_note 8 = .ok (.lastore, 1) := by decide +kernel
theorem d_wnote_9 : decode wb_note 9 = .ok (.goto 6, 3) := by decide +kernel
theorem d_wnote_12 : decode wb_note 12 = .ok (.astore_n 3, 1) := by decide +kernel
theorem d_wnote_13 : decode wb_note 13 = .ok (.iconst 1, 1) := by decide +kernel
theorem d_wnote_14 : decode wb_note 14 = .ok (.ireturn, 1) := by decide +kernel
theorem d_wnote_15 : decode wb_note 15 = .ok (.iconst 0, 1) := by decide +kernel
theorem d_wnote_16 : decode wb_note 16 = .ok (.ireturn, 1) := by decide +kernel
theorem W_note_ok (p0 : Int) (v : Int) (M : AMem) (hr : Runs 291 [aR 1 0, aI p0] M (fun r M' => r = some (aI v) ∧ M' = M)) : WMet wy_note wb_note 4 wh_note [aR 1 0, aI p0] M 0 v := by
  intro l E o hst
  refine vx_ofWH (cc := wb_note) (maxL := 4) (ret := some .int) (hh := wh_note) (by decide) rfl ?_
  intro p e s m args below meth c s₁ B hml hv
  obtain ⟨rfl, ho, hE, hXP, hR, hM, ⟨v0, hO⟩, hoA, hoC⟩ := hv
  have hts0 := atoms_spec (ws := lwW wy_note wb_note 4 wh_note) B.pre
  have hts : ∀ w ∈ lwg, w.before _ s = true := fun w hw => hts0 w (List.mem_cons_of_mem _ hw)
  have hown : s.vm.findClass "StaticKernelLaw" = some m.cls := findClass_of_methodNamed B.named
  have hx := B.exec
  have hb := B.bytes
  have hC : CfL E s s.heap [] M := ⟨va_S.rf, hR, hM⟩
  have hl := lv_entry ((([aR 1 0, aI p0] : List AV).map (enc E)) ++ [Value.ref o]) (n := 4) (Nat.le_of_ble_eq_true rfl)
  rw [lg_entry_eq]
  generalize (lg_sl ((([aR 1 0, aI p0] : List AV).map (enc E)) ++ [Value.ref o]) ++ List.replicate (4 - (lg_sl ((([aR 1 0, aI p0] : List AV).map (enc E)) ++ [Value.ref o])).length) Slot.unset).toArray = ls at hl ⊢
  refine lv_aload_n hx hb d_wnote_0 rfl (lv_at hl 2 rfl) ?_
  refine lv_iconst (v := 0) hx hb d_wnote_1 rfl ?_
  refine lv_aload_n hx hb d_wnote_2 rfl (lv_at hl 0 rfl) ?_
  refine lv_iload_n hx hb d_wnote_3 rfl (lv_at hl 1 rfl) ?_
  refine L_callM (own := "StaticKernelLaw") (n := 291) (idx := 35) (t := 0) (as := [aI p0]) (rest := [.int 0, .ref o]) hx hb hml hown hts hE (by decide +kernel) (List.mem_filter.mpr ⟨by decide +kernel, rfl⟩) rfl ⟨Or.inl ⟨by decide, by decide⟩, by decide, by decide⟩ (fun a ha => ho a (List.mem_cons_of_mem _ ha)) rfl (by decide) (by decide) (by decide) (by decide) hC hr d_wnote_4 hl.1 (Nat.le_of_ble_eq_true rfl) (fun r M2 H2 locs2 hp ok2 hC2 hz2 hk2 => ?_)
  obtain ⟨rfl, rfl⟩ := hp
  refine lv_i2l (v := Int64.ofInt v) hx hb d_wnote_7 (i2l_of (ok2 _ rfl)) ?_
  obtain ⟨cell, o1, o2, o3, o4, o5⟩ := hO
  have o1 : H2[o]? = some cell := by rw [hk2 o (Array.getElem?_eq_some_iff.mp o1).1 hoA]; exact o1
  refine W.last (j := 0) (x := Int64.ofInt v) hx hb o1 o2 o3 (by rw [o4]; decide) rfl rfl d_wnote_8 (fun H3 e1 e2 e3 => ?_)
  refine lv_goto (tgt := 15) hx hb d_wnote_9 rfl ?_
  refine lv_iconst (v := 0) hx hb d_wnote_15 rfl ?_
  refine W.widen (k := 1) (n := 6) (by decide) (by decide) (vx_ret (W.iret hx hb B.returns (fun t ht hw => ?_) (fun q hq => ?_) d_wnote_16 B.notSynchronized))
  · refine ⟨rfl, ?_, ⟨Int64.ofInt v, ⟨cell.setSlot 0 (.long (Int64.ofInt v)), by rw [ht]; exact e1, State.isArrayOf_alike hw.alike o2, o3, by simp [Cell.setSlot]; exact o4, Cell.slots_setSlot_self _ (by rw [o4]; decide)⟩, fun _ => rfl⟩, va_F.or hC2.1 e2 e3 ht⟩
    rw [ht]
    exact (RepK.other hE.2.1 hoA hoC hC2.2.1 e3).moved hw.alike
  · rcases List.mem_append.mp hq with h | h
    · exact Or.inl (hC2.1.2.2 q h)
    · rcases List.mem_singleton.mp h with rfl
      exact Or.inr rfl
theorem W_note_thr (p0 : Int) (v : Int) (M : AMem) (hr : XMet 291 [aR 1 0, aI p0] M) : WMet wy_note wb_note 4 wh_note [aR 1 0, aI p0] M 1 v := by
  intro l E o hst
  refine vx_ofWH (cc := wb_note) (maxL := 4) (ret := some .int) (hh := wh_note) (by decide) rfl ?_
  intro p e s m args below meth c s₁ B hml hv
  obtain ⟨rfl, ho, hE, hXP, hR, hM, ⟨v0, hO⟩, hoA, hoC⟩ := hv
  have hts0 := atoms_spec (ws := lwW wy_note wb_note 4 wh_note) B.pre
  have hts : ∀ w ∈ lwg, w.before _ s = true := fun w hw => hts0 w (List.mem_cons_of_mem _ hw)
  have hown : s.vm.findClass "StaticKernelLaw" = some m.cls := findClass_of_methodNamed B.named
  have hx := B.exec
  have hb := B.bytes
  have hC : CfL E s s.heap [] M := ⟨va_S.rf, hR, hM⟩
  have hl := lv_entry ((([aR 1 0, aI p0] : List AV).map (enc E)) ++ [Value.ref o]) (n := 4) (Nat.le_of_ble_eq_true rfl)
  rw [lg_entry_eq]
  generalize (lg_sl ((([aR 1 0, aI p0] : List AV).map (enc E)) ++ [Value.ref o]) ++ List.replicate (4 - (lg_sl ((([aR 1 0, aI p0] : List AV).map (enc E)) ++ [Value.ref o])).length) Slot.unset).toArray = ls at hl ⊢
  refine lv_aload_n hx hb d_wnote_0 rfl (lv_at hl 2 rfl) ?_
  refine lv_iconst (v := 0) hx hb d_wnote_1 rfl ?_
  refine lv_aload_n hx hb d_wnote_2 rfl (lv_at hl 0 rfl) ?_
  refine lv_iload_n hx hb d_wnote_3 rfl (lv_at hl 1 rfl) ?_
  refine L_callX (own := "StaticKernelLaw") (n := 291) (idx := 35) (t := 0) (as := [aI p0]) (rest := [.int 0, .ref o]) hx hb hml hst hown hts hE hXP (by decide +kernel) (List.mem_filter.mpr ⟨by decide +kernel, rfl⟩) rfl ⟨Or.inl ⟨by decide, by decide⟩, by decide, by decide⟩ (fun a ha => ho a (List.mem_cons_of_mem _ ha)) rfl (by decide) (by decide) (by decide) (by decide) hC hr d_wnote_4 hl.1 (Nat.le_of_ble_eq_true rfl) (fun q ce H2 locs2 hC2 hz2 hk2 hce hcv hcl => ?_)
  have htab : c.exceptionTable.toList = [] ++ (⟨0, 9, 12, 13⟩ : ExceptionTableEntry) :: [] := vx_table (x := wy_name) B (hts0 _ List.mem_cons_self)
  refine cx_catch (own := "StaticKernelLaw") (name := nsee) hown _ [] htab (by decide) (by decide) (hts _ (List.mem_filter.mpr ⟨cw_law, rfl⟩)) (va_Nw.use rfl (hXP.1 _ (by decide))) hce hcv hcl ?_
  refine lv_astore_n hx hb d_wnote_12 rfl hl (by decide) rfl (fun ls2 hl2 => ?_)
  refine lv_iconst (v := 1) hx hb d_wnote_13 rfl ?_
  obtain ⟨cell, o1, o2⟩ := hO
  refine vx_ret (W.iret hx hb B.returns (fun t ht hw => ⟨rfl, by rw [ht]; exact hC2.2.1.moved hw.alike, ⟨v0, ⟨cell, by rw [ht, hk2 o (Array.getElem?_eq_some_iff.mp o1).1 hoA]; exact o1, State.isArrayOf_alike hw.alike o2.1, o2.2⟩, fun z => absurd z (by decide)⟩, ?_⟩) (fun q hq => Or.inl (hC2.1.2.2 q hq)) d_wnote_14 B.notSynchronized)
  exact ⟨by rw [ht]; exact hC2.1.1, fun q h1 h2 => by rw [ht]; exact hC2.1.2.1 q h1 (fun a => h2 (Or.inl a))⟩
