/-! ===== methods of the class that throw ===== -/
abbrev nsee : String := "java/util/NoSuchElementException"
abbrev thN : List String := ["java/lang/RuntimeException", "java/lang/Exception"]
def xw4 : List Cond := [.declares ⟨"java/lang/RuntimeException", "<init>", "()V"⟩, .declares ⟨"java/lang/Exception", "<init>", "()V"⟩, .declares ⟨"java/lang/Throwable", "<init>", "()V"⟩, .castable nsee nsee]
/-- what a throw wants of the start -/
def XP (E : EV) (U : State) : Prop := (∀ w ∈ xw4, va_Nw w U) ∧ vx_Zq Bundle.tN "UNASSIGNED_STACK" Bundle.steD (AA E) U U.heap ∧ vx_Zq Bundle.tN "SUPPRESSED_SENTINEL" Bundle.listD (AA E) U U.heap
theorem XP.moved {E : EV} {u U : State} (hW : u.WarmedH U.vm) (hh : ∀ a : Nat, a < u.heap.size → ¬ AA E a → U.heap[a]? = u.heap[a]?) (h : XP E u) : XP E U := by
  refine ⟨fun w hw => ?_, (h.2.1.moved hW.alike).kept hh, (h.2.2.moved hW.alike).kept hh⟩
  have hz := h.1 w hw
  unfold xw4 at hw
  simp only [List.mem_cons, List.not_mem_nil, or_false] at hw
  rcases hw with rfl | rfl | rfl | rfl
  · exact hz.warmD hW
  · exact hz.warmD hW
  · exact hz.warmD hW
  · exact hz.warmC hW
theorem XP.same {E : EV} {u U : State} (hv : u.vm = U.vm) (hh : U.heap = u.heap) (h : XP E u) : XP E U := by
  refine ⟨fun w hw => ?_, (h.2.1.moved (by rw [hv]; exact Vm.Alike.refl _)).kept (fun a _ _ => by rw [hh]), (h.2.2.moved (by rw [hv]; exact Vm.Alike.refl _)).kept (fun a _ _ => by rw [hh])⟩
  have hz := h.1 w hw
  unfold xw4 at hw
  simp only [List.mem_cons, List.not_mem_nil, or_false] at hw
  rcases hw with rfl | rfl | rfl | rfl
  · exact hz.same rfl hv
  · exact hz.same rfl hv
  · exact hz.same rfl hv
  · exact hz.same rfl hv
theorem thr_at : ∀ w ∈ vx_at0 "StaticKernel" 102 nsee thN, (w ∈ lw_tbl ∧ goodWord w = true) ∨ w ∈ xw4 := by decide +kernel
theorem thr_ot : ∀ w ∈ Cond.classLink "StaticKernel" 100 nsee :: Cond.initialized nsee :: vx_at0 "StaticKernel" 102 nsee thN, vx_ot w = true := by decide +kernel
theorem xw_ot : ∀ w ∈ xw4, w.onTables = true := by decide +kernel
theorem thr_wd : Cond.classLink "StaticKernel" 100 nsee ∈ lw_tbl ∧ Cond.initialized nsee ∈ lw_tbl := by decide +kernel
theorem thr_fit : Bundle.fit nsee = true ∧ ∀ n ∈ thN, Bundle.fit n = true := by decide +kernel
/-- a throw's end: the memory stays -/
def XCx (E : EV) (M : AMem) : String → State → State → Prop := fun C st t => C = nsee ∧ RepK E t t.heap M ∧ va_F (AA E) st t
theorem RepK.grow {E : EV} {s : State} {H H' : Heap} {M : AMem} (h : RepK E s H M) (hq : ∀ q : Nat, q < H.size → H'[q]? = H[q]?) : RepK E s H' M := by
  refine ⟨fun g t a b c => ?_, fun g t a b c => ?_⟩
  · obtain ⟨cell, q1, q2⟩ := h.1 g t a b c
    exact ⟨cell, by rw [hq _ (Array.getElem?_eq_some_iff.mp q1).1]; exact q1, q2⟩
  · obtain ⟨cell, q1, q2⟩ := h.2 g t a b c
    exact ⟨cell, by rw [hq _ (Array.getElem?_eq_some_iff.mp q1).1]; exact q1, q2⟩
def PcX (E : EV) (as : List AV) (M : AMem) : Array Value → State → Prop := fun v U => PcA E as M v U ∧ XP E U
theorem PcX.blind {E : EV} {as : List AV} {M : AMem} : FrameBlind (PcX E as M) := fun a U g mk h => ⟨PcA.blind a U g mk h.1, XP.same (u := U) rfl rfl h.2⟩
def rmX (d : Nat) : Room := { frames := d, cells := 1, slots := 6, locals := 38 * d }
/-- method n throws, whatever it is asked -/
def XMet (n : Nat) (as : List AV) (M : AMem) : Prop := ∀ (l : Launch) (E : EV), l.stackTraces = false → vx_Met l (mt n).y (wsM (mt n)) (rmX (mt n).lv) (PcX E as M) (fun _ _ _ _ => False) (XCx E M) 1 6 (AA E)
section TH
variable {p : Program} {l : Launch} {e : Env} {R : Room} {s : State} {m : MethodId} {args : Array Value} {below : List Frame} {meth : Method} {c : Code} {Q : State → Prop} {E : EV} {pc cells slots nL : Nat} {M : AMem} {cc : ByteArray} {own : String} {H : Heap} {locs : List Loc} {ls : Array Slot} {Qc : Array Value → State → Outcome → State → Prop}
theorem L_getf (hx : p.tables.exec = Jvm.exec) (hb : c.code = cc) (hts : ∀ w ∈ lwg, w.before args s = true) (hown : s.vm.findClass own = some m.cls) (hE : EnvK E s) {g k idx : Nat} {t : Int} (hg : isO g) (hk : k < oN g) (hlink : Cond.fieldLink own idx (oT g k).1 (oT g k).2.1 (oT g k).2.2.1 ∈ lwg) (hdg : decode cc pc = .ok (.getfield idx, 3)) (h0 : 0 ≤ t) (h1 : t < gn g) (hC : CfL E s H locs M) {rest : List Value}
    (kk : W p l e R s m args below meth c H locs cells slots Q (F0 m (pc + 3) ls (fval E g k t (M g t k) :: rest))) : W p l e R s m args below meth c H locs cells slots Q (F0 m pc ls (.ref (E.2.2.1 g t) :: rest)) := by
  obtain ⟨cell, q1, q2, q3, q4⟩ := hC.2.1.1 g t hg h0 h1
  obtain ⟨hS, hfc, kC, hkC, hkind⟩ := hE.1 g hg
  obtain ⟨cf, kf, fi, f, hi, hsl⟩ := hS k hk
  have hst := (u_facts hfc hkC (u_lays hts (tb_in hg) hk) hi).1
  exact W.getf hx hb hown (hts _ hlink) hi hst q1 (by rw [q3]; exact fun h => by cases h) (by rw [hsl]; exact q4 k hk) rfl rfl hdg kk
theorem L_throw (hx : p.tables.exec = Jvm.exec) (hb : c.code = cc) (hst : l.stackTraces = false) (hown : s.vm.findClass "StaticKernel" = some m.cls) (hts : ∀ w ∈ lwg, w.before args s = true) (hXP : XP E s) (hC : CfL E s H locs M) (hsize : ls.size = c.maxLocals)
    (d0 : decode cc pc = .ok (.new 100, 3)) (d3 : decode cc (pc + 3) = .ok (.dup, 1)) (d4 : decode cc (pc + 4) = .ok (.invokespecial 102, 3)) (d7 : decode cc (pc + 7) = .ok (.athrow, 1)) (hnt : ∀ x ∈ c.exceptionTable.toList, False) (hRf : 5 < R.frames) (hRl : 81 ≤ R.locals) (hRc : 1 ≤ R.cells) (hRs : 6 ≤ R.slots) (hlocks : meth.locks = false) :
    W p l e R s m args below meth c H locs 0 0 (vx_MQ below Qc (XCx E M) args s 1 6 (AA E)) (F0 m pc ls []) := by
  refine vx_throw0 (names := thN) (own := "StaticKernel") (cls := nsee) (A := AA E) hx hb hst hown thr_fit.1 thr_fit.2 (hts _ (List.mem_filter.mpr ⟨thr_wd.1, rfl⟩)) (hts _ (List.mem_filter.mpr ⟨thr_wd.2, rfl⟩)) (fun w hw => ?_) thr_ot hXP.2.1 hXP.2.2 hC.1 hsize d0 d3 d4 d7 (fun x h => (hnt x h).elim) hRf (by show 0 + (13 * (2 + 1) + 42) ≤ R.locals; omega) (by omega) (by omega) hlocks (fun t ha hz hq => ⟨rfl, (hC.2.1.grow hq).moved ha, ?_⟩) (fun z hz => hC.1.2.2 z hz) (Nat.le_refl _) (Nat.le_refl _)
  · rcases thr_at w hw with h | h
    · exact hts _ (List.mem_filter.mpr ⟨h.1, h.2⟩)
    · exact va_Nw.use (xw_ot w h) (hXP.1 w h)
  · exact ⟨Nat.le_trans hC.1.1 hz, fun q h1 h2 => by rw [hq q (Nat.lt_of_lt_of_le h1 hC.1.1)]; exact hC.1.2.1 q h1 h2⟩
/-- a call of a method of an object, by its number -/
theorem L_callM (hx : p.tables.exec = Jvm.exec) (hb : c.code = cc) (hmx : c.maxLocals = nL) (hown : s.vm.findClass own = some m.cls) (hts : ∀ w ∈ lwg, w.before args s = true) (hE : EnvK E s) {idx n : Nat} (hn2 : 2 ≤ n ∧ n < MDL.length) (hlink : Cond.methodLink own idx (mt n).y ∈ lwg) (hstt : (mt n).st = false)
    {t : Int} (hvt : vld (mt n).g t) {as : List AV} (has : ∀ a ∈ as, aok a) (hlen : as.length = (mt n).np) (hRf : (mt n).lv < R.frames) (hRl : 8 + ((mt n).ml + 11) + 38 * (mt n).lv ≤ R.locals) (hRc : cells ≤ R.cells) (hRs : slots ≤ R.slots) (hC : CfL E s H locs M) {post : Option AV → AMem → Prop} (hruns : Runs n (aR (mt n).g t :: as) M post) (hdg : decode cc pc = .ok (.invokevirtual idx, 3)) (hls : ls.size = nL) {rest : List Value} (hst : (rest.map fun v => v.category).sum ≤ 8)
    (kk : ∀ (r : Option AV) (M' : AMem) (H' : Heap) (locs' : List Loc), post r M' → (∀ a, r = some a → aok a) → CfL E s H' locs' M' → H'.size = H.size → (∀ q : Nat, q < H.size → ¬ AA E q → H'[q]? = H[q]?) → W p l e R s m args below meth c H' locs' cells slots Q (F0 m (pc + 3) ls ((r.map (enc E)).toList ++ rest))) :
    W p l e R s m args below meth c H locs cells slots Q (F0 m pc ls ((as.map (enc E)).reverse ++ .ref (E.2.2.1 (mt n).g t) :: rest)) := by
  obtain ⟨i1, -, i3, i4, i5, -, -⟩ := md_inv hn2.2
  obtain ⟨j1, j2, j3, j4⟩ := i3 hstt
  exact L_callV hx hb hmx hown hts hE hn2.1 hlink i1 j1 j2 i4 ⟨j3, i5⟩ j4 hvt has hlen hRf hRl hRc hRs hC hruns hdg hls hst kk
/-- a call of a method that throws -/
theorem L_callX (hx : p.tables.exec = Jvm.exec) (hb : c.code = cc) (hmx : c.maxLocals = nL) (hst : l.stackTraces = false) (hown : s.vm.findClass own = some m.cls) (hts : ∀ w ∈ lwg, w.before args s = true) (hE : EnvK E s) (hXP : XP E s) {idx n : Nat} (hn2 : 2 ≤ n ∧ n < MDL.length) (hlink : Cond.methodLink own idx (mt n).y ∈ lwg) (hstt : (mt n).st = false)
    {t : Int} (hvt : vld (mt n).g t) {as : List AV} (has : ∀ a ∈ as, aok a) (hlen : as.length = (mt n).np) (hRf : (mt n).lv < R.frames) (hRl : 8 + ((mt n).ml + 11) + 38 * (mt n).lv ≤ R.locals) (hRc : cells + 1 ≤ R.cells) (hRs : slots + 6 ≤ R.slots) (hC : CfL E s H locs M) (hM : XMet n (aR (mt n).g t :: as) M) (hdg : decode cc pc = .ok (.invokevirtual idx, 3)) (hls : ls.size = nL) {rest : List Value} (hsr : (rest.map fun v => v.category).sum ≤ 8)
    (kx : ∀ (q : Addr) (ce : Cell) (H' : Heap) (locs' : List Loc), CfL E s H' locs' M → H.size ≤ H'.size → (∀ q : Nat, q < H.size → ¬ AA E q → H'[q]? = H[q]?) → H'[q]? = some ce → ce.vm = .none → s.vm.findClass nsee = some ce.cls → vx_W p l e R s m args below meth c H' locs' (cells + 1) (slots + 6) Q (F0 m pc ls rest) q) :
    W p l e R s m args below meth c H locs cells slots Q (F0 m pc ls ((as.map (enc E)).reverse ++ .ref (E.2.2.1 (mt n).g t) :: rest)) := by
  obtain ⟨hcode, -, i3, hini, hd5, -, -⟩ := md_inv hn2.2
  obtain ⟨hinst, hsel, hyc, hg⟩ := i3 hstt
  obtain ⟨cellB, c1, c2, c3, -⟩ := hC.2.1.1 (mt n).g t hg hvt.2.1 hvt.2.2
  have hcls : s.vm.findClass (oC (mt n).g) = some cellB.cls := by
    rw [c2]
    exact (hE.1 (mt n).g hg).2.1
  have hrun := vx_runV (p := p) (l := l) (e := e) (R := R) (s := s) (m := m) (args := args) (below := below) (meth := meth) (c := c) (H := H) (locs := locs) (cells := cells) (slots := slots) (cc := cc) (nL := nL) (Ts := lwg) (own := own) (b := E.2.2.1 (mt n).g t) (As := as.map (enc E)) (rest := rest) (g := F0 m pc ls ((as.map (enc E)).reverse ++ .ref (E.2.2.1 (mt n).g t) :: rest)) ⟨hx, hb, hmx, hown, hts⟩ (hM l E hst)
    (cwV (own := own) (index := idx) (C := oC (mt n).g) (bytes := (mt n).b) (maxL := (mt n).ml) (ret := (mt n).rt) (ws' := lwg) (mt n).np hts (fun w hw => ?_) rfl rfl rfl ⟨hyc, hd5⟩ ⟨?_, ?_⟩)
    ⟨PcX.blind, ⟨cellB, c1, by rw [c3]; rfl, hcls⟩, fun U hU hW => ⟨⟨by simp [enc], fun a ha => by
      rcases List.mem_cons.mp ha with rfl | ha
      · exact hvt
      · exact has a ha, hE.moved hW (fun a h1 h2 => by rw [hU]; exact hC.1.2.1 a h1 h2), by rw [hU]; exact hC.2.1.moved hW.alike, hC.2.2⟩, hXP.moved hW (fun a h1 h2 => by rw [hU]; exact hC.1.2.1 a h1 h2)⟩⟩
    rfl (by rw [List.length_map]; exact hlen) hls rfl (lv_room hsr) hdg ⟨hRc, hRs⟩
  · intro T hT X
    rcases hrun T hT X with ⟨v, st₀, t, T', L, h0, X', hLf, e1, e2, hq, -⟩ | ⟨q, st₀, t, T', L, E1, ce, h0, X', hLf, e1, e2, ⟨hx1, hx2, hx3⟩, hce, hcv, hcl, st⟩
    · exact hq.elim
    · subst hx1
      have hF1 := hx3.1
      have hF2 := hx3.2
      rw [h0] at hF1 hF2
      have hal : s.vm.Alike t.vm := by rw [← e2]; exact X'.warmed.alike
      have hS : va_S (AA E) s.heap T'.heap (locs ++ L) := by
        refine ⟨Nat.le_trans hC.1.1 (by rw [e1]; exact hF1), fun a h1 h2 => ?_, fun z hz => ?_⟩
        · rw [e1, hF2 a (Nat.lt_of_lt_of_le h1 hC.1.1) h2]
          exact hC.1.2.1 a h1 h2
        · rcases List.mem_append.mp hz with h | h
          · exact hC.1.2.2 z h
          · exact hLf z h
      obtain ⟨t2, a1, b1⟩ := kx q ce T'.heap (locs ++ L) ⟨hS, by rw [e1]; exact hx2.moved hal.symm, hC.2.2⟩ (by rw [e1]; exact hF1) (fun q h1 h2 => by rw [e1]; exact hF2 q h1 h2) (by rw [e1]; exact hce) hcv hcl T' rfl X'
      exact ⟨t2, st.trans a1, b1⟩
  · rcases List.mem_append.mp (show w ∈ ([Cond.methodLink own idx (mt n).y, Cond.instanceMethod (mt n).y, Cond.selects (oC (mt n).g) (mt n).y (mt n).y, Cond.initialized (oC (mt n).g)] : List Cond) ++ wsM (mt n) from hw) with h | h
    · have : w ∈ lwg := by
        simp only [List.mem_cons, List.not_mem_nil, or_false] at h
        rcases h with rfl | rfl | rfl | rfl
        · exact hlink
        · exact hinst
        · exact hsel
        · rw [← hyc]; exact hini
      exact ⟨this, good_of_word (List.mem_filter.mp this).2⟩
    · exact GoodIn_lwg _ hcode w h
  · exact hRf
  · exact hRl
end TH
