/-! ===== rows for frames that make cells: the law, and methods that throw ===== -/
/-- like Cf, but cells may have come -/
def CfL (E : EV) (s : State) (H : Heap) (locs : List Loc) (M : AMem) : Prop := va_S (AA E) s.heap H locs ∧ RepK E s H M ∧ MOK M
section WL
variable {p : Program} {l : Launch} {e : Env} {R : Room} {s : State} {m : MethodId} {args : Array Value} {below : List Frame} {meth : Method} {c : Code} {Q : State → Prop} {E : EV} {pc cells slots nL : Nat} {M : AMem} {cc : ByteArray} {own : String} {H : Heap} {locs : List Loc} {ls : Array Slot}
theorem call_endL {as : List AV} {rest st : List Value} {post : Option AV → AMem → Prop} (hC : CfL E s H locs M)
    (hrun : va_Run p l e R s m args below meth c H locs cells slots 0 0 (F0 m pc ls st) rest (QcA E post ((as.map (enc E)).toArray)) (AA E))
    (kk : ∀ (r : Option AV) (M' : AMem) (H' : Heap) (locs' : List Loc), post r M' → (∀ a, r = some a → aok a) → CfL E s H' locs' M' → H'.size = H.size → (∀ q : Nat, q < H.size → ¬ AA E q → H'[q]? = H[q]?) → W p l e R s m args below meth c H' locs' cells slots Q (F0 m (pc + 3) ls ((r.map (enc E)).toList ++ rest))) : W p l e R s m args below meth c H locs cells slots Q (F0 m pc ls st) := by
  intro T hT X
  obtain ⟨v, st₀, t, T', L, h0, X', hLf, e1, e2, ⟨r, M', hv, hrok, hpost, hrep, hmok, hsz, hF⟩, stp⟩ := hrun T hT X
  injection hv with hv
  subst hv
  have hal : s.vm.Alike t.vm := by rw [← e2]; exact X'.warmed.alike
  have hF1 := hF.1
  have hF2 := hF.2
  rw [h0] at hF1 hF2 hsz
  have hS : va_S (AA E) s.heap T'.heap (locs ++ L) := by
    refine ⟨Nat.le_trans hC.1.1 (by rw [e1]; exact hF1), fun a h1 h2 => ?_, fun z hz => ?_⟩
    · rw [e1, hF2 a (Nat.lt_of_lt_of_le h1 hC.1.1) h2]
      exact hC.1.2.1 a h1 h2
    · rcases List.mem_append.mp hz with h | h
      · exact hC.1.2.2 z h
      · exact hLf z h
  have hW := kk r M' T'.heap (locs ++ L) hpost hrok ⟨hS, by rw [e1]; exact hrep.moved hal.symm, hmok⟩ (by rw [e1, hsz]) (fun q q1 q2 => by rw [e1]; exact hF2 q q1 q2)
  obtain ⟨t2, a1, b1⟩ := hW T' rfl X'
  exact ⟨t2, stp t2 a1, b1⟩
/-- a call of a method of an object -/
theorem L_callV (hx : p.tables.exec = Jvm.exec) (hb : c.code = cc) (hmx : c.maxLocals = nL) (hown : s.vm.findClass own = some m.cls) (hts : ∀ w ∈ lwg, w.before args s = true) (hE : EnvK E s) {idx n : Nat} (hn2 : 2 ≤ n) (hlink : Cond.methodLink own idx (mt n).y ∈ lwg) (hcode : Cond.code (mt n).y (mt n).b (mt n).ml (mt n).rt ∈ lwg)
    (hinst : Cond.instanceMethod (mt n).y ∈ lwg) (hsel : Cond.selects (oC (mt n).g) (mt n).y (mt n).y ∈ lwg) (hini : Cond.initialized (mt n).y.cls ∈ lwg)
    (hd : (mt n).y.cls = oC (mt n).g ∧ (mt n).y.cls ≠ "java/lang/invoke/MethodHandle" ∧ (mt n).y.cls ≠ "java/lang/invoke/VarHandle" ∧ (parseMethodDescriptor (mt n).y.desc).map (fun d => d.parameters.length) = some (mt n).np) (hg : isO (mt n).g)
    {t : Int} (hvt : vld (mt n).g t) {as : List AV} (has : ∀ a ∈ as, aok a) (hlen : as.length = (mt n).np) (hRf : (mt n).lv < R.frames) (hRl : 8 + ((mt n).ml + 11) + 38 * (mt n).lv ≤ R.locals) (hRc : cells ≤ R.cells) (hRs : slots ≤ R.slots) (hC : CfL E s H locs M) {post : Option AV → AMem → Prop} (hruns : Runs n (aR (mt n).g t :: as) M post) (hdg : decode cc pc = .ok (.invokevirtual idx, 3)) (hls : ls.size = nL) {rest : List Value} (hst : (rest.map fun v => v.category).sum ≤ 8)
    (kk : ∀ (r : Option AV) (M' : AMem) (H' : Heap) (locs' : List Loc), post r M' → (∀ a, r = some a → aok a) → CfL E s H' locs' M' → H'.size = H.size → (∀ q : Nat, q < H.size → ¬ AA E q → H'[q]? = H[q]?) → W p l e R s m args below meth c H' locs' cells slots Q (F0 m (pc + 3) ls ((r.map (enc E)).toList ++ rest))) :
    W p l e R s m args below meth c H locs cells slots Q (F0 m pc ls ((as.map (enc E)).reverse ++ .ref (E.2.2.1 (mt n).g t) :: rest)) := by
  obtain ⟨cellB, c1, c2, c3, -⟩ := hC.2.1.1 (mt n).g t hg hvt.2.1 hvt.2.2
  have hcls : s.vm.findClass (oC (mt n).g) = some cellB.cls := by
    rw [c2]
    exact (hE.1 (mt n).g hg).2.1
  have hrun := va_runV (p := p) (l := l) (e := e) (R := R) (s := s) (m := m) (args := args) (below := below) (meth := meth) (c := c) (H := H) (locs := locs) (cells := cells) (slots := slots) (cc := cc) (nL := nL) (Ts := lwg) (own := own) (b := E.2.2.1 (mt n).g t) (As := as.map (enc E)) (rest := rest) (g := F0 m pc ls ((as.map (enc E)).reverse ++ .ref (E.2.2.1 (mt n).g t) :: rest)) ⟨hx, hb, hmx, hown, hts⟩ ((Runs.D hn2 hruns) l E)
    (cwV (own := own) (index := idx) (C := oC (mt n).g) (bytes := (mt n).b) (maxL := (mt n).ml) (ret := (mt n).rt) (ws' := lwg) (mt n).np hts (fun w hw => ?_) rfl rfl rfl hd ⟨?_, ?_⟩)
    ⟨PcA.blind, ⟨cellB, c1, by rw [c3]; rfl, hcls⟩, fun U hU hW => ⟨by simp [enc], fun a ha => by
      rcases List.mem_cons.mp ha with rfl | ha
      · exact hvt
      · exact has a ha, hE.moved hW (fun a h1 h2 => by rw [hU]; exact hC.1.2.1 a h1 h2), by rw [hU]; exact hC.2.1.moved hW.alike, hC.2.2⟩⟩
    rfl (by rw [List.length_map]; exact hlen) hls rfl (lv_room hst) hdg ⟨hRc, hRs⟩
  · exact call_endL (as := aR (mt n).g t :: as) hC hrun kk
  · rcases List.mem_append.mp (show w ∈ ([Cond.methodLink own idx (mt n).y, Cond.instanceMethod (mt n).y, Cond.selects (oC (mt n).g) (mt n).y (mt n).y, Cond.initialized (oC (mt n).g)] : List Cond) ++ wsM (mt n) from hw) with h | h
    · have : w ∈ lwg := by
        simp only [List.mem_cons, List.not_mem_nil, or_false] at h
        rcases h with rfl | rfl | rfl | rfl
        · exact hlink
        · exact hinst
        · exact hsel
        · rw [← hd.1]; exact hini
      exact ⟨this, good_of_word (List.mem_filter.mp this).2⟩
    · exact GoodIn_lwg _ hcode w h
  · exact hRf
  · exact hRl
end WL
