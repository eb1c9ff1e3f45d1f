/-! ===== the law's start: both objects are made, then its loop ===== -/
def PzM (E : EV) (U : State) : Prop := ∀ (g : Nat) (t : Int), g ∈ gCon → 0 ≤ t → t < gn g → ArrK (g ∈ gOwn) U U.heap (E.2.2.1 g t) (aY g) (gl g) (fun j => aval E g j (M0 g t j)) ∧ E.2.2.1 g t < E.2.2.2.1
def QcM (E : EV) : Array Value → State → Outcome → State → Prop := fun _ st oc t => oc = .returned none ∧ (RepK E t t.heap (gof M0) ∧ MOK (gof M0)) ∧ t.heap.size = E.2.2.2.1 + 300 ∧ va_F (AA E) st t
theorem ArrK.kept {o : Prop} {s : State} {H H' : Heap} {a : Nat} {ty : FieldType} {n : Nat} {f : Nat → Value} (h : ArrK o s H a ty n f) (hq : a < H.size → H'[a]? = H[a]?) : ArrK o s H' a ty n f := by
  obtain ⟨cell, h1, h2⟩ := h
  exact ⟨cell, by rw [hq (Array.getElem?_eq_some_iff.mp h1).1]; exact h1, h2⟩
theorem PzM.go {E : EV} {s U : State} {H : Heap} {locs : List Loc} (h : PzM E s) (hS : va_S (AA E) s.heap H locs) (hU : U.heap = H) (hvm : s.vm.Alike U.vm) : PzM E U := fun g t a b c => ⟨((h g t a b c).1.moved hvm).kept (fun z => by rw [hU]; exact hS.2.1 _ z (fun q => by have := q.1; have := (h g t a b c).2; omega)), (h g t a b c).2⟩
theorem d_m_481 : decode (ciB 11) 481 = .ok (.invokevirtual 282, 3) := by decide +kernel
theorem d_m_484 : decode (ciB 11) 484 = .ok (.return_, 1) := by decide +kernel
theorem pc_m : (pcsC 11)[232]? = some 481 := by decide +kernel
theorem wm_off : Cond.methodLink "StaticKernelModel" 282 (mt 37).y ∈ lw_tbl := by decide +kernel
def MMet (n : Nat) (L : LW) (n' : Nat) : Prop := ∀ (l : Launch) (E : EV), Met l (ciY 11) (wsC 11) (rmC 11 n n') (fun v U => PcC E [aR 11 0] n L v U ∧ PzM E U) (QcM E) (n' - n) (sl n' - sl n) (AA E)
theorem mmet_of {n n' : Nat} {L L' : LW} {loc' : Lc} (ks : CSnd 11 (0, initL [aR 11 0] (ciM 11).2.1, [], n, L) (232, loc', [aR 11 0], n', L')) (hr : ∀ (E : EV) (s : State) (H : Heap), RepP E s H n' L' → (∀ (g : Nat) (t : Int), nl[od g t]? = some (g, t) → E.2.2.1 g t = E.2.2.2.1 + od g t) → (∀ (g : Nat) (t : Int), g ∈ gCon → 0 ≤ t → t < gn g → ArrK (g ∈ gOwn) s H (E.2.2.1 g t) (aY g) (gl g) (fun j => aval E g j (M0 g t j))) → RepK E s H M0) (hn : n' = 300) : MMet n L n' := by
  intro l E
  have hg : isO 11 := ⟨by decide, by decide⟩
  have hm := mch_at hg
  refine Met.ofW (cc := ciB 11) (maxL := (ciM 11).2.1) (ret := none) hm.2.2.2.2.2.2.2.2.2.1 rfl ?_
  intro p e s m args below meth c s₁ B hml hv
  obtain ⟨⟨rfl, hE, hR⟩, hZ⟩ := hv
  have hts : ∀ w ∈ lwg, w.before _ s = true := fun w hw => atoms_spec (ws := wsC 11) B.pre w (List.mem_cons_of_mem _ hw)
  have hown : s.vm.findClass (oC 11) = some m.cls := findClass_of_methodNamed B.named
  have hin : meth.name = "<init>" := (name_of_methodNamed B.named B.method).1
  have hW := ks p l e (rmC 11 n n') s m ([aR 11 0].map (enc E)).toArray below meth c (MQ below (QcM E) ([aR 11 0].map (enc E)).toArray s (n' - n) (sl n' - sl n) (AA E)) E n ⟨B.exec, B.bytes, hml, hown, hts, hE, hin, Nat.le_refl _, Nat.le_refl _⟩ (Nat.le_refl _) (Nat.le_refl _) (Nat.le_refl _) (fun pc' hp' => by
    have hp' : (pcsC 11)[232]? = some pc' := hp'
    rw [pc_m] at hp'
    cases hp'
    intro H locs ls hC hL
    have hrk : RepK E s H M0 := hr E s H hC.2 hE.2.1 (fun g t a b c => (hZ g t a b c).1.kept (fun z => hC.1.2.1 _ z (fun q => by have := q.1; have := (hZ g t a b c).2; omega)))
    refine L_callM (own := "StaticKernelModel") (n := 37) (idx := 282) (t := 0) (as := []) (rest := []) B.exec B.bytes hml hown hts hE.1 (by decide +kernel) (List.mem_filter.mpr ⟨wm_off, rfl⟩) rfl ⟨Or.inl hg, by decide, by decide⟩ (fun a ha => by cases ha) rfl (show (mt 37).lv < lvC 11 by decide +kernel) (show 8 + ((mt 37).ml + 11) + 38 * (mt 37).lv ≤ 38 * lvC 11 by decide +kernel) (Nat.le_refl _) (Nat.le_refl _) ⟨hC.1, hrk, mok_0⟩ (R_goesOff M0) d_m_481 hL.1 (by decide) (fun r M2 H2 locs2 hp ok2 hC2 hz2 hk2 => ?_)
    obtain ⟨rfl, rfl⟩ := hp
    exact W.vret B.exec B.bytes B.returns (fun t ht hw => ⟨rfl, ⟨by rw [ht]; exact hC2.2.1.moved hw.alike, hC2.2.2⟩, by rw [ht, hz2, hC.2.1, hn], hC2.1.F ht⟩) (fun q hq => hC2.1.2.2 q hq) d_m_484 B.notSynchronized) 0 hm.2.2.2.2.2.2.2.2.2.2.2 s.heap [] _ ⟨va_S.rf, hR⟩ (LH_init (by simp [lcat]) (by decide))
  rw [lg_entry_eq]
  dsimp only at hW
  rw [Nat.sub_self, Nat.sub_self] at hW
  exact hW
theorem mmet : MMet 245 lw1 300 := mmet_of (csound 400 11 _ _ run_11 ⟨by decide, by decide⟩).2 (fun E s H h1 h2 h3 => repk_0 h1 h2 h3) rfl
theorem cm_1 : CMet 1 [aR 1 0] 1 [] 244 lw1 := cmet_of (i' := 37) (r' := (ciC 1).getD 37 (0, 0, 0, 0, 0)) ⟨by decide, by decide⟩ (csound 4000 1 _ _ run_1 ⟨by decide, by decide⟩).2 (by decide +kernel) (by decide +kernel) (by simp [lcat]) (by decide)
theorem sl_300 : sl 300 = 80412 ∧ sl 0 = 0 := by decide +kernel
theorem nl_0 : nl[0]? = some (1, 0) ∧ nl[244]? = some (11, 0) := by decide +kernel
theorem fr_1 : frsh lw1 11 0 = true := by decide +kernel
theorem lw_wd : Cond.classLink "StaticKernelLaw" 8 (oC 1) ∈ lw_tbl ∧ Cond.classLink "StaticKernelLaw" 40 (oC 11) ∈ lw_tbl ∧ Cond.methodLink "StaticKernelLaw" 39 (ciY 1) ∈ lw_tbl ∧ Cond.methodLink "StaticKernelLaw" 42 (ciY 11) ∈ lw_tbl := by decide +kernel
theorem xp_wd : (∀ w ∈ xw4, w ∈ lw_tbl) ∧ Cond.initialized Bundle.tN ∈ lw_tbl ∧ Cond.laysStatic Bundle.tN "UNASSIGNED_STACK" Bundle.steD ∈ lw_tbl ∧ Cond.laysStatic Bundle.tN "SUPPRESSED_SENTINEL" Bundle.listD ∈ lw_tbl ∧ Cond.isRef (.static Bundle.tN "UNASSIGNED_STACK" Bundle.steD) ∈ flw ∧ Cond.isRef (.static Bundle.tN "SUPPRESSED_SENTINEL" Bundle.listD) ∈ flw := by decide +kernel
section LST
variable {p : Program} {e : Env} {s : State} {m : MethodId} {below : List Frame} {meth : Method} {c : Code}
theorem call_endM {l : Launch} {R : Room} {args : Array Value} {Q : State → Prop} {E : EV} {H : Heap} {locs : List Loc} {ls : Array Slot} {pc n0 n n' : Nat} {L : LW} (hC : CfC E s H locs n L) (hn0 : n0 ≤ n) (hnn : n ≤ n') {A : Array Value} {rest st : List Value}
    (hrun : va_Run p l e R s m args below meth c H locs (n - n0) (sl n - sl n0) (n' - n) (sl n' - sl n) (F0 m pc ls st) rest (QcM E A) (AA E))
    (kk : ∀ (H' : Heap) (locs' : List Loc), CfL E s H' locs' (gof M0) → H'.size = E.2.2.2.1 + 300 → W p l e R s m args below meth c H' locs' (n' - n0) (sl n' - sl n0) Q (F0 m (pc + 3) ls rest)) : W p l e R s m args below meth c H locs (n - n0) (sl n - sl n0) Q (F0 m pc ls st) := by
  intro T hT X
  obtain ⟨v, st₀, t, T', Lo, h0, X', hLf, e1, e2, ⟨hv, hrep, hsz, hF⟩, stp⟩ := hrun T hT X
  injection hv with hv
  subst hv
  have hal : s.vm.Alike t.vm := by rw [← e2]; exact X'.warmed.alike
  have hF1 := hF.1
  have hF2 := hF.2
  rw [h0] at hF1 hF2
  have hS : va_S (AA E) s.heap T'.heap (locs ++ Lo) := by
    refine ⟨Nat.le_trans hC.1.1 (by rw [e1]; exact hF1), fun a h1 h2 => ?_, fun z hz => ?_⟩
    · rw [e1, hF2 a (Nat.lt_of_lt_of_le h1 hC.1.1) h2]
      exact hC.1.2.1 a h1 h2
    · rcases List.mem_append.mp hz with h | h
      · exact hC.1.2.2 z h
      · exact hLf z h
  have s1 := sl_le hn0
  have s2 := sl_le hnn
  rw [show n - n0 + (n' - n) = n' - n0 by omega, show sl n - sl n0 + (sl n' - sl n) = sl n' - sl n0 by omega] at X'
  obtain ⟨t2, a1, b1⟩ := kk T'.heap (locs ++ Lo) ⟨hS, by rw [e1]; exact hrep.1.moved hal.symm, hrep.2⟩ (by rw [e1]; exact hsz) T' rfl X'
  exact ⟨t2, stp t2 a1, b1⟩
theorem Wl.new1 {l : Launch} {R : Room} {args : Array Value} {Q : State → Prop} {E : EV} {cc : ByteArray} {n0 pc n n' : Nat} {L : LW} {own : String} {idx : Nat} {H : Heap} {locs : List Loc} {ls : Array Slot} {rest : List Value} (hx : p.tables.exec = Jvm.exec) (hb : c.code = cc) (hts : ∀ w ∈ lwg, w.before args s = true) (hown : s.vm.findClass own = some m.cls) (hE : EnvC E s) {g : Nat} {t : Int} (hdg : decode cc pc = .ok (.new idx, 3)) (hcl : Cond.classLink own idx (oC g) ∈ lwg) (hg : isO g) (hi : nl[n]? = some (g, t)) (hf : frsh L g t = true) (hn0 : n0 ≤ n) (en : n' = n + 1) (hRc : n' - n0 ≤ R.cells) (hRs : sl n' - sl n0 ≤ R.slots) (hC : CfC E s H locs n L)
    (kk : ∀ H1 : Heap, CfC E s H1 locs n' L → W p l e R s m args below meth c H1 locs (n' - n0) (sl n' - sl n0) Q (F0 m (pc + 3) ls (.ref (E.2.2.1 g t) :: rest))) : W p l e R s m args below meth c H locs (n - n0) (sl n - sl n0) Q (F0 m pc ls rest) := by
  subst en
  exact Wl.new hx hb hts hown hE hdg hcl (mch_at hg).2.2.2.1 (mch_at hg).2.2.1 hi hg hf hn0 hRc hRs hC kk
theorem Wl.callE {l : Launch} {R : Room} {args : Array Value} {Q : State → Prop} {E : EV} {cc : ByteArray} {nL n0 pc n n' : Nat} {L L' : LW} {own : String} {idx : Nat} {H : Heap} {locs : List Loc} {ls : Array Slot} {g' : Nat} {rest : List Value} (hx : p.tables.exec = Jvm.exec) (hb : c.code = cc) (hmx : c.maxLocals = nL) (hown : s.vm.findClass own = some m.cls) (hts : ∀ w ∈ lwg, w.before args s = true) (hE : EnvC E s) (hg' : isO g') (hnp : 0 = (ciM g').2.2.1) (hr4 : (rest.map fun v => v.category).sum ≤ 8) (hdg : decode cc pc = .ok (.invokespecial idx, 3)) (hlink : Cond.methodLink own idx (ciY g') ∈ lwg) (hM : CMet g' [aR g' 0] n L n' L') (hfr : lvC g' < R.frames) (hfl : 8 + ((ciM g').2.1 + 11) + 38 * lvC g' ≤ R.locals) (hn0 : n0 ≤ n) (hnn : n ≤ n') (hRc : n' - n0 ≤ R.cells) (hRs : sl n' - sl n0 ≤ R.slots) (hC : CfC E s H locs n L) (hls : ls.size = nL)
    (kk : ∀ (H' : Heap) (locs' : List Loc), CfC E s H' locs' n' L' → W p l e R s m args below meth c H' locs' (n' - n0) (sl n' - sl n0) Q (F0 m (pc + 3) ls rest)) : W p l e R s m args below meth c H locs (n - n0) (sl n - sl n0) Q (F0 m pc ls (.ref (E.2.2.1 g' 0) :: rest)) :=
  call_endC hC hn0 hnn (Wl.call (t := 0) (as' := []) (Pz := fun _ => True) hx hb hmx hown hts hE hg' hnp hr4 hdg (Or.inl hlink) (fun _ _ _ _ _ => trivial) (hM.z l E) (fun _ _ _ => trivial) hfr hfl hn0 hnn hRc hRs hC hls) kk
theorem Wl.callZ {l : Launch} {R : Room} {args : Array Value} {Q : State → Prop} {E : EV} {cc : ByteArray} {nL n0 pc n n' : Nat} {L : LW} {own : String} {idx : Nat} {H : Heap} {locs : List Loc} {ls : Array Slot} {rest : List Value} (hx : p.tables.exec = Jvm.exec) (hb : c.code = cc) (hmx : c.maxLocals = nL) (hown : s.vm.findClass own = some m.cls) (hts : ∀ w ∈ lwg, w.before args s = true) (hE : EnvC E s) (hZ : PzM E s) (hr4 : (rest.map fun v => v.category).sum ≤ 8) (hdg : decode cc pc = .ok (.invokespecial idx, 3)) (hlink : Cond.methodLink own idx (ciY 11) ∈ lwg) (hM : MMet n L n') (hfr : lvC 11 < R.frames) (hfl : 8 + ((ciM 11).2.1 + 11) + 38 * lvC 11 ≤ R.locals) (hn0 : n0 ≤ n) (hnn : n ≤ n') (hRc : n' - n0 ≤ R.cells) (hRs : sl n' - sl n0 ≤ R.slots) (hC : CfC E s H locs n L) (hls : ls.size = nL)
    (kk : ∀ (H' : Heap) (locs' : List Loc), CfL E s H' locs' (gof M0) → H'.size = E.2.2.2.1 + 300 → W p l e R s m args below meth c H' locs' (n' - n0) (sl n' - sl n0) Q (F0 m (pc + 3) ls rest)) : W p l e R s m args below meth c H locs (n - n0) (sl n - sl n0) Q (F0 m pc ls (.ref (E.2.2.1 11 0) :: rest)) :=
  call_endM hC hn0 hnn (Wl.call (g' := 11) (t := 0) (as' := []) (Pz := PzM E) hx hb hmx hown hts hE ⟨by decide, by decide⟩ rfl hr4 hdg (Or.inl hlink) (fun U f mk a z => z.go va_S.rf rfl (Vm.Alike.refl U.vm)) (hM l E) (fun U hU hW => hZ.go hC.1 hU hW.alike) hfr hfl hn0 hnn hRc hRs hC hls) kk
set_option maxHeartbeats 2000000 in
theorem whole_start (l : Launch) (hst : l.stackTraces = false) {b L : Nat} {xs : Nat → Int32} (hL : L ≤ 3072) (C0 : lw_At p s m meth c b L xs) : W p l e room_1 s m #[Value.ref b] below meth c s.heap [] 0 0 (lw_Z below #[Value.ref b] s) (entryFrame m ([Value.ref b] : List Value).toArray 8) := by
  obtain ⟨hx, hb, hr, hml, hown, hts, hX, hbl, hlocks, hgv⟩ := id C0
  have hfl : ∀ w ∈ flw, w.before #[Value.ref b] s = true := flat_of_before _ hgv
  obtain ⟨E, hEb, hE, hcon⟩ := envc_0 hts hfl
  have htg : ∀ w ∈ lwg, w.before #[Value.ref b] s = true := fun w hw => hts w (List.mem_filter.mp hw).1
  have hAA : ∀ a : Nat, a < s.heap.size → ¬ AA E a := fun a h z => by have := z.1; omega
  have hXP : XP E s := ⟨fun w hw => va_Nw.of (xw_ot w hw) (hts _ (xp_wd.1 w hw)), vx_Zqof (hts _ xp_wd.2.2.1) (hts _ xp_wd.2.1) (hfl _ xp_wd.2.2.2.2.1) hAA, vx_Zqof (hts _ xp_wd.2.2.2.1) (hts _ xp_wd.2.1) (hfl _ xp_wd.2.2.2.2.2) hAA⟩
  have hZ : PzM E s := fun g t a b c => by rw [hEb]; exact hcon g t a b c
  have hl0 : lv_has _ 8 [(0, Value.ref b)] := lv_entry [Value.ref b] (n := 8) (Nat.le_of_ble_eq_true rfl)
  rw [lg_entry_eq]
  generalize (lg_sl [Value.ref b] ++ List.replicate (8 - (lg_sl [Value.ref b]).length) Slot.unset).toArray = ls0 at hl0 ⊢
  have hC0 : CfC E s s.heap [] 0 [] := ⟨va_S.rf, by rw [hEb]; rfl, fun i g t hi => absurd hi (by omega)⟩
  have hsk : ∀ k : Nat, k ≤ 300 → sl k - sl 0 ≤ room_1.slots := fun k hk => by
    have := sl_le hk
    rw [sl_300.1] at this
    show sl k - sl 0 ≤ 7293034
    omega
  have h1 : isO 1 := ⟨by decide, by decide⟩
  have h11 : isO 11 := ⟨by decide, by decide⟩
  suffices K : W p l e room_1 s m #[Value.ref b] below meth c s.heap [] (0 - 0) (sl 0 - sl 0) (lw_Z below #[Value.ref b] s) (F0 m 0 ls0 []) by
    rw [Nat.sub_self, Nat.sub_self] at K
    exact K
  refine Wl.new1 (own := "StaticKernelLaw") (idx := 8) (g := 1) (t := 0) (n := 0) (n' := 1) (n0 := 0) (rest := []) hx hb htg hown hE d_L_0 (List.mem_filter.mpr ⟨lw_wd.1, rfl⟩) h1 nl_0.1 rfl (Nat.zero_le _) rfl (by decide) (hsk 1 (by decide)) hC0 (fun H1 hC1 => ?_)
  refine lv_dup hx hb d_L_3 rfl ?_
  refine Wl.callE (g' := 1) (n := 1) (n' := 244) (n0 := 0) (L' := lw1) (rest := [.ref (E.2.2.1 1 0)]) hx hb hml hown htg hE h1 rfl (Nat.le_of_ble_eq_true rfl) d_L_4 (List.mem_filter.mpr ⟨lw_wd.2.2.1, rfl⟩) cm_1 (by decide +kernel) (by decide +kernel) (Nat.zero_le _) (by decide) (by decide) (hsk 244 (by decide)) hC1 hl0.1 (fun H2 locs2 hC2 => ?_)
  refine lv_astore_n hx hb d_L_7 rfl hl0 (by decide) rfl (fun ls1 hl1 => ?_)
  refine Wl.new1 (own := "StaticKernelLaw") (idx := 40) (g := 11) (t := 0) (n := 244) (n' := 245) (n0 := 0) (rest := []) hx hb htg hown hE d_L_8 (List.mem_filter.mpr ⟨lw_wd.2.1, rfl⟩) h11 nl_0.2 fr_1 (Nat.zero_le _) rfl (by decide) (hsk 245 (by decide)) hC2 (fun H3 hC3 => ?_)
  refine lv_dup hx hb d_L_11 rfl ?_
  refine Wl.callZ (n := 245) (n' := 300) (n0 := 0) (rest := [.ref (E.2.2.1 11 0)]) hx hb hml hown htg hE hZ (Nat.le_of_ble_eq_true rfl) d_L_12 (List.mem_filter.mpr ⟨lw_wd.2.2.2, rfl⟩) mmet (by decide +kernel) (by decide +kernel) (Nat.zero_le _) (by decide) (by decide) (hsk 300 (by decide)) hC3 hl1.1 (fun H4 locs4 hC4 hz4 => ?_)
  refine lv_astore_n hx hb d_L_15 rfl hl1 (by decide) rfl (fun ls2 hl2 => ?_)
  refine lv_iconst (v := 1) hx hb d_L_16 rfl ?_
  refine va_newaK (N := 1) hx hb (hts _ (show Cond.arrayClass (newarray.typeOf .long) ∈ lw_tbl from arw)) rfl d_L_17 rfl (by decide) (by decide) (by decide) (by decide) (by have := sl_300; show sl 300 - sl 0 + 1 ≤ 7293034; omega) hz4 (fun H5 cA e1 z1 o1 hAr hNm => ?_)
  refine lv_astore_n hx hb d_L_19 rfl hl2 (by decide) rfl (fun ls3 hl3 => ?_)
  refine lv_iconst (v := 0) hx hb d_L_20 rfl ?_
  refine lv_istore hx hb d_L_21 hl3 (by decide) rfl (fun ls4 hl4 => ?_)
  have hC5 : CfL E s H5 locs4 (gof M0) := ⟨⟨by have := hC4.1.1; omega, fun q a1 a2 => by rw [o1 q (by have := hC4.1.1; omega)]; exact hC4.1.2.1 q a1 a2, hC4.1.2.2⟩, hC4.2.1.grow (fun q hq => o1 q (by omega)), hC4.2.2⟩
  have hoA : ¬ AA E (E.2.2.2.1 + 300) := fun z => by have := z.2; rw [hE.2.2.1] at this; omega
  have hO : OutH s H5 (E.2.2.2.1 + 300) := ⟨0, _, e1, hAr _ _, (fun h => by cases h), arrV_size _ _ _, arrV_read _ _ (show (0 : Nat) < 1 by decide)⟩
  have hLF : LF p s m meth c b L xs E := ⟨C0, hE.1, by omega⟩
  refine law_loop hLF hL (law_wrap hLF hst hXP (by omega) (fun g t a b c z => ?_)) (L + 2) 0 H5 locs4 ls4 (gof M0) _ _ (by omega) (by omega) hC5 inv_0 (lv_sub hl4 [4, 3, 2, 1, 0] rfl) hO hoA (by omega) (by have := sl_300; omega)
  have := (hZ g t a b c).2
  omega
end LST
set_option maxHeartbeats 4000000 in
theorem lw_walk (l : Launch) (hst : l.stackTraces = false) (b : Addr) (xs : List Int32) : MetFree l x (headSpec (Jvm.Cond.code x code maxLocals ret :: tables_1) room_1) (lw_P b xs) (fun _ _ _ _ _ => True) lw_Q := by
  refine MetFree.of_bodyS (code := code) (maxLocals := maxLocals) (ret := ret) (by decide) ?_ ?_
  · intro args s m h hn
    obtain ⟨meth, c, h1, h2, h3, h4, h5, h6, -, -⟩ := Cond.code_spec hn (atoms_spec (ws := Jvm.Cond.code x code maxLocals ret :: tables_1) h _ List.mem_cons_self)
    exact ⟨meth, c, h1, h2, h3, h4, h5, h6⟩
  · intro p e s m args below meth c s₁ B hml0 hP _
    obtain ⟨rfl, hx, hbd, hgv⟩ := hP
    obtain ⟨scr, harrAt, hlist, hof, hsmall⟩ := hx
    obtain ⟨hcb, hkn, -, -⟩ := State.arrayAt?_spec harrAt
    have hown : s.vm.findClass R_law = some m.cls := findClass_of_methodNamed B.named
    have hts0 : ∀ c ∈ (Jvm.Cond.code x code maxLocals ret :: tables_1), c.before #[Value.ref b] s = true := atoms_spec (ws := Jvm.Cond.code x code maxLocals ret :: tables_1) B.pre
    have hts : ∀ w ∈ lw_tbl, w.before #[Value.ref b] s = true := k2_hts_sels lw_privs (fun w hw => hts0 w (List.mem_cons_of_mem _ hw)) lw_privs_ok
    have hml : c.maxLocals = 8 := B.maxLocals_eq (hts0 _ List.mem_cons_self)
    have X₀ : Stand p l e room_1 s m #[Value.ref b] below meth c s₁ [] 0 0 := Stand.of_body B
    have hh0 : s₁.heap = s.heap := by rw [B.state]; rfl
    have hsz : scr.slots.size = xs.length := by rw [← Array.length_toList, hlist, List.length_map]
    have hval : ∀ j : Nat, j < xs.length → scr.slots[j]? = some (.int (xs.getD j 0)) := fun j hj => by
      rw [← Array.getElem?_toList, hlist]
      simp [hj]
    have hbl : b < s.heap.size := (Array.getElem?_eq_some_iff.mp hcb).1
    have hX : va_X b xs.length (fun j => xs.getD j 0) s s.heap := ⟨scr, hcb, hof, hkn, hsz, hval⟩
    have K : W p l e room_1 s m #[Value.ref b] below meth c s₁.heap [] 0 0 (lw_Z below #[Value.ref b] s) (entryFrame m ([Value.ref b] : List Value).toArray 8) := by
      rw [hh0]
      exact whole_start l hst hbd ⟨B.exec, B.bytes, B.returns, hml, hown, hts, hX, hbl, B.notSynchronized, hgv⟩
    obtain ⟨t, a1, o, b1, b2, b3⟩ := K s₁ rfl X₀
    exact ⟨t, o, a1, b1, b2, b3⟩
theorem lw_pre_spec {args : Array Value} {s : State} (h : (Jvm.Cond.and given_1 narrow_1).before args s = true) (hr : rest_1_c.before args s = true) : ∃ (b : Addr) (xs : List Int32), lw_P b xs args s := by
  have hs := flat_of_before _ h
  have hq := flat_of_before _ hr
  have hc : (Cond.count 1).before args s = true := hs _ (by decide +kernel)
  have harr : (Cond.arrayOf (.arg 0) .int).before args s = true := hs _ (by decide +kernel)
  have hle : (Cond.le (.length (.arg 0)) (.int 3072)).before args s = true := hs _ (by decide +kernel)
  have hlen : (Cond.isInt (.length (.arg 0))).before args s = true := hq _ (by decide +kernel)
  have hall : (Cond.all (.arg 0) (.isInt (.elem (.arg 0) (.index 0)))).before args s = true := hq _ (by decide +kernel)
  obtain ⟨b, xs, hb, hx⟩ := State.ints_of_pre rfl harr hlen hall
  have hsm : xs.length < 2 ^ 31 := hx.choose_spec.2.2.2
  have hev : (Term.length (.arg 0)).eval args s none [] s = some (.int xs.length.toInt32) := hx.length_eval hb
  have hv := Cond.le_ints hev (show (Term.int 3072).eval args s none [] s = some (.int 3072) from rfl)
  have hd : xs.length.toInt32 ≤ 3072 := by
    simpa [Cond.before, Cond.holds, hv] using hle
  have hN : xs.length ≤ 3072 := (Int32.ofNat_le_ofNat hsm (by decide)).mp (show Int32.ofNat xs.length ≤ Int32.ofNat 3072 from hd)
  exact ⟨b, xs, Cond.one_arg hc (show args[0]? = some (.ref b) from hb), hx, hN, h⟩
theorem lw_comes (l : Launch) (hst : l.stackTraces = false) : Comes l x (Jvm.Cond.code x code maxLocals ret :: tables_1) room_1 (fun tb e args s => Calls_1 tb e args s ∧ rest_1 tb e args s ∧ Pre_1 tb e args s)
    (fun _ _ args s o t => lw_Q args s o t) := by
  intro p e ha hc hk s m args below hf hfit hheap happ hpre
  obtain ⟨b, xs, hP⟩ := lw_pre_spec hpre.2.2 hpre.2.1
  obtain ⟨k, o, h1, h2, h3, hQ⟩ := lw_walk l hst b xs p e ha hc hk s m args below hf ((Spec.applies_iff_loose hf).mp happ).1 hP trivial
  exact ⟨k, o, h1, h2, h3, hQ⟩
theorem lw_frame {s t : State} {o : Outcome} {args : Array Value} (h : Framed s o t [] 601024 7293034) :
    Framed s o t (fieldLocs frame_1_writes args s ++ arrayLocs frame_1_arrays args s ++ staticLocs frame_1_statics s) 601024 7293034 := h
theorem lw_limb (L : Cond) (hL : ∀ (args : Array Value) (s t : State), L.after args s (.returned (some (.int 1))) t = true) :
    ArmFor flags0 classFile x code maxLocals ret World_1 tables_1 room_1 Calls_1 rest_1 Pre_1
      (fun tb e a s o t => postC L tb e a s o t ∧ Framed s o t (fieldLocs frame_1_writes a s ++ arrayLocs frame_1_arrays a s ++ staticLocs frame_1_statics s) 601024 7293034) := by
  intro l hfl _ _ p e ha hc hk s m args below hf hfit hheap happ hpre
  obtain ⟨k, o, h1, h2, h3, rfl, hF⟩ := lw_comes l (by unfold Launch.stackTraces; rw [hfl]; decide) p e ha hc hk s m args below hf hfit hheap happ hpre
  exact ⟨k, _, h1, h2, h3, hL args s _, lw_frame hF⟩
theorem i_vc : Claimed_1_1 ∧ Claimed_1_2 := ⟨lw_limb limb_1_1 (fun args s t => by simp [limb_1_1, Cond.after, Cond.holds, Cond.value]), lw_limb limb_1_2 (fun args s t => Cond.after_iff.mpr (by
  first | (rw [show limb_1_2 = Cond.eq .result (.int 1) from rfl, Cond.eq_ints (x := 1) (y := 1) rfl rfl]; simp; done) | (simp [limb_1_2, Cond.value, Term.eval]; done)))⟩
