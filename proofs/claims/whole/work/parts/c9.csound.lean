/-! ===== a run of a constructor is what the machine does ===== -/
theorem cs_0 (pc a w i n : Nat) (b : Int) (loc : Lc) (stk : List AV) (L : LW) : cstp (pc, 0, a, w, b) i loc stk n L = (match loc.getD a none with
    | some (.inr (.inr (g, t))) => some (i + 1, loc, aR g t :: stk, n, L)
    | _ => none) := rfl
theorem cs_1 (pc a w i n : Nat) (b : Int) (loc : Lc) (stk : List AV) (L : LW) : cstp (pc, 1, a, w, b) i loc stk n L = some (i + 1, loc, aI b :: stk, n, L) := rfl
theorem cs_2 (pc a w i n : Nat) (b : Int) (loc : Lc) (stk : List AV) (L : LW) : cstp (pc, 2, a, w, b) i loc stk n L = (match loc.getD a none with
    | some (.inl x) => some (i + 1, loc, aI x :: stk, n, L)
    | _ => none) := rfl
theorem cs_3 (pc a w i n : Nat) (b : Int) (loc : Lc) (stk : List AV) (L : LW) : cstp (pc, 3, a, w, b) i loc stk n L = (match stk with
    | .inl x :: st => some (i + 1, loc.set a (some (aI x)), st, n, L)
    | _ => none) := rfl
theorem cs_4 (pc a w i n : Nat) (b : Int) (loc : Lc) (stk : List AV) (L : LW) : cstp (pc, 4, a, w, b) i loc stk n L = (match loc.getD a none with
    | some (.inl x) => some (i + 1, loc.set a (some (aI (x + 1))), stk, n, L)
    | _ => none) := rfl
theorem cs_5 (pc a w i n : Nat) (b : Int) (loc : Lc) (stk : List AV) (L : LW) : cstp (pc, 5, a, w, b) i loc stk n L = (match stk with
    | .inl y :: .inl x :: st => if 0 ≤ x ∧ x < 1000 ∧ 0 ≤ y ∧ y < 1000 then (if y ≤ x then some (a, loc, st, n, L) else some (i + 1, loc, st, n, L)) else none
    | _ => none) := rfl
theorem cs_6 (pc a w i n : Nat) (b : Int) (loc : Lc) (stk : List AV) (L : LW) : cstp (pc, 6, a, w, b) i loc stk n L = some (a, loc, stk, n, L) := rfl
theorem cs_7 (pc a w i n : Nat) (b : Int) (loc : Lc) (stk : List AV) (L : LW) : cstp (pc, 7, a, w, b) i loc stk n L = (match stk, nl[n]? with
    | .inl x :: st, some (g, t) => if (decide (g ∈ gOwn) && decide (x = ((gl g : Nat) : Int) ∧ aY g = atY a)) && frsh L g t then some (i + 1, loc, aR g t :: st, n + 1, L) else none
    | _, _ => none) := rfl
theorem cs_8 (pc a w i n : Nat) (b : Int) (loc : Lc) (stk : List AV) (L : LW) : cstp (pc, 8, a, w, b) i loc stk n L = (match stk, nl[n]? with
    | .inl x :: st, some (g, t) => if (decide (g ∈ gOwn) && decide (x = ((gl g : Nat) : Int) ∧ aY g = .object (cN (a / 4096)))) && frsh L g t then some (i + 1, loc, aR g t :: st, n + 1, L) else none
    | _, _ => none) := rfl
theorem cs_9 (pc a w i n : Nat) (b : Int) (loc : Lc) (stk : List AV) (L : LW) : cstp (pc, 9, a, w, b) i loc stk n L = (match stk, nl[n]? with
    | .inl y :: .inl x :: st, some (g, t) => if (decide (g ∈ gOwn ∧ (aT g).1 ∈ gOwn) && decide (x = 7 ∧ y = 48 ∧ t = 0 ∧ gl g = 7 ∧ gk g = 3 ∧ (aT g).2.1 = 1 ∧ (aT g).2.2 = 0 ∧ gl (aT g).1 = 48 ∧ gk (aT g).1 = 2 ∧ aY g = .array .long ∧ (aT g).1 ≠ g)) && (frsh L g t && mna8 n L g (aT g).1) then some (i + 1, loc, aR g t :: st, n + 8, (g, 0, 0, 1) :: (g, 0, 1, 1) :: (g, 0, 2, 1) :: (g, 0, 3, 1) :: (g, 0, 4, 1) :: (g, 0, 5, 1) :: (g, 0, 6, 1) :: L) else none
    | _, _ => none) := rfl
theorem cs_10 (pc a w i n : Nat) (b : Int) (loc : Lc) (stk : List AV) (L : LW) : cstp (pc, 10, a, w, b) i loc stk n L = (match nl[n]? with
    | some (g, t) => if decide (g = a / 4096) && frsh L g t then some (i + 1, loc, aR g t :: stk, n + 1, L) else none
    | _ => none) := rfl
theorem cs_11 (pc a w i n : Nat) (b : Int) (loc : Lc) (stk : List AV) (L : LW) : cstp (pc, 11, a, w, b) i loc stk n L = (match stk with
    | .inr (.inr (g, t)) :: st => some (i + 1, loc, aR g t :: aR g t :: st, n, L)
    | _ => none) := rfl
theorem cs_12 (pc a w i n : Nat) (b : Int) (loc : Lc) (stk : List AV) (L : LW) : cstp (pc, 12, a, w, b) i loc stk n L = (match stk with
    | [.inr (.inr (_, _))] => some (i + 1, loc, [], n, L)
    | _ => none) := rfl
theorem cs_15 (pc a w i n : Nat) (b : Int) (loc : Lc) (stk : List AV) (L : LW) : cstp (pc, 15, a, w, b) i loc stk n L = (match stk with
    | .inr (.inr (g, t)) :: st => if decide (g = a / 4096 / 100) && mad n g t && decide (Lk L g t ((a / 4096 % 100 : Nat) : Int) ≠ 0) then some (i + 1, loc, aR (fR g (a / 4096 % 100)).1 ((fR g (a / 4096 % 100)).2 + t) :: st, n, L) else none
    | _ => none) := rfl
theorem cs_16 (pc a w i n : Nat) (b : Int) (loc : Lc) (stk : List AV) (L : LW) : cstp (pc, 16, a, w, b) i loc stk n L = (match stk with
    | .inl x :: .inr (.inr (g, t)) :: st => if decide (g = a / 4096 / 100 ∧ oY g (a / 4096 % 100) = .int) && mad n g t then some (i + 1, loc, st, n, (g, t, ((a / 4096 % 100 : Nat) : Int), x) :: L) else none
    | .inr (.inr (g', t')) :: .inr (.inr (g, t)) :: st => if decide (g = a / 4096 / 100 ∧ (oY g (a / 4096 % 100)).isReference = true ∧ (g', t') = ((fR g (a / 4096 % 100)).1, (fR g (a / 4096 % 100)).2 + t)) && mad n g t then some (i + 1, loc, st, n, (g, t, ((a / 4096 % 100 : Nat) : Int), 1) :: L) else none
    | _ => none) := rfl
theorem cs_17 (pc a w i n : Nat) (b : Int) (loc : Lc) (stk : List AV) (L : LW) : cstp (pc, 17, a, w, b) i loc stk n L = (match stk with
    | .inl x :: .inl j :: .inr (.inr (g, t)) :: st => if decide (g ∈ gOwn) && decide (gk g = 0 ∧ 0 ≤ j ∧ j < ((gl g : Nat) : Int)) && mad n g t then some (i + 1, loc, st, n, (g, t, j, x) :: L) else none
    | _ => none) := rfl
theorem cs_18 (pc a w i n : Nat) (b : Int) (loc : Lc) (stk : List AV) (L : LW) : cstp (pc, 18, a, w, b) i loc stk n L = (match stk with
    | .inr (.inr (g', t')) :: .inl j :: .inr (.inr (g, t)) :: st => if (decide (g ∈ gOwn) && decide (gk g = 3 ∧ (aT g).2.1 = 1 ∧ 0 ≤ j ∧ j < ((gl g : Nat) : Int) ∧ g' = (aT g).1 ∧ t' = (aT g).2.2 + j ∧ 1 ≤ g' ∧ g' ≤ 11 ∧ aY g = .object (oC g'))) && (mad n g t && mad n g' t') then some (i + 1, loc, st, n, (g, t, j, 1) :: L) else none
    | _ => none) := rfl
theorem cs_19 (pc a w i n : Nat) (b : Int) (loc : Lc) (stk : List AV) (L : LW) : cstp (pc, 19, a, w, b) i loc stk n L = some (i + 1, loc, aR 14 0 :: stk, n, L) := rfl
theorem cs_13 (pc a w i n : Nat) (b : Int) (loc : Lc) (stk : List AV) (L : LW) : cstp (pc, 13, a, w, b) i loc stk n L = none := rfl
theorem cs_14 (pc a w i n : Nat) (b : Int) (loc : Lc) (stk : List AV) (L : LW) : cstp (pc, 14, a, w, b) i loc stk n L = none := rfl
theorem cs_20 (pc a w i n : Nat) (b : Int) (loc : Lc) (stk : List AV) (L : LW) : cstp (pc, 20, a, w, b) i loc stk n L = none := rfl
theorem cs_21 (pc a w i n : Nat) (b : Int) (loc : Lc) (stk : List AV) (L : LW) : cstp (pc, 21, a, w, b) i loc stk n L = none := rfl
def PcC (E : EV) (as : List AV) (n : Nat) (L : LW) : Array Value → State → Prop := fun v U => v = (as.map (enc E)).toArray ∧ EnvC E U ∧ RepP E U U.heap n L
def QcC (E : EV) (n' : Nat) (L' : LW) : Array Value → State → Outcome → State → Prop := fun _ st oc t => oc = .returned none ∧ RepP E t t.heap n' L' ∧ va_F (AA E) st t
def rmC (g n n' : Nat) : Room := { frames := lvC g, cells := n' - n, slots := sl n' - sl n, locals := 38 * lvC g }
def wsC (g : Nat) : List Cond := .code (ciY g) (ciB g) (ciM g).2.1 none :: lwg
def CMet (g : Nat) (as : List AV) (n : Nat) (L : LW) (n' : Nat) (L' : LW) : Prop := ∀ (l : Launch) (E : EV), Met l (ciY g) (wsC g) (rmC g n n') (PcC E as n L) (QcC E n' L') (n' - n) (sl n' - sl n) (AA E)
theorem PcC.blind {E : EV} {as : List AV} {n : Nat} {L : LW} : FrameBlind (PcC E as n L) := fun a U g mk h => ⟨h.1, h.2.1.same rfl rfl, h.2.2.moved (Vm.Alike.refl U.vm)⟩
theorem GoodIn_wsC {g : Nat} (hg : isO g) : GoodIn lwg (wsC g) := by
  intro w hw
  rcases List.mem_cons.mp hw with rfl | hw
  · exact ⟨(mch_at hg).1, good_of_word (List.mem_filter.mp (mch_at hg).1).2⟩
  · exact ⟨hw, good_of_word (List.mem_filter.mp hw).2⟩
section CZ
variable {p : Program} {l : Launch} {e : Env} {R : Room} {s : State} {m : MethodId} {args : Array Value} {below : List Frame} {meth : Method} {c : Code} {Q : State → Prop} {E : EV} {cc : ByteArray} {nL n0 pc n n' g i : Nat} {loc : Lc} {stk : List AV} {L L' : LW} {own : String} {idx : Nat} {H : Heap} {locs : List Loc} {ls : Array Slot}
theorem call_endC (hC : CfC E s H locs n L) (hn0 : n0 ≤ n) (hnn : n ≤ n') {A : Array Value} {rest st : List Value}
    (hrun : va_Run p l e R s m args below meth c H locs (n - n0) (sl n - sl n0) (n' - n) (sl n' - sl n) (F0 m pc ls st) rest (QcC E n' L' A) (AA E))
    (kk : ∀ (H' : Heap) (locs' : List Loc), CfC E s H' locs' n' L' → W p l e R s m args below meth c H' locs' (n' - n0) (sl n' - sl n0) Q (F0 m (pc + 3) ls rest)) : W p l e R s m args below meth c H locs (n - n0) (sl n - sl n0) Q (F0 m pc ls st) := by
  intro T hT X
  obtain ⟨v, st₀, t, T', Lo, h0, X', hLf, e1, e2, ⟨hv, hrep, hF⟩, stp⟩ := hrun T hT X
  injection hv with hv
  subst hv
  have hal : s.vm.Alike t.vm := by rw [← e2]; exact X'.warmed.alike
  have hF1 := hF.1
  have hF2 := hF.2
  rw [h0] at hF1 hF2
  have hS : va_S (AA E) s.heap T'.heap (locs ++ Lo) := by
    refine ⟨Nat.le_trans hC.1.1 (by rw [e1]; exact hF1), fun a h1 h2 => ?_, fun z hz => ?_⟩
    · rw [e1, hF2 a (Nat.lt_of_lt_of_le h1 hC.1.1) h2]
      exact hC.1.2.1 a h1 h2
    · rcases List.mem_append.mp hz with h | h
      · exact hC.1.2.2 z h
      · exact hLf z h
  have s1 := sl_le hn0
  have s2 := sl_le hnn
  rw [show n - n0 + (n' - n) = n' - n0 by omega, show sl n - sl n0 + (sl n' - sl n) = sl n' - sl n0 by omega] at X'
  obtain ⟨t2, a1, b1⟩ := kk T'.heap (locs ++ Lo) ⟨hS, by rw [e1]; exact hrep.moved hal.symm⟩ T' rfl X'
  exact ⟨t2, stp t2 a1, b1⟩
theorem Wl.call (hx : p.tables.exec = Jvm.exec) (hb : c.code = cc) (hmx : c.maxLocals = nL) (hown : s.vm.findClass own = some m.cls) (hts : ∀ w ∈ lwg, w.before args s = true) (hE : EnvC E s) {g' : Nat} (hg' : isO g') {t : Int} {as' : List AV} {rest : List Value} (hnp : as'.length = (ciM g').2.2.1) (hr4 : (rest.map fun v => v.category).sum ≤ 8) (hdg : decode cc pc = .ok (.invokespecial idx, 3)) (hlink : Cond.methodLink own idx (ciY g') ∈ lwg ∨ (own, idx, ciY g', "StaticKernel") ∈ gmn) {Qx : Array Value → State → Outcome → State → Prop} {Pz : State → Prop} (hPb : ∀ (U : State) (f : JFrame) (mk : MethodId) (a : Array Value), Pz U → Pz (U.calling f mk a)) (hM : Met l (ciY g') (wsC g') (rmC g' n n') (fun v U => PcC E (aR g' t :: as') n L v U ∧ Pz U) Qx (n' - n) (sl n' - sl n) (AA E)) (hPz : ∀ U : State, U.heap = H → s.WarmedH U.vm → Pz U) (hfr : lvC g' < R.frames) (hfl : 8 + ((ciM g').2.1 + 11) + 38 * lvC g' ≤ R.locals) (hn0 : n0 ≤ n) (hnn : n ≤ n') (hRc : n' - n0 ≤ R.cells) (hRs : sl n' - sl n0 ≤ R.slots) (hC : CfC E s H locs n L) (hls : ls.size = nL) :
    va_Run p l e R s m args below meth c H locs (n - n0) (sl n - sl n0) (n' - n) (sl n' - sl n) (F0 m pc ls ((as'.map (enc E)).reverse ++ .ref (E.2.2.1 g' t) :: rest)) rest (Qx (Value.ref (E.2.2.1 g' t) :: as'.map (enc E)).toArray) (AA E) := by
  have s1 := sl_le hn0
  have s2 := sl_le hnn
  have hm := mch_at hg'
  have hpre : PreS s H (fun v U => PcC E (aR g' t :: as') n L v U ∧ Pz U) (.ref (E.2.2.1 g' t) :: as'.map (enc E)) := ⟨fun a U f mk h => ⟨PcC.blind a U f mk h.1, hPb U f mk a h.2⟩, fun U hU hW => ⟨⟨by simp [enc], hE.moved hW (fun a h1 h2 => by rw [hU]; exact hC.1.2.1 a h1 h2), by rw [hU]; exact hC.2.moved hW.alike⟩, hPz U hU hW⟩⟩
  have hroom : (rmC g' n n').frames + 1 ≤ R.frames ∧ 8 + ((ciM g').2.1 + 11) + (rmC g' n n').locals ≤ R.locals := ⟨hfr, hfl⟩
  have hd : (ciY g').cls ≠ "java/lang/invoke/MethodHandle" ∧ (ciY g').cls ≠ "java/lang/invoke/VarHandle" ∧ (parseMethodDescriptor (ciY g').desc).map (fun d => d.parameters.length) = some (ciM g').2.2.1 := ⟨hm.2.2.2.2.2.2.2.1, hm.2.2.2.2.2.2.2.2.1, hm.2.2.2.2.1⟩
  rcases hlink with hlink | hlink
  · exact va_runI (Ts := lwg) (own := own) (cc := cc) (nL := nL) (b := E.2.2.1 g' t) (As := as'.map (enc E)) (rest := rest) ⟨hx, hb, hmx, hown, hts⟩ hM (cwI (ws' := lwg) (ciM g').2.2.1 hts (GoodIn_wsC hg') rfl rfl rfl (hts _ hm.2.2.1) (hts _ hlink) (hts _ hm.2.1) rfl hd hroom) hpre rfl (by rw [List.length_map]; exact hnp) hls rfl (lv_room hr4) hdg ⟨by omega, by omega⟩
  · exact va_runIN (Ts := lwg) (own := own) (cc := cc) (nL := nL) (b := E.2.2.1 g' t) (As := as'.map (enc E)) (rest := rest) ⟨hx, hb, hmx, hown, hts⟩ hM ⟨va_cnB (ws' := lwg) (ciM g').2.2.1 hts (GoodIn_wsC hg') rfl rfl rfl (hE.1.2.2.2.2.1 _ hlink) (hts _ hm.2.2.1) hd hroom, rfl, hts _ hm.2.1⟩ hpre rfl (by rw [List.length_map]; exact hnp) hls rfl (lv_room hr4) hdg ⟨by omega, by omega⟩
theorem CMet.z {g : Nat} {as : List AV} (h : CMet g as n L n' L') (l : Launch) (E : EV) : Met l (ciY g) (wsC g) (rmC g n n') (fun v U => PcC E as n L v U ∧ True) (QcC E n' L') (n' - n) (sl n' - sl n) (AA E) := by
  have e : (fun v U => PcC E as n L v U ∧ True) = PcC E as n L := by
    funext v U
    simp
  rw [e]
  exact h l E
theorem Wc.call (hF : FrC p R s m args meth c E g) {g' : Nat} (hg' : isO g') (hlv : lvC g' < lvC g) {as rest : List AV} {t : Int} {as' : List AV} (has : as = aR g' t :: as') (hnp : as'.length = (ciM g').2.2.1) (hr4 : rest.length ≤ 4) (hcat : ∀ a ∈ as, lcat a = 1) (hdg : decode (ciB g) pc = .ok (.invokespecial idx, 3)) (hlink : Cond.methodLink (oC g) idx (ciY g') ∈ lwg ∨ (oC g, idx, ciY g', "StaticKernel") ∈ gmn) (hM : CMet g' as n L n' L') (hn0 : n0 ≤ n) (hnn : n ≤ n') (hRc : n' - n0 ≤ R.cells) (hRs : sl n' - sl n0 ≤ R.slots)
    (kk : Wc p l e R s m args below meth c Q E (ciM g).2.1 n0 (pc + 3) loc rest n' L') : Wc p l e R s m args below meth c Q E (ciM g).2.1 n0 pc loc (as.reverse ++ rest) n L := by
  obtain ⟨hx, hb, hmx, hown, hts, hE, hinit, hRf, hRl⟩ := hF
  intro H locs ls hC hL
  have hm := (mch_at hg').2.2.2.2.2.1
  subst has
  have hstk : ((aR g' t :: as').reverse ++ rest).map (enc E) = (as'.map (enc E)).reverse ++ .ref (E.2.2.1 g' t) :: rest.map (enc E) := by
    simp [enc]
  rw [hstk]
  exact call_endC hC hn0 hnn (Wl.call (Pz := fun _ => True) hx hb hmx hown hts hE hg' hnp (Nat.le_trans (cat_le E rest) (by omega)) hdg hlink (fun _ _ _ _ _ => trivial) (hM.z l E) (fun _ _ _ => trivial) (by omega) (by omega) hn0 hnn hRc hRs hC hL.1) (fun H' locs' hC' => kk H' locs' ls hC' hL)
theorem mad_inv {g : Nat} {t : Int} (h : mad n g t = true) : od g t < n ∧ nl[od g t]? = some (g, t) := by
  unfold mad at h
  rw [Bool.and_eq_true] at h
  exact ⟨of_decide_eq_true h.1, of_decide_eq_true h.2⟩
theorem at_pr {a : Nat} (C : String) : atY a ≠ .object C := by
  unfold atY
  split <;> exact fun h => by cases h
theorem cst_sound (hF : FrC p R s m args meth c E g) (hgo : isO g) {r : CR} {raw : Instr} {len : Nat} (hok : okR g (pcsC g) raw len r = true) (hd : decode (ciB g) r.1 = .ok (raw, len)) (hnx : r.2.1 ≠ 6 → r.2.1 < 20 → (pcsC g)[i + 1]? = some (r.1 + len)) (hn0 : n0 ≤ n) {q' : CS} (hc : cstp r i loc stk n L = some q') (hRc : q'.2.2.2.1 - n0 ≤ R.cells) (hRs : sl q'.2.2.2.1 - sl n0 ≤ R.slots)
    (kk : ∀ pc' : Nat, (pcsC g)[q'.1]? = some pc' → Wc p l e R s m args below meth c Q E (ciM g).2.1 n0 pc' q'.2.1 q'.2.2.1 q'.2.2.2.1 q'.2.2.2.2) : Wc p l e R s m args below meth c Q E (ciM g).2.1 n0 r.1 loc stk n L := by
  obtain ⟨hx, hb, hmx, hown, hts, hE, hinit, hRf, hRl⟩ := hF
  obtain ⟨pc, op, a, w, b⟩ := r
  unfold okR at hok
  dsimp only at hok hd hnx ⊢
  split at hok
  · -- aload
    obtain ⟨rfl, rfl⟩ := of_decide_eq_true hok
    rw [cs_0] at hc
    split at hc
    · rename_i g' t hv
      cases hc
      intro H locs ls hC hL
      exact lv_aload_n hx hb hd rfl (hL.2.2.2 _ _ (getD_inv hv) (fun h => by cases h)) (kk _ (hnx (by decide) (by decide)) H locs ls hC hL)
    · cases hc
  · -- iconst
    obtain ⟨rfl, rfl⟩ := of_decide_eq_true hok
    rw [cs_1] at hc
    cases hc
    intro H locs ls hC hL
    exact lv_iconst hx hb hd rfl (kk _ (hnx (by decide) (by decide)) H locs ls hC hL)
  · -- bipush
    obtain ⟨rfl, rfl, h1, h2⟩ := of_decide_eq_true hok
    rw [cs_1] at hc
    cases hc
    intro H locs ls hC hL
    exact lv_bipush hx hb hd (b_push h1 h2) (kk _ (hnx (by decide) (by decide)) H locs ls hC hL)
  · -- sipush
    obtain ⟨rfl, rfl, h1, h2⟩ := of_decide_eq_true hok
    rw [cs_1] at hc
    cases hc
    intro H locs ls hC hL
    exact lv_sipush hx hb hd (s_push h1 h2) (kk _ (hnx (by decide) (by decide)) H locs ls hC hL)
  · -- iload
    obtain ⟨rfl, rfl⟩ := of_decide_eq_true hok
    rw [cs_2] at hc
    split at hc
    · rename_i x hv
      cases hc
      intro H locs ls hC hL
      exact lv_iload_n hx hb hd rfl (hL.2.2.2 _ _ (getD_inv hv) (fun h => by cases h)) (kk _ (hnx (by decide) (by decide)) H locs ls hC hL)
    · cases hc
  · -- istore
    obtain ⟨rfl, rfl, hn⟩ := of_decide_eq_true hok
    rw [cs_3] at hc
    split at hc
    · cases hc
      intro H locs ls hC hL
      exact lv_istore_n hx hb hd rfl hL.has hn rfl (fun ls' h' => kk _ (hnx (by decide) (by decide)) H locs ls' hC (LH.set1 hL.2.1 hn rfl h'))
    · cases hc
  · -- iinc
    obtain ⟨rfl, rfl, rfl, hn⟩ := of_decide_eq_true hok
    rw [cs_4] at hc
    split at hc
    · rename_i x hv
      cases hc
      intro H locs ls hC hL
      have hm : (_, enc E (aI x)) ∈ ents E loc := ents_mem.mpr ⟨aI x, getD_inv hv, (fun h => by cases h), rfl⟩
      obtain ⟨j, hj⟩ := List.getElem?_of_mem hm
      refine lv_iinc hx hb hd hL.has hj (v := Int32.ofInt (x + 1)) ?_ hn rfl (fun ls' h' => kk _ (hnx (by decide) (by decide)) H locs ls' hC (LH.set1 hL.2.1 hn rfl h'))
      rw [Int32.ofInt_add]
    · cases hc
  · -- if_icmpge
    rw [Bool.and_eq_true] at hok
    obtain ⟨hok, ht⟩ := hok
    obtain ⟨rfl, rfl⟩ := of_decide_eq_true hok
    obtain ⟨tgt, h1, h2⟩ := okT_inv ht
    rw [cs_5] at hc
    split at hc
    · rename_i y x st
      split at hc
      · rename_i hr
        have hy : in32 y := in32_of (by omega) (by omega)
        have hxx : in32 x := in32_of (by omega) (by omega)
        intro H locs ls hC hL
        split at hc
        · rename_i hle
          cases hc
          exact lv_icmp_ge hx hb hd h1 (fun _ => kk _ h2 H locs ls hC hL) (fun h => absurd ((i32_le hy hxx).mpr hle) h)
        · rename_i hle
          cases hc
          exact lv_icmp_ge hx hb hd h1 (fun h => absurd ((i32_le hy hxx).mp h) hle) (fun _ => kk _ (hnx (by decide) (by decide)) H locs ls hC hL)
      · cases hc
    · cases hc
  · -- goto
    rw [Bool.and_eq_true] at hok
    obtain ⟨hok, ht⟩ := hok
    obtain rfl := of_decide_eq_true hok
    obtain ⟨tgt, h1, h2⟩ := okT_inv ht
    rw [cs_6] at hc
    cases hc
    intro H locs ls hC hL
    exact lv_goto hx hb hd h1 (kk _ h2 H locs ls hC hL)
  · -- newarray
    rw [Bool.and_eq_true] at hok
    obtain ⟨hok, hw⟩ := hok
    obtain ⟨hty, rfl⟩ := of_decide_eq_true hok
    rw [cs_7] at hc
    split at hc
    · rename_i x st g' t hi
      split at hc
      · rename_i hq
        simp only [Bool.and_eq_true, decide_eq_true_eq] at hq
        obtain ⟨⟨hg', rfl, hy⟩, hf⟩ := hq
        cases hc
        exact Wc.newa hx hb hts hE hd (lwg_at (of_decide_eq_true hw) rfl) hi hg' (by rw [hy, hty]) (fun C => by rw [hy]; exact at_pr C) hf hn0 hRc hRs (kk _ (hnx (by decide) (by decide)))
      · cases hc
    · cases hc
  · -- anewarray
    rw [Bool.and_eq_true] at hok
    obtain ⟨hok, hw⟩ := hok
    obtain ⟨rfl, rfl, hk⟩ := of_decide_eq_true hok
    rw [cs_8] at hc
    split at hc
    · rename_i x st g' t hi
      split at hc
      · rename_i hq
        simp only [Bool.and_eq_true, decide_eq_true_eq] at hq
        obtain ⟨⟨hg', rfl, hy⟩, hf⟩ := hq
        cases hc
        exact Wc.newq hx hb hts hown hE hd (lwg_at (of_decide_eq_true hw) rfl) (hE.2.2.2.1 _ hk) hi hg' hy hf hn0 hRc hRs (kk _ (hnx (by decide) (by decide)))
      · cases hc
    · cases hc
  · -- multianewarray
    rw [Bool.and_eq_true] at hok
    obtain ⟨hok, hw⟩ := hok
    obtain ⟨rfl, rfl, rfl⟩ := of_decide_eq_true hok
    rw [cs_9] at hc
    split at hc
    · rename_i y x st g' t hi
      split at hc
      · rename_i hq
        rw [Bool.and_eq_true, Bool.and_eq_true, Bool.and_eq_true] at hq
        obtain ⟨⟨hq1, hq2⟩, hf, hm8⟩ := hq
        obtain ⟨hg', hg2⟩ := of_decide_eq_true hq1
        obtain ⟨rfl, rfl, rfl, a1, a2, a3, a4, a6, a7, a8, a9⟩ := of_decide_eq_true hq2
        cases hc
        refine Wc.mna hx hb hts hown hE hd (lwg_at (of_decide_eq_true hw) rfl) hi hg' hg2 a1 a2 a3 a4 rfl a6 a7 a8 a9 hf (fun j hj => ?_) hn0 hRc hRs (kk _ (hnx (by decide) (by decide)))
        unfold mna8 at hm8
        have := List.all_eq_true.mp hm8 j (List.mem_range.mpr hj)
        rw [Bool.and_eq_true] at this
        exact ⟨of_decide_eq_true this.1, this.2⟩
      · cases hc
    · cases hc
  · -- new
    rw [Bool.and_eq_true] at hok
    obtain ⟨hok, hw⟩ := hok
    obtain ⟨rfl, rfl, hk1, hk2⟩ := of_decide_eq_true hok
    rw [cs_10] at hc
    split at hc
    · rename_i g' t hi
      split at hc
      · rename_i hq
        rw [Bool.and_eq_true] at hq
        obtain ⟨hq, hf⟩ := hq
        have hq := of_decide_eq_true hq
        cases hc
        have hgo' : isO g' := by rw [hq]; exact ⟨hk1, hk2⟩
        have hw := of_decide_eq_true hw
        rw [← hq] at hw
        exact Wc.new hx hb hts hown hE hd (lwg_at hw rfl) (mch_at hgo').2.2.2.1 (mch_at hgo').2.2.1 hi hgo' hf hn0 hRc hRs (kk _ (hnx (by decide) (by decide)))
      · cases hc
    · cases hc
  · -- dup
    obtain rfl := of_decide_eq_true hok
    rw [cs_11] at hc
    split at hc
    · cases hc
      intro H locs ls hC hL
      exact lv_dup hx hb hd rfl (kk _ (hnx (by decide) (by decide)) H locs ls hC hL)
    · cases hc
  · -- Object.<init>
    rw [Bool.and_eq_true] at hok
    obtain ⟨hok, hw⟩ := hok
    obtain ⟨rfl, rfl⟩ := of_decide_eq_true hok
    rw [cs_12] at hc
    split at hc
    · cases hc
      intro H locs ls hC hL
      have h1 := (mch_at hgo).2.2.2.2.2.2.2.2.2.2.1
      refine W.objInit hx hb hown (hts _ (lwg_at (of_decide_eq_true hw) rfl)) (hts _ (List.mem_filter.mpr ⟨objw.1, rfl⟩)) (hts _ (List.mem_filter.mpr ⟨objw.2, rfl⟩)) rfl (by rw [hmx]; exact hL.1) rfl hd (by omega) ?_ (kk _ (hnx (by decide) (by decide)) H locs ls hC hL)
      show 2 * 0 + 0 + 12 ≤ R.locals
      omega
    · cases hc
  · -- calls
    rw [cs_13] at hc
    cases hc
  · -- calls
    rw [cs_14] at hc
    cases hc
  · -- getfield
    rw [Bool.and_eq_true] at hok
    obtain ⟨hok, hw⟩ := hok
    obtain ⟨rfl, rfl, k1, k2, k3, k4⟩ := of_decide_eq_true hok
    rw [cs_15] at hc
    split at hc
    · rename_i g' t st
      split at hc
      · rename_i hq
        rw [Bool.and_eq_true, Bool.and_eq_true] at hq
        obtain ⟨⟨hq, hm⟩, hne⟩ := hq
        have hq := of_decide_eq_true hq
        obtain ⟨m1, m2⟩ := mad_inv hm
        cases hc
        have hw := of_decide_eq_true hw
        rw [← hq] at hw k1 k2 k3 k4
        exact Wc.get hx hb hts hown hE ⟨k1, k2⟩ k3 m2 m1 k4 (of_decide_eq_true hne) (lwg_at hw rfl) hd (kk _ (hnx (by decide) (by decide)))
      · cases hc
    · cases hc
  · -- putfield
    rw [Bool.and_eq_true] at hok
    obtain ⟨hok, hw⟩ := hok
    obtain ⟨rfl, rfl, k1, k2, k3⟩ := of_decide_eq_true hok
    rw [cs_16] at hc
    split at hc
    · rename_i x g' t st
      split at hc
      · rename_i hq
        rw [Bool.and_eq_true] at hq
        obtain ⟨hq, hm⟩ := hq
        obtain ⟨hq, hy⟩ := of_decide_eq_true hq
        obtain ⟨m1, m2⟩ := mad_inv hm
        cases hc
        have hgg : g' = g := by rw [hq, k1]
        subst hgg
        exact Wc.put (a := aI x) hx hb hts hE hinit hown hgo k2 m2 m1 k3 (lwg_at (of_decide_eq_true hw) rfl) hd (by unfold fvP; rw [hy]; rfl) (by rw [hy]; rfl) (by rw [hy]; rfl) (kk _ (hnx (by decide) (by decide)))
      · cases hc
    · rename_i g2 t2 g' t st
      split at hc
      · rename_i hq
        rw [Bool.and_eq_true] at hq
        obtain ⟨hq, hm⟩ := hq
        obtain ⟨hq, href, hv⟩ := of_decide_eq_true hq
        obtain ⟨m1, m2⟩ := mad_inv hm
        cases hc
        have hgg : g' = g := by rw [hq, k1]
        subst hgg
        have hv1 : g2 = (fR g' (a / 4096 % 100)).1 := congrArg Prod.fst hv
        have hv2 : t2 = (fR g' (a / 4096 % 100)).2 + t := congrArg Prod.snd hv
        refine Wc.put (a := aR g2 t2) (x := 1) hx hb hts hE hinit hown hgo k2 m2 m1 k3 (lwg_at (of_decide_eq_true hw) rfl) hd ?_ ?_ ?_ (kk _ (hnx (by decide) (by decide)))
        · rw [fvP_ref href (by decide), hv1, hv2]
          rfl
        · cases hY : oY g' (a / 4096 % 100) <;> rw [hY] at href <;> first | rfl | cases href
        · cases hY : oY g' (a / 4096 % 100) <;> rw [hY] at href <;> first | rfl | cases href
      · cases hc
    · cases hc
  · -- iastore
    obtain rfl := of_decide_eq_true hok
    rw [cs_17] at hc
    split at hc
    · rename_i x j g' t st
      split at hc
      · rename_i hq
        rw [Bool.and_eq_true, Bool.and_eq_true] at hq
        obtain ⟨⟨hg', hq⟩, hm⟩ := hq
        obtain ⟨b1, b2, b3⟩ := of_decide_eq_true hq
        obtain ⟨m1, m2⟩ := mad_inv hm
        cases hc
        exact Wc.iast hx hb hE (of_decide_eq_true hg') b1 b2 b3 m2 m1 hd (kk _ (hnx (by decide) (by decide)))
      · cases hc
    · cases hc
  · -- aastore
    obtain rfl := of_decide_eq_true hok
    rw [cs_18] at hc
    split at hc
    · rename_i g2 t2 j g' t st
      split at hc
      · rename_i hq
        rw [Bool.and_eq_true, Bool.and_eq_true, Bool.and_eq_true] at hq
        obtain ⟨⟨hg', hq⟩, hm, hm2⟩ := hq
        obtain ⟨b1, b2, b3, b4, b5, b6, b7, b8, b9⟩ := of_decide_eq_true hq
        obtain ⟨m1, m2⟩ := mad_inv hm
        obtain ⟨m3, m4⟩ := mad_inv hm2
        cases hc
        exact Wc.aast hx hb hE (of_decide_eq_true hg') b1 b2 b3 b4 b5 b6 ⟨b7, b8⟩ b9 m2 m1 m4 m3 hd (kk _ (hnx (by decide) (by decide)))
      · cases hc
    · cases hc
  · -- ldc
    obtain ⟨rfl, rfl, rfl⟩ := of_decide_eq_true hok
    rw [cs_19] at hc
    cases hc
    intro H locs ls hC hL
    exact va_ldcS hx hb hown hE.1.2.2.2.2.2.2.2.2.2 hd (kk _ (hnx (by decide) (by decide)) H locs ls hC hL)
  · rw [cs_20] at hc
    cases hc
  · rw [cs_21] at hc
    cases hc
  · cases hok
theorem cpop_inv {g : Nat} {stk : List AV} {z : List AV × List AV} (h : cpop g stk = some z) : ∃ (t : Int) (as' : List AV), z.1 = aR g t :: as' ∧ as'.length = (ciM g).2.2.1 ∧ z.2.length ≤ 4 ∧ (∀ a ∈ z.1, lcat a = 1) ∧ stk = z.1.reverse ++ z.2 := by
  unfold cpop at h
  split at h
  · rename_i h' t st hnp
    split at h
    · rename_i hq
      cases h
      obtain ⟨rfl, h4⟩ := hq
      exact ⟨t, [], rfl, hnp.symm, h4, (fun a ha => by rcases List.mem_singleton.mp ha with rfl; rfl), rfl⟩
    · cases h
  · rename_i h2 t2 h' t st hnp
    split at h
    · rename_i hq
      cases h
      obtain ⟨rfl, h4⟩ := hq
      refine ⟨t, [aR h2 t2], rfl, hnp.symm, h4, (fun a ha => ?_), rfl⟩
      simp only [List.mem_cons, List.not_mem_nil, or_false] at ha
      rcases ha with rfl | rfl <;> rfl
    · cases h
  · cases h
end CZ
