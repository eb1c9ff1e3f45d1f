/-! ===== the constructors: rows over the heap ===== -/
def EnvC (E : EV) (U : State) : Prop := EnvK E U ∧ (∀ (g : Nat) (t : Int), nl[od g t]? = some (g, t) → E.2.2.1 g t = E.2.2.2.1 + od g t) ∧ E.2.2.2.2 = E.2.2.2.1 + 300 ∧ (∀ k ∈ [8, 9, 10, 12, 13], va_AO (cN k) U) ∧ aoA U
theorem EnvC.moved {E : EV} {u U : State} (hW : u.WarmedH U.vm) (hh : ∀ a : Nat, a < u.heap.size → ¬ AA E a → U.heap[a]? = u.heap[a]?) (h : EnvC E u) : EnvC E U := ⟨h.1.moved hW hh, h.2.1, h.2.2.1, fun k hk => (h.2.2.2.1 k hk).moved hW.alike, h.2.2.2.2.moved hW.alike⟩
theorem EnvC.same {E : EV} {u U : State} (hv : u.vm = U.vm) (hh : U.heap = u.heap) (h : EnvC E u) : EnvC E U := ⟨h.1.same hv hh, h.2.1, h.2.2.1, fun k hk => (h.2.2.2.1 k hk).moved (by rw [hv]; exact Vm.Alike.refl _), h.2.2.2.2.moved (by rw [hv]; exact Vm.Alike.refl _)⟩
def CfC (E : EV) (s : State) (H : Heap) (locs : List Loc) (n : Nat) (L : LW) : Prop := va_S (AA E) s.heap H locs ∧ RepP E s H n L
def Wc (p : Program) (l : Launch) (e : Env) (R : Room) (s : State) (m : MethodId) (args : Array Value) (below : List Frame) (meth : Method) (c : Code) (Q : State → Prop) (E : EV) (nL n0 pc : Nat) (loc : Lc) (stk : List AV) (n : Nat) (L : LW) : Prop :=
  ∀ (H : Heap) (locs : List Loc) (ls : Array Slot), CfC E s H locs n L → LH E ls nL loc → W p l e R s m args below meth c H locs (n - n0) (sl n - sl n0) Q (F0 m pc ls (stk.map (enc E)))
def dfo (ty : FieldType) : Bool := match ty with
  | .int => true
  | .boolean => true
  | .long => true
  | .object _ => true
  | .array _ => true
  | _ => false
theorem tb_df : ∀ g ∈ [1, 2, 3, 4, 5, 6, 7, 8, 9, 10, 11], ∀ k, k < oN g → dfo (oY g k) = true := by decide +kernel
theorem tb_di : ∀ g ∈ gOwn, (gk g = 3 → ((aT g).2.1 = 1 ∧ MI g = 0) ∨ ((aT g).2.1 = 2 ∧ MI g = -1)) ∧ (gk g ≠ 3 → MI g = 0) ∧ gl g * componentBytes (aY g) ≤ 536870912 ∧ gk g < 6 ∧ 11 < g ∧ gl g < 100000 := by decide +kernel
theorem isO_mem {g : Nat} (h : isO g) : g ∈ [1, 2, 3, 4, 5, 6, 7, 8, 9, 10, 11] := by
  unfold isO at h
  have : g = 1 ∨ g = 2 ∨ g = 3 ∨ g = 4 ∨ g = 5 ∨ g = 6 ∨ g = 7 ∨ g = 8 ∨ g = 9 ∨ g = 10 ∨ g = 11 := by omega
  simpa using this
theorem fvP_0 {E : EV} {g k : Nat} (t : Int) (h : dfo (oY g k) = true) : fvP E g k t 0 = defaultValue (oY g k) := by
  unfold fvP
  cases hq : oY g k <;> rw [hq] at h <;> first | rfl | exact if_pos rfl | cases h
theorem MI_o {g : Nat} (h : isO g) : MI g = 0 := by
  unfold isO at h
  unfold MI
  rw [if_neg (by omega)]
theorem avP_0 {E : EV} {g : Nat} (i : Int) (h : g ∈ gOwn) : avP E g i (MI g) = defaultValue (aY g) := by
  obtain ⟨h3, hn, -, h6, -, -⟩ := tb_di g h
  have hm : g ∈ gOwn ++ gCon := List.mem_append_left _ h
  unfold avP
  by_cases k3 : gk g = 3
  · rw [k3]
    have hr := tb_k3 g hm k3
    have e : defaultValue (aY g) = .null := by
      cases hq : aY g <;> rw [hq] at hr <;> first | rfl | cases hr
    rw [e]
    show (if ((aT g).2.1 = 2 ∧ MI g < 0) ∨ ((aT g).2.1 = 1 ∧ MI g = 0) then Value.null else _) = Value.null
    rw [if_pos]
    rcases h3 k3 with ⟨a, b⟩ | ⟨a, b⟩
    · exact Or.inr ⟨a, b⟩
    · exact Or.inl ⟨a, by rw [b]; decide⟩
  · rw [hn k3]
    have : gk g = 0 ∨ gk g = 1 ∨ gk g = 2 ∨ gk g = 4 ∨ gk g = 5 := by omega
    rcases this with k | k | k | k | k <;> rw [k]
    · rw [tb_k0 g hm k]; rfl
    · rw [tb_k1 g hm k]; rfl
    · rw [tb_k2 g hm k]; rfl
    · rw [tb_k4 g hm k]; rfl
    · rw [tb_k5 g hm k]; rfl
theorem fvP_ref {E : EV} {g k : Nat} {t x : Int} (h : (oY g k).isReference = true) (hx : x ≠ 0) : fvP E g k t x = .ref (E.2.2.1 (fR g k).1 ((fR g k).2 + t)) := by
  unfold fvP
  cases hq : oY g k <;> rw [hq] at h <;> first | exact if_neg hx | cases h
theorem avP_i {E : EV} {g : Nat} {i x : Int} (h : gk g = 0) : avP E g i x = .int (Int32.ofInt x) := by
  unfold avP
  split
  · rename_i z; rw [h] at z; cases z
  · rename_i z; rw [h] at z; cases z
  · rfl
theorem AA_nl {E : EV} (h3 : E.2.2.2.2 = E.2.2.2.1 + 300) {i : Nat} {q : Nat × Int} (h : nl[i]? = some q) : AA E (E.2.2.2.1 + i) := by
  have := nl_lt h
  exact ⟨by omega, by omega⟩
theorem CfC.push {E : EV} {s : State} {H H' : Heap} {locs : List Loc} {n g : Nat} {t : Int} {L : LW} (h : CfC E s H locs n L) (hi : nl[n]? = some (g, t)) (hz : H'.size = E.2.2.2.1 + n + 1) (hq : ∀ q : Nat, q < E.2.2.2.1 + n → H'[q]? = H[q]?) (hc : CelP E s H' L g t (E.2.2.2.1 + n)) : CfC E s H' locs (n + 1) L := by
  have hz0 := h.2.1
  have hs0 := h.1.1
  exact ⟨⟨by omega, fun q a b => by rw [hq q (by omega)]; exact h.1.2.1 q a b, h.1.2.2⟩, h.2.push hi hz hq hc⟩
theorem CelP.arr {E : EV} {s : State} {H : Heap} {L : LW} {g : Nat} {t : Int} {a : Nat} {cell : Cell} (hg : g ∈ gOwn) (h1 : H[a]? = some cell) (h2 : ArrC (g ∈ gOwn) s cell (aY g)) (h3 : cell.vm ≠ .unknown) (h4 : cell.slots.size = gl g) (h5 : ∀ j : Nat, j < gl g → cell.slots[j]? = some (avP E g j (Lk L g t j))) : CelP E s H L g t a :=
  ⟨fun z => (isO_nA z (Or.inl hg)).elim, fun _ => ⟨cell, h1, h2, h3, Nat.le_of_eq h4.symm, (by rw [h4] : cell.slots.size.toInt32 = Int32.ofNat (gl g)), h5⟩⟩
section CX
variable {p : Program} {l : Launch} {e : Env} {R : Room} {s : State} {m : MethodId} {args : Array Value} {below : List Frame} {meth : Method} {c : Code} {Q : State → Prop} {E : EV} {cc : ByteArray} {nL n0 pc n : Nat} {loc : Lc} {stk : List AV} {L : LW} {own : String} {idx : Nat}
theorem Wc.newa (hx : p.tables.exec = Jvm.exec) (hb : c.code = cc) (hts : ∀ w ∈ lwg, w.before args s = true) (hE : EnvC E s) {ty : ArrayType} (hdg : decode cc pc = .ok (.newarray ty, 2)) (harr : Cond.arrayClass (newarray.typeOf ty) ∈ lwg) {g : Nat} {t : Int} (hi : nl[n]? = some (g, t)) (hg : g ∈ gOwn) (hty : aY g = newarray.typeOf ty) (hpr : ∀ C : String, aY g ≠ .object C) (hf : frsh L g t = true) (hn0 : n0 ≤ n) (hRc : n + 1 - n0 ≤ R.cells) (hRs : sl (n + 1) - sl n0 ≤ R.slots)
    (kk : Wc p l e R s m args below meth c Q E nL n0 (pc + 2) loc (aR g t :: stk) (n + 1) L) : Wc p l e R s m args below meth c Q E nL n0 pc loc (aI (gl g) :: stk) n L := by
  intro H locs ls hC hL
  obtain ⟨-, -, hby, -, h11, hlt⟩ := tb_di g hg
  have hgl : in32 ((gl g : Nat) : Int) := in32_of (by omega) (by omega)
  have hsl := sl_succ hi
  have hs1 := sl_le hn0
  have hsz : sz g = gl g := by unfold sz; rw [if_neg (by omega)]
  rw [hty] at hby
  refine va_newaK (N := gl g) hx hb (hts _ harr) rfl hdg rfl (fun h => ?_) ?_ hby (by omega) (by omega) hC.2.1 (fun H' cA e1 z1 o1 hAr hNm => ?_)
  · have := (i32_lt hgl in32_0).mp h
    omega
  · rw [i32_clamp hgl (by omega)]
    exact Int.toNat_natCast _
  have k := kk H' locs ls (hC.push hi z1 o1 (CelP.arr hg e1 ⟨by rw [hty]; exact hAr _ _, fun _ C hC => (hpr C hC).elim⟩ (fun h => by cases h) (arrV_size _ _ _) (fun j hj => by
    rw [arrV_read _ _ hj, Lk_frsh hf, avP_0 _ hg, hty]))) hL
  rw [show n + 1 - n0 = n - n0 + 1 by omega, show sl (n + 1) - sl n0 = sl n - sl n0 + gl g by omega] at k
  have ha : E.2.2.1 g t = E.2.2.2.1 + n := by
    have := hE.2.1 g t (by rw [nl_od hi]; exact hi)
    rw [nl_od hi] at this
    exact this
  have k : W p l e R s m args below meth c H' locs (n - n0 + 1) (sl n - sl n0 + gl g) Q (F0 m (pc + 2) ls (.ref (E.2.2.1 g t) :: stk.map (enc E))) := k
  rw [ha] at k
  exact k
theorem Wc.newq (hx : p.tables.exec = Jvm.exec) (hb : c.code = cc) (hts : ∀ w ∈ lwg, w.before args s = true) (hown : s.vm.findClass own = some m.cls) (hE : EnvC E s) {C : String} (hdg : decode cc pc = .ok (.anewarray idx, 3)) (hcl : Cond.classLink own idx C ∈ lwg) (hao : va_AO C s) {g : Nat} {t : Int} (hi : nl[n]? = some (g, t)) (hg : g ∈ gOwn) (hty : aY g = .object C) (hf : frsh L g t = true) (hn0 : n0 ≤ n) (hRc : n + 1 - n0 ≤ R.cells) (hRs : sl (n + 1) - sl n0 ≤ R.slots)
    (kk : Wc p l e R s m args below meth c Q E nL n0 (pc + 3) loc (aR g t :: stk) (n + 1) L) : Wc p l e R s m args below meth c Q E nL n0 pc loc (aI (gl g) :: stk) n L := by
  intro H locs ls hC hL
  obtain ⟨-, -, -, -, h11, hlt⟩ := tb_di g hg
  have hgl : in32 ((gl g : Nat) : Int) := in32_of (by omega) (by omega)
  have hsl := sl_succ hi
  have hs1 := sl_le hn0
  have hsz : sz g = gl g := by unfold sz; rw [if_neg (by omega)]
  have hcl2 : (Int32.ofInt ((gl g : Nat) : Int)).toNatClampNeg = gl g := by rw [i32_clamp hgl (by omega)]; exact Int.toNat_natCast _
  refine W.anew hx hb hown (hts _ hcl) (va_AO.use hao) rfl hdg rfl (fun h => ?_) (by rw [hcl2]; omega) (by omega) (by rw [hcl2]; omega) (fun cA kA comp f1 f2 f3 f4 => ?_)
  · have := (i32_lt hgl in32_0).mp h
    omega
  rw [hcl2]
  generalize hH1 : H.push ({ cls := cA, slots := Array.replicate (gl g) .null, vm := .none } : Cell) = H1
  have z1 : H1.size = E.2.2.2.1 + n + 1 := by rw [← hH1, Array.size_push, hC.2.1]
  have e1 : H1[E.2.2.2.1 + n]? = some (arrV cA (gl g) (fun _ => .null)) := by rw [← hH1, ← hC.2.1, Array.getElem?_push_size, ← arrV_new]
  have o1 : ∀ q : Nat, q < E.2.2.2.1 + n → H1[q]? = H[q]? := fun q hq => by rw [← hH1, Array.getElem?_push, if_neg (by rw [hC.2.1]; exact Nat.ne_of_lt hq)]
  have k := kk H1 locs ls (hC.push hi z1 o1 (CelP.arr hg e1 ⟨by rw [hty]; exact ⟨(fun k h => by cases h), kA, f2, comp, f3⟩, fun _ C' hC' => by
    rw [hty] at hC'
    cases hC'
    exact ⟨kA, comp, f2, f3, f4⟩⟩ (fun h => by cases h) (arrV_size _ _ _) (fun j hj => by
    rw [arrV_read _ _ hj, Lk_frsh hf, avP_0 _ hg, hty]; rfl))) hL
  rw [show n + 1 - n0 = n - n0 + 1 by omega, show sl (n + 1) - sl n0 = sl n - sl n0 + gl g by omega] at k
  have ha : E.2.2.1 g t = E.2.2.2.1 + n := by
    have := hE.2.1 g t (by rw [nl_od hi]; exact hi)
    rw [nl_od hi] at this
    exact this
  have k : W p l e R s m args below meth c H1 locs (n - n0 + 1) (sl n - sl n0 + gl g) Q (F0 m (pc + 3) ls (.ref (E.2.2.1 g t) :: stk.map (enc E))) := k
  rw [ha, ← hC.2.1] at k
  exact k
theorem Wl.new {H : Heap} {locs : List Loc} {ls : Array Slot} {rest : List Value} (hx : p.tables.exec = Jvm.exec) (hb : c.code = cc) (hts : ∀ w ∈ lwg, w.before args s = true) (hown : s.vm.findClass own = some m.cls) (hE : EnvC E s) {g : Nat} {t : Int} (hdg : decode cc pc = .ok (.new idx, 3)) (hcl : Cond.classLink own idx (oC g) ∈ lwg) (hins : Cond.instantiable (oC g) (oN g) ∈ lwg) (hini : Cond.initialized (oC g) ∈ lwg) (hi : nl[n]? = some (g, t)) (hg : isO g) (hf : frsh L g t = true) (hn0 : n0 ≤ n) (hRc : n + 1 - n0 ≤ R.cells) (hRs : sl (n + 1) - sl n0 ≤ R.slots) (hC : CfC E s H locs n L)
    (kk : ∀ H1 : Heap, CfC E s H1 locs (n + 1) L → W p l e R s m args below meth c H1 locs (n + 1 - n0) (sl (n + 1) - sl n0) Q (F0 m (pc + 3) ls (.ref (E.2.2.1 g t) :: rest))) : W p l e R s m args below meth c H locs (n - n0) (sl n - sl n0) Q (F0 m pc ls rest) := by
  have hsl := sl_succ hi
  have hs1 := sl_le hn0
  have hsz : sz g = oN g := by unfold sz; rw [if_pos (by unfold isO at hg; omega)]
  have hKn := hE.1.1 g hg
  refine W.newcK hx hb hown (hts _ hcl) (hts _ hins) (hts _ hini) rfl hdg (by omega) (by omega) hKn.2.1 hC.2.1 (fun H1 kC hkC e1 z1 o1 => ?_)
  have k := kk H1 (hC.push hi z1 o1 ⟨fun _ => (u_born (fun k => oY g k) hts (tb_in hg) hKn hkC e1 (tb_ty hg)).to (fun k hk => by
    show defaultValue (oY g k) = fvP E g k t (Lk L g t k)
    rw [Lk_frsh hf, MI_o hg, fvP_0 t (tb_df g (isO_mem hg) k hk)]), fun z => (isO_nA hg z).elim⟩)
  rw [show n + 1 - n0 = n - n0 + 1 by omega, show sl (n + 1) - sl n0 = sl n - sl n0 + oN g by omega] at k
  have ha : E.2.2.1 g t = E.2.2.2.1 + n := by
    have := hE.2.1 g t (by rw [nl_od hi]; exact hi)
    rw [nl_od hi] at this
    exact this
  rw [ha] at k
  exact k
theorem Wc.new (hx : p.tables.exec = Jvm.exec) (hb : c.code = cc) (hts : ∀ w ∈ lwg, w.before args s = true) (hown : s.vm.findClass own = some m.cls) (hE : EnvC E s) {g : Nat} {t : Int} (hdg : decode cc pc = .ok (.new idx, 3)) (hcl : Cond.classLink own idx (oC g) ∈ lwg) (hins : Cond.instantiable (oC g) (oN g) ∈ lwg) (hini : Cond.initialized (oC g) ∈ lwg) (hi : nl[n]? = some (g, t)) (hg : isO g) (hf : frsh L g t = true) (hn0 : n0 ≤ n) (hRc : n + 1 - n0 ≤ R.cells) (hRs : sl (n + 1) - sl n0 ≤ R.slots)
    (kk : Wc p l e R s m args below meth c Q E nL n0 (pc + 3) loc (aR g t :: stk) (n + 1) L) : Wc p l e R s m args below meth c Q E nL n0 pc loc stk n L := fun H locs ls hC hL => Wl.new hx hb hts hown hE hdg hcl hins hini hi hg hf hn0 hRc hRs hC (fun H1 hC1 => kk H1 locs ls hC1 hL)
theorem Wc.put (hx : p.tables.exec = Jvm.exec) (hb : c.code = cc) (hts : ∀ w ∈ lwg, w.before args s = true) (hE : EnvC E s) (hinit : meth.name = "<init>") {g k : Nat} {t x : Int} {a : AV} (hown : s.vm.findClass (oC g) = some m.cls) (hg : isO g) (hk : k < oN g) (hi : nl[od g t]? = some (g, t)) (hlt : od g t < n) (hdecl : (oT g k).1 = oC g)
    (hlink : Cond.fieldLink (oC g) idx (oT g k).1 (oT g k).2.1 (oT g k).2.2.1 ∈ lwg) (hdg : decode cc pc = .ok (.putfield idx, 3)) (ha : enc E a = fvP E g k t x) (hn : narrow (oY g k) (enc E a) = enc E a) (hfit : fits (oY g k) (enc E a) = true)
    (kk : Wc p l e R s m args below meth c Q E nL n0 (pc + 3) loc stk n ((g, t, (k : Int), x) :: L)) : Wc p l e R s m args below meth c Q E nL n0 pc loc (a :: aR g t :: stk) n L := by
  intro H locs ls hC hL
  obtain ⟨cell, q1, q2, q3, q4⟩ := (hC.2.2 _ g t hlt hi).1 hg
  obtain ⟨hS, hfc, kC, hkC, hkind⟩ := hE.1.1 g hg
  obtain ⟨cf, kf, fi, f, hff, hsl⟩ := hS k hk
  have hin := tb_in hg
  have hlay := hts _ (hin _ (u_in_lay hk))
  have hst := (u_facts hfc hkC (u_lays hts hin hk) hff).1
  have hap : ∀ x y, x < oN g → y < oN g → x ≠ y → E.2.1 g x ≠ E.2.1 g y := by
    intro x y hx hy hne
    obtain ⟨_, _, _, fa, hia, ea⟩ := hS x hx
    obtain ⟨_, _, _, fb, hib, eb⟩ := hS y hy
    rw [← ea, ← eb]
    refine u_apart (u_lays hts hin hx) (u_lays hts hin hy) hia hib ?_
    rw [(State.fieldFound?_type hia (tb_ty hg x hx)).1, (State.fieldFound?_type hib (tb_ty hg y hy)).1]
    exact tb_nm hg x hx y hy hne
  have fin : ∀ H' : Heap, H'[E.2.2.2.1 + od g t]? = some (cell.setSlot f.slot (enc E a)) → H'.size = H.size → (∀ q, q ≠ E.2.2.2.1 + od g t → H'[q]? = H[q]?) → W p l e R s m args below meth c H' (locs ++ [⟨E.2.2.2.1 + od g t, f.slot⟩]) (n - n0) (sl n - sl n0) Q (F0 m (pc + 3) ls (stk.map (enc E))) := by
    intro H' e1 e2 e3
    rw [hsl] at e1 ⊢
    refine kk H' _ ls ⟨hC.1.put e2 e3 (AA_nl hE.2.2.1 hi), hC.2.upd hi e2 e3 (fun g' t' x' h => Lk_ne (fun z => h ⟨z.1.symm, z.2.1.symm⟩)) ⟨fun _ => ?_, fun z => (isO_nA hg z).elim⟩⟩ hL
    refine t_OB.to (V := updV (fun k => fvP E g k t (Lk L g t k)) k (enc E a)) ⟨_, e1, q2, q3, t_set q4 hap hk (enc E a)⟩ (fun j _ => ?_)
    by_cases hj : j = k
    · subst hj
      rw [Lk_same]
      simp [updV, ha]
    · rw [Lk_ne (by omega)]
      simp [updV, hj]
  show W p l e R s m args below meth c H locs (n - n0) (sl n - sl n0) Q (F0 m pc ls (enc E a :: .ref (E.2.2.1 g t) :: stk.map (enc E)))
  rw [hE.2.1 g t hi]
  unfold u_lay at hlay
  by_cases hfin : (oT g k).2.2.2 = true
  · rw [if_pos hfin] at hlay
    have hcf : m.cls = cf := by
      obtain ⟨_, _, c', _, _, _, -, -, hf', -, -, -, hown2, -⟩ := Cond.laysFinal_spec hlay
      have e1 : c' = cf := by have := hff.symm.trans hf'; simp at this; exact this.1.symm
      rw [hdecl] at hown2
      rw [← e1]; exact Option.some.inj (hown.symm.trans hown2)
    have h6 := u_fits hfc hkC hkind (Or.inr hlay) hff (tb_ty hg k hk) hn hfit
    exact W.putFinK hx hb hown (hts _ hlink) hff hst hcf hinit (by rw [q2]; exact h6) q1 q3 (by rw [hsl]; exact k2_hasslot (q4 k hk)) rfl rfl hdg fin
  · rw [if_neg hfin] at hlay
    have h6 := u_store hfc hkC hkind hlay hff (tb_ty hg k hk) hn hfit
    exact W.putK hx hb (f := f) ⟨hown, hts _ hlink, ⟨_, _, _, hff⟩, hst⟩ (by rw [q2]; exact h6) q1 q3 (by rw [hsl]; exact k2_hasslot (q4 k hk)) rfl rfl hdg fin
theorem Wc.get (hx : p.tables.exec = Jvm.exec) (hb : c.code = cc) (hts : ∀ w ∈ lwg, w.before args s = true) (hown : s.vm.findClass own = some m.cls) (hE : EnvC E s) {g k : Nat} {t : Int} (hg : isO g) (hk : k < oN g) (hi : nl[od g t]? = some (g, t)) (hlt : od g t < n) (href : (oY g k).isReference = true) (hne : Lk L g t k ≠ 0)
    (hlink : Cond.fieldLink own idx (oT g k).1 (oT g k).2.1 (oT g k).2.2.1 ∈ lwg) (hdg : decode cc pc = .ok (.getfield idx, 3))
    (kk : Wc p l e R s m args below meth c Q E nL n0 (pc + 3) loc (aR (fR g k).1 ((fR g k).2 + t) :: stk) n L) : Wc p l e R s m args below meth c Q E nL n0 pc loc (aR g t :: stk) n L := by
  intro H locs ls hC hL
  obtain ⟨cell, q1, q2, q3, q4⟩ := (hC.2.2 _ g t hlt hi).1 hg
  obtain ⟨hS, hfc, kC, hkC, hkind⟩ := hE.1.1 g hg
  obtain ⟨cf, kf, fi, f, hff, hsl⟩ := hS k hk
  have hst := (u_facts hfc hkC (u_lays hts (tb_in hg) hk) hff).1
  show W p l e R s m args below meth c H locs (n - n0) (sl n - sl n0) Q (F0 m pc ls (.ref (E.2.2.1 g t) :: stk.map (enc E)))
  rw [hE.2.1 g t hi]
  refine W.getf (v := .ref (E.2.2.1 (fR g k).1 ((fR g k).2 + t))) hx hb hown (hts _ hlink) hff hst q1 (by rw [q3]; exact fun h => by cases h) (by rw [hsl, q4 k hk]; dsimp only; rw [fvP_ref href hne]) rfl rfl hdg ?_
  exact kk H locs ls hC hL
theorem Wc.iast (hx : p.tables.exec = Jvm.exec) (hb : c.code = cc) (hE : EnvC E s) {g : Nat} {t i x : Int} (hg : g ∈ gOwn) (hk : gk g = 0) (h0 : 0 ≤ i) (h1 : i < ((gl g : Nat) : Int)) (hi : nl[od g t]? = some (g, t)) (hlt : od g t < n) (hdg : decode cc pc = .ok (.iastore, 1))
    (kk : Wc p l e R s m args below meth c Q E nL n0 (pc + 1) loc stk n ((g, t, i, x) :: L)) : Wc p l e R s m args below meth c Q E nL n0 pc loc (aI x :: aI i :: aR g t :: stk) n L := by
  intro H locs ls hC hL
  obtain ⟨cell, q1, q2, q3, q4, q5, q6⟩ := (hC.2.2 _ g t hlt hi).2 (Or.inl hg)
  have hm : g ∈ gOwn ++ gCon := List.mem_append_left _ hg
  have hlt2 := (tb_di g hg).2.2.2.2.2
  have hii : in32 i := in32_of (by omega) (by omega)
  have hcl := i32_clamp hii h0
  have hin : i.toNat < gl g := by omega
  show W p l e R s m args below meth c H locs (n - n0) (sl n - sl n0) Q (F0 m pc ls (.int (Int32.ofInt x) :: .int (Int32.ofInt i) :: .ref (E.2.2.1 g t) :: stk.map (enc E)))
  rw [hE.2.1 g t hi]
  rw [tb_k0 g hm hk] at q2
  refine W.iast hx hb q1 q2.1 q3 (fun h => ?_) rfl rfl hdg (fun H' e1 e2 e3 => ?_)
  · rw [hcl] at h
    rcases h with h | h
    · have := (i32_lt hii in32_0).mp h
      omega
    · omega
  rw [hcl] at e1 ⊢
  refine kk H' _ ls ⟨hC.1.put e2 e3 (AA_nl hE.2.2.1 hi), hC.2.upd hi e2 e3 (fun g' t' x' h => Lk_ne (fun z => h ⟨z.1.symm, z.2.1.symm⟩)) ⟨fun z => (isO_nA z (Or.inl hg)).elim, fun _ => ?_⟩⟩ hL
  rw [tb_k0 g hm hk]
  refine ⟨_, e1, q2, q3, by simp [Cell.setSlot]; exact q4, by simp [Cell.setSlot]; exact q5, fun j hj => ?_⟩
  by_cases hj2 : j = i.toNat
  · subst hj2
    rw [Cell.slots_setSlot_self _ (k2_hasslot (q6 _ hin))]
    dsimp only
    rw [Int.toNat_of_nonneg h0, Lk_same, avP_i hk]
  · rw [slot_ne _ _ (Ne.symm hj2), q6 j hj]
    dsimp only
    rw [Lk_ne (by omega)]
theorem Wc.aast (hx : p.tables.exec = Jvm.exec) (hb : c.code = cc) (hE : EnvC E s) {g g' : Nat} {t t' i : Int} (hg : g ∈ gOwn) (hk : gk g = 3) (hmo : (aT g).2.1 = 1) (h0 : 0 ≤ i) (h1 : i < ((gl g : Nat) : Int)) (hg1 : g' = (aT g).1) (ht1 : t' = (aT g).2.2 + i) (hg' : isO g') (hty : aY g = .object (oC g')) (hi : nl[od g t]? = some (g, t)) (hlt : od g t < n) (hi' : nl[od g' t']? = some (g', t')) (hlt' : od g' t' < n) (hdg : decode cc pc = .ok (.aastore, 1))
    (kk : Wc p l e R s m args below meth c Q E nL n0 (pc + 1) loc stk n ((g, t, i, 1) :: L)) : Wc p l e R s m args below meth c Q E nL n0 pc loc (aR g' t' :: aI i :: aR g t :: stk) n L := by
  intro H locs ls hC hL
  obtain ⟨cell, q1, q2, q3, q4, q5, q6⟩ := (hC.2.2 _ g t hlt hi).2 (Or.inl hg)
  obtain ⟨cellV, v1, v2, v3, -⟩ := (hC.2.2 _ g' t' hlt' hi').1 hg'
  have hlt2 := (tb_di g hg).2.2.2.2.2
  have hii : in32 i := in32_of (by omega) (by omega)
  have hcl := i32_clamp hii h0
  have hin : i.toNat < gl g := by omega
  have hcls := (hE.1.1 g' hg').2
  obtain ⟨kC, hkC, -⟩ := hcls.2
  obtain ⟨kA, comp, k1, k2, k3⟩ := q2.2 hg _ hty
  have hcomp : comp = E.1 g' := Option.some.inj (k3.symm.trans hcls.1)
  subst hcomp
  have hvmo : ∀ q, cell.vm ≠ .statics q := q2.1.1
  show W p l e R s m args below meth c H locs (n - n0) (sl n - sl n0) Q (F0 m pc ls (.ref (E.2.2.1 g' t') :: .int (Int32.ofInt i) :: .ref (E.2.2.1 g t) :: stk.map (enc E)))
  rw [hE.2.1 g t hi, hE.2.1 g' t' hi']
  refine W.aast hx hb q1 hvmo q3 k1 k2 rfl hkC ⟨fun h => ?_, by rw [hcl]; omega⟩ v1 (fun q h => by rw [v3] at h; cases h) (by rw [v2]; exact hkC) (by rw [v2]; exact va_assign hcls) rfl rfl hdg (fun H' e1 e2 e3 => ?_)
  · have := (i32_lt hii in32_0).mp h
    omega
  rw [hcl] at e1 ⊢
  refine kk H' _ ls ⟨hC.1.put e2 e3 (AA_nl hE.2.2.1 hi), hC.2.upd hi e2 e3 (fun g' t' x' h => Lk_ne (fun z => h ⟨z.1.symm, z.2.1.symm⟩)) ⟨fun z => (isO_nA z (Or.inl hg)).elim, fun _ => ?_⟩⟩ hL
  refine ⟨_, e1, q2, q3, by simp [Cell.setSlot]; exact q4, by simp [Cell.setSlot]; exact q5, fun j hj => ?_⟩
  by_cases hj2 : j = i.toNat
  · subst hj2
    rw [Cell.slots_setSlot_self _ (k2_hasslot (q6 _ hin))]
    dsimp only
    rw [Int.toNat_of_nonneg h0, Lk_same, ← hE.2.1 g' t' hi', hg1, ht1]
    unfold avP
    rw [hk]
    show _ = some (if ((aT g).2.1 = 2 ∧ (1 : Int) < 0) ∨ ((aT g).2.1 = 1 ∧ (1 : Int) = 0) then Value.null else .ref (E.2.2.1 (aT g).1 ((aT g).2.2 + (if (aT g).2.1 = 1 then i else 1))))
    rw [if_neg (fun z => by rcases z with z | z; (· omega); (· exact absurd z.2 (by decide))), if_pos hmo]
  · rw [slot_ne _ _ (Ne.symm hj2), q6 j hj]
    dsimp only
    rw [Lk_ne (by omega)]
end CX
