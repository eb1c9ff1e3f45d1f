/-! ===== an instruction's wish is enough ===== -/
abbrev mt (n : Nat) : MD := mtab n
theorem mm0 : Cond.code Lib.Math.max.name Lib.Math.max.code 2 (some .int) ∈ lw_tbl ∧ Cond.static Lib.Math.max.name ∈ lw_tbl ∧ Cond.initialized "java/lang/Math" ∈ lw_tbl ∧ (mt 0).y = Lib.Math.max.name := by decide +kernel
theorem mm1 : Cond.code Lib.Math.min.name Lib.Math.min.code 2 (some .int) ∈ lw_tbl ∧ Cond.static Lib.Math.min.name ∈ lw_tbl ∧ (mt 1).y = Lib.Math.min.name := by decide +kernel
def Fr (p : Program) (R : Room) (s : State) (m : MethodId) (args : Array Value) (meth : Method) (c : Code) (E : EV) (q : MD) : Prop :=
  p.tables.exec = Jvm.exec ∧ c.code = q.b ∧ c.maxLocals = q.ml ∧ s.vm.findClass (cname q.o) = some m.cls ∧ (∀ w ∈ lwg, w.before args s = true) ∧ EnvK E s ∧ meth.sig.returnType = q.rt ∧ meth.locks = false ∧ R = rmL q.lv
theorem pops_spec : ∀ (n : Nat) (acc stk : List AV) (f : List AV → List AV → Prop), pops n acc stk f → ∃ vs rest, stk = vs ++ rest ∧ vs.length = n ∧ f (vs.reverse ++ acc) rest
  | 0, acc, stk, f, h => ⟨[], stk, rfl, rfl, h⟩
  | n + 1, acc, v :: stk, f, h => by
    obtain ⟨vs, rest, h1, h2, h3⟩ := pops_spec n (v :: acc) stk f h
    exact ⟨v :: vs, rest, by rw [h1]; rfl, by simp [h2], by simpa using h3⟩
  | n + 1, acc, [], f, h => h.elim
theorem cat_le (E : EV) : ∀ l : List AV, ((l.map (enc E)).map fun v => v.category).sum ≤ 2 * l.length
  | [] => by simp
  | v :: l => by
    have := cat_le E l
    have h2 : (enc E v).category ≤ 2 := by rw [enc_cat]; unfold lcat; split <;> omega
    simp only [List.map_cons, List.sum_cons, List.length_cons]
    omega
theorem PcA.blind {E : EV} {as : List AV} {M : AMem} : FrameBlind (PcA E as M) := fun a U g mk h => ⟨h.1, h.2.1, h.2.2.1.same rfl rfl, h.2.2.2.1.moved (Vm.Alike.refl U.vm), h.2.2.2.2⟩
section SD
variable {p : Program} {l : Launch} {e : Env} {R : Room} {s : State} {m : MethodId} {args : Array Value} {below : List Frame} {meth : Method} {c : Code} {Q : State → Prop} {E : EV} {q : MD} {pc : Nat} {loc : Lc} {stk : List AV} {M : AMem}
theorem GoodIn_lwg (q : MD) (h : Cond.code q.y q.b q.ml q.rt ∈ lwg) : GoodIn lwg (wsM q) := by
  intro w hw
  rcases List.mem_cons.mp hw with rfl | hw
  · exact ⟨h, good_of_word (List.mem_filter.mp h).2⟩
  · exact ⟨hw, good_of_word (List.mem_filter.mp hw).2⟩
theorem call_end {as rest : List AV} {post : Option AV → AMem → Prop} {H : Heap} {locs : List Loc} {ls : Array Slot} {st : List Value} (hC : Cf E s H locs M) (hL : LH E ls q.ml loc) (hl : lok loc) (hrest : sok rest)
    (hrun : va_Run p l e R s m args below meth c H locs 0 0 0 0 (F0 m pc ls st) (rest.map (enc E)) (QcA E post ((as.map (enc E)).toArray)) (AA E))
    (kk : ∀ r M', post r M' → Wi p l e R s m args below meth c Q E q.ml (pc + 3) loc (rpush r rest) M') : W p l e R s m args below meth c H locs 0 0 Q (F0 m pc ls st) := by
  intro T hT X
  obtain ⟨v, st₀, t, T', L, h0, X', hLf, e1, e2, ⟨r, M', hv, hrok, hpost, hrep, hmok, hsz, hF⟩, stp⟩ := hrun T hT X
  injection hv with hv
  subst hv
  have hal : s.vm.Alike t.vm := by rw [← e2]; exact X'.warmed.alike
  have hF1 := hF.1
  have hF2 := hF.2
  rw [h0] at hF1 hF2 hsz
  have hS : va_S (AA E) s.heap T'.heap (locs ++ L) := by
    refine ⟨Nat.le_trans hC.1.1 (by rw [e1]; exact hF1), fun a h1 h2 => ?_, fun z hz => ?_⟩
    · rw [e1, hF2 a (Nat.lt_of_lt_of_le h1 hC.1.1) h2]
      exact hC.1.2.1 a h1 h2
    · rcases List.mem_append.mp hz with h | h
      · exact hC.1.2.2 z h
      · exact hLf z h
  have hW := kk r M' hpost T'.heap (locs ++ L) ls ⟨hS, by rw [e1, hsz]; exact hC.2.1, by rw [e1]; exact hrep.moved hal.symm, hmok⟩ hL hl (by
    cases r with
    | none => exact hrest
    | some a => exact List.forall_mem_cons.mpr ⟨hrok a rfl, hrest⟩)
  obtain ⟨t2, a1, b1⟩ := hW T' rfl X'
  refine ⟨t2, stp t2 ?_, b1⟩
  have hst : (rpush r rest).map (enc E) = (r.map (enc E)).toList ++ rest.map (enc E) := by
    cases r <;> rfl
  rw [hst] at a1
  exact a1
theorem Runs.D {n : Nat} {as : List AV} {M : AMem} {post : Option AV → AMem → Prop} (h2 : 2 ≤ n) (h : Runs n as M post) : RunsD (mt n) as M post := by
  match n, h2, h with
  | k + 2, _, h => exact h
theorem Wi.callV (hF : Fr p R s m args meth c E q) {idx n : Nat} (hn2 : 2 ≤ n / 256) (hn : n / 256 < MDL.length) (hlink : Cond.methodLink (cname q.o) idx (mt (n / 256)).y ∈ lwg) (hcode : Cond.code (mt (n / 256)).y (mt (n / 256)).b (mt (n / 256)).ml (mt (n / 256)).rt ∈ lwg)
    (hinst : Cond.instanceMethod (mt (n / 256)).y ∈ lwg) (hsel : Cond.selects (oC (mt (n / 256)).g) (mt (n / 256)).y (mt (n / 256)).y ∈ lwg) (hini : Cond.initialized (mt (n / 256)).y.cls ∈ lwg)
    (hd : (mt (n / 256)).y.cls = oC (mt (n / 256)).g ∧ (mt (n / 256)).y.cls ≠ "java/lang/invoke/MethodHandle" ∧ (mt (n / 256)).y.cls ≠ "java/lang/invoke/VarHandle" ∧ (parseMethodDescriptor (mt (n / 256)).y.desc).map (fun d => d.parameters.length) = some (mt (n / 256)).np) (hg : isO (mt (n / 256)).g)
    (hnp : n / 16 % 16 = (mt (n / 256)).np + 1) (hgr : n % 16 = (mt (n / 256)).g) (hlv : (mt (n / 256)).lv < q.lv) (hml : (mt (n / 256)).ml ≤ 19) (hdg : decode q.b pc = .ok (.invokevirtual idx, 3))
    (hw : wcallV n loc stk M (fun loc stk M => Wi p l e R s m args below meth c Q E q.ml (pc + 3) loc stk M)) : Wi p l e R s m args below meth c Q E q.ml pc loc stk M := by
  obtain ⟨hx, hb, hmx, hown, hts, hE, -, -, hR⟩ := hF
  intro H locs ls hC hL hl hs
  obtain ⟨vs, rest, rfl, hvl, hrc, hr4, post, hruns, hk⟩ := pops_spec _ _ _ _ hw
  rw [List.append_nil] at hrc hruns
  obtain ⟨g, t, as', has⟩ : ∃ g t as', vs.reverse = aR g t :: as' := by
    unfold rcv at hrc
    split at hrc
    · rename_i h
      exact ⟨_, _, _, h⟩
    · exact hrc.elim
  rw [has] at hrc hruns
  have hgg : g = (mt (n / 256)).g := by rw [← hgr]; exact hrc
  have hvs : ∀ a ∈ vs.reverse, aok a := fun a ha => hs a (List.mem_append_left _ (List.mem_reverse.mp ha))
  have hrest : sok rest := fun a ha => hs a (List.mem_append_right _ ha)
  have hvt : vld g t := hvs (aR g t) (by rw [has]; exact List.mem_cons_self)
  have hlen : as'.length = (mt (n / 256)).np := by
    have : vs.reverse.length = (mt (n / 256)).np + 1 := by rw [List.length_reverse, hvl, hnp]
    rw [has] at this
    simpa using this
  have hgo : isO g := by rw [hgg]; exact hg
  obtain ⟨cellB, c1, c2, c3, -⟩ := hC.2.2.1.1 g t hgo hvt.2.1 hvt.2.2
  have hcls : s.vm.findClass (oC (mt (n / 256)).g) = some cellB.cls := by
    rw [c2, ← hgg]
    exact (hE.1 g hgo).2.1
  have hstk : (vs ++ rest).map (enc E) = (as'.map (enc E)).reverse ++ .ref (E.2.2.1 g t) :: rest.map (enc E) := by
    have : vs = (aR g t :: as').reverse := by rw [← has, List.reverse_reverse]
    rw [this]
    simp [enc]
  rw [hstk]
  have hrun := va_runV (p := p) (l := l) (e := e) (R := R) (s := s) (m := m) (args := args) (below := below) (meth := meth) (c := c) (H := H) (locs := locs) (cells := 0) (slots := 0) (cc := q.b) (nL := q.ml) (Ts := lwg) (own := cname q.o) (b := E.2.2.1 g t) (As := as'.map (enc E)) (rest := rest.map (enc E)) (g := F0 m pc ls ((as'.map (enc E)).reverse ++ .ref (E.2.2.1 g t) :: rest.map (enc E))) ⟨hx, hb, hmx, hown, hts⟩ ((Runs.D hn2 hruns) l E)
    (cwV (own := cname q.o) (index := idx) (C := oC (mt (n / 256)).g) (bytes := (mt (n / 256)).b) (maxL := (mt (n / 256)).ml) (ret := (mt (n / 256)).rt) (ws' := lwg) (mt (n / 256)).np hts (fun w hw => ?_) rfl rfl rfl hd ⟨?_, ?_⟩)
    ⟨PcA.blind, ⟨cellB, c1, by rw [c3]; rfl, hcls⟩, fun U hU hW => ⟨by simp [enc], fun a ha => hvs a (by rw [has]; exact ha), hE.moved hW (fun a h1 h2 => by rw [hU]; exact hC.1.2.1 a h1 h2), by rw [hU]; exact hC.2.2.1.moved hW.alike, hC.2.2.2⟩⟩
    rfl (by rw [List.length_map]; exact hlen) hL.1 rfl (lv_room (Nat.le_trans (cat_le E rest) (by omega))) hdg ⟨by rw [hR]; exact Nat.le_refl _, by rw [hR]; exact Nat.le_refl _⟩
  · refine call_end (as := aR g t :: as') hC hL hl hrest ?_ hk
    exact hrun
  · rcases List.mem_append.mp (show w ∈ ([Cond.methodLink (cname q.o) idx (mt (n / 256)).y, Cond.instanceMethod (mt (n / 256)).y, Cond.selects (oC (mt (n / 256)).g) (mt (n / 256)).y (mt (n / 256)).y, Cond.initialized (oC (mt (n / 256)).g)] : List Cond) ++ wsM (mt (n / 256)) from hw) with h | h
    · have : w ∈ lwg := by
        simp only [List.mem_cons, List.not_mem_nil, or_false] at h
        rcases h with rfl | rfl | rfl | rfl
        · exact hlink
        · exact hinst
        · exact hsel
        · rw [← hd.1]; exact hini
      exact ⟨this, good_of_word (List.mem_filter.mp this).2⟩
    · exact GoodIn_lwg _ hcode w h
  · rw [hR]; exact hlv
  · rw [hR]; show 8 + ((mt (n / 256)).ml + 11) + 38 * (mt (n / 256)).lv ≤ 38 * q.lv; omega
theorem Wi.callS (hF : Fr p R s m args meth c E q) {idx n : Nat} (hn2 : 2 ≤ n / 256) (hn : n / 256 < MDL.length) (hlink : Cond.methodLink (cname q.o) idx (mt (n / 256)).y ∈ lwg) (hcode : Cond.code (mt (n / 256)).y (mt (n / 256)).b (mt (n / 256)).ml (mt (n / 256)).rt ∈ lwg)
    (hstat : Cond.static (mt (n / 256)).y ∈ lwg) (hini : Cond.initialized (mt (n / 256)).y.cls ∈ lwg)
    (hd : (mt (n / 256)).y.cls ≠ "java/lang/invoke/MethodHandle" ∧ (mt (n / 256)).y.cls ≠ "java/lang/invoke/VarHandle" ∧ (parseMethodDescriptor (mt (n / 256)).y.desc).map (fun d => d.parameters.length) = some (mt (n / 256)).np)
    (hnp : n / 16 % 16 = (mt (n / 256)).np) (hlv : (mt (n / 256)).lv < q.lv) (hml : (mt (n / 256)).ml ≤ 19) (hdg : decode q.b pc = .ok (.invokestatic idx, 3))
    (hw : wcall n loc stk M (fun loc stk M => Wi p l e R s m args below meth c Q E q.ml (pc + 3) loc stk M)) : Wi p l e R s m args below meth c Q E q.ml pc loc stk M := by
  obtain ⟨hx, hb, hmx, hown, hts, hE, -, -, hR⟩ := hF
  intro H locs ls hC hL hl hs
  obtain ⟨vs, rest, rfl, hvl, hr4, post, hruns, hk⟩ := pops_spec _ _ _ _ hw
  rw [List.append_nil] at hruns
  have hvs : ∀ a ∈ vs.reverse, aok a := fun a ha => hs a (List.mem_append_left _ (List.mem_reverse.mp ha))
  have hrest : sok rest := fun a ha => hs a (List.mem_append_right _ ha)
  have hstk : (vs ++ rest).map (enc E) = (vs.reverse.map (enc E)).reverse ++ rest.map (enc E) := by
    rw [List.map_append, ← List.map_reverse, List.reverse_reverse]
  rw [hstk]
  have hrun := va_runS (p := p) (l := l) (e := e) (R := R) (s := s) (m := m) (args := args) (below := below) (meth := meth) (c := c) (H := H) (locs := locs) (cells := 0) (slots := 0) (cc := q.b) (nL := q.ml) (Ts := lwg) (own := cname q.o) (As := vs.reverse.map (enc E)) (rest := rest.map (enc E)) (g := F0 m pc ls ((vs.reverse.map (enc E)).reverse ++ rest.map (enc E))) ⟨hx, hb, hmx, hown, hts⟩ ((Runs.D hn2 hruns) l E)
    (va_cwS (own := cname q.o) (index := idx) (bytes := (mt (n / 256)).b) (maxL := (mt (n / 256)).ml) (ret := (mt (n / 256)).rt) (ws' := lwg) (mt (n / 256)).np hts (fun w hw => ?_) rfl rfl rfl hd ⟨?_, ?_⟩)
    ⟨PcA.blind, fun U hU hW => ⟨rfl, hvs, hE.moved hW (fun a h1 h2 => by rw [hU]; exact hC.1.2.1 a h1 h2), by rw [hU]; exact hC.2.2.1.moved hW.alike, hC.2.2.2⟩⟩
    rfl (by rw [List.length_map, List.length_reverse, hvl, hnp]) hL.1 rfl (lv_room (Nat.le_trans (cat_le E rest) (by omega))) hdg ⟨by rw [hR]; exact Nat.le_refl _, by rw [hR]; exact Nat.le_refl _⟩
  · exact call_end (as := vs.reverse) hC hL hl hrest hrun hk
  · rcases List.mem_append.mp (show w ∈ ([Cond.methodLink (cname q.o) idx (mt (n / 256)).y, Cond.static (mt (n / 256)).y, Cond.initialized (mt (n / 256)).y.cls] : List Cond) ++ wsM (mt (n / 256)) from hw) with h | h
    · have : w ∈ lwg := by
        simp only [List.mem_cons, List.not_mem_nil, or_false] at h
        rcases h with rfl | rfl | rfl
        · exact hlink
        · exact hstat
        · exact hini
      exact ⟨this, good_of_word (List.mem_filter.mp this).2⟩
    · exact GoodIn_lwg _ hcode w h
  · rw [hR]; exact hlv
  · rw [hR]; show 8 + ((mt (n / 256)).ml + 11) + 38 * (mt (n / 256)).lv ≤ 38 * q.lv; omega
end SD
/-! ===== the check of a method's resolved code ===== -/
def okT (pcs : List Nat) (pc : Nat) (off t : Int) : Bool := decide (0 ≤ (pc : Int) + off) && decide (pcs[t.toNat]? = some ((pc : Int) + off).toNat)
def okPairs (pcs : List Nat) (pc : Nat) : List Int → List Int → Bool
  | [], [] => true
  | a :: as, b :: bs => okT pcs pc a b && okPairs pcs pc as bs
  | _, _ => false
def okLook (pcs : List Nat) (pc : Nat) : List (Int × Int) → List (Int × Int) → Bool
  | [], [] => true
  | a :: as, b :: bs => decide (a.1 = b.1) && okT pcs pc a.2 b.2 && okLook pcs pc as bs
  | _, _ => false
def inB (n : Int) : Bool := decide (-2147483648 ≤ n ∧ n < 2147483648)
def isSimple : Instr → Bool
  | .iadd | .isub | .imul | .ineg | .irem | .iand | .ior | .ixor | .ishl | .ishr | .iushr | .ladd | .lneg | .lrem | .land | .lor | .lshl | .lushr | .lcmp | .i2l | .l2i | .i2b | .i2c | .dup | .pop | .dup2 | .iaload | .baload | .caload | .laload | .aaload | .iastore | .bastore | .castore | .lastore | .aastore | .arraylength => true
  | _ => false
/-- does the resolved instruction speak of the one in the code? -/
def okI (q : MD) (pcs : List Nat) (pc : Nat) (raw ins : Instr) : Bool := match raw, ins with
  | .iconst a, .iconst b => decide (a = b) && inB a
  | .bipush a, .iconst b => decide (a = b ∧ -128 ≤ a ∧ a < 128)
  | .sipush a, .iconst b => decide (a = b ∧ -32768 ≤ a ∧ a < 32768)
  | .ldc i, .iconst b => pK.any fun z => decide (z.1 = q.o * 4096 + i ∧ z.2.1 = b ∧ i < 4096)
  | .ldc_w i, .iconst b => pK.any fun z => decide (z.1 = q.o * 4096 + i ∧ z.2.1 = b ∧ i < 4096)
  | .ldc i, .ldc_w b => decide (i = 36 ∧ q.o = 1 ∧ b = 0)
  | .ldc2_w i, .ldc2_w b => pL.any fun z => decide (z.1 = q.o * 4096 + i ∧ z.2.1 = b ∧ i < 4096)
  | .lconst a, .ldc2_w b => decide ((a : Nat) = b)
  | .iload_n a, .iload b => decide ((a : Nat) = b)
  | .iload a, .iload b => decide (a = b)
  | .lload_n a, .lload b => decide ((a : Nat) = b)
  | .lload a, .lload b => decide (a = b)
  | .aload_n a, .aload b => decide ((a : Nat) = b)
  | .aload a, .aload b => decide (a = b)
  | .istore_n a, .istore b => decide ((a : Nat) = b ∧ b < q.ml)
  | .istore a, .istore b => decide (a = b ∧ b < q.ml)
  | .lstore_n a, .lstore b => decide ((a : Nat) = b ∧ b + 1 < q.ml)
  | .lstore a, .lstore b => decide (a = b ∧ b + 1 < q.ml)
  | .astore_n a, .astore b => decide ((a : Nat) = b ∧ b < q.ml)
  | .astore a, .astore b => decide (a = b ∧ b < q.ml)
  | .iinc a n, .iinc b k => decide (a = b ∧ n = k ∧ b < q.ml)
  | .if_icmp c off, .if_icmp d t => decide (c = d) && okT pcs pc off t
  | .ifCond c off, .ifCond d t => decide (c = d) && okT pcs pc off t
  | .if_acmp c off, .if_acmp d t => decide (c = d) && okT pcs pc off t
  | .goto off, .goto t => okT pcs pc off t
  | .tableswitch d lo hi offs, .tableswitch d' lo' hi' offs' => decide (lo = lo' ∧ hi = hi' ∧ hi - lo + 1 = offs.toList.length) && okT pcs pc d d' && okPairs pcs pc offs.toList offs'.toList
  | .lookupswitch d ps, .lookupswitch d' ps' => (ps.toList.zip (ps.toList.drop 1)).all (fun (a, next) => a.1 < next.1) && okT pcs pc d d' && okLook pcs pc ps.toList ps'.toList
  | .getfield i, .getfield n => pF.any fun z => decide (z.1 = q.o * 4096 + i ∧ z.2.1 = n ∧ i < 4096)
  | .putfield i, .putfield n => pF.any fun z => decide (z.1 = q.o * 4096 + i ∧ z.2.1 = n ∧ i < 4096 ∧ (oT (n / 400 % 16) (n / 4 % 100)).2.2.2 = false)
  | .getstatic i, .getstatic n => (pS.any fun z => decide (z.1 = q.o * 4096 + i ∧ z.2.1 = n ∧ i < 4096)) || (pN.any fun z => decide (z.1 = q.o * 4096 + i ∧ z.2.1 = n ∧ i < 4096))
  | .invokevirtual i, .invokevirtual n => (pM.any fun z => decide (z.1 = q.o * 4096 + i ∧ z.2.1 = n / 256 ∧ i < 4096)) && decide (2 ≤ n / 256 ∧ (mt (n / 256)).st = false ∧ n / 16 % 16 = (mt (n / 256)).np + 1 ∧ n % 16 = (mt (n / 256)).g ∧ (mt (n / 256)).lv < q.lv)
  | .invokestatic i, .invokestatic n => (pM.any fun z => decide (z.1 = q.o * 4096 + i ∧ z.2.1 = n / 256 ∧ i < 4096)) && decide ((mt (n / 256)).st = true ∧ n / 16 % 16 = (mt (n / 256)).np ∧ (mt (n / 256)).lv < q.lv)
  | .invokevirtual i, .checkcast n => (pX.any fun z => decide (z.1 = q.o * 4096 + i ∧ z.2.1 = n ∧ i < 4096)) && decide ((n = 12 ∨ n = 13) ∧ 1 ≤ q.lv)
  | .getfield i, .checkcast n => (pX.any fun z => decide (z.1 = q.o * 4096 + i ∧ z.2.1 = n ∧ i < 4096)) && decide (n = 100 ∨ n = 101)
  | .invokevirtual i, .instanceof n => (pX.any fun z => decide (z.1 = q.o * 4096 + i ∧ z.2.1 = n + 200 ∧ i < 4096)) && decide ((n = 0 ∨ n = 1) ∧ 4 ≤ q.lv)
  | .ireturn, .ret 0 => decide (q.rt = some .int)
  | .ireturn, .ret 1 => decide (q.rt = some .boolean)
  | .lreturn, .lreturn => decide (q.rt = some .long)
  | .areturn, .areturn => (match q.rt with
    | some (.object _) => true
    | some (.array _) => true
    | _ => false)
  | .return_, .return_ => decide (q.rt = none)
  | .new _, .new _ => true
  | .athrow, .athrow => true
  | .invokespecial _, .invokespecial _ => true
  | a, b => isSimple a && decide (a = b)
/-- the instruction goes on behind itself -/
def falls : Instr → Bool
  | .goto _ | .tableswitch .. | .lookupswitch .. | .ret _ | .lreturn | .areturn | .return_ | .athrow => false
  | _ => true
def rlen : Instr → Option Nat
  | .iconst _ | .lconst _ | .iload_n _ | .lload_n _ | .aload_n _ | .istore_n _ | .lstore_n _ | .astore_n _ => some 1
  | .bipush _ | .ldc _ | .iload _ | .lload _ | .aload _ | .istore _ | .lstore _ | .astore _ => some 2
  | .sipush _ | .ldc_w _ | .ldc2_w _ | .iinc _ _ | .if_icmp _ _ | .ifCond _ _ | .if_acmp _ _ | .goto _ | .getfield _ | .putfield _ | .getstatic _ | .invokevirtual _ | .invokestatic _ => some 3
  | .ireturn | .lreturn | .areturn | .return_ => some 1
  | i => if isSimple i then some 1 else none
def lenOK (raw : Instr) (len : Nat) : Bool := match rlen raw with
  | some n => decide (len = n)
  | none => true
def chkL (q : MD) (pcs : List Nat) : List (Nat × Instr) → Bool
  | [] => true
  | (pc, ins) :: rest => (match decode q.b pc with
    | .ok (raw, len) => okI q pcs pc raw ins && lenOK raw len && (!(falls ins) || decide (rest.head?.map (·.1) = some (pc + len)))
    | .error _ => false) && chkL q pcs rest
def chkM (q : MD) (cd : List (Nat × Instr)) : Bool := chkL q (cd.map (·.1)) cd && decide (cd.head?.map (·.1) = some 0)
