/-- an int of the script -/
abbrev sv (xs : Nat → Int32) (x4 : Int32) (k : Nat) : Int32 := xs (x4 + nI k).toNatClampNeg
/-- the law's frame -/
def LF (p : Program) (s : State) (m : MethodId) (meth : Method) (c : Code) (b L : Nat) (xs : Nat → Int32) (E : EV) : Prop := lw_At p s m meth c b L xs ∧ EnvK E s ∧ s.heap.size ≤ E.2.2.2.1
/-- the law's locals -/
abbrev lvL (E : EV) (b o : Nat) (x4 : Int32) : List (Nat × Value) := [(0, .ref b), (1, .ref (E.2.2.1 1 0)), (2, .ref (E.2.2.1 11 0)), (3, .ref o), (4, .int x4)]
def OutK (U : State) (H : Heap) (o : Nat) (v : Int64) : Prop := ∃ cell : Cell, H[o]? = some cell ∧ U.isArrayOf cell .long ∧ cell.vm ≠ .unknown ∧ cell.slots.size = 1 ∧ cell.slots[0]? = some (.long v)
def OutH (U : State) (H : Heap) (o : Nat) : Prop := ∃ v : Int64, OutK U H o v
/-- the law's state between two calls -/
def LSt (s : State) (E : EV) (H : Heap) (locs : List Loc) (M : AMem) (n : Int) (ls : Array Slot) (b o : Nat) (x4 : Int32) : Prop := CfL E s H locs M ∧ INV n M M ∧ n + 4000000 < 2146000000 ∧ lv_has ls 8 (lvL E b o x4) ∧ OutH s H o ∧ ¬ AA E o
/-- how a case goes on -/
def KTl (p : Program) (l : Launch) (e : Env) (s : State) (m : MethodId) (b : Nat) (below : List Frame) (meth : Method) (c : Code) (Q : State → Prop) (E : EV) (n : Int) (cells slots o : Nat) (x4 : Int32) : Prop := ∀ (M' : AMem) (H' : Heap) (locs' : List Loc) (ls' : Array Slot) (cells' slots' : Nat), INV (n + 3200000) M' M' → CfL E s H' locs' M' → OutH s H' o → lv_has ls' 8 (lvL E b o x4) → cells' ≤ cells + 1 → slots' ≤ slots + 6 → W p l e room_1 s m #[Value.ref b] below meth c H' locs' cells' slots' Q (F0 m 1520 ls' [])
theorem va_keep {s : State} {H H' : Heap} {E : EV} {o : Nat} (h : OutH s H o) (ho : ¬ AA E o) (hk : ∀ q : Nat, q < H.size → ¬ AA E q → H'[q]? = H[q]?) : OutH s H' o := by
  obtain ⟨v, cell, h1, h2⟩ := h
  exact ⟨v, cell, by rw [hk o (Array.getElem?_eq_some_iff.mp h1).1 ho]; exact h1, h2⟩
theorem CC_I {n1 n2 : Nat} {as1 as2 : List AV} {M : AMem} {k : Int} (h : ∃ (v : Int) (M1 M2 : AMem), Runs n1 as1 M (fun r M' => r = some (aI v) ∧ M' = M1) ∧ Runs n2 as2 M1 (fun r M' => r = some (aI v) ∧ M' = M2) ∧ INV k M2 M2) : Runs n1 as1 M (fun r M1 => ∃ v : Int, r = some (aI v) ∧ Runs n2 as2 M1 (fun r' M2 => r' = some (aI v) ∧ INV k M2 M2)) := by
  obtain ⟨v, M1, M2, h1, h2, h3⟩ := h
  refine Runs.imp h1 ?_
  rintro r M' ⟨rfl, rfl⟩
  refine ⟨v, rfl, Runs.imp h2 ?_⟩
  rintro r' M'' ⟨rfl, rfl⟩
  exact ⟨rfl, h3⟩
theorem CC_L {n1 n2 : Nat} {as1 as2 : List AV} {M : AMem} {k : Int} (h : ∃ (v : Int) (M1 M2 : AMem), Runs n1 as1 M (fun r M' => r = some (aL v) ∧ M' = M1) ∧ Runs n2 as2 M1 (fun r M' => r = some (aL v) ∧ M' = M2) ∧ INV k M2 M2) : Runs n1 as1 M (fun r M1 => ∃ v : Int, r = some (aL v) ∧ Runs n2 as2 M1 (fun r' M2 => r' = some (aL v) ∧ INV k M2 M2)) := by
  obtain ⟨v, M1, M2, h1, h2, h3⟩ := h
  refine Runs.imp h1 ?_
  rintro r M' ⟨rfl, rfl⟩
  refine ⟨v, rfl, Runs.imp h2 ?_⟩
  rintro r' M'' ⟨rfl, rfl⟩
  exact ⟨rfl, h3⟩
theorem lcmp_self (x : Int64) : lg_cmp x x = 0 := by
  unfold lg_cmp
  simp
section LAW0
variable {p : Program} {l : Launch} {e : Env} {R : Room} {s : State} {m : MethodId} {args : Array Value} {below : List Frame} {meth : Method} {c : Code} {Q : State → Prop} {E : EV} {pc cells slots nL : Nat} {M : AMem} {cc : ByteArray} {own : String} {H : Heap} {locs : List Loc} {ls : Array Slot}
/-- a call with ints, by the method's number -/
theorem L_callI (hx : p.tables.exec = Jvm.exec) (hb : c.code = cc) (hmx : c.maxLocals = nL) (hown : s.vm.findClass own = some m.cls) (hts : ∀ w ∈ lwg, w.before args s = true) (hE : EnvK E s) {idx n : Nat} (hn2 : 2 ≤ n ∧ n < MDL.length) (hlink : Cond.methodLink own idx (mt n).y ∈ lwg) (hst : (mt n).st = false)
    {t : Int} {g : Nat} (hg : (mt n).g = g) (hvt : 0 ≤ t ∧ t < gn g) {vs : List Int32} (hlen : vs.length = (mt n).np) (hRf : (mt n).lv < R.frames) (hRl : 8 + ((mt n).ml + 11) + 38 * (mt n).lv ≤ R.locals) (hRc : cells ≤ R.cells) (hRs : slots ≤ R.slots) (hC : CfL E s H locs M) {post : Option AV → AMem → Prop} (hruns : Runs n (aR g t :: vs.map fun v => aI v.toInt) M post) (hdg : decode cc pc = .ok (.invokevirtual idx, 3)) (hls : ls.size = nL) {rest stk : List Value} (hrs : (rest.map fun v => v.category).sum ≤ 8) (hstk : stk = (vs.map Value.int).reverse ++ .ref (E.2.2.1 g t) :: rest)
    (kk : ∀ (r : Option AV) (M' : AMem) (H' : Heap) (locs' : List Loc), post r M' → (∀ a, r = some a → aok a) → CfL E s H' locs' M' → H'.size = H.size → (∀ q : Nat, q < H.size → ¬ AA E q → H'[q]? = H[q]?) → W p l e R s m args below meth c H' locs' cells slots Q (F0 m (pc + 3) ls ((r.map (enc E)).toList ++ rest))) :
    W p l e R s m args below meth c H locs cells slots Q (F0 m pc ls stk) := by
  obtain ⟨i1, -, i3, i4, i5, -, -⟩ := md_inv hn2.2
  obtain ⟨j1, j2, j3, j4⟩ := i3 hst
  subst hg
  have em : (vs.map fun v => aI v.toInt).map (enc E) = vs.map Value.int := by
    rw [List.map_map]
    refine List.map_congr_left (fun v _ => ?_)
    show Value.int (Int32.ofInt v.toInt) = Value.int v
    rw [Int32.ofInt_toInt]
  rw [hstk, ← em]
  exact L_callV hx hb hmx hown hts hE hn2.1 hlink i1 j1 j2 i4 ⟨j3, i5⟩ j4 ⟨Or.inl j4, hvt⟩ (fun a ha => by
    obtain ⟨v, _, rfl⟩ := List.mem_map.mp ha
    exact ⟨Int32.minValue_le_toInt v, Int32.toInt_lt v⟩) (by rw [List.length_map]; exact hlen) hRf hRl hRc hRs hC hruns hdg hls hrs kk
/-- an int of the script onto the stack -/
theorem L_arg {b L o : Nat} {xs : Nat → Int32} {x4 k : Int32} {q : Int} {rest : List Value} {A : Nat → Prop} (hx : p.tables.exec = Jvm.exec) (hb : c.code = cc) (hX : va_X b L xs s s.heap) (hbl : b < s.heap.size) (hbA : ¬ A b) (hS : va_S A s.heap H locs) (hin : vp_in (x4 + k) L) (hl : lv_has ls 8 (lvL E b o x4))
    (d0 : decode cc pc = .ok (.aload_n 0, 1)) (d1 : decode cc (pc + 1) = .ok (.iload 4, 2)) (d3 : decode cc (pc + 3) = .ok (.iconst q, 1)) (d4 : decode cc (pc + 4) = .ok (.iadd, 1)) (d5 : decode cc (pc + 5) = .ok (.iaload, 1)) (hq : Int32.ofInt q = k)
    (kk : W p l e R s m args below meth c H locs cells slots Q (F0 m (pc + 6) ls (.int (xs (x4 + k).toNatClampNeg) :: rest))) : W p l e R s m args below meth c H locs cells slots Q (F0 m pc ls rest) := by
  refine lv_aload_n hx hb d0 rfl (lv_at hl 0 rfl) ?_
  refine lv_iload hx hb d1 (lv_at hl 4 rfl) ?_
  refine lv_iconst (v := k) hx hb d3 hq ?_
  refine lv_iadd hx hb d4 ?_
  exact va_sld hx hb hX hbl hbA hS hin d5 kk
end LAW0
/-! ===== the law: cases of two calls (by program: wip/whole/gen/mkc1.py) ===== -/
section LAW2
variable {p : Program} {l : Launch} {e : Env} {s : State} {m : MethodId} {below : List Frame} {meth : Method} {c : Code} {Q : State → Prop} {E : EV} {cells slots b L o : Nat} {xs : Nat → Int32} {H : Heap} {locs : List Loc} {ls : Array Slot} {M : AMem} {x4 : Int32} {n : Int}
set_option maxHeartbeats 1000000 in
theorem ll_feed (C0 : LF p s m meth c b L xs E) (S0 : LSt s E H locs M n ls b o x4 ) (hin : ∀ j : Nat, j < 6 → vp_in (x4 + nI j) L) (hc : cells ≤ room_1.cells) (hs : slots ≤ room_1.slots) (kt : KTl p l e s m b below meth c Q E n cells slots o x4) : W p l e room_1 s m #[Value.ref b] below meth c H locs cells slots Q (F0 m 204 ls []) := by
  obtain ⟨⟨hx, hb, hr, hml, hown, hts, hX, hbl, hlocks, hgv⟩, hE, hbE⟩ := id C0
  obtain ⟨hC, inv, hn, hl, hP, hoA⟩ := S0
  have hbA : ¬ AA E b := fun z => by have := z.1; omega
  have htg : ∀ w ∈ lwg, w.before #[Value.ref b] s = true := fun w hw => hts w (List.mem_filter.mp hw).1
  have cc := CC_I (c_feed inv hn (sv xs x4 1).toInt (sv xs x4 2).toInt (sv xs x4 3).toInt (sv xs x4 4).toInt (sv xs x4 5).toInt)
  refine lv_aload_n hx hb d_L_204 rfl (lv_at hl 1 rfl) ?_
  refine L_arg hx hb hX hbl hbA hC.1 (k := nI 1) (hin 1 (by decide)) hl d_L_205 d_L_206 d_L_208 d_L_209 d_L_210 (by decide) ?_
  refine L_arg hx hb hX hbl hbA hC.1 (k := nI 2) (hin 2 (by decide)) hl d_L_211 d_L_212 d_L_214 d_L_215 d_L_216 (by decide) ?_
  refine L_arg hx hb hX hbl hbA hC.1 (k := nI 3) (hin 3 (by decide)) hl d_L_217 d_L_218 d_L_220 d_L_221 d_L_222 (by decide) ?_
  refine L_arg hx hb hX hbl hbA hC.1 (k := nI 4) (hin 4 (by decide)) hl d_L_223 d_L_224 d_L_226 d_L_227 d_L_228 (by decide) ?_
  refine L_arg hx hb hX hbl hbA hC.1 (k := nI 5) (hin 5 (by decide)) hl d_L_229 d_L_230 d_L_232 d_L_233 d_L_234 (by decide) ?_
  refine L_callI (n := 114) (vs := [sv xs x4 1, sv xs x4 2, sv xs x4 3, sv xs x4 4, sv xs x4 5]) (t := 0) (rest := []) hx hb hml hown htg hE (by decide +kernel) (idx := 43) (List.mem_filter.mpr ⟨by decide +kernel, rfl⟩) rfl rfl (by decide) rfl (Nat.le_of_ble_eq_true rfl) (Nat.le_of_ble_eq_true rfl) hc hs hC cc d_L_235 hl.1 (by decide) rfl (fun r M1 H1 locs1 hp1 ok1 hC hz1 hk1 => ?_)
  obtain ⟨v, rfl, cc⟩ := hp1
  have hP := va_keep hP hoA hk1
  refine lv_aload_n hx hb d_L_238 rfl (lv_at hl 2 rfl) ?_
  refine L_arg hx hb hX hbl hbA hC.1 (k := nI 1) (hin 1 (by decide)) hl d_L_239 d_L_240 d_L_242 d_L_243 d_L_244 (by decide) ?_
  refine L_arg hx hb hX hbl hbA hC.1 (k := nI 2) (hin 2 (by decide)) hl d_L_245 d_L_246 d_L_248 d_L_249 d_L_250 (by decide) ?_
  refine L_arg hx hb hX hbl hbA hC.1 (k := nI 3) (hin 3 (by decide)) hl d_L_251 d_L_252 d_L_254 d_L_255 d_L_256 (by decide) ?_
  refine L_arg hx hb hX hbl hbA hC.1 (k := nI 4) (hin 4 (by decide)) hl d_L_257 d_L_258 d_L_260 d_L_261 d_L_262 (by decide) ?_
  refine L_arg hx hb hX hbl hbA hC.1 (k := nI 5) (hin 5 (by decide)) hl d_L_263 d_L_264 d_L_266 d_L_267 d_L_268 (by decide) ?_
  refine L_callI (n := 3) (vs := [sv xs x4 1, sv xs x4 2, sv xs x4 3, sv xs x4 4, sv xs x4 5]) (t := 0) (rest := [enc E (aI v)]) hx hb hml hown htg hE (by decide +kernel) (idx := 47) (List.mem_filter.mpr ⟨by decide +kernel, rfl⟩) rfl rfl (by decide) rfl (Nat.le_of_ble_eq_true rfl) (Nat.le_of_ble_eq_true rfl) hc hs hC cc d_L_269 hl.1 (Nat.le_of_ble_eq_true rfl) rfl (fun r M2 H2 locs2 hp2 ok2 hC hz2 hk2 => ?_)
  obtain ⟨rfl, inv2⟩ := hp2
  have hP := va_keep hP hoA hk2
  refine lv_icmp_eq (tgt := 1520) (x := Int32.ofInt v) (y := Int32.ofInt v) hx hb d_L_272 (by decide) (fun _ => kt M2 H2 locs2 ls cells slots inv2 hC hP hl (by omega) (by omega)) (fun z => absurd rfl z)
set_option maxHeartbeats 1000000 in
theorem ll_build (C0 : LF p s m meth c b L xs E) (S0 : LSt s E H locs M n ls b o x4 ) (hin : ∀ j : Nat, j < 6 → vp_in (x4 + nI j) L) (hc : cells ≤ room_1.cells) (hs : slots ≤ room_1.slots) (kt : KTl p l e s m b below meth c Q E n cells slots o x4) : W p l e room_1 s m #[Value.ref b] below meth c H locs cells slots Q (F0 m 277 ls []) := by
  obtain ⟨⟨hx, hb, hr, hml, hown, hts, hX, hbl, hlocks, hgv⟩, hE, hbE⟩ := id C0
  obtain ⟨hC, inv, hn, hl, hP, hoA⟩ := S0
  have hbA : ¬ AA E b := fun z => by have := z.1; omega
  have htg : ∀ w ∈ lwg, w.before #[Value.ref b] s = true := fun w hw => hts w (List.mem_filter.mp hw).1
  have cc := c_build inv hn (sv xs x4 1).toInt
  refine lv_aload_n hx hb d_L_277 rfl (lv_at hl 1 rfl) ?_
  refine L_arg hx hb hX hbl hbA hC.1 (k := nI 1) (hin 1 (by decide)) hl d_L_278 d_L_279 d_L_281 d_L_282 d_L_283 (by decide) ?_
  refine L_callI (n := 122) (vs := [sv xs x4 1]) (t := 0) (rest := []) hx hb hml hown htg hE (by decide +kernel) (idx := 48) (List.mem_filter.mpr ⟨by decide +kernel, rfl⟩) rfl rfl (by decide) rfl (Nat.le_of_ble_eq_true rfl) (Nat.le_of_ble_eq_true rfl) hc hs hC cc d_L_284 hl.1 (by decide) rfl (fun r M1 H1 locs1 hp1 ok1 hC hz1 hk1 => ?_)
  obtain ⟨v, rfl, cc⟩ := hp1
  have hP := va_keep hP hoA hk1
  refine lv_aload_n hx hb d_L_287 rfl (lv_at hl 2 rfl) ?_
  refine L_arg hx hb hX hbl hbA hC.1 (k := nI 1) (hin 1 (by decide)) hl d_L_288 d_L_289 d_L_291 d_L_292 d_L_293 (by decide) ?_
  refine L_callI (n := 4) (vs := [sv xs x4 1]) (t := 0) (rest := [enc E (aI v)]) hx hb hml hown htg hE (by decide +kernel) (idx := 51) (List.mem_filter.mpr ⟨by decide +kernel, rfl⟩) rfl rfl (by decide) rfl (Nat.le_of_ble_eq_true rfl) (Nat.le_of_ble_eq_true rfl) hc hs hC cc d_L_294 hl.1 (Nat.le_of_ble_eq_true rfl) rfl (fun r M2 H2 locs2 hp2 ok2 hC hz2 hk2 => ?_)
  obtain ⟨rfl, inv2⟩ := hp2
  have hP := va_keep hP hoA hk2
  refine lv_icmp_eq (tgt := 1520) (x := Int32.ofInt v) (y := Int32.ofInt v) hx hb d_L_297 (by decide) (fun _ => kt M2 H2 locs2 ls cells slots inv2 hC hP hl (by omega) (by omega)) (fun z => absurd rfl z)
set_option maxHeartbeats 1000000 in
theorem ll_fault (C0 : LF p s m meth c b L xs E) (S0 : LSt s E H locs M n ls b o x4 ) (hin : ∀ j : Nat, j < 6 → vp_in (x4 + nI j) L) (hc : cells ≤ room_1.cells) (hs : slots ≤ room_1.slots) (kt : KTl p l e s m b below meth c Q E n cells slots o x4) : W p l e room_1 s m #[Value.ref b] below meth c H locs cells slots Q (F0 m 302 ls []) := by
  obtain ⟨⟨hx, hb, hr, hml, hown, hts, hX, hbl, hlocks, hgv⟩, hE, hbE⟩ := id C0
  obtain ⟨hC, inv, hn, hl, hP, hoA⟩ := S0
  have hbA : ¬ AA E b := fun z => by have := z.1; omega
  have htg : ∀ w ∈ lwg, w.before #[Value.ref b] s = true := fun w hw => hts w (List.mem_filter.mp hw).1
  have cc := CC_I (c_fault inv hn (sv xs x4 1).toInt)
  refine lv_aload_n hx hb d_L_302 rfl (lv_at hl 1 rfl) ?_
  refine L_arg hx hb hX hbl hbA hC.1 (k := nI 1) (hin 1 (by decide)) hl d_L_303 d_L_304 d_L_306 d_L_307 d_L_308 (by decide) ?_
  refine L_callI (n := 186) (vs := [sv xs x4 1]) (t := 0) (rest := []) hx hb hml hown htg hE (by decide +kernel) (idx := 52) (List.mem_filter.mpr ⟨by decide +kernel, rfl⟩) rfl rfl (by decide) rfl (Nat.le_of_ble_eq_true rfl) (Nat.le_of_ble_eq_true rfl) hc hs hC cc d_L_309 hl.1 (by decide) rfl (fun r M1 H1 locs1 hp1 ok1 hC hz1 hk1 => ?_)
  obtain ⟨v, rfl, cc⟩ := hp1
  have hP := va_keep hP hoA hk1
  refine lv_aload_n hx hb d_L_312 rfl (lv_at hl 2 rfl) ?_
  refine L_arg hx hb hX hbl hbA hC.1 (k := nI 1) (hin 1 (by decide)) hl d_L_313 d_L_314 d_L_316 d_L_317 d_L_318 (by decide) ?_
  refine L_callI (n := 38) (vs := [sv xs x4 1]) (t := 0) (rest := [enc E (aI v)]) hx hb hml hown htg hE (by decide +kernel) (idx := 55) (List.mem_filter.mpr ⟨by decide +kernel, rfl⟩) rfl rfl (by decide) rfl (Nat.le_of_ble_eq_true rfl) (Nat.le_of_ble_eq_true rfl) hc hs hC cc d_L_319 hl.1 (Nat.le_of_ble_eq_true rfl) rfl (fun r M2 H2 locs2 hp2 ok2 hC hz2 hk2 => ?_)
  obtain ⟨rfl, inv2⟩ := hp2
  have hP := va_keep hP hoA hk2
  refine lv_icmp_eq (tgt := 1520) (x := Int32.ofInt v) (y := Int32.ofInt v) hx hb d_L_322 (by decide) (fun _ => kt M2 H2 locs2 ls cells slots inv2 hC hP hl (by omega) (by omega)) (fun z => absurd rfl z)
set_option maxHeartbeats 1000000 in
theorem ll_many (C0 : LF p s m meth c b L xs E) (S0 : LSt s E H locs M n ls b o x4 ) (hin : ∀ j : Nat, j < 6 → vp_in (x4 + nI j) L) (hc : cells ≤ room_1.cells) (hs : slots ≤ room_1.slots) (kt : KTl p l e s m b below meth c Q E n cells slots o x4) : W p l e room_1 s m #[Value.ref b] below meth c H locs cells slots Q (F0 m 327 ls []) := by
  obtain ⟨⟨hx, hb, hr, hml, hown, hts, hX, hbl, hlocks, hgv⟩, hE, hbE⟩ := id C0
  obtain ⟨hC, inv, hn, hl, hP, hoA⟩ := S0
  have hbA : ¬ AA E b := fun z => by have := z.1; omega
  have htg : ∀ w ∈ lwg, w.before #[Value.ref b] s = true := fun w hw => hts w (List.mem_filter.mp hw).1
  have cc := CC_I (c_many inv hn (sv xs x4 1).toInt)
  refine lv_aload_n hx hb d_L_327 rfl (lv_at hl 1 rfl) ?_
  refine L_arg hx hb hX hbl hbA hC.1 (k := nI 1) (hin 1 (by decide)) hl d_L_328 d_L_329 d_L_331 d_L_332 d_L_333 (by decide) ?_
  refine L_callI (n := 187) (vs := [sv xs x4 1]) (t := 0) (rest := []) hx hb hml hown htg hE (by decide +kernel) (idx := 56) (List.mem_filter.mpr ⟨by decide +kernel, rfl⟩) rfl rfl (by decide) rfl (Nat.le_of_ble_eq_true rfl) (Nat.le_of_ble_eq_true rfl) hc hs hC cc d_L_334 hl.1 (by decide) rfl (fun r M1 H1 locs1 hp1 ok1 hC hz1 hk1 => ?_)
  obtain ⟨v, rfl, cc⟩ := hp1
  have hP := va_keep hP hoA hk1
  refine lv_aload_n hx hb d_L_337 rfl (lv_at hl 2 rfl) ?_
  refine L_arg hx hb hX hbl hbA hC.1 (k := nI 1) (hin 1 (by decide)) hl d_L_338 d_L_339 d_L_341 d_L_342 d_L_343 (by decide) ?_
  refine L_callI (n := 39) (vs := [sv xs x4 1]) (t := 0) (rest := [enc E (aI v)]) hx hb hml hown htg hE (by decide +kernel) (idx := 59) (List.mem_filter.mpr ⟨by decide +kernel, rfl⟩) rfl rfl (by decide) rfl (Nat.le_of_ble_eq_true rfl) (Nat.le_of_ble_eq_true rfl) hc hs hC cc d_L_344 hl.1 (Nat.le_of_ble_eq_true rfl) rfl (fun r M2 H2 locs2 hp2 ok2 hC hz2 hk2 => ?_)
  obtain ⟨rfl, inv2⟩ := hp2
  have hP := va_keep hP hoA hk2
  refine lv_icmp_eq (tgt := 1520) (x := Int32.ofInt v) (y := Int32.ofInt v) hx hb d_L_347 (by decide) (fun _ => kt M2 H2 locs2 ls cells slots inv2 hC hP hl (by omega) (by omega)) (fun z => absurd rfl z)
set_option maxHeartbeats 1000000 in
theorem ll_start (C0 : LF p s m meth c b L xs E) (S0 : LSt s E H locs M n ls b o x4 ) (hin : ∀ j : Nat, j < 6 → vp_in (x4 + nI j) L) (hc : cells ≤ room_1.cells) (hs : slots ≤ room_1.slots) (kt : KTl p l e s m b below meth c Q E n cells slots o x4) : W p l e room_1 s m #[Value.ref b] below meth c H locs cells slots Q (F0 m 431 ls []) := by
  obtain ⟨⟨hx, hb, hr, hml, hown, hts, hX, hbl, hlocks, hgv⟩, hE, hbE⟩ := id C0
  obtain ⟨hC, inv, hn, hl, hP, hoA⟩ := S0
  have hbA : ¬ AA E b := fun z => by have := z.1; omega
  have htg : ∀ w ∈ lwg, w.before #[Value.ref b] s = true := fun w hw => hts w (List.mem_filter.mp hw).1
  have cc := CC_I (c_start inv hn (sv xs x4 1).toInt)
  refine lv_aload_n hx hb d_L_431 rfl (lv_at hl 1 rfl) ?_
  refine L_arg hx hb hX hbl hbA hC.1 (k := nI 1) (hin 1 (by decide)) hl d_L_432 d_L_433 d_L_435 d_L_436 d_L_437 (by decide) ?_
  refine L_callI (n := 188) (vs := [sv xs x4 1]) (t := 0) (rest := []) hx hb hml hown htg hE (by decide +kernel) (idx := 70) (List.mem_filter.mpr ⟨by decide +kernel, rfl⟩) rfl rfl (by decide) rfl (Nat.le_of_ble_eq_true rfl) (Nat.le_of_ble_eq_true rfl) hc hs hC cc d_L_438 hl.1 (by decide) rfl (fun r M1 H1 locs1 hp1 ok1 hC hz1 hk1 => ?_)
  obtain ⟨v, rfl, cc⟩ := hp1
  have hP := va_keep hP hoA hk1
  refine lv_aload_n hx hb d_L_441 rfl (lv_at hl 2 rfl) ?_
  refine L_arg hx hb hX hbl hbA hC.1 (k := nI 1) (hin 1 (by decide)) hl d_L_442 d_L_443 d_L_445 d_L_446 d_L_447 (by decide) ?_
  refine L_callI (n := 99) (vs := [sv xs x4 1]) (t := 0) (rest := [enc E (aI v)]) hx hb hml hown htg hE (by decide +kernel) (idx := 73) (List.mem_filter.mpr ⟨by decide +kernel, rfl⟩) rfl rfl (by decide) rfl (Nat.le_of_ble_eq_true rfl) (Nat.le_of_ble_eq_true rfl) hc hs hC cc d_L_448 hl.1 (Nat.le_of_ble_eq_true rfl) rfl (fun r M2 H2 locs2 hp2 ok2 hC hz2 hk2 => ?_)
  obtain ⟨rfl, inv2⟩ := hp2
  have hP := va_keep hP hoA hk2
  refine lv_icmp_eq (tgt := 1520) (x := Int32.ofInt v) (y := Int32.ofInt v) hx hb d_L_451 (by decide) (fun _ => kt M2 H2 locs2 ls cells slots inv2 hC hP hl (by omega) (by omega)) (fun z => absurd rfl z)
set_option maxHeartbeats 1000000 in
theorem ll_activate (C0 : LF p s m meth c b L xs E) (S0 : LSt s E H locs M n ls b o x4 ) (hin : ∀ j : Nat, j < 6 → vp_in (x4 + nI j) L) (hc : cells ≤ room_1.cells) (hs : slots ≤ room_1.slots) (kt : KTl p l e s m b below meth c Q E n cells slots o x4) : W p l e room_1 s m #[Value.ref b] below meth c H locs cells slots Q (F0 m 456 ls []) := by
  obtain ⟨⟨hx, hb, hr, hml, hown, hts, hX, hbl, hlocks, hgv⟩, hE, hbE⟩ := id C0
  obtain ⟨hC, inv, hn, hl, hP, hoA⟩ := S0
  have hbA : ¬ AA E b := fun z => by have := z.1; omega
  have htg : ∀ w ∈ lwg, w.before #[Value.ref b] s = true := fun w hw => hts w (List.mem_filter.mp hw).1
  have cc := CC_I (c_activate inv hn (sv xs x4 1).toInt)
  refine lv_aload_n hx hb d_L_456 rfl (lv_at hl 1 rfl) ?_
  refine L_arg hx hb hX hbl hbA hC.1 (k := nI 1) (hin 1 (by decide)) hl d_L_457 d_L_458 d_L_460 d_L_461 d_L_462 (by decide) ?_
  refine L_callI (n := 204) (vs := [sv xs x4 1]) (t := 0) (rest := []) hx hb hml hown htg hE (by decide +kernel) (idx := 74) (List.mem_filter.mpr ⟨by decide +kernel, rfl⟩) rfl rfl (by decide) rfl (Nat.le_of_ble_eq_true rfl) (Nat.le_of_ble_eq_true rfl) hc hs hC cc d_L_463 hl.1 (by decide) rfl (fun r M1 H1 locs1 hp1 ok1 hC hz1 hk1 => ?_)
  obtain ⟨v, rfl, cc⟩ := hp1
  have hP := va_keep hP hoA hk1
  refine lv_aload_n hx hb d_L_466 rfl (lv_at hl 2 rfl) ?_
  refine L_arg hx hb hX hbl hbA hC.1 (k := nI 1) (hin 1 (by decide)) hl d_L_467 d_L_468 d_L_470 d_L_471 d_L_472 (by decide) ?_
  refine L_callI (n := 44) (vs := [sv xs x4 1]) (t := 0) (rest := [enc E (aI v)]) hx hb hml hown htg hE (by decide +kernel) (idx := 77) (List.mem_filter.mpr ⟨by decide +kernel, rfl⟩) rfl rfl (by decide) rfl (Nat.le_of_ble_eq_true rfl) (Nat.le_of_ble_eq_true rfl) hc hs hC cc d_L_473 hl.1 (Nat.le_of_ble_eq_true rfl) rfl (fun r M2 H2 locs2 hp2 ok2 hC hz2 hk2 => ?_)
  obtain ⟨rfl, inv2⟩ := hp2
  have hP := va_keep hP hoA hk2
  refine lv_icmp_eq (tgt := 1520) (x := Int32.ofInt v) (y := Int32.ofInt v) hx hb d_L_476 (by decide) (fun _ => kt M2 H2 locs2 ls cells slots inv2 hC hP hl (by omega) (by omega)) (fun z => absurd rfl z)
set_option maxHeartbeats 1000000 in
theorem ll_terminate (C0 : LF p s m meth c b L xs E) (S0 : LSt s E H locs M n ls b o x4 ) (hin : ∀ j : Nat, j < 6 → vp_in (x4 + nI j) L) (hc : cells ≤ room_1.cells) (hs : slots ≤ room_1.slots) (kt : KTl p l e s m b below meth c Q E n cells slots o x4) : W p l e room_1 s m #[Value.ref b] below meth c H locs cells slots Q (F0 m 481 ls []) := by
  obtain ⟨⟨hx, hb, hr, hml, hown, hts, hX, hbl, hlocks, hgv⟩, hE, hbE⟩ := id C0
  obtain ⟨hC, inv, hn, hl, hP, hoA⟩ := S0
  have hbA : ¬ AA E b := fun z => by have := z.1; omega
  have htg : ∀ w ∈ lwg, w.before #[Value.ref b] s = true := fun w hw => hts w (List.mem_filter.mp hw).1
  have cc := CC_I (c_terminate inv hn)
  refine lv_aload_n hx hb d_L_481 rfl (lv_at hl 1 rfl) ?_
  refine L_callI (n := 209) (vs := []) (t := 0) (rest := []) hx hb hml hown htg hE (by decide +kernel) (idx := 78) (List.mem_filter.mpr ⟨by decide +kernel, rfl⟩) rfl rfl (by decide) rfl (Nat.le_of_ble_eq_true rfl) (Nat.le_of_ble_eq_true rfl) hc hs hC cc d_L_482 hl.1 (by decide) rfl (fun r M1 H1 locs1 hp1 ok1 hC hz1 hk1 => ?_)
  obtain ⟨v, rfl, cc⟩ := hp1
  have hP := va_keep hP hoA hk1
  refine lv_aload_n hx hb d_L_485 rfl (lv_at hl 2 rfl) ?_
  refine L_callI (n := 66) (vs := []) (t := 0) (rest := [enc E (aI v)]) hx hb hml hown htg hE (by decide +kernel) (idx := 81) (List.mem_filter.mpr ⟨by decide +kernel, rfl⟩) rfl rfl (by decide) rfl (Nat.le_of_ble_eq_true rfl) (Nat.le_of_ble_eq_true rfl) hc hs hC cc d_L_486 hl.1 (Nat.le_of_ble_eq_true rfl) rfl (fun r M2 H2 locs2 hp2 ok2 hC hz2 hk2 => ?_)
  obtain ⟨rfl, inv2⟩ := hp2
  have hP := va_keep hP hoA hk2
  refine lv_icmp_eq (tgt := 1520) (x := Int32.ofInt v) (y := Int32.ofInt v) hx hb d_L_489 (by decide) (fun _ => kt M2 H2 locs2 ls cells slots inv2 hC hP hl (by omega) (by omega)) (fun z => absurd rfl z)
set_option maxHeartbeats 1000000 in
theorem ll_chain (C0 : LF p s m meth c b L xs E) (S0 : LSt s E H locs M n ls b o x4 ) (hin : ∀ j : Nat, j < 6 → vp_in (x4 + nI j) L) (hc : cells ≤ room_1.cells) (hs : slots ≤ room_1.slots) (kt : KTl p l e s m b below meth c Q E n cells slots o x4) : W p l e room_1 s m #[Value.ref b] below meth c H locs cells slots Q (F0 m 494 ls []) := by
  obtain ⟨⟨hx, hb, hr, hml, hown, hts, hX, hbl, hlocks, hgv⟩, hE, hbE⟩ := id C0
  obtain ⟨hC, inv, hn, hl, hP, hoA⟩ := S0
  have hbA : ¬ AA E b := fun z => by have := z.1; omega
  have htg : ∀ w ∈ lwg, w.before #[Value.ref b] s = true := fun w hw => hts w (List.mem_filter.mp hw).1
  have cc := CC_I (c_chain inv hn (sv xs x4 1).toInt)
  refine lv_aload_n hx hb d_L_494 rfl (lv_at hl 1 rfl) ?_
  refine L_arg hx hb hX hbl hbA hC.1 (k := nI 1) (hin 1 (by decide)) hl d_L_495 d_L_496 d_L_498 d_L_499 d_L_500 (by decide) ?_
  refine L_callI (n := 215) (vs := [sv xs x4 1]) (t := 0) (rest := []) hx hb hml hown htg hE (by decide +kernel) (idx := 82) (List.mem_filter.mpr ⟨by decide +kernel, rfl⟩) rfl rfl (by decide) rfl (Nat.le_of_ble_eq_true rfl) (Nat.le_of_ble_eq_true rfl) hc hs hC cc d_L_501 hl.1 (by decide) rfl (fun r M1 H1 locs1 hp1 ok1 hC hz1 hk1 => ?_)
  obtain ⟨v, rfl, cc⟩ := hp1
  have hP := va_keep hP hoA hk1
  refine lv_aload_n hx hb d_L_504 rfl (lv_at hl 2 rfl) ?_
  refine L_arg hx hb hX hbl hbA hC.1 (k := nI 1) (hin 1 (by decide)) hl d_L_505 d_L_506 d_L_508 d_L_509 d_L_510 (by decide) ?_
  refine L_callI (n := 70) (vs := [sv xs x4 1]) (t := 0) (rest := [enc E (aI v)]) hx hb hml hown htg hE (by decide +kernel) (idx := 85) (List.mem_filter.mpr ⟨by decide +kernel, rfl⟩) rfl rfl (by decide) rfl (Nat.le_of_ble_eq_true rfl) (Nat.le_of_ble_eq_true rfl) hc hs hC cc d_L_511 hl.1 (Nat.le_of_ble_eq_true rfl) rfl (fun r M2 H2 locs2 hp2 ok2 hC hz2 hk2 => ?_)
  obtain ⟨rfl, inv2⟩ := hp2
  have hP := va_keep hP hoA hk2
  refine lv_icmp_eq (tgt := 1520) (x := Int32.ofInt v) (y := Int32.ofInt v) hx hb d_L_514 (by decide) (fun _ => kt M2 H2 locs2 ls cells slots inv2 hC hP hl (by omega) (by omega)) (fun z => absurd rfl z)
set_option maxHeartbeats 1000000 in
theorem ll_schedule (C0 : LF p s m meth c b L xs E) (S0 : LSt s E H locs M n ls b o x4 ) (hin : ∀ j : Nat, j < 6 → vp_in (x4 + nI j) L) (hc : cells ≤ room_1.cells) (hs : slots ≤ room_1.slots) (kt : KTl p l e s m b below meth c Q E n cells slots o x4) : W p l e room_1 s m #[Value.ref b] below meth c H locs cells slots Q (F0 m 519 ls []) := by
  obtain ⟨⟨hx, hb, hr, hml, hown, hts, hX, hbl, hlocks, hgv⟩, hE, hbE⟩ := id C0
  obtain ⟨hC, inv, hn, hl, hP, hoA⟩ := S0
  have hbA : ¬ AA E b := fun z => by have := z.1; omega
  have htg : ∀ w ∈ lwg, w.before #[Value.ref b] s = true := fun w hw => hts w (List.mem_filter.mp hw).1
  have cc := CC_I (c_schedule inv hn)
  refine lv_aload_n hx hb d_L_519 rfl (lv_at hl 1 rfl) ?_
  refine L_callI (n := 217) (vs := []) (t := 0) (rest := []) hx hb hml hown htg hE (by decide +kernel) (idx := 86) (List.mem_filter.mpr ⟨by decide +kernel, rfl⟩) rfl rfl (by decide) rfl (Nat.le_of_ble_eq_true rfl) (Nat.le_of_ble_eq_true rfl) hc hs hC cc d_L_520 hl.1 (by decide) rfl (fun r M1 H1 locs1 hp1 ok1 hC hz1 hk1 => ?_)
  obtain ⟨v, rfl, cc⟩ := hp1
  have hP := va_keep hP hoA hk1
  refine lv_aload_n hx hb d_L_523 rfl (lv_at hl 2 rfl) ?_
  refine L_callI (n := 71) (vs := []) (t := 0) (rest := [enc E (aI v)]) hx hb hml hown htg hE (by decide +kernel) (idx := 89) (List.mem_filter.mpr ⟨by decide +kernel, rfl⟩) rfl rfl (by decide) rfl (Nat.le_of_ble_eq_true rfl) (Nat.le_of_ble_eq_true rfl) hc hs hC cc d_L_524 hl.1 (Nat.le_of_ble_eq_true rfl) rfl (fun r M2 H2 locs2 hp2 ok2 hC hz2 hk2 => ?_)
  obtain ⟨rfl, inv2⟩ := hp2
  have hP := va_keep hP hoA hk2
  refine lv_icmp_eq (tgt := 1520) (x := Int32.ofInt v) (y := Int32.ofInt v) hx hb d_L_527 (by decide) (fun _ => kt M2 H2 locs2 ls cells slots inv2 hC hP hl (by omega) (by omega)) (fun z => absurd rfl z)
set_option maxHeartbeats 1000000 in
theorem ll_take (C0 : LF p s m meth c b L xs E) (S0 : LSt s E H locs M n ls b o x4 ) (hin : ∀ j : Nat, j < 6 → vp_in (x4 + nI j) L) (hc : cells ≤ room_1.cells) (hs : slots ≤ room_1.slots) (kt : KTl p l e s m b below meth c Q E n cells slots o x4) : W p l e room_1 s m #[Value.ref b] below meth c H locs cells slots Q (F0 m 532 ls []) := by
  obtain ⟨⟨hx, hb, hr, hml, hown, hts, hX, hbl, hlocks, hgv⟩, hE, hbE⟩ := id C0
  obtain ⟨hC, inv, hn, hl, hP, hoA⟩ := S0
  have hbA : ¬ AA E b := fun z => by have := z.1; omega
  have htg : ∀ w ∈ lwg, w.before #[Value.ref b] s = true := fun w hw => hts w (List.mem_filter.mp hw).1
  have cc := CC_I (c_take inv hn (sv xs x4 1).toInt)
  refine lv_aload_n hx hb d_L_532 rfl (lv_at hl 1 rfl) ?_
  refine L_arg hx hb hX hbl hbA hC.1 (k := nI 1) (hin 1 (by decide)) hl d_L_533 d_L_534 d_L_536 d_L_537 d_L_538 (by decide) ?_
  refine L_callI (n := 220) (vs := [sv xs x4 1]) (t := 0) (rest := []) hx hb hml hown htg hE (by decide +kernel) (idx := 90) (List.mem_filter.mpr ⟨by decide +kernel, rfl⟩) rfl rfl (by decide) rfl (Nat.le_of_ble_eq_true rfl) (Nat.le_of_ble_eq_true rfl) hc hs hC cc d_L_539 hl.1 (by decide) rfl (fun r M1 H1 locs1 hp1 ok1 hC hz1 hk1 => ?_)
  obtain ⟨v, rfl, cc⟩ := hp1
  have hP := va_keep hP hoA hk1
  refine lv_aload_n hx hb d_L_542 rfl (lv_at hl 2 rfl) ?_
  refine L_arg hx hb hX hbl hbA hC.1 (k := nI 1) (hin 1 (by decide)) hl d_L_543 d_L_544 d_L_546 d_L_547 d_L_548 (by decide) ?_
  refine L_callI (n := 72) (vs := [sv xs x4 1]) (t := 0) (rest := [enc E (aI v)]) hx hb hml hown htg hE (by decide +kernel) (idx := 93) (List.mem_filter.mpr ⟨by decide +kernel, rfl⟩) rfl rfl (by decide) rfl (Nat.le_of_ble_eq_true rfl) (Nat.le_of_ble_eq_true rfl) hc hs hC cc d_L_549 hl.1 (Nat.le_of_ble_eq_true rfl) rfl (fun r M2 H2 locs2 hp2 ok2 hC hz2 hk2 => ?_)
  obtain ⟨rfl, inv2⟩ := hp2
  have hP := va_keep hP hoA hk2
  refine lv_icmp_eq (tgt := 1520) (x := Int32.ofInt v) (y := Int32.ofInt v) hx hb d_L_552 (by decide) (fun _ => kt M2 H2 locs2 ls cells slots inv2 hC hP hl (by omega) (by omega)) (fun z => absurd rfl z)
set_option maxHeartbeats 1000000 in
theorem ll_give (C0 : LF p s m meth c b L xs E) (S0 : LSt s E H locs M n ls b o x4 ) (hin : ∀ j : Nat, j < 6 → vp_in (x4 + nI j) L) (hc : cells ≤ room_1.cells) (hs : slots ≤ room_1.slots) (kt : KTl p l e s m b below meth c Q E n cells slots o x4) : W p l e room_1 s m #[Value.ref b] below meth c H locs cells slots Q (F0 m 557 ls []) := by
  obtain ⟨⟨hx, hb, hr, hml, hown, hts, hX, hbl, hlocks, hgv⟩, hE, hbE⟩ := id C0
  obtain ⟨hC, inv, hn, hl, hP, hoA⟩ := S0
  have hbA : ¬ AA E b := fun z => by have := z.1; omega
  have htg : ∀ w ∈ lwg, w.before #[Value.ref b] s = true := fun w hw => hts w (List.mem_filter.mp hw).1
  have cc := CC_I (c_give inv hn (sv xs x4 1).toInt)
  refine lv_aload_n hx hb d_L_557 rfl (lv_at hl 1 rfl) ?_
  refine L_arg hx hb hX hbl hbA hC.1 (k := nI 1) (hin 1 (by decide)) hl d_L_558 d_L_559 d_L_561 d_L_562 d_L_563 (by decide) ?_
  refine L_callI (n := 225) (vs := [sv xs x4 1]) (t := 0) (rest := []) hx hb hml hown htg hE (by decide +kernel) (idx := 94) (List.mem_filter.mpr ⟨by decide +kernel, rfl⟩) rfl rfl (by decide) rfl (Nat.le_of_ble_eq_true rfl) (Nat.le_of_ble_eq_true rfl) hc hs hC cc d_L_564 hl.1 (by decide) rfl (fun r M1 H1 locs1 hp1 ok1 hC hz1 hk1 => ?_)
  obtain ⟨v, rfl, cc⟩ := hp1
  have hP := va_keep hP hoA hk1
  refine lv_aload_n hx hb d_L_567 rfl (lv_at hl 2 rfl) ?_
  refine L_arg hx hb hX hbl hbA hC.1 (k := nI 1) (hin 1 (by decide)) hl d_L_568 d_L_569 d_L_571 d_L_572 d_L_573 (by decide) ?_
  refine L_callI (n := 74) (vs := [sv xs x4 1]) (t := 0) (rest := [enc E (aI v)]) hx hb hml hown htg hE (by decide +kernel) (idx := 97) (List.mem_filter.mpr ⟨by decide +kernel, rfl⟩) rfl rfl (by decide) rfl (Nat.le_of_ble_eq_true rfl) (Nat.le_of_ble_eq_true rfl) hc hs hC cc d_L_574 hl.1 (Nat.le_of_ble_eq_true rfl) rfl (fun r M2 H2 locs2 hp2 ok2 hC hz2 hk2 => ?_)
  obtain ⟨rfl, inv2⟩ := hp2
  have hP := va_keep hP hoA hk2
  refine lv_icmp_eq (tgt := 1520) (x := Int32.ofInt v) (y := Int32.ofInt v) hx hb d_L_577 (by decide) (fun _ => kt M2 H2 locs2 ls cells slots inv2 hC hP hl (by omega) (by omega)) (fun z => absurd rfl z)
set_option maxHeartbeats 1000000 in
theorem ll_signal (C0 : LF p s m meth c b L xs E) (S0 : LSt s E H locs M n ls b o x4 ) (hin : ∀ j : Nat, j < 6 → vp_in (x4 + nI j) L) (hc : cells ≤ room_1.cells) (hs : slots ≤ room_1.slots) (kt : KTl p l e s m b below meth c Q E n cells slots o x4) : W p l e room_1 s m #[Value.ref b] below meth c H locs cells slots Q (F0 m 582 ls []) := by
  obtain ⟨⟨hx, hb, hr, hml, hown, hts, hX, hbl, hlocks, hgv⟩, hE, hbE⟩ := id C0
  obtain ⟨hC, inv, hn, hl, hP, hoA⟩ := S0
  have hbA : ¬ AA E b := fun z => by have := z.1; omega
  have htg : ∀ w ∈ lwg, w.before #[Value.ref b] s = true := fun w hw => hts w (List.mem_filter.mp hw).1
  have cc := CC_I (c_signal inv hn (sv xs x4 1).toInt (sv xs x4 2).toInt)
  refine lv_aload_n hx hb d_L_582 rfl (lv_at hl 1 rfl) ?_
  refine L_arg hx hb hX hbl hbA hC.1 (k := nI 1) (hin 1 (by decide)) hl d_L_583 d_L_584 d_L_586 d_L_587 d_L_588 (by decide) ?_
  refine L_arg hx hb hX hbl hbA hC.1 (k := nI 2) (hin 2 (by decide)) hl d_L_589 d_L_590 d_L_592 d_L_593 d_L_594 (by decide) ?_
  refine L_callI (n := 228) (vs := [sv xs x4 1, sv xs x4 2]) (t := 0) (rest := []) hx hb hml hown htg hE (by decide +kernel) (idx := 98) (List.mem_filter.mpr ⟨by decide +kernel, rfl⟩) rfl rfl (by decide) rfl (Nat.le_of_ble_eq_true rfl) (Nat.le_of_ble_eq_true rfl) hc hs hC cc d_L_595 hl.1 (by decide) rfl (fun r M1 H1 locs1 hp1 ok1 hC hz1 hk1 => ?_)
  obtain ⟨v, rfl, cc⟩ := hp1
  have hP := va_keep hP hoA hk1
  refine lv_aload_n hx hb d_L_598 rfl (lv_at hl 2 rfl) ?_
  refine L_arg hx hb hX hbl hbA hC.1 (k := nI 1) (hin 1 (by decide)) hl d_L_599 d_L_600 d_L_602 d_L_603 d_L_604 (by decide) ?_
  refine L_arg hx hb hX hbl hbA hC.1 (k := nI 2) (hin 2 (by decide)) hl d_L_605 d_L_606 d_L_608 d_L_609 d_L_610 (by decide) ?_
  refine L_callI (n := 76) (vs := [sv xs x4 1, sv xs x4 2]) (t := 0) (rest := [enc E (aI v)]) hx hb hml hown htg hE (by decide +kernel) (idx := 101) (List.mem_filter.mpr ⟨by decide +kernel, rfl⟩) rfl rfl (by decide) rfl (Nat.le_of_ble_eq_true rfl) (Nat.le_of_ble_eq_true rfl) hc hs hC cc d_L_611 hl.1 (Nat.le_of_ble_eq_true rfl) rfl (fun r M2 H2 locs2 hp2 ok2 hC hz2 hk2 => ?_)
  obtain ⟨rfl, inv2⟩ := hp2
  have hP := va_keep hP hoA hk2
  refine lv_icmp_eq (tgt := 1520) (x := Int32.ofInt v) (y := Int32.ofInt v) hx hb d_L_614 (by decide) (fun _ => kt M2 H2 locs2 ls cells slots inv2 hC hP hl (by omega) (by omega)) (fun z => absurd rfl z)
set_option maxHeartbeats 1000000 in
theorem ll_clear (C0 : LF p s m meth c b L xs E) (S0 : LSt s E H locs M n ls b o x4 ) (hin : ∀ j : Nat, j < 6 → vp_in (x4 + nI j) L) (hc : cells ≤ room_1.cells) (hs : slots ≤ room_1.slots) (kt : KTl p l e s m b below meth c Q E n cells slots o x4) : W p l e room_1 s m #[Value.ref b] below meth c H locs cells slots Q (F0 m 619 ls []) := by
  obtain ⟨⟨hx, hb, hr, hml, hown, hts, hX, hbl, hlocks, hgv⟩, hE, hbE⟩ := id C0
  obtain ⟨hC, inv, hn, hl, hP, hoA⟩ := S0
  have hbA : ¬ AA E b := fun z => by have := z.1; omega
  have htg : ∀ w ∈ lwg, w.before #[Value.ref b] s = true := fun w hw => hts w (List.mem_filter.mp hw).1
  have cc := CC_I (c_clear inv hn (sv xs x4 1).toInt)
  refine lv_aload_n hx hb d_L_619 rfl (lv_at hl 1 rfl) ?_
  refine L_arg hx hb hX hbl hbA hC.1 (k := nI 1) (hin 1 (by decide)) hl d_L_620 d_L_621 d_L_623 d_L_624 d_L_625 (by decide) ?_
  refine L_callI (n := 232) (vs := [sv xs x4 1]) (t := 0) (rest := []) hx hb hml hown htg hE (by decide +kernel) (idx := 102) (List.mem_filter.mpr ⟨by decide +kernel, rfl⟩) rfl rfl (by decide) rfl (Nat.le_of_ble_eq_true rfl) (Nat.le_of_ble_eq_true rfl) hc hs hC cc d_L_626 hl.1 (by decide) rfl (fun r M1 H1 locs1 hp1 ok1 hC hz1 hk1 => ?_)
  obtain ⟨v, rfl, cc⟩ := hp1
  have hP := va_keep hP hoA hk1
  refine lv_aload_n hx hb d_L_629 rfl (lv_at hl 2 rfl) ?_
  refine L_arg hx hb hX hbl hbA hC.1 (k := nI 1) (hin 1 (by decide)) hl d_L_630 d_L_631 d_L_633 d_L_634 d_L_635 (by decide) ?_
  refine L_callI (n := 79) (vs := [sv xs x4 1]) (t := 0) (rest := [enc E (aI v)]) hx hb hml hown htg hE (by decide +kernel) (idx := 105) (List.mem_filter.mpr ⟨by decide +kernel, rfl⟩) rfl rfl (by decide) rfl (Nat.le_of_ble_eq_true rfl) (Nat.le_of_ble_eq_true rfl) hc hs hC cc d_L_636 hl.1 (Nat.le_of_ble_eq_true rfl) rfl (fun r M2 H2 locs2 hp2 ok2 hC hz2 hk2 => ?_)
  obtain ⟨rfl, inv2⟩ := hp2
  have hP := va_keep hP hoA hk2
  refine lv_icmp_eq (tgt := 1520) (x := Int32.ofInt v) (y := Int32.ofInt v) hx hb d_L_639 (by decide) (fun _ => kt M2 H2 locs2 ls cells slots inv2 hC hP hl (by omega) (by omega)) (fun z => absurd rfl z)
set_option maxHeartbeats 1000000 in
theorem ll_await (C0 : LF p s m meth c b L xs E) (S0 : LSt s E H locs M n ls b o x4 ) (hin : ∀ j : Nat, j < 6 → vp_in (x4 + nI j) L) (hc : cells ≤ room_1.cells) (hs : slots ≤ room_1.slots) (kt : KTl p l e s m b below meth c Q E n cells slots o x4) : W p l e room_1 s m #[Value.ref b] below meth c H locs cells slots Q (F0 m 644 ls []) := by
  obtain ⟨⟨hx, hb, hr, hml, hown, hts, hX, hbl, hlocks, hgv⟩, hE, hbE⟩ := id C0
  obtain ⟨hC, inv, hn, hl, hP, hoA⟩ := S0
  have hbA : ¬ AA E b := fun z => by have := z.1; omega
  have htg : ∀ w ∈ lwg, w.before #[Value.ref b] s = true := fun w hw => hts w (List.mem_filter.mp hw).1
  have cc := CC_I (c_await inv hn (sv xs x4 1).toInt)
  refine lv_aload_n hx hb d_L_644 rfl (lv_at hl 1 rfl) ?_
  refine L_arg hx hb hX hbl hbA hC.1 (k := nI 1) (hin 1 (by decide)) hl d_L_645 d_L_646 d_L_648 d_L_649 d_L_650 (by decide) ?_
  refine L_callI (n := 235) (vs := [sv xs x4 1]) (t := 0) (rest := []) hx hb hml hown htg hE (by decide +kernel) (idx := 106) (List.mem_filter.mpr ⟨by decide +kernel, rfl⟩) rfl rfl (by decide) rfl (Nat.le_of_ble_eq_true rfl) (Nat.le_of_ble_eq_true rfl) hc hs hC cc d_L_651 hl.1 (by decide) rfl (fun r M1 H1 locs1 hp1 ok1 hC hz1 hk1 => ?_)
  obtain ⟨v, rfl, cc⟩ := hp1
  have hP := va_keep hP hoA hk1
  refine lv_aload_n hx hb d_L_654 rfl (lv_at hl 2 rfl) ?_
  refine L_arg hx hb hX hbl hbA hC.1 (k := nI 1) (hin 1 (by decide)) hl d_L_655 d_L_656 d_L_658 d_L_659 d_L_660 (by decide) ?_
  refine L_callI (n := 80) (vs := [sv xs x4 1]) (t := 0) (rest := [enc E (aI v)]) hx hb hml hown htg hE (by decide +kernel) (idx := 109) (List.mem_filter.mpr ⟨by decide +kernel, rfl⟩) rfl rfl (by decide) rfl (Nat.le_of_ble_eq_true rfl) (Nat.le_of_ble_eq_true rfl) hc hs hC cc d_L_661 hl.1 (Nat.le_of_ble_eq_true rfl) rfl (fun r M2 H2 locs2 hp2 ok2 hC hz2 hk2 => ?_)
  obtain ⟨rfl, inv2⟩ := hp2
  have hP := va_keep hP hoA hk2
  refine lv_icmp_eq (tgt := 1520) (x := Int32.ofInt v) (y := Int32.ofInt v) hx hb d_L_664 (by decide) (fun _ => kt M2 H2 locs2 ls cells slots inv2 hC hP hl (by omega) (by omega)) (fun z => absurd rfl z)
set_option maxHeartbeats 1000000 in
theorem ll_given (C0 : LF p s m meth c b L xs E) (S0 : LSt s E H locs M n ls b o x4 ) (hin : ∀ j : Nat, j < 6 → vp_in (x4 + nI j) L) (hc : cells ≤ room_1.cells) (hs : slots ≤ room_1.slots) (kt : KTl p l e s m b below meth c Q E n cells slots o x4) : W p l e room_1 s m #[Value.ref b] below meth c H locs cells slots Q (F0 m 669 ls []) := by
  obtain ⟨⟨hx, hb, hr, hml, hown, hts, hX, hbl, hlocks, hgv⟩, hE, hbE⟩ := id C0
  obtain ⟨hC, inv, hn, hl, hP, hoA⟩ := S0
  have hbA : ¬ AA E b := fun z => by have := z.1; omega
  have htg : ∀ w ∈ lwg, w.before #[Value.ref b] s = true := fun w hw => hts w (List.mem_filter.mp hw).1
  have cc := CC_L (c_given inv hn (sv xs x4 1).toInt)
  refine lv_aload_n hx hb d_L_669 rfl (lv_at hl 1 rfl) ?_
  refine L_arg hx hb hX hbl hbA hC.1 (k := nI 1) (hin 1 (by decide)) hl d_L_670 d_L_671 d_L_673 d_L_674 d_L_675 (by decide) ?_
  refine L_callI (n := 238) (vs := [sv xs x4 1]) (t := 0) (rest := []) hx hb hml hown htg hE (by decide +kernel) (idx := 110) (List.mem_filter.mpr ⟨by decide +kernel, rfl⟩) rfl rfl (by decide) rfl (Nat.le_of_ble_eq_true rfl) (Nat.le_of_ble_eq_true rfl) hc hs hC cc d_L_676 hl.1 (by decide) rfl (fun r M1 H1 locs1 hp1 ok1 hC hz1 hk1 => ?_)
  obtain ⟨v, rfl, cc⟩ := hp1
  have hP := va_keep hP hoA hk1
  refine lv_aload_n hx hb d_L_679 rfl (lv_at hl 2 rfl) ?_
  refine L_arg hx hb hX hbl hbA hC.1 (k := nI 1) (hin 1 (by decide)) hl d_L_680 d_L_681 d_L_683 d_L_684 d_L_685 (by decide) ?_
  refine L_callI (n := 81) (vs := [sv xs x4 1]) (t := 0) (rest := [enc E (aL v)]) hx hb hml hown htg hE (by decide +kernel) (idx := 114) (List.mem_filter.mpr ⟨by decide +kernel, rfl⟩) rfl rfl (by decide) rfl (Nat.le_of_ble_eq_true rfl) (Nat.le_of_ble_eq_true rfl) hc hs hC cc d_L_686 hl.1 (Nat.le_of_ble_eq_true rfl) rfl (fun r M2 H2 locs2 hp2 ok2 hC hz2 hk2 => ?_)
  obtain ⟨rfl, inv2⟩ := hp2
  have hP := va_keep hP hoA hk2
  refine W.lcmp hx hb d_L_689 ?_
  refine lv_if_eq (tgt := 1520) hx hb d_L_690 (by decide) (fun _ => kt M2 H2 locs2 ls cells slots inv2 hC hP hl (by omega) (by omega)) (fun z => absurd (lcmp_self _) z)
set_option maxHeartbeats 1000000 in
theorem ll_after (C0 : LF p s m meth c b L xs E) (S0 : LSt s E H locs M n ls b o x4 ) (hin : ∀ j : Nat, j < 6 → vp_in (x4 + nI j) L) (hc : cells ≤ room_1.cells) (hs : slots ≤ room_1.slots) (kt : KTl p l e s m b below meth c Q E n cells slots o x4) : W p l e room_1 s m #[Value.ref b] below meth c H locs cells slots Q (F0 m 695 ls []) := by
  obtain ⟨⟨hx, hb, hr, hml, hown, hts, hX, hbl, hlocks, hgv⟩, hE, hbE⟩ := id C0
  obtain ⟨hC, inv, hn, hl, hP, hoA⟩ := S0
  have hbA : ¬ AA E b := fun z => by have := z.1; omega
  have htg : ∀ w ∈ lwg, w.before #[Value.ref b] s = true := fun w hw => hts w (List.mem_filter.mp hw).1
  have cc := CC_I (c_after inv hn (sv xs x4 1).toInt (sv xs x4 2).toInt (sv xs x4 3).toInt)
  refine lv_aload_n hx hb d_L_695 rfl (lv_at hl 1 rfl) ?_
  refine L_arg hx hb hX hbl hbA hC.1 (k := nI 1) (hin 1 (by decide)) hl d_L_696 d_L_697 d_L_699 d_L_700 d_L_701 (by decide) ?_
  refine L_arg hx hb hX hbl hbA hC.1 (k := nI 2) (hin 2 (by decide)) hl d_L_702 d_L_703 d_L_705 d_L_706 d_L_707 (by decide) ?_
  refine L_arg hx hb hX hbl hbA hC.1 (k := nI 3) (hin 3 (by decide)) hl d_L_708 d_L_709 d_L_711 d_L_712 d_L_713 (by decide) ?_
  refine L_callI (n := 240) (vs := [sv xs x4 1, sv xs x4 2, sv xs x4 3]) (t := 0) (rest := []) hx hb hml hown htg hE (by decide +kernel) (idx := 115) (List.mem_filter.mpr ⟨by decide +kernel, rfl⟩) rfl rfl (by decide) rfl (Nat.le_of_ble_eq_true rfl) (Nat.le_of_ble_eq_true rfl) hc hs hC cc d_L_714 hl.1 (by decide) rfl (fun r M1 H1 locs1 hp1 ok1 hC hz1 hk1 => ?_)
  obtain ⟨v, rfl, cc⟩ := hp1
  have hP := va_keep hP hoA hk1
  refine lv_aload_n hx hb d_L_717 rfl (lv_at hl 2 rfl) ?_
  refine L_arg hx hb hX hbl hbA hC.1 (k := nI 1) (hin 1 (by decide)) hl d_L_718 d_L_719 d_L_721 d_L_722 d_L_723 (by decide) ?_
  refine L_arg hx hb hX hbl hbA hC.1 (k := nI 2) (hin 2 (by decide)) hl d_L_724 d_L_725 d_L_727 d_L_728 d_L_729 (by decide) ?_
  refine L_arg hx hb hX hbl hbA hC.1 (k := nI 3) (hin 3 (by decide)) hl d_L_730 d_L_731 d_L_733 d_L_734 d_L_735 (by decide) ?_
  refine L_callI (n := 82) (vs := [sv xs x4 1, sv xs x4 2, sv xs x4 3]) (t := 0) (rest := [enc E (aI v)]) hx hb hml hown htg hE (by decide +kernel) (idx := 119) (List.mem_filter.mpr ⟨by decide +kernel, rfl⟩) rfl rfl (by decide) rfl (Nat.le_of_ble_eq_true rfl) (Nat.le_of_ble_eq_true rfl) hc hs hC cc d_L_736 hl.1 (Nat.le_of_ble_eq_true rfl) rfl (fun r M2 H2 locs2 hp2 ok2 hC hz2 hk2 => ?_)
  obtain ⟨rfl, inv2⟩ := hp2
  have hP := va_keep hP hoA hk2
  refine lv_icmp_eq (tgt := 1520) (x := Int32.ofInt v) (y := Int32.ofInt v) hx hb d_L_739 (by decide) (fun _ => kt M2 H2 locs2 ls cells slots inv2 hC hP hl (by omega) (by omega)) (fun z => absurd rfl z)
set_option maxHeartbeats 1000000 in
theorem ll_at (C0 : LF p s m meth c b L xs E) (S0 : LSt s E H locs M n ls b o x4 ) (hin : ∀ j : Nat, j < 6 → vp_in (x4 + nI j) L) (hc : cells ≤ room_1.cells) (hs : slots ≤ room_1.slots) (kt : KTl p l e s m b below meth c Q E n cells slots o x4) : W p l e room_1 s m #[Value.ref b] below meth c H locs cells slots Q (F0 m 744 ls []) := by
  obtain ⟨⟨hx, hb, hr, hml, hown, hts, hX, hbl, hlocks, hgv⟩, hE, hbE⟩ := id C0
  obtain ⟨hC, inv, hn, hl, hP, hoA⟩ := S0
  have hbA : ¬ AA E b := fun z => by have := z.1; omega
  have htg : ∀ w ∈ lwg, w.before #[Value.ref b] s = true := fun w hw => hts w (List.mem_filter.mp hw).1
  have cc := CC_I (c_at inv hn (sv xs x4 1).toInt (sv xs x4 2).toInt (sv xs x4 3).toInt)
  refine lv_aload_n hx hb d_L_744 rfl (lv_at hl 1 rfl) ?_
  refine L_arg hx hb hX hbl hbA hC.1 (k := nI 1) (hin 1 (by decide)) hl d_L_745 d_L_746 d_L_748 d_L_749 d_L_750 (by decide) ?_
  refine L_arg hx hb hX hbl hbA hC.1 (k := nI 2) (hin 2 (by decide)) hl d_L_751 d_L_752 d_L_754 d_L_755 d_L_756 (by decide) ?_
  refine L_arg hx hb hX hbl hbA hC.1 (k := nI 3) (hin 3 (by decide)) hl d_L_757 d_L_758 d_L_760 d_L_761 d_L_762 (by decide) ?_
  refine L_callI (n := 244) (vs := [sv xs x4 1, sv xs x4 2, sv xs x4 3]) (t := 0) (rest := []) hx hb hml hown htg hE (by decide +kernel) (idx := 120) (List.mem_filter.mpr ⟨by decide +kernel, rfl⟩) rfl rfl (by decide) rfl (Nat.le_of_ble_eq_true rfl) (Nat.le_of_ble_eq_true rfl) hc hs hC cc d_L_763 hl.1 (by decide) rfl (fun r M1 H1 locs1 hp1 ok1 hC hz1 hk1 => ?_)
  obtain ⟨v, rfl, cc⟩ := hp1
  have hP := va_keep hP hoA hk1
  refine lv_aload_n hx hb d_L_766 rfl (lv_at hl 2 rfl) ?_
  refine L_arg hx hb hX hbl hbA hC.1 (k := nI 1) (hin 1 (by decide)) hl d_L_767 d_L_768 d_L_770 d_L_771 d_L_772 (by decide) ?_
  refine L_arg hx hb hX hbl hbA hC.1 (k := nI 2) (hin 2 (by decide)) hl d_L_773 d_L_774 d_L_776 d_L_777 d_L_778 (by decide) ?_
  refine L_arg hx hb hX hbl hbA hC.1 (k := nI 3) (hin 3 (by decide)) hl d_L_779 d_L_780 d_L_782 d_L_783 d_L_784 (by decide) ?_
  refine L_callI (n := 87) (vs := [sv xs x4 1, sv xs x4 2, sv xs x4 3]) (t := 0) (rest := [enc E (aI v)]) hx hb hml hown htg hE (by decide +kernel) (idx := 123) (List.mem_filter.mpr ⟨by decide +kernel, rfl⟩) rfl rfl (by decide) rfl (Nat.le_of_ble_eq_true rfl) (Nat.le_of_ble_eq_true rfl) hc hs hC cc d_L_785 hl.1 (Nat.le_of_ble_eq_true rfl) rfl (fun r M2 H2 locs2 hp2 ok2 hC hz2 hk2 => ?_)
  obtain ⟨rfl, inv2⟩ := hp2
  have hP := va_keep hP hoA hk2
  refine lv_icmp_eq (tgt := 1520) (x := Int32.ofInt v) (y := Int32.ofInt v) hx hb d_L_788 (by decide) (fun _ => kt M2 H2 locs2 ls cells slots inv2 hC hP hl (by omega) (by omega)) (fun z => absurd rfl z)
set_option maxHeartbeats 1000000 in
theorem ll_cancel (C0 : LF p s m meth c b L xs E) (S0 : LSt s E H locs M n ls b o x4 ) (hin : ∀ j : Nat, j < 6 → vp_in (x4 + nI j) L) (hc : cells ≤ room_1.cells) (hs : slots ≤ room_1.slots) (kt : KTl p l e s m b below meth c Q E n cells slots o x4) : W p l e room_1 s m #[Value.ref b] below meth c H locs cells slots Q (F0 m 793 ls []) := by
  obtain ⟨⟨hx, hb, hr, hml, hown, hts, hX, hbl, hlocks, hgv⟩, hE, hbE⟩ := id C0
  obtain ⟨hC, inv, hn, hl, hP, hoA⟩ := S0
  have hbA : ¬ AA E b := fun z => by have := z.1; omega
  have htg : ∀ w ∈ lwg, w.before #[Value.ref b] s = true := fun w hw => hts w (List.mem_filter.mp hw).1
  have cc := CC_I (c_cancel inv hn (sv xs x4 1).toInt)
  refine lv_aload_n hx hb d_L_793 rfl (lv_at hl 1 rfl) ?_
  refine L_arg hx hb hX hbl hbA hC.1 (k := nI 1) (hin 1 (by decide)) hl d_L_794 d_L_795 d_L_797 d_L_798 d_L_799 (by decide) ?_
  refine L_callI (n := 246) (vs := [sv xs x4 1]) (t := 0) (rest := []) hx hb hml hown htg hE (by decide +kernel) (idx := 124) (List.mem_filter.mpr ⟨by decide +kernel, rfl⟩) rfl rfl (by decide) rfl (Nat.le_of_ble_eq_true rfl) (Nat.le_of_ble_eq_true rfl) hc hs hC cc d_L_800 hl.1 (by decide) rfl (fun r M1 H1 locs1 hp1 ok1 hC hz1 hk1 => ?_)
  obtain ⟨v, rfl, cc⟩ := hp1
  have hP := va_keep hP hoA hk1
  refine lv_aload_n hx hb d_L_803 rfl (lv_at hl 2 rfl) ?_
  refine L_arg hx hb hX hbl hbA hC.1 (k := nI 1) (hin 1 (by decide)) hl d_L_804 d_L_805 d_L_807 d_L_808 d_L_809 (by decide) ?_
  refine L_callI (n := 88) (vs := [sv xs x4 1]) (t := 0) (rest := [enc E (aI v)]) hx hb hml hown htg hE (by decide +kernel) (idx := 127) (List.mem_filter.mpr ⟨by decide +kernel, rfl⟩) rfl rfl (by decide) rfl (Nat.le_of_ble_eq_true rfl) (Nat.le_of_ble_eq_true rfl) hc hs hC cc d_L_810 hl.1 (Nat.le_of_ble_eq_true rfl) rfl (fun r M2 H2 locs2 hp2 ok2 hC hz2 hk2 => ?_)
  obtain ⟨rfl, inv2⟩ := hp2
  have hP := va_keep hP hoA hk2
  refine lv_icmp_eq (tgt := 1520) (x := Int32.ofInt v) (y := Int32.ofInt v) hx hb d_L_813 (by decide) (fun _ => kt M2 H2 locs2 ls cells slots inv2 hC hP hl (by omega) (by omega)) (fun z => absurd rfl z)
set_option maxHeartbeats 1000000 in
theorem ll_left (C0 : LF p s m meth c b L xs E) (S0 : LSt s E H locs M n ls b o x4 ) (hin : ∀ j : Nat, j < 6 → vp_in (x4 + nI j) L) (hc : cells ≤ room_1.cells) (hs : slots ≤ room_1.slots) (kt : KTl p l e s m b below meth c Q E n cells slots o x4) : W p l e room_1 s m #[Value.ref b] below meth c H locs cells slots Q (F0 m 818 ls []) := by
  obtain ⟨⟨hx, hb, hr, hml, hown, hts, hX, hbl, hlocks, hgv⟩, hE, hbE⟩ := id C0
  obtain ⟨hC, inv, hn, hl, hP, hoA⟩ := S0
  have hbA : ¬ AA E b := fun z => by have := z.1; omega
  have htg : ∀ w ∈ lwg, w.before #[Value.ref b] s = true := fun w hw => hts w (List.mem_filter.mp hw).1
  have cc := CC_I (c_left inv hn (sv xs x4 1).toInt)
  refine lv_aload_n hx hb d_L_818 rfl (lv_at hl 1 rfl) ?_
  refine L_arg hx hb hX hbl hbA hC.1 (k := nI 1) (hin 1 (by decide)) hl d_L_819 d_L_820 d_L_822 d_L_823 d_L_824 (by decide) ?_
  refine L_callI (n := 249) (vs := [sv xs x4 1]) (t := 0) (rest := []) hx hb hml hown htg hE (by decide +kernel) (idx := 128) (List.mem_filter.mpr ⟨by decide +kernel, rfl⟩) rfl rfl (by decide) rfl (Nat.le_of_ble_eq_true rfl) (Nat.le_of_ble_eq_true rfl) hc hs hC cc d_L_825 hl.1 (by decide) rfl (fun r M1 H1 locs1 hp1 ok1 hC hz1 hk1 => ?_)
  obtain ⟨v, rfl, cc⟩ := hp1
  have hP := va_keep hP hoA hk1
  refine lv_aload_n hx hb d_L_828 rfl (lv_at hl 2 rfl) ?_
  refine L_arg hx hb hX hbl hbA hC.1 (k := nI 1) (hin 1 (by decide)) hl d_L_829 d_L_830 d_L_832 d_L_833 d_L_834 (by decide) ?_
  refine L_callI (n := 89) (vs := [sv xs x4 1]) (t := 0) (rest := [enc E (aI v)]) hx hb hml hown htg hE (by decide +kernel) (idx := 131) (List.mem_filter.mpr ⟨by decide +kernel, rfl⟩) rfl rfl (by decide) rfl (Nat.le_of_ble_eq_true rfl) (Nat.le_of_ble_eq_true rfl) hc hs hC cc d_L_835 hl.1 (Nat.le_of_ble_eq_true rfl) rfl (fun r M2 H2 locs2 hp2 ok2 hC hz2 hk2 => ?_)
  obtain ⟨rfl, inv2⟩ := hp2
  have hP := va_keep hP hoA hk2
  refine lv_icmp_eq (tgt := 1520) (x := Int32.ofInt v) (y := Int32.ofInt v) hx hb d_L_838 (by decide) (fun _ => kt M2 H2 locs2 ls cells slots inv2 hC hP hl (by omega) (by omega)) (fun z => absurd rfl z)
set_option maxHeartbeats 1000000 in
theorem ll_shut (C0 : LF p s m meth c b L xs E) (S0 : LSt s E H locs M n ls b o x4 ) (hin : ∀ j : Nat, j < 6 → vp_in (x4 + nI j) L) (hc : cells ≤ room_1.cells) (hs : slots ≤ room_1.slots) (kt : KTl p l e s m b below meth c Q E n cells slots o x4) : W p l e room_1 s m #[Value.ref b] below meth c H locs cells slots Q (F0 m 843 ls []) := by
  obtain ⟨⟨hx, hb, hr, hml, hown, hts, hX, hbl, hlocks, hgv⟩, hE, hbE⟩ := id C0
  obtain ⟨hC, inv, hn, hl, hP, hoA⟩ := S0
  have hbA : ¬ AA E b := fun z => by have := z.1; omega
  have htg : ∀ w ∈ lwg, w.before #[Value.ref b] s = true := fun w hw => hts w (List.mem_filter.mp hw).1
  have cc := CC_I (c_shut inv hn)
  refine lv_aload_n hx hb d_L_843 rfl (lv_at hl 1 rfl) ?_
  refine L_callI (n := 252) (vs := []) (t := 0) (rest := []) hx hb hml hown htg hE (by decide +kernel) (idx := 132) (List.mem_filter.mpr ⟨by decide +kernel, rfl⟩) rfl rfl (by decide) rfl (Nat.le_of_ble_eq_true rfl) (Nat.le_of_ble_eq_true rfl) hc hs hC cc d_L_844 hl.1 (by decide) rfl (fun r M1 H1 locs1 hp1 ok1 hC hz1 hk1 => ?_)
  obtain ⟨v, rfl, cc⟩ := hp1
  have hP := va_keep hP hoA hk1
  refine lv_aload_n hx hb d_L_847 rfl (lv_at hl 2 rfl) ?_
  refine L_callI (n := 91) (vs := []) (t := 0) (rest := [enc E (aI v)]) hx hb hml hown htg hE (by decide +kernel) (idx := 135) (List.mem_filter.mpr ⟨by decide +kernel, rfl⟩) rfl rfl (by decide) rfl (Nat.le_of_ble_eq_true rfl) (Nat.le_of_ble_eq_true rfl) hc hs hC cc d_L_848 hl.1 (Nat.le_of_ble_eq_true rfl) rfl (fun r M2 H2 locs2 hp2 ok2 hC hz2 hk2 => ?_)
  obtain ⟨rfl, inv2⟩ := hp2
  have hP := va_keep hP hoA hk2
  refine lv_icmp_eq (tgt := 1520) (x := Int32.ofInt v) (y := Int32.ofInt v) hx hb d_L_851 (by decide) (fun _ => kt M2 H2 locs2 ls cells slots inv2 hC hP hl (by omega) (by omega)) (fun z => absurd rfl z)
set_option maxHeartbeats 1000000 in
theorem ll_open (C0 : LF p s m meth c b L xs E) (S0 : LSt s E H locs M n ls b o x4 ) (hin : ∀ j : Nat, j < 6 → vp_in (x4 + nI j) L) (hc : cells ≤ room_1.cells) (hs : slots ≤ room_1.slots) (kt : KTl p l e s m b below meth c Q E n cells slots o x4) : W p l e room_1 s m #[Value.ref b] below meth c H locs cells slots Q (F0 m 856 ls []) := by
  obtain ⟨⟨hx, hb, hr, hml, hown, hts, hX, hbl, hlocks, hgv⟩, hE, hbE⟩ := id C0
  obtain ⟨hC, inv, hn, hl, hP, hoA⟩ := S0
  have hbA : ¬ AA E b := fun z => by have := z.1; omega
  have htg : ∀ w ∈ lwg, w.before #[Value.ref b] s = true := fun w hw => hts w (List.mem_filter.mp hw).1
  have cc := CC_I (c_open inv hn)
  refine lv_aload_n hx hb d_L_856 rfl (lv_at hl 1 rfl) ?_
  refine L_callI (n := 254) (vs := []) (t := 0) (rest := []) hx hb hml hown htg hE (by decide +kernel) (idx := 136) (List.mem_filter.mpr ⟨by decide +kernel, rfl⟩) rfl rfl (by decide) rfl (Nat.le_of_ble_eq_true rfl) (Nat.le_of_ble_eq_true rfl) hc hs hC cc d_L_857 hl.1 (by decide) rfl (fun r M1 H1 locs1 hp1 ok1 hC hz1 hk1 => ?_)
  obtain ⟨v, rfl, cc⟩ := hp1
  have hP := va_keep hP hoA hk1
  refine lv_aload_n hx hb d_L_860 rfl (lv_at hl 2 rfl) ?_
  refine L_callI (n := 92) (vs := []) (t := 0) (rest := [enc E (aI v)]) hx hb hml hown htg hE (by decide +kernel) (idx := 139) (List.mem_filter.mpr ⟨by decide +kernel, rfl⟩) rfl rfl (by decide) rfl (Nat.le_of_ble_eq_true rfl) (Nat.le_of_ble_eq_true rfl) hc hs hC cc d_L_861 hl.1 (Nat.le_of_ble_eq_true rfl) rfl (fun r M2 H2 locs2 hp2 ok2 hC hz2 hk2 => ?_)
  obtain ⟨rfl, inv2⟩ := hp2
  have hP := va_keep hP hoA hk2
  refine lv_icmp_eq (tgt := 1520) (x := Int32.ofInt v) (y := Int32.ofInt v) hx hb d_L_864 (by decide) (fun _ => kt M2 H2 locs2 ls cells slots inv2 hC hP hl (by omega) (by omega)) (fun z => absurd rfl z)
set_option maxHeartbeats 1000000 in
theorem ll_leave (C0 : LF p s m meth c b L xs E) (S0 : LSt s E H locs M n ls b o x4 ) (hin : ∀ j : Nat, j < 6 → vp_in (x4 + nI j) L) (hc : cells ≤ room_1.cells) (hs : slots ≤ room_1.slots) (kt : KTl p l e s m b below meth c Q E n cells slots o x4) : W p l e room_1 s m #[Value.ref b] below meth c H locs cells slots Q (F0 m 869 ls []) := by
  obtain ⟨⟨hx, hb, hr, hml, hown, hts, hX, hbl, hlocks, hgv⟩, hE, hbE⟩ := id C0
  obtain ⟨hC, inv, hn, hl, hP, hoA⟩ := S0
  have hbA : ¬ AA E b := fun z => by have := z.1; omega
  have htg : ∀ w ∈ lwg, w.before #[Value.ref b] s = true := fun w hw => hts w (List.mem_filter.mp hw).1
  have cc := CC_I (c_leave inv hn)
  refine lv_aload_n hx hb d_L_869 rfl (lv_at hl 1 rfl) ?_
  refine L_callI (n := 261) (vs := []) (t := 0) (rest := []) hx hb hml hown htg hE (by decide +kernel) (idx := 140) (List.mem_filter.mpr ⟨by decide +kernel, rfl⟩) rfl rfl (by decide) rfl (Nat.le_of_ble_eq_true rfl) (Nat.le_of_ble_eq_true rfl) hc hs hC cc d_L_870 hl.1 (by decide) rfl (fun r M1 H1 locs1 hp1 ok1 hC hz1 hk1 => ?_)
  obtain ⟨v, rfl, cc⟩ := hp1
  have hP := va_keep hP hoA hk1
  refine lv_aload_n hx hb d_L_873 rfl (lv_at hl 2 rfl) ?_
  refine L_callI (n := 95) (vs := []) (t := 0) (rest := [enc E (aI v)]) hx hb hml hown htg hE (by decide +kernel) (idx := 143) (List.mem_filter.mpr ⟨by decide +kernel, rfl⟩) rfl rfl (by decide) rfl (Nat.le_of_ble_eq_true rfl) (Nat.le_of_ble_eq_true rfl) hc hs hC cc d_L_874 hl.1 (Nat.le_of_ble_eq_true rfl) rfl (fun r M2 H2 locs2 hp2 ok2 hC hz2 hk2 => ?_)
  obtain ⟨rfl, inv2⟩ := hp2
  have hP := va_keep hP hoA hk2
  refine lv_icmp_eq (tgt := 1520) (x := Int32.ofInt v) (y := Int32.ofInt v) hx hb d_L_877 (by decide) (fun _ => kt M2 H2 locs2 ls cells slots inv2 hC hP hl (by omega) (by omega)) (fun z => absurd rfl z)
set_option maxHeartbeats 1000000 in
theorem ll_halt (C0 : LF p s m meth c b L xs E) (S0 : LSt s E H locs M n ls b o x4 ) (hin : ∀ j : Nat, j < 6 → vp_in (x4 + nI j) L) (hc : cells ≤ room_1.cells) (hs : slots ≤ room_1.slots) (kt : KTl p l e s m b below meth c Q E n cells slots o x4) : W p l e room_1 s m #[Value.ref b] below meth c H locs cells slots Q (F0 m 882 ls []) := by
  obtain ⟨⟨hx, hb, hr, hml, hown, hts, hX, hbl, hlocks, hgv⟩, hE, hbE⟩ := id C0
  obtain ⟨hC, inv, hn, hl, hP, hoA⟩ := S0
  have hbA : ¬ AA E b := fun z => by have := z.1; omega
  have htg : ∀ w ∈ lwg, w.before #[Value.ref b] s = true := fun w hw => hts w (List.mem_filter.mp hw).1
  have cc := CC_I (c_halt inv hn (sv xs x4 1).toInt)
  refine lv_aload_n hx hb d_L_882 rfl (lv_at hl 1 rfl) ?_
  refine L_arg hx hb hX hbl hbA hC.1 (k := nI 1) (hin 1 (by decide)) hl d_L_883 d_L_884 d_L_886 d_L_887 d_L_888 (by decide) ?_
  refine L_callI (n := 265) (vs := [sv xs x4 1]) (t := 0) (rest := []) hx hb hml hown htg hE (by decide +kernel) (idx := 144) (List.mem_filter.mpr ⟨by decide +kernel, rfl⟩) rfl rfl (by decide) rfl (Nat.le_of_ble_eq_true rfl) (Nat.le_of_ble_eq_true rfl) hc hs hC cc d_L_889 hl.1 (by decide) rfl (fun r M1 H1 locs1 hp1 ok1 hC hz1 hk1 => ?_)
  obtain ⟨v, rfl, cc⟩ := hp1
  have hP := va_keep hP hoA hk1
  refine lv_aload_n hx hb d_L_892 rfl (lv_at hl 2 rfl) ?_
  refine L_arg hx hb hX hbl hbA hC.1 (k := nI 1) (hin 1 (by decide)) hl d_L_893 d_L_894 d_L_896 d_L_897 d_L_898 (by decide) ?_
  refine L_callI (n := 96) (vs := [sv xs x4 1]) (t := 0) (rest := [enc E (aI v)]) hx hb hml hown htg hE (by decide +kernel) (idx := 147) (List.mem_filter.mpr ⟨by decide +kernel, rfl⟩) rfl rfl (by decide) rfl (Nat.le_of_ble_eq_true rfl) (Nat.le_of_ble_eq_true rfl) hc hs hC cc d_L_899 hl.1 (Nat.le_of_ble_eq_true rfl) rfl (fun r M2 H2 locs2 hp2 ok2 hC hz2 hk2 => ?_)
  obtain ⟨rfl, inv2⟩ := hp2
  have hP := va_keep hP hoA hk2
  refine lv_icmp_eq (tgt := 1520) (x := Int32.ofInt v) (y := Int32.ofInt v) hx hb d_L_902 (by decide) (fun _ => kt M2 H2 locs2 ls cells slots inv2 hC hP hl (by omega) (by omega)) (fun z => absurd rfl z)
set_option maxHeartbeats 1000000 in
theorem ll_tick (C0 : LF p s m meth c b L xs E) (S0 : LSt s E H locs M n ls b o x4 ) (hin : ∀ j : Nat, j < 6 → vp_in (x4 + nI j) L) (hc : cells ≤ room_1.cells) (hs : slots ≤ room_1.slots) (kt : KTl p l e s m b below meth c Q E n cells slots o x4) : W p l e room_1 s m #[Value.ref b] below meth c H locs cells slots Q (F0 m 907 ls []) := by
  obtain ⟨⟨hx, hb, hr, hml, hown, hts, hX, hbl, hlocks, hgv⟩, hE, hbE⟩ := id C0
  obtain ⟨hC, inv, hn, hl, hP, hoA⟩ := S0
  have hbA : ¬ AA E b := fun z => by have := z.1; omega
  have htg : ∀ w ∈ lwg, w.before #[Value.ref b] s = true := fun w hw => hts w (List.mem_filter.mp hw).1
  have cc := CC_I (c_tick inv hn (sv xs x4 1).toInt (sv xs x4 2).toInt)
  refine lv_aload_n hx hb d_L_907 rfl (lv_at hl 1 rfl) ?_
  refine L_arg hx hb hX hbl hbA hC.1 (k := nI 1) (hin 1 (by decide)) hl d_L_908 d_L_909 d_L_911 d_L_912 d_L_913 (by decide) ?_
  refine L_arg hx hb hX hbl hbA hC.1 (k := nI 2) (hin 2 (by decide)) hl d_L_914 d_L_915 d_L_917 d_L_918 d_L_919 (by decide) ?_
  refine L_callI (n := 270) (vs := [sv xs x4 1, sv xs x4 2]) (t := 0) (rest := []) hx hb hml hown htg hE (by decide +kernel) (idx := 148) (List.mem_filter.mpr ⟨by decide +kernel, rfl⟩) rfl rfl (by decide) rfl (Nat.le_of_ble_eq_true rfl) (Nat.le_of_ble_eq_true rfl) hc hs hC cc d_L_920 hl.1 (by decide) rfl (fun r M1 H1 locs1 hp1 ok1 hC hz1 hk1 => ?_)
  obtain ⟨v, rfl, cc⟩ := hp1
  have hP := va_keep hP hoA hk1
  refine lv_aload_n hx hb d_L_923 rfl (lv_at hl 2 rfl) ?_
  refine L_arg hx hb hX hbl hbA hC.1 (k := nI 1) (hin 1 (by decide)) hl d_L_924 d_L_925 d_L_927 d_L_928 d_L_929 (by decide) ?_
  refine L_arg hx hb hX hbl hbA hC.1 (k := nI 2) (hin 2 (by decide)) hl d_L_930 d_L_931 d_L_933 d_L_934 d_L_935 (by decide) ?_
  refine L_callI (n := 97) (vs := [sv xs x4 1, sv xs x4 2]) (t := 0) (rest := [enc E (aI v)]) hx hb hml hown htg hE (by decide +kernel) (idx := 151) (List.mem_filter.mpr ⟨by decide +kernel, rfl⟩) rfl rfl (by decide) rfl (Nat.le_of_ble_eq_true rfl) (Nat.le_of_ble_eq_true rfl) hc hs hC cc d_L_936 hl.1 (Nat.le_of_ble_eq_true rfl) rfl (fun r M2 H2 locs2 hp2 ok2 hC hz2 hk2 => ?_)
  obtain ⟨rfl, inv2⟩ := hp2
  have hP := va_keep hP hoA hk2
  refine lv_icmp_eq (tgt := 1520) (x := Int32.ofInt v) (y := Int32.ofInt v) hx hb d_L_939 (by decide) (fun _ => kt M2 H2 locs2 ls cells slots inv2 hC hP hl (by omega) (by omega)) (fun z => absurd rfl z)
set_option maxHeartbeats 1000000 in
theorem ll_call (C0 : LF p s m meth c b L xs E) (S0 : LSt s E H locs M n ls b o x4 ) (hin : ∀ j : Nat, j < 6 → vp_in (x4 + nI j) L) (hc : cells ≤ room_1.cells) (hs : slots ≤ room_1.slots) (kt : KTl p l e s m b below meth c Q E n cells slots o x4) : W p l e room_1 s m #[Value.ref b] below meth c H locs cells slots Q (F0 m 944 ls []) := by
  obtain ⟨⟨hx, hb, hr, hml, hown, hts, hX, hbl, hlocks, hgv⟩, hE, hbE⟩ := id C0
  obtain ⟨hC, inv, hn, hl, hP, hoA⟩ := S0
  have hbA : ¬ AA E b := fun z => by have := z.1; omega
  have htg : ∀ w ∈ lwg, w.before #[Value.ref b] s = true := fun w hw => hts w (List.mem_filter.mp hw).1
  have cc := CC_I (c_call inv hn (sv xs x4 1).toInt)
  refine lv_aload_n hx hb d_L_944 rfl (lv_at hl 1 rfl) ?_
  refine L_arg hx hb hX hbl hbA hC.1 (k := nI 1) (hin 1 (by decide)) hl d_L_945 d_L_946 d_L_948 d_L_949 d_L_950 (by decide) ?_
  refine L_callI (n := 272) (vs := [sv xs x4 1]) (t := 0) (rest := []) hx hb hml hown htg hE (by decide +kernel) (idx := 152) (List.mem_filter.mpr ⟨by decide +kernel, rfl⟩) rfl rfl (by decide) rfl (Nat.le_of_ble_eq_true rfl) (Nat.le_of_ble_eq_true rfl) hc hs hC cc d_L_951 hl.1 (by decide) rfl (fun r M1 H1 locs1 hp1 ok1 hC hz1 hk1 => ?_)
  obtain ⟨v, rfl, cc⟩ := hp1
  have hP := va_keep hP hoA hk1
  refine lv_aload_n hx hb d_L_954 rfl (lv_at hl 2 rfl) ?_
  refine L_arg hx hb hX hbl hbA hC.1 (k := nI 1) (hin 1 (by decide)) hl d_L_955 d_L_956 d_L_958 d_L_959 d_L_960 (by decide) ?_
  refine L_callI (n := 98) (vs := [sv xs x4 1]) (t := 0) (rest := [enc E (aI v)]) hx hb hml hown htg hE (by decide +kernel) (idx := 155) (List.mem_filter.mpr ⟨by decide +kernel, rfl⟩) rfl rfl (by decide) rfl (Nat.le_of_ble_eq_true rfl) (Nat.le_of_ble_eq_true rfl) hc hs hC cc d_L_961 hl.1 (Nat.le_of_ble_eq_true rfl) rfl (fun r M2 H2 locs2 hp2 ok2 hC hz2 hk2 => ?_)
  obtain ⟨rfl, inv2⟩ := hp2
  have hP := va_keep hP hoA hk2
  refine lv_icmp_eq (tgt := 1520) (x := Int32.ofInt v) (y := Int32.ofInt v) hx hb d_L_964 (by decide) (fun _ => kt M2 H2 locs2 ls cells slots inv2 hC hP hl (by omega) (by omega)) (fun z => absurd rfl z)
set_option maxHeartbeats 1000000 in
theorem ll_atWork (C0 : LF p s m meth c b L xs E) (S0 : LSt s E H locs M n ls b o x4 ) (hin : ∀ j : Nat, j < 6 → vp_in (x4 + nI j) L) (hc : cells ≤ room_1.cells) (hs : slots ≤ room_1.slots) (kt : KTl p l e s m b below meth c Q E n cells slots o x4) : W p l e room_1 s m #[Value.ref b] below meth c H locs cells slots Q (F0 m 969 ls []) := by
  obtain ⟨⟨hx, hb, hr, hml, hown, hts, hX, hbl, hlocks, hgv⟩, hE, hbE⟩ := id C0
  obtain ⟨hC, inv, hn, hl, hP, hoA⟩ := S0
  have hbA : ¬ AA E b := fun z => by have := z.1; omega
  have htg : ∀ w ∈ lwg, w.before #[Value.ref b] s = true := fun w hw => hts w (List.mem_filter.mp hw).1
  have cc := CC_I (c_atWork inv hn)
  refine lv_aload_n hx hb d_L_969 rfl (lv_at hl 1 rfl) ?_
  refine L_callI (n := 274) (vs := []) (t := 0) (rest := []) hx hb hml hown htg hE (by decide +kernel) (idx := 156) (List.mem_filter.mpr ⟨by decide +kernel, rfl⟩) rfl rfl (by decide) rfl (Nat.le_of_ble_eq_true rfl) (Nat.le_of_ble_eq_true rfl) hc hs hC cc d_L_970 hl.1 (by decide) rfl (fun r M1 H1 locs1 hp1 ok1 hC hz1 hk1 => ?_)
  obtain ⟨v, rfl, cc⟩ := hp1
  have hP := va_keep hP hoA hk1
  refine lv_aload_n hx hb d_L_973 rfl (lv_at hl 2 rfl) ?_
  refine L_callI (n := 100) (vs := []) (t := 0) (rest := [enc E (aI v)]) hx hb hml hown htg hE (by decide +kernel) (idx := 159) (List.mem_filter.mpr ⟨by decide +kernel, rfl⟩) rfl rfl (by decide) rfl (Nat.le_of_ble_eq_true rfl) (Nat.le_of_ble_eq_true rfl) hc hs hC cc d_L_974 hl.1 (Nat.le_of_ble_eq_true rfl) rfl (fun r M2 H2 locs2 hp2 ok2 hC hz2 hk2 => ?_)
  obtain ⟨rfl, inv2⟩ := hp2
  have hP := va_keep hP hoA hk2
  refine lv_icmp_eq (tgt := 1520) (x := Int32.ofInt v) (y := Int32.ofInt v) hx hb d_L_977 (by decide) (fun _ => kt M2 H2 locs2 ls cells slots inv2 hC hP hl (by omega) (by omega)) (fun z => absurd rfl z)
set_option maxHeartbeats 1000000 in
theorem ll_running (C0 : LF p s m meth c b L xs E) (S0 : LSt s E H locs M n ls b o x4 ) (hin : ∀ j : Nat, j < 6 → vp_in (x4 + nI j) L) (hc : cells ≤ room_1.cells) (hs : slots ≤ room_1.slots) (kt : KTl p l e s m b below meth c Q E n cells slots o x4) : W p l e room_1 s m #[Value.ref b] below meth c H locs cells slots Q (F0 m 982 ls []) := by
  obtain ⟨⟨hx, hb, hr, hml, hown, hts, hX, hbl, hlocks, hgv⟩, hE, hbE⟩ := id C0
  obtain ⟨hC, inv, hn, hl, hP, hoA⟩ := S0
  have hbA : ¬ AA E b := fun z => by have := z.1; omega
  have htg : ∀ w ∈ lwg, w.before #[Value.ref b] s = true := fun w hw => hts w (List.mem_filter.mp hw).1
  have cc := CC_I (c_running inv hn)
  refine lv_aload_n hx hb d_L_982 rfl (lv_at hl 1 rfl) ?_
  refine L_callI (n := 275) (vs := []) (t := 0) (rest := []) hx hb hml hown htg hE (by decide +kernel) (idx := 160) (List.mem_filter.mpr ⟨by decide +kernel, rfl⟩) rfl rfl (by decide) rfl (Nat.le_of_ble_eq_true rfl) (Nat.le_of_ble_eq_true rfl) hc hs hC cc d_L_983 hl.1 (by decide) rfl (fun r M1 H1 locs1 hp1 ok1 hC hz1 hk1 => ?_)
  obtain ⟨v, rfl, cc⟩ := hp1
  have hP := va_keep hP hoA hk1
  refine lv_aload_n hx hb d_L_986 rfl (lv_at hl 2 rfl) ?_
  refine L_callI (n := 101) (vs := []) (t := 0) (rest := [enc E (aI v)]) hx hb hml hown htg hE (by decide +kernel) (idx := 163) (List.mem_filter.mpr ⟨by decide +kernel, rfl⟩) rfl rfl (by decide) rfl (Nat.le_of_ble_eq_true rfl) (Nat.le_of_ble_eq_true rfl) hc hs hC cc d_L_987 hl.1 (Nat.le_of_ble_eq_true rfl) rfl (fun r M2 H2 locs2 hp2 ok2 hC hz2 hk2 => ?_)
  obtain ⟨rfl, inv2⟩ := hp2
  have hP := va_keep hP hoA hk2
  refine lv_icmp_eq (tgt := 1520) (x := Int32.ofInt v) (y := Int32.ofInt v) hx hb d_L_990 (by decide) (fun _ => kt M2 H2 locs2 ls cells slots inv2 hC hP hl (by omega) (by omega)) (fun z => absurd rfl z)
set_option maxHeartbeats 1000000 in
theorem ll_row (C0 : LF p s m meth c b L xs E) (S0 : LSt s E H locs M n ls b o x4 ) (hin : ∀ j : Nat, j < 6 → vp_in (x4 + nI j) L) (hc : cells ≤ room_1.cells) (hs : slots ≤ room_1.slots) (kt : KTl p l e s m b below meth c Q E n cells slots o x4) : W p l e room_1 s m #[Value.ref b] below meth c H locs cells slots Q (F0 m 1402 ls []) := by
  obtain ⟨⟨hx, hb, hr, hml, hown, hts, hX, hbl, hlocks, hgv⟩, hE, hbE⟩ := id C0
  obtain ⟨hC, inv, hn, hl, hP, hoA⟩ := S0
  have hbA : ¬ AA E b := fun z => by have := z.1; omega
  have htg : ∀ w ∈ lwg, w.before #[Value.ref b] s = true := fun w hw => hts w (List.mem_filter.mp hw).1
  have cc := CC_I (c_row inv hn (sv xs x4 1).toInt (sv xs x4 2).toInt)
  refine lv_aload_n hx hb d_L_1402 rfl (lv_at hl 1 rfl) ?_
  refine L_arg hx hb hX hbl hbA hC.1 (k := nI 1) (hin 1 (by decide)) hl d_L_1403 d_L_1404 d_L_1406 d_L_1407 d_L_1408 (by decide) ?_
  refine L_arg hx hb hX hbl hbA hC.1 (k := nI 2) (hin 2 (by decide)) hl d_L_1409 d_L_1410 d_L_1412 d_L_1413 d_L_1414 (by decide) ?_
  refine L_callI (n := 276) (vs := [sv xs x4 1, sv xs x4 2]) (t := 0) (rest := []) hx hb hml hown htg hE (by decide +kernel) (idx := 183) (List.mem_filter.mpr ⟨by decide +kernel, rfl⟩) rfl rfl (by decide) rfl (Nat.le_of_ble_eq_true rfl) (Nat.le_of_ble_eq_true rfl) hc hs hC cc d_L_1415 hl.1 (by decide) rfl (fun r M1 H1 locs1 hp1 ok1 hC hz1 hk1 => ?_)
  obtain ⟨v, rfl, cc⟩ := hp1
  have hP := va_keep hP hoA hk1
  refine lv_aload_n hx hb d_L_1418 rfl (lv_at hl 2 rfl) ?_
  refine L_arg hx hb hX hbl hbA hC.1 (k := nI 1) (hin 1 (by decide)) hl d_L_1419 d_L_1420 d_L_1422 d_L_1423 d_L_1424 (by decide) ?_
  refine L_arg hx hb hX hbl hbA hC.1 (k := nI 2) (hin 2 (by decide)) hl d_L_1425 d_L_1426 d_L_1428 d_L_1429 d_L_1430 (by decide) ?_
  refine L_callI (n := 111) (vs := [sv xs x4 1, sv xs x4 2]) (t := 0) (rest := [enc E (aI v)]) hx hb hml hown htg hE (by decide +kernel) (idx := 186) (List.mem_filter.mpr ⟨by decide +kernel, rfl⟩) rfl rfl (by decide) rfl (Nat.le_of_ble_eq_true rfl) (Nat.le_of_ble_eq_true rfl) hc hs hC cc d_L_1431 hl.1 (Nat.le_of_ble_eq_true rfl) rfl (fun r M2 H2 locs2 hp2 ok2 hC hz2 hk2 => ?_)
  obtain ⟨rfl, inv2⟩ := hp2
  have hP := va_keep hP hoA hk2
  refine lv_icmp_eq (tgt := 1520) (x := Int32.ofInt v) (y := Int32.ofInt v) hx hb d_L_1434 (by decide) (fun _ => kt M2 H2 locs2 ls cells slots inv2 hC hP hl (by omega) (by omega)) (fun z => absurd rfl z)
set_option maxHeartbeats 1000000 in
theorem ll_count (C0 : LF p s m meth c b L xs E) (S0 : LSt s E H locs M n ls b o x4 ) (hin : ∀ j : Nat, j < 6 → vp_in (x4 + nI j) L) (hc : cells ≤ room_1.cells) (hs : slots ≤ room_1.slots) (kt : KTl p l e s m b below meth c Q E n cells slots o x4) : W p l e room_1 s m #[Value.ref b] below meth c H locs cells slots Q (F0 m 1495 ls []) := by
  obtain ⟨⟨hx, hb, hr, hml, hown, hts, hX, hbl, hlocks, hgv⟩, hE, hbE⟩ := id C0
  obtain ⟨hC, inv, hn, hl, hP, hoA⟩ := S0
  have hbA : ¬ AA E b := fun z => by have := z.1; omega
  have htg : ∀ w ∈ lwg, w.before #[Value.ref b] s = true := fun w hw => hts w (List.mem_filter.mp hw).1
  have cc := CC_I (c_count inv hn (sv xs x4 1).toInt)
  refine lv_aload_n hx hb d_L_1495 rfl (lv_at hl 1 rfl) ?_
  refine L_arg hx hb hX hbl hbA hC.1 (k := nI 1) (hin 1 (by decide)) hl d_L_1496 d_L_1497 d_L_1499 d_L_1500 d_L_1501 (by decide) ?_
  refine L_callI (n := 278) (vs := [sv xs x4 1]) (t := 0) (rest := []) hx hb hml hown htg hE (by decide +kernel) (idx := 191) (List.mem_filter.mpr ⟨by decide +kernel, rfl⟩) rfl rfl (by decide) rfl (Nat.le_of_ble_eq_true rfl) (Nat.le_of_ble_eq_true rfl) hc hs hC cc d_L_1502 hl.1 (by decide) rfl (fun r M1 H1 locs1 hp1 ok1 hC hz1 hk1 => ?_)
  obtain ⟨v, rfl, cc⟩ := hp1
  have hP := va_keep hP hoA hk1
  refine lv_aload_n hx hb d_L_1505 rfl (lv_at hl 2 rfl) ?_
  refine L_arg hx hb hX hbl hbA hC.1 (k := nI 1) (hin 1 (by decide)) hl d_L_1506 d_L_1507 d_L_1509 d_L_1510 d_L_1511 (by decide) ?_
  refine L_callI (n := 113) (vs := [sv xs x4 1]) (t := 0) (rest := [enc E (aI v)]) hx hb hml hown htg hE (by decide +kernel) (idx := 194) (List.mem_filter.mpr ⟨by decide +kernel, rfl⟩) rfl rfl (by decide) rfl (Nat.le_of_ble_eq_true rfl) (Nat.le_of_ble_eq_true rfl) hc hs hC cc d_L_1512 hl.1 (Nat.le_of_ble_eq_true rfl) rfl (fun r M2 H2 locs2 hp2 ok2 hC hz2 hk2 => ?_)
  obtain ⟨rfl, inv2⟩ := hp2
  have hP := va_keep hP hoA hk2
  refine lv_icmp_eq (tgt := 1520) (x := Int32.ofInt v) (y := Int32.ofInt v) hx hb d_L_1515 (by decide) (fun _ => kt M2 H2 locs2 ls cells slots inv2 hC hP hl (by omega) (by omega)) (fun z => absurd rfl z)
end LAW2
