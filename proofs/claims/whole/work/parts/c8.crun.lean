/-! ===== the constructors: their rows checked, and what a run of them gives ===== -/
def pcsC (g : Nat) : List Nat := (ciC g).map (·.1)
def lvC (g : Nat) : Nat := (ciM g).2.2.2.1
def okR (g : Nat) (pcs : List Nat) (raw : Instr) (len : Nat) (r : CR) : Bool := match r.2.1, raw with
  | 0, .aload_n k => decide ((k : Nat) = r.2.2.1 ∧ len = 1)
  | 1, .iconst v => decide (v = r.2.2.2.2 ∧ len = 1)
  | 1, .bipush v => decide (v = r.2.2.2.2 ∧ len = 2 ∧ -128 ≤ v ∧ v < 128)
  | 1, .sipush v => decide (v = r.2.2.2.2 ∧ len = 3 ∧ -32768 ≤ v ∧ v < 32768)
  | 2, .iload_n k => decide ((k : Nat) = r.2.2.1 ∧ len = 1)
  | 3, .istore_n k => decide ((k : Nat) = r.2.2.1 ∧ len = 1 ∧ r.2.2.1 < (ciM g).2.1)
  | 4, .iinc k v => decide (k = r.2.2.1 ∧ v = 1 ∧ len = 3 ∧ k < (ciM g).2.1)
  | 5, .if_icmp cd off => decide (cd = .ge ∧ len = 3) && okT pcs r.1 off r.2.2.1
  | 6, .goto off => decide (len = 3) && okT pcs r.1 off r.2.2.1
  | 7, .newarray ty => decide (newarray.typeOf ty = atY r.2.2.1 ∧ len = 2) && decide (lw_tbl[r.2.2.2.1]? = some (.arrayClass (newarray.typeOf ty)))
  | 8, .anewarray k => decide (k = r.2.2.1 % 4096 ∧ len = 3 ∧ r.2.2.1 / 4096 ∈ [8, 9, 10, 12, 13]) && decide (lw_tbl[r.2.2.2.1]? = some (.classLink (oC g) k (cN (r.2.2.1 / 4096))))
  | 9, .multianewarray k d => decide (k = r.2.2.1 ∧ d = 2 ∧ len = 4) && decide (lw_tbl[r.2.2.2.1]? = some (.classLink (oC g) k "[[J"))
  | 10, .new k => decide (k = r.2.2.1 % 4096 ∧ len = 3 ∧ 1 ≤ r.2.2.1 / 4096 ∧ r.2.2.1 / 4096 ≤ 11) && decide (lw_tbl[r.2.2.2.1]? = some (.classLink (oC g) k (oC (r.2.2.1 / 4096))))
  | 11, .dup => decide (len = 1)
  | 12, .invokespecial k => decide (k = r.2.2.1 ∧ len = 3) && decide (lw_tbl[r.2.2.2.1]? = some (.methodLink (oC g) k Lib.objectInit))
  | 13, .invokespecial k => decide (k = r.2.2.1 % 4096 ∧ len = 3 ∧ 1 ≤ r.2.2.1 / 4096 ∧ r.2.2.1 / 4096 ≤ 11 ∧ lvC (r.2.2.1 / 4096) < lvC g) && decide (lw_tbl[r.2.2.2.1]? = some (.methodLink (oC g) k (ciY (r.2.2.1 / 4096))))
  | 14, .invokespecial k => decide (k = r.2.2.1 % 4096 ∧ len = 3 ∧ 1 ≤ r.2.2.1 / 4096 ∧ r.2.2.1 / 4096 ≤ 11 ∧ lvC (r.2.2.1 / 4096) < lvC g) && gmn.any (fun q => decide (q = (oC g, k, ciY (r.2.2.1 / 4096), "StaticKernel")))
  | 15, .getfield k => decide (k = r.2.2.1 % 4096 ∧ len = 3 ∧ 1 ≤ r.2.2.1 / 4096 / 100 ∧ r.2.2.1 / 4096 / 100 ≤ 11 ∧ r.2.2.1 / 4096 % 100 < oN (r.2.2.1 / 4096 / 100) ∧ (oY (r.2.2.1 / 4096 / 100) (r.2.2.1 / 4096 % 100)).isReference = true) && decide (lw_tbl[r.2.2.2.1]? = some (.fieldLink (oC g) k (oT (r.2.2.1 / 4096 / 100) (r.2.2.1 / 4096 % 100)).1 (oT (r.2.2.1 / 4096 / 100) (r.2.2.1 / 4096 % 100)).2.1 (oT (r.2.2.1 / 4096 / 100) (r.2.2.1 / 4096 % 100)).2.2.1))
  | 16, .putfield k => decide (k = r.2.2.1 % 4096 ∧ len = 3 ∧ r.2.2.1 / 4096 / 100 = g ∧ r.2.2.1 / 4096 % 100 < oN g ∧ (oT g (r.2.2.1 / 4096 % 100)).1 = oC g) && decide (lw_tbl[r.2.2.2.1]? = some (.fieldLink (oC g) k (oT g (r.2.2.1 / 4096 % 100)).1 (oT g (r.2.2.1 / 4096 % 100)).2.1 (oT g (r.2.2.1 / 4096 % 100)).2.2.1))
  | 17, .iastore => decide (len = 1)
  | 18, .aastore => decide (len = 1)
  | 19, .ldc k => decide (k = 36 ∧ len = 2 ∧ g = 11)
  | 20, .return_ => decide (len = 1)
  | 21, .invokevirtual k => decide (k = r.2.2.1 ∧ len = 3)
  | _, _ => false
def chkI (g : Nat) (pcs : List Nat) : List CR → Bool
  | [] => true
  | r :: rest => (match decode (ciB g) r.1 with
    | .ok (raw, len) => okR g pcs raw len r && (decide (r.2.1 = 6 ∨ 20 ≤ r.2.1) || decide (rest.head?.map (·.1) = some (r.1 + len)))
    | .error _ => false) && chkI g pcs rest
def mchC (g : Nat) : Bool := (match lw_tbl[(ciM g).1]? with
   | some (.code y _ n r) => decide (y = ciY g ∧ n = (ciM g).2.1 ∧ r = none)
   | _ => false) && decide (lw_tbl[(ciM g).2.2.2.2.1]? = some (.instanceMethod (ciY g))) && decide (lw_tbl[(ciM g).2.2.2.2.2.1]? = some (.initialized (oC g))) && decide (lw_tbl[(ciM g).2.2.2.2.2.2]? = some (.instantiable (oC g) (oN g))) && decide ((parseMethodDescriptor (ciD g)).map (fun d => d.parameters.length) = some (ciM g).2.2.1 ∧ (ciM g).2.1 ≤ 19 ∧ (ciM g).2.2.1 + 1 ≤ (ciM g).2.1 ∧ oC g ≠ "java/lang/invoke/MethodHandle" ∧ oC g ≠ "java/lang/invoke/VarHandle" ∧ plainName (oC g) = true ∧ 1 ≤ lvC g ∧ (pcsC g)[0]? = some 0)
set_option maxRecDepth 100000 in
theorem cki_1 : chkI 1 (pcsC 1) (ciC 1) = true := by decide +kernel
set_option maxRecDepth 100000 in
theorem cki_2 : chkI 2 (pcsC 2) (ciC 2) = true := by decide +kernel
set_option maxRecDepth 100000 in
theorem cki_3 : chkI 3 (pcsC 3) (ciC 3) = true := by decide +kernel
set_option maxRecDepth 100000 in
theorem cki_4 : chkI 4 (pcsC 4) (ciC 4) = true := by decide +kernel
set_option maxRecDepth 100000 in
theorem cki_5 : chkI 5 (pcsC 5) (ciC 5) = true := by decide +kernel
set_option maxRecDepth 100000 in
theorem cki_6 : chkI 6 (pcsC 6) (ciC 6) = true := by decide +kernel
set_option maxRecDepth 100000 in
theorem cki_7 : chkI 7 (pcsC 7) (ciC 7) = true := by decide +kernel
set_option maxRecDepth 100000 in
theorem cki_8 : chkI 8 (pcsC 8) (ciC 8) = true := by decide +kernel
set_option maxRecDepth 100000 in
theorem cki_9 : chkI 9 (pcsC 9) (ciC 9) = true := by decide +kernel
set_option maxRecDepth 100000 in
theorem cki_10 : chkI 10 (pcsC 10) (ciC 10) = true := by decide +kernel
set_option maxRecDepth 100000 in
theorem cki_11 : chkI 11 (pcsC 11) (ciC 11) = true := by decide +kernel
set_option maxRecDepth 100000 in
theorem mch_ok : ∀ g ∈ [1, 2, 3, 4, 5, 6, 7, 8, 9, 10, 11], mchC g = true := by decide +kernel
theorem cki {g : Nat} (h : isO g) : chkI g (pcsC g) (ciC g) = true := by
  unfold isO at h
  have : g = 1 ∨ g = 2 ∨ g = 3 ∨ g = 4 ∨ g = 5 ∨ g = 6 ∨ g = 7 ∨ g = 8 ∨ g = 9 ∨ g = 10 ∨ g = 11 := by omega
  rcases this with rfl | rfl | rfl | rfl | rfl | rfl | rfl | rfl | rfl | rfl | rfl
  · exact cki_1
  · exact cki_2
  · exact cki_3
  · exact cki_4
  · exact cki_5
  · exact cki_6
  · exact cki_7
  · exact cki_8
  · exact cki_9
  · exact cki_10
  · exact cki_11
theorem chkI_at {g : Nat} {pcs : List Nat} : ∀ (cd : List CR) (i : Nat) (r : CR), chkI g pcs cd = true → cd[i]? = some r → ∃ raw len, decode (ciB g) r.1 = .ok (raw, len) ∧ okR g pcs raw len r = true ∧ (r.2.1 ≠ 6 → r.2.1 < 20 → (cd[i + 1]?).map (·.1) = some (r.1 + len))
  | [], i, r, _, h => by simp at h
  | r0 :: rest, 0, r, hc, h => by
    simp only [List.getElem?_cons_zero, Option.some.injEq] at h
    subst h
    unfold chkI at hc
    rw [Bool.and_eq_true] at hc
    obtain ⟨hc, -⟩ := hc
    split at hc
    · rename_i raw len hd
      simp only [Bool.and_eq_true, Bool.or_eq_true, decide_eq_true_eq] at hc
      refine ⟨raw, len, hd, hc.1, fun h1 h2 => ?_⟩
      rw [List.getElem?_cons_succ, ← List.head?_eq_getElem?]
      rcases hc.2 with h | h
      · omega
      · exact h
    · cases hc
  | r0 :: rest, i + 1, r, hc, h => by
    unfold chkI at hc
    rw [Bool.and_eq_true] at hc
    exact chkI_at rest i r hc.2 (by simpa using h)
theorem mch_at {g : Nat} (h : isO g) : Cond.code (ciY g) (ciB g) (ciM g).2.1 none ∈ lwg ∧ Cond.instanceMethod (ciY g) ∈ lwg ∧ Cond.initialized (oC g) ∈ lwg ∧ Cond.instantiable (oC g) (oN g) ∈ lwg ∧ (parseMethodDescriptor (ciD g)).map (fun d => d.parameters.length) = some (ciM g).2.2.1 ∧ (ciM g).2.1 ≤ 19 ∧ (ciM g).2.2.1 + 1 ≤ (ciM g).2.1 ∧ oC g ≠ "java/lang/invoke/MethodHandle" ∧ oC g ≠ "java/lang/invoke/VarHandle" ∧ plainName (oC g) = true ∧ 1 ≤ lvC g ∧ (pcsC g)[0]? = some 0 := by
  have hm := mch_ok g (isO_mem h)
  unfold mchC at hm
  simp only [Bool.and_eq_true] at hm
  obtain ⟨⟨⟨⟨h1, h2⟩, h3⟩, h4⟩, h5⟩ := hm
  refine ⟨?_, lwg_at (of_decide_eq_true h2) rfl, lwg_at (of_decide_eq_true h3) rfl, lwg_at (of_decide_eq_true h4) rfl, of_decide_eq_true h5⟩
  split at h1
  · rename_i y bb n r hq
    obtain ⟨rfl, rfl, rfl⟩ := of_decide_eq_true h1
    have hB : ciB g = bb := by
      unfold ciB bOf
      rw [hq]
    rw [hB]
    exact lwg_at hq rfl
  · cases h1
theorem objw : Cond.instanceMethod Lib.objectInit ∈ lw_tbl ∧ Cond.code Lib.objectInit ⟨#[0xb1]⟩ 1 none ∈ lw_tbl := by decide +kernel
theorem arw : Cond.arrayClass .long ∈ lw_tbl := by decide +kernel
theorem cst_mono {r : CR} {i n : Nat} {loc : Lc} {stk : List AV} {L : LW} {q' : CS} (hc : cstp r i loc stk n L = some q') : n ≤ q'.2.2.2.1 := by
  unfold cstp at hc
  split at hc <;> (try split at hc) <;> (try split at hc) <;> (try split at hc) <;> first | (cases hc; done) | (injection hc with hc; subst hc; simp)
section CY
variable {p : Program} {l : Launch} {e : Env} {R : Room} {s : State} {m : MethodId} {args : Array Value} {below : List Frame} {meth : Method} {c : Code} {Q : State → Prop} {E : EV} {cc : ByteArray} {nL n0 pc n g : Nat} {loc : Lc} {stk : List AV} {L : LW} {own : String} {idx : Nat}
def FrC (p : Program) (R : Room) (s : State) (m : MethodId) (args : Array Value) (meth : Method) (c : Code) (E : EV) (g : Nat) : Prop := p.tables.exec = Jvm.exec ∧ c.code = ciB g ∧ c.maxLocals = (ciM g).2.1 ∧ s.vm.findClass (oC g) = some m.cls ∧ (∀ w ∈ lwg, w.before args s = true) ∧ EnvC E s ∧ meth.name = "<init>" ∧ lvC g ≤ R.frames ∧ 38 * lvC g ≤ R.locals
theorem Wc.mna (hx : p.tables.exec = Jvm.exec) (hb : c.code = cc) (hts : ∀ w ∈ lwg, w.before args s = true) (hown : s.vm.findClass own = some m.cls) (hE : EnvC E s) (hdg : decode cc pc = .ok (.multianewarray idx 2, 4)) (hcl : Cond.classLink own idx "[[J" ∈ lwg) {g g2 : Nat} (hi : nl[n]? = some (g, 0)) (hg : g ∈ gOwn) (hg2 : g2 ∈ gOwn) (a1 : gl g = 7) (a2 : gk g = 3) (a3 : (aT g).2.1 = 1) (a4 : (aT g).2.2 = 0) (a5 : (aT g).1 = g2) (a6 : gl g2 = 48) (a7 : gk g2 = 2) (a8 : aY g = .array .long) (a9 : g2 ≠ g) (hf : frsh L g 0 = true) (hm : ∀ j : Nat, j < 7 → nl[n + 1 + j]? = some (g2, (j : Int)) ∧ frsh L g2 j = true) (hn0 : n0 ≤ n) (hRc : n + 8 - n0 ≤ R.cells) (hRs : sl (n + 8) - sl n0 ≤ R.slots)
    (kk : Wc p l e R s m args below meth c Q E nL n0 (pc + 4) loc (aR g 0 :: stk) (n + 8) ((g, 0, 0, 1) :: (g, 0, 1, 1) :: (g, 0, 2, 1) :: (g, 0, 3, 1) :: (g, 0, 4, 1) :: (g, 0, 5, 1) :: (g, 0, 6, 1) :: L)) : Wc p l e R s m args below meth c Q E nL n0 pc loc (aI 48 :: aI 7 :: stk) n L := by
  intro H locs ls hC hL
  have s1 := tb_di g hg
  have s2 := tb_di g2 hg2
  have hz1 : sz g = 7 := by unfold sz; rw [if_neg (by omega), a1]
  have hz2 : sz g2 = 48 := by unfold sz; rw [if_neg (by omega), a6]
  have hs1 := sl_le hn0
  have hS : sl (n + 8) = sl n + (7 + 7 * 48) := by
    have b0 := sl_succ hi
    have b1 := sl_succ (hm 0 (by decide)).1
    have b2 := sl_succ (hm 1 (by decide)).1
    have b3 := sl_succ (hm 2 (by decide)).1
    have b4 := sl_succ (hm 3 (by decide)).1
    have b5 := sl_succ (hm 4 (by decide)).1
    have b6 := sl_succ (hm 5 (by decide)).1
    have b7 := sl_succ (hm 6 (by decide)).1
    show sl (n + 1 + 6 + 1) = _
    rw [b7, show n + 1 + 6 = n + 1 + 5 + 1 from rfl, b6, show n + 1 + 5 = n + 1 + 4 + 1 from rfl, b5, show n + 1 + 4 = n + 1 + 3 + 1 from rfl, b4, show n + 1 + 3 = n + 1 + 2 + 1 from rfl, b3, show n + 1 + 2 = n + 1 + 1 + 1 from rfl, b2, show n + 1 + 1 = n + 1 + 0 + 1 from rfl, b1, Nat.add_zero, b0, hz1, hz2]
  have hLn : ∀ (g' : Nat) (t' x : Int), ¬ (g' = g ∧ t' = 0) → Lk ((g, 0, 0, 1) :: (g, 0, 1, 1) :: (g, 0, 2, 1) :: (g, 0, 3, 1) :: (g, 0, 4, 1) :: (g, 0, 5, 1) :: (g, 0, 6, 1) :: L) g' t' x = Lk L g' t' x := by
    intro g' t' x h
    have h' : ∀ y : Int, ¬ (g = g' ∧ (0 : Int) = t' ∧ y = x) := fun y z => h ⟨z.1.symm, z.2.1.symm⟩
    rw [Lk_ne (h' _), Lk_ne (h' _), Lk_ne (h' _), Lk_ne (h' _), Lk_ne (h' _), Lk_ne (h' _), Lk_ne (h' _)]
  have hL1 : ∀ j : Nat, j < 7 → Lk ((g, 0, 0, 1) :: (g, 0, 1, 1) :: (g, 0, 2, 1) :: (g, 0, 3, 1) :: (g, 0, 4, 1) :: (g, 0, 5, 1) :: (g, 0, 6, 1) :: L) g 0 j = 1 := by
    intro j hj
    have : j = 0 ∨ j = 1 ∨ j = 2 ∨ j = 3 ∨ j = 4 ∨ j = 5 ∨ j = 6 := by omega
    rcases this with rfl | rfl | rfl | rfl | rfl | rfl | rfl <;> simp [Lk]
  refine W.mnaL (n := Int32.ofInt 7) (k := Int32.ofInt 48) (N := 7) (K := 48) hx hb hown (by decide) (hts _ hcl) hE.2.2.2.2 (hts _ (List.mem_filter.mpr ⟨arw, rfl⟩)) hC.2.1 (by decide) (by decide) (by decide) (by decide) (by decide) (by decide) (by omega) (by omega) hdg (fun H' co ci z o e1 i1 u1 k1 r1 e2 i2 u2 k2 r2 => ?_)
  have hsz := hC.2.1
  have hsS := hC.1.1
  have k := kk H' locs ls ⟨⟨by omega, fun q h1 h2 => by rw [o q (by omega)]; exact hC.1.2.1 q h1 h2, hC.1.2.2⟩, by omega, fun i g' t' hi8 hni => ?_⟩ hL
  · rw [show n + 8 - n0 = n - n0 + 1 + 7 by omega, show sl (n + 8) - sl n0 = sl n - sl n0 + 7 + 7 * 48 by omega] at k
    have ha : E.2.2.1 g 0 = E.2.2.2.1 + n := by
      have := hE.2.1 g 0 (by rw [nl_od hi]; exact hi)
      rw [nl_od hi] at this
      exact this
    have k : W p l e R s m args below meth c H' locs (n - n0 + 1 + 7) (sl n - sl n0 + 7 + 7 * 48) Q (F0 m (pc + 4) ls (.ref (E.2.2.1 g 0) :: stk.map (enc E))) := k
    rw [ha] at k
    exact k
  · by_cases c1 : i < n
    · refine (hC.2.2 i g' t' c1 hni).kept (o _ (by omega)) (fun x => hLn g' t' x (fun z => ?_))
      have h1 := nl_od hni
      rw [z.1, z.2, nl_od hi] at h1
      omega
    by_cases c2 : i = n
    · subst c2
      rw [hi] at hni
      cases hni
      refine CelP.arr hg e1 ⟨by rw [a8]; exact i1, fun _ C hC => by rw [a8] at hC; cases hC⟩ u1 (by rw [k1, a1]) (fun j hj => ?_)
      rw [a1] at hj
      rw [r1 j hj, hL1 j hj]
      unfold avP
      rw [a2]
      show _ = some (if ((aT g).2.1 = 2 ∧ (1 : Int) < 0) ∨ ((aT g).2.1 = 1 ∧ (1 : Int) = 0) then Value.null else .ref (E.2.2.1 (aT g).1 ((aT g).2.2 + (if (aT g).2.1 = 1 then (j : Int) else 1))))
      rw [if_neg (fun z => by rcases z with z | z; (· omega); (· exact absurd z.2 (by decide))), if_pos a3, a4, a5]
      have := hE.2.1 g2 (j : Int) (by rw [nl_od (hm j hj).1]; exact (hm j hj).1)
      rw [nl_od (hm j hj).1] at this
      rw [Int.zero_add, this]
      have hh : E.2.2.2.1 + i + 1 + j = E.2.2.2.1 + (i + 1 + j) := by omega
      exact congrArg (fun z : Nat => some (Value.ref z)) hh
    · obtain ⟨j, hj⟩ : ∃ j, i = n + 1 + j := ⟨i - n - 1, by omega⟩
      subst hj
      have hj7 : j < 7 := by omega
      rw [(hm j hj7).1] at hni
      cases hni
      have hy : aY g2 = .long := tb_k2 g2 (List.mem_append_left _ hg2) a7
      have e3 : H'[E.2.2.2.1 + (n + 1 + j)]? = some ci := by rw [← e2 j hj7]; congr 1; omega
      refine CelP.arr hg2 e3 ⟨by rw [hy]; exact i2, fun _ C hC => by rw [hy] at hC; cases hC⟩ u2 (by rw [k2, a6]) (fun x hx => ?_)
      rw [a6] at hx
      rw [r2 x hx, hLn g2 j x (fun z => a9 z.1), Lk_frsh (hm j hj7).2, avP_0 _ hg2, hy]
      rfl
end CY
