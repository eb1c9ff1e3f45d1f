/-! ===== reading and writing fields and arrays ===== -/
theorem isA_mem {g : Nat} (h : isA g) : g ∈ gOwn ++ gCon := List.mem_append.mpr h
theorem isO_nA {g : Nat} (h : isO g) (h2 : isA g) : False := by
  have := tb_big g (isA_mem h2)
  unfold isO at h
  omega
theorem own_con {g : Nat} (h : g ∈ gOwn) (h2 : g ∈ gCon) : False := by
  have h3 := tb_con g h2
  have h4 := tb_own g h
  omega
theorem RepK.upd {E : EV} {s : State} {H H' : Heap} {M M' : AMem} {g : Nat} {t : Int} (hI : InjK E) (hoo : isOwn g) (hv : vld g t) (h : RepK E s H M) (hq : ∀ q : Nat, q ≠ E.2.2.1 g t → H'[q]? = H[q]?) (hM : ∀ (g' : Nat) (t' i : Int), ¬ (g' = g ∧ t' = t) → M' g' t' i = M g' t' i)
    (ho : isO g → ObjK E H' g t M') (ha : isA g → ArrK (g ∈ gOwn) s H' (E.2.2.1 g t) (aY g) (gl g) (fun j => aval E g j (M' g t j))) : RepK E s H' M' := by
  refine ⟨fun g' t' hg h0 h1 => ?_, fun g' t' hg h0 h1 => ?_⟩
  · by_cases he : g' = g ∧ t' = t
    · obtain ⟨rfl, rfl⟩ := he
      exact ho hg
    · have hne : E.2.2.1 g' t' ≠ E.2.2.1 g t := fun e => he (by have z := hI.1.1 g g' t t' hoo hv ⟨Or.inl hg, h0, h1⟩ e.symm; exact ⟨z.1.symm, z.2.symm⟩)
      have h2 := (h.1 g' t' hg h0 h1).kept (hq _ hne)
      exact h2.to (fun k _ => by rw [hM g' t' k he])
  · by_cases he : g' = g ∧ t' = t
    · obtain ⟨rfl, rfl⟩ := he
      exact ha hg
    · have hne : E.2.2.1 g' t' ≠ E.2.2.1 g t := fun e => he (by have z := hI.1.1 g g' t t' hoo hv ⟨Or.inr (Or.inr hg), h0, h1⟩ e.symm; exact ⟨z.1.symm, z.2.symm⟩)
      obtain ⟨cell, q1, q2, q3, q4, q5, q6⟩ := h.2 g' t' hg h0 h1
      exact ⟨cell, by rw [hq _ hne]; exact q1, q2, q3, q4, q5, fun j hj => by rw [q6 j hj]; show _ = some (aval E g' j (M' g' t' j)); rw [hM g' t' j he]⟩
theorem mup_same (M : AMem) (g : Nat) (t i v : Int) : mup M g t i v g t i = v := by simp [mup]
theorem mup_other {M : AMem} {g g' : Nat} {t t' i i' v : Int} (h : ¬ (g' = g ∧ t' = t ∧ i' = i)) : mup M g t i v g' t' i' = M g' t' i' := if_neg h
section HW
variable {p : Program} {l : Launch} {e : Env} {R : Room} {s : State} {m : MethodId} {args : Array Value} {below : List Frame} {meth : Method} {c : Code} {Q : State → Prop} {E : EV} {cc : ByteArray} {nL pc : Nat} {loc : Lc} {stk : List AV} {M : AMem} {own : String} {idx : Nat}
theorem Wi.getf (hx : p.tables.exec = Jvm.exec) (hb : c.code = cc) (hts : ∀ w ∈ lwg, w.before args s = true) (hown : s.vm.findClass own = some m.cls) (hE : EnvK E s) {g k : Nat} {t : Int} {a : AV} (hg : isO g) (hk : k < oN g)
    (hlink : (Cond.fieldLink own idx (oT g k).1 (oT g k).2.1 (oT g k).2.2.1) ∈ lwg) (hdg : decode cc pc = .ok (.getfield idx, 3)) (ha : enc E a = fval E g k t (M g t k)) (hok : vld g t → MOK M → aok a)
    (kk : Wi p l e R s m args below meth c Q E nL (pc + 3) loc (a :: stk) M) : Wi p l e R s m args below meth c Q E nL pc loc (aR g t :: stk) M := by
  intro H locs ls hC hL hl hs
  obtain ⟨hv, h2⟩ := List.forall_mem_cons.mp hs
  have hv : vld g t := hv
  obtain ⟨cell, q1, q2, q3, q4⟩ := hC.2.2.1.1 g t hg hv.2.1 hv.2.2
  obtain ⟨hS, hfc, kC, hkC, hkind⟩ := hE.1 g hg
  obtain ⟨cf, kf, fi, f, hi, hsl⟩ := hS k hk
  have hst := (u_facts hfc hkC (u_lays hts (tb_in hg) hk) hi).1
  refine W.getf hx hb hown (hts _ hlink) hi hst q1 (by rw [q3]; exact fun h => by cases h) (by rw [hsl]; exact q4 k hk) rfl rfl hdg ?_
  have := kk H locs ls hC hL hl (List.forall_mem_cons.mpr ⟨hok hv hC.2.2.2, h2⟩)
  rw [List.map_cons, ha] at this
  exact this
theorem Wi.putf (hx : p.tables.exec = Jvm.exec) (hb : c.code = cc) (hts : ∀ w ∈ lwg, w.before args s = true) (hown : s.vm.findClass own = some m.cls) (hE : EnvK E s) {g k : Nat} {t x : Int} {a : AV} (hg : isO g) (hk : k < oN g)
    (hlink : (Cond.fieldLink own idx (oT g k).1 (oT g k).2.1 (oT g k).2.2.1) ∈ lwg) (hdg : decode cc pc = .ok (.putfield idx, 3)) (hfin : (oT g k).2.2.2 = false) (ha : enc E a = fval E g k t x) (hn : narrow (oY g k) (enc E a) = enc E a) (hfit : fits (oY g k) (enc E a) = true) (hfo : aok a → fok g k x)
    (kk : Wi p l e R s m args below meth c Q E nL (pc + 3) loc stk (mup M g t k x)) : Wi p l e R s m args below meth c Q E nL pc loc (a :: aR g t :: stk) M := by
  intro H locs ls hC hL hl hs
  obtain ⟨hva, h2⟩ := List.forall_mem_cons.mp hs
  obtain ⟨hv, h3⟩ := List.forall_mem_cons.mp h2
  have hv : vld g t := hv
  obtain ⟨cell, q1, q2, q3, q4⟩ := hC.2.2.1.1 g t hg hv.2.1 hv.2.2
  obtain ⟨hS, hfc, kC, hkC, hkind⟩ := hE.1 g hg
  obtain ⟨cf, kf, fi, f, hi, hsl⟩ := hS k hk
  have hin := tb_in hg
  have hlay := hts _ (hin _ (u_in_lay hk))
  unfold u_lay at hlay
  rw [if_neg (by rw [hfin]; decide)] at hlay
  have hst := (u_facts hfc hkC (u_lays hts hin hk) hi).1
  have h6 := u_store hfc hkC hkind hlay hi (tb_ty hg k hk) hn hfit
  have hap : ∀ x y, x < oN g → y < oN g → x ≠ y → E.2.1 g x ≠ E.2.1 g y := by
    intro x y hx hy hne
    obtain ⟨_, _, _, fa, hia, ea⟩ := hS x hx
    obtain ⟨_, _, _, fb, hib, eb⟩ := hS y hy
    rw [← ea, ← eb]
    refine u_apart (u_lays hts hin hx) (u_lays hts hin hy) hia hib ?_
    rw [(State.fieldFound?_type hia (tb_ty hg x hx)).1, (State.fieldFound?_type hib (tb_ty hg y hy)).1]
    exact tb_nm hg x hx y hy hne
  refine W.putK hx hb (f := f) ⟨hown, hts _ hlink, ⟨_, _, _, hi⟩, hst⟩ (by rw [q2]; exact h6) q1 q3 (by rw [hsl]; exact k2_hasslot (q4 k hk)) rfl rfl hdg fun H' e1 e2 e3 => ?_
  rw [hsl] at e1 ⊢
  have hB : AA E (E.2.2.1 g t) := hE.2.1.2 g t (Or.inl hg) hv.2.1 hv.2.2
  refine kk H' _ ls ⟨hC.1.put e2 e3 hB, e2.trans hC.2.1, RepK.upd hE.2.1 (Or.inl hg) hv hC.2.2.1 e3 (fun g' t' i h => mup_other fun q => h ⟨q.1, q.2.1⟩) (fun _ => ?_) (fun h => (isO_nA hg h).elim), ?_, ?_, ?_⟩ hL hl h3
  · refine t_OB.to (V := updV (fun k => fval E g k t (M g t k)) k (enc E a)) ⟨_, e1, q2, q3, t_set q4 hap hk (enc E a)⟩ (fun j _ => ?_)
    by_cases hj : j = k
    · subst hj
      show _ = fval E g j t (mup M g t j x g t j)
      rw [mup_same]
      simp [updV, ha]
    · show _ = fval E g j t (mup M g t k x g t j)
      rw [mup_other (by omega)]
      simp [updV, hj]
  · intro g' t' k' hg' h0 h1 hk'
    by_cases he : g' = g ∧ t' = t ∧ (k' : Int) = k
    · obtain ⟨rfl, rfl, hkk⟩ := he
      have : k' = k := by omega
      subst this
      rw [mup_same]
      exact hfo hva
    · rw [mup_other he]
      exact hC.2.2.2.1 g' t' k' hg' h0 h1 hk'
  · intro g' t' i hg' h0 h1 h4 h5
    rw [mup_other (g := g) (g' := g') (fun q => isO_nA hg (by rw [← q.1]; exact hg'))]
    exact hC.2.2.2.2.1 g' t' i hg' h0 h1 h4 h5
  · intro g' t' i hg' h0 h1
    rw [mup_other (g := g) (g' := g') (fun q => isO_nA hg (by rw [← q.1]; exact Or.inr hg'))]
    exact hC.2.2.2.2.2 g' t' i hg' h0 h1
/-- an array is read -/
theorem Wi.ald (hE : EnvK E s) {g : Nat} {t i : Int} {a : AV} (hg : isA g) (h0 : 0 ≤ i) (hi : i < gl g) (ha : enc E a = aval E g i (M g t i)) (hok : MOK M → vld g t → aok a)
    (row : ∀ (H : Heap) (locs : List Loc) (ls : Array Slot) (rest : List Value) (cell : Cell), H[E.2.2.1 g t]? = some cell → s.isArrayOf cell (aY g) → cell.vm ≠ .unknown → ¬ (Int32.ofInt i < 0 ∨ cell.slots.size ≤ (Int32.ofInt i).toNatClampNeg) → cell.slots[(Int32.ofInt i).toNatClampNeg]? = some (enc E a) → W p l e R s m args below meth c H locs 0 0 Q (F0 m (pc + 1) ls (enc E a :: rest)) → W p l e R s m args below meth c H locs 0 0 Q (F0 m pc ls (enc E (aI i) :: enc E (aR g t) :: rest)))
    (kk : Wi p l e R s m args below meth c Q E nL (pc + 1) loc (a :: stk) M) : Wi p l e R s m args below meth c Q E nL pc loc (aI i :: aR g t :: stk) M := by
  intro H locs ls hC hL hl hs
  obtain ⟨hii, h2⟩ := List.forall_mem_cons.mp hs
  obtain ⟨hv, h3⟩ := List.forall_mem_cons.mp h2
  have hv : vld g t := hv
  have hii : in32 i := hii
  obtain ⟨cell, q1, q2, q3, q4, q5, q6⟩ := hC.2.2.1.2 g t hg hv.2.1 hv.2.2
  have hcl := i32_clamp hii h0
  have hin : i.toNat < gl g := by omega
  refine row _ _ _ _ cell q1 q2.1 q3 ?_ ?_ (kk H locs ls hC hL hl (List.forall_mem_cons.mpr ⟨hok hC.2.2.2 hv, h3⟩))
  · rw [hcl]
    intro h
    rcases h with h | h
    · have := (i32_lt hii in32_0).mp h
      omega
    · omega
  · rw [hcl, q6 _ hin, ha]
    show some (aval E g (i.toNat : Int) (M g t (i.toNat : Int))) = _
    rw [Int.toNat_of_nonneg h0]
/-- an array is written -/
theorem Wi.ast (hE : EnvK E s) {g : Nat} {t i x : Int} {a : AV} {w : Value} (hg : g ∈ gOwn) (h0 : 0 ≤ i) (hi : i < gl g) (hw : aok a → w = aval E g i x) (hok : aok a → aaok g x)
    (row : ∀ (H : Heap) (locs : List Loc) (ls : Array Slot) (rest : List Value) (cell : Cell), Cf E s H locs M → aok a → H[E.2.2.1 g t]? = some cell → ArrC (g ∈ gOwn) s cell (aY g) → cell.vm ≠ .unknown → ¬ (Int32.ofInt i < 0 ∨ cell.slots.size ≤ (Int32.ofInt i).toNatClampNeg) →
      (∀ H' : Heap, H'[E.2.2.1 g t]? = some (cell.setSlot (Int32.ofInt i).toNatClampNeg w) → H'.size = H.size → (∀ q, q ≠ E.2.2.1 g t → H'[q]? = H[q]?) → W p l e R s m args below meth c H' (locs ++ [⟨E.2.2.1 g t, (Int32.ofInt i).toNatClampNeg⟩]) 0 0 Q (F0 m (pc + 1) ls rest)) → W p l e R s m args below meth c H locs 0 0 Q (F0 m pc ls (enc E a :: enc E (aI i) :: enc E (aR g t) :: rest)))
    (kk : Wi p l e R s m args below meth c Q E nL (pc + 1) loc stk (mup M g t i x)) : Wi p l e R s m args below meth c Q E nL pc loc (a :: aI i :: aR g t :: stk) M := by
  intro H locs ls hC hL hl hs
  obtain ⟨hva, h1⟩ := List.forall_mem_cons.mp hs
  obtain ⟨hii, h2⟩ := List.forall_mem_cons.mp h1
  obtain ⟨hv, h3⟩ := List.forall_mem_cons.mp h2
  have hv : vld g t := hv
  have hii : in32 i := hii
  obtain ⟨cell, q1, q2, q3, q4, q5, q6⟩ := hC.2.2.1.2 g t (Or.inl hg) hv.2.1 hv.2.2
  have hcl := i32_clamp hii h0
  have hin : i.toNat < gl g := by omega
  refine row _ _ _ _ cell hC hva q1 q2 q3 ?_ (fun H' e1 e2 e3 => ?_)
  · rw [hcl]
    intro h
    rcases h with h | h
    · have := (i32_lt hii in32_0).mp h
      omega
    · omega
  rw [hcl] at e1 ⊢
  have hB : AA E (E.2.2.1 g t) := hE.2.1.2 g t (Or.inr hg) hv.2.1 hv.2.2
  refine kk H' _ ls ⟨hC.1.put e2 e3 hB, e2.trans hC.2.1, RepK.upd hE.2.1 (Or.inr hg) hv hC.2.2.1 e3 (fun g' t' i h => mup_other fun q => h ⟨q.1, q.2.1⟩) (fun h => (isO_nA h (Or.inl hg)).elim) (fun _ => ?_), ?_, ?_, ?_⟩ hL hl h3
  · refine ⟨_, e1, q2, q3, by simp [Cell.setSlot]; exact q4, by simp [Cell.setSlot]; exact q5, fun j hj => ?_⟩
    by_cases hj2 : j = i.toNat
    · subst hj2
      rw [Cell.slots_setSlot_self _ (k2_hasslot (q6 _ hin)), hw hva]
      show _ = some (aval E g (i.toNat : Int) (mup M g t i x g t (i.toNat : Int)))
      rw [Int.toNat_of_nonneg h0, mup_same]
    · rw [slot_ne _ _ (Ne.symm hj2), q6 j hj]
      show _ = some (aval E g j (mup M g t i x g t j))
      rw [mup_other (by omega)]
  · intro g' t' k' hg' h4 h5 hk'
    rw [mup_other (g := g) (g' := g') (fun q => isO_nA hg' (by rw [q.1]; exact Or.inl hg))]
    exact hC.2.2.2.1 g' t' k' hg' h4 h5 hk'
  · intro g' t' j hg' h4 h5 h6 h7
    by_cases he : g' = g ∧ t' = t ∧ j = i
    · obtain ⟨rfl, rfl, rfl⟩ := he
      rw [mup_same]
      exact hok hva
    · rw [mup_other he]
      exact hC.2.2.2.2.1 g' t' j hg' h4 h5 h6 h7
  · intro g' t' i hg' h0 h1
    rw [mup_other (g := g) (g' := g') (fun q => own_con hg (by rw [← q.1]; exact hg'))]
    exact hC.2.2.2.2.2 g' t' i hg' h0 h1
theorem Wi.alen (hx : p.tables.exec = Jvm.exec) (hb : c.code = cc) {g : Nat} {t : Int} (hg : isA g) (hdg : decode cc pc = .ok (.arraylength, 1))
    (kk : Wi p l e R s m args below meth c Q E nL (pc + 1) loc (aI (gl g) :: stk) M) : Wi p l e R s m args below meth c Q E nL pc loc (aR g t :: stk) M := by
  intro H locs ls hC hL hl hs
  obtain ⟨hv, h3⟩ := List.forall_mem_cons.mp hs
  have hv : vld g t := hv
  obtain ⟨cell, q1, q2, q3, q4, q5, q6⟩ := hC.2.2.1.2 g t hg hv.2.1 hv.2.2
  have hlt := tb_kl g (isA_mem hg)
  refine W.alen (n := Int32.ofInt (gl g)) hx hb q1 q2.1 (q5.trans ?_) rfl rfl hdg (kk H locs ls hC hL hl (List.forall_mem_cons.mpr ⟨?_, h3⟩))
  · rfl
  · show in32 _
    unfold in32
    omega
theorem Wi.gets (hx : p.tables.exec = Jvm.exec) (hb : c.code = cc) (hts : ∀ w ∈ lwg, w.before args s = true) (hown : s.vm.findClass own = some m.cls) (hE : EnvK E s) {q : String × String × String × AV} (hq : q ∈ gs) (hok : aok q.2.2.2)
    (hlink : Cond.fieldLink own idx q.1 q.2.1 q.2.2.1 ∈ lwg) (hdg : decode cc pc = .ok (.getstatic idx, 3))
    (kk : Wi p l e R s m args below meth c Q E nL (pc + 3) loc (q.2.2.2 :: stk) M) : Wi p l e R s m args below meth c Q E nL pc loc stk M := by
  intro H locs ls hC hL hl hs
  exact va_gets hx hb (hE.2.2.1 q hq) hC.1 hown (hts _ hlink) (fun _ h => h) hdg (kk H locs ls hC hL hl (List.forall_mem_cons.mpr ⟨hok, hs⟩))
theorem Wi.getsN (hx : p.tables.exec = Jvm.exec) (hb : c.code = cc) (hts : ∀ w ∈ lwg, w.before args s = true) (hown : s.vm.findClass own = some m.cls) (hE : EnvK E s) {q : String × String × String × AV} {host : String} (hq : q ∈ gs) (hok : aok q.2.2.2)
    (hlink : (own, idx, q.1, q.2.1, q.2.2.1, host) ∈ gfn) (hdg : decode cc pc = .ok (.getstatic idx, 3))
    (kk : Wi p l e R s m args below meth c Q E nL (pc + 3) loc (q.2.2.2 :: stk) M) : Wi p l e R s m args below meth c Q E nL pc loc stk M := by
  intro H locs ls hC hL hl hs
  exact va_getsN hx hb (hE.2.2.1 q hq) hC.1 hown (va_Nw.use rfl (hE.2.2.2.1 _ hlink)) (fun _ h => h) hdg (kk H locs ls hC hL hl (List.forall_mem_cons.mpr ⟨hok, hs⟩))
end HW
