/-! ===== wp1 is sound ===== -/
section WS
variable {p : Program} {l : Launch} {e : Env} {R : Room} {s : State} {m : MethodId} {args : Array Value} {below : List Frame} {meth : Method} {c : Code} {Q : State → Prop} {E : EV} {q : MD} {pc : Nat} {loc : Lc} {stk : List AV} {M : AMem}
theorem ret_ok {post : Option AV → AMem → Prop} {H : Heap} {locs : List Loc} {r : Option AV} (hC : Cf E s H locs M) (hr : ∀ a, r = some a → aok a) (hp : post r M) : ∀ t : State, t.heap = H → s.WarmedH t.vm → QcA E post args s (.returned (r.map (enc E))) t := by
  intro t ht hW
  refine ⟨r, M, rfl, hr, hp, by rw [ht]; exact hC.2.2.1.moved hW.alike, hC.2.2.2, by rw [ht]; exact hC.2.1, hC.1.F ht⟩
theorem isA_of {g : Nat} {t i : Int} (hv : vld g t) (hi : inr i g) : isA g := by
  rcases hv.1 with h | h | h
  · unfold isO at h
    unfold inr at hi
    exfalso
    have : gl g = 0 := by show g / 2048 = 0; omega
    rw [this] at hi
    omega
  · unfold isC at h
    unfold inr at hi
    exfalso
    have : gl g = 0 := by show g / 2048 = 0; omega
    rw [this] at hi
    omega
  · exact h
theorem own_of {g : Nat} (h : isA g) (h2 : g % 256 < 120) : g ∈ gOwn := by
  rcases h with h | h
  · exact h
  · exact absurd (tb_con g h) (by omega)
theorem Wi.sok_of (k : sok stk → Wi p l e R s m args below meth c Q E q.ml pc loc stk M) : Wi p l e R s m args below meth c Q E q.ml pc loc stk M := by
  intro H locs ls hC hL hl hs
  exact k hs H locs ls hC hL hl hs
theorem sok1 {a : AV} {st : List AV} (h : sok (a :: st)) : aok a := h a List.mem_cons_self
theorem sok2 {a b : AV} {st : List AV} (h : sok (a :: b :: st)) : aok b := h b (by simp)
theorem sok3 {a b d : AV} {st : List AV} (h : sok (a :: b :: d :: st)) : aok d := h d (by simp)
theorem aaok_prim {g : Nat} {x : Int} (h : aaok g x) (hk : gk g ≠ 2) (hk3 : gk g ≠ 3) : in32 x := by
  unfold aaok at h
  split at h
  · contradiction
  · contradiction
  · exact h
theorem aval_prim (E : EV) {g : Nat} {i x : Int} (hk : gk g ≠ 2) (hk3 : gk g ≠ 3) : aval E g i x = .int (Int32.ofInt x) := by
  unfold aval
  split
  · contradiction
  · contradiction
  · rfl
theorem aaok_int {g : Nat} {x : Int} (h : in32 x) (hk : gk g ≠ 2) (hk3 : gk g ≠ 3) : aaok g x := by
  unfold aaok
  split
  · contradiction
  · contradiction
  · exact h
/-- a simple array read -/
theorem Wi.ald1 (hE : EnvK E s) {g : Nat} {t i : Int} {k : Nat} {ty : FieldType} (hk : gk g = k) (hk2 : k ≠ 2) (hk3 : k ≠ 3) (hty : ∀ g ∈ gOwn ++ gCon, gk g = k → aY g = ty) (hi : inr i g)
    (row : ∀ (H : Heap) (locs : List Loc) (ls : Array Slot) (rest : List Value) (cell : Cell) (v : Value), H[E.2.2.1 g t]? = some cell → s.isArrayOf cell ty → cell.vm ≠ .unknown → ¬ (Int32.ofInt i < 0 ∨ cell.slots.size ≤ (Int32.ofInt i).toNatClampNeg) → cell.slots[(Int32.ofInt i).toNatClampNeg]? = some v → W p l e R s m args below meth c H locs 0 0 Q (F0 m (pc + 1) ls (v :: rest)) → W p l e R s m args below meth c H locs 0 0 Q (F0 m pc ls (.int (Int32.ofInt i) :: .ref (E.2.2.1 g t) :: rest)))
    (kk : Wi p l e R s m args below meth c Q E q.ml (pc + 1) loc (aI (M g t i) :: stk) M) : Wi p l e R s m args below meth c Q E q.ml pc loc (aI i :: aR g t :: stk) M := by
  refine Wi.sok_of fun hs => ?_
  have hA : isA g := isA_of (sok2 hs) hi
  have e1 := hty g (isA_mem hA) hk
  subst hk
  exact Wi.ald hE hA hi.1 hi.2 (a := aI (M g t i)) (aval_prim E hk2 hk3).symm (fun hM hv => aaok_prim (hM.2.1 g t i hA hv.2.1 hv.2.2 hi.1 hi.2) hk2 hk3) (fun H locs ls rest cell a1 a2 a3 a4 a5 k => row H locs ls rest cell _ a1 (by rw [← e1]; exact a2) a3 a4 a5 k) kk
/-- a simple array write -/
theorem Wi.ast1 (hE : EnvK E s) {g : Nat} {t i x y : Int} {k : Nat} {ty : FieldType} {w : Value} (hk : gk g = k) (hk2 : k ≠ 2) (hk3 : k ≠ 3) (hty : ∀ g ∈ gOwn ++ gCon, gk g = k → aY g = ty) (hi : inr i g) (ho : g % 256 < 120) (hw : in32 x → w = .int (Int32.ofInt y)) (hy : in32 x → in32 y)
    (row : ∀ (H : Heap) (locs : List Loc) (ls : Array Slot) (rest : List Value) (cell : Cell), H[E.2.2.1 g t]? = some cell → s.isArrayOf cell ty → cell.vm ≠ .unknown → ¬ (Int32.ofInt i < 0 ∨ cell.slots.size ≤ (Int32.ofInt i).toNatClampNeg) →
      (∀ H' : Heap, H'[E.2.2.1 g t]? = some (cell.setSlot (Int32.ofInt i).toNatClampNeg w) → H'.size = H.size → (∀ q, q ≠ E.2.2.1 g t → H'[q]? = H[q]?) → W p l e R s m args below meth c H' (locs ++ [⟨E.2.2.1 g t, (Int32.ofInt i).toNatClampNeg⟩]) 0 0 Q (F0 m (pc + 1) ls rest)) → W p l e R s m args below meth c H locs 0 0 Q (F0 m pc ls (.int (Int32.ofInt x) :: .int (Int32.ofInt i) :: .ref (E.2.2.1 g t) :: rest)))
    (kk : Wi p l e R s m args below meth c Q E q.ml (pc + 1) loc stk (mup M g t i y)) : Wi p l e R s m args below meth c Q E q.ml pc loc (aI x :: aI i :: aR g t :: stk) M := by
  refine Wi.sok_of fun hs => ?_
  have hA : isA g := isA_of (sok3 hs) hi
  have e1 := hty g (isA_mem hA) hk
  subst hk
  exact Wi.ast hE (own_of hA ho) hi.1 hi.2 (a := aI x) (x := y) (w := w) (fun h => by rw [aval_prim E hk2 hk3]; exact hw h) (fun h => aaok_int (hy h) hk2 hk3) (fun H locs ls rest cell _ _ a1 a2 a3 a4 k => row H locs ls rest cell a1 (by rw [← e1]; exact a2.1) a3 a4 k) kk
theorem tsw_inv {x : Int} {f : Nat → Prop} : ∀ (os : List Int) (lo : Int), tsw x f lo os → ∀ j : Nat, j < os.length → x = lo + j → ∃ o, os[j]? = some o ∧ f o.toNat
  | o :: os, lo, h, 0, _, hx => ⟨o, rfl, h.1 (by omega)⟩
  | o :: os, lo, h, j + 1, hj, hx => by
    obtain ⟨o', h1, h2⟩ := tsw_inv os (lo + 1) h.2 j (by simpa using hj) (by omega)
    exact ⟨o', by simpa using h1, h2⟩
  | [], _, _, j, hj, _ => absurd hj (by simp)
theorem okPairs_inv {pcs : List Nat} {pc : Nat} : ∀ (as bs : List Int), okPairs pcs pc as bs = true → as.length = bs.length ∧ ∀ (j : Nat) (a b : Int), as[j]? = some a → bs[j]? = some b → okT pcs pc a b = true
  | [], [], _ => ⟨rfl, fun j a b h => by simp at h⟩
  | a :: as, b :: bs, h => by
    unfold okPairs at h
    rw [Bool.and_eq_true] at h
    obtain ⟨h1, h2⟩ := okPairs_inv as bs h.2
    refine ⟨by simp [h1], fun j x y hx hy => ?_⟩
    cases j with
    | zero => simp at hx hy; subst hx; subst hy; exact h.1
    | succ j => exact h2 j x y (by simpa using hx) (by simpa using hy)
  | [], _ :: _, h => by unfold okPairs at h; cases h
  | _ :: _, [], h => by unfold okPairs at h; cases h
theorem lsw_inv {x : Int} {f : Nat → Prop} {pcs : List Nat} {pc : Nat} {d d' : Int} (hd : okT pcs pc d d' = true) : ∀ (ps ps' : List (Int × Int)), okLook pcs pc ps ps' = true → lsw x f d' ps' → ∃ (o : Int), okT pcs pc (Op.lookupswitch.offset ps d x) o = true ∧ f o.toNat
  | [], [], _, h => ⟨d', hd, h⟩
  | a :: as, b :: bs, h, hl => by
    unfold okLook at h
    simp only [Bool.and_eq_true, decide_eq_true_eq] at h
    obtain ⟨a1, a2⟩ := a
    obtain ⟨b1, b2⟩ := b
    obtain ⟨⟨h1, h2⟩, h3⟩ := h
    rw [Op.lookupswitch.offset_cons]
    by_cases hx : x = b1
    · rw [if_pos (by rw [hx]; exact h1)]
      exact ⟨b2, h2, hl.1 hx⟩
    · rw [if_neg (by intro e; exact hx (e ▸ h1))]
      exact lsw_inv hd as bs h3 (hl.2 hx)
  | [], _ :: _, h, _ => by unfold okLook at h; cases h
  | _ :: _, [], h, _ => by unfold okLook at h; cases h
end WS
