/-! ===== what the pools' tables say, checked ===== -/
def gval (g : Nat) : Bool := decide (1 ≤ g ∧ g ≤ 14) || gOwn.contains g || gCon.contains g
def fchk (q : Nat × Nat × Nat) : Bool :=
  decide (1 ≤ q.2.1 / 400 % 16 ∧ q.2.1 / 400 % 16 ≤ 11 ∧ q.2.1 / 4 % 100 < oN (q.2.1 / 400 % 16)) &&
  decide (lw_tbl[q.2.2]? = some (.fieldLink (cname (q.1 / 4096)) (q.1 % 4096) (oT (q.2.1 / 400 % 16) (q.2.1 / 4 % 100)).1 (oT (q.2.1 / 400 % 16) (q.2.1 / 4 % 100)).2.1 (oT (q.2.1 / 400 % 16) (q.2.1 / 4 % 100)).2.2.1)) &&
  (match oY (q.2.1 / 400 % 16) (q.2.1 / 4 % 100) with
   | .long => decide (q.2.1 % 4 = 2)
   | .int => decide (q.2.1 % 4 = 0)
   | .boolean => decide (q.2.1 % 4 = 1)
   | .object _ => decide (q.2.1 % 4 = 3 ∧ fR (q.2.1 / 400 % 16) (q.2.1 / 4 % 100) = (q.2.1 / 819200, ((q.2.1 / 6400 % 128 : Nat) : Int)) ∧ ((q.2.1 / 6400 % 128 : Nat) : Int) + gn (q.2.1 / 400 % 16) ≤ gn (q.2.1 / 819200)) && gval (q.2.1 / 819200)
   | .array _ => decide (q.2.1 % 4 = 3 ∧ fR (q.2.1 / 400 % 16) (q.2.1 / 4 % 100) = (q.2.1 / 819200, ((q.2.1 / 6400 % 128 : Nat) : Int)) ∧ ((q.2.1 / 6400 % 128 : Nat) : Int) + gn (q.2.1 / 400 % 16) ≤ gn (q.2.1 / 819200)) && gval (q.2.1 / 819200)
   | _ => false)
set_option maxRecDepth 100000 in
theorem pF_ok : pF.all fchk = true := by decide +kernel
def mchk (q : (MethodName × Nat × Nat × Option FieldType × Nat × Nat × Nat × Bool × Nat) × (Nat × Nat × Nat × Nat)) : Bool :=
  (match lw_tbl[q.1.2.1]? with
   | some (.code y _ n r) => decide (y = q.1.1 ∧ n = q.1.2.2.1 ∧ r = q.1.2.2.2.1)
   | _ => false) &&
  (match q.1.2.2.2.2.2.2.2.1 with
   | true => decide (lw_tbl[q.2.2.1]? = some (.static q.1.1))
   | false => decide (lw_tbl[q.2.2.1]? = some (.instanceMethod q.1.1)) && decide (lw_tbl[q.2.2.2.1]? = some (.selects (oC q.1.2.2.2.2.2.2.2.2) q.1.1 q.1.1)) && decide (q.1.1.cls = oC q.1.2.2.2.2.2.2.2.2 ∧ 1 ≤ q.1.2.2.2.2.2.2.2.2 ∧ q.1.2.2.2.2.2.2.2.2 ≤ 11)) &&
  decide (lw_tbl[q.2.2.2.2]? = some (.initialized q.1.1.cls)) &&
  decide (q.1.1.cls ≠ "java/lang/invoke/MethodHandle" ∧ q.1.1.cls ≠ "java/lang/invoke/VarHandle" ∧ (parseMethodDescriptor q.1.1.desc).map (fun d => d.parameters.length) = some q.1.2.2.2.2.2.1) &&
  decide (q.1.1.cls = cname q.1.2.2.2.2.2.2.1 ∧ q.1.2.2.1 ≤ 19 ∧ q.1.2.2.2.2.2.1 + 1 ≤ q.1.2.2.1 + 1)
set_option maxRecDepth 100000 in
theorem mD_0 : (((MDL.zip MDH).drop 0).take 14).all mchk = true := by decide +kernel
set_option maxRecDepth 100000 in
theorem mD_1 : (((MDL.zip MDH).drop 14).take 14).all mchk = true := by decide +kernel
set_option maxRecDepth 100000 in
theorem mD_2 : (((MDL.zip MDH).drop 28).take 14).all mchk = true := by decide +kernel
set_option maxRecDepth 100000 in
theorem mD_3 : (((MDL.zip MDH).drop 42).take 14).all mchk = true := by decide +kernel
set_option maxRecDepth 100000 in
theorem mD_4 : (((MDL.zip MDH).drop 56).take 14).all mchk = true := by decide +kernel
set_option maxRecDepth 100000 in
theorem mD_5 : (((MDL.zip MDH).drop 70).take 14).all mchk = true := by decide +kernel
set_option maxRecDepth 100000 in
theorem mD_6 : (((MDL.zip MDH).drop 84).take 14).all mchk = true := by decide +kernel
set_option maxRecDepth 100000 in
theorem mD_7 : (((MDL.zip MDH).drop 98).take 14).all mchk = true := by decide +kernel
set_option maxRecDepth 100000 in
theorem mD_8 : (((MDL.zip MDH).drop 112).take 14).all mchk = true := by decide +kernel
set_option maxRecDepth 100000 in
theorem mD_9 : (((MDL.zip MDH).drop 126).take 14).all mchk = true := by decide +kernel
set_option maxRecDepth 100000 in
theorem mD_10 : (((MDL.zip MDH).drop 140).take 14).all mchk = true := by decide +kernel
set_option maxRecDepth 100000 in
theorem mD_11 : (((MDL.zip MDH).drop 154).take 14).all mchk = true := by decide +kernel
set_option maxRecDepth 100000 in
theorem mD_12 : (((MDL.zip MDH).drop 168).take 14).all mchk = true := by decide +kernel
set_option maxRecDepth 100000 in
theorem mD_13 : (((MDL.zip MDH).drop 182).take 14).all mchk = true := by decide +kernel
set_option maxRecDepth 100000 in
theorem mD_14 : (((MDL.zip MDH).drop 196).take 14).all mchk = true := by decide +kernel
set_option maxRecDepth 100000 in
theorem mD_15 : (((MDL.zip MDH).drop 210).take 14).all mchk = true := by decide +kernel
set_option maxRecDepth 100000 in
theorem mD_16 : (((MDL.zip MDH).drop 224).take 14).all mchk = true := by decide +kernel
set_option maxRecDepth 100000 in
theorem mD_17 : (((MDL.zip MDH).drop 238).take 14).all mchk = true := by decide +kernel
set_option maxRecDepth 100000 in
theorem mD_18 : (((MDL.zip MDH).drop 252).take 14).all mchk = true := by decide +kernel
set_option maxRecDepth 100000 in
theorem mD_19 : (((MDL.zip MDH).drop 266).take 14).all mchk = true := by decide +kernel
set_option maxRecDepth 100000 in
theorem mD_20 : (((MDL.zip MDH).drop 280).take 14).all mchk = true := by decide +kernel
theorem all_chunks {α : Type} (f : α → Bool) (st : Nat) : ∀ (n : Nat) (l : List α), l.length ≤ n * st → (∀ k, k < n → ((l.drop (k * st)).take st).all f = true) → l.all f = true
  | 0, l, h, _ => by
    have : l = [] := List.length_eq_zero_iff.mp (by omega)
    rw [this]; rfl
  | n + 1, l, h, hk => by
    rw [← List.take_append_drop st l, List.all_append, Bool.and_eq_true]
    refine ⟨by simpa using hk 0 (by omega), all_chunks f st n (l.drop st) (by rw [List.length_drop, Nat.succ_mul] at *; omega) (fun k h2 => ?_)⟩
    have := hk (k + 1) (by omega)
    rw [List.drop_drop, show st + k * st = (k + 1) * st by rw [Nat.succ_mul]; omega]
    exact this
theorem mD_len : (MDL.zip MDH).length = 294 := by decide +kernel
theorem mD_len1 : MDL.length = 294 := by decide +kernel
theorem mD_ok : (MDL.zip MDH).all mchk = true := by
  refine all_chunks mchk 14 21 _ (by rw [mD_len]; omega) (fun k hk => ?_)
  match k, hk with
  | 0, _ => exact mD_0
  | 1, _ => exact mD_1
  | 2, _ => exact mD_2
  | 3, _ => exact mD_3
  | 4, _ => exact mD_4
  | 5, _ => exact mD_5
  | 6, _ => exact mD_6
  | 7, _ => exact mD_7
  | 8, _ => exact mD_8
  | 9, _ => exact mD_9
  | 10, _ => exact mD_10
  | 11, _ => exact mD_11
  | 12, _ => exact mD_12
  | 13, _ => exact mD_13
  | 14, _ => exact mD_14
  | 15, _ => exact mD_15
  | 16, _ => exact mD_16
  | 17, _ => exact mD_17
  | 18, _ => exact mD_18
  | 19, _ => exact mD_19
  | 20, _ => exact mD_20
  | k + 21, h => exact absurd h (by omega)
def lchk (q : Nat × Nat × Nat) : Bool := decide (lw_tbl[q.2.2]? = some (.methodLink (cname (q.1 / 4096)) (q.1 % 4096) (mtab q.2.1).1)) && decide (q.2.1 < MDL.length)
set_option maxRecDepth 100000 in
theorem pM_ok : pM.all lchk = true := by decide +kernel
/-- calls and reads of constants -/
def xchk (q : Nat × Nat × Nat) : Bool := match q.2.1 with
  | 12 => decide (lw_tbl[q.2.2]? = some (.methodLink (cname (q.1 / 4096)) (q.1 % 4096) ⟨"StaticKernel$Kind", "ordinal", "()I"⟩))
  | 13 => decide (lw_tbl[q.2.2]? = some (.methodLink (cname (q.1 / 4096)) (q.1 % 4096) ⟨"StaticKernel$Role", "ordinal", "()I"⟩))
  | 100 => decide (lw_tbl[q.2.2]? = some (.fieldLink (cname (q.1 / 4096)) (q.1 % 4096) "StaticKernel$Kind" "word" "Ljava/lang/String;"))
  | 101 => decide (lw_tbl[q.2.2]? = some (.fieldLink (cname (q.1 / 4096)) (q.1 % 4096) "StaticKernel$Role" "wanted" "I"))
  | 200 => decide (lw_tbl[q.2.2]? = some (.methodLink (cname (q.1 / 4096)) (q.1 % 4096) ⟨"java/lang/String", "length", "()I"⟩))
  | 201 => decide (lw_tbl[q.2.2]? = some (.methodLink (cname (q.1 / 4096)) (q.1 % 4096) ⟨"java/lang/String", "charAt", "(I)C"⟩))
  | _ => false
theorem pX_ok : pX.all xchk = true := by decide +kernel
def kchk (q : Nat × Int × Nat) : Bool := decide (lw_tbl[q.2.2]? = some (.constant (cname (q.1 / 4096)) (q.1 % 4096) (Int32.ofInt q.2.1))) && decide (-2147483648 ≤ q.2.1 ∧ q.2.1 < 2147483648)
theorem pK_ok : pK.all kchk = true := by decide +kernel
def kchkL (q : Nat × Nat × Nat) : Bool := decide (lw_tbl[q.2.2]? = some (.constantLong (cname (q.1 / 4096)) (q.1 % 4096) (Int64.ofInt q.2.1))) && decide (q.2.1 < 9223372036854775808)
theorem pL_ok : pL.all kchkL = true := by decide +kernel
def schk (q : Nat × Nat × Nat × Nat) : Bool := (match gs[q.2.2.1]? with
  | some z => decide (z.2.2.2 = aR (q.2.1 / 64) ((q.2.1 % 64 : Nat) : Int)) && decide (lw_tbl[q.2.2.2]? = some (.fieldLink (cname (q.1 / 4096)) (q.1 % 4096) z.1 z.2.1 z.2.2.1)) && gval (q.2.1 / 64) && decide (((q.2.1 % 64 : Nat) : Int) < gn (q.2.1 / 64))
  | none => false)
set_option maxRecDepth 100000 in
theorem pS_ok : pS.all schk = true := by decide +kernel
def nchk (q : Nat × Nat × Nat) : Bool := (match gs[q.2.2]? with
  | some z => decide (z.2.2.2 = aR (q.2.1 / 64) ((q.2.1 % 64 : Nat) : Int)) && gfn.contains (cname (q.1 / 4096), q.1 % 4096, z.1, z.2.1, z.2.2.1, "StaticKernel") && gval (q.2.1 / 64) && decide (((q.2.1 % 64 : Nat) : Int) < gn (q.2.1 / 64))
  | none => false)
theorem pN_ok : pN.all nchk = true := by decide +kernel
theorem gval_ok {g : Nat} (h : gval g = true) : isO g ∨ isC g ∨ isA g := by
  unfold gval at h
  simp only [Bool.or_eq_true, decide_eq_true_eq, List.contains_iff_mem] at h
  rcases h with (h | h) | h
  · unfold isO isC
    by_cases h2 : g ≤ 11
    · exact Or.inl ⟨h.1, h2⟩
    · exact Or.inr (Or.inl (by omega))
  · exact Or.inr (Or.inr (Or.inl h))
  · exact Or.inr (Or.inr (Or.inr h))
theorem lwg_at {w : Cond} {i : Nat} (h : lw_tbl[i]? = some w) (hg : goodWord w = true) : w ∈ lwg := List.mem_filter.mpr ⟨List.mem_of_getElem? h, hg⟩
