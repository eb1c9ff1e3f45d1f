/-! ===== the environment at the law's entry ===== -/
theorem nl_gA : nl.all (fun q => gAo.contains q.1) = true := by decide +kernel
theorem gA_no : ∀ g ∈ [12, 13, 14, 62328, 14457, 61562, 39035], g ∉ gAo := by decide +kernel
theorem f_gfn : ∀ q ∈ gfn, Cond.fieldLinkNest q.1 q.2.1 q.2.2.1 q.2.2.2.1 q.2.2.2.2.1 q.2.2.2.2.2 ∈ lw_tbl := by decide +kernel
theorem f_gmn : ∀ q ∈ gmn, Cond.methodLinkNest q.1 q.2.1 q.2.2.1 q.2.2.2 ∈ lw_tbl := by decide +kernel
theorem f_ao : (∀ k ∈ [8, 9, 10, 12, 13], Cond.arrayOver (.object (cN k)) ∈ lw_tbl) ∧ Cond.arrayOver (.array .long) ∈ lw_tbl := by decide +kernel
theorem va_OF.inj {o n d : String} {x y : Int32} {a : Nat} {A : Nat → Prop} {U : State} {H : Heap} (h1 : va_OF o n d (.int x) a A U H) (h2 : va_OF o n d (.int y) a A U H) : x = y := by
  obtain ⟨cf, k, i, f, cell, a1, a2, a3, a4, a5, a6⟩ := h1
  obtain ⟨cf', k', i', f', cell', b1, b2, b3, b4, b5, b6⟩ := h2
  cases a1.symm.trans b1
  cases a3.symm.trans b3
  cases a5.symm.trans b5
  rfl
theorem va_O.lt {C : String} {a : Nat} {A : Nat → Prop} {U : State} {H : Heap} (h : va_O C a A U H) : a < H.size := by
  obtain ⟨cell, h1, -⟩ := h
  exact (Array.getElem?_eq_some_iff.mp h1).1
theorem va_T.lt {ty : FieldType} {a N : Nat} {f : Nat → Value} {A : Nat → Prop} {U : State} {H : Heap} (h : va_T ty a N f A U H) : a < H.size := by
  obtain ⟨cell, h1, -⟩ := h
  exact (Array.getElem?_eq_some_iff.mp h1).1
def adr (b : Nat) (k r w cn : Nat → Nat) (g : Nat) (t : Int) : Nat := if g ∈ gAo then b + od g t else if g = 12 then k t.toNat else if g = 13 then r t.toNat else if g = 14 then w t.toNat else cn g
theorem own_gA {g : Nat} (h : isOwn g) : g ∈ gAo := by
  rcases h with h | h
  · exact nl_all1 g (isO_mem h)
  · exact nl_all2 g h
theorem adr_own {b : Nat} {k r w cn : Nat → Nat} {g : Nat} {t : Int} (h : isOwn g) : adr b k r w cn g t = b + od g t := if_pos (own_gA h)
theorem adr_12 {b : Nat} {k r w cn : Nat → Nat} {t : Int} : adr b k r w cn 12 t = k t.toNat := by
  unfold adr
  rw [if_neg (gA_no 12 (by decide)), if_pos rfl]
theorem adr_13 {b : Nat} {k r w cn : Nat → Nat} {t : Int} : adr b k r w cn 13 t = r t.toNat := by
  unfold adr
  rw [if_neg (gA_no 13 (by decide)), if_neg (by decide), if_pos rfl]
theorem adr_14 {b : Nat} {k r w cn : Nat → Nat} {t : Int} : adr b k r w cn 14 t = w t.toNat := by
  unfold adr
  rw [if_neg (gA_no 14 (by decide)), if_neg (by decide), if_neg (by decide), if_pos rfl]
theorem adr_c {b : Nat} {k r w cn : Nat → Nat} {g : Nat} {t : Int} (h : g ∈ gCon) : adr b k r w cn g t = cn g := by
  have h' : g ∈ [62328, 14457, 61562, 39035] := h
  have h2 : g ∉ gAo := gA_no g (List.mem_cons_of_mem _ (List.mem_cons_of_mem _ (List.mem_cons_of_mem _ h')))
  have h3 := tb_big g (List.mem_append_right _ h)
  unfold adr
  rw [if_neg h2, if_neg (by omega), if_neg (by omega), if_neg (by omega)]
theorem envc_0 {args : Array Value} {s : State} (hts : ∀ w ∈ lw_tbl, w.before args s = true) (hg : ∀ w ∈ flw, w.before args s = true) : ∃ E : EV, E.2.2.2.1 = s.heap.size ∧ EnvC E s ∧ ∀ (g : Nat) (t : Int), g ∈ gCon → 0 ≤ t → t < gn g → ArrK (g ∈ gOwn) s s.heap (E.2.2.1 g t) (aY g) (gl g) (fun j => aval E g j (M0 g t j)) ∧ E.2.2.1 g t < s.heap.size := by
  obtain ⟨k, r, w, cn, K⟩ := cst_0 (A := fun q => s.heap.size ≤ q ∧ q < s.heap.size + 300) hts hg (fun a h z => by omega)
  have hcs : ∀ g : Nat, ∃ q : ClassId × (Nat → Nat), isO g → u_Kn s (oC g) (oT g) (oN g) q.1 q.2 := fun g => by
    by_cases h : isO g
    · obtain ⟨cC, iS, hK⟩ := u_known (fun w hw => hts w (List.mem_filter.mp hw).1) (tb_in h) (hts _ (List.mem_filter.mp (mch_at h).2.2.2.1).1)
      exact ⟨(cC, iS), fun _ => hK⟩
    · exact ⟨(0, fun _ => 0), fun z => absurd z h⟩
  obtain ⟨cs, hcs⟩ := Classical.axiomOfChoice hcs
  obtain ⟨Kk, Kr, Kw, KJ, KR, Kc, Kz1, Kz2, Kz3, Kz4⟩ := K
  have hlt : ∀ (g : Nat) (t : Int), ¬ isOwn g → vld g t → adr s.heap.size k r w cn g t < s.heap.size := by
    intro g t ho hv
    rcases hv.1 with h | h | h | h
    · exact (ho (Or.inl h)).elim
    · have h1 := hv.2.1
      have h2 := hv.2.2
      unfold isC at h
      have : g = 12 ∨ g = 13 ∨ g = 14 := by omega
      rcases this with rfl | rfl | rfl
      · have h2 : t < 30 := h2
        rw [adr_12]
        exact (Kk t.toNat (by omega)).2.1.lt
      · have h2 : t < 19 := h2
        rw [adr_13]
        exact (Kr t.toNat (by omega)).2.1.lt
      · have h2 : t < 27 := h2
        rw [adr_14]
        exact (Kw t.toNat (by omega)).1.lt
    · exact (ho (Or.inr h)).elim
    · rw [adr_c h]
      exact (Kc g h).lt
  refine ⟨(fun g => (cs g).1, fun g => (cs g).2, adr s.heap.size k r w cn, s.heap.size, s.heap.size + 300), rfl, ⟨⟨fun g h => hcs g h, ⟨⟨?_, ?_⟩, ?_⟩, ?_, fun q hq => va_Nw.of rfl (hts _ (f_gfn q hq)), fun q hq => va_Nw.of rfl (hts _ (f_gmn q hq)), ?_, ?_, ?_, KJ, ?_⟩, ?_, rfl, fun k hk => va_AO.of (hts _ (f_ao.1 k hk)), hts _ f_ao.2⟩, ?_⟩
  · intro g g' t t' ho hv hv' e
    have e : adr s.heap.size k r w cn g t = adr s.heap.size k r w cn g' t' := e
    by_cases ho' : isOwn g'
    · rw [adr_own ho, adr_own ho'] at e
      have h1 := nl_own ho hv.2.1 hv.2.2
      have h2 := nl_own ho' hv'.2.1 hv'.2.2
      have : od g t = od g' t' := by omega
      rw [this, h2] at h1
      cases h1
      exact ⟨rfl, rfl⟩
    · have := hlt g' t' ho' hv'
      rw [← e, adr_own ho] at this
      omega
  · intro g t t' hgg hv hv' e
    have e : adr s.heap.size k r w cn g t = adr s.heap.size k r w cn g t' := e
    have a1 := hv.2.1
    have a2 := hv'.2.1
    rcases hgg with rfl | rfl
    · have b1 : t < 30 := hv.2.2
      have b2 : t' < 30 := hv'.2.2
      rw [adr_12, adr_12] at e
      have h1 := (Kk t.toNat (by omega)).2.2.1
      have h2 := (Kk t'.toNat (by omega)).2.2.1
      rw [e] at h1
      have h3 := h1.inj h2
      have := (i32_eq (in30 (show (0 : Int) ≤ (t.toNat : Int) by omega) (by omega)) (in30 (show (0 : Int) ≤ (t'.toNat : Int) by omega) (by omega))).mp h3
      omega
    · have b1 : t < 19 := hv.2.2
      have b2 : t' < 19 := hv'.2.2
      rw [adr_13, adr_13] at e
      have h1 := (Kr t.toNat (by omega)).2.2.1
      have h2 := (Kr t'.toNat (by omega)).2.2.1
      rw [e] at h1
      have h3 := h1.inj h2
      have := (i32_eq (in30 (show (0 : Int) ≤ (t.toNat : Int) by omega) (by omega)) (in30 (show (0 : Int) ≤ (t'.toNat : Int) by omega) (by omega))).mp h3
      omega
  · intro g t ho h0 h1
    have hn := nl_lt (nl_own ho h0 h1)
    show s.heap.size ≤ adr s.heap.size k r w cn g t ∧ adr s.heap.size k r w cn g t < s.heap.size + 300
    rw [adr_own ho]
    omega
  · intro q hq
    rw [gs_eq] at hq
    rcases List.mem_append.mp hq with h | h
    · obtain ⟨i, hi, rfl⟩ := List.mem_map.mp h
      have := (Kk i (List.mem_range.mp hi)).1
      show va_Z _ _ _ (.ref (adr s.heap.size k r w cn 12 (i : Int))) _ _ _
      rw [adr_12]
      exact this
    · rcases List.mem_append.mp h with h | h
      · obtain ⟨i, hi, rfl⟩ := List.mem_map.mp h
        have := (Kr i (List.mem_range.mp hi)).1
        show va_Z _ _ _ (.ref (adr s.heap.size k r w cn 13 (i : Int))) _ _ _
        rw [adr_13]
        exact this
      · simp only [List.mem_cons, List.not_mem_nil, or_false] at h
        rcases h with rfl | rfl | rfl | rfl
        · show va_Z _ _ _ (.ref (adr s.heap.size k r w cn 62328 0)) _ _ _
          rw [adr_c (by decide)]
          exact Kz1
        · show va_Z _ _ _ (.ref (adr s.heap.size k r w cn 14457 0)) _ _ _
          rw [adr_c (by decide)]
          exact Kz2
        · show va_Z _ _ _ (.ref (adr s.heap.size k r w cn 61562 0)) _ _ _
          rw [adr_c (by decide)]
          exact Kz3
        · show va_Z _ _ _ (.ref (adr s.heap.size k r w cn 39035 0)) _ _ _
          rw [adr_c (by decide)]
          exact Kz4
  · intro t h0 h1
    have h := Kk t.toNat (by omega)
    have e : ((t.toNat : Nat) : Int) = t := Int.toNat_of_nonneg h0
    rw [e] at h
    show va_O _ (adr s.heap.size k r w cn 12 t) _ _ _ ∧ va_OF _ _ _ _ (adr s.heap.size k r w cn 12 t) _ _ _ ∧ va_OF _ _ _ (.ref (adr s.heap.size k r w cn 14 (kwd t))) (adr s.heap.size k r w cn 12 t) _ _ _
    rw [adr_12, adr_14]
    exact ⟨h.2.1, h.2.2.1, h.2.2.2⟩
  · intro t h0 h1
    have h := Kr t.toNat (by omega)
    have e : ((t.toNat : Nat) : Int) = t := Int.toNat_of_nonneg h0
    rw [e] at h
    show va_O _ (adr s.heap.size k r w cn 13 t) _ _ _ ∧ va_OF _ _ _ _ (adr s.heap.size k r w cn 13 t) _ _ _ ∧ va_OF _ _ _ _ (adr s.heap.size k r w cn 13 t) _ _ _
    rw [adr_13]
    exact ⟨h.2.1, h.2.2.1, h.2.2.2⟩
  · intro t h0 h1
    show JS _ (adr s.heap.size k r w cn 14 t) _ _ _
    rw [adr_14]
    exact Kw t.toNat (by omega)
  · show vk_R _ _ _ (adr s.heap.size k r w cn 14 0) s
    rw [adr_14]
    exact KR
  · intro g t h
    have h1 := List.all_eq_true.mp nl_gA _ (List.mem_of_getElem? h)
    exact if_pos (by simpa using h1)
  · intro g t h h0 h1
    have hK := Kc g h
    refine ⟨?_, by show adr s.heap.size k r w cn g t < s.heap.size; rw [adr_c h]; exact hK.lt⟩
    obtain ⟨cell, q1, q2, q3, q4, q5, q6, -⟩ := hK
    show ArrK (g ∈ gOwn) s s.heap (adr s.heap.size k r w cn g t) (aY g) (gl g) _
    rw [adr_c h]
    refine ⟨cell, q1, ⟨q2, fun z => (own_con z h).elim⟩, q3, q4, q5, fun j hj => ?_⟩
    rw [q6 j hj]
    congr 1
    dsimp only
    rw [M0_c h]
    unfold aval
    rcases (con_4 g h).2 with z | z
    · rw [if_pos z, z]
      try rfl
    · subst z
      show Value.ref (k j) = .ref (adr s.heap.size k r w cn 12 (0 + (j : Int)))
      rw [adr_12, Int.zero_add, Int.toNat_natCast]
