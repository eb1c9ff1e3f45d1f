/-! ===== calls and reads of constants ===== -/
theorem pX_inv {o i n : Nat} (h : (pX.any fun z => decide (z.1 = o * 4096 + i ∧ z.2.1 = n ∧ i < 4096)) = true) : ∃ k, xchk (o * 4096 + i, n, k) = true ∧ i < 4096 := by
  obtain ⟨z, hz, hq⟩ := List.any_eq_true.mp h
  obtain ⟨h1, h2, h3⟩ := of_decide_eq_true hq
  have hc := List.all_eq_true.mp pX_ok z hz
  obtain ⟨z1, z2, z3⟩ := z
  subst h1; subst h2
  exact ⟨z3, hc, h3⟩
theorem pX_word {o i n : Nat} {w : Cond} (hg : goodWord w = true) (h : (pX.any fun z => decide (z.1 = o * 4096 + i ∧ z.2.1 = n ∧ i < 4096)) = true) (hx : ∀ k, xchk (o * 4096 + i, n, k) = true → i < 4096 → lw_tbl[k]? = some w) : w ∈ lwg := by
  obtain ⟨k, h1, h2⟩ := pX_inv h
  exact lwg_at (hx k h1 h2) hg
theorem x_div {o i : Nat} (h : i < 4096) : (o * 4096 + i) / 4096 = o ∧ (o * 4096 + i) % 4096 = i := by omega
theorem pX_12 {o i : Nat} (h : (pX.any fun z => decide (z.1 = o * 4096 + i ∧ z.2.1 = 12 ∧ i < 4096)) = true) : Cond.methodLink (cname o) i ⟨"StaticKernel$Kind", "ordinal", "()I"⟩ ∈ lwg := pX_word rfl h fun k hk hi => by
  have := of_decide_eq_true hk
  dsimp only at this
  rwa [(x_div hi).1, (x_div hi).2] at this
theorem pX_13 {o i : Nat} (h : (pX.any fun z => decide (z.1 = o * 4096 + i ∧ z.2.1 = 13 ∧ i < 4096)) = true) : Cond.methodLink (cname o) i ⟨"StaticKernel$Role", "ordinal", "()I"⟩ ∈ lwg := pX_word rfl h fun k hk hi => by
  have := of_decide_eq_true hk
  dsimp only at this
  rwa [(x_div hi).1, (x_div hi).2] at this
theorem pX_100 {o i : Nat} (h : (pX.any fun z => decide (z.1 = o * 4096 + i ∧ z.2.1 = 100 ∧ i < 4096)) = true) : Cond.fieldLink (cname o) i "StaticKernel$Kind" "word" "Ljava/lang/String;" ∈ lwg := pX_word rfl h fun k hk hi => by
  have := of_decide_eq_true hk
  dsimp only at this
  rwa [(x_div hi).1, (x_div hi).2] at this
theorem pX_101 {o i : Nat} (h : (pX.any fun z => decide (z.1 = o * 4096 + i ∧ z.2.1 = 101 ∧ i < 4096)) = true) : Cond.fieldLink (cname o) i "StaticKernel$Role" "wanted" "I" ∈ lwg := pX_word rfl h fun k hk hi => by
  have := of_decide_eq_true hk
  dsimp only at this
  rwa [(x_div hi).1, (x_div hi).2] at this
theorem pX_200 {o i : Nat} (h : (pX.any fun z => decide (z.1 = o * 4096 + i ∧ z.2.1 = 0 + 200 ∧ i < 4096)) = true) : Cond.methodLink (cname o) i j_len.y ∈ lwg := pX_word rfl h fun k hk hi => by
  have := of_decide_eq_true hk
  dsimp only at this
  rwa [(x_div hi).1, (x_div hi).2] at this
theorem pX_201 {o i : Nat} (h : (pX.any fun z => decide (z.1 = o * 4096 + i ∧ z.2.1 = 1 + 200 ∧ i < 4096)) = true) : Cond.methodLink (cname o) i j_chr.y ∈ lwg := pX_word rfl h fun k hk hi => by
  have := of_decide_eq_true hk
  dsimp only at this
  rwa [(x_div hi).1, (x_div hi).2] at this
theorem in30 {t : Int} (h0 : 0 ≤ t) (h1 : t < 100) : in32 t := ⟨by omega, by omega⟩
theorem kwd_all : ∀ k, k < 30 → kwdL.getD k 0 < 27 := by decide
theorem rwt_all : ∀ k, k < 19 → -1 ≤ rwtL.getD k 0 ∧ rwtL.getD k 0 < 7 := by decide
theorem str_all : ∀ k, k < 27 → (strL.getD k []).length < 200 ∧ ∀ j, j < (strL.getD k []).length → (strL.getD k []).getD j 0 < 128 ∧ Int32.ofInt (((strL.getD k []).getD j 0 : Nat) : Int) &&& 255 = Int32.ofInt (((strL.getD k []).getD j 0 : Nat) : Int) := by decide +kernel
theorem kwd_ok {t : Int} (h0 : 0 ≤ t) (h1 : t < gn 12) : aok (aR 14 (kwd t)) := by
  have h1 : t < 30 := h1
  have := kwd_all t.toNat (by omega)
  refine ⟨Or.inr (Or.inl ⟨by decide, by decide⟩), ?_, ?_⟩
  · unfold kwd; omega
  · show kwd t < 27
    unfold kwd; omega
theorem rwt_ok {t : Int} (h0 : 0 ≤ t) (h1 : t < gn 13) : aok (aI (rwt t)) := by
  have h1 : t < 19 := h1
  have := rwt_all t.toNat (by omega)
  show in32 (rwt t)
  unfold rwt in32; omega
section WX
variable {p : Program} {l : Launch} {e : Env} {R : Room} {s : State} {m : MethodId} {args : Array Value} {below : List Frame} {meth : Method} {c : Code} {Q : State → Prop} {E : EV} {q : MD} {pc : Nat} {loc : Lc} {stk : List AV} {M : AMem}
theorem Wi.ord (hF : Fr p R s m args meth c E q) {idx : Nat} {C : String} {g : Nat} {t : Int} (hlv : 1 ≤ q.lv) (hlink : Cond.methodLink (cname q.o) idx ⟨C, "ordinal", "()I"⟩ ∈ lwg) (hsame : Cond.sameMethod C "java/lang/Enum" "ordinal" "()I" ∈ lwg) (hsel : Cond.selects C ⟨C, "ordinal", "()I"⟩ j_ord.y ∈ lwg) (hin : in32 t)
    (hO : va_O C (E.2.2.1 g t) (AA E) s s.heap) (hV : va_OF "java/lang/Enum" "ordinal" "I" (.int (Int32.ofInt t)) (E.2.2.1 g t) (AA E) s s.heap) (hst : stk.length ≤ 4) (hdg : decode q.b pc = .ok (.invokevirtual idx, 3))
    (kk : Wi p l e R s m args below meth c Q E q.ml (pc + 3) loc (aI t :: stk) M) : Wi p l e R s m args below meth c Q E q.ml pc loc (aR g t :: stk) M := by
  obtain ⟨hx, hb, hmx, hown, hts, hE, -, -, hR⟩ := hF
  intro H locs ls hC hL hl hs
  refine W.pcall (r := some (.int (Int32.ofInt t))) (rest := stk.map (enc E)) (va_runU (As := []) (b := E.2.2.1 g t) (Ts := lwg) (own := cname q.o) (cc := q.b) (nL := q.ml) ⟨hx, hb, hmx, hown, hts⟩ (j_ordinal l (AA E) (E.2.2.1 g t) (Int32.ofInt t)) (va_cwU (C := C) (owner := "java/lang/Enum") (index := idx) (x := ⟨C, "ordinal", "()I"⟩) 0 hts (fun w hw => ?_) rfl rfl rfl rfl ⟨by decide, by decide, show Option.map (fun d => d.parameters.length) (parseMethodDescriptor "()I") = some 0 by decide +kernel⟩ ⟨?_, ?_⟩) ⟨JP.blind (fun u U hvm hh h => (h.moved hvm).kept (fun q _ _ => by rw [hh])), va_Orecv hO hC.1, fun U hU hW => ⟨rfl, (hV.moved hW.alike).kept (fun a h1 h2 => by rw [hU]; exact hC.1.2.1 a h1 h2)⟩⟩ rfl rfl hL.1 rfl (lv_room (Nat.le_trans (cat_le E stk) (by omega))) hdg ⟨by rw [hR]; exact Nat.le_refl _, by rw [hR]; exact Nat.le_refl _⟩) ?_
  · rcases List.mem_append.mp (show w ∈ ([Cond.methodLink (cname q.o) idx ⟨C, "ordinal", "()I"⟩, Cond.sameMethod C "java/lang/Enum" "ordinal" "()I", Cond.selects C ⟨C, "ordinal", "()I"⟩ j_ord.y, Cond.instanceMethod j_ord.y, Cond.initialized j_ord.y.cls] : List Cond) ++ wsJ j_ord from hw) with h | h
    · have : w ∈ lwg := by
        simp only [List.mem_cons, List.not_mem_nil, or_false] at h
        rcases h with rfl | rfl | rfl | rfl | rfl
        · exact hlink
        · exact hsame
        · exact hsel
        · exact jws_ok _ (by decide +kernel)
        · exact jws_ok _ (by decide +kernel)
      exact ⟨this, good_of_word (List.mem_filter.mp this).2⟩
    · exact jq_good (by decide +kernel) w h
  · rw [hR]; exact hlv
  · rw [hR]; show 8 + (1 + 11) + 38 * 0 ≤ 38 * q.lv; omega
  · exact kk H locs ls hC hL hl (List.forall_mem_cons.mpr ⟨hin, (List.forall_mem_cons.mp hs).2⟩)
theorem ofNat_shr0 (n : Nat) : Int32.ofNat n >>> ((0 : Int32) &&& 31) = Int32.ofNat n := by
  rw [show ((0 : Int32) &&& 31) = 0 from rfl]
  simp
theorem Wi.slen (hF : Fr p R s m args meth c E q) {idx : Nat} {t : Int} (hlv : 4 ≤ q.lv) (hlink : Cond.methodLink (cname q.o) idx j_len.y ∈ lwg) (hst : stk.length ≤ 4) (hdg : decode q.b pc = .ok (.invokevirtual idx, 3))
    (kk : Wi p l e R s m args below meth c Q E q.ml (pc + 3) loc (aI (sLen t) :: stk) M) : Wi p l e R s m args below meth c Q E q.ml pc loc (aR 14 t :: stk) M := by
  obtain ⟨hx, hb, hmx, hown, hts, hE, -, -, hR⟩ := hF
  intro H locs ls hC hL hl hs
  have hv : vld 14 t := sok1 hs
  have hv2 : t < 27 := hv.2.2
  have hJ := hE.2.2.2.2.2.2.2.1 t hv.2.1 hv.2.2
  have hJC := hE.2.2.2.2.2.2.2.2.1
  have hlen := (str_all t.toNat (by have := hv.2.1; omega)).1
  refine W.pcall (r := some (.int (Int32.ofNat (sLen t)))) (rest := stk.map (enc E)) (va_runV (As := []) (b := E.2.2.1 14 t) (Ts := lwg) (own := cname q.o) (cc := q.b) (nL := q.ml) ⟨hx, hb, hmx, hown, hts⟩ (j_length l (AA E) (E.2.2.1 14 t) (sLen t) _ (ofNat_shr0 _)) (cwV (C := "java/lang/String") (index := idx) 0 hts (fun w hw => ?_) rfl rfl rfl (by decide +kernel) ⟨?_, ?_⟩) ⟨JP.blind JSC.same, va_Orecv hJ.1 hC.1, fun U hU hW => ⟨rfl, hJ.moved hW.alike (fun a h1 h2 => by rw [hU]; exact hC.1.2.1 a h1 h2), hJC.moved hW.alike (fun a h1 h2 => by rw [hU]; exact hC.1.2.1 a h1 h2)⟩⟩ rfl rfl hL.1 rfl (lv_room (Nat.le_trans (cat_le E stk) (by omega))) hdg ⟨by rw [hR]; exact Nat.le_refl _, by rw [hR]; exact Nat.le_refl _⟩) ?_
  · rcases List.mem_append.mp (show w ∈ ([Cond.methodLink (cname q.o) idx j_len.y, Cond.instanceMethod j_len.y, Cond.selects "java/lang/String" j_len.y j_len.y, Cond.initialized "java/lang/String"] : List Cond) ++ wsJ j_len from hw) with h | h
    · have : w ∈ lwg := by
        simp only [List.mem_cons, List.not_mem_nil, or_false] at h
        rcases h with rfl | rfl | rfl | rfl
        · exact hlink
        · exact jws_ok _ (by decide +kernel)
        · exact jws_ok _ (by decide +kernel)
        · exact jws_ok _ (by decide +kernel)
      exact ⟨this, good_of_word (List.mem_filter.mp this).2⟩
    · exact jq_good (by decide +kernel) w h
  · rw [hR]; show 1 + 1 ≤ q.lv; omega
  · rw [hR]; show 8 + (1 + 11) + 38 * 1 ≤ 38 * q.lv; omega
  · refine kk H locs ls hC hL hl (List.forall_mem_cons.mpr ⟨?_, (List.forall_mem_cons.mp hs).2⟩)
    show in32 _
    unfold in32 sLen
    omega
theorem chr_u16 {x : Int} (h0 : 0 ≤ x) (h1 : x < 128) : ((Int32.ofInt x).toUInt32 % 65536).toInt32 = Int32.ofInt x := by
  rw [w16u_ok]
  congr 1
  unfold w16u
  omega
theorem chr_nar {x : Int} (h0 : 0 ≤ x) (h1 : x < 128) : narrow .char (.int (Int32.ofInt x)) = .int (Int32.ofInt x) := by
  conv => rhs; rw [← chr_u16 h0 h1, u16_ok]
  rfl
theorem Wi.schr (hF : Fr p R s m args meth c E q) {idx : Nat} {t i : Int} (hlv : 4 ≤ q.lv) (hlink : Cond.methodLink (cname q.o) idx j_chr.y ∈ lwg) (hi0 : 0 ≤ i) (hi1 : i < sLen t) (hst : stk.length ≤ 4) (hdg : decode q.b pc = .ok (.invokevirtual idx, 3))
    (kk : Wi p l e R s m args below meth c Q E q.ml (pc + 3) loc (aI (sByt t i.toNat) :: stk) M) : Wi p l e R s m args below meth c Q E q.ml pc loc (aI i :: aR 14 t :: stk) M := by
  obtain ⟨hx, hb, hmx, hown, hts, hE, -, -, hR⟩ := hF
  intro H locs ls hC hL hl hs
  have hii : in32 i := sok1 hs
  have hv : vld 14 t := sok2 hs
  have hv2 : t < 27 := hv.2.2
  have hJ := hE.2.2.2.2.2.2.2.1 t hv.2.1 hv.2.2
  have hJC := hE.2.2.2.2.2.2.2.2.1
  have hsa := str_all t.toNat (by have := hv.2.1; omega)
  have hlen : sLen t < 200 := hsa.1
  have hby := hsa.2 i.toNat (by unfold sLen at hi1; omega)
  have hcl := i32_clamp hii hi0
  have h3 : Int32.ofNat (sLen t) = Int32.ofInt (sLen t) := rfl
  have hb128 : sByt t i.toNat < 128 := hby.1
  have hb255 : Int32.ofInt (sByt t i.toNat) &&& 255 = Int32.ofInt (sByt t i.toNat) := hby.2
  clear hsa hby
  have e1 : ((Int32.ofInt (sByt t (Int32.ofInt i).toNatClampNeg) &&& 255).toUInt32 % 65536).toInt32 = Int32.ofInt (sByt t i.toNat) := by
    rw [hcl, hb255]
    exact chr_u16 (by omega) (by omega)
  have e2 : narrow .char (.int (Int32.ofInt (sByt t i.toNat))) = .int (Int32.ofInt (sByt t i.toNat)) := chr_nar (by omega) (by omega)
  refine W.pcall (r := some (.int (Int32.ofInt (sByt t i.toNat)))) (rest := stk.map (enc E)) (va_runV (As := [.int (Int32.ofInt i)]) (b := E.2.2.1 14 t) (Ts := lwg) (own := cname q.o) (cc := q.b) (nL := q.ml) ⟨hx, hb, hmx, hown, hts⟩ (j_charAt l (AA E) (E.2.2.1 14 t) (sLen t) (fun j => Int32.ofInt (sByt t j)) (Int32.ofInt i) (Int32.ofInt (sByt t i.toNat)) (fun h => by have := (i32_lt hii in32_0).mp h; omega) (by rw [h3]; exact (i32_lt hii (by unfold in32; omega)).mpr hi1) (by rw [hcl]; omega) e1 e2) (cwV (C := "java/lang/String") (index := idx) 1 hts (fun w hw => ?_) rfl rfl rfl (by decide +kernel) ⟨?_, ?_⟩) ⟨JP.blind JSC.same, va_Orecv hJ.1 hC.1, fun U hU hW => ⟨rfl, hJ.moved hW.alike (fun a h1 h2 => by rw [hU]; exact hC.1.2.1 a h1 h2), hJC.moved hW.alike (fun a h1 h2 => by rw [hU]; exact hC.1.2.1 a h1 h2)⟩⟩ rfl rfl hL.1 rfl (lv_room (Nat.le_trans (cat_le E stk) (by omega))) hdg ⟨by rw [hR]; exact Nat.le_refl _, by rw [hR]; exact Nat.le_refl _⟩) ?_
  · rcases List.mem_append.mp (show w ∈ ([Cond.methodLink (cname q.o) idx j_chr.y, Cond.instanceMethod j_chr.y, Cond.selects "java/lang/String" j_chr.y j_chr.y, Cond.initialized "java/lang/String"] : List Cond) ++ wsJ j_chr from hw) with h | h
    · have : w ∈ lwg := by
        simp only [List.mem_cons, List.not_mem_nil, or_false] at h
        rcases h with rfl | rfl | rfl | rfl
        · exact hlink
        · exact jws_ok _ (by decide +kernel)
        · exact jws_ok _ (by decide +kernel)
        · exact jws_ok _ (by decide +kernel)
      exact ⟨this, good_of_word (List.mem_filter.mp this).2⟩
    · exact jq_good (by decide +kernel) w h
  · rw [hR]; show 3 + 1 ≤ q.lv; omega
  · rw [hR]; show 8 + (2 + 11) + 38 * 3 ≤ 38 * q.lv; omega
  · refine kk H locs ls hC hL hl (List.forall_mem_cons.mpr ⟨?_, fun a ha => hs a (by simp [ha])⟩)
    show in32 _
    unfold in32
    omega
end WX
