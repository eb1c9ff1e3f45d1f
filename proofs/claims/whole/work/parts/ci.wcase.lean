/-! ===== the law: the cases that catch (by program: wip/whole/gen/mkci.py) ===== -/
section LWR
variable {p : Program} {l : Launch} {e : Env} {s : State} {m : MethodId} {below : List Frame} {meth : Method} {c : Code} {Q : State → Prop} {E : EV} {cells slots b L o pc : Nat} {xs : Nat → Int32} {H : Heap} {locs : List Loc} {ls : Array Slot} {M : AMem} {x4 : Int32} {n : Int}
theorem wr_ini : Cond.initialized "StaticKernelLaw" ∈ lw_tbl := by decide +kernel
/-- a call of a wrapper -/
theorem L_wr (C0 : LF p s m meth c b L xs E) (hst : l.stackTraces = false) (hXP : XP E s) (hoS : E.2.2.2.1 ≤ o) (hoA : ¬ AA E o) (hoC : ∀ (g : Nat) (t : Int), g ∈ gCon → 0 ≤ t → t < gn g → E.2.2.1 g t ≠ o) {y : MethodName} {bb : ByteArray} {nn idx : Nat} {hh : List (Nat × Nat × Nat × Nat)} (hy : y.cls = "StaticKernelLaw") (hlink : Cond.methodLink "StaticKernelLaw" idx y ∈ lwg) (hstt : Cond.static y ∈ lwg) (hcode : Cond.codeWith y bb nn (some .int) hh ∈ lwg) {vs : List Int32} (hd : (parseMethodDescriptor y.desc).map (fun d => d.parameters.length) = some (vs.length + 2)) (hRl : 8 + (nn + 11) + 380 ≤ 500)
    {k : Int32} {v : Int} (hM : WMet y bb nn hh (aR 1 0 :: vs.map fun v => aI v.toInt) M k v) (hC : CfL E s H locs M) (hO : OutH s H o) (hRc : cells + 1 ≤ room_1.cells) (hRs : slots + 6 ≤ room_1.slots) (hdg : decode code pc = .ok (.invokestatic idx, 3)) (hls : ls.size = 8) {stk : List Value} (hstk : stk = .ref o :: ((vs.map Value.int).reverse ++ [.ref (E.2.2.1 1 0)]))
    (kk : ∀ (H' : Heap) (w : Int64), CfL E s H' [] M → OutK s H' o w → (k = 0 → w = Int64.ofInt v) → W p l e room_1 s m #[Value.ref b] below meth c H' [] (cells + 1) (slots + 6) Q (F0 m (pc + 3) ls [.int k])) :
    W p l e room_1 s m #[Value.ref b] below meth c H locs cells slots Q (F0 m pc ls stk) := by
  obtain ⟨⟨hx, hb, hr, hml, hown, hts, hX, hbl, hlocks, hgv⟩, hE, hbE⟩ := id C0
  have htg : ∀ w ∈ lwg, w.before #[Value.ref b] s = true := fun w hw => hts w (List.mem_filter.mp hw).1
  have em : (vs.map fun v => aI v.toInt).map (enc E) = vs.map Value.int := by
    rw [List.map_map]
    refine List.map_congr_left (fun v _ => ?_)
    show Value.int (Int32.ofInt v.toInt) = Value.int v
    rw [Int32.ofInt_toInt]
  have hrun := vx_runSX (p := p) (l := l) (e := e) (R := room_1) (s := s) (m := m) (args := #[Value.ref b]) (below := below) (meth := meth) (c := c) (H := H) (locs := locs) (cells := cells) (slots := slots) (cc := code) (nL := 8) (Ts := lwg) (own := "StaticKernelLaw") (As := ((aR 1 0 :: vs.map fun v => aI v.toInt).map (enc E)) ++ [.ref o]) (rest := []) (g := F0 m pc ls stk) ⟨hx, hb, hml, hown, htg⟩ (hM l E o hst)
    (vx_cwSW (ws' := lwg) (vs.length + 2) htg (fun w hw => ?_) rfl rfl rfl ⟨by rw [hy]; decide, by rw [hy]; decide, hd⟩ ⟨?_, ?_⟩)
    ⟨PcW.blind, fun U hU hW => ⟨rfl, fun a ha => ?_, hE.moved hW (fun a h1 h2 => by rw [hU]; exact hC.1.2.1 a h1 h2), hXP.moved hW (fun a h1 h2 => by rw [hU]; exact hC.1.2.1 a h1 h2), by rw [hU]; exact hC.2.1.moved hW.alike, hC.2.2, ?_, hoA, hoC⟩⟩
    rfl (by simp) hls (by
      show stk = _
      rw [hstk, List.map_cons, em]
      simp [enc]) (lv_room (by decide)) hdg ⟨hRc, hRs⟩
  · intro T hT X
    rcases hrun T hT X with ⟨r, st₀, t, T', Lo, h0, X', hLf, e1, e2, ⟨hv, hrep, ⟨w, hOK, hkw⟩, hF⟩, st⟩ | ⟨q, st₀, t, T', Lo, E1, ce, h0, X', hLf, e1, e2, hq, -⟩
    · injection hv with hv
      subst hv
      have hF1 := hF.1
      have hF2 := hF.2
      rw [h0] at hF1 hF2
      have hal : s.vm.Alike t.vm := by rw [← e2]; exact X'.warmed.alike
      have X2 := Stand.forget (locs := []) X' (fun q hq => by
        rcases List.mem_append.mp hq with h | h
        · have := (hC.1.2.2 q h).1
          omega
        · rcases hLf q h with h | h
          · have := h.1
            omega
          · rw [h]; omega)
      obtain ⟨t2, a1, b1⟩ := kk T'.heap w ⟨⟨Nat.le_trans hC.1.1 (by rw [e1]; exact hF1), fun q h1 h2 => by
        rw [e1, hF2 q (Nat.lt_of_lt_of_le h1 hC.1.1) (fun z => by
          rcases z with z | z
          · exact h2 z
          · omega)]
        exact hC.1.2.1 q h1 h2, fun q hq => by cases hq⟩, by rw [e1]; exact hrep.moved hal.symm, hC.2.2⟩ (by rw [e1]; exact hOK.moved hal.symm) hkw T' rfl X2
      exact ⟨t2, st t2 a1, b1⟩
    · exact hq.elim
  · rcases List.mem_append.mp (show w ∈ ([Cond.methodLink "StaticKernelLaw" idx y, Cond.static y, Cond.initialized y.cls] : List Cond) ++ lwW y bb nn hh from hw) with h | h
    · have : w ∈ lwg := by
        simp only [List.mem_cons, List.not_mem_nil, or_false] at h
        rcases h with rfl | rfl | rfl
        · exact hlink
        · exact hstt
        · rw [hy]; exact List.mem_filter.mpr ⟨wr_ini, rfl⟩
      exact ⟨this, good_of_word (List.mem_filter.mp this).2⟩
    · rcases List.mem_cons.mp h with rfl | h
      · exact ⟨hcode, good_of_word (List.mem_filter.mp hcode).2⟩
      · exact ⟨h, good_of_word (List.mem_filter.mp h).2⟩
  · show 10 + 1 ≤ 13
    decide
  · show 8 + (nn + 11) + 380 ≤ 500
    exact hRl
  · rcases List.mem_cons.mp ha with rfl | ha
    · exact ⟨Or.inl ⟨by decide, by decide⟩, by decide, by decide⟩
    · obtain ⟨z, -, rfl⟩ := List.mem_map.mp ha
      exact ⟨by have := z.minValue_le_toInt; simpa using this, by have := z.toInt_lt; simpa using this⟩
  · obtain ⟨w, z⟩ := hO
    exact ⟨w, by rw [hU]; exact z.moved hW.alike⟩
set_option maxHeartbeats 2000000 in
theorem lx_name (C0 : LF p s m meth c b L xs E) (hst : l.stackTraces = false) (hXP : XP E s) (hoS : E.2.2.2.1 ≤ o) (hoC : ∀ (g : Nat) (t : Int), g ∈ gCon → 0 ≤ t → t < gn g → E.2.2.1 g t ≠ o) : LCase p l e s m b below meth c Q E L o 352 := by
  intro H locs ls M n cells slots x4 S0 hin hc hs kt
  obtain ⟨⟨hx, hb, hr, hml, hown, hts, hX, hbl, hlocks, hgv⟩, hE, hbE⟩ := id C0
  obtain ⟨hC, inv, hn, hl, hO, hoA⟩ := S0
  have hbA : ¬ AA E b := fun z => by have := z.1; omega
  have htg : ∀ w ∈ lwg, w.before #[Value.ref b] s = true := fun w hw => hts w (List.mem_filter.mp hw).1
  have key : (∃ v : Int, WMet wy_name wb_name 6 wh_name [aR 1 0, aI (sv xs x4 1).toInt, aI (sv xs x4 2).toInt, aI (sv xs x4 3).toInt] M 0 v ∧ Runs 41 [aR 11 0, aI (sv xs x4 1).toInt, aI (sv xs x4 2).toInt, aI (sv xs x4 3).toInt] M (fun r M' => r = some (aL v) ∧ M' = th M)) ∨ (∃ v : Int, WMet wy_name wb_name 6 wh_name [aR 1 0, aI (sv xs x4 1).toInt, aI (sv xs x4 2).toInt, aI (sv xs x4 3).toInt] M 1 v ∧ Runs 41 [aR 11 0, aI (sv xs x4 1).toInt, aI (sv xs x4 2).toInt, aI (sv xs x4 3).toInt] M (fun r M' => r = some (aL v) ∧ M' = (mup (th M) 11 0 0 (1)))) := by
    rcases x_name inv hn (sv xs x4 1).toInt (sv xs x4 2).toInt (sv xs x4 3).toInt (Int32.toInt_lt _) with ⟨c9, v, r1, r2⟩ | ⟨c9, v, r2⟩
    · exact Or.inl ⟨v, W_name_ok (sv xs x4 1).toInt (sv xs x4 2).toInt (sv xs x4 3).toInt v M r1, r2⟩
    · exact Or.inr ⟨v, W_name_thr (sv xs x4 1).toInt (sv xs x4 2).toInt (sv xs x4 3).toInt v M (X_name _ _ _ M (inv.1.cB (by omega)) (inv.1.kA inv.2.1) c9), r2⟩
  refine lv_aload_n hx hb d_L_352 rfl (lv_at hl 1 rfl) ?_
  refine L_arg hx hb hX hbl hbA hC.1 (k := nI 1) (hin 1 (by decide)) hl d_L_353 d_L_354 d_L_356 d_L_357 d_L_358 (by decide) ?_
  refine L_arg hx hb hX hbl hbA hC.1 (k := nI 2) (hin 2 (by decide)) hl d_L_359 d_L_360 d_L_362 d_L_363 d_L_364 (by decide) ?_
  refine L_arg hx hb hX hbl hbA hC.1 (k := nI 3) (hin 3 (by decide)) hl d_L_365 d_L_366 d_L_368 d_L_369 d_L_370 (by decide) ?_
  refine lv_aload_n hx hb d_L_371 rfl (lv_at hl 3 rfl) ?_
  rcases key with ⟨v, wm, r2⟩ | ⟨v, wm, r2⟩
  · refine L_wr C0 hst hXP hoS hoA hoC (y := wy_name) (idx := 60) (vs := [sv xs x4 1, sv xs x4 2, sv xs x4 3]) rfl (List.mem_filter.mpr ⟨by decide +kernel, rfl⟩) (List.mem_filter.mpr ⟨by decide +kernel, rfl⟩) wc_name (show (parseMethodDescriptor wy_name.desc).map (fun d => d.parameters.length) = some 5 by decide +kernel) (by decide) wm hC hO hc hs d_L_372 hl.1 rfl (fun H1 w1 hC1 hO1 hw1 => ?_)
    refine lv_istore hx hb d_L_375 hl (by decide) rfl (fun ls1 hl1 => ?_)
    have hlA : lv_has ls1 8 (lvL E b o x4) := lv_sub hl1 [1, 2, 3, 4, 5] rfl
    refine lv_aload_n hx hb d_L_377 rfl (lv_at hlA 2 rfl) ?_
    refine L_arg hx hb hX hbl hbA hC1.1 (k := nI 1) (hin 1 (by decide)) hlA d_L_378 d_L_379 d_L_381 d_L_382 d_L_383 (by decide) ?_
    refine L_arg hx hb hX hbl hbA hC1.1 (k := nI 2) (hin 2 (by decide)) hlA d_L_384 d_L_385 d_L_387 d_L_388 d_L_389 (by decide) ?_
    refine L_arg hx hb hX hbl hbA hC1.1 (k := nI 3) (hin 3 (by decide)) hlA d_L_390 d_L_391 d_L_393 d_L_394 d_L_395 (by decide) ?_
    refine L_callI (n := 41) (vs := [sv xs x4 1, sv xs x4 2, sv xs x4 3]) (t := 0) (rest := []) hx hb hml hown htg hE (by decide +kernel) (idx := 65) (List.mem_filter.mpr ⟨by decide +kernel, rfl⟩) rfl rfl (by decide) rfl (Nat.le_of_ble_eq_true rfl) (Nat.le_of_ble_eq_true rfl) hc hs hC1 r2 d_L_396 hlA.1 (by decide) rfl (fun r M2 H2 locs2 hp2 ok2 hC2 hz2 hk2 => ?_)
    obtain ⟨rfl, rfl⟩ := hp2
    refine lv_lstore hx hb d_L_399 hl1 (by decide) rfl (fun ls2 hl2 => ?_)
    have hlB : lv_has ls2 8 (lvL E b o x4) := lv_sub hl2 [2, 3, 4, 5, 6] rfl
    refine lv_aload_n hx hb d_L_401 rfl (lv_at hlB 2 rfl) ?_
    refine L_callI (n := 2) (vs := []) (t := 0) (rest := []) hx hb hml hown htg hE (by decide +kernel) (idx := 66) (List.mem_filter.mpr ⟨by decide +kernel, rfl⟩) rfl rfl (by decide) rfl (Nat.le_of_ble_eq_true rfl) (Nat.le_of_ble_eq_true rfl) hc hs hC2 (R_thrown _) d_L_402 hlB.1 (by decide) rfl (fun r M3 H3 locs3 hp3 ok3 hC3 hz3 hk3 => ?_)
    obtain ⟨rfl, rfl⟩ := hp3
    have ev : ((th M) 11 0 0) = 0 := by unfold th; rw [mup_same]
    rw [ev]
    refine lv_iload hx hb d_L_405 (lv_at hl2 1 rfl) ?_
    refine lv_icmp_eq (tgt := 412) hx hb d_L_407 (by decide) (fun _ => ?_) (fun z => absurd rfl z)
    refine lv_iload hx hb d_L_412 (lv_at hl2 1 rfl) ?_
    have hO3 : OutK s H3 o w1 := by
      obtain ⟨cell, z1, z2⟩ := hO1
      have hz : o < H1.size := (Array.getElem?_eq_some_iff.mp z1).1
      exact ⟨cell, by rw [hk3 o (by omega) hoA, hk2 o hz hoA]; exact z1, z2⟩
    refine lv_if_ne (tgt := 428) hx hb d_L_414 (by decide) (fun z => absurd rfl z) (fun _ => ?_)
    refine lv_aload_n hx hb d_L_417 rfl (lv_at hlB 3 rfl) ?_
    refine lv_iconst (v := 0) hx hb d_L_418 rfl ?_
    obtain ⟨cell, z1, z2, z3, z4, z5⟩ := id hO3
    refine W.lald (j := 0) (v := .long w1) hx hb z1 z2 z3 (by rw [z4]; decide) z5 rfl rfl d_L_419 ?_
    refine lv_lload hx hb d_L_420 (lv_at hl2 0 rfl) ?_
    rw [hw1 rfl]
    refine W.lcmp hx hb d_L_422 ?_
    refine lv_if_eq (tgt := 428) hx hb d_L_423 rfl (fun _ => ?_) (fun z => absurd (lcmp_self _) z)
    exact lv_goto (tgt := 1520) hx hb d_L_428 (by decide) (kt _ _ _ _ _ _ ((inv_th inv).mono (by omega)) hC3 ⟨_, hO3⟩ hlB (by omega) (by omega))
  · refine L_wr C0 hst hXP hoS hoA hoC (y := wy_name) (idx := 60) (vs := [sv xs x4 1, sv xs x4 2, sv xs x4 3]) rfl (List.mem_filter.mpr ⟨by decide +kernel, rfl⟩) (List.mem_filter.mpr ⟨by decide +kernel, rfl⟩) wc_name (show (parseMethodDescriptor wy_name.desc).map (fun d => d.parameters.length) = some 5 by decide +kernel) (by decide) wm hC hO hc hs d_L_372 hl.1 rfl (fun H1 w1 hC1 hO1 hw1 => ?_)
    refine lv_istore hx hb d_L_375 hl (by decide) rfl (fun ls1 hl1 => ?_)
    have hlA : lv_has ls1 8 (lvL E b o x4) := lv_sub hl1 [1, 2, 3, 4, 5] rfl
    refine lv_aload_n hx hb d_L_377 rfl (lv_at hlA 2 rfl) ?_
    refine L_arg hx hb hX hbl hbA hC1.1 (k := nI 1) (hin 1 (by decide)) hlA d_L_378 d_L_379 d_L_381 d_L_382 d_L_383 (by decide) ?_
    refine L_arg hx hb hX hbl hbA hC1.1 (k := nI 2) (hin 2 (by decide)) hlA d_L_384 d_L_385 d_L_387 d_L_388 d_L_389 (by decide) ?_
    refine L_arg hx hb hX hbl hbA hC1.1 (k := nI 3) (hin 3 (by decide)) hlA d_L_390 d_L_391 d_L_393 d_L_394 d_L_395 (by decide) ?_
    refine L_callI (n := 41) (vs := [sv xs x4 1, sv xs x4 2, sv xs x4 3]) (t := 0) (rest := []) hx hb hml hown htg hE (by decide +kernel) (idx := 65) (List.mem_filter.mpr ⟨by decide +kernel, rfl⟩) rfl rfl (by decide) rfl (Nat.le_of_ble_eq_true rfl) (Nat.le_of_ble_eq_true rfl) hc hs hC1 r2 d_L_396 hlA.1 (by decide) rfl (fun r M2 H2 locs2 hp2 ok2 hC2 hz2 hk2 => ?_)
    obtain ⟨rfl, rfl⟩ := hp2
    refine lv_lstore hx hb d_L_399 hl1 (by decide) rfl (fun ls2 hl2 => ?_)
    have hlB : lv_has ls2 8 (lvL E b o x4) := lv_sub hl2 [2, 3, 4, 5, 6] rfl
    refine lv_aload_n hx hb d_L_401 rfl (lv_at hlB 2 rfl) ?_
    refine L_callI (n := 2) (vs := []) (t := 0) (rest := []) hx hb hml hown htg hE (by decide +kernel) (idx := 66) (List.mem_filter.mpr ⟨by decide +kernel, rfl⟩) rfl rfl (by decide) rfl (Nat.le_of_ble_eq_true rfl) (Nat.le_of_ble_eq_true rfl) hc hs hC2 (R_thrown _) d_L_402 hlB.1 (by decide) rfl (fun r M3 H3 locs3 hp3 ok3 hC3 hz3 hk3 => ?_)
    obtain ⟨rfl, rfl⟩ := hp3
    have ev : (((mup (th M) 11 0 0 (1))) 11 0 0) = 1 := mup_same _ _ _ _ _
    rw [ev]
    refine lv_iload hx hb d_L_405 (lv_at hl2 1 rfl) ?_
    refine lv_icmp_eq (tgt := 412) hx hb d_L_407 (by decide) (fun _ => ?_) (fun z => absurd rfl z)
    refine lv_iload hx hb d_L_412 (lv_at hl2 1 rfl) ?_
    have hO3 : OutK s H3 o w1 := by
      obtain ⟨cell, z1, z2⟩ := hO1
      have hz : o < H1.size := (Array.getElem?_eq_some_iff.mp z1).1
      exact ⟨cell, by rw [hk3 o (by omega) hoA, hk2 o hz hoA]; exact z1, z2⟩
    refine lv_if_ne (tgt := 428) hx hb d_L_414 (by decide) (fun _ => ?_) (fun z => absurd z (by decide))
    exact lv_goto (tgt := 1520) hx hb d_L_428 (by decide) (kt _ _ _ _ _ _ ((inv_th1 inv).mono (by omega)) hC3 ⟨_, hO3⟩ hlB (by omega) (by omega))
set_option maxHeartbeats 2000000 in
theorem lx_task (C0 : LF p s m meth c b L xs E) (hst : l.stackTraces = false) (hXP : XP E s) (hoS : E.2.2.2.1 ≤ o) (hoC : ∀ (g : Nat) (t : Int), g ∈ gCon → 0 ≤ t → t < gn g → E.2.2.1 g t ≠ o) : LCase p l e s m b below meth c Q E L o 995 := by
  intro H locs ls M n cells slots x4 S0 hin hc hs kt
  obtain ⟨⟨hx, hb, hr, hml, hown, hts, hX, hbl, hlocks, hgv⟩, hE, hbE⟩ := id C0
  obtain ⟨hC, inv, hn, hl, hO, hoA⟩ := S0
  have hbA : ¬ AA E b := fun z => by have := z.1; omega
  have htg : ∀ w ∈ lwg, w.before #[Value.ref b] s = true := fun w hw => hts w (List.mem_filter.mp hw).1
  have key : (∃ v : Int, WMet wy_task wb_task 5 wh_task [aR 1 0, aI (sv xs x4 1).toInt, aI (sv xs x4 2).toInt] M 0 v ∧ Runs 102 [aR 11 0, aI (sv xs x4 1).toInt, aI (sv xs x4 2).toInt] M (fun r M' => r = some (aI v) ∧ M' = th M)) ∨ (∃ v : Int, WMet wy_task wb_task 5 wh_task [aR 1 0, aI (sv xs x4 1).toInt, aI (sv xs x4 2).toInt] M 1 v ∧ Runs 102 [aR 11 0, aI (sv xs x4 1).toInt, aI (sv xs x4 2).toInt] M (fun r M' => r = some (aI v) ∧ M' = (mup (th M) 11 0 0 (1)))) := by
    rcases x_task inv hn (sv xs x4 1).toInt (sv xs x4 2).toInt with ⟨c9, v, r1, r2⟩ | ⟨c9, v, r2⟩
    · exact Or.inl ⟨v, W_task_ok (sv xs x4 1).toInt (sv xs x4 2).toInt v M r1, r2⟩
    · exact Or.inr ⟨v, W_task_thr (sv xs x4 1).toInt (sv xs x4 2).toInt v M (X_task _ _ M c9), r2⟩
  refine lv_aload_n hx hb d_L_995 rfl (lv_at hl 1 rfl) ?_
  refine L_arg hx hb hX hbl hbA hC.1 (k := nI 1) (hin 1 (by decide)) hl d_L_996 d_L_997 d_L_999 d_L_1000 d_L_1001 (by decide) ?_
  refine L_arg hx hb hX hbl hbA hC.1 (k := nI 2) (hin 2 (by decide)) hl d_L_1002 d_L_1003 d_L_1005 d_L_1006 d_L_1007 (by decide) ?_
  refine lv_aload_n hx hb d_L_1008 rfl (lv_at hl 3 rfl) ?_
  rcases key with ⟨v, wm, r2⟩ | ⟨v, wm, r2⟩
  · refine L_wr C0 hst hXP hoS hoA hoC (y := wy_task) (idx := 164) (vs := [sv xs x4 1, sv xs x4 2]) rfl (List.mem_filter.mpr ⟨by decide +kernel, rfl⟩) (List.mem_filter.mpr ⟨by decide +kernel, rfl⟩) wc_task (show (parseMethodDescriptor wy_task.desc).map (fun d => d.parameters.length) = some 4 by decide +kernel) (by decide) wm hC hO hc hs d_L_1009 hl.1 rfl (fun H1 w1 hC1 hO1 hw1 => ?_)
    refine lv_istore hx hb d_L_1012 hl (by decide) rfl (fun ls1 hl1 => ?_)
    have hlA : lv_has ls1 8 (lvL E b o x4) := lv_sub hl1 [1, 2, 3, 4, 5] rfl
    refine lv_aload_n hx hb d_L_1014 rfl (lv_at hlA 2 rfl) ?_
    refine L_arg hx hb hX hbl hbA hC1.1 (k := nI 1) (hin 1 (by decide)) hlA d_L_1015 d_L_1016 d_L_1018 d_L_1019 d_L_1020 (by decide) ?_
    refine L_arg hx hb hX hbl hbA hC1.1 (k := nI 2) (hin 2 (by decide)) hlA d_L_1021 d_L_1022 d_L_1024 d_L_1025 d_L_1026 (by decide) ?_
    refine L_callI (n := 102) (vs := [sv xs x4 1, sv xs x4 2]) (t := 0) (rest := []) hx hb hml hown htg hE (by decide +kernel) (idx := 167) (List.mem_filter.mpr ⟨by decide +kernel, rfl⟩) rfl rfl (by decide) rfl (Nat.le_of_ble_eq_true rfl) (Nat.le_of_ble_eq_true rfl) hc hs hC1 r2 d_L_1027 hlA.1 (by decide) rfl (fun r M2 H2 locs2 hp2 ok2 hC2 hz2 hk2 => ?_)
    obtain ⟨rfl, rfl⟩ := hp2
    refine lv_istore hx hb d_L_1030 hl1 (by decide) rfl (fun ls2 hl2 => ?_)
    have hlB : lv_has ls2 8 (lvL E b o x4) := lv_sub hl2 [2, 3, 4, 5, 6] rfl
    refine lv_aload_n hx hb d_L_1032 rfl (lv_at hlB 2 rfl) ?_
    refine L_callI (n := 2) (vs := []) (t := 0) (rest := []) hx hb hml hown htg hE (by decide +kernel) (idx := 66) (List.mem_filter.mpr ⟨by decide +kernel, rfl⟩) rfl rfl (by decide) rfl (Nat.le_of_ble_eq_true rfl) (Nat.le_of_ble_eq_true rfl) hc hs hC2 (R_thrown _) d_L_1033 hlB.1 (by decide) rfl (fun r M3 H3 locs3 hp3 ok3 hC3 hz3 hk3 => ?_)
    obtain ⟨rfl, rfl⟩ := hp3
    have ev : ((th M) 11 0 0) = 0 := by unfold th; rw [mup_same]
    rw [ev]
    refine lv_iload hx hb d_L_1036 (lv_at hl2 1 rfl) ?_
    refine lv_icmp_eq (tgt := 1043) hx hb d_L_1038 (by decide) (fun _ => ?_) (fun z => absurd rfl z)
    refine lv_iload hx hb d_L_1043 (lv_at hl2 1 rfl) ?_
    have hO3 : OutK s H3 o w1 := by
      obtain ⟨cell, z1, z2⟩ := hO1
      have hz : o < H1.size := (Array.getElem?_eq_some_iff.mp z1).1
      exact ⟨cell, by rw [hk3 o (by omega) hoA, hk2 o hz hoA]; exact z1, z2⟩
    refine lv_if_ne (tgt := 1060) hx hb d_L_1045 (by decide) (fun z => absurd rfl z) (fun _ => ?_)
    refine lv_aload_n hx hb d_L_1048 rfl (lv_at hlB 3 rfl) ?_
    refine lv_iconst (v := 0) hx hb d_L_1049 rfl ?_
    obtain ⟨cell, z1, z2, z3, z4, z5⟩ := id hO3
    refine W.lald (j := 0) (v := .long w1) hx hb z1 z2 z3 (by rw [z4]; decide) z5 rfl rfl d_L_1050 ?_
    refine lv_iload hx hb d_L_1051 (lv_at hl2 0 rfl) ?_
    refine lv_i2l (v := Int64.ofInt v) hx hb d_L_1053 (i2l_of (ok2 _ rfl)) ?_
    rw [hw1 rfl]
    refine W.lcmp hx hb d_L_1054 ?_
    refine lv_if_eq (tgt := 1060) hx hb d_L_1055 rfl (fun _ => ?_) (fun z => absurd (lcmp_self _) z)
    exact lv_goto (tgt := 1520) hx hb d_L_1060 (by decide) (kt _ _ _ _ _ _ ((inv_th inv).mono (by omega)) hC3 ⟨_, hO3⟩ hlB (by omega) (by omega))
  · refine L_wr C0 hst hXP hoS hoA hoC (y := wy_task) (idx := 164) (vs := [sv xs x4 1, sv xs x4 2]) rfl (List.mem_filter.mpr ⟨by decide +kernel, rfl⟩) (List.mem_filter.mpr ⟨by decide +kernel, rfl⟩) wc_task (show (parseMethodDescriptor wy_task.desc).map (fun d => d.parameters.length) = some 4 by decide +kernel) (by decide) wm hC hO hc hs d_L_1009 hl.1 rfl (fun H1 w1 hC1 hO1 hw1 => ?_)
    refine lv_istore hx hb d_L_1012 hl (by decide) rfl (fun ls1 hl1 => ?_)
    have hlA : lv_has ls1 8 (lvL E b o x4) := lv_sub hl1 [1, 2, 3, 4, 5] rfl
    refine lv_aload_n hx hb d_L_1014 rfl (lv_at hlA 2 rfl) ?_
    refine L_arg hx hb hX hbl hbA hC1.1 (k := nI 1) (hin 1 (by decide)) hlA d_L_1015 d_L_1016 d_L_1018 d_L_1019 d_L_1020 (by decide) ?_
    refine L_arg hx hb hX hbl hbA hC1.1 (k := nI 2) (hin 2 (by decide)) hlA d_L_1021 d_L_1022 d_L_1024 d_L_1025 d_L_1026 (by decide) ?_
    refine L_callI (n := 102) (vs := [sv xs x4 1, sv xs x4 2]) (t := 0) (rest := []) hx hb hml hown htg hE (by decide +kernel) (idx := 167) (List.mem_filter.mpr ⟨by decide +kernel, rfl⟩) rfl rfl (by decide) rfl (Nat.le_of_ble_eq_true rfl) (Nat.le_of_ble_eq_true rfl) hc hs hC1 r2 d_L_1027 hlA.1 (by decide) rfl (fun r M2 H2 locs2 hp2 ok2 hC2 hz2 hk2 => ?_)
    obtain ⟨rfl, rfl⟩ := hp2
    refine lv_istore hx hb d_L_1030 hl1 (by decide) rfl (fun ls2 hl2 => ?_)
    have hlB : lv_has ls2 8 (lvL E b o x4) := lv_sub hl2 [2, 3, 4, 5, 6] rfl
    refine lv_aload_n hx hb d_L_1032 rfl (lv_at hlB 2 rfl) ?_
    refine L_callI (n := 2) (vs := []) (t := 0) (rest := []) hx hb hml hown htg hE (by decide +kernel) (idx := 66) (List.mem_filter.mpr ⟨by decide +kernel, rfl⟩) rfl rfl (by decide) rfl (Nat.le_of_ble_eq_true rfl) (Nat.le_of_ble_eq_true rfl) hc hs hC2 (R_thrown _) d_L_1033 hlB.1 (by decide) rfl (fun r M3 H3 locs3 hp3 ok3 hC3 hz3 hk3 => ?_)
    obtain ⟨rfl, rfl⟩ := hp3
    have ev : (((mup (th M) 11 0 0 (1))) 11 0 0) = 1 := mup_same _ _ _ _ _
    rw [ev]
    refine lv_iload hx hb d_L_1036 (lv_at hl2 1 rfl) ?_
    refine lv_icmp_eq (tgt := 1043) hx hb d_L_1038 (by decide) (fun _ => ?_) (fun z => absurd rfl z)
    refine lv_iload hx hb d_L_1043 (lv_at hl2 1 rfl) ?_
    have hO3 : OutK s H3 o w1 := by
      obtain ⟨cell, z1, z2⟩ := hO1
      have hz : o < H1.size := (Array.getElem?_eq_some_iff.mp z1).1
      exact ⟨cell, by rw [hk3 o (by omega) hoA, hk2 o hz hoA]; exact z1, z2⟩
    refine lv_if_ne (tgt := 1060) hx hb d_L_1045 (by decide) (fun _ => ?_) (fun z => absurd z (by decide))
    exact lv_goto (tgt := 1520) hx hb d_L_1060 (by decide) (kt _ _ _ _ _ _ ((inv_th1 inv).mono (by omega)) hC3 ⟨_, hO3⟩ hlB (by omega) (by omega))
set_option maxHeartbeats 2000000 in
theorem lx_bits (C0 : LF p s m meth c b L xs E) (hst : l.stackTraces = false) (hXP : XP E s) (hoS : E.2.2.2.1 ≤ o) (hoC : ∀ (g : Nat) (t : Int), g ∈ gCon → 0 ≤ t → t < gn g → E.2.2.1 g t ≠ o) : LCase p l e s m b below meth c Q E L o 1063 := by
  intro H locs ls M n cells slots x4 S0 hin hc hs kt
  obtain ⟨⟨hx, hb, hr, hml, hown, hts, hX, hbl, hlocks, hgv⟩, hE, hbE⟩ := id C0
  obtain ⟨hC, inv, hn, hl, hO, hoA⟩ := S0
  have hbA : ¬ AA E b := fun z => by have := z.1; omega
  have htg : ∀ w ∈ lwg, w.before #[Value.ref b] s = true := fun w hw => hts w (List.mem_filter.mp hw).1
  have key : (∃ v : Int, WMet wy_bits wb_bits 5 wh_bits [aR 1 0, aI (sv xs x4 1).toInt, aI (sv xs x4 2).toInt] M 0 v ∧ Runs 105 [aR 11 0, aI (sv xs x4 1).toInt, aI (sv xs x4 2).toInt] M (fun r M' => r = some (aL v) ∧ M' = th M)) ∨ (∃ v : Int, WMet wy_bits wb_bits 5 wh_bits [aR 1 0, aI (sv xs x4 1).toInt, aI (sv xs x4 2).toInt] M 1 v ∧ Runs 105 [aR 11 0, aI (sv xs x4 1).toInt, aI (sv xs x4 2).toInt] M (fun r M' => r = some (aL v) ∧ M' = (mup (th M) 11 0 0 (1)))) := by
    rcases x_bits inv hn (sv xs x4 1).toInt (sv xs x4 2).toInt with ⟨c9, v, r1, r2⟩ | ⟨c9, v, r2⟩
    · exact Or.inl ⟨v, W_bits_ok (sv xs x4 1).toInt (sv xs x4 2).toInt v M r1, r2⟩
    · exact Or.inr ⟨v, W_bits_thr (sv xs x4 1).toInt (sv xs x4 2).toInt v M (X_bits _ _ M c9), r2⟩
  refine lv_aload_n hx hb d_L_1063 rfl (lv_at hl 1 rfl) ?_
  refine L_arg hx hb hX hbl hbA hC.1 (k := nI 1) (hin 1 (by decide)) hl d_L_1064 d_L_1065 d_L_1067 d_L_1068 d_L_1069 (by decide) ?_
  refine L_arg hx hb hX hbl hbA hC.1 (k := nI 2) (hin 2 (by decide)) hl d_L_1070 d_L_1071 d_L_1073 d_L_1074 d_L_1075 (by decide) ?_
  refine lv_aload_n hx hb d_L_1076 rfl (lv_at hl 3 rfl) ?_
  rcases key with ⟨v, wm, r2⟩ | ⟨v, wm, r2⟩
  · refine L_wr C0 hst hXP hoS hoA hoC (y := wy_bits) (idx := 168) (vs := [sv xs x4 1, sv xs x4 2]) rfl (List.mem_filter.mpr ⟨by decide +kernel, rfl⟩) (List.mem_filter.mpr ⟨by decide +kernel, rfl⟩) wc_bits (show (parseMethodDescriptor wy_bits.desc).map (fun d => d.parameters.length) = some 4 by decide +kernel) (by decide) wm hC hO hc hs d_L_1077 hl.1 rfl (fun H1 w1 hC1 hO1 hw1 => ?_)
    refine lv_istore hx hb d_L_1080 hl (by decide) rfl (fun ls1 hl1 => ?_)
    have hlA : lv_has ls1 8 (lvL E b o x4) := lv_sub hl1 [1, 2, 3, 4, 5] rfl
    refine lv_aload_n hx hb d_L_1082 rfl (lv_at hlA 2 rfl) ?_
    refine L_arg hx hb hX hbl hbA hC1.1 (k := nI 1) (hin 1 (by decide)) hlA d_L_1083 d_L_1084 d_L_1086 d_L_1087 d_L_1088 (by decide) ?_
    refine L_arg hx hb hX hbl hbA hC1.1 (k := nI 2) (hin 2 (by decide)) hlA d_L_1089 d_L_1090 d_L_1092 d_L_1093 d_L_1094 (by decide) ?_
    refine L_callI (n := 105) (vs := [sv xs x4 1, sv xs x4 2]) (t := 0) (rest := []) hx hb hml hown htg hE (by decide +kernel) (idx := 170) (List.mem_filter.mpr ⟨by decide +kernel, rfl⟩) rfl rfl (by decide) rfl (Nat.le_of_ble_eq_true rfl) (Nat.le_of_ble_eq_true rfl) hc hs hC1 r2 d_L_1095 hlA.1 (by decide) rfl (fun r M2 H2 locs2 hp2 ok2 hC2 hz2 hk2 => ?_)
    obtain ⟨rfl, rfl⟩ := hp2
    refine lv_lstore hx hb d_L_1098 hl1 (by decide) rfl (fun ls2 hl2 => ?_)
    have hlB : lv_has ls2 8 (lvL E b o x4) := lv_sub hl2 [2, 3, 4, 5, 6] rfl
    refine lv_aload_n hx hb d_L_1100 rfl (lv_at hlB 2 rfl) ?_
    refine L_callI (n := 2) (vs := []) (t := 0) (rest := []) hx hb hml hown htg hE (by decide +kernel) (idx := 66) (List.mem_filter.mpr ⟨by decide +kernel, rfl⟩) rfl rfl (by decide) rfl (Nat.le_of_ble_eq_true rfl) (Nat.le_of_ble_eq_true rfl) hc hs hC2 (R_thrown _) d_L_1101 hlB.1 (by decide) rfl (fun r M3 H3 locs3 hp3 ok3 hC3 hz3 hk3 => ?_)
    obtain ⟨rfl, rfl⟩ := hp3
    have ev : ((th M) 11 0 0) = 0 := by unfold th; rw [mup_same]
    rw [ev]
    refine lv_iload hx hb d_L_1104 (lv_at hl2 1 rfl) ?_
    refine lv_icmp_eq (tgt := 1111) hx hb d_L_1106 (by decide) (fun _ => ?_) (fun z => absurd rfl z)
    refine lv_iload hx hb d_L_1111 (lv_at hl2 1 rfl) ?_
    have hO3 : OutK s H3 o w1 := by
      obtain ⟨cell, z1, z2⟩ := hO1
      have hz : o < H1.size := (Array.getElem?_eq_some_iff.mp z1).1
      exact ⟨cell, by rw [hk3 o (by omega) hoA, hk2 o hz hoA]; exact z1, z2⟩
    refine lv_if_ne (tgt := 1127) hx hb d_L_1113 (by decide) (fun z => absurd rfl z) (fun _ => ?_)
    refine lv_aload_n hx hb d_L_1116 rfl (lv_at hlB 3 rfl) ?_
    refine lv_iconst (v := 0) hx hb d_L_1117 rfl ?_
    obtain ⟨cell, z1, z2, z3, z4, z5⟩ := id hO3
    refine W.lald (j := 0) (v := .long w1) hx hb z1 z2 z3 (by rw [z4]; decide) z5 rfl rfl d_L_1118 ?_
    refine lv_lload hx hb d_L_1119 (lv_at hl2 0 rfl) ?_
    rw [hw1 rfl]
    refine W.lcmp hx hb d_L_1121 ?_
    refine lv_if_eq (tgt := 1127) hx hb d_L_1122 rfl (fun _ => ?_) (fun z => absurd (lcmp_self _) z)
    exact lv_goto (tgt := 1520) hx hb d_L_1127 (by decide) (kt _ _ _ _ _ _ ((inv_th inv).mono (by omega)) hC3 ⟨_, hO3⟩ hlB (by omega) (by omega))
  · refine L_wr C0 hst hXP hoS hoA hoC (y := wy_bits) (idx := 168) (vs := [sv xs x4 1, sv xs x4 2]) rfl (List.mem_filter.mpr ⟨by decide +kernel, rfl⟩) (List.mem_filter.mpr ⟨by decide +kernel, rfl⟩) wc_bits (show (parseMethodDescriptor wy_bits.desc).map (fun d => d.parameters.length) = some 4 by decide +kernel) (by decide) wm hC hO hc hs d_L_1077 hl.1 rfl (fun H1 w1 hC1 hO1 hw1 => ?_)
    refine lv_istore hx hb d_L_1080 hl (by decide) rfl (fun ls1 hl1 => ?_)
    have hlA : lv_has ls1 8 (lvL E b o x4) := lv_sub hl1 [1, 2, 3, 4, 5] rfl
    refine lv_aload_n hx hb d_L_1082 rfl (lv_at hlA 2 rfl) ?_
    refine L_arg hx hb hX hbl hbA hC1.1 (k := nI 1) (hin 1 (by decide)) hlA d_L_1083 d_L_1084 d_L_1086 d_L_1087 d_L_1088 (by decide) ?_
    refine L_arg hx hb hX hbl hbA hC1.1 (k := nI 2) (hin 2 (by decide)) hlA d_L_1089 d_L_1090 d_L_1092 d_L_1093 d_L_1094 (by decide) ?_
    refine L_callI (n := 105) (vs := [sv xs x4 1, sv xs x4 2]) (t := 0) (rest := []) hx hb hml hown htg hE (by decide +kernel) (idx := 170) (List.mem_filter.mpr ⟨by decide +kernel, rfl⟩) rfl rfl (by decide) rfl (Nat.le_of_ble_eq_true rfl) (Nat.le_of_ble_eq_true rfl) hc hs hC1 r2 d_L_1095 hlA.1 (by decide) rfl (fun r M2 H2 locs2 hp2 ok2 hC2 hz2 hk2 => ?_)
    obtain ⟨rfl, rfl⟩ := hp2
    refine lv_lstore hx hb d_L_1098 hl1 (by decide) rfl (fun ls2 hl2 => ?_)
    have hlB : lv_has ls2 8 (lvL E b o x4) := lv_sub hl2 [2, 3, 4, 5, 6] rfl
    refine lv_aload_n hx hb d_L_1100 rfl (lv_at hlB 2 rfl) ?_
    refine L_callI (n := 2) (vs := []) (t := 0) (rest := []) hx hb hml hown htg hE (by decide +kernel) (idx := 66) (List.mem_filter.mpr ⟨by decide +kernel, rfl⟩) rfl rfl (by decide) rfl (Nat.le_of_ble_eq_true rfl) (Nat.le_of_ble_eq_true rfl) hc hs hC2 (R_thrown _) d_L_1101 hlB.1 (by decide) rfl (fun r M3 H3 locs3 hp3 ok3 hC3 hz3 hk3 => ?_)
    obtain ⟨rfl, rfl⟩ := hp3
    have ev : (((mup (th M) 11 0 0 (1))) 11 0 0) = 1 := mup_same _ _ _ _ _
    rw [ev]
    refine lv_iload hx hb d_L_1104 (lv_at hl2 1 rfl) ?_
    refine lv_icmp_eq (tgt := 1111) hx hb d_L_1106 (by decide) (fun _ => ?_) (fun z => absurd rfl z)
    refine lv_iload hx hb d_L_1111 (lv_at hl2 1 rfl) ?_
    have hO3 : OutK s H3 o w1 := by
      obtain ⟨cell, z1, z2⟩ := hO1
      have hz : o < H1.size := (Array.getElem?_eq_some_iff.mp z1).1
      exact ⟨cell, by rw [hk3 o (by omega) hoA, hk2 o hz hoA]; exact z1, z2⟩
    refine lv_if_ne (tgt := 1127) hx hb d_L_1113 (by decide) (fun _ => ?_) (fun z => absurd z (by decide))
    exact lv_goto (tgt := 1520) hx hb d_L_1127 (by decide) (kt _ _ _ _ _ _ ((inv_th1 inv).mono (by omega)) hC3 ⟨_, hO3⟩ hlB (by omega) (by omega))
set_option maxHeartbeats 2000000 in
theorem lx_resource (C0 : LF p s m meth c b L xs E) (hst : l.stackTraces = false) (hXP : XP E s) (hoS : E.2.2.2.1 ≤ o) (hoC : ∀ (g : Nat) (t : Int), g ∈ gCon → 0 ≤ t → t < gn g → E.2.2.1 g t ≠ o) : LCase p l e s m b below meth c Q E L o 1130 := by
  intro H locs ls M n cells slots x4 S0 hin hc hs kt
  obtain ⟨⟨hx, hb, hr, hml, hown, hts, hX, hbl, hlocks, hgv⟩, hE, hbE⟩ := id C0
  obtain ⟨hC, inv, hn, hl, hO, hoA⟩ := S0
  have hbA : ¬ AA E b := fun z => by have := z.1; omega
  have htg : ∀ w ∈ lwg, w.before #[Value.ref b] s = true := fun w hw => hts w (List.mem_filter.mp hw).1
  have key : (∃ v : Int, WMet wy_resource wb_resource 5 wh_resource [aR 1 0, aI (sv xs x4 1).toInt, aI (sv xs x4 2).toInt] M 0 v ∧ Runs 106 [aR 11 0, aI (sv xs x4 1).toInt, aI (sv xs x4 2).toInt] M (fun r M' => r = some (aI v) ∧ M' = th M)) ∨ (∃ v : Int, WMet wy_resource wb_resource 5 wh_resource [aR 1 0, aI (sv xs x4 1).toInt, aI (sv xs x4 2).toInt] M 1 v ∧ Runs 106 [aR 11 0, aI (sv xs x4 1).toInt, aI (sv xs x4 2).toInt] M (fun r M' => r = some (aI v) ∧ M' = (mup (th M) 11 0 0 (1)))) := by
    rcases x_resource inv hn (sv xs x4 1).toInt (sv xs x4 2).toInt with ⟨c9, v, r1, r2⟩ | ⟨c9, v, r2⟩
    · exact Or.inl ⟨v, W_resource_ok (sv xs x4 1).toInt (sv xs x4 2).toInt v M r1, r2⟩
    · exact Or.inr ⟨v, W_resource_thr (sv xs x4 1).toInt (sv xs x4 2).toInt v M (X_resource _ _ M c9), r2⟩
  refine lv_aload_n hx hb d_L_1130 rfl (lv_at hl 1 rfl) ?_
  refine L_arg hx hb hX hbl hbA hC.1 (k := nI 1) (hin 1 (by decide)) hl d_L_1131 d_L_1132 d_L_1134 d_L_1135 d_L_1136 (by decide) ?_
  refine L_arg hx hb hX hbl hbA hC.1 (k := nI 2) (hin 2 (by decide)) hl d_L_1137 d_L_1138 d_L_1140 d_L_1141 d_L_1142 (by decide) ?_
  refine lv_aload_n hx hb d_L_1143 rfl (lv_at hl 3 rfl) ?_
  rcases key with ⟨v, wm, r2⟩ | ⟨v, wm, r2⟩
  · refine L_wr C0 hst hXP hoS hoA hoC (y := wy_resource) (idx := 171) (vs := [sv xs x4 1, sv xs x4 2]) rfl (List.mem_filter.mpr ⟨by decide +kernel, rfl⟩) (List.mem_filter.mpr ⟨by decide +kernel, rfl⟩) wc_resource (show (parseMethodDescriptor wy_resource.desc).map (fun d => d.parameters.length) = some 4 by decide +kernel) (by decide) wm hC hO hc hs d_L_1144 hl.1 rfl (fun H1 w1 hC1 hO1 hw1 => ?_)
    refine lv_istore hx hb d_L_1147 hl (by decide) rfl (fun ls1 hl1 => ?_)
    have hlA : lv_has ls1 8 (lvL E b o x4) := lv_sub hl1 [1, 2, 3, 4, 5] rfl
    refine lv_aload_n hx hb d_L_1149 rfl (lv_at hlA 2 rfl) ?_
    refine L_arg hx hb hX hbl hbA hC1.1 (k := nI 1) (hin 1 (by decide)) hlA d_L_1150 d_L_1151 d_L_1153 d_L_1154 d_L_1155 (by decide) ?_
    refine L_arg hx hb hX hbl hbA hC1.1 (k := nI 2) (hin 2 (by decide)) hlA d_L_1156 d_L_1157 d_L_1159 d_L_1160 d_L_1161 (by decide) ?_
    refine L_callI (n := 106) (vs := [sv xs x4 1, sv xs x4 2]) (t := 0) (rest := []) hx hb hml hown htg hE (by decide +kernel) (idx := 173) (List.mem_filter.mpr ⟨by decide +kernel, rfl⟩) rfl rfl (by decide) rfl (Nat.le_of_ble_eq_true rfl) (Nat.le_of_ble_eq_true rfl) hc hs hC1 r2 d_L_1162 hlA.1 (by decide) rfl (fun r M2 H2 locs2 hp2 ok2 hC2 hz2 hk2 => ?_)
    obtain ⟨rfl, rfl⟩ := hp2
    refine lv_istore hx hb d_L_1165 hl1 (by decide) rfl (fun ls2 hl2 => ?_)
    have hlB : lv_has ls2 8 (lvL E b o x4) := lv_sub hl2 [2, 3, 4, 5, 6] rfl
    refine lv_aload_n hx hb d_L_1167 rfl (lv_at hlB 2 rfl) ?_
    refine L_callI (n := 2) (vs := []) (t := 0) (rest := []) hx hb hml hown htg hE (by decide +kernel) (idx := 66) (List.mem_filter.mpr ⟨by decide +kernel, rfl⟩) rfl rfl (by decide) rfl (Nat.le_of_ble_eq_true rfl) (Nat.le_of_ble_eq_true rfl) hc hs hC2 (R_thrown _) d_L_1168 hlB.1 (by decide) rfl (fun r M3 H3 locs3 hp3 ok3 hC3 hz3 hk3 => ?_)
    obtain ⟨rfl, rfl⟩ := hp3
    have ev : ((th M) 11 0 0) = 0 := by unfold th; rw [mup_same]
    rw [ev]
    refine lv_iload hx hb d_L_1171 (lv_at hl2 1 rfl) ?_
    refine lv_icmp_eq (tgt := 1178) hx hb d_L_1173 (by decide) (fun _ => ?_) (fun z => absurd rfl z)
    refine lv_iload hx hb d_L_1178 (lv_at hl2 1 rfl) ?_
    have hO3 : OutK s H3 o w1 := by
      obtain ⟨cell, z1, z2⟩ := hO1
      have hz : o < H1.size := (Array.getElem?_eq_some_iff.mp z1).1
      exact ⟨cell, by rw [hk3 o (by omega) hoA, hk2 o hz hoA]; exact z1, z2⟩
    refine lv_if_ne (tgt := 1195) hx hb d_L_1180 (by decide) (fun z => absurd rfl z) (fun _ => ?_)
    refine lv_aload_n hx hb d_L_1183 rfl (lv_at hlB 3 rfl) ?_
    refine lv_iconst (v := 0) hx hb d_L_1184 rfl ?_
    obtain ⟨cell, z1, z2, z3, z4, z5⟩ := id hO3
    refine W.lald (j := 0) (v := .long w1) hx hb z1 z2 z3 (by rw [z4]; decide) z5 rfl rfl d_L_1185 ?_
    refine lv_iload hx hb d_L_1186 (lv_at hl2 0 rfl) ?_
    refine lv_i2l (v := Int64.ofInt v) hx hb d_L_1188 (i2l_of (ok2 _ rfl)) ?_
    rw [hw1 rfl]
    refine W.lcmp hx hb d_L_1189 ?_
    refine lv_if_eq (tgt := 1195) hx hb d_L_1190 rfl (fun _ => ?_) (fun z => absurd (lcmp_self _) z)
    exact lv_goto (tgt := 1520) hx hb d_L_1195 (by decide) (kt _ _ _ _ _ _ ((inv_th inv).mono (by omega)) hC3 ⟨_, hO3⟩ hlB (by omega) (by omega))
  · refine L_wr C0 hst hXP hoS hoA hoC (y := wy_resource) (idx := 171) (vs := [sv xs x4 1, sv xs x4 2]) rfl (List.mem_filter.mpr ⟨by decide +kernel, rfl⟩) (List.mem_filter.mpr ⟨by decide +kernel, rfl⟩) wc_resource (show (parseMethodDescriptor wy_resource.desc).map (fun d => d.parameters.length) = some 4 by decide +kernel) (by decide) wm hC hO hc hs d_L_1144 hl.1 rfl (fun H1 w1 hC1 hO1 hw1 => ?_)
    refine lv_istore hx hb d_L_1147 hl (by decide) rfl (fun ls1 hl1 => ?_)
    have hlA : lv_has ls1 8 (lvL E b o x4) := lv_sub hl1 [1, 2, 3, 4, 5] rfl
    refine lv_aload_n hx hb d_L_1149 rfl (lv_at hlA 2 rfl) ?_
    refine L_arg hx hb hX hbl hbA hC1.1 (k := nI 1) (hin 1 (by decide)) hlA d_L_1150 d_L_1151 d_L_1153 d_L_1154 d_L_1155 (by decide) ?_
    refine L_arg hx hb hX hbl hbA hC1.1 (k := nI 2) (hin 2 (by decide)) hlA d_L_1156 d_L_1157 d_L_1159 d_L_1160 d_L_1161 (by decide) ?_
    refine L_callI (n := 106) (vs := [sv xs x4 1, sv xs x4 2]) (t := 0) (rest := []) hx hb hml hown htg hE (by decide +kernel) (idx := 173) (List.mem_filter.mpr ⟨by decide +kernel, rfl⟩) rfl rfl (by decide) rfl (Nat.le_of_ble_eq_true rfl) (Nat.le_of_ble_eq_true rfl) hc hs hC1 r2 d_L_1162 hlA.1 (by decide) rfl (fun r M2 H2 locs2 hp2 ok2 hC2 hz2 hk2 => ?_)
    obtain ⟨rfl, rfl⟩ := hp2
    refine lv_istore hx hb d_L_1165 hl1 (by decide) rfl (fun ls2 hl2 => ?_)
    have hlB : lv_has ls2 8 (lvL E b o x4) := lv_sub hl2 [2, 3, 4, 5, 6] rfl
    refine lv_aload_n hx hb d_L_1167 rfl (lv_at hlB 2 rfl) ?_
    refine L_callI (n := 2) (vs := []) (t := 0) (rest := []) hx hb hml hown htg hE (by decide +kernel) (idx := 66) (List.mem_filter.mpr ⟨by decide +kernel, rfl⟩) rfl rfl (by decide) rfl (Nat.le_of_ble_eq_true rfl) (Nat.le_of_ble_eq_true rfl) hc hs hC2 (R_thrown _) d_L_1168 hlB.1 (by decide) rfl (fun r M3 H3 locs3 hp3 ok3 hC3 hz3 hk3 => ?_)
    obtain ⟨rfl, rfl⟩ := hp3
    have ev : (((mup (th M) 11 0 0 (1))) 11 0 0) = 1 := mup_same _ _ _ _ _
    rw [ev]
    refine lv_iload hx hb d_L_1171 (lv_at hl2 1 rfl) ?_
    refine lv_icmp_eq (tgt := 1178) hx hb d_L_1173 (by decide) (fun _ => ?_) (fun z => absurd rfl z)
    refine lv_iload hx hb d_L_1178 (lv_at hl2 1 rfl) ?_
    have hO3 : OutK s H3 o w1 := by
      obtain ⟨cell, z1, z2⟩ := hO1
      have hz : o < H1.size := (Array.getElem?_eq_some_iff.mp z1).1
      exact ⟨cell, by rw [hk3 o (by omega) hoA, hk2 o hz hoA]; exact z1, z2⟩
    refine lv_if_ne (tgt := 1195) hx hb d_L_1180 (by decide) (fun _ => ?_) (fun z => absurd z (by decide))
    exact lv_goto (tgt := 1520) hx hb d_L_1195 (by decide) (kt _ _ _ _ _ _ ((inv_th1 inv).mono (by omega)) hC3 ⟨_, hO3⟩ hlB (by omega) (by omega))
set_option maxHeartbeats 2000000 in
theorem lx_isr (C0 : LF p s m meth c b L xs E) (hst : l.stackTraces = false) (hXP : XP E s) (hoS : E.2.2.2.1 ≤ o) (hoC : ∀ (g : Nat) (t : Int), g ∈ gCon → 0 ≤ t → t < gn g → E.2.2.1 g t ≠ o) : LCase p l e s m b below meth c Q E L o 1198 := by
  intro H locs ls M n cells slots x4 S0 hin hc hs kt
  obtain ⟨⟨hx, hb, hr, hml, hown, hts, hX, hbl, hlocks, hgv⟩, hE, hbE⟩ := id C0
  obtain ⟨hC, inv, hn, hl, hO, hoA⟩ := S0
  have hbA : ¬ AA E b := fun z => by have := z.1; omega
  have htg : ∀ w ∈ lwg, w.before #[Value.ref b] s = true := fun w hw => hts w (List.mem_filter.mp hw).1
  have key : (∃ v : Int, WMet wy_isr wb_isr 5 wh_isr [aR 1 0, aI (sv xs x4 1).toInt, aI (sv xs x4 2).toInt] M 0 v ∧ Runs 108 [aR 11 0, aI (sv xs x4 1).toInt, aI (sv xs x4 2).toInt] M (fun r M' => r = some (aI v) ∧ M' = th M)) ∨ (∃ v : Int, WMet wy_isr wb_isr 5 wh_isr [aR 1 0, aI (sv xs x4 1).toInt, aI (sv xs x4 2).toInt] M 1 v ∧ Runs 108 [aR 11 0, aI (sv xs x4 1).toInt, aI (sv xs x4 2).toInt] M (fun r M' => r = some (aI v) ∧ M' = (mup (th M) 11 0 0 (1)))) := by
    rcases x_isr inv hn (sv xs x4 1).toInt (sv xs x4 2).toInt with ⟨c9, v, r1, r2⟩ | ⟨c9, v, r2⟩
    · exact Or.inl ⟨v, W_isr_ok (sv xs x4 1).toInt (sv xs x4 2).toInt v M r1, r2⟩
    · exact Or.inr ⟨v, W_isr_thr (sv xs x4 1).toInt (sv xs x4 2).toInt v M (X_isr _ _ M c9), r2⟩
  refine lv_aload_n hx hb d_L_1198 rfl (lv_at hl 1 rfl) ?_
  refine L_arg hx hb hX hbl hbA hC.1 (k := nI 1) (hin 1 (by decide)) hl d_L_1199 d_L_1200 d_L_1202 d_L_1203 d_L_1204 (by decide) ?_
  refine L_arg hx hb hX hbl hbA hC.1 (k := nI 2) (hin 2 (by decide)) hl d_L_1205 d_L_1206 d_L_1208 d_L_1209 d_L_1210 (by decide) ?_
  refine lv_aload_n hx hb d_L_1211 rfl (lv_at hl 3 rfl) ?_
  rcases key with ⟨v, wm, r2⟩ | ⟨v, wm, r2⟩
  · refine L_wr C0 hst hXP hoS hoA hoC (y := wy_isr) (idx := 174) (vs := [sv xs x4 1, sv xs x4 2]) rfl (List.mem_filter.mpr ⟨by decide +kernel, rfl⟩) (List.mem_filter.mpr ⟨by decide +kernel, rfl⟩) wc_isr (show (parseMethodDescriptor wy_isr.desc).map (fun d => d.parameters.length) = some 4 by decide +kernel) (by decide) wm hC hO hc hs d_L_1212 hl.1 rfl (fun H1 w1 hC1 hO1 hw1 => ?_)
    refine lv_istore hx hb d_L_1215 hl (by decide) rfl (fun ls1 hl1 => ?_)
    have hlA : lv_has ls1 8 (lvL E b o x4) := lv_sub hl1 [1, 2, 3, 4, 5] rfl
    refine lv_aload_n hx hb d_L_1217 rfl (lv_at hlA 2 rfl) ?_
    refine L_arg hx hb hX hbl hbA hC1.1 (k := nI 1) (hin 1 (by decide)) hlA d_L_1218 d_L_1219 d_L_1221 d_L_1222 d_L_1223 (by decide) ?_
    refine L_arg hx hb hX hbl hbA hC1.1 (k := nI 2) (hin 2 (by decide)) hlA d_L_1224 d_L_1225 d_L_1227 d_L_1228 d_L_1229 (by decide) ?_
    refine L_callI (n := 108) (vs := [sv xs x4 1, sv xs x4 2]) (t := 0) (rest := []) hx hb hml hown htg hE (by decide +kernel) (idx := 176) (List.mem_filter.mpr ⟨by decide +kernel, rfl⟩) rfl rfl (by decide) rfl (Nat.le_of_ble_eq_true rfl) (Nat.le_of_ble_eq_true rfl) hc hs hC1 r2 d_L_1230 hlA.1 (by decide) rfl (fun r M2 H2 locs2 hp2 ok2 hC2 hz2 hk2 => ?_)
    obtain ⟨rfl, rfl⟩ := hp2
    refine lv_istore hx hb d_L_1233 hl1 (by decide) rfl (fun ls2 hl2 => ?_)
    have hlB : lv_has ls2 8 (lvL E b o x4) := lv_sub hl2 [2, 3, 4, 5, 6] rfl
    refine lv_aload_n hx hb d_L_1235 rfl (lv_at hlB 2 rfl) ?_
    refine L_callI (n := 2) (vs := []) (t := 0) (rest := []) hx hb hml hown htg hE (by decide +kernel) (idx := 66) (List.mem_filter.mpr ⟨by decide +kernel, rfl⟩) rfl rfl (by decide) rfl (Nat.le_of_ble_eq_true rfl) (Nat.le_of_ble_eq_true rfl) hc hs hC2 (R_thrown _) d_L_1236 hlB.1 (by decide) rfl (fun r M3 H3 locs3 hp3 ok3 hC3 hz3 hk3 => ?_)
    obtain ⟨rfl, rfl⟩ := hp3
    have ev : ((th M) 11 0 0) = 0 := by unfold th; rw [mup_same]
    rw [ev]
    refine lv_iload hx hb d_L_1239 (lv_at hl2 1 rfl) ?_
    refine lv_icmp_eq (tgt := 1246) hx hb d_L_1241 (by decide) (fun _ => ?_) (fun z => absurd rfl z)
    refine lv_iload hx hb d_L_1246 (lv_at hl2 1 rfl) ?_
    have hO3 : OutK s H3 o w1 := by
      obtain ⟨cell, z1, z2⟩ := hO1
      have hz : o < H1.size := (Array.getElem?_eq_some_iff.mp z1).1
      exact ⟨cell, by rw [hk3 o (by omega) hoA, hk2 o hz hoA]; exact z1, z2⟩
    refine lv_if_ne (tgt := 1263) hx hb d_L_1248 (by decide) (fun z => absurd rfl z) (fun _ => ?_)
    refine lv_aload_n hx hb d_L_1251 rfl (lv_at hlB 3 rfl) ?_
    refine lv_iconst (v := 0) hx hb d_L_1252 rfl ?_
    obtain ⟨cell, z1, z2, z3, z4, z5⟩ := id hO3
    refine W.lald (j := 0) (v := .long w1) hx hb z1 z2 z3 (by rw [z4]; decide) z5 rfl rfl d_L_1253 ?_
    refine lv_iload hx hb d_L_1254 (lv_at hl2 0 rfl) ?_
    refine lv_i2l (v := Int64.ofInt v) hx hb d_L_1256 (i2l_of (ok2 _ rfl)) ?_
    rw [hw1 rfl]
    refine W.lcmp hx hb d_L_1257 ?_
    refine lv_if_eq (tgt := 1263) hx hb d_L_1258 rfl (fun _ => ?_) (fun z => absurd (lcmp_self _) z)
    exact lv_goto (tgt := 1520) hx hb d_L_1263 (by decide) (kt _ _ _ _ _ _ ((inv_th inv).mono (by omega)) hC3 ⟨_, hO3⟩ hlB (by omega) (by omega))
  · refine L_wr C0 hst hXP hoS hoA hoC (y := wy_isr) (idx := 174) (vs := [sv xs x4 1, sv xs x4 2]) rfl (List.mem_filter.mpr ⟨by decide +kernel, rfl⟩) (List.mem_filter.mpr ⟨by decide +kernel, rfl⟩) wc_isr (show (parseMethodDescriptor wy_isr.desc).map (fun d => d.parameters.length) = some 4 by decide +kernel) (by decide) wm hC hO hc hs d_L_1212 hl.1 rfl (fun H1 w1 hC1 hO1 hw1 => ?_)
    refine lv_istore hx hb d_L_1215 hl (by decide) rfl (fun ls1 hl1 => ?_)
    have hlA : lv_has ls1 8 (lvL E b o x4) := lv_sub hl1 [1, 2, 3, 4, 5] rfl
    refine lv_aload_n hx hb d_L_1217 rfl (lv_at hlA 2 rfl) ?_
    refine L_arg hx hb hX hbl hbA hC1.1 (k := nI 1) (hin 1 (by decide)) hlA d_L_1218 d_L_1219 d_L_1221 d_L_1222 d_L_1223 (by decide) ?_
    refine L_arg hx hb hX hbl hbA hC1.1 (k := nI 2) (hin 2 (by decide)) hlA d_L_1224 d_L_1225 d_L_1227 d_L_1228 d_L_1229 (by decide) ?_
    refine L_callI (n := 108) (vs := [sv xs x4 1, sv xs x4 2]) (t := 0) (rest := []) hx hb hml hown htg hE (by decide +kernel) (idx := 176) (List.mem_filter.mpr ⟨by decide +kernel, rfl⟩) rfl rfl (by decide) rfl (Nat.le_of_ble_eq_true rfl) (Nat.le_of_ble_eq_true rfl) hc hs hC1 r2 d_L_1230 hlA.1 (by decide) rfl (fun r M2 H2 locs2 hp2 ok2 hC2 hz2 hk2 => ?_)
    obtain ⟨rfl, rfl⟩ := hp2
    refine lv_istore hx hb d_L_1233 hl1 (by decide) rfl (fun ls2 hl2 => ?_)
    have hlB : lv_has ls2 8 (lvL E b o x4) := lv_sub hl2 [2, 3, 4, 5, 6] rfl
    refine lv_aload_n hx hb d_L_1235 rfl (lv_at hlB 2 rfl) ?_
    refine L_callI (n := 2) (vs := []) (t := 0) (rest := []) hx hb hml hown htg hE (by decide +kernel) (idx := 66) (List.mem_filter.mpr ⟨by decide +kernel, rfl⟩) rfl rfl (by decide) rfl (Nat.le_of_ble_eq_true rfl) (Nat.le_of_ble_eq_true rfl) hc hs hC2 (R_thrown _) d_L_1236 hlB.1 (by decide) rfl (fun r M3 H3 locs3 hp3 ok3 hC3 hz3 hk3 => ?_)
    obtain ⟨rfl, rfl⟩ := hp3
    have ev : (((mup (th M) 11 0 0 (1))) 11 0 0) = 1 := mup_same _ _ _ _ _
    rw [ev]
    refine lv_iload hx hb d_L_1239 (lv_at hl2 1 rfl) ?_
    refine lv_icmp_eq (tgt := 1246) hx hb d_L_1241 (by decide) (fun _ => ?_) (fun z => absurd rfl z)
    refine lv_iload hx hb d_L_1246 (lv_at hl2 1 rfl) ?_
    have hO3 : OutK s H3 o w1 := by
      obtain ⟨cell, z1, z2⟩ := hO1
      have hz : o < H1.size := (Array.getElem?_eq_some_iff.mp z1).1
      exact ⟨cell, by rw [hk3 o (by omega) hoA, hk2 o hz hoA]; exact z1, z2⟩
    refine lv_if_ne (tgt := 1263) hx hb d_L_1248 (by decide) (fun _ => ?_) (fun z => absurd z (by decide))
    exact lv_goto (tgt := 1520) hx hb d_L_1263 (by decide) (kt _ _ _ _ _ _ ((inv_th1 inv).mono (by omega)) hC3 ⟨_, hO3⟩ hlB (by omega) (by omega))
set_option maxHeartbeats 2000000 in
theorem lx_counter (C0 : LF p s m meth c b L xs E) (hst : l.stackTraces = false) (hXP : XP E s) (hoS : E.2.2.2.1 ≤ o) (hoC : ∀ (g : Nat) (t : Int), g ∈ gCon → 0 ≤ t → t < gn g → E.2.2.1 g t ≠ o) : LCase p l e s m b below meth c Q E L o 1266 := by
  intro H locs ls M n cells slots x4 S0 hin hc hs kt
  obtain ⟨⟨hx, hb, hr, hml, hown, hts, hX, hbl, hlocks, hgv⟩, hE, hbE⟩ := id C0
  obtain ⟨hC, inv, hn, hl, hO, hoA⟩ := S0
  have hbA : ¬ AA E b := fun z => by have := z.1; omega
  have htg : ∀ w ∈ lwg, w.before #[Value.ref b] s = true := fun w hw => hts w (List.mem_filter.mp hw).1
  have key : (∃ v : Int, WMet wy_counter wb_counter 5 wh_counter [aR 1 0, aI (sv xs x4 1).toInt, aI (sv xs x4 2).toInt] M 0 v ∧ Runs 109 [aR 11 0, aI (sv xs x4 1).toInt, aI (sv xs x4 2).toInt] M (fun r M' => r = some (aI v) ∧ M' = th M)) ∨ (∃ v : Int, WMet wy_counter wb_counter 5 wh_counter [aR 1 0, aI (sv xs x4 1).toInt, aI (sv xs x4 2).toInt] M 1 v ∧ Runs 109 [aR 11 0, aI (sv xs x4 1).toInt, aI (sv xs x4 2).toInt] M (fun r M' => r = some (aI v) ∧ M' = (mup (th M) 11 0 0 (1)))) := by
    rcases x_counter inv hn (sv xs x4 1).toInt (sv xs x4 2).toInt with ⟨c9, v, r1, r2⟩ | ⟨c9, v, r2⟩
    · exact Or.inl ⟨v, W_counter_ok (sv xs x4 1).toInt (sv xs x4 2).toInt v M r1, r2⟩
    · exact Or.inr ⟨v, W_counter_thr (sv xs x4 1).toInt (sv xs x4 2).toInt v M (X_counter _ _ M c9), r2⟩
  refine lv_aload_n hx hb d_L_1266 rfl (lv_at hl 1 rfl) ?_
  refine L_arg hx hb hX hbl hbA hC.1 (k := nI 1) (hin 1 (by decide)) hl d_L_1267 d_L_1268 d_L_1270 d_L_1271 d_L_1272 (by decide) ?_
  refine L_arg hx hb hX hbl hbA hC.1 (k := nI 2) (hin 2 (by decide)) hl d_L_1273 d_L_1274 d_L_1276 d_L_1277 d_L_1278 (by decide) ?_
  refine lv_aload_n hx hb d_L_1279 rfl (lv_at hl 3 rfl) ?_
  rcases key with ⟨v, wm, r2⟩ | ⟨v, wm, r2⟩
  · refine L_wr C0 hst hXP hoS hoA hoC (y := wy_counter) (idx := 177) (vs := [sv xs x4 1, sv xs x4 2]) rfl (List.mem_filter.mpr ⟨by decide +kernel, rfl⟩) (List.mem_filter.mpr ⟨by decide +kernel, rfl⟩) wc_counter (show (parseMethodDescriptor wy_counter.desc).map (fun d => d.parameters.length) = some 4 by decide +kernel) (by decide) wm hC hO hc hs d_L_1280 hl.1 rfl (fun H1 w1 hC1 hO1 hw1 => ?_)
    refine lv_istore hx hb d_L_1283 hl (by decide) rfl (fun ls1 hl1 => ?_)
    have hlA : lv_has ls1 8 (lvL E b o x4) := lv_sub hl1 [1, 2, 3, 4, 5] rfl
    refine lv_aload_n hx hb d_L_1285 rfl (lv_at hlA 2 rfl) ?_
    refine L_arg hx hb hX hbl hbA hC1.1 (k := nI 1) (hin 1 (by decide)) hlA d_L_1286 d_L_1287 d_L_1289 d_L_1290 d_L_1291 (by decide) ?_
    refine L_arg hx hb hX hbl hbA hC1.1 (k := nI 2) (hin 2 (by decide)) hlA d_L_1292 d_L_1293 d_L_1295 d_L_1296 d_L_1297 (by decide) ?_
    refine L_callI (n := 109) (vs := [sv xs x4 1, sv xs x4 2]) (t := 0) (rest := []) hx hb hml hown htg hE (by decide +kernel) (idx := 179) (List.mem_filter.mpr ⟨by decide +kernel, rfl⟩) rfl rfl (by decide) rfl (Nat.le_of_ble_eq_true rfl) (Nat.le_of_ble_eq_true rfl) hc hs hC1 r2 d_L_1298 hlA.1 (by decide) rfl (fun r M2 H2 locs2 hp2 ok2 hC2 hz2 hk2 => ?_)
    obtain ⟨rfl, rfl⟩ := hp2
    refine lv_istore hx hb d_L_1301 hl1 (by decide) rfl (fun ls2 hl2 => ?_)
    have hlB : lv_has ls2 8 (lvL E b o x4) := lv_sub hl2 [2, 3, 4, 5, 6] rfl
    refine lv_aload_n hx hb d_L_1303 rfl (lv_at hlB 2 rfl) ?_
    refine L_callI (n := 2) (vs := []) (t := 0) (rest := []) hx hb hml hown htg hE (by decide +kernel) (idx := 66) (List.mem_filter.mpr ⟨by decide +kernel, rfl⟩) rfl rfl (by decide) rfl (Nat.le_of_ble_eq_true rfl) (Nat.le_of_ble_eq_true rfl) hc hs hC2 (R_thrown _) d_L_1304 hlB.1 (by decide) rfl (fun r M3 H3 locs3 hp3 ok3 hC3 hz3 hk3 => ?_)
    obtain ⟨rfl, rfl⟩ := hp3
    have ev : ((th M) 11 0 0) = 0 := by unfold th; rw [mup_same]
    rw [ev]
    refine lv_iload hx hb d_L_1307 (lv_at hl2 1 rfl) ?_
    refine lv_icmp_eq (tgt := 1314) hx hb d_L_1309 (by decide) (fun _ => ?_) (fun z => absurd rfl z)
    refine lv_iload hx hb d_L_1314 (lv_at hl2 1 rfl) ?_
    have hO3 : OutK s H3 o w1 := by
      obtain ⟨cell, z1, z2⟩ := hO1
      have hz : o < H1.size := (Array.getElem?_eq_some_iff.mp z1).1
      exact ⟨cell, by rw [hk3 o (by omega) hoA, hk2 o hz hoA]; exact z1, z2⟩
    refine lv_if_ne (tgt := 1331) hx hb d_L_1316 (by decide) (fun z => absurd rfl z) (fun _ => ?_)
    refine lv_aload_n hx hb d_L_1319 rfl (lv_at hlB 3 rfl) ?_
    refine lv_iconst (v := 0) hx hb d_L_1320 rfl ?_
    obtain ⟨cell, z1, z2, z3, z4, z5⟩ := id hO3
    refine W.lald (j := 0) (v := .long w1) hx hb z1 z2 z3 (by rw [z4]; decide) z5 rfl rfl d_L_1321 ?_
    refine lv_iload hx hb d_L_1322 (lv_at hl2 0 rfl) ?_
    refine lv_i2l (v := Int64.ofInt v) hx hb d_L_1324 (i2l_of (ok2 _ rfl)) ?_
    rw [hw1 rfl]
    refine W.lcmp hx hb d_L_1325 ?_
    refine lv_if_eq (tgt := 1331) hx hb d_L_1326 rfl (fun _ => ?_) (fun z => absurd (lcmp_self _) z)
    exact lv_goto (tgt := 1520) hx hb d_L_1331 (by decide) (kt _ _ _ _ _ _ ((inv_th inv).mono (by omega)) hC3 ⟨_, hO3⟩ hlB (by omega) (by omega))
  · refine L_wr C0 hst hXP hoS hoA hoC (y := wy_counter) (idx := 177) (vs := [sv xs x4 1, sv xs x4 2]) rfl (List.mem_filter.mpr ⟨by decide +kernel, rfl⟩) (List.mem_filter.mpr ⟨by decide +kernel, rfl⟩) wc_counter (show (parseMethodDescriptor wy_counter.desc).map (fun d => d.parameters.length) = some 4 by decide +kernel) (by decide) wm hC hO hc hs d_L_1280 hl.1 rfl (fun H1 w1 hC1 hO1 hw1 => ?_)
    refine lv_istore hx hb d_L_1283 hl (by decide) rfl (fun ls1 hl1 => ?_)
    have hlA : lv_has ls1 8 (lvL E b o x4) := lv_sub hl1 [1, 2, 3, 4, 5] rfl
    refine lv_aload_n hx hb d_L_1285 rfl (lv_at hlA 2 rfl) ?_
    refine L_arg hx hb hX hbl hbA hC1.1 (k := nI 1) (hin 1 (by decide)) hlA d_L_1286 d_L_1287 d_L_1289 d_L_1290 d_L_1291 (by decide) ?_
    refine L_arg hx hb hX hbl hbA hC1.1 (k := nI 2) (hin 2 (by decide)) hlA d_L_1292 d_L_1293 d_L_1295 d_L_1296 d_L_1297 (by decide) ?_
    refine L_callI (n := 109) (vs := [sv xs x4 1, sv xs x4 2]) (t := 0) (rest := []) hx hb hml hown htg hE (by decide +kernel) (idx := 179) (List.mem_filter.mpr ⟨by decide +kernel, rfl⟩) rfl rfl (by decide) rfl (Nat.le_of_ble_eq_true rfl) (Nat.le_of_ble_eq_true rfl) hc hs hC1 r2 d_L_1298 hlA.1 (by decide) rfl (fun r M2 H2 locs2 hp2 ok2 hC2 hz2 hk2 => ?_)
    obtain ⟨rfl, rfl⟩ := hp2
    refine lv_istore hx hb d_L_1301 hl1 (by decide) rfl (fun ls2 hl2 => ?_)
    have hlB : lv_has ls2 8 (lvL E b o x4) := lv_sub hl2 [2, 3, 4, 5, 6] rfl
    refine lv_aload_n hx hb d_L_1303 rfl (lv_at hlB 2 rfl) ?_
    refine L_callI (n := 2) (vs := []) (t := 0) (rest := []) hx hb hml hown htg hE (by decide +kernel) (idx := 66) (List.mem_filter.mpr ⟨by decide +kernel, rfl⟩) rfl rfl (by decide) rfl (Nat.le_of_ble_eq_true rfl) (Nat.le_of_ble_eq_true rfl) hc hs hC2 (R_thrown _) d_L_1304 hlB.1 (by decide) rfl (fun r M3 H3 locs3 hp3 ok3 hC3 hz3 hk3 => ?_)
    obtain ⟨rfl, rfl⟩ := hp3
    have ev : (((mup (th M) 11 0 0 (1))) 11 0 0) = 1 := mup_same _ _ _ _ _
    rw [ev]
    refine lv_iload hx hb d_L_1307 (lv_at hl2 1 rfl) ?_
    refine lv_icmp_eq (tgt := 1314) hx hb d_L_1309 (by decide) (fun _ => ?_) (fun z => absurd rfl z)
    refine lv_iload hx hb d_L_1314 (lv_at hl2 1 rfl) ?_
    have hO3 : OutK s H3 o w1 := by
      obtain ⟨cell, z1, z2⟩ := hO1
      have hz : o < H1.size := (Array.getElem?_eq_some_iff.mp z1).1
      exact ⟨cell, by rw [hk3 o (by omega) hoA, hk2 o hz hoA]; exact z1, z2⟩
    refine lv_if_ne (tgt := 1331) hx hb d_L_1316 (by decide) (fun _ => ?_) (fun z => absurd z (by decide))
    exact lv_goto (tgt := 1520) hx hb d_L_1331 (by decide) (kt _ _ _ _ _ _ ((inv_th1 inv).mono (by omega)) hC3 ⟨_, hO3⟩ hlB (by omega) (by omega))
set_option maxHeartbeats 2000000 in
theorem lx_alarm (C0 : LF p s m meth c b L xs E) (hst : l.stackTraces = false) (hXP : XP E s) (hoS : E.2.2.2.1 ≤ o) (hoC : ∀ (g : Nat) (t : Int), g ∈ gCon → 0 ≤ t → t < gn g → E.2.2.1 g t ≠ o) : LCase p l e s m b below meth c Q E L o 1334 := by
  intro H locs ls M n cells slots x4 S0 hin hc hs kt
  obtain ⟨⟨hx, hb, hr, hml, hown, hts, hX, hbl, hlocks, hgv⟩, hE, hbE⟩ := id C0
  obtain ⟨hC, inv, hn, hl, hO, hoA⟩ := S0
  have hbA : ¬ AA E b := fun z => by have := z.1; omega
  have htg : ∀ w ∈ lwg, w.before #[Value.ref b] s = true := fun w hw => hts w (List.mem_filter.mp hw).1
  have key : (∃ v : Int, WMet wy_alarm wb_alarm 5 wh_alarm [aR 1 0, aI (sv xs x4 1).toInt, aI (sv xs x4 2).toInt] M 0 v ∧ Runs 110 [aR 11 0, aI (sv xs x4 1).toInt, aI (sv xs x4 2).toInt] M (fun r M' => r = some (aI v) ∧ M' = th M)) ∨ (∃ v : Int, WMet wy_alarm wb_alarm 5 wh_alarm [aR 1 0, aI (sv xs x4 1).toInt, aI (sv xs x4 2).toInt] M 1 v ∧ Runs 110 [aR 11 0, aI (sv xs x4 1).toInt, aI (sv xs x4 2).toInt] M (fun r M' => r = some (aI v) ∧ M' = (mup (th M) 11 0 0 (1)))) := by
    rcases x_alarm inv hn (sv xs x4 1).toInt (sv xs x4 2).toInt with ⟨c9, v, r1, r2⟩ | ⟨c9, v, r2⟩
    · exact Or.inl ⟨v, W_alarm_ok (sv xs x4 1).toInt (sv xs x4 2).toInt v M r1, r2⟩
    · exact Or.inr ⟨v, W_alarm_thr (sv xs x4 1).toInt (sv xs x4 2).toInt v M (X_alarm _ _ M c9), r2⟩
  refine lv_aload_n hx hb d_L_1334 rfl (lv_at hl 1 rfl) ?_
  refine L_arg hx hb hX hbl hbA hC.1 (k := nI 1) (hin 1 (by decide)) hl d_L_1335 d_L_1336 d_L_1338 d_L_1339 d_L_1340 (by decide) ?_
  refine L_arg hx hb hX hbl hbA hC.1 (k := nI 2) (hin 2 (by decide)) hl d_L_1341 d_L_1342 d_L_1344 d_L_1345 d_L_1346 (by decide) ?_
  refine lv_aload_n hx hb d_L_1347 rfl (lv_at hl 3 rfl) ?_
  rcases key with ⟨v, wm, r2⟩ | ⟨v, wm, r2⟩
  · refine L_wr C0 hst hXP hoS hoA hoC (y := wy_alarm) (idx := 180) (vs := [sv xs x4 1, sv xs x4 2]) rfl (List.mem_filter.mpr ⟨by decide +kernel, rfl⟩) (List.mem_filter.mpr ⟨by decide +kernel, rfl⟩) wc_alarm (show (parseMethodDescriptor wy_alarm.desc).map (fun d => d.parameters.length) = some 4 by decide +kernel) (by decide) wm hC hO hc hs d_L_1348 hl.1 rfl (fun H1 w1 hC1 hO1 hw1 => ?_)
    refine lv_istore hx hb d_L_1351 hl (by decide) rfl (fun ls1 hl1 => ?_)
    have hlA : lv_has ls1 8 (lvL E b o x4) := lv_sub hl1 [1, 2, 3, 4, 5] rfl
    refine lv_aload_n hx hb d_L_1353 rfl (lv_at hlA 2 rfl) ?_
    refine L_arg hx hb hX hbl hbA hC1.1 (k := nI 1) (hin 1 (by decide)) hlA d_L_1354 d_L_1355 d_L_1357 d_L_1358 d_L_1359 (by decide) ?_
    refine L_arg hx hb hX hbl hbA hC1.1 (k := nI 2) (hin 2 (by decide)) hlA d_L_1360 d_L_1361 d_L_1363 d_L_1364 d_L_1365 (by decide) ?_
    refine L_callI (n := 110) (vs := [sv xs x4 1, sv xs x4 2]) (t := 0) (rest := []) hx hb hml hown htg hE (by decide +kernel) (idx := 182) (List.mem_filter.mpr ⟨by decide +kernel, rfl⟩) rfl rfl (by decide) rfl (Nat.le_of_ble_eq_true rfl) (Nat.le_of_ble_eq_true rfl) hc hs hC1 r2 d_L_1366 hlA.1 (by decide) rfl (fun r M2 H2 locs2 hp2 ok2 hC2 hz2 hk2 => ?_)
    obtain ⟨rfl, rfl⟩ := hp2
    refine lv_istore hx hb d_L_1369 hl1 (by decide) rfl (fun ls2 hl2 => ?_)
    have hlB : lv_has ls2 8 (lvL E b o x4) := lv_sub hl2 [2, 3, 4, 5, 6] rfl
    refine lv_aload_n hx hb d_L_1371 rfl (lv_at hlB 2 rfl) ?_
    refine L_callI (n := 2) (vs := []) (t := 0) (rest := []) hx hb hml hown htg hE (by decide +kernel) (idx := 66) (List.mem_filter.mpr ⟨by decide +kernel, rfl⟩) rfl rfl (by decide) rfl (Nat.le_of_ble_eq_true rfl) (Nat.le_of_ble_eq_true rfl) hc hs hC2 (R_thrown _) d_L_1372 hlB.1 (by decide) rfl (fun r M3 H3 locs3 hp3 ok3 hC3 hz3 hk3 => ?_)
    obtain ⟨rfl, rfl⟩ := hp3
    have ev : ((th M) 11 0 0) = 0 := by unfold th; rw [mup_same]
    rw [ev]
    refine lv_iload hx hb d_L_1375 (lv_at hl2 1 rfl) ?_
    refine lv_icmp_eq (tgt := 1382) hx hb d_L_1377 (by decide) (fun _ => ?_) (fun z => absurd rfl z)
    refine lv_iload hx hb d_L_1382 (lv_at hl2 1 rfl) ?_
    have hO3 : OutK s H3 o w1 := by
      obtain ⟨cell, z1, z2⟩ := hO1
      have hz : o < H1.size := (Array.getElem?_eq_some_iff.mp z1).1
      exact ⟨cell, by rw [hk3 o (by omega) hoA, hk2 o hz hoA]; exact z1, z2⟩
    refine lv_if_ne (tgt := 1399) hx hb d_L_1384 (by decide) (fun z => absurd rfl z) (fun _ => ?_)
    refine lv_aload_n hx hb d_L_1387 rfl (lv_at hlB 3 rfl) ?_
    refine lv_iconst (v := 0) hx hb d_L_1388 rfl ?_
    obtain ⟨cell, z1, z2, z3, z4, z5⟩ := id hO3
    refine W.lald (j := 0) (v := .long w1) hx hb z1 z2 z3 (by rw [z4]; decide) z5 rfl rfl d_L_1389 ?_
    refine lv_iload hx hb d_L_1390 (lv_at hl2 0 rfl) ?_
    refine lv_i2l (v := Int64.ofInt v) hx hb d_L_1392 (i2l_of (ok2 _ rfl)) ?_
    rw [hw1 rfl]
    refine W.lcmp hx hb d_L_1393 ?_
    refine lv_if_eq (tgt := 1399) hx hb d_L_1394 rfl (fun _ => ?_) (fun z => absurd (lcmp_self _) z)
    exact lv_goto (tgt := 1520) hx hb d_L_1399 (by decide) (kt _ _ _ _ _ _ ((inv_th inv).mono (by omega)) hC3 ⟨_, hO3⟩ hlB (by omega) (by omega))
  · refine L_wr C0 hst hXP hoS hoA hoC (y := wy_alarm) (idx := 180) (vs := [sv xs x4 1, sv xs x4 2]) rfl (List.mem_filter.mpr ⟨by decide +kernel, rfl⟩) (List.mem_filter.mpr ⟨by decide +kernel, rfl⟩) wc_alarm (show (parseMethodDescriptor wy_alarm.desc).map (fun d => d.parameters.length) = some 4 by decide +kernel) (by decide) wm hC hO hc hs d_L_1348 hl.1 rfl (fun H1 w1 hC1 hO1 hw1 => ?_)
    refine lv_istore hx hb d_L_1351 hl (by decide) rfl (fun ls1 hl1 => ?_)
    have hlA : lv_has ls1 8 (lvL E b o x4) := lv_sub hl1 [1, 2, 3, 4, 5] rfl
    refine lv_aload_n hx hb d_L_1353 rfl (lv_at hlA 2 rfl) ?_
    refine L_arg hx hb hX hbl hbA hC1.1 (k := nI 1) (hin 1 (by decide)) hlA d_L_1354 d_L_1355 d_L_1357 d_L_1358 d_L_1359 (by decide) ?_
    refine L_arg hx hb hX hbl hbA hC1.1 (k := nI 2) (hin 2 (by decide)) hlA d_L_1360 d_L_1361 d_L_1363 d_L_1364 d_L_1365 (by decide) ?_
    refine L_callI (n := 110) (vs := [sv xs x4 1, sv xs x4 2]) (t := 0) (rest := []) hx hb hml hown htg hE (by decide +kernel) (idx := 182) (List.mem_filter.mpr ⟨by decide +kernel, rfl⟩) rfl rfl (by decide) rfl (Nat.le_of_ble_eq_true rfl) (Nat.le_of_ble_eq_true rfl) hc hs hC1 r2 d_L_1366 hlA.1 (by decide) rfl (fun r M2 H2 locs2 hp2 ok2 hC2 hz2 hk2 => ?_)
    obtain ⟨rfl, rfl⟩ := hp2
    refine lv_istore hx hb d_L_1369 hl1 (by decide) rfl (fun ls2 hl2 => ?_)
    have hlB : lv_has ls2 8 (lvL E b o x4) := lv_sub hl2 [2, 3, 4, 5, 6] rfl
    refine lv_aload_n hx hb d_L_1371 rfl (lv_at hlB 2 rfl) ?_
    refine L_callI (n := 2) (vs := []) (t := 0) (rest := []) hx hb hml hown htg hE (by decide +kernel) (idx := 66) (List.mem_filter.mpr ⟨by decide +kernel, rfl⟩) rfl rfl (by decide) rfl (Nat.le_of_ble_eq_true rfl) (Nat.le_of_ble_eq_true rfl) hc hs hC2 (R_thrown _) d_L_1372 hlB.1 (by decide) rfl (fun r M3 H3 locs3 hp3 ok3 hC3 hz3 hk3 => ?_)
    obtain ⟨rfl, rfl⟩ := hp3
    have ev : (((mup (th M) 11 0 0 (1))) 11 0 0) = 1 := mup_same _ _ _ _ _
    rw [ev]
    refine lv_iload hx hb d_L_1375 (lv_at hl2 1 rfl) ?_
    refine lv_icmp_eq (tgt := 1382) hx hb d_L_1377 (by decide) (fun _ => ?_) (fun z => absurd rfl z)
    refine lv_iload hx hb d_L_1382 (lv_at hl2 1 rfl) ?_
    have hO3 : OutK s H3 o w1 := by
      obtain ⟨cell, z1, z2⟩ := hO1
      have hz : o < H1.size := (Array.getElem?_eq_some_iff.mp z1).1
      exact ⟨cell, by rw [hk3 o (by omega) hoA, hk2 o hz hoA]; exact z1, z2⟩
    refine lv_if_ne (tgt := 1399) hx hb d_L_1384 (by decide) (fun _ => ?_) (fun z => absurd z (by decide))
    exact lv_goto (tgt := 1520) hx hb d_L_1399 (by decide) (kt _ _ _ _ _ _ ((inv_th1 inv).mono (by omega)) hC3 ⟨_, hO3⟩ hlB (by omega) (by omega))
set_option maxHeartbeats 2000000 in
theorem lx_note (C0 : LF p s m meth c b L xs E) (hst : l.stackTraces = false) (hXP : XP E s) (hoS : E.2.2.2.1 ≤ o) (hoC : ∀ (g : Nat) (t : Int), g ∈ gCon → 0 ≤ t → t < gn g → E.2.2.1 g t ≠ o) : LCase p l e s m b below meth c Q E L o 1439 := by
  intro H locs ls M n cells slots x4 S0 hin hc hs kt
  obtain ⟨⟨hx, hb, hr, hml, hown, hts, hX, hbl, hlocks, hgv⟩, hE, hbE⟩ := id C0
  obtain ⟨hC, inv, hn, hl, hO, hoA⟩ := S0
  have hbA : ¬ AA E b := fun z => by have := z.1; omega
  have htg : ∀ w ∈ lwg, w.before #[Value.ref b] s = true := fun w hw => hts w (List.mem_filter.mp hw).1
  have key : (∃ v : Int, WMet wy_note wb_note 4 wh_note [aR 1 0, aI (sv xs x4 1).toInt] M 0 v ∧ Runs 112 [aR 11 0, aI (sv xs x4 1).toInt] M (fun r M' => r = some (aI v) ∧ M' = th M)) ∨ (∃ v : Int, WMet wy_note wb_note 4 wh_note [aR 1 0, aI (sv xs x4 1).toInt] M 1 v ∧ Runs 112 [aR 11 0, aI (sv xs x4 1).toInt] M (fun r M' => r = some (aI v) ∧ M' = (mup (th M) 11 0 0 (1)))) := by
    rcases x_note inv hn (sv xs x4 1).toInt with ⟨c9, v, r1, r2⟩ | ⟨c9, v, r2⟩
    · exact Or.inl ⟨v, W_note_ok (sv xs x4 1).toInt v M r1, r2⟩
    · exact Or.inr ⟨v, W_note_thr (sv xs x4 1).toInt v M (X_note _ M (fun z => c9 ⟨z.1, by split <;> omega⟩)), r2⟩
  refine lv_aload_n hx hb d_L_1439 rfl (lv_at hl 1 rfl) ?_
  refine L_arg hx hb hX hbl hbA hC.1 (k := nI 1) (hin 1 (by decide)) hl d_L_1440 d_L_1441 d_L_1443 d_L_1444 d_L_1445 (by decide) ?_
  refine lv_aload_n hx hb d_L_1446 rfl (lv_at hl 3 rfl) ?_
  rcases key with ⟨v, wm, r2⟩ | ⟨v, wm, r2⟩
  · refine L_wr C0 hst hXP hoS hoA hoC (y := wy_note) (idx := 187) (vs := [sv xs x4 1]) rfl (List.mem_filter.mpr ⟨by decide +kernel, rfl⟩) (List.mem_filter.mpr ⟨by decide +kernel, rfl⟩) wc_note (show (parseMethodDescriptor wy_note.desc).map (fun d => d.parameters.length) = some 3 by decide +kernel) (by decide) wm hC hO hc hs d_L_1447 hl.1 rfl (fun H1 w1 hC1 hO1 hw1 => ?_)
    refine lv_istore hx hb d_L_1450 hl (by decide) rfl (fun ls1 hl1 => ?_)
    have hlA : lv_has ls1 8 (lvL E b o x4) := lv_sub hl1 [1, 2, 3, 4, 5] rfl
    refine lv_aload_n hx hb d_L_1452 rfl (lv_at hlA 2 rfl) ?_
    refine L_arg hx hb hX hbl hbA hC1.1 (k := nI 1) (hin 1 (by decide)) hlA d_L_1453 d_L_1454 d_L_1456 d_L_1457 d_L_1458 (by decide) ?_
    refine L_callI (n := 112) (vs := [sv xs x4 1]) (t := 0) (rest := []) hx hb hml hown htg hE (by decide +kernel) (idx := 190) (List.mem_filter.mpr ⟨by decide +kernel, rfl⟩) rfl rfl (by decide) rfl (Nat.le_of_ble_eq_true rfl) (Nat.le_of_ble_eq_true rfl) hc hs hC1 r2 d_L_1459 hlA.1 (by decide) rfl (fun r M2 H2 locs2 hp2 ok2 hC2 hz2 hk2 => ?_)
    obtain ⟨rfl, rfl⟩ := hp2
    refine lv_istore hx hb d_L_1462 hl1 (by decide) rfl (fun ls2 hl2 => ?_)
    have hlB : lv_has ls2 8 (lvL E b o x4) := lv_sub hl2 [2, 3, 4, 5, 6] rfl
    refine lv_aload_n hx hb d_L_1464 rfl (lv_at hlB 2 rfl) ?_
    refine L_callI (n := 2) (vs := []) (t := 0) (rest := []) hx hb hml hown htg hE (by decide +kernel) (idx := 66) (List.mem_filter.mpr ⟨by decide +kernel, rfl⟩) rfl rfl (by decide) rfl (Nat.le_of_ble_eq_true rfl) (Nat.le_of_ble_eq_true rfl) hc hs hC2 (R_thrown _) d_L_1465 hlB.1 (by decide) rfl (fun r M3 H3 locs3 hp3 ok3 hC3 hz3 hk3 => ?_)
    obtain ⟨rfl, rfl⟩ := hp3
    have ev : ((th M) 11 0 0) = 0 := by unfold th; rw [mup_same]
    rw [ev]
    refine lv_iload hx hb d_L_1468 (lv_at hl2 1 rfl) ?_
    refine lv_icmp_eq (tgt := 1475) hx hb d_L_1470 (by decide) (fun _ => ?_) (fun z => absurd rfl z)
    refine lv_iload hx hb d_L_1475 (lv_at hl2 1 rfl) ?_
    have hO3 : OutK s H3 o w1 := by
      obtain ⟨cell, z1, z2⟩ := hO1
      have hz : o < H1.size := (Array.getElem?_eq_some_iff.mp z1).1
      exact ⟨cell, by rw [hk3 o (by omega) hoA, hk2 o hz hoA]; exact z1, z2⟩
    refine lv_if_ne (tgt := 1492) hx hb d_L_1477 (by decide) (fun z => absurd rfl z) (fun _ => ?_)
    refine lv_aload_n hx hb d_L_1480 rfl (lv_at hlB 3 rfl) ?_
    refine lv_iconst (v := 0) hx hb d_L_1481 rfl ?_
    obtain ⟨cell, z1, z2, z3, z4, z5⟩ := id hO3
    refine W.lald (j := 0) (v := .long w1) hx hb z1 z2 z3 (by rw [z4]; decide) z5 rfl rfl d_L_1482 ?_
    refine lv_iload hx hb d_L_1483 (lv_at hl2 0 rfl) ?_
    refine lv_i2l (v := Int64.ofInt v) hx hb d_L_1485 (i2l_of (ok2 _ rfl)) ?_
    rw [hw1 rfl]
    refine W.lcmp hx hb d_L_1486 ?_
    refine lv_if_eq (tgt := 1492) hx hb d_L_1487 rfl (fun _ => ?_) (fun z => absurd (lcmp_self _) z)
    exact lv_goto (tgt := 1520) hx hb d_L_1492 (by decide) (kt _ _ _ _ _ _ ((inv_th inv).mono (by omega)) hC3 ⟨_, hO3⟩ hlB (by omega) (by omega))
  · refine L_wr C0 hst hXP hoS hoA hoC (y := wy_note) (idx := 187) (vs := [sv xs x4 1]) rfl (List.mem_filter.mpr ⟨by decide +kernel, rfl⟩) (List.mem_filter.mpr ⟨by decide +kernel, rfl⟩) wc_note (show (parseMethodDescriptor wy_note.desc).map (fun d => d.parameters.length) = some 3 by decide +kernel) (by decide) wm hC hO hc hs d_L_1447 hl.1 rfl (fun H1 w1 hC1 hO1 hw1 => ?_)
    refine lv_istore hx hb d_L_1450 hl (by decide) rfl (fun ls1 hl1 => ?_)
    have hlA : lv_has ls1 8 (lvL E b o x4) := lv_sub hl1 [1, 2, 3, 4, 5] rfl
    refine lv_aload_n hx hb d_L_1452 rfl (lv_at hlA 2 rfl) ?_
    refine L_arg hx hb hX hbl hbA hC1.1 (k := nI 1) (hin 1 (by decide)) hlA d_L_1453 d_L_1454 d_L_1456 d_L_1457 d_L_1458 (by decide) ?_
    refine L_callI (n := 112) (vs := [sv xs x4 1]) (t := 0) (rest := []) hx hb hml hown htg hE (by decide +kernel) (idx := 190) (List.mem_filter.mpr ⟨by decide +kernel, rfl⟩) rfl rfl (by decide) rfl (Nat.le_of_ble_eq_true rfl) (Nat.le_of_ble_eq_true rfl) hc hs hC1 r2 d_L_1459 hlA.1 (by decide) rfl (fun r M2 H2 locs2 hp2 ok2 hC2 hz2 hk2 => ?_)
    obtain ⟨rfl, rfl⟩ := hp2
    refine lv_istore hx hb d_L_1462 hl1 (by decide) rfl (fun ls2 hl2 => ?_)
    have hlB : lv_has ls2 8 (lvL E b o x4) := lv_sub hl2 [2, 3, 4, 5, 6] rfl
    refine lv_aload_n hx hb d_L_1464 rfl (lv_at hlB 2 rfl) ?_
    refine L_callI (n := 2) (vs := []) (t := 0) (rest := []) hx hb hml hown htg hE (by decide +kernel) (idx := 66) (List.mem_filter.mpr ⟨by decide +kernel, rfl⟩) rfl rfl (by decide) rfl (Nat.le_of_ble_eq_true rfl) (Nat.le_of_ble_eq_true rfl) hc hs hC2 (R_thrown _) d_L_1465 hlB.1 (by decide) rfl (fun r M3 H3 locs3 hp3 ok3 hC3 hz3 hk3 => ?_)
    obtain ⟨rfl, rfl⟩ := hp3
    have ev : (((mup (th M) 11 0 0 (1))) 11 0 0) = 1 := mup_same _ _ _ _ _
    rw [ev]
    refine lv_iload hx hb d_L_1468 (lv_at hl2 1 rfl) ?_
    refine lv_icmp_eq (tgt := 1475) hx hb d_L_1470 (by decide) (fun _ => ?_) (fun z => absurd rfl z)
    refine lv_iload hx hb d_L_1475 (lv_at hl2 1 rfl) ?_
    have hO3 : OutK s H3 o w1 := by
      obtain ⟨cell, z1, z2⟩ := hO1
      have hz : o < H1.size := (Array.getElem?_eq_some_iff.mp z1).1
      exact ⟨cell, by rw [hk3 o (by omega) hoA, hk2 o hz hoA]; exact z1, z2⟩
    refine lv_if_ne (tgt := 1492) hx hb d_L_1477 (by decide) (fun _ => ?_) (fun z => absurd z (by decide))
    exact lv_goto (tgt := 1520) hx hb d_L_1492 (by decide) (kt _ _ _ _ _ _ ((inv_th1 inv).mono (by omega)) hC3 ⟨_, hO3⟩ hlB (by omega) (by omega))
theorem law_wrap (C0 : LF p s m meth c b L xs E) (hst : l.stackTraces = false) (hXP : XP E s) (hoS : E.2.2.2.1 ≤ o) (hoC : ∀ (g : Nat) (t : Int), g ∈ gCon → 0 ≤ t → t < gn g → E.2.2.1 g t ≠ o) : LWrap p l e s m b below meth c Q E L o := by
  intro pc hp
  simp only [List.mem_cons, List.not_mem_nil, or_false] at hp
  rcases hp with rfl | rfl | rfl | rfl | rfl | rfl | rfl | rfl
  · exact lx_name C0 hst hXP hoS hoC
  · exact lx_task C0 hst hXP hoS hoC
  · exact lx_bits C0 hst hXP hoS hoC
  · exact lx_resource C0 hst hXP hoS hoC
  · exact lx_isr C0 hst hXP hoS hoC
  · exact lx_counter C0 hst hXP hoS hoC
  · exact lx_alarm C0 hst hXP hoS hoC
  · exact lx_note C0 hst hXP hoS hoC
end LWR
