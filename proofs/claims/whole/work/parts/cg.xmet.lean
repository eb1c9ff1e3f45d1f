/-! ===== the methods that throw: contracts (by program: wip/whole/gen/mkcg.py) ===== -/
theorem d_281_0 : decode (mt 281).b 0 = .ok (.aload_n 0, 1) := by decide +kernel
theorem d_281_1 : decode (mt 281).b 1 = .ok (.getfield 41, 3) := by decide +kernel
theorem d_281_4 : decode (mt 281).b 4 = .ok (.iload_n 1, 1) := by decide +kernel
theorem d_281_5 : decode (mt 281).b 5 = .ok (.iload_n 2, 1) := by decide +kernel
theorem d_281_6 : decode (mt 281).b 6 = .ok (.invokevirtual 107, 3) := by decide +kernel
theorem d_281_9 : decode (mt 281).b 9 = .ok (.ifCond .ne 11, 3) := by decide +kernel
theorem d_281_12 : decode (mt 281).b 12 = .ok (.new 100, 3) := by decide +kernel
theorem d_281_15 : decode (mt 281).b 15 = .ok (.dup, 1) := by decide +kernel
theorem d_281_16 : decode (mt 281).b 16 = .ok (.invokespecial 102, 3) := by decide +kernel
theorem d_281_19 : decode (mt 281).b 19 = .ok (.athrow, 1) := by decide +kernel
theorem X_mustHave (k i : Int) (M : AMem) (hn : ¬ (0 ≤ k ∧ k < 7 ∧ 0 ≤ i ∧ i < (M 14370 0 (k)))) : XMet 281 [aR 1 0, aI k, aI i] M := by
  intro l E hst
  refine vx_ofW (cc := (mt 281).b) (maxL := (mt 281).ml) (ret := (mt 281).rt) (by decide) rfl ?_
  intro p e s m args below meth c s₁ B hml hnt hv
  obtain ⟨⟨rfl, ho, hE, hR, hM⟩, hXP⟩ := hv
  have hts : ∀ w ∈ lwg, w.before _ s = true := fun w hw => atoms_spec (ws := wsM (mt 281)) B.pre w (List.mem_cons_of_mem _ hw)
  have hown : s.vm.findClass "StaticKernel" = some m.cls := findClass_of_methodNamed B.named
  have hx := B.exec
  have hb := B.bytes
  have hC : CfL E s s.heap [] M := ⟨va_S.rf, hR, hM⟩
  have hL := LH_init (E := E) (as := [aR 1 0, aI k, aI i]) (nL := (mt 281).ml) (by simp [lcat]) (Nat.le_of_ble_eq_true rfl)
  rw [lg_entry_eq]
  generalize (lg_sl (([aR 1 0, aI k, aI i] : List AV).map (enc E)) ++ List.replicate ((mt 281).ml - (lg_sl (([aR 1 0, aI k, aI i] : List AV).map (enc E))).length) Slot.unset).toArray = ls at hL ⊢
  refine lv_aload_n hx hb d_281_0 rfl (hL.2.2.2 0 (aR 1 0) rfl (fun h => by cases h)) ?_
  refine L_getf (own := "StaticKernel") (g := 1) (k := 5) (idx := 41) (t := 0) hx hb hts hown hE ⟨by decide, by decide⟩ (by decide) (List.mem_filter.mpr ⟨by decide +kernel, rfl⟩) d_281_1 (by decide) (by decide) hC ?_
  refine lv_iload_n hx hb d_281_4 rfl (hL.2.2.2 1 (aI k) rfl (fun h => by cases h)) ?_
  refine lv_iload_n hx hb d_281_5 rfl (hL.2.2.2 2 (aI i) rfl (fun h => by cases h)) ?_
  refine L_callM (own := "StaticKernel") (n := 170) (idx := 107) (t := 0) (as := [aI k, aI i]) (rest := []) hx hb hml hown hts hE (by decide +kernel) (List.mem_filter.mpr ⟨by decide +kernel, rfl⟩) rfl ⟨Or.inl ⟨by decide, by decide⟩, by decide, by decide⟩ (fun a ha => ho a (List.mem_cons_of_mem _ ha)) rfl (by decide) (by decide) (by decide) (by decide) hC (R_Plan_has k i M) d_281_6 hL.1 (by decide) (fun r M2 H2 locs2 hp ok2 hC2 hz2 hk2 => ?_)
  obtain ⟨rfl, rfl⟩ := hp
  rw [if_neg hn]
  refine lv_if_ne (tgt := 20) hx hb d_281_9 (by decide) (fun h => absurd rfl h) (fun _ => ?_)
  exact L_throw hx hb hst hown hts hXP hC2 (by rw [hml]; exact hL.1) d_281_12 d_281_15 d_281_16 d_281_19 hnt (by decide) (by decide) (by decide) (by decide) B.notSynchronized
theorem d_283_0 : decode (mt 283).b 0 = .ok (.aload_n 0, 1) := by decide +kernel
theorem d_283_1 : decode (mt 283).b 1 = .ok (.iconst 4, 1) := by decide +kernel
theorem d_283_2 : decode (mt 283).b 2 = .ok (.iload_n 1, 1) := by decide +kernel
theorem d_283_3 : decode (mt 283).b 3 = .ok (.invokevirtual 96, 3) := by decide +kernel
theorem X_task (t w : Int) (M : AMem) (hn : ¬ (0 ≤ t ∧ t < (M 14370 0 (4)))) : XMet 283 [aR 1 0, aI t, aI w] M := by
  intro l E hst
  refine vx_ofW (cc := (mt 283).b) (maxL := (mt 283).ml) (ret := (mt 283).rt) (by decide) rfl ?_
  intro p e s m args below meth c s₁ B hml hnt hv
  obtain ⟨⟨rfl, ho, hE, hR, hM⟩, hXP⟩ := hv
  have hts : ∀ w ∈ lwg, w.before _ s = true := fun w hw => atoms_spec (ws := wsM (mt 283)) B.pre w (List.mem_cons_of_mem _ hw)
  have hown : s.vm.findClass "StaticKernel" = some m.cls := findClass_of_methodNamed B.named
  have hx := B.exec
  have hb := B.bytes
  have hC : CfL E s s.heap [] M := ⟨va_S.rf, hR, hM⟩
  have hL := LH_init (E := E) (as := [aR 1 0, aI t, aI w]) (nL := (mt 283).ml) (by simp [lcat]) (Nat.le_of_ble_eq_true rfl)
  rw [lg_entry_eq]
  generalize (lg_sl (([aR 1 0, aI t, aI w] : List AV).map (enc E)) ++ List.replicate ((mt 283).ml - (lg_sl (([aR 1 0, aI t, aI w] : List AV).map (enc E))).length) Slot.unset).toArray = ls at hL ⊢
  refine lv_aload_n hx hb d_283_0 rfl (hL.2.2.2 0 (aR 1 0) rfl (fun h => by cases h)) ?_
  refine lv_iconst (v := Int32.ofInt 4) hx hb d_283_1 rfl ?_
  refine lv_iload_n hx hb d_283_2 rfl (hL.2.2.2 1 (aI t) rfl (fun h => by cases h)) ?_
  exact L_callX (own := "StaticKernel") (n := 281) (idx := 96) (t := 0) (as := [aI 4, aI t]) (rest := []) hx hb hml hst hown hts hE hXP (by decide +kernel) (List.mem_filter.mpr ⟨by decide +kernel, rfl⟩) rfl ⟨Or.inl ⟨by decide, by decide⟩, by decide, by decide⟩ (fun a ha => by
    simp only [List.mem_cons, List.not_mem_nil, or_false] at ha
    rcases ha with rfl | rfl
    · exact ⟨by decide, by decide⟩
    · exact ho (aI t) (by simp)) rfl (by decide) (by decide) (by decide) (by decide) hC (X_mustHave 4 t M (fun z => hn ⟨z.2.2.1, z.2.2.2⟩)) d_283_3 hL.1 (by decide) (fun q ce H2 locs2 hC2 hz2 hk2 hce hcv hcl => vx_out (fun x h => (hnt x h).elim) B.notSynchronized hce hcv hcl (fun t ht ha => ⟨rfl, by rw [ht]; exact hC2.2.1.moved ha, hC2.1.F ht⟩) (fun z hz => hC2.1.2.2 z hz) (by decide) (by decide))
theorem d_285_0 : decode (mt 285).b 0 = .ok (.aload_n 0, 1) := by decide +kernel
theorem d_285_1 : decode (mt 285).b 1 = .ok (.iconst 4, 1) := by decide +kernel
theorem d_285_2 : decode (mt 285).b 2 = .ok (.iload_n 1, 1) := by decide +kernel
theorem d_285_3 : decode (mt 285).b 3 = .ok (.invokevirtual 96, 3) := by decide +kernel
theorem X_bits (t w : Int) (M : AMem) (hn : ¬ (0 ≤ t ∧ t < (M 14370 0 (4)))) : XMet 285 [aR 1 0, aI t, aI w] M := by
  intro l E hst
  refine vx_ofW (cc := (mt 285).b) (maxL := (mt 285).ml) (ret := (mt 285).rt) (by decide) rfl ?_
  intro p e s m args below meth c s₁ B hml hnt hv
  obtain ⟨⟨rfl, ho, hE, hR, hM⟩, hXP⟩ := hv
  have hts : ∀ w ∈ lwg, w.before _ s = true := fun w hw => atoms_spec (ws := wsM (mt 285)) B.pre w (List.mem_cons_of_mem _ hw)
  have hown : s.vm.findClass "StaticKernel" = some m.cls := findClass_of_methodNamed B.named
  have hx := B.exec
  have hb := B.bytes
  have hC : CfL E s s.heap [] M := ⟨va_S.rf, hR, hM⟩
  have hL := LH_init (E := E) (as := [aR 1 0, aI t, aI w]) (nL := (mt 285).ml) (by simp [lcat]) (Nat.le_of_ble_eq_true rfl)
  rw [lg_entry_eq]
  generalize (lg_sl (([aR 1 0, aI t, aI w] : List AV).map (enc E)) ++ List.replicate ((mt 285).ml - (lg_sl (([aR 1 0, aI t, aI w] : List AV).map (enc E))).length) Slot.unset).toArray = ls at hL ⊢
  refine lv_aload_n hx hb d_285_0 rfl (hL.2.2.2 0 (aR 1 0) rfl (fun h => by cases h)) ?_
  refine lv_iconst (v := Int32.ofInt 4) hx hb d_285_1 rfl ?_
  refine lv_iload_n hx hb d_285_2 rfl (hL.2.2.2 1 (aI t) rfl (fun h => by cases h)) ?_
  exact L_callX (own := "StaticKernel") (n := 281) (idx := 96) (t := 0) (as := [aI 4, aI t]) (rest := []) hx hb hml hst hown hts hE hXP (by decide +kernel) (List.mem_filter.mpr ⟨by decide +kernel, rfl⟩) rfl ⟨Or.inl ⟨by decide, by decide⟩, by decide, by decide⟩ (fun a ha => by
    simp only [List.mem_cons, List.not_mem_nil, or_false] at ha
    rcases ha with rfl | rfl
    · exact ⟨by decide, by decide⟩
    · exact ho (aI t) (by simp)) rfl (by decide) (by decide) (by decide) (by decide) hC (X_mustHave 4 t M (fun z => hn ⟨z.2.2.1, z.2.2.2⟩)) d_285_3 hL.1 (by decide) (fun q ce H2 locs2 hC2 hz2 hk2 hce hcv hcl => vx_out (fun x h => (hnt x h).elim) B.notSynchronized hce hcv hcl (fun t ht ha => ⟨rfl, by rw [ht]; exact hC2.2.1.moved ha, hC2.1.F ht⟩) (fun z hz => hC2.1.2.2 z hz) (by decide) (by decide))
theorem d_286_0 : decode (mt 286).b 0 = .ok (.aload_n 0, 1) := by decide +kernel
theorem d_286_1 : decode (mt 286).b 1 = .ok (.iconst 2, 1) := by decide +kernel
theorem d_286_2 : decode (mt 286).b 2 = .ok (.iload_n 1, 1) := by decide +kernel
theorem d_286_3 : decode (mt 286).b 3 = .ok (.invokevirtual 96, 3) := by decide +kernel
theorem X_resource (t w : Int) (M : AMem) (hn : ¬ (0 ≤ t ∧ t < (M 14370 0 (2)))) : XMet 286 [aR 1 0, aI t, aI w] M := by
  intro l E hst
  refine vx_ofW (cc := (mt 286).b) (maxL := (mt 286).ml) (ret := (mt 286).rt) (by decide) rfl ?_
  intro p e s m args below meth c s₁ B hml hnt hv
  obtain ⟨⟨rfl, ho, hE, hR, hM⟩, hXP⟩ := hv
  have hts : ∀ w ∈ lwg, w.before _ s = true := fun w hw => atoms_spec (ws := wsM (mt 286)) B.pre w (List.mem_cons_of_mem _ hw)
  have hown : s.vm.findClass "StaticKernel" = some m.cls := findClass_of_methodNamed B.named
  have hx := B.exec
  have hb := B.bytes
  have hC : CfL E s s.heap [] M := ⟨va_S.rf, hR, hM⟩
  have hL := LH_init (E := E) (as := [aR 1 0, aI t, aI w]) (nL := (mt 286).ml) (by simp [lcat]) (Nat.le_of_ble_eq_true rfl)
  rw [lg_entry_eq]
  generalize (lg_sl (([aR 1 0, aI t, aI w] : List AV).map (enc E)) ++ List.replicate ((mt 286).ml - (lg_sl (([aR 1 0, aI t, aI w] : List AV).map (enc E))).length) Slot.unset).toArray = ls at hL ⊢
  refine lv_aload_n hx hb d_286_0 rfl (hL.2.2.2 0 (aR 1 0) rfl (fun h => by cases h)) ?_
  refine lv_iconst (v := Int32.ofInt 2) hx hb d_286_1 rfl ?_
  refine lv_iload_n hx hb d_286_2 rfl (hL.2.2.2 1 (aI t) rfl (fun h => by cases h)) ?_
  exact L_callX (own := "StaticKernel") (n := 281) (idx := 96) (t := 0) (as := [aI 2, aI t]) (rest := []) hx hb hml hst hown hts hE hXP (by decide +kernel) (List.mem_filter.mpr ⟨by decide +kernel, rfl⟩) rfl ⟨Or.inl ⟨by decide, by decide⟩, by decide, by decide⟩ (fun a ha => by
    simp only [List.mem_cons, List.not_mem_nil, or_false] at ha
    rcases ha with rfl | rfl
    · exact ⟨by decide, by decide⟩
    · exact ho (aI t) (by simp)) rfl (by decide) (by decide) (by decide) (by decide) hC (X_mustHave 2 t M (fun z => hn ⟨z.2.2.1, z.2.2.2⟩)) d_286_3 hL.1 (by decide) (fun q ce H2 locs2 hC2 hz2 hk2 hce hcv hcl => vx_out (fun x h => (hnt x h).elim) B.notSynchronized hce hcv hcl (fun t ht ha => ⟨rfl, by rw [ht]; exact hC2.2.1.moved ha, hC2.1.F ht⟩) (fun z hz => hC2.1.2.2 z hz) (by decide) (by decide))
theorem d_287_0 : decode (mt 287).b 0 = .ok (.aload_n 0, 1) := by decide +kernel
theorem d_287_1 : decode (mt 287).b 1 = .ok (.iconst 5, 1) := by decide +kernel
theorem d_287_2 : decode (mt 287).b 2 = .ok (.iload_n 1, 1) := by decide +kernel
theorem d_287_3 : decode (mt 287).b 3 = .ok (.invokevirtual 96, 3) := by decide +kernel
theorem X_isr (t w : Int) (M : AMem) (hn : ¬ (0 ≤ t ∧ t < (M 14370 0 (5)))) : XMet 287 [aR 1 0, aI t, aI w] M := by
  intro l E hst
  refine vx_ofW (cc := (mt 287).b) (maxL := (mt 287).ml) (ret := (mt 287).rt) (by decide) rfl ?_
  intro p e s m args below meth c s₁ B hml hnt hv
  obtain ⟨⟨rfl, ho, hE, hR, hM⟩, hXP⟩ := hv
  have hts : ∀ w ∈ lwg, w.before _ s = true := fun w hw => atoms_spec (ws := wsM (mt 287)) B.pre w (List.mem_cons_of_mem _ hw)
  have hown : s.vm.findClass "StaticKernel" = some m.cls := findClass_of_methodNamed B.named
  have hx := B.exec
  have hb := B.bytes
  have hC : CfL E s s.heap [] M := ⟨va_S.rf, hR, hM⟩
  have hL := LH_init (E := E) (as := [aR 1 0, aI t, aI w]) (nL := (mt 287).ml) (by simp [lcat]) (Nat.le_of_ble_eq_true rfl)
  rw [lg_entry_eq]
  generalize (lg_sl (([aR 1 0, aI t, aI w] : List AV).map (enc E)) ++ List.replicate ((mt 287).ml - (lg_sl (([aR 1 0, aI t, aI w] : List AV).map (enc E))).length) Slot.unset).toArray = ls at hL ⊢
  refine lv_aload_n hx hb d_287_0 rfl (hL.2.2.2 0 (aR 1 0) rfl (fun h => by cases h)) ?_
  refine lv_iconst (v := Int32.ofInt 5) hx hb d_287_1 rfl ?_
  refine lv_iload_n hx hb d_287_2 rfl (hL.2.2.2 1 (aI t) rfl (fun h => by cases h)) ?_
  exact L_callX (own := "StaticKernel") (n := 281) (idx := 96) (t := 0) (as := [aI 5, aI t]) (rest := []) hx hb hml hst hown hts hE hXP (by decide +kernel) (List.mem_filter.mpr ⟨by decide +kernel, rfl⟩) rfl ⟨Or.inl ⟨by decide, by decide⟩, by decide, by decide⟩ (fun a ha => by
    simp only [List.mem_cons, List.not_mem_nil, or_false] at ha
    rcases ha with rfl | rfl
    · exact ⟨by decide, by decide⟩
    · exact ho (aI t) (by simp)) rfl (by decide) (by decide) (by decide) (by decide) hC (X_mustHave 5 t M (fun z => hn ⟨z.2.2.1, z.2.2.2⟩)) d_287_3 hL.1 (by decide) (fun q ce H2 locs2 hC2 hz2 hk2 hce hcv hcl => vx_out (fun x h => (hnt x h).elim) B.notSynchronized hce hcv hcl (fun t ht ha => ⟨rfl, by rw [ht]; exact hC2.2.1.moved ha, hC2.1.F ht⟩) (fun z hz => hC2.1.2.2 z hz) (by decide) (by decide))
theorem d_289_0 : decode (mt 289).b 0 = .ok (.aload_n 0, 1) := by decide +kernel
theorem d_289_1 : decode (mt 289).b 1 = .ok (.iconst 3, 1) := by decide +kernel
theorem d_289_2 : decode (mt 289).b 2 = .ok (.iload_n 1, 1) := by decide +kernel
theorem d_289_3 : decode (mt 289).b 3 = .ok (.invokevirtual 96, 3) := by decide +kernel
theorem X_counter (t w : Int) (M : AMem) (hn : ¬ (0 ≤ t ∧ t < (M 14370 0 (3)))) : XMet 289 [aR 1 0, aI t, aI w] M := by
  intro l E hst
  refine vx_ofW (cc := (mt 289).b) (maxL := (mt 289).ml) (ret := (mt 289).rt) (by decide) rfl ?_
  intro p e s m args below meth c s₁ B hml hnt hv
  obtain ⟨⟨rfl, ho, hE, hR, hM⟩, hXP⟩ := hv
  have hts : ∀ w ∈ lwg, w.before _ s = true := fun w hw => atoms_spec (ws := wsM (mt 289)) B.pre w (List.mem_cons_of_mem _ hw)
  have hown : s.vm.findClass "StaticKernel" = some m.cls := findClass_of_methodNamed B.named
  have hx := B.exec
  have hb := B.bytes
  have hC : CfL E s s.heap [] M := ⟨va_S.rf, hR, hM⟩
  have hL := LH_init (E := E) (as := [aR 1 0, aI t, aI w]) (nL := (mt 289).ml) (by simp [lcat]) (Nat.le_of_ble_eq_true rfl)
  rw [lg_entry_eq]
  generalize (lg_sl (([aR 1 0, aI t, aI w] : List AV).map (enc E)) ++ List.replicate ((mt 289).ml - (lg_sl (([aR 1 0, aI t, aI w] : List AV).map (enc E))).length) Slot.unset).toArray = ls at hL ⊢
  refine lv_aload_n hx hb d_289_0 rfl (hL.2.2.2 0 (aR 1 0) rfl (fun h => by cases h)) ?_
  refine lv_iconst (v := Int32.ofInt 3) hx hb d_289_1 rfl ?_
  refine lv_iload_n hx hb d_289_2 rfl (hL.2.2.2 1 (aI t) rfl (fun h => by cases h)) ?_
  exact L_callX (own := "StaticKernel") (n := 281) (idx := 96) (t := 0) (as := [aI 3, aI t]) (rest := []) hx hb hml hst hown hts hE hXP (by decide +kernel) (List.mem_filter.mpr ⟨by decide +kernel, rfl⟩) rfl ⟨Or.inl ⟨by decide, by decide⟩, by decide, by decide⟩ (fun a ha => by
    simp only [List.mem_cons, List.not_mem_nil, or_false] at ha
    rcases ha with rfl | rfl
    · exact ⟨by decide, by decide⟩
    · exact ho (aI t) (by simp)) rfl (by decide) (by decide) (by decide) (by decide) hC (X_mustHave 3 t M (fun z => hn ⟨z.2.2.1, z.2.2.2⟩)) d_289_3 hL.1 (by decide) (fun q ce H2 locs2 hC2 hz2 hk2 hce hcv hcl => vx_out (fun x h => (hnt x h).elim) B.notSynchronized hce hcv hcl (fun t ht ha => ⟨rfl, by rw [ht]; exact hC2.2.1.moved ha, hC2.1.F ht⟩) (fun z hz => hC2.1.2.2 z hz) (by decide) (by decide))
theorem d_290_0 : decode (mt 290).b 0 = .ok (.aload_n 0, 1) := by decide +kernel
theorem d_290_1 : decode (mt 290).b 1 = .ok (.bipush 6, 2) := by decide +kernel
theorem d_290_3 : decode (mt 290).b 3 = .ok (.iload_n 1, 1) := by decide +kernel
theorem d_290_4 : decode (mt 290).b 4 = .ok (.invokevirtual 96, 3) := by decide +kernel
theorem X_alarm (t w : Int) (M : AMem) (hn : ¬ (0 ≤ t ∧ t < (M 14370 0 (6)))) : XMet 290 [aR 1 0, aI t, aI w] M := by
  intro l E hst
  refine vx_ofW (cc := (mt 290).b) (maxL := (mt 290).ml) (ret := (mt 290).rt) (by decide) rfl ?_
  intro p e s m args below meth c s₁ B hml hnt hv
  obtain ⟨⟨rfl, ho, hE, hR, hM⟩, hXP⟩ := hv
  have hts : ∀ w ∈ lwg, w.before _ s = true := fun w hw => atoms_spec (ws := wsM (mt 290)) B.pre w (List.mem_cons_of_mem _ hw)
  have hown : s.vm.findClass "StaticKernel" = some m.cls := findClass_of_methodNamed B.named
  have hx := B.exec
  have hb := B.bytes
  have hC : CfL E s s.heap [] M := ⟨va_S.rf, hR, hM⟩
  have hL := LH_init (E := E) (as := [aR 1 0, aI t, aI w]) (nL := (mt 290).ml) (by simp [lcat]) (Nat.le_of_ble_eq_true rfl)
  rw [lg_entry_eq]
  generalize (lg_sl (([aR 1 0, aI t, aI w] : List AV).map (enc E)) ++ List.replicate ((mt 290).ml - (lg_sl (([aR 1 0, aI t, aI w] : List AV).map (enc E))).length) Slot.unset).toArray = ls at hL ⊢
  refine lv_aload_n hx hb d_290_0 rfl (hL.2.2.2 0 (aR 1 0) rfl (fun h => by cases h)) ?_
  refine lv_bipush (v := Int32.ofInt 6) hx hb d_290_1 (b_push (by decide) (by decide)) ?_
  refine lv_iload_n hx hb d_290_3 rfl (hL.2.2.2 1 (aI t) rfl (fun h => by cases h)) ?_
  exact L_callX (own := "StaticKernel") (n := 281) (idx := 96) (t := 0) (as := [aI 6, aI t]) (rest := []) hx hb hml hst hown hts hE hXP (by decide +kernel) (List.mem_filter.mpr ⟨by decide +kernel, rfl⟩) rfl ⟨Or.inl ⟨by decide, by decide⟩, by decide, by decide⟩ (fun a ha => by
    simp only [List.mem_cons, List.not_mem_nil, or_false] at ha
    rcases ha with rfl | rfl
    · exact ⟨by decide, by decide⟩
    · exact ho (aI t) (by simp)) rfl (by decide) (by decide) (by decide) (by decide) hC (X_mustHave 6 t M (fun z => hn ⟨z.2.2.1, z.2.2.2⟩)) d_290_4 hL.1 (by decide) (fun q ce H2 locs2 hC2 hz2 hk2 hce hcv hcl => vx_out (fun x h => (hnt x h).elim) B.notSynchronized hce hcv hcl (fun t ht ha => ⟨rfl, by rw [ht]; exact hC2.2.1.moved ha, hC2.1.F ht⟩) (fun z hz => hC2.1.2.2 z hz) (by decide) (by decide))
theorem d_280_0 : decode (mt 280).b 0 = .ok (.aload_n 0, 1) := by decide +kernel
theorem d_280_1 : decode (mt 280).b 1 = .ok (.getfield 50, 3) := by decide +kernel
theorem d_280_4 : decode (mt 280).b 4 = .ok (.invokevirtual 54, 3) := by decide +kernel
theorem d_280_7 : decode (mt 280).b 7 = .ok (.aload_n 0, 1) := by decide +kernel
theorem d_280_8 : decode (mt 280).b 8 = .ok (.iload_n 1, 1) := by decide +kernel
theorem d_280_9 : decode (mt 280).b 9 = .ok (.iload_n 2, 1) := by decide +kernel
theorem d_280_10 : decode (mt 280).b 10 = .ok (.invokevirtual 96, 3) := by decide +kernel
theorem d_280_13 : decode (mt 280).b 13 = .ok (.iload_n 3, 1) := by decide +kernel
theorem d_280_14 : decode (mt 280).b 14 = .ok (.ifCond .ge 11, 3) := by decide +kernel
theorem d_280_17 : decode (mt 280).b 17 = .ok (.new 100, 3) := by decide +kernel
theorem d_280_20 : decode (mt 280).b 20 = .ok (.dup, 1) := by decide +kernel
theorem d_280_21 : decode (mt 280).b 21 = .ok (.invokespecial 102, 3) := by decide +kernel
theorem d_280_24 : decode (mt 280).b 24 = .ok (.athrow, 1) := by decide +kernel
theorem X_name (s0 i k : Int) (M : AMem) (h : CB M) (h3 : KA M) (hn : ¬ ((0 ≤ s0 ∧ s0 < 7 ∧ 0 ≤ i ∧ i < (M 14370 0 (s0))) ∧ 0 ≤ k)) : XMet 280 [aR 1 0, aI s0, aI i, aI k] M := by
  intro l E hst
  refine vx_ofW (cc := (mt 280).b) (maxL := (mt 280).ml) (ret := (mt 280).rt) (by decide) rfl ?_
  intro p e s m args below meth c s₁ B hml hnt hv
  obtain ⟨⟨rfl, ho, hE, hR, hM⟩, hXP⟩ := hv
  have hts : ∀ w ∈ lwg, w.before _ s = true := fun w hw => atoms_spec (ws := wsM (mt 280)) B.pre w (List.mem_cons_of_mem _ hw)
  have hown : s.vm.findClass "StaticKernel" = some m.cls := findClass_of_methodNamed B.named
  have hx := B.exec
  have hb := B.bytes
  have hC : CfL E s s.heap [] M := ⟨va_S.rf, hR, hM⟩
  have hL := LH_init (E := E) (as := [aR 1 0, aI s0, aI i, aI k]) (nL := (mt 280).ml) (by simp [lcat]) (Nat.le_of_ble_eq_true rfl)
  rw [lg_entry_eq]
  generalize (lg_sl (([aR 1 0, aI s0, aI i, aI k] : List AV).map (enc E)) ++ List.replicate ((mt 280).ml - (lg_sl (([aR 1 0, aI s0, aI i, aI k] : List AV).map (enc E))).length) Slot.unset).toArray = ls at hL ⊢
  refine lv_aload_n hx hb d_280_0 rfl (hL.2.2.2 0 (aR 1 0) rfl (fun h => by cases h)) ?_
  refine L_getf (own := "StaticKernel") (g := 1) (k := 6) (idx := 50) (t := 0) hx hb hts hown hE ⟨by decide, by decide⟩ (by decide) (List.mem_filter.mpr ⟨by decide +kernel, rfl⟩) d_280_1 (by decide) (by decide) hC ?_
  refine L_callM (own := "StaticKernel") (n := 115) (idx := 54) (t := 0) (as := []) (rest := []) hx hb hml hown hts hE (by decide +kernel) (List.mem_filter.mpr ⟨by decide +kernel, rfl⟩) rfl ⟨Or.inl ⟨by decide, by decide⟩, by decide, by decide⟩ (fun a ha => by cases ha) rfl (by decide) (by decide) (by decide) (by decide) hC (R_Machine_audit M h h3) d_280_4 hL.1 (by decide) (fun r M2 H2 locs2 hp ok2 hC2 hz2 hk2 => ?_)
  obtain ⟨rfl, eM⟩ := hp
  subst M2
  refine lv_aload_n hx hb d_280_7 rfl (hL.2.2.2 0 (aR 1 0) rfl (fun h => by cases h)) ?_
  refine lv_iload_n hx hb d_280_8 rfl (hL.2.2.2 1 (aI s0) rfl (fun h => by cases h)) ?_
  refine lv_iload_n hx hb d_280_9 rfl (hL.2.2.2 2 (aI i) rfl (fun h => by cases h)) ?_
  by_cases hh : 0 ≤ s0 ∧ s0 < 7 ∧ 0 ≤ i ∧ i < (M 14370 0 (s0))
  · refine L_callM (own := "StaticKernel") (n := 281) (idx := 96) (t := 0) (as := [aI s0, aI i]) (rest := []) hx hb hml hown hts hE (by decide +kernel) (List.mem_filter.mpr ⟨by decide +kernel, rfl⟩) rfl ⟨Or.inl ⟨by decide, by decide⟩, by decide, by decide⟩ (fun a ha => by
      simp only [List.mem_cons, List.not_mem_nil, or_false] at ha
      rcases ha with rfl | rfl
      · exact ho (aI s0) (by simp)
      · exact ho (aI i) (by simp)) rfl (by decide) (by decide) (by decide) (by decide) hC2 (R_K_mustHave s0 i M hh) d_280_10 hL.1 (by decide) (fun r M3 H3 locs3 hp ok3 hC3 hz3 hk3 => ?_)
    obtain ⟨rfl, rfl⟩ := hp
    have hk : ¬ 0 ≤ k := fun z => hn ⟨hh, z⟩
    have hki : in32 k := ho (aI k) (by simp)
    refine lv_iload_n hx hb d_280_13 rfl (hL.2.2.2 3 (aI k) rfl (fun h => by cases h)) ?_
    refine lv_if_ge (tgt := 25) hx hb d_280_14 (by decide) (fun z => absurd ((i32_le in32_0 hki).mp z) hk) (fun _ => ?_)
    exact L_throw hx hb hst hown hts hXP hC3 (by rw [hml]; exact hL.1) d_280_17 d_280_20 d_280_21 d_280_24 hnt (by decide) (by decide) (by decide) (by decide) B.notSynchronized
  · exact L_callX (own := "StaticKernel") (n := 281) (idx := 96) (t := 0) (as := [aI s0, aI i]) (rest := []) hx hb hml hst hown hts hE hXP (by decide +kernel) (List.mem_filter.mpr ⟨by decide +kernel, rfl⟩) rfl ⟨Or.inl ⟨by decide, by decide⟩, by decide, by decide⟩ (fun a ha => by
      simp only [List.mem_cons, List.not_mem_nil, or_false] at ha
      rcases ha with rfl | rfl
      · exact ho (aI s0) (by simp)
      · exact ho (aI i) (by simp)) rfl (by decide) (by decide) (by decide) (by decide) hC2 (X_mustHave s0 i M hh) d_280_10 hL.1 (by decide) (fun q ce H4 locs4 hC4 hz2 hk2 hce hcv hcl => vx_out (fun x h => (hnt x h).elim) B.notSynchronized hce hcv hcl (fun t ht ha => ⟨rfl, by rw [ht]; exact hC4.2.1.moved ha, hC4.1.F ht⟩) (fun z hz => hC4.1.2.2 z hz) (by decide) (by decide))
theorem d_291_0 : decode (mt 291).b 0 = .ok (.iload_n 1, 1) := by decide +kernel
theorem d_291_1 : decode (mt 291).b 1 = .ok (.ifCond .lt 14, 3) := by decide +kernel
theorem d_291_4 : decode (mt 291).b 4 = .ok (.iload_n 1, 1) := by decide +kernel
theorem d_291_5 : decode (mt 291).b 5 = .ok (.aload_n 0, 1) := by decide +kernel
theorem d_291_6 : decode (mt 291).b 6 = .ok (.getfield 50, 3) := by decide +kernel
theorem d_291_9 : decode (mt 291).b 9 = .ok (.invokevirtual 402, 3) := by decide +kernel
theorem d_291_12 : decode (mt 291).b 12 = .ok (.if_icmp .lt 11, 3) := by decide +kernel
theorem d_291_15 : decode (mt 291).b 15 = .ok (.new 100, 3) := by decide +kernel
theorem d_291_18 : decode (mt 291).b 18 = .ok (.dup, 1) := by decide +kernel
theorem d_291_19 : decode (mt 291).b 19 = .ok (.invokespecial 102, 3) := by decide +kernel
theorem d_291_22 : decode (mt 291).b 22 = .ok (.athrow, 1) := by decide +kernel
theorem X_note (k : Int) (M : AMem) (hn : ¬ (0 ≤ k ∧ k < (M 6 0 9) ∧ k < 500)) : XMet 291 [aR 1 0, aI k] M := by
  intro l E hst
  refine vx_ofW (cc := (mt 291).b) (maxL := (mt 291).ml) (ret := (mt 291).rt) (by decide) rfl ?_
  intro p e s m args below meth c s₁ B hml hnt hv
  obtain ⟨⟨rfl, ho, hE, hR, hM⟩, hXP⟩ := hv
  have hts : ∀ w ∈ lwg, w.before _ s = true := fun w hw => atoms_spec (ws := wsM (mt 291)) B.pre w (List.mem_cons_of_mem _ hw)
  have hown : s.vm.findClass "StaticKernel" = some m.cls := findClass_of_methodNamed B.named
  have hx := B.exec
  have hb := B.bytes
  have hC : CfL E s s.heap [] M := ⟨va_S.rf, hR, hM⟩
  have hL := LH_init (E := E) (as := [aR 1 0, aI k]) (nL := (mt 291).ml) (by simp [lcat]) (Nat.le_of_ble_eq_true rfl)
  rw [lg_entry_eq]
  generalize (lg_sl (([aR 1 0, aI k] : List AV).map (enc E)) ++ List.replicate ((mt 291).ml - (lg_sl (([aR 1 0, aI k] : List AV).map (enc E))).length) Slot.unset).toArray = ls at hL ⊢
  have hki : in32 k := ho (aI k) (by simp)
  refine lv_iload_n hx hb d_291_0 rfl (hL.2.2.2 1 (aI k) rfl (fun h => by cases h)) ?_
  refine lv_if_lt (tgt := 15) hx hb d_291_1 (by decide) (fun _ => L_throw hx hb hst hown hts hXP hC (by rw [hml]; exact hL.1) d_291_15 d_291_18 d_291_19 d_291_22 hnt (by decide) (by decide) (by decide) (by decide) B.notSynchronized) (fun z => ?_)
  have hk0 : 0 ≤ k := by
    have : ¬ k < 0 := fun y => z ((i32_lt hki in32_0).mpr y)
    omega
  refine lv_iload_n hx hb d_291_4 rfl (hL.2.2.2 1 (aI k) rfl (fun h => by cases h)) ?_
  refine lv_aload_n hx hb d_291_5 rfl (hL.2.2.2 0 (aR 1 0) rfl (fun h => by cases h)) ?_
  refine L_getf (own := "StaticKernel") (g := 1) (k := 6) (idx := 50) (t := 0) hx hb hts hown hE ⟨by decide, by decide⟩ (by decide) (List.mem_filter.mpr ⟨by decide +kernel, rfl⟩) d_291_6 (by decide) (by decide) hC ?_
  refine L_callM (own := "StaticKernel") (n := 292) (idx := 402) (t := 0) (as := []) (rest := [.int (Int32.ofInt k)]) hx hb hml hown hts hE (by decide +kernel) (List.mem_filter.mpr ⟨by decide +kernel, rfl⟩) rfl ⟨Or.inl ⟨by decide, by decide⟩, by decide, by decide⟩ (fun a ha => by cases ha) rfl (by decide) (by decide) (by decide) (by decide) hC (R_Machine_keptNotes M) d_291_9 hL.1 (Nat.le_of_ble_eq_true rfl) (fun r M2 H2 locs2 hp ok2 hC2 hz2 hk2 => ?_)
  obtain ⟨rfl, rfl⟩ := hp
  have hi2 := ok2 _ rfl
  refine lv_icmp_lt (tgt := 23) hx hb d_291_12 (by decide) (fun z => ?_) (fun _ => L_throw hx hb hst hown hts hXP hC2 (by rw [hml]; exact hL.1) d_291_15 d_291_18 d_291_19 d_291_22 hnt (by decide) (by decide) (by decide) (by decide) B.notSynchronized)
  have hz := (i32_lt hki hi2).mp z
  exact absurd ⟨hk0, by omega⟩ hn
