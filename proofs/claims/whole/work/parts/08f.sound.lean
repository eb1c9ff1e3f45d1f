section WU
variable {p : Program} {l : Launch} {e : Env} {R : Room} {s : State} {m : MethodId} {args : Array Value} {below : List Frame} {meth : Method} {c : Code} {E : EV} {q : MD} {pc : Nat} {loc : Lc} {stk : List AV} {M : AMem} {K : Nat → Lc → List AV → AMem → Prop} {post : Option AV → AMem → Prop}
abbrev WiR (p : Program) (l : Launch) (e : Env) (R : Room) (s : State) (m : MethodId) (args : Array Value) (below : List Frame) (meth : Method) (c : Code) (E : EV) (q : MD) (post : Option AV → AMem → Prop) (pc : Nat) (loc : Lc) (stk : List AV) (M : AMem) : Prop := Wi p l e R s m args below meth c (MQ below (QcA E post) args s 0 0 (AA E)) E q.ml pc loc stk M
theorem len_of {raw : Instr} {len n : Nat} (h : lenOK raw len = true) (hr : rlen raw = some n) : len = n := by
  unfold lenOK at h
  rw [hr] at h
  exact of_decide_eq_true h
theorem wp1_sound (hF : Fr p R s m args meth c E q) {pcs : List Nat} {raw ins : Instr} {len : Nat} (hok : okI q pcs pc raw ins = true) (hlen : lenOK raw len = true) (hd : decode q.b pc = .ok (raw, len))
    (hK : ∀ (j tgt : Nat), pcs[j]? = some tgt → ∀ (loc : Lc) (stk : List AV) (M : AMem), K j loc stk M → WiR p l e R s m args below meth c E q post tgt loc stk M)
    (hw : wp1 ins (fun loc stk M => WiR p l e R s m args below meth c E q post (pc + len) loc stk M) K post loc stk M) : WiR p l e R s m args below meth c E q post pc loc stk M := by
  have hF0 := hF
  obtain ⟨hx, hb, hmx, hown, hts, hE, hr, hlk, hR⟩ := hF
  unfold okI at hok
  split at hok

  · -- iconst
    obtain rfl := len_of hlen rfl
    simp only [Bool.and_eq_true, decide_eq_true_eq, inB] at hok
    obtain ⟨rfl, h2⟩ := hok
    exact Wi.push (a := aI _) h2 (fun H locs ls rest _ _ k => lv_iconst hx hb hd rfl k) hw

  · -- bipush
    obtain rfl := len_of hlen rfl
    obtain ⟨rfl, h2⟩ := of_decide_eq_true hok
    exact Wi.push (a := aI _) (in32_of (by omega) (by omega)) (fun H locs ls rest _ _ k => lv_bipush hx hb hd (b_push h2.1 h2.2) k) hw

  · -- sipush
    obtain rfl := len_of hlen rfl
    obtain ⟨rfl, h2⟩ := of_decide_eq_true hok
    exact Wi.push (a := aI _) (in32_of (by omega) (by omega)) (fun H locs ls rest _ _ k => lv_sipush hx hb hd (s_push h2.1 h2.2) k) hw

  · -- ldc
    obtain rfl := len_of hlen rfl
    obtain ⟨h1, h2⟩ := pK_inv hok
    exact Wi.push (a := aI _) h1 (fun H locs ls rest _ _ k => lv_ldc hx hb hown (hts _ h2) hd k) hw

  · -- ldc_w
    obtain rfl := len_of hlen rfl
    obtain ⟨h1, h2⟩ := pK_inv hok
    exact Wi.push (a := aI _) h1 (fun H locs ls rest _ _ k => lv_ldcw hx hb hown (hts _ h2) hd k) hw

  · -- ldc of a String
    obtain rfl := len_of hlen rfl
    obtain ⟨rfl, ho, _⟩ := of_decide_eq_true hok
    rw [show cname q.o = "StaticKernelModel" by rw [ho]; rfl] at hown
    refine Wi.push (a := aR 14 0) ?_ (fun H locs ls rest _ _ k => va_ldcS hx hb hown hE.2.2.2.2.2.2.2.2.2 hd k) hw.2
    exact ⟨Or.inr (Or.inl (by unfold isC; decide)), by decide, by decide⟩

  · -- ldc2_w
    obtain rfl := len_of hlen rfl
    obtain ⟨h1, h2⟩ := pL_inv hok
    exact Wi.push (a := aL _) h1 (fun H locs ls rest _ _ k => lv_ldc2 hx hb hown (hts _ h2) hd k) hw

  · -- lconst
    obtain rfl := len_of hlen rfl
    rename_i a b
    have hok := of_decide_eq_true hok
    have hb2 : b < 2 := by omega
    subst hok
    refine Wi.push (a := aL ((a : Nat) : Int)) ?_ (fun H locs ls rest _ _ k => lv_lconst hx hb hd rfl k) hw
    show in64 _
    unfold in64
    omega

  · -- iload_n
    obtain rfl := len_of hlen rfl
    have hok := of_decide_eq_true hok
    subst hok
    obtain ⟨x, hv, k⟩ := l1i_inv hw
    exact Wi.load hv (fun h => by cases h) (fun H locs ls rest h k => lv_iload_n hx hb hd rfl h k) k

  · -- iload
    obtain rfl := len_of hlen rfl
    have hok := of_decide_eq_true hok
    subst hok
    obtain ⟨x, hv, k⟩ := l1i_inv hw
    exact Wi.load hv (fun h => by cases h) (fun H locs ls rest h k => lv_iload hx hb hd h k) k

  · -- lload_n
    obtain rfl := len_of hlen rfl
    have hok := of_decide_eq_true hok
    subst hok
    obtain ⟨x, hv, hv2, k⟩ := l1l_inv hw
    exact Wi.load hv (fun _ => hv2) (fun H locs ls rest h k => lv_lload_n hx hb hd rfl h k) k

  · -- lload
    obtain rfl := len_of hlen rfl
    have hok := of_decide_eq_true hok
    subst hok
    obtain ⟨x, hv, hv2, k⟩ := l1l_inv hw
    exact Wi.load hv (fun _ => hv2) (fun H locs ls rest h k => lv_lload hx hb hd h k) k

  · -- aload_n
    obtain rfl := len_of hlen rfl
    have hok := of_decide_eq_true hok
    subst hok
    obtain ⟨g, t, hv, k⟩ := l1r_inv hw
    exact Wi.load hv (fun h => by cases h) (fun H locs ls rest h k => lv_aload_n hx hb hd rfl h k) k

  · -- aload
    obtain rfl := len_of hlen rfl
    have hok := of_decide_eq_true hok
    subst hok
    obtain ⟨g, t, hv, k⟩ := l1r_inv hw
    exact Wi.load hv (fun h => by cases h) (fun H locs ls rest h k => lv_aload hx hb hd h k) k

  · -- istore_n
    obtain rfl := len_of hlen rfl
    obtain ⟨rfl, hn⟩ := of_decide_eq_true hok
    obtain ⟨x, st, rfl, k⟩ := s1i_inv hw
    exact Wi.store1 hn rfl (fun H locs ls rest lv h k => lv_istore_n hx hb hd rfl h hn rfl k) k

  · -- istore
    obtain rfl := len_of hlen rfl
    obtain ⟨rfl, hn⟩ := of_decide_eq_true hok
    obtain ⟨x, st, rfl, k⟩ := s1i_inv hw
    exact Wi.store1 hn rfl (fun H locs ls rest lv h k => lv_istore hx hb hd h hn rfl k) k

  · -- lstore_n
    obtain rfl := len_of hlen rfl
    obtain ⟨rfl, hn⟩ := of_decide_eq_true hok
    obtain ⟨x, st, rfl, k⟩ := s1l_inv hw
    exact Wi.store2 hn (fun H locs ls rest lv h k => lv_lstore_n hx hb hd rfl h hn rfl k) k

  · -- lstore
    obtain rfl := len_of hlen rfl
    obtain ⟨rfl, hn⟩ := of_decide_eq_true hok
    obtain ⟨x, st, rfl, k⟩ := s1l_inv hw
    exact Wi.store2 hn (fun H locs ls rest lv h k => lv_lstore hx hb hd h hn rfl k) k

  · -- astore_n
    obtain rfl := len_of hlen rfl
    obtain ⟨rfl, hn⟩ := of_decide_eq_true hok
    obtain ⟨g, t, st, rfl, k⟩ := s1r_inv hw
    exact Wi.store1 hn rfl (fun H locs ls rest lv h k => lv_astore_n hx hb hd rfl h hn rfl k) k

  · -- astore
    obtain rfl := len_of hlen rfl
    obtain ⟨rfl, hn⟩ := of_decide_eq_true hok
    obtain ⟨g, t, st, rfl, k⟩ := s1r_inv hw
    exact Wi.store1 hn rfl (fun H locs ls rest lv h k => lv_astore hx hb hd h hn rfl k) k

  · -- iinc
    obtain rfl := len_of hlen rfl
    rename_i a n b k
    obtain ⟨rfl, rfl, hn⟩ := of_decide_eq_true hok
    obtain ⟨x, hv, hw⟩ := l1i_inv hw
    intro H locs ls hC hL hl hs
    have hm : (a, Value.int (Int32.ofInt x)) ∈ ents E loc := ents_mem.mpr ⟨aI x, hv, (fun h => by cases h), rfl⟩
    obtain ⟨j, hj⟩ := List.getElem?_of_mem hm
    refine lv_iinc hx hb hd hL.has hj (v := Int32.ofInt (w32 (x + n))) ?_ hn rfl (fun ls' h' => ?_)
    · rw [i32_w, Int32.ofInt_add]
    · exact hw H locs ls' hC (LH.set1 hL.2.1 hn rfl h') (lok_set hl (fun v h => by injection h with h; subst h; exact w32_in _)) hs

  · -- if_icmp
    obtain rfl := len_of hlen rfl
    rename_i c off d t
    simp only [Bool.and_eq_true, decide_eq_true_eq] at hok
    obtain ⟨rfl, ht⟩ := hok
    obtain ⟨tgt, h1, h2⟩ := okT_inv ht
    obtain ⟨y, x, st, rfl, kt, kf⟩ := s2i_inv hw
    intro H locs ls hC hL hl hs
    have hy : in32 y := sok1 hs
    have hxx : in32 x := sok2 hs
    have hst : sok st := fun a ha => hs a (by simp [ha])
    have Kt : ccmp c x y → W p l e R s m args below meth _ H locs 0 0 (MQ below (QcA E post) args s 0 0 (AA E)) (F0 m tgt ls (st.map (enc E))) := fun h => hK _ _ h2 _ _ _ (kt h) H locs ls hC hL hl hst
    have Kf : ¬ ccmp c x y → W p l e R s m args below meth _ H locs 0 0 (MQ below (QcA E post) args s 0 0 (AA E)) (F0 m (pc + 3) ls (st.map (enc E))) := fun h => kf h H locs ls hC hL hl hst
    cases c
    · exact lv_icmp_eq hx hb hd h1 (fun h => Kt ((i32_eq hxx hy).mp h)) (fun h => Kf (fun z => h ((i32_eq hxx hy).mpr z)))
    · exact lv_icmp_ne hx hb hd h1 (fun h => Kt (fun z => h ((i32_eq hxx hy).mpr z))) (fun h => Kf (fun z => z ((i32_eq hxx hy).mp h)))
    · exact lv_icmp_lt hx hb hd h1 (fun h => Kt ((i32_lt hxx hy).mp h)) (fun h => Kf (fun z => h ((i32_lt hxx hy).mpr z)))
    · exact lv_icmp_ge hx hb hd h1 (fun h => Kt ((i32_le hy hxx).mp h)) (fun h => Kf (fun z => h ((i32_le hy hxx).mpr z)))
    · exact lv_icmp_gt hx hb hd h1 (fun h => Kt ((i32_lt hy hxx).mp h)) (fun h => Kf (fun z => h ((i32_lt hy hxx).mpr z)))
    · exact lv_icmp_le hx hb hd h1 (fun h => Kt ((i32_le hxx hy).mp h)) (fun h => Kf (fun z => h ((i32_le hxx hy).mpr z)))

  · -- ifCond
    obtain rfl := len_of hlen rfl
    rename_i c off d t
    simp only [Bool.and_eq_true, decide_eq_true_eq] at hok
    obtain ⟨rfl, ht⟩ := hok
    obtain ⟨tgt, h1, h2⟩ := okT_inv ht
    obtain ⟨x, st, rfl, kt, kf⟩ := s1i_inv hw
    intro H locs ls hC hL hl hs
    have hy : in32 0 := in32_0
    have hxx : in32 x := sok1 hs
    have hst : sok st := fun a ha => hs a (by simp [ha])
    have Kt : ccmp c x 0 → W p l e R s m args below meth _ H locs 0 0 (MQ below (QcA E post) args s 0 0 (AA E)) (F0 m tgt ls (st.map (enc E))) := fun h => hK _ _ h2 _ _ _ (kt h) H locs ls hC hL hl hst
    have Kf : ¬ ccmp c x 0 → W p l e R s m args below meth _ H locs 0 0 (MQ below (QcA E post) args s 0 0 (AA E)) (F0 m (pc + 3) ls (st.map (enc E))) := fun h => kf h H locs ls hC hL hl hst
    cases c
    · exact lv_if_eq hx hb hd h1 (fun h => Kt ((i32_eq hxx hy).mp h)) (fun h => Kf (fun z => h ((i32_eq hxx hy).mpr z)))
    · exact lv_if_ne hx hb hd h1 (fun h => Kt (fun z => h ((i32_eq hxx hy).mpr z))) (fun h => Kf (fun z => z ((i32_eq hxx hy).mp h)))
    · exact lv_if_lt hx hb hd h1 (fun h => Kt ((i32_lt hxx hy).mp h)) (fun h => Kf (fun z => h ((i32_lt hxx hy).mpr z)))
    · exact lv_if_ge hx hb hd h1 (fun h => Kt ((i32_le hy hxx).mp h)) (fun h => Kf (fun z => h ((i32_le hy hxx).mpr z)))
    · exact lv_if_gt hx hb hd h1 (fun h => Kt ((i32_lt hy hxx).mp h)) (fun h => Kf (fun z => h ((i32_lt hy hxx).mpr z)))
    · exact lv_if_le hx hb hd h1 (fun h => Kt ((i32_le hxx hy).mp h)) (fun h => Kf (fun z => h ((i32_le hxx hy).mpr z)))

  · -- if_acmp
    obtain rfl := len_of hlen rfl
    rename_i c off d t
    simp only [Bool.and_eq_true, decide_eq_true_eq] at hok
    obtain ⟨rfl, ht⟩ := hok
    obtain ⟨tgt, h1, h2⟩ := okT_inv ht
    cases c
    · obtain ⟨g, a, g', a', st, rfl, h12, rfl, kt, kf⟩ := s2r_inv hw
      intro H locs ls hC hL hl hs
      have hst : sok st := fun a ha => hs a (by simp [ha])
      exact lv_acmp_eq (rx := some _) (ry := some _) hx hb hd h1 (fun h => hK _ _ h2 _ _ _ (kt (hE.2.1.1.2 _ a' a h12 (sok2 hs) (sok1 hs) (Option.some.inj h))) H locs ls hC hL hl hst) (fun h => kf (fun z => h (by rw [z])) H locs ls hC hL hl hst)
    · obtain ⟨g, a, g', a', st, rfl, h12, rfl, kt, kf⟩ := s2r_inv hw
      intro H locs ls hC hL hl hs
      have hst : sok st := fun a ha => hs a (by simp [ha])
      exact lv_acmp_ne (rx := some _) (ry := some _) hx hb hd h1 (fun h => hK _ _ h2 _ _ _ (kt (fun z => h (by rw [z]))) H locs ls hC hL hl hst) (fun h => kf (hE.2.1.1.2 _ a' a h12 (sok2 hs) (sok1 hs) (Option.some.inj h)) H locs ls hC hL hl hst)

  · -- goto
    obtain rfl := len_of hlen rfl
    obtain ⟨tgt, h1, h2⟩ := okT_inv hok
    intro H locs ls hC hL hl hs
    exact lv_goto hx hb hd h1 (hK _ _ h2 _ _ _ hw H locs ls hC hL hl hs)

  · -- tableswitch
    rename_i d lo hi offs d' lo' hi' offs'
    simp only [Bool.and_eq_true, decide_eq_true_eq] at hok
    obtain ⟨⟨⟨rfl, rfl, hn⟩, ht⟩, hps⟩ := hok
    obtain ⟨tgt, h1, h2⟩ := okT_inv ht
    obtain ⟨p1, p2⟩ := okPairs_inv _ _ hps
    obtain ⟨x, st, rfl, kt, kf⟩ := s1i_inv hw
    intro H locs ls hC hL hl hs
    have hxx : in32 x := sok1 hs
    have hst : sok st := fun a ha => hs a (by simp [ha])
    by_cases hb1 : x < lo ∨ hi < x
    · exact lv_tableOut hx hb hd (by rw [i32_toInt hxx]; exact hb1) h1 (hK _ _ h2 _ _ _ (kt hb1) H locs ls hC hL hl hst)
    · obtain ⟨o, g1, g2⟩ := tsw_inv _ _ kf (x - lo).toNat (by rw [← p1]; omega) (by omega)
      have hlt : (x - lo).toNat < offs.toList.length := by omega
      have g3 := p2 _ _ _ (List.getElem?_eq_getElem hlt) g1
      obtain ⟨tgt2, h3, h4⟩ := okT_inv g3
      refine lv_tableIn hx hb hd (by rw [i32_toInt hxx]; omega) (by rw [i32_toInt hxx]; omega) (off := offs.toList[(x - lo).toNat]) ?_ h3 (hK _ _ h4 _ _ _ g2 H locs ls hC hL hl hst)
      rw [i32_toInt hxx, ← Array.getElem?_toList, List.getElem?_eq_getElem hlt]

  · -- lookupswitch
    rename_i d ps d' ps'
    simp only [Bool.and_eq_true] at hok
    obtain ⟨⟨hp, ht⟩, hps⟩ := hok
    obtain ⟨x, st, rfl, kt⟩ := s1i_inv hw
    obtain ⟨o, h1, h2⟩ := lsw_inv ht _ _ hps kt
    obtain ⟨tgt, h3, h4⟩ := okT_inv h1
    intro H locs ls hC hL hl hs
    have hxx : in32 x := sok1 hs
    have hst : sok st := fun a ha => hs a (by simp [ha])
    exact lv_lookup hx hb hd hp (by rw [i32_toInt hxx]) h3 (hK _ _ h4 _ _ _ h2 H locs ls hC hL hl hst)

  · -- getfield
    obtain rfl := len_of hlen rfl
    rename_i i n
    obtain ⟨-, h1, h2, h3, h4⟩ := pF_inv (pF_inv0 hok)
    obtain ⟨g, t, st, rfl, rfl, k⟩ := s1r_inv hw
    refine Wi.getf hx hb hts hown hE h1 h2 h3 hd ?_ ?_ k
    · unfold fget fval
      generalize oY (n / 400 % 16) (n / 4 % 100) = ty at h4 ⊢
      cases ty <;> first | exact h4.elim | (simp only [h4]; rfl) | (simp only [h4.1, h4.2.1]; rfl)
    · intro hv hM
      have hM := hM.1 (n / 400 % 16) t (n / 4 % 100) h1 hv.2.1 hv.2.2 h2
      unfold fok at hM
      unfold fget
      generalize oY (n / 400 % 16) (n / 4 % 100) = ty at h4 hM ⊢
      cases ty <;> first | exact h4.elim | (simp only [h4]; exact hM) | (simp only [h4.1]; exact ⟨h4.2.2.2, by have := hv.2.1; omega, by have := hv.2.2; have := h4.2.2.1; omega⟩)

  · -- putfield
    obtain rfl := len_of hlen rfl
    rename_i i n
    obtain ⟨hfin, h1, h2, h3, h4⟩ := pF_inv hok
    have hw : fput n stk fun g t x st => g = n / 400 % 16 ∧ WiR p l e R s m args below meth _ E q post (pc + 3) loc st (mup M g t ((n / 4 % 100 : Nat) : Int) x) := hw
    unfold fput at hw
    generalize hty : oY (n / 400 % 16) (n / 4 % 100) = ty at h4
    cases ty
    case int =>
      have h4 : n % 4 = 0 := h4
      simp only [h4] at hw
      obtain ⟨x, g, t, st, rfl, rfl, k⟩ := s2ia_inv hw
      exact Wi.putf hx hb hts hown hE h1 h2 h3 hd hfin (a := aI x) (by unfold fval; rw [hty]; rfl) (by rw [hty]; rfl) (by rw [hty]; rfl) (fun h => by unfold fok; rw [hty]; exact h) k
    case boolean =>
      have h4 : n % 4 = 1 := h4
      simp only [h4] at hw
      obtain ⟨x, g, t, st, rfl, h01, rfl, k⟩ := s2ia_inv hw
      refine Wi.putf hx hb hts hown hE h1 h2 h3 hd hfin (a := aI x) (by unfold fval; rw [hty]; rfl) ?_ ?_ (fun h => by unfold fok; rw [hty]; exact h) k
      · rw [hty]; rcases h01 with rfl | rfl <;> rfl
      · rw [hty]; rcases h01 with rfl | rfl <;> rfl
    case long =>
      have h4 : n % 4 = 2 := h4
      simp only [h4] at hw
      obtain ⟨x, g, t, st, rfl, rfl, k⟩ := s2la_inv hw
      exact Wi.putf hx hb hts hown hE h1 h2 h3 hd hfin (a := aL x) (by unfold fval; rw [hty]; rfl) (by rw [hty]; rfl) (by rw [hty]; rfl) (fun h => by unfold fok; rw [hty]; exact h) k
    case object => have h4 := h4.1; simp only [h4] at hw
    case array => have h4 := h4.1; simp only [h4] at hw
    all_goals exact h4.elim

  · -- getstatic
    obtain rfl := len_of hlen rfl
    rename_i i n
    rw [Bool.or_eq_true] at hok
    rcases hok with hok | hok
    · obtain ⟨z, hz, h1, h2, h3⟩ := pS_inv hok
      refine Wi.gets hx hb hts hown hE hz h3 h2 hd ?_
      rw [h1]
      exact hw
    · obtain ⟨z, hz, h1, h2, h3⟩ := pN_inv hok
      refine Wi.getsN hx hb hts hown hE hz h3 h2 hd ?_
      rw [h1]
      exact hw

  · -- invokevirtual
    obtain rfl := len_of hlen rfl
    rename_i i n
    rw [Bool.and_eq_true] at hok
    obtain ⟨h1, h2⟩ := hok
    obtain ⟨h20, h2, h3, h4, h5⟩ := of_decide_eq_true h2
    obtain ⟨g1, g2⟩ := pM_inv h1
    obtain ⟨m1, m2, m3, m4, m5, m6, m7⟩ := md_inv g1
    obtain ⟨n1, n2, n3, n4⟩ := m3 h2
    exact Wi.callV hF0 h20 g1 g2 m1 n1 n2 m4 ⟨n3, m5⟩ n4 h3 h4 h5 m7 hd hw

  · -- invokestatic
    obtain rfl := len_of hlen rfl
    rename_i i n
    rw [Bool.and_eq_true] at hok
    obtain ⟨h1, h2⟩ := hok
    obtain ⟨h2, h3, h5⟩ := of_decide_eq_true h2
    obtain ⟨g1, g2⟩ := pM_inv h1
    obtain ⟨m1, m2, m3, m4, m5, m6, m7⟩ := md_inv g1
    by_cases hm2 : 2 ≤ n / 256
    · exact Wi.callS hF0 hm2 g1 g2 m1 (m2 h2) m4 m5 h3 h5 m7 hd hw
    · have hR1 : 1 ≤ R.frames := by rw [hR]; show 1 ≤ q.lv; omega
      have hR2 : 38 ≤ R.locals := by rw [hR]; show 38 ≤ 38 * q.lv; omega
      obtain ⟨vs, rest, rfl, hvl, hr4, post', hruns, hk⟩ := pops_spec _ _ _ _ hw
      rw [List.append_nil] at hruns
      intro H locs ls hC hL hl hs
      have hcat := cat_le E rest
      rcases (show n / 256 = 0 ∨ n / 256 = 1 by omega) with h0 | h0
      · rw [h0] at hruns g2
        obtain ⟨x, y, hv, hp⟩ : ∃ x y, vs.reverse = [aI x, aI y] ∧ post' (some (aI (if x < y then y else x))) M := hruns
        have hvs : vs = [aI y, aI x] := by rw [← List.reverse_reverse vs, hv]; rfl
        subst hvs
        have hy : in32 y := hs (aI y) (by simp)
        have hxx : in32 x := hs (aI x) (by simp)
        have k := hk _ _ hp H locs ls hC hL hl (List.forall_mem_cons.mpr ⟨(by show in32 _; split <;> assumption), fun a ha => hs a (by simp [ha])⟩)
        refine va_mmax hx hb (by rw [hmx]; exact hL.1.symm) hown (hts _ (by rw [← mm0.2.2.2]; exact g2)) (hts _ (List.mem_filter.mpr ⟨mm0.2.1, rfl⟩)) (hts _ (List.mem_filter.mpr ⟨mm0.2.2.1, rfl⟩)) (hts _ (List.mem_filter.mpr ⟨mm0.1, rfl⟩)) hR1 (by show ((rest.map (enc E)).map fun v => v.category).sum + 13 ≤ R.locals; omega) (by rw [hR]; exact Nat.le_refl _) (by rw [hR]; exact Nat.le_refl _) hd ?_
        have e : (if Int32.ofInt x < Int32.ofInt y then Int32.ofInt y else Int32.ofInt x) = Int32.ofInt (if x < y then y else x) := by
          simp only [i32_lt hxx hy]
          split <;> rfl
        rw [e]
        exact k
      · rw [h0] at hruns g2
        obtain ⟨x, y, hv, hp⟩ : ∃ x y, vs.reverse = [aI x, aI y] ∧ post' (some (aI (if y < x then y else x))) M := hruns
        have hvs : vs = [aI y, aI x] := by rw [← List.reverse_reverse vs, hv]; rfl
        subst hvs
        have hy : in32 y := hs (aI y) (by simp)
        have hxx : in32 x := hs (aI x) (by simp)
        have k := hk _ _ hp H locs ls hC hL hl (List.forall_mem_cons.mpr ⟨(by show in32 _; split <;> assumption), fun a ha => hs a (by simp [ha])⟩)
        refine va_mmin hx hb (by rw [hmx]; exact hL.1.symm) hown (hts _ (by rw [← mm1.2.2]; exact g2)) (hts _ (List.mem_filter.mpr ⟨mm1.2.1, rfl⟩)) (hts _ (List.mem_filter.mpr ⟨mm0.2.2.1, rfl⟩)) (hts _ (List.mem_filter.mpr ⟨mm1.1, rfl⟩)) hR1 (by show ((rest.map (enc E)).map fun v => v.category).sum + 13 ≤ R.locals; omega) (by rw [hR]; exact Nat.le_refl _) (by rw [hR]; exact Nat.le_refl _) hd ?_
        have e : (if Int32.ofInt y < Int32.ofInt x then Int32.ofInt y else Int32.ofInt x) = Int32.ofInt (if y < x then y else x) := by
          simp only [i32_lt hy hxx]
          split <;> rfl
        rw [e]
        exact k

  · -- ordinal
    obtain rfl := len_of hlen rfl
    rw [Bool.and_eq_true] at hok
    obtain ⟨hp, h2⟩ := hok
    have h2 := of_decide_eq_true h2
    rcases h2 with ⟨rfl | rfl, hlv⟩
    · obtain ⟨g, t, st, rfl, rfl, hst, k⟩ := s1r_inv hw
      refine Wi.sok_of fun hs => ?_
      have hv : vld 12 t := sok1 hs
      have hc := hE.2.2.2.2.2.1 t hv.2.1 hv.2.2
      exact Wi.ord hF0 hlv (pX_12 hp) (jws_ok _ (by decide +kernel)) (jws_ok _ (by decide +kernel)) (in30 hv.2.1 (Int.lt_of_lt_of_le hv.2.2 (by decide))) hc.1 hc.2.1 hst hd k
    · obtain ⟨g, t, st, rfl, rfl, hst, k⟩ := s1r_inv hw
      refine Wi.sok_of fun hs => ?_
      have hv : vld 13 t := sok1 hs
      have hc := hE.2.2.2.2.2.2.1 t hv.2.1 hv.2.2
      exact Wi.ord hF0 hlv (pX_13 hp) (jws_ok _ (by decide +kernel)) (jws_ok _ (by decide +kernel)) (in30 hv.2.1 (Int.lt_of_lt_of_le hv.2.2 (by decide))) hc.1 hc.2.1 hst hd k

  · -- word, wanted
    obtain rfl := len_of hlen rfl
    rw [Bool.and_eq_true] at hok
    obtain ⟨hp, h2⟩ := hok
    rcases of_decide_eq_true h2 with rfl | rfl
    · obtain ⟨g, t, st, rfl, rfl, k⟩ := s1r_inv hw
      intro H locs ls hC hL hl hs
      have hv : vld 12 t := sok1 hs
      have hc := hE.2.2.2.2.2.1 t hv.2.1 hv.2.2
      exact vk_getf hx hb hc.2.2 hC.1 hown (hts _ (pX_100 hp)) (fun _ h => h) hd (k H locs ls hC hL hl (List.forall_mem_cons.mpr ⟨kwd_ok hv.2.1 hv.2.2, (List.forall_mem_cons.mp hs).2⟩))
    · obtain ⟨g, t, st, rfl, rfl, k⟩ := s1r_inv hw
      intro H locs ls hC hL hl hs
      have hv : vld 13 t := sok1 hs
      have hc := hE.2.2.2.2.2.2.1 t hv.2.1 hv.2.2
      exact vk_getf hx hb hc.2.2 hC.1 hown (hts _ (pX_101 hp)) (fun _ h => h) hd (k H locs ls hC hL hl (List.forall_mem_cons.mpr ⟨rwt_ok hv.2.1 hv.2.2, (List.forall_mem_cons.mp hs).2⟩))

  · -- length, charAt
    obtain rfl := len_of hlen rfl
    rw [Bool.and_eq_true] at hok
    obtain ⟨hp, h2⟩ := hok
    rcases of_decide_eq_true h2 with ⟨rfl | rfl, hlv⟩
    · obtain ⟨g, t, st, rfl, rfl, hst, k⟩ := s1r_inv hw
      exact Wi.slen hF0 hlv (pX_200 hp) hst hd k
    · obtain ⟨i, g, t, st, rfl, rfl, hst, hi, k⟩ := s2ia_inv hw
      exact Wi.schr hF0 hlv (pX_201 hp) hi.1 hi.2 hst hd k

  · -- ret0
    obtain rfl := len_of hlen rfl
    have hok := of_decide_eq_true hok
    match stk, hw with
    | [.inl x], hw =>
      intro H locs ls hC hL hl hs
      exact W.iret hx hb (hr.trans hok) (ret_ok (r := some (aI x)) hC (fun a h => by injection h with h; subst h; exact sok1 hs) hw) (fun z hz => hC.1.2.2 z hz) hd hlk

  · -- ret1
    obtain rfl := len_of hlen rfl
    have hok := of_decide_eq_true hok
    match stk, hw with
    | [.inl x], hw =>
      intro H locs ls hC hL hl hs
      have hw : (x = 0 ∨ x = 1) ∧ post (some (aI x)) M := hw
      refine W.zret hx hb (hr.trans hok) ?_ (ret_ok (r := some (aI x)) hC (fun a h => by injection h with h; subst h; exact sok1 hs) hw.2) (fun z hz => hC.1.2.2 z hz) hd hlk
      rcases hw.1 with rfl | rfl <;> rfl

  · -- lreturn
    obtain rfl := len_of hlen rfl
    have hok := of_decide_eq_true hok
    match stk, hw with
    | [.inr (.inl x)], hw =>
      intro H locs ls hC hL hl hs
      exact W.lret hx hb (hr.trans hok) (ret_ok (r := some (aL x)) hC (fun a h => by injection h with h; subst h; exact sok1 hs) hw) (fun z hz => hC.1.2.2 z hz) hd hlk

  · -- areturn
    obtain rfl := len_of hlen rfl
    match stk, hw with
    | [.inr (.inr (g, t))], hw =>
      intro H locs ls hC hL hl hs
      have hrt : ∃ rt, q.rt = some rt ∧ ((∃ n, rt = .object n) ∨ ∃ t, rt = .array t) := by
        split at hok
        · rename_i h; exact ⟨_, h, Or.inl ⟨_, rfl⟩⟩
        · rename_i h; exact ⟨_, h, Or.inr ⟨_, rfl⟩⟩
        · cases hok
      obtain ⟨rt, h1, h2⟩ := hrt
      exact W.aret hx hb (hr.trans h1) h2 (Or.inr ⟨_, rfl⟩) (ret_ok (r := some (aR g t)) hC (fun a h => by injection h with h; subst h; exact sok1 hs) hw) (fun z hz => hC.1.2.2 z hz) hd hlk

  · -- return
    obtain rfl := len_of hlen rfl
    have hok := of_decide_eq_true hok
    obtain ⟨rfl, hw⟩ : stk = [] ∧ post none M := hw
    intro H locs ls hC hL hl hs
    exact W.vret hx hb (hr.trans hok) (ret_ok (r := none) hC (fun a h => by cases h) hw) (fun z hz => hC.1.2.2 z hz) hd hlk

  · -- new
    exact hw.elim

  · -- athrow
    exact hw.elim

  · -- invokespecial
    exact hw.elim

  · -- simple
    rw [Bool.and_eq_true] at hok
    obtain ⟨h1, h2⟩ := hok
    have h2 := of_decide_eq_true h2
    subst h2
    have hl1 : rlen raw = some 1 := by
      cases raw <;> first | exact absurd (show false = true from h1) (by decide) | rfl
    obtain rfl := len_of hlen hl1
    exact simple_sound hF0 hd h1 hw

end WU
