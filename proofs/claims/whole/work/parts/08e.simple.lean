theorem u16_ok (x : UInt32) : x % 65536 = x.toUInt16.toUInt32 := by
  apply UInt32.toNat_inj.mp
  rw [UInt32.toNat_mod, UInt16.toNat_toUInt32, UInt32.toNat_toUInt16]
  rfl
section WT
variable {p : Program} {l : Launch} {e : Env} {R : Room} {s : State} {m : MethodId} {args : Array Value} {below : List Frame} {meth : Method} {c : Code} {Q : State → Prop} {E : EV} {q : MD} {pc : Nat} {loc : Lc} {stk : List AV} {M : AMem} {K : Nat → Lc → List AV → AMem → Prop} {post : Option AV → AMem → Prop}
theorem simple_sound (hF : Fr p R s m args meth c E q) {ins : Instr} (hd : decode q.b pc = .ok (ins, 1)) (hs : isSimple ins = true) (hw : wp1 ins (fun loc stk M => Wi p l e R s m args below meth c Q E q.ml (pc + 1) loc stk M) K post loc stk M) : Wi p l e R s m args below meth c Q E q.ml pc loc stk M := by
  obtain ⟨hx, hb, hmx, hown, hts, hE, hr, hlk, hR⟩ := hF
  cases ins <;> first | exact absurd (show false = true from hs) (by decide) | skip

  case iadd =>
    obtain ⟨y, x, st, rfl, k⟩ := s2i_inv hw
    refine Wi.top2 (b := aI (w32 (x + y))) (fun _ _ => w32_in _) (fun H locs ls rest _ h1 h2 kk => lv_iadd hx hb hd ?_) k
    rw [i32_add]; exact kk

  case isub =>
    obtain ⟨y, x, st, rfl, k⟩ := s2i_inv hw
    refine Wi.top2 (b := aI (w32 (x - y))) (fun _ _ => w32_in _) (fun H locs ls rest _ h1 h2 kk => lv_isub hx hb hd ?_) k
    rw [i32_sub]; exact kk

  case imul =>
    obtain ⟨y, x, st, rfl, k⟩ := s2i_inv hw
    refine Wi.top2 (b := aI (w32 (x * y))) (fun _ _ => w32_in _) (fun H locs ls rest _ h1 h2 kk => lv_imul hx hb hd ?_) k
    rw [i32_mul]; exact kk

  case ineg =>
    obtain ⟨x, st, rfl, k⟩ := s1i_inv hw
    refine Wi.top1 (b := aI (w32 (-x))) (fun _ => w32_in _) (fun H locs ls rest _ h1 kk => lv_ineg hx hb hd ?_) k
    rw [i32_neg]; exact kk

  case irem =>
    obtain ⟨y, x, st, rfl, h0, k⟩ := s2i_inv hw
    refine Wi.top2 (b := aI (x.tmod y)) (fun hy hxx => tmod_in32 hxx h0 hy) (fun H locs ls rest _ h1 h2 kk => lv_irem hx hb hd (fun h => ?_) ?_) k
    · have := (i32_eq h1 in32_0).mp h
      omega
    · rw [i32_tmod h2 h1 h0]; exact kk

  case iand =>
    obtain ⟨y, x, st, rfl, k⟩ := s2i_inv hw
    refine Wi.top2 (b := aI (iAnd x y)) (fun _ _ => i32_in _) (fun H locs ls rest _ h1 h2 kk => lv_iand hx hb hd ?_) k
    have kk : W p l e R s m args below meth c H locs 0 0 Q (F0 m (pc + 1) ls (.int (Int32.ofInt (iAnd x y)) :: rest)) := kk
    unfold iAnd at kk
    rw [i32_of] at kk
    exact kk

  case ior =>
    obtain ⟨y, x, st, rfl, k⟩ := s2i_inv hw
    refine Wi.top2 (b := aI (iOr x y)) (fun _ _ => i32_in _) (fun H locs ls rest _ h1 h2 kk => lv_ior hx hb hd ?_) k
    have kk : W p l e R s m args below meth c H locs 0 0 Q (F0 m (pc + 1) ls (.int (Int32.ofInt (iOr x y)) :: rest)) := kk
    unfold iOr at kk
    rw [i32_of] at kk
    exact kk

  case ixor =>
    obtain ⟨y, x, st, rfl, k⟩ := s2i_inv hw
    refine Wi.top2 (b := aI (iXor x y)) (fun _ _ => i32_in _) (fun H locs ls rest _ h1 h2 kk => lv_ixor hx hb hd ?_) k
    have kk : W p l e R s m args below meth c H locs 0 0 Q (F0 m (pc + 1) ls (.int (Int32.ofInt (iXor x y)) :: rest)) := kk
    unfold iXor at kk
    rw [i32_of] at kk
    exact kk

  case ishl =>
    obtain ⟨y, x, st, rfl, k⟩ := s2i_inv hw
    refine Wi.top2 (b := aI (iShl x y)) (fun _ _ => i32_in _) (fun H locs ls rest _ h1 h2 kk => lv_ishl hx hb hd ?_) k
    have kk : W p l e R s m args below meth c H locs 0 0 Q (F0 m (pc + 1) ls (.int (Int32.ofInt (iShl x y)) :: rest)) := kk
    unfold iShl at kk
    rw [i32_of] at kk
    exact kk

  case ishr =>
    obtain ⟨y, x, st, rfl, k⟩ := s2i_inv hw
    refine Wi.top2 (b := aI (iShr x y)) (fun _ _ => i32_in _) (fun H locs ls rest _ h1 h2 kk => lv_ishr hx hb hd ?_) k
    have kk : W p l e R s m args below meth c H locs 0 0 Q (F0 m (pc + 1) ls (.int (Int32.ofInt (iShr x y)) :: rest)) := kk
    unfold iShr at kk
    rw [i32_of] at kk
    exact kk

  case iushr =>
    obtain ⟨y, x, st, rfl, k⟩ := s2i_inv hw
    refine Wi.top2 (b := aI (iUshr x y)) (fun _ _ => i32_in _) (fun H locs ls rest _ h1 h2 kk => lv_iushr hx hb hd rfl ?_) k
    have kk : W p l e R s m args below meth c H locs 0 0 Q (F0 m (pc + 1) ls (.int (Int32.ofInt (iUshr x y)) :: rest)) := kk
    unfold iUshr at kk
    rw [i32_of] at kk
    exact kk

  case ladd =>
    obtain ⟨y, x, st, rfl, k⟩ := s2l_inv hw
    refine Wi.top2 (b := aL (w64 (x + y))) (fun _ _ => w64_in _) (fun H locs ls rest _ h1 h2 kk => lv_ladd hx hb hd ?_) k
    rw [i64_add]; exact kk

  case lneg =>
    obtain ⟨x, st, rfl, k⟩ := s1l_inv hw
    refine Wi.top1 (b := aL (w64 (-x))) (fun _ => w64_in _) (fun H locs ls rest _ h1 kk => lv_lneg hx hb hd ?_) k
    rw [i64_neg]; exact kk

  case lrem =>
    obtain ⟨y, x, st, rfl, h0, k⟩ := s2l_inv hw
    refine Wi.top2 (b := aL (x.tmod y)) (fun hy hxx => tmod_in64 hxx h0 hy) (fun H locs ls rest _ h1 h2 kk => lv_lrem hx hb hd (fun h => ?_) ?_) k
    · have := (i64_eq h1 (by unfold in64; omega)).mp (h.trans (show (0 : Int64) = Int64.ofInt 0 from rfl))
      omega
    · rw [i64_tmod h2 h1 h0]; exact kk

  case land =>
    obtain ⟨y, x, st, rfl, k⟩ := s2l_inv hw
    refine Wi.top2 (b := aL (lAnd x y)) (fun _ _ => i64_in _) (fun H locs ls rest _ h1 h2 kk => lv_land hx hb hd ?_) k
    have kk : W p l e R s m args below meth c H locs 0 0 Q (F0 m (pc + 1) ls (.long (Int64.ofInt (lAnd x y)) :: rest)) := kk
    unfold lAnd at kk
    rw [i64_of] at kk
    exact kk

  case lor =>
    obtain ⟨y, x, st, rfl, k⟩ := s2l_inv hw
    refine Wi.top2 (b := aL (lOr x y)) (fun _ _ => i64_in _) (fun H locs ls rest _ h1 h2 kk => lv_lor hx hb hd ?_) k
    have kk : W p l e R s m args below meth c H locs 0 0 Q (F0 m (pc + 1) ls (.long (Int64.ofInt (lOr x y)) :: rest)) := kk
    unfold lOr at kk
    rw [i64_of] at kk
    exact kk

  case lshl =>
    obtain ⟨y, x, st, rfl, k⟩ := s2il_inv hw
    refine Wi.top2 (b := aL (lShl x y)) (fun _ _ => i64_in _) (fun H locs ls rest _ h1 h2 kk => lv_lshl hx hb hd rfl ?_) k
    have kk : W p l e R s m args below meth c H locs 0 0 Q (F0 m (pc + 1) ls (.long (Int64.ofInt (lShl x y)) :: rest)) := kk
    unfold lShl at kk
    rw [i64_of] at kk
    exact kk

  case lushr =>
    obtain ⟨y, x, st, rfl, k⟩ := s2il_inv hw
    refine Wi.top2 (b := aL (lUshr x y)) (fun _ _ => i64_in _) (fun H locs ls rest _ h1 h2 kk => lv_lushr hx hb hd rfl ?_) k
    have kk : W p l e R s m args below meth c H locs 0 0 Q (F0 m (pc + 1) ls (.long (Int64.ofInt (lUshr x y)) :: rest)) := kk
    unfold lUshr at kk
    rw [i64_of] at kk
    exact kk

  case lcmp =>
    obtain ⟨y, x, st, rfl, k⟩ := s2l_inv hw
    refine Wi.top2 (b := aI (lCmp x y)) (fun _ _ => lCmp_in _ _) (fun H locs ls rest _ h1 h2 kk => W.lcmp hx hb hd ?_) k
    rw [lcmp_ok h2 h1]; exact kk

  case i2l =>
    obtain ⟨x, st, rfl, k⟩ := s1i_inv hw
    refine Wi.top1 (b := aL x) (fun h => ?_) (fun H locs ls rest _ h1 kk => lv_i2l hx hb hd (v := Int64.ofInt x) ?_ kk) k
    · have h : in32 x := h
      show in64 x
      unfold in32 at h; unfold in64; omega
    · have h1 : in32 x := h1
      apply Int64.toInt_inj.mp
      rw [Int32.toInt_toInt64, i32_toInt h1, i64_toInt (by unfold in32 at h1; unfold in64; omega)]

  case l2i =>
    obtain ⟨x, st, rfl, k⟩ := s1l_inv hw
    refine Wi.top1 (b := aI (w32 x)) (fun _ => w32_in _) (fun H locs ls rest _ h1 kk => lv_l2i hx hb hd (v := Int32.ofInt (w32 x)) ?_ kk) k
    have h1 : in64 x := h1
    apply Int32.toInt_inj.mp
    rw [Int64.toInt_toInt32, i64_toInt h1, i32_toInt (w32_in x), w32_bmod]

  case i2b =>
    obtain ⟨x, st, rfl, k⟩ := s1i_inv hw
    exact Wi.top1 (b := aI (w8 x)) (fun _ => w8_in _) (fun H locs ls rest _ h1 kk => lv_i2b hx hb hd (w8_ok x) kk) k

  case i2c =>
    obtain ⟨x, st, rfl, k⟩ := s1i_inv hw
    exact Wi.top1 (b := aI (w16u x)) (fun _ => w16u_in _) (fun H locs ls rest _ h1 kk => lv_i2c hx hb hd (w16u_ok x) kk) k

  case dup =>
    match stk, hw with
    | v :: st, hw =>
      have hw : lcat v = 1 ∧ Wi p l e R s m args below meth c Q E q.ml (pc + 1) loc (v :: v :: st) M := hw
      intro H locs ls hC hL hl hs
      exact lv_dup hx hb hd (by rw [enc_cat]; exact hw.1) (hw.2 H locs ls hC hL hl (List.forall_mem_cons.mpr ⟨sok1 hs, hs⟩))

  case pop =>
    match stk, hw with
    | v :: st, hw =>
      have hw : lcat v = 1 ∧ Wi p l e R s m args below meth c Q E q.ml (pc + 1) loc st M := hw
      intro H locs ls hC hL hl hs
      exact lv_pop hx hb hd (by rw [enc_cat]; exact hw.1) (hw.2 H locs ls hC hL hl (List.forall_mem_cons.mp hs).2)

  case dup2 =>
    match stk, hw with
    | v :: w :: st, hw =>
      have hw : lcat v = 1 ∧ lcat w = 1 ∧ Wi p l e R s m args below meth c Q E q.ml (pc + 1) loc (v :: w :: v :: w :: st) M := hw
      intro H locs ls hC hL hl hs
      exact lv_dup2_11 hx hb hd (by rw [enc_cat]; exact hw.1) (by rw [enc_cat]; exact hw.2.1) (hw.2.2 H locs ls hC hL hl (List.forall_mem_cons.mpr ⟨sok1 hs, List.forall_mem_cons.mpr ⟨sok2 hs, hs⟩⟩))

  case iaload =>
    obtain ⟨i, g, t, st, rfl, h0, hi, k⟩ := s2ia_inv hw
    exact Wi.ald1 hE h0 (by decide) (by decide) tb_k0 hi (fun H locs ls rest cell v a1 a2 a3 a4 a5 kk => W.iald hx hb a1 a2 a3 a4 a5 rfl rfl hd kk) k

  case caload =>
    obtain ⟨i, g, t, st, rfl, h0, hi, k⟩ := s2ia_inv hw
    exact Wi.ald1 hE h0 (by decide) (by decide) tb_k5 hi (fun H locs ls rest cell v a1 a2 a3 a4 a5 kk => W.cald hx hb a1 a2 a3 a4 a5 rfl rfl hd kk) k

  case baload =>
    obtain ⟨i, g, t, st, rfl, h0 | h0, hi, k⟩ := s2ia_inv hw
    · exact Wi.ald1 hE h0 (by decide) (by decide) tb_k4 hi (fun H locs ls rest cell v a1 a2 a3 a4 a5 kk => W.bald hx hb a1 a2 a3 a4 a5 rfl rfl hd kk) k
    · exact Wi.ald1 hE h0 (by decide) (by decide) tb_k1 hi (fun H locs ls rest cell v a1 a2 a3 a4 a5 kk => W.zald hx hb a1 a2 a3 a4 a5 rfl rfl hd kk) k

  case laload =>
    obtain ⟨i, g, t, st, rfl, h0, hi, k⟩ := s2ia_inv hw
    refine Wi.sok_of fun hs => ?_
    have hA : isA g := isA_of (sok2 hs) hi
    have e1 := tb_k2 g (isA_mem hA) h0
    refine Wi.ald hE hA hi.1 hi.2 (a := aL (M g t i)) (by unfold aval; rw [h0]; rfl) (fun hM hv => ?_) (fun H locs ls rest cell a1 a2 a3 a4 a5 kk => W.lald hx hb a1 (by rw [← e1]; exact a2) a3 a4 a5 rfl rfl hd kk) k
    have := hM.2.1 g t i hA hv.2.1 hv.2.2 hi.1 hi.2
    unfold aaok at this
    rw [h0] at this
    exact this

  case aaload =>
    obtain ⟨i, g, t, st, rfl, h0, hi, k⟩ := s2ia_inv hw
    refine Wi.sok_of fun hs => ?_
    have hA : isA g := isA_of (sok2 hs) hi
    have e1 := tb_k3 g (isA_mem hA) h0
    split at k
    · rename_i hm
      refine Wi.ald hE hA hi.1 hi.2 (a := aR (aT g).1 ((aT g).2.2 + i)) (by unfold aval; rw [h0]; simp [hm, enc]) (fun hM hv => ?_) (fun H locs ls rest cell a1 a2 a3 a4 a5 kk => W.aald hx hb a1 a2 e1 a3 a4 a5 rfl rfl hd kk) k
      have h7 := tb_t1 g (isA_mem hA) h0 hm
      have hi2 := hi.2
      have h8 := hi.1
      exact ⟨gval_ok h7.1, by omega, by omega⟩
    · rename_i hm
      refine Wi.ald hE hA hi.1 hi.2 (a := aR (aT g).1 (M g t i)) (by unfold aval; rw [h0]; simp [hm, enc, k.2.1]; omega) (fun hM hv => ?_) (fun H locs ls rest cell a1 a2 a3 a4 a5 kk => W.aald hx hb a1 a2 e1 a3 a4 a5 rfl rfl hd kk) k.2.2
      have h2 := hM.2.1 g t i hA hv.2.1 hv.2.2 hi.1 hi.2
      unfold aaok at h2
      rw [h0] at h2
      exact ⟨gval_ok (tb_t2 g (isA_mem hA) h0 hm), k.1, (h2 hm).2⟩
    · exact k.elim

  case iastore =>
    obtain ⟨x, i, g, t, st, rfl, h0, ho, hi, k⟩ := s3i_inv hw
    exact Wi.ast1 hE h0 (by decide) (by decide) tb_k0 hi ho (fun _ => rfl) (fun h => h) (fun H locs ls rest cell a1 a2 a3 a4 kk => W.iast hx hb a1 a2 a3 a4 rfl rfl hd kk) k

  case castore =>
    obtain ⟨x, i, g, t, st, rfl, h0, ho, hi, k⟩ := s3i_inv hw
    refine Wi.ast1 hE h0 (by decide) (by decide) tb_k5 hi ho (w := narrow .char (.int (Int32.ofInt x))) (fun _ => ?_) (fun h => w16u_in x) (fun H locs ls rest cell a1 a2 a3 a4 kk => W.cast hx hb a1 a2 a3 a4 rfl rfl hd kk) k
    rw [← w16u_ok x, u16_ok]
    rfl

  case bastore =>
    obtain ⟨x, i, g, t, st, rfl, ho, hi, ⟨h0, k⟩ | ⟨h0, h01, k⟩⟩ := s3i_inv hw
    · refine Wi.ast1 hE h0 (by decide) (by decide) tb_k4 hi ho (w := narrow .byte (.int (Int32.ofInt x))) (fun _ => ?_) (fun h => w8_in x) (fun H locs ls rest cell a1 a2 a3 a4 kk => W.bast hx hb a1 a2 a3 a4 rfl rfl hd kk) k
      rw [← w8_ok x]
      rfl
    · refine Wi.ast1 hE h0 (by decide) (by decide) tb_k1 hi ho (w := narrow .boolean (.int (Int32.ofInt x))) (fun _ => ?_) (fun h => h) (fun H locs ls rest cell a1 a2 a3 a4 kk => W.zast hx hb a1 a2 a3 a4 rfl rfl hd kk) k
      rcases h01 with rfl | rfl <;> rfl

  case lastore =>
    obtain ⟨x, i, g, t, st, rfl, h0, ho, hi, k⟩ := s3l_inv hw
    refine Wi.sok_of fun hs => ?_
    have hA : isA g := isA_of (sok3 hs) hi
    have e1 := tb_k2 g (isA_mem hA) h0
    exact Wi.ast hE (own_of hA ho) hi.1 hi.2 (a := aL x) (x := x) (w := .long (Int64.ofInt x)) (fun h => by unfold aval; rw [h0]; rfl) (fun h => by unfold aaok; rw [h0]; exact h) (fun H locs ls rest cell _ _ a1 a2 a3 a4 kk => W.last hx hb a1 (by rw [← e1]; exact a2.1) a3 a4 rfl rfl hd kk) k

  case aastore =>
    obtain ⟨g', t', i, g, t, st, rfl, h0, ho, hi, hm, hz, hg', k⟩ := s3r_inv hw
    refine Wi.sok_of fun hs => ?_
    have hA : isA g := isA_of (sok3 hs) hi
    have hvv : vld g' t' := sok1 hs
    obtain ⟨C, e1, hco⟩ : ∃ C : String, aY g = .object C ∧ va_O C (E.2.2.1 g' t') (AA E) s s.heap := by
      rcases tb_t3 g (isA_mem hA) h0 hm with ⟨a1, a2⟩ | ⟨a1, a2⟩
      · rw [hg', a1] at hvv ⊢
        exact ⟨_, a2, (hE.2.2.2.2.2.1 t' hvv.2.1 hvv.2.2).1⟩
      · rw [hg', a1] at hvv ⊢
        exact ⟨_, a2, (hE.2.2.2.2.2.2.1 t' hvv.2.1 hvv.2.2).1⟩
    refine Wi.ast hE (own_of hA ho) hi.1 hi.2 (a := aR g' t') (x := t') (w := .ref (E.2.2.1 g' t')) (fun h => ?_) (fun h => ?_) (fun H locs ls rest cell hC _ a1 a2 a3 a4 kk => ?_) k
    · have h : vld g' t' := h
      unfold aval
      rw [h0]
      have := h.2.1
      rw [if_neg (by omega), if_neg (by omega), hz, hg', Int.zero_add]
      rfl
    · have h : vld g' t' := h
      unfold aaok
      rw [h0]
      intro _
      rw [← hg']
      have := h.2
      omega
    · obtain ⟨kA, comp, b1, b2, b3⟩ := a2.2 (own_of hA ho) C e1
      obtain ⟨cellV, v1, v2, v3⟩ := va_Orecv hco hC.1
      obtain ⟨kE, hkE, -⟩ := Vm.findClass_spec b3
      obtain ⟨kV, hkV, -⟩ := Vm.findClass_spec v3
      have hcl : cellV.cls = comp := Option.some.inj (v3.symm.trans b3)
      have hin : ¬ Int32.ofInt i < 0 ∧ (Int32.ofInt i).toNatClampNeg < cell.slots.size := ⟨fun z => a4 (Or.inl z), Nat.not_le.mp fun z => a4 (Or.inr z)⟩
      exact W.aast hx hb a1 a2.1.1 a3 b1 b2 rfl hkE hin v1 (fun q h => by rw [h] at v2; cases v2) hkV (by rw [hcl]; exact va_asg _ _) rfl rfl hd kk

  case arraylength =>
    obtain ⟨g, t, st, rfl, h0, k⟩ := s1r_inv hw
    refine Wi.sok_of fun hs => ?_
    have hA : isA g := by
      rcases (sok1 hs : vld g t).1 with h | h | h
      · unfold isO at h; omega
      · unfold isC at h; omega
      · exact h
    exact Wi.alen hx hb hA hd k

end WT
