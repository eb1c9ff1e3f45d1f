/-! ===== build(): both sides ===== -/
theorem rg_eb {g : Nat} (h : rG g = false) : ebG g = false ∧ g ≠ 65612 ∧ g ≠ 65632 ∧ g ≠ 14408 ∧ g ≠ 8193095 ∧ gAll g = false := by
  refine ⟨?_, (fun e => by subst e; cases h), (fun e => by subst e; cases h), (fun e => by subst e; cases h), (fun e => by subst e; cases h), ?_⟩
  · cases e : ebG g with
    | false => rfl
    | true =>
      unfold ebG at e
      simp only [Bool.or_eq_true, beq_iff_eq] at e
      rcases e with (((((((((((e | e) | e) | e) | e) | e) | e) | e) | e) | e) | e) | e)
      all_goals (subst e; exact absurd h (by decide))
  · cases e : gAll g with
    | false => rfl
    | true =>
      have m : g ∈ ([917577, 917578] ++ gR ++ gC ++ gT ++ gI ++ gA) := List.mem_of_elem_eq_true e
      have a : ∀ x ∈ ([917577, 917578] ++ gR ++ gC ++ gT ++ gI ++ gA), rG x = true := by decide
      rw [a g m] at h
      cases h
theorem W3.told (Y : AMem) : W3 Y (tld Y) := fun g t x q => by
  unfold tld
  by_cases e : g = 11
  · rw [mu_ni (q e).2.2.2.2.2.2, mu_ni (q e).2.2.2.2.2.1]
  · rw [mu_ng e, mu_ng e]
theorem LN.w3 {M M' Y : AMem} {K : Nat → Int} {F : Nat} (h : LN M Y K F) (k : W3 M M') : LN M' Y K F := LN.mk (fun a b p q r s => by rw [k.pe.samq]; exact h.nm a b p q r s) (fun t p q => by rw [show (M' 8194113 0 ((t : Int))) = (M 8194113 0 ((t : Int))) from k _ _ _ (fun e => by cases e)]; exact h.va t p q)
theorem W3.fq {M Y : AMem} (h : W3 M Y) : frQ M Y := fun g t i d => h g t i (fun e => by
  subst e
  exact q11 d (fun z => by omega))
theorem W1.fq {M Y : AMem} (h : W1 M Y) : frQ M Y := h.w3.fq
section CBU
variable {n0 : Int} {M V Y Y0 Y1 Y2 Z : AMem} {N F : Nat}
/-- the name of a token on both sides -/
theorem nx_of {M1 : AMem} (h4 : N ≤ 4000) (tp : TPR M M) (hn : (N : Int) ≤ (M 11 0 2)) (e : ∀ k : Int, (M1 8193084 0 (k)) = (M 8193084 0 (k))) (bt : BT M1 N V) (fw : FW (scm (nfm V)) Y0) (w3 : W3 Y0 Y2) (fo : FO (kxm M N) Y) {u : Nat} (hu : u ≤ ktl M N) (k2 : ktm M N u = 2) : NX Y2 (nfk Y) N (bya (nfm V)) u := by
  obtain ⟨l, q⟩ := bytes_eq tp hn e bt
  have te := tk_eq h4 tp hn e bt
  have z := bya_n (nfm V)
  have rt := rt_of fw
  rw [te.2] at rt
  rw [l] at z rt
  have h4' : (N : Int) ≤ 4000 := by omega
  have ep := pos_c h4' z q
  have p0 := pos_0 h4' z u
  have ku : tkK (bya (nfm V)) (N : Int) (pos (bya (nfm V)) (N : Int) u) = 2 := by
    have e1 : tkz (bya (nfm V)) (N : Int) = ktm M N := tkz_c h4' z q
    have := congrFun e1 u
    rw [← k2, ← this]
    rfl
  obtain ⟨u1, u2, u3, u4, u5⟩ := name_e ku
  have lu := tkE_le (bya (nfm V)) (N : Int) (pos (bya (nfm V)) (N : Int) u) (by omega) z
  have gu := ru_up (pNm (bya (nfm V))) (pos (bya (nfm V)) (N : Int) u)
  have cu := (ct_of (M := M) (n := N) fo u hu).2.2.1
  rw [← ep u, ← q _ p0, ← ruN_c q p0, ← pkd_c q p0, ← pkd_c q (show 0 ≤ pos (bya (nfm V)) (N : Int) u + 8 by omega)] at cu
  have cu' := cu u1 u2 u3
  have r := rt u hu
  have e1 : (Y2 8194111 0 ((u : Int))) = (Y0 8194111 0 ((u : Int))) := w3 _ _ _ (fun e => by cases e)
  have e2 : (Y2 8194112 0 ((u : Int))) = (Y0 8194112 0 ((u : Int))) := w3 _ _ _ (fun e => by cases e)
  refine ⟨pos (bya (nfm V)) (N : Int) u, ru (pNm (bya (nfm V))) (pos (bya (nfm V)) (N : Int) u), ?_, by rw [e2, r.2.1, u5], ⟨p0, gu, u3, by omega⟩, cu'.1, cu'.2⟩
  rw [e1, r.1]
  unfold tkP
  rw [if_neg u1]
set_option maxHeartbeats 1000000 in
theorem b_suc (h : INV n0 M M) (h0 : (M 11 0 50) = 0) (hN : (N : Int) ≤ (M 11 0 2)) (h4 : N ≤ 4000) (c2 : C2 (nfk Y) (ktm M N) (ktl M N) F) (fo : FO (kxm M N) Y) (k0 : ∀ t : Nat, t < F → KF (nfk Y) (ktm M N) t 0) (ef : EFl (nfk Y) (ktm M N) (dnS (ktm M N) 2 F).toNat (dnS (ktm M N) 4 F).toNat (dnS (ktm M N) 5 F).toNat none Z) (bt : BT (kfn Z) N V) (c1 : C1 Y0 (ktm M N) (ktl M N) F) (fw : FW (scm (nfm V)) Y0) (w1 : W1 Y0 Y1) (fs : FS Y1 (SN Y0 (ktm M N) F noQ)) (fk : (Y1 11 0 11) = 0) (y : Option AV) : Wq 4 cd_4 (fun r' M2 => r' = some (aI 0) ∧ INV n0 M2 M2) 90 [some (aR 11 0), some (aI (N : Int)), some (aI 1), y] [] (tld Y1) := by
  have tp := h.2.2.1
  have p2 := dnS_p (K := ktm M N) 2 F
  rw [if_pos rfl] at p2
  have mx : ∀ s : Int, 0 ≤ s → s ≤ 6 → 0 ≤ dnS (ktm M N) s F ∧ dnS (ktm M N) s F ≤ pmo s := fun s a b => ⟨(dnS_b (ktm M N) s F).1, dnS_l ⟨a, b⟩ (fun j hj hd => kno_c c2 k0 hj hd)⟩
  have m2 := mx 2 (by decide) (by decide)
  have m4 := mx 4 (by decide) (by decide)
  have m5 := mx 5 (by decide) (by decide)
  have q2 : pmo 2 = 32 := rfl
  have q4 : pmo 4 = 48 := rfl
  have q5 : pmo 5 = 16 := rfl
  obtain ⟨n2, e2⟩ : ∃ x : Nat, dnS (ktm M N) 2 F = x := ⟨(dnS (ktm M N) 2 F).toNat, by omega⟩
  obtain ⟨n4, e4⟩ : ∃ x : Nat, dnS (ktm M N) 4 F = x := ⟨(dnS (ktm M N) 4 F).toNat, by omega⟩
  obtain ⟨n5, e5⟩ : ∃ x : Nat, dnS (ktm M N) 5 F = x := ⟨(dnS (ktm M N) 5 F).toNat, by omega⟩
  rw [e2, e4, e5, show ((n2 : Nat) : Int).toNat = n2 by omega, show ((n4 : Nat) : Int).toNat = n4 by omega, show ((n5 : Nat) : Int).toNat = n5 by omega] at ef
  have cs := cs2_of c2 ef e2 e4 e5 (by omega)
  have fX : frP M (kxm M N) := frP.tr (frP.up (g := 1) rfl) (ctk_fr (ktz M) (N : Int) _)
  have fW : frP M (nfk Y) := (fX.tr (FO_fr fo)).tr ((frP.up (g := 4) rfl).tr (frP.up (g := 4) rfl))
  have rM : ∀ (g : Nat) (t x : Int), rG g = true → kfn Z g t x = M g t x := fun g t x hg => by
    rw [cs.fr g t x (fun e => by subst e; cases hg) (fun e => by subst e; cases hg) (fun e => by obtain ⟨e, _⟩ := e; subst e; cases hg) (fun e => by obtain ⟨e, _⟩ := e; subst e; cases hg) (fun j hj hd z => by
      rcases z with ⟨z | z, _⟩ | ⟨_, z | z, _⟩ | ⟨_, z, _⟩ | ⟨_, z, _⟩ | ⟨_, z, _⟩ | ⟨_, z, _⟩ <;> (subst z; cases hg)), fW g t x (pcC_r hg)]
  have te : ∀ k : Int, ((kfn Z) 8193084 0 (k)) = (M 8193084 0 (k)) := fun k => rM _ _ _ rfl
  obtain ⟨Y2, hY2⟩ : ∃ X, (mup (mup (tld Y1) 11 0 21 (2)) 11 0 22 (0)) = X := ⟨_, rfl⟩
  have w3 : W3 Y0 Y2 := by rw [← hY2]; exact ((w1.w3).tr (W3.told Y1)).tr (W3.wn _ 2 0)
  have c1' := c1.w3 w3
  have hFT := c2.FT
  have ln0 := ln_w (F := F) h4 tp hN te bt fw fo hFT
  have ln := ln0.w3 w3
  have fe := flt_eq c1 c2 ln0 fs
  have nf := nf_w3 (fe.2.1 fk).1 w3
  have itx : ∀ x : Nat, x < F → dit (ktm M N) x → ∃ f : Nat, IT Y2 (nfk Y) (ktm M N) (ktl M N) F x f := fun x hx hd => by
    obtain ⟨l, k2⟩ := dit_2 c1.ok hd hx
    obtain ⟨f, dx, hf⟩ := dxt_ex c1.ok F (x + 2) (by omega) (by omega)
    exact ⟨f, IT.mk c1' c2 ln nf k0 hd l k2 dx hf⟩
  refine q_90 (T := ktl M N) (F := F) (K := ktm M N) (m := n2) (n4 := n4) (n5 := n5) h4 (by rw [hY2]; exact c1') (by rw [hY2]; exact nf) y (fun U j2 => ?_)
  rw [hY2] at j2
  have tU : ∀ s : Int, 0 ≤ s → s ≤ 6 → (U 14406 0 (s)) = dnS (ktm M N) s F := fun s a b => by
    rw [j2.fg 14406 0 s rfl (fun e => by cases e)]
    exact c1'.ga.to s a b
  refine q_u (m := n2) (n4 := n4) (n5 := n5) h4 (by omega) (by omega) (by omega) (by rw [tU 2 (by decide) (by decide)]; exact e2) (by rw [tU 4 (by decide) (by decide)]; exact e4) (by rw [tU 5 (by decide) (by decide)]; exact e5) (fun r r1 r2 => ?_) (fun M2 eb => ?_)
  · obtain ⟨j, j1, j2', j3, j4⟩ := dnS_o (K := ktm M N) 2 F r (by rw [if_pos rfl]; exact r1) (by omega)
    obtain ⟨f, it⟩ := itx j j1 j2'
    have ek : kno (ktm M N) j = r := by unfold kno; rw [show ktm M N j - 10 = 2 by omega]; exact j4
    have s := ((j2.sp j f j1 j2' it.dx it.hf).2.1 (by omega)).2
    have w := (w_res it (by omega)).2.2
    rw [ek] at s
    rw [s]
    by_cases z : ktm M N (j + 2) = 18
    · rw [if_pos z]
      right
      obtain ⟨w1', w2', w3', _⟩ := w z
      obtain ⟨x, _, x2, x3, _, _, _, x7, x8, x9⟩ := num_in c1' c2 ln w1' w2' (by decide) w3'
      have p := dnS_p (K := ktm M N) (ktm M N x - 10) x
      rw [show ktm M N x - 10 = 2 by omega, if_pos rfl] at p
      have ek : kno (ktm M N) x = dnS (ktm M N) 2 x := by unfold kno; rw [show ktm M N x - 10 = 2 by omega]
      rw [x7]
      omega
    · rw [if_neg z]; exact Or.inl rfl
  refine ⟨rfl, ?_⟩
  have eg : ∃ G : AMem, M2 = gof G := by
    obtain ⟨_, _, _, _, W', _, _, _, _, _, rfl⟩ := eb
    exact ⟨_, rfl⟩
  obtain ⟨G, eg⟩ := eg
  have rs := rs2_of c1' nf j2 eb h4 (by omega) e2
  have nf2 : ∀ (g : Nat) (t : Int), g = 65582 ∨ g = 65837 → ∀ j : Nat, j < F → dit (ktm M N) j → ¬ fcl (ktm M N j - 10) (kno (ktm M N) j) g t 0 := fun g t hg j hj hd z => by
    have p := dnS_p (K := ktm M N) (ktm M N j - 10) j
    have p : (if ktm M N j - 10 = 2 then 1 else 0) ≤ kno (ktm M N) j := p
    rcases z with ⟨z, _⟩ | ⟨z1, _, _, z2⟩ | ⟨_, z, _⟩ | ⟨_, z, _⟩ | ⟨_, z, _⟩ | ⟨_, z, _⟩
    · omega
    · rw [if_pos z1] at p; omega
    · omega
    · omega
    · omega
    · omega
  have nf3 : ∀ (g : Nat), g = 98852 ∨ g = 98854 → ∀ j : Nat, j < F → dit (ktm M N) j → ¬ fcl (ktm M N j - 10) (kno (ktm M N) j) g 2 0 := fun g hg j hj hd z => by
    have p := dnS_p (K := ktm M N) (ktm M N j - 10) j
    have p : (if ktm M N j - 10 = 2 then 1 else 0) ≤ kno (ktm M N) j := p
    rcases z with ⟨_, z1, z2⟩ | ⟨_, z, _⟩ | ⟨_, z, _⟩ | ⟨_, z, _⟩ | ⟨_, z, _⟩ | ⟨_, z, _⟩
    · rw [if_pos z1.symm] at p; omega
    · omega
    · omega
    · omega
    · omega
    · omega
  have fx := h.2.2.2.1.2.2.1
  have a0 : ((kfn Z) 65582 0 (0)) = -1 ∧ ((kfn Z) 65837 0 (0)) = 0 := ⟨by rw [cs.fr _ _ _ (by decide) (by decide) (by omega) (by omega) (nf2 _ _ (Or.inl rfl)), fW _ _ _ rfl]; exact fx.1, by rw [cs.fr _ _ _ (by decide) (by decide) (by omega) (by omega) (nf2 _ _ (Or.inr rfl)), fW _ _ _ rfl]; exact fx.2.1⟩
  have z1 : ((kfn Z) 98852 2 (0)) = 0 ∧ ((kfn Z) 98854 2 (0)) = 0 := ⟨by rw [cs.fr _ _ _ (by decide) (by decide) (by omega) (by omega) (nf3 _ (Or.inl rfl)), fW _ _ _ rfl]; exact fx.2.2.1, by rw [cs.fr _ _ _ (by decide) (by decide) (by omega) (by omega) (nf3 _ (Or.inr rfl)), fW _ _ _ rfl]; exact fx.2.2.2⟩
  have pp : PP Y2 (nfk Y) (kfn Z) M2 (ktm M N) (ktl M N) F N n2 n4 n5 := PP.mk c1' c2 ln nf k0 rs cs ⟨e2, by omega, by omega⟩ ⟨e4, by omega⟩ ⟨e5, by omega⟩ a0
  have fV : frQ (kfn Z) Y0 := (((BT_fr bt).tr (nfm_fr V)).tr (sct_fr (nfm V) _)).tr (FW_fr fw)
  have fQ : frQ (kfn Z) Y2 := fV.tr w3.fq
  have fqY : ∀ (g : Nat) (t x : Int), rG g = true → pcR g x = false → Y2 g t x = M g t x := fun g t x a b => by rw [fQ g t x b, rM g t x a]
  have oo := off_of h.1 h0
  have kz : ((kfn Z) 6 0 9) = 0 ∧ ((kfn Z) 6 0 10) = 0 ∧ ((kfn Z) 6 0 11) = 0 := by
    unfold kfn
    exact ⟨by rw [mu_ni (by decide), mu_ni (by decide), mup_same], by rw [mu_ni (by decide), mup_same], by rw [mup_same]⟩
  have f11 : ∀ x : Int, x ≠ 21 ∧ x ≠ 22 ∧ x ≠ 48 ∧ x ≠ 11 ∧ x ≠ 12 → Y2 11 0 x = tld Y1 11 0 x := fun x hx => by
    rw [← hY2, mu_ni hx.2.1, mu_ni hx.1]
  have mo2 : (M2 11 0 51) = -1 := by rw [eg, gof_11]; unfold gf0; rw [mu_ni (by decide), mu_ni (by decide), mup_same]
  have on1 : ((kfn Z) 6 0 2) = 0 := (pp.oc fW oo.1 kz.2).oo
  have rl : RL n0 (kfn Z) M2 := by
    refine off_rl (pp.pl h.1.pl fW) (pp.oc fW oo.1 kz.2) (pp.or fqY oo.2 eg) ?_ ?_ ?_ pp.co (pp.ko fqY h.1.ko)
    · rw [pp.dc fW rfl (by omega) (by omega), h.1.on.2, mo2]
      exact h.2.2.2.1.2.2.2 h0
    · rw [kz.1, rs.no]
      have := h.1.no
      exact ⟨rfl, by omega, by omega⟩
    · intro i a b
      rw [pp.dc fW rfl (by omega) (by omega), rs.fg _ _ _ rfl (by decide) (by decide) (by decide) (by decide) rfl, fqY _ _ _ rfl rfl]
      exact h.1.na i a b
  have xt : ∀ k : Int, 0 ≤ k → k < N → iAnd (Y2 8193085 0 (k)) 255 = bya (nfm V) k := fun k a b => by
    rw [show (Y2 8193085 0 (k)) = (Y0 8193085 0 (k)) from w3 _ _ _ (fun e => by cases e)]
    exact (xt_of bt fw k a b).1
  have nmr : NMR (kfn Z) M2 := by
    refine pp.nm h4 xt (fun j hj hd => ?_) z1 ?_
    · obtain ⟨l, k2⟩ := dit_2 c1.ok hd hj
      exact nx_of h4 tp hN te bt fw w3 fo (by omega) k2
    · rw [fqY _ _ _ rfl rfl]
      have q := (h.2.2.2.2 2 0 ⟨by omega, by omega, by rw [if_pos rfl]; have := mrs_b h.1.mB; omega⟩).1
      have q1 : 0 ≤ (M 917577 0 (128)) := q.1
      have q2 : 0 ≤ (M 917578 0 (128)) := q.2.1
      have q3 : (M 917577 0 (128)) + (M 917578 0 (128)) ≤ 4000 := q.2.2.2
      omega
  have t1 : ((kfn Z) 1 0 1) = 0 := by
    rw [cs.fr 1 0 1 (by decide) (by decide) (by omega) (by omega) (fun j hj hd z => by
      rcases z with ⟨z, _⟩ | ⟨_, z, _⟩ | ⟨_, z, _⟩ | ⟨_, z, _⟩ | ⟨_, z, _⟩ | ⟨_, z, _⟩ <;> omega), nfk_o (by decide), fo 1 0 1 (by decide) (by decide) (by decide) (by decide) (by decide) (by decide) (by decide) (by decide) (fun e => by cases e)]
    have e : kxm M N 1 0 1 = ktz M 1 0 1 := ctk_o (ktz M) (N : Int) 1 0 1 (by decide) (fun e => by cases e) _
    rw [e]
    unfold ktz
    rw [mup_same]
  have t2 : (M2 11 0 2) = 0 := by
    rw [rs.fl 2 (by decide) (by decide) (by decide) (by decide) (by decide) (by decide), w3 11 0 2 (fun _ => by decide), fw 11 0 2 (by decide) (by decide) (by decide) (by decide) (by decide) (fun _ => by decide), scm_o (by decide) (by decide) (by decide) (by decide) (fun _ => by decide), nfm_o (fun _ => by decide)]
    exact bt.f.2.1.2.2.1
  refine inv_m (M1 := kfn Z) (fun g t x hg => ?_) ⟨rl, Std.off (Or.inl on1), ⟨?_, ?_, ?_⟩, ⟨?_, ?_, ⟨a0.1, a0.2, z1⟩, fun _ => mo2⟩, nmr⟩
  · obtain ⟨r1, r2, r3, r4, r5, r6⟩ := rg_eb hg
    rw [rs.fg g t x r1 r2 r3 r4 r5 r6, fQ g t x (pcR_c hg)]
  · rw [t1, t2]
  · rw [t2]; omega
  · intro i i0 i1
    rw [t2] at i1
    omega
  · rw [cs.fr 4 0 2 (by decide) (by decide) (by omega) (by omega) (fun j hj hd z => by
      rcases z with ⟨z, _⟩ | ⟨_, z, _⟩ | ⟨_, z, _⟩ | ⟨_, z, _⟩ | ⟨_, z, _⟩ | ⟨_, z, _⟩ <;> omega), rs.fl 13 (by decide) (by decide) (by decide) (by decide) (by decide) (by decide), f11 13 (by decide)]
    unfold tld nfk
    rw [mu_ni (by decide), mup_same, mu_ni (by decide), mup_same, fk]
  · rw [cs.fr 4 0 3 (by decide) (by decide) (by omega) (by omega) (fun j hj hd z => by
      rcases z with ⟨z, _⟩ | ⟨_, z, _⟩ | ⟨_, z, _⟩ | ⟨_, z, _⟩ | ⟨_, z, _⟩ | ⟨_, z, _⟩ <;> omega), rs.fl 14 (by decide) (by decide) (by decide) (by decide) (by decide) (by decide), f11 14 (by decide)]
    unfold tld nfk
    rw [mup_same, mup_same, (fe.2.1 fk).2]
end CBU
