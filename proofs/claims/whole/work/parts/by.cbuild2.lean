/-! ===== build(): the same answer, the same state ===== -/
set_option maxHeartbeats 1000000 in
theorem c_build {n : Int} {M : AMem} (h : INV n M M) (hn : n + 4000000 < 2146000000) (x : Int) : Runs 122 [aR 1 0, aI x] M (fun r M1 => ∃ v : Int, r = some (aI v) ∧ Runs 4 [aR 11 0, aI x] M1 (fun r' M2 => r' = some (aI v) ∧ INV (n + 3200000) M2 M2)) := by
  have rl := h.1
  have tp := h.2.2.1
  have cb := rl.cB (by omega)
  have ka := rl.kA h.2.1
  by_cases q : (M 11 0 50) = 0 ∧ 0 ≤ x ∧ x ≤ (M 11 0 2)
  · obtain ⟨h0, x0, x1⟩ := q
    obtain ⟨N, rfl⟩ : ∃ N : Nat, x = (N : Int) := ⟨x.toNat, by omega⟩
    have h4 : N ≤ 4000 := by have := tp.2.1; omega
    have fX : frP M (kxm M N) := frP.tr (frP.up (g := 1) rfl) (ctk_fr (ktz M) (N : Int) _)
    have xT : kxm M N 1 0 1 = 0 := by
      have e : kxm M N 1 0 1 = ktz M 1 0 1 := ctk_o (ktz M) (N : Int) 1 0 1 (by decide) (fun e => by cases e) _
      rw [e]
      unfold ktz
      rw [mup_same]
    have yT : ∀ Y : AMem, FO (kxm M N) Y → Y 1 0 1 = 0 := fun Y fo => by
      rw [fo 1 0 1 (by decide) (by decide) (by decide) (by decide) (by decide) (by decide) (by decide) (by decide) (fun e => by cases e)]
      exact xT
    have vV : ∀ {M1 V : AMem}, BT M1 N V → (0 ≤ (V 11 0 5) ∧ (V 11 0 5) ≤ 4000) ∧ (V 11 0 19) = 0 ∧ ∀ s : Int, 0 ≤ s → s ≤ 6 → (V 14406 0 (s)) = if s = 2 then 1 else 0 := fun {M1 V} bt => by
      have f := bt.f
      exact ⟨by rw [f.2.1.2.1]; omega, f.2.1.2.2.2, f.2.2.2⟩
    have fQ0 : ∀ {M1 V Y' : AMem}, BT M1 N V → FW (scm (nfm V)) Y' → frQ M1 (tld Y') := fun {M1 V Y'} bt fw => ((((BT_fr bt).tr (nfm_fr V)).tr (sct_fr (nfm V) _)).tr (FW_fr fw)).tr (tld_fr Y')
    have tp0 : ∀ {M1 V Y' : AMem}, BT M1 N V → FW (scm (nfm V)) Y' → ((tld Y') 11 0 2) = 0 := fun {M1 V Y'} bt fw => by
      have e : ((tld Y') 11 0 2) = (Y' 11 0 2) := by unfold tld; rw [mu_ni (by decide), mu_ni (by decide)]
      rw [e, fw 11 0 2 (by decide) (by decide) (by decide) (by decide) (by decide) (fun _ => by decide), scm_o (by decide) (by decide) (by decide) (by decide) (fun _ => by decide), nfm_o (fun _ => by decide)]
      exact bt.f.2.1.2.2.1
    have tk0 : ∀ Y' : AMem, ((tld Y') 11 0 13) = (Y' 11 0 11) ∧ ((tld Y') 11 0 14) = (Y' 11 0 12) := fun Y' => by
      unfold tld
      exact ⟨by rw [mu_ni (by decide), mup_same], by rw [mup_same]⟩
    refine Runs.imp (R_K_build (M := M) (n := N) cb ka (by rw [rl.on.1]; exact h0) (by rw [tp.1]; exact x1) h4 h.2.2.2.1.2.2.1.1) ?_
    rintro r M1 ⟨_, _, hl, ⟨f, Y, rfl, df, fT, fo, eM⟩ | ⟨F, Y, c2, fo, ⟨rfl, t, k, t1, t2, t3, t4, eM⟩ | ⟨rfl, k0, Z, ef, eM⟩⟩⟩
    · have f1 : frP M M1 := by rw [eM]; exact ((fX.tr (FO_fr fo)).tr (frP.up (g := 4) rfl)).tr (frP.up (g := 4) rfl)
      have te : ∀ k : Int, (M1 8193084 0 (k)) = (M 8193084 0 (k)) := fun k => f1 _ _ _ rfl
      have m1 : (M1 1 0 1) = 0 := by rw [eM, mu_ng (by decide), mu_ng (by decide)]; exact yT Y fo
      have m2 : (M1 4 0 2) = 1 := by rw [eM, mu_ni (by decide), mup_same]
      have m3 : (M1 4 0 3) = ((kxm M N) 8194070 0 ((f : Int))) := by rw [eM, mup_same]
      refine ⟨_, rfl, Runs.imp (R_build (M := M1) (n := N) (post := fun r' M2 => r' = some (aI (-1)) ∧ INV n M2 M2) (by rw [f1 _ _ _ rfl]; exact h0) (by rw [f1 _ _ _ rfl]; exact x1) h4 (fun V x y bt => ?_)) (fun r' M2 z => ⟨z.1, z.2.mono (by omega)⟩)⟩
      obtain ⟨v1, v2, v3⟩ := vV bt
      have tk := tk_eq h4 tp x1 te bt
      refine q_55 v1 v2 v3 ?_ ?_ ?_ x y
      · intro f' Y' hl' df' fw e1 e2
        refine ⟨rfl, ?_⟩
        rw [tk.1] at df'
        have ef := dfl_u df' df
        subst ef
        refine inv_f h h0 f1 (fQ0 bt fw) m1 (tp0 bt fw) ?_ ?_
        · rw [m2, (tk0 Y').1, e1]
        · rw [m3, (tk0 Y').2, e2]
          exact (pl_eq h4 tp x1 te bt (Y0 := scm (nfm V)) (Y := Y) (fun _ _ _ _ _ _ _ _ _ => rfl) fT).symm
      · intro F Y0 Y' hl' c1 fw w1 fs fk
        rw [tk.1, tk.2] at c1
        exact (dok_fl c1.ok df).elim
      · intro F Y0 Y' y hl' c1 fw w1 fs fk
        rw [tk.1, tk.2] at c1
        exact (dok_fl c1.ok df).elim
    · have f1 : frP M M1 := by rw [eM]; exact ((((fX.tr (FO_fr fo)).tr (frP.up (g := 4) rfl)).tr (frP.up (g := 4) rfl)).tr (frP.up (g := 4) rfl)).tr (frP.up (g := 4) rfl)
      have te : ∀ k : Int, (M1 8193084 0 (k)) = (M 8193084 0 (k)) := fun k => f1 _ _ _ rfl
      have m1 : (M1 1 0 1) = 0 := by rw [eM, mu_ng (by decide), mu_ng (by decide), nfk_o (by decide)]; exact yT Y fo
      have m2 : (M1 4 0 2) = k := by rw [eM, mu_ni (by decide), mup_same]
      have m3 : (M1 4 0 3) = ((kxm M N) 8194070 0 ((t : Int))) := by
        rw [eM, mup_same, nfk_o (by decide)]
        exact fo _ _ _ (by decide) (by decide) (by decide) (by decide) (by decide) (by decide) (by decide) (by decide) (fun e => by cases e)
      refine ⟨_, rfl, Runs.imp (R_build (M := M1) (n := N) (post := fun r' M2 => r' = some (aI (-1)) ∧ INV n M2 M2) (by rw [f1 _ _ _ rfl]; exact h0) (by rw [f1 _ _ _ rfl]; exact x1) h4 (fun V x y bt => ?_)) (fun r' M2 z => ⟨z.1, z.2.mono (by omega)⟩)⟩
      obtain ⟨v1, v2, v3⟩ := vV bt
      have tk := tk_eq h4 tp x1 te bt
      have hFT := c2.FT
      refine q_55 v1 v2 v3 ?_ ?_ ?_ x y
      · intro f' Y' hl' df' fw e1 e2
        rw [tk.1] at df'
        exact (dok_fl c2.ok df').elim
      · intro F' Y0 Y' hl' c1 fw w1 fs fk
        refine ⟨rfl, ?_⟩
        rw [tk.1, tk.2] at c1
        rw [tk.1] at fs
        have eF := dok_u c1.ok c2.ok
        subst eF
        have fe := (flt_eq c1 c2 (ln_w h4 tp x1 te bt fw fo hFT) fs).2.2 t k t1 t2 t3 t4
        refine inv_f h h0 f1 (fQ0 bt (fw.tr w1)) m1 (tp0 bt (fw.tr w1)) ?_ ?_
        · rw [m2, (tk0 Y').1, fe.1]
        · rw [m3, (tk0 Y').2, fe.2]
          exact (pl_eq h4 tp x1 te bt (Y0 := Y') (Y := Y) (fw.tr w1) (by omega)).symm
      · intro F' Y0 Y' y hl' c1 fw w1 fs fk
        rw [tk.1, tk.2] at c1
        rw [tk.1] at fs
        have eF := dok_u c1.ok c2.ok
        subst eF
        have fe := (flt_eq c1 c2 (ln_w h4 tp x1 te bt fw fo hFT) fs).2.2 t k t1 t2 t3 t4
        rw [fk] at fe
        exact absurd fe.1.symm t3
    · have rf : ∀ (g : Nat) (t x : Int), rG g = true → M1 g t x = M g t x := fun g t x hg => by
        have p2 := dnS_b (ktm M N) 2 F
        have p4 := dnS_b (ktm M N) 4 F
        have p5 := dnS_b (ktm M N) 5 F
        have mx : ∀ s : Int, 0 ≤ s → s ≤ 6 → dnS (ktm M N) s F ≤ pmo s := fun s a b => dnS_l ⟨a, b⟩ (fun j hj hd => kno_c c2 k0 hj hd)
        have m2 := mx 2 (by decide) (by decide)
        have m4 := mx 4 (by decide) (by decide)
        have m5 := mx 5 (by decide) (by decide)
        have q2 : pmo 2 = 32 := rfl
        have q4 : pmo 4 = 48 := rfl
        have q5 : pmo 5 = 16 := rfl
        have cs := cs2_of c2 ef (by omega) (by omega) (by omega) (by omega)
        have fW : frP M (nfk Y) := (fX.tr (FO_fr fo)).tr ((frP.up (g := 4) rfl).tr (frP.up (g := 4) rfl))
        rw [eM, cs.fr g t x (fun e => by subst e; cases hg) (fun e => by subst e; cases hg) (fun e => by obtain ⟨e, _⟩ := e; subst e; cases hg) (fun e => by obtain ⟨e, _⟩ := e; subst e; cases hg) (fun j hj hd z => by
          rcases z with ⟨z | z, _⟩ | ⟨_, z | z, _⟩ | ⟨_, z, _⟩ | ⟨_, z, _⟩ | ⟨_, z, _⟩ | ⟨_, z, _⟩ <;> (subst z; cases hg)), fW g t x (pcC_r hg)]
      have te : ∀ k : Int, (M1 8193084 0 (k)) = (M 8193084 0 (k)) := fun k => rf _ _ _ rfl
      refine ⟨_, rfl, Runs.imp (R_build (M := M1) (n := N) (post := fun r' M2 => r' = some (aI 0) ∧ INV n M2 M2) (by rw [rf _ _ _ rfl]; exact h0) (by rw [rf _ _ _ rfl]; exact x1) h4 (fun V x y bt => ?_)) (fun r' M2 z => ⟨z.1, z.2.mono (by omega)⟩)⟩
      obtain ⟨v1, v2, v3⟩ := vV bt
      have tk := tk_eq h4 tp x1 te bt
      have hFT := c2.FT
      refine q_55 v1 v2 v3 ?_ ?_ ?_ x y
      · intro f' Y' hl' df' fw e1 e2
        rw [tk.1] at df'
        exact (dok_fl c2.ok df').elim
      · intro F' Y0 Y' hl' c1 fw w1 fs fk
        rw [tk.1, tk.2] at c1
        rw [tk.1] at fs
        have eF := dok_u c1.ok c2.ok
        subst eF
        exact absurd ((flt_eq c1 c2 (ln_w h4 tp x1 te bt fw fo hFT) fs).1 k0) fk
      · intro F' Y0 Y' y hl' c1 fw w1 fs fk
        rw [tk.1, tk.2] at c1
        rw [tk.1] at fs
        have eF := dok_u c1.ok c2.ok
        subst eF
        rw [eM] at bt
        exact b_suc h h0 x1 h4 c2 fo k0 ef bt c1 fw w1 fs fk y
  · refine Runs.imp (R_K_build0 x M cb ka (by rw [rl.on.1, tp.1]; omega)) ?_
    rintro r M1 ⟨rfl, rfl⟩
    refine ⟨_, rfl, Runs.imp (R_build0 x M1 (by omega)) ?_⟩
    rintro r' M2 ⟨rfl, rfl⟩
    exact ⟨rfl, (inv_th h).mono (by omega)⟩
