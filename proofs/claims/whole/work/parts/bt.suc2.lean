/-! ===== build(): what the class's plan is in the end ===== -/
def CS2 (W M1 : AMem) (K : Nat → Int) (F n2 n4 n5 : Nat) : Prop := (∀ s : Int, 0 ≤ s → s ≤ 6 → (M1 14370 0 (s)) = dnS K s F) ∧ (∀ j : Nat, j < F → dit K j → (M1 98852 (K j - 10) ((kno K j))) = (W 8194584 0 (((j + 1 : Nat) : Int))) ∧ (M1 98854 (K j - 10) ((kno K j))) = (W 8194585 0 (((j + 1 : Nat) : Int)))) ∧ (∀ j : Nat, j < F → dit K j → K j = 13 → (M1 9 ((kno K j)) 0) = cvl W K (dnI K j : Int) 13 1 ∧ (M1 9 ((kno K j)) 1) = cvl W K (dnI K j : Int) 14 1 ∧ (M1 9 ((kno K j)) 2) = cvl W K (dnI K j : Int) 15 1 ∧ (M1 9 ((kno K j)) 3) = 0 ∧ (M1 9 ((kno K j)) 4) = 0) ∧ (∀ j : Nat, j < F → dit K j → K j = 14 → (M1 8 ((kno K j)) 0) = cvl W K (dnI K j : Int) 11 0 ∧ (((M1 8 ((kno K j)) 1) = 1 ∨ (M1 8 ((kno K j)) 1) = 0) ∧ ((M1 8 ((kno K j)) 1) = 1 ↔ csy W K (dnI K j : Int) 32)) ∧ (M1 8 ((kno K j)) 2) = cvl W K (dnI K j : Int) 12 1 ∧ (M1 8 ((kno K j)) 3) = cbt W K (dnI K j : Int) 9 ∧ (M1 8 ((kno K j)) 4) = cbt W K (dnI K j : Int) 10 ∧ (M1 8 ((kno K j)) 5) = cbt W K (dnI K j : Int) 4) ∧ (∀ j : Nat, j < F → dit K j → K j = 14 → ((M1 8 ((kno K j)) 6) = -1 ∧ ∀ r : Int, 0 ≤ r → r < n2 → ¬ uir M1 (kno K j) r) ∨ ((0 ≤ (M1 8 ((kno K j)) 6) ∧ (M1 8 ((kno K j)) 6) < n2) ∧ uir M1 (kno K j) (M1 8 ((kno K j)) 6))) ∧ (∀ j : Nat, j < F → dit K j → K j = 15 → (M1 8 ((48 + kno K j)) 0) = 63 + cvl W K (dnI K j : Int) 16 1 ∧ (M1 8 ((48 + kno K j)) 5) = cbt W K (dnI K j : Int) 4) ∧ (∀ j : Nat, j < F → dit K j → K j = 16 → (M1 10 ((kno K j)) 0) = cno W K (dnI K j : Int) 5 ∧ (M1 10 ((kno K j)) 2) = cno W K (dnI K j : Int) 8 ∧ (M1 10 ((kno K j)) 1) = (if cno W K (dnI K j : Int) 8 = -1 then cno W K (dnI K j : Int) 6 else cno W K (dnI K j : Int) 7) ∧ (M1 10 ((kno K j)) 3) = cbt W K (dnI K j : Int) 10 ∧ (M1 10 ((kno K j)) 4) = cvl W K (dnI K j : Int) 17 0 ∧ (M1 10 ((kno K j)) 5) = cvl W K (dnI K j : Int) 18 0) ∧ (∀ j : Nat, j < F → dit K j → K j = 12 → (((M1 65837 0 ((kno K j))) = 1 ∨ (M1 65837 0 ((kno K j))) = 0) ∧ ((M1 65837 0 ((kno K j))) = 1 ↔ csy W K (dnI K j : Int) 17)) ∧ (M1 65582 0 ((kno K j))) = cno W K (dnI K j : Int) 3) ∧ (∀ r : Int, 0 ≤ r → r < n2 → LG M1 r (M1 65580 0 (r))) ∧ (∀ x : Int, 0 ≤ x → x < n2 → (M1 65579 0 (x)) = cti5 M1 n2 n4 x n5) ∧ (∀ (g : Nat) (t x : Int), g ≠ 14370 → g ≠ 65580 → ¬ (g = 65579 ∧ t = 0 ∧ 0 ≤ x ∧ x < n2) → ¬ (g = 6 ∧ 9 ≤ x ∧ x ≤ 11) → (∀ j : Nat, j < F → dit K j → ¬ fcl (K j - 10) (kno K j) g t x) → M1 g t x = W g t x)
theorem CS2.tl {W M1 : AMem} {K : Nat → Int} {F n2 n4 n5 : Nat} (h : CS2 W M1 K F n2 n4 n5) : ∀ s : Int, 0 ≤ s → s ≤ 6 → (M1 14370 0 (s)) = dnS K s F := h.1
theorem CS2.nm {W M1 : AMem} {K : Nat → Int} {F n2 n4 n5 : Nat} (h : CS2 W M1 K F n2 n4 n5) : ∀ j : Nat, j < F → dit K j → (M1 98852 (K j - 10) ((kno K j))) = (W 8194584 0 (((j + 1 : Nat) : Int))) ∧ (M1 98854 (K j - 10) ((kno K j))) = (W 8194585 0 (((j + 1 : Nat) : Int))) := h.2.1
theorem CS2.ct {W M1 : AMem} {K : Nat → Int} {F n2 n4 n5 : Nat} (h : CS2 W M1 K F n2 n4 n5) : ∀ j : Nat, j < F → dit K j → K j = 13 → (M1 9 ((kno K j)) 0) = cvl W K (dnI K j : Int) 13 1 ∧ (M1 9 ((kno K j)) 1) = cvl W K (dnI K j : Int) 14 1 ∧ (M1 9 ((kno K j)) 2) = cvl W K (dnI K j : Int) 15 1 ∧ (M1 9 ((kno K j)) 3) = 0 ∧ (M1 9 ((kno K j)) 4) = 0 := h.2.2.1
theorem CS2.tk {W M1 : AMem} {K : Nat → Int} {F n2 n4 n5 : Nat} (h : CS2 W M1 K F n2 n4 n5) : ∀ j : Nat, j < F → dit K j → K j = 14 → (M1 8 ((kno K j)) 0) = cvl W K (dnI K j : Int) 11 0 ∧ (((M1 8 ((kno K j)) 1) = 1 ∨ (M1 8 ((kno K j)) 1) = 0) ∧ ((M1 8 ((kno K j)) 1) = 1 ↔ csy W K (dnI K j : Int) 32)) ∧ (M1 8 ((kno K j)) 2) = cvl W K (dnI K j : Int) 12 1 ∧ (M1 8 ((kno K j)) 3) = cbt W K (dnI K j : Int) 9 ∧ (M1 8 ((kno K j)) 4) = cbt W K (dnI K j : Int) 10 ∧ (M1 8 ((kno K j)) 5) = cbt W K (dnI K j : Int) 4 := h.2.2.2.1
theorem CS2.ti {W M1 : AMem} {K : Nat → Int} {F n2 n4 n5 : Nat} (h : CS2 W M1 K F n2 n4 n5) : ∀ j : Nat, j < F → dit K j → K j = 14 → ((M1 8 ((kno K j)) 6) = -1 ∧ ∀ r : Int, 0 ≤ r → r < n2 → ¬ uir M1 (kno K j) r) ∨ ((0 ≤ (M1 8 ((kno K j)) 6) ∧ (M1 8 ((kno K j)) 6) < n2) ∧ uir M1 (kno K j) (M1 8 ((kno K j)) 6)) := h.2.2.2.2.1
theorem CS2.si {W M1 : AMem} {K : Nat → Int} {F n2 n4 n5 : Nat} (h : CS2 W M1 K F n2 n4 n5) : ∀ j : Nat, j < F → dit K j → K j = 15 → (M1 8 ((48 + kno K j)) 0) = 63 + cvl W K (dnI K j : Int) 16 1 ∧ (M1 8 ((48 + kno K j)) 5) = cbt W K (dnI K j : Int) 4 := h.2.2.2.2.2.1
theorem CS2.al {W M1 : AMem} {K : Nat → Int} {F n2 n4 n5 : Nat} (h : CS2 W M1 K F n2 n4 n5) : ∀ j : Nat, j < F → dit K j → K j = 16 → (M1 10 ((kno K j)) 0) = cno W K (dnI K j : Int) 5 ∧ (M1 10 ((kno K j)) 2) = cno W K (dnI K j : Int) 8 ∧ (M1 10 ((kno K j)) 1) = (if cno W K (dnI K j : Int) 8 = -1 then cno W K (dnI K j : Int) 6 else cno W K (dnI K j : Int) 7) ∧ (M1 10 ((kno K j)) 3) = cbt W K (dnI K j : Int) 10 ∧ (M1 10 ((kno K j)) 4) = cvl W K (dnI K j : Int) 17 0 ∧ (M1 10 ((kno K j)) 5) = cvl W K (dnI K j : Int) 18 0 := h.2.2.2.2.2.2.1
theorem CS2.re {W M1 : AMem} {K : Nat → Int} {F n2 n4 n5 : Nat} (h : CS2 W M1 K F n2 n4 n5) : ∀ j : Nat, j < F → dit K j → K j = 12 → (((M1 65837 0 ((kno K j))) = 1 ∨ (M1 65837 0 ((kno K j))) = 0) ∧ ((M1 65837 0 ((kno K j))) = 1 ↔ csy W K (dnI K j : Int) 17)) ∧ (M1 65582 0 ((kno K j))) = cno W K (dnI K j : Int) 3 := h.2.2.2.2.2.2.2.1
theorem CS2.lg {W M1 : AMem} {K : Nat → Int} {F n2 n4 n5 : Nat} (h : CS2 W M1 K F n2 n4 n5) : ∀ r : Int, 0 ≤ r → r < n2 → LG M1 r (M1 65580 0 (r)) := h.2.2.2.2.2.2.2.2.1
theorem CS2.ce {W M1 : AMem} {K : Nat → Int} {F n2 n4 n5 : Nat} (h : CS2 W M1 K F n2 n4 n5) : ∀ x : Int, 0 ≤ x → x < n2 → (M1 65579 0 (x)) = cti5 M1 n2 n4 x n5 := h.2.2.2.2.2.2.2.2.2.1
theorem CS2.fr {W M1 : AMem} {K : Nat → Int} {F n2 n4 n5 : Nat} (h : CS2 W M1 K F n2 n4 n5) : ∀ (g : Nat) (t x : Int), g ≠ 14370 → g ≠ 65580 → ¬ (g = 65579 ∧ t = 0 ∧ 0 ≤ x ∧ x < n2) → ¬ (g = 6 ∧ 9 ≤ x ∧ x ≤ 11) → (∀ j : Nat, j < F → dit K j → ¬ fcl (K j - 10) (kno K j) g t x) → M1 g t x = W g t x := h.2.2.2.2.2.2.2.2.2.2
theorem CS2.mk {W M1 : AMem} {K : Nat → Int} {F n2 n4 n5 : Nat} (tl : ∀ s : Int, 0 ≤ s → s ≤ 6 → (M1 14370 0 (s)) = dnS K s F) (nm : ∀ j : Nat, j < F → dit K j → (M1 98852 (K j - 10) ((kno K j))) = (W 8194584 0 (((j + 1 : Nat) : Int))) ∧ (M1 98854 (K j - 10) ((kno K j))) = (W 8194585 0 (((j + 1 : Nat) : Int)))) (ct : ∀ j : Nat, j < F → dit K j → K j = 13 → (M1 9 ((kno K j)) 0) = cvl W K (dnI K j : Int) 13 1 ∧ (M1 9 ((kno K j)) 1) = cvl W K (dnI K j : Int) 14 1 ∧ (M1 9 ((kno K j)) 2) = cvl W K (dnI K j : Int) 15 1 ∧ (M1 9 ((kno K j)) 3) = 0 ∧ (M1 9 ((kno K j)) 4) = 0) (tk : ∀ j : Nat, j < F → dit K j → K j = 14 → (M1 8 ((kno K j)) 0) = cvl W K (dnI K j : Int) 11 0 ∧ (((M1 8 ((kno K j)) 1) = 1 ∨ (M1 8 ((kno K j)) 1) = 0) ∧ ((M1 8 ((kno K j)) 1) = 1 ↔ csy W K (dnI K j : Int) 32)) ∧ (M1 8 ((kno K j)) 2) = cvl W K (dnI K j : Int) 12 1 ∧ (M1 8 ((kno K j)) 3) = cbt W K (dnI K j : Int) 9 ∧ (M1 8 ((kno K j)) 4) = cbt W K (dnI K j : Int) 10 ∧ (M1 8 ((kno K j)) 5) = cbt W K (dnI K j : Int) 4) (ti : ∀ j : Nat, j < F → dit K j → K j = 14 → ((M1 8 ((kno K j)) 6) = -1 ∧ ∀ r : Int, 0 ≤ r → r < n2 → ¬ uir M1 (kno K j) r) ∨ ((0 ≤ (M1 8 ((kno K j)) 6) ∧ (M1 8 ((kno K j)) 6) < n2) ∧ uir M1 (kno K j) (M1 8 ((kno K j)) 6))) (si : ∀ j : Nat, j < F → dit K j → K j = 15 → (M1 8 ((48 + kno K j)) 0) = 63 + cvl W K (dnI K j : Int) 16 1 ∧ (M1 8 ((48 + kno K j)) 5) = cbt W K (dnI K j : Int) 4) (al : ∀ j : Nat, j < F → dit K j → K j = 16 → (M1 10 ((kno K j)) 0) = cno W K (dnI K j : Int) 5 ∧ (M1 10 ((kno K j)) 2) = cno W K (dnI K j : Int) 8 ∧ (M1 10 ((kno K j)) 1) = (if cno W K (dnI K j : Int) 8 = -1 then cno W K (dnI K j : Int) 6 else cno W K (dnI K j : Int) 7) ∧ (M1 10 ((kno K j)) 3) = cbt W K (dnI K j : Int) 10 ∧ (M1 10 ((kno K j)) 4) = cvl W K (dnI K j : Int) 17 0 ∧ (M1 10 ((kno K j)) 5) = cvl W K (dnI K j : Int) 18 0) (re : ∀ j : Nat, j < F → dit K j → K j = 12 → (((M1 65837 0 ((kno K j))) = 1 ∨ (M1 65837 0 ((kno K j))) = 0) ∧ ((M1 65837 0 ((kno K j))) = 1 ↔ csy W K (dnI K j : Int) 17)) ∧ (M1 65582 0 ((kno K j))) = cno W K (dnI K j : Int) 3) (lg : ∀ r : Int, 0 ≤ r → r < n2 → LG M1 r (M1 65580 0 (r))) (ce : ∀ x : Int, 0 ≤ x → x < n2 → (M1 65579 0 (x)) = cti5 M1 n2 n4 x n5) (fr : ∀ (g : Nat) (t x : Int), g ≠ 14370 → g ≠ 65580 → ¬ (g = 65579 ∧ t = 0 ∧ 0 ≤ x ∧ x < n2) → ¬ (g = 6 ∧ 9 ≤ x ∧ x ≤ 11) → (∀ j : Nat, j < F → dit K j → ¬ fcl (K j - 10) (kno K j) g t x) → M1 g t x = W g t x) : CS2 W M1 K F n2 n4 n5 := ⟨tl, nm, ct, tk, ti, si, al, re, lg, ce, fr⟩
section SUC2
variable {W M1 Zf : AMem} {K : Nat → Int} {T F n2 n4 n5 : Nat}
theorem cvn_o {Z V : AMem} (h1 : ∀ w : Int, (V 8 (w) 5) = (Z 8 (w) 5)) (h2 : ∀ w : Int, (V 8 (w) 0) = (Z 8 (w) 0)) (h3 : ∀ x : Int, (V 65580 0 (x)) = (Z 65580 0 (x))) (w r c : Int) : ∀ n : Nat, cvn V w r c n = cvn Z w r c n
  | 0 => rfl
  | n + 1 => by
    unfold cvn
    rw [cvn_o h1 h2 h3 w r c n, h1, h2, h3, h3]
theorem ctk4_o {Z V : AMem} (h1 : ∀ w : Int, (V 8 (w) 5) = (Z 8 (w) 5)) (h2 : ∀ w : Int, (V 8 (w) 0) = (Z 8 (w) 0)) (h3 : ∀ x : Int, (V 65580 0 (x)) = (Z 65580 0 (x))) (m : Nat) (r : Int) : ∀ n : Nat, ctk4 V m r n = ctk4 Z m r n
  | 0 => rfl
  | n + 1 => by
    unfold ctk4
    rw [ctk4_o h1 h2 h3 m r n, cvn_o h1 h2 h3, h2]
theorem cti5_o {Z V : AMem} (h1 : ∀ w : Int, (V 8 (w) 5) = (Z 8 (w) 5)) (h2 : ∀ w : Int, (V 8 (w) 0) = (Z 8 (w) 0)) (h3 : ∀ x : Int, (V 65580 0 (x)) = (Z 65580 0 (x))) (m m4 : Nat) (r : Int) : ∀ n : Nat, cti5 V m m4 r n = cti5 Z m m4 r n
  | 0 => ctk4_o h1 h2 h3 m r m4
  | n + 1 => by
    unfold cti5
    rw [cti5_o h1 h2 h3 m m4 r n, cvn_o h1 h2 h3]
theorem kfn_o {Z : AMem} {g : Nat} {t x : Int} (h : ¬ (g = 6 ∧ 9 ≤ x ∧ x ≤ 11)) : kfn Z g t x = Z g t x := by
  unfold kfn
  rw [mu_o (fun z => h ⟨z.1, by omega, by omega⟩), mu_o (fun z => h ⟨z.1, by omega, by omega⟩), mu_o (fun z => h ⟨z.1, by omega, by omega⟩)]
theorem cs2_of (hc : C2 W K T F) (ef : EFl W K n2 n4 n5 none Zf) (e2 : dnS K 2 F = n2) (e4 : dnS K 4 F = n4) (e5 : dnS K 5 F = n5) (hb : n2 ≤ 32 ∧ n4 ≤ 48 ∧ n5 ≤ 16) : CS2 W (kfn Zf) K F n2 n4 n5 := by
  obtain ⟨Z1, Z, Wg, Wi, _, tl, l2, gf, fi, cg⟩ := ef
  have it := hc.gc.it
  have toI : ∀ {g : Nat} (t x : Int), ¬ (g = 6 ∧ 9 ≤ x ∧ x ≤ 11) → ¬ (g = 65579 ∧ t = 0 ∧ 0 ≤ x ∧ x < n2) → kfn Zf g t x = Wi g t x := fun {g} t x a b => by rw [kfn_o a, cg.1 g t x b]
  have toZ : ∀ {g : Nat} (t x : Int), ¬ (g = 6 ∧ 9 ≤ x ∧ x ≤ 11) → ¬ (g = 65579 ∧ t = 0 ∧ 0 ≤ x ∧ x < n2) → ¬ (g = 8 ∧ x = 6 ∧ 0 ≤ t ∧ t < n4) → g ≠ 65580 → kfn Zf g t x = Z g t x := fun {g} t x a b c d => by rw [toI t x a b, fi.1 g t x c, gf.1 g t x d]
  have im : ∀ j : Nat, j < F → dit K j → (dnI K j : Int) < (W 3 0 9) := fun j hj hd => by
    have := dnI_s hd hj
    omega
  have so : ∀ j : Nat, j < F → dit K j → sY W (dnI K j) = K j - 10 := fun j hj hd => hc.gc.so j hj hd
  have nu : ∀ j : Nat, j < F → dit K j → kY W (dnI K j) = kno K j := fun j hj hd => hc.gc.nu j hj hd
  have sp : ∀ j : Nat, j < F → dit K j → ∃ b : Int, BC W K (dnI K j : Int) (K j - 10) b ∧ ∀ (g : Nat) (t x : Int), fcl (K j - 10) (kno K j) g t x → Z g t x = fth W K (dnI K j : Int) (K j - 10) (kno K j) b Z1 g t x := fun j hj hd => by
    obtain ⟨b, b1, b2⟩ := l2.sp (dnI K j) (by have := im j hj hd; omega)
    rw [so j hj hd, nu j hj hd] at b2
    rw [so j hj hd] at b1
    exact ⟨b, b1, b2⟩
  have na : ∀ j : Nat, j < F → dit K j → (W 1366047 0 ((dnI K j : Int))) = ((j + 1 : Nat) : Int) := fun j hj hd => by rw [hc.gc.na j hj hd]; omega
  refine CS2.mk ?_ ?_ ?_ ?_ ?_ ?_ ?_ ?_ ?_ ?_ ?_
  · intro s a b
    rw [toZ _ _ (by omega) (by omega) (by omega) (by decide), l2.fr _ _ _ (fun m hm z => (fcl_g z).2 rfl), tl.2 s a (by omega)]
    exact hc.gc.to s a b
  · intro j hj hd
    obtain ⟨b, b1, b2⟩ := sp j hj hd
    have l := hd.2.2
    rw [toZ _ _ (by omega) (by omega) (by omega) (by decide), toZ _ _ (by omega) (by omega) (by omega) (by decide), b2 98852 _ _ (Or.inl ⟨Or.inl rfl, rfl, rfl⟩), b2 98854 _ _ (Or.inl ⟨Or.inr rfl, rfl, rfl⟩), ← na j hj hd]
    have e : ∀ V : AMem, V = nfl W (dnI K j : Int) (K j - 10) (kno K j) Z1 → (V 98852 (K j - 10) (kno K j) = (W 8194584 0 ((W 1366047 0 ((dnI K j : Int))))) ∧ V 98854 (K j - 10) (kno K j) = (W 8194585 0 ((W 1366047 0 ((dnI K j : Int)))))) := fun V h => by
      rw [h]
      unfold nfl
      exact ⟨by rw [mu_ng (by decide), mup_same], by rw [mup_same]⟩
    have q := e _ rfl
    unfold fth
    obtain z | z | z | z | z | z : K j - 10 = 2 ∨ K j - 10 = 3 ∨ K j - 10 = 4 ∨ K j - 10 = 5 ∨ K j - 10 = 6 ∨ (K j - 10 = 0 ∨ K j - 10 = 1) := by omega
    · rw [if_pos z, mu_ng (by decide), mu_ng (by decide), mu_ng (by decide), mu_ng (by decide)]; exact q
    · rw [if_neg (by omega), if_pos z]
      unfold cfl czr
      simp only [mu_ng (show (98852 : Nat) ≠ 9 by decide), mu_ng (show (98854 : Nat) ≠ 9 by decide)]
      exact q
    · rw [if_neg (by omega), if_neg (by omega), if_pos z]
      unfold tfl
      simp only [mu_ng (show (98852 : Nat) ≠ 8 by decide), mu_ng (show (98854 : Nat) ≠ 8 by decide)]
      exact q
    · rw [if_neg (by omega), if_neg (by omega), if_neg (by omega), if_pos z]
      unfold ifl
      simp only [mu_ng (show (98852 : Nat) ≠ 8 by decide), mu_ng (show (98854 : Nat) ≠ 8 by decide)]
      exact q
    · rw [if_neg (by omega), if_neg (by omega), if_neg (by omega), if_neg (by omega), if_pos z]
      unfold afl
      simp only [mu_ng (show (98852 : Nat) ≠ 10 by decide), mu_ng (show (98854 : Nat) ≠ 10 by decide)]
      exact q
    · rw [if_neg (by omega), if_neg (by omega), if_neg (by omega), if_neg (by omega), if_neg (by omega)]; exact q
  · intro j hj hd e
    obtain ⟨b, b1, b2⟩ := sp j hj hd
    have q : ∀ x : Int, 0 ≤ x → x ≤ 4 → kfn Zf 9 (kno K j) x = cfl W K (dnI K j : Int) (kno K j) (nfl W (dnI K j : Int) 3 (kno K j) Z1) 9 (kno K j) x := fun x a c => by
      rw [toZ _ _ (by omega) (by omega) (by omega) (by decide), b2 9 _ _ (Or.inr (Or.inr (Or.inl ⟨by omega, rfl, rfl, a, c⟩)))]
      unfold fth
      rw [if_neg (by omega), if_pos (by omega), show K j - 10 = 3 by omega]
    rw [q 0 (by decide) (by decide), q 1 (by decide) (by decide), q 2 (by decide) (by decide), q 3 (by decide) (by decide), q 4 (by decide) (by decide)]
    unfold cfl czr
    refine ⟨?_, ?_, ?_, ?_, ?_⟩
    · rw [mu_ni (by decide), mu_ni (by decide), mu_ni (by decide), mu_ni (by decide), mup_same]
    · rw [mu_ni (by decide), mu_ni (by decide), mu_ni (by decide), mup_same]
    · rw [mu_ni (by decide), mu_ni (by decide), mup_same]
    · rw [mu_ni (by decide), mup_same]
    · rw [mup_same]
  · intro j hj hd e
    obtain ⟨b, b1, b2⟩ := sp j hj hd
    have q : ∀ x : Int, 0 ≤ x → x ≤ 5 → kfn Zf 8 (kno K j) x = tfl W K (dnI K j : Int) (kno K j) b (nfl W (dnI K j : Int) 4 (kno K j) Z1) 8 (kno K j) x := fun x a c => by
      rw [toZ _ _ (by omega) (by omega) (by omega) (by decide), b2 8 _ _ (Or.inr (Or.inr (Or.inr (Or.inl ⟨by omega, rfl, rfl, a, by omega⟩))))]
      unfold fth
      rw [if_neg (by omega), if_neg (by omega), if_pos (by omega), show K j - 10 = 4 by omega]
    rw [q 0 (by decide) (by decide), q 1 (by decide) (by decide), q 2 (by decide) (by decide), q 3 (by decide) (by decide), q 4 (by decide) (by decide), q 5 (by decide) (by decide)]
    have eb : tfl W K (dnI K j : Int) (kno K j) b (nfl W (dnI K j : Int) 4 (kno K j) Z1) 8 (kno K j) 1 = b := by
      unfold tfl
      rw [mu_ni (by decide), mu_ni (by decide), mu_ni (by decide), mu_ni (by decide), mu_ni (by decide), mup_same]
    rw [eb]
    refine ⟨?_, ⟨b1.1, b1.2.2 (by omega)⟩, ?_, ?_, ?_, ?_⟩
    · unfold tfl
      rw [mu_ni (by decide), mu_ni (by decide), mu_ni (by decide), mu_ni (by decide), mu_ni (by decide), mu_ni (by decide), mup_same]
    · unfold tfl
      rw [mu_ni (by decide), mu_ni (by decide), mu_ni (by decide), mu_ni (by decide), mup_same]
    · unfold tfl
      rw [mu_ni (by decide), mu_ni (by decide), mu_ni (by decide), mup_same]
    · unfold tfl
      rw [mu_ni (by decide), mu_ni (by decide), mup_same]
    · unfold tfl
      rw [mu_ni (by decide), mup_same]
  · intro j hj hd e
    obtain ⟨b, b1, b2⟩ := sp j hj hd
    have kl := kno_l hj hd
    rw [show K j - 10 = 4 by omega] at kl
    have k0 := (dnS_b K (K j - 10) j).1
    have k0 : 0 ≤ kno K j := k0
    have z6 : (Wg 8 ((kno K j)) 6) = -1 := by
      rw [gf.1 _ _ _ (by decide), b2 8 _ 6 (Or.inr (Or.inr (Or.inr (Or.inl ⟨by omega, rfl, rfl, by decide, by decide⟩))))]
      unfold fth
      rw [if_neg (by omega), if_neg (by omega), if_pos (by omega)]
      unfold tfl
      rw [mup_same]
    have ui : ∀ r : Int, uir (kfn Zf) (kno K j) r ↔ uir Wg (kno K j) r := fun r => by
      unfold uir
      rw [toI _ _ (by omega) (by omega), toI _ _ (by omega) (by omega), fi.1 _ _ _ (by omega), fi.1 _ _ _ (by omega)]
    have q := fi.2 (kno K j) k0 (by omega)
    rw [show ((kfn Zf) 8 ((kno K j)) 6) = (Wi 8 ((kno K j)) 6) from toI _ _ (by omega) (by omega)]
    rcases q with ⟨x, y⟩ | ⟨x, y, _⟩
    · exact Or.inl ⟨by rw [x, z6], fun r r0 r1 z => y r r0 r1 ((ui r).mp z)⟩
    · exact Or.inr ⟨x, (ui _).mpr y⟩
  · intro j hj hd e
    obtain ⟨b, b1, b2⟩ := sp j hj hd
    have q : ∀ x : Int, x = 0 ∨ x = 5 → kfn Zf 8 (48 + kno K j) x = ifl W K (dnI K j : Int) (48 + kno K j) (nfl W (dnI K j : Int) 5 (kno K j) Z1) 8 (48 + kno K j) x := fun x a => by
      rw [toZ _ _ (by omega) (by omega) (by omega) (by decide), b2 8 _ _ (Or.inr (Or.inr (Or.inr (Or.inr (Or.inl ⟨by omega, rfl, rfl, a⟩)))))]
      unfold fth
      rw [if_neg (by omega), if_neg (by omega), if_neg (by omega), if_pos (by omega), show K j - 10 = 5 by omega]
    rw [q 0 (Or.inl rfl), q 5 (Or.inr rfl)]
    unfold ifl
    exact ⟨by rw [mu_ni (by decide), mup_same], by rw [mup_same]⟩
  · intro j hj hd e
    obtain ⟨b, b1, b2⟩ := sp j hj hd
    have q : ∀ x : Int, 0 ≤ x → x ≤ 5 → kfn Zf 10 (kno K j) x = afl W K (dnI K j : Int) (kno K j) (nfl W (dnI K j : Int) 6 (kno K j) Z1) 10 (kno K j) x := fun x a c => by
      rw [toZ _ _ (by omega) (by omega) (by omega) (by decide), b2 10 _ _ (Or.inr (Or.inr (Or.inr (Or.inr (Or.inr ⟨by omega, rfl, rfl, a, c⟩)))))]
      unfold fth
      rw [if_neg (by omega), if_neg (by omega), if_neg (by omega), if_neg (by omega), if_pos (by omega), show K j - 10 = 6 by omega]
    rw [q 0 (by decide) (by decide), q 1 (by decide) (by decide), q 2 (by decide) (by decide), q 3 (by decide) (by decide), q 4 (by decide) (by decide), q 5 (by decide) (by decide)]
    unfold afl
    refine ⟨?_, ?_, ?_, ?_, ?_, ?_⟩
    · rw [mu_ni (by decide), mu_ni (by decide), mu_ni (by decide), mu_ni (by decide), mu_ni (by decide), mup_same]
    · rw [mu_ni (by decide), mu_ni (by decide), mu_ni (by decide), mu_ni (by decide), mup_same]
    · rw [mu_ni (by decide), mu_ni (by decide), mu_ni (by decide), mup_same]
    · rw [mu_ni (by decide), mu_ni (by decide), mup_same]
    · rw [mu_ni (by decide), mup_same]
    · rw [mup_same]
  · intro j hj hd e
    obtain ⟨b, b1, b2⟩ := sp j hj hd
    have ei : ((kfn Zf) 65837 0 ((kno K j))) = b := by
      rw [toZ _ _ (by omega) (by omega) (by omega) (by decide), b2 65837 _ _ (Or.inr (Or.inl ⟨by omega, Or.inl rfl, rfl, rfl⟩))]
      unfold fth
      rw [if_pos (by omega), mu_ng (by decide), mup_same]
    have ea : ((kfn Zf) 65582 0 ((kno K j))) = cno W K (dnI K j : Int) 3 := by
      rw [toZ _ _ (by omega) (by omega) (by omega) (by decide), b2 65582 _ _ (Or.inr (Or.inl ⟨by omega, Or.inr rfl, rfl, rfl⟩))]
      unfold fth
      rw [if_pos (by omega), mup_same]
    rw [ei, ea]
    exact ⟨⟨b1.1, b1.2.1 (by omega)⟩, rfl⟩
  · intro r a b
    have q := gf.2 r a b
    have ea : ∀ x : Int, ((kfn Zf) 65582 0 (x)) = (Z 65582 0 (x)) := fun x => toZ _ _ (by omega) (by omega) (by omega) (by decide)
    rw [show ((kfn Zf) 65580 0 (r)) = (Wg 65580 0 (r)) by rw [toI _ _ (by omega) (by omega), fi.1 _ _ _ (by omega)]]
    unfold LG at q ⊢
    simp only [eas_o ea]
    exact q
  · intro x a b
    rw [show ((kfn Zf) 65579 0 (x)) = (Zf 65579 0 (x)) from kfn_o (by omega), cg.2 x a b]
    exact (cti5_o (fun w => toI _ _ (by omega) (by omega)) (fun w => toI _ _ (by omega) (by omega)) (fun w => toI _ _ (by omega) (by omega)) n2 n4 x n5).symm
  · intro g t x a b c d h
    have h8 : ¬ (g = 8 ∧ x = 6 ∧ 0 ≤ t ∧ t < n4) := by
      rintro ⟨rfl, rfl, t0, t1⟩
      obtain ⟨j, j1, j2, j3, j4⟩ := dnS_o (K := K) 4 F t (by rw [if_neg (by decide)]; exact t0) (by omega)
      refine h j j1 j2 (Or.inr (Or.inr (Or.inr (Or.inl ⟨by omega, rfl, ?_, by decide, by decide⟩))))
      unfold kno
      rw [show K j - 10 = 4 by omega]
      exact j4.symm
    rw [toZ t x d c h8 b, l2.fr g t x (fun m hm z => ?_), tl.1 g t x a]
    obtain ⟨j, f, hd, em, hj2, k2, _, _, _, _, s, k⟩ := hc.item (m := (m : Int)) (by omega) (by omega)
    have s : sY W m = K j - 10 := s
    have k : kY W m = kno K j := k
    rw [s, k] at z
    exact h j (by omega) hd z
end SUC2
