/-! ===== build(): what the reference's plan is in the end ===== -/
def ebG (g : Nat) : Bool := g == 11 || g == 819298 || g == 819561 || g == 98406 || g == 98671 || g == 65639 || g == 33130 || g == 32875 || g == 32878 || g == 32876 || g == 32877 || g == 65613
theorem eb_z {Wc W Zg : AMem} {m n4 n5 : Nat} (h1 : C3 Zg m n4 n5 m Wc) (h2 : BZ Wc 16 W) {g : Nat} {t x : Int} (hg : ebG g = false) : gof (mup W 11 0 73 (0)) g t x = Zg g t x := by
  rw [gof_o (fun e => by subst e; cases hg) (fun e => by subst e; cases hg) (fun e => by subst e; cases hg) (fun e => by subst e; cases hg) (fun e => by subst e; cases hg) (fun e => by subst e; cases hg) (fun e => by subst e; cases hg) (fun e => by subst e; cases hg) (fun e => by subst e; cases hg), mu_ng (fun e => by subst e; cases hg), h2.1 g t x (fun z => by rcases z.1 with e | e <;> (subst e; cases hg)), h1.1 g t x (fun z => by have e := z.1; subst e; cases hg)]
theorem uof_e {Z W : AMem} (h1 : (W 14408 0 (2)) = (Z 14408 0 (2))) (h2 : ∀ x : Int, (W 65612 0 (x)) = (Z 65612 0 (x))) (u g : Int) : uof W u g = uof Z u g := uof_c h1 h2 u g
theorem rct_c {Z W : AMem} (h1 : (W 14408 0 (2)) = (Z 14408 0 (2))) (h2 : ∀ x : Int, (W 65612 0 (x)) = (Z 65612 0 (x))) (h3 : ∀ x : Int, (W 98390 0 (x)) = (Z 98390 0 (x))) (h4 : ∀ x : Int, (W 98385 0 (x)) = (Z 98385 0 (x))) (r : Int) : ∀ n : Nat, rct W r n = rct Z r n
  | 0 => rfl
  | n + 1 => by
    unfold rct
    simp only [rct_c h1 h2 h3 h4 r n, h2, h3, h4, uof_c h1 h2]
theorem rci_c {Z W : AMem} (h1 : (W 14408 0 (2)) = (Z 14408 0 (2))) (h2 : ∀ x : Int, (W 65612 0 (x)) = (Z 65612 0 (x))) (h3 : ∀ x : Int, (W 98390 0 (x)) = (Z 98390 0 (x))) (h4 : ∀ x : Int, (W 98385 0 (x)) = (Z 98385 0 (x))) (h5 : ∀ x : Int, (W 32856 0 (x)) = (Z 32856 0 (x))) (h6 : ∀ x : Int, (W 32855 0 (x)) = (Z 32855 0 (x))) (n4 : Nat) (r : Int) : ∀ n : Nat, rci W n4 r n = rci Z n4 r n
  | 0 => rct_c h1 h2 h3 h4 r n4
  | n + 1 => by
    unfold rci
    simp only [rci_c h1 h2 h3 h4 h5 h6 n4 r n, h2, h5, h6, uof_c h1 h2]
def RS2 (Y2 M2 : AMem) (K : Nat → Int) (F n m n4 n5 : Nat) : Prop := (∀ s : Int, 0 ≤ s → s ≤ 6 → (M2 14408 0 (s)) = dnS K s F) ∧ (∀ j f : Nat, j < F → dit K j → dxt K (j + 2) f → f ≤ F → SPN Y2 K j M2 ∧ (K j = 13 → SC Y2 j (kno K j) f M2) ∧ (K j = 14 → TP Y2 K j (kno K j) f M2) ∧ (K j = 15 → SI Y2 K j (kno K j) f M2) ∧ (K j = 16 → SAl Y2 K j (kno K j) f M2) ∧ (K j = 12 → (M2 65867 0 ((kno K j))) = if K (j + 2) = 17 then 1 else 0)) ∧ ((M2 65612 0 (0)) = 0 ∧ (M2 65867 0 (0)) = 0 ∧ (M2 917578 0 (128)) = 0) ∧ (∃ a : Int → Int, (∀ x f : Nat, x < F → dit K x → K x = 12 → dxt K (x + 2) f → f ≤ F → a (kno K x) = if K (x + 2) = 18 then (Y2 1433669 0 ((mng Y2 ((x + 3 : Nat) : Int)))) else -1) ∧ ∀ r : Int, 1 ≤ r → r < m → (M2 65612 0 (r)) = mgr a m 32 r) ∧ (∀ x : Int, 0 ≤ x → x < m → (M2 65613 0 (x)) = rci M2 n4 x n5) ∧ (∀ x : Int, 0 ≤ x → x < n → (M2 8193095 0 (x)) = w8 (Y2 8193085 0 (x))) ∧ (∀ c : Int, 0 ≤ c → c < 16 → (M2 32876 0 (c)) = 0 ∧ (M2 32877 0 (c)) = 0) ∧ ((M2 11 0 73) = 0) ∧ ((M2 917577 0 (128)) = (Y2 917577 0 (128))) ∧ (∀ (g : Nat) (t x : Int), ebG g = false → g ≠ 65612 → g ≠ 65632 → g ≠ 14408 → g ≠ 8193095 → gAll g = false → M2 g t x = Y2 g t x) ∧ (∀ x : Int, (x ≠ 22 ∧ x ≠ 48) → x ≠ 50 → x ≠ 51 → x ≠ 52 → x ≠ 65 → x ≠ 73 → M2 11 0 x = Y2 11 0 x) ∧ (∀ x : Int, (∀ j : Nat, j < F → dit K j → K j = 16 → ¬ x = kno K j) → (M2 98393 0 (x)) = (Y2 98393 0 (x))) ∧ (∀ x : Int, (∀ j : Nat, j < F → dit K j → K j = 13 → ¬ x = kno K j) → (M2 32846 0 (x)) = (Y2 32846 0 (x)))
theorem RS2.mn {Y2 M2 : AMem} {K : Nat → Int} {F n m n4 n5 : Nat} (h : RS2 Y2 M2 K F n m n4 n5) : ∀ s : Int, 0 ≤ s → s ≤ 6 → (M2 14408 0 (s)) = dnS K s F := h.1
theorem RS2.sp {Y2 M2 : AMem} {K : Nat → Int} {F n m n4 n5 : Nat} (h : RS2 Y2 M2 K F n m n4 n5) : ∀ j f : Nat, j < F → dit K j → dxt K (j + 2) f → f ≤ F → SPN Y2 K j M2 ∧ (K j = 13 → SC Y2 j (kno K j) f M2) ∧ (K j = 14 → TP Y2 K j (kno K j) f M2) ∧ (K j = 15 → SI Y2 K j (kno K j) f M2) ∧ (K j = 16 → SAl Y2 K j (kno K j) f M2) ∧ (K j = 12 → (M2 65867 0 ((kno K j))) = if K (j + 2) = 17 then 1 else 0) := h.2.1
theorem RS2.z0 {Y2 M2 : AMem} {K : Nat → Int} {F n m n4 n5 : Nat} (h : RS2 Y2 M2 K F n m n4 n5) : (M2 65612 0 (0)) = 0 ∧ (M2 65867 0 (0)) = 0 ∧ (M2 917578 0 (128)) = 0 := h.2.2.1
theorem RS2.gr {Y2 M2 : AMem} {K : Nat → Int} {F n m n4 n5 : Nat} (h : RS2 Y2 M2 K F n m n4 n5) : ∃ a : Int → Int, (∀ x f : Nat, x < F → dit K x → K x = 12 → dxt K (x + 2) f → f ≤ F → a (kno K x) = if K (x + 2) = 18 then (Y2 1433669 0 ((mng Y2 ((x + 3 : Nat) : Int)))) else -1) ∧ ∀ r : Int, 1 ≤ r → r < m → (M2 65612 0 (r)) = mgr a m 32 r := h.2.2.2.1
theorem RS2.ce {Y2 M2 : AMem} {K : Nat → Int} {F n m n4 n5 : Nat} (h : RS2 Y2 M2 K F n m n4 n5) : ∀ x : Int, 0 ≤ x → x < m → (M2 65613 0 (x)) = rci M2 n4 x n5 := h.2.2.2.2.1
theorem RS2.pt {Y2 M2 : AMem} {K : Nat → Int} {F n m n4 n5 : Nat} (h : RS2 Y2 M2 K F n m n4 n5) : ∀ x : Int, 0 ≤ x → x < n → (M2 8193095 0 (x)) = w8 (Y2 8193085 0 (x)) := h.2.2.2.2.2.1
theorem RS2.cz {Y2 M2 : AMem} {K : Nat → Int} {F n m n4 n5 : Nat} (h : RS2 Y2 M2 K F n m n4 n5) : ∀ c : Int, 0 ≤ c → c < 16 → (M2 32876 0 (c)) = 0 ∧ (M2 32877 0 (c)) = 0 := h.2.2.2.2.2.2.1
theorem RS2.no {Y2 M2 : AMem} {K : Nat → Int} {F n m n4 n5 : Nat} (h : RS2 Y2 M2 K F n m n4 n5) : (M2 11 0 73) = 0 := h.2.2.2.2.2.2.2.1
theorem RS2.na {Y2 M2 : AMem} {K : Nat → Int} {F n m n4 n5 : Nat} (h : RS2 Y2 M2 K F n m n4 n5) : (M2 917577 0 (128)) = (Y2 917577 0 (128)) := h.2.2.2.2.2.2.2.2.1
theorem RS2.fg {Y2 M2 : AMem} {K : Nat → Int} {F n m n4 n5 : Nat} (h : RS2 Y2 M2 K F n m n4 n5) : ∀ (g : Nat) (t x : Int), ebG g = false → g ≠ 65612 → g ≠ 65632 → g ≠ 14408 → g ≠ 8193095 → gAll g = false → M2 g t x = Y2 g t x := h.2.2.2.2.2.2.2.2.2.1
theorem RS2.fl {Y2 M2 : AMem} {K : Nat → Int} {F n m n4 n5 : Nat} (h : RS2 Y2 M2 K F n m n4 n5) : ∀ x : Int, (x ≠ 22 ∧ x ≠ 48) → x ≠ 50 → x ≠ 51 → x ≠ 52 → x ≠ 65 → x ≠ 73 → M2 11 0 x = Y2 11 0 x := h.2.2.2.2.2.2.2.2.2.2.1
theorem RS2.fu {Y2 M2 : AMem} {K : Nat → Int} {F n m n4 n5 : Nat} (h : RS2 Y2 M2 K F n m n4 n5) : ∀ x : Int, (∀ j : Nat, j < F → dit K j → K j = 16 → ¬ x = kno K j) → (M2 98393 0 (x)) = (Y2 98393 0 (x)) := h.2.2.2.2.2.2.2.2.2.2.2.1
theorem RS2.fv {Y2 M2 : AMem} {K : Nat → Int} {F n m n4 n5 : Nat} (h : RS2 Y2 M2 K F n m n4 n5) : ∀ x : Int, (∀ j : Nat, j < F → dit K j → K j = 13 → ¬ x = kno K j) → (M2 32846 0 (x)) = (Y2 32846 0 (x)) := h.2.2.2.2.2.2.2.2.2.2.2.2
theorem RS2.mk {Y2 M2 : AMem} {K : Nat → Int} {F n m n4 n5 : Nat} (mn : ∀ s : Int, 0 ≤ s → s ≤ 6 → (M2 14408 0 (s)) = dnS K s F) (sp : ∀ j f : Nat, j < F → dit K j → dxt K (j + 2) f → f ≤ F → SPN Y2 K j M2 ∧ (K j = 13 → SC Y2 j (kno K j) f M2) ∧ (K j = 14 → TP Y2 K j (kno K j) f M2) ∧ (K j = 15 → SI Y2 K j (kno K j) f M2) ∧ (K j = 16 → SAl Y2 K j (kno K j) f M2) ∧ (K j = 12 → (M2 65867 0 ((kno K j))) = if K (j + 2) = 17 then 1 else 0)) (z0 : (M2 65612 0 (0)) = 0 ∧ (M2 65867 0 (0)) = 0 ∧ (M2 917578 0 (128)) = 0) (gr : ∃ a : Int → Int, (∀ x f : Nat, x < F → dit K x → K x = 12 → dxt K (x + 2) f → f ≤ F → a (kno K x) = if K (x + 2) = 18 then (Y2 1433669 0 ((mng Y2 ((x + 3 : Nat) : Int)))) else -1) ∧ ∀ r : Int, 1 ≤ r → r < m → (M2 65612 0 (r)) = mgr a m 32 r) (ce : ∀ x : Int, 0 ≤ x → x < m → (M2 65613 0 (x)) = rci M2 n4 x n5) (pt : ∀ x : Int, 0 ≤ x → x < n → (M2 8193095 0 (x)) = w8 (Y2 8193085 0 (x))) (cz : ∀ c : Int, 0 ≤ c → c < 16 → (M2 32876 0 (c)) = 0 ∧ (M2 32877 0 (c)) = 0) (no : (M2 11 0 73) = 0) (na : (M2 917577 0 (128)) = (Y2 917577 0 (128))) (fg : ∀ (g : Nat) (t x : Int), ebG g = false → g ≠ 65612 → g ≠ 65632 → g ≠ 14408 → g ≠ 8193095 → gAll g = false → M2 g t x = Y2 g t x) (fl : ∀ x : Int, (x ≠ 22 ∧ x ≠ 48) → x ≠ 50 → x ≠ 51 → x ≠ 52 → x ≠ 65 → x ≠ 73 → M2 11 0 x = Y2 11 0 x) (fu : ∀ x : Int, (∀ j : Nat, j < F → dit K j → K j = 16 → ¬ x = kno K j) → (M2 98393 0 (x)) = (Y2 98393 0 (x))) (fv : ∀ x : Int, (∀ j : Nat, j < F → dit K j → K j = 13 → ¬ x = kno K j) → (M2 32846 0 (x)) = (Y2 32846 0 (x))) : RS2 Y2 M2 K F n m n4 n5 := ⟨mn, sp, z0, gr, ce, pt, cz, no, na, fg, fl, fu, fv⟩
section SUC1
variable {Y2 U M2 : AMem} {K : Nat → Int} {T F n m n4 n5 : Nat}
theorem rs2_of (hc : C1 Y2 K T F) (nf : NF Y2 K F) (j2 : J2 Y2 U K F) (eb : EB2 U n m n4 n5 M2) (hn : n ≤ 4000) (hm : 1 ≤ m) (em : dnS K 2 F = m) : RS2 Y2 M2 K F n m n4 n5 := by
  obtain ⟨P, Q, Zg, Wc, W, hP, hQ, hG, hC, hZ, rfl⟩ := eb
  have toZ : ∀ {g : Nat} (t x : Int), ebG g = false → gof (mup W 11 0 73 (0)) g t x = Zg g t x := fun {g} t x hg => eb_z hC hZ hg
  have toU : ∀ {g : Nat} (t x : Int), ebG g = false → g ≠ 65612 → g ≠ 65632 → g ≠ 14408 → g ≠ 8193095 → (g = 917578 → x ≠ 128) → (g = 65867 → x ≠ 0) → gof (mup W 11 0 73 (0)) g t x = U g t x := fun {g} t x hg g1 g2 g3 g4 g5 g6 => by
    rw [toZ t x hg, hG.1 g t x (fun z => by rcases z.1 with e | e; exact g1 e; exact g2 e), gr0_o g5 (fun e => absurd e g1) g6, hQ.1 g t x (fun z => g3 z.1), hP.1 g t x (fun z => g4 z.1)]
  have tU : ∀ s : Int, 0 ≤ s → s ≤ 6 → (U 14406 0 (s)) = dnS K s F := fun s a b => by
    rw [j2.fg 14406 0 s rfl (fun e => by cases e)]
    exact hc.ga.to s a b
  have k1 : ∀ x : Nat, K x = 12 → dit K x → 1 ≤ kno K x := fun x e _ => by
    have p := dnS_p (K := K) (K x - 10) x
    rw [show K x - 10 = 2 by omega, if_pos rfl] at p
    unfold kno
    rw [show K x - 10 = 2 by omega]
    exact p
  have gQ : ∀ r : Int, 1 ≤ r → ((gr0 Q) 65612 0 (r)) = (U 65612 0 (r)) := fun r h => by
    rw [gr0_o (fun e => by cases e) (fun _ => by omega) (fun e => by cases e), hQ.1 _ _ _ (by omega), hP.1 _ _ _ (by omega)]
  have kb : ∀ j : Nat, j < F → dit K j → 0 ≤ kno K j ∧ kno K j < pmo (K j - 10) := fun j hj hd => by
    obtain ⟨l, k2⟩ := dit_2 hc.ok hd hj
    exact kno_b hc nf hd l k2
  have n128 : ∀ j : Nat, j < F → dit K j → 64 * (K j - 10) + kno K j ≠ 128 := fun j hj hd => by
    have kj := kb j hj hd
    have l := hd.2.2
    by_cases e : K j = 12
    · have := k1 j e hd
      omega
    · have p : pmo (K j - 10) ≤ 48 := by unfold pmo; split; decide; split; decide; split; decide; split; decide; decide
      omega
  refine RS2.mk ?_ ?_ ⟨?_, ?_, ?_⟩ ⟨fun x => ((gr0 Q) 65612 0 (x)), ?_, ?_⟩ ?_ ?_ ?_ ?_ ?_ ?_ ?_ ?_ ?_
  · intro s a b
    rw [toZ _ _ rfl, hG.1 _ _ _ (by omega), gr0_o (fun e => by cases e) (fun e => by cases e) (fun e => by cases e), hQ.2 s a (by omega), hP.1 _ _ _ (by omega)]
    exact tU s a b
  · intro j f hj hd dx hf
    obtain ⟨s1, s2, s3, s4, s5, s6⟩ := j2.sp j f hj hd dx hf
    have kj := kb j hj hd
    have l := hd.2.2
    refine ⟨?_, fun e => ?_, fun e => ?_, fun e => ?_, fun e => ?_, fun e => ?_⟩
    · unfold SPN at s1 ⊢
      have ne := n128 j hj hd
      rw [toU _ _ rfl (by decide) (by decide) (by decide) (by decide) (fun e => by cases e) (fun e => by cases e), toU _ _ rfl (by decide) (by decide) (by decide) (by decide) (fun _ => ne) (fun e => by cases e)]
      exact s1
    · have q := s3 e
      unfold SC at q ⊢
      rw [toU _ _ rfl (by decide) (by decide) (by decide) (by decide) (fun e => by cases e) (fun e => by cases e), toU _ _ rfl (by decide) (by decide) (by decide) (by decide) (fun e => by cases e) (fun e => by cases e), toU _ _ rfl (by decide) (by decide) (by decide) (by decide) (fun e => by cases e) (fun e => by cases e)]
      exact q
    · have q := s4 e
      unfold TP at q ⊢
      rw [toU (g := 98385) _ _ rfl (by decide) (by decide) (by decide) (by decide) (fun e => by cases e) (fun e => by cases e), toU (g := 98642) _ _ rfl (by decide) (by decide) (by decide) (by decide) (fun e => by cases e) (fun e => by cases e), toU (g := 98387) _ _ rfl (by decide) (by decide) (by decide) (by decide) (fun e => by cases e) (fun e => by cases e), toU (g := 98388) _ _ rfl (by decide) (by decide) (by decide) (by decide) (fun e => by cases e) (fun e => by cases e), toU (g := 98389) _ _ rfl (by decide) (by decide) (by decide) (by decide) (fun e => by cases e) (fun e => by cases e), toU (g := 98390) _ _ rfl (by decide) (by decide) (by decide) (by decide) (fun e => by cases e) (fun e => by cases e)]
      exact q
    · have q := s5 e
      unfold SI at q ⊢
      rw [toU (g := 32855) _ _ rfl (by decide) (by decide) (by decide) (by decide) (fun e => by cases e) (fun e => by cases e), toU (g := 32856) _ _ rfl (by decide) (by decide) (by decide) (by decide) (fun e => by cases e) (fun e => by cases e)]
      exact q
    · have q := s6 e
      unfold SAl SA1 SA2 at q ⊢
      rw [toU (g := 98393) _ _ rfl (by decide) (by decide) (by decide) (by decide) (fun e => by cases e) (fun e => by cases e), toU (g := 98394) _ _ rfl (by decide) (by decide) (by decide) (by decide) (fun e => by cases e) (fun e => by cases e), toU (g := 98395) _ _ rfl (by decide) (by decide) (by decide) (by decide) (fun e => by cases e) (fun e => by cases e), toU (g := 98396) _ _ rfl (by decide) (by decide) (by decide) (by decide) (fun e => by cases e) (fun e => by cases e), toU (g := 98397) _ _ rfl (by decide) (by decide) (by decide) (by decide) (fun e => by cases e) (fun e => by cases e), toU (g := 98398) _ _ rfl (by decide) (by decide) (by decide) (by decide) (fun e => by cases e) (fun e => by cases e), toU (g := 98399) _ _ rfl (by decide) (by decide) (by decide) (by decide) (fun e => by cases e) (fun e => by cases e)]
      exact q
    · have q := (s2 e).1
      have := k1 j e hd
      rw [toU _ _ rfl (by decide) (by decide) (by decide) (by decide) (fun e => by cases e) (fun _ => by omega)]
      exact q
  · rw [toZ _ _ rfl, hG.1 _ _ _ (by omega)]
    unfold gr0
    rw [mu_ng (by decide), mup_same]
  · rw [toZ _ _ rfl, hG.1 _ _ _ (by omega)]
    unfold gr0
    rw [mup_same]
  · rw [toZ _ _ rfl, hG.1 _ _ _ (by omega)]
    unfold gr0
    rw [mu_ng (by decide), mu_ng (by decide), mup_same]
  · intro x f hx hd e dx hf
    show ((gr0 Q) 65612 0 ((kno K x))) = _
    rw [gQ _ (k1 x e hd)]
    exact ((j2.sp x f hx hd dx hf).2.1 e).2
  · intro r a b
    rw [toZ _ _ rfl]
    exact (hG.2 r a b).2
  · intro x a b
    have e1 : ((gof (mup W 11 0 73 (0))) 65613 0 (x)) = (Wc 65613 0 (x)) := by
      rw [gof_o (by decide) (by decide) (by decide) (by decide) (by decide) (by decide) (by decide) (by decide) (by decide), mu_ng (by decide), hZ.1 _ _ _ (by omega)]
    rw [e1, hC.2 x a b]
    exact (rci_c (toZ _ _ rfl) (fun _ => toZ _ _ rfl) (fun _ => toZ _ _ rfl) (fun _ => toZ _ _ rfl) (fun _ => toZ _ _ rfl) (fun _ => toZ _ _ rfl) n4 x n5).symm
  · intro x a b
    rw [toZ _ _ rfl, hG.1 _ _ _ (by omega), gr0_o (fun e => by cases e) (fun e => by cases e) (fun e => by cases e), hQ.1 _ _ _ (by omega), hP.2 x a b, j2.fg 8193085 0 x rfl (fun e => by cases e)]
  · intro c a b
    rw [gof_o (by decide) (by decide) (by decide) (by decide) (by decide) (by decide) (by decide) (by decide) (by decide), mu_ng (by decide), gof_o (by decide) (by decide) (by decide) (by decide) (by decide) (by decide) (by decide) (by decide) (by decide), mu_ng (by decide)]
    exact hZ.2 c a b
  · rw [gof_11]
    unfold gf0
    rw [mu_ni (by decide), mu_ni (by decide), mu_ni (by decide), mu_ni (by decide), mup_same]
  · rw [toU _ _ rfl (by decide) (by decide) (by decide) (by decide) (fun e => by cases e) (fun e => by cases e)]
    exact j2.fu _ _ _ (by decide) (fun _ j hj hd e => n128 j hj hd e.symm) (fun j hj hd z => by
      rcases gsr_m z.1 with ⟨_, e⟩ | ⟨_, e⟩ | ⟨_, e⟩ | ⟨_, e⟩ | ⟨_, e⟩ <;> omega)
  · intro g t x g0 g1 g2 g3 g4 g5
    rw [toU t x g0 g1 g2 g3 g4 (fun e => by subst e; cases g5) (fun e => by subst e; cases g5)]
    exact j2.fg g t x g5 (fun e => by subst e; cases g0)
  · intro x x0 x1 x2 x3 x4 x5
    rw [gof_11]
    unfold gf0
    rw [mu_ni x4, mu_ni x3, mu_ni x2, mu_ni x1, mu_ni x5, hZ.1 _ _ _ (by omega), hC.1 _ _ _ (by omega), hG.1 _ _ _ (by omega), gr0_o (fun e => by cases e) (fun e => by cases e) (fun e => by cases e), hQ.1 _ _ _ (by omega), hP.1 _ _ _ (by omega)]
    exact j2.fg 11 0 x rfl (fun _ => x0)
  · intro x hx
    rw [toU _ _ rfl (by decide) (by decide) (by decide) (by decide) (fun e => by cases e) (fun e => by cases e)]
    exact j2.fu _ _ _ (by decide) (fun z => by omega) (fun j hj hd z => by
      rcases gsr_m z.1 with ⟨_, e⟩ | ⟨_, e⟩ | ⟨_, e⟩ | ⟨_, e⟩ | ⟨w, _⟩
      · omega
      · omega
      · omega
      · omega
      · exact hx j hj hd w z.2)
  · intro x hx
    rw [toU _ _ rfl (by decide) (by decide) (by decide) (by decide) (fun e => by cases e) (fun e => by cases e)]
    exact j2.fu _ _ _ (by decide) (fun z => by omega) (fun j hj hd z => by
      rcases gsr_m z.1 with ⟨_, e⟩ | ⟨w, _⟩ | ⟨_, e⟩ | ⟨_, e⟩ | ⟨_, e⟩
      · omega
      · exact hx j hj hd w z.2
      · omega
      · omega
      · omega)
end SUC1
