/-! ===== what every call leaves alone: frames ===== -/
section FRC
variable {A X : AMem}
theorem f_knt (h : frC A X) (v : Int) : frC A (knt X v) := frC.up rfl (frC.up rfl h)
theorem f_krt (h : frC A X) : frC A (krt X) := f_knt (frC.up rfl (frC.up rfl (frC.up rfl h))) _
theorem f_kpre (h : frC A X) : frC A (kpre X) := f_knt (kp_fr h) _
theorem f_krun (h : frC A X) : frC A (krun X) := frC.ite (f_krt h) (f_krt (f_kpre h))
theorem f_kbeg (h : frC A X) (i : Int) : frC A (kbeg X i) := f_knt (frC.up rfl (frC.up rfl (frC.up rfl h))) _
theorem f_krn1 (h : frC A X) : frC A (krn1 X) := frC.ite (f_krun h) h
theorem f_kstl (h : frC A X) : frC A (kstl X) := frC.ite h (frC.ite (f_krn1 h) (f_kbeg h _))
theorem f_kreq (h : frC A X) (t : Int) : frC A (kreq X t) := kp_fr (frC.up rfl (frC.ite (frC.up rfl h) h))
theorem f_kstp (h : frC A X) : frC A (kstp X) := frC.up rfl (f_knt (frC.up rfl h) _)
theorem f_kend (h : frC A X) : frC A (kend X) := f_kstp (frC.up rfl h)
theorem f_kyi (h : frC A X) : frC A (kyi X) := frC.ite (f_krun (frC.up rfl h)) h
theorem f_kwf (h : frC A X) (m : Int) : frC A (kwf X m) := frC.ite (f_kstp (frC.up rfl (frC.up rfl h))) h
theorem f_kse (h : frC A X) (t m : Int) : frC A (kse X t m) := frC.ite (kp_fr (frC.up rfl (frC.up rfl (frC.up rfl h)))) (frC.up rfl h)
theorem f_kei (h : frC A X) : frC A (kei X) := frC.up rfl (f_knt h _)
theorem f_kfs (h : frC A X) (k s : Int) : frC A (kfs X k s) := frC.ite h (f_knt h _)
theorem f_kfi (h : frC A X) (k s : Int) : frC A (kfi X k s) := f_kstl (f_kfs h k s)
theorem f_kmA (h : frC A X) (a : Int) : frC A (kmA X a) := frC.ite (frC.ite h (frC.ite h (f_kreq h _))) (frC.ite h (f_kse h _ _))
theorem f_kmB (h : frC A X) (a s : Int) : frC A (kmB X a s) := frC.ite h (f_knt h _)
theorem f_kmE (h : frC A X) (a : Int) : frC A (kmE X a) := frC.up rfl (frC.up rfl h)
theorem f_kme (h : frC A X) (a : Int) : frC A (kme X a) := f_kmE (f_kmB (f_kmA (f_knt h _) _) _ _) _
theorem f_kmm (h : frC A X) (c v : Int) : ∀ n : Nat, frC A (kmm X c v n)
  | 0 => h
  | n + 1 => frC.ite (f_kme (f_kmm h c v n) _) (f_kmm h c v n)
theorem f_cad (h : frC A X) (c : Int) : frC A (cad X c) := frC.ite (frC.up rfl h) (frC.up rfl (frC.up rfl (frC.up rfl h)))
theorem f_kt1 (h : frC A X) (c : Int) : frC A (kt1 X c) := frC.ite (f_cad h c) (f_kmm (f_cad h c) c _ _)
theorem f_ktk (h : frC A X) (c : Int) : frC A (ktk X c) := f_kstl (f_kt1 h c)
theorem f_kts (h : frC A X) (c : Int) : ∀ n : Nat, frC A (kts X c n)
  | 0 => h
  | n + 1 => f_ktk (f_kts h c n) c
theorem f_ktw (h : frC A X) (c k : Int) : frC A (ktw X c k) := frC.ite (f_kts h c _) (frC.up rfl h)
theorem f_kdw (h : frC A X) : ∀ n : Nat, frC A (kdw X n)
  | 0 => h
  | n + 1 => f_kts (frC.up rfl (f_kdw h n)) n _
theorem f_aus (h : frC A X) (a d e : Int) : frC A (aus X a d e) := frC.up rfl (frC.up rfl (frC.up rfl h))
theorem f_ks4 (h : frC A X) : ∀ n : Nat, frC A (ks4 X n)
  | 0 => h
  | n + 1 => frC.ite (f_ks4 h n) (frC.ite (f_ks4 h n) (f_kreq (f_ks4 h n) _))
theorem f_ks6 (h : frC A X) : ∀ n : Nat, frC A (ks6 X n)
  | 0 => h
  | n + 1 => frC.ite (f_ks6 h n) (f_aus (f_ks6 h n) _ _ _)
theorem f_kz3 (h : frC A X) : ∀ n : Nat, frC A (kz3 X n)
  | 0 => h
  | n + 1 => frC.up rfl (frC.up rfl (f_kz3 h n))
theorem f_kg1 (h : frC A X) (m : Int) : frC A (kg1 X m) := f_kz3 (f_knt (frC.up rfl (frC.up rfl (frC.up rfl (frC.up rfl (frC.up rfl h))))) _) _
theorem f_kgn (h : frC A X) (m : Int) : frC A (kgn X m) := f_ks6 (f_ks4 (f_kg1 h m) _) _
theorem f_wrst (h : frC A X) (w : Int) : frC A (wrst X w) := frC.up rfl (frC.up rfl (frC.up rfl (frC.up rfl (frC.up rfl (frC.up rfl (frC.up rfl h))))))
theorem f_kr4 (h : frC A X) : ∀ n : Nat, frC A (kr4 X n)
  | 0 => h
  | n + 1 => f_wrst (f_kr4 h n) _
theorem f_kr5 (h : frC A X) : ∀ n : Nat, frC A (kr5 X n)
  | 0 => h
  | n + 1 => f_wrst (f_kr5 h n) _
theorem f_kr3 (h : frC A X) : ∀ n : Nat, frC A (kr3 X n)
  | 0 => h
  | n + 1 => frC.up rfl (f_kr3 h n)
theorem f_kr6 (h : frC A X) : ∀ n : Nat, frC A (kr6 X n)
  | 0 => h
  | n + 1 => frC.up rfl (f_kr6 h n)
theorem f_krs (h : frC A X) : frC A (krs X) := f_kr6 (f_kr3 (f_kr5 (f_kr4 h _) _) _) _
theorem f_kgo (h : frC A X) : frC A (kgo X) := f_krs (frC.up rfl (frC.up rfl (frC.up rfl (frC.up rfl (frC.up rfl (frC.up rfl h))))))
end FRC
section FRR
variable {B X D : AMem}
theorem g_nt (h : frR B X) (v : Int) : frR B (nt X v) := frR.up rfl (frR.up rfl h)
theorem g_th (h : frR B X) : frR B (th X) := frR.up rfl h
theorem g_thx {c : Prop} [Decidable c] (h : frR B X) : frR B (thx c X) := frR.ite h (frR.up rfl h)
theorem g_stl (h : frR B X) : frR B (stl X) := h.tr (stl_fr X)
theorem g_lks (h : frR B X) : frR B (lks X) := frR.ite (frR.up rfl h) h
theorem g_sld (h : frR B X) : frR B (sld X) := g_lks (g_stl h)
theorem g_rf (h : frR B X) (k s : Int) : frR B (rf X k s) := g_nt h _
theorem g_svM (h : frR B X) (k s : Int) (d : frR B D) : frR B (svM X k s D) := frR.ite (frR.ite d (g_rf h k s)) (frR.ite (g_rf h k 9) h)
theorem g_svN (h : frR B X) (k s : Int) (d : frR B D) : frR B (svN X k s D) := frR.ite (frR.ite d (g_rf h k s)) h
theorem g_clast (h : frR B X) (q : Int) : frR B (clast X q) := frR.up rfl (frR.up rfl (frR.up rfl (frR.up rfl h)))
theorem g_rqs (h : frR B X) (t : Int) : frR B (rqs X t) := g_clast (frR.up rfl (frR.up rfl (frR.ite (frR.up rfl h) h))) _
theorem g_thr (h : frR B X) (q : Int) : frR B (thr X q) := frR.up rfl (g_nt (frR.up rfl h) _)
theorem g_pre (h : frR B X) (q : Int) : frR B (pre X q) := frR.up rfl (frR.up rfl (frR.up rfl (g_nt (frR.up rfl h) _)))
theorem g_rns (h : frR B X) (q : Int) : frR B (rns X q) := g_nt (frR.up rfl (frR.up rfl h)) _
theorem g_schD (h : frR B X) : frR B (schD X) := frR.ite (g_rns (g_pre (frR.up rfl h) _) _) h
theorem g_stq (h : frR B X) (t : Int) : ∀ n : Nat, frR B (stq t n X)
  | 0 => h
  | n + 1 => frR.ite (g_clast (g_stq h t n) _) (g_stq h t n)
theorem g_sts (h : frR B X) (t m : Int) : frR B (sts X t m) := g_stq (frR.up rfl h) t 400
theorem g_rmA (h : frR B X) (a : Int) : frR B (rmA X a) := frR.ite (frR.ite (g_nt h _) (g_rqs h _)) (frR.ite (frR.ite (g_nt h _) (g_sts h _ _)) h)
theorem g_rmE (h : frR B X) (a : Int) : frR B (rmE X a) := frR.ite (frR.up rfl h) (frR.up rfl h)
theorem g_rme (h : frR B X) (a : Int) : frR B (rme X a) := g_rmE (g_rmA (g_nt h _) a) a
theorem g_rmm (h : frR B X) (c : Int) : ∀ n : Nat, frR B (rmm X c n)
  | 0 => h
  | n + 1 => frR.ite (g_rme (g_rmm h c n) _) (g_rmm h c n)
theorem g_rt1 (h : frR B X) (c : Int) : frR B (rt1 X c) := frR.ite (g_rmm (frR.up rfl (frR.up rfl (frR.up rfl h))) c _) (frR.up rfl h)
theorem g_rtk (h : frR B X) (c : Int) : frR B (rtk X c) := g_stl (g_rt1 h c)
theorem g_rts (h : frR B X) (c : Int) : ∀ n : Nat, frR B (rts X c n)
  | 0 => h
  | n + 1 => g_rtk (g_rts h c n) c
theorem g_rtw (h : frR B X) (c k : Int) : frR B (rtw X c k) := frR.ite (g_lks (g_rts h c _)) (frR.up rfl h)
theorem g_rwn (h : frR B X) (c : Int) : ∀ n : Nat, frR B (rwn X c n)
  | 0 => h
  | n + 1 => g_rtk (frR.up rfl (g_rwn h c n)) c
theorem g_row (h : frR B X) : ∀ n : Nat, frR B (row X n)
  | 0 => h
  | n + 1 => g_rwn (g_row h n) n _
theorem g_opD (h : frR B X) : frR B (opD X) := frR.ite (g_row (frR.up rfl h) _) (frR.up rfl h)
theorem g_gof (h : frR B X) : frR B (gof X) := h.tr gof_fr
theorem g_calM (h : frR B X) (i : Int) : frR B (calM X i) := frR.ite (frR.up rfl h) h
theorem g_rs4 (h : frR B X) (m : Int) : ∀ n : Nat, frR B (rs4 X m n)
  | 0 => h
  | n + 1 => frR.ite (g_rqs (g_rs4 h m n) _) (g_rs4 h m n)
theorem g_rs6 (h : frR B X) (m : Int) : ∀ n : Nat, frR B (rs6 X m n)
  | 0 => h
  | n + 1 => frR.ite (frR.up rfl (frR.up rfl (frR.up rfl (g_rs6 h m n)))) (g_rs6 h m n)
theorem g_rs7 (h : frR B X) (m : Int) : frR B (rs7 X m) := g_rs6 (g_rs4 (g_nt (frR.up rfl (frR.up rfl (frR.up rfl (frR.up rfl (frR.up rfl (frR.fiE (fun _ => rfl) (frR.fiE (fun _ => rfl) h))))))) _) m _) m _
end FRR
/-- when the kernel is off it has no mode -/
def OM (B : AMem) : Prop := (B 11 0 50) = 0 → (B 11 0 51) = -1
def omG (g : Nat) (i : Int) : Bool := g == 11 && (decide (i = 50) || decide (i = 51))
def frO (B X : AMem) : Prop := OM B → OM X
theorem frO.rf (B : AMem) : frO B B := fun h => h
theorem frO.tr {A B D : AMem} (h : frO A B) (k : frO B D) : frO A D := fun z => k (h z)
theorem frO.up {B X : AMem} {g : Nat} {t i v : Int} (hd : omG g i = false) (h : frO B X) : frO B (mup X g t i v) := fun z => by
  have h := h z
  have e : ∀ x : Int, x = 50 ∨ x = 51 → mup X g t i v 11 0 x = X 11 0 x := fun x hx => mup_other (by
    rintro ⟨rfl, _, rfl⟩
    rcases hx with rfl | rfl <;> cases hd)
  unfold OM at h ⊢
  rw [e 50 (Or.inl rfl), e 51 (Or.inr rfl)]
  exact h
theorem frO.ite {A X Y : AMem} {c : Prop} [Decidable c] (h : frO A X) (h2 : frO A Y) : frO A (if c then X else Y) := by split <;> assumption
theorem frO.fiE {A A' : AMem} {g : Nat} {n v : Int} (hd : ∀ i, omG g i = false) (h : frO A A') : frO A (fil A' g n v) := fun z => by
  have h := h z
  have e : ∀ x : Int, x = 50 ∨ x = 51 → fil A' g n v 11 0 x = A' 11 0 x := fun x hx => by
    unfold fil
    rw [if_neg (by
      rintro ⟨rfl, _⟩
      have := hd x
      rcases hx with rfl | rfl <;> cases this)]
  unfold OM at h ⊢
  rw [e 50 (Or.inl rfl), e 51 (Or.inr rfl)]
  exact h
theorem frO.st {B : AMem} (X : AMem) (m : Int) : frO B (mup (mup X 11 0 50 (1)) 11 0 51 (m)) := fun _ z => by
  rw [mu_ni (by decide), mup_same] at z
  cases z
theorem gof_om (B : AMem) : OM (gof B) := fun _ => by
  rw [gof_11]
  unfold gf0
  rw [mu_ni (by decide), mu_ni (by decide), mup_same]
theorem stl_fo (B : AMem) : frO B (stl B) := by
  have nf : ∀ M v, frO B M → frO B (nt M v) := fun M v z => frO.up rfl (frO.up rfl z)
  refine stl_keep (P := fun M => frO B M) (frO.rf B) (fun b => ?_) (fun M q z => ?_) (fun M q z => ?_)
  · exact nf _ _ (frO.up rfl (frO.up rfl (frO.up rfl (frO.rf B))))
  · exact nf _ _ (frO.up rfl (frO.up rfl z))
  · exact frO.up rfl (frO.up rfl (frO.up rfl (nf _ _ (frO.up rfl z))))
section FRO
variable {B X D : AMem}
theorem o_nt (h : frO B X) (v : Int) : frO B (nt X v) := frO.up rfl (frO.up rfl h)
theorem o_th (h : frO B X) : frO B (th X) := frO.up rfl h
theorem o_thx {c : Prop} [Decidable c] (h : frO B X) : frO B (thx c X) := frO.ite h (frO.up rfl h)
theorem o_stl (h : frO B X) : frO B (stl X) := h.tr (stl_fo X)
theorem o_lks (h : frO B X) : frO B (lks X) := frO.ite (frO.up rfl h) h
theorem o_sld (h : frO B X) : frO B (sld X) := o_lks (o_stl h)
theorem o_rf (h : frO B X) (k s : Int) : frO B (rf X k s) := o_nt h _
theorem o_svM (h : frO B X) (k s : Int) (d : frO B D) : frO B (svM X k s D) := frO.ite (frO.ite d (o_rf h k s)) (frO.ite (o_rf h k 9) h)
theorem o_svN (h : frO B X) (k s : Int) (d : frO B D) : frO B (svN X k s D) := frO.ite (frO.ite d (o_rf h k s)) h
theorem o_clast (h : frO B X) (q : Int) : frO B (clast X q) := frO.up rfl (frO.up rfl (frO.up rfl (frO.up rfl h)))
theorem o_rqs (h : frO B X) (t : Int) : frO B (rqs X t) := o_clast (frO.up rfl (frO.up rfl (frO.ite (frO.up rfl h) h))) _
theorem o_thr (h : frO B X) (q : Int) : frO B (thr X q) := frO.up rfl (o_nt (frO.up rfl h) _)
theorem o_pre (h : frO B X) (q : Int) : frO B (pre X q) := frO.up rfl (frO.up rfl (frO.up rfl (o_nt (frO.up rfl h) _)))
theorem o_rns (h : frO B X) (q : Int) : frO B (rns X q) := o_nt (frO.up rfl (frO.up rfl h)) _
theorem o_schD (h : frO B X) : frO B (schD X) := frO.ite (o_rns (o_pre (frO.up rfl h) _) _) h
theorem o_stq (h : frO B X) (t : Int) : ∀ n : Nat, frO B (stq t n X)
  | 0 => h
  | n + 1 => frO.ite (o_clast (o_stq h t n) _) (o_stq h t n)
theorem o_sts (h : frO B X) (t m : Int) : frO B (sts X t m) := o_stq (frO.up rfl h) t 400
theorem o_rmA (h : frO B X) (a : Int) : frO B (rmA X a) := frO.ite (frO.ite (o_nt h _) (o_rqs h _)) (frO.ite (frO.ite (o_nt h _) (o_sts h _ _)) h)
theorem o_rmE (h : frO B X) (a : Int) : frO B (rmE X a) := frO.ite (frO.up rfl h) (frO.up rfl h)
theorem o_rme (h : frO B X) (a : Int) : frO B (rme X a) := o_rmE (o_rmA (o_nt h _) a) a
theorem o_rmm (h : frO B X) (c : Int) : ∀ n : Nat, frO B (rmm X c n)
  | 0 => h
  | n + 1 => frO.ite (o_rme (o_rmm h c n) _) (o_rmm h c n)
theorem o_rt1 (h : frO B X) (c : Int) : frO B (rt1 X c) := frO.ite (o_rmm (frO.up rfl (frO.up rfl (frO.up rfl h))) c _) (frO.up rfl h)
theorem o_rtk (h : frO B X) (c : Int) : frO B (rtk X c) := o_stl (o_rt1 h c)
theorem o_rts (h : frO B X) (c : Int) : ∀ n : Nat, frO B (rts X c n)
  | 0 => h
  | n + 1 => o_rtk (o_rts h c n) c
theorem o_rtw (h : frO B X) (c k : Int) : frO B (rtw X c k) := frO.ite (o_lks (o_rts h c _)) (frO.up rfl h)
theorem o_rwn (h : frO B X) (c : Int) : ∀ n : Nat, frO B (rwn X c n)
  | 0 => h
  | n + 1 => o_rtk (frO.up rfl (o_rwn h c n)) c
theorem o_row (h : frO B X) : ∀ n : Nat, frO B (row X n)
  | 0 => h
  | n + 1 => o_rwn (o_row h n) n _
theorem o_opD (h : frO B X) : frO B (opD X) := frO.ite (o_row (frO.up rfl h) _) (frO.up rfl h)
theorem o_gof (h : frO B X) : frO B (gof X) := fun _ => gof_om X
theorem o_calM (h : frO B X) (i : Int) : frO B (calM X i) := frO.ite (frO.up rfl h) h
theorem o_rs4 (h : frO B X) (m : Int) : ∀ n : Nat, frO B (rs4 X m n)
  | 0 => h
  | n + 1 => frO.ite (o_rqs (o_rs4 h m n) _) (o_rs4 h m n)
theorem o_rs6 (h : frO B X) (m : Int) : ∀ n : Nat, frO B (rs6 X m n)
  | 0 => h
  | n + 1 => frO.ite (frO.up rfl (frO.up rfl (frO.up rfl (o_rs6 h m n)))) (o_rs6 h m n)
theorem o_rs7 (h : frO B X) (m : Int) : frO B (rs7 X m) := o_rs6 (o_rs4 (o_nt (frO.st _ _) _) m _) m _
end FRO
/-- tapes are the same -/
def TPR (A B : AMem) : Prop := (A 1 0 1) = (B 11 0 2) ∧ (0 ≤ (B 11 0 2) ∧ (B 11 0 2) ≤ 4000) ∧ ∀ i : Int, 0 ≤ i → i < (B 11 0 2) → (A 8193300 0 (i)) = iAnd (B 8193084 0 (i)) 255
/-- faults are the same -/
def FLR (A B : AMem) : Prop := (A 4 0 2) = (B 11 0 13) ∧ (A 4 0 3) = (B 11 0 14) ∧ ((A 65582 0 (0)) = -1 ∧ (A 65837 0 (0)) = 0 ∧ (A 98852 2 (0)) = 0 ∧ (A 98854 2 (0)) = 0) ∧ OM B
/-- a thing of the reference's plan -/
def thg (B : AMem) (s i : Int) : Prop := (0 ≤ s ∧ s ≤ 6) ∧ 0 ≤ i ∧ i < (if s = 2 then mrs B else (B 14408 0 (s)))
/-- a byte of a name in the reference -/
def nby (B : AMem) (s i : Int) (k : Nat) : Int := if (k : Int) < (B 917578 0 (64 * s + i)) then iAnd (B 8193095 0 (((B 917577 0 (64 * s + i)) + k))) 255 else 0
/-- eight bytes of it, from k on -/
def npk (B : AMem) (s i : Int) (k : Nat) : Nat → Int
  | 0 => 0
  | b + 1 => lOr (lShl (npk B s i k b) 8) (nby B s i (k + b))
/-- names are the same -/
def NMR (A B : AMem) : Prop := ∀ s i : Int, thg B s i → (0 ≤ (B 917577 0 (64 * s + i)) ∧ 0 ≤ (B 917578 0 (64 * s + i)) ∧ (B 917578 0 (64 * s + i)) ≤ 12 ∧ (B 917577 0 (64 * s + i)) + (B 917578 0 (64 * s + i)) ≤ 4000) ∧ (A 98852 s (i)) = npk B s i 0 8 ∧ (A 98854 s (i)) = npk B s i 8 8
def INV (n : Int) (A B : AMem) : Prop := RL n A B ∧ Std A ∧ TPR A B ∧ FLR A B ∧ NMR A B
theorem TPR.fr {A A' B B' : AMem} (p : TPR A B) (h : frC A A') (k : frR B B') : TPR A' B' := by
  have a1 : (A' 1 0 1) = (A 1 0 1) := h _ _ _ rfl
  have a2 : ∀ i, (A' 8193300 0 (i)) = (A 8193300 0 (i)) := fun i => h _ _ _ rfl
  have b1 : (B' 11 0 2) = (B 11 0 2) := k _ _ _ rfl
  have b2 : ∀ i, (B' 8193084 0 (i)) = (B 8193084 0 (i)) := fun i => k _ _ _ rfl
  unfold TPR
  simp only [a1, a2, b1, b2]
  exact p
theorem FLR.fr {A A' B B' : AMem} (p : FLR A B) (h : frC A A') (k : frR B B') (o : frO B B') : FLR A' B' := by
  have a1 : (A' 4 0 2) = (A 4 0 2) := h _ _ _ rfl
  have a2 : (A' 4 0 3) = (A 4 0 3) := h _ _ _ rfl
  have b1 : (B' 11 0 13) = (B 11 0 13) := k _ _ _ rfl
  have b2 : (B' 11 0 14) = (B 11 0 14) := k _ _ _ rfl
  have a3 : (A' 65582 0 (0)) = (A 65582 0 (0)) := h _ _ _ rfl
  have a4 : (A' 65837 0 (0)) = (A 65837 0 (0)) := h _ _ _ rfl
  have a5 : (A' 98852 2 (0)) = (A 98852 2 (0)) := h _ _ _ rfl
  have a6 : (A' 98854 2 (0)) = (A 98854 2 (0)) := h _ _ _ rfl
  unfold FLR
  rw [a1, a2, a3, a4, a5, a6, b1, b2]
  exact ⟨p.1, p.2.1, p.2.2.1, o p.2.2.2⟩
theorem npk_fr {B B' : AMem} (k : frR B B') (s i : Int) (j : Nat) : ∀ b : Nat, npk B' s i j b = npk B s i j b
  | 0 => rfl
  | b + 1 => by
    have b1 : ∀ x, (B' 917578 0 (x)) = (B 917578 0 (x)) := fun x => k _ _ _ rfl
    have b2 : ∀ x, (B' 917577 0 (x)) = (B 917577 0 (x)) := fun x => k _ _ _ rfl
    have b3 : ∀ x, (B' 8193095 0 (x)) = (B 8193095 0 (x)) := fun x => k _ _ _ rfl
    unfold npk nby
    rw [npk_fr k s i j b, b1, b2, b3]
theorem NMR.fr {A A' B B' : AMem} (p : NMR A B) (h : frC A A') (k : frR B B') : NMR A' B' := by
  intro s i z
  have b0 : ∀ x, (B' 14408 0 (x)) = (B 14408 0 (x)) := fun x => k _ _ _ rfl
  have z2 : thg B s i := by
    unfold thg at z ⊢
    rw [k.mrE, b0] at z
    exact z
  have q := p s i z2
  have a1 : (A' 98852 s (i)) = (A 98852 s (i)) := h _ _ _ rfl
  have a2 : (A' 98854 s (i)) = (A 98854 s (i)) := h _ _ _ rfl
  have b1 : ∀ x, (B' 917578 0 (x)) = (B 917578 0 (x)) := fun x => k _ _ _ rfl
  have b2 : ∀ x, (B' 917577 0 (x)) = (B 917577 0 (x)) := fun x => k _ _ _ rfl
  rw [a1, a2, b1, b2, npk_fr k, npk_fr k]
  exact q
theorem INV.go {n n' : Int} {A A' B B' : AMem} (p : INV n A B) (r : RL n' A' B') (s : Std A') (h : frC A A') (k : frR B B') (o : frO B B') : INV n' A' B' := ⟨r, s, p.2.2.1.fr h k, p.2.2.2.1.fr h k o, p.2.2.2.2.fr h k⟩
theorem INV.mono {n n' : Int} {A B : AMem} (p : INV n A B) (h : n ≤ n') : INV n' A B := ⟨p.1.mono h, p.2⟩
