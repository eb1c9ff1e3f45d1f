/-! ===== what the parsers change, and what they don't ===== -/
def pcC (g : Nat) : Bool := g == 1 || g == 2 || g == 3 || g == 4 || g == 8194837 || g == 8194070 || g == 8194071 || g == 8194584 || g == 8194585 || g == 8194842 || g == 8194075 || g == 8194076 || g == 1366045 || g == 1366046 || g == 1366047 || g == 1366048 || g == 14369
def pcR (g : Nat) (i : Int) : Bool := g == 8193085 || g == 14406 || g == 8194110 || g == 8194111 || g == 8194112 || g == 8194113 || g == 1433666 || g == 1433667 || g == 1433668 || g == 1433669 || (g == 11 && decide (i < 50))
def frP (A A' : AMem) : Prop := ∀ (g : Nat) (t i : Int), pcC g = false → A' g t i = A g t i
def frQ (B B' : AMem) : Prop := ∀ (g : Nat) (t i : Int), pcR g i = false → B' g t i = B g t i
theorem frP.tr {A B C : AMem} (h : frP A B) (k : frP B C) : frP A C := fun g t i d => (k g t i d).trans (h g t i d)
theorem frQ.tr {A B C : AMem} (h : frQ A B) (k : frQ B C) : frQ A C := fun g t i d => (k g t i d).trans (h g t i d)
theorem frP.up {A : AMem} {g : Nat} {t i v : Int} (hd : pcC g = true) : frP A (mup A g t i v) := fun g' t' i' h' => mup_other (by
  rintro ⟨rfl, _, rfl⟩
  rw [hd] at h'
  cases h')
theorem frQ.up {A : AMem} {g : Nat} {t i v : Int} (hd : pcR g i = true) : frQ A (mup A g t i v) := fun g' t' i' h' => mup_other (by
  rintro ⟨rfl, _, rfl⟩
  rw [hd] at h'
  cases h')
theorem ctk_fr (M : AMem) (n : Int) (j : Nat) : frP M (ctk M n j) := fun g t i d => ctk_o M n g t i ⟨(fun e => by subst e; cases d), (fun e => by subst e; cases d), (fun e => by subst e; cases d), (fun e => by subst e; cases d), (fun e => by subst e; cases d)⟩ (fun e => by subst e; cases d) j
theorem FO_fr {X Y : AMem} (h : FO X Y) : frP X Y := fun g t i d => h g t i (fun e => by subst e; cases d) (fun e => by subst e; cases d) (fun e => by subst e; cases d) (fun e => by subst e; cases d) (fun e => by subst e; cases d) (fun e => by subst e; cases d) (fun e => by subst e; cases d) (fun e => by subst e; cases d) (fun e => by subst e; cases d)
theorem q11 {i : Int} {P : Prop} (d : pcR 11 i = false) (h : ¬ i < 50 → P) : P := h (by
  have e : pcR 11 i = decide (i < 50) := rfl
  rw [e] at d
  exact of_decide_eq_false d)
theorem BT_fr {M V : AMem} {n : Nat} (h : BT M n V) : frQ M V := fun g t i d => h.f.1 g t i (fun e => by subst e; cases d) (fun e => by subst e; cases d) (fun e => by
  subst e
  exact q11 d (fun z => by omega))
theorem nfm_fr (V : AMem) : frQ V (nfm V) := (frQ.up rfl).tr (frQ.up rfl)
theorem sct_fr (V : AMem) (j : Nat) : frQ V (sct V j) := fun g t i d => sct_o V g t i (fun e => by subst e; cases d) (fun e => by subst e; cases d) (fun e => by subst e; cases d) (fun e => by subst e; cases d) (fun e => by
  subst e
  exact q11 d (fun z => by omega)) j
theorem FW_fr {S Y : AMem} (h : FW S Y) : frQ S Y := fun g t i d => h g t i (fun e => by subst e; cases d) (fun e => by subst e; cases d) (fun e => by subst e; cases d) (fun e => by subst e; cases d) (fun e => by subst e; cases d) (fun e => by
  subst e
  exact q11 d (fun z => by omega))
theorem tld_fr (Y : AMem) : frQ Y (tld Y) := (frQ.up rfl).tr (frQ.up rfl)
theorem frQ.mrE {B B' : AMem} (h : frQ B B') : mrs B' = mrs B := by
  unfold mrs
  rw [h 14408 0 2 rfl]
theorem frQ.inE {B B' : AMem} (h : frQ B B') (t : Int) : inn B' t = inn B t := by
  unfold inn
  rw [h 14408 0 2 rfl, h 98390 0 t rfl]
  exact fnd_congr (fun i => by rw [h 65867 0 i rfl]) _ _
theorem frQ.mb {B B' : AMem} (h : frQ B B') (m : MB B) : MB B' := by
  unfold MB at *
  rw [h 14408 0 0 rfl, h 14408 0 1 rfl, h 14408 0 2 rfl, h 14408 0 3 rfl, h 14408 0 4 rfl, h 14408 0 5 rfl, h 14408 0 6 rfl]
  exact m
theorem PL.fp {A A' B B' : AMem} (p : PL A B) (h : frP A A') (k : frQ B B') : PL A' B' := by
  have a1 : ∀ x, A' 14370 0 x = A 14370 0 x := fun _ => h _ _ _ rfl
  have a2 : ∀ x, A' 8 x 0 = A 8 x 0 := fun _ => h _ _ _ rfl
  have a3 : ∀ x, A' 8 x 1 = A 8 x 1 := fun _ => h _ _ _ rfl
  have a4 : ∀ x, A' 8 x 2 = A 8 x 2 := fun _ => h _ _ _ rfl
  have a5 : ∀ x, A' 8 x 3 = A 8 x 3 := fun _ => h _ _ _ rfl
  have a6 : ∀ x, A' 8 x 4 = A 8 x 4 := fun _ => h _ _ _ rfl
  have a7 : ∀ x, A' 8 x 6 = A 8 x 6 := fun _ => h _ _ _ rfl
  have a8 : ∀ x, A' 65579 0 x = A 65579 0 x := fun _ => h _ _ _ rfl
  have a9 : ∀ x, A' 65837 0 x = A 65837 0 x := fun _ => h _ _ _ rfl
  have a10 : ∀ x, A' 65580 0 x = A 65580 0 x := fun _ => h _ _ _ rfl
  have a11 : ∀ x, A' 9 x 0 = A 9 x 0 := fun _ => h _ _ _ rfl
  have a12 : ∀ x, A' 9 x 1 = A 9 x 1 := fun _ => h _ _ _ rfl
  have a13 : ∀ x, A' 9 x 2 = A 9 x 2 := fun _ => h _ _ _ rfl
  have a14 : ∀ x, A' 10 x 0 = A 10 x 0 := fun _ => h _ _ _ rfl
  have a15 : ∀ x, A' 10 x 1 = A 10 x 1 := fun _ => h _ _ _ rfl
  have a16 : ∀ x, A' 10 x 2 = A 10 x 2 := fun _ => h _ _ _ rfl
  have a17 : ∀ x, A' 10 x 3 = A 10 x 3 := fun _ => h _ _ _ rfl
  have a18 : ∀ x, A' 10 x 4 = A 10 x 4 := fun _ => h _ _ _ rfl
  have a19 : ∀ x, A' 10 x 5 = A 10 x 5 := fun _ => h _ _ _ rfl
  have b1 : ∀ x, B' 14408 0 x = B 14408 0 x := fun _ => k _ _ _ rfl
  have b2 : ∀ x, B' 98385 0 x = B 98385 0 x := fun _ => k _ _ _ rfl
  have b3 : ∀ x, B' 98642 0 x = B 98642 0 x := fun _ => k _ _ _ rfl
  have b4 : ∀ x, B' 98387 0 x = B 98387 0 x := fun _ => k _ _ _ rfl
  have b5 : ∀ x, B' 98388 0 x = B 98388 0 x := fun _ => k _ _ _ rfl
  have b6 : ∀ x, B' 98389 0 x = B 98389 0 x := fun _ => k _ _ _ rfl
  have b7 : ∀ x, B' 32855 0 x = B 32855 0 x := fun _ => k _ _ _ rfl
  have b8 : ∀ x, B' 65613 0 x = B 65613 0 x := fun _ => k _ _ _ rfl
  have b9 : ∀ x, B' 65867 0 x = B 65867 0 x := fun _ => k _ _ _ rfl
  have b10 : ∀ x, B' 65612 0 x = B 65612 0 x := fun _ => k _ _ _ rfl
  have b11 : ∀ x, B' 32846 0 x = B 32846 0 x := fun _ => k _ _ _ rfl
  have b12 : ∀ x, B' 32847 0 x = B 32847 0 x := fun _ => k _ _ _ rfl
  have b13 : ∀ x, B' 32848 0 x = B 32848 0 x := fun _ => k _ _ _ rfl
  have b14 : ∀ x, B' 98393 0 x = B 98393 0 x := fun _ => k _ _ _ rfl
  have b15 : ∀ x, B' 98394 0 x = B 98394 0 x := fun _ => k _ _ _ rfl
  have b16 : ∀ x, B' 98395 0 x = B 98395 0 x := fun _ => k _ _ _ rfl
  have b17 : ∀ x, B' 98396 0 x = B 98396 0 x := fun _ => k _ _ _ rfl
  have b18 : ∀ x, B' 98397 0 x = B 98397 0 x := fun _ => k _ _ _ rfl
  have b19 : ∀ x, B' 98398 0 x = B 98398 0 x := fun _ => k _ _ _ rfl
  have b20 : ∀ x, B' 98399 0 x = B 98399 0 x := fun _ => k _ _ _ rfl
  have m := k.mb p.mb
  have p := p.2
  unfold PL
  refine ⟨m, ?_⟩
  simp only [k.mrE, k.inE, a1, a2, a3, a4, a5, a6, a7, a8, a9, a10, a11, a12, a13, a14, a15, a16, a17, a18, a19, b1, b2, b3, b4, b5, b6, b7, b8, b9, b10, b11, b12, b13, b14, b15, b16, b17, b18, b19, b20]
  exact p
theorem npk_fq {B B' : AMem} (k : frQ B B') (s i : Int) (j : Nat) : ∀ b : Nat, npk B' s i j b = npk B s i j b
  | 0 => rfl
  | b + 1 => by
    have b1 : ∀ x, (B' 917578 0 (x)) = (B 917578 0 (x)) := fun x => k _ _ _ rfl
    have b2 : ∀ x, (B' 917577 0 (x)) = (B 917577 0 (x)) := fun x => k _ _ _ rfl
    have b3 : ∀ x, (B' 8193095 0 (x)) = (B 8193095 0 (x)) := fun x => k _ _ _ rfl
    unfold npk nby
    rw [npk_fq k s i j b, b1, b2, b3]
theorem NMR.fp {A A' B B' : AMem} (p : NMR A B) (h : frP A A') (k : frQ B B') : NMR A' B' := by
  intro s i z
  have b0 : ∀ x, (B' 14408 0 (x)) = (B 14408 0 (x)) := fun x => k _ _ _ rfl
  have z2 : thg B s i := by
    unfold thg at z ⊢
    rw [k.mrE, b0] at z
    exact z
  have q := p s i z2
  have a1 : (A' 98852 s (i)) = (A 98852 s (i)) := h _ _ _ rfl
  have a2 : (A' 98854 s (i)) = (A 98854 s (i)) := h _ _ _ rfl
  have b1 : ∀ x, (B' 917578 0 (x)) = (B 917578 0 (x)) := fun x => k _ _ _ rfl
  have b2 : ∀ x, (B' 917577 0 (x)) = (B 917577 0 (x)) := fun x => k _ _ _ rfl
  rw [a1, a2, b1, b2, npk_fq k, npk_fq k]
  exact q
theorem OFc.fp {A A' : AMem} (h : OFc A) (k : frP A A') : OFc A' := by
  refine OFc.mk ?_ ?_ ⟨?_, ?_⟩ ?_ ?_ ?_ ?_ ?_ ?_ ?_ ?_ ?_ ?_
  · rw [k _ _ _ rfl]; exact h.oo
  · rw [k _ _ _ rfl]; exact h.sd
  · rw [k _ _ _ rfl]; exact h.un.1
  · rw [k _ _ _ rfl]; exact h.un.2
  · rw [k _ _ _ rfl]; exact h.cu
  · intro t a b; rw [k _ _ _ rfl, k _ _ _ rfl, k _ _ _ rfl, k _ _ _ rfl, k _ _ _ rfl]; exact h.rq t a b
  · intro t a b; rw [k _ _ _ rfl, k _ _ _ rfl]; exact h.hx t a b
  · intro t a b; rw [k _ _ _ rfl]; exact h.hc t a b
  · rw [k _ _ _ rfl]; exact h.bc
  · intro t a b; rw [k _ _ _ rfl]; exact h.ca t a b
  · intro t a b; rw [k _ _ _ rfl]; exact h.wg t a b
  · intro t a b; rw [k _ _ _ rfl]; exact h.iu t a b
  · intro t a b; rw [k _ _ _ rfl]; exact h.ee t a b
  · rw [k _ _ _ rfl]; exact h.rz
theorem OFr.fq {n : Int} {B B' : AMem} (h : OFr B n) (k : frQ B B') : OFr B' n := by
  refine OFr.mk ?_ ?_ ?_ ?_ ?_ ?_ ?_ ?_ ?_ ?_ ?_ ?_ ?_ ?_ ?_ ⟨?_, ?_⟩
  · intro t a b; rw [k _ _ _ rfl]; exact h.st t a b
  · intro t a b; rw [k _ _ _ rfl]; exact h.hi t a b
  · intro t a b; rw [k _ _ _ rfl]; exact h.tk t a b
  · intro t a b; rw [k 11 _ _ rfl, k _ _ _ rfl]; exact h.ky t a b
  · rw [k _ _ _ rfl]; exact h.se
  · intro t a b; rw [k _ _ _ rfl]; exact h.hv t a b
  · rw [k _ _ _ rfl]; exact h.dp
  · rw [k _ _ _ rfl]; exact h.sh
  · intro t a b; rw [k _ _ _ rfl]; exact h.bg t a b
  · intro t a b; rw [k _ _ _ rfl]; exact h.ca t a b
  · intro t a b; rw [k _ _ _ rfl]; exact h.wg t a b
  · intro t a b; rw [k _ _ _ rfl]; exact h.iu t a b
  · intro t a b; rw [k _ _ _ rfl]; exact h.zs t a b
  · intro t a b; rw [k _ _ _ rfl]; exact h.ee t a b
  · rw [k _ _ _ rfl]; exact h.oo
  · rw [k _ _ _ rfl]; exact h.bt.1
  · rw [k _ _ _ rfl]; exact h.bt.2
/-- only the parsers did something -/
theorem rl_p {n : Int} {A A' B B' : AMem} (h : RL n A B) (h0 : (B 11 0 50) = 0) (k : frP A A') (q : frQ B B') : RL n A' B' := by
  obtain ⟨c, r⟩ := off_of h h0
  refine off_rl (h.pl.fp k q) (c.fp k) (r.fq q) ?_ ?_ ?_ ?_ ?_
  · rw [k _ _ _ rfl, q _ _ _ rfl]; exact h.on.2
  · rw [k _ _ _ rfl, q _ _ _ rfl]; exact ⟨h.no.1, h.no.2.1, h.no.2.2.1⟩
  · intro i a b; rw [k _ _ _ rfl, q _ _ _ rfl]; exact h.na i a b
  · intro c a b
    rw [q 14408 0 3 rfl] at b
    rw [k _ _ _ rfl, k _ _ _ rfl, q 32876 _ _ rfl, q 32846 _ _ rfl, q 32877 _ _ rfl, q 32847 _ _ rfl]
    exact h.co c a b
  · have x := h.ko
    unfold CO at x ⊢
    refine ⟨fun a a0 a1 => ?_, fun c c0 c1 => ?_⟩
    · rw [q _ _ _ rfl]; exact x.1 a a0 a1
    · rw [q 32846 _ _ rfl, q 32876 _ _ rfl]; exact x.2 c c0 c1
