/-! ===== the reference's walk 2 ===== -/
/-- only these groups change, at k alone -/
def ch (gs : List Nat) (k : Int) (Y0 Y : AMem) : Prop := ∀ (g : Nat) (t x : Int), (g ∈ gs → x ≠ k) → (g = 11 → x ≠ 22 ∧ x ≠ 48) → Y g t x = Y0 g t x
theorem ch_r (gs : List Nat) (k : Int) (Y : AMem) : ch gs k Y Y := fun _ _ _ _ _ => rfl
theorem ch_w {gs : List Nat} {k v : Int} {Y0 Y : AMem} {g : Nat} (h : ch gs k Y0 Y) (hg : g ∈ gs) : ch gs k Y0 (mup Y g 0 k v) := by
  intro g' t x a b
  by_cases e : g' = g
  · rw [mu_ni (by rw [e] at a; exact a hg)]; exact h g' t x a b
  · rw [mu_ng e]; exact h g' t x a b
theorem ch_n {gs : List Nat} {k v x0 : Int} {Y0 Y : AMem} (h : ch gs k Y0 Y) (hx : x0 = 22 ∨ x0 = 48) : ch gs k Y0 (mup Y 11 0 x0 v) := by
  intro g' t x a b
  by_cases e : g' = 11
  · have := b e
    rw [mu_ni (by omega)]; exact h g' t x a b
  · rw [mu_ng e]; exact h g' t x a b
/-- the ORed numbers of the names of a role -/
def bfo (M : AMem) (K : Nat → Int) (r : Int) (a : Nat) : Nat → Int
  | 0 => 0
  | n + 1 => if rol K (a + n) = r then iOr (bfo M K r a n) (iShl 1 (M 1433669 0 ((mng M ((a + n : Nat) : Int))))) else bfo M K r a n
theorem bfo_0 {M : AMem} {K : Nat → Int} {r : Int} {a : Nat} : ∀ n : Nat, (∀ u : Nat, a ≤ u → u < a + n → ¬ rol K u = r) → bfo M K r a n = 0
  | 0, _ => rfl
  | n + 1, h => by
    show (if rol K (a + n) = r then _ else _) = _
    rw [if_neg (h (a + n) (by omega) (by omega))]
    exact bfo_0 n (fun u x y => h u x (by omega))
/-- from a later begin, where nothing lies between -/
theorem bfo_s {M : AMem} {K : Nat → Int} {r : Int} {a b : Nat} (hab : a ≤ b) (h : ∀ u : Nat, a ≤ u → u < b → ¬ rol K u = r) : ∀ n : Nat, bfo M K r a (b - a + n) = bfo M K r b n
  | 0 => by
    show bfo M K r a (b - a) = 0
    exact bfo_0 _ (fun u x y => h u x (by omega))
  | n + 1 => by
    show (if rol K (a + (b - a + n)) = r then iOr (bfo M K r a (b - a + n)) (iShl 1 (M 1433669 0 ((mng M ((a + (b - a + n) : Nat) : Int))))) else bfo M K r a (b - a + n)) = (if rol K (b + n) = r then iOr (bfo M K r b n) (iShl 1 (M 1433669 0 ((mng M ((b + n : Nat) : Int))))) else bfo M K r b n)
    rw [show a + (b - a + n) = b + n by omega, bfo_s hab h n]
/-- a later end, where nothing lies between -/
theorem bfo_e {M : AMem} {K : Nat → Int} {r : Int} {a n : Nat} : ∀ d : Nat, (∀ u : Nat, a + n ≤ u → u < a + n + d → ¬ rol K u = r) → bfo M K r a (n + d) = bfo M K r a n
  | 0, _ => rfl
  | d + 1, h => by
    show (if rol K (a + (n + d)) = r then _ else _) = _
    rw [if_neg (h (a + (n + d)) (by omega) (by omega))]
    exact bfo_e d (fun u x y => h u x (by omega))
/-- within walk 2 -/
def P2 (M Y0 Y : AMem) (gs : List Nat) (k : Int) (i : Nat) : Prop := (PD M Y) ∧ (ch gs k Y0 Y) ∧ ((Y 11 0 22) = i)
theorem P2.pd {M Y0 Y : AMem} {gs : List Nat} {k : Int} {i : Nat} (h : P2 M Y0 Y gs k i) : PD M Y := h.1
theorem P2.cg {M Y0 Y : AMem} {gs : List Nat} {k : Int} {i : Nat} (h : P2 M Y0 Y gs k i) : ch gs k Y0 Y := h.2.1
theorem P2.nw {M Y0 Y : AMem} {gs : List Nat} {k : Int} {i : Nat} (h : P2 M Y0 Y gs k i) : (Y 11 0 22) = i := h.2.2
theorem P2.mk {M Y0 Y : AMem} {gs : List Nat} {k : Int} {i : Nat} (pd : PD M Y) (cg : ch gs k Y0 Y) (nw : (Y 11 0 22) = i) : P2 M Y0 Y gs k i := ⟨pd, cg, nw⟩
def gok (gs : List Nat) : Bool := gs.all (fun g => !(pdG g) && !(g == 11))
section W2
variable {M Y0 Y : AMem} {K : Nat → Int} {T F i : Nat} {gs : List Nat} {k : Int}
theorem PD_n (h : PD M Y) {x : Int} (v : Int) (hx : x = 22 ∨ x = 48) : PD M (mup Y 11 0 x v) := by
  refine ⟨fun g y e => ?_, ?_, ?_, ?_⟩
  · rw [mu_ng (by rintro rfl; cases e)]; exact h.1 g y e
  · rw [mu_ni (by omega)]; exact h.2.1
  · rw [mu_ni (by omega)]; exact h.2.2.1
  · rw [mu_ni (by omega)]; exact h.2.2.2
theorem PD_w (h : PD M Y) {g : Nat} (t x v : Int) (hg : pdG g = false) (h11 : g ≠ 11) : PD M (mup Y g t x v) := by
  refine ⟨fun g' y e => ?_, ?_, ?_, ?_⟩
  · rw [mu_ng (by rintro rfl; rw [hg] at e; cases e)]; exact h.1 g' y e
  · rw [mu_ng h11.symm]; exact h.2.1
  · rw [mu_ng h11.symm]; exact h.2.2.1
  · rw [mu_ng h11.symm]; exact h.2.2.2
theorem P2.n (h : P2 M Y0 Y gs k i) (j : Nat) : P2 M Y0 (mup Y 11 0 22 ((j : Int))) gs k j := P2.mk (PD_n h.pd _ (by decide)) (ch_n h.cg (by decide)) (mup_same _ _ _ _ _)
theorem P2.b (h : P2 M Y0 Y gs k i) (v : Int) : P2 M Y0 (mup Y 11 0 48 (v)) gs k i := P2.mk (PD_n h.pd _ (by decide)) (ch_n h.cg (by decide)) (by rw [mu_ni (by decide)]; exact h.nw)
theorem P2.w (h : P2 M Y0 Y gs k i) {g : Nat} (v : Int) (hg : g ∈ gs) (hp : pdG g = false) (h11 : g ≠ 11) : P2 M Y0 (mup Y g 0 k v) gs k i := P2.mk (PD_w h.pd _ _ _ hp h11) (ch_w h.cg hg) (by rw [mu_ng h11.symm]; exact h.nw)
theorem PD.rkq {T F : Nat} {K : Nat → Int} (h : PD M Y) (hc : C1 M K T F) : RK Y K T := h.rk hc.rk
theorem NU2 {w : Int} (hc : C1 M K T F) (hy : P2 M Y0 Y gs k i) (hi : i + 2 ≤ F) (k1 : K i = w) (k2 : K (i + 1) = 3) : ∃ Y1, Runs 26 [aR 11 0, aI w] Y (fun r M' => r = some (aI ((i + 1 : Nat) : Int)) ∧ M' = Y1) ∧ P2 M Y0 Y1 gs k (i + 2) ∧ (Y1 11 0 48) = (Y 11 0 48) ∧ ∀ (g : Nat) (t x : Int), g ≠ 11 → Y1 g t x = Y g t x := ⟨_, NU1 (hy.pd.rkq hc) hy.nw (by have := hc.FT; omega) k1 k2, hy.n (i + 2), mu_ni (by decide), fun g t x h => mu_ng h⟩
theorem WA2 {w : Int} (hc : C1 M K T F) (hy : P2 M Y0 Y gs k i) (hi : i ≤ F) (k1 : K i = w) : ∃ Y1, Runs 27 [aR 11 0, aI w] Y (fun r M' => r = some (aI 1) ∧ M' = Y1) ∧ P2 M Y0 Y1 gs k (i + 1) ∧ (Y1 11 0 48) = (Y 11 0 48) ∧ ∀ (g : Nat) (t x : Int), g ≠ 11 → Y1 g t x = Y g t x := ⟨_, WA1 (hy.pd.rkq hc) hy.nw (by have := hc.FT; omega) k1, hy.n (i + 1), mu_ni (by decide), fun g t x h => mu_ng h⟩
theorem NX2 (hy : P2 M Y0 Y gs k i) : ∃ Y1, (mup Y 11 0 22 ((Y 11 0 22) + 1)) = Y1 ∧ P2 M Y0 Y1 gs k (i + 1) ∧ (Y1 11 0 48) = (Y 11 0 48) ∧ ∀ (g : Nat) (t x : Int), g ≠ 11 → Y1 g t x = Y g t x := ⟨_, by rw [hy.nw]; rfl, hy.n (i + 1), mu_ni (by decide), fun g t x h => mu_ng h⟩
theorem RG2 (hc : C1 M K T F) (hw : (M 11 0 21) = 2) (hy : P2 M Y0 Y gs k i) (t : Nat) (ht : t ≤ F) (lo hi : Int) : Runs 28 [aR 11 0, aI (t : Int), aI lo, aI hi] Y (fun r M' => r = none ∧ M' = Y) := by
  have r := R_range (t : Int) lo hi Y (by have := hc.FT; have := hc.T4; omega)
  have e : prg Y t lo hi = Y := if_neg (by rw [hy.pd.2.2.2, hw]; rintro ⟨z, _⟩; cases z)
  rw [e] at r
  exact r
end W2
