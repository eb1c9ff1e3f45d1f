/-! ===== both sides see the same: names, ITEMs ===== -/
def LN (M Y : AMem) (K : Nat → Int) (F : Nat) : Prop := (∀ a b : Nat, a < F → b < F → K a = 2 → K b = 2 → (sam M (a : Int) (b : Int) ↔ cam Y (a : Int) (b : Int))) ∧ (∀ t : Nat, t < F → K t = 3 → (M 8194113 0 ((t : Int))) = (Y 8194071 0 ((t : Int))) ∧ 0 ≤ (M 8194113 0 ((t : Int))) ∧ (M 8194113 0 ((t : Int))) ≤ 65535)
theorem LN.nm {M Y : AMem} {K : Nat → Int} {F : Nat} (h : LN M Y K F) : ∀ a b : Nat, a < F → b < F → K a = 2 → K b = 2 → (sam M (a : Int) (b : Int) ↔ cam Y (a : Int) (b : Int)) := h.1
theorem LN.va {M Y : AMem} {K : Nat → Int} {F : Nat} (h : LN M Y K F) : ∀ t : Nat, t < F → K t = 3 → (M 8194113 0 ((t : Int))) = (Y 8194071 0 ((t : Int))) ∧ 0 ≤ (M 8194113 0 ((t : Int))) ∧ (M 8194113 0 ((t : Int))) ≤ 65535 := h.2
theorem LN.mk {M Y : AMem} {K : Nat → Int} {F : Nat} (nm : ∀ a b : Nat, a < F → b < F → K a = 2 → K b = 2 → (sam M (a : Int) (b : Int) ↔ cam Y (a : Int) (b : Int))) (va : ∀ t : Nat, t < F → K t = 3 → (M 8194113 0 ((t : Int))) = (Y 8194071 0 ((t : Int))) ∧ 0 ≤ (M 8194113 0 ((t : Int))) ∧ (M 8194113 0 ((t : Int))) ≤ 65535) : LN M Y K F := ⟨nm, va⟩
theorem fnd_cg {p q : Nat → Bool} : ∀ (k j : Nat), (∀ i, j ≤ i → i < j + k → p i = q i) → fnd p k j = fnd q k j
  | 0, _, _ => rfl
  | k + 1, j, h => by
    have e := h j (by omega) (by omega)
    have ih := fnd_cg k (j + 1) (fun i a b => h i (by omega) (by omega))
    show (if p j = true then (j : Int) else fnd p k (j + 1)) = (if q j = true then (j : Int) else fnd q k (j + 1))
    rw [e, ih]
section EQ1
variable {M Y : AMem} {K : Nat → Int} {T F : Nat}
theorem dnI_u {i j : Nat} (hi : dit K i) (hj : dit K j) (h : dnI K i = dnI K j) : i = j := by
  by_cases a : i < j
  · have := dnI_s hi a; omega
  · by_cases b : j < i
    · have := dnI_s hj b; omega
    · omega
theorem LI (c1 : C1 M K T F) (c2 : C2 Y K T F) {m : Int} (h0 : 0 ≤ m) (h1 : m < (M 11 0 19)) : ∃ j f : Nat, dit K j ∧ m = dnI K j ∧ j + 2 ≤ F ∧ K (j + 1) = 2 ∧ dxt K (j + 2) f ∧ f ≤ F ∧ ((M 1433667 0 (m)) = (j + 1 : Nat) ∧ (Y 1366047 0 (m)) = (j + 1 : Nat)) ∧ ((M 1433668 0 (m)) = f ∧ (Y 1366048 0 (m)) = f) ∧ ((M 1433666 0 (m)) = K j - 10 ∧ (Y 1366045 0 (m)) = K j - 10) ∧ ((M 1433669 0 (m)) = dnS K (K j - 10) j ∧ (Y 1366046 0 (m)) = dnS K (K j - 10) j) := by
  obtain ⟨j, f, i1, i2, i3, i4, i5, i6, i7, i8, i9⟩ := c1.item h0 h1
  obtain ⟨j', f', k1, k2, k3, k4, k5, k6, k7, k8, k9, k10⟩ := c2.item h0 (by rw [c2.gc.it, ← c1.it]; exact h1)
  have e : j = j' := dnI_u i1 k1 (by omega)
  subst e
  have e2 := dxt_u i6 k6
  subst e2
  exact ⟨j, f, i1, i2, i3, i4, i6, i7, ⟨i5, k5⟩, ⟨i8, k8⟩, ⟨i9, k9⟩, by rw [i2]; exact c1.ga.nu j (by omega) i1, k10⟩
theorem its_eq (c1 : C1 M K T F) (c2 : C2 Y K T F) : (M 11 0 19) = (Y 3 0 9) := by rw [c1.it, c2.gc.it]
theorem mng_eq (c1 : C1 M K T F) (c2 : C2 Y K T F) (ln : LN M Y K F) {t : Nat} (ht : t < F) (k2 : K t = 2) : mng M (t : Int) = cmt Y t := by
  have e := c2.me t ht
  rw [if_pos k2] at e
  unfold cmt
  rw [e]
  unfold mng cmg
  rw [its_eq c1 c2]
  refine fnd_cg _ _ fun i a b => ?_
  have it := c1.it
  have it2 := its_eq c1 c2
  obtain ⟨j, f, i1, i2, i3, i4, i5, i6, i7, i8, i9⟩ := LI c1 c2 (m := (i : Int)) (by omega) (by omega)
  rw [i7.1, i7.2]
  exact decide_eq_decide.mpr (ln.nm (j + 1) t (by omega) ht i4 k2)
theorem cmt_b (c1 : C1 M K T F) (c2 : C2 Y K T F) {t : Nat} (ht : t < F) : cmt Y t = -1 ∨ (0 ≤ cmt Y t ∧ cmt Y t < (M 11 0 19)) := by
  have := me_b c2 ht
  unfold itm at this
  rw [its_eq c1 c2]
  exact this
theorem srt_eq (c1 : C1 M K T F) (c2 : C2 Y K T F) (ln : LN M Y K F) {t : Nat} (ht : t < F) (k2 : K t = 2) : srt M (t : Int) = if cmt Y t = -1 then -1 else (Y 1366045 0 ((cmt Y t))) := by
  unfold srt
  rw [mng_eq c1 c2 ln ht k2]
  by_cases c : cmt Y t = -1
  · rw [if_pos c, if_pos c]
  · rw [if_neg c, if_neg c]
    have b := (cmt_b c1 c2 ht).resolve_left c
    obtain ⟨j, f, i1, i2, i3, i4, i5, i6, i7, i8, i9, _⟩ := LI c1 c2 b.1 b.2
    rw [i9.1, i9.2]
theorem un_e (c1 : C1 M K T F) (c2 : C2 Y K T F) (ln : LN M Y K F) {t : Nat} (ht : t < F) (k2 : K t = 2) {r w : Int} (hr : rwt r = w) (hw : 0 ≤ w) : UNr Y r t ↔ srt M (t : Int) ≠ w := by
  unfold UNr
  rw [srt_eq c1 c2 ln ht k2, hr]
  by_cases c : cmt Y t = -1
  · rw [if_pos c]
    exact ⟨fun _ => by omega, fun _ => ⟨by omega, Or.inl c⟩⟩
  · rw [if_neg c]
    exact ⟨fun z => z.2.resolve_left c, fun z => ⟨by omega, Or.inr z⟩⟩
/-- the tokens of NAMES -/
theorem bk_s {s s' t : Nat} (e4 : ∀ s0, dt s0 4 = s → s0 = s') (e5 : ∀ s0 k, dt s0 k = s' → s0 = s ∧ k = 2) (h0 : s ≠ 0 ∧ s' ≠ 0) (h : dst K t = s) (k2 : K t = 2) : ∀ d : Nat, bk K t d → dst K (t - 2 * d) = s ∧ K (t - 2 * d) = 2 := by
  intro d
  induction d with
  | zero => intro _; exact ⟨h, k2⟩
  | succ d ih =>
    intro hb
    have i := ih ⟨by have := hb.1; omega, fun e a b => hb.2 e a (by omega)⟩
    have l := hb.1
    have k4 := hb.2 (d + 1) (by omega) (by omega)
    obtain ⟨v, e1, q1⟩ := st_p i.1 h0.1
    have ev : v = t - 2 * (d + 1) + 1 := by omega
    rw [ev, k4] at q1
    have q2 := e4 _ q1
    obtain ⟨w, e3, q3⟩ := st_p q2 h0.2
    have q4 := e5 _ _ q3
    rw [show t - 2 * (d + 1) = w by omega]
    exact q4
/-- a state of NAMES, with the one behind a name -/
def nst (s s' : Nat) : Prop := (s = 20 ∧ s' = 21) ∨ (s = 22 ∧ s' = 23) ∨ (s = 24 ∧ s' = 25) ∨ (s = 29 ∧ s' = 30) ∨ (s = 38 ∧ s' = 39)
theorem nst_e {s s' : Nat} (h : nst s s') : (∀ s0, dt s0 4 = s → s0 = s') ∧ (∀ s0 k, dt s0 k = s' → s0 = s ∧ k = 2) ∧ (s ≠ 0 ∧ s' ≠ 0) := by
  rcases h with ⟨rfl, rfl⟩ | ⟨rfl, rfl⟩ | ⟨rfl, rfl⟩ | ⟨rfl, rfl⟩ | ⟨rfl, rfl⟩
  · exact ⟨fun s0 q => by have := dp_20 _ _ q; omega, fun s0 k q => dp_21 _ _ q, by decide⟩
  · exact ⟨fun s0 q => by have := dp_22 _ _ q; omega, fun s0 k q => dp_23 _ _ q, by decide⟩
  · exact ⟨fun s0 q => by have := dp_24 _ _ q; omega, fun s0 k q => dp_25 _ _ q, by decide⟩
  · exact ⟨fun s0 q => by have := dp_29 _ _ q; omega, fun s0 k q => dp_30 _ _ q, by decide⟩
  · exact ⟨fun s0 q => by have := dp_38 _ _ q; omega, fun s0 k q => dp_39 _ _ q, by decide⟩
theorem bk_n {s s' t d : Nat} (hn : nst s s') (h : dst K t = s) (k2 : K t = 2) (hb : bk K t d) : dst K (t - 2 * d) = s ∧ K (t - 2 * d) = 2 := by
  have q := nst_e hn
  exact bk_s q.1 q.2.1 q.2.2 h k2 d hb
theorem can_e (ln : LN M Y K F) {s s' t : Nat} (ht : t < F) (hn : nst s s') (h : dst K t = s) (k2 : K t = 2) : ahn M K t ↔ can Y K t := by
  constructor
  · rintro ⟨d, a, b, c⟩
    have q := bk_n hn h k2 b
    have z := (ln.nm _ _ (by omega) ht q.2 k2).mp c
    exact ⟨d, a, b, z.1.symm, z.2.symm⟩
  · rintro ⟨d, a, b, c⟩
    have q := bk_n hn h k2 b
    exact ⟨d, a, b, (ln.nm _ _ (by omega) ht q.2 k2).mpr ⟨c.1.symm, c.2.symm⟩⟩
/-- an ITEM that is internal -/
theorem pin_e (c1 : C1 M K T F) (c2 : C2 Y K T F) {m : Int} (h0 : 0 ≤ m) (h1 : m < (M 11 0 19)) : pin M m ↔ cin Y K m := by
  obtain ⟨j, f, i1, i2, i3, i4, i5, i6, i7, i8, i9, _⟩ := LI c1 c2 h0 h1
  have hT := c1.FT
  have e : pin M m ↔ K (j + 2) = 17 := by
    show (M 8194110 0 ((M 1433667 0 (m)) + 1)) = 17 ↔ _
    rw [i7.1, show ((j + 1 : Nat) : Int) + 1 = ((j + 2 : Nat) : Int) by omega, c1.rk.2.2.1 (j + 2) (by omega)]
  rw [e]
  constructor
  · intro k
    refine ⟨by omega, j + 2, by rw [i7.2]; omega, ?_, k⟩
    rw [i8.2]
    have l := i5.1.1
    by_cases z : f = j + 2
    · exfalso
      have q := i5.2.2
      rw [z, k] at q
      have lt : j + 3 ≤ F := dok_lt c1.ok i3 (by rw [k]; decide)
      exact ok_9 (i := j + 3) c1.ok lt (show dt (dst K (j + 2)) (K (j + 2)) = 99 by rw [k, q]; rfl)
    · omega
  · rintro ⟨_, u, a, b, k⟩
    rw [i7.2] at a
    rw [i8.2] at b
    have u9 := ok_9 (i := u + 1) c1.ok (by omega)
    have e8 : dst K u = 8 := by
      have q : dt (dst K u) 17 ≠ 99 := by rw [← k]; exact u9
      generalize dst K u = s at q
      unfold dt at q
      split at q <;> first | rfl | exact absurd rfl q
    obtain ⟨v, e1, q1⟩ := st_p e8 (by decide)
    have q2 := dp_8 _ _ q1
    obtain ⟨w, e3, q3, q4⟩ := st_it q2.1 (by decide)
    have : w = j := by
      by_cases z : j < w
      · exfalso
        have nn : nd K (j + 1) f := nd_t (nd_1 (nd_0 _ _) i4 (by decide)) i5.1
        exact nd_d nn (by omega) (by omega) q3
      · have z2 : ¬ w < j := fun z2 => by
          have ev : v = j := by omega
          have k2 := q2.2
          rw [ev] at k2
          have := i1.2.2
          omega
        omega
    rw [← this, show w + 2 = u by omega]
    exact k
end EQ1
