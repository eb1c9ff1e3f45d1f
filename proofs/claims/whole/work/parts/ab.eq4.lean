/-! ===== both sides find the same FAULT ===== -/
section EQ4
variable {M Y : AMem} {K : Nat → Int} {T F t : Nat}
theorem KF_0 : KF Y K t 0 ↔ ¬ TWr Y K (rol K t) t ∧ ¬ UNr Y (rol K t) t ∧ ¬ ORr Y K (rol K t) t ∧ ¬ BRr Y K (rol K t) t ∧ ¬ TMr Y K (rol K t) t := by
  unfold KF
  constructor
  · rintro (⟨a, _⟩ | ⟨h1, ⟨a, _⟩ | ⟨h2, ⟨a, _⟩ | ⟨h3, ⟨a, _⟩ | ⟨h4, ⟨a, _⟩ | ⟨h5, _⟩⟩⟩⟩⟩)
    · exact absurd a (by decide)
    · exact absurd a (by decide)
    · exact absurd a (by decide)
    · exact absurd a (by decide)
    · exact absurd a (by decide)
    · exact ⟨h1, h2, h3, h4, h5⟩
  · rintro ⟨h1, h2, h3, h4, h5⟩
    exact Or.inr ⟨h1, Or.inr ⟨h2, Or.inr ⟨h3, Or.inr ⟨h4, Or.inr ⟨h5, rfl⟩⟩⟩⟩⟩
theorem KF_ex : ∃ k, KF Y K t k ∧ 0 ≤ k ∧ k ≤ 6 := by
  by_cases h1 : TWr Y K (rol K t) t
  · exact ⟨2, Or.inl ⟨rfl, h1⟩, by decide⟩
  by_cases h2 : UNr Y (rol K t) t
  · exact ⟨3, Or.inr ⟨h1, Or.inl ⟨rfl, h2⟩⟩, by decide⟩
  by_cases h3 : ORr Y K (rol K t) t
  · exact ⟨4, Or.inr ⟨h1, Or.inr ⟨h2, Or.inl ⟨rfl, h3⟩⟩⟩, by decide⟩
  by_cases h4 : BRr Y K (rol K t) t
  · exact ⟨5, Or.inr ⟨h1, Or.inr ⟨h2, Or.inr ⟨h3, Or.inl ⟨rfl, h4⟩⟩⟩⟩, by decide⟩
  by_cases h5 : TMr Y K (rol K t) t
  · exact ⟨6, Or.inr ⟨h1, Or.inr ⟨h2, Or.inr ⟨h3, Or.inr ⟨h4, Or.inl ⟨rfl, h5⟩⟩⟩⟩⟩, by decide⟩
  · exact ⟨0, KF_0.mpr ⟨h1, h2, h3, h4, h5⟩, by decide⟩
theorem KF_u {k k' : Int} (h : KF Y K t k) (h' : KF Y K t k') : k = k' := by
  unfold KF at h h'
  rcases h with ⟨a, p1⟩ | ⟨p1, ⟨a, p2⟩ | ⟨p2, ⟨a, p3⟩ | ⟨p3, ⟨a, p4⟩ | ⟨p4, ⟨a, p5⟩ | ⟨p5, a⟩⟩⟩⟩⟩ <;>
  rcases h' with ⟨b, q1⟩ | ⟨q1, ⟨b, q2⟩ | ⟨q2, ⟨b, q3⟩ | ⟨q3, ⟨b, q4⟩ | ⟨q4, ⟨b, q5⟩ | ⟨q5, b⟩⟩⟩⟩⟩ <;>
  first | (rw [a, b]; done) | (exfalso; first | exact q1 p1 | exact p1 q1 | exact q2 p2 | exact p2 q2 | exact q3 p3 | exact p3 q3 | exact q4 p4 | exact p4 q4 | exact q5 p5 | exact p5 q5)
/-- token t: the reference finds what the class says -/
def XE (M Y : AMem) (K : Nat → Int) (t : Nat) : Prop := ∃ A B C D E : Prop, (∀ k, RP M K t k ↔ (k = 2 ∧ A) ∨ (k = 3 ∧ B) ∨ (k = 4 ∧ C) ∨ (k = 5 ∧ D) ∨ (k = 6 ∧ E)) ∧ (A ↔ TWr Y K (rol K t) t) ∧ (B ↔ UNr Y (rol K t) t) ∧ (C ↔ ORr Y K (rol K t) t) ∧ (¬ UNr Y (rol K t) t → (D ↔ BRr Y K (rol K t) t)) ∧ (E ↔ TMr Y K (rol K t) t)
theorem XE_A (h : XE M Y K t) {k : Int} (hk : RP M K t k) : ∃ k', KF Y K t k' ∧ ¬ k' = 0 ∧ k' ≤ k := by
  obtain ⟨A, B, C, D, E, h0, h1, h2, h3, h4, h5⟩ := h
  have q := (h0 k).mp hk
  by_cases p1 : TWr Y K (rol K t) t
  · exact ⟨2, Or.inl ⟨rfl, p1⟩, by decide, by omega⟩
  by_cases p2 : UNr Y (rol K t) t
  · refine ⟨3, Or.inr ⟨p1, Or.inl ⟨rfl, p2⟩⟩, by decide, ?_⟩
    rcases q with q | q | q | q | q
    · exact absurd (h1.mp q.2) p1
    all_goals omega
  by_cases p3 : ORr Y K (rol K t) t
  · refine ⟨4, Or.inr ⟨p1, Or.inr ⟨p2, Or.inl ⟨rfl, p3⟩⟩⟩, by decide, ?_⟩
    rcases q with q | q | q | q | q
    · exact absurd (h1.mp q.2) p1
    · exact absurd (h2.mp q.2) p2
    all_goals omega
  by_cases p4 : BRr Y K (rol K t) t
  · refine ⟨5, Or.inr ⟨p1, Or.inr ⟨p2, Or.inr ⟨p3, Or.inl ⟨rfl, p4⟩⟩⟩⟩, by decide, ?_⟩
    rcases q with q | q | q | q | q
    · exact absurd (h1.mp q.2) p1
    · exact absurd (h2.mp q.2) p2
    · exact absurd (h3.mp q.2) p3
    all_goals omega
  rcases q with q | q | q | q | q
  · exact absurd (h1.mp q.2) p1
  · exact absurd (h2.mp q.2) p2
  · exact absurd (h3.mp q.2) p3
  · exact absurd ((h4 p2).mp q.2) p4
  · exact ⟨6, Or.inr ⟨p1, Or.inr ⟨p2, Or.inr ⟨p3, Or.inr ⟨p4, Or.inl ⟨rfl, h5.mp q.2⟩⟩⟩⟩⟩, by decide, by omega⟩
theorem XE_B (h : XE M Y K t) {k : Int} (hk : KF Y K t k) (h0k : ¬ k = 0) : RP M K t k := by
  obtain ⟨A, B, C, D, E, h0, h1, h2, h3, h4, h5⟩ := h
  rw [h0]
  unfold KF at hk
  rcases hk with ⟨a, p1⟩ | ⟨p1, ⟨a, p2⟩ | ⟨p2, ⟨a, p3⟩ | ⟨p3, ⟨a, p4⟩ | ⟨p4, ⟨a, p5⟩ | ⟨p5, a⟩⟩⟩⟩⟩
  · exact Or.inl ⟨a, h1.mpr p1⟩
  · exact Or.inr (Or.inl ⟨a, h2.mpr p2⟩)
  · exact Or.inr (Or.inr (Or.inl ⟨a, h3.mpr p3⟩))
  · exact Or.inr (Or.inr (Or.inr (Or.inl ⟨a, (h4 p2).mpr p4⟩)))
  · exact Or.inr (Or.inr (Or.inr (Or.inr ⟨a, h5.mpr p5⟩)))
  · exact absurd a h0k
/-- a role without names: what it may have -/
theorem XE_n {r : Int} (hr : rol K t = r) (h1 : ¬ r = 1) (hw : rwt r = -1) {C D : Prop} (RE : ∀ k, RQl M K r t k ↔ (k = 4 ∧ C) ∨ (k = 5 ∧ D)) (c : C ↔ ORr Y K r t) (d : D ↔ BRr Y K r t) (tw : ¬ TWr Y K r t) : XE M Y K t := by
  refine ⟨False, False, C, D, False, fun k => ?_, ?_⟩
  · rw [RP_e hr, RE]
    simp only [and_false, false_or, or_false]
  · rw [hr]
    exact ⟨⟨False.elim, fun z => tw z⟩, ⟨False.elim, fun z => z.1 hw⟩, c, fun _ => d, ⟨False.elim, fun z => h1 z.1⟩⟩
/-- a role with a name -/
theorem XE_m {r w : Int} (c1 : C1 M K T F) (c2 : C2 Y K T F) (ln : LN M Y K F) (ht : t < F) (k2 : K t = 2) (hr : rol K t = r) (h1 : ¬ r = 1) (hw : rwt r = w) (hw0 : 0 ≤ w) {A D : Prop} (RE : ∀ k, RQl M K r t k ↔ (k = 2 ∧ A) ∨ (k = 3 ∧ srt M (t : Int) ≠ w) ∨ (k = 5 ∧ D)) (a : A ↔ TWr Y K r t) (or : ¬ ORr Y K r t) (d : srt M (t : Int) = w → (D ↔ BRr Y K r t)) : XE M Y K t := by
  refine ⟨A, srt M (t : Int) ≠ w, False, D, False, fun k => ?_, ?_⟩
  · rw [RP_e hr, RE]
    simp only [and_false, false_or, or_false]
  · rw [hr]
    have u := un_e c1 c2 ln ht k2 hw hw0
    exact ⟨a, u.symm, ⟨False.elim, fun z => or z⟩, fun z => d (Classical.not_not.mp (fun q => z (u.mpr q))), ⟨False.elim, fun z => h1 z.1⟩⟩
theorem vl_e (ln : LN M Y K F) (ht : t < F) (k3 : K t = 3) : vl M t = cvt Y t ∧ 0 ≤ vl M t ∧ vl M t ≤ 65535 := ln.va t ht k3
theorem nm_own (c1 : C1 M K T F) (c2 : C2 Y K T F) (ht : t < F) : ∃ j f : Nat, dit K j ∧ j ≤ t ∧ nd K (j + 1) (t + 1) ∧ itf K t = dnI K j ∧ j + 2 ≤ F ∧ K (j + 1) = 2 ∧ dxt K (j + 2) f ∧ f ≤ F ∧ nmf M K t = (j + 1 : Nat) ∧ (Y 1366047 0 ((itf K t))) = (j + 1 : Nat) ∧ (Y 1366048 0 ((itf K t))) = f ∧ (M 1433666 0 ((itf K t))) = K j - 10 ∧ (Y 1366045 0 ((itf K t))) = K j - 10 ∧ (M 1433669 0 ((itf K t))) = (Y 1366046 0 ((itf K t))) ∧ (M 1433668 0 ((itf K t))) = f ∧ (M 1433667 0 ((itf K t))) = (j + 1 : Nat) := by
  obtain ⟨j, o1, o2, o3, o4⟩ := own_ex c1.ok t ht
  have em := dnI_s o1 (show j < F by omega)
  obtain ⟨j', f, i1, i2, i3, i4, i5, i6, i7, i8, i9, i10⟩ := LI c1 c2 (m := itf K t) (by omega) (by rw [c1.it]; omega)
  have e : j = j' := dnI_u o1 i1 (by omega)
  subst e
  exact ⟨j, f, o1, o2, o3, o4, i3, i4, i5, i6, i7.1, i7.2, i8.2, i9.1, i9.2, by rw [i10.1, i10.2], i8.1, i7.1⟩
end EQ4
