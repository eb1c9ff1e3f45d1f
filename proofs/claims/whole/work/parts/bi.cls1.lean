/-! ===== the class: no fault ===== -/
section CLS1
variable {Y : AMem} {K : Nat → Int} {T F : Nat}
theorem KF_n {t : Nat} (h : KF Y K t 0) : ¬ TWr Y K (rol K t) t ∧ ¬ UNr Y (rol K t) t ∧ ¬ ORr Y K (rol K t) t ∧ ¬ BRr Y K (rol K t) t ∧ ¬ TMr Y K (rol K t) t := by
  rcases h with ⟨h, _⟩ | ⟨h1, ⟨h, _⟩ | ⟨h2, ⟨h, _⟩ | ⟨h3, ⟨h, _⟩ | ⟨h4, ⟨h, _⟩ | ⟨h5, _⟩⟩⟩⟩⟩
  · exact absurd h (by decide)
  · exact absurd h (by decide)
  · exact absurd h (by decide)
  · exact absurd h (by decide)
  · exact absurd h (by decide)
  · exact ⟨h1, h2, h3, h4, h5⟩
theorem kno_c (hc : C2 Y K T F) (k0 : ∀ t : Nat, t < F → KF Y K t 0) {j : Nat} (hj : j < F) (hd : dit K j) : kno K j < pmo (K j - 10) := by
  obtain ⟨l, k2⟩ := dit_2 hc.ok hd hj
  have q := (KF_n (k0 (j + 1) (by omega))).2.2.2.2
  have ei : itf K (j + 1) = dnI K j := itf_d hd (nd_0 _ _) (by rw [k2]; decide)
  rw [rol_t hd k2] at q
  have q : ¬ pmo (Y 1366045 0 ((itf K (j + 1)))) ≤ (Y 1366046 0 ((itf K (j + 1)))) := fun z => q ⟨rfl, z⟩
  rw [ei, hc.gc.so j hj hd, hc.gc.nu j hj hd] at q
  unfold kno
  omega
theorem kno_l {j : Nat} (hj : j < F) (hd : dit K j) : kno K j < dnS K (K j - 10) F := by
  have e : dnS K (K j - 10) (j + 1) = dnS K (K j - 10) j + (if dit K j ∧ K j = K j - 10 + 10 then 1 else 0) := rfl
  rw [if_pos ⟨hd, by omega⟩] at e
  have := dnS_m (K := K) (K j - 10) (j + 1) F (by omega)
  unfold kno
  omega
theorem fh_of (hc : C2 Y K T F) (k0 : ∀ t : Nat, t < F → KF Y K t 0) : FH Y K := by
  have it := hc.gc.it
  have ex : ∀ m : Nat, (m : Int) < (Y 3 0 9) → ∃ j : Nat, j < F ∧ dit K j ∧ (m : Int) = dnI K j ∧ (Y 1366045 0 ((m : Int))) = K j - 10 ∧ (Y 1366046 0 ((m : Int))) = kno K j := fun m hm => by
    obtain ⟨j, f, hd, em, hj2, k2, na, dx, hf, en, so, nu⟩ := hc.item (m := (m : Int)) (by omega) hm
    exact ⟨j, by omega, hd, em, so, nu⟩
  refine FH.mk ?_ ?_ ⟨?_, ?_⟩ ?_
  · intro s a b
    rw [hc.gc.to s a b]
    exact ⟨(dnS_b K s F).1, dnS_l ⟨a, b⟩ (fun j hj hd => kno_c hc k0 hj hd)⟩
  · intro m hm
    obtain ⟨j, hj, hd, em, so, nu⟩ := ex m hm
    have l := hd.2.2
    show (Y 1366046 0 ((m : Int))) < (Y 14369 0 ((Y 1366045 0 ((m : Int)))))
    rw [so, nu, hc.gc.to _ (by omega) (by omega)]
    exact kno_l hj hd
  · intro m hm
    obtain ⟨j, hj, hd, em, so, nu⟩ := ex m hm
    show 0 ≤ (Y 1366046 0 ((m : Int))) ∧ (Y 1366046 0 ((m : Int))) < pmo (Y 1366045 0 ((m : Int)))
    rw [so, nu]
    exact ⟨(dnS_b K _ j).1, kno_c hc k0 hj hd⟩
  · rintro m m' hm hl ⟨e1, e2⟩
    obtain ⟨j, hj, hd, em, so, nu⟩ := ex m hm
    obtain ⟨j', hj', hd', em', so', nu'⟩ := ex m' (by omega)
    have e1 : K j - 10 = K j' - 10 := by rw [← so, ← so']; exact e1
    have e2 : kno K j = kno K j' := by rw [← nu, ← nu']; exact e2
    unfold kno at e2
    rw [← e1] at e2
    have := dnS_u hd hd' (s := K j - 10) (by omega) (by omega) e2
    subst this
    omega
  · intro m hm _
    unfold cvl
    have w : itm Y (m : Int) := Or.inr ⟨by omega, hm⟩
    rcases cfn_b hc w 16 with e | ⟨u, e, u1, u2, u3⟩
    · rw [if_pos e]; omega
    · rw [e, if_neg (by omega)]
      have q := (KF_n (k0 u u1)).2.2.1
      rw [u2] at q
      have q : ¬ (cvt Y u < 1 ∨ 16 < cvt Y u) := q
      unfold cvt at q
      omega
/-- as is told of a resource -/
theorem cno_3 (hc : C2 Y K T F) (k0 : ∀ t : Nat, t < F → KF Y K t 0) {m : Int} (h0 : 0 ≤ m) (h1 : m < (Y 3 0 9)) : cno Y K m 3 = -1 ∨ (1 ≤ cno Y K m 3 ∧ cno Y K m 3 < dnS K 2 F) := by
  have w : itm Y m := Or.inr ⟨h0, h1⟩
  unfold cno
  by_cases c : cio Y K m 3 = -1
  · rw [if_pos c]; exact Or.inl rfl
  · rw [if_neg c]
    right
    have ci := (cio_b hc w 3).resolve_left c
    obtain ⟨j, f, hd, em, hj2, k2, na, dx, hf, en, so, nu⟩ := hc.item ci.1 ci.2
    have s2 : (Y 1366045 0 ((cio Y K m 3))) = 2 := by
      unfold cio at c ⊢
      rcases cfn_b hc w 3 with e | ⟨u, e, u1, u2, u3⟩
      · rw [if_pos e] at c; exact absurd rfl c
      · rw [e, if_neg (by omega)] at c ⊢
        have q := (KF_n (k0 u u1)).2.1
        rw [u2] at q
        by_cases z : (Y 1366045 0 ((Y 8194076 0 ((u : Int))))) = 2
        · exact z
        · exact absurd ⟨by decide, Or.inr z⟩ q
    have e12 : K j = 12 := by omega
    rw [nu]
    have := kno_l (F := F) (by omega) hd
    unfold kno at this
    have p := dnS_p (K := K) (K j - 10) j
    rw [e12] at this p ⊢
    exact ⟨p, this⟩
theorem ab_of (hc : C2 Y K T F) (k0 : ∀ t : Nat, t < F → KF Y K t 0) (h0 : (Y 65582 0 (0)) = -1) {n2 : Nat} (t2 : (Y 14369 0 (2)) = n2) {Z1 Z : AMem} (tl : TL Y Z1 7) (l2 : L2 Y Z1 Z K (Y 3 0 9).toNat) : AB Z n2 := by
  have it := hc.gc.it
  have e2 : dnS K 2 F = n2 := by rw [← hc.gc.to 2 (by decide) (by decide)]; exact t2
  intro r r0 r1
  by_cases c : r = 0
  · left
    rw [c, l2.fr _ _ _ (fun m hm q => ?_), tl.1 _ _ _ (by decide)]
    · exact h0
    · rcases q with ⟨a, _⟩ | ⟨a, b, d, e⟩ | ⟨_, a, _⟩ | ⟨_, a, _⟩ | ⟨_, a, _⟩ | ⟨_, a, _⟩
      · exact absurd a (by decide)
      · have hm' : (m : Int) < (Y 3 0 9) := by omega
        obtain ⟨j, f, hd, em, hj2, k2, na, dx, hf, en, so, nu⟩ := hc.item (m := (m : Int)) (by omega) hm'
        have p := dnS_p (K := K) (K j - 10) j
        have s2 : K j - 10 = 2 := by rw [← so]; exact a
        have z : kY Y m = dnS K (K j - 10) j := nu
        rw [s2] at z p
        rw [if_pos rfl] at p
        omega
      · exact absurd a (by decide)
      · exact absurd a (by decide)
      · exact absurd a (by decide)
      · exact absurd a (by decide)
  · obtain ⟨j, a1, a2, a3, a4⟩ := dnS_o (K := K) 2 F r (by rw [if_pos rfl]; omega) (by omega)
    have im := dnI_s a2 a1
    obtain ⟨b, b1, b2⟩ := l2.sp (dnI K j) (by omega)
    have so : sY Y (dnI K j) = 2 := by show (Y 1366045 0 ((dnI K j : Int))) = 2; rw [hc.gc.so j a1 a2]; omega
    have nu : kY Y (dnI K j) = r := by show (Y 1366046 0 ((dnI K j : Int))) = r; rw [hc.gc.nu j a1 a2, show K j - 10 = 2 by omega]; exact a4
    have q := b2 65582 0 r (Or.inr (Or.inl ⟨so, Or.inr rfl, rfl, nu.symm⟩))
    rw [so, nu] at q
    have e : fth Y K (dnI K j : Int) 2 r b Z1 65582 0 r = cno Y K (dnI K j : Int) 3 := by
      unfold fth
      rw [if_pos rfl, mup_same]
    rw [e] at q
    show (Z 65582 0 (r)) = -1 ∨ _
    rw [q]
    rcases cno_3 hc k0 (m := (dnI K j : Int)) (by omega) (by omega) with z | z
    · exact Or.inl z
    · right; omega
end CLS1
