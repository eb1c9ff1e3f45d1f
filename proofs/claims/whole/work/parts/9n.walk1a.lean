/-! ===== the reference's walk 1: what it finds ===== -/
/-- the least of what was found -/
def FS (M : AMem) (S : Int → Int → Prop) : Prop := (((M 11 0 11) = 0 ∧ (M 11 0 12) = -1) ∧ ∀ t k, ¬ S t k) ∨ ∃ t k, S t k ∧ (M 11 0 11) = k ∧ (M 11 0 12) = (M 8194111 0 (t)) ∧ ∀ t' k', S t' k' → t < t' ∨ (t = t' ∧ k ≤ k')
theorem FS.cg {M : AMem} {S S' : Int → Int → Prop} (h : FS M S) (e : ∀ t k, S t k ↔ S' t k) : FS M S' := by
  rcases h with ⟨h1, h2⟩ | ⟨t, k, h1, h2, h3, h4⟩
  · exact Or.inl ⟨h1, fun t k q => h2 t k ((e t k).mpr q)⟩
  · exact Or.inr ⟨t, k, (e t k).mp h1, h2, h3, fun t' k' q => h4 t' k' ((e t' k').mpr q)⟩
theorem FS.mm {M M' : AMem} {S : Int → Int → Prop} (h : FS M S) (e1 : (M' 11 0 11) = (M 11 0 11)) (e2 : (M' 11 0 12) = (M 11 0 12)) (e3 : ∀ t : Int, (M' 8194111 0 (t)) = (M 8194111 0 (t))) : FS M' S := by
  unfold FS
  rw [e1, e2]
  simp only [e3]
  exact h
/-- places grow -/
def PM (M : AMem) (T : Nat) : Prop := ∀ a b : Int, 0 ≤ a → a < b → b ≤ T → (M 8194111 0 (a)) < (M 8194111 0 (b))
theorem FS.add {M : AMem} {S : Int → Int → Prop} {T : Nat} (hp : PM M T) (hS : ∀ t k, S t k → 0 ≤ t ∧ t ≤ T ∧ 1 ≤ k) (h : FS M S) {t k : Int} (ht : 0 ≤ t ∧ t ≤ T) (hk : 1 ≤ k) : FS (pfd M k t) (fun a b => S a b ∨ (a = t ∧ b = k)) := by
  have w1 : ((mup (mup M 11 0 11 (k)) 11 0 12 ((M 8194111 0 (t)))) 11 0 11) = k := by rw [mu_ni (by decide), mup_same]
  have w2 : ((mup (mup M 11 0 11 (k)) 11 0 12 ((M 8194111 0 (t)))) 11 0 12) = (M 8194111 0 (t)) := mup_same _ _ _ _ _
  have w3 : ∀ x : Int, ((mup (mup M 11 0 11 (k)) 11 0 12 ((M 8194111 0 (t)))) 8194111 0 (x)) = (M 8194111 0 (x)) := fun x => by rw [mu_ng (by decide), mu_ng (by decide)]
  unfold pfd
  rcases h with ⟨h1, h2⟩ | ⟨t0, k0, h1, h2, h3, h4⟩
  · rw [if_pos (Or.inl h1.1)]
    refine Or.inr ⟨t, k, Or.inr ⟨rfl, rfl⟩, w1, by rw [w2, w3], ?_⟩
    rintro t' k' (q | ⟨rfl, rfl⟩)
    · exact absurd q (h2 _ _)
    · exact Or.inr ⟨rfl, Int.le_refl _⟩
  · have b0 := hS _ _ h1
    have hne : ¬ (M 11 0 11) = 0 := by omega
    have m1 := fun c => hp t t0 ht.1 c b0.2.1
    have m2 := fun c => hp t0 t b0.1 c ht.2
    rw [h2, h3]
    by_cases c : (M 8194111 0 (t)) < (M 8194111 0 (t0)) ∨ ((M 8194111 0 (t)) = (M 8194111 0 (t0)) ∧ k < k0)
    · rw [if_pos (Or.inr c)]
      have lt : t < t0 ∨ (t = t0 ∧ k < k0) := by
        by_cases c1 : t < t0
        · exact Or.inl c1
        · by_cases c2 : t0 < t
          · have := m2 c2; omega
          · have e : t = t0 := by omega
            rw [e] at c ⊢
            exact Or.inr ⟨rfl, by omega⟩
      refine Or.inr ⟨t, k, Or.inr ⟨rfl, rfl⟩, w1, by rw [w2, w3], ?_⟩
      rintro t' k' (q | ⟨rfl, rfl⟩)
      · have := h4 _ _ q; omega
      · exact Or.inr ⟨rfl, Int.le_refl _⟩
    · rw [if_neg (by rintro (q | q); exact hne (by omega); exact c q)]
      refine Or.inr ⟨t0, k0, Or.inl h1, h2, h3, ?_⟩
      rintro t' k' (q | ⟨rfl, rfl⟩)
      · exact h4 _ _ q
      · by_cases c1 : t' < t0
        · exact absurd (Or.inl (m1 c1)) c
        · by_cases c2 : t0 < t'
          · exact Or.inl c2
          · have e : t0 = t' := by omega
            refine Or.inr ⟨e, ?_⟩
            rw [e] at c
            omega
/-! what is wrong with a token, by its role -/
section RP
variable (M : AMem) (K : Nat → Int)
/-- token t - 2 d belongs to the same NAMES as token t -/
def bk (t d : Nat) : Prop := 2 * d ≤ t ∧ ∀ e : Nat, 1 ≤ e → e ≤ d → K (t - 2 * e + 1) = 4
/-- the ITEM of a token -/
def itf (t : Nat) : Int := (dnI K (t + 1) : Int) - 1
abbrev rol (t : Nat) : Int := dro (dst K t) (K t)
/-- its name -/
def nmf (t : Nat) : Int := (M 1433667 0 ((itf K t)))
def vl (t : Nat) : Int := (M 8194113 0 (t))
/-- the same name ahead -/
def ahn (t : Nat) : Prop := ∃ d : Nat, 1 ≤ d ∧ bk K t d ∧ sam M ((t - 2 * d : Nat) : Int) t
/-- an internal resource ahead -/
def iah (t : Nat) : Prop := ∃ d : Nat, 1 ≤ d ∧ bk K t d ∧ srt M ((t - 2 * d : Nat) : Int) = 2 ∧ pin M (mng M ((t - 2 * d : Nat) : Int))
/-- an ITEM waits for something -/
def wtn (m : Int) : Prop := ∃ u : Nat, (M 1433667 0 (m)) + 1 ≤ u ∧ u < (M 1433668 0 (m)) ∧ K u = 34
/-- an ITEM waits for an event -/
def wtf (m e : Int) : Prop := ∃ u d : Nat, (M 1433667 0 (m)) + 1 ≤ u ∧ u < (M 1433668 0 (m)) ∧ K u = 34 ∧ (∀ c : Nat, c < d → K (u + 2 + 2 * c) = 4) ∧ mng M ((u + 1 + 2 * d : Nat) : Int) = e
def RQl (r : Int) (t : Nat) (k : Int) : Prop :=
  if r = 1 then (k = 2 ∧ mng M t ≠ itf K t) ∨ (k = 6 ∧ pmo (M 1433666 0 ((itf K t))) ≤ (M 1433669 0 ((itf K t))))
  else if r = 2 then k = 2 ∧ ∃ u : Nat, nmf M K t < u ∧ u < t ∧ rol K u = 2 ∧ K u = K t
  else if r = 3 then (k = 3 ∧ srt M t ≠ 2) ∨ (k = 5 ∧ srt M t = 2 ∧ (pin M (mng M t) ∨ prf M (mng M t) = -1))
  else if r = 4 then (k = 2 ∧ ahn M K t) ∨ (k = 3 ∧ srt M t ≠ 2) ∨ (k = 5 ∧ srt M t = 2 ∧ pin M (mng M t) ∧ ((M 1433666 0 ((itf K t))) = 5 ∨ iah M K t))
  else if r = 5 then k = 3 ∧ srt M t ≠ 3
  else if r = 6 ∨ r = 7 then k = 3 ∧ srt M t ≠ 4
  else if r = 8 then (k = 3 ∧ srt M t ≠ 1) ∨ (k = 5 ∧ srt M t = 1 ∧ srt M ((t - 1 : Nat) : Int) = 4 ∧ ¬ wtf M K (mng M ((t - 1 : Nat) : Int)) (mng M t))
  else if r = 9 then (k = 2 ∧ ahn M K t) ∨ (k = 3 ∧ srt M t ≠ 1)
  else if r = 10 then (k = 2 ∧ ahn M K t) ∨ (k = 3 ∧ srt M t ≠ 0)
  else if r = 11 then k = 4 ∧ (vl M t < 0 ∨ 63 < vl M t)
  else if r = 12 then (k = 4 ∧ (vl M t < 1 ∨ 8 < vl M t)) ∨ (k = 5 ∧ 1 < vl M t ∧ wtn M K (itf K t))
  else if r = 13 then k = 4 ∧ (vl M t < 1 ∨ 65535 < vl M t)
  else if r = 14 then k = 4 ∧ (vl M t < 1 ∨ 1000 < vl M t)
  else if r = 15 then k = 4 ∧ (vl M t < 1 ∨ (M 8194113 0 ((nmf M K t + 2))) < vl M t)
  else if r = 16 then k = 4 ∧ (vl M t < 1 ∨ 16 < vl M t)
  else if r = 17 then k = 4 ∧ srt M (nmf M K t + 2) = 3 ∧ (vl M t < 1 ∨ (M 8194113 0 (((M 1433667 0 ((mng M (nmf M K t + 2)))) + 2))) < vl M t)
  else if r = 18 then k = 4 ∧ srt M (nmf M K t + 2) = 3 ∧ vl M t ≠ 0 ∧ (vl M t < (M 8194113 0 (((M 1433667 0 ((mng M (nmf M K t + 2)))) + 6))) ∨ (M 8194113 0 (((M 1433667 0 ((mng M (nmf M K t + 2)))) + 2))) < vl M t)
  else False
def RP (t : Nat) (k : Int) : Prop := RQl M K (rol K t) t k
/-- what is wrong with the tokens before n, and Q with token n -/
def SN (n : Nat) (Q : Int → Prop) (t k : Int) : Prop := (∃ u : Nat, u < n ∧ t = u ∧ RP M K u k) ∨ (t = n ∧ Q k)
end RP
theorem RP_k {M : AMem} {K : Nat → Int} {t : Nat} {k : Int} (h : RP M K t k) : 1 ≤ k := by
  unfold RP RQl at h
  generalize rol K t = r at h
  by_cases c : r = 1
  · rw [if_pos c] at h; omega
  rw [if_neg c] at h; clear c
  by_cases c : r = 2
  · rw [if_pos c] at h; omega
  rw [if_neg c] at h; clear c
  by_cases c : r = 3
  · rw [if_pos c] at h; omega
  rw [if_neg c] at h; clear c
  by_cases c : r = 4
  · rw [if_pos c] at h; omega
  rw [if_neg c] at h; clear c
  by_cases c : r = 5
  · rw [if_pos c] at h; omega
  rw [if_neg c] at h; clear c
  by_cases c : r = 6 ∨ r = 7
  · rw [if_pos c] at h; omega
  rw [if_neg c] at h; clear c
  by_cases c : r = 8
  · rw [if_pos c] at h; omega
  rw [if_neg c] at h; clear c
  by_cases c : r = 9
  · rw [if_pos c] at h; omega
  rw [if_neg c] at h; clear c
  by_cases c : r = 10
  · rw [if_pos c] at h; omega
  rw [if_neg c] at h; clear c
  by_cases c : r = 11
  · rw [if_pos c] at h; omega
  rw [if_neg c] at h; clear c
  by_cases c : r = 12
  · rw [if_pos c] at h; omega
  rw [if_neg c] at h; clear c
  by_cases c : r = 13
  · rw [if_pos c] at h; omega
  rw [if_neg c] at h; clear c
  by_cases c : r = 14
  · rw [if_pos c] at h; omega
  rw [if_neg c] at h; clear c
  by_cases c : r = 15
  · rw [if_pos c] at h; omega
  rw [if_neg c] at h; clear c
  by_cases c : r = 16
  · rw [if_pos c] at h; omega
  rw [if_neg c] at h; clear c
  by_cases c : r = 17
  · rw [if_pos c] at h; omega
  rw [if_neg c] at h; clear c
  by_cases c : r = 18
  · rw [if_pos c] at h; omega
  rw [if_neg c] at h; clear c
  cases h
abbrev FA (M Y : AMem) (K : Nat → Int) (n : Nat) (Q : Int → Prop) : Prop := FS Y (SN M K n Q)
abbrev noQ : Int → Prop := fun _ => False
theorem FA.fin {M Y : AMem} {K : Nat → Int} {n : Nat} {Q : Int → Prop} (h : FA M Y K n Q) (e : ∀ k, Q k ↔ RP M K n k) : FA M Y K (n + 1) noQ := by
  refine FS.cg h fun t k => ⟨?_, ?_⟩
  · rintro (⟨u, h1, h2, h3⟩ | ⟨h1, h2⟩)
    · exact Or.inl ⟨u, by omega, h2, h3⟩
    · exact Or.inl ⟨n, by omega, h1, (e k).mp h2⟩
  · rintro (⟨u, h1, h2, h3⟩ | ⟨h1, h2⟩)
    · by_cases c : u = n
      · subst c; exact Or.inr ⟨h2, (e k).mpr h3⟩
      · exact Or.inl ⟨u, by omega, h2, h3⟩
    · cases h2
theorem FA.skip {M Y : AMem} {K : Nat → Int} {n : Nat} (h : FA M Y K n noQ) (e : ∀ k, ¬ RP M K n k) : FA M Y K (n + 1) noQ := FA.fin h fun k => ⟨fun q => q.elim, fun q => absurd q (e k)⟩
theorem FA.cg {M Y : AMem} {K : Nat → Int} {n : Nat} {Q Q' : Int → Prop} (h : FA M Y K n Q) (e : ∀ k, Q k ↔ Q' k) : FA M Y K n Q' := FS.cg h fun t k => ⟨fun q => q.imp id (fun z => ⟨z.1, (e k).mp z.2⟩), fun q => q.imp id (fun z => ⟨z.1, (e k).mpr z.2⟩)⟩
theorem FA.add {M Y : AMem} {K : Nat → Int} {n T : Nat} {Q : Int → Prop} (h : FA M Y K n Q) (hp : PM Y T) (hn : n ≤ T) (hQ : ∀ k, Q k → 1 ≤ k) {k : Int} (hk : 1 ≤ k) : FA M (pfd Y k n) K n (fun b => Q b ∨ b = k) := by
  refine FS.cg (FS.add hp ?_ h (t := n) (k := k) (by omega) hk) fun a b => ⟨?_, ?_⟩
  · rintro t k' (⟨u, h1, h2, h3⟩ | ⟨h1, h2⟩)
    · have := RP_k h3; omega
    · have := hQ _ h2; omega
  · rintro ((q | ⟨q1, q2⟩) | ⟨q1, q2⟩)
    · exact Or.inl q
    · exact Or.inr ⟨q1, Or.inl q2⟩
    · exact Or.inr ⟨q1, Or.inr q2⟩
  · rintro (q | ⟨q1, q2 | q2⟩)
    · exact Or.inl (Or.inl q)
    · exact Or.inl (Or.inr ⟨q1, q2⟩)
    · exact Or.inr ⟨q1, q2⟩
