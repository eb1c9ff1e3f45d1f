/-! ===== the two parsers over the same text ===== -/
section LNK10
variable {M M1 V : AMem} {n : Nat}
theorem bytes_eq (tp : TPR M M) (hn : (n : Int) ≤ (M 11 0 2)) (e : ∀ k : Int, (M1 8193084 0 (k)) = (M 8193084 0 (k))) (bt : BT M1 n V) : ((nfm V) 11 0 5) = n ∧ ∀ k : Int, 0 ≤ k → bya (nfm V) k = cby (ktz M) (n : Int) k := by
  have f := bt.f
  have l : ((nfm V) 11 0 5) = n := by rw [nfm_o (fun _ => by decide)]; exact f.2.1.2.1
  refine ⟨l, fun k k0 => ?_⟩
  unfold bya cby
  rw [l]
  by_cases c : k < n
  · have e1 : ((nfm V) 8193085 0 (k)) = w8 (M 8193084 0 (k)) := by rw [nfm_o (fun e => by cases e), f.2.2.1 k k0 c, e k]
    have e2 : ((ktz M) 8193300 0 (k)) = iAnd (M 8193084 0 (k)) 255 := by rw [ktz_o (fun e => by cases e)]; exact tp.2.2 k k0 (by omega)
    rw [if_pos c, if_pos c, e1, e2, and255, and255]
    unfold w8
    omega
  · rw [if_neg c, if_neg c]
theorem tk_eq (h4 : n ≤ 4000) (tp : TPR M M) (hn : (n : Int) ≤ (M 11 0 2)) (e : ∀ k : Int, (M1 8193084 0 (k)) = (M 8193084 0 (k))) (bt : BT M1 n V) : tkm (nfm V) = ktm M n ∧ tln (nfm V) = ktl M n := by
  obtain ⟨l, q⟩ := bytes_eq tp hn e bt
  have z := bya_n (nfm V)
  rw [l] at z
  have h4' : (n : Int) ≤ 4000 := by omega
  constructor
  · show tkz (bya (nfm V)) ((nfm V) 11 0 5) = _
    rw [l]
    exact tkz_c h4' z q
  · show (lst (bya (nfm V)) ((nfm V) 11 0 5)).toNat = _
    rw [l, lst_c h4' z q]
theorem rt_of {V1 Y : AMem} (fw : FW (scm V1) Y) : ∀ t : Nat, t ≤ tln V1 → (Y 8194111 0 ((t : Int))) = tkP (V1 11 0 5) (pos (bya V1) (V1 11 0 5) t) ∧ (Y 8194112 0 ((t : Int))) = tkS (bya V1) (V1 11 0 5) (pos (bya V1) (V1 11 0 5) t) ∧ (Y 8194113 0 ((t : Int))) = tkV (bya V1) (V1 11 0 5) (pos (bya V1) (V1 11 0 5) t) := fun t ht => by
  have q := sct_t V1 (tln V1 + 1) t (by omega)
  have e1 : (Y 8194111 0 ((t : Int))) = ((scm V1) 8194111 0 ((t : Int))) := fw _ _ _ (by decide) (by decide) (by decide) (by decide) (by decide) (fun e => by cases e)
  have e2 : (Y 8194112 0 ((t : Int))) = ((scm V1) 8194112 0 ((t : Int))) := fw _ _ _ (by decide) (by decide) (by decide) (by decide) (by decide) (fun e => by cases e)
  have e3 : (Y 8194113 0 ((t : Int))) = ((scm V1) 8194113 0 ((t : Int))) := fw _ _ _ (by decide) (by decide) (by decide) (by decide) (by decide) (fun e => by cases e)
  rw [e1, e2, e3]
  exact ⟨q.2.1, q.2.2.1, q.2.2.2⟩
theorem xt_of {Y : AMem} (bt : BT M1 n V) (fw : FW (scm (nfm V)) Y) : ∀ k : Int, 0 ≤ k → k < n → iAnd (Y 8193085 0 (k)) 255 = bya (nfm V) k ∧ -128 ≤ (Y 8193085 0 (k)) ∧ (Y 8193085 0 (k)) ≤ 127 := fun k k0 k1 => by
  have f := bt.f
  have l : ((nfm V) 11 0 5) = n := by rw [nfm_o (fun _ => by decide)]; exact f.2.1.2.1
  have e1 : ((nfm V) 8193085 0 (k)) = w8 (M1 8193084 0 (k)) := by rw [nfm_o (fun e => by cases e), f.2.2.1 k k0 k1]
  have e2 : (Y 8193085 0 (k)) = w8 (M1 8193084 0 (k)) := by rw [fw _ _ _ (by decide) (by decide) (by decide) (by decide) (by decide) (fun e => by cases e), scm_o (by decide) (by decide) (by decide) (by decide) (fun e => by cases e), e1]
  unfold bya
  rw [l, if_pos k1, e1, e2]
  refine ⟨rfl, ?_⟩
  unfold w8
  omega
theorem CT_c {X W : AMem} {b : Int → Int} {m p t : Int} (h : CT X b m p t) (e : ∀ g : Nat, g = 8194837 ∨ g = 8194070 ∨ g = 8194071 ∨ g = 8194584 ∨ g = 8194585 → W g 0 t = X g 0 t) : CT W b m p t := by
  have e1 : (W 8194837 0 (t)) = (X 8194837 0 (t)) := e _ (by decide)
  have e2 : (W 8194070 0 (t)) = (X 8194070 0 (t)) := e _ (by decide)
  have e3 : (W 8194584 0 (t)) = (X 8194584 0 (t)) := e _ (by decide)
  have e4 : (W 8194585 0 (t)) = (X 8194585 0 (t)) := e _ (by decide)
  have e5 : (W 8194071 0 (t)) = (X 8194071 0 (t)) := e _ (by decide)
  unfold CT at h ⊢
  rw [e1, e2, e3, e4, e5]
  exact h
theorem ct_of {Y : AMem} (fo : FO (kxm M n) Y) : ∀ t : Nat, t ≤ ktl M n → CT (nfk Y) (cby (ktz M) (n : Int)) (n : Int) (pos (cby (ktz M) (n : Int)) (n : Int) t) (t : Int) := fun t ht => by
  refine CT_c (ctk_t (ktz M) (n : Int) (ktl M n + 1) t (by omega)) (fun g hg => ?_)
  have n4 : g ≠ 4 := by omega
  rw [nfk_o n4, fo g 0 t (by omega) (by omega) (by omega) (by omega) (by omega) (by omega) (by omega) (by omega) (by omega)]
/-- names and values are the same -/
theorem ln_w {Y0 Y : AMem} {F : Nat} (h4 : n ≤ 4000) (tp : TPR M M) (hn : (n : Int) ≤ (M 11 0 2)) (e : ∀ k : Int, (M1 8193084 0 (k)) = (M 8193084 0 (k))) (bt : BT M1 n V) (fw : FW (scm (nfm V)) Y0) (fo : FO (kxm M n) Y) (hF : F ≤ ktl M n) : LN Y0 (nfk Y) (ktm M n) F := by
  obtain ⟨l, q⟩ := bytes_eq tp hn e bt
  have te := tk_eq h4 tp hn e bt
  have z := bya_n (nfm V)
  have rt := rt_of fw
  rw [te.2] at rt
  rw [l] at z rt
  have r := ln_of (M := Y0) (Y := nfk Y) (b := bya (nfm V)) (b' := cby (ktz M) (n : Int)) (n := (n : Int)) (T := ktl M n) (F := F) (by omega) z (bya_b _) q rt (xt_of bt fw) (ct_of fo) hF
  have e1 : tkz (bya (nfm V)) (n : Int) = ktm M n := tkz_c (by omega) z q
  rw [e1] at r
  exact r
/-- places are the same -/
theorem pl_eq {Y0 Y : AMem} (h4 : n ≤ 4000) (tp : TPR M M) (hn : (n : Int) ≤ (M 11 0 2)) (e : ∀ k : Int, (M1 8193084 0 (k)) = (M 8193084 0 (k))) (bt : BT M1 n V) (fw : FW (scm (nfm V)) Y0) {t : Nat} (ht : t ≤ ktl M n) : (Y0 8194111 0 ((t : Int))) = ((kxm M n) 8194070 0 ((t : Int))) := by
  obtain ⟨l, q⟩ := bytes_eq tp hn e bt
  have te := tk_eq h4 tp hn e bt
  have z := bya_n (nfm V)
  have rt := rt_of fw
  rw [te.2] at rt
  rw [l] at z rt
  have e2 : ((kxm M n) 8194070 0 ((t : Int))) = tkP (n : Int) (pos (cby (ktz M) (n : Int)) (n : Int) t) := (ctk_t (ktz M) (n : Int) (ktl M n + 1) t (by omega)).2.1
  rw [(rt t ht).1, e2, pos_c (by omega) z q]
end LNK10
/-- what walk 1 found is what the class found -/
theorem flt_eq {Y0 Y1 W : AMem} {K : Nat → Int} {T F : Nat} (c1 : C1 Y0 K T F) (c2 : C2 W K T F) (ln : LN Y0 W K F) (fs : FS Y1 (SN Y0 K F noQ)) :
    ((∀ t : Nat, t < F → KF W K t 0) → (Y1 11 0 11) = 0) ∧ ((Y1 11 0 11) = 0 → (∀ t k, ¬ SN Y0 K F noQ t k) ∧ (Y1 11 0 12) = -1) ∧ ∀ (t : Nat) (k : Int), t < F → KF W K t k → ¬ k = 0 → (∀ u : Nat, u < t → KF W K u 0) → (Y1 11 0 11) = k ∧ (Y1 11 0 12) = (Y1 8194111 0 ((t : Int))) := by
  obtain ⟨f1, f2⟩ := fault_eq c1 c2 ln
  refine ⟨fun h => ?_, fun h => ?_, fun t k t1 t2 t3 t4 => ?_⟩
  · rcases fs with ⟨a, _⟩ | ⟨t, k, a, _⟩
    · exact a.1
    · exact absurd a (f1 h t k)
  · rcases fs with ⟨e, a⟩ | ⟨t, k, a, b, _⟩
    · exact ⟨a, e.2⟩
    · exfalso
      rcases a with ⟨u, _, _, r⟩ | ⟨_, r⟩
      · have := RP_k r
        omega
      · exact r
  · obtain ⟨g1, g2⟩ := f2 t k t1 t2 t3 t4
    rcases fs with ⟨_, a⟩ | ⟨t', k', a, b, c, d⟩
    · exact absurd g1 (a _ _)
    · have x := g2 t' k' a
      have y := d t k g1
      have e1 : t' = (t : Int) := by omega
      have e2 : k' = k := by omega
      rw [b, c, e1, e2]
      exact ⟨rfl, rfl⟩
