/-! ===== what walk 1 says does not hang on the walk ===== -/
def PE (M Y : AMem) : Prop := (∀ (g : Nat) (x : Int), pdG g = true → Y g 0 x = M g 0 x) ∧ (Y 11 0 19) = (M 11 0 19)
theorem W3.pe {M Y : AMem} (h : W3 M Y) : PE M Y := ⟨fun g x q => h g 0 x (fun e => by rw [e] at q; cases q), h _ _ _ (fun _ => by decide)⟩
theorem PE.samq {M Y : AMem} (h : PE M Y) (a b : Int) : sam Y a b ↔ sam M a b := by
  unfold sam smf
  simp only [h.1 _ _ (show pdG 8193085 = true from rfl), h.1 _ _ (show pdG 8194111 = true from rfl), h.1 _ _ (show pdG 8194112 = true from rfl)]
theorem PE.mngq {M Y : AMem} (h : PE M Y) (t : Int) : mng Y t = mng M t := by
  unfold mng
  rw [h.2]
  refine congrArg (fun p => fnd p _ 0) (funext fun k => ?_)
  rw [h.1 _ _ (show pdG 1433667 = true from rfl)]
  exact decide_eq_decide.mpr (h.samq _ _)
theorem PE.srtq {M Y : AMem} (h : PE M Y) (t : Int) : srt Y t = srt M t := by
  unfold srt
  rw [h.mngq, h.1 _ _ (show pdG 1433666 = true from rfl)]
theorem PE.pinq {M Y : AMem} (h : PE M Y) (k : Int) : pin Y k ↔ pin M k := by
  show Y _ _ _ = _ ↔ _
  rw [h.1 _ _ (show pdG 8194110 = true from rfl), h.1 _ _ (show pdG 1433667 = true from rfl)]
theorem PE.pasq {M Y : AMem} (h : PE M Y) (k : Int) : pas Y k ↔ pas M k := by
  show (_ ∧ Y _ _ _ = _ ∧ Y _ _ _ = _) ↔ _
  rw [h.1 _ _ (show pdG 8194110 = true from rfl), h.1 _ _ (show pdG 1433667 = true from rfl), h.1 _ _ (show pdG 1433666 = true from rfl)]
theorem PE.prnq {M Y : AMem} (h : PE M Y) (k : Int) : ∀ n, prn Y k n = prn M k n
  | 0 => rfl
  | n + 1 => by
    show mng Y _ = mng M _
    rw [h.mngq, h.prnq k n, h.1 _ _ (show pdG 1433667 = true from rfl)]
theorem PE.prfq {M Y : AMem} (h : PE M Y) (k : Int) : prf Y k = prf M k := by
  unfold prf
  rw [h.2]
  refine congrArg (fun p => fnd p _ 0) (funext fun n => ?_)
  rw [h.prnq]
  exact congrArg _ (decide_eq_decide.mpr (h.pasq _))
theorem PE.rp {M Y : AMem} (h : PE M Y) (K : Nat → Int) (t : Nat) (k : Int) : RP Y K t k ↔ RP M K t k := by
  have e1 : ∀ x, (Y 8194113 0 (x)) = (M 8194113 0 (x)) := fun x => h.1 _ _ rfl
  have e2 : ∀ x, (Y 1433667 0 (x)) = (M 1433667 0 (x)) := fun x => h.1 _ _ rfl
  have e3 : ∀ x, (Y 1433666 0 (x)) = (M 1433666 0 (x)) := fun x => h.1 _ _ rfl
  have e4 : ∀ x, (Y 1433669 0 (x)) = (M 1433669 0 (x)) := fun x => h.1 _ _ rfl
  have e5 : ∀ x, (Y 1433668 0 (x)) = (M 1433668 0 (x)) := fun x => h.1 _ _ rfl
  have s1 : ∀ u, ahn Y K u ↔ ahn M K u := fun u => by unfold ahn; simp only [h.samq]
  have s2 : ∀ u, iah Y K u ↔ iah M K u := fun u => by unfold iah; simp only [h.srtq, h.mngq, h.pinq]
  have s3 : ∀ u, wtn Y K u ↔ wtn M K u := fun u => by unfold wtn; simp only [e2, e5]
  have s4 : ∀ u v, wtf Y K u v ↔ wtf M K u v := fun u v => by unfold wtf; simp only [e2, e5, h.mngq]
  have s5 : ∀ u, nmf Y K u = nmf M K u := fun u => by unfold nmf; rw [e2]
  have s6 : ∀ u, vl Y u = vl M u := fun u => by unfold vl; rw [e1]
  unfold RP RQl
  simp only [s1, s2, s3, s4, s5, s6, e1, e2, e3, e4, h.srtq, h.mngq, h.pinq, h.prfq]
theorem nf_w3 {M Y : AMem} {K : Nat → Int} {F : Nat} (h : ∀ t k, ¬ SN M K F noQ t k) (w : W3 M Y) : NF Y K F := fun t ht k q => h t k (Or.inl ⟨t, ht, rfl, (w.pe.rp K t k).mp q⟩)
