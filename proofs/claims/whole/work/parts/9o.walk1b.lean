/-! ===== the reference's walks 1 and 2: what they leave as it is ===== -/
def pdG (g : Nat) : Bool := g == 8193085 || g == 8194110 || g == 8194111 || g == 8194112 || g == 8194113 || g == 1433666 || g == 1433667 || g == 1433668 || g == 1433669
/-- tokens and ITEMs are the same -/
def PD (M Y : AMem) : Prop := (∀ (g : Nat) (x : Int), pdG g = true → Y g 0 x = M g 0 x) ∧ (Y 11 0 19) = (M 11 0 19) ∧ (Y 11 0 10) = (M 11 0 10) ∧ (Y 11 0 21) = (M 11 0 21)
theorem PD.samq {M Y : AMem} (h : PD M Y) (a b : Int) : sam Y a b ↔ sam M a b := by
  unfold sam smf
  simp only [h.1 _ _ (show pdG 8193085 = true from rfl), h.1 _ _ (show pdG 8194111 = true from rfl), h.1 _ _ (show pdG 8194112 = true from rfl)]
theorem PD.mngq {M Y : AMem} (h : PD M Y) (t : Int) : mng Y t = mng M t := by
  unfold mng
  rw [h.2.1]
  refine congrArg (fun p => fnd p _ 0) (funext fun k => ?_)
  rw [h.1 _ _ (show pdG 1433667 = true from rfl)]
  exact decide_eq_decide.mpr (h.samq _ _)
theorem PD.srtq {M Y : AMem} (h : PD M Y) (t : Int) : srt Y t = srt M t := by
  unfold srt
  rw [h.mngq, h.1 _ _ (show pdG 1433666 = true from rfl)]
theorem PD.pinq {M Y : AMem} (h : PD M Y) (k : Int) : pin Y k ↔ pin M k := by
  show Y _ _ _ = _ ↔ _
  rw [h.1 _ _ (show pdG 8194110 = true from rfl), h.1 _ _ (show pdG 1433667 = true from rfl)]
theorem PD.pasq {M Y : AMem} (h : PD M Y) (k : Int) : pas Y k ↔ pas M k := by
  show (_ ∧ Y _ _ _ = _ ∧ Y _ _ _ = _) ↔ _
  rw [h.1 _ _ (show pdG 8194110 = true from rfl), h.1 _ _ (show pdG 1433667 = true from rfl), h.1 _ _ (show pdG 1433666 = true from rfl)]
theorem PD.prnq {M Y : AMem} (h : PD M Y) (k : Int) : ∀ n, prn Y k n = prn M k n
  | 0 => rfl
  | n + 1 => by
    show mng Y _ = mng M _
    rw [h.mngq, h.prnq k n, h.1 _ _ (show pdG 1433667 = true from rfl)]
theorem PD.prfq {M Y : AMem} (h : PD M Y) (k : Int) : prf Y k = prf M k := by
  unfold prf
  rw [h.2.1]
  refine congrArg (fun p => fnd p _ 0) (funext fun n => ?_)
  rw [h.prnq]
  exact congrArg _ (decide_eq_decide.mpr (h.pasq _))
theorem PD.tb {M Y : AMem} (h : PD M Y) (t : TB M) : TB Y := by
  refine ⟨by rw [h.2.2.1]; exact t.1, fun x a b => ?_⟩
  rw [h.2.2.1] at b
  rw [h.1 _ _ (show pdG 8194111 = true from rfl), h.1 _ _ (show pdG 8194112 = true from rfl)]
  exact t.2 x a b
theorem PD.ib {M Y : AMem} (h : PD M Y) (t : IB M) : IB Y := by
  refine ⟨by rw [h.2.1]; exact t.1, fun x a b => ?_⟩
  rw [h.2.1] at b
  rw [h.1 _ _ (show pdG 1433667 = true from rfl), h.1 _ _ (show pdG 1433666 = true from rfl), h.2.2.1]
  exact t.2 x a b
theorem PD.rk {M Y : AMem} {K : Nat → Int} {T : Nat} (h : PD M Y) (t : RK M K T) : RK Y K T := by
  refine ⟨t.1, by rw [h.2.2.1]; exact t.2.1, fun i a => ?_, t.2.2.2⟩
  rw [h.1 _ _ (show pdG 8194110 = true from rfl)]
  exact t.2.2.1 i a
/-- walk 1 changes these alone -/
def W1 (M Y : AMem) : Prop := ∀ (g : Nat) (t x : Int), (g = 11 → x ≠ 22 ∧ x ≠ 48 ∧ x ≠ 11 ∧ x ≠ 12) → Y g t x = M g t x
theorem W1.pd {M Y : AMem} (h : W1 M Y) : PD M Y := by
  refine ⟨fun g x e => h g 0 x (fun q => ?_), h _ _ _ (by decide), h _ _ _ (by decide), h _ _ _ (by decide)⟩
  subst q
  cases e
theorem W1.c {M Y : AMem} (h : W1 M Y) {x : Int} (v : Int) (hx : x = 22 ∨ x = 48 ∨ x = 11 ∨ x = 12) : W1 M (mup Y 11 0 x v) := by
  intro g t y q
  by_cases e : g = 11
  · subst e
    have := q rfl
    rw [mu_ni (by omega)]
    exact h _ _ _ q
  · rw [mu_ng e]; exact h _ _ _ q
theorem W1.pfdq {M Y : AMem} (h : W1 M Y) (k t : Int) : W1 M (pfd Y k t) := by
  unfold pfd
  split
  · exact (h.c _ (by decide)).c _ (by decide)
  · exact h
theorem pfd_x (Y : AMem) (k t x : Int) (h1 : x ≠ 11) (h2 : x ≠ 12) : pfd Y k t 11 0 x = Y 11 0 x := by
  unfold pfd
  split
  · rw [mu_ni h2, mu_ni h1]
  · rfl
def C1 (M : AMem) (K : Nat → Int) (T F : Nat) : Prop := (RK M K T) ∧ (TB M) ∧ (IB M) ∧ (PM M T) ∧ (GA M K F) ∧ (GE M K F) ∧ (dok K F) ∧ (∀ x : Int, 0 ≤ x → x < (M 11 0 19) → pas M x → (M 1433667 0 (x)) + 2 < (M 11 0 10)) ∧ (∀ j : Nat, dit K j → dnI K j < 667)
theorem C1.rk {M : AMem} {K : Nat → Int} {T F : Nat} (h : C1 M K T F) : RK M K T := h.1
theorem C1.tb {M : AMem} {K : Nat → Int} {T F : Nat} (h : C1 M K T F) : TB M := h.2.1
theorem C1.ib {M : AMem} {K : Nat → Int} {T F : Nat} (h : C1 M K T F) : IB M := h.2.2.1
theorem C1.pm {M : AMem} {K : Nat → Int} {T F : Nat} (h : C1 M K T F) : PM M T := h.2.2.2.1
theorem C1.ga {M : AMem} {K : Nat → Int} {T F : Nat} (h : C1 M K T F) : GA M K F := h.2.2.2.2.1
theorem C1.ge {M : AMem} {K : Nat → Int} {T F : Nat} (h : C1 M K T F) : GE M K F := h.2.2.2.2.2.1
theorem C1.ok {M : AMem} {K : Nat → Int} {T F : Nat} (h : C1 M K T F) : dok K F := h.2.2.2.2.2.2.1
theorem C1.ha {M : AMem} {K : Nat → Int} {T F : Nat} (h : C1 M K T F) : ∀ x : Int, 0 ≤ x → x < (M 11 0 19) → pas M x → (M 1433667 0 (x)) + 2 < (M 11 0 10) := h.2.2.2.2.2.2.2.1
theorem C1.n6 {M : AMem} {K : Nat → Int} {T F : Nat} (h : C1 M K T F) : ∀ j : Nat, dit K j → dnI K j < 667 := h.2.2.2.2.2.2.2.2
theorem C1.mk {M : AMem} {K : Nat → Int} {T F : Nat} (rk : RK M K T) (tb : TB M) (ib : IB M) (pm : PM M T) (ga : GA M K F) (ge : GE M K F) (ok : dok K F) (ha : ∀ x : Int, 0 ≤ x → x < (M 11 0 19) → pas M x → (M 1433667 0 (x)) + 2 < (M 11 0 10)) (n6 : ∀ j : Nat, dit K j → dnI K j < 667) : C1 M K T F := ⟨rk, tb, ib, pm, ga, ge, ok, ha, n6⟩
theorem C1.FT {M : AMem} {K : Nat → Int} {T F : Nat} (h : C1 M K T F) : F ≤ T := dst_le h.rk.2.2.2 (dac_99 h.ok.1)
theorem C1.T4 {M : AMem} {K : Nat → Int} {T F : Nat} (h : C1 M K T F) : T ≤ 4000 ∧ (M 11 0 10) = T + 1 := ⟨h.rk.1, h.rk.2.1⟩
theorem C1.it {M : AMem} {K : Nat → Int} {T F : Nat} (h : C1 M K T F) : (M 11 0 19) = dnI K F := h.ga.it
/-! the text is fine up to F -/
theorem ok_9 {K : Nat → Int} {F i : Nat} (h : dok K F) (hi : i ≤ F) : dst K i ≠ 99 := fun e => by
  have := h.1
  rw [dst_99 e F hi] at this
  cases this
theorem ok_n {K : Nat → Int} {F i s : Nat} (h : dok K F) (hs : dst K i = s) (hi : i ≤ F) (ha : dac s = false) : i < F ∧ dt s (K i) ≠ 99 := by
  have l : i < F := by
    by_cases c : i = F
    · rw [← c] at h
      have := h.1
      rw [hs, ha] at this
      cases this
    · omega
  refine ⟨l, fun e => ?_⟩
  rw [← hs] at e
  exact ok_9 (i := i + 1) h l e
theorem W_2 {K : Nat → Int} {F i s s1 : Nat} {w : Int} (h : dok K F) (hs : dst K i = s) (hi : i ≤ F) (ha : dac s = false) (e : dt s (K i) = dw (K i) w s1) : K i = w ∧ dst K (i + 1) = s1 ∧ i + 1 ≤ F := by
  have q := ok_n h hs hi ha
  rw [e] at q
  by_cases c : K i = w
  · exact ⟨c, by rw [dst_s hs, e, dw_y c], q.1⟩
  · exact absurd (dw_n c _) q.2
theorem N_2 {K : Nat → Int} {F i s s1 s2 : Nat} {w : Int} (h : dok K F) (hs : dst K i = s) (hi : i ≤ F) (ha : dac s = false) (e : dt s (K i) = dw (K i) w s1) (ha' : dac s1 = false) (e' : ∀ k, dt s1 k = dw k 3 s2) : K i = w ∧ dst K (i + 1) = s1 ∧ K (i + 1) = 3 ∧ dst K (i + 2) = s2 ∧ i + 2 ≤ F := by
  have q := W_2 h hs hi ha e
  have q' := W_2 h q.2.1 q.2.2 ha' (e' _)
  exact ⟨q.1, q.2.1, q'.1, q'.2⟩
theorem rol_e {K : Nat → Int} {i s : Nat} {w : Int} (hs : dst K i = s) (hw : K i = w) : rol K i = dro s w := by unfold rol; rw [hs, hw]
theorem RP_e {M : AMem} {K : Nat → Int} {i : Nat} {r : Int} (h : rol K i = r) (k : Int) : RP M K i k ↔ RQl M K r i k := by unfold RP; rw [h]
theorem RP_0 {M : AMem} {K : Nat → Int} {i : Nat} (h : rol K i = 0) (k : Int) : ¬ RP M K i k := by rw [RP_e h]; exact id
/-- the ITEM of a token -/
theorem itf_d {K : Nat → Int} {j t : Nat} (hd : dit K j) (hn : nd K (j + 1) t) (ht : ¬ (10 ≤ K t ∧ K t ≤ 16)) : itf K t = dnI K j := by
  have h1 : nd K (j + 1) (t + 1) := by
    refine ⟨by have := hn.1; omega, fun u a b => ?_⟩
    by_cases c : u = t
    · rw [c]; exact ht
    · exact hn.2 u a (by omega)
  have h2 := dnI_nd h1
  have h3 : dnI K (j + 1) = dnI K j + 1 := by show dnI K j + (if dit K j then 1 else 0) = _; rw [if_pos hd]
  unfold itf
  omega
theorem nmf_d {M : AMem} {K : Nat → Int} {T F j t : Nat} (h : C1 M K T F) (hj : j < F) (hd : dit K j) (hn : nd K (j + 1) t) (ht : ¬ (10 ≤ K t ∧ K t ≤ 16)) : nmf M K t = j + 1 := by
  unfold nmf
  rw [itf_d hd hn ht]
  exact h.ga.na j hj hd
/-- within walk 1: the tokens before n are looked at, and at token n Q was found -/
def I1 (M Y : AMem) (K : Nat → Int) (n : Nat) (Q : Int → Prop) : Prop := (W1 M Y) ∧ (FA M Y K n Q)
theorem I1.ws {M Y : AMem} {K : Nat → Int} {n : Nat} {Q : Int → Prop} (h : I1 M Y K n Q) : W1 M Y := h.1
theorem I1.fa {M Y : AMem} {K : Nat → Int} {n : Nat} {Q : Int → Prop} (h : I1 M Y K n Q) : FA M Y K n Q := h.2
theorem I1.mk {M Y : AMem} {K : Nat → Int} {n : Nat} {Q : Int → Prop} (ws : W1 M Y) (fa : FA M Y K n Q) : I1 M Y K n Q := ⟨ws, fa⟩
theorem I1.c {M Y : AMem} {K : Nat → Int} {n : Nat} {Q : Int → Prop} (h : I1 M Y K n Q) {x : Int} (v : Int) (hx : x = 22 ∨ x = 48) : I1 M (mup Y 11 0 x v) K n Q := I1.mk (h.ws.c v (by omega)) (FS.mm h.fa (mu_ni (by omega)) (mu_ni (by omega)) (fun t => mu_ng (by decide)))
theorem I1.add {M Y : AMem} {K : Nat → Int} {T F n : Nat} {Q : Int → Prop} (hc : C1 M K T F) (h : I1 M Y K n Q) (hn : n ≤ T) (hQ : ∀ k, Q k → 1 ≤ k) {k : Int} (hk : 1 ≤ k) : I1 M (pfd Y k n) K n (fun b => Q b ∨ b = k) := by
  refine I1.mk (h.ws.pfdq _ _) (FA.add h.fa (T := T) ?_ hn hQ hk)
  intro a b h1 h2 h3
  rw [h.ws.pd.1 _ _ (show pdG 8194111 = true from rfl), h.ws.pd.1 _ _ (show pdG 8194111 = true from rfl)]
  exact hc.pm a b h1 h2 h3
theorem I1.fin {M Y : AMem} {K : Nat → Int} {n : Nat} {Q : Int → Prop} (h : I1 M Y K n Q) (e : ∀ k, Q k ↔ RP M K n k) : I1 M Y K (n + 1) noQ := I1.mk h.ws (FA.fin h.fa e)
theorem I1.skip {M Y : AMem} {K : Nat → Int} {n : Nat} (h : I1 M Y K n noQ) (e : rol K n = 0) : I1 M Y K (n + 1) noQ := I1.mk h.ws (FA.skip h.fa (RP_0 e))
theorem I1.cg {M Y : AMem} {K : Nat → Int} {n : Nat} {Q Q' : Int → Prop} (h : I1 M Y K n Q) (e : ∀ k, Q k ↔ Q' k) : I1 M Y K n Q' := I1.mk h.ws (FA.cg h.fa e)
theorem I1.rng {M Y : AMem} {K : Nat → Int} {T F n : Nat} (hc : C1 M K T F) (hw : (M 11 0 21) = 1) (h : I1 M Y K n noQ) (hn : n ≤ T) (lo hi : Int) (e : ∀ k, RP M K n k ↔ k = 4 ∧ (vl M n < lo ∨ hi < vl M n)) : I1 M (prg Y n lo hi) K (n + 1) noQ := by
  have e1 : (Y 11 0 21) = 1 := by rw [h.ws.pd.2.2.2]; exact hw
  have e2 : (Y 8194113 0 (n)) = vl M n := h.ws.pd.1 _ _ (show pdG 8194113 = true from rfl)
  unfold prg
  rw [e1, e2]
  by_cases c : vl M n < lo ∨ hi < vl M n
  · rw [if_pos ⟨rfl, c⟩]
    refine (I1.add hc h hn (fun _ q => q.elim) (k := 4) (by decide)).fin fun k => ?_
    rw [e k]
    exact ⟨fun q => ⟨q.resolve_left id, c⟩, fun q => Or.inr q.1⟩
  · rw [if_neg (fun q => c q.2)]
    exact h.fin fun k => ⟨fun q => q.elim, fun q => absurd ((e k).mp q).2 c⟩
theorem prg_x (Y : AMem) (t lo hi x : Int) (h1 : x ≠ 11) (h2 : x ≠ 12) : prg Y t lo hi 11 0 x = Y 11 0 x := by
  unfold prg
  split
  · exact pfd_x _ _ _ _ h1 h2
  · rfl
theorem prg_g (Y : AMem) (t lo hi : Int) {g : Nat} (h : g ≠ 11) (a x : Int) : prg Y t lo hi g a x = Y g a x := by
  unfold prg
  split
  · exact pfd_ng _ _ _ h _ _
  · rfl
/-- how a method of walk 1 ends -/
def E1 (M : AMem) (K : Nat → Int) (F i : Nat) (r : Option AV) (Y : AMem) : Prop := r = some (aI 1) ∧ ∃ f : Nat, (Y 11 0 22) = f ∧ dxt K i f ∧ f ≤ F ∧ I1 M Y K f noQ
