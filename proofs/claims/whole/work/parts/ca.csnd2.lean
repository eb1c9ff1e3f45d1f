/-! ===== whole runs of constructors ===== -/
theorem LH_init {E : EV} {as : List AV} {nL : Nat} (has : ∀ a ∈ as, lcat a = 1) (hl : as.length ≤ nL) : LH E ((lg_sl (as.map (enc E)) ++ List.replicate (nL - (lg_sl (as.map (enc E))).length) Slot.unset).toArray) nL (initL as nL) := by
  have hlen := lg_len E as has
  have hent := lv_entry (as.map (enc E)) (n := nL) (by rw [hlen]; exact hl)
  refine ⟨hent.1, ?_, hent.2.1, fun i v hv _ => ?_⟩
  · unfold initL
    rw [List.length_append, List.length_map, List.length_replicate]
    omega
  · unfold initL at hv
    have hlt : i < as.length := by
      by_cases h : i < as.length
      · exact h
      · rw [List.getElem?_append_right (by rw [List.length_map]; omega), List.getElem?_replicate] at hv
        split at hv
        · injection hv with hv; cases hv
        · cases hv
    rw [List.getElem?_append_left (by rw [List.length_map]; exact hlt), List.getElem?_map] at hv
    cases hq : as[i]? with
    | none => rw [hq] at hv; cases hv
    | some w =>
      rw [hq] at hv
      injection hv with hv
      injection hv with hv
      subst hv
      have := args_at E as 0 has i w hq
      rw [Nat.zero_add] at this
      exact hent.2.2 _ this
theorem okR_call {g len : Nat} {pcs : List Nat} {raw : Instr} {r : CR} (hop : r.2.1 = 13 ∨ r.2.1 = 14) (hok : okR g pcs raw len r = true) : ∃ k, raw = .invokespecial k ∧ len = 3 ∧ isO (r.2.2.1 / 4096) ∧ lvC (r.2.2.1 / 4096) < lvC g ∧ (Cond.methodLink (oC g) k (ciY (r.2.2.1 / 4096)) ∈ lwg ∨ (oC g, k, ciY (r.2.2.1 / 4096), "StaticKernel") ∈ gmn) := by
  obtain ⟨pc, op, a, w, b⟩ := r
  dsimp only at hop
  unfold okR at hok
  dsimp only at hok ⊢
  split at hok <;> first | (exfalso; omega) | skip
  · rename_i k
    rw [Bool.and_eq_true] at hok
    obtain ⟨hok, hw⟩ := hok
    obtain ⟨rfl, rfl, h1, h2, h3⟩ := of_decide_eq_true hok
    exact ⟨_, rfl, rfl, ⟨h1, h2⟩, h3, Or.inl (lwg_at (of_decide_eq_true hw) rfl)⟩
  · rename_i k
    rw [Bool.and_eq_true] at hok
    obtain ⟨hok, hw⟩ := hok
    obtain ⟨rfl, rfl, h1, h2, h3⟩ := of_decide_eq_true hok
    obtain ⟨z, hz, hq⟩ := List.any_eq_true.mp hw
    have hq := of_decide_eq_true hq
    subst hq
    exact ⟨_, rfl, rfl, ⟨h1, h2⟩, h3, Or.inr hz⟩
  · cases hok
def CSnd (g : Nat) (q q' : CS) : Prop := ∀ (p : Program) (l : Launch) (e : Env) (R : Room) (s : State) (m : MethodId) (args : Array Value) (below : List Frame) (meth : Method) (c : Code) (Q : State → Prop) (E : EV) (n0 : Nat), FrC p R s m args meth c E g → n0 ≤ q.2.2.2.1 → q'.2.2.2.1 - n0 ≤ R.cells → sl q'.2.2.2.1 - sl n0 ≤ R.slots → (∀ pc' : Nat, (pcsC g)[q'.1]? = some pc' → Wc p l e R s m args below meth c Q E (ciM g).2.1 n0 pc' q'.2.1 q'.2.2.1 q'.2.2.2.1 q'.2.2.2.2) → ∀ pc : Nat, (pcsC g)[q.1]? = some pc → Wc p l e R s m args below meth c Q E (ciM g).2.1 n0 pc q.2.1 q.2.2.1 q.2.2.2.1 q.2.2.2.2
theorem cmet_of {g i' n n' : Nat} {as : List AV} {L L' : LW} {loc' : Lc} {r' : CR} (hg : isO g) (ks : CSnd g (0, initL as (ciM g).2.1, [], n, L) (i', loc', [], n', L')) (hr : (ciC g)[i']? = some r') (hop : r'.2.1 = 20) (has : ∀ a ∈ as, lcat a = 1) (hl : as.length ≤ (ciM g).2.1) : CMet g as n L n' L' := by
  intro l E
  have hm := mch_at hg
  refine Met.ofW (cc := ciB g) (maxL := (ciM g).2.1) (ret := none) hm.2.2.2.2.2.2.2.2.2.1 rfl ?_
  intro p e s m args below meth c s₁ B hml hv
  obtain ⟨rfl, hE, hR⟩ := hv
  have hts := atoms_spec (ws := wsC g) B.pre
  have hown : s.vm.findClass (oC g) = some m.cls := findClass_of_methodNamed B.named
  have hin : meth.name = "<init>" := (name_of_methodNamed B.named B.method).1
  have hpc : (pcsC g)[i']? = some r'.1 := by unfold pcsC; rw [List.getElem?_map, hr]; rfl
  obtain ⟨raw, len, hd, hok, -⟩ := chkI_at (ciC g) i' r' (cki hg) hr
  have hdv : decode (ciB g) r'.1 = .ok (.return_, 1) := by
    obtain ⟨pc, op, a, w, b⟩ := r'
    dsimp only at hop
    subst hop
    unfold okR at hok
    dsimp only at hok
    split at hok <;> first | (exfalso; omega) | skip
    · obtain rfl := of_decide_eq_true hok
      exact hd
    · cases hok
  have hW := ks p l e (rmC g n n') s m (as.map (enc E)).toArray below meth c (MQ below (QcC E n' L') (as.map (enc E)).toArray s (n' - n) (sl n' - sl n) (AA E)) E n ⟨B.exec, B.bytes, hml, hown, fun w hw => hts w (List.mem_cons_of_mem _ hw), hE, hin, Nat.le_refl _, Nat.le_refl _⟩ (Nat.le_refl _) (Nat.le_refl _) (Nat.le_refl _) (fun pc' hp' => by
    rw [hpc] at hp'
    cases hp'
    intro H locs ls hC hL
    exact W.vret B.exec B.bytes B.returns (fun t ht hw => ⟨rfl, by rw [ht]; exact hC.2.moved hw.alike, hC.1.F ht⟩) (fun q hq => hC.1.2.2 q hq) hdv B.notSynchronized) 0 hm.2.2.2.2.2.2.2.2.2.2.2 s.heap [] _ ⟨va_S.rf, hR⟩ (LH_init has hl)
  rw [lg_entry_eq]
  dsimp only at hW
  rw [Nat.sub_self, Nat.sub_self] at hW
  exact hW
theorem csound : ∀ (f g : Nat) (q q' : CS), crun f g q = some q' → isO g → q.2.2.2.1 ≤ q'.2.2.2.1 ∧ CSnd g q q' := by
  intro f
  induction f with
  | zero =>
    intro g q q' h
    cases h
  | succ f ih =>
    intro g q q' h hg
    obtain ⟨i, loc, stk, n, L⟩ := q
    unfold crun at h
    dsimp only at h ⊢
    split at h
    · cases h
    · rename_i r hr
      have hpc : (pcsC g)[i]? = some r.1 := by unfold pcsC; rw [List.getElem?_map, hr]; rfl
      obtain ⟨raw, len, hd, hok, hnx0⟩ := chkI_at (ciC g) i r (cki hg) hr
      have hnx : r.2.1 ≠ 6 → r.2.1 < 20 → (pcsC g)[i + 1]? = some (r.1 + len) := by unfold pcsC; rw [List.getElem?_map]; exact hnx0
      split at h
      · cases h
        exact ⟨Nat.le_refl _, fun p l e R s m args below meth c Q E n0 _ _ _ _ k pc hp => k pc hp⟩
      · rename_i h20
        split at h
        · rename_i hop
          split at h
          · cases h
          · rename_i z hz
            split at h
            · rename_i i' loc' n' L' hrun
              split at h
              · rename_i r' hr'
                split at h
                · rename_i hop'
                  obtain ⟨k, rfl, rfl, hg', hlv, hlk⟩ := okR_call hop hok
                  obtain ⟨t, as', hz1, hz2, hz3, hz4, hz5⟩ := cpop_inv hz
                  have hm := mch_at hg'
                  obtain ⟨m1, k1⟩ := ih _ _ _ hrun hg'
                  obtain ⟨m2, k2⟩ := ih g _ q' h hg
                  dsimp only at m1 m2
                  have hlen : z.1.length ≤ (ciM (r.2.2.1 / 4096)).2.1 := by
                    rw [hz1, List.length_cons, hz2]
                    exact hm.2.2.2.2.2.2.1
                  refine ⟨Nat.le_trans m1 m2, fun p l e R s m args below meth c Q E n0 hF hn0 hRc hRs k pc hp => ?_⟩
                  dsimp only at hp ⊢ hn0
                  rw [hpc] at hp
                  cases hp
                  rw [hz5]
                  have s2 := sl_le m2
                  exact Wc.call hF hg' hlv hz1 hz2 hz3 hz4 hd hlk (cmet_of hg' k1 hr' hop' hz4 hlen) hn0 m1 (by omega) (by omega) (k2 p l e R s m args below meth c Q E n0 hF (Nat.le_trans hn0 m1) hRc hRs k _ (hnx (by omega) (by omega)))
                · cases h
              · cases h
            · cases h
        · split at h
          · rename_i q1 hq1
            have hm := cst_mono hq1
            obtain ⟨m1, k1⟩ := ih g q1 q' h hg
            refine ⟨Nat.le_trans hm m1, fun p l e R s m args below meth c Q E n0 hF hn0 hRc hRs k pc hp => ?_⟩
            dsimp only at hp ⊢ hn0
            rw [hpc] at hp
            cases hp
            have s2 := sl_le m1
            exact cst_sound hF hg hok hd hnx hn0 hq1 (by omega) (by omega) (fun pc' hp' => k1 p l e R s m args below meth c Q E n0 hF (Nat.le_trans hn0 hm) hRc hRs k pc' hp')
          · cases h
