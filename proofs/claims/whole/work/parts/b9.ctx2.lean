/-! ===== same names and values on both sides ===== -/
theorem asc_e {x b : Int} (h : iAnd x 255 = b) (h1 : -128 ≤ x ∧ x ≤ 127) (hb : isNp b) : x = b := by
  rw [and255] at h
  unfold isNp isLe isDi at hb
  omega
theorem ln_of {M Y : AMem} {b b' : Int → Int} {n : Int} {T F : Nat} (hn : 0 ≤ n ∧ n ≤ 4000) (hz : ∀ k, n ≤ k → b k = 0) (hB : ∀ k, 0 ≤ b k ∧ b k < 256) (hb : ∀ k, 0 ≤ k → b k = b' k)
    (rt : ∀ t : Nat, t ≤ T → (M 8194111 0 ((t : Int))) = tkP n (pos b n t) ∧ (M 8194112 0 ((t : Int))) = tkS b n (pos b n t) ∧ (M 8194113 0 ((t : Int))) = tkV b n (pos b n t))
    (xt : ∀ k : Int, 0 ≤ k → k < n → iAnd (M 8193085 0 (k)) 255 = b k ∧ -128 ≤ (M 8193085 0 (k)) ∧ (M 8193085 0 (k)) ≤ 127)
    (ct : ∀ t : Nat, t ≤ T → CT Y b' n (pos b' n t) (t : Int)) (hF : F ≤ T) : LN M Y (tkz b n) F := by
  have ep := pos_c (b' := b') hn.2 hz hb
  have p0 := pos_0 hn.2 hz
  refine LN.mk ?_ ?_
  · intro u v hu hv ku kv
    have ku' : tkK b n (pos b n u) = 2 := ku
    have kv' : tkK b n (pos b n v) = 2 := kv
    obtain ⟨u1, u2, u3, u4, u5⟩ := name_e ku'
    obtain ⟨v1, v2, v3, v4, v5⟩ := name_e kv'
    have ru' := rt u (by omega)
    have rv' := rt v (by omega)
    have pu := p0 u
    have pv := p0 v
    have lu := tkE_le b n (pos b n u) (by omega) hz
    have lv := tkE_le b n (pos b n v) (by omega) hz
    have gu := ru_up (pNm b) (pos b n u)
    have gv := ru_up (pNm b) (pos b n v)
    have cu := (ct u (by omega)).2.2.1
    have cv := (ct v (by omega)).2.2.1
    rw [← ep u, ← hb _ pu, ← ruN_c hb pu, ← pkd_c hb pu, ← pkd_c hb (show 0 ≤ pos b n u + 8 by omega)] at cu
    rw [← ep v, ← hb _ pv, ← ruN_c hb pv, ← pkd_c hb pv, ← pkd_c hb (show 0 ≤ pos b n v + 8 by omega)] at cv
    have cu' := cu u1 u2 u3
    have cv' := cv v1 v2 v3
    have e1 : (M 8194111 0 ((u : Int))) = pos b n u := by rw [ru'.1]; unfold tkP; rw [if_neg u1]
    have e2 : (M 8194111 0 ((v : Int))) = pos b n v := by rw [rv'.1]; unfold tkP; rw [if_neg v1]
    unfold sam cam smf
    rw [cu'.1, cu'.2, cv'.1, cv'.2, ru'.2.1, rv'.2.1, u5, v5, e1, e2]
    have q := nm_eq b hB (pos b n u) (ru (pNm b) (pos b n u)) (pos b n v) (ru (pNm b) (pos b n v)) ⟨gu, u3⟩ ⟨gv, v3⟩ (fun k a c => by have := name_p a c; unfold isNp isLe isDi at this; omega) (fun k a c => by have := name_p a c; unfold isNp isLe isDi at this; omega)
    rw [q]
    refine and_congr_right (fun e => ?_)
    rw [fnd_m1]
    have tu : ∀ k : Int, 0 ≤ k → k < ru (pNm b) (pos b n u) - pos b n u → (M 8193085 0 ((pos b n u + k))) = b (pos b n u + k) := fun k a c => by
      have x := xt (pos b n u + k) (by omega) (by omega)
      exact asc_e x.1 x.2 (name_p (p := pos b n u) (by omega) (by omega))
    have tv : ∀ k : Int, 0 ≤ k → k < ru (pNm b) (pos b n v) - pos b n v → (M 8193085 0 ((pos b n v + k))) = b (pos b n v + k) := fun k a c => by
      have x := xt (pos b n v + k) (by omega) (by omega)
      exact asc_e x.1 x.2 (name_p (p := pos b n v) (by omega) (by omega))
    constructor
    · intro h k k0 k1
      have z := h k.toNat (by omega)
      rw [show ((k.toNat : Nat) : Int) = k by omega, tu k k0 k1, tv k k0 (by omega)] at z
      simpa using z
    · intro h i hi
      rw [tu i (by omega) (by omega), tv i (by omega) (by omega), h i (by omega) (by omega)]
      simp
  · intro t ht kt
    have kt' : tkK b n (pos b n t) = 3 := kt
    obtain ⟨⟨u1, u2, u3⟩, u4, u5, u6⟩ := num_e kt'
    have c := (ct t (by omega)).2.2.2
    have pu := p0 t
    rw [← ep t, ← hb _ pu, ← ruD_c hb pu, ← cnv_c hb pu] at c
    rw [c u1 u2 u3, (rt t (by omega)).2.2, u4]
    rw [u4] at u5 u6
    exact ⟨rfl, u5, u6⟩
