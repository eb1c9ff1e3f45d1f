/-! ===== soundness of wp1 ===== -/
theorem pF_inv {o i n : Nat} {P : Prop} [Decidable P] (h : (pF.any fun z => decide (z.1 = o * 4096 + i ∧ z.2.1 = n ∧ i < 4096 ∧ P)) = true) : P ∧ isO (n / 400 % 16) ∧ n / 4 % 100 < oN (n / 400 % 16) ∧ Cond.fieldLink (cname o) i (oT (n / 400 % 16) (n / 4 % 100)).1 (oT (n / 400 % 16) (n / 4 % 100)).2.1 (oT (n / 400 % 16) (n / 4 % 100)).2.2.1 ∈ lwg ∧
    (match oY (n / 400 % 16) (n / 4 % 100) with
     | .long => n % 4 = 2
     | .int => n % 4 = 0
     | .boolean => n % 4 = 1
     | .object _ => n % 4 = 3 ∧ fR (n / 400 % 16) (n / 4 % 100) = (n / 819200, ((n / 6400 % 128 : Nat) : Int)) ∧ ((n / 6400 % 128 : Nat) : Int) + gn (n / 400 % 16) ≤ gn (n / 819200) ∧ (isO (n / 819200) ∨ isC (n / 819200) ∨ isA (n / 819200))
     | .array _ => n % 4 = 3 ∧ fR (n / 400 % 16) (n / 4 % 100) = (n / 819200, ((n / 6400 % 128 : Nat) : Int)) ∧ ((n / 6400 % 128 : Nat) : Int) + gn (n / 400 % 16) ≤ gn (n / 819200) ∧ (isO (n / 819200) ∨ isC (n / 819200) ∨ isA (n / 819200))
     | _ => False) := by
  obtain ⟨z, hz, hq⟩ := List.any_eq_true.mp h
  obtain ⟨h1, h2, h3, h4⟩ := of_decide_eq_true hq
  have hc := List.all_eq_true.mp pF_ok z hz
  unfold fchk at hc
  rw [h1, h2, show (o * 4096 + i) / 4096 = o by omega, show (o * 4096 + i) % 4096 = i by omega] at hc
  simp only [Bool.and_eq_true, decide_eq_true_eq] at hc
  obtain ⟨⟨c1, c2⟩, c3⟩ := hc
  refine ⟨h4, ⟨c1.1, c1.2.1⟩, c1.2.2, lwg_at c2 rfl, ?_⟩
  generalize oY (n / 400 % 16) (n / 4 % 100) = ty at c3 ⊢
  cases ty <;> first | exact of_decide_eq_true c3 | (simp only [Bool.and_eq_true, decide_eq_true_eq] at c3; exact ⟨c3.1.1, c3.1.2.1, c3.1.2.2, gval_ok c3.2⟩) | exact absurd c3 (by simp)
theorem pF_inv0 {o i n : Nat} (h : (pF.any fun z => decide (z.1 = o * 4096 + i ∧ z.2.1 = n ∧ i < 4096)) = true) : (pF.any fun z => decide (z.1 = o * 4096 + i ∧ z.2.1 = n ∧ i < 4096 ∧ True)) = true := by
  obtain ⟨z, hz, hq⟩ := List.any_eq_true.mp h
  obtain ⟨h1, h2, h3⟩ := of_decide_eq_true hq
  exact List.any_eq_true.mpr ⟨z, hz, decide_eq_true ⟨h1, h2, h3, trivial⟩⟩
theorem zip_at {α β : Type} : ∀ (n : Nat) (l : List α) (l2 : List β) (d : α), n < l.length → n < l2.length → ∃ z, (l.getD n d, z) ∈ l.zip l2
  | 0, a :: l, b :: l2, d, _, _ => ⟨b, by simp⟩
  | n + 1, a :: l, b :: l2, d, h1, h2 => by
    obtain ⟨z, hz⟩ := zip_at n l l2 d (by simpa using h1) (by simpa using h2)
    exact ⟨z, by rw [List.getD_cons_succ, List.zip_cons_cons]; exact List.mem_cons_of_mem _ hz⟩
  | _, [], _, _, h, _ => absurd h (by simp)
  | _, _ :: _, [], _, _, h => absurd h (by simp)
theorem md_at {n : Nat} (h : n < MDL.length) : ∃ z, (mt n, z) ∈ MDL.zip MDH := by
  have h2 : n < MDH.length := by
    have h3 := mD_len
    rw [List.length_zip] at h3
    have h4 := mD_len1
    omega
  exact zip_at n MDL MDH md_0 h h2
theorem bOf_inv {i : Nat} {y : MethodName} {n : Nat} {r : Option FieldType} (h : (match lw_tbl[i]? with
    | some (.code y' _ n' r') => decide (y' = y ∧ n' = n ∧ r' = r)
    | _ => false) = true) : lw_tbl[i]? = some (.code y (bOf i) n r) := by
  unfold bOf
  split at h
  · rename_i hq
    rw [hq]
    obtain ⟨rfl, rfl, rfl⟩ := of_decide_eq_true h
    rfl
  · cases h
theorem md_inv {n : Nat} (h : n < MDL.length) : Cond.code (mt n).y (mt n).b (mt n).ml (mt n).rt ∈ lwg ∧ ((mt n).st = true → Cond.static (mt n).y ∈ lwg) ∧ ((mt n).st = false → Cond.instanceMethod (mt n).y ∈ lwg ∧ Cond.selects (oC (mt n).g) (mt n).y (mt n).y ∈ lwg ∧ (mt n).y.cls = oC (mt n).g ∧ isO (mt n).g) ∧ Cond.initialized (mt n).y.cls ∈ lwg ∧
    ((mt n).y.cls ≠ "java/lang/invoke/MethodHandle" ∧ (mt n).y.cls ≠ "java/lang/invoke/VarHandle" ∧ (parseMethodDescriptor (mt n).y.desc).map (fun d => d.parameters.length) = some (mt n).np) ∧ (mt n).y.cls = cname (mt n).o ∧ (mt n).ml ≤ 19 := by
  obtain ⟨z, hz⟩ := md_at h
  have hc := List.all_eq_true.mp mD_ok _ hz
  generalize mt n = q at hc ⊢
  unfold mchk at hc
  simp only [Bool.and_eq_true] at hc
  obtain ⟨⟨⟨⟨c1, c2⟩, c3⟩, c4⟩, c5⟩ := hc
  have c5 := of_decide_eq_true c5
  refine ⟨lwg_at (bOf_inv c1) rfl, fun hs => ?_, fun hs => ?_, lwg_at (of_decide_eq_true c3) rfl, of_decide_eq_true c4, c5.1, c5.2.1⟩
  · have hs : q.2.2.2.2.2.2.2.1 = true := hs
    simp only [hs] at c2
    exact lwg_at (of_decide_eq_true c2) rfl
  · have hs : q.2.2.2.2.2.2.2.1 = false := hs
    simp only [hs, Bool.and_eq_true] at c2
    have c6 := of_decide_eq_true c2.2
    exact ⟨lwg_at (of_decide_eq_true c2.1.1) rfl, lwg_at (of_decide_eq_true c2.1.2) rfl, c6.1, c6.2⟩
theorem pM_inv {o i n : Nat} (h : (pM.any fun z => decide (z.1 = o * 4096 + i ∧ z.2.1 = n ∧ i < 4096)) = true) : n < MDL.length ∧ Cond.methodLink (cname o) i (mt n).y ∈ lwg := by
  obtain ⟨z, hz, hq⟩ := List.any_eq_true.mp h
  obtain ⟨h1, h2, h3⟩ := of_decide_eq_true hq
  have hc := List.all_eq_true.mp pM_ok z hz
  unfold lchk at hc
  rw [h1, h2, show (o * 4096 + i) / 4096 = o by omega, show (o * 4096 + i) % 4096 = i by omega] at hc
  simp only [Bool.and_eq_true, decide_eq_true_eq] at hc
  exact ⟨hc.2, lwg_at hc.1 rfl⟩
theorem pK_inv {o i : Nat} {b : Int} (h : (pK.any fun z => decide (z.1 = o * 4096 + i ∧ z.2.1 = b ∧ i < 4096)) = true) : in32 b ∧ Cond.constant (cname o) i (Int32.ofInt b) ∈ lwg := by
  obtain ⟨z, hz, hq⟩ := List.any_eq_true.mp h
  obtain ⟨h1, h2, h3⟩ := of_decide_eq_true hq
  have hc := List.all_eq_true.mp pK_ok z hz
  unfold kchk at hc
  rw [h1, h2, show (o * 4096 + i) / 4096 = o by omega, show (o * 4096 + i) % 4096 = i by omega] at hc
  simp only [Bool.and_eq_true, decide_eq_true_eq] at hc
  exact ⟨hc.2, lwg_at hc.1 rfl⟩
theorem pL_inv {o i b : Nat} (h : (pL.any fun z => decide (z.1 = o * 4096 + i ∧ z.2.1 = b ∧ i < 4096)) = true) : in64 b ∧ Cond.constantLong (cname o) i (Int64.ofInt b) ∈ lwg := by
  obtain ⟨z, hz, hq⟩ := List.any_eq_true.mp h
  obtain ⟨h1, h2, h3⟩ := of_decide_eq_true hq
  have hc := List.all_eq_true.mp pL_ok z hz
  unfold kchkL at hc
  rw [h1, h2, show (o * 4096 + i) / 4096 = o by omega, show (o * 4096 + i) % 4096 = i by omega] at hc
  simp only [Bool.and_eq_true, decide_eq_true_eq] at hc
  exact ⟨by unfold in64; omega, lwg_at hc.1 rfl⟩
theorem pS_inv {o i n : Nat} (h : (pS.any fun z => decide (z.1 = o * 4096 + i ∧ z.2.1 = n ∧ i < 4096)) = true) : ∃ z ∈ gs, z.2.2.2 = aR (n / 64) ((n % 64 : Nat) : Int) ∧ Cond.fieldLink (cname o) i z.1 z.2.1 z.2.2.1 ∈ lwg ∧ aok z.2.2.2 := by
  obtain ⟨z, hz, hq⟩ := List.any_eq_true.mp h
  obtain ⟨h1, h2, h3⟩ := of_decide_eq_true hq
  have hc := List.all_eq_true.mp pS_ok z hz
  unfold schk at hc
  rw [h1, h2, show (o * 4096 + i) / 4096 = o by omega, show (o * 4096 + i) % 4096 = i by omega] at hc
  split at hc
  · rename_i y hy
    simp only [Bool.and_eq_true, decide_eq_true_eq] at hc
    refine ⟨y, List.mem_of_getElem? hy, hc.1.1.1, lwg_at hc.1.1.2 rfl, ?_⟩
    rw [hc.1.1.1]
    exact ⟨gval_ok hc.1.2, by omega, hc.2⟩
  · cases hc
theorem pN_inv {o i n : Nat} (h : (pN.any fun z => decide (z.1 = o * 4096 + i ∧ z.2.1 = n ∧ i < 4096)) = true) : ∃ z ∈ gs, z.2.2.2 = aR (n / 64) ((n % 64 : Nat) : Int) ∧ (cname o, i, z.1, z.2.1, z.2.2.1, "StaticKernel") ∈ gfn ∧ aok z.2.2.2 := by
  obtain ⟨z, hz, hq⟩ := List.any_eq_true.mp h
  obtain ⟨h1, h2, h3⟩ := of_decide_eq_true hq
  have hc := List.all_eq_true.mp pN_ok z hz
  unfold nchk at hc
  rw [h1, h2, show (o * 4096 + i) / 4096 = o by omega, show (o * 4096 + i) % 4096 = i by omega] at hc
  split at hc
  · rename_i y hy
    simp only [Bool.and_eq_true, decide_eq_true_eq, List.contains_iff_mem] at hc
    refine ⟨y, List.mem_of_getElem? hy, hc.1.1.1, hc.1.1.2, ?_⟩
    rw [hc.1.1.1]
    exact ⟨gval_ok hc.1.2, by omega, hc.2⟩
  · cases hc
