/-! ===== rows for arrays of references ===== -/
theorem wx_a39 {N : Lc → List AV → AMem → Prop} {K : Nat → Lc → List AV → AMem → Prop} {Rt : Option AV → AMem → Prop} {loc : Lc} {st : List AV} {M : AMem} {i t : Int} : wp1 .aaload N K Rt loc (aI i :: aR 99111 t :: st) M = ((0 ≤ i ∧ i < 48) ∧ N loc (aR 8 (i) :: st) M) := by
  rw [wx_aald1 (g := 99111) rfl]
  apply propext
  constructor
  · rintro ⟨_, h2, h3⟩
    have e : ((aT 99111).2.2 + i) = i := by show (0 : Int) + i = _; omega
    rw [e] at h3
    exact ⟨h2, h3⟩
  · rintro ⟨h2, h3⟩
    have e : ((aT 99111).2.2 + i) = i := by show (0 : Int) + i = _; omega
    exact ⟨rfl, h2, by rw [e]; exact h3⟩
theorem wx_a40 {N : Lc → List AV → AMem → Prop} {K : Nat → Lc → List AV → AMem → Prop} {Rt : Option AV → AMem → Prop} {loc : Lc} {st : List AV} {M : AMem} {i t : Int} : wp1 .aaload N K Rt loc (aI i :: aR 33576 t :: st) M = ((0 ≤ i ∧ i < 16) ∧ N loc (aR 8 (48 + i) :: st) M) := by
  rw [wx_aald1 (g := 33576) rfl]
  apply propext
  constructor
  · rintro ⟨_, h2, h3⟩
    have e : ((aT 33576).2.2 + i) = 48 + i := by show (48 : Int) + i = _; omega
    rw [e] at h3
    exact ⟨h2, h3⟩
  · rintro ⟨h2, h3⟩
    have e : ((aT 33576).2.2 + i) = 48 + i := by show (48 : Int) + i = _; omega
    exact ⟨rfl, h2, by rw [e]; exact h3⟩
theorem wx_a41 {N : Lc → List AV → AMem → Prop} {K : Nat → Lc → List AV → AMem → Prop} {Rt : Option AV → AMem → Prop} {loc : Lc} {st : List AV} {M : AMem} {i t : Int} : wp1 .aaload N K Rt loc (aI i :: aR 33577 t :: st) M = ((0 ≤ i ∧ i < 16) ∧ N loc (aR 9 (i) :: st) M) := by
  rw [wx_aald1 (g := 33577) rfl]
  apply propext
  constructor
  · rintro ⟨_, h2, h3⟩
    have e : ((aT 33577).2.2 + i) = i := by show (0 : Int) + i = _; omega
    rw [e] at h3
    exact ⟨h2, h3⟩
  · rintro ⟨h2, h3⟩
    have e : ((aT 33577).2.2 + i) = i := by show (0 : Int) + i = _; omega
    exact ⟨rfl, h2, by rw [e]; exact h3⟩
theorem wx_a42 {N : Lc → List AV → AMem → Prop} {K : Nat → Lc → List AV → AMem → Prop} {Rt : Option AV → AMem → Prop} {loc : Lc} {st : List AV} {M : AMem} {i t : Int} : wp1 .aaload N K Rt loc (aI i :: aR 99114 t :: st) M = ((0 ≤ i ∧ i < 48) ∧ N loc (aR 10 (i) :: st) M) := by
  rw [wx_aald1 (g := 99114) rfl]
  apply propext
  constructor
  · rintro ⟨_, h2, h3⟩
    have e : ((aT 99114).2.2 + i) = i := by show (0 : Int) + i = _; omega
    rw [e] at h3
    exact ⟨h2, h3⟩
  · rintro ⟨h2, h3⟩
    have e : ((aT 99114).2.2 + i) = i := by show (0 : Int) + i = _; omega
    exact ⟨rfl, h2, by rw [e]; exact h3⟩
theorem wx_a35 {N : Lc → List AV → AMem → Prop} {K : Nat → Lc → List AV → AMem → Prop} {Rt : Option AV → AMem → Prop} {loc : Lc} {st : List AV} {M : AMem} {i t : Int} : wp1 .aaload N K Rt loc (aI i :: aR 15139 t :: st) M = ((0 ≤ i ∧ i < 7) ∧ N loc (aR 98852 (i) :: st) M) := by
  rw [wx_aald1 (g := 15139) rfl]
  apply propext
  constructor
  · rintro ⟨_, h2, h3⟩
    have e : ((aT 15139).2.2 + i) = i := by show (0 : Int) + i = _; omega
    rw [e] at h3
    exact ⟨h2, h3⟩
  · rintro ⟨h2, h3⟩
    have e : ((aT 15139).2.2 + i) = i := by show (0 : Int) + i = _; omega
    exact ⟨rfl, h2, by rw [e]; exact h3⟩
theorem wx_a37 {N : Lc → List AV → AMem → Prop} {K : Nat → Lc → List AV → AMem → Prop} {Rt : Option AV → AMem → Prop} {loc : Lc} {st : List AV} {M : AMem} {i t : Int} : wp1 .aaload N K Rt loc (aI i :: aR 15141 t :: st) M = ((0 ≤ i ∧ i < 7) ∧ N loc (aR 98854 (i) :: st) M) := by
  rw [wx_aald1 (g := 15141) rfl]
  apply propext
  constructor
  · rintro ⟨_, h2, h3⟩
    have e : ((aT 15141).2.2 + i) = i := by show (0 : Int) + i = _; omega
    rw [e] at h3
    exact ⟨h2, h3⟩
  · rintro ⟨h2, h3⟩
    have e : ((aT 15141).2.2 + i) = i := by show (0 : Int) + i = _; omega
    exact ⟨rfl, h2, by rw [e]; exact h3⟩
theorem wx_aK {N : Lc → List AV → AMem → Prop} {K : Nat → Lc → List AV → AMem → Prop} {Rt : Option AV → AMem → Prop} {loc : Lc} {st : List AV} {M : AMem} {i t : Int} : wp1 .aaload N K Rt loc (aI i :: aR 62328 t :: st) M = ((0 ≤ i ∧ i < 30) ∧ N loc (aR 12 (i) :: st) M) := by
  rw [wx_aald1 (g := 62328) rfl]
  apply propext
  constructor
  · rintro ⟨_, h2, h3⟩
    have e : ((aT 62328).2.2 + i) = i := by show (0 : Int) + i = _; omega
    rw [e] at h3
    exact ⟨h2, h3⟩
  · rintro ⟨h2, h3⟩
    have e : ((aT 62328).2.2 + i) = i := by show (0 : Int) + i = _; omega
    exact ⟨rfl, h2, by rw [e]; exact h3⟩
theorem wx_a21 {N : Lc → List AV → AMem → Prop} {K : Nat → Lc → List AV → AMem → Prop} {Rt : Option AV → AMem → Prop} {loc : Lc} {st : List AV} {M : AMem} {i t : Int} : wp1 .aaload N K Rt loc (aI i :: aR 8194837 t :: st) M = ((0 ≤ i ∧ i < 4001) ∧ 0 ≤ M 8194837 t i ∧ N loc (aR 12 (M 8194837 t i) :: st) M) := by
  rw [wx_aald2 (g := 8194837) rfl]
  apply propext
  constructor
  · rintro ⟨_, h2, h3, _, h4⟩
    exact ⟨h2, h3, h4⟩
  · rintro ⟨h2, h3, h4⟩
    exact ⟨rfl, h2, h3, rfl, h4⟩
theorem wx_s21 {N : Lc → List AV → AMem → Prop} {K : Nat → Lc → List AV → AMem → Prop} {Rt : Option AV → AMem → Prop} {loc : Lc} {st : List AV} {M : AMem} {i t t' : Int} : wp1 .aastore N K Rt loc (aR 12 t' :: aI i :: aR 8194837 t :: st) M = ((0 ≤ i ∧ i < 4001) ∧ N loc st (mup M 8194837 t i t')) := by
  apply propext
  constructor
  · rintro ⟨_, _, h2, _, _, _, h4⟩
    exact ⟨h2, h4⟩
  · rintro ⟨h2, h4⟩
    exact ⟨rfl, by decide, h2, rfl, rfl, rfl, h4⟩
theorem wx_a26 {N : Lc → List AV → AMem → Prop} {K : Nat → Lc → List AV → AMem → Prop} {Rt : Option AV → AMem → Prop} {loc : Lc} {st : List AV} {M : AMem} {i t : Int} : wp1 .aaload N K Rt loc (aI i :: aR 8194842 t :: st) M = ((0 ≤ i ∧ i < 4001) ∧ 0 ≤ M 8194842 t i ∧ N loc (aR 13 (M 8194842 t i) :: st) M) := by
  rw [wx_aald2 (g := 8194842) rfl]
  apply propext
  constructor
  · rintro ⟨_, h2, h3, _, h4⟩
    exact ⟨h2, h3, h4⟩
  · rintro ⟨h2, h3, h4⟩
    exact ⟨rfl, h2, h3, rfl, h4⟩
theorem wx_s26 {N : Lc → List AV → AMem → Prop} {K : Nat → Lc → List AV → AMem → Prop} {Rt : Option AV → AMem → Prop} {loc : Lc} {st : List AV} {M : AMem} {i t t' : Int} : wp1 .aastore N K Rt loc (aR 13 t' :: aI i :: aR 8194842 t :: st) M = ((0 ≤ i ∧ i < 4001) ∧ N loc st (mup M 8194842 t i t')) := by
  apply propext
  constructor
  · rintro ⟨_, _, h2, _, _, _, h4⟩
    exact ⟨h2, h4⟩
  · rintro ⟨h2, h4⟩
    exact ⟨rfl, by decide, h2, rfl, rfl, rfl, h4⟩
