/-! ===== the least of a group by turns ===== -/
/-- the end of a chain -/
def ez (a : Int → Int) : Nat → Int → Int
  | 0, r => r
  | n + 1, r => if a r = -1 then r else ez a n (a r)
/-- one edge -/
def mst (a L : Int → Int) (r : Int) : Int → Int := if a r = -1 then L else fun x => if x = a r then (if L (a r) < L r then L (a r) else L r) else if x = r then (if L (a r) < L r then L (a r) else L r) else L x
def mtn (a L : Int → Int) : Nat → Int → Int
  | 0 => L
  | n + 1 => mst a (mtn a L n) ((n + 1 : Nat) : Int)
def mgr (a : Int → Int) (m : Nat) : Nat → Int → Int
  | 0 => fun x => x
  | k + 1 => mtn a (mgr a m k) (m - 1)
theorem cnt_lx {p q : Nat → Bool} {n k : Nat} (h : ∀ j, j < n → p j = true → q j = true) (hk : k < n) (h1 : p k = false) (h2 : q k = true) : cnt p n + 1 ≤ cnt q n := by
  have e := cnt_upd (p := p) (p' := fun j => p j || j == k) k (fun j hj => by simp [hj]) n hk
  have l : cnt (fun j => p j || j == k) n ≤ cnt q n := cnt_le n (fun j hj hp => by
    rcases Bool.or_eq_true _ _ |>.mp hp with z | z
    · exact h j hj z
    · rw [show j = k by simpa using z]; exact h2)
  rw [h1] at e
  simp at e
  omega
section LAB
variable {a L : Int → Int} {m : Nat}
theorem ez_fix {r : Int} (h : a r = -1) : ∀ n : Nat, ez a n r = r
  | 0 => rfl
  | n + 1 => by show (if a r = -1 then r else _) = r; rw [if_pos h]
theorem ez_add : ∀ (i j : Nat) (r : Int), ez a (i + j) r = ez a j (ez a i r)
  | 0, j, r => by rw [Nat.zero_add]; rfl
  | i + 1, j, r => by
    rw [show i + 1 + j = (i + j) + 1 by omega]
    by_cases c : a r = -1
    · rw [ez_fix c, ez_fix c, ez_fix c]
    · show (if a r = -1 then r else ez a (i + j) (a r)) = ez a j (if a r = -1 then r else ez a i (a r))
      rw [if_neg c, if_neg c, ez_add i j]
theorem ez_r (ha : ∀ r : Int, 1 ≤ r → r < m → a r = -1 ∨ (1 ≤ a r ∧ a r < m)) : ∀ (n : Nat) (r : Int), 1 ≤ r → r < m → 1 ≤ ez a n r ∧ ez a n r < m
  | 0, r, h1, h2 => ⟨h1, h2⟩
  | n + 1, r, h1, h2 => by
    show 1 ≤ (if a r = -1 then r else ez a n (a r)) ∧ (if a r = -1 then r else ez a n (a r)) < m
    by_cases c : a r = -1
    · rw [if_pos c]; exact ⟨h1, h2⟩
    · rw [if_neg c]
      have z : 1 ≤ a r ∧ a r < m := (ha r h1 h2).resolve_left c
      exact ez_r ha n (a r) z.1 z.2
/-- an end is reached within 31 steps, if at all -/
theorem ez_31 (hm : m ≤ 32) (ha : ∀ r : Int, 1 ≤ r → r < m → a r = -1 ∨ (1 ≤ a r ∧ a r < m)) {r : Int} (h1 : 1 ≤ r) (h2 : r < m) : ∀ N : Nat, a (ez a N r) = -1 → (∀ k, k < N → ¬ a (ez a k r) = -1) → N ≤ 31 := by
  intro N hN hl
  have z := inj_cnt m (N + 1) (fun _ => true) (fun i => (ez a i r).toNat) (fun i _ => by
    have := ez_r ha i r h1 h2
    exact ⟨by omega, rfl⟩) (fun i j hij hj e => by
    have ri := ez_r ha i r h1 h2
    have rj := ez_r ha j r h1 h2
    have e' : ez a i r = ez a j r := by
      have : (ez a i r).toNat = (ez a j r).toNat := e
      omega
    refine hl (i + (N - j)) (by omega) ?_
    rw [ez_add, e', ← ez_add, show j + (N - j) = N by omega]
    exact hN)
  have b := (cnt_b (fun _ => true) m).2
  omega
theorem ez_st {r : Int} {N n : Nat} (h : a (ez a N r) = -1) (hn : N ≤ n) : ez a n r = ez a N r := by
  have := ez_add (a := a) N (n - N) r
  rw [show N + (n - N) = n by omega] at this
  rw [this, ez_fix h]
theorem ez_min {r : Int} : ∀ N : Nat, a (ez a N r) = -1 → ∃ k, k ≤ N ∧ a (ez a k r) = -1 ∧ ∀ j, j < k → ¬ a (ez a j r) = -1
  | 0, h => ⟨0, Nat.le_refl _, h, fun j hj => absurd hj (by omega)⟩
  | N + 1, h => by
    by_cases c : ∃ j, j ≤ N ∧ a (ez a j r) = -1
    · obtain ⟨j, hj, e⟩ := c
      have e' : a (ez a N r) = -1 := by rw [ez_st e hj]; exact e
      obtain ⟨k, k1, k2⟩ := ez_min N e'
      exact ⟨k, by omega, k2⟩
    · exact ⟨N + 1, Nat.le_refl _, h, fun j hj e => c ⟨j, by omega, e⟩⟩
theorem ez_e (hm : m ≤ 32) (ha : ∀ r : Int, 1 ≤ r → r < m → a r = -1 ∨ (1 ≤ a r ∧ a r < m)) (nr : ∀ r : Int, 1 ≤ r → r < m → ∃ N : Nat, a (ez a N r) = -1) {r : Int} (h1 : 1 ≤ r) (h2 : r < m) : a (ez a 31 r) = -1 := by
  obtain ⟨N, hN⟩ := nr r h1 h2
  obtain ⟨k, _, k2, k3⟩ := ez_min N hN
  have l := ez_31 hm ha h1 h2 k k2 k3
  rw [ez_st k2 l]
  exact k2
theorem ez_s (hm : m ≤ 32) (ha : ∀ r : Int, 1 ≤ r → r < m → a r = -1 ∨ (1 ≤ a r ∧ a r < m)) (nr : ∀ r : Int, 1 ≤ r → r < m → ∃ N : Nat, a (ez a N r) = -1) {r : Int} (h1 : 1 ≤ r) (h2 : r < m) (c : ¬ a r = -1) : ez a 32 r = ez a 32 (a r) := by
  have z : 1 ≤ a r ∧ a r < m := (ha r h1 h2).resolve_left c
  have e := ez_e hm ha nr z.1 z.2
  have q := ez_st (n := 32) e (by omega)
  rw [q]
  show (if a r = -1 then r else ez a 31 (a r)) = _
  rw [if_neg c]
/-- labels stay in their group -/
def LbP (a : Int → Int) (m : Nat) (L : Int → Int) : Prop := ∀ x : Int, 1 ≤ x → x < m → 1 ≤ L x ∧ L x ≤ x ∧ ez a 32 (L x) = ez a 32 x
theorem mst_le (r x : Int) : mst a L r x ≤ L x := by
  unfold mst
  by_cases c : a r = -1
  · rw [if_pos c]; omega
  · rw [if_neg c]
    show (if x = a r then _ else _) ≤ _
    by_cases d : x = a r
    · rw [if_pos d, d]; split <;> omega
    · rw [if_neg d]
      by_cases e : x = r
      · rw [if_pos e, e]; split <;> omega
      · rw [if_neg e]; omega
theorem mst_e {r : Int} (c : ¬ a r = -1) : mst a L r r ≤ L (a r) ∧ mst a L r (a r) ≤ L r := by
  unfold mst
  rw [if_neg c]
  show (if r = a r then _ else _) ≤ _ ∧ (if a r = a r then _ else _) ≤ _
  rw [if_pos (rfl : a r = a r)]
  constructor
  · by_cases d : r = a r
    · rw [if_pos d]; split <;> omega
    · rw [if_neg d, if_pos rfl]; split <;> omega
  · split <;> omega
theorem mst_P (ha : ∀ r : Int, 1 ≤ r → r < m → a r = -1 ∨ (1 ≤ a r ∧ a r < m)) (hs : ∀ r : Int, 1 ≤ r → r < m → ¬ a r = -1 → ez a 32 r = ez a 32 (a r)) (h : LbP a m L) {r : Int} (h1 : 1 ≤ r) (h2 : r < m) : LbP a m (mst a L r) := by
  intro x x1 x2
  by_cases c : a r = -1
  · unfold mst; rw [if_pos c]; exact h x x1 x2
  have z : 1 ≤ a r ∧ a r < m := (ha r h1 h2).resolve_left c
  have s := hs r h1 h2 c
  have p1 := h r h1 h2
  have p2 := h (a r) z.1 z.2
  have l := mst_le (a := a) (L := L) r x
  have px := h x x1 x2
  have q : 1 ≤ mst a L r x ∧ ez a 32 (mst a L r x) = ez a 32 x := by
    unfold mst
    rw [if_neg c]
    show 1 ≤ (if x = a r then _ else _) ∧ ez a 32 (if x = a r then _ else _) = _
    by_cases d : x = a r
    · rw [if_pos d]
      split
      · exact ⟨p2.1, by rw [p2.2.2, d]⟩
      · exact ⟨p1.1, by rw [p1.2.2, d, s]⟩
    · rw [if_neg d]
      by_cases e : x = r
      · rw [if_pos e]
        split
        · exact ⟨p2.1, by rw [p2.2.2, e, s]⟩
        · exact ⟨p1.1, by rw [p1.2.2, e]⟩
      · rw [if_neg e]; exact ⟨px.1, px.2.2⟩
  exact ⟨q.1, by omega, q.2⟩
theorem mtn_le (x : Int) : ∀ n : Nat, mtn a L n x ≤ L x
  | 0 => Int.le_refl _
  | n + 1 => Int.le_trans (mst_le _ x) (mtn_le x n)
theorem mtn_e {r : Nat} (h1 : 1 ≤ r) (c : ¬ a (r : Int) = -1) : ∀ n : Nat, r ≤ n → mtn a L n r ≤ L (a r) ∧ mtn a L n (a r) ≤ L r
  | 0, h => absurd h (by omega)
  | n + 1, h => by
    by_cases e : r = n + 1
    · have z := mst_e (L := mtn a L n) c
      have u := mtn_le (a := a) (L := L) (a r) n
      have v := mtn_le (a := a) (L := L) r n
      show mst a (mtn a L n) ((n + 1 : Nat) : Int) r ≤ _ ∧ mst a (mtn a L n) ((n + 1 : Nat) : Int) (a r) ≤ _
      rw [← e]
      omega
    · have ih := mtn_e (r := r) h1 c n (by omega)
      have u := mst_le (a := a) (L := mtn a L n) ((n + 1 : Nat) : Int) r
      have v := mst_le (a := a) (L := mtn a L n) ((n + 1 : Nat) : Int) (a r)
      show mst a (mtn a L n) ((n + 1 : Nat) : Int) r ≤ _ ∧ mst a (mtn a L n) ((n + 1 : Nat) : Int) (a r) ≤ _
      omega
theorem mtn_P (ha : ∀ r : Int, 1 ≤ r → r < m → a r = -1 ∨ (1 ≤ a r ∧ a r < m)) (hs : ∀ r : Int, 1 ≤ r → r < m → ¬ a r = -1 → ez a 32 r = ez a 32 (a r)) (h : LbP a m L) : ∀ n : Nat, n < m → LbP a m (mtn a L n)
  | 0, _ => h
  | n + 1, hn => mst_P ha hs (mtn_P ha hs h n (by omega)) (by omega) (by omega)
theorem mgr_P (h0 : 1 ≤ m) (ha : ∀ r : Int, 1 ≤ r → r < m → a r = -1 ∨ (1 ≤ a r ∧ a r < m)) (hs : ∀ r : Int, 1 ≤ r → r < m → ¬ a r = -1 → ez a 32 r = ez a 32 (a r)) : ∀ k : Nat, LbP a m (mgr a m k)
  | 0 => fun x h1 h2 => ⟨h1, Int.le_refl _, rfl⟩
  | k + 1 => mtn_P ha hs (mgr_P h0 ha hs k) (m - 1) (by omega)
/-- the least of a group, in pure words -/
def LGz (a : Int → Int) (r v : Int) : Prop := (1 ≤ v ∧ v ≤ r) ∧ ez a 32 v = ez a 32 r ∧ ∀ o : Int, 1 ≤ o → o < v → ¬ ez a 32 o = ez a 32 r
theorem LGz_ex (a : Int → Int) : ∀ (n : Nat) (r : Int), 1 ≤ r → r.toNat ≤ n → ∃ v, LGz a r v
  | 0, r, h, k => absurd k (by omega)
  | n + 1, r, h, k => by
    by_cases c : ∃ o : Int, (1 ≤ o ∧ o < r) ∧ ez a 32 o = ez a 32 r
    · obtain ⟨o, o1, o2⟩ := c
      obtain ⟨v, v1, v2, v3⟩ := LGz_ex a n o o1.1 (by omega)
      exact ⟨v, ⟨v1.1, by omega⟩, by rw [v2, o2], fun x x1 x2 => by rw [← o2]; exact v3 x x1 x2⟩
    · exact ⟨r, ⟨h, Int.le_refl _⟩, rfl, fun o o1 o2 e => c ⟨o, ⟨o1, o2⟩, e⟩⟩
theorem LGz_u {r v w : Int} (h : LGz a r v) (k : LGz a r w) : v = w := by
  by_cases c : v < w
  · exact absurd h.2.1 (k.2.2 v h.1.1 c)
  · by_cases d : w < v
    · exact absurd k.2.1 (h.2.2 w k.1.1 d)
    · omega
/-- 32 turns do -/
theorem mgr_l (h0 : 1 ≤ m ∧ m ≤ 32) (ha : ∀ r : Int, 1 ≤ r → r < m → a r = -1 ∨ (1 ≤ a r ∧ a r < m)) (nr : ∀ r : Int, 1 ≤ r → r < m → ∃ N : Nat, a (ez a N r) = -1) {r0 : Int} (r1 : 1 ≤ r0) (r2 : r0 < m) : LGz a r0 (mgr a m 32 r0) := by
  have hs : ∀ r : Int, 1 ≤ r → r < m → ¬ a r = -1 → ez a 32 r = ez a 32 (a r) := fun r h1 h2 c => ez_s h0.2 ha nr h1 h2 c
  obtain ⟨y, y1, y2, y3⟩ := LGz_ex a r0.toNat r0 r1 (Nat.le_refl _)
  have P := mgr_P h0.1 ha hs
  have lo : ∀ (k : Nat) (x : Int), 1 ≤ x → x < m → ez a 32 x = ez a 32 r0 → y ≤ mgr a m k x := fun k x x1 x2 e => by
    have p := P k x x1 x2
    by_cases c : mgr a m k x < y
    · exact absurd (by rw [p.2.2, e]) (y3 _ p.1 c)
    · omega
  have cp : ∀ (k : Nat) (x : Int), 1 ≤ x → x < m → mgr a m k x = y → ez a 32 x = ez a 32 r0 := fun k x x1 x2 e => by
    have p := P k x x1 x2
    rw [← p.2.2, e, y2]
  have mo : ∀ (k : Nat) (x : Int), 1 ≤ x → x < m → mgr a m k x = y → mgr a m (k + 1) x = y := fun k x x1 x2 e => by
    have u : mgr a m (k + 1) x ≤ mgr a m k x := mtn_le x _
    have v := lo (k + 1) x x1 x2 (cp k x x1 x2 e)
    omega
  have up : ∀ (k : Nat) (r : Int), 1 ≤ r → r < m → ¬ a r = -1 → (mgr a m k r = y → mgr a m (k + 1) (a r) = y) ∧ (mgr a m k (a r) = y → mgr a m (k + 1) r = y) := fun k r h1 h2 c => by
    have z : 1 ≤ a r ∧ a r < m := (ha r h1 h2).resolve_left c
    have s := hs r h1 h2 c
    have q := mtn_e (a := a) (L := mgr a m k) (r := r.toNat) (by omega) (by rw [show ((r.toNat : Nat) : Int) = r by omega]; exact c) (m - 1) (by omega)
    rw [show ((r.toNat : Nat) : Int) = r by omega] at q
    have q1 : mgr a m (k + 1) r ≤ mgr a m k (a r) := q.1
    have q2 : mgr a m (k + 1) (a r) ≤ mgr a m k r := q.2
    constructor
    · intro e
      have v := lo (k + 1) (a r) z.1 z.2 (by rw [← s]; exact cp k r h1 h2 e)
      omega
    · intro e
      have v := lo (k + 1) r h1 h2 (by rw [s]; exact cp k (a r) z.1 z.2 e)
      omega
  have al : ∀ k : Nat, (∀ r : Int, 1 ≤ r → r < m → ¬ a r = -1 → (mgr a m k r = y ↔ mgr a m k (a r) = y)) → mgr a m k y = y → ∀ x : Int, 1 ≤ x → x < m → ez a 32 x = ez a 32 r0 → mgr a m k x = y := fun k cl hy x x1 x2 e => by
    have u : ∀ (n : Nat) (x : Int), 1 ≤ x → x < m → (mgr a m k x = y ↔ mgr a m k (ez a n x) = y) := by
      intro n
      induction n with
      | zero => intro x _ _; exact Iff.rfl
      | succ n ih =>
        intro x x1 x2
        show _ ↔ mgr a m k (if a x = -1 then x else ez a n (a x)) = y
        by_cases c : a x = -1
        · rw [if_pos c]
        · rw [if_neg c]
          have z : 1 ≤ a x ∧ a x < m := (ha x x1 x2).resolve_left c
          rw [cl x x1 x2 c]
          exact ih (a x) z.1 z.2
    rw [u 32 x x1 x2, e, ← y2, ← u 32 y y1.1 (by omega)]
    exact hy
  have y4 : ∀ k : Nat, mgr a m k y = y := fun k => by
    have p := P k y y1.1 (by omega)
    have v := lo k y y1.1 (by omega) y2
    omega
  have gr : ∀ k : Nat, ((k : Int) + 1 ≤ cnt (fun j => decide (1 ≤ j ∧ mgr a m k (j : Int) = y)) m) ∨ ∀ x : Int, 1 ≤ x → x < m → ez a 32 x = ez a 32 r0 → mgr a m k x = y := by
    intro k
    induction k with
    | zero =>
      refine Or.inl ?_
      have := cnt_pos (p := fun j => decide (1 ≤ j ∧ mgr a m 0 (j : Int) = y)) m y.toNat (by omega) (by
        rw [show ((y.toNat : Nat) : Int) = y by omega, y4 0]
        exact decide_eq_true ⟨by omega, rfl⟩)
      simpa using this
    | succ k ih =>
      rcases ih with ih | ih
      · by_cases cl : ∀ r : Int, 1 ≤ r → r < m → ¬ a r = -1 → (mgr a m k r = y ↔ mgr a m k (a r) = y)
        · exact Or.inr (fun x x1 x2 e => mo k x x1 x2 (al k cl (y4 k) x x1 x2 e))
        · refine Or.inl ?_
          have ex : ∃ z : Nat, z < m ∧ 1 ≤ z ∧ ¬ mgr a m k (z : Int) = y ∧ mgr a m (k + 1) (z : Int) = y := by
            by_cases d : ∃ z : Nat, z < m ∧ 1 ≤ z ∧ ¬ mgr a m k (z : Int) = y ∧ mgr a m (k + 1) (z : Int) = y
            · exact d
            · exfalso
              apply cl
              intro r h1 h2 c
              have z : 1 ≤ a r ∧ a r < m := (ha r h1 h2).resolve_left c
              have q := up k r h1 h2 c
              constructor
              · intro e
                by_cases w : mgr a m k (a r) = y
                · exact w
                · exact absurd ⟨(a r).toNat, by omega, by omega, by rw [show (((a r).toNat : Nat) : Int) = a r by omega]; exact w, by rw [show (((a r).toNat : Nat) : Int) = a r by omega]; exact q.1 e⟩ d
              · intro e
                by_cases w : mgr a m k r = y
                · exact w
                · exact absurd ⟨r.toNat, by omega, by omega, by rw [show ((r.toNat : Nat) : Int) = r by omega]; exact w, by rw [show ((r.toNat : Nat) : Int) = r by omega]; exact q.2 e⟩ d
          obtain ⟨z, z1, z2, z3, z4⟩ := ex
          have g := cnt_lx (p := fun j => decide (1 ≤ j ∧ mgr a m k (j : Int) = y)) (q := fun j => decide (1 ≤ j ∧ mgr a m (k + 1) (j : Int) = y)) (n := m) (k := z) (fun j hj hp => by
            have hp' := of_decide_eq_true hp
            exact decide_eq_true ⟨hp'.1, mo k j (by omega) (by omega) hp'.2⟩) z1 (decide_eq_false (fun e => z3 e.2)) (decide_eq_true ⟨z2, z4⟩)
          omega
      · exact Or.inr (fun x x1 x2 e => mo k x x1 x2 (ih x x1 x2 e))
  have e : mgr a m 32 r0 = y := by
    rcases gr 32 with g | g
    · have b := (cnt_b (fun j => decide (1 ≤ j ∧ mgr a m 32 (j : Int) = y)) m).2
      omega
    · exact g r0 r1 r2 rfl
  rw [e]
  exact ⟨y1, y2, y3⟩
end LAB
