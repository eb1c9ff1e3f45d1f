/-! ===== pure: counting, searching, the rows ===== -/
theorem cnt_congr {p p' : Nat → Bool} : ∀ n : Nat, (∀ j, j < n → p j = p' j) → cnt p n = cnt p' n
  | 0, _ => rfl
  | n + 1, h => by
    unfold cnt
    rw [cnt_congr n (fun j hj => h j (by omega)), h n (by omega)]
theorem cnt_upd {p p' : Nat → Bool} (k : Nat) (h : ∀ j, j ≠ k → p' j = p j) : ∀ n : Nat, k < n → cnt p' n = cnt p n - (if p k = true then 1 else 0) + (if p' k = true then 1 else 0)
  | 0, hk => absurd hk (by omega)
  | n + 1, hk => by
    unfold cnt
    by_cases e : k = n
    · subst e
      rw [cnt_congr k (p := p') (p' := p) (fun j hj => h j (by omega))]
      omega
    · rw [cnt_upd k h n (by omega), h n (fun z => e z.symm)]
      omega
theorem cnt_le {p r : Nat → Bool} : ∀ n : Nat, (∀ j, j < n → p j = true → r j = true) → cnt p n ≤ cnt r n
  | 0, _ => by unfold cnt; omega
  | n + 1, h => by
    have ih := cnt_le n (fun j hj => h j (by omega))
    have h := h n (by omega)
    unfold cnt
    by_cases c : p n = true
    · rw [if_pos c, if_pos (h c)]; omega
    · rw [if_neg c]
      split <;> omega
theorem cnt_0 {p : Nat → Bool} : ∀ n : Nat, (∀ j, j < n → p j = false) → cnt p n = 0
  | 0, _ => rfl
  | n + 1, h => by
    unfold cnt
    rw [cnt_0 n (fun j hj => h j (by omega)), if_neg (by rw [h n (by omega)]; decide)]
    rfl
theorem cnt_1 {p : Nat → Bool} : ∀ n : Nat, (∀ i j, i < n → j < n → p i = true → p j = true → i = j) → cnt p n ≤ 1
  | 0, _ => by unfold cnt; omega
  | n + 1, h => by
    unfold cnt
    by_cases c : p n = true
    · rw [if_pos c, cnt_0 n (fun j hj => by
        cases e : p j
        · rfl
        · have := h j n (by omega) (by omega) e c
          omega)]
      omega
    · rw [if_neg c]
      have := cnt_1 n (fun i j hi hj => h i j (by omega) (by omega))
      omega
theorem cnt_pos {p : Nat → Bool} : ∀ (n k : Nat), k < n → p k = true → 1 ≤ cnt p n
  | 0, k, h, _ => absurd h (by omega)
  | n + 1, k, h, hp => by
    unfold cnt
    by_cases e : k = n
    · subst e
      rw [if_pos hp]
      have := (cnt_b p k).1
      omega
    · have := cnt_pos n k (by omega) hp
      split <;> omega
theorem inj_cnt (N : Nat) : ∀ (n : Nat) (p : Nat → Bool) (s : Nat → Nat), (∀ i, i < n → s i < N ∧ p (s i) = true) → (∀ i j, i < j → j < n → s i ≠ s j) → (n : Int) ≤ cnt p N
  | 0, p, _, _, _ => by
    have := (cnt_b p N).1
    omega
  | n + 1, p, s, h1, h2 => by
    have a := h1 n (by omega)
    have ih := inj_cnt N n (fun j => p j && !(j == s n)) s (fun i hi => ⟨(h1 i (by omega)).1, by
      have := h2 i n (by omega) (by omega)
      simp [(h1 i (by omega)).2, this]⟩) (fun i j hi hj => h2 i j hi (by omega))
    have u := cnt_upd (p := p) (p' := fun j => p j && !(j == s n)) (s n) (fun j hj => by simp [hj]) N a.1
    rw [if_pos a.2, if_neg (by simp)] at u
    omega
theorem fnd_int (P : Int → Bool) (k : Nat) : (fnd (fun q : Nat => P q) k 0 = -1 ∧ ∀ q : Int, 0 ≤ q → q < k → P q = false) ∨ (0 ≤ fnd (fun q : Nat => P q) k 0 ∧ fnd (fun q : Nat => P q) k 0 < k ∧ P (fnd (fun q : Nat => P q) k 0) = true ∧ ∀ x : Int, 0 ≤ x → x < fnd (fun q : Nat => P q) k 0 → P x = false) := by
  rcases fnd_spec (fun q : Nat => P q) k 0 with ⟨h1, h2⟩ | ⟨i, h1, h2, h3, h4, h5⟩
  · refine Or.inl ⟨h1, fun q h0 hk => ?_⟩
    have := h2 q.toNat (by omega) (by omega)
    rw [show ((q.toNat : Nat) : Int) = q by omega] at this
    exact this
  · refine Or.inr ?_
    rw [h1]
    refine ⟨by omega, by omega, h4, fun x h0 hx => ?_⟩
    have := h5 x.toNat (by omega) (by omega)
    rw [show ((x.toNat : Nat) : Int) = x by omega] at this
    exact this
/-- a search from 0 finds the one and only -/
theorem fnd_uni (P : Int → Bool) (k : Nat) (x : Int) (h0 : 0 ≤ x) (hk : x < k) (hp : P x = true) (hu : ∀ y : Int, 0 ≤ y → y < k → P y = true → y = x) : fnd (fun q : Nat => P q) k 0 = x := by
  rcases fnd_int P k with ⟨h1, h2⟩ | ⟨h1, h2, h3, h4⟩
  · have := h2 x h0 hk
    rw [hp] at this
    cases this
  · exact hu _ h1 h2 h3
theorem fnd_none (P : Int → Bool) (k : Nat) (h : ∀ y : Int, 0 ≤ y → y < k → P y = false) : fnd (fun q : Nat => P q) k 0 = -1 := by
  rcases fnd_int P k with ⟨h1, h2⟩ | ⟨h1, h2, h3, h4⟩
  · exact h1
  · rw [h _ h1 h2] at h3
    cases h3
/-- a row ahead of another -/
def ahp (ro ky : Int → Int) (a b : Int) : Prop := ro b < ro a ∨ (ro a = ro b ∧ ky a < ky b)
theorem ahp_irr {ro ky : Int → Int} {a : Int} (h : ahp ro ky a a) : False := by unfold ahp at h; omega
theorem ahp_tr {ro ky : Int → Int} {a b c : Int} (h : ahp ro ky a b) (h2 : ahp ro ky b c) : ahp ro ky a c := by unfold ahp at *; omega
theorem ahp_as {ro ky : Int → Int} {a b : Int} (h : ahp ro ky a b) (h2 : ahp ro ky b a) : False := by unfold ahp at *; omega
/-- the class's rows (size, tasks, rows) are the reference's ready requests (state, task, row, key), sg tells which -/
def RwR (sz : Int) (rt rr st tk ro ky sg : Int → Int) : Prop := 0 ≤ sz ∧ (∀ i : Int, 0 ≤ i → i < sz → (0 ≤ sg i ∧ sg i < 400) ∧ st (sg i) = 1 ∧ tk (sg i) = rt i ∧ ro (sg i) = rr i) ∧ (∀ i j : Int, 0 ≤ i → i < j → j < sz → ahp ro ky (sg j) (sg i)) ∧ ∀ q : Int, 0 ≤ q → q < 400 → st q = 1 → ∃ i : Int, 0 ≤ i ∧ i < sz ∧ sg i = q
section RW
variable {sz : Int} {rt rr st tk ro ky sg : Int → Int}
theorem RwR.pt (h : RwR sz rt rr st tk ro ky sg) (i : Int) (h0 : 0 ≤ i) (h1 : i < sz) : (0 ≤ sg i ∧ sg i < 400) ∧ st (sg i) = 1 ∧ tk (sg i) = rt i ∧ ro (sg i) = rr i := h.2.1 i h0 h1
theorem RwR.od (h : RwR sz rt rr st tk ro ky sg) (i j : Int) (h0 : 0 ≤ i) (h1 : i < j) (h2 : j < sz) : ahp ro ky (sg j) (sg i) := h.2.2.1 i j h0 h1 h2
theorem RwR.on (h : RwR sz rt rr st tk ro ky sg) (q : Int) (h0 : 0 ≤ q) (h1 : q < 400) (h2 : st q = 1) : ∃ i : Int, 0 ≤ i ∧ i < sz ∧ sg i = q := h.2.2.2 q h0 h1 h2
theorem RwR.inj (h : RwR sz rt rr st tk ro ky sg) (i j : Int) (h0 : 0 ≤ i) (h1 : i < sz) (h2 : 0 ≤ j) (h3 : j < sz) (e : sg i = sg j) : i = j := by
  by_cases c : i < j
  · have := h.od i j h0 c h3
    rw [e] at this
    exact (ahp_irr this).elim
  · by_cases d : j < i
    · have := h.od j i h2 d h1
      rw [e] at this
      exact (ahp_irr this).elim
    · omega
theorem RwR.srt (h : RwR sz rt rr st tk ro ky sg) (i j : Int) (h0 : 0 ≤ i) (h1 : i ≤ j) (h2 : j < sz) : rr i ≤ rr j := by
  by_cases c : i = j
  · subst c; omega
  · have a := h.od i j h0 (by omega) h2
    have b := h.pt i h0 (by omega)
    have d := h.pt j (by omega) h2
    unfold ahp at a
    omega
theorem RwR.top2 (h : RwR sz rt rr st tk ro ky sg) (q : Int) (h0 : 0 ≤ q) (h1 : q < 400) (h2 : st q = 1) : q = sg (sz - 1) ∨ ahp ro ky (sg (sz - 1)) q := by
  obtain ⟨i, a, b, c⟩ := h.on q h0 h1 h2
  by_cases e : i = sz - 1
  · subst e; exact Or.inl c.symm
  · right
    have := h.od i (sz - 1) a (by omega) (by omega)
    rw [c] at this
    exact this
theorem RwR.len (h : RwR sz rt rr st tk ro ky sg) : sz ≤ cnt (fun q => decide (st q = 1)) 400 := by
  have := inj_cnt 400 sz.toNat (fun q => decide (st q = 1)) (fun i => (sg i).toNat) (fun i hi => by
    have := h.pt i (by omega) (by omega)
    refine ⟨by omega, ?_⟩
    rw [show (((sg i).toNat : Nat) : Int) = sg i by omega]
    exact decide_eq_true this.2.1) (fun i j hi hj e => by
    have a := h.pt i (by omega) (by omega)
    have b := h.pt j (by omega) (by omega)
    have := h.inj i j (by omega) (by omega) (by omega) (by omega) (by omega)
    omega)
  have h0 := h.1
  omega
theorem RwR.ins {n q p k t : Int} {rt' rr' st' tk' ro' ky' : Int → Int} (h : RwR sz rt rr st tk ro ky sg) (hq : 0 ≤ q ∧ q < 400) (hs : st q ≠ 1) (hn : 0 ≤ n ∧ n ≤ sz)
    (e1 : ∀ x, st' x = if x = q then 1 else st x) (e2 : ∀ x, tk' x = if x = q then t else tk x) (e3 : ∀ x, ro' x = if x = q then p else ro x) (e4 : ∀ x, ky' x = if x = q then k else ky x)
    (f1 : ∀ i, 0 ≤ i → i ≤ sz → rt' i = if i < n then rt i else if i = n then t else rt (i - 1)) (f2 : ∀ i, 0 ≤ i → i ≤ sz → rr' i = if i < n then rr i else if i = n then p else rr (i - 1))
    (a1 : ∀ i, 0 ≤ i → i < n → rr i < p ∨ (rr i = p ∧ k < ky (sg i))) (a2 : ∀ i, n ≤ i → i < sz → p < rr i ∨ (rr i = p ∧ ky (sg i) < k)) :
    RwR (sz + 1) rt' rr' st' tk' ro' ky' (fun i => if i < n then sg i else if i = n then q else sg (i - 1)) := by
  have ne : ∀ i, 0 ≤ i → i < sz → sg i ≠ q := fun i a b e => hs (by rw [← e]; exact (h.pt i a b).2.1)
  have old : ∀ i, 0 ≤ i → i < sz → (0 ≤ sg i ∧ sg i < 400) ∧ st' (sg i) = 1 ∧ tk' (sg i) = rt i ∧ ro' (sg i) = rr i ∧ ky' (sg i) = ky (sg i) := fun i a b => by
    have c := h.pt i a b
    have d := ne i a b
    rw [e1, e2, e3, e4, if_neg d, if_neg d, if_neg d, if_neg d]
    exact ⟨c.1, c.2.1, c.2.2.1, c.2.2.2, rfl⟩
  have oo : ∀ i j, 0 ≤ i → i < j → j < sz → ahp ro' ky' (sg j) (sg i) := fun i j a b c => by
    have d := h.od i j a b c
    unfold ahp at *
    rw [e3, e3, e4, e4, if_neg (ne i a (by omega)), if_neg (ne j (by omega) c), if_neg (ne i a (by omega)), if_neg (ne j (by omega) c)]
    exact d
  have lo : ∀ i, 0 ≤ i → i < n → ahp ro' ky' q (sg i) := fun i a b => by
    have c := old i a (by omega)
    have d := a1 i a b
    unfold ahp
    rw [c.2.2.2.1, c.2.2.2.2, e3, e4, if_pos rfl, if_pos rfl]
    omega
  have hi : ∀ i, n ≤ i → i < sz → ahp ro' ky' (sg i) q := fun i a b => by
    have c := old i (by omega) b
    have d := a2 i a b
    unfold ahp
    rw [c.2.2.2.1, c.2.2.2.2, e3, e4, if_pos rfl, if_pos rfl]
    omega
  have hz := h.1
  refine ⟨by omega, fun i a b => ?_, fun i j a b c => ?_, fun x a b c => ?_⟩
  · rw [f1 i a (by omega), f2 i a (by omega)]
    by_cases c1 : i < n
    · have c := old i a (by omega)
      simp only [if_pos c1]
      exact ⟨c.1, c.2.1, c.2.2.1, c.2.2.2.1⟩
    · by_cases c2 : i = n
      · simp only [if_neg c1, if_pos c2]
        rw [e1, e2, e3, if_pos rfl, if_pos rfl, if_pos rfl]
        exact ⟨hq, rfl, rfl, rfl⟩
      · have c := old (i - 1) (by omega) (by omega)
        simp only [if_neg c1, if_neg c2]
        exact ⟨c.1, c.2.1, c.2.2.1, c.2.2.2.1⟩
  · show ahp ro' ky' (if j < n then sg j else if j = n then q else sg (j - 1)) (if i < n then sg i else if i = n then q else sg (i - 1))
    by_cases c1 : j < n
    · rw [if_pos c1, if_pos (by omega)]
      exact oo i j a b (by omega)
    · by_cases c2 : j = n
      · rw [if_neg c1, if_pos c2, if_pos (by omega)]
        exact lo i a (by omega)
      · rw [if_neg c1, if_neg c2]
        by_cases d1 : i < n
        · rw [if_pos d1]
          exact oo i (j - 1) a (by omega) (by omega)
        · by_cases d2 : i = n
          · rw [if_neg d1, if_pos d2]
            exact hi (j - 1) (by omega) (by omega)
          · rw [if_neg d1, if_neg d2]
            exact oo (i - 1) (j - 1) (by omega) (by omega) (by omega)
  · by_cases c1 : x = q
    · refine ⟨n, by omega, by omega, ?_⟩
      show (if n < n then sg n else if n = n then q else sg (n - 1)) = x
      rw [if_neg (by omega), if_pos rfl, c1]
    · rw [e1, if_neg c1] at c
      obtain ⟨i, d1, d2, d3⟩ := h.on x a b c
      by_cases e : i < n
      · exact ⟨i, d1, by omega, by show (if i < n then sg i else if i = n then q else sg (i - 1)) = x; rw [if_pos e, d3]⟩
      · exact ⟨i + 1, by omega, by omega, by show (if i + 1 < n then sg (i + 1) else if i + 1 = n then q else sg (i + 1 - 1)) = x; rw [if_neg (by omega), if_neg (by omega), show i + 1 - 1 = i by omega, d3]⟩
theorem RwR.pop {v : Int} {st' : Int → Int} (h : RwR sz rt rr st tk ro ky sg) (h0 : 0 < sz) (hv : v ≠ 1) (e1 : ∀ x, st' x = if x = sg (sz - 1) then v else st x) : RwR (sz - 1) rt rr st' tk ro ky sg := by
  refine ⟨by omega, fun i a b => ?_, fun i j a b c => h.od i j a b (by omega), fun x a b c => ?_⟩
  · have c := h.pt i a (by omega)
    rw [e1, if_neg (fun e => by have := h.inj i (sz - 1) a (by omega) (by omega) (by omega) e; omega)]
    exact c
  · rw [e1] at c
    by_cases e : x = sg (sz - 1)
    · rw [if_pos e] at c; exact absurd c hv
    · rw [if_neg e] at c
      obtain ⟨i, d1, d2, d3⟩ := h.on x a b c
      by_cases f : i = sz - 1
      · subst f; exact absurd d3.symm e
      · exact ⟨i, d1, by omega, d3⟩
theorem RwR.oth {v q : Int} {st' : Int → Int} (h : RwR sz rt rr st tk ro ky sg) (hs : st q ≠ 1) (hv : v ≠ 1) (e1 : ∀ x, st' x = if x = q then v else st x) : RwR sz rt rr st' tk ro ky sg := by
  refine ⟨h.1, fun i a b => ?_, h.2.2.1, fun x a b c => ?_⟩
  · have c := h.pt i a b
    rw [e1, if_neg (fun e => hs (by rw [← e]; exact c.2.1))]
    exact c
  · rw [e1] at c
    by_cases e : x = q
    · rw [if_pos e] at c; exact absurd c hv
    · rw [if_neg e] at c; exact h.on x a b c
end RW
/-- the top of the reference -/
theorem topf_spec (M : AMem) : ∀ n : Nat, (topf M n = -1 ∧ ∀ q : Int, 0 ≤ q → q < n → (M 819298 0 (q)) ≠ 1) ∨ ((0 ≤ topf M n ∧ topf M n < n) ∧ (M 819298 0 (topf M n)) = 1 ∧ ∀ q : Int, 0 ≤ q → q < n → (M 819298 0 (q)) = 1 → ¬ ahp (fun x => (M 819299 0 (x))) (fun x => (M 819812 0 (x))) q (topf M n))
  | 0 => Or.inl ⟨rfl, fun q a b => by omega⟩
  | n + 1 => by
    have ih := topf_spec M n
    unfold topf
    by_cases c : (M 819298 0 (n)) = 1 ∧ (topf M n = -1 ∨ ((M 819299 0 (topf M n)) < (M 819299 0 (n)) ∨ ((M 819299 0 (n)) = (M 819299 0 (topf M n)) ∧ (M 819812 0 (n)) < (M 819812 0 (topf M n)))))
    · rw [if_pos c]
      right
      refine ⟨by omega, c.1, fun q a b s => ?_⟩
      by_cases e : q = n
      · subst e; exact fun z => ahp_irr z
      · rcases ih with ⟨h1, h2⟩ | ⟨h1, h2, h3⟩
        · exact absurd s (h2 q a (by omega))
        · intro z
          have w : ahp (fun x => (M 819299 0 (x))) (fun x => (M 819812 0 (x))) n (topf M n) := by
            rcases c.2 with d | d
            · omega
            · exact d
          exact h3 q a (by omega) s (ahp_tr z w)
    · rw [if_neg c]
      rcases ih with ⟨h1, h2⟩ | ⟨h1, h2, h3⟩
      · left
        refine ⟨h1, fun q a b s => ?_⟩
        by_cases e : q = n
        · subst e; exact c ⟨s, Or.inl h1⟩
        · exact h2 q a (by omega) s
      · right
        refine ⟨by omega, h2, fun q a b s => ?_⟩
        by_cases e : q = n
        · subst e; exact fun z => c ⟨s, Or.inr z⟩
        · exact h3 q a (by omega) s
theorem RwR.tpE {M : AMem} {sz : Int} {rt rr sg : Int → Int} (h : RwR sz rt rr (fun q => (M 819298 0 (q))) (fun q => (M 819297 0 (q))) (fun q => (M 819299 0 (q))) (fun q => (M 819812 0 (q))) sg) : tp M = if sz = 0 then -1 else sg (sz - 1) := by
  have hz := h.1
  rcases topf_spec M 400 with ⟨h1, h2⟩ | ⟨h1, h2, h3⟩
  · by_cases c : sz = 0
    · rw [if_pos c]; exact h1
    · have := h.pt (sz - 1) (by omega) (by omega)
      exact absurd this.2.1 (h2 _ this.1.1 (by omega))
  · have tE : tp M = topf M 400 := rfl
    obtain ⟨i, a, b, d⟩ := h.on (tp M) h1.1 (by omega) h2
    rw [if_neg (by omega)]
    by_cases e : i = sz - 1
    · subst e; exact d.symm
    · have f := h.od i (sz - 1) a (by omega) (by omega)
      rw [d] at f
      have g := h.pt (sz - 1) (by omega) (by omega)
      exact absurd f (h3 _ g.1.1 (by omega) g.2.1)
theorem rn_spec (M : AMem) : (rn M = -1 ∧ ∀ q : Int, 0 ≤ q → q < 400 → (M 819298 0 (q)) ≠ 2) ∨ ((0 ≤ rn M ∧ rn M < 400) ∧ (M 819298 0 (rn M)) = 2) := by
  rcases fnd_int (fun x => (M 819298 0 (x)) == 2) 400 with ⟨h1, h2⟩ | ⟨h1, h2, h3, h4⟩
  · exact Or.inl ⟨h1, fun q a b c => by have := h2 q a (by omega); simp [c] at this⟩
  · exact Or.inr ⟨⟨h1, by unfold rn; omega⟩, by unfold rn; simpa using h3⟩
theorem fq_spec (M : AMem) : (fq M = -1 ∧ ∀ q : Int, 0 ≤ q → q < 400 → (M 819298 0 (q)) ≠ 0) ∨ ((0 ≤ fq M ∧ fq M < 400) ∧ (M 819298 0 (fq M)) = 0) := by
  rcases fnd_int (fun x => (M 819298 0 (x)) == 0) 400 with ⟨h1, h2⟩ | ⟨h1, h2, h3, h4⟩
  · exact Or.inl ⟨h1, fun q a b c => by have := h2 q a (by omega); simp [c] at this⟩
  · exact Or.inr ⟨⟨h1, by unfold fq; omega⟩, by unfold fq; simpa using h3⟩
theorem cq_cnt (M : AMem) (t : Int) : ∀ n : Nat, cq M t n = cnt (fun q => decide ((M 819298 0 (q)) ≠ 0 ∧ (M 819297 0 (q)) = t)) n
  | 0 => rfl
  | n + 1 => by
    unfold cq cnt
    rw [cq_cnt M t n]
    by_cases c : (M 819298 0 (n)) ≠ 0 ∧ (M 819297 0 (n)) = t
    · rw [if_pos c, if_pos (decide_eq_true c)]
    · rw [if_neg c, if_neg (by simpa using c)]
theorem nrq_cnt (M : AMem) : ∀ n : Nat, nrq M n = cnt (fun q => decide ((M 819298 0 (q)) ≠ 0)) n
  | 0 => rfl
  | n + 1 => by
    unfold nrq cnt
    rw [nrq_cnt M n]
    by_cases c : (M 819298 0 (n)) = 0
    · rw [if_pos c, if_neg (by simpa using c)]
    · rw [if_neg c, if_pos (by simpa using c)]
/-- the sum of a function -/
def sumi (f : Nat → Int) : Nat → Int
  | 0 => 0
  | n + 1 => sumi f n + f n
theorem sumi_add (f g : Nat → Int) : ∀ n : Nat, sumi (fun i => f i + g i) n = sumi f n + sumi g n
  | 0 => rfl
  | n + 1 => by
    unfold sumi
    rw [sumi_add f g n]
    omega
theorem sumi_congr {f g : Nat → Int} : ∀ n : Nat, (∀ i, i < n → f i = g i) → sumi f n = sumi g n
  | 0, _ => rfl
  | n + 1, h => by
    unfold sumi
    rw [sumi_congr n (fun i hi => h i (by omega)), h n (by omega)]
theorem sumi_0 {f : Nat → Int} : ∀ n : Nat, (∀ i, i < n → f i = 0) → sumi f n = 0
  | 0, _ => rfl
  | n + 1, h => by
    unfold sumi
    rw [sumi_0 n (fun i hi => h i (by omega)), h n (by omega)]
    rfl
theorem sumi_le {f : Nat → Int} {c : Int} : ∀ n : Nat, (∀ i, i < n → f i ≤ c) → sumi f n ≤ c * n
  | 0, _ => by unfold sumi; omega
  | n + 1, h => by
    have ih := sumi_le n (fun i hi => h i (by omega))
    have := h n (by omega)
    unfold sumi
    rw [Int.natCast_add, Int.mul_add]
    omega
theorem sumi_one (t : Int) : ∀ n : Nat, 0 ≤ t → t < n → sumi (fun i => if (i : Int) = t then 1 else 0) n = 1
  | 0, h0, h1 => by omega
  | n + 1, h0, h1 => by
    unfold sumi
    by_cases e : t = n
    · rw [if_pos e.symm, sumi_0 n (fun i hi => if_neg (by omega))]
      rfl
    · rw [if_neg (fun z => e z.symm), sumi_one t n h0 (by omega)]
      rfl
theorem nrq_sum (M : AMem) (ht : ∀ q : Int, 0 ≤ q → q < 400 → 0 ≤ (M 819297 0 (q)) ∧ (M 819297 0 (q)) < 48) : ∀ n : Nat, n ≤ 400 → nrq M n = sumi (fun t => cq M t n) 48
  | 0, _ => by
    rw [sumi_0 (f := fun t : Nat => cq M t 0) 48 (fun i _ => rfl)]
    rfl
  | n + 1, hn => by
    have ih := nrq_sum M ht n (by omega)
    have e : sumi (fun t : Nat => cq M t (n + 1)) 48 = sumi (fun t : Nat => cq M t n) 48 + sumi (fun t : Nat => if (M 819298 0 (n)) ≠ 0 ∧ (M 819297 0 (n)) = t then 1 else 0) 48 := by
      rw [← sumi_add]
      exact sumi_congr 48 (fun i _ => rfl)
    have e0 : nrq M (n + 1) = nrq M n + (if (M 819298 0 (n)) = 0 then 0 else 1) := rfl
    rw [e0, e, ← ih]
    by_cases c : (M 819298 0 (n)) = 0
    · rw [if_pos c, sumi_0 48 (fun i _ => if_neg (fun z => z.1 c))]
    · rw [if_neg c]
      have h := ht n (by omega) (by omega)
      have o := sumi_one (M 819297 0 (n)) 48 h.1 h.2
      have o2 : sumi (fun t : Nat => if (M 819298 0 (n)) ≠ 0 ∧ (M 819297 0 (n)) = t then 1 else 0) 48 = sumi (fun i : Nat => if (i : Int) = (M 819297 0 (n)) then 1 else 0) 48 := sumi_congr 48 (fun i _ => by
        by_cases d : (i : Int) = (M 819297 0 (n))
        · rw [if_pos d, if_pos ⟨c, d.symm⟩]
        · rw [if_neg d, if_neg (fun z => d z.2.symm)])
      rw [o2, o]
