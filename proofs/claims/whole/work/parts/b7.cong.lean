/-! ===== only the bytes from 0 on count ===== -/
theorem ruF_c {p q : Int → Bool} : ∀ (f : Nat) (k : Int), (∀ x, k ≤ x → p x = q x) → ruF p f k = ruF q f k
  | 0, _, _ => rfl
  | f + 1, k, h => by
    show (if p k = true then ruF p f (k + 1) else k) = (if q k = true then ruF q f (k + 1) else k)
    rw [h k (by omega), ruF_c f (k + 1) (fun x hx => h x (by omega))]
theorem ru_c {p q : Int → Bool} {k : Int} (h : ∀ x, k ≤ x → p x = q x) : ru p k = ru q k := ruF_c _ _ h
section CGR
variable {b b' : Int → Int} {n : Int}
theorem ruN_c (hb : ∀ k, 0 ≤ k → b k = b' k) {p : Int} (hp : 0 ≤ p) : ru (pNm b) p = ru (pNm b') p := ru_c (fun x hx => by unfold pNm; rw [hb x (by omega)])
theorem ruD_c (hb : ∀ k, 0 ≤ k → b k = b' k) {p : Int} (hp : 0 ≤ p) : ru (pDi b) p = ru (pDi b') p := ru_c (fun x hx => by unfold pDi; rw [hb x (by omega)])
theorem ruB_c (hb : ∀ k, 0 ≤ k → b k = b' k) {p : Int} (hp : 0 ≤ p) : ru (pBl b n) p = ru (pBl b' n) p := ru_c (fun x hx => by unfold pBl; rw [hb x (by omega)])
theorem ruC_c (hb : ∀ k, 0 ≤ k → b k = b' k) {p : Int} (hp : 0 ≤ p) : ru (pCm b n) p = ru (pCm b' n) p := ru_c (fun x hx => by unfold pCm; rw [hb x (by omega)])
theorem skF_c (hb : ∀ k, 0 ≤ k → b k = b' k) : ∀ (f : Nat) (k : Int), 0 ≤ k → skF b n f k = skF b' n f k
  | 0, _, _ => rfl
  | f + 1, k, hk => by
    have g1 := ru_up (pBl b' n) k
    have g2 := ru_up (pCm b' n) (ru (pBl b' n) k)
    show (if ru (pBl b n) k < n ∧ b (ru (pBl b n) k) = 35 then skF b n f (ru (pCm b n) (ru (pBl b n) k)) else ru (pBl b n) k) = (if ru (pBl b' n) k < n ∧ b' (ru (pBl b' n) k) = 35 then skF b' n f (ru (pCm b' n) (ru (pBl b' n) k)) else ru (pBl b' n) k)
    rw [ruB_c hb hk, ruC_c hb (p := ru (pBl b' n) k) (by omega), hb _ (by omega), skF_c hb f _ (by omega)]
theorem sk_c (hb : ∀ k, 0 ≤ k → b k = b' k) {k : Int} (hk : 0 ≤ k) : sk b n k = sk b' n k := skF_c hb _ _ hk
theorem nvl_c (hb : ∀ k, 0 ≤ k → b k = b' k) {p : Int} (hp : 0 ≤ p) : ∀ j : Nat, nvl b p j = nvl b' p j
  | 0 => rfl
  | j + 1 => by
    show (if 10 * nvl b p j + b (p + j) - 48 < 100000 then 10 * nvl b p j + b (p + j) - 48 else 100000) = (if 10 * nvl b' p j + b' (p + j) - 48 < 100000 then 10 * nvl b' p j + b' (p + j) - 48 else 100000)
    rw [nvl_c hb hp j, hb _ (by omega)]
theorem cnv_c (hb : ∀ k, 0 ≤ k → b k = b' k) {p : Int} (hp : 0 ≤ p) : ∀ j : Nat, cnv b p j = cnv b' p j
  | 0 => rfl
  | j + 1 => by
    show (if 65536 < cnv b p j * 10 + b (p + j) - 48 then 65536 else cnv b p j * 10 + b (p + j) - 48) = (if 65536 < cnv b' p j * 10 + b' (p + j) - 48 then 65536 else cnv b' p j * 10 + b' (p + j) - 48)
    rw [cnv_c hb hp j, hb _ (by omega)]
theorem pkd_c (hb : ∀ k, 0 ≤ k → b k = b' k) {p e : Int} (hp : 0 ≤ p) : ∀ j : Nat, pkd b p e j = pkd b' p e j
  | 0 => rfl
  | j + 1 => by
    show lOr (lShl (pkd b p e j) 8) (if p + j < e then b (p + j) else 0) = lOr (lShl (pkd b' p e j) 8) (if p + j < e then b' (p + j) else 0)
    rw [pkd_c hb hp j, hb _ (by omega)]
theorem wrd_c (hb : ∀ k, 0 ≤ k → b k = b' k) {p : Int} (hp : 0 ≤ p) (m : Int) : wrd b p m = wrd b' p m := by
  have e1 : ∀ w, wdf b p m w = wdf b' p m w := fun w => by
    unfold wdf
    exact fnd_congr (fun i => by rw [hb _ (by omega)]) _ _
  have e2 : wfn b p m = wfn b' p m := by
    unfold wfn
    exact fnd_congr (fun w => decide_eq_decide.mpr (by show ((wl w : Int) = m ∧ wdf b p m w = -1) ↔ ((wl w : Int) = m ∧ wdf b' p m w = -1); rw [e1])) _ _
  unfold wrd
  rw [e2]
theorem tkE_c (hb : ∀ k, 0 ≤ k → b k = b' k) {p : Int} (hp : 0 ≤ p) : tkE b p = tkE b' p := by
  unfold tkE
  rw [hb p hp, ruN_c hb hp, ruD_c hb hp]
theorem tkK_c (hb : ∀ k, 0 ≤ k → b k = b' k) {p : Int} (hp : 0 ≤ p) : tkK b n p = tkK b' n p := by
  have g := ru_up (pDi b') p
  unfold tkK
  rw [hb p hp, ruN_c hb hp, ruD_c hb hp, wrd_c hb hp, nvl_c hb hp, hb (ru (pDi b') p) (by omega)]
theorem pos_c (hn : n ≤ 4000) (hz : ∀ k, n ≤ k → b k = 0) (hb : ∀ k, 0 ≤ k → b k = b' k) : ∀ j : Nat, pos b n j = pos b' n j
  | 0 => sk_c hb (by omega)
  | j + 1 => by
    have p0 := pos_0 hn hz j
    have e0 := tkE_up b n (pos b n j) hn hz
    show sk b n (tkE b (pos b n j)) = sk b' n (tkE b' (pos b' n j))
    rw [sk_c hb (by omega), tkE_c hb p0, pos_c hn hz hb j]
theorem tkz_c (hn : n ≤ 4000) (hz : ∀ k, n ≤ k → b k = 0) (hb : ∀ k, 0 ≤ k → b k = b' k) : tkz b n = tkz b' n := by
  funext j
  unfold tkz
  rw [tkK_c hb (pos_0 hn hz j), pos_c hn hz hb j]
theorem lst_c (hn : n ≤ 4000) (hz : ∀ k, n ≤ k → b k = 0) (hb : ∀ k, 0 ≤ k → b k = b' k) : lst b n = lst b' n := by
  unfold lst
  refine fnd_congr (fun j => ?_) _ _
  rw [tkK_c hb (pos_0 hn hz j), pos_c hn hz hb j]
end CGR
