/-! ===== the law: its loop (by program: wip/whole/gen/mkc1.py) ===== -/
/-- a case of the switch -/
def LCase (p : Program) (l : Launch) (e : Env) (s : State) (m : MethodId) (b : Nat) (below : List Frame) (meth : Method) (c : Code) (Q : State → Prop) (E : EV) (L o : Nat) (pc : Nat) : Prop := ∀ (H : Heap) (locs : List Loc) (ls : Array Slot) (M : AMem) (n : Int) (cells slots : Nat) (x4 : Int32), LSt s E H locs M n ls b o x4  → (∀ j : Nat, j < 6 → vp_in (x4 + nI j) L) → cells + 1 ≤ room_1.cells → slots + 6 ≤ room_1.slots → KTl p l e s m b below meth c Q E n cells slots o x4 → W p l e room_1 s m #[Value.ref b] below meth c H locs cells slots Q (F0 m pc ls [])
theorem nI_plus (i j : Nat) : nI (i + j) = nI i + nI j := Int32.ofNat_add i j
section LAW4
variable {p : Program} {l : Launch} {e : Env} {s : State} {m : MethodId} {below : List Frame} {meth : Method} {c : Code} {E : EV} {b L o : Nat} {xs : Nat → Int32} {Q : State → Prop}
/-- the cases that catch -/
def LWrap (p : Program) (l : Launch) (e : Env) (s : State) (m : MethodId) (b : Nat) (below : List Frame) (meth : Method) (c : Code) (Q : State → Prop) (E : EV) (L o : Nat) : Prop := ∀ pc ∈ [352, 995, 1063, 1130, 1198, 1266, 1334, 1439], LCase p l e s m b below meth c Q E L o pc
theorem law_case (C0 : LF p s m meth c b L xs E) (wr : LWrap p l e s m b below meth c Q E L o) : ∀ k : Nat, k < 37 → ∀ pc : Nat, ([204, 277, 302, 327, 352, 431, 456, 481, 494, 519, 532, 557, 582, 619, 644, 669, 695, 744, 793, 818, 843, 856, 869, 882, 907, 944, 969, 982, 995, 1063, 1130, 1198, 1266, 1334, 1402, 1439, 1495] : List Nat)[k]? = some pc → LCase p l e s m b below meth c Q E L o pc := by
  intro k hk pc hp
  match k, hk, hp with
  | 0, _, hp => cases hp; exact fun H locs ls M n cells slots x4 S0 hin hc hs kt => ll_feed C0 S0 hin (by omega) (by omega) kt
  | 1, _, hp => cases hp; exact fun H locs ls M n cells slots x4 S0 hin hc hs kt => ll_build C0 S0 hin (by omega) (by omega) kt
  | 2, _, hp => cases hp; exact fun H locs ls M n cells slots x4 S0 hin hc hs kt => ll_fault C0 S0 hin (by omega) (by omega) kt
  | 3, _, hp => cases hp; exact fun H locs ls M n cells slots x4 S0 hin hc hs kt => ll_many C0 S0 hin (by omega) (by omega) kt
  | 4, _, hp => cases hp; exact wr _ (by decide)
  | 5, _, hp => cases hp; exact fun H locs ls M n cells slots x4 S0 hin hc hs kt => ll_start C0 S0 hin (by omega) (by omega) kt
  | 6, _, hp => cases hp; exact fun H locs ls M n cells slots x4 S0 hin hc hs kt => ll_activate C0 S0 hin (by omega) (by omega) kt
  | 7, _, hp => cases hp; exact fun H locs ls M n cells slots x4 S0 hin hc hs kt => ll_terminate C0 S0 hin (by omega) (by omega) kt
  | 8, _, hp => cases hp; exact fun H locs ls M n cells slots x4 S0 hin hc hs kt => ll_chain C0 S0 hin (by omega) (by omega) kt
  | 9, _, hp => cases hp; exact fun H locs ls M n cells slots x4 S0 hin hc hs kt => ll_schedule C0 S0 hin (by omega) (by omega) kt
  | 10, _, hp => cases hp; exact fun H locs ls M n cells slots x4 S0 hin hc hs kt => ll_take C0 S0 hin (by omega) (by omega) kt
  | 11, _, hp => cases hp; exact fun H locs ls M n cells slots x4 S0 hin hc hs kt => ll_give C0 S0 hin (by omega) (by omega) kt
  | 12, _, hp => cases hp; exact fun H locs ls M n cells slots x4 S0 hin hc hs kt => ll_signal C0 S0 hin (by omega) (by omega) kt
  | 13, _, hp => cases hp; exact fun H locs ls M n cells slots x4 S0 hin hc hs kt => ll_clear C0 S0 hin (by omega) (by omega) kt
  | 14, _, hp => cases hp; exact fun H locs ls M n cells slots x4 S0 hin hc hs kt => ll_await C0 S0 hin (by omega) (by omega) kt
  | 15, _, hp => cases hp; exact fun H locs ls M n cells slots x4 S0 hin hc hs kt => ll_given C0 S0 hin (by omega) (by omega) kt
  | 16, _, hp => cases hp; exact fun H locs ls M n cells slots x4 S0 hin hc hs kt => ll_after C0 S0 hin (by omega) (by omega) kt
  | 17, _, hp => cases hp; exact fun H locs ls M n cells slots x4 S0 hin hc hs kt => ll_at C0 S0 hin (by omega) (by omega) kt
  | 18, _, hp => cases hp; exact fun H locs ls M n cells slots x4 S0 hin hc hs kt => ll_cancel C0 S0 hin (by omega) (by omega) kt
  | 19, _, hp => cases hp; exact fun H locs ls M n cells slots x4 S0 hin hc hs kt => ll_left C0 S0 hin (by omega) (by omega) kt
  | 20, _, hp => cases hp; exact fun H locs ls M n cells slots x4 S0 hin hc hs kt => ll_shut C0 S0 hin (by omega) (by omega) kt
  | 21, _, hp => cases hp; exact fun H locs ls M n cells slots x4 S0 hin hc hs kt => ll_open C0 S0 hin (by omega) (by omega) kt
  | 22, _, hp => cases hp; exact fun H locs ls M n cells slots x4 S0 hin hc hs kt => ll_leave C0 S0 hin (by omega) (by omega) kt
  | 23, _, hp => cases hp; exact fun H locs ls M n cells slots x4 S0 hin hc hs kt => ll_halt C0 S0 hin (by omega) (by omega) kt
  | 24, _, hp => cases hp; exact fun H locs ls M n cells slots x4 S0 hin hc hs kt => ll_tick C0 S0 hin (by omega) (by omega) kt
  | 25, _, hp => cases hp; exact fun H locs ls M n cells slots x4 S0 hin hc hs kt => ll_call C0 S0 hin (by omega) (by omega) kt
  | 26, _, hp => cases hp; exact fun H locs ls M n cells slots x4 S0 hin hc hs kt => ll_atWork C0 S0 hin (by omega) (by omega) kt
  | 27, _, hp => cases hp; exact fun H locs ls M n cells slots x4 S0 hin hc hs kt => ll_running C0 S0 hin (by omega) (by omega) kt
  | 28, _, hp => cases hp; exact wr _ (by decide)
  | 29, _, hp => cases hp; exact wr _ (by decide)
  | 30, _, hp => cases hp; exact wr _ (by decide)
  | 31, _, hp => cases hp; exact wr _ (by decide)
  | 32, _, hp => cases hp; exact wr _ (by decide)
  | 33, _, hp => cases hp; exact wr _ (by decide)
  | 34, _, hp => cases hp; exact fun H locs ls M n cells slots x4 S0 hin hc hs kt => ll_row C0 S0 hin (by omega) (by omega) kt
  | 35, _, hp => cases hp; exact wr _ (by decide)
  | 36, _, hp => cases hp; exact fun H locs ls M n cells slots x4 S0 hin hc hs kt => ll_count C0 S0 hin (by omega) (by omega) kt
  | k + 37, hk, _ => exact absurd hk (by omega)
set_option maxHeartbeats 2000000 in
/-- the switch -/
theorem law_sw (C0 : LF p s m meth c b L xs E) (wr : LWrap p l e s m b below meth c Q E L o) {H : Heap} {locs : List Loc} {ls : Array Slot} {M : AMem} {n : Int} {cells slots : Nat} {x4 : Int32} (S0 : LSt s E H locs M n ls b o x4 ) (hin : ∀ j : Nat, j < 6 → vp_in (x4 + nI j) L) (hc : cells + 1 ≤ room_1.cells) (hs : slots + 6 ≤ room_1.slots) (kt : KTl p l e s m b below meth c Q E n cells slots o x4) (v : Int32) (hv : 0 ≤ v.toInt) : W p l e room_1 s m #[Value.ref b] below meth c H locs cells slots Q (F0 m 40 ls [.int v]) := by
  obtain ⟨⟨hx, hb, hr, hml, hown, hts, hX, hbl, hlocks, hgv⟩, hE, hbE⟩ := id C0
  by_cases h : v.toInt < 37
  · obtain ⟨k, ek⟩ : ∃ k : Nat, v.toInt = k := ⟨v.toInt.toNat, by omega⟩
    have hk : k < 37 := by omega
    obtain ⟨pc, hp⟩ : ∃ pc : Nat, ([204, 277, 302, 327, 352, 431, 456, 481, 494, 519, 532, 557, 582, 619, 644, 669, 695, 744, 793, 818, 843, 856, 869, 882, 907, 944, 969, 982, 995, 1063, 1130, 1198, 1266, 1334, 1402, 1439, 1495] : List Nat)[k]? = some pc := ⟨_, List.getElem?_eq_getElem (by simpa using hk)⟩
    obtain ⟨off, ho⟩ : ∃ off : Int, (#[164, 237, 262, 287, 312, 391, 416, 441, 454, 479, 492, 517, 542, 579, 604, 629, 655, 704, 753, 778, 803, 816, 829, 842, 867, 904, 929, 942, 955, 1023, 1090, 1158, 1226, 1294, 1362, 1399, 1455] : Array Int)[k]? = some off := ⟨_, Array.getElem?_eq_getElem (by simpa using hk)⟩
    have ht : ((40 : Nat) : Int) + off = (pc : Int) := by
      have a : ∀ k : Fin 37, ∀ pc off, ([204, 277, 302, 327, 352, 431, 456, 481, 494, 519, 532, 557, 582, 619, 644, 669, 695, 744, 793, 818, 843, 856, 869, 882, 907, 944, 969, 982, 995, 1063, 1130, 1198, 1266, 1334, 1402, 1439, 1495] : List Nat)[k.val]? = some pc → (#[164, 237, 262, 287, 312, 391, 416, 441, 454, 479, 492, 517, 542, 579, 604, 629, 655, 704, 753, 778, 803, 816, 829, 842, 867, 904, 929, 942, 955, 1023, 1090, 1158, 1226, 1294, 1362, 1399, 1455] : Array Int)[k.val]? = some off → ((40 : Nat) : Int) + off = (pc : Int) := by
        intro k pc off h1 h2
        have z : ((([204, 277, 302, 327, 352, 431, 456, 481, 494, 519, 532, 557, 582, 619, 644, 669, 695, 744, 793, 818, 843, 856, 869, 882, 907, 944, 969, 982, 995, 1063, 1130, 1198, 1266, 1334, 1402, 1439, 1495] : List Nat)[k.val]?).bind fun pc => ((#[164, 237, 262, 287, 312, 391, 416, 441, 454, 479, 492, 517, 542, 579, 604, 629, 655, 704, 753, 778, 803, 816, 829, 842, 867, 904, 929, 942, 955, 1023, 1090, 1158, 1226, 1294, 1362, 1399, 1455] : Array Int)[k.val]?).map fun off => decide (((40 : Nat) : Int) + off = (pc : Int))) = some true := by clear h1 h2; revert k; decide
        rw [h1, h2] at z
        simpa using z
      exact a ⟨k, hk⟩ pc off hp ho
    refine lv_tableIn (off := off) (tgt := pc) hx hb d_L_40 (by omega) (by omega) (by rw [ek, show ((k : Int) - 0).toNat = k by omega]; exact ho) ht ?_
    exact law_case C0 wr k hk pc hp H locs ls M n cells slots x4 S0 hin hc hs kt
  · refine lv_tableOut (tgt := 1520) hx hb d_L_40 (Or.inr (by omega)) (by decide) ?_
    obtain ⟨hC, inv, hn, hl, hP, hoA⟩ := S0
    exact kt M H locs ls cells slots (inv.mono (by omega)) hC hP hl (by omega) (by omega)
theorem and63_n (x : Int) : 0 ≤ (Int32.ofInt x &&& 63).toInt := by
  have h : (Int32.ofInt x &&& 63).toBitVec.toNat = (Int32.ofInt x).toBitVec.toNat % 64 := by
    rw [Int32.toBitVec_and, BitVec.toNat_and]
    exact Nat.and_two_pow_sub_one_eq_mod _ 6
  have e : (Int32.ofInt x &&& 63).toInt = (Int32.ofInt x &&& 63).toBitVec.toInt := rfl
  rw [e, BitVec.toInt_eq_toNat_of_lt (by omega)]
  omega
theorem and63 (x : Int32) : 0 ≤ (x &&& 63).toInt := by
  have h := and63_n x.toInt
  rw [show Int32.ofInt x.toInt = x from Int32.ofInt_toInt x] at h
  exact h
set_option maxHeartbeats 2000000 in
theorem law_loop (C0 : LF p s m meth c b L xs E) (hL : L ≤ 3072) (wr : LWrap p l e s m b below meth c (lw_Z below #[Value.ref b] s) E L o) :
    ∀ (N j : Nat) (H : Heap) (locs : List Loc) (ls : Array Slot) (M : AMem) (cells slots : Nat), L + 7 ≤ 6 * j + 6 * N → 6 * j ≤ L + 5 → CfL E s H locs M → INV (3200000 * j) M M → lv_has ls 8 (lvL E b o (nI (6 * j))) → OutH s H o → ¬ AA E o → cells ≤ 301 + j → slots ≤ 100000 + 6 * j → W p l e room_1 s m #[Value.ref b] below meth c H locs cells slots (lw_Z below #[Value.ref b] s) (F0 m 23 ls []) := by
  obtain ⟨⟨hx, hb, hr, hml, hown, hts, hX, hbl, hlocks, hgv⟩, hE, hbE⟩ := id C0
  have hbA : ¬ AA E b := fun z => by have := z.1; omega
  intro N
  induction N with
  | zero =>
    intro j H locs ls M cells slots h1 h2
    exact absurd h1 (by omega)
  | succ N ih =>
    intro j H locs ls M cells slots h1 h2 hC inv hl hP hoA hcl hsl
    have e6 : Int32.ofNat L - 6 = Int32.ofInt ((L : Int) - 6) := by
      have a : Int32.ofNat L = Int32.ofInt (L : Int) := rfl
      rw [a, show (6 : Int32) = Int32.ofInt 6 from rfl, i32_sub, w32_id (by unfold in32; omega)]
    have ex : nI (6 * j) = Int32.ofInt ((6 * j : Nat) : Int) := rfl
    have cmp : (Int32.ofNat L - 6 < nI (6 * j)) ↔ L < 6 * j + 6 := by
      rw [e6, ex, i32_lt (by unfold in32; omega) (by unfold in32; omega)]
      omega
    refine lv_iload hx hb d_L_23 (lv_at hl 4 rfl) ?_
    refine lv_aload_n hx hb d_L_25 rfl (lv_at hl 0 rfl) ?_
    refine va_slen hx hb hX hbl hbA hC.1 d_L_26 ?_
    refine lv_bipush (v := 6) hx hb d_L_27 (by decide) ?_
    refine lv_isub hx hb d_L_29 ?_
    refine lv_icmp_gt (tgt := 1526) hx hb d_L_30 (by decide) (fun z => ?_) (fun z => ?_)
    · refine lv_iconst (v := 1) hx hb d_L_1526 (by decide) ?_
      refine va_forget (fun q hq => Nat.le_trans hbE (hC.1.2.2 q hq).1) ?_
      refine W.widen (k := 601024) (n := 7293034) (by omega) (by omega) ?_
      exact lw_ret hx hb hr hlocks d_L_1527
    · have hlt : 6 * j + 6 ≤ L := by
        by_cases y : L < 6 * j + 6
        · exact absurd (cmp.mpr y) z
        · omega
      have hin : ∀ k : Nat, k < 6 → vp_in (nI (6 * j) + nI k) L := fun k hk => by
        rw [← nI_plus]
        exact vp_in_nI (by omega) (by omega)
      have hi0 : vp_in (nI (6 * j)) L := vp_in_nI (by omega) (by omega)
      refine lv_aload_n hx hb d_L_33 rfl (lv_at hl 0 rfl) ?_
      refine lv_iload hx hb d_L_34 (lv_at hl 4 rfl) ?_
      refine va_sld hx hb hX hbl hbA hC.1 hi0 d_L_36 ?_
      refine lv_bipush (v := 63) hx hb d_L_37 (by decide) ?_
      refine lv_iand hx hb d_L_39 ?_
      refine law_sw C0 wr (n := 3200000 * j) ⟨hC, inv, by omega, hl, hP, hoA⟩ hin ?_ ?_ ?_ _ (and63 _)
      · show cells + 1 ≤ 601024; omega
      · show slots + 6 ≤ 7293034; omega
      · intro M' H' locs' ls' cells' slots' inv' hC' hP' hl' hc' hs'
        obtain ⟨y, ey⟩ : ∃ y : Int32, y = nI (6 * j) + 6 := ⟨_, rfl⟩
        refine lv_iinc (v := y) (lv' := [(4, .int y), (0, .ref b), (1, .ref (E.2.2.1 1 0)), (2, .ref (E.2.2.1 11 0)), (3, .ref o)]) hx hb d_L_1520 hl' (k := 4) rfl (by rw [ey]; rfl) (by decide) rfl (fun ls hl => ?_)
        refine lv_goto (tgt := 23) hx hb d_L_1523 (by decide) ?_
        have e : y = nI (6 * (j + 1)) := by rw [ey, show 6 * (j + 1) = 6 * j + 6 by omega, nI_plus]; rfl
        rw [e] at hl
        exact ih (j + 1) H' locs' ls M' cells' slots' (by omega) (by omega) hC' (by rw [show (3200000 * ((j + 1 : Nat) : Int)) = 3200000 * (j : Int) + 3200000 by omega]; exact inv') (lv_sub hl [1, 2, 3, 4, 0] rfl) hP' hoA (by omega) (by omega)
end LAW4
