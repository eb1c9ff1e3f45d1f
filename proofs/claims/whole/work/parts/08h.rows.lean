/-! ===== rows for symbolic execution ===== -/
section WX
variable {N : Lc → List AV → AMem → Prop} {K : Nat → Lc → List AV → AMem → Prop} {Rt : Option AV → AMem → Prop} {loc : Lc} {st : List AV} {M : AMem} {x y i : Int} {g : Nat} {t : Int} {n : Nat}
theorem wx_iconst : wp1 (.iconst x) N K Rt loc st M = N loc (aI x :: st) M := rfl
theorem wx_ldc2 : wp1 (.ldc2_w n) N K Rt loc st M = N loc (aL n :: st) M := rfl
theorem wx_iload : wp1 (.iload n) N K Rt loc st M = l1i loc n fun x => N loc (aI x :: st) M := rfl
theorem wx_lload : wp1 (.lload n) N K Rt loc st M = l1l loc n fun x => N loc (aL x :: st) M := rfl
theorem wx_aload : wp1 (.aload n) N K Rt loc st M = l1r loc n fun g t => N loc (aR g t :: st) M := rfl
theorem wx_istore : wp1 (.istore n) N K Rt loc (aI x :: st) M = N (loc.set n (some (aI x))) st M := rfl
theorem wx_lstore : wp1 (.lstore n) N K Rt loc (aL x :: st) M = N ((loc.set n (some (aL x))).set (n + 1) none) st M := rfl
theorem wx_astore : wp1 (.astore n) N K Rt loc (aR g t :: st) M = N (loc.set n (some (aR g t))) st M := rfl
theorem wx_iinc : wp1 (.iinc n y) N K Rt loc st M = l1i loc n fun x => N (loc.set n (some (aI (w32 (x + y))))) st M := rfl
theorem wx_iadd : wp1 .iadd N K Rt loc (aI y :: aI x :: st) M = N loc (aI (w32 (x + y)) :: st) M := rfl
theorem wx_isub : wp1 .isub N K Rt loc (aI y :: aI x :: st) M = N loc (aI (w32 (x - y)) :: st) M := rfl
theorem wx_imul : wp1 .imul N K Rt loc (aI y :: aI x :: st) M = N loc (aI (w32 (x * y)) :: st) M := rfl
theorem wx_iand : wp1 .iand N K Rt loc (aI y :: aI x :: st) M = N loc (aI (iAnd x y) :: st) M := rfl
theorem wx_ior : wp1 .ior N K Rt loc (aI y :: aI x :: st) M = N loc (aI (iOr x y) :: st) M := rfl
theorem wx_ixor : wp1 .ixor N K Rt loc (aI y :: aI x :: st) M = N loc (aI (iXor x y) :: st) M := rfl
theorem wx_ishl : wp1 .ishl N K Rt loc (aI y :: aI x :: st) M = N loc (aI (iShl x y) :: st) M := rfl
theorem wx_ishr : wp1 .ishr N K Rt loc (aI y :: aI x :: st) M = N loc (aI (iShr x y) :: st) M := rfl
theorem wx_iushr : wp1 .iushr N K Rt loc (aI y :: aI x :: st) M = N loc (aI (iUshr x y) :: st) M := rfl
theorem wx_irem : wp1 .irem N K Rt loc (aI y :: aI x :: st) M = (0 < y ∧ N loc (aI (x.tmod y) :: st) M) := rfl
theorem wx_ineg : wp1 .ineg N K Rt loc (aI x :: st) M = N loc (aI (w32 (-x)) :: st) M := rfl
theorem wx_ladd : wp1 .ladd N K Rt loc (aL y :: aL x :: st) M = N loc (aL (w64 (x + y)) :: st) M := rfl
theorem wx_land : wp1 .land N K Rt loc (aL y :: aL x :: st) M = N loc (aL (lAnd x y) :: st) M := rfl
theorem wx_lor : wp1 .lor N K Rt loc (aL y :: aL x :: st) M = N loc (aL (lOr x y) :: st) M := rfl
theorem wx_lrem : wp1 .lrem N K Rt loc (aL y :: aL x :: st) M = (0 < y ∧ N loc (aL (x.tmod y) :: st) M) := rfl
theorem wx_lneg : wp1 .lneg N K Rt loc (aL x :: st) M = N loc (aL (w64 (-x)) :: st) M := rfl
theorem wx_lshl : wp1 .lshl N K Rt loc (aI y :: aL x :: st) M = N loc (aL (lShl x y) :: st) M := rfl
theorem wx_lushr : wp1 .lushr N K Rt loc (aI y :: aL x :: st) M = N loc (aL (lUshr x y) :: st) M := rfl
theorem wx_lcmp : wp1 .lcmp N K Rt loc (aL y :: aL x :: st) M = N loc (aI (lCmp x y) :: st) M := rfl
theorem wx_i2l : wp1 .i2l N K Rt loc (aI x :: st) M = N loc (aL x :: st) M := rfl
theorem wx_l2i : wp1 .l2i N K Rt loc (aL x :: st) M = N loc (aI (w32 x) :: st) M := rfl
theorem wx_i2b : wp1 .i2b N K Rt loc (aI x :: st) M = N loc (aI (w8 x) :: st) M := rfl
theorem wx_i2c : wp1 .i2c N K Rt loc (aI x :: st) M = N loc (aI (w16u x) :: st) M := rfl
theorem wx_dupI : wp1 .dup N K Rt loc (aI x :: st) M = N loc (aI x :: aI x :: st) M := propext ⟨fun h => h.2, fun h => ⟨rfl, h⟩⟩
theorem wx_popI : wp1 .pop N K Rt loc (aI x :: st) M = N loc st M := propext ⟨fun h => h.2, fun h => ⟨rfl, h⟩⟩
theorem wx_dupR : wp1 .dup N K Rt loc (aR g t :: st) M = N loc (aR g t :: aR g t :: st) M := propext ⟨fun h => h.2, fun h => ⟨rfl, h⟩⟩
theorem wx_popR : wp1 .pop N K Rt loc (aR g t :: st) M = N loc st M := propext ⟨fun h => h.2, fun h => ⟨rfl, h⟩⟩
theorem wx_dup2 : wp1 .dup2 N K Rt loc (aI x :: aR g t :: st) M = N loc (aI x :: aR g t :: aI x :: aR g t :: st) M := propext ⟨fun h => h.2.2, fun h => ⟨rfl, rfl, h⟩⟩
theorem wx_icmp_eq : wp1 (.if_icmp .eq i) N K Rt loc (aI y :: aI x :: st) M = ((x = y → K i.toNat loc st M) ∧ (¬ (x = y) → N loc st M)) := rfl
theorem wx_if_eq : wp1 (.ifCond .eq i) N K Rt loc (aI x :: st) M = ((x = 0 → K i.toNat loc st M) ∧ (¬ (x = 0) → N loc st M)) := rfl
theorem wx_icmp_ne : wp1 (.if_icmp .ne i) N K Rt loc (aI y :: aI x :: st) M = ((¬ x = y → K i.toNat loc st M) ∧ (¬ (¬ x = y) → N loc st M)) := rfl
theorem wx_if_ne : wp1 (.ifCond .ne i) N K Rt loc (aI x :: st) M = ((¬ x = 0 → K i.toNat loc st M) ∧ (¬ (¬ x = 0) → N loc st M)) := rfl
theorem wx_icmp_lt : wp1 (.if_icmp .lt i) N K Rt loc (aI y :: aI x :: st) M = ((x < y → K i.toNat loc st M) ∧ (¬ (x < y) → N loc st M)) := rfl
theorem wx_if_lt : wp1 (.ifCond .lt i) N K Rt loc (aI x :: st) M = ((x < 0 → K i.toNat loc st M) ∧ (¬ (x < 0) → N loc st M)) := rfl
theorem wx_icmp_ge : wp1 (.if_icmp .ge i) N K Rt loc (aI y :: aI x :: st) M = ((y ≤ x → K i.toNat loc st M) ∧ (¬ (y ≤ x) → N loc st M)) := rfl
theorem wx_if_ge : wp1 (.ifCond .ge i) N K Rt loc (aI x :: st) M = ((0 ≤ x → K i.toNat loc st M) ∧ (¬ (0 ≤ x) → N loc st M)) := rfl
theorem wx_icmp_gt : wp1 (.if_icmp .gt i) N K Rt loc (aI y :: aI x :: st) M = ((y < x → K i.toNat loc st M) ∧ (¬ (y < x) → N loc st M)) := rfl
theorem wx_if_gt : wp1 (.ifCond .gt i) N K Rt loc (aI x :: st) M = ((0 < x → K i.toNat loc st M) ∧ (¬ (0 < x) → N loc st M)) := rfl
theorem wx_icmp_le : wp1 (.if_icmp .le i) N K Rt loc (aI y :: aI x :: st) M = ((x ≤ y → K i.toNat loc st M) ∧ (¬ (x ≤ y) → N loc st M)) := rfl
theorem wx_if_le : wp1 (.ifCond .le i) N K Rt loc (aI x :: st) M = ((x ≤ 0 → K i.toNat loc st M) ∧ (¬ (x ≤ 0) → N loc st M)) := rfl
theorem wx_acmp_eq {g' : Nat} {t' : Int} : wp1 (.if_acmp .eq i) N K Rt loc (aR g t :: aR g' t' :: st) M = ((g = 12 ∨ g = 13) ∧ g' = g ∧ (t' = t → K i.toNat loc st M) ∧ (¬ t' = t → N loc st M)) := rfl
theorem wx_acmp_ne {g' : Nat} {t' : Int} : wp1 (.if_acmp .ne i) N K Rt loc (aR g t :: aR g' t' :: st) M = ((g = 12 ∨ g = 13) ∧ g' = g ∧ (¬ t' = t → K i.toNat loc st M) ∧ (t' = t → N loc st M)) := rfl
theorem wx_goto : wp1 (.goto i) N K Rt loc st M = K i.toNat loc st M := rfl
theorem wx_tsw {lo hi : Int} {offs : Array Int} : wp1 (.tableswitch i lo hi offs) N K Rt loc (aI x :: st) M = (((x < lo ∨ hi < x) → K i.toNat loc st M) ∧ tsw x (fun j => K j loc st M) lo offs.toList) := rfl
theorem wx_lsw {ps : Array (Int × Int)} : wp1 (.lookupswitch i ps) N K Rt loc (aI x :: st) M = lsw x (fun j => K j loc st M) i ps.toList := rfl
theorem wx_getf : wp1 (.getfield n) N K Rt loc (aR g t :: st) M = (g = n / 400 % 16 ∧ N loc (fget n t (M g t ((n / 4 % 100 : Nat) : Int)) :: st) M) := rfl
theorem wx_putf : wp1 (.putfield n) N K Rt loc st M = fput n st fun g t x st => g = n / 400 % 16 ∧ N loc st (mup M g t ((n / 4 % 100 : Nat) : Int) x) := rfl
theorem wx_iald : wp1 .iaload N K Rt loc (aI i :: aR g t :: st) M = (gk g = 0 ∧ inr i g ∧ N loc (aI (M g t i) :: st) M) := rfl
theorem wx_bald : wp1 .baload N K Rt loc (aI i :: aR g t :: st) M = ((gk g = 4 ∨ gk g = 1) ∧ inr i g ∧ N loc (aI (M g t i) :: st) M) := rfl
theorem wx_cald : wp1 .caload N K Rt loc (aI i :: aR g t :: st) M = (gk g = 5 ∧ inr i g ∧ N loc (aI (M g t i) :: st) M) := rfl
theorem wx_lald : wp1 .laload N K Rt loc (aI i :: aR g t :: st) M = (gk g = 2 ∧ inr i g ∧ N loc (aL (M g t i) :: st) M) := rfl
theorem wx_aald1 (h : (aT g).2.1 = 1) : wp1 .aaload N K Rt loc (aI i :: aR g t :: st) M = (gk g = 3 ∧ inr i g ∧ N loc (aR (aT g).1 ((aT g).2.2 + i) :: st) M) := by
  show (_ ∧ _ ∧ _) = _
  rw [h]
  rfl
theorem wx_aald2 (h : (aT g).2.1 = 2) : wp1 .aaload N K Rt loc (aI i :: aR g t :: st) M = (gk g = 3 ∧ inr i g ∧ 0 ≤ M g t i ∧ (aT g).2.2 = 0 ∧ N loc (aR (aT g).1 (M g t i) :: st) M) := by
  show (_ ∧ _ ∧ _) = _
  rw [h]
  rfl
theorem wx_iast : wp1 .iastore N K Rt loc (aI x :: aI i :: aR g t :: st) M = (gk g = 0 ∧ g % 256 < 120 ∧ inr i g ∧ N loc st (mup M g t i x)) := rfl
theorem wx_bast : wp1 .bastore N K Rt loc (aI x :: aI i :: aR g t :: st) M = (g % 256 < 120 ∧ inr i g ∧ ((gk g = 4 ∧ N loc st (mup M g t i (w8 x))) ∨ (gk g = 1 ∧ (x = 0 ∨ x = 1) ∧ N loc st (mup M g t i x)))) := rfl
theorem wx_cast : wp1 .castore N K Rt loc (aI x :: aI i :: aR g t :: st) M = (gk g = 5 ∧ g % 256 < 120 ∧ inr i g ∧ N loc st (mup M g t i (w16u x))) := rfl
theorem wx_last : wp1 .lastore N K Rt loc (aL x :: aI i :: aR g t :: st) M = (gk g = 2 ∧ g % 256 < 120 ∧ inr i g ∧ N loc st (mup M g t i x)) := rfl
theorem wx_alen : wp1 .arraylength N K Rt loc (aR g t :: st) M = (20 ≤ g ∧ N loc (aI (gl g) :: st) M) := rfl
theorem wx_gets : wp1 (.getstatic n) N K Rt loc st M = N loc (aR (n / 64) ((n % 64 : Nat) : Int) :: st) M := rfl
theorem wx_ord12 : wp1 (.checkcast 12) N K Rt loc (aR g t :: st) M = (g = 12 ∧ st.length ≤ 4 ∧ N loc (aI t :: st) M) := rfl
theorem wx_ord13 : wp1 (.checkcast 13) N K Rt loc (aR g t :: st) M = (g = 13 ∧ st.length ≤ 4 ∧ N loc (aI t :: st) M) := rfl
theorem wx_word : wp1 (.checkcast 100) N K Rt loc (aR g t :: st) M = (g = 12 ∧ N loc (aR 14 (kwd t) :: st) M) := rfl
theorem wx_want : wp1 (.checkcast 101) N K Rt loc (aR g t :: st) M = (g = 13 ∧ N loc (aI (rwt t) :: st) M) := rfl
theorem wx_ldcs : wp1 (.ldc_w n) N K Rt loc st M = (n = 0 ∧ N loc (aR 14 0 :: st) M) := rfl
theorem wx_slen : wp1 (.instanceof 0) N K Rt loc (aR g t :: st) M = (g = 14 ∧ st.length ≤ 4 ∧ N loc (aI (sLen t) :: st) M) := rfl
theorem wx_schr : wp1 (.instanceof 1) N K Rt loc (aI i :: aR g t :: st) M = (g = 14 ∧ st.length ≤ 4 ∧ (0 ≤ i ∧ i < sLen t) ∧ N loc (aI (sByt t i.toNat) :: st) M) := rfl
theorem wx_invV : wp1 (.invokevirtual n) N K Rt loc st M = wcallV n loc st M N := rfl
theorem wx_invS : wp1 (.invokestatic n) N K Rt loc st M = wcall n loc st M N := rfl
theorem wx_ret0 : wp1 (.ret 0) N K Rt loc [aI x] M = Rt (some (aI x)) M := rfl
theorem wx_ret1 : wp1 (.ret 1) N K Rt loc [aI x] M = ((x = 0 ∨ x = 1) ∧ Rt (some (aI x)) M) := rfl
theorem wx_lret : wp1 .lreturn N K Rt loc [aL x] M = Rt (some (aL x)) M := rfl
theorem wx_aret : wp1 .areturn N K Rt loc [aR g t] M = Rt (some (aR g t)) M := rfl
theorem wx_vret : wp1 .return_ N K Rt loc [] M = Rt none M := propext ⟨fun h => h.2, fun h => ⟨rfl, h⟩⟩
end WX
theorem wl_nil (K : Nat → Lc → List AV → AMem → Prop) (Rt : Option AV → AMem → Prop) (i : Nat) (loc : Lc) (st : List AV) (M : AMem) : wpl K Rt [] i loc st M = K i loc st M := rfl
theorem wl_cons (K : Nat → Lc → List AV → AMem → Prop) (Rt : Option AV → AMem → Prop) (i : Nat) (ins : Instr) (is : List Instr) (loc : Lc) (st : List AV) (M : AMem) : wpl K Rt (ins :: is) i loc st M = wp1 ins (wpl K Rt is (i + 1)) K Rt loc st M := rfl
theorem li_0 (x : Int) (loc : Lc) (f : Int → Prop) : l1i (some (aI x) :: loc) 0 f = f x := rfl
theorem li_s (o : Option AV) (loc : Lc) (i : Nat) (f : Int → Prop) : l1i (o :: loc) (i + 1) f = l1i loc i f := rfl
theorem lr_0 (g : Nat) (t : Int) (loc : Lc) (f : Nat → Int → Prop) : l1r (some (aR g t) :: loc) 0 f = f g t := rfl
theorem lr_s (o : Option AV) (loc : Lc) (i : Nat) (f : Nat → Int → Prop) : l1r (o :: loc) (i + 1) f = l1r loc i f := rfl
theorem ll_0 (x : Int) (loc : Lc) (f : Int → Prop) : l1l (some (aL x) :: none :: loc) 0 f = f x := rfl
theorem ll_s (o : Option AV) (loc : Lc) (i : Nat) (f : Int → Prop) : l1l (o :: loc) (i + 1) f = l1l loc i f := rfl
theorem pp_0 (acc stk : List AV) (f : List AV → List AV → Prop) : pops 0 acc stk f = f acc stk := rfl
theorem pp_s (n : Nat) (acc stk : List AV) (v : AV) (f : List AV → List AV → Prop) : pops (n + 1) acc (v :: stk) f = pops n (v :: acc) stk f := rfl
theorem rc_mk (g n : Nat) (t : Int) (as : List AV) : rcv (aR g t :: as) n = (g = n) := rfl
theorem rp_n (st : List AV) : rpush none st = st := rfl
theorem rp_s (v : AV) (st : List AV) : rpush (some v) st = v :: st := rfl
theorem fp_0 (n : Nat) (x : Int) (g : Nat) (t : Int) (st : List AV) (f : Nat → Int → Int → List AV → Prop) (h : n % 4 = 0) : fput n (aI x :: aR g t :: st) f = f g t x st := by unfold fput; rw [h]; rfl
theorem fp_1 (n : Nat) (x : Int) (g : Nat) (t : Int) (st : List AV) (f : Nat → Int → Int → List AV → Prop) (h : n % 4 = 1) : fput n (aI x :: aR g t :: st) f = ((x = 0 ∨ x = 1) ∧ f g t x st) := by unfold fput; rw [h]; rfl
theorem fp_2 (n : Nat) (x : Int) (g : Nat) (t : Int) (st : List AV) (f : Nat → Int → Int → List AV → Prop) (h : n % 4 = 2) : fput n (aL x :: aR g t :: st) f = f g t x st := by unfold fput; rw [h]; rfl
theorem fg_0 (n : Nat) (t x : Int) (h : n % 4 = 0) : fget n t x = aI x := by unfold fget; rw [h]; rfl
theorem fg_1 (n : Nat) (t x : Int) (h : n % 4 = 1) : fget n t x = aI x := by unfold fget; rw [h]; rfl
theorem fg_2 (n : Nat) (t x : Int) (h : n % 4 = 2) : fget n t x = aL x := by unfold fget; rw [h]; rfl
theorem fg_3 (n : Nat) (t x : Int) (h : n % 4 = 3) : fget n t x = aR (n / 819200) (((n / 6400 % 128 : Nat) : Int) + t) := by unfold fget; rw [h]; rfl

/-- bundle -/
theorem prefB_run {n : Nat} {cd : List (Nat × Instr)} {post : Option AV → AMem → Prop} (hc : chkM (mt n) cd = true) (is : List Instr) (i : Nat) (h : ((cd.drop i).take is.length).map (·.2) = is) {loc : Lc} {stk : List AV} {M : AMem} (hw : wpl (Wq n cd post) post is i loc stk M) : Wq n cd post i loc stk M := by
  refine Wq.run hc is i loc stk M (fun k hk => ?_) hw
  have h1 : (((cd.drop i).take is.length).map (·.2))[k]? = is[k]? := by rw [h]
  rw [← h1, List.getElem?_map, List.getElem?_take, if_pos hk, List.getElem?_drop]
theorem call_fn {n : Nat} {as : List AV} {M m : AMem} {v : Option AV} {N : Option AV → AMem → Prop} (h : Runs n as M (fun r M' => r = v ∧ M' = m)) (k : N v m) : ∃ post, Runs n as M post ∧ ∀ r M', post r M' → N r M' := ⟨_, h, fun r M' h => by rw [h.1, h.2]; exact k⟩
theorem call_re {n : Nat} {as : List AV} {M : AMem} {post : Option AV → AMem → Prop} {N : Option AV → AMem → Prop} (h : Runs n as M post) (k : ∀ r M', post r M' → N r M') : ∃ post, Runs n as M post ∧ ∀ r M', post r M' → N r M' := ⟨_, h, k⟩
theorem plain_all : ((MDL.drop 2).all fun q => plainName q.1.cls) = true := by decide +kernel
theorem plain_of {n : Nat} (h2 : 2 ≤ n) (hn : n < 294) : plainName (mt n).y.cls = true := by
  have h := List.all_eq_true.mp plain_all (mt n) (by
    have hl : n < MDL.length := by rw [mD_len1]; exact hn
    have : mt n = MDL[n] := by
      show MDL.getD n md_0 = _
      rw [List.getD_eq_getElem?_getD, List.getElem?_eq_getElem hl]
      rfl
    rw [this]
    have h3 : (MDL.drop 2)[n - 2]? = some MDL[n] := by
      rw [List.getElem?_drop, show 2 + (n - 2) = n by omega, List.getElem?_eq_getElem hl]
    exact List.mem_of_getElem? h3)
  exact h
theorem Runs.go2 {n : Nat} {cd : List (Nat × Instr)} {post : Option AV → AMem → Prop} {as : List AV} {M : AMem} (loc : Lc) (h2 : 2 ≤ n) (hn : n < 294) (hc : chkM (mt n) cd = true) (has : as.all (fun a => lcat a == 1) = true) (hl : as.length ≤ (mt n).ml) (hloc : initL as (mt n).ml = loc)
    (k : (∀ a ∈ as, aok a) → MOK M → Wq n cd post 0 loc [] M) : Runs n as M post :=
  Runs.go h2 (by rw [mD_len1]; exact hn) (plain_of h2 hn) hc (fun a ha => by have := List.all_eq_true.mp has a ha; simpa using this) hl (fun a b => by rw [hloc]; exact k a b)
theorem R_max (x y : Int) (M : AMem) : Runs 0 [aI x, aI y] M (fun r M' => r = some (aI (if x < y then y else x)) ∧ M' = M) := ⟨x, y, rfl, rfl, rfl⟩
theorem R_min (x y : Int) (M : AMem) : Runs 1 [aI x, aI y] M (fun r M' => r = some (aI (if y < x then y else x)) ∧ M' = M) := ⟨x, y, rfl, rfl, rfl⟩
