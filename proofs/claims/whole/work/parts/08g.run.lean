/-! ===== methods by their resolved code ===== -/
def pcOf (cd : List (Nat × Instr)) (i : Nat) : Nat := (cd.getD i (0, .nop)).1
/-- method n, from instruction i on, comes to its end as post says -/
def Wq (n : Nat) (cd : List (Nat × Instr)) (post : Option AV → AMem → Prop) (i : Nat) (loc : Lc) (stk : List AV) (M : AMem) : Prop :=
  ∀ (p : Program) (l : Launch) (e : Env) (R : Room) (s : State) (m : MethodId) (args : Array Value) (below : List Frame) (meth : Method) (c : Code) (E : EV), Fr p R s m args meth c E (mt n) → WiR p l e R s m args below meth c E (mt n) post (pcOf cd i) loc stk M
def wpl (K : Nat → Lc → List AV → AMem → Prop) (Rt : Option AV → AMem → Prop) : List Instr → Nat → Lc → List AV → AMem → Prop
  | [], i => K i
  | ins :: is, i => wp1 ins (wpl K Rt is (i + 1)) K Rt
theorem chkL_at {q : MD} {pcs : List Nat} : ∀ (cd : List (Nat × Instr)) (i pc : Nat) (ins : Instr), chkL q pcs cd = true → cd[i]? = some (pc, ins) → ∃ raw len, decode q.b pc = .ok (raw, len) ∧ okI q pcs pc raw ins = true ∧ lenOK raw len = true ∧ (falls ins = true → (cd[i + 1]?).map (·.1) = some (pc + len))
  | [], i, pc, ins, _, h => by simp at h
  | (pc0, ins0) :: rest, 0, pc, ins, hc, h => by
    simp only [List.getElem?_cons_zero, Option.some.injEq, Prod.mk.injEq] at h
    obtain ⟨rfl, rfl⟩ := h
    unfold chkL at hc
    rw [Bool.and_eq_true] at hc
    obtain ⟨hc, -⟩ := hc
    split at hc
    · rename_i raw len hd
      simp only [Bool.and_eq_true] at hc
      refine ⟨raw, len, hd, hc.1.1, hc.1.2, fun hf => ?_⟩
      have h9 := hc.2
      rw [hf, Bool.not_true, Bool.false_or] at h9
      have h9 := of_decide_eq_true h9
      rw [List.getElem?_cons_succ, ← List.head?_eq_getElem?]
      exact h9
    · cases hc
  | (pc0, ins0) :: rest, i + 1, pc, ins, hc, h => by
    unfold chkL at hc
    rw [Bool.and_eq_true] at hc
    exact chkL_at rest i pc ins hc.2 (by simpa using h)
theorem s1i_mono {stk : List AV} {f f' : Int → List AV → Prop} (h : ∀ a b, f a b → f' a b) (hw : s1i stk f) : s1i stk f' := by
  obtain ⟨a, b, rfl, k⟩ := s1i_inv hw; exact h _ _ k
theorem s2i_mono {stk : List AV} {f f' : Int → Int → List AV → Prop} (h : ∀ a b d, f a b d → f' a b d) (hw : s2i stk f) : s2i stk f' := by
  obtain ⟨a, b, d, rfl, k⟩ := s2i_inv hw; exact h _ _ _ k
theorem s1l_mono {stk : List AV} {f f' : Int → List AV → Prop} (h : ∀ a b, f a b → f' a b) (hw : s1l stk f) : s1l stk f' := by
  obtain ⟨a, b, rfl, k⟩ := s1l_inv hw; exact h _ _ k
theorem s2l_mono {stk : List AV} {f f' : Int → Int → List AV → Prop} (h : ∀ a b d, f a b d → f' a b d) (hw : s2l stk f) : s2l stk f' := by
  obtain ⟨a, b, d, rfl, k⟩ := s2l_inv hw; exact h _ _ _ k
theorem s2il_mono {stk : List AV} {f f' : Int → Int → List AV → Prop} (h : ∀ a b d, f a b d → f' a b d) (hw : s2il stk f) : s2il stk f' := by
  obtain ⟨a, b, d, rfl, k⟩ := s2il_inv hw; exact h _ _ _ k
theorem s1r_mono {stk : List AV} {f f' : Nat → Int → List AV → Prop} (h : ∀ a b d, f a b d → f' a b d) (hw : s1r stk f) : s1r stk f' := by
  obtain ⟨a, b, d, rfl, k⟩ := s1r_inv hw; exact h _ _ _ k
theorem s2r_mono {stk : List AV} {f f' : Nat → Int → Nat → Int → List AV → Prop} (h : ∀ a b d e i, f a b d e i → f' a b d e i) (hw : s2r stk f) : s2r stk f' := by
  obtain ⟨a, b, d, e, i, rfl, k⟩ := s2r_inv hw; exact h _ _ _ _ _ k
theorem s2ia_mono {stk : List AV} {f f' : Int → Nat → Int → List AV → Prop} (h : ∀ a b d e, f a b d e → f' a b d e) (hw : s2ia stk f) : s2ia stk f' := by
  obtain ⟨a, b, d, e, rfl, k⟩ := s2ia_inv hw; exact h _ _ _ _ k
theorem s2la_mono {stk : List AV} {f f' : Int → Nat → Int → List AV → Prop} (h : ∀ a b d e, f a b d e → f' a b d e) (hw : s2la stk f) : s2la stk f' := by
  obtain ⟨a, b, d, e, rfl, k⟩ := s2la_inv hw; exact h _ _ _ _ k
theorem s3i_mono {stk : List AV} {f f' : Int → Int → Nat → Int → List AV → Prop} (h : ∀ a b d e i, f a b d e i → f' a b d e i) (hw : s3i stk f) : s3i stk f' := by
  obtain ⟨a, b, d, e, i, rfl, k⟩ := s3i_inv hw; exact h _ _ _ _ _ k
theorem s3l_mono {stk : List AV} {f f' : Int → Int → Nat → Int → List AV → Prop} (h : ∀ a b d e i, f a b d e i → f' a b d e i) (hw : s3l stk f) : s3l stk f' := by
  obtain ⟨a, b, d, e, i, rfl, k⟩ := s3l_inv hw; exact h _ _ _ _ _ k
theorem s3r_mono {stk : List AV} {f f' : Nat → Int → Int → Nat → Int → List AV → Prop} (h : ∀ a b d e i j, f a b d e i j → f' a b d e i j) (hw : s3r stk f) : s3r stk f' := by
  obtain ⟨a, b, d, e, i, j, rfl, k⟩ := s3r_inv hw; exact h _ _ _ _ _ _ k
theorem l1i_mono {loc : Lc} {i : Nat} {f f' : Int → Prop} (h : ∀ a, f a → f' a) (hw : l1i loc i f) : l1i loc i f' := by
  unfold l1i at *; split at hw
  · exact h _ hw
  · exact hw.elim
theorem l1l_mono {loc : Lc} {i : Nat} {f f' : Int → Prop} (h : ∀ a, f a → f' a) (hw : l1l loc i f) : l1l loc i f' := by
  unfold l1l at *; split at hw
  · exact h _ hw
  · exact hw.elim
theorem l1r_mono {loc : Lc} {i : Nat} {f f' : Nat → Int → Prop} (h : ∀ a b, f a b → f' a b) (hw : l1r loc i f) : l1r loc i f' := by
  unfold l1r at *; split at hw
  · exact h _ _ hw
  · exact hw.elim
theorem pops_mono {f f' : List AV → List AV → Prop} (h : ∀ a b, f a b → f' a b) : ∀ (n : Nat) (acc stk : List AV), pops n acc stk f → pops n acc stk f'
  | 0, _, _, hw => h _ _ hw
  | n + 1, acc, v :: stk, hw => pops_mono h n (v :: acc) stk hw
  | _ + 1, _, [], hw => hw.elim
theorem fput_mono {n : Nat} {stk : List AV} {f f' : Nat → Int → Int → List AV → Prop} (h : ∀ a b d e, f a b d e → f' a b d e) (hw : fput n stk f) : fput n stk f' := by
  unfold fput at *; split at hw
  · exact s2ia_mono (fun _ _ _ _ k => h _ _ _ _ k) hw
  · exact s2ia_mono (fun _ _ _ _ k => ⟨k.1, h _ _ _ _ k.2⟩) hw
  · exact s2la_mono (fun _ _ _ _ k => h _ _ _ _ k) hw
  · exact hw.elim
theorem wp1_mono {ins : Instr} {N N' : Lc → List AV → AMem → Prop} {K : Nat → Lc → List AV → AMem → Prop} {Rt : Option AV → AMem → Prop} {loc : Lc} {stk : List AV} {M : AMem} (h : ∀ loc stk M, N loc stk M → N' loc stk M) (hw : wp1 ins N K Rt loc stk M) : wp1 ins N' K Rt loc stk M := by
  cases ins
  case iconst => exact h _ _ _ hw
  case ldc2_w => exact h _ _ _ hw
  case ldc_w => exact ⟨hw.1, h _ _ _ hw.2⟩
  case iload => exact l1i_mono (fun _ => h _ _ _) hw
  case lload => exact l1l_mono (fun _ => h _ _ _) hw
  case aload => exact l1r_mono (fun _ _ => h _ _ _) hw
  case istore => exact s1i_mono (fun _ _ => h _ _ _) hw
  case lstore => exact s1l_mono (fun _ _ => h _ _ _) hw
  case astore => exact s1r_mono (fun _ _ _ => h _ _ _) hw
  case iinc => exact l1i_mono (fun _ => h _ _ _) hw
  case iadd => exact s2i_mono (fun _ _ _ => h _ _ _) hw
  case isub => exact s2i_mono (fun _ _ _ => h _ _ _) hw
  case imul => exact s2i_mono (fun _ _ _ => h _ _ _) hw
  case iand => exact s2i_mono (fun _ _ _ => h _ _ _) hw
  case ior => exact s2i_mono (fun _ _ _ => h _ _ _) hw
  case ixor => exact s2i_mono (fun _ _ _ => h _ _ _) hw
  case ishl => exact s2i_mono (fun _ _ _ => h _ _ _) hw
  case ishr => exact s2i_mono (fun _ _ _ => h _ _ _) hw
  case iushr => exact s2i_mono (fun _ _ _ => h _ _ _) hw
  case ineg => exact s1i_mono (fun _ _ => h _ _ _) hw
  case i2l => exact s1i_mono (fun _ _ => h _ _ _) hw
  case i2b => exact s1i_mono (fun _ _ => h _ _ _) hw
  case i2c => exact s1i_mono (fun _ _ => h _ _ _) hw
  case ladd => exact s2l_mono (fun _ _ _ => h _ _ _) hw
  case land => exact s2l_mono (fun _ _ _ => h _ _ _) hw
  case lor => exact s2l_mono (fun _ _ _ => h _ _ _) hw
  case lcmp => exact s2l_mono (fun _ _ _ => h _ _ _) hw
  case lneg => exact s1l_mono (fun _ _ => h _ _ _) hw
  case l2i => exact s1l_mono (fun _ _ => h _ _ _) hw
  case lshl => exact s2il_mono (fun _ _ _ => h _ _ _) hw
  case lushr => exact s2il_mono (fun _ _ _ => h _ _ _) hw
  case irem => exact s2i_mono (fun _ _ _ k => ⟨k.1, h _ _ _ k.2⟩) hw
  case lrem => exact s2l_mono (fun _ _ _ k => ⟨k.1, h _ _ _ k.2⟩) hw
  case dup =>
    match stk, hw with
    | v :: st, hw => exact ⟨hw.1, h _ _ _ hw.2⟩
  case pop =>
    match stk, hw with
    | v :: st, hw => exact ⟨hw.1, h _ _ _ hw.2⟩
  case dup2 =>
    match stk, hw with
    | v :: w :: st, hw => exact ⟨hw.1, hw.2.1, h _ _ _ hw.2.2⟩
  case if_icmp => exact s2i_mono (fun _ _ _ k => ⟨k.1, fun z => h _ _ _ (k.2 z)⟩) hw
  case ifCond => exact s1i_mono (fun _ _ k => ⟨k.1, fun z => h _ _ _ (k.2 z)⟩) hw
  case if_acmp c t =>
    cases c
    · exact s2r_mono (fun _ _ _ _ _ k => ⟨k.1, k.2.1, k.2.2.1, fun z => h _ _ _ (k.2.2.2 z)⟩) hw
    · exact s2r_mono (fun _ _ _ _ _ k => ⟨k.1, k.2.1, k.2.2.1, fun z => h _ _ _ (k.2.2.2 z)⟩) hw
  case goto => exact hw
  case tableswitch => exact hw
  case lookupswitch => exact hw
  case getfield => exact s1r_mono (fun _ _ _ k => ⟨k.1, h _ _ _ k.2⟩) hw
  case putfield => exact fput_mono (fun _ _ _ _ k => ⟨k.1, h _ _ _ k.2⟩) hw
  case iaload => exact s2ia_mono (fun _ _ _ _ k => ⟨k.1, k.2.1, h _ _ _ k.2.2⟩) hw
  case baload => exact s2ia_mono (fun _ _ _ _ k => ⟨k.1, k.2.1, h _ _ _ k.2.2⟩) hw
  case caload => exact s2ia_mono (fun _ _ _ _ k => ⟨k.1, k.2.1, h _ _ _ k.2.2⟩) hw
  case laload => exact s2ia_mono (fun _ _ _ _ k => ⟨k.1, k.2.1, h _ _ _ k.2.2⟩) hw
  case aaload =>
    refine s2ia_mono (fun i g t st k => ⟨k.1, k.2.1, ?_⟩) hw
    obtain ⟨-, -, k⟩ := k
    generalize (aT g).2.1 = md at k ⊢
    match md, k with
    | 1, k => exact h _ _ _ k
    | 2, k => exact ⟨k.1, k.2.1, h _ _ _ k.2.2⟩
  case iastore => exact s3i_mono (fun _ _ _ _ _ k => ⟨k.1, k.2.1, k.2.2.1, h _ _ _ k.2.2.2⟩) hw
  case castore => exact s3i_mono (fun _ _ _ _ _ k => ⟨k.1, k.2.1, k.2.2.1, h _ _ _ k.2.2.2⟩) hw
  case lastore => exact s3l_mono (fun _ _ _ _ _ k => ⟨k.1, k.2.1, k.2.2.1, h _ _ _ k.2.2.2⟩) hw
  case bastore => exact s3i_mono (fun _ _ _ _ _ k => ⟨k.1, k.2.1, k.2.2.imp (fun z => ⟨z.1, h _ _ _ z.2⟩) (fun z => ⟨z.1, z.2.1, h _ _ _ z.2.2⟩)⟩) hw
  case aastore => exact s3r_mono (fun _ _ _ _ _ _ k => ⟨k.1, k.2.1, k.2.2.1, k.2.2.2.1, k.2.2.2.2.1, k.2.2.2.2.2.1, h _ _ _ k.2.2.2.2.2.2⟩) hw
  case arraylength => exact s1r_mono (fun _ _ _ k => ⟨k.1, h _ _ _ k.2⟩) hw
  case getstatic => exact h _ _ _ hw
  case invokevirtual => exact pops_mono (fun _ _ k => ⟨k.1, k.2.1, k.2.2.choose, k.2.2.choose_spec.1, fun r M' z => h _ _ _ (k.2.2.choose_spec.2 r M' z)⟩) _ _ _ hw
  case invokestatic => exact pops_mono (fun _ _ k => ⟨k.1, k.2.choose, k.2.choose_spec.1, fun r M' z => h _ _ _ (k.2.choose_spec.2 r M' z)⟩) _ _ _ hw
  case ret i =>
    match i, hw with
    | 0, hw => exact hw
    | 1, hw => exact hw
  case lreturn => exact hw
  case areturn => exact hw
  case return_ => exact hw
  case checkcast i =>
    unfold wp1 at hw ⊢
    split at hw
    all_goals (first | (rename_i e; cases e; done) | skip)
    all_goals (rename_i e; first | (cases e; first | exact s1r_mono (fun _ _ _ k => ⟨k.1, k.2.1, h _ _ _ k.2.2⟩) hw | exact s1r_mono (fun _ _ _ k => ⟨k.1, h _ _ _ k.2⟩) hw) | exact hw.elim)
  case instanceof i =>
    unfold wp1 at hw ⊢
    split at hw
    all_goals (first | (rename_i e; cases e; done) | skip)
    all_goals (rename_i e; first | (cases e; first | exact s1r_mono (fun _ _ _ k => ⟨k.1, k.2.1, h _ _ _ k.2.2⟩) hw | exact s2ia_mono (fun _ _ _ _ k => ⟨k.1, k.2.1, k.2.2.1, h _ _ _ k.2.2.2⟩) hw) | exact hw.elim)
  all_goals exact hw.elim
theorem falls_not {ins : Instr} (h : falls ins = false) {N N' : Lc → List AV → AMem → Prop} {K : Nat → Lc → List AV → AMem → Prop} {Rt : Option AV → AMem → Prop} {loc : Lc} {stk : List AV} {M : AMem} (hw : wp1 ins N K Rt loc stk M) : wp1 ins N' K Rt loc stk M := by
  cases ins <;> first | exact absurd (show true = false from h) (by decide) | exact hw | skip
  case ret i => 
    match i, hw with
    | 0, hw => exact hw
    | 1, hw => exact hw
theorem Wq.one {n : Nat} {cd : List (Nat × Instr)} {post : Option AV → AMem → Prop} (hc : chkM (mt n) cd = true) {i pc : Nat} {ins : Instr} (hi : cd[i]? = some (pc, ins)) {loc : Lc} {stk : List AV} {M : AMem} (hw : wp1 ins (Wq n cd post (i + 1)) (Wq n cd post) post loc stk M) : Wq n cd post i loc stk M := by
  intro p l e R s m args below meth c E hF
  unfold chkM at hc
  rw [Bool.and_eq_true] at hc
  obtain ⟨raw, len, hd, hok, hlen, hfl⟩ := chkL_at cd i pc ins hc.1 hi
  have hpc : pcOf cd i = pc := by
    unfold pcOf
    rw [List.getD_eq_getElem?_getD, hi]
    rfl
  rw [hpc]
  have hK : ∀ (j tgt : Nat), (cd.map (·.1))[j]? = some tgt → ∀ (loc : Lc) (stk : List AV) (M : AMem), Wq n cd post j loc stk M → WiR p l e R s m args below meth c E (mt n) post tgt loc stk M := by
    intro j tgt hj loc stk M h
    have h := h p l e R s m args below meth c E hF
    have : pcOf cd j = tgt := by
      unfold pcOf
      rw [List.getElem?_map] at hj
      cases hq : cd[j]? with
      | none => rw [hq] at hj; cases hj
      | some z =>
        rw [hq] at hj
        rw [List.getD_eq_getElem?_getD, hq]
        exact Option.some.inj hj
    rw [this] at h
    exact h
  refine wp1_sound hF hok hlen hd hK ?_
  cases hf : falls ins
  · exact falls_not hf hw
  · have h1 := hfl hf
    have : pcOf cd (i + 1) = pc + len := by
      unfold pcOf
      cases hq : cd[i + 1]? with
      | none => rw [hq] at h1; cases h1
      | some z =>
        rw [hq] at h1
        rw [List.getD_eq_getElem?_getD, hq]
        exact Option.some.inj h1
    refine wp1_mono (fun loc stk M h => ?_) hw
    have h := h p l e R s m args below meth c E hF
    rw [this] at h
    exact h
theorem Wq.run {n : Nat} {cd : List (Nat × Instr)} {post : Option AV → AMem → Prop} (hc : chkM (mt n) cd = true) : ∀ (is : List Instr) (i : Nat) (loc : Lc) (stk : List AV) (M : AMem), (∀ k, k < is.length → (cd[i + k]?).map (·.2) = is[k]?) → wpl (Wq n cd post) post is i loc stk M → Wq n cd post i loc stk M
  | [], i, loc, stk, M, _, hw => hw
  | ins :: is, i, loc, stk, M, h, hw => by
    have h0 := h 0 (by simp)
    cases hq : cd[i]? with
    | none => rw [Nat.add_zero, hq] at h0; simp at h0
    | some z =>
      rw [Nat.add_zero, hq] at h0
      obtain ⟨pc, ins'⟩ := z
      simp only [Option.map_some, List.getElem?_cons_zero, Option.some.injEq] at h0
      subst h0
      refine Wq.one hc hq (wp1_mono (fun loc stk M h2 => ?_) hw)
      refine Wq.run hc is (i + 1) loc stk M (fun k hk => ?_) h2
      have := h (k + 1) (by simpa using hk)
      rw [List.getElem?_cons_succ] at this
      rw [← this]
      congr 2
      omega
def initL (as : List AV) (n : Nat) : Lc := as.map some ++ List.replicate (n - as.length) none
theorem args_at (E : EV) : ∀ (as : List AV) (k : Nat), (∀ a ∈ as, lcat a = 1) → ∀ (i : Nat) (v : AV), as[i]? = some v → (k + i, enc E v) ∈ lv_args k (as.map (enc E))
  | [], _, _, i, v, h => by simp at h
  | a :: as, k, hc, 0, v, h => by
    simp only [List.getElem?_cons_zero, Option.some.injEq] at h
    subst h
    exact List.mem_cons_self
  | a :: as, k, hc, i + 1, v, h => by
    have h1 := args_at E as (k + 1) (fun b hb => hc b (List.mem_cons_of_mem _ hb)) i v (by simpa using h)
    have h2 : ¬ (enc E a).category = 2 := by rw [enc_cat, hc a List.mem_cons_self]; omega
    show (k + (i + 1), enc E v) ∈ (k, enc E a) :: lv_args (if (enc E a).category = 2 then k + 2 else k + 1) (as.map (enc E))
    rw [if_neg h2, show k + (i + 1) = k + 1 + i by omega]
    exact List.mem_cons_of_mem _ h1
theorem lg_len (E : EV) : ∀ (as : List AV), (∀ a ∈ as, lcat a = 1) → (lg_sl (as.map (enc E))).length = as.length
  | [], _ => rfl
  | a :: as, hc => by
    have h1 := lg_len E as (fun b hb => hc b (List.mem_cons_of_mem _ hb))
    have h2 : ¬ (enc E a).category = 2 := by rw [enc_cat, hc a List.mem_cons_self]; omega
    unfold lg_sl at *
    rw [List.map_cons, List.flatMap_cons, List.length_append, h1, if_neg h2]
    simp only [List.length_cons, List.length_nil]
    omega
theorem Runs.ofD {n : Nat} {as : List AV} {M : AMem} {post : Option AV → AMem → Prop} (h2 : 2 ≤ n) (h : RunsD (mt n) as M post) : Runs n as M post := by
  obtain ⟨k, rfl⟩ : ∃ k, n = k + 2 := ⟨n - 2, by omega⟩
  exact h
theorem Runs.go {n : Nat} {cd : List (Nat × Instr)} {post : Option AV → AMem → Prop} {as : List AV} {M : AMem} (h2 : 2 ≤ n) (hn : n < MDL.length) (hp : plainName (mt n).y.cls = true) (hc : chkM (mt n) cd = true) (has : ∀ a ∈ as, lcat a = 1) (hl : as.length ≤ (mt n).ml)
    (k : (∀ a ∈ as, aok a) → MOK M → Wq n cd post 0 (initL as (mt n).ml) [] M) : Runs n as M post := by
  refine Runs.ofD h2 ?_
  intro l E
  refine Met.ofW (cc := (mt n).b) (maxL := (mt n).ml) (ret := (mt n).rt) hp rfl ?_
  intro p e s m args below meth c s₁ B hml hv
  obtain ⟨rfl, ho, hE, hR, hM⟩ := hv
  have hts := atoms_spec (ws := wsM (mt n)) B.pre
  have hown : s.vm.findClass (mt n).y.cls = some m.cls := findClass_of_methodNamed B.named
  have hmi := md_inv hn
  rw [hmi.2.2.2.2.2.1] at hown
  have hk := k ho hM p l e (rmL (mt n).lv) s m (as.map (enc E)).toArray below meth c E ⟨B.exec, B.bytes, hml, hown, fun w hw => hts w (List.mem_cons_of_mem _ hw), hE, B.returns, B.notSynchronized, rfl⟩
  have hpc : pcOf cd 0 = 0 := by
    unfold chkM at hc
    rw [Bool.and_eq_true] at hc
    have h2 := of_decide_eq_true hc.2
    unfold pcOf
    cases cd with
    | nil => cases h2
    | cons z _ => exact Option.some.inj h2
  rw [hpc] at hk
  have hlen := lg_len E as has
  have hent := lv_entry (as.map (enc E)) (n := (mt n).ml) (by rw [hlen]; exact hl)
  rw [lg_entry_eq]
  refine hk s.heap [] _ ⟨va_S.rf, rfl, hR, hM⟩ ⟨hent.1, ?_, hent.2.1, fun i v hv _ => ?_⟩ (fun v hv => ?_) (fun v hv => by cases hv)
  · unfold initL
    rw [List.length_append, List.length_map, List.length_replicate]
    omega
  · unfold initL at hv
    have hlt : i < as.length := by
      by_cases h : i < as.length
      · exact h
      · rw [List.getElem?_append_right (by rw [List.length_map]; omega), List.getElem?_replicate] at hv
        split at hv
        · injection hv with hv; cases hv
        · cases hv
    rw [List.getElem?_append_left (by rw [List.length_map]; exact hlt), List.getElem?_map] at hv
    cases hq : as[i]? with
    | none => rw [hq] at hv; cases hv
    | some w =>
      rw [hq] at hv
      injection hv with hv
      injection hv with hv
      subst hv
      have := args_at E as 0 has i w hq
      rw [Nat.zero_add] at this
      exact hent.2.2 _ this
  · unfold initL at hv
    rcases List.mem_append.mp hv with h | h
    · obtain ⟨w, hw, he⟩ := List.mem_map.mp h
      injection he with he
      subst he
      exact ho w hw
    · have := List.eq_of_mem_replicate h
      cases this
theorem Runs.imp {n : Nat} {as : List AV} {M : AMem} {post post' : Option AV → AMem → Prop} (h : Runs n as M post) (hi : ∀ r M', post r M' → post' r M') : Runs n as M post' := by
  match n, h with
  | 0, ⟨x, y, h1, h2⟩ => exact ⟨x, y, h1, hi _ _ h2⟩
  | 1, ⟨x, y, h1, h2⟩ => exact ⟨x, y, h1, hi _ _ h2⟩
  | k + 2, h =>
  intro l E
  have h : RunsD (mtab (k + 2)) as M post := h
  exact MetFree.mono (h l E) (fun _ _ hp => hp) (fun _ _ _ _ _ _ => trivial) (fun a st o t _ hq => ⟨by obtain ⟨⟨r, M', h1, h2, h3, h4⟩, -⟩ := hq; exact ⟨r, M', h1, h2, hi r M' h3, h4⟩, hq.2⟩)
