/-! ===== methods, contracts, and what an instruction asks for ===== -/
/-- name, code, locals, answer's type, level, parameters, class, static, receiver's group -/
abbrev MD : Type := MethodName × Nat × Nat × Option FieldType × Nat × Nat × Nat × Bool × Nat
abbrev MD.y (q : MD) : MethodName := q.1
abbrev MD.b (q : MD) : ByteArray := bOf q.2.1
abbrev MD.ml (q : MD) : Nat := q.2.2.1
abbrev MD.rt (q : MD) : Option FieldType := q.2.2.2.1
abbrev MD.lv (q : MD) : Nat := q.2.2.2.2.1
abbrev MD.np (q : MD) : Nat := q.2.2.2.2.2.1
abbrev MD.o (q : MD) : Nat := q.2.2.2.2.2.2.1
abbrev MD.st (q : MD) : Bool := q.2.2.2.2.2.2.2.1
abbrev MD.g (q : MD) : Nat := q.2.2.2.2.2.2.2.2
def rmL (d : Nat) : Room := { frames := d, cells := 0, slots := 0, locals := 38 * d }
def wsM (q : MD) : List Cond := .code q.y q.b q.ml q.rt :: lwg
def PcA (E : EV) (as : List AV) (M : AMem) : Array Value → State → Prop := fun v U => v = (as.map (enc E)).toArray ∧ (∀ a ∈ as, aok a) ∧ EnvK E U ∧ RepK E U U.heap M ∧ MOK M
def QcA (E : EV) (post : Option AV → AMem → Prop) : Array Value → State → Outcome → State → Prop := fun _ st oc t => ∃ (r : Option AV) (M' : AMem), oc = .returned (r.map (enc E)) ∧ (∀ a, r = some a → aok a) ∧ post r M' ∧ RepK E t t.heap M' ∧ MOK M' ∧ t.heap.size = st.heap.size ∧ va_F (AA E) st t
def RunsD (q : MD) (as : List AV) (M : AMem) (post : Option AV → AMem → Prop) : Prop := ∀ (l : Launch) (E : EV), Met l q.y (wsM q) (rmL q.lv) (PcA E as M) (QcA E post) 0 0 (AA E)
/-- a call of method n; 0 and 1 are Math.max and Math.min, which the library knows -/
def Runs (n : Nat) (as : List AV) (M : AMem) (post : Option AV → AMem → Prop) : Prop := match n with
  | 0 => ∃ x y, as = [aI x, aI y] ∧ post (some (aI (if x < y then y else x))) M
  | 1 => ∃ x y, as = [aI x, aI y] ∧ post (some (aI (if y < x then y else x))) M
  | k + 2 => RunsD (mtab (k + 2)) as M post
def s1i : List AV → (Int → List AV → Prop) → Prop
  | .inl x :: st, f => f x st
  | _, _ => False
def s2i : List AV → (Int → Int → List AV → Prop) → Prop
  | .inl y :: .inl x :: st, f => f y x st
  | _, _ => False
def s1l : List AV → (Int → List AV → Prop) → Prop
  | .inr (.inl x) :: st, f => f x st
  | _, _ => False
def s2l : List AV → (Int → Int → List AV → Prop) → Prop
  | .inr (.inl y) :: .inr (.inl x) :: st, f => f y x st
  | _, _ => False
def s2il : List AV → (Int → Int → List AV → Prop) → Prop
  | .inl y :: .inr (.inl x) :: st, f => f y x st
  | _, _ => False
def s1r : List AV → (Nat → Int → List AV → Prop) → Prop
  | .inr (.inr (g, t)) :: st, f => f g t st
  | _, _ => False
def s2r : List AV → (Nat → Int → Nat → Int → List AV → Prop) → Prop
  | .inr (.inr (g, t)) :: .inr (.inr (g', t')) :: st, f => f g t g' t' st
  | _, _ => False
def s2ia : List AV → (Int → Nat → Int → List AV → Prop) → Prop
  | .inl i :: .inr (.inr (g, t)) :: st, f => f i g t st
  | _, _ => False
def s3i : List AV → (Int → Int → Nat → Int → List AV → Prop) → Prop
  | .inl x :: .inl i :: .inr (.inr (g, t)) :: st, f => f x i g t st
  | _, _ => False
def s3l : List AV → (Int → Int → Nat → Int → List AV → Prop) → Prop
  | .inr (.inl x) :: .inl i :: .inr (.inr (g, t)) :: st, f => f x i g t st
  | _, _ => False
def s3r : List AV → (Nat → Int → Int → Nat → Int → List AV → Prop) → Prop
  | .inr (.inr (g', t')) :: .inl i :: .inr (.inr (g, t)) :: st, f => f g' t' i g t st
  | _, _ => False
def s2la : List AV → (Int → Nat → Int → List AV → Prop) → Prop
  | .inr (.inl i) :: .inr (.inr (g, t)) :: st, f => f i g t st
  | _, _ => False
def l1i (loc : Lc) (i : Nat) (f : Int → Prop) : Prop := match loc.getD i none with
  | some (.inl x) => f x
  | _ => False
def l1l (loc : Lc) (i : Nat) (f : Int → Prop) : Prop := match loc.getD i none, loc[i + 1]? with
  | some (.inr (.inl x)), some none => f x
  | _, _ => False
def l1r (loc : Lc) (i : Nat) (f : Nat → Int → Prop) : Prop := match loc.getD i none with
  | some (.inr (.inr (g, t))) => f g t
  | _ => False
def ccmp (c : ClassFile.Cond) (x y : Int) : Prop := match c with
  | .eq => x = y
  | .ne => ¬ x = y
  | .lt => x < y
  | .ge => y ≤ x
  | .gt => y < x
  | .le => x ≤ y
def tsw (x : Int) (f : Nat → Prop) : Int → List Int → Prop
  | _, [] => True
  | lo, o :: os => (x = lo → f o.toNat) ∧ tsw x f (lo + 1) os
def lsw (x : Int) (f : Nat → Prop) (d : Int) : List (Int × Int) → Prop
  | [] => f d.toNat
  | (a, o) :: os => (x = a → f o.toNat) ∧ (¬ x = a → lsw x f d os)
def fget (n : Nat) (t x : Int) : AV := match n % 4 with
  | 2 => aL x
  | 3 => aR (n / 819200) (((n / 6400 % 128 : Nat) : Int) + t)
  | _ => aI x
def fput (n : Nat) (stk : List AV) (f : Nat → Int → Int → List AV → Prop) : Prop := match n % 4 with
  | 0 => s2ia stk fun x g t st => f g t x st
  | 1 => s2ia stk fun x g t st => (x = 0 ∨ x = 1) ∧ f g t x st
  | 2 => s2la stk fun x g t st => f g t x st
  | _ => False
def pops : Nat → List AV → List AV → (List AV → List AV → Prop) → Prop
  | 0, acc, stk, f => f acc stk
  | n + 1, acc, v :: stk, f => pops n (v :: acc) stk f
  | _ + 1, _, [], _ => False
def rpush : Option AV → List AV → List AV
  | none, st => st
  | some v, st => v :: st
def wcall (n : Nat) (loc : Lc) (stk : List AV) (M : AMem) (N : Lc → List AV → AMem → Prop) : Prop :=
  pops (n / 16 % 16) [] stk fun as rest => rest.length ≤ 4 ∧ ∃ post, Runs (n / 256) as M post ∧ ∀ r M', post r M' → N loc (rpush r rest) M'
/-- the receiver is of the group -/
def rcv : List AV → Nat → Prop
  | .inr (.inr (g, _)) :: _, n => g = n
  | _, _ => False
def wcallV (n : Nat) (loc : Lc) (stk : List AV) (M : AMem) (N : Lc → List AV → AMem → Prop) : Prop :=
  pops (n / 16 % 16) [] stk fun as rest => rcv as (n % 16) ∧ rest.length ≤ 4 ∧ ∃ post, Runs (n / 256) as M post ∧ ∀ r M', post r M' → N loc (rpush r rest) M'
def inr (i : Int) (g : Nat) : Prop := 0 ≤ i ∧ i < (gl g : Int)
def wp1 (ins : Instr) (N : Lc → List AV → AMem → Prop) (K : Nat → Lc → List AV → AMem → Prop) (Rt : Option AV → AMem → Prop) (loc : Lc) (stk : List AV) (M : AMem) : Prop := match ins with
  | .iconst n => N loc (aI n :: stk) M
  | .ldc2_w n => N loc (aL n :: stk) M
  | .ldc_w n => n = 0 ∧ N loc (aR 14 0 :: stk) M
  | .iload i => l1i loc i fun x => N loc (aI x :: stk) M
  | .lload i => l1l loc i fun x => N loc (aL x :: stk) M
  | .aload i => l1r loc i fun g t => N loc (aR g t :: stk) M
  | .istore i => s1i stk fun x st => N (loc.set i (some (aI x))) st M
  | .lstore i => s1l stk fun x st => N ((loc.set i (some (aL x))).set (i + 1) none) st M
  | .astore i => s1r stk fun g t st => N (loc.set i (some (aR g t))) st M
  | .iinc i c => l1i loc i fun x => N (loc.set i (some (aI (w32 (x + c))))) stk M
  | .iadd => s2i stk fun y x st => N loc (aI (w32 (x + y)) :: st) M
  | .isub => s2i stk fun y x st => N loc (aI (w32 (x - y)) :: st) M
  | .imul => s2i stk fun y x st => N loc (aI (w32 (x * y)) :: st) M
  | .ineg => s1i stk fun x st => N loc (aI (w32 (-x)) :: st) M
  | .irem => s2i stk fun y x st => 0 < y ∧ N loc (aI (x.tmod y) :: st) M
  | .iand => s2i stk fun y x st => N loc (aI (iAnd x y) :: st) M
  | .ior => s2i stk fun y x st => N loc (aI (iOr x y) :: st) M
  | .ixor => s2i stk fun y x st => N loc (aI (iXor x y) :: st) M
  | .ishl => s2i stk fun y x st => N loc (aI (iShl x y) :: st) M
  | .ishr => s2i stk fun y x st => N loc (aI (iShr x y) :: st) M
  | .iushr => s2i stk fun y x st => N loc (aI (iUshr x y) :: st) M
  | .ladd => s2l stk fun y x st => N loc (aL (w64 (x + y)) :: st) M
  | .lneg => s1l stk fun x st => N loc (aL (w64 (-x)) :: st) M
  | .lrem => s2l stk fun y x st => 0 < y ∧ N loc (aL (x.tmod y) :: st) M
  | .land => s2l stk fun y x st => N loc (aL (lAnd x y) :: st) M
  | .lor => s2l stk fun y x st => N loc (aL (lOr x y) :: st) M
  | .lshl => s2il stk fun y x st => N loc (aL (lShl x y) :: st) M
  | .lushr => s2il stk fun y x st => N loc (aL (lUshr x y) :: st) M
  | .lcmp => s2l stk fun y x st => N loc (aI (lCmp x y) :: st) M
  | .i2l => s1i stk fun x st => N loc (aL x :: st) M
  | .l2i => s1l stk fun x st => N loc (aI (w32 x) :: st) M
  | .i2b => s1i stk fun x st => N loc (aI (w8 x) :: st) M
  | .i2c => s1i stk fun x st => N loc (aI (w16u x) :: st) M
  | .dup => (match stk with
    | v :: st => lcat v = 1 ∧ N loc (v :: v :: st) M
    | _ => False)
  | .pop => (match stk with
    | v :: st => lcat v = 1 ∧ N loc st M
    | _ => False)
  | .dup2 => (match stk with
    | v :: w :: st => lcat v = 1 ∧ lcat w = 1 ∧ N loc (v :: w :: v :: w :: st) M
    | _ => False)
  | .if_icmp c t => s2i stk fun y x st => (ccmp c x y → K t.toNat loc st M) ∧ (¬ ccmp c x y → N loc st M)
  | .ifCond c t => s1i stk fun x st => (ccmp c x 0 → K t.toNat loc st M) ∧ (¬ ccmp c x 0 → N loc st M)
  | .if_acmp .eq t => s2r stk fun g a g' a' st => (g = 12 ∨ g = 13) ∧ g' = g ∧ (a' = a → K t.toNat loc st M) ∧ (¬ a' = a → N loc st M)
  | .if_acmp .ne t => s2r stk fun g a g' a' st => (g = 12 ∨ g = 13) ∧ g' = g ∧ (¬ a' = a → K t.toNat loc st M) ∧ (a' = a → N loc st M)
  | .goto t => K t.toNat loc stk M
  | .tableswitch d lo hi offs => s1i stk fun x st => ((x < lo ∨ hi < x) → K d.toNat loc st M) ∧ tsw x (fun j => K j loc st M) lo offs.toList
  | .lookupswitch d ps => s1i stk fun x st => lsw x (fun j => K j loc st M) d ps.toList
  | .getfield n => s1r stk fun g t st => g = n / 400 % 16 ∧ N loc (fget n t (M g t ((n / 4 % 100 : Nat) : Int)) :: st) M
  | .putfield n => fput n stk fun g t x st => g = n / 400 % 16 ∧ N loc st (mup M g t ((n / 4 % 100 : Nat) : Int) x)
  | .iaload => s2ia stk fun i g t st => gk g = 0 ∧ inr i g ∧ N loc (aI (M g t i) :: st) M
  | .baload => s2ia stk fun i g t st => (gk g = 4 ∨ gk g = 1) ∧ inr i g ∧ N loc (aI (M g t i) :: st) M
  | .caload => s2ia stk fun i g t st => gk g = 5 ∧ inr i g ∧ N loc (aI (M g t i) :: st) M
  | .laload => s2ia stk fun i g t st => gk g = 2 ∧ inr i g ∧ N loc (aL (M g t i) :: st) M
  | .aaload => s2ia stk fun i g t st => gk g = 3 ∧ inr i g ∧ (match (aT g).2.1 with
    | 1 => N loc (aR (aT g).1 ((aT g).2.2 + i) :: st) M
    | 2 => 0 ≤ M g t i ∧ (aT g).2.2 = 0 ∧ N loc (aR (aT g).1 (M g t i) :: st) M
    | _ => False)
  | .iastore => s3i stk fun x i g t st => gk g = 0 ∧ g % 256 < 120 ∧ inr i g ∧ N loc st (mup M g t i x)
  | .bastore => s3i stk fun x i g t st => g % 256 < 120 ∧ inr i g ∧ ((gk g = 4 ∧ N loc st (mup M g t i (w8 x))) ∨ (gk g = 1 ∧ (x = 0 ∨ x = 1) ∧ N loc st (mup M g t i x)))
  | .castore => s3i stk fun x i g t st => gk g = 5 ∧ g % 256 < 120 ∧ inr i g ∧ N loc st (mup M g t i (w16u x))
  | .lastore => s3l stk fun x i g t st => gk g = 2 ∧ g % 256 < 120 ∧ inr i g ∧ N loc st (mup M g t i x)
  | .aastore => s3r stk fun g' t' i g t st => gk g = 3 ∧ g % 256 < 120 ∧ inr i g ∧ (aT g).2.1 = 2 ∧ (aT g).2.2 = 0 ∧ g' = (aT g).1 ∧ N loc st (mup M g t i t')
  | .arraylength => s1r stk fun g t st => 20 ≤ g ∧ N loc (aI (gl g) :: st) M
  | .getstatic n => N loc (aR (n / 64) ((n % 64 : Nat) : Int) :: stk) M
  | .invokevirtual n => wcallV n loc stk M N
  | .invokestatic n => wcall n loc stk M N
  | .checkcast 12 => s1r stk fun g t st => g = 12 ∧ st.length ≤ 4 ∧ N loc (aI t :: st) M
  | .checkcast 13 => s1r stk fun g t st => g = 13 ∧ st.length ≤ 4 ∧ N loc (aI t :: st) M
  | .checkcast 100 => s1r stk fun g t st => g = 12 ∧ N loc (aR 14 (kwd t) :: st) M
  | .checkcast 101 => s1r stk fun g t st => g = 13 ∧ N loc (aI (rwt t) :: st) M
  | .instanceof 0 => s1r stk fun g t st => g = 14 ∧ st.length ≤ 4 ∧ N loc (aI (sLen t) :: st) M
  | .instanceof 1 => s2ia stk fun i g t st => g = 14 ∧ st.length ≤ 4 ∧ (0 ≤ i ∧ i < sLen t) ∧ N loc (aI (sByt t i.toNat) :: st) M
  | .ret 0 => (match stk with
    | [.inl x] => Rt (some (aI x)) M
    | _ => False)
  | .ret 1 => (match stk with
    | [.inl x] => (x = 0 ∨ x = 1) ∧ Rt (some (aI x)) M
    | _ => False)
  | .lreturn => (match stk with
    | [.inr (.inl x)] => Rt (some (aL x)) M
    | _ => False)
  | .areturn => (match stk with
    | [.inr (.inr (g, t))] => Rt (some (aR g t)) M
    | _ => False)
  | .return_ => stk = [] ∧ Rt none M
  | _ => False
