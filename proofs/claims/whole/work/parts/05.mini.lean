/-! THE MINI MACHINE: the instructions that the claim's methods hold, over a heap of numbered cells. A value: an int, a long, a cell's number or null, or one of the given arrays (0 TENS, 1 FACTORIALS, 2 the script). -/
abbrev AV : Type := Int32 ⊕ Int64 ⊕ Option Nat ⊕ Nat
/-- a cell: ints (component type, length, contents), references (component class, length, contents), an object (class, fields) -/
abbrev AC : Type := (FieldType × Nat × (Nat → Int32)) ⊕ (Nat × Nat × (Nat → Option Nat)) ⊕ (Nat × List AV)
/-- a heap: how many cells, and what they hold -/
abbrev AH : Type := Nat × (Nat → Option AC)
abbrev AL : Type := List (Nat × AV)
abbrev vI (x : Int32) : AV := .inl x
abbrev vL (y : Int64) : AV := .inr (.inl y)
abbrev vR (k : Nat) : AV := .inr (.inr (.inl (some k)))
abbrev vN : AV := .inr (.inr (.inl none))
abbrev vT (t : Nat) : AV := .inr (.inr (.inr t))
abbrev cI (n : Nat) (f : Nat → Int32) : AC := .inl (.int, n, f)
abbrev cO (ci : Nat) (fs : List AV) : AC := .inr (.inr (ci, fs))
abbrev cQ (ci n : Nat) (f : Nat → Option Nat) : AC := .inr (.inl (ci, n, f))
abbrev AQ : Type := Option AV → AH → Prop
abbrev CP : Type := Nat → AL → List AV → AH → Nat → Nat → Prop
abbrev CO : Type := Nat → List AV → AH → Nat → Nat → AQ → Prop
def mm_c2 : AV → Bool
  | .inr (.inl _) => true
  | _ => false
def mm_rd (lv : AL) (i : Nat) : Option AV := (lv.find? (fun q => q.1 == i)).map (fun q => q.2)
def mm_ins (i : Nat) (v : AV) : AL → AL
  | [] => [(i, v)]
  | q :: r => if q.1 < i then q :: mm_ins i v r else (i, v) :: q :: r
def mm_st1 (lv : AL) (i : Nat) (v : AV) : AL := mm_ins i v (lv.filter (fun q => !(q.1 == i) && !(q.1 + 1 == i && mm_c2 q.2)))
def mm_st2 (lv : AL) (i : Nat) (v : AV) : AL := mm_ins i v (lv.filter (fun q => !(q.1 == i) && (!(q.1 == i + 1) && !(q.1 + 1 == i && mm_c2 q.2))))
def mm_up (h : AH) (k : Nat) (c : AC) : AH := (h.1, fun j => if j = k then some c else h.2 j)
def mm_al (h : AH) (c : AC) : AH := (h.1 + 1, fun j => if j = h.1 then some c else h.2 j)
/-- the type of a field -/
def mm_ft (ci k : Nat) : FieldType := match ci with
  | 0 => tyX0 k
  | 1 => tyX1 k
  | 2 => tyX2 k
  | 3 => tyX3 k
  | 4 => tyX4 k
  | 5 => tyX5 k
  | 6 => tyX6 k
  | 7 => tyX7 k
  | _ => tyX8 k
def mm_fit : FieldType → AV → Prop
  | .int, .inl _ => True
  | .boolean, .inl a => a = 0 ∨ a = 1
  | .long, .inr (.inl _) => True
  | .object _, .inr (.inr (.inl _)) => True
  | .array _, .inr (.inr (.inl _)) => True
  | _, _ => False
def mm_dv : FieldType → AV
  | .long => vL 0
  | .object _ => vN
  | .array _ => vN
  | _ => vI 0
def mm_df (ci : Nat) : List AV := (List.range (mm_nf ci)).map (fun k => mm_dv (mm_ft ci k))
def mm_sw (C : Nat → Prop) (a : Int32) (dflt : Nat) : Int32 → List Nat → Prop
  | _, [] => C dflt
  | lo, t :: ts => (a = lo → C t) ∧ (¬ a = lo → mm_sw C a dflt (lo + 1) ts)
/-- a call: what is on the stack is taken, the callee's promise is taken, and it goes on with the answer -/
def mm_call (call : CO) (C : CP) (md n pc : Nat) (lv : AL) (st : List AV) (h : AH) (kc ks : Nat) : Prop :=
  n ≤ st.length ∧ (st.drop n).length ≤ 4 ∧ ∃ (mc ms : Nat) (R : AQ), mc ≤ kc ∧ ms ≤ ks ∧ call md (st.take n).reverse h mc ms R ∧ ∀ (r : Option AV) (h' : AH), R r h' → C (pc + 3) lv (r.toList ++ st.drop n) h' (kc - mc) (ks - ms)
def mm_step (rw : Nat → Option RW) (rt : Option FieldType) (tb : Nat → Nat × (Nat → Int32)) (call : CO) (Q : AQ) (C : CP) : CP := fun pc lv st h kc ks =>
  match rw pc with
  | none => False
  | some (ins, _, r1, r2, x, y, ts, _) =>
    match ins with
    | .iconst _ => C (pc + 1) lv (vI x :: st) h kc ks
    | .bipush _ => C (pc + 2) lv (vI x :: st) h kc ks
    | .sipush _ => C (pc + 3) lv (vI x :: st) h kc ks
    | .lconst _ => C (pc + 1) lv (vL y :: st) h kc ks
    | .ldc_w _ => C (pc + 3) lv (vI x :: st) h kc ks
    | .ldc2_w _ => C (pc + 3) lv (vL y :: st) h kc ks
    | .iload i => match mm_rd lv i with
      | some (.inl a) => C (pc + 2) lv (vI a :: st) h kc ks
      | _ => False
    | .iload_n i => match mm_rd lv i with
      | some (.inl a) => C (pc + 1) lv (vI a :: st) h kc ks
      | _ => False
    | .lload i => match mm_rd lv i with
      | some (.inr (.inl a)) => C (pc + 2) lv (vL a :: st) h kc ks
      | _ => False
    | .lload_n i => match mm_rd lv i with
      | some (.inr (.inl a)) => C (pc + 1) lv (vL a :: st) h kc ks
      | _ => False
    | .aload i => match mm_rd lv i with
      | some (.inr (.inr (.inl (some k)))) => C (pc + 2) lv (vR k :: st) h kc ks
      | some (.inr (.inr (.inr t))) => C (pc + 2) lv (vT t :: st) h kc ks
      | _ => False
    | .aload_n i => match mm_rd lv i with
      | some (.inr (.inr (.inl (some k)))) => C (pc + 1) lv (vR k :: st) h kc ks
      | some (.inr (.inr (.inr t))) => C (pc + 1) lv (vT t :: st) h kc ks
      | _ => False
    | .istore i => match st with
      | .inl a :: st => C (pc + 2) (mm_st1 lv i (vI a)) st h kc ks
      | _ => False
    | .istore_n i => match st with
      | .inl a :: st => C (pc + 1) (mm_st1 lv i (vI a)) st h kc ks
      | _ => False
    | .lstore i => match st with
      | .inr (.inl a) :: st => C (pc + 2) (mm_st2 lv i (vL a)) st h kc ks
      | _ => False
    | .lstore_n i => match st with
      | .inr (.inl a) :: st => C (pc + 1) (mm_st2 lv i (vL a)) st h kc ks
      | _ => False
    | .astore i => match st with
      | .inr (.inr (.inl (some k))) :: st => C (pc + 2) (mm_st1 lv i (vR k)) st h kc ks
      | _ => False
    | .astore_n i => match st with
      | .inr (.inr (.inl (some k))) :: st => C (pc + 1) (mm_st1 lv i (vR k)) st h kc ks
      | _ => False
    | .iinc i _ => match mm_rd lv i with
      | some (.inl a) => C (pc + 3) (mm_st1 lv i (vI (a + x))) st h kc ks
      | _ => False
    | .iadd => match st with
      | .inl b :: .inl a :: st => C (pc + 1) lv (vI (a + b) :: st) h kc ks
      | _ => False
    | .isub => match st with
      | .inl b :: .inl a :: st => C (pc + 1) lv (vI (a - b) :: st) h kc ks
      | _ => False
    | .imul => match st with
      | .inl b :: .inl a :: st => C (pc + 1) lv (vI (a * b) :: st) h kc ks
      | _ => False
    | .idiv => match st with
      | .inl b :: .inl a :: st => ¬ b = 0 ∧ C (pc + 1) lv (vI (a / b) :: st) h kc ks
      | _ => False
    | .irem => match st with
      | .inl b :: .inl a :: st => ¬ b = 0 ∧ C (pc + 1) lv (vI (a - a / b * b) :: st) h kc ks
      | _ => False
    | .iand => match st with
      | .inl b :: .inl a :: st => C (pc + 1) lv (vI (a &&& b) :: st) h kc ks
      | _ => False
    | .ior => match st with
      | .inl b :: .inl a :: st => C (pc + 1) lv (vI (a ||| b) :: st) h kc ks
      | _ => False
    | .ixor => match st with
      | .inl b :: .inl a :: st => C (pc + 1) lv (vI (a ^^^ b) :: st) h kc ks
      | _ => False
    | .ishl => match st with
      | .inl b :: .inl a :: st => C (pc + 1) lv (vI (a <<< (b &&& 31)) :: st) h kc ks
      | _ => False
    | .ishr => match st with
      | .inl b :: .inl a :: st => C (pc + 1) lv (vI (a >>> (b &&& 31)) :: st) h kc ks
      | _ => False
    | .iushr => match st with
      | .inl b :: .inl a :: st => C (pc + 1) lv (vI ((a.toUInt32 >>> (b.toUInt32 &&& Int32.toUInt32 31)).toInt32) :: st) h kc ks
      | _ => False
    | .ladd => match st with
      | .inr (.inl b) :: .inr (.inl a) :: st => C (pc + 1) lv (vL (a + b) :: st) h kc ks
      | _ => False
    | .lmul => match st with
      | .inr (.inl b) :: .inr (.inl a) :: st => C (pc + 1) lv (vL (a * b) :: st) h kc ks
      | _ => False
    | .land => match st with
      | .inr (.inl b) :: .inr (.inl a) :: st => C (pc + 1) lv (vL (a &&& b) :: st) h kc ks
      | _ => False
    | .lor => match st with
      | .inr (.inl b) :: .inr (.inl a) :: st => C (pc + 1) lv (vL (a ||| b) :: st) h kc ks
      | _ => False
    | .ldiv => match st with
      | .inr (.inl b) :: .inr (.inl a) :: st => ¬ b = 0 ∧ C (pc + 1) lv (vL (a / b) :: st) h kc ks
      | _ => False
    | .lrem => match st with
      | .inr (.inl b) :: .inr (.inl a) :: st => ¬ b = 0 ∧ C (pc + 1) lv (vL (a - a / b * b) :: st) h kc ks
      | _ => False
    | .lshl => match st with
      | .inl b :: .inr (.inl a) :: st => C (pc + 1) lv (vL (a <<< (b.toInt64 &&& 63)) :: st) h kc ks
      | _ => False
    | .lshr => match st with
      | .inl b :: .inr (.inl a) :: st => C (pc + 1) lv (vL (a >>> (b.toInt64 &&& 63)) :: st) h kc ks
      | _ => False
    | .lushr => match st with
      | .inl b :: .inr (.inl a) :: st => C (pc + 1) lv (vL ((a.toUInt64 >>> (b.toInt64.toUInt64 &&& Int64.toUInt64 63)).toInt64) :: st) h kc ks
      | _ => False
    | .lcmp => match st with
      | .inr (.inl b) :: .inr (.inl a) :: st => C (pc + 1) lv (vI (lg_cmp a b) :: st) h kc ks
      | _ => False
    | .i2l => match st with
      | .inl a :: st => C (pc + 1) lv (vL a.toInt64 :: st) h kc ks
      | _ => False
    | .l2i => match st with
      | .inr (.inl a) :: st => C (pc + 1) lv (vI a.toInt32 :: st) h kc ks
      | _ => False
    | .i2b => match st with
      | .inl a :: st => C (pc + 1) lv (vI a.toInt8.toInt32 :: st) h kc ks
      | _ => False
    | .dup => match st with
      | v :: st => mm_c2 v = false ∧ C (pc + 1) lv (v :: v :: st) h kc ks
      | _ => False
    | .dup2 => match st with
      | v :: w :: st => mm_c2 v = false ∧ mm_c2 w = false ∧ C (pc + 1) lv (v :: w :: v :: w :: st) h kc ks
      | _ => False
    | .pop => match st with
      | v :: st => mm_c2 v = false ∧ C (pc + 1) lv st h kc ks
      | _ => False
    | .goto _ => C r1 lv st h kc ks
    | .if_icmp cd _ => match st with
      | .inl b :: .inl a :: st => match cd with
        | .eq => (a = b → C r1 lv st h kc ks) ∧ (¬ a = b → C (pc + 3) lv st h kc ks)
        | .ne => (¬ a = b → C r1 lv st h kc ks) ∧ (a = b → C (pc + 3) lv st h kc ks)
        | .lt => (a < b → C r1 lv st h kc ks) ∧ (¬ a < b → C (pc + 3) lv st h kc ks)
        | .ge => (b ≤ a → C r1 lv st h kc ks) ∧ (¬ b ≤ a → C (pc + 3) lv st h kc ks)
        | .gt => (b < a → C r1 lv st h kc ks) ∧ (¬ b < a → C (pc + 3) lv st h kc ks)
        | .le => (a ≤ b → C r1 lv st h kc ks) ∧ (¬ a ≤ b → C (pc + 3) lv st h kc ks)
      | _ => False
    | .ifCond cd _ => match st with
      | .inl a :: st => match cd with
        | .eq => (a = 0 → C r1 lv st h kc ks) ∧ (¬ a = 0 → C (pc + 3) lv st h kc ks)
        | .ne => (¬ a = 0 → C r1 lv st h kc ks) ∧ (a = 0 → C (pc + 3) lv st h kc ks)
        | .lt => (a < 0 → C r1 lv st h kc ks) ∧ (¬ a < 0 → C (pc + 3) lv st h kc ks)
        | .ge => (0 ≤ a → C r1 lv st h kc ks) ∧ (¬ 0 ≤ a → C (pc + 3) lv st h kc ks)
        | .gt => (0 < a → C r1 lv st h kc ks) ∧ (¬ 0 < a → C (pc + 3) lv st h kc ks)
        | .le => (a ≤ 0 → C r1 lv st h kc ks) ∧ (¬ a ≤ 0 → C (pc + 3) lv st h kc ks)
      | _ => False
    | .ifnonnull _ => match st with
      | .inr (.inr (.inl none)) :: st => C (pc + 3) lv st h kc ks
      | .inr (.inr (.inl (some _))) :: st => C r1 lv st h kc ks
      | _ => False
    | .tableswitch _ _ _ _ => match st with
      | .inl a :: st => ts.length ≤ 1000 ∧ mm_sw (fun t => C t lv st h kc ks) a r1 0 ts
      | _ => False
    | .getfield _ => match st with
      | .inr (.inr (.inl (some k))) :: st => match h.2 k with
        | some (.inr (.inr (ci, fs))) => ci = r1 ∧ (match fs[r2]? with
          | some v => C (pc + 3) lv (v :: st) h kc ks
          | none => False)
        | _ => False
      | _ => False
    | .putfield _ => match st with
      | v :: .inr (.inr (.inl (some k))) :: st => match h.2 k with
        | some (.inr (.inr (ci, fs))) => ci = r1 ∧ r2 < fs.length ∧ mm_fit (mm_ft r1 r2) v ∧ C (pc + 3) lv st (mm_up h k (cO ci (fs.set r2 v))) kc ks
        | _ => False
      | _ => False
    | .getstatic _ => C (pc + 3) lv (vT r1 :: st) h kc ks
    | .iaload => match st with
      | .inl i :: .inr (.inr (.inl (some k))) :: st => match h.2 k with
        | some (.inl (.int, n, f)) => vp_in i n ∧ C (pc + 1) lv (vI (f i.toNatClampNeg) :: st) h kc ks
        | _ => False
      | .inl i :: .inr (.inr (.inr t)) :: st => vp_in i (tb t).1 ∧ C (pc + 1) lv (vI ((tb t).2 i.toNatClampNeg) :: st) h kc ks
      | _ => False
    | .baload => match st with
      | .inl i :: .inr (.inr (.inl (some k))) :: st => match h.2 k with
        | some (.inl (.byte, n, f)) => vp_in i n ∧ C (pc + 1) lv (vI (f i.toNatClampNeg) :: st) h kc ks
        | some (.inl (.boolean, n, f)) => vp_in i n ∧ C (pc + 1) lv (vI (f i.toNatClampNeg) :: st) h kc ks
        | _ => False
      | _ => False
    | .aaload => match st with
      | .inl i :: .inr (.inr (.inl (some k))) :: st => match h.2 k with
        | some (.inr (.inl (ci, n, f))) => (ci = 1 ∨ ci = 5) ∧ vp_in i n ∧ C (pc + 1) lv (.inr (.inr (.inl (f i.toNatClampNeg))) :: st) h kc ks
        | _ => False
      | _ => False
    | .iastore => match st with
      | .inl v :: .inl i :: .inr (.inr (.inl (some k))) :: st => match h.2 k with
        | some (.inl (.int, n, f)) => vp_in i n ∧ C (pc + 1) lv st (mm_up h k (cI n (upd f i.toNatClampNeg v))) kc ks
        | _ => False
      | _ => False
    | .bastore => match st with
      | .inl v :: .inl i :: .inr (.inr (.inl (some k))) :: st => match h.2 k with
        | some (.inl (.byte, n, f)) => vp_in i n ∧ C (pc + 1) lv st (mm_up h k (.inl (.byte, n, upd f i.toNatClampNeg (vp_nar .byte v)))) kc ks
        | some (.inl (.boolean, n, f)) => vp_in i n ∧ C (pc + 1) lv st (mm_up h k (.inl (.boolean, n, upd f i.toNatClampNeg (vp_nar .boolean v)))) kc ks
        | _ => False
      | _ => False
    | .aastore => match st with
      | .inr (.inr (.inl (some v))) :: .inl i :: .inr (.inr (.inl (some k))) :: st => match h.2 k, h.2 v with
        | some (.inr (.inl (ci, n, f))), some (.inr (.inr (cj, _))) => ci = cj ∧ (ci = 1 ∨ ci = 5) ∧ vp_in i n ∧ C (pc + 1) lv st (mm_up h k (cQ ci n (va_up f i.toNatClampNeg (some v)))) kc ks
        | _, _ => False
      | _ => False
    | .arraylength => match st with
      | .inr (.inr (.inl (some k))) :: st => match h.2 k with
        | some (.inl (.int, n, _)) => C (pc + 1) lv (vI (Int32.ofNat n) :: st) h kc ks
        | some (.inl (.byte, n, _)) => C (pc + 1) lv (vI (Int32.ofNat n) :: st) h kc ks
        | _ => False
      | .inr (.inr (.inr t)) :: st => C (pc + 1) lv (vI (Int32.ofNat (tb t).1) :: st) h kc ks
      | _ => False
    | .newarray ty => match st with
      | .inl n :: st => ¬ n < 0 ∧ n.toNatClampNeg ≤ 1000 ∧ 1 ≤ kc ∧ n.toNatClampNeg ≤ ks ∧ C (pc + 2) lv (vR h.1 :: st) (mm_al h (.inl (newarray.typeOf ty, n.toNatClampNeg, fun _ => 0))) (kc - 1) (ks - n.toNatClampNeg)
      | _ => False
    | .anewarray _ => match st with
      | .inl n :: st => ¬ n < 0 ∧ n.toNatClampNeg ≤ 1000 ∧ 1 ≤ kc ∧ n.toNatClampNeg ≤ ks ∧ C (pc + 3) lv (vR h.1 :: st) (mm_al h (cQ r1 n.toNatClampNeg (fun _ => none))) (kc - 1) (ks - n.toNatClampNeg)
      | _ => False
    | .new _ => 1 ≤ kc ∧ mm_nf r1 ≤ ks ∧ C (pc + 3) lv (vR h.1 :: st) (mm_al h (cO r1 (mm_df r1))) (kc - 1) (ks - mm_nf r1)
    | .invokespecial _ => if r1 = 1000 then (match st with
        | .inr (.inr (.inl (some _))) :: st => st.length ≤ 4 ∧ C (pc + 3) lv st h kc ks
        | _ => False)
      else (match (st.take r2).reverse with
        | .inr (.inr (.inl (some _))) :: _ => True
        | _ => False) ∧ mm_call call C r1 r2 pc lv st h kc ks
    | .invokevirtual _ => (match (st.take r2).reverse with
        | .inr (.inr (.inl (some k))) :: _ => (match h.2 k with
          | some (.inr (.inr (ci, _))) => mm_cn ci = (mm_mi r1).1.cls
          | _ => False)
        | _ => False) ∧ mm_call call C r1 r2 pc lv st h kc ks
    | .invokestatic _ => if r1 = 1001 then (match st with
        | .inl n :: .inl dp :: .inr (.inr (.inl (some d))) :: .inl sp :: .inr (.inr (.inl (some s))) :: st => match h.2 s, h.2 d with
          | some (.inl (.int, n0, f)), some (.inl (.int, n1, g)) => st.length ≤ 4 ∧ ¬ sp < 0 ∧ ¬ dp < 0 ∧ ¬ n < 0 ∧ sp.toNatClampNeg + n.toNatClampNeg ≤ n0 ∧ dp.toNatClampNeg + n.toNatClampNeg ≤ n1 ∧ C (pc + 3) lv st (mm_up h d (cI n1 (va_cpy f g sp.toNatClampNeg dp.toNatClampNeg n.toNatClampNeg))) kc ks
          | _, _ => False
        | _ => False)
      else mm_call call C r1 r2 pc lv st h kc ks
    | .ireturn => match st with
      | [.inl v] => (match rt with
        | some .boolean => (v = 0 ∨ v = 1)
        | some .int => True
        | _ => False) ∧ Q (some (vI v)) h
      | _ => False
    | .lreturn => match st with
      | [.inr (.inl v)] => rt = some .long ∧ Q (some (vL v)) h
      | _ => False
    | .return_ => match st with
      | [] => rt = none ∧ Q none h
      | _ => False
    | _ => False
def mm_rw (l : List (Nat × RW)) (pc : Nat) : Option RW := (l.find? (fun q => q.1 == pc)).map (fun q => q.2)
/-- which sets of places the machine's rule closes -/
def mm_cl (rw : Nat → Option RW) (rt : Option FieldType) (tb : Nat → Nat × (Nat → Int32)) (call : CO) (Q : AQ) (C : CP) : Prop :=
  (∀ pc lv st h kc ks, mm_step rw rt tb call Q C pc lv st h kc ks → C pc lv st h kc ks) ∧ ∀ pc lv lv' st h kc ks, (∀ q ∈ lv', q ∈ lv) → C pc lv' st h kc ks → C pc lv st h kc ks
/-- from here the method comes to its end, and there Q -/
def WP (rw : Nat → Option RW) (rt : Option FieldType) (tb : Nat → Nat × (Nat → Int32)) (call : CO) (Q : AQ) : CP := fun pc lv st h kc ks => ∀ C : CP, mm_cl rw rt tb call Q C → C pc lv st h kc ks
def mm_args : Nat → List AV → AL
  | _, [] => []
  | i, v :: vs => (i, v) :: mm_args (if mm_c2 v = true then i + 2 else i + 1) vs
def mm_sl (as : List AV) : Nat := (as.map (fun v => if mm_c2 v = true then 2 else 1)).sum
/-- a method's promise, calls no deeper than d -/
def WM (tb : Nat → Nat × (Nat → Int32)) : Nat → CO
  | 0 => fun _ _ _ _ _ _ => False
  | d + 1 => fun md as h mc ms Q => as.length = (mm_mi md).2.2.2.2.1 ∧ mm_sl as ≤ (mm_mi md).2.2.1 ∧ WP (mm_rw (mm_mi md).2.2.2.2.2) (mm_mi md).2.2.2.1 tb (WM tb d) Q 0 (mm_args 0 as) [] h mc ms
