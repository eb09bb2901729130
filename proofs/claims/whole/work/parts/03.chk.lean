/-! that the rows are what the bytes say, and that the tables hold the words that they need -/
def mm_nf (ci : Nat) : Nat := match vwCl[ci]? with
  | some q => q.2.2
  | none => 0
def mm_cn (ci : Nat) : String := match vwCl[ci]? with
  | some q => q.1
  | none => ""
def mm_has (i : Nat) (w : Cond) : Bool := decide (lw_tbl[i]? = some w)
def mm_sn (t : Nat) : String := if t = 0 then "TENS" else "FACTORIALS"
def mm_br (pc : Nat) (o : Int) (r1 : Nat) : Bool := decide ((pc : Int) + o = (r1 : Int))
def mm_fchk (own : String) (i r1 r2 h0 : Nat) : Bool := match vwCl[r1]? with
  | some (C, T, N) => decide (r2 < N) && (decide ((T r2).1 = C) && mm_has h0 (.fieldLink own i C (T r2).2.1 (T r2).2.2.1))
  | none => false
def mm_pchk (nm own : String) (r1 r2 : Nat) : Bool := match vwCl[r1]? with
  | some (C, T, _) => decide ((T r2).2.2.2 = false) || (decide ((T r2).2.2.2 = true) && (decide (nm = "<init>") && decide (C = own)))
  | none => false
/-- a callee: its names are plain, its parameters are counted -/
def mm_cchk (ce : MI) (np r2 : Nat) : Bool := decide (ce.1.cls ≠ "java/lang/invoke/MethodHandle") && (decide (ce.1.cls ≠ "java/lang/invoke/VarHandle") && (decide ((parseMethodDescriptor ce.1.desc).map (fun d => d.parameters.length) = some np) && decide (ce.2.2.2.2.1 = r2)))
def mm_chk (mi : MI) (q : Nat × RW) : Bool := match q with
  | (pc, ins, ln, r1, r2, x, y, ts, hs) => decide (decode mi.2.1 pc = .ok (ins, ln)) && (match ins with
    | .iconst n => decide (ln = 1) && decide (Int32.ofInt n = x)
    | .bipush n => decide (ln = 2) && decide ((Int8.ofInt n).toInt32 = x)
    | .sipush n => decide (ln = 3) && decide ((Int16.ofInt n).toInt32 = x)
    | .lconst n => decide (ln = 1) && decide (Int64.ofNat n = y)
    | .ldc_w i => decide (ln = 3) && mm_has (hs.getD 0 0) (.constant mi.1.cls i x)
    | .ldc2_w i => decide (ln = 3) && mm_has (hs.getD 0 0) (.constantLong mi.1.cls i y)
    | .iload _ => decide (ln = 2)
    | .lload _ => decide (ln = 2)
    | .aload _ => decide (ln = 2)
    | .istore i => decide (ln = 2) && decide (i < mi.2.2.1)
    | .astore i => decide (ln = 2) && decide (i < mi.2.2.1)
    | .lstore i => decide (ln = 2) && decide (i + 1 < mi.2.2.1)
    | .istore_n i => decide (ln = 1) && decide ((i : Nat) < mi.2.2.1)
    | .astore_n i => decide (ln = 1) && decide ((i : Nat) < mi.2.2.1)
    | .lstore_n i => decide (ln = 1) && decide ((i : Nat) + 1 < mi.2.2.1)
    | .iinc i n => decide (ln = 3) && (decide (Int32.ofInt n = x) && decide (i < mi.2.2.1))
    | .goto o => decide (ln = 3) && mm_br pc o r1
    | .ifnonnull o => decide (ln = 3) && mm_br pc o r1
    | .if_icmp _ o => decide (ln = 3) && mm_br pc o r1
    | .ifCond _ o => decide (ln = 3) && mm_br pc o r1
    | .tableswitch d lo hi offs => decide (lo = 0) && (decide (hi + 1 = (ts.length : Int)) && (mm_br pc d r1 && decide (offs.toList.map (fun o => (pc : Int) + o) = ts.map Int.ofNat)))
    | .getfield i => decide (ln = 3) && mm_fchk mi.1.cls i r1 r2 (hs.getD 0 0)
    | .putfield i => decide (ln = 3) && (mm_fchk mi.1.cls i r1 r2 (hs.getD 0 0) && mm_pchk mi.1.name mi.1.cls r1 r2)
    | .getstatic i => decide (ln = 3) && (decide (r1 < 2) && (if r2 = 0 then mm_has (hs.getD 0 0) (.fieldLink mi.1.cls i "BesideBook" (mm_sn r1) "[I") else mm_has (hs.getD 0 0) (.fieldLinkNest mi.1.cls i "BesideBook" (mm_sn r1) "[I" "BesideBook")))
    | .newarray ty => decide (ln = 2) && (decide (newarray.typeOf ty = .int) || (decide (newarray.typeOf ty = .byte) || decide (newarray.typeOf ty = .boolean)))
    | .anewarray i => decide (ln = 3) && (mm_has (hs.getD 0 0) (.classLink mi.1.cls i (mm_cn r1)) && (decide (r1 = 1) || decide (r1 = 5)))
    | .new i => decide (ln = 3) && (mm_has (hs.getD 0 0) (.classLink mi.1.cls i (mm_cn r1)) && (mm_has (hs.getD 1 0) (.instantiable (mm_cn r1) (mm_nf r1)) && (mm_has (hs.getD 2 0) (.initialized (mm_cn r1)) && decide (r1 < 9))))
    | .invokespecial i => decide (ln = 3) && (if r1 = 1000 then mm_has (hs.getD 0 0) (.methodLink mi.1.cls i objectInit) else
        mm_cchk (mm_mi r1) (r2 - 1) r2 && (decide (0 < r2) && (decide ((mm_mi r1).1.name = "<init>") && (decide ((mm_mi r1).2.2.2.1 = none) && (mm_has (hs.getD 1 0) (.instanceMethod (mm_mi r1).1) && (mm_has (hs.getD 2 0) (.initialized (mm_mi r1).1.cls) && (mm_has (hs.getD 3 0) (.code (mm_mi r1).1 (mm_mi r1).2.1 (mm_mi r1).2.2.1 none) &&
          (if hs.getD 4 0 = 0 then mm_has (hs.getD 0 0) (.methodLink mi.1.cls i (mm_mi r1).1) else mm_has (hs.getD 0 0) (.methodLinkNest mi.1.cls i (mm_mi r1).1 "BesideBook")))))))))
    | .invokevirtual i => decide (ln = 3) && (mm_cchk (mm_mi r1) (r2 - 1) r2 && (decide (0 < r2) && (mm_has (hs.getD 0 0) (.methodLink mi.1.cls i (mm_mi r1).1) && (mm_has (hs.getD 1 0) (.instanceMethod (mm_mi r1).1) && (mm_has (hs.getD 2 0) (.selects (mm_mi r1).1.cls (mm_mi r1).1 (mm_mi r1).1) && (mm_has (hs.getD 3 0) (.initialized (mm_mi r1).1.cls) &&
        mm_has (hs.getD 4 0) (.code (mm_mi r1).1 (mm_mi r1).2.1 (mm_mi r1).2.2.1 (mm_mi r1).2.2.2.1)))))))
    | .invokestatic i => decide (ln = 3) && (if r1 = 1001 then mm_has (hs.getD 0 0) (.methodLink mi.1.cls i arraycopyName) else
        mm_cchk (mm_mi r1) r2 r2 && (mm_has (hs.getD 0 0) (.methodLink mi.1.cls i (mm_mi r1).1) && (mm_has (hs.getD 1 0) (.static (mm_mi r1).1) && (mm_has (hs.getD 2 0) (.initialized (mm_mi r1).1.cls) && mm_has (hs.getD 3 0) (.code (mm_mi r1).1 (mm_mi r1).2.1 (mm_mi r1).2.2.1 (mm_mi r1).2.2.2.1)))))
    | _ => decide (ln = 1))
def mm_all (mi : MI) : Bool := mi.2.2.2.2.2.all (mm_chk mi) && (plainName mi.1.cls && decide (mi.2.2.1 ≤ 16))
