/-! THE CLAIM OUT OF ONE WALK OF THE LAW'S BODY. Your part is whole_start (and what it stands on); all else here is the same for every law, but numbers. -/
def R_law : String := "BesideBookLaw"
def lw_P (b : Addr) (xs : List Int32) (args : Array Value) (s : State) : Prop := args = #[.ref b] ∧ s.IntsAt b xs ∧ xs.length ≤ 3072 ∧ (Jvm.Cond.and given_1 narrow_1).before args s = true
def lw_Q (_ : Array Value) (s : State) (o : Outcome) (t : State) : Prop := o = .returned (some (.int 1)) ∧ Framed s o t [] 600000 7302250
def lw_Z (below : List Frame) (a : Array Value) (s : State) : State → Prop := fun t => ∃ o, t.status = .running ∧ Ended t below o ∧ lw_Q a s o t
/-- the law's own end, with 1 on the stack, nothing written that was there before, its room as the claim has it -/
theorem lw_ret {p : Program} {l : Launch} {e : Env} {s : State} {m : MethodId} {below : List Frame} {meth : Method} {c : Code} {b : Nat} (hx : p.tables.exec = Jvm.exec) (hb : c.code = code) (hr : meth.sig.returnType = ret) (hlocks : meth.locks = false) {pc : Nat} {H : Heap} {ls : Array Slot} (hdg : decode code pc = .ok (.ireturn, 1)) : W p l e room_1 s m #[Value.ref b] below meth c H [] 600000 7302250 (lw_Z below #[Value.ref b] s) (F0 m pc ls [.int 1]) := by
  intro T hT X
  obtain ⟨fs, hret, hrun, hended, hW, hframe⟩ := X.leave (v := some (.int 1)) (hlocks := hlocks) (fun h => by rw [hr] at h; cases h)
  have hmeth' : T.vm.method? m = some meth := X.method'
  refine ⟨T.setFrames fs, ?_, .returned (some (.int 1)), hrun, hended, rfl, ⟨_, rfl⟩, hW, hframe⟩
  jvm_step X.here [X.here.top, hx, hb, hdg, hmeth', hr, ret, narrow_b1]
  (try refine ⟨rfl, ?_⟩); (try refine ⟨rfl, ?_⟩)
  first | (intro acts; rw [hret _ acts rfl rfl rfl]) | rw [hret _ _ rfl rfl rfl]
  exact Steps.refl _
/-- what holds at the law's entry: the machine, the code, the tables' words (any of lw_tbl by 'hts w (by decide +kernel)'), the script of L ints xs at the cell b, what the Statement gives of the start (any of its parts by flat_of_before) -/
def lw_At (p : Program) (s : State) (m : MethodId) (meth : Method) (c : Code) (b L : Nat) (xs : Nat → Int32) : Prop :=
  p.tables.exec = Jvm.exec ∧ c.code = code ∧ meth.sig.returnType = ret ∧ c.maxLocals = 4 ∧ s.vm.findClass R_law = some m.cls ∧ (∀ w ∈ lw_tbl, w.before #[Value.ref b] s = true) ∧ va_X b L xs s s.heap ∧ b < s.heap.size ∧ meth.locks = false ∧ (Jvm.Cond.and given_1 narrow_1).before #[Value.ref b] s = true
/-- the arrays that are given: TENS, FACTORIALS, the script -/
theorem mm_arrK {args : Array Value} {s : State} {ty : FieldType} (h : (Cond.arrayClass ty).before args s = true) : ∃ (cA : ClassId) (kA : Class) (comp : ClassId), s.vm.findClass ("[" ++ ty.toString) = some cA ∧ s.vm.classes[cA]? = some kA ∧ kA.kind = .array comp ty := by
  have := Cond.arrayClass_spec h
  exact this
theorem mm_tens {args : Array Value} {s : State} {A : Nat → Prop} (hg : ∀ c ∈ flatC (Jvm.Cond.and given_1 narrow_1), c.before args s = true) (hA : ∀ a : Nat, a < s.heap.size → ¬ A a) : ∃ t : Nat, (Term.static "BesideBook" "TENS" "[I").eval args s none [] s = some (.ref t) ∧ va_T .int t 9 (fun j => .int (mm_T j)) A s s.heap := by
  refine va_Tof (N := 9) (by decide) (hg (.arrayOf (.static "BesideBook" "TENS" "[I") .int) (by decide +kernel)) (va_eqt (hg (.eq (.length (.static "BesideBook" "TENS" "[I")) (.int 9)) (by decide +kernel))) ?_ hA
  intro j hj
  match j, hj with
  | 0, _ => exact va_eqt (hg (.eq (.elem (.static "BesideBook" "TENS" "[I") (.int 0)) (.int 1)) (by decide +kernel))
  | 1, _ => exact va_eqt (hg (.eq (.elem (.static "BesideBook" "TENS" "[I") (.int 1)) (.int 10)) (by decide +kernel))
  | 2, _ => exact va_eqt (hg (.eq (.elem (.static "BesideBook" "TENS" "[I") (.int 2)) (.int 100)) (by decide +kernel))
  | 3, _ => exact va_eqt (hg (.eq (.elem (.static "BesideBook" "TENS" "[I") (.int 3)) (.int 1000)) (by decide +kernel))
  | 4, _ => exact va_eqt (hg (.eq (.elem (.static "BesideBook" "TENS" "[I") (.int 4)) (.int 10000)) (by decide +kernel))
  | 5, _ => exact va_eqt (hg (.eq (.elem (.static "BesideBook" "TENS" "[I") (.int 5)) (.int 100000)) (by decide +kernel))
  | 6, _ => exact va_eqt (hg (.eq (.elem (.static "BesideBook" "TENS" "[I") (.int 6)) (.int 1000000)) (by decide +kernel))
  | 7, _ => exact va_eqt (hg (.eq (.elem (.static "BesideBook" "TENS" "[I") (.int 7)) (.int 10000000)) (by decide +kernel))
  | 8, _ => exact va_eqt (hg (.eq (.elem (.static "BesideBook" "TENS" "[I") (.int 8)) (.int 100000000)) (by decide +kernel))
theorem mm_facs {args : Array Value} {s : State} {A : Nat → Prop} (hg : ∀ c ∈ flatC (Jvm.Cond.and given_1 narrow_1), c.before args s = true) (hA : ∀ a : Nat, a < s.heap.size → ¬ A a) : ∃ t : Nat, (Term.static "BesideBook" "FACTORIALS" "[I").eval args s none [] s = some (.ref t) ∧ va_T .int t 9 (fun j => .int (mm_F j)) A s s.heap := by
  refine va_Tof (N := 9) (by decide) (hg (.arrayOf (.static "BesideBook" "FACTORIALS" "[I") .int) (by decide +kernel)) (va_eqt (hg (.eq (.length (.static "BesideBook" "FACTORIALS" "[I")) (.int 9)) (by decide +kernel))) ?_ hA
  intro j hj
  match j, hj with
  | 0, _ => exact va_eqt (hg (.eq (.elem (.static "BesideBook" "FACTORIALS" "[I") (.int 0)) (.int 1)) (by decide +kernel))
  | 1, _ => exact va_eqt (hg (.eq (.elem (.static "BesideBook" "FACTORIALS" "[I") (.int 1)) (.int 1)) (by decide +kernel))
  | 2, _ => exact va_eqt (hg (.eq (.elem (.static "BesideBook" "FACTORIALS" "[I") (.int 2)) (.int 2)) (by decide +kernel))
  | 3, _ => exact va_eqt (hg (.eq (.elem (.static "BesideBook" "FACTORIALS" "[I") (.int 3)) (.int 6)) (by decide +kernel))
  | 4, _ => exact va_eqt (hg (.eq (.elem (.static "BesideBook" "FACTORIALS" "[I") (.int 4)) (.int 24)) (by decide +kernel))
  | 5, _ => exact va_eqt (hg (.eq (.elem (.static "BesideBook" "FACTORIALS" "[I") (.int 5)) (.int 120)) (by decide +kernel))
  | 6, _ => exact va_eqt (hg (.eq (.elem (.static "BesideBook" "FACTORIALS" "[I") (.int 6)) (.int 720)) (by decide +kernel))
  | 7, _ => exact va_eqt (hg (.eq (.elem (.static "BesideBook" "FACTORIALS" "[I") (.int 7)) (.int 5040)) (by decide +kernel))
  | 8, _ => exact va_eqt (hg (.eq (.elem (.static "BesideBook" "FACTORIALS" "[I") (.int 8)) (.int 40320)) (by decide +kernel))
/-- the law's start: what the worlds know -/
theorem mm_start {p : Program} {s : State} {m : MethodId} {meth : Method} {c : Code} {b L : Nat} {xs : Nat → Int32} (C0 : lw_At p s m meth c b L xs) : ∃ (sa : Nat → Nat) (ca : FieldType → ClassId) (D : va_G), sa 2 = b ∧ mm_G s.heap.size sa ca D (mm_tbl L xs) s := by
  obtain ⟨hx, hb, hr, hml, hown, hts, hX, hbl, hlocks, hgv⟩ := C0
  have hA : ∀ a : Nat, a < s.heap.size → ¬ (fun q => s.heap.size ≤ q) a := fun a h => Nat.not_le.mpr h
  have hg := flat_of_before _ hgv
  obtain ⟨c0, i0, k0⟩ := u_known (C := RX0) (T := TX0) (N := 5) (n := 5) hts (fun w hw => (List.mem_filter.mp (mm_wsok_in mm_w0 w hw)).1) (hts (.instantiable RX0 5) (mm_has_in (i := 159) (by decide +kernel)))
  obtain ⟨c1, i1, k1⟩ := u_known (C := RX1) (T := TX1) (N := 3) (n := 3) hts (fun w hw => (List.mem_filter.mp (mm_wsok_in mm_w1 w hw)).1) (hts (.instantiable RX1 3) (mm_has_in (i := 135) (by decide +kernel)))
  obtain ⟨c2, i2, k2⟩ := u_known (C := RX2) (T := TX2) (N := 11) (n := 11) hts (fun w hw => (List.mem_filter.mp (mm_wsok_in mm_w2 w hw)).1) (hts (.instantiable RX2 11) (mm_has_in (i := 183) (by decide +kernel)))
  obtain ⟨c3, i3, k3⟩ := u_known (C := RX3) (T := TX3) (N := 4) (n := 4) hts (fun w hw => (List.mem_filter.mp (mm_wsok_in mm_w3 w hw)).1) (hts (.instantiable RX3 4) (mm_has_in (i := 229) (by decide +kernel)))
  obtain ⟨c4, i4, k4⟩ := u_known (C := RX4) (T := TX4) (N := 7) (n := 7) hts (fun w hw => (List.mem_filter.mp (mm_wsok_in mm_w4 w hw)).1) (hts (.instantiable RX4 7) (mm_has_in (i := 71) (by decide +kernel)))
  obtain ⟨c5, i5, k5⟩ := u_known (C := RX5) (T := TX5) (N := 2) (n := 2) hts (fun w hw => (List.mem_filter.mp (mm_wsok_in mm_w5 w hw)).1) (hts (.instantiable RX5 2) (mm_has_in (i := 77) (by decide +kernel)))
  obtain ⟨c6, i6, k6⟩ := u_known (C := RX6) (T := TX6) (N := 7) (n := 7) hts (fun w hw => (List.mem_filter.mp (mm_wsok_in mm_w6 w hw)).1) (hts (.instantiable RX6 7) (mm_has_in (i := 484) (by decide +kernel)))
  obtain ⟨c7, i7, k7⟩ := u_known (C := RX7) (T := TX7) (N := 14) (n := 14) hts (fun w hw => (List.mem_filter.mp (mm_wsok_in mm_w7 w hw)).1) (hts (.instantiable RX7 14) (mm_has_in (i := 63) (by decide +kernel)))
  obtain ⟨c8, i8, k8⟩ := u_known (C := RX8) (T := TX8) (N := 42) (n := 42) hts (fun w hw => (List.mem_filter.mp (mm_wsok_in mm_w8 w hw)).1) (hts (.instantiable RX8 42) (mm_has_in (i := 725) (by decide +kernel)))
  have hD : ∃ (D : va_G), ∀ (k : Nat) (q : vw_C), vwCl[k]? = some q → u_Kn s q.1 q.2.1 q.2.2 (D.1 k) (D.2 k) := by
    refine ⟨(fun k => match k with | 0 => c0 | 1 => c1 | 2 => c2 | 3 => c3 | 4 => c4 | 5 => c5 | 6 => c6 | 7 => c7 | _ => c8, fun k => match k with | 0 => i0 | 1 => i1 | 2 => i2 | 3 => i3 | 4 => i4 | 5 => i5 | 6 => i6 | 7 => i7 | _ => i8), ?_⟩
    intro k q hq
    match k, hq with
    | 0, hq => cases hq; exact k0
    | 1, hq => cases hq; exact k1
    | 2, hq => cases hq; exact k2
    | 3, hq => cases hq; exact k3
    | 4, hq => cases hq; exact k4
    | 5, hq => cases hq; exact k5
    | 6, hq => cases hq; exact k6
    | 7, hq => cases hq; exact k7
    | 8, hq => cases hq; exact k8
    | k + 9, hq => simp [vwCl] at hq
  obtain ⟨D, hD⟩ := hD
  obtain ⟨aI, kI, mI, q1, q2, q3⟩ := mm_arrK (hts (.arrayClass .int) (mm_has_in (i := 96) (by decide +kernel)))
  obtain ⟨aB, kB, mB, r1, r2, r3⟩ := mm_arrK (hts (.arrayClass .byte) (mm_has_in (i := 95) (by decide +kernel)))
  obtain ⟨aZ, kZ, mZ, s1, s2, s3⟩ := mm_arrK (hts (.arrayClass .boolean) (mm_has_in (i := 857) (by decide +kernel)))
  have oD := hts (.arrayOver (.object "BesideBook$Desk")) (mm_has_in (i := 181) (by decide +kernel))
  have oR := hts (.arrayOver (.object "BesideBook$Row")) (mm_has_in (i := 189) (by decide +kernel))
  obtain ⟨mD, aD, kD, t1, t2, t3, t4, t5⟩ := Cond.arrayOver_spec oD
  obtain ⟨mR, aR, kR, u1, u2, u3, u4, u5⟩ := Cond.arrayOver_spec oR
  obtain ⟨tT, eT, hT⟩ := mm_tens (A := fun q => s.heap.size ≤ q) hg hA
  obtain ⟨tF, eF, hF⟩ := mm_facs (A := fun q => s.heap.size ≤ q) hg hA
  obtain ⟨scr, x1, x2, x3, x4, x5⟩ := hX
  refine ⟨fun t => match t with | 0 => tT | 1 => tF | _ => b, fun ty => match ty with | .int => aI | .byte => aB | .boolean => aZ | .object n => if n = "BesideBook$Desk" then aD else aR | _ => 0, D, rfl, ⟨hD, ?_⟩, ?_, ?_, ?_, va_AO.of oD, va_AO.of oR⟩
  · intro k q hq
    match k, hq with
    | 0, hq => cases hq; exact ⟨fun n z => ⟨fun k h => (by cases h), kI, q2, mI, q3⟩, q1⟩
    | 1, hq => cases hq; exact ⟨fun n z => ⟨fun k h => (by cases h), kB, r2, mB, r3⟩, r1⟩
    | 2, hq => cases hq; exact ⟨fun n z => ⟨fun k h => (by cases h), kZ, s2, mZ, s3⟩, s1⟩
    | 3, hq => cases hq; exact ⟨fun n z => ⟨fun k h => (by cases h), kD, t3, mD, t4⟩, ⟨kD, mD, t3, t4, t1, t5⟩⟩
    | 4, hq => cases hq; exact ⟨fun n z => ⟨fun k h => (by cases h), kR, u3, mR, u4⟩, ⟨kR, mR, u3, u4, u1, u5⟩⟩
    | k + 5, hq => simp at hq
  · intro t
    match t with
    | 0 => exact hT
    | 1 => exact hF
    | t + 2 => exact ⟨scr, x1, x2, x3, by rw [x4]; exact Nat.le_refl _, by rw [x4]; rfl, x5, hA b hbl⟩
  · intro t ht
    match t, ht with
    | 0, _ => exact va_Zof (hts (.laysStatic "BesideBook" "TENS" "[I") (mm_has_in (i := 451) (by decide +kernel))) (hts (.initialized "BesideBook") (mm_has_in (i := 50) (by decide +kernel))) eT hA
    | 1, _ => exact va_Zof (hts (.laysStatic "BesideBook" "FACTORIALS" "[I") (mm_has_in (i := 635) (by decide +kernel))) (hts (.initialized "BesideBook") (mm_has_in (i := 50) (by decide +kernel))) eF hA
  · intro w hw hn
    have h := hts w hw
    cases w <;> first | exact va_Nw.of rfl h | (simp [mm_isN] at hn; done)
set_option maxHeartbeats 4000000 in
theorem whole_start {p : Program} {e : Env} {s : State} {m : MethodId} {below : List Frame} {meth : Method} {c : Code} (l : Launch) {b L : Nat} {xs : Nat → Int32} (hL : L ≤ 3072) (C0 : lw_At p s m meth c b L xs) : W p l e room_1 s m #[Value.ref b] below meth c s.heap [] 0 0 (lw_Z below #[Value.ref b] s) (entryFrame m ([Value.ref b] : List Value).toArray 4) := by
  obtain ⟨sa, ca, D, hsa, hG⟩ := mm_start C0
  subst hsa
  obtain ⟨hx, hb, hr, hml, hown, hts, hX, hbl, hlocks, hgv⟩ := C0
  have hw := (law_ok L xs hL).2.2
  have X : mm_Ctx s.heap.size sa ca D (mm_tbl L xs) p room_1 s m #[Value.ref (sa 2)] meth c k_L_law lw_tbl 30 := ⟨hx, hb, hml, hown, hts, fun w hw => (List.mem_filter.mp hw).1, fun z => absurd z (by decide), hG, Nat.le_refl _, by decide, by decide⟩
  · rw [lg_entry_eq]
    have hl := lv_entry ([vT 2].map (mm_v s.heap.size sa)) (n := 4) (by rw [mm_sl_eq]; decide)
    rw [mm_args_eq] at hl
    have hR : mm_RL s.heap.size sa ca D mm_h0 s.heap := ⟨rfl, fun k c h => by cases h⟩
    refine hw _ (mm_close (mc := 600000) (ms := 7302250) mm_tab_ok X (Nat.le_refl _) (Nat.le_refl _) (mm_met mm_tab_ok l _ sa ca D _ 30) ?_ ?_ ?_) s.heap [] 0 0 _ hR va_S.rf hl (by omega) (by omega)
    · intro H locs cells slots ls pc v h hdg hrt hQ hR hS h1 h2
      have hv : v = 1 := by cases hQ; rfl
      subst hv
      refine va_forget (fun q hq => hS.2.2 q hq) ?_
      refine W.widen (k := 600000) (n := 7302250) h1 h2 ?_
      exact lw_ret hx hb hr hlocks hdg
    · intro H locs cells slots ls pc v h hdg hrt
      exact absurd hrt (by decide)
    · intro H locs cells slots ls pc st h hdg hrt
      exact absurd hrt (by decide)
-- ===== YOUR PART ENDS =====
set_option maxHeartbeats 4000000 in
theorem lw_walk (l : Launch) (b : Addr) (xs : List Int32) : MetFree l x (headSpec (Jvm.Cond.code x code maxLocals ret :: tables_1) room_1) (lw_P b xs) (fun _ _ _ _ _ => True) lw_Q := by
  refine MetFree.of_bodyS (code := code) (maxLocals := maxLocals) (ret := ret) (by decide) ?_ ?_
  · intro args s m h hn
    obtain ⟨meth, c, h1, h2, h3, h4, h5, h6, -, -⟩ := Cond.code_spec hn (atoms_spec (ws := Jvm.Cond.code x code maxLocals ret :: tables_1) h _ List.mem_cons_self)
    exact ⟨meth, c, h1, h2, h3, h4, h5, h6⟩
  · intro p e s m args below meth c s₁ B hml0 hP _
    obtain ⟨rfl, hx, hbd, hgv⟩ := hP
    obtain ⟨scr, harrAt, hlist, hof, hsmall⟩ := hx
    obtain ⟨hcb, hkn, -, -⟩ := State.arrayAt?_spec harrAt
    have hown : s.vm.findClass R_law = some m.cls := findClass_of_methodNamed B.named
    have hts0 : ∀ c ∈ (Jvm.Cond.code x code maxLocals ret :: tables_1), c.before #[Value.ref b] s = true := atoms_spec (ws := Jvm.Cond.code x code maxLocals ret :: tables_1) B.pre
    have hts : ∀ w ∈ lw_tbl, w.before #[Value.ref b] s = true := k2_hts_sels lw_privs (fun w hw => hts0 w (List.mem_cons_of_mem _ hw)) lw_privs_ok
    have hml : c.maxLocals = 4 := B.maxLocals_eq (hts0 _ List.mem_cons_self)
    have X₀ : Stand p l e room_1 s m #[Value.ref b] below meth c s₁ [] 0 0 := Stand.of_body B
    have hh0 : s₁.heap = s.heap := by rw [B.state]; rfl
    have hsz : scr.slots.size = xs.length := by rw [← Array.length_toList, hlist, List.length_map]
    have hval : ∀ j : Nat, j < xs.length → scr.slots[j]? = some (.int (xs.getD j 0)) := fun j hj => by
      rw [← Array.getElem?_toList, hlist]
      simp [hj]
    have hbl : b < s.heap.size := (Array.getElem?_eq_some_iff.mp hcb).1
    have hX : va_X b xs.length (fun j => xs.getD j 0) s s.heap := ⟨scr, hcb, hof, hkn, hsz, hval⟩
    have K : W p l e room_1 s m #[Value.ref b] below meth c s₁.heap [] 0 0 (lw_Z below #[Value.ref b] s) (entryFrame m ([Value.ref b] : List Value).toArray 4) := by
      rw [hh0]
      exact whole_start l hbd ⟨B.exec, B.bytes, B.returns, hml, hown, hts, hX, hbl, B.notSynchronized, hgv⟩
    obtain ⟨t, a1, o, b1, b2, b3⟩ := K s₁ rfl X₀
    exact ⟨t, o, a1, b1, b2, b3⟩
theorem lw_pre_spec {args : Array Value} {s : State} (h : (Jvm.Cond.and given_1 narrow_1).before args s = true) (hr : rest_1_c.before args s = true) : ∃ (b : Addr) (xs : List Int32), lw_P b xs args s := by
  have hs := flat_of_before _ h
  have hq := flat_of_before _ hr
  have hc : (Cond.count 1).before args s = true := hs _ (by decide +kernel)
  have harr : (Cond.arrayOf (.arg 0) .int).before args s = true := hs _ (by decide +kernel)
  have hle : (Cond.le (.length (.arg 0)) (.int 3072)).before args s = true := hs _ (by decide +kernel)
  have hlen : (Cond.isInt (.length (.arg 0))).before args s = true := hq _ (by decide +kernel)
  have hall : (Cond.all (.arg 0) (.isInt (.elem (.arg 0) (.index 0)))).before args s = true := hq _ (by decide +kernel)
  obtain ⟨b, xs, hb, hx⟩ := State.ints_of_pre rfl harr hlen hall
  have hsm : xs.length < 2 ^ 31 := hx.choose_spec.2.2.2
  have hev : (Term.length (.arg 0)).eval args s none [] s = some (.int xs.length.toInt32) := hx.length_eval hb
  have hv := Cond.le_ints hev (show (Term.int 3072).eval args s none [] s = some (.int 3072) from rfl)
  have hd : xs.length.toInt32 ≤ 3072 := by
    simpa [Cond.before, Cond.holds, hv] using hle
  have hN : xs.length ≤ 3072 := (Int32.ofNat_le_ofNat hsm (by decide)).mp (show Int32.ofNat xs.length ≤ Int32.ofNat 3072 from hd)
  exact ⟨b, xs, Cond.one_arg hc (show args[0]? = some (.ref b) from hb), hx, hN, h⟩
theorem lw_comes (l : Launch) : Comes l x (Jvm.Cond.code x code maxLocals ret :: tables_1) room_1 (fun tb e args s => Calls_1 tb e args s ∧ rest_1 tb e args s ∧ Pre_1 tb e args s)
    (fun _ _ args s o t => lw_Q args s o t) := by
  intro p e ha hc hk s m args below hf hfit hheap happ hpre
  obtain ⟨b, xs, hP⟩ := lw_pre_spec hpre.2.2 hpre.2.1
  obtain ⟨k, o, h1, h2, h3, hQ⟩ := lw_walk l b xs p e ha hc hk s m args below hf ((Spec.applies_iff_loose hf).mp happ).1 hP trivial
  exact ⟨k, o, h1, h2, h3, hQ⟩
theorem lw_frame {s t : State} {o : Outcome} {args : Array Value} (h : Framed s o t [] 600000 7302250) :
    Framed s o t (fieldLocs frame_1_writes args s ++ arrayLocs frame_1_arrays args s ++ staticLocs frame_1_statics s) 600000 7302250 := h
theorem lw_limb (L : Cond) (hL : ∀ (args : Array Value) (s t : State), L.after args s (.returned (some (.int 1))) t = true) :
    ArmFor flags0 classFile x code maxLocals ret World_1 tables_1 room_1 Calls_1 rest_1 Pre_1
      (fun tb e a s o t => postC L tb e a s o t ∧ Framed s o t (fieldLocs frame_1_writes a s ++ arrayLocs frame_1_arrays a s ++ staticLocs frame_1_statics s) 600000 7302250) := by
  intro l _ _ _ p e ha hc hk s m args below hf hfit hheap happ hpre
  obtain ⟨k, o, h1, h2, h3, rfl, hF⟩ := lw_comes l p e ha hc hk s m args below hf hfit hheap happ hpre
  exact ⟨k, _, h1, h2, h3, hL args s _, lw_frame hF⟩
theorem i_vc : Claimed_1_1 ∧ Claimed_1_2 := ⟨lw_limb limb_1_1 (fun args s t => by simp [limb_1_1, Cond.after, Cond.holds, Cond.value]), lw_limb limb_1_2 (fun args s t => Cond.after_iff.mpr (by
  first | (rw [show limb_1_2 = Cond.eq .result (.int 1) from rfl, Cond.eq_ints (x := 1) (y := 1) rfl rfl]; simp; done) | (simp [limb_1_2, Cond.value, Term.eval]; done)))⟩
