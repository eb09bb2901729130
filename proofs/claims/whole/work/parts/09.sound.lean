/-! THE MINI MACHINE IS SOUND -/
def mm_Ctx (N0 : Nat) (sa : Nat → Nat) (ca : FieldType → ClassId) (D : va_G) (tb : Nat → Nat × (Nat → Int32)) (p : Program) (R : Room) (s : State) (m : MethodId) (args : Array Value) (meth : Method) (c : Code) (md : Nat) (Ts : List Cond) (d : Nat) : Prop :=
  p.tables.exec = Jvm.exec ∧ c.code = (mm_mi md).2.1 ∧ c.maxLocals = (mm_mi md).2.2.1 ∧ s.vm.findClass (mm_mi md).1.cls = some m.cls ∧ (∀ w ∈ Ts, w.before args s = true) ∧ (∀ w ∈ mm_tb, w ∈ Ts) ∧ ((mm_mi md).1.name = "<init>" → meth.name = "<init>") ∧ mm_G N0 sa ca D tb s ∧ N0 ≤ s.heap.size ∧ d + 1 ≤ R.frames ∧ 60 * (d + 1) ≤ R.locals
/-- what the machine does where the mini machine is -/
def mm_C (N0 : Nat) (sa : Nat → Nat) (ca : FieldType → ClassId) (D : va_G) (p : Program) (l : Launch) (e : Env) (R : Room) (s : State) (m : MethodId) (args : Array Value) (below : List Frame) (meth : Method) (c : Code) (nL : Nat) (mc ms : Nat) (Qf : State → Prop) : CP := fun pc lv st h kc ks =>
  ∀ (H : Heap) (locs : List Loc) (cells slots : Nat) (ls : Array Slot), mm_RL N0 sa ca D h H → va_S (fun q => N0 ≤ q) s.heap H locs → lv_has ls nL (mm_lv N0 sa lv) → cells + kc ≤ mc → slots + ks ≤ ms → W p l e R s m args below meth c H locs cells slots Qf (F0 m pc ls (st.map (mm_v N0 sa)))
theorem mm_stk (f : AV → Value) (n : Nat) (st : List AV) : st.map f = ((st.take n).reverse.map f).reverse ++ (st.drop n).map f := by
  rw [List.map_reverse, List.reverse_reverse, ← List.map_append, List.take_append_drop]
theorem mm_words {N0 : Nat} {sa : Nat → Nat} : ∀ (st : List AV), (st.map (mm_v N0 sa)).length ≤ 4 → ((st.map (mm_v N0 sa)).map fun v => v.category).sum ≤ 8 := by
  have key : ∀ st : List AV, ((st.map (mm_v N0 sa)).map fun v => v.category).sum ≤ 2 * st.length := by
    intro st
    induction st with
    | nil => exact Nat.le_refl _
    | cons v st ih =>
      rw [List.map_cons, List.map_cons, List.sum_cons, List.length_cons, mm_cat]
      split <;> omega
  intro st h
  have := key st
  rw [List.length_map] at h
  omega
theorem mm_rows {mi : MI} (hok : mm_all mi = true) {pc : Nat} {r : RW} (h : mm_rw mi.2.2.2.2.2 pc = some r) : mm_chk mi (pc, r) = true := by
  unfold mm_all at hok
  rw [Bool.and_eq_true] at hok
  unfold mm_rw at h
  cases hf : mi.2.2.2.2.2.find? (fun q => q.1 == pc) with
  | none => rw [hf] at h; cases h
  | some q =>
    rw [hf] at h
    cases h
    have h1 : q.1 = pc := by simpa using List.find?_some hf
    rw [← h1]
    exact List.all_eq_true.mp hok.1 q (List.mem_of_find?_eq_some hf)
theorem mm_swOut {C : Nat → Prop} {a : Int32} {d : Nat} : ∀ (ts : List Nat) (lo : Int32), (∀ j : Nat, j < ts.length → ¬ a = lo + Int32.ofNat j) → mm_sw C a d lo ts → C d
  | [], _, _, h => h
  | t :: ts, lo, hn, h => by
    have h0 : ¬ a = lo := by simpa using hn 0 (by simp)
    refine mm_swOut ts (lo + 1) (fun j hj e => ?_) (h.2 h0)
    refine hn (j + 1) (by simpa using hj) ?_
    rw [e, Int32.add_assoc]
    congr 1
    rw [← nI_1 j |> fun z => (show Int32.ofNat j + 1 = Int32.ofNat (j + 1) from z), Int32.add_comm]
theorem mm_swIn {C : Nat → Prop} {a : Int32} {d : Nat} : ∀ (ts : List Nat) (lo : Int32) (j t : Nat), ts[j]? = some t → a = lo + Int32.ofNat j → (∀ i : Nat, i < j → ¬ a = lo + Int32.ofNat i) → mm_sw C a d lo ts → C t
  | [], _, _, _, h, _, _, _ => by simp at h
  | t0 :: ts, lo, 0, t, h, e, _, hs => by
    cases h
    exact hs.1 (by simpa using e)
  | t0 :: ts, lo, j + 1, t, h, e, hn, hs => by
    have h0 : ¬ a = lo := by simpa using hn 0 (by omega)
    refine mm_swIn ts (lo + 1) j t (by simpa using h) ?_ (fun i hi e' => ?_) (hs.2 h0)
    · rw [e, Int32.add_assoc]
      congr 1
      rw [Int32.add_comm]
      exact (nI_1 j).symm
    · refine hn (i + 1) (by omega) ?_
      rw [e', Int32.add_assoc]
      congr 1
      rw [Int32.add_comm]
      exact nI_1 i
theorem mm_i32_of {a : Int32} (h : 0 ≤ a.toInt) : a = Int32.ofNat a.toInt.toNat := by
  apply Int32.toInt_inj.mp
  have h2 : a.toInt < 2 ^ 31 := Int32.toInt_lt a
  rw [show (Int32.ofNat a.toInt.toNat).toInt = ((a.toInt.toNat : Nat) : Int) from nI_toInt (by omega)]
  omega
theorem mm_fitV {N0 : Nat} {sa : Nat → Nat} : ∀ (ty : FieldType) (v : AV), mm_fit ty v → narrow ty (mm_v N0 sa v) = mm_v N0 sa v ∧ fits ty (mm_v N0 sa v) = true
  | .int, .inl _, _ => ⟨rfl, rfl⟩
  | .boolean, .inl a, h => by
    rcases h with rfl | rfl
    · exact ⟨rfl, rfl⟩
    · exact ⟨rfl, rfl⟩
  | .long, .inr (.inl _), _ => ⟨rfl, rfl⟩
  | .object _, .inr (.inr (.inl none)), _ => ⟨rfl, rfl⟩
  | .object _, .inr (.inr (.inl (some _))), _ => ⟨rfl, rfl⟩
  | .array _, .inr (.inr (.inl none)), _ => ⟨rfl, rfl⟩
  | .array _, .inr (.inr (.inl (some _))), _ => ⟨rfl, rfl⟩
theorem mm_dvV {N0 : Nat} {sa : Nat → Nat} (ty : FieldType) (h : ty = .int ∨ ty = .boolean ∨ ty = .long ∨ (∃ n, ty = .object n) ∨ ∃ t, ty = .array t) : defaultValue ty = mm_v N0 sa (mm_dv ty) := by
  rcases h with rfl | rfl | rfl | ⟨n, rfl⟩ | ⟨t, rfl⟩ <;> rfl
section MMS
variable {N0 : Nat} {sa : Nat → Nat} {ca : FieldType → ClassId} {D : va_G} {tb : Nat → Nat × (Nat → Int32)}
variable {p : Program} {l : Launch} {e : Env} {R : Room} {s : State} {m : MethodId} {args : Array Value} {below : List Frame} {meth : Method} {c : Code} {Qf : State → Prop} {md : Nat} {Ts : List Cond} {d mc ms : Nat} {call : CO} {Q : AQ}
/-- what is promised of the callees -/
abbrev mm_Mets (N0 : Nat) (sa : Nat → Nat) (ca : FieldType → ClassId) (D : va_G) (tb : Nat → Nat × (Nat → Int32)) (l : Launch) (d : Nat) (call : CO) : Prop := ∀ (md' : Nat) (as : List AV) (h : AH) (mc ms : Nat) (Q' : AQ), call md' as h mc ms Q' → Met l (mm_mi md').1 (mm_ws (mm_mi md')) (mm_rm d mc ms) (mm_P N0 sa ca D tb as h) (mm_Q N0 sa ca D Q') mc ms (fun q => N0 ≤ q)
theorem mm_pre {h : AH} {H : Heap} {locs : List Loc} (hG : mm_G N0 sa ca D tb s) (hR : mm_RL N0 sa ca D h H) (hS : va_S (fun q => N0 ≤ q) s.heap H locs) (as : List AV) : ∀ U : State, U.heap = H → s.WarmedH U.vm → mm_P N0 sa ca D tb as h (as.map (mm_v N0 sa)).toArray U :=
  fun U hU hW => ⟨rfl, by rw [hU]; exact hR, hG.moved hW (fun a h1 h2 => by rw [hU]; exact hS.2.1 a h1 h2)⟩
/-- the callee's rows -/
theorem mm_callee {md' : Nat} (hok : ∀ mi ∈ mm_tab, mm_all mi = true) : (mm_mi md').2.2.1 ≤ 16 := by
  have h := hok _ (mm_mi_mem md')
  unfold mm_all at h
  simp only [Bool.and_eq_true, decide_eq_true_eq] at h
  exact h.2.2
section CALLS
variable {pc : Nat} {lv : AL} {st : List AV} {h : AH} {kc ks : Nat} {H : Heap} {locs : List Loc} {cells slots : Nat} {ls : Array Slot} {r1 r2 index : Nat}
theorem mm_callV (hok : ∀ mi ∈ mm_tab, mm_all mi = true) (X : mm_Ctx N0 sa ca D tb p R s m args meth c md Ts d) (hRc : mc ≤ R.cells) (hRs : ms ≤ R.slots) (hM : mm_Mets N0 sa ca D tb l d call)
    (hcc : mm_cchk (mm_mi r1) (r2 - 1) r2 = true) (h0 : 0 < r2) (w1 : Cond.methodLink (mm_mi md).1.cls index (mm_mi r1).1 ∈ mm_tb) (w2 : Cond.instanceMethod (mm_mi r1).1 ∈ mm_tb) (w3 : Cond.selects (mm_mi r1).1.cls (mm_mi r1).1 (mm_mi r1).1 ∈ mm_tb) (w4 : Cond.initialized (mm_mi r1).1.cls ∈ mm_tb) (w5 : Cond.code (mm_mi r1).1 (mm_mi r1).2.1 (mm_mi r1).2.2.1 (mm_mi r1).2.2.2.1 ∈ mm_tb)
    (hrecv : match (st.take r2).reverse with
        | .inr (.inr (.inl (some k))) :: _ => (match h.2 k with
          | some (.inr (.inr (ci, _))) => mm_cn ci = (mm_mi r1).1.cls
          | _ => False)
        | _ => False)
    (hs : mm_call call (mm_C N0 sa ca D p l e R s m args below meth c (mm_mi md).2.2.1 mc ms Qf) r1 r2 pc lv st h kc ks) (hR : mm_RL N0 sa ca D h H) (hS : va_S (fun q => N0 ≤ q) s.heap H locs) (hl : lv_has ls (mm_mi md).2.2.1 (mm_lv N0 sa lv)) (hc : cells + kc ≤ mc) (hk : slots + ks ≤ ms) (hdg : decode (mm_mi md).2.1 pc = .ok (.invokevirtual index, 3)) :
    W p l e R s m args below meth c H locs cells slots Qf (F0 m pc ls (st.map (mm_v N0 sa))) := by
  obtain ⟨hx, hb, hml, hown, hts, hTs, hnm, hG, hN, hfr, hlo⟩ := X
  obtain ⟨g1, g2, mc', ms', Rq, g3, g4, g5, g6⟩ := hs
  have h16 := mm_callee (md' := r1) hok
  have hmet := hM _ _ _ _ _ _ g5
  unfold mm_cchk at hcc
  simp only [Bool.and_eq_true, decide_eq_true_eq] at hcc
  obtain ⟨c1, c2, c3, c4⟩ := hcc
  cases has : (st.take r2).reverse with
  | nil => rw [has] at hrecv; exact hrecv.elim
  | cons v as =>
    rw [has] at hrecv hmet
    split at hrecv
    case h_2 => exact hrecv.elim
    rename_i k _ heq
    obtain ⟨rfl, rfl⟩ := List.cons.inj heq
    split at hrecv
    case h_2 => exact hrecv.elim
    rename_i ci fs hcell
    obtain ⟨q, hq, hqo⟩ := (hR.2 k _ hcell).2
    have hqn : q.1 = (mm_mi r1).1.cls := by
      unfold mm_cn at hrecv
      rw [hq] at hrecv
      exact hrecv
    have hat := (hR.2 k _ hcell).2
    have hstk : st.map (mm_v N0 sa) = (as.map (mm_v N0 sa)).reverse ++ .ref (N0 + k) :: (st.drop r2).map (mm_v N0 sa) := by
      rw [mm_stk (mm_v N0 sa) r2 st, has, List.map_cons, List.reverse_cons, List.append_assoc]
      rfl
    rw [hstk]
    have hlen : as.length = r2 - 1 := by
      have : ((st.take r2).reverse).length = r2 := by rw [List.length_reverse, List.length_take]; omega
      rw [has, List.length_cons] at this
      omega
    refine mm_after (va_runV (As := as.map (mm_v N0 sa)) (rest := (st.drop r2).map (mm_v N0 sa)) (b := N0 + k) (C := (mm_mi r1).1.cls) (n := r2 - 1) (own := (mm_mi md).1.cls) (Ts := Ts) (nL := (mm_mi md).2.2.1) (cc := (mm_mi md).2.1) (index := index) ⟨hx, hb, hml, hown, hts⟩ hmet
      (cwV (Ts := Ts) (r2 - 1) hts ?_ rfl rfl rfl ⟨rfl, c1, c2, c3⟩ ⟨hfr, by show 8 + ((mm_mi r1).2.2.1 + 11) + 60 * d ≤ _; omega⟩) ⟨mm_P.blind, ?_, mm_pre hG hR hS (vR k :: as)⟩ rfl (by rw [List.length_map]; exact hlen) hl.1 rfl (lv_room (mm_words _ (by rw [List.length_map]; exact g2))) hdg ⟨by omega, by omega⟩) hS
      (fun r h' H1 locs1 hq1 hR1 hS1 => ?_)
    · intro w hw
      have hg : GoodIn Ts (mm_ws (mm_mi r1)) := mm_goodIn hTs w5
      rcases List.mem_append.mp hw with hw | hw
      · simp only [List.mem_cons, List.not_mem_nil, or_false] at hw
        rcases hw with rfl | rfl | rfl | rfl
        · exact ⟨hTs _ w1, Or.inl rfl⟩
        · exact ⟨hTs _ w2, Or.inl rfl⟩
        · exact ⟨hTs _ w3, Or.inl rfl⟩
        · exact ⟨hTs _ w4, Or.inl rfl⟩
      · exact hg w hw
    · rw [← hqn]
      exact va_recv hG.1 (mm_P1 hat) hq (q0 := 0) rfl
    · have := g6 r h' hq1 H1 locs1 (cells + mc') (slots + ms') ls hR1 hS1 hl (by omega) (by omega)
      cases r <;> exact this
theorem mm_callS (hok : ∀ mi ∈ mm_tab, mm_all mi = true) (X : mm_Ctx N0 sa ca D tb p R s m args meth c md Ts d) (hRc : mc ≤ R.cells) (hRs : ms ≤ R.slots) (hM : mm_Mets N0 sa ca D tb l d call)
    (hcc : mm_cchk (mm_mi r1) r2 r2 = true) (w1 : Cond.methodLink (mm_mi md).1.cls index (mm_mi r1).1 ∈ mm_tb) (w2 : Cond.static (mm_mi r1).1 ∈ mm_tb) (w4 : Cond.initialized (mm_mi r1).1.cls ∈ mm_tb) (w5 : Cond.code (mm_mi r1).1 (mm_mi r1).2.1 (mm_mi r1).2.2.1 (mm_mi r1).2.2.2.1 ∈ mm_tb)
    (hs : mm_call call (mm_C N0 sa ca D p l e R s m args below meth c (mm_mi md).2.2.1 mc ms Qf) r1 r2 pc lv st h kc ks) (hR : mm_RL N0 sa ca D h H) (hS : va_S (fun q => N0 ≤ q) s.heap H locs) (hl : lv_has ls (mm_mi md).2.2.1 (mm_lv N0 sa lv)) (hc : cells + kc ≤ mc) (hk : slots + ks ≤ ms) (hdg : decode (mm_mi md).2.1 pc = .ok (.invokestatic index, 3)) :
    W p l e R s m args below meth c H locs cells slots Qf (F0 m pc ls (st.map (mm_v N0 sa))) := by
  obtain ⟨hx, hb, hml, hown, hts, hTs, hnm, hG, hN, hfr, hlo⟩ := X
  obtain ⟨g1, g2, mc', ms', Rq, g3, g4, g5, g6⟩ := hs
  have h16 := mm_callee (md' := r1) hok
  have hmet := hM _ _ _ _ _ _ g5
  unfold mm_cchk at hcc
  simp only [Bool.and_eq_true, decide_eq_true_eq] at hcc
  obtain ⟨c1, c2, c3, c4⟩ := hcc
  have hlen : ((st.take r2).reverse).length = r2 := by rw [List.length_reverse, List.length_take]; omega
  rw [mm_stk (mm_v N0 sa) r2 st]
  refine mm_after (va_runS (As := (st.take r2).reverse.map (mm_v N0 sa)) (rest := (st.drop r2).map (mm_v N0 sa)) (n := r2) (own := (mm_mi md).1.cls) (Ts := Ts) (nL := (mm_mi md).2.2.1) (cc := (mm_mi md).2.1) (index := index) ⟨hx, hb, hml, hown, hts⟩ hmet
    (va_cwS (Ts := Ts) r2 hts ?_ rfl rfl rfl ⟨c1, c2, c3⟩ ⟨hfr, by show 8 + ((mm_mi r1).2.2.1 + 11) + 60 * d ≤ _; omega⟩) ⟨mm_P.blind, mm_pre hG hR hS _⟩ rfl (by rw [List.length_map]; exact hlen) hl.1 rfl (lv_room (mm_words _ (by rw [List.length_map]; exact g2))) hdg ⟨by omega, by omega⟩) hS
    (fun r h' H1 locs1 hq1 hR1 hS1 => ?_)
  · intro w hw
    have hg : GoodIn Ts (mm_ws (mm_mi r1)) := mm_goodIn hTs w5
    rcases List.mem_append.mp hw with hw | hw
    · simp only [List.mem_cons, List.not_mem_nil, or_false] at hw
      rcases hw with rfl | rfl | rfl
      · exact ⟨hTs _ w1, Or.inl rfl⟩
      · exact ⟨hTs _ w2, Or.inl rfl⟩
      · exact ⟨hTs _ w4, Or.inl rfl⟩
    · exact hg w hw
  · have := g6 r h' hq1 H1 locs1 (cells + mc') (slots + ms') ls hR1 hS1 hl (by omega) (by omega)
    cases r <;> exact this
theorem mm_callI (hok : ∀ mi ∈ mm_tab, mm_all mi = true) (X : mm_Ctx N0 sa ca D tb p R s m args meth c md Ts d) (hRc : mc ≤ R.cells) (hRs : ms ≤ R.slots) (hM : mm_Mets N0 sa ca D tb l d call)
    (hcc : mm_cchk (mm_mi r1) (r2 - 1) r2 = true) (h0 : 0 < r2) (hin : (mm_mi r1).1.name = "<init>") (hrt : (mm_mi r1).2.2.2.1 = none) (w1 : Cond.methodLink (mm_mi md).1.cls index (mm_mi r1).1 ∈ mm_tb ∨ va_Nw (Cond.methodLinkNest (mm_mi md).1.cls index (mm_mi r1).1 "BesideBook") s) (w2 : Cond.instanceMethod (mm_mi r1).1 ∈ mm_tb) (w4 : Cond.initialized (mm_mi r1).1.cls ∈ mm_tb) (w5 : Cond.code (mm_mi r1).1 (mm_mi r1).2.1 (mm_mi r1).2.2.1 (mm_mi r1).2.2.2.1 ∈ mm_tb)
    (hrecv : match (st.take r2).reverse with
        | .inr (.inr (.inl (some _))) :: _ => True
        | _ => False)
    (hs : mm_call call (mm_C N0 sa ca D p l e R s m args below meth c (mm_mi md).2.2.1 mc ms Qf) r1 r2 pc lv st h kc ks) (hR : mm_RL N0 sa ca D h H) (hS : va_S (fun q => N0 ≤ q) s.heap H locs) (hl : lv_has ls (mm_mi md).2.2.1 (mm_lv N0 sa lv)) (hc : cells + kc ≤ mc) (hk : slots + ks ≤ ms) (hdg : decode (mm_mi md).2.1 pc = .ok (.invokespecial index, 3)) :
    W p l e R s m args below meth c H locs cells slots Qf (F0 m pc ls (st.map (mm_v N0 sa))) := by
  obtain ⟨hx, hb, hml, hown, hts, hTs, hnm, hG, hN, hfr, hlo⟩ := X
  obtain ⟨g1, g2, mc', ms', Rq, g3, g4, g5, g6⟩ := hs
  have h16 := mm_callee (md' := r1) hok
  have hmet := hM _ _ _ _ _ _ g5
  unfold mm_cchk at hcc
  simp only [Bool.and_eq_true, decide_eq_true_eq] at hcc
  obtain ⟨c1, c2, c3, c4⟩ := hcc
  have hws : mm_ws (mm_mi r1) = Cond.code (mm_mi r1).1 (mm_mi r1).2.1 (mm_mi r1).2.2.1 none :: mm_tb := by unfold mm_ws; rw [hrt]
  cases has : (st.take r2).reverse with
  | nil => rw [has] at hrecv; exact hrecv.elim
  | cons v as =>
    rw [has] at hrecv hmet
    split at hrecv
    case h_2 => exact hrecv.elim
    rename_i k _ heq
    obtain ⟨rfl, rfl⟩ := List.cons.inj heq
    have hstk : st.map (mm_v N0 sa) = (as.map (mm_v N0 sa)).reverse ++ .ref (N0 + k) :: (st.drop r2).map (mm_v N0 sa) := by
      rw [mm_stk (mm_v N0 sa) r2 st, has, List.map_cons, List.reverse_cons, List.append_assoc]
      rfl
    rw [hstk]
    have hlen : as.length = r2 - 1 := by
      have : ((st.take r2).reverse).length = r2 := by rw [List.length_reverse, List.length_take]; omega
      rw [has, List.length_cons] at this
      omega
    have hgo : ∀ (r : Option AV) (h' : AH) (H1 : Heap) (locs1 : List Loc), Rq r h' → mm_RL N0 sa ca D h' H1 → va_S (fun q => N0 ≤ q) s.heap H1 locs1 → W p l e R s m args below meth c H1 locs1 (cells + mc') (slots + ms') Qf (F0 m (pc + 3) ls ((r.map (mm_v N0 sa)).toList ++ (st.drop r2).map (mm_v N0 sa))) := by
      intro r h' H1 locs1 hq1 hR1 hS1
      have := g6 r h' hq1 H1 locs1 (cells + mc') (slots + ms') ls hR1 hS1 hl (by omega) (by omega)
      cases r <;> exact this
    rcases w1 with w1 | w1
    · exact mm_after (va_runI (As := as.map (mm_v N0 sa)) (rest := (st.drop r2).map (mm_v N0 sa)) (b := N0 + k) (n := r2 - 1) (own := (mm_mi md).1.cls) (Ts := Ts) (nL := (mm_mi md).2.2.1) (cc := (mm_mi md).2.1) (index := index) ⟨hx, hb, hml, hown, hts⟩ hmet
        (cwI (Ts := Ts) (r2 - 1) hts (mm_goodIn hTs w5) hws rfl rfl (hts _ (hTs _ w4)) (hts _ (hTs _ w1)) (hts _ (hTs _ w2)) hin ⟨c1, c2, c3⟩ ⟨hfr, by show 8 + ((mm_mi r1).2.2.1 + 11) + 60 * d ≤ _; omega⟩) ⟨mm_P.blind, mm_pre hG hR hS (vR k :: as)⟩ rfl (by rw [List.length_map]; exact hlen) hl.1 rfl (lv_room (mm_words _ (by rw [List.length_map]; exact g2))) hdg ⟨by omega, by omega⟩) hS hgo
    · exact mm_after (va_runIN (As := as.map (mm_v N0 sa)) (rest := (st.drop r2).map (mm_v N0 sa)) (b := N0 + k) (n := r2 - 1) (own := (mm_mi md).1.cls) (host := "BesideBook") (Ts := Ts) (nL := (mm_mi md).2.2.1) (cc := (mm_mi md).2.1) (index := index) ⟨hx, hb, hml, hown, hts⟩ hmet
        ⟨va_cnB (Ts := Ts) (r2 - 1) hts (mm_goodIn hTs w5) hws rfl rfl w1 (hts _ (hTs _ w4)) ⟨c1, c2, c3⟩ ⟨hfr, by show 8 + ((mm_mi r1).2.2.1 + 11) + 60 * d ≤ _; omega⟩, hin, hts _ (hTs _ w2)⟩ ⟨mm_P.blind, mm_pre hG hR hS (vR k :: as)⟩ rfl (by rw [List.length_map]; exact hlen) hl.1 rfl (lv_room (mm_words _ (by rw [List.length_map]; exact g2))) hdg ⟨by omega, by omega⟩) hS hgo
end CALLS
end MMS
