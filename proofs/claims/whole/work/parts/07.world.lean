/-! THE MINI MACHINE AND THE MACHINE: what a heap of numbered cells is on the machine: cell k lies at N0 + k, nothing else was made since N0 -/
def mm_v (N0 : Nat) (sa : Nat → Nat) : AV → Value
  | .inl x => .int x
  | .inr (.inl y) => .long y
  | .inr (.inr (.inl none)) => .null
  | .inr (.inr (.inl (some k))) => .ref (N0 + k)
  | .inr (.inr (.inr t)) => .ref (sa t)
def mm_e (N0 : Nat) (sa : Nat → Nat) (ca : FieldType → ClassId) : AC → va_E
  | .inl (ty, n, f) => .inl (ca ty, n, .inl f)
  | .inr (.inl (ci, n, f)) => .inl (ca (.object (mm_cn ci)), n, .inr (.inr (.inr (.inr (fun j => (f j).map (fun k => N0 + k))))))
  | .inr (.inr (ci, fs)) => .inr (ci, fs.map (mm_v N0 sa))
def mm_RL (N0 : Nat) (sa : Nat → Nat) (ca : FieldType → ClassId) (D : va_G) (h : AH) (H : Heap) : Prop :=
  H.size = N0 + h.1 ∧ ∀ k c, h.2 k = some c → k < h.1 ∧ va_at D vwCl (N0 + k, mm_e N0 sa ca c) H
abbrev mm_tys (ca : FieldType → ClassId) : List (ClassId × FieldType) := [(ca .int, .int), (ca .byte, .byte), (ca .boolean, .boolean), (ca (.object "BesideBook$Desk"), .object "BesideBook$Desk"), (ca (.object "BesideBook$Row"), .object "BesideBook$Row")]
def mm_isN : Cond → Bool
  | .fieldLinkNest .. => true
  | .methodLinkNest .. => true
  | _ => false
def mm_G (N0 : Nat) (sa : Nat → Nat) (ca : FieldType → ClassId) (D : va_G) (tb : Nat → Nat × (Nat → Int32)) (U : State) : Prop :=
  va_K D vwCl (mm_tys ca) U ∧ (∀ t, va_T .int (sa t) (tb t).1 (fun j => .int ((tb t).2 j)) (fun q => N0 ≤ q) U U.heap) ∧ (∀ t, t < 2 → va_Z "BesideBook" (mm_sn t) "[I" (.ref (sa t)) (fun q => N0 ≤ q) U U.heap) ∧ (∀ w ∈ lw_tbl, mm_isN w = true → va_Nw w U) ∧ va_AO "BesideBook$Desk" U ∧ va_AO "BesideBook$Row" U
def mm_tb : List Cond := lw_tbl.filter goodWord
def mm_ws (mi : MI) : List Cond := .code mi.1 mi.2.1 mi.2.2.1 mi.2.2.2.1 :: mm_tb
abbrev mm_rm (d mc ms : Nat) : Room := { frames := d, cells := mc, slots := ms, locals := 60 * d }
def mm_P (N0 : Nat) (sa : Nat → Nat) (ca : FieldType → ClassId) (D : va_G) (tb : Nat → Nat × (Nat → Int32)) (as : List AV) (h : AH) : Array Value → State → Prop := va_Pc (as.map (mm_v N0 sa)) (fun U => mm_RL N0 sa ca D h U.heap ∧ mm_G N0 sa ca D tb U)
def mm_Q (N0 : Nat) (sa : Nat → Nat) (ca : FieldType → ClassId) (D : va_G) (Q : AQ) : Array Value → State → Outcome → State → Prop := fun _ st oc t => ∃ (r : Option AV) (h' : AH), oc = .returned (r.map (mm_v N0 sa)) ∧ Q r h' ∧ mm_RL N0 sa ca D h' t.heap ∧ va_F (fun q => N0 ≤ q) st t
theorem mm_has_in {i : Nat} {w : Cond} (h : mm_has i w = true) : w ∈ lw_tbl := List.mem_of_getElem? (of_decide_eq_true h)
theorem mm_in {i : Nat} {w : Cond} (h : mm_has i w = true) (hg : goodWord w = true) : w ∈ mm_tb := List.mem_filter.mpr ⟨mm_has_in h, hg⟩
theorem mm_goodIn {Ts : List Cond} (hTs : ∀ w ∈ mm_tb, w ∈ Ts) {mi : MI} (h : Cond.code mi.1 mi.2.1 mi.2.2.1 mi.2.2.2.1 ∈ mm_tb) : GoodIn Ts (mm_ws mi) := by
  intro w hw
  have h1 : w ∈ mm_tb := by
    rcases List.mem_cons.mp hw with rfl | hw
    · exact h
    · exact hw
  exact ⟨hTs w h1, good_of_word (List.mem_filter.mp h1).2⟩
theorem mm_mi_mem (md : Nat) : mm_mi md ∈ mm_tab := by
  unfold mm_mi
  rw [List.getD_eq_getElem?_getD]
  cases h : mm_tab[md]? with
  | none => exact List.mem_cons_self
  | some q => exact List.mem_of_getElem? h
theorem mm_cat (N0 : Nat) (sa : Nat → Nat) : ∀ v : AV, (mm_v N0 sa v).category = if mm_c2 v = true then 2 else 1
  | .inl _ => rfl
  | .inr (.inl _) => rfl
  | .inr (.inr (.inl none)) => rfl
  | .inr (.inr (.inl (some _))) => rfl
  | .inr (.inr (.inr _)) => rfl
theorem mm_cat1 {N0 : Nat} {sa : Nat → Nat} {v : AV} (h : mm_c2 v = false) : (mm_v N0 sa v).category = 1 := by rw [mm_cat, h]; rfl
abbrev mm_lv (N0 : Nat) (sa : Nat → Nat) (lv : AL) : List (Nat × Value) := lv.map (fun q => (q.1, mm_v N0 sa q.2))
theorem mm_has_sub {ls : Array Slot} {nL : Nat} {l l' : List (Nat × Value)} (h : lv_has ls nL l) (hs : ∀ q ∈ l', q ∈ l) : lv_has ls nL l' := ⟨h.1, h.2.1, fun q hq => h.2.2 q (hs q hq)⟩
theorem mm_rd_at {N0 : Nat} {sa : Nat → Nat} {ls : Array Slot} {nL : Nat} {lv : AL} (h : lv_has ls nL (mm_lv N0 sa lv)) {i : Nat} {v : AV} (hr : mm_rd lv i = some v) : ls[i]? = some (.val (mm_v N0 sa v)) := by
  unfold mm_rd at hr
  cases hf : lv.find? (fun q => q.1 == i) with
  | none => rw [hf] at hr; cases hr
  | some q =>
    rw [hf] at hr
    cases hr
    have h1 := List.find?_some hf
    have h2 := List.mem_of_find?_eq_some hf
    have h3 : q.1 = i := by simpa using h1
    rw [← h3]
    exact h.2.2 (q.1, mm_v N0 sa q.2) (List.mem_map.mpr ⟨q, h2, rfl⟩)
theorem mm_mem_ins (i : Nat) (v : AV) : ∀ (l : AL) (q : Nat × AV), q ∈ mm_ins i v l → q = (i, v) ∨ q ∈ l
  | [], q, h => Or.inl (List.mem_singleton.mp h)
  | x :: r, q, h => by
    unfold mm_ins at h
    split at h
    · rcases List.mem_cons.mp h with rfl | h
      · exact Or.inr List.mem_cons_self
      · rcases mm_mem_ins i v r q h with h | h
        · exact Or.inl h
        · exact Or.inr (List.mem_cons_of_mem _ h)
    · rcases List.mem_cons.mp h with rfl | h
      · exact Or.inl rfl
      · exact Or.inr h
theorem mm_c2_cat (N0 : Nat) (sa : Nat → Nat) (v : AV) : ((mm_v N0 sa v).category == 2) = mm_c2 v := by
  rw [mm_cat]
  cases mm_c2 v <;> rfl
theorem mm_st1_sub {N0 : Nat} {sa : Nat → Nat} (lv : AL) (i : Nat) (v : AV) : ∀ q ∈ mm_lv N0 sa (mm_st1 lv i v), q ∈ (i, mm_v N0 sa v) :: (mm_lv N0 sa lv).filter (fun q => !(q.1 == i) && !(q.1 + 1 == i && q.2.category == 2)) := by
  intro q hq
  obtain ⟨z, hz, rfl⟩ := List.mem_map.mp hq
  rcases mm_mem_ins _ _ _ _ hz with rfl | h
  · exact List.mem_cons_self
  · obtain ⟨h1, h2⟩ := List.mem_filter.mp h
    refine List.mem_cons_of_mem _ (List.mem_filter.mpr ⟨List.mem_map.mpr ⟨z, h1, rfl⟩, ?_⟩)
    dsimp only
    rw [mm_c2_cat]
    exact h2
theorem mm_st2_sub {N0 : Nat} {sa : Nat → Nat} (lv : AL) (i : Nat) (v : AV) : ∀ q ∈ mm_lv N0 sa (mm_st2 lv i v), q ∈ (i, mm_v N0 sa v) :: (mm_lv N0 sa lv).filter (fun q => !(q.1 == i) && (!(q.1 == i + 1) && !(q.1 + 1 == i && q.2.category == 2))) := by
  intro q hq
  obtain ⟨z, hz, rfl⟩ := List.mem_map.mp hq
  rcases mm_mem_ins _ _ _ _ hz with rfl | h
  · exact List.mem_cons_self
  · obtain ⟨h1, h2⟩ := List.mem_filter.mp h
    refine List.mem_cons_of_mem _ (List.mem_filter.mpr ⟨List.mem_map.mpr ⟨z, h1, rfl⟩, ?_⟩)
    dsimp only
    rw [mm_c2_cat]
    exact h2
theorem mm_args_eq (N0 : Nat) (sa : Nat → Nat) : ∀ (as : List AV) (i : Nat), lv_args i (as.map (mm_v N0 sa)) = mm_lv N0 sa (mm_args i as)
  | [], _ => rfl
  | v :: as, i => by
    show (i, mm_v N0 sa v) :: lv_args (if (mm_v N0 sa v).category = 2 then i + 2 else i + 1) (as.map (mm_v N0 sa)) = (i, mm_v N0 sa v) :: mm_lv N0 sa (mm_args (if mm_c2 v = true then i + 2 else i + 1) as)
    rw [mm_args_eq N0 sa as, mm_cat]
    cases mm_c2 v <;> rfl
theorem mm_sl_eq (N0 : Nat) (sa : Nat → Nat) : ∀ as : List AV, (lg_sl (as.map (mm_v N0 sa))).length = mm_sl as
  | [] => rfl
  | v :: as => by
    have ih := mm_sl_eq N0 sa as
    unfold lg_sl mm_sl at ih ⊢
    rw [List.map_cons, List.flatMap_cons, List.length_append, ih, List.map_cons, List.sum_cons, mm_cat]
    cases mm_c2 v <;> rfl
theorem mm_RL.up {N0 : Nat} {sa : Nat → Nat} {ca : FieldType → ClassId} {D : va_G} {h : AH} {H H1 : Heap} (hR : mm_RL N0 sa ca D h H) {k : Nat} {c0 c : AC} (h0 : h.2 k = some c0) (hz : H1.size = H.size) (oq : ∀ q : Nat, q ≠ N0 + k → H1[q]? = H[q]?) (he : va_at D vwCl (N0 + k, mm_e N0 sa ca c) H1) : mm_RL N0 sa ca D (mm_up h k c) H1 := by
  refine ⟨by rw [hz]; exact hR.1, fun j d hj => ?_⟩
  unfold mm_up at hj
  dsimp only at hj
  by_cases e : j = k
  · subst e
    rw [if_pos rfl] at hj
    cases hj
    exact ⟨(hR.2 j c0 h0).1, he⟩
  · rw [if_neg e] at hj
    exact ⟨(hR.2 j d hj).1, (hR.2 j d hj).2.kept (oq _ (by show N0 + j ≠ N0 + k; omega))⟩
theorem mm_RL.al {N0 : Nat} {sa : Nat → Nat} {ca : FieldType → ClassId} {D : va_G} {h : AH} {H H1 : Heap} (hR : mm_RL N0 sa ca D h H) {c : AC} (hz : H1.size = H.size + 1) (oq : ∀ q : Nat, q < H.size → H1[q]? = H[q]?) (he : va_at D vwCl (H.size, mm_e N0 sa ca c) H1) : mm_RL N0 sa ca D (mm_al h c) H1 := by
  refine ⟨by rw [hz, hR.1]; rfl, fun j d hj => ?_⟩
  unfold mm_al at hj ⊢
  dsimp only at hj ⊢
  by_cases e : j = h.1
  · subst e
    rw [if_pos rfl] at hj
    cases hj
    exact ⟨Nat.lt_succ_self _, by rw [← hR.1]; exact he⟩
  · rw [if_neg e] at hj
    have h1 := hR.2 j d hj
    exact ⟨Nat.lt_succ_of_lt h1.1, h1.2.kept (oq _ (by rw [hR.1]; show N0 + j < N0 + h.1; omega))⟩
theorem mm_G.moved {N0 : Nat} {sa : Nat → Nat} {ca : FieldType → ClassId} {D : va_G} {tb : Nat → Nat × (Nat → Int32)} {s U : State} (hG : mm_G N0 sa ca D tb s) (hW : s.WarmedH U.vm) (hq : ∀ a : Nat, a < s.heap.size → ¬ N0 ≤ a → U.heap[a]? = s.heap[a]?) : mm_G N0 sa ca D tb U := by
  obtain ⟨h1, h2, h3, h4, h5, h6⟩ := hG
  refine ⟨va_K.moved hW.alike h1, fun t => ((h2 t).kept hq).moved hW.alike, fun t ht => ((h3 t ht).kept hq).moved hW.alike, fun w hw hn => ?_, h5.moved hW.alike, h6.moved hW.alike⟩
  have h := h4 w hw hn
  cases w <;> first | exact va_Nw.warmF hW h | exact va_Nw.warmM hW h | (simp [mm_isN] at hn; done)
theorem mm_G.same {N0 : Nat} {sa : Nat → Nat} {ca : FieldType → ClassId} {D : va_G} {tb : Nat → Nat × (Nat → Int32)} {s U : State} (hG : mm_G N0 sa ca D tb s) (hv : s.vm = U.vm) (hh : U.heap = s.heap) : mm_G N0 sa ca D tb U := by
  have hA : s.vm.Alike U.vm := by rw [hv]; exact Vm.Alike.refl _
  obtain ⟨h1, h2, h3, h4, h5, h6⟩ := hG
  refine ⟨va_K.moved hA h1, fun t => ((h2 t).kept (fun a _ _ => by rw [hh])).moved hA, fun t ht => ((h3 t ht).kept (fun a _ _ => by rw [hh])).moved hA, fun w hw hn => ?_, h5.moved hA, h6.moved hA⟩
  have h := h4 w hw hn
  cases w <;> first | exact va_Nw.same rfl hv h | (simp [mm_isN] at hn; done)
theorem mm_P.blind {N0 : Nat} {sa : Nat → Nat} {ca : FieldType → ClassId} {D : va_G} {tb : Nat → Nat × (Nat → Int32)} {as : List AV} {h : AH} : FrameBlind (mm_P N0 sa ca D tb as h) := fun a U g mk q => ⟨q.1, q.2.1, q.2.2.same (U := U.calling g mk a) rfl rfl⟩
/-- what the tables say of each class of the worlds -/
def mm_cok (ci : Nat) (q : vw_C) : Prop := (∀ w ∈ u_ws q.1 q.2.1 q.2.2, w ∈ mm_tb) ∧ (∀ k, k < q.2.2 → parseFieldDescriptor (q.2.1 k).2.2.1 = some (mm_ft ci k)) ∧ (∀ a, a < q.2.2 → ∀ b, b < q.2.2 → a ≠ b → (q.2.1 a).2.1 ≠ (q.2.1 b).2.1)
def mm_wsok (q : vw_C) : Bool := (u_ws q.1 q.2.1 q.2.2).all (fun w => decide (w ∈ lw_tbl) && goodWord w)
theorem mm_wsok_in {q : vw_C} (h : mm_wsok q = true) : ∀ w ∈ u_ws q.1 q.2.1 q.2.2, w ∈ mm_tb := by
  intro w hw
  have h1 := List.all_eq_true.mp h w hw
  simp only [Bool.and_eq_true, decide_eq_true_eq] at h1
  exact List.mem_filter.mpr h1
theorem mm_w0 : mm_wsok (RX0, TX0, 5) = true := by decide +kernel
theorem mm_w1 : mm_wsok (RX1, TX1, 3) = true := by decide +kernel
theorem mm_w2 : mm_wsok (RX2, TX2, 11) = true := by decide +kernel
theorem mm_w3 : mm_wsok (RX3, TX3, 4) = true := by decide +kernel
theorem mm_w4 : mm_wsok (RX4, TX4, 7) = true := by decide +kernel
theorem mm_w5 : mm_wsok (RX5, TX5, 2) = true := by decide +kernel
theorem mm_w6 : mm_wsok (RX6, TX6, 7) = true := by decide +kernel
theorem mm_w7 : mm_wsok (RX7, TX7, 14) = true := by decide +kernel
theorem mm_w8 : mm_wsok (RX8, TX8, 42) = true := by decide +kernel
theorem mm_cls {ci : Nat} {q : vw_C} (h : vwCl[ci]? = some q) : mm_cok ci q := by
  match ci, h with
  | 0, h => cases h; exact ⟨mm_wsok_in mm_w0, tyX0_ok, nmX0⟩
  | 1, h => cases h; exact ⟨mm_wsok_in mm_w1, tyX1_ok, nmX1⟩
  | 2, h => cases h; exact ⟨mm_wsok_in mm_w2, tyX2_ok, nmX2⟩
  | 3, h => cases h; exact ⟨mm_wsok_in mm_w3, tyX3_ok, nmX3⟩
  | 4, h => cases h; exact ⟨mm_wsok_in mm_w4, tyX4_ok, nmX4⟩
  | 5, h => cases h; exact ⟨mm_wsok_in mm_w5, tyX5_ok, nmX5⟩
  | 6, h => cases h; exact ⟨mm_wsok_in mm_w6, tyX6_ok, nmX6⟩
  | 7, h => cases h; exact ⟨mm_wsok_in mm_w7, tyX7_ok, nmX7⟩
  | 8, h => cases h; exact ⟨mm_wsok_in mm_w8, tyX8_ok, nmX8⟩
  | ci + 9, h => simp [vwCl] at h
