/-! the machine's rule closes what the machine does -/
section MMC
variable {N0 : Nat} {sa : Nat → Nat} {ca : FieldType → ClassId} {D : va_G} {tb : Nat → Nat × (Nat → Int32)}
variable {p : Program} {l : Launch} {e : Env} {R : Room} {s : State} {m : MethodId} {args : Array Value} {below : List Frame} {meth : Method} {c : Code} {Qf : State → Prop} {md : Nat} {Ts : List Cond} {d mc ms : Nat} {call : CO} {Q : AQ}
def mm_okT (ty : FieldType) : Prop := ty = .int ∨ ty = .boolean ∨ ty = .long ∨ (∃ n, ty = .object n) ∨ ∃ t, ty = .array t
theorem mm_okT0 (k : Nat) : mm_okT (tyX0 k) := by unfold tyX0; split <;> simp [mm_okT]
theorem mm_okT1 (k : Nat) : mm_okT (tyX1 k) := by unfold tyX1; split <;> simp [mm_okT]
theorem mm_okT2 (k : Nat) : mm_okT (tyX2 k) := by unfold tyX2; split <;> simp [mm_okT]
theorem mm_okT3 (k : Nat) : mm_okT (tyX3 k) := by unfold tyX3; split <;> simp [mm_okT]
theorem mm_okT4 (k : Nat) : mm_okT (tyX4 k) := by unfold tyX4; split <;> simp [mm_okT]
theorem mm_okT5 (k : Nat) : mm_okT (tyX5 k) := by unfold tyX5; split <;> simp [mm_okT]
theorem mm_okT6 (k : Nat) : mm_okT (tyX6 k) := by unfold tyX6; split <;> simp [mm_okT]
theorem mm_okT7 (k : Nat) : mm_okT (tyX7 k) := by unfold tyX7; split <;> simp [mm_okT]
theorem mm_okT8 (k : Nat) : mm_okT (tyX8 k) := by unfold tyX8; split <;> simp [mm_okT]
theorem mm_fty {ci : Nat} {q : vw_C} (h : vwCl[ci]? = some q) (k : Nat) : mm_okT (mm_ft ci k) := by
  match ci, h with
  | 0, _ => exact mm_okT0 k
  | 1, _ => exact mm_okT1 k
  | 2, _ => exact mm_okT2 k
  | 3, _ => exact mm_okT3 k
  | 4, _ => exact mm_okT4 k
  | 5, _ => exact mm_okT5 k
  | 6, _ => exact mm_okT6 k
  | 7, _ => exact mm_okT7 k
  | 8, _ => exact mm_okT8 k
  | ci + 9, h => simp [vwCl] at h
theorem mm_dfV {ci : Nat} {q : vw_C} (h : vwCl[ci]? = some q) : ∀ j, j < q.2.2 → defaultValue (mm_ft ci j) = vp_V ((mm_df ci).map (mm_v N0 sa)) j := by
  intro j hj
  rw [mm_dvV (N0 := N0) (sa := sa) _ (mm_fty h j)]
  have hn : mm_nf ci = q.2.2 := by unfold mm_nf; rw [h]
  unfold vp_V mm_df
  rw [List.getD_eq_getElem?_getD, List.getElem?_map, List.getElem?_map, List.getElem?_range (by rw [hn]; exact hj)]
  rfl
theorem mm_rfV (o : Option Nat) : va_rf (o.map (fun k => N0 + k)) = mm_v N0 sa (.inr (.inr (.inl o))) := by cases o <;> rfl
theorem mm_upq (f : Nat → Option Nat) (i v : Nat) : (fun j => (va_up f i (some v) j).map (fun k => N0 + k)) = va_up (fun j => (f j).map (fun k => N0 + k)) i (some (N0 + v)) := by
  funext j
  unfold va_up
  split <;> rfl
theorem mm_obj1 : mm_has 68 (.instanceMethod objectInit) = true := by decide +kernel
theorem mm_obj2 : mm_has 69 (.code objectInit ⟨#[0xb1]⟩ 1 none) = true := by decide +kernel
theorem mm_cp1 : mm_has 263 (.native arraycopyName) = true := by decide +kernel
theorem mm_cp2 : mm_has 262 (.static arraycopyName) = true := by decide +kernel
theorem mm_cp3 : mm_has 57 (.initialized "java/lang/System") = true := by decide +kernel
theorem mm_nfw : nativeFrameWords "java/lang/System" "arraycopy" 5 = 7 := by decide
set_option maxHeartbeats 8000000 in
theorem mm_close (hok : ∀ mi ∈ mm_tab, mm_all mi = true) (X : mm_Ctx N0 sa ca D tb p R s m args meth c md Ts d) (hRc : mc ≤ R.cells) (hRs : ms ≤ R.slots) (hM : mm_Mets N0 sa ca D tb l d call)
    (hri : ∀ (H : Heap) (locs : List Loc) (cells slots : Nat) (ls : Array Slot) (pc : Nat) (v : Int32) (h : AH), decode (mm_mi md).2.1 pc = .ok (.ireturn, 1) → (match (mm_mi md).2.2.2.1 with
        | some .boolean => (v = 0 ∨ v = 1)
        | some .int => True
        | _ => False) → Q (some (vI v)) h → mm_RL N0 sa ca D h H → va_S (fun q => N0 ≤ q) s.heap H locs → cells ≤ mc → slots ≤ ms → W p l e R s m args below meth c H locs cells slots Qf (F0 m pc ls [.int v]))
    (hrl : ∀ (H : Heap) (locs : List Loc) (cells slots : Nat) (ls : Array Slot) (pc : Nat) (v : Int64) (h : AH), decode (mm_mi md).2.1 pc = .ok (.lreturn, 1) → (mm_mi md).2.2.2.1 = some .long → Q (some (vL v)) h → mm_RL N0 sa ca D h H → va_S (fun q => N0 ≤ q) s.heap H locs → cells ≤ mc → slots ≤ ms → W p l e R s m args below meth c H locs cells slots Qf (F0 m pc ls [.long v]))
    (hrv : ∀ (H : Heap) (locs : List Loc) (cells slots : Nat) (ls : Array Slot) (pc : Nat) (st : List Value) (h : AH), decode (mm_mi md).2.1 pc = .ok (.return_, 1) → (mm_mi md).2.2.2.1 = none → st = [] → Q none h → mm_RL N0 sa ca D h H → va_S (fun q => N0 ≤ q) s.heap H locs → cells ≤ mc → slots ≤ ms → W p l e R s m args below meth c H locs cells slots Qf (F0 m pc ls st)) :
    mm_cl (mm_rw (mm_mi md).2.2.2.2.2) (mm_mi md).2.2.2.1 tb call Q (mm_C N0 sa ca D p l e R s m args below meth c (mm_mi md).2.2.1 mc ms Qf) := by
  refine ⟨?_, fun pc lv lv' st h kc ks hsub hs H locs cells slots ls hR hS hl hc hk => hs H locs cells slots ls hR hS (mm_has_sub hl (fun q hq => ?_)) hc hk⟩
  · intro pc lv st h kc ks hs H locs cells slots ls hR hS hl hc hk
    have X0 := X
    obtain ⟨hx, hb, hml, hown, hts, hTs, hnm, hG, hN, hfr, hlo⟩ := X
    have hall := hok _ (mm_mi_mem md)
    unfold mm_step at hs
    cases hrw : mm_rw (mm_mi md).2.2.2.2.2 pc with
    | none => rw [hrw] at hs; exact hs.elim
    | some q =>
      obtain ⟨ins, ln, r1, r2, x, y, ts, hh⟩ := q
      rw [hrw] at hs
      have hck := mm_rows hall hrw
      unfold mm_chk at hck
      dsimp only at hck
      rw [Bool.and_eq_true] at hck
      obtain ⟨hd, hck⟩ := hck
      have hd := of_decide_eq_true hd
      cases ins with
      | iconst n =>
        simp only [Bool.and_eq_true, decide_eq_true_eq] at hck
        obtain ⟨rfl, e1⟩ := hck
        exact lv_iconst hx hb hd e1 (hs H locs cells slots ls hR hS hl hc hk)
      | bipush n =>
        simp only [Bool.and_eq_true, decide_eq_true_eq] at hck
        obtain ⟨rfl, e1⟩ := hck
        exact lv_bipush hx hb hd e1 (hs H locs cells slots ls hR hS hl hc hk)
      | sipush n =>
        simp only [Bool.and_eq_true, decide_eq_true_eq] at hck
        obtain ⟨rfl, e1⟩ := hck
        exact lv_sipush hx hb hd e1 (hs H locs cells slots ls hR hS hl hc hk)
      | lconst n =>
        simp only [Bool.and_eq_true, decide_eq_true_eq] at hck
        obtain ⟨rfl, e1⟩ := hck
        exact lv_lconst hx hb hd e1 (hs H locs cells slots ls hR hS hl hc hk)
      | ldc_w i =>
        simp only [Bool.and_eq_true, decide_eq_true_eq] at hck
        obtain ⟨rfl, e1⟩ := hck
        exact lv_ldcw hx hb hown (hts _ (hTs _ (mm_in e1 rfl))) hd (hs H locs cells slots ls hR hS hl hc hk)
      | ldc2_w i =>
        simp only [Bool.and_eq_true, decide_eq_true_eq] at hck
        obtain ⟨rfl, e1⟩ := hck
        exact lv_ldc2 hx hb hown (hts _ (hTs _ (mm_in e1 rfl))) hd (hs H locs cells slots ls hR hS hl hc hk)
      | iload i =>
        obtain rfl : ln = 2 := of_decide_eq_true hck
        dsimp only at hs
        split at hs
        · rename_i a hrd
          exact lv_iload hx hb hd (mm_rd_at hl hrd) (hs H locs cells slots ls hR hS hl hc hk)
        · exact hs.elim
      | iload_n i =>
        obtain rfl : ln = 1 := of_decide_eq_true hck
        dsimp only at hs
        split at hs
        · rename_i a hrd
          exact lv_iload_n hx hb hd rfl (mm_rd_at hl hrd) (hs H locs cells slots ls hR hS hl hc hk)
        · exact hs.elim
      | lload i =>
        obtain rfl : ln = 2 := of_decide_eq_true hck
        dsimp only at hs
        split at hs
        · rename_i a hrd
          exact lv_lload hx hb hd (mm_rd_at hl hrd) (hs H locs cells slots ls hR hS hl hc hk)
        · exact hs.elim
      | lload_n i =>
        obtain rfl : ln = 1 := of_decide_eq_true hck
        dsimp only at hs
        split at hs
        · rename_i a hrd
          exact lv_lload_n hx hb hd rfl (mm_rd_at hl hrd) (hs H locs cells slots ls hR hS hl hc hk)
        · exact hs.elim
      | aload i =>
        obtain rfl : ln = 2 := of_decide_eq_true hck
        dsimp only at hs
        split at hs
        · rename_i a hrd
          exact lv_aload hx hb hd (mm_rd_at hl hrd) (hs H locs cells slots ls hR hS hl hc hk)
        · rename_i a hrd
          exact lv_aload hx hb hd (mm_rd_at hl hrd) (hs H locs cells slots ls hR hS hl hc hk)
        · exact hs.elim
      | aload_n i =>
        obtain rfl : ln = 1 := of_decide_eq_true hck
        dsimp only at hs
        split at hs
        · rename_i a hrd
          exact lv_aload_n hx hb hd rfl (mm_rd_at hl hrd) (hs H locs cells slots ls hR hS hl hc hk)
        · rename_i a hrd
          exact lv_aload_n hx hb hd rfl (mm_rd_at hl hrd) (hs H locs cells slots ls hR hS hl hc hk)
        · exact hs.elim
      | istore i =>
        simp only [Bool.and_eq_true, decide_eq_true_eq] at hck
        obtain ⟨rfl, e1⟩ := hck
        dsimp only at hs
        split at hs
        · exact lv_istore hx hb hd hl e1 rfl (fun ls' hl' => hs H locs cells slots ls' hR hS (mm_has_sub hl' (mm_st1_sub _ _ _)) hc hk)
        · exact hs.elim
      | istore_n i =>
        simp only [Bool.and_eq_true, decide_eq_true_eq] at hck
        obtain ⟨rfl, e1⟩ := hck
        dsimp only at hs
        split at hs
        · exact lv_istore_n hx hb hd rfl hl e1 rfl (fun ls' hl' => hs H locs cells slots ls' hR hS (mm_has_sub hl' (mm_st1_sub _ _ _)) hc hk)
        · exact hs.elim
      | astore i =>
        simp only [Bool.and_eq_true, decide_eq_true_eq] at hck
        obtain ⟨rfl, e1⟩ := hck
        dsimp only at hs
        split at hs
        · exact lv_astore hx hb hd hl e1 rfl (fun ls' hl' => hs H locs cells slots ls' hR hS (mm_has_sub hl' (mm_st1_sub _ _ _)) hc hk)
        · exact hs.elim
      | astore_n i =>
        simp only [Bool.and_eq_true, decide_eq_true_eq] at hck
        obtain ⟨rfl, e1⟩ := hck
        dsimp only at hs
        split at hs
        · exact lv_astore_n hx hb hd rfl hl e1 rfl (fun ls' hl' => hs H locs cells slots ls' hR hS (mm_has_sub hl' (mm_st1_sub _ _ _)) hc hk)
        · exact hs.elim
      | lstore i =>
        simp only [Bool.and_eq_true, decide_eq_true_eq] at hck
        obtain ⟨rfl, e1⟩ := hck
        dsimp only at hs
        split at hs
        · exact lv_lstore hx hb hd hl e1 rfl (fun ls' hl' => hs H locs cells slots ls' hR hS (mm_has_sub hl' (mm_st2_sub _ _ _)) hc hk)
        · exact hs.elim
      | lstore_n i =>
        simp only [Bool.and_eq_true, decide_eq_true_eq] at hck
        obtain ⟨rfl, e1⟩ := hck
        dsimp only at hs
        split at hs
        · exact lv_lstore_n hx hb hd rfl hl e1 rfl (fun ls' hl' => hs H locs cells slots ls' hR hS (mm_has_sub hl' (mm_st2_sub _ _ _)) hc hk)
        · exact hs.elim
      | iinc i n =>
        simp only [Bool.and_eq_true, decide_eq_true_eq] at hck
        obtain ⟨rfl, e1, e2⟩ := hck
        dsimp only at hs
        split at hs
        · rename_i a hrd
          obtain ⟨z, hz1, hz2⟩ : ∃ z : Nat × AV, lv.find? (fun q => q.1 == i) = some z ∧ z.2 = .inl a := by
            unfold mm_rd at hrd
            cases hf : lv.find? (fun q => q.1 == i) with
            | none => rw [hf] at hrd; cases hrd
            | some z => rw [hf] at hrd; exact ⟨z, rfl, Option.some.inj hrd⟩
          have hz3 : z.1 = i := by simpa using List.find?_some hz1
          obtain ⟨k, hk1⟩ := List.getElem?_of_mem (List.mem_of_find?_eq_some hz1)
          have hk2 : (mm_lv N0 sa lv)[k]? = some (i, .int a) := by
            rw [List.getElem?_map, hk1]
            show some (z.1, mm_v N0 sa z.2) = _
            rw [hz3, hz2]
            rfl
          exact lv_iinc hx hb hd hl hk2 (by rw [e1]) e2 rfl (fun ls' hl' => hs H locs cells slots ls' hR hS (mm_has_sub hl' (mm_st1_sub _ _ _)) hc hk)
        · exact hs.elim
      | iadd =>
        obtain rfl : ln = 1 := of_decide_eq_true hck
        dsimp only at hs
        split at hs
        · exact lv_iadd hx hb hd (hs H locs cells slots ls hR hS hl hc hk)
        · exact hs.elim
      | isub =>
        obtain rfl : ln = 1 := of_decide_eq_true hck
        dsimp only at hs
        split at hs
        · exact lv_isub hx hb hd (hs H locs cells slots ls hR hS hl hc hk)
        · exact hs.elim
      | imul =>
        obtain rfl : ln = 1 := of_decide_eq_true hck
        dsimp only at hs
        split at hs
        · exact lv_imul hx hb hd (hs H locs cells slots ls hR hS hl hc hk)
        · exact hs.elim
      | iand =>
        obtain rfl : ln = 1 := of_decide_eq_true hck
        dsimp only at hs
        split at hs
        · exact lv_iand hx hb hd (hs H locs cells slots ls hR hS hl hc hk)
        · exact hs.elim
      | ior =>
        obtain rfl : ln = 1 := of_decide_eq_true hck
        dsimp only at hs
        split at hs
        · exact lv_ior hx hb hd (hs H locs cells slots ls hR hS hl hc hk)
        · exact hs.elim
      | ixor =>
        obtain rfl : ln = 1 := of_decide_eq_true hck
        dsimp only at hs
        split at hs
        · exact lv_ixor hx hb hd (hs H locs cells slots ls hR hS hl hc hk)
        · exact hs.elim
      | ishl =>
        obtain rfl : ln = 1 := of_decide_eq_true hck
        dsimp only at hs
        split at hs
        · exact lv_ishl hx hb hd (hs H locs cells slots ls hR hS hl hc hk)
        · exact hs.elim
      | ishr =>
        obtain rfl : ln = 1 := of_decide_eq_true hck
        dsimp only at hs
        split at hs
        · exact lv_ishr hx hb hd (hs H locs cells slots ls hR hS hl hc hk)
        · exact hs.elim
      | ladd =>
        obtain rfl : ln = 1 := of_decide_eq_true hck
        dsimp only at hs
        split at hs
        · exact lv_ladd hx hb hd (hs H locs cells slots ls hR hS hl hc hk)
        · exact hs.elim
      | lmul =>
        obtain rfl : ln = 1 := of_decide_eq_true hck
        dsimp only at hs
        split at hs
        · exact lv_lmul hx hb hd (hs H locs cells slots ls hR hS hl hc hk)
        · exact hs.elim
      | land =>
        obtain rfl : ln = 1 := of_decide_eq_true hck
        dsimp only at hs
        split at hs
        · exact lv_land hx hb hd (hs H locs cells slots ls hR hS hl hc hk)
        · exact hs.elim
      | lor =>
        obtain rfl : ln = 1 := of_decide_eq_true hck
        dsimp only at hs
        split at hs
        · exact lv_lor hx hb hd (hs H locs cells slots ls hR hS hl hc hk)
        · exact hs.elim
      | idiv =>
        obtain rfl : ln = 1 := of_decide_eq_true hck
        dsimp only at hs
        split at hs
        · exact lv_idiv hx hb hd hs.1 (hs.2 H locs cells slots ls hR hS hl hc hk)
        · exact hs.elim
      | irem =>
        obtain rfl : ln = 1 := of_decide_eq_true hck
        dsimp only at hs
        split at hs
        · exact lv_irem hx hb hd hs.1 (hs.2 H locs cells slots ls hR hS hl hc hk)
        · exact hs.elim
      | ldiv =>
        obtain rfl : ln = 1 := of_decide_eq_true hck
        dsimp only at hs
        split at hs
        · exact lv_ldiv hx hb hd hs.1 (hs.2 H locs cells slots ls hR hS hl hc hk)
        · exact hs.elim
      | lrem =>
        obtain rfl : ln = 1 := of_decide_eq_true hck
        dsimp only at hs
        split at hs
        · exact lv_lrem hx hb hd hs.1 (hs.2 H locs cells slots ls hR hS hl hc hk)
        · exact hs.elim
      | iushr =>
        obtain rfl : ln = 1 := of_decide_eq_true hck
        dsimp only at hs
        split at hs
        · exact lv_iushr hx hb hd rfl (hs H locs cells slots ls hR hS hl hc hk)
        · exact hs.elim
      | lshl =>
        obtain rfl : ln = 1 := of_decide_eq_true hck
        dsimp only at hs
        split at hs
        · exact lv_lshl hx hb hd rfl (hs H locs cells slots ls hR hS hl hc hk)
        · exact hs.elim
      | lshr =>
        obtain rfl : ln = 1 := of_decide_eq_true hck
        dsimp only at hs
        split at hs
        · exact lv_lshr hx hb hd rfl (hs H locs cells slots ls hR hS hl hc hk)
        · exact hs.elim
      | lushr =>
        obtain rfl : ln = 1 := of_decide_eq_true hck
        dsimp only at hs
        split at hs
        · exact lv_lushr hx hb hd rfl (hs H locs cells slots ls hR hS hl hc hk)
        · exact hs.elim
      | i2l =>
        obtain rfl : ln = 1 := of_decide_eq_true hck
        dsimp only at hs
        split at hs
        · exact lv_i2l hx hb hd rfl (hs H locs cells slots ls hR hS hl hc hk)
        · exact hs.elim
      | l2i =>
        obtain rfl : ln = 1 := of_decide_eq_true hck
        dsimp only at hs
        split at hs
        · exact lv_l2i hx hb hd rfl (hs H locs cells slots ls hR hS hl hc hk)
        · exact hs.elim
      | i2b =>
        obtain rfl : ln = 1 := of_decide_eq_true hck
        dsimp only at hs
        split at hs
        · exact lv_i2b hx hb hd rfl (hs H locs cells slots ls hR hS hl hc hk)
        · exact hs.elim
      | lcmp =>
        obtain rfl : ln = 1 := of_decide_eq_true hck
        dsimp only at hs
        split at hs
        · exact W.lcmp hx hb hd (hs H locs cells slots ls hR hS hl hc hk)
        · exact hs.elim
      | dup =>
        obtain rfl : ln = 1 := of_decide_eq_true hck
        dsimp only at hs
        split at hs
        · exact lv_dup hx hb hd (mm_cat1 hs.1) (hs.2 H locs cells slots ls hR hS hl hc hk)
        · exact hs.elim
      | pop =>
        obtain rfl : ln = 1 := of_decide_eq_true hck
        dsimp only at hs
        split at hs
        · exact lv_pop hx hb hd (mm_cat1 hs.1) (hs.2 H locs cells slots ls hR hS hl hc hk)
        · exact hs.elim
      | dup2 =>
        obtain rfl : ln = 1 := of_decide_eq_true hck
        dsimp only at hs
        split at hs
        · exact lv_dup2_11 hx hb hd (mm_cat1 hs.1) (mm_cat1 hs.2.1) (hs.2.2 H locs cells slots ls hR hS hl hc hk)
        · exact hs.elim
      | goto o =>
        simp only [Bool.and_eq_true, decide_eq_true_eq] at hck
        obtain ⟨rfl, e1⟩ := hck
        exact lv_goto hx hb hd (of_decide_eq_true e1) (hs H locs cells slots ls hR hS hl hc hk)
      | if_icmp cd o =>
        simp only [Bool.and_eq_true, decide_eq_true_eq] at hck
        obtain ⟨rfl, e1⟩ := hck
        have e1 := of_decide_eq_true e1
        dsimp only at hs
        split at hs
        · cases cd with
          | eq => exact lv_icmp_eq hx hb hd e1 (fun z => hs.1 z H locs cells slots ls hR hS hl hc hk) (fun z => hs.2 z H locs cells slots ls hR hS hl hc hk)
          | ne => exact lv_icmp_ne hx hb hd e1 (fun z => hs.1 z H locs cells slots ls hR hS hl hc hk) (fun z => hs.2 z H locs cells slots ls hR hS hl hc hk)
          | lt => exact lv_icmp_lt hx hb hd e1 (fun z => hs.1 z H locs cells slots ls hR hS hl hc hk) (fun z => hs.2 z H locs cells slots ls hR hS hl hc hk)
          | ge => exact lv_icmp_ge hx hb hd e1 (fun z => hs.1 z H locs cells slots ls hR hS hl hc hk) (fun z => hs.2 z H locs cells slots ls hR hS hl hc hk)
          | gt => exact lv_icmp_gt hx hb hd e1 (fun z => hs.1 z H locs cells slots ls hR hS hl hc hk) (fun z => hs.2 z H locs cells slots ls hR hS hl hc hk)
          | le => exact lv_icmp_le hx hb hd e1 (fun z => hs.1 z H locs cells slots ls hR hS hl hc hk) (fun z => hs.2 z H locs cells slots ls hR hS hl hc hk)
        · exact hs.elim
      | ifCond cd o =>
        simp only [Bool.and_eq_true, decide_eq_true_eq] at hck
        obtain ⟨rfl, e1⟩ := hck
        have e1 := of_decide_eq_true e1
        dsimp only at hs
        split at hs
        · cases cd with
          | eq => exact lv_if_eq hx hb hd e1 (fun z => hs.1 z H locs cells slots ls hR hS hl hc hk) (fun z => hs.2 z H locs cells slots ls hR hS hl hc hk)
          | ne => exact lv_if_ne hx hb hd e1 (fun z => hs.1 z H locs cells slots ls hR hS hl hc hk) (fun z => hs.2 z H locs cells slots ls hR hS hl hc hk)
          | lt => exact lv_if_lt hx hb hd e1 (fun z => hs.1 z H locs cells slots ls hR hS hl hc hk) (fun z => hs.2 z H locs cells slots ls hR hS hl hc hk)
          | ge => exact lv_if_ge hx hb hd e1 (fun z => hs.1 z H locs cells slots ls hR hS hl hc hk) (fun z => hs.2 z H locs cells slots ls hR hS hl hc hk)
          | gt => exact lv_if_gt hx hb hd e1 (fun z => hs.1 z H locs cells slots ls hR hS hl hc hk) (fun z => hs.2 z H locs cells slots ls hR hS hl hc hk)
          | le => exact lv_if_le hx hb hd e1 (fun z => hs.1 z H locs cells slots ls hR hS hl hc hk) (fun z => hs.2 z H locs cells slots ls hR hS hl hc hk)
        · exact hs.elim
      | ifnonnull o =>
        simp only [Bool.and_eq_true, decide_eq_true_eq] at hck
        obtain ⟨rfl, e1⟩ := hck
        have e1 := of_decide_eq_true e1
        dsimp only at hs
        split at hs
        · exact lv_ifnonnullN hx hb hd (hs H locs cells slots ls hR hS hl hc hk)
        · exact lv_ifnonnull hx hb hd e1 (hs H locs cells slots ls hR hS hl hc hk)
        · exact hs.elim
      | tableswitch df lo hi offs =>
        simp only [Bool.and_eq_true, decide_eq_true_eq] at hck
        obtain ⟨rfl, e1, e2, e3⟩ := hck
        have e2 := of_decide_eq_true e2
        dsimp only at hs
        split at hs
        · rename_i a st'
          obtain ⟨hts9, hs⟩ := hs
          by_cases hin : a.toInt < 0 ∨ hi < a.toInt
          · refine lv_tableOut hx hb hd hin e2 ?_
            refine mm_swOut (C := fun t => mm_C N0 sa ca D p l e R s m args below meth c (mm_mi md).2.2.1 mc ms Qf t lv st' h kc ks) ts 0 (fun j hj ee => ?_) hs H locs cells slots ls hR hS hl hc hk
            rw [Int32.zero_add] at ee
            have hj2 : (Int32.ofNat j).toInt = (j : Int) := nI_toInt (by omega)
            rw [ee, hj2] at hin
            omega
          · have h0 : ¬ a.toInt < 0 := fun z => hin (Or.inl z)
            have h1 : ¬ hi < a.toInt := fun z => hin (Or.inr z)
            have hj : a.toInt.toNat < ts.length := by omega
            obtain ⟨t, ht⟩ : ∃ t, ts[a.toInt.toNat]? = some t := ⟨_, List.getElem?_eq_getElem hj⟩
            have hlen : offs.toList.length = ts.length := by
              have := congrArg List.length e3
              simpa using this
            have hof : (offs.toList.map (fun o => (pc : Int) + o))[a.toInt.toNat]? = some ((t : Nat) : Int) := by rw [e3, List.getElem?_map, ht]; rfl
            rw [List.getElem?_map] at hof
            cases ho : offs.toList[a.toInt.toNat]? with
            | none => rw [ho] at hof; cases hof
            | some o =>
              rw [ho] at hof
              have hof : (pc : Int) + o = (t : Int) := Option.some.inj hof
              refine lv_tableIn (off := o) (tgt := t) hx hb hd h0 h1 (by rw [Int.sub_zero, ← Array.getElem?_toList]; exact ho) hof ?_
              refine mm_swIn (C := fun t => mm_C N0 sa ca D p l e R s m args below meth c (mm_mi md).2.2.1 mc ms Qf t lv st' h kc ks) ts 0 a.toInt.toNat t ht (by rw [Int32.zero_add]; exact mm_i32_of (by omega)) (fun i hi2 ee => ?_) hs H locs cells slots ls hR hS hl hc hk
              rw [Int32.zero_add] at ee
              have h31 : a.toInt < 2 ^ 31 := Int32.toInt_lt a
              have : (Int32.ofNat i).toInt = (i : Int) := nI_toInt (by omega)
              rw [ee, this] at hi2
              omega
        · exact hs.elim
      | getfield i =>
        simp only [Bool.and_eq_true, decide_eq_true_eq] at hck
        obtain ⟨rfl, e1⟩ := hck
        unfold mm_fchk at e1
        split at e1
        case h_2 => exact absurd e1 (by decide)
        rename_i C T N hcl
        simp only [Bool.and_eq_true, decide_eq_true_eq] at e1
        obtain ⟨f1, f2, f3⟩ := e1
        have hco := mm_cls hcl
        have hlk : (Cond.fieldLink (mm_mi md).1.cls i C (T r2).2.1 (T r2).2.2.1).before args s = true := hts _ (hTs _ (mm_in f3 rfl))
        dsimp only at hs
        split at hs
        case h_2 => exact hs.elim
        rename_i k st'
        split at hs
        case h_2 => exact hs.elim
        rename_i ci fs hcell
        obtain ⟨rfl, hs⟩ := hs
        split at hs
        case h_2 => exact hs.elim
        rename_i v hv
        refine va_get hx hb hts (fun w hw => hTs _ (hco.1 w hw)) hown hG.1 (mm_P1 (hR.2 k _ hcell).2) 0 rfl hcl r2 f1 (by rw [f2]; exact hlk) (fun _ z => z) (v := mm_v N0 sa v) ?_ hd (hs H locs cells slots ls hR hS hl hc hk)
        rw [List.getElem?_map, hv]
        rfl
      | putfield i =>
        simp only [Bool.and_eq_true, decide_eq_true_eq] at hck
        obtain ⟨rfl, e1, e2⟩ := hck
        unfold mm_fchk at e1
        split at e1
        case h_2 => exact absurd e1 (by decide)
        rename_i C T N hcl
        simp only [Bool.and_eq_true, decide_eq_true_eq] at e1
        obtain ⟨f1, f2, f3⟩ := e1
        have hco := mm_cls hcl
        have hlk : (Cond.fieldLink (mm_mi md).1.cls i C (T r2).2.1 (T r2).2.2.1).before args s = true := hts _ (hTs _ (mm_in f3 rfl))
        dsimp only at hs
        unfold mm_pchk at e2
        rw [hcl] at e2
        dsimp only at e2
        simp only [Bool.or_eq_true, Bool.and_eq_true, decide_eq_true_eq] at e2
        split at hs
        case h_2 => exact hs.elim
        rename_i v k st'
        split at hs
        case h_2 => exact hs.elim
        rename_i ci fs hcell
        obtain ⟨rfl, g1, g2, hs⟩ := hs
        have hfit := mm_fitV (N0 := N0) (sa := sa) _ _ g2
        refine mm_Wput hx hb hts (fun w hw => hTs _ (hco.1 w hw)) (mm_ft ci) hco.2.1 hco.2.2 hown hG.1 (hR.2 k _ hcell).2 (Nat.le_add_right N0 k) hS hcl r2 f1 (by rw [f2]; exact hlk) ?_ hfit.1 hfit.2 (by rw [List.length_map]; exact g1) hd (fun H1 locs1 z1 o1 a1 s1 => ?_)
        · rcases e2 with e2 | ⟨e2, e3, e4⟩
          · exact Or.inl e2
          · exact Or.inr ⟨e2, hnm e3, by rw [f2, e4]⟩
        · refine hs H1 locs1 cells slots ls (hR.up hcell z1 o1 ?_) s1 hl hc hk
          show va_at D vwCl (N0 + k, .inr (ci, (fs.set r2 v).map (mm_v N0 sa))) H1
          rw [List.map_set]
          exact a1
      | getstatic i =>
        simp only [Bool.and_eq_true, decide_eq_true_eq] at hck
        obtain ⟨rfl, e1, e2⟩ := hck
        split at e2
        · exact va_gets hx hb (hG.2.2.1 r1 e1) hS hown (hts _ (hTs _ (mm_in e2 rfl))) (fun _ z => z) hd (hs H locs cells slots ls hR hS hl hc hk)
        · exact va_getsN hx hb (hG.2.2.1 r1 e1) hS hown (va_Nw.use rfl (hG.2.2.2.1 _ (mm_has_in e2) rfl)) (fun _ z => z) hd (hs H locs cells slots ls hR hS hl hc hk)
      | iaload =>
        obtain rfl : ln = 1 := of_decide_eq_true hck
        dsimp only at hs
        split at hs
        · split at hs
          · rename_i hcell
            exact va_iald hx hb hG.1 (mm_P1 (hR.2 _ _ hcell).2) 0 0 rfl rfl hs.1 hd (hs.2 H locs cells slots ls hR hS hl hc hk)
          · exact hs.elim
        · exact mm_Wtld hx hb (hG.2.1 _) hS hs.1 hd (hs.2 H locs cells slots ls hR hS hl hc hk)
        · exact hs.elim
      | baload =>
        obtain rfl : ln = 1 := of_decide_eq_true hck
        dsimp only at hs
        split at hs
        · split at hs
          · rename_i hcell
            exact va_bald hx hb hG.1 (mm_P1 (hR.2 _ _ hcell).2) 0 1 rfl rfl hs.1 hd (hs.2 H locs cells slots ls hR hS hl hc hk)
          · rename_i hcell
            exact va_zald hx hb hG.1 (mm_P1 (hR.2 _ _ hcell).2) 0 2 rfl rfl hs.1 hd (hs.2 H locs cells slots ls hR hS hl hc hk)
          · exact hs.elim
        · exact hs.elim
      | aaload =>
        obtain rfl : ln = 1 := of_decide_eq_true hck
        dsimp only at hs
        split at hs
        · split at hs
          · rename_i ci n f hcell
            obtain ⟨hci, hin, hs⟩ := hs
            have h3 := hs H locs cells slots ls hR hS hl hc hk
            rw [List.map_cons, ← mm_rfV] at h3
            rcases hci with rfl | rfl
            · exact va_aldq hx hb hG.1 (mm_P1 (hR.2 _ _ hcell).2) 0 3 rfl rfl hin hd h3
            · exact va_aldq hx hb hG.1 (mm_P1 (hR.2 _ _ hcell).2) 0 4 rfl rfl hin hd h3
          · exact hs.elim
        · exact hs.elim
      | iastore =>
        obtain rfl : ln = 1 := of_decide_eq_true hck
        dsimp only at hs
        split at hs
        · split at hs
          · rename_i hcell
            exact mm_Wiast hx hb hG.1 hS (Nat.le_add_right N0 _) 0 (hR.2 _ _ hcell).2 rfl hs.1 hd (fun H1 locs1 z1 o1 a1 s1 => hs.2 H1 locs1 cells slots ls (hR.up hcell z1 o1 a1) s1 hl hc hk)
          · exact hs.elim
        · exact hs.elim
      | bastore =>
        obtain rfl : ln = 1 := of_decide_eq_true hck
        dsimp only at hs
        split at hs
        · split at hs
          · rename_i hcell
            exact mm_Wbast hx hb hG.1 hS (Nat.le_add_right N0 _) 1 (hR.2 _ _ hcell).2 rfl hs.1 hd (fun H1 locs1 z1 o1 a1 s1 => hs.2 H1 locs1 cells slots ls (hR.up hcell z1 o1 a1) s1 hl hc hk)
          · rename_i hcell
            exact mm_Wzast hx hb hG.1 hS (Nat.le_add_right N0 _) 2 (hR.2 _ _ hcell).2 rfl hs.1 hd (fun H1 locs1 z1 o1 a1 s1 => hs.2 H1 locs1 cells slots ls (hR.up hcell z1 o1 a1) s1 hl hc hk)
          · exact hs.elim
        · exact hs.elim
      | aastore =>
        obtain rfl : ln = 1 := of_decide_eq_true hck
        dsimp only at hs
        split at hs
        · split at hs
          · rename_i ci n f cj fs hcell hcell2
            obtain ⟨rfl, hci, hin, hs⟩ := hs
            have kk : ∀ (H1 : Heap) (locs1 : List Loc), H1.size = H.size → (∀ q : Nat, q ≠ N0 + _ → H1[q]? = H[q]?) → va_at D vwCl (N0 + _, .inl (ca (.object (mm_cn ci)), n, .inr (.inr (.inr (.inr (va_up (fun j => (f j).map (fun k => N0 + k)) _ (some (N0 + _)))))))) H1 → va_S (fun q => N0 ≤ q) s.heap H1 locs1 → W p l e R s m args below meth c H1 locs1 cells slots Qf (F0 m (pc + 1) ls _) := fun H1 locs1 z1 o1 a1 s1 => hs H1 locs1 cells slots ls (hR.up hcell z1 o1 (by
              show va_at D vwCl (N0 + _, .inl (ca (.object (mm_cn ci)), n, .inr (.inr (.inr (.inr (fun j => (va_up f _ (some _) j).map (fun k => N0 + k))))))) H1
              rw [mm_upq]
              exact a1)) s1 hl hc hk
            rcases hci with rfl | rfl
            · exact mm_Wastq hx hb hG.1 hS (Nat.le_add_right N0 _) 3 1 (hR.2 _ _ hcell).2 rfl (hR.2 _ _ hcell2).2 rfl hin hd kk
            · exact mm_Wastq hx hb hG.1 hS (Nat.le_add_right N0 _) 4 5 (hR.2 _ _ hcell).2 rfl (hR.2 _ _ hcell2).2 rfl hin hd kk
          · exact hs.elim
        · exact hs.elim
      | arraylength =>
        obtain rfl : ln = 1 := of_decide_eq_true hck
        dsimp only at hs
        split at hs
        · split at hs
          · rename_i hcell
            exact va_alen hx hb hG.1 (mm_P1 (hR.2 _ _ hcell).2) 0 0 rfl rfl rfl hd (hs H locs cells slots ls hR hS hl hc hk)
          · rename_i hcell
            exact va_alen hx hb hG.1 (mm_P1 (hR.2 _ _ hcell).2) 0 1 rfl rfl rfl hd (hs H locs cells slots ls hR hS hl hc hk)
          · exact hs.elim
        · exact mm_Wtlen hx hb (hG.2.1 _) hS hd (hs H locs cells slots ls hR hS hl hc hk)
        · exact hs.elim
      | newarray ty =>
        simp only [Bool.and_eq_true, decide_eq_true_eq] at hck
        obtain ⟨rfl, e1⟩ := hck
        dsimp only at hs
        split at hs
        case h_2 => exact hs.elim
        rename_i n st'
        obtain ⟨g1, g2, g3, g4, hs⟩ := hs
        have key : ∀ (harr : (Cond.arrayClass (newarray.typeOf ty)).before args s = true) (hcA : s.vm.findClass ("[" ++ (newarray.typeOf ty).toString) = some (ca (newarray.typeOf ty))) (hdv : defaultValue (newarray.typeOf ty) = .int 0) (hbt : n.toNatClampNeg * componentBytes (newarray.typeOf ty) ≤ 536870912), W p l e R s m args below meth c H locs cells slots Qf (F0 m pc ls (.int n :: st'.map (mm_v N0 sa))) := by
          intro harr hcA hdv hbt
          refine mm_Wnewa (D := D) (cl := vwCl) hx hb harr hcA hdv hS g1 rfl hbt (by omega) (by omega) hd (fun H1 z1 o1 a1 s1 => ?_)
          have := hs H1 locs (cells + 1) (slots + n.toNatClampNeg) ls (hR.al z1 o1 a1) s1 hl (by omega) (by omega)
          rw [hR.1]
          exact this
        have hK2 := hG.1.2
        simp only [Bool.or_eq_true, decide_eq_true_eq] at e1
        cases ty with
        | int => exact key (hts _ (hTs _ (mm_in (i := 96) (by decide +kernel) rfl))) (hK2 0 _ rfl).2 rfl (by show n.toNatClampNeg * 4 ≤ _; omega)
        | byte => exact key (hts _ (hTs _ (mm_in (i := 95) (by decide +kernel) rfl))) (hK2 1 _ rfl).2 rfl (by show n.toNatClampNeg * 1 ≤ _; omega)
        | boolean => exact key (hts _ (hTs _ (mm_in (i := 857) (by decide +kernel) rfl))) (hK2 2 _ rfl).2 rfl (by show n.toNatClampNeg * 1 ≤ _; omega)
        | _ => simp [newarray.typeOf] at e1
      | anewarray i =>
        simp only [Bool.and_eq_true, decide_eq_true_eq] at hck
        obtain ⟨rfl, e1, e2⟩ := hck
        dsimp only at hs
        split at hs
        case h_2 => exact hs.elim
        rename_i n st'
        obtain ⟨g1, g2, g3, g4, hs⟩ := hs
        have key : ∀ (hov : va_AO (mm_cn r1) s) (hcA : s.vm.findClass ("[" ++ (FieldType.object (mm_cn r1)).toString) = some (ca (.object (mm_cn r1)))), W p l e R s m args below meth c H locs cells slots Qf (F0 m pc ls (.int n :: st'.map (mm_v N0 sa))) := by
          intro hov hcA
          refine mm_Wnewq (D := D) (cl := vwCl) hx hb hown (hts _ (hTs _ (mm_in e1 rfl))) hov hcA hS g1 rfl (by omega) (by omega) (by omega) hd (fun H1 z1 o1 a1 s1 => ?_)
          have := hs H1 locs (cells + 1) (slots + n.toNatClampNeg) ls (hR.al z1 o1 a1) s1 hl (by omega) (by omega)
          rw [hR.1]
          exact this
        have hK2 := hG.1.2
        simp only [Bool.or_eq_true, decide_eq_true_eq] at e2
        rcases e2 with rfl | rfl
        · obtain ⟨_, _, _, _, _, z⟩ := (hK2 3 _ rfl).2
          exact key hG.2.2.2.2.1 z
        · obtain ⟨_, _, _, _, _, z⟩ := (hK2 4 _ rfl).2
          exact key hG.2.2.2.2.2 z
      | new i =>
        simp only [Bool.and_eq_true, decide_eq_true_eq] at hck
        obtain ⟨rfl, e1, e2, e3, e4⟩ := hck
        dsimp only at hs
        obtain ⟨g1, g2, hs⟩ := hs
        obtain ⟨q, hq⟩ : ∃ q, vwCl[r1]? = some q := by
          match r1, e4 with
          | 0, _ => exact ⟨_, rfl⟩
          | 1, _ => exact ⟨_, rfl⟩
          | 2, _ => exact ⟨_, rfl⟩
          | 3, _ => exact ⟨_, rfl⟩
          | 4, _ => exact ⟨_, rfl⟩
          | 5, _ => exact ⟨_, rfl⟩
          | 6, _ => exact ⟨_, rfl⟩
          | 7, _ => exact ⟨_, rfl⟩
          | 8, _ => exact ⟨_, rfl⟩
        obtain ⟨C, T, N⟩ := q
        have hco := mm_cls hq
        have hN1 : mm_nf r1 = N := by unfold mm_nf; rw [hq]
        have hC1 : mm_cn r1 = C := by unfold mm_cn; rw [hq]
        rw [hN1, hC1] at e2
        rw [hC1] at e1 e3
        rw [hN1] at g2 hs
        refine mm_Wnew hx hb hts (fun w hw => hTs _ (hco.1 w hw)) (mm_ft r1) hco.2.1 hown (hts _ (hTs _ (mm_in e1 rfl))) (hts _ (hTs _ (mm_in e2 rfl))) (hts _ (hTs _ (mm_in e3 rfl))) hG.1 hS hq (mm_dfV (N0 := N0) (sa := sa) hq) (by omega) (by show slots + N ≤ _; omega) hd (fun H1 z1 o1 a1 s1 => ?_)
        have := hs H1 locs (cells + 1) (slots + N) ls (hR.al z1 o1 a1) s1 hl (by omega) (by omega)
        rw [hR.1]
        exact this
      | invokespecial i =>
        simp only [Bool.and_eq_true, decide_eq_true_eq] at hck
        obtain ⟨rfl, e1⟩ := hck
        dsimp only at hs
        by_cases hob : r1 = 1000
        · rw [if_pos hob] at hs e1
          split at hs
          · rename_i k st'
            have hw := lv_room (m := m) (pc := pc) (ls := ls) (rest := (vR k :: st').map (mm_v N0 sa)) (mm_words (N0 := N0) (sa := sa) st' (by rw [List.length_map]; exact hs.1))
            exact W.objInit hx hb hown (hts _ (hTs _ (mm_in e1 rfl))) (hts _ (hTs _ (mm_in (i := 68) mm_obj1 rfl))) (hts _ (hTs _ (mm_in (i := 69) mm_obj2 rfl))) rfl (hl.1.trans hml.symm) rfl hd (by omega) (Nat.le_trans (Nat.add_le_add_right hw 12) (by omega)) (hs.2 H locs cells slots ls hR hS hl hc hk)
          · exact hs.elim
        · rw [if_neg hob] at hs e1
          simp only [Bool.and_eq_true, decide_eq_true_eq] at e1
          obtain ⟨c1, c2, c3, c4, c5, c6, c7, c8⟩ := e1
          refine mm_callI hok X0 hRc hRs hM c1 c2 c3 c4 ?_ (mm_in c5 rfl) (mm_in c6 rfl) (by rw [c4]; exact mm_in c7 rfl) hs.1 hs.2 hR hS hl hc hk hd
          split at c8
          · exact Or.inl (mm_in c8 rfl)
          · exact Or.inr (hG.2.2.2.1 _ (mm_has_in c8) rfl)
      | invokevirtual i =>
        simp only [Bool.and_eq_true, decide_eq_true_eq] at hck
        obtain ⟨rfl, c1, c2, c3, c4, c5, c6, c7⟩ := hck
        dsimp only at hs
        exact mm_callV hok X0 hRc hRs hM c1 c2 (mm_in c3 rfl) (mm_in c4 rfl) (mm_in c5 rfl) (mm_in c6 rfl) (mm_in c7 rfl) hs.1 hs.2 hR hS hl hc hk hd
      | invokestatic i =>
        simp only [Bool.and_eq_true, decide_eq_true_eq] at hck
        obtain ⟨rfl, e1⟩ := hck
        dsimp only at hs
        by_cases hob : r1 = 1001
        · rw [if_pos hob] at hs e1
          split at hs
          · split at hs
            · rename_i hc1 hc2
              obtain ⟨g0, g1, g2, g3, g4, g5, hs⟩ := hs
              have hw := mm_words (N0 := N0) (sa := sa) _ (by rw [List.length_map]; exact g0)
              exact mm_Wcpy hx hb (hml.trans hl.1.symm) hown (hts _ (hTs _ (mm_in e1 rfl))) (hts _ (hTs _ (mm_in (i := 263) mm_cp1 rfl))) (hts _ (hTs _ (mm_in (i := 262) mm_cp2 rfl))) (hts _ (hTs _ (mm_in (i := 57) mm_cp3 rfl))) hG.1 hS (Nat.le_add_right N0 _) 0 (hR.2 _ _ hc1).2 (hR.2 _ _ hc2).2 rfl g1 g2 g3 g4 g5 (by omega) (by rw [mm_nfw]; omega) hd (fun H1 locs1 z1 o1 a1 s1 => hs H1 locs1 cells slots ls (hR.up hc2 z1 o1 a1) s1 hl hc hk)
            · exact hs.elim
          · exact hs.elim
        · rw [if_neg hob] at hs e1
          simp only [Bool.and_eq_true, decide_eq_true_eq] at e1
          obtain ⟨c1, c3, c4, c6, c7⟩ := e1
          exact mm_callS hok X0 hRc hRs hM c1 (mm_in c3 rfl) (mm_in c4 rfl) (mm_in c6 rfl) (mm_in c7 rfl) hs hR hS hl hc hk hd
      | ireturn =>
        obtain rfl : ln = 1 := of_decide_eq_true hck
        dsimp only at hs
        split at hs
        · exact hri H locs cells slots ls pc _ h hd hs.1 hs.2 hR hS (by omega) (by omega)
        · exact hs.elim
      | lreturn =>
        obtain rfl : ln = 1 := of_decide_eq_true hck
        dsimp only at hs
        split at hs
        · exact hrl H locs cells slots ls pc _ h hd hs.1 hs.2 hR hS (by omega) (by omega)
        · exact hs.elim
      | return_ =>
        obtain rfl : ln = 1 := of_decide_eq_true hck
        dsimp only at hs
        split at hs
        · exact hrv H locs cells slots ls pc _ h hd hs.1 rfl hs.2 hR hS (by omega) (by omega)
        · exact hs.elim
      | _ => exact False.elim hs
  · obtain ⟨z, hz, rfl⟩ := List.mem_map.mp hq
    exact List.mem_map.mpr ⟨z, hsub z hz, rfl⟩
end MMC
