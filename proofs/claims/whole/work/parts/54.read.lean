/-! reading the text -/
/-- the figure below b at place p of the text -/
def fg (t : List Nat) (p b : Nat) : Option Nat := if p < t.length ∧ 48 ≤ t.getD p 0 ∧ t.getD p 0 < 48 + b then some (t.getD p 0 - 48) else none
def oI : Option Nat → Int32
  | none => mI 9
  | some n => nI n
/-- a row of n books from p on: the fault's place, if there is one, and the row -/
def rdR (t : List Nat) (n p : Nat) : Nat → List Nat → Option Nat × List Nat
  | 0, acc => (none, acc)
  | r + 1, acc => match fg t (p + acc.length) n with
    | none => (some (p + acc.length), acc)
    | some b => if b ∈ acc then (some (p + acc.length), acc) else rdR t n p r (acc ++ [b])
/-- the parts from p on: the fault's place, the catalogue, the readers -/
def rdP (t : List Nat) (n : Nat) : Nat → Bool → List Nat → List (Nat × Nat) → Nat → Option Nat × List Nat × List (Nat × Nat)
  | 0, _, cat, rds, _ => (none, cat, rds)
  | f + 1, li, cat, rds, p =>
    if p < t.length then
      (if t.getD p 0 = 67 ∧ li = false then
        (match rdR t n (p + 1) n [] with
          | (some q, c) => (some q, c, rds)
          | (none, c) => rdP t n f true c rds (p + 1 + n))
      else if t.getD p 0 = 82 ∧ rds.length < 4 then
        (match fg t (p + 1) n with
          | none => (some (p + 1), cat, rds)
          | some w => (match fg t (p + 2) 10 with
            | none => (some (p + 2), cat, rds)
            | some v => rdP t n f li cat (rds ++ [(w, v)]) (p + 3)))
      else (some p, cat, rds))
    else (none, cat, rds)
/-- the whole: the fault, or law, books, shelf, catalogue, readers -/
def RD (t : List Nat) : Nat ⊕ (Nat × Nat × List Nat × List Nat × List (Nat × Nat)) :=
  if t.length = 0 ∨ ¬ t.getD 0 0 = 76 then .inl 0 else
  match fg t 1 3 with
  | none => .inl 1
  | some lw => match fg t 2 9 with
    | none => .inl 2
    | some n => if n < 2 then .inl 2 else
      match rdR t n 3 n [] with
      | (some q, _) => .inl q
      | (none, sh) => match rdP t n 40 false sh [] (3 + n) with
        | (some q, _) => .inl q
        | (none, cat, rds) => .inr (lw, n, sh, cat, rds)
theorem fg_lt {t : List Nat} {p b v : Nat} (h : fg t p b = some v) : v < b ∧ p < t.length := by
  unfold fg at h
  split at h
  · rename_i c
    have := Option.some.inj h
    omega
  · exact absurd h (by simp)
theorem rdR_ok {t : List Nat} {n p : Nat} : ∀ (r : Nat) (acc : List Nat), acc.Nodup → (∀ v ∈ acc, v < n) → (rdR t n p r acc).2.Nodup ∧ (∀ v ∈ (rdR t n p r acc).2, v < n) ∧ ((rdR t n p r acc).1 = none → (rdR t n p r acc).2.length = acc.length + r) ∧ ∀ q, (rdR t n p r acc).1 = some q → q ≤ p + acc.length + r
  | 0, acc, h1, h2 => ⟨h1, h2, fun _ => rfl, fun q h => absurd h (by simp [rdR])⟩
  | r + 1, acc, h1, h2 => by
    unfold rdR
    cases hf : fg t (p + acc.length) n with
    | none => exact ⟨h1, h2, fun h => absurd h (by simp), fun q h => by have := Option.some.inj h; omega⟩
    | some b =>
      have hb := fg_lt hf
      by_cases hm : b ∈ acc
      · simp only [if_pos hm]
        exact ⟨h1, h2, fun h => absurd h (by simp), fun q h => by have := Option.some.inj h; omega⟩
      · simp only [if_neg hm]
        have ih := rdR_ok (t := t) (n := n) (p := p) r (acc ++ [b]) (List.nodup_append.mpr ⟨h1, by simp, fun a ha c hc => by
          rw [List.mem_singleton] at hc
          intro e
          exact hm (by rw [← hc, ← e]; exact ha)⟩) (fun v hv => by
          rcases List.mem_append.mp hv with h | h
          · exact h2 v h
          · rw [List.mem_singleton] at h
            omega)
        have hl : (acc ++ [b]).length = acc.length + 1 := by simp
        rw [hl] at ih
        exact ⟨ih.1, ih.2.1, fun h => (ih.2.2.1 h).trans (by omega), fun q h => by have := ih.2.2.2 q h; omega⟩
theorem byte_v : ∀ c, c < 256 → (nI c).toInt8.toInt32 = if c < 128 then nI c else mI (256 - c) := by decide +kernel
abbrev sp_29 : List Nat := []
section G29
variable {tb : Nat → Nat × (Nat → Int32)} {call : CO} {Q : AQ} {C : CP} {lv : AL} {st : List AV} {h : AH} {kc ks : Nat}
theorem g29_0  : mm_step (mm_rw mr_29) (some .int) tb call Q C 0 lv st h kc ks = (match mm_rd lv 2 with
    | some (.inl a) => C 1 lv (vI a :: st) h kc ks
    | _ => False) := rfl
theorem g29_1  : mm_step (mm_rw mr_29) (some .int) tb call Q C 1 lv st h kc ks = (match mm_rd lv 1 with
    | some (.inl a) => C 2 lv (vI a :: st) h kc ks
    | _ => False) := rfl
theorem g29_2 (a b : Int32) : mm_step (mm_rw mr_29) (some .int) tb call Q C 2 lv (.inl b :: .inl a :: st) h kc ks = ((b ≤ a → C 17 lv st h kc ks) ∧ (¬ b ≤ a → C 5 lv st h kc ks)) := rfl
theorem g29_5  : mm_step (mm_rw mr_29) (some .int) tb call Q C 5 lv st h kc ks = (match mm_rd lv 2 with
    | some (.inl a) => C 6 lv (vI a :: st) h kc ks
    | _ => False) := rfl
theorem g29_6  : mm_step (mm_rw mr_29) (some .int) tb call Q C 6 lv st h kc ks = (match mm_rd lv 0 with
    | some (.inr (.inr (.inl (some k)))) => C 7 lv (vR k :: st) h kc ks
    | some (.inr (.inr (.inr t))) => C 7 lv (vT t :: st) h kc ks
    | _ => False) := rfl
theorem g29_7 (k : Nat) : mm_step (mm_rw mr_29) (some .int) tb call Q C 7 lv (.inr (.inr (.inl (some k))) :: st) h kc ks = (match h.2 k with
    | some (.inl (.int, n, _)) => C 8 lv (vI (Int32.ofNat n) :: st) h kc ks
    | some (.inl (.byte, n, _)) => C 8 lv (vI (Int32.ofNat n) :: st) h kc ks
    | _ => False) := rfl
theorem g29_7t (t : Nat) : mm_step (mm_rw mr_29) (some .int) tb call Q C 7 lv (.inr (.inr (.inr t)) :: st) h kc ks = (C 8 lv (vI (Int32.ofNat (tb t).1) :: st) h kc ks) := rfl
theorem g29_8 (a b : Int32) : mm_step (mm_rw mr_29) (some .int) tb call Q C 8 lv (.inl b :: .inl a :: st) h kc ks = ((b ≤ a → C 17 lv st h kc ks) ∧ (¬ b ≤ a → C 11 lv st h kc ks)) := rfl
theorem g29_11  : mm_step (mm_rw mr_29) (some .int) tb call Q C 11 lv st h kc ks = (match mm_rd lv 0 with
    | some (.inr (.inr (.inl (some k)))) => C 12 lv (vR k :: st) h kc ks
    | some (.inr (.inr (.inr t))) => C 12 lv (vT t :: st) h kc ks
    | _ => False) := rfl
theorem g29_12  : mm_step (mm_rw mr_29) (some .int) tb call Q C 12 lv st h kc ks = (match mm_rd lv 2 with
    | some (.inl a) => C 13 lv (vI a :: st) h kc ks
    | _ => False) := rfl
theorem g29_13 (i : Int32) (k : Nat) : mm_step (mm_rw mr_29) (some .int) tb call Q C 13 lv (.inl i :: .inr (.inr (.inl (some k))) :: st) h kc ks = (match h.2 k with
    | some (.inl (.byte, n, f)) => vp_in i n ∧ C 14 lv (vI (f i.toNatClampNeg) :: st) h kc ks
    | some (.inl (.boolean, n, f)) => vp_in i n ∧ C 14 lv (vI (f i.toNatClampNeg) :: st) h kc ks
    | _ => False) := rfl
theorem g29_14  : mm_step (mm_rw mr_29) (some .int) tb call Q C 14 lv st h kc ks = (C 19 lv st h kc ks) := rfl
theorem g29_17  : mm_step (mm_rw mr_29) (some .int) tb call Q C 17 lv st h kc ks = (C 19 lv (vI (mI 9) :: st) h kc ks) := rfl
theorem g29_19 (v : Int32) : mm_step (mm_rw mr_29) (some .int) tb call Q C 19 lv [.inl v] h kc ks = (True ∧ Q (some (vI v)) h) := rfl
end G29

abbrev sp_30 : List Nat := [6]
section G30
variable {tb : Nat → Nat × (Nat → Int32)} {call : CO} {Q : AQ} {C : CP} {lv : AL} {st : List AV} {h : AH} {kc ks : Nat}
theorem g30_0  : mm_step (mm_rw mr_30) (some .int) tb call Q C 0 lv st h kc ks = (match mm_rd lv 0 with
    | some (.inr (.inr (.inl (some k)))) => C 1 lv (vR k :: st) h kc ks
    | some (.inr (.inr (.inr t))) => C 1 lv (vT t :: st) h kc ks
    | _ => False) := rfl
theorem g30_1  : mm_step (mm_rw mr_30) (some .int) tb call Q C 1 lv st h kc ks = (match mm_rd lv 1 with
    | some (.inl a) => C 2 lv (vI a :: st) h kc ks
    | _ => False) := rfl
theorem g30_2  : mm_step (mm_rw mr_30) (some .int) tb call Q C 2 lv st h kc ks = (match mm_rd lv 2 with
    | some (.inl a) => C 3 lv (vI a :: st) h kc ks
    | _ => False) := rfl
theorem g30_3  : mm_step (mm_rw mr_30) (some .int) tb call Q C 3 lv st h kc ks = (mm_call call C 29 3 3 lv st h kc ks) := rfl
theorem g30_6  : mm_step (mm_rw mr_30) (some .int) tb call Q C 6 lv st h kc ks = (C 8 lv (vI 48 :: st) h kc ks) := rfl
theorem g30_8 (a b : Int32) : mm_step (mm_rw mr_30) (some .int) tb call Q C 8 lv (.inl b :: .inl a :: st) h kc ks = (C 9 lv (vI (a - b) :: st) h kc ks) := rfl
theorem g30_9 (a : Int32) : mm_step (mm_rw mr_30) (some .int) tb call Q C 9 lv (.inl a :: st) h kc ks = (C 11 (mm_st1 lv 4 (vI a)) st h kc ks) := rfl
theorem g30_11  : mm_step (mm_rw mr_30) (some .int) tb call Q C 11 lv st h kc ks = (match mm_rd lv 4 with
    | some (.inl a) => C 13 lv (vI a :: st) h kc ks
    | _ => False) := rfl
theorem g30_13 (a : Int32) : mm_step (mm_rw mr_30) (some .int) tb call Q C 13 lv (.inl a :: st) h kc ks = ((a < 0 → C 27 lv st h kc ks) ∧ (¬ a < 0 → C 16 lv st h kc ks)) := rfl
theorem g30_16  : mm_step (mm_rw mr_30) (some .int) tb call Q C 16 lv st h kc ks = (match mm_rd lv 4 with
    | some (.inl a) => C 18 lv (vI a :: st) h kc ks
    | _ => False) := rfl
theorem g30_18  : mm_step (mm_rw mr_30) (some .int) tb call Q C 18 lv st h kc ks = (match mm_rd lv 3 with
    | some (.inl a) => C 19 lv (vI a :: st) h kc ks
    | _ => False) := rfl
theorem g30_19 (a b : Int32) : mm_step (mm_rw mr_30) (some .int) tb call Q C 19 lv (.inl b :: .inl a :: st) h kc ks = ((b ≤ a → C 27 lv st h kc ks) ∧ (¬ b ≤ a → C 22 lv st h kc ks)) := rfl
theorem g30_22  : mm_step (mm_rw mr_30) (some .int) tb call Q C 22 lv st h kc ks = (match mm_rd lv 4 with
    | some (.inl a) => C 24 lv (vI a :: st) h kc ks
    | _ => False) := rfl
theorem g30_24  : mm_step (mm_rw mr_30) (some .int) tb call Q C 24 lv st h kc ks = (C 29 lv st h kc ks) := rfl
theorem g30_27  : mm_step (mm_rw mr_30) (some .int) tb call Q C 27 lv st h kc ks = (C 29 lv (vI (mI 9) :: st) h kc ks) := rfl
theorem g30_29 (v : Int32) : mm_step (mm_rw mr_30) (some .int) tb call Q C 29 lv [.inl v] h kc ks = (True ∧ Q (some (vI v)) h) := rfl
end G30

section READ
variable {tb : Nat → Nat × (Nat → Int32)} {d : Nat} {s : MM} {g : SG}
def TxC (s : MM) (t : List Nat) : Prop := t.length ≤ 40 ∧ (∀ c ∈ t, c < 256) ∧ ∀ j, j < t.length → s.1 1 j = (nI (t.getD j 0)).toInt8.toInt32
def sg (t : List Nat) (p : Nat) : Int32 := if p < t.length then (nI (t.getD p 0)).toInt8.toInt32 else mI 9
theorem C_signAt {t : List Nat} (hT : TxC s t) {p : Nat} (hp : p < 2 ^ 31) : WM tb (d + 1) k_Plan_signAt [vR 1, vI (nI t.length), vI (nI p)] (HP s) 0 0 (fun z h' => z = some (vI (sg t p)) ∧ h' = HP s) := by
  obtain ⟨h40, hc, ht⟩ := hT
  have hcl : (nI p).toNatClampNeg = p := nI_clamp hp
  refine WM.of mi_29 rfl rfl (Nat.le_of_ble_eq_true rfl) ?_
  show WP (mm_rw mr_29) (some .int) tb (WM tb d) _ 0 [(0, vR 1), (1, vI (nI t.length)), (2, vI (nI p))] [] (HP s) 0 0
  (try simp only [Option.toList_some, Option.toList_none, List.nil_append, List.append_nil, List.cons_append, Nat.sub_zero, Nat.sub_self, Nat.zero_sub]); refine Go.wp sp_29 200 ?_; simp only [↓g29_0, ↓g29_1, ↓g29_2, ↓g29_5, ↓g29_6, ↓g29_7, ↓g29_7t, ↓g29_8, ↓g29_11, ↓g29_12, ↓g29_13, ↓g29_14, ↓g29_17, ↓g29_19, ↓Go_s, ↓GoC_a, ↓reduceIte, ↓mm_call_eq, ↓mmw_nil, ↓mmw_cons, List.take_succ_cons, List.take_zero, List.take_nil, List.drop_succ_cons, List.drop_zero, List.drop_nil, List.reverse_cons, List.reverse_nil, List.nil_append, List.cons_append, List.append_nil, Option.toList_some, Option.toList_none, Nat.sub_zero, Nat.le_refl, mmr_cons, mm_st1, mm_st2, mmi_nil, mmi_cons, mmc_I, mmc_L, mmc_R, mmu_get, mmu_one, mma_get, mma_one, List.filter_cons, List.filter_nil, List.contains_cons, List.contains_nil, Nat.reduceBEq, Nat.reduceAdd, Nat.reduceLT, Nat.reduceSub, Nat.reduceLeDiff, Nat.reduceEqDiff, Int32.reduceAdd, Bool.not_true, Bool.not_false, Bool.and_true, Bool.true_and, Bool.and_false, Bool.false_and, Bool.or_false, Bool.false_or, Bool.or_true, Bool.true_or, if_true, if_false, ite_true, ite_false, Bool.false_eq_true, List.getElem?_cons_zero, List.getElem?_cons_succ, List.length_cons, List.length_nil, true_and, and_true, List.set_cons_zero, List.set_cons_succ, Fin.isValue, Fin.val_zero, Fin.val_one, Fin.val_two, Fin.reduceFinMk, Nat.zero_add, hp_0, hp_1, hp_2, hp_3, hp_4, hp_5, hp_6, hp_7, hp_8, hp_9, hp_10, hp_11, hp_12, hp_13, hp_14, hp_15, hp_16, hp_17, hp_18, hp_19, hp_20, hp_21, hp_22, hp_23, hp_24, hp_25, hp_26, hp_27, hp_28, hp_29, hp_30, hp_31, hp_32, hp_33, hp_34, hp_35, hp_36, hp_37, hp_38, hp_39, hp_40, hp_41, hp_42, hp_43, hp_44, hp_45, hp_46, hp_47, hp_48, hp_49, hp_50, hp_51, hp_52, hp_53, hp_54, hp_55, hp_56, hp_57, hp_58, hp_59, hp_60, hp_61, hp_62, hp_63, hp_64, hp_65, hp_66, hp_67, hp_68, hp_69, hp_70, hp_71, hp_72, hp_73, hp_74, og_0_0, og_0_1, og_0_2, og_0_3, og_0_4, og_0_5, og_0_6, og_0_7, og_0_8, og_0_9, og_0_10, og_0_11, og_0_12, og_0_13, ol_0, og_2_0, og_2_1, og_2_2, og_2_3, og_2_4, og_2_5, og_2_6, ol_2, og_3_0, og_3_1, ol_3, og_5_0, og_5_1, ol_5, og_9_0, og_9_1, og_9_2, og_9_3, og_9_4, og_9_5, og_9_6, ol_9, og_10_0, og_10_1, ol_10, og_12_0, og_12_1, ol_12, og_16_0, og_16_1, og_16_2, ol_16, og_17_0, og_17_1, ol_17, og_21_0, og_21_1, og_21_2, og_21_3, og_21_4, ol_21, og_27_0, og_27_1, og_27_2, og_27_3, og_27_4, og_27_5, og_27_6, og_27_7, og_27_8, og_27_9, og_27_10, ol_27, og_35_0, og_35_1, ol_35, og_37_0, og_37_1, ol_37, og_39_0, og_39_1, ol_39, og_41_0, og_41_1, ol_41, og_43_0, og_43_1, ol_43, og_45_0, og_45_1, ol_45, og_47_0, og_47_1, ol_47, og_49_0, og_49_1, og_49_2, og_49_3, ol_49, og_53_0, og_53_1, ol_53, og_55_0, og_55_1, ol_55, og_57_0, og_57_1, ol_57, og_59_0, og_59_1, ol_59, og_61_0, og_61_1, ol_61, og_63_0, og_63_1, ol_63, og_65_0, og_65_1, og_65_2, ol_65, og_66_0, og_66_1, ol_66, og_70_0, og_70_1, og_70_2, ol_70, og_71_0, og_71_1, ol_71, uo_0_1, uo_0_4, uo_0_8, ua_1, uo_2_0, uo_2_1, uo_2_2, uo_3_1, ua_4, uo_5_1, ua_6, ua_7, ua_8, uo_9_0, uo_9_1, uo_9_2, uo_10_1, ua_11, uo_12_1, ua_13, ua_14, ua_15, uo_17_1, ua_18, ua_19, ua_20, uo_21_4, ua_22, ua_23, ua_24, ua_25, uo_27_2, uo_27_6, uo_27_7, uo_27_8, ua_28, ua_29, ua_31, ua_32, ua_33, ua_34, uo_35_1, ua_36, uo_37_1, ua_38, uo_39_1, ua_40, uo_41_1, ua_42, uo_43_1, ua_44, uo_45_1, ua_46, uo_47_1, ua_48, uo_49_3, ua_51, ua_52, uo_53_1, ua_54, uo_55_1, ua_56, uo_57_1, ua_58, uo_59_1, ua_60, uo_61_1, ua_62, uo_63_1, ua_64, uo_66_1, ua_67, ua_68, ua_69, uo_71_1, ua_72, ua_73, ua_74, sO_g, sA_g, sA_O, sO_A, sO_2, sC_1, sC_2, sC_3, sC_4, sC_5, sC_6, sW_1, sW_2, sW_3, sW_4, uc_0, hcl]
  rw [show Int32.ofNat 40 = nI 40 from rfl, nI_leI (by omega) (by omega), nI_leI (by omega) (by omega)]
  unfold sg
  refine ⟨fun c => by rw [if_neg (by omega)], fun c => ⟨fun c2 => absurd c2 (by omega), fun _ => ⟨vp_in_nI (by omega) (by omega), ?_⟩⟩⟩
  rw [if_pos (by omega), ht p (by omega)]
theorem C_figureAt {t : List Nat} (hT : TxC s t) {p b : Nat} (hp : p < 2 ^ 31) (hb : b ≤ 10) : WM tb (d + 2) k_Plan_figureAt [vR 1, vI (nI t.length), vI (nI p), vI (nI b)] (HP s) 0 0 (fun z h' => z = some (vI (oI (fg t p b))) ∧ h' = HP s) := by
  refine WM.of mi_30 rfl rfl (Nat.le_of_ble_eq_true rfl) ?_
  show WP (mm_rw mr_30) (some .int) tb (WM tb (d + 1)) _ 0 [(0, vR 1), (1, vI (nI t.length)), (2, vI (nI p)), (3, vI (nI b))] [] (HP s) 0 0
  (try simp only [Option.toList_some, Option.toList_none, List.nil_append, List.append_nil, List.cons_append, Nat.sub_zero, Nat.sub_self, Nat.zero_sub]); refine Go.wp sp_30 200 ?_; simp only [↓g30_0, ↓g30_1, ↓g30_2, ↓g30_3, ↓g30_6, ↓g30_8, ↓g30_9, ↓g30_11, ↓g30_13, ↓g30_16, ↓g30_18, ↓g30_19, ↓g30_22, ↓g30_24, ↓g30_27, ↓g30_29, cl_29, cn_0, cn_1, cn_2, cn_3, cn_4, cn_5, cn_6, cn_7, cn_8, ↓Go_s, ↓GoC_a, ↓reduceIte, ↓mm_call_eq, ↓mmw_nil, ↓mmw_cons, List.take_succ_cons, List.take_zero, List.take_nil, List.drop_succ_cons, List.drop_zero, List.drop_nil, List.reverse_cons, List.reverse_nil, List.nil_append, List.cons_append, List.append_nil, Option.toList_some, Option.toList_none, Nat.sub_zero, Nat.le_refl, mmr_cons, mm_st1, mm_st2, mmi_nil, mmi_cons, mmc_I, mmc_L, mmc_R, mmu_get, mmu_one, mma_get, mma_one, List.filter_cons, List.filter_nil, List.contains_cons, List.contains_nil, Nat.reduceBEq, Nat.reduceAdd, Nat.reduceLT, Nat.reduceSub, Nat.reduceLeDiff, Nat.reduceEqDiff, Int32.reduceAdd, Bool.not_true, Bool.not_false, Bool.and_true, Bool.true_and, Bool.and_false, Bool.false_and, Bool.or_false, Bool.false_or, Bool.or_true, Bool.true_or, if_true, if_false, ite_true, ite_false, Bool.false_eq_true, List.getElem?_cons_zero, List.getElem?_cons_succ, List.length_cons, List.length_nil, true_and, and_true, List.set_cons_zero, List.set_cons_succ, Fin.isValue, Fin.val_zero, Fin.val_one, Fin.val_two, Fin.reduceFinMk, Nat.zero_add, hp_0, hp_1, hp_2, hp_3, hp_4, hp_5, hp_6, hp_7, hp_8, hp_9, hp_10, hp_11, hp_12, hp_13, hp_14, hp_15, hp_16, hp_17, hp_18, hp_19, hp_20, hp_21, hp_22, hp_23, hp_24, hp_25, hp_26, hp_27, hp_28, hp_29, hp_30, hp_31, hp_32, hp_33, hp_34, hp_35, hp_36, hp_37, hp_38, hp_39, hp_40, hp_41, hp_42, hp_43, hp_44, hp_45, hp_46, hp_47, hp_48, hp_49, hp_50, hp_51, hp_52, hp_53, hp_54, hp_55, hp_56, hp_57, hp_58, hp_59, hp_60, hp_61, hp_62, hp_63, hp_64, hp_65, hp_66, hp_67, hp_68, hp_69, hp_70, hp_71, hp_72, hp_73, hp_74, og_0_0, og_0_1, og_0_2, og_0_3, og_0_4, og_0_5, og_0_6, og_0_7, og_0_8, og_0_9, og_0_10, og_0_11, og_0_12, og_0_13, ol_0, og_2_0, og_2_1, og_2_2, og_2_3, og_2_4, og_2_5, og_2_6, ol_2, og_3_0, og_3_1, ol_3, og_5_0, og_5_1, ol_5, og_9_0, og_9_1, og_9_2, og_9_3, og_9_4, og_9_5, og_9_6, ol_9, og_10_0, og_10_1, ol_10, og_12_0, og_12_1, ol_12, og_16_0, og_16_1, og_16_2, ol_16, og_17_0, og_17_1, ol_17, og_21_0, og_21_1, og_21_2, og_21_3, og_21_4, ol_21, og_27_0, og_27_1, og_27_2, og_27_3, og_27_4, og_27_5, og_27_6, og_27_7, og_27_8, og_27_9, og_27_10, ol_27, og_35_0, og_35_1, ol_35, og_37_0, og_37_1, ol_37, og_39_0, og_39_1, ol_39, og_41_0, og_41_1, ol_41, og_43_0, og_43_1, ol_43, og_45_0, og_45_1, ol_45, og_47_0, og_47_1, ol_47, og_49_0, og_49_1, og_49_2, og_49_3, ol_49, og_53_0, og_53_1, ol_53, og_55_0, og_55_1, ol_55, og_57_0, og_57_1, ol_57, og_59_0, og_59_1, ol_59, og_61_0, og_61_1, ol_61, og_63_0, og_63_1, ol_63, og_65_0, og_65_1, og_65_2, ol_65, og_66_0, og_66_1, ol_66, og_70_0, og_70_1, og_70_2, ol_70, og_71_0, og_71_1, ol_71, uo_0_1, uo_0_4, uo_0_8, ua_1, uo_2_0, uo_2_1, uo_2_2, uo_3_1, ua_4, uo_5_1, ua_6, ua_7, ua_8, uo_9_0, uo_9_1, uo_9_2, uo_10_1, ua_11, uo_12_1, ua_13, ua_14, ua_15, uo_17_1, ua_18, ua_19, ua_20, uo_21_4, ua_22, ua_23, ua_24, ua_25, uo_27_2, uo_27_6, uo_27_7, uo_27_8, ua_28, ua_29, ua_31, ua_32, ua_33, ua_34, uo_35_1, ua_36, uo_37_1, ua_38, uo_39_1, ua_40, uo_41_1, ua_42, uo_43_1, ua_44, uo_45_1, ua_46, uo_47_1, ua_48, uo_49_3, ua_51, ua_52, uo_53_1, ua_54, uo_55_1, ua_56, uo_57_1, ua_58, uo_59_1, ua_60, uo_61_1, ua_62, uo_63_1, ua_64, uo_66_1, ua_67, ua_68, ua_69, uo_71_1, ua_72, ua_73, ua_74, sO_g, sA_g, sA_O, sO_A, sO_2, sC_1, sC_2, sC_3, sC_4, sC_5, sC_6, sW_1, sW_2, sW_3, sW_4, uc_0]
  refine ⟨0, 0, _, Nat.le_refl _, Nat.le_refl _, C_signAt (d := d) hT hp, fun z h' hz => ?_⟩
  obtain ⟨rfl, rfl⟩ := hz
  have hv : (∃ v, fg t p b = some v ∧ sg t p - 48 = nI v ∧ v < b) ∨ (fg t p b = none ∧ (sg t p - 48 < 0 ∨ (¬ sg t p - 48 < 0 ∧ nI b ≤ sg t p - 48))) := by
    unfold sg fg
    by_cases c : p < t.length
    · have hc := hT.2.1 _ (getD_mem c)
      generalize t.getD p 0 = q at hc ⊢
      rw [if_pos c, byte_v q hc]
      by_cases c1 : 48 ≤ q ∧ q < 48 + b
      · rw [if_pos ⟨c, c1⟩, if_pos (by omega), show (48 : Int32) = nI 48 from rfl, pk_sub c1.1]
        exact Or.inl ⟨q - 48, rfl, rfl, by omega⟩
      · rw [if_neg (fun h => c1 h.2)]
        refine Or.inr ⟨rfl, ?_⟩
        by_cases c2 : q < 128
        · rw [if_pos c2]
          by_cases c3 : 48 ≤ q
          · rw [show (48 : Int32) = nI 48 from rfl, pk_sub c3]
            refine Or.inr ⟨fun h => absurd (nI_pos' (by omega)) (Int32.not_le.mpr h), nI_le (by omega) (by omega)⟩
          · refine Or.inl ?_
            have h48 : ∀ q, q < 48 → nI q - 48 < 0 := by decide +kernel
            exact h48 q (by omega)
        · rw [if_neg c2]
          refine Or.inl ?_
          have h48 : ∀ q, q < 129 → mI q - 48 < 0 := by decide +kernel
          exact h48 (256 - q) (by omega)
    · rw [if_neg c, if_neg (fun h => c h.1)]
      exact Or.inr ⟨rfl, Or.inl (by decide)⟩
  rcases hv with ⟨v, h1, h2, h3⟩ | ⟨h1, h2⟩
  · rw [h1]
    (try simp only [Option.toList_some, Option.toList_none, List.nil_append, List.append_nil, List.cons_append, Nat.sub_zero, Nat.sub_self, Nat.zero_sub]); refine Go.wp sp_30 200 ?_; simp only [↓g30_0, ↓g30_1, ↓g30_2, ↓g30_3, ↓g30_6, ↓g30_8, ↓g30_9, ↓g30_11, ↓g30_13, ↓g30_16, ↓g30_18, ↓g30_19, ↓g30_22, ↓g30_24, ↓g30_27, ↓g30_29, cl_29, cn_0, cn_1, cn_2, cn_3, cn_4, cn_5, cn_6, cn_7, cn_8, ↓Go_s, ↓GoC_a, ↓reduceIte, ↓mm_call_eq, ↓mmw_nil, ↓mmw_cons, List.take_succ_cons, List.take_zero, List.take_nil, List.drop_succ_cons, List.drop_zero, List.drop_nil, List.reverse_cons, List.reverse_nil, List.nil_append, List.cons_append, List.append_nil, Option.toList_some, Option.toList_none, Nat.sub_zero, Nat.le_refl, mmr_cons, mm_st1, mm_st2, mmi_nil, mmi_cons, mmc_I, mmc_L, mmc_R, mmu_get, mmu_one, mma_get, mma_one, List.filter_cons, List.filter_nil, List.contains_cons, List.contains_nil, Nat.reduceBEq, Nat.reduceAdd, Nat.reduceLT, Nat.reduceSub, Nat.reduceLeDiff, Nat.reduceEqDiff, Int32.reduceAdd, Bool.not_true, Bool.not_false, Bool.and_true, Bool.true_and, Bool.and_false, Bool.false_and, Bool.or_false, Bool.false_or, Bool.or_true, Bool.true_or, if_true, if_false, ite_true, ite_false, Bool.false_eq_true, List.getElem?_cons_zero, List.getElem?_cons_succ, List.length_cons, List.length_nil, true_and, and_true, List.set_cons_zero, List.set_cons_succ, Fin.isValue, Fin.val_zero, Fin.val_one, Fin.val_two, Fin.reduceFinMk, Nat.zero_add, hp_0, hp_1, hp_2, hp_3, hp_4, hp_5, hp_6, hp_7, hp_8, hp_9, hp_10, hp_11, hp_12, hp_13, hp_14, hp_15, hp_16, hp_17, hp_18, hp_19, hp_20, hp_21, hp_22, hp_23, hp_24, hp_25, hp_26, hp_27, hp_28, hp_29, hp_30, hp_31, hp_32, hp_33, hp_34, hp_35, hp_36, hp_37, hp_38, hp_39, hp_40, hp_41, hp_42, hp_43, hp_44, hp_45, hp_46, hp_47, hp_48, hp_49, hp_50, hp_51, hp_52, hp_53, hp_54, hp_55, hp_56, hp_57, hp_58, hp_59, hp_60, hp_61, hp_62, hp_63, hp_64, hp_65, hp_66, hp_67, hp_68, hp_69, hp_70, hp_71, hp_72, hp_73, hp_74, og_0_0, og_0_1, og_0_2, og_0_3, og_0_4, og_0_5, og_0_6, og_0_7, og_0_8, og_0_9, og_0_10, og_0_11, og_0_12, og_0_13, ol_0, og_2_0, og_2_1, og_2_2, og_2_3, og_2_4, og_2_5, og_2_6, ol_2, og_3_0, og_3_1, ol_3, og_5_0, og_5_1, ol_5, og_9_0, og_9_1, og_9_2, og_9_3, og_9_4, og_9_5, og_9_6, ol_9, og_10_0, og_10_1, ol_10, og_12_0, og_12_1, ol_12, og_16_0, og_16_1, og_16_2, ol_16, og_17_0, og_17_1, ol_17, og_21_0, og_21_1, og_21_2, og_21_3, og_21_4, ol_21, og_27_0, og_27_1, og_27_2, og_27_3, og_27_4, og_27_5, og_27_6, og_27_7, og_27_8, og_27_9, og_27_10, ol_27, og_35_0, og_35_1, ol_35, og_37_0, og_37_1, ol_37, og_39_0, og_39_1, ol_39, og_41_0, og_41_1, ol_41, og_43_0, og_43_1, ol_43, og_45_0, og_45_1, ol_45, og_47_0, og_47_1, ol_47, og_49_0, og_49_1, og_49_2, og_49_3, ol_49, og_53_0, og_53_1, ol_53, og_55_0, og_55_1, ol_55, og_57_0, og_57_1, ol_57, og_59_0, og_59_1, ol_59, og_61_0, og_61_1, ol_61, og_63_0, og_63_1, ol_63, og_65_0, og_65_1, og_65_2, ol_65, og_66_0, og_66_1, ol_66, og_70_0, og_70_1, og_70_2, ol_70, og_71_0, og_71_1, ol_71, uo_0_1, uo_0_4, uo_0_8, ua_1, uo_2_0, uo_2_1, uo_2_2, uo_3_1, ua_4, uo_5_1, ua_6, ua_7, ua_8, uo_9_0, uo_9_1, uo_9_2, uo_10_1, ua_11, uo_12_1, ua_13, ua_14, ua_15, uo_17_1, ua_18, ua_19, ua_20, uo_21_4, ua_22, ua_23, ua_24, ua_25, uo_27_2, uo_27_6, uo_27_7, uo_27_8, ua_28, ua_29, ua_31, ua_32, ua_33, ua_34, uo_35_1, ua_36, uo_37_1, ua_38, uo_39_1, ua_40, uo_41_1, ua_42, uo_43_1, ua_44, uo_45_1, ua_46, uo_47_1, ua_48, uo_49_3, ua_51, ua_52, uo_53_1, ua_54, uo_55_1, ua_56, uo_57_1, ua_58, uo_59_1, ua_60, uo_61_1, ua_62, uo_63_1, ua_64, uo_66_1, ua_67, ua_68, ua_69, uo_71_1, ua_72, ua_73, ua_74, sO_g, sA_g, sA_O, sO_A, sO_2, sC_1, sC_2, sC_3, sC_4, sC_5, sC_6, sW_1, sW_2, sW_3, sW_4, uc_0, h2]
    exact ⟨fun c => absurd (nI_pos' (by omega)) (Int32.not_le.mpr c), fun _ => ⟨fun c => absurd c (nI_ge h3 (by omega)), fun _ => rfl⟩⟩
  · rw [h1]
    (try simp only [Option.toList_some, Option.toList_none, List.nil_append, List.append_nil, List.cons_append, Nat.sub_zero, Nat.sub_self, Nat.zero_sub]); refine Go.wp sp_30 200 ?_; simp only [↓g30_0, ↓g30_1, ↓g30_2, ↓g30_3, ↓g30_6, ↓g30_8, ↓g30_9, ↓g30_11, ↓g30_13, ↓g30_16, ↓g30_18, ↓g30_19, ↓g30_22, ↓g30_24, ↓g30_27, ↓g30_29, cl_29, cn_0, cn_1, cn_2, cn_3, cn_4, cn_5, cn_6, cn_7, cn_8, ↓Go_s, ↓GoC_a, ↓reduceIte, ↓mm_call_eq, ↓mmw_nil, ↓mmw_cons, List.take_succ_cons, List.take_zero, List.take_nil, List.drop_succ_cons, List.drop_zero, List.drop_nil, List.reverse_cons, List.reverse_nil, List.nil_append, List.cons_append, List.append_nil, Option.toList_some, Option.toList_none, Nat.sub_zero, Nat.le_refl, mmr_cons, mm_st1, mm_st2, mmi_nil, mmi_cons, mmc_I, mmc_L, mmc_R, mmu_get, mmu_one, mma_get, mma_one, List.filter_cons, List.filter_nil, List.contains_cons, List.contains_nil, Nat.reduceBEq, Nat.reduceAdd, Nat.reduceLT, Nat.reduceSub, Nat.reduceLeDiff, Nat.reduceEqDiff, Int32.reduceAdd, Bool.not_true, Bool.not_false, Bool.and_true, Bool.true_and, Bool.and_false, Bool.false_and, Bool.or_false, Bool.false_or, Bool.or_true, Bool.true_or, if_true, if_false, ite_true, ite_false, Bool.false_eq_true, List.getElem?_cons_zero, List.getElem?_cons_succ, List.length_cons, List.length_nil, true_and, and_true, List.set_cons_zero, List.set_cons_succ, Fin.isValue, Fin.val_zero, Fin.val_one, Fin.val_two, Fin.reduceFinMk, Nat.zero_add, hp_0, hp_1, hp_2, hp_3, hp_4, hp_5, hp_6, hp_7, hp_8, hp_9, hp_10, hp_11, hp_12, hp_13, hp_14, hp_15, hp_16, hp_17, hp_18, hp_19, hp_20, hp_21, hp_22, hp_23, hp_24, hp_25, hp_26, hp_27, hp_28, hp_29, hp_30, hp_31, hp_32, hp_33, hp_34, hp_35, hp_36, hp_37, hp_38, hp_39, hp_40, hp_41, hp_42, hp_43, hp_44, hp_45, hp_46, hp_47, hp_48, hp_49, hp_50, hp_51, hp_52, hp_53, hp_54, hp_55, hp_56, hp_57, hp_58, hp_59, hp_60, hp_61, hp_62, hp_63, hp_64, hp_65, hp_66, hp_67, hp_68, hp_69, hp_70, hp_71, hp_72, hp_73, hp_74, og_0_0, og_0_1, og_0_2, og_0_3, og_0_4, og_0_5, og_0_6, og_0_7, og_0_8, og_0_9, og_0_10, og_0_11, og_0_12, og_0_13, ol_0, og_2_0, og_2_1, og_2_2, og_2_3, og_2_4, og_2_5, og_2_6, ol_2, og_3_0, og_3_1, ol_3, og_5_0, og_5_1, ol_5, og_9_0, og_9_1, og_9_2, og_9_3, og_9_4, og_9_5, og_9_6, ol_9, og_10_0, og_10_1, ol_10, og_12_0, og_12_1, ol_12, og_16_0, og_16_1, og_16_2, ol_16, og_17_0, og_17_1, ol_17, og_21_0, og_21_1, og_21_2, og_21_3, og_21_4, ol_21, og_27_0, og_27_1, og_27_2, og_27_3, og_27_4, og_27_5, og_27_6, og_27_7, og_27_8, og_27_9, og_27_10, ol_27, og_35_0, og_35_1, ol_35, og_37_0, og_37_1, ol_37, og_39_0, og_39_1, ol_39, og_41_0, og_41_1, ol_41, og_43_0, og_43_1, ol_43, og_45_0, og_45_1, ol_45, og_47_0, og_47_1, ol_47, og_49_0, og_49_1, og_49_2, og_49_3, ol_49, og_53_0, og_53_1, ol_53, og_55_0, og_55_1, ol_55, og_57_0, og_57_1, ol_57, og_59_0, og_59_1, ol_59, og_61_0, og_61_1, ol_61, og_63_0, og_63_1, ol_63, og_65_0, og_65_1, og_65_2, ol_65, og_66_0, og_66_1, ol_66, og_70_0, og_70_1, og_70_2, ol_70, og_71_0, og_71_1, ol_71, uo_0_1, uo_0_4, uo_0_8, ua_1, uo_2_0, uo_2_1, uo_2_2, uo_3_1, ua_4, uo_5_1, ua_6, ua_7, ua_8, uo_9_0, uo_9_1, uo_9_2, uo_10_1, ua_11, uo_12_1, ua_13, ua_14, ua_15, uo_17_1, ua_18, ua_19, ua_20, uo_21_4, ua_22, ua_23, ua_24, ua_25, uo_27_2, uo_27_6, uo_27_7, uo_27_8, ua_28, ua_29, ua_31, ua_32, ua_33, ua_34, uo_35_1, ua_36, uo_37_1, ua_38, uo_39_1, ua_40, uo_41_1, ua_42, uo_43_1, ua_44, uo_45_1, ua_46, uo_47_1, ua_48, uo_49_3, ua_51, ua_52, uo_53_1, ua_54, uo_55_1, ua_56, uo_57_1, ua_58, uo_59_1, ua_60, uo_61_1, ua_62, uo_63_1, ua_64, uo_66_1, ua_67, ua_68, ua_69, uo_71_1, ua_72, ua_73, ua_74, sO_g, sA_g, sA_O, sO_A, sO_2, sC_1, sC_2, sC_3, sC_4, sC_5, sC_6, sW_1, sW_2, sW_3, sW_4, uc_0]
    rcases h2 with h2 | h2
    · exact ⟨fun _ => rfl, fun c => absurd h2 c⟩
    · exact ⟨fun c => absurd c h2.1, fun _ => ⟨fun _ => rfl, fun c => absurd h2.2 c⟩⟩
end READ
