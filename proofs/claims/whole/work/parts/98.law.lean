/-! the law: its loop, and the law -/
theorem law_loop {L : Nat} {xs : Nat → Int32} (hL : L ≤ 3072) : ∀ (r i kc ks : Nat) (g : SG) (s : MM), SgOk g → InvC g s → InvM g s → L < i + 6 * (r + 1) → i ≤ 3072 → 6 * r ≤ kc → 1480 * r ≤ ks → WP (mm_rw mr_160) (some .boolean) (mm_tbl L xs) (WM (mm_tbl L xs) 30) LQ 18 [(0, vT 2), (1, vR 0), (2, vR 75), (3, vI (nI i))] [] (HP s) kc ks := by
  have out : ∀ (i kc ks : Nat) (s : MM), L < i + 6 → i ≤ 3072 → WP (mm_rw mr_160) (some .boolean) (mm_tbl L xs) (WM (mm_tbl L xs) 30) LQ 18 [(0, vT 2), (1, vR 0), (2, vR 75), (3, vI (nI i))] [] (HP s) kc ks := by
    intro i kc ks s h1 h2
    have hlt : (Int32.ofNat L - 6 < nI i) = True := by rw [law_lt hL h2]; exact eq_true h1
    (try simp only [Option.toList_some, Option.toList_none, List.nil_append, List.append_nil, List.cons_append, Nat.sub_zero, Nat.sub_self, Nat.zero_sub]); refine Go.wp [27] 200 ?_; simp only [↓g160_1012, ↓g160_1013, ↓g160_18, ↓g160_19, ↓g160_20, ↓g160_20t, ↓g160_21, ↓g160_23, ↓g160_24, cl_54, cn_7, cn_8, ↓Go_s, ↓GoC_a, ↓reduceIte, ↓mm_call_eq, ↓mmw_nil, ↓mmw_cons, List.take_succ_cons, List.take_zero, List.take_nil, List.drop_succ_cons, List.drop_zero, List.drop_nil, List.reverse_cons, List.reverse_nil, List.nil_append, List.cons_append, List.append_nil, Option.toList_some, Option.toList_none, Nat.sub_zero, Nat.le_refl, mmr_cons, mm_st1, mm_st2, mmi_nil, mmi_cons, mmc_I, mmc_L, mmc_R, mmu_get, mmu_one, mma_get, mma_one, List.filter_cons, List.filter_nil, List.contains_cons, List.contains_nil, Nat.reduceBEq, Nat.reduceAdd, Nat.reduceLT, Nat.reduceSub, Nat.reduceLeDiff, Nat.reduceEqDiff, Int32.reduceAdd, Bool.not_true, Bool.not_false, Bool.and_true, Bool.true_and, Bool.and_false, Bool.false_and, Bool.or_false, Bool.false_or, Bool.or_true, Bool.true_or, if_true, if_false, ite_true, ite_false, Bool.false_eq_true, List.getElem?_cons_zero, List.getElem?_cons_succ, List.length_cons, List.length_nil, true_and, and_true, List.set_cons_zero, List.set_cons_succ, Fin.isValue, Fin.val_zero, Fin.val_one, Fin.val_two, Fin.reduceFinMk, Nat.zero_add, tb_1, hlt, true_imp_iff, not_true_eq_false, false_imp_iff, true_and, and_true]
    exact Or.inr trivial
  intro r
  induction r with
  | zero =>
    intro i kc ks g s _ _ _ h1 h2 _ _
    exact out i kc ks s (by omega) h2
  | succ r ih =>
    intro i kc ks g s hk hC hM h1 h2 h6 h14
    by_cases hx : L < i + 6
    · exact out i kc ks s hx h2
    have hi : i + 6 ≤ L := by omega
    have hlt : (Int32.ofNat L - 6 < nI i) = False := by rw [law_lt hL h2]; exact eq_false hx
    have v0 : vp_in (nI i) L = True := eq_true (vp_in_nI (by omega) (by omega))
    have c0 : (nI i).toNatClampNeg = i := nI_clamp (by omega)
    have e6 : nI i + 6 = nI (i + 6) := nI_add i 6
    have hgo : LGo L i kc ks xs := by
      intro g' s' kc' ks' hk' hC' hM' k1 k2
      have z := ih (i + 6) kc' ks' g' s' hk' hC' hM' (by omega) (by omega) (by omega) (by omega)
      (try simp only [Option.toList_some, Option.toList_none, List.nil_append, List.append_nil, List.cons_append, Nat.sub_zero, Nat.sub_self, Nat.zero_sub]); refine Go.wp [18] 200 ?_; simp only [↓g160_1006, ↓g160_1009, cl_54, cn_7, cn_8, ↓Go_s, ↓GoC_a, ↓reduceIte, ↓mm_call_eq, ↓mmw_nil, ↓mmw_cons, List.take_succ_cons, List.take_zero, List.take_nil, List.drop_succ_cons, List.drop_zero, List.drop_nil, List.reverse_cons, List.reverse_nil, List.nil_append, List.cons_append, List.append_nil, Option.toList_some, Option.toList_none, Nat.sub_zero, Nat.le_refl, mmr_cons, mm_st1, mm_st2, mmi_nil, mmi_cons, mmc_I, mmc_L, mmc_R, mmu_get, mmu_one, mma_get, mma_one, List.filter_cons, List.filter_nil, List.contains_cons, List.contains_nil, Nat.reduceBEq, Nat.reduceAdd, Nat.reduceLT, Nat.reduceSub, Nat.reduceLeDiff, Nat.reduceEqDiff, Int32.reduceAdd, Bool.not_true, Bool.not_false, Bool.and_true, Bool.true_and, Bool.and_false, Bool.false_and, Bool.or_false, Bool.false_or, Bool.or_true, Bool.true_or, if_true, if_false, ite_true, ite_false, Bool.false_eq_true, List.getElem?_cons_zero, List.getElem?_cons_succ, List.length_cons, List.length_nil, true_and, and_true, List.set_cons_zero, List.set_cons_succ, Fin.isValue, Fin.val_zero, Fin.val_one, Fin.val_two, Fin.reduceFinMk, Nat.zero_add, e6]
      exact z
    (try simp only [Option.toList_some, Option.toList_none, List.nil_append, List.append_nil, List.cons_append, Nat.sub_zero, Nat.sub_self, Nat.zero_sub]); refine Go.wp [33, 1012] 200 ?_; simp only [↓g160_18, ↓g160_19, ↓g160_20, ↓g160_20t, ↓g160_21, ↓g160_23, ↓g160_24, ↓g160_27, ↓g160_28, ↓g160_29, ↓g160_29t, ↓g160_30, ↓g160_32, cl_54, cn_7, cn_8, ↓Go_s, ↓GoC_a, ↓reduceIte, ↓mm_call_eq, ↓mmw_nil, ↓mmw_cons, List.take_succ_cons, List.take_zero, List.take_nil, List.drop_succ_cons, List.drop_zero, List.drop_nil, List.reverse_cons, List.reverse_nil, List.nil_append, List.cons_append, List.append_nil, Option.toList_some, Option.toList_none, Nat.sub_zero, Nat.le_refl, mmr_cons, mm_st1, mm_st2, mmi_nil, mmi_cons, mmc_I, mmc_L, mmc_R, mmu_get, mmu_one, mma_get, mma_one, List.filter_cons, List.filter_nil, List.contains_cons, List.contains_nil, Nat.reduceBEq, Nat.reduceAdd, Nat.reduceLT, Nat.reduceSub, Nat.reduceLeDiff, Nat.reduceEqDiff, Int32.reduceAdd, Bool.not_true, Bool.not_false, Bool.and_true, Bool.true_and, Bool.and_false, Bool.false_and, Bool.or_false, Bool.false_or, Bool.or_true, Bool.true_or, if_true, if_false, ite_true, ite_false, Bool.false_eq_true, List.getElem?_cons_zero, List.getElem?_cons_succ, List.length_cons, List.length_nil, true_and, and_true, List.set_cons_zero, List.set_cons_succ, Fin.isValue, Fin.val_zero, Fin.val_one, Fin.val_two, Fin.reduceFinMk, Nat.zero_add, tb_1, tb_2, hlt, v0, c0, true_imp_iff, not_false_eq_true, not_true_eq_false, false_imp_iff, true_and, and_true]
    refine WP.step ?_
    rw [g160_33]
    refine ⟨by decide, sw_all _ _ (hgo g s kc ks hk hC hM (by omega) (by omega)) (fun t ht => ?_)⟩
    simp only [List.mem_cons, List.not_mem_nil, or_false] at ht
    rcases ht with rfl | rfl | rfl | rfl | rfl | rfl | rfl | rfl | rfl | rfl | rfl | rfl | rfl | rfl | rfl | rfl | rfl | rfl | rfl | rfl | rfl | rfl | rfl | rfl | rfl | rfl | rfl | rfl | rfl | rfl
    · exact law_write hk hC hM hL hi (by omega) (by omega) hgo
    · exact law_wipe hk hC hM hL hi (by omega) (by omega) hgo
    · exact law_fault hk hC hM hL hi (by omega) (by omega) hgo
    · exact law_library hk hC hM hL hi (by omega) (by omega) hgo
    · exact law_at hk hC hM hL hi (by omega) (by omega) hgo
    · exact law_book hk hC hM hL hi (by omega) (by omega) hgo
    · exact law_reader hk hC hM hL hi (by omega) (by omega) hgo
    · exact law_law hk hC hM hL hi (by omega) (by omega) hgo
    · exact law_ask hk hC hM hL hi (by omega) (by omega) hgo
    · exact law_bring hk hC hM hL hi (by omega) (by omega) hgo
    · exact law_undo hk hC hM hL hi (by omega) (by omega) hgo
    · exact law_judge hk hC hM hL hi (by omega) (by omega) hgo
    · exact law_meant hk hC hM hL hi (by omega) (by omega) hgo
    · exact law_goes hk hC hM hL hi (by omega) (by omega) hgo
    · exact law_goesAt hk hC hM hL hi (by omega) (by omega) hgo
    · exact law_around hk hC hM hL hi (by omega) (by omega) hgo
    · exact law_never hk hC hM hL hi (by omega) (by omega) hgo
    · exact law_order hk hC hM hL hi (by omega) (by omega) hgo
    · exact law_orderAt hk hC hM hL hi (by omega) (by omega) hgo
    · exact law_given hk hC hM hL hi (by omega) (by omega) hgo
    · exact law_forget hk hC hM hL hi (by omega) (by omega) hgo
    · exact law_rows hk hC hM hL hi (by omega) (by omega) hgo
    · exact law_stood hk hC hM hL hi (by omega) (by omega) hgo
    · exact law_next hk hC hM hL hi (by omega) (by omega) hgo
    · exact law_clerk hk hC hM hL hi (by omega) (by omega) hgo
    · exact law_seed hk hC hM hL hi (by omega) (by omega) hgo
    · exact law_week hk hC hM hL hi (by omega) (by omega) hgo
    · exact law_keep hk hC hM hL hi (by omega) (by omega) hgo
    · exact law_again hk hC hM hL hi (by omega) (by omega) hgo
    · exact law_count hk hC hM hL hi (by omega) (by omega) hgo
theorem law_ok (L : Nat) (xs : Nat → Int32) (hL : L ≤ 3072) : WM (mm_tbl L xs) 31 k_L_law [vT 2] mm_h0 600000 7302250 (fun r _ => r = some (vI 1)) := by
  refine WM.of mi_160 rfl rfl (Nat.le_of_ble_eq_true rfl) ?_
  obtain ⟨h0, e0, n0, no0⟩ : ∃ h0 : AH, mm_h0 = h0 ∧ h0.1 = 0 ∧ ∀ k, h0.2 k = none := ⟨mm_h0, rfl, rfl, fun _ => rfl⟩
  show WP (mm_rw mr_160) (some .boolean) (mm_tbl L xs) (WM (mm_tbl L xs) 30) LQ 0 [(0, vT 2)] [] mm_h0 600000 7302250
  rw [e0]
  (try simp only [Option.toList_some, Option.toList_none, List.nil_append, List.append_nil, List.cons_append, Nat.sub_zero, Nat.sub_self, Nat.zero_sub]); refine Go.wp [7, 15, 18] 200 ?_; simp only [↓g160_0, ↓g160_3, ↓g160_4, ↓g160_7, ↓g160_8, ↓g160_11, ↓g160_12, ↓g160_15, ↓g160_16, ↓g160_17, cl_54, cl_98, cn_7, cn_8, ↓Go_s, ↓GoC_a, ↓reduceIte, ↓mm_call_eq, ↓mmw_nil, ↓mmw_cons, List.take_succ_cons, List.take_zero, List.take_nil, List.drop_succ_cons, List.drop_zero, List.drop_nil, List.reverse_cons, List.reverse_nil, List.nil_append, List.cons_append, List.append_nil, Option.toList_some, Option.toList_none, Nat.sub_zero, Nat.le_refl, mmr_cons, mm_st1, mm_st2, mmi_nil, mmi_cons, mmc_I, mmc_L, mmc_R, mmu_get, mmu_one, mma_get, mma_one, List.filter_cons, List.filter_nil, List.contains_cons, List.contains_nil, Nat.reduceBEq, Nat.reduceAdd, Nat.reduceLT, Nat.reduceSub, Nat.reduceLeDiff, Nat.reduceEqDiff, Int32.reduceAdd, Bool.not_true, Bool.not_false, Bool.and_true, Bool.true_and, Bool.and_false, Bool.false_and, Bool.or_false, Bool.false_or, Bool.or_true, Bool.true_or, if_true, if_false, ite_true, ite_false, Bool.false_eq_true, List.getElem?_cons_zero, List.getElem?_cons_succ, List.length_cons, List.length_nil, true_and, and_true, List.set_cons_zero, List.set_cons_succ, Fin.isValue, Fin.val_zero, Fin.val_one, Fin.val_two, Fin.reduceFinMk, Nat.zero_add, n0, nf_7, nf_8, df_7, df_8, Nat.reduceLeDiff]
  refine ⟨74, 477, QBi, by decide, by decide, C_Binit (d := 27) (by rw [mma_one, n0]) ((mma_get ..).trans (if_pos n0.symm)) (fun k hk => (mma_get ..).trans ((if_neg (by rw [n0]; omega)).trans (no0 k))), fun z hB qB => ?_⟩
  have nB := qB.2.1
  obtain rfl := qB.1
  (try simp only [Option.toList_some, Option.toList_none, List.nil_append, List.append_nil, List.cons_append, Nat.sub_zero, Nat.sub_self, Nat.zero_sub]); refine Go.wp [15, 18] 200 ?_; simp only [↓g160_7, ↓g160_8, ↓g160_11, ↓g160_12, ↓g160_15, ↓g160_16, ↓g160_17, cl_54, cl_98, cn_7, cn_8, ↓Go_s, ↓GoC_a, ↓reduceIte, ↓mm_call_eq, ↓mmw_nil, ↓mmw_cons, List.take_succ_cons, List.take_zero, List.take_nil, List.drop_succ_cons, List.drop_zero, List.drop_nil, List.reverse_cons, List.reverse_nil, List.nil_append, List.cons_append, List.append_nil, Option.toList_some, Option.toList_none, Nat.sub_zero, Nat.le_refl, mmr_cons, mm_st1, mm_st2, mmi_nil, mmi_cons, mmc_I, mmc_L, mmc_R, mmu_get, mmu_one, mma_get, mma_one, List.filter_cons, List.filter_nil, List.contains_cons, List.contains_nil, Nat.reduceBEq, Nat.reduceAdd, Nat.reduceLT, Nat.reduceSub, Nat.reduceLeDiff, Nat.reduceEqDiff, Int32.reduceAdd, Bool.not_true, Bool.not_false, Bool.and_true, Bool.true_and, Bool.and_false, Bool.false_and, Bool.or_false, Bool.false_or, Bool.or_true, Bool.true_or, if_true, if_false, ite_true, ite_false, Bool.false_eq_true, List.getElem?_cons_zero, List.getElem?_cons_succ, List.length_cons, List.length_nil, true_and, and_true, List.set_cons_zero, List.set_cons_succ, Fin.isValue, Fin.val_zero, Fin.val_one, Fin.val_two, Fin.reduceFinMk, Nat.zero_add, nB, nf_7, nf_8, df_8, Nat.reduceLeDiff]
  refine ⟨23, 2761, QMi _, by decide, by decide, C_Minit (d := 29) (by rw [mma_one, nB]) ((mma_get ..).trans (if_pos nB.symm)), fun z hM qM => ?_⟩
  obtain rfl := qM.1
  obtain ⟨s, rfl, hC, hM'⟩ := so_start qB (fun k hk => (mma_get ..).trans (if_neg (by rw [nB]; exact hk))) qM
  (try simp only [Option.toList_some, Option.toList_none, List.nil_append, List.append_nil, List.cons_append, Nat.sub_zero, Nat.sub_self, Nat.zero_sub]); refine Go.wp [18] 200 ?_; simp only [↓g160_15, ↓g160_16, ↓g160_17, cl_54, cl_98, cn_7, cn_8, ↓Go_s, ↓GoC_a, ↓reduceIte, ↓mm_call_eq, ↓mmw_nil, ↓mmw_cons, List.take_succ_cons, List.take_zero, List.take_nil, List.drop_succ_cons, List.drop_zero, List.drop_nil, List.reverse_cons, List.reverse_nil, List.nil_append, List.cons_append, List.append_nil, Option.toList_some, Option.toList_none, Nat.sub_zero, Nat.le_refl, mmr_cons, mm_st1, mm_st2, mmi_nil, mmi_cons, mmc_I, mmc_L, mmc_R, mmu_get, mmu_one, mma_get, mma_one, List.filter_cons, List.filter_nil, List.contains_cons, List.contains_nil, Nat.reduceBEq, Nat.reduceAdd, Nat.reduceLT, Nat.reduceSub, Nat.reduceLeDiff, Nat.reduceEqDiff, Int32.reduceAdd, Bool.not_true, Bool.not_false, Bool.and_true, Bool.true_and, Bool.and_false, Bool.false_and, Bool.or_false, Bool.false_or, Bool.or_true, Bool.true_or, if_true, if_false, ite_true, ite_false, Bool.false_eq_true, List.getElem?_cons_zero, List.getElem?_cons_succ, List.length_cons, List.length_nil, true_and, and_true, List.set_cons_zero, List.set_cons_succ, Fin.isValue, Fin.val_zero, Fin.val_one, Fin.val_two, Fin.reduceFinMk, Nat.zero_add, nf_7]
  exact law_loop hL 512 0 _ _ sg0 s sg0_ok hC hM' (by omega) (by omega) (by omega) (by omega)
