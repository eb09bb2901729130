abbrev sp_37 : List Nat := [2]
section G37
variable {tb : Nat → Nat × (Nat → Int32)} {call : CO} {Q : AQ} {C : CP} {lv : AL} {st : List AV} {h : AH} {kc ks : Nat}
theorem g37_0  : mm_step (mm_rw mr_37) (some .int) tb call Q C 0 lv st h kc ks = (C 1 lv (vI 0 :: st) h kc ks) := rfl
theorem g37_1 (a : Int32) : mm_step (mm_rw mr_37) (some .int) tb call Q C 1 lv (.inl a :: st) h kc ks = (C 2 (mm_st1 lv 2 (vI a)) st h kc ks) := rfl
theorem g37_2  : mm_step (mm_rw mr_37) (some .int) tb call Q C 2 lv st h kc ks = (match mm_rd lv 2 with
    | some (.inl a) => C 3 lv (vI a :: st) h kc ks
    | _ => False) := rfl
theorem g37_3  : mm_step (mm_rw mr_37) (some .int) tb call Q C 3 lv st h kc ks = (match mm_rd lv 0 with
    | some (.inr (.inr (.inl (some k)))) => C 4 lv (vR k :: st) h kc ks
    | some (.inr (.inr (.inr t))) => C 4 lv (vT t :: st) h kc ks
    | _ => False) := rfl
theorem g37_4 (k : Nat) : mm_step (mm_rw mr_37) (some .int) tb call Q C 4 lv (.inr (.inr (.inl (some k))) :: st) h kc ks = (match h.2 k with
    | some (.inr (.inr (ci, fs))) => ci = 5 ∧ (match fs[1]? with
      | some v => C 7 lv (v :: st) h kc ks
      | none => False)
    | _ => False) := rfl
theorem g37_7 (a b : Int32) : mm_step (mm_rw mr_37) (some .int) tb call Q C 7 lv (.inl b :: .inl a :: st) h kc ks = ((b ≤ a → C 28 lv st h kc ks) ∧ (¬ b ≤ a → C 10 lv st h kc ks)) := rfl
theorem g37_10  : mm_step (mm_rw mr_37) (some .int) tb call Q C 10 lv st h kc ks = (match mm_rd lv 0 with
    | some (.inr (.inr (.inl (some k)))) => C 11 lv (vR k :: st) h kc ks
    | some (.inr (.inr (.inr t))) => C 11 lv (vT t :: st) h kc ks
    | _ => False) := rfl
theorem g37_11 (k : Nat) : mm_step (mm_rw mr_37) (some .int) tb call Q C 11 lv (.inr (.inr (.inl (some k))) :: st) h kc ks = (match h.2 k with
    | some (.inr (.inr (ci, fs))) => ci = 5 ∧ (match fs[0]? with
      | some v => C 14 lv (v :: st) h kc ks
      | none => False)
    | _ => False) := rfl
theorem g37_14  : mm_step (mm_rw mr_37) (some .int) tb call Q C 14 lv st h kc ks = (match mm_rd lv 2 with
    | some (.inl a) => C 15 lv (vI a :: st) h kc ks
    | _ => False) := rfl
theorem g37_15 (i : Int32) (k : Nat) : mm_step (mm_rw mr_37) (some .int) tb call Q C 15 lv (.inl i :: .inr (.inr (.inl (some k))) :: st) h kc ks = (match h.2 k with
    | some (.inl (.int, n, f)) => vp_in i n ∧ C 16 lv (vI (f i.toNatClampNeg) :: st) h kc ks
    | _ => False) := rfl
theorem g37_15t (i : Int32) (t : Nat) : mm_step (mm_rw mr_37) (some .int) tb call Q C 15 lv (.inl i :: .inr (.inr (.inr t)) :: st) h kc ks = (vp_in i (tb t).1 ∧ C 16 lv (vI ((tb t).2 i.toNatClampNeg) :: st) h kc ks) := rfl
theorem g37_16  : mm_step (mm_rw mr_37) (some .int) tb call Q C 16 lv st h kc ks = (match mm_rd lv 1 with
    | some (.inl a) => C 17 lv (vI a :: st) h kc ks
    | _ => False) := rfl
theorem g37_17 (a b : Int32) : mm_step (mm_rw mr_37) (some .int) tb call Q C 17 lv (.inl b :: .inl a :: st) h kc ks = ((¬ a = b → C 22 lv st h kc ks) ∧ (a = b → C 20 lv st h kc ks)) := rfl
theorem g37_20  : mm_step (mm_rw mr_37) (some .int) tb call Q C 20 lv st h kc ks = (match mm_rd lv 2 with
    | some (.inl a) => C 21 lv (vI a :: st) h kc ks
    | _ => False) := rfl
theorem g37_21 (v : Int32) : mm_step (mm_rw mr_37) (some .int) tb call Q C 21 lv [.inl v] h kc ks = (True ∧ Q (some (vI v)) h) := rfl
theorem g37_22  : mm_step (mm_rw mr_37) (some .int) tb call Q C 22 lv st h kc ks = (match mm_rd lv 2 with
    | some (.inl a) => C 25 (mm_st1 lv 2 (vI (a + 1))) st h kc ks
    | _ => False) := rfl
theorem g37_25  : mm_step (mm_rw mr_37) (some .int) tb call Q C 25 lv st h kc ks = (C 2 lv st h kc ks) := rfl
theorem g37_28  : mm_step (mm_rw mr_37) (some .int) tb call Q C 28 lv st h kc ks = (C 30 lv (vI (-9) :: st) h kc ks) := rfl
theorem g37_30 (v : Int32) : mm_step (mm_rw mr_37) (some .int) tb call Q C 30 lv [.inl v] h kc ks = (True ∧ Q (some (vI v)) h) := rfl
end G37

set_option maxHeartbeats 1000000 in
theorem t_placeOf (tb : Nat → Nat × (Nat → Int32)) (d r b : Nat) (x z : Int32) (f : Nat → Int32) (h : AH) (hr : h.2 r = some (cO 5 [vR b, vI z])) (hb : h.2 b = some (cI 8 f)) : WM tb (d + 1) k_Row_placeOf [vR r, vI x] h 0 0 (fun _ _ => True) := by
  refine WM.of mi_37 rfl rfl (Nat.le_of_ble_eq_true rfl) ?_
  show WP (mm_rw mr_37) (some .int) tb (WM tb d) _ 0 [(0, vR r), (1, vI x)] [] h 0 0
  refine Go.wp sp_37 200 ?_; simp only [↓g37_0, ↓g37_1, ↓g37_2, ↓g37_3, ↓g37_4, ↓g37_7, ↓g37_10, ↓g37_11, ↓g37_14, ↓g37_15, ↓g37_15t, ↓g37_16, ↓g37_17, ↓g37_20, ↓g37_21, ↓g37_22, ↓g37_25, ↓g37_28, ↓g37_30, ↓Go_s, ↓reduceIte, mmr_cons, mm_st1, mm_st2, mmi_nil, mmi_cons, mmc_I, mmc_L, mmc_R, mmu_get, mmu_one, mma_get, mma_one, List.filter_cons, List.filter_nil, List.contains_cons, List.contains_nil, Nat.reduceBEq, Nat.reduceAdd, Nat.reduceLT, Nat.reduceSub, Nat.reduceLeDiff, Nat.reduceEqDiff, Bool.not_true, Bool.not_false, Bool.and_true, Bool.true_and, Bool.and_false, Bool.false_and, Bool.or_false, Bool.false_or, Bool.or_true, Bool.true_or, if_true, if_false, ite_true, ite_false, Bool.false_eq_true, List.getElem?_cons_zero, List.getElem?_cons_succ, List.length_cons, List.length_nil, true_and, and_true, List.set_cons_zero, List.set_cons_succ, Fin.isValue, Fin.val_zero, Fin.val_one, Fin.val_two, Fin.reduceFinMk, Nat.zero_add, hr, hb]
  trace_state
  have key : WP (mm_rw mr_37) (some .int) tb (WM tb d) (fun _ _ => True) 2 [(0, vR r), (1, vI x), (2, vI 3)] [] h 0 0 := by
    refine Go.wp sp_37 200 ?_; simp only [↓g37_0, ↓g37_1, ↓g37_2, ↓g37_3, ↓g37_4, ↓g37_7, ↓g37_10, ↓g37_11, ↓g37_14, ↓g37_15, ↓g37_15t, ↓g37_16, ↓g37_17, ↓g37_20, ↓g37_21, ↓g37_22, ↓g37_25, ↓g37_28, ↓g37_30, ↓Go_s, ↓reduceIte, mmr_cons, mm_st1, mm_st2, mmi_nil, mmi_cons, mmc_I, mmc_L, mmc_R, mmu_get, mmu_one, mma_get, mma_one, List.filter_cons, List.filter_nil, List.contains_cons, List.contains_nil, Nat.reduceBEq, Nat.reduceAdd, Nat.reduceLT, Nat.reduceSub, Nat.reduceLeDiff, Nat.reduceEqDiff, Bool.not_true, Bool.not_false, Bool.and_true, Bool.true_and, Bool.and_false, Bool.false_and, Bool.or_false, Bool.false_or, Bool.or_true, Bool.true_or, if_true, if_false, ite_true, ite_false, Bool.false_eq_true, List.getElem?_cons_zero, List.getElem?_cons_succ, List.length_cons, List.length_nil, true_and, and_true, List.set_cons_zero, List.set_cons_succ, Fin.isValue, Fin.val_zero, Fin.val_one, Fin.val_two, Fin.reduceFinMk, Nat.zero_add, hr, hb]
    trace_state
    done
  sorry
