/-! the constructors -/
abbrev sp_24 : List Nat := [17, 28, 53, 61]
section G24
variable {tb : Nat → Nat × (Nat → Int32)} {call : CO} {Q : AQ} {C : CP} {lv : AL} {st : List AV} {h : AH} {kc ks : Nat}
theorem g24_0  : mm_step (mm_rw mr_24) none tb call Q C 0 lv st h kc ks = (match mm_rd lv 0 with
    | some (.inr (.inr (.inl (some k)))) => C 1 lv (vR k :: st) h kc ks
    | some (.inr (.inr (.inr t))) => C 1 lv (vT t :: st) h kc ks
    | _ => False) := rfl
theorem g24_1 (a : Nat) : mm_step (mm_rw mr_24) none tb call Q C 1 lv (.inr (.inr (.inl (some a))) :: st) h kc ks = (st.length ≤ 4 ∧ C 4 lv st h kc ks) := rfl
theorem g24_4  : mm_step (mm_rw mr_24) none tb call Q C 4 lv st h kc ks = (match mm_rd lv 0 with
    | some (.inr (.inr (.inl (some k)))) => C 5 lv (vR k :: st) h kc ks
    | some (.inr (.inr (.inr t))) => C 5 lv (vT t :: st) h kc ks
    | _ => False) := rfl
theorem g24_5  : mm_step (mm_rw mr_24) none tb call Q C 5 lv st h kc ks = (C 6 lv (vI 2 :: st) h kc ks) := rfl
theorem g24_6 (v : AV) (k : Nat) : mm_step (mm_rw mr_24) none tb call Q C 6 lv (v :: .inr (.inr (.inl (some k))) :: st) h kc ks = (match h.2 k with
    | some (.inr (.inr (ci, fs))) => ci = 4 ∧ 1 < fs.length ∧ mm_fit (mm_ft 4 1) v ∧ C 9 lv st (mm_up h k (cO ci (fs.set 1 v))) kc ks
    | _ => False) := rfl
theorem g24_9  : mm_step (mm_rw mr_24) none tb call Q C 9 lv st h kc ks = (match mm_rd lv 0 with
    | some (.inr (.inr (.inl (some k)))) => C 10 lv (vR k :: st) h kc ks
    | some (.inr (.inr (.inr t))) => C 10 lv (vT t :: st) h kc ks
    | _ => False) := rfl
theorem g24_10  : mm_step (mm_rw mr_24) none tb call Q C 10 lv st h kc ks = (1 ≤ kc ∧ mm_nf 5 ≤ ks ∧ C 13 lv (vR h.1 :: st) (mm_al h (cO 5 (mm_df 5))) (kc - 1) (ks - mm_nf 5)) := rfl
theorem g24_13 (v : AV) : mm_step (mm_rw mr_24) none tb call Q C 13 lv (v :: st) h kc ks = (mm_c2 v = false ∧ C 14 lv (v :: v :: st) h kc ks) := rfl
theorem g24_14  : mm_step (mm_rw mr_24) none tb call Q C 14 lv st h kc ks = ((match (st.take 1).reverse with
    | .inr (.inr (.inl (some _))) :: _ => True
    | _ => False) ∧ mm_call call C 31 1 14 lv st h kc ks) := rfl
theorem g24_17 (v : AV) (k : Nat) : mm_step (mm_rw mr_24) none tb call Q C 17 lv (v :: .inr (.inr (.inl (some k))) :: st) h kc ks = (match h.2 k with
    | some (.inr (.inr (ci, fs))) => ci = 4 ∧ 3 < fs.length ∧ mm_fit (mm_ft 4 3) v ∧ C 20 lv st (mm_up h k (cO ci (fs.set 3 v))) kc ks
    | _ => False) := rfl
theorem g24_20  : mm_step (mm_rw mr_24) none tb call Q C 20 lv st h kc ks = (match mm_rd lv 0 with
    | some (.inr (.inr (.inl (some k)))) => C 21 lv (vR k :: st) h kc ks
    | some (.inr (.inr (.inr t))) => C 21 lv (vT t :: st) h kc ks
    | _ => False) := rfl
theorem g24_21  : mm_step (mm_rw mr_24) none tb call Q C 21 lv st h kc ks = (1 ≤ kc ∧ mm_nf 5 ≤ ks ∧ C 24 lv (vR h.1 :: st) (mm_al h (cO 5 (mm_df 5))) (kc - 1) (ks - mm_nf 5)) := rfl
theorem g24_24 (v : AV) : mm_step (mm_rw mr_24) none tb call Q C 24 lv (v :: st) h kc ks = (mm_c2 v = false ∧ C 25 lv (v :: v :: st) h kc ks) := rfl
theorem g24_25  : mm_step (mm_rw mr_24) none tb call Q C 25 lv st h kc ks = ((match (st.take 1).reverse with
    | .inr (.inr (.inl (some _))) :: _ => True
    | _ => False) ∧ mm_call call C 31 1 25 lv st h kc ks) := rfl
theorem g24_28 (v : AV) (k : Nat) : mm_step (mm_rw mr_24) none tb call Q C 28 lv (v :: .inr (.inr (.inl (some k))) :: st) h kc ks = (match h.2 k with
    | some (.inr (.inr (ci, fs))) => ci = 4 ∧ 4 < fs.length ∧ mm_fit (mm_ft 4 4) v ∧ C 31 lv st (mm_up h k (cO ci (fs.set 4 v))) kc ks
    | _ => False) := rfl
theorem g24_31  : mm_step (mm_rw mr_24) none tb call Q C 31 lv st h kc ks = (match mm_rd lv 0 with
    | some (.inr (.inr (.inl (some k)))) => C 32 lv (vR k :: st) h kc ks
    | some (.inr (.inr (.inr t))) => C 32 lv (vT t :: st) h kc ks
    | _ => False) := rfl
theorem g24_32  : mm_step (mm_rw mr_24) none tb call Q C 32 lv st h kc ks = (C 33 lv (vI 4 :: st) h kc ks) := rfl
theorem g24_33 (n : Int32) : mm_step (mm_rw mr_24) none tb call Q C 33 lv (.inl n :: st) h kc ks = (¬ n < 0 ∧ n.toNatClampNeg ≤ 1000 ∧ 1 ≤ kc ∧ n.toNatClampNeg ≤ ks ∧ C 35 lv (vR h.1 :: st) (mm_al h (.inl (.int, n.toNatClampNeg, fun _ => 0))) (kc - 1) (ks - n.toNatClampNeg)) := rfl
theorem g24_35 (v : AV) (k : Nat) : mm_step (mm_rw mr_24) none tb call Q C 35 lv (v :: .inr (.inr (.inl (some k))) :: st) h kc ks = (match h.2 k with
    | some (.inr (.inr (ci, fs))) => ci = 4 ∧ 5 < fs.length ∧ mm_fit (mm_ft 4 5) v ∧ C 38 lv st (mm_up h k (cO ci (fs.set 5 v))) kc ks
    | _ => False) := rfl
theorem g24_38  : mm_step (mm_rw mr_24) none tb call Q C 38 lv st h kc ks = (match mm_rd lv 0 with
    | some (.inr (.inr (.inl (some k)))) => C 39 lv (vR k :: st) h kc ks
    | some (.inr (.inr (.inr t))) => C 39 lv (vT t :: st) h kc ks
    | _ => False) := rfl
theorem g24_39  : mm_step (mm_rw mr_24) none tb call Q C 39 lv st h kc ks = (C 40 lv (vI 4 :: st) h kc ks) := rfl
theorem g24_40 (n : Int32) : mm_step (mm_rw mr_24) none tb call Q C 40 lv (.inl n :: st) h kc ks = (¬ n < 0 ∧ n.toNatClampNeg ≤ 1000 ∧ 1 ≤ kc ∧ n.toNatClampNeg ≤ ks ∧ C 42 lv (vR h.1 :: st) (mm_al h (.inl (.int, n.toNatClampNeg, fun _ => 0))) (kc - 1) (ks - n.toNatClampNeg)) := rfl
theorem g24_42 (v : AV) (k : Nat) : mm_step (mm_rw mr_24) none tb call Q C 42 lv (v :: .inr (.inr (.inl (some k))) :: st) h kc ks = (match h.2 k with
    | some (.inr (.inr (ci, fs))) => ci = 4 ∧ 6 < fs.length ∧ mm_fit (mm_ft 4 6) v ∧ C 45 lv st (mm_up h k (cO ci (fs.set 6 v))) kc ks
    | _ => False) := rfl
theorem g24_45  : mm_step (mm_rw mr_24) none tb call Q C 45 lv st h kc ks = (match mm_rd lv 0 with
    | some (.inr (.inr (.inl (some k)))) => C 46 lv (vR k :: st) h kc ks
    | some (.inr (.inr (.inr t))) => C 46 lv (vT t :: st) h kc ks
    | _ => False) := rfl
theorem g24_46 (k : Nat) : mm_step (mm_rw mr_24) none tb call Q C 46 lv (.inr (.inr (.inl (some k))) :: st) h kc ks = (match h.2 k with
    | some (.inr (.inr (ci, fs))) => ci = 4 ∧ (match fs[3]? with
      | some v => C 49 lv (v :: st) h kc ks
      | none => False)
    | _ => False) := rfl
theorem g24_49  : mm_step (mm_rw mr_24) none tb call Q C 49 lv st h kc ks = (C 50 lv (vI 2 :: st) h kc ks) := rfl
theorem g24_50  : mm_step (mm_rw mr_24) none tb call Q C 50 lv st h kc ks = ((match (st.take 2).reverse with
    | .inr (.inr (.inl (some k))) :: _ => (match h.2 k with
      | some (.inr (.inr (ci, _))) => mm_cn ci = (mm_mi 33).1.cls
      | _ => False)
    | _ => False) ∧ mm_call call C 33 2 50 lv st h kc ks) := rfl
theorem g24_53  : mm_step (mm_rw mr_24) none tb call Q C 53 lv st h kc ks = (match mm_rd lv 0 with
    | some (.inr (.inr (.inl (some k)))) => C 54 lv (vR k :: st) h kc ks
    | some (.inr (.inr (.inr t))) => C 54 lv (vT t :: st) h kc ks
    | _ => False) := rfl
theorem g24_54 (k : Nat) : mm_step (mm_rw mr_24) none tb call Q C 54 lv (.inr (.inr (.inl (some k))) :: st) h kc ks = (match h.2 k with
    | some (.inr (.inr (ci, fs))) => ci = 4 ∧ (match fs[4]? with
      | some v => C 57 lv (v :: st) h kc ks
      | none => False)
    | _ => False) := rfl
theorem g24_57  : mm_step (mm_rw mr_24) none tb call Q C 57 lv st h kc ks = (C 58 lv (vI 2 :: st) h kc ks) := rfl
theorem g24_58  : mm_step (mm_rw mr_24) none tb call Q C 58 lv st h kc ks = ((match (st.take 2).reverse with
    | .inr (.inr (.inl (some k))) :: _ => (match h.2 k with
      | some (.inr (.inr (ci, _))) => mm_cn ci = (mm_mi 33).1.cls
      | _ => False)
    | _ => False) ∧ mm_call call C 33 2 58 lv st h kc ks) := rfl
theorem g24_61  : mm_step (mm_rw mr_24) none tb call Q C 61 lv [] h kc ks = ((none : Option FieldType) = none ∧ Q none h) := rfl
end G24

abbrev sp_4 : List Nat := [12]
section G4
variable {tb : Nat → Nat × (Nat → Int32)} {call : CO} {Q : AQ} {C : CP} {lv : AL} {st : List AV} {h : AH} {kc ks : Nat}
theorem g4_0  : mm_step (mm_rw mr_4) none tb call Q C 0 lv st h kc ks = (match mm_rd lv 0 with
    | some (.inr (.inr (.inl (some k)))) => C 1 lv (vR k :: st) h kc ks
    | some (.inr (.inr (.inr t))) => C 1 lv (vT t :: st) h kc ks
    | _ => False) := rfl
theorem g4_1 (a : Nat) : mm_step (mm_rw mr_4) none tb call Q C 1 lv (.inr (.inr (.inl (some a))) :: st) h kc ks = (st.length ≤ 4 ∧ C 4 lv st h kc ks) := rfl
theorem g4_4  : mm_step (mm_rw mr_4) none tb call Q C 4 lv st h kc ks = (match mm_rd lv 0 with
    | some (.inr (.inr (.inl (some k)))) => C 5 lv (vR k :: st) h kc ks
    | some (.inr (.inr (.inr t))) => C 5 lv (vT t :: st) h kc ks
    | _ => False) := rfl
theorem g4_5  : mm_step (mm_rw mr_4) none tb call Q C 5 lv st h kc ks = (1 ≤ kc ∧ mm_nf 5 ≤ ks ∧ C 8 lv (vR h.1 :: st) (mm_al h (cO 5 (mm_df 5))) (kc - 1) (ks - mm_nf 5)) := rfl
theorem g4_8 (v : AV) : mm_step (mm_rw mr_4) none tb call Q C 8 lv (v :: st) h kc ks = (mm_c2 v = false ∧ C 9 lv (v :: v :: st) h kc ks) := rfl
theorem g4_9  : mm_step (mm_rw mr_4) none tb call Q C 9 lv st h kc ks = ((match (st.take 1).reverse with
    | .inr (.inr (.inl (some _))) :: _ => True
    | _ => False) ∧ mm_call call C 31 1 9 lv st h kc ks) := rfl
theorem g4_12 (v : AV) (k : Nat) : mm_step (mm_rw mr_4) none tb call Q C 12 lv (v :: .inr (.inr (.inl (some k))) :: st) h kc ks = (match h.2 k with
    | some (.inr (.inr (ci, fs))) => ci = 1 ∧ 0 < fs.length ∧ mm_fit (mm_ft 1 0) v ∧ C 15 lv st (mm_up h k (cO ci (fs.set 0 v))) kc ks
    | _ => False) := rfl
theorem g4_15  : mm_step (mm_rw mr_4) none tb call Q C 15 lv st h kc ks = (match mm_rd lv 0 with
    | some (.inr (.inr (.inl (some k)))) => C 16 lv (vR k :: st) h kc ks
    | some (.inr (.inr (.inr t))) => C 16 lv (vT t :: st) h kc ks
    | _ => False) := rfl
theorem g4_16  : mm_step (mm_rw mr_4) none tb call Q C 16 lv st h kc ks = (C 18 lv (vI 8 :: st) h kc ks) := rfl
theorem g4_18 (n : Int32) : mm_step (mm_rw mr_4) none tb call Q C 18 lv (.inl n :: st) h kc ks = (¬ n < 0 ∧ n.toNatClampNeg ≤ 1000 ∧ 1 ≤ kc ∧ n.toNatClampNeg ≤ ks ∧ C 20 lv (vR h.1 :: st) (mm_al h (.inl (.int, n.toNatClampNeg, fun _ => 0))) (kc - 1) (ks - n.toNatClampNeg)) := rfl
theorem g4_20 (v : AV) (k : Nat) : mm_step (mm_rw mr_4) none tb call Q C 20 lv (v :: .inr (.inr (.inl (some k))) :: st) h kc ks = (match h.2 k with
    | some (.inr (.inr (ci, fs))) => ci = 1 ∧ 1 < fs.length ∧ mm_fit (mm_ft 1 1) v ∧ C 23 lv st (mm_up h k (cO ci (fs.set 1 v))) kc ks
    | _ => False) := rfl
theorem g4_23  : mm_step (mm_rw mr_4) none tb call Q C 23 lv st h kc ks = (match mm_rd lv 0 with
    | some (.inr (.inr (.inl (some k)))) => C 24 lv (vR k :: st) h kc ks
    | some (.inr (.inr (.inr t))) => C 24 lv (vT t :: st) h kc ks
    | _ => False) := rfl
theorem g4_24  : mm_step (mm_rw mr_4) none tb call Q C 24 lv st h kc ks = (C 26 lv (vI 8 :: st) h kc ks) := rfl
theorem g4_26 (n : Int32) : mm_step (mm_rw mr_4) none tb call Q C 26 lv (.inl n :: st) h kc ks = (¬ n < 0 ∧ n.toNatClampNeg ≤ 1000 ∧ 1 ≤ kc ∧ n.toNatClampNeg ≤ ks ∧ C 28 lv (vR h.1 :: st) (mm_al h (.inl (.int, n.toNatClampNeg, fun _ => 0))) (kc - 1) (ks - n.toNatClampNeg)) := rfl
theorem g4_28 (v : AV) (k : Nat) : mm_step (mm_rw mr_4) none tb call Q C 28 lv (v :: .inr (.inr (.inl (some k))) :: st) h kc ks = (match h.2 k with
    | some (.inr (.inr (ci, fs))) => ci = 1 ∧ 2 < fs.length ∧ mm_fit (mm_ft 1 2) v ∧ C 31 lv st (mm_up h k (cO ci (fs.set 2 v))) kc ks
    | _ => False) := rfl
theorem g4_31  : mm_step (mm_rw mr_4) none tb call Q C 31 lv [] h kc ks = ((none : Option FieldType) = none ∧ Q none h) := rfl
end G4

abbrev sp_0 : List Nat := []
section G0
variable {tb : Nat → Nat × (Nat → Int32)} {call : CO} {Q : AQ} {C : CP} {lv : AL} {st : List AV} {h : AH} {kc ks : Nat}
theorem g0_0  : mm_step (mm_rw mr_0) none tb call Q C 0 lv st h kc ks = (match mm_rd lv 0 with
    | some (.inr (.inr (.inl (some k)))) => C 1 lv (vR k :: st) h kc ks
    | some (.inr (.inr (.inr t))) => C 1 lv (vT t :: st) h kc ks
    | _ => False) := rfl
theorem g0_1 (a : Nat) : mm_step (mm_rw mr_0) none tb call Q C 1 lv (.inr (.inr (.inl (some a))) :: st) h kc ks = (st.length ≤ 4 ∧ C 4 lv st h kc ks) := rfl
theorem g0_4  : mm_step (mm_rw mr_0) none tb call Q C 4 lv st h kc ks = (match mm_rd lv 0 with
    | some (.inr (.inr (.inl (some k)))) => C 5 lv (vR k :: st) h kc ks
    | some (.inr (.inr (.inr t))) => C 5 lv (vT t :: st) h kc ks
    | _ => False) := rfl
theorem g0_5  : mm_step (mm_rw mr_0) none tb call Q C 5 lv st h kc ks = (C 7 lv (vI 16 :: st) h kc ks) := rfl
theorem g0_7 (n : Int32) : mm_step (mm_rw mr_0) none tb call Q C 7 lv (.inl n :: st) h kc ks = (¬ n < 0 ∧ n.toNatClampNeg ≤ 1000 ∧ 1 ≤ kc ∧ n.toNatClampNeg ≤ ks ∧ C 9 lv (vR h.1 :: st) (mm_al h (.inl (.int, n.toNatClampNeg, fun _ => 0))) (kc - 1) (ks - n.toNatClampNeg)) := rfl
theorem g0_9 (v : AV) (k : Nat) : mm_step (mm_rw mr_0) none tb call Q C 9 lv (v :: .inr (.inr (.inl (some k))) :: st) h kc ks = (match h.2 k with
    | some (.inr (.inr (ci, fs))) => ci = 0 ∧ 0 < fs.length ∧ mm_fit (mm_ft 0 0) v ∧ C 12 lv st (mm_up h k (cO ci (fs.set 0 v))) kc ks
    | _ => False) := rfl
theorem g0_12  : mm_step (mm_rw mr_0) none tb call Q C 12 lv st h kc ks = (match mm_rd lv 0 with
    | some (.inr (.inr (.inl (some k)))) => C 13 lv (vR k :: st) h kc ks
    | some (.inr (.inr (.inr t))) => C 13 lv (vT t :: st) h kc ks
    | _ => False) := rfl
theorem g0_13  : mm_step (mm_rw mr_0) none tb call Q C 13 lv st h kc ks = (C 15 lv (vI 16 :: st) h kc ks) := rfl
theorem g0_15 (n : Int32) : mm_step (mm_rw mr_0) none tb call Q C 15 lv (.inl n :: st) h kc ks = (¬ n < 0 ∧ n.toNatClampNeg ≤ 1000 ∧ 1 ≤ kc ∧ n.toNatClampNeg ≤ ks ∧ C 17 lv (vR h.1 :: st) (mm_al h (.inl (.int, n.toNatClampNeg, fun _ => 0))) (kc - 1) (ks - n.toNatClampNeg)) := rfl
theorem g0_17 (v : AV) (k : Nat) : mm_step (mm_rw mr_0) none tb call Q C 17 lv (v :: .inr (.inr (.inl (some k))) :: st) h kc ks = (match h.2 k with
    | some (.inr (.inr (ci, fs))) => ci = 0 ∧ 1 < fs.length ∧ mm_fit (mm_ft 0 1) v ∧ C 20 lv st (mm_up h k (cO ci (fs.set 1 v))) kc ks
    | _ => False) := rfl
theorem g0_20  : mm_step (mm_rw mr_0) none tb call Q C 20 lv st h kc ks = (match mm_rd lv 0 with
    | some (.inr (.inr (.inl (some k)))) => C 21 lv (vR k :: st) h kc ks
    | some (.inr (.inr (.inr t))) => C 21 lv (vT t :: st) h kc ks
    | _ => False) := rfl
theorem g0_21  : mm_step (mm_rw mr_0) none tb call Q C 21 lv st h kc ks = (C 23 lv (vI 16 :: st) h kc ks) := rfl
theorem g0_23 (n : Int32) : mm_step (mm_rw mr_0) none tb call Q C 23 lv (.inl n :: st) h kc ks = (¬ n < 0 ∧ n.toNatClampNeg ≤ 1000 ∧ 1 ≤ kc ∧ n.toNatClampNeg ≤ ks ∧ C 25 lv (vR h.1 :: st) (mm_al h (.inl (.int, n.toNatClampNeg, fun _ => 0))) (kc - 1) (ks - n.toNatClampNeg)) := rfl
theorem g0_25 (v : AV) (k : Nat) : mm_step (mm_rw mr_0) none tb call Q C 25 lv (v :: .inr (.inr (.inl (some k))) :: st) h kc ks = (match h.2 k with
    | some (.inr (.inr (ci, fs))) => ci = 0 ∧ 2 < fs.length ∧ mm_fit (mm_ft 0 2) v ∧ C 28 lv st (mm_up h k (cO ci (fs.set 2 v))) kc ks
    | _ => False) := rfl
theorem g0_28  : mm_step (mm_rw mr_0) none tb call Q C 28 lv st h kc ks = (match mm_rd lv 0 with
    | some (.inr (.inr (.inl (some k)))) => C 29 lv (vR k :: st) h kc ks
    | some (.inr (.inr (.inr t))) => C 29 lv (vT t :: st) h kc ks
    | _ => False) := rfl
theorem g0_29  : mm_step (mm_rw mr_0) none tb call Q C 29 lv st h kc ks = (C 31 lv (vI 16 :: st) h kc ks) := rfl
theorem g0_31 (n : Int32) : mm_step (mm_rw mr_0) none tb call Q C 31 lv (.inl n :: st) h kc ks = (¬ n < 0 ∧ n.toNatClampNeg ≤ 1000 ∧ 1 ≤ kc ∧ n.toNatClampNeg ≤ ks ∧ C 33 lv (vR h.1 :: st) (mm_al h (.inl (.int, n.toNatClampNeg, fun _ => 0))) (kc - 1) (ks - n.toNatClampNeg)) := rfl
theorem g0_33 (v : AV) (k : Nat) : mm_step (mm_rw mr_0) none tb call Q C 33 lv (v :: .inr (.inr (.inl (some k))) :: st) h kc ks = (match h.2 k with
    | some (.inr (.inr (ci, fs))) => ci = 0 ∧ 3 < fs.length ∧ mm_fit (mm_ft 0 3) v ∧ C 36 lv st (mm_up h k (cO ci (fs.set 3 v))) kc ks
    | _ => False) := rfl
theorem g0_36  : mm_step (mm_rw mr_0) none tb call Q C 36 lv [] h kc ks = ((none : Option FieldType) = none ∧ Q none h) := rfl
end G0

abbrev sp_8 : List Nat := [63, 81]
section G8
variable {tb : Nat → Nat × (Nat → Int32)} {call : CO} {Q : AQ} {C : CP} {lv : AL} {st : List AV} {h : AH} {kc ks : Nat}
theorem g8_0  : mm_step (mm_rw mr_8) none tb call Q C 0 lv st h kc ks = (match mm_rd lv 0 with
    | some (.inr (.inr (.inl (some k)))) => C 1 lv (vR k :: st) h kc ks
    | some (.inr (.inr (.inr t))) => C 1 lv (vT t :: st) h kc ks
    | _ => False) := rfl
theorem g8_1 (a : Nat) : mm_step (mm_rw mr_8) none tb call Q C 1 lv (.inr (.inr (.inl (some a))) :: st) h kc ks = (st.length ≤ 4 ∧ C 4 lv st h kc ks) := rfl
theorem g8_4  : mm_step (mm_rw mr_8) none tb call Q C 4 lv st h kc ks = (match mm_rd lv 0 with
    | some (.inr (.inr (.inl (some k)))) => C 5 lv (vR k :: st) h kc ks
    | some (.inr (.inr (.inr t))) => C 5 lv (vT t :: st) h kc ks
    | _ => False) := rfl
theorem g8_5  : mm_step (mm_rw mr_8) none tb call Q C 5 lv st h kc ks = (C 7 lv (vI 6 :: st) h kc ks) := rfl
theorem g8_7 (n : Int32) : mm_step (mm_rw mr_8) none tb call Q C 7 lv (.inl n :: st) h kc ks = (¬ n < 0 ∧ n.toNatClampNeg ≤ 1000 ∧ 1 ≤ kc ∧ n.toNatClampNeg ≤ ks ∧ C 9 lv (vR h.1 :: st) (mm_al h (.inl (.int, n.toNatClampNeg, fun _ => 0))) (kc - 1) (ks - n.toNatClampNeg)) := rfl
theorem g8_9 (v : AV) (k : Nat) : mm_step (mm_rw mr_8) none tb call Q C 9 lv (v :: .inr (.inr (.inl (some k))) :: st) h kc ks = (match h.2 k with
    | some (.inr (.inr (ci, fs))) => ci = 2 ∧ 0 < fs.length ∧ mm_fit (mm_ft 2 0) v ∧ C 12 lv st (mm_up h k (cO ci (fs.set 0 v))) kc ks
    | _ => False) := rfl
theorem g8_12  : mm_step (mm_rw mr_8) none tb call Q C 12 lv st h kc ks = (match mm_rd lv 0 with
    | some (.inr (.inr (.inl (some k)))) => C 13 lv (vR k :: st) h kc ks
    | some (.inr (.inr (.inr t))) => C 13 lv (vT t :: st) h kc ks
    | _ => False) := rfl
theorem g8_13  : mm_step (mm_rw mr_8) none tb call Q C 13 lv st h kc ks = (C 15 lv (vI 6 :: st) h kc ks) := rfl
theorem g8_15 (n : Int32) : mm_step (mm_rw mr_8) none tb call Q C 15 lv (.inl n :: st) h kc ks = (¬ n < 0 ∧ n.toNatClampNeg ≤ 1000 ∧ 1 ≤ kc ∧ n.toNatClampNeg ≤ ks ∧ C 17 lv (vR h.1 :: st) (mm_al h (.inl (.int, n.toNatClampNeg, fun _ => 0))) (kc - 1) (ks - n.toNatClampNeg)) := rfl
theorem g8_17 (v : AV) (k : Nat) : mm_step (mm_rw mr_8) none tb call Q C 17 lv (v :: .inr (.inr (.inl (some k))) :: st) h kc ks = (match h.2 k with
    | some (.inr (.inr (ci, fs))) => ci = 2 ∧ 1 < fs.length ∧ mm_fit (mm_ft 2 1) v ∧ C 20 lv st (mm_up h k (cO ci (fs.set 1 v))) kc ks
    | _ => False) := rfl
theorem g8_20  : mm_step (mm_rw mr_8) none tb call Q C 20 lv st h kc ks = (match mm_rd lv 0 with
    | some (.inr (.inr (.inl (some k)))) => C 21 lv (vR k :: st) h kc ks
    | some (.inr (.inr (.inr t))) => C 21 lv (vT t :: st) h kc ks
    | _ => False) := rfl
theorem g8_21  : mm_step (mm_rw mr_8) none tb call Q C 21 lv st h kc ks = (C 23 lv (vI 7 :: st) h kc ks) := rfl
theorem g8_23 (n : Int32) : mm_step (mm_rw mr_8) none tb call Q C 23 lv (.inl n :: st) h kc ks = (¬ n < 0 ∧ n.toNatClampNeg ≤ 1000 ∧ 1 ≤ kc ∧ n.toNatClampNeg ≤ ks ∧ C 26 lv (vR h.1 :: st) (mm_al h (cQ 5 n.toNatClampNeg (fun _ => none))) (kc - 1) (ks - n.toNatClampNeg)) := rfl
theorem g8_26 (v : AV) (k : Nat) : mm_step (mm_rw mr_8) none tb call Q C 26 lv (v :: .inr (.inr (.inl (some k))) :: st) h kc ks = (match h.2 k with
    | some (.inr (.inr (ci, fs))) => ci = 2 ∧ 3 < fs.length ∧ mm_fit (mm_ft 2 3) v ∧ C 29 lv st (mm_up h k (cO ci (fs.set 3 v))) kc ks
    | _ => False) := rfl
theorem g8_29  : mm_step (mm_rw mr_8) none tb call Q C 29 lv st h kc ks = (match mm_rd lv 0 with
    | some (.inr (.inr (.inl (some k)))) => C 30 lv (vR k :: st) h kc ks
    | some (.inr (.inr (.inr t))) => C 30 lv (vT t :: st) h kc ks
    | _ => False) := rfl
theorem g8_30  : mm_step (mm_rw mr_8) none tb call Q C 30 lv st h kc ks = (C 32 lv (vI 8 :: st) h kc ks) := rfl
theorem g8_32 (n : Int32) : mm_step (mm_rw mr_8) none tb call Q C 32 lv (.inl n :: st) h kc ks = (¬ n < 0 ∧ n.toNatClampNeg ≤ 1000 ∧ 1 ≤ kc ∧ n.toNatClampNeg ≤ ks ∧ C 34 lv (vR h.1 :: st) (mm_al h (.inl (.int, n.toNatClampNeg, fun _ => 0))) (kc - 1) (ks - n.toNatClampNeg)) := rfl
theorem g8_34 (v : AV) (k : Nat) : mm_step (mm_rw mr_8) none tb call Q C 34 lv (v :: .inr (.inr (.inl (some k))) :: st) h kc ks = (match h.2 k with
    | some (.inr (.inr (ci, fs))) => ci = 2 ∧ 4 < fs.length ∧ mm_fit (mm_ft 2 4) v ∧ C 37 lv st (mm_up h k (cO ci (fs.set 4 v))) kc ks
    | _ => False) := rfl
theorem g8_37  : mm_step (mm_rw mr_8) none tb call Q C 37 lv st h kc ks = (match mm_rd lv 0 with
    | some (.inr (.inr (.inl (some k)))) => C 38 lv (vR k :: st) h kc ks
    | some (.inr (.inr (.inr t))) => C 38 lv (vT t :: st) h kc ks
    | _ => False) := rfl
theorem g8_38  : mm_step (mm_rw mr_8) none tb call Q C 38 lv st h kc ks = (C 40 lv (vI 8 :: st) h kc ks) := rfl
theorem g8_40 (n : Int32) : mm_step (mm_rw mr_8) none tb call Q C 40 lv (.inl n :: st) h kc ks = (¬ n < 0 ∧ n.toNatClampNeg ≤ 1000 ∧ 1 ≤ kc ∧ n.toNatClampNeg ≤ ks ∧ C 42 lv (vR h.1 :: st) (mm_al h (.inl (.int, n.toNatClampNeg, fun _ => 0))) (kc - 1) (ks - n.toNatClampNeg)) := rfl
theorem g8_42 (v : AV) (k : Nat) : mm_step (mm_rw mr_8) none tb call Q C 42 lv (v :: .inr (.inr (.inl (some k))) :: st) h kc ks = (match h.2 k with
    | some (.inr (.inr (ci, fs))) => ci = 2 ∧ 5 < fs.length ∧ mm_fit (mm_ft 2 5) v ∧ C 45 lv st (mm_up h k (cO ci (fs.set 5 v))) kc ks
    | _ => False) := rfl
theorem g8_45  : mm_step (mm_rw mr_8) none tb call Q C 45 lv st h kc ks = (match mm_rd lv 0 with
    | some (.inr (.inr (.inl (some k)))) => C 46 lv (vR k :: st) h kc ks
    | some (.inr (.inr (.inr t))) => C 46 lv (vT t :: st) h kc ks
    | _ => False) := rfl
theorem g8_46  : mm_step (mm_rw mr_8) none tb call Q C 46 lv st h kc ks = (C 48 lv (vI 8 :: st) h kc ks) := rfl
theorem g8_48 (n : Int32) : mm_step (mm_rw mr_8) none tb call Q C 48 lv (.inl n :: st) h kc ks = (¬ n < 0 ∧ n.toNatClampNeg ≤ 1000 ∧ 1 ≤ kc ∧ n.toNatClampNeg ≤ ks ∧ C 50 lv (vR h.1 :: st) (mm_al h (.inl (.int, n.toNatClampNeg, fun _ => 0))) (kc - 1) (ks - n.toNatClampNeg)) := rfl
theorem g8_50 (v : AV) (k : Nat) : mm_step (mm_rw mr_8) none tb call Q C 50 lv (v :: .inr (.inr (.inl (some k))) :: st) h kc ks = (match h.2 k with
    | some (.inr (.inr (ci, fs))) => ci = 2 ∧ 9 < fs.length ∧ mm_fit (mm_ft 2 9) v ∧ C 53 lv st (mm_up h k (cO ci (fs.set 9 v))) kc ks
    | _ => False) := rfl
theorem g8_53  : mm_step (mm_rw mr_8) none tb call Q C 53 lv st h kc ks = (match mm_rd lv 0 with
    | some (.inr (.inr (.inl (some k)))) => C 54 lv (vR k :: st) h kc ks
    | some (.inr (.inr (.inr t))) => C 54 lv (vT t :: st) h kc ks
    | _ => False) := rfl
theorem g8_54  : mm_step (mm_rw mr_8) none tb call Q C 54 lv st h kc ks = (C 56 lv (vI 8 :: st) h kc ks) := rfl
theorem g8_56 (n : Int32) : mm_step (mm_rw mr_8) none tb call Q C 56 lv (.inl n :: st) h kc ks = (¬ n < 0 ∧ n.toNatClampNeg ≤ 1000 ∧ 1 ≤ kc ∧ n.toNatClampNeg ≤ ks ∧ C 58 lv (vR h.1 :: st) (mm_al h (.inl (.int, n.toNatClampNeg, fun _ => 0))) (kc - 1) (ks - n.toNatClampNeg)) := rfl
theorem g8_58 (v : AV) (k : Nat) : mm_step (mm_rw mr_8) none tb call Q C 58 lv (v :: .inr (.inr (.inl (some k))) :: st) h kc ks = (match h.2 k with
    | some (.inr (.inr (ci, fs))) => ci = 2 ∧ 10 < fs.length ∧ mm_fit (mm_ft 2 10) v ∧ C 61 lv st (mm_up h k (cO ci (fs.set 10 v))) kc ks
    | _ => False) := rfl
theorem g8_61  : mm_step (mm_rw mr_8) none tb call Q C 61 lv st h kc ks = (C 62 lv (vI 0 :: st) h kc ks) := rfl
theorem g8_62 (a : Int32) : mm_step (mm_rw mr_8) none tb call Q C 62 lv (.inl a :: st) h kc ks = (C 63 (mm_st1 lv 1 (vI a)) st h kc ks) := rfl
theorem g8_63  : mm_step (mm_rw mr_8) none tb call Q C 63 lv st h kc ks = (match mm_rd lv 1 with
    | some (.inl a) => C 64 lv (vI a :: st) h kc ks
    | _ => False) := rfl
theorem g8_64  : mm_step (mm_rw mr_8) none tb call Q C 64 lv st h kc ks = (C 66 lv (vI 6 :: st) h kc ks) := rfl
theorem g8_66 (a b : Int32) : mm_step (mm_rw mr_8) none tb call Q C 66 lv (.inl b :: .inl a :: st) h kc ks = ((b < a → C 88 lv st h kc ks) ∧ (¬ b < a → C 69 lv st h kc ks)) := rfl
theorem g8_69  : mm_step (mm_rw mr_8) none tb call Q C 69 lv st h kc ks = (match mm_rd lv 0 with
    | some (.inr (.inr (.inl (some k)))) => C 70 lv (vR k :: st) h kc ks
    | some (.inr (.inr (.inr t))) => C 70 lv (vT t :: st) h kc ks
    | _ => False) := rfl
theorem g8_70 (k : Nat) : mm_step (mm_rw mr_8) none tb call Q C 70 lv (.inr (.inr (.inl (some k))) :: st) h kc ks = (match h.2 k with
    | some (.inr (.inr (ci, fs))) => ci = 2 ∧ (match fs[3]? with
      | some v => C 73 lv (v :: st) h kc ks
      | none => False)
    | _ => False) := rfl
theorem g8_73  : mm_step (mm_rw mr_8) none tb call Q C 73 lv st h kc ks = (match mm_rd lv 1 with
    | some (.inl a) => C 74 lv (vI a :: st) h kc ks
    | _ => False) := rfl
theorem g8_74  : mm_step (mm_rw mr_8) none tb call Q C 74 lv st h kc ks = (1 ≤ kc ∧ mm_nf 5 ≤ ks ∧ C 77 lv (vR h.1 :: st) (mm_al h (cO 5 (mm_df 5))) (kc - 1) (ks - mm_nf 5)) := rfl
theorem g8_77 (v : AV) : mm_step (mm_rw mr_8) none tb call Q C 77 lv (v :: st) h kc ks = (mm_c2 v = false ∧ C 78 lv (v :: v :: st) h kc ks) := rfl
theorem g8_78  : mm_step (mm_rw mr_8) none tb call Q C 78 lv st h kc ks = ((match (st.take 1).reverse with
    | .inr (.inr (.inl (some _))) :: _ => True
    | _ => False) ∧ mm_call call C 31 1 78 lv st h kc ks) := rfl
theorem g8_81 (v : Nat) (i : Int32) (k : Nat) : mm_step (mm_rw mr_8) none tb call Q C 81 lv (.inr (.inr (.inl (some v))) :: .inl i :: .inr (.inr (.inl (some k))) :: st) h kc ks = (match h.2 k, h.2 v with
    | some (.inr (.inl (ci, n, f))), some (.inr (.inr (cj, _))) => ci = cj ∧ (ci = 1 ∨ ci = 5) ∧ vp_in i n ∧ C 82 lv st (mm_up h k (cQ ci n (va_up f i.toNatClampNeg (some v)))) kc ks
    | _, _ => False) := rfl
theorem g8_82  : mm_step (mm_rw mr_8) none tb call Q C 82 lv st h kc ks = (match mm_rd lv 1 with
    | some (.inl a) => C 85 (mm_st1 lv 1 (vI (a + 1))) st h kc ks
    | _ => False) := rfl
theorem g8_85  : mm_step (mm_rw mr_8) none tb call Q C 85 lv st h kc ks = (C 63 lv st h kc ks) := rfl
theorem g8_88  : mm_step (mm_rw mr_8) none tb call Q C 88 lv [] h kc ks = ((none : Option FieldType) = none ∧ Q none h) := rfl
end G8

abbrev sp_19 : List Nat := [28, 45]
section G19
variable {tb : Nat → Nat × (Nat → Int32)} {call : CO} {Q : AQ} {C : CP} {lv : AL} {st : List AV} {h : AH} {kc ks : Nat}
theorem g19_0  : mm_step (mm_rw mr_19) none tb call Q C 0 lv st h kc ks = (match mm_rd lv 0 with
    | some (.inr (.inr (.inl (some k)))) => C 1 lv (vR k :: st) h kc ks
    | some (.inr (.inr (.inr t))) => C 1 lv (vT t :: st) h kc ks
    | _ => False) := rfl
theorem g19_1 (a : Nat) : mm_step (mm_rw mr_19) none tb call Q C 1 lv (.inr (.inr (.inl (some a))) :: st) h kc ks = (st.length ≤ 4 ∧ C 4 lv st h kc ks) := rfl
theorem g19_4  : mm_step (mm_rw mr_19) none tb call Q C 4 lv st h kc ks = (match mm_rd lv 0 with
    | some (.inr (.inr (.inl (some k)))) => C 5 lv (vR k :: st) h kc ks
    | some (.inr (.inr (.inr t))) => C 5 lv (vT t :: st) h kc ks
    | _ => False) := rfl
theorem g19_5  : mm_step (mm_rw mr_19) none tb call Q C 5 lv st h kc ks = (C 6 lv (vI 5 :: st) h kc ks) := rfl
theorem g19_6 (n : Int32) : mm_step (mm_rw mr_19) none tb call Q C 6 lv (.inl n :: st) h kc ks = (¬ n < 0 ∧ n.toNatClampNeg ≤ 1000 ∧ 1 ≤ kc ∧ n.toNatClampNeg ≤ ks ∧ C 9 lv (vR h.1 :: st) (mm_al h (cQ 5 n.toNatClampNeg (fun _ => none))) (kc - 1) (ks - n.toNatClampNeg)) := rfl
theorem g19_9 (v : AV) (k : Nat) : mm_step (mm_rw mr_19) none tb call Q C 9 lv (v :: .inr (.inr (.inl (some k))) :: st) h kc ks = (match h.2 k with
    | some (.inr (.inr (ci, fs))) => ci = 3 ∧ 0 < fs.length ∧ mm_fit (mm_ft 3 0) v ∧ C 12 lv st (mm_up h k (cO ci (fs.set 0 v))) kc ks
    | _ => False) := rfl
theorem g19_12  : mm_step (mm_rw mr_19) none tb call Q C 12 lv st h kc ks = (match mm_rd lv 0 with
    | some (.inr (.inr (.inl (some k)))) => C 13 lv (vR k :: st) h kc ks
    | some (.inr (.inr (.inr t))) => C 13 lv (vT t :: st) h kc ks
    | _ => False) := rfl
theorem g19_13  : mm_step (mm_rw mr_19) none tb call Q C 13 lv st h kc ks = (C 14 lv (vI 4 :: st) h kc ks) := rfl
theorem g19_14 (n : Int32) : mm_step (mm_rw mr_19) none tb call Q C 14 lv (.inl n :: st) h kc ks = (¬ n < 0 ∧ n.toNatClampNeg ≤ 1000 ∧ 1 ≤ kc ∧ n.toNatClampNeg ≤ ks ∧ C 16 lv (vR h.1 :: st) (mm_al h (.inl (.int, n.toNatClampNeg, fun _ => 0))) (kc - 1) (ks - n.toNatClampNeg)) := rfl
theorem g19_16 (v : AV) (k : Nat) : mm_step (mm_rw mr_19) none tb call Q C 16 lv (v :: .inr (.inr (.inl (some k))) :: st) h kc ks = (match h.2 k with
    | some (.inr (.inr (ci, fs))) => ci = 3 ∧ 1 < fs.length ∧ mm_fit (mm_ft 3 1) v ∧ C 19 lv st (mm_up h k (cO ci (fs.set 1 v))) kc ks
    | _ => False) := rfl
theorem g19_19  : mm_step (mm_rw mr_19) none tb call Q C 19 lv st h kc ks = (match mm_rd lv 0 with
    | some (.inr (.inr (.inl (some k)))) => C 20 lv (vR k :: st) h kc ks
    | some (.inr (.inr (.inr t))) => C 20 lv (vT t :: st) h kc ks
    | _ => False) := rfl
theorem g19_20  : mm_step (mm_rw mr_19) none tb call Q C 20 lv st h kc ks = (C 21 lv (vI 4 :: st) h kc ks) := rfl
theorem g19_21 (n : Int32) : mm_step (mm_rw mr_19) none tb call Q C 21 lv (.inl n :: st) h kc ks = (¬ n < 0 ∧ n.toNatClampNeg ≤ 1000 ∧ 1 ≤ kc ∧ n.toNatClampNeg ≤ ks ∧ C 23 lv (vR h.1 :: st) (mm_al h (.inl (.int, n.toNatClampNeg, fun _ => 0))) (kc - 1) (ks - n.toNatClampNeg)) := rfl
theorem g19_23 (v : AV) (k : Nat) : mm_step (mm_rw mr_19) none tb call Q C 23 lv (v :: .inr (.inr (.inl (some k))) :: st) h kc ks = (match h.2 k with
    | some (.inr (.inr (ci, fs))) => ci = 3 ∧ 2 < fs.length ∧ mm_fit (mm_ft 3 2) v ∧ C 26 lv st (mm_up h k (cO ci (fs.set 2 v))) kc ks
    | _ => False) := rfl
theorem g19_26  : mm_step (mm_rw mr_19) none tb call Q C 26 lv st h kc ks = (C 27 lv (vI 0 :: st) h kc ks) := rfl
theorem g19_27 (a : Int32) : mm_step (mm_rw mr_19) none tb call Q C 27 lv (.inl a :: st) h kc ks = (C 28 (mm_st1 lv 1 (vI a)) st h kc ks) := rfl
theorem g19_28  : mm_step (mm_rw mr_19) none tb call Q C 28 lv st h kc ks = (match mm_rd lv 1 with
    | some (.inl a) => C 29 lv (vI a :: st) h kc ks
    | _ => False) := rfl
theorem g19_29  : mm_step (mm_rw mr_19) none tb call Q C 29 lv st h kc ks = (C 30 lv (vI 4 :: st) h kc ks) := rfl
theorem g19_30 (a b : Int32) : mm_step (mm_rw mr_19) none tb call Q C 30 lv (.inl b :: .inl a :: st) h kc ks = ((b < a → C 52 lv st h kc ks) ∧ (¬ b < a → C 33 lv st h kc ks)) := rfl
theorem g19_33  : mm_step (mm_rw mr_19) none tb call Q C 33 lv st h kc ks = (match mm_rd lv 0 with
    | some (.inr (.inr (.inl (some k)))) => C 34 lv (vR k :: st) h kc ks
    | some (.inr (.inr (.inr t))) => C 34 lv (vT t :: st) h kc ks
    | _ => False) := rfl
theorem g19_34 (k : Nat) : mm_step (mm_rw mr_19) none tb call Q C 34 lv (.inr (.inr (.inl (some k))) :: st) h kc ks = (match h.2 k with
    | some (.inr (.inr (ci, fs))) => ci = 3 ∧ (match fs[0]? with
      | some v => C 37 lv (v :: st) h kc ks
      | none => False)
    | _ => False) := rfl
theorem g19_37  : mm_step (mm_rw mr_19) none tb call Q C 37 lv st h kc ks = (match mm_rd lv 1 with
    | some (.inl a) => C 38 lv (vI a :: st) h kc ks
    | _ => False) := rfl
theorem g19_38  : mm_step (mm_rw mr_19) none tb call Q C 38 lv st h kc ks = (1 ≤ kc ∧ mm_nf 5 ≤ ks ∧ C 41 lv (vR h.1 :: st) (mm_al h (cO 5 (mm_df 5))) (kc - 1) (ks - mm_nf 5)) := rfl
theorem g19_41 (v : AV) : mm_step (mm_rw mr_19) none tb call Q C 41 lv (v :: st) h kc ks = (mm_c2 v = false ∧ C 42 lv (v :: v :: st) h kc ks) := rfl
theorem g19_42  : mm_step (mm_rw mr_19) none tb call Q C 42 lv st h kc ks = ((match (st.take 1).reverse with
    | .inr (.inr (.inl (some _))) :: _ => True
    | _ => False) ∧ mm_call call C 31 1 42 lv st h kc ks) := rfl
theorem g19_45 (v : Nat) (i : Int32) (k : Nat) : mm_step (mm_rw mr_19) none tb call Q C 45 lv (.inr (.inr (.inl (some v))) :: .inl i :: .inr (.inr (.inl (some k))) :: st) h kc ks = (match h.2 k, h.2 v with
    | some (.inr (.inl (ci, n, f))), some (.inr (.inr (cj, _))) => ci = cj ∧ (ci = 1 ∨ ci = 5) ∧ vp_in i n ∧ C 46 lv st (mm_up h k (cQ ci n (va_up f i.toNatClampNeg (some v)))) kc ks
    | _, _ => False) := rfl
theorem g19_46  : mm_step (mm_rw mr_19) none tb call Q C 46 lv st h kc ks = (match mm_rd lv 1 with
    | some (.inl a) => C 49 (mm_st1 lv 1 (vI (a + 1))) st h kc ks
    | _ => False) := rfl
theorem g19_49  : mm_step (mm_rw mr_19) none tb call Q C 49 lv st h kc ks = (C 28 lv st h kc ks) := rfl
theorem g19_52  : mm_step (mm_rw mr_19) none tb call Q C 52 lv [] h kc ks = ((none : Option FieldType) = none ∧ Q none h) := rfl
end G19

theorem cl7 : (7 : Int32).toNatClampNeg = 7 := rfl
theorem cl9 : (9 : Int32).toNatClampNeg = 9 := rfl
theorem cl16 : (16 : Int32).toNatClampNeg = 16 := rfl
theorem cl40 : (40 : Int32).toNatClampNeg = 40 := rfl
theorem cl50 : (50 : Int32).toNatClampNeg = 50 := rfl
theorem cl400 : (400 : Int32).toNatClampNeg = 400 := rfl
theorem df_0 : mm_df 0 = [vN, vN, vN, vN, vI 0] := rfl
theorem df_1 : mm_df 1 = [vN, vN, vN] := rfl
theorem df_2 : mm_df 2 = [vN, vN, vI 0, vN, vN, vN, vI 0, vI 0, vI 0, vN, vN] := rfl
theorem df_3 : mm_df 3 = [vN, vN, vN, vI 0] := rfl
theorem df_4 : mm_df 4 = [vI 0, vI 0, vI 0, vN, vN, vN, vN] := rfl
theorem nf_0 : mm_nf 0 = 5 := rfl
theorem nf_1 : mm_nf 1 = 3 := rfl
theorem nf_2 : mm_nf 2 = 11 := rfl
theorem nf_3 : mm_nf 3 = 4 := rfl
theorem nf_4 : mm_nf 4 = 7 := rfl
section INIT
variable {tb : Nat → Nat × (Nat → Int32)} {d : Nat}
abbrev z0 : Nat → Int32 := fun _ => 0
theorem c_Rinit {h : AH} {r N : Nat} (h1 : h.1 = N) (hr : h.2 r = some (cO 5 [vN, vI 0])) (hlt : r < N) : WM tb (d + 1) k_Row_init [vR r] h 1 8 (fun z h' => z = none ∧ h'.1 = N + 1 ∧ h'.2 r = some (cO 5 [vR N, vI 0]) ∧ h'.2 N = some (cI 8 z0) ∧ ∀ k, k ≠ r → k ≠ N → h'.2 k = h.2 k) :=
  (c_Rowinit hr (by omega)).post (fun z h' hz => by
    obtain ⟨rfl, rfl⟩ := hz
    refine ⟨rfl, by rw [mmu_one, mma_one, h1], by rw [mmu_get, if_pos rfl, h1], ?_, fun k k1 k2 => ?_⟩
    · rw [mmu_get, if_neg (by omega), mma_get, h1, if_pos rfl]
    · rw [mmu_get, if_neg k1, mma_get, h1, if_neg k2])

theorem C_Pinit_2 {h : AH} (h1 : h.1 = 3) (hr : h.2 2 = some (cO 4 [vI 0, vI 0, vI 0, vN, vN, vN, vN])) : WM tb (d + 2) k_Plan_init [vR 2] h 6 28 (fun z h' => z = none ∧ h'.1 = 9 ∧ h'.2 2 = some (cO 4 [vI 0, vI 2, vI 0, vR 3, vR 5, vR 7, vR 8]) ∧ Rw h' 3 4 (List.range 2) ∧ Rw h' 5 6 (List.range 2) ∧ h'.2 7 = some (cI 4 z0) ∧ h'.2 8 = some (cI 4 z0) ∧ ∀ k, k < 2 ∨ 9 ≤ k → h'.2 k = h.2 k) := by
  refine WM.of mi_24 rfl rfl (Nat.le_of_ble_eq_true rfl) ?_
  show WP (mm_rw mr_24) none tb (WM tb (d + 1)) _ 0 [(0, vR 2)] [] h 6 28
  (try simp only [Option.toList_some, Option.toList_none, List.nil_append, List.append_nil, List.cons_append, Nat.sub_zero, Nat.sub_self, Nat.zero_sub]); refine Go.wp sp_24 200 ?_; simp only [↓g24_0, ↓g24_1, ↓g24_4, ↓g24_5, ↓g24_6, ↓g24_9, ↓g24_10, ↓g24_13, ↓g24_14, ↓g24_17, ↓g24_20, ↓g24_21, ↓g24_24, ↓g24_25, ↓g24_28, ↓g24_31, ↓g24_32, ↓g24_33, ↓g24_35, ↓g24_38, ↓g24_39, ↓g24_40, ↓g24_42, ↓g24_45, ↓g24_46, ↓g24_49, ↓g24_50, ↓g24_53, ↓g24_54, ↓g24_57, ↓g24_58, ↓g24_61, cl_31, cl_33, cn_0, cn_1, cn_2, cn_3, cn_4, cn_5, cn_6, cn_7, cn_8, ↓Go_s, ↓GoC_a, ↓reduceIte, ↓mm_call_eq, ↓mmw_nil, ↓mmw_cons, List.take_succ_cons, List.take_zero, List.take_nil, List.drop_succ_cons, List.drop_zero, List.drop_nil, List.reverse_cons, List.reverse_nil, List.nil_append, List.cons_append, List.append_nil, Option.toList_some, Option.toList_none, Nat.sub_zero, Nat.le_refl, mmr_cons, mm_st1, mm_st2, mmi_nil, mmi_cons, mmc_I, mmc_L, mmc_R, mmu_get, mmu_one, mma_get, mma_one, List.filter_cons, List.filter_nil, List.contains_cons, List.contains_nil, Nat.reduceBEq, Nat.reduceAdd, Nat.reduceLT, Nat.reduceSub, Nat.reduceLeDiff, Nat.reduceEqDiff, Int32.reduceAdd, Bool.not_true, Bool.not_false, Bool.and_true, Bool.true_and, Bool.and_false, Bool.false_and, Bool.or_false, Bool.false_or, Bool.or_true, Bool.true_or, if_true, if_false, ite_true, ite_false, Bool.false_eq_true, List.getElem?_cons_zero, List.getElem?_cons_succ, List.length_cons, List.length_nil, true_and, and_true, List.set_cons_zero, List.set_cons_succ, Fin.isValue, Fin.val_zero, Fin.val_one, Fin.val_two, Fin.reduceFinMk, Nat.zero_add, h1, hr, df_5, nf_5, ft_4_1, ft_4_3, ft_4_4, ft_4_5, ft_4_6, nu_fitI, nu_fitL, nu_fitO, nu_fitA, nu_fitB0, nu_fitB1]
  refine ⟨1, 8, _, by decide, by decide, c_Rinit (d := d) (N := 4) (by simp only [mmu_get, mma_get, mma_one, mmu_one, h1, Nat.reduceAdd, Nat.reduceEqDiff, if_true, if_false, List.set_cons_zero, List.set_cons_succ, Nat.reduceLT]) (by simp only [mmu_get, mma_get, mma_one, mmu_one, h1, hr, Nat.reduceAdd, Nat.reduceEqDiff, if_true, if_false, List.set_cons_zero, List.set_cons_succ, Nat.reduceLT]) (by omega), fun z h2 hz => ?_⟩
  obtain ⟨rfl, n2, a3, a4, fr2⟩ := hz
  have a2 : h2.2 2 = some (cO 4 [vI 0, vI 2, vI 0, vN, vN, vN, vN]) := by
    rw [fr2 2 (by omega) (by omega)]
    simp only [mmu_get, mma_get, mma_one, mmu_one, h1, hr, Nat.reduceAdd, Nat.reduceEqDiff, if_true, if_false]
  have fa2 : ∀ k, k < 2 ∨ 5 ≤ k → h2.2 k = h.2 k := fun k hk => by
    rw [fr2 k (by omega) (by omega), mma_get, mmu_one, h1, if_neg (by omega), mmu_get, if_neg (by omega)]
  (try simp only [Option.toList_some, Option.toList_none, List.nil_append, List.append_nil, List.cons_append, Nat.sub_zero, Nat.sub_self, Nat.zero_sub]); refine Go.wp sp_24 200 ?_; simp only [↓g24_0, ↓g24_1, ↓g24_4, ↓g24_5, ↓g24_6, ↓g24_9, ↓g24_10, ↓g24_13, ↓g24_14, ↓g24_17, ↓g24_20, ↓g24_21, ↓g24_24, ↓g24_25, ↓g24_28, ↓g24_31, ↓g24_32, ↓g24_33, ↓g24_35, ↓g24_38, ↓g24_39, ↓g24_40, ↓g24_42, ↓g24_45, ↓g24_46, ↓g24_49, ↓g24_50, ↓g24_53, ↓g24_54, ↓g24_57, ↓g24_58, ↓g24_61, cl_31, cl_33, cn_0, cn_1, cn_2, cn_3, cn_4, cn_5, cn_6, cn_7, cn_8, ↓Go_s, ↓GoC_a, ↓reduceIte, ↓mm_call_eq, ↓mmw_nil, ↓mmw_cons, List.take_succ_cons, List.take_zero, List.take_nil, List.drop_succ_cons, List.drop_zero, List.drop_nil, List.reverse_cons, List.reverse_nil, List.nil_append, List.cons_append, List.append_nil, Option.toList_some, Option.toList_none, Nat.sub_zero, Nat.le_refl, mmr_cons, mm_st1, mm_st2, mmi_nil, mmi_cons, mmc_I, mmc_L, mmc_R, mmu_get, mmu_one, mma_get, mma_one, List.filter_cons, List.filter_nil, List.contains_cons, List.contains_nil, Nat.reduceBEq, Nat.reduceAdd, Nat.reduceLT, Nat.reduceSub, Nat.reduceLeDiff, Nat.reduceEqDiff, Int32.reduceAdd, Bool.not_true, Bool.not_false, Bool.and_true, Bool.true_and, Bool.and_false, Bool.false_and, Bool.or_false, Bool.false_or, Bool.or_true, Bool.true_or, if_true, if_false, ite_true, ite_false, Bool.false_eq_true, List.getElem?_cons_zero, List.getElem?_cons_succ, List.length_cons, List.length_nil, true_and, and_true, List.set_cons_zero, List.set_cons_succ, Fin.isValue, Fin.val_zero, Fin.val_one, Fin.val_two, Fin.reduceFinMk, Nat.zero_add, n2, a2, df_5, nf_5, ft_4_1, ft_4_3, ft_4_4, ft_4_5, ft_4_6, nu_fitI, nu_fitL, nu_fitO, nu_fitA, nu_fitB0, nu_fitB1]
  refine ⟨1, 8, _, by decide, by decide, c_Rinit (d := d) (N := 6) (by simp only [mmu_get, mma_get, mma_one, mmu_one, n2, Nat.reduceAdd, Nat.reduceEqDiff, if_true, if_false, List.set_cons_zero, List.set_cons_succ, Nat.reduceLT]) (by simp only [mmu_get, mma_get, mma_one, mmu_one, n2, a2, Nat.reduceAdd, Nat.reduceEqDiff, if_true, if_false, List.set_cons_zero, List.set_cons_succ, Nat.reduceLT]) (by omega), fun z h3 hz => ?_⟩
  obtain ⟨rfl, n3, b3, b4, fr3⟩ := hz
  have b2 : h3.2 2 = some (cO 4 [vI 0, vI 2, vI 0, vR 3, vN, vN, vN]) := by
    rw [fr3 2 (by omega) (by omega)]
    simp only [mmu_get, mma_get, mma_one, mmu_one, n2, a2, Nat.reduceAdd, Nat.reduceEqDiff, if_true, if_false, List.set_cons_zero, List.set_cons_succ]
  have c3 : h3.2 3 = some (cO 5 [vR 4, vI 0]) := by
    rw [fr3 3 (by omega) (by omega), mma_get, mmu_one, n2, if_neg (by omega), mmu_get, if_neg (by omega), a3]
  have c4 : h3.2 4 = some (cI 8 z0) := by
    rw [fr3 4 (by omega) (by omega), mma_get, mmu_one, n2, if_neg (by omega), mmu_get, if_neg (by omega), a4]
  have fa3 : ∀ k, k < 2 ∨ 7 ≤ k → h3.2 k = h.2 k := fun k hk => by
    rw [fr3 k (by omega) (by omega), mma_get, mmu_one, n2, if_neg (by omega), mmu_get, if_neg (by omega), fa2 k (by omega)]
  (try simp only [Option.toList_some, Option.toList_none, List.nil_append, List.append_nil, List.cons_append, Nat.sub_zero, Nat.sub_self, Nat.zero_sub]); refine Go.wp sp_24 200 ?_; simp only [↓g24_0, ↓g24_1, ↓g24_4, ↓g24_5, ↓g24_6, ↓g24_9, ↓g24_10, ↓g24_13, ↓g24_14, ↓g24_17, ↓g24_20, ↓g24_21, ↓g24_24, ↓g24_25, ↓g24_28, ↓g24_31, ↓g24_32, ↓g24_33, ↓g24_35, ↓g24_38, ↓g24_39, ↓g24_40, ↓g24_42, ↓g24_45, ↓g24_46, ↓g24_49, ↓g24_50, ↓g24_53, ↓g24_54, ↓g24_57, ↓g24_58, ↓g24_61, cl_31, cl_33, cn_0, cn_1, cn_2, cn_3, cn_4, cn_5, cn_6, cn_7, cn_8, ↓Go_s, ↓GoC_a, ↓reduceIte, ↓mm_call_eq, ↓mmw_nil, ↓mmw_cons, List.take_succ_cons, List.take_zero, List.take_nil, List.drop_succ_cons, List.drop_zero, List.drop_nil, List.reverse_cons, List.reverse_nil, List.nil_append, List.cons_append, List.append_nil, Option.toList_some, Option.toList_none, Nat.sub_zero, Nat.le_refl, mmr_cons, mm_st1, mm_st2, mmi_nil, mmi_cons, mmc_I, mmc_L, mmc_R, mmu_get, mmu_one, mma_get, mma_one, List.filter_cons, List.filter_nil, List.contains_cons, List.contains_nil, Nat.reduceBEq, Nat.reduceAdd, Nat.reduceLT, Nat.reduceSub, Nat.reduceLeDiff, Nat.reduceEqDiff, Int32.reduceAdd, Bool.not_true, Bool.not_false, Bool.and_true, Bool.true_and, Bool.and_false, Bool.false_and, Bool.or_false, Bool.false_or, Bool.or_true, Bool.true_or, if_true, if_false, ite_true, ite_false, Bool.false_eq_true, List.getElem?_cons_zero, List.getElem?_cons_succ, List.length_cons, List.length_nil, true_and, and_true, List.set_cons_zero, List.set_cons_succ, Fin.isValue, Fin.val_zero, Fin.val_one, Fin.val_two, Fin.reduceFinMk, Nat.zero_add, n3, b2, b3, c3, cl0, cl1, cl2, cl3, cl4, cl5, cl6, cl7, cl8, cl16, cn_5, ft_4_1, ft_4_3, ft_4_4, ft_4_5, ft_4_6, nu_fitI, nu_fitL, nu_fitO, nu_fitA, nu_fitB0, nu_fitB1]
  refine ⟨by decide, by decide, 0, 0, _, Nat.zero_le _, Nat.zero_le _, c_fillInTurn (d := d) (n := 2) (r := 3) (b := 4) ⟨0, z0, by simp only [mmu_get, mma_get, mma_one, mmu_one, n3, c3, Nat.reduceAdd, Nat.reduceEqDiff, if_true, if_false, List.set_cons_zero, List.set_cons_succ, Nat.reduceLT], by simp only [mmu_get, mma_get, mma_one, mmu_one, n3, c4, Nat.reduceAdd, Nat.reduceEqDiff, if_true, if_false, List.set_cons_zero, List.set_cons_succ, Nat.reduceLT]⟩ (by omega) (by omega), fun z h4 hz => ?_⟩
  obtain ⟨rfl, w1, f4⟩ := hz
  have e2 : h4.2 2 = some (cO 4 [vI 0, vI 2, vI 0, vR 3, vR 5, vR 7, vR 8]) := by
    rw [f4.2 2 (by simp)]
    simp only [mmu_get, mma_get, mma_one, mmu_one, n3, b2, Nat.reduceAdd, Nat.reduceEqDiff, if_true, if_false, List.set_cons_zero, List.set_cons_succ]
  have e3 : h4.2 5 = some (cO 5 [vR 6, vI 0]) := by
    rw [f4.2 5 (by simp)]
    simp only [mmu_get, mma_get, mma_one, mmu_one, n3, b3, Nat.reduceAdd, Nat.reduceEqDiff, if_true, if_false]
  have e4 : h4.2 6 = some (cI 8 z0) := by
    rw [f4.2 6 (by simp)]
    simp only [mmu_get, mma_get, mma_one, mmu_one, n3, b4, Nat.reduceAdd, Nat.reduceEqDiff, if_true, if_false]
  have e5 : h4.2 7 = some (cI 4 z0) := by
    rw [f4.2 7 (by simp)]
    simp only [mmu_get, mma_get, mma_one, mmu_one, n3, Nat.reduceAdd, Nat.reduceEqDiff, if_true, if_false]
  have e6 : h4.2 8 = some (cI 4 z0) := by
    rw [f4.2 8 (by simp)]
    simp only [mmu_get, mma_get, mma_one, mmu_one, n3, Nat.reduceAdd, Nat.reduceEqDiff, if_true, if_false]
  have n4 : h4.1 = 9 := by
    rw [f4.1]
    simp only [mma_one, mmu_one, n3, Nat.reduceAdd]
  have fa4 : ∀ k, k < 2 ∨ 9 ≤ k → h4.2 k = h.2 k := fun k hk => by
    rw [f4.2 k (by simp only [List.mem_cons, List.not_mem_nil, or_false]; omega), ← fa3 k (by omega)]
    simp only [mmu_get, mma_get, mma_one, mmu_one, n3, Nat.reduceAdd, if_neg (show ¬ k = 2 by omega), if_neg (show ¬ k = 7 by omega), if_neg (show ¬ k = 8 by omega)]
  (try simp only [Option.toList_some, Option.toList_none, List.nil_append, List.append_nil, List.cons_append, Nat.sub_zero, Nat.sub_self, Nat.zero_sub]); refine Go.wp sp_24 200 ?_; simp only [↓g24_0, ↓g24_1, ↓g24_4, ↓g24_5, ↓g24_6, ↓g24_9, ↓g24_10, ↓g24_13, ↓g24_14, ↓g24_17, ↓g24_20, ↓g24_21, ↓g24_24, ↓g24_25, ↓g24_28, ↓g24_31, ↓g24_32, ↓g24_33, ↓g24_35, ↓g24_38, ↓g24_39, ↓g24_40, ↓g24_42, ↓g24_45, ↓g24_46, ↓g24_49, ↓g24_50, ↓g24_53, ↓g24_54, ↓g24_57, ↓g24_58, ↓g24_61, cl_31, cl_33, cn_0, cn_1, cn_2, cn_3, cn_4, cn_5, cn_6, cn_7, cn_8, ↓Go_s, ↓GoC_a, ↓reduceIte, ↓mm_call_eq, ↓mmw_nil, ↓mmw_cons, List.take_succ_cons, List.take_zero, List.take_nil, List.drop_succ_cons, List.drop_zero, List.drop_nil, List.reverse_cons, List.reverse_nil, List.nil_append, List.cons_append, List.append_nil, Option.toList_some, Option.toList_none, Nat.sub_zero, Nat.le_refl, mmr_cons, mm_st1, mm_st2, mmi_nil, mmi_cons, mmc_I, mmc_L, mmc_R, mmu_get, mmu_one, mma_get, mma_one, List.filter_cons, List.filter_nil, List.contains_cons, List.contains_nil, Nat.reduceBEq, Nat.reduceAdd, Nat.reduceLT, Nat.reduceSub, Nat.reduceLeDiff, Nat.reduceEqDiff, Int32.reduceAdd, Bool.not_true, Bool.not_false, Bool.and_true, Bool.true_and, Bool.and_false, Bool.false_and, Bool.or_false, Bool.false_or, Bool.or_true, Bool.true_or, if_true, if_false, ite_true, ite_false, Bool.false_eq_true, List.getElem?_cons_zero, List.getElem?_cons_succ, List.length_cons, List.length_nil, true_and, and_true, List.set_cons_zero, List.set_cons_succ, Fin.isValue, Fin.val_zero, Fin.val_one, Fin.val_two, Fin.reduceFinMk, Nat.zero_add, n4, e2, e3, cn_5, ft_4_1, ft_4_3, ft_4_4, ft_4_5, ft_4_6, nu_fitI, nu_fitL, nu_fitO, nu_fitA, nu_fitB0, nu_fitB1]
  refine ⟨0, 0, _, Nat.zero_le _, Nat.zero_le _, c_fillInTurn (d := d) (n := 2) (r := 5) (b := 6) ⟨0, z0, e3, e4⟩ (by omega) (by omega), fun z h5 hz => ?_⟩
  obtain ⟨rfl, w2, f5⟩ := hz
  (try simp only [Option.toList_some, Option.toList_none, List.nil_append, List.append_nil, List.cons_append, Nat.sub_zero, Nat.sub_self, Nat.zero_sub]); refine Go.wp sp_24 200 ?_; simp only [↓g24_0, ↓g24_1, ↓g24_4, ↓g24_5, ↓g24_6, ↓g24_9, ↓g24_10, ↓g24_13, ↓g24_14, ↓g24_17, ↓g24_20, ↓g24_21, ↓g24_24, ↓g24_25, ↓g24_28, ↓g24_31, ↓g24_32, ↓g24_33, ↓g24_35, ↓g24_38, ↓g24_39, ↓g24_40, ↓g24_42, ↓g24_45, ↓g24_46, ↓g24_49, ↓g24_50, ↓g24_53, ↓g24_54, ↓g24_57, ↓g24_58, ↓g24_61, cl_31, cl_33, cn_0, cn_1, cn_2, cn_3, cn_4, cn_5, cn_6, cn_7, cn_8, ↓Go_s, ↓GoC_a, ↓reduceIte, ↓mm_call_eq, ↓mmw_nil, ↓mmw_cons, List.take_succ_cons, List.take_zero, List.take_nil, List.drop_succ_cons, List.drop_zero, List.drop_nil, List.reverse_cons, List.reverse_nil, List.nil_append, List.cons_append, List.append_nil, Option.toList_some, Option.toList_none, Nat.sub_zero, Nat.le_refl, mmr_cons, mm_st1, mm_st2, mmi_nil, mmi_cons, mmc_I, mmc_L, mmc_R, mmu_get, mmu_one, mma_get, mma_one, List.filter_cons, List.filter_nil, List.contains_cons, List.contains_nil, Nat.reduceBEq, Nat.reduceAdd, Nat.reduceLT, Nat.reduceSub, Nat.reduceLeDiff, Nat.reduceEqDiff, Int32.reduceAdd, Bool.not_true, Bool.not_false, Bool.and_true, Bool.true_and, Bool.and_false, Bool.false_and, Bool.or_false, Bool.false_or, Bool.or_true, Bool.true_or, if_true, if_false, ite_true, ite_false, Bool.false_eq_true, List.getElem?_cons_zero, List.getElem?_cons_succ, List.length_cons, List.length_nil, true_and, and_true, List.set_cons_zero, List.set_cons_succ, Fin.isValue, Fin.val_zero, Fin.val_one, Fin.val_two, Fin.reduceFinMk, Nat.zero_add, n4, e2, e3, ft_4_1, ft_4_3, ft_4_4, ft_4_5, ft_4_6, nu_fitI, nu_fitL, nu_fitO, nu_fitA, nu_fitB0, nu_fitB1]
  exact ⟨f5.1.trans n4, (f5.2 2 (by simp)).trans e2, w1.fr f5 (by simp) (by simp), w2, (f5.2 7 (by simp)).trans e5, (f5.2 8 (by simp)).trans e6, fun k hk => (f5.2 k (by simp only [List.mem_cons, List.not_mem_nil, or_false]; omega)).trans (fa4 k hk)⟩

theorem C_Pinit_9 {h : AH} (h1 : h.1 = 10) (hr : h.2 9 = some (cO 4 [vI 0, vI 0, vI 0, vN, vN, vN, vN])) : WM tb (d + 2) k_Plan_init [vR 9] h 6 28 (fun z h' => z = none ∧ h'.1 = 16 ∧ h'.2 9 = some (cO 4 [vI 0, vI 2, vI 0, vR 10, vR 12, vR 14, vR 15]) ∧ Rw h' 10 11 (List.range 2) ∧ Rw h' 12 13 (List.range 2) ∧ h'.2 14 = some (cI 4 z0) ∧ h'.2 15 = some (cI 4 z0) ∧ ∀ k, k < 9 ∨ 16 ≤ k → h'.2 k = h.2 k) := by
  refine WM.of mi_24 rfl rfl (Nat.le_of_ble_eq_true rfl) ?_
  show WP (mm_rw mr_24) none tb (WM tb (d + 1)) _ 0 [(0, vR 9)] [] h 6 28
  (try simp only [Option.toList_some, Option.toList_none, List.nil_append, List.append_nil, List.cons_append, Nat.sub_zero, Nat.sub_self, Nat.zero_sub]); refine Go.wp sp_24 200 ?_; simp only [↓g24_0, ↓g24_1, ↓g24_4, ↓g24_5, ↓g24_6, ↓g24_9, ↓g24_10, ↓g24_13, ↓g24_14, ↓g24_17, ↓g24_20, ↓g24_21, ↓g24_24, ↓g24_25, ↓g24_28, ↓g24_31, ↓g24_32, ↓g24_33, ↓g24_35, ↓g24_38, ↓g24_39, ↓g24_40, ↓g24_42, ↓g24_45, ↓g24_46, ↓g24_49, ↓g24_50, ↓g24_53, ↓g24_54, ↓g24_57, ↓g24_58, ↓g24_61, cl_31, cl_33, cn_0, cn_1, cn_2, cn_3, cn_4, cn_5, cn_6, cn_7, cn_8, ↓Go_s, ↓GoC_a, ↓reduceIte, ↓mm_call_eq, ↓mmw_nil, ↓mmw_cons, List.take_succ_cons, List.take_zero, List.take_nil, List.drop_succ_cons, List.drop_zero, List.drop_nil, List.reverse_cons, List.reverse_nil, List.nil_append, List.cons_append, List.append_nil, Option.toList_some, Option.toList_none, Nat.sub_zero, Nat.le_refl, mmr_cons, mm_st1, mm_st2, mmi_nil, mmi_cons, mmc_I, mmc_L, mmc_R, mmu_get, mmu_one, mma_get, mma_one, List.filter_cons, List.filter_nil, List.contains_cons, List.contains_nil, Nat.reduceBEq, Nat.reduceAdd, Nat.reduceLT, Nat.reduceSub, Nat.reduceLeDiff, Nat.reduceEqDiff, Int32.reduceAdd, Bool.not_true, Bool.not_false, Bool.and_true, Bool.true_and, Bool.and_false, Bool.false_and, Bool.or_false, Bool.false_or, Bool.or_true, Bool.true_or, if_true, if_false, ite_true, ite_false, Bool.false_eq_true, List.getElem?_cons_zero, List.getElem?_cons_succ, List.length_cons, List.length_nil, true_and, and_true, List.set_cons_zero, List.set_cons_succ, Fin.isValue, Fin.val_zero, Fin.val_one, Fin.val_two, Fin.reduceFinMk, Nat.zero_add, h1, hr, df_5, nf_5, ft_4_1, ft_4_3, ft_4_4, ft_4_5, ft_4_6, nu_fitI, nu_fitL, nu_fitO, nu_fitA, nu_fitB0, nu_fitB1]
  refine ⟨1, 8, _, by decide, by decide, c_Rinit (d := d) (N := 11) (by simp only [mmu_get, mma_get, mma_one, mmu_one, h1, Nat.reduceAdd, Nat.reduceEqDiff, if_true, if_false, List.set_cons_zero, List.set_cons_succ, Nat.reduceLT]) (by simp only [mmu_get, mma_get, mma_one, mmu_one, h1, hr, Nat.reduceAdd, Nat.reduceEqDiff, if_true, if_false, List.set_cons_zero, List.set_cons_succ, Nat.reduceLT]) (by omega), fun z h2 hz => ?_⟩
  obtain ⟨rfl, n2, a3, a4, fr2⟩ := hz
  have a2 : h2.2 9 = some (cO 4 [vI 0, vI 2, vI 0, vN, vN, vN, vN]) := by
    rw [fr2 9 (by omega) (by omega)]
    simp only [mmu_get, mma_get, mma_one, mmu_one, h1, hr, Nat.reduceAdd, Nat.reduceEqDiff, if_true, if_false]
  have fa2 : ∀ k, k < 9 ∨ 12 ≤ k → h2.2 k = h.2 k := fun k hk => by
    rw [fr2 k (by omega) (by omega), mma_get, mmu_one, h1, if_neg (by omega), mmu_get, if_neg (by omega)]
  (try simp only [Option.toList_some, Option.toList_none, List.nil_append, List.append_nil, List.cons_append, Nat.sub_zero, Nat.sub_self, Nat.zero_sub]); refine Go.wp sp_24 200 ?_; simp only [↓g24_0, ↓g24_1, ↓g24_4, ↓g24_5, ↓g24_6, ↓g24_9, ↓g24_10, ↓g24_13, ↓g24_14, ↓g24_17, ↓g24_20, ↓g24_21, ↓g24_24, ↓g24_25, ↓g24_28, ↓g24_31, ↓g24_32, ↓g24_33, ↓g24_35, ↓g24_38, ↓g24_39, ↓g24_40, ↓g24_42, ↓g24_45, ↓g24_46, ↓g24_49, ↓g24_50, ↓g24_53, ↓g24_54, ↓g24_57, ↓g24_58, ↓g24_61, cl_31, cl_33, cn_0, cn_1, cn_2, cn_3, cn_4, cn_5, cn_6, cn_7, cn_8, ↓Go_s, ↓GoC_a, ↓reduceIte, ↓mm_call_eq, ↓mmw_nil, ↓mmw_cons, List.take_succ_cons, List.take_zero, List.take_nil, List.drop_succ_cons, List.drop_zero, List.drop_nil, List.reverse_cons, List.reverse_nil, List.nil_append, List.cons_append, List.append_nil, Option.toList_some, Option.toList_none, Nat.sub_zero, Nat.le_refl, mmr_cons, mm_st1, mm_st2, mmi_nil, mmi_cons, mmc_I, mmc_L, mmc_R, mmu_get, mmu_one, mma_get, mma_one, List.filter_cons, List.filter_nil, List.contains_cons, List.contains_nil, Nat.reduceBEq, Nat.reduceAdd, Nat.reduceLT, Nat.reduceSub, Nat.reduceLeDiff, Nat.reduceEqDiff, Int32.reduceAdd, Bool.not_true, Bool.not_false, Bool.and_true, Bool.true_and, Bool.and_false, Bool.false_and, Bool.or_false, Bool.false_or, Bool.or_true, Bool.true_or, if_true, if_false, ite_true, ite_false, Bool.false_eq_true, List.getElem?_cons_zero, List.getElem?_cons_succ, List.length_cons, List.length_nil, true_and, and_true, List.set_cons_zero, List.set_cons_succ, Fin.isValue, Fin.val_zero, Fin.val_one, Fin.val_two, Fin.reduceFinMk, Nat.zero_add, n2, a2, df_5, nf_5, ft_4_1, ft_4_3, ft_4_4, ft_4_5, ft_4_6, nu_fitI, nu_fitL, nu_fitO, nu_fitA, nu_fitB0, nu_fitB1]
  refine ⟨1, 8, _, by decide, by decide, c_Rinit (d := d) (N := 13) (by simp only [mmu_get, mma_get, mma_one, mmu_one, n2, Nat.reduceAdd, Nat.reduceEqDiff, if_true, if_false, List.set_cons_zero, List.set_cons_succ, Nat.reduceLT]) (by simp only [mmu_get, mma_get, mma_one, mmu_one, n2, a2, Nat.reduceAdd, Nat.reduceEqDiff, if_true, if_false, List.set_cons_zero, List.set_cons_succ, Nat.reduceLT]) (by omega), fun z h3 hz => ?_⟩
  obtain ⟨rfl, n3, b3, b4, fr3⟩ := hz
  have b2 : h3.2 9 = some (cO 4 [vI 0, vI 2, vI 0, vR 10, vN, vN, vN]) := by
    rw [fr3 9 (by omega) (by omega)]
    simp only [mmu_get, mma_get, mma_one, mmu_one, n2, a2, Nat.reduceAdd, Nat.reduceEqDiff, if_true, if_false, List.set_cons_zero, List.set_cons_succ]
  have c3 : h3.2 10 = some (cO 5 [vR 11, vI 0]) := by
    rw [fr3 10 (by omega) (by omega), mma_get, mmu_one, n2, if_neg (by omega), mmu_get, if_neg (by omega), a3]
  have c4 : h3.2 11 = some (cI 8 z0) := by
    rw [fr3 11 (by omega) (by omega), mma_get, mmu_one, n2, if_neg (by omega), mmu_get, if_neg (by omega), a4]
  have fa3 : ∀ k, k < 9 ∨ 14 ≤ k → h3.2 k = h.2 k := fun k hk => by
    rw [fr3 k (by omega) (by omega), mma_get, mmu_one, n2, if_neg (by omega), mmu_get, if_neg (by omega), fa2 k (by omega)]
  (try simp only [Option.toList_some, Option.toList_none, List.nil_append, List.append_nil, List.cons_append, Nat.sub_zero, Nat.sub_self, Nat.zero_sub]); refine Go.wp sp_24 200 ?_; simp only [↓g24_0, ↓g24_1, ↓g24_4, ↓g24_5, ↓g24_6, ↓g24_9, ↓g24_10, ↓g24_13, ↓g24_14, ↓g24_17, ↓g24_20, ↓g24_21, ↓g24_24, ↓g24_25, ↓g24_28, ↓g24_31, ↓g24_32, ↓g24_33, ↓g24_35, ↓g24_38, ↓g24_39, ↓g24_40, ↓g24_42, ↓g24_45, ↓g24_46, ↓g24_49, ↓g24_50, ↓g24_53, ↓g24_54, ↓g24_57, ↓g24_58, ↓g24_61, cl_31, cl_33, cn_0, cn_1, cn_2, cn_3, cn_4, cn_5, cn_6, cn_7, cn_8, ↓Go_s, ↓GoC_a, ↓reduceIte, ↓mm_call_eq, ↓mmw_nil, ↓mmw_cons, List.take_succ_cons, List.take_zero, List.take_nil, List.drop_succ_cons, List.drop_zero, List.drop_nil, List.reverse_cons, List.reverse_nil, List.nil_append, List.cons_append, List.append_nil, Option.toList_some, Option.toList_none, Nat.sub_zero, Nat.le_refl, mmr_cons, mm_st1, mm_st2, mmi_nil, mmi_cons, mmc_I, mmc_L, mmc_R, mmu_get, mmu_one, mma_get, mma_one, List.filter_cons, List.filter_nil, List.contains_cons, List.contains_nil, Nat.reduceBEq, Nat.reduceAdd, Nat.reduceLT, Nat.reduceSub, Nat.reduceLeDiff, Nat.reduceEqDiff, Int32.reduceAdd, Bool.not_true, Bool.not_false, Bool.and_true, Bool.true_and, Bool.and_false, Bool.false_and, Bool.or_false, Bool.false_or, Bool.or_true, Bool.true_or, if_true, if_false, ite_true, ite_false, Bool.false_eq_true, List.getElem?_cons_zero, List.getElem?_cons_succ, List.length_cons, List.length_nil, true_and, and_true, List.set_cons_zero, List.set_cons_succ, Fin.isValue, Fin.val_zero, Fin.val_one, Fin.val_two, Fin.reduceFinMk, Nat.zero_add, n3, b2, b3, c3, cl0, cl1, cl2, cl3, cl4, cl5, cl6, cl7, cl8, cl16, cn_5, ft_4_1, ft_4_3, ft_4_4, ft_4_5, ft_4_6, nu_fitI, nu_fitL, nu_fitO, nu_fitA, nu_fitB0, nu_fitB1]
  refine ⟨by decide, by decide, 0, 0, _, Nat.zero_le _, Nat.zero_le _, c_fillInTurn (d := d) (n := 2) (r := 10) (b := 11) ⟨0, z0, by simp only [mmu_get, mma_get, mma_one, mmu_one, n3, c3, Nat.reduceAdd, Nat.reduceEqDiff, if_true, if_false, List.set_cons_zero, List.set_cons_succ, Nat.reduceLT], by simp only [mmu_get, mma_get, mma_one, mmu_one, n3, c4, Nat.reduceAdd, Nat.reduceEqDiff, if_true, if_false, List.set_cons_zero, List.set_cons_succ, Nat.reduceLT]⟩ (by omega) (by omega), fun z h4 hz => ?_⟩
  obtain ⟨rfl, w1, f4⟩ := hz
  have e2 : h4.2 9 = some (cO 4 [vI 0, vI 2, vI 0, vR 10, vR 12, vR 14, vR 15]) := by
    rw [f4.2 9 (by simp)]
    simp only [mmu_get, mma_get, mma_one, mmu_one, n3, b2, Nat.reduceAdd, Nat.reduceEqDiff, if_true, if_false, List.set_cons_zero, List.set_cons_succ]
  have e3 : h4.2 12 = some (cO 5 [vR 13, vI 0]) := by
    rw [f4.2 12 (by simp)]
    simp only [mmu_get, mma_get, mma_one, mmu_one, n3, b3, Nat.reduceAdd, Nat.reduceEqDiff, if_true, if_false]
  have e4 : h4.2 13 = some (cI 8 z0) := by
    rw [f4.2 13 (by simp)]
    simp only [mmu_get, mma_get, mma_one, mmu_one, n3, b4, Nat.reduceAdd, Nat.reduceEqDiff, if_true, if_false]
  have e5 : h4.2 14 = some (cI 4 z0) := by
    rw [f4.2 14 (by simp)]
    simp only [mmu_get, mma_get, mma_one, mmu_one, n3, Nat.reduceAdd, Nat.reduceEqDiff, if_true, if_false]
  have e6 : h4.2 15 = some (cI 4 z0) := by
    rw [f4.2 15 (by simp)]
    simp only [mmu_get, mma_get, mma_one, mmu_one, n3, Nat.reduceAdd, Nat.reduceEqDiff, if_true, if_false]
  have n4 : h4.1 = 16 := by
    rw [f4.1]
    simp only [mma_one, mmu_one, n3, Nat.reduceAdd]
  have fa4 : ∀ k, k < 9 ∨ 16 ≤ k → h4.2 k = h.2 k := fun k hk => by
    rw [f4.2 k (by simp only [List.mem_cons, List.not_mem_nil, or_false]; omega), ← fa3 k (by omega)]
    simp only [mmu_get, mma_get, mma_one, mmu_one, n3, Nat.reduceAdd, if_neg (show ¬ k = 9 by omega), if_neg (show ¬ k = 14 by omega), if_neg (show ¬ k = 15 by omega)]
  (try simp only [Option.toList_some, Option.toList_none, List.nil_append, List.append_nil, List.cons_append, Nat.sub_zero, Nat.sub_self, Nat.zero_sub]); refine Go.wp sp_24 200 ?_; simp only [↓g24_0, ↓g24_1, ↓g24_4, ↓g24_5, ↓g24_6, ↓g24_9, ↓g24_10, ↓g24_13, ↓g24_14, ↓g24_17, ↓g24_20, ↓g24_21, ↓g24_24, ↓g24_25, ↓g24_28, ↓g24_31, ↓g24_32, ↓g24_33, ↓g24_35, ↓g24_38, ↓g24_39, ↓g24_40, ↓g24_42, ↓g24_45, ↓g24_46, ↓g24_49, ↓g24_50, ↓g24_53, ↓g24_54, ↓g24_57, ↓g24_58, ↓g24_61, cl_31, cl_33, cn_0, cn_1, cn_2, cn_3, cn_4, cn_5, cn_6, cn_7, cn_8, ↓Go_s, ↓GoC_a, ↓reduceIte, ↓mm_call_eq, ↓mmw_nil, ↓mmw_cons, List.take_succ_cons, List.take_zero, List.take_nil, List.drop_succ_cons, List.drop_zero, List.drop_nil, List.reverse_cons, List.reverse_nil, List.nil_append, List.cons_append, List.append_nil, Option.toList_some, Option.toList_none, Nat.sub_zero, Nat.le_refl, mmr_cons, mm_st1, mm_st2, mmi_nil, mmi_cons, mmc_I, mmc_L, mmc_R, mmu_get, mmu_one, mma_get, mma_one, List.filter_cons, List.filter_nil, List.contains_cons, List.contains_nil, Nat.reduceBEq, Nat.reduceAdd, Nat.reduceLT, Nat.reduceSub, Nat.reduceLeDiff, Nat.reduceEqDiff, Int32.reduceAdd, Bool.not_true, Bool.not_false, Bool.and_true, Bool.true_and, Bool.and_false, Bool.false_and, Bool.or_false, Bool.false_or, Bool.or_true, Bool.true_or, if_true, if_false, ite_true, ite_false, Bool.false_eq_true, List.getElem?_cons_zero, List.getElem?_cons_succ, List.length_cons, List.length_nil, true_and, and_true, List.set_cons_zero, List.set_cons_succ, Fin.isValue, Fin.val_zero, Fin.val_one, Fin.val_two, Fin.reduceFinMk, Nat.zero_add, n4, e2, e3, cn_5, ft_4_1, ft_4_3, ft_4_4, ft_4_5, ft_4_6, nu_fitI, nu_fitL, nu_fitO, nu_fitA, nu_fitB0, nu_fitB1]
  refine ⟨0, 0, _, Nat.zero_le _, Nat.zero_le _, c_fillInTurn (d := d) (n := 2) (r := 12) (b := 13) ⟨0, z0, e3, e4⟩ (by omega) (by omega), fun z h5 hz => ?_⟩
  obtain ⟨rfl, w2, f5⟩ := hz
  (try simp only [Option.toList_some, Option.toList_none, List.nil_append, List.append_nil, List.cons_append, Nat.sub_zero, Nat.sub_self, Nat.zero_sub]); refine Go.wp sp_24 200 ?_; simp only [↓g24_0, ↓g24_1, ↓g24_4, ↓g24_5, ↓g24_6, ↓g24_9, ↓g24_10, ↓g24_13, ↓g24_14, ↓g24_17, ↓g24_20, ↓g24_21, ↓g24_24, ↓g24_25, ↓g24_28, ↓g24_31, ↓g24_32, ↓g24_33, ↓g24_35, ↓g24_38, ↓g24_39, ↓g24_40, ↓g24_42, ↓g24_45, ↓g24_46, ↓g24_49, ↓g24_50, ↓g24_53, ↓g24_54, ↓g24_57, ↓g24_58, ↓g24_61, cl_31, cl_33, cn_0, cn_1, cn_2, cn_3, cn_4, cn_5, cn_6, cn_7, cn_8, ↓Go_s, ↓GoC_a, ↓reduceIte, ↓mm_call_eq, ↓mmw_nil, ↓mmw_cons, List.take_succ_cons, List.take_zero, List.take_nil, List.drop_succ_cons, List.drop_zero, List.drop_nil, List.reverse_cons, List.reverse_nil, List.nil_append, List.cons_append, List.append_nil, Option.toList_some, Option.toList_none, Nat.sub_zero, Nat.le_refl, mmr_cons, mm_st1, mm_st2, mmi_nil, mmi_cons, mmc_I, mmc_L, mmc_R, mmu_get, mmu_one, mma_get, mma_one, List.filter_cons, List.filter_nil, List.contains_cons, List.contains_nil, Nat.reduceBEq, Nat.reduceAdd, Nat.reduceLT, Nat.reduceSub, Nat.reduceLeDiff, Nat.reduceEqDiff, Int32.reduceAdd, Bool.not_true, Bool.not_false, Bool.and_true, Bool.true_and, Bool.and_false, Bool.false_and, Bool.or_false, Bool.false_or, Bool.or_true, Bool.true_or, if_true, if_false, ite_true, ite_false, Bool.false_eq_true, List.getElem?_cons_zero, List.getElem?_cons_succ, List.length_cons, List.length_nil, true_and, and_true, List.set_cons_zero, List.set_cons_succ, Fin.isValue, Fin.val_zero, Fin.val_one, Fin.val_two, Fin.reduceFinMk, Nat.zero_add, n4, e2, e3, ft_4_1, ft_4_3, ft_4_4, ft_4_5, ft_4_6, nu_fitI, nu_fitL, nu_fitO, nu_fitA, nu_fitB0, nu_fitB1]
  exact ⟨f5.1.trans n4, (f5.2 9 (by simp)).trans e2, w1.fr f5 (by simp) (by simp), w2, (f5.2 14 (by simp)).trans e5, (f5.2 15 (by simp)).trans e6, fun k hk => (f5.2 k (by simp only [List.mem_cons, List.not_mem_nil, or_false]; omega)).trans (fa4 k hk)⟩

theorem C_Dinit_16 {h : AH} (h1 : h.1 = 17) (hr : h.2 16 = some (cO 1 [vN, vN, vN])) : WM tb (d + 2) k_Desk_init [vR 16] h 4 26 (fun z h' => z = none ∧ h'.1 = 21 ∧ h'.2 16 = some (cO 1 [vR 17, vR 19, vR 20]) ∧ h'.2 17 = some (cO 5 [vR 18, vI 0]) ∧ h'.2 18 = some (cI 8 z0) ∧ h'.2 19 = some (cI 8 z0) ∧ h'.2 20 = some (cI 8 z0) ∧ ∀ k, k < 16 ∨ 21 ≤ k → h'.2 k = h.2 k) := by
  refine WM.of mi_4 rfl rfl (Nat.le_of_ble_eq_true rfl) ?_
  show WP (mm_rw mr_4) none tb (WM tb (d + 1)) _ 0 [(0, vR 16)] [] h 4 26
  (try simp only [Option.toList_some, Option.toList_none, List.nil_append, List.append_nil, List.cons_append, Nat.sub_zero, Nat.sub_self, Nat.zero_sub]); refine Go.wp sp_4 200 ?_; simp only [↓g4_0, ↓g4_1, ↓g4_4, ↓g4_5, ↓g4_8, ↓g4_9, ↓g4_12, ↓g4_15, ↓g4_16, ↓g4_18, ↓g4_20, ↓g4_23, ↓g4_24, ↓g4_26, ↓g4_28, ↓g4_31, cl_31, cn_0, cn_1, cn_2, cn_3, cn_4, cn_5, cn_6, cn_7, cn_8, ↓Go_s, ↓GoC_a, ↓reduceIte, ↓mm_call_eq, ↓mmw_nil, ↓mmw_cons, List.take_succ_cons, List.take_zero, List.take_nil, List.drop_succ_cons, List.drop_zero, List.drop_nil, List.reverse_cons, List.reverse_nil, List.nil_append, List.cons_append, List.append_nil, Option.toList_some, Option.toList_none, Nat.sub_zero, Nat.le_refl, mmr_cons, mm_st1, mm_st2, mmi_nil, mmi_cons, mmc_I, mmc_L, mmc_R, mmu_get, mmu_one, mma_get, mma_one, List.filter_cons, List.filter_nil, List.contains_cons, List.contains_nil, Nat.reduceBEq, Nat.reduceAdd, Nat.reduceLT, Nat.reduceSub, Nat.reduceLeDiff, Nat.reduceEqDiff, Int32.reduceAdd, Bool.not_true, Bool.not_false, Bool.and_true, Bool.true_and, Bool.and_false, Bool.false_and, Bool.or_false, Bool.false_or, Bool.or_true, Bool.true_or, if_true, if_false, ite_true, ite_false, Bool.false_eq_true, List.getElem?_cons_zero, List.getElem?_cons_succ, List.length_cons, List.length_nil, true_and, and_true, List.set_cons_zero, List.set_cons_succ, Fin.isValue, Fin.val_zero, Fin.val_one, Fin.val_two, Fin.reduceFinMk, Nat.zero_add, h1, hr, df_5, nf_5, ft_1_0, ft_1_1, ft_1_2, nu_fitI, nu_fitL, nu_fitO, nu_fitA, nu_fitB0, nu_fitB1]
  refine ⟨1, 8, _, by decide, by decide, c_Rinit (d := d) (N := 18) (by simp only [mmu_get, mma_get, mma_one, mmu_one, h1, Nat.reduceAdd, Nat.reduceEqDiff, if_true, if_false, List.set_cons_zero, List.set_cons_succ, Nat.reduceLT]) (by simp only [mmu_get, mma_get, mma_one, mmu_one, h1, hr, Nat.reduceAdd, Nat.reduceEqDiff, if_true, if_false, List.set_cons_zero, List.set_cons_succ, Nat.reduceLT]) (by omega), fun z h2 hz => ?_⟩
  obtain ⟨rfl, n2, a3, a4, fr2⟩ := hz
  have a2 : h2.2 16 = some (cO 1 [vN, vN, vN]) := by
    rw [fr2 16 (by omega) (by omega)]
    simp only [mmu_get, mma_get, mma_one, mmu_one, h1, hr, Nat.reduceAdd, Nat.reduceEqDiff, if_true, if_false]
  have fa2 : ∀ k, k < 16 ∨ 19 ≤ k → h2.2 k = h.2 k := fun k hk => by
    rw [fr2 k (by omega) (by omega), mma_get, h1, if_neg (by omega)]
  (try simp only [Option.toList_some, Option.toList_none, List.nil_append, List.append_nil, List.cons_append, Nat.sub_zero, Nat.sub_self, Nat.zero_sub]); refine Go.wp sp_4 200 ?_; simp only [↓g4_0, ↓g4_1, ↓g4_4, ↓g4_5, ↓g4_8, ↓g4_9, ↓g4_12, ↓g4_15, ↓g4_16, ↓g4_18, ↓g4_20, ↓g4_23, ↓g4_24, ↓g4_26, ↓g4_28, ↓g4_31, cl_31, cn_0, cn_1, cn_2, cn_3, cn_4, cn_5, cn_6, cn_7, cn_8, ↓Go_s, ↓GoC_a, ↓reduceIte, ↓mm_call_eq, ↓mmw_nil, ↓mmw_cons, List.take_succ_cons, List.take_zero, List.take_nil, List.drop_succ_cons, List.drop_zero, List.drop_nil, List.reverse_cons, List.reverse_nil, List.nil_append, List.cons_append, List.append_nil, Option.toList_some, Option.toList_none, Nat.sub_zero, Nat.le_refl, mmr_cons, mm_st1, mm_st2, mmi_nil, mmi_cons, mmc_I, mmc_L, mmc_R, mmu_get, mmu_one, mma_get, mma_one, List.filter_cons, List.filter_nil, List.contains_cons, List.contains_nil, Nat.reduceBEq, Nat.reduceAdd, Nat.reduceLT, Nat.reduceSub, Nat.reduceLeDiff, Nat.reduceEqDiff, Int32.reduceAdd, Bool.not_true, Bool.not_false, Bool.and_true, Bool.true_and, Bool.and_false, Bool.false_and, Bool.or_false, Bool.false_or, Bool.or_true, Bool.true_or, if_true, if_false, ite_true, ite_false, Bool.false_eq_true, List.getElem?_cons_zero, List.getElem?_cons_succ, List.length_cons, List.length_nil, true_and, and_true, List.set_cons_zero, List.set_cons_succ, Fin.isValue, Fin.val_zero, Fin.val_one, Fin.val_two, Fin.reduceFinMk, Nat.zero_add, n2, a2, cl0, cl1, cl2, cl3, cl4, cl5, cl6, cl7, cl8, cl16, ft_1_0, ft_1_1, ft_1_2, nu_fitI, nu_fitL, nu_fitO, nu_fitA, nu_fitB0, nu_fitB1]
  refine ⟨by decide, by decide, ?_, ?_, fun k hk => ?_⟩
  · simp only [a3]
  · simp only [a4]
  · simp only [if_neg (show ¬ k = 16 by omega), if_neg (show ¬ k = 19 by omega), if_neg (show ¬ k = 20 by omega)]
    exact fa2 k (by omega)

theorem C_Dinit_65 {h : AH} (h1 : h.1 = 66) (hr : h.2 65 = some (cO 1 [vN, vN, vN])) : WM tb (d + 2) k_Desk_init [vR 65] h 4 26 (fun z h' => z = none ∧ h'.1 = 70 ∧ h'.2 65 = some (cO 1 [vR 66, vR 68, vR 69]) ∧ h'.2 66 = some (cO 5 [vR 67, vI 0]) ∧ h'.2 67 = some (cI 8 z0) ∧ h'.2 68 = some (cI 8 z0) ∧ h'.2 69 = some (cI 8 z0) ∧ ∀ k, k < 65 ∨ 70 ≤ k → h'.2 k = h.2 k) := by
  refine WM.of mi_4 rfl rfl (Nat.le_of_ble_eq_true rfl) ?_
  show WP (mm_rw mr_4) none tb (WM tb (d + 1)) _ 0 [(0, vR 65)] [] h 4 26
  (try simp only [Option.toList_some, Option.toList_none, List.nil_append, List.append_nil, List.cons_append, Nat.sub_zero, Nat.sub_self, Nat.zero_sub]); refine Go.wp sp_4 200 ?_; simp only [↓g4_0, ↓g4_1, ↓g4_4, ↓g4_5, ↓g4_8, ↓g4_9, ↓g4_12, ↓g4_15, ↓g4_16, ↓g4_18, ↓g4_20, ↓g4_23, ↓g4_24, ↓g4_26, ↓g4_28, ↓g4_31, cl_31, cn_0, cn_1, cn_2, cn_3, cn_4, cn_5, cn_6, cn_7, cn_8, ↓Go_s, ↓GoC_a, ↓reduceIte, ↓mm_call_eq, ↓mmw_nil, ↓mmw_cons, List.take_succ_cons, List.take_zero, List.take_nil, List.drop_succ_cons, List.drop_zero, List.drop_nil, List.reverse_cons, List.reverse_nil, List.nil_append, List.cons_append, List.append_nil, Option.toList_some, Option.toList_none, Nat.sub_zero, Nat.le_refl, mmr_cons, mm_st1, mm_st2, mmi_nil, mmi_cons, mmc_I, mmc_L, mmc_R, mmu_get, mmu_one, mma_get, mma_one, List.filter_cons, List.filter_nil, List.contains_cons, List.contains_nil, Nat.reduceBEq, Nat.reduceAdd, Nat.reduceLT, Nat.reduceSub, Nat.reduceLeDiff, Nat.reduceEqDiff, Int32.reduceAdd, Bool.not_true, Bool.not_false, Bool.and_true, Bool.true_and, Bool.and_false, Bool.false_and, Bool.or_false, Bool.false_or, Bool.or_true, Bool.true_or, if_true, if_false, ite_true, ite_false, Bool.false_eq_true, List.getElem?_cons_zero, List.getElem?_cons_succ, List.length_cons, List.length_nil, true_and, and_true, List.set_cons_zero, List.set_cons_succ, Fin.isValue, Fin.val_zero, Fin.val_one, Fin.val_two, Fin.reduceFinMk, Nat.zero_add, h1, hr, df_5, nf_5, ft_1_0, ft_1_1, ft_1_2, nu_fitI, nu_fitL, nu_fitO, nu_fitA, nu_fitB0, nu_fitB1]
  refine ⟨1, 8, _, by decide, by decide, c_Rinit (d := d) (N := 67) (by simp only [mmu_get, mma_get, mma_one, mmu_one, h1, Nat.reduceAdd, Nat.reduceEqDiff, if_true, if_false, List.set_cons_zero, List.set_cons_succ, Nat.reduceLT]) (by simp only [mmu_get, mma_get, mma_one, mmu_one, h1, hr, Nat.reduceAdd, Nat.reduceEqDiff, if_true, if_false, List.set_cons_zero, List.set_cons_succ, Nat.reduceLT]) (by omega), fun z h2 hz => ?_⟩
  obtain ⟨rfl, n2, a3, a4, fr2⟩ := hz
  have a2 : h2.2 65 = some (cO 1 [vN, vN, vN]) := by
    rw [fr2 65 (by omega) (by omega)]
    simp only [mmu_get, mma_get, mma_one, mmu_one, h1, hr, Nat.reduceAdd, Nat.reduceEqDiff, if_true, if_false]
  have fa2 : ∀ k, k < 65 ∨ 68 ≤ k → h2.2 k = h.2 k := fun k hk => by
    rw [fr2 k (by omega) (by omega), mma_get, h1, if_neg (by omega)]
  (try simp only [Option.toList_some, Option.toList_none, List.nil_append, List.append_nil, List.cons_append, Nat.sub_zero, Nat.sub_self, Nat.zero_sub]); refine Go.wp sp_4 200 ?_; simp only [↓g4_0, ↓g4_1, ↓g4_4, ↓g4_5, ↓g4_8, ↓g4_9, ↓g4_12, ↓g4_15, ↓g4_16, ↓g4_18, ↓g4_20, ↓g4_23, ↓g4_24, ↓g4_26, ↓g4_28, ↓g4_31, cl_31, cn_0, cn_1, cn_2, cn_3, cn_4, cn_5, cn_6, cn_7, cn_8, ↓Go_s, ↓GoC_a, ↓reduceIte, ↓mm_call_eq, ↓mmw_nil, ↓mmw_cons, List.take_succ_cons, List.take_zero, List.take_nil, List.drop_succ_cons, List.drop_zero, List.drop_nil, List.reverse_cons, List.reverse_nil, List.nil_append, List.cons_append, List.append_nil, Option.toList_some, Option.toList_none, Nat.sub_zero, Nat.le_refl, mmr_cons, mm_st1, mm_st2, mmi_nil, mmi_cons, mmc_I, mmc_L, mmc_R, mmu_get, mmu_one, mma_get, mma_one, List.filter_cons, List.filter_nil, List.contains_cons, List.contains_nil, Nat.reduceBEq, Nat.reduceAdd, Nat.reduceLT, Nat.reduceSub, Nat.reduceLeDiff, Nat.reduceEqDiff, Int32.reduceAdd, Bool.not_true, Bool.not_false, Bool.and_true, Bool.true_and, Bool.and_false, Bool.false_and, Bool.or_false, Bool.false_or, Bool.or_true, Bool.true_or, if_true, if_false, ite_true, ite_false, Bool.false_eq_true, List.getElem?_cons_zero, List.getElem?_cons_succ, List.length_cons, List.length_nil, true_and, and_true, List.set_cons_zero, List.set_cons_succ, Fin.isValue, Fin.val_zero, Fin.val_one, Fin.val_two, Fin.reduceFinMk, Nat.zero_add, n2, a2, cl0, cl1, cl2, cl3, cl4, cl5, cl6, cl7, cl8, cl16, ft_1_0, ft_1_1, ft_1_2, nu_fitI, nu_fitL, nu_fitO, nu_fitA, nu_fitB0, nu_fitB1]
  refine ⟨by decide, by decide, ?_, ?_, fun k hk => ?_⟩
  · simp only [a3]
  · simp only [a4]
  · simp only [if_neg (show ¬ k = 65 by omega), if_neg (show ¬ k = 68 by omega), if_neg (show ¬ k = 69 by omega)]
    exact fa2 k (by omega)

theorem C_Dinit_70 {h : AH} (h1 : h.1 = 71) (hr : h.2 70 = some (cO 1 [vN, vN, vN])) : WM tb (d + 2) k_Desk_init [vR 70] h 4 26 (fun z h' => z = none ∧ h'.1 = 75 ∧ h'.2 70 = some (cO 1 [vR 71, vR 73, vR 74]) ∧ h'.2 71 = some (cO 5 [vR 72, vI 0]) ∧ h'.2 72 = some (cI 8 z0) ∧ h'.2 73 = some (cI 8 z0) ∧ h'.2 74 = some (cI 8 z0) ∧ ∀ k, k < 70 ∨ 75 ≤ k → h'.2 k = h.2 k) := by
  refine WM.of mi_4 rfl rfl (Nat.le_of_ble_eq_true rfl) ?_
  show WP (mm_rw mr_4) none tb (WM tb (d + 1)) _ 0 [(0, vR 70)] [] h 4 26
  (try simp only [Option.toList_some, Option.toList_none, List.nil_append, List.append_nil, List.cons_append, Nat.sub_zero, Nat.sub_self, Nat.zero_sub]); refine Go.wp sp_4 200 ?_; simp only [↓g4_0, ↓g4_1, ↓g4_4, ↓g4_5, ↓g4_8, ↓g4_9, ↓g4_12, ↓g4_15, ↓g4_16, ↓g4_18, ↓g4_20, ↓g4_23, ↓g4_24, ↓g4_26, ↓g4_28, ↓g4_31, cl_31, cn_0, cn_1, cn_2, cn_3, cn_4, cn_5, cn_6, cn_7, cn_8, ↓Go_s, ↓GoC_a, ↓reduceIte, ↓mm_call_eq, ↓mmw_nil, ↓mmw_cons, List.take_succ_cons, List.take_zero, List.take_nil, List.drop_succ_cons, List.drop_zero, List.drop_nil, List.reverse_cons, List.reverse_nil, List.nil_append, List.cons_append, List.append_nil, Option.toList_some, Option.toList_none, Nat.sub_zero, Nat.le_refl, mmr_cons, mm_st1, mm_st2, mmi_nil, mmi_cons, mmc_I, mmc_L, mmc_R, mmu_get, mmu_one, mma_get, mma_one, List.filter_cons, List.filter_nil, List.contains_cons, List.contains_nil, Nat.reduceBEq, Nat.reduceAdd, Nat.reduceLT, Nat.reduceSub, Nat.reduceLeDiff, Nat.reduceEqDiff, Int32.reduceAdd, Bool.not_true, Bool.not_false, Bool.and_true, Bool.true_and, Bool.and_false, Bool.false_and, Bool.or_false, Bool.false_or, Bool.or_true, Bool.true_or, if_true, if_false, ite_true, ite_false, Bool.false_eq_true, List.getElem?_cons_zero, List.getElem?_cons_succ, List.length_cons, List.length_nil, true_and, and_true, List.set_cons_zero, List.set_cons_succ, Fin.isValue, Fin.val_zero, Fin.val_one, Fin.val_two, Fin.reduceFinMk, Nat.zero_add, h1, hr, df_5, nf_5, ft_1_0, ft_1_1, ft_1_2, nu_fitI, nu_fitL, nu_fitO, nu_fitA, nu_fitB0, nu_fitB1]
  refine ⟨1, 8, _, by decide, by decide, c_Rinit (d := d) (N := 72) (by simp only [mmu_get, mma_get, mma_one, mmu_one, h1, Nat.reduceAdd, Nat.reduceEqDiff, if_true, if_false, List.set_cons_zero, List.set_cons_succ, Nat.reduceLT]) (by simp only [mmu_get, mma_get, mma_one, mmu_one, h1, hr, Nat.reduceAdd, Nat.reduceEqDiff, if_true, if_false, List.set_cons_zero, List.set_cons_succ, Nat.reduceLT]) (by omega), fun z h2 hz => ?_⟩
  obtain ⟨rfl, n2, a3, a4, fr2⟩ := hz
  have a2 : h2.2 70 = some (cO 1 [vN, vN, vN]) := by
    rw [fr2 70 (by omega) (by omega)]
    simp only [mmu_get, mma_get, mma_one, mmu_one, h1, hr, Nat.reduceAdd, Nat.reduceEqDiff, if_true, if_false]
  have fa2 : ∀ k, k < 70 ∨ 73 ≤ k → h2.2 k = h.2 k := fun k hk => by
    rw [fr2 k (by omega) (by omega), mma_get, h1, if_neg (by omega)]
  (try simp only [Option.toList_some, Option.toList_none, List.nil_append, List.append_nil, List.cons_append, Nat.sub_zero, Nat.sub_self, Nat.zero_sub]); refine Go.wp sp_4 200 ?_; simp only [↓g4_0, ↓g4_1, ↓g4_4, ↓g4_5, ↓g4_8, ↓g4_9, ↓g4_12, ↓g4_15, ↓g4_16, ↓g4_18, ↓g4_20, ↓g4_23, ↓g4_24, ↓g4_26, ↓g4_28, ↓g4_31, cl_31, cn_0, cn_1, cn_2, cn_3, cn_4, cn_5, cn_6, cn_7, cn_8, ↓Go_s, ↓GoC_a, ↓reduceIte, ↓mm_call_eq, ↓mmw_nil, ↓mmw_cons, List.take_succ_cons, List.take_zero, List.take_nil, List.drop_succ_cons, List.drop_zero, List.drop_nil, List.reverse_cons, List.reverse_nil, List.nil_append, List.cons_append, List.append_nil, Option.toList_some, Option.toList_none, Nat.sub_zero, Nat.le_refl, mmr_cons, mm_st1, mm_st2, mmi_nil, mmi_cons, mmc_I, mmc_L, mmc_R, mmu_get, mmu_one, mma_get, mma_one, List.filter_cons, List.filter_nil, List.contains_cons, List.contains_nil, Nat.reduceBEq, Nat.reduceAdd, Nat.reduceLT, Nat.reduceSub, Nat.reduceLeDiff, Nat.reduceEqDiff, Int32.reduceAdd, Bool.not_true, Bool.not_false, Bool.and_true, Bool.true_and, Bool.and_false, Bool.false_and, Bool.or_false, Bool.false_or, Bool.or_true, Bool.true_or, if_true, if_false, ite_true, ite_false, Bool.false_eq_true, List.getElem?_cons_zero, List.getElem?_cons_succ, List.length_cons, List.length_nil, true_and, and_true, List.set_cons_zero, List.set_cons_succ, Fin.isValue, Fin.val_zero, Fin.val_one, Fin.val_two, Fin.reduceFinMk, Nat.zero_add, n2, a2, cl0, cl1, cl2, cl3, cl4, cl5, cl6, cl7, cl8, cl16, ft_1_0, ft_1_1, ft_1_2, nu_fitI, nu_fitL, nu_fitO, nu_fitA, nu_fitB0, nu_fitB1]
  refine ⟨by decide, by decide, ?_, ?_, fun k hk => ?_⟩
  · simp only [a3]
  · simp only [a4]
  · simp only [if_neg (show ¬ k = 70 by omega), if_neg (show ¬ k = 73 by omega), if_neg (show ¬ k = 74 by omega)]
    exact fa2 k (by omega)

theorem C_Ainit {h : AH} (h1 : h.1 = 22) (hr : h.2 21 = some (cO 0 [vN, vN, vN, vN, vI 0])) : WM tb (d + 1) k_Acts_init [vR 21] h 4 64 (fun z h' => z = none ∧ h'.1 = 26 ∧ h'.2 21 = some (cO 0 [vR 22, vR 23, vR 24, vR 25, vI 0]) ∧ h'.2 22 = some (cI 16 z0) ∧ h'.2 23 = some (cI 16 z0) ∧ h'.2 24 = some (cI 16 z0) ∧ h'.2 25 = some (cI 16 z0) ∧ ∀ k, k < 21 ∨ 26 ≤ k → h'.2 k = h.2 k) := by
  refine WM.of mi_0 rfl rfl (Nat.le_of_ble_eq_true rfl) ?_
  show WP (mm_rw mr_0) none tb (WM tb d) _ 0 [(0, vR 21)] [] h 4 64
  (try simp only [Option.toList_some, Option.toList_none, List.nil_append, List.append_nil, List.cons_append, Nat.sub_zero, Nat.sub_self, Nat.zero_sub]); refine Go.wp sp_0 200 ?_; simp only [↓g0_0, ↓g0_1, ↓g0_4, ↓g0_5, ↓g0_7, ↓g0_9, ↓g0_12, ↓g0_13, ↓g0_15, ↓g0_17, ↓g0_20, ↓g0_21, ↓g0_23, ↓g0_25, ↓g0_28, ↓g0_29, ↓g0_31, ↓g0_33, ↓g0_36, ↓Go_s, ↓GoC_a, ↓reduceIte, ↓mm_call_eq, ↓mmw_nil, ↓mmw_cons, List.take_succ_cons, List.take_zero, List.take_nil, List.drop_succ_cons, List.drop_zero, List.drop_nil, List.reverse_cons, List.reverse_nil, List.nil_append, List.cons_append, List.append_nil, Option.toList_some, Option.toList_none, Nat.sub_zero, Nat.le_refl, mmr_cons, mm_st1, mm_st2, mmi_nil, mmi_cons, mmc_I, mmc_L, mmc_R, mmu_get, mmu_one, mma_get, mma_one, List.filter_cons, List.filter_nil, List.contains_cons, List.contains_nil, Nat.reduceBEq, Nat.reduceAdd, Nat.reduceLT, Nat.reduceSub, Nat.reduceLeDiff, Nat.reduceEqDiff, Int32.reduceAdd, Bool.not_true, Bool.not_false, Bool.and_true, Bool.true_and, Bool.and_false, Bool.false_and, Bool.or_false, Bool.false_or, Bool.or_true, Bool.true_or, if_true, if_false, ite_true, ite_false, Bool.false_eq_true, List.getElem?_cons_zero, List.getElem?_cons_succ, List.length_cons, List.length_nil, true_and, and_true, List.set_cons_zero, List.set_cons_succ, Fin.isValue, Fin.val_zero, Fin.val_one, Fin.val_two, Fin.reduceFinMk, Nat.zero_add, h1, hr, cl0, cl1, cl2, cl3, cl4, cl5, cl6, cl7, cl8, cl16, ft_0_0, ft_0_1, ft_0_2, ft_0_3, nu_fitI, nu_fitL, nu_fitO, nu_fitA, nu_fitB0, nu_fitB1]
  refine ⟨by decide, by decide, by decide, by decide, fun k hk => ?_⟩
  simp only [if_neg (show ¬ k = 21 by omega), if_neg (show ¬ k = 22 by omega), if_neg (show ¬ k = 23 by omega), if_neg (show ¬ k = 24 by omega), if_neg (show ¬ k = 25 by omega)]

/-- what the constructor leaves -/
def QGinit (h : AH) : AQ := (fun z h' => z = none ∧ h'.1 = 49 ∧ h'.2 27 = some (cO 2 [vR 28, vR 29, vI 0, vR 30, vR 31, vR 32, vI 0, vI 0, vI 0, vR 33, vR 34]) ∧ h'.2 30 = some (cQ 5 7 (va_up (va_up (va_up (va_up (va_up (va_up (va_up (fun _ => none) 0 (some 35)) 1 (some 37)) 2 (some 39)) 3 (some 41)) 4 (some 43)) 5 (some 45)) 6 (some 47))) ∧ h'.2 28 = some (cI 6 z0) ∧ h'.2 29 = some (cI 6 z0) ∧ h'.2 31 = some (cI 8 z0) ∧ h'.2 32 = some (cI 8 z0) ∧ h'.2 33 = some (cI 8 z0) ∧ h'.2 34 = some (cI 8 z0) ∧ h'.2 35 = some (cO 5 [vR 36, vI 0]) ∧ h'.2 36 = some (cI 8 z0) ∧ h'.2 37 = some (cO 5 [vR 38, vI 0]) ∧ h'.2 38 = some (cI 8 z0) ∧ h'.2 39 = some (cO 5 [vR 40, vI 0]) ∧ h'.2 40 = some (cI 8 z0) ∧ h'.2 41 = some (cO 5 [vR 42, vI 0]) ∧ h'.2 42 = some (cI 8 z0) ∧ h'.2 43 = some (cO 5 [vR 44, vI 0]) ∧ h'.2 44 = some (cI 8 z0) ∧ h'.2 45 = some (cO 5 [vR 46, vI 0]) ∧ h'.2 46 = some (cI 8 z0) ∧ h'.2 47 = some (cO 5 [vR 48, vI 0]) ∧ h'.2 48 = some (cI 8 z0) ∧ ∀ k, k < 27 ∨ 49 ≤ k → h'.2 k = h.2 k)
theorem C_Ginit {h : AH} (h1 : h.1 = 28) (hr : h.2 27 = some (cO 2 [vN, vN, vI 0, vN, vN, vN, vI 0, vI 0, vI 0, vN, vN])) : WM tb (d + 2) k_Guess_init [vR 27] h 21 121 (QGinit h) := by
  have k7 : ∀ h2 : AH, h2.1 = 49 → h2.2 27 = some (cO 2 [vR 28, vR 29, vI 0, vR 30, vR 31, vR 32, vI 0, vI 0, vI 0, vR 33, vR 34]) → h2.2 30 = some (cQ 5 7 (va_up (va_up (va_up (va_up (va_up (va_up (va_up (fun _ => none) 0 (some 35)) 1 (some 37)) 2 (some 39)) 3 (some 41)) 4 (some 43)) 5 (some 45)) 6 (some 47))) → h2.2 28 = some (cI 6 z0) → h2.2 29 = some (cI 6 z0) → h2.2 31 = some (cI 8 z0) → h2.2 32 = some (cI 8 z0) → h2.2 33 = some (cI 8 z0) → h2.2 34 = some (cI 8 z0) → h2.2 35 = some (cO 5 [vR 36, vI 0]) → h2.2 36 = some (cI 8 z0) → h2.2 37 = some (cO 5 [vR 38, vI 0]) → h2.2 38 = some (cI 8 z0) → h2.2 39 = some (cO 5 [vR 40, vI 0]) → h2.2 40 = some (cI 8 z0) → h2.2 41 = some (cO 5 [vR 42, vI 0]) → h2.2 42 = some (cI 8 z0) → h2.2 43 = some (cO 5 [vR 44, vI 0]) → h2.2 44 = some (cI 8 z0) → h2.2 45 = some (cO 5 [vR 46, vI 0]) → h2.2 46 = some (cI 8 z0) → h2.2 47 = some (cO 5 [vR 48, vI 0]) → h2.2 48 = some (cI 8 z0) → (∀ k, k < 27 ∨ 49 ≤ k → h2.2 k = h.2 k) → WP (mm_rw mr_8) none tb (WM tb (d + 1)) (QGinit h) 63 [(0, vR 27), (1, vI 7)] [] h2 0 0 := by
    intro h2 n1 a1 a2 p28 p29 p31 p32 p33 p34 q35 q36 q37 q38 q39 q40 q41 q42 q43 q44 q45 q46 q47 q48 fr
    (try simp only [Option.toList_some, Option.toList_none, List.nil_append, List.append_nil, List.cons_append, Nat.sub_zero, Nat.sub_self, Nat.zero_sub]); refine Go.wp sp_8 200 ?_; simp only [↓g8_0, ↓g8_1, ↓g8_4, ↓g8_5, ↓g8_7, ↓g8_9, ↓g8_12, ↓g8_13, ↓g8_15, ↓g8_17, ↓g8_20, ↓g8_21, ↓g8_23, ↓g8_26, ↓g8_29, ↓g8_30, ↓g8_32, ↓g8_34, ↓g8_37, ↓g8_38, ↓g8_40, ↓g8_42, ↓g8_45, ↓g8_46, ↓g8_48, ↓g8_50, ↓g8_53, ↓g8_54, ↓g8_56, ↓g8_58, ↓g8_61, ↓g8_62, ↓g8_63, ↓g8_64, ↓g8_66, ↓g8_69, ↓g8_70, ↓g8_73, ↓g8_74, ↓g8_77, ↓g8_78, ↓g8_81, ↓g8_82, ↓g8_85, ↓g8_88, cl_31, cn_0, cn_1, cn_2, cn_3, cn_4, cn_5, cn_6, cn_7, cn_8, ↓Go_s, ↓GoC_a, ↓reduceIte, ↓mm_call_eq, ↓mmw_nil, ↓mmw_cons, List.take_succ_cons, List.take_zero, List.take_nil, List.drop_succ_cons, List.drop_zero, List.drop_nil, List.reverse_cons, List.reverse_nil, List.nil_append, List.cons_append, List.append_nil, Option.toList_some, Option.toList_none, Nat.sub_zero, Nat.le_refl, mmr_cons, mm_st1, mm_st2, mmi_nil, mmi_cons, mmc_I, mmc_L, mmc_R, mmu_get, mmu_one, mma_get, mma_one, List.filter_cons, List.filter_nil, List.contains_cons, List.contains_nil, Nat.reduceBEq, Nat.reduceAdd, Nat.reduceLT, Nat.reduceSub, Nat.reduceLeDiff, Nat.reduceEqDiff, Int32.reduceAdd, Bool.not_true, Bool.not_false, Bool.and_true, Bool.true_and, Bool.and_false, Bool.false_and, Bool.or_false, Bool.false_or, Bool.or_true, Bool.true_or, if_true, if_false, ite_true, ite_false, Bool.false_eq_true, List.getElem?_cons_zero, List.getElem?_cons_succ, List.length_cons, List.length_nil, true_and, and_true, List.set_cons_zero, List.set_cons_succ, Fin.isValue, Fin.val_zero, Fin.val_one, Fin.val_two, Fin.reduceFinMk, Nat.zero_add, n1, a1, a2, ft_2_0, ft_2_1, ft_2_10, ft_2_3, ft_2_4, ft_2_5, ft_2_9, nu_fitI, nu_fitL, nu_fitO, nu_fitA, nu_fitB0, nu_fitB1]
    exact ⟨fun _ => ⟨rfl, n1, a1, a2, p28, p29, p31, p32, p33, p34, q35, q36, q37, q38, q39, q40, q41, q42, q43, q44, q45, q46, q47, q48, fr⟩, fun z => absurd (by decide) z⟩
  have k6 : ∀ h2 : AH, h2.1 = 47 → h2.2 27 = some (cO 2 [vR 28, vR 29, vI 0, vR 30, vR 31, vR 32, vI 0, vI 0, vI 0, vR 33, vR 34]) → h2.2 30 = some (cQ 5 7 (va_up (va_up (va_up (va_up (va_up (va_up (fun _ => none) 0 (some 35)) 1 (some 37)) 2 (some 39)) 3 (some 41)) 4 (some 43)) 5 (some 45))) → h2.2 28 = some (cI 6 z0) → h2.2 29 = some (cI 6 z0) → h2.2 31 = some (cI 8 z0) → h2.2 32 = some (cI 8 z0) → h2.2 33 = some (cI 8 z0) → h2.2 34 = some (cI 8 z0) → h2.2 35 = some (cO 5 [vR 36, vI 0]) → h2.2 36 = some (cI 8 z0) → h2.2 37 = some (cO 5 [vR 38, vI 0]) → h2.2 38 = some (cI 8 z0) → h2.2 39 = some (cO 5 [vR 40, vI 0]) → h2.2 40 = some (cI 8 z0) → h2.2 41 = some (cO 5 [vR 42, vI 0]) → h2.2 42 = some (cI 8 z0) → h2.2 43 = some (cO 5 [vR 44, vI 0]) → h2.2 44 = some (cI 8 z0) → h2.2 45 = some (cO 5 [vR 46, vI 0]) → h2.2 46 = some (cI 8 z0) → (∀ k, k < 27 ∨ 47 ≤ k → h2.2 k = h.2 k) → WP (mm_rw mr_8) none tb (WM tb (d + 1)) (QGinit h) 63 [(0, vR 27), (1, vI 6)] [] h2 2 10 := by
    intro h2 n1 a1 a2 p28 p29 p31 p32 p33 p34 q35 q36 q37 q38 q39 q40 q41 q42 q43 q44 q45 q46 fr
    (try simp only [Option.toList_some, Option.toList_none, List.nil_append, List.append_nil, List.cons_append, Nat.sub_zero, Nat.sub_self, Nat.zero_sub]); refine Go.wp [63, 81] 200 ?_; simp only [↓g8_0, ↓g8_1, ↓g8_4, ↓g8_5, ↓g8_7, ↓g8_9, ↓g8_12, ↓g8_13, ↓g8_15, ↓g8_17, ↓g8_20, ↓g8_21, ↓g8_23, ↓g8_26, ↓g8_29, ↓g8_30, ↓g8_32, ↓g8_34, ↓g8_37, ↓g8_38, ↓g8_40, ↓g8_42, ↓g8_45, ↓g8_46, ↓g8_48, ↓g8_50, ↓g8_53, ↓g8_54, ↓g8_56, ↓g8_58, ↓g8_61, ↓g8_62, ↓g8_63, ↓g8_64, ↓g8_66, ↓g8_69, ↓g8_70, ↓g8_73, ↓g8_74, ↓g8_77, ↓g8_78, ↓g8_81, ↓g8_82, ↓g8_85, ↓g8_88, cl_31, cn_0, cn_1, cn_2, cn_3, cn_4, cn_5, cn_6, cn_7, cn_8, ↓Go_s, ↓GoC_a, ↓reduceIte, ↓mm_call_eq, ↓mmw_nil, ↓mmw_cons, List.take_succ_cons, List.take_zero, List.take_nil, List.drop_succ_cons, List.drop_zero, List.drop_nil, List.reverse_cons, List.reverse_nil, List.nil_append, List.cons_append, List.append_nil, Option.toList_some, Option.toList_none, Nat.sub_zero, Nat.le_refl, mmr_cons, mm_st1, mm_st2, mmi_nil, mmi_cons, mmc_I, mmc_L, mmc_R, mmu_get, mmu_one, mma_get, mma_one, List.filter_cons, List.filter_nil, List.contains_cons, List.contains_nil, Nat.reduceBEq, Nat.reduceAdd, Nat.reduceLT, Nat.reduceSub, Nat.reduceLeDiff, Nat.reduceEqDiff, Int32.reduceAdd, Bool.not_true, Bool.not_false, Bool.and_true, Bool.true_and, Bool.and_false, Bool.false_and, Bool.or_false, Bool.false_or, Bool.or_true, Bool.true_or, if_true, if_false, ite_true, ite_false, Bool.false_eq_true, List.getElem?_cons_zero, List.getElem?_cons_succ, List.length_cons, List.length_nil, true_and, and_true, List.set_cons_zero, List.set_cons_succ, Fin.isValue, Fin.val_zero, Fin.val_one, Fin.val_two, Fin.reduceFinMk, Nat.zero_add, n1, a1, a2, df_5, nf_5, cl0, cl1, cl2, cl3, cl4, cl5, cl6, cl7, cl8, cl16, ft_2_0, ft_2_1, ft_2_10, ft_2_3, ft_2_4, ft_2_5, ft_2_9, nu_fitI, nu_fitL, nu_fitO, nu_fitA, nu_fitB0, nu_fitB1]
    refine ⟨fun z => absurd z (by decide), fun _ => ⟨1, 8, _, by decide, by decide, c_Rinit (d := d) (N := 48) (by simp only [mmu_get, mma_get, mma_one, mmu_one, n1, Nat.reduceAdd, Nat.reduceEqDiff, if_true, if_false, List.set_cons_zero, List.set_cons_succ, Nat.reduceLT]) (by simp only [mmu_get, mma_get, mma_one, mmu_one, n1, Nat.reduceAdd, Nat.reduceEqDiff, if_true, if_false, List.set_cons_zero, List.set_cons_succ, Nat.reduceLT]) (by omega), fun z h3 hz => ?_⟩⟩
    obtain ⟨rfl, m1, b1, b2, g3⟩ := hz
    have fk : ∀ k, k ≠ 47 → k ≠ 48 → h3.2 k = h2.2 k := fun k z1 z2 => by rw [g3 k z1 z2, mma_get, n1, if_neg z1]
    have x1 := (fk 27 (by omega) (by omega)).trans a1
    have x2 := (fk 30 (by omega) (by omega)).trans a2
    (try simp only [Option.toList_some, Option.toList_none, List.nil_append, List.append_nil, List.cons_append, Nat.sub_zero, Nat.sub_self, Nat.zero_sub]); refine Go.wp sp_8 200 ?_; simp only [↓g8_0, ↓g8_1, ↓g8_4, ↓g8_5, ↓g8_7, ↓g8_9, ↓g8_12, ↓g8_13, ↓g8_15, ↓g8_17, ↓g8_20, ↓g8_21, ↓g8_23, ↓g8_26, ↓g8_29, ↓g8_30, ↓g8_32, ↓g8_34, ↓g8_37, ↓g8_38, ↓g8_40, ↓g8_42, ↓g8_45, ↓g8_46, ↓g8_48, ↓g8_50, ↓g8_53, ↓g8_54, ↓g8_56, ↓g8_58, ↓g8_61, ↓g8_62, ↓g8_63, ↓g8_64, ↓g8_66, ↓g8_69, ↓g8_70, ↓g8_73, ↓g8_74, ↓g8_77, ↓g8_78, ↓g8_81, ↓g8_82, ↓g8_85, ↓g8_88, cl_31, cn_0, cn_1, cn_2, cn_3, cn_4, cn_5, cn_6, cn_7, cn_8, ↓Go_s, ↓GoC_a, ↓reduceIte, ↓mm_call_eq, ↓mmw_nil, ↓mmw_cons, List.take_succ_cons, List.take_zero, List.take_nil, List.drop_succ_cons, List.drop_zero, List.drop_nil, List.reverse_cons, List.reverse_nil, List.nil_append, List.cons_append, List.append_nil, Option.toList_some, Option.toList_none, Nat.sub_zero, Nat.le_refl, mmr_cons, mm_st1, mm_st2, mmi_nil, mmi_cons, mmc_I, mmc_L, mmc_R, mmu_get, mmu_one, mma_get, mma_one, List.filter_cons, List.filter_nil, List.contains_cons, List.contains_nil, Nat.reduceBEq, Nat.reduceAdd, Nat.reduceLT, Nat.reduceSub, Nat.reduceLeDiff, Nat.reduceEqDiff, Int32.reduceAdd, Bool.not_true, Bool.not_false, Bool.and_true, Bool.true_and, Bool.and_false, Bool.false_and, Bool.or_false, Bool.false_or, Bool.or_true, Bool.true_or, if_true, if_false, ite_true, ite_false, Bool.false_eq_true, List.getElem?_cons_zero, List.getElem?_cons_succ, List.length_cons, List.length_nil, true_and, and_true, List.set_cons_zero, List.set_cons_succ, Fin.isValue, Fin.val_zero, Fin.val_one, Fin.val_two, Fin.reduceFinMk, Nat.zero_add, m1, b1, x1, x2, cl0, cl1, cl2, cl3, cl4, cl5, cl6, cl7, cl8, cl16, or_true, or_false, true_or, false_or, ft_2_0, ft_2_1, ft_2_10, ft_2_3, ft_2_4, ft_2_5, ft_2_9, nu_fitI, nu_fitL, nu_fitO, nu_fitA, nu_fitB0, nu_fitB1]
    refine ⟨vp_in_nI (n := 6) (by omega) (by omega), k7 _ ?_ ?_ ?_ ?_ ?_ ?_ ?_ ?_ ?_ ?_ ?_ ?_ ?_ ?_ ?_ ?_ ?_ ?_ ?_ ?_ ?_ ?_ ?_ ?_⟩
    · rw [mmu_one]; exact m1
    · rw [mmu_get, if_neg (by omega)]; exact x1
    · rw [mmu_get, if_pos rfl]
    · rw [mmu_get, if_neg (by omega), fk 28 (by omega) (by omega)]; exact p28
    · rw [mmu_get, if_neg (by omega), fk 29 (by omega) (by omega)]; exact p29
    · rw [mmu_get, if_neg (by omega), fk 31 (by omega) (by omega)]; exact p31
    · rw [mmu_get, if_neg (by omega), fk 32 (by omega) (by omega)]; exact p32
    · rw [mmu_get, if_neg (by omega), fk 33 (by omega) (by omega)]; exact p33
    · rw [mmu_get, if_neg (by omega), fk 34 (by omega) (by omega)]; exact p34
    · rw [mmu_get, if_neg (by omega), fk 35 (by omega) (by omega)]; exact q35
    · rw [mmu_get, if_neg (by omega), fk 36 (by omega) (by omega)]; exact q36
    · rw [mmu_get, if_neg (by omega), fk 37 (by omega) (by omega)]; exact q37
    · rw [mmu_get, if_neg (by omega), fk 38 (by omega) (by omega)]; exact q38
    · rw [mmu_get, if_neg (by omega), fk 39 (by omega) (by omega)]; exact q39
    · rw [mmu_get, if_neg (by omega), fk 40 (by omega) (by omega)]; exact q40
    · rw [mmu_get, if_neg (by omega), fk 41 (by omega) (by omega)]; exact q41
    · rw [mmu_get, if_neg (by omega), fk 42 (by omega) (by omega)]; exact q42
    · rw [mmu_get, if_neg (by omega), fk 43 (by omega) (by omega)]; exact q43
    · rw [mmu_get, if_neg (by omega), fk 44 (by omega) (by omega)]; exact q44
    · rw [mmu_get, if_neg (by omega), fk 45 (by omega) (by omega)]; exact q45
    · rw [mmu_get, if_neg (by omega), fk 46 (by omega) (by omega)]; exact q46
    · rw [mmu_get, if_neg (by omega)]; exact b1
    · rw [mmu_get, if_neg (by omega)]; exact b2
    · intro k hk; rw [mmu_get, if_neg (by omega), fk k (by omega) (by omega)]; exact fr k (by omega)
  have k5 : ∀ h2 : AH, h2.1 = 45 → h2.2 27 = some (cO 2 [vR 28, vR 29, vI 0, vR 30, vR 31, vR 32, vI 0, vI 0, vI 0, vR 33, vR 34]) → h2.2 30 = some (cQ 5 7 (va_up (va_up (va_up (va_up (va_up (fun _ => none) 0 (some 35)) 1 (some 37)) 2 (some 39)) 3 (some 41)) 4 (some 43))) → h2.2 28 = some (cI 6 z0) → h2.2 29 = some (cI 6 z0) → h2.2 31 = some (cI 8 z0) → h2.2 32 = some (cI 8 z0) → h2.2 33 = some (cI 8 z0) → h2.2 34 = some (cI 8 z0) → h2.2 35 = some (cO 5 [vR 36, vI 0]) → h2.2 36 = some (cI 8 z0) → h2.2 37 = some (cO 5 [vR 38, vI 0]) → h2.2 38 = some (cI 8 z0) → h2.2 39 = some (cO 5 [vR 40, vI 0]) → h2.2 40 = some (cI 8 z0) → h2.2 41 = some (cO 5 [vR 42, vI 0]) → h2.2 42 = some (cI 8 z0) → h2.2 43 = some (cO 5 [vR 44, vI 0]) → h2.2 44 = some (cI 8 z0) → (∀ k, k < 27 ∨ 45 ≤ k → h2.2 k = h.2 k) → WP (mm_rw mr_8) none tb (WM tb (d + 1)) (QGinit h) 63 [(0, vR 27), (1, vI 5)] [] h2 4 20 := by
    intro h2 n1 a1 a2 p28 p29 p31 p32 p33 p34 q35 q36 q37 q38 q39 q40 q41 q42 q43 q44 fr
    (try simp only [Option.toList_some, Option.toList_none, List.nil_append, List.append_nil, List.cons_append, Nat.sub_zero, Nat.sub_self, Nat.zero_sub]); refine Go.wp [63, 81] 200 ?_; simp only [↓g8_0, ↓g8_1, ↓g8_4, ↓g8_5, ↓g8_7, ↓g8_9, ↓g8_12, ↓g8_13, ↓g8_15, ↓g8_17, ↓g8_20, ↓g8_21, ↓g8_23, ↓g8_26, ↓g8_29, ↓g8_30, ↓g8_32, ↓g8_34, ↓g8_37, ↓g8_38, ↓g8_40, ↓g8_42, ↓g8_45, ↓g8_46, ↓g8_48, ↓g8_50, ↓g8_53, ↓g8_54, ↓g8_56, ↓g8_58, ↓g8_61, ↓g8_62, ↓g8_63, ↓g8_64, ↓g8_66, ↓g8_69, ↓g8_70, ↓g8_73, ↓g8_74, ↓g8_77, ↓g8_78, ↓g8_81, ↓g8_82, ↓g8_85, ↓g8_88, cl_31, cn_0, cn_1, cn_2, cn_3, cn_4, cn_5, cn_6, cn_7, cn_8, ↓Go_s, ↓GoC_a, ↓reduceIte, ↓mm_call_eq, ↓mmw_nil, ↓mmw_cons, List.take_succ_cons, List.take_zero, List.take_nil, List.drop_succ_cons, List.drop_zero, List.drop_nil, List.reverse_cons, List.reverse_nil, List.nil_append, List.cons_append, List.append_nil, Option.toList_some, Option.toList_none, Nat.sub_zero, Nat.le_refl, mmr_cons, mm_st1, mm_st2, mmi_nil, mmi_cons, mmc_I, mmc_L, mmc_R, mmu_get, mmu_one, mma_get, mma_one, List.filter_cons, List.filter_nil, List.contains_cons, List.contains_nil, Nat.reduceBEq, Nat.reduceAdd, Nat.reduceLT, Nat.reduceSub, Nat.reduceLeDiff, Nat.reduceEqDiff, Int32.reduceAdd, Bool.not_true, Bool.not_false, Bool.and_true, Bool.true_and, Bool.and_false, Bool.false_and, Bool.or_false, Bool.false_or, Bool.or_true, Bool.true_or, if_true, if_false, ite_true, ite_false, Bool.false_eq_true, List.getElem?_cons_zero, List.getElem?_cons_succ, List.length_cons, List.length_nil, true_and, and_true, List.set_cons_zero, List.set_cons_succ, Fin.isValue, Fin.val_zero, Fin.val_one, Fin.val_two, Fin.reduceFinMk, Nat.zero_add, n1, a1, a2, df_5, nf_5, cl0, cl1, cl2, cl3, cl4, cl5, cl6, cl7, cl8, cl16, ft_2_0, ft_2_1, ft_2_10, ft_2_3, ft_2_4, ft_2_5, ft_2_9, nu_fitI, nu_fitL, nu_fitO, nu_fitA, nu_fitB0, nu_fitB1]
    refine ⟨fun z => absurd z (by decide), fun _ => ⟨1, 8, _, by decide, by decide, c_Rinit (d := d) (N := 46) (by simp only [mmu_get, mma_get, mma_one, mmu_one, n1, Nat.reduceAdd, Nat.reduceEqDiff, if_true, if_false, List.set_cons_zero, List.set_cons_succ, Nat.reduceLT]) (by simp only [mmu_get, mma_get, mma_one, mmu_one, n1, Nat.reduceAdd, Nat.reduceEqDiff, if_true, if_false, List.set_cons_zero, List.set_cons_succ, Nat.reduceLT]) (by omega), fun z h3 hz => ?_⟩⟩
    obtain ⟨rfl, m1, b1, b2, g3⟩ := hz
    have fk : ∀ k, k ≠ 45 → k ≠ 46 → h3.2 k = h2.2 k := fun k z1 z2 => by rw [g3 k z1 z2, mma_get, n1, if_neg z1]
    have x1 := (fk 27 (by omega) (by omega)).trans a1
    have x2 := (fk 30 (by omega) (by omega)).trans a2
    (try simp only [Option.toList_some, Option.toList_none, List.nil_append, List.append_nil, List.cons_append, Nat.sub_zero, Nat.sub_self, Nat.zero_sub]); refine Go.wp sp_8 200 ?_; simp only [↓g8_0, ↓g8_1, ↓g8_4, ↓g8_5, ↓g8_7, ↓g8_9, ↓g8_12, ↓g8_13, ↓g8_15, ↓g8_17, ↓g8_20, ↓g8_21, ↓g8_23, ↓g8_26, ↓g8_29, ↓g8_30, ↓g8_32, ↓g8_34, ↓g8_37, ↓g8_38, ↓g8_40, ↓g8_42, ↓g8_45, ↓g8_46, ↓g8_48, ↓g8_50, ↓g8_53, ↓g8_54, ↓g8_56, ↓g8_58, ↓g8_61, ↓g8_62, ↓g8_63, ↓g8_64, ↓g8_66, ↓g8_69, ↓g8_70, ↓g8_73, ↓g8_74, ↓g8_77, ↓g8_78, ↓g8_81, ↓g8_82, ↓g8_85, ↓g8_88, cl_31, cn_0, cn_1, cn_2, cn_3, cn_4, cn_5, cn_6, cn_7, cn_8, ↓Go_s, ↓GoC_a, ↓reduceIte, ↓mm_call_eq, ↓mmw_nil, ↓mmw_cons, List.take_succ_cons, List.take_zero, List.take_nil, List.drop_succ_cons, List.drop_zero, List.drop_nil, List.reverse_cons, List.reverse_nil, List.nil_append, List.cons_append, List.append_nil, Option.toList_some, Option.toList_none, Nat.sub_zero, Nat.le_refl, mmr_cons, mm_st1, mm_st2, mmi_nil, mmi_cons, mmc_I, mmc_L, mmc_R, mmu_get, mmu_one, mma_get, mma_one, List.filter_cons, List.filter_nil, List.contains_cons, List.contains_nil, Nat.reduceBEq, Nat.reduceAdd, Nat.reduceLT, Nat.reduceSub, Nat.reduceLeDiff, Nat.reduceEqDiff, Int32.reduceAdd, Bool.not_true, Bool.not_false, Bool.and_true, Bool.true_and, Bool.and_false, Bool.false_and, Bool.or_false, Bool.false_or, Bool.or_true, Bool.true_or, if_true, if_false, ite_true, ite_false, Bool.false_eq_true, List.getElem?_cons_zero, List.getElem?_cons_succ, List.length_cons, List.length_nil, true_and, and_true, List.set_cons_zero, List.set_cons_succ, Fin.isValue, Fin.val_zero, Fin.val_one, Fin.val_two, Fin.reduceFinMk, Nat.zero_add, m1, b1, x1, x2, cl0, cl1, cl2, cl3, cl4, cl5, cl6, cl7, cl8, cl16, or_true, or_false, true_or, false_or, ft_2_0, ft_2_1, ft_2_10, ft_2_3, ft_2_4, ft_2_5, ft_2_9, nu_fitI, nu_fitL, nu_fitO, nu_fitA, nu_fitB0, nu_fitB1]
    refine ⟨vp_in_nI (n := 5) (by omega) (by omega), k6 _ ?_ ?_ ?_ ?_ ?_ ?_ ?_ ?_ ?_ ?_ ?_ ?_ ?_ ?_ ?_ ?_ ?_ ?_ ?_ ?_ ?_ ?_⟩
    · rw [mmu_one]; exact m1
    · rw [mmu_get, if_neg (by omega)]; exact x1
    · rw [mmu_get, if_pos rfl]
    · rw [mmu_get, if_neg (by omega), fk 28 (by omega) (by omega)]; exact p28
    · rw [mmu_get, if_neg (by omega), fk 29 (by omega) (by omega)]; exact p29
    · rw [mmu_get, if_neg (by omega), fk 31 (by omega) (by omega)]; exact p31
    · rw [mmu_get, if_neg (by omega), fk 32 (by omega) (by omega)]; exact p32
    · rw [mmu_get, if_neg (by omega), fk 33 (by omega) (by omega)]; exact p33
    · rw [mmu_get, if_neg (by omega), fk 34 (by omega) (by omega)]; exact p34
    · rw [mmu_get, if_neg (by omega), fk 35 (by omega) (by omega)]; exact q35
    · rw [mmu_get, if_neg (by omega), fk 36 (by omega) (by omega)]; exact q36
    · rw [mmu_get, if_neg (by omega), fk 37 (by omega) (by omega)]; exact q37
    · rw [mmu_get, if_neg (by omega), fk 38 (by omega) (by omega)]; exact q38
    · rw [mmu_get, if_neg (by omega), fk 39 (by omega) (by omega)]; exact q39
    · rw [mmu_get, if_neg (by omega), fk 40 (by omega) (by omega)]; exact q40
    · rw [mmu_get, if_neg (by omega), fk 41 (by omega) (by omega)]; exact q41
    · rw [mmu_get, if_neg (by omega), fk 42 (by omega) (by omega)]; exact q42
    · rw [mmu_get, if_neg (by omega), fk 43 (by omega) (by omega)]; exact q43
    · rw [mmu_get, if_neg (by omega), fk 44 (by omega) (by omega)]; exact q44
    · rw [mmu_get, if_neg (by omega)]; exact b1
    · rw [mmu_get, if_neg (by omega)]; exact b2
    · intro k hk; rw [mmu_get, if_neg (by omega), fk k (by omega) (by omega)]; exact fr k (by omega)
  have k4 : ∀ h2 : AH, h2.1 = 43 → h2.2 27 = some (cO 2 [vR 28, vR 29, vI 0, vR 30, vR 31, vR 32, vI 0, vI 0, vI 0, vR 33, vR 34]) → h2.2 30 = some (cQ 5 7 (va_up (va_up (va_up (va_up (fun _ => none) 0 (some 35)) 1 (some 37)) 2 (some 39)) 3 (some 41))) → h2.2 28 = some (cI 6 z0) → h2.2 29 = some (cI 6 z0) → h2.2 31 = some (cI 8 z0) → h2.2 32 = some (cI 8 z0) → h2.2 33 = some (cI 8 z0) → h2.2 34 = some (cI 8 z0) → h2.2 35 = some (cO 5 [vR 36, vI 0]) → h2.2 36 = some (cI 8 z0) → h2.2 37 = some (cO 5 [vR 38, vI 0]) → h2.2 38 = some (cI 8 z0) → h2.2 39 = some (cO 5 [vR 40, vI 0]) → h2.2 40 = some (cI 8 z0) → h2.2 41 = some (cO 5 [vR 42, vI 0]) → h2.2 42 = some (cI 8 z0) → (∀ k, k < 27 ∨ 43 ≤ k → h2.2 k = h.2 k) → WP (mm_rw mr_8) none tb (WM tb (d + 1)) (QGinit h) 63 [(0, vR 27), (1, vI 4)] [] h2 6 30 := by
    intro h2 n1 a1 a2 p28 p29 p31 p32 p33 p34 q35 q36 q37 q38 q39 q40 q41 q42 fr
    (try simp only [Option.toList_some, Option.toList_none, List.nil_append, List.append_nil, List.cons_append, Nat.sub_zero, Nat.sub_self, Nat.zero_sub]); refine Go.wp [63, 81] 200 ?_; simp only [↓g8_0, ↓g8_1, ↓g8_4, ↓g8_5, ↓g8_7, ↓g8_9, ↓g8_12, ↓g8_13, ↓g8_15, ↓g8_17, ↓g8_20, ↓g8_21, ↓g8_23, ↓g8_26, ↓g8_29, ↓g8_30, ↓g8_32, ↓g8_34, ↓g8_37, ↓g8_38, ↓g8_40, ↓g8_42, ↓g8_45, ↓g8_46, ↓g8_48, ↓g8_50, ↓g8_53, ↓g8_54, ↓g8_56, ↓g8_58, ↓g8_61, ↓g8_62, ↓g8_63, ↓g8_64, ↓g8_66, ↓g8_69, ↓g8_70, ↓g8_73, ↓g8_74, ↓g8_77, ↓g8_78, ↓g8_81, ↓g8_82, ↓g8_85, ↓g8_88, cl_31, cn_0, cn_1, cn_2, cn_3, cn_4, cn_5, cn_6, cn_7, cn_8, ↓Go_s, ↓GoC_a, ↓reduceIte, ↓mm_call_eq, ↓mmw_nil, ↓mmw_cons, List.take_succ_cons, List.take_zero, List.take_nil, List.drop_succ_cons, List.drop_zero, List.drop_nil, List.reverse_cons, List.reverse_nil, List.nil_append, List.cons_append, List.append_nil, Option.toList_some, Option.toList_none, Nat.sub_zero, Nat.le_refl, mmr_cons, mm_st1, mm_st2, mmi_nil, mmi_cons, mmc_I, mmc_L, mmc_R, mmu_get, mmu_one, mma_get, mma_one, List.filter_cons, List.filter_nil, List.contains_cons, List.contains_nil, Nat.reduceBEq, Nat.reduceAdd, Nat.reduceLT, Nat.reduceSub, Nat.reduceLeDiff, Nat.reduceEqDiff, Int32.reduceAdd, Bool.not_true, Bool.not_false, Bool.and_true, Bool.true_and, Bool.and_false, Bool.false_and, Bool.or_false, Bool.false_or, Bool.or_true, Bool.true_or, if_true, if_false, ite_true, ite_false, Bool.false_eq_true, List.getElem?_cons_zero, List.getElem?_cons_succ, List.length_cons, List.length_nil, true_and, and_true, List.set_cons_zero, List.set_cons_succ, Fin.isValue, Fin.val_zero, Fin.val_one, Fin.val_two, Fin.reduceFinMk, Nat.zero_add, n1, a1, a2, df_5, nf_5, cl0, cl1, cl2, cl3, cl4, cl5, cl6, cl7, cl8, cl16, ft_2_0, ft_2_1, ft_2_10, ft_2_3, ft_2_4, ft_2_5, ft_2_9, nu_fitI, nu_fitL, nu_fitO, nu_fitA, nu_fitB0, nu_fitB1]
    refine ⟨fun z => absurd z (by decide), fun _ => ⟨1, 8, _, by decide, by decide, c_Rinit (d := d) (N := 44) (by simp only [mmu_get, mma_get, mma_one, mmu_one, n1, Nat.reduceAdd, Nat.reduceEqDiff, if_true, if_false, List.set_cons_zero, List.set_cons_succ, Nat.reduceLT]) (by simp only [mmu_get, mma_get, mma_one, mmu_one, n1, Nat.reduceAdd, Nat.reduceEqDiff, if_true, if_false, List.set_cons_zero, List.set_cons_succ, Nat.reduceLT]) (by omega), fun z h3 hz => ?_⟩⟩
    obtain ⟨rfl, m1, b1, b2, g3⟩ := hz
    have fk : ∀ k, k ≠ 43 → k ≠ 44 → h3.2 k = h2.2 k := fun k z1 z2 => by rw [g3 k z1 z2, mma_get, n1, if_neg z1]
    have x1 := (fk 27 (by omega) (by omega)).trans a1
    have x2 := (fk 30 (by omega) (by omega)).trans a2
    (try simp only [Option.toList_some, Option.toList_none, List.nil_append, List.append_nil, List.cons_append, Nat.sub_zero, Nat.sub_self, Nat.zero_sub]); refine Go.wp sp_8 200 ?_; simp only [↓g8_0, ↓g8_1, ↓g8_4, ↓g8_5, ↓g8_7, ↓g8_9, ↓g8_12, ↓g8_13, ↓g8_15, ↓g8_17, ↓g8_20, ↓g8_21, ↓g8_23, ↓g8_26, ↓g8_29, ↓g8_30, ↓g8_32, ↓g8_34, ↓g8_37, ↓g8_38, ↓g8_40, ↓g8_42, ↓g8_45, ↓g8_46, ↓g8_48, ↓g8_50, ↓g8_53, ↓g8_54, ↓g8_56, ↓g8_58, ↓g8_61, ↓g8_62, ↓g8_63, ↓g8_64, ↓g8_66, ↓g8_69, ↓g8_70, ↓g8_73, ↓g8_74, ↓g8_77, ↓g8_78, ↓g8_81, ↓g8_82, ↓g8_85, ↓g8_88, cl_31, cn_0, cn_1, cn_2, cn_3, cn_4, cn_5, cn_6, cn_7, cn_8, ↓Go_s, ↓GoC_a, ↓reduceIte, ↓mm_call_eq, ↓mmw_nil, ↓mmw_cons, List.take_succ_cons, List.take_zero, List.take_nil, List.drop_succ_cons, List.drop_zero, List.drop_nil, List.reverse_cons, List.reverse_nil, List.nil_append, List.cons_append, List.append_nil, Option.toList_some, Option.toList_none, Nat.sub_zero, Nat.le_refl, mmr_cons, mm_st1, mm_st2, mmi_nil, mmi_cons, mmc_I, mmc_L, mmc_R, mmu_get, mmu_one, mma_get, mma_one, List.filter_cons, List.filter_nil, List.contains_cons, List.contains_nil, Nat.reduceBEq, Nat.reduceAdd, Nat.reduceLT, Nat.reduceSub, Nat.reduceLeDiff, Nat.reduceEqDiff, Int32.reduceAdd, Bool.not_true, Bool.not_false, Bool.and_true, Bool.true_and, Bool.and_false, Bool.false_and, Bool.or_false, Bool.false_or, Bool.or_true, Bool.true_or, if_true, if_false, ite_true, ite_false, Bool.false_eq_true, List.getElem?_cons_zero, List.getElem?_cons_succ, List.length_cons, List.length_nil, true_and, and_true, List.set_cons_zero, List.set_cons_succ, Fin.isValue, Fin.val_zero, Fin.val_one, Fin.val_two, Fin.reduceFinMk, Nat.zero_add, m1, b1, x1, x2, cl0, cl1, cl2, cl3, cl4, cl5, cl6, cl7, cl8, cl16, or_true, or_false, true_or, false_or, ft_2_0, ft_2_1, ft_2_10, ft_2_3, ft_2_4, ft_2_5, ft_2_9, nu_fitI, nu_fitL, nu_fitO, nu_fitA, nu_fitB0, nu_fitB1]
    refine ⟨vp_in_nI (n := 4) (by omega) (by omega), k5 _ ?_ ?_ ?_ ?_ ?_ ?_ ?_ ?_ ?_ ?_ ?_ ?_ ?_ ?_ ?_ ?_ ?_ ?_ ?_ ?_⟩
    · rw [mmu_one]; exact m1
    · rw [mmu_get, if_neg (by omega)]; exact x1
    · rw [mmu_get, if_pos rfl]
    · rw [mmu_get, if_neg (by omega), fk 28 (by omega) (by omega)]; exact p28
    · rw [mmu_get, if_neg (by omega), fk 29 (by omega) (by omega)]; exact p29
    · rw [mmu_get, if_neg (by omega), fk 31 (by omega) (by omega)]; exact p31
    · rw [mmu_get, if_neg (by omega), fk 32 (by omega) (by omega)]; exact p32
    · rw [mmu_get, if_neg (by omega), fk 33 (by omega) (by omega)]; exact p33
    · rw [mmu_get, if_neg (by omega), fk 34 (by omega) (by omega)]; exact p34
    · rw [mmu_get, if_neg (by omega), fk 35 (by omega) (by omega)]; exact q35
    · rw [mmu_get, if_neg (by omega), fk 36 (by omega) (by omega)]; exact q36
    · rw [mmu_get, if_neg (by omega), fk 37 (by omega) (by omega)]; exact q37
    · rw [mmu_get, if_neg (by omega), fk 38 (by omega) (by omega)]; exact q38
    · rw [mmu_get, if_neg (by omega), fk 39 (by omega) (by omega)]; exact q39
    · rw [mmu_get, if_neg (by omega), fk 40 (by omega) (by omega)]; exact q40
    · rw [mmu_get, if_neg (by omega), fk 41 (by omega) (by omega)]; exact q41
    · rw [mmu_get, if_neg (by omega), fk 42 (by omega) (by omega)]; exact q42
    · rw [mmu_get, if_neg (by omega)]; exact b1
    · rw [mmu_get, if_neg (by omega)]; exact b2
    · intro k hk; rw [mmu_get, if_neg (by omega), fk k (by omega) (by omega)]; exact fr k (by omega)
  have k3 : ∀ h2 : AH, h2.1 = 41 → h2.2 27 = some (cO 2 [vR 28, vR 29, vI 0, vR 30, vR 31, vR 32, vI 0, vI 0, vI 0, vR 33, vR 34]) → h2.2 30 = some (cQ 5 7 (va_up (va_up (va_up (fun _ => none) 0 (some 35)) 1 (some 37)) 2 (some 39))) → h2.2 28 = some (cI 6 z0) → h2.2 29 = some (cI 6 z0) → h2.2 31 = some (cI 8 z0) → h2.2 32 = some (cI 8 z0) → h2.2 33 = some (cI 8 z0) → h2.2 34 = some (cI 8 z0) → h2.2 35 = some (cO 5 [vR 36, vI 0]) → h2.2 36 = some (cI 8 z0) → h2.2 37 = some (cO 5 [vR 38, vI 0]) → h2.2 38 = some (cI 8 z0) → h2.2 39 = some (cO 5 [vR 40, vI 0]) → h2.2 40 = some (cI 8 z0) → (∀ k, k < 27 ∨ 41 ≤ k → h2.2 k = h.2 k) → WP (mm_rw mr_8) none tb (WM tb (d + 1)) (QGinit h) 63 [(0, vR 27), (1, vI 3)] [] h2 8 40 := by
    intro h2 n1 a1 a2 p28 p29 p31 p32 p33 p34 q35 q36 q37 q38 q39 q40 fr
    (try simp only [Option.toList_some, Option.toList_none, List.nil_append, List.append_nil, List.cons_append, Nat.sub_zero, Nat.sub_self, Nat.zero_sub]); refine Go.wp [63, 81] 200 ?_; simp only [↓g8_0, ↓g8_1, ↓g8_4, ↓g8_5, ↓g8_7, ↓g8_9, ↓g8_12, ↓g8_13, ↓g8_15, ↓g8_17, ↓g8_20, ↓g8_21, ↓g8_23, ↓g8_26, ↓g8_29, ↓g8_30, ↓g8_32, ↓g8_34, ↓g8_37, ↓g8_38, ↓g8_40, ↓g8_42, ↓g8_45, ↓g8_46, ↓g8_48, ↓g8_50, ↓g8_53, ↓g8_54, ↓g8_56, ↓g8_58, ↓g8_61, ↓g8_62, ↓g8_63, ↓g8_64, ↓g8_66, ↓g8_69, ↓g8_70, ↓g8_73, ↓g8_74, ↓g8_77, ↓g8_78, ↓g8_81, ↓g8_82, ↓g8_85, ↓g8_88, cl_31, cn_0, cn_1, cn_2, cn_3, cn_4, cn_5, cn_6, cn_7, cn_8, ↓Go_s, ↓GoC_a, ↓reduceIte, ↓mm_call_eq, ↓mmw_nil, ↓mmw_cons, List.take_succ_cons, List.take_zero, List.take_nil, List.drop_succ_cons, List.drop_zero, List.drop_nil, List.reverse_cons, List.reverse_nil, List.nil_append, List.cons_append, List.append_nil, Option.toList_some, Option.toList_none, Nat.sub_zero, Nat.le_refl, mmr_cons, mm_st1, mm_st2, mmi_nil, mmi_cons, mmc_I, mmc_L, mmc_R, mmu_get, mmu_one, mma_get, mma_one, List.filter_cons, List.filter_nil, List.contains_cons, List.contains_nil, Nat.reduceBEq, Nat.reduceAdd, Nat.reduceLT, Nat.reduceSub, Nat.reduceLeDiff, Nat.reduceEqDiff, Int32.reduceAdd, Bool.not_true, Bool.not_false, Bool.and_true, Bool.true_and, Bool.and_false, Bool.false_and, Bool.or_false, Bool.false_or, Bool.or_true, Bool.true_or, if_true, if_false, ite_true, ite_false, Bool.false_eq_true, List.getElem?_cons_zero, List.getElem?_cons_succ, List.length_cons, List.length_nil, true_and, and_true, List.set_cons_zero, List.set_cons_succ, Fin.isValue, Fin.val_zero, Fin.val_one, Fin.val_two, Fin.reduceFinMk, Nat.zero_add, n1, a1, a2, df_5, nf_5, cl0, cl1, cl2, cl3, cl4, cl5, cl6, cl7, cl8, cl16, ft_2_0, ft_2_1, ft_2_10, ft_2_3, ft_2_4, ft_2_5, ft_2_9, nu_fitI, nu_fitL, nu_fitO, nu_fitA, nu_fitB0, nu_fitB1]
    refine ⟨fun z => absurd z (by decide), fun _ => ⟨1, 8, _, by decide, by decide, c_Rinit (d := d) (N := 42) (by simp only [mmu_get, mma_get, mma_one, mmu_one, n1, Nat.reduceAdd, Nat.reduceEqDiff, if_true, if_false, List.set_cons_zero, List.set_cons_succ, Nat.reduceLT]) (by simp only [mmu_get, mma_get, mma_one, mmu_one, n1, Nat.reduceAdd, Nat.reduceEqDiff, if_true, if_false, List.set_cons_zero, List.set_cons_succ, Nat.reduceLT]) (by omega), fun z h3 hz => ?_⟩⟩
    obtain ⟨rfl, m1, b1, b2, g3⟩ := hz
    have fk : ∀ k, k ≠ 41 → k ≠ 42 → h3.2 k = h2.2 k := fun k z1 z2 => by rw [g3 k z1 z2, mma_get, n1, if_neg z1]
    have x1 := (fk 27 (by omega) (by omega)).trans a1
    have x2 := (fk 30 (by omega) (by omega)).trans a2
    (try simp only [Option.toList_some, Option.toList_none, List.nil_append, List.append_nil, List.cons_append, Nat.sub_zero, Nat.sub_self, Nat.zero_sub]); refine Go.wp sp_8 200 ?_; simp only [↓g8_0, ↓g8_1, ↓g8_4, ↓g8_5, ↓g8_7, ↓g8_9, ↓g8_12, ↓g8_13, ↓g8_15, ↓g8_17, ↓g8_20, ↓g8_21, ↓g8_23, ↓g8_26, ↓g8_29, ↓g8_30, ↓g8_32, ↓g8_34, ↓g8_37, ↓g8_38, ↓g8_40, ↓g8_42, ↓g8_45, ↓g8_46, ↓g8_48, ↓g8_50, ↓g8_53, ↓g8_54, ↓g8_56, ↓g8_58, ↓g8_61, ↓g8_62, ↓g8_63, ↓g8_64, ↓g8_66, ↓g8_69, ↓g8_70, ↓g8_73, ↓g8_74, ↓g8_77, ↓g8_78, ↓g8_81, ↓g8_82, ↓g8_85, ↓g8_88, cl_31, cn_0, cn_1, cn_2, cn_3, cn_4, cn_5, cn_6, cn_7, cn_8, ↓Go_s, ↓GoC_a, ↓reduceIte, ↓mm_call_eq, ↓mmw_nil, ↓mmw_cons, List.take_succ_cons, List.take_zero, List.take_nil, List.drop_succ_cons, List.drop_zero, List.drop_nil, List.reverse_cons, List.reverse_nil, List.nil_append, List.cons_append, List.append_nil, Option.toList_some, Option.toList_none, Nat.sub_zero, Nat.le_refl, mmr_cons, mm_st1, mm_st2, mmi_nil, mmi_cons, mmc_I, mmc_L, mmc_R, mmu_get, mmu_one, mma_get, mma_one, List.filter_cons, List.filter_nil, List.contains_cons, List.contains_nil, Nat.reduceBEq, Nat.reduceAdd, Nat.reduceLT, Nat.reduceSub, Nat.reduceLeDiff, Nat.reduceEqDiff, Int32.reduceAdd, Bool.not_true, Bool.not_false, Bool.and_true, Bool.true_and, Bool.and_false, Bool.false_and, Bool.or_false, Bool.false_or, Bool.or_true, Bool.true_or, if_true, if_false, ite_true, ite_false, Bool.false_eq_true, List.getElem?_cons_zero, List.getElem?_cons_succ, List.length_cons, List.length_nil, true_and, and_true, List.set_cons_zero, List.set_cons_succ, Fin.isValue, Fin.val_zero, Fin.val_one, Fin.val_two, Fin.reduceFinMk, Nat.zero_add, m1, b1, x1, x2, cl0, cl1, cl2, cl3, cl4, cl5, cl6, cl7, cl8, cl16, or_true, or_false, true_or, false_or, ft_2_0, ft_2_1, ft_2_10, ft_2_3, ft_2_4, ft_2_5, ft_2_9, nu_fitI, nu_fitL, nu_fitO, nu_fitA, nu_fitB0, nu_fitB1]
    refine ⟨vp_in_nI (n := 3) (by omega) (by omega), k4 _ ?_ ?_ ?_ ?_ ?_ ?_ ?_ ?_ ?_ ?_ ?_ ?_ ?_ ?_ ?_ ?_ ?_ ?_⟩
    · rw [mmu_one]; exact m1
    · rw [mmu_get, if_neg (by omega)]; exact x1
    · rw [mmu_get, if_pos rfl]
    · rw [mmu_get, if_neg (by omega), fk 28 (by omega) (by omega)]; exact p28
    · rw [mmu_get, if_neg (by omega), fk 29 (by omega) (by omega)]; exact p29
    · rw [mmu_get, if_neg (by omega), fk 31 (by omega) (by omega)]; exact p31
    · rw [mmu_get, if_neg (by omega), fk 32 (by omega) (by omega)]; exact p32
    · rw [mmu_get, if_neg (by omega), fk 33 (by omega) (by omega)]; exact p33
    · rw [mmu_get, if_neg (by omega), fk 34 (by omega) (by omega)]; exact p34
    · rw [mmu_get, if_neg (by omega), fk 35 (by omega) (by omega)]; exact q35
    · rw [mmu_get, if_neg (by omega), fk 36 (by omega) (by omega)]; exact q36
    · rw [mmu_get, if_neg (by omega), fk 37 (by omega) (by omega)]; exact q37
    · rw [mmu_get, if_neg (by omega), fk 38 (by omega) (by omega)]; exact q38
    · rw [mmu_get, if_neg (by omega), fk 39 (by omega) (by omega)]; exact q39
    · rw [mmu_get, if_neg (by omega), fk 40 (by omega) (by omega)]; exact q40
    · rw [mmu_get, if_neg (by omega)]; exact b1
    · rw [mmu_get, if_neg (by omega)]; exact b2
    · intro k hk; rw [mmu_get, if_neg (by omega), fk k (by omega) (by omega)]; exact fr k (by omega)
  have k2 : ∀ h2 : AH, h2.1 = 39 → h2.2 27 = some (cO 2 [vR 28, vR 29, vI 0, vR 30, vR 31, vR 32, vI 0, vI 0, vI 0, vR 33, vR 34]) → h2.2 30 = some (cQ 5 7 (va_up (va_up (fun _ => none) 0 (some 35)) 1 (some 37))) → h2.2 28 = some (cI 6 z0) → h2.2 29 = some (cI 6 z0) → h2.2 31 = some (cI 8 z0) → h2.2 32 = some (cI 8 z0) → h2.2 33 = some (cI 8 z0) → h2.2 34 = some (cI 8 z0) → h2.2 35 = some (cO 5 [vR 36, vI 0]) → h2.2 36 = some (cI 8 z0) → h2.2 37 = some (cO 5 [vR 38, vI 0]) → h2.2 38 = some (cI 8 z0) → (∀ k, k < 27 ∨ 39 ≤ k → h2.2 k = h.2 k) → WP (mm_rw mr_8) none tb (WM tb (d + 1)) (QGinit h) 63 [(0, vR 27), (1, vI 2)] [] h2 10 50 := by
    intro h2 n1 a1 a2 p28 p29 p31 p32 p33 p34 q35 q36 q37 q38 fr
    (try simp only [Option.toList_some, Option.toList_none, List.nil_append, List.append_nil, List.cons_append, Nat.sub_zero, Nat.sub_self, Nat.zero_sub]); refine Go.wp [63, 81] 200 ?_; simp only [↓g8_0, ↓g8_1, ↓g8_4, ↓g8_5, ↓g8_7, ↓g8_9, ↓g8_12, ↓g8_13, ↓g8_15, ↓g8_17, ↓g8_20, ↓g8_21, ↓g8_23, ↓g8_26, ↓g8_29, ↓g8_30, ↓g8_32, ↓g8_34, ↓g8_37, ↓g8_38, ↓g8_40, ↓g8_42, ↓g8_45, ↓g8_46, ↓g8_48, ↓g8_50, ↓g8_53, ↓g8_54, ↓g8_56, ↓g8_58, ↓g8_61, ↓g8_62, ↓g8_63, ↓g8_64, ↓g8_66, ↓g8_69, ↓g8_70, ↓g8_73, ↓g8_74, ↓g8_77, ↓g8_78, ↓g8_81, ↓g8_82, ↓g8_85, ↓g8_88, cl_31, cn_0, cn_1, cn_2, cn_3, cn_4, cn_5, cn_6, cn_7, cn_8, ↓Go_s, ↓GoC_a, ↓reduceIte, ↓mm_call_eq, ↓mmw_nil, ↓mmw_cons, List.take_succ_cons, List.take_zero, List.take_nil, List.drop_succ_cons, List.drop_zero, List.drop_nil, List.reverse_cons, List.reverse_nil, List.nil_append, List.cons_append, List.append_nil, Option.toList_some, Option.toList_none, Nat.sub_zero, Nat.le_refl, mmr_cons, mm_st1, mm_st2, mmi_nil, mmi_cons, mmc_I, mmc_L, mmc_R, mmu_get, mmu_one, mma_get, mma_one, List.filter_cons, List.filter_nil, List.contains_cons, List.contains_nil, Nat.reduceBEq, Nat.reduceAdd, Nat.reduceLT, Nat.reduceSub, Nat.reduceLeDiff, Nat.reduceEqDiff, Int32.reduceAdd, Bool.not_true, Bool.not_false, Bool.and_true, Bool.true_and, Bool.and_false, Bool.false_and, Bool.or_false, Bool.false_or, Bool.or_true, Bool.true_or, if_true, if_false, ite_true, ite_false, Bool.false_eq_true, List.getElem?_cons_zero, List.getElem?_cons_succ, List.length_cons, List.length_nil, true_and, and_true, List.set_cons_zero, List.set_cons_succ, Fin.isValue, Fin.val_zero, Fin.val_one, Fin.val_two, Fin.reduceFinMk, Nat.zero_add, n1, a1, a2, df_5, nf_5, cl0, cl1, cl2, cl3, cl4, cl5, cl6, cl7, cl8, cl16, ft_2_0, ft_2_1, ft_2_10, ft_2_3, ft_2_4, ft_2_5, ft_2_9, nu_fitI, nu_fitL, nu_fitO, nu_fitA, nu_fitB0, nu_fitB1]
    refine ⟨fun z => absurd z (by decide), fun _ => ⟨1, 8, _, by decide, by decide, c_Rinit (d := d) (N := 40) (by simp only [mmu_get, mma_get, mma_one, mmu_one, n1, Nat.reduceAdd, Nat.reduceEqDiff, if_true, if_false, List.set_cons_zero, List.set_cons_succ, Nat.reduceLT]) (by simp only [mmu_get, mma_get, mma_one, mmu_one, n1, Nat.reduceAdd, Nat.reduceEqDiff, if_true, if_false, List.set_cons_zero, List.set_cons_succ, Nat.reduceLT]) (by omega), fun z h3 hz => ?_⟩⟩
    obtain ⟨rfl, m1, b1, b2, g3⟩ := hz
    have fk : ∀ k, k ≠ 39 → k ≠ 40 → h3.2 k = h2.2 k := fun k z1 z2 => by rw [g3 k z1 z2, mma_get, n1, if_neg z1]
    have x1 := (fk 27 (by omega) (by omega)).trans a1
    have x2 := (fk 30 (by omega) (by omega)).trans a2
    (try simp only [Option.toList_some, Option.toList_none, List.nil_append, List.append_nil, List.cons_append, Nat.sub_zero, Nat.sub_self, Nat.zero_sub]); refine Go.wp sp_8 200 ?_; simp only [↓g8_0, ↓g8_1, ↓g8_4, ↓g8_5, ↓g8_7, ↓g8_9, ↓g8_12, ↓g8_13, ↓g8_15, ↓g8_17, ↓g8_20, ↓g8_21, ↓g8_23, ↓g8_26, ↓g8_29, ↓g8_30, ↓g8_32, ↓g8_34, ↓g8_37, ↓g8_38, ↓g8_40, ↓g8_42, ↓g8_45, ↓g8_46, ↓g8_48, ↓g8_50, ↓g8_53, ↓g8_54, ↓g8_56, ↓g8_58, ↓g8_61, ↓g8_62, ↓g8_63, ↓g8_64, ↓g8_66, ↓g8_69, ↓g8_70, ↓g8_73, ↓g8_74, ↓g8_77, ↓g8_78, ↓g8_81, ↓g8_82, ↓g8_85, ↓g8_88, cl_31, cn_0, cn_1, cn_2, cn_3, cn_4, cn_5, cn_6, cn_7, cn_8, ↓Go_s, ↓GoC_a, ↓reduceIte, ↓mm_call_eq, ↓mmw_nil, ↓mmw_cons, List.take_succ_cons, List.take_zero, List.take_nil, List.drop_succ_cons, List.drop_zero, List.drop_nil, List.reverse_cons, List.reverse_nil, List.nil_append, List.cons_append, List.append_nil, Option.toList_some, Option.toList_none, Nat.sub_zero, Nat.le_refl, mmr_cons, mm_st1, mm_st2, mmi_nil, mmi_cons, mmc_I, mmc_L, mmc_R, mmu_get, mmu_one, mma_get, mma_one, List.filter_cons, List.filter_nil, List.contains_cons, List.contains_nil, Nat.reduceBEq, Nat.reduceAdd, Nat.reduceLT, Nat.reduceSub, Nat.reduceLeDiff, Nat.reduceEqDiff, Int32.reduceAdd, Bool.not_true, Bool.not_false, Bool.and_true, Bool.true_and, Bool.and_false, Bool.false_and, Bool.or_false, Bool.false_or, Bool.or_true, Bool.true_or, if_true, if_false, ite_true, ite_false, Bool.false_eq_true, List.getElem?_cons_zero, List.getElem?_cons_succ, List.length_cons, List.length_nil, true_and, and_true, List.set_cons_zero, List.set_cons_succ, Fin.isValue, Fin.val_zero, Fin.val_one, Fin.val_two, Fin.reduceFinMk, Nat.zero_add, m1, b1, x1, x2, cl0, cl1, cl2, cl3, cl4, cl5, cl6, cl7, cl8, cl16, or_true, or_false, true_or, false_or, ft_2_0, ft_2_1, ft_2_10, ft_2_3, ft_2_4, ft_2_5, ft_2_9, nu_fitI, nu_fitL, nu_fitO, nu_fitA, nu_fitB0, nu_fitB1]
    refine ⟨vp_in_nI (n := 2) (by omega) (by omega), k3 _ ?_ ?_ ?_ ?_ ?_ ?_ ?_ ?_ ?_ ?_ ?_ ?_ ?_ ?_ ?_ ?_⟩
    · rw [mmu_one]; exact m1
    · rw [mmu_get, if_neg (by omega)]; exact x1
    · rw [mmu_get, if_pos rfl]
    · rw [mmu_get, if_neg (by omega), fk 28 (by omega) (by omega)]; exact p28
    · rw [mmu_get, if_neg (by omega), fk 29 (by omega) (by omega)]; exact p29
    · rw [mmu_get, if_neg (by omega), fk 31 (by omega) (by omega)]; exact p31
    · rw [mmu_get, if_neg (by omega), fk 32 (by omega) (by omega)]; exact p32
    · rw [mmu_get, if_neg (by omega), fk 33 (by omega) (by omega)]; exact p33
    · rw [mmu_get, if_neg (by omega), fk 34 (by omega) (by omega)]; exact p34
    · rw [mmu_get, if_neg (by omega), fk 35 (by omega) (by omega)]; exact q35
    · rw [mmu_get, if_neg (by omega), fk 36 (by omega) (by omega)]; exact q36
    · rw [mmu_get, if_neg (by omega), fk 37 (by omega) (by omega)]; exact q37
    · rw [mmu_get, if_neg (by omega), fk 38 (by omega) (by omega)]; exact q38
    · rw [mmu_get, if_neg (by omega)]; exact b1
    · rw [mmu_get, if_neg (by omega)]; exact b2
    · intro k hk; rw [mmu_get, if_neg (by omega), fk k (by omega) (by omega)]; exact fr k (by omega)
  have k1 : ∀ h2 : AH, h2.1 = 37 → h2.2 27 = some (cO 2 [vR 28, vR 29, vI 0, vR 30, vR 31, vR 32, vI 0, vI 0, vI 0, vR 33, vR 34]) → h2.2 30 = some (cQ 5 7 (va_up (fun _ => none) 0 (some 35))) → h2.2 28 = some (cI 6 z0) → h2.2 29 = some (cI 6 z0) → h2.2 31 = some (cI 8 z0) → h2.2 32 = some (cI 8 z0) → h2.2 33 = some (cI 8 z0) → h2.2 34 = some (cI 8 z0) → h2.2 35 = some (cO 5 [vR 36, vI 0]) → h2.2 36 = some (cI 8 z0) → (∀ k, k < 27 ∨ 37 ≤ k → h2.2 k = h.2 k) → WP (mm_rw mr_8) none tb (WM tb (d + 1)) (QGinit h) 63 [(0, vR 27), (1, vI 1)] [] h2 12 60 := by
    intro h2 n1 a1 a2 p28 p29 p31 p32 p33 p34 q35 q36 fr
    (try simp only [Option.toList_some, Option.toList_none, List.nil_append, List.append_nil, List.cons_append, Nat.sub_zero, Nat.sub_self, Nat.zero_sub]); refine Go.wp [63, 81] 200 ?_; simp only [↓g8_0, ↓g8_1, ↓g8_4, ↓g8_5, ↓g8_7, ↓g8_9, ↓g8_12, ↓g8_13, ↓g8_15, ↓g8_17, ↓g8_20, ↓g8_21, ↓g8_23, ↓g8_26, ↓g8_29, ↓g8_30, ↓g8_32, ↓g8_34, ↓g8_37, ↓g8_38, ↓g8_40, ↓g8_42, ↓g8_45, ↓g8_46, ↓g8_48, ↓g8_50, ↓g8_53, ↓g8_54, ↓g8_56, ↓g8_58, ↓g8_61, ↓g8_62, ↓g8_63, ↓g8_64, ↓g8_66, ↓g8_69, ↓g8_70, ↓g8_73, ↓g8_74, ↓g8_77, ↓g8_78, ↓g8_81, ↓g8_82, ↓g8_85, ↓g8_88, cl_31, cn_0, cn_1, cn_2, cn_3, cn_4, cn_5, cn_6, cn_7, cn_8, ↓Go_s, ↓GoC_a, ↓reduceIte, ↓mm_call_eq, ↓mmw_nil, ↓mmw_cons, List.take_succ_cons, List.take_zero, List.take_nil, List.drop_succ_cons, List.drop_zero, List.drop_nil, List.reverse_cons, List.reverse_nil, List.nil_append, List.cons_append, List.append_nil, Option.toList_some, Option.toList_none, Nat.sub_zero, Nat.le_refl, mmr_cons, mm_st1, mm_st2, mmi_nil, mmi_cons, mmc_I, mmc_L, mmc_R, mmu_get, mmu_one, mma_get, mma_one, List.filter_cons, List.filter_nil, List.contains_cons, List.contains_nil, Nat.reduceBEq, Nat.reduceAdd, Nat.reduceLT, Nat.reduceSub, Nat.reduceLeDiff, Nat.reduceEqDiff, Int32.reduceAdd, Bool.not_true, Bool.not_false, Bool.and_true, Bool.true_and, Bool.and_false, Bool.false_and, Bool.or_false, Bool.false_or, Bool.or_true, Bool.true_or, if_true, if_false, ite_true, ite_false, Bool.false_eq_true, List.getElem?_cons_zero, List.getElem?_cons_succ, List.length_cons, List.length_nil, true_and, and_true, List.set_cons_zero, List.set_cons_succ, Fin.isValue, Fin.val_zero, Fin.val_one, Fin.val_two, Fin.reduceFinMk, Nat.zero_add, n1, a1, a2, df_5, nf_5, cl0, cl1, cl2, cl3, cl4, cl5, cl6, cl7, cl8, cl16, ft_2_0, ft_2_1, ft_2_10, ft_2_3, ft_2_4, ft_2_5, ft_2_9, nu_fitI, nu_fitL, nu_fitO, nu_fitA, nu_fitB0, nu_fitB1]
    refine ⟨fun z => absurd z (by decide), fun _ => ⟨1, 8, _, by decide, by decide, c_Rinit (d := d) (N := 38) (by simp only [mmu_get, mma_get, mma_one, mmu_one, n1, Nat.reduceAdd, Nat.reduceEqDiff, if_true, if_false, List.set_cons_zero, List.set_cons_succ, Nat.reduceLT]) (by simp only [mmu_get, mma_get, mma_one, mmu_one, n1, Nat.reduceAdd, Nat.reduceEqDiff, if_true, if_false, List.set_cons_zero, List.set_cons_succ, Nat.reduceLT]) (by omega), fun z h3 hz => ?_⟩⟩
    obtain ⟨rfl, m1, b1, b2, g3⟩ := hz
    have fk : ∀ k, k ≠ 37 → k ≠ 38 → h3.2 k = h2.2 k := fun k z1 z2 => by rw [g3 k z1 z2, mma_get, n1, if_neg z1]
    have x1 := (fk 27 (by omega) (by omega)).trans a1
    have x2 := (fk 30 (by omega) (by omega)).trans a2
    (try simp only [Option.toList_some, Option.toList_none, List.nil_append, List.append_nil, List.cons_append, Nat.sub_zero, Nat.sub_self, Nat.zero_sub]); refine Go.wp sp_8 200 ?_; simp only [↓g8_0, ↓g8_1, ↓g8_4, ↓g8_5, ↓g8_7, ↓g8_9, ↓g8_12, ↓g8_13, ↓g8_15, ↓g8_17, ↓g8_20, ↓g8_21, ↓g8_23, ↓g8_26, ↓g8_29, ↓g8_30, ↓g8_32, ↓g8_34, ↓g8_37, ↓g8_38, ↓g8_40, ↓g8_42, ↓g8_45, ↓g8_46, ↓g8_48, ↓g8_50, ↓g8_53, ↓g8_54, ↓g8_56, ↓g8_58, ↓g8_61, ↓g8_62, ↓g8_63, ↓g8_64, ↓g8_66, ↓g8_69, ↓g8_70, ↓g8_73, ↓g8_74, ↓g8_77, ↓g8_78, ↓g8_81, ↓g8_82, ↓g8_85, ↓g8_88, cl_31, cn_0, cn_1, cn_2, cn_3, cn_4, cn_5, cn_6, cn_7, cn_8, ↓Go_s, ↓GoC_a, ↓reduceIte, ↓mm_call_eq, ↓mmw_nil, ↓mmw_cons, List.take_succ_cons, List.take_zero, List.take_nil, List.drop_succ_cons, List.drop_zero, List.drop_nil, List.reverse_cons, List.reverse_nil, List.nil_append, List.cons_append, List.append_nil, Option.toList_some, Option.toList_none, Nat.sub_zero, Nat.le_refl, mmr_cons, mm_st1, mm_st2, mmi_nil, mmi_cons, mmc_I, mmc_L, mmc_R, mmu_get, mmu_one, mma_get, mma_one, List.filter_cons, List.filter_nil, List.contains_cons, List.contains_nil, Nat.reduceBEq, Nat.reduceAdd, Nat.reduceLT, Nat.reduceSub, Nat.reduceLeDiff, Nat.reduceEqDiff, Int32.reduceAdd, Bool.not_true, Bool.not_false, Bool.and_true, Bool.true_and, Bool.and_false, Bool.false_and, Bool.or_false, Bool.false_or, Bool.or_true, Bool.true_or, if_true, if_false, ite_true, ite_false, Bool.false_eq_true, List.getElem?_cons_zero, List.getElem?_cons_succ, List.length_cons, List.length_nil, true_and, and_true, List.set_cons_zero, List.set_cons_succ, Fin.isValue, Fin.val_zero, Fin.val_one, Fin.val_two, Fin.reduceFinMk, Nat.zero_add, m1, b1, x1, x2, cl0, cl1, cl2, cl3, cl4, cl5, cl6, cl7, cl8, cl16, or_true, or_false, true_or, false_or, ft_2_0, ft_2_1, ft_2_10, ft_2_3, ft_2_4, ft_2_5, ft_2_9, nu_fitI, nu_fitL, nu_fitO, nu_fitA, nu_fitB0, nu_fitB1]
    refine ⟨vp_in_nI (n := 1) (by omega) (by omega), k2 _ ?_ ?_ ?_ ?_ ?_ ?_ ?_ ?_ ?_ ?_ ?_ ?_ ?_ ?_⟩
    · rw [mmu_one]; exact m1
    · rw [mmu_get, if_neg (by omega)]; exact x1
    · rw [mmu_get, if_pos rfl]
    · rw [mmu_get, if_neg (by omega), fk 28 (by omega) (by omega)]; exact p28
    · rw [mmu_get, if_neg (by omega), fk 29 (by omega) (by omega)]; exact p29
    · rw [mmu_get, if_neg (by omega), fk 31 (by omega) (by omega)]; exact p31
    · rw [mmu_get, if_neg (by omega), fk 32 (by omega) (by omega)]; exact p32
    · rw [mmu_get, if_neg (by omega), fk 33 (by omega) (by omega)]; exact p33
    · rw [mmu_get, if_neg (by omega), fk 34 (by omega) (by omega)]; exact p34
    · rw [mmu_get, if_neg (by omega), fk 35 (by omega) (by omega)]; exact q35
    · rw [mmu_get, if_neg (by omega), fk 36 (by omega) (by omega)]; exact q36
    · rw [mmu_get, if_neg (by omega)]; exact b1
    · rw [mmu_get, if_neg (by omega)]; exact b2
    · intro k hk; rw [mmu_get, if_neg (by omega), fk k (by omega) (by omega)]; exact fr k (by omega)
  have k0 : ∀ h2 : AH, h2.1 = 35 → h2.2 27 = some (cO 2 [vR 28, vR 29, vI 0, vR 30, vR 31, vR 32, vI 0, vI 0, vI 0, vR 33, vR 34]) → h2.2 30 = some (cQ 5 7 (fun _ => none)) → h2.2 28 = some (cI 6 z0) → h2.2 29 = some (cI 6 z0) → h2.2 31 = some (cI 8 z0) → h2.2 32 = some (cI 8 z0) → h2.2 33 = some (cI 8 z0) → h2.2 34 = some (cI 8 z0) → (∀ k, k < 27 ∨ 35 ≤ k → h2.2 k = h.2 k) → WP (mm_rw mr_8) none tb (WM tb (d + 1)) (QGinit h) 63 [(0, vR 27), (1, vI 0)] [] h2 14 70 := by
    intro h2 n1 a1 a2 p28 p29 p31 p32 p33 p34 fr
    (try simp only [Option.toList_some, Option.toList_none, List.nil_append, List.append_nil, List.cons_append, Nat.sub_zero, Nat.sub_self, Nat.zero_sub]); refine Go.wp [63, 81] 200 ?_; simp only [↓g8_0, ↓g8_1, ↓g8_4, ↓g8_5, ↓g8_7, ↓g8_9, ↓g8_12, ↓g8_13, ↓g8_15, ↓g8_17, ↓g8_20, ↓g8_21, ↓g8_23, ↓g8_26, ↓g8_29, ↓g8_30, ↓g8_32, ↓g8_34, ↓g8_37, ↓g8_38, ↓g8_40, ↓g8_42, ↓g8_45, ↓g8_46, ↓g8_48, ↓g8_50, ↓g8_53, ↓g8_54, ↓g8_56, ↓g8_58, ↓g8_61, ↓g8_62, ↓g8_63, ↓g8_64, ↓g8_66, ↓g8_69, ↓g8_70, ↓g8_73, ↓g8_74, ↓g8_77, ↓g8_78, ↓g8_81, ↓g8_82, ↓g8_85, ↓g8_88, cl_31, cn_0, cn_1, cn_2, cn_3, cn_4, cn_5, cn_6, cn_7, cn_8, ↓Go_s, ↓GoC_a, ↓reduceIte, ↓mm_call_eq, ↓mmw_nil, ↓mmw_cons, List.take_succ_cons, List.take_zero, List.take_nil, List.drop_succ_cons, List.drop_zero, List.drop_nil, List.reverse_cons, List.reverse_nil, List.nil_append, List.cons_append, List.append_nil, Option.toList_some, Option.toList_none, Nat.sub_zero, Nat.le_refl, mmr_cons, mm_st1, mm_st2, mmi_nil, mmi_cons, mmc_I, mmc_L, mmc_R, mmu_get, mmu_one, mma_get, mma_one, List.filter_cons, List.filter_nil, List.contains_cons, List.contains_nil, Nat.reduceBEq, Nat.reduceAdd, Nat.reduceLT, Nat.reduceSub, Nat.reduceLeDiff, Nat.reduceEqDiff, Int32.reduceAdd, Bool.not_true, Bool.not_false, Bool.and_true, Bool.true_and, Bool.and_false, Bool.false_and, Bool.or_false, Bool.false_or, Bool.or_true, Bool.true_or, if_true, if_false, ite_true, ite_false, Bool.false_eq_true, List.getElem?_cons_zero, List.getElem?_cons_succ, List.length_cons, List.length_nil, true_and, and_true, List.set_cons_zero, List.set_cons_succ, Fin.isValue, Fin.val_zero, Fin.val_one, Fin.val_two, Fin.reduceFinMk, Nat.zero_add, n1, a1, a2, df_5, nf_5, cl0, cl1, cl2, cl3, cl4, cl5, cl6, cl7, cl8, cl16, ft_2_0, ft_2_1, ft_2_10, ft_2_3, ft_2_4, ft_2_5, ft_2_9, nu_fitI, nu_fitL, nu_fitO, nu_fitA, nu_fitB0, nu_fitB1]
    refine ⟨fun z => absurd z (by decide), fun _ => ⟨1, 8, _, by decide, by decide, c_Rinit (d := d) (N := 36) (by simp only [mmu_get, mma_get, mma_one, mmu_one, n1, Nat.reduceAdd, Nat.reduceEqDiff, if_true, if_false, List.set_cons_zero, List.set_cons_succ, Nat.reduceLT]) (by simp only [mmu_get, mma_get, mma_one, mmu_one, n1, Nat.reduceAdd, Nat.reduceEqDiff, if_true, if_false, List.set_cons_zero, List.set_cons_succ, Nat.reduceLT]) (by omega), fun z h3 hz => ?_⟩⟩
    obtain ⟨rfl, m1, b1, b2, g3⟩ := hz
    have fk : ∀ k, k ≠ 35 → k ≠ 36 → h3.2 k = h2.2 k := fun k z1 z2 => by rw [g3 k z1 z2, mma_get, n1, if_neg z1]
    have x1 := (fk 27 (by omega) (by omega)).trans a1
    have x2 := (fk 30 (by omega) (by omega)).trans a2
    (try simp only [Option.toList_some, Option.toList_none, List.nil_append, List.append_nil, List.cons_append, Nat.sub_zero, Nat.sub_self, Nat.zero_sub]); refine Go.wp sp_8 200 ?_; simp only [↓g8_0, ↓g8_1, ↓g8_4, ↓g8_5, ↓g8_7, ↓g8_9, ↓g8_12, ↓g8_13, ↓g8_15, ↓g8_17, ↓g8_20, ↓g8_21, ↓g8_23, ↓g8_26, ↓g8_29, ↓g8_30, ↓g8_32, ↓g8_34, ↓g8_37, ↓g8_38, ↓g8_40, ↓g8_42, ↓g8_45, ↓g8_46, ↓g8_48, ↓g8_50, ↓g8_53, ↓g8_54, ↓g8_56, ↓g8_58, ↓g8_61, ↓g8_62, ↓g8_63, ↓g8_64, ↓g8_66, ↓g8_69, ↓g8_70, ↓g8_73, ↓g8_74, ↓g8_77, ↓g8_78, ↓g8_81, ↓g8_82, ↓g8_85, ↓g8_88, cl_31, cn_0, cn_1, cn_2, cn_3, cn_4, cn_5, cn_6, cn_7, cn_8, ↓Go_s, ↓GoC_a, ↓reduceIte, ↓mm_call_eq, ↓mmw_nil, ↓mmw_cons, List.take_succ_cons, List.take_zero, List.take_nil, List.drop_succ_cons, List.drop_zero, List.drop_nil, List.reverse_cons, List.reverse_nil, List.nil_append, List.cons_append, List.append_nil, Option.toList_some, Option.toList_none, Nat.sub_zero, Nat.le_refl, mmr_cons, mm_st1, mm_st2, mmi_nil, mmi_cons, mmc_I, mmc_L, mmc_R, mmu_get, mmu_one, mma_get, mma_one, List.filter_cons, List.filter_nil, List.contains_cons, List.contains_nil, Nat.reduceBEq, Nat.reduceAdd, Nat.reduceLT, Nat.reduceSub, Nat.reduceLeDiff, Nat.reduceEqDiff, Int32.reduceAdd, Bool.not_true, Bool.not_false, Bool.and_true, Bool.true_and, Bool.and_false, Bool.false_and, Bool.or_false, Bool.false_or, Bool.or_true, Bool.true_or, if_true, if_false, ite_true, ite_false, Bool.false_eq_true, List.getElem?_cons_zero, List.getElem?_cons_succ, List.length_cons, List.length_nil, true_and, and_true, List.set_cons_zero, List.set_cons_succ, Fin.isValue, Fin.val_zero, Fin.val_one, Fin.val_two, Fin.reduceFinMk, Nat.zero_add, m1, b1, x1, x2, cl0, cl1, cl2, cl3, cl4, cl5, cl6, cl7, cl8, cl16, or_true, or_false, true_or, false_or, ft_2_0, ft_2_1, ft_2_10, ft_2_3, ft_2_4, ft_2_5, ft_2_9, nu_fitI, nu_fitL, nu_fitO, nu_fitA, nu_fitB0, nu_fitB1]
    refine ⟨vp_in_nI (n := 0) (by omega) (by omega), k1 _ ?_ ?_ ?_ ?_ ?_ ?_ ?_ ?_ ?_ ?_ ?_ ?_⟩
    · rw [mmu_one]; exact m1
    · rw [mmu_get, if_neg (by omega)]; exact x1
    · rw [mmu_get, if_pos rfl]
    · rw [mmu_get, if_neg (by omega), fk 28 (by omega) (by omega)]; exact p28
    · rw [mmu_get, if_neg (by omega), fk 29 (by omega) (by omega)]; exact p29
    · rw [mmu_get, if_neg (by omega), fk 31 (by omega) (by omega)]; exact p31
    · rw [mmu_get, if_neg (by omega), fk 32 (by omega) (by omega)]; exact p32
    · rw [mmu_get, if_neg (by omega), fk 33 (by omega) (by omega)]; exact p33
    · rw [mmu_get, if_neg (by omega), fk 34 (by omega) (by omega)]; exact p34
    · rw [mmu_get, if_neg (by omega)]; exact b1
    · rw [mmu_get, if_neg (by omega)]; exact b2
    · intro k hk; rw [mmu_get, if_neg (by omega), fk k (by omega) (by omega)]; exact fr k (by omega)
  refine WM.of mi_8 rfl rfl (Nat.le_of_ble_eq_true rfl) ?_
  show WP (mm_rw mr_8) none tb (WM tb (d + 1)) _ 0 [(0, vR 27)] [] h 21 121
  (try simp only [Option.toList_some, Option.toList_none, List.nil_append, List.append_nil, List.cons_append, Nat.sub_zero, Nat.sub_self, Nat.zero_sub]); refine Go.wp sp_8 200 ?_; simp only [↓g8_0, ↓g8_1, ↓g8_4, ↓g8_5, ↓g8_7, ↓g8_9, ↓g8_12, ↓g8_13, ↓g8_15, ↓g8_17, ↓g8_20, ↓g8_21, ↓g8_23, ↓g8_26, ↓g8_29, ↓g8_30, ↓g8_32, ↓g8_34, ↓g8_37, ↓g8_38, ↓g8_40, ↓g8_42, ↓g8_45, ↓g8_46, ↓g8_48, ↓g8_50, ↓g8_53, ↓g8_54, ↓g8_56, ↓g8_58, ↓g8_61, ↓g8_62, ↓g8_63, ↓g8_64, ↓g8_66, ↓g8_69, ↓g8_70, ↓g8_73, ↓g8_74, ↓g8_77, ↓g8_78, ↓g8_81, ↓g8_82, ↓g8_85, ↓g8_88, cl_31, cn_0, cn_1, cn_2, cn_3, cn_4, cn_5, cn_6, cn_7, cn_8, ↓Go_s, ↓GoC_a, ↓reduceIte, ↓mm_call_eq, ↓mmw_nil, ↓mmw_cons, List.take_succ_cons, List.take_zero, List.take_nil, List.drop_succ_cons, List.drop_zero, List.drop_nil, List.reverse_cons, List.reverse_nil, List.nil_append, List.cons_append, List.append_nil, Option.toList_some, Option.toList_none, Nat.sub_zero, Nat.le_refl, mmr_cons, mm_st1, mm_st2, mmi_nil, mmi_cons, mmc_I, mmc_L, mmc_R, mmu_get, mmu_one, mma_get, mma_one, List.filter_cons, List.filter_nil, List.contains_cons, List.contains_nil, Nat.reduceBEq, Nat.reduceAdd, Nat.reduceLT, Nat.reduceSub, Nat.reduceLeDiff, Nat.reduceEqDiff, Int32.reduceAdd, Bool.not_true, Bool.not_false, Bool.and_true, Bool.true_and, Bool.and_false, Bool.false_and, Bool.or_false, Bool.false_or, Bool.or_true, Bool.true_or, if_true, if_false, ite_true, ite_false, Bool.false_eq_true, List.getElem?_cons_zero, List.getElem?_cons_succ, List.length_cons, List.length_nil, true_and, and_true, List.set_cons_zero, List.set_cons_succ, Fin.isValue, Fin.val_zero, Fin.val_one, Fin.val_two, Fin.reduceFinMk, Nat.zero_add, h1, hr, cl0, cl1, cl2, cl3, cl4, cl5, cl6, cl7, cl8, cl16, ft_2_0, ft_2_1, ft_2_10, ft_2_3, ft_2_4, ft_2_5, ft_2_9, nu_fitI, nu_fitL, nu_fitO, nu_fitA, nu_fitB0, nu_fitB1]
  refine ⟨by decide, by decide, by decide, by decide, by decide, by decide, by decide, k0 _ ?_ ?_ ?_ ?_ ?_ ?_ ?_ ?_ ?_ ?_⟩
  · simp only [mmu_one, mma_one, h1, Nat.reduceAdd]
  · simp only [mmu_get, mma_get, mma_one, mmu_one, h1, Nat.reduceAdd, Nat.reduceEqDiff, if_true, if_false]
  · simp only [mmu_get, mma_get, mma_one, mmu_one, h1, Nat.reduceAdd, Nat.reduceEqDiff, if_true, if_false]
  · simp only [mmu_get, mma_get, mma_one, mmu_one, h1, Nat.reduceAdd, Nat.reduceEqDiff, if_true, if_false]
  · simp only [mmu_get, mma_get, mma_one, mmu_one, h1, Nat.reduceAdd, Nat.reduceEqDiff, if_true, if_false]
  · simp only [mmu_get, mma_get, mma_one, mmu_one, h1, Nat.reduceAdd, Nat.reduceEqDiff, if_true, if_false]
  · simp only [mmu_get, mma_get, mma_one, mmu_one, h1, Nat.reduceAdd, Nat.reduceEqDiff, if_true, if_false]
  · simp only [mmu_get, mma_get, mma_one, mmu_one, h1, Nat.reduceAdd, Nat.reduceEqDiff, if_true, if_false]
  · simp only [mmu_get, mma_get, mma_one, mmu_one, h1, Nat.reduceAdd, Nat.reduceEqDiff, if_true, if_false]
  · intro k hk; simp only [mmu_get, mma_get, mma_one, mmu_one, h1, Nat.reduceAdd, if_neg (show ¬ k = 27 by omega), if_neg (show ¬ k = 30 by omega), if_neg (show ¬ k = 28 by omega), if_neg (show ¬ k = 29 by omega), if_neg (show ¬ k = 31 by omega), if_neg (show ¬ k = 32 by omega), if_neg (show ¬ k = 33 by omega), if_neg (show ¬ k = 34 by omega)]

/-- what the constructor leaves -/
def QLinit (h : AH) : AQ := (fun z h' => z = none ∧ h'.1 = 63 ∧ h'.2 49 = some (cO 3 [vR 50, vR 51, vR 52, vI 0]) ∧ h'.2 50 = some (cQ 5 5 (va_up (va_up (va_up (va_up (va_up (fun _ => none) 0 (some 53)) 1 (some 55)) 2 (some 57)) 3 (some 59)) 4 (some 61))) ∧ h'.2 51 = some (cI 4 z0) ∧ h'.2 52 = some (cI 4 z0) ∧ h'.2 53 = some (cO 5 [vR 54, vI 0]) ∧ h'.2 54 = some (cI 8 z0) ∧ h'.2 55 = some (cO 5 [vR 56, vI 0]) ∧ h'.2 56 = some (cI 8 z0) ∧ h'.2 57 = some (cO 5 [vR 58, vI 0]) ∧ h'.2 58 = some (cI 8 z0) ∧ h'.2 59 = some (cO 5 [vR 60, vI 0]) ∧ h'.2 60 = some (cI 8 z0) ∧ h'.2 61 = some (cO 5 [vR 62, vI 0]) ∧ h'.2 62 = some (cI 8 z0) ∧ ∀ k, k < 49 ∨ 63 ≤ k → h'.2 k = h.2 k)
theorem C_Linit {h : AH} (h1 : h.1 = 50) (hr : h.2 49 = some (cO 3 [vN, vN, vN, vI 0])) : WM tb (d + 2) k_Line_init [vR 49] h 13 63 (QLinit h) := by
  have k5 : ∀ h2 : AH, h2.1 = 63 → h2.2 49 = some (cO 3 [vR 50, vR 51, vR 52, vI 0]) → h2.2 50 = some (cQ 5 5 (va_up (va_up (va_up (va_up (va_up (fun _ => none) 0 (some 53)) 1 (some 55)) 2 (some 57)) 3 (some 59)) 4 (some 61))) → h2.2 51 = some (cI 4 z0) → h2.2 52 = some (cI 4 z0) → h2.2 53 = some (cO 5 [vR 54, vI 0]) → h2.2 54 = some (cI 8 z0) → h2.2 55 = some (cO 5 [vR 56, vI 0]) → h2.2 56 = some (cI 8 z0) → h2.2 57 = some (cO 5 [vR 58, vI 0]) → h2.2 58 = some (cI 8 z0) → h2.2 59 = some (cO 5 [vR 60, vI 0]) → h2.2 60 = some (cI 8 z0) → h2.2 61 = some (cO 5 [vR 62, vI 0]) → h2.2 62 = some (cI 8 z0) → (∀ k, k < 49 ∨ 63 ≤ k → h2.2 k = h.2 k) → WP (mm_rw mr_19) none tb (WM tb (d + 1)) (QLinit h) 28 [(0, vR 49), (1, vI 5)] [] h2 0 0 := by
    intro h2 n1 a1 a2 p51 p52 q53 q54 q55 q56 q57 q58 q59 q60 q61 q62 fr
    (try simp only [Option.toList_some, Option.toList_none, List.nil_append, List.append_nil, List.cons_append, Nat.sub_zero, Nat.sub_self, Nat.zero_sub]); refine Go.wp sp_19 200 ?_; simp only [↓g19_0, ↓g19_1, ↓g19_4, ↓g19_5, ↓g19_6, ↓g19_9, ↓g19_12, ↓g19_13, ↓g19_14, ↓g19_16, ↓g19_19, ↓g19_20, ↓g19_21, ↓g19_23, ↓g19_26, ↓g19_27, ↓g19_28, ↓g19_29, ↓g19_30, ↓g19_33, ↓g19_34, ↓g19_37, ↓g19_38, ↓g19_41, ↓g19_42, ↓g19_45, ↓g19_46, ↓g19_49, ↓g19_52, cl_31, cn_0, cn_1, cn_2, cn_3, cn_4, cn_5, cn_6, cn_7, cn_8, ↓Go_s, ↓GoC_a, ↓reduceIte, ↓mm_call_eq, ↓mmw_nil, ↓mmw_cons, List.take_succ_cons, List.take_zero, List.take_nil, List.drop_succ_cons, List.drop_zero, List.drop_nil, List.reverse_cons, List.reverse_nil, List.nil_append, List.cons_append, List.append_nil, Option.toList_some, Option.toList_none, Nat.sub_zero, Nat.le_refl, mmr_cons, mm_st1, mm_st2, mmi_nil, mmi_cons, mmc_I, mmc_L, mmc_R, mmu_get, mmu_one, mma_get, mma_one, List.filter_cons, List.filter_nil, List.contains_cons, List.contains_nil, Nat.reduceBEq, Nat.reduceAdd, Nat.reduceLT, Nat.reduceSub, Nat.reduceLeDiff, Nat.reduceEqDiff, Int32.reduceAdd, Bool.not_true, Bool.not_false, Bool.and_true, Bool.true_and, Bool.and_false, Bool.false_and, Bool.or_false, Bool.false_or, Bool.or_true, Bool.true_or, if_true, if_false, ite_true, ite_false, Bool.false_eq_true, List.getElem?_cons_zero, List.getElem?_cons_succ, List.length_cons, List.length_nil, true_and, and_true, List.set_cons_zero, List.set_cons_succ, Fin.isValue, Fin.val_zero, Fin.val_one, Fin.val_two, Fin.reduceFinMk, Nat.zero_add, n1, a1, a2, ft_3_0, ft_3_1, ft_3_2, nu_fitI, nu_fitL, nu_fitO, nu_fitA, nu_fitB0, nu_fitB1]
    exact ⟨fun _ => ⟨rfl, n1, a1, a2, p51, p52, q53, q54, q55, q56, q57, q58, q59, q60, q61, q62, fr⟩, fun z => absurd (by decide) z⟩
  have k4 : ∀ h2 : AH, h2.1 = 61 → h2.2 49 = some (cO 3 [vR 50, vR 51, vR 52, vI 0]) → h2.2 50 = some (cQ 5 5 (va_up (va_up (va_up (va_up (fun _ => none) 0 (some 53)) 1 (some 55)) 2 (some 57)) 3 (some 59))) → h2.2 51 = some (cI 4 z0) → h2.2 52 = some (cI 4 z0) → h2.2 53 = some (cO 5 [vR 54, vI 0]) → h2.2 54 = some (cI 8 z0) → h2.2 55 = some (cO 5 [vR 56, vI 0]) → h2.2 56 = some (cI 8 z0) → h2.2 57 = some (cO 5 [vR 58, vI 0]) → h2.2 58 = some (cI 8 z0) → h2.2 59 = some (cO 5 [vR 60, vI 0]) → h2.2 60 = some (cI 8 z0) → (∀ k, k < 49 ∨ 61 ≤ k → h2.2 k = h.2 k) → WP (mm_rw mr_19) none tb (WM tb (d + 1)) (QLinit h) 28 [(0, vR 49), (1, vI 4)] [] h2 2 10 := by
    intro h2 n1 a1 a2 p51 p52 q53 q54 q55 q56 q57 q58 q59 q60 fr
    (try simp only [Option.toList_some, Option.toList_none, List.nil_append, List.append_nil, List.cons_append, Nat.sub_zero, Nat.sub_self, Nat.zero_sub]); refine Go.wp [28, 45] 200 ?_; simp only [↓g19_0, ↓g19_1, ↓g19_4, ↓g19_5, ↓g19_6, ↓g19_9, ↓g19_12, ↓g19_13, ↓g19_14, ↓g19_16, ↓g19_19, ↓g19_20, ↓g19_21, ↓g19_23, ↓g19_26, ↓g19_27, ↓g19_28, ↓g19_29, ↓g19_30, ↓g19_33, ↓g19_34, ↓g19_37, ↓g19_38, ↓g19_41, ↓g19_42, ↓g19_45, ↓g19_46, ↓g19_49, ↓g19_52, cl_31, cn_0, cn_1, cn_2, cn_3, cn_4, cn_5, cn_6, cn_7, cn_8, ↓Go_s, ↓GoC_a, ↓reduceIte, ↓mm_call_eq, ↓mmw_nil, ↓mmw_cons, List.take_succ_cons, List.take_zero, List.take_nil, List.drop_succ_cons, List.drop_zero, List.drop_nil, List.reverse_cons, List.reverse_nil, List.nil_append, List.cons_append, List.append_nil, Option.toList_some, Option.toList_none, Nat.sub_zero, Nat.le_refl, mmr_cons, mm_st1, mm_st2, mmi_nil, mmi_cons, mmc_I, mmc_L, mmc_R, mmu_get, mmu_one, mma_get, mma_one, List.filter_cons, List.filter_nil, List.contains_cons, List.contains_nil, Nat.reduceBEq, Nat.reduceAdd, Nat.reduceLT, Nat.reduceSub, Nat.reduceLeDiff, Nat.reduceEqDiff, Int32.reduceAdd, Bool.not_true, Bool.not_false, Bool.and_true, Bool.true_and, Bool.and_false, Bool.false_and, Bool.or_false, Bool.false_or, Bool.or_true, Bool.true_or, if_true, if_false, ite_true, ite_false, Bool.false_eq_true, List.getElem?_cons_zero, List.getElem?_cons_succ, List.length_cons, List.length_nil, true_and, and_true, List.set_cons_zero, List.set_cons_succ, Fin.isValue, Fin.val_zero, Fin.val_one, Fin.val_two, Fin.reduceFinMk, Nat.zero_add, n1, a1, a2, df_5, nf_5, cl0, cl1, cl2, cl3, cl4, cl5, cl6, cl7, cl8, cl16, ft_3_0, ft_3_1, ft_3_2, nu_fitI, nu_fitL, nu_fitO, nu_fitA, nu_fitB0, nu_fitB1]
    refine ⟨fun z => absurd z (by decide), fun _ => ⟨1, 8, _, by decide, by decide, c_Rinit (d := d) (N := 62) (by simp only [mmu_get, mma_get, mma_one, mmu_one, n1, Nat.reduceAdd, Nat.reduceEqDiff, if_true, if_false, List.set_cons_zero, List.set_cons_succ, Nat.reduceLT]) (by simp only [mmu_get, mma_get, mma_one, mmu_one, n1, Nat.reduceAdd, Nat.reduceEqDiff, if_true, if_false, List.set_cons_zero, List.set_cons_succ, Nat.reduceLT]) (by omega), fun z h3 hz => ?_⟩⟩
    obtain ⟨rfl, m1, b1, b2, g3⟩ := hz
    have fk : ∀ k, k ≠ 61 → k ≠ 62 → h3.2 k = h2.2 k := fun k z1 z2 => by rw [g3 k z1 z2, mma_get, n1, if_neg z1]
    have x1 := (fk 49 (by omega) (by omega)).trans a1
    have x2 := (fk 50 (by omega) (by omega)).trans a2
    (try simp only [Option.toList_some, Option.toList_none, List.nil_append, List.append_nil, List.cons_append, Nat.sub_zero, Nat.sub_self, Nat.zero_sub]); refine Go.wp sp_19 200 ?_; simp only [↓g19_0, ↓g19_1, ↓g19_4, ↓g19_5, ↓g19_6, ↓g19_9, ↓g19_12, ↓g19_13, ↓g19_14, ↓g19_16, ↓g19_19, ↓g19_20, ↓g19_21, ↓g19_23, ↓g19_26, ↓g19_27, ↓g19_28, ↓g19_29, ↓g19_30, ↓g19_33, ↓g19_34, ↓g19_37, ↓g19_38, ↓g19_41, ↓g19_42, ↓g19_45, ↓g19_46, ↓g19_49, ↓g19_52, cl_31, cn_0, cn_1, cn_2, cn_3, cn_4, cn_5, cn_6, cn_7, cn_8, ↓Go_s, ↓GoC_a, ↓reduceIte, ↓mm_call_eq, ↓mmw_nil, ↓mmw_cons, List.take_succ_cons, List.take_zero, List.take_nil, List.drop_succ_cons, List.drop_zero, List.drop_nil, List.reverse_cons, List.reverse_nil, List.nil_append, List.cons_append, List.append_nil, Option.toList_some, Option.toList_none, Nat.sub_zero, Nat.le_refl, mmr_cons, mm_st1, mm_st2, mmi_nil, mmi_cons, mmc_I, mmc_L, mmc_R, mmu_get, mmu_one, mma_get, mma_one, List.filter_cons, List.filter_nil, List.contains_cons, List.contains_nil, Nat.reduceBEq, Nat.reduceAdd, Nat.reduceLT, Nat.reduceSub, Nat.reduceLeDiff, Nat.reduceEqDiff, Int32.reduceAdd, Bool.not_true, Bool.not_false, Bool.and_true, Bool.true_and, Bool.and_false, Bool.false_and, Bool.or_false, Bool.false_or, Bool.or_true, Bool.true_or, if_true, if_false, ite_true, ite_false, Bool.false_eq_true, List.getElem?_cons_zero, List.getElem?_cons_succ, List.length_cons, List.length_nil, true_and, and_true, List.set_cons_zero, List.set_cons_succ, Fin.isValue, Fin.val_zero, Fin.val_one, Fin.val_two, Fin.reduceFinMk, Nat.zero_add, m1, b1, x1, x2, cl0, cl1, cl2, cl3, cl4, cl5, cl6, cl7, cl8, cl16, or_true, or_false, true_or, false_or, ft_3_0, ft_3_1, ft_3_2, nu_fitI, nu_fitL, nu_fitO, nu_fitA, nu_fitB0, nu_fitB1]
    refine ⟨vp_in_nI (n := 4) (by omega) (by omega), k5 _ ?_ ?_ ?_ ?_ ?_ ?_ ?_ ?_ ?_ ?_ ?_ ?_ ?_ ?_ ?_ ?_⟩
    · rw [mmu_one]; exact m1
    · rw [mmu_get, if_neg (by omega)]; exact x1
    · rw [mmu_get, if_pos rfl]
    · rw [mmu_get, if_neg (by omega), fk 51 (by omega) (by omega)]; exact p51
    · rw [mmu_get, if_neg (by omega), fk 52 (by omega) (by omega)]; exact p52
    · rw [mmu_get, if_neg (by omega), fk 53 (by omega) (by omega)]; exact q53
    · rw [mmu_get, if_neg (by omega), fk 54 (by omega) (by omega)]; exact q54
    · rw [mmu_get, if_neg (by omega), fk 55 (by omega) (by omega)]; exact q55
    · rw [mmu_get, if_neg (by omega), fk 56 (by omega) (by omega)]; exact q56
    · rw [mmu_get, if_neg (by omega), fk 57 (by omega) (by omega)]; exact q57
    · rw [mmu_get, if_neg (by omega), fk 58 (by omega) (by omega)]; exact q58
    · rw [mmu_get, if_neg (by omega), fk 59 (by omega) (by omega)]; exact q59
    · rw [mmu_get, if_neg (by omega), fk 60 (by omega) (by omega)]; exact q60
    · rw [mmu_get, if_neg (by omega)]; exact b1
    · rw [mmu_get, if_neg (by omega)]; exact b2
    · intro k hk; rw [mmu_get, if_neg (by omega), fk k (by omega) (by omega)]; exact fr k (by omega)
  have k3 : ∀ h2 : AH, h2.1 = 59 → h2.2 49 = some (cO 3 [vR 50, vR 51, vR 52, vI 0]) → h2.2 50 = some (cQ 5 5 (va_up (va_up (va_up (fun _ => none) 0 (some 53)) 1 (some 55)) 2 (some 57))) → h2.2 51 = some (cI 4 z0) → h2.2 52 = some (cI 4 z0) → h2.2 53 = some (cO 5 [vR 54, vI 0]) → h2.2 54 = some (cI 8 z0) → h2.2 55 = some (cO 5 [vR 56, vI 0]) → h2.2 56 = some (cI 8 z0) → h2.2 57 = some (cO 5 [vR 58, vI 0]) → h2.2 58 = some (cI 8 z0) → (∀ k, k < 49 ∨ 59 ≤ k → h2.2 k = h.2 k) → WP (mm_rw mr_19) none tb (WM tb (d + 1)) (QLinit h) 28 [(0, vR 49), (1, vI 3)] [] h2 4 20 := by
    intro h2 n1 a1 a2 p51 p52 q53 q54 q55 q56 q57 q58 fr
    (try simp only [Option.toList_some, Option.toList_none, List.nil_append, List.append_nil, List.cons_append, Nat.sub_zero, Nat.sub_self, Nat.zero_sub]); refine Go.wp [28, 45] 200 ?_; simp only [↓g19_0, ↓g19_1, ↓g19_4, ↓g19_5, ↓g19_6, ↓g19_9, ↓g19_12, ↓g19_13, ↓g19_14, ↓g19_16, ↓g19_19, ↓g19_20, ↓g19_21, ↓g19_23, ↓g19_26, ↓g19_27, ↓g19_28, ↓g19_29, ↓g19_30, ↓g19_33, ↓g19_34, ↓g19_37, ↓g19_38, ↓g19_41, ↓g19_42, ↓g19_45, ↓g19_46, ↓g19_49, ↓g19_52, cl_31, cn_0, cn_1, cn_2, cn_3, cn_4, cn_5, cn_6, cn_7, cn_8, ↓Go_s, ↓GoC_a, ↓reduceIte, ↓mm_call_eq, ↓mmw_nil, ↓mmw_cons, List.take_succ_cons, List.take_zero, List.take_nil, List.drop_succ_cons, List.drop_zero, List.drop_nil, List.reverse_cons, List.reverse_nil, List.nil_append, List.cons_append, List.append_nil, Option.toList_some, Option.toList_none, Nat.sub_zero, Nat.le_refl, mmr_cons, mm_st1, mm_st2, mmi_nil, mmi_cons, mmc_I, mmc_L, mmc_R, mmu_get, mmu_one, mma_get, mma_one, List.filter_cons, List.filter_nil, List.contains_cons, List.contains_nil, Nat.reduceBEq, Nat.reduceAdd, Nat.reduceLT, Nat.reduceSub, Nat.reduceLeDiff, Nat.reduceEqDiff, Int32.reduceAdd, Bool.not_true, Bool.not_false, Bool.and_true, Bool.true_and, Bool.and_false, Bool.false_and, Bool.or_false, Bool.false_or, Bool.or_true, Bool.true_or, if_true, if_false, ite_true, ite_false, Bool.false_eq_true, List.getElem?_cons_zero, List.getElem?_cons_succ, List.length_cons, List.length_nil, true_and, and_true, List.set_cons_zero, List.set_cons_succ, Fin.isValue, Fin.val_zero, Fin.val_one, Fin.val_two, Fin.reduceFinMk, Nat.zero_add, n1, a1, a2, df_5, nf_5, cl0, cl1, cl2, cl3, cl4, cl5, cl6, cl7, cl8, cl16, ft_3_0, ft_3_1, ft_3_2, nu_fitI, nu_fitL, nu_fitO, nu_fitA, nu_fitB0, nu_fitB1]
    refine ⟨fun z => absurd z (by decide), fun _ => ⟨1, 8, _, by decide, by decide, c_Rinit (d := d) (N := 60) (by simp only [mmu_get, mma_get, mma_one, mmu_one, n1, Nat.reduceAdd, Nat.reduceEqDiff, if_true, if_false, List.set_cons_zero, List.set_cons_succ, Nat.reduceLT]) (by simp only [mmu_get, mma_get, mma_one, mmu_one, n1, Nat.reduceAdd, Nat.reduceEqDiff, if_true, if_false, List.set_cons_zero, List.set_cons_succ, Nat.reduceLT]) (by omega), fun z h3 hz => ?_⟩⟩
    obtain ⟨rfl, m1, b1, b2, g3⟩ := hz
    have fk : ∀ k, k ≠ 59 → k ≠ 60 → h3.2 k = h2.2 k := fun k z1 z2 => by rw [g3 k z1 z2, mma_get, n1, if_neg z1]
    have x1 := (fk 49 (by omega) (by omega)).trans a1
    have x2 := (fk 50 (by omega) (by omega)).trans a2
    (try simp only [Option.toList_some, Option.toList_none, List.nil_append, List.append_nil, List.cons_append, Nat.sub_zero, Nat.sub_self, Nat.zero_sub]); refine Go.wp sp_19 200 ?_; simp only [↓g19_0, ↓g19_1, ↓g19_4, ↓g19_5, ↓g19_6, ↓g19_9, ↓g19_12, ↓g19_13, ↓g19_14, ↓g19_16, ↓g19_19, ↓g19_20, ↓g19_21, ↓g19_23, ↓g19_26, ↓g19_27, ↓g19_28, ↓g19_29, ↓g19_30, ↓g19_33, ↓g19_34, ↓g19_37, ↓g19_38, ↓g19_41, ↓g19_42, ↓g19_45, ↓g19_46, ↓g19_49, ↓g19_52, cl_31, cn_0, cn_1, cn_2, cn_3, cn_4, cn_5, cn_6, cn_7, cn_8, ↓Go_s, ↓GoC_a, ↓reduceIte, ↓mm_call_eq, ↓mmw_nil, ↓mmw_cons, List.take_succ_cons, List.take_zero, List.take_nil, List.drop_succ_cons, List.drop_zero, List.drop_nil, List.reverse_cons, List.reverse_nil, List.nil_append, List.cons_append, List.append_nil, Option.toList_some, Option.toList_none, Nat.sub_zero, Nat.le_refl, mmr_cons, mm_st1, mm_st2, mmi_nil, mmi_cons, mmc_I, mmc_L, mmc_R, mmu_get, mmu_one, mma_get, mma_one, List.filter_cons, List.filter_nil, List.contains_cons, List.contains_nil, Nat.reduceBEq, Nat.reduceAdd, Nat.reduceLT, Nat.reduceSub, Nat.reduceLeDiff, Nat.reduceEqDiff, Int32.reduceAdd, Bool.not_true, Bool.not_false, Bool.and_true, Bool.true_and, Bool.and_false, Bool.false_and, Bool.or_false, Bool.false_or, Bool.or_true, Bool.true_or, if_true, if_false, ite_true, ite_false, Bool.false_eq_true, List.getElem?_cons_zero, List.getElem?_cons_succ, List.length_cons, List.length_nil, true_and, and_true, List.set_cons_zero, List.set_cons_succ, Fin.isValue, Fin.val_zero, Fin.val_one, Fin.val_two, Fin.reduceFinMk, Nat.zero_add, m1, b1, x1, x2, cl0, cl1, cl2, cl3, cl4, cl5, cl6, cl7, cl8, cl16, or_true, or_false, true_or, false_or, ft_3_0, ft_3_1, ft_3_2, nu_fitI, nu_fitL, nu_fitO, nu_fitA, nu_fitB0, nu_fitB1]
    refine ⟨vp_in_nI (n := 3) (by omega) (by omega), k4 _ ?_ ?_ ?_ ?_ ?_ ?_ ?_ ?_ ?_ ?_ ?_ ?_ ?_ ?_⟩
    · rw [mmu_one]; exact m1
    · rw [mmu_get, if_neg (by omega)]; exact x1
    · rw [mmu_get, if_pos rfl]
    · rw [mmu_get, if_neg (by omega), fk 51 (by omega) (by omega)]; exact p51
    · rw [mmu_get, if_neg (by omega), fk 52 (by omega) (by omega)]; exact p52
    · rw [mmu_get, if_neg (by omega), fk 53 (by omega) (by omega)]; exact q53
    · rw [mmu_get, if_neg (by omega), fk 54 (by omega) (by omega)]; exact q54
    · rw [mmu_get, if_neg (by omega), fk 55 (by omega) (by omega)]; exact q55
    · rw [mmu_get, if_neg (by omega), fk 56 (by omega) (by omega)]; exact q56
    · rw [mmu_get, if_neg (by omega), fk 57 (by omega) (by omega)]; exact q57
    · rw [mmu_get, if_neg (by omega), fk 58 (by omega) (by omega)]; exact q58
    · rw [mmu_get, if_neg (by omega)]; exact b1
    · rw [mmu_get, if_neg (by omega)]; exact b2
    · intro k hk; rw [mmu_get, if_neg (by omega), fk k (by omega) (by omega)]; exact fr k (by omega)
  have k2 : ∀ h2 : AH, h2.1 = 57 → h2.2 49 = some (cO 3 [vR 50, vR 51, vR 52, vI 0]) → h2.2 50 = some (cQ 5 5 (va_up (va_up (fun _ => none) 0 (some 53)) 1 (some 55))) → h2.2 51 = some (cI 4 z0) → h2.2 52 = some (cI 4 z0) → h2.2 53 = some (cO 5 [vR 54, vI 0]) → h2.2 54 = some (cI 8 z0) → h2.2 55 = some (cO 5 [vR 56, vI 0]) → h2.2 56 = some (cI 8 z0) → (∀ k, k < 49 ∨ 57 ≤ k → h2.2 k = h.2 k) → WP (mm_rw mr_19) none tb (WM tb (d + 1)) (QLinit h) 28 [(0, vR 49), (1, vI 2)] [] h2 6 30 := by
    intro h2 n1 a1 a2 p51 p52 q53 q54 q55 q56 fr
    (try simp only [Option.toList_some, Option.toList_none, List.nil_append, List.append_nil, List.cons_append, Nat.sub_zero, Nat.sub_self, Nat.zero_sub]); refine Go.wp [28, 45] 200 ?_; simp only [↓g19_0, ↓g19_1, ↓g19_4, ↓g19_5, ↓g19_6, ↓g19_9, ↓g19_12, ↓g19_13, ↓g19_14, ↓g19_16, ↓g19_19, ↓g19_20, ↓g19_21, ↓g19_23, ↓g19_26, ↓g19_27, ↓g19_28, ↓g19_29, ↓g19_30, ↓g19_33, ↓g19_34, ↓g19_37, ↓g19_38, ↓g19_41, ↓g19_42, ↓g19_45, ↓g19_46, ↓g19_49, ↓g19_52, cl_31, cn_0, cn_1, cn_2, cn_3, cn_4, cn_5, cn_6, cn_7, cn_8, ↓Go_s, ↓GoC_a, ↓reduceIte, ↓mm_call_eq, ↓mmw_nil, ↓mmw_cons, List.take_succ_cons, List.take_zero, List.take_nil, List.drop_succ_cons, List.drop_zero, List.drop_nil, List.reverse_cons, List.reverse_nil, List.nil_append, List.cons_append, List.append_nil, Option.toList_some, Option.toList_none, Nat.sub_zero, Nat.le_refl, mmr_cons, mm_st1, mm_st2, mmi_nil, mmi_cons, mmc_I, mmc_L, mmc_R, mmu_get, mmu_one, mma_get, mma_one, List.filter_cons, List.filter_nil, List.contains_cons, List.contains_nil, Nat.reduceBEq, Nat.reduceAdd, Nat.reduceLT, Nat.reduceSub, Nat.reduceLeDiff, Nat.reduceEqDiff, Int32.reduceAdd, Bool.not_true, Bool.not_false, Bool.and_true, Bool.true_and, Bool.and_false, Bool.false_and, Bool.or_false, Bool.false_or, Bool.or_true, Bool.true_or, if_true, if_false, ite_true, ite_false, Bool.false_eq_true, List.getElem?_cons_zero, List.getElem?_cons_succ, List.length_cons, List.length_nil, true_and, and_true, List.set_cons_zero, List.set_cons_succ, Fin.isValue, Fin.val_zero, Fin.val_one, Fin.val_two, Fin.reduceFinMk, Nat.zero_add, n1, a1, a2, df_5, nf_5, cl0, cl1, cl2, cl3, cl4, cl5, cl6, cl7, cl8, cl16, ft_3_0, ft_3_1, ft_3_2, nu_fitI, nu_fitL, nu_fitO, nu_fitA, nu_fitB0, nu_fitB1]
    refine ⟨fun z => absurd z (by decide), fun _ => ⟨1, 8, _, by decide, by decide, c_Rinit (d := d) (N := 58) (by simp only [mmu_get, mma_get, mma_one, mmu_one, n1, Nat.reduceAdd, Nat.reduceEqDiff, if_true, if_false, List.set_cons_zero, List.set_cons_succ, Nat.reduceLT]) (by simp only [mmu_get, mma_get, mma_one, mmu_one, n1, Nat.reduceAdd, Nat.reduceEqDiff, if_true, if_false, List.set_cons_zero, List.set_cons_succ, Nat.reduceLT]) (by omega), fun z h3 hz => ?_⟩⟩
    obtain ⟨rfl, m1, b1, b2, g3⟩ := hz
    have fk : ∀ k, k ≠ 57 → k ≠ 58 → h3.2 k = h2.2 k := fun k z1 z2 => by rw [g3 k z1 z2, mma_get, n1, if_neg z1]
    have x1 := (fk 49 (by omega) (by omega)).trans a1
    have x2 := (fk 50 (by omega) (by omega)).trans a2
    (try simp only [Option.toList_some, Option.toList_none, List.nil_append, List.append_nil, List.cons_append, Nat.sub_zero, Nat.sub_self, Nat.zero_sub]); refine Go.wp sp_19 200 ?_; simp only [↓g19_0, ↓g19_1, ↓g19_4, ↓g19_5, ↓g19_6, ↓g19_9, ↓g19_12, ↓g19_13, ↓g19_14, ↓g19_16, ↓g19_19, ↓g19_20, ↓g19_21, ↓g19_23, ↓g19_26, ↓g19_27, ↓g19_28, ↓g19_29, ↓g19_30, ↓g19_33, ↓g19_34, ↓g19_37, ↓g19_38, ↓g19_41, ↓g19_42, ↓g19_45, ↓g19_46, ↓g19_49, ↓g19_52, cl_31, cn_0, cn_1, cn_2, cn_3, cn_4, cn_5, cn_6, cn_7, cn_8, ↓Go_s, ↓GoC_a, ↓reduceIte, ↓mm_call_eq, ↓mmw_nil, ↓mmw_cons, List.take_succ_cons, List.take_zero, List.take_nil, List.drop_succ_cons, List.drop_zero, List.drop_nil, List.reverse_cons, List.reverse_nil, List.nil_append, List.cons_append, List.append_nil, Option.toList_some, Option.toList_none, Nat.sub_zero, Nat.le_refl, mmr_cons, mm_st1, mm_st2, mmi_nil, mmi_cons, mmc_I, mmc_L, mmc_R, mmu_get, mmu_one, mma_get, mma_one, List.filter_cons, List.filter_nil, List.contains_cons, List.contains_nil, Nat.reduceBEq, Nat.reduceAdd, Nat.reduceLT, Nat.reduceSub, Nat.reduceLeDiff, Nat.reduceEqDiff, Int32.reduceAdd, Bool.not_true, Bool.not_false, Bool.and_true, Bool.true_and, Bool.and_false, Bool.false_and, Bool.or_false, Bool.false_or, Bool.or_true, Bool.true_or, if_true, if_false, ite_true, ite_false, Bool.false_eq_true, List.getElem?_cons_zero, List.getElem?_cons_succ, List.length_cons, List.length_nil, true_and, and_true, List.set_cons_zero, List.set_cons_succ, Fin.isValue, Fin.val_zero, Fin.val_one, Fin.val_two, Fin.reduceFinMk, Nat.zero_add, m1, b1, x1, x2, cl0, cl1, cl2, cl3, cl4, cl5, cl6, cl7, cl8, cl16, or_true, or_false, true_or, false_or, ft_3_0, ft_3_1, ft_3_2, nu_fitI, nu_fitL, nu_fitO, nu_fitA, nu_fitB0, nu_fitB1]
    refine ⟨vp_in_nI (n := 2) (by omega) (by omega), k3 _ ?_ ?_ ?_ ?_ ?_ ?_ ?_ ?_ ?_ ?_ ?_ ?_⟩
    · rw [mmu_one]; exact m1
    · rw [mmu_get, if_neg (by omega)]; exact x1
    · rw [mmu_get, if_pos rfl]
    · rw [mmu_get, if_neg (by omega), fk 51 (by omega) (by omega)]; exact p51
    · rw [mmu_get, if_neg (by omega), fk 52 (by omega) (by omega)]; exact p52
    · rw [mmu_get, if_neg (by omega), fk 53 (by omega) (by omega)]; exact q53
    · rw [mmu_get, if_neg (by omega), fk 54 (by omega) (by omega)]; exact q54
    · rw [mmu_get, if_neg (by omega), fk 55 (by omega) (by omega)]; exact q55
    · rw [mmu_get, if_neg (by omega), fk 56 (by omega) (by omega)]; exact q56
    · rw [mmu_get, if_neg (by omega)]; exact b1
    · rw [mmu_get, if_neg (by omega)]; exact b2
    · intro k hk; rw [mmu_get, if_neg (by omega), fk k (by omega) (by omega)]; exact fr k (by omega)
  have k1 : ∀ h2 : AH, h2.1 = 55 → h2.2 49 = some (cO 3 [vR 50, vR 51, vR 52, vI 0]) → h2.2 50 = some (cQ 5 5 (va_up (fun _ => none) 0 (some 53))) → h2.2 51 = some (cI 4 z0) → h2.2 52 = some (cI 4 z0) → h2.2 53 = some (cO 5 [vR 54, vI 0]) → h2.2 54 = some (cI 8 z0) → (∀ k, k < 49 ∨ 55 ≤ k → h2.2 k = h.2 k) → WP (mm_rw mr_19) none tb (WM tb (d + 1)) (QLinit h) 28 [(0, vR 49), (1, vI 1)] [] h2 8 40 := by
    intro h2 n1 a1 a2 p51 p52 q53 q54 fr
    (try simp only [Option.toList_some, Option.toList_none, List.nil_append, List.append_nil, List.cons_append, Nat.sub_zero, Nat.sub_self, Nat.zero_sub]); refine Go.wp [28, 45] 200 ?_; simp only [↓g19_0, ↓g19_1, ↓g19_4, ↓g19_5, ↓g19_6, ↓g19_9, ↓g19_12, ↓g19_13, ↓g19_14, ↓g19_16, ↓g19_19, ↓g19_20, ↓g19_21, ↓g19_23, ↓g19_26, ↓g19_27, ↓g19_28, ↓g19_29, ↓g19_30, ↓g19_33, ↓g19_34, ↓g19_37, ↓g19_38, ↓g19_41, ↓g19_42, ↓g19_45, ↓g19_46, ↓g19_49, ↓g19_52, cl_31, cn_0, cn_1, cn_2, cn_3, cn_4, cn_5, cn_6, cn_7, cn_8, ↓Go_s, ↓GoC_a, ↓reduceIte, ↓mm_call_eq, ↓mmw_nil, ↓mmw_cons, List.take_succ_cons, List.take_zero, List.take_nil, List.drop_succ_cons, List.drop_zero, List.drop_nil, List.reverse_cons, List.reverse_nil, List.nil_append, List.cons_append, List.append_nil, Option.toList_some, Option.toList_none, Nat.sub_zero, Nat.le_refl, mmr_cons, mm_st1, mm_st2, mmi_nil, mmi_cons, mmc_I, mmc_L, mmc_R, mmu_get, mmu_one, mma_get, mma_one, List.filter_cons, List.filter_nil, List.contains_cons, List.contains_nil, Nat.reduceBEq, Nat.reduceAdd, Nat.reduceLT, Nat.reduceSub, Nat.reduceLeDiff, Nat.reduceEqDiff, Int32.reduceAdd, Bool.not_true, Bool.not_false, Bool.and_true, Bool.true_and, Bool.and_false, Bool.false_and, Bool.or_false, Bool.false_or, Bool.or_true, Bool.true_or, if_true, if_false, ite_true, ite_false, Bool.false_eq_true, List.getElem?_cons_zero, List.getElem?_cons_succ, List.length_cons, List.length_nil, true_and, and_true, List.set_cons_zero, List.set_cons_succ, Fin.isValue, Fin.val_zero, Fin.val_one, Fin.val_two, Fin.reduceFinMk, Nat.zero_add, n1, a1, a2, df_5, nf_5, cl0, cl1, cl2, cl3, cl4, cl5, cl6, cl7, cl8, cl16, ft_3_0, ft_3_1, ft_3_2, nu_fitI, nu_fitL, nu_fitO, nu_fitA, nu_fitB0, nu_fitB1]
    refine ⟨fun z => absurd z (by decide), fun _ => ⟨1, 8, _, by decide, by decide, c_Rinit (d := d) (N := 56) (by simp only [mmu_get, mma_get, mma_one, mmu_one, n1, Nat.reduceAdd, Nat.reduceEqDiff, if_true, if_false, List.set_cons_zero, List.set_cons_succ, Nat.reduceLT]) (by simp only [mmu_get, mma_get, mma_one, mmu_one, n1, Nat.reduceAdd, Nat.reduceEqDiff, if_true, if_false, List.set_cons_zero, List.set_cons_succ, Nat.reduceLT]) (by omega), fun z h3 hz => ?_⟩⟩
    obtain ⟨rfl, m1, b1, b2, g3⟩ := hz
    have fk : ∀ k, k ≠ 55 → k ≠ 56 → h3.2 k = h2.2 k := fun k z1 z2 => by rw [g3 k z1 z2, mma_get, n1, if_neg z1]
    have x1 := (fk 49 (by omega) (by omega)).trans a1
    have x2 := (fk 50 (by omega) (by omega)).trans a2
    (try simp only [Option.toList_some, Option.toList_none, List.nil_append, List.append_nil, List.cons_append, Nat.sub_zero, Nat.sub_self, Nat.zero_sub]); refine Go.wp sp_19 200 ?_; simp only [↓g19_0, ↓g19_1, ↓g19_4, ↓g19_5, ↓g19_6, ↓g19_9, ↓g19_12, ↓g19_13, ↓g19_14, ↓g19_16, ↓g19_19, ↓g19_20, ↓g19_21, ↓g19_23, ↓g19_26, ↓g19_27, ↓g19_28, ↓g19_29, ↓g19_30, ↓g19_33, ↓g19_34, ↓g19_37, ↓g19_38, ↓g19_41, ↓g19_42, ↓g19_45, ↓g19_46, ↓g19_49, ↓g19_52, cl_31, cn_0, cn_1, cn_2, cn_3, cn_4, cn_5, cn_6, cn_7, cn_8, ↓Go_s, ↓GoC_a, ↓reduceIte, ↓mm_call_eq, ↓mmw_nil, ↓mmw_cons, List.take_succ_cons, List.take_zero, List.take_nil, List.drop_succ_cons, List.drop_zero, List.drop_nil, List.reverse_cons, List.reverse_nil, List.nil_append, List.cons_append, List.append_nil, Option.toList_some, Option.toList_none, Nat.sub_zero, Nat.le_refl, mmr_cons, mm_st1, mm_st2, mmi_nil, mmi_cons, mmc_I, mmc_L, mmc_R, mmu_get, mmu_one, mma_get, mma_one, List.filter_cons, List.filter_nil, List.contains_cons, List.contains_nil, Nat.reduceBEq, Nat.reduceAdd, Nat.reduceLT, Nat.reduceSub, Nat.reduceLeDiff, Nat.reduceEqDiff, Int32.reduceAdd, Bool.not_true, Bool.not_false, Bool.and_true, Bool.true_and, Bool.and_false, Bool.false_and, Bool.or_false, Bool.false_or, Bool.or_true, Bool.true_or, if_true, if_false, ite_true, ite_false, Bool.false_eq_true, List.getElem?_cons_zero, List.getElem?_cons_succ, List.length_cons, List.length_nil, true_and, and_true, List.set_cons_zero, List.set_cons_succ, Fin.isValue, Fin.val_zero, Fin.val_one, Fin.val_two, Fin.reduceFinMk, Nat.zero_add, m1, b1, x1, x2, cl0, cl1, cl2, cl3, cl4, cl5, cl6, cl7, cl8, cl16, or_true, or_false, true_or, false_or, ft_3_0, ft_3_1, ft_3_2, nu_fitI, nu_fitL, nu_fitO, nu_fitA, nu_fitB0, nu_fitB1]
    refine ⟨vp_in_nI (n := 1) (by omega) (by omega), k2 _ ?_ ?_ ?_ ?_ ?_ ?_ ?_ ?_ ?_ ?_⟩
    · rw [mmu_one]; exact m1
    · rw [mmu_get, if_neg (by omega)]; exact x1
    · rw [mmu_get, if_pos rfl]
    · rw [mmu_get, if_neg (by omega), fk 51 (by omega) (by omega)]; exact p51
    · rw [mmu_get, if_neg (by omega), fk 52 (by omega) (by omega)]; exact p52
    · rw [mmu_get, if_neg (by omega), fk 53 (by omega) (by omega)]; exact q53
    · rw [mmu_get, if_neg (by omega), fk 54 (by omega) (by omega)]; exact q54
    · rw [mmu_get, if_neg (by omega)]; exact b1
    · rw [mmu_get, if_neg (by omega)]; exact b2
    · intro k hk; rw [mmu_get, if_neg (by omega), fk k (by omega) (by omega)]; exact fr k (by omega)
  have k0 : ∀ h2 : AH, h2.1 = 53 → h2.2 49 = some (cO 3 [vR 50, vR 51, vR 52, vI 0]) → h2.2 50 = some (cQ 5 5 (fun _ => none)) → h2.2 51 = some (cI 4 z0) → h2.2 52 = some (cI 4 z0) → (∀ k, k < 49 ∨ 53 ≤ k → h2.2 k = h.2 k) → WP (mm_rw mr_19) none tb (WM tb (d + 1)) (QLinit h) 28 [(0, vR 49), (1, vI 0)] [] h2 10 50 := by
    intro h2 n1 a1 a2 p51 p52 fr
    (try simp only [Option.toList_some, Option.toList_none, List.nil_append, List.append_nil, List.cons_append, Nat.sub_zero, Nat.sub_self, Nat.zero_sub]); refine Go.wp [28, 45] 200 ?_; simp only [↓g19_0, ↓g19_1, ↓g19_4, ↓g19_5, ↓g19_6, ↓g19_9, ↓g19_12, ↓g19_13, ↓g19_14, ↓g19_16, ↓g19_19, ↓g19_20, ↓g19_21, ↓g19_23, ↓g19_26, ↓g19_27, ↓g19_28, ↓g19_29, ↓g19_30, ↓g19_33, ↓g19_34, ↓g19_37, ↓g19_38, ↓g19_41, ↓g19_42, ↓g19_45, ↓g19_46, ↓g19_49, ↓g19_52, cl_31, cn_0, cn_1, cn_2, cn_3, cn_4, cn_5, cn_6, cn_7, cn_8, ↓Go_s, ↓GoC_a, ↓reduceIte, ↓mm_call_eq, ↓mmw_nil, ↓mmw_cons, List.take_succ_cons, List.take_zero, List.take_nil, List.drop_succ_cons, List.drop_zero, List.drop_nil, List.reverse_cons, List.reverse_nil, List.nil_append, List.cons_append, List.append_nil, Option.toList_some, Option.toList_none, Nat.sub_zero, Nat.le_refl, mmr_cons, mm_st1, mm_st2, mmi_nil, mmi_cons, mmc_I, mmc_L, mmc_R, mmu_get, mmu_one, mma_get, mma_one, List.filter_cons, List.filter_nil, List.contains_cons, List.contains_nil, Nat.reduceBEq, Nat.reduceAdd, Nat.reduceLT, Nat.reduceSub, Nat.reduceLeDiff, Nat.reduceEqDiff, Int32.reduceAdd, Bool.not_true, Bool.not_false, Bool.and_true, Bool.true_and, Bool.and_false, Bool.false_and, Bool.or_false, Bool.false_or, Bool.or_true, Bool.true_or, if_true, if_false, ite_true, ite_false, Bool.false_eq_true, List.getElem?_cons_zero, List.getElem?_cons_succ, List.length_cons, List.length_nil, true_and, and_true, List.set_cons_zero, List.set_cons_succ, Fin.isValue, Fin.val_zero, Fin.val_one, Fin.val_two, Fin.reduceFinMk, Nat.zero_add, n1, a1, a2, df_5, nf_5, cl0, cl1, cl2, cl3, cl4, cl5, cl6, cl7, cl8, cl16, ft_3_0, ft_3_1, ft_3_2, nu_fitI, nu_fitL, nu_fitO, nu_fitA, nu_fitB0, nu_fitB1]
    refine ⟨fun z => absurd z (by decide), fun _ => ⟨1, 8, _, by decide, by decide, c_Rinit (d := d) (N := 54) (by simp only [mmu_get, mma_get, mma_one, mmu_one, n1, Nat.reduceAdd, Nat.reduceEqDiff, if_true, if_false, List.set_cons_zero, List.set_cons_succ, Nat.reduceLT]) (by simp only [mmu_get, mma_get, mma_one, mmu_one, n1, Nat.reduceAdd, Nat.reduceEqDiff, if_true, if_false, List.set_cons_zero, List.set_cons_succ, Nat.reduceLT]) (by omega), fun z h3 hz => ?_⟩⟩
    obtain ⟨rfl, m1, b1, b2, g3⟩ := hz
    have fk : ∀ k, k ≠ 53 → k ≠ 54 → h3.2 k = h2.2 k := fun k z1 z2 => by rw [g3 k z1 z2, mma_get, n1, if_neg z1]
    have x1 := (fk 49 (by omega) (by omega)).trans a1
    have x2 := (fk 50 (by omega) (by omega)).trans a2
    (try simp only [Option.toList_some, Option.toList_none, List.nil_append, List.append_nil, List.cons_append, Nat.sub_zero, Nat.sub_self, Nat.zero_sub]); refine Go.wp sp_19 200 ?_; simp only [↓g19_0, ↓g19_1, ↓g19_4, ↓g19_5, ↓g19_6, ↓g19_9, ↓g19_12, ↓g19_13, ↓g19_14, ↓g19_16, ↓g19_19, ↓g19_20, ↓g19_21, ↓g19_23, ↓g19_26, ↓g19_27, ↓g19_28, ↓g19_29, ↓g19_30, ↓g19_33, ↓g19_34, ↓g19_37, ↓g19_38, ↓g19_41, ↓g19_42, ↓g19_45, ↓g19_46, ↓g19_49, ↓g19_52, cl_31, cn_0, cn_1, cn_2, cn_3, cn_4, cn_5, cn_6, cn_7, cn_8, ↓Go_s, ↓GoC_a, ↓reduceIte, ↓mm_call_eq, ↓mmw_nil, ↓mmw_cons, List.take_succ_cons, List.take_zero, List.take_nil, List.drop_succ_cons, List.drop_zero, List.drop_nil, List.reverse_cons, List.reverse_nil, List.nil_append, List.cons_append, List.append_nil, Option.toList_some, Option.toList_none, Nat.sub_zero, Nat.le_refl, mmr_cons, mm_st1, mm_st2, mmi_nil, mmi_cons, mmc_I, mmc_L, mmc_R, mmu_get, mmu_one, mma_get, mma_one, List.filter_cons, List.filter_nil, List.contains_cons, List.contains_nil, Nat.reduceBEq, Nat.reduceAdd, Nat.reduceLT, Nat.reduceSub, Nat.reduceLeDiff, Nat.reduceEqDiff, Int32.reduceAdd, Bool.not_true, Bool.not_false, Bool.and_true, Bool.true_and, Bool.and_false, Bool.false_and, Bool.or_false, Bool.false_or, Bool.or_true, Bool.true_or, if_true, if_false, ite_true, ite_false, Bool.false_eq_true, List.getElem?_cons_zero, List.getElem?_cons_succ, List.length_cons, List.length_nil, true_and, and_true, List.set_cons_zero, List.set_cons_succ, Fin.isValue, Fin.val_zero, Fin.val_one, Fin.val_two, Fin.reduceFinMk, Nat.zero_add, m1, b1, x1, x2, cl0, cl1, cl2, cl3, cl4, cl5, cl6, cl7, cl8, cl16, or_true, or_false, true_or, false_or, ft_3_0, ft_3_1, ft_3_2, nu_fitI, nu_fitL, nu_fitO, nu_fitA, nu_fitB0, nu_fitB1]
    refine ⟨vp_in_nI (n := 0) (by omega) (by omega), k1 _ ?_ ?_ ?_ ?_ ?_ ?_ ?_ ?_⟩
    · rw [mmu_one]; exact m1
    · rw [mmu_get, if_neg (by omega)]; exact x1
    · rw [mmu_get, if_pos rfl]
    · rw [mmu_get, if_neg (by omega), fk 51 (by omega) (by omega)]; exact p51
    · rw [mmu_get, if_neg (by omega), fk 52 (by omega) (by omega)]; exact p52
    · rw [mmu_get, if_neg (by omega)]; exact b1
    · rw [mmu_get, if_neg (by omega)]; exact b2
    · intro k hk; rw [mmu_get, if_neg (by omega), fk k (by omega) (by omega)]; exact fr k (by omega)
  refine WM.of mi_19 rfl rfl (Nat.le_of_ble_eq_true rfl) ?_
  show WP (mm_rw mr_19) none tb (WM tb (d + 1)) _ 0 [(0, vR 49)] [] h 13 63
  (try simp only [Option.toList_some, Option.toList_none, List.nil_append, List.append_nil, List.cons_append, Nat.sub_zero, Nat.sub_self, Nat.zero_sub]); refine Go.wp sp_19 200 ?_; simp only [↓g19_0, ↓g19_1, ↓g19_4, ↓g19_5, ↓g19_6, ↓g19_9, ↓g19_12, ↓g19_13, ↓g19_14, ↓g19_16, ↓g19_19, ↓g19_20, ↓g19_21, ↓g19_23, ↓g19_26, ↓g19_27, ↓g19_28, ↓g19_29, ↓g19_30, ↓g19_33, ↓g19_34, ↓g19_37, ↓g19_38, ↓g19_41, ↓g19_42, ↓g19_45, ↓g19_46, ↓g19_49, ↓g19_52, cl_31, cn_0, cn_1, cn_2, cn_3, cn_4, cn_5, cn_6, cn_7, cn_8, ↓Go_s, ↓GoC_a, ↓reduceIte, ↓mm_call_eq, ↓mmw_nil, ↓mmw_cons, List.take_succ_cons, List.take_zero, List.take_nil, List.drop_succ_cons, List.drop_zero, List.drop_nil, List.reverse_cons, List.reverse_nil, List.nil_append, List.cons_append, List.append_nil, Option.toList_some, Option.toList_none, Nat.sub_zero, Nat.le_refl, mmr_cons, mm_st1, mm_st2, mmi_nil, mmi_cons, mmc_I, mmc_L, mmc_R, mmu_get, mmu_one, mma_get, mma_one, List.filter_cons, List.filter_nil, List.contains_cons, List.contains_nil, Nat.reduceBEq, Nat.reduceAdd, Nat.reduceLT, Nat.reduceSub, Nat.reduceLeDiff, Nat.reduceEqDiff, Int32.reduceAdd, Bool.not_true, Bool.not_false, Bool.and_true, Bool.true_and, Bool.and_false, Bool.false_and, Bool.or_false, Bool.false_or, Bool.or_true, Bool.true_or, if_true, if_false, ite_true, ite_false, Bool.false_eq_true, List.getElem?_cons_zero, List.getElem?_cons_succ, List.length_cons, List.length_nil, true_and, and_true, List.set_cons_zero, List.set_cons_succ, Fin.isValue, Fin.val_zero, Fin.val_one, Fin.val_two, Fin.reduceFinMk, Nat.zero_add, h1, hr, cl0, cl1, cl2, cl3, cl4, cl5, cl6, cl7, cl8, cl16, ft_3_0, ft_3_1, ft_3_2, nu_fitI, nu_fitL, nu_fitO, nu_fitA, nu_fitB0, nu_fitB1]
  refine ⟨by decide, by decide, by decide, k0 _ ?_ ?_ ?_ ?_ ?_ ?_⟩
  · simp only [mmu_one, mma_one, h1, Nat.reduceAdd]
  · simp only [mmu_get, mma_get, mma_one, mmu_one, h1, Nat.reduceAdd, Nat.reduceEqDiff, if_true, if_false]
  · simp only [mmu_get, mma_get, mma_one, mmu_one, h1, Nat.reduceAdd, Nat.reduceEqDiff, if_true, if_false]
  · simp only [mmu_get, mma_get, mma_one, mmu_one, h1, Nat.reduceAdd, Nat.reduceEqDiff, if_true, if_false]
  · simp only [mmu_get, mma_get, mma_one, mmu_one, h1, Nat.reduceAdd, Nat.reduceEqDiff, if_true, if_false]
  · intro k hk; simp only [mmu_get, mma_get, mma_one, mmu_one, h1, Nat.reduceAdd, if_neg (show ¬ k = 49 by omega), if_neg (show ¬ k = 50 by omega), if_neg (show ¬ k = 51 by omega), if_neg (show ¬ k = 52 by omega)]

end INIT
