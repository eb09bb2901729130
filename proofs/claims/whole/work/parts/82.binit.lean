/-! the class's constructor -/
abbrev sp_54 : List Nat := [20, 31, 42, 53, 72, 83, 94, 99, 116, 145]
section G54
variable {tb : Nat → Nat × (Nat → Int32)} {call : CO} {Q : AQ} {C : CP} {lv : AL} {st : List AV} {h : AH} {kc ks : Nat}
theorem g54_0  : mm_step (mm_rw mr_54) none tb call Q C 0 lv st h kc ks = (match mm_rd lv 0 with
    | some (.inr (.inr (.inl (some k)))) => C 1 lv (vR k :: st) h kc ks
    | some (.inr (.inr (.inr t))) => C 1 lv (vT t :: st) h kc ks
    | _ => False) := rfl
theorem g54_1 (a : Nat) : mm_step (mm_rw mr_54) none tb call Q C 1 lv (.inr (.inr (.inl (some a))) :: st) h kc ks = (st.length ≤ 4 ∧ C 4 lv st h kc ks) := rfl
theorem g54_4  : mm_step (mm_rw mr_54) none tb call Q C 4 lv st h kc ks = (match mm_rd lv 0 with
    | some (.inr (.inr (.inl (some k)))) => C 5 lv (vR k :: st) h kc ks
    | some (.inr (.inr (.inr t))) => C 5 lv (vT t :: st) h kc ks
    | _ => False) := rfl
theorem g54_5  : mm_step (mm_rw mr_54) none tb call Q C 5 lv st h kc ks = (C 7 lv (vI 40 :: st) h kc ks) := rfl
theorem g54_7 (n : Int32) : mm_step (mm_rw mr_54) none tb call Q C 7 lv (.inl n :: st) h kc ks = (¬ n < 0 ∧ n.toNatClampNeg ≤ 1000 ∧ 1 ≤ kc ∧ n.toNatClampNeg ≤ ks ∧ C 9 lv (vR h.1 :: st) (mm_al h (.inl (.byte, n.toNatClampNeg, fun _ => 0))) (kc - 1) (ks - n.toNatClampNeg)) := rfl
theorem g54_9 (v : AV) (k : Nat) : mm_step (mm_rw mr_54) none tb call Q C 9 lv (v :: .inr (.inr (.inl (some k))) :: st) h kc ks = (match h.2 k with
    | some (.inr (.inr (ci, fs))) => ci = 7 ∧ 0 < fs.length ∧ mm_fit (mm_ft 7 0) v ∧ C 12 lv st (mm_up h k (cO ci (fs.set 0 v))) kc ks
    | _ => False) := rfl
theorem g54_12  : mm_step (mm_rw mr_54) none tb call Q C 12 lv st h kc ks = (match mm_rd lv 0 with
    | some (.inr (.inr (.inl (some k)))) => C 13 lv (vR k :: st) h kc ks
    | some (.inr (.inr (.inr t))) => C 13 lv (vT t :: st) h kc ks
    | _ => False) := rfl
theorem g54_13  : mm_step (mm_rw mr_54) none tb call Q C 13 lv st h kc ks = (1 ≤ kc ∧ mm_nf 4 ≤ ks ∧ C 16 lv (vR h.1 :: st) (mm_al h (cO 4 (mm_df 4))) (kc - 1) (ks - mm_nf 4)) := rfl
theorem g54_16 (v : AV) : mm_step (mm_rw mr_54) none tb call Q C 16 lv (v :: st) h kc ks = (mm_c2 v = false ∧ C 17 lv (v :: v :: st) h kc ks) := rfl
theorem g54_17  : mm_step (mm_rw mr_54) none tb call Q C 17 lv st h kc ks = ((match (st.take 1).reverse with
    | .inr (.inr (.inl (some _))) :: _ => True
    | _ => False) ∧ mm_call call C 24 1 17 lv st h kc ks) := rfl
theorem g54_20 (v : AV) (k : Nat) : mm_step (mm_rw mr_54) none tb call Q C 20 lv (v :: .inr (.inr (.inl (some k))) :: st) h kc ks = (match h.2 k with
    | some (.inr (.inr (ci, fs))) => ci = 7 ∧ 2 < fs.length ∧ mm_fit (mm_ft 7 2) v ∧ C 23 lv st (mm_up h k (cO ci (fs.set 2 v))) kc ks
    | _ => False) := rfl
theorem g54_23  : mm_step (mm_rw mr_54) none tb call Q C 23 lv st h kc ks = (match mm_rd lv 0 with
    | some (.inr (.inr (.inl (some k)))) => C 24 lv (vR k :: st) h kc ks
    | some (.inr (.inr (.inr t))) => C 24 lv (vT t :: st) h kc ks
    | _ => False) := rfl
theorem g54_24  : mm_step (mm_rw mr_54) none tb call Q C 24 lv st h kc ks = (1 ≤ kc ∧ mm_nf 4 ≤ ks ∧ C 27 lv (vR h.1 :: st) (mm_al h (cO 4 (mm_df 4))) (kc - 1) (ks - mm_nf 4)) := rfl
theorem g54_27 (v : AV) : mm_step (mm_rw mr_54) none tb call Q C 27 lv (v :: st) h kc ks = (mm_c2 v = false ∧ C 28 lv (v :: v :: st) h kc ks) := rfl
theorem g54_28  : mm_step (mm_rw mr_54) none tb call Q C 28 lv st h kc ks = ((match (st.take 1).reverse with
    | .inr (.inr (.inl (some _))) :: _ => True
    | _ => False) ∧ mm_call call C 24 1 28 lv st h kc ks) := rfl
theorem g54_31 (v : AV) (k : Nat) : mm_step (mm_rw mr_54) none tb call Q C 31 lv (v :: .inr (.inr (.inl (some k))) :: st) h kc ks = (match h.2 k with
    | some (.inr (.inr (ci, fs))) => ci = 7 ∧ 3 < fs.length ∧ mm_fit (mm_ft 7 3) v ∧ C 34 lv st (mm_up h k (cO ci (fs.set 3 v))) kc ks
    | _ => False) := rfl
theorem g54_34  : mm_step (mm_rw mr_54) none tb call Q C 34 lv st h kc ks = (match mm_rd lv 0 with
    | some (.inr (.inr (.inl (some k)))) => C 35 lv (vR k :: st) h kc ks
    | some (.inr (.inr (.inr t))) => C 35 lv (vT t :: st) h kc ks
    | _ => False) := rfl
theorem g54_35  : mm_step (mm_rw mr_54) none tb call Q C 35 lv st h kc ks = (1 ≤ kc ∧ mm_nf 1 ≤ ks ∧ C 38 lv (vR h.1 :: st) (mm_al h (cO 1 (mm_df 1))) (kc - 1) (ks - mm_nf 1)) := rfl
theorem g54_38 (v : AV) : mm_step (mm_rw mr_54) none tb call Q C 38 lv (v :: st) h kc ks = (mm_c2 v = false ∧ C 39 lv (v :: v :: st) h kc ks) := rfl
theorem g54_39  : mm_step (mm_rw mr_54) none tb call Q C 39 lv st h kc ks = ((match (st.take 1).reverse with
    | .inr (.inr (.inl (some _))) :: _ => True
    | _ => False) ∧ mm_call call C 4 1 39 lv st h kc ks) := rfl
theorem g54_42 (v : AV) (k : Nat) : mm_step (mm_rw mr_54) none tb call Q C 42 lv (v :: .inr (.inr (.inl (some k))) :: st) h kc ks = (match h.2 k with
    | some (.inr (.inr (ci, fs))) => ci = 7 ∧ 5 < fs.length ∧ mm_fit (mm_ft 7 5) v ∧ C 45 lv st (mm_up h k (cO ci (fs.set 5 v))) kc ks
    | _ => False) := rfl
theorem g54_45  : mm_step (mm_rw mr_54) none tb call Q C 45 lv st h kc ks = (match mm_rd lv 0 with
    | some (.inr (.inr (.inl (some k)))) => C 46 lv (vR k :: st) h kc ks
    | some (.inr (.inr (.inr t))) => C 46 lv (vT t :: st) h kc ks
    | _ => False) := rfl
theorem g54_46  : mm_step (mm_rw mr_54) none tb call Q C 46 lv st h kc ks = (1 ≤ kc ∧ mm_nf 0 ≤ ks ∧ C 49 lv (vR h.1 :: st) (mm_al h (cO 0 (mm_df 0))) (kc - 1) (ks - mm_nf 0)) := rfl
theorem g54_49 (v : AV) : mm_step (mm_rw mr_54) none tb call Q C 49 lv (v :: st) h kc ks = (mm_c2 v = false ∧ C 50 lv (v :: v :: st) h kc ks) := rfl
theorem g54_50  : mm_step (mm_rw mr_54) none tb call Q C 50 lv st h kc ks = ((match (st.take 1).reverse with
    | .inr (.inr (.inl (some _))) :: _ => True
    | _ => False) ∧ mm_call call C 0 1 50 lv st h kc ks) := rfl
theorem g54_53 (v : AV) (k : Nat) : mm_step (mm_rw mr_54) none tb call Q C 53 lv (v :: .inr (.inr (.inl (some k))) :: st) h kc ks = (match h.2 k with
    | some (.inr (.inr (ci, fs))) => ci = 7 ∧ 6 < fs.length ∧ mm_fit (mm_ft 7 6) v ∧ C 56 lv st (mm_up h k (cO ci (fs.set 6 v))) kc ks
    | _ => False) := rfl
theorem g54_56  : mm_step (mm_rw mr_54) none tb call Q C 56 lv st h kc ks = (match mm_rd lv 0 with
    | some (.inr (.inr (.inl (some k)))) => C 57 lv (vR k :: st) h kc ks
    | some (.inr (.inr (.inr t))) => C 57 lv (vT t :: st) h kc ks
    | _ => False) := rfl
theorem g54_57  : mm_step (mm_rw mr_54) none tb call Q C 57 lv st h kc ks = (C 58 lv (vI 2 :: st) h kc ks) := rfl
theorem g54_58 (n : Int32) : mm_step (mm_rw mr_54) none tb call Q C 58 lv (.inl n :: st) h kc ks = (¬ n < 0 ∧ n.toNatClampNeg ≤ 1000 ∧ 1 ≤ kc ∧ n.toNatClampNeg ≤ ks ∧ C 61 lv (vR h.1 :: st) (mm_al h (cQ 1 n.toNatClampNeg (fun _ => none))) (kc - 1) (ks - n.toNatClampNeg)) := rfl
theorem g54_61 (v : AV) (k : Nat) : mm_step (mm_rw mr_54) none tb call Q C 61 lv (v :: .inr (.inr (.inl (some k))) :: st) h kc ks = (match h.2 k with
    | some (.inr (.inr (ci, fs))) => ci = 7 ∧ 7 < fs.length ∧ mm_fit (mm_ft 7 7) v ∧ C 64 lv st (mm_up h k (cO ci (fs.set 7 v))) kc ks
    | _ => False) := rfl
theorem g54_64  : mm_step (mm_rw mr_54) none tb call Q C 64 lv st h kc ks = (match mm_rd lv 0 with
    | some (.inr (.inr (.inl (some k)))) => C 65 lv (vR k :: st) h kc ks
    | some (.inr (.inr (.inr t))) => C 65 lv (vT t :: st) h kc ks
    | _ => False) := rfl
theorem g54_65  : mm_step (mm_rw mr_54) none tb call Q C 65 lv st h kc ks = (1 ≤ kc ∧ mm_nf 2 ≤ ks ∧ C 68 lv (vR h.1 :: st) (mm_al h (cO 2 (mm_df 2))) (kc - 1) (ks - mm_nf 2)) := rfl
theorem g54_68 (v : AV) : mm_step (mm_rw mr_54) none tb call Q C 68 lv (v :: st) h kc ks = (mm_c2 v = false ∧ C 69 lv (v :: v :: st) h kc ks) := rfl
theorem g54_69  : mm_step (mm_rw mr_54) none tb call Q C 69 lv st h kc ks = ((match (st.take 1).reverse with
    | .inr (.inr (.inl (some _))) :: _ => True
    | _ => False) ∧ mm_call call C 8 1 69 lv st h kc ks) := rfl
theorem g54_72 (v : AV) (k : Nat) : mm_step (mm_rw mr_54) none tb call Q C 72 lv (v :: .inr (.inr (.inl (some k))) :: st) h kc ks = (match h.2 k with
    | some (.inr (.inr (ci, fs))) => ci = 7 ∧ 9 < fs.length ∧ mm_fit (mm_ft 7 9) v ∧ C 75 lv st (mm_up h k (cO ci (fs.set 9 v))) kc ks
    | _ => False) := rfl
theorem g54_75  : mm_step (mm_rw mr_54) none tb call Q C 75 lv st h kc ks = (match mm_rd lv 0 with
    | some (.inr (.inr (.inl (some k)))) => C 76 lv (vR k :: st) h kc ks
    | some (.inr (.inr (.inr t))) => C 76 lv (vT t :: st) h kc ks
    | _ => False) := rfl
theorem g54_76  : mm_step (mm_rw mr_54) none tb call Q C 76 lv st h kc ks = (1 ≤ kc ∧ mm_nf 3 ≤ ks ∧ C 79 lv (vR h.1 :: st) (mm_al h (cO 3 (mm_df 3))) (kc - 1) (ks - mm_nf 3)) := rfl
theorem g54_79 (v : AV) : mm_step (mm_rw mr_54) none tb call Q C 79 lv (v :: st) h kc ks = (mm_c2 v = false ∧ C 80 lv (v :: v :: st) h kc ks) := rfl
theorem g54_80  : mm_step (mm_rw mr_54) none tb call Q C 80 lv st h kc ks = ((match (st.take 1).reverse with
    | .inr (.inr (.inl (some _))) :: _ => True
    | _ => False) ∧ mm_call call C 19 1 80 lv st h kc ks) := rfl
theorem g54_83 (v : AV) (k : Nat) : mm_step (mm_rw mr_54) none tb call Q C 83 lv (v :: .inr (.inr (.inl (some k))) :: st) h kc ks = (match h.2 k with
    | some (.inr (.inr (ci, fs))) => ci = 7 ∧ 10 < fs.length ∧ mm_fit (mm_ft 7 10) v ∧ C 86 lv st (mm_up h k (cO ci (fs.set 10 v))) kc ks
    | _ => False) := rfl
theorem g54_86  : mm_step (mm_rw mr_54) none tb call Q C 86 lv st h kc ks = (match mm_rd lv 0 with
    | some (.inr (.inr (.inl (some k)))) => C 87 lv (vR k :: st) h kc ks
    | some (.inr (.inr (.inr t))) => C 87 lv (vT t :: st) h kc ks
    | _ => False) := rfl
theorem g54_87  : mm_step (mm_rw mr_54) none tb call Q C 87 lv st h kc ks = (1 ≤ kc ∧ mm_nf 5 ≤ ks ∧ C 90 lv (vR h.1 :: st) (mm_al h (cO 5 (mm_df 5))) (kc - 1) (ks - mm_nf 5)) := rfl
theorem g54_90 (v : AV) : mm_step (mm_rw mr_54) none tb call Q C 90 lv (v :: st) h kc ks = (mm_c2 v = false ∧ C 91 lv (v :: v :: st) h kc ks) := rfl
theorem g54_91  : mm_step (mm_rw mr_54) none tb call Q C 91 lv st h kc ks = ((match (st.take 1).reverse with
    | .inr (.inr (.inl (some _))) :: _ => True
    | _ => False) ∧ mm_call call C 31 1 91 lv st h kc ks) := rfl
theorem g54_94 (v : AV) (k : Nat) : mm_step (mm_rw mr_54) none tb call Q C 94 lv (v :: .inr (.inr (.inl (some k))) :: st) h kc ks = (match h.2 k with
    | some (.inr (.inr (ci, fs))) => ci = 7 ∧ 11 < fs.length ∧ mm_fit (mm_ft 7 11) v ∧ C 97 lv st (mm_up h k (cO ci (fs.set 11 v))) kc ks
    | _ => False) := rfl
theorem g54_97  : mm_step (mm_rw mr_54) none tb call Q C 97 lv st h kc ks = (C 98 lv (vI 0 :: st) h kc ks) := rfl
theorem g54_98 (a : Int32) : mm_step (mm_rw mr_54) none tb call Q C 98 lv (.inl a :: st) h kc ks = (C 99 (mm_st1 lv 1 (vI a)) st h kc ks) := rfl
theorem g54_99  : mm_step (mm_rw mr_54) none tb call Q C 99 lv st h kc ks = (match mm_rd lv 1 with
    | some (.inl a) => C 100 lv (vI a :: st) h kc ks
    | _ => False) := rfl
theorem g54_100  : mm_step (mm_rw mr_54) none tb call Q C 100 lv st h kc ks = (C 101 lv (vI 2 :: st) h kc ks) := rfl
theorem g54_101 (a b : Int32) : mm_step (mm_rw mr_54) none tb call Q C 101 lv (.inl b :: .inl a :: st) h kc ks = ((b ≤ a → C 123 lv st h kc ks) ∧ (¬ b ≤ a → C 104 lv st h kc ks)) := rfl
theorem g54_104  : mm_step (mm_rw mr_54) none tb call Q C 104 lv st h kc ks = (match mm_rd lv 0 with
    | some (.inr (.inr (.inl (some k)))) => C 105 lv (vR k :: st) h kc ks
    | some (.inr (.inr (.inr t))) => C 105 lv (vT t :: st) h kc ks
    | _ => False) := rfl
theorem g54_105 (k : Nat) : mm_step (mm_rw mr_54) none tb call Q C 105 lv (.inr (.inr (.inl (some k))) :: st) h kc ks = (match h.2 k with
    | some (.inr (.inr (ci, fs))) => ci = 7 ∧ (match fs[7]? with
      | some v => C 108 lv (v :: st) h kc ks
      | none => False)
    | _ => False) := rfl
theorem g54_108  : mm_step (mm_rw mr_54) none tb call Q C 108 lv st h kc ks = (match mm_rd lv 1 with
    | some (.inl a) => C 109 lv (vI a :: st) h kc ks
    | _ => False) := rfl
theorem g54_109  : mm_step (mm_rw mr_54) none tb call Q C 109 lv st h kc ks = (1 ≤ kc ∧ mm_nf 1 ≤ ks ∧ C 112 lv (vR h.1 :: st) (mm_al h (cO 1 (mm_df 1))) (kc - 1) (ks - mm_nf 1)) := rfl
theorem g54_112 (v : AV) : mm_step (mm_rw mr_54) none tb call Q C 112 lv (v :: st) h kc ks = (mm_c2 v = false ∧ C 113 lv (v :: v :: st) h kc ks) := rfl
theorem g54_113  : mm_step (mm_rw mr_54) none tb call Q C 113 lv st h kc ks = ((match (st.take 1).reverse with
    | .inr (.inr (.inl (some _))) :: _ => True
    | _ => False) ∧ mm_call call C 4 1 113 lv st h kc ks) := rfl
theorem g54_116 (v : Nat) (i : Int32) (k : Nat) : mm_step (mm_rw mr_54) none tb call Q C 116 lv (.inr (.inr (.inl (some v))) :: .inl i :: .inr (.inr (.inl (some k))) :: st) h kc ks = (match h.2 k, h.2 v with
    | some (.inr (.inl (ci, n, f))), some (.inr (.inr (cj, _))) => ci = cj ∧ (ci = 1 ∨ ci = 5) ∧ vp_in i n ∧ C 117 lv st (mm_up h k (cQ ci n (va_up f i.toNatClampNeg (some v)))) kc ks
    | _, _ => False) := rfl
theorem g54_117  : mm_step (mm_rw mr_54) none tb call Q C 117 lv st h kc ks = (match mm_rd lv 1 with
    | some (.inl a) => C 120 (mm_st1 lv 1 (vI (a + 1))) st h kc ks
    | _ => False) := rfl
theorem g54_120  : mm_step (mm_rw mr_54) none tb call Q C 120 lv st h kc ks = (C 99 lv st h kc ks) := rfl
theorem g54_123  : mm_step (mm_rw mr_54) none tb call Q C 123 lv st h kc ks = (match mm_rd lv 0 with
    | some (.inr (.inr (.inl (some k)))) => C 124 lv (vR k :: st) h kc ks
    | some (.inr (.inr (.inr t))) => C 124 lv (vT t :: st) h kc ks
    | _ => False) := rfl
theorem g54_124  : mm_step (mm_rw mr_54) none tb call Q C 124 lv st h kc ks = (match mm_rd lv 0 with
    | some (.inr (.inr (.inl (some k)))) => C 125 lv (vR k :: st) h kc ks
    | some (.inr (.inr (.inr t))) => C 125 lv (vT t :: st) h kc ks
    | _ => False) := rfl
theorem g54_125 (k : Nat) : mm_step (mm_rw mr_54) none tb call Q C 125 lv (.inr (.inr (.inl (some k))) :: st) h kc ks = (match h.2 k with
    | some (.inr (.inr (ci, fs))) => ci = 7 ∧ (match fs[2]? with
      | some v => C 128 lv (v :: st) h kc ks
      | none => False)
    | _ => False) := rfl
theorem g54_128 (k : Nat) : mm_step (mm_rw mr_54) none tb call Q C 128 lv (.inr (.inr (.inl (some k))) :: st) h kc ks = (match h.2 k with
    | some (.inr (.inr (ci, fs))) => ci = 4 ∧ (match fs[0]? with
      | some v => C 131 lv (v :: st) h kc ks
      | none => False)
    | _ => False) := rfl
theorem g54_131 (v : AV) (k : Nat) : mm_step (mm_rw mr_54) none tb call Q C 131 lv (v :: .inr (.inr (.inl (some k))) :: st) h kc ks = (match h.2 k with
    | some (.inr (.inr (ci, fs))) => ci = 7 ∧ 4 < fs.length ∧ mm_fit (mm_ft 7 4) v ∧ C 134 lv st (mm_up h k (cO ci (fs.set 4 v))) kc ks
    | _ => False) := rfl
theorem g54_134  : mm_step (mm_rw mr_54) none tb call Q C 134 lv st h kc ks = (match mm_rd lv 0 with
    | some (.inr (.inr (.inl (some k)))) => C 135 lv (vR k :: st) h kc ks
    | some (.inr (.inr (.inr t))) => C 135 lv (vT t :: st) h kc ks
    | _ => False) := rfl
theorem g54_135 (k : Nat) : mm_step (mm_rw mr_54) none tb call Q C 135 lv (.inr (.inr (.inl (some k))) :: st) h kc ks = (match h.2 k with
    | some (.inr (.inr (ci, fs))) => ci = 7 ∧ (match fs[5]? with
      | some v => C 138 lv (v :: st) h kc ks
      | none => False)
    | _ => False) := rfl
theorem g54_138  : mm_step (mm_rw mr_54) none tb call Q C 138 lv st h kc ks = (match mm_rd lv 0 with
    | some (.inr (.inr (.inl (some k)))) => C 139 lv (vR k :: st) h kc ks
    | some (.inr (.inr (.inr t))) => C 139 lv (vT t :: st) h kc ks
    | _ => False) := rfl
theorem g54_139 (k : Nat) : mm_step (mm_rw mr_54) none tb call Q C 139 lv (.inr (.inr (.inl (some k))) :: st) h kc ks = (match h.2 k with
    | some (.inr (.inr (ci, fs))) => ci = 7 ∧ (match fs[2]? with
      | some v => C 142 lv (v :: st) h kc ks
      | none => False)
    | _ => False) := rfl
theorem g54_142  : mm_step (mm_rw mr_54) none tb call Q C 142 lv st h kc ks = ((match (st.take 2).reverse with
    | .inr (.inr (.inl (some k))) :: _ => (match h.2 k with
      | some (.inr (.inr (ci, _))) => mm_cn ci = (mm_mi 5).1.cls
      | _ => False)
    | _ => False) ∧ mm_call call C 5 2 142 lv st h kc ks) := rfl
theorem g54_145  : mm_step (mm_rw mr_54) none tb call Q C 145 lv [] h kc ks = ((none : Option FieldType) = none ∧ Q none h) := rfl
end G54

theorem df_7 : mm_df 7 = [vN, vI 0, vN, vN, vI 0, vN, vN, vN, vI 0, vN, vN, vN, vN, vL 0] := rfl
theorem nf_7 : mm_nf 7 = 14 := rfl
/-- the state that a heap's cells show -/
def rdA (o : Option AC) : Nat → Int32 := match o with
  | some (.inl (_, _, f)) => f
  | _ => fun _ => 0
def rdO (o : Option AC) (j : Nat) : Int32 := match o with
  | some (.inr (.inr (_, fs))) => (match fs[j]? with
    | some (.inl x) => x
    | _ => 0)
  | _ => 0
def sOf (H : Nat → Option AC) : MM := (fun k => rdA (H k), fun k j => rdO (H k) j, false, false, 0, 0)
/-- a cell has its form -/
def SH (k : Nat) (o : Option AC) : Prop := o = HPf (sOf (fun _ => o)) k
section BINIT
variable {tb : Nat → Nat × (Nat → Int32)} {d : Nat}
theorem c_open {h : AH} {xs : List Nat} {x0 x1 x2 : Int32} {f19 f20 : Nat → Int32} (a16 : h.2 16 = some (cO 1 [vR 17, vR 19, vR 20])) (a2 : h.2 2 = some (cO 4 [vI x0, vI x1, vI x2, vR 3, vR 5, vR 7, vR 8])) (w : Rw h 3 4 xs) (z : Rz h 17 18) (a19 : h.2 19 = some (cI 8 f19)) (a20 : h.2 20 = some (cI 8 f20)) : WM tb (d + 2) k_Desk_openWith [vR 16, vR 2] h 0 0 (fun z h' => z = none ∧ Rw h' 17 18 xs ∧ h'.2 19 = some (cI 8 (fun j => if j < 8 then mI 9 else f19 j)) ∧ h'.2 20 = some (cI 8 (fun j => if j < 8 then mI 9 else f20 j)) ∧ FR h h' [17, 18, 19, 20]) := by
  obtain ⟨zz, zf, z17, z18⟩ := id z
  refine WM.of mi_5 rfl rfl (Nat.le_of_ble_eq_true rfl) ?_
  show WP (mm_rw mr_5) none tb (WM tb (d + 1)) _ 0 [(0, vR 16), (1, vR 2)] [] h 0 0
  (try simp only [Option.toList_some, Option.toList_none, List.nil_append, List.append_nil, List.cons_append, Nat.sub_zero, Nat.sub_self, Nat.zero_sub]); refine Go.wp sp_5 200 ?_; simp only [↓g5_0, ↓g5_1, ↓g5_4, ↓g5_5, ↓g5_8, ↓g5_11, ↓g5_12, ↓g5_15, ↓g5_17, ↓g5_20, ↓g5_21, ↓g5_24, ↓g5_26, ↓g5_29, cl_32, cl_159, cn_0, cn_1, cn_2, cn_3, cn_4, cn_5, cn_6, cn_7, cn_8, ↓Go_s, ↓GoC_a, ↓reduceIte, ↓mm_call_eq, ↓mmw_nil, ↓mmw_cons, List.take_succ_cons, List.take_zero, List.take_nil, List.drop_succ_cons, List.drop_zero, List.drop_nil, List.reverse_cons, List.reverse_nil, List.nil_append, List.cons_append, List.append_nil, Option.toList_some, Option.toList_none, Nat.sub_zero, Nat.le_refl, mmr_cons, mm_st1, mm_st2, mmi_nil, mmi_cons, mmc_I, mmc_L, mmc_R, mmu_get, mmu_one, mma_get, mma_one, List.filter_cons, List.filter_nil, List.contains_cons, List.contains_nil, Nat.reduceBEq, Nat.reduceAdd, Nat.reduceLT, Nat.reduceSub, Nat.reduceLeDiff, Nat.reduceEqDiff, Int32.reduceAdd, Bool.not_true, Bool.not_false, Bool.and_true, Bool.true_and, Bool.and_false, Bool.false_and, Bool.or_false, Bool.false_or, Bool.or_true, Bool.true_or, if_true, if_false, ite_true, ite_false, Bool.false_eq_true, List.getElem?_cons_zero, List.getElem?_cons_succ, List.length_cons, List.length_nil, true_and, and_true, List.set_cons_zero, List.set_cons_succ, Fin.isValue, Fin.val_zero, Fin.val_one, Fin.val_two, Fin.reduceFinMk, Nat.zero_add, a16, a2, z17, nu_fitI, nu_fitL, nu_fitO, nu_fitA, nu_fitB0, nu_fitB1]
  refine ⟨0, 0, _, Nat.le_refl _, Nat.le_refl _, c_copyFrom (d := d) w z (by omega) (by omega) (by omega) (by omega) (by omega), fun z h2 hz => ?_⟩
  obtain ⟨rfl, hx, hf⟩ := hz
  have b16 := (hf.2 16 (by simp)).trans a16
  have b19 := (hf.2 19 (by simp)).trans a19
  have b20 := (hf.2 20 (by simp)).trans a20
  (try simp only [Option.toList_some, Option.toList_none, List.nil_append, List.append_nil, List.cons_append, Nat.sub_zero, Nat.sub_self, Nat.zero_sub]); refine Go.wp sp_5 200 ?_; simp only [↓g5_0, ↓g5_1, ↓g5_4, ↓g5_5, ↓g5_8, ↓g5_11, ↓g5_12, ↓g5_15, ↓g5_17, ↓g5_20, ↓g5_21, ↓g5_24, ↓g5_26, ↓g5_29, cl_32, cl_159, cn_0, cn_1, cn_2, cn_3, cn_4, cn_5, cn_6, cn_7, cn_8, ↓Go_s, ↓GoC_a, ↓reduceIte, ↓mm_call_eq, ↓mmw_nil, ↓mmw_cons, List.take_succ_cons, List.take_zero, List.take_nil, List.drop_succ_cons, List.drop_zero, List.drop_nil, List.reverse_cons, List.reverse_nil, List.nil_append, List.cons_append, List.append_nil, Option.toList_some, Option.toList_none, Nat.sub_zero, Nat.le_refl, mmr_cons, mm_st1, mm_st2, mmi_nil, mmi_cons, mmc_I, mmc_L, mmc_R, mmu_get, mmu_one, mma_get, mma_one, List.filter_cons, List.filter_nil, List.contains_cons, List.contains_nil, Nat.reduceBEq, Nat.reduceAdd, Nat.reduceLT, Nat.reduceSub, Nat.reduceLeDiff, Nat.reduceEqDiff, Int32.reduceAdd, Bool.not_true, Bool.not_false, Bool.and_true, Bool.true_and, Bool.and_false, Bool.false_and, Bool.or_false, Bool.false_or, Bool.or_true, Bool.true_or, if_true, if_false, ite_true, ite_false, Bool.false_eq_true, List.getElem?_cons_zero, List.getElem?_cons_succ, List.length_cons, List.length_nil, true_and, and_true, List.set_cons_zero, List.set_cons_succ, Fin.isValue, Fin.val_zero, Fin.val_one, Fin.val_two, Fin.reduceFinMk, Nat.zero_add, b16, nu_fitI, nu_fitL, nu_fitO, nu_fitA, nu_fitB0, nu_fitB1]
  refine ⟨0, 0, _, Nat.le_refl _, Nat.le_refl _, c_fill (d := d) b19 (by omega) _, fun z h' hz => ?_⟩
  obtain ⟨rfl, rfl⟩ := hz
  (try simp only [Option.toList_some, Option.toList_none, List.nil_append, List.append_nil, List.cons_append, Nat.sub_zero, Nat.sub_self, Nat.zero_sub]); refine Go.wp sp_5 200 ?_; simp only [↓g5_0, ↓g5_1, ↓g5_4, ↓g5_5, ↓g5_8, ↓g5_11, ↓g5_12, ↓g5_15, ↓g5_17, ↓g5_20, ↓g5_21, ↓g5_24, ↓g5_26, ↓g5_29, cl_32, cl_159, cn_0, cn_1, cn_2, cn_3, cn_4, cn_5, cn_6, cn_7, cn_8, ↓Go_s, ↓GoC_a, ↓reduceIte, ↓mm_call_eq, ↓mmw_nil, ↓mmw_cons, List.take_succ_cons, List.take_zero, List.take_nil, List.drop_succ_cons, List.drop_zero, List.drop_nil, List.reverse_cons, List.reverse_nil, List.nil_append, List.cons_append, List.append_nil, Option.toList_some, Option.toList_none, Nat.sub_zero, Nat.le_refl, mmr_cons, mm_st1, mm_st2, mmi_nil, mmi_cons, mmc_I, mmc_L, mmc_R, mmu_get, mmu_one, mma_get, mma_one, List.filter_cons, List.filter_nil, List.contains_cons, List.contains_nil, Nat.reduceBEq, Nat.reduceAdd, Nat.reduceLT, Nat.reduceSub, Nat.reduceLeDiff, Nat.reduceEqDiff, Int32.reduceAdd, Bool.not_true, Bool.not_false, Bool.and_true, Bool.true_and, Bool.and_false, Bool.false_and, Bool.or_false, Bool.false_or, Bool.or_true, Bool.true_or, if_true, if_false, ite_true, ite_false, Bool.false_eq_true, List.getElem?_cons_zero, List.getElem?_cons_succ, List.length_cons, List.length_nil, true_and, and_true, List.set_cons_zero, List.set_cons_succ, Fin.isValue, Fin.val_zero, Fin.val_one, Fin.val_two, Fin.reduceFinMk, Nat.zero_add, b16, nu_fitI, nu_fitL, nu_fitO, nu_fitA, nu_fitB0, nu_fitB1]
  refine ⟨0, 0, _, Nat.le_refl _, Nat.le_refl _, c_fill (d := d) (q := 20) (by rw [mmu_get, if_neg (by omega)]; exact b20) (by omega) _, fun z h' hz => ?_⟩
  obtain ⟨rfl, rfl⟩ := hz
  (try simp only [Option.toList_some, Option.toList_none, List.nil_append, List.append_nil, List.cons_append, Nat.sub_zero, Nat.sub_self, Nat.zero_sub]); refine Go.wp sp_5 200 ?_; simp only [↓g5_0, ↓g5_1, ↓g5_4, ↓g5_5, ↓g5_8, ↓g5_11, ↓g5_12, ↓g5_15, ↓g5_17, ↓g5_20, ↓g5_21, ↓g5_24, ↓g5_26, ↓g5_29, cl_32, cl_159, cn_0, cn_1, cn_2, cn_3, cn_4, cn_5, cn_6, cn_7, cn_8, ↓Go_s, ↓GoC_a, ↓reduceIte, ↓mm_call_eq, ↓mmw_nil, ↓mmw_cons, List.take_succ_cons, List.take_zero, List.take_nil, List.drop_succ_cons, List.drop_zero, List.drop_nil, List.reverse_cons, List.reverse_nil, List.nil_append, List.cons_append, List.append_nil, Option.toList_some, Option.toList_none, Nat.sub_zero, Nat.le_refl, mmr_cons, mm_st1, mm_st2, mmi_nil, mmi_cons, mmc_I, mmc_L, mmc_R, mmu_get, mmu_one, mma_get, mma_one, List.filter_cons, List.filter_nil, List.contains_cons, List.contains_nil, Nat.reduceBEq, Nat.reduceAdd, Nat.reduceLT, Nat.reduceSub, Nat.reduceLeDiff, Nat.reduceEqDiff, Int32.reduceAdd, Bool.not_true, Bool.not_false, Bool.and_true, Bool.true_and, Bool.and_false, Bool.false_and, Bool.or_false, Bool.false_or, Bool.or_true, Bool.true_or, if_true, if_false, ite_true, ite_false, Bool.false_eq_true, List.getElem?_cons_zero, List.getElem?_cons_succ, List.length_cons, List.length_nil, true_and, and_true, List.set_cons_zero, List.set_cons_succ, Fin.isValue, Fin.val_zero, Fin.val_one, Fin.val_two, Fin.reduceFinMk, Nat.zero_add, b16, nu_fitI, nu_fitL, nu_fitO, nu_fitA, nu_fitB0, nu_fitB1]
  refine ⟨hx.keep ?_ ?_, (hf.mono (by simp)).tr ((FR.up (by simp)).tr (FR.up (by simp)))⟩
  · simp only [mmu_get, Nat.reduceEqDiff, if_false]
  · simp only [mmu_get, Nat.reduceEqDiff, if_false]

def QBi : AQ := (fun z h' => z = none ∧ h'.1 = 75 ∧ h'.2 0 = some (cO 7 [vR 1, vI 0, vR 2, vR 9, vI 0, vR 16, vR 21, vR 26, vI 0, vR 27, vR 49, vR 63, vN, vL 0]) ∧ h'.2 2 = some (cO 4 [vI 0, vI 2, vI 0, vR 3, vR 5, vR 7, vR 8]) ∧ Rw h' 5 6 (List.range 2) ∧ Rw h' 17 18 (List.range 2) ∧ (∃ f, h'.2 19 = some (cI 8 f) ∧ ∀ b, b < 8 → f b = mI 9) ∧ (∃ f, h'.2 20 = some (cI 8 f) ∧ ∀ b, b < 8 → f b = mI 9) ∧ h'.2 21 = some (cO 0 [vR 22, vR 23, vR 24, vR 25, vI 0]) ∧ h'.2 27 = some (cO 2 [vR 28, vR 29, vI 0, vR 30, vR 31, vR 32, vI 0, vI 0, vI 0, vR 33, vR 34]) ∧ (∀ k, k < 75 → SH k (h'.2 k)) ∧ ∀ k, 75 ≤ k → h'.2 k = none)
theorem Rw_sh {h : AH} {r b : Nat} {xs : List Nat} (h0 : Rw h r b xs) (P : Nat → Option AC → Prop) (h1 : ∀ x : Int32, P r (some (cO 5 [vR b, vI x]))) (h2 : ∀ f, P b (some (cI 8 f))) : P r (h.2 r) ∧ P b (h.2 b) := by
  obtain ⟨f, a1, a2, _⟩ := h0
  rw [a1, a2]
  exact ⟨h1 _, h2 _⟩
theorem C_Binit {h : AH} (h1 : h.1 = 1) (hr : h.2 0 = some (cO 7 [vN, vI 0, vN, vN, vI 0, vN, vN, vN, vI 0, vN, vN, vN, vN, vL 0])) (hno : ∀ k, 1 ≤ k → h.2 k = none) : WM tb (d + 3) k_B_init [vR 0] h 74 477 QBi := by
  refine WM.of mi_54 rfl rfl (Nat.le_of_ble_eq_true rfl) ?_
  show WP (mm_rw mr_54) none tb (WM tb (d + 2)) _ 0 [(0, vR 0)] [] h 74 477

  (try simp only [Option.toList_some, Option.toList_none, List.nil_append, List.append_nil, List.cons_append, Nat.sub_zero, Nat.sub_self, Nat.zero_sub]); refine Go.wp sp_54 200 ?_; simp only [↓g54_0, ↓g54_1, ↓g54_4, ↓g54_5, ↓g54_7, ↓g54_9, ↓g54_12, ↓g54_13, ↓g54_16, ↓g54_17, ↓g54_20, ↓g54_23, ↓g54_24, ↓g54_27, ↓g54_28, ↓g54_31, ↓g54_34, ↓g54_35, ↓g54_38, ↓g54_39, ↓g54_42, ↓g54_45, ↓g54_46, ↓g54_49, ↓g54_50, ↓g54_53, ↓g54_56, ↓g54_57, ↓g54_58, ↓g54_61, ↓g54_64, ↓g54_65, ↓g54_68, ↓g54_69, ↓g54_72, ↓g54_75, ↓g54_76, ↓g54_79, ↓g54_80, ↓g54_83, ↓g54_86, ↓g54_87, ↓g54_90, ↓g54_91, ↓g54_94, ↓g54_97, ↓g54_98, ↓g54_99, ↓g54_100, ↓g54_101, ↓g54_104, ↓g54_105, ↓g54_108, ↓g54_109, ↓g54_112, ↓g54_113, ↓g54_116, ↓g54_117, ↓g54_120, ↓g54_123, ↓g54_124, ↓g54_125, ↓g54_128, ↓g54_131, ↓g54_134, ↓g54_135, ↓g54_138, ↓g54_139, ↓g54_142, ↓g54_145, cl_0, cl_4, cl_5, cl_8, cl_19, cl_24, cl_31, cn_0, cn_1, cn_2, cn_3, cn_4, cn_5, cn_6, cn_7, cn_8, ↓Go_s, ↓GoC_a, ↓reduceIte, ↓mm_call_eq, ↓mmw_nil, ↓mmw_cons, List.take_succ_cons, List.take_zero, List.take_nil, List.drop_succ_cons, List.drop_zero, List.drop_nil, List.reverse_cons, List.reverse_nil, List.nil_append, List.cons_append, List.append_nil, Option.toList_some, Option.toList_none, Nat.sub_zero, Nat.le_refl, mmr_cons, mm_st1, mm_st2, mmi_nil, mmi_cons, mmc_I, mmc_L, mmc_R, mmu_get, mmu_one, mma_get, mma_one, List.filter_cons, List.filter_nil, List.contains_cons, List.contains_nil, Nat.reduceBEq, Nat.reduceAdd, Nat.reduceLT, Nat.reduceSub, Nat.reduceLeDiff, Nat.reduceEqDiff, Int32.reduceAdd, Bool.not_true, Bool.not_false, Bool.and_true, Bool.true_and, Bool.and_false, Bool.false_and, Bool.or_false, Bool.false_or, Bool.or_true, Bool.true_or, if_true, if_false, ite_true, ite_false, Bool.false_eq_true, List.getElem?_cons_zero, List.getElem?_cons_succ, List.length_cons, List.length_nil, true_and, and_true, List.set_cons_zero, List.set_cons_succ, Fin.isValue, Fin.val_zero, Fin.val_one, Fin.val_two, Fin.reduceFinMk, Nat.zero_add, h1, hr, cl0, cl1, cl2, cl3, cl4, cl5, cl6, cl7, cl8, cl16, cl40, nf_0, nf_1, nf_2, nf_3, nf_4, nf_5, df_0, df_1, df_2, df_3, df_4, df_5, ft_7_0, ft_7_10, ft_7_11, ft_7_2, ft_7_3, ft_7_4, ft_7_5, ft_7_6, ft_7_7, ft_7_9, nu_fitI, nu_fitL, nu_fitO, nu_fitA, nu_fitB0, nu_fitB1]
  refine ⟨by decide, 6, 28, _, by decide, by decide, C_Pinit_2 (d := d) (by simp only [mmu_get, mma_get, mma_one, mmu_one, h1, Nat.reduceAdd, Nat.reduceEqDiff, if_true, if_false, List.set_cons_zero, List.set_cons_succ, Nat.reduceLT, df_0, df_1, df_2, df_3, df_4, df_5]) (by simp only [mmu_get, mma_get, mma_one, mmu_one, h1, hr, Nat.reduceAdd, Nat.reduceEqDiff, if_true, if_false, List.set_cons_zero, List.set_cons_succ, Nat.reduceLT, df_0, df_1, df_2, df_3, df_4, df_5]), fun z g2 hz => ?_⟩
  obtain ⟨rfl, n2, c2, w3, w5, c7, c8, fr2⟩ := hz
  have z2 : g2.2 0 = some (cO 7 [vR 1, vI 0, vN, vN, vI 0, vN, vN, vN, vI 0, vN, vN, vN, vN, vL 0]) := by
    rw [fr2 0 (by omega)]
    simp only [mmu_get, mma_get, mma_one, mmu_one, h1, hr, Nat.reduceAdd, Nat.reduceEqDiff, if_true, if_false, List.set_cons_zero, List.set_cons_succ]
  have c1 : g2.2 1 = some (.inl (.byte, 40, z0)) := by
    rw [fr2 1 (by omega)]
    simp only [mmu_get, mma_get, mma_one, mmu_one, h1, hr, Nat.reduceAdd, Nat.reduceEqDiff, if_true, if_false]
  have no2 : ∀ k, 9 ≤ k → g2.2 k = none := fun k hk => by
    rw [fr2 k (by omega), mma_get, mmu_one, mma_one, h1, if_neg (by omega), mmu_get, if_neg (by omega), mma_get, h1, if_neg (by omega), hno k (by omega)]
  have s2 : ∀ k, 1 ≤ k → k < 9 → SH k (g2.2 k) := fun k k1 k2 => by
    have hk : k = 1 ∨ k = 2 ∨ k = 3 ∨ k = 4 ∨ k = 5 ∨ k = 6 ∨ k = 7 ∨ k = 8 := by omega
    rcases hk with rfl | rfl | rfl | rfl | rfl | rfl | rfl | rfl
    · rw [c1]; rfl
    · rw [c2]; rfl
    · exact (Rw_sh w3 SH (fun _ => rfl) (fun _ => rfl)).1
    · exact (Rw_sh w3 SH (fun _ => rfl) (fun _ => rfl)).2
    · exact (Rw_sh w5 SH (fun _ => rfl) (fun _ => rfl)).1
    · exact (Rw_sh w5 SH (fun _ => rfl) (fun _ => rfl)).2
    · rw [c7]; rfl
    · rw [c8]; rfl
  (try simp only [Option.toList_some, Option.toList_none, List.nil_append, List.append_nil, List.cons_append, Nat.sub_zero, Nat.sub_self, Nat.zero_sub]); refine Go.wp sp_54 200 ?_; simp only [↓g54_0, ↓g54_1, ↓g54_4, ↓g54_5, ↓g54_7, ↓g54_9, ↓g54_12, ↓g54_13, ↓g54_16, ↓g54_17, ↓g54_20, ↓g54_23, ↓g54_24, ↓g54_27, ↓g54_28, ↓g54_31, ↓g54_34, ↓g54_35, ↓g54_38, ↓g54_39, ↓g54_42, ↓g54_45, ↓g54_46, ↓g54_49, ↓g54_50, ↓g54_53, ↓g54_56, ↓g54_57, ↓g54_58, ↓g54_61, ↓g54_64, ↓g54_65, ↓g54_68, ↓g54_69, ↓g54_72, ↓g54_75, ↓g54_76, ↓g54_79, ↓g54_80, ↓g54_83, ↓g54_86, ↓g54_87, ↓g54_90, ↓g54_91, ↓g54_94, ↓g54_97, ↓g54_98, ↓g54_99, ↓g54_100, ↓g54_101, ↓g54_104, ↓g54_105, ↓g54_108, ↓g54_109, ↓g54_112, ↓g54_113, ↓g54_116, ↓g54_117, ↓g54_120, ↓g54_123, ↓g54_124, ↓g54_125, ↓g54_128, ↓g54_131, ↓g54_134, ↓g54_135, ↓g54_138, ↓g54_139, ↓g54_142, ↓g54_145, cl_0, cl_4, cl_5, cl_8, cl_19, cl_24, cl_31, cn_0, cn_1, cn_2, cn_3, cn_4, cn_5, cn_6, cn_7, cn_8, ↓Go_s, ↓GoC_a, ↓reduceIte, ↓mm_call_eq, ↓mmw_nil, ↓mmw_cons, List.take_succ_cons, List.take_zero, List.take_nil, List.drop_succ_cons, List.drop_zero, List.drop_nil, List.reverse_cons, List.reverse_nil, List.nil_append, List.cons_append, List.append_nil, Option.toList_some, Option.toList_none, Nat.sub_zero, Nat.le_refl, mmr_cons, mm_st1, mm_st2, mmi_nil, mmi_cons, mmc_I, mmc_L, mmc_R, mmu_get, mmu_one, mma_get, mma_one, List.filter_cons, List.filter_nil, List.contains_cons, List.contains_nil, Nat.reduceBEq, Nat.reduceAdd, Nat.reduceLT, Nat.reduceSub, Nat.reduceLeDiff, Nat.reduceEqDiff, Int32.reduceAdd, Bool.not_true, Bool.not_false, Bool.and_true, Bool.true_and, Bool.and_false, Bool.false_and, Bool.or_false, Bool.false_or, Bool.or_true, Bool.true_or, if_true, if_false, ite_true, ite_false, Bool.false_eq_true, List.getElem?_cons_zero, List.getElem?_cons_succ, List.length_cons, List.length_nil, true_and, and_true, List.set_cons_zero, List.set_cons_succ, Fin.isValue, Fin.val_zero, Fin.val_one, Fin.val_two, Fin.reduceFinMk, Nat.zero_add, n2, z2, cl0, cl1, cl2, cl3, cl4, cl5, cl6, cl7, cl8, cl16, cl40, nf_0, nf_1, nf_2, nf_3, nf_4, nf_5, df_0, df_1, df_2, df_3, df_4, df_5, ft_7_0, ft_7_10, ft_7_11, ft_7_2, ft_7_3, ft_7_4, ft_7_5, ft_7_6, ft_7_7, ft_7_9, nu_fitI, nu_fitL, nu_fitO, nu_fitA, nu_fitB0, nu_fitB1]
  refine ⟨6, 28, _, by decide, by decide, C_Pinit_9 (d := d) (by simp only [mmu_get, mma_get, mma_one, mmu_one, n2, Nat.reduceAdd, Nat.reduceEqDiff, if_true, if_false, List.set_cons_zero, List.set_cons_succ, Nat.reduceLT, df_0, df_1, df_2, df_3, df_4, df_5]) (by simp only [mmu_get, mma_get, mma_one, mmu_one, n2, z2, Nat.reduceAdd, Nat.reduceEqDiff, if_true, if_false, List.set_cons_zero, List.set_cons_succ, Nat.reduceLT, df_0, df_1, df_2, df_3, df_4, df_5]), fun z g3 hz => ?_⟩
  obtain ⟨rfl, n3, p9, p10, p12, p14, p15, fr3⟩ := hz
  have fk3 : ∀ k, 1 ≤ k → k < 9 → g3.2 k = g2.2 k := fun k _ _ => by
    rw [fr3 k (by omega), mma_get, mmu_one, n2, if_neg (by omega), mmu_get, if_neg (by omega)]
  have no3 : ∀ k, 16 ≤ k → g3.2 k = none := fun k hk => by
    rw [fr3 k (by omega), mma_get, mmu_one, n2, if_neg (by omega), mmu_get, if_neg (by omega), no2 k (by omega)]
  have z3 : g3.2 0 = some (cO 7 [vR 1, vI 0, vR 2, vN, vI 0, vN, vN, vN, vI 0, vN, vN, vN, vN, vL 0]) := by
    rw [fr3 0 (by omega)]
    simp only [mmu_get, mma_get, mma_one, mmu_one, n2, z2, Nat.reduceAdd, Nat.reduceEqDiff, if_true, if_false, List.set_cons_zero, List.set_cons_succ]
  have s3 : ∀ k, 1 ≤ k → k < 16 → SH k (g3.2 k) := fun k k1 k2 => by
    by_cases hlt : k < 9
    · rw [fk3 k k1 (by omega)]
      exact s2 k k1 hlt
    · have hk : k = 9 ∨ k = 10 ∨ k = 11 ∨ k = 12 ∨ k = 13 ∨ k = 14 ∨ k = 15 := by omega
      rcases hk with rfl | rfl | rfl | rfl | rfl | rfl | rfl
      · rw [p9]; rfl
      · exact (Rw_sh p10 SH (fun _ => rfl) (fun _ => rfl)).1
      · exact (Rw_sh p10 SH (fun _ => rfl) (fun _ => rfl)).2
      · exact (Rw_sh p12 SH (fun _ => rfl) (fun _ => rfl)).1
      · exact (Rw_sh p12 SH (fun _ => rfl) (fun _ => rfl)).2
      · rw [p14]; rfl
      · rw [p15]; rfl
  have c2c := (fk3 2 (by omega) (by omega)).trans c2
  have w3c := w3.keep (fk3 3 (by omega) (by omega)) (fk3 4 (by omega) (by omega))
  have w5c := w5.keep (fk3 5 (by omega) (by omega)) (fk3 6 (by omega) (by omega))
  (try simp only [Option.toList_some, Option.toList_none, List.nil_append, List.append_nil, List.cons_append, Nat.sub_zero, Nat.sub_self, Nat.zero_sub]); refine Go.wp sp_54 200 ?_; simp only [↓g54_0, ↓g54_1, ↓g54_4, ↓g54_5, ↓g54_7, ↓g54_9, ↓g54_12, ↓g54_13, ↓g54_16, ↓g54_17, ↓g54_20, ↓g54_23, ↓g54_24, ↓g54_27, ↓g54_28, ↓g54_31, ↓g54_34, ↓g54_35, ↓g54_38, ↓g54_39, ↓g54_42, ↓g54_45, ↓g54_46, ↓g54_49, ↓g54_50, ↓g54_53, ↓g54_56, ↓g54_57, ↓g54_58, ↓g54_61, ↓g54_64, ↓g54_65, ↓g54_68, ↓g54_69, ↓g54_72, ↓g54_75, ↓g54_76, ↓g54_79, ↓g54_80, ↓g54_83, ↓g54_86, ↓g54_87, ↓g54_90, ↓g54_91, ↓g54_94, ↓g54_97, ↓g54_98, ↓g54_99, ↓g54_100, ↓g54_101, ↓g54_104, ↓g54_105, ↓g54_108, ↓g54_109, ↓g54_112, ↓g54_113, ↓g54_116, ↓g54_117, ↓g54_120, ↓g54_123, ↓g54_124, ↓g54_125, ↓g54_128, ↓g54_131, ↓g54_134, ↓g54_135, ↓g54_138, ↓g54_139, ↓g54_142, ↓g54_145, cl_0, cl_4, cl_5, cl_8, cl_19, cl_24, cl_31, cn_0, cn_1, cn_2, cn_3, cn_4, cn_5, cn_6, cn_7, cn_8, ↓Go_s, ↓GoC_a, ↓reduceIte, ↓mm_call_eq, ↓mmw_nil, ↓mmw_cons, List.take_succ_cons, List.take_zero, List.take_nil, List.drop_succ_cons, List.drop_zero, List.drop_nil, List.reverse_cons, List.reverse_nil, List.nil_append, List.cons_append, List.append_nil, Option.toList_some, Option.toList_none, Nat.sub_zero, Nat.le_refl, mmr_cons, mm_st1, mm_st2, mmi_nil, mmi_cons, mmc_I, mmc_L, mmc_R, mmu_get, mmu_one, mma_get, mma_one, List.filter_cons, List.filter_nil, List.contains_cons, List.contains_nil, Nat.reduceBEq, Nat.reduceAdd, Nat.reduceLT, Nat.reduceSub, Nat.reduceLeDiff, Nat.reduceEqDiff, Int32.reduceAdd, Bool.not_true, Bool.not_false, Bool.and_true, Bool.true_and, Bool.and_false, Bool.false_and, Bool.or_false, Bool.false_or, Bool.or_true, Bool.true_or, if_true, if_false, ite_true, ite_false, Bool.false_eq_true, List.getElem?_cons_zero, List.getElem?_cons_succ, List.length_cons, List.length_nil, true_and, and_true, List.set_cons_zero, List.set_cons_succ, Fin.isValue, Fin.val_zero, Fin.val_one, Fin.val_two, Fin.reduceFinMk, Nat.zero_add, n3, z3, cl0, cl1, cl2, cl3, cl4, cl5, cl6, cl7, cl8, cl16, cl40, nf_0, nf_1, nf_2, nf_3, nf_4, nf_5, df_0, df_1, df_2, df_3, df_4, df_5, ft_7_0, ft_7_10, ft_7_11, ft_7_2, ft_7_3, ft_7_4, ft_7_5, ft_7_6, ft_7_7, ft_7_9, nu_fitI, nu_fitL, nu_fitO, nu_fitA, nu_fitB0, nu_fitB1]
  refine ⟨4, 26, _, by decide, by decide, C_Dinit_16 (d := d) (by simp only [mmu_get, mma_get, mma_one, mmu_one, n3, Nat.reduceAdd, Nat.reduceEqDiff, if_true, if_false, List.set_cons_zero, List.set_cons_succ, Nat.reduceLT, df_0, df_1, df_2, df_3, df_4, df_5]) (by simp only [mmu_get, mma_get, mma_one, mmu_one, n3, z3, Nat.reduceAdd, Nat.reduceEqDiff, if_true, if_false, List.set_cons_zero, List.set_cons_succ, Nat.reduceLT, df_0, df_1, df_2, df_3, df_4, df_5]), fun z g4 hz => ?_⟩
  obtain ⟨rfl, n4, p16, p17, p18, p19, p20, fr4⟩ := hz
  have fk4 : ∀ k, 1 ≤ k → k < 16 → g4.2 k = g3.2 k := fun k _ _ => by
    rw [fr4 k (by omega), mma_get, mmu_one, n3, if_neg (by omega), mmu_get, if_neg (by omega)]
  have no4 : ∀ k, 21 ≤ k → g4.2 k = none := fun k hk => by
    rw [fr4 k (by omega), mma_get, mmu_one, n3, if_neg (by omega), mmu_get, if_neg (by omega), no3 k (by omega)]
  have z4 : g4.2 0 = some (cO 7 [vR 1, vI 0, vR 2, vR 9, vI 0, vN, vN, vN, vI 0, vN, vN, vN, vN, vL 0]) := by
    rw [fr4 0 (by omega)]
    simp only [mmu_get, mma_get, mma_one, mmu_one, n3, z3, Nat.reduceAdd, Nat.reduceEqDiff, if_true, if_false, List.set_cons_zero, List.set_cons_succ]
  have s4 : ∀ k, 1 ≤ k → k < 21 → SH k (g4.2 k) := fun k k1 k2 => by
    by_cases hlt : k < 16
    · rw [fk4 k k1 (by omega)]
      exact s3 k k1 hlt
    · have hk : k = 16 ∨ k = 17 ∨ k = 18 ∨ k = 19 ∨ k = 20 := by omega
      rcases hk with rfl | rfl | rfl | rfl | rfl
      · rw [p16]; rfl
      · rw [p17]; rfl
      · rw [p18]; rfl
      · rw [p19]; rfl
      · rw [p20]; rfl
  have c2d := (fk4 2 (by omega) (by omega)).trans c2c
  have w3d := w3c.keep (fk4 3 (by omega) (by omega)) (fk4 4 (by omega) (by omega))
  have w5d := w5c.keep (fk4 5 (by omega) (by omega)) (fk4 6 (by omega) (by omega))
  (try simp only [Option.toList_some, Option.toList_none, List.nil_append, List.append_nil, List.cons_append, Nat.sub_zero, Nat.sub_self, Nat.zero_sub]); refine Go.wp sp_54 200 ?_; simp only [↓g54_0, ↓g54_1, ↓g54_4, ↓g54_5, ↓g54_7, ↓g54_9, ↓g54_12, ↓g54_13, ↓g54_16, ↓g54_17, ↓g54_20, ↓g54_23, ↓g54_24, ↓g54_27, ↓g54_28, ↓g54_31, ↓g54_34, ↓g54_35, ↓g54_38, ↓g54_39, ↓g54_42, ↓g54_45, ↓g54_46, ↓g54_49, ↓g54_50, ↓g54_53, ↓g54_56, ↓g54_57, ↓g54_58, ↓g54_61, ↓g54_64, ↓g54_65, ↓g54_68, ↓g54_69, ↓g54_72, ↓g54_75, ↓g54_76, ↓g54_79, ↓g54_80, ↓g54_83, ↓g54_86, ↓g54_87, ↓g54_90, ↓g54_91, ↓g54_94, ↓g54_97, ↓g54_98, ↓g54_99, ↓g54_100, ↓g54_101, ↓g54_104, ↓g54_105, ↓g54_108, ↓g54_109, ↓g54_112, ↓g54_113, ↓g54_116, ↓g54_117, ↓g54_120, ↓g54_123, ↓g54_124, ↓g54_125, ↓g54_128, ↓g54_131, ↓g54_134, ↓g54_135, ↓g54_138, ↓g54_139, ↓g54_142, ↓g54_145, cl_0, cl_4, cl_5, cl_8, cl_19, cl_24, cl_31, cn_0, cn_1, cn_2, cn_3, cn_4, cn_5, cn_6, cn_7, cn_8, ↓Go_s, ↓GoC_a, ↓reduceIte, ↓mm_call_eq, ↓mmw_nil, ↓mmw_cons, List.take_succ_cons, List.take_zero, List.take_nil, List.drop_succ_cons, List.drop_zero, List.drop_nil, List.reverse_cons, List.reverse_nil, List.nil_append, List.cons_append, List.append_nil, Option.toList_some, Option.toList_none, Nat.sub_zero, Nat.le_refl, mmr_cons, mm_st1, mm_st2, mmi_nil, mmi_cons, mmc_I, mmc_L, mmc_R, mmu_get, mmu_one, mma_get, mma_one, List.filter_cons, List.filter_nil, List.contains_cons, List.contains_nil, Nat.reduceBEq, Nat.reduceAdd, Nat.reduceLT, Nat.reduceSub, Nat.reduceLeDiff, Nat.reduceEqDiff, Int32.reduceAdd, Bool.not_true, Bool.not_false, Bool.and_true, Bool.true_and, Bool.and_false, Bool.false_and, Bool.or_false, Bool.false_or, Bool.or_true, Bool.true_or, if_true, if_false, ite_true, ite_false, Bool.false_eq_true, List.getElem?_cons_zero, List.getElem?_cons_succ, List.length_cons, List.length_nil, true_and, and_true, List.set_cons_zero, List.set_cons_succ, Fin.isValue, Fin.val_zero, Fin.val_one, Fin.val_two, Fin.reduceFinMk, Nat.zero_add, n4, z4, cl0, cl1, cl2, cl3, cl4, cl5, cl6, cl7, cl8, cl16, cl40, nf_0, nf_1, nf_2, nf_3, nf_4, nf_5, df_0, df_1, df_2, df_3, df_4, df_5, ft_7_0, ft_7_10, ft_7_11, ft_7_2, ft_7_3, ft_7_4, ft_7_5, ft_7_6, ft_7_7, ft_7_9, nu_fitI, nu_fitL, nu_fitO, nu_fitA, nu_fitB0, nu_fitB1]
  refine ⟨4, 64, _, by decide, by decide, C_Ainit (d := d + 1) (by simp only [mmu_get, mma_get, mma_one, mmu_one, n4, Nat.reduceAdd, Nat.reduceEqDiff, if_true, if_false, List.set_cons_zero, List.set_cons_succ, Nat.reduceLT, df_0, df_1, df_2, df_3, df_4, df_5]) (by simp only [mmu_get, mma_get, mma_one, mmu_one, n4, z4, Nat.reduceAdd, Nat.reduceEqDiff, if_true, if_false, List.set_cons_zero, List.set_cons_succ, Nat.reduceLT, df_0, df_1, df_2, df_3, df_4, df_5]), fun z g5 hz => ?_⟩
  obtain ⟨rfl, n5, p21, p22, p23, p24, p25, fr5⟩ := hz
  have fk5 : ∀ k, 1 ≤ k → k < 21 → g5.2 k = g4.2 k := fun k _ _ => by
    rw [fr5 k (by omega), mma_get, mmu_one, n4, if_neg (by omega), mmu_get, if_neg (by omega)]
  have no5 : ∀ k, 26 ≤ k → g5.2 k = none := fun k hk => by
    rw [fr5 k (by omega), mma_get, mmu_one, n4, if_neg (by omega), mmu_get, if_neg (by omega), no4 k (by omega)]
  have z5 : g5.2 0 = some (cO 7 [vR 1, vI 0, vR 2, vR 9, vI 0, vR 16, vN, vN, vI 0, vN, vN, vN, vN, vL 0]) := by
    rw [fr5 0 (by omega)]
    simp only [mmu_get, mma_get, mma_one, mmu_one, n4, z4, Nat.reduceAdd, Nat.reduceEqDiff, if_true, if_false, List.set_cons_zero, List.set_cons_succ]
  have s5 : ∀ k, 1 ≤ k → k < 26 → SH k (g5.2 k) := fun k k1 k2 => by
    by_cases hlt : k < 21
    · rw [fk5 k k1 (by omega)]
      exact s4 k k1 hlt
    · have hk : k = 21 ∨ k = 22 ∨ k = 23 ∨ k = 24 ∨ k = 25 := by omega
      rcases hk with rfl | rfl | rfl | rfl | rfl
      · rw [p21]; rfl
      · rw [p22]; rfl
      · rw [p23]; rfl
      · rw [p24]; rfl
      · rw [p25]; rfl
  have c2e := (fk5 2 (by omega) (by omega)).trans c2d
  have q16 := (fk5 16 (by omega) (by omega)).trans p16
  have q17 := (fk5 17 (by omega) (by omega)).trans p17
  have q18 := (fk5 18 (by omega) (by omega)).trans p18
  have q19 := (fk5 19 (by omega) (by omega)).trans p19
  have q20 := (fk5 20 (by omega) (by omega)).trans p20
  have w3e := w3d.keep (fk5 3 (by omega) (by omega)) (fk5 4 (by omega) (by omega))
  have w5e := w5d.keep (fk5 5 (by omega) (by omega)) (fk5 6 (by omega) (by omega))
  (try simp only [Option.toList_some, Option.toList_none, List.nil_append, List.append_nil, List.cons_append, Nat.sub_zero, Nat.sub_self, Nat.zero_sub]); refine Go.wp sp_54 200 ?_; simp only [↓g54_0, ↓g54_1, ↓g54_4, ↓g54_5, ↓g54_7, ↓g54_9, ↓g54_12, ↓g54_13, ↓g54_16, ↓g54_17, ↓g54_20, ↓g54_23, ↓g54_24, ↓g54_27, ↓g54_28, ↓g54_31, ↓g54_34, ↓g54_35, ↓g54_38, ↓g54_39, ↓g54_42, ↓g54_45, ↓g54_46, ↓g54_49, ↓g54_50, ↓g54_53, ↓g54_56, ↓g54_57, ↓g54_58, ↓g54_61, ↓g54_64, ↓g54_65, ↓g54_68, ↓g54_69, ↓g54_72, ↓g54_75, ↓g54_76, ↓g54_79, ↓g54_80, ↓g54_83, ↓g54_86, ↓g54_87, ↓g54_90, ↓g54_91, ↓g54_94, ↓g54_97, ↓g54_98, ↓g54_99, ↓g54_100, ↓g54_101, ↓g54_104, ↓g54_105, ↓g54_108, ↓g54_109, ↓g54_112, ↓g54_113, ↓g54_116, ↓g54_117, ↓g54_120, ↓g54_123, ↓g54_124, ↓g54_125, ↓g54_128, ↓g54_131, ↓g54_134, ↓g54_135, ↓g54_138, ↓g54_139, ↓g54_142, ↓g54_145, cl_0, cl_4, cl_5, cl_8, cl_19, cl_24, cl_31, cn_0, cn_1, cn_2, cn_3, cn_4, cn_5, cn_6, cn_7, cn_8, ↓Go_s, ↓GoC_a, ↓reduceIte, ↓mm_call_eq, ↓mmw_nil, ↓mmw_cons, List.take_succ_cons, List.take_zero, List.take_nil, List.drop_succ_cons, List.drop_zero, List.drop_nil, List.reverse_cons, List.reverse_nil, List.nil_append, List.cons_append, List.append_nil, Option.toList_some, Option.toList_none, Nat.sub_zero, Nat.le_refl, mmr_cons, mm_st1, mm_st2, mmi_nil, mmi_cons, mmc_I, mmc_L, mmc_R, mmu_get, mmu_one, mma_get, mma_one, List.filter_cons, List.filter_nil, List.contains_cons, List.contains_nil, Nat.reduceBEq, Nat.reduceAdd, Nat.reduceLT, Nat.reduceSub, Nat.reduceLeDiff, Nat.reduceEqDiff, Int32.reduceAdd, Bool.not_true, Bool.not_false, Bool.and_true, Bool.true_and, Bool.and_false, Bool.false_and, Bool.or_false, Bool.false_or, Bool.or_true, Bool.true_or, if_true, if_false, ite_true, ite_false, Bool.false_eq_true, List.getElem?_cons_zero, List.getElem?_cons_succ, List.length_cons, List.length_nil, true_and, and_true, List.set_cons_zero, List.set_cons_succ, Fin.isValue, Fin.val_zero, Fin.val_one, Fin.val_two, Fin.reduceFinMk, Nat.zero_add, n5, z5, cl0, cl1, cl2, cl3, cl4, cl5, cl6, cl7, cl8, cl16, cl40, nf_0, nf_1, nf_2, nf_3, nf_4, nf_5, df_0, df_1, df_2, df_3, df_4, df_5, ft_7_0, ft_7_10, ft_7_11, ft_7_2, ft_7_3, ft_7_4, ft_7_5, ft_7_6, ft_7_7, ft_7_9, nu_fitI, nu_fitL, nu_fitO, nu_fitA, nu_fitB0, nu_fitB1]
  refine ⟨by decide, 21, 121, _, by decide, by decide, C_Ginit (d := d) (by simp only [mmu_get, mma_get, mma_one, mmu_one, n5, Nat.reduceAdd, Nat.reduceEqDiff, if_true, if_false, List.set_cons_zero, List.set_cons_succ, Nat.reduceLT, df_0, df_1, df_2, df_3, df_4, df_5]) (by simp only [mmu_get, mma_get, mma_one, mmu_one, n5, z5, Nat.reduceAdd, Nat.reduceEqDiff, if_true, if_false, List.set_cons_zero, List.set_cons_succ, Nat.reduceLT, df_0, df_1, df_2, df_3, df_4, df_5]), fun z g6 hz => ?_⟩
  obtain ⟨rfl, n6, p27, p30, p28, p29, p31, p32, p33, p34, r35, r36, r37, r38, r39, r40, r41, r42, r43, r44, r45, r46, r47, r48, fr6⟩ := hz
  have fk6 : ∀ k, 1 ≤ k → k < 26 → g6.2 k = g5.2 k := fun k _ _ => by
    rw [fr6 k (by omega)]
    simp only [mmu_get, mma_get, mma_one, mmu_one, n5, Nat.reduceAdd, if_neg (show ¬ k = 0 by omega), if_neg (show ¬ k = 26 by omega), if_neg (show ¬ k = 27 by omega)]
  have c26 : g6.2 26 = some (cQ 1 2 (fun _ => none)) := by
    rw [fr6 26 (by omega)]
    simp only [mmu_get, mma_get, mma_one, mmu_one, n5, Nat.reduceAdd, Nat.reduceEqDiff, if_true, if_false]
  have no6 : ∀ k, 49 ≤ k → g6.2 k = none := fun k hk => by
    rw [fr6 k (by omega), ← no5 k (by omega)]
    simp only [mmu_get, mma_get, mma_one, mmu_one, n5, Nat.reduceAdd, if_neg (show ¬ k = 0 by omega), if_neg (show ¬ k = 26 by omega), if_neg (show ¬ k = 27 by omega)]
  have z6 : g6.2 0 = some (cO 7 [vR 1, vI 0, vR 2, vR 9, vI 0, vR 16, vR 21, vR 26, vI 0, vN, vN, vN, vN, vL 0]) := by
    rw [fr6 0 (by omega)]
    simp only [mmu_get, mma_get, mma_one, mmu_one, n5, z5, Nat.reduceAdd, Nat.reduceEqDiff, if_true, if_false, List.set_cons_zero, List.set_cons_succ]
  have s6 : ∀ k, 1 ≤ k → k < 49 → k ≠ 26 → SH k (g6.2 k) := fun k k1 k2 k3 => by
    by_cases hlt : k < 26
    · rw [fk6 k k1 (by omega)]
      exact s5 k k1 hlt
    · have hk : k = 27 ∨ k = 28 ∨ k = 29 ∨ k = 30 ∨ k = 31 ∨ k = 32 ∨ k = 33 ∨ k = 34 ∨ k = 35 ∨ k = 36 ∨ k = 37 ∨ k = 38 ∨ k = 39 ∨ k = 40 ∨ k = 41 ∨ k = 42 ∨ k = 43 ∨ k = 44 ∨ k = 45 ∨ k = 46 ∨ k = 47 ∨ k = 48 := by omega
      rcases hk with rfl | rfl | rfl | rfl | rfl | rfl | rfl | rfl | rfl | rfl | rfl | rfl | rfl | rfl | rfl | rfl | rfl | rfl | rfl | rfl | rfl | rfl
      · rw [p27]; rfl
      · rw [p28]; rfl
      · rw [p29]; rfl
      · rw [p30]; rfl
      · rw [p31]; rfl
      · rw [p32]; rfl
      · rw [p33]; rfl
      · rw [p34]; rfl
      · rw [r35]; rfl
      · rw [r36]; rfl
      · rw [r37]; rfl
      · rw [r38]; rfl
      · rw [r39]; rfl
      · rw [r40]; rfl
      · rw [r41]; rfl
      · rw [r42]; rfl
      · rw [r43]; rfl
      · rw [r44]; rfl
      · rw [r45]; rfl
      · rw [r46]; rfl
      · rw [r47]; rfl
      · rw [r48]; rfl
  have c2f := (fk6 2 (by omega) (by omega)).trans c2e
  have u16 := (fk6 16 (by omega) (by omega)).trans q16
  have u17 := (fk6 17 (by omega) (by omega)).trans q17
  have u18 := (fk6 18 (by omega) (by omega)).trans q18
  have u19 := (fk6 19 (by omega) (by omega)).trans q19
  have u20 := (fk6 20 (by omega) (by omega)).trans q20
  have u21 := (fk6 21 (by omega) (by omega)).trans p21
  have w3f := w3e.keep (fk6 3 (by omega) (by omega)) (fk6 4 (by omega) (by omega))
  have w5f := w5e.keep (fk6 5 (by omega) (by omega)) (fk6 6 (by omega) (by omega))
  (try simp only [Option.toList_some, Option.toList_none, List.nil_append, List.append_nil, List.cons_append, Nat.sub_zero, Nat.sub_self, Nat.zero_sub]); refine Go.wp sp_54 200 ?_; simp only [↓g54_0, ↓g54_1, ↓g54_4, ↓g54_5, ↓g54_7, ↓g54_9, ↓g54_12, ↓g54_13, ↓g54_16, ↓g54_17, ↓g54_20, ↓g54_23, ↓g54_24, ↓g54_27, ↓g54_28, ↓g54_31, ↓g54_34, ↓g54_35, ↓g54_38, ↓g54_39, ↓g54_42, ↓g54_45, ↓g54_46, ↓g54_49, ↓g54_50, ↓g54_53, ↓g54_56, ↓g54_57, ↓g54_58, ↓g54_61, ↓g54_64, ↓g54_65, ↓g54_68, ↓g54_69, ↓g54_72, ↓g54_75, ↓g54_76, ↓g54_79, ↓g54_80, ↓g54_83, ↓g54_86, ↓g54_87, ↓g54_90, ↓g54_91, ↓g54_94, ↓g54_97, ↓g54_98, ↓g54_99, ↓g54_100, ↓g54_101, ↓g54_104, ↓g54_105, ↓g54_108, ↓g54_109, ↓g54_112, ↓g54_113, ↓g54_116, ↓g54_117, ↓g54_120, ↓g54_123, ↓g54_124, ↓g54_125, ↓g54_128, ↓g54_131, ↓g54_134, ↓g54_135, ↓g54_138, ↓g54_139, ↓g54_142, ↓g54_145, cl_0, cl_4, cl_5, cl_8, cl_19, cl_24, cl_31, cn_0, cn_1, cn_2, cn_3, cn_4, cn_5, cn_6, cn_7, cn_8, ↓Go_s, ↓GoC_a, ↓reduceIte, ↓mm_call_eq, ↓mmw_nil, ↓mmw_cons, List.take_succ_cons, List.take_zero, List.take_nil, List.drop_succ_cons, List.drop_zero, List.drop_nil, List.reverse_cons, List.reverse_nil, List.nil_append, List.cons_append, List.append_nil, Option.toList_some, Option.toList_none, Nat.sub_zero, Nat.le_refl, mmr_cons, mm_st1, mm_st2, mmi_nil, mmi_cons, mmc_I, mmc_L, mmc_R, mmu_get, mmu_one, mma_get, mma_one, List.filter_cons, List.filter_nil, List.contains_cons, List.contains_nil, Nat.reduceBEq, Nat.reduceAdd, Nat.reduceLT, Nat.reduceSub, Nat.reduceLeDiff, Nat.reduceEqDiff, Int32.reduceAdd, Bool.not_true, Bool.not_false, Bool.and_true, Bool.true_and, Bool.and_false, Bool.false_and, Bool.or_false, Bool.false_or, Bool.or_true, Bool.true_or, if_true, if_false, ite_true, ite_false, Bool.false_eq_true, List.getElem?_cons_zero, List.getElem?_cons_succ, List.length_cons, List.length_nil, true_and, and_true, List.set_cons_zero, List.set_cons_succ, Fin.isValue, Fin.val_zero, Fin.val_one, Fin.val_two, Fin.reduceFinMk, Nat.zero_add, n6, z6, cl0, cl1, cl2, cl3, cl4, cl5, cl6, cl7, cl8, cl16, cl40, nf_0, nf_1, nf_2, nf_3, nf_4, nf_5, df_0, df_1, df_2, df_3, df_4, df_5, ft_7_0, ft_7_10, ft_7_11, ft_7_2, ft_7_3, ft_7_4, ft_7_5, ft_7_6, ft_7_7, ft_7_9, nu_fitI, nu_fitL, nu_fitO, nu_fitA, nu_fitB0, nu_fitB1]
  refine ⟨13, 63, _, by decide, by decide, C_Linit (d := d) (by simp only [mmu_get, mma_get, mma_one, mmu_one, n6, Nat.reduceAdd, Nat.reduceEqDiff, if_true, if_false, List.set_cons_zero, List.set_cons_succ, Nat.reduceLT, df_0, df_1, df_2, df_3, df_4, df_5]) (by simp only [mmu_get, mma_get, mma_one, mmu_one, n6, z6, Nat.reduceAdd, Nat.reduceEqDiff, if_true, if_false, List.set_cons_zero, List.set_cons_succ, Nat.reduceLT, df_0, df_1, df_2, df_3, df_4, df_5]), fun z g7 hz => ?_⟩
  obtain ⟨rfl, n7, p49, p50, p51, p52, r53, r54, r55, r56, r57, r58, r59, r60, r61, r62, fr7⟩ := hz
  have fk7 : ∀ k, 1 ≤ k → k < 49 → g7.2 k = g6.2 k := fun k _ _ => by
    rw [fr7 k (by omega), mma_get, mmu_one, n6, if_neg (by omega), mmu_get, if_neg (by omega)]
  have no7 : ∀ k, 63 ≤ k → g7.2 k = none := fun k hk => by
    rw [fr7 k (by omega), mma_get, mmu_one, n6, if_neg (by omega), mmu_get, if_neg (by omega), no6 k (by omega)]
  have z7 : g7.2 0 = some (cO 7 [vR 1, vI 0, vR 2, vR 9, vI 0, vR 16, vR 21, vR 26, vI 0, vR 27, vN, vN, vN, vL 0]) := by
    rw [fr7 0 (by omega)]
    simp only [mmu_get, mma_get, mma_one, mmu_one, n6, z6, Nat.reduceAdd, Nat.reduceEqDiff, if_true, if_false, List.set_cons_zero, List.set_cons_succ]
  have s7 : ∀ k, 1 ≤ k → k < 63 → k ≠ 26 → SH k (g7.2 k) := fun k k1 k2 k3 => by
    by_cases hlt : k < 49
    · rw [fk7 k k1 (by omega)]
      exact s6 k k1 hlt k3
    · have hk : k = 49 ∨ k = 50 ∨ k = 51 ∨ k = 52 ∨ k = 53 ∨ k = 54 ∨ k = 55 ∨ k = 56 ∨ k = 57 ∨ k = 58 ∨ k = 59 ∨ k = 60 ∨ k = 61 ∨ k = 62 := by omega
      rcases hk with rfl | rfl | rfl | rfl | rfl | rfl | rfl | rfl | rfl | rfl | rfl | rfl | rfl | rfl
      · rw [p49]; rfl
      · rw [p50]; rfl
      · rw [p51]; rfl
      · rw [p52]; rfl
      · rw [r53]; rfl
      · rw [r54]; rfl
      · rw [r55]; rfl
      · rw [r56]; rfl
      · rw [r57]; rfl
      · rw [r58]; rfl
      · rw [r59]; rfl
      · rw [r60]; rfl
      · rw [r61]; rfl
      · rw [r62]; rfl
  have c2g := (fk7 2 (by omega) (by omega)).trans c2f
  have k26 := (fk7 26 (by omega) (by omega)).trans c26
  have u27 := (fk7 27 (by omega) (by omega)).trans p27
  have v16 := (fk7 16 (by omega) (by omega)).trans u16
  have v17 := (fk7 17 (by omega) (by omega)).trans u17
  have v18 := (fk7 18 (by omega) (by omega)).trans u18
  have v19 := (fk7 19 (by omega) (by omega)).trans u19
  have v20 := (fk7 20 (by omega) (by omega)).trans u20
  have v21 := (fk7 21 (by omega) (by omega)).trans u21
  have w3g := w3f.keep (fk7 3 (by omega) (by omega)) (fk7 4 (by omega) (by omega))
  have w5g := w5f.keep (fk7 5 (by omega) (by omega)) (fk7 6 (by omega) (by omega))
  (try simp only [Option.toList_some, Option.toList_none, List.nil_append, List.append_nil, List.cons_append, Nat.sub_zero, Nat.sub_self, Nat.zero_sub]); refine Go.wp sp_54 200 ?_; simp only [↓g54_0, ↓g54_1, ↓g54_4, ↓g54_5, ↓g54_7, ↓g54_9, ↓g54_12, ↓g54_13, ↓g54_16, ↓g54_17, ↓g54_20, ↓g54_23, ↓g54_24, ↓g54_27, ↓g54_28, ↓g54_31, ↓g54_34, ↓g54_35, ↓g54_38, ↓g54_39, ↓g54_42, ↓g54_45, ↓g54_46, ↓g54_49, ↓g54_50, ↓g54_53, ↓g54_56, ↓g54_57, ↓g54_58, ↓g54_61, ↓g54_64, ↓g54_65, ↓g54_68, ↓g54_69, ↓g54_72, ↓g54_75, ↓g54_76, ↓g54_79, ↓g54_80, ↓g54_83, ↓g54_86, ↓g54_87, ↓g54_90, ↓g54_91, ↓g54_94, ↓g54_97, ↓g54_98, ↓g54_99, ↓g54_100, ↓g54_101, ↓g54_104, ↓g54_105, ↓g54_108, ↓g54_109, ↓g54_112, ↓g54_113, ↓g54_116, ↓g54_117, ↓g54_120, ↓g54_123, ↓g54_124, ↓g54_125, ↓g54_128, ↓g54_131, ↓g54_134, ↓g54_135, ↓g54_138, ↓g54_139, ↓g54_142, ↓g54_145, cl_0, cl_4, cl_5, cl_8, cl_19, cl_24, cl_31, cn_0, cn_1, cn_2, cn_3, cn_4, cn_5, cn_6, cn_7, cn_8, ↓Go_s, ↓GoC_a, ↓reduceIte, ↓mm_call_eq, ↓mmw_nil, ↓mmw_cons, List.take_succ_cons, List.take_zero, List.take_nil, List.drop_succ_cons, List.drop_zero, List.drop_nil, List.reverse_cons, List.reverse_nil, List.nil_append, List.cons_append, List.append_nil, Option.toList_some, Option.toList_none, Nat.sub_zero, Nat.le_refl, mmr_cons, mm_st1, mm_st2, mmi_nil, mmi_cons, mmc_I, mmc_L, mmc_R, mmu_get, mmu_one, mma_get, mma_one, List.filter_cons, List.filter_nil, List.contains_cons, List.contains_nil, Nat.reduceBEq, Nat.reduceAdd, Nat.reduceLT, Nat.reduceSub, Nat.reduceLeDiff, Nat.reduceEqDiff, Int32.reduceAdd, Bool.not_true, Bool.not_false, Bool.and_true, Bool.true_and, Bool.and_false, Bool.false_and, Bool.or_false, Bool.false_or, Bool.or_true, Bool.true_or, if_true, if_false, ite_true, ite_false, Bool.false_eq_true, List.getElem?_cons_zero, List.getElem?_cons_succ, List.length_cons, List.length_nil, true_and, and_true, List.set_cons_zero, List.set_cons_succ, Fin.isValue, Fin.val_zero, Fin.val_one, Fin.val_two, Fin.reduceFinMk, Nat.zero_add, n7, z7, cl0, cl1, cl2, cl3, cl4, cl5, cl6, cl7, cl8, cl16, cl40, nf_0, nf_1, nf_2, nf_3, nf_4, nf_5, df_0, df_1, df_2, df_3, df_4, df_5, ft_7_0, ft_7_10, ft_7_11, ft_7_2, ft_7_3, ft_7_4, ft_7_5, ft_7_6, ft_7_7, ft_7_9, nu_fitI, nu_fitL, nu_fitO, nu_fitA, nu_fitB0, nu_fitB1]
  refine ⟨1, 8, _, by decide, by decide, c_Rinit (d := d + 1) (N := 64) (by simp only [mmu_get, mma_get, mma_one, mmu_one, n7, Nat.reduceAdd, Nat.reduceEqDiff, if_true, if_false, List.set_cons_zero, List.set_cons_succ, Nat.reduceLT, df_0, df_1, df_2, df_3, df_4, df_5]) (by simp only [mmu_get, mma_get, mma_one, mmu_one, n7, z7, Nat.reduceAdd, Nat.reduceEqDiff, if_true, if_false, List.set_cons_zero, List.set_cons_succ, Nat.reduceLT, df_0, df_1, df_2, df_3, df_4, df_5]) (by omega), fun z g8 hz => ?_⟩
  obtain ⟨rfl, n8, p63, p64, fr8⟩ := hz
  have fk8 : ∀ k, 1 ≤ k → k < 63 → g8.2 k = g7.2 k := fun k _ _ => by
    rw [fr8 k (by omega) (by omega), mma_get, mmu_one, n7, if_neg (by omega), mmu_get, if_neg (by omega)]
  have no8 : ∀ k, 65 ≤ k → g8.2 k = none := fun k hk => by
    rw [fr8 k (by omega) (by omega), mma_get, mmu_one, n7, if_neg (by omega), mmu_get, if_neg (by omega), no7 k (by omega)]
  have z8 : g8.2 0 = some (cO 7 [vR 1, vI 0, vR 2, vR 9, vI 0, vR 16, vR 21, vR 26, vI 0, vR 27, vR 49, vN, vN, vL 0]) := by
    rw [fr8 0 (by omega) (by omega)]
    simp only [mmu_get, mma_get, mma_one, mmu_one, n7, z7, Nat.reduceAdd, Nat.reduceEqDiff, if_true, if_false, List.set_cons_zero, List.set_cons_succ]
  have s8 : ∀ k, 1 ≤ k → k < 65 → k ≠ 26 → SH k (g8.2 k) := fun k k1 k2 k3 => by
    by_cases hlt : k < 63
    · rw [fk8 k k1 (by omega)]
      exact s7 k k1 hlt k3
    · have hk : k = 63 ∨ k = 64 := by omega
      rcases hk with rfl | rfl
      · rw [p63]; rfl
      · rw [p64]; rfl
  have c2h := (fk8 2 (by omega) (by omega)).trans c2g
  have l26 := (fk8 26 (by omega) (by omega)).trans k26
  have v27 := (fk8 27 (by omega) (by omega)).trans u27
  have w16 := (fk8 16 (by omega) (by omega)).trans v16
  have w17 := (fk8 17 (by omega) (by omega)).trans v17
  have w18 := (fk8 18 (by omega) (by omega)).trans v18
  have w19 := (fk8 19 (by omega) (by omega)).trans v19
  have w20 := (fk8 20 (by omega) (by omega)).trans v20
  have w21 := (fk8 21 (by omega) (by omega)).trans v21
  have w3h := w3g.keep (fk8 3 (by omega) (by omega)) (fk8 4 (by omega) (by omega))
  have w5h := w5g.keep (fk8 5 (by omega) (by omega)) (fk8 6 (by omega) (by omega))
  (try simp only [Option.toList_some, Option.toList_none, List.nil_append, List.append_nil, List.cons_append, Nat.sub_zero, Nat.sub_self, Nat.zero_sub]); refine Go.wp sp_54 200 ?_; simp only [↓g54_0, ↓g54_1, ↓g54_4, ↓g54_5, ↓g54_7, ↓g54_9, ↓g54_12, ↓g54_13, ↓g54_16, ↓g54_17, ↓g54_20, ↓g54_23, ↓g54_24, ↓g54_27, ↓g54_28, ↓g54_31, ↓g54_34, ↓g54_35, ↓g54_38, ↓g54_39, ↓g54_42, ↓g54_45, ↓g54_46, ↓g54_49, ↓g54_50, ↓g54_53, ↓g54_56, ↓g54_57, ↓g54_58, ↓g54_61, ↓g54_64, ↓g54_65, ↓g54_68, ↓g54_69, ↓g54_72, ↓g54_75, ↓g54_76, ↓g54_79, ↓g54_80, ↓g54_83, ↓g54_86, ↓g54_87, ↓g54_90, ↓g54_91, ↓g54_94, ↓g54_97, ↓g54_98, ↓g54_99, ↓g54_100, ↓g54_101, ↓g54_104, ↓g54_105, ↓g54_108, ↓g54_109, ↓g54_112, ↓g54_113, ↓g54_116, ↓g54_117, ↓g54_120, ↓g54_123, ↓g54_124, ↓g54_125, ↓g54_128, ↓g54_131, ↓g54_134, ↓g54_135, ↓g54_138, ↓g54_139, ↓g54_142, ↓g54_145, cl_0, cl_4, cl_5, cl_8, cl_19, cl_24, cl_31, cn_0, cn_1, cn_2, cn_3, cn_4, cn_5, cn_6, cn_7, cn_8, ↓Go_s, ↓GoC_a, ↓reduceIte, ↓mm_call_eq, ↓mmw_nil, ↓mmw_cons, List.take_succ_cons, List.take_zero, List.take_nil, List.drop_succ_cons, List.drop_zero, List.drop_nil, List.reverse_cons, List.reverse_nil, List.nil_append, List.cons_append, List.append_nil, Option.toList_some, Option.toList_none, Nat.sub_zero, Nat.le_refl, mmr_cons, mm_st1, mm_st2, mmi_nil, mmi_cons, mmc_I, mmc_L, mmc_R, mmu_get, mmu_one, mma_get, mma_one, List.filter_cons, List.filter_nil, List.contains_cons, List.contains_nil, Nat.reduceBEq, Nat.reduceAdd, Nat.reduceLT, Nat.reduceSub, Nat.reduceLeDiff, Nat.reduceEqDiff, Int32.reduceAdd, Bool.not_true, Bool.not_false, Bool.and_true, Bool.true_and, Bool.and_false, Bool.false_and, Bool.or_false, Bool.false_or, Bool.or_true, Bool.true_or, if_true, if_false, ite_true, ite_false, Bool.false_eq_true, List.getElem?_cons_zero, List.getElem?_cons_succ, List.length_cons, List.length_nil, true_and, and_true, List.set_cons_zero, List.set_cons_succ, Fin.isValue, Fin.val_zero, Fin.val_one, Fin.val_two, Fin.reduceFinMk, Nat.zero_add, n8, z8, cl0, cl1, cl2, cl3, cl4, cl5, cl6, cl7, cl8, cl16, cl40, nf_0, nf_1, nf_2, nf_3, nf_4, nf_5, df_0, df_1, df_2, df_3, df_4, df_5, ft_7_0, ft_7_10, ft_7_11, ft_7_2, ft_7_3, ft_7_4, ft_7_5, ft_7_6, ft_7_7, ft_7_9, nu_fitI, nu_fitL, nu_fitO, nu_fitA, nu_fitB0, nu_fitB1]
  obtain ⟨g9, eg9, n9, z9, fk9⟩ : ∃ g9 : AH, mm_up g8 0 (cO 7 [vR 1, vI 0, vR 2, vR 9, vI 0, vR 16, vR 21, vR 26, vI 0, vR 27, vR 49, vR 63, vN, vL 0]) = g9 ∧ g9.1 = 65 ∧ g9.2 0 = some (cO 7 [vR 1, vI 0, vR 2, vR 9, vI 0, vR 16, vR 21, vR 26, vI 0, vR 27, vR 49, vR 63, vN, vL 0]) ∧ ∀ k, 1 ≤ k → g9.2 k = g8.2 k := ⟨_, rfl, n8, mmu_get .. |>.trans (if_pos rfl), fun k hk => mmu_get .. |>.trans (if_neg (by omega))⟩
  rw [eg9]
  have x26 := (fk9 26 (by omega)).trans l26
  (try simp only [Option.toList_some, Option.toList_none, List.nil_append, List.append_nil, List.cons_append, Nat.sub_zero, Nat.sub_self, Nat.zero_sub]); refine Go.wp [20, 31, 42, 53, 72, 83, 94, 99, 116, 145] 200 ?_; simp only [↓g54_0, ↓g54_1, ↓g54_4, ↓g54_5, ↓g54_7, ↓g54_9, ↓g54_12, ↓g54_13, ↓g54_16, ↓g54_17, ↓g54_20, ↓g54_23, ↓g54_24, ↓g54_27, ↓g54_28, ↓g54_31, ↓g54_34, ↓g54_35, ↓g54_38, ↓g54_39, ↓g54_42, ↓g54_45, ↓g54_46, ↓g54_49, ↓g54_50, ↓g54_53, ↓g54_56, ↓g54_57, ↓g54_58, ↓g54_61, ↓g54_64, ↓g54_65, ↓g54_68, ↓g54_69, ↓g54_72, ↓g54_75, ↓g54_76, ↓g54_79, ↓g54_80, ↓g54_83, ↓g54_86, ↓g54_87, ↓g54_90, ↓g54_91, ↓g54_94, ↓g54_97, ↓g54_98, ↓g54_99, ↓g54_100, ↓g54_101, ↓g54_104, ↓g54_105, ↓g54_108, ↓g54_109, ↓g54_112, ↓g54_113, ↓g54_116, ↓g54_117, ↓g54_120, ↓g54_123, ↓g54_124, ↓g54_125, ↓g54_128, ↓g54_131, ↓g54_134, ↓g54_135, ↓g54_138, ↓g54_139, ↓g54_142, ↓g54_145, cl_0, cl_4, cl_5, cl_8, cl_19, cl_24, cl_31, cn_0, cn_1, cn_2, cn_3, cn_4, cn_5, cn_6, cn_7, cn_8, ↓Go_s, ↓GoC_a, ↓reduceIte, ↓mm_call_eq, ↓mmw_nil, ↓mmw_cons, List.take_succ_cons, List.take_zero, List.take_nil, List.drop_succ_cons, List.drop_zero, List.drop_nil, List.reverse_cons, List.reverse_nil, List.nil_append, List.cons_append, List.append_nil, Option.toList_some, Option.toList_none, Nat.sub_zero, Nat.le_refl, mmr_cons, mm_st1, mm_st2, mmi_nil, mmi_cons, mmc_I, mmc_L, mmc_R, mmu_get, mmu_one, mma_get, mma_one, List.filter_cons, List.filter_nil, List.contains_cons, List.contains_nil, Nat.reduceBEq, Nat.reduceAdd, Nat.reduceLT, Nat.reduceSub, Nat.reduceLeDiff, Nat.reduceEqDiff, Int32.reduceAdd, Bool.not_true, Bool.not_false, Bool.and_true, Bool.true_and, Bool.and_false, Bool.false_and, Bool.or_false, Bool.false_or, Bool.or_true, Bool.true_or, if_true, if_false, ite_true, ite_false, Bool.false_eq_true, List.getElem?_cons_zero, List.getElem?_cons_succ, List.length_cons, List.length_nil, true_and, and_true, List.set_cons_zero, List.set_cons_succ, Fin.isValue, Fin.val_zero, Fin.val_one, Fin.val_two, Fin.reduceFinMk, Nat.zero_add, n9, z9, x26, cl0, cl1, cl2, cl3, cl4, cl5, cl6, cl7, cl8, cl16, cl40, nf_0, nf_1, nf_2, nf_3, nf_4, nf_5, df_0, df_1, df_2, df_3, df_4, df_5, ft_7_0, ft_7_10, ft_7_11, ft_7_2, ft_7_3, ft_7_4, ft_7_5, ft_7_6, ft_7_7, ft_7_9, nu_fitI, nu_fitL, nu_fitO, nu_fitA, nu_fitB0, nu_fitB1]
  refine ⟨fun z => absurd z (by decide), fun _ => ⟨4, 26, _, by decide, by decide, C_Dinit_65 (d := d) (by simp only [mmu_get, mma_get, mma_one, mmu_one, n9, Nat.reduceAdd, Nat.reduceEqDiff, if_true, if_false, List.set_cons_zero, List.set_cons_succ, Nat.reduceLT, df_0, df_1, df_2, df_3, df_4, df_5]) (by simp only [mmu_get, mma_get, mma_one, mmu_one, n9, Nat.reduceAdd, Nat.reduceEqDiff, if_true, if_false, List.set_cons_zero, List.set_cons_succ, Nat.reduceLT, df_0, df_1, df_2, df_3, df_4, df_5]), fun z g10 hz => ?_⟩⟩
  obtain ⟨rfl, n10, y65, y66, y67, y68, y69, fr10⟩ := hz
  have fj10 : ∀ k, k < 65 ∨ 70 ≤ k → g10.2 k = g9.2 k := fun k hk => by rw [fr10 k hk, mma_get, n9, if_neg (by omega)]
  have za10 := (fj10 0 (by omega)).trans z9
  have xa10 := (fj10 26 (by omega)).trans x26
  (try simp only [Option.toList_some, Option.toList_none, List.nil_append, List.append_nil, List.cons_append, Nat.sub_zero, Nat.sub_self, Nat.zero_sub]); refine Go.wp sp_54 200 ?_; simp only [↓g54_0, ↓g54_1, ↓g54_4, ↓g54_5, ↓g54_7, ↓g54_9, ↓g54_12, ↓g54_13, ↓g54_16, ↓g54_17, ↓g54_20, ↓g54_23, ↓g54_24, ↓g54_27, ↓g54_28, ↓g54_31, ↓g54_34, ↓g54_35, ↓g54_38, ↓g54_39, ↓g54_42, ↓g54_45, ↓g54_46, ↓g54_49, ↓g54_50, ↓g54_53, ↓g54_56, ↓g54_57, ↓g54_58, ↓g54_61, ↓g54_64, ↓g54_65, ↓g54_68, ↓g54_69, ↓g54_72, ↓g54_75, ↓g54_76, ↓g54_79, ↓g54_80, ↓g54_83, ↓g54_86, ↓g54_87, ↓g54_90, ↓g54_91, ↓g54_94, ↓g54_97, ↓g54_98, ↓g54_99, ↓g54_100, ↓g54_101, ↓g54_104, ↓g54_105, ↓g54_108, ↓g54_109, ↓g54_112, ↓g54_113, ↓g54_116, ↓g54_117, ↓g54_120, ↓g54_123, ↓g54_124, ↓g54_125, ↓g54_128, ↓g54_131, ↓g54_134, ↓g54_135, ↓g54_138, ↓g54_139, ↓g54_142, ↓g54_145, cl_0, cl_4, cl_5, cl_8, cl_19, cl_24, cl_31, cn_0, cn_1, cn_2, cn_3, cn_4, cn_5, cn_6, cn_7, cn_8, ↓Go_s, ↓GoC_a, ↓reduceIte, ↓mm_call_eq, ↓mmw_nil, ↓mmw_cons, List.take_succ_cons, List.take_zero, List.take_nil, List.drop_succ_cons, List.drop_zero, List.drop_nil, List.reverse_cons, List.reverse_nil, List.nil_append, List.cons_append, List.append_nil, Option.toList_some, Option.toList_none, Nat.sub_zero, Nat.le_refl, mmr_cons, mm_st1, mm_st2, mmi_nil, mmi_cons, mmc_I, mmc_L, mmc_R, mmu_get, mmu_one, mma_get, mma_one, List.filter_cons, List.filter_nil, List.contains_cons, List.contains_nil, Nat.reduceBEq, Nat.reduceAdd, Nat.reduceLT, Nat.reduceSub, Nat.reduceLeDiff, Nat.reduceEqDiff, Int32.reduceAdd, Bool.not_true, Bool.not_false, Bool.and_true, Bool.true_and, Bool.and_false, Bool.false_and, Bool.or_false, Bool.false_or, Bool.or_true, Bool.true_or, if_true, if_false, ite_true, ite_false, Bool.false_eq_true, List.getElem?_cons_zero, List.getElem?_cons_succ, List.length_cons, List.length_nil, true_and, and_true, List.set_cons_zero, List.set_cons_succ, Fin.isValue, Fin.val_zero, Fin.val_one, Fin.val_two, Fin.reduceFinMk, Nat.zero_add, n10, za10, xa10, y65, cl0, cl1, cl2, cl3, cl4, cl5, cl6, cl7, cl8, cl16, cl40, or_true, or_false, true_or, false_or, ft_7_0, ft_7_10, ft_7_11, ft_7_2, ft_7_3, ft_7_4, ft_7_5, ft_7_6, ft_7_7, ft_7_9, nu_fitI, nu_fitL, nu_fitO, nu_fitA, nu_fitB0, nu_fitB1]
  refine ⟨vp_in_nI (n := 0) (by omega) (by omega), ?_⟩
  obtain ⟨g11, eg11, n11, x26b, fk11⟩ : ∃ g11 : AH, mm_up g10 26 (cQ 1 2 (va_up (fun _ => none) 0 (some 65))) = g11 ∧ g11.1 = 70 ∧ g11.2 26 = some (cQ 1 2 (va_up (fun _ => none) 0 (some 65))) ∧ ∀ k, k ≠ 26 → g11.2 k = g10.2 k := ⟨_, rfl, n10, mmu_get .. |>.trans (if_pos rfl), fun k hk => mmu_get .. |>.trans (if_neg hk)⟩
  rw [eg11]
  have z11 := (fk11 0 (by omega)).trans za10
  (try simp only [Option.toList_some, Option.toList_none, List.nil_append, List.append_nil, List.cons_append, Nat.sub_zero, Nat.sub_self, Nat.zero_sub]); refine Go.wp [20, 31, 42, 53, 72, 83, 94, 99, 116, 145] 200 ?_; simp only [↓g54_0, ↓g54_1, ↓g54_4, ↓g54_5, ↓g54_7, ↓g54_9, ↓g54_12, ↓g54_13, ↓g54_16, ↓g54_17, ↓g54_20, ↓g54_23, ↓g54_24, ↓g54_27, ↓g54_28, ↓g54_31, ↓g54_34, ↓g54_35, ↓g54_38, ↓g54_39, ↓g54_42, ↓g54_45, ↓g54_46, ↓g54_49, ↓g54_50, ↓g54_53, ↓g54_56, ↓g54_57, ↓g54_58, ↓g54_61, ↓g54_64, ↓g54_65, ↓g54_68, ↓g54_69, ↓g54_72, ↓g54_75, ↓g54_76, ↓g54_79, ↓g54_80, ↓g54_83, ↓g54_86, ↓g54_87, ↓g54_90, ↓g54_91, ↓g54_94, ↓g54_97, ↓g54_98, ↓g54_99, ↓g54_100, ↓g54_101, ↓g54_104, ↓g54_105, ↓g54_108, ↓g54_109, ↓g54_112, ↓g54_113, ↓g54_116, ↓g54_117, ↓g54_120, ↓g54_123, ↓g54_124, ↓g54_125, ↓g54_128, ↓g54_131, ↓g54_134, ↓g54_135, ↓g54_138, ↓g54_139, ↓g54_142, ↓g54_145, cl_0, cl_4, cl_5, cl_8, cl_19, cl_24, cl_31, cn_0, cn_1, cn_2, cn_3, cn_4, cn_5, cn_6, cn_7, cn_8, ↓Go_s, ↓GoC_a, ↓reduceIte, ↓mm_call_eq, ↓mmw_nil, ↓mmw_cons, List.take_succ_cons, List.take_zero, List.take_nil, List.drop_succ_cons, List.drop_zero, List.drop_nil, List.reverse_cons, List.reverse_nil, List.nil_append, List.cons_append, List.append_nil, Option.toList_some, Option.toList_none, Nat.sub_zero, Nat.le_refl, mmr_cons, mm_st1, mm_st2, mmi_nil, mmi_cons, mmc_I, mmc_L, mmc_R, mmu_get, mmu_one, mma_get, mma_one, List.filter_cons, List.filter_nil, List.contains_cons, List.contains_nil, Nat.reduceBEq, Nat.reduceAdd, Nat.reduceLT, Nat.reduceSub, Nat.reduceLeDiff, Nat.reduceEqDiff, Int32.reduceAdd, Bool.not_true, Bool.not_false, Bool.and_true, Bool.true_and, Bool.and_false, Bool.false_and, Bool.or_false, Bool.false_or, Bool.or_true, Bool.true_or, if_true, if_false, ite_true, ite_false, Bool.false_eq_true, List.getElem?_cons_zero, List.getElem?_cons_succ, List.length_cons, List.length_nil, true_and, and_true, List.set_cons_zero, List.set_cons_succ, Fin.isValue, Fin.val_zero, Fin.val_one, Fin.val_two, Fin.reduceFinMk, Nat.zero_add, n11, z11, x26b, cl0, cl1, cl2, cl3, cl4, cl5, cl6, cl7, cl8, cl16, cl40, nf_0, nf_1, nf_2, nf_3, nf_4, nf_5, df_0, df_1, df_2, df_3, df_4, df_5, ft_7_0, ft_7_10, ft_7_11, ft_7_2, ft_7_3, ft_7_4, ft_7_5, ft_7_6, ft_7_7, ft_7_9, nu_fitI, nu_fitL, nu_fitO, nu_fitA, nu_fitB0, nu_fitB1]
  refine ⟨fun z => absurd z (by decide), fun _ => ⟨4, 26, _, by decide, by decide, C_Dinit_70 (d := d) (by simp only [mmu_get, mma_get, mma_one, mmu_one, n11, Nat.reduceAdd, Nat.reduceEqDiff, if_true, if_false, List.set_cons_zero, List.set_cons_succ, Nat.reduceLT, df_0, df_1, df_2, df_3, df_4, df_5]) (by simp only [mmu_get, mma_get, mma_one, mmu_one, n11, Nat.reduceAdd, Nat.reduceEqDiff, if_true, if_false, List.set_cons_zero, List.set_cons_succ, Nat.reduceLT, df_0, df_1, df_2, df_3, df_4, df_5]), fun z g12 hz => ?_⟩⟩
  obtain ⟨rfl, n12, y70, y71, y72, y73, y74, fr12⟩ := hz
  have fj12 : ∀ k, k < 70 ∨ 75 ≤ k → g12.2 k = g11.2 k := fun k hk => by rw [fr12 k hk, mma_get, n11, if_neg (by omega)]
  have za12 := (fj12 0 (by omega)).trans z11
  have xa12 := (fj12 26 (by omega)).trans x26b
  (try simp only [Option.toList_some, Option.toList_none, List.nil_append, List.append_nil, List.cons_append, Nat.sub_zero, Nat.sub_self, Nat.zero_sub]); refine Go.wp sp_54 200 ?_; simp only [↓g54_0, ↓g54_1, ↓g54_4, ↓g54_5, ↓g54_7, ↓g54_9, ↓g54_12, ↓g54_13, ↓g54_16, ↓g54_17, ↓g54_20, ↓g54_23, ↓g54_24, ↓g54_27, ↓g54_28, ↓g54_31, ↓g54_34, ↓g54_35, ↓g54_38, ↓g54_39, ↓g54_42, ↓g54_45, ↓g54_46, ↓g54_49, ↓g54_50, ↓g54_53, ↓g54_56, ↓g54_57, ↓g54_58, ↓g54_61, ↓g54_64, ↓g54_65, ↓g54_68, ↓g54_69, ↓g54_72, ↓g54_75, ↓g54_76, ↓g54_79, ↓g54_80, ↓g54_83, ↓g54_86, ↓g54_87, ↓g54_90, ↓g54_91, ↓g54_94, ↓g54_97, ↓g54_98, ↓g54_99, ↓g54_100, ↓g54_101, ↓g54_104, ↓g54_105, ↓g54_108, ↓g54_109, ↓g54_112, ↓g54_113, ↓g54_116, ↓g54_117, ↓g54_120, ↓g54_123, ↓g54_124, ↓g54_125, ↓g54_128, ↓g54_131, ↓g54_134, ↓g54_135, ↓g54_138, ↓g54_139, ↓g54_142, ↓g54_145, cl_0, cl_4, cl_5, cl_8, cl_19, cl_24, cl_31, cn_0, cn_1, cn_2, cn_3, cn_4, cn_5, cn_6, cn_7, cn_8, ↓Go_s, ↓GoC_a, ↓reduceIte, ↓mm_call_eq, ↓mmw_nil, ↓mmw_cons, List.take_succ_cons, List.take_zero, List.take_nil, List.drop_succ_cons, List.drop_zero, List.drop_nil, List.reverse_cons, List.reverse_nil, List.nil_append, List.cons_append, List.append_nil, Option.toList_some, Option.toList_none, Nat.sub_zero, Nat.le_refl, mmr_cons, mm_st1, mm_st2, mmi_nil, mmi_cons, mmc_I, mmc_L, mmc_R, mmu_get, mmu_one, mma_get, mma_one, List.filter_cons, List.filter_nil, List.contains_cons, List.contains_nil, Nat.reduceBEq, Nat.reduceAdd, Nat.reduceLT, Nat.reduceSub, Nat.reduceLeDiff, Nat.reduceEqDiff, Int32.reduceAdd, Bool.not_true, Bool.not_false, Bool.and_true, Bool.true_and, Bool.and_false, Bool.false_and, Bool.or_false, Bool.false_or, Bool.or_true, Bool.true_or, if_true, if_false, ite_true, ite_false, Bool.false_eq_true, List.getElem?_cons_zero, List.getElem?_cons_succ, List.length_cons, List.length_nil, true_and, and_true, List.set_cons_zero, List.set_cons_succ, Fin.isValue, Fin.val_zero, Fin.val_one, Fin.val_two, Fin.reduceFinMk, Nat.zero_add, n12, za12, xa12, y70, cl0, cl1, cl2, cl3, cl4, cl5, cl6, cl7, cl8, cl16, cl40, or_true, or_false, true_or, false_or, ft_7_0, ft_7_10, ft_7_11, ft_7_2, ft_7_3, ft_7_4, ft_7_5, ft_7_6, ft_7_7, ft_7_9, nu_fitI, nu_fitL, nu_fitO, nu_fitA, nu_fitB0, nu_fitB1]
  refine ⟨vp_in_nI (n := 1) (by omega) (by omega), ?_⟩
  obtain ⟨g13, eg13, n13, x26c, fk13⟩ : ∃ g13 : AH, mm_up g12 26 (cQ 1 2 (va_up (va_up (fun _ => none) 0 (some 65)) 1 (some 70))) = g13 ∧ g13.1 = 75 ∧ g13.2 26 = some (cQ 1 2 (va_up (va_up (fun _ => none) 0 (some 65)) 1 (some 70))) ∧ ∀ k, k ≠ 26 → g13.2 k = g12.2 k := ⟨_, rfl, n12, mmu_get .. |>.trans (if_pos rfl), fun k hk => mmu_get .. |>.trans (if_neg hk)⟩
  rw [eg13]
  have z13 := (fk13 0 (by omega)).trans za12
  have fin : ∀ k, 1 ≤ k → k ≠ 26 → k < 65 → g13.2 k = g8.2 k := fun k k1 k2 k3 => by
    rw [fk13 k k2, fj12 k (by omega), fk11 k k2, fj10 k (by omega), fk9 k k1]
  have fi65 : ∀ k, 65 ≤ k → k < 70 → g13.2 k = g10.2 k := fun k k1 k2 => by
    rw [fk13 k (by omega), fj12 k (by omega), fk11 k (by omega)]
  have fi70 : ∀ k, 70 ≤ k → k < 75 → g13.2 k = g12.2 k := fun k k1 k2 => fk13 k (by omega)
  have no13 : ∀ k, 75 ≤ k → g13.2 k = none := fun k hk => by
    rw [fk13 k (by omega), fj12 k (by omega), fk11 k (by omega), fj10 k (by omega), fk9 k (by omega), no8 k (by omega)]
  have e2 := (fin 2 (by omega) (by omega) (by omega)).trans c2h
  have e16 := (fin 16 (by omega) (by omega) (by omega)).trans w16
  have e17 := (fin 17 (by omega) (by omega) (by omega)).trans w17
  have e18 := (fin 18 (by omega) (by omega) (by omega)).trans w18
  have e19 := (fin 19 (by omega) (by omega) (by omega)).trans w19
  have e20 := (fin 20 (by omega) (by omega) (by omega)).trans w20
  have e21 := (fin 21 (by omega) (by omega) (by omega)).trans w21
  have e27 := (fin 27 (by omega) (by omega) (by omega)).trans v27
  have ew3 := w3h.keep (fin 3 (by omega) (by omega) (by omega)) (fin 4 (by omega) (by omega) (by omega))
  have ew5 := w5h.keep (fin 5 (by omega) (by omega) (by omega)) (fin 6 (by omega) (by omega) (by omega))
  have s13 : ∀ k, 1 ≤ k → k < 75 → SH k (g13.2 k) := fun k k1 k2 => by
    by_cases h26 : k = 26
    · rw [h26, x26c]; rfl
    · by_cases hlt : k < 65
      · rw [fin k k1 h26 hlt]
        exact s8 k k1 hlt h26
      · have hk : k = 65 ∨ k = 66 ∨ k = 67 ∨ k = 68 ∨ k = 69 ∨ k = 70 ∨ k = 71 ∨ k = 72 ∨ k = 73 ∨ k = 74 := by omega
        rcases hk with rfl | rfl | rfl | rfl | rfl | rfl | rfl | rfl | rfl | rfl
        · rw [fi65 65 (by omega) (by omega), y65]; rfl
        · rw [fi65 66 (by omega) (by omega), y66]; rfl
        · rw [fi65 67 (by omega) (by omega), y67]; rfl
        · rw [fi65 68 (by omega) (by omega), y68]; rfl
        · rw [fi65 69 (by omega) (by omega), y69]; rfl
        · rw [fi70 70 (by omega) (by omega), y70]; rfl
        · rw [fi70 71 (by omega) (by omega), y71]; rfl
        · rw [fi70 72 (by omega) (by omega), y72]; rfl
        · rw [fi70 73 (by omega) (by omega), y73]; rfl
        · rw [fi70 74 (by omega) (by omega), y74]; rfl
  (try simp only [Option.toList_some, Option.toList_none, List.nil_append, List.append_nil, List.cons_append, Nat.sub_zero, Nat.sub_self, Nat.zero_sub]); refine Go.wp sp_54 200 ?_; simp only [↓g54_0, ↓g54_1, ↓g54_4, ↓g54_5, ↓g54_7, ↓g54_9, ↓g54_12, ↓g54_13, ↓g54_16, ↓g54_17, ↓g54_20, ↓g54_23, ↓g54_24, ↓g54_27, ↓g54_28, ↓g54_31, ↓g54_34, ↓g54_35, ↓g54_38, ↓g54_39, ↓g54_42, ↓g54_45, ↓g54_46, ↓g54_49, ↓g54_50, ↓g54_53, ↓g54_56, ↓g54_57, ↓g54_58, ↓g54_61, ↓g54_64, ↓g54_65, ↓g54_68, ↓g54_69, ↓g54_72, ↓g54_75, ↓g54_76, ↓g54_79, ↓g54_80, ↓g54_83, ↓g54_86, ↓g54_87, ↓g54_90, ↓g54_91, ↓g54_94, ↓g54_97, ↓g54_98, ↓g54_99, ↓g54_100, ↓g54_101, ↓g54_104, ↓g54_105, ↓g54_108, ↓g54_109, ↓g54_112, ↓g54_113, ↓g54_116, ↓g54_117, ↓g54_120, ↓g54_123, ↓g54_124, ↓g54_125, ↓g54_128, ↓g54_131, ↓g54_134, ↓g54_135, ↓g54_138, ↓g54_139, ↓g54_142, ↓g54_145, cl_0, cl_4, cl_5, cl_8, cl_19, cl_24, cl_31, cn_0, cn_1, cn_2, cn_3, cn_4, cn_5, cn_6, cn_7, cn_8, ↓Go_s, ↓GoC_a, ↓reduceIte, ↓mm_call_eq, ↓mmw_nil, ↓mmw_cons, List.take_succ_cons, List.take_zero, List.take_nil, List.drop_succ_cons, List.drop_zero, List.drop_nil, List.reverse_cons, List.reverse_nil, List.nil_append, List.cons_append, List.append_nil, Option.toList_some, Option.toList_none, Nat.sub_zero, Nat.le_refl, mmr_cons, mm_st1, mm_st2, mmi_nil, mmi_cons, mmc_I, mmc_L, mmc_R, mmu_get, mmu_one, mma_get, mma_one, List.filter_cons, List.filter_nil, List.contains_cons, List.contains_nil, Nat.reduceBEq, Nat.reduceAdd, Nat.reduceLT, Nat.reduceSub, Nat.reduceLeDiff, Nat.reduceEqDiff, Int32.reduceAdd, Bool.not_true, Bool.not_false, Bool.and_true, Bool.true_and, Bool.and_false, Bool.false_and, Bool.or_false, Bool.false_or, Bool.or_true, Bool.true_or, if_true, if_false, ite_true, ite_false, Bool.false_eq_true, List.getElem?_cons_zero, List.getElem?_cons_succ, List.length_cons, List.length_nil, true_and, and_true, List.set_cons_zero, List.set_cons_succ, Fin.isValue, Fin.val_zero, Fin.val_one, Fin.val_two, Fin.reduceFinMk, Nat.zero_add, n13, z13, e2, e16, cl0, cl1, cl2, cl3, cl4, cl5, cl6, cl7, cl8, cl16, cl40, ft_7_0, ft_7_10, ft_7_11, ft_7_2, ft_7_3, ft_7_4, ft_7_5, ft_7_6, ft_7_7, ft_7_9, nu_fitI, nu_fitL, nu_fitO, nu_fitA, nu_fitB0, nu_fitB1]
  refine ⟨fun _ => ?_, fun z => absurd (by decide) z⟩
  obtain ⟨g14, eg14, n14, z14, fk14⟩ : ∃ g14 : AH, mm_up g13 0 (cO 7 [vR 1, vI 0, vR 2, vR 9, vI 0, vR 16, vR 21, vR 26, vI 0, vR 27, vR 49, vR 63, vN, vL 0]) = g14 ∧ g14.1 = 75 ∧ g14.2 0 = some (cO 7 [vR 1, vI 0, vR 2, vR 9, vI 0, vR 16, vR 21, vR 26, vI 0, vR 27, vR 49, vR 63, vN, vL 0]) ∧ ∀ k, 1 ≤ k → g14.2 k = g13.2 k := ⟨_, rfl, n13, mmu_get .. |>.trans (if_pos rfl), fun k hk => mmu_get .. |>.trans (if_neg (by omega))⟩
  rw [eg14]
  refine ⟨0, 0, _, Nat.zero_le _, Nat.zero_le _, c_open (d := d) ((fk14 16 (by omega)).trans e16) ((fk14 2 (by omega)).trans e2) (ew3.keep (fk14 3 (by omega)) (fk14 4 (by omega))) ⟨_, _, (fk14 17 (by omega)).trans e17, (fk14 18 (by omega)).trans e18⟩ ((fk14 19 (by omega)).trans e19) ((fk14 20 (by omega)).trans e20), fun z g15 hz => ?_⟩
  obtain ⟨rfl, w17', f19, f20, fr15⟩ := hz
  have go15 : ∀ k, 1 ≤ k → k ∉ [17, 18, 19, 20] → g15.2 k = g13.2 k := fun k k1 k2 => by rw [fr15.2 k k2, fk14 k k1]
  (try simp only [Option.toList_some, Option.toList_none, List.nil_append, List.append_nil, List.cons_append, Nat.sub_zero, Nat.sub_self, Nat.zero_sub]); refine Go.wp sp_54 200 ?_; simp only [↓g54_0, ↓g54_1, ↓g54_4, ↓g54_5, ↓g54_7, ↓g54_9, ↓g54_12, ↓g54_13, ↓g54_16, ↓g54_17, ↓g54_20, ↓g54_23, ↓g54_24, ↓g54_27, ↓g54_28, ↓g54_31, ↓g54_34, ↓g54_35, ↓g54_38, ↓g54_39, ↓g54_42, ↓g54_45, ↓g54_46, ↓g54_49, ↓g54_50, ↓g54_53, ↓g54_56, ↓g54_57, ↓g54_58, ↓g54_61, ↓g54_64, ↓g54_65, ↓g54_68, ↓g54_69, ↓g54_72, ↓g54_75, ↓g54_76, ↓g54_79, ↓g54_80, ↓g54_83, ↓g54_86, ↓g54_87, ↓g54_90, ↓g54_91, ↓g54_94, ↓g54_97, ↓g54_98, ↓g54_99, ↓g54_100, ↓g54_101, ↓g54_104, ↓g54_105, ↓g54_108, ↓g54_109, ↓g54_112, ↓g54_113, ↓g54_116, ↓g54_117, ↓g54_120, ↓g54_123, ↓g54_124, ↓g54_125, ↓g54_128, ↓g54_131, ↓g54_134, ↓g54_135, ↓g54_138, ↓g54_139, ↓g54_142, ↓g54_145, cl_0, cl_4, cl_5, cl_8, cl_19, cl_24, cl_31, cn_0, cn_1, cn_2, cn_3, cn_4, cn_5, cn_6, cn_7, cn_8, ↓Go_s, ↓GoC_a, ↓reduceIte, ↓mm_call_eq, ↓mmw_nil, ↓mmw_cons, List.take_succ_cons, List.take_zero, List.take_nil, List.drop_succ_cons, List.drop_zero, List.drop_nil, List.reverse_cons, List.reverse_nil, List.nil_append, List.cons_append, List.append_nil, Option.toList_some, Option.toList_none, Nat.sub_zero, Nat.le_refl, mmr_cons, mm_st1, mm_st2, mmi_nil, mmi_cons, mmc_I, mmc_L, mmc_R, mmu_get, mmu_one, mma_get, mma_one, List.filter_cons, List.filter_nil, List.contains_cons, List.contains_nil, Nat.reduceBEq, Nat.reduceAdd, Nat.reduceLT, Nat.reduceSub, Nat.reduceLeDiff, Nat.reduceEqDiff, Int32.reduceAdd, Bool.not_true, Bool.not_false, Bool.and_true, Bool.true_and, Bool.and_false, Bool.false_and, Bool.or_false, Bool.false_or, Bool.or_true, Bool.true_or, if_true, if_false, ite_true, ite_false, Bool.false_eq_true, List.getElem?_cons_zero, List.getElem?_cons_succ, List.length_cons, List.length_nil, true_and, and_true, List.set_cons_zero, List.set_cons_succ, Fin.isValue, Fin.val_zero, Fin.val_one, Fin.val_two, Fin.reduceFinMk, Nat.zero_add, n14, ft_7_0, ft_7_10, ft_7_11, ft_7_2, ft_7_3, ft_7_4, ft_7_5, ft_7_6, ft_7_7, ft_7_9, nu_fitI, nu_fitL, nu_fitO, nu_fitA, nu_fitB0, nu_fitB1]
  refine ⟨rfl, fr15.1.trans n14, (fr15.2 0 (by simp)).trans z14, (go15 2 (by omega) (by simp)).trans e2, ew5.keep (go15 5 (by omega) (by simp)) (go15 6 (by omega) (by simp)), w17', ⟨_, f19, fun b hb => if_pos hb⟩, ⟨_, f20, fun b hb => if_pos hb⟩, (go15 21 (by omega) (by simp)).trans e21, (go15 27 (by omega) (by simp)).trans e27, fun k hk => ?_, fun k hk => ?_⟩
  · by_cases k0 : k = 0
    · rw [k0, fr15.2 0 (by simp), z14]; rfl
    · by_cases k17 : k = 17
      · rw [k17]; exact (Rw_sh w17' SH (fun _ => rfl) (fun _ => rfl)).1
      · by_cases k18 : k = 18
        · rw [k18]; exact (Rw_sh w17' SH (fun _ => rfl) (fun _ => rfl)).2
        · by_cases k19 : k = 19
          · rw [k19, f19]; rfl
          · by_cases k20 : k = 20
            · rw [k20, f20]; rfl
            · rw [go15 k (by omega) (by simp only [List.mem_cons, List.not_mem_nil, or_false]; omega)]
              exact s13 k (by omega) hk
  · rw [go15 k (by omega) (by simp only [List.mem_cons, List.not_mem_nil, or_false]; omega)]
    exact no13 k hk
end BINIT
