/-! reading: the model's text -/
abbrev sp_105 : List Nat := [4]
section G105
variable {tb : Nat → Nat × (Nat → Int32)} {call : CO} {Q : AQ} {C : CP} {lv : AL} {st : List AV} {h : AH} {kc ks : Nat}
theorem g105_0  : mm_step (mm_rw mr_105) (some .int) tb call Q C 0 lv st h kc ks = (match mm_rd lv 0 with
    | some (.inr (.inr (.inl (some k)))) => C 1 lv (vR k :: st) h kc ks
    | some (.inr (.inr (.inr t))) => C 1 lv (vT t :: st) h kc ks
    | _ => False) := rfl
theorem g105_1  : mm_step (mm_rw mr_105) (some .int) tb call Q C 1 lv st h kc ks = ((match (st.take 1).reverse with
    | .inr (.inr (.inl (some k))) :: _ => (match h.2 k with
      | some (.inr (.inr (ci, _))) => mm_cn ci = (mm_mi 103).1.cls
      | _ => False)
    | _ => False) ∧ mm_call call C 103 1 1 lv st h kc ks) := rfl
theorem g105_4 (v : Int32) : mm_step (mm_rw mr_105) (some .int) tb call Q C 4 lv [.inl v] h kc ks = (True ∧ Q (some (vI v)) h) := rfl
end G105

abbrev sp_106 : List Nat := [4, 46, 124]
section G106
variable {tb : Nat → Nat × (Nat → Int32)} {call : CO} {Q : AQ} {C : CP} {lv : AL} {st : List AV} {h : AH} {kc ks : Nat}
theorem g106_0  : mm_step (mm_rw mr_106) (some .int) tb call Q C 0 lv st h kc ks = (match mm_rd lv 0 with
    | some (.inr (.inr (.inl (some k)))) => C 1 lv (vR k :: st) h kc ks
    | some (.inr (.inr (.inr t))) => C 1 lv (vT t :: st) h kc ks
    | _ => False) := rfl
theorem g106_1  : mm_step (mm_rw mr_106) (some .int) tb call Q C 1 lv st h kc ks = ((match (st.take 1).reverse with
    | .inr (.inr (.inl (some k))) :: _ => (match h.2 k with
      | some (.inr (.inr (ci, _))) => mm_cn ci = (mm_mi 103).1.cls
      | _ => False)
    | _ => False) ∧ mm_call call C 103 1 1 lv st h kc ks) := rfl
theorem g106_4  : mm_step (mm_rw mr_106) (some .int) tb call Q C 4 lv st h kc ks = (C 6 lv (vI (mI 9) :: st) h kc ks) := rfl
theorem g106_6 (a b : Int32) : mm_step (mm_rw mr_106) (some .int) tb call Q C 6 lv (.inl b :: .inl a :: st) h kc ks = ((a = b → C 12 lv st h kc ks) ∧ (¬ a = b → C 9 lv st h kc ks)) := rfl
theorem g106_9  : mm_step (mm_rw mr_106) (some .int) tb call Q C 9 lv st h kc ks = (C 11 lv (vI (mI 3) :: st) h kc ks) := rfl
theorem g106_11 (v : Int32) : mm_step (mm_rw mr_106) (some .int) tb call Q C 11 lv [.inl v] h kc ks = (True ∧ Q (some (vI v)) h) := rfl
theorem g106_12  : mm_step (mm_rw mr_106) (some .int) tb call Q C 12 lv st h kc ks = (match mm_rd lv 0 with
    | some (.inr (.inr (.inl (some k)))) => C 13 lv (vR k :: st) h kc ks
    | some (.inr (.inr (.inr t))) => C 13 lv (vT t :: st) h kc ks
    | _ => False) := rfl
theorem g106_13  : mm_step (mm_rw mr_106) (some .int) tb call Q C 13 lv st h kc ks = (match mm_rd lv 0 with
    | some (.inr (.inr (.inl (some k)))) => C 14 lv (vR k :: st) h kc ks
    | some (.inr (.inr (.inr t))) => C 14 lv (vT t :: st) h kc ks
    | _ => False) := rfl
theorem g106_14 (k : Nat) : mm_step (mm_rw mr_106) (some .int) tb call Q C 14 lv (.inr (.inr (.inl (some k))) :: st) h kc ks = (match h.2 k with
    | some (.inr (.inr (ci, fs))) => ci = 8 ∧ (match fs[4]? with
      | some v => C 17 lv (v :: st) h kc ks
      | none => False)
    | _ => False) := rfl
theorem g106_17 (v : AV) (k : Nat) : mm_step (mm_rw mr_106) (some .int) tb call Q C 17 lv (v :: .inr (.inr (.inl (some k))) :: st) h kc ks = (match h.2 k with
    | some (.inr (.inr (ci, fs))) => ci = 8 ∧ 11 < fs.length ∧ mm_fit (mm_ft 8 11) v ∧ C 20 lv st (mm_up h k (cO ci (fs.set 11 v))) kc ks
    | _ => False) := rfl
theorem g106_20  : mm_step (mm_rw mr_106) (some .int) tb call Q C 20 lv st h kc ks = (match mm_rd lv 0 with
    | some (.inr (.inr (.inl (some k)))) => C 21 lv (vR k :: st) h kc ks
    | some (.inr (.inr (.inr t))) => C 21 lv (vT t :: st) h kc ks
    | _ => False) := rfl
theorem g106_21  : mm_step (mm_rw mr_106) (some .int) tb call Q C 21 lv st h kc ks = (match mm_rd lv 0 with
    | some (.inr (.inr (.inl (some k)))) => C 22 lv (vR k :: st) h kc ks
    | some (.inr (.inr (.inr t))) => C 22 lv (vT t :: st) h kc ks
    | _ => False) := rfl
theorem g106_22 (k : Nat) : mm_step (mm_rw mr_106) (some .int) tb call Q C 22 lv (.inr (.inr (.inl (some k))) :: st) h kc ks = (match h.2 k with
    | some (.inr (.inr (ci, fs))) => ci = 8 ∧ (match fs[5]? with
      | some v => C 25 lv (v :: st) h kc ks
      | none => False)
    | _ => False) := rfl
theorem g106_25 (v : AV) (k : Nat) : mm_step (mm_rw mr_106) (some .int) tb call Q C 25 lv (v :: .inr (.inr (.inl (some k))) :: st) h kc ks = (match h.2 k with
    | some (.inr (.inr (ci, fs))) => ci = 8 ∧ 12 < fs.length ∧ mm_fit (mm_ft 8 12) v ∧ C 28 lv st (mm_up h k (cO ci (fs.set 12 v))) kc ks
    | _ => False) := rfl
theorem g106_28  : mm_step (mm_rw mr_106) (some .int) tb call Q C 28 lv st h kc ks = (match mm_rd lv 0 with
    | some (.inr (.inr (.inl (some k)))) => C 29 lv (vR k :: st) h kc ks
    | some (.inr (.inr (.inr t))) => C 29 lv (vT t :: st) h kc ks
    | _ => False) := rfl
theorem g106_29  : mm_step (mm_rw mr_106) (some .int) tb call Q C 29 lv st h kc ks = (match mm_rd lv 0 with
    | some (.inr (.inr (.inl (some k)))) => C 30 lv (vR k :: st) h kc ks
    | some (.inr (.inr (.inr t))) => C 30 lv (vT t :: st) h kc ks
    | _ => False) := rfl
theorem g106_30 (k : Nat) : mm_step (mm_rw mr_106) (some .int) tb call Q C 30 lv (.inr (.inr (.inl (some k))) :: st) h kc ks = (match h.2 k with
    | some (.inr (.inr (ci, fs))) => ci = 8 ∧ (match fs[6]? with
      | some v => C 33 lv (v :: st) h kc ks
      | none => False)
    | _ => False) := rfl
theorem g106_33 (v : AV) (k : Nat) : mm_step (mm_rw mr_106) (some .int) tb call Q C 33 lv (v :: .inr (.inr (.inl (some k))) :: st) h kc ks = (match h.2 k with
    | some (.inr (.inr (ci, fs))) => ci = 8 ∧ 13 < fs.length ∧ mm_fit (mm_ft 8 13) v ∧ C 36 lv st (mm_up h k (cO ci (fs.set 13 v))) kc ks
    | _ => False) := rfl
theorem g106_36  : mm_step (mm_rw mr_106) (some .int) tb call Q C 36 lv st h kc ks = (match mm_rd lv 0 with
    | some (.inr (.inr (.inl (some k)))) => C 37 lv (vR k :: st) h kc ks
    | some (.inr (.inr (.inr t))) => C 37 lv (vT t :: st) h kc ks
    | _ => False) := rfl
theorem g106_37  : mm_step (mm_rw mr_106) (some .int) tb call Q C 37 lv st h kc ks = (match mm_rd lv 0 with
    | some (.inr (.inr (.inl (some k)))) => C 38 lv (vR k :: st) h kc ks
    | some (.inr (.inr (.inr t))) => C 38 lv (vT t :: st) h kc ks
    | _ => False) := rfl
theorem g106_38 (k : Nat) : mm_step (mm_rw mr_106) (some .int) tb call Q C 38 lv (.inr (.inr (.inl (some k))) :: st) h kc ks = (match h.2 k with
    | some (.inr (.inr (ci, fs))) => ci = 8 ∧ (match fs[11]? with
      | some v => C 41 lv (v :: st) h kc ks
      | none => False)
    | _ => False) := rfl
theorem g106_41 (v : AV) (k : Nat) : mm_step (mm_rw mr_106) (some .int) tb call Q C 41 lv (v :: .inr (.inr (.inl (some k))) :: st) h kc ks = (match h.2 k with
    | some (.inr (.inr (ci, fs))) => ci = 8 ∧ 15 < fs.length ∧ mm_fit (mm_ft 8 15) v ∧ C 44 lv st (mm_up h k (cO ci (fs.set 15 v))) kc ks
    | _ => False) := rfl
theorem g106_44  : mm_step (mm_rw mr_106) (some .int) tb call Q C 44 lv st h kc ks = (C 45 lv (vI 0 :: st) h kc ks) := rfl
theorem g106_45 (a : Int32) : mm_step (mm_rw mr_106) (some .int) tb call Q C 45 lv (.inl a :: st) h kc ks = (C 46 (mm_st1 lv 1 (vI a)) st h kc ks) := rfl
theorem g106_46  : mm_step (mm_rw mr_106) (some .int) tb call Q C 46 lv st h kc ks = (match mm_rd lv 1 with
    | some (.inl a) => C 47 lv (vI a :: st) h kc ks
    | _ => False) := rfl
theorem g106_47  : mm_step (mm_rw mr_106) (some .int) tb call Q C 47 lv st h kc ks = (C 49 lv (vI 8 :: st) h kc ks) := rfl
theorem g106_49 (a b : Int32) : mm_step (mm_rw mr_106) (some .int) tb call Q C 49 lv (.inl b :: .inl a :: st) h kc ks = ((b ≤ a → C 122 lv st h kc ks) ∧ (¬ b ≤ a → C 52 lv st h kc ks)) := rfl
theorem g106_52  : mm_step (mm_rw mr_106) (some .int) tb call Q C 52 lv st h kc ks = (match mm_rd lv 0 with
    | some (.inr (.inr (.inl (some k)))) => C 53 lv (vR k :: st) h kc ks
    | some (.inr (.inr (.inr t))) => C 53 lv (vT t :: st) h kc ks
    | _ => False) := rfl
theorem g106_53 (k : Nat) : mm_step (mm_rw mr_106) (some .int) tb call Q C 53 lv (.inr (.inr (.inl (some k))) :: st) h kc ks = (match h.2 k with
    | some (.inr (.inr (ci, fs))) => ci = 8 ∧ (match fs[14]? with
      | some v => C 56 lv (v :: st) h kc ks
      | none => False)
    | _ => False) := rfl
theorem g106_56  : mm_step (mm_rw mr_106) (some .int) tb call Q C 56 lv st h kc ks = (match mm_rd lv 1 with
    | some (.inl a) => C 57 lv (vI a :: st) h kc ks
    | _ => False) := rfl
theorem g106_57  : mm_step (mm_rw mr_106) (some .int) tb call Q C 57 lv st h kc ks = (match mm_rd lv 1 with
    | some (.inl a) => C 58 lv (vI a :: st) h kc ks
    | _ => False) := rfl
theorem g106_58  : mm_step (mm_rw mr_106) (some .int) tb call Q C 58 lv st h kc ks = (match mm_rd lv 0 with
    | some (.inr (.inr (.inl (some k)))) => C 59 lv (vR k :: st) h kc ks
    | some (.inr (.inr (.inr t))) => C 59 lv (vT t :: st) h kc ks
    | _ => False) := rfl
theorem g106_59 (k : Nat) : mm_step (mm_rw mr_106) (some .int) tb call Q C 59 lv (.inr (.inr (.inl (some k))) :: st) h kc ks = (match h.2 k with
    | some (.inr (.inr (ci, fs))) => ci = 8 ∧ (match fs[11]? with
      | some v => C 62 lv (v :: st) h kc ks
      | none => False)
    | _ => False) := rfl
theorem g106_62 (a b : Int32) : mm_step (mm_rw mr_106) (some .int) tb call Q C 62 lv (.inl b :: .inl a :: st) h kc ks = ((b ≤ a → C 74 lv st h kc ks) ∧ (¬ b ≤ a → C 65 lv st h kc ks)) := rfl
theorem g106_65  : mm_step (mm_rw mr_106) (some .int) tb call Q C 65 lv st h kc ks = (match mm_rd lv 0 with
    | some (.inr (.inr (.inl (some k)))) => C 66 lv (vR k :: st) h kc ks
    | some (.inr (.inr (.inr t))) => C 66 lv (vT t :: st) h kc ks
    | _ => False) := rfl
theorem g106_66 (k : Nat) : mm_step (mm_rw mr_106) (some .int) tb call Q C 66 lv (.inr (.inr (.inl (some k))) :: st) h kc ks = (match h.2 k with
    | some (.inr (.inr (ci, fs))) => ci = 8 ∧ (match fs[0]? with
      | some v => C 69 lv (v :: st) h kc ks
      | none => False)
    | _ => False) := rfl
theorem g106_69  : mm_step (mm_rw mr_106) (some .int) tb call Q C 69 lv st h kc ks = (match mm_rd lv 1 with
    | some (.inl a) => C 70 lv (vI a :: st) h kc ks
    | _ => False) := rfl
theorem g106_70 (i : Int32) (k : Nat) : mm_step (mm_rw mr_106) (some .int) tb call Q C 70 lv (.inl i :: .inr (.inr (.inl (some k))) :: st) h kc ks = (match h.2 k with
    | some (.inl (.int, n, f)) => vp_in i n ∧ C 71 lv (vI (f i.toNatClampNeg) :: st) h kc ks
    | _ => False) := rfl
theorem g106_70t (i : Int32) (t : Nat) : mm_step (mm_rw mr_106) (some .int) tb call Q C 70 lv (.inl i :: .inr (.inr (.inr t)) :: st) h kc ks = (vp_in i (tb t).1 ∧ C 71 lv (vI ((tb t).2 i.toNatClampNeg) :: st) h kc ks) := rfl
theorem g106_71  : mm_step (mm_rw mr_106) (some .int) tb call Q C 71 lv st h kc ks = (C 75 lv st h kc ks) := rfl
theorem g106_74  : mm_step (mm_rw mr_106) (some .int) tb call Q C 74 lv st h kc ks = (C 75 lv (vI 0 :: st) h kc ks) := rfl
theorem g106_75 (v i : Int32) (k : Nat) : mm_step (mm_rw mr_106) (some .int) tb call Q C 75 lv (.inl v :: .inl i :: .inr (.inr (.inl (some k))) :: st) h kc ks = (match h.2 k with
    | some (.inl (.int, n, f)) => vp_in i n ∧ C 76 lv st (mm_up h k (cI n (upd f i.toNatClampNeg v))) kc ks
    | _ => False) := rfl
theorem g106_76  : mm_step (mm_rw mr_106) (some .int) tb call Q C 76 lv st h kc ks = (match mm_rd lv 0 with
    | some (.inr (.inr (.inl (some k)))) => C 77 lv (vR k :: st) h kc ks
    | some (.inr (.inr (.inr t))) => C 77 lv (vT t :: st) h kc ks
    | _ => False) := rfl
theorem g106_77 (k : Nat) : mm_step (mm_rw mr_106) (some .int) tb call Q C 77 lv (.inr (.inr (.inl (some k))) :: st) h kc ks = (match h.2 k with
    | some (.inr (.inr (ci, fs))) => ci = 8 ∧ (match fs[8]? with
      | some v => C 80 lv (v :: st) h kc ks
      | none => False)
    | _ => False) := rfl
theorem g106_80  : mm_step (mm_rw mr_106) (some .int) tb call Q C 80 lv st h kc ks = (match mm_rd lv 1 with
    | some (.inl a) => C 81 lv (vI a :: st) h kc ks
    | _ => False) := rfl
theorem g106_81  : mm_step (mm_rw mr_106) (some .int) tb call Q C 81 lv st h kc ks = (match mm_rd lv 1 with
    | some (.inl a) => C 82 lv (vI a :: st) h kc ks
    | _ => False) := rfl
theorem g106_82  : mm_step (mm_rw mr_106) (some .int) tb call Q C 82 lv st h kc ks = (match mm_rd lv 0 with
    | some (.inr (.inr (.inl (some k)))) => C 83 lv (vR k :: st) h kc ks
    | some (.inr (.inr (.inr t))) => C 83 lv (vT t :: st) h kc ks
    | _ => False) := rfl
theorem g106_83 (k : Nat) : mm_step (mm_rw mr_106) (some .int) tb call Q C 83 lv (.inr (.inr (.inl (some k))) :: st) h kc ks = (match h.2 k with
    | some (.inr (.inr (ci, fs))) => ci = 8 ∧ (match fs[11]? with
      | some v => C 86 lv (v :: st) h kc ks
      | none => False)
    | _ => False) := rfl
theorem g106_86 (a b : Int32) : mm_step (mm_rw mr_106) (some .int) tb call Q C 86 lv (.inl b :: .inl a :: st) h kc ks = ((b ≤ a → C 98 lv st h kc ks) ∧ (¬ b ≤ a → C 89 lv st h kc ks)) := rfl
theorem g106_89  : mm_step (mm_rw mr_106) (some .int) tb call Q C 89 lv st h kc ks = (match mm_rd lv 0 with
    | some (.inr (.inr (.inl (some k)))) => C 90 lv (vR k :: st) h kc ks
    | some (.inr (.inr (.inr t))) => C 90 lv (vT t :: st) h kc ks
    | _ => False) := rfl
theorem g106_90 (k : Nat) : mm_step (mm_rw mr_106) (some .int) tb call Q C 90 lv (.inr (.inr (.inl (some k))) :: st) h kc ks = (match h.2 k with
    | some (.inr (.inr (ci, fs))) => ci = 8 ∧ (match fs[1]? with
      | some v => C 93 lv (v :: st) h kc ks
      | none => False)
    | _ => False) := rfl
theorem g106_93  : mm_step (mm_rw mr_106) (some .int) tb call Q C 93 lv st h kc ks = (match mm_rd lv 1 with
    | some (.inl a) => C 94 lv (vI a :: st) h kc ks
    | _ => False) := rfl
theorem g106_94 (i : Int32) (k : Nat) : mm_step (mm_rw mr_106) (some .int) tb call Q C 94 lv (.inl i :: .inr (.inr (.inl (some k))) :: st) h kc ks = (match h.2 k with
    | some (.inl (.int, n, f)) => vp_in i n ∧ C 95 lv (vI (f i.toNatClampNeg) :: st) h kc ks
    | _ => False) := rfl
theorem g106_94t (i : Int32) (t : Nat) : mm_step (mm_rw mr_106) (some .int) tb call Q C 94 lv (.inl i :: .inr (.inr (.inr t)) :: st) h kc ks = (vp_in i (tb t).1 ∧ C 95 lv (vI ((tb t).2 i.toNatClampNeg) :: st) h kc ks) := rfl
theorem g106_95  : mm_step (mm_rw mr_106) (some .int) tb call Q C 95 lv st h kc ks = (C 99 lv st h kc ks) := rfl
theorem g106_98  : mm_step (mm_rw mr_106) (some .int) tb call Q C 98 lv st h kc ks = (C 99 lv (vI 0 :: st) h kc ks) := rfl
theorem g106_99 (v i : Int32) (k : Nat) : mm_step (mm_rw mr_106) (some .int) tb call Q C 99 lv (.inl v :: .inl i :: .inr (.inr (.inl (some k))) :: st) h kc ks = (match h.2 k with
    | some (.inl (.int, n, f)) => vp_in i n ∧ C 100 lv st (mm_up h k (cI n (upd f i.toNatClampNeg v))) kc ks
    | _ => False) := rfl
theorem g106_100  : mm_step (mm_rw mr_106) (some .int) tb call Q C 100 lv st h kc ks = (match mm_rd lv 0 with
    | some (.inr (.inr (.inl (some k)))) => C 101 lv (vR k :: st) h kc ks
    | some (.inr (.inr (.inr t))) => C 101 lv (vT t :: st) h kc ks
    | _ => False) := rfl
theorem g106_101 (k : Nat) : mm_step (mm_rw mr_106) (some .int) tb call Q C 101 lv (.inr (.inr (.inl (some k))) :: st) h kc ks = (match h.2 k with
    | some (.inr (.inr (ci, fs))) => ci = 8 ∧ (match fs[16]? with
      | some v => C 104 lv (v :: st) h kc ks
      | none => False)
    | _ => False) := rfl
theorem g106_104  : mm_step (mm_rw mr_106) (some .int) tb call Q C 104 lv st h kc ks = (match mm_rd lv 1 with
    | some (.inl a) => C 105 lv (vI a :: st) h kc ks
    | _ => False) := rfl
theorem g106_105  : mm_step (mm_rw mr_106) (some .int) tb call Q C 105 lv st h kc ks = (C 107 lv (vI (mI 9) :: st) h kc ks) := rfl
theorem g106_107 (v i : Int32) (k : Nat) : mm_step (mm_rw mr_106) (some .int) tb call Q C 107 lv (.inl v :: .inl i :: .inr (.inr (.inl (some k))) :: st) h kc ks = (match h.2 k with
    | some (.inl (.int, n, f)) => vp_in i n ∧ C 108 lv st (mm_up h k (cI n (upd f i.toNatClampNeg v))) kc ks
    | _ => False) := rfl
theorem g106_108  : mm_step (mm_rw mr_106) (some .int) tb call Q C 108 lv st h kc ks = (match mm_rd lv 0 with
    | some (.inr (.inr (.inl (some k)))) => C 109 lv (vR k :: st) h kc ks
    | some (.inr (.inr (.inr t))) => C 109 lv (vT t :: st) h kc ks
    | _ => False) := rfl
theorem g106_109 (k : Nat) : mm_step (mm_rw mr_106) (some .int) tb call Q C 109 lv (.inr (.inr (.inl (some k))) :: st) h kc ks = (match h.2 k with
    | some (.inr (.inr (ci, fs))) => ci = 8 ∧ (match fs[17]? with
      | some v => C 112 lv (v :: st) h kc ks
      | none => False)
    | _ => False) := rfl
theorem g106_112  : mm_step (mm_rw mr_106) (some .int) tb call Q C 112 lv st h kc ks = (match mm_rd lv 1 with
    | some (.inl a) => C 113 lv (vI a :: st) h kc ks
    | _ => False) := rfl
theorem g106_113  : mm_step (mm_rw mr_106) (some .int) tb call Q C 113 lv st h kc ks = (C 115 lv (vI (mI 9) :: st) h kc ks) := rfl
theorem g106_115 (v i : Int32) (k : Nat) : mm_step (mm_rw mr_106) (some .int) tb call Q C 115 lv (.inl v :: .inl i :: .inr (.inr (.inl (some k))) :: st) h kc ks = (match h.2 k with
    | some (.inl (.int, n, f)) => vp_in i n ∧ C 116 lv st (mm_up h k (cI n (upd f i.toNatClampNeg v))) kc ks
    | _ => False) := rfl
theorem g106_116  : mm_step (mm_rw mr_106) (some .int) tb call Q C 116 lv st h kc ks = (match mm_rd lv 1 with
    | some (.inl a) => C 119 (mm_st1 lv 1 (vI (a + 1))) st h kc ks
    | _ => False) := rfl
theorem g106_119  : mm_step (mm_rw mr_106) (some .int) tb call Q C 119 lv st h kc ks = (C 46 lv st h kc ks) := rfl
theorem g106_122  : mm_step (mm_rw mr_106) (some .int) tb call Q C 122 lv st h kc ks = (C 123 lv (vI 0 :: st) h kc ks) := rfl
theorem g106_123 (a : Int32) : mm_step (mm_rw mr_106) (some .int) tb call Q C 123 lv (.inl a :: st) h kc ks = (C 124 (mm_st1 lv 1 (vI a)) st h kc ks) := rfl
theorem g106_124  : mm_step (mm_rw mr_106) (some .int) tb call Q C 124 lv st h kc ks = (match mm_rd lv 1 with
    | some (.inl a) => C 125 lv (vI a :: st) h kc ks
    | _ => False) := rfl
theorem g106_125  : mm_step (mm_rw mr_106) (some .int) tb call Q C 125 lv st h kc ks = (C 126 lv (vI 4 :: st) h kc ks) := rfl
theorem g106_126 (a b : Int32) : mm_step (mm_rw mr_106) (some .int) tb call Q C 126 lv (.inl b :: .inl a :: st) h kc ks = ((b ≤ a → C 159 lv st h kc ks) ∧ (¬ b ≤ a → C 129 lv st h kc ks)) := rfl
theorem g106_129  : mm_step (mm_rw mr_106) (some .int) tb call Q C 129 lv st h kc ks = (match mm_rd lv 0 with
    | some (.inr (.inr (.inl (some k)))) => C 130 lv (vR k :: st) h kc ks
    | some (.inr (.inr (.inr t))) => C 130 lv (vT t :: st) h kc ks
    | _ => False) := rfl
theorem g106_130 (k : Nat) : mm_step (mm_rw mr_106) (some .int) tb call Q C 130 lv (.inr (.inr (.inl (some k))) :: st) h kc ks = (match h.2 k with
    | some (.inr (.inr (ci, fs))) => ci = 8 ∧ (match fs[9]? with
      | some v => C 133 lv (v :: st) h kc ks
      | none => False)
    | _ => False) := rfl
theorem g106_133  : mm_step (mm_rw mr_106) (some .int) tb call Q C 133 lv st h kc ks = (match mm_rd lv 1 with
    | some (.inl a) => C 134 lv (vI a :: st) h kc ks
    | _ => False) := rfl
theorem g106_134  : mm_step (mm_rw mr_106) (some .int) tb call Q C 134 lv st h kc ks = (match mm_rd lv 0 with
    | some (.inr (.inr (.inl (some k)))) => C 135 lv (vR k :: st) h kc ks
    | some (.inr (.inr (.inr t))) => C 135 lv (vT t :: st) h kc ks
    | _ => False) := rfl
theorem g106_135 (k : Nat) : mm_step (mm_rw mr_106) (some .int) tb call Q C 135 lv (.inr (.inr (.inl (some k))) :: st) h kc ks = (match h.2 k with
    | some (.inr (.inr (ci, fs))) => ci = 8 ∧ (match fs[2]? with
      | some v => C 138 lv (v :: st) h kc ks
      | none => False)
    | _ => False) := rfl
theorem g106_138  : mm_step (mm_rw mr_106) (some .int) tb call Q C 138 lv st h kc ks = (match mm_rd lv 1 with
    | some (.inl a) => C 139 lv (vI a :: st) h kc ks
    | _ => False) := rfl
theorem g106_139 (i : Int32) (k : Nat) : mm_step (mm_rw mr_106) (some .int) tb call Q C 139 lv (.inl i :: .inr (.inr (.inl (some k))) :: st) h kc ks = (match h.2 k with
    | some (.inl (.int, n, f)) => vp_in i n ∧ C 140 lv (vI (f i.toNatClampNeg) :: st) h kc ks
    | _ => False) := rfl
theorem g106_139t (i : Int32) (t : Nat) : mm_step (mm_rw mr_106) (some .int) tb call Q C 139 lv (.inl i :: .inr (.inr (.inr t)) :: st) h kc ks = (vp_in i (tb t).1 ∧ C 140 lv (vI ((tb t).2 i.toNatClampNeg) :: st) h kc ks) := rfl
theorem g106_140 (v i : Int32) (k : Nat) : mm_step (mm_rw mr_106) (some .int) tb call Q C 140 lv (.inl v :: .inl i :: .inr (.inr (.inl (some k))) :: st) h kc ks = (match h.2 k with
    | some (.inl (.int, n, f)) => vp_in i n ∧ C 141 lv st (mm_up h k (cI n (upd f i.toNatClampNeg v))) kc ks
    | _ => False) := rfl
theorem g106_141  : mm_step (mm_rw mr_106) (some .int) tb call Q C 141 lv st h kc ks = (match mm_rd lv 0 with
    | some (.inr (.inr (.inl (some k)))) => C 142 lv (vR k :: st) h kc ks
    | some (.inr (.inr (.inr t))) => C 142 lv (vT t :: st) h kc ks
    | _ => False) := rfl
theorem g106_142 (k : Nat) : mm_step (mm_rw mr_106) (some .int) tb call Q C 142 lv (.inr (.inr (.inl (some k))) :: st) h kc ks = (match h.2 k with
    | some (.inr (.inr (ci, fs))) => ci = 8 ∧ (match fs[10]? with
      | some v => C 145 lv (v :: st) h kc ks
      | none => False)
    | _ => False) := rfl
theorem g106_145  : mm_step (mm_rw mr_106) (some .int) tb call Q C 145 lv st h kc ks = (match mm_rd lv 1 with
    | some (.inl a) => C 146 lv (vI a :: st) h kc ks
    | _ => False) := rfl
theorem g106_146  : mm_step (mm_rw mr_106) (some .int) tb call Q C 146 lv st h kc ks = (match mm_rd lv 0 with
    | some (.inr (.inr (.inl (some k)))) => C 147 lv (vR k :: st) h kc ks
    | some (.inr (.inr (.inr t))) => C 147 lv (vT t :: st) h kc ks
    | _ => False) := rfl
theorem g106_147 (k : Nat) : mm_step (mm_rw mr_106) (some .int) tb call Q C 147 lv (.inr (.inr (.inl (some k))) :: st) h kc ks = (match h.2 k with
    | some (.inr (.inr (ci, fs))) => ci = 8 ∧ (match fs[3]? with
      | some v => C 150 lv (v :: st) h kc ks
      | none => False)
    | _ => False) := rfl
theorem g106_150  : mm_step (mm_rw mr_106) (some .int) tb call Q C 150 lv st h kc ks = (match mm_rd lv 1 with
    | some (.inl a) => C 151 lv (vI a :: st) h kc ks
    | _ => False) := rfl
theorem g106_151 (i : Int32) (k : Nat) : mm_step (mm_rw mr_106) (some .int) tb call Q C 151 lv (.inl i :: .inr (.inr (.inl (some k))) :: st) h kc ks = (match h.2 k with
    | some (.inl (.int, n, f)) => vp_in i n ∧ C 152 lv (vI (f i.toNatClampNeg) :: st) h kc ks
    | _ => False) := rfl
theorem g106_151t (i : Int32) (t : Nat) : mm_step (mm_rw mr_106) (some .int) tb call Q C 151 lv (.inl i :: .inr (.inr (.inr t)) :: st) h kc ks = (vp_in i (tb t).1 ∧ C 152 lv (vI ((tb t).2 i.toNatClampNeg) :: st) h kc ks) := rfl
theorem g106_152 (v i : Int32) (k : Nat) : mm_step (mm_rw mr_106) (some .int) tb call Q C 152 lv (.inl v :: .inl i :: .inr (.inr (.inl (some k))) :: st) h kc ks = (match h.2 k with
    | some (.inl (.int, n, f)) => vp_in i n ∧ C 153 lv st (mm_up h k (cI n (upd f i.toNatClampNeg v))) kc ks
    | _ => False) := rfl
theorem g106_153  : mm_step (mm_rw mr_106) (some .int) tb call Q C 153 lv st h kc ks = (match mm_rd lv 1 with
    | some (.inl a) => C 156 (mm_st1 lv 1 (vI (a + 1))) st h kc ks
    | _ => False) := rfl
theorem g106_156  : mm_step (mm_rw mr_106) (some .int) tb call Q C 156 lv st h kc ks = (C 124 lv st h kc ks) := rfl
theorem g106_159  : mm_step (mm_rw mr_106) (some .int) tb call Q C 159 lv st h kc ks = (match mm_rd lv 0 with
    | some (.inr (.inr (.inl (some k)))) => C 160 lv (vR k :: st) h kc ks
    | some (.inr (.inr (.inr t))) => C 160 lv (vT t :: st) h kc ks
    | _ => False) := rfl
theorem g106_160  : mm_step (mm_rw mr_106) (some .int) tb call Q C 160 lv st h kc ks = (C 161 lv (vI 0 :: st) h kc ks) := rfl
theorem g106_161 (v : AV) (k : Nat) : mm_step (mm_rw mr_106) (some .int) tb call Q C 161 lv (v :: .inr (.inr (.inl (some k))) :: st) h kc ks = (match h.2 k with
    | some (.inr (.inr (ci, fs))) => ci = 8 ∧ 22 < fs.length ∧ mm_fit (mm_ft 8 22) v ∧ C 164 lv st (mm_up h k (cO ci (fs.set 22 v))) kc ks
    | _ => False) := rfl
theorem g106_164  : mm_step (mm_rw mr_106) (some .int) tb call Q C 164 lv st h kc ks = (match mm_rd lv 0 with
    | some (.inr (.inr (.inl (some k)))) => C 165 lv (vR k :: st) h kc ks
    | some (.inr (.inr (.inr t))) => C 165 lv (vT t :: st) h kc ks
    | _ => False) := rfl
theorem g106_165 (k : Nat) : mm_step (mm_rw mr_106) (some .int) tb call Q C 165 lv (.inr (.inr (.inl (some k))) :: st) h kc ks = (match h.2 k with
    | some (.inr (.inr (ci, fs))) => ci = 8 ∧ (match fs[40]? with
      | some v => C 168 lv (v :: st) h kc ks
      | none => False)
    | _ => False) := rfl
theorem g106_168  : mm_step (mm_rw mr_106) (some .int) tb call Q C 168 lv st h kc ks = (C 169 lv (vI 0 :: st) h kc ks) := rfl
theorem g106_169  : mm_step (mm_rw mr_106) (some .int) tb call Q C 169 lv st h kc ks = (C 170 lv (vI 0 :: st) h kc ks) := rfl
theorem g106_170 (v i : Int32) (k : Nat) : mm_step (mm_rw mr_106) (some .int) tb call Q C 170 lv (.inl v :: .inl i :: .inr (.inr (.inl (some k))) :: st) h kc ks = (match h.2 k with
    | some (.inl (.byte, n, f)) => vp_in i n ∧ C 171 lv st (mm_up h k (.inl (.byte, n, upd f i.toNatClampNeg (vp_nar .byte v)))) kc ks
    | some (.inl (.boolean, n, f)) => vp_in i n ∧ C 171 lv st (mm_up h k (.inl (.boolean, n, upd f i.toNatClampNeg (vp_nar .boolean v)))) kc ks
    | _ => False) := rfl
theorem g106_171  : mm_step (mm_rw mr_106) (some .int) tb call Q C 171 lv st h kc ks = (match mm_rd lv 0 with
    | some (.inr (.inr (.inl (some k)))) => C 172 lv (vR k :: st) h kc ks
    | some (.inr (.inr (.inr t))) => C 172 lv (vT t :: st) h kc ks
    | _ => False) := rfl
theorem g106_172 (k : Nat) : mm_step (mm_rw mr_106) (some .int) tb call Q C 172 lv (.inr (.inr (.inl (some k))) :: st) h kc ks = (match h.2 k with
    | some (.inr (.inr (ci, fs))) => ci = 8 ∧ (match fs[40]? with
      | some v => C 175 lv (v :: st) h kc ks
      | none => False)
    | _ => False) := rfl
theorem g106_175  : mm_step (mm_rw mr_106) (some .int) tb call Q C 175 lv st h kc ks = (C 176 lv (vI 1 :: st) h kc ks) := rfl
theorem g106_176  : mm_step (mm_rw mr_106) (some .int) tb call Q C 176 lv st h kc ks = (C 177 lv (vI 0 :: st) h kc ks) := rfl
theorem g106_177 (v i : Int32) (k : Nat) : mm_step (mm_rw mr_106) (some .int) tb call Q C 177 lv (.inl v :: .inl i :: .inr (.inr (.inl (some k))) :: st) h kc ks = (match h.2 k with
    | some (.inl (.byte, n, f)) => vp_in i n ∧ C 178 lv st (mm_up h k (.inl (.byte, n, upd f i.toNatClampNeg (vp_nar .byte v)))) kc ks
    | some (.inl (.boolean, n, f)) => vp_in i n ∧ C 178 lv st (mm_up h k (.inl (.boolean, n, upd f i.toNatClampNeg (vp_nar .boolean v)))) kc ks
    | _ => False) := rfl
theorem g106_178  : mm_step (mm_rw mr_106) (some .int) tb call Q C 178 lv st h kc ks = (C 180 lv (vI 10 :: st) h kc ks) := rfl
theorem g106_180  : mm_step (mm_rw mr_106) (some .int) tb call Q C 180 lv st h kc ks = (match mm_rd lv 0 with
    | some (.inr (.inr (.inl (some k)))) => C 181 lv (vR k :: st) h kc ks
    | some (.inr (.inr (.inr t))) => C 181 lv (vT t :: st) h kc ks
    | _ => False) := rfl
theorem g106_181 (k : Nat) : mm_step (mm_rw mr_106) (some .int) tb call Q C 181 lv (.inr (.inr (.inl (some k))) :: st) h kc ks = (match h.2 k with
    | some (.inr (.inr (ci, fs))) => ci = 8 ∧ (match fs[11]? with
      | some v => C 184 lv (v :: st) h kc ks
      | none => False)
    | _ => False) := rfl
theorem g106_184 (a b : Int32) : mm_step (mm_rw mr_106) (some .int) tb call Q C 184 lv (.inl b :: .inl a :: st) h kc ks = (C 185 lv (vI (a * b) :: st) h kc ks) := rfl
theorem g106_185  : mm_step (mm_rw mr_106) (some .int) tb call Q C 185 lv st h kc ks = (match mm_rd lv 0 with
    | some (.inr (.inr (.inl (some k)))) => C 186 lv (vR k :: st) h kc ks
    | some (.inr (.inr (.inr t))) => C 186 lv (vT t :: st) h kc ks
    | _ => False) := rfl
theorem g106_186 (k : Nat) : mm_step (mm_rw mr_106) (some .int) tb call Q C 186 lv (.inr (.inr (.inl (some k))) :: st) h kc ks = (match h.2 k with
    | some (.inr (.inr (ci, fs))) => ci = 8 ∧ (match fs[12]? with
      | some v => C 189 lv (v :: st) h kc ks
      | none => False)
    | _ => False) := rfl
theorem g106_189 (a b : Int32) : mm_step (mm_rw mr_106) (some .int) tb call Q C 189 lv (.inl b :: .inl a :: st) h kc ks = (C 190 lv (vI (a + b) :: st) h kc ks) := rfl
theorem g106_190 (v : Int32) : mm_step (mm_rw mr_106) (some .int) tb call Q C 190 lv [.inl v] h kc ks = (True ∧ Q (some (vI v)) h) := rfl
end G106

section LIBN
variable {tb : Nat → Nat × (Nat → Int32)} {d : Nat} {s : MM} {g : SG}
abbrev RX : Type := Nat ⊕ (Nat × Nat × List Nat × List Nat × List (Nat × Nat))
/-- the parts read so far -/
def PM (s : MM) (li : Bool) (cat : List Nat) (rds : List (Nat × Nat)) (p : Nat) : Prop := s.2.1 75 21 = mI 9 ∧ s.2.1 75 20 = nI p ∧ s.2.1 75 7 = b01 li ∧ Ar (s.1 77) cat ∧ s.2.1 75 5 = nI rds.length ∧ ∀ i, i < rds.length → s.1 78 i = nI (rds.getD i (0, 0)).1 ∧ s.1 79 i = nI (rds.getD i (0, 0)).2
/-- one part -/
def stP (t : List Nat) (n : Nat) (li : Bool) (cat : List Nat) (rds : List (Nat × Nat)) (p : Nat) : Nat ⊕ (Bool × List Nat × List (Nat × Nat) × Nat) :=
  if t.getD p 0 = 67 ∧ li = false then
    (match rdR t n (p + 1) n [] with
      | (some q, _) => .inl q
      | (none, c) => .inr (true, c, rds, p + 1 + n))
  else if t.getD p 0 = 82 ∧ rds.length < 4 then
    (match fg t (p + 1) n with
      | none => .inl (p + 1)
      | some w => (match fg t (p + 2) 10 with
        | none => .inl (p + 2)
        | some v => .inr (li, cat, rds ++ [(w, v)], p + 3)))
  else .inl p
def PtM (s : MM) : Nat ⊕ (Bool × List Nat × List (Nat × Nat) × Nat) → Prop
  | .inl q => q < 2 ^ 31 ∧ s.2.1 75 21 = nI q
  | .inr (li, cat, rds, p) => PM s li cat rds p ∧ p ≤ 60 ∧ rds.length ≤ 4
def RpM (s : MM) (X : Nat ⊕ (Bool × List Nat × List (Nat × Nat) × Nat)) : AQ := fun z h' => z = none ∧ ∃ s', h' = HP s' ∧ RdM s s' ∧ s'.2.1 75 4 = s.2.1 75 4 ∧ s'.2.1 75 6 = s.2.1 75 6 ∧ s'.1 76 = s.1 76 ∧ PtM s' X
theorem M_readPart {t : List Nat} {n : Nat} {li : Bool} {cat : List Nat} {rds : List (Nat × Nat)} {p : Nat} (hT : TxM s t) (hn : s.2.1 75 4 = nI n) (hn8 : n ≤ 8) (hP : PM s li cat rds p) (hp : p < t.length) (hr4 : rds.length ≤ 4) : WM tb (d + 3) k_M_readPart [vR 75, vI (nI (t.getD p 0))] (HP s) 0 0 (RpM s (stP t n li cat rds p)) := by
  obtain ⟨p1, p2, p3, p4, p5, p6⟩ := hP
  have h40 := hT.1
  have hc := hT.2.1 _ (getD_mem hp)
  generalize hX : stP t n li cat rds p = X
  unfold stP at hX
  have keyF : ∀ rem k o s1 q, n = k + rem → q < 2 ^ 31 → RdM s s1 → s1.2.1 75 4 = nI n → s1.2.1 75 6 = s.2.1 75 6 → s1.1 76 = s.1 76 → s1.2.1 75 21 = nI q → X = .inl q → WP (mm_rw mr_104) none tb (WM tb (d + 2)) (RpM s X) 39 [(0, vR 75), (2, vI o), (3, vI (nI k))] [] (HP s1) 0 0 := by
    intro rem
    induction rem with
    | zero =>
      intro k o s1 q hk hq ag hn1 h6 h76 hf he
      have e : k = n := by omega
      subst e
      (try simp only [Option.toList_some, Option.toList_none, List.nil_append, List.append_nil, List.cons_append, Nat.sub_zero, Nat.sub_self, Nat.zero_sub]); refine Go.wp sp_104 200 ?_; simp only [↓g104_0, ↓g104_1, ↓g104_3, ↓g104_6, ↓g104_7, ↓g104_10, ↓g104_13, ↓g104_14, ↓g104_15, ↓g104_18, ↓g104_19, ↓g104_20, ↓g104_23, ↓g104_24, ↓g104_25, ↓g104_28, ↓g104_29, ↓g104_30, ↓g104_33, ↓g104_34, ↓g104_35, ↓g104_36, ↓g104_37, ↓g104_38, ↓g104_39, ↓g104_40, ↓g104_41, ↓g104_44, ↓g104_47, ↓g104_48, ↓g104_51, ↓g104_52, ↓g104_53, ↓g104_54, ↓g104_57, ↓g104_58, ↓g104_59, ↓g104_60, ↓g104_61, ↓g104_64, ↓g104_65, ↓g104_65t, ↓g104_66, ↓g104_67, ↓g104_68, ↓g104_69, ↓g104_70, ↓g104_71, ↓g104_74, ↓g104_77, ↓g104_80, ↓g104_81, ↓g104_83, ↓g104_86, ↓g104_87, ↓g104_90, ↓g104_91, ↓g104_94, ↓g104_95, ↓g104_96, ↓g104_99, ↓g104_100, ↓g104_101, ↓g104_104, ↓g104_105, ↓g104_108, ↓g104_109, ↓g104_112, ↓g104_113, ↓g104_114, ↓g104_115, ↓g104_118, ↓g104_119, ↓g104_120, ↓g104_121, ↓g104_124, ↓g104_125, ↓g104_126, ↓g104_129, ↓g104_130, ↓g104_133, ↓g104_134, ↓g104_137, ↓g104_140, ↓g104_141, ↓g104_142, ↓g104_143, ↓g104_146, ↓g104_147, ↓g104_148, ↓g104_151, ↓g104_154, ↓g104_155, ↓g104_156, ↓g104_159, ↓g104_162, cl_102, cn_0, cn_1, cn_2, cn_3, cn_4, cn_5, cn_6, cn_7, cn_8, ↓Go_s, ↓GoC_a, ↓reduceIte, ↓mm_call_eq, ↓mmw_nil, ↓mmw_cons, List.take_succ_cons, List.take_zero, List.take_nil, List.drop_succ_cons, List.drop_zero, List.drop_nil, List.reverse_cons, List.reverse_nil, List.nil_append, List.cons_append, List.append_nil, Option.toList_some, Option.toList_none, Nat.sub_zero, Nat.le_refl, mmr_cons, mm_st1, mm_st2, mmi_nil, mmi_cons, mmc_I, mmc_L, mmc_R, mmu_get, mmu_one, mma_get, mma_one, List.filter_cons, List.filter_nil, List.contains_cons, List.contains_nil, Nat.reduceBEq, Nat.reduceAdd, Nat.reduceLT, Nat.reduceSub, Nat.reduceLeDiff, Nat.reduceEqDiff, Int32.reduceAdd, Bool.not_true, Bool.not_false, Bool.and_true, Bool.true_and, Bool.and_false, Bool.false_and, Bool.or_false, Bool.false_or, Bool.or_true, Bool.true_or, if_true, if_false, ite_true, ite_false, Bool.false_eq_true, List.getElem?_cons_zero, List.getElem?_cons_succ, List.length_cons, List.length_nil, true_and, and_true, List.set_cons_zero, List.set_cons_succ, Fin.isValue, Fin.val_zero, Fin.val_one, Fin.val_two, Fin.reduceFinMk, Nat.zero_add, hp_75, hp_76, hp_77, hp_78, hp_79, hp_80, hp_81, hp_82, hp_83, hp_84, hp_85, hp_86, hp_87, hp_88, hp_89, hp_90, hp_91, hp_92, hp_93, hp_94, hp_95, hp_96, hp_97, hp_98, og_75_0, og_75_1, og_75_2, og_75_3, og_75_4, og_75_5, og_75_6, og_75_7, og_75_8, og_75_9, og_75_10, og_75_11, og_75_12, og_75_13, og_75_14, og_75_15, og_75_16, og_75_17, og_75_18, og_75_19, og_75_20, og_75_21, og_75_22, og_75_23, og_75_24, og_75_25, og_75_26, og_75_27, og_75_28, og_75_29, og_75_30, og_75_31, og_75_32, og_75_33, og_75_34, og_75_35, og_75_36, og_75_37, og_75_38, og_75_39, og_75_40, og_75_41, ol_75, uo_75_4, uo_75_5, uo_75_6, uo_75_7, uo_75_11, uo_75_12, uo_75_13, uo_75_15, uo_75_19, uo_75_20, uo_75_21, uo_75_22, uo_75_23, uo_75_26, uo_75_30, uo_75_31, uo_75_32, uo_75_33, ua_76, ua_77, ua_78, ua_79, ua_80, ua_81, ua_82, ua_83, ua_84, ua_85, ua_86, ua_87, ua_88, ua_89, ua_90, ua_91, ua_92, ua_93, ua_94, ua_95, ua_96, ua_97, ua_98, sO_g, sA_g, sA_O, sO_A, sO_2, sM_1, sM_2, sM_3, sM_4, sM_5, sM_6, uc_75, hn1, ft_8_20, ft_8_21, ft_8_5, ft_8_7, nu_fitI, nu_fitL, nu_fitO, nu_fitA, nu_fitB0, nu_fitB1]
      exact ⟨fun _ => ⟨rfl, s1, rfl, ag, hn1.trans hn.symm, h6, h76, by rw [he]; exact ⟨hq, hf⟩⟩, fun c => absurd (Int32.le_refl _) c⟩
    | succ rem ih =>
      intro k o s1 q hk hq ag hn1 h6 h76 hf he
      have hcl : (nI k).toNatClampNeg = k := nI_clamp (by omega)
      (try simp only [Option.toList_some, Option.toList_none, List.nil_append, List.append_nil, List.cons_append, Nat.sub_zero, Nat.sub_self, Nat.zero_sub]); refine Go.wp sp_104 200 ?_; simp only [↓g104_0, ↓g104_1, ↓g104_3, ↓g104_6, ↓g104_7, ↓g104_10, ↓g104_13, ↓g104_14, ↓g104_15, ↓g104_18, ↓g104_19, ↓g104_20, ↓g104_23, ↓g104_24, ↓g104_25, ↓g104_28, ↓g104_29, ↓g104_30, ↓g104_33, ↓g104_34, ↓g104_35, ↓g104_36, ↓g104_37, ↓g104_38, ↓g104_39, ↓g104_40, ↓g104_41, ↓g104_44, ↓g104_47, ↓g104_48, ↓g104_51, ↓g104_52, ↓g104_53, ↓g104_54, ↓g104_57, ↓g104_58, ↓g104_59, ↓g104_60, ↓g104_61, ↓g104_64, ↓g104_65, ↓g104_65t, ↓g104_66, ↓g104_67, ↓g104_68, ↓g104_69, ↓g104_70, ↓g104_71, ↓g104_74, ↓g104_77, ↓g104_80, ↓g104_81, ↓g104_83, ↓g104_86, ↓g104_87, ↓g104_90, ↓g104_91, ↓g104_94, ↓g104_95, ↓g104_96, ↓g104_99, ↓g104_100, ↓g104_101, ↓g104_104, ↓g104_105, ↓g104_108, ↓g104_109, ↓g104_112, ↓g104_113, ↓g104_114, ↓g104_115, ↓g104_118, ↓g104_119, ↓g104_120, ↓g104_121, ↓g104_124, ↓g104_125, ↓g104_126, ↓g104_129, ↓g104_130, ↓g104_133, ↓g104_134, ↓g104_137, ↓g104_140, ↓g104_141, ↓g104_142, ↓g104_143, ↓g104_146, ↓g104_147, ↓g104_148, ↓g104_151, ↓g104_154, ↓g104_155, ↓g104_156, ↓g104_159, ↓g104_162, cl_102, cn_0, cn_1, cn_2, cn_3, cn_4, cn_5, cn_6, cn_7, cn_8, ↓Go_s, ↓GoC_a, ↓reduceIte, ↓mm_call_eq, ↓mmw_nil, ↓mmw_cons, List.take_succ_cons, List.take_zero, List.take_nil, List.drop_succ_cons, List.drop_zero, List.drop_nil, List.reverse_cons, List.reverse_nil, List.nil_append, List.cons_append, List.append_nil, Option.toList_some, Option.toList_none, Nat.sub_zero, Nat.le_refl, mmr_cons, mm_st1, mm_st2, mmi_nil, mmi_cons, mmc_I, mmc_L, mmc_R, mmu_get, mmu_one, mma_get, mma_one, List.filter_cons, List.filter_nil, List.contains_cons, List.contains_nil, Nat.reduceBEq, Nat.reduceAdd, Nat.reduceLT, Nat.reduceSub, Nat.reduceLeDiff, Nat.reduceEqDiff, Int32.reduceAdd, Bool.not_true, Bool.not_false, Bool.and_true, Bool.true_and, Bool.and_false, Bool.false_and, Bool.or_false, Bool.false_or, Bool.or_true, Bool.true_or, if_true, if_false, ite_true, ite_false, Bool.false_eq_true, List.getElem?_cons_zero, List.getElem?_cons_succ, List.length_cons, List.length_nil, true_and, and_true, List.set_cons_zero, List.set_cons_succ, Fin.isValue, Fin.val_zero, Fin.val_one, Fin.val_two, Fin.reduceFinMk, Nat.zero_add, hp_75, hp_76, hp_77, hp_78, hp_79, hp_80, hp_81, hp_82, hp_83, hp_84, hp_85, hp_86, hp_87, hp_88, hp_89, hp_90, hp_91, hp_92, hp_93, hp_94, hp_95, hp_96, hp_97, hp_98, og_75_0, og_75_1, og_75_2, og_75_3, og_75_4, og_75_5, og_75_6, og_75_7, og_75_8, og_75_9, og_75_10, og_75_11, og_75_12, og_75_13, og_75_14, og_75_15, og_75_16, og_75_17, og_75_18, og_75_19, og_75_20, og_75_21, og_75_22, og_75_23, og_75_24, og_75_25, og_75_26, og_75_27, og_75_28, og_75_29, og_75_30, og_75_31, og_75_32, og_75_33, og_75_34, og_75_35, og_75_36, og_75_37, og_75_38, og_75_39, og_75_40, og_75_41, ol_75, uo_75_4, uo_75_5, uo_75_6, uo_75_7, uo_75_11, uo_75_12, uo_75_13, uo_75_15, uo_75_19, uo_75_20, uo_75_21, uo_75_22, uo_75_23, uo_75_26, uo_75_30, uo_75_31, uo_75_32, uo_75_33, ua_76, ua_77, ua_78, ua_79, ua_80, ua_81, ua_82, ua_83, ua_84, ua_85, ua_86, ua_87, ua_88, ua_89, ua_90, ua_91, ua_92, ua_93, ua_94, ua_95, ua_96, ua_97, ua_98, sO_g, sA_g, sA_O, sO_A, sO_2, sM_1, sM_2, sM_3, sM_4, sM_5, sM_6, uc_75, hn1, ft_8_20, ft_8_21, ft_8_5, ft_8_7, nu_fitI, nu_fitL, nu_fitO, nu_fitA, nu_fitB0, nu_fitB1]
      refine ⟨fun c => absurd c (nI_ge (show k < n by omega) (by omega)), fun _ => ⟨0, 0, _, Nat.le_refl _, Nat.le_refl _, M_figF (d := d) hq hf _, fun z h' hz => ?_⟩⟩
      obtain ⟨rfl, rfl⟩ := hz
      (try simp only [Option.toList_some, Option.toList_none, List.nil_append, List.append_nil, List.cons_append, Nat.sub_zero, Nat.sub_self, Nat.zero_sub]); refine Go.wp sp_104 200 ?_; simp only [↓g104_0, ↓g104_1, ↓g104_3, ↓g104_6, ↓g104_7, ↓g104_10, ↓g104_13, ↓g104_14, ↓g104_15, ↓g104_18, ↓g104_19, ↓g104_20, ↓g104_23, ↓g104_24, ↓g104_25, ↓g104_28, ↓g104_29, ↓g104_30, ↓g104_33, ↓g104_34, ↓g104_35, ↓g104_36, ↓g104_37, ↓g104_38, ↓g104_39, ↓g104_40, ↓g104_41, ↓g104_44, ↓g104_47, ↓g104_48, ↓g104_51, ↓g104_52, ↓g104_53, ↓g104_54, ↓g104_57, ↓g104_58, ↓g104_59, ↓g104_60, ↓g104_61, ↓g104_64, ↓g104_65, ↓g104_65t, ↓g104_66, ↓g104_67, ↓g104_68, ↓g104_69, ↓g104_70, ↓g104_71, ↓g104_74, ↓g104_77, ↓g104_80, ↓g104_81, ↓g104_83, ↓g104_86, ↓g104_87, ↓g104_90, ↓g104_91, ↓g104_94, ↓g104_95, ↓g104_96, ↓g104_99, ↓g104_100, ↓g104_101, ↓g104_104, ↓g104_105, ↓g104_108, ↓g104_109, ↓g104_112, ↓g104_113, ↓g104_114, ↓g104_115, ↓g104_118, ↓g104_119, ↓g104_120, ↓g104_121, ↓g104_124, ↓g104_125, ↓g104_126, ↓g104_129, ↓g104_130, ↓g104_133, ↓g104_134, ↓g104_137, ↓g104_140, ↓g104_141, ↓g104_142, ↓g104_143, ↓g104_146, ↓g104_147, ↓g104_148, ↓g104_151, ↓g104_154, ↓g104_155, ↓g104_156, ↓g104_159, ↓g104_162, cl_102, cn_0, cn_1, cn_2, cn_3, cn_4, cn_5, cn_6, cn_7, cn_8, ↓Go_s, ↓GoC_a, ↓reduceIte, ↓mm_call_eq, ↓mmw_nil, ↓mmw_cons, List.take_succ_cons, List.take_zero, List.take_nil, List.drop_succ_cons, List.drop_zero, List.drop_nil, List.reverse_cons, List.reverse_nil, List.nil_append, List.cons_append, List.append_nil, Option.toList_some, Option.toList_none, Nat.sub_zero, Nat.le_refl, mmr_cons, mm_st1, mm_st2, mmi_nil, mmi_cons, mmc_I, mmc_L, mmc_R, mmu_get, mmu_one, mma_get, mma_one, List.filter_cons, List.filter_nil, List.contains_cons, List.contains_nil, Nat.reduceBEq, Nat.reduceAdd, Nat.reduceLT, Nat.reduceSub, Nat.reduceLeDiff, Nat.reduceEqDiff, Int32.reduceAdd, Bool.not_true, Bool.not_false, Bool.and_true, Bool.true_and, Bool.and_false, Bool.false_and, Bool.or_false, Bool.false_or, Bool.or_true, Bool.true_or, if_true, if_false, ite_true, ite_false, Bool.false_eq_true, List.getElem?_cons_zero, List.getElem?_cons_succ, List.length_cons, List.length_nil, true_and, and_true, List.set_cons_zero, List.set_cons_succ, Fin.isValue, Fin.val_zero, Fin.val_one, Fin.val_two, Fin.reduceFinMk, Nat.zero_add, hp_75, hp_76, hp_77, hp_78, hp_79, hp_80, hp_81, hp_82, hp_83, hp_84, hp_85, hp_86, hp_87, hp_88, hp_89, hp_90, hp_91, hp_92, hp_93, hp_94, hp_95, hp_96, hp_97, hp_98, og_75_0, og_75_1, og_75_2, og_75_3, og_75_4, og_75_5, og_75_6, og_75_7, og_75_8, og_75_9, og_75_10, og_75_11, og_75_12, og_75_13, og_75_14, og_75_15, og_75_16, og_75_17, og_75_18, og_75_19, og_75_20, og_75_21, og_75_22, og_75_23, og_75_24, og_75_25, og_75_26, og_75_27, og_75_28, og_75_29, og_75_30, og_75_31, og_75_32, og_75_33, og_75_34, og_75_35, og_75_36, og_75_37, og_75_38, og_75_39, og_75_40, og_75_41, ol_75, uo_75_4, uo_75_5, uo_75_6, uo_75_7, uo_75_11, uo_75_12, uo_75_13, uo_75_15, uo_75_19, uo_75_20, uo_75_21, uo_75_22, uo_75_23, uo_75_26, uo_75_30, uo_75_31, uo_75_32, uo_75_33, ua_76, ua_77, ua_78, ua_79, ua_80, ua_81, ua_82, ua_83, ua_84, ua_85, ua_86, ua_87, ua_88, ua_89, ua_90, ua_91, ua_92, ua_93, ua_94, ua_95, ua_96, ua_97, ua_98, sO_g, sA_g, sA_O, sO_A, sO_2, sM_1, sM_2, sM_3, sM_4, sM_5, sM_6, uc_75, hcl, nI_1, ft_8_20, ft_8_21, ft_8_5, ft_8_7, nu_fitI, nu_fitL, nu_fitO, nu_fitA, nu_fitB0, nu_fitB1]
      exact ⟨vp_in_nI (by omega) (by omega), vp_in_nI (by omega) (by omega), ih (k + 1) _ _ q (by omega) hq (ag.tr (RdM.a (by simp))) hn1 h6 h76 hf he⟩
  have key : ∀ rem acc o s1, n = acc.length + rem → (∀ v ∈ acc, v < n) → RdM s s1 → s1.2.1 75 4 = nI n → s1.2.1 75 6 = s.2.1 75 6 → s1.1 76 = s.1 76 → PM s1 true acc rds (p + 1 + acc.length) → OpB o n acc → X = (match rdR t n (p + 1) rem acc with
      | (some q, _) => .inl q
      | (none, c) => .inr (true, c, rds, p + 1 + n)) → WP (mm_rw mr_104) none tb (WM tb (d + 2)) (RpM s X) 39 [(0, vR 75), (2, vI o), (3, vI (nI acc.length))] [] (HP s1) 0 0 := by
    intro rem
    induction rem with
    | zero =>
      intro acc o s1 hk ha ag hn1 h6 h76 hP1 ho he
      have e : acc.length = n := by omega
      (try simp only [Option.toList_some, Option.toList_none, List.nil_append, List.append_nil, List.cons_append, Nat.sub_zero, Nat.sub_self, Nat.zero_sub]); refine Go.wp sp_104 200 ?_; simp only [↓g104_0, ↓g104_1, ↓g104_3, ↓g104_6, ↓g104_7, ↓g104_10, ↓g104_13, ↓g104_14, ↓g104_15, ↓g104_18, ↓g104_19, ↓g104_20, ↓g104_23, ↓g104_24, ↓g104_25, ↓g104_28, ↓g104_29, ↓g104_30, ↓g104_33, ↓g104_34, ↓g104_35, ↓g104_36, ↓g104_37, ↓g104_38, ↓g104_39, ↓g104_40, ↓g104_41, ↓g104_44, ↓g104_47, ↓g104_48, ↓g104_51, ↓g104_52, ↓g104_53, ↓g104_54, ↓g104_57, ↓g104_58, ↓g104_59, ↓g104_60, ↓g104_61, ↓g104_64, ↓g104_65, ↓g104_65t, ↓g104_66, ↓g104_67, ↓g104_68, ↓g104_69, ↓g104_70, ↓g104_71, ↓g104_74, ↓g104_77, ↓g104_80, ↓g104_81, ↓g104_83, ↓g104_86, ↓g104_87, ↓g104_90, ↓g104_91, ↓g104_94, ↓g104_95, ↓g104_96, ↓g104_99, ↓g104_100, ↓g104_101, ↓g104_104, ↓g104_105, ↓g104_108, ↓g104_109, ↓g104_112, ↓g104_113, ↓g104_114, ↓g104_115, ↓g104_118, ↓g104_119, ↓g104_120, ↓g104_121, ↓g104_124, ↓g104_125, ↓g104_126, ↓g104_129, ↓g104_130, ↓g104_133, ↓g104_134, ↓g104_137, ↓g104_140, ↓g104_141, ↓g104_142, ↓g104_143, ↓g104_146, ↓g104_147, ↓g104_148, ↓g104_151, ↓g104_154, ↓g104_155, ↓g104_156, ↓g104_159, ↓g104_162, cl_102, cn_0, cn_1, cn_2, cn_3, cn_4, cn_5, cn_6, cn_7, cn_8, ↓Go_s, ↓GoC_a, ↓reduceIte, ↓mm_call_eq, ↓mmw_nil, ↓mmw_cons, List.take_succ_cons, List.take_zero, List.take_nil, List.drop_succ_cons, List.drop_zero, List.drop_nil, List.reverse_cons, List.reverse_nil, List.nil_append, List.cons_append, List.append_nil, Option.toList_some, Option.toList_none, Nat.sub_zero, Nat.le_refl, mmr_cons, mm_st1, mm_st2, mmi_nil, mmi_cons, mmc_I, mmc_L, mmc_R, mmu_get, mmu_one, mma_get, mma_one, List.filter_cons, List.filter_nil, List.contains_cons, List.contains_nil, Nat.reduceBEq, Nat.reduceAdd, Nat.reduceLT, Nat.reduceSub, Nat.reduceLeDiff, Nat.reduceEqDiff, Int32.reduceAdd, Bool.not_true, Bool.not_false, Bool.and_true, Bool.true_and, Bool.and_false, Bool.false_and, Bool.or_false, Bool.false_or, Bool.or_true, Bool.true_or, if_true, if_false, ite_true, ite_false, Bool.false_eq_true, List.getElem?_cons_zero, List.getElem?_cons_succ, List.length_cons, List.length_nil, true_and, and_true, List.set_cons_zero, List.set_cons_succ, Fin.isValue, Fin.val_zero, Fin.val_one, Fin.val_two, Fin.reduceFinMk, Nat.zero_add, hp_75, hp_76, hp_77, hp_78, hp_79, hp_80, hp_81, hp_82, hp_83, hp_84, hp_85, hp_86, hp_87, hp_88, hp_89, hp_90, hp_91, hp_92, hp_93, hp_94, hp_95, hp_96, hp_97, hp_98, og_75_0, og_75_1, og_75_2, og_75_3, og_75_4, og_75_5, og_75_6, og_75_7, og_75_8, og_75_9, og_75_10, og_75_11, og_75_12, og_75_13, og_75_14, og_75_15, og_75_16, og_75_17, og_75_18, og_75_19, og_75_20, og_75_21, og_75_22, og_75_23, og_75_24, og_75_25, og_75_26, og_75_27, og_75_28, og_75_29, og_75_30, og_75_31, og_75_32, og_75_33, og_75_34, og_75_35, og_75_36, og_75_37, og_75_38, og_75_39, og_75_40, og_75_41, ol_75, uo_75_4, uo_75_5, uo_75_6, uo_75_7, uo_75_11, uo_75_12, uo_75_13, uo_75_15, uo_75_19, uo_75_20, uo_75_21, uo_75_22, uo_75_23, uo_75_26, uo_75_30, uo_75_31, uo_75_32, uo_75_33, ua_76, ua_77, ua_78, ua_79, ua_80, ua_81, ua_82, ua_83, ua_84, ua_85, ua_86, ua_87, ua_88, ua_89, ua_90, ua_91, ua_92, ua_93, ua_94, ua_95, ua_96, ua_97, ua_98, sO_g, sA_g, sA_O, sO_A, sO_2, sM_1, sM_2, sM_3, sM_4, sM_5, sM_6, uc_75, hn1, ft_8_20, ft_8_21, ft_8_5, ft_8_7, nu_fitI, nu_fitL, nu_fitO, nu_fitA, nu_fitB0, nu_fitB1]
      refine ⟨fun _ => ⟨rfl, s1, rfl, ag, hn1.trans hn.symm, h6, h76, ?_⟩, fun c => absurd (by rw [e]; exact Int32.le_refl _) c⟩
      rw [he]
      rw [e] at hP1
      exact ⟨hP1, by omega, hr4⟩
    | succ rem ih =>
      intro acc o s1 hk ha ag hn1 h6 h76 hP1 ho he
      have hcl : (nI acc.length).toNatClampNeg = acc.length := nI_clamp (by omega)
      have hT1 := hT.rd ag
      (try simp only [Option.toList_some, Option.toList_none, List.nil_append, List.append_nil, List.cons_append, Nat.sub_zero, Nat.sub_self, Nat.zero_sub]); refine Go.wp sp_104 200 ?_; simp only [↓g104_0, ↓g104_1, ↓g104_3, ↓g104_6, ↓g104_7, ↓g104_10, ↓g104_13, ↓g104_14, ↓g104_15, ↓g104_18, ↓g104_19, ↓g104_20, ↓g104_23, ↓g104_24, ↓g104_25, ↓g104_28, ↓g104_29, ↓g104_30, ↓g104_33, ↓g104_34, ↓g104_35, ↓g104_36, ↓g104_37, ↓g104_38, ↓g104_39, ↓g104_40, ↓g104_41, ↓g104_44, ↓g104_47, ↓g104_48, ↓g104_51, ↓g104_52, ↓g104_53, ↓g104_54, ↓g104_57, ↓g104_58, ↓g104_59, ↓g104_60, ↓g104_61, ↓g104_64, ↓g104_65, ↓g104_65t, ↓g104_66, ↓g104_67, ↓g104_68, ↓g104_69, ↓g104_70, ↓g104_71, ↓g104_74, ↓g104_77, ↓g104_80, ↓g104_81, ↓g104_83, ↓g104_86, ↓g104_87, ↓g104_90, ↓g104_91, ↓g104_94, ↓g104_95, ↓g104_96, ↓g104_99, ↓g104_100, ↓g104_101, ↓g104_104, ↓g104_105, ↓g104_108, ↓g104_109, ↓g104_112, ↓g104_113, ↓g104_114, ↓g104_115, ↓g104_118, ↓g104_119, ↓g104_120, ↓g104_121, ↓g104_124, ↓g104_125, ↓g104_126, ↓g104_129, ↓g104_130, ↓g104_133, ↓g104_134, ↓g104_137, ↓g104_140, ↓g104_141, ↓g104_142, ↓g104_143, ↓g104_146, ↓g104_147, ↓g104_148, ↓g104_151, ↓g104_154, ↓g104_155, ↓g104_156, ↓g104_159, ↓g104_162, cl_102, cn_0, cn_1, cn_2, cn_3, cn_4, cn_5, cn_6, cn_7, cn_8, ↓Go_s, ↓GoC_a, ↓reduceIte, ↓mm_call_eq, ↓mmw_nil, ↓mmw_cons, List.take_succ_cons, List.take_zero, List.take_nil, List.drop_succ_cons, List.drop_zero, List.drop_nil, List.reverse_cons, List.reverse_nil, List.nil_append, List.cons_append, List.append_nil, Option.toList_some, Option.toList_none, Nat.sub_zero, Nat.le_refl, mmr_cons, mm_st1, mm_st2, mmi_nil, mmi_cons, mmc_I, mmc_L, mmc_R, mmu_get, mmu_one, mma_get, mma_one, List.filter_cons, List.filter_nil, List.contains_cons, List.contains_nil, Nat.reduceBEq, Nat.reduceAdd, Nat.reduceLT, Nat.reduceSub, Nat.reduceLeDiff, Nat.reduceEqDiff, Int32.reduceAdd, Bool.not_true, Bool.not_false, Bool.and_true, Bool.true_and, Bool.and_false, Bool.false_and, Bool.or_false, Bool.false_or, Bool.or_true, Bool.true_or, if_true, if_false, ite_true, ite_false, Bool.false_eq_true, List.getElem?_cons_zero, List.getElem?_cons_succ, List.length_cons, List.length_nil, true_and, and_true, List.set_cons_zero, List.set_cons_succ, Fin.isValue, Fin.val_zero, Fin.val_one, Fin.val_two, Fin.reduceFinMk, Nat.zero_add, hp_75, hp_76, hp_77, hp_78, hp_79, hp_80, hp_81, hp_82, hp_83, hp_84, hp_85, hp_86, hp_87, hp_88, hp_89, hp_90, hp_91, hp_92, hp_93, hp_94, hp_95, hp_96, hp_97, hp_98, og_75_0, og_75_1, og_75_2, og_75_3, og_75_4, og_75_5, og_75_6, og_75_7, og_75_8, og_75_9, og_75_10, og_75_11, og_75_12, og_75_13, og_75_14, og_75_15, og_75_16, og_75_17, og_75_18, og_75_19, og_75_20, og_75_21, og_75_22, og_75_23, og_75_24, og_75_25, og_75_26, og_75_27, og_75_28, og_75_29, og_75_30, og_75_31, og_75_32, og_75_33, og_75_34, og_75_35, og_75_36, og_75_37, og_75_38, og_75_39, og_75_40, og_75_41, ol_75, uo_75_4, uo_75_5, uo_75_6, uo_75_7, uo_75_11, uo_75_12, uo_75_13, uo_75_15, uo_75_19, uo_75_20, uo_75_21, uo_75_22, uo_75_23, uo_75_26, uo_75_30, uo_75_31, uo_75_32, uo_75_33, ua_76, ua_77, ua_78, ua_79, ua_80, ua_81, ua_82, ua_83, ua_84, ua_85, ua_86, ua_87, ua_88, ua_89, ua_90, ua_91, ua_92, ua_93, ua_94, ua_95, ua_96, ua_97, ua_98, sO_g, sA_g, sA_O, sO_A, sO_2, sM_1, sM_2, sM_3, sM_4, sM_5, sM_6, uc_75, hn1, ft_8_20, ft_8_21, ft_8_5, ft_8_7, nu_fitI, nu_fitL, nu_fitO, nu_fitA, nu_fitB0, nu_fitB1]
      refine ⟨fun c => absurd c (nI_ge (show acc.length < n by omega) (by omega)), fun _ => ⟨0, 0, _, Nat.le_refl _, Nat.le_refl _, M_fig (d := d) hT1 hP1.1 hP1.2.1 (by omega) o, fun z h' hz => ?_⟩⟩
      rw [rdR_s] at he
      rw [ho.fq (by omega)] at hz
      cases hf : fg t (p + 1 + acc.length) n with
      | none =>
        rw [hf] at he hz
        rcases hz with ⟨v, hv, _⟩ | ⟨_, rfl, rfl⟩
        · exact absurd hv (by simp)
        · (try simp only [Option.toList_some, Option.toList_none, List.nil_append, List.append_nil, List.cons_append, Nat.sub_zero, Nat.sub_self, Nat.zero_sub]); refine Go.wp sp_104 200 ?_; simp only [↓g104_0, ↓g104_1, ↓g104_3, ↓g104_6, ↓g104_7, ↓g104_10, ↓g104_13, ↓g104_14, ↓g104_15, ↓g104_18, ↓g104_19, ↓g104_20, ↓g104_23, ↓g104_24, ↓g104_25, ↓g104_28, ↓g104_29, ↓g104_30, ↓g104_33, ↓g104_34, ↓g104_35, ↓g104_36, ↓g104_37, ↓g104_38, ↓g104_39, ↓g104_40, ↓g104_41, ↓g104_44, ↓g104_47, ↓g104_48, ↓g104_51, ↓g104_52, ↓g104_53, ↓g104_54, ↓g104_57, ↓g104_58, ↓g104_59, ↓g104_60, ↓g104_61, ↓g104_64, ↓g104_65, ↓g104_65t, ↓g104_66, ↓g104_67, ↓g104_68, ↓g104_69, ↓g104_70, ↓g104_71, ↓g104_74, ↓g104_77, ↓g104_80, ↓g104_81, ↓g104_83, ↓g104_86, ↓g104_87, ↓g104_90, ↓g104_91, ↓g104_94, ↓g104_95, ↓g104_96, ↓g104_99, ↓g104_100, ↓g104_101, ↓g104_104, ↓g104_105, ↓g104_108, ↓g104_109, ↓g104_112, ↓g104_113, ↓g104_114, ↓g104_115, ↓g104_118, ↓g104_119, ↓g104_120, ↓g104_121, ↓g104_124, ↓g104_125, ↓g104_126, ↓g104_129, ↓g104_130, ↓g104_133, ↓g104_134, ↓g104_137, ↓g104_140, ↓g104_141, ↓g104_142, ↓g104_143, ↓g104_146, ↓g104_147, ↓g104_148, ↓g104_151, ↓g104_154, ↓g104_155, ↓g104_156, ↓g104_159, ↓g104_162, cl_102, cn_0, cn_1, cn_2, cn_3, cn_4, cn_5, cn_6, cn_7, cn_8, ↓Go_s, ↓GoC_a, ↓reduceIte, ↓mm_call_eq, ↓mmw_nil, ↓mmw_cons, List.take_succ_cons, List.take_zero, List.take_nil, List.drop_succ_cons, List.drop_zero, List.drop_nil, List.reverse_cons, List.reverse_nil, List.nil_append, List.cons_append, List.append_nil, Option.toList_some, Option.toList_none, Nat.sub_zero, Nat.le_refl, mmr_cons, mm_st1, mm_st2, mmi_nil, mmi_cons, mmc_I, mmc_L, mmc_R, mmu_get, mmu_one, mma_get, mma_one, List.filter_cons, List.filter_nil, List.contains_cons, List.contains_nil, Nat.reduceBEq, Nat.reduceAdd, Nat.reduceLT, Nat.reduceSub, Nat.reduceLeDiff, Nat.reduceEqDiff, Int32.reduceAdd, Bool.not_true, Bool.not_false, Bool.and_true, Bool.true_and, Bool.and_false, Bool.false_and, Bool.or_false, Bool.false_or, Bool.or_true, Bool.true_or, if_true, if_false, ite_true, ite_false, Bool.false_eq_true, List.getElem?_cons_zero, List.getElem?_cons_succ, List.length_cons, List.length_nil, true_and, and_true, List.set_cons_zero, List.set_cons_succ, Fin.isValue, Fin.val_zero, Fin.val_one, Fin.val_two, Fin.reduceFinMk, Nat.zero_add, hp_75, hp_76, hp_77, hp_78, hp_79, hp_80, hp_81, hp_82, hp_83, hp_84, hp_85, hp_86, hp_87, hp_88, hp_89, hp_90, hp_91, hp_92, hp_93, hp_94, hp_95, hp_96, hp_97, hp_98, og_75_0, og_75_1, og_75_2, og_75_3, og_75_4, og_75_5, og_75_6, og_75_7, og_75_8, og_75_9, og_75_10, og_75_11, og_75_12, og_75_13, og_75_14, og_75_15, og_75_16, og_75_17, og_75_18, og_75_19, og_75_20, og_75_21, og_75_22, og_75_23, og_75_24, og_75_25, og_75_26, og_75_27, og_75_28, og_75_29, og_75_30, og_75_31, og_75_32, og_75_33, og_75_34, og_75_35, og_75_36, og_75_37, og_75_38, og_75_39, og_75_40, og_75_41, ol_75, uo_75_4, uo_75_5, uo_75_6, uo_75_7, uo_75_11, uo_75_12, uo_75_13, uo_75_15, uo_75_19, uo_75_20, uo_75_21, uo_75_22, uo_75_23, uo_75_26, uo_75_30, uo_75_31, uo_75_32, uo_75_33, ua_76, ua_77, ua_78, ua_79, ua_80, ua_81, ua_82, ua_83, ua_84, ua_85, ua_86, ua_87, ua_88, ua_89, ua_90, ua_91, ua_92, ua_93, ua_94, ua_95, ua_96, ua_97, ua_98, sO_g, sA_g, sA_O, sO_A, sO_2, sM_1, sM_2, sM_3, sM_4, sM_5, sM_6, uc_75, hcl, nI_1, ft_8_20, ft_8_21, ft_8_5, ft_8_7, nu_fitI, nu_fitL, nu_fitO, nu_fitA, nu_fitB0, nu_fitB1]
          exact ⟨vp_in_nI (by omega) (by omega), vp_in_nI (by omega) (by omega), keyF rem (acc.length + 1) _ _ (p + 1 + acc.length) (by omega) (by omega) (ag.tr ((RdM.o (by simp)).tr (RdM.a (by simp)))) hn1 h6 h76 rfl he⟩
      | some b =>
        have hb := fg_lt hf
        rw [hf] at he hz
        by_cases hm : b ∈ acc
        · simp only [if_pos hm] at he hz
          rcases hz with ⟨v, hv, _⟩ | ⟨_, rfl, rfl⟩
          · exact absurd hv (by simp)
          · (try simp only [Option.toList_some, Option.toList_none, List.nil_append, List.append_nil, List.cons_append, Nat.sub_zero, Nat.sub_self, Nat.zero_sub]); refine Go.wp sp_104 200 ?_; simp only [↓g104_0, ↓g104_1, ↓g104_3, ↓g104_6, ↓g104_7, ↓g104_10, ↓g104_13, ↓g104_14, ↓g104_15, ↓g104_18, ↓g104_19, ↓g104_20, ↓g104_23, ↓g104_24, ↓g104_25, ↓g104_28, ↓g104_29, ↓g104_30, ↓g104_33, ↓g104_34, ↓g104_35, ↓g104_36, ↓g104_37, ↓g104_38, ↓g104_39, ↓g104_40, ↓g104_41, ↓g104_44, ↓g104_47, ↓g104_48, ↓g104_51, ↓g104_52, ↓g104_53, ↓g104_54, ↓g104_57, ↓g104_58, ↓g104_59, ↓g104_60, ↓g104_61, ↓g104_64, ↓g104_65, ↓g104_65t, ↓g104_66, ↓g104_67, ↓g104_68, ↓g104_69, ↓g104_70, ↓g104_71, ↓g104_74, ↓g104_77, ↓g104_80, ↓g104_81, ↓g104_83, ↓g104_86, ↓g104_87, ↓g104_90, ↓g104_91, ↓g104_94, ↓g104_95, ↓g104_96, ↓g104_99, ↓g104_100, ↓g104_101, ↓g104_104, ↓g104_105, ↓g104_108, ↓g104_109, ↓g104_112, ↓g104_113, ↓g104_114, ↓g104_115, ↓g104_118, ↓g104_119, ↓g104_120, ↓g104_121, ↓g104_124, ↓g104_125, ↓g104_126, ↓g104_129, ↓g104_130, ↓g104_133, ↓g104_134, ↓g104_137, ↓g104_140, ↓g104_141, ↓g104_142, ↓g104_143, ↓g104_146, ↓g104_147, ↓g104_148, ↓g104_151, ↓g104_154, ↓g104_155, ↓g104_156, ↓g104_159, ↓g104_162, cl_102, cn_0, cn_1, cn_2, cn_3, cn_4, cn_5, cn_6, cn_7, cn_8, ↓Go_s, ↓GoC_a, ↓reduceIte, ↓mm_call_eq, ↓mmw_nil, ↓mmw_cons, List.take_succ_cons, List.take_zero, List.take_nil, List.drop_succ_cons, List.drop_zero, List.drop_nil, List.reverse_cons, List.reverse_nil, List.nil_append, List.cons_append, List.append_nil, Option.toList_some, Option.toList_none, Nat.sub_zero, Nat.le_refl, mmr_cons, mm_st1, mm_st2, mmi_nil, mmi_cons, mmc_I, mmc_L, mmc_R, mmu_get, mmu_one, mma_get, mma_one, List.filter_cons, List.filter_nil, List.contains_cons, List.contains_nil, Nat.reduceBEq, Nat.reduceAdd, Nat.reduceLT, Nat.reduceSub, Nat.reduceLeDiff, Nat.reduceEqDiff, Int32.reduceAdd, Bool.not_true, Bool.not_false, Bool.and_true, Bool.true_and, Bool.and_false, Bool.false_and, Bool.or_false, Bool.false_or, Bool.or_true, Bool.true_or, if_true, if_false, ite_true, ite_false, Bool.false_eq_true, List.getElem?_cons_zero, List.getElem?_cons_succ, List.length_cons, List.length_nil, true_and, and_true, List.set_cons_zero, List.set_cons_succ, Fin.isValue, Fin.val_zero, Fin.val_one, Fin.val_two, Fin.reduceFinMk, Nat.zero_add, hp_75, hp_76, hp_77, hp_78, hp_79, hp_80, hp_81, hp_82, hp_83, hp_84, hp_85, hp_86, hp_87, hp_88, hp_89, hp_90, hp_91, hp_92, hp_93, hp_94, hp_95, hp_96, hp_97, hp_98, og_75_0, og_75_1, og_75_2, og_75_3, og_75_4, og_75_5, og_75_6, og_75_7, og_75_8, og_75_9, og_75_10, og_75_11, og_75_12, og_75_13, og_75_14, og_75_15, og_75_16, og_75_17, og_75_18, og_75_19, og_75_20, og_75_21, og_75_22, og_75_23, og_75_24, og_75_25, og_75_26, og_75_27, og_75_28, og_75_29, og_75_30, og_75_31, og_75_32, og_75_33, og_75_34, og_75_35, og_75_36, og_75_37, og_75_38, og_75_39, og_75_40, og_75_41, ol_75, uo_75_4, uo_75_5, uo_75_6, uo_75_7, uo_75_11, uo_75_12, uo_75_13, uo_75_15, uo_75_19, uo_75_20, uo_75_21, uo_75_22, uo_75_23, uo_75_26, uo_75_30, uo_75_31, uo_75_32, uo_75_33, ua_76, ua_77, ua_78, ua_79, ua_80, ua_81, ua_82, ua_83, ua_84, ua_85, ua_86, ua_87, ua_88, ua_89, ua_90, ua_91, ua_92, ua_93, ua_94, ua_95, ua_96, ua_97, ua_98, sO_g, sA_g, sA_O, sO_A, sO_2, sM_1, sM_2, sM_3, sM_4, sM_5, sM_6, uc_75, hcl, nI_1, ft_8_20, ft_8_21, ft_8_5, ft_8_7, nu_fitI, nu_fitL, nu_fitO, nu_fitA, nu_fitB0, nu_fitB1]
            exact ⟨vp_in_nI (by omega) (by omega), vp_in_nI (by omega) (by omega), keyF rem (acc.length + 1) _ _ (p + 1 + acc.length) (by omega) (by omega) (ag.tr ((RdM.o (by simp)).tr (RdM.a (by simp)))) hn1 h6 h76 rfl he⟩
        · simp only [if_neg hm] at he hz
          rcases hz with ⟨v, hv, rfl, rfl⟩ | ⟨hv, _⟩
          · obtain rfl := Option.some.inj hv
            have hl1 : (acc ++ [b]).length = acc.length + 1 := by simp
            (try simp only [Option.toList_some, Option.toList_none, List.nil_append, List.append_nil, List.cons_append, Nat.sub_zero, Nat.sub_self, Nat.zero_sub]); refine Go.wp sp_104 200 ?_; simp only [↓g104_0, ↓g104_1, ↓g104_3, ↓g104_6, ↓g104_7, ↓g104_10, ↓g104_13, ↓g104_14, ↓g104_15, ↓g104_18, ↓g104_19, ↓g104_20, ↓g104_23, ↓g104_24, ↓g104_25, ↓g104_28, ↓g104_29, ↓g104_30, ↓g104_33, ↓g104_34, ↓g104_35, ↓g104_36, ↓g104_37, ↓g104_38, ↓g104_39, ↓g104_40, ↓g104_41, ↓g104_44, ↓g104_47, ↓g104_48, ↓g104_51, ↓g104_52, ↓g104_53, ↓g104_54, ↓g104_57, ↓g104_58, ↓g104_59, ↓g104_60, ↓g104_61, ↓g104_64, ↓g104_65, ↓g104_65t, ↓g104_66, ↓g104_67, ↓g104_68, ↓g104_69, ↓g104_70, ↓g104_71, ↓g104_74, ↓g104_77, ↓g104_80, ↓g104_81, ↓g104_83, ↓g104_86, ↓g104_87, ↓g104_90, ↓g104_91, ↓g104_94, ↓g104_95, ↓g104_96, ↓g104_99, ↓g104_100, ↓g104_101, ↓g104_104, ↓g104_105, ↓g104_108, ↓g104_109, ↓g104_112, ↓g104_113, ↓g104_114, ↓g104_115, ↓g104_118, ↓g104_119, ↓g104_120, ↓g104_121, ↓g104_124, ↓g104_125, ↓g104_126, ↓g104_129, ↓g104_130, ↓g104_133, ↓g104_134, ↓g104_137, ↓g104_140, ↓g104_141, ↓g104_142, ↓g104_143, ↓g104_146, ↓g104_147, ↓g104_148, ↓g104_151, ↓g104_154, ↓g104_155, ↓g104_156, ↓g104_159, ↓g104_162, cl_102, cn_0, cn_1, cn_2, cn_3, cn_4, cn_5, cn_6, cn_7, cn_8, ↓Go_s, ↓GoC_a, ↓reduceIte, ↓mm_call_eq, ↓mmw_nil, ↓mmw_cons, List.take_succ_cons, List.take_zero, List.take_nil, List.drop_succ_cons, List.drop_zero, List.drop_nil, List.reverse_cons, List.reverse_nil, List.nil_append, List.cons_append, List.append_nil, Option.toList_some, Option.toList_none, Nat.sub_zero, Nat.le_refl, mmr_cons, mm_st1, mm_st2, mmi_nil, mmi_cons, mmc_I, mmc_L, mmc_R, mmu_get, mmu_one, mma_get, mma_one, List.filter_cons, List.filter_nil, List.contains_cons, List.contains_nil, Nat.reduceBEq, Nat.reduceAdd, Nat.reduceLT, Nat.reduceSub, Nat.reduceLeDiff, Nat.reduceEqDiff, Int32.reduceAdd, Bool.not_true, Bool.not_false, Bool.and_true, Bool.true_and, Bool.and_false, Bool.false_and, Bool.or_false, Bool.false_or, Bool.or_true, Bool.true_or, if_true, if_false, ite_true, ite_false, Bool.false_eq_true, List.getElem?_cons_zero, List.getElem?_cons_succ, List.length_cons, List.length_nil, true_and, and_true, List.set_cons_zero, List.set_cons_succ, Fin.isValue, Fin.val_zero, Fin.val_one, Fin.val_two, Fin.reduceFinMk, Nat.zero_add, hp_75, hp_76, hp_77, hp_78, hp_79, hp_80, hp_81, hp_82, hp_83, hp_84, hp_85, hp_86, hp_87, hp_88, hp_89, hp_90, hp_91, hp_92, hp_93, hp_94, hp_95, hp_96, hp_97, hp_98, og_75_0, og_75_1, og_75_2, og_75_3, og_75_4, og_75_5, og_75_6, og_75_7, og_75_8, og_75_9, og_75_10, og_75_11, og_75_12, og_75_13, og_75_14, og_75_15, og_75_16, og_75_17, og_75_18, og_75_19, og_75_20, og_75_21, og_75_22, og_75_23, og_75_24, og_75_25, og_75_26, og_75_27, og_75_28, og_75_29, og_75_30, og_75_31, og_75_32, og_75_33, og_75_34, og_75_35, og_75_36, og_75_37, og_75_38, og_75_39, og_75_40, og_75_41, ol_75, uo_75_4, uo_75_5, uo_75_6, uo_75_7, uo_75_11, uo_75_12, uo_75_13, uo_75_15, uo_75_19, uo_75_20, uo_75_21, uo_75_22, uo_75_23, uo_75_26, uo_75_30, uo_75_31, uo_75_32, uo_75_33, ua_76, ua_77, ua_78, ua_79, ua_80, ua_81, ua_82, ua_83, ua_84, ua_85, ua_86, ua_87, ua_88, ua_89, ua_90, ua_91, ua_92, ua_93, ua_94, ua_95, ua_96, ua_97, ua_98, sO_g, sA_g, sA_O, sO_A, sO_2, sM_1, sM_2, sM_3, sM_4, sM_5, sM_6, uc_75, hcl, nI_1, upd_at, ft_8_20, ft_8_21, ft_8_5, ft_8_7, nu_fitI, nu_fitL, nu_fitO, nu_fitA, nu_fitB0, nu_fitB1]
            have i1 := ih (acc ++ [b]) _ _ (by omega) (fun v hv => by
              rcases List.mem_append.mp hv with h | h
              · exact ha v h
              · rw [List.mem_singleton] at h
                omega) (ag.tr ((RdM.o (x := nI (p + 1 + acc.length + 1)) (j := 20) (by simp)).tr (RdM.a (k := 77) (f := upd (s1.1 77) acc.length (nI b)) (by simp)))) hn1 h6 h76 ⟨hP1.1, by rw [hl1]; rfl, hP1.2.2.1, hP1.2.2.2.1.snc b, hP1.2.2.2.2⟩ (ho.su (show b < 32 by omega)) he
            rw [hl1] at i1
            exact ⟨vp_in_nI (by omega) (by omega), vp_in_nI (by omega) (by omega), i1⟩
          · exact absurd hv (by simp)
  have hz67 : (nI (t.getD p 0) = 67) = (t.getD p 0 = 67) := nu_eq (b := 67) (by omega) (by omega)
  have hz82 : (nI (t.getD p 0) = 82) = (t.getD p 0 = 82) := nu_eq (b := 82) (by omega) (by omega)
  refine WM.of mi_104 rfl rfl (Nat.le_of_ble_eq_true rfl) ?_
  show WP (mm_rw mr_104) none tb (WM tb (d + 2)) _ 0 [(0, vR 75), (1, vI (nI (t.getD p 0)))] [] (HP s) 0 0
  by_cases c67 : t.getD p 0 = 67 ∧ li = false
  · rw [if_pos c67] at hX
    have hz : s.2.1 75 7 = 0 := by rw [p3, c67.2]; rfl
    (try simp only [Option.toList_some, Option.toList_none, List.nil_append, List.append_nil, List.cons_append, Nat.sub_zero, Nat.sub_self, Nat.zero_sub]); refine Go.wp sp_104 200 ?_; simp only [↓g104_0, ↓g104_1, ↓g104_3, ↓g104_6, ↓g104_7, ↓g104_10, ↓g104_13, ↓g104_14, ↓g104_15, ↓g104_18, ↓g104_19, ↓g104_20, ↓g104_23, ↓g104_24, ↓g104_25, ↓g104_28, ↓g104_29, ↓g104_30, ↓g104_33, ↓g104_34, ↓g104_35, ↓g104_36, ↓g104_37, ↓g104_38, ↓g104_39, ↓g104_40, ↓g104_41, ↓g104_44, ↓g104_47, ↓g104_48, ↓g104_51, ↓g104_52, ↓g104_53, ↓g104_54, ↓g104_57, ↓g104_58, ↓g104_59, ↓g104_60, ↓g104_61, ↓g104_64, ↓g104_65, ↓g104_65t, ↓g104_66, ↓g104_67, ↓g104_68, ↓g104_69, ↓g104_70, ↓g104_71, ↓g104_74, ↓g104_77, ↓g104_80, ↓g104_81, ↓g104_83, ↓g104_86, ↓g104_87, ↓g104_90, ↓g104_91, ↓g104_94, ↓g104_95, ↓g104_96, ↓g104_99, ↓g104_100, ↓g104_101, ↓g104_104, ↓g104_105, ↓g104_108, ↓g104_109, ↓g104_112, ↓g104_113, ↓g104_114, ↓g104_115, ↓g104_118, ↓g104_119, ↓g104_120, ↓g104_121, ↓g104_124, ↓g104_125, ↓g104_126, ↓g104_129, ↓g104_130, ↓g104_133, ↓g104_134, ↓g104_137, ↓g104_140, ↓g104_141, ↓g104_142, ↓g104_143, ↓g104_146, ↓g104_147, ↓g104_148, ↓g104_151, ↓g104_154, ↓g104_155, ↓g104_156, ↓g104_159, ↓g104_162, cl_102, cn_0, cn_1, cn_2, cn_3, cn_4, cn_5, cn_6, cn_7, cn_8, ↓Go_s, ↓GoC_a, ↓reduceIte, ↓mm_call_eq, ↓mmw_nil, ↓mmw_cons, List.take_succ_cons, List.take_zero, List.take_nil, List.drop_succ_cons, List.drop_zero, List.drop_nil, List.reverse_cons, List.reverse_nil, List.nil_append, List.cons_append, List.append_nil, Option.toList_some, Option.toList_none, Nat.sub_zero, Nat.le_refl, mmr_cons, mm_st1, mm_st2, mmi_nil, mmi_cons, mmc_I, mmc_L, mmc_R, mmu_get, mmu_one, mma_get, mma_one, List.filter_cons, List.filter_nil, List.contains_cons, List.contains_nil, Nat.reduceBEq, Nat.reduceAdd, Nat.reduceLT, Nat.reduceSub, Nat.reduceLeDiff, Nat.reduceEqDiff, Int32.reduceAdd, Bool.not_true, Bool.not_false, Bool.and_true, Bool.true_and, Bool.and_false, Bool.false_and, Bool.or_false, Bool.false_or, Bool.or_true, Bool.true_or, if_true, if_false, ite_true, ite_false, Bool.false_eq_true, List.getElem?_cons_zero, List.getElem?_cons_succ, List.length_cons, List.length_nil, true_and, and_true, List.set_cons_zero, List.set_cons_succ, Fin.isValue, Fin.val_zero, Fin.val_one, Fin.val_two, Fin.reduceFinMk, Nat.zero_add, hp_75, hp_76, hp_77, hp_78, hp_79, hp_80, hp_81, hp_82, hp_83, hp_84, hp_85, hp_86, hp_87, hp_88, hp_89, hp_90, hp_91, hp_92, hp_93, hp_94, hp_95, hp_96, hp_97, hp_98, og_75_0, og_75_1, og_75_2, og_75_3, og_75_4, og_75_5, og_75_6, og_75_7, og_75_8, og_75_9, og_75_10, og_75_11, og_75_12, og_75_13, og_75_14, og_75_15, og_75_16, og_75_17, og_75_18, og_75_19, og_75_20, og_75_21, og_75_22, og_75_23, og_75_24, og_75_25, og_75_26, og_75_27, og_75_28, og_75_29, og_75_30, og_75_31, og_75_32, og_75_33, og_75_34, og_75_35, og_75_36, og_75_37, og_75_38, og_75_39, og_75_40, og_75_41, ol_75, uo_75_4, uo_75_5, uo_75_6, uo_75_7, uo_75_11, uo_75_12, uo_75_13, uo_75_15, uo_75_19, uo_75_20, uo_75_21, uo_75_22, uo_75_23, uo_75_26, uo_75_30, uo_75_31, uo_75_32, uo_75_33, ua_76, ua_77, ua_78, ua_79, ua_80, ua_81, ua_82, ua_83, ua_84, ua_85, ua_86, ua_87, ua_88, ua_89, ua_90, ua_91, ua_92, ua_93, ua_94, ua_95, ua_96, ua_97, ua_98, sO_g, sA_g, sA_O, sO_A, sO_2, sM_1, sM_2, sM_3, sM_4, sM_5, sM_6, uc_75, p2, hz, hz67, hn, nI_1, ft_8_20, ft_8_21, ft_8_5, ft_8_7, nu_fitI, nu_fitL, nu_fitO, nu_fitA, nu_fitB0, nu_fitB1]
    refine ⟨fun c => absurd c67.1 c, fun _ => ⟨fun c => absurd trivial c, fun _ => ?_⟩⟩
    refine WP.drop ?_ (key n [] _ _ (by simp) (by simp) ((RdM.o (j := 20) (x := nI (p + 1)) (by simp)).tr (RdM.o (j := 7) (x := 1) (by simp))) hn rfl rfl ⟨p1, rfl, rfl, fun j hj => absurd hj (Nat.not_lt_zero _), p5, p6⟩ (OpB.z (by omega)) hX.symm)
    simp [nI_0]
  · rw [if_neg c67] at hX
    have hno : (nI (t.getD p 0) = 67 → s.2.1 75 7 = 0 → False) := fun h1 h2 => c67 ⟨by rw [hz67] at h1; exact h1, by
      rw [p3] at h2
      cases li with
      | false => rfl
      | true => exact absurd h2 (by decide)⟩
    by_cases c82 : t.getD p 0 = 82 ∧ rds.length < 4
    · rw [if_pos c82] at hX
      have hcl : (nI rds.length).toNatClampNeg = rds.length := nI_clamp (by omega)
      have e67 : t.getD p 0 ≠ 67 := by omega
      (try simp only [Option.toList_some, Option.toList_none, List.nil_append, List.append_nil, List.cons_append, Nat.sub_zero, Nat.sub_self, Nat.zero_sub]); refine Go.wp sp_104 200 ?_; simp only [↓g104_0, ↓g104_1, ↓g104_3, ↓g104_6, ↓g104_7, ↓g104_10, ↓g104_13, ↓g104_14, ↓g104_15, ↓g104_18, ↓g104_19, ↓g104_20, ↓g104_23, ↓g104_24, ↓g104_25, ↓g104_28, ↓g104_29, ↓g104_30, ↓g104_33, ↓g104_34, ↓g104_35, ↓g104_36, ↓g104_37, ↓g104_38, ↓g104_39, ↓g104_40, ↓g104_41, ↓g104_44, ↓g104_47, ↓g104_48, ↓g104_51, ↓g104_52, ↓g104_53, ↓g104_54, ↓g104_57, ↓g104_58, ↓g104_59, ↓g104_60, ↓g104_61, ↓g104_64, ↓g104_65, ↓g104_65t, ↓g104_66, ↓g104_67, ↓g104_68, ↓g104_69, ↓g104_70, ↓g104_71, ↓g104_74, ↓g104_77, ↓g104_80, ↓g104_81, ↓g104_83, ↓g104_86, ↓g104_87, ↓g104_90, ↓g104_91, ↓g104_94, ↓g104_95, ↓g104_96, ↓g104_99, ↓g104_100, ↓g104_101, ↓g104_104, ↓g104_105, ↓g104_108, ↓g104_109, ↓g104_112, ↓g104_113, ↓g104_114, ↓g104_115, ↓g104_118, ↓g104_119, ↓g104_120, ↓g104_121, ↓g104_124, ↓g104_125, ↓g104_126, ↓g104_129, ↓g104_130, ↓g104_133, ↓g104_134, ↓g104_137, ↓g104_140, ↓g104_141, ↓g104_142, ↓g104_143, ↓g104_146, ↓g104_147, ↓g104_148, ↓g104_151, ↓g104_154, ↓g104_155, ↓g104_156, ↓g104_159, ↓g104_162, cl_102, cn_0, cn_1, cn_2, cn_3, cn_4, cn_5, cn_6, cn_7, cn_8, ↓Go_s, ↓GoC_a, ↓reduceIte, ↓mm_call_eq, ↓mmw_nil, ↓mmw_cons, List.take_succ_cons, List.take_zero, List.take_nil, List.drop_succ_cons, List.drop_zero, List.drop_nil, List.reverse_cons, List.reverse_nil, List.nil_append, List.cons_append, List.append_nil, Option.toList_some, Option.toList_none, Nat.sub_zero, Nat.le_refl, mmr_cons, mm_st1, mm_st2, mmi_nil, mmi_cons, mmc_I, mmc_L, mmc_R, mmu_get, mmu_one, mma_get, mma_one, List.filter_cons, List.filter_nil, List.contains_cons, List.contains_nil, Nat.reduceBEq, Nat.reduceAdd, Nat.reduceLT, Nat.reduceSub, Nat.reduceLeDiff, Nat.reduceEqDiff, Int32.reduceAdd, Bool.not_true, Bool.not_false, Bool.and_true, Bool.true_and, Bool.and_false, Bool.false_and, Bool.or_false, Bool.false_or, Bool.or_true, Bool.true_or, if_true, if_false, ite_true, ite_false, Bool.false_eq_true, List.getElem?_cons_zero, List.getElem?_cons_succ, List.length_cons, List.length_nil, true_and, and_true, List.set_cons_zero, List.set_cons_succ, Fin.isValue, Fin.val_zero, Fin.val_one, Fin.val_two, Fin.reduceFinMk, Nat.zero_add, hp_75, hp_76, hp_77, hp_78, hp_79, hp_80, hp_81, hp_82, hp_83, hp_84, hp_85, hp_86, hp_87, hp_88, hp_89, hp_90, hp_91, hp_92, hp_93, hp_94, hp_95, hp_96, hp_97, hp_98, og_75_0, og_75_1, og_75_2, og_75_3, og_75_4, og_75_5, og_75_6, og_75_7, og_75_8, og_75_9, og_75_10, og_75_11, og_75_12, og_75_13, og_75_14, og_75_15, og_75_16, og_75_17, og_75_18, og_75_19, og_75_20, og_75_21, og_75_22, og_75_23, og_75_24, og_75_25, og_75_26, og_75_27, og_75_28, og_75_29, og_75_30, og_75_31, og_75_32, og_75_33, og_75_34, og_75_35, og_75_36, og_75_37, og_75_38, og_75_39, og_75_40, og_75_41, ol_75, uo_75_4, uo_75_5, uo_75_6, uo_75_7, uo_75_11, uo_75_12, uo_75_13, uo_75_15, uo_75_19, uo_75_20, uo_75_21, uo_75_22, uo_75_23, uo_75_26, uo_75_30, uo_75_31, uo_75_32, uo_75_33, ua_76, ua_77, ua_78, ua_79, ua_80, ua_81, ua_82, ua_83, ua_84, ua_85, ua_86, ua_87, ua_88, ua_89, ua_90, ua_91, ua_92, ua_93, ua_94, ua_95, ua_96, ua_97, ua_98, sO_g, sA_g, sA_O, sO_A, sO_2, sM_1, sM_2, sM_3, sM_4, sM_5, sM_6, uc_75, p2, hz67, hz82, hn, p5, nI_1, ft_8_20, ft_8_21, ft_8_5, ft_8_7, nu_fitI, nu_fitL, nu_fitO, nu_fitA, nu_fitB0, nu_fitB1]
      refine ⟨fun _ => ⟨fun c => absurd c82.1 c, fun _ => ⟨fun c => absurd c (nI_ge (b := 4) c82.2 (by omega)), fun _ => ⟨0, 0, _, Nat.le_refl _, Nat.le_refl _, M_fig (d := d) (s := sO s 75 20 (nI (p + 1))) (hT.rd (RdM.o (by simp))) p1 rfl (by omega) _, fun z h' hz => ?_⟩⟩⟩, fun c => absurd c e67⟩
      rw [(OpB.z (n := n) (by omega)).fq0 (by omega)] at hz
      cases hf : fg t (p + 1) n with
      | none =>
        rw [hf] at hX hz
        rcases hz with ⟨v, hv, _⟩ | ⟨_, rfl, rfl⟩
        · exact absurd hv (by simp)
        · (try simp only [Option.toList_some, Option.toList_none, List.nil_append, List.append_nil, List.cons_append, Nat.sub_zero, Nat.sub_self, Nat.zero_sub]); refine Go.wp sp_104 200 ?_; simp only [↓g104_0, ↓g104_1, ↓g104_3, ↓g104_6, ↓g104_7, ↓g104_10, ↓g104_13, ↓g104_14, ↓g104_15, ↓g104_18, ↓g104_19, ↓g104_20, ↓g104_23, ↓g104_24, ↓g104_25, ↓g104_28, ↓g104_29, ↓g104_30, ↓g104_33, ↓g104_34, ↓g104_35, ↓g104_36, ↓g104_37, ↓g104_38, ↓g104_39, ↓g104_40, ↓g104_41, ↓g104_44, ↓g104_47, ↓g104_48, ↓g104_51, ↓g104_52, ↓g104_53, ↓g104_54, ↓g104_57, ↓g104_58, ↓g104_59, ↓g104_60, ↓g104_61, ↓g104_64, ↓g104_65, ↓g104_65t, ↓g104_66, ↓g104_67, ↓g104_68, ↓g104_69, ↓g104_70, ↓g104_71, ↓g104_74, ↓g104_77, ↓g104_80, ↓g104_81, ↓g104_83, ↓g104_86, ↓g104_87, ↓g104_90, ↓g104_91, ↓g104_94, ↓g104_95, ↓g104_96, ↓g104_99, ↓g104_100, ↓g104_101, ↓g104_104, ↓g104_105, ↓g104_108, ↓g104_109, ↓g104_112, ↓g104_113, ↓g104_114, ↓g104_115, ↓g104_118, ↓g104_119, ↓g104_120, ↓g104_121, ↓g104_124, ↓g104_125, ↓g104_126, ↓g104_129, ↓g104_130, ↓g104_133, ↓g104_134, ↓g104_137, ↓g104_140, ↓g104_141, ↓g104_142, ↓g104_143, ↓g104_146, ↓g104_147, ↓g104_148, ↓g104_151, ↓g104_154, ↓g104_155, ↓g104_156, ↓g104_159, ↓g104_162, cl_102, cn_0, cn_1, cn_2, cn_3, cn_4, cn_5, cn_6, cn_7, cn_8, ↓Go_s, ↓GoC_a, ↓reduceIte, ↓mm_call_eq, ↓mmw_nil, ↓mmw_cons, List.take_succ_cons, List.take_zero, List.take_nil, List.drop_succ_cons, List.drop_zero, List.drop_nil, List.reverse_cons, List.reverse_nil, List.nil_append, List.cons_append, List.append_nil, Option.toList_some, Option.toList_none, Nat.sub_zero, Nat.le_refl, mmr_cons, mm_st1, mm_st2, mmi_nil, mmi_cons, mmc_I, mmc_L, mmc_R, mmu_get, mmu_one, mma_get, mma_one, List.filter_cons, List.filter_nil, List.contains_cons, List.contains_nil, Nat.reduceBEq, Nat.reduceAdd, Nat.reduceLT, Nat.reduceSub, Nat.reduceLeDiff, Nat.reduceEqDiff, Int32.reduceAdd, Bool.not_true, Bool.not_false, Bool.and_true, Bool.true_and, Bool.and_false, Bool.false_and, Bool.or_false, Bool.false_or, Bool.or_true, Bool.true_or, if_true, if_false, ite_true, ite_false, Bool.false_eq_true, List.getElem?_cons_zero, List.getElem?_cons_succ, List.length_cons, List.length_nil, true_and, and_true, List.set_cons_zero, List.set_cons_succ, Fin.isValue, Fin.val_zero, Fin.val_one, Fin.val_two, Fin.reduceFinMk, Nat.zero_add, hp_75, hp_76, hp_77, hp_78, hp_79, hp_80, hp_81, hp_82, hp_83, hp_84, hp_85, hp_86, hp_87, hp_88, hp_89, hp_90, hp_91, hp_92, hp_93, hp_94, hp_95, hp_96, hp_97, hp_98, og_75_0, og_75_1, og_75_2, og_75_3, og_75_4, og_75_5, og_75_6, og_75_7, og_75_8, og_75_9, og_75_10, og_75_11, og_75_12, og_75_13, og_75_14, og_75_15, og_75_16, og_75_17, og_75_18, og_75_19, og_75_20, og_75_21, og_75_22, og_75_23, og_75_24, og_75_25, og_75_26, og_75_27, og_75_28, og_75_29, og_75_30, og_75_31, og_75_32, og_75_33, og_75_34, og_75_35, og_75_36, og_75_37, og_75_38, og_75_39, og_75_40, og_75_41, ol_75, uo_75_4, uo_75_5, uo_75_6, uo_75_7, uo_75_11, uo_75_12, uo_75_13, uo_75_15, uo_75_19, uo_75_20, uo_75_21, uo_75_22, uo_75_23, uo_75_26, uo_75_30, uo_75_31, uo_75_32, uo_75_33, ua_76, ua_77, ua_78, ua_79, ua_80, ua_81, ua_82, ua_83, ua_84, ua_85, ua_86, ua_87, ua_88, ua_89, ua_90, ua_91, ua_92, ua_93, ua_94, ua_95, ua_96, ua_97, ua_98, sO_g, sA_g, sA_O, sO_A, sO_2, sM_1, sM_2, sM_3, sM_4, sM_5, sM_6, uc_75, p5, hcl, ft_8_20, ft_8_21, ft_8_5, ft_8_7, nu_fitI, nu_fitL, nu_fitO, nu_fitA, nu_fitB0, nu_fitB1]
          refine ⟨vp_in_nI (by omega) (by omega), 0, 0, _, Nat.le_refl _, Nat.le_refl _, M_figF (d := d) (q := p + 1) (by omega) rfl _, fun z h' hz => ?_⟩
          obtain ⟨rfl, rfl⟩ := hz
          (try simp only [Option.toList_some, Option.toList_none, List.nil_append, List.append_nil, List.cons_append, Nat.sub_zero, Nat.sub_self, Nat.zero_sub]); refine Go.wp sp_104 200 ?_; simp only [↓g104_0, ↓g104_1, ↓g104_3, ↓g104_6, ↓g104_7, ↓g104_10, ↓g104_13, ↓g104_14, ↓g104_15, ↓g104_18, ↓g104_19, ↓g104_20, ↓g104_23, ↓g104_24, ↓g104_25, ↓g104_28, ↓g104_29, ↓g104_30, ↓g104_33, ↓g104_34, ↓g104_35, ↓g104_36, ↓g104_37, ↓g104_38, ↓g104_39, ↓g104_40, ↓g104_41, ↓g104_44, ↓g104_47, ↓g104_48, ↓g104_51, ↓g104_52, ↓g104_53, ↓g104_54, ↓g104_57, ↓g104_58, ↓g104_59, ↓g104_60, ↓g104_61, ↓g104_64, ↓g104_65, ↓g104_65t, ↓g104_66, ↓g104_67, ↓g104_68, ↓g104_69, ↓g104_70, ↓g104_71, ↓g104_74, ↓g104_77, ↓g104_80, ↓g104_81, ↓g104_83, ↓g104_86, ↓g104_87, ↓g104_90, ↓g104_91, ↓g104_94, ↓g104_95, ↓g104_96, ↓g104_99, ↓g104_100, ↓g104_101, ↓g104_104, ↓g104_105, ↓g104_108, ↓g104_109, ↓g104_112, ↓g104_113, ↓g104_114, ↓g104_115, ↓g104_118, ↓g104_119, ↓g104_120, ↓g104_121, ↓g104_124, ↓g104_125, ↓g104_126, ↓g104_129, ↓g104_130, ↓g104_133, ↓g104_134, ↓g104_137, ↓g104_140, ↓g104_141, ↓g104_142, ↓g104_143, ↓g104_146, ↓g104_147, ↓g104_148, ↓g104_151, ↓g104_154, ↓g104_155, ↓g104_156, ↓g104_159, ↓g104_162, cl_102, cn_0, cn_1, cn_2, cn_3, cn_4, cn_5, cn_6, cn_7, cn_8, ↓Go_s, ↓GoC_a, ↓reduceIte, ↓mm_call_eq, ↓mmw_nil, ↓mmw_cons, List.take_succ_cons, List.take_zero, List.take_nil, List.drop_succ_cons, List.drop_zero, List.drop_nil, List.reverse_cons, List.reverse_nil, List.nil_append, List.cons_append, List.append_nil, Option.toList_some, Option.toList_none, Nat.sub_zero, Nat.le_refl, mmr_cons, mm_st1, mm_st2, mmi_nil, mmi_cons, mmc_I, mmc_L, mmc_R, mmu_get, mmu_one, mma_get, mma_one, List.filter_cons, List.filter_nil, List.contains_cons, List.contains_nil, Nat.reduceBEq, Nat.reduceAdd, Nat.reduceLT, Nat.reduceSub, Nat.reduceLeDiff, Nat.reduceEqDiff, Int32.reduceAdd, Bool.not_true, Bool.not_false, Bool.and_true, Bool.true_and, Bool.and_false, Bool.false_and, Bool.or_false, Bool.false_or, Bool.or_true, Bool.true_or, if_true, if_false, ite_true, ite_false, Bool.false_eq_true, List.getElem?_cons_zero, List.getElem?_cons_succ, List.length_cons, List.length_nil, true_and, and_true, List.set_cons_zero, List.set_cons_succ, Fin.isValue, Fin.val_zero, Fin.val_one, Fin.val_two, Fin.reduceFinMk, Nat.zero_add, hp_75, hp_76, hp_77, hp_78, hp_79, hp_80, hp_81, hp_82, hp_83, hp_84, hp_85, hp_86, hp_87, hp_88, hp_89, hp_90, hp_91, hp_92, hp_93, hp_94, hp_95, hp_96, hp_97, hp_98, og_75_0, og_75_1, og_75_2, og_75_3, og_75_4, og_75_5, og_75_6, og_75_7, og_75_8, og_75_9, og_75_10, og_75_11, og_75_12, og_75_13, og_75_14, og_75_15, og_75_16, og_75_17, og_75_18, og_75_19, og_75_20, og_75_21, og_75_22, og_75_23, og_75_24, og_75_25, og_75_26, og_75_27, og_75_28, og_75_29, og_75_30, og_75_31, og_75_32, og_75_33, og_75_34, og_75_35, og_75_36, og_75_37, og_75_38, og_75_39, og_75_40, og_75_41, ol_75, uo_75_4, uo_75_5, uo_75_6, uo_75_7, uo_75_11, uo_75_12, uo_75_13, uo_75_15, uo_75_19, uo_75_20, uo_75_21, uo_75_22, uo_75_23, uo_75_26, uo_75_30, uo_75_31, uo_75_32, uo_75_33, ua_76, ua_77, ua_78, ua_79, ua_80, ua_81, ua_82, ua_83, ua_84, ua_85, ua_86, ua_87, ua_88, ua_89, ua_90, ua_91, ua_92, ua_93, ua_94, ua_95, ua_96, ua_97, ua_98, sO_g, sA_g, sA_O, sO_A, sO_2, sM_1, sM_2, sM_3, sM_4, sM_5, sM_6, uc_75, p5, hcl, ft_8_20, ft_8_21, ft_8_5, ft_8_7, nu_fitI, nu_fitL, nu_fitO, nu_fitA, nu_fitB0, nu_fitB1]
          refine ⟨vp_in_nI (by omega) (by omega), rfl, _, rfl, ?_, rfl, rfl, rfl, by rw [← hX]; exact ⟨by omega, rfl⟩⟩
          exact (RdM.o (by simp)).tr ((RdM.o (by simp)).tr ((RdM.a (by simp)).tr ((RdM.a (by simp)).tr (RdM.o (by simp)))))
      | some w =>
        rw [hf] at hX hz
        have hw := fg_lt hf
        rcases hz with ⟨v, hv, rfl, rfl⟩ | ⟨hv, _⟩
        · obtain rfl := Option.some.inj hv
          (try simp only [Option.toList_some, Option.toList_none, List.nil_append, List.append_nil, List.cons_append, Nat.sub_zero, Nat.sub_self, Nat.zero_sub]); refine Go.wp sp_104 200 ?_; simp only [↓g104_0, ↓g104_1, ↓g104_3, ↓g104_6, ↓g104_7, ↓g104_10, ↓g104_13, ↓g104_14, ↓g104_15, ↓g104_18, ↓g104_19, ↓g104_20, ↓g104_23, ↓g104_24, ↓g104_25, ↓g104_28, ↓g104_29, ↓g104_30, ↓g104_33, ↓g104_34, ↓g104_35, ↓g104_36, ↓g104_37, ↓g104_38, ↓g104_39, ↓g104_40, ↓g104_41, ↓g104_44, ↓g104_47, ↓g104_48, ↓g104_51, ↓g104_52, ↓g104_53, ↓g104_54, ↓g104_57, ↓g104_58, ↓g104_59, ↓g104_60, ↓g104_61, ↓g104_64, ↓g104_65, ↓g104_65t, ↓g104_66, ↓g104_67, ↓g104_68, ↓g104_69, ↓g104_70, ↓g104_71, ↓g104_74, ↓g104_77, ↓g104_80, ↓g104_81, ↓g104_83, ↓g104_86, ↓g104_87, ↓g104_90, ↓g104_91, ↓g104_94, ↓g104_95, ↓g104_96, ↓g104_99, ↓g104_100, ↓g104_101, ↓g104_104, ↓g104_105, ↓g104_108, ↓g104_109, ↓g104_112, ↓g104_113, ↓g104_114, ↓g104_115, ↓g104_118, ↓g104_119, ↓g104_120, ↓g104_121, ↓g104_124, ↓g104_125, ↓g104_126, ↓g104_129, ↓g104_130, ↓g104_133, ↓g104_134, ↓g104_137, ↓g104_140, ↓g104_141, ↓g104_142, ↓g104_143, ↓g104_146, ↓g104_147, ↓g104_148, ↓g104_151, ↓g104_154, ↓g104_155, ↓g104_156, ↓g104_159, ↓g104_162, cl_102, cn_0, cn_1, cn_2, cn_3, cn_4, cn_5, cn_6, cn_7, cn_8, ↓Go_s, ↓GoC_a, ↓reduceIte, ↓mm_call_eq, ↓mmw_nil, ↓mmw_cons, List.take_succ_cons, List.take_zero, List.take_nil, List.drop_succ_cons, List.drop_zero, List.drop_nil, List.reverse_cons, List.reverse_nil, List.nil_append, List.cons_append, List.append_nil, Option.toList_some, Option.toList_none, Nat.sub_zero, Nat.le_refl, mmr_cons, mm_st1, mm_st2, mmi_nil, mmi_cons, mmc_I, mmc_L, mmc_R, mmu_get, mmu_one, mma_get, mma_one, List.filter_cons, List.filter_nil, List.contains_cons, List.contains_nil, Nat.reduceBEq, Nat.reduceAdd, Nat.reduceLT, Nat.reduceSub, Nat.reduceLeDiff, Nat.reduceEqDiff, Int32.reduceAdd, Bool.not_true, Bool.not_false, Bool.and_true, Bool.true_and, Bool.and_false, Bool.false_and, Bool.or_false, Bool.false_or, Bool.or_true, Bool.true_or, if_true, if_false, ite_true, ite_false, Bool.false_eq_true, List.getElem?_cons_zero, List.getElem?_cons_succ, List.length_cons, List.length_nil, true_and, and_true, List.set_cons_zero, List.set_cons_succ, Fin.isValue, Fin.val_zero, Fin.val_one, Fin.val_two, Fin.reduceFinMk, Nat.zero_add, hp_75, hp_76, hp_77, hp_78, hp_79, hp_80, hp_81, hp_82, hp_83, hp_84, hp_85, hp_86, hp_87, hp_88, hp_89, hp_90, hp_91, hp_92, hp_93, hp_94, hp_95, hp_96, hp_97, hp_98, og_75_0, og_75_1, og_75_2, og_75_3, og_75_4, og_75_5, og_75_6, og_75_7, og_75_8, og_75_9, og_75_10, og_75_11, og_75_12, og_75_13, og_75_14, og_75_15, og_75_16, og_75_17, og_75_18, og_75_19, og_75_20, og_75_21, og_75_22, og_75_23, og_75_24, og_75_25, og_75_26, og_75_27, og_75_28, og_75_29, og_75_30, og_75_31, og_75_32, og_75_33, og_75_34, og_75_35, og_75_36, og_75_37, og_75_38, og_75_39, og_75_40, og_75_41, ol_75, uo_75_4, uo_75_5, uo_75_6, uo_75_7, uo_75_11, uo_75_12, uo_75_13, uo_75_15, uo_75_19, uo_75_20, uo_75_21, uo_75_22, uo_75_23, uo_75_26, uo_75_30, uo_75_31, uo_75_32, uo_75_33, ua_76, ua_77, ua_78, ua_79, ua_80, ua_81, ua_82, ua_83, ua_84, ua_85, ua_86, ua_87, ua_88, ua_89, ua_90, ua_91, ua_92, ua_93, ua_94, ua_95, ua_96, ua_97, ua_98, sO_g, sA_g, sA_O, sO_A, sO_2, sM_1, sM_2, sM_3, sM_4, sM_5, sM_6, uc_75, p5, hcl, ft_8_20, ft_8_21, ft_8_5, ft_8_7, nu_fitI, nu_fitL, nu_fitO, nu_fitA, nu_fitB0, nu_fitB1]
          refine ⟨vp_in_nI (by omega) (by omega), 0, 0, _, Nat.le_refl _, Nat.le_refl _, M_fig (d := d) (t := t) (p := p + 2) ?a1 ?a2 ?a3 (by omega) _, fun z h' hz => ?_⟩
          case a1 => exact hT.rd ((RdM.o (by simp)).tr ((RdM.o (by simp)).tr (RdM.a (by simp))))
          case a2 => exact p1
          case a3 => rfl
          rw [opB_1023.fq0 (by omega)] at hz
          cases hf2 : fg t (p + 2) 10 with
          | none =>
            simp only [hf2] at hX hz
            rcases hz with ⟨v, hv, _⟩ | ⟨_, rfl, rfl⟩
            · exact absurd hv (by simp)
            · (try simp only [Option.toList_some, Option.toList_none, List.nil_append, List.append_nil, List.cons_append, Nat.sub_zero, Nat.sub_self, Nat.zero_sub]); refine Go.wp sp_104 200 ?_; simp only [↓g104_0, ↓g104_1, ↓g104_3, ↓g104_6, ↓g104_7, ↓g104_10, ↓g104_13, ↓g104_14, ↓g104_15, ↓g104_18, ↓g104_19, ↓g104_20, ↓g104_23, ↓g104_24, ↓g104_25, ↓g104_28, ↓g104_29, ↓g104_30, ↓g104_33, ↓g104_34, ↓g104_35, ↓g104_36, ↓g104_37, ↓g104_38, ↓g104_39, ↓g104_40, ↓g104_41, ↓g104_44, ↓g104_47, ↓g104_48, ↓g104_51, ↓g104_52, ↓g104_53, ↓g104_54, ↓g104_57, ↓g104_58, ↓g104_59, ↓g104_60, ↓g104_61, ↓g104_64, ↓g104_65, ↓g104_65t, ↓g104_66, ↓g104_67, ↓g104_68, ↓g104_69, ↓g104_70, ↓g104_71, ↓g104_74, ↓g104_77, ↓g104_80, ↓g104_81, ↓g104_83, ↓g104_86, ↓g104_87, ↓g104_90, ↓g104_91, ↓g104_94, ↓g104_95, ↓g104_96, ↓g104_99, ↓g104_100, ↓g104_101, ↓g104_104, ↓g104_105, ↓g104_108, ↓g104_109, ↓g104_112, ↓g104_113, ↓g104_114, ↓g104_115, ↓g104_118, ↓g104_119, ↓g104_120, ↓g104_121, ↓g104_124, ↓g104_125, ↓g104_126, ↓g104_129, ↓g104_130, ↓g104_133, ↓g104_134, ↓g104_137, ↓g104_140, ↓g104_141, ↓g104_142, ↓g104_143, ↓g104_146, ↓g104_147, ↓g104_148, ↓g104_151, ↓g104_154, ↓g104_155, ↓g104_156, ↓g104_159, ↓g104_162, cl_102, cn_0, cn_1, cn_2, cn_3, cn_4, cn_5, cn_6, cn_7, cn_8, ↓Go_s, ↓GoC_a, ↓reduceIte, ↓mm_call_eq, ↓mmw_nil, ↓mmw_cons, List.take_succ_cons, List.take_zero, List.take_nil, List.drop_succ_cons, List.drop_zero, List.drop_nil, List.reverse_cons, List.reverse_nil, List.nil_append, List.cons_append, List.append_nil, Option.toList_some, Option.toList_none, Nat.sub_zero, Nat.le_refl, mmr_cons, mm_st1, mm_st2, mmi_nil, mmi_cons, mmc_I, mmc_L, mmc_R, mmu_get, mmu_one, mma_get, mma_one, List.filter_cons, List.filter_nil, List.contains_cons, List.contains_nil, Nat.reduceBEq, Nat.reduceAdd, Nat.reduceLT, Nat.reduceSub, Nat.reduceLeDiff, Nat.reduceEqDiff, Int32.reduceAdd, Bool.not_true, Bool.not_false, Bool.and_true, Bool.true_and, Bool.and_false, Bool.false_and, Bool.or_false, Bool.false_or, Bool.or_true, Bool.true_or, if_true, if_false, ite_true, ite_false, Bool.false_eq_true, List.getElem?_cons_zero, List.getElem?_cons_succ, List.length_cons, List.length_nil, true_and, and_true, List.set_cons_zero, List.set_cons_succ, Fin.isValue, Fin.val_zero, Fin.val_one, Fin.val_two, Fin.reduceFinMk, Nat.zero_add, hp_75, hp_76, hp_77, hp_78, hp_79, hp_80, hp_81, hp_82, hp_83, hp_84, hp_85, hp_86, hp_87, hp_88, hp_89, hp_90, hp_91, hp_92, hp_93, hp_94, hp_95, hp_96, hp_97, hp_98, og_75_0, og_75_1, og_75_2, og_75_3, og_75_4, og_75_5, og_75_6, og_75_7, og_75_8, og_75_9, og_75_10, og_75_11, og_75_12, og_75_13, og_75_14, og_75_15, og_75_16, og_75_17, og_75_18, og_75_19, og_75_20, og_75_21, og_75_22, og_75_23, og_75_24, og_75_25, og_75_26, og_75_27, og_75_28, og_75_29, og_75_30, og_75_31, og_75_32, og_75_33, og_75_34, og_75_35, og_75_36, og_75_37, og_75_38, og_75_39, og_75_40, og_75_41, ol_75, uo_75_4, uo_75_5, uo_75_6, uo_75_7, uo_75_11, uo_75_12, uo_75_13, uo_75_15, uo_75_19, uo_75_20, uo_75_21, uo_75_22, uo_75_23, uo_75_26, uo_75_30, uo_75_31, uo_75_32, uo_75_33, ua_76, ua_77, ua_78, ua_79, ua_80, ua_81, ua_82, ua_83, ua_84, ua_85, ua_86, ua_87, ua_88, ua_89, ua_90, ua_91, ua_92, ua_93, ua_94, ua_95, ua_96, ua_97, ua_98, sO_g, sA_g, sA_O, sO_A, sO_2, sM_1, sM_2, sM_3, sM_4, sM_5, sM_6, uc_75, p5, hcl, ft_8_20, ft_8_21, ft_8_5, ft_8_7, nu_fitI, nu_fitL, nu_fitO, nu_fitA, nu_fitB0, nu_fitB1]
              refine ⟨vp_in_nI (by omega) (by omega), rfl, _, rfl, ?_, rfl, rfl, rfl, by rw [← hX]; exact ⟨by omega, rfl⟩⟩
              exact (RdM.o (by simp)).tr ((RdM.o (by simp)).tr ((RdM.a (by simp)).tr ((RdM.o (by simp)).tr ((RdM.a (by simp)).tr (RdM.o (by simp))))))
          | some u =>
            simp only [hf2] at hX hz
            rcases hz with ⟨v, hv, rfl, rfl⟩ | ⟨hv, _⟩
            · obtain rfl := Option.some.inj hv
              (try simp only [Option.toList_some, Option.toList_none, List.nil_append, List.append_nil, List.cons_append, Nat.sub_zero, Nat.sub_self, Nat.zero_sub]); refine Go.wp sp_104 200 ?_; simp only [↓g104_0, ↓g104_1, ↓g104_3, ↓g104_6, ↓g104_7, ↓g104_10, ↓g104_13, ↓g104_14, ↓g104_15, ↓g104_18, ↓g104_19, ↓g104_20, ↓g104_23, ↓g104_24, ↓g104_25, ↓g104_28, ↓g104_29, ↓g104_30, ↓g104_33, ↓g104_34, ↓g104_35, ↓g104_36, ↓g104_37, ↓g104_38, ↓g104_39, ↓g104_40, ↓g104_41, ↓g104_44, ↓g104_47, ↓g104_48, ↓g104_51, ↓g104_52, ↓g104_53, ↓g104_54, ↓g104_57, ↓g104_58, ↓g104_59, ↓g104_60, ↓g104_61, ↓g104_64, ↓g104_65, ↓g104_65t, ↓g104_66, ↓g104_67, ↓g104_68, ↓g104_69, ↓g104_70, ↓g104_71, ↓g104_74, ↓g104_77, ↓g104_80, ↓g104_81, ↓g104_83, ↓g104_86, ↓g104_87, ↓g104_90, ↓g104_91, ↓g104_94, ↓g104_95, ↓g104_96, ↓g104_99, ↓g104_100, ↓g104_101, ↓g104_104, ↓g104_105, ↓g104_108, ↓g104_109, ↓g104_112, ↓g104_113, ↓g104_114, ↓g104_115, ↓g104_118, ↓g104_119, ↓g104_120, ↓g104_121, ↓g104_124, ↓g104_125, ↓g104_126, ↓g104_129, ↓g104_130, ↓g104_133, ↓g104_134, ↓g104_137, ↓g104_140, ↓g104_141, ↓g104_142, ↓g104_143, ↓g104_146, ↓g104_147, ↓g104_148, ↓g104_151, ↓g104_154, ↓g104_155, ↓g104_156, ↓g104_159, ↓g104_162, cl_102, cn_0, cn_1, cn_2, cn_3, cn_4, cn_5, cn_6, cn_7, cn_8, ↓Go_s, ↓GoC_a, ↓reduceIte, ↓mm_call_eq, ↓mmw_nil, ↓mmw_cons, List.take_succ_cons, List.take_zero, List.take_nil, List.drop_succ_cons, List.drop_zero, List.drop_nil, List.reverse_cons, List.reverse_nil, List.nil_append, List.cons_append, List.append_nil, Option.toList_some, Option.toList_none, Nat.sub_zero, Nat.le_refl, mmr_cons, mm_st1, mm_st2, mmi_nil, mmi_cons, mmc_I, mmc_L, mmc_R, mmu_get, mmu_one, mma_get, mma_one, List.filter_cons, List.filter_nil, List.contains_cons, List.contains_nil, Nat.reduceBEq, Nat.reduceAdd, Nat.reduceLT, Nat.reduceSub, Nat.reduceLeDiff, Nat.reduceEqDiff, Int32.reduceAdd, Bool.not_true, Bool.not_false, Bool.and_true, Bool.true_and, Bool.and_false, Bool.false_and, Bool.or_false, Bool.false_or, Bool.or_true, Bool.true_or, if_true, if_false, ite_true, ite_false, Bool.false_eq_true, List.getElem?_cons_zero, List.getElem?_cons_succ, List.length_cons, List.length_nil, true_and, and_true, List.set_cons_zero, List.set_cons_succ, Fin.isValue, Fin.val_zero, Fin.val_one, Fin.val_two, Fin.reduceFinMk, Nat.zero_add, hp_75, hp_76, hp_77, hp_78, hp_79, hp_80, hp_81, hp_82, hp_83, hp_84, hp_85, hp_86, hp_87, hp_88, hp_89, hp_90, hp_91, hp_92, hp_93, hp_94, hp_95, hp_96, hp_97, hp_98, og_75_0, og_75_1, og_75_2, og_75_3, og_75_4, og_75_5, og_75_6, og_75_7, og_75_8, og_75_9, og_75_10, og_75_11, og_75_12, og_75_13, og_75_14, og_75_15, og_75_16, og_75_17, og_75_18, og_75_19, og_75_20, og_75_21, og_75_22, og_75_23, og_75_24, og_75_25, og_75_26, og_75_27, og_75_28, og_75_29, og_75_30, og_75_31, og_75_32, og_75_33, og_75_34, og_75_35, og_75_36, og_75_37, og_75_38, og_75_39, og_75_40, og_75_41, ol_75, uo_75_4, uo_75_5, uo_75_6, uo_75_7, uo_75_11, uo_75_12, uo_75_13, uo_75_15, uo_75_19, uo_75_20, uo_75_21, uo_75_22, uo_75_23, uo_75_26, uo_75_30, uo_75_31, uo_75_32, uo_75_33, ua_76, ua_77, ua_78, ua_79, ua_80, ua_81, ua_82, ua_83, ua_84, ua_85, ua_86, ua_87, ua_88, ua_89, ua_90, ua_91, ua_92, ua_93, ua_94, ua_95, ua_96, ua_97, ua_98, sO_g, sA_g, sA_O, sO_A, sO_2, sM_1, sM_2, sM_3, sM_4, sM_5, sM_6, uc_75, p5, hcl, nI_1, ft_8_20, ft_8_21, ft_8_5, ft_8_7, nu_fitI, nu_fitL, nu_fitO, nu_fitA, nu_fitB0, nu_fitB1]
              refine ⟨vp_in_nI (by omega) (by omega), rfl, _, rfl, ?_, rfl, rfl, rfl, ?_⟩
              · exact (RdM.o (by simp)).tr ((RdM.o (by simp)).tr ((RdM.a (by simp)).tr ((RdM.o (by simp)).tr ((RdM.a (by simp)).tr (RdM.o (by simp))))))
              · rw [← hX]
                refine ⟨⟨p1, rfl, p3, p4, ?_, fun i hi => ?_⟩, by omega, ?_⟩
                · show nI (rds.length + 1) = _
                  rw [List.length_append]
                  rfl
                · rw [List.length_append, List.length_singleton] at hi
                  show upd (s.1 78) rds.length (nI w) i = _ ∧ upd (s.1 79) rds.length (nI u) i = _
                  rw [getD_snoc]
                  unfold upd
                  by_cases e : i = rds.length
                  · rw [if_pos e, if_pos e, if_neg (by omega), if_pos e]
                    exact ⟨rfl, rfl⟩
                  · simp only [if_neg e]
                    rw [if_pos (show i < rds.length by omega)]
                    exact p6 i (by omega)
                · rw [List.length_append, List.length_singleton]
                  omega
            · exact absurd hv (by simp)
        · exact absurd hv (by simp)
    · rw [if_neg c82] at hX
      have hfin : WP (mm_rw mr_104) none tb (WM tb (d + 2)) (RpM s X) 154 [(0, vR 75)] [] (HP s) 0 0 := by
        (try simp only [Option.toList_some, Option.toList_none, List.nil_append, List.append_nil, List.cons_append, Nat.sub_zero, Nat.sub_self, Nat.zero_sub]); refine Go.wp sp_104 200 ?_; simp only [↓g104_0, ↓g104_1, ↓g104_3, ↓g104_6, ↓g104_7, ↓g104_10, ↓g104_13, ↓g104_14, ↓g104_15, ↓g104_18, ↓g104_19, ↓g104_20, ↓g104_23, ↓g104_24, ↓g104_25, ↓g104_28, ↓g104_29, ↓g104_30, ↓g104_33, ↓g104_34, ↓g104_35, ↓g104_36, ↓g104_37, ↓g104_38, ↓g104_39, ↓g104_40, ↓g104_41, ↓g104_44, ↓g104_47, ↓g104_48, ↓g104_51, ↓g104_52, ↓g104_53, ↓g104_54, ↓g104_57, ↓g104_58, ↓g104_59, ↓g104_60, ↓g104_61, ↓g104_64, ↓g104_65, ↓g104_65t, ↓g104_66, ↓g104_67, ↓g104_68, ↓g104_69, ↓g104_70, ↓g104_71, ↓g104_74, ↓g104_77, ↓g104_80, ↓g104_81, ↓g104_83, ↓g104_86, ↓g104_87, ↓g104_90, ↓g104_91, ↓g104_94, ↓g104_95, ↓g104_96, ↓g104_99, ↓g104_100, ↓g104_101, ↓g104_104, ↓g104_105, ↓g104_108, ↓g104_109, ↓g104_112, ↓g104_113, ↓g104_114, ↓g104_115, ↓g104_118, ↓g104_119, ↓g104_120, ↓g104_121, ↓g104_124, ↓g104_125, ↓g104_126, ↓g104_129, ↓g104_130, ↓g104_133, ↓g104_134, ↓g104_137, ↓g104_140, ↓g104_141, ↓g104_142, ↓g104_143, ↓g104_146, ↓g104_147, ↓g104_148, ↓g104_151, ↓g104_154, ↓g104_155, ↓g104_156, ↓g104_159, ↓g104_162, cl_102, cn_0, cn_1, cn_2, cn_3, cn_4, cn_5, cn_6, cn_7, cn_8, ↓Go_s, ↓GoC_a, ↓reduceIte, ↓mm_call_eq, ↓mmw_nil, ↓mmw_cons, List.take_succ_cons, List.take_zero, List.take_nil, List.drop_succ_cons, List.drop_zero, List.drop_nil, List.reverse_cons, List.reverse_nil, List.nil_append, List.cons_append, List.append_nil, Option.toList_some, Option.toList_none, Nat.sub_zero, Nat.le_refl, mmr_cons, mm_st1, mm_st2, mmi_nil, mmi_cons, mmc_I, mmc_L, mmc_R, mmu_get, mmu_one, mma_get, mma_one, List.filter_cons, List.filter_nil, List.contains_cons, List.contains_nil, Nat.reduceBEq, Nat.reduceAdd, Nat.reduceLT, Nat.reduceSub, Nat.reduceLeDiff, Nat.reduceEqDiff, Int32.reduceAdd, Bool.not_true, Bool.not_false, Bool.and_true, Bool.true_and, Bool.and_false, Bool.false_and, Bool.or_false, Bool.false_or, Bool.or_true, Bool.true_or, if_true, if_false, ite_true, ite_false, Bool.false_eq_true, List.getElem?_cons_zero, List.getElem?_cons_succ, List.length_cons, List.length_nil, true_and, and_true, List.set_cons_zero, List.set_cons_succ, Fin.isValue, Fin.val_zero, Fin.val_one, Fin.val_two, Fin.reduceFinMk, Nat.zero_add, hp_75, hp_76, hp_77, hp_78, hp_79, hp_80, hp_81, hp_82, hp_83, hp_84, hp_85, hp_86, hp_87, hp_88, hp_89, hp_90, hp_91, hp_92, hp_93, hp_94, hp_95, hp_96, hp_97, hp_98, og_75_0, og_75_1, og_75_2, og_75_3, og_75_4, og_75_5, og_75_6, og_75_7, og_75_8, og_75_9, og_75_10, og_75_11, og_75_12, og_75_13, og_75_14, og_75_15, og_75_16, og_75_17, og_75_18, og_75_19, og_75_20, og_75_21, og_75_22, og_75_23, og_75_24, og_75_25, og_75_26, og_75_27, og_75_28, og_75_29, og_75_30, og_75_31, og_75_32, og_75_33, og_75_34, og_75_35, og_75_36, og_75_37, og_75_38, og_75_39, og_75_40, og_75_41, ol_75, uo_75_4, uo_75_5, uo_75_6, uo_75_7, uo_75_11, uo_75_12, uo_75_13, uo_75_15, uo_75_19, uo_75_20, uo_75_21, uo_75_22, uo_75_23, uo_75_26, uo_75_30, uo_75_31, uo_75_32, uo_75_33, ua_76, ua_77, ua_78, ua_79, ua_80, ua_81, ua_82, ua_83, ua_84, ua_85, ua_86, ua_87, ua_88, ua_89, ua_90, ua_91, ua_92, ua_93, ua_94, ua_95, ua_96, ua_97, ua_98, sO_g, sA_g, sA_O, sO_A, sO_2, sM_1, sM_2, sM_3, sM_4, sM_5, sM_6, uc_75, p2, ft_8_20, ft_8_21, ft_8_5, ft_8_7, nu_fitI, nu_fitL, nu_fitO, nu_fitA, nu_fitB0, nu_fitB1]
        exact ⟨rfl, _, rfl, RdM.o (by simp), rfl, rfl, rfl, by rw [← hX]; exact ⟨by omega, rfl⟩⟩
      have h80 : WP (mm_rw mr_104) none tb (WM tb (d + 2)) (RpM s X) 80 [(0, vR 75), (1, vI (nI (t.getD p 0)))] [] (HP s) 0 0 := by
        (try simp only [Option.toList_some, Option.toList_none, List.nil_append, List.append_nil, List.cons_append, Nat.sub_zero, Nat.sub_self, Nat.zero_sub]); refine Go.wp [39, 57, 124, 140, 154] 200 ?_; simp only [↓g104_0, ↓g104_1, ↓g104_3, ↓g104_6, ↓g104_7, ↓g104_10, ↓g104_13, ↓g104_14, ↓g104_15, ↓g104_18, ↓g104_19, ↓g104_20, ↓g104_23, ↓g104_24, ↓g104_25, ↓g104_28, ↓g104_29, ↓g104_30, ↓g104_33, ↓g104_34, ↓g104_35, ↓g104_36, ↓g104_37, ↓g104_38, ↓g104_39, ↓g104_40, ↓g104_41, ↓g104_44, ↓g104_47, ↓g104_48, ↓g104_51, ↓g104_52, ↓g104_53, ↓g104_54, ↓g104_57, ↓g104_58, ↓g104_59, ↓g104_60, ↓g104_61, ↓g104_64, ↓g104_65, ↓g104_65t, ↓g104_66, ↓g104_67, ↓g104_68, ↓g104_69, ↓g104_70, ↓g104_71, ↓g104_74, ↓g104_77, ↓g104_80, ↓g104_81, ↓g104_83, ↓g104_86, ↓g104_87, ↓g104_90, ↓g104_91, ↓g104_94, ↓g104_95, ↓g104_96, ↓g104_99, ↓g104_100, ↓g104_101, ↓g104_104, ↓g104_105, ↓g104_108, ↓g104_109, ↓g104_112, ↓g104_113, ↓g104_114, ↓g104_115, ↓g104_118, ↓g104_119, ↓g104_120, ↓g104_121, ↓g104_124, ↓g104_125, ↓g104_126, ↓g104_129, ↓g104_130, ↓g104_133, ↓g104_134, ↓g104_137, ↓g104_140, ↓g104_141, ↓g104_142, ↓g104_143, ↓g104_146, ↓g104_147, ↓g104_148, ↓g104_151, ↓g104_154, ↓g104_155, ↓g104_156, ↓g104_159, ↓g104_162, cl_102, cn_0, cn_1, cn_2, cn_3, cn_4, cn_5, cn_6, cn_7, cn_8, ↓Go_s, ↓GoC_a, ↓reduceIte, ↓mm_call_eq, ↓mmw_nil, ↓mmw_cons, List.take_succ_cons, List.take_zero, List.take_nil, List.drop_succ_cons, List.drop_zero, List.drop_nil, List.reverse_cons, List.reverse_nil, List.nil_append, List.cons_append, List.append_nil, Option.toList_some, Option.toList_none, Nat.sub_zero, Nat.le_refl, mmr_cons, mm_st1, mm_st2, mmi_nil, mmi_cons, mmc_I, mmc_L, mmc_R, mmu_get, mmu_one, mma_get, mma_one, List.filter_cons, List.filter_nil, List.contains_cons, List.contains_nil, Nat.reduceBEq, Nat.reduceAdd, Nat.reduceLT, Nat.reduceSub, Nat.reduceLeDiff, Nat.reduceEqDiff, Int32.reduceAdd, Bool.not_true, Bool.not_false, Bool.and_true, Bool.true_and, Bool.and_false, Bool.false_and, Bool.or_false, Bool.false_or, Bool.or_true, Bool.true_or, if_true, if_false, ite_true, ite_false, Bool.false_eq_true, List.getElem?_cons_zero, List.getElem?_cons_succ, List.length_cons, List.length_nil, true_and, and_true, List.set_cons_zero, List.set_cons_succ, Fin.isValue, Fin.val_zero, Fin.val_one, Fin.val_two, Fin.reduceFinMk, Nat.zero_add, hp_75, hp_76, hp_77, hp_78, hp_79, hp_80, hp_81, hp_82, hp_83, hp_84, hp_85, hp_86, hp_87, hp_88, hp_89, hp_90, hp_91, hp_92, hp_93, hp_94, hp_95, hp_96, hp_97, hp_98, og_75_0, og_75_1, og_75_2, og_75_3, og_75_4, og_75_5, og_75_6, og_75_7, og_75_8, og_75_9, og_75_10, og_75_11, og_75_12, og_75_13, og_75_14, og_75_15, og_75_16, og_75_17, og_75_18, og_75_19, og_75_20, og_75_21, og_75_22, og_75_23, og_75_24, og_75_25, og_75_26, og_75_27, og_75_28, og_75_29, og_75_30, og_75_31, og_75_32, og_75_33, og_75_34, og_75_35, og_75_36, og_75_37, og_75_38, og_75_39, og_75_40, og_75_41, ol_75, uo_75_4, uo_75_5, uo_75_6, uo_75_7, uo_75_11, uo_75_12, uo_75_13, uo_75_15, uo_75_19, uo_75_20, uo_75_21, uo_75_22, uo_75_23, uo_75_26, uo_75_30, uo_75_31, uo_75_32, uo_75_33, ua_76, ua_77, ua_78, ua_79, ua_80, ua_81, ua_82, ua_83, ua_84, ua_85, ua_86, ua_87, ua_88, ua_89, ua_90, ua_91, ua_92, ua_93, ua_94, ua_95, ua_96, ua_97, ua_98, sO_g, sA_g, sA_O, sO_A, sO_2, sM_1, sM_2, sM_3, sM_4, sM_5, sM_6, uc_75, hz82, p5, ft_8_20, ft_8_21, ft_8_5, ft_8_7, nu_fitI, nu_fitL, nu_fitO, nu_fitA, nu_fitB0, nu_fitB1]
        refine ⟨fun _ => WP.drop (by simp) hfin, fun c1 => ⟨fun _ => WP.drop (by simp) hfin, fun c2 => ?_⟩⟩
        exact absurd ⟨c1, by rcases Nat.lt_or_ge rds.length 4 with h | h; exact h; exact absurd (nI_le (a := 4) h (by omega)) c2⟩ c82
      (try simp only [Option.toList_some, Option.toList_none, List.nil_append, List.append_nil, List.cons_append, Nat.sub_zero, Nat.sub_self, Nat.zero_sub]); refine Go.wp [39, 57, 80, 124, 140] 200 ?_; simp only [↓g104_0, ↓g104_1, ↓g104_3, ↓g104_6, ↓g104_7, ↓g104_10, ↓g104_13, ↓g104_14, ↓g104_15, ↓g104_18, ↓g104_19, ↓g104_20, ↓g104_23, ↓g104_24, ↓g104_25, ↓g104_28, ↓g104_29, ↓g104_30, ↓g104_33, ↓g104_34, ↓g104_35, ↓g104_36, ↓g104_37, ↓g104_38, ↓g104_39, ↓g104_40, ↓g104_41, ↓g104_44, ↓g104_47, ↓g104_48, ↓g104_51, ↓g104_52, ↓g104_53, ↓g104_54, ↓g104_57, ↓g104_58, ↓g104_59, ↓g104_60, ↓g104_61, ↓g104_64, ↓g104_65, ↓g104_65t, ↓g104_66, ↓g104_67, ↓g104_68, ↓g104_69, ↓g104_70, ↓g104_71, ↓g104_74, ↓g104_77, ↓g104_80, ↓g104_81, ↓g104_83, ↓g104_86, ↓g104_87, ↓g104_90, ↓g104_91, ↓g104_94, ↓g104_95, ↓g104_96, ↓g104_99, ↓g104_100, ↓g104_101, ↓g104_104, ↓g104_105, ↓g104_108, ↓g104_109, ↓g104_112, ↓g104_113, ↓g104_114, ↓g104_115, ↓g104_118, ↓g104_119, ↓g104_120, ↓g104_121, ↓g104_124, ↓g104_125, ↓g104_126, ↓g104_129, ↓g104_130, ↓g104_133, ↓g104_134, ↓g104_137, ↓g104_140, ↓g104_141, ↓g104_142, ↓g104_143, ↓g104_146, ↓g104_147, ↓g104_148, ↓g104_151, ↓g104_154, ↓g104_155, ↓g104_156, ↓g104_159, ↓g104_162, cl_102, cn_0, cn_1, cn_2, cn_3, cn_4, cn_5, cn_6, cn_7, cn_8, ↓Go_s, ↓GoC_a, ↓reduceIte, ↓mm_call_eq, ↓mmw_nil, ↓mmw_cons, List.take_succ_cons, List.take_zero, List.take_nil, List.drop_succ_cons, List.drop_zero, List.drop_nil, List.reverse_cons, List.reverse_nil, List.nil_append, List.cons_append, List.append_nil, Option.toList_some, Option.toList_none, Nat.sub_zero, Nat.le_refl, mmr_cons, mm_st1, mm_st2, mmi_nil, mmi_cons, mmc_I, mmc_L, mmc_R, mmu_get, mmu_one, mma_get, mma_one, List.filter_cons, List.filter_nil, List.contains_cons, List.contains_nil, Nat.reduceBEq, Nat.reduceAdd, Nat.reduceLT, Nat.reduceSub, Nat.reduceLeDiff, Nat.reduceEqDiff, Int32.reduceAdd, Bool.not_true, Bool.not_false, Bool.and_true, Bool.true_and, Bool.and_false, Bool.false_and, Bool.or_false, Bool.false_or, Bool.or_true, Bool.true_or, if_true, if_false, ite_true, ite_false, Bool.false_eq_true, List.getElem?_cons_zero, List.getElem?_cons_succ, List.length_cons, List.length_nil, true_and, and_true, List.set_cons_zero, List.set_cons_succ, Fin.isValue, Fin.val_zero, Fin.val_one, Fin.val_two, Fin.reduceFinMk, Nat.zero_add, hp_75, hp_76, hp_77, hp_78, hp_79, hp_80, hp_81, hp_82, hp_83, hp_84, hp_85, hp_86, hp_87, hp_88, hp_89, hp_90, hp_91, hp_92, hp_93, hp_94, hp_95, hp_96, hp_97, hp_98, og_75_0, og_75_1, og_75_2, og_75_3, og_75_4, og_75_5, og_75_6, og_75_7, og_75_8, og_75_9, og_75_10, og_75_11, og_75_12, og_75_13, og_75_14, og_75_15, og_75_16, og_75_17, og_75_18, og_75_19, og_75_20, og_75_21, og_75_22, og_75_23, og_75_24, og_75_25, og_75_26, og_75_27, og_75_28, og_75_29, og_75_30, og_75_31, og_75_32, og_75_33, og_75_34, og_75_35, og_75_36, og_75_37, og_75_38, og_75_39, og_75_40, og_75_41, ol_75, uo_75_4, uo_75_5, uo_75_6, uo_75_7, uo_75_11, uo_75_12, uo_75_13, uo_75_15, uo_75_19, uo_75_20, uo_75_21, uo_75_22, uo_75_23, uo_75_26, uo_75_30, uo_75_31, uo_75_32, uo_75_33, ua_76, ua_77, ua_78, ua_79, ua_80, ua_81, ua_82, ua_83, ua_84, ua_85, ua_86, ua_87, ua_88, ua_89, ua_90, ua_91, ua_92, ua_93, ua_94, ua_95, ua_96, ua_97, ua_98, sO_g, sA_g, sA_O, sO_A, sO_2, sM_1, sM_2, sM_3, sM_4, sM_5, sM_6, uc_75, ft_8_20, ft_8_21, ft_8_5, ft_8_7, nu_fitI, nu_fitL, nu_fitO, nu_fitA, nu_fitB0, nu_fitB1]
      exact ⟨fun _ => h80, fun c1 => ⟨fun _ => h80, fun c2 => absurd c2 (hno c1)⟩⟩
end LIBN
