/-! the next order: the model -/
abbrev sp_143 : List Nat := [7, 47, 97]
section G143
variable {tb : Nat → Nat × (Nat → Int32)} {call : CO} {Q : AQ} {C : CP} {lv : AL} {st : List AV} {h : AH} {kc ks : Nat}
theorem g143_0  : mm_step (mm_rw mr_143) (some .boolean) tb call Q C 0 lv st h kc ks = (match mm_rd lv 0 with
    | some (.inr (.inr (.inl (some k)))) => C 1 lv (vR k :: st) h kc ks
    | some (.inr (.inr (.inr t))) => C 1 lv (vT t :: st) h kc ks
    | _ => False) := rfl
theorem g143_1 (k : Nat) : mm_step (mm_rw mr_143) (some .boolean) tb call Q C 1 lv (.inr (.inr (.inl (some k))) :: st) h kc ks = (match h.2 k with
    | some (.inr (.inr (ci, fs))) => ci = 8 ∧ (match fs[11]? with
      | some v => C 4 lv (v :: st) h kc ks
      | none => False)
    | _ => False) := rfl
theorem g143_4  : mm_step (mm_rw mr_143) (some .boolean) tb call Q C 4 lv st h kc ks = (C 5 lv (vI 2 :: st) h kc ks) := rfl
theorem g143_5 (a b : Int32) : mm_step (mm_rw mr_143) (some .boolean) tb call Q C 5 lv (.inl b :: .inl a :: st) h kc ks = (C 6 lv (vI (a - b) :: st) h kc ks) := rfl
theorem g143_6 (a : Int32) : mm_step (mm_rw mr_143) (some .boolean) tb call Q C 6 lv (.inl a :: st) h kc ks = (C 7 (mm_st1 lv 1 (vI a)) st h kc ks) := rfl
theorem g143_7  : mm_step (mm_rw mr_143) (some .boolean) tb call Q C 7 lv st h kc ks = (match mm_rd lv 1 with
    | some (.inl a) => C 8 lv (vI a :: st) h kc ks
    | _ => False) := rfl
theorem g143_8 (a : Int32) : mm_step (mm_rw mr_143) (some .boolean) tb call Q C 8 lv (.inl a :: st) h kc ks = ((a < 0 → C 34 lv st h kc ks) ∧ (¬ a < 0 → C 11 lv st h kc ks)) := rfl
theorem g143_11  : mm_step (mm_rw mr_143) (some .boolean) tb call Q C 11 lv st h kc ks = (match mm_rd lv 0 with
    | some (.inr (.inr (.inl (some k)))) => C 12 lv (vR k :: st) h kc ks
    | some (.inr (.inr (.inr t))) => C 12 lv (vT t :: st) h kc ks
    | _ => False) := rfl
theorem g143_12 (k : Nat) : mm_step (mm_rw mr_143) (some .boolean) tb call Q C 12 lv (.inr (.inr (.inl (some k))) :: st) h kc ks = (match h.2 k with
    | some (.inr (.inr (ci, fs))) => ci = 8 ∧ (match fs[36]? with
      | some v => C 15 lv (v :: st) h kc ks
      | none => False)
    | _ => False) := rfl
theorem g143_15  : mm_step (mm_rw mr_143) (some .boolean) tb call Q C 15 lv st h kc ks = (match mm_rd lv 1 with
    | some (.inl a) => C 16 lv (vI a :: st) h kc ks
    | _ => False) := rfl
theorem g143_16 (i : Int32) (k : Nat) : mm_step (mm_rw mr_143) (some .boolean) tb call Q C 16 lv (.inl i :: .inr (.inr (.inl (some k))) :: st) h kc ks = (match h.2 k with
    | some (.inl (.int, n, f)) => vp_in i n ∧ C 17 lv (vI (f i.toNatClampNeg) :: st) h kc ks
    | _ => False) := rfl
theorem g143_16t (i : Int32) (t : Nat) : mm_step (mm_rw mr_143) (some .boolean) tb call Q C 16 lv (.inl i :: .inr (.inr (.inr t)) :: st) h kc ks = (vp_in i (tb t).1 ∧ C 17 lv (vI ((tb t).2 i.toNatClampNeg) :: st) h kc ks) := rfl
theorem g143_17  : mm_step (mm_rw mr_143) (some .boolean) tb call Q C 17 lv st h kc ks = (match mm_rd lv 0 with
    | some (.inr (.inr (.inl (some k)))) => C 18 lv (vR k :: st) h kc ks
    | some (.inr (.inr (.inr t))) => C 18 lv (vT t :: st) h kc ks
    | _ => False) := rfl
theorem g143_18 (k : Nat) : mm_step (mm_rw mr_143) (some .boolean) tb call Q C 18 lv (.inr (.inr (.inl (some k))) :: st) h kc ks = (match h.2 k with
    | some (.inr (.inr (ci, fs))) => ci = 8 ∧ (match fs[36]? with
      | some v => C 21 lv (v :: st) h kc ks
      | none => False)
    | _ => False) := rfl
theorem g143_21  : mm_step (mm_rw mr_143) (some .boolean) tb call Q C 21 lv st h kc ks = (match mm_rd lv 1 with
    | some (.inl a) => C 22 lv (vI a :: st) h kc ks
    | _ => False) := rfl
theorem g143_22  : mm_step (mm_rw mr_143) (some .boolean) tb call Q C 22 lv st h kc ks = (C 23 lv (vI 1 :: st) h kc ks) := rfl
theorem g143_23 (a b : Int32) : mm_step (mm_rw mr_143) (some .boolean) tb call Q C 23 lv (.inl b :: .inl a :: st) h kc ks = (C 24 lv (vI (a + b) :: st) h kc ks) := rfl
theorem g143_24 (i : Int32) (k : Nat) : mm_step (mm_rw mr_143) (some .boolean) tb call Q C 24 lv (.inl i :: .inr (.inr (.inl (some k))) :: st) h kc ks = (match h.2 k with
    | some (.inl (.int, n, f)) => vp_in i n ∧ C 25 lv (vI (f i.toNatClampNeg) :: st) h kc ks
    | _ => False) := rfl
theorem g143_24t (i : Int32) (t : Nat) : mm_step (mm_rw mr_143) (some .boolean) tb call Q C 24 lv (.inl i :: .inr (.inr (.inr t)) :: st) h kc ks = (vp_in i (tb t).1 ∧ C 25 lv (vI ((tb t).2 i.toNatClampNeg) :: st) h kc ks) := rfl
theorem g143_25 (a b : Int32) : mm_step (mm_rw mr_143) (some .boolean) tb call Q C 25 lv (.inl b :: .inl a :: st) h kc ks = ((a ≤ b → C 34 lv st h kc ks) ∧ (¬ a ≤ b → C 28 lv st h kc ks)) := rfl
theorem g143_28  : mm_step (mm_rw mr_143) (some .boolean) tb call Q C 28 lv st h kc ks = (match mm_rd lv 1 with
    | some (.inl a) => C 31 (mm_st1 lv 1 (vI (a + (mI 1)))) st h kc ks
    | _ => False) := rfl
theorem g143_31  : mm_step (mm_rw mr_143) (some .boolean) tb call Q C 31 lv st h kc ks = (C 7 lv st h kc ks) := rfl
theorem g143_34  : mm_step (mm_rw mr_143) (some .boolean) tb call Q C 34 lv st h kc ks = (match mm_rd lv 1 with
    | some (.inl a) => C 35 lv (vI a :: st) h kc ks
    | _ => False) := rfl
theorem g143_35 (a : Int32) : mm_step (mm_rw mr_143) (some .boolean) tb call Q C 35 lv (.inl a :: st) h kc ks = ((0 ≤ a → C 40 lv st h kc ks) ∧ (¬ 0 ≤ a → C 38 lv st h kc ks)) := rfl
theorem g143_38  : mm_step (mm_rw mr_143) (some .boolean) tb call Q C 38 lv st h kc ks = (C 39 lv (vI 0 :: st) h kc ks) := rfl
theorem g143_39 (v : Int32) : mm_step (mm_rw mr_143) (some .boolean) tb call Q C 39 lv [.inl v] h kc ks = ((v = 0 ∨ v = 1) ∧ Q (some (vI v)) h) := rfl
theorem g143_40  : mm_step (mm_rw mr_143) (some .boolean) tb call Q C 40 lv st h kc ks = (match mm_rd lv 0 with
    | some (.inr (.inr (.inl (some k)))) => C 41 lv (vR k :: st) h kc ks
    | some (.inr (.inr (.inr t))) => C 41 lv (vT t :: st) h kc ks
    | _ => False) := rfl
theorem g143_41 (k : Nat) : mm_step (mm_rw mr_143) (some .boolean) tb call Q C 41 lv (.inr (.inr (.inl (some k))) :: st) h kc ks = (match h.2 k with
    | some (.inr (.inr (ci, fs))) => ci = 8 ∧ (match fs[11]? with
      | some v => C 44 lv (v :: st) h kc ks
      | none => False)
    | _ => False) := rfl
theorem g143_44  : mm_step (mm_rw mr_143) (some .boolean) tb call Q C 44 lv st h kc ks = (C 45 lv (vI 1 :: st) h kc ks) := rfl
theorem g143_45 (a b : Int32) : mm_step (mm_rw mr_143) (some .boolean) tb call Q C 45 lv (.inl b :: .inl a :: st) h kc ks = (C 46 lv (vI (a - b) :: st) h kc ks) := rfl
theorem g143_46 (a : Int32) : mm_step (mm_rw mr_143) (some .boolean) tb call Q C 46 lv (.inl a :: st) h kc ks = (C 47 (mm_st1 lv 2 (vI a)) st h kc ks) := rfl
theorem g143_47  : mm_step (mm_rw mr_143) (some .boolean) tb call Q C 47 lv st h kc ks = (match mm_rd lv 0 with
    | some (.inr (.inr (.inl (some k)))) => C 48 lv (vR k :: st) h kc ks
    | some (.inr (.inr (.inr t))) => C 48 lv (vT t :: st) h kc ks
    | _ => False) := rfl
theorem g143_48 (k : Nat) : mm_step (mm_rw mr_143) (some .boolean) tb call Q C 48 lv (.inr (.inr (.inl (some k))) :: st) h kc ks = (match h.2 k with
    | some (.inr (.inr (ci, fs))) => ci = 8 ∧ (match fs[36]? with
      | some v => C 51 lv (v :: st) h kc ks
      | none => False)
    | _ => False) := rfl
theorem g143_51  : mm_step (mm_rw mr_143) (some .boolean) tb call Q C 51 lv st h kc ks = (match mm_rd lv 2 with
    | some (.inl a) => C 52 lv (vI a :: st) h kc ks
    | _ => False) := rfl
theorem g143_52 (i : Int32) (k : Nat) : mm_step (mm_rw mr_143) (some .boolean) tb call Q C 52 lv (.inl i :: .inr (.inr (.inl (some k))) :: st) h kc ks = (match h.2 k with
    | some (.inl (.int, n, f)) => vp_in i n ∧ C 53 lv (vI (f i.toNatClampNeg) :: st) h kc ks
    | _ => False) := rfl
theorem g143_52t (i : Int32) (t : Nat) : mm_step (mm_rw mr_143) (some .boolean) tb call Q C 52 lv (.inl i :: .inr (.inr (.inr t)) :: st) h kc ks = (vp_in i (tb t).1 ∧ C 53 lv (vI ((tb t).2 i.toNatClampNeg) :: st) h kc ks) := rfl
theorem g143_53  : mm_step (mm_rw mr_143) (some .boolean) tb call Q C 53 lv st h kc ks = (match mm_rd lv 0 with
    | some (.inr (.inr (.inl (some k)))) => C 54 lv (vR k :: st) h kc ks
    | some (.inr (.inr (.inr t))) => C 54 lv (vT t :: st) h kc ks
    | _ => False) := rfl
theorem g143_54 (k : Nat) : mm_step (mm_rw mr_143) (some .boolean) tb call Q C 54 lv (.inr (.inr (.inl (some k))) :: st) h kc ks = (match h.2 k with
    | some (.inr (.inr (ci, fs))) => ci = 8 ∧ (match fs[36]? with
      | some v => C 57 lv (v :: st) h kc ks
      | none => False)
    | _ => False) := rfl
theorem g143_57  : mm_step (mm_rw mr_143) (some .boolean) tb call Q C 57 lv st h kc ks = (match mm_rd lv 1 with
    | some (.inl a) => C 58 lv (vI a :: st) h kc ks
    | _ => False) := rfl
theorem g143_58 (i : Int32) (k : Nat) : mm_step (mm_rw mr_143) (some .boolean) tb call Q C 58 lv (.inl i :: .inr (.inr (.inl (some k))) :: st) h kc ks = (match h.2 k with
    | some (.inl (.int, n, f)) => vp_in i n ∧ C 59 lv (vI (f i.toNatClampNeg) :: st) h kc ks
    | _ => False) := rfl
theorem g143_58t (i : Int32) (t : Nat) : mm_step (mm_rw mr_143) (some .boolean) tb call Q C 58 lv (.inl i :: .inr (.inr (.inr t)) :: st) h kc ks = (vp_in i (tb t).1 ∧ C 59 lv (vI ((tb t).2 i.toNatClampNeg) :: st) h kc ks) := rfl
theorem g143_59 (a b : Int32) : mm_step (mm_rw mr_143) (some .boolean) tb call Q C 59 lv (.inl b :: .inl a :: st) h kc ks = ((b ≤ a → C 68 lv st h kc ks) ∧ (¬ b ≤ a → C 62 lv st h kc ks)) := rfl
theorem g143_62  : mm_step (mm_rw mr_143) (some .boolean) tb call Q C 62 lv st h kc ks = (match mm_rd lv 2 with
    | some (.inl a) => C 65 (mm_st1 lv 2 (vI (a + (mI 1)))) st h kc ks
    | _ => False) := rfl
theorem g143_65  : mm_step (mm_rw mr_143) (some .boolean) tb call Q C 65 lv st h kc ks = (C 47 lv st h kc ks) := rfl
theorem g143_68  : mm_step (mm_rw mr_143) (some .boolean) tb call Q C 68 lv st h kc ks = (match mm_rd lv 0 with
    | some (.inr (.inr (.inl (some k)))) => C 69 lv (vR k :: st) h kc ks
    | some (.inr (.inr (.inr t))) => C 69 lv (vT t :: st) h kc ks
    | _ => False) := rfl
theorem g143_69 (k : Nat) : mm_step (mm_rw mr_143) (some .boolean) tb call Q C 69 lv (.inr (.inr (.inl (some k))) :: st) h kc ks = (match h.2 k with
    | some (.inr (.inr (ci, fs))) => ci = 8 ∧ (match fs[36]? with
      | some v => C 72 lv (v :: st) h kc ks
      | none => False)
    | _ => False) := rfl
theorem g143_72  : mm_step (mm_rw mr_143) (some .boolean) tb call Q C 72 lv st h kc ks = (match mm_rd lv 1 with
    | some (.inl a) => C 73 lv (vI a :: st) h kc ks
    | _ => False) := rfl
theorem g143_73 (i : Int32) (k : Nat) : mm_step (mm_rw mr_143) (some .boolean) tb call Q C 73 lv (.inl i :: .inr (.inr (.inl (some k))) :: st) h kc ks = (match h.2 k with
    | some (.inl (.int, n, f)) => vp_in i n ∧ C 74 lv (vI (f i.toNatClampNeg) :: st) h kc ks
    | _ => False) := rfl
theorem g143_73t (i : Int32) (t : Nat) : mm_step (mm_rw mr_143) (some .boolean) tb call Q C 73 lv (.inl i :: .inr (.inr (.inr t)) :: st) h kc ks = (vp_in i (tb t).1 ∧ C 74 lv (vI ((tb t).2 i.toNatClampNeg) :: st) h kc ks) := rfl
theorem g143_74 (a : Int32) : mm_step (mm_rw mr_143) (some .boolean) tb call Q C 74 lv (.inl a :: st) h kc ks = (C 75 (mm_st1 lv 3 (vI a)) st h kc ks) := rfl
theorem g143_75  : mm_step (mm_rw mr_143) (some .boolean) tb call Q C 75 lv st h kc ks = (match mm_rd lv 0 with
    | some (.inr (.inr (.inl (some k)))) => C 76 lv (vR k :: st) h kc ks
    | some (.inr (.inr (.inr t))) => C 76 lv (vT t :: st) h kc ks
    | _ => False) := rfl
theorem g143_76 (k : Nat) : mm_step (mm_rw mr_143) (some .boolean) tb call Q C 76 lv (.inr (.inr (.inl (some k))) :: st) h kc ks = (match h.2 k with
    | some (.inr (.inr (ci, fs))) => ci = 8 ∧ (match fs[36]? with
      | some v => C 79 lv (v :: st) h kc ks
      | none => False)
    | _ => False) := rfl
theorem g143_79  : mm_step (mm_rw mr_143) (some .boolean) tb call Q C 79 lv st h kc ks = (match mm_rd lv 1 with
    | some (.inl a) => C 80 lv (vI a :: st) h kc ks
    | _ => False) := rfl
theorem g143_80  : mm_step (mm_rw mr_143) (some .boolean) tb call Q C 80 lv st h kc ks = (match mm_rd lv 0 with
    | some (.inr (.inr (.inl (some k)))) => C 81 lv (vR k :: st) h kc ks
    | some (.inr (.inr (.inr t))) => C 81 lv (vT t :: st) h kc ks
    | _ => False) := rfl
theorem g143_81 (k : Nat) : mm_step (mm_rw mr_143) (some .boolean) tb call Q C 81 lv (.inr (.inr (.inl (some k))) :: st) h kc ks = (match h.2 k with
    | some (.inr (.inr (ci, fs))) => ci = 8 ∧ (match fs[36]? with
      | some v => C 84 lv (v :: st) h kc ks
      | none => False)
    | _ => False) := rfl
theorem g143_84  : mm_step (mm_rw mr_143) (some .boolean) tb call Q C 84 lv st h kc ks = (match mm_rd lv 2 with
    | some (.inl a) => C 85 lv (vI a :: st) h kc ks
    | _ => False) := rfl
theorem g143_85 (i : Int32) (k : Nat) : mm_step (mm_rw mr_143) (some .boolean) tb call Q C 85 lv (.inl i :: .inr (.inr (.inl (some k))) :: st) h kc ks = (match h.2 k with
    | some (.inl (.int, n, f)) => vp_in i n ∧ C 86 lv (vI (f i.toNatClampNeg) :: st) h kc ks
    | _ => False) := rfl
theorem g143_85t (i : Int32) (t : Nat) : mm_step (mm_rw mr_143) (some .boolean) tb call Q C 85 lv (.inl i :: .inr (.inr (.inr t)) :: st) h kc ks = (vp_in i (tb t).1 ∧ C 86 lv (vI ((tb t).2 i.toNatClampNeg) :: st) h kc ks) := rfl
theorem g143_86 (v i : Int32) (k : Nat) : mm_step (mm_rw mr_143) (some .boolean) tb call Q C 86 lv (.inl v :: .inl i :: .inr (.inr (.inl (some k))) :: st) h kc ks = (match h.2 k with
    | some (.inl (.int, n, f)) => vp_in i n ∧ C 87 lv st (mm_up h k (cI n (upd f i.toNatClampNeg v))) kc ks
    | _ => False) := rfl
theorem g143_87  : mm_step (mm_rw mr_143) (some .boolean) tb call Q C 87 lv st h kc ks = (match mm_rd lv 0 with
    | some (.inr (.inr (.inl (some k)))) => C 88 lv (vR k :: st) h kc ks
    | some (.inr (.inr (.inr t))) => C 88 lv (vT t :: st) h kc ks
    | _ => False) := rfl
theorem g143_88 (k : Nat) : mm_step (mm_rw mr_143) (some .boolean) tb call Q C 88 lv (.inr (.inr (.inl (some k))) :: st) h kc ks = (match h.2 k with
    | some (.inr (.inr (ci, fs))) => ci = 8 ∧ (match fs[36]? with
      | some v => C 91 lv (v :: st) h kc ks
      | none => False)
    | _ => False) := rfl
theorem g143_91  : mm_step (mm_rw mr_143) (some .boolean) tb call Q C 91 lv st h kc ks = (match mm_rd lv 2 with
    | some (.inl a) => C 92 lv (vI a :: st) h kc ks
    | _ => False) := rfl
theorem g143_92  : mm_step (mm_rw mr_143) (some .boolean) tb call Q C 92 lv st h kc ks = (match mm_rd lv 3 with
    | some (.inl a) => C 93 lv (vI a :: st) h kc ks
    | _ => False) := rfl
theorem g143_93 (v i : Int32) (k : Nat) : mm_step (mm_rw mr_143) (some .boolean) tb call Q C 93 lv (.inl v :: .inl i :: .inr (.inr (.inl (some k))) :: st) h kc ks = (match h.2 k with
    | some (.inl (.int, n, f)) => vp_in i n ∧ C 94 lv st (mm_up h k (cI n (upd f i.toNatClampNeg v))) kc ks
    | _ => False) := rfl
theorem g143_94  : mm_step (mm_rw mr_143) (some .boolean) tb call Q C 94 lv st h kc ks = (C 95 lv (vI 0 :: st) h kc ks) := rfl
theorem g143_95 (a : Int32) : mm_step (mm_rw mr_143) (some .boolean) tb call Q C 95 lv (.inl a :: st) h kc ks = (C 97 (mm_st1 lv 4 (vI a)) st h kc ks) := rfl
theorem g143_97  : mm_step (mm_rw mr_143) (some .boolean) tb call Q C 97 lv st h kc ks = (match mm_rd lv 1 with
    | some (.inl a) => C 98 lv (vI a :: st) h kc ks
    | _ => False) := rfl
theorem g143_98  : mm_step (mm_rw mr_143) (some .boolean) tb call Q C 98 lv st h kc ks = (C 99 lv (vI 1 :: st) h kc ks) := rfl
theorem g143_99 (a b : Int32) : mm_step (mm_rw mr_143) (some .boolean) tb call Q C 99 lv (.inl b :: .inl a :: st) h kc ks = (C 100 lv (vI (a + b) :: st) h kc ks) := rfl
theorem g143_100  : mm_step (mm_rw mr_143) (some .boolean) tb call Q C 100 lv st h kc ks = (match mm_rd lv 4 with
    | some (.inl a) => C 102 lv (vI a :: st) h kc ks
    | _ => False) := rfl
theorem g143_102 (a b : Int32) : mm_step (mm_rw mr_143) (some .boolean) tb call Q C 102 lv (.inl b :: .inl a :: st) h kc ks = (C 103 lv (vI (a + b) :: st) h kc ks) := rfl
theorem g143_103  : mm_step (mm_rw mr_143) (some .boolean) tb call Q C 103 lv st h kc ks = (match mm_rd lv 0 with
    | some (.inr (.inr (.inl (some k)))) => C 104 lv (vR k :: st) h kc ks
    | some (.inr (.inr (.inr t))) => C 104 lv (vT t :: st) h kc ks
    | _ => False) := rfl
theorem g143_104 (k : Nat) : mm_step (mm_rw mr_143) (some .boolean) tb call Q C 104 lv (.inr (.inr (.inl (some k))) :: st) h kc ks = (match h.2 k with
    | some (.inr (.inr (ci, fs))) => ci = 8 ∧ (match fs[11]? with
      | some v => C 107 lv (v :: st) h kc ks
      | none => False)
    | _ => False) := rfl
theorem g143_107  : mm_step (mm_rw mr_143) (some .boolean) tb call Q C 107 lv st h kc ks = (C 108 lv (vI 1 :: st) h kc ks) := rfl
theorem g143_108 (a b : Int32) : mm_step (mm_rw mr_143) (some .boolean) tb call Q C 108 lv (.inl b :: .inl a :: st) h kc ks = (C 109 lv (vI (a - b) :: st) h kc ks) := rfl
theorem g143_109  : mm_step (mm_rw mr_143) (some .boolean) tb call Q C 109 lv st h kc ks = (match mm_rd lv 4 with
    | some (.inl a) => C 111 lv (vI a :: st) h kc ks
    | _ => False) := rfl
theorem g143_111 (a b : Int32) : mm_step (mm_rw mr_143) (some .boolean) tb call Q C 111 lv (.inl b :: .inl a :: st) h kc ks = (C 112 lv (vI (a - b) :: st) h kc ks) := rfl
theorem g143_112 (a b : Int32) : mm_step (mm_rw mr_143) (some .boolean) tb call Q C 112 lv (.inl b :: .inl a :: st) h kc ks = ((b ≤ a → C 173 lv st h kc ks) ∧ (¬ b ≤ a → C 115 lv st h kc ks)) := rfl
theorem g143_115  : mm_step (mm_rw mr_143) (some .boolean) tb call Q C 115 lv st h kc ks = (match mm_rd lv 0 with
    | some (.inr (.inr (.inl (some k)))) => C 116 lv (vR k :: st) h kc ks
    | some (.inr (.inr (.inr t))) => C 116 lv (vT t :: st) h kc ks
    | _ => False) := rfl
theorem g143_116 (k : Nat) : mm_step (mm_rw mr_143) (some .boolean) tb call Q C 116 lv (.inr (.inr (.inl (some k))) :: st) h kc ks = (match h.2 k with
    | some (.inr (.inr (ci, fs))) => ci = 8 ∧ (match fs[36]? with
      | some v => C 119 lv (v :: st) h kc ks
      | none => False)
    | _ => False) := rfl
theorem g143_119  : mm_step (mm_rw mr_143) (some .boolean) tb call Q C 119 lv st h kc ks = (match mm_rd lv 1 with
    | some (.inl a) => C 120 lv (vI a :: st) h kc ks
    | _ => False) := rfl
theorem g143_120  : mm_step (mm_rw mr_143) (some .boolean) tb call Q C 120 lv st h kc ks = (C 121 lv (vI 1 :: st) h kc ks) := rfl
theorem g143_121 (a b : Int32) : mm_step (mm_rw mr_143) (some .boolean) tb call Q C 121 lv (.inl b :: .inl a :: st) h kc ks = (C 122 lv (vI (a + b) :: st) h kc ks) := rfl
theorem g143_122  : mm_step (mm_rw mr_143) (some .boolean) tb call Q C 122 lv st h kc ks = (match mm_rd lv 4 with
    | some (.inl a) => C 124 lv (vI a :: st) h kc ks
    | _ => False) := rfl
theorem g143_124 (a b : Int32) : mm_step (mm_rw mr_143) (some .boolean) tb call Q C 124 lv (.inl b :: .inl a :: st) h kc ks = (C 125 lv (vI (a + b) :: st) h kc ks) := rfl
theorem g143_125 (i : Int32) (k : Nat) : mm_step (mm_rw mr_143) (some .boolean) tb call Q C 125 lv (.inl i :: .inr (.inr (.inl (some k))) :: st) h kc ks = (match h.2 k with
    | some (.inl (.int, n, f)) => vp_in i n ∧ C 126 lv (vI (f i.toNatClampNeg) :: st) h kc ks
    | _ => False) := rfl
theorem g143_125t (i : Int32) (t : Nat) : mm_step (mm_rw mr_143) (some .boolean) tb call Q C 125 lv (.inl i :: .inr (.inr (.inr t)) :: st) h kc ks = (vp_in i (tb t).1 ∧ C 126 lv (vI ((tb t).2 i.toNatClampNeg) :: st) h kc ks) := rfl
theorem g143_126 (a : Int32) : mm_step (mm_rw mr_143) (some .boolean) tb call Q C 126 lv (.inl a :: st) h kc ks = (C 127 (mm_st1 lv 3 (vI a)) st h kc ks) := rfl
theorem g143_127  : mm_step (mm_rw mr_143) (some .boolean) tb call Q C 127 lv st h kc ks = (match mm_rd lv 0 with
    | some (.inr (.inr (.inl (some k)))) => C 128 lv (vR k :: st) h kc ks
    | some (.inr (.inr (.inr t))) => C 128 lv (vT t :: st) h kc ks
    | _ => False) := rfl
theorem g143_128 (k : Nat) : mm_step (mm_rw mr_143) (some .boolean) tb call Q C 128 lv (.inr (.inr (.inl (some k))) :: st) h kc ks = (match h.2 k with
    | some (.inr (.inr (ci, fs))) => ci = 8 ∧ (match fs[36]? with
      | some v => C 131 lv (v :: st) h kc ks
      | none => False)
    | _ => False) := rfl
theorem g143_131  : mm_step (mm_rw mr_143) (some .boolean) tb call Q C 131 lv st h kc ks = (match mm_rd lv 1 with
    | some (.inl a) => C 132 lv (vI a :: st) h kc ks
    | _ => False) := rfl
theorem g143_132  : mm_step (mm_rw mr_143) (some .boolean) tb call Q C 132 lv st h kc ks = (C 133 lv (vI 1 :: st) h kc ks) := rfl
theorem g143_133 (a b : Int32) : mm_step (mm_rw mr_143) (some .boolean) tb call Q C 133 lv (.inl b :: .inl a :: st) h kc ks = (C 134 lv (vI (a + b) :: st) h kc ks) := rfl
theorem g143_134  : mm_step (mm_rw mr_143) (some .boolean) tb call Q C 134 lv st h kc ks = (match mm_rd lv 4 with
    | some (.inl a) => C 136 lv (vI a :: st) h kc ks
    | _ => False) := rfl
theorem g143_136 (a b : Int32) : mm_step (mm_rw mr_143) (some .boolean) tb call Q C 136 lv (.inl b :: .inl a :: st) h kc ks = (C 137 lv (vI (a + b) :: st) h kc ks) := rfl
theorem g143_137  : mm_step (mm_rw mr_143) (some .boolean) tb call Q C 137 lv st h kc ks = (match mm_rd lv 0 with
    | some (.inr (.inr (.inl (some k)))) => C 138 lv (vR k :: st) h kc ks
    | some (.inr (.inr (.inr t))) => C 138 lv (vT t :: st) h kc ks
    | _ => False) := rfl
theorem g143_138 (k : Nat) : mm_step (mm_rw mr_143) (some .boolean) tb call Q C 138 lv (.inr (.inr (.inl (some k))) :: st) h kc ks = (match h.2 k with
    | some (.inr (.inr (ci, fs))) => ci = 8 ∧ (match fs[36]? with
      | some v => C 141 lv (v :: st) h kc ks
      | none => False)
    | _ => False) := rfl
theorem g143_141  : mm_step (mm_rw mr_143) (some .boolean) tb call Q C 141 lv st h kc ks = (match mm_rd lv 0 with
    | some (.inr (.inr (.inl (some k)))) => C 142 lv (vR k :: st) h kc ks
    | some (.inr (.inr (.inr t))) => C 142 lv (vT t :: st) h kc ks
    | _ => False) := rfl
theorem g143_142 (k : Nat) : mm_step (mm_rw mr_143) (some .boolean) tb call Q C 142 lv (.inr (.inr (.inl (some k))) :: st) h kc ks = (match h.2 k with
    | some (.inr (.inr (ci, fs))) => ci = 8 ∧ (match fs[11]? with
      | some v => C 145 lv (v :: st) h kc ks
      | none => False)
    | _ => False) := rfl
theorem g143_145  : mm_step (mm_rw mr_143) (some .boolean) tb call Q C 145 lv st h kc ks = (C 146 lv (vI 1 :: st) h kc ks) := rfl
theorem g143_146 (a b : Int32) : mm_step (mm_rw mr_143) (some .boolean) tb call Q C 146 lv (.inl b :: .inl a :: st) h kc ks = (C 147 lv (vI (a - b) :: st) h kc ks) := rfl
theorem g143_147  : mm_step (mm_rw mr_143) (some .boolean) tb call Q C 147 lv st h kc ks = (match mm_rd lv 4 with
    | some (.inl a) => C 149 lv (vI a :: st) h kc ks
    | _ => False) := rfl
theorem g143_149 (a b : Int32) : mm_step (mm_rw mr_143) (some .boolean) tb call Q C 149 lv (.inl b :: .inl a :: st) h kc ks = (C 150 lv (vI (a - b) :: st) h kc ks) := rfl
theorem g143_150 (i : Int32) (k : Nat) : mm_step (mm_rw mr_143) (some .boolean) tb call Q C 150 lv (.inl i :: .inr (.inr (.inl (some k))) :: st) h kc ks = (match h.2 k with
    | some (.inl (.int, n, f)) => vp_in i n ∧ C 151 lv (vI (f i.toNatClampNeg) :: st) h kc ks
    | _ => False) := rfl
theorem g143_150t (i : Int32) (t : Nat) : mm_step (mm_rw mr_143) (some .boolean) tb call Q C 150 lv (.inl i :: .inr (.inr (.inr t)) :: st) h kc ks = (vp_in i (tb t).1 ∧ C 151 lv (vI ((tb t).2 i.toNatClampNeg) :: st) h kc ks) := rfl
theorem g143_151 (v i : Int32) (k : Nat) : mm_step (mm_rw mr_143) (some .boolean) tb call Q C 151 lv (.inl v :: .inl i :: .inr (.inr (.inl (some k))) :: st) h kc ks = (match h.2 k with
    | some (.inl (.int, n, f)) => vp_in i n ∧ C 152 lv st (mm_up h k (cI n (upd f i.toNatClampNeg v))) kc ks
    | _ => False) := rfl
theorem g143_152  : mm_step (mm_rw mr_143) (some .boolean) tb call Q C 152 lv st h kc ks = (match mm_rd lv 0 with
    | some (.inr (.inr (.inl (some k)))) => C 153 lv (vR k :: st) h kc ks
    | some (.inr (.inr (.inr t))) => C 153 lv (vT t :: st) h kc ks
    | _ => False) := rfl
theorem g143_153 (k : Nat) : mm_step (mm_rw mr_143) (some .boolean) tb call Q C 153 lv (.inr (.inr (.inl (some k))) :: st) h kc ks = (match h.2 k with
    | some (.inr (.inr (ci, fs))) => ci = 8 ∧ (match fs[36]? with
      | some v => C 156 lv (v :: st) h kc ks
      | none => False)
    | _ => False) := rfl
theorem g143_156  : mm_step (mm_rw mr_143) (some .boolean) tb call Q C 156 lv st h kc ks = (match mm_rd lv 0 with
    | some (.inr (.inr (.inl (some k)))) => C 157 lv (vR k :: st) h kc ks
    | some (.inr (.inr (.inr t))) => C 157 lv (vT t :: st) h kc ks
    | _ => False) := rfl
theorem g143_157 (k : Nat) : mm_step (mm_rw mr_143) (some .boolean) tb call Q C 157 lv (.inr (.inr (.inl (some k))) :: st) h kc ks = (match h.2 k with
    | some (.inr (.inr (ci, fs))) => ci = 8 ∧ (match fs[11]? with
      | some v => C 160 lv (v :: st) h kc ks
      | none => False)
    | _ => False) := rfl
theorem g143_160  : mm_step (mm_rw mr_143) (some .boolean) tb call Q C 160 lv st h kc ks = (C 161 lv (vI 1 :: st) h kc ks) := rfl
theorem g143_161 (a b : Int32) : mm_step (mm_rw mr_143) (some .boolean) tb call Q C 161 lv (.inl b :: .inl a :: st) h kc ks = (C 162 lv (vI (a - b) :: st) h kc ks) := rfl
theorem g143_162  : mm_step (mm_rw mr_143) (some .boolean) tb call Q C 162 lv st h kc ks = (match mm_rd lv 4 with
    | some (.inl a) => C 164 lv (vI a :: st) h kc ks
    | _ => False) := rfl
theorem g143_164 (a b : Int32) : mm_step (mm_rw mr_143) (some .boolean) tb call Q C 164 lv (.inl b :: .inl a :: st) h kc ks = (C 165 lv (vI (a - b) :: st) h kc ks) := rfl
theorem g143_165  : mm_step (mm_rw mr_143) (some .boolean) tb call Q C 165 lv st h kc ks = (match mm_rd lv 3 with
    | some (.inl a) => C 166 lv (vI a :: st) h kc ks
    | _ => False) := rfl
theorem g143_166 (v i : Int32) (k : Nat) : mm_step (mm_rw mr_143) (some .boolean) tb call Q C 166 lv (.inl v :: .inl i :: .inr (.inr (.inl (some k))) :: st) h kc ks = (match h.2 k with
    | some (.inl (.int, n, f)) => vp_in i n ∧ C 167 lv st (mm_up h k (cI n (upd f i.toNatClampNeg v))) kc ks
    | _ => False) := rfl
theorem g143_167  : mm_step (mm_rw mr_143) (some .boolean) tb call Q C 167 lv st h kc ks = (match mm_rd lv 4 with
    | some (.inl a) => C 170 (mm_st1 lv 4 (vI (a + 1))) st h kc ks
    | _ => False) := rfl
theorem g143_170  : mm_step (mm_rw mr_143) (some .boolean) tb call Q C 170 lv st h kc ks = (C 97 lv st h kc ks) := rfl
theorem g143_173  : mm_step (mm_rw mr_143) (some .boolean) tb call Q C 173 lv st h kc ks = (C 174 lv (vI 1 :: st) h kc ks) := rfl
theorem g143_174 (v : Int32) : mm_step (mm_rw mr_143) (some .boolean) tb call Q C 174 lv [.inl v] h kc ks = ((v = 0 ∨ v = 1) ∧ Q (some (vI v)) h) := rfl
end G143

theorem take_get {p : List Nat} {i j : Nat} (h : j < i) : (p.take i).getD j 0 = p.getD j 0 := by
  rw [List.getD_eq_getElem?_getD, List.getD_eq_getElem?_getD, List.getElem?_take, if_pos h]
theorem drop_get {p : List Nat} {i j : Nat} : (p.drop i).getD j 0 = p.getD (i + j) 0 := by
  rw [List.getD_eq_getElem?_getD, List.getD_eq_getElem?_getD, List.getElem?_drop]
theorem rev_get {p : List Nat} {j : Nat} (h : j < p.length) : p.reverse.getD j 0 = p.getD (p.length - 1 - j) 0 := by
  rw [List.getD_eq_getElem?_getD, List.getD_eq_getElem?_getD, List.getElem?_reverse h]
theorem cons_get {x : Nat} {p : List Nat} {j : Nat} : (x :: p).getD j 0 = if j = 0 then x else p.getD (j - 1) 0 := by
  cases j with
  | zero => rfl
  | succ j => rfl
/-- the parts of a row at i < j -/
def dA (p : List Nat) (i : Nat) : List Nat := p.take i
def d1 (p : List Nat) (i j : Nat) : List Nat := (p.drop (i + 1)).take (j - i - 1)
def d2 (p : List Nat) (j : Nat) : List Nat := p.drop (j + 1)
theorem d_eq {p : List Nat} {i j : Nat} (hij : i < j) (hj : j < p.length) : p.drop (i + 1) = d1 p i j ++ p.getD j 0 :: d2 p j := by
  unfold d1 d2
  have h1 := List.take_append_drop (j - i - 1) (p.drop (i + 1))
  rw [List.drop_drop, show i + 1 + (j - i - 1) = j by omega, drop_c hj] at h1
  exact h1.symm
theorem p_eq {p : List Nat} {i j : Nat} (hij : i < j) (hj : j < p.length) : p = dA p i ++ p.getD i 0 :: (d1 p i j ++ p.getD j 0 :: d2 p j) := by
  rw [← d_eq hij hj, ← drop_c (by omega)]
  exact (List.take_append_drop i p).symm
theorem Ar_nx {f g : Nat → Int32} {p : List Nat} {i j n : Nat} (hf : Ar f p) (hn : p.length = n) (hij : i < j) (hj : j < n) (h1 : ∀ k, k < i → g k = f k) (h2 : g i = f j) (h3 : ∀ k, i < k → k < n → g k = if n + i - k = j then f i else f (n + i - k)) : Ar g (nxl (dA p i) (p.getD i 0) (d1 p i j) (p.getD j 0) (d2 p j)) := by
  have l1 : (d1 p i j).length = j - i - 1 := by
    unfold d1
    rw [List.length_take, List.length_drop]
    omega
  have l2 : (d2 p j).length = n - 1 - j := by
    unfold d2
    rw [List.length_drop]
    omega
  have lA : (dA p i).length = i := by
    unfold dA
    rw [List.length_take]
    omega
  have lE : (d1 p i j ++ p.getD i 0 :: d2 p j).length = n - 1 - i := by
    rw [List.length_append, List.length_cons, l1, l2]
    omega
  intro k hk
  have hk' : k < n := by
    have := (nxl_perm (dA p i) (p.getD i 0) (d1 p i j) (p.getD j 0) (d2 p j)).length_eq
    rw [← p_eq hij (by omega)] at this
    omega
  unfold nxl
  rw [tx_get, lA]
  by_cases c1 : k < i
  · rw [if_pos c1, h1 k c1, hf k (by omega)]
    unfold dA
    rw [take_get c1]
  · rw [if_neg c1, cons_get]
    by_cases c2 : k = i
    · rw [c2, if_pos (by omega), h2, hf j (by omega)]
    · rw [if_neg (by omega), rev_get (by rw [lE]; omega), lE, h3 k (by omega) hk', tx_get, l1]
      have e0 : n - 1 - i - 1 - (k - i - 1) = n - 1 - k := by omega
      rw [e0]
      by_cases c3 : n + i - k = j
      · rw [if_pos c3, if_neg (by omega), cons_get, if_pos (by omega), hf i (by omega)]
      · rw [if_neg c3]
        by_cases c4 : n - 1 - k < j - i - 1
        · rw [if_pos c4]
          unfold d1
          rw [take_get c4, drop_get, hf _ (by omega), show i + 1 + (n - 1 - k) = n + i - k by omega]
        · rw [if_neg c4, cons_get, if_neg (by omega)]
          unfold d2
          rw [drop_get, hf _ (by omega), show j + 1 + (n - 1 - k - (j - i - 1) - 1) = n + i - k by omega]
section GOON
variable {tb : Nat → Nat × (Nat → Int32)} {d : Nat} {s : MM} {n : Nat}
/-- what goOn answers -/
def GnP (s : MM) (n : Nat) (p : List Nat) : AQ := fun z h' => (z = some (vI 0) ∧ h' = HP s ∧ rk p + 1 = fa n) ∨ (z = some (vI 1) ∧ ∃ f' p', h' = HP (sA s 94 f') ∧ Ar f' p' ∧ IsP n p' ∧ rk p' = rk p + 1)
theorem M_goOn {p : List Nat} (h11 : s.2.1 75 11 = nI n) (hn2 : 2 ≤ n) (hn8 : n ≤ 8) (hf : Ar (s.1 94) p) (hp : IsP n p) : WM tb (d + 1) k_M_goOn [vR 75] (HP s) 0 0 (GnP s n p) := by
  have hlen := hp.len
  have hv : ∀ k, k < n → p.getD k 0 < n := fun k hk => hp.lt hk
  -- the reversal
  have rev : ∀ i j, i < j → j < n → (p.drop (i + 1)).Pairwise (fun a b => b < a) → p.getD i 0 < p.getD j 0 → (∀ v ∈ d2 p j, v < p.getD i 0) → ∀ r k g v, 2 * k + r = n - 1 - i ∨ (r = 0 ∧ 2 * k ≤ n - i ∧ n - 1 - i ≤ 2 * k) → (∀ x, x < n → g x = if i < x ∧ (x < i + 1 + k ∨ n - 1 - k < x) then (upd (upd (s.1 94) i (nI (p.getD j 0))) j (nI (p.getD i 0))) (n + i - x) else (upd (upd (s.1 94) i (nI (p.getD j 0))) j (nI (p.getD i 0))) x) → WP (mm_rw mr_143) (some .boolean) tb (WM tb d) (GnP s n p) 97 [(0, vR 75), (1, vI (nI i)), (2, vI (nI j)), (3, vI v), (4, vI (nI k))] [] (HP (sA s 94 g)) 0 0 := by
    intro i j hij hj hdes hxy h2 r
    have hi := hv i (by omega)
    have hjv := hv j hj
    generalize hF : upd (upd (s.1 94) i (nI (p.getD j 0))) j (nI (p.getD i 0)) = F
    have hF0 : ∀ x, F x = if x = j then nI (p.getD i 0) else if x = i then nI (p.getD j 0) else s.1 94 x := fun x => by
      rw [← hF]
      rfl
    induction r using Nat.strongRecOn with
    | _ r ih =>
      intro k g v hk hg
      have e1 : nI i + 1 + nI k = nI (i + 1 + k) := by rw [nI_1, nI_add]
      have e1' : nI (i + 1) + nI k = nI (i + 1 + k) := nI_add _ _
      have e2 : nI n - 1 - nI k = nI (n - 1 - k) := by rw [show (1 : Int32) = nI 1 from rfl, pk_sub (by omega), pk_sub (by omega)]
      have hc1 : (nI (i + 1 + k)).toNatClampNeg = i + 1 + k := nI_clamp (by omega)
      have hc2 : (nI (n - 1 - k)).toNatClampNeg = n - 1 - k := nI_clamp (by omega)
      by_cases c : i + 1 + k < n - 1 - k
      · (try simp only [Option.toList_some, Option.toList_none, List.nil_append, List.append_nil, List.cons_append, Nat.sub_zero, Nat.sub_self, Nat.zero_sub]); refine Go.wp sp_143 200 ?_; simp only [↓g143_0, ↓g143_1, ↓g143_4, ↓g143_5, ↓g143_6, ↓g143_7, ↓g143_8, ↓g143_11, ↓g143_12, ↓g143_15, ↓g143_16, ↓g143_16t, ↓g143_17, ↓g143_18, ↓g143_21, ↓g143_22, ↓g143_23, ↓g143_24, ↓g143_24t, ↓g143_25, ↓g143_28, ↓g143_31, ↓g143_34, ↓g143_35, ↓g143_38, ↓g143_39, ↓g143_40, ↓g143_41, ↓g143_44, ↓g143_45, ↓g143_46, ↓g143_47, ↓g143_48, ↓g143_51, ↓g143_52, ↓g143_52t, ↓g143_53, ↓g143_54, ↓g143_57, ↓g143_58, ↓g143_58t, ↓g143_59, ↓g143_62, ↓g143_65, ↓g143_68, ↓g143_69, ↓g143_72, ↓g143_73, ↓g143_73t, ↓g143_74, ↓g143_75, ↓g143_76, ↓g143_79, ↓g143_80, ↓g143_81, ↓g143_84, ↓g143_85, ↓g143_85t, ↓g143_86, ↓g143_87, ↓g143_88, ↓g143_91, ↓g143_92, ↓g143_93, ↓g143_94, ↓g143_95, ↓g143_97, ↓g143_98, ↓g143_99, ↓g143_100, ↓g143_102, ↓g143_103, ↓g143_104, ↓g143_107, ↓g143_108, ↓g143_109, ↓g143_111, ↓g143_112, ↓g143_115, ↓g143_116, ↓g143_119, ↓g143_120, ↓g143_121, ↓g143_122, ↓g143_124, ↓g143_125, ↓g143_125t, ↓g143_126, ↓g143_127, ↓g143_128, ↓g143_131, ↓g143_132, ↓g143_133, ↓g143_134, ↓g143_136, ↓g143_137, ↓g143_138, ↓g143_141, ↓g143_142, ↓g143_145, ↓g143_146, ↓g143_147, ↓g143_149, ↓g143_150, ↓g143_150t, ↓g143_151, ↓g143_152, ↓g143_153, ↓g143_156, ↓g143_157, ↓g143_160, ↓g143_161, ↓g143_162, ↓g143_164, ↓g143_165, ↓g143_166, ↓g143_167, ↓g143_170, ↓g143_173, ↓g143_174, ↓Go_s, ↓GoC_a, ↓reduceIte, ↓mm_call_eq, ↓mmw_nil, ↓mmw_cons, List.take_succ_cons, List.take_zero, List.take_nil, List.drop_succ_cons, List.drop_zero, List.drop_nil, List.reverse_cons, List.reverse_nil, List.nil_append, List.cons_append, List.append_nil, Option.toList_some, Option.toList_none, Nat.sub_zero, Nat.le_refl, mmr_cons, mm_st1, mm_st2, mmi_nil, mmi_cons, mmc_I, mmc_L, mmc_R, mmu_get, mmu_one, mma_get, mma_one, List.filter_cons, List.filter_nil, List.contains_cons, List.contains_nil, Nat.reduceBEq, Nat.reduceAdd, Nat.reduceLT, Nat.reduceSub, Nat.reduceLeDiff, Nat.reduceEqDiff, Int32.reduceAdd, Bool.not_true, Bool.not_false, Bool.and_true, Bool.true_and, Bool.and_false, Bool.false_and, Bool.or_false, Bool.false_or, Bool.or_true, Bool.true_or, if_true, if_false, ite_true, ite_false, Bool.false_eq_true, List.getElem?_cons_zero, List.getElem?_cons_succ, List.length_cons, List.length_nil, true_and, and_true, List.set_cons_zero, List.set_cons_succ, Fin.isValue, Fin.val_zero, Fin.val_one, Fin.val_two, Fin.reduceFinMk, Nat.zero_add, hp_75, hp_76, hp_77, hp_78, hp_79, hp_80, hp_81, hp_82, hp_83, hp_84, hp_85, hp_86, hp_87, hp_88, hp_89, hp_90, hp_91, hp_92, hp_93, hp_94, hp_95, hp_96, hp_97, hp_98, og_75_0, og_75_1, og_75_2, og_75_3, og_75_4, og_75_5, og_75_6, og_75_7, og_75_8, og_75_9, og_75_10, og_75_11, og_75_12, og_75_13, og_75_14, og_75_15, og_75_16, og_75_17, og_75_18, og_75_19, og_75_20, og_75_21, og_75_22, og_75_23, og_75_24, og_75_25, og_75_26, og_75_27, og_75_28, og_75_29, og_75_30, og_75_31, og_75_32, og_75_33, og_75_34, og_75_35, og_75_36, og_75_37, og_75_38, og_75_39, og_75_40, og_75_41, ol_75, uo_75_4, uo_75_5, uo_75_6, uo_75_7, uo_75_11, uo_75_12, uo_75_13, uo_75_15, uo_75_19, uo_75_20, uo_75_21, uo_75_22, uo_75_23, uo_75_26, uo_75_30, uo_75_31, uo_75_32, uo_75_33, ua_76, ua_77, ua_78, ua_79, ua_80, ua_81, ua_82, ua_83, ua_84, ua_85, ua_86, ua_87, ua_88, ua_89, ua_90, ua_91, ua_92, ua_93, ua_94, ua_95, ua_96, ua_97, ua_98, sO_g, sA_g, sA_O, sO_A, sO_2, sM_1, sM_2, sM_3, sM_4, sM_5, sM_6, uc_75, h11, e1', e2, hc1, hc2, nI_1, nu_fitI, nu_fitL, nu_fitO, nu_fitA, nu_fitB0, nu_fitB1]
        refine ⟨fun z => absurd z (nI_ge c (by omega)), fun _ => ⟨vp_in_nI (by omega) (by omega), vp_in_nI (by omega) (by omega), vp_in_nI (by omega) (by omega), vp_in_nI (by omega) (by omega), ?_⟩⟩
        rw [sA_sA, sA_sA]
        refine ih (r - 2) (by omega) (k + 1) _ _ (by omega) (fun x hx => ?_)
        unfold upd
        by_cases x1 : x = n - 1 - k
        · rw [if_pos x1, if_pos (by omega), hg _ (by omega), if_neg (by omega)]
          congr 1
          omega
        · rw [if_neg x1]
          by_cases x2 : x = i + 1 + k
          · rw [if_pos x2, if_pos (by omega), hg _ (by omega), if_neg (by omega)]
            congr 1
            omega
          · rw [if_neg x2, hg x hx]
            by_cases x3 : i < x ∧ (x < i + 1 + k ∨ n - 1 - k < x)
            · rw [if_pos x3, if_pos (by omega)]
            · rw [if_neg x3, if_neg (by omega)]
      · (try simp only [Option.toList_some, Option.toList_none, List.nil_append, List.append_nil, List.cons_append, Nat.sub_zero, Nat.sub_self, Nat.zero_sub]); refine Go.wp sp_143 200 ?_; simp only [↓g143_0, ↓g143_1, ↓g143_4, ↓g143_5, ↓g143_6, ↓g143_7, ↓g143_8, ↓g143_11, ↓g143_12, ↓g143_15, ↓g143_16, ↓g143_16t, ↓g143_17, ↓g143_18, ↓g143_21, ↓g143_22, ↓g143_23, ↓g143_24, ↓g143_24t, ↓g143_25, ↓g143_28, ↓g143_31, ↓g143_34, ↓g143_35, ↓g143_38, ↓g143_39, ↓g143_40, ↓g143_41, ↓g143_44, ↓g143_45, ↓g143_46, ↓g143_47, ↓g143_48, ↓g143_51, ↓g143_52, ↓g143_52t, ↓g143_53, ↓g143_54, ↓g143_57, ↓g143_58, ↓g143_58t, ↓g143_59, ↓g143_62, ↓g143_65, ↓g143_68, ↓g143_69, ↓g143_72, ↓g143_73, ↓g143_73t, ↓g143_74, ↓g143_75, ↓g143_76, ↓g143_79, ↓g143_80, ↓g143_81, ↓g143_84, ↓g143_85, ↓g143_85t, ↓g143_86, ↓g143_87, ↓g143_88, ↓g143_91, ↓g143_92, ↓g143_93, ↓g143_94, ↓g143_95, ↓g143_97, ↓g143_98, ↓g143_99, ↓g143_100, ↓g143_102, ↓g143_103, ↓g143_104, ↓g143_107, ↓g143_108, ↓g143_109, ↓g143_111, ↓g143_112, ↓g143_115, ↓g143_116, ↓g143_119, ↓g143_120, ↓g143_121, ↓g143_122, ↓g143_124, ↓g143_125, ↓g143_125t, ↓g143_126, ↓g143_127, ↓g143_128, ↓g143_131, ↓g143_132, ↓g143_133, ↓g143_134, ↓g143_136, ↓g143_137, ↓g143_138, ↓g143_141, ↓g143_142, ↓g143_145, ↓g143_146, ↓g143_147, ↓g143_149, ↓g143_150, ↓g143_150t, ↓g143_151, ↓g143_152, ↓g143_153, ↓g143_156, ↓g143_157, ↓g143_160, ↓g143_161, ↓g143_162, ↓g143_164, ↓g143_165, ↓g143_166, ↓g143_167, ↓g143_170, ↓g143_173, ↓g143_174, ↓Go_s, ↓GoC_a, ↓reduceIte, ↓mm_call_eq, ↓mmw_nil, ↓mmw_cons, List.take_succ_cons, List.take_zero, List.take_nil, List.drop_succ_cons, List.drop_zero, List.drop_nil, List.reverse_cons, List.reverse_nil, List.nil_append, List.cons_append, List.append_nil, Option.toList_some, Option.toList_none, Nat.sub_zero, Nat.le_refl, mmr_cons, mm_st1, mm_st2, mmi_nil, mmi_cons, mmc_I, mmc_L, mmc_R, mmu_get, mmu_one, mma_get, mma_one, List.filter_cons, List.filter_nil, List.contains_cons, List.contains_nil, Nat.reduceBEq, Nat.reduceAdd, Nat.reduceLT, Nat.reduceSub, Nat.reduceLeDiff, Nat.reduceEqDiff, Int32.reduceAdd, Bool.not_true, Bool.not_false, Bool.and_true, Bool.true_and, Bool.and_false, Bool.false_and, Bool.or_false, Bool.false_or, Bool.or_true, Bool.true_or, if_true, if_false, ite_true, ite_false, Bool.false_eq_true, List.getElem?_cons_zero, List.getElem?_cons_succ, List.length_cons, List.length_nil, true_and, and_true, List.set_cons_zero, List.set_cons_succ, Fin.isValue, Fin.val_zero, Fin.val_one, Fin.val_two, Fin.reduceFinMk, Nat.zero_add, hp_75, hp_76, hp_77, hp_78, hp_79, hp_80, hp_81, hp_82, hp_83, hp_84, hp_85, hp_86, hp_87, hp_88, hp_89, hp_90, hp_91, hp_92, hp_93, hp_94, hp_95, hp_96, hp_97, hp_98, og_75_0, og_75_1, og_75_2, og_75_3, og_75_4, og_75_5, og_75_6, og_75_7, og_75_8, og_75_9, og_75_10, og_75_11, og_75_12, og_75_13, og_75_14, og_75_15, og_75_16, og_75_17, og_75_18, og_75_19, og_75_20, og_75_21, og_75_22, og_75_23, og_75_24, og_75_25, og_75_26, og_75_27, og_75_28, og_75_29, og_75_30, og_75_31, og_75_32, og_75_33, og_75_34, og_75_35, og_75_36, og_75_37, og_75_38, og_75_39, og_75_40, og_75_41, ol_75, uo_75_4, uo_75_5, uo_75_6, uo_75_7, uo_75_11, uo_75_12, uo_75_13, uo_75_15, uo_75_19, uo_75_20, uo_75_21, uo_75_22, uo_75_23, uo_75_26, uo_75_30, uo_75_31, uo_75_32, uo_75_33, ua_76, ua_77, ua_78, ua_79, ua_80, ua_81, ua_82, ua_83, ua_84, ua_85, ua_86, ua_87, ua_88, ua_89, ua_90, ua_91, ua_92, ua_93, ua_94, ua_95, ua_96, ua_97, ua_98, sO_g, sA_g, sA_O, sO_A, sO_2, sM_1, sM_2, sM_3, sM_4, sM_5, sM_6, uc_75, h11, e1, e2, nu_fitI, nu_fitL, nu_fitO, nu_fitA, nu_fitB0, nu_fitB1]
        refine ⟨fun _ => ⟨Or.inr trivial, Or.inr ⟨rfl, g, nxl (dA p i) (p.getD i 0) (d1 p i j) (p.getD j 0) (d2 p j), rfl, ?_, ?_, ?_⟩⟩, fun z => absurd (nI_le (show n - 1 - k ≤ i + 1 + k by omega) (by omega)) z⟩
        · refine Ar_nx hf hlen hij hj (fun x hx => ?_) ?_ (fun x h1 h3 => ?_)
          · rw [hg x (by omega), if_neg (by omega), hF0, if_neg (by omega), if_neg (by omega)]
          · rw [hg i (by omega), if_neg (by omega), hF0, if_neg (by omega), if_pos rfl, hf j (by omega)]
          · have hgx : g x = F (n + i - x) := by
              rw [hg x h3]
              by_cases x3 : i < x ∧ (x < i + 1 + k ∨ n - 1 - k < x)
              · rw [if_pos x3]
              · rw [if_neg x3]
                congr 1
                omega
            rw [hgx, hF0]
            by_cases x4 : n + i - x = j
            · rw [if_pos x4, if_pos x4, hf i (by omega)]
            · rw [if_neg x4, if_neg x4, if_neg (by omega)]
        · refine (nxl_perm _ _ _ _ _).trans ?_
          rw [← p_eq hij (by omega)]
          exact hp
        · rw [nxl_rk (by rw [← d_eq hij (by omega)]; exact hdes) hxy h2, ← p_eq hij (by omega)]
  -- which to change with
  have find : ∀ i, i + 1 < n → (p.drop (i + 1)).Pairwise (fun a b => b < a) → p.getD i 0 < p.getD (i + 1) 0 → ∀ r j, j = i + 1 + r → j < n → (∀ v ∈ d2 p j, v < p.getD i 0) → WP (mm_rw mr_143) (some .boolean) tb (WM tb d) (GnP s n p) 47 [(0, vR 75), (1, vI (nI i)), (2, vI (nI j))] [] (HP s) 0 0 := by
    intro i hi hdes hasc r
    induction r with
    | zero =>
      intro j hj hjn h2
      have ej : j = i + 1 := by omega
      have v1 := hv j hjn
      have v2 := hv i (by omega)
      have hcj : (nI j).toNatClampNeg = j := nI_clamp (by omega)
      have hci : (nI i).toNatClampNeg = i := nI_clamp (by omega)
      have hxy : p.getD i 0 < p.getD j 0 := by rw [ej]; exact hasc
      (try simp only [Option.toList_some, Option.toList_none, List.nil_append, List.append_nil, List.cons_append, Nat.sub_zero, Nat.sub_self, Nat.zero_sub]); refine Go.wp sp_143 200 ?_; simp only [↓g143_0, ↓g143_1, ↓g143_4, ↓g143_5, ↓g143_6, ↓g143_7, ↓g143_8, ↓g143_11, ↓g143_12, ↓g143_15, ↓g143_16, ↓g143_16t, ↓g143_17, ↓g143_18, ↓g143_21, ↓g143_22, ↓g143_23, ↓g143_24, ↓g143_24t, ↓g143_25, ↓g143_28, ↓g143_31, ↓g143_34, ↓g143_35, ↓g143_38, ↓g143_39, ↓g143_40, ↓g143_41, ↓g143_44, ↓g143_45, ↓g143_46, ↓g143_47, ↓g143_48, ↓g143_51, ↓g143_52, ↓g143_52t, ↓g143_53, ↓g143_54, ↓g143_57, ↓g143_58, ↓g143_58t, ↓g143_59, ↓g143_62, ↓g143_65, ↓g143_68, ↓g143_69, ↓g143_72, ↓g143_73, ↓g143_73t, ↓g143_74, ↓g143_75, ↓g143_76, ↓g143_79, ↓g143_80, ↓g143_81, ↓g143_84, ↓g143_85, ↓g143_85t, ↓g143_86, ↓g143_87, ↓g143_88, ↓g143_91, ↓g143_92, ↓g143_93, ↓g143_94, ↓g143_95, ↓g143_97, ↓g143_98, ↓g143_99, ↓g143_100, ↓g143_102, ↓g143_103, ↓g143_104, ↓g143_107, ↓g143_108, ↓g143_109, ↓g143_111, ↓g143_112, ↓g143_115, ↓g143_116, ↓g143_119, ↓g143_120, ↓g143_121, ↓g143_122, ↓g143_124, ↓g143_125, ↓g143_125t, ↓g143_126, ↓g143_127, ↓g143_128, ↓g143_131, ↓g143_132, ↓g143_133, ↓g143_134, ↓g143_136, ↓g143_137, ↓g143_138, ↓g143_141, ↓g143_142, ↓g143_145, ↓g143_146, ↓g143_147, ↓g143_149, ↓g143_150, ↓g143_150t, ↓g143_151, ↓g143_152, ↓g143_153, ↓g143_156, ↓g143_157, ↓g143_160, ↓g143_161, ↓g143_162, ↓g143_164, ↓g143_165, ↓g143_166, ↓g143_167, ↓g143_170, ↓g143_173, ↓g143_174, ↓Go_s, ↓GoC_a, ↓reduceIte, ↓mm_call_eq, ↓mmw_nil, ↓mmw_cons, List.take_succ_cons, List.take_zero, List.take_nil, List.drop_succ_cons, List.drop_zero, List.drop_nil, List.reverse_cons, List.reverse_nil, List.nil_append, List.cons_append, List.append_nil, Option.toList_some, Option.toList_none, Nat.sub_zero, Nat.le_refl, mmr_cons, mm_st1, mm_st2, mmi_nil, mmi_cons, mmc_I, mmc_L, mmc_R, mmu_get, mmu_one, mma_get, mma_one, List.filter_cons, List.filter_nil, List.contains_cons, List.contains_nil, Nat.reduceBEq, Nat.reduceAdd, Nat.reduceLT, Nat.reduceSub, Nat.reduceLeDiff, Nat.reduceEqDiff, Int32.reduceAdd, Bool.not_true, Bool.not_false, Bool.and_true, Bool.true_and, Bool.and_false, Bool.false_and, Bool.or_false, Bool.false_or, Bool.or_true, Bool.true_or, if_true, if_false, ite_true, ite_false, Bool.false_eq_true, List.getElem?_cons_zero, List.getElem?_cons_succ, List.length_cons, List.length_nil, true_and, and_true, List.set_cons_zero, List.set_cons_succ, Fin.isValue, Fin.val_zero, Fin.val_one, Fin.val_two, Fin.reduceFinMk, Nat.zero_add, hp_75, hp_76, hp_77, hp_78, hp_79, hp_80, hp_81, hp_82, hp_83, hp_84, hp_85, hp_86, hp_87, hp_88, hp_89, hp_90, hp_91, hp_92, hp_93, hp_94, hp_95, hp_96, hp_97, hp_98, og_75_0, og_75_1, og_75_2, og_75_3, og_75_4, og_75_5, og_75_6, og_75_7, og_75_8, og_75_9, og_75_10, og_75_11, og_75_12, og_75_13, og_75_14, og_75_15, og_75_16, og_75_17, og_75_18, og_75_19, og_75_20, og_75_21, og_75_22, og_75_23, og_75_24, og_75_25, og_75_26, og_75_27, og_75_28, og_75_29, og_75_30, og_75_31, og_75_32, og_75_33, og_75_34, og_75_35, og_75_36, og_75_37, og_75_38, og_75_39, og_75_40, og_75_41, ol_75, uo_75_4, uo_75_5, uo_75_6, uo_75_7, uo_75_11, uo_75_12, uo_75_13, uo_75_15, uo_75_19, uo_75_20, uo_75_21, uo_75_22, uo_75_23, uo_75_26, uo_75_30, uo_75_31, uo_75_32, uo_75_33, ua_76, ua_77, ua_78, ua_79, ua_80, ua_81, ua_82, ua_83, ua_84, ua_85, ua_86, ua_87, ua_88, ua_89, ua_90, ua_91, ua_92, ua_93, ua_94, ua_95, ua_96, ua_97, ua_98, sO_g, sA_g, sA_O, sO_A, sO_2, sM_1, sM_2, sM_3, sM_4, sM_5, sM_6, uc_75, hcj, hci, hf j (by omega), hf i (by omega), nu_fitI, nu_fitL, nu_fitO, nu_fitA, nu_fitB0, nu_fitB1]
      refine ⟨vp_in_nI (by omega) (by omega), vp_in_nI (by omega) (by omega), fun _ => ⟨vp_in_nI (by omega) (by omega), vp_in_nI (by omega) (by omega), vp_in_nI (by omega) (by omega), vp_in_nI (by omega) (by omega), ?_⟩, fun z => absurd (nI_le (Nat.le_of_lt hxy) (by omega)) z⟩
      rw [sA_sA]
      exact rev i j (by omega) hjn hdes hxy h2 (n - 1 - i) 0 _ _ (Or.inl (by omega)) (fun x hx => by rw [if_neg (by omega)])
    | succ r ih =>
      intro j hj hjn h2
      have v1 := hv j hjn
      have v2 := hv i (by omega)
      have hcj : (nI j).toNatClampNeg = j := nI_clamp (by omega)
      have hci : (nI i).toNatClampNeg = i := nI_clamp (by omega)
      have edec : nI j + mI 1 = nI (j - 1) := nu_dec (by omega)
      have hne : p.getD j 0 ≠ p.getD i 0 := fun z => by have := hp.inj hjn (show i < n by omega) z; omega
      by_cases hxy : p.getD i 0 < p.getD j 0
      · (try simp only [Option.toList_some, Option.toList_none, List.nil_append, List.append_nil, List.cons_append, Nat.sub_zero, Nat.sub_self, Nat.zero_sub]); refine Go.wp sp_143 200 ?_; simp only [↓g143_0, ↓g143_1, ↓g143_4, ↓g143_5, ↓g143_6, ↓g143_7, ↓g143_8, ↓g143_11, ↓g143_12, ↓g143_15, ↓g143_16, ↓g143_16t, ↓g143_17, ↓g143_18, ↓g143_21, ↓g143_22, ↓g143_23, ↓g143_24, ↓g143_24t, ↓g143_25, ↓g143_28, ↓g143_31, ↓g143_34, ↓g143_35, ↓g143_38, ↓g143_39, ↓g143_40, ↓g143_41, ↓g143_44, ↓g143_45, ↓g143_46, ↓g143_47, ↓g143_48, ↓g143_51, ↓g143_52, ↓g143_52t, ↓g143_53, ↓g143_54, ↓g143_57, ↓g143_58, ↓g143_58t, ↓g143_59, ↓g143_62, ↓g143_65, ↓g143_68, ↓g143_69, ↓g143_72, ↓g143_73, ↓g143_73t, ↓g143_74, ↓g143_75, ↓g143_76, ↓g143_79, ↓g143_80, ↓g143_81, ↓g143_84, ↓g143_85, ↓g143_85t, ↓g143_86, ↓g143_87, ↓g143_88, ↓g143_91, ↓g143_92, ↓g143_93, ↓g143_94, ↓g143_95, ↓g143_97, ↓g143_98, ↓g143_99, ↓g143_100, ↓g143_102, ↓g143_103, ↓g143_104, ↓g143_107, ↓g143_108, ↓g143_109, ↓g143_111, ↓g143_112, ↓g143_115, ↓g143_116, ↓g143_119, ↓g143_120, ↓g143_121, ↓g143_122, ↓g143_124, ↓g143_125, ↓g143_125t, ↓g143_126, ↓g143_127, ↓g143_128, ↓g143_131, ↓g143_132, ↓g143_133, ↓g143_134, ↓g143_136, ↓g143_137, ↓g143_138, ↓g143_141, ↓g143_142, ↓g143_145, ↓g143_146, ↓g143_147, ↓g143_149, ↓g143_150, ↓g143_150t, ↓g143_151, ↓g143_152, ↓g143_153, ↓g143_156, ↓g143_157, ↓g143_160, ↓g143_161, ↓g143_162, ↓g143_164, ↓g143_165, ↓g143_166, ↓g143_167, ↓g143_170, ↓g143_173, ↓g143_174, ↓Go_s, ↓GoC_a, ↓reduceIte, ↓mm_call_eq, ↓mmw_nil, ↓mmw_cons, List.take_succ_cons, List.take_zero, List.take_nil, List.drop_succ_cons, List.drop_zero, List.drop_nil, List.reverse_cons, List.reverse_nil, List.nil_append, List.cons_append, List.append_nil, Option.toList_some, Option.toList_none, Nat.sub_zero, Nat.le_refl, mmr_cons, mm_st1, mm_st2, mmi_nil, mmi_cons, mmc_I, mmc_L, mmc_R, mmu_get, mmu_one, mma_get, mma_one, List.filter_cons, List.filter_nil, List.contains_cons, List.contains_nil, Nat.reduceBEq, Nat.reduceAdd, Nat.reduceLT, Nat.reduceSub, Nat.reduceLeDiff, Nat.reduceEqDiff, Int32.reduceAdd, Bool.not_true, Bool.not_false, Bool.and_true, Bool.true_and, Bool.and_false, Bool.false_and, Bool.or_false, Bool.false_or, Bool.or_true, Bool.true_or, if_true, if_false, ite_true, ite_false, Bool.false_eq_true, List.getElem?_cons_zero, List.getElem?_cons_succ, List.length_cons, List.length_nil, true_and, and_true, List.set_cons_zero, List.set_cons_succ, Fin.isValue, Fin.val_zero, Fin.val_one, Fin.val_two, Fin.reduceFinMk, Nat.zero_add, hp_75, hp_76, hp_77, hp_78, hp_79, hp_80, hp_81, hp_82, hp_83, hp_84, hp_85, hp_86, hp_87, hp_88, hp_89, hp_90, hp_91, hp_92, hp_93, hp_94, hp_95, hp_96, hp_97, hp_98, og_75_0, og_75_1, og_75_2, og_75_3, og_75_4, og_75_5, og_75_6, og_75_7, og_75_8, og_75_9, og_75_10, og_75_11, og_75_12, og_75_13, og_75_14, og_75_15, og_75_16, og_75_17, og_75_18, og_75_19, og_75_20, og_75_21, og_75_22, og_75_23, og_75_24, og_75_25, og_75_26, og_75_27, og_75_28, og_75_29, og_75_30, og_75_31, og_75_32, og_75_33, og_75_34, og_75_35, og_75_36, og_75_37, og_75_38, og_75_39, og_75_40, og_75_41, ol_75, uo_75_4, uo_75_5, uo_75_6, uo_75_7, uo_75_11, uo_75_12, uo_75_13, uo_75_15, uo_75_19, uo_75_20, uo_75_21, uo_75_22, uo_75_23, uo_75_26, uo_75_30, uo_75_31, uo_75_32, uo_75_33, ua_76, ua_77, ua_78, ua_79, ua_80, ua_81, ua_82, ua_83, ua_84, ua_85, ua_86, ua_87, ua_88, ua_89, ua_90, ua_91, ua_92, ua_93, ua_94, ua_95, ua_96, ua_97, ua_98, sO_g, sA_g, sA_O, sO_A, sO_2, sM_1, sM_2, sM_3, sM_4, sM_5, sM_6, uc_75, hcj, hci, hf j (by omega), hf i (by omega), nu_fitI, nu_fitL, nu_fitO, nu_fitA, nu_fitB0, nu_fitB1]
        refine ⟨vp_in_nI (by omega) (by omega), vp_in_nI (by omega) (by omega), fun _ => ⟨vp_in_nI (by omega) (by omega), vp_in_nI (by omega) (by omega), vp_in_nI (by omega) (by omega), vp_in_nI (by omega) (by omega), ?_⟩, fun z => absurd (nI_le (Nat.le_of_lt hxy) (by omega)) z⟩
        rw [sA_sA]
        exact rev i j (by omega) hjn hdes hxy h2 (n - 1 - i) 0 _ _ (Or.inl (by omega)) (fun x hx => by rw [if_neg (by omega)])
      · (try simp only [Option.toList_some, Option.toList_none, List.nil_append, List.append_nil, List.cons_append, Nat.sub_zero, Nat.sub_self, Nat.zero_sub]); refine Go.wp [7, 47, 68, 97] 200 ?_; simp only [↓g143_0, ↓g143_1, ↓g143_4, ↓g143_5, ↓g143_6, ↓g143_7, ↓g143_8, ↓g143_11, ↓g143_12, ↓g143_15, ↓g143_16, ↓g143_16t, ↓g143_17, ↓g143_18, ↓g143_21, ↓g143_22, ↓g143_23, ↓g143_24, ↓g143_24t, ↓g143_25, ↓g143_28, ↓g143_31, ↓g143_34, ↓g143_35, ↓g143_38, ↓g143_39, ↓g143_40, ↓g143_41, ↓g143_44, ↓g143_45, ↓g143_46, ↓g143_47, ↓g143_48, ↓g143_51, ↓g143_52, ↓g143_52t, ↓g143_53, ↓g143_54, ↓g143_57, ↓g143_58, ↓g143_58t, ↓g143_59, ↓g143_62, ↓g143_65, ↓g143_68, ↓g143_69, ↓g143_72, ↓g143_73, ↓g143_73t, ↓g143_74, ↓g143_75, ↓g143_76, ↓g143_79, ↓g143_80, ↓g143_81, ↓g143_84, ↓g143_85, ↓g143_85t, ↓g143_86, ↓g143_87, ↓g143_88, ↓g143_91, ↓g143_92, ↓g143_93, ↓g143_94, ↓g143_95, ↓g143_97, ↓g143_98, ↓g143_99, ↓g143_100, ↓g143_102, ↓g143_103, ↓g143_104, ↓g143_107, ↓g143_108, ↓g143_109, ↓g143_111, ↓g143_112, ↓g143_115, ↓g143_116, ↓g143_119, ↓g143_120, ↓g143_121, ↓g143_122, ↓g143_124, ↓g143_125, ↓g143_125t, ↓g143_126, ↓g143_127, ↓g143_128, ↓g143_131, ↓g143_132, ↓g143_133, ↓g143_134, ↓g143_136, ↓g143_137, ↓g143_138, ↓g143_141, ↓g143_142, ↓g143_145, ↓g143_146, ↓g143_147, ↓g143_149, ↓g143_150, ↓g143_150t, ↓g143_151, ↓g143_152, ↓g143_153, ↓g143_156, ↓g143_157, ↓g143_160, ↓g143_161, ↓g143_162, ↓g143_164, ↓g143_165, ↓g143_166, ↓g143_167, ↓g143_170, ↓g143_173, ↓g143_174, ↓Go_s, ↓GoC_a, ↓reduceIte, ↓mm_call_eq, ↓mmw_nil, ↓mmw_cons, List.take_succ_cons, List.take_zero, List.take_nil, List.drop_succ_cons, List.drop_zero, List.drop_nil, List.reverse_cons, List.reverse_nil, List.nil_append, List.cons_append, List.append_nil, Option.toList_some, Option.toList_none, Nat.sub_zero, Nat.le_refl, mmr_cons, mm_st1, mm_st2, mmi_nil, mmi_cons, mmc_I, mmc_L, mmc_R, mmu_get, mmu_one, mma_get, mma_one, List.filter_cons, List.filter_nil, List.contains_cons, List.contains_nil, Nat.reduceBEq, Nat.reduceAdd, Nat.reduceLT, Nat.reduceSub, Nat.reduceLeDiff, Nat.reduceEqDiff, Int32.reduceAdd, Bool.not_true, Bool.not_false, Bool.and_true, Bool.true_and, Bool.and_false, Bool.false_and, Bool.or_false, Bool.false_or, Bool.or_true, Bool.true_or, if_true, if_false, ite_true, ite_false, Bool.false_eq_true, List.getElem?_cons_zero, List.getElem?_cons_succ, List.length_cons, List.length_nil, true_and, and_true, List.set_cons_zero, List.set_cons_succ, Fin.isValue, Fin.val_zero, Fin.val_one, Fin.val_two, Fin.reduceFinMk, Nat.zero_add, hp_75, hp_76, hp_77, hp_78, hp_79, hp_80, hp_81, hp_82, hp_83, hp_84, hp_85, hp_86, hp_87, hp_88, hp_89, hp_90, hp_91, hp_92, hp_93, hp_94, hp_95, hp_96, hp_97, hp_98, og_75_0, og_75_1, og_75_2, og_75_3, og_75_4, og_75_5, og_75_6, og_75_7, og_75_8, og_75_9, og_75_10, og_75_11, og_75_12, og_75_13, og_75_14, og_75_15, og_75_16, og_75_17, og_75_18, og_75_19, og_75_20, og_75_21, og_75_22, og_75_23, og_75_24, og_75_25, og_75_26, og_75_27, og_75_28, og_75_29, og_75_30, og_75_31, og_75_32, og_75_33, og_75_34, og_75_35, og_75_36, og_75_37, og_75_38, og_75_39, og_75_40, og_75_41, ol_75, uo_75_4, uo_75_5, uo_75_6, uo_75_7, uo_75_11, uo_75_12, uo_75_13, uo_75_15, uo_75_19, uo_75_20, uo_75_21, uo_75_22, uo_75_23, uo_75_26, uo_75_30, uo_75_31, uo_75_32, uo_75_33, ua_76, ua_77, ua_78, ua_79, ua_80, ua_81, ua_82, ua_83, ua_84, ua_85, ua_86, ua_87, ua_88, ua_89, ua_90, ua_91, ua_92, ua_93, ua_94, ua_95, ua_96, ua_97, ua_98, sO_g, sA_g, sA_O, sO_A, sO_2, sM_1, sM_2, sM_3, sM_4, sM_5, sM_6, uc_75, hcj, hci, hf j (by omega), hf i (by omega), edec, nu_fitI, nu_fitL, nu_fitO, nu_fitA, nu_fitB0, nu_fitB1]
        refine ⟨vp_in_nI (by omega) (by omega), vp_in_nI (by omega) (by omega), fun z => absurd z (nI_ge (show p.getD j 0 < p.getD i 0 by omega) (by omega)), fun _ => ih (j - 1) (by omega) (by omega) (fun v hv' => ?_)⟩
        unfold d2 at hv' h2
        rw [show j - 1 + 1 = j by omega, drop_c (by omega)] at hv'
        rcases List.mem_cons.mp hv' with e | e
        · omega
        · exact h2 v e
  -- where the row goes up
  have up : ∀ m, m < n → (p.drop m).Pairwise (fun a b => b < a) → WP (mm_rw mr_143) (some .boolean) tb (WM tb d) (GnP s n p) 7 [(0, vR 75), (1, vI (nI m - 1))] [] (HP s) 0 0 := by
    intro m
    induction m with
    | zero =>
      intro _ hdes
      have hneg : nI 0 - 1 < 0 := by decide
      (try simp only [Option.toList_some, Option.toList_none, List.nil_append, List.append_nil, List.cons_append, Nat.sub_zero, Nat.sub_self, Nat.zero_sub]); refine Go.wp [7, 40, 47, 97] 200 ?_; simp only [↓g143_0, ↓g143_1, ↓g143_4, ↓g143_5, ↓g143_6, ↓g143_7, ↓g143_8, ↓g143_11, ↓g143_12, ↓g143_15, ↓g143_16, ↓g143_16t, ↓g143_17, ↓g143_18, ↓g143_21, ↓g143_22, ↓g143_23, ↓g143_24, ↓g143_24t, ↓g143_25, ↓g143_28, ↓g143_31, ↓g143_34, ↓g143_35, ↓g143_38, ↓g143_39, ↓g143_40, ↓g143_41, ↓g143_44, ↓g143_45, ↓g143_46, ↓g143_47, ↓g143_48, ↓g143_51, ↓g143_52, ↓g143_52t, ↓g143_53, ↓g143_54, ↓g143_57, ↓g143_58, ↓g143_58t, ↓g143_59, ↓g143_62, ↓g143_65, ↓g143_68, ↓g143_69, ↓g143_72, ↓g143_73, ↓g143_73t, ↓g143_74, ↓g143_75, ↓g143_76, ↓g143_79, ↓g143_80, ↓g143_81, ↓g143_84, ↓g143_85, ↓g143_85t, ↓g143_86, ↓g143_87, ↓g143_88, ↓g143_91, ↓g143_92, ↓g143_93, ↓g143_94, ↓g143_95, ↓g143_97, ↓g143_98, ↓g143_99, ↓g143_100, ↓g143_102, ↓g143_103, ↓g143_104, ↓g143_107, ↓g143_108, ↓g143_109, ↓g143_111, ↓g143_112, ↓g143_115, ↓g143_116, ↓g143_119, ↓g143_120, ↓g143_121, ↓g143_122, ↓g143_124, ↓g143_125, ↓g143_125t, ↓g143_126, ↓g143_127, ↓g143_128, ↓g143_131, ↓g143_132, ↓g143_133, ↓g143_134, ↓g143_136, ↓g143_137, ↓g143_138, ↓g143_141, ↓g143_142, ↓g143_145, ↓g143_146, ↓g143_147, ↓g143_149, ↓g143_150, ↓g143_150t, ↓g143_151, ↓g143_152, ↓g143_153, ↓g143_156, ↓g143_157, ↓g143_160, ↓g143_161, ↓g143_162, ↓g143_164, ↓g143_165, ↓g143_166, ↓g143_167, ↓g143_170, ↓g143_173, ↓g143_174, ↓Go_s, ↓GoC_a, ↓reduceIte, ↓mm_call_eq, ↓mmw_nil, ↓mmw_cons, List.take_succ_cons, List.take_zero, List.take_nil, List.drop_succ_cons, List.drop_zero, List.drop_nil, List.reverse_cons, List.reverse_nil, List.nil_append, List.cons_append, List.append_nil, Option.toList_some, Option.toList_none, Nat.sub_zero, Nat.le_refl, mmr_cons, mm_st1, mm_st2, mmi_nil, mmi_cons, mmc_I, mmc_L, mmc_R, mmu_get, mmu_one, mma_get, mma_one, List.filter_cons, List.filter_nil, List.contains_cons, List.contains_nil, Nat.reduceBEq, Nat.reduceAdd, Nat.reduceLT, Nat.reduceSub, Nat.reduceLeDiff, Nat.reduceEqDiff, Int32.reduceAdd, Bool.not_true, Bool.not_false, Bool.and_true, Bool.true_and, Bool.and_false, Bool.false_and, Bool.or_false, Bool.false_or, Bool.or_true, Bool.true_or, if_true, if_false, ite_true, ite_false, Bool.false_eq_true, List.getElem?_cons_zero, List.getElem?_cons_succ, List.length_cons, List.length_nil, true_and, and_true, List.set_cons_zero, List.set_cons_succ, Fin.isValue, Fin.val_zero, Fin.val_one, Fin.val_two, Fin.reduceFinMk, Nat.zero_add, hp_75, hp_76, hp_77, hp_78, hp_79, hp_80, hp_81, hp_82, hp_83, hp_84, hp_85, hp_86, hp_87, hp_88, hp_89, hp_90, hp_91, hp_92, hp_93, hp_94, hp_95, hp_96, hp_97, hp_98, og_75_0, og_75_1, og_75_2, og_75_3, og_75_4, og_75_5, og_75_6, og_75_7, og_75_8, og_75_9, og_75_10, og_75_11, og_75_12, og_75_13, og_75_14, og_75_15, og_75_16, og_75_17, og_75_18, og_75_19, og_75_20, og_75_21, og_75_22, og_75_23, og_75_24, og_75_25, og_75_26, og_75_27, og_75_28, og_75_29, og_75_30, og_75_31, og_75_32, og_75_33, og_75_34, og_75_35, og_75_36, og_75_37, og_75_38, og_75_39, og_75_40, og_75_41, ol_75, uo_75_4, uo_75_5, uo_75_6, uo_75_7, uo_75_11, uo_75_12, uo_75_13, uo_75_15, uo_75_19, uo_75_20, uo_75_21, uo_75_22, uo_75_23, uo_75_26, uo_75_30, uo_75_31, uo_75_32, uo_75_33, ua_76, ua_77, ua_78, ua_79, ua_80, ua_81, ua_82, ua_83, ua_84, ua_85, ua_86, ua_87, ua_88, ua_89, ua_90, ua_91, ua_92, ua_93, ua_94, ua_95, ua_96, ua_97, ua_98, sO_g, sA_g, sA_O, sO_A, sO_2, sM_1, sM_2, sM_3, sM_4, sM_5, sM_6, uc_75, nu_fitI, nu_fitL, nu_fitO, nu_fitA, nu_fitB0, nu_fitB1]
      refine ⟨fun _ => ⟨fun z => absurd hneg (Int32.not_lt.mpr z), fun _ => ⟨Or.inl trivial, Or.inl ⟨rfl, rfl, ?_⟩⟩⟩, fun z => absurd hneg z⟩
      rw [← hlen]
      exact rk_desc p hdes
    | succ m ih =>
      intro hm hdes
      have e1 : nI (m + 1) - 1 = nI m := by rw [show (1 : Int32) = nI 1 from rfl, pk_sub (by omega), Nat.add_sub_cancel]
      have hcm : (nI m).toNatClampNeg = m := nI_clamp (by omega)
      have hcm1 : (nI (m + 1)).toNatClampNeg = m + 1 := nI_clamp (by omega)
      have v1 := hv m (by omega)
      have v2 := hv (m + 1) hm
      have hpos : ¬ nI m < 0 := fun z => absurd (nI_pos' (by omega)) (Int32.not_le.mpr z)
      have en1 : nI n - 1 = nI (n - 1) := by rw [show (1 : Int32) = nI 1 from rfl, pk_sub (by omega)]
      rw [e1]
      by_cases c : p.getD m 0 ≤ p.getD (m + 1) 0
      · have hne : p.getD m 0 ≠ p.getD (m + 1) 0 := fun z => by have := hp.inj (show m < n by omega) hm z; omega
        (try simp only [Option.toList_some, Option.toList_none, List.nil_append, List.append_nil, List.cons_append, Nat.sub_zero, Nat.sub_self, Nat.zero_sub]); refine Go.wp sp_143 200 ?_; simp only [↓g143_0, ↓g143_1, ↓g143_4, ↓g143_5, ↓g143_6, ↓g143_7, ↓g143_8, ↓g143_11, ↓g143_12, ↓g143_15, ↓g143_16, ↓g143_16t, ↓g143_17, ↓g143_18, ↓g143_21, ↓g143_22, ↓g143_23, ↓g143_24, ↓g143_24t, ↓g143_25, ↓g143_28, ↓g143_31, ↓g143_34, ↓g143_35, ↓g143_38, ↓g143_39, ↓g143_40, ↓g143_41, ↓g143_44, ↓g143_45, ↓g143_46, ↓g143_47, ↓g143_48, ↓g143_51, ↓g143_52, ↓g143_52t, ↓g143_53, ↓g143_54, ↓g143_57, ↓g143_58, ↓g143_58t, ↓g143_59, ↓g143_62, ↓g143_65, ↓g143_68, ↓g143_69, ↓g143_72, ↓g143_73, ↓g143_73t, ↓g143_74, ↓g143_75, ↓g143_76, ↓g143_79, ↓g143_80, ↓g143_81, ↓g143_84, ↓g143_85, ↓g143_85t, ↓g143_86, ↓g143_87, ↓g143_88, ↓g143_91, ↓g143_92, ↓g143_93, ↓g143_94, ↓g143_95, ↓g143_97, ↓g143_98, ↓g143_99, ↓g143_100, ↓g143_102, ↓g143_103, ↓g143_104, ↓g143_107, ↓g143_108, ↓g143_109, ↓g143_111, ↓g143_112, ↓g143_115, ↓g143_116, ↓g143_119, ↓g143_120, ↓g143_121, ↓g143_122, ↓g143_124, ↓g143_125, ↓g143_125t, ↓g143_126, ↓g143_127, ↓g143_128, ↓g143_131, ↓g143_132, ↓g143_133, ↓g143_134, ↓g143_136, ↓g143_137, ↓g143_138, ↓g143_141, ↓g143_142, ↓g143_145, ↓g143_146, ↓g143_147, ↓g143_149, ↓g143_150, ↓g143_150t, ↓g143_151, ↓g143_152, ↓g143_153, ↓g143_156, ↓g143_157, ↓g143_160, ↓g143_161, ↓g143_162, ↓g143_164, ↓g143_165, ↓g143_166, ↓g143_167, ↓g143_170, ↓g143_173, ↓g143_174, ↓Go_s, ↓GoC_a, ↓reduceIte, ↓mm_call_eq, ↓mmw_nil, ↓mmw_cons, List.take_succ_cons, List.take_zero, List.take_nil, List.drop_succ_cons, List.drop_zero, List.drop_nil, List.reverse_cons, List.reverse_nil, List.nil_append, List.cons_append, List.append_nil, Option.toList_some, Option.toList_none, Nat.sub_zero, Nat.le_refl, mmr_cons, mm_st1, mm_st2, mmi_nil, mmi_cons, mmc_I, mmc_L, mmc_R, mmu_get, mmu_one, mma_get, mma_one, List.filter_cons, List.filter_nil, List.contains_cons, List.contains_nil, Nat.reduceBEq, Nat.reduceAdd, Nat.reduceLT, Nat.reduceSub, Nat.reduceLeDiff, Nat.reduceEqDiff, Int32.reduceAdd, Bool.not_true, Bool.not_false, Bool.and_true, Bool.true_and, Bool.and_false, Bool.false_and, Bool.or_false, Bool.false_or, Bool.or_true, Bool.true_or, if_true, if_false, ite_true, ite_false, Bool.false_eq_true, List.getElem?_cons_zero, List.getElem?_cons_succ, List.length_cons, List.length_nil, true_and, and_true, List.set_cons_zero, List.set_cons_succ, Fin.isValue, Fin.val_zero, Fin.val_one, Fin.val_two, Fin.reduceFinMk, Nat.zero_add, hp_75, hp_76, hp_77, hp_78, hp_79, hp_80, hp_81, hp_82, hp_83, hp_84, hp_85, hp_86, hp_87, hp_88, hp_89, hp_90, hp_91, hp_92, hp_93, hp_94, hp_95, hp_96, hp_97, hp_98, og_75_0, og_75_1, og_75_2, og_75_3, og_75_4, og_75_5, og_75_6, og_75_7, og_75_8, og_75_9, og_75_10, og_75_11, og_75_12, og_75_13, og_75_14, og_75_15, og_75_16, og_75_17, og_75_18, og_75_19, og_75_20, og_75_21, og_75_22, og_75_23, og_75_24, og_75_25, og_75_26, og_75_27, og_75_28, og_75_29, og_75_30, og_75_31, og_75_32, og_75_33, og_75_34, og_75_35, og_75_36, og_75_37, og_75_38, og_75_39, og_75_40, og_75_41, ol_75, uo_75_4, uo_75_5, uo_75_6, uo_75_7, uo_75_11, uo_75_12, uo_75_13, uo_75_15, uo_75_19, uo_75_20, uo_75_21, uo_75_22, uo_75_23, uo_75_26, uo_75_30, uo_75_31, uo_75_32, uo_75_33, ua_76, ua_77, ua_78, ua_79, ua_80, ua_81, ua_82, ua_83, ua_84, ua_85, ua_86, ua_87, ua_88, ua_89, ua_90, ua_91, ua_92, ua_93, ua_94, ua_95, ua_96, ua_97, ua_98, sO_g, sA_g, sA_O, sO_A, sO_2, sM_1, sM_2, sM_3, sM_4, sM_5, sM_6, uc_75, h11, nI_1, hcm, hcm1, hf m (by omega), hf (m + 1) (by omega), en1, nu_fitI, nu_fitL, nu_fitO, nu_fitA, nu_fitB0, nu_fitB1]
        refine ⟨fun z => absurd z hpos, fun _ => ⟨vp_in_nI (by omega) (by omega), vp_in_nI (by omega) (by omega), fun _ => ⟨fun _ => ?_, fun z => absurd (nI_pos' (by omega)) z⟩, fun z => absurd (nI_le c (by omega)) z⟩⟩
        refine find m hm hdes (by omega) (n - 1 - (m + 1)) (n - 1) (by omega) (by omega) (fun v hv' => ?_)
        unfold d2 at hv'
        rw [List.drop_of_length_le (by omega)] at hv'
        exact absurd hv' (by simp)
      · (try simp only [Option.toList_some, Option.toList_none, List.nil_append, List.append_nil, List.cons_append, Nat.sub_zero, Nat.sub_self, Nat.zero_sub]); refine Go.wp [7, 34, 47, 97] 200 ?_; simp only [↓g143_0, ↓g143_1, ↓g143_4, ↓g143_5, ↓g143_6, ↓g143_7, ↓g143_8, ↓g143_11, ↓g143_12, ↓g143_15, ↓g143_16, ↓g143_16t, ↓g143_17, ↓g143_18, ↓g143_21, ↓g143_22, ↓g143_23, ↓g143_24, ↓g143_24t, ↓g143_25, ↓g143_28, ↓g143_31, ↓g143_34, ↓g143_35, ↓g143_38, ↓g143_39, ↓g143_40, ↓g143_41, ↓g143_44, ↓g143_45, ↓g143_46, ↓g143_47, ↓g143_48, ↓g143_51, ↓g143_52, ↓g143_52t, ↓g143_53, ↓g143_54, ↓g143_57, ↓g143_58, ↓g143_58t, ↓g143_59, ↓g143_62, ↓g143_65, ↓g143_68, ↓g143_69, ↓g143_72, ↓g143_73, ↓g143_73t, ↓g143_74, ↓g143_75, ↓g143_76, ↓g143_79, ↓g143_80, ↓g143_81, ↓g143_84, ↓g143_85, ↓g143_85t, ↓g143_86, ↓g143_87, ↓g143_88, ↓g143_91, ↓g143_92, ↓g143_93, ↓g143_94, ↓g143_95, ↓g143_97, ↓g143_98, ↓g143_99, ↓g143_100, ↓g143_102, ↓g143_103, ↓g143_104, ↓g143_107, ↓g143_108, ↓g143_109, ↓g143_111, ↓g143_112, ↓g143_115, ↓g143_116, ↓g143_119, ↓g143_120, ↓g143_121, ↓g143_122, ↓g143_124, ↓g143_125, ↓g143_125t, ↓g143_126, ↓g143_127, ↓g143_128, ↓g143_131, ↓g143_132, ↓g143_133, ↓g143_134, ↓g143_136, ↓g143_137, ↓g143_138, ↓g143_141, ↓g143_142, ↓g143_145, ↓g143_146, ↓g143_147, ↓g143_149, ↓g143_150, ↓g143_150t, ↓g143_151, ↓g143_152, ↓g143_153, ↓g143_156, ↓g143_157, ↓g143_160, ↓g143_161, ↓g143_162, ↓g143_164, ↓g143_165, ↓g143_166, ↓g143_167, ↓g143_170, ↓g143_173, ↓g143_174, ↓Go_s, ↓GoC_a, ↓reduceIte, ↓mm_call_eq, ↓mmw_nil, ↓mmw_cons, List.take_succ_cons, List.take_zero, List.take_nil, List.drop_succ_cons, List.drop_zero, List.drop_nil, List.reverse_cons, List.reverse_nil, List.nil_append, List.cons_append, List.append_nil, Option.toList_some, Option.toList_none, Nat.sub_zero, Nat.le_refl, mmr_cons, mm_st1, mm_st2, mmi_nil, mmi_cons, mmc_I, mmc_L, mmc_R, mmu_get, mmu_one, mma_get, mma_one, List.filter_cons, List.filter_nil, List.contains_cons, List.contains_nil, Nat.reduceBEq, Nat.reduceAdd, Nat.reduceLT, Nat.reduceSub, Nat.reduceLeDiff, Nat.reduceEqDiff, Int32.reduceAdd, Bool.not_true, Bool.not_false, Bool.and_true, Bool.true_and, Bool.and_false, Bool.false_and, Bool.or_false, Bool.false_or, Bool.or_true, Bool.true_or, if_true, if_false, ite_true, ite_false, Bool.false_eq_true, List.getElem?_cons_zero, List.getElem?_cons_succ, List.length_cons, List.length_nil, true_and, and_true, List.set_cons_zero, List.set_cons_succ, Fin.isValue, Fin.val_zero, Fin.val_one, Fin.val_two, Fin.reduceFinMk, Nat.zero_add, hp_75, hp_76, hp_77, hp_78, hp_79, hp_80, hp_81, hp_82, hp_83, hp_84, hp_85, hp_86, hp_87, hp_88, hp_89, hp_90, hp_91, hp_92, hp_93, hp_94, hp_95, hp_96, hp_97, hp_98, og_75_0, og_75_1, og_75_2, og_75_3, og_75_4, og_75_5, og_75_6, og_75_7, og_75_8, og_75_9, og_75_10, og_75_11, og_75_12, og_75_13, og_75_14, og_75_15, og_75_16, og_75_17, og_75_18, og_75_19, og_75_20, og_75_21, og_75_22, og_75_23, og_75_24, og_75_25, og_75_26, og_75_27, og_75_28, og_75_29, og_75_30, og_75_31, og_75_32, og_75_33, og_75_34, og_75_35, og_75_36, og_75_37, og_75_38, og_75_39, og_75_40, og_75_41, ol_75, uo_75_4, uo_75_5, uo_75_6, uo_75_7, uo_75_11, uo_75_12, uo_75_13, uo_75_15, uo_75_19, uo_75_20, uo_75_21, uo_75_22, uo_75_23, uo_75_26, uo_75_30, uo_75_31, uo_75_32, uo_75_33, ua_76, ua_77, ua_78, ua_79, ua_80, ua_81, ua_82, ua_83, ua_84, ua_85, ua_86, ua_87, ua_88, ua_89, ua_90, ua_91, ua_92, ua_93, ua_94, ua_95, ua_96, ua_97, ua_98, sO_g, sA_g, sA_O, sO_A, sO_2, sM_1, sM_2, sM_3, sM_4, sM_5, sM_6, uc_75, nI_1, hcm, hcm1, hf m (by omega), hf (m + 1) (by omega), dec1, nu_fitI, nu_fitL, nu_fitO, nu_fitA, nu_fitB0, nu_fitB1]
        refine ⟨fun z => absurd z hpos, fun _ => ⟨vp_in_nI (by omega) (by omega), vp_in_nI (by omega) (by omega), fun z => absurd z (nI_ge (show p.getD (m + 1) 0 < p.getD m 0 by omega) (by omega)), fun _ => ih (by omega) ?_⟩⟩
        rw [drop_c (by omega)]
        refine List.pairwise_cons.mpr ⟨fun v hv' => ?_, hdes⟩
        rw [drop_c (by omega)] at hv' hdes
        rcases List.mem_cons.mp hv' with e | e
        · omega
        · have := (List.pairwise_cons.mp hdes).1 v e
          omega
  refine WM.of mi_143 rfl rfl (Nat.le_of_ble_eq_true rfl) ?_
  show WP (mm_rw mr_143) (some .boolean) tb (WM tb d) _ 0 [(0, vR 75)] [] (HP s) 0 0
  have e2 : nI n - 2 = nI (n - 1) - 1 := by
    rw [show (2 : Int32) = nI 2 from rfl, show (1 : Int32) = nI 1 from rfl, pk_sub (by omega), pk_sub (by omega)]
    congr 1
  (try simp only [Option.toList_some, Option.toList_none, List.nil_append, List.append_nil, List.cons_append, Nat.sub_zero, Nat.sub_self, Nat.zero_sub]); refine Go.wp sp_143 200 ?_; simp only [↓g143_0, ↓g143_1, ↓g143_4, ↓g143_5, ↓g143_6, ↓g143_7, ↓g143_8, ↓g143_11, ↓g143_12, ↓g143_15, ↓g143_16, ↓g143_16t, ↓g143_17, ↓g143_18, ↓g143_21, ↓g143_22, ↓g143_23, ↓g143_24, ↓g143_24t, ↓g143_25, ↓g143_28, ↓g143_31, ↓g143_34, ↓g143_35, ↓g143_38, ↓g143_39, ↓g143_40, ↓g143_41, ↓g143_44, ↓g143_45, ↓g143_46, ↓g143_47, ↓g143_48, ↓g143_51, ↓g143_52, ↓g143_52t, ↓g143_53, ↓g143_54, ↓g143_57, ↓g143_58, ↓g143_58t, ↓g143_59, ↓g143_62, ↓g143_65, ↓g143_68, ↓g143_69, ↓g143_72, ↓g143_73, ↓g143_73t, ↓g143_74, ↓g143_75, ↓g143_76, ↓g143_79, ↓g143_80, ↓g143_81, ↓g143_84, ↓g143_85, ↓g143_85t, ↓g143_86, ↓g143_87, ↓g143_88, ↓g143_91, ↓g143_92, ↓g143_93, ↓g143_94, ↓g143_95, ↓g143_97, ↓g143_98, ↓g143_99, ↓g143_100, ↓g143_102, ↓g143_103, ↓g143_104, ↓g143_107, ↓g143_108, ↓g143_109, ↓g143_111, ↓g143_112, ↓g143_115, ↓g143_116, ↓g143_119, ↓g143_120, ↓g143_121, ↓g143_122, ↓g143_124, ↓g143_125, ↓g143_125t, ↓g143_126, ↓g143_127, ↓g143_128, ↓g143_131, ↓g143_132, ↓g143_133, ↓g143_134, ↓g143_136, ↓g143_137, ↓g143_138, ↓g143_141, ↓g143_142, ↓g143_145, ↓g143_146, ↓g143_147, ↓g143_149, ↓g143_150, ↓g143_150t, ↓g143_151, ↓g143_152, ↓g143_153, ↓g143_156, ↓g143_157, ↓g143_160, ↓g143_161, ↓g143_162, ↓g143_164, ↓g143_165, ↓g143_166, ↓g143_167, ↓g143_170, ↓g143_173, ↓g143_174, ↓Go_s, ↓GoC_a, ↓reduceIte, ↓mm_call_eq, ↓mmw_nil, ↓mmw_cons, List.take_succ_cons, List.take_zero, List.take_nil, List.drop_succ_cons, List.drop_zero, List.drop_nil, List.reverse_cons, List.reverse_nil, List.nil_append, List.cons_append, List.append_nil, Option.toList_some, Option.toList_none, Nat.sub_zero, Nat.le_refl, mmr_cons, mm_st1, mm_st2, mmi_nil, mmi_cons, mmc_I, mmc_L, mmc_R, mmu_get, mmu_one, mma_get, mma_one, List.filter_cons, List.filter_nil, List.contains_cons, List.contains_nil, Nat.reduceBEq, Nat.reduceAdd, Nat.reduceLT, Nat.reduceSub, Nat.reduceLeDiff, Nat.reduceEqDiff, Int32.reduceAdd, Bool.not_true, Bool.not_false, Bool.and_true, Bool.true_and, Bool.and_false, Bool.false_and, Bool.or_false, Bool.false_or, Bool.or_true, Bool.true_or, if_true, if_false, ite_true, ite_false, Bool.false_eq_true, List.getElem?_cons_zero, List.getElem?_cons_succ, List.length_cons, List.length_nil, true_and, and_true, List.set_cons_zero, List.set_cons_succ, Fin.isValue, Fin.val_zero, Fin.val_one, Fin.val_two, Fin.reduceFinMk, Nat.zero_add, hp_75, hp_76, hp_77, hp_78, hp_79, hp_80, hp_81, hp_82, hp_83, hp_84, hp_85, hp_86, hp_87, hp_88, hp_89, hp_90, hp_91, hp_92, hp_93, hp_94, hp_95, hp_96, hp_97, hp_98, og_75_0, og_75_1, og_75_2, og_75_3, og_75_4, og_75_5, og_75_6, og_75_7, og_75_8, og_75_9, og_75_10, og_75_11, og_75_12, og_75_13, og_75_14, og_75_15, og_75_16, og_75_17, og_75_18, og_75_19, og_75_20, og_75_21, og_75_22, og_75_23, og_75_24, og_75_25, og_75_26, og_75_27, og_75_28, og_75_29, og_75_30, og_75_31, og_75_32, og_75_33, og_75_34, og_75_35, og_75_36, og_75_37, og_75_38, og_75_39, og_75_40, og_75_41, ol_75, uo_75_4, uo_75_5, uo_75_6, uo_75_7, uo_75_11, uo_75_12, uo_75_13, uo_75_15, uo_75_19, uo_75_20, uo_75_21, uo_75_22, uo_75_23, uo_75_26, uo_75_30, uo_75_31, uo_75_32, uo_75_33, ua_76, ua_77, ua_78, ua_79, ua_80, ua_81, ua_82, ua_83, ua_84, ua_85, ua_86, ua_87, ua_88, ua_89, ua_90, ua_91, ua_92, ua_93, ua_94, ua_95, ua_96, ua_97, ua_98, sO_g, sA_g, sA_O, sO_A, sO_2, sM_1, sM_2, sM_3, sM_4, sM_5, sM_6, uc_75, h11, e2, nu_fitI, nu_fitL, nu_fitO, nu_fitA, nu_fitB0, nu_fitB1]
  refine up (n - 1) (by omega) ?_
  rw [drop_c (by omega), List.drop_of_length_le (by omega)]
  exact List.pairwise_singleton _ _
end GOON
