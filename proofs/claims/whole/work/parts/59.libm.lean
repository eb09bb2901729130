/-! reading: the model -/
abbrev sp_102 : List Nat := [46]
section G102
variable {tb : Nat → Nat × (Nat → Int32)} {call : CO} {Q : AQ} {C : CP} {lv : AL} {st : List AV} {h : AH} {kc ks : Nat}
theorem g102_0  : mm_step (mm_rw mr_102) (some .int) tb call Q C 0 lv st h kc ks = (match mm_rd lv 0 with
    | some (.inr (.inr (.inl (some k)))) => C 1 lv (vR k :: st) h kc ks
    | some (.inr (.inr (.inr t))) => C 1 lv (vT t :: st) h kc ks
    | _ => False) := rfl
theorem g102_1 (k : Nat) : mm_step (mm_rw mr_102) (some .int) tb call Q C 1 lv (.inr (.inr (.inl (some k))) :: st) h kc ks = (match h.2 k with
    | some (.inr (.inr (ci, fs))) => ci = 8 ∧ (match fs[21]? with
      | some v => C 4 lv (v :: st) h kc ks
      | none => False)
    | _ => False) := rfl
theorem g102_4  : mm_step (mm_rw mr_102) (some .int) tb call Q C 4 lv st h kc ks = (C 6 lv (vI (mI 9) :: st) h kc ks) := rfl
theorem g102_6 (a b : Int32) : mm_step (mm_rw mr_102) (some .int) tb call Q C 6 lv (.inl b :: .inl a :: st) h kc ks = ((¬ a = b → C 35 lv st h kc ks) ∧ (a = b → C 9 lv st h kc ks)) := rfl
theorem g102_9  : mm_step (mm_rw mr_102) (some .int) tb call Q C 9 lv st h kc ks = (match mm_rd lv 0 with
    | some (.inr (.inr (.inl (some k)))) => C 10 lv (vR k :: st) h kc ks
    | some (.inr (.inr (.inr t))) => C 10 lv (vT t :: st) h kc ks
    | _ => False) := rfl
theorem g102_10 (k : Nat) : mm_step (mm_rw mr_102) (some .int) tb call Q C 10 lv (.inr (.inr (.inl (some k))) :: st) h kc ks = (match h.2 k with
    | some (.inr (.inr (ci, fs))) => ci = 8 ∧ (match fs[20]? with
      | some v => C 13 lv (v :: st) h kc ks
      | none => False)
    | _ => False) := rfl
theorem g102_13  : mm_step (mm_rw mr_102) (some .int) tb call Q C 13 lv st h kc ks = (match mm_rd lv 0 with
    | some (.inr (.inr (.inl (some k)))) => C 14 lv (vR k :: st) h kc ks
    | some (.inr (.inr (.inr t))) => C 14 lv (vT t :: st) h kc ks
    | _ => False) := rfl
theorem g102_14 (k : Nat) : mm_step (mm_rw mr_102) (some .int) tb call Q C 14 lv (.inr (.inr (.inl (some k))) :: st) h kc ks = (match h.2 k with
    | some (.inr (.inr (ci, fs))) => ci = 8 ∧ (match fs[19]? with
      | some v => C 17 lv (v :: st) h kc ks
      | none => False)
    | _ => False) := rfl
theorem g102_17 (a b : Int32) : mm_step (mm_rw mr_102) (some .int) tb call Q C 17 lv (.inl b :: .inl a :: st) h kc ks = ((b ≤ a → C 35 lv st h kc ks) ∧ (¬ b ≤ a → C 20 lv st h kc ks)) := rfl
theorem g102_20  : mm_step (mm_rw mr_102) (some .int) tb call Q C 20 lv st h kc ks = (match mm_rd lv 0 with
    | some (.inr (.inr (.inl (some k)))) => C 21 lv (vR k :: st) h kc ks
    | some (.inr (.inr (.inr t))) => C 21 lv (vT t :: st) h kc ks
    | _ => False) := rfl
theorem g102_21 (k : Nat) : mm_step (mm_rw mr_102) (some .int) tb call Q C 21 lv (.inr (.inr (.inl (some k))) :: st) h kc ks = (match h.2 k with
    | some (.inr (.inr (ci, fs))) => ci = 8 ∧ (match fs[18]? with
      | some v => C 24 lv (v :: st) h kc ks
      | none => False)
    | _ => False) := rfl
theorem g102_24  : mm_step (mm_rw mr_102) (some .int) tb call Q C 24 lv st h kc ks = (match mm_rd lv 0 with
    | some (.inr (.inr (.inl (some k)))) => C 25 lv (vR k :: st) h kc ks
    | some (.inr (.inr (.inr t))) => C 25 lv (vT t :: st) h kc ks
    | _ => False) := rfl
theorem g102_25 (k : Nat) : mm_step (mm_rw mr_102) (some .int) tb call Q C 25 lv (.inr (.inr (.inl (some k))) :: st) h kc ks = (match h.2 k with
    | some (.inr (.inr (ci, fs))) => ci = 8 ∧ (match fs[20]? with
      | some v => C 28 lv (v :: st) h kc ks
      | none => False)
    | _ => False) := rfl
theorem g102_28 (i : Int32) (k : Nat) : mm_step (mm_rw mr_102) (some .int) tb call Q C 28 lv (.inl i :: .inr (.inr (.inl (some k))) :: st) h kc ks = (match h.2 k with
    | some (.inl (.int, n, f)) => vp_in i n ∧ C 29 lv (vI (f i.toNatClampNeg) :: st) h kc ks
    | _ => False) := rfl
theorem g102_28t (i : Int32) (t : Nat) : mm_step (mm_rw mr_102) (some .int) tb call Q C 28 lv (.inl i :: .inr (.inr (.inr t)) :: st) h kc ks = (vp_in i (tb t).1 ∧ C 29 lv (vI ((tb t).2 i.toNatClampNeg) :: st) h kc ks) := rfl
theorem g102_29  : mm_step (mm_rw mr_102) (some .int) tb call Q C 29 lv st h kc ks = (C 31 lv (vI 48 :: st) h kc ks) := rfl
theorem g102_31 (a b : Int32) : mm_step (mm_rw mr_102) (some .int) tb call Q C 31 lv (.inl b :: .inl a :: st) h kc ks = (C 32 lv (vI (a - b) :: st) h kc ks) := rfl
theorem g102_32  : mm_step (mm_rw mr_102) (some .int) tb call Q C 32 lv st h kc ks = (C 36 lv st h kc ks) := rfl
theorem g102_35  : mm_step (mm_rw mr_102) (some .int) tb call Q C 35 lv st h kc ks = (C 36 lv (vI (mI 1) :: st) h kc ks) := rfl
theorem g102_36 (a : Int32) : mm_step (mm_rw mr_102) (some .int) tb call Q C 36 lv (.inl a :: st) h kc ks = (C 37 (mm_st1 lv 2 (vI a)) st h kc ks) := rfl
theorem g102_37  : mm_step (mm_rw mr_102) (some .int) tb call Q C 37 lv st h kc ks = (match mm_rd lv 2 with
    | some (.inl a) => C 38 lv (vI a :: st) h kc ks
    | _ => False) := rfl
theorem g102_38 (a : Int32) : mm_step (mm_rw mr_102) (some .int) tb call Q C 38 lv (.inl a :: st) h kc ks = (C 39 lv (vL a.toInt64 :: st) h kc ks) := rfl
theorem g102_39  : mm_step (mm_rw mr_102) (some .int) tb call Q C 39 lv st h kc ks = (C 40 lv (vL 0 :: st) h kc ks) := rfl
theorem g102_40  : mm_step (mm_rw mr_102) (some .int) tb call Q C 40 lv st h kc ks = (C 43 lv (vL 9 :: st) h kc ks) := rfl
theorem g102_43  : mm_step (mm_rw mr_102) (some .int) tb call Q C 43 lv st h kc ks = (mm_call call C 99 3 43 lv st h kc ks) := rfl
theorem g102_46 (a : Int32) : mm_step (mm_rw mr_102) (some .int) tb call Q C 46 lv (.inl a :: st) h kc ks = ((a = 0 → C 57 lv st h kc ks) ∧ (¬ a = 0 → C 49 lv st h kc ks)) := rfl
theorem g102_49  : mm_step (mm_rw mr_102) (some .int) tb call Q C 49 lv st h kc ks = (match mm_rd lv 1 with
    | some (.inl a) => C 50 lv (vI a :: st) h kc ks
    | _ => False) := rfl
theorem g102_50  : mm_step (mm_rw mr_102) (some .int) tb call Q C 50 lv st h kc ks = (match mm_rd lv 2 with
    | some (.inl a) => C 51 lv (vI a :: st) h kc ks
    | _ => False) := rfl
theorem g102_51 (a b : Int32) : mm_step (mm_rw mr_102) (some .int) tb call Q C 51 lv (.inl b :: .inl a :: st) h kc ks = (C 52 lv (vI (a >>> (b &&& 31)) :: st) h kc ks) := rfl
theorem g102_52  : mm_step (mm_rw mr_102) (some .int) tb call Q C 52 lv st h kc ks = (C 53 lv (vI 1 :: st) h kc ks) := rfl
theorem g102_53 (a b : Int32) : mm_step (mm_rw mr_102) (some .int) tb call Q C 53 lv (.inl b :: .inl a :: st) h kc ks = (C 54 lv (vI (a &&& b) :: st) h kc ks) := rfl
theorem g102_54 (a : Int32) : mm_step (mm_rw mr_102) (some .int) tb call Q C 54 lv (.inl a :: st) h kc ks = ((¬ a = 0 → C 83 lv st h kc ks) ∧ (a = 0 → C 57 lv st h kc ks)) := rfl
theorem g102_57  : mm_step (mm_rw mr_102) (some .int) tb call Q C 57 lv st h kc ks = (match mm_rd lv 0 with
    | some (.inr (.inr (.inl (some k)))) => C 58 lv (vR k :: st) h kc ks
    | some (.inr (.inr (.inr t))) => C 58 lv (vT t :: st) h kc ks
    | _ => False) := rfl
theorem g102_58  : mm_step (mm_rw mr_102) (some .int) tb call Q C 58 lv st h kc ks = (match mm_rd lv 0 with
    | some (.inr (.inr (.inl (some k)))) => C 59 lv (vR k :: st) h kc ks
    | some (.inr (.inr (.inr t))) => C 59 lv (vT t :: st) h kc ks
    | _ => False) := rfl
theorem g102_59 (k : Nat) : mm_step (mm_rw mr_102) (some .int) tb call Q C 59 lv (.inr (.inr (.inl (some k))) :: st) h kc ks = (match h.2 k with
    | some (.inr (.inr (ci, fs))) => ci = 8 ∧ (match fs[21]? with
      | some v => C 62 lv (v :: st) h kc ks
      | none => False)
    | _ => False) := rfl
theorem g102_62  : mm_step (mm_rw mr_102) (some .int) tb call Q C 62 lv st h kc ks = (C 64 lv (vI (mI 9) :: st) h kc ks) := rfl
theorem g102_64 (a b : Int32) : mm_step (mm_rw mr_102) (some .int) tb call Q C 64 lv (.inl b :: .inl a :: st) h kc ks = ((¬ a = b → C 74 lv st h kc ks) ∧ (a = b → C 67 lv st h kc ks)) := rfl
theorem g102_67  : mm_step (mm_rw mr_102) (some .int) tb call Q C 67 lv st h kc ks = (match mm_rd lv 0 with
    | some (.inr (.inr (.inl (some k)))) => C 68 lv (vR k :: st) h kc ks
    | some (.inr (.inr (.inr t))) => C 68 lv (vT t :: st) h kc ks
    | _ => False) := rfl
theorem g102_68 (k : Nat) : mm_step (mm_rw mr_102) (some .int) tb call Q C 68 lv (.inr (.inr (.inl (some k))) :: st) h kc ks = (match h.2 k with
    | some (.inr (.inr (ci, fs))) => ci = 8 ∧ (match fs[20]? with
      | some v => C 71 lv (v :: st) h kc ks
      | none => False)
    | _ => False) := rfl
theorem g102_71  : mm_step (mm_rw mr_102) (some .int) tb call Q C 71 lv st h kc ks = (C 78 lv st h kc ks) := rfl
theorem g102_74  : mm_step (mm_rw mr_102) (some .int) tb call Q C 74 lv st h kc ks = (match mm_rd lv 0 with
    | some (.inr (.inr (.inl (some k)))) => C 75 lv (vR k :: st) h kc ks
    | some (.inr (.inr (.inr t))) => C 75 lv (vT t :: st) h kc ks
    | _ => False) := rfl
theorem g102_75 (k : Nat) : mm_step (mm_rw mr_102) (some .int) tb call Q C 75 lv (.inr (.inr (.inl (some k))) :: st) h kc ks = (match h.2 k with
    | some (.inr (.inr (ci, fs))) => ci = 8 ∧ (match fs[21]? with
      | some v => C 78 lv (v :: st) h kc ks
      | none => False)
    | _ => False) := rfl
theorem g102_78 (v : AV) (k : Nat) : mm_step (mm_rw mr_102) (some .int) tb call Q C 78 lv (v :: .inr (.inr (.inl (some k))) :: st) h kc ks = (match h.2 k with
    | some (.inr (.inr (ci, fs))) => ci = 8 ∧ 21 < fs.length ∧ mm_fit (mm_ft 8 21) v ∧ C 81 lv st (mm_up h k (cO ci (fs.set 21 v))) kc ks
    | _ => False) := rfl
theorem g102_81  : mm_step (mm_rw mr_102) (some .int) tb call Q C 81 lv st h kc ks = (C 82 lv (vI 0 :: st) h kc ks) := rfl
theorem g102_82 (v : Int32) : mm_step (mm_rw mr_102) (some .int) tb call Q C 82 lv [.inl v] h kc ks = (True ∧ Q (some (vI v)) h) := rfl
theorem g102_83  : mm_step (mm_rw mr_102) (some .int) tb call Q C 83 lv st h kc ks = (match mm_rd lv 0 with
    | some (.inr (.inr (.inl (some k)))) => C 84 lv (vR k :: st) h kc ks
    | some (.inr (.inr (.inr t))) => C 84 lv (vT t :: st) h kc ks
    | _ => False) := rfl
theorem g102_84 (v : AV) : mm_step (mm_rw mr_102) (some .int) tb call Q C 84 lv (v :: st) h kc ks = (mm_c2 v = false ∧ C 85 lv (v :: v :: st) h kc ks) := rfl
theorem g102_85 (k : Nat) : mm_step (mm_rw mr_102) (some .int) tb call Q C 85 lv (.inr (.inr (.inl (some k))) :: st) h kc ks = (match h.2 k with
    | some (.inr (.inr (ci, fs))) => ci = 8 ∧ (match fs[20]? with
      | some v => C 88 lv (v :: st) h kc ks
      | none => False)
    | _ => False) := rfl
theorem g102_88  : mm_step (mm_rw mr_102) (some .int) tb call Q C 88 lv st h kc ks = (C 89 lv (vI 1 :: st) h kc ks) := rfl
theorem g102_89 (a b : Int32) : mm_step (mm_rw mr_102) (some .int) tb call Q C 89 lv (.inl b :: .inl a :: st) h kc ks = (C 90 lv (vI (a + b) :: st) h kc ks) := rfl
theorem g102_90 (v : AV) (k : Nat) : mm_step (mm_rw mr_102) (some .int) tb call Q C 90 lv (v :: .inr (.inr (.inl (some k))) :: st) h kc ks = (match h.2 k with
    | some (.inr (.inr (ci, fs))) => ci = 8 ∧ 20 < fs.length ∧ mm_fit (mm_ft 8 20) v ∧ C 93 lv st (mm_up h k (cO ci (fs.set 20 v))) kc ks
    | _ => False) := rfl
theorem g102_93  : mm_step (mm_rw mr_102) (some .int) tb call Q C 93 lv st h kc ks = (match mm_rd lv 2 with
    | some (.inl a) => C 94 lv (vI a :: st) h kc ks
    | _ => False) := rfl
theorem g102_94 (v : Int32) : mm_step (mm_rw mr_102) (some .int) tb call Q C 94 lv [.inl v] h kc ks = (True ∧ Q (some (vI v)) h) := rfl
end G102

abbrev sp_103 : List Nat := [53, 64, 78, 96, 128, 161]
section G103
variable {tb : Nat → Nat × (Nat → Int32)} {call : CO} {Q : AQ} {C : CP} {lv : AL} {st : List AV} {h : AH} {kc ks : Nat}
theorem g103_0  : mm_step (mm_rw mr_103) (some .int) tb call Q C 0 lv st h kc ks = (match mm_rd lv 0 with
    | some (.inr (.inr (.inl (some k)))) => C 1 lv (vR k :: st) h kc ks
    | some (.inr (.inr (.inr t))) => C 1 lv (vT t :: st) h kc ks
    | _ => False) := rfl
theorem g103_1  : mm_step (mm_rw mr_103) (some .int) tb call Q C 1 lv st h kc ks = (C 2 lv (vI 0 :: st) h kc ks) := rfl
theorem g103_2 (v : AV) (k : Nat) : mm_step (mm_rw mr_103) (some .int) tb call Q C 2 lv (v :: .inr (.inr (.inl (some k))) :: st) h kc ks = (match h.2 k with
    | some (.inr (.inr (ci, fs))) => ci = 8 ∧ 20 < fs.length ∧ mm_fit (mm_ft 8 20) v ∧ C 5 lv st (mm_up h k (cO ci (fs.set 20 v))) kc ks
    | _ => False) := rfl
theorem g103_5  : mm_step (mm_rw mr_103) (some .int) tb call Q C 5 lv st h kc ks = (match mm_rd lv 0 with
    | some (.inr (.inr (.inl (some k)))) => C 6 lv (vR k :: st) h kc ks
    | some (.inr (.inr (.inr t))) => C 6 lv (vT t :: st) h kc ks
    | _ => False) := rfl
theorem g103_6  : mm_step (mm_rw mr_103) (some .int) tb call Q C 6 lv st h kc ks = (C 8 lv (vI (mI 9) :: st) h kc ks) := rfl
theorem g103_8 (v : AV) (k : Nat) : mm_step (mm_rw mr_103) (some .int) tb call Q C 8 lv (v :: .inr (.inr (.inl (some k))) :: st) h kc ks = (match h.2 k with
    | some (.inr (.inr (ci, fs))) => ci = 8 ∧ 21 < fs.length ∧ mm_fit (mm_ft 8 21) v ∧ C 11 lv st (mm_up h k (cO ci (fs.set 21 v))) kc ks
    | _ => False) := rfl
theorem g103_11  : mm_step (mm_rw mr_103) (some .int) tb call Q C 11 lv st h kc ks = (match mm_rd lv 0 with
    | some (.inr (.inr (.inl (some k)))) => C 12 lv (vR k :: st) h kc ks
    | some (.inr (.inr (.inr t))) => C 12 lv (vT t :: st) h kc ks
    | _ => False) := rfl
theorem g103_12  : mm_step (mm_rw mr_103) (some .int) tb call Q C 12 lv st h kc ks = (C 13 lv (vI 0 :: st) h kc ks) := rfl
theorem g103_13 (v : AV) (k : Nat) : mm_step (mm_rw mr_103) (some .int) tb call Q C 13 lv (v :: .inr (.inr (.inl (some k))) :: st) h kc ks = (match h.2 k with
    | some (.inr (.inr (ci, fs))) => ci = 8 ∧ 5 < fs.length ∧ mm_fit (mm_ft 8 5) v ∧ C 16 lv st (mm_up h k (cO ci (fs.set 5 v))) kc ks
    | _ => False) := rfl
theorem g103_16  : mm_step (mm_rw mr_103) (some .int) tb call Q C 16 lv st h kc ks = (match mm_rd lv 0 with
    | some (.inr (.inr (.inl (some k)))) => C 17 lv (vR k :: st) h kc ks
    | some (.inr (.inr (.inr t))) => C 17 lv (vT t :: st) h kc ks
    | _ => False) := rfl
theorem g103_17  : mm_step (mm_rw mr_103) (some .int) tb call Q C 17 lv st h kc ks = (C 18 lv (vI 0 :: st) h kc ks) := rfl
theorem g103_18 (v : AV) (k : Nat) : mm_step (mm_rw mr_103) (some .int) tb call Q C 18 lv (v :: .inr (.inr (.inl (some k))) :: st) h kc ks = (match h.2 k with
    | some (.inr (.inr (ci, fs))) => ci = 8 ∧ 7 < fs.length ∧ mm_fit (mm_ft 8 7) v ∧ C 21 lv st (mm_up h k (cO ci (fs.set 7 v))) kc ks
    | _ => False) := rfl
theorem g103_21  : mm_step (mm_rw mr_103) (some .int) tb call Q C 21 lv st h kc ks = (match mm_rd lv 0 with
    | some (.inr (.inr (.inl (some k)))) => C 22 lv (vR k :: st) h kc ks
    | some (.inr (.inr (.inr t))) => C 22 lv (vT t :: st) h kc ks
    | _ => False) := rfl
theorem g103_22 (k : Nat) : mm_step (mm_rw mr_103) (some .int) tb call Q C 22 lv (.inr (.inr (.inl (some k))) :: st) h kc ks = (match h.2 k with
    | some (.inr (.inr (ci, fs))) => ci = 8 ∧ (match fs[19]? with
      | some v => C 25 lv (v :: st) h kc ks
      | none => False)
    | _ => False) := rfl
theorem g103_25 (a : Int32) : mm_step (mm_rw mr_103) (some .int) tb call Q C 25 lv (.inl a :: st) h kc ks = ((a = 0 → C 39 lv st h kc ks) ∧ (¬ a = 0 → C 28 lv st h kc ks)) := rfl
theorem g103_28  : mm_step (mm_rw mr_103) (some .int) tb call Q C 28 lv st h kc ks = (match mm_rd lv 0 with
    | some (.inr (.inr (.inl (some k)))) => C 29 lv (vR k :: st) h kc ks
    | some (.inr (.inr (.inr t))) => C 29 lv (vT t :: st) h kc ks
    | _ => False) := rfl
theorem g103_29 (k : Nat) : mm_step (mm_rw mr_103) (some .int) tb call Q C 29 lv (.inr (.inr (.inl (some k))) :: st) h kc ks = (match h.2 k with
    | some (.inr (.inr (ci, fs))) => ci = 8 ∧ (match fs[18]? with
      | some v => C 32 lv (v :: st) h kc ks
      | none => False)
    | _ => False) := rfl
theorem g103_32  : mm_step (mm_rw mr_103) (some .int) tb call Q C 32 lv st h kc ks = (C 33 lv (vI 0 :: st) h kc ks) := rfl
theorem g103_33 (i : Int32) (k : Nat) : mm_step (mm_rw mr_103) (some .int) tb call Q C 33 lv (.inl i :: .inr (.inr (.inl (some k))) :: st) h kc ks = (match h.2 k with
    | some (.inl (.int, n, f)) => vp_in i n ∧ C 34 lv (vI (f i.toNatClampNeg) :: st) h kc ks
    | _ => False) := rfl
theorem g103_33t (i : Int32) (t : Nat) : mm_step (mm_rw mr_103) (some .int) tb call Q C 33 lv (.inl i :: .inr (.inr (.inr t)) :: st) h kc ks = (vp_in i (tb t).1 ∧ C 34 lv (vI ((tb t).2 i.toNatClampNeg) :: st) h kc ks) := rfl
theorem g103_34  : mm_step (mm_rw mr_103) (some .int) tb call Q C 34 lv st h kc ks = (C 36 lv (vI 76 :: st) h kc ks) := rfl
theorem g103_36 (a b : Int32) : mm_step (mm_rw mr_103) (some .int) tb call Q C 36 lv (.inl b :: .inl a :: st) h kc ks = ((a = b → C 41 lv st h kc ks) ∧ (¬ a = b → C 39 lv st h kc ks)) := rfl
theorem g103_39  : mm_step (mm_rw mr_103) (some .int) tb call Q C 39 lv st h kc ks = (C 40 lv (vI 0 :: st) h kc ks) := rfl
theorem g103_40 (v : Int32) : mm_step (mm_rw mr_103) (some .int) tb call Q C 40 lv [.inl v] h kc ks = (True ∧ Q (some (vI v)) h) := rfl
theorem g103_41  : mm_step (mm_rw mr_103) (some .int) tb call Q C 41 lv st h kc ks = (match mm_rd lv 0 with
    | some (.inr (.inr (.inl (some k)))) => C 42 lv (vR k :: st) h kc ks
    | some (.inr (.inr (.inr t))) => C 42 lv (vT t :: st) h kc ks
    | _ => False) := rfl
theorem g103_42  : mm_step (mm_rw mr_103) (some .int) tb call Q C 42 lv st h kc ks = (C 43 lv (vI 1 :: st) h kc ks) := rfl
theorem g103_43 (v : AV) (k : Nat) : mm_step (mm_rw mr_103) (some .int) tb call Q C 43 lv (v :: .inr (.inr (.inl (some k))) :: st) h kc ks = (match h.2 k with
    | some (.inr (.inr (ci, fs))) => ci = 8 ∧ 20 < fs.length ∧ mm_fit (mm_ft 8 20) v ∧ C 46 lv st (mm_up h k (cO ci (fs.set 20 v))) kc ks
    | _ => False) := rfl
theorem g103_46  : mm_step (mm_rw mr_103) (some .int) tb call Q C 46 lv st h kc ks = (match mm_rd lv 0 with
    | some (.inr (.inr (.inl (some k)))) => C 47 lv (vR k :: st) h kc ks
    | some (.inr (.inr (.inr t))) => C 47 lv (vT t :: st) h kc ks
    | _ => False) := rfl
theorem g103_47  : mm_step (mm_rw mr_103) (some .int) tb call Q C 47 lv st h kc ks = (match mm_rd lv 0 with
    | some (.inr (.inr (.inl (some k)))) => C 48 lv (vR k :: st) h kc ks
    | some (.inr (.inr (.inr t))) => C 48 lv (vT t :: st) h kc ks
    | _ => False) := rfl
theorem g103_48  : mm_step (mm_rw mr_103) (some .int) tb call Q C 48 lv st h kc ks = (C 50 lv (vI 7 :: st) h kc ks) := rfl
theorem g103_50  : mm_step (mm_rw mr_103) (some .int) tb call Q C 50 lv st h kc ks = ((match (st.take 2).reverse with
    | .inr (.inr (.inl (some k))) :: _ => (match h.2 k with
      | some (.inr (.inr (ci, _))) => mm_cn ci = (mm_mi 102).1.cls
      | _ => False)
    | _ => False) ∧ mm_call call C 102 2 50 lv st h kc ks) := rfl
theorem g103_53 (v : AV) (k : Nat) : mm_step (mm_rw mr_103) (some .int) tb call Q C 53 lv (v :: .inr (.inr (.inl (some k))) :: st) h kc ks = (match h.2 k with
    | some (.inr (.inr (ci, fs))) => ci = 8 ∧ 6 < fs.length ∧ mm_fit (mm_ft 8 6) v ∧ C 56 lv st (mm_up h k (cO ci (fs.set 6 v))) kc ks
    | _ => False) := rfl
theorem g103_56  : mm_step (mm_rw mr_103) (some .int) tb call Q C 56 lv st h kc ks = (match mm_rd lv 0 with
    | some (.inr (.inr (.inl (some k)))) => C 57 lv (vR k :: st) h kc ks
    | some (.inr (.inr (.inr t))) => C 57 lv (vT t :: st) h kc ks
    | _ => False) := rfl
theorem g103_57  : mm_step (mm_rw mr_103) (some .int) tb call Q C 57 lv st h kc ks = (match mm_rd lv 0 with
    | some (.inr (.inr (.inl (some k)))) => C 58 lv (vR k :: st) h kc ks
    | some (.inr (.inr (.inr t))) => C 58 lv (vT t :: st) h kc ks
    | _ => False) := rfl
theorem g103_58  : mm_step (mm_rw mr_103) (some .int) tb call Q C 58 lv st h kc ks = (C 61 lv (vI 508 :: st) h kc ks) := rfl
theorem g103_61  : mm_step (mm_rw mr_103) (some .int) tb call Q C 61 lv st h kc ks = ((match (st.take 2).reverse with
    | .inr (.inr (.inl (some k))) :: _ => (match h.2 k with
      | some (.inr (.inr (ci, _))) => mm_cn ci = (mm_mi 102).1.cls
      | _ => False)
    | _ => False) ∧ mm_call call C 102 2 61 lv st h kc ks) := rfl
theorem g103_64 (v : AV) (k : Nat) : mm_step (mm_rw mr_103) (some .int) tb call Q C 64 lv (v :: .inr (.inr (.inl (some k))) :: st) h kc ks = (match h.2 k with
    | some (.inr (.inr (ci, fs))) => ci = 8 ∧ 4 < fs.length ∧ mm_fit (mm_ft 8 4) v ∧ C 67 lv st (mm_up h k (cO ci (fs.set 4 v))) kc ks
    | _ => False) := rfl
theorem g103_67  : mm_step (mm_rw mr_103) (some .int) tb call Q C 67 lv st h kc ks = (C 68 lv (vI 1 :: st) h kc ks) := rfl
theorem g103_68  : mm_step (mm_rw mr_103) (some .int) tb call Q C 68 lv st h kc ks = (match mm_rd lv 0 with
    | some (.inr (.inr (.inl (some k)))) => C 69 lv (vR k :: st) h kc ks
    | some (.inr (.inr (.inr t))) => C 69 lv (vT t :: st) h kc ks
    | _ => False) := rfl
theorem g103_69 (k : Nat) : mm_step (mm_rw mr_103) (some .int) tb call Q C 69 lv (.inr (.inr (.inl (some k))) :: st) h kc ks = (match h.2 k with
    | some (.inr (.inr (ci, fs))) => ci = 8 ∧ (match fs[4]? with
      | some v => C 72 lv (v :: st) h kc ks
      | none => False)
    | _ => False) := rfl
theorem g103_72 (a b : Int32) : mm_step (mm_rw mr_103) (some .int) tb call Q C 72 lv (.inl b :: .inl a :: st) h kc ks = (C 73 lv (vI (a <<< (b &&& 31)) :: st) h kc ks) := rfl
theorem g103_73  : mm_step (mm_rw mr_103) (some .int) tb call Q C 73 lv st h kc ks = (C 74 lv (vI 1 :: st) h kc ks) := rfl
theorem g103_74 (a b : Int32) : mm_step (mm_rw mr_103) (some .int) tb call Q C 74 lv (.inl b :: .inl a :: st) h kc ks = (C 75 lv (vI (a - b) :: st) h kc ks) := rfl
theorem g103_75 (a : Int32) : mm_step (mm_rw mr_103) (some .int) tb call Q C 75 lv (.inl a :: st) h kc ks = (C 76 (mm_st1 lv 1 (vI a)) st h kc ks) := rfl
theorem g103_76  : mm_step (mm_rw mr_103) (some .int) tb call Q C 76 lv st h kc ks = (C 77 lv (vI 0 :: st) h kc ks) := rfl
theorem g103_77 (a : Int32) : mm_step (mm_rw mr_103) (some .int) tb call Q C 77 lv (.inl a :: st) h kc ks = (C 78 (mm_st1 lv 2 (vI a)) st h kc ks) := rfl
theorem g103_78  : mm_step (mm_rw mr_103) (some .int) tb call Q C 78 lv st h kc ks = (match mm_rd lv 2 with
    | some (.inl a) => C 79 lv (vI a :: st) h kc ks
    | _ => False) := rfl
theorem g103_79  : mm_step (mm_rw mr_103) (some .int) tb call Q C 79 lv st h kc ks = (match mm_rd lv 0 with
    | some (.inr (.inr (.inl (some k)))) => C 80 lv (vR k :: st) h kc ks
    | some (.inr (.inr (.inr t))) => C 80 lv (vT t :: st) h kc ks
    | _ => False) := rfl
theorem g103_80 (k : Nat) : mm_step (mm_rw mr_103) (some .int) tb call Q C 80 lv (.inr (.inr (.inl (some k))) :: st) h kc ks = (match h.2 k with
    | some (.inr (.inr (ci, fs))) => ci = 8 ∧ (match fs[4]? with
      | some v => C 83 lv (v :: st) h kc ks
      | none => False)
    | _ => False) := rfl
theorem g103_83 (a b : Int32) : mm_step (mm_rw mr_103) (some .int) tb call Q C 83 lv (.inl b :: .inl a :: st) h kc ks = ((b ≤ a → C 128 lv st h kc ks) ∧ (¬ b ≤ a → C 86 lv st h kc ks)) := rfl
theorem g103_86  : mm_step (mm_rw mr_103) (some .int) tb call Q C 86 lv st h kc ks = (match mm_rd lv 0 with
    | some (.inr (.inr (.inl (some k)))) => C 87 lv (vR k :: st) h kc ks
    | some (.inr (.inr (.inr t))) => C 87 lv (vT t :: st) h kc ks
    | _ => False) := rfl
theorem g103_87 (k : Nat) : mm_step (mm_rw mr_103) (some .int) tb call Q C 87 lv (.inr (.inr (.inl (some k))) :: st) h kc ks = (match h.2 k with
    | some (.inr (.inr (ci, fs))) => ci = 8 ∧ (match fs[0]? with
      | some v => C 90 lv (v :: st) h kc ks
      | none => False)
    | _ => False) := rfl
theorem g103_90  : mm_step (mm_rw mr_103) (some .int) tb call Q C 90 lv st h kc ks = (match mm_rd lv 2 with
    | some (.inl a) => C 91 lv (vI a :: st) h kc ks
    | _ => False) := rfl
theorem g103_91  : mm_step (mm_rw mr_103) (some .int) tb call Q C 91 lv st h kc ks = (match mm_rd lv 0 with
    | some (.inr (.inr (.inl (some k)))) => C 92 lv (vR k :: st) h kc ks
    | some (.inr (.inr (.inr t))) => C 92 lv (vT t :: st) h kc ks
    | _ => False) := rfl
theorem g103_92  : mm_step (mm_rw mr_103) (some .int) tb call Q C 92 lv st h kc ks = (match mm_rd lv 1 with
    | some (.inl a) => C 93 lv (vI a :: st) h kc ks
    | _ => False) := rfl
theorem g103_93  : mm_step (mm_rw mr_103) (some .int) tb call Q C 93 lv st h kc ks = ((match (st.take 2).reverse with
    | .inr (.inr (.inl (some k))) :: _ => (match h.2 k with
      | some (.inr (.inr (ci, _))) => mm_cn ci = (mm_mi 102).1.cls
      | _ => False)
    | _ => False) ∧ mm_call call C 102 2 93 lv st h kc ks) := rfl
theorem g103_96 (v i : Int32) (k : Nat) : mm_step (mm_rw mr_103) (some .int) tb call Q C 96 lv (.inl v :: .inl i :: .inr (.inr (.inl (some k))) :: st) h kc ks = (match h.2 k with
    | some (.inl (.int, n, f)) => vp_in i n ∧ C 97 lv st (mm_up h k (cI n (upd f i.toNatClampNeg v))) kc ks
    | _ => False) := rfl
theorem g103_97  : mm_step (mm_rw mr_103) (some .int) tb call Q C 97 lv st h kc ks = (match mm_rd lv 0 with
    | some (.inr (.inr (.inl (some k)))) => C 98 lv (vR k :: st) h kc ks
    | some (.inr (.inr (.inr t))) => C 98 lv (vT t :: st) h kc ks
    | _ => False) := rfl
theorem g103_98 (k : Nat) : mm_step (mm_rw mr_103) (some .int) tb call Q C 98 lv (.inr (.inr (.inl (some k))) :: st) h kc ks = (match h.2 k with
    | some (.inr (.inr (ci, fs))) => ci = 8 ∧ (match fs[1]? with
      | some v => C 101 lv (v :: st) h kc ks
      | none => False)
    | _ => False) := rfl
theorem g103_101  : mm_step (mm_rw mr_103) (some .int) tb call Q C 101 lv st h kc ks = (match mm_rd lv 2 with
    | some (.inl a) => C 102 lv (vI a :: st) h kc ks
    | _ => False) := rfl
theorem g103_102  : mm_step (mm_rw mr_103) (some .int) tb call Q C 102 lv st h kc ks = (match mm_rd lv 0 with
    | some (.inr (.inr (.inl (some k)))) => C 103 lv (vR k :: st) h kc ks
    | some (.inr (.inr (.inr t))) => C 103 lv (vT t :: st) h kc ks
    | _ => False) := rfl
theorem g103_103 (k : Nat) : mm_step (mm_rw mr_103) (some .int) tb call Q C 103 lv (.inr (.inr (.inl (some k))) :: st) h kc ks = (match h.2 k with
    | some (.inr (.inr (ci, fs))) => ci = 8 ∧ (match fs[0]? with
      | some v => C 106 lv (v :: st) h kc ks
      | none => False)
    | _ => False) := rfl
theorem g103_106  : mm_step (mm_rw mr_103) (some .int) tb call Q C 106 lv st h kc ks = (match mm_rd lv 2 with
    | some (.inl a) => C 107 lv (vI a :: st) h kc ks
    | _ => False) := rfl
theorem g103_107 (i : Int32) (k : Nat) : mm_step (mm_rw mr_103) (some .int) tb call Q C 107 lv (.inl i :: .inr (.inr (.inl (some k))) :: st) h kc ks = (match h.2 k with
    | some (.inl (.int, n, f)) => vp_in i n ∧ C 108 lv (vI (f i.toNatClampNeg) :: st) h kc ks
    | _ => False) := rfl
theorem g103_107t (i : Int32) (t : Nat) : mm_step (mm_rw mr_103) (some .int) tb call Q C 107 lv (.inl i :: .inr (.inr (.inr t)) :: st) h kc ks = (vp_in i (tb t).1 ∧ C 108 lv (vI ((tb t).2 i.toNatClampNeg) :: st) h kc ks) := rfl
theorem g103_108 (v i : Int32) (k : Nat) : mm_step (mm_rw mr_103) (some .int) tb call Q C 108 lv (.inl v :: .inl i :: .inr (.inr (.inl (some k))) :: st) h kc ks = (match h.2 k with
    | some (.inl (.int, n, f)) => vp_in i n ∧ C 109 lv st (mm_up h k (cI n (upd f i.toNatClampNeg v))) kc ks
    | _ => False) := rfl
theorem g103_109  : mm_step (mm_rw mr_103) (some .int) tb call Q C 109 lv st h kc ks = (match mm_rd lv 1 with
    | some (.inl a) => C 110 lv (vI a :: st) h kc ks
    | _ => False) := rfl
theorem g103_110  : mm_step (mm_rw mr_103) (some .int) tb call Q C 110 lv st h kc ks = (C 111 lv (vI 1 :: st) h kc ks) := rfl
theorem g103_111  : mm_step (mm_rw mr_103) (some .int) tb call Q C 111 lv st h kc ks = (match mm_rd lv 0 with
    | some (.inr (.inr (.inl (some k)))) => C 112 lv (vR k :: st) h kc ks
    | some (.inr (.inr (.inr t))) => C 112 lv (vT t :: st) h kc ks
    | _ => False) := rfl
theorem g103_112 (k : Nat) : mm_step (mm_rw mr_103) (some .int) tb call Q C 112 lv (.inr (.inr (.inl (some k))) :: st) h kc ks = (match h.2 k with
    | some (.inr (.inr (ci, fs))) => ci = 8 ∧ (match fs[0]? with
      | some v => C 115 lv (v :: st) h kc ks
      | none => False)
    | _ => False) := rfl
theorem g103_115  : mm_step (mm_rw mr_103) (some .int) tb call Q C 115 lv st h kc ks = (match mm_rd lv 2 with
    | some (.inl a) => C 116 lv (vI a :: st) h kc ks
    | _ => False) := rfl
theorem g103_116 (i : Int32) (k : Nat) : mm_step (mm_rw mr_103) (some .int) tb call Q C 116 lv (.inl i :: .inr (.inr (.inl (some k))) :: st) h kc ks = (match h.2 k with
    | some (.inl (.int, n, f)) => vp_in i n ∧ C 117 lv (vI (f i.toNatClampNeg) :: st) h kc ks
    | _ => False) := rfl
theorem g103_116t (i : Int32) (t : Nat) : mm_step (mm_rw mr_103) (some .int) tb call Q C 116 lv (.inl i :: .inr (.inr (.inr t)) :: st) h kc ks = (vp_in i (tb t).1 ∧ C 117 lv (vI ((tb t).2 i.toNatClampNeg) :: st) h kc ks) := rfl
theorem g103_117 (a b : Int32) : mm_step (mm_rw mr_103) (some .int) tb call Q C 117 lv (.inl b :: .inl a :: st) h kc ks = (C 118 lv (vI (a <<< (b &&& 31)) :: st) h kc ks) := rfl
theorem g103_118  : mm_step (mm_rw mr_103) (some .int) tb call Q C 118 lv st h kc ks = (C 119 lv (vI (mI 1) :: st) h kc ks) := rfl
theorem g103_119 (a b : Int32) : mm_step (mm_rw mr_103) (some .int) tb call Q C 119 lv (.inl b :: .inl a :: st) h kc ks = (C 120 lv (vI (a ^^^ b) :: st) h kc ks) := rfl
theorem g103_120 (a b : Int32) : mm_step (mm_rw mr_103) (some .int) tb call Q C 120 lv (.inl b :: .inl a :: st) h kc ks = (C 121 lv (vI (a &&& b) :: st) h kc ks) := rfl
theorem g103_121 (a : Int32) : mm_step (mm_rw mr_103) (some .int) tb call Q C 121 lv (.inl a :: st) h kc ks = (C 122 (mm_st1 lv 1 (vI a)) st h kc ks) := rfl
theorem g103_122  : mm_step (mm_rw mr_103) (some .int) tb call Q C 122 lv st h kc ks = (match mm_rd lv 2 with
    | some (.inl a) => C 125 (mm_st1 lv 2 (vI (a + 1))) st h kc ks
    | _ => False) := rfl
theorem g103_125  : mm_step (mm_rw mr_103) (some .int) tb call Q C 125 lv st h kc ks = (C 78 lv st h kc ks) := rfl
theorem g103_128  : mm_step (mm_rw mr_103) (some .int) tb call Q C 128 lv st h kc ks = (match mm_rd lv 0 with
    | some (.inr (.inr (.inl (some k)))) => C 129 lv (vR k :: st) h kc ks
    | some (.inr (.inr (.inr t))) => C 129 lv (vT t :: st) h kc ks
    | _ => False) := rfl
theorem g103_129 (k : Nat) : mm_step (mm_rw mr_103) (some .int) tb call Q C 129 lv (.inr (.inr (.inl (some k))) :: st) h kc ks = (match h.2 k with
    | some (.inr (.inr (ci, fs))) => ci = 8 ∧ (match fs[21]? with
      | some v => C 132 lv (v :: st) h kc ks
      | none => False)
    | _ => False) := rfl
theorem g103_132  : mm_step (mm_rw mr_103) (some .int) tb call Q C 132 lv st h kc ks = (C 134 lv (vI (mI 9) :: st) h kc ks) := rfl
theorem g103_134 (a b : Int32) : mm_step (mm_rw mr_103) (some .int) tb call Q C 134 lv (.inl b :: .inl a :: st) h kc ks = ((¬ a = b → C 164 lv st h kc ks) ∧ (a = b → C 137 lv st h kc ks)) := rfl
theorem g103_137  : mm_step (mm_rw mr_103) (some .int) tb call Q C 137 lv st h kc ks = (match mm_rd lv 0 with
    | some (.inr (.inr (.inl (some k)))) => C 138 lv (vR k :: st) h kc ks
    | some (.inr (.inr (.inr t))) => C 138 lv (vT t :: st) h kc ks
    | _ => False) := rfl
theorem g103_138 (k : Nat) : mm_step (mm_rw mr_103) (some .int) tb call Q C 138 lv (.inr (.inr (.inl (some k))) :: st) h kc ks = (match h.2 k with
    | some (.inr (.inr (ci, fs))) => ci = 8 ∧ (match fs[20]? with
      | some v => C 141 lv (v :: st) h kc ks
      | none => False)
    | _ => False) := rfl
theorem g103_141  : mm_step (mm_rw mr_103) (some .int) tb call Q C 141 lv st h kc ks = (match mm_rd lv 0 with
    | some (.inr (.inr (.inl (some k)))) => C 142 lv (vR k :: st) h kc ks
    | some (.inr (.inr (.inr t))) => C 142 lv (vT t :: st) h kc ks
    | _ => False) := rfl
theorem g103_142 (k : Nat) : mm_step (mm_rw mr_103) (some .int) tb call Q C 142 lv (.inr (.inr (.inl (some k))) :: st) h kc ks = (match h.2 k with
    | some (.inr (.inr (ci, fs))) => ci = 8 ∧ (match fs[19]? with
      | some v => C 145 lv (v :: st) h kc ks
      | none => False)
    | _ => False) := rfl
theorem g103_145 (a b : Int32) : mm_step (mm_rw mr_103) (some .int) tb call Q C 145 lv (.inl b :: .inl a :: st) h kc ks = ((b ≤ a → C 164 lv st h kc ks) ∧ (¬ b ≤ a → C 148 lv st h kc ks)) := rfl
theorem g103_148  : mm_step (mm_rw mr_103) (some .int) tb call Q C 148 lv st h kc ks = (match mm_rd lv 0 with
    | some (.inr (.inr (.inl (some k)))) => C 149 lv (vR k :: st) h kc ks
    | some (.inr (.inr (.inr t))) => C 149 lv (vT t :: st) h kc ks
    | _ => False) := rfl
theorem g103_149  : mm_step (mm_rw mr_103) (some .int) tb call Q C 149 lv st h kc ks = (match mm_rd lv 0 with
    | some (.inr (.inr (.inl (some k)))) => C 150 lv (vR k :: st) h kc ks
    | some (.inr (.inr (.inr t))) => C 150 lv (vT t :: st) h kc ks
    | _ => False) := rfl
theorem g103_150 (k : Nat) : mm_step (mm_rw mr_103) (some .int) tb call Q C 150 lv (.inr (.inr (.inl (some k))) :: st) h kc ks = (match h.2 k with
    | some (.inr (.inr (ci, fs))) => ci = 8 ∧ (match fs[18]? with
      | some v => C 153 lv (v :: st) h kc ks
      | none => False)
    | _ => False) := rfl
theorem g103_153  : mm_step (mm_rw mr_103) (some .int) tb call Q C 153 lv st h kc ks = (match mm_rd lv 0 with
    | some (.inr (.inr (.inl (some k)))) => C 154 lv (vR k :: st) h kc ks
    | some (.inr (.inr (.inr t))) => C 154 lv (vT t :: st) h kc ks
    | _ => False) := rfl
theorem g103_154 (k : Nat) : mm_step (mm_rw mr_103) (some .int) tb call Q C 154 lv (.inr (.inr (.inl (some k))) :: st) h kc ks = (match h.2 k with
    | some (.inr (.inr (ci, fs))) => ci = 8 ∧ (match fs[20]? with
      | some v => C 157 lv (v :: st) h kc ks
      | none => False)
    | _ => False) := rfl
theorem g103_157 (i : Int32) (k : Nat) : mm_step (mm_rw mr_103) (some .int) tb call Q C 157 lv (.inl i :: .inr (.inr (.inl (some k))) :: st) h kc ks = (match h.2 k with
    | some (.inl (.int, n, f)) => vp_in i n ∧ C 158 lv (vI (f i.toNatClampNeg) :: st) h kc ks
    | _ => False) := rfl
theorem g103_157t (i : Int32) (t : Nat) : mm_step (mm_rw mr_103) (some .int) tb call Q C 157 lv (.inl i :: .inr (.inr (.inr t)) :: st) h kc ks = (vp_in i (tb t).1 ∧ C 158 lv (vI ((tb t).2 i.toNatClampNeg) :: st) h kc ks) := rfl
theorem g103_158  : mm_step (mm_rw mr_103) (some .int) tb call Q C 158 lv st h kc ks = ((match (st.take 2).reverse with
    | .inr (.inr (.inl (some k))) :: _ => (match h.2 k with
      | some (.inr (.inr (ci, _))) => mm_cn ci = (mm_mi 104).1.cls
      | _ => False)
    | _ => False) ∧ mm_call call C 104 2 158 lv st h kc ks) := rfl
theorem g103_161  : mm_step (mm_rw mr_103) (some .int) tb call Q C 161 lv st h kc ks = (C 128 lv st h kc ks) := rfl
theorem g103_164  : mm_step (mm_rw mr_103) (some .int) tb call Q C 164 lv st h kc ks = (match mm_rd lv 0 with
    | some (.inr (.inr (.inl (some k)))) => C 165 lv (vR k :: st) h kc ks
    | some (.inr (.inr (.inr t))) => C 165 lv (vT t :: st) h kc ks
    | _ => False) := rfl
theorem g103_165 (k : Nat) : mm_step (mm_rw mr_103) (some .int) tb call Q C 165 lv (.inr (.inr (.inl (some k))) :: st) h kc ks = (match h.2 k with
    | some (.inr (.inr (ci, fs))) => ci = 8 ∧ (match fs[21]? with
      | some v => C 168 lv (v :: st) h kc ks
      | none => False)
    | _ => False) := rfl
theorem g103_168 (v : Int32) : mm_step (mm_rw mr_103) (some .int) tb call Q C 168 lv [.inl v] h kc ks = (True ∧ Q (some (vI v)) h) := rfl
end G103

abbrev sp_104 : List Nat := [39, 57, 124, 140]
section G104
variable {tb : Nat → Nat × (Nat → Int32)} {call : CO} {Q : AQ} {C : CP} {lv : AL} {st : List AV} {h : AH} {kc ks : Nat}
theorem g104_0  : mm_step (mm_rw mr_104) none tb call Q C 0 lv st h kc ks = (match mm_rd lv 1 with
    | some (.inl a) => C 1 lv (vI a :: st) h kc ks
    | _ => False) := rfl
theorem g104_1  : mm_step (mm_rw mr_104) none tb call Q C 1 lv st h kc ks = (C 3 lv (vI 67 :: st) h kc ks) := rfl
theorem g104_3 (a b : Int32) : mm_step (mm_rw mr_104) none tb call Q C 3 lv (.inl b :: .inl a :: st) h kc ks = ((¬ a = b → C 80 lv st h kc ks) ∧ (a = b → C 6 lv st h kc ks)) := rfl
theorem g104_6  : mm_step (mm_rw mr_104) none tb call Q C 6 lv st h kc ks = (match mm_rd lv 0 with
    | some (.inr (.inr (.inl (some k)))) => C 7 lv (vR k :: st) h kc ks
    | some (.inr (.inr (.inr t))) => C 7 lv (vT t :: st) h kc ks
    | _ => False) := rfl
theorem g104_7 (k : Nat) : mm_step (mm_rw mr_104) none tb call Q C 7 lv (.inr (.inr (.inl (some k))) :: st) h kc ks = (match h.2 k with
    | some (.inr (.inr (ci, fs))) => ci = 8 ∧ (match fs[7]? with
      | some v => C 10 lv (v :: st) h kc ks
      | none => False)
    | _ => False) := rfl
theorem g104_10 (a : Int32) : mm_step (mm_rw mr_104) none tb call Q C 10 lv (.inl a :: st) h kc ks = ((¬ a = 0 → C 80 lv st h kc ks) ∧ (a = 0 → C 13 lv st h kc ks)) := rfl
theorem g104_13  : mm_step (mm_rw mr_104) none tb call Q C 13 lv st h kc ks = (match mm_rd lv 0 with
    | some (.inr (.inr (.inl (some k)))) => C 14 lv (vR k :: st) h kc ks
    | some (.inr (.inr (.inr t))) => C 14 lv (vT t :: st) h kc ks
    | _ => False) := rfl
theorem g104_14 (v : AV) : mm_step (mm_rw mr_104) none tb call Q C 14 lv (v :: st) h kc ks = (mm_c2 v = false ∧ C 15 lv (v :: v :: st) h kc ks) := rfl
theorem g104_15 (k : Nat) : mm_step (mm_rw mr_104) none tb call Q C 15 lv (.inr (.inr (.inl (some k))) :: st) h kc ks = (match h.2 k with
    | some (.inr (.inr (ci, fs))) => ci = 8 ∧ (match fs[20]? with
      | some v => C 18 lv (v :: st) h kc ks
      | none => False)
    | _ => False) := rfl
theorem g104_18  : mm_step (mm_rw mr_104) none tb call Q C 18 lv st h kc ks = (C 19 lv (vI 1 :: st) h kc ks) := rfl
theorem g104_19 (a b : Int32) : mm_step (mm_rw mr_104) none tb call Q C 19 lv (.inl b :: .inl a :: st) h kc ks = (C 20 lv (vI (a + b) :: st) h kc ks) := rfl
theorem g104_20 (v : AV) (k : Nat) : mm_step (mm_rw mr_104) none tb call Q C 20 lv (v :: .inr (.inr (.inl (some k))) :: st) h kc ks = (match h.2 k with
    | some (.inr (.inr (ci, fs))) => ci = 8 ∧ 20 < fs.length ∧ mm_fit (mm_ft 8 20) v ∧ C 23 lv st (mm_up h k (cO ci (fs.set 20 v))) kc ks
    | _ => False) := rfl
theorem g104_23  : mm_step (mm_rw mr_104) none tb call Q C 23 lv st h kc ks = (match mm_rd lv 0 with
    | some (.inr (.inr (.inl (some k)))) => C 24 lv (vR k :: st) h kc ks
    | some (.inr (.inr (.inr t))) => C 24 lv (vT t :: st) h kc ks
    | _ => False) := rfl
theorem g104_24  : mm_step (mm_rw mr_104) none tb call Q C 24 lv st h kc ks = (C 25 lv (vI 1 :: st) h kc ks) := rfl
theorem g104_25 (v : AV) (k : Nat) : mm_step (mm_rw mr_104) none tb call Q C 25 lv (v :: .inr (.inr (.inl (some k))) :: st) h kc ks = (match h.2 k with
    | some (.inr (.inr (ci, fs))) => ci = 8 ∧ 7 < fs.length ∧ mm_fit (mm_ft 8 7) v ∧ C 28 lv st (mm_up h k (cO ci (fs.set 7 v))) kc ks
    | _ => False) := rfl
theorem g104_28  : mm_step (mm_rw mr_104) none tb call Q C 28 lv st h kc ks = (C 29 lv (vI 1 :: st) h kc ks) := rfl
theorem g104_29  : mm_step (mm_rw mr_104) none tb call Q C 29 lv st h kc ks = (match mm_rd lv 0 with
    | some (.inr (.inr (.inl (some k)))) => C 30 lv (vR k :: st) h kc ks
    | some (.inr (.inr (.inr t))) => C 30 lv (vT t :: st) h kc ks
    | _ => False) := rfl
theorem g104_30 (k : Nat) : mm_step (mm_rw mr_104) none tb call Q C 30 lv (.inr (.inr (.inl (some k))) :: st) h kc ks = (match h.2 k with
    | some (.inr (.inr (ci, fs))) => ci = 8 ∧ (match fs[4]? with
      | some v => C 33 lv (v :: st) h kc ks
      | none => False)
    | _ => False) := rfl
theorem g104_33 (a b : Int32) : mm_step (mm_rw mr_104) none tb call Q C 33 lv (.inl b :: .inl a :: st) h kc ks = (C 34 lv (vI (a <<< (b &&& 31)) :: st) h kc ks) := rfl
theorem g104_34  : mm_step (mm_rw mr_104) none tb call Q C 34 lv st h kc ks = (C 35 lv (vI 1 :: st) h kc ks) := rfl
theorem g104_35 (a b : Int32) : mm_step (mm_rw mr_104) none tb call Q C 35 lv (.inl b :: .inl a :: st) h kc ks = (C 36 lv (vI (a - b) :: st) h kc ks) := rfl
theorem g104_36 (a : Int32) : mm_step (mm_rw mr_104) none tb call Q C 36 lv (.inl a :: st) h kc ks = (C 37 (mm_st1 lv 2 (vI a)) st h kc ks) := rfl
theorem g104_37  : mm_step (mm_rw mr_104) none tb call Q C 37 lv st h kc ks = (C 38 lv (vI 0 :: st) h kc ks) := rfl
theorem g104_38 (a : Int32) : mm_step (mm_rw mr_104) none tb call Q C 38 lv (.inl a :: st) h kc ks = (C 39 (mm_st1 lv 3 (vI a)) st h kc ks) := rfl
theorem g104_39  : mm_step (mm_rw mr_104) none tb call Q C 39 lv st h kc ks = (match mm_rd lv 3 with
    | some (.inl a) => C 40 lv (vI a :: st) h kc ks
    | _ => False) := rfl
theorem g104_40  : mm_step (mm_rw mr_104) none tb call Q C 40 lv st h kc ks = (match mm_rd lv 0 with
    | some (.inr (.inr (.inl (some k)))) => C 41 lv (vR k :: st) h kc ks
    | some (.inr (.inr (.inr t))) => C 41 lv (vT t :: st) h kc ks
    | _ => False) := rfl
theorem g104_41 (k : Nat) : mm_step (mm_rw mr_104) none tb call Q C 41 lv (.inr (.inr (.inl (some k))) :: st) h kc ks = (match h.2 k with
    | some (.inr (.inr (ci, fs))) => ci = 8 ∧ (match fs[4]? with
      | some v => C 44 lv (v :: st) h kc ks
      | none => False)
    | _ => False) := rfl
theorem g104_44 (a b : Int32) : mm_step (mm_rw mr_104) none tb call Q C 44 lv (.inl b :: .inl a :: st) h kc ks = ((b ≤ a → C 77 lv st h kc ks) ∧ (¬ b ≤ a → C 47 lv st h kc ks)) := rfl
theorem g104_47  : mm_step (mm_rw mr_104) none tb call Q C 47 lv st h kc ks = (match mm_rd lv 0 with
    | some (.inr (.inr (.inl (some k)))) => C 48 lv (vR k :: st) h kc ks
    | some (.inr (.inr (.inr t))) => C 48 lv (vT t :: st) h kc ks
    | _ => False) := rfl
theorem g104_48 (k : Nat) : mm_step (mm_rw mr_104) none tb call Q C 48 lv (.inr (.inr (.inl (some k))) :: st) h kc ks = (match h.2 k with
    | some (.inr (.inr (ci, fs))) => ci = 8 ∧ (match fs[1]? with
      | some v => C 51 lv (v :: st) h kc ks
      | none => False)
    | _ => False) := rfl
theorem g104_51  : mm_step (mm_rw mr_104) none tb call Q C 51 lv st h kc ks = (match mm_rd lv 3 with
    | some (.inl a) => C 52 lv (vI a :: st) h kc ks
    | _ => False) := rfl
theorem g104_52  : mm_step (mm_rw mr_104) none tb call Q C 52 lv st h kc ks = (match mm_rd lv 0 with
    | some (.inr (.inr (.inl (some k)))) => C 53 lv (vR k :: st) h kc ks
    | some (.inr (.inr (.inr t))) => C 53 lv (vT t :: st) h kc ks
    | _ => False) := rfl
theorem g104_53  : mm_step (mm_rw mr_104) none tb call Q C 53 lv st h kc ks = (match mm_rd lv 2 with
    | some (.inl a) => C 54 lv (vI a :: st) h kc ks
    | _ => False) := rfl
theorem g104_54  : mm_step (mm_rw mr_104) none tb call Q C 54 lv st h kc ks = ((match (st.take 2).reverse with
    | .inr (.inr (.inl (some k))) :: _ => (match h.2 k with
      | some (.inr (.inr (ci, _))) => mm_cn ci = (mm_mi 102).1.cls
      | _ => False)
    | _ => False) ∧ mm_call call C 102 2 54 lv st h kc ks) := rfl
theorem g104_57 (v i : Int32) (k : Nat) : mm_step (mm_rw mr_104) none tb call Q C 57 lv (.inl v :: .inl i :: .inr (.inr (.inl (some k))) :: st) h kc ks = (match h.2 k with
    | some (.inl (.int, n, f)) => vp_in i n ∧ C 58 lv st (mm_up h k (cI n (upd f i.toNatClampNeg v))) kc ks
    | _ => False) := rfl
theorem g104_58  : mm_step (mm_rw mr_104) none tb call Q C 58 lv st h kc ks = (match mm_rd lv 2 with
    | some (.inl a) => C 59 lv (vI a :: st) h kc ks
    | _ => False) := rfl
theorem g104_59  : mm_step (mm_rw mr_104) none tb call Q C 59 lv st h kc ks = (C 60 lv (vI 1 :: st) h kc ks) := rfl
theorem g104_60  : mm_step (mm_rw mr_104) none tb call Q C 60 lv st h kc ks = (match mm_rd lv 0 with
    | some (.inr (.inr (.inl (some k)))) => C 61 lv (vR k :: st) h kc ks
    | some (.inr (.inr (.inr t))) => C 61 lv (vT t :: st) h kc ks
    | _ => False) := rfl
theorem g104_61 (k : Nat) : mm_step (mm_rw mr_104) none tb call Q C 61 lv (.inr (.inr (.inl (some k))) :: st) h kc ks = (match h.2 k with
    | some (.inr (.inr (ci, fs))) => ci = 8 ∧ (match fs[1]? with
      | some v => C 64 lv (v :: st) h kc ks
      | none => False)
    | _ => False) := rfl
theorem g104_64  : mm_step (mm_rw mr_104) none tb call Q C 64 lv st h kc ks = (match mm_rd lv 3 with
    | some (.inl a) => C 65 lv (vI a :: st) h kc ks
    | _ => False) := rfl
theorem g104_65 (i : Int32) (k : Nat) : mm_step (mm_rw mr_104) none tb call Q C 65 lv (.inl i :: .inr (.inr (.inl (some k))) :: st) h kc ks = (match h.2 k with
    | some (.inl (.int, n, f)) => vp_in i n ∧ C 66 lv (vI (f i.toNatClampNeg) :: st) h kc ks
    | _ => False) := rfl
theorem g104_65t (i : Int32) (t : Nat) : mm_step (mm_rw mr_104) none tb call Q C 65 lv (.inl i :: .inr (.inr (.inr t)) :: st) h kc ks = (vp_in i (tb t).1 ∧ C 66 lv (vI ((tb t).2 i.toNatClampNeg) :: st) h kc ks) := rfl
theorem g104_66 (a b : Int32) : mm_step (mm_rw mr_104) none tb call Q C 66 lv (.inl b :: .inl a :: st) h kc ks = (C 67 lv (vI (a <<< (b &&& 31)) :: st) h kc ks) := rfl
theorem g104_67  : mm_step (mm_rw mr_104) none tb call Q C 67 lv st h kc ks = (C 68 lv (vI (mI 1) :: st) h kc ks) := rfl
theorem g104_68 (a b : Int32) : mm_step (mm_rw mr_104) none tb call Q C 68 lv (.inl b :: .inl a :: st) h kc ks = (C 69 lv (vI (a ^^^ b) :: st) h kc ks) := rfl
theorem g104_69 (a b : Int32) : mm_step (mm_rw mr_104) none tb call Q C 69 lv (.inl b :: .inl a :: st) h kc ks = (C 70 lv (vI (a &&& b) :: st) h kc ks) := rfl
theorem g104_70 (a : Int32) : mm_step (mm_rw mr_104) none tb call Q C 70 lv (.inl a :: st) h kc ks = (C 71 (mm_st1 lv 2 (vI a)) st h kc ks) := rfl
theorem g104_71  : mm_step (mm_rw mr_104) none tb call Q C 71 lv st h kc ks = (match mm_rd lv 3 with
    | some (.inl a) => C 74 (mm_st1 lv 3 (vI (a + 1))) st h kc ks
    | _ => False) := rfl
theorem g104_74  : mm_step (mm_rw mr_104) none tb call Q C 74 lv st h kc ks = (C 39 lv st h kc ks) := rfl
theorem g104_77  : mm_step (mm_rw mr_104) none tb call Q C 77 lv st h kc ks = (C 162 lv st h kc ks) := rfl
theorem g104_80  : mm_step (mm_rw mr_104) none tb call Q C 80 lv st h kc ks = (match mm_rd lv 1 with
    | some (.inl a) => C 81 lv (vI a :: st) h kc ks
    | _ => False) := rfl
theorem g104_81  : mm_step (mm_rw mr_104) none tb call Q C 81 lv st h kc ks = (C 83 lv (vI 82 :: st) h kc ks) := rfl
theorem g104_83 (a b : Int32) : mm_step (mm_rw mr_104) none tb call Q C 83 lv (.inl b :: .inl a :: st) h kc ks = ((¬ a = b → C 154 lv st h kc ks) ∧ (a = b → C 86 lv st h kc ks)) := rfl
theorem g104_86  : mm_step (mm_rw mr_104) none tb call Q C 86 lv st h kc ks = (match mm_rd lv 0 with
    | some (.inr (.inr (.inl (some k)))) => C 87 lv (vR k :: st) h kc ks
    | some (.inr (.inr (.inr t))) => C 87 lv (vT t :: st) h kc ks
    | _ => False) := rfl
theorem g104_87 (k : Nat) : mm_step (mm_rw mr_104) none tb call Q C 87 lv (.inr (.inr (.inl (some k))) :: st) h kc ks = (match h.2 k with
    | some (.inr (.inr (ci, fs))) => ci = 8 ∧ (match fs[5]? with
      | some v => C 90 lv (v :: st) h kc ks
      | none => False)
    | _ => False) := rfl
theorem g104_90  : mm_step (mm_rw mr_104) none tb call Q C 90 lv st h kc ks = (C 91 lv (vI 4 :: st) h kc ks) := rfl
theorem g104_91 (a b : Int32) : mm_step (mm_rw mr_104) none tb call Q C 91 lv (.inl b :: .inl a :: st) h kc ks = ((b ≤ a → C 154 lv st h kc ks) ∧ (¬ b ≤ a → C 94 lv st h kc ks)) := rfl
theorem g104_94  : mm_step (mm_rw mr_104) none tb call Q C 94 lv st h kc ks = (match mm_rd lv 0 with
    | some (.inr (.inr (.inl (some k)))) => C 95 lv (vR k :: st) h kc ks
    | some (.inr (.inr (.inr t))) => C 95 lv (vT t :: st) h kc ks
    | _ => False) := rfl
theorem g104_95 (v : AV) : mm_step (mm_rw mr_104) none tb call Q C 95 lv (v :: st) h kc ks = (mm_c2 v = false ∧ C 96 lv (v :: v :: st) h kc ks) := rfl
theorem g104_96 (k : Nat) : mm_step (mm_rw mr_104) none tb call Q C 96 lv (.inr (.inr (.inl (some k))) :: st) h kc ks = (match h.2 k with
    | some (.inr (.inr (ci, fs))) => ci = 8 ∧ (match fs[20]? with
      | some v => C 99 lv (v :: st) h kc ks
      | none => False)
    | _ => False) := rfl
theorem g104_99  : mm_step (mm_rw mr_104) none tb call Q C 99 lv st h kc ks = (C 100 lv (vI 1 :: st) h kc ks) := rfl
theorem g104_100 (a b : Int32) : mm_step (mm_rw mr_104) none tb call Q C 100 lv (.inl b :: .inl a :: st) h kc ks = (C 101 lv (vI (a + b) :: st) h kc ks) := rfl
theorem g104_101 (v : AV) (k : Nat) : mm_step (mm_rw mr_104) none tb call Q C 101 lv (v :: .inr (.inr (.inl (some k))) :: st) h kc ks = (match h.2 k with
    | some (.inr (.inr (ci, fs))) => ci = 8 ∧ 20 < fs.length ∧ mm_fit (mm_ft 8 20) v ∧ C 104 lv st (mm_up h k (cO ci (fs.set 20 v))) kc ks
    | _ => False) := rfl
theorem g104_104  : mm_step (mm_rw mr_104) none tb call Q C 104 lv st h kc ks = (match mm_rd lv 0 with
    | some (.inr (.inr (.inl (some k)))) => C 105 lv (vR k :: st) h kc ks
    | some (.inr (.inr (.inr t))) => C 105 lv (vT t :: st) h kc ks
    | _ => False) := rfl
theorem g104_105 (k : Nat) : mm_step (mm_rw mr_104) none tb call Q C 105 lv (.inr (.inr (.inl (some k))) :: st) h kc ks = (match h.2 k with
    | some (.inr (.inr (ci, fs))) => ci = 8 ∧ (match fs[2]? with
      | some v => C 108 lv (v :: st) h kc ks
      | none => False)
    | _ => False) := rfl
theorem g104_108  : mm_step (mm_rw mr_104) none tb call Q C 108 lv st h kc ks = (match mm_rd lv 0 with
    | some (.inr (.inr (.inl (some k)))) => C 109 lv (vR k :: st) h kc ks
    | some (.inr (.inr (.inr t))) => C 109 lv (vT t :: st) h kc ks
    | _ => False) := rfl
theorem g104_109 (k : Nat) : mm_step (mm_rw mr_104) none tb call Q C 109 lv (.inr (.inr (.inl (some k))) :: st) h kc ks = (match h.2 k with
    | some (.inr (.inr (ci, fs))) => ci = 8 ∧ (match fs[5]? with
      | some v => C 112 lv (v :: st) h kc ks
      | none => False)
    | _ => False) := rfl
theorem g104_112  : mm_step (mm_rw mr_104) none tb call Q C 112 lv st h kc ks = (match mm_rd lv 0 with
    | some (.inr (.inr (.inl (some k)))) => C 113 lv (vR k :: st) h kc ks
    | some (.inr (.inr (.inr t))) => C 113 lv (vT t :: st) h kc ks
    | _ => False) := rfl
theorem g104_113  : mm_step (mm_rw mr_104) none tb call Q C 113 lv st h kc ks = (C 114 lv (vI 1 :: st) h kc ks) := rfl
theorem g104_114  : mm_step (mm_rw mr_104) none tb call Q C 114 lv st h kc ks = (match mm_rd lv 0 with
    | some (.inr (.inr (.inl (some k)))) => C 115 lv (vR k :: st) h kc ks
    | some (.inr (.inr (.inr t))) => C 115 lv (vT t :: st) h kc ks
    | _ => False) := rfl
theorem g104_115 (k : Nat) : mm_step (mm_rw mr_104) none tb call Q C 115 lv (.inr (.inr (.inl (some k))) :: st) h kc ks = (match h.2 k with
    | some (.inr (.inr (ci, fs))) => ci = 8 ∧ (match fs[4]? with
      | some v => C 118 lv (v :: st) h kc ks
      | none => False)
    | _ => False) := rfl
theorem g104_118 (a b : Int32) : mm_step (mm_rw mr_104) none tb call Q C 118 lv (.inl b :: .inl a :: st) h kc ks = (C 119 lv (vI (a <<< (b &&& 31)) :: st) h kc ks) := rfl
theorem g104_119  : mm_step (mm_rw mr_104) none tb call Q C 119 lv st h kc ks = (C 120 lv (vI 1 :: st) h kc ks) := rfl
theorem g104_120 (a b : Int32) : mm_step (mm_rw mr_104) none tb call Q C 120 lv (.inl b :: .inl a :: st) h kc ks = (C 121 lv (vI (a - b) :: st) h kc ks) := rfl
theorem g104_121  : mm_step (mm_rw mr_104) none tb call Q C 121 lv st h kc ks = ((match (st.take 2).reverse with
    | .inr (.inr (.inl (some k))) :: _ => (match h.2 k with
      | some (.inr (.inr (ci, _))) => mm_cn ci = (mm_mi 102).1.cls
      | _ => False)
    | _ => False) ∧ mm_call call C 102 2 121 lv st h kc ks) := rfl
theorem g104_124 (v i : Int32) (k : Nat) : mm_step (mm_rw mr_104) none tb call Q C 124 lv (.inl v :: .inl i :: .inr (.inr (.inl (some k))) :: st) h kc ks = (match h.2 k with
    | some (.inl (.int, n, f)) => vp_in i n ∧ C 125 lv st (mm_up h k (cI n (upd f i.toNatClampNeg v))) kc ks
    | _ => False) := rfl
theorem g104_125  : mm_step (mm_rw mr_104) none tb call Q C 125 lv st h kc ks = (match mm_rd lv 0 with
    | some (.inr (.inr (.inl (some k)))) => C 126 lv (vR k :: st) h kc ks
    | some (.inr (.inr (.inr t))) => C 126 lv (vT t :: st) h kc ks
    | _ => False) := rfl
theorem g104_126 (k : Nat) : mm_step (mm_rw mr_104) none tb call Q C 126 lv (.inr (.inr (.inl (some k))) :: st) h kc ks = (match h.2 k with
    | some (.inr (.inr (ci, fs))) => ci = 8 ∧ (match fs[3]? with
      | some v => C 129 lv (v :: st) h kc ks
      | none => False)
    | _ => False) := rfl
theorem g104_129  : mm_step (mm_rw mr_104) none tb call Q C 129 lv st h kc ks = (match mm_rd lv 0 with
    | some (.inr (.inr (.inl (some k)))) => C 130 lv (vR k :: st) h kc ks
    | some (.inr (.inr (.inr t))) => C 130 lv (vT t :: st) h kc ks
    | _ => False) := rfl
theorem g104_130 (k : Nat) : mm_step (mm_rw mr_104) none tb call Q C 130 lv (.inr (.inr (.inl (some k))) :: st) h kc ks = (match h.2 k with
    | some (.inr (.inr (ci, fs))) => ci = 8 ∧ (match fs[5]? with
      | some v => C 133 lv (v :: st) h kc ks
      | none => False)
    | _ => False) := rfl
theorem g104_133  : mm_step (mm_rw mr_104) none tb call Q C 133 lv st h kc ks = (match mm_rd lv 0 with
    | some (.inr (.inr (.inl (some k)))) => C 134 lv (vR k :: st) h kc ks
    | some (.inr (.inr (.inr t))) => C 134 lv (vT t :: st) h kc ks
    | _ => False) := rfl
theorem g104_134  : mm_step (mm_rw mr_104) none tb call Q C 134 lv st h kc ks = (C 137 lv (vI 1023 :: st) h kc ks) := rfl
theorem g104_137  : mm_step (mm_rw mr_104) none tb call Q C 137 lv st h kc ks = ((match (st.take 2).reverse with
    | .inr (.inr (.inl (some k))) :: _ => (match h.2 k with
      | some (.inr (.inr (ci, _))) => mm_cn ci = (mm_mi 102).1.cls
      | _ => False)
    | _ => False) ∧ mm_call call C 102 2 137 lv st h kc ks) := rfl
theorem g104_140 (v i : Int32) (k : Nat) : mm_step (mm_rw mr_104) none tb call Q C 140 lv (.inl v :: .inl i :: .inr (.inr (.inl (some k))) :: st) h kc ks = (match h.2 k with
    | some (.inl (.int, n, f)) => vp_in i n ∧ C 141 lv st (mm_up h k (cI n (upd f i.toNatClampNeg v))) kc ks
    | _ => False) := rfl
theorem g104_141  : mm_step (mm_rw mr_104) none tb call Q C 141 lv st h kc ks = (match mm_rd lv 0 with
    | some (.inr (.inr (.inl (some k)))) => C 142 lv (vR k :: st) h kc ks
    | some (.inr (.inr (.inr t))) => C 142 lv (vT t :: st) h kc ks
    | _ => False) := rfl
theorem g104_142 (v : AV) : mm_step (mm_rw mr_104) none tb call Q C 142 lv (v :: st) h kc ks = (mm_c2 v = false ∧ C 143 lv (v :: v :: st) h kc ks) := rfl
theorem g104_143 (k : Nat) : mm_step (mm_rw mr_104) none tb call Q C 143 lv (.inr (.inr (.inl (some k))) :: st) h kc ks = (match h.2 k with
    | some (.inr (.inr (ci, fs))) => ci = 8 ∧ (match fs[5]? with
      | some v => C 146 lv (v :: st) h kc ks
      | none => False)
    | _ => False) := rfl
theorem g104_146  : mm_step (mm_rw mr_104) none tb call Q C 146 lv st h kc ks = (C 147 lv (vI 1 :: st) h kc ks) := rfl
theorem g104_147 (a b : Int32) : mm_step (mm_rw mr_104) none tb call Q C 147 lv (.inl b :: .inl a :: st) h kc ks = (C 148 lv (vI (a + b) :: st) h kc ks) := rfl
theorem g104_148 (v : AV) (k : Nat) : mm_step (mm_rw mr_104) none tb call Q C 148 lv (v :: .inr (.inr (.inl (some k))) :: st) h kc ks = (match h.2 k with
    | some (.inr (.inr (ci, fs))) => ci = 8 ∧ 5 < fs.length ∧ mm_fit (mm_ft 8 5) v ∧ C 151 lv st (mm_up h k (cO ci (fs.set 5 v))) kc ks
    | _ => False) := rfl
theorem g104_151  : mm_step (mm_rw mr_104) none tb call Q C 151 lv st h kc ks = (C 162 lv st h kc ks) := rfl
theorem g104_154  : mm_step (mm_rw mr_104) none tb call Q C 154 lv st h kc ks = (match mm_rd lv 0 with
    | some (.inr (.inr (.inl (some k)))) => C 155 lv (vR k :: st) h kc ks
    | some (.inr (.inr (.inr t))) => C 155 lv (vT t :: st) h kc ks
    | _ => False) := rfl
theorem g104_155  : mm_step (mm_rw mr_104) none tb call Q C 155 lv st h kc ks = (match mm_rd lv 0 with
    | some (.inr (.inr (.inl (some k)))) => C 156 lv (vR k :: st) h kc ks
    | some (.inr (.inr (.inr t))) => C 156 lv (vT t :: st) h kc ks
    | _ => False) := rfl
theorem g104_156 (k : Nat) : mm_step (mm_rw mr_104) none tb call Q C 156 lv (.inr (.inr (.inl (some k))) :: st) h kc ks = (match h.2 k with
    | some (.inr (.inr (ci, fs))) => ci = 8 ∧ (match fs[20]? with
      | some v => C 159 lv (v :: st) h kc ks
      | none => False)
    | _ => False) := rfl
theorem g104_159 (v : AV) (k : Nat) : mm_step (mm_rw mr_104) none tb call Q C 159 lv (v :: .inr (.inr (.inl (some k))) :: st) h kc ks = (match h.2 k with
    | some (.inr (.inr (ci, fs))) => ci = 8 ∧ 21 < fs.length ∧ mm_fit (mm_ft 8 21) v ∧ C 162 lv st (mm_up h k (cO ci (fs.set 21 v))) kc ks
    | _ => False) := rfl
theorem g104_162  : mm_step (mm_rw mr_104) none tb call Q C 162 lv [] h kc ks = ((none : Option FieldType) = none ∧ Q none h) := rfl
end G104

section LIBM
variable {tb : Nat → Nat × (Nat → Int32)} {d : Nat} {s : MM} {g : SG}
theorem upd_at (f : Nat → Int32) (k : Nat) (x : Int32) : upd f k x k = x := if_pos rfl
/-- nothing but what is read has changed -/
def RdM (s s' : MM) : Prop := (∀ k, k ∉ [76, 77, 78, 79] → s'.1 k = s.1 k) ∧ (∀ k, k ≠ 75 → s'.2.1 k = s.2.1 k) ∧ (∀ j, j ∉ [4, 5, 6, 7, 20, 21] → s'.2.1 75 j = s.2.1 75 j) ∧ s'.2.2 = s.2.2
theorem RdM.rf : RdM s s := ⟨fun _ _ => rfl, fun _ _ => rfl, fun _ _ => rfl, rfl⟩
theorem RdM.tr {s' s'' : MM} (a : RdM s s') (b : RdM s' s'') : RdM s s'' := ⟨fun k h => (b.1 k h).trans (a.1 k h), fun k h => (b.2.1 k h).trans (a.2.1 k h), fun j h => (b.2.2.1 j h).trans (a.2.2.1 j h), b.2.2.2.trans a.2.2.2⟩
theorem RdM.o {j : Nat} {x : Int32} (hj : j ∈ [4, 5, 6, 7, 20, 21]) : RdM s (sO s 75 j x) := ⟨fun _ _ => rfl, fun k h => va_ne h, fun i h => by
  show va_up s.2.1 75 (upd (s.2.1 75) j x) 75 i = _
  rw [va_at_eq]
  unfold upd
  rw [if_neg (fun e => h (by rw [e]; exact hj))], rfl⟩
theorem RdM.a {k : Nat} {f : Nat → Int32} (hk : k ∈ [76, 77, 78, 79]) : RdM s (sA s k f) := ⟨fun j h => va_ne (fun e => h (e ▸ hk)), fun _ _ => rfl, fun _ _ => rfl, rfl⟩
theorem RdM.inv {s' : MM} (a : RdM s s') (h : InvM g s) : InvM g s' := by
  unfold InvM at h ⊢
  rw [a.2.2.1 19 (by simp), a.2.2.1 11 (by simp), a.2.2.1 12 (by simp), a.2.2.1 13 (by simp), a.2.2.1 15 (by simp), a.2.2.1 22 (by simp), a.2.2.1 23 (by simp), a.2.2.1 33 (by simp), a.1 80 (by simp), a.1 81 (by simp), a.1 82 (by simp), a.1 83 (by simp), a.1 84 (by simp), a.1 85 (by simp), a.1 86 (by simp), a.1 87 (by simp), a.1 92 (by simp), a.1 93 (by simp), a.1 97 (by simp), a.1 98 (by simp), a.2.2.2]
  exact h
theorem RdM.agC {s' : MM} (a : RdM s s') : agC s s' := ⟨fun k h => ⟨a.1 k (by simp only [List.mem_cons, List.not_mem_nil, or_false]; omega), a.2.1 k (by omega)⟩, by rw [a.2.2.2], by rw [a.2.2.2], by rw [a.2.2.2]⟩
def TxM (s : MM) (t : List Nat) : Prop := t.length ≤ 40 ∧ (∀ c ∈ t, c < 256) ∧ s.2.1 75 19 = nI t.length ∧ Ar (s.1 86) t
theorem TxM.rd {s' : MM} {t : List Nat} (h : TxM s t) (a : RdM s s') : TxM s' t := by
  unfold TxM at h ⊢
  rw [a.2.2.1 19 (by simp), a.1 86 (by simp)]
  exact h
/-- the figure at place p of the text, if the bits o allow it -/
def fgM (t : List Nat) (p : Nat) (o : Int32) : Option Nat := if p < t.length ∧ (48 ≤ t.getD p 0 ∧ t.getD p 0 < 58) ∧ bt o (t.getD p 0 - 48) = true then some (t.getD p 0 - 48) else none
theorem fgM_y {t : List Nat} {p : Nat} {o : Int32} (h : p < t.length ∧ (48 ≤ t.getD p 0 ∧ t.getD p 0 < 58) ∧ bt o (t.getD p 0 - 48) = true) : fgM t p o = some (t.getD p 0 - 48) := if_pos h
theorem fgM_n {t : List Nat} {p : Nat} {o : Int32} (h : ¬ (p < t.length ∧ (48 ≤ t.getD p 0 ∧ t.getD p 0 < 58) ∧ bt o (t.getD p 0 - 48) = true)) : fgM t p o = none := if_neg h
theorem in09 : ∀ c, c < 256 → (decide ((0 : Int64) ≤ (nI c - 48).toInt64) && decide ((nI c - 48).toInt64 ≤ (9 : Int64))) = decide (48 ≤ c ∧ c < 58) := by decide +kernel
theorem in09m : (decide ((0 : Int64) ≤ (mI 1).toInt64) && decide ((mI 1).toInt64 ≤ (9 : Int64))) = false := by decide +kernel
theorem M_figF {q : Nat} (hq : q < 2 ^ 31) (hf : s.2.1 75 21 = nI q) (o : Int32) : WM tb (d + 2) k_M_figure [vR 75, vI o] (HP s) 0 0 (fun z h' => z = some (vI 0) ∧ h' = HP s) := by
  refine WM.of mi_102 rfl rfl (Nat.le_of_ble_eq_true rfl) ?_
  show WP (mm_rw mr_102) (some .int) tb (WM tb (d + 1)) _ 0 [(0, vR 75), (1, vI o)] [] (HP s) 0 0
  (try simp only [Option.toList_some, Option.toList_none, List.nil_append, List.append_nil, List.cons_append, Nat.sub_zero, Nat.sub_self, Nat.zero_sub]); refine Go.wp sp_102 200 ?_; simp only [↓g102_0, ↓g102_1, ↓g102_4, ↓g102_6, ↓g102_9, ↓g102_10, ↓g102_13, ↓g102_14, ↓g102_17, ↓g102_20, ↓g102_21, ↓g102_24, ↓g102_25, ↓g102_28, ↓g102_28t, ↓g102_29, ↓g102_31, ↓g102_32, ↓g102_35, ↓g102_36, ↓g102_37, ↓g102_38, ↓g102_39, ↓g102_40, ↓g102_43, ↓g102_46, ↓g102_49, ↓g102_50, ↓g102_51, ↓g102_52, ↓g102_53, ↓g102_54, ↓g102_57, ↓g102_58, ↓g102_59, ↓g102_62, ↓g102_64, ↓g102_67, ↓g102_68, ↓g102_71, ↓g102_74, ↓g102_75, ↓g102_78, ↓g102_81, ↓g102_82, ↓g102_83, ↓g102_84, ↓g102_85, ↓g102_88, ↓g102_89, ↓g102_90, ↓g102_93, ↓g102_94, cl_99, cn_0, cn_1, cn_2, cn_3, cn_4, cn_5, cn_6, cn_7, cn_8, ↓Go_s, ↓GoC_a, ↓reduceIte, ↓mm_call_eq, ↓mmw_nil, ↓mmw_cons, List.take_succ_cons, List.take_zero, List.take_nil, List.drop_succ_cons, List.drop_zero, List.drop_nil, List.reverse_cons, List.reverse_nil, List.nil_append, List.cons_append, List.append_nil, Option.toList_some, Option.toList_none, Nat.sub_zero, Nat.le_refl, mmr_cons, mm_st1, mm_st2, mmi_nil, mmi_cons, mmc_I, mmc_L, mmc_R, mmu_get, mmu_one, mma_get, mma_one, List.filter_cons, List.filter_nil, List.contains_cons, List.contains_nil, Nat.reduceBEq, Nat.reduceAdd, Nat.reduceLT, Nat.reduceSub, Nat.reduceLeDiff, Nat.reduceEqDiff, Int32.reduceAdd, Bool.not_true, Bool.not_false, Bool.and_true, Bool.true_and, Bool.and_false, Bool.false_and, Bool.or_false, Bool.false_or, Bool.or_true, Bool.true_or, if_true, if_false, ite_true, ite_false, Bool.false_eq_true, List.getElem?_cons_zero, List.getElem?_cons_succ, List.length_cons, List.length_nil, true_and, and_true, List.set_cons_zero, List.set_cons_succ, Fin.isValue, Fin.val_zero, Fin.val_one, Fin.val_two, Fin.reduceFinMk, Nat.zero_add, hp_75, hp_76, hp_77, hp_78, hp_79, hp_80, hp_81, hp_82, hp_83, hp_84, hp_85, hp_86, hp_87, hp_88, hp_89, hp_90, hp_91, hp_92, hp_93, hp_94, hp_95, hp_96, hp_97, hp_98, og_75_0, og_75_1, og_75_2, og_75_3, og_75_4, og_75_5, og_75_6, og_75_7, og_75_8, og_75_9, og_75_10, og_75_11, og_75_12, og_75_13, og_75_14, og_75_15, og_75_16, og_75_17, og_75_18, og_75_19, og_75_20, og_75_21, og_75_22, og_75_23, og_75_24, og_75_25, og_75_26, og_75_27, og_75_28, og_75_29, og_75_30, og_75_31, og_75_32, og_75_33, og_75_34, og_75_35, og_75_36, og_75_37, og_75_38, og_75_39, og_75_40, og_75_41, ol_75, uo_75_4, uo_75_5, uo_75_6, uo_75_7, uo_75_11, uo_75_12, uo_75_13, uo_75_15, uo_75_19, uo_75_20, uo_75_21, uo_75_22, uo_75_23, uo_75_26, uo_75_30, uo_75_31, uo_75_32, uo_75_33, ua_76, ua_77, ua_78, ua_79, ua_80, ua_81, ua_82, ua_83, ua_84, ua_85, ua_86, ua_87, ua_88, ua_89, ua_90, ua_91, ua_92, ua_93, ua_94, ua_95, ua_96, ua_97, ua_98, sO_g, sA_g, sA_O, sO_A, sO_2, sM_1, sM_2, sM_3, sM_4, sM_5, sM_6, uc_75, hf, ft_8_20, ft_8_21, nu_fitI, nu_fitL, nu_fitO, nu_fitA, nu_fitB0, nu_fitB1]
  refine ⟨fun _ => ⟨0, 0, _, Nat.le_refl _, Nat.le_refl _, M_in _ _ _ _, fun z h' hz => ?_⟩, fun c => absurd c (ne9 hq)⟩
  obtain ⟨rfl, rfl⟩ := hz
  rw [in09m]
  (try simp only [Option.toList_some, Option.toList_none, List.nil_append, List.append_nil, List.cons_append, Nat.sub_zero, Nat.sub_self, Nat.zero_sub]); refine Go.wp sp_102 200 ?_; simp only [↓g102_0, ↓g102_1, ↓g102_4, ↓g102_6, ↓g102_9, ↓g102_10, ↓g102_13, ↓g102_14, ↓g102_17, ↓g102_20, ↓g102_21, ↓g102_24, ↓g102_25, ↓g102_28, ↓g102_28t, ↓g102_29, ↓g102_31, ↓g102_32, ↓g102_35, ↓g102_36, ↓g102_37, ↓g102_38, ↓g102_39, ↓g102_40, ↓g102_43, ↓g102_46, ↓g102_49, ↓g102_50, ↓g102_51, ↓g102_52, ↓g102_53, ↓g102_54, ↓g102_57, ↓g102_58, ↓g102_59, ↓g102_62, ↓g102_64, ↓g102_67, ↓g102_68, ↓g102_71, ↓g102_74, ↓g102_75, ↓g102_78, ↓g102_81, ↓g102_82, ↓g102_83, ↓g102_84, ↓g102_85, ↓g102_88, ↓g102_89, ↓g102_90, ↓g102_93, ↓g102_94, cl_99, cn_0, cn_1, cn_2, cn_3, cn_4, cn_5, cn_6, cn_7, cn_8, ↓Go_s, ↓GoC_a, ↓reduceIte, ↓mm_call_eq, ↓mmw_nil, ↓mmw_cons, List.take_succ_cons, List.take_zero, List.take_nil, List.drop_succ_cons, List.drop_zero, List.drop_nil, List.reverse_cons, List.reverse_nil, List.nil_append, List.cons_append, List.append_nil, Option.toList_some, Option.toList_none, Nat.sub_zero, Nat.le_refl, mmr_cons, mm_st1, mm_st2, mmi_nil, mmi_cons, mmc_I, mmc_L, mmc_R, mmu_get, mmu_one, mma_get, mma_one, List.filter_cons, List.filter_nil, List.contains_cons, List.contains_nil, Nat.reduceBEq, Nat.reduceAdd, Nat.reduceLT, Nat.reduceSub, Nat.reduceLeDiff, Nat.reduceEqDiff, Int32.reduceAdd, Bool.not_true, Bool.not_false, Bool.and_true, Bool.true_and, Bool.and_false, Bool.false_and, Bool.or_false, Bool.false_or, Bool.or_true, Bool.true_or, if_true, if_false, ite_true, ite_false, Bool.false_eq_true, List.getElem?_cons_zero, List.getElem?_cons_succ, List.length_cons, List.length_nil, true_and, and_true, List.set_cons_zero, List.set_cons_succ, Fin.isValue, Fin.val_zero, Fin.val_one, Fin.val_two, Fin.reduceFinMk, Nat.zero_add, hp_75, hp_76, hp_77, hp_78, hp_79, hp_80, hp_81, hp_82, hp_83, hp_84, hp_85, hp_86, hp_87, hp_88, hp_89, hp_90, hp_91, hp_92, hp_93, hp_94, hp_95, hp_96, hp_97, hp_98, og_75_0, og_75_1, og_75_2, og_75_3, og_75_4, og_75_5, og_75_6, og_75_7, og_75_8, og_75_9, og_75_10, og_75_11, og_75_12, og_75_13, og_75_14, og_75_15, og_75_16, og_75_17, og_75_18, og_75_19, og_75_20, og_75_21, og_75_22, og_75_23, og_75_24, og_75_25, og_75_26, og_75_27, og_75_28, og_75_29, og_75_30, og_75_31, og_75_32, og_75_33, og_75_34, og_75_35, og_75_36, og_75_37, og_75_38, og_75_39, og_75_40, og_75_41, ol_75, uo_75_4, uo_75_5, uo_75_6, uo_75_7, uo_75_11, uo_75_12, uo_75_13, uo_75_15, uo_75_19, uo_75_20, uo_75_21, uo_75_22, uo_75_23, uo_75_26, uo_75_30, uo_75_31, uo_75_32, uo_75_33, ua_76, ua_77, ua_78, ua_79, ua_80, ua_81, ua_82, ua_83, ua_84, ua_85, ua_86, ua_87, ua_88, ua_89, ua_90, ua_91, ua_92, ua_93, ua_94, ua_95, ua_96, ua_97, ua_98, sO_g, sA_g, sA_O, sO_A, sO_2, sM_1, sM_2, sM_3, sM_4, sM_5, sM_6, uc_75, hf, b01_f, ft_8_20, ft_8_21, nu_fitI, nu_fitL, nu_fitO, nu_fitA, nu_fitB0, nu_fitB1]
  refine ⟨fun _ => ⟨fun _ => ?_, fun c => absurd c (ne9 hq)⟩, fun c => absurd trivial c⟩
  rw [← hf, sO_id]
theorem M_fig {t : List Nat} {p : Nat} (hT : TxM s t) (hf : s.2.1 75 21 = mI 9) (ha : s.2.1 75 20 = nI p) (hp : p ≤ 100) (o : Int32) : WM tb (d + 2) k_M_figure [vR 75, vI o] (HP s) 0 0 (fun z h' => (∃ v, fgM t p o = some v ∧ z = some (vI (nI v)) ∧ h' = HP (sO s 75 20 (nI (p + 1)))) ∨ (fgM t p o = none ∧ z = some (vI (nI 0)) ∧ h' = HP (sO s 75 21 (nI p)))) := by
  obtain ⟨h40, hc, hl, har⟩ := hT
  have hcl : (nI p).toNatClampNeg = p := nI_clamp (by omega)
  refine WM.of mi_102 rfl rfl (Nat.le_of_ble_eq_true rfl) ?_
  show WP (mm_rw mr_102) (some .int) tb (WM tb (d + 1)) _ 0 [(0, vR 75), (1, vI o)] [] (HP s) 0 0
  by_cases c : p < t.length
  · have hcc := hc _ (getD_mem c)
    have hv : s.1 86 p = nI (t.getD p 0) := har p c
    (try simp only [Option.toList_some, Option.toList_none, List.nil_append, List.append_nil, List.cons_append, Nat.sub_zero, Nat.sub_self, Nat.zero_sub]); refine Go.wp sp_102 200 ?_; simp only [↓g102_0, ↓g102_1, ↓g102_4, ↓g102_6, ↓g102_9, ↓g102_10, ↓g102_13, ↓g102_14, ↓g102_17, ↓g102_20, ↓g102_21, ↓g102_24, ↓g102_25, ↓g102_28, ↓g102_28t, ↓g102_29, ↓g102_31, ↓g102_32, ↓g102_35, ↓g102_36, ↓g102_37, ↓g102_38, ↓g102_39, ↓g102_40, ↓g102_43, ↓g102_46, ↓g102_49, ↓g102_50, ↓g102_51, ↓g102_52, ↓g102_53, ↓g102_54, ↓g102_57, ↓g102_58, ↓g102_59, ↓g102_62, ↓g102_64, ↓g102_67, ↓g102_68, ↓g102_71, ↓g102_74, ↓g102_75, ↓g102_78, ↓g102_81, ↓g102_82, ↓g102_83, ↓g102_84, ↓g102_85, ↓g102_88, ↓g102_89, ↓g102_90, ↓g102_93, ↓g102_94, cl_99, cn_0, cn_1, cn_2, cn_3, cn_4, cn_5, cn_6, cn_7, cn_8, ↓Go_s, ↓GoC_a, ↓reduceIte, ↓mm_call_eq, ↓mmw_nil, ↓mmw_cons, List.take_succ_cons, List.take_zero, List.take_nil, List.drop_succ_cons, List.drop_zero, List.drop_nil, List.reverse_cons, List.reverse_nil, List.nil_append, List.cons_append, List.append_nil, Option.toList_some, Option.toList_none, Nat.sub_zero, Nat.le_refl, mmr_cons, mm_st1, mm_st2, mmi_nil, mmi_cons, mmc_I, mmc_L, mmc_R, mmu_get, mmu_one, mma_get, mma_one, List.filter_cons, List.filter_nil, List.contains_cons, List.contains_nil, Nat.reduceBEq, Nat.reduceAdd, Nat.reduceLT, Nat.reduceSub, Nat.reduceLeDiff, Nat.reduceEqDiff, Int32.reduceAdd, Bool.not_true, Bool.not_false, Bool.and_true, Bool.true_and, Bool.and_false, Bool.false_and, Bool.or_false, Bool.false_or, Bool.or_true, Bool.true_or, if_true, if_false, ite_true, ite_false, Bool.false_eq_true, List.getElem?_cons_zero, List.getElem?_cons_succ, List.length_cons, List.length_nil, true_and, and_true, List.set_cons_zero, List.set_cons_succ, Fin.isValue, Fin.val_zero, Fin.val_one, Fin.val_two, Fin.reduceFinMk, Nat.zero_add, hp_75, hp_76, hp_77, hp_78, hp_79, hp_80, hp_81, hp_82, hp_83, hp_84, hp_85, hp_86, hp_87, hp_88, hp_89, hp_90, hp_91, hp_92, hp_93, hp_94, hp_95, hp_96, hp_97, hp_98, og_75_0, og_75_1, og_75_2, og_75_3, og_75_4, og_75_5, og_75_6, og_75_7, og_75_8, og_75_9, og_75_10, og_75_11, og_75_12, og_75_13, og_75_14, og_75_15, og_75_16, og_75_17, og_75_18, og_75_19, og_75_20, og_75_21, og_75_22, og_75_23, og_75_24, og_75_25, og_75_26, og_75_27, og_75_28, og_75_29, og_75_30, og_75_31, og_75_32, og_75_33, og_75_34, og_75_35, og_75_36, og_75_37, og_75_38, og_75_39, og_75_40, og_75_41, ol_75, uo_75_4, uo_75_5, uo_75_6, uo_75_7, uo_75_11, uo_75_12, uo_75_13, uo_75_15, uo_75_19, uo_75_20, uo_75_21, uo_75_22, uo_75_23, uo_75_26, uo_75_30, uo_75_31, uo_75_32, uo_75_33, ua_76, ua_77, ua_78, ua_79, ua_80, ua_81, ua_82, ua_83, ua_84, ua_85, ua_86, ua_87, ua_88, ua_89, ua_90, ua_91, ua_92, ua_93, ua_94, ua_95, ua_96, ua_97, ua_98, sO_g, sA_g, sA_O, sO_A, sO_2, sM_1, sM_2, sM_3, sM_4, sM_5, sM_6, uc_75, hf, ha, hl, hcl, hv, ft_8_20, ft_8_21, nu_fitI, nu_fitL, nu_fitO, nu_fitA, nu_fitB0, nu_fitB1]
    refine ⟨fun c => absurd trivial c, fun _ => ⟨fun c2 => absurd c2 (nI_ge c (by omega)), fun _ => ⟨vp_in_nI (by omega) (by omega), 0, 0, _, Nat.le_refl _, Nat.le_refl _, M_in _ _ _ _, fun z h' hz => ?_⟩⟩⟩
    obtain ⟨rfl, rfl⟩ := hz
    rw [in09 _ hcc]
    by_cases c1 : 48 ≤ t.getD p 0 ∧ t.getD p 0 < 58
    · have e48 : nI (t.getD p 0) - 48 = nI (t.getD p 0 - 48) := by rw [lit_48, pk_sub c1.1]
      rw [decide_eq_true c1, e48]
      (try simp only [Option.toList_some, Option.toList_none, List.nil_append, List.append_nil, List.cons_append, Nat.sub_zero, Nat.sub_self, Nat.zero_sub]); refine Go.wp sp_102 200 ?_; simp only [↓g102_0, ↓g102_1, ↓g102_4, ↓g102_6, ↓g102_9, ↓g102_10, ↓g102_13, ↓g102_14, ↓g102_17, ↓g102_20, ↓g102_21, ↓g102_24, ↓g102_25, ↓g102_28, ↓g102_28t, ↓g102_29, ↓g102_31, ↓g102_32, ↓g102_35, ↓g102_36, ↓g102_37, ↓g102_38, ↓g102_39, ↓g102_40, ↓g102_43, ↓g102_46, ↓g102_49, ↓g102_50, ↓g102_51, ↓g102_52, ↓g102_53, ↓g102_54, ↓g102_57, ↓g102_58, ↓g102_59, ↓g102_62, ↓g102_64, ↓g102_67, ↓g102_68, ↓g102_71, ↓g102_74, ↓g102_75, ↓g102_78, ↓g102_81, ↓g102_82, ↓g102_83, ↓g102_84, ↓g102_85, ↓g102_88, ↓g102_89, ↓g102_90, ↓g102_93, ↓g102_94, cl_99, cn_0, cn_1, cn_2, cn_3, cn_4, cn_5, cn_6, cn_7, cn_8, ↓Go_s, ↓GoC_a, ↓reduceIte, ↓mm_call_eq, ↓mmw_nil, ↓mmw_cons, List.take_succ_cons, List.take_zero, List.take_nil, List.drop_succ_cons, List.drop_zero, List.drop_nil, List.reverse_cons, List.reverse_nil, List.nil_append, List.cons_append, List.append_nil, Option.toList_some, Option.toList_none, Nat.sub_zero, Nat.le_refl, mmr_cons, mm_st1, mm_st2, mmi_nil, mmi_cons, mmc_I, mmc_L, mmc_R, mmu_get, mmu_one, mma_get, mma_one, List.filter_cons, List.filter_nil, List.contains_cons, List.contains_nil, Nat.reduceBEq, Nat.reduceAdd, Nat.reduceLT, Nat.reduceSub, Nat.reduceLeDiff, Nat.reduceEqDiff, Int32.reduceAdd, Bool.not_true, Bool.not_false, Bool.and_true, Bool.true_and, Bool.and_false, Bool.false_and, Bool.or_false, Bool.false_or, Bool.or_true, Bool.true_or, if_true, if_false, ite_true, ite_false, Bool.false_eq_true, List.getElem?_cons_zero, List.getElem?_cons_succ, List.length_cons, List.length_nil, true_and, and_true, List.set_cons_zero, List.set_cons_succ, Fin.isValue, Fin.val_zero, Fin.val_one, Fin.val_two, Fin.reduceFinMk, Nat.zero_add, hp_75, hp_76, hp_77, hp_78, hp_79, hp_80, hp_81, hp_82, hp_83, hp_84, hp_85, hp_86, hp_87, hp_88, hp_89, hp_90, hp_91, hp_92, hp_93, hp_94, hp_95, hp_96, hp_97, hp_98, og_75_0, og_75_1, og_75_2, og_75_3, og_75_4, og_75_5, og_75_6, og_75_7, og_75_8, og_75_9, og_75_10, og_75_11, og_75_12, og_75_13, og_75_14, og_75_15, og_75_16, og_75_17, og_75_18, og_75_19, og_75_20, og_75_21, og_75_22, og_75_23, og_75_24, og_75_25, og_75_26, og_75_27, og_75_28, og_75_29, og_75_30, og_75_31, og_75_32, og_75_33, og_75_34, og_75_35, og_75_36, og_75_37, og_75_38, og_75_39, og_75_40, og_75_41, ol_75, uo_75_4, uo_75_5, uo_75_6, uo_75_7, uo_75_11, uo_75_12, uo_75_13, uo_75_15, uo_75_19, uo_75_20, uo_75_21, uo_75_22, uo_75_23, uo_75_26, uo_75_30, uo_75_31, uo_75_32, uo_75_33, ua_76, ua_77, ua_78, ua_79, ua_80, ua_81, ua_82, ua_83, ua_84, ua_85, ua_86, ua_87, ua_88, ua_89, ua_90, ua_91, ua_92, ua_93, ua_94, ua_95, ua_96, ua_97, ua_98, sO_g, sA_g, sA_O, sO_A, sO_2, sM_1, sM_2, sM_3, sM_4, sM_5, sM_6, uc_75, hf, ha, b01_t, bit_of (show t.getD p 0 - 48 < 31 by omega), nI_1, ft_8_20, ft_8_21, nu_fitI, nu_fitL, nu_fitO, nu_fitA, nu_fitB0, nu_fitB1]
      cases hb : bt o (t.getD p 0 - 48)
      · rw [if_neg (by simp)]
        refine ⟨fun c => absurd c (by decide), fun _ => ⟨fun c => absurd rfl c, fun _ => ⟨fun c => absurd trivial c, fun _ => Or.inr ⟨fgM_n (fun h => by rw [hb] at h; exact absurd h.2.2 (by simp)), rfl⟩⟩⟩⟩
      · rw [if_pos rfl]
        refine ⟨fun c => absurd c (by decide), fun _ => ⟨fun _ => Or.inl ⟨_, fgM_y ⟨c, c1, hb⟩, rfl⟩, fun c => absurd c (by decide)⟩⟩
    · rw [decide_eq_false c1]
      (try simp only [Option.toList_some, Option.toList_none, List.nil_append, List.append_nil, List.cons_append, Nat.sub_zero, Nat.sub_self, Nat.zero_sub]); refine Go.wp sp_102 200 ?_; simp only [↓g102_0, ↓g102_1, ↓g102_4, ↓g102_6, ↓g102_9, ↓g102_10, ↓g102_13, ↓g102_14, ↓g102_17, ↓g102_20, ↓g102_21, ↓g102_24, ↓g102_25, ↓g102_28, ↓g102_28t, ↓g102_29, ↓g102_31, ↓g102_32, ↓g102_35, ↓g102_36, ↓g102_37, ↓g102_38, ↓g102_39, ↓g102_40, ↓g102_43, ↓g102_46, ↓g102_49, ↓g102_50, ↓g102_51, ↓g102_52, ↓g102_53, ↓g102_54, ↓g102_57, ↓g102_58, ↓g102_59, ↓g102_62, ↓g102_64, ↓g102_67, ↓g102_68, ↓g102_71, ↓g102_74, ↓g102_75, ↓g102_78, ↓g102_81, ↓g102_82, ↓g102_83, ↓g102_84, ↓g102_85, ↓g102_88, ↓g102_89, ↓g102_90, ↓g102_93, ↓g102_94, cl_99, cn_0, cn_1, cn_2, cn_3, cn_4, cn_5, cn_6, cn_7, cn_8, ↓Go_s, ↓GoC_a, ↓reduceIte, ↓mm_call_eq, ↓mmw_nil, ↓mmw_cons, List.take_succ_cons, List.take_zero, List.take_nil, List.drop_succ_cons, List.drop_zero, List.drop_nil, List.reverse_cons, List.reverse_nil, List.nil_append, List.cons_append, List.append_nil, Option.toList_some, Option.toList_none, Nat.sub_zero, Nat.le_refl, mmr_cons, mm_st1, mm_st2, mmi_nil, mmi_cons, mmc_I, mmc_L, mmc_R, mmu_get, mmu_one, mma_get, mma_one, List.filter_cons, List.filter_nil, List.contains_cons, List.contains_nil, Nat.reduceBEq, Nat.reduceAdd, Nat.reduceLT, Nat.reduceSub, Nat.reduceLeDiff, Nat.reduceEqDiff, Int32.reduceAdd, Bool.not_true, Bool.not_false, Bool.and_true, Bool.true_and, Bool.and_false, Bool.false_and, Bool.or_false, Bool.false_or, Bool.or_true, Bool.true_or, if_true, if_false, ite_true, ite_false, Bool.false_eq_true, List.getElem?_cons_zero, List.getElem?_cons_succ, List.length_cons, List.length_nil, true_and, and_true, List.set_cons_zero, List.set_cons_succ, Fin.isValue, Fin.val_zero, Fin.val_one, Fin.val_two, Fin.reduceFinMk, Nat.zero_add, hp_75, hp_76, hp_77, hp_78, hp_79, hp_80, hp_81, hp_82, hp_83, hp_84, hp_85, hp_86, hp_87, hp_88, hp_89, hp_90, hp_91, hp_92, hp_93, hp_94, hp_95, hp_96, hp_97, hp_98, og_75_0, og_75_1, og_75_2, og_75_3, og_75_4, og_75_5, og_75_6, og_75_7, og_75_8, og_75_9, og_75_10, og_75_11, og_75_12, og_75_13, og_75_14, og_75_15, og_75_16, og_75_17, og_75_18, og_75_19, og_75_20, og_75_21, og_75_22, og_75_23, og_75_24, og_75_25, og_75_26, og_75_27, og_75_28, og_75_29, og_75_30, og_75_31, og_75_32, og_75_33, og_75_34, og_75_35, og_75_36, og_75_37, og_75_38, og_75_39, og_75_40, og_75_41, ol_75, uo_75_4, uo_75_5, uo_75_6, uo_75_7, uo_75_11, uo_75_12, uo_75_13, uo_75_15, uo_75_19, uo_75_20, uo_75_21, uo_75_22, uo_75_23, uo_75_26, uo_75_30, uo_75_31, uo_75_32, uo_75_33, ua_76, ua_77, ua_78, ua_79, ua_80, ua_81, ua_82, ua_83, ua_84, ua_85, ua_86, ua_87, ua_88, ua_89, ua_90, ua_91, ua_92, ua_93, ua_94, ua_95, ua_96, ua_97, ua_98, sO_g, sA_g, sA_O, sO_A, sO_2, sM_1, sM_2, sM_3, sM_4, sM_5, sM_6, uc_75, hf, ha, b01_f, ft_8_20, ft_8_21, nu_fitI, nu_fitL, nu_fitO, nu_fitA, nu_fitB0, nu_fitB1]
      exact ⟨fun _ => ⟨fun c => absurd trivial c, fun _ => Or.inr ⟨fgM_n (fun h => c1 h.2.1), rfl⟩⟩, fun c => absurd trivial c⟩
  · (try simp only [Option.toList_some, Option.toList_none, List.nil_append, List.append_nil, List.cons_append, Nat.sub_zero, Nat.sub_self, Nat.zero_sub]); refine Go.wp sp_102 200 ?_; simp only [↓g102_0, ↓g102_1, ↓g102_4, ↓g102_6, ↓g102_9, ↓g102_10, ↓g102_13, ↓g102_14, ↓g102_17, ↓g102_20, ↓g102_21, ↓g102_24, ↓g102_25, ↓g102_28, ↓g102_28t, ↓g102_29, ↓g102_31, ↓g102_32, ↓g102_35, ↓g102_36, ↓g102_37, ↓g102_38, ↓g102_39, ↓g102_40, ↓g102_43, ↓g102_46, ↓g102_49, ↓g102_50, ↓g102_51, ↓g102_52, ↓g102_53, ↓g102_54, ↓g102_57, ↓g102_58, ↓g102_59, ↓g102_62, ↓g102_64, ↓g102_67, ↓g102_68, ↓g102_71, ↓g102_74, ↓g102_75, ↓g102_78, ↓g102_81, ↓g102_82, ↓g102_83, ↓g102_84, ↓g102_85, ↓g102_88, ↓g102_89, ↓g102_90, ↓g102_93, ↓g102_94, cl_99, cn_0, cn_1, cn_2, cn_3, cn_4, cn_5, cn_6, cn_7, cn_8, ↓Go_s, ↓GoC_a, ↓reduceIte, ↓mm_call_eq, ↓mmw_nil, ↓mmw_cons, List.take_succ_cons, List.take_zero, List.take_nil, List.drop_succ_cons, List.drop_zero, List.drop_nil, List.reverse_cons, List.reverse_nil, List.nil_append, List.cons_append, List.append_nil, Option.toList_some, Option.toList_none, Nat.sub_zero, Nat.le_refl, mmr_cons, mm_st1, mm_st2, mmi_nil, mmi_cons, mmc_I, mmc_L, mmc_R, mmu_get, mmu_one, mma_get, mma_one, List.filter_cons, List.filter_nil, List.contains_cons, List.contains_nil, Nat.reduceBEq, Nat.reduceAdd, Nat.reduceLT, Nat.reduceSub, Nat.reduceLeDiff, Nat.reduceEqDiff, Int32.reduceAdd, Bool.not_true, Bool.not_false, Bool.and_true, Bool.true_and, Bool.and_false, Bool.false_and, Bool.or_false, Bool.false_or, Bool.or_true, Bool.true_or, if_true, if_false, ite_true, ite_false, Bool.false_eq_true, List.getElem?_cons_zero, List.getElem?_cons_succ, List.length_cons, List.length_nil, true_and, and_true, List.set_cons_zero, List.set_cons_succ, Fin.isValue, Fin.val_zero, Fin.val_one, Fin.val_two, Fin.reduceFinMk, Nat.zero_add, hp_75, hp_76, hp_77, hp_78, hp_79, hp_80, hp_81, hp_82, hp_83, hp_84, hp_85, hp_86, hp_87, hp_88, hp_89, hp_90, hp_91, hp_92, hp_93, hp_94, hp_95, hp_96, hp_97, hp_98, og_75_0, og_75_1, og_75_2, og_75_3, og_75_4, og_75_5, og_75_6, og_75_7, og_75_8, og_75_9, og_75_10, og_75_11, og_75_12, og_75_13, og_75_14, og_75_15, og_75_16, og_75_17, og_75_18, og_75_19, og_75_20, og_75_21, og_75_22, og_75_23, og_75_24, og_75_25, og_75_26, og_75_27, og_75_28, og_75_29, og_75_30, og_75_31, og_75_32, og_75_33, og_75_34, og_75_35, og_75_36, og_75_37, og_75_38, og_75_39, og_75_40, og_75_41, ol_75, uo_75_4, uo_75_5, uo_75_6, uo_75_7, uo_75_11, uo_75_12, uo_75_13, uo_75_15, uo_75_19, uo_75_20, uo_75_21, uo_75_22, uo_75_23, uo_75_26, uo_75_30, uo_75_31, uo_75_32, uo_75_33, ua_76, ua_77, ua_78, ua_79, ua_80, ua_81, ua_82, ua_83, ua_84, ua_85, ua_86, ua_87, ua_88, ua_89, ua_90, ua_91, ua_92, ua_93, ua_94, ua_95, ua_96, ua_97, ua_98, sO_g, sA_g, sA_O, sO_A, sO_2, sM_1, sM_2, sM_3, sM_4, sM_5, sM_6, uc_75, hf, ha, hl, hcl, ft_8_20, ft_8_21, nu_fitI, nu_fitL, nu_fitO, nu_fitA, nu_fitB0, nu_fitB1]
    refine ⟨fun c => absurd trivial c, fun _ => ⟨fun _ => ⟨0, 0, _, Nat.le_refl _, Nat.le_refl _, M_in _ _ _ _, fun z h' hz => ?_⟩, fun c2 => absurd (nI_le (Nat.not_lt.mp c) (by omega)) c2⟩⟩
    obtain ⟨rfl, rfl⟩ := hz
    rw [in09m]
    (try simp only [Option.toList_some, Option.toList_none, List.nil_append, List.append_nil, List.cons_append, Nat.sub_zero, Nat.sub_self, Nat.zero_sub]); refine Go.wp sp_102 200 ?_; simp only [↓g102_0, ↓g102_1, ↓g102_4, ↓g102_6, ↓g102_9, ↓g102_10, ↓g102_13, ↓g102_14, ↓g102_17, ↓g102_20, ↓g102_21, ↓g102_24, ↓g102_25, ↓g102_28, ↓g102_28t, ↓g102_29, ↓g102_31, ↓g102_32, ↓g102_35, ↓g102_36, ↓g102_37, ↓g102_38, ↓g102_39, ↓g102_40, ↓g102_43, ↓g102_46, ↓g102_49, ↓g102_50, ↓g102_51, ↓g102_52, ↓g102_53, ↓g102_54, ↓g102_57, ↓g102_58, ↓g102_59, ↓g102_62, ↓g102_64, ↓g102_67, ↓g102_68, ↓g102_71, ↓g102_74, ↓g102_75, ↓g102_78, ↓g102_81, ↓g102_82, ↓g102_83, ↓g102_84, ↓g102_85, ↓g102_88, ↓g102_89, ↓g102_90, ↓g102_93, ↓g102_94, cl_99, cn_0, cn_1, cn_2, cn_3, cn_4, cn_5, cn_6, cn_7, cn_8, ↓Go_s, ↓GoC_a, ↓reduceIte, ↓mm_call_eq, ↓mmw_nil, ↓mmw_cons, List.take_succ_cons, List.take_zero, List.take_nil, List.drop_succ_cons, List.drop_zero, List.drop_nil, List.reverse_cons, List.reverse_nil, List.nil_append, List.cons_append, List.append_nil, Option.toList_some, Option.toList_none, Nat.sub_zero, Nat.le_refl, mmr_cons, mm_st1, mm_st2, mmi_nil, mmi_cons, mmc_I, mmc_L, mmc_R, mmu_get, mmu_one, mma_get, mma_one, List.filter_cons, List.filter_nil, List.contains_cons, List.contains_nil, Nat.reduceBEq, Nat.reduceAdd, Nat.reduceLT, Nat.reduceSub, Nat.reduceLeDiff, Nat.reduceEqDiff, Int32.reduceAdd, Bool.not_true, Bool.not_false, Bool.and_true, Bool.true_and, Bool.and_false, Bool.false_and, Bool.or_false, Bool.false_or, Bool.or_true, Bool.true_or, if_true, if_false, ite_true, ite_false, Bool.false_eq_true, List.getElem?_cons_zero, List.getElem?_cons_succ, List.length_cons, List.length_nil, true_and, and_true, List.set_cons_zero, List.set_cons_succ, Fin.isValue, Fin.val_zero, Fin.val_one, Fin.val_two, Fin.reduceFinMk, Nat.zero_add, hp_75, hp_76, hp_77, hp_78, hp_79, hp_80, hp_81, hp_82, hp_83, hp_84, hp_85, hp_86, hp_87, hp_88, hp_89, hp_90, hp_91, hp_92, hp_93, hp_94, hp_95, hp_96, hp_97, hp_98, og_75_0, og_75_1, og_75_2, og_75_3, og_75_4, og_75_5, og_75_6, og_75_7, og_75_8, og_75_9, og_75_10, og_75_11, og_75_12, og_75_13, og_75_14, og_75_15, og_75_16, og_75_17, og_75_18, og_75_19, og_75_20, og_75_21, og_75_22, og_75_23, og_75_24, og_75_25, og_75_26, og_75_27, og_75_28, og_75_29, og_75_30, og_75_31, og_75_32, og_75_33, og_75_34, og_75_35, og_75_36, og_75_37, og_75_38, og_75_39, og_75_40, og_75_41, ol_75, uo_75_4, uo_75_5, uo_75_6, uo_75_7, uo_75_11, uo_75_12, uo_75_13, uo_75_15, uo_75_19, uo_75_20, uo_75_21, uo_75_22, uo_75_23, uo_75_26, uo_75_30, uo_75_31, uo_75_32, uo_75_33, ua_76, ua_77, ua_78, ua_79, ua_80, ua_81, ua_82, ua_83, ua_84, ua_85, ua_86, ua_87, ua_88, ua_89, ua_90, ua_91, ua_92, ua_93, ua_94, ua_95, ua_96, ua_97, ua_98, sO_g, sA_g, sA_O, sO_A, sO_2, sM_1, sM_2, sM_3, sM_4, sM_5, sM_6, uc_75, hf, ha, b01_f, ft_8_20, ft_8_21, nu_fitI, nu_fitL, nu_fitO, nu_fitA, nu_fitB0, nu_fitB1]
    exact ⟨fun _ => ⟨fun c => absurd trivial c, fun _ => Or.inr ⟨fgM_n (fun h => c h.1), rfl⟩⟩, fun c => absurd trivial c⟩
/-- the bits o: books below n that are not in acc -/
def OpB (o : Int32) (n : Nat) (acc : List Nat) : Prop := ∀ i, i < 32 → bt o i = decide (i < n ∧ i ∉ acc)
theorem OpB.fq {o : Int32} {n : Nat} {acc : List Nat} (h : OpB o n acc) (hn : n ≤ 10) (t : List Nat) (p : Nat) : fgM t p o = match fg t p n with
    | none => none
    | some b => if b ∈ acc then none else some b := by
  unfold fgM fg
  by_cases c : p < t.length ∧ 48 ≤ t.getD p 0 ∧ t.getD p 0 < 48 + n
  · rw [if_pos c]
    by_cases c2 : t.getD p 0 - 48 ∈ acc
    · simp only [if_pos c2]
      rw [if_neg]
      intro q
      rw [h _ (by omega), decide_eq_true_eq] at q
      exact q.2.2.2 c2
    · simp only [if_neg c2]
      rw [if_pos]
      refine ⟨c.1, by omega, ?_⟩
      rw [h _ (by omega), decide_eq_true_eq]
      exact ⟨by omega, c2⟩
  · rw [if_neg c, if_neg]
    intro q
    rw [h _ (by omega), decide_eq_true_eq] at q
    exact c ⟨q.1, q.2.1.1, by omega⟩
theorem OpB.fq0 {o : Int32} {n : Nat} (h : OpB o n []) (hn : n ≤ 10) (t : List Nat) (p : Nat) : fgM t p o = fg t p n := by
  rw [h.fq hn]
  cases fg t p n <;> simp
theorem opB_0 : ∀ n, n < 11 → ∀ i, i < 32 → bt (((1 : Int32) <<< (nI n &&& 31)) - 1) i = decide (i < n) := by decide +kernel
theorem OpB.z {n : Nat} (hn : n < 11) : OpB (((1 : Int32) <<< (nI n &&& 31)) - 1) n [] := fun i hi => by rw [opB_0 n hn i hi]; simp
theorem opB_7 : OpB 7 3 [] := fun i hi => by
  have h : ∀ i, i < 32 → bt 7 i = decide (i < 3) := by decide +kernel
  rw [h i hi]; simp
theorem opB_1023 : OpB 1023 10 [] := fun i hi => by
  have h : ∀ i, i < 32 → bt 1023 i = decide (i < 10) := by decide +kernel
  rw [h i hi]; simp
theorem fgM_508 (t : List Nat) (p : Nat) : fgM t p 508 = match fg t p 9 with
    | none => none
    | some b => if b < 2 then none else some b := by
  have h : ∀ i, i < 32 → bt 508 i = decide (i < 9 ∧ 2 ≤ i) := by decide +kernel
  unfold fgM fg
  by_cases c : p < t.length ∧ 48 ≤ t.getD p 0 ∧ t.getD p 0 < 48 + 9
  · rw [if_pos c]
    by_cases c2 : t.getD p 0 - 48 < 2
    · simp only [if_pos c2]
      rw [if_neg]
      intro q
      rw [h _ (by omega), decide_eq_true_eq] at q
      omega
    · simp only [if_neg c2]
      rw [if_pos]
      refine ⟨c.1, by omega, ?_⟩
      rw [h _ (by omega), decide_eq_true_eq]
      omega
  · rw [if_neg c, if_neg]
    intro q
    rw [h _ (by omega), decide_eq_true_eq] at q
    exact c ⟨q.1, q.2.1.1, by omega⟩
theorem OpB.su {o : Int32} {n : Nat} {acc : List Nat} (h : OpB o n acc) {b : Nat} (hb : b < 32) : OpB (o &&& (((1 : Int32) <<< (nI b &&& 31)) ^^^ mI 1)) n (acc ++ [b]) := fun i hi => by
  have h1 : bt (mI 1) i = true := b_m1 i hi
  rw [b_and, b_xor, h i hi, bt_sh hb hi, h1]
  by_cases e : i = b
  · simp [e]
  · simp [e]
theorem Ar.snc {f : Nat → Int32} {xs : List Nat} (h : Ar f xs) (v : Nat) : Ar (upd f xs.length (nI v)) (xs ++ [v]) := by
  intro j hj
  rw [List.length_append, List.length_singleton] at hj
  rw [tx_get]
  unfold upd
  by_cases e : j = xs.length
  · rw [if_pos e, if_neg (by omega), e]
    simp
  · rw [if_neg e, if_pos (by omega)]
    exact h j (by omega)
end LIBM
