/-! the search: the class's own -/
abbrev sp_53 : List Nat := [4, 22]
section G53
variable {tb : Nat → Nat × (Nat → Int32)} {call : CO} {Q : AQ} {C : CP} {lv : AL} {st : List AV} {h : AH} {kc ks : Nat}
theorem g53_0  : mm_step (mm_rw mr_53) (some .int) tb call Q C 0 lv st h kc ks = (C 1 lv (vI 0 :: st) h kc ks) := rfl
theorem g53_1 (a : Int32) : mm_step (mm_rw mr_53) (some .int) tb call Q C 1 lv (.inl a :: st) h kc ks = (C 2 (mm_st1 lv 1 (vI a)) st h kc ks) := rfl
theorem g53_2  : mm_step (mm_rw mr_53) (some .int) tb call Q C 2 lv st h kc ks = (C 3 lv (vI 0 :: st) h kc ks) := rfl
theorem g53_3 (a : Int32) : mm_step (mm_rw mr_53) (some .int) tb call Q C 3 lv (.inl a :: st) h kc ks = (C 4 (mm_st1 lv 2 (vI a)) st h kc ks) := rfl
theorem g53_4  : mm_step (mm_rw mr_53) (some .int) tb call Q C 4 lv st h kc ks = (match mm_rd lv 2 with
    | some (.inl a) => C 5 lv (vI a :: st) h kc ks
    | _ => False) := rfl
theorem g53_5  : mm_step (mm_rw mr_53) (some .int) tb call Q C 5 lv st h kc ks = (match mm_rd lv 0 with
    | some (.inr (.inr (.inl (some k)))) => C 6 lv (vR k :: st) h kc ks
    | some (.inr (.inr (.inr t))) => C 6 lv (vT t :: st) h kc ks
    | _ => False) := rfl
theorem g53_6 (k : Nat) : mm_step (mm_rw mr_53) (some .int) tb call Q C 6 lv (.inr (.inr (.inl (some k))) :: st) h kc ks = (match h.2 k with
    | some (.inr (.inr (ci, fs))) => ci = 6 ∧ (match fs[3]? with
      | some v => C 9 lv (v :: st) h kc ks
      | none => False)
    | _ => False) := rfl
theorem g53_9 (k : Nat) : mm_step (mm_rw mr_53) (some .int) tb call Q C 9 lv (.inr (.inr (.inl (some k))) :: st) h kc ks = (match h.2 k with
    | some (.inr (.inr (ci, fs))) => ci = 5 ∧ (match fs[1]? with
      | some v => C 12 lv (v :: st) h kc ks
      | none => False)
    | _ => False) := rfl
theorem g53_12 (a b : Int32) : mm_step (mm_rw mr_53) (some .int) tb call Q C 12 lv (.inl b :: .inl a :: st) h kc ks = ((b ≤ a → C 85 lv st h kc ks) ∧ (¬ b ≤ a → C 15 lv st h kc ks)) := rfl
theorem g53_15  : mm_step (mm_rw mr_53) (some .int) tb call Q C 15 lv st h kc ks = (C 16 lv (vI 0 :: st) h kc ks) := rfl
theorem g53_16 (a : Int32) : mm_step (mm_rw mr_53) (some .int) tb call Q C 16 lv (.inl a :: st) h kc ks = (C 17 (mm_st1 lv 3 (vI a)) st h kc ks) := rfl
theorem g53_17  : mm_step (mm_rw mr_53) (some .int) tb call Q C 17 lv st h kc ks = (match mm_rd lv 2 with
    | some (.inl a) => C 18 lv (vI a :: st) h kc ks
    | _ => False) := rfl
theorem g53_18  : mm_step (mm_rw mr_53) (some .int) tb call Q C 18 lv st h kc ks = (C 19 lv (vI 1 :: st) h kc ks) := rfl
theorem g53_19 (a b : Int32) : mm_step (mm_rw mr_53) (some .int) tb call Q C 19 lv (.inl b :: .inl a :: st) h kc ks = (C 20 lv (vI (a + b) :: st) h kc ks) := rfl
theorem g53_20 (a : Int32) : mm_step (mm_rw mr_53) (some .int) tb call Q C 20 lv (.inl a :: st) h kc ks = (C 22 (mm_st1 lv 4 (vI a)) st h kc ks) := rfl
theorem g53_22  : mm_step (mm_rw mr_53) (some .int) tb call Q C 22 lv st h kc ks = (match mm_rd lv 4 with
    | some (.inl a) => C 24 lv (vI a :: st) h kc ks
    | _ => False) := rfl
theorem g53_24  : mm_step (mm_rw mr_53) (some .int) tb call Q C 24 lv st h kc ks = (match mm_rd lv 0 with
    | some (.inr (.inr (.inl (some k)))) => C 25 lv (vR k :: st) h kc ks
    | some (.inr (.inr (.inr t))) => C 25 lv (vT t :: st) h kc ks
    | _ => False) := rfl
theorem g53_25 (k : Nat) : mm_step (mm_rw mr_53) (some .int) tb call Q C 25 lv (.inr (.inr (.inl (some k))) :: st) h kc ks = (match h.2 k with
    | some (.inr (.inr (ci, fs))) => ci = 6 ∧ (match fs[3]? with
      | some v => C 28 lv (v :: st) h kc ks
      | none => False)
    | _ => False) := rfl
theorem g53_28 (k : Nat) : mm_step (mm_rw mr_53) (some .int) tb call Q C 28 lv (.inr (.inr (.inl (some k))) :: st) h kc ks = (match h.2 k with
    | some (.inr (.inr (ci, fs))) => ci = 5 ∧ (match fs[1]? with
      | some v => C 31 lv (v :: st) h kc ks
      | none => False)
    | _ => False) := rfl
theorem g53_31 (a b : Int32) : mm_step (mm_rw mr_53) (some .int) tb call Q C 31 lv (.inl b :: .inl a :: st) h kc ks = ((b ≤ a → C 65 lv st h kc ks) ∧ (¬ b ≤ a → C 34 lv st h kc ks)) := rfl
theorem g53_34  : mm_step (mm_rw mr_53) (some .int) tb call Q C 34 lv st h kc ks = (match mm_rd lv 0 with
    | some (.inr (.inr (.inl (some k)))) => C 35 lv (vR k :: st) h kc ks
    | some (.inr (.inr (.inr t))) => C 35 lv (vT t :: st) h kc ks
    | _ => False) := rfl
theorem g53_35 (k : Nat) : mm_step (mm_rw mr_53) (some .int) tb call Q C 35 lv (.inr (.inr (.inl (some k))) :: st) h kc ks = (match h.2 k with
    | some (.inr (.inr (ci, fs))) => ci = 6 ∧ (match fs[3]? with
      | some v => C 38 lv (v :: st) h kc ks
      | none => False)
    | _ => False) := rfl
theorem g53_38 (k : Nat) : mm_step (mm_rw mr_53) (some .int) tb call Q C 38 lv (.inr (.inr (.inl (some k))) :: st) h kc ks = (match h.2 k with
    | some (.inr (.inr (ci, fs))) => ci = 5 ∧ (match fs[0]? with
      | some v => C 41 lv (v :: st) h kc ks
      | none => False)
    | _ => False) := rfl
theorem g53_41  : mm_step (mm_rw mr_53) (some .int) tb call Q C 41 lv st h kc ks = (match mm_rd lv 4 with
    | some (.inl a) => C 43 lv (vI a :: st) h kc ks
    | _ => False) := rfl
theorem g53_43 (i : Int32) (k : Nat) : mm_step (mm_rw mr_53) (some .int) tb call Q C 43 lv (.inl i :: .inr (.inr (.inl (some k))) :: st) h kc ks = (match h.2 k with
    | some (.inl (.int, n, f)) => vp_in i n ∧ C 44 lv (vI (f i.toNatClampNeg) :: st) h kc ks
    | _ => False) := rfl
theorem g53_43t (i : Int32) (t : Nat) : mm_step (mm_rw mr_53) (some .int) tb call Q C 43 lv (.inl i :: .inr (.inr (.inr t)) :: st) h kc ks = (vp_in i (tb t).1 ∧ C 44 lv (vI ((tb t).2 i.toNatClampNeg) :: st) h kc ks) := rfl
theorem g53_44  : mm_step (mm_rw mr_53) (some .int) tb call Q C 44 lv st h kc ks = (match mm_rd lv 0 with
    | some (.inr (.inr (.inl (some k)))) => C 45 lv (vR k :: st) h kc ks
    | some (.inr (.inr (.inr t))) => C 45 lv (vT t :: st) h kc ks
    | _ => False) := rfl
theorem g53_45 (k : Nat) : mm_step (mm_rw mr_53) (some .int) tb call Q C 45 lv (.inr (.inr (.inl (some k))) :: st) h kc ks = (match h.2 k with
    | some (.inr (.inr (ci, fs))) => ci = 6 ∧ (match fs[3]? with
      | some v => C 48 lv (v :: st) h kc ks
      | none => False)
    | _ => False) := rfl
theorem g53_48 (k : Nat) : mm_step (mm_rw mr_53) (some .int) tb call Q C 48 lv (.inr (.inr (.inl (some k))) :: st) h kc ks = (match h.2 k with
    | some (.inr (.inr (ci, fs))) => ci = 5 ∧ (match fs[0]? with
      | some v => C 51 lv (v :: st) h kc ks
      | none => False)
    | _ => False) := rfl
theorem g53_51  : mm_step (mm_rw mr_53) (some .int) tb call Q C 51 lv st h kc ks = (match mm_rd lv 2 with
    | some (.inl a) => C 52 lv (vI a :: st) h kc ks
    | _ => False) := rfl
theorem g53_52 (i : Int32) (k : Nat) : mm_step (mm_rw mr_53) (some .int) tb call Q C 52 lv (.inl i :: .inr (.inr (.inl (some k))) :: st) h kc ks = (match h.2 k with
    | some (.inl (.int, n, f)) => vp_in i n ∧ C 53 lv (vI (f i.toNatClampNeg) :: st) h kc ks
    | _ => False) := rfl
theorem g53_52t (i : Int32) (t : Nat) : mm_step (mm_rw mr_53) (some .int) tb call Q C 52 lv (.inl i :: .inr (.inr (.inr t)) :: st) h kc ks = (vp_in i (tb t).1 ∧ C 53 lv (vI ((tb t).2 i.toNatClampNeg) :: st) h kc ks) := rfl
theorem g53_53 (a b : Int32) : mm_step (mm_rw mr_53) (some .int) tb call Q C 53 lv (.inl b :: .inl a :: st) h kc ks = ((b ≤ a → C 59 lv st h kc ks) ∧ (¬ b ≤ a → C 56 lv st h kc ks)) := rfl
theorem g53_56  : mm_step (mm_rw mr_53) (some .int) tb call Q C 56 lv st h kc ks = (match mm_rd lv 3 with
    | some (.inl a) => C 59 (mm_st1 lv 3 (vI (a + 1))) st h kc ks
    | _ => False) := rfl
theorem g53_59  : mm_step (mm_rw mr_53) (some .int) tb call Q C 59 lv st h kc ks = (match mm_rd lv 4 with
    | some (.inl a) => C 62 (mm_st1 lv 4 (vI (a + 1))) st h kc ks
    | _ => False) := rfl
theorem g53_62  : mm_step (mm_rw mr_53) (some .int) tb call Q C 62 lv st h kc ks = (C 22 lv st h kc ks) := rfl
theorem g53_65  : mm_step (mm_rw mr_53) (some .int) tb call Q C 65 lv st h kc ks = (match mm_rd lv 1 with
    | some (.inl a) => C 66 lv (vI a :: st) h kc ks
    | _ => False) := rfl
theorem g53_66  : mm_step (mm_rw mr_53) (some .int) tb call Q C 66 lv st h kc ks = (match mm_rd lv 0 with
    | some (.inr (.inr (.inl (some k)))) => C 67 lv (vR k :: st) h kc ks
    | some (.inr (.inr (.inr t))) => C 67 lv (vT t :: st) h kc ks
    | _ => False) := rfl
theorem g53_67 (k : Nat) : mm_step (mm_rw mr_53) (some .int) tb call Q C 67 lv (.inr (.inr (.inl (some k))) :: st) h kc ks = (match h.2 k with
    | some (.inr (.inr (ci, fs))) => ci = 6 ∧ (match fs[3]? with
      | some v => C 70 lv (v :: st) h kc ks
      | none => False)
    | _ => False) := rfl
theorem g53_70 (k : Nat) : mm_step (mm_rw mr_53) (some .int) tb call Q C 70 lv (.inr (.inr (.inl (some k))) :: st) h kc ks = (match h.2 k with
    | some (.inr (.inr (ci, fs))) => ci = 5 ∧ (match fs[1]? with
      | some v => C 73 lv (v :: st) h kc ks
      | none => False)
    | _ => False) := rfl
theorem g53_73  : mm_step (mm_rw mr_53) (some .int) tb call Q C 73 lv st h kc ks = (match mm_rd lv 2 with
    | some (.inl a) => C 74 lv (vI a :: st) h kc ks
    | _ => False) := rfl
theorem g53_74 (a b : Int32) : mm_step (mm_rw mr_53) (some .int) tb call Q C 74 lv (.inl b :: .inl a :: st) h kc ks = (C 75 lv (vI (a - b) :: st) h kc ks) := rfl
theorem g53_75 (a b : Int32) : mm_step (mm_rw mr_53) (some .int) tb call Q C 75 lv (.inl b :: .inl a :: st) h kc ks = (C 76 lv (vI (a * b) :: st) h kc ks) := rfl
theorem g53_76  : mm_step (mm_rw mr_53) (some .int) tb call Q C 76 lv st h kc ks = (match mm_rd lv 3 with
    | some (.inl a) => C 77 lv (vI a :: st) h kc ks
    | _ => False) := rfl
theorem g53_77 (a b : Int32) : mm_step (mm_rw mr_53) (some .int) tb call Q C 77 lv (.inl b :: .inl a :: st) h kc ks = (C 78 lv (vI (a + b) :: st) h kc ks) := rfl
theorem g53_78 (a : Int32) : mm_step (mm_rw mr_53) (some .int) tb call Q C 78 lv (.inl a :: st) h kc ks = (C 79 (mm_st1 lv 1 (vI a)) st h kc ks) := rfl
theorem g53_79  : mm_step (mm_rw mr_53) (some .int) tb call Q C 79 lv st h kc ks = (match mm_rd lv 2 with
    | some (.inl a) => C 82 (mm_st1 lv 2 (vI (a + 1))) st h kc ks
    | _ => False) := rfl
theorem g53_82  : mm_step (mm_rw mr_53) (some .int) tb call Q C 82 lv st h kc ks = (C 4 lv st h kc ks) := rfl
theorem g53_85  : mm_step (mm_rw mr_53) (some .int) tb call Q C 85 lv st h kc ks = (match mm_rd lv 1 with
    | some (.inl a) => C 86 lv (vI a :: st) h kc ks
    | _ => False) := rfl
theorem g53_86 (v : Int32) : mm_step (mm_rw mr_53) (some .int) tb call Q C 86 lv [.inl v] h kc ks = (True ∧ Q (some (vI v)) h) := rfl
end G53

abbrev sp_51 : List Nat := [12]
section G51
variable {tb : Nat → Nat × (Nat → Int32)} {call : CO} {Q : AQ} {C : CP} {lv : AL} {st : List AV} {h : AH} {kc ks : Nat}
theorem g51_0  : mm_step (mm_rw mr_51) (some .int) tb call Q C 0 lv st h kc ks = (C 1 lv (vI 0 :: st) h kc ks) := rfl
theorem g51_1 (a : Int32) : mm_step (mm_rw mr_51) (some .int) tb call Q C 1 lv (.inl a :: st) h kc ks = (C 2 (mm_st1 lv 1 (vI a)) st h kc ks) := rfl
theorem g51_2  : mm_step (mm_rw mr_51) (some .int) tb call Q C 2 lv st h kc ks = (match mm_rd lv 0 with
    | some (.inr (.inr (.inl (some k)))) => C 3 lv (vR k :: st) h kc ks
    | some (.inr (.inr (.inr t))) => C 3 lv (vT t :: st) h kc ks
    | _ => False) := rfl
theorem g51_3 (k : Nat) : mm_step (mm_rw mr_51) (some .int) tb call Q C 3 lv (.inr (.inr (.inl (some k))) :: st) h kc ks = (match h.2 k with
    | some (.inr (.inr (ci, fs))) => ci = 6 ∧ (match fs[3]? with
      | some v => C 6 lv (v :: st) h kc ks
      | none => False)
    | _ => False) := rfl
theorem g51_6 (k : Nat) : mm_step (mm_rw mr_51) (some .int) tb call Q C 6 lv (.inr (.inr (.inl (some k))) :: st) h kc ks = (match h.2 k with
    | some (.inr (.inr (ci, fs))) => ci = 5 ∧ (match fs[1]? with
      | some v => C 9 lv (v :: st) h kc ks
      | none => False)
    | _ => False) := rfl
theorem g51_9  : mm_step (mm_rw mr_51) (some .int) tb call Q C 9 lv st h kc ks = (C 10 lv (vI 1 :: st) h kc ks) := rfl
theorem g51_10 (a b : Int32) : mm_step (mm_rw mr_51) (some .int) tb call Q C 10 lv (.inl b :: .inl a :: st) h kc ks = (C 11 lv (vI (a - b) :: st) h kc ks) := rfl
theorem g51_11 (a : Int32) : mm_step (mm_rw mr_51) (some .int) tb call Q C 11 lv (.inl a :: st) h kc ks = (C 12 (mm_st1 lv 2 (vI a)) st h kc ks) := rfl
theorem g51_12  : mm_step (mm_rw mr_51) (some .int) tb call Q C 12 lv st h kc ks = (match mm_rd lv 2 with
    | some (.inl a) => C 13 lv (vI a :: st) h kc ks
    | _ => False) := rfl
theorem g51_13 (a : Int32) : mm_step (mm_rw mr_51) (some .int) tb call Q C 13 lv (.inl a :: st) h kc ks = ((a < 0 → C 37 lv st h kc ks) ∧ (¬ a < 0 → C 16 lv st h kc ks)) := rfl
theorem g51_16  : mm_step (mm_rw mr_51) (some .int) tb call Q C 16 lv st h kc ks = (match mm_rd lv 1 with
    | some (.inl a) => C 17 lv (vI a :: st) h kc ks
    | _ => False) := rfl
theorem g51_17  : mm_step (mm_rw mr_51) (some .int) tb call Q C 17 lv st h kc ks = (C 19 lv (vI 8 :: st) h kc ks) := rfl
theorem g51_19 (a b : Int32) : mm_step (mm_rw mr_51) (some .int) tb call Q C 19 lv (.inl b :: .inl a :: st) h kc ks = (C 20 lv (vI (a * b) :: st) h kc ks) := rfl
theorem g51_20  : mm_step (mm_rw mr_51) (some .int) tb call Q C 20 lv st h kc ks = (match mm_rd lv 0 with
    | some (.inr (.inr (.inl (some k)))) => C 21 lv (vR k :: st) h kc ks
    | some (.inr (.inr (.inr t))) => C 21 lv (vT t :: st) h kc ks
    | _ => False) := rfl
theorem g51_21 (k : Nat) : mm_step (mm_rw mr_51) (some .int) tb call Q C 21 lv (.inr (.inr (.inl (some k))) :: st) h kc ks = (match h.2 k with
    | some (.inr (.inr (ci, fs))) => ci = 6 ∧ (match fs[3]? with
      | some v => C 24 lv (v :: st) h kc ks
      | none => False)
    | _ => False) := rfl
theorem g51_24 (k : Nat) : mm_step (mm_rw mr_51) (some .int) tb call Q C 24 lv (.inr (.inr (.inl (some k))) :: st) h kc ks = (match h.2 k with
    | some (.inr (.inr (ci, fs))) => ci = 5 ∧ (match fs[0]? with
      | some v => C 27 lv (v :: st) h kc ks
      | none => False)
    | _ => False) := rfl
theorem g51_27  : mm_step (mm_rw mr_51) (some .int) tb call Q C 27 lv st h kc ks = (match mm_rd lv 2 with
    | some (.inl a) => C 28 lv (vI a :: st) h kc ks
    | _ => False) := rfl
theorem g51_28 (i : Int32) (k : Nat) : mm_step (mm_rw mr_51) (some .int) tb call Q C 28 lv (.inl i :: .inr (.inr (.inl (some k))) :: st) h kc ks = (match h.2 k with
    | some (.inl (.int, n, f)) => vp_in i n ∧ C 29 lv (vI (f i.toNatClampNeg) :: st) h kc ks
    | _ => False) := rfl
theorem g51_28t (i : Int32) (t : Nat) : mm_step (mm_rw mr_51) (some .int) tb call Q C 28 lv (.inl i :: .inr (.inr (.inr t)) :: st) h kc ks = (vp_in i (tb t).1 ∧ C 29 lv (vI ((tb t).2 i.toNatClampNeg) :: st) h kc ks) := rfl
theorem g51_29 (a b : Int32) : mm_step (mm_rw mr_51) (some .int) tb call Q C 29 lv (.inl b :: .inl a :: st) h kc ks = (C 30 lv (vI (a + b) :: st) h kc ks) := rfl
theorem g51_30 (a : Int32) : mm_step (mm_rw mr_51) (some .int) tb call Q C 30 lv (.inl a :: st) h kc ks = (C 31 (mm_st1 lv 1 (vI a)) st h kc ks) := rfl
theorem g51_31  : mm_step (mm_rw mr_51) (some .int) tb call Q C 31 lv st h kc ks = (match mm_rd lv 2 with
    | some (.inl a) => C 34 (mm_st1 lv 2 (vI (a + (mI 1)))) st h kc ks
    | _ => False) := rfl
theorem g51_34  : mm_step (mm_rw mr_51) (some .int) tb call Q C 34 lv st h kc ks = (C 12 lv st h kc ks) := rfl
theorem g51_37  : mm_step (mm_rw mr_51) (some .int) tb call Q C 37 lv st h kc ks = (match mm_rd lv 1 with
    | some (.inl a) => C 38 lv (vI a :: st) h kc ks
    | _ => False) := rfl
theorem g51_38 (v : Int32) : mm_step (mm_rw mr_51) (some .int) tb call Q C 38 lv [.inl v] h kc ks = (True ∧ Q (some (vI v)) h) := rfl
end G51

abbrev sp_52 : List Nat := [13]
section G52
variable {tb : Nat → Nat × (Nat → Int32)} {call : CO} {Q : AQ} {C : CP} {lv : AL} {st : List AV} {h : AH} {kc ks : Nat}
theorem g52_0  : mm_step (mm_rw mr_52) none tb call Q C 0 lv st h kc ks = (match mm_rd lv 1 with
    | some (.inl a) => C 1 lv (vI a :: st) h kc ks
    | _ => False) := rfl
theorem g52_1 (a : Int32) : mm_step (mm_rw mr_52) none tb call Q C 1 lv (.inl a :: st) h kc ks = (C 2 (mm_st1 lv 3 (vI a)) st h kc ks) := rfl
theorem g52_2  : mm_step (mm_rw mr_52) none tb call Q C 2 lv st h kc ks = (match mm_rd lv 0 with
    | some (.inr (.inr (.inl (some k)))) => C 3 lv (vR k :: st) h kc ks
    | some (.inr (.inr (.inr t))) => C 3 lv (vT t :: st) h kc ks
    | _ => False) := rfl
theorem g52_3 (k : Nat) : mm_step (mm_rw mr_52) none tb call Q C 3 lv (.inr (.inr (.inl (some k))) :: st) h kc ks = (match h.2 k with
    | some (.inr (.inr (ci, fs))) => ci = 6 ∧ (match fs[3]? with
      | some v => C 6 lv (v :: st) h kc ks
      | none => False)
    | _ => False) := rfl
theorem g52_6  : mm_step (mm_rw mr_52) none tb call Q C 6 lv st h kc ks = (match mm_rd lv 2 with
    | some (.inl a) => C 7 lv (vI a :: st) h kc ks
    | _ => False) := rfl
theorem g52_7 (v : AV) (k : Nat) : mm_step (mm_rw mr_52) none tb call Q C 7 lv (v :: .inr (.inr (.inl (some k))) :: st) h kc ks = (match h.2 k with
    | some (.inr (.inr (ci, fs))) => ci = 5 ∧ 1 < fs.length ∧ mm_fit (mm_ft 5 1) v ∧ C 10 lv st (mm_up h k (cO ci (fs.set 1 v))) kc ks
    | _ => False) := rfl
theorem g52_10  : mm_step (mm_rw mr_52) none tb call Q C 10 lv st h kc ks = (C 11 lv (vI 0 :: st) h kc ks) := rfl
theorem g52_11 (a : Int32) : mm_step (mm_rw mr_52) none tb call Q C 11 lv (.inl a :: st) h kc ks = (C 13 (mm_st1 lv 4 (vI a)) st h kc ks) := rfl
theorem g52_13  : mm_step (mm_rw mr_52) none tb call Q C 13 lv st h kc ks = (match mm_rd lv 4 with
    | some (.inl a) => C 15 lv (vI a :: st) h kc ks
    | _ => False) := rfl
theorem g52_15  : mm_step (mm_rw mr_52) none tb call Q C 15 lv st h kc ks = (match mm_rd lv 2 with
    | some (.inl a) => C 16 lv (vI a :: st) h kc ks
    | _ => False) := rfl
theorem g52_16 (a b : Int32) : mm_step (mm_rw mr_52) none tb call Q C 16 lv (.inl b :: .inl a :: st) h kc ks = ((b ≤ a → C 44 lv st h kc ks) ∧ (¬ b ≤ a → C 19 lv st h kc ks)) := rfl
theorem g52_19  : mm_step (mm_rw mr_52) none tb call Q C 19 lv st h kc ks = (match mm_rd lv 0 with
    | some (.inr (.inr (.inl (some k)))) => C 20 lv (vR k :: st) h kc ks
    | some (.inr (.inr (.inr t))) => C 20 lv (vT t :: st) h kc ks
    | _ => False) := rfl
theorem g52_20 (k : Nat) : mm_step (mm_rw mr_52) none tb call Q C 20 lv (.inr (.inr (.inl (some k))) :: st) h kc ks = (match h.2 k with
    | some (.inr (.inr (ci, fs))) => ci = 6 ∧ (match fs[3]? with
      | some v => C 23 lv (v :: st) h kc ks
      | none => False)
    | _ => False) := rfl
theorem g52_23 (k : Nat) : mm_step (mm_rw mr_52) none tb call Q C 23 lv (.inr (.inr (.inl (some k))) :: st) h kc ks = (match h.2 k with
    | some (.inr (.inr (ci, fs))) => ci = 5 ∧ (match fs[0]? with
      | some v => C 26 lv (v :: st) h kc ks
      | none => False)
    | _ => False) := rfl
theorem g52_26  : mm_step (mm_rw mr_52) none tb call Q C 26 lv st h kc ks = (match mm_rd lv 4 with
    | some (.inl a) => C 28 lv (vI a :: st) h kc ks
    | _ => False) := rfl
theorem g52_28  : mm_step (mm_rw mr_52) none tb call Q C 28 lv st h kc ks = (match mm_rd lv 3 with
    | some (.inl a) => C 29 lv (vI a :: st) h kc ks
    | _ => False) := rfl
theorem g52_29  : mm_step (mm_rw mr_52) none tb call Q C 29 lv st h kc ks = (C 31 lv (vI 8 :: st) h kc ks) := rfl
theorem g52_31 (a b : Int32) : mm_step (mm_rw mr_52) none tb call Q C 31 lv (.inl b :: .inl a :: st) h kc ks = (¬ b = 0 ∧ C 32 lv (vI (a - a / b * b) :: st) h kc ks) := rfl
theorem g52_32 (v i : Int32) (k : Nat) : mm_step (mm_rw mr_52) none tb call Q C 32 lv (.inl v :: .inl i :: .inr (.inr (.inl (some k))) :: st) h kc ks = (match h.2 k with
    | some (.inl (.int, n, f)) => vp_in i n ∧ C 33 lv st (mm_up h k (cI n (upd f i.toNatClampNeg v))) kc ks
    | _ => False) := rfl
theorem g52_33  : mm_step (mm_rw mr_52) none tb call Q C 33 lv st h kc ks = (match mm_rd lv 3 with
    | some (.inl a) => C 34 lv (vI a :: st) h kc ks
    | _ => False) := rfl
theorem g52_34  : mm_step (mm_rw mr_52) none tb call Q C 34 lv st h kc ks = (C 36 lv (vI 8 :: st) h kc ks) := rfl
theorem g52_36 (a b : Int32) : mm_step (mm_rw mr_52) none tb call Q C 36 lv (.inl b :: .inl a :: st) h kc ks = (¬ b = 0 ∧ C 37 lv (vI (a / b) :: st) h kc ks) := rfl
theorem g52_37 (a : Int32) : mm_step (mm_rw mr_52) none tb call Q C 37 lv (.inl a :: st) h kc ks = (C 38 (mm_st1 lv 3 (vI a)) st h kc ks) := rfl
theorem g52_38  : mm_step (mm_rw mr_52) none tb call Q C 38 lv st h kc ks = (match mm_rd lv 4 with
    | some (.inl a) => C 41 (mm_st1 lv 4 (vI (a + 1))) st h kc ks
    | _ => False) := rfl
theorem g52_41  : mm_step (mm_rw mr_52) none tb call Q C 41 lv st h kc ks = (C 13 lv st h kc ks) := rfl
theorem g52_44  : mm_step (mm_rw mr_52) none tb call Q C 44 lv [] h kc ks = ((none : Option FieldType) = none ∧ Q none h) := rfl
end G52

abbrev sp_48 : List Nat := [4, 73]
section G48
variable {tb : Nat → Nat × (Nat → Int32)} {call : CO} {Q : AQ} {C : CP} {lv : AL} {st : List AV} {h : AH} {kc ks : Nat}
theorem g48_0  : mm_step (mm_rw mr_48) none tb call Q C 0 lv st h kc ks = (match mm_rd lv 0 with
    | some (.inr (.inr (.inl (some k)))) => C 1 lv (vR k :: st) h kc ks
    | some (.inr (.inr (.inr t))) => C 1 lv (vT t :: st) h kc ks
    | _ => False) := rfl
theorem g48_1  : mm_step (mm_rw mr_48) none tb call Q C 1 lv st h kc ks = ((match (st.take 1).reverse with
    | .inr (.inr (.inl (some k))) :: _ => (match h.2 k with
      | some (.inr (.inr (ci, _))) => mm_cn ci = (mm_mi 53).1.cls
      | _ => False)
    | _ => False) ∧ mm_call call C 53 1 1 lv st h kc ks) := rfl
theorem g48_4 (a : Int32) : mm_step (mm_rw mr_48) none tb call Q C 4 lv (.inl a :: st) h kc ks = (C 5 (mm_st1 lv 2 (vI a)) st h kc ks) := rfl
theorem g48_5  : mm_step (mm_rw mr_48) none tb call Q C 5 lv st h kc ks = (match mm_rd lv 2 with
    | some (.inl a) => C 6 lv (vI a :: st) h kc ks
    | _ => False) := rfl
theorem g48_6  : mm_step (mm_rw mr_48) none tb call Q C 6 lv st h kc ks = (C 8 lv (vI 32 :: st) h kc ks) := rfl
theorem g48_8 (a b : Int32) : mm_step (mm_rw mr_48) none tb call Q C 8 lv (.inl b :: .inl a :: st) h kc ks = (¬ b = 0 ∧ C 9 lv (vI (a / b) :: st) h kc ks) := rfl
theorem g48_9 (a : Int32) : mm_step (mm_rw mr_48) none tb call Q C 9 lv (.inl a :: st) h kc ks = (C 10 (mm_st1 lv 3 (vI a)) st h kc ks) := rfl
theorem g48_10  : mm_step (mm_rw mr_48) none tb call Q C 10 lv st h kc ks = (C 11 lv (vI 1 :: st) h kc ks) := rfl
theorem g48_11  : mm_step (mm_rw mr_48) none tb call Q C 11 lv st h kc ks = (match mm_rd lv 2 with
    | some (.inl a) => C 12 lv (vI a :: st) h kc ks
    | _ => False) := rfl
theorem g48_12  : mm_step (mm_rw mr_48) none tb call Q C 12 lv st h kc ks = (C 14 lv (vI 32 :: st) h kc ks) := rfl
theorem g48_14 (a b : Int32) : mm_step (mm_rw mr_48) none tb call Q C 14 lv (.inl b :: .inl a :: st) h kc ks = (¬ b = 0 ∧ C 15 lv (vI (a - a / b * b) :: st) h kc ks) := rfl
theorem g48_15 (a b : Int32) : mm_step (mm_rw mr_48) none tb call Q C 15 lv (.inl b :: .inl a :: st) h kc ks = (C 16 lv (vI (a <<< (b &&& 31)) :: st) h kc ks) := rfl
theorem g48_16 (a : Int32) : mm_step (mm_rw mr_48) none tb call Q C 16 lv (.inl a :: st) h kc ks = (C 18 (mm_st1 lv 4 (vI a)) st h kc ks) := rfl
theorem g48_18  : mm_step (mm_rw mr_48) none tb call Q C 18 lv st h kc ks = (match mm_rd lv 0 with
    | some (.inr (.inr (.inl (some k)))) => C 19 lv (vR k :: st) h kc ks
    | some (.inr (.inr (.inr t))) => C 19 lv (vT t :: st) h kc ks
    | _ => False) := rfl
theorem g48_19 (k : Nat) : mm_step (mm_rw mr_48) none tb call Q C 19 lv (.inr (.inr (.inl (some k))) :: st) h kc ks = (match h.2 k with
    | some (.inr (.inr (ci, fs))) => ci = 6 ∧ (match fs[4]? with
      | some v => C 22 lv (v :: st) h kc ks
      | none => False)
    | _ => False) := rfl
theorem g48_22  : mm_step (mm_rw mr_48) none tb call Q C 22 lv st h kc ks = (C 25 lv (vI 720 :: st) h kc ks) := rfl
theorem g48_25 (a b : Int32) : mm_step (mm_rw mr_48) none tb call Q C 25 lv (.inl b :: .inl a :: st) h kc ks = ((b ≤ a → C 49 lv st h kc ks) ∧ (¬ b ≤ a → C 28 lv st h kc ks)) := rfl
theorem g48_28  : mm_step (mm_rw mr_48) none tb call Q C 28 lv st h kc ks = (match mm_rd lv 3 with
    | some (.inl a) => C 29 lv (vI a :: st) h kc ks
    | _ => False) := rfl
theorem g48_29  : mm_step (mm_rw mr_48) none tb call Q C 29 lv st h kc ks = (match mm_rd lv 0 with
    | some (.inr (.inr (.inl (some k)))) => C 30 lv (vR k :: st) h kc ks
    | some (.inr (.inr (.inr t))) => C 30 lv (vT t :: st) h kc ks
    | _ => False) := rfl
theorem g48_30 (k : Nat) : mm_step (mm_rw mr_48) none tb call Q C 30 lv (.inr (.inr (.inl (some k))) :: st) h kc ks = (match h.2 k with
    | some (.inr (.inr (ci, fs))) => ci = 6 ∧ (match fs[2]? with
      | some v => C 33 lv (v :: st) h kc ks
      | none => False)
    | _ => False) := rfl
theorem g48_33 (k : Nat) : mm_step (mm_rw mr_48) none tb call Q C 33 lv (.inr (.inr (.inl (some k))) :: st) h kc ks = (match h.2 k with
    | some (.inl (.int, n, _)) => C 34 lv (vI (Int32.ofNat n) :: st) h kc ks
    | some (.inl (.byte, n, _)) => C 34 lv (vI (Int32.ofNat n) :: st) h kc ks
    | _ => False) := rfl
theorem g48_33t (t : Nat) : mm_step (mm_rw mr_48) none tb call Q C 33 lv (.inr (.inr (.inr t)) :: st) h kc ks = (C 34 lv (vI (Int32.ofNat (tb t).1) :: st) h kc ks) := rfl
theorem g48_34 (a b : Int32) : mm_step (mm_rw mr_48) none tb call Q C 34 lv (.inl b :: .inl a :: st) h kc ks = ((b ≤ a → C 49 lv st h kc ks) ∧ (¬ b ≤ a → C 37 lv st h kc ks)) := rfl
theorem g48_37  : mm_step (mm_rw mr_48) none tb call Q C 37 lv st h kc ks = (match mm_rd lv 0 with
    | some (.inr (.inr (.inl (some k)))) => C 38 lv (vR k :: st) h kc ks
    | some (.inr (.inr (.inr t))) => C 38 lv (vT t :: st) h kc ks
    | _ => False) := rfl
theorem g48_38 (k : Nat) : mm_step (mm_rw mr_48) none tb call Q C 38 lv (.inr (.inr (.inl (some k))) :: st) h kc ks = (match h.2 k with
    | some (.inr (.inr (ci, fs))) => ci = 6 ∧ (match fs[2]? with
      | some v => C 41 lv (v :: st) h kc ks
      | none => False)
    | _ => False) := rfl
theorem g48_41  : mm_step (mm_rw mr_48) none tb call Q C 41 lv st h kc ks = (match mm_rd lv 3 with
    | some (.inl a) => C 42 lv (vI a :: st) h kc ks
    | _ => False) := rfl
theorem g48_42 (i : Int32) (k : Nat) : mm_step (mm_rw mr_48) none tb call Q C 42 lv (.inl i :: .inr (.inr (.inl (some k))) :: st) h kc ks = (match h.2 k with
    | some (.inl (.int, n, f)) => vp_in i n ∧ C 43 lv (vI (f i.toNatClampNeg) :: st) h kc ks
    | _ => False) := rfl
theorem g48_42t (i : Int32) (t : Nat) : mm_step (mm_rw mr_48) none tb call Q C 42 lv (.inl i :: .inr (.inr (.inr t)) :: st) h kc ks = (vp_in i (tb t).1 ∧ C 43 lv (vI ((tb t).2 i.toNatClampNeg) :: st) h kc ks) := rfl
theorem g48_43  : mm_step (mm_rw mr_48) none tb call Q C 43 lv st h kc ks = (match mm_rd lv 4 with
    | some (.inl a) => C 45 lv (vI a :: st) h kc ks
    | _ => False) := rfl
theorem g48_45 (a b : Int32) : mm_step (mm_rw mr_48) none tb call Q C 45 lv (.inl b :: .inl a :: st) h kc ks = (C 46 lv (vI (a &&& b) :: st) h kc ks) := rfl
theorem g48_46 (a : Int32) : mm_step (mm_rw mr_48) none tb call Q C 46 lv (.inl a :: st) h kc ks = ((a = 0 → C 50 lv st h kc ks) ∧ (¬ a = 0 → C 49 lv st h kc ks)) := rfl
theorem g48_49  : mm_step (mm_rw mr_48) none tb call Q C 49 lv [] h kc ks = ((none : Option FieldType) = none ∧ Q none h) := rfl
theorem g48_50  : mm_step (mm_rw mr_48) none tb call Q C 50 lv st h kc ks = (match mm_rd lv 0 with
    | some (.inr (.inr (.inl (some k)))) => C 51 lv (vR k :: st) h kc ks
    | some (.inr (.inr (.inr t))) => C 51 lv (vT t :: st) h kc ks
    | _ => False) := rfl
theorem g48_51 (k : Nat) : mm_step (mm_rw mr_48) none tb call Q C 51 lv (.inr (.inr (.inl (some k))) :: st) h kc ks = (match h.2 k with
    | some (.inr (.inr (ci, fs))) => ci = 6 ∧ (match fs[2]? with
      | some v => C 54 lv (v :: st) h kc ks
      | none => False)
    | _ => False) := rfl
theorem g48_54  : mm_step (mm_rw mr_48) none tb call Q C 54 lv st h kc ks = (match mm_rd lv 3 with
    | some (.inl a) => C 55 lv (vI a :: st) h kc ks
    | _ => False) := rfl
theorem g48_55 (v w : AV) : mm_step (mm_rw mr_48) none tb call Q C 55 lv (v :: w :: st) h kc ks = (mm_c2 v = false ∧ mm_c2 w = false ∧ C 56 lv (v :: w :: v :: w :: st) h kc ks) := rfl
theorem g48_56 (i : Int32) (k : Nat) : mm_step (mm_rw mr_48) none tb call Q C 56 lv (.inl i :: .inr (.inr (.inl (some k))) :: st) h kc ks = (match h.2 k with
    | some (.inl (.int, n, f)) => vp_in i n ∧ C 57 lv (vI (f i.toNatClampNeg) :: st) h kc ks
    | _ => False) := rfl
theorem g48_56t (i : Int32) (t : Nat) : mm_step (mm_rw mr_48) none tb call Q C 56 lv (.inl i :: .inr (.inr (.inr t)) :: st) h kc ks = (vp_in i (tb t).1 ∧ C 57 lv (vI ((tb t).2 i.toNatClampNeg) :: st) h kc ks) := rfl
theorem g48_57  : mm_step (mm_rw mr_48) none tb call Q C 57 lv st h kc ks = (match mm_rd lv 4 with
    | some (.inl a) => C 59 lv (vI a :: st) h kc ks
    | _ => False) := rfl
theorem g48_59 (a b : Int32) : mm_step (mm_rw mr_48) none tb call Q C 59 lv (.inl b :: .inl a :: st) h kc ks = (C 60 lv (vI (a ||| b) :: st) h kc ks) := rfl
theorem g48_60 (v i : Int32) (k : Nat) : mm_step (mm_rw mr_48) none tb call Q C 60 lv (.inl v :: .inl i :: .inr (.inr (.inl (some k))) :: st) h kc ks = (match h.2 k with
    | some (.inl (.int, n, f)) => vp_in i n ∧ C 61 lv st (mm_up h k (cI n (upd f i.toNatClampNeg v))) kc ks
    | _ => False) := rfl
theorem g48_61  : mm_step (mm_rw mr_48) none tb call Q C 61 lv st h kc ks = (match mm_rd lv 0 with
    | some (.inr (.inr (.inl (some k)))) => C 62 lv (vR k :: st) h kc ks
    | some (.inr (.inr (.inr t))) => C 62 lv (vT t :: st) h kc ks
    | _ => False) := rfl
theorem g48_62 (k : Nat) : mm_step (mm_rw mr_48) none tb call Q C 62 lv (.inr (.inr (.inl (some k))) :: st) h kc ks = (match h.2 k with
    | some (.inr (.inr (ci, fs))) => ci = 6 ∧ (match fs[0]? with
      | some v => C 65 lv (v :: st) h kc ks
      | none => False)
    | _ => False) := rfl
theorem g48_65  : mm_step (mm_rw mr_48) none tb call Q C 65 lv st h kc ks = (match mm_rd lv 0 with
    | some (.inr (.inr (.inl (some k)))) => C 66 lv (vR k :: st) h kc ks
    | some (.inr (.inr (.inr t))) => C 66 lv (vT t :: st) h kc ks
    | _ => False) := rfl
theorem g48_66 (k : Nat) : mm_step (mm_rw mr_48) none tb call Q C 66 lv (.inr (.inr (.inl (some k))) :: st) h kc ks = (match h.2 k with
    | some (.inr (.inr (ci, fs))) => ci = 6 ∧ (match fs[4]? with
      | some v => C 69 lv (v :: st) h kc ks
      | none => False)
    | _ => False) := rfl
theorem g48_69  : mm_step (mm_rw mr_48) none tb call Q C 69 lv st h kc ks = (match mm_rd lv 0 with
    | some (.inr (.inr (.inl (some k)))) => C 70 lv (vR k :: st) h kc ks
    | some (.inr (.inr (.inr t))) => C 70 lv (vT t :: st) h kc ks
    | _ => False) := rfl
theorem g48_70  : mm_step (mm_rw mr_48) none tb call Q C 70 lv st h kc ks = ((match (st.take 1).reverse with
    | .inr (.inr (.inl (some k))) :: _ => (match h.2 k with
      | some (.inr (.inr (ci, _))) => mm_cn ci = (mm_mi 51).1.cls
      | _ => False)
    | _ => False) ∧ mm_call call C 51 1 70 lv st h kc ks) := rfl
theorem g48_73 (v i : Int32) (k : Nat) : mm_step (mm_rw mr_48) none tb call Q C 73 lv (.inl v :: .inl i :: .inr (.inr (.inl (some k))) :: st) h kc ks = (match h.2 k with
    | some (.inl (.int, n, f)) => vp_in i n ∧ C 74 lv st (mm_up h k (cI n (upd f i.toNatClampNeg v))) kc ks
    | _ => False) := rfl
theorem g48_74  : mm_step (mm_rw mr_48) none tb call Q C 74 lv st h kc ks = (match mm_rd lv 0 with
    | some (.inr (.inr (.inl (some k)))) => C 75 lv (vR k :: st) h kc ks
    | some (.inr (.inr (.inr t))) => C 75 lv (vT t :: st) h kc ks
    | _ => False) := rfl
theorem g48_75 (k : Nat) : mm_step (mm_rw mr_48) none tb call Q C 75 lv (.inr (.inr (.inl (some k))) :: st) h kc ks = (match h.2 k with
    | some (.inr (.inr (ci, fs))) => ci = 6 ∧ (match fs[1]? with
      | some v => C 78 lv (v :: st) h kc ks
      | none => False)
    | _ => False) := rfl
theorem g48_78  : mm_step (mm_rw mr_48) none tb call Q C 78 lv st h kc ks = (match mm_rd lv 0 with
    | some (.inr (.inr (.inl (some k)))) => C 79 lv (vR k :: st) h kc ks
    | some (.inr (.inr (.inr t))) => C 79 lv (vT t :: st) h kc ks
    | _ => False) := rfl
theorem g48_79 (k : Nat) : mm_step (mm_rw mr_48) none tb call Q C 79 lv (.inr (.inr (.inl (some k))) :: st) h kc ks = (match h.2 k with
    | some (.inr (.inr (ci, fs))) => ci = 6 ∧ (match fs[4]? with
      | some v => C 82 lv (v :: st) h kc ks
      | none => False)
    | _ => False) := rfl
theorem g48_82  : mm_step (mm_rw mr_48) none tb call Q C 82 lv st h kc ks = (match mm_rd lv 1 with
    | some (.inl a) => C 83 lv (vI a :: st) h kc ks
    | _ => False) := rfl
theorem g48_83 (v i : Int32) (k : Nat) : mm_step (mm_rw mr_48) none tb call Q C 83 lv (.inl v :: .inl i :: .inr (.inr (.inl (some k))) :: st) h kc ks = (match h.2 k with
    | some (.inl (.int, n, f)) => vp_in i n ∧ C 84 lv st (mm_up h k (cI n (upd f i.toNatClampNeg v))) kc ks
    | _ => False) := rfl
theorem g48_84  : mm_step (mm_rw mr_48) none tb call Q C 84 lv st h kc ks = (match mm_rd lv 0 with
    | some (.inr (.inr (.inl (some k)))) => C 85 lv (vR k :: st) h kc ks
    | some (.inr (.inr (.inr t))) => C 85 lv (vT t :: st) h kc ks
    | _ => False) := rfl
theorem g48_85 (v : AV) : mm_step (mm_rw mr_48) none tb call Q C 85 lv (v :: st) h kc ks = (mm_c2 v = false ∧ C 86 lv (v :: v :: st) h kc ks) := rfl
theorem g48_86 (k : Nat) : mm_step (mm_rw mr_48) none tb call Q C 86 lv (.inr (.inr (.inl (some k))) :: st) h kc ks = (match h.2 k with
    | some (.inr (.inr (ci, fs))) => ci = 6 ∧ (match fs[4]? with
      | some v => C 89 lv (v :: st) h kc ks
      | none => False)
    | _ => False) := rfl
theorem g48_89  : mm_step (mm_rw mr_48) none tb call Q C 89 lv st h kc ks = (C 90 lv (vI 1 :: st) h kc ks) := rfl
theorem g48_90 (a b : Int32) : mm_step (mm_rw mr_48) none tb call Q C 90 lv (.inl b :: .inl a :: st) h kc ks = (C 91 lv (vI (a + b) :: st) h kc ks) := rfl
theorem g48_91 (v : AV) (k : Nat) : mm_step (mm_rw mr_48) none tb call Q C 91 lv (v :: .inr (.inr (.inl (some k))) :: st) h kc ks = (match h.2 k with
    | some (.inr (.inr (ci, fs))) => ci = 6 ∧ 4 < fs.length ∧ mm_fit (mm_ft 6 4) v ∧ C 94 lv st (mm_up h k (cO ci (fs.set 4 v))) kc ks
    | _ => False) := rfl
theorem g48_94  : mm_step (mm_rw mr_48) none tb call Q C 94 lv [] h kc ks = ((none : Option FieldType) = none ∧ Q none h) := rfl
end G48

theorem fl_O (s : MM) (k j : Nat) (x : Int32) : (sO s k j x).2.2.2.1 = s.2.2.2.1 := rfl
theorem fl_A (s : MM) (k : Nat) (f : Nat → Int32) : (sA s k f).2.2.2.1 = s.2.2.2.1 := rfl
theorem rs_103 {s : MM} {xs : List Nat} (hsr : s.2.2.2.1 = true) (h : RS s 103 104 xs) : Rw (HP s) 103 104 xs := ⟨s.1 104, by rw [← h.1, hp_103 hsr]; rfl, hp_104 hsr, h.2.1, h.2.2.1, h.2.2.2⟩
theorem rz_103 {s : MM} (hsr : s.2.2.2.1 = true) : Rz (HP s) 103 104 := ⟨_, _, hp_103 hsr, hp_104 hsr⟩
theorem rb_103 {s : MM} {h' : AH} {xs : List Nat} (hsr : s.2.2.2.1 = true) (hf : FR (HP s) h' [103, 104]) (h : Rw h' 103 104 xs) : ∃ f, h' = HP (sO (sA s 104 f) 103 1 (nI xs.length)) ∧ xs.length ≤ 8 ∧ (∀ v ∈ xs, v < 8) ∧ ∀ j, j < xs.length → f j = nI (xs.getD j 0) := by
  obtain ⟨f, h1, h2, h3⟩ := h
  refine ⟨f, ?_, h3⟩
  rw [← uo_103_1 (sA s 104 f) hsr, ← ua_104 s hsr]
  refine mm_ext hf.1 (fun k => ?_)
  rw [mmu_get, mmu_get]
  by_cases e1 : k = 103
  · rw [if_pos e1, e1, h1]; rfl
  · rw [if_neg e1]
    by_cases e2 : k = 104
    · rw [if_pos e2, e2, h2]
    · rw [if_neg e2, hf.2 k (by simp [e1, e2])]
theorem dec1 (m : Nat) : nI m + mI 1 = nI m - 1 := by rw [Int32.sub_eq_add_neg]; rfl
theorem drop_c {xs : List Nat} {k : Nat} (h : k < xs.length) : xs.drop k = xs.getD k 0 :: xs.drop (k + 1) := by
  rw [List.drop_eq_getElem_cons h, List.getD_eq_getElem?_getD, List.getElem?_eq_getElem h]
  rfl
section SRCH
variable {tb : Nat → Nat × (Nat → Int32)} {d : Nat} {s : MM}
theorem C_rank {xs : List Nat} (hsr : s.2.2.2.1 = true) (hx : RS s 103 104 xs) : WM tb (d + 1) k_Search_rank [vR 99] (HP s) 0 0 (fun z h' => z = some (vI (nI (rk xs))) ∧ h' = HP s) := by
  obtain ⟨h1, hl, h8, hf⟩ := hx
  have inner : ∀ r j L i R, xs.length = j + r → i < xs.length → i < j → (∀ (L2 : Nat), L2 = ls (xs.getD i 0) (xs.drop (i + 1)) → WP (mm_rw mr_53) (some .int) tb (WM tb d) (fun z h' => z = some (vI (nI (rk xs))) ∧ h' = HP s) 65 [(0, vR 99), (1, vI (nI R)), (2, vI (nI i)), (3, vI (nI L2)), (4, vI (nI xs.length))] [] (HP s) 0 0) → L + ls (xs.getD i 0) (xs.drop j) = ls (xs.getD i 0) (xs.drop (i + 1)) → WP (mm_rw mr_53) (some .int) tb (WM tb d) (fun z h' => z = some (vI (nI (rk xs))) ∧ h' = HP s) 22 [(0, vR 99), (1, vI (nI R)), (2, vI (nI i)), (3, vI (nI L)), (4, vI (nI j))] [] (HP s) 0 0 := by
    intro r
    induction r with
    | zero =>
      intro j L i R hj hi hij fin hL
      have e : j = xs.length := by omega
      subst e
      rw [List.drop_length] at hL
      (try simp only [Option.toList_some, Option.toList_none, List.nil_append, List.append_nil, List.cons_append, Nat.sub_zero, Nat.sub_self, Nat.zero_sub]); refine Go.wp [4, 22, 65] 200 ?_; simp only [↓g53_0, ↓g53_1, ↓g53_2, ↓g53_3, ↓g53_4, ↓g53_5, ↓g53_6, ↓g53_9, ↓g53_12, ↓g53_15, ↓g53_16, ↓g53_17, ↓g53_18, ↓g53_19, ↓g53_20, ↓g53_22, ↓g53_24, ↓g53_25, ↓g53_28, ↓g53_31, ↓g53_34, ↓g53_35, ↓g53_38, ↓g53_41, ↓g53_43, ↓g53_43t, ↓g53_44, ↓g53_45, ↓g53_48, ↓g53_51, ↓g53_52, ↓g53_52t, ↓g53_53, ↓g53_56, ↓g53_59, ↓g53_62, ↓g53_65, ↓g53_66, ↓g53_67, ↓g53_70, ↓g53_73, ↓g53_74, ↓g53_75, ↓g53_76, ↓g53_77, ↓g53_78, ↓g53_79, ↓g53_82, ↓g53_85, ↓g53_86, ↓Go_s, ↓GoC_a, ↓reduceIte, ↓mm_call_eq, ↓mmw_nil, ↓mmw_cons, List.take_succ_cons, List.take_zero, List.take_nil, List.drop_succ_cons, List.drop_zero, List.drop_nil, List.reverse_cons, List.reverse_nil, List.nil_append, List.cons_append, List.append_nil, Option.toList_some, Option.toList_none, Nat.sub_zero, Nat.le_refl, mmr_cons, mm_st1, mm_st2, mmi_nil, mmi_cons, mmc_I, mmc_L, mmc_R, mmu_get, mmu_one, mma_get, mma_one, List.filter_cons, List.filter_nil, List.contains_cons, List.contains_nil, Nat.reduceBEq, Nat.reduceAdd, Nat.reduceLT, Nat.reduceSub, Nat.reduceLeDiff, Nat.reduceEqDiff, Int32.reduceAdd, Bool.not_true, Bool.not_false, Bool.and_true, Bool.true_and, Bool.and_false, Bool.false_and, Bool.or_false, Bool.false_or, Bool.or_true, Bool.true_or, if_true, if_false, ite_true, ite_false, Bool.false_eq_true, List.getElem?_cons_zero, List.getElem?_cons_succ, List.length_cons, List.length_nil, true_and, and_true, List.set_cons_zero, List.set_cons_succ, Fin.isValue, Fin.val_zero, Fin.val_one, Fin.val_two, Fin.reduceFinMk, Nat.zero_add, hp_0, hp_1, hp_2, hp_3, hp_4, hp_5, hp_6, hp_7, hp_8, hp_9, hp_10, hp_11, hp_12, hp_13, hp_14, hp_15, hp_16, hp_17, hp_18, hp_19, hp_20, hp_21, hp_22, hp_23, hp_24, hp_25, hp_26, hp_27, hp_28, hp_29, hp_30, hp_31, hp_32, hp_33, hp_34, hp_35, hp_36, hp_37, hp_38, hp_39, hp_40, hp_41, hp_42, hp_43, hp_44, hp_45, hp_46, hp_47, hp_48, hp_49, hp_50, hp_51, hp_52, hp_53, hp_54, hp_55, hp_56, hp_57, hp_58, hp_59, hp_60, hp_61, hp_62, hp_63, hp_64, hp_65, hp_66, hp_67, hp_68, hp_69, hp_70, hp_71, hp_72, hp_73, hp_74, og_0_0, og_0_1, og_0_2, og_0_3, og_0_4, og_0_5, og_0_6, og_0_7, og_0_8, og_0_9, og_0_10, og_0_11, og_0_12, og_0_13, ol_0, og_2_0, og_2_1, og_2_2, og_2_3, og_2_4, og_2_5, og_2_6, ol_2, og_3_0, og_3_1, ol_3, og_5_0, og_5_1, ol_5, og_9_0, og_9_1, og_9_2, og_9_3, og_9_4, og_9_5, og_9_6, ol_9, og_10_0, og_10_1, ol_10, og_12_0, og_12_1, ol_12, og_16_0, og_16_1, og_16_2, ol_16, og_17_0, og_17_1, ol_17, og_21_0, og_21_1, og_21_2, og_21_3, og_21_4, ol_21, og_27_0, og_27_1, og_27_2, og_27_3, og_27_4, og_27_5, og_27_6, og_27_7, og_27_8, og_27_9, og_27_10, ol_27, og_35_0, og_35_1, ol_35, og_37_0, og_37_1, ol_37, og_39_0, og_39_1, ol_39, og_41_0, og_41_1, ol_41, og_43_0, og_43_1, ol_43, og_45_0, og_45_1, ol_45, og_47_0, og_47_1, ol_47, og_49_0, og_49_1, og_49_2, og_49_3, ol_49, og_53_0, og_53_1, ol_53, og_55_0, og_55_1, ol_55, og_57_0, og_57_1, ol_57, og_59_0, og_59_1, ol_59, og_61_0, og_61_1, ol_61, og_63_0, og_63_1, ol_63, og_65_0, og_65_1, og_65_2, ol_65, og_66_0, og_66_1, ol_66, og_70_0, og_70_1, og_70_2, ol_70, og_71_0, og_71_1, ol_71, uo_0_1, uo_0_4, uo_0_8, ua_1, uo_2_0, uo_2_1, uo_2_2, uo_3_1, ua_4, uo_5_1, ua_6, ua_7, ua_8, uo_9_0, uo_9_1, uo_9_2, uo_10_1, ua_11, uo_12_1, ua_13, ua_14, ua_15, uo_17_1, ua_18, ua_19, ua_20, uo_21_4, ua_22, ua_23, ua_24, ua_25, uo_27_2, uo_27_6, uo_27_7, uo_27_8, ua_28, ua_29, ua_31, ua_32, ua_33, ua_34, uo_35_1, ua_36, uo_37_1, ua_38, uo_39_1, ua_40, uo_41_1, ua_42, uo_43_1, ua_44, uo_45_1, ua_46, uo_47_1, ua_48, uo_49_3, ua_51, ua_52, uo_53_1, ua_54, uo_55_1, ua_56, uo_57_1, ua_58, uo_59_1, ua_60, uo_61_1, ua_62, uo_63_1, ua_64, uo_66_1, ua_67, ua_68, ua_69, uo_71_1, ua_72, ua_73, ua_74, sO_g, sA_g, sA_O, sO_A, sO_2, sC_1, sC_2, sC_3, sC_4, sC_5, sC_6, sW_1, sW_2, sW_3, sW_4, uc_0, hp_99, hp_100, hp_101, hp_102, hp_103, hp_104, og_99_0, og_99_1, og_99_2, og_99_3, og_99_4, og_99_5, og_99_6, ol_99, og_103_0, og_103_1, ol_103, uo_99_4, uo_99_5, uo_99_6, ua_100, ua_101, ua_102, uo_103_1, ua_104, fl_O, fl_A, hsr, h1, nu_fitI, nu_fitL, nu_fitO, nu_fitA, nu_fitB0, nu_fitB1]
      exact ⟨fun _ => fin L hL, fun c => absurd (Int32.le_refl _) c⟩
    | succ r ih =>
      intro j L i R hj hi hij fin hL
      have hj' : j < xs.length := by omega
      have hcj : (nI j).toNatClampNeg = j := nI_clamp (by omega)
      have hci : (nI i).toNatClampNeg = i := nI_clamp (by omega)
      have v1 := h8 _ (getD_mem hj')
      have v2 := h8 _ (getD_mem hi)
      rw [drop_c hj'] at hL
      have hL' : L + ((if xs.getD j 0 < xs.getD i 0 then 1 else 0) + ls (xs.getD i 0) (xs.drop (j + 1))) = ls (xs.getD i 0) (xs.drop (i + 1)) := hL
      (try simp only [Option.toList_some, Option.toList_none, List.nil_append, List.append_nil, List.cons_append, Nat.sub_zero, Nat.sub_self, Nat.zero_sub]); refine Go.wp [4, 22, 59] 200 ?_; simp only [↓g53_0, ↓g53_1, ↓g53_2, ↓g53_3, ↓g53_4, ↓g53_5, ↓g53_6, ↓g53_9, ↓g53_12, ↓g53_15, ↓g53_16, ↓g53_17, ↓g53_18, ↓g53_19, ↓g53_20, ↓g53_22, ↓g53_24, ↓g53_25, ↓g53_28, ↓g53_31, ↓g53_34, ↓g53_35, ↓g53_38, ↓g53_41, ↓g53_43, ↓g53_43t, ↓g53_44, ↓g53_45, ↓g53_48, ↓g53_51, ↓g53_52, ↓g53_52t, ↓g53_53, ↓g53_56, ↓g53_59, ↓g53_62, ↓g53_65, ↓g53_66, ↓g53_67, ↓g53_70, ↓g53_73, ↓g53_74, ↓g53_75, ↓g53_76, ↓g53_77, ↓g53_78, ↓g53_79, ↓g53_82, ↓g53_85, ↓g53_86, ↓Go_s, ↓GoC_a, ↓reduceIte, ↓mm_call_eq, ↓mmw_nil, ↓mmw_cons, List.take_succ_cons, List.take_zero, List.take_nil, List.drop_succ_cons, List.drop_zero, List.drop_nil, List.reverse_cons, List.reverse_nil, List.nil_append, List.cons_append, List.append_nil, Option.toList_some, Option.toList_none, Nat.sub_zero, Nat.le_refl, mmr_cons, mm_st1, mm_st2, mmi_nil, mmi_cons, mmc_I, mmc_L, mmc_R, mmu_get, mmu_one, mma_get, mma_one, List.filter_cons, List.filter_nil, List.contains_cons, List.contains_nil, Nat.reduceBEq, Nat.reduceAdd, Nat.reduceLT, Nat.reduceSub, Nat.reduceLeDiff, Nat.reduceEqDiff, Int32.reduceAdd, Bool.not_true, Bool.not_false, Bool.and_true, Bool.true_and, Bool.and_false, Bool.false_and, Bool.or_false, Bool.false_or, Bool.or_true, Bool.true_or, if_true, if_false, ite_true, ite_false, Bool.false_eq_true, List.getElem?_cons_zero, List.getElem?_cons_succ, List.length_cons, List.length_nil, true_and, and_true, List.set_cons_zero, List.set_cons_succ, Fin.isValue, Fin.val_zero, Fin.val_one, Fin.val_two, Fin.reduceFinMk, Nat.zero_add, hp_0, hp_1, hp_2, hp_3, hp_4, hp_5, hp_6, hp_7, hp_8, hp_9, hp_10, hp_11, hp_12, hp_13, hp_14, hp_15, hp_16, hp_17, hp_18, hp_19, hp_20, hp_21, hp_22, hp_23, hp_24, hp_25, hp_26, hp_27, hp_28, hp_29, hp_30, hp_31, hp_32, hp_33, hp_34, hp_35, hp_36, hp_37, hp_38, hp_39, hp_40, hp_41, hp_42, hp_43, hp_44, hp_45, hp_46, hp_47, hp_48, hp_49, hp_50, hp_51, hp_52, hp_53, hp_54, hp_55, hp_56, hp_57, hp_58, hp_59, hp_60, hp_61, hp_62, hp_63, hp_64, hp_65, hp_66, hp_67, hp_68, hp_69, hp_70, hp_71, hp_72, hp_73, hp_74, og_0_0, og_0_1, og_0_2, og_0_3, og_0_4, og_0_5, og_0_6, og_0_7, og_0_8, og_0_9, og_0_10, og_0_11, og_0_12, og_0_13, ol_0, og_2_0, og_2_1, og_2_2, og_2_3, og_2_4, og_2_5, og_2_6, ol_2, og_3_0, og_3_1, ol_3, og_5_0, og_5_1, ol_5, og_9_0, og_9_1, og_9_2, og_9_3, og_9_4, og_9_5, og_9_6, ol_9, og_10_0, og_10_1, ol_10, og_12_0, og_12_1, ol_12, og_16_0, og_16_1, og_16_2, ol_16, og_17_0, og_17_1, ol_17, og_21_0, og_21_1, og_21_2, og_21_3, og_21_4, ol_21, og_27_0, og_27_1, og_27_2, og_27_3, og_27_4, og_27_5, og_27_6, og_27_7, og_27_8, og_27_9, og_27_10, ol_27, og_35_0, og_35_1, ol_35, og_37_0, og_37_1, ol_37, og_39_0, og_39_1, ol_39, og_41_0, og_41_1, ol_41, og_43_0, og_43_1, ol_43, og_45_0, og_45_1, ol_45, og_47_0, og_47_1, ol_47, og_49_0, og_49_1, og_49_2, og_49_3, ol_49, og_53_0, og_53_1, ol_53, og_55_0, og_55_1, ol_55, og_57_0, og_57_1, ol_57, og_59_0, og_59_1, ol_59, og_61_0, og_61_1, ol_61, og_63_0, og_63_1, ol_63, og_65_0, og_65_1, og_65_2, ol_65, og_66_0, og_66_1, ol_66, og_70_0, og_70_1, og_70_2, ol_70, og_71_0, og_71_1, ol_71, uo_0_1, uo_0_4, uo_0_8, ua_1, uo_2_0, uo_2_1, uo_2_2, uo_3_1, ua_4, uo_5_1, ua_6, ua_7, ua_8, uo_9_0, uo_9_1, uo_9_2, uo_10_1, ua_11, uo_12_1, ua_13, ua_14, ua_15, uo_17_1, ua_18, ua_19, ua_20, uo_21_4, ua_22, ua_23, ua_24, ua_25, uo_27_2, uo_27_6, uo_27_7, uo_27_8, ua_28, ua_29, ua_31, ua_32, ua_33, ua_34, uo_35_1, ua_36, uo_37_1, ua_38, uo_39_1, ua_40, uo_41_1, ua_42, uo_43_1, ua_44, uo_45_1, ua_46, uo_47_1, ua_48, uo_49_3, ua_51, ua_52, uo_53_1, ua_54, uo_55_1, ua_56, uo_57_1, ua_58, uo_59_1, ua_60, uo_61_1, ua_62, uo_63_1, ua_64, uo_66_1, ua_67, ua_68, ua_69, uo_71_1, ua_72, ua_73, ua_74, sO_g, sA_g, sA_O, sO_A, sO_2, sC_1, sC_2, sC_3, sC_4, sC_5, sC_6, sW_1, sW_2, sW_3, sW_4, uc_0, hp_99, hp_100, hp_101, hp_102, hp_103, hp_104, og_99_0, og_99_1, og_99_2, og_99_3, og_99_4, og_99_5, og_99_6, ol_99, og_103_0, og_103_1, ol_103, uo_99_4, uo_99_5, uo_99_6, ua_100, ua_101, ua_102, uo_103_1, ua_104, fl_O, fl_A, hsr, h1, hcj, hci, hf j hj', hf i hi, nu_fitI, nu_fitL, nu_fitO, nu_fitA, nu_fitB0, nu_fitB1]
      rw [nI_leI (a := xs.getD i 0) (b := xs.getD j 0) (by omega) (by omega)]
      refine ⟨fun c => absurd c (nI_ge hj' (by omega)), fun _ => ⟨vp_in_nI (by omega) (by omega), vp_in_nI (by omega) (by omega), fun c => ?_, fun c => ?_⟩⟩
      · rw [if_neg (by omega)] at hL'
        (try simp only [Option.toList_some, Option.toList_none, List.nil_append, List.append_nil, List.cons_append, Nat.sub_zero, Nat.sub_self, Nat.zero_sub]); refine Go.wp sp_53 200 ?_; simp only [↓g53_0, ↓g53_1, ↓g53_2, ↓g53_3, ↓g53_4, ↓g53_5, ↓g53_6, ↓g53_9, ↓g53_12, ↓g53_15, ↓g53_16, ↓g53_17, ↓g53_18, ↓g53_19, ↓g53_20, ↓g53_22, ↓g53_24, ↓g53_25, ↓g53_28, ↓g53_31, ↓g53_34, ↓g53_35, ↓g53_38, ↓g53_41, ↓g53_43, ↓g53_43t, ↓g53_44, ↓g53_45, ↓g53_48, ↓g53_51, ↓g53_52, ↓g53_52t, ↓g53_53, ↓g53_56, ↓g53_59, ↓g53_62, ↓g53_65, ↓g53_66, ↓g53_67, ↓g53_70, ↓g53_73, ↓g53_74, ↓g53_75, ↓g53_76, ↓g53_77, ↓g53_78, ↓g53_79, ↓g53_82, ↓g53_85, ↓g53_86, ↓Go_s, ↓GoC_a, ↓reduceIte, ↓mm_call_eq, ↓mmw_nil, ↓mmw_cons, List.take_succ_cons, List.take_zero, List.take_nil, List.drop_succ_cons, List.drop_zero, List.drop_nil, List.reverse_cons, List.reverse_nil, List.nil_append, List.cons_append, List.append_nil, Option.toList_some, Option.toList_none, Nat.sub_zero, Nat.le_refl, mmr_cons, mm_st1, mm_st2, mmi_nil, mmi_cons, mmc_I, mmc_L, mmc_R, mmu_get, mmu_one, mma_get, mma_one, List.filter_cons, List.filter_nil, List.contains_cons, List.contains_nil, Nat.reduceBEq, Nat.reduceAdd, Nat.reduceLT, Nat.reduceSub, Nat.reduceLeDiff, Nat.reduceEqDiff, Int32.reduceAdd, Bool.not_true, Bool.not_false, Bool.and_true, Bool.true_and, Bool.and_false, Bool.false_and, Bool.or_false, Bool.false_or, Bool.or_true, Bool.true_or, if_true, if_false, ite_true, ite_false, Bool.false_eq_true, List.getElem?_cons_zero, List.getElem?_cons_succ, List.length_cons, List.length_nil, true_and, and_true, List.set_cons_zero, List.set_cons_succ, Fin.isValue, Fin.val_zero, Fin.val_one, Fin.val_two, Fin.reduceFinMk, Nat.zero_add, hp_0, hp_1, hp_2, hp_3, hp_4, hp_5, hp_6, hp_7, hp_8, hp_9, hp_10, hp_11, hp_12, hp_13, hp_14, hp_15, hp_16, hp_17, hp_18, hp_19, hp_20, hp_21, hp_22, hp_23, hp_24, hp_25, hp_26, hp_27, hp_28, hp_29, hp_30, hp_31, hp_32, hp_33, hp_34, hp_35, hp_36, hp_37, hp_38, hp_39, hp_40, hp_41, hp_42, hp_43, hp_44, hp_45, hp_46, hp_47, hp_48, hp_49, hp_50, hp_51, hp_52, hp_53, hp_54, hp_55, hp_56, hp_57, hp_58, hp_59, hp_60, hp_61, hp_62, hp_63, hp_64, hp_65, hp_66, hp_67, hp_68, hp_69, hp_70, hp_71, hp_72, hp_73, hp_74, og_0_0, og_0_1, og_0_2, og_0_3, og_0_4, og_0_5, og_0_6, og_0_7, og_0_8, og_0_9, og_0_10, og_0_11, og_0_12, og_0_13, ol_0, og_2_0, og_2_1, og_2_2, og_2_3, og_2_4, og_2_5, og_2_6, ol_2, og_3_0, og_3_1, ol_3, og_5_0, og_5_1, ol_5, og_9_0, og_9_1, og_9_2, og_9_3, og_9_4, og_9_5, og_9_6, ol_9, og_10_0, og_10_1, ol_10, og_12_0, og_12_1, ol_12, og_16_0, og_16_1, og_16_2, ol_16, og_17_0, og_17_1, ol_17, og_21_0, og_21_1, og_21_2, og_21_3, og_21_4, ol_21, og_27_0, og_27_1, og_27_2, og_27_3, og_27_4, og_27_5, og_27_6, og_27_7, og_27_8, og_27_9, og_27_10, ol_27, og_35_0, og_35_1, ol_35, og_37_0, og_37_1, ol_37, og_39_0, og_39_1, ol_39, og_41_0, og_41_1, ol_41, og_43_0, og_43_1, ol_43, og_45_0, og_45_1, ol_45, og_47_0, og_47_1, ol_47, og_49_0, og_49_1, og_49_2, og_49_3, ol_49, og_53_0, og_53_1, ol_53, og_55_0, og_55_1, ol_55, og_57_0, og_57_1, ol_57, og_59_0, og_59_1, ol_59, og_61_0, og_61_1, ol_61, og_63_0, og_63_1, ol_63, og_65_0, og_65_1, og_65_2, ol_65, og_66_0, og_66_1, ol_66, og_70_0, og_70_1, og_70_2, ol_70, og_71_0, og_71_1, ol_71, uo_0_1, uo_0_4, uo_0_8, ua_1, uo_2_0, uo_2_1, uo_2_2, uo_3_1, ua_4, uo_5_1, ua_6, ua_7, ua_8, uo_9_0, uo_9_1, uo_9_2, uo_10_1, ua_11, uo_12_1, ua_13, ua_14, ua_15, uo_17_1, ua_18, ua_19, ua_20, uo_21_4, ua_22, ua_23, ua_24, ua_25, uo_27_2, uo_27_6, uo_27_7, uo_27_8, ua_28, ua_29, ua_31, ua_32, ua_33, ua_34, uo_35_1, ua_36, uo_37_1, ua_38, uo_39_1, ua_40, uo_41_1, ua_42, uo_43_1, ua_44, uo_45_1, ua_46, uo_47_1, ua_48, uo_49_3, ua_51, ua_52, uo_53_1, ua_54, uo_55_1, ua_56, uo_57_1, ua_58, uo_59_1, ua_60, uo_61_1, ua_62, uo_63_1, ua_64, uo_66_1, ua_67, ua_68, ua_69, uo_71_1, ua_72, ua_73, ua_74, sO_g, sA_g, sA_O, sO_A, sO_2, sC_1, sC_2, sC_3, sC_4, sC_5, sC_6, sW_1, sW_2, sW_3, sW_4, uc_0, hp_99, hp_100, hp_101, hp_102, hp_103, hp_104, og_99_0, og_99_1, og_99_2, og_99_3, og_99_4, og_99_5, og_99_6, ol_99, og_103_0, og_103_1, ol_103, uo_99_4, uo_99_5, uo_99_6, ua_100, ua_101, ua_102, uo_103_1, ua_104, fl_O, fl_A, hsr, nI_1, nu_fitI, nu_fitL, nu_fitO, nu_fitA, nu_fitB0, nu_fitB1]
        exact ih (j + 1) L i R (by omega) hi (by omega) fin (by omega)
      · rw [if_pos (by omega)] at hL'
        (try simp only [Option.toList_some, Option.toList_none, List.nil_append, List.append_nil, List.cons_append, Nat.sub_zero, Nat.sub_self, Nat.zero_sub]); refine Go.wp sp_53 200 ?_; simp only [↓g53_0, ↓g53_1, ↓g53_2, ↓g53_3, ↓g53_4, ↓g53_5, ↓g53_6, ↓g53_9, ↓g53_12, ↓g53_15, ↓g53_16, ↓g53_17, ↓g53_18, ↓g53_19, ↓g53_20, ↓g53_22, ↓g53_24, ↓g53_25, ↓g53_28, ↓g53_31, ↓g53_34, ↓g53_35, ↓g53_38, ↓g53_41, ↓g53_43, ↓g53_43t, ↓g53_44, ↓g53_45, ↓g53_48, ↓g53_51, ↓g53_52, ↓g53_52t, ↓g53_53, ↓g53_56, ↓g53_59, ↓g53_62, ↓g53_65, ↓g53_66, ↓g53_67, ↓g53_70, ↓g53_73, ↓g53_74, ↓g53_75, ↓g53_76, ↓g53_77, ↓g53_78, ↓g53_79, ↓g53_82, ↓g53_85, ↓g53_86, ↓Go_s, ↓GoC_a, ↓reduceIte, ↓mm_call_eq, ↓mmw_nil, ↓mmw_cons, List.take_succ_cons, List.take_zero, List.take_nil, List.drop_succ_cons, List.drop_zero, List.drop_nil, List.reverse_cons, List.reverse_nil, List.nil_append, List.cons_append, List.append_nil, Option.toList_some, Option.toList_none, Nat.sub_zero, Nat.le_refl, mmr_cons, mm_st1, mm_st2, mmi_nil, mmi_cons, mmc_I, mmc_L, mmc_R, mmu_get, mmu_one, mma_get, mma_one, List.filter_cons, List.filter_nil, List.contains_cons, List.contains_nil, Nat.reduceBEq, Nat.reduceAdd, Nat.reduceLT, Nat.reduceSub, Nat.reduceLeDiff, Nat.reduceEqDiff, Int32.reduceAdd, Bool.not_true, Bool.not_false, Bool.and_true, Bool.true_and, Bool.and_false, Bool.false_and, Bool.or_false, Bool.false_or, Bool.or_true, Bool.true_or, if_true, if_false, ite_true, ite_false, Bool.false_eq_true, List.getElem?_cons_zero, List.getElem?_cons_succ, List.length_cons, List.length_nil, true_and, and_true, List.set_cons_zero, List.set_cons_succ, Fin.isValue, Fin.val_zero, Fin.val_one, Fin.val_two, Fin.reduceFinMk, Nat.zero_add, hp_0, hp_1, hp_2, hp_3, hp_4, hp_5, hp_6, hp_7, hp_8, hp_9, hp_10, hp_11, hp_12, hp_13, hp_14, hp_15, hp_16, hp_17, hp_18, hp_19, hp_20, hp_21, hp_22, hp_23, hp_24, hp_25, hp_26, hp_27, hp_28, hp_29, hp_30, hp_31, hp_32, hp_33, hp_34, hp_35, hp_36, hp_37, hp_38, hp_39, hp_40, hp_41, hp_42, hp_43, hp_44, hp_45, hp_46, hp_47, hp_48, hp_49, hp_50, hp_51, hp_52, hp_53, hp_54, hp_55, hp_56, hp_57, hp_58, hp_59, hp_60, hp_61, hp_62, hp_63, hp_64, hp_65, hp_66, hp_67, hp_68, hp_69, hp_70, hp_71, hp_72, hp_73, hp_74, og_0_0, og_0_1, og_0_2, og_0_3, og_0_4, og_0_5, og_0_6, og_0_7, og_0_8, og_0_9, og_0_10, og_0_11, og_0_12, og_0_13, ol_0, og_2_0, og_2_1, og_2_2, og_2_3, og_2_4, og_2_5, og_2_6, ol_2, og_3_0, og_3_1, ol_3, og_5_0, og_5_1, ol_5, og_9_0, og_9_1, og_9_2, og_9_3, og_9_4, og_9_5, og_9_6, ol_9, og_10_0, og_10_1, ol_10, og_12_0, og_12_1, ol_12, og_16_0, og_16_1, og_16_2, ol_16, og_17_0, og_17_1, ol_17, og_21_0, og_21_1, og_21_2, og_21_3, og_21_4, ol_21, og_27_0, og_27_1, og_27_2, og_27_3, og_27_4, og_27_5, og_27_6, og_27_7, og_27_8, og_27_9, og_27_10, ol_27, og_35_0, og_35_1, ol_35, og_37_0, og_37_1, ol_37, og_39_0, og_39_1, ol_39, og_41_0, og_41_1, ol_41, og_43_0, og_43_1, ol_43, og_45_0, og_45_1, ol_45, og_47_0, og_47_1, ol_47, og_49_0, og_49_1, og_49_2, og_49_3, ol_49, og_53_0, og_53_1, ol_53, og_55_0, og_55_1, ol_55, og_57_0, og_57_1, ol_57, og_59_0, og_59_1, ol_59, og_61_0, og_61_1, ol_61, og_63_0, og_63_1, ol_63, og_65_0, og_65_1, og_65_2, ol_65, og_66_0, og_66_1, ol_66, og_70_0, og_70_1, og_70_2, ol_70, og_71_0, og_71_1, ol_71, uo_0_1, uo_0_4, uo_0_8, ua_1, uo_2_0, uo_2_1, uo_2_2, uo_3_1, ua_4, uo_5_1, ua_6, ua_7, ua_8, uo_9_0, uo_9_1, uo_9_2, uo_10_1, ua_11, uo_12_1, ua_13, ua_14, ua_15, uo_17_1, ua_18, ua_19, ua_20, uo_21_4, ua_22, ua_23, ua_24, ua_25, uo_27_2, uo_27_6, uo_27_7, uo_27_8, ua_28, ua_29, ua_31, ua_32, ua_33, ua_34, uo_35_1, ua_36, uo_37_1, ua_38, uo_39_1, ua_40, uo_41_1, ua_42, uo_43_1, ua_44, uo_45_1, ua_46, uo_47_1, ua_48, uo_49_3, ua_51, ua_52, uo_53_1, ua_54, uo_55_1, ua_56, uo_57_1, ua_58, uo_59_1, ua_60, uo_61_1, ua_62, uo_63_1, ua_64, uo_66_1, ua_67, ua_68, ua_69, uo_71_1, ua_72, ua_73, ua_74, sO_g, sA_g, sA_O, sO_A, sO_2, sC_1, sC_2, sC_3, sC_4, sC_5, sC_6, sW_1, sW_2, sW_3, sW_4, uc_0, hp_99, hp_100, hp_101, hp_102, hp_103, hp_104, og_99_0, og_99_1, og_99_2, og_99_3, og_99_4, og_99_5, og_99_6, ol_99, og_103_0, og_103_1, ol_103, uo_99_4, uo_99_5, uo_99_6, ua_100, ua_101, ua_102, uo_103_1, ua_104, fl_O, fl_A, hsr, nI_1, nu_fitI, nu_fitL, nu_fitO, nu_fitA, nu_fitB0, nu_fitB1]
        exact ih (j + 1) (L + 1) i R (by omega) hi (by omega) fin (by omega)
  have outer : ∀ r i R, xs.length = i + r → rkA R (xs.drop i) = rk xs → WP (mm_rw mr_53) (some .int) tb (WM tb d) (fun z h' => z = some (vI (nI (rk xs))) ∧ h' = HP s) 4 [(0, vR 99), (1, vI (nI R)), (2, vI (nI i))] [] (HP s) 0 0 := by
    intro r
    induction r with
    | zero =>
      intro i R hi hR
      have e : i = xs.length := by omega
      subst e
      rw [List.drop_length] at hR
      (try simp only [Option.toList_some, Option.toList_none, List.nil_append, List.append_nil, List.cons_append, Nat.sub_zero, Nat.sub_self, Nat.zero_sub]); refine Go.wp sp_53 200 ?_; simp only [↓g53_0, ↓g53_1, ↓g53_2, ↓g53_3, ↓g53_4, ↓g53_5, ↓g53_6, ↓g53_9, ↓g53_12, ↓g53_15, ↓g53_16, ↓g53_17, ↓g53_18, ↓g53_19, ↓g53_20, ↓g53_22, ↓g53_24, ↓g53_25, ↓g53_28, ↓g53_31, ↓g53_34, ↓g53_35, ↓g53_38, ↓g53_41, ↓g53_43, ↓g53_43t, ↓g53_44, ↓g53_45, ↓g53_48, ↓g53_51, ↓g53_52, ↓g53_52t, ↓g53_53, ↓g53_56, ↓g53_59, ↓g53_62, ↓g53_65, ↓g53_66, ↓g53_67, ↓g53_70, ↓g53_73, ↓g53_74, ↓g53_75, ↓g53_76, ↓g53_77, ↓g53_78, ↓g53_79, ↓g53_82, ↓g53_85, ↓g53_86, ↓Go_s, ↓GoC_a, ↓reduceIte, ↓mm_call_eq, ↓mmw_nil, ↓mmw_cons, List.take_succ_cons, List.take_zero, List.take_nil, List.drop_succ_cons, List.drop_zero, List.drop_nil, List.reverse_cons, List.reverse_nil, List.nil_append, List.cons_append, List.append_nil, Option.toList_some, Option.toList_none, Nat.sub_zero, Nat.le_refl, mmr_cons, mm_st1, mm_st2, mmi_nil, mmi_cons, mmc_I, mmc_L, mmc_R, mmu_get, mmu_one, mma_get, mma_one, List.filter_cons, List.filter_nil, List.contains_cons, List.contains_nil, Nat.reduceBEq, Nat.reduceAdd, Nat.reduceLT, Nat.reduceSub, Nat.reduceLeDiff, Nat.reduceEqDiff, Int32.reduceAdd, Bool.not_true, Bool.not_false, Bool.and_true, Bool.true_and, Bool.and_false, Bool.false_and, Bool.or_false, Bool.false_or, Bool.or_true, Bool.true_or, if_true, if_false, ite_true, ite_false, Bool.false_eq_true, List.getElem?_cons_zero, List.getElem?_cons_succ, List.length_cons, List.length_nil, true_and, and_true, List.set_cons_zero, List.set_cons_succ, Fin.isValue, Fin.val_zero, Fin.val_one, Fin.val_two, Fin.reduceFinMk, Nat.zero_add, hp_0, hp_1, hp_2, hp_3, hp_4, hp_5, hp_6, hp_7, hp_8, hp_9, hp_10, hp_11, hp_12, hp_13, hp_14, hp_15, hp_16, hp_17, hp_18, hp_19, hp_20, hp_21, hp_22, hp_23, hp_24, hp_25, hp_26, hp_27, hp_28, hp_29, hp_30, hp_31, hp_32, hp_33, hp_34, hp_35, hp_36, hp_37, hp_38, hp_39, hp_40, hp_41, hp_42, hp_43, hp_44, hp_45, hp_46, hp_47, hp_48, hp_49, hp_50, hp_51, hp_52, hp_53, hp_54, hp_55, hp_56, hp_57, hp_58, hp_59, hp_60, hp_61, hp_62, hp_63, hp_64, hp_65, hp_66, hp_67, hp_68, hp_69, hp_70, hp_71, hp_72, hp_73, hp_74, og_0_0, og_0_1, og_0_2, og_0_3, og_0_4, og_0_5, og_0_6, og_0_7, og_0_8, og_0_9, og_0_10, og_0_11, og_0_12, og_0_13, ol_0, og_2_0, og_2_1, og_2_2, og_2_3, og_2_4, og_2_5, og_2_6, ol_2, og_3_0, og_3_1, ol_3, og_5_0, og_5_1, ol_5, og_9_0, og_9_1, og_9_2, og_9_3, og_9_4, og_9_5, og_9_6, ol_9, og_10_0, og_10_1, ol_10, og_12_0, og_12_1, ol_12, og_16_0, og_16_1, og_16_2, ol_16, og_17_0, og_17_1, ol_17, og_21_0, og_21_1, og_21_2, og_21_3, og_21_4, ol_21, og_27_0, og_27_1, og_27_2, og_27_3, og_27_4, og_27_5, og_27_6, og_27_7, og_27_8, og_27_9, og_27_10, ol_27, og_35_0, og_35_1, ol_35, og_37_0, og_37_1, ol_37, og_39_0, og_39_1, ol_39, og_41_0, og_41_1, ol_41, og_43_0, og_43_1, ol_43, og_45_0, og_45_1, ol_45, og_47_0, og_47_1, ol_47, og_49_0, og_49_1, og_49_2, og_49_3, ol_49, og_53_0, og_53_1, ol_53, og_55_0, og_55_1, ol_55, og_57_0, og_57_1, ol_57, og_59_0, og_59_1, ol_59, og_61_0, og_61_1, ol_61, og_63_0, og_63_1, ol_63, og_65_0, og_65_1, og_65_2, ol_65, og_66_0, og_66_1, ol_66, og_70_0, og_70_1, og_70_2, ol_70, og_71_0, og_71_1, ol_71, uo_0_1, uo_0_4, uo_0_8, ua_1, uo_2_0, uo_2_1, uo_2_2, uo_3_1, ua_4, uo_5_1, ua_6, ua_7, ua_8, uo_9_0, uo_9_1, uo_9_2, uo_10_1, ua_11, uo_12_1, ua_13, ua_14, ua_15, uo_17_1, ua_18, ua_19, ua_20, uo_21_4, ua_22, ua_23, ua_24, ua_25, uo_27_2, uo_27_6, uo_27_7, uo_27_8, ua_28, ua_29, ua_31, ua_32, ua_33, ua_34, uo_35_1, ua_36, uo_37_1, ua_38, uo_39_1, ua_40, uo_41_1, ua_42, uo_43_1, ua_44, uo_45_1, ua_46, uo_47_1, ua_48, uo_49_3, ua_51, ua_52, uo_53_1, ua_54, uo_55_1, ua_56, uo_57_1, ua_58, uo_59_1, ua_60, uo_61_1, ua_62, uo_63_1, ua_64, uo_66_1, ua_67, ua_68, ua_69, uo_71_1, ua_72, ua_73, ua_74, sO_g, sA_g, sA_O, sO_A, sO_2, sC_1, sC_2, sC_3, sC_4, sC_5, sC_6, sW_1, sW_2, sW_3, sW_4, uc_0, hp_99, hp_100, hp_101, hp_102, hp_103, hp_104, og_99_0, og_99_1, og_99_2, og_99_3, og_99_4, og_99_5, og_99_6, ol_99, og_103_0, og_103_1, ol_103, uo_99_4, uo_99_5, uo_99_6, ua_100, ua_101, ua_102, uo_103_1, ua_104, fl_O, fl_A, hsr, h1, nu_fitI, nu_fitL, nu_fitO, nu_fitA, nu_fitB0, nu_fitB1]
      exact ⟨fun _ => by rw [show R = rk xs from hR], fun c => absurd (Int32.le_refl _) c⟩
    | succ r ih =>
      intro i R hi hR
      have hi' : i < xs.length := by omega
      rw [drop_c hi'] at hR
      have hR' : rkA (R * ((xs.drop (i + 1)).length + 1) + ls (xs.getD i 0) (xs.drop (i + 1))) (xs.drop (i + 1)) = rk xs := hR
      rw [List.length_drop, show xs.length - (i + 1) + 1 = xs.length - i by omega] at hR'
      (try simp only [Option.toList_some, Option.toList_none, List.nil_append, List.append_nil, List.cons_append, Nat.sub_zero, Nat.sub_self, Nat.zero_sub]); refine Go.wp sp_53 200 ?_; simp only [↓g53_0, ↓g53_1, ↓g53_2, ↓g53_3, ↓g53_4, ↓g53_5, ↓g53_6, ↓g53_9, ↓g53_12, ↓g53_15, ↓g53_16, ↓g53_17, ↓g53_18, ↓g53_19, ↓g53_20, ↓g53_22, ↓g53_24, ↓g53_25, ↓g53_28, ↓g53_31, ↓g53_34, ↓g53_35, ↓g53_38, ↓g53_41, ↓g53_43, ↓g53_43t, ↓g53_44, ↓g53_45, ↓g53_48, ↓g53_51, ↓g53_52, ↓g53_52t, ↓g53_53, ↓g53_56, ↓g53_59, ↓g53_62, ↓g53_65, ↓g53_66, ↓g53_67, ↓g53_70, ↓g53_73, ↓g53_74, ↓g53_75, ↓g53_76, ↓g53_77, ↓g53_78, ↓g53_79, ↓g53_82, ↓g53_85, ↓g53_86, ↓Go_s, ↓GoC_a, ↓reduceIte, ↓mm_call_eq, ↓mmw_nil, ↓mmw_cons, List.take_succ_cons, List.take_zero, List.take_nil, List.drop_succ_cons, List.drop_zero, List.drop_nil, List.reverse_cons, List.reverse_nil, List.nil_append, List.cons_append, List.append_nil, Option.toList_some, Option.toList_none, Nat.sub_zero, Nat.le_refl, mmr_cons, mm_st1, mm_st2, mmi_nil, mmi_cons, mmc_I, mmc_L, mmc_R, mmu_get, mmu_one, mma_get, mma_one, List.filter_cons, List.filter_nil, List.contains_cons, List.contains_nil, Nat.reduceBEq, Nat.reduceAdd, Nat.reduceLT, Nat.reduceSub, Nat.reduceLeDiff, Nat.reduceEqDiff, Int32.reduceAdd, Bool.not_true, Bool.not_false, Bool.and_true, Bool.true_and, Bool.and_false, Bool.false_and, Bool.or_false, Bool.false_or, Bool.or_true, Bool.true_or, if_true, if_false, ite_true, ite_false, Bool.false_eq_true, List.getElem?_cons_zero, List.getElem?_cons_succ, List.length_cons, List.length_nil, true_and, and_true, List.set_cons_zero, List.set_cons_succ, Fin.isValue, Fin.val_zero, Fin.val_one, Fin.val_two, Fin.reduceFinMk, Nat.zero_add, hp_0, hp_1, hp_2, hp_3, hp_4, hp_5, hp_6, hp_7, hp_8, hp_9, hp_10, hp_11, hp_12, hp_13, hp_14, hp_15, hp_16, hp_17, hp_18, hp_19, hp_20, hp_21, hp_22, hp_23, hp_24, hp_25, hp_26, hp_27, hp_28, hp_29, hp_30, hp_31, hp_32, hp_33, hp_34, hp_35, hp_36, hp_37, hp_38, hp_39, hp_40, hp_41, hp_42, hp_43, hp_44, hp_45, hp_46, hp_47, hp_48, hp_49, hp_50, hp_51, hp_52, hp_53, hp_54, hp_55, hp_56, hp_57, hp_58, hp_59, hp_60, hp_61, hp_62, hp_63, hp_64, hp_65, hp_66, hp_67, hp_68, hp_69, hp_70, hp_71, hp_72, hp_73, hp_74, og_0_0, og_0_1, og_0_2, og_0_3, og_0_4, og_0_5, og_0_6, og_0_7, og_0_8, og_0_9, og_0_10, og_0_11, og_0_12, og_0_13, ol_0, og_2_0, og_2_1, og_2_2, og_2_3, og_2_4, og_2_5, og_2_6, ol_2, og_3_0, og_3_1, ol_3, og_5_0, og_5_1, ol_5, og_9_0, og_9_1, og_9_2, og_9_3, og_9_4, og_9_5, og_9_6, ol_9, og_10_0, og_10_1, ol_10, og_12_0, og_12_1, ol_12, og_16_0, og_16_1, og_16_2, ol_16, og_17_0, og_17_1, ol_17, og_21_0, og_21_1, og_21_2, og_21_3, og_21_4, ol_21, og_27_0, og_27_1, og_27_2, og_27_3, og_27_4, og_27_5, og_27_6, og_27_7, og_27_8, og_27_9, og_27_10, ol_27, og_35_0, og_35_1, ol_35, og_37_0, og_37_1, ol_37, og_39_0, og_39_1, ol_39, og_41_0, og_41_1, ol_41, og_43_0, og_43_1, ol_43, og_45_0, og_45_1, ol_45, og_47_0, og_47_1, ol_47, og_49_0, og_49_1, og_49_2, og_49_3, ol_49, og_53_0, og_53_1, ol_53, og_55_0, og_55_1, ol_55, og_57_0, og_57_1, ol_57, og_59_0, og_59_1, ol_59, og_61_0, og_61_1, ol_61, og_63_0, og_63_1, ol_63, og_65_0, og_65_1, og_65_2, ol_65, og_66_0, og_66_1, ol_66, og_70_0, og_70_1, og_70_2, ol_70, og_71_0, og_71_1, ol_71, uo_0_1, uo_0_4, uo_0_8, ua_1, uo_2_0, uo_2_1, uo_2_2, uo_3_1, ua_4, uo_5_1, ua_6, ua_7, ua_8, uo_9_0, uo_9_1, uo_9_2, uo_10_1, ua_11, uo_12_1, ua_13, ua_14, ua_15, uo_17_1, ua_18, ua_19, ua_20, uo_21_4, ua_22, ua_23, ua_24, ua_25, uo_27_2, uo_27_6, uo_27_7, uo_27_8, ua_28, ua_29, ua_31, ua_32, ua_33, ua_34, uo_35_1, ua_36, uo_37_1, ua_38, uo_39_1, ua_40, uo_41_1, ua_42, uo_43_1, ua_44, uo_45_1, ua_46, uo_47_1, ua_48, uo_49_3, ua_51, ua_52, uo_53_1, ua_54, uo_55_1, ua_56, uo_57_1, ua_58, uo_59_1, ua_60, uo_61_1, ua_62, uo_63_1, ua_64, uo_66_1, ua_67, ua_68, ua_69, uo_71_1, ua_72, ua_73, ua_74, sO_g, sA_g, sA_O, sO_A, sO_2, sC_1, sC_2, sC_3, sC_4, sC_5, sC_6, sW_1, sW_2, sW_3, sW_4, uc_0, hp_99, hp_100, hp_101, hp_102, hp_103, hp_104, og_99_0, og_99_1, og_99_2, og_99_3, og_99_4, og_99_5, og_99_6, ol_99, og_103_0, og_103_1, ol_103, uo_99_4, uo_99_5, uo_99_6, ua_100, ua_101, ua_102, uo_103_1, ua_104, fl_O, fl_A, hsr, h1, nI_1, nu_fitI, nu_fitL, nu_fitO, nu_fitA, nu_fitB0, nu_fitB1]
      refine ⟨fun c => absurd c (nI_ge hi' (by omega)), fun _ => ?_⟩
      refine inner r (i + 1) 0 i R (by omega) hi' (by omega) (fun L2 hL2 => ?_) (Nat.zero_add _)
      have e1 : nI R * (nI xs.length - nI i) + nI L2 = nI (R * (xs.length - i) + L2) := by rw [pk_sub (by omega), pk_mul, nI_add]
      (try simp only [Option.toList_some, Option.toList_none, List.nil_append, List.append_nil, List.cons_append, Nat.sub_zero, Nat.sub_self, Nat.zero_sub]); refine Go.wp sp_53 200 ?_; simp only [↓g53_0, ↓g53_1, ↓g53_2, ↓g53_3, ↓g53_4, ↓g53_5, ↓g53_6, ↓g53_9, ↓g53_12, ↓g53_15, ↓g53_16, ↓g53_17, ↓g53_18, ↓g53_19, ↓g53_20, ↓g53_22, ↓g53_24, ↓g53_25, ↓g53_28, ↓g53_31, ↓g53_34, ↓g53_35, ↓g53_38, ↓g53_41, ↓g53_43, ↓g53_43t, ↓g53_44, ↓g53_45, ↓g53_48, ↓g53_51, ↓g53_52, ↓g53_52t, ↓g53_53, ↓g53_56, ↓g53_59, ↓g53_62, ↓g53_65, ↓g53_66, ↓g53_67, ↓g53_70, ↓g53_73, ↓g53_74, ↓g53_75, ↓g53_76, ↓g53_77, ↓g53_78, ↓g53_79, ↓g53_82, ↓g53_85, ↓g53_86, ↓Go_s, ↓GoC_a, ↓reduceIte, ↓mm_call_eq, ↓mmw_nil, ↓mmw_cons, List.take_succ_cons, List.take_zero, List.take_nil, List.drop_succ_cons, List.drop_zero, List.drop_nil, List.reverse_cons, List.reverse_nil, List.nil_append, List.cons_append, List.append_nil, Option.toList_some, Option.toList_none, Nat.sub_zero, Nat.le_refl, mmr_cons, mm_st1, mm_st2, mmi_nil, mmi_cons, mmc_I, mmc_L, mmc_R, mmu_get, mmu_one, mma_get, mma_one, List.filter_cons, List.filter_nil, List.contains_cons, List.contains_nil, Nat.reduceBEq, Nat.reduceAdd, Nat.reduceLT, Nat.reduceSub, Nat.reduceLeDiff, Nat.reduceEqDiff, Int32.reduceAdd, Bool.not_true, Bool.not_false, Bool.and_true, Bool.true_and, Bool.and_false, Bool.false_and, Bool.or_false, Bool.false_or, Bool.or_true, Bool.true_or, if_true, if_false, ite_true, ite_false, Bool.false_eq_true, List.getElem?_cons_zero, List.getElem?_cons_succ, List.length_cons, List.length_nil, true_and, and_true, List.set_cons_zero, List.set_cons_succ, Fin.isValue, Fin.val_zero, Fin.val_one, Fin.val_two, Fin.reduceFinMk, Nat.zero_add, hp_0, hp_1, hp_2, hp_3, hp_4, hp_5, hp_6, hp_7, hp_8, hp_9, hp_10, hp_11, hp_12, hp_13, hp_14, hp_15, hp_16, hp_17, hp_18, hp_19, hp_20, hp_21, hp_22, hp_23, hp_24, hp_25, hp_26, hp_27, hp_28, hp_29, hp_30, hp_31, hp_32, hp_33, hp_34, hp_35, hp_36, hp_37, hp_38, hp_39, hp_40, hp_41, hp_42, hp_43, hp_44, hp_45, hp_46, hp_47, hp_48, hp_49, hp_50, hp_51, hp_52, hp_53, hp_54, hp_55, hp_56, hp_57, hp_58, hp_59, hp_60, hp_61, hp_62, hp_63, hp_64, hp_65, hp_66, hp_67, hp_68, hp_69, hp_70, hp_71, hp_72, hp_73, hp_74, og_0_0, og_0_1, og_0_2, og_0_3, og_0_4, og_0_5, og_0_6, og_0_7, og_0_8, og_0_9, og_0_10, og_0_11, og_0_12, og_0_13, ol_0, og_2_0, og_2_1, og_2_2, og_2_3, og_2_4, og_2_5, og_2_6, ol_2, og_3_0, og_3_1, ol_3, og_5_0, og_5_1, ol_5, og_9_0, og_9_1, og_9_2, og_9_3, og_9_4, og_9_5, og_9_6, ol_9, og_10_0, og_10_1, ol_10, og_12_0, og_12_1, ol_12, og_16_0, og_16_1, og_16_2, ol_16, og_17_0, og_17_1, ol_17, og_21_0, og_21_1, og_21_2, og_21_3, og_21_4, ol_21, og_27_0, og_27_1, og_27_2, og_27_3, og_27_4, og_27_5, og_27_6, og_27_7, og_27_8, og_27_9, og_27_10, ol_27, og_35_0, og_35_1, ol_35, og_37_0, og_37_1, ol_37, og_39_0, og_39_1, ol_39, og_41_0, og_41_1, ol_41, og_43_0, og_43_1, ol_43, og_45_0, og_45_1, ol_45, og_47_0, og_47_1, ol_47, og_49_0, og_49_1, og_49_2, og_49_3, ol_49, og_53_0, og_53_1, ol_53, og_55_0, og_55_1, ol_55, og_57_0, og_57_1, ol_57, og_59_0, og_59_1, ol_59, og_61_0, og_61_1, ol_61, og_63_0, og_63_1, ol_63, og_65_0, og_65_1, og_65_2, ol_65, og_66_0, og_66_1, ol_66, og_70_0, og_70_1, og_70_2, ol_70, og_71_0, og_71_1, ol_71, uo_0_1, uo_0_4, uo_0_8, ua_1, uo_2_0, uo_2_1, uo_2_2, uo_3_1, ua_4, uo_5_1, ua_6, ua_7, ua_8, uo_9_0, uo_9_1, uo_9_2, uo_10_1, ua_11, uo_12_1, ua_13, ua_14, ua_15, uo_17_1, ua_18, ua_19, ua_20, uo_21_4, ua_22, ua_23, ua_24, ua_25, uo_27_2, uo_27_6, uo_27_7, uo_27_8, ua_28, ua_29, ua_31, ua_32, ua_33, ua_34, uo_35_1, ua_36, uo_37_1, ua_38, uo_39_1, ua_40, uo_41_1, ua_42, uo_43_1, ua_44, uo_45_1, ua_46, uo_47_1, ua_48, uo_49_3, ua_51, ua_52, uo_53_1, ua_54, uo_55_1, ua_56, uo_57_1, ua_58, uo_59_1, ua_60, uo_61_1, ua_62, uo_63_1, ua_64, uo_66_1, ua_67, ua_68, ua_69, uo_71_1, ua_72, ua_73, ua_74, sO_g, sA_g, sA_O, sO_A, sO_2, sC_1, sC_2, sC_3, sC_4, sC_5, sC_6, sW_1, sW_2, sW_3, sW_4, uc_0, hp_99, hp_100, hp_101, hp_102, hp_103, hp_104, og_99_0, og_99_1, og_99_2, og_99_3, og_99_4, og_99_5, og_99_6, ol_99, og_103_0, og_103_1, ol_103, uo_99_4, uo_99_5, uo_99_6, ua_100, ua_101, ua_102, uo_103_1, ua_104, fl_O, fl_A, hsr, h1, e1, nI_1, nu_fitI, nu_fitL, nu_fitO, nu_fitA, nu_fitB0, nu_fitB1]
      refine WP.drop (by simp) (ih (i + 1) (R * (xs.length - i) + L2) (by omega) ?_)
      rw [hL2]
      exact hR'
  refine WM.of mi_53 rfl rfl (Nat.le_of_ble_eq_true rfl) ?_
  show WP (mm_rw mr_53) (some .int) tb (WM tb d) _ 0 [(0, vR 99)] [] (HP s) 0 0
  (try simp only [Option.toList_some, Option.toList_none, List.nil_append, List.append_nil, List.cons_append, Nat.sub_zero, Nat.sub_self, Nat.zero_sub]); refine Go.wp sp_53 200 ?_; simp only [↓g53_0, ↓g53_1, ↓g53_2, ↓g53_3, ↓g53_4, ↓g53_5, ↓g53_6, ↓g53_9, ↓g53_12, ↓g53_15, ↓g53_16, ↓g53_17, ↓g53_18, ↓g53_19, ↓g53_20, ↓g53_22, ↓g53_24, ↓g53_25, ↓g53_28, ↓g53_31, ↓g53_34, ↓g53_35, ↓g53_38, ↓g53_41, ↓g53_43, ↓g53_43t, ↓g53_44, ↓g53_45, ↓g53_48, ↓g53_51, ↓g53_52, ↓g53_52t, ↓g53_53, ↓g53_56, ↓g53_59, ↓g53_62, ↓g53_65, ↓g53_66, ↓g53_67, ↓g53_70, ↓g53_73, ↓g53_74, ↓g53_75, ↓g53_76, ↓g53_77, ↓g53_78, ↓g53_79, ↓g53_82, ↓g53_85, ↓g53_86, ↓Go_s, ↓GoC_a, ↓reduceIte, ↓mm_call_eq, ↓mmw_nil, ↓mmw_cons, List.take_succ_cons, List.take_zero, List.take_nil, List.drop_succ_cons, List.drop_zero, List.drop_nil, List.reverse_cons, List.reverse_nil, List.nil_append, List.cons_append, List.append_nil, Option.toList_some, Option.toList_none, Nat.sub_zero, Nat.le_refl, mmr_cons, mm_st1, mm_st2, mmi_nil, mmi_cons, mmc_I, mmc_L, mmc_R, mmu_get, mmu_one, mma_get, mma_one, List.filter_cons, List.filter_nil, List.contains_cons, List.contains_nil, Nat.reduceBEq, Nat.reduceAdd, Nat.reduceLT, Nat.reduceSub, Nat.reduceLeDiff, Nat.reduceEqDiff, Int32.reduceAdd, Bool.not_true, Bool.not_false, Bool.and_true, Bool.true_and, Bool.and_false, Bool.false_and, Bool.or_false, Bool.false_or, Bool.or_true, Bool.true_or, if_true, if_false, ite_true, ite_false, Bool.false_eq_true, List.getElem?_cons_zero, List.getElem?_cons_succ, List.length_cons, List.length_nil, true_and, and_true, List.set_cons_zero, List.set_cons_succ, Fin.isValue, Fin.val_zero, Fin.val_one, Fin.val_two, Fin.reduceFinMk, Nat.zero_add, hp_0, hp_1, hp_2, hp_3, hp_4, hp_5, hp_6, hp_7, hp_8, hp_9, hp_10, hp_11, hp_12, hp_13, hp_14, hp_15, hp_16, hp_17, hp_18, hp_19, hp_20, hp_21, hp_22, hp_23, hp_24, hp_25, hp_26, hp_27, hp_28, hp_29, hp_30, hp_31, hp_32, hp_33, hp_34, hp_35, hp_36, hp_37, hp_38, hp_39, hp_40, hp_41, hp_42, hp_43, hp_44, hp_45, hp_46, hp_47, hp_48, hp_49, hp_50, hp_51, hp_52, hp_53, hp_54, hp_55, hp_56, hp_57, hp_58, hp_59, hp_60, hp_61, hp_62, hp_63, hp_64, hp_65, hp_66, hp_67, hp_68, hp_69, hp_70, hp_71, hp_72, hp_73, hp_74, og_0_0, og_0_1, og_0_2, og_0_3, og_0_4, og_0_5, og_0_6, og_0_7, og_0_8, og_0_9, og_0_10, og_0_11, og_0_12, og_0_13, ol_0, og_2_0, og_2_1, og_2_2, og_2_3, og_2_4, og_2_5, og_2_6, ol_2, og_3_0, og_3_1, ol_3, og_5_0, og_5_1, ol_5, og_9_0, og_9_1, og_9_2, og_9_3, og_9_4, og_9_5, og_9_6, ol_9, og_10_0, og_10_1, ol_10, og_12_0, og_12_1, ol_12, og_16_0, og_16_1, og_16_2, ol_16, og_17_0, og_17_1, ol_17, og_21_0, og_21_1, og_21_2, og_21_3, og_21_4, ol_21, og_27_0, og_27_1, og_27_2, og_27_3, og_27_4, og_27_5, og_27_6, og_27_7, og_27_8, og_27_9, og_27_10, ol_27, og_35_0, og_35_1, ol_35, og_37_0, og_37_1, ol_37, og_39_0, og_39_1, ol_39, og_41_0, og_41_1, ol_41, og_43_0, og_43_1, ol_43, og_45_0, og_45_1, ol_45, og_47_0, og_47_1, ol_47, og_49_0, og_49_1, og_49_2, og_49_3, ol_49, og_53_0, og_53_1, ol_53, og_55_0, og_55_1, ol_55, og_57_0, og_57_1, ol_57, og_59_0, og_59_1, ol_59, og_61_0, og_61_1, ol_61, og_63_0, og_63_1, ol_63, og_65_0, og_65_1, og_65_2, ol_65, og_66_0, og_66_1, ol_66, og_70_0, og_70_1, og_70_2, ol_70, og_71_0, og_71_1, ol_71, uo_0_1, uo_0_4, uo_0_8, ua_1, uo_2_0, uo_2_1, uo_2_2, uo_3_1, ua_4, uo_5_1, ua_6, ua_7, ua_8, uo_9_0, uo_9_1, uo_9_2, uo_10_1, ua_11, uo_12_1, ua_13, ua_14, ua_15, uo_17_1, ua_18, ua_19, ua_20, uo_21_4, ua_22, ua_23, ua_24, ua_25, uo_27_2, uo_27_6, uo_27_7, uo_27_8, ua_28, ua_29, ua_31, ua_32, ua_33, ua_34, uo_35_1, ua_36, uo_37_1, ua_38, uo_39_1, ua_40, uo_41_1, ua_42, uo_43_1, ua_44, uo_45_1, ua_46, uo_47_1, ua_48, uo_49_3, ua_51, ua_52, uo_53_1, ua_54, uo_55_1, ua_56, uo_57_1, ua_58, uo_59_1, ua_60, uo_61_1, ua_62, uo_63_1, ua_64, uo_66_1, ua_67, ua_68, ua_69, uo_71_1, ua_72, ua_73, ua_74, sO_g, sA_g, sA_O, sO_A, sO_2, sC_1, sC_2, sC_3, sC_4, sC_5, sC_6, sW_1, sW_2, sW_3, sW_4, uc_0, hp_99, hp_100, hp_101, hp_102, hp_103, hp_104, og_99_0, og_99_1, og_99_2, og_99_3, og_99_4, og_99_5, og_99_6, ol_99, og_103_0, og_103_1, ol_103, uo_99_4, uo_99_5, uo_99_6, ua_100, ua_101, ua_102, uo_103_1, ua_104, fl_O, fl_A, hsr, nu_fitI, nu_fitL, nu_fitO, nu_fitA, nu_fitB0, nu_fitB1]
  exact outer xs.length 0 0 (by omega) (rkA_0 xs)
theorem C_packed {xs : List Nat} (hsr : s.2.2.2.1 = true) (hx : RS s 103 104 xs) : WM tb (d + 1) k_Search_packed [vR 99] (HP s) 0 0 (fun z h' => z = some (vI (nI (p8 xs))) ∧ h' = HP s) := by
  obtain ⟨h1, hl, h8, hf⟩ := hx
  have key : ∀ m, m ≤ xs.length → WP (mm_rw mr_51) (some .int) tb (WM tb d) (fun z h' => z = some (vI (nI (p8 xs))) ∧ h' = HP s) 12 [(0, vR 99), (1, vI (nI (p8 (xs.drop m)))), (2, vI (nI m - 1))] [] (HP s) 0 0 := by
    intro m
    induction m with
    | zero =>
      intro hm
      (try simp only [Option.toList_some, Option.toList_none, List.nil_append, List.append_nil, List.cons_append, Nat.sub_zero, Nat.sub_self, Nat.zero_sub]); refine Go.wp sp_51 200 ?_; simp only [↓g51_0, ↓g51_1, ↓g51_2, ↓g51_3, ↓g51_6, ↓g51_9, ↓g51_10, ↓g51_11, ↓g51_12, ↓g51_13, ↓g51_16, ↓g51_17, ↓g51_19, ↓g51_20, ↓g51_21, ↓g51_24, ↓g51_27, ↓g51_28, ↓g51_28t, ↓g51_29, ↓g51_30, ↓g51_31, ↓g51_34, ↓g51_37, ↓g51_38, ↓Go_s, ↓GoC_a, ↓reduceIte, ↓mm_call_eq, ↓mmw_nil, ↓mmw_cons, List.take_succ_cons, List.take_zero, List.take_nil, List.drop_succ_cons, List.drop_zero, List.drop_nil, List.reverse_cons, List.reverse_nil, List.nil_append, List.cons_append, List.append_nil, Option.toList_some, Option.toList_none, Nat.sub_zero, Nat.le_refl, mmr_cons, mm_st1, mm_st2, mmi_nil, mmi_cons, mmc_I, mmc_L, mmc_R, mmu_get, mmu_one, mma_get, mma_one, List.filter_cons, List.filter_nil, List.contains_cons, List.contains_nil, Nat.reduceBEq, Nat.reduceAdd, Nat.reduceLT, Nat.reduceSub, Nat.reduceLeDiff, Nat.reduceEqDiff, Int32.reduceAdd, Bool.not_true, Bool.not_false, Bool.and_true, Bool.true_and, Bool.and_false, Bool.false_and, Bool.or_false, Bool.false_or, Bool.or_true, Bool.true_or, if_true, if_false, ite_true, ite_false, Bool.false_eq_true, List.getElem?_cons_zero, List.getElem?_cons_succ, List.length_cons, List.length_nil, true_and, and_true, List.set_cons_zero, List.set_cons_succ, Fin.isValue, Fin.val_zero, Fin.val_one, Fin.val_two, Fin.reduceFinMk, Nat.zero_add, hp_0, hp_1, hp_2, hp_3, hp_4, hp_5, hp_6, hp_7, hp_8, hp_9, hp_10, hp_11, hp_12, hp_13, hp_14, hp_15, hp_16, hp_17, hp_18, hp_19, hp_20, hp_21, hp_22, hp_23, hp_24, hp_25, hp_26, hp_27, hp_28, hp_29, hp_30, hp_31, hp_32, hp_33, hp_34, hp_35, hp_36, hp_37, hp_38, hp_39, hp_40, hp_41, hp_42, hp_43, hp_44, hp_45, hp_46, hp_47, hp_48, hp_49, hp_50, hp_51, hp_52, hp_53, hp_54, hp_55, hp_56, hp_57, hp_58, hp_59, hp_60, hp_61, hp_62, hp_63, hp_64, hp_65, hp_66, hp_67, hp_68, hp_69, hp_70, hp_71, hp_72, hp_73, hp_74, og_0_0, og_0_1, og_0_2, og_0_3, og_0_4, og_0_5, og_0_6, og_0_7, og_0_8, og_0_9, og_0_10, og_0_11, og_0_12, og_0_13, ol_0, og_2_0, og_2_1, og_2_2, og_2_3, og_2_4, og_2_5, og_2_6, ol_2, og_3_0, og_3_1, ol_3, og_5_0, og_5_1, ol_5, og_9_0, og_9_1, og_9_2, og_9_3, og_9_4, og_9_5, og_9_6, ol_9, og_10_0, og_10_1, ol_10, og_12_0, og_12_1, ol_12, og_16_0, og_16_1, og_16_2, ol_16, og_17_0, og_17_1, ol_17, og_21_0, og_21_1, og_21_2, og_21_3, og_21_4, ol_21, og_27_0, og_27_1, og_27_2, og_27_3, og_27_4, og_27_5, og_27_6, og_27_7, og_27_8, og_27_9, og_27_10, ol_27, og_35_0, og_35_1, ol_35, og_37_0, og_37_1, ol_37, og_39_0, og_39_1, ol_39, og_41_0, og_41_1, ol_41, og_43_0, og_43_1, ol_43, og_45_0, og_45_1, ol_45, og_47_0, og_47_1, ol_47, og_49_0, og_49_1, og_49_2, og_49_3, ol_49, og_53_0, og_53_1, ol_53, og_55_0, og_55_1, ol_55, og_57_0, og_57_1, ol_57, og_59_0, og_59_1, ol_59, og_61_0, og_61_1, ol_61, og_63_0, og_63_1, ol_63, og_65_0, og_65_1, og_65_2, ol_65, og_66_0, og_66_1, ol_66, og_70_0, og_70_1, og_70_2, ol_70, og_71_0, og_71_1, ol_71, uo_0_1, uo_0_4, uo_0_8, ua_1, uo_2_0, uo_2_1, uo_2_2, uo_3_1, ua_4, uo_5_1, ua_6, ua_7, ua_8, uo_9_0, uo_9_1, uo_9_2, uo_10_1, ua_11, uo_12_1, ua_13, ua_14, ua_15, uo_17_1, ua_18, ua_19, ua_20, uo_21_4, ua_22, ua_23, ua_24, ua_25, uo_27_2, uo_27_6, uo_27_7, uo_27_8, ua_28, ua_29, ua_31, ua_32, ua_33, ua_34, uo_35_1, ua_36, uo_37_1, ua_38, uo_39_1, ua_40, uo_41_1, ua_42, uo_43_1, ua_44, uo_45_1, ua_46, uo_47_1, ua_48, uo_49_3, ua_51, ua_52, uo_53_1, ua_54, uo_55_1, ua_56, uo_57_1, ua_58, uo_59_1, ua_60, uo_61_1, ua_62, uo_63_1, ua_64, uo_66_1, ua_67, ua_68, ua_69, uo_71_1, ua_72, ua_73, ua_74, sO_g, sA_g, sA_O, sO_A, sO_2, sC_1, sC_2, sC_3, sC_4, sC_5, sC_6, sW_1, sW_2, sW_3, sW_4, uc_0, hp_99, hp_100, hp_101, hp_102, hp_103, hp_104, og_99_0, og_99_1, og_99_2, og_99_3, og_99_4, og_99_5, og_99_6, ol_99, og_103_0, og_103_1, ol_103, uo_99_4, uo_99_5, uo_99_6, ua_100, ua_101, ua_102, uo_103_1, ua_104, fl_O, fl_A, hsr, nu_fitI, nu_fitL, nu_fitO, nu_fitA, nu_fitB0, nu_fitB1]
      exact ⟨fun _ => trivial, fun c => absurd (by decide) c⟩
    | succ m ih =>
      intro hm
      have hm' : m < xs.length := by omega
      have e1 : nI (m + 1) - 1 = nI m := by rw [show (1 : Int32) = nI 1 from rfl, pk_sub (by omega), Nat.add_sub_cancel]
      have hcl : (nI m).toNatClampNeg = m := nI_clamp (by omega)
      have e2 : nI (p8 (xs.drop (m + 1))) * 8 + nI (xs.getD m 0) = nI (p8 (xs.drop m)) := by
        rw [show (8 : Int32) = nI 8 from rfl, pk_mul, nI_add, p8_drop hm', Nat.add_comm, Nat.mul_comm]
      rw [e1]
      (try simp only [Option.toList_some, Option.toList_none, List.nil_append, List.append_nil, List.cons_append, Nat.sub_zero, Nat.sub_self, Nat.zero_sub]); refine Go.wp sp_51 200 ?_; simp only [↓g51_0, ↓g51_1, ↓g51_2, ↓g51_3, ↓g51_6, ↓g51_9, ↓g51_10, ↓g51_11, ↓g51_12, ↓g51_13, ↓g51_16, ↓g51_17, ↓g51_19, ↓g51_20, ↓g51_21, ↓g51_24, ↓g51_27, ↓g51_28, ↓g51_28t, ↓g51_29, ↓g51_30, ↓g51_31, ↓g51_34, ↓g51_37, ↓g51_38, ↓Go_s, ↓GoC_a, ↓reduceIte, ↓mm_call_eq, ↓mmw_nil, ↓mmw_cons, List.take_succ_cons, List.take_zero, List.take_nil, List.drop_succ_cons, List.drop_zero, List.drop_nil, List.reverse_cons, List.reverse_nil, List.nil_append, List.cons_append, List.append_nil, Option.toList_some, Option.toList_none, Nat.sub_zero, Nat.le_refl, mmr_cons, mm_st1, mm_st2, mmi_nil, mmi_cons, mmc_I, mmc_L, mmc_R, mmu_get, mmu_one, mma_get, mma_one, List.filter_cons, List.filter_nil, List.contains_cons, List.contains_nil, Nat.reduceBEq, Nat.reduceAdd, Nat.reduceLT, Nat.reduceSub, Nat.reduceLeDiff, Nat.reduceEqDiff, Int32.reduceAdd, Bool.not_true, Bool.not_false, Bool.and_true, Bool.true_and, Bool.and_false, Bool.false_and, Bool.or_false, Bool.false_or, Bool.or_true, Bool.true_or, if_true, if_false, ite_true, ite_false, Bool.false_eq_true, List.getElem?_cons_zero, List.getElem?_cons_succ, List.length_cons, List.length_nil, true_and, and_true, List.set_cons_zero, List.set_cons_succ, Fin.isValue, Fin.val_zero, Fin.val_one, Fin.val_two, Fin.reduceFinMk, Nat.zero_add, hp_0, hp_1, hp_2, hp_3, hp_4, hp_5, hp_6, hp_7, hp_8, hp_9, hp_10, hp_11, hp_12, hp_13, hp_14, hp_15, hp_16, hp_17, hp_18, hp_19, hp_20, hp_21, hp_22, hp_23, hp_24, hp_25, hp_26, hp_27, hp_28, hp_29, hp_30, hp_31, hp_32, hp_33, hp_34, hp_35, hp_36, hp_37, hp_38, hp_39, hp_40, hp_41, hp_42, hp_43, hp_44, hp_45, hp_46, hp_47, hp_48, hp_49, hp_50, hp_51, hp_52, hp_53, hp_54, hp_55, hp_56, hp_57, hp_58, hp_59, hp_60, hp_61, hp_62, hp_63, hp_64, hp_65, hp_66, hp_67, hp_68, hp_69, hp_70, hp_71, hp_72, hp_73, hp_74, og_0_0, og_0_1, og_0_2, og_0_3, og_0_4, og_0_5, og_0_6, og_0_7, og_0_8, og_0_9, og_0_10, og_0_11, og_0_12, og_0_13, ol_0, og_2_0, og_2_1, og_2_2, og_2_3, og_2_4, og_2_5, og_2_6, ol_2, og_3_0, og_3_1, ol_3, og_5_0, og_5_1, ol_5, og_9_0, og_9_1, og_9_2, og_9_3, og_9_4, og_9_5, og_9_6, ol_9, og_10_0, og_10_1, ol_10, og_12_0, og_12_1, ol_12, og_16_0, og_16_1, og_16_2, ol_16, og_17_0, og_17_1, ol_17, og_21_0, og_21_1, og_21_2, og_21_3, og_21_4, ol_21, og_27_0, og_27_1, og_27_2, og_27_3, og_27_4, og_27_5, og_27_6, og_27_7, og_27_8, og_27_9, og_27_10, ol_27, og_35_0, og_35_1, ol_35, og_37_0, og_37_1, ol_37, og_39_0, og_39_1, ol_39, og_41_0, og_41_1, ol_41, og_43_0, og_43_1, ol_43, og_45_0, og_45_1, ol_45, og_47_0, og_47_1, ol_47, og_49_0, og_49_1, og_49_2, og_49_3, ol_49, og_53_0, og_53_1, ol_53, og_55_0, og_55_1, ol_55, og_57_0, og_57_1, ol_57, og_59_0, og_59_1, ol_59, og_61_0, og_61_1, ol_61, og_63_0, og_63_1, ol_63, og_65_0, og_65_1, og_65_2, ol_65, og_66_0, og_66_1, ol_66, og_70_0, og_70_1, og_70_2, ol_70, og_71_0, og_71_1, ol_71, uo_0_1, uo_0_4, uo_0_8, ua_1, uo_2_0, uo_2_1, uo_2_2, uo_3_1, ua_4, uo_5_1, ua_6, ua_7, ua_8, uo_9_0, uo_9_1, uo_9_2, uo_10_1, ua_11, uo_12_1, ua_13, ua_14, ua_15, uo_17_1, ua_18, ua_19, ua_20, uo_21_4, ua_22, ua_23, ua_24, ua_25, uo_27_2, uo_27_6, uo_27_7, uo_27_8, ua_28, ua_29, ua_31, ua_32, ua_33, ua_34, uo_35_1, ua_36, uo_37_1, ua_38, uo_39_1, ua_40, uo_41_1, ua_42, uo_43_1, ua_44, uo_45_1, ua_46, uo_47_1, ua_48, uo_49_3, ua_51, ua_52, uo_53_1, ua_54, uo_55_1, ua_56, uo_57_1, ua_58, uo_59_1, ua_60, uo_61_1, ua_62, uo_63_1, ua_64, uo_66_1, ua_67, ua_68, ua_69, uo_71_1, ua_72, ua_73, ua_74, sO_g, sA_g, sA_O, sO_A, sO_2, sC_1, sC_2, sC_3, sC_4, sC_5, sC_6, sW_1, sW_2, sW_3, sW_4, uc_0, hp_99, hp_100, hp_101, hp_102, hp_103, hp_104, og_99_0, og_99_1, og_99_2, og_99_3, og_99_4, og_99_5, og_99_6, ol_99, og_103_0, og_103_1, ol_103, uo_99_4, uo_99_5, uo_99_6, ua_100, ua_101, ua_102, uo_103_1, ua_104, fl_O, fl_A, hsr, hcl, hf m hm', e2, dec1, nu_fitI, nu_fitL, nu_fitO, nu_fitA, nu_fitB0, nu_fitB1]
      exact ⟨fun c => absurd (nI_pos' (by omega)) (Int32.not_le.mpr c), fun _ => ⟨vp_in_nI (by omega) (by omega), ih (by omega)⟩⟩
  have h0 := key xs.length (Nat.le_refl _)
  rw [List.drop_length] at h0
  refine WM.of mi_51 rfl rfl (Nat.le_of_ble_eq_true rfl) ?_
  show WP (mm_rw mr_51) (some .int) tb (WM tb d) _ 0 [(0, vR 99)] [] (HP s) 0 0
  (try simp only [Option.toList_some, Option.toList_none, List.nil_append, List.append_nil, List.cons_append, Nat.sub_zero, Nat.sub_self, Nat.zero_sub]); refine Go.wp sp_51 200 ?_; simp only [↓g51_0, ↓g51_1, ↓g51_2, ↓g51_3, ↓g51_6, ↓g51_9, ↓g51_10, ↓g51_11, ↓g51_12, ↓g51_13, ↓g51_16, ↓g51_17, ↓g51_19, ↓g51_20, ↓g51_21, ↓g51_24, ↓g51_27, ↓g51_28, ↓g51_28t, ↓g51_29, ↓g51_30, ↓g51_31, ↓g51_34, ↓g51_37, ↓g51_38, ↓Go_s, ↓GoC_a, ↓reduceIte, ↓mm_call_eq, ↓mmw_nil, ↓mmw_cons, List.take_succ_cons, List.take_zero, List.take_nil, List.drop_succ_cons, List.drop_zero, List.drop_nil, List.reverse_cons, List.reverse_nil, List.nil_append, List.cons_append, List.append_nil, Option.toList_some, Option.toList_none, Nat.sub_zero, Nat.le_refl, mmr_cons, mm_st1, mm_st2, mmi_nil, mmi_cons, mmc_I, mmc_L, mmc_R, mmu_get, mmu_one, mma_get, mma_one, List.filter_cons, List.filter_nil, List.contains_cons, List.contains_nil, Nat.reduceBEq, Nat.reduceAdd, Nat.reduceLT, Nat.reduceSub, Nat.reduceLeDiff, Nat.reduceEqDiff, Int32.reduceAdd, Bool.not_true, Bool.not_false, Bool.and_true, Bool.true_and, Bool.and_false, Bool.false_and, Bool.or_false, Bool.false_or, Bool.or_true, Bool.true_or, if_true, if_false, ite_true, ite_false, Bool.false_eq_true, List.getElem?_cons_zero, List.getElem?_cons_succ, List.length_cons, List.length_nil, true_and, and_true, List.set_cons_zero, List.set_cons_succ, Fin.isValue, Fin.val_zero, Fin.val_one, Fin.val_two, Fin.reduceFinMk, Nat.zero_add, hp_0, hp_1, hp_2, hp_3, hp_4, hp_5, hp_6, hp_7, hp_8, hp_9, hp_10, hp_11, hp_12, hp_13, hp_14, hp_15, hp_16, hp_17, hp_18, hp_19, hp_20, hp_21, hp_22, hp_23, hp_24, hp_25, hp_26, hp_27, hp_28, hp_29, hp_30, hp_31, hp_32, hp_33, hp_34, hp_35, hp_36, hp_37, hp_38, hp_39, hp_40, hp_41, hp_42, hp_43, hp_44, hp_45, hp_46, hp_47, hp_48, hp_49, hp_50, hp_51, hp_52, hp_53, hp_54, hp_55, hp_56, hp_57, hp_58, hp_59, hp_60, hp_61, hp_62, hp_63, hp_64, hp_65, hp_66, hp_67, hp_68, hp_69, hp_70, hp_71, hp_72, hp_73, hp_74, og_0_0, og_0_1, og_0_2, og_0_3, og_0_4, og_0_5, og_0_6, og_0_7, og_0_8, og_0_9, og_0_10, og_0_11, og_0_12, og_0_13, ol_0, og_2_0, og_2_1, og_2_2, og_2_3, og_2_4, og_2_5, og_2_6, ol_2, og_3_0, og_3_1, ol_3, og_5_0, og_5_1, ol_5, og_9_0, og_9_1, og_9_2, og_9_3, og_9_4, og_9_5, og_9_6, ol_9, og_10_0, og_10_1, ol_10, og_12_0, og_12_1, ol_12, og_16_0, og_16_1, og_16_2, ol_16, og_17_0, og_17_1, ol_17, og_21_0, og_21_1, og_21_2, og_21_3, og_21_4, ol_21, og_27_0, og_27_1, og_27_2, og_27_3, og_27_4, og_27_5, og_27_6, og_27_7, og_27_8, og_27_9, og_27_10, ol_27, og_35_0, og_35_1, ol_35, og_37_0, og_37_1, ol_37, og_39_0, og_39_1, ol_39, og_41_0, og_41_1, ol_41, og_43_0, og_43_1, ol_43, og_45_0, og_45_1, ol_45, og_47_0, og_47_1, ol_47, og_49_0, og_49_1, og_49_2, og_49_3, ol_49, og_53_0, og_53_1, ol_53, og_55_0, og_55_1, ol_55, og_57_0, og_57_1, ol_57, og_59_0, og_59_1, ol_59, og_61_0, og_61_1, ol_61, og_63_0, og_63_1, ol_63, og_65_0, og_65_1, og_65_2, ol_65, og_66_0, og_66_1, ol_66, og_70_0, og_70_1, og_70_2, ol_70, og_71_0, og_71_1, ol_71, uo_0_1, uo_0_4, uo_0_8, ua_1, uo_2_0, uo_2_1, uo_2_2, uo_3_1, ua_4, uo_5_1, ua_6, ua_7, ua_8, uo_9_0, uo_9_1, uo_9_2, uo_10_1, ua_11, uo_12_1, ua_13, ua_14, ua_15, uo_17_1, ua_18, ua_19, ua_20, uo_21_4, ua_22, ua_23, ua_24, ua_25, uo_27_2, uo_27_6, uo_27_7, uo_27_8, ua_28, ua_29, ua_31, ua_32, ua_33, ua_34, uo_35_1, ua_36, uo_37_1, ua_38, uo_39_1, ua_40, uo_41_1, ua_42, uo_43_1, ua_44, uo_45_1, ua_46, uo_47_1, ua_48, uo_49_3, ua_51, ua_52, uo_53_1, ua_54, uo_55_1, ua_56, uo_57_1, ua_58, uo_59_1, ua_60, uo_61_1, ua_62, uo_63_1, ua_64, uo_66_1, ua_67, ua_68, ua_69, uo_71_1, ua_72, ua_73, ua_74, sO_g, sA_g, sA_O, sO_A, sO_2, sC_1, sC_2, sC_3, sC_4, sC_5, sC_6, sW_1, sW_2, sW_3, sW_4, uc_0, hp_99, hp_100, hp_101, hp_102, hp_103, hp_104, og_99_0, og_99_1, og_99_2, og_99_3, og_99_4, og_99_5, og_99_6, ol_99, og_103_0, og_103_1, ol_103, uo_99_4, uo_99_5, uo_99_6, ua_100, ua_101, ua_102, uo_103_1, ua_104, fl_O, fl_A, hsr, h1, nu_fitI, nu_fitL, nu_fitO, nu_fitA, nu_fitB0, nu_fitB1]
  exact h0
theorem C_unpack {xs : List Nat} (hsr : s.2.2.2.1 = true) (hl : xs.length ≤ 8) (h8 : ∀ v ∈ xs, v < 8) : WM tb (d + 1) k_Search_unpack [vR 99, vI (nI (p8 xs)), vI (nI xs.length)] (HP s) 0 0 (fun z h' => z = none ∧ ∃ s', h' = HP s' ∧ AG s s' [103, 104] ∧ RS s' 103 104 xs) := by
  have key : ∀ r i g, xs.length = i + r → (∀ j, j < i → g j = nI (xs.getD j 0)) → WP (mm_rw mr_52) none tb (WM tb d) (fun z h' => z = none ∧ ∃ s', h' = HP s' ∧ AG s s' [103, 104] ∧ RS s' 103 104 xs) 13 [(0, vR 99), (1, vI (nI (p8 xs))), (2, vI (nI xs.length)), (3, vI (nI (p8 (xs.drop i)))), (4, vI (nI i))] [] (HP (sA (sO s 103 1 (nI xs.length)) 104 g)) 0 0 := by
    intro r
    induction r with
    | zero =>
      intro i g hi hg
      have e : i = xs.length := by omega
      subst e
      (try simp only [Option.toList_some, Option.toList_none, List.nil_append, List.append_nil, List.cons_append, Nat.sub_zero, Nat.sub_self, Nat.zero_sub]); refine Go.wp sp_52 200 ?_; simp only [↓g52_0, ↓g52_1, ↓g52_2, ↓g52_3, ↓g52_6, ↓g52_7, ↓g52_10, ↓g52_11, ↓g52_13, ↓g52_15, ↓g52_16, ↓g52_19, ↓g52_20, ↓g52_23, ↓g52_26, ↓g52_28, ↓g52_29, ↓g52_31, ↓g52_32, ↓g52_33, ↓g52_34, ↓g52_36, ↓g52_37, ↓g52_38, ↓g52_41, ↓g52_44, ↓Go_s, ↓GoC_a, ↓reduceIte, ↓mm_call_eq, ↓mmw_nil, ↓mmw_cons, List.take_succ_cons, List.take_zero, List.take_nil, List.drop_succ_cons, List.drop_zero, List.drop_nil, List.reverse_cons, List.reverse_nil, List.nil_append, List.cons_append, List.append_nil, Option.toList_some, Option.toList_none, Nat.sub_zero, Nat.le_refl, mmr_cons, mm_st1, mm_st2, mmi_nil, mmi_cons, mmc_I, mmc_L, mmc_R, mmu_get, mmu_one, mma_get, mma_one, List.filter_cons, List.filter_nil, List.contains_cons, List.contains_nil, Nat.reduceBEq, Nat.reduceAdd, Nat.reduceLT, Nat.reduceSub, Nat.reduceLeDiff, Nat.reduceEqDiff, Int32.reduceAdd, Bool.not_true, Bool.not_false, Bool.and_true, Bool.true_and, Bool.and_false, Bool.false_and, Bool.or_false, Bool.false_or, Bool.or_true, Bool.true_or, if_true, if_false, ite_true, ite_false, Bool.false_eq_true, List.getElem?_cons_zero, List.getElem?_cons_succ, List.length_cons, List.length_nil, true_and, and_true, List.set_cons_zero, List.set_cons_succ, Fin.isValue, Fin.val_zero, Fin.val_one, Fin.val_two, Fin.reduceFinMk, Nat.zero_add, hp_0, hp_1, hp_2, hp_3, hp_4, hp_5, hp_6, hp_7, hp_8, hp_9, hp_10, hp_11, hp_12, hp_13, hp_14, hp_15, hp_16, hp_17, hp_18, hp_19, hp_20, hp_21, hp_22, hp_23, hp_24, hp_25, hp_26, hp_27, hp_28, hp_29, hp_30, hp_31, hp_32, hp_33, hp_34, hp_35, hp_36, hp_37, hp_38, hp_39, hp_40, hp_41, hp_42, hp_43, hp_44, hp_45, hp_46, hp_47, hp_48, hp_49, hp_50, hp_51, hp_52, hp_53, hp_54, hp_55, hp_56, hp_57, hp_58, hp_59, hp_60, hp_61, hp_62, hp_63, hp_64, hp_65, hp_66, hp_67, hp_68, hp_69, hp_70, hp_71, hp_72, hp_73, hp_74, og_0_0, og_0_1, og_0_2, og_0_3, og_0_4, og_0_5, og_0_6, og_0_7, og_0_8, og_0_9, og_0_10, og_0_11, og_0_12, og_0_13, ol_0, og_2_0, og_2_1, og_2_2, og_2_3, og_2_4, og_2_5, og_2_6, ol_2, og_3_0, og_3_1, ol_3, og_5_0, og_5_1, ol_5, og_9_0, og_9_1, og_9_2, og_9_3, og_9_4, og_9_5, og_9_6, ol_9, og_10_0, og_10_1, ol_10, og_12_0, og_12_1, ol_12, og_16_0, og_16_1, og_16_2, ol_16, og_17_0, og_17_1, ol_17, og_21_0, og_21_1, og_21_2, og_21_3, og_21_4, ol_21, og_27_0, og_27_1, og_27_2, og_27_3, og_27_4, og_27_5, og_27_6, og_27_7, og_27_8, og_27_9, og_27_10, ol_27, og_35_0, og_35_1, ol_35, og_37_0, og_37_1, ol_37, og_39_0, og_39_1, ol_39, og_41_0, og_41_1, ol_41, og_43_0, og_43_1, ol_43, og_45_0, og_45_1, ol_45, og_47_0, og_47_1, ol_47, og_49_0, og_49_1, og_49_2, og_49_3, ol_49, og_53_0, og_53_1, ol_53, og_55_0, og_55_1, ol_55, og_57_0, og_57_1, ol_57, og_59_0, og_59_1, ol_59, og_61_0, og_61_1, ol_61, og_63_0, og_63_1, ol_63, og_65_0, og_65_1, og_65_2, ol_65, og_66_0, og_66_1, ol_66, og_70_0, og_70_1, og_70_2, ol_70, og_71_0, og_71_1, ol_71, uo_0_1, uo_0_4, uo_0_8, ua_1, uo_2_0, uo_2_1, uo_2_2, uo_3_1, ua_4, uo_5_1, ua_6, ua_7, ua_8, uo_9_0, uo_9_1, uo_9_2, uo_10_1, ua_11, uo_12_1, ua_13, ua_14, ua_15, uo_17_1, ua_18, ua_19, ua_20, uo_21_4, ua_22, ua_23, ua_24, ua_25, uo_27_2, uo_27_6, uo_27_7, uo_27_8, ua_28, ua_29, ua_31, ua_32, ua_33, ua_34, uo_35_1, ua_36, uo_37_1, ua_38, uo_39_1, ua_40, uo_41_1, ua_42, uo_43_1, ua_44, uo_45_1, ua_46, uo_47_1, ua_48, uo_49_3, ua_51, ua_52, uo_53_1, ua_54, uo_55_1, ua_56, uo_57_1, ua_58, uo_59_1, ua_60, uo_61_1, ua_62, uo_63_1, ua_64, uo_66_1, ua_67, ua_68, ua_69, uo_71_1, ua_72, ua_73, ua_74, sO_g, sA_g, sA_O, sO_A, sO_2, sC_1, sC_2, sC_3, sC_4, sC_5, sC_6, sW_1, sW_2, sW_3, sW_4, uc_0, hp_99, hp_100, hp_101, hp_102, hp_103, hp_104, og_99_0, og_99_1, og_99_2, og_99_3, og_99_4, og_99_5, og_99_6, ol_99, og_103_0, og_103_1, ol_103, uo_99_4, uo_99_5, uo_99_6, ua_100, ua_101, ua_102, uo_103_1, ua_104, fl_O, fl_A, hsr, ft_5_1, nu_fitI, nu_fitL, nu_fitO, nu_fitA, nu_fitB0, nu_fitB1]
      exact ⟨fun _ => ⟨_, rfl, (AG.sO (by simp)).tr (AG.sA (by simp)), rfl, hl, h8, hg⟩, fun c => absurd (Int32.le_refl _) c⟩
    | succ r ih =>
      intro i g hi hg
      have hi' : i < xs.length := by omega
      have hcl : (nI i).toNatClampNeg = i := nI_clamp (by omega)
      have hv := h8 _ (getD_mem hi')
      have hlt := p8_lt (xs.drop i) (fun v hv => h8 v (List.mem_of_mem_drop hv))
      have hpw : 8 ^ (xs.drop i).length ≤ 8 ^ 8 := Nat.pow_le_pow_right (by omega) (by rw [List.length_drop]; omega)
      have hp := p8_drop hi'
      have e1 : nI (p8 (xs.drop i)) - nI (p8 (xs.drop i)) / 8 * 8 = nI (xs.getD i 0) := by
        rw [show (8 : Int32) = nI 8 from rfl, pk_rem (by omega) (by omega) (by omega), show p8 (xs.drop i) % 8 = xs.getD i 0 by omega]
      have e2 : nI (p8 (xs.drop i)) / 8 = nI (p8 (xs.drop (i + 1))) := by
        rw [show (8 : Int32) = nI 8 from rfl, pk_div (by omega) (by omega) (by omega), show p8 (xs.drop i) / 8 = p8 (xs.drop (i + 1)) by omega]
      have i1 := ih (i + 1) (upd g i (nI (xs.getD i 0))) (by omega) (fun j hj => by
        unfold upd
        by_cases e : j = i
        · rw [if_pos e, e]
        · rw [if_neg e, hg j (by omega)])
      (try simp only [Option.toList_some, Option.toList_none, List.nil_append, List.append_nil, List.cons_append, Nat.sub_zero, Nat.sub_self, Nat.zero_sub]); refine Go.wp sp_52 200 ?_; simp only [↓g52_0, ↓g52_1, ↓g52_2, ↓g52_3, ↓g52_6, ↓g52_7, ↓g52_10, ↓g52_11, ↓g52_13, ↓g52_15, ↓g52_16, ↓g52_19, ↓g52_20, ↓g52_23, ↓g52_26, ↓g52_28, ↓g52_29, ↓g52_31, ↓g52_32, ↓g52_33, ↓g52_34, ↓g52_36, ↓g52_37, ↓g52_38, ↓g52_41, ↓g52_44, ↓Go_s, ↓GoC_a, ↓reduceIte, ↓mm_call_eq, ↓mmw_nil, ↓mmw_cons, List.take_succ_cons, List.take_zero, List.take_nil, List.drop_succ_cons, List.drop_zero, List.drop_nil, List.reverse_cons, List.reverse_nil, List.nil_append, List.cons_append, List.append_nil, Option.toList_some, Option.toList_none, Nat.sub_zero, Nat.le_refl, mmr_cons, mm_st1, mm_st2, mmi_nil, mmi_cons, mmc_I, mmc_L, mmc_R, mmu_get, mmu_one, mma_get, mma_one, List.filter_cons, List.filter_nil, List.contains_cons, List.contains_nil, Nat.reduceBEq, Nat.reduceAdd, Nat.reduceLT, Nat.reduceSub, Nat.reduceLeDiff, Nat.reduceEqDiff, Int32.reduceAdd, Bool.not_true, Bool.not_false, Bool.and_true, Bool.true_and, Bool.and_false, Bool.false_and, Bool.or_false, Bool.false_or, Bool.or_true, Bool.true_or, if_true, if_false, ite_true, ite_false, Bool.false_eq_true, List.getElem?_cons_zero, List.getElem?_cons_succ, List.length_cons, List.length_nil, true_and, and_true, List.set_cons_zero, List.set_cons_succ, Fin.isValue, Fin.val_zero, Fin.val_one, Fin.val_two, Fin.reduceFinMk, Nat.zero_add, hp_0, hp_1, hp_2, hp_3, hp_4, hp_5, hp_6, hp_7, hp_8, hp_9, hp_10, hp_11, hp_12, hp_13, hp_14, hp_15, hp_16, hp_17, hp_18, hp_19, hp_20, hp_21, hp_22, hp_23, hp_24, hp_25, hp_26, hp_27, hp_28, hp_29, hp_30, hp_31, hp_32, hp_33, hp_34, hp_35, hp_36, hp_37, hp_38, hp_39, hp_40, hp_41, hp_42, hp_43, hp_44, hp_45, hp_46, hp_47, hp_48, hp_49, hp_50, hp_51, hp_52, hp_53, hp_54, hp_55, hp_56, hp_57, hp_58, hp_59, hp_60, hp_61, hp_62, hp_63, hp_64, hp_65, hp_66, hp_67, hp_68, hp_69, hp_70, hp_71, hp_72, hp_73, hp_74, og_0_0, og_0_1, og_0_2, og_0_3, og_0_4, og_0_5, og_0_6, og_0_7, og_0_8, og_0_9, og_0_10, og_0_11, og_0_12, og_0_13, ol_0, og_2_0, og_2_1, og_2_2, og_2_3, og_2_4, og_2_5, og_2_6, ol_2, og_3_0, og_3_1, ol_3, og_5_0, og_5_1, ol_5, og_9_0, og_9_1, og_9_2, og_9_3, og_9_4, og_9_5, og_9_6, ol_9, og_10_0, og_10_1, ol_10, og_12_0, og_12_1, ol_12, og_16_0, og_16_1, og_16_2, ol_16, og_17_0, og_17_1, ol_17, og_21_0, og_21_1, og_21_2, og_21_3, og_21_4, ol_21, og_27_0, og_27_1, og_27_2, og_27_3, og_27_4, og_27_5, og_27_6, og_27_7, og_27_8, og_27_9, og_27_10, ol_27, og_35_0, og_35_1, ol_35, og_37_0, og_37_1, ol_37, og_39_0, og_39_1, ol_39, og_41_0, og_41_1, ol_41, og_43_0, og_43_1, ol_43, og_45_0, og_45_1, ol_45, og_47_0, og_47_1, ol_47, og_49_0, og_49_1, og_49_2, og_49_3, ol_49, og_53_0, og_53_1, ol_53, og_55_0, og_55_1, ol_55, og_57_0, og_57_1, ol_57, og_59_0, og_59_1, ol_59, og_61_0, og_61_1, ol_61, og_63_0, og_63_1, ol_63, og_65_0, og_65_1, og_65_2, ol_65, og_66_0, og_66_1, ol_66, og_70_0, og_70_1, og_70_2, ol_70, og_71_0, og_71_1, ol_71, uo_0_1, uo_0_4, uo_0_8, ua_1, uo_2_0, uo_2_1, uo_2_2, uo_3_1, ua_4, uo_5_1, ua_6, ua_7, ua_8, uo_9_0, uo_9_1, uo_9_2, uo_10_1, ua_11, uo_12_1, ua_13, ua_14, ua_15, uo_17_1, ua_18, ua_19, ua_20, uo_21_4, ua_22, ua_23, ua_24, ua_25, uo_27_2, uo_27_6, uo_27_7, uo_27_8, ua_28, ua_29, ua_31, ua_32, ua_33, ua_34, uo_35_1, ua_36, uo_37_1, ua_38, uo_39_1, ua_40, uo_41_1, ua_42, uo_43_1, ua_44, uo_45_1, ua_46, uo_47_1, ua_48, uo_49_3, ua_51, ua_52, uo_53_1, ua_54, uo_55_1, ua_56, uo_57_1, ua_58, uo_59_1, ua_60, uo_61_1, ua_62, uo_63_1, ua_64, uo_66_1, ua_67, ua_68, ua_69, uo_71_1, ua_72, ua_73, ua_74, sO_g, sA_g, sA_O, sO_A, sO_2, sC_1, sC_2, sC_3, sC_4, sC_5, sC_6, sW_1, sW_2, sW_3, sW_4, uc_0, hp_99, hp_100, hp_101, hp_102, hp_103, hp_104, og_99_0, og_99_1, og_99_2, og_99_3, og_99_4, og_99_5, og_99_6, ol_99, og_103_0, og_103_1, ol_103, uo_99_4, uo_99_5, uo_99_6, ua_100, ua_101, ua_102, uo_103_1, ua_104, fl_O, fl_A, hsr, hcl, e1, nI_1, ft_5_1, nu_fitI, nu_fitL, nu_fitO, nu_fitA, nu_fitB0, nu_fitB1]
      rw [e2, sA_sA]
      exact ⟨fun c => absurd c (nI_ge hi' (by omega)), fun _ => ⟨by decide, vp_in_nI (by omega) (by omega), by decide, i1⟩⟩
  refine WM.of mi_52 rfl rfl (Nat.le_of_ble_eq_true rfl) ?_
  show WP (mm_rw mr_52) none tb (WM tb d) _ 0 [(0, vR 99), (1, vI (nI (p8 xs))), (2, vI (nI xs.length))] [] (HP s) 0 0
  (try simp only [Option.toList_some, Option.toList_none, List.nil_append, List.append_nil, List.cons_append, Nat.sub_zero, Nat.sub_self, Nat.zero_sub]); refine Go.wp sp_52 200 ?_; simp only [↓g52_0, ↓g52_1, ↓g52_2, ↓g52_3, ↓g52_6, ↓g52_7, ↓g52_10, ↓g52_11, ↓g52_13, ↓g52_15, ↓g52_16, ↓g52_19, ↓g52_20, ↓g52_23, ↓g52_26, ↓g52_28, ↓g52_29, ↓g52_31, ↓g52_32, ↓g52_33, ↓g52_34, ↓g52_36, ↓g52_37, ↓g52_38, ↓g52_41, ↓g52_44, ↓Go_s, ↓GoC_a, ↓reduceIte, ↓mm_call_eq, ↓mmw_nil, ↓mmw_cons, List.take_succ_cons, List.take_zero, List.take_nil, List.drop_succ_cons, List.drop_zero, List.drop_nil, List.reverse_cons, List.reverse_nil, List.nil_append, List.cons_append, List.append_nil, Option.toList_some, Option.toList_none, Nat.sub_zero, Nat.le_refl, mmr_cons, mm_st1, mm_st2, mmi_nil, mmi_cons, mmc_I, mmc_L, mmc_R, mmu_get, mmu_one, mma_get, mma_one, List.filter_cons, List.filter_nil, List.contains_cons, List.contains_nil, Nat.reduceBEq, Nat.reduceAdd, Nat.reduceLT, Nat.reduceSub, Nat.reduceLeDiff, Nat.reduceEqDiff, Int32.reduceAdd, Bool.not_true, Bool.not_false, Bool.and_true, Bool.true_and, Bool.and_false, Bool.false_and, Bool.or_false, Bool.false_or, Bool.or_true, Bool.true_or, if_true, if_false, ite_true, ite_false, Bool.false_eq_true, List.getElem?_cons_zero, List.getElem?_cons_succ, List.length_cons, List.length_nil, true_and, and_true, List.set_cons_zero, List.set_cons_succ, Fin.isValue, Fin.val_zero, Fin.val_one, Fin.val_two, Fin.reduceFinMk, Nat.zero_add, hp_0, hp_1, hp_2, hp_3, hp_4, hp_5, hp_6, hp_7, hp_8, hp_9, hp_10, hp_11, hp_12, hp_13, hp_14, hp_15, hp_16, hp_17, hp_18, hp_19, hp_20, hp_21, hp_22, hp_23, hp_24, hp_25, hp_26, hp_27, hp_28, hp_29, hp_30, hp_31, hp_32, hp_33, hp_34, hp_35, hp_36, hp_37, hp_38, hp_39, hp_40, hp_41, hp_42, hp_43, hp_44, hp_45, hp_46, hp_47, hp_48, hp_49, hp_50, hp_51, hp_52, hp_53, hp_54, hp_55, hp_56, hp_57, hp_58, hp_59, hp_60, hp_61, hp_62, hp_63, hp_64, hp_65, hp_66, hp_67, hp_68, hp_69, hp_70, hp_71, hp_72, hp_73, hp_74, og_0_0, og_0_1, og_0_2, og_0_3, og_0_4, og_0_5, og_0_6, og_0_7, og_0_8, og_0_9, og_0_10, og_0_11, og_0_12, og_0_13, ol_0, og_2_0, og_2_1, og_2_2, og_2_3, og_2_4, og_2_5, og_2_6, ol_2, og_3_0, og_3_1, ol_3, og_5_0, og_5_1, ol_5, og_9_0, og_9_1, og_9_2, og_9_3, og_9_4, og_9_5, og_9_6, ol_9, og_10_0, og_10_1, ol_10, og_12_0, og_12_1, ol_12, og_16_0, og_16_1, og_16_2, ol_16, og_17_0, og_17_1, ol_17, og_21_0, og_21_1, og_21_2, og_21_3, og_21_4, ol_21, og_27_0, og_27_1, og_27_2, og_27_3, og_27_4, og_27_5, og_27_6, og_27_7, og_27_8, og_27_9, og_27_10, ol_27, og_35_0, og_35_1, ol_35, og_37_0, og_37_1, ol_37, og_39_0, og_39_1, ol_39, og_41_0, og_41_1, ol_41, og_43_0, og_43_1, ol_43, og_45_0, og_45_1, ol_45, og_47_0, og_47_1, ol_47, og_49_0, og_49_1, og_49_2, og_49_3, ol_49, og_53_0, og_53_1, ol_53, og_55_0, og_55_1, ol_55, og_57_0, og_57_1, ol_57, og_59_0, og_59_1, ol_59, og_61_0, og_61_1, ol_61, og_63_0, og_63_1, ol_63, og_65_0, og_65_1, og_65_2, ol_65, og_66_0, og_66_1, ol_66, og_70_0, og_70_1, og_70_2, ol_70, og_71_0, og_71_1, ol_71, uo_0_1, uo_0_4, uo_0_8, ua_1, uo_2_0, uo_2_1, uo_2_2, uo_3_1, ua_4, uo_5_1, ua_6, ua_7, ua_8, uo_9_0, uo_9_1, uo_9_2, uo_10_1, ua_11, uo_12_1, ua_13, ua_14, ua_15, uo_17_1, ua_18, ua_19, ua_20, uo_21_4, ua_22, ua_23, ua_24, ua_25, uo_27_2, uo_27_6, uo_27_7, uo_27_8, ua_28, ua_29, ua_31, ua_32, ua_33, ua_34, uo_35_1, ua_36, uo_37_1, ua_38, uo_39_1, ua_40, uo_41_1, ua_42, uo_43_1, ua_44, uo_45_1, ua_46, uo_47_1, ua_48, uo_49_3, ua_51, ua_52, uo_53_1, ua_54, uo_55_1, ua_56, uo_57_1, ua_58, uo_59_1, ua_60, uo_61_1, ua_62, uo_63_1, ua_64, uo_66_1, ua_67, ua_68, ua_69, uo_71_1, ua_72, ua_73, ua_74, sO_g, sA_g, sA_O, sO_A, sO_2, sC_1, sC_2, sC_3, sC_4, sC_5, sC_6, sW_1, sW_2, sW_3, sW_4, uc_0, hp_99, hp_100, hp_101, hp_102, hp_103, hp_104, og_99_0, og_99_1, og_99_2, og_99_3, og_99_4, og_99_5, og_99_6, ol_99, og_103_0, og_103_1, ol_103, uo_99_4, uo_99_5, uo_99_6, ua_100, ua_101, ua_102, uo_103_1, ua_104, fl_O, fl_A, hsr, ft_5_1, nu_fitI, nu_fitL, nu_fitO, nu_fitA, nu_fitB0, nu_fitB1]
  have h0 := key xs.length 0 (s.1 104) (by omega) (fun j hj => absurd hj (Nat.not_lt_zero _))
  rw [show sA (sO s 103 1 (nI xs.length)) 104 (s.1 104) = sO s 103 1 (nI xs.length) from sA_id (sO s 103 1 (nI xs.length)) 104] at h0
  exact h0
/-- the search in the class's cells -/
def SrC (s : MM) (S : BS) : Prop := s.2.1 99 4 = nI S.1.length ∧ (∀ i, i < S.1.length → s.1 100 i = nI (p8 (S.1.getD i [])) ∧ s.1 101 i = nI (8 * (S.2.getD i (0, 0)).1 + (S.2.getD i (0, 0)).2)) ∧ ∀ j, j < 720 → (bt (s.1 102 (j / 32)) (j % 32) = true ↔ ∃ x ∈ S.1, rk x = j)
theorem SrC.fr {s' : MM} {S : BS} {T : List Nat} (h : SrC s S) (a : AG s s' T) (h1 : 99 ∉ T) (h2 : 100 ∉ T) (h3 : 101 ∉ T) (h4 : 102 ∉ T) : SrC s' S := by
  unfold SrC at h ⊢
  rw [(a.1 99 h1).2, (a.1 100 h2).1, (a.1 101 h3).1, (a.1 102 h4).1]
  exact h
theorem and_bit {x : Int32} {m : Nat} (hm : m < 32) : x &&& ((1 : Int32) <<< (nI m &&& 31)) = 0 ↔ bt x m = false := by
  constructor
  · intro h
    have h1 : bt (x &&& ((1 : Int32) <<< (nI m &&& 31))) m = bt 0 m := by rw [h]
    rw [b_and, bt_sh hm hm, b_0] at h1
    simpa using h1
  · intro h
    refine b_ext (fun i hi => ?_)
    rw [b_and, bt_sh hm hi, b_0]
    by_cases e : i = m
    · rw [e, h]
      rfl
    · simp [e]
theorem C_addRow {S : BS} {y sh : List Nat} {q : Nat × Nat} (hsr : s.2.2.2.1 = true) (hS : SrC s S) (hx : RS s 103 104 y) (hl : sh.length ≤ 6) (hp : ∀ x ∈ S.1, Rk sh x) (hy : Rk sh y) (hlen : S.2.length = S.1.length) (hfull : y ∉ S.1 → S.1.length < 720) (hle : S.1.length ≤ 720) : WM tb (d + 2) k_Search_addRow [vR 99, vI (nI (8 * q.1 + q.2))] (HP s) 0 0 (fun z h' => z = none ∧ ∃ s', h' = HP s' ∧ AG s s' [99, 100, 101, 102] ∧ s'.2.1 99 5 = s.2.1 99 5 ∧ s'.2.1 99 6 = s.2.1 99 6 ∧ SrC s' (bAdd S y q)) := by
  have hr : rk y < 720 := by
    have h1 := rk_lt y
    have h2 := fa_6 y.length (by rw [hy.len]; exact hl)
    omega
  have hnot : y ∈ S.1 ↔ bt (s.1 102 (rk y / 32)) (rk y % 32) = true := by
    rw [hS.2.2 (rk y) hr]
    exact ⟨fun h => ⟨y, h, rfl⟩, fun ⟨x, hx, e⟩ => by rw [← rk_inj x y ((hp x hx).trans hy.symm) e]; exact hx⟩
  have e1 : nI (rk y) / 32 = nI (rk y / 32) := pk_div (d := 32) (by omega) (by omega) (by omega)
  have e2 : nI (rk y) - nI (rk y) / 32 * 32 = nI (rk y % 32) := pk_rem (d := 32) (by omega) (by omega) (by omega)
  have e2' : nI (rk y) - nI (rk y / 32) * 32 = nI (rk y % 32) := by rw [← e1]; exact e2
  have hcl : (nI (rk y / 32)).toNatClampNeg = rk y / 32 := nI_clamp (by omega)
  have h99 := hS.1
  have hw : rk y / 32 < 23 := by omega
  have h23 : Int32.ofNat 23 = nI 23 := rfl
  refine WM.of mi_48 rfl rfl (Nat.le_of_ble_eq_true rfl) ?_
  show WP (mm_rw mr_48) none tb (WM tb (d + 1)) _ 0 [(0, vR 99), (1, vI (nI (8 * q.1 + q.2)))] [] (HP s) 0 0
  (try simp only [Option.toList_some, Option.toList_none, List.nil_append, List.append_nil, List.cons_append, Nat.sub_zero, Nat.sub_self, Nat.zero_sub]); refine Go.wp sp_48 200 ?_; simp only [↓g48_0, ↓g48_1, ↓g48_4, ↓g48_5, ↓g48_6, ↓g48_8, ↓g48_9, ↓g48_10, ↓g48_11, ↓g48_12, ↓g48_14, ↓g48_15, ↓g48_16, ↓g48_18, ↓g48_19, ↓g48_22, ↓g48_25, ↓g48_28, ↓g48_29, ↓g48_30, ↓g48_33, ↓g48_33t, ↓g48_34, ↓g48_37, ↓g48_38, ↓g48_41, ↓g48_42, ↓g48_42t, ↓g48_43, ↓g48_45, ↓g48_46, ↓g48_49, ↓g48_50, ↓g48_51, ↓g48_54, ↓g48_55, ↓g48_56, ↓g48_56t, ↓g48_57, ↓g48_59, ↓g48_60, ↓g48_61, ↓g48_62, ↓g48_65, ↓g48_66, ↓g48_69, ↓g48_70, ↓g48_73, ↓g48_74, ↓g48_75, ↓g48_78, ↓g48_79, ↓g48_82, ↓g48_83, ↓g48_84, ↓g48_85, ↓g48_86, ↓g48_89, ↓g48_90, ↓g48_91, ↓g48_94, cl_51, cl_53, cn_0, cn_1, cn_2, cn_3, cn_4, cn_5, cn_6, cn_7, cn_8, ↓Go_s, ↓GoC_a, ↓reduceIte, ↓mm_call_eq, ↓mmw_nil, ↓mmw_cons, List.take_succ_cons, List.take_zero, List.take_nil, List.drop_succ_cons, List.drop_zero, List.drop_nil, List.reverse_cons, List.reverse_nil, List.nil_append, List.cons_append, List.append_nil, Option.toList_some, Option.toList_none, Nat.sub_zero, Nat.le_refl, mmr_cons, mm_st1, mm_st2, mmi_nil, mmi_cons, mmc_I, mmc_L, mmc_R, mmu_get, mmu_one, mma_get, mma_one, List.filter_cons, List.filter_nil, List.contains_cons, List.contains_nil, Nat.reduceBEq, Nat.reduceAdd, Nat.reduceLT, Nat.reduceSub, Nat.reduceLeDiff, Nat.reduceEqDiff, Int32.reduceAdd, Bool.not_true, Bool.not_false, Bool.and_true, Bool.true_and, Bool.and_false, Bool.false_and, Bool.or_false, Bool.false_or, Bool.or_true, Bool.true_or, if_true, if_false, ite_true, ite_false, Bool.false_eq_true, List.getElem?_cons_zero, List.getElem?_cons_succ, List.length_cons, List.length_nil, true_and, and_true, List.set_cons_zero, List.set_cons_succ, Fin.isValue, Fin.val_zero, Fin.val_one, Fin.val_two, Fin.reduceFinMk, Nat.zero_add, hp_0, hp_1, hp_2, hp_3, hp_4, hp_5, hp_6, hp_7, hp_8, hp_9, hp_10, hp_11, hp_12, hp_13, hp_14, hp_15, hp_16, hp_17, hp_18, hp_19, hp_20, hp_21, hp_22, hp_23, hp_24, hp_25, hp_26, hp_27, hp_28, hp_29, hp_30, hp_31, hp_32, hp_33, hp_34, hp_35, hp_36, hp_37, hp_38, hp_39, hp_40, hp_41, hp_42, hp_43, hp_44, hp_45, hp_46, hp_47, hp_48, hp_49, hp_50, hp_51, hp_52, hp_53, hp_54, hp_55, hp_56, hp_57, hp_58, hp_59, hp_60, hp_61, hp_62, hp_63, hp_64, hp_65, hp_66, hp_67, hp_68, hp_69, hp_70, hp_71, hp_72, hp_73, hp_74, og_0_0, og_0_1, og_0_2, og_0_3, og_0_4, og_0_5, og_0_6, og_0_7, og_0_8, og_0_9, og_0_10, og_0_11, og_0_12, og_0_13, ol_0, og_2_0, og_2_1, og_2_2, og_2_3, og_2_4, og_2_5, og_2_6, ol_2, og_3_0, og_3_1, ol_3, og_5_0, og_5_1, ol_5, og_9_0, og_9_1, og_9_2, og_9_3, og_9_4, og_9_5, og_9_6, ol_9, og_10_0, og_10_1, ol_10, og_12_0, og_12_1, ol_12, og_16_0, og_16_1, og_16_2, ol_16, og_17_0, og_17_1, ol_17, og_21_0, og_21_1, og_21_2, og_21_3, og_21_4, ol_21, og_27_0, og_27_1, og_27_2, og_27_3, og_27_4, og_27_5, og_27_6, og_27_7, og_27_8, og_27_9, og_27_10, ol_27, og_35_0, og_35_1, ol_35, og_37_0, og_37_1, ol_37, og_39_0, og_39_1, ol_39, og_41_0, og_41_1, ol_41, og_43_0, og_43_1, ol_43, og_45_0, og_45_1, ol_45, og_47_0, og_47_1, ol_47, og_49_0, og_49_1, og_49_2, og_49_3, ol_49, og_53_0, og_53_1, ol_53, og_55_0, og_55_1, ol_55, og_57_0, og_57_1, ol_57, og_59_0, og_59_1, ol_59, og_61_0, og_61_1, ol_61, og_63_0, og_63_1, ol_63, og_65_0, og_65_1, og_65_2, ol_65, og_66_0, og_66_1, ol_66, og_70_0, og_70_1, og_70_2, ol_70, og_71_0, og_71_1, ol_71, uo_0_1, uo_0_4, uo_0_8, ua_1, uo_2_0, uo_2_1, uo_2_2, uo_3_1, ua_4, uo_5_1, ua_6, ua_7, ua_8, uo_9_0, uo_9_1, uo_9_2, uo_10_1, ua_11, uo_12_1, ua_13, ua_14, ua_15, uo_17_1, ua_18, ua_19, ua_20, uo_21_4, ua_22, ua_23, ua_24, ua_25, uo_27_2, uo_27_6, uo_27_7, uo_27_8, ua_28, ua_29, ua_31, ua_32, ua_33, ua_34, uo_35_1, ua_36, uo_37_1, ua_38, uo_39_1, ua_40, uo_41_1, ua_42, uo_43_1, ua_44, uo_45_1, ua_46, uo_47_1, ua_48, uo_49_3, ua_51, ua_52, uo_53_1, ua_54, uo_55_1, ua_56, uo_57_1, ua_58, uo_59_1, ua_60, uo_61_1, ua_62, uo_63_1, ua_64, uo_66_1, ua_67, ua_68, ua_69, uo_71_1, ua_72, ua_73, ua_74, sO_g, sA_g, sA_O, sO_A, sO_2, sC_1, sC_2, sC_3, sC_4, sC_5, sC_6, sW_1, sW_2, sW_3, sW_4, uc_0, hp_99, hp_100, hp_101, hp_102, hp_103, hp_104, og_99_0, og_99_1, og_99_2, og_99_3, og_99_4, og_99_5, og_99_6, ol_99, og_103_0, og_103_1, ol_103, uo_99_4, uo_99_5, uo_99_6, ua_100, ua_101, ua_102, uo_103_1, ua_104, fl_O, fl_A, hsr, ft_6_4, nu_fitI, nu_fitL, nu_fitO, nu_fitA, nu_fitB0, nu_fitB1]
  refine ⟨0, 0, _, Nat.le_refl _, Nat.le_refl _, C_rank (d := d) hsr hx, fun z h' hz => ?_⟩
  obtain ⟨rfl, rfl⟩ := hz
  by_cases hm : y ∈ S.1
  · have hb := hnot.mp hm
    rw [bAdd_in hm]
    (try simp only [Option.toList_some, Option.toList_none, List.nil_append, List.append_nil, List.cons_append, Nat.sub_zero, Nat.sub_self, Nat.zero_sub]); refine Go.wp sp_48 200 ?_; simp only [↓g48_0, ↓g48_1, ↓g48_4, ↓g48_5, ↓g48_6, ↓g48_8, ↓g48_9, ↓g48_10, ↓g48_11, ↓g48_12, ↓g48_14, ↓g48_15, ↓g48_16, ↓g48_18, ↓g48_19, ↓g48_22, ↓g48_25, ↓g48_28, ↓g48_29, ↓g48_30, ↓g48_33, ↓g48_33t, ↓g48_34, ↓g48_37, ↓g48_38, ↓g48_41, ↓g48_42, ↓g48_42t, ↓g48_43, ↓g48_45, ↓g48_46, ↓g48_49, ↓g48_50, ↓g48_51, ↓g48_54, ↓g48_55, ↓g48_56, ↓g48_56t, ↓g48_57, ↓g48_59, ↓g48_60, ↓g48_61, ↓g48_62, ↓g48_65, ↓g48_66, ↓g48_69, ↓g48_70, ↓g48_73, ↓g48_74, ↓g48_75, ↓g48_78, ↓g48_79, ↓g48_82, ↓g48_83, ↓g48_84, ↓g48_85, ↓g48_86, ↓g48_89, ↓g48_90, ↓g48_91, ↓g48_94, cl_51, cl_53, cn_0, cn_1, cn_2, cn_3, cn_4, cn_5, cn_6, cn_7, cn_8, ↓Go_s, ↓GoC_a, ↓reduceIte, ↓mm_call_eq, ↓mmw_nil, ↓mmw_cons, List.take_succ_cons, List.take_zero, List.take_nil, List.drop_succ_cons, List.drop_zero, List.drop_nil, List.reverse_cons, List.reverse_nil, List.nil_append, List.cons_append, List.append_nil, Option.toList_some, Option.toList_none, Nat.sub_zero, Nat.le_refl, mmr_cons, mm_st1, mm_st2, mmi_nil, mmi_cons, mmc_I, mmc_L, mmc_R, mmu_get, mmu_one, mma_get, mma_one, List.filter_cons, List.filter_nil, List.contains_cons, List.contains_nil, Nat.reduceBEq, Nat.reduceAdd, Nat.reduceLT, Nat.reduceSub, Nat.reduceLeDiff, Nat.reduceEqDiff, Int32.reduceAdd, Bool.not_true, Bool.not_false, Bool.and_true, Bool.true_and, Bool.and_false, Bool.false_and, Bool.or_false, Bool.false_or, Bool.or_true, Bool.true_or, if_true, if_false, ite_true, ite_false, Bool.false_eq_true, List.getElem?_cons_zero, List.getElem?_cons_succ, List.length_cons, List.length_nil, true_and, and_true, List.set_cons_zero, List.set_cons_succ, Fin.isValue, Fin.val_zero, Fin.val_one, Fin.val_two, Fin.reduceFinMk, Nat.zero_add, hp_0, hp_1, hp_2, hp_3, hp_4, hp_5, hp_6, hp_7, hp_8, hp_9, hp_10, hp_11, hp_12, hp_13, hp_14, hp_15, hp_16, hp_17, hp_18, hp_19, hp_20, hp_21, hp_22, hp_23, hp_24, hp_25, hp_26, hp_27, hp_28, hp_29, hp_30, hp_31, hp_32, hp_33, hp_34, hp_35, hp_36, hp_37, hp_38, hp_39, hp_40, hp_41, hp_42, hp_43, hp_44, hp_45, hp_46, hp_47, hp_48, hp_49, hp_50, hp_51, hp_52, hp_53, hp_54, hp_55, hp_56, hp_57, hp_58, hp_59, hp_60, hp_61, hp_62, hp_63, hp_64, hp_65, hp_66, hp_67, hp_68, hp_69, hp_70, hp_71, hp_72, hp_73, hp_74, og_0_0, og_0_1, og_0_2, og_0_3, og_0_4, og_0_5, og_0_6, og_0_7, og_0_8, og_0_9, og_0_10, og_0_11, og_0_12, og_0_13, ol_0, og_2_0, og_2_1, og_2_2, og_2_3, og_2_4, og_2_5, og_2_6, ol_2, og_3_0, og_3_1, ol_3, og_5_0, og_5_1, ol_5, og_9_0, og_9_1, og_9_2, og_9_3, og_9_4, og_9_5, og_9_6, ol_9, og_10_0, og_10_1, ol_10, og_12_0, og_12_1, ol_12, og_16_0, og_16_1, og_16_2, ol_16, og_17_0, og_17_1, ol_17, og_21_0, og_21_1, og_21_2, og_21_3, og_21_4, ol_21, og_27_0, og_27_1, og_27_2, og_27_3, og_27_4, og_27_5, og_27_6, og_27_7, og_27_8, og_27_9, og_27_10, ol_27, og_35_0, og_35_1, ol_35, og_37_0, og_37_1, ol_37, og_39_0, og_39_1, ol_39, og_41_0, og_41_1, ol_41, og_43_0, og_43_1, ol_43, og_45_0, og_45_1, ol_45, og_47_0, og_47_1, ol_47, og_49_0, og_49_1, og_49_2, og_49_3, ol_49, og_53_0, og_53_1, ol_53, og_55_0, og_55_1, ol_55, og_57_0, og_57_1, ol_57, og_59_0, og_59_1, ol_59, og_61_0, og_61_1, ol_61, og_63_0, og_63_1, ol_63, og_65_0, og_65_1, og_65_2, ol_65, og_66_0, og_66_1, ol_66, og_70_0, og_70_1, og_70_2, ol_70, og_71_0, og_71_1, ol_71, uo_0_1, uo_0_4, uo_0_8, ua_1, uo_2_0, uo_2_1, uo_2_2, uo_3_1, ua_4, uo_5_1, ua_6, ua_7, ua_8, uo_9_0, uo_9_1, uo_9_2, uo_10_1, ua_11, uo_12_1, ua_13, ua_14, ua_15, uo_17_1, ua_18, ua_19, ua_20, uo_21_4, ua_22, ua_23, ua_24, ua_25, uo_27_2, uo_27_6, uo_27_7, uo_27_8, ua_28, ua_29, ua_31, ua_32, ua_33, ua_34, uo_35_1, ua_36, uo_37_1, ua_38, uo_39_1, ua_40, uo_41_1, ua_42, uo_43_1, ua_44, uo_45_1, ua_46, uo_47_1, ua_48, uo_49_3, ua_51, ua_52, uo_53_1, ua_54, uo_55_1, ua_56, uo_57_1, ua_58, uo_59_1, ua_60, uo_61_1, ua_62, uo_63_1, ua_64, uo_66_1, ua_67, ua_68, ua_69, uo_71_1, ua_72, ua_73, ua_74, sO_g, sA_g, sA_O, sO_A, sO_2, sC_1, sC_2, sC_3, sC_4, sC_5, sC_6, sW_1, sW_2, sW_3, sW_4, uc_0, hp_99, hp_100, hp_101, hp_102, hp_103, hp_104, og_99_0, og_99_1, og_99_2, og_99_3, og_99_4, og_99_5, og_99_6, ol_99, og_103_0, og_103_1, ol_103, uo_99_4, uo_99_5, uo_99_6, ua_100, ua_101, ua_102, uo_103_1, ua_104, fl_O, fl_A, hsr, h99, hcl, e1, e2, e2', h23, ft_6_4, nu_fitI, nu_fitL, nu_fitO, nu_fitA, nu_fitB0, nu_fitB1]
    have hne : ¬ (s.1 102 (rk y / 32) &&& ((1 : Int32) <<< (nI (rk y % 32) &&& 31)) = 0) := fun z => by
      rw [(and_bit (by omega)).mp z] at hb
      exact absurd hb (by decide)
    refine ⟨by decide, by decide, fun c => ⟨s, rfl, AG.rf, rfl, rfl, hS⟩, fun c => ⟨fun c2 => ⟨s, rfl, AG.rf, rfl, rfl, hS⟩, fun c2 => ⟨vp_in_nI (by omega) (by omega), fun c3 => absurd c3 hne, fun c3 => ⟨s, rfl, AG.rf, rfl, rfl, hS⟩⟩⟩⟩
  · have hb : bt (s.1 102 (rk y / 32)) (rk y % 32) = false := by
      cases h : bt (s.1 102 (rk y / 32)) (rk y % 32)
      · rfl
      · exact absurd (hnot.mpr h) hm
    have hlt := hfull hm
    have hcl2 : (nI S.1.length).toNatClampNeg = S.1.length := nI_clamp (by omega)
    have hz0 := (and_bit (x := s.1 102 (rk y / 32)) (m := rk y % 32) (by omega)).mpr hb
    rw [bAdd_out hm]
    (try simp only [Option.toList_some, Option.toList_none, List.nil_append, List.append_nil, List.cons_append, Nat.sub_zero, Nat.sub_self, Nat.zero_sub]); refine Go.wp sp_48 200 ?_; simp only [↓g48_0, ↓g48_1, ↓g48_4, ↓g48_5, ↓g48_6, ↓g48_8, ↓g48_9, ↓g48_10, ↓g48_11, ↓g48_12, ↓g48_14, ↓g48_15, ↓g48_16, ↓g48_18, ↓g48_19, ↓g48_22, ↓g48_25, ↓g48_28, ↓g48_29, ↓g48_30, ↓g48_33, ↓g48_33t, ↓g48_34, ↓g48_37, ↓g48_38, ↓g48_41, ↓g48_42, ↓g48_42t, ↓g48_43, ↓g48_45, ↓g48_46, ↓g48_49, ↓g48_50, ↓g48_51, ↓g48_54, ↓g48_55, ↓g48_56, ↓g48_56t, ↓g48_57, ↓g48_59, ↓g48_60, ↓g48_61, ↓g48_62, ↓g48_65, ↓g48_66, ↓g48_69, ↓g48_70, ↓g48_73, ↓g48_74, ↓g48_75, ↓g48_78, ↓g48_79, ↓g48_82, ↓g48_83, ↓g48_84, ↓g48_85, ↓g48_86, ↓g48_89, ↓g48_90, ↓g48_91, ↓g48_94, cl_51, cl_53, cn_0, cn_1, cn_2, cn_3, cn_4, cn_5, cn_6, cn_7, cn_8, ↓Go_s, ↓GoC_a, ↓reduceIte, ↓mm_call_eq, ↓mmw_nil, ↓mmw_cons, List.take_succ_cons, List.take_zero, List.take_nil, List.drop_succ_cons, List.drop_zero, List.drop_nil, List.reverse_cons, List.reverse_nil, List.nil_append, List.cons_append, List.append_nil, Option.toList_some, Option.toList_none, Nat.sub_zero, Nat.le_refl, mmr_cons, mm_st1, mm_st2, mmi_nil, mmi_cons, mmc_I, mmc_L, mmc_R, mmu_get, mmu_one, mma_get, mma_one, List.filter_cons, List.filter_nil, List.contains_cons, List.contains_nil, Nat.reduceBEq, Nat.reduceAdd, Nat.reduceLT, Nat.reduceSub, Nat.reduceLeDiff, Nat.reduceEqDiff, Int32.reduceAdd, Bool.not_true, Bool.not_false, Bool.and_true, Bool.true_and, Bool.and_false, Bool.false_and, Bool.or_false, Bool.false_or, Bool.or_true, Bool.true_or, if_true, if_false, ite_true, ite_false, Bool.false_eq_true, List.getElem?_cons_zero, List.getElem?_cons_succ, List.length_cons, List.length_nil, true_and, and_true, List.set_cons_zero, List.set_cons_succ, Fin.isValue, Fin.val_zero, Fin.val_one, Fin.val_two, Fin.reduceFinMk, Nat.zero_add, hp_0, hp_1, hp_2, hp_3, hp_4, hp_5, hp_6, hp_7, hp_8, hp_9, hp_10, hp_11, hp_12, hp_13, hp_14, hp_15, hp_16, hp_17, hp_18, hp_19, hp_20, hp_21, hp_22, hp_23, hp_24, hp_25, hp_26, hp_27, hp_28, hp_29, hp_30, hp_31, hp_32, hp_33, hp_34, hp_35, hp_36, hp_37, hp_38, hp_39, hp_40, hp_41, hp_42, hp_43, hp_44, hp_45, hp_46, hp_47, hp_48, hp_49, hp_50, hp_51, hp_52, hp_53, hp_54, hp_55, hp_56, hp_57, hp_58, hp_59, hp_60, hp_61, hp_62, hp_63, hp_64, hp_65, hp_66, hp_67, hp_68, hp_69, hp_70, hp_71, hp_72, hp_73, hp_74, og_0_0, og_0_1, og_0_2, og_0_3, og_0_4, og_0_5, og_0_6, og_0_7, og_0_8, og_0_9, og_0_10, og_0_11, og_0_12, og_0_13, ol_0, og_2_0, og_2_1, og_2_2, og_2_3, og_2_4, og_2_5, og_2_6, ol_2, og_3_0, og_3_1, ol_3, og_5_0, og_5_1, ol_5, og_9_0, og_9_1, og_9_2, og_9_3, og_9_4, og_9_5, og_9_6, ol_9, og_10_0, og_10_1, ol_10, og_12_0, og_12_1, ol_12, og_16_0, og_16_1, og_16_2, ol_16, og_17_0, og_17_1, ol_17, og_21_0, og_21_1, og_21_2, og_21_3, og_21_4, ol_21, og_27_0, og_27_1, og_27_2, og_27_3, og_27_4, og_27_5, og_27_6, og_27_7, og_27_8, og_27_9, og_27_10, ol_27, og_35_0, og_35_1, ol_35, og_37_0, og_37_1, ol_37, og_39_0, og_39_1, ol_39, og_41_0, og_41_1, ol_41, og_43_0, og_43_1, ol_43, og_45_0, og_45_1, ol_45, og_47_0, og_47_1, ol_47, og_49_0, og_49_1, og_49_2, og_49_3, ol_49, og_53_0, og_53_1, ol_53, og_55_0, og_55_1, ol_55, og_57_0, og_57_1, ol_57, og_59_0, og_59_1, ol_59, og_61_0, og_61_1, ol_61, og_63_0, og_63_1, ol_63, og_65_0, og_65_1, og_65_2, ol_65, og_66_0, og_66_1, ol_66, og_70_0, og_70_1, og_70_2, ol_70, og_71_0, og_71_1, ol_71, uo_0_1, uo_0_4, uo_0_8, ua_1, uo_2_0, uo_2_1, uo_2_2, uo_3_1, ua_4, uo_5_1, ua_6, ua_7, ua_8, uo_9_0, uo_9_1, uo_9_2, uo_10_1, ua_11, uo_12_1, ua_13, ua_14, ua_15, uo_17_1, ua_18, ua_19, ua_20, uo_21_4, ua_22, ua_23, ua_24, ua_25, uo_27_2, uo_27_6, uo_27_7, uo_27_8, ua_28, ua_29, ua_31, ua_32, ua_33, ua_34, uo_35_1, ua_36, uo_37_1, ua_38, uo_39_1, ua_40, uo_41_1, ua_42, uo_43_1, ua_44, uo_45_1, ua_46, uo_47_1, ua_48, uo_49_3, ua_51, ua_52, uo_53_1, ua_54, uo_55_1, ua_56, uo_57_1, ua_58, uo_59_1, ua_60, uo_61_1, ua_62, uo_63_1, ua_64, uo_66_1, ua_67, ua_68, ua_69, uo_71_1, ua_72, ua_73, ua_74, sO_g, sA_g, sA_O, sO_A, sO_2, sC_1, sC_2, sC_3, sC_4, sC_5, sC_6, sW_1, sW_2, sW_3, sW_4, uc_0, hp_99, hp_100, hp_101, hp_102, hp_103, hp_104, og_99_0, og_99_1, og_99_2, og_99_3, og_99_4, og_99_5, og_99_6, ol_99, og_103_0, og_103_1, ol_103, uo_99_4, uo_99_5, uo_99_6, ua_100, ua_101, ua_102, uo_103_1, ua_104, fl_O, fl_A, hsr, h99, hcl, e1, e2, e2', h23, hz0, ft_6_4, nu_fitI, nu_fitL, nu_fitO, nu_fitA, nu_fitB0, nu_fitB1]
    obtain ⟨s1, es1, ag1, h102⟩ : ∃ s1, sA s 102 (upd (s.1 102) (rk y / 32) (s.1 102 (rk y / 32) ||| ((1 : Int32) <<< (nI (rk y % 32) &&& 31)))) = s1 ∧ AG s s1 [102] ∧ s1.1 102 = upd (s.1 102) (rk y / 32) (s.1 102 (rk y / 32) ||| ((1 : Int32) <<< (nI (rk y % 32) &&& 31))) := ⟨_, rfl, AG.sA (by simp), rfl⟩
    rw [es1]
    have hsr1 : s1.2.2.2.1 = true := by rw [ag1.2]; exact hsr
    have h991 : s1.2.1 99 4 = nI S.1.length := by rw [(ag1.1 99 (by simp)).2]; exact h99
    have hx1 : RS s1 103 104 y := hx.ag (ag1.1 _ (by simp)).2 (ag1.1 _ (by simp)).1
    refine ⟨by decide, by decide, fun c => absurd c (nI_ge (b := 720) hlt (by omega)), fun _ => ⟨fun c => absurd c (nI_ge (b := 23) hw (by omega)), fun _ => ⟨vp_in_nI (by omega) (by omega), fun _ => ⟨vp_in_nI (by omega) (by omega), vp_in_nI (by omega) (by omega), 0, 0, _, Nat.le_refl _, Nat.le_refl _, C_packed (d := d) hsr1 hx1, fun z h' hz => ?_⟩, fun c => absurd trivial c⟩⟩⟩
    obtain ⟨rfl, rfl⟩ := hz
    (try simp only [Option.toList_some, Option.toList_none, List.nil_append, List.append_nil, List.cons_append, Nat.sub_zero, Nat.sub_self, Nat.zero_sub]); refine Go.wp sp_48 200 ?_; simp only [↓g48_0, ↓g48_1, ↓g48_4, ↓g48_5, ↓g48_6, ↓g48_8, ↓g48_9, ↓g48_10, ↓g48_11, ↓g48_12, ↓g48_14, ↓g48_15, ↓g48_16, ↓g48_18, ↓g48_19, ↓g48_22, ↓g48_25, ↓g48_28, ↓g48_29, ↓g48_30, ↓g48_33, ↓g48_33t, ↓g48_34, ↓g48_37, ↓g48_38, ↓g48_41, ↓g48_42, ↓g48_42t, ↓g48_43, ↓g48_45, ↓g48_46, ↓g48_49, ↓g48_50, ↓g48_51, ↓g48_54, ↓g48_55, ↓g48_56, ↓g48_56t, ↓g48_57, ↓g48_59, ↓g48_60, ↓g48_61, ↓g48_62, ↓g48_65, ↓g48_66, ↓g48_69, ↓g48_70, ↓g48_73, ↓g48_74, ↓g48_75, ↓g48_78, ↓g48_79, ↓g48_82, ↓g48_83, ↓g48_84, ↓g48_85, ↓g48_86, ↓g48_89, ↓g48_90, ↓g48_91, ↓g48_94, cl_51, cl_53, cn_0, cn_1, cn_2, cn_3, cn_4, cn_5, cn_6, cn_7, cn_8, ↓Go_s, ↓GoC_a, ↓reduceIte, ↓mm_call_eq, ↓mmw_nil, ↓mmw_cons, List.take_succ_cons, List.take_zero, List.take_nil, List.drop_succ_cons, List.drop_zero, List.drop_nil, List.reverse_cons, List.reverse_nil, List.nil_append, List.cons_append, List.append_nil, Option.toList_some, Option.toList_none, Nat.sub_zero, Nat.le_refl, mmr_cons, mm_st1, mm_st2, mmi_nil, mmi_cons, mmc_I, mmc_L, mmc_R, mmu_get, mmu_one, mma_get, mma_one, List.filter_cons, List.filter_nil, List.contains_cons, List.contains_nil, Nat.reduceBEq, Nat.reduceAdd, Nat.reduceLT, Nat.reduceSub, Nat.reduceLeDiff, Nat.reduceEqDiff, Int32.reduceAdd, Bool.not_true, Bool.not_false, Bool.and_true, Bool.true_and, Bool.and_false, Bool.false_and, Bool.or_false, Bool.false_or, Bool.or_true, Bool.true_or, if_true, if_false, ite_true, ite_false, Bool.false_eq_true, List.getElem?_cons_zero, List.getElem?_cons_succ, List.length_cons, List.length_nil, true_and, and_true, List.set_cons_zero, List.set_cons_succ, Fin.isValue, Fin.val_zero, Fin.val_one, Fin.val_two, Fin.reduceFinMk, Nat.zero_add, hp_0, hp_1, hp_2, hp_3, hp_4, hp_5, hp_6, hp_7, hp_8, hp_9, hp_10, hp_11, hp_12, hp_13, hp_14, hp_15, hp_16, hp_17, hp_18, hp_19, hp_20, hp_21, hp_22, hp_23, hp_24, hp_25, hp_26, hp_27, hp_28, hp_29, hp_30, hp_31, hp_32, hp_33, hp_34, hp_35, hp_36, hp_37, hp_38, hp_39, hp_40, hp_41, hp_42, hp_43, hp_44, hp_45, hp_46, hp_47, hp_48, hp_49, hp_50, hp_51, hp_52, hp_53, hp_54, hp_55, hp_56, hp_57, hp_58, hp_59, hp_60, hp_61, hp_62, hp_63, hp_64, hp_65, hp_66, hp_67, hp_68, hp_69, hp_70, hp_71, hp_72, hp_73, hp_74, og_0_0, og_0_1, og_0_2, og_0_3, og_0_4, og_0_5, og_0_6, og_0_7, og_0_8, og_0_9, og_0_10, og_0_11, og_0_12, og_0_13, ol_0, og_2_0, og_2_1, og_2_2, og_2_3, og_2_4, og_2_5, og_2_6, ol_2, og_3_0, og_3_1, ol_3, og_5_0, og_5_1, ol_5, og_9_0, og_9_1, og_9_2, og_9_3, og_9_4, og_9_5, og_9_6, ol_9, og_10_0, og_10_1, ol_10, og_12_0, og_12_1, ol_12, og_16_0, og_16_1, og_16_2, ol_16, og_17_0, og_17_1, ol_17, og_21_0, og_21_1, og_21_2, og_21_3, og_21_4, ol_21, og_27_0, og_27_1, og_27_2, og_27_3, og_27_4, og_27_5, og_27_6, og_27_7, og_27_8, og_27_9, og_27_10, ol_27, og_35_0, og_35_1, ol_35, og_37_0, og_37_1, ol_37, og_39_0, og_39_1, ol_39, og_41_0, og_41_1, ol_41, og_43_0, og_43_1, ol_43, og_45_0, og_45_1, ol_45, og_47_0, og_47_1, ol_47, og_49_0, og_49_1, og_49_2, og_49_3, ol_49, og_53_0, og_53_1, ol_53, og_55_0, og_55_1, ol_55, og_57_0, og_57_1, ol_57, og_59_0, og_59_1, ol_59, og_61_0, og_61_1, ol_61, og_63_0, og_63_1, ol_63, og_65_0, og_65_1, og_65_2, ol_65, og_66_0, og_66_1, ol_66, og_70_0, og_70_1, og_70_2, ol_70, og_71_0, og_71_1, ol_71, uo_0_1, uo_0_4, uo_0_8, ua_1, uo_2_0, uo_2_1, uo_2_2, uo_3_1, ua_4, uo_5_1, ua_6, ua_7, ua_8, uo_9_0, uo_9_1, uo_9_2, uo_10_1, ua_11, uo_12_1, ua_13, ua_14, ua_15, uo_17_1, ua_18, ua_19, ua_20, uo_21_4, ua_22, ua_23, ua_24, ua_25, uo_27_2, uo_27_6, uo_27_7, uo_27_8, ua_28, ua_29, ua_31, ua_32, ua_33, ua_34, uo_35_1, ua_36, uo_37_1, ua_38, uo_39_1, ua_40, uo_41_1, ua_42, uo_43_1, ua_44, uo_45_1, ua_46, uo_47_1, ua_48, uo_49_3, ua_51, ua_52, uo_53_1, ua_54, uo_55_1, ua_56, uo_57_1, ua_58, uo_59_1, ua_60, uo_61_1, ua_62, uo_63_1, ua_64, uo_66_1, ua_67, ua_68, ua_69, uo_71_1, ua_72, ua_73, ua_74, sO_g, sA_g, sA_O, sO_A, sO_2, sC_1, sC_2, sC_3, sC_4, sC_5, sC_6, sW_1, sW_2, sW_3, sW_4, uc_0, hp_99, hp_100, hp_101, hp_102, hp_103, hp_104, og_99_0, og_99_1, og_99_2, og_99_3, og_99_4, og_99_5, og_99_6, ol_99, og_103_0, og_103_1, ol_103, uo_99_4, uo_99_5, uo_99_6, ua_100, ua_101, ua_102, uo_103_1, ua_104, fl_O, fl_A, hsr1, h991, hcl2, nI_1, ft_6_4, nu_fitI, nu_fitL, nu_fitO, nu_fitA, nu_fitB0, nu_fitB1]
    refine ⟨vp_in_nI (by omega) (by omega), vp_in_nI (by omega) (by omega), _, rfl, (ag1.mono (by simp)).tr ((AG.sA (by simp)).tr ((AG.sA (by simp)).tr (AG.sO (by simp)))), ?_, ?_, ?_, fun i hi => ?_, fun j hj => ?_⟩
    · show s1.2.1 99 5 = _
      rw [(ag1.1 99 (by simp)).2]
    · show s1.2.1 99 6 = _
      rw [(ag1.1 99 (by simp)).2]
    · show nI (S.1.length + 1) = nI (S.1 ++ [y]).length
      rw [List.length_append, List.length_singleton]
    · have hi' : i < S.1.length + 1 := by simpa using hi
      show upd (s1.1 100) S.1.length (nI (p8 y)) i = nI (p8 ((S.1 ++ [y]).getD i [])) ∧ upd (s1.1 101) S.1.length (nI (8 * q.1 + q.2)) i = nI (8 * ((S.2 ++ [q]).getD i (0, 0)).1 + ((S.2 ++ [q]).getD i (0, 0)).2)
      rw [getD_snoc, getD_snoc, hlen, (ag1.1 100 (by simp)).1, (ag1.1 101 (by simp)).1]
      unfold upd
      by_cases e : i = S.1.length
      · simp only [if_pos e, if_neg (show ¬ i < S.1.length by omega)]
        exact ⟨trivial, trivial⟩
      · simp only [if_neg e, if_pos (show i < S.1.length by omega)]
        exact hS.2.1 i (by omega)
    · show bt (s1.1 102 (j / 32)) (j % 32) = true ↔ ∃ x ∈ S.1 ++ [y], rk x = j
      rw [h102]
      have hor : (∃ x ∈ S.1 ++ [y], rk x = j) ↔ (∃ x ∈ S.1, rk x = j) ∨ rk y = j := by
        constructor
        · rintro ⟨x, hx, e⟩
          rcases List.mem_append.mp hx with z | z
          · exact Or.inl ⟨x, z, e⟩
          · rw [List.mem_singleton.mp z] at e
            exact Or.inr e
        · rintro (⟨x, hx, e⟩ | e)
          · exact ⟨x, by simp [hx], e⟩
          · exact ⟨y, by simp, e⟩
      rw [hor, ← hS.2.2 j hj]
      unfold upd
      by_cases e : j / 32 = rk y / 32
      · rw [if_pos e, b_or, bt_sh (by omega) (by omega), e, Bool.or_eq_true, decide_eq_true_eq]
        exact or_congr Iff.rfl ⟨fun h => by omega, fun h => by omega⟩
      · rw [if_neg e]
        exact ⟨Or.inl, fun h => h.elim id (fun h => absurd (by rw [h]) e)⟩
end SRCH
