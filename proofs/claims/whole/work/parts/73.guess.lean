/-! rows: the class's small methods -/
abbrev sp_14 : List Nat := []
section G14
variable {tb : Nat → Nat × (Nat → Int32)} {call : CO} {Q : AQ} {C : CP} {lv : AL} {st : List AV} {h : AH} {kc ks : Nat}
theorem g14_0  : mm_step (mm_rw mr_14) none tb call Q C 0 lv st h kc ks = (match mm_rd lv 0 with
    | some (.inr (.inr (.inl (some k)))) => C 1 lv (vR k :: st) h kc ks
    | some (.inr (.inr (.inr t))) => C 1 lv (vT t :: st) h kc ks
    | _ => False) := rfl
theorem g14_1 (k : Nat) : mm_step (mm_rw mr_14) none tb call Q C 1 lv (.inr (.inr (.inl (some k))) :: st) h kc ks = (match h.2 k with
    | some (.inr (.inr (ci, fs))) => ci = 2 ∧ (match fs[4]? with
      | some v => C 4 lv (v :: st) h kc ks
      | none => False)
    | _ => False) := rfl
theorem g14_4  : mm_step (mm_rw mr_14) none tb call Q C 4 lv st h kc ks = (match mm_rd lv 2 with
    | some (.inl a) => C 5 lv (vI a :: st) h kc ks
    | _ => False) := rfl
theorem g14_5  : mm_step (mm_rw mr_14) none tb call Q C 5 lv st h kc ks = (match mm_rd lv 1 with
    | some (.inl a) => C 6 lv (vI a :: st) h kc ks
    | _ => False) := rfl
theorem g14_6 (v i : Int32) (k : Nat) : mm_step (mm_rw mr_14) none tb call Q C 6 lv (.inl v :: .inl i :: .inr (.inr (.inl (some k))) :: st) h kc ks = (match h.2 k with
    | some (.inl (.int, n, f)) => vp_in i n ∧ C 7 lv st (mm_up h k (cI n (upd f i.toNatClampNeg v))) kc ks
    | _ => False) := rfl
theorem g14_7  : mm_step (mm_rw mr_14) none tb call Q C 7 lv st h kc ks = (match mm_rd lv 0 with
    | some (.inr (.inr (.inl (some k)))) => C 8 lv (vR k :: st) h kc ks
    | some (.inr (.inr (.inr t))) => C 8 lv (vT t :: st) h kc ks
    | _ => False) := rfl
theorem g14_8 (k : Nat) : mm_step (mm_rw mr_14) none tb call Q C 8 lv (.inr (.inr (.inl (some k))) :: st) h kc ks = (match h.2 k with
    | some (.inr (.inr (ci, fs))) => ci = 2 ∧ (match fs[5]? with
      | some v => C 11 lv (v :: st) h kc ks
      | none => False)
    | _ => False) := rfl
theorem g14_11  : mm_step (mm_rw mr_14) none tb call Q C 11 lv st h kc ks = (match mm_rd lv 1 with
    | some (.inl a) => C 12 lv (vI a :: st) h kc ks
    | _ => False) := rfl
theorem g14_12  : mm_step (mm_rw mr_14) none tb call Q C 12 lv st h kc ks = (match mm_rd lv 2 with
    | some (.inl a) => C 13 lv (vI a :: st) h kc ks
    | _ => False) := rfl
theorem g14_13 (v i : Int32) (k : Nat) : mm_step (mm_rw mr_14) none tb call Q C 13 lv (.inl v :: .inl i :: .inr (.inr (.inl (some k))) :: st) h kc ks = (match h.2 k with
    | some (.inl (.int, n, f)) => vp_in i n ∧ C 14 lv st (mm_up h k (cI n (upd f i.toNatClampNeg v))) kc ks
    | _ => False) := rfl
theorem g14_14  : mm_step (mm_rw mr_14) none tb call Q C 14 lv [] h kc ks = ((none : Option FieldType) = none ∧ Q none h) := rfl
end G14

abbrev sp_15 : List Nat := []
section G15
variable {tb : Nat → Nat × (Nat → Int32)} {call : CO} {Q : AQ} {C : CP} {lv : AL} {st : List AV} {h : AH} {kc ks : Nat}
theorem g15_0  : mm_step (mm_rw mr_15) none tb call Q C 0 lv st h kc ks = (match mm_rd lv 0 with
    | some (.inr (.inr (.inl (some k)))) => C 1 lv (vR k :: st) h kc ks
    | some (.inr (.inr (.inr t))) => C 1 lv (vT t :: st) h kc ks
    | _ => False) := rfl
theorem g15_1 (k : Nat) : mm_step (mm_rw mr_15) none tb call Q C 1 lv (.inr (.inr (.inl (some k))) :: st) h kc ks = (match h.2 k with
    | some (.inr (.inr (ci, fs))) => ci = 2 ∧ (match fs[4]? with
      | some v => C 4 lv (v :: st) h kc ks
      | none => False)
    | _ => False) := rfl
theorem g15_4  : mm_step (mm_rw mr_15) none tb call Q C 4 lv st h kc ks = (match mm_rd lv 2 with
    | some (.inl a) => C 5 lv (vI a :: st) h kc ks
    | _ => False) := rfl
theorem g15_5  : mm_step (mm_rw mr_15) none tb call Q C 5 lv st h kc ks = (C 7 lv (vI (mI 9) :: st) h kc ks) := rfl
theorem g15_7 (v i : Int32) (k : Nat) : mm_step (mm_rw mr_15) none tb call Q C 7 lv (.inl v :: .inl i :: .inr (.inr (.inl (some k))) :: st) h kc ks = (match h.2 k with
    | some (.inl (.int, n, f)) => vp_in i n ∧ C 8 lv st (mm_up h k (cI n (upd f i.toNatClampNeg v))) kc ks
    | _ => False) := rfl
theorem g15_8  : mm_step (mm_rw mr_15) none tb call Q C 8 lv st h kc ks = (match mm_rd lv 0 with
    | some (.inr (.inr (.inl (some k)))) => C 9 lv (vR k :: st) h kc ks
    | some (.inr (.inr (.inr t))) => C 9 lv (vT t :: st) h kc ks
    | _ => False) := rfl
theorem g15_9 (k : Nat) : mm_step (mm_rw mr_15) none tb call Q C 9 lv (.inr (.inr (.inl (some k))) :: st) h kc ks = (match h.2 k with
    | some (.inr (.inr (ci, fs))) => ci = 2 ∧ (match fs[5]? with
      | some v => C 12 lv (v :: st) h kc ks
      | none => False)
    | _ => False) := rfl
theorem g15_12  : mm_step (mm_rw mr_15) none tb call Q C 12 lv st h kc ks = (match mm_rd lv 1 with
    | some (.inl a) => C 13 lv (vI a :: st) h kc ks
    | _ => False) := rfl
theorem g15_13  : mm_step (mm_rw mr_15) none tb call Q C 13 lv st h kc ks = (C 15 lv (vI (mI 9) :: st) h kc ks) := rfl
theorem g15_15 (v i : Int32) (k : Nat) : mm_step (mm_rw mr_15) none tb call Q C 15 lv (.inl v :: .inl i :: .inr (.inr (.inl (some k))) :: st) h kc ks = (match h.2 k with
    | some (.inl (.int, n, f)) => vp_in i n ∧ C 16 lv st (mm_up h k (cI n (upd f i.toNatClampNeg v))) kc ks
    | _ => False) := rfl
theorem g15_16  : mm_step (mm_rw mr_15) none tb call Q C 16 lv [] h kc ks = ((none : Option FieldType) = none ∧ Q none h) := rfl
end G15

abbrev sp_17 : List Nat := [4]
section G17
variable {tb : Nat → Nat × (Nat → Int32)} {call : CO} {Q : AQ} {C : CP} {lv : AL} {st : List AV} {h : AH} {kc ks : Nat}
theorem g17_0  : mm_step (mm_rw mr_17) (some .int) tb call Q C 0 lv st h kc ks = (C 1 lv (vI 0 :: st) h kc ks) := rfl
theorem g17_1 (a : Int32) : mm_step (mm_rw mr_17) (some .int) tb call Q C 1 lv (.inl a :: st) h kc ks = (C 2 (mm_st1 lv 2 (vI a)) st h kc ks) := rfl
theorem g17_2  : mm_step (mm_rw mr_17) (some .int) tb call Q C 2 lv st h kc ks = (C 3 lv (vI 0 :: st) h kc ks) := rfl
theorem g17_3 (a : Int32) : mm_step (mm_rw mr_17) (some .int) tb call Q C 3 lv (.inl a :: st) h kc ks = (C 4 (mm_st1 lv 3 (vI a)) st h kc ks) := rfl
theorem g17_4  : mm_step (mm_rw mr_17) (some .int) tb call Q C 4 lv st h kc ks = (match mm_rd lv 3 with
    | some (.inl a) => C 5 lv (vI a :: st) h kc ks
    | _ => False) := rfl
theorem g17_5  : mm_step (mm_rw mr_17) (some .int) tb call Q C 5 lv st h kc ks = (match mm_rd lv 0 with
    | some (.inr (.inr (.inl (some k)))) => C 6 lv (vR k :: st) h kc ks
    | some (.inr (.inr (.inr t))) => C 6 lv (vT t :: st) h kc ks
    | _ => False) := rfl
theorem g17_6 (k : Nat) : mm_step (mm_rw mr_17) (some .int) tb call Q C 6 lv (.inr (.inr (.inl (some k))) :: st) h kc ks = (match h.2 k with
    | some (.inr (.inr (ci, fs))) => ci = 2 ∧ (match fs[6]? with
      | some v => C 9 lv (v :: st) h kc ks
      | none => False)
    | _ => False) := rfl
theorem g17_9 (a b : Int32) : mm_step (mm_rw mr_17) (some .int) tb call Q C 9 lv (.inl b :: .inl a :: st) h kc ks = ((b ≤ a → C 32 lv st h kc ks) ∧ (¬ b ≤ a → C 12 lv st h kc ks)) := rfl
theorem g17_12  : mm_step (mm_rw mr_17) (some .int) tb call Q C 12 lv st h kc ks = (match mm_rd lv 1 with
    | some (.inr (.inr (.inl (some k)))) => C 13 lv (vR k :: st) h kc ks
    | some (.inr (.inr (.inr t))) => C 13 lv (vT t :: st) h kc ks
    | _ => False) := rfl
theorem g17_13  : mm_step (mm_rw mr_17) (some .int) tb call Q C 13 lv st h kc ks = (match mm_rd lv 3 with
    | some (.inl a) => C 14 lv (vI a :: st) h kc ks
    | _ => False) := rfl
theorem g17_14 (i : Int32) (k : Nat) : mm_step (mm_rw mr_17) (some .int) tb call Q C 14 lv (.inl i :: .inr (.inr (.inl (some k))) :: st) h kc ks = (match h.2 k with
    | some (.inl (.int, n, f)) => vp_in i n ∧ C 15 lv (vI (f i.toNatClampNeg) :: st) h kc ks
    | _ => False) := rfl
theorem g17_14t (i : Int32) (t : Nat) : mm_step (mm_rw mr_17) (some .int) tb call Q C 14 lv (.inl i :: .inr (.inr (.inr t)) :: st) h kc ks = (vp_in i (tb t).1 ∧ C 15 lv (vI ((tb t).2 i.toNatClampNeg) :: st) h kc ks) := rfl
theorem g17_15  : mm_step (mm_rw mr_17) (some .int) tb call Q C 15 lv st h kc ks = (C 17 lv (vI (mI 9) :: st) h kc ks) := rfl
theorem g17_17 (a b : Int32) : mm_step (mm_rw mr_17) (some .int) tb call Q C 17 lv (.inl b :: .inl a :: st) h kc ks = ((¬ a = b → C 26 lv st h kc ks) ∧ (a = b → C 20 lv st h kc ks)) := rfl
theorem g17_20  : mm_step (mm_rw mr_17) (some .int) tb call Q C 20 lv st h kc ks = (match mm_rd lv 2 with
    | some (.inl a) => C 21 lv (vI a :: st) h kc ks
    | _ => False) := rfl
theorem g17_21  : mm_step (mm_rw mr_17) (some .int) tb call Q C 21 lv st h kc ks = (C 22 lv (vI 1 :: st) h kc ks) := rfl
theorem g17_22  : mm_step (mm_rw mr_17) (some .int) tb call Q C 22 lv st h kc ks = (match mm_rd lv 3 with
    | some (.inl a) => C 23 lv (vI a :: st) h kc ks
    | _ => False) := rfl
theorem g17_23 (a b : Int32) : mm_step (mm_rw mr_17) (some .int) tb call Q C 23 lv (.inl b :: .inl a :: st) h kc ks = (C 24 lv (vI (a <<< (b &&& 31)) :: st) h kc ks) := rfl
theorem g17_24 (a b : Int32) : mm_step (mm_rw mr_17) (some .int) tb call Q C 24 lv (.inl b :: .inl a :: st) h kc ks = (C 25 lv (vI (a ||| b) :: st) h kc ks) := rfl
theorem g17_25 (a : Int32) : mm_step (mm_rw mr_17) (some .int) tb call Q C 25 lv (.inl a :: st) h kc ks = (C 26 (mm_st1 lv 2 (vI a)) st h kc ks) := rfl
theorem g17_26  : mm_step (mm_rw mr_17) (some .int) tb call Q C 26 lv st h kc ks = (match mm_rd lv 3 with
    | some (.inl a) => C 29 (mm_st1 lv 3 (vI (a + 1))) st h kc ks
    | _ => False) := rfl
theorem g17_29  : mm_step (mm_rw mr_17) (some .int) tb call Q C 29 lv st h kc ks = (C 4 lv st h kc ks) := rfl
theorem g17_32  : mm_step (mm_rw mr_17) (some .int) tb call Q C 32 lv st h kc ks = (match mm_rd lv 2 with
    | some (.inl a) => C 33 lv (vI a :: st) h kc ks
    | _ => False) := rfl
theorem g17_33 (v : Int32) : mm_step (mm_rw mr_17) (some .int) tb call Q C 33 lv [.inl v] h kc ks = (True ∧ Q (some (vI v)) h) := rfl
end G17

abbrev sp_18 : List Nat := [2]
section G18
variable {tb : Nat → Nat × (Nat → Int32)} {call : CO} {Q : AQ} {C : CP} {lv : AL} {st : List AV} {h : AH} {kc ks : Nat}
theorem g18_0  : mm_step (mm_rw mr_18) none tb call Q C 0 lv st h kc ks = (C 1 lv (vI 0 :: st) h kc ks) := rfl
theorem g18_1 (a : Int32) : mm_step (mm_rw mr_18) none tb call Q C 1 lv (.inl a :: st) h kc ks = (C 2 (mm_st1 lv 3 (vI a)) st h kc ks) := rfl
theorem g18_2  : mm_step (mm_rw mr_18) none tb call Q C 2 lv st h kc ks = (match mm_rd lv 3 with
    | some (.inl a) => C 3 lv (vI a :: st) h kc ks
    | _ => False) := rfl
theorem g18_3  : mm_step (mm_rw mr_18) none tb call Q C 3 lv st h kc ks = (match mm_rd lv 0 with
    | some (.inr (.inr (.inl (some k)))) => C 4 lv (vR k :: st) h kc ks
    | some (.inr (.inr (.inr t))) => C 4 lv (vT t :: st) h kc ks
    | _ => False) := rfl
theorem g18_4 (k : Nat) : mm_step (mm_rw mr_18) none tb call Q C 4 lv (.inr (.inr (.inl (some k))) :: st) h kc ks = (match h.2 k with
    | some (.inr (.inr (ci, fs))) => ci = 2 ∧ (match fs[6]? with
      | some v => C 7 lv (v :: st) h kc ks
      | none => False)
    | _ => False) := rfl
theorem g18_7 (a b : Int32) : mm_step (mm_rw mr_18) none tb call Q C 7 lv (.inl b :: .inl a :: st) h kc ks = ((b ≤ a → C 40 lv st h kc ks) ∧ (¬ b ≤ a → C 10 lv st h kc ks)) := rfl
theorem g18_10  : mm_step (mm_rw mr_18) none tb call Q C 10 lv st h kc ks = (match mm_rd lv 1 with
    | some (.inl a) => C 11 lv (vI a :: st) h kc ks
    | _ => False) := rfl
theorem g18_11  : mm_step (mm_rw mr_18) none tb call Q C 11 lv st h kc ks = (match mm_rd lv 3 with
    | some (.inl a) => C 12 lv (vI a :: st) h kc ks
    | _ => False) := rfl
theorem g18_12 (a b : Int32) : mm_step (mm_rw mr_18) none tb call Q C 12 lv (.inl b :: .inl a :: st) h kc ks = (C 13 lv (vI (a >>> (b &&& 31)) :: st) h kc ks) := rfl
theorem g18_13  : mm_step (mm_rw mr_18) none tb call Q C 13 lv st h kc ks = (C 14 lv (vI 1 :: st) h kc ks) := rfl
theorem g18_14 (a b : Int32) : mm_step (mm_rw mr_18) none tb call Q C 14 lv (.inl b :: .inl a :: st) h kc ks = (C 15 lv (vI (a &&& b) :: st) h kc ks) := rfl
theorem g18_15 (a : Int32) : mm_step (mm_rw mr_18) none tb call Q C 15 lv (.inl a :: st) h kc ks = ((a = 0 → C 34 lv st h kc ks) ∧ (¬ a = 0 → C 18 lv st h kc ks)) := rfl
theorem g18_18  : mm_step (mm_rw mr_18) none tb call Q C 18 lv st h kc ks = (match mm_rd lv 0 with
    | some (.inr (.inr (.inl (some k)))) => C 19 lv (vR k :: st) h kc ks
    | some (.inr (.inr (.inr t))) => C 19 lv (vT t :: st) h kc ks
    | _ => False) := rfl
theorem g18_19 (k : Nat) : mm_step (mm_rw mr_18) none tb call Q C 19 lv (.inr (.inr (.inl (some k))) :: st) h kc ks = (match h.2 k with
    | some (.inr (.inr (ci, fs))) => ci = 2 ∧ (match fs[10]? with
      | some v => C 22 lv (v :: st) h kc ks
      | none => False)
    | _ => False) := rfl
theorem g18_22  : mm_step (mm_rw mr_18) none tb call Q C 22 lv st h kc ks = (match mm_rd lv 3 with
    | some (.inl a) => C 23 lv (vI a :: st) h kc ks
    | _ => False) := rfl
theorem g18_23 (v w : AV) : mm_step (mm_rw mr_18) none tb call Q C 23 lv (v :: w :: st) h kc ks = (mm_c2 v = false ∧ mm_c2 w = false ∧ C 24 lv (v :: w :: v :: w :: st) h kc ks) := rfl
theorem g18_24 (i : Int32) (k : Nat) : mm_step (mm_rw mr_18) none tb call Q C 24 lv (.inl i :: .inr (.inr (.inl (some k))) :: st) h kc ks = (match h.2 k with
    | some (.inl (.int, n, f)) => vp_in i n ∧ C 25 lv (vI (f i.toNatClampNeg) :: st) h kc ks
    | _ => False) := rfl
theorem g18_24t (i : Int32) (t : Nat) : mm_step (mm_rw mr_18) none tb call Q C 24 lv (.inl i :: .inr (.inr (.inr t)) :: st) h kc ks = (vp_in i (tb t).1 ∧ C 25 lv (vI ((tb t).2 i.toNatClampNeg) :: st) h kc ks) := rfl
theorem g18_25  : mm_step (mm_rw mr_18) none tb call Q C 25 lv st h kc ks = (match mm_rd lv 2 with
    | some (.inl a) => C 26 lv (vI a :: st) h kc ks
    | _ => False) := rfl
theorem g18_26  : mm_step (mm_rw mr_18) none tb call Q C 26 lv st h kc ks = (C 27 lv (vI 1 :: st) h kc ks) := rfl
theorem g18_27  : mm_step (mm_rw mr_18) none tb call Q C 27 lv st h kc ks = (match mm_rd lv 3 with
    | some (.inl a) => C 28 lv (vI a :: st) h kc ks
    | _ => False) := rfl
theorem g18_28 (a b : Int32) : mm_step (mm_rw mr_18) none tb call Q C 28 lv (.inl b :: .inl a :: st) h kc ks = (C 29 lv (vI (a <<< (b &&& 31)) :: st) h kc ks) := rfl
theorem g18_29  : mm_step (mm_rw mr_18) none tb call Q C 29 lv st h kc ks = (C 30 lv (vI (mI 1) :: st) h kc ks) := rfl
theorem g18_30 (a b : Int32) : mm_step (mm_rw mr_18) none tb call Q C 30 lv (.inl b :: .inl a :: st) h kc ks = (C 31 lv (vI (a ^^^ b) :: st) h kc ks) := rfl
theorem g18_31 (a b : Int32) : mm_step (mm_rw mr_18) none tb call Q C 31 lv (.inl b :: .inl a :: st) h kc ks = (C 32 lv (vI (a &&& b) :: st) h kc ks) := rfl
theorem g18_32 (a b : Int32) : mm_step (mm_rw mr_18) none tb call Q C 32 lv (.inl b :: .inl a :: st) h kc ks = (C 33 lv (vI (a ||| b) :: st) h kc ks) := rfl
theorem g18_33 (v i : Int32) (k : Nat) : mm_step (mm_rw mr_18) none tb call Q C 33 lv (.inl v :: .inl i :: .inr (.inr (.inl (some k))) :: st) h kc ks = (match h.2 k with
    | some (.inl (.int, n, f)) => vp_in i n ∧ C 34 lv st (mm_up h k (cI n (upd f i.toNatClampNeg v))) kc ks
    | _ => False) := rfl
theorem g18_34  : mm_step (mm_rw mr_18) none tb call Q C 34 lv st h kc ks = (match mm_rd lv 3 with
    | some (.inl a) => C 37 (mm_st1 lv 3 (vI (a + 1))) st h kc ks
    | _ => False) := rfl
theorem g18_37  : mm_step (mm_rw mr_18) none tb call Q C 37 lv st h kc ks = (C 2 lv st h kc ks) := rfl
theorem g18_40  : mm_step (mm_rw mr_18) none tb call Q C 40 lv [] h kc ks = ((none : Option FieldType) = none ∧ Q none h) := rfl
end G18

abbrev sp_158 : List Nat := []
section G158
variable {tb : Nat → Nat × (Nat → Int32)} {call : CO} {Q : AQ} {C : CP} {lv : AL} {st : List AV} {h : AH} {kc ks : Nat}
theorem g158_0  : mm_step (mm_rw mr_158) (some .int) tb call Q C 0 lv st h kc ks = (match mm_rd lv 0 with
    | some (.inl a) => C 1 lv (vI a :: st) h kc ks
    | _ => False) := rfl
theorem g158_1  : mm_step (mm_rw mr_158) (some .int) tb call Q C 1 lv st h kc ks = (match mm_rd lv 0 with
    | some (.inl a) => C 2 lv (vI a :: st) h kc ks
    | _ => False) := rfl
theorem g158_2  : mm_step (mm_rw mr_158) (some .int) tb call Q C 2 lv st h kc ks = (C 3 lv (vI 1 :: st) h kc ks) := rfl
theorem g158_3 (a b : Int32) : mm_step (mm_rw mr_158) (some .int) tb call Q C 3 lv (.inl b :: .inl a :: st) h kc ks = (C 4 lv (vI ((a.toUInt32 >>> (b.toUInt32 &&& Int32.toUInt32 31)).toInt32) :: st) h kc ks) := rfl
theorem g158_4  : mm_step (mm_rw mr_158) (some .int) tb call Q C 4 lv st h kc ks = (C 7 lv (vI 1431655765 :: st) h kc ks) := rfl
theorem g158_7 (a b : Int32) : mm_step (mm_rw mr_158) (some .int) tb call Q C 7 lv (.inl b :: .inl a :: st) h kc ks = (C 8 lv (vI (a &&& b) :: st) h kc ks) := rfl
theorem g158_8 (a b : Int32) : mm_step (mm_rw mr_158) (some .int) tb call Q C 8 lv (.inl b :: .inl a :: st) h kc ks = (C 9 lv (vI (a - b) :: st) h kc ks) := rfl
theorem g158_9 (a : Int32) : mm_step (mm_rw mr_158) (some .int) tb call Q C 9 lv (.inl a :: st) h kc ks = (C 10 (mm_st1 lv 0 (vI a)) st h kc ks) := rfl
theorem g158_10  : mm_step (mm_rw mr_158) (some .int) tb call Q C 10 lv st h kc ks = (match mm_rd lv 0 with
    | some (.inl a) => C 11 lv (vI a :: st) h kc ks
    | _ => False) := rfl
theorem g158_11  : mm_step (mm_rw mr_158) (some .int) tb call Q C 11 lv st h kc ks = (C 14 lv (vI 858993459 :: st) h kc ks) := rfl
theorem g158_14 (a b : Int32) : mm_step (mm_rw mr_158) (some .int) tb call Q C 14 lv (.inl b :: .inl a :: st) h kc ks = (C 15 lv (vI (a &&& b) :: st) h kc ks) := rfl
theorem g158_15  : mm_step (mm_rw mr_158) (some .int) tb call Q C 15 lv st h kc ks = (match mm_rd lv 0 with
    | some (.inl a) => C 16 lv (vI a :: st) h kc ks
    | _ => False) := rfl
theorem g158_16  : mm_step (mm_rw mr_158) (some .int) tb call Q C 16 lv st h kc ks = (C 17 lv (vI 2 :: st) h kc ks) := rfl
theorem g158_17 (a b : Int32) : mm_step (mm_rw mr_158) (some .int) tb call Q C 17 lv (.inl b :: .inl a :: st) h kc ks = (C 18 lv (vI ((a.toUInt32 >>> (b.toUInt32 &&& Int32.toUInt32 31)).toInt32) :: st) h kc ks) := rfl
theorem g158_18  : mm_step (mm_rw mr_158) (some .int) tb call Q C 18 lv st h kc ks = (C 21 lv (vI 858993459 :: st) h kc ks) := rfl
theorem g158_21 (a b : Int32) : mm_step (mm_rw mr_158) (some .int) tb call Q C 21 lv (.inl b :: .inl a :: st) h kc ks = (C 22 lv (vI (a &&& b) :: st) h kc ks) := rfl
theorem g158_22 (a b : Int32) : mm_step (mm_rw mr_158) (some .int) tb call Q C 22 lv (.inl b :: .inl a :: st) h kc ks = (C 23 lv (vI (a + b) :: st) h kc ks) := rfl
theorem g158_23 (a : Int32) : mm_step (mm_rw mr_158) (some .int) tb call Q C 23 lv (.inl a :: st) h kc ks = (C 24 (mm_st1 lv 0 (vI a)) st h kc ks) := rfl
theorem g158_24  : mm_step (mm_rw mr_158) (some .int) tb call Q C 24 lv st h kc ks = (match mm_rd lv 0 with
    | some (.inl a) => C 25 lv (vI a :: st) h kc ks
    | _ => False) := rfl
theorem g158_25  : mm_step (mm_rw mr_158) (some .int) tb call Q C 25 lv st h kc ks = (match mm_rd lv 0 with
    | some (.inl a) => C 26 lv (vI a :: st) h kc ks
    | _ => False) := rfl
theorem g158_26  : mm_step (mm_rw mr_158) (some .int) tb call Q C 26 lv st h kc ks = (C 27 lv (vI 4 :: st) h kc ks) := rfl
theorem g158_27 (a b : Int32) : mm_step (mm_rw mr_158) (some .int) tb call Q C 27 lv (.inl b :: .inl a :: st) h kc ks = (C 28 lv (vI ((a.toUInt32 >>> (b.toUInt32 &&& Int32.toUInt32 31)).toInt32) :: st) h kc ks) := rfl
theorem g158_28 (a b : Int32) : mm_step (mm_rw mr_158) (some .int) tb call Q C 28 lv (.inl b :: .inl a :: st) h kc ks = (C 29 lv (vI (a + b) :: st) h kc ks) := rfl
theorem g158_29  : mm_step (mm_rw mr_158) (some .int) tb call Q C 29 lv st h kc ks = (C 32 lv (vI 252645135 :: st) h kc ks) := rfl
theorem g158_32 (a b : Int32) : mm_step (mm_rw mr_158) (some .int) tb call Q C 32 lv (.inl b :: .inl a :: st) h kc ks = (C 33 lv (vI (a &&& b) :: st) h kc ks) := rfl
theorem g158_33 (a : Int32) : mm_step (mm_rw mr_158) (some .int) tb call Q C 33 lv (.inl a :: st) h kc ks = (C 34 (mm_st1 lv 0 (vI a)) st h kc ks) := rfl
theorem g158_34  : mm_step (mm_rw mr_158) (some .int) tb call Q C 34 lv st h kc ks = (match mm_rd lv 0 with
    | some (.inl a) => C 35 lv (vI a :: st) h kc ks
    | _ => False) := rfl
theorem g158_35  : mm_step (mm_rw mr_158) (some .int) tb call Q C 35 lv st h kc ks = (match mm_rd lv 0 with
    | some (.inl a) => C 36 lv (vI a :: st) h kc ks
    | _ => False) := rfl
theorem g158_36  : mm_step (mm_rw mr_158) (some .int) tb call Q C 36 lv st h kc ks = (C 38 lv (vI 8 :: st) h kc ks) := rfl
theorem g158_38 (a b : Int32) : mm_step (mm_rw mr_158) (some .int) tb call Q C 38 lv (.inl b :: .inl a :: st) h kc ks = (C 39 lv (vI ((a.toUInt32 >>> (b.toUInt32 &&& Int32.toUInt32 31)).toInt32) :: st) h kc ks) := rfl
theorem g158_39 (a b : Int32) : mm_step (mm_rw mr_158) (some .int) tb call Q C 39 lv (.inl b :: .inl a :: st) h kc ks = (C 40 lv (vI (a + b) :: st) h kc ks) := rfl
theorem g158_40 (a : Int32) : mm_step (mm_rw mr_158) (some .int) tb call Q C 40 lv (.inl a :: st) h kc ks = (C 41 (mm_st1 lv 0 (vI a)) st h kc ks) := rfl
theorem g158_41  : mm_step (mm_rw mr_158) (some .int) tb call Q C 41 lv st h kc ks = (match mm_rd lv 0 with
    | some (.inl a) => C 42 lv (vI a :: st) h kc ks
    | _ => False) := rfl
theorem g158_42  : mm_step (mm_rw mr_158) (some .int) tb call Q C 42 lv st h kc ks = (match mm_rd lv 0 with
    | some (.inl a) => C 43 lv (vI a :: st) h kc ks
    | _ => False) := rfl
theorem g158_43  : mm_step (mm_rw mr_158) (some .int) tb call Q C 43 lv st h kc ks = (C 45 lv (vI 16 :: st) h kc ks) := rfl
theorem g158_45 (a b : Int32) : mm_step (mm_rw mr_158) (some .int) tb call Q C 45 lv (.inl b :: .inl a :: st) h kc ks = (C 46 lv (vI ((a.toUInt32 >>> (b.toUInt32 &&& Int32.toUInt32 31)).toInt32) :: st) h kc ks) := rfl
theorem g158_46 (a b : Int32) : mm_step (mm_rw mr_158) (some .int) tb call Q C 46 lv (.inl b :: .inl a :: st) h kc ks = (C 47 lv (vI (a + b) :: st) h kc ks) := rfl
theorem g158_47 (a : Int32) : mm_step (mm_rw mr_158) (some .int) tb call Q C 47 lv (.inl a :: st) h kc ks = (C 48 (mm_st1 lv 0 (vI a)) st h kc ks) := rfl
theorem g158_48  : mm_step (mm_rw mr_158) (some .int) tb call Q C 48 lv st h kc ks = (match mm_rd lv 0 with
    | some (.inl a) => C 49 lv (vI a :: st) h kc ks
    | _ => False) := rfl
theorem g158_49  : mm_step (mm_rw mr_158) (some .int) tb call Q C 49 lv st h kc ks = (C 51 lv (vI 63 :: st) h kc ks) := rfl
theorem g158_51 (a b : Int32) : mm_step (mm_rw mr_158) (some .int) tb call Q C 51 lv (.inl b :: .inl a :: st) h kc ks = (C 52 lv (vI (a &&& b) :: st) h kc ks) := rfl
theorem g158_52 (v : Int32) : mm_step (mm_rw mr_158) (some .int) tb call Q C 52 lv [.inl v] h kc ks = (True ∧ Q (some (vI v)) h) := rfl
end G158

/-- nothing but the cells T and the guess's fields J has changed -/
def GX (T J : List Nat) (s s' : MM) : Prop := (∀ k, k ∉ T → s'.1 k = s.1 k) ∧ (∀ k, k ≠ 27 → k ∉ T → s'.2.1 k = s.2.1 k) ∧ (∀ j, j ∉ J → s'.2.1 27 j = s.2.1 27 j) ∧ s'.2.2 = s.2.2
theorem GX.rf {T J : List Nat} {s : MM} : GX T J s s := ⟨fun _ _ => rfl, fun _ _ _ => rfl, fun _ _ => rfl, rfl⟩
theorem GX.tr {T J : List Nat} {s s' s'' : MM} (a : GX T J s s') (b : GX T J s' s'') : GX T J s s'' := ⟨fun k h => (b.1 k h).trans (a.1 k h), fun k h1 h => (b.2.1 k h1 h).trans (a.2.1 k h1 h), fun j h => (b.2.2.1 j h).trans (a.2.2.1 j h), b.2.2.2.trans a.2.2.2⟩
theorem GX.a {T J : List Nat} {s : MM} {k : Nat} {f : Nat → Int32} (hk : k ∈ T) : GX T J s (sA s k f) := ⟨fun j h => va_ne (fun e => h (e ▸ hk)), fun _ _ _ => rfl, fun _ _ => rfl, rfl⟩
theorem GX.o {T J : List Nat} {s : MM} {j : Nat} {x : Int32} (hj : j ∈ J) : GX T J s (sO s 27 j x) := ⟨fun _ _ => rfl, fun k h _ => va_ne h, fun i h => by
  show va_up s.2.1 27 (upd (s.2.1 27) j x) 27 i = _
  rw [va_at_eq]
  unfold upd
  rw [if_neg (fun e => h (by rw [e]; exact hj))], rfl⟩
theorem GX.mono {T J T' J' : List Nat} {s s' : MM} (a : GX T J s s') (h1 : ∀ k ∈ T, k ∈ T') (h2 : ∀ k ∈ J, k ∈ J') : GX T' J' s s' := ⟨fun k h => a.1 k (fun z => h (h1 k z)), fun k h0 h => a.2.1 k h0 (fun z => h (h1 k z)), fun j h => a.2.2.1 j (fun z => h (h2 j z)), a.2.2.2⟩
theorem GX.ag {S T J : List Nat} {s s' : MM} (a : AG s s' S) (h1 : ∀ k ∈ S, k ∈ T) (h2 : 27 ∉ S) : GX T J s s' := ⟨fun k h => (a.1 k (fun z => h (h1 k z))).1, fun k _ h => (a.1 k (fun z => h (h1 k z))).2, fun j _ => by rw [(a.1 27 h2).2], a.2⟩
theorem GX.agM {T J : List Nat} {s s' : MM} (a : GX T J s s') (h : ∀ k ∈ T, k < 75) : agM s s' := ⟨fun k h1 h2 => ⟨a.1 k (fun z => by have := h k z; omega), a.2.1 k (by omega) (fun z => by have := h k z; omega)⟩, by rw [a.2.2.2]⟩
theorem GX.inv {T J : List Nat} {g : SG} {s s' : MM} (a : GX T J s s') (hT : ∀ k ∈ T, 30 ≤ k ∧ k < 66) (hJ : 2 ∉ J) (h : InvC g s) : InvC g s' := by
  have h9 := pP_or s
  have hn : ∀ k, k < 30 ∨ (66 ≤ k ∧ k < 75) → k ∉ T := fun k hk z => by have := hT k z; omega
  have hA : ∀ k, k < 30 ∨ (66 ≤ k ∧ k < 75) → s'.1 k = s.1 k := fun k hk => a.1 k (hn k hk)
  have hO : ∀ k, k < 27 ∨ (66 ≤ k ∧ k < 75) → s'.2.1 k = s.2.1 k := fun k hk => a.2.1 k (by omega) (hn k (by omega))
  have hP : pP s' = pP s := by show (bif s'.2.2.1 then 9 else 2) = (bif s.2.2.1 then 9 else 2); rw [a.2.2.2]
  obtain ⟨h1, h2, h3, h4, h5, h6, h7, h8⟩ := h
  unfold InvC
  rw [hP, hO 0 (by omega), hA 1 (by omega), hO (pP s) (by omega), hA (pP s + 5) (by omega), hA (pP s + 6) (by omega), hO 21 (by omega), hA 22 (by omega), hA 23 (by omega), hA 24 (by omega), hA 25 (by omega), a.2.2.1 2 hJ, hA 28 (by omega), hA 29 (by omega), a.2.2.2]
  exact ⟨h1, ⟨h2.1, h2.2.1, h2.2.2.1.ag (hO _ (by omega)) (hA _ (by omega)), h2.2.2.2⟩, h3, h4.ag (hO _ (by omega)) (hA _ (by omega)) (hA _ (by omega)) (hA _ (by omega)), h5, ⟨h6.1, fun k e => (h6.2.1 k e).ag (hO _ (by omega)) (hA _ (by omega)) (hA _ (by omega)) (hA _ (by omega)), fun k e => (h6.2.2 k e).ag (hO _ (by omega)) (hA _ (by omega)) (hA _ (by omega)) (hA _ (by omega))⟩, h7, h8⟩
/-- the free ones as bits -/
def frW (B : PM') : Nat → Int32
  | 0 => 0
  | k + 1 => if B k = none then frW B k ||| ((1 : Int32) <<< (nI k &&& 31)) else frW B k
theorem frW_bt {B : PM'} {i : Nat} (hi : i < 32) : ∀ k, k ≤ 32 → (bt (frW B k) i = true ↔ i < k ∧ B i = none)
  | 0, _ => by
    show bt 0 i = true ↔ _
    rw [b_0]
    exact ⟨fun h => absurd h (by decide), fun h => absurd h.1 (Nat.not_lt_zero _)⟩
  | k + 1, hk => by
    have ih := frW_bt (B := B) hi k (by omega)
    show bt (if B k = none then frW B k ||| ((1 : Int32) <<< (nI k &&& 31)) else frW B k) i = true ↔ _
    by_cases c : B k = none
    · rw [if_pos c, b_or, Bool.or_eq_true, ih, bt_sh (by omega) hi, decide_eq_true_eq]
      constructor
      · rintro (h | h)
        · exact ⟨by omega, h.2⟩
        · rw [h]
          exact ⟨by omega, c⟩
      · rintro ⟨h1, h2⟩
        by_cases e : i = k
        · exact Or.inr e
        · exact Or.inl ⟨by omega, h2⟩
    · rw [if_neg c, ih]
      constructor
      · exact fun h => ⟨by omega, h.2⟩
      · rintro ⟨h1, h2⟩
        by_cases e : i = k
        · rw [e] at h2
          exact absurd h2 c
        · exact ⟨by omega, h2⟩
theorem pcB_fc {B : PM'} {W : Int32} {n : Nat} (h : ∀ i, i < 32 → (bt W i = true ↔ i < n ∧ B i = none)) : ∀ k, k ≤ 32 → pcB W k = fc B (min k n)
  | 0, _ => by rw [Nat.zero_min]; rfl
  | k + 1, hk => by
    have ih := pcB_fc h k (by omega)
    show pcB W k + (if bt W k = true then 1 else 0) = _
    rw [ih]
    rcases Nat.lt_or_ge k n with c | c
    · rw [Nat.min_eq_left (by omega), Nat.min_eq_left (by omega)]
      show _ = fc B k + (if B k = none then 1 else 0)
      by_cases e : B k = none
      · rw [if_pos e, if_pos ((h k (by omega)).mpr ⟨c, e⟩)]
      · rw [if_neg e, if_neg (fun z => e ((h k (by omega)).mp z).2)]
    · rw [Nat.min_eq_right c, Nat.min_eq_right (by omega), if_neg (fun z => by have := ((h k (by omega)).mp z).1; omega)]
      rfl
section GUESS
variable {tb : Nat → Nat × (Nat → Int32)} {d : Nat} {s : MM} {n : Nat}
theorem C_bitCount (h : AH) {W : Int32} (hW : ∀ i, 8 ≤ i → i < 32 → bt W i = false) : WM tb (d + 1) k_Integer_bitCount [vI W] h 0 0 (fun z h' => z = some (vI (nI (pcB W 8))) ∧ h' = h) := by
  obtain ⟨m, hm, rfl⟩ := small_of hW
  have hx : ∀ m, m < 256 → ∀ a, a = nI m - ((((nI m).toUInt32 >>> ((1 : Int32).toUInt32 &&& Int32.toUInt32 31)).toInt32) &&& 1431655765) → ∀ b, b = (a &&& 858993459) + (((a.toUInt32 >>> ((2 : Int32).toUInt32 &&& Int32.toUInt32 31)).toInt32) &&& 858993459) → ∀ c, c = (b + ((b.toUInt32 >>> ((4 : Int32).toUInt32 &&& Int32.toUInt32 31)).toInt32)) &&& 252645135 → ∀ e, e = c + ((c.toUInt32 >>> ((8 : Int32).toUInt32 &&& Int32.toUInt32 31)).toInt32) → ∀ f, f = e + ((e.toUInt32 >>> ((16 : Int32).toUInt32 &&& Int32.toUInt32 31)).toInt32) → f &&& 63 = nI (pcB (nI m) 8) := by
    have hx : ∀ m, m < 256 → (let a := nI m - ((((nI m).toUInt32 >>> ((1 : Int32).toUInt32 &&& Int32.toUInt32 31)).toInt32) &&& 1431655765); let b := (a &&& 858993459) + (((a.toUInt32 >>> ((2 : Int32).toUInt32 &&& Int32.toUInt32 31)).toInt32) &&& 858993459); let c := (b + ((b.toUInt32 >>> ((4 : Int32).toUInt32 &&& Int32.toUInt32 31)).toInt32)) &&& 252645135; let e := c + ((c.toUInt32 >>> ((8 : Int32).toUInt32 &&& Int32.toUInt32 31)).toInt32); let f := e + ((e.toUInt32 >>> ((16 : Int32).toUInt32 &&& Int32.toUInt32 31)).toInt32); f &&& 63 = nI (pcB (nI m) 8)) := by decide +kernel
    intro m hm a ha b hb c hc e he f hf
    subst ha; subst hb; subst hc; subst he; subst hf
    exact hx m hm
  refine WM.of mi_158 rfl rfl (Nat.le_of_ble_eq_true rfl) ?_
  show WP (mm_rw mr_158) (some .int) tb (WM tb d) _ 0 [(0, vI (nI m))] [] h 0 0
  (try simp only [Option.toList_some, Option.toList_none, List.nil_append, List.append_nil, List.cons_append, Nat.sub_zero, Nat.sub_self, Nat.zero_sub]); refine Go.wp sp_158 200 ?_; simp only [↓g158_0, ↓g158_1, ↓g158_2, ↓g158_3, ↓g158_4, ↓g158_7, ↓g158_8, ↓g158_9, ↓g158_10, ↓g158_11, ↓g158_14, ↓g158_15, ↓g158_16, ↓g158_17, ↓g158_18, ↓g158_21, ↓g158_22, ↓g158_23, ↓g158_24, ↓g158_25, ↓g158_26, ↓g158_27, ↓g158_28, ↓g158_29, ↓g158_32, ↓g158_33, ↓g158_34, ↓g158_35, ↓g158_36, ↓g158_38, ↓g158_39, ↓g158_40, ↓g158_41, ↓g158_42, ↓g158_43, ↓g158_45, ↓g158_46, ↓g158_47, ↓g158_48, ↓g158_49, ↓g158_51, ↓g158_52, ↓Go_s, ↓GoC_a, ↓reduceIte, ↓mm_call_eq, ↓mmw_nil, ↓mmw_cons, List.take_succ_cons, List.take_zero, List.take_nil, List.drop_succ_cons, List.drop_zero, List.drop_nil, List.reverse_cons, List.reverse_nil, List.nil_append, List.cons_append, List.append_nil, Option.toList_some, Option.toList_none, Nat.sub_zero, Nat.le_refl, mmr_cons, mm_st1, mm_st2, mmi_nil, mmi_cons, mmc_I, mmc_L, mmc_R, mmu_get, mmu_one, mma_get, mma_one, List.filter_cons, List.filter_nil, List.contains_cons, List.contains_nil, Nat.reduceBEq, Nat.reduceAdd, Nat.reduceLT, Nat.reduceSub, Nat.reduceLeDiff, Nat.reduceEqDiff, Int32.reduceAdd, Bool.not_true, Bool.not_false, Bool.and_true, Bool.true_and, Bool.and_false, Bool.false_and, Bool.or_false, Bool.false_or, Bool.or_true, Bool.true_or, if_true, if_false, ite_true, ite_false, Bool.false_eq_true, List.getElem?_cons_zero, List.getElem?_cons_succ, List.length_cons, List.length_nil, true_and, and_true, List.set_cons_zero, List.set_cons_succ, Fin.isValue, Fin.val_zero, Fin.val_one, Fin.val_two, Fin.reduceFinMk, Nat.zero_add, nu_fitI, nu_fitL, nu_fitO, nu_fitA, nu_fitB0, nu_fitB1]
  rw [hx m hm _ rfl _ rfl _ rfl _ rfl _ rfl]
theorem C_unsettled {B : PM'} {c : Nat} {f : Nat → Int32} (hn : s.2.1 27 6 = nI n) (hn8 : n ≤ 8) (hq : (HP s).2 c = some (cI 8 f)) (hf : ∀ q, q < n → f q = oI (B q)) (hB : ∀ q, q < n → ∀ b, B q = some b → b < 8) : WM tb (d + 1) k_Guess_unsettled [vR 27, vR c] (HP s) 0 0 (fun z h' => z = some (vI (frW B n)) ∧ h' = HP s) := by
  have key : ∀ r k, n = k + r → WP (mm_rw mr_17) (some .int) tb (WM tb d) (fun z h' => z = some (vI (frW B n)) ∧ h' = HP s) 4 [(0, vR 27), (1, vR c), (2, vI (frW B k)), (3, vI (nI k))] [] (HP s) 0 0 := by
    intro r
    induction r with
    | zero =>
      intro k hk
      have e : k = n := by omega
      subst e
      (try simp only [Option.toList_some, Option.toList_none, List.nil_append, List.append_nil, List.cons_append, Nat.sub_zero, Nat.sub_self, Nat.zero_sub]); refine Go.wp sp_17 200 ?_; simp only [↓g17_0, ↓g17_1, ↓g17_2, ↓g17_3, ↓g17_4, ↓g17_5, ↓g17_6, ↓g17_9, ↓g17_12, ↓g17_13, ↓g17_14, ↓g17_14t, ↓g17_15, ↓g17_17, ↓g17_20, ↓g17_21, ↓g17_22, ↓g17_23, ↓g17_24, ↓g17_25, ↓g17_26, ↓g17_29, ↓g17_32, ↓g17_33, ↓Go_s, ↓GoC_a, ↓reduceIte, ↓mm_call_eq, ↓mmw_nil, ↓mmw_cons, List.take_succ_cons, List.take_zero, List.take_nil, List.drop_succ_cons, List.drop_zero, List.drop_nil, List.reverse_cons, List.reverse_nil, List.nil_append, List.cons_append, List.append_nil, Option.toList_some, Option.toList_none, Nat.sub_zero, Nat.le_refl, mmr_cons, mm_st1, mm_st2, mmi_nil, mmi_cons, mmc_I, mmc_L, mmc_R, mmu_get, mmu_one, mma_get, mma_one, List.filter_cons, List.filter_nil, List.contains_cons, List.contains_nil, Nat.reduceBEq, Nat.reduceAdd, Nat.reduceLT, Nat.reduceSub, Nat.reduceLeDiff, Nat.reduceEqDiff, Int32.reduceAdd, Bool.not_true, Bool.not_false, Bool.and_true, Bool.true_and, Bool.and_false, Bool.false_and, Bool.or_false, Bool.false_or, Bool.or_true, Bool.true_or, if_true, if_false, ite_true, ite_false, Bool.false_eq_true, List.getElem?_cons_zero, List.getElem?_cons_succ, List.length_cons, List.length_nil, true_and, and_true, List.set_cons_zero, List.set_cons_succ, Fin.isValue, Fin.val_zero, Fin.val_one, Fin.val_two, Fin.reduceFinMk, Nat.zero_add, hp_0, hp_1, hp_2, hp_3, hp_4, hp_5, hp_6, hp_7, hp_8, hp_9, hp_10, hp_11, hp_12, hp_13, hp_14, hp_15, hp_16, hp_17, hp_18, hp_19, hp_20, hp_21, hp_22, hp_23, hp_24, hp_25, hp_26, hp_27, hp_28, hp_29, hp_30, hp_31, hp_32, hp_33, hp_34, hp_35, hp_36, hp_37, hp_38, hp_39, hp_40, hp_41, hp_42, hp_43, hp_44, hp_45, hp_46, hp_47, hp_48, hp_49, hp_50, hp_51, hp_52, hp_53, hp_54, hp_55, hp_56, hp_57, hp_58, hp_59, hp_60, hp_61, hp_62, hp_63, hp_64, hp_65, hp_66, hp_67, hp_68, hp_69, hp_70, hp_71, hp_72, hp_73, hp_74, og_0_0, og_0_1, og_0_2, og_0_3, og_0_4, og_0_5, og_0_6, og_0_7, og_0_8, og_0_9, og_0_10, og_0_11, og_0_12, og_0_13, ol_0, og_2_0, og_2_1, og_2_2, og_2_3, og_2_4, og_2_5, og_2_6, ol_2, og_3_0, og_3_1, ol_3, og_5_0, og_5_1, ol_5, og_9_0, og_9_1, og_9_2, og_9_3, og_9_4, og_9_5, og_9_6, ol_9, og_10_0, og_10_1, ol_10, og_12_0, og_12_1, ol_12, og_16_0, og_16_1, og_16_2, ol_16, og_17_0, og_17_1, ol_17, og_21_0, og_21_1, og_21_2, og_21_3, og_21_4, ol_21, og_27_0, og_27_1, og_27_2, og_27_3, og_27_4, og_27_5, og_27_6, og_27_7, og_27_8, og_27_9, og_27_10, ol_27, og_35_0, og_35_1, ol_35, og_37_0, og_37_1, ol_37, og_39_0, og_39_1, ol_39, og_41_0, og_41_1, ol_41, og_43_0, og_43_1, ol_43, og_45_0, og_45_1, ol_45, og_47_0, og_47_1, ol_47, og_49_0, og_49_1, og_49_2, og_49_3, ol_49, og_53_0, og_53_1, ol_53, og_55_0, og_55_1, ol_55, og_57_0, og_57_1, ol_57, og_59_0, og_59_1, ol_59, og_61_0, og_61_1, ol_61, og_63_0, og_63_1, ol_63, og_65_0, og_65_1, og_65_2, ol_65, og_66_0, og_66_1, ol_66, og_70_0, og_70_1, og_70_2, ol_70, og_71_0, og_71_1, ol_71, uo_0_1, uo_0_4, uo_0_8, ua_1, uo_2_0, uo_2_1, uo_2_2, uo_3_1, ua_4, uo_5_1, ua_6, ua_7, ua_8, uo_9_0, uo_9_1, uo_9_2, uo_10_1, ua_11, uo_12_1, ua_13, ua_14, ua_15, uo_17_1, ua_18, ua_19, ua_20, uo_21_4, ua_22, ua_23, ua_24, ua_25, uo_27_2, uo_27_6, uo_27_7, uo_27_8, ua_28, ua_29, ua_31, ua_32, ua_33, ua_34, uo_35_1, ua_36, uo_37_1, ua_38, uo_39_1, ua_40, uo_41_1, ua_42, uo_43_1, ua_44, uo_45_1, ua_46, uo_47_1, ua_48, uo_49_3, ua_51, ua_52, uo_53_1, ua_54, uo_55_1, ua_56, uo_57_1, ua_58, uo_59_1, ua_60, uo_61_1, ua_62, uo_63_1, ua_64, uo_66_1, ua_67, ua_68, ua_69, uo_71_1, ua_72, ua_73, ua_74, sO_g, sA_g, sA_O, sO_A, sO_2, sC_1, sC_2, sC_3, sC_4, sC_5, sC_6, sW_1, sW_2, sW_3, sW_4, uc_0, hn, nu_fitI, nu_fitL, nu_fitO, nu_fitA, nu_fitB0, nu_fitB1]
      exact ⟨fun _ => trivial, fun z => absurd (Int32.le_refl _) z⟩
    | succ r ih =>
      intro k hk
      have hcl : (nI k).toNatClampNeg = k := nI_clamp (by omega)
      have i1 := ih (k + 1) (by omega)
      have i2 : frW B (k + 1) = if B k = none then frW B k ||| ((1 : Int32) <<< (nI k &&& 31)) else frW B k := rfl
      rw [i2] at i1
      have hfk := hf k (by omega)
      cases hBk : B k with
      | none =>
        rw [hBk, if_pos rfl] at i1
        rw [hBk] at hfk
        (try simp only [Option.toList_some, Option.toList_none, List.nil_append, List.append_nil, List.cons_append, Nat.sub_zero, Nat.sub_self, Nat.zero_sub]); refine Go.wp sp_17 200 ?_; simp only [↓g17_0, ↓g17_1, ↓g17_2, ↓g17_3, ↓g17_4, ↓g17_5, ↓g17_6, ↓g17_9, ↓g17_12, ↓g17_13, ↓g17_14, ↓g17_14t, ↓g17_15, ↓g17_17, ↓g17_20, ↓g17_21, ↓g17_22, ↓g17_23, ↓g17_24, ↓g17_25, ↓g17_26, ↓g17_29, ↓g17_32, ↓g17_33, ↓Go_s, ↓GoC_a, ↓reduceIte, ↓mm_call_eq, ↓mmw_nil, ↓mmw_cons, List.take_succ_cons, List.take_zero, List.take_nil, List.drop_succ_cons, List.drop_zero, List.drop_nil, List.reverse_cons, List.reverse_nil, List.nil_append, List.cons_append, List.append_nil, Option.toList_some, Option.toList_none, Nat.sub_zero, Nat.le_refl, mmr_cons, mm_st1, mm_st2, mmi_nil, mmi_cons, mmc_I, mmc_L, mmc_R, mmu_get, mmu_one, mma_get, mma_one, List.filter_cons, List.filter_nil, List.contains_cons, List.contains_nil, Nat.reduceBEq, Nat.reduceAdd, Nat.reduceLT, Nat.reduceSub, Nat.reduceLeDiff, Nat.reduceEqDiff, Int32.reduceAdd, Bool.not_true, Bool.not_false, Bool.and_true, Bool.true_and, Bool.and_false, Bool.false_and, Bool.or_false, Bool.false_or, Bool.or_true, Bool.true_or, if_true, if_false, ite_true, ite_false, Bool.false_eq_true, List.getElem?_cons_zero, List.getElem?_cons_succ, List.length_cons, List.length_nil, true_and, and_true, List.set_cons_zero, List.set_cons_succ, Fin.isValue, Fin.val_zero, Fin.val_one, Fin.val_two, Fin.reduceFinMk, Nat.zero_add, hp_0, hp_1, hp_2, hp_3, hp_4, hp_5, hp_6, hp_7, hp_8, hp_9, hp_10, hp_11, hp_12, hp_13, hp_14, hp_15, hp_16, hp_17, hp_18, hp_19, hp_20, hp_21, hp_22, hp_23, hp_24, hp_25, hp_26, hp_27, hp_28, hp_29, hp_30, hp_31, hp_32, hp_33, hp_34, hp_35, hp_36, hp_37, hp_38, hp_39, hp_40, hp_41, hp_42, hp_43, hp_44, hp_45, hp_46, hp_47, hp_48, hp_49, hp_50, hp_51, hp_52, hp_53, hp_54, hp_55, hp_56, hp_57, hp_58, hp_59, hp_60, hp_61, hp_62, hp_63, hp_64, hp_65, hp_66, hp_67, hp_68, hp_69, hp_70, hp_71, hp_72, hp_73, hp_74, og_0_0, og_0_1, og_0_2, og_0_3, og_0_4, og_0_5, og_0_6, og_0_7, og_0_8, og_0_9, og_0_10, og_0_11, og_0_12, og_0_13, ol_0, og_2_0, og_2_1, og_2_2, og_2_3, og_2_4, og_2_5, og_2_6, ol_2, og_3_0, og_3_1, ol_3, og_5_0, og_5_1, ol_5, og_9_0, og_9_1, og_9_2, og_9_3, og_9_4, og_9_5, og_9_6, ol_9, og_10_0, og_10_1, ol_10, og_12_0, og_12_1, ol_12, og_16_0, og_16_1, og_16_2, ol_16, og_17_0, og_17_1, ol_17, og_21_0, og_21_1, og_21_2, og_21_3, og_21_4, ol_21, og_27_0, og_27_1, og_27_2, og_27_3, og_27_4, og_27_5, og_27_6, og_27_7, og_27_8, og_27_9, og_27_10, ol_27, og_35_0, og_35_1, ol_35, og_37_0, og_37_1, ol_37, og_39_0, og_39_1, ol_39, og_41_0, og_41_1, ol_41, og_43_0, og_43_1, ol_43, og_45_0, og_45_1, ol_45, og_47_0, og_47_1, ol_47, og_49_0, og_49_1, og_49_2, og_49_3, ol_49, og_53_0, og_53_1, ol_53, og_55_0, og_55_1, ol_55, og_57_0, og_57_1, ol_57, og_59_0, og_59_1, ol_59, og_61_0, og_61_1, ol_61, og_63_0, og_63_1, ol_63, og_65_0, og_65_1, og_65_2, ol_65, og_66_0, og_66_1, ol_66, og_70_0, og_70_1, og_70_2, ol_70, og_71_0, og_71_1, ol_71, uo_0_1, uo_0_4, uo_0_8, ua_1, uo_2_0, uo_2_1, uo_2_2, uo_3_1, ua_4, uo_5_1, ua_6, ua_7, ua_8, uo_9_0, uo_9_1, uo_9_2, uo_10_1, ua_11, uo_12_1, ua_13, ua_14, ua_15, uo_17_1, ua_18, ua_19, ua_20, uo_21_4, ua_22, ua_23, ua_24, ua_25, uo_27_2, uo_27_6, uo_27_7, uo_27_8, ua_28, ua_29, ua_31, ua_32, ua_33, ua_34, uo_35_1, ua_36, uo_37_1, ua_38, uo_39_1, ua_40, uo_41_1, ua_42, uo_43_1, ua_44, uo_45_1, ua_46, uo_47_1, ua_48, uo_49_3, ua_51, ua_52, uo_53_1, ua_54, uo_55_1, ua_56, uo_57_1, ua_58, uo_59_1, ua_60, uo_61_1, ua_62, uo_63_1, ua_64, uo_66_1, ua_67, ua_68, ua_69, uo_71_1, ua_72, ua_73, ua_74, sO_g, sA_g, sA_O, sO_A, sO_2, sC_1, sC_2, sC_3, sC_4, sC_5, sC_6, sW_1, sW_2, sW_3, sW_4, uc_0, hn, hq, hcl, hfk, oI_no, nI_1, nu_fitI, nu_fitL, nu_fitO, nu_fitA, nu_fitB0, nu_fitB1]
        exact ⟨fun z => absurd z (nI_ge (show k < n by omega) (by omega)), fun _ => ⟨vp_in_nI (by omega) (by omega), fun z => absurd trivial z, fun _ => i1⟩⟩
      | some y =>
        rw [hBk, if_neg (by simp)] at i1
        rw [hBk] at hfk
        have hy := hB k (by omega) y hBk
        (try simp only [Option.toList_some, Option.toList_none, List.nil_append, List.append_nil, List.cons_append, Nat.sub_zero, Nat.sub_self, Nat.zero_sub]); refine Go.wp sp_17 200 ?_; simp only [↓g17_0, ↓g17_1, ↓g17_2, ↓g17_3, ↓g17_4, ↓g17_5, ↓g17_6, ↓g17_9, ↓g17_12, ↓g17_13, ↓g17_14, ↓g17_14t, ↓g17_15, ↓g17_17, ↓g17_20, ↓g17_21, ↓g17_22, ↓g17_23, ↓g17_24, ↓g17_25, ↓g17_26, ↓g17_29, ↓g17_32, ↓g17_33, ↓Go_s, ↓GoC_a, ↓reduceIte, ↓mm_call_eq, ↓mmw_nil, ↓mmw_cons, List.take_succ_cons, List.take_zero, List.take_nil, List.drop_succ_cons, List.drop_zero, List.drop_nil, List.reverse_cons, List.reverse_nil, List.nil_append, List.cons_append, List.append_nil, Option.toList_some, Option.toList_none, Nat.sub_zero, Nat.le_refl, mmr_cons, mm_st1, mm_st2, mmi_nil, mmi_cons, mmc_I, mmc_L, mmc_R, mmu_get, mmu_one, mma_get, mma_one, List.filter_cons, List.filter_nil, List.contains_cons, List.contains_nil, Nat.reduceBEq, Nat.reduceAdd, Nat.reduceLT, Nat.reduceSub, Nat.reduceLeDiff, Nat.reduceEqDiff, Int32.reduceAdd, Bool.not_true, Bool.not_false, Bool.and_true, Bool.true_and, Bool.and_false, Bool.false_and, Bool.or_false, Bool.false_or, Bool.or_true, Bool.true_or, if_true, if_false, ite_true, ite_false, Bool.false_eq_true, List.getElem?_cons_zero, List.getElem?_cons_succ, List.length_cons, List.length_nil, true_and, and_true, List.set_cons_zero, List.set_cons_succ, Fin.isValue, Fin.val_zero, Fin.val_one, Fin.val_two, Fin.reduceFinMk, Nat.zero_add, hp_0, hp_1, hp_2, hp_3, hp_4, hp_5, hp_6, hp_7, hp_8, hp_9, hp_10, hp_11, hp_12, hp_13, hp_14, hp_15, hp_16, hp_17, hp_18, hp_19, hp_20, hp_21, hp_22, hp_23, hp_24, hp_25, hp_26, hp_27, hp_28, hp_29, hp_30, hp_31, hp_32, hp_33, hp_34, hp_35, hp_36, hp_37, hp_38, hp_39, hp_40, hp_41, hp_42, hp_43, hp_44, hp_45, hp_46, hp_47, hp_48, hp_49, hp_50, hp_51, hp_52, hp_53, hp_54, hp_55, hp_56, hp_57, hp_58, hp_59, hp_60, hp_61, hp_62, hp_63, hp_64, hp_65, hp_66, hp_67, hp_68, hp_69, hp_70, hp_71, hp_72, hp_73, hp_74, og_0_0, og_0_1, og_0_2, og_0_3, og_0_4, og_0_5, og_0_6, og_0_7, og_0_8, og_0_9, og_0_10, og_0_11, og_0_12, og_0_13, ol_0, og_2_0, og_2_1, og_2_2, og_2_3, og_2_4, og_2_5, og_2_6, ol_2, og_3_0, og_3_1, ol_3, og_5_0, og_5_1, ol_5, og_9_0, og_9_1, og_9_2, og_9_3, og_9_4, og_9_5, og_9_6, ol_9, og_10_0, og_10_1, ol_10, og_12_0, og_12_1, ol_12, og_16_0, og_16_1, og_16_2, ol_16, og_17_0, og_17_1, ol_17, og_21_0, og_21_1, og_21_2, og_21_3, og_21_4, ol_21, og_27_0, og_27_1, og_27_2, og_27_3, og_27_4, og_27_5, og_27_6, og_27_7, og_27_8, og_27_9, og_27_10, ol_27, og_35_0, og_35_1, ol_35, og_37_0, og_37_1, ol_37, og_39_0, og_39_1, ol_39, og_41_0, og_41_1, ol_41, og_43_0, og_43_1, ol_43, og_45_0, og_45_1, ol_45, og_47_0, og_47_1, ol_47, og_49_0, og_49_1, og_49_2, og_49_3, ol_49, og_53_0, og_53_1, ol_53, og_55_0, og_55_1, ol_55, og_57_0, og_57_1, ol_57, og_59_0, og_59_1, ol_59, og_61_0, og_61_1, ol_61, og_63_0, og_63_1, ol_63, og_65_0, og_65_1, og_65_2, ol_65, og_66_0, og_66_1, ol_66, og_70_0, og_70_1, og_70_2, ol_70, og_71_0, og_71_1, ol_71, uo_0_1, uo_0_4, uo_0_8, ua_1, uo_2_0, uo_2_1, uo_2_2, uo_3_1, ua_4, uo_5_1, ua_6, ua_7, ua_8, uo_9_0, uo_9_1, uo_9_2, uo_10_1, ua_11, uo_12_1, ua_13, ua_14, ua_15, uo_17_1, ua_18, ua_19, ua_20, uo_21_4, ua_22, ua_23, ua_24, ua_25, uo_27_2, uo_27_6, uo_27_7, uo_27_8, ua_28, ua_29, ua_31, ua_32, ua_33, ua_34, uo_35_1, ua_36, uo_37_1, ua_38, uo_39_1, ua_40, uo_41_1, ua_42, uo_43_1, ua_44, uo_45_1, ua_46, uo_47_1, ua_48, uo_49_3, ua_51, ua_52, uo_53_1, ua_54, uo_55_1, ua_56, uo_57_1, ua_58, uo_59_1, ua_60, uo_61_1, ua_62, uo_63_1, ua_64, uo_66_1, ua_67, ua_68, ua_69, uo_71_1, ua_72, ua_73, ua_74, sO_g, sA_g, sA_O, sO_A, sO_2, sC_1, sC_2, sC_3, sC_4, sC_5, sC_6, sW_1, sW_2, sW_3, sW_4, uc_0, hn, hq, hcl, hfk, oI_so, nI_1, nu_fitI, nu_fitL, nu_fitO, nu_fitA, nu_fitB0, nu_fitB1]
        exact ⟨fun z => absurd z (nI_ge (show k < n by omega) (by omega)), fun _ => ⟨vp_in_nI (by omega) (by omega), fun _ => i1, fun z => absurd z (ne9 (by omega))⟩⟩
  refine WM.of mi_17 rfl rfl (Nat.le_of_ble_eq_true rfl) ?_
  show WP (mm_rw mr_17) (some .int) tb (WM tb d) _ 0 [(0, vR 27), (1, vR c)] [] (HP s) 0 0
  (try simp only [Option.toList_some, Option.toList_none, List.nil_append, List.append_nil, List.cons_append, Nat.sub_zero, Nat.sub_self, Nat.zero_sub]); refine Go.wp sp_17 200 ?_; simp only [↓g17_0, ↓g17_1, ↓g17_2, ↓g17_3, ↓g17_4, ↓g17_5, ↓g17_6, ↓g17_9, ↓g17_12, ↓g17_13, ↓g17_14, ↓g17_14t, ↓g17_15, ↓g17_17, ↓g17_20, ↓g17_21, ↓g17_22, ↓g17_23, ↓g17_24, ↓g17_25, ↓g17_26, ↓g17_29, ↓g17_32, ↓g17_33, ↓Go_s, ↓GoC_a, ↓reduceIte, ↓mm_call_eq, ↓mmw_nil, ↓mmw_cons, List.take_succ_cons, List.take_zero, List.take_nil, List.drop_succ_cons, List.drop_zero, List.drop_nil, List.reverse_cons, List.reverse_nil, List.nil_append, List.cons_append, List.append_nil, Option.toList_some, Option.toList_none, Nat.sub_zero, Nat.le_refl, mmr_cons, mm_st1, mm_st2, mmi_nil, mmi_cons, mmc_I, mmc_L, mmc_R, mmu_get, mmu_one, mma_get, mma_one, List.filter_cons, List.filter_nil, List.contains_cons, List.contains_nil, Nat.reduceBEq, Nat.reduceAdd, Nat.reduceLT, Nat.reduceSub, Nat.reduceLeDiff, Nat.reduceEqDiff, Int32.reduceAdd, Bool.not_true, Bool.not_false, Bool.and_true, Bool.true_and, Bool.and_false, Bool.false_and, Bool.or_false, Bool.false_or, Bool.or_true, Bool.true_or, if_true, if_false, ite_true, ite_false, Bool.false_eq_true, List.getElem?_cons_zero, List.getElem?_cons_succ, List.length_cons, List.length_nil, true_and, and_true, List.set_cons_zero, List.set_cons_succ, Fin.isValue, Fin.val_zero, Fin.val_one, Fin.val_two, Fin.reduceFinMk, Nat.zero_add, hp_0, hp_1, hp_2, hp_3, hp_4, hp_5, hp_6, hp_7, hp_8, hp_9, hp_10, hp_11, hp_12, hp_13, hp_14, hp_15, hp_16, hp_17, hp_18, hp_19, hp_20, hp_21, hp_22, hp_23, hp_24, hp_25, hp_26, hp_27, hp_28, hp_29, hp_30, hp_31, hp_32, hp_33, hp_34, hp_35, hp_36, hp_37, hp_38, hp_39, hp_40, hp_41, hp_42, hp_43, hp_44, hp_45, hp_46, hp_47, hp_48, hp_49, hp_50, hp_51, hp_52, hp_53, hp_54, hp_55, hp_56, hp_57, hp_58, hp_59, hp_60, hp_61, hp_62, hp_63, hp_64, hp_65, hp_66, hp_67, hp_68, hp_69, hp_70, hp_71, hp_72, hp_73, hp_74, og_0_0, og_0_1, og_0_2, og_0_3, og_0_4, og_0_5, og_0_6, og_0_7, og_0_8, og_0_9, og_0_10, og_0_11, og_0_12, og_0_13, ol_0, og_2_0, og_2_1, og_2_2, og_2_3, og_2_4, og_2_5, og_2_6, ol_2, og_3_0, og_3_1, ol_3, og_5_0, og_5_1, ol_5, og_9_0, og_9_1, og_9_2, og_9_3, og_9_4, og_9_5, og_9_6, ol_9, og_10_0, og_10_1, ol_10, og_12_0, og_12_1, ol_12, og_16_0, og_16_1, og_16_2, ol_16, og_17_0, og_17_1, ol_17, og_21_0, og_21_1, og_21_2, og_21_3, og_21_4, ol_21, og_27_0, og_27_1, og_27_2, og_27_3, og_27_4, og_27_5, og_27_6, og_27_7, og_27_8, og_27_9, og_27_10, ol_27, og_35_0, og_35_1, ol_35, og_37_0, og_37_1, ol_37, og_39_0, og_39_1, ol_39, og_41_0, og_41_1, ol_41, og_43_0, og_43_1, ol_43, og_45_0, og_45_1, ol_45, og_47_0, og_47_1, ol_47, og_49_0, og_49_1, og_49_2, og_49_3, ol_49, og_53_0, og_53_1, ol_53, og_55_0, og_55_1, ol_55, og_57_0, og_57_1, ol_57, og_59_0, og_59_1, ol_59, og_61_0, og_61_1, ol_61, og_63_0, og_63_1, ol_63, og_65_0, og_65_1, og_65_2, ol_65, og_66_0, og_66_1, ol_66, og_70_0, og_70_1, og_70_2, ol_70, og_71_0, og_71_1, ol_71, uo_0_1, uo_0_4, uo_0_8, ua_1, uo_2_0, uo_2_1, uo_2_2, uo_3_1, ua_4, uo_5_1, ua_6, ua_7, ua_8, uo_9_0, uo_9_1, uo_9_2, uo_10_1, ua_11, uo_12_1, ua_13, ua_14, ua_15, uo_17_1, ua_18, ua_19, ua_20, uo_21_4, ua_22, ua_23, ua_24, ua_25, uo_27_2, uo_27_6, uo_27_7, uo_27_8, ua_28, ua_29, ua_31, ua_32, ua_33, ua_34, uo_35_1, ua_36, uo_37_1, ua_38, uo_39_1, ua_40, uo_41_1, ua_42, uo_43_1, ua_44, uo_45_1, ua_46, uo_47_1, ua_48, uo_49_3, ua_51, ua_52, uo_53_1, ua_54, uo_55_1, ua_56, uo_57_1, ua_58, uo_59_1, ua_60, uo_61_1, ua_62, uo_63_1, ua_64, uo_66_1, ua_67, ua_68, ua_69, uo_71_1, ua_72, ua_73, ua_74, sO_g, sA_g, sA_O, sO_A, sO_2, sC_1, sC_2, sC_3, sC_4, sC_5, sC_6, sW_1, sW_2, sW_3, sW_4, uc_0, nu_fitI, nu_fitL, nu_fitO, nu_fitA, nu_fitB0, nu_fitB1]
  exact key n 0 (by omega)
theorem C_addMay (hn : s.2.1 27 6 = nI n) (hn8 : n ≤ 8) (WL WR : Int32) : WM tb (d + 1) k_Guess_addMayBeGiven [vR 27, vI WL, vI WR] (HP s) 0 0 (fun z h' => z = none ∧ ∃ f, h' = HP (sA s 34 f) ∧ ∀ b, b < n → ∀ r, r < 32 → (bt (f b) r = true ↔ bt (s.1 34 b) r = true ∨ (bt WL b = true ∧ bt WR r = true ∧ r ≠ b))) := by
  have key : ∀ r k g, n = k + r → (∀ b, b < k → ∀ r, r < 32 → (bt (g b) r = true ↔ bt (s.1 34 b) r = true ∨ (bt WL b = true ∧ bt WR r = true ∧ r ≠ b))) → (∀ b, k ≤ b → g b = s.1 34 b) → WP (mm_rw mr_18) none tb (WM tb d) (fun z h' => z = none ∧ ∃ f, h' = HP (sA s 34 f) ∧ ∀ b, b < n → ∀ r, r < 32 → (bt (f b) r = true ↔ bt (s.1 34 b) r = true ∨ (bt WL b = true ∧ bt WR r = true ∧ r ≠ b))) 2 [(0, vR 27), (1, vI WL), (2, vI WR), (3, vI (nI k))] [] (HP (sA s 34 g)) 0 0 := by
    intro r
    induction r with
    | zero =>
      intro k g hk h1 h2
      have e : k = n := by omega
      subst e
      (try simp only [Option.toList_some, Option.toList_none, List.nil_append, List.append_nil, List.cons_append, Nat.sub_zero, Nat.sub_self, Nat.zero_sub]); refine Go.wp sp_18 200 ?_; simp only [↓g18_0, ↓g18_1, ↓g18_2, ↓g18_3, ↓g18_4, ↓g18_7, ↓g18_10, ↓g18_11, ↓g18_12, ↓g18_13, ↓g18_14, ↓g18_15, ↓g18_18, ↓g18_19, ↓g18_22, ↓g18_23, ↓g18_24, ↓g18_24t, ↓g18_25, ↓g18_26, ↓g18_27, ↓g18_28, ↓g18_29, ↓g18_30, ↓g18_31, ↓g18_32, ↓g18_33, ↓g18_34, ↓g18_37, ↓g18_40, ↓Go_s, ↓GoC_a, ↓reduceIte, ↓mm_call_eq, ↓mmw_nil, ↓mmw_cons, List.take_succ_cons, List.take_zero, List.take_nil, List.drop_succ_cons, List.drop_zero, List.drop_nil, List.reverse_cons, List.reverse_nil, List.nil_append, List.cons_append, List.append_nil, Option.toList_some, Option.toList_none, Nat.sub_zero, Nat.le_refl, mmr_cons, mm_st1, mm_st2, mmi_nil, mmi_cons, mmc_I, mmc_L, mmc_R, mmu_get, mmu_one, mma_get, mma_one, List.filter_cons, List.filter_nil, List.contains_cons, List.contains_nil, Nat.reduceBEq, Nat.reduceAdd, Nat.reduceLT, Nat.reduceSub, Nat.reduceLeDiff, Nat.reduceEqDiff, Int32.reduceAdd, Bool.not_true, Bool.not_false, Bool.and_true, Bool.true_and, Bool.and_false, Bool.false_and, Bool.or_false, Bool.false_or, Bool.or_true, Bool.true_or, if_true, if_false, ite_true, ite_false, Bool.false_eq_true, List.getElem?_cons_zero, List.getElem?_cons_succ, List.length_cons, List.length_nil, true_and, and_true, List.set_cons_zero, List.set_cons_succ, Fin.isValue, Fin.val_zero, Fin.val_one, Fin.val_two, Fin.reduceFinMk, Nat.zero_add, hp_0, hp_1, hp_2, hp_3, hp_4, hp_5, hp_6, hp_7, hp_8, hp_9, hp_10, hp_11, hp_12, hp_13, hp_14, hp_15, hp_16, hp_17, hp_18, hp_19, hp_20, hp_21, hp_22, hp_23, hp_24, hp_25, hp_26, hp_27, hp_28, hp_29, hp_30, hp_31, hp_32, hp_33, hp_34, hp_35, hp_36, hp_37, hp_38, hp_39, hp_40, hp_41, hp_42, hp_43, hp_44, hp_45, hp_46, hp_47, hp_48, hp_49, hp_50, hp_51, hp_52, hp_53, hp_54, hp_55, hp_56, hp_57, hp_58, hp_59, hp_60, hp_61, hp_62, hp_63, hp_64, hp_65, hp_66, hp_67, hp_68, hp_69, hp_70, hp_71, hp_72, hp_73, hp_74, og_0_0, og_0_1, og_0_2, og_0_3, og_0_4, og_0_5, og_0_6, og_0_7, og_0_8, og_0_9, og_0_10, og_0_11, og_0_12, og_0_13, ol_0, og_2_0, og_2_1, og_2_2, og_2_3, og_2_4, og_2_5, og_2_6, ol_2, og_3_0, og_3_1, ol_3, og_5_0, og_5_1, ol_5, og_9_0, og_9_1, og_9_2, og_9_3, og_9_4, og_9_5, og_9_6, ol_9, og_10_0, og_10_1, ol_10, og_12_0, og_12_1, ol_12, og_16_0, og_16_1, og_16_2, ol_16, og_17_0, og_17_1, ol_17, og_21_0, og_21_1, og_21_2, og_21_3, og_21_4, ol_21, og_27_0, og_27_1, og_27_2, og_27_3, og_27_4, og_27_5, og_27_6, og_27_7, og_27_8, og_27_9, og_27_10, ol_27, og_35_0, og_35_1, ol_35, og_37_0, og_37_1, ol_37, og_39_0, og_39_1, ol_39, og_41_0, og_41_1, ol_41, og_43_0, og_43_1, ol_43, og_45_0, og_45_1, ol_45, og_47_0, og_47_1, ol_47, og_49_0, og_49_1, og_49_2, og_49_3, ol_49, og_53_0, og_53_1, ol_53, og_55_0, og_55_1, ol_55, og_57_0, og_57_1, ol_57, og_59_0, og_59_1, ol_59, og_61_0, og_61_1, ol_61, og_63_0, og_63_1, ol_63, og_65_0, og_65_1, og_65_2, ol_65, og_66_0, og_66_1, ol_66, og_70_0, og_70_1, og_70_2, ol_70, og_71_0, og_71_1, ol_71, uo_0_1, uo_0_4, uo_0_8, ua_1, uo_2_0, uo_2_1, uo_2_2, uo_3_1, ua_4, uo_5_1, ua_6, ua_7, ua_8, uo_9_0, uo_9_1, uo_9_2, uo_10_1, ua_11, uo_12_1, ua_13, ua_14, ua_15, uo_17_1, ua_18, ua_19, ua_20, uo_21_4, ua_22, ua_23, ua_24, ua_25, uo_27_2, uo_27_6, uo_27_7, uo_27_8, ua_28, ua_29, ua_31, ua_32, ua_33, ua_34, uo_35_1, ua_36, uo_37_1, ua_38, uo_39_1, ua_40, uo_41_1, ua_42, uo_43_1, ua_44, uo_45_1, ua_46, uo_47_1, ua_48, uo_49_3, ua_51, ua_52, uo_53_1, ua_54, uo_55_1, ua_56, uo_57_1, ua_58, uo_59_1, ua_60, uo_61_1, ua_62, uo_63_1, ua_64, uo_66_1, ua_67, ua_68, ua_69, uo_71_1, ua_72, ua_73, ua_74, sO_g, sA_g, sA_O, sO_A, sO_2, sC_1, sC_2, sC_3, sC_4, sC_5, sC_6, sW_1, sW_2, sW_3, sW_4, uc_0, hn, nu_fitI, nu_fitL, nu_fitO, nu_fitA, nu_fitB0, nu_fitB1]
      exact ⟨fun _ => ⟨g, rfl, h1⟩, fun z => absurd (Int32.le_refl _) z⟩
    | succ r ih =>
      intro k g hk h1 h2
      have hcl : (nI k).toNatClampNeg = k := nI_clamp (by omega)
      have hbit := bit_of (x := WL) (show k < 31 by omega)
      have hlt : ¬ nI n ≤ nI k := nI_ge (show k < n by omega) (by omega)
      by_cases c : bt WL k = true
      · rw [if_pos c] at hbit
        (try simp only [Option.toList_some, Option.toList_none, List.nil_append, List.append_nil, List.cons_append, Nat.sub_zero, Nat.sub_self, Nat.zero_sub]); refine Go.wp sp_18 200 ?_; simp only [↓g18_0, ↓g18_1, ↓g18_2, ↓g18_3, ↓g18_4, ↓g18_7, ↓g18_10, ↓g18_11, ↓g18_12, ↓g18_13, ↓g18_14, ↓g18_15, ↓g18_18, ↓g18_19, ↓g18_22, ↓g18_23, ↓g18_24, ↓g18_24t, ↓g18_25, ↓g18_26, ↓g18_27, ↓g18_28, ↓g18_29, ↓g18_30, ↓g18_31, ↓g18_32, ↓g18_33, ↓g18_34, ↓g18_37, ↓g18_40, ↓Go_s, ↓GoC_a, ↓reduceIte, ↓mm_call_eq, ↓mmw_nil, ↓mmw_cons, List.take_succ_cons, List.take_zero, List.take_nil, List.drop_succ_cons, List.drop_zero, List.drop_nil, List.reverse_cons, List.reverse_nil, List.nil_append, List.cons_append, List.append_nil, Option.toList_some, Option.toList_none, Nat.sub_zero, Nat.le_refl, mmr_cons, mm_st1, mm_st2, mmi_nil, mmi_cons, mmc_I, mmc_L, mmc_R, mmu_get, mmu_one, mma_get, mma_one, List.filter_cons, List.filter_nil, List.contains_cons, List.contains_nil, Nat.reduceBEq, Nat.reduceAdd, Nat.reduceLT, Nat.reduceSub, Nat.reduceLeDiff, Nat.reduceEqDiff, Int32.reduceAdd, Bool.not_true, Bool.not_false, Bool.and_true, Bool.true_and, Bool.and_false, Bool.false_and, Bool.or_false, Bool.false_or, Bool.or_true, Bool.true_or, if_true, if_false, ite_true, ite_false, Bool.false_eq_true, List.getElem?_cons_zero, List.getElem?_cons_succ, List.length_cons, List.length_nil, true_and, and_true, List.set_cons_zero, List.set_cons_succ, Fin.isValue, Fin.val_zero, Fin.val_one, Fin.val_two, Fin.reduceFinMk, Nat.zero_add, hp_0, hp_1, hp_2, hp_3, hp_4, hp_5, hp_6, hp_7, hp_8, hp_9, hp_10, hp_11, hp_12, hp_13, hp_14, hp_15, hp_16, hp_17, hp_18, hp_19, hp_20, hp_21, hp_22, hp_23, hp_24, hp_25, hp_26, hp_27, hp_28, hp_29, hp_30, hp_31, hp_32, hp_33, hp_34, hp_35, hp_36, hp_37, hp_38, hp_39, hp_40, hp_41, hp_42, hp_43, hp_44, hp_45, hp_46, hp_47, hp_48, hp_49, hp_50, hp_51, hp_52, hp_53, hp_54, hp_55, hp_56, hp_57, hp_58, hp_59, hp_60, hp_61, hp_62, hp_63, hp_64, hp_65, hp_66, hp_67, hp_68, hp_69, hp_70, hp_71, hp_72, hp_73, hp_74, og_0_0, og_0_1, og_0_2, og_0_3, og_0_4, og_0_5, og_0_6, og_0_7, og_0_8, og_0_9, og_0_10, og_0_11, og_0_12, og_0_13, ol_0, og_2_0, og_2_1, og_2_2, og_2_3, og_2_4, og_2_5, og_2_6, ol_2, og_3_0, og_3_1, ol_3, og_5_0, og_5_1, ol_5, og_9_0, og_9_1, og_9_2, og_9_3, og_9_4, og_9_5, og_9_6, ol_9, og_10_0, og_10_1, ol_10, og_12_0, og_12_1, ol_12, og_16_0, og_16_1, og_16_2, ol_16, og_17_0, og_17_1, ol_17, og_21_0, og_21_1, og_21_2, og_21_3, og_21_4, ol_21, og_27_0, og_27_1, og_27_2, og_27_3, og_27_4, og_27_5, og_27_6, og_27_7, og_27_8, og_27_9, og_27_10, ol_27, og_35_0, og_35_1, ol_35, og_37_0, og_37_1, ol_37, og_39_0, og_39_1, ol_39, og_41_0, og_41_1, ol_41, og_43_0, og_43_1, ol_43, og_45_0, og_45_1, ol_45, og_47_0, og_47_1, ol_47, og_49_0, og_49_1, og_49_2, og_49_3, ol_49, og_53_0, og_53_1, ol_53, og_55_0, og_55_1, ol_55, og_57_0, og_57_1, ol_57, og_59_0, og_59_1, ol_59, og_61_0, og_61_1, ol_61, og_63_0, og_63_1, ol_63, og_65_0, og_65_1, og_65_2, ol_65, og_66_0, og_66_1, ol_66, og_70_0, og_70_1, og_70_2, ol_70, og_71_0, og_71_1, ol_71, uo_0_1, uo_0_4, uo_0_8, ua_1, uo_2_0, uo_2_1, uo_2_2, uo_3_1, ua_4, uo_5_1, ua_6, ua_7, ua_8, uo_9_0, uo_9_1, uo_9_2, uo_10_1, ua_11, uo_12_1, ua_13, ua_14, ua_15, uo_17_1, ua_18, ua_19, ua_20, uo_21_4, ua_22, ua_23, ua_24, ua_25, uo_27_2, uo_27_6, uo_27_7, uo_27_8, ua_28, ua_29, ua_31, ua_32, ua_33, ua_34, uo_35_1, ua_36, uo_37_1, ua_38, uo_39_1, ua_40, uo_41_1, ua_42, uo_43_1, ua_44, uo_45_1, ua_46, uo_47_1, ua_48, uo_49_3, ua_51, ua_52, uo_53_1, ua_54, uo_55_1, ua_56, uo_57_1, ua_58, uo_59_1, ua_60, uo_61_1, ua_62, uo_63_1, ua_64, uo_66_1, ua_67, ua_68, ua_69, uo_71_1, ua_72, ua_73, ua_74, sO_g, sA_g, sA_O, sO_A, sO_2, sC_1, sC_2, sC_3, sC_4, sC_5, sC_6, sW_1, sW_2, sW_3, sW_4, uc_0, hn, hbit, hcl, nI_1, nu_fitI, nu_fitL, nu_fitO, nu_fitA, nu_fitB0, nu_fitB1]
        rw [sA_sA]
        refine ⟨fun z => absurd z hlt, fun _ => ⟨fun z => absurd z (by decide), fun _ => ⟨vp_in_nI (by omega) (by omega), vp_in_nI (by omega) (by omega), ih (k + 1) _ (by omega) (fun b hb r hr => ?_) (fun b hb => ?_)⟩⟩⟩
        · unfold upd
          by_cases e : b = k
          · have hm1 : bt (mI 1) r = true := b_m1 r hr
            rw [if_pos e, e, h2 k (Nat.le_refl _), b_or, Bool.or_eq_true, b_and, b_xor, bt_sh (by omega) hr, hm1]
            refine or_congr Iff.rfl ?_
            rw [Bool.and_eq_true]
            constructor
            · rintro ⟨z1, z2⟩
              refine ⟨c, z1, fun z => ?_⟩
              rw [decide_eq_true z] at z2
              exact absurd z2 (by decide)
            · rintro ⟨_, z1, z2⟩
              refine ⟨z1, ?_⟩
              rw [decide_eq_false z2]
              rfl
          · rw [if_neg e]
            exact h1 b (by omega) r hr
        · unfold upd
          rw [if_neg (by omega)]
          exact h2 b (by omega)
      · rw [if_neg c] at hbit
        (try simp only [Option.toList_some, Option.toList_none, List.nil_append, List.append_nil, List.cons_append, Nat.sub_zero, Nat.sub_self, Nat.zero_sub]); refine Go.wp sp_18 200 ?_; simp only [↓g18_0, ↓g18_1, ↓g18_2, ↓g18_3, ↓g18_4, ↓g18_7, ↓g18_10, ↓g18_11, ↓g18_12, ↓g18_13, ↓g18_14, ↓g18_15, ↓g18_18, ↓g18_19, ↓g18_22, ↓g18_23, ↓g18_24, ↓g18_24t, ↓g18_25, ↓g18_26, ↓g18_27, ↓g18_28, ↓g18_29, ↓g18_30, ↓g18_31, ↓g18_32, ↓g18_33, ↓g18_34, ↓g18_37, ↓g18_40, ↓Go_s, ↓GoC_a, ↓reduceIte, ↓mm_call_eq, ↓mmw_nil, ↓mmw_cons, List.take_succ_cons, List.take_zero, List.take_nil, List.drop_succ_cons, List.drop_zero, List.drop_nil, List.reverse_cons, List.reverse_nil, List.nil_append, List.cons_append, List.append_nil, Option.toList_some, Option.toList_none, Nat.sub_zero, Nat.le_refl, mmr_cons, mm_st1, mm_st2, mmi_nil, mmi_cons, mmc_I, mmc_L, mmc_R, mmu_get, mmu_one, mma_get, mma_one, List.filter_cons, List.filter_nil, List.contains_cons, List.contains_nil, Nat.reduceBEq, Nat.reduceAdd, Nat.reduceLT, Nat.reduceSub, Nat.reduceLeDiff, Nat.reduceEqDiff, Int32.reduceAdd, Bool.not_true, Bool.not_false, Bool.and_true, Bool.true_and, Bool.and_false, Bool.false_and, Bool.or_false, Bool.false_or, Bool.or_true, Bool.true_or, if_true, if_false, ite_true, ite_false, Bool.false_eq_true, List.getElem?_cons_zero, List.getElem?_cons_succ, List.length_cons, List.length_nil, true_and, and_true, List.set_cons_zero, List.set_cons_succ, Fin.isValue, Fin.val_zero, Fin.val_one, Fin.val_two, Fin.reduceFinMk, Nat.zero_add, hp_0, hp_1, hp_2, hp_3, hp_4, hp_5, hp_6, hp_7, hp_8, hp_9, hp_10, hp_11, hp_12, hp_13, hp_14, hp_15, hp_16, hp_17, hp_18, hp_19, hp_20, hp_21, hp_22, hp_23, hp_24, hp_25, hp_26, hp_27, hp_28, hp_29, hp_30, hp_31, hp_32, hp_33, hp_34, hp_35, hp_36, hp_37, hp_38, hp_39, hp_40, hp_41, hp_42, hp_43, hp_44, hp_45, hp_46, hp_47, hp_48, hp_49, hp_50, hp_51, hp_52, hp_53, hp_54, hp_55, hp_56, hp_57, hp_58, hp_59, hp_60, hp_61, hp_62, hp_63, hp_64, hp_65, hp_66, hp_67, hp_68, hp_69, hp_70, hp_71, hp_72, hp_73, hp_74, og_0_0, og_0_1, og_0_2, og_0_3, og_0_4, og_0_5, og_0_6, og_0_7, og_0_8, og_0_9, og_0_10, og_0_11, og_0_12, og_0_13, ol_0, og_2_0, og_2_1, og_2_2, og_2_3, og_2_4, og_2_5, og_2_6, ol_2, og_3_0, og_3_1, ol_3, og_5_0, og_5_1, ol_5, og_9_0, og_9_1, og_9_2, og_9_3, og_9_4, og_9_5, og_9_6, ol_9, og_10_0, og_10_1, ol_10, og_12_0, og_12_1, ol_12, og_16_0, og_16_1, og_16_2, ol_16, og_17_0, og_17_1, ol_17, og_21_0, og_21_1, og_21_2, og_21_3, og_21_4, ol_21, og_27_0, og_27_1, og_27_2, og_27_3, og_27_4, og_27_5, og_27_6, og_27_7, og_27_8, og_27_9, og_27_10, ol_27, og_35_0, og_35_1, ol_35, og_37_0, og_37_1, ol_37, og_39_0, og_39_1, ol_39, og_41_0, og_41_1, ol_41, og_43_0, og_43_1, ol_43, og_45_0, og_45_1, ol_45, og_47_0, og_47_1, ol_47, og_49_0, og_49_1, og_49_2, og_49_3, ol_49, og_53_0, og_53_1, ol_53, og_55_0, og_55_1, ol_55, og_57_0, og_57_1, ol_57, og_59_0, og_59_1, ol_59, og_61_0, og_61_1, ol_61, og_63_0, og_63_1, ol_63, og_65_0, og_65_1, og_65_2, ol_65, og_66_0, og_66_1, ol_66, og_70_0, og_70_1, og_70_2, ol_70, og_71_0, og_71_1, ol_71, uo_0_1, uo_0_4, uo_0_8, ua_1, uo_2_0, uo_2_1, uo_2_2, uo_3_1, ua_4, uo_5_1, ua_6, ua_7, ua_8, uo_9_0, uo_9_1, uo_9_2, uo_10_1, ua_11, uo_12_1, ua_13, ua_14, ua_15, uo_17_1, ua_18, ua_19, ua_20, uo_21_4, ua_22, ua_23, ua_24, ua_25, uo_27_2, uo_27_6, uo_27_7, uo_27_8, ua_28, ua_29, ua_31, ua_32, ua_33, ua_34, uo_35_1, ua_36, uo_37_1, ua_38, uo_39_1, ua_40, uo_41_1, ua_42, uo_43_1, ua_44, uo_45_1, ua_46, uo_47_1, ua_48, uo_49_3, ua_51, ua_52, uo_53_1, ua_54, uo_55_1, ua_56, uo_57_1, ua_58, uo_59_1, ua_60, uo_61_1, ua_62, uo_63_1, ua_64, uo_66_1, ua_67, ua_68, ua_69, uo_71_1, ua_72, ua_73, ua_74, sO_g, sA_g, sA_O, sO_A, sO_2, sC_1, sC_2, sC_3, sC_4, sC_5, sC_6, sW_1, sW_2, sW_3, sW_4, uc_0, hn, hbit, nI_1, nu_fitI, nu_fitL, nu_fitO, nu_fitA, nu_fitB0, nu_fitB1]
        refine ⟨fun z => absurd z hlt, fun _ => ⟨fun _ => ih (k + 1) g (by omega) (fun b hb r hr => ?_) (fun b hb => h2 b (by omega)), fun z => absurd trivial z⟩⟩
        by_cases e : b = k
        · rw [e, h2 k (Nat.le_refl _)]
          exact ⟨Or.inl, fun z => z.elim id (fun z => absurd z.1 c)⟩
        · exact h1 b (by omega) r hr
  refine WM.of mi_18 rfl rfl (Nat.le_of_ble_eq_true rfl) ?_
  show WP (mm_rw mr_18) none tb (WM tb d) _ 0 [(0, vR 27), (1, vI WL), (2, vI WR)] [] (HP s) 0 0
  (try simp only [Option.toList_some, Option.toList_none, List.nil_append, List.append_nil, List.cons_append, Nat.sub_zero, Nat.sub_self, Nat.zero_sub]); refine Go.wp sp_18 200 ?_; simp only [↓g18_0, ↓g18_1, ↓g18_2, ↓g18_3, ↓g18_4, ↓g18_7, ↓g18_10, ↓g18_11, ↓g18_12, ↓g18_13, ↓g18_14, ↓g18_15, ↓g18_18, ↓g18_19, ↓g18_22, ↓g18_23, ↓g18_24, ↓g18_24t, ↓g18_25, ↓g18_26, ↓g18_27, ↓g18_28, ↓g18_29, ↓g18_30, ↓g18_31, ↓g18_32, ↓g18_33, ↓g18_34, ↓g18_37, ↓g18_40, ↓Go_s, ↓GoC_a, ↓reduceIte, ↓mm_call_eq, ↓mmw_nil, ↓mmw_cons, List.take_succ_cons, List.take_zero, List.take_nil, List.drop_succ_cons, List.drop_zero, List.drop_nil, List.reverse_cons, List.reverse_nil, List.nil_append, List.cons_append, List.append_nil, Option.toList_some, Option.toList_none, Nat.sub_zero, Nat.le_refl, mmr_cons, mm_st1, mm_st2, mmi_nil, mmi_cons, mmc_I, mmc_L, mmc_R, mmu_get, mmu_one, mma_get, mma_one, List.filter_cons, List.filter_nil, List.contains_cons, List.contains_nil, Nat.reduceBEq, Nat.reduceAdd, Nat.reduceLT, Nat.reduceSub, Nat.reduceLeDiff, Nat.reduceEqDiff, Int32.reduceAdd, Bool.not_true, Bool.not_false, Bool.and_true, Bool.true_and, Bool.and_false, Bool.false_and, Bool.or_false, Bool.false_or, Bool.or_true, Bool.true_or, if_true, if_false, ite_true, ite_false, Bool.false_eq_true, List.getElem?_cons_zero, List.getElem?_cons_succ, List.length_cons, List.length_nil, true_and, and_true, List.set_cons_zero, List.set_cons_succ, Fin.isValue, Fin.val_zero, Fin.val_one, Fin.val_two, Fin.reduceFinMk, Nat.zero_add, hp_0, hp_1, hp_2, hp_3, hp_4, hp_5, hp_6, hp_7, hp_8, hp_9, hp_10, hp_11, hp_12, hp_13, hp_14, hp_15, hp_16, hp_17, hp_18, hp_19, hp_20, hp_21, hp_22, hp_23, hp_24, hp_25, hp_26, hp_27, hp_28, hp_29, hp_30, hp_31, hp_32, hp_33, hp_34, hp_35, hp_36, hp_37, hp_38, hp_39, hp_40, hp_41, hp_42, hp_43, hp_44, hp_45, hp_46, hp_47, hp_48, hp_49, hp_50, hp_51, hp_52, hp_53, hp_54, hp_55, hp_56, hp_57, hp_58, hp_59, hp_60, hp_61, hp_62, hp_63, hp_64, hp_65, hp_66, hp_67, hp_68, hp_69, hp_70, hp_71, hp_72, hp_73, hp_74, og_0_0, og_0_1, og_0_2, og_0_3, og_0_4, og_0_5, og_0_6, og_0_7, og_0_8, og_0_9, og_0_10, og_0_11, og_0_12, og_0_13, ol_0, og_2_0, og_2_1, og_2_2, og_2_3, og_2_4, og_2_5, og_2_6, ol_2, og_3_0, og_3_1, ol_3, og_5_0, og_5_1, ol_5, og_9_0, og_9_1, og_9_2, og_9_3, og_9_4, og_9_5, og_9_6, ol_9, og_10_0, og_10_1, ol_10, og_12_0, og_12_1, ol_12, og_16_0, og_16_1, og_16_2, ol_16, og_17_0, og_17_1, ol_17, og_21_0, og_21_1, og_21_2, og_21_3, og_21_4, ol_21, og_27_0, og_27_1, og_27_2, og_27_3, og_27_4, og_27_5, og_27_6, og_27_7, og_27_8, og_27_9, og_27_10, ol_27, og_35_0, og_35_1, ol_35, og_37_0, og_37_1, ol_37, og_39_0, og_39_1, ol_39, og_41_0, og_41_1, ol_41, og_43_0, og_43_1, ol_43, og_45_0, og_45_1, ol_45, og_47_0, og_47_1, ol_47, og_49_0, og_49_1, og_49_2, og_49_3, ol_49, og_53_0, og_53_1, ol_53, og_55_0, og_55_1, ol_55, og_57_0, og_57_1, ol_57, og_59_0, og_59_1, ol_59, og_61_0, og_61_1, ol_61, og_63_0, og_63_1, ol_63, og_65_0, og_65_1, og_65_2, ol_65, og_66_0, og_66_1, ol_66, og_70_0, og_70_1, og_70_2, ol_70, og_71_0, og_71_1, ol_71, uo_0_1, uo_0_4, uo_0_8, ua_1, uo_2_0, uo_2_1, uo_2_2, uo_3_1, ua_4, uo_5_1, ua_6, ua_7, ua_8, uo_9_0, uo_9_1, uo_9_2, uo_10_1, ua_11, uo_12_1, ua_13, ua_14, ua_15, uo_17_1, ua_18, ua_19, ua_20, uo_21_4, ua_22, ua_23, ua_24, ua_25, uo_27_2, uo_27_6, uo_27_7, uo_27_8, ua_28, ua_29, ua_31, ua_32, ua_33, ua_34, uo_35_1, ua_36, uo_37_1, ua_38, uo_39_1, ua_40, uo_41_1, ua_42, uo_43_1, ua_44, uo_45_1, ua_46, uo_47_1, ua_48, uo_49_3, ua_51, ua_52, uo_53_1, ua_54, uo_55_1, ua_56, uo_57_1, ua_58, uo_59_1, ua_60, uo_61_1, ua_62, uo_63_1, ua_64, uo_66_1, ua_67, ua_68, ua_69, uo_71_1, ua_72, ua_73, ua_74, sO_g, sA_g, sA_O, sO_A, sO_2, sC_1, sC_2, sC_3, sC_4, sC_5, sC_6, sW_1, sW_2, sW_3, sW_4, uc_0, nu_fitI, nu_fitL, nu_fitO, nu_fitA, nu_fitB0, nu_fitB1]
  have h0 := key n 0 (s.1 34) (by omega) (fun b hb => absurd hb (Nat.not_lt_zero _)) (fun b _ => rfl)
  rw [sA_id] at h0
  exact h0
/-- the settled ones in the class's cells -/
def NdC (s : MM) (n : Nat) (B P : PM') : Prop := (∀ q, q < n → s.1 31 q = oI (B q)) ∧ ∀ b, b < n → s.1 32 b = oI (P b)
theorem NdC.gx {s' : MM} {T J : List Nat} {B P : PM'} (h : NdC s n B P) (a : GX T J s s') (h1 : 31 ∉ T) (h2 : 32 ∉ T) : NdC s' n B P := by
  unfold NdC at h ⊢
  rw [a.1 31 h1, a.1 32 h2]
  exact h
theorem C_settle {B P : PM'} {q b : Nat} (hN : NdC s n B P) (hn8 : n ≤ 8) (hq : q < n) (hb : b < n) : WM tb (d + 1) k_Guess_settle [vR 27, vI (nI b), vI (nI q)] (HP s) 0 0 (fun z h' => z = none ∧ ∃ s', h' = HP s' ∧ GX [31, 32] [] s s' ∧ s'.1 31 = upd (s.1 31) q (nI b) ∧ s'.1 32 = upd (s.1 32) b (nI q) ∧ NdC s' n (upo B q b) (upo P b q)) := by
  have hcq : (nI q).toNatClampNeg = q := nI_clamp (by omega)
  have hcb : (nI b).toNatClampNeg = b := nI_clamp (by omega)
  refine WM.of mi_14 rfl rfl (Nat.le_of_ble_eq_true rfl) ?_
  show WP (mm_rw mr_14) none tb (WM tb d) _ 0 [(0, vR 27), (1, vI (nI b)), (2, vI (nI q))] [] (HP s) 0 0
  (try simp only [Option.toList_some, Option.toList_none, List.nil_append, List.append_nil, List.cons_append, Nat.sub_zero, Nat.sub_self, Nat.zero_sub]); refine Go.wp sp_14 200 ?_; simp only [↓g14_0, ↓g14_1, ↓g14_4, ↓g14_5, ↓g14_6, ↓g14_7, ↓g14_8, ↓g14_11, ↓g14_12, ↓g14_13, ↓g14_14, ↓Go_s, ↓GoC_a, ↓reduceIte, ↓mm_call_eq, ↓mmw_nil, ↓mmw_cons, List.take_succ_cons, List.take_zero, List.take_nil, List.drop_succ_cons, List.drop_zero, List.drop_nil, List.reverse_cons, List.reverse_nil, List.nil_append, List.cons_append, List.append_nil, Option.toList_some, Option.toList_none, Nat.sub_zero, Nat.le_refl, mmr_cons, mm_st1, mm_st2, mmi_nil, mmi_cons, mmc_I, mmc_L, mmc_R, mmu_get, mmu_one, mma_get, mma_one, List.filter_cons, List.filter_nil, List.contains_cons, List.contains_nil, Nat.reduceBEq, Nat.reduceAdd, Nat.reduceLT, Nat.reduceSub, Nat.reduceLeDiff, Nat.reduceEqDiff, Int32.reduceAdd, Bool.not_true, Bool.not_false, Bool.and_true, Bool.true_and, Bool.and_false, Bool.false_and, Bool.or_false, Bool.false_or, Bool.or_true, Bool.true_or, if_true, if_false, ite_true, ite_false, Bool.false_eq_true, List.getElem?_cons_zero, List.getElem?_cons_succ, List.length_cons, List.length_nil, true_and, and_true, List.set_cons_zero, List.set_cons_succ, Fin.isValue, Fin.val_zero, Fin.val_one, Fin.val_two, Fin.reduceFinMk, Nat.zero_add, hp_0, hp_1, hp_2, hp_3, hp_4, hp_5, hp_6, hp_7, hp_8, hp_9, hp_10, hp_11, hp_12, hp_13, hp_14, hp_15, hp_16, hp_17, hp_18, hp_19, hp_20, hp_21, hp_22, hp_23, hp_24, hp_25, hp_26, hp_27, hp_28, hp_29, hp_30, hp_31, hp_32, hp_33, hp_34, hp_35, hp_36, hp_37, hp_38, hp_39, hp_40, hp_41, hp_42, hp_43, hp_44, hp_45, hp_46, hp_47, hp_48, hp_49, hp_50, hp_51, hp_52, hp_53, hp_54, hp_55, hp_56, hp_57, hp_58, hp_59, hp_60, hp_61, hp_62, hp_63, hp_64, hp_65, hp_66, hp_67, hp_68, hp_69, hp_70, hp_71, hp_72, hp_73, hp_74, og_0_0, og_0_1, og_0_2, og_0_3, og_0_4, og_0_5, og_0_6, og_0_7, og_0_8, og_0_9, og_0_10, og_0_11, og_0_12, og_0_13, ol_0, og_2_0, og_2_1, og_2_2, og_2_3, og_2_4, og_2_5, og_2_6, ol_2, og_3_0, og_3_1, ol_3, og_5_0, og_5_1, ol_5, og_9_0, og_9_1, og_9_2, og_9_3, og_9_4, og_9_5, og_9_6, ol_9, og_10_0, og_10_1, ol_10, og_12_0, og_12_1, ol_12, og_16_0, og_16_1, og_16_2, ol_16, og_17_0, og_17_1, ol_17, og_21_0, og_21_1, og_21_2, og_21_3, og_21_4, ol_21, og_27_0, og_27_1, og_27_2, og_27_3, og_27_4, og_27_5, og_27_6, og_27_7, og_27_8, og_27_9, og_27_10, ol_27, og_35_0, og_35_1, ol_35, og_37_0, og_37_1, ol_37, og_39_0, og_39_1, ol_39, og_41_0, og_41_1, ol_41, og_43_0, og_43_1, ol_43, og_45_0, og_45_1, ol_45, og_47_0, og_47_1, ol_47, og_49_0, og_49_1, og_49_2, og_49_3, ol_49, og_53_0, og_53_1, ol_53, og_55_0, og_55_1, ol_55, og_57_0, og_57_1, ol_57, og_59_0, og_59_1, ol_59, og_61_0, og_61_1, ol_61, og_63_0, og_63_1, ol_63, og_65_0, og_65_1, og_65_2, ol_65, og_66_0, og_66_1, ol_66, og_70_0, og_70_1, og_70_2, ol_70, og_71_0, og_71_1, ol_71, uo_0_1, uo_0_4, uo_0_8, ua_1, uo_2_0, uo_2_1, uo_2_2, uo_3_1, ua_4, uo_5_1, ua_6, ua_7, ua_8, uo_9_0, uo_9_1, uo_9_2, uo_10_1, ua_11, uo_12_1, ua_13, ua_14, ua_15, uo_17_1, ua_18, ua_19, ua_20, uo_21_4, ua_22, ua_23, ua_24, ua_25, uo_27_2, uo_27_6, uo_27_7, uo_27_8, ua_28, ua_29, ua_31, ua_32, ua_33, ua_34, uo_35_1, ua_36, uo_37_1, ua_38, uo_39_1, ua_40, uo_41_1, ua_42, uo_43_1, ua_44, uo_45_1, ua_46, uo_47_1, ua_48, uo_49_3, ua_51, ua_52, uo_53_1, ua_54, uo_55_1, ua_56, uo_57_1, ua_58, uo_59_1, ua_60, uo_61_1, ua_62, uo_63_1, ua_64, uo_66_1, ua_67, ua_68, ua_69, uo_71_1, ua_72, ua_73, ua_74, sO_g, sA_g, sA_O, sO_A, sO_2, sC_1, sC_2, sC_3, sC_4, sC_5, sC_6, sW_1, sW_2, sW_3, sW_4, uc_0, hcq, hcb, nu_fitI, nu_fitL, nu_fitO, nu_fitA, nu_fitB0, nu_fitB1]
  refine ⟨vp_in_nI (by omega) (by omega), vp_in_nI (by omega) (by omega), _, rfl, (GX.a (by simp)).tr (GX.a (by simp)), rfl, rfl, fun x hx => ?_, fun x hx => ?_⟩
  · show upd (s.1 31) q (nI b) x = _
    unfold upd
    by_cases e : x = q
    · rw [if_pos e, e, upo_at]
      rfl
    · rw [if_neg e, upo_ne e]
      exact hN.1 x hx
  · show upd (s.1 32) b (nI q) x = _
    unfold upd
    by_cases e : x = b
    · rw [if_pos e, e, upo_at]
      rfl
    · rw [if_neg e, upo_ne e]
      exact hN.2 x hx
theorem C_unsettle {B P : PM'} {q b : Nat} (hN : NdC s n (upo B q b) (upo P b q)) (hn8 : n ≤ 8) (hq : q < n) (hb : b < n) (hB : B q = none) (hP : P b = none) : WM tb (d + 1) k_Guess_unsettle [vR 27, vI (nI b), vI (nI q)] (HP s) 0 0 (fun z h' => z = none ∧ ∃ s', h' = HP s' ∧ GX [31, 32] [] s s' ∧ NdC s' n B P) := by
  have hcq : (nI q).toNatClampNeg = q := nI_clamp (by omega)
  have hcb : (nI b).toNatClampNeg = b := nI_clamp (by omega)
  refine WM.of mi_15 rfl rfl (Nat.le_of_ble_eq_true rfl) ?_
  show WP (mm_rw mr_15) none tb (WM tb d) _ 0 [(0, vR 27), (1, vI (nI b)), (2, vI (nI q))] [] (HP s) 0 0
  (try simp only [Option.toList_some, Option.toList_none, List.nil_append, List.append_nil, List.cons_append, Nat.sub_zero, Nat.sub_self, Nat.zero_sub]); refine Go.wp sp_15 200 ?_; simp only [↓g15_0, ↓g15_1, ↓g15_4, ↓g15_5, ↓g15_7, ↓g15_8, ↓g15_9, ↓g15_12, ↓g15_13, ↓g15_15, ↓g15_16, ↓Go_s, ↓GoC_a, ↓reduceIte, ↓mm_call_eq, ↓mmw_nil, ↓mmw_cons, List.take_succ_cons, List.take_zero, List.take_nil, List.drop_succ_cons, List.drop_zero, List.drop_nil, List.reverse_cons, List.reverse_nil, List.nil_append, List.cons_append, List.append_nil, Option.toList_some, Option.toList_none, Nat.sub_zero, Nat.le_refl, mmr_cons, mm_st1, mm_st2, mmi_nil, mmi_cons, mmc_I, mmc_L, mmc_R, mmu_get, mmu_one, mma_get, mma_one, List.filter_cons, List.filter_nil, List.contains_cons, List.contains_nil, Nat.reduceBEq, Nat.reduceAdd, Nat.reduceLT, Nat.reduceSub, Nat.reduceLeDiff, Nat.reduceEqDiff, Int32.reduceAdd, Bool.not_true, Bool.not_false, Bool.and_true, Bool.true_and, Bool.and_false, Bool.false_and, Bool.or_false, Bool.false_or, Bool.or_true, Bool.true_or, if_true, if_false, ite_true, ite_false, Bool.false_eq_true, List.getElem?_cons_zero, List.getElem?_cons_succ, List.length_cons, List.length_nil, true_and, and_true, List.set_cons_zero, List.set_cons_succ, Fin.isValue, Fin.val_zero, Fin.val_one, Fin.val_two, Fin.reduceFinMk, Nat.zero_add, hp_0, hp_1, hp_2, hp_3, hp_4, hp_5, hp_6, hp_7, hp_8, hp_9, hp_10, hp_11, hp_12, hp_13, hp_14, hp_15, hp_16, hp_17, hp_18, hp_19, hp_20, hp_21, hp_22, hp_23, hp_24, hp_25, hp_26, hp_27, hp_28, hp_29, hp_30, hp_31, hp_32, hp_33, hp_34, hp_35, hp_36, hp_37, hp_38, hp_39, hp_40, hp_41, hp_42, hp_43, hp_44, hp_45, hp_46, hp_47, hp_48, hp_49, hp_50, hp_51, hp_52, hp_53, hp_54, hp_55, hp_56, hp_57, hp_58, hp_59, hp_60, hp_61, hp_62, hp_63, hp_64, hp_65, hp_66, hp_67, hp_68, hp_69, hp_70, hp_71, hp_72, hp_73, hp_74, og_0_0, og_0_1, og_0_2, og_0_3, og_0_4, og_0_5, og_0_6, og_0_7, og_0_8, og_0_9, og_0_10, og_0_11, og_0_12, og_0_13, ol_0, og_2_0, og_2_1, og_2_2, og_2_3, og_2_4, og_2_5, og_2_6, ol_2, og_3_0, og_3_1, ol_3, og_5_0, og_5_1, ol_5, og_9_0, og_9_1, og_9_2, og_9_3, og_9_4, og_9_5, og_9_6, ol_9, og_10_0, og_10_1, ol_10, og_12_0, og_12_1, ol_12, og_16_0, og_16_1, og_16_2, ol_16, og_17_0, og_17_1, ol_17, og_21_0, og_21_1, og_21_2, og_21_3, og_21_4, ol_21, og_27_0, og_27_1, og_27_2, og_27_3, og_27_4, og_27_5, og_27_6, og_27_7, og_27_8, og_27_9, og_27_10, ol_27, og_35_0, og_35_1, ol_35, og_37_0, og_37_1, ol_37, og_39_0, og_39_1, ol_39, og_41_0, og_41_1, ol_41, og_43_0, og_43_1, ol_43, og_45_0, og_45_1, ol_45, og_47_0, og_47_1, ol_47, og_49_0, og_49_1, og_49_2, og_49_3, ol_49, og_53_0, og_53_1, ol_53, og_55_0, og_55_1, ol_55, og_57_0, og_57_1, ol_57, og_59_0, og_59_1, ol_59, og_61_0, og_61_1, ol_61, og_63_0, og_63_1, ol_63, og_65_0, og_65_1, og_65_2, ol_65, og_66_0, og_66_1, ol_66, og_70_0, og_70_1, og_70_2, ol_70, og_71_0, og_71_1, ol_71, uo_0_1, uo_0_4, uo_0_8, ua_1, uo_2_0, uo_2_1, uo_2_2, uo_3_1, ua_4, uo_5_1, ua_6, ua_7, ua_8, uo_9_0, uo_9_1, uo_9_2, uo_10_1, ua_11, uo_12_1, ua_13, ua_14, ua_15, uo_17_1, ua_18, ua_19, ua_20, uo_21_4, ua_22, ua_23, ua_24, ua_25, uo_27_2, uo_27_6, uo_27_7, uo_27_8, ua_28, ua_29, ua_31, ua_32, ua_33, ua_34, uo_35_1, ua_36, uo_37_1, ua_38, uo_39_1, ua_40, uo_41_1, ua_42, uo_43_1, ua_44, uo_45_1, ua_46, uo_47_1, ua_48, uo_49_3, ua_51, ua_52, uo_53_1, ua_54, uo_55_1, ua_56, uo_57_1, ua_58, uo_59_1, ua_60, uo_61_1, ua_62, uo_63_1, ua_64, uo_66_1, ua_67, ua_68, ua_69, uo_71_1, ua_72, ua_73, ua_74, sO_g, sA_g, sA_O, sO_A, sO_2, sC_1, sC_2, sC_3, sC_4, sC_5, sC_6, sW_1, sW_2, sW_3, sW_4, uc_0, hcq, hcb, nu_fitI, nu_fitL, nu_fitO, nu_fitA, nu_fitB0, nu_fitB1]
  refine ⟨vp_in_nI (by omega) (by omega), vp_in_nI (by omega) (by omega), _, rfl, (GX.a (by simp)).tr (GX.a (by simp)), fun x hx => ?_, fun x hx => ?_⟩
  · show upd (s.1 31) q (mI 9) x = _
    unfold upd
    by_cases e : x = q
    · rw [if_pos e, e, hB]
      rfl
    · have := hN.1 x hx
      rw [upo_ne e] at this
      rw [if_neg e]
      exact this
  · show upd (s.1 32) b (mI 9) x = _
    unfold upd
    by_cases e : x = b
    · rw [if_pos e, e, hP]
      rfl
    · have := hN.2 x hx
      rw [upo_ne e] at this
      rw [if_neg e]
      exact this
end GUESS
