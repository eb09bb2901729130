/-- a row whose books don't matter -/
def Rz (h : AH) (r b : Nat) : Prop := ∃ z f, h.2 r = some (cO 5 [vR b, vI z]) ∧ h.2 b = some (cI 8 f)
theorem Rw.z {h : AH} {r b : Nat} {xs : List Nat} (hx : Rw h r b xs) : Rz h r b := by
  obtain ⟨f, h1, h2, -⟩ := hx
  exact ⟨_, f, h1, h2⟩
abbrev sp_32 : List Nat := []
section G32
variable {tb : Nat → Nat × (Nat → Int32)} {call : CO} {Q : AQ} {C : CP} {lv : AL} {st : List AV} {h : AH} {kc ks : Nat}
theorem g32_0  : mm_step (mm_rw mr_32) none tb call Q C 0 lv st h kc ks = (match mm_rd lv 0 with
    | some (.inr (.inr (.inl (some k)))) => C 1 lv (vR k :: st) h kc ks
    | some (.inr (.inr (.inr t))) => C 1 lv (vT t :: st) h kc ks
    | _ => False) := rfl
theorem g32_1  : mm_step (mm_rw mr_32) none tb call Q C 1 lv st h kc ks = (match mm_rd lv 1 with
    | some (.inr (.inr (.inl (some k)))) => C 2 lv (vR k :: st) h kc ks
    | some (.inr (.inr (.inr t))) => C 2 lv (vT t :: st) h kc ks
    | _ => False) := rfl
theorem g32_2 (k : Nat) : mm_step (mm_rw mr_32) none tb call Q C 2 lv (.inr (.inr (.inl (some k))) :: st) h kc ks = (match h.2 k with
    | some (.inr (.inr (ci, fs))) => ci = 5 ∧ (match fs[1]? with
      | some v => C 5 lv (v :: st) h kc ks
      | none => False)
    | _ => False) := rfl
theorem g32_5 (v : AV) (k : Nat) : mm_step (mm_rw mr_32) none tb call Q C 5 lv (v :: .inr (.inr (.inl (some k))) :: st) h kc ks = (match h.2 k with
    | some (.inr (.inr (ci, fs))) => ci = 5 ∧ 1 < fs.length ∧ mm_fit (mm_ft 5 1) v ∧ C 8 lv st (mm_up h k (cO ci (fs.set 1 v))) kc ks
    | _ => False) := rfl
theorem g32_8  : mm_step (mm_rw mr_32) none tb call Q C 8 lv st h kc ks = (match mm_rd lv 1 with
    | some (.inr (.inr (.inl (some k)))) => C 9 lv (vR k :: st) h kc ks
    | some (.inr (.inr (.inr t))) => C 9 lv (vT t :: st) h kc ks
    | _ => False) := rfl
theorem g32_9 (k : Nat) : mm_step (mm_rw mr_32) none tb call Q C 9 lv (.inr (.inr (.inl (some k))) :: st) h kc ks = (match h.2 k with
    | some (.inr (.inr (ci, fs))) => ci = 5 ∧ (match fs[0]? with
      | some v => C 12 lv (v :: st) h kc ks
      | none => False)
    | _ => False) := rfl
theorem g32_12  : mm_step (mm_rw mr_32) none tb call Q C 12 lv st h kc ks = (C 13 lv (vI 0 :: st) h kc ks) := rfl
theorem g32_13  : mm_step (mm_rw mr_32) none tb call Q C 13 lv st h kc ks = (match mm_rd lv 0 with
    | some (.inr (.inr (.inl (some k)))) => C 14 lv (vR k :: st) h kc ks
    | some (.inr (.inr (.inr t))) => C 14 lv (vT t :: st) h kc ks
    | _ => False) := rfl
theorem g32_14 (k : Nat) : mm_step (mm_rw mr_32) none tb call Q C 14 lv (.inr (.inr (.inl (some k))) :: st) h kc ks = (match h.2 k with
    | some (.inr (.inr (ci, fs))) => ci = 5 ∧ (match fs[0]? with
      | some v => C 17 lv (v :: st) h kc ks
      | none => False)
    | _ => False) := rfl
theorem g32_17  : mm_step (mm_rw mr_32) none tb call Q C 17 lv st h kc ks = (C 18 lv (vI 0 :: st) h kc ks) := rfl
theorem g32_18  : mm_step (mm_rw mr_32) none tb call Q C 18 lv st h kc ks = (match mm_rd lv 0 with
    | some (.inr (.inr (.inl (some k)))) => C 19 lv (vR k :: st) h kc ks
    | some (.inr (.inr (.inr t))) => C 19 lv (vT t :: st) h kc ks
    | _ => False) := rfl
theorem g32_19 (k : Nat) : mm_step (mm_rw mr_32) none tb call Q C 19 lv (.inr (.inr (.inl (some k))) :: st) h kc ks = (match h.2 k with
    | some (.inr (.inr (ci, fs))) => ci = 5 ∧ (match fs[1]? with
      | some v => C 22 lv (v :: st) h kc ks
      | none => False)
    | _ => False) := rfl
theorem g32_22 (n dp sp : Int32) (d s : Nat) : mm_step (mm_rw mr_32) none tb call Q C 22 lv (.inl n :: .inl dp :: .inr (.inr (.inl (some d))) :: .inl sp :: .inr (.inr (.inl (some s))) :: st) h kc ks = (match h.2 s, h.2 d with
    | some (.inl (.int, n0, f)), some (.inl (.int, n1, g)) => st.length ≤ 4 ∧ ¬ sp < 0 ∧ ¬ dp < 0 ∧ ¬ n < 0 ∧ sp.toNatClampNeg + n.toNatClampNeg ≤ n0 ∧ dp.toNatClampNeg + n.toNatClampNeg ≤ n1 ∧ C 25 lv st (mm_up h d (cI n1 (va_cpy f g sp.toNatClampNeg dp.toNatClampNeg n.toNatClampNeg))) kc ks
    | _, _ => False) := rfl
theorem g32_25  : mm_step (mm_rw mr_32) none tb call Q C 25 lv [] h kc ks = ((none : Option FieldType) = none ∧ Q none h) := rfl
end G32

abbrev sp_33 : List Nat := [7]
section G33
variable {tb : Nat → Nat × (Nat → Int32)} {call : CO} {Q : AQ} {C : CP} {lv : AL} {st : List AV} {h : AH} {kc ks : Nat}
theorem g33_0  : mm_step (mm_rw mr_33) none tb call Q C 0 lv st h kc ks = (match mm_rd lv 0 with
    | some (.inr (.inr (.inl (some k)))) => C 1 lv (vR k :: st) h kc ks
    | some (.inr (.inr (.inr t))) => C 1 lv (vT t :: st) h kc ks
    | _ => False) := rfl
theorem g33_1  : mm_step (mm_rw mr_33) none tb call Q C 1 lv st h kc ks = (match mm_rd lv 1 with
    | some (.inl a) => C 2 lv (vI a :: st) h kc ks
    | _ => False) := rfl
theorem g33_2 (v : AV) (k : Nat) : mm_step (mm_rw mr_33) none tb call Q C 2 lv (v :: .inr (.inr (.inl (some k))) :: st) h kc ks = (match h.2 k with
    | some (.inr (.inr (ci, fs))) => ci = 5 ∧ 1 < fs.length ∧ mm_fit (mm_ft 5 1) v ∧ C 5 lv st (mm_up h k (cO ci (fs.set 1 v))) kc ks
    | _ => False) := rfl
theorem g33_5  : mm_step (mm_rw mr_33) none tb call Q C 5 lv st h kc ks = (C 6 lv (vI 0 :: st) h kc ks) := rfl
theorem g33_6 (a : Int32) : mm_step (mm_rw mr_33) none tb call Q C 6 lv (.inl a :: st) h kc ks = (C 7 (mm_st1 lv 2 (vI a)) st h kc ks) := rfl
theorem g33_7  : mm_step (mm_rw mr_33) none tb call Q C 7 lv st h kc ks = (match mm_rd lv 2 with
    | some (.inl a) => C 8 lv (vI a :: st) h kc ks
    | _ => False) := rfl
theorem g33_8  : mm_step (mm_rw mr_33) none tb call Q C 8 lv st h kc ks = (match mm_rd lv 0 with
    | some (.inr (.inr (.inl (some k)))) => C 9 lv (vR k :: st) h kc ks
    | some (.inr (.inr (.inr t))) => C 9 lv (vT t :: st) h kc ks
    | _ => False) := rfl
theorem g33_9 (k : Nat) : mm_step (mm_rw mr_33) none tb call Q C 9 lv (.inr (.inr (.inl (some k))) :: st) h kc ks = (match h.2 k with
    | some (.inr (.inr (ci, fs))) => ci = 5 ∧ (match fs[1]? with
      | some v => C 12 lv (v :: st) h kc ks
      | none => False)
    | _ => False) := rfl
theorem g33_12 (a b : Int32) : mm_step (mm_rw mr_33) none tb call Q C 12 lv (.inl b :: .inl a :: st) h kc ks = ((b ≤ a → C 28 lv st h kc ks) ∧ (¬ b ≤ a → C 15 lv st h kc ks)) := rfl
theorem g33_15  : mm_step (mm_rw mr_33) none tb call Q C 15 lv st h kc ks = (match mm_rd lv 0 with
    | some (.inr (.inr (.inl (some k)))) => C 16 lv (vR k :: st) h kc ks
    | some (.inr (.inr (.inr t))) => C 16 lv (vT t :: st) h kc ks
    | _ => False) := rfl
theorem g33_16 (k : Nat) : mm_step (mm_rw mr_33) none tb call Q C 16 lv (.inr (.inr (.inl (some k))) :: st) h kc ks = (match h.2 k with
    | some (.inr (.inr (ci, fs))) => ci = 5 ∧ (match fs[0]? with
      | some v => C 19 lv (v :: st) h kc ks
      | none => False)
    | _ => False) := rfl
theorem g33_19  : mm_step (mm_rw mr_33) none tb call Q C 19 lv st h kc ks = (match mm_rd lv 2 with
    | some (.inl a) => C 20 lv (vI a :: st) h kc ks
    | _ => False) := rfl
theorem g33_20  : mm_step (mm_rw mr_33) none tb call Q C 20 lv st h kc ks = (match mm_rd lv 2 with
    | some (.inl a) => C 21 lv (vI a :: st) h kc ks
    | _ => False) := rfl
theorem g33_21 (v i : Int32) (k : Nat) : mm_step (mm_rw mr_33) none tb call Q C 21 lv (.inl v :: .inl i :: .inr (.inr (.inl (some k))) :: st) h kc ks = (match h.2 k with
    | some (.inl (.int, n, f)) => vp_in i n ∧ C 22 lv st (mm_up h k (cI n (upd f i.toNatClampNeg v))) kc ks
    | _ => False) := rfl
theorem g33_22  : mm_step (mm_rw mr_33) none tb call Q C 22 lv st h kc ks = (match mm_rd lv 2 with
    | some (.inl a) => C 25 (mm_st1 lv 2 (vI (a + 1))) st h kc ks
    | _ => False) := rfl
theorem g33_25  : mm_step (mm_rw mr_33) none tb call Q C 25 lv st h kc ks = (C 7 lv st h kc ks) := rfl
theorem g33_28  : mm_step (mm_rw mr_33) none tb call Q C 28 lv [] h kc ks = ((none : Option FieldType) = none ∧ Q none h) := rfl
end G33

abbrev sp_34 : List Nat := [15]
section G34
variable {tb : Nat → Nat × (Nat → Int32)} {call : CO} {Q : AQ} {C : CP} {lv : AL} {st : List AV} {h : AH} {kc ks : Nat}
theorem g34_0  : mm_step (mm_rw mr_34) (some .boolean) tb call Q C 0 lv st h kc ks = (match mm_rd lv 0 with
    | some (.inr (.inr (.inl (some k)))) => C 1 lv (vR k :: st) h kc ks
    | some (.inr (.inr (.inr t))) => C 1 lv (vT t :: st) h kc ks
    | _ => False) := rfl
theorem g34_1 (k : Nat) : mm_step (mm_rw mr_34) (some .boolean) tb call Q C 1 lv (.inr (.inr (.inl (some k))) :: st) h kc ks = (match h.2 k with
    | some (.inr (.inr (ci, fs))) => ci = 5 ∧ (match fs[1]? with
      | some v => C 4 lv (v :: st) h kc ks
      | none => False)
    | _ => False) := rfl
theorem g34_4  : mm_step (mm_rw mr_34) (some .boolean) tb call Q C 4 lv st h kc ks = (match mm_rd lv 1 with
    | some (.inr (.inr (.inl (some k)))) => C 5 lv (vR k :: st) h kc ks
    | some (.inr (.inr (.inr t))) => C 5 lv (vT t :: st) h kc ks
    | _ => False) := rfl
theorem g34_5 (k : Nat) : mm_step (mm_rw mr_34) (some .boolean) tb call Q C 5 lv (.inr (.inr (.inl (some k))) :: st) h kc ks = (match h.2 k with
    | some (.inr (.inr (ci, fs))) => ci = 5 ∧ (match fs[1]? with
      | some v => C 8 lv (v :: st) h kc ks
      | none => False)
    | _ => False) := rfl
theorem g34_8 (a b : Int32) : mm_step (mm_rw mr_34) (some .boolean) tb call Q C 8 lv (.inl b :: .inl a :: st) h kc ks = ((a = b → C 13 lv st h kc ks) ∧ (¬ a = b → C 11 lv st h kc ks)) := rfl
theorem g34_11  : mm_step (mm_rw mr_34) (some .boolean) tb call Q C 11 lv st h kc ks = (C 12 lv (vI 0 :: st) h kc ks) := rfl
theorem g34_12 (v : Int32) : mm_step (mm_rw mr_34) (some .boolean) tb call Q C 12 lv [.inl v] h kc ks = ((v = 0 ∨ v = 1) ∧ Q (some (vI v)) h) := rfl
theorem g34_13  : mm_step (mm_rw mr_34) (some .boolean) tb call Q C 13 lv st h kc ks = (C 14 lv (vI 0 :: st) h kc ks) := rfl
theorem g34_14 (a : Int32) : mm_step (mm_rw mr_34) (some .boolean) tb call Q C 14 lv (.inl a :: st) h kc ks = (C 15 (mm_st1 lv 2 (vI a)) st h kc ks) := rfl
theorem g34_15  : mm_step (mm_rw mr_34) (some .boolean) tb call Q C 15 lv st h kc ks = (match mm_rd lv 2 with
    | some (.inl a) => C 16 lv (vI a :: st) h kc ks
    | _ => False) := rfl
theorem g34_16  : mm_step (mm_rw mr_34) (some .boolean) tb call Q C 16 lv st h kc ks = (match mm_rd lv 0 with
    | some (.inr (.inr (.inl (some k)))) => C 17 lv (vR k :: st) h kc ks
    | some (.inr (.inr (.inr t))) => C 17 lv (vT t :: st) h kc ks
    | _ => False) := rfl
theorem g34_17 (k : Nat) : mm_step (mm_rw mr_34) (some .boolean) tb call Q C 17 lv (.inr (.inr (.inl (some k))) :: st) h kc ks = (match h.2 k with
    | some (.inr (.inr (ci, fs))) => ci = 5 ∧ (match fs[1]? with
      | some v => C 20 lv (v :: st) h kc ks
      | none => False)
    | _ => False) := rfl
theorem g34_20 (a b : Int32) : mm_step (mm_rw mr_34) (some .boolean) tb call Q C 20 lv (.inl b :: .inl a :: st) h kc ks = ((b ≤ a → C 46 lv st h kc ks) ∧ (¬ b ≤ a → C 23 lv st h kc ks)) := rfl
theorem g34_23  : mm_step (mm_rw mr_34) (some .boolean) tb call Q C 23 lv st h kc ks = (match mm_rd lv 0 with
    | some (.inr (.inr (.inl (some k)))) => C 24 lv (vR k :: st) h kc ks
    | some (.inr (.inr (.inr t))) => C 24 lv (vT t :: st) h kc ks
    | _ => False) := rfl
theorem g34_24 (k : Nat) : mm_step (mm_rw mr_34) (some .boolean) tb call Q C 24 lv (.inr (.inr (.inl (some k))) :: st) h kc ks = (match h.2 k with
    | some (.inr (.inr (ci, fs))) => ci = 5 ∧ (match fs[0]? with
      | some v => C 27 lv (v :: st) h kc ks
      | none => False)
    | _ => False) := rfl
theorem g34_27  : mm_step (mm_rw mr_34) (some .boolean) tb call Q C 27 lv st h kc ks = (match mm_rd lv 2 with
    | some (.inl a) => C 28 lv (vI a :: st) h kc ks
    | _ => False) := rfl
theorem g34_28 (i : Int32) (k : Nat) : mm_step (mm_rw mr_34) (some .boolean) tb call Q C 28 lv (.inl i :: .inr (.inr (.inl (some k))) :: st) h kc ks = (match h.2 k with
    | some (.inl (.int, n, f)) => vp_in i n ∧ C 29 lv (vI (f i.toNatClampNeg) :: st) h kc ks
    | _ => False) := rfl
theorem g34_28t (i : Int32) (t : Nat) : mm_step (mm_rw mr_34) (some .boolean) tb call Q C 28 lv (.inl i :: .inr (.inr (.inr t)) :: st) h kc ks = (vp_in i (tb t).1 ∧ C 29 lv (vI ((tb t).2 i.toNatClampNeg) :: st) h kc ks) := rfl
theorem g34_29  : mm_step (mm_rw mr_34) (some .boolean) tb call Q C 29 lv st h kc ks = (match mm_rd lv 1 with
    | some (.inr (.inr (.inl (some k)))) => C 30 lv (vR k :: st) h kc ks
    | some (.inr (.inr (.inr t))) => C 30 lv (vT t :: st) h kc ks
    | _ => False) := rfl
theorem g34_30 (k : Nat) : mm_step (mm_rw mr_34) (some .boolean) tb call Q C 30 lv (.inr (.inr (.inl (some k))) :: st) h kc ks = (match h.2 k with
    | some (.inr (.inr (ci, fs))) => ci = 5 ∧ (match fs[0]? with
      | some v => C 33 lv (v :: st) h kc ks
      | none => False)
    | _ => False) := rfl
theorem g34_33  : mm_step (mm_rw mr_34) (some .boolean) tb call Q C 33 lv st h kc ks = (match mm_rd lv 2 with
    | some (.inl a) => C 34 lv (vI a :: st) h kc ks
    | _ => False) := rfl
theorem g34_34 (i : Int32) (k : Nat) : mm_step (mm_rw mr_34) (some .boolean) tb call Q C 34 lv (.inl i :: .inr (.inr (.inl (some k))) :: st) h kc ks = (match h.2 k with
    | some (.inl (.int, n, f)) => vp_in i n ∧ C 35 lv (vI (f i.toNatClampNeg) :: st) h kc ks
    | _ => False) := rfl
theorem g34_34t (i : Int32) (t : Nat) : mm_step (mm_rw mr_34) (some .boolean) tb call Q C 34 lv (.inl i :: .inr (.inr (.inr t)) :: st) h kc ks = (vp_in i (tb t).1 ∧ C 35 lv (vI ((tb t).2 i.toNatClampNeg) :: st) h kc ks) := rfl
theorem g34_35 (a b : Int32) : mm_step (mm_rw mr_34) (some .boolean) tb call Q C 35 lv (.inl b :: .inl a :: st) h kc ks = ((a = b → C 40 lv st h kc ks) ∧ (¬ a = b → C 38 lv st h kc ks)) := rfl
theorem g34_38  : mm_step (mm_rw mr_34) (some .boolean) tb call Q C 38 lv st h kc ks = (C 39 lv (vI 0 :: st) h kc ks) := rfl
theorem g34_39 (v : Int32) : mm_step (mm_rw mr_34) (some .boolean) tb call Q C 39 lv [.inl v] h kc ks = ((v = 0 ∨ v = 1) ∧ Q (some (vI v)) h) := rfl
theorem g34_40  : mm_step (mm_rw mr_34) (some .boolean) tb call Q C 40 lv st h kc ks = (match mm_rd lv 2 with
    | some (.inl a) => C 43 (mm_st1 lv 2 (vI (a + 1))) st h kc ks
    | _ => False) := rfl
theorem g34_43  : mm_step (mm_rw mr_34) (some .boolean) tb call Q C 43 lv st h kc ks = (C 15 lv st h kc ks) := rfl
theorem g34_46  : mm_step (mm_rw mr_34) (some .boolean) tb call Q C 46 lv st h kc ks = (C 47 lv (vI 1 :: st) h kc ks) := rfl
theorem g34_47 (v : Int32) : mm_step (mm_rw mr_34) (some .boolean) tb call Q C 47 lv [.inl v] h kc ks = ((v = 0 ∨ v = 1) ∧ Q (some (vI v)) h) := rfl
end G34

abbrev sp_35 : List Nat := [4]
section G35
variable {tb : Nat → Nat × (Nat → Int32)} {call : CO} {Q : AQ} {C : CP} {lv : AL} {st : List AV} {h : AH} {kc ks : Nat}
theorem g35_0  : mm_step (mm_rw mr_35) (some .int) tb call Q C 0 lv st h kc ks = (C 1 lv (vI 0 :: st) h kc ks) := rfl
theorem g35_1 (a : Int32) : mm_step (mm_rw mr_35) (some .int) tb call Q C 1 lv (.inl a :: st) h kc ks = (C 2 (mm_st1 lv 1 (vI a)) st h kc ks) := rfl
theorem g35_2  : mm_step (mm_rw mr_35) (some .int) tb call Q C 2 lv st h kc ks = (C 3 lv (vI 0 :: st) h kc ks) := rfl
theorem g35_3 (a : Int32) : mm_step (mm_rw mr_35) (some .int) tb call Q C 3 lv (.inl a :: st) h kc ks = (C 4 (mm_st1 lv 2 (vI a)) st h kc ks) := rfl
theorem g35_4  : mm_step (mm_rw mr_35) (some .int) tb call Q C 4 lv st h kc ks = (match mm_rd lv 2 with
    | some (.inl a) => C 5 lv (vI a :: st) h kc ks
    | _ => False) := rfl
theorem g35_5  : mm_step (mm_rw mr_35) (some .int) tb call Q C 5 lv st h kc ks = (match mm_rd lv 0 with
    | some (.inr (.inr (.inl (some k)))) => C 6 lv (vR k :: st) h kc ks
    | some (.inr (.inr (.inr t))) => C 6 lv (vT t :: st) h kc ks
    | _ => False) := rfl
theorem g35_6 (k : Nat) : mm_step (mm_rw mr_35) (some .int) tb call Q C 6 lv (.inr (.inr (.inl (some k))) :: st) h kc ks = (match h.2 k with
    | some (.inr (.inr (ci, fs))) => ci = 5 ∧ (match fs[1]? with
      | some v => C 9 lv (v :: st) h kc ks
      | none => False)
    | _ => False) := rfl
theorem g35_9 (a b : Int32) : mm_step (mm_rw mr_35) (some .int) tb call Q C 9 lv (.inl b :: .inl a :: st) h kc ks = ((b ≤ a → C 29 lv st h kc ks) ∧ (¬ b ≤ a → C 12 lv st h kc ks)) := rfl
theorem g35_12  : mm_step (mm_rw mr_35) (some .int) tb call Q C 12 lv st h kc ks = (match mm_rd lv 1 with
    | some (.inl a) => C 13 lv (vI a :: st) h kc ks
    | _ => False) := rfl
theorem g35_13  : mm_step (mm_rw mr_35) (some .int) tb call Q C 13 lv st h kc ks = (C 14 lv (vI 1 :: st) h kc ks) := rfl
theorem g35_14  : mm_step (mm_rw mr_35) (some .int) tb call Q C 14 lv st h kc ks = (match mm_rd lv 0 with
    | some (.inr (.inr (.inl (some k)))) => C 15 lv (vR k :: st) h kc ks
    | some (.inr (.inr (.inr t))) => C 15 lv (vT t :: st) h kc ks
    | _ => False) := rfl
theorem g35_15 (k : Nat) : mm_step (mm_rw mr_35) (some .int) tb call Q C 15 lv (.inr (.inr (.inl (some k))) :: st) h kc ks = (match h.2 k with
    | some (.inr (.inr (ci, fs))) => ci = 5 ∧ (match fs[0]? with
      | some v => C 18 lv (v :: st) h kc ks
      | none => False)
    | _ => False) := rfl
theorem g35_18  : mm_step (mm_rw mr_35) (some .int) tb call Q C 18 lv st h kc ks = (match mm_rd lv 2 with
    | some (.inl a) => C 19 lv (vI a :: st) h kc ks
    | _ => False) := rfl
theorem g35_19 (i : Int32) (k : Nat) : mm_step (mm_rw mr_35) (some .int) tb call Q C 19 lv (.inl i :: .inr (.inr (.inl (some k))) :: st) h kc ks = (match h.2 k with
    | some (.inl (.int, n, f)) => vp_in i n ∧ C 20 lv (vI (f i.toNatClampNeg) :: st) h kc ks
    | _ => False) := rfl
theorem g35_19t (i : Int32) (t : Nat) : mm_step (mm_rw mr_35) (some .int) tb call Q C 19 lv (.inl i :: .inr (.inr (.inr t)) :: st) h kc ks = (vp_in i (tb t).1 ∧ C 20 lv (vI ((tb t).2 i.toNatClampNeg) :: st) h kc ks) := rfl
theorem g35_20 (a b : Int32) : mm_step (mm_rw mr_35) (some .int) tb call Q C 20 lv (.inl b :: .inl a :: st) h kc ks = (C 21 lv (vI (a <<< (b &&& 31)) :: st) h kc ks) := rfl
theorem g35_21 (a b : Int32) : mm_step (mm_rw mr_35) (some .int) tb call Q C 21 lv (.inl b :: .inl a :: st) h kc ks = (C 22 lv (vI (a ||| b) :: st) h kc ks) := rfl
theorem g35_22 (a : Int32) : mm_step (mm_rw mr_35) (some .int) tb call Q C 22 lv (.inl a :: st) h kc ks = (C 23 (mm_st1 lv 1 (vI a)) st h kc ks) := rfl
theorem g35_23  : mm_step (mm_rw mr_35) (some .int) tb call Q C 23 lv st h kc ks = (match mm_rd lv 2 with
    | some (.inl a) => C 26 (mm_st1 lv 2 (vI (a + 1))) st h kc ks
    | _ => False) := rfl
theorem g35_26  : mm_step (mm_rw mr_35) (some .int) tb call Q C 26 lv st h kc ks = (C 4 lv st h kc ks) := rfl
theorem g35_29  : mm_step (mm_rw mr_35) (some .int) tb call Q C 29 lv st h kc ks = (match mm_rd lv 1 with
    | some (.inl a) => C 30 lv (vI a :: st) h kc ks
    | _ => False) := rfl
theorem g35_30 (v : Int32) : mm_step (mm_rw mr_35) (some .int) tb call Q C 30 lv [.inl v] h kc ks = (True ∧ Q (some (vI v)) h) := rfl
end G35

abbrev sp_159 : List Nat := [5]
section G159
variable {tb : Nat → Nat × (Nat → Int32)} {call : CO} {Q : AQ} {C : CP} {lv : AL} {st : List AV} {h : AH} {kc ks : Nat}
theorem g159_0  : mm_step (mm_rw mr_159) none tb call Q C 0 lv st h kc ks = (C 1 lv (vI 0 :: st) h kc ks) := rfl
theorem g159_1 (a : Int32) : mm_step (mm_rw mr_159) none tb call Q C 1 lv (.inl a :: st) h kc ks = (C 2 (mm_st1 lv 2 (vI a)) st h kc ks) := rfl
theorem g159_2  : mm_step (mm_rw mr_159) none tb call Q C 2 lv st h kc ks = (match mm_rd lv 0 with
    | some (.inr (.inr (.inl (some k)))) => C 3 lv (vR k :: st) h kc ks
    | some (.inr (.inr (.inr t))) => C 3 lv (vT t :: st) h kc ks
    | _ => False) := rfl
theorem g159_3 (k : Nat) : mm_step (mm_rw mr_159) none tb call Q C 3 lv (.inr (.inr (.inl (some k))) :: st) h kc ks = (match h.2 k with
    | some (.inl (.int, n, _)) => C 4 lv (vI (Int32.ofNat n) :: st) h kc ks
    | some (.inl (.byte, n, _)) => C 4 lv (vI (Int32.ofNat n) :: st) h kc ks
    | _ => False) := rfl
theorem g159_3t (t : Nat) : mm_step (mm_rw mr_159) none tb call Q C 3 lv (.inr (.inr (.inr t)) :: st) h kc ks = (C 4 lv (vI (Int32.ofNat (tb t).1) :: st) h kc ks) := rfl
theorem g159_4 (a : Int32) : mm_step (mm_rw mr_159) none tb call Q C 4 lv (.inl a :: st) h kc ks = (C 5 (mm_st1 lv 3 (vI a)) st h kc ks) := rfl
theorem g159_5  : mm_step (mm_rw mr_159) none tb call Q C 5 lv st h kc ks = (match mm_rd lv 2 with
    | some (.inl a) => C 6 lv (vI a :: st) h kc ks
    | _ => False) := rfl
theorem g159_6  : mm_step (mm_rw mr_159) none tb call Q C 6 lv st h kc ks = (match mm_rd lv 3 with
    | some (.inl a) => C 7 lv (vI a :: st) h kc ks
    | _ => False) := rfl
theorem g159_7 (a b : Int32) : mm_step (mm_rw mr_159) none tb call Q C 7 lv (.inl b :: .inl a :: st) h kc ks = ((b ≤ a → C 20 lv st h kc ks) ∧ (¬ b ≤ a → C 10 lv st h kc ks)) := rfl
theorem g159_10  : mm_step (mm_rw mr_159) none tb call Q C 10 lv st h kc ks = (match mm_rd lv 0 with
    | some (.inr (.inr (.inl (some k)))) => C 11 lv (vR k :: st) h kc ks
    | some (.inr (.inr (.inr t))) => C 11 lv (vT t :: st) h kc ks
    | _ => False) := rfl
theorem g159_11  : mm_step (mm_rw mr_159) none tb call Q C 11 lv st h kc ks = (match mm_rd lv 2 with
    | some (.inl a) => C 12 lv (vI a :: st) h kc ks
    | _ => False) := rfl
theorem g159_12  : mm_step (mm_rw mr_159) none tb call Q C 12 lv st h kc ks = (match mm_rd lv 1 with
    | some (.inl a) => C 13 lv (vI a :: st) h kc ks
    | _ => False) := rfl
theorem g159_13 (v i : Int32) (k : Nat) : mm_step (mm_rw mr_159) none tb call Q C 13 lv (.inl v :: .inl i :: .inr (.inr (.inl (some k))) :: st) h kc ks = (match h.2 k with
    | some (.inl (.int, n, f)) => vp_in i n ∧ C 14 lv st (mm_up h k (cI n (upd f i.toNatClampNeg v))) kc ks
    | _ => False) := rfl
theorem g159_14  : mm_step (mm_rw mr_159) none tb call Q C 14 lv st h kc ks = (match mm_rd lv 2 with
    | some (.inl a) => C 17 (mm_st1 lv 2 (vI (a + 1))) st h kc ks
    | _ => False) := rfl
theorem g159_17  : mm_step (mm_rw mr_159) none tb call Q C 17 lv st h kc ks = (C 5 lv st h kc ks) := rfl
theorem g159_20  : mm_step (mm_rw mr_159) none tb call Q C 20 lv [] h kc ks = ((none : Option FieldType) = none ∧ Q none h) := rfl
end G159

section ROW2
variable {tb : Nat → Nat × (Nat → Int32)} {d : Nat} {h : AH} {r b r2 b2 : Nat} {xs ys : List Nat}
theorem c_copyFrom (hx : Rw h r2 b2 xs) (hz : Rz h r b) (h1 : r ≠ b) (h2 : r ≠ r2) (h3 : r ≠ b2) (h4 : b ≠ r2) (h5 : b ≠ b2) : WM tb (d + 1) k_Row_copyFrom [vR r, vR r2] h 0 0 (fun z h' => z = none ∧ Rw h' r b xs ∧ FR h h' [r, b]) := by
  obtain ⟨f, hr, hb, hl, hs, hf⟩ := hx
  obtain ⟨z0, g, gr, gb⟩ := hz
  refine WM.of mi_32 rfl rfl (Nat.le_of_ble_eq_true rfl) ?_
  show WP (mm_rw mr_32) none tb (WM tb d) _ 0 [(0, vR r), (1, vR r2)] [] h 0 0
  (try simp only [Option.toList_some, Option.toList_none, List.nil_append, List.append_nil, List.cons_append, Nat.sub_zero, Nat.sub_self, Nat.zero_sub]); refine Go.wp sp_32 200 ?_; simp only [↓g32_0, ↓g32_1, ↓g32_2, ↓g32_5, ↓g32_8, ↓g32_9, ↓g32_12, ↓g32_13, ↓g32_14, ↓g32_17, ↓g32_18, ↓g32_19, ↓g32_22, ↓g32_25, ↓Go_s, ↓GoC_a, ↓reduceIte, ↓mm_call_eq, ↓mmw_nil, ↓mmw_cons, List.take_succ_cons, List.take_zero, List.take_nil, List.drop_succ_cons, List.drop_zero, List.drop_nil, List.reverse_cons, List.reverse_nil, List.nil_append, List.cons_append, List.append_nil, Option.toList_some, Option.toList_none, Nat.sub_zero, Nat.le_refl, mmr_cons, mm_st1, mm_st2, mmi_nil, mmi_cons, mmc_I, mmc_L, mmc_R, mmu_get, mmu_one, mma_get, mma_one, List.filter_cons, List.filter_nil, List.contains_cons, List.contains_nil, Nat.reduceBEq, Nat.reduceAdd, Nat.reduceLT, Nat.reduceSub, Nat.reduceLeDiff, Nat.reduceEqDiff, Int32.reduceAdd, Bool.not_true, Bool.not_false, Bool.and_true, Bool.true_and, Bool.and_false, Bool.false_and, Bool.or_false, Bool.false_or, Bool.or_true, Bool.true_or, if_true, if_false, ite_true, ite_false, Bool.false_eq_true, List.getElem?_cons_zero, List.getElem?_cons_succ, List.length_cons, List.length_nil, true_and, and_true, List.set_cons_zero, List.set_cons_succ, Fin.isValue, Fin.val_zero, Fin.val_one, Fin.val_two, Fin.reduceFinMk, Nat.zero_add, hr, hb, gr, gb, h1, h2, h3, h4, h5, h1.symm, h2.symm, h3.symm, h4.symm, h5.symm]
  simp (disch := omega) only [lit_0, lit_1, lit_2, lit_3, lit_4, lit_5, lit_6, lit_7, lit_8, lit_9, lit_10, lit_16, lit_40, lit_48, lit_60, lit_67, lit_76, lit_82, lit_99, lit_100, lit_255, lit_508, lit_720, lit_1023, nI_1, nI_add, pk_sub, pk_mul, pk_div, nu_rem2, nI_clamp, nu_m, nu_m', nu_lm, nu_ml, nu_ltm, nu_mlt, nu_mm, nu_dec, nu_in, nu_le, nu_lt, nu_eq, true_and, and_true, false_imp_iff, true_imp_iff, not_true_eq_false, not_false_eq_true, Nat.not_lt_zero, Nat.zero_le, Nat.le_refl, Nat.lt_irrefl, Nat.reduceEqDiff, Nat.reduceLT, Nat.reduceLeDiff, Nat.reduceAdd, Nat.reduceSub, Nat.reduceMul, Nat.reduceMod, Nat.reduceDiv, Nat.one_ne_zero, Nat.zero_ne_one, ft_0_0, ft_0_1, ft_0_2, ft_0_3, ft_0_4, ft_1_0, ft_1_1, ft_1_2, ft_2_0, ft_2_1, ft_2_2, ft_2_3, ft_2_4, ft_2_5, ft_2_6, ft_2_7, ft_2_8, ft_2_9, ft_2_10, ft_3_0, ft_3_1, ft_3_2, ft_3_3, ft_4_0, ft_4_1, ft_4_2, ft_4_3, ft_4_4, ft_4_5, ft_4_6, ft_5_0, ft_5_1, ft_6_0, ft_6_1, ft_6_2, ft_6_3, ft_6_4, ft_6_5, ft_6_6, ft_7_0, ft_7_1, ft_7_2, ft_7_3, ft_7_4, ft_7_5, ft_7_6, ft_7_7, ft_7_8, ft_7_9, ft_7_10, ft_7_11, ft_7_12, ft_7_13, ft_8_0, ft_8_1, ft_8_2, ft_8_3, ft_8_4, ft_8_5, ft_8_6, ft_8_7, ft_8_8, ft_8_9, ft_8_10, ft_8_11, ft_8_12, ft_8_13, ft_8_14, ft_8_15, ft_8_16, ft_8_17, ft_8_18, ft_8_19, ft_8_20, ft_8_21, ft_8_22, ft_8_23, ft_8_24, ft_8_25, ft_8_26, ft_8_27, ft_8_28, ft_8_29, ft_8_30, ft_8_31, ft_8_32, ft_8_33, ft_8_34, ft_8_35, ft_8_36, ft_8_37, ft_8_38, ft_8_39, ft_8_40, ft_8_41, nu_fitI, nu_fitL, nu_fitO, nu_fitA, nu_fitB0, nu_fitB1]
  refine ⟨by omega, by omega, ⟨va_cpy f g 0 0 xs.length, ?_, ?_, hl, hs, ?_⟩, (FR.up (by simp)).tr (FR.up (by simp))⟩
  · simp only [mmu_get, h1, if_true, if_false]
  · simp only [mmu_get, if_true]
  · intro j hj
    rw [pk_cpy_in (Nat.zero_le _) (by omega), Nat.zero_add, Nat.sub_zero, hf j hj]
theorem c_fillInTurn (hz : Rz h r b) (h1 : r ≠ b) {n : Nat} (hn : n ≤ 8) : WM tb (d + 1) k_Row_fillInTurn [vR r, vI (nI n)] h 0 0 (fun z h' => z = none ∧ Rw h' r b (List.range n) ∧ FR h h' [r, b]) := by
  obtain ⟨z0, g, gr, gb⟩ := hz
  have key : ∀ m k (h' : AH) (f : Nat → Int32), m = n - k → k ≤ n → h'.2 r = some (cO 5 [vR b, vI (nI n)]) → h'.2 b = some (cI 8 f) → (∀ j, j < k → f j = nI j) → FR h h' [r, b] → WP (mm_rw mr_33) none tb (WM tb d) (fun z h' => z = none ∧ Rw h' r b (List.range n) ∧ FR h h' [r, b]) 7 [(0, vR r), (1, vI (nI n)), (2, vI (nI k))] [] h' 0 0 := by
    intro m
    induction m with
    | zero =>
      intro k h' f hm hk a1 a2 a3 a4
      have e : k = n := by omega
      subst e
      (try simp only [Option.toList_some, Option.toList_none, List.nil_append, List.append_nil, List.cons_append, Nat.sub_zero, Nat.sub_self, Nat.zero_sub]); refine Go.wp sp_33 200 ?_; simp only [↓g33_0, ↓g33_1, ↓g33_2, ↓g33_5, ↓g33_6, ↓g33_7, ↓g33_8, ↓g33_9, ↓g33_12, ↓g33_15, ↓g33_16, ↓g33_19, ↓g33_20, ↓g33_21, ↓g33_22, ↓g33_25, ↓g33_28, ↓Go_s, ↓GoC_a, ↓reduceIte, ↓mm_call_eq, ↓mmw_nil, ↓mmw_cons, List.take_succ_cons, List.take_zero, List.take_nil, List.drop_succ_cons, List.drop_zero, List.drop_nil, List.reverse_cons, List.reverse_nil, List.nil_append, List.cons_append, List.append_nil, Option.toList_some, Option.toList_none, Nat.sub_zero, Nat.le_refl, mmr_cons, mm_st1, mm_st2, mmi_nil, mmi_cons, mmc_I, mmc_L, mmc_R, mmu_get, mmu_one, mma_get, mma_one, List.filter_cons, List.filter_nil, List.contains_cons, List.contains_nil, Nat.reduceBEq, Nat.reduceAdd, Nat.reduceLT, Nat.reduceSub, Nat.reduceLeDiff, Nat.reduceEqDiff, Int32.reduceAdd, Bool.not_true, Bool.not_false, Bool.and_true, Bool.true_and, Bool.and_false, Bool.false_and, Bool.or_false, Bool.false_or, Bool.or_true, Bool.true_or, if_true, if_false, ite_true, ite_false, Bool.false_eq_true, List.getElem?_cons_zero, List.getElem?_cons_succ, List.length_cons, List.length_nil, true_and, and_true, List.set_cons_zero, List.set_cons_succ, Fin.isValue, Fin.val_zero, Fin.val_one, Fin.val_two, Fin.reduceFinMk, Nat.zero_add, a1, a2]
      simp (disch := omega) only [lit_0, lit_1, lit_2, lit_3, lit_4, lit_5, lit_6, lit_7, lit_8, lit_9, lit_10, lit_16, lit_40, lit_48, lit_60, lit_67, lit_76, lit_82, lit_99, lit_100, lit_255, lit_508, lit_720, lit_1023, nI_1, nI_add, pk_sub, pk_mul, pk_div, nu_rem2, nI_clamp, nu_m, nu_m', nu_lm, nu_ml, nu_ltm, nu_mlt, nu_mm, nu_dec, nu_in, nu_le, nu_lt, nu_eq, true_and, and_true, false_imp_iff, true_imp_iff, not_true_eq_false, not_false_eq_true, Nat.not_lt_zero, Nat.zero_le, Nat.le_refl, Nat.lt_irrefl, Nat.reduceEqDiff, Nat.reduceLT, Nat.reduceLeDiff, Nat.reduceAdd, Nat.reduceSub, Nat.reduceMul, Nat.reduceMod, Nat.reduceDiv, Nat.one_ne_zero, Nat.zero_ne_one, ft_0_0, ft_0_1, ft_0_2, ft_0_3, ft_0_4, ft_1_0, ft_1_1, ft_1_2, ft_2_0, ft_2_1, ft_2_2, ft_2_3, ft_2_4, ft_2_5, ft_2_6, ft_2_7, ft_2_8, ft_2_9, ft_2_10, ft_3_0, ft_3_1, ft_3_2, ft_3_3, ft_4_0, ft_4_1, ft_4_2, ft_4_3, ft_4_4, ft_4_5, ft_4_6, ft_5_0, ft_5_1, ft_6_0, ft_6_1, ft_6_2, ft_6_3, ft_6_4, ft_6_5, ft_6_6, ft_7_0, ft_7_1, ft_7_2, ft_7_3, ft_7_4, ft_7_5, ft_7_6, ft_7_7, ft_7_8, ft_7_9, ft_7_10, ft_7_11, ft_7_12, ft_7_13, ft_8_0, ft_8_1, ft_8_2, ft_8_3, ft_8_4, ft_8_5, ft_8_6, ft_8_7, ft_8_8, ft_8_9, ft_8_10, ft_8_11, ft_8_12, ft_8_13, ft_8_14, ft_8_15, ft_8_16, ft_8_17, ft_8_18, ft_8_19, ft_8_20, ft_8_21, ft_8_22, ft_8_23, ft_8_24, ft_8_25, ft_8_26, ft_8_27, ft_8_28, ft_8_29, ft_8_30, ft_8_31, ft_8_32, ft_8_33, ft_8_34, ft_8_35, ft_8_36, ft_8_37, ft_8_38, ft_8_39, ft_8_40, ft_8_41, nu_fitI, nu_fitL, nu_fitO, nu_fitA, nu_fitB0, nu_fitB1]
      exact ⟨⟨f, by rw [List.length_range]; exact a1, a2, by rw [List.length_range]; exact hn, fun v hv => by have := List.mem_range.mp hv; omega, fun j hj => by
        rw [List.length_range] at hj
        rw [a3 j hj, List.getD_eq_getElem?_getD, List.getElem?_range hj]; rfl⟩, a4⟩
    | succ m ih =>
      intro k h' f hm hk a1 a2 a3 a4
      have hk' : k < n := by omega
      (try simp only [Option.toList_some, Option.toList_none, List.nil_append, List.append_nil, List.cons_append, Nat.sub_zero, Nat.sub_self, Nat.zero_sub]); refine Go.wp sp_33 200 ?_; simp only [↓g33_0, ↓g33_1, ↓g33_2, ↓g33_5, ↓g33_6, ↓g33_7, ↓g33_8, ↓g33_9, ↓g33_12, ↓g33_15, ↓g33_16, ↓g33_19, ↓g33_20, ↓g33_21, ↓g33_22, ↓g33_25, ↓g33_28, ↓Go_s, ↓GoC_a, ↓reduceIte, ↓mm_call_eq, ↓mmw_nil, ↓mmw_cons, List.take_succ_cons, List.take_zero, List.take_nil, List.drop_succ_cons, List.drop_zero, List.drop_nil, List.reverse_cons, List.reverse_nil, List.nil_append, List.cons_append, List.append_nil, Option.toList_some, Option.toList_none, Nat.sub_zero, Nat.le_refl, mmr_cons, mm_st1, mm_st2, mmi_nil, mmi_cons, mmc_I, mmc_L, mmc_R, mmu_get, mmu_one, mma_get, mma_one, List.filter_cons, List.filter_nil, List.contains_cons, List.contains_nil, Nat.reduceBEq, Nat.reduceAdd, Nat.reduceLT, Nat.reduceSub, Nat.reduceLeDiff, Nat.reduceEqDiff, Int32.reduceAdd, Bool.not_true, Bool.not_false, Bool.and_true, Bool.true_and, Bool.and_false, Bool.false_and, Bool.or_false, Bool.false_or, Bool.or_true, Bool.true_or, if_true, if_false, ite_true, ite_false, Bool.false_eq_true, List.getElem?_cons_zero, List.getElem?_cons_succ, List.length_cons, List.length_nil, true_and, and_true, List.set_cons_zero, List.set_cons_succ, Fin.isValue, Fin.val_zero, Fin.val_one, Fin.val_two, Fin.reduceFinMk, Nat.zero_add, a1, a2]
      simp (disch := omega) only [lit_0, lit_1, lit_2, lit_3, lit_4, lit_5, lit_6, lit_7, lit_8, lit_9, lit_10, lit_16, lit_40, lit_48, lit_60, lit_67, lit_76, lit_82, lit_99, lit_100, lit_255, lit_508, lit_720, lit_1023, nI_1, nI_add, pk_sub, pk_mul, pk_div, nu_rem2, nI_clamp, nu_m, nu_m', nu_lm, nu_ml, nu_ltm, nu_mlt, nu_mm, nu_dec, nu_in, nu_le, nu_lt, nu_eq, true_and, and_true, false_imp_iff, true_imp_iff, not_true_eq_false, not_false_eq_true, Nat.not_lt_zero, Nat.zero_le, Nat.le_refl, Nat.lt_irrefl, Nat.reduceEqDiff, Nat.reduceLT, Nat.reduceLeDiff, Nat.reduceAdd, Nat.reduceSub, Nat.reduceMul, Nat.reduceMod, Nat.reduceDiv, Nat.one_ne_zero, Nat.zero_ne_one, ft_0_0, ft_0_1, ft_0_2, ft_0_3, ft_0_4, ft_1_0, ft_1_1, ft_1_2, ft_2_0, ft_2_1, ft_2_2, ft_2_3, ft_2_4, ft_2_5, ft_2_6, ft_2_7, ft_2_8, ft_2_9, ft_2_10, ft_3_0, ft_3_1, ft_3_2, ft_3_3, ft_4_0, ft_4_1, ft_4_2, ft_4_3, ft_4_4, ft_4_5, ft_4_6, ft_5_0, ft_5_1, ft_6_0, ft_6_1, ft_6_2, ft_6_3, ft_6_4, ft_6_5, ft_6_6, ft_7_0, ft_7_1, ft_7_2, ft_7_3, ft_7_4, ft_7_5, ft_7_6, ft_7_7, ft_7_8, ft_7_9, ft_7_10, ft_7_11, ft_7_12, ft_7_13, ft_8_0, ft_8_1, ft_8_2, ft_8_3, ft_8_4, ft_8_5, ft_8_6, ft_8_7, ft_8_8, ft_8_9, ft_8_10, ft_8_11, ft_8_12, ft_8_13, ft_8_14, ft_8_15, ft_8_16, ft_8_17, ft_8_18, ft_8_19, ft_8_20, ft_8_21, ft_8_22, ft_8_23, ft_8_24, ft_8_25, ft_8_26, ft_8_27, ft_8_28, ft_8_29, ft_8_30, ft_8_31, ft_8_32, ft_8_33, ft_8_34, ft_8_35, ft_8_36, ft_8_37, ft_8_38, ft_8_39, ft_8_40, ft_8_41, nu_fitI, nu_fitL, nu_fitO, nu_fitA, nu_fitB0, nu_fitB1, hk', Nat.not_le.mpr hk']
      refine ⟨by omega, ?_⟩
      refine ih (k + 1) _ (upd f k (nI k)) (by omega) hk' (by simp only [mmu_get, h1, if_false]; exact a1) (by simp only [mmu_get, if_true]) (fun j hj => ?_) (a4.tr (FR.up (by simp)))
      unfold upd
      by_cases e : j = k
      · rw [if_pos e, e]
      · rw [if_neg e, a3 j (by omega)]
  refine WM.of mi_33 rfl rfl (Nat.le_of_ble_eq_true rfl) ?_
  show WP (mm_rw mr_33) none tb (WM tb d) _ 0 [(0, vR r), (1, vI (nI n))] [] h 0 0
  (try simp only [Option.toList_some, Option.toList_none, List.nil_append, List.append_nil, List.cons_append, Nat.sub_zero, Nat.sub_self, Nat.zero_sub]); refine Go.wp sp_33 200 ?_; simp only [↓g33_0, ↓g33_1, ↓g33_2, ↓g33_5, ↓g33_6, ↓g33_7, ↓g33_8, ↓g33_9, ↓g33_12, ↓g33_15, ↓g33_16, ↓g33_19, ↓g33_20, ↓g33_21, ↓g33_22, ↓g33_25, ↓g33_28, ↓Go_s, ↓GoC_a, ↓reduceIte, ↓mm_call_eq, ↓mmw_nil, ↓mmw_cons, List.take_succ_cons, List.take_zero, List.take_nil, List.drop_succ_cons, List.drop_zero, List.drop_nil, List.reverse_cons, List.reverse_nil, List.nil_append, List.cons_append, List.append_nil, Option.toList_some, Option.toList_none, Nat.sub_zero, Nat.le_refl, mmr_cons, mm_st1, mm_st2, mmi_nil, mmi_cons, mmc_I, mmc_L, mmc_R, mmu_get, mmu_one, mma_get, mma_one, List.filter_cons, List.filter_nil, List.contains_cons, List.contains_nil, Nat.reduceBEq, Nat.reduceAdd, Nat.reduceLT, Nat.reduceSub, Nat.reduceLeDiff, Nat.reduceEqDiff, Int32.reduceAdd, Bool.not_true, Bool.not_false, Bool.and_true, Bool.true_and, Bool.and_false, Bool.false_and, Bool.or_false, Bool.false_or, Bool.or_true, Bool.true_or, if_true, if_false, ite_true, ite_false, Bool.false_eq_true, List.getElem?_cons_zero, List.getElem?_cons_succ, List.length_cons, List.length_nil, true_and, and_true, List.set_cons_zero, List.set_cons_succ, Fin.isValue, Fin.val_zero, Fin.val_one, Fin.val_two, Fin.reduceFinMk, Nat.zero_add, gr, gb, h1, h1.symm]
  simp (disch := omega) only [lit_0, lit_1, lit_2, lit_3, lit_4, lit_5, lit_6, lit_7, lit_8, lit_9, lit_10, lit_16, lit_40, lit_48, lit_60, lit_67, lit_76, lit_82, lit_99, lit_100, lit_255, lit_508, lit_720, lit_1023, nI_1, nI_add, pk_sub, pk_mul, pk_div, nu_rem2, nI_clamp, nu_m, nu_m', nu_lm, nu_ml, nu_ltm, nu_mlt, nu_mm, nu_dec, nu_in, nu_le, nu_lt, nu_eq, true_and, and_true, false_imp_iff, true_imp_iff, not_true_eq_false, not_false_eq_true, Nat.not_lt_zero, Nat.zero_le, Nat.le_refl, Nat.lt_irrefl, Nat.reduceEqDiff, Nat.reduceLT, Nat.reduceLeDiff, Nat.reduceAdd, Nat.reduceSub, Nat.reduceMul, Nat.reduceMod, Nat.reduceDiv, Nat.one_ne_zero, Nat.zero_ne_one, ft_0_0, ft_0_1, ft_0_2, ft_0_3, ft_0_4, ft_1_0, ft_1_1, ft_1_2, ft_2_0, ft_2_1, ft_2_2, ft_2_3, ft_2_4, ft_2_5, ft_2_6, ft_2_7, ft_2_8, ft_2_9, ft_2_10, ft_3_0, ft_3_1, ft_3_2, ft_3_3, ft_4_0, ft_4_1, ft_4_2, ft_4_3, ft_4_4, ft_4_5, ft_4_6, ft_5_0, ft_5_1, ft_6_0, ft_6_1, ft_6_2, ft_6_3, ft_6_4, ft_6_5, ft_6_6, ft_7_0, ft_7_1, ft_7_2, ft_7_3, ft_7_4, ft_7_5, ft_7_6, ft_7_7, ft_7_8, ft_7_9, ft_7_10, ft_7_11, ft_7_12, ft_7_13, ft_8_0, ft_8_1, ft_8_2, ft_8_3, ft_8_4, ft_8_5, ft_8_6, ft_8_7, ft_8_8, ft_8_9, ft_8_10, ft_8_11, ft_8_12, ft_8_13, ft_8_14, ft_8_15, ft_8_16, ft_8_17, ft_8_18, ft_8_19, ft_8_20, ft_8_21, ft_8_22, ft_8_23, ft_8_24, ft_8_25, ft_8_26, ft_8_27, ft_8_28, ft_8_29, ft_8_30, ft_8_31, ft_8_32, ft_8_33, ft_8_34, ft_8_35, ft_8_36, ft_8_37, ft_8_38, ft_8_39, ft_8_40, ft_8_41, nu_fitI, nu_fitL, nu_fitO, nu_fitA, nu_fitB0, nu_fitB1]
  exact key n 0 _ g rfl (Nat.zero_le _) (by simp only [mmu_get, if_true]) (by simp only [mmu_get, h1.symm, if_false]; exact gb) (fun j hj => absurd hj (Nat.not_lt_zero _)) (FR.up (by simp))
theorem c_isLike (hx : Rw h r b xs) (hy : Rw h r2 b2 ys) : WM tb (d + 1) k_Row_isLike [vR r, vR r2] h 0 0 (fun z h' => z = some (vI (if xs = ys then 1 else 0)) ∧ h' = h) := by
  obtain ⟨f, hr, hb, hl, hs, hf⟩ := hx
  obtain ⟨g, gr, gb, gl, gs, gf⟩ := hy
  have key : ∀ m k, m = xs.length - k → k ≤ xs.length → xs.length = ys.length → (∀ j, j < k → xs.getD j 0 = ys.getD j 0) → WP (mm_rw mr_34) (some .boolean) tb (WM tb d) (fun z h' => z = some (vI (if xs = ys then 1 else 0)) ∧ h' = h) 15 [(0, vR r), (1, vR r2), (2, vI (nI k))] [] h 0 0 := by
    intro m
    induction m with
    | zero =>
      intro k hm hk hlen a3
      have e : k = xs.length := by omega
      subst e
      (try simp only [Option.toList_some, Option.toList_none, List.nil_append, List.append_nil, List.cons_append, Nat.sub_zero, Nat.sub_self, Nat.zero_sub]); refine Go.wp sp_34 200 ?_; simp only [↓g34_0, ↓g34_1, ↓g34_4, ↓g34_5, ↓g34_8, ↓g34_11, ↓g34_12, ↓g34_13, ↓g34_14, ↓g34_15, ↓g34_16, ↓g34_17, ↓g34_20, ↓g34_23, ↓g34_24, ↓g34_27, ↓g34_28, ↓g34_28t, ↓g34_29, ↓g34_30, ↓g34_33, ↓g34_34, ↓g34_34t, ↓g34_35, ↓g34_38, ↓g34_39, ↓g34_40, ↓g34_43, ↓g34_46, ↓g34_47, ↓Go_s, ↓GoC_a, ↓reduceIte, ↓mm_call_eq, ↓mmw_nil, ↓mmw_cons, List.take_succ_cons, List.take_zero, List.take_nil, List.drop_succ_cons, List.drop_zero, List.drop_nil, List.reverse_cons, List.reverse_nil, List.nil_append, List.cons_append, List.append_nil, Option.toList_some, Option.toList_none, Nat.sub_zero, Nat.le_refl, mmr_cons, mm_st1, mm_st2, mmi_nil, mmi_cons, mmc_I, mmc_L, mmc_R, mmu_get, mmu_one, mma_get, mma_one, List.filter_cons, List.filter_nil, List.contains_cons, List.contains_nil, Nat.reduceBEq, Nat.reduceAdd, Nat.reduceLT, Nat.reduceSub, Nat.reduceLeDiff, Nat.reduceEqDiff, Int32.reduceAdd, Bool.not_true, Bool.not_false, Bool.and_true, Bool.true_and, Bool.and_false, Bool.false_and, Bool.or_false, Bool.false_or, Bool.or_true, Bool.true_or, if_true, if_false, ite_true, ite_false, Bool.false_eq_true, List.getElem?_cons_zero, List.getElem?_cons_succ, List.length_cons, List.length_nil, true_and, and_true, List.set_cons_zero, List.set_cons_succ, Fin.isValue, Fin.val_zero, Fin.val_one, Fin.val_two, Fin.reduceFinMk, Nat.zero_add, hr, hb, gr, gb]
      simp (disch := omega) only [lit_0, lit_1, lit_2, lit_3, lit_4, lit_5, lit_6, lit_7, lit_8, lit_9, lit_10, lit_16, lit_40, lit_48, lit_60, lit_67, lit_76, lit_82, lit_99, lit_100, lit_255, lit_508, lit_720, lit_1023, nI_1, nI_add, pk_sub, pk_mul, pk_div, nu_rem2, nI_clamp, nu_m, nu_m', nu_lm, nu_ml, nu_ltm, nu_mlt, nu_mm, nu_dec, nu_in, nu_le, nu_lt, nu_eq, true_and, and_true, false_imp_iff, true_imp_iff, not_true_eq_false, not_false_eq_true, Nat.not_lt_zero, Nat.zero_le, Nat.le_refl, Nat.lt_irrefl, Nat.reduceEqDiff, Nat.reduceLT, Nat.reduceLeDiff, Nat.reduceAdd, Nat.reduceSub, Nat.reduceMul, Nat.reduceMod, Nat.reduceDiv, Nat.one_ne_zero, Nat.zero_ne_one, ft_0_0, ft_0_1, ft_0_2, ft_0_3, ft_0_4, ft_1_0, ft_1_1, ft_1_2, ft_2_0, ft_2_1, ft_2_2, ft_2_3, ft_2_4, ft_2_5, ft_2_6, ft_2_7, ft_2_8, ft_2_9, ft_2_10, ft_3_0, ft_3_1, ft_3_2, ft_3_3, ft_4_0, ft_4_1, ft_4_2, ft_4_3, ft_4_4, ft_4_5, ft_4_6, ft_5_0, ft_5_1, ft_6_0, ft_6_1, ft_6_2, ft_6_3, ft_6_4, ft_6_5, ft_6_6, ft_7_0, ft_7_1, ft_7_2, ft_7_3, ft_7_4, ft_7_5, ft_7_6, ft_7_7, ft_7_8, ft_7_9, ft_7_10, ft_7_11, ft_7_12, ft_7_13, ft_8_0, ft_8_1, ft_8_2, ft_8_3, ft_8_4, ft_8_5, ft_8_6, ft_8_7, ft_8_8, ft_8_9, ft_8_10, ft_8_11, ft_8_12, ft_8_13, ft_8_14, ft_8_15, ft_8_16, ft_8_17, ft_8_18, ft_8_19, ft_8_20, ft_8_21, ft_8_22, ft_8_23, ft_8_24, ft_8_25, ft_8_26, ft_8_27, ft_8_28, ft_8_29, ft_8_30, ft_8_31, ft_8_32, ft_8_33, ft_8_34, ft_8_35, ft_8_36, ft_8_37, ft_8_38, ft_8_39, ft_8_40, ft_8_41, nu_fitI, nu_fitL, nu_fitO, nu_fitA, nu_fitB0, nu_fitB1]
      have hxy : xs = ys := by
        apply List.ext_getElem? 
        intro i
        by_cases hi : i < xs.length
        · have := a3 i hi
          rw [List.getD_eq_getElem?_getD, List.getD_eq_getElem?_getD, List.getElem?_eq_getElem hi, List.getElem?_eq_getElem (by omega)] at this
          rw [List.getElem?_eq_getElem hi, List.getElem?_eq_getElem (by omega)]
          exact congrArg some this
        · rw [List.getElem?_eq_none (by omega), List.getElem?_eq_none (by omega)]
      simp [hxy, lit_1]
    | succ m ih =>
      intro k hm hk hlen a3
      have hk' : k < xs.length := by omega
      (try simp only [Option.toList_some, Option.toList_none, List.nil_append, List.append_nil, List.cons_append, Nat.sub_zero, Nat.sub_self, Nat.zero_sub]); refine Go.wp sp_34 200 ?_; simp only [↓g34_0, ↓g34_1, ↓g34_4, ↓g34_5, ↓g34_8, ↓g34_11, ↓g34_12, ↓g34_13, ↓g34_14, ↓g34_15, ↓g34_16, ↓g34_17, ↓g34_20, ↓g34_23, ↓g34_24, ↓g34_27, ↓g34_28, ↓g34_28t, ↓g34_29, ↓g34_30, ↓g34_33, ↓g34_34, ↓g34_34t, ↓g34_35, ↓g34_38, ↓g34_39, ↓g34_40, ↓g34_43, ↓g34_46, ↓g34_47, ↓Go_s, ↓GoC_a, ↓reduceIte, ↓mm_call_eq, ↓mmw_nil, ↓mmw_cons, List.take_succ_cons, List.take_zero, List.take_nil, List.drop_succ_cons, List.drop_zero, List.drop_nil, List.reverse_cons, List.reverse_nil, List.nil_append, List.cons_append, List.append_nil, Option.toList_some, Option.toList_none, Nat.sub_zero, Nat.le_refl, mmr_cons, mm_st1, mm_st2, mmi_nil, mmi_cons, mmc_I, mmc_L, mmc_R, mmu_get, mmu_one, mma_get, mma_one, List.filter_cons, List.filter_nil, List.contains_cons, List.contains_nil, Nat.reduceBEq, Nat.reduceAdd, Nat.reduceLT, Nat.reduceSub, Nat.reduceLeDiff, Nat.reduceEqDiff, Int32.reduceAdd, Bool.not_true, Bool.not_false, Bool.and_true, Bool.true_and, Bool.and_false, Bool.false_and, Bool.or_false, Bool.false_or, Bool.or_true, Bool.true_or, if_true, if_false, ite_true, ite_false, Bool.false_eq_true, List.getElem?_cons_zero, List.getElem?_cons_succ, List.length_cons, List.length_nil, true_and, and_true, List.set_cons_zero, List.set_cons_succ, Fin.isValue, Fin.val_zero, Fin.val_one, Fin.val_two, Fin.reduceFinMk, Nat.zero_add, hr, hb, gr, gb]
      have b1 : xs.getD k 0 < 8 := hs _ (getD_mem hk')
      have b2' : ys.getD k 0 < 8 := gs _ (getD_mem (by omega))
      simp (disch := omega) only [lit_0, lit_1, lit_2, lit_3, lit_4, lit_5, lit_6, lit_7, lit_8, lit_9, lit_10, lit_16, lit_40, lit_48, lit_60, lit_67, lit_76, lit_82, lit_99, lit_100, lit_255, lit_508, lit_720, lit_1023, nI_1, nI_add, pk_sub, pk_mul, pk_div, nu_rem2, nI_clamp, nu_m, nu_m', nu_lm, nu_ml, nu_ltm, nu_mlt, nu_mm, nu_dec, nu_in, nu_le, nu_lt, nu_eq, true_and, and_true, false_imp_iff, true_imp_iff, not_true_eq_false, not_false_eq_true, Nat.not_lt_zero, Nat.zero_le, Nat.le_refl, Nat.lt_irrefl, Nat.reduceEqDiff, Nat.reduceLT, Nat.reduceLeDiff, Nat.reduceAdd, Nat.reduceSub, Nat.reduceMul, Nat.reduceMod, Nat.reduceDiv, Nat.one_ne_zero, Nat.zero_ne_one, ft_0_0, ft_0_1, ft_0_2, ft_0_3, ft_0_4, ft_1_0, ft_1_1, ft_1_2, ft_2_0, ft_2_1, ft_2_2, ft_2_3, ft_2_4, ft_2_5, ft_2_6, ft_2_7, ft_2_8, ft_2_9, ft_2_10, ft_3_0, ft_3_1, ft_3_2, ft_3_3, ft_4_0, ft_4_1, ft_4_2, ft_4_3, ft_4_4, ft_4_5, ft_4_6, ft_5_0, ft_5_1, ft_6_0, ft_6_1, ft_6_2, ft_6_3, ft_6_4, ft_6_5, ft_6_6, ft_7_0, ft_7_1, ft_7_2, ft_7_3, ft_7_4, ft_7_5, ft_7_6, ft_7_7, ft_7_8, ft_7_9, ft_7_10, ft_7_11, ft_7_12, ft_7_13, ft_8_0, ft_8_1, ft_8_2, ft_8_3, ft_8_4, ft_8_5, ft_8_6, ft_8_7, ft_8_8, ft_8_9, ft_8_10, ft_8_11, ft_8_12, ft_8_13, ft_8_14, ft_8_15, ft_8_16, ft_8_17, ft_8_18, ft_8_19, ft_8_20, ft_8_21, ft_8_22, ft_8_23, ft_8_24, ft_8_25, ft_8_26, ft_8_27, ft_8_28, ft_8_29, ft_8_30, ft_8_31, ft_8_32, ft_8_33, ft_8_34, ft_8_35, ft_8_36, ft_8_37, ft_8_38, ft_8_39, ft_8_40, ft_8_41, nu_fitI, nu_fitL, nu_fitO, nu_fitA, nu_fitB0, nu_fitB1, hk', Nat.not_le.mpr hk', hf k hk', gf k (hlen ▸ hk')]
      refine ⟨by omega, by omega, fun c => ih (k + 1) (by omega) hk' hlen (fun j hj => ?_), fun c => ?_⟩
      · by_cases e : j = k
        · rw [e, c]
        · exact a3 j (by omega)
      · have hxy : ¬ xs = ys := fun e => c (by rw [e])
        simp [hxy, lit_0]
  refine WM.of mi_34 rfl rfl (Nat.le_of_ble_eq_true rfl) ?_
  show WP (mm_rw mr_34) (some .boolean) tb (WM tb d) _ 0 [(0, vR r), (1, vR r2)] [] h 0 0
  (try simp only [Option.toList_some, Option.toList_none, List.nil_append, List.append_nil, List.cons_append, Nat.sub_zero, Nat.sub_self, Nat.zero_sub]); refine Go.wp sp_34 200 ?_; simp only [↓g34_0, ↓g34_1, ↓g34_4, ↓g34_5, ↓g34_8, ↓g34_11, ↓g34_12, ↓g34_13, ↓g34_14, ↓g34_15, ↓g34_16, ↓g34_17, ↓g34_20, ↓g34_23, ↓g34_24, ↓g34_27, ↓g34_28, ↓g34_28t, ↓g34_29, ↓g34_30, ↓g34_33, ↓g34_34, ↓g34_34t, ↓g34_35, ↓g34_38, ↓g34_39, ↓g34_40, ↓g34_43, ↓g34_46, ↓g34_47, ↓Go_s, ↓GoC_a, ↓reduceIte, ↓mm_call_eq, ↓mmw_nil, ↓mmw_cons, List.take_succ_cons, List.take_zero, List.take_nil, List.drop_succ_cons, List.drop_zero, List.drop_nil, List.reverse_cons, List.reverse_nil, List.nil_append, List.cons_append, List.append_nil, Option.toList_some, Option.toList_none, Nat.sub_zero, Nat.le_refl, mmr_cons, mm_st1, mm_st2, mmi_nil, mmi_cons, mmc_I, mmc_L, mmc_R, mmu_get, mmu_one, mma_get, mma_one, List.filter_cons, List.filter_nil, List.contains_cons, List.contains_nil, Nat.reduceBEq, Nat.reduceAdd, Nat.reduceLT, Nat.reduceSub, Nat.reduceLeDiff, Nat.reduceEqDiff, Int32.reduceAdd, Bool.not_true, Bool.not_false, Bool.and_true, Bool.true_and, Bool.and_false, Bool.false_and, Bool.or_false, Bool.false_or, Bool.or_true, Bool.true_or, if_true, if_false, ite_true, ite_false, Bool.false_eq_true, List.getElem?_cons_zero, List.getElem?_cons_succ, List.length_cons, List.length_nil, true_and, and_true, List.set_cons_zero, List.set_cons_succ, Fin.isValue, Fin.val_zero, Fin.val_one, Fin.val_two, Fin.reduceFinMk, Nat.zero_add, hr, hb, gr, gb]
  simp (disch := omega) only [lit_0, lit_1, lit_2, lit_3, lit_4, lit_5, lit_6, lit_7, lit_8, lit_9, lit_10, lit_16, lit_40, lit_48, lit_60, lit_67, lit_76, lit_82, lit_99, lit_100, lit_255, lit_508, lit_720, lit_1023, nI_1, nI_add, pk_sub, pk_mul, pk_div, nu_rem2, nI_clamp, nu_m, nu_m', nu_lm, nu_ml, nu_ltm, nu_mlt, nu_mm, nu_dec, nu_in, nu_le, nu_lt, nu_eq, true_and, and_true, false_imp_iff, true_imp_iff, not_true_eq_false, not_false_eq_true, Nat.not_lt_zero, Nat.zero_le, Nat.le_refl, Nat.lt_irrefl, Nat.reduceEqDiff, Nat.reduceLT, Nat.reduceLeDiff, Nat.reduceAdd, Nat.reduceSub, Nat.reduceMul, Nat.reduceMod, Nat.reduceDiv, Nat.one_ne_zero, Nat.zero_ne_one, ft_0_0, ft_0_1, ft_0_2, ft_0_3, ft_0_4, ft_1_0, ft_1_1, ft_1_2, ft_2_0, ft_2_1, ft_2_2, ft_2_3, ft_2_4, ft_2_5, ft_2_6, ft_2_7, ft_2_8, ft_2_9, ft_2_10, ft_3_0, ft_3_1, ft_3_2, ft_3_3, ft_4_0, ft_4_1, ft_4_2, ft_4_3, ft_4_4, ft_4_5, ft_4_6, ft_5_0, ft_5_1, ft_6_0, ft_6_1, ft_6_2, ft_6_3, ft_6_4, ft_6_5, ft_6_6, ft_7_0, ft_7_1, ft_7_2, ft_7_3, ft_7_4, ft_7_5, ft_7_6, ft_7_7, ft_7_8, ft_7_9, ft_7_10, ft_7_11, ft_7_12, ft_7_13, ft_8_0, ft_8_1, ft_8_2, ft_8_3, ft_8_4, ft_8_5, ft_8_6, ft_8_7, ft_8_8, ft_8_9, ft_8_10, ft_8_11, ft_8_12, ft_8_13, ft_8_14, ft_8_15, ft_8_16, ft_8_17, ft_8_18, ft_8_19, ft_8_20, ft_8_21, ft_8_22, ft_8_23, ft_8_24, ft_8_25, ft_8_26, ft_8_27, ft_8_28, ft_8_29, ft_8_30, ft_8_31, ft_8_32, ft_8_33, ft_8_34, ft_8_35, ft_8_36, ft_8_37, ft_8_38, ft_8_39, ft_8_40, ft_8_41, nu_fitI, nu_fitL, nu_fitO, nu_fitA, nu_fitB0, nu_fitB1]
  refine ⟨fun c => key _ 0 rfl (Nat.zero_le _) c (fun j hj => absurd hj (Nat.not_lt_zero _)), fun c => ?_⟩
  have hxy : ¬ xs = ys := fun e => c (by rw [e])
  simp [hxy, lit_0]
/-- the bits of some books -/
def bitsL (a : Int32) (xs : List Nat) : Int32 := xs.foldl (fun a v => a ||| ((1 : Int32) <<< (nI v &&& 31))) a
theorem take_snoc {xs : List Nat} {k : Nat} (h : k < xs.length) : xs.take (k + 1) = xs.take k ++ [xs.getD k 0] := by
  rw [List.take_succ, List.getElem?_eq_getElem h, List.getD_eq_getElem?_getD, List.getElem?_eq_getElem h]
  rfl
theorem c_bits (hx : Rw h r b xs) : WM tb (d + 1) k_Row_bits [vR r] h 0 0 (fun z h' => z = some (vI (bitsL 0 xs)) ∧ h' = h) := by
  obtain ⟨f, hr, hb, hl, hs, hf⟩ := hx
  have key : ∀ m k, m = xs.length - k → k ≤ xs.length → WP (mm_rw mr_35) (some .int) tb (WM tb d) (fun z h' => z = some (vI (bitsL 0 xs)) ∧ h' = h) 4 [(0, vR r), (1, vI (bitsL 0 (xs.take k))), (2, vI (nI k))] [] h 0 0 := by
    intro m
    induction m with
    | zero =>
      intro k hm hk
      have e : k = xs.length := by omega
      subst e
      (try simp only [Option.toList_some, Option.toList_none, List.nil_append, List.append_nil, List.cons_append, Nat.sub_zero, Nat.sub_self, Nat.zero_sub]); refine Go.wp sp_35 200 ?_; simp only [↓g35_0, ↓g35_1, ↓g35_2, ↓g35_3, ↓g35_4, ↓g35_5, ↓g35_6, ↓g35_9, ↓g35_12, ↓g35_13, ↓g35_14, ↓g35_15, ↓g35_18, ↓g35_19, ↓g35_19t, ↓g35_20, ↓g35_21, ↓g35_22, ↓g35_23, ↓g35_26, ↓g35_29, ↓g35_30, ↓Go_s, ↓GoC_a, ↓reduceIte, ↓mm_call_eq, ↓mmw_nil, ↓mmw_cons, List.take_succ_cons, List.take_zero, List.take_nil, List.drop_succ_cons, List.drop_zero, List.drop_nil, List.reverse_cons, List.reverse_nil, List.nil_append, List.cons_append, List.append_nil, Option.toList_some, Option.toList_none, Nat.sub_zero, Nat.le_refl, mmr_cons, mm_st1, mm_st2, mmi_nil, mmi_cons, mmc_I, mmc_L, mmc_R, mmu_get, mmu_one, mma_get, mma_one, List.filter_cons, List.filter_nil, List.contains_cons, List.contains_nil, Nat.reduceBEq, Nat.reduceAdd, Nat.reduceLT, Nat.reduceSub, Nat.reduceLeDiff, Nat.reduceEqDiff, Int32.reduceAdd, Bool.not_true, Bool.not_false, Bool.and_true, Bool.true_and, Bool.and_false, Bool.false_and, Bool.or_false, Bool.false_or, Bool.or_true, Bool.true_or, if_true, if_false, ite_true, ite_false, Bool.false_eq_true, List.getElem?_cons_zero, List.getElem?_cons_succ, List.length_cons, List.length_nil, true_and, and_true, List.set_cons_zero, List.set_cons_succ, Fin.isValue, Fin.val_zero, Fin.val_one, Fin.val_two, Fin.reduceFinMk, Nat.zero_add, hr, hb]
      rw [List.take_length]
      simp
    | succ m ih =>
      intro k hm hk
      have hk' : k < xs.length := by omega
      (try simp only [Option.toList_some, Option.toList_none, List.nil_append, List.append_nil, List.cons_append, Nat.sub_zero, Nat.sub_self, Nat.zero_sub]); refine Go.wp sp_35 200 ?_; simp only [↓g35_0, ↓g35_1, ↓g35_2, ↓g35_3, ↓g35_4, ↓g35_5, ↓g35_6, ↓g35_9, ↓g35_12, ↓g35_13, ↓g35_14, ↓g35_15, ↓g35_18, ↓g35_19, ↓g35_19t, ↓g35_20, ↓g35_21, ↓g35_22, ↓g35_23, ↓g35_26, ↓g35_29, ↓g35_30, ↓Go_s, ↓GoC_a, ↓reduceIte, ↓mm_call_eq, ↓mmw_nil, ↓mmw_cons, List.take_succ_cons, List.take_zero, List.take_nil, List.drop_succ_cons, List.drop_zero, List.drop_nil, List.reverse_cons, List.reverse_nil, List.nil_append, List.cons_append, List.append_nil, Option.toList_some, Option.toList_none, Nat.sub_zero, Nat.le_refl, mmr_cons, mm_st1, mm_st2, mmi_nil, mmi_cons, mmc_I, mmc_L, mmc_R, mmu_get, mmu_one, mma_get, mma_one, List.filter_cons, List.filter_nil, List.contains_cons, List.contains_nil, Nat.reduceBEq, Nat.reduceAdd, Nat.reduceLT, Nat.reduceSub, Nat.reduceLeDiff, Nat.reduceEqDiff, Int32.reduceAdd, Bool.not_true, Bool.not_false, Bool.and_true, Bool.true_and, Bool.and_false, Bool.false_and, Bool.or_false, Bool.false_or, Bool.or_true, Bool.true_or, if_true, if_false, ite_true, ite_false, Bool.false_eq_true, List.getElem?_cons_zero, List.getElem?_cons_succ, List.length_cons, List.length_nil, true_and, and_true, List.set_cons_zero, List.set_cons_succ, Fin.isValue, Fin.val_zero, Fin.val_one, Fin.val_two, Fin.reduceFinMk, Nat.zero_add, hr, hb]
      refine ⟨fun c => absurd c (nI_ge hk' (by omega)), fun _ => ⟨vp_in_nI (by omega) (by omega), ?_⟩⟩
      rw [nI_clamp (by omega), hf k hk', nI_1]
      have := ih (k + 1) (by omega) hk'
      rw [take_snoc hk'] at this
      unfold bitsL at this ⊢
      rw [List.foldl_append] at this
      exact this
  refine WM.of mi_35 rfl rfl (Nat.le_of_ble_eq_true rfl) ?_
  show WP (mm_rw mr_35) (some .int) tb (WM tb d) _ 0 [(0, vR r)] [] h 0 0
  (try simp only [Option.toList_some, Option.toList_none, List.nil_append, List.append_nil, List.cons_append, Nat.sub_zero, Nat.sub_self, Nat.zero_sub]); refine Go.wp sp_35 200 ?_; simp only [↓g35_0, ↓g35_1, ↓g35_2, ↓g35_3, ↓g35_4, ↓g35_5, ↓g35_6, ↓g35_9, ↓g35_12, ↓g35_13, ↓g35_14, ↓g35_15, ↓g35_18, ↓g35_19, ↓g35_19t, ↓g35_20, ↓g35_21, ↓g35_22, ↓g35_23, ↓g35_26, ↓g35_29, ↓g35_30, ↓Go_s, ↓GoC_a, ↓reduceIte, ↓mm_call_eq, ↓mmw_nil, ↓mmw_cons, List.take_succ_cons, List.take_zero, List.take_nil, List.drop_succ_cons, List.drop_zero, List.drop_nil, List.reverse_cons, List.reverse_nil, List.nil_append, List.cons_append, List.append_nil, Option.toList_some, Option.toList_none, Nat.sub_zero, Nat.le_refl, mmr_cons, mm_st1, mm_st2, mmi_nil, mmi_cons, mmc_I, mmc_L, mmc_R, mmu_get, mmu_one, mma_get, mma_one, List.filter_cons, List.filter_nil, List.contains_cons, List.contains_nil, Nat.reduceBEq, Nat.reduceAdd, Nat.reduceLT, Nat.reduceSub, Nat.reduceLeDiff, Nat.reduceEqDiff, Int32.reduceAdd, Bool.not_true, Bool.not_false, Bool.and_true, Bool.true_and, Bool.and_false, Bool.false_and, Bool.or_false, Bool.false_or, Bool.or_true, Bool.true_or, if_true, if_false, ite_true, ite_false, Bool.false_eq_true, List.getElem?_cons_zero, List.getElem?_cons_succ, List.length_cons, List.length_nil, true_and, and_true, List.set_cons_zero, List.set_cons_succ, Fin.isValue, Fin.val_zero, Fin.val_one, Fin.val_two, Fin.reduceFinMk, Nat.zero_add, hr, hb]
  exact key _ 0 rfl (Nat.zero_le _)
theorem c_fill {q n : Nat} {f : Nat → Int32} (hq : h.2 q = some (cI n f)) (hn : n < 2 ^ 31) (v : Int32) : WM tb (d + 1) k_Arrays_fill [vR q, vI v] h 0 0 (fun z h' => z = none ∧ h' = mm_up h q (cI n (fun j => if j < n then v else f j))) := by
  have key : ∀ m k (h' : AH) (g : Nat → Int32), m = n - k → k ≤ n → h'.2 q = some (cI n g) → (∀ j, g j = if j < k then v else f j) → mm_up h' q (cI n (fun j => if j < n then v else f j)) = mm_up h q (cI n (fun j => if j < n then v else f j)) → h' = mm_up h q (cI n g) → WP (mm_rw mr_159) none tb (WM tb d) (fun z h' => z = none ∧ h' = mm_up h q (cI n (fun j => if j < n then v else f j))) 5 [(0, vR q), (1, vI v), (2, vI (nI k)), (3, vI (Int32.ofNat n))] [] h' 0 0 := by
    intro m
    induction m with
    | zero =>
      intro k h' g hm hk a1 a2 a3 a4
      have e : k = n := by omega
      subst e
      (try simp only [Option.toList_some, Option.toList_none, List.nil_append, List.append_nil, List.cons_append, Nat.sub_zero, Nat.sub_self, Nat.zero_sub]); refine Go.wp sp_159 200 ?_; simp only [↓g159_0, ↓g159_1, ↓g159_2, ↓g159_3, ↓g159_3t, ↓g159_4, ↓g159_5, ↓g159_6, ↓g159_7, ↓g159_10, ↓g159_11, ↓g159_12, ↓g159_13, ↓g159_14, ↓g159_17, ↓g159_20, ↓Go_s, ↓GoC_a, ↓reduceIte, ↓mm_call_eq, ↓mmw_nil, ↓mmw_cons, List.take_succ_cons, List.take_zero, List.take_nil, List.drop_succ_cons, List.drop_zero, List.drop_nil, List.reverse_cons, List.reverse_nil, List.nil_append, List.cons_append, List.append_nil, Option.toList_some, Option.toList_none, Nat.sub_zero, Nat.le_refl, mmr_cons, mm_st1, mm_st2, mmi_nil, mmi_cons, mmc_I, mmc_L, mmc_R, mmu_get, mmu_one, mma_get, mma_one, List.filter_cons, List.filter_nil, List.contains_cons, List.contains_nil, Nat.reduceBEq, Nat.reduceAdd, Nat.reduceLT, Nat.reduceSub, Nat.reduceLeDiff, Nat.reduceEqDiff, Int32.reduceAdd, Bool.not_true, Bool.not_false, Bool.and_true, Bool.true_and, Bool.and_false, Bool.false_and, Bool.or_false, Bool.false_or, Bool.or_true, Bool.true_or, if_true, if_false, ite_true, ite_false, Bool.false_eq_true, List.getElem?_cons_zero, List.getElem?_cons_succ, List.length_cons, List.length_nil, true_and, and_true, List.set_cons_zero, List.set_cons_succ, Fin.isValue, Fin.val_zero, Fin.val_one, Fin.val_two, Fin.reduceFinMk, Nat.zero_add, a1]
      refine ⟨fun _ => ?_, fun c => absurd (Int32.le_refl _) c⟩
      rw [a4]
      congr 3
      funext j
      exact a2 j
    | succ m ih =>
      intro k h' g hm hk a1 a2 a3 a4
      have hk' : k < n := by omega
      (try simp only [Option.toList_some, Option.toList_none, List.nil_append, List.append_nil, List.cons_append, Nat.sub_zero, Nat.sub_self, Nat.zero_sub]); refine Go.wp sp_159 200 ?_; simp only [↓g159_0, ↓g159_1, ↓g159_2, ↓g159_3, ↓g159_3t, ↓g159_4, ↓g159_5, ↓g159_6, ↓g159_7, ↓g159_10, ↓g159_11, ↓g159_12, ↓g159_13, ↓g159_14, ↓g159_17, ↓g159_20, ↓Go_s, ↓GoC_a, ↓reduceIte, ↓mm_call_eq, ↓mmw_nil, ↓mmw_cons, List.take_succ_cons, List.take_zero, List.take_nil, List.drop_succ_cons, List.drop_zero, List.drop_nil, List.reverse_cons, List.reverse_nil, List.nil_append, List.cons_append, List.append_nil, Option.toList_some, Option.toList_none, Nat.sub_zero, Nat.le_refl, mmr_cons, mm_st1, mm_st2, mmi_nil, mmi_cons, mmc_I, mmc_L, mmc_R, mmu_get, mmu_one, mma_get, mma_one, List.filter_cons, List.filter_nil, List.contains_cons, List.contains_nil, Nat.reduceBEq, Nat.reduceAdd, Nat.reduceLT, Nat.reduceSub, Nat.reduceLeDiff, Nat.reduceEqDiff, Int32.reduceAdd, Bool.not_true, Bool.not_false, Bool.and_true, Bool.true_and, Bool.and_false, Bool.false_and, Bool.or_false, Bool.false_or, Bool.or_true, Bool.true_or, if_true, if_false, ite_true, ite_false, Bool.false_eq_true, List.getElem?_cons_zero, List.getElem?_cons_succ, List.length_cons, List.length_nil, true_and, and_true, List.set_cons_zero, List.set_cons_succ, Fin.isValue, Fin.val_zero, Fin.val_one, Fin.val_two, Fin.reduceFinMk, Nat.zero_add, a1]
      refine ⟨fun c => absurd c (nI_ge hk' hn), fun _ => ⟨vp_in_nI hk' hn, ?_⟩⟩
      rw [nI_clamp (by omega), nI_1]
      refine ih (k + 1) _ (upd g k v) (by omega) hk' (by simp only [mmu_get, if_true]) (fun j => ?_) ?_ ?_
      · unfold upd
        by_cases e : j = k
        · rw [if_pos e, if_pos (by omega)]
        · rw [if_neg e, a2 j]
          by_cases e2 : j < k
          · rw [if_pos e2, if_pos (by omega)]
          · rw [if_neg e2, if_neg (by omega)]
      · rw [← a3]
        unfold mm_up
        congr 1
        funext j
        dsimp only
        split <;> rfl
      · rw [a4]
        unfold mm_up
        congr 1
        funext j
        dsimp only
        split <;> rfl
  refine WM.of mi_159 rfl rfl (Nat.le_of_ble_eq_true rfl) ?_
  show WP (mm_rw mr_159) none tb (WM tb d) _ 0 [(0, vR q), (1, vI v)] [] h 0 0
  (try simp only [Option.toList_some, Option.toList_none, List.nil_append, List.append_nil, List.cons_append, Nat.sub_zero, Nat.sub_self, Nat.zero_sub]); refine Go.wp sp_159 200 ?_; simp only [↓g159_0, ↓g159_1, ↓g159_2, ↓g159_3, ↓g159_3t, ↓g159_4, ↓g159_5, ↓g159_6, ↓g159_7, ↓g159_10, ↓g159_11, ↓g159_12, ↓g159_13, ↓g159_14, ↓g159_17, ↓g159_20, ↓Go_s, ↓GoC_a, ↓reduceIte, ↓mm_call_eq, ↓mmw_nil, ↓mmw_cons, List.take_succ_cons, List.take_zero, List.take_nil, List.drop_succ_cons, List.drop_zero, List.drop_nil, List.reverse_cons, List.reverse_nil, List.nil_append, List.cons_append, List.append_nil, Option.toList_some, Option.toList_none, Nat.sub_zero, Nat.le_refl, mmr_cons, mm_st1, mm_st2, mmi_nil, mmi_cons, mmc_I, mmc_L, mmc_R, mmu_get, mmu_one, mma_get, mma_one, List.filter_cons, List.filter_nil, List.contains_cons, List.contains_nil, Nat.reduceBEq, Nat.reduceAdd, Nat.reduceLT, Nat.reduceSub, Nat.reduceLeDiff, Nat.reduceEqDiff, Int32.reduceAdd, Bool.not_true, Bool.not_false, Bool.and_true, Bool.true_and, Bool.and_false, Bool.false_and, Bool.or_false, Bool.false_or, Bool.or_true, Bool.true_or, if_true, if_false, ite_true, ite_false, Bool.false_eq_true, List.getElem?_cons_zero, List.getElem?_cons_succ, List.length_cons, List.length_nil, true_and, and_true, List.set_cons_zero, List.set_cons_succ, Fin.isValue, Fin.val_zero, Fin.val_one, Fin.val_two, Fin.reduceFinMk, Nat.zero_add, hq]
  refine key n 0 h f rfl (Nat.zero_le _) hq (fun j => by rw [if_neg (Nat.not_lt_zero _)]) rfl ?_
  obtain ⟨a, b⟩ := h
  unfold mm_up
  congr 1
  funext j
  dsimp only
  split
  · rename_i e
    rw [e]
    exact hq
  · rfl
end ROW2
