/-! rows, stood, next: the model -/
abbrev sp_144 : List Nat := [10, 40, 62, 75, 89]
section G144
variable {tb : Nat → Nat × (Nat → Int32)} {call : CO} {Q : AQ} {C : CP} {lv : AL} {st : List AV} {h : AH} {kc ks : Nat}
theorem g144_0  : mm_step (mm_rw mr_144) (some .boolean) tb call Q C 0 lv st h kc ks = (match mm_rd lv 0 with
    | some (.inr (.inr (.inl (some k)))) => C 1 lv (vR k :: st) h kc ks
    | some (.inr (.inr (.inr t))) => C 1 lv (vT t :: st) h kc ks
    | _ => False) := rfl
theorem g144_1  : mm_step (mm_rw mr_144) (some .boolean) tb call Q C 1 lv st h kc ks = (match mm_rd lv 0 with
    | some (.inr (.inr (.inl (some k)))) => C 2 lv (vR k :: st) h kc ks
    | some (.inr (.inr (.inr t))) => C 2 lv (vT t :: st) h kc ks
    | _ => False) := rfl
theorem g144_2 (k : Nat) : mm_step (mm_rw mr_144) (some .boolean) tb call Q C 2 lv (.inr (.inr (.inl (some k))) :: st) h kc ks = (match h.2 k with
    | some (.inr (.inr (ci, fs))) => ci = 8 ∧ (match fs[11]? with
      | some v => C 5 lv (v :: st) h kc ks
      | none => False)
    | _ => False) := rfl
theorem g144_5 (v : AV) (k : Nat) : mm_step (mm_rw mr_144) (some .boolean) tb call Q C 5 lv (v :: .inr (.inr (.inl (some k))) :: st) h kc ks = (match h.2 k with
    | some (.inr (.inr (ci, fs))) => ci = 8 ∧ 26 < fs.length ∧ mm_fit (mm_ft 8 26) v ∧ C 8 lv st (mm_up h k (cO ci (fs.set 26 v))) kc ks
    | _ => False) := rfl
theorem g144_8  : mm_step (mm_rw mr_144) (some .boolean) tb call Q C 8 lv st h kc ks = (C 9 lv (vI 0 :: st) h kc ks) := rfl
theorem g144_9 (a : Int32) : mm_step (mm_rw mr_144) (some .boolean) tb call Q C 9 lv (.inl a :: st) h kc ks = (C 10 (mm_st1 lv 1 (vI a)) st h kc ks) := rfl
theorem g144_10  : mm_step (mm_rw mr_144) (some .boolean) tb call Q C 10 lv st h kc ks = (match mm_rd lv 1 with
    | some (.inl a) => C 11 lv (vI a :: st) h kc ks
    | _ => False) := rfl
theorem g144_11  : mm_step (mm_rw mr_144) (some .boolean) tb call Q C 11 lv st h kc ks = (match mm_rd lv 0 with
    | some (.inr (.inr (.inl (some k)))) => C 12 lv (vR k :: st) h kc ks
    | some (.inr (.inr (.inr t))) => C 12 lv (vT t :: st) h kc ks
    | _ => False) := rfl
theorem g144_12 (k : Nat) : mm_step (mm_rw mr_144) (some .boolean) tb call Q C 12 lv (.inr (.inr (.inl (some k))) :: st) h kc ks = (match h.2 k with
    | some (.inr (.inr (ci, fs))) => ci = 8 ∧ (match fs[11]? with
      | some v => C 15 lv (v :: st) h kc ks
      | none => False)
    | _ => False) := rfl
theorem g144_15 (a b : Int32) : mm_step (mm_rw mr_144) (some .boolean) tb call Q C 15 lv (.inl b :: .inl a :: st) h kc ks = ((b ≤ a → C 36 lv st h kc ks) ∧ (¬ b ≤ a → C 18 lv st h kc ks)) := rfl
theorem g144_18  : mm_step (mm_rw mr_144) (some .boolean) tb call Q C 18 lv st h kc ks = (match mm_rd lv 0 with
    | some (.inr (.inr (.inl (some k)))) => C 19 lv (vR k :: st) h kc ks
    | some (.inr (.inr (.inr t))) => C 19 lv (vT t :: st) h kc ks
    | _ => False) := rfl
theorem g144_19 (k : Nat) : mm_step (mm_rw mr_144) (some .boolean) tb call Q C 19 lv (.inr (.inr (.inl (some k))) :: st) h kc ks = (match h.2 k with
    | some (.inr (.inr (ci, fs))) => ci = 8 ∧ (match fs[25]? with
      | some v => C 22 lv (v :: st) h kc ks
      | none => False)
    | _ => False) := rfl
theorem g144_22  : mm_step (mm_rw mr_144) (some .boolean) tb call Q C 22 lv st h kc ks = (match mm_rd lv 1 with
    | some (.inl a) => C 23 lv (vI a :: st) h kc ks
    | _ => False) := rfl
theorem g144_23  : mm_step (mm_rw mr_144) (some .boolean) tb call Q C 23 lv st h kc ks = (match mm_rd lv 0 with
    | some (.inr (.inr (.inl (some k)))) => C 24 lv (vR k :: st) h kc ks
    | some (.inr (.inr (.inr t))) => C 24 lv (vT t :: st) h kc ks
    | _ => False) := rfl
theorem g144_24 (k : Nat) : mm_step (mm_rw mr_144) (some .boolean) tb call Q C 24 lv (.inr (.inr (.inl (some k))) :: st) h kc ks = (match h.2 k with
    | some (.inr (.inr (ci, fs))) => ci = 8 ∧ (match fs[36]? with
      | some v => C 27 lv (v :: st) h kc ks
      | none => False)
    | _ => False) := rfl
theorem g144_27  : mm_step (mm_rw mr_144) (some .boolean) tb call Q C 27 lv st h kc ks = (match mm_rd lv 1 with
    | some (.inl a) => C 28 lv (vI a :: st) h kc ks
    | _ => False) := rfl
theorem g144_28 (i : Int32) (k : Nat) : mm_step (mm_rw mr_144) (some .boolean) tb call Q C 28 lv (.inl i :: .inr (.inr (.inl (some k))) :: st) h kc ks = (match h.2 k with
    | some (.inl (.int, n, f)) => vp_in i n ∧ C 29 lv (vI (f i.toNatClampNeg) :: st) h kc ks
    | _ => False) := rfl
theorem g144_28t (i : Int32) (t : Nat) : mm_step (mm_rw mr_144) (some .boolean) tb call Q C 28 lv (.inl i :: .inr (.inr (.inr t)) :: st) h kc ks = (vp_in i (tb t).1 ∧ C 29 lv (vI ((tb t).2 i.toNatClampNeg) :: st) h kc ks) := rfl
theorem g144_29 (v i : Int32) (k : Nat) : mm_step (mm_rw mr_144) (some .boolean) tb call Q C 29 lv (.inl v :: .inl i :: .inr (.inr (.inl (some k))) :: st) h kc ks = (match h.2 k with
    | some (.inl (.int, n, f)) => vp_in i n ∧ C 30 lv st (mm_up h k (cI n (upd f i.toNatClampNeg v))) kc ks
    | _ => False) := rfl
theorem g144_30  : mm_step (mm_rw mr_144) (some .boolean) tb call Q C 30 lv st h kc ks = (match mm_rd lv 1 with
    | some (.inl a) => C 33 (mm_st1 lv 1 (vI (a + 1))) st h kc ks
    | _ => False) := rfl
theorem g144_33  : mm_step (mm_rw mr_144) (some .boolean) tb call Q C 33 lv st h kc ks = (C 10 lv st h kc ks) := rfl
theorem g144_36  : mm_step (mm_rw mr_144) (some .boolean) tb call Q C 36 lv st h kc ks = (C 37 lv (vI 1 :: st) h kc ks) := rfl
theorem g144_37 (a : Int32) : mm_step (mm_rw mr_144) (some .boolean) tb call Q C 37 lv (.inl a :: st) h kc ks = (C 38 (mm_st1 lv 1 (vI a)) st h kc ks) := rfl
theorem g144_38  : mm_step (mm_rw mr_144) (some .boolean) tb call Q C 38 lv st h kc ks = (C 39 lv (vI 0 :: st) h kc ks) := rfl
theorem g144_39 (a : Int32) : mm_step (mm_rw mr_144) (some .boolean) tb call Q C 39 lv (.inl a :: st) h kc ks = (C 40 (mm_st1 lv 2 (vI a)) st h kc ks) := rfl
theorem g144_40  : mm_step (mm_rw mr_144) (some .boolean) tb call Q C 40 lv st h kc ks = (match mm_rd lv 2 with
    | some (.inl a) => C 41 lv (vI a :: st) h kc ks
    | _ => False) := rfl
theorem g144_41  : mm_step (mm_rw mr_144) (some .boolean) tb call Q C 41 lv st h kc ks = (match mm_rd lv 0 with
    | some (.inr (.inr (.inl (some k)))) => C 42 lv (vR k :: st) h kc ks
    | some (.inr (.inr (.inr t))) => C 42 lv (vT t :: st) h kc ks
    | _ => False) := rfl
theorem g144_42 (k : Nat) : mm_step (mm_rw mr_144) (some .boolean) tb call Q C 42 lv (.inr (.inr (.inl (some k))) :: st) h kc ks = (match h.2 k with
    | some (.inr (.inr (ci, fs))) => ci = 8 ∧ (match fs[33]? with
      | some v => C 45 lv (v :: st) h kc ks
      | none => False)
    | _ => False) := rfl
theorem g144_45 (a b : Int32) : mm_step (mm_rw mr_144) (some .boolean) tb call Q C 45 lv (.inl b :: .inl a :: st) h kc ks = ((b ≤ a → C 110 lv st h kc ks) ∧ (¬ b ≤ a → C 48 lv st h kc ks)) := rfl
theorem g144_48  : mm_step (mm_rw mr_144) (some .boolean) tb call Q C 48 lv st h kc ks = (match mm_rd lv 1 with
    | some (.inl a) => C 49 lv (vI a :: st) h kc ks
    | _ => False) := rfl
theorem g144_49 (a : Int32) : mm_step (mm_rw mr_144) (some .boolean) tb call Q C 49 lv (.inl a :: st) h kc ks = ((a = 0 → C 110 lv st h kc ks) ∧ (¬ a = 0 → C 52 lv st h kc ks)) := rfl
theorem g144_52  : mm_step (mm_rw mr_144) (some .boolean) tb call Q C 52 lv st h kc ks = (match mm_rd lv 0 with
    | some (.inr (.inr (.inl (some k)))) => C 53 lv (vR k :: st) h kc ks
    | some (.inr (.inr (.inr t))) => C 53 lv (vT t :: st) h kc ks
    | _ => False) := rfl
theorem g144_53  : mm_step (mm_rw mr_144) (some .boolean) tb call Q C 53 lv st h kc ks = (match mm_rd lv 0 with
    | some (.inr (.inr (.inl (some k)))) => C 54 lv (vR k :: st) h kc ks
    | some (.inr (.inr (.inr t))) => C 54 lv (vT t :: st) h kc ks
    | _ => False) := rfl
theorem g144_54 (k : Nat) : mm_step (mm_rw mr_144) (some .boolean) tb call Q C 54 lv (.inr (.inr (.inl (some k))) :: st) h kc ks = (match h.2 k with
    | some (.inr (.inr (ci, fs))) => ci = 8 ∧ (match fs[34]? with
      | some v => C 57 lv (v :: st) h kc ks
      | none => False)
    | _ => False) := rfl
theorem g144_57  : mm_step (mm_rw mr_144) (some .boolean) tb call Q C 57 lv st h kc ks = (match mm_rd lv 2 with
    | some (.inl a) => C 58 lv (vI a :: st) h kc ks
    | _ => False) := rfl
theorem g144_58 (i : Int32) (k : Nat) : mm_step (mm_rw mr_144) (some .boolean) tb call Q C 58 lv (.inl i :: .inr (.inr (.inl (some k))) :: st) h kc ks = (match h.2 k with
    | some (.inl (.int, n, f)) => vp_in i n ∧ C 59 lv (vI (f i.toNatClampNeg) :: st) h kc ks
    | _ => False) := rfl
theorem g144_58t (i : Int32) (t : Nat) : mm_step (mm_rw mr_144) (some .boolean) tb call Q C 58 lv (.inl i :: .inr (.inr (.inr t)) :: st) h kc ks = (vp_in i (tb t).1 ∧ C 59 lv (vI ((tb t).2 i.toNatClampNeg) :: st) h kc ks) := rfl
theorem g144_59  : mm_step (mm_rw mr_144) (some .boolean) tb call Q C 59 lv st h kc ks = ((match (st.take 2).reverse with
    | .inr (.inr (.inl (some k))) :: _ => (match h.2 k with
      | some (.inr (.inr (ci, _))) => mm_cn ci = (mm_mi 107).1.cls
      | _ => False)
    | _ => False) ∧ mm_call call C 107 2 59 lv st h kc ks) := rfl
theorem g144_62 (a : Int32) : mm_step (mm_rw mr_144) (some .boolean) tb call Q C 62 lv (.inl a :: st) h kc ks = ((a = 0 → C 102 lv st h kc ks) ∧ (¬ a = 0 → C 65 lv st h kc ks)) := rfl
theorem g144_65  : mm_step (mm_rw mr_144) (some .boolean) tb call Q C 65 lv st h kc ks = (match mm_rd lv 0 with
    | some (.inr (.inr (.inl (some k)))) => C 66 lv (vR k :: st) h kc ks
    | some (.inr (.inr (.inr t))) => C 66 lv (vT t :: st) h kc ks
    | _ => False) := rfl
theorem g144_66  : mm_step (mm_rw mr_144) (some .boolean) tb call Q C 66 lv st h kc ks = (match mm_rd lv 0 with
    | some (.inr (.inr (.inl (some k)))) => C 67 lv (vR k :: st) h kc ks
    | some (.inr (.inr (.inr t))) => C 67 lv (vT t :: st) h kc ks
    | _ => False) := rfl
theorem g144_67 (k : Nat) : mm_step (mm_rw mr_144) (some .boolean) tb call Q C 67 lv (.inr (.inr (.inl (some k))) :: st) h kc ks = (match h.2 k with
    | some (.inr (.inr (ci, fs))) => ci = 8 ∧ (match fs[35]? with
      | some v => C 70 lv (v :: st) h kc ks
      | none => False)
    | _ => False) := rfl
theorem g144_70  : mm_step (mm_rw mr_144) (some .boolean) tb call Q C 70 lv st h kc ks = (match mm_rd lv 2 with
    | some (.inl a) => C 71 lv (vI a :: st) h kc ks
    | _ => False) := rfl
theorem g144_71 (i : Int32) (k : Nat) : mm_step (mm_rw mr_144) (some .boolean) tb call Q C 71 lv (.inl i :: .inr (.inr (.inl (some k))) :: st) h kc ks = (match h.2 k with
    | some (.inl (.int, n, f)) => vp_in i n ∧ C 72 lv (vI (f i.toNatClampNeg) :: st) h kc ks
    | _ => False) := rfl
theorem g144_71t (i : Int32) (t : Nat) : mm_step (mm_rw mr_144) (some .boolean) tb call Q C 71 lv (.inl i :: .inr (.inr (.inr t)) :: st) h kc ks = (vp_in i (tb t).1 ∧ C 72 lv (vI ((tb t).2 i.toNatClampNeg) :: st) h kc ks) := rfl
theorem g144_72  : mm_step (mm_rw mr_144) (some .boolean) tb call Q C 72 lv st h kc ks = ((match (st.take 2).reverse with
    | .inr (.inr (.inl (some k))) :: _ => (match h.2 k with
      | some (.inr (.inr (ci, _))) => mm_cn ci = (mm_mi 107).1.cls
      | _ => False)
    | _ => False) ∧ mm_call call C 107 2 72 lv st h kc ks) := rfl
theorem g144_75 (a : Int32) : mm_step (mm_rw mr_144) (some .boolean) tb call Q C 75 lv (.inl a :: st) h kc ks = ((a = 0 → C 102 lv st h kc ks) ∧ (¬ a = 0 → C 78 lv st h kc ks)) := rfl
theorem g144_78  : mm_step (mm_rw mr_144) (some .boolean) tb call Q C 78 lv st h kc ks = (match mm_rd lv 0 with
    | some (.inr (.inr (.inl (some k)))) => C 79 lv (vR k :: st) h kc ks
    | some (.inr (.inr (.inr t))) => C 79 lv (vT t :: st) h kc ks
    | _ => False) := rfl
theorem g144_79  : mm_step (mm_rw mr_144) (some .boolean) tb call Q C 79 lv st h kc ks = (match mm_rd lv 0 with
    | some (.inr (.inr (.inl (some k)))) => C 80 lv (vR k :: st) h kc ks
    | some (.inr (.inr (.inr t))) => C 80 lv (vT t :: st) h kc ks
    | _ => False) := rfl
theorem g144_80 (k : Nat) : mm_step (mm_rw mr_144) (some .boolean) tb call Q C 80 lv (.inr (.inr (.inl (some k))) :: st) h kc ks = (match h.2 k with
    | some (.inr (.inr (ci, fs))) => ci = 8 ∧ (match fs[34]? with
      | some v => C 83 lv (v :: st) h kc ks
      | none => False)
    | _ => False) := rfl
theorem g144_83  : mm_step (mm_rw mr_144) (some .boolean) tb call Q C 83 lv st h kc ks = (match mm_rd lv 2 with
    | some (.inl a) => C 84 lv (vI a :: st) h kc ks
    | _ => False) := rfl
theorem g144_84 (i : Int32) (k : Nat) : mm_step (mm_rw mr_144) (some .boolean) tb call Q C 84 lv (.inl i :: .inr (.inr (.inl (some k))) :: st) h kc ks = (match h.2 k with
    | some (.inl (.int, n, f)) => vp_in i n ∧ C 85 lv (vI (f i.toNatClampNeg) :: st) h kc ks
    | _ => False) := rfl
theorem g144_84t (i : Int32) (t : Nat) : mm_step (mm_rw mr_144) (some .boolean) tb call Q C 84 lv (.inl i :: .inr (.inr (.inr t)) :: st) h kc ks = (vp_in i (tb t).1 ∧ C 85 lv (vI ((tb t).2 i.toNatClampNeg) :: st) h kc ks) := rfl
theorem g144_85  : mm_step (mm_rw mr_144) (some .boolean) tb call Q C 85 lv st h kc ks = (C 86 lv (vI 0 :: st) h kc ks) := rfl
theorem g144_86  : mm_step (mm_rw mr_144) (some .boolean) tb call Q C 86 lv st h kc ks = ((match (st.take 3).reverse with
    | .inr (.inr (.inl (some k))) :: _ => (match h.2 k with
      | some (.inr (.inr (ci, _))) => mm_cn ci = (mm_mi 124).1.cls
      | _ => False)
    | _ => False) ∧ mm_call call C 124 3 86 lv st h kc ks) := rfl
theorem g144_89  : mm_step (mm_rw mr_144) (some .boolean) tb call Q C 89 lv st h kc ks = (match mm_rd lv 0 with
    | some (.inr (.inr (.inl (some k)))) => C 90 lv (vR k :: st) h kc ks
    | some (.inr (.inr (.inr t))) => C 90 lv (vT t :: st) h kc ks
    | _ => False) := rfl
theorem g144_90 (k : Nat) : mm_step (mm_rw mr_144) (some .boolean) tb call Q C 90 lv (.inr (.inr (.inl (some k))) :: st) h kc ks = (match h.2 k with
    | some (.inr (.inr (ci, fs))) => ci = 8 ∧ (match fs[35]? with
      | some v => C 93 lv (v :: st) h kc ks
      | none => False)
    | _ => False) := rfl
theorem g144_93  : mm_step (mm_rw mr_144) (some .boolean) tb call Q C 93 lv st h kc ks = (match mm_rd lv 2 with
    | some (.inl a) => C 94 lv (vI a :: st) h kc ks
    | _ => False) := rfl
theorem g144_94 (i : Int32) (k : Nat) : mm_step (mm_rw mr_144) (some .boolean) tb call Q C 94 lv (.inl i :: .inr (.inr (.inl (some k))) :: st) h kc ks = (match h.2 k with
    | some (.inl (.int, n, f)) => vp_in i n ∧ C 95 lv (vI (f i.toNatClampNeg) :: st) h kc ks
    | _ => False) := rfl
theorem g144_94t (i : Int32) (t : Nat) : mm_step (mm_rw mr_144) (some .boolean) tb call Q C 94 lv (.inl i :: .inr (.inr (.inr t)) :: st) h kc ks = (vp_in i (tb t).1 ∧ C 95 lv (vI ((tb t).2 i.toNatClampNeg) :: st) h kc ks) := rfl
theorem g144_95 (a b : Int32) : mm_step (mm_rw mr_144) (some .boolean) tb call Q C 95 lv (.inl b :: .inl a :: st) h kc ks = ((¬ a = b → C 102 lv st h kc ks) ∧ (a = b → C 98 lv st h kc ks)) := rfl
theorem g144_98  : mm_step (mm_rw mr_144) (some .boolean) tb call Q C 98 lv st h kc ks = (C 99 lv (vI 1 :: st) h kc ks) := rfl
theorem g144_99  : mm_step (mm_rw mr_144) (some .boolean) tb call Q C 99 lv st h kc ks = (C 103 lv st h kc ks) := rfl
theorem g144_102  : mm_step (mm_rw mr_144) (some .boolean) tb call Q C 102 lv st h kc ks = (C 103 lv (vI 0 :: st) h kc ks) := rfl
theorem g144_103 (a : Int32) : mm_step (mm_rw mr_144) (some .boolean) tb call Q C 103 lv (.inl a :: st) h kc ks = (C 104 (mm_st1 lv 1 (vI a)) st h kc ks) := rfl
theorem g144_104  : mm_step (mm_rw mr_144) (some .boolean) tb call Q C 104 lv st h kc ks = (match mm_rd lv 2 with
    | some (.inl a) => C 107 (mm_st1 lv 2 (vI (a + 1))) st h kc ks
    | _ => False) := rfl
theorem g144_107  : mm_step (mm_rw mr_144) (some .boolean) tb call Q C 107 lv st h kc ks = (C 40 lv st h kc ks) := rfl
theorem g144_110  : mm_step (mm_rw mr_144) (some .boolean) tb call Q C 110 lv st h kc ks = (match mm_rd lv 1 with
    | some (.inl a) => C 111 lv (vI a :: st) h kc ks
    | _ => False) := rfl
theorem g144_111 (v : Int32) : mm_step (mm_rw mr_144) (some .boolean) tb call Q C 111 lv [.inl v] h kc ks = ((v = 0 ∨ v = 1) ∧ Q (some (vI v)) h) := rfl
end G144

abbrev sp_145 : List Nat := [2]
section G145
variable {tb : Nat → Nat × (Nat → Int32)} {call : CO} {Q : AQ} {C : CP} {lv : AL} {st : List AV} {h : AH} {kc ks : Nat}
theorem g145_0  : mm_step (mm_rw mr_145) none tb call Q C 0 lv st h kc ks = (C 1 lv (vI 0 :: st) h kc ks) := rfl
theorem g145_1 (a : Int32) : mm_step (mm_rw mr_145) none tb call Q C 1 lv (.inl a :: st) h kc ks = (C 2 (mm_st1 lv 1 (vI a)) st h kc ks) := rfl
theorem g145_2  : mm_step (mm_rw mr_145) none tb call Q C 2 lv st h kc ks = (match mm_rd lv 1 with
    | some (.inl a) => C 3 lv (vI a :: st) h kc ks
    | _ => False) := rfl
theorem g145_3  : mm_step (mm_rw mr_145) none tb call Q C 3 lv st h kc ks = (match mm_rd lv 0 with
    | some (.inr (.inr (.inl (some k)))) => C 4 lv (vR k :: st) h kc ks
    | some (.inr (.inr (.inr t))) => C 4 lv (vT t :: st) h kc ks
    | _ => False) := rfl
theorem g145_4 (k : Nat) : mm_step (mm_rw mr_145) none tb call Q C 4 lv (.inr (.inr (.inl (some k))) :: st) h kc ks = (match h.2 k with
    | some (.inr (.inr (ci, fs))) => ci = 8 ∧ (match fs[11]? with
      | some v => C 7 lv (v :: st) h kc ks
      | none => False)
    | _ => False) := rfl
theorem g145_7 (a b : Int32) : mm_step (mm_rw mr_145) none tb call Q C 7 lv (.inl b :: .inl a :: st) h kc ks = ((b ≤ a → C 45 lv st h kc ks) ∧ (¬ b ≤ a → C 10 lv st h kc ks)) := rfl
theorem g145_10  : mm_step (mm_rw mr_145) none tb call Q C 10 lv st h kc ks = (match mm_rd lv 0 with
    | some (.inr (.inr (.inl (some k)))) => C 11 lv (vR k :: st) h kc ks
    | some (.inr (.inr (.inr t))) => C 11 lv (vT t :: st) h kc ks
    | _ => False) := rfl
theorem g145_11 (k : Nat) : mm_step (mm_rw mr_145) none tb call Q C 11 lv (.inr (.inr (.inl (some k))) :: st) h kc ks = (match h.2 k with
    | some (.inr (.inr (ci, fs))) => ci = 8 ∧ (match fs[38]? with
      | some v => C 14 lv (v :: st) h kc ks
      | none => False)
    | _ => False) := rfl
theorem g145_14  : mm_step (mm_rw mr_145) none tb call Q C 14 lv st h kc ks = (match mm_rd lv 0 with
    | some (.inr (.inr (.inl (some k)))) => C 15 lv (vR k :: st) h kc ks
    | some (.inr (.inr (.inr t))) => C 15 lv (vT t :: st) h kc ks
    | _ => False) := rfl
theorem g145_15 (k : Nat) : mm_step (mm_rw mr_145) none tb call Q C 15 lv (.inr (.inr (.inl (some k))) :: st) h kc ks = (match h.2 k with
    | some (.inr (.inr (ci, fs))) => ci = 8 ∧ (match fs[25]? with
      | some v => C 18 lv (v :: st) h kc ks
      | none => False)
    | _ => False) := rfl
theorem g145_18  : mm_step (mm_rw mr_145) none tb call Q C 18 lv st h kc ks = (match mm_rd lv 1 with
    | some (.inl a) => C 19 lv (vI a :: st) h kc ks
    | _ => False) := rfl
theorem g145_19 (i : Int32) (k : Nat) : mm_step (mm_rw mr_145) none tb call Q C 19 lv (.inl i :: .inr (.inr (.inl (some k))) :: st) h kc ks = (match h.2 k with
    | some (.inl (.int, n, f)) => vp_in i n ∧ C 20 lv (vI (f i.toNatClampNeg) :: st) h kc ks
    | _ => False) := rfl
theorem g145_19t (i : Int32) (t : Nat) : mm_step (mm_rw mr_145) none tb call Q C 19 lv (.inl i :: .inr (.inr (.inr t)) :: st) h kc ks = (vp_in i (tb t).1 ∧ C 20 lv (vI ((tb t).2 i.toNatClampNeg) :: st) h kc ks) := rfl
theorem g145_20 (v w : AV) : mm_step (mm_rw mr_145) none tb call Q C 20 lv (v :: w :: st) h kc ks = (mm_c2 v = false ∧ mm_c2 w = false ∧ C 21 lv (v :: w :: v :: w :: st) h kc ks) := rfl
theorem g145_21 (i : Int32) (k : Nat) : mm_step (mm_rw mr_145) none tb call Q C 21 lv (.inl i :: .inr (.inr (.inl (some k))) :: st) h kc ks = (match h.2 k with
    | some (.inl (.int, n, f)) => vp_in i n ∧ C 22 lv (vI (f i.toNatClampNeg) :: st) h kc ks
    | _ => False) := rfl
theorem g145_21t (i : Int32) (t : Nat) : mm_step (mm_rw mr_145) none tb call Q C 21 lv (.inl i :: .inr (.inr (.inr t)) :: st) h kc ks = (vp_in i (tb t).1 ∧ C 22 lv (vI ((tb t).2 i.toNatClampNeg) :: st) h kc ks) := rfl
theorem g145_22  : mm_step (mm_rw mr_145) none tb call Q C 22 lv st h kc ks = (C 23 lv (vI 1 :: st) h kc ks) := rfl
theorem g145_23  : mm_step (mm_rw mr_145) none tb call Q C 23 lv st h kc ks = (match mm_rd lv 0 with
    | some (.inr (.inr (.inl (some k)))) => C 24 lv (vR k :: st) h kc ks
    | some (.inr (.inr (.inr t))) => C 24 lv (vT t :: st) h kc ks
    | _ => False) := rfl
theorem g145_24 (k : Nat) : mm_step (mm_rw mr_145) none tb call Q C 24 lv (.inr (.inr (.inl (some k))) :: st) h kc ks = (match h.2 k with
    | some (.inr (.inr (ci, fs))) => ci = 8 ∧ (match fs[25]? with
      | some v => C 27 lv (v :: st) h kc ks
      | none => False)
    | _ => False) := rfl
theorem g145_27  : mm_step (mm_rw mr_145) none tb call Q C 27 lv st h kc ks = (match mm_rd lv 1 with
    | some (.inl a) => C 28 lv (vI a :: st) h kc ks
    | _ => False) := rfl
theorem g145_28  : mm_step (mm_rw mr_145) none tb call Q C 28 lv st h kc ks = (C 29 lv (vI 1 :: st) h kc ks) := rfl
theorem g145_29 (a b : Int32) : mm_step (mm_rw mr_145) none tb call Q C 29 lv (.inl b :: .inl a :: st) h kc ks = (C 30 lv (vI (a + b) :: st) h kc ks) := rfl
theorem g145_30  : mm_step (mm_rw mr_145) none tb call Q C 30 lv st h kc ks = (match mm_rd lv 0 with
    | some (.inr (.inr (.inl (some k)))) => C 31 lv (vR k :: st) h kc ks
    | some (.inr (.inr (.inr t))) => C 31 lv (vT t :: st) h kc ks
    | _ => False) := rfl
theorem g145_31 (k : Nat) : mm_step (mm_rw mr_145) none tb call Q C 31 lv (.inr (.inr (.inl (some k))) :: st) h kc ks = (match h.2 k with
    | some (.inr (.inr (ci, fs))) => ci = 8 ∧ (match fs[11]? with
      | some v => C 34 lv (v :: st) h kc ks
      | none => False)
    | _ => False) := rfl
theorem g145_34 (a b : Int32) : mm_step (mm_rw mr_145) none tb call Q C 34 lv (.inl b :: .inl a :: st) h kc ks = (¬ b = 0 ∧ C 35 lv (vI (a - a / b * b) :: st) h kc ks) := rfl
theorem g145_35 (i : Int32) (k : Nat) : mm_step (mm_rw mr_145) none tb call Q C 35 lv (.inl i :: .inr (.inr (.inl (some k))) :: st) h kc ks = (match h.2 k with
    | some (.inl (.int, n, f)) => vp_in i n ∧ C 36 lv (vI (f i.toNatClampNeg) :: st) h kc ks
    | _ => False) := rfl
theorem g145_35t (i : Int32) (t : Nat) : mm_step (mm_rw mr_145) none tb call Q C 35 lv (.inl i :: .inr (.inr (.inr t)) :: st) h kc ks = (vp_in i (tb t).1 ∧ C 36 lv (vI ((tb t).2 i.toNatClampNeg) :: st) h kc ks) := rfl
theorem g145_36 (a b : Int32) : mm_step (mm_rw mr_145) none tb call Q C 36 lv (.inl b :: .inl a :: st) h kc ks = (C 37 lv (vI (a <<< (b &&& 31)) :: st) h kc ks) := rfl
theorem g145_37 (a b : Int32) : mm_step (mm_rw mr_145) none tb call Q C 37 lv (.inl b :: .inl a :: st) h kc ks = (C 38 lv (vI (a ||| b) :: st) h kc ks) := rfl
theorem g145_38 (v i : Int32) (k : Nat) : mm_step (mm_rw mr_145) none tb call Q C 38 lv (.inl v :: .inl i :: .inr (.inr (.inl (some k))) :: st) h kc ks = (match h.2 k with
    | some (.inl (.int, n, f)) => vp_in i n ∧ C 39 lv st (mm_up h k (cI n (upd f i.toNatClampNeg v))) kc ks
    | _ => False) := rfl
theorem g145_39  : mm_step (mm_rw mr_145) none tb call Q C 39 lv st h kc ks = (match mm_rd lv 1 with
    | some (.inl a) => C 42 (mm_st1 lv 1 (vI (a + 1))) st h kc ks
    | _ => False) := rfl
theorem g145_42  : mm_step (mm_rw mr_145) none tb call Q C 42 lv st h kc ks = (C 2 lv st h kc ks) := rfl
theorem g145_45  : mm_step (mm_rw mr_145) none tb call Q C 45 lv [] h kc ks = ((none : Option FieldType) = none ∧ Q none h) := rfl
end G145

abbrev sp_146 : List Nat := [4, 39, 47, 57, 59, 94]
section G146
variable {tb : Nat → Nat × (Nat → Int32)} {call : CO} {Q : AQ} {C : CP} {lv : AL} {st : List AV} {h : AH} {kc ks : Nat}
theorem g146_0  : mm_step (mm_rw mr_146) (some .int) tb call Q C 0 lv st h kc ks = (C 1 lv (vI 0 :: st) h kc ks) := rfl
theorem g146_1 (a : Int32) : mm_step (mm_rw mr_146) (some .int) tb call Q C 1 lv (.inl a :: st) h kc ks = (C 2 (mm_st1 lv 1 (vI a)) st h kc ks) := rfl
theorem g146_2  : mm_step (mm_rw mr_146) (some .int) tb call Q C 2 lv st h kc ks = (C 3 lv (vI 0 :: st) h kc ks) := rfl
theorem g146_3 (a : Int32) : mm_step (mm_rw mr_146) (some .int) tb call Q C 3 lv (.inl a :: st) h kc ks = (C 4 (mm_st1 lv 2 (vI a)) st h kc ks) := rfl
theorem g146_4  : mm_step (mm_rw mr_146) (some .int) tb call Q C 4 lv st h kc ks = (match mm_rd lv 2 with
    | some (.inl a) => C 5 lv (vI a :: st) h kc ks
    | _ => False) := rfl
theorem g146_5  : mm_step (mm_rw mr_146) (some .int) tb call Q C 5 lv st h kc ks = (C 7 lv (vI 8 :: st) h kc ks) := rfl
theorem g146_7 (a b : Int32) : mm_step (mm_rw mr_146) (some .int) tb call Q C 7 lv (.inl b :: .inl a :: st) h kc ks = ((b ≤ a → C 37 lv st h kc ks) ∧ (¬ b ≤ a → C 10 lv st h kc ks)) := rfl
theorem g146_10  : mm_step (mm_rw mr_146) (some .int) tb call Q C 10 lv st h kc ks = (match mm_rd lv 0 with
    | some (.inr (.inr (.inl (some k)))) => C 11 lv (vR k :: st) h kc ks
    | some (.inr (.inr (.inr t))) => C 11 lv (vT t :: st) h kc ks
    | _ => False) := rfl
theorem g146_11 (k : Nat) : mm_step (mm_rw mr_146) (some .int) tb call Q C 11 lv (.inr (.inr (.inl (some k))) :: st) h kc ks = (match h.2 k with
    | some (.inr (.inr (ci, fs))) => ci = 8 ∧ (match fs[36]? with
      | some v => C 14 lv (v :: st) h kc ks
      | none => False)
    | _ => False) := rfl
theorem g146_14  : mm_step (mm_rw mr_146) (some .int) tb call Q C 14 lv st h kc ks = (match mm_rd lv 2 with
    | some (.inl a) => C 15 lv (vI a :: st) h kc ks
    | _ => False) := rfl
theorem g146_15  : mm_step (mm_rw mr_146) (some .int) tb call Q C 15 lv st h kc ks = (match mm_rd lv 2 with
    | some (.inl a) => C 16 lv (vI a :: st) h kc ks
    | _ => False) := rfl
theorem g146_16 (v i : Int32) (k : Nat) : mm_step (mm_rw mr_146) (some .int) tb call Q C 16 lv (.inl v :: .inl i :: .inr (.inr (.inl (some k))) :: st) h kc ks = (match h.2 k with
    | some (.inl (.int, n, f)) => vp_in i n ∧ C 17 lv st (mm_up h k (cI n (upd f i.toNatClampNeg v))) kc ks
    | _ => False) := rfl
theorem g146_17  : mm_step (mm_rw mr_146) (some .int) tb call Q C 17 lv st h kc ks = (match mm_rd lv 0 with
    | some (.inr (.inr (.inl (some k)))) => C 18 lv (vR k :: st) h kc ks
    | some (.inr (.inr (.inr t))) => C 18 lv (vT t :: st) h kc ks
    | _ => False) := rfl
theorem g146_18 (k : Nat) : mm_step (mm_rw mr_146) (some .int) tb call Q C 18 lv (.inr (.inr (.inl (some k))) :: st) h kc ks = (match h.2 k with
    | some (.inr (.inr (ci, fs))) => ci = 8 ∧ (match fs[37]? with
      | some v => C 21 lv (v :: st) h kc ks
      | none => False)
    | _ => False) := rfl
theorem g146_21  : mm_step (mm_rw mr_146) (some .int) tb call Q C 21 lv st h kc ks = (match mm_rd lv 2 with
    | some (.inl a) => C 22 lv (vI a :: st) h kc ks
    | _ => False) := rfl
theorem g146_22  : mm_step (mm_rw mr_146) (some .int) tb call Q C 22 lv st h kc ks = (C 23 lv (vI 0 :: st) h kc ks) := rfl
theorem g146_23 (v i : Int32) (k : Nat) : mm_step (mm_rw mr_146) (some .int) tb call Q C 23 lv (.inl v :: .inl i :: .inr (.inr (.inl (some k))) :: st) h kc ks = (match h.2 k with
    | some (.inl (.int, n, f)) => vp_in i n ∧ C 24 lv st (mm_up h k (cI n (upd f i.toNatClampNeg v))) kc ks
    | _ => False) := rfl
theorem g146_24  : mm_step (mm_rw mr_146) (some .int) tb call Q C 24 lv st h kc ks = (match mm_rd lv 0 with
    | some (.inr (.inr (.inl (some k)))) => C 25 lv (vR k :: st) h kc ks
    | some (.inr (.inr (.inr t))) => C 25 lv (vT t :: st) h kc ks
    | _ => False) := rfl
theorem g146_25 (k : Nat) : mm_step (mm_rw mr_146) (some .int) tb call Q C 25 lv (.inr (.inr (.inl (some k))) :: st) h kc ks = (match h.2 k with
    | some (.inr (.inr (ci, fs))) => ci = 8 ∧ (match fs[38]? with
      | some v => C 28 lv (v :: st) h kc ks
      | none => False)
    | _ => False) := rfl
theorem g146_28  : mm_step (mm_rw mr_146) (some .int) tb call Q C 28 lv st h kc ks = (match mm_rd lv 2 with
    | some (.inl a) => C 29 lv (vI a :: st) h kc ks
    | _ => False) := rfl
theorem g146_29  : mm_step (mm_rw mr_146) (some .int) tb call Q C 29 lv st h kc ks = (C 30 lv (vI 0 :: st) h kc ks) := rfl
theorem g146_30 (v i : Int32) (k : Nat) : mm_step (mm_rw mr_146) (some .int) tb call Q C 30 lv (.inl v :: .inl i :: .inr (.inr (.inl (some k))) :: st) h kc ks = (match h.2 k with
    | some (.inl (.int, n, f)) => vp_in i n ∧ C 31 lv st (mm_up h k (cI n (upd f i.toNatClampNeg v))) kc ks
    | _ => False) := rfl
theorem g146_31  : mm_step (mm_rw mr_146) (some .int) tb call Q C 31 lv st h kc ks = (match mm_rd lv 2 with
    | some (.inl a) => C 34 (mm_st1 lv 2 (vI (a + 1))) st h kc ks
    | _ => False) := rfl
theorem g146_34  : mm_step (mm_rw mr_146) (some .int) tb call Q C 34 lv st h kc ks = (C 4 lv st h kc ks) := rfl
theorem g146_37  : mm_step (mm_rw mr_146) (some .int) tb call Q C 37 lv st h kc ks = (C 38 lv (vI 1 :: st) h kc ks) := rfl
theorem g146_38 (a : Int32) : mm_step (mm_rw mr_146) (some .int) tb call Q C 38 lv (.inl a :: st) h kc ks = (C 39 (mm_st1 lv 2 (vI a)) st h kc ks) := rfl
theorem g146_39  : mm_step (mm_rw mr_146) (some .int) tb call Q C 39 lv st h kc ks = (match mm_rd lv 2 with
    | some (.inl a) => C 40 lv (vI a :: st) h kc ks
    | _ => False) := rfl
theorem g146_40 (a : Int32) : mm_step (mm_rw mr_146) (some .int) tb call Q C 40 lv (.inl a :: st) h kc ks = ((a = 0 → C 98 lv st h kc ks) ∧ (¬ a = 0 → C 43 lv st h kc ks)) := rfl
theorem g146_43  : mm_step (mm_rw mr_146) (some .int) tb call Q C 43 lv st h kc ks = (match mm_rd lv 0 with
    | some (.inr (.inr (.inl (some k)))) => C 44 lv (vR k :: st) h kc ks
    | some (.inr (.inr (.inr t))) => C 44 lv (vT t :: st) h kc ks
    | _ => False) := rfl
theorem g146_44  : mm_step (mm_rw mr_146) (some .int) tb call Q C 44 lv st h kc ks = ((match (st.take 1).reverse with
    | .inr (.inr (.inl (some k))) :: _ => (match h.2 k with
      | some (.inr (.inr (ci, _))) => mm_cn ci = (mm_mi 144).1.cls
      | _ => False)
    | _ => False) ∧ mm_call call C 144 1 44 lv st h kc ks) := rfl
theorem g146_47 (a : Int32) : mm_step (mm_rw mr_146) (some .int) tb call Q C 47 lv (.inl a :: st) h kc ks = ((a = 0 → C 90 lv st h kc ks) ∧ (¬ a = 0 → C 50 lv st h kc ks)) := rfl
theorem g146_50  : mm_step (mm_rw mr_146) (some .int) tb call Q C 50 lv st h kc ks = (match mm_rd lv 1 with
    | some (.inl a) => C 53 (mm_st1 lv 1 (vI (a + 1))) st h kc ks
    | _ => False) := rfl
theorem g146_53  : mm_step (mm_rw mr_146) (some .int) tb call Q C 53 lv st h kc ks = (match mm_rd lv 0 with
    | some (.inr (.inr (.inl (some k)))) => C 54 lv (vR k :: st) h kc ks
    | some (.inr (.inr (.inr t))) => C 54 lv (vT t :: st) h kc ks
    | _ => False) := rfl
theorem g146_54  : mm_step (mm_rw mr_146) (some .int) tb call Q C 54 lv st h kc ks = ((match (st.take 1).reverse with
    | .inr (.inr (.inl (some k))) :: _ => (match h.2 k with
      | some (.inr (.inr (ci, _))) => mm_cn ci = (mm_mi 145).1.cls
      | _ => False)
    | _ => False) ∧ mm_call call C 145 1 54 lv st h kc ks) := rfl
theorem g146_57  : mm_step (mm_rw mr_146) (some .int) tb call Q C 57 lv st h kc ks = (C 58 lv (vI 0 :: st) h kc ks) := rfl
theorem g146_58 (a : Int32) : mm_step (mm_rw mr_146) (some .int) tb call Q C 58 lv (.inl a :: st) h kc ks = (C 59 (mm_st1 lv 3 (vI a)) st h kc ks) := rfl
theorem g146_59  : mm_step (mm_rw mr_146) (some .int) tb call Q C 59 lv st h kc ks = (match mm_rd lv 3 with
    | some (.inl a) => C 60 lv (vI a :: st) h kc ks
    | _ => False) := rfl
theorem g146_60  : mm_step (mm_rw mr_146) (some .int) tb call Q C 60 lv st h kc ks = (match mm_rd lv 0 with
    | some (.inr (.inr (.inl (some k)))) => C 61 lv (vR k :: st) h kc ks
    | some (.inr (.inr (.inr t))) => C 61 lv (vT t :: st) h kc ks
    | _ => False) := rfl
theorem g146_61 (k : Nat) : mm_step (mm_rw mr_146) (some .int) tb call Q C 61 lv (.inr (.inr (.inl (some k))) :: st) h kc ks = (match h.2 k with
    | some (.inr (.inr (ci, fs))) => ci = 8 ∧ (match fs[11]? with
      | some v => C 64 lv (v :: st) h kc ks
      | none => False)
    | _ => False) := rfl
theorem g146_64 (a b : Int32) : mm_step (mm_rw mr_146) (some .int) tb call Q C 64 lv (.inl b :: .inl a :: st) h kc ks = ((b ≤ a → C 90 lv st h kc ks) ∧ (¬ b ≤ a → C 67 lv st h kc ks)) := rfl
theorem g146_67  : mm_step (mm_rw mr_146) (some .int) tb call Q C 67 lv st h kc ks = (match mm_rd lv 0 with
    | some (.inr (.inr (.inl (some k)))) => C 68 lv (vR k :: st) h kc ks
    | some (.inr (.inr (.inr t))) => C 68 lv (vT t :: st) h kc ks
    | _ => False) := rfl
theorem g146_68 (k : Nat) : mm_step (mm_rw mr_146) (some .int) tb call Q C 68 lv (.inr (.inr (.inl (some k))) :: st) h kc ks = (match h.2 k with
    | some (.inr (.inr (ci, fs))) => ci = 8 ∧ (match fs[37]? with
      | some v => C 71 lv (v :: st) h kc ks
      | none => False)
    | _ => False) := rfl
theorem g146_71  : mm_step (mm_rw mr_146) (some .int) tb call Q C 71 lv st h kc ks = (match mm_rd lv 0 with
    | some (.inr (.inr (.inl (some k)))) => C 72 lv (vR k :: st) h kc ks
    | some (.inr (.inr (.inr t))) => C 72 lv (vT t :: st) h kc ks
    | _ => False) := rfl
theorem g146_72 (k : Nat) : mm_step (mm_rw mr_146) (some .int) tb call Q C 72 lv (.inr (.inr (.inl (some k))) :: st) h kc ks = (match h.2 k with
    | some (.inr (.inr (ci, fs))) => ci = 8 ∧ (match fs[36]? with
      | some v => C 75 lv (v :: st) h kc ks
      | none => False)
    | _ => False) := rfl
theorem g146_75  : mm_step (mm_rw mr_146) (some .int) tb call Q C 75 lv st h kc ks = (match mm_rd lv 3 with
    | some (.inl a) => C 76 lv (vI a :: st) h kc ks
    | _ => False) := rfl
theorem g146_76 (i : Int32) (k : Nat) : mm_step (mm_rw mr_146) (some .int) tb call Q C 76 lv (.inl i :: .inr (.inr (.inl (some k))) :: st) h kc ks = (match h.2 k with
    | some (.inl (.int, n, f)) => vp_in i n ∧ C 77 lv (vI (f i.toNatClampNeg) :: st) h kc ks
    | _ => False) := rfl
theorem g146_76t (i : Int32) (t : Nat) : mm_step (mm_rw mr_146) (some .int) tb call Q C 76 lv (.inl i :: .inr (.inr (.inr t)) :: st) h kc ks = (vp_in i (tb t).1 ∧ C 77 lv (vI ((tb t).2 i.toNatClampNeg) :: st) h kc ks) := rfl
theorem g146_77 (v w : AV) : mm_step (mm_rw mr_146) (some .int) tb call Q C 77 lv (v :: w :: st) h kc ks = (mm_c2 v = false ∧ mm_c2 w = false ∧ C 78 lv (v :: w :: v :: w :: st) h kc ks) := rfl
theorem g146_78 (i : Int32) (k : Nat) : mm_step (mm_rw mr_146) (some .int) tb call Q C 78 lv (.inl i :: .inr (.inr (.inl (some k))) :: st) h kc ks = (match h.2 k with
    | some (.inl (.int, n, f)) => vp_in i n ∧ C 79 lv (vI (f i.toNatClampNeg) :: st) h kc ks
    | _ => False) := rfl
theorem g146_78t (i : Int32) (t : Nat) : mm_step (mm_rw mr_146) (some .int) tb call Q C 78 lv (.inl i :: .inr (.inr (.inr t)) :: st) h kc ks = (vp_in i (tb t).1 ∧ C 79 lv (vI ((tb t).2 i.toNatClampNeg) :: st) h kc ks) := rfl
theorem g146_79  : mm_step (mm_rw mr_146) (some .int) tb call Q C 79 lv st h kc ks = (C 80 lv (vI 1 :: st) h kc ks) := rfl
theorem g146_80  : mm_step (mm_rw mr_146) (some .int) tb call Q C 80 lv st h kc ks = (match mm_rd lv 3 with
    | some (.inl a) => C 81 lv (vI a :: st) h kc ks
    | _ => False) := rfl
theorem g146_81 (a b : Int32) : mm_step (mm_rw mr_146) (some .int) tb call Q C 81 lv (.inl b :: .inl a :: st) h kc ks = (C 82 lv (vI (a <<< (b &&& 31)) :: st) h kc ks) := rfl
theorem g146_82 (a b : Int32) : mm_step (mm_rw mr_146) (some .int) tb call Q C 82 lv (.inl b :: .inl a :: st) h kc ks = (C 83 lv (vI (a ||| b) :: st) h kc ks) := rfl
theorem g146_83 (v i : Int32) (k : Nat) : mm_step (mm_rw mr_146) (some .int) tb call Q C 83 lv (.inl v :: .inl i :: .inr (.inr (.inl (some k))) :: st) h kc ks = (match h.2 k with
    | some (.inl (.int, n, f)) => vp_in i n ∧ C 84 lv st (mm_up h k (cI n (upd f i.toNatClampNeg v))) kc ks
    | _ => False) := rfl
theorem g146_84  : mm_step (mm_rw mr_146) (some .int) tb call Q C 84 lv st h kc ks = (match mm_rd lv 3 with
    | some (.inl a) => C 87 (mm_st1 lv 3 (vI (a + 1))) st h kc ks
    | _ => False) := rfl
theorem g146_87  : mm_step (mm_rw mr_146) (some .int) tb call Q C 87 lv st h kc ks = (C 59 lv st h kc ks) := rfl
theorem g146_90  : mm_step (mm_rw mr_146) (some .int) tb call Q C 90 lv st h kc ks = (match mm_rd lv 0 with
    | some (.inr (.inr (.inl (some k)))) => C 91 lv (vR k :: st) h kc ks
    | some (.inr (.inr (.inr t))) => C 91 lv (vT t :: st) h kc ks
    | _ => False) := rfl
theorem g146_91  : mm_step (mm_rw mr_146) (some .int) tb call Q C 91 lv st h kc ks = ((match (st.take 1).reverse with
    | .inr (.inr (.inl (some k))) :: _ => (match h.2 k with
      | some (.inr (.inr (ci, _))) => mm_cn ci = (mm_mi 143).1.cls
      | _ => False)
    | _ => False) ∧ mm_call call C 143 1 91 lv st h kc ks) := rfl
theorem g146_94 (a : Int32) : mm_step (mm_rw mr_146) (some .int) tb call Q C 94 lv (.inl a :: st) h kc ks = (C 95 (mm_st1 lv 2 (vI a)) st h kc ks) := rfl
theorem g146_95  : mm_step (mm_rw mr_146) (some .int) tb call Q C 95 lv st h kc ks = (C 39 lv st h kc ks) := rfl
theorem g146_98  : mm_step (mm_rw mr_146) (some .int) tb call Q C 98 lv st h kc ks = (match mm_rd lv 1 with
    | some (.inl a) => C 99 lv (vI a :: st) h kc ks
    | _ => False) := rfl
theorem g146_99 (v : Int32) : mm_step (mm_rw mr_146) (some .int) tb call Q C 99 lv [.inl v] h kc ks = (True ∧ Q (some (vI v)) h) := rfl
end G146

abbrev sp_147 : List Nat := [4]
section G147
variable {tb : Nat → Nat × (Nat → Int32)} {call : CO} {Q : AQ} {C : CP} {lv : AL} {st : List AV} {h : AH} {kc ks : Nat}
theorem g147_0  : mm_step (mm_rw mr_147) (some .int) tb call Q C 0 lv st h kc ks = (match mm_rd lv 0 with
    | some (.inr (.inr (.inl (some k)))) => C 1 lv (vR k :: st) h kc ks
    | some (.inr (.inr (.inr t))) => C 1 lv (vT t :: st) h kc ks
    | _ => False) := rfl
theorem g147_1  : mm_step (mm_rw mr_147) (some .int) tb call Q C 1 lv st h kc ks = ((match (st.take 1).reverse with
    | .inr (.inr (.inl (some k))) :: _ => (match h.2 k with
      | some (.inr (.inr (ci, _))) => mm_cn ci = (mm_mi 146).1.cls
      | _ => False)
    | _ => False) ∧ mm_call call C 146 1 1 lv st h kc ks) := rfl
theorem g147_4 (v : Int32) : mm_step (mm_rw mr_147) (some .int) tb call Q C 4 lv [.inl v] h kc ks = (True ∧ Q (some (vI v)) h) := rfl
end G147

abbrev sp_148 : List Nat := [5, 14]
section G148
variable {tb : Nat → Nat × (Nat → Int32)} {call : CO} {Q : AQ} {C : CP} {lv : AL} {st : List AV} {h : AH} {kc ks : Nat}
theorem g148_0  : mm_step (mm_rw mr_148) (some .int) tb call Q C 0 lv st h kc ks = (match mm_rd lv 0 with
    | some (.inr (.inr (.inl (some k)))) => C 1 lv (vR k :: st) h kc ks
    | some (.inr (.inr (.inr t))) => C 1 lv (vT t :: st) h kc ks
    | _ => False) := rfl
theorem g148_1  : mm_step (mm_rw mr_148) (some .int) tb call Q C 1 lv st h kc ks = (match mm_rd lv 1 with
    | some (.inl a) => C 2 lv (vI a :: st) h kc ks
    | _ => False) := rfl
theorem g148_2  : mm_step (mm_rw mr_148) (some .int) tb call Q C 2 lv st h kc ks = ((match (st.take 2).reverse with
    | .inr (.inr (.inl (some k))) :: _ => (match h.2 k with
      | some (.inr (.inr (ci, _))) => mm_cn ci = (mm_mi 107).1.cls
      | _ => False)
    | _ => False) ∧ mm_call call C 107 2 2 lv st h kc ks) := rfl
theorem g148_5 (a : Int32) : mm_step (mm_rw mr_148) (some .int) tb call Q C 5 lv (.inl a :: st) h kc ks = ((¬ a = 0 → C 10 lv st h kc ks) ∧ (a = 0 → C 8 lv st h kc ks)) := rfl
theorem g148_8  : mm_step (mm_rw mr_148) (some .int) tb call Q C 8 lv st h kc ks = (C 9 lv (vI (mI 1) :: st) h kc ks) := rfl
theorem g148_9 (v : Int32) : mm_step (mm_rw mr_148) (some .int) tb call Q C 9 lv [.inl v] h kc ks = (True ∧ Q (some (vI v)) h) := rfl
theorem g148_10  : mm_step (mm_rw mr_148) (some .int) tb call Q C 10 lv st h kc ks = (match mm_rd lv 0 with
    | some (.inr (.inr (.inl (some k)))) => C 11 lv (vR k :: st) h kc ks
    | some (.inr (.inr (.inr t))) => C 11 lv (vT t :: st) h kc ks
    | _ => False) := rfl
theorem g148_11  : mm_step (mm_rw mr_148) (some .int) tb call Q C 11 lv st h kc ks = ((match (st.take 1).reverse with
    | .inr (.inr (.inl (some k))) :: _ => (match h.2 k with
      | some (.inr (.inr (ci, _))) => mm_cn ci = (mm_mi 146).1.cls
      | _ => False)
    | _ => False) ∧ mm_call call C 146 1 11 lv st h kc ks) := rfl
theorem g148_14 (v : AV) : mm_step (mm_rw mr_148) (some .int) tb call Q C 14 lv (v :: st) h kc ks = (mm_c2 v = false ∧ C 15 lv st h kc ks) := rfl
theorem g148_15  : mm_step (mm_rw mr_148) (some .int) tb call Q C 15 lv st h kc ks = (match mm_rd lv 0 with
    | some (.inr (.inr (.inl (some k)))) => C 16 lv (vR k :: st) h kc ks
    | some (.inr (.inr (.inr t))) => C 16 lv (vT t :: st) h kc ks
    | _ => False) := rfl
theorem g148_16 (k : Nat) : mm_step (mm_rw mr_148) (some .int) tb call Q C 16 lv (.inr (.inr (.inl (some k))) :: st) h kc ks = (match h.2 k with
    | some (.inr (.inr (ci, fs))) => ci = 8 ∧ (match fs[37]? with
      | some v => C 19 lv (v :: st) h kc ks
      | none => False)
    | _ => False) := rfl
theorem g148_19  : mm_step (mm_rw mr_148) (some .int) tb call Q C 19 lv st h kc ks = (match mm_rd lv 1 with
    | some (.inl a) => C 20 lv (vI a :: st) h kc ks
    | _ => False) := rfl
theorem g148_20 (i : Int32) (k : Nat) : mm_step (mm_rw mr_148) (some .int) tb call Q C 20 lv (.inl i :: .inr (.inr (.inl (some k))) :: st) h kc ks = (match h.2 k with
    | some (.inl (.int, n, f)) => vp_in i n ∧ C 21 lv (vI (f i.toNatClampNeg) :: st) h kc ks
    | _ => False) := rfl
theorem g148_20t (i : Int32) (t : Nat) : mm_step (mm_rw mr_148) (some .int) tb call Q C 20 lv (.inl i :: .inr (.inr (.inr t)) :: st) h kc ks = (vp_in i (tb t).1 ∧ C 21 lv (vI ((tb t).2 i.toNatClampNeg) :: st) h kc ks) := rfl
theorem g148_21 (v : Int32) : mm_step (mm_rw mr_148) (some .int) tb call Q C 21 lv [.inl v] h kc ks = (True ∧ Q (some (vI v)) h) := rfl
end G148

abbrev sp_149 : List Nat := [4]
section G149
variable {tb : Nat → Nat × (Nat → Int32)} {call : CO} {Q : AQ} {C : CP} {lv : AL} {st : List AV} {h : AH} {kc ks : Nat}
theorem g149_0  : mm_step (mm_rw mr_149) (some .int) tb call Q C 0 lv st h kc ks = (C 1 lv (vI 0 :: st) h kc ks) := rfl
theorem g149_1 (a : Int32) : mm_step (mm_rw mr_149) (some .int) tb call Q C 1 lv (.inl a :: st) h kc ks = (C 2 (mm_st1 lv 1 (vI a)) st h kc ks) := rfl
theorem g149_2  : mm_step (mm_rw mr_149) (some .int) tb call Q C 2 lv st h kc ks = (C 3 lv (vI 0 :: st) h kc ks) := rfl
theorem g149_3 (a : Int32) : mm_step (mm_rw mr_149) (some .int) tb call Q C 3 lv (.inl a :: st) h kc ks = (C 4 (mm_st1 lv 2 (vI a)) st h kc ks) := rfl
theorem g149_4  : mm_step (mm_rw mr_149) (some .int) tb call Q C 4 lv st h kc ks = (match mm_rd lv 2 with
    | some (.inl a) => C 5 lv (vI a :: st) h kc ks
    | _ => False) := rfl
theorem g149_5  : mm_step (mm_rw mr_149) (some .int) tb call Q C 5 lv st h kc ks = (C 7 lv (vI 8 :: st) h kc ks) := rfl
theorem g149_7 (a b : Int32) : mm_step (mm_rw mr_149) (some .int) tb call Q C 7 lv (.inl b :: .inl a :: st) h kc ks = ((b ≤ a → C 24 lv st h kc ks) ∧ (¬ b ≤ a → C 10 lv st h kc ks)) := rfl
theorem g149_10  : mm_step (mm_rw mr_149) (some .int) tb call Q C 10 lv st h kc ks = (match mm_rd lv 1 with
    | some (.inl a) => C 11 lv (vI a :: st) h kc ks
    | _ => False) := rfl
theorem g149_11  : mm_step (mm_rw mr_149) (some .int) tb call Q C 11 lv st h kc ks = (match mm_rd lv 0 with
    | some (.inl a) => C 12 lv (vI a :: st) h kc ks
    | _ => False) := rfl
theorem g149_12  : mm_step (mm_rw mr_149) (some .int) tb call Q C 12 lv st h kc ks = (match mm_rd lv 2 with
    | some (.inl a) => C 13 lv (vI a :: st) h kc ks
    | _ => False) := rfl
theorem g149_13 (a b : Int32) : mm_step (mm_rw mr_149) (some .int) tb call Q C 13 lv (.inl b :: .inl a :: st) h kc ks = (C 14 lv (vI (a >>> (b &&& 31)) :: st) h kc ks) := rfl
theorem g149_14  : mm_step (mm_rw mr_149) (some .int) tb call Q C 14 lv st h kc ks = (C 15 lv (vI 1 :: st) h kc ks) := rfl
theorem g149_15 (a b : Int32) : mm_step (mm_rw mr_149) (some .int) tb call Q C 15 lv (.inl b :: .inl a :: st) h kc ks = (C 16 lv (vI (a &&& b) :: st) h kc ks) := rfl
theorem g149_16 (a b : Int32) : mm_step (mm_rw mr_149) (some .int) tb call Q C 16 lv (.inl b :: .inl a :: st) h kc ks = (C 17 lv (vI (a + b) :: st) h kc ks) := rfl
theorem g149_17 (a : Int32) : mm_step (mm_rw mr_149) (some .int) tb call Q C 17 lv (.inl a :: st) h kc ks = (C 18 (mm_st1 lv 1 (vI a)) st h kc ks) := rfl
theorem g149_18  : mm_step (mm_rw mr_149) (some .int) tb call Q C 18 lv st h kc ks = (match mm_rd lv 2 with
    | some (.inl a) => C 21 (mm_st1 lv 2 (vI (a + 1))) st h kc ks
    | _ => False) := rfl
theorem g149_21  : mm_step (mm_rw mr_149) (some .int) tb call Q C 21 lv st h kc ks = (C 4 lv st h kc ks) := rfl
theorem g149_24  : mm_step (mm_rw mr_149) (some .int) tb call Q C 24 lv st h kc ks = (match mm_rd lv 1 with
    | some (.inl a) => C 25 lv (vI a :: st) h kc ks
    | _ => False) := rfl
theorem g149_25 (v : Int32) : mm_step (mm_rw mr_149) (some .int) tb call Q C 25 lv [.inl v] h kc ks = (True ∧ Q (some (vI v)) h) := rfl
end G149

abbrev sp_150 : List Nat := [4, 14, 31, 40]
section G150
variable {tb : Nat → Nat × (Nat → Int32)} {call : CO} {Q : AQ} {C : CP} {lv : AL} {st : List AV} {h : AH} {kc ks : Nat}
theorem g150_0  : mm_step (mm_rw mr_150) (some .int) tb call Q C 0 lv st h kc ks = (match mm_rd lv 0 with
    | some (.inr (.inr (.inl (some k)))) => C 1 lv (vR k :: st) h kc ks
    | some (.inr (.inr (.inr t))) => C 1 lv (vT t :: st) h kc ks
    | _ => False) := rfl
theorem g150_1  : mm_step (mm_rw mr_150) (some .int) tb call Q C 1 lv st h kc ks = ((match (st.take 1).reverse with
    | .inr (.inr (.inl (some k))) :: _ => (match h.2 k with
      | some (.inr (.inr (ci, _))) => mm_cn ci = (mm_mi 146).1.cls
      | _ => False)
    | _ => False) ∧ mm_call call C 146 1 1 lv st h kc ks) := rfl
theorem g150_4 (a : Int32) : mm_step (mm_rw mr_150) (some .int) tb call Q C 4 lv (.inl a :: st) h kc ks = ((¬ a = 0 → C 10 lv st h kc ks) ∧ (a = 0 → C 7 lv st h kc ks)) := rfl
theorem g150_7  : mm_step (mm_rw mr_150) (some .int) tb call Q C 7 lv st h kc ks = (C 9 lv (vI (mI 9) :: st) h kc ks) := rfl
theorem g150_9 (v : Int32) : mm_step (mm_rw mr_150) (some .int) tb call Q C 9 lv [.inl v] h kc ks = (True ∧ Q (some (vI v)) h) := rfl
theorem g150_10  : mm_step (mm_rw mr_150) (some .int) tb call Q C 10 lv st h kc ks = (C 11 lv (vI 0 :: st) h kc ks) := rfl
theorem g150_11 (a : Int32) : mm_step (mm_rw mr_150) (some .int) tb call Q C 11 lv (.inl a :: st) h kc ks = (C 12 (mm_st1 lv 1 (vI a)) st h kc ks) := rfl
theorem g150_12  : mm_step (mm_rw mr_150) (some .int) tb call Q C 12 lv st h kc ks = (C 13 lv (vI 1 :: st) h kc ks) := rfl
theorem g150_13 (a : Int32) : mm_step (mm_rw mr_150) (some .int) tb call Q C 13 lv (.inl a :: st) h kc ks = (C 14 (mm_st1 lv 2 (vI a)) st h kc ks) := rfl
theorem g150_14  : mm_step (mm_rw mr_150) (some .int) tb call Q C 14 lv st h kc ks = (match mm_rd lv 2 with
    | some (.inl a) => C 15 lv (vI a :: st) h kc ks
    | _ => False) := rfl
theorem g150_15  : mm_step (mm_rw mr_150) (some .int) tb call Q C 15 lv st h kc ks = (match mm_rd lv 0 with
    | some (.inr (.inr (.inl (some k)))) => C 16 lv (vR k :: st) h kc ks
    | some (.inr (.inr (.inr t))) => C 16 lv (vT t :: st) h kc ks
    | _ => False) := rfl
theorem g150_16 (k : Nat) : mm_step (mm_rw mr_150) (some .int) tb call Q C 16 lv (.inr (.inr (.inl (some k))) :: st) h kc ks = (match h.2 k with
    | some (.inr (.inr (ci, fs))) => ci = 8 ∧ (match fs[11]? with
      | some v => C 19 lv (v :: st) h kc ks
      | none => False)
    | _ => False) := rfl
theorem g150_19 (a b : Int32) : mm_step (mm_rw mr_150) (some .int) tb call Q C 19 lv (.inl b :: .inl a :: st) h kc ks = ((b ≤ a → C 55 lv st h kc ks) ∧ (¬ b ≤ a → C 22 lv st h kc ks)) := rfl
theorem g150_22  : mm_step (mm_rw mr_150) (some .int) tb call Q C 22 lv st h kc ks = (match mm_rd lv 0 with
    | some (.inr (.inr (.inl (some k)))) => C 23 lv (vR k :: st) h kc ks
    | some (.inr (.inr (.inr t))) => C 23 lv (vT t :: st) h kc ks
    | _ => False) := rfl
theorem g150_23 (k : Nat) : mm_step (mm_rw mr_150) (some .int) tb call Q C 23 lv (.inr (.inr (.inl (some k))) :: st) h kc ks = (match h.2 k with
    | some (.inr (.inr (ci, fs))) => ci = 8 ∧ (match fs[38]? with
      | some v => C 26 lv (v :: st) h kc ks
      | none => False)
    | _ => False) := rfl
theorem g150_26  : mm_step (mm_rw mr_150) (some .int) tb call Q C 26 lv st h kc ks = (match mm_rd lv 2 with
    | some (.inl a) => C 27 lv (vI a :: st) h kc ks
    | _ => False) := rfl
theorem g150_27 (i : Int32) (k : Nat) : mm_step (mm_rw mr_150) (some .int) tb call Q C 27 lv (.inl i :: .inr (.inr (.inl (some k))) :: st) h kc ks = (match h.2 k with
    | some (.inl (.int, n, f)) => vp_in i n ∧ C 28 lv (vI (f i.toNatClampNeg) :: st) h kc ks
    | _ => False) := rfl
theorem g150_27t (i : Int32) (t : Nat) : mm_step (mm_rw mr_150) (some .int) tb call Q C 27 lv (.inl i :: .inr (.inr (.inr t)) :: st) h kc ks = (vp_in i (tb t).1 ∧ C 28 lv (vI ((tb t).2 i.toNatClampNeg) :: st) h kc ks) := rfl
theorem g150_28  : mm_step (mm_rw mr_150) (some .int) tb call Q C 28 lv st h kc ks = (mm_call call C 149 1 28 lv st h kc ks) := rfl
theorem g150_31  : mm_step (mm_rw mr_150) (some .int) tb call Q C 31 lv st h kc ks = (match mm_rd lv 0 with
    | some (.inr (.inr (.inl (some k)))) => C 32 lv (vR k :: st) h kc ks
    | some (.inr (.inr (.inr t))) => C 32 lv (vT t :: st) h kc ks
    | _ => False) := rfl
theorem g150_32 (k : Nat) : mm_step (mm_rw mr_150) (some .int) tb call Q C 32 lv (.inr (.inr (.inl (some k))) :: st) h kc ks = (match h.2 k with
    | some (.inr (.inr (ci, fs))) => ci = 8 ∧ (match fs[38]? with
      | some v => C 35 lv (v :: st) h kc ks
      | none => False)
    | _ => False) := rfl
theorem g150_35  : mm_step (mm_rw mr_150) (some .int) tb call Q C 35 lv st h kc ks = (match mm_rd lv 1 with
    | some (.inl a) => C 36 lv (vI a :: st) h kc ks
    | _ => False) := rfl
theorem g150_36 (i : Int32) (k : Nat) : mm_step (mm_rw mr_150) (some .int) tb call Q C 36 lv (.inl i :: .inr (.inr (.inl (some k))) :: st) h kc ks = (match h.2 k with
    | some (.inl (.int, n, f)) => vp_in i n ∧ C 37 lv (vI (f i.toNatClampNeg) :: st) h kc ks
    | _ => False) := rfl
theorem g150_36t (i : Int32) (t : Nat) : mm_step (mm_rw mr_150) (some .int) tb call Q C 36 lv (.inl i :: .inr (.inr (.inr t)) :: st) h kc ks = (vp_in i (tb t).1 ∧ C 37 lv (vI ((tb t).2 i.toNatClampNeg) :: st) h kc ks) := rfl
theorem g150_37  : mm_step (mm_rw mr_150) (some .int) tb call Q C 37 lv st h kc ks = (mm_call call C 149 1 37 lv st h kc ks) := rfl
theorem g150_40 (a b : Int32) : mm_step (mm_rw mr_150) (some .int) tb call Q C 40 lv (.inl b :: .inl a :: st) h kc ks = ((a ≤ b → C 47 lv st h kc ks) ∧ (¬ a ≤ b → C 43 lv st h kc ks)) := rfl
theorem g150_43  : mm_step (mm_rw mr_150) (some .int) tb call Q C 43 lv st h kc ks = (match mm_rd lv 2 with
    | some (.inl a) => C 44 lv (vI a :: st) h kc ks
    | _ => False) := rfl
theorem g150_44  : mm_step (mm_rw mr_150) (some .int) tb call Q C 44 lv st h kc ks = (C 48 lv st h kc ks) := rfl
theorem g150_47  : mm_step (mm_rw mr_150) (some .int) tb call Q C 47 lv st h kc ks = (match mm_rd lv 1 with
    | some (.inl a) => C 48 lv (vI a :: st) h kc ks
    | _ => False) := rfl
theorem g150_48 (a : Int32) : mm_step (mm_rw mr_150) (some .int) tb call Q C 48 lv (.inl a :: st) h kc ks = (C 49 (mm_st1 lv 1 (vI a)) st h kc ks) := rfl
theorem g150_49  : mm_step (mm_rw mr_150) (some .int) tb call Q C 49 lv st h kc ks = (match mm_rd lv 2 with
    | some (.inl a) => C 52 (mm_st1 lv 2 (vI (a + 1))) st h kc ks
    | _ => False) := rfl
theorem g150_52  : mm_step (mm_rw mr_150) (some .int) tb call Q C 52 lv st h kc ks = (C 14 lv st h kc ks) := rfl
theorem g150_55  : mm_step (mm_rw mr_150) (some .int) tb call Q C 55 lv st h kc ks = (match mm_rd lv 1 with
    | some (.inl a) => C 56 lv (vI a :: st) h kc ks
    | _ => False) := rfl
theorem g150_56 (v : Int32) : mm_step (mm_rw mr_150) (some .int) tb call Q C 56 lv [.inl v] h kc ks = (True ∧ Q (some (vI v)) h) := rfl
end G150

section ROWSM
variable {tb : Nat → Nat × (Nat → Int32)} {d : Nat} {s : MM} {g : SG} {n law : Nat} {T0 : List (Nat × Nat)}
/-- what the model needs for its rows -/
def RwM (s : MM) (n law : Nat) (T0 : List (Nat × Nat)) : Prop := s.2.1 75 11 = nI n ∧ s.2.1 75 13 = nI law ∧ s.2.1 75 33 = nI T0.length ∧ ∀ i, i < T0.length → s.1 92 i = nI (T0.getD i (0, 0)).1 ∧ s.1 93 i = nI (T0.getD i (0, 0)).2
theorem RwM.mx {s' : MM} (h : RwM s n law T0) (a : MX [88, 94, 95, 96] [26] s s') : RwM s' n law T0 := by
  unfold RwM at h ⊢
  rw [a.2.2.1 11 (by simp), a.2.2.1 13 (by simp), a.2.2.1 33 (by simp), a.1 92 (by simp), a.1 93 (by simp)]
  exact h
/-- what fits answers -/
def FtP (s : MM) (n law : Nat) (T0 : List (Nat × Nat)) (p : List Nat) : AQ := fun z h' => ∃ s', h' = HP s' ∧ MX [88] [26] s s' ∧ ((fit law n T0 p ∧ z = some (vI 1) ∧ Ar (s'.1 88) (fnl law T0 p)) ∨ (¬ fit law n T0 p ∧ z = some (vI 0)))
theorem M_fits {p : List Nat} (hR : RwM s n law T0) (hn2 : 2 ≤ n) (hn8 : n ≤ 8) (hlw : law < 3) (hT6 : T0.length ≤ 6) (hT8 : ∀ q ∈ T0, q.1 < 8 ∧ q.2 < 8) (hf : Ar (s.1 94) p) (hp : IsP n p) : WM tb (d + 4) k_M_fits [vR 75] (HP s) 0 0 (FtP s n law T0 p) := by
  have hlen := hp.len
  have h11 := hR.1
  have no : ∀ i s1, i < 2 ^ 31 → MX [88] [26] s s1 → ¬ fit law n T0 p → WP (mm_rw mr_144) (some .boolean) tb (WM tb (d + 3)) (FtP s n law T0 p) 40 [(0, vR 75), (1, vI 0), (2, vI (nI i))] [] (HP s1) 0 0 := by
    intro i s1 hi mx hno
    have h33 : s1.2.1 75 33 = nI T0.length := (hR.mx (mx.mono (by simp) (by simp))).2.2.1
    (try simp only [Option.toList_some, Option.toList_none, List.nil_append, List.append_nil, List.cons_append, Nat.sub_zero, Nat.sub_self, Nat.zero_sub]); refine Go.wp sp_144 200 ?_; simp only [↓g144_0, ↓g144_1, ↓g144_2, ↓g144_5, ↓g144_8, ↓g144_9, ↓g144_10, ↓g144_11, ↓g144_12, ↓g144_15, ↓g144_18, ↓g144_19, ↓g144_22, ↓g144_23, ↓g144_24, ↓g144_27, ↓g144_28, ↓g144_28t, ↓g144_29, ↓g144_30, ↓g144_33, ↓g144_36, ↓g144_37, ↓g144_38, ↓g144_39, ↓g144_40, ↓g144_41, ↓g144_42, ↓g144_45, ↓g144_48, ↓g144_49, ↓g144_52, ↓g144_53, ↓g144_54, ↓g144_57, ↓g144_58, ↓g144_58t, ↓g144_59, ↓g144_62, ↓g144_65, ↓g144_66, ↓g144_67, ↓g144_70, ↓g144_71, ↓g144_71t, ↓g144_72, ↓g144_75, ↓g144_78, ↓g144_79, ↓g144_80, ↓g144_83, ↓g144_84, ↓g144_84t, ↓g144_85, ↓g144_86, ↓g144_89, ↓g144_90, ↓g144_93, ↓g144_94, ↓g144_94t, ↓g144_95, ↓g144_98, ↓g144_99, ↓g144_102, ↓g144_103, ↓g144_104, ↓g144_107, ↓g144_110, ↓g144_111, cl_107, cl_124, cn_0, cn_1, cn_2, cn_3, cn_4, cn_5, cn_6, cn_7, cn_8, ↓Go_s, ↓GoC_a, ↓reduceIte, ↓mm_call_eq, ↓mmw_nil, ↓mmw_cons, List.take_succ_cons, List.take_zero, List.take_nil, List.drop_succ_cons, List.drop_zero, List.drop_nil, List.reverse_cons, List.reverse_nil, List.nil_append, List.cons_append, List.append_nil, Option.toList_some, Option.toList_none, Nat.sub_zero, Nat.le_refl, mmr_cons, mm_st1, mm_st2, mmi_nil, mmi_cons, mmc_I, mmc_L, mmc_R, mmu_get, mmu_one, mma_get, mma_one, List.filter_cons, List.filter_nil, List.contains_cons, List.contains_nil, Nat.reduceBEq, Nat.reduceAdd, Nat.reduceLT, Nat.reduceSub, Nat.reduceLeDiff, Nat.reduceEqDiff, Int32.reduceAdd, Bool.not_true, Bool.not_false, Bool.and_true, Bool.true_and, Bool.and_false, Bool.false_and, Bool.or_false, Bool.false_or, Bool.or_true, Bool.true_or, if_true, if_false, ite_true, ite_false, Bool.false_eq_true, List.getElem?_cons_zero, List.getElem?_cons_succ, List.length_cons, List.length_nil, true_and, and_true, List.set_cons_zero, List.set_cons_succ, Fin.isValue, Fin.val_zero, Fin.val_one, Fin.val_two, Fin.reduceFinMk, Nat.zero_add, hp_75, hp_76, hp_77, hp_78, hp_79, hp_80, hp_81, hp_82, hp_83, hp_84, hp_85, hp_86, hp_87, hp_88, hp_89, hp_90, hp_91, hp_92, hp_93, hp_94, hp_95, hp_96, hp_97, hp_98, og_75_0, og_75_1, og_75_2, og_75_3, og_75_4, og_75_5, og_75_6, og_75_7, og_75_8, og_75_9, og_75_10, og_75_11, og_75_12, og_75_13, og_75_14, og_75_15, og_75_16, og_75_17, og_75_18, og_75_19, og_75_20, og_75_21, og_75_22, og_75_23, og_75_24, og_75_25, og_75_26, og_75_27, og_75_28, og_75_29, og_75_30, og_75_31, og_75_32, og_75_33, og_75_34, og_75_35, og_75_36, og_75_37, og_75_38, og_75_39, og_75_40, og_75_41, ol_75, uo_75_4, uo_75_5, uo_75_6, uo_75_7, uo_75_11, uo_75_12, uo_75_13, uo_75_15, uo_75_19, uo_75_20, uo_75_21, uo_75_22, uo_75_23, uo_75_26, uo_75_30, uo_75_31, uo_75_32, uo_75_33, ua_76, ua_77, ua_78, ua_79, ua_80, ua_81, ua_82, ua_83, ua_84, ua_85, ua_86, ua_87, ua_88, ua_89, ua_90, ua_91, ua_92, ua_93, ua_94, ua_95, ua_96, ua_97, ua_98, sO_g, sA_g, sA_O, sO_A, sO_2, sM_1, sM_2, sM_3, sM_4, sM_5, sM_6, uc_75, h33, ft_8_26, nu_fitI, nu_fitL, nu_fitO, nu_fitA, nu_fitB0, nu_fitB1]
    exact ⟨fun _ => ⟨Or.inl trivial, s1, rfl, mx, Or.inr ⟨hno, rfl⟩⟩, fun _ => ⟨fun _ => ⟨Or.inl trivial, s1, rfl, mx, Or.inr ⟨hno, rfl⟩⟩, fun z => absurd trivial z⟩⟩
  have key : ∀ r i s1 xs, T0.length = i + r → MX [88] [26] s s1 → s1.2.1 75 26 = nI n → Ar (s1.1 88) xs → IsP n xs → (fit law n T0 p ↔ fit law n (T0.drop i) xs) → fnl law T0 p = fnl law (T0.drop i) xs → WP (mm_rw mr_144) (some .boolean) tb (WM tb (d + 3)) (FtP s n law T0 p) 40 [(0, vR 75), (1, vI 1), (2, vI (nI i))] [] (HP s1) 0 0 := by
    intro r
    induction r with
    | zero =>
      intro i s1 xs hi mx e26 h88 hxp hfit hfnl
      have ei : i = T0.length := by omega
      subst ei
      have h33 : s1.2.1 75 33 = nI T0.length := (hR.mx (mx.mono (by simp) (by simp))).2.2.1
      rw [List.drop_length] at hfit hfnl
      (try simp only [Option.toList_some, Option.toList_none, List.nil_append, List.append_nil, List.cons_append, Nat.sub_zero, Nat.sub_self, Nat.zero_sub]); refine Go.wp sp_144 200 ?_; simp only [↓g144_0, ↓g144_1, ↓g144_2, ↓g144_5, ↓g144_8, ↓g144_9, ↓g144_10, ↓g144_11, ↓g144_12, ↓g144_15, ↓g144_18, ↓g144_19, ↓g144_22, ↓g144_23, ↓g144_24, ↓g144_27, ↓g144_28, ↓g144_28t, ↓g144_29, ↓g144_30, ↓g144_33, ↓g144_36, ↓g144_37, ↓g144_38, ↓g144_39, ↓g144_40, ↓g144_41, ↓g144_42, ↓g144_45, ↓g144_48, ↓g144_49, ↓g144_52, ↓g144_53, ↓g144_54, ↓g144_57, ↓g144_58, ↓g144_58t, ↓g144_59, ↓g144_62, ↓g144_65, ↓g144_66, ↓g144_67, ↓g144_70, ↓g144_71, ↓g144_71t, ↓g144_72, ↓g144_75, ↓g144_78, ↓g144_79, ↓g144_80, ↓g144_83, ↓g144_84, ↓g144_84t, ↓g144_85, ↓g144_86, ↓g144_89, ↓g144_90, ↓g144_93, ↓g144_94, ↓g144_94t, ↓g144_95, ↓g144_98, ↓g144_99, ↓g144_102, ↓g144_103, ↓g144_104, ↓g144_107, ↓g144_110, ↓g144_111, cl_107, cl_124, cn_0, cn_1, cn_2, cn_3, cn_4, cn_5, cn_6, cn_7, cn_8, ↓Go_s, ↓GoC_a, ↓reduceIte, ↓mm_call_eq, ↓mmw_nil, ↓mmw_cons, List.take_succ_cons, List.take_zero, List.take_nil, List.drop_succ_cons, List.drop_zero, List.drop_nil, List.reverse_cons, List.reverse_nil, List.nil_append, List.cons_append, List.append_nil, Option.toList_some, Option.toList_none, Nat.sub_zero, Nat.le_refl, mmr_cons, mm_st1, mm_st2, mmi_nil, mmi_cons, mmc_I, mmc_L, mmc_R, mmu_get, mmu_one, mma_get, mma_one, List.filter_cons, List.filter_nil, List.contains_cons, List.contains_nil, Nat.reduceBEq, Nat.reduceAdd, Nat.reduceLT, Nat.reduceSub, Nat.reduceLeDiff, Nat.reduceEqDiff, Int32.reduceAdd, Bool.not_true, Bool.not_false, Bool.and_true, Bool.true_and, Bool.and_false, Bool.false_and, Bool.or_false, Bool.false_or, Bool.or_true, Bool.true_or, if_true, if_false, ite_true, ite_false, Bool.false_eq_true, List.getElem?_cons_zero, List.getElem?_cons_succ, List.length_cons, List.length_nil, true_and, and_true, List.set_cons_zero, List.set_cons_succ, Fin.isValue, Fin.val_zero, Fin.val_one, Fin.val_two, Fin.reduceFinMk, Nat.zero_add, hp_75, hp_76, hp_77, hp_78, hp_79, hp_80, hp_81, hp_82, hp_83, hp_84, hp_85, hp_86, hp_87, hp_88, hp_89, hp_90, hp_91, hp_92, hp_93, hp_94, hp_95, hp_96, hp_97, hp_98, og_75_0, og_75_1, og_75_2, og_75_3, og_75_4, og_75_5, og_75_6, og_75_7, og_75_8, og_75_9, og_75_10, og_75_11, og_75_12, og_75_13, og_75_14, og_75_15, og_75_16, og_75_17, og_75_18, og_75_19, og_75_20, og_75_21, og_75_22, og_75_23, og_75_24, og_75_25, og_75_26, og_75_27, og_75_28, og_75_29, og_75_30, og_75_31, og_75_32, og_75_33, og_75_34, og_75_35, og_75_36, og_75_37, og_75_38, og_75_39, og_75_40, og_75_41, ol_75, uo_75_4, uo_75_5, uo_75_6, uo_75_7, uo_75_11, uo_75_12, uo_75_13, uo_75_15, uo_75_19, uo_75_20, uo_75_21, uo_75_22, uo_75_23, uo_75_26, uo_75_30, uo_75_31, uo_75_32, uo_75_33, ua_76, ua_77, ua_78, ua_79, ua_80, ua_81, ua_82, ua_83, ua_84, ua_85, ua_86, ua_87, ua_88, ua_89, ua_90, ua_91, ua_92, ua_93, ua_94, ua_95, ua_96, ua_97, ua_98, sO_g, sA_g, sA_O, sO_A, sO_2, sM_1, sM_2, sM_3, sM_4, sM_5, sM_6, uc_75, h33, ft_8_26, nu_fitI, nu_fitL, nu_fitO, nu_fitA, nu_fitB0, nu_fitB1]
      refine ⟨fun _ => ⟨Or.inr trivial, s1, rfl, mx, Or.inl ⟨hfit.mpr trivial, rfl, ?_⟩⟩, fun z => absurd (Int32.le_refl _) z⟩
      rw [hfnl]
      exact h88
    | succ r ih =>
      intro i s1 xs hi mx e26 h88 hxp hfit hfnl
      have hi' : i < T0.length := by omega
      have hR1 := hR.mx (mx.mono (A' := [88, 94, 95, 96]) (J' := [26]) (by simp) (by simp))
      obtain ⟨g11, g13, g33, gT⟩ := hR1
      obtain ⟨a, b, hq⟩ : ∃ a b, T0.getD i (0, 0) = (a, b) := ⟨_, _, rfl⟩
      have hab := hT8 (a, b) (by
        rw [← hq, List.getD_eq_getElem?_getD, List.getElem?_eq_getElem hi']
        exact List.getElem_mem hi')
      have ha8 : a < 8 := hab.1
      have hb8 : b < 8 := hab.2
      have h92 : s1.1 92 i = nI a := by rw [(gT i hi').1, hq]
      have h93 : s1.1 93 i = nI b := by rw [(gT i hi').2, hq]
      have hcl : (nI i).toNatClampNeg = i := nI_clamp (by omega)
      rw [drop_q hi', hq] at hfit hfnl
      have hge : ¬ nI T0.length ≤ nI i := nI_ge hi' (by omega)
      have h10 : ¬ (1 : Int32) = 0 := by decide
      -- it fits no longer
      have bad : ∀ s2 lv, ¬ fit law n T0 p → MX [88] [26] s s2 → (∀ q ∈ ([(0, vR 75), (2, vI (nI i))] : AL), q ∈ lv) → WP (mm_rw mr_144) (some .boolean) tb (WM tb (d + 3)) (FtP s n law T0 p) 102 lv [] (HP s2) 0 0 := by
        intro s2 lv hno mx2 hlv
        refine WP.drop hlv ?_
        (try simp only [Option.toList_some, Option.toList_none, List.nil_append, List.append_nil, List.cons_append, Nat.sub_zero, Nat.sub_self, Nat.zero_sub]); refine Go.wp sp_144 200 ?_; simp only [↓g144_0, ↓g144_1, ↓g144_2, ↓g144_5, ↓g144_8, ↓g144_9, ↓g144_10, ↓g144_11, ↓g144_12, ↓g144_15, ↓g144_18, ↓g144_19, ↓g144_22, ↓g144_23, ↓g144_24, ↓g144_27, ↓g144_28, ↓g144_28t, ↓g144_29, ↓g144_30, ↓g144_33, ↓g144_36, ↓g144_37, ↓g144_38, ↓g144_39, ↓g144_40, ↓g144_41, ↓g144_42, ↓g144_45, ↓g144_48, ↓g144_49, ↓g144_52, ↓g144_53, ↓g144_54, ↓g144_57, ↓g144_58, ↓g144_58t, ↓g144_59, ↓g144_62, ↓g144_65, ↓g144_66, ↓g144_67, ↓g144_70, ↓g144_71, ↓g144_71t, ↓g144_72, ↓g144_75, ↓g144_78, ↓g144_79, ↓g144_80, ↓g144_83, ↓g144_84, ↓g144_84t, ↓g144_85, ↓g144_86, ↓g144_89, ↓g144_90, ↓g144_93, ↓g144_94, ↓g144_94t, ↓g144_95, ↓g144_98, ↓g144_99, ↓g144_102, ↓g144_103, ↓g144_104, ↓g144_107, ↓g144_110, ↓g144_111, cl_107, cl_124, cn_0, cn_1, cn_2, cn_3, cn_4, cn_5, cn_6, cn_7, cn_8, ↓Go_s, ↓GoC_a, ↓reduceIte, ↓mm_call_eq, ↓mmw_nil, ↓mmw_cons, List.take_succ_cons, List.take_zero, List.take_nil, List.drop_succ_cons, List.drop_zero, List.drop_nil, List.reverse_cons, List.reverse_nil, List.nil_append, List.cons_append, List.append_nil, Option.toList_some, Option.toList_none, Nat.sub_zero, Nat.le_refl, mmr_cons, mm_st1, mm_st2, mmi_nil, mmi_cons, mmc_I, mmc_L, mmc_R, mmu_get, mmu_one, mma_get, mma_one, List.filter_cons, List.filter_nil, List.contains_cons, List.contains_nil, Nat.reduceBEq, Nat.reduceAdd, Nat.reduceLT, Nat.reduceSub, Nat.reduceLeDiff, Nat.reduceEqDiff, Int32.reduceAdd, Bool.not_true, Bool.not_false, Bool.and_true, Bool.true_and, Bool.and_false, Bool.false_and, Bool.or_false, Bool.false_or, Bool.or_true, Bool.true_or, if_true, if_false, ite_true, ite_false, Bool.false_eq_true, List.getElem?_cons_zero, List.getElem?_cons_succ, List.length_cons, List.length_nil, true_and, and_true, List.set_cons_zero, List.set_cons_succ, Fin.isValue, Fin.val_zero, Fin.val_one, Fin.val_two, Fin.reduceFinMk, Nat.zero_add, hp_75, hp_76, hp_77, hp_78, hp_79, hp_80, hp_81, hp_82, hp_83, hp_84, hp_85, hp_86, hp_87, hp_88, hp_89, hp_90, hp_91, hp_92, hp_93, hp_94, hp_95, hp_96, hp_97, hp_98, og_75_0, og_75_1, og_75_2, og_75_3, og_75_4, og_75_5, og_75_6, og_75_7, og_75_8, og_75_9, og_75_10, og_75_11, og_75_12, og_75_13, og_75_14, og_75_15, og_75_16, og_75_17, og_75_18, og_75_19, og_75_20, og_75_21, og_75_22, og_75_23, og_75_24, og_75_25, og_75_26, og_75_27, og_75_28, og_75_29, og_75_30, og_75_31, og_75_32, og_75_33, og_75_34, og_75_35, og_75_36, og_75_37, og_75_38, og_75_39, og_75_40, og_75_41, ol_75, uo_75_4, uo_75_5, uo_75_6, uo_75_7, uo_75_11, uo_75_12, uo_75_13, uo_75_15, uo_75_19, uo_75_20, uo_75_21, uo_75_22, uo_75_23, uo_75_26, uo_75_30, uo_75_31, uo_75_32, uo_75_33, ua_76, ua_77, ua_78, ua_79, ua_80, ua_81, ua_82, ua_83, ua_84, ua_85, ua_86, ua_87, ua_88, ua_89, ua_90, ua_91, ua_92, ua_93, ua_94, ua_95, ua_96, ua_97, ua_98, sO_g, sA_g, sA_O, sO_A, sO_2, sM_1, sM_2, sM_3, sM_4, sM_5, sM_6, uc_75, nI_1, ft_8_26, nu_fitI, nu_fitL, nu_fitO, nu_fitA, nu_fitB0, nu_fitB1]
        exact no (i + 1) s2 (by omega) mx2 hno
      (try simp only [Option.toList_some, Option.toList_none, List.nil_append, List.append_nil, List.cons_append, Nat.sub_zero, Nat.sub_self, Nat.zero_sub]); refine Go.wp sp_144 200 ?_; simp only [↓g144_0, ↓g144_1, ↓g144_2, ↓g144_5, ↓g144_8, ↓g144_9, ↓g144_10, ↓g144_11, ↓g144_12, ↓g144_15, ↓g144_18, ↓g144_19, ↓g144_22, ↓g144_23, ↓g144_24, ↓g144_27, ↓g144_28, ↓g144_28t, ↓g144_29, ↓g144_30, ↓g144_33, ↓g144_36, ↓g144_37, ↓g144_38, ↓g144_39, ↓g144_40, ↓g144_41, ↓g144_42, ↓g144_45, ↓g144_48, ↓g144_49, ↓g144_52, ↓g144_53, ↓g144_54, ↓g144_57, ↓g144_58, ↓g144_58t, ↓g144_59, ↓g144_62, ↓g144_65, ↓g144_66, ↓g144_67, ↓g144_70, ↓g144_71, ↓g144_71t, ↓g144_72, ↓g144_75, ↓g144_78, ↓g144_79, ↓g144_80, ↓g144_83, ↓g144_84, ↓g144_84t, ↓g144_85, ↓g144_86, ↓g144_89, ↓g144_90, ↓g144_93, ↓g144_94, ↓g144_94t, ↓g144_95, ↓g144_98, ↓g144_99, ↓g144_102, ↓g144_103, ↓g144_104, ↓g144_107, ↓g144_110, ↓g144_111, cl_107, cl_124, cn_0, cn_1, cn_2, cn_3, cn_4, cn_5, cn_6, cn_7, cn_8, ↓Go_s, ↓GoC_a, ↓reduceIte, ↓mm_call_eq, ↓mmw_nil, ↓mmw_cons, List.take_succ_cons, List.take_zero, List.take_nil, List.drop_succ_cons, List.drop_zero, List.drop_nil, List.reverse_cons, List.reverse_nil, List.nil_append, List.cons_append, List.append_nil, Option.toList_some, Option.toList_none, Nat.sub_zero, Nat.le_refl, mmr_cons, mm_st1, mm_st2, mmi_nil, mmi_cons, mmc_I, mmc_L, mmc_R, mmu_get, mmu_one, mma_get, mma_one, List.filter_cons, List.filter_nil, List.contains_cons, List.contains_nil, Nat.reduceBEq, Nat.reduceAdd, Nat.reduceLT, Nat.reduceSub, Nat.reduceLeDiff, Nat.reduceEqDiff, Int32.reduceAdd, Bool.not_true, Bool.not_false, Bool.and_true, Bool.true_and, Bool.and_false, Bool.false_and, Bool.or_false, Bool.false_or, Bool.or_true, Bool.true_or, if_true, if_false, ite_true, ite_false, Bool.false_eq_true, List.getElem?_cons_zero, List.getElem?_cons_succ, List.length_cons, List.length_nil, true_and, and_true, List.set_cons_zero, List.set_cons_succ, Fin.isValue, Fin.val_zero, Fin.val_one, Fin.val_two, Fin.reduceFinMk, Nat.zero_add, hp_75, hp_76, hp_77, hp_78, hp_79, hp_80, hp_81, hp_82, hp_83, hp_84, hp_85, hp_86, hp_87, hp_88, hp_89, hp_90, hp_91, hp_92, hp_93, hp_94, hp_95, hp_96, hp_97, hp_98, og_75_0, og_75_1, og_75_2, og_75_3, og_75_4, og_75_5, og_75_6, og_75_7, og_75_8, og_75_9, og_75_10, og_75_11, og_75_12, og_75_13, og_75_14, og_75_15, og_75_16, og_75_17, og_75_18, og_75_19, og_75_20, og_75_21, og_75_22, og_75_23, og_75_24, og_75_25, og_75_26, og_75_27, og_75_28, og_75_29, og_75_30, og_75_31, og_75_32, og_75_33, og_75_34, og_75_35, og_75_36, og_75_37, og_75_38, og_75_39, og_75_40, og_75_41, ol_75, uo_75_4, uo_75_5, uo_75_6, uo_75_7, uo_75_11, uo_75_12, uo_75_13, uo_75_15, uo_75_19, uo_75_20, uo_75_21, uo_75_22, uo_75_23, uo_75_26, uo_75_30, uo_75_31, uo_75_32, uo_75_33, ua_76, ua_77, ua_78, ua_79, ua_80, ua_81, ua_82, ua_83, ua_84, ua_85, ua_86, ua_87, ua_88, ua_89, ua_90, ua_91, ua_92, ua_93, ua_94, ua_95, ua_96, ua_97, ua_98, sO_g, sA_g, sA_O, sO_A, sO_2, sM_1, sM_2, sM_3, sM_4, sM_5, sM_6, uc_75, g33, hcl, h92, ft_8_26, nu_fitI, nu_fitL, nu_fitO, nu_fitA, nu_fitB0, nu_fitB1]
      refine ⟨fun z => absurd z hge, fun _ => ⟨fun z => absurd z h10, fun _ => ⟨vp_in_nI (by omega) (by omega), 0, 0, _, Nat.le_refl _, Nat.le_refl _, M_isBook (d := d + 1) g11 (by omega) (by omega) _, fun z h' hz => ?_⟩⟩⟩
      obtain ⟨rfl, rfl⟩ := hz
      rw [isB_nI (by omega) (by omega)]
      by_cases han : a < n
      · rw [decide_eq_true han]
        (try simp only [Option.toList_some, Option.toList_none, List.nil_append, List.append_nil, List.cons_append, Nat.sub_zero, Nat.sub_self, Nat.zero_sub]); refine Go.wp sp_144 200 ?_; simp only [↓g144_0, ↓g144_1, ↓g144_2, ↓g144_5, ↓g144_8, ↓g144_9, ↓g144_10, ↓g144_11, ↓g144_12, ↓g144_15, ↓g144_18, ↓g144_19, ↓g144_22, ↓g144_23, ↓g144_24, ↓g144_27, ↓g144_28, ↓g144_28t, ↓g144_29, ↓g144_30, ↓g144_33, ↓g144_36, ↓g144_37, ↓g144_38, ↓g144_39, ↓g144_40, ↓g144_41, ↓g144_42, ↓g144_45, ↓g144_48, ↓g144_49, ↓g144_52, ↓g144_53, ↓g144_54, ↓g144_57, ↓g144_58, ↓g144_58t, ↓g144_59, ↓g144_62, ↓g144_65, ↓g144_66, ↓g144_67, ↓g144_70, ↓g144_71, ↓g144_71t, ↓g144_72, ↓g144_75, ↓g144_78, ↓g144_79, ↓g144_80, ↓g144_83, ↓g144_84, ↓g144_84t, ↓g144_85, ↓g144_86, ↓g144_89, ↓g144_90, ↓g144_93, ↓g144_94, ↓g144_94t, ↓g144_95, ↓g144_98, ↓g144_99, ↓g144_102, ↓g144_103, ↓g144_104, ↓g144_107, ↓g144_110, ↓g144_111, cl_107, cl_124, cn_0, cn_1, cn_2, cn_3, cn_4, cn_5, cn_6, cn_7, cn_8, ↓Go_s, ↓GoC_a, ↓reduceIte, ↓mm_call_eq, ↓mmw_nil, ↓mmw_cons, List.take_succ_cons, List.take_zero, List.take_nil, List.drop_succ_cons, List.drop_zero, List.drop_nil, List.reverse_cons, List.reverse_nil, List.nil_append, List.cons_append, List.append_nil, Option.toList_some, Option.toList_none, Nat.sub_zero, Nat.le_refl, mmr_cons, mm_st1, mm_st2, mmi_nil, mmi_cons, mmc_I, mmc_L, mmc_R, mmu_get, mmu_one, mma_get, mma_one, List.filter_cons, List.filter_nil, List.contains_cons, List.contains_nil, Nat.reduceBEq, Nat.reduceAdd, Nat.reduceLT, Nat.reduceSub, Nat.reduceLeDiff, Nat.reduceEqDiff, Int32.reduceAdd, Bool.not_true, Bool.not_false, Bool.and_true, Bool.true_and, Bool.and_false, Bool.false_and, Bool.or_false, Bool.false_or, Bool.or_true, Bool.true_or, if_true, if_false, ite_true, ite_false, Bool.false_eq_true, List.getElem?_cons_zero, List.getElem?_cons_succ, List.length_cons, List.length_nil, true_and, and_true, List.set_cons_zero, List.set_cons_succ, Fin.isValue, Fin.val_zero, Fin.val_one, Fin.val_two, Fin.reduceFinMk, Nat.zero_add, hp_75, hp_76, hp_77, hp_78, hp_79, hp_80, hp_81, hp_82, hp_83, hp_84, hp_85, hp_86, hp_87, hp_88, hp_89, hp_90, hp_91, hp_92, hp_93, hp_94, hp_95, hp_96, hp_97, hp_98, og_75_0, og_75_1, og_75_2, og_75_3, og_75_4, og_75_5, og_75_6, og_75_7, og_75_8, og_75_9, og_75_10, og_75_11, og_75_12, og_75_13, og_75_14, og_75_15, og_75_16, og_75_17, og_75_18, og_75_19, og_75_20, og_75_21, og_75_22, og_75_23, og_75_24, og_75_25, og_75_26, og_75_27, og_75_28, og_75_29, og_75_30, og_75_31, og_75_32, og_75_33, og_75_34, og_75_35, og_75_36, og_75_37, og_75_38, og_75_39, og_75_40, og_75_41, ol_75, uo_75_4, uo_75_5, uo_75_6, uo_75_7, uo_75_11, uo_75_12, uo_75_13, uo_75_15, uo_75_19, uo_75_20, uo_75_21, uo_75_22, uo_75_23, uo_75_26, uo_75_30, uo_75_31, uo_75_32, uo_75_33, ua_76, ua_77, ua_78, ua_79, ua_80, ua_81, ua_82, ua_83, ua_84, ua_85, ua_86, ua_87, ua_88, ua_89, ua_90, ua_91, ua_92, ua_93, ua_94, ua_95, ua_96, ua_97, ua_98, sO_g, sA_g, sA_O, sO_A, sO_2, sM_1, sM_2, sM_3, sM_4, sM_5, sM_6, uc_75, b01_t, hcl, h93, ft_8_26, nu_fitI, nu_fitL, nu_fitO, nu_fitA, nu_fitB0, nu_fitB1]
        refine ⟨fun z => absurd z h10, fun _ => ⟨vp_in_nI (by omega) (by omega), 0, 0, _, Nat.le_refl _, Nat.le_refl _, M_isBook (d := d + 1) g11 (by omega) (by omega) _, fun z h' hz => ?_⟩⟩
        obtain ⟨rfl, rfl⟩ := hz
        rw [isB_nI (by omega) (by omega)]
        by_cases hbn : b < n
        · rw [decide_eq_true hbn]
          have hxl := hxp.len
          have hx8 : ∀ v ∈ xs, v < 8 := fun v hv => by have := hxp.mem.mp hv; omega
          have hax := hxp.mem.mpr han
          (try simp only [Option.toList_some, Option.toList_none, List.nil_append, List.append_nil, List.cons_append, Nat.sub_zero, Nat.sub_self, Nat.zero_sub]); refine Go.wp sp_144 200 ?_; simp only [↓g144_0, ↓g144_1, ↓g144_2, ↓g144_5, ↓g144_8, ↓g144_9, ↓g144_10, ↓g144_11, ↓g144_12, ↓g144_15, ↓g144_18, ↓g144_19, ↓g144_22, ↓g144_23, ↓g144_24, ↓g144_27, ↓g144_28, ↓g144_28t, ↓g144_29, ↓g144_30, ↓g144_33, ↓g144_36, ↓g144_37, ↓g144_38, ↓g144_39, ↓g144_40, ↓g144_41, ↓g144_42, ↓g144_45, ↓g144_48, ↓g144_49, ↓g144_52, ↓g144_53, ↓g144_54, ↓g144_57, ↓g144_58, ↓g144_58t, ↓g144_59, ↓g144_62, ↓g144_65, ↓g144_66, ↓g144_67, ↓g144_70, ↓g144_71, ↓g144_71t, ↓g144_72, ↓g144_75, ↓g144_78, ↓g144_79, ↓g144_80, ↓g144_83, ↓g144_84, ↓g144_84t, ↓g144_85, ↓g144_86, ↓g144_89, ↓g144_90, ↓g144_93, ↓g144_94, ↓g144_94t, ↓g144_95, ↓g144_98, ↓g144_99, ↓g144_102, ↓g144_103, ↓g144_104, ↓g144_107, ↓g144_110, ↓g144_111, cl_107, cl_124, cn_0, cn_1, cn_2, cn_3, cn_4, cn_5, cn_6, cn_7, cn_8, ↓Go_s, ↓GoC_a, ↓reduceIte, ↓mm_call_eq, ↓mmw_nil, ↓mmw_cons, List.take_succ_cons, List.take_zero, List.take_nil, List.drop_succ_cons, List.drop_zero, List.drop_nil, List.reverse_cons, List.reverse_nil, List.nil_append, List.cons_append, List.append_nil, Option.toList_some, Option.toList_none, Nat.sub_zero, Nat.le_refl, mmr_cons, mm_st1, mm_st2, mmi_nil, mmi_cons, mmc_I, mmc_L, mmc_R, mmu_get, mmu_one, mma_get, mma_one, List.filter_cons, List.filter_nil, List.contains_cons, List.contains_nil, Nat.reduceBEq, Nat.reduceAdd, Nat.reduceLT, Nat.reduceSub, Nat.reduceLeDiff, Nat.reduceEqDiff, Int32.reduceAdd, Bool.not_true, Bool.not_false, Bool.and_true, Bool.true_and, Bool.and_false, Bool.false_and, Bool.or_false, Bool.false_or, Bool.or_true, Bool.true_or, if_true, if_false, ite_true, ite_false, Bool.false_eq_true, List.getElem?_cons_zero, List.getElem?_cons_succ, List.length_cons, List.length_nil, true_and, and_true, List.set_cons_zero, List.set_cons_succ, Fin.isValue, Fin.val_zero, Fin.val_one, Fin.val_two, Fin.reduceFinMk, Nat.zero_add, hp_75, hp_76, hp_77, hp_78, hp_79, hp_80, hp_81, hp_82, hp_83, hp_84, hp_85, hp_86, hp_87, hp_88, hp_89, hp_90, hp_91, hp_92, hp_93, hp_94, hp_95, hp_96, hp_97, hp_98, og_75_0, og_75_1, og_75_2, og_75_3, og_75_4, og_75_5, og_75_6, og_75_7, og_75_8, og_75_9, og_75_10, og_75_11, og_75_12, og_75_13, og_75_14, og_75_15, og_75_16, og_75_17, og_75_18, og_75_19, og_75_20, og_75_21, og_75_22, og_75_23, og_75_24, og_75_25, og_75_26, og_75_27, og_75_28, og_75_29, og_75_30, og_75_31, og_75_32, og_75_33, og_75_34, og_75_35, og_75_36, og_75_37, og_75_38, og_75_39, og_75_40, og_75_41, ol_75, uo_75_4, uo_75_5, uo_75_6, uo_75_7, uo_75_11, uo_75_12, uo_75_13, uo_75_15, uo_75_19, uo_75_20, uo_75_21, uo_75_22, uo_75_23, uo_75_26, uo_75_30, uo_75_31, uo_75_32, uo_75_33, ua_76, ua_77, ua_78, ua_79, ua_80, ua_81, ua_82, ua_83, ua_84, ua_85, ua_86, ua_87, ua_88, ua_89, ua_90, ua_91, ua_92, ua_93, ua_94, ua_95, ua_96, ua_97, ua_98, sO_g, sA_g, sA_O, sO_A, sO_2, sM_1, sM_2, sM_3, sM_4, sM_5, sM_6, uc_75, b01_t, hcl, h92, ft_8_26, nu_fitI, nu_fitL, nu_fitO, nu_fitA, nu_fitB0, nu_fitB1]
          refine ⟨fun z => absurd z h10, fun _ => ⟨vp_in_nI (by omega) (by omega), 0, 0, _, Nat.le_refl _, Nat.le_refl _, m_trip (d := d) (e := 0) h88 (by rw [hxl]; exact e26) hx8 hxp.nd (by omega) g13 hlw hax (by omega), fun z h' hz => ?_⟩⟩
          obtain ⟨rfl, f2, rfl, hf2⟩ := hz
          rw [if_neg (by omega)] at hf2
          obtain ⟨s2, es2, mx2, h882, e262⟩ : ∃ s2, sA s1 88 f2 = s2 ∧ MX [88] [26] s1 s2 ∧ Ar (s2.1 88) (tX law xs a) ∧ s2.2.1 75 26 = nI n := ⟨_, rfl, MX.a (by simp), hf2, e26⟩
          rw [es2]
          have h932 : s2.1 93 i = nI b := by rw [mx2.1 93 (by simp)]; exact h93
          have hg8 : tG xs a < 8 := hx8 _ (tG_mem hax)
          by_cases hgb : tG xs a = b
          · rw [hgb]
            (try simp only [Option.toList_some, Option.toList_none, List.nil_append, List.append_nil, List.cons_append, Nat.sub_zero, Nat.sub_self, Nat.zero_sub]); refine Go.wp [10, 40, 62, 75, 89, 102] 200 ?_; simp only [↓g144_0, ↓g144_1, ↓g144_2, ↓g144_5, ↓g144_8, ↓g144_9, ↓g144_10, ↓g144_11, ↓g144_12, ↓g144_15, ↓g144_18, ↓g144_19, ↓g144_22, ↓g144_23, ↓g144_24, ↓g144_27, ↓g144_28, ↓g144_28t, ↓g144_29, ↓g144_30, ↓g144_33, ↓g144_36, ↓g144_37, ↓g144_38, ↓g144_39, ↓g144_40, ↓g144_41, ↓g144_42, ↓g144_45, ↓g144_48, ↓g144_49, ↓g144_52, ↓g144_53, ↓g144_54, ↓g144_57, ↓g144_58, ↓g144_58t, ↓g144_59, ↓g144_62, ↓g144_65, ↓g144_66, ↓g144_67, ↓g144_70, ↓g144_71, ↓g144_71t, ↓g144_72, ↓g144_75, ↓g144_78, ↓g144_79, ↓g144_80, ↓g144_83, ↓g144_84, ↓g144_84t, ↓g144_85, ↓g144_86, ↓g144_89, ↓g144_90, ↓g144_93, ↓g144_94, ↓g144_94t, ↓g144_95, ↓g144_98, ↓g144_99, ↓g144_102, ↓g144_103, ↓g144_104, ↓g144_107, ↓g144_110, ↓g144_111, cl_107, cl_124, cn_0, cn_1, cn_2, cn_3, cn_4, cn_5, cn_6, cn_7, cn_8, ↓Go_s, ↓GoC_a, ↓reduceIte, ↓mm_call_eq, ↓mmw_nil, ↓mmw_cons, List.take_succ_cons, List.take_zero, List.take_nil, List.drop_succ_cons, List.drop_zero, List.drop_nil, List.reverse_cons, List.reverse_nil, List.nil_append, List.cons_append, List.append_nil, Option.toList_some, Option.toList_none, Nat.sub_zero, Nat.le_refl, mmr_cons, mm_st1, mm_st2, mmi_nil, mmi_cons, mmc_I, mmc_L, mmc_R, mmu_get, mmu_one, mma_get, mma_one, List.filter_cons, List.filter_nil, List.contains_cons, List.contains_nil, Nat.reduceBEq, Nat.reduceAdd, Nat.reduceLT, Nat.reduceSub, Nat.reduceLeDiff, Nat.reduceEqDiff, Int32.reduceAdd, Bool.not_true, Bool.not_false, Bool.and_true, Bool.true_and, Bool.and_false, Bool.false_and, Bool.or_false, Bool.false_or, Bool.or_true, Bool.true_or, if_true, if_false, ite_true, ite_false, Bool.false_eq_true, List.getElem?_cons_zero, List.getElem?_cons_succ, List.length_cons, List.length_nil, true_and, and_true, List.set_cons_zero, List.set_cons_succ, Fin.isValue, Fin.val_zero, Fin.val_one, Fin.val_two, Fin.reduceFinMk, Nat.zero_add, hp_75, hp_76, hp_77, hp_78, hp_79, hp_80, hp_81, hp_82, hp_83, hp_84, hp_85, hp_86, hp_87, hp_88, hp_89, hp_90, hp_91, hp_92, hp_93, hp_94, hp_95, hp_96, hp_97, hp_98, og_75_0, og_75_1, og_75_2, og_75_3, og_75_4, og_75_5, og_75_6, og_75_7, og_75_8, og_75_9, og_75_10, og_75_11, og_75_12, og_75_13, og_75_14, og_75_15, og_75_16, og_75_17, og_75_18, og_75_19, og_75_20, og_75_21, og_75_22, og_75_23, og_75_24, og_75_25, og_75_26, og_75_27, og_75_28, og_75_29, og_75_30, og_75_31, og_75_32, og_75_33, og_75_34, og_75_35, og_75_36, og_75_37, og_75_38, og_75_39, og_75_40, og_75_41, ol_75, uo_75_4, uo_75_5, uo_75_6, uo_75_7, uo_75_11, uo_75_12, uo_75_13, uo_75_15, uo_75_19, uo_75_20, uo_75_21, uo_75_22, uo_75_23, uo_75_26, uo_75_30, uo_75_31, uo_75_32, uo_75_33, ua_76, ua_77, ua_78, ua_79, ua_80, ua_81, ua_82, ua_83, ua_84, ua_85, ua_86, ua_87, ua_88, ua_89, ua_90, ua_91, ua_92, ua_93, ua_94, ua_95, ua_96, ua_97, ua_98, sO_g, sA_g, sA_O, sO_A, sO_2, sM_1, sM_2, sM_3, sM_4, sM_5, sM_6, uc_75, hcl, h932, nI_1, ft_8_26, nu_fitI, nu_fitL, nu_fitO, nu_fitA, nu_fitB0, nu_fitB1]
            refine ⟨vp_in_nI (by omega) (by omega), fun z => absurd trivial z, fun _ => ?_⟩
            refine ih (i + 1) s2 (tX law xs a) (by omega) (mx.tr mx2) e262 h882 (hxp.tX han) (hfit.trans ⟨fun z => z.2.2.2, fun z => ⟨han, hbn, hgb, z⟩⟩) hfnl
          · have hng : ¬ nI (tG xs a) = nI b := fun z => hgb ((nI_eq (by omega) (by omega)).mp z)
            (try simp only [Option.toList_some, Option.toList_none, List.nil_append, List.append_nil, List.cons_append, Nat.sub_zero, Nat.sub_self, Nat.zero_sub]); refine Go.wp [10, 40, 62, 75, 89, 102] 200 ?_; simp only [↓g144_0, ↓g144_1, ↓g144_2, ↓g144_5, ↓g144_8, ↓g144_9, ↓g144_10, ↓g144_11, ↓g144_12, ↓g144_15, ↓g144_18, ↓g144_19, ↓g144_22, ↓g144_23, ↓g144_24, ↓g144_27, ↓g144_28, ↓g144_28t, ↓g144_29, ↓g144_30, ↓g144_33, ↓g144_36, ↓g144_37, ↓g144_38, ↓g144_39, ↓g144_40, ↓g144_41, ↓g144_42, ↓g144_45, ↓g144_48, ↓g144_49, ↓g144_52, ↓g144_53, ↓g144_54, ↓g144_57, ↓g144_58, ↓g144_58t, ↓g144_59, ↓g144_62, ↓g144_65, ↓g144_66, ↓g144_67, ↓g144_70, ↓g144_71, ↓g144_71t, ↓g144_72, ↓g144_75, ↓g144_78, ↓g144_79, ↓g144_80, ↓g144_83, ↓g144_84, ↓g144_84t, ↓g144_85, ↓g144_86, ↓g144_89, ↓g144_90, ↓g144_93, ↓g144_94, ↓g144_94t, ↓g144_95, ↓g144_98, ↓g144_99, ↓g144_102, ↓g144_103, ↓g144_104, ↓g144_107, ↓g144_110, ↓g144_111, cl_107, cl_124, cn_0, cn_1, cn_2, cn_3, cn_4, cn_5, cn_6, cn_7, cn_8, ↓Go_s, ↓GoC_a, ↓reduceIte, ↓mm_call_eq, ↓mmw_nil, ↓mmw_cons, List.take_succ_cons, List.take_zero, List.take_nil, List.drop_succ_cons, List.drop_zero, List.drop_nil, List.reverse_cons, List.reverse_nil, List.nil_append, List.cons_append, List.append_nil, Option.toList_some, Option.toList_none, Nat.sub_zero, Nat.le_refl, mmr_cons, mm_st1, mm_st2, mmi_nil, mmi_cons, mmc_I, mmc_L, mmc_R, mmu_get, mmu_one, mma_get, mma_one, List.filter_cons, List.filter_nil, List.contains_cons, List.contains_nil, Nat.reduceBEq, Nat.reduceAdd, Nat.reduceLT, Nat.reduceSub, Nat.reduceLeDiff, Nat.reduceEqDiff, Int32.reduceAdd, Bool.not_true, Bool.not_false, Bool.and_true, Bool.true_and, Bool.and_false, Bool.false_and, Bool.or_false, Bool.false_or, Bool.or_true, Bool.true_or, if_true, if_false, ite_true, ite_false, Bool.false_eq_true, List.getElem?_cons_zero, List.getElem?_cons_succ, List.length_cons, List.length_nil, true_and, and_true, List.set_cons_zero, List.set_cons_succ, Fin.isValue, Fin.val_zero, Fin.val_one, Fin.val_two, Fin.reduceFinMk, Nat.zero_add, hp_75, hp_76, hp_77, hp_78, hp_79, hp_80, hp_81, hp_82, hp_83, hp_84, hp_85, hp_86, hp_87, hp_88, hp_89, hp_90, hp_91, hp_92, hp_93, hp_94, hp_95, hp_96, hp_97, hp_98, og_75_0, og_75_1, og_75_2, og_75_3, og_75_4, og_75_5, og_75_6, og_75_7, og_75_8, og_75_9, og_75_10, og_75_11, og_75_12, og_75_13, og_75_14, og_75_15, og_75_16, og_75_17, og_75_18, og_75_19, og_75_20, og_75_21, og_75_22, og_75_23, og_75_24, og_75_25, og_75_26, og_75_27, og_75_28, og_75_29, og_75_30, og_75_31, og_75_32, og_75_33, og_75_34, og_75_35, og_75_36, og_75_37, og_75_38, og_75_39, og_75_40, og_75_41, ol_75, uo_75_4, uo_75_5, uo_75_6, uo_75_7, uo_75_11, uo_75_12, uo_75_13, uo_75_15, uo_75_19, uo_75_20, uo_75_21, uo_75_22, uo_75_23, uo_75_26, uo_75_30, uo_75_31, uo_75_32, uo_75_33, ua_76, ua_77, ua_78, ua_79, ua_80, ua_81, ua_82, ua_83, ua_84, ua_85, ua_86, ua_87, ua_88, ua_89, ua_90, ua_91, ua_92, ua_93, ua_94, ua_95, ua_96, ua_97, ua_98, sO_g, sA_g, sA_O, sO_A, sO_2, sM_1, sM_2, sM_3, sM_4, sM_5, sM_6, uc_75, hcl, h932, ft_8_26, nu_fitI, nu_fitL, nu_fitO, nu_fitA, nu_fitB0, nu_fitB1]
            exact ⟨vp_in_nI (by omega) (by omega), fun _ => bad s2 _ (fun z => hgb (hfit.mp z).2.2.1) (mx.tr mx2) (by simp), fun z => absurd z hng⟩
        · rw [decide_eq_false hbn]
          (try simp only [Option.toList_some, Option.toList_none, List.nil_append, List.append_nil, List.cons_append, Nat.sub_zero, Nat.sub_self, Nat.zero_sub]); refine Go.wp [10, 40, 62, 75, 89, 102] 200 ?_; simp only [↓g144_0, ↓g144_1, ↓g144_2, ↓g144_5, ↓g144_8, ↓g144_9, ↓g144_10, ↓g144_11, ↓g144_12, ↓g144_15, ↓g144_18, ↓g144_19, ↓g144_22, ↓g144_23, ↓g144_24, ↓g144_27, ↓g144_28, ↓g144_28t, ↓g144_29, ↓g144_30, ↓g144_33, ↓g144_36, ↓g144_37, ↓g144_38, ↓g144_39, ↓g144_40, ↓g144_41, ↓g144_42, ↓g144_45, ↓g144_48, ↓g144_49, ↓g144_52, ↓g144_53, ↓g144_54, ↓g144_57, ↓g144_58, ↓g144_58t, ↓g144_59, ↓g144_62, ↓g144_65, ↓g144_66, ↓g144_67, ↓g144_70, ↓g144_71, ↓g144_71t, ↓g144_72, ↓g144_75, ↓g144_78, ↓g144_79, ↓g144_80, ↓g144_83, ↓g144_84, ↓g144_84t, ↓g144_85, ↓g144_86, ↓g144_89, ↓g144_90, ↓g144_93, ↓g144_94, ↓g144_94t, ↓g144_95, ↓g144_98, ↓g144_99, ↓g144_102, ↓g144_103, ↓g144_104, ↓g144_107, ↓g144_110, ↓g144_111, cl_107, cl_124, cn_0, cn_1, cn_2, cn_3, cn_4, cn_5, cn_6, cn_7, cn_8, ↓Go_s, ↓GoC_a, ↓reduceIte, ↓mm_call_eq, ↓mmw_nil, ↓mmw_cons, List.take_succ_cons, List.take_zero, List.take_nil, List.drop_succ_cons, List.drop_zero, List.drop_nil, List.reverse_cons, List.reverse_nil, List.nil_append, List.cons_append, List.append_nil, Option.toList_some, Option.toList_none, Nat.sub_zero, Nat.le_refl, mmr_cons, mm_st1, mm_st2, mmi_nil, mmi_cons, mmc_I, mmc_L, mmc_R, mmu_get, mmu_one, mma_get, mma_one, List.filter_cons, List.filter_nil, List.contains_cons, List.contains_nil, Nat.reduceBEq, Nat.reduceAdd, Nat.reduceLT, Nat.reduceSub, Nat.reduceLeDiff, Nat.reduceEqDiff, Int32.reduceAdd, Bool.not_true, Bool.not_false, Bool.and_true, Bool.true_and, Bool.and_false, Bool.false_and, Bool.or_false, Bool.false_or, Bool.or_true, Bool.true_or, if_true, if_false, ite_true, ite_false, Bool.false_eq_true, List.getElem?_cons_zero, List.getElem?_cons_succ, List.length_cons, List.length_nil, true_and, and_true, List.set_cons_zero, List.set_cons_succ, Fin.isValue, Fin.val_zero, Fin.val_one, Fin.val_two, Fin.reduceFinMk, Nat.zero_add, hp_75, hp_76, hp_77, hp_78, hp_79, hp_80, hp_81, hp_82, hp_83, hp_84, hp_85, hp_86, hp_87, hp_88, hp_89, hp_90, hp_91, hp_92, hp_93, hp_94, hp_95, hp_96, hp_97, hp_98, og_75_0, og_75_1, og_75_2, og_75_3, og_75_4, og_75_5, og_75_6, og_75_7, og_75_8, og_75_9, og_75_10, og_75_11, og_75_12, og_75_13, og_75_14, og_75_15, og_75_16, og_75_17, og_75_18, og_75_19, og_75_20, og_75_21, og_75_22, og_75_23, og_75_24, og_75_25, og_75_26, og_75_27, og_75_28, og_75_29, og_75_30, og_75_31, og_75_32, og_75_33, og_75_34, og_75_35, og_75_36, og_75_37, og_75_38, og_75_39, og_75_40, og_75_41, ol_75, uo_75_4, uo_75_5, uo_75_6, uo_75_7, uo_75_11, uo_75_12, uo_75_13, uo_75_15, uo_75_19, uo_75_20, uo_75_21, uo_75_22, uo_75_23, uo_75_26, uo_75_30, uo_75_31, uo_75_32, uo_75_33, ua_76, ua_77, ua_78, ua_79, ua_80, ua_81, ua_82, ua_83, ua_84, ua_85, ua_86, ua_87, ua_88, ua_89, ua_90, ua_91, ua_92, ua_93, ua_94, ua_95, ua_96, ua_97, ua_98, sO_g, sA_g, sA_O, sO_A, sO_2, sM_1, sM_2, sM_3, sM_4, sM_5, sM_6, uc_75, b01_f, ft_8_26, nu_fitI, nu_fitL, nu_fitO, nu_fitA, nu_fitB0, nu_fitB1]
          exact ⟨fun _ => bad s1 _ (fun z => hbn (hfit.mp z).2.1) mx (by simp), fun z => absurd trivial z⟩
      · rw [decide_eq_false han]
        (try simp only [Option.toList_some, Option.toList_none, List.nil_append, List.append_nil, List.cons_append, Nat.sub_zero, Nat.sub_self, Nat.zero_sub]); refine Go.wp [10, 40, 62, 75, 89, 102] 200 ?_; simp only [↓g144_0, ↓g144_1, ↓g144_2, ↓g144_5, ↓g144_8, ↓g144_9, ↓g144_10, ↓g144_11, ↓g144_12, ↓g144_15, ↓g144_18, ↓g144_19, ↓g144_22, ↓g144_23, ↓g144_24, ↓g144_27, ↓g144_28, ↓g144_28t, ↓g144_29, ↓g144_30, ↓g144_33, ↓g144_36, ↓g144_37, ↓g144_38, ↓g144_39, ↓g144_40, ↓g144_41, ↓g144_42, ↓g144_45, ↓g144_48, ↓g144_49, ↓g144_52, ↓g144_53, ↓g144_54, ↓g144_57, ↓g144_58, ↓g144_58t, ↓g144_59, ↓g144_62, ↓g144_65, ↓g144_66, ↓g144_67, ↓g144_70, ↓g144_71, ↓g144_71t, ↓g144_72, ↓g144_75, ↓g144_78, ↓g144_79, ↓g144_80, ↓g144_83, ↓g144_84, ↓g144_84t, ↓g144_85, ↓g144_86, ↓g144_89, ↓g144_90, ↓g144_93, ↓g144_94, ↓g144_94t, ↓g144_95, ↓g144_98, ↓g144_99, ↓g144_102, ↓g144_103, ↓g144_104, ↓g144_107, ↓g144_110, ↓g144_111, cl_107, cl_124, cn_0, cn_1, cn_2, cn_3, cn_4, cn_5, cn_6, cn_7, cn_8, ↓Go_s, ↓GoC_a, ↓reduceIte, ↓mm_call_eq, ↓mmw_nil, ↓mmw_cons, List.take_succ_cons, List.take_zero, List.take_nil, List.drop_succ_cons, List.drop_zero, List.drop_nil, List.reverse_cons, List.reverse_nil, List.nil_append, List.cons_append, List.append_nil, Option.toList_some, Option.toList_none, Nat.sub_zero, Nat.le_refl, mmr_cons, mm_st1, mm_st2, mmi_nil, mmi_cons, mmc_I, mmc_L, mmc_R, mmu_get, mmu_one, mma_get, mma_one, List.filter_cons, List.filter_nil, List.contains_cons, List.contains_nil, Nat.reduceBEq, Nat.reduceAdd, Nat.reduceLT, Nat.reduceSub, Nat.reduceLeDiff, Nat.reduceEqDiff, Int32.reduceAdd, Bool.not_true, Bool.not_false, Bool.and_true, Bool.true_and, Bool.and_false, Bool.false_and, Bool.or_false, Bool.false_or, Bool.or_true, Bool.true_or, if_true, if_false, ite_true, ite_false, Bool.false_eq_true, List.getElem?_cons_zero, List.getElem?_cons_succ, List.length_cons, List.length_nil, true_and, and_true, List.set_cons_zero, List.set_cons_succ, Fin.isValue, Fin.val_zero, Fin.val_one, Fin.val_two, Fin.reduceFinMk, Nat.zero_add, hp_75, hp_76, hp_77, hp_78, hp_79, hp_80, hp_81, hp_82, hp_83, hp_84, hp_85, hp_86, hp_87, hp_88, hp_89, hp_90, hp_91, hp_92, hp_93, hp_94, hp_95, hp_96, hp_97, hp_98, og_75_0, og_75_1, og_75_2, og_75_3, og_75_4, og_75_5, og_75_6, og_75_7, og_75_8, og_75_9, og_75_10, og_75_11, og_75_12, og_75_13, og_75_14, og_75_15, og_75_16, og_75_17, og_75_18, og_75_19, og_75_20, og_75_21, og_75_22, og_75_23, og_75_24, og_75_25, og_75_26, og_75_27, og_75_28, og_75_29, og_75_30, og_75_31, og_75_32, og_75_33, og_75_34, og_75_35, og_75_36, og_75_37, og_75_38, og_75_39, og_75_40, og_75_41, ol_75, uo_75_4, uo_75_5, uo_75_6, uo_75_7, uo_75_11, uo_75_12, uo_75_13, uo_75_15, uo_75_19, uo_75_20, uo_75_21, uo_75_22, uo_75_23, uo_75_26, uo_75_30, uo_75_31, uo_75_32, uo_75_33, ua_76, ua_77, ua_78, ua_79, ua_80, ua_81, ua_82, ua_83, ua_84, ua_85, ua_86, ua_87, ua_88, ua_89, ua_90, ua_91, ua_92, ua_93, ua_94, ua_95, ua_96, ua_97, ua_98, sO_g, sA_g, sA_O, sO_A, sO_2, sM_1, sM_2, sM_3, sM_4, sM_5, sM_6, uc_75, b01_f, ft_8_26, nu_fitI, nu_fitL, nu_fitO, nu_fitA, nu_fitB0, nu_fitB1]
        exact ⟨fun _ => bad s1 _ (fun z => han (hfit.mp z).1) mx (by simp), fun z => absurd trivial z⟩
  have copy : ∀ r k f, n = k + r → (∀ j, j < k → f j = nI (p.getD j 0)) → WP (mm_rw mr_144) (some .boolean) tb (WM tb (d + 3)) (FtP s n law T0 p) 10 [(0, vR 75), (1, vI (nI k))] [] (HP (sA (sO s 75 26 (nI n)) 88 f)) 0 0 := by
    intro r
    induction r with
    | zero =>
      intro k f hk hfk
      have ek : k = n := by omega
      subst ek
      (try simp only [Option.toList_some, Option.toList_none, List.nil_append, List.append_nil, List.cons_append, Nat.sub_zero, Nat.sub_self, Nat.zero_sub]); refine Go.wp sp_144 200 ?_; simp only [↓g144_0, ↓g144_1, ↓g144_2, ↓g144_5, ↓g144_8, ↓g144_9, ↓g144_10, ↓g144_11, ↓g144_12, ↓g144_15, ↓g144_18, ↓g144_19, ↓g144_22, ↓g144_23, ↓g144_24, ↓g144_27, ↓g144_28, ↓g144_28t, ↓g144_29, ↓g144_30, ↓g144_33, ↓g144_36, ↓g144_37, ↓g144_38, ↓g144_39, ↓g144_40, ↓g144_41, ↓g144_42, ↓g144_45, ↓g144_48, ↓g144_49, ↓g144_52, ↓g144_53, ↓g144_54, ↓g144_57, ↓g144_58, ↓g144_58t, ↓g144_59, ↓g144_62, ↓g144_65, ↓g144_66, ↓g144_67, ↓g144_70, ↓g144_71, ↓g144_71t, ↓g144_72, ↓g144_75, ↓g144_78, ↓g144_79, ↓g144_80, ↓g144_83, ↓g144_84, ↓g144_84t, ↓g144_85, ↓g144_86, ↓g144_89, ↓g144_90, ↓g144_93, ↓g144_94, ↓g144_94t, ↓g144_95, ↓g144_98, ↓g144_99, ↓g144_102, ↓g144_103, ↓g144_104, ↓g144_107, ↓g144_110, ↓g144_111, cl_107, cl_124, cn_0, cn_1, cn_2, cn_3, cn_4, cn_5, cn_6, cn_7, cn_8, ↓Go_s, ↓GoC_a, ↓reduceIte, ↓mm_call_eq, ↓mmw_nil, ↓mmw_cons, List.take_succ_cons, List.take_zero, List.take_nil, List.drop_succ_cons, List.drop_zero, List.drop_nil, List.reverse_cons, List.reverse_nil, List.nil_append, List.cons_append, List.append_nil, Option.toList_some, Option.toList_none, Nat.sub_zero, Nat.le_refl, mmr_cons, mm_st1, mm_st2, mmi_nil, mmi_cons, mmc_I, mmc_L, mmc_R, mmu_get, mmu_one, mma_get, mma_one, List.filter_cons, List.filter_nil, List.contains_cons, List.contains_nil, Nat.reduceBEq, Nat.reduceAdd, Nat.reduceLT, Nat.reduceSub, Nat.reduceLeDiff, Nat.reduceEqDiff, Int32.reduceAdd, Bool.not_true, Bool.not_false, Bool.and_true, Bool.true_and, Bool.and_false, Bool.false_and, Bool.or_false, Bool.false_or, Bool.or_true, Bool.true_or, if_true, if_false, ite_true, ite_false, Bool.false_eq_true, List.getElem?_cons_zero, List.getElem?_cons_succ, List.length_cons, List.length_nil, true_and, and_true, List.set_cons_zero, List.set_cons_succ, Fin.isValue, Fin.val_zero, Fin.val_one, Fin.val_two, Fin.reduceFinMk, Nat.zero_add, hp_75, hp_76, hp_77, hp_78, hp_79, hp_80, hp_81, hp_82, hp_83, hp_84, hp_85, hp_86, hp_87, hp_88, hp_89, hp_90, hp_91, hp_92, hp_93, hp_94, hp_95, hp_96, hp_97, hp_98, og_75_0, og_75_1, og_75_2, og_75_3, og_75_4, og_75_5, og_75_6, og_75_7, og_75_8, og_75_9, og_75_10, og_75_11, og_75_12, og_75_13, og_75_14, og_75_15, og_75_16, og_75_17, og_75_18, og_75_19, og_75_20, og_75_21, og_75_22, og_75_23, og_75_24, og_75_25, og_75_26, og_75_27, og_75_28, og_75_29, og_75_30, og_75_31, og_75_32, og_75_33, og_75_34, og_75_35, og_75_36, og_75_37, og_75_38, og_75_39, og_75_40, og_75_41, ol_75, uo_75_4, uo_75_5, uo_75_6, uo_75_7, uo_75_11, uo_75_12, uo_75_13, uo_75_15, uo_75_19, uo_75_20, uo_75_21, uo_75_22, uo_75_23, uo_75_26, uo_75_30, uo_75_31, uo_75_32, uo_75_33, ua_76, ua_77, ua_78, ua_79, ua_80, ua_81, ua_82, ua_83, ua_84, ua_85, ua_86, ua_87, ua_88, ua_89, ua_90, ua_91, ua_92, ua_93, ua_94, ua_95, ua_96, ua_97, ua_98, sO_g, sA_g, sA_O, sO_A, sO_2, sM_1, sM_2, sM_3, sM_4, sM_5, sM_6, uc_75, h11, ft_8_26, nu_fitI, nu_fitL, nu_fitO, nu_fitA, nu_fitB0, nu_fitB1]
      refine ⟨fun _ => ?_, fun z => absurd (Int32.le_refl _) z⟩
      exact key T0.length 0 (sA (sO s 75 26 (nI k)) 88 f) p (by omega) ((MX.o (by simp)).tr (MX.a (by simp))) rfl (fun j hj => hfk j (by omega)) hp Iff.rfl rfl
    | succ r ih =>
      intro k f hk hfk
      have hkn : k < n := by omega
      have hcl : (nI k).toNatClampNeg = k := nI_clamp (by omega)
      (try simp only [Option.toList_some, Option.toList_none, List.nil_append, List.append_nil, List.cons_append, Nat.sub_zero, Nat.sub_self, Nat.zero_sub]); refine Go.wp sp_144 200 ?_; simp only [↓g144_0, ↓g144_1, ↓g144_2, ↓g144_5, ↓g144_8, ↓g144_9, ↓g144_10, ↓g144_11, ↓g144_12, ↓g144_15, ↓g144_18, ↓g144_19, ↓g144_22, ↓g144_23, ↓g144_24, ↓g144_27, ↓g144_28, ↓g144_28t, ↓g144_29, ↓g144_30, ↓g144_33, ↓g144_36, ↓g144_37, ↓g144_38, ↓g144_39, ↓g144_40, ↓g144_41, ↓g144_42, ↓g144_45, ↓g144_48, ↓g144_49, ↓g144_52, ↓g144_53, ↓g144_54, ↓g144_57, ↓g144_58, ↓g144_58t, ↓g144_59, ↓g144_62, ↓g144_65, ↓g144_66, ↓g144_67, ↓g144_70, ↓g144_71, ↓g144_71t, ↓g144_72, ↓g144_75, ↓g144_78, ↓g144_79, ↓g144_80, ↓g144_83, ↓g144_84, ↓g144_84t, ↓g144_85, ↓g144_86, ↓g144_89, ↓g144_90, ↓g144_93, ↓g144_94, ↓g144_94t, ↓g144_95, ↓g144_98, ↓g144_99, ↓g144_102, ↓g144_103, ↓g144_104, ↓g144_107, ↓g144_110, ↓g144_111, cl_107, cl_124, cn_0, cn_1, cn_2, cn_3, cn_4, cn_5, cn_6, cn_7, cn_8, ↓Go_s, ↓GoC_a, ↓reduceIte, ↓mm_call_eq, ↓mmw_nil, ↓mmw_cons, List.take_succ_cons, List.take_zero, List.take_nil, List.drop_succ_cons, List.drop_zero, List.drop_nil, List.reverse_cons, List.reverse_nil, List.nil_append, List.cons_append, List.append_nil, Option.toList_some, Option.toList_none, Nat.sub_zero, Nat.le_refl, mmr_cons, mm_st1, mm_st2, mmi_nil, mmi_cons, mmc_I, mmc_L, mmc_R, mmu_get, mmu_one, mma_get, mma_one, List.filter_cons, List.filter_nil, List.contains_cons, List.contains_nil, Nat.reduceBEq, Nat.reduceAdd, Nat.reduceLT, Nat.reduceSub, Nat.reduceLeDiff, Nat.reduceEqDiff, Int32.reduceAdd, Bool.not_true, Bool.not_false, Bool.and_true, Bool.true_and, Bool.and_false, Bool.false_and, Bool.or_false, Bool.false_or, Bool.or_true, Bool.true_or, if_true, if_false, ite_true, ite_false, Bool.false_eq_true, List.getElem?_cons_zero, List.getElem?_cons_succ, List.length_cons, List.length_nil, true_and, and_true, List.set_cons_zero, List.set_cons_succ, Fin.isValue, Fin.val_zero, Fin.val_one, Fin.val_two, Fin.reduceFinMk, Nat.zero_add, hp_75, hp_76, hp_77, hp_78, hp_79, hp_80, hp_81, hp_82, hp_83, hp_84, hp_85, hp_86, hp_87, hp_88, hp_89, hp_90, hp_91, hp_92, hp_93, hp_94, hp_95, hp_96, hp_97, hp_98, og_75_0, og_75_1, og_75_2, og_75_3, og_75_4, og_75_5, og_75_6, og_75_7, og_75_8, og_75_9, og_75_10, og_75_11, og_75_12, og_75_13, og_75_14, og_75_15, og_75_16, og_75_17, og_75_18, og_75_19, og_75_20, og_75_21, og_75_22, og_75_23, og_75_24, og_75_25, og_75_26, og_75_27, og_75_28, og_75_29, og_75_30, og_75_31, og_75_32, og_75_33, og_75_34, og_75_35, og_75_36, og_75_37, og_75_38, og_75_39, og_75_40, og_75_41, ol_75, uo_75_4, uo_75_5, uo_75_6, uo_75_7, uo_75_11, uo_75_12, uo_75_13, uo_75_15, uo_75_19, uo_75_20, uo_75_21, uo_75_22, uo_75_23, uo_75_26, uo_75_30, uo_75_31, uo_75_32, uo_75_33, ua_76, ua_77, ua_78, ua_79, ua_80, ua_81, ua_82, ua_83, ua_84, ua_85, ua_86, ua_87, ua_88, ua_89, ua_90, ua_91, ua_92, ua_93, ua_94, ua_95, ua_96, ua_97, ua_98, sO_g, sA_g, sA_O, sO_A, sO_2, sM_1, sM_2, sM_3, sM_4, sM_5, sM_6, uc_75, h11, hcl, hf k (by omega), nI_1, ft_8_26, nu_fitI, nu_fitL, nu_fitO, nu_fitA, nu_fitB0, nu_fitB1]
      rw [sA_sA]
      refine ⟨fun z => absurd z (nI_ge hkn (by omega)), fun _ => ⟨vp_in_nI (by omega) (by omega), vp_in_nI (by omega) (by omega), ih (k + 1) _ (by omega) (fun j hj => ?_)⟩⟩
      unfold upd
      by_cases e : j = k
      · rw [if_pos e, e]
      · rw [if_neg e]
        exact hfk j (by omega)
  refine WM.of mi_144 rfl rfl (Nat.le_of_ble_eq_true rfl) ?_
  show WP (mm_rw mr_144) (some .boolean) tb (WM tb (d + 3)) _ 0 [(0, vR 75)] [] (HP s) 0 0
  (try simp only [Option.toList_some, Option.toList_none, List.nil_append, List.append_nil, List.cons_append, Nat.sub_zero, Nat.sub_self, Nat.zero_sub]); refine Go.wp sp_144 200 ?_; simp only [↓g144_0, ↓g144_1, ↓g144_2, ↓g144_5, ↓g144_8, ↓g144_9, ↓g144_10, ↓g144_11, ↓g144_12, ↓g144_15, ↓g144_18, ↓g144_19, ↓g144_22, ↓g144_23, ↓g144_24, ↓g144_27, ↓g144_28, ↓g144_28t, ↓g144_29, ↓g144_30, ↓g144_33, ↓g144_36, ↓g144_37, ↓g144_38, ↓g144_39, ↓g144_40, ↓g144_41, ↓g144_42, ↓g144_45, ↓g144_48, ↓g144_49, ↓g144_52, ↓g144_53, ↓g144_54, ↓g144_57, ↓g144_58, ↓g144_58t, ↓g144_59, ↓g144_62, ↓g144_65, ↓g144_66, ↓g144_67, ↓g144_70, ↓g144_71, ↓g144_71t, ↓g144_72, ↓g144_75, ↓g144_78, ↓g144_79, ↓g144_80, ↓g144_83, ↓g144_84, ↓g144_84t, ↓g144_85, ↓g144_86, ↓g144_89, ↓g144_90, ↓g144_93, ↓g144_94, ↓g144_94t, ↓g144_95, ↓g144_98, ↓g144_99, ↓g144_102, ↓g144_103, ↓g144_104, ↓g144_107, ↓g144_110, ↓g144_111, cl_107, cl_124, cn_0, cn_1, cn_2, cn_3, cn_4, cn_5, cn_6, cn_7, cn_8, ↓Go_s, ↓GoC_a, ↓reduceIte, ↓mm_call_eq, ↓mmw_nil, ↓mmw_cons, List.take_succ_cons, List.take_zero, List.take_nil, List.drop_succ_cons, List.drop_zero, List.drop_nil, List.reverse_cons, List.reverse_nil, List.nil_append, List.cons_append, List.append_nil, Option.toList_some, Option.toList_none, Nat.sub_zero, Nat.le_refl, mmr_cons, mm_st1, mm_st2, mmi_nil, mmi_cons, mmc_I, mmc_L, mmc_R, mmu_get, mmu_one, mma_get, mma_one, List.filter_cons, List.filter_nil, List.contains_cons, List.contains_nil, Nat.reduceBEq, Nat.reduceAdd, Nat.reduceLT, Nat.reduceSub, Nat.reduceLeDiff, Nat.reduceEqDiff, Int32.reduceAdd, Bool.not_true, Bool.not_false, Bool.and_true, Bool.true_and, Bool.and_false, Bool.false_and, Bool.or_false, Bool.false_or, Bool.or_true, Bool.true_or, if_true, if_false, ite_true, ite_false, Bool.false_eq_true, List.getElem?_cons_zero, List.getElem?_cons_succ, List.length_cons, List.length_nil, true_and, and_true, List.set_cons_zero, List.set_cons_succ, Fin.isValue, Fin.val_zero, Fin.val_one, Fin.val_two, Fin.reduceFinMk, Nat.zero_add, hp_75, hp_76, hp_77, hp_78, hp_79, hp_80, hp_81, hp_82, hp_83, hp_84, hp_85, hp_86, hp_87, hp_88, hp_89, hp_90, hp_91, hp_92, hp_93, hp_94, hp_95, hp_96, hp_97, hp_98, og_75_0, og_75_1, og_75_2, og_75_3, og_75_4, og_75_5, og_75_6, og_75_7, og_75_8, og_75_9, og_75_10, og_75_11, og_75_12, og_75_13, og_75_14, og_75_15, og_75_16, og_75_17, og_75_18, og_75_19, og_75_20, og_75_21, og_75_22, og_75_23, og_75_24, og_75_25, og_75_26, og_75_27, og_75_28, og_75_29, og_75_30, og_75_31, og_75_32, og_75_33, og_75_34, og_75_35, og_75_36, og_75_37, og_75_38, og_75_39, og_75_40, og_75_41, ol_75, uo_75_4, uo_75_5, uo_75_6, uo_75_7, uo_75_11, uo_75_12, uo_75_13, uo_75_15, uo_75_19, uo_75_20, uo_75_21, uo_75_22, uo_75_23, uo_75_26, uo_75_30, uo_75_31, uo_75_32, uo_75_33, ua_76, ua_77, ua_78, ua_79, ua_80, ua_81, ua_82, ua_83, ua_84, ua_85, ua_86, ua_87, ua_88, ua_89, ua_90, ua_91, ua_92, ua_93, ua_94, ua_95, ua_96, ua_97, ua_98, sO_g, sA_g, sA_O, sO_A, sO_2, sM_1, sM_2, sM_3, sM_4, sM_5, sM_6, uc_75, h11, ft_8_26, nu_fitI, nu_fitL, nu_fitO, nu_fitA, nu_fitB0, nu_fitB1]
  have h0 := copy n 0 (s.1 88) (by omega) (fun j hj => absurd hj (Nat.not_lt_zero _))
  rw [show sA (sO s 75 26 (nI n)) 88 (s.1 88) = sO s 75 26 (nI n) from sA_id (sO s 75 26 (nI n)) 88] at h0
  exact h0
theorem M_show {xs : List Nat} (h11 : s.2.1 75 11 = nI n) (hn2 : 2 ≤ n) (hn8 : n ≤ 8) (h88 : Ar (s.1 88) xs) (hx : IsP n xs) : WM tb (d + 1) k_M_show [vR 75] (HP s) 0 0 (fun z h' => z = none ∧ ∃ f, h' = HP (sA s 96 f) ∧ ∀ b, b < n → ∀ i, i < 32 → (bt (f b) i = true ↔ bt (s.1 96 b) i = true ∨ nb n xs b i)) := by
  have hxl := hx.len
  have key : ∀ r k f, n = k + r → (∀ b, b < n → ∀ i, i < 32 → (bt (f b) i = true ↔ bt (s.1 96 b) i = true ∨ ∃ j, j < k ∧ xs.getD j 0 = b ∧ xs.getD ((j + 1) % n) 0 = i)) → WP (mm_rw mr_145) none tb (WM tb d) (fun z h' => z = none ∧ ∃ f, h' = HP (sA s 96 f) ∧ ∀ b, b < n → ∀ i, i < 32 → (bt (f b) i = true ↔ bt (s.1 96 b) i = true ∨ nb n xs b i)) 2 [(0, vR 75), (1, vI (nI k))] [] (HP (sA s 96 f)) 0 0 := by
    intro r
    induction r with
    | zero =>
      intro k f hk hf
      have ek : k = n := by omega
      subst ek
      (try simp only [Option.toList_some, Option.toList_none, List.nil_append, List.append_nil, List.cons_append, Nat.sub_zero, Nat.sub_self, Nat.zero_sub]); refine Go.wp sp_145 200 ?_; simp only [↓g145_0, ↓g145_1, ↓g145_2, ↓g145_3, ↓g145_4, ↓g145_7, ↓g145_10, ↓g145_11, ↓g145_14, ↓g145_15, ↓g145_18, ↓g145_19, ↓g145_19t, ↓g145_20, ↓g145_21, ↓g145_21t, ↓g145_22, ↓g145_23, ↓g145_24, ↓g145_27, ↓g145_28, ↓g145_29, ↓g145_30, ↓g145_31, ↓g145_34, ↓g145_35, ↓g145_35t, ↓g145_36, ↓g145_37, ↓g145_38, ↓g145_39, ↓g145_42, ↓g145_45, ↓Go_s, ↓GoC_a, ↓reduceIte, ↓mm_call_eq, ↓mmw_nil, ↓mmw_cons, List.take_succ_cons, List.take_zero, List.take_nil, List.drop_succ_cons, List.drop_zero, List.drop_nil, List.reverse_cons, List.reverse_nil, List.nil_append, List.cons_append, List.append_nil, Option.toList_some, Option.toList_none, Nat.sub_zero, Nat.le_refl, mmr_cons, mm_st1, mm_st2, mmi_nil, mmi_cons, mmc_I, mmc_L, mmc_R, mmu_get, mmu_one, mma_get, mma_one, List.filter_cons, List.filter_nil, List.contains_cons, List.contains_nil, Nat.reduceBEq, Nat.reduceAdd, Nat.reduceLT, Nat.reduceSub, Nat.reduceLeDiff, Nat.reduceEqDiff, Int32.reduceAdd, Bool.not_true, Bool.not_false, Bool.and_true, Bool.true_and, Bool.and_false, Bool.false_and, Bool.or_false, Bool.false_or, Bool.or_true, Bool.true_or, if_true, if_false, ite_true, ite_false, Bool.false_eq_true, List.getElem?_cons_zero, List.getElem?_cons_succ, List.length_cons, List.length_nil, true_and, and_true, List.set_cons_zero, List.set_cons_succ, Fin.isValue, Fin.val_zero, Fin.val_one, Fin.val_two, Fin.reduceFinMk, Nat.zero_add, hp_75, hp_76, hp_77, hp_78, hp_79, hp_80, hp_81, hp_82, hp_83, hp_84, hp_85, hp_86, hp_87, hp_88, hp_89, hp_90, hp_91, hp_92, hp_93, hp_94, hp_95, hp_96, hp_97, hp_98, og_75_0, og_75_1, og_75_2, og_75_3, og_75_4, og_75_5, og_75_6, og_75_7, og_75_8, og_75_9, og_75_10, og_75_11, og_75_12, og_75_13, og_75_14, og_75_15, og_75_16, og_75_17, og_75_18, og_75_19, og_75_20, og_75_21, og_75_22, og_75_23, og_75_24, og_75_25, og_75_26, og_75_27, og_75_28, og_75_29, og_75_30, og_75_31, og_75_32, og_75_33, og_75_34, og_75_35, og_75_36, og_75_37, og_75_38, og_75_39, og_75_40, og_75_41, ol_75, uo_75_4, uo_75_5, uo_75_6, uo_75_7, uo_75_11, uo_75_12, uo_75_13, uo_75_15, uo_75_19, uo_75_20, uo_75_21, uo_75_22, uo_75_23, uo_75_26, uo_75_30, uo_75_31, uo_75_32, uo_75_33, ua_76, ua_77, ua_78, ua_79, ua_80, ua_81, ua_82, ua_83, ua_84, ua_85, ua_86, ua_87, ua_88, ua_89, ua_90, ua_91, ua_92, ua_93, ua_94, ua_95, ua_96, ua_97, ua_98, sO_g, sA_g, sA_O, sO_A, sO_2, sM_1, sM_2, sM_3, sM_4, sM_5, sM_6, uc_75, h11, nu_fitI, nu_fitL, nu_fitO, nu_fitA, nu_fitB0, nu_fitB1]
      exact ⟨fun _ => ⟨f, rfl, hf⟩, fun z => absurd (Int32.le_refl _) z⟩
    | succ r ih =>
      intro k f hk hf
      have hkn : k < n := by omega
      have hm : (k + 1) % n < n := Nat.mod_lt _ (by omega)
      have v1 := hx.lt hkn
      have v2 := hx.lt hm
      have hcl : (nI k).toNatClampNeg = k := nI_clamp (by omega)
      have hclx : (nI (xs.getD k 0)).toNatClampNeg = xs.getD k 0 := nI_clamp (by omega)
      have hclm : (nI ((k + 1) % n)).toNatClampNeg = (k + 1) % n := nI_clamp (by omega)
      have er : nI (k + 1) - nI (k + 1) / nI n * nI n = nI ((k + 1) % n) := pk_rem (by omega) (by omega) (by omega)
      have hm88 := h88 ((k + 1) % n) (by omega)
      (try simp only [Option.toList_some, Option.toList_none, List.nil_append, List.append_nil, List.cons_append, Nat.sub_zero, Nat.sub_self, Nat.zero_sub]); refine Go.wp sp_145 200 ?_; simp only [↓g145_0, ↓g145_1, ↓g145_2, ↓g145_3, ↓g145_4, ↓g145_7, ↓g145_10, ↓g145_11, ↓g145_14, ↓g145_15, ↓g145_18, ↓g145_19, ↓g145_19t, ↓g145_20, ↓g145_21, ↓g145_21t, ↓g145_22, ↓g145_23, ↓g145_24, ↓g145_27, ↓g145_28, ↓g145_29, ↓g145_30, ↓g145_31, ↓g145_34, ↓g145_35, ↓g145_35t, ↓g145_36, ↓g145_37, ↓g145_38, ↓g145_39, ↓g145_42, ↓g145_45, ↓Go_s, ↓GoC_a, ↓reduceIte, ↓mm_call_eq, ↓mmw_nil, ↓mmw_cons, List.take_succ_cons, List.take_zero, List.take_nil, List.drop_succ_cons, List.drop_zero, List.drop_nil, List.reverse_cons, List.reverse_nil, List.nil_append, List.cons_append, List.append_nil, Option.toList_some, Option.toList_none, Nat.sub_zero, Nat.le_refl, mmr_cons, mm_st1, mm_st2, mmi_nil, mmi_cons, mmc_I, mmc_L, mmc_R, mmu_get, mmu_one, mma_get, mma_one, List.filter_cons, List.filter_nil, List.contains_cons, List.contains_nil, Nat.reduceBEq, Nat.reduceAdd, Nat.reduceLT, Nat.reduceSub, Nat.reduceLeDiff, Nat.reduceEqDiff, Int32.reduceAdd, Bool.not_true, Bool.not_false, Bool.and_true, Bool.true_and, Bool.and_false, Bool.false_and, Bool.or_false, Bool.false_or, Bool.or_true, Bool.true_or, if_true, if_false, ite_true, ite_false, Bool.false_eq_true, List.getElem?_cons_zero, List.getElem?_cons_succ, List.length_cons, List.length_nil, true_and, and_true, List.set_cons_zero, List.set_cons_succ, Fin.isValue, Fin.val_zero, Fin.val_one, Fin.val_two, Fin.reduceFinMk, Nat.zero_add, hp_75, hp_76, hp_77, hp_78, hp_79, hp_80, hp_81, hp_82, hp_83, hp_84, hp_85, hp_86, hp_87, hp_88, hp_89, hp_90, hp_91, hp_92, hp_93, hp_94, hp_95, hp_96, hp_97, hp_98, og_75_0, og_75_1, og_75_2, og_75_3, og_75_4, og_75_5, og_75_6, og_75_7, og_75_8, og_75_9, og_75_10, og_75_11, og_75_12, og_75_13, og_75_14, og_75_15, og_75_16, og_75_17, og_75_18, og_75_19, og_75_20, og_75_21, og_75_22, og_75_23, og_75_24, og_75_25, og_75_26, og_75_27, og_75_28, og_75_29, og_75_30, og_75_31, og_75_32, og_75_33, og_75_34, og_75_35, og_75_36, og_75_37, og_75_38, og_75_39, og_75_40, og_75_41, ol_75, uo_75_4, uo_75_5, uo_75_6, uo_75_7, uo_75_11, uo_75_12, uo_75_13, uo_75_15, uo_75_19, uo_75_20, uo_75_21, uo_75_22, uo_75_23, uo_75_26, uo_75_30, uo_75_31, uo_75_32, uo_75_33, ua_76, ua_77, ua_78, ua_79, ua_80, ua_81, ua_82, ua_83, ua_84, ua_85, ua_86, ua_87, ua_88, ua_89, ua_90, ua_91, ua_92, ua_93, ua_94, ua_95, ua_96, ua_97, ua_98, sO_g, sA_g, sA_O, sO_A, sO_2, sM_1, sM_2, sM_3, sM_4, sM_5, sM_6, uc_75, h11, hcl, h88 k (by omega), hclx, nI_1, er, hclm, hm88, nu_fitI, nu_fitL, nu_fitO, nu_fitA, nu_fitB0, nu_fitB1]
      rw [sA_sA]
      refine ⟨fun z => absurd z (nI_ge hkn (by omega)), fun _ => ⟨vp_in_nI (by omega) (by omega), vp_in_nI (by omega) (by omega), nI_ne0 (by omega) (by omega), vp_in_nI (by omega) (by omega), vp_in_nI (by omega) (by omega), ih (k + 1) _ (by omega) (fun b hb i hi => ?_)⟩⟩
      unfold upd
      by_cases e : b = xs.getD k 0
      · rw [if_pos e, b_or, Bool.or_eq_true, bt_sh (by omega) hi, decide_eq_true_eq, ← e, hf b hb i hi]
        constructor
        · rintro ((z | ⟨j, hj, z⟩) | z)
          · exact Or.inl z
          · exact Or.inr ⟨j, by omega, z⟩
          · exact Or.inr ⟨k, by omega, e.symm, z.symm⟩
        · rintro (z | ⟨j, hj, z1, z2⟩)
          · exact Or.inl (Or.inl z)
          · by_cases ej : j = k
            · rw [ej] at z2
              exact Or.inr z2.symm
            · exact Or.inl (Or.inr ⟨j, by omega, z1, z2⟩)
      · rw [if_neg e, hf b hb i hi]
        constructor
        · rintro (z | ⟨j, hj, z⟩)
          · exact Or.inl z
          · exact Or.inr ⟨j, by omega, z⟩
        · rintro (z | ⟨j, hj, z1, z2⟩)
          · exact Or.inl z
          · have : j ≠ k := fun q => e (by rw [← z1, q])
            exact Or.inr ⟨j, by omega, z1, z2⟩
  refine WM.of mi_145 rfl rfl (Nat.le_of_ble_eq_true rfl) ?_
  show WP (mm_rw mr_145) none tb (WM tb d) _ 0 [(0, vR 75)] [] (HP s) 0 0
  (try simp only [Option.toList_some, Option.toList_none, List.nil_append, List.append_nil, List.cons_append, Nat.sub_zero, Nat.sub_self, Nat.zero_sub]); refine Go.wp sp_145 200 ?_; simp only [↓g145_0, ↓g145_1, ↓g145_2, ↓g145_3, ↓g145_4, ↓g145_7, ↓g145_10, ↓g145_11, ↓g145_14, ↓g145_15, ↓g145_18, ↓g145_19, ↓g145_19t, ↓g145_20, ↓g145_21, ↓g145_21t, ↓g145_22, ↓g145_23, ↓g145_24, ↓g145_27, ↓g145_28, ↓g145_29, ↓g145_30, ↓g145_31, ↓g145_34, ↓g145_35, ↓g145_35t, ↓g145_36, ↓g145_37, ↓g145_38, ↓g145_39, ↓g145_42, ↓g145_45, ↓Go_s, ↓GoC_a, ↓reduceIte, ↓mm_call_eq, ↓mmw_nil, ↓mmw_cons, List.take_succ_cons, List.take_zero, List.take_nil, List.drop_succ_cons, List.drop_zero, List.drop_nil, List.reverse_cons, List.reverse_nil, List.nil_append, List.cons_append, List.append_nil, Option.toList_some, Option.toList_none, Nat.sub_zero, Nat.le_refl, mmr_cons, mm_st1, mm_st2, mmi_nil, mmi_cons, mmc_I, mmc_L, mmc_R, mmu_get, mmu_one, mma_get, mma_one, List.filter_cons, List.filter_nil, List.contains_cons, List.contains_nil, Nat.reduceBEq, Nat.reduceAdd, Nat.reduceLT, Nat.reduceSub, Nat.reduceLeDiff, Nat.reduceEqDiff, Int32.reduceAdd, Bool.not_true, Bool.not_false, Bool.and_true, Bool.true_and, Bool.and_false, Bool.false_and, Bool.or_false, Bool.false_or, Bool.or_true, Bool.true_or, if_true, if_false, ite_true, ite_false, Bool.false_eq_true, List.getElem?_cons_zero, List.getElem?_cons_succ, List.length_cons, List.length_nil, true_and, and_true, List.set_cons_zero, List.set_cons_succ, Fin.isValue, Fin.val_zero, Fin.val_one, Fin.val_two, Fin.reduceFinMk, Nat.zero_add, hp_75, hp_76, hp_77, hp_78, hp_79, hp_80, hp_81, hp_82, hp_83, hp_84, hp_85, hp_86, hp_87, hp_88, hp_89, hp_90, hp_91, hp_92, hp_93, hp_94, hp_95, hp_96, hp_97, hp_98, og_75_0, og_75_1, og_75_2, og_75_3, og_75_4, og_75_5, og_75_6, og_75_7, og_75_8, og_75_9, og_75_10, og_75_11, og_75_12, og_75_13, og_75_14, og_75_15, og_75_16, og_75_17, og_75_18, og_75_19, og_75_20, og_75_21, og_75_22, og_75_23, og_75_24, og_75_25, og_75_26, og_75_27, og_75_28, og_75_29, og_75_30, og_75_31, og_75_32, og_75_33, og_75_34, og_75_35, og_75_36, og_75_37, og_75_38, og_75_39, og_75_40, og_75_41, ol_75, uo_75_4, uo_75_5, uo_75_6, uo_75_7, uo_75_11, uo_75_12, uo_75_13, uo_75_15, uo_75_19, uo_75_20, uo_75_21, uo_75_22, uo_75_23, uo_75_26, uo_75_30, uo_75_31, uo_75_32, uo_75_33, ua_76, ua_77, ua_78, ua_79, ua_80, ua_81, ua_82, ua_83, ua_84, ua_85, ua_86, ua_87, ua_88, ua_89, ua_90, ua_91, ua_92, ua_93, ua_94, ua_95, ua_96, ua_97, ua_98, sO_g, sA_g, sA_O, sO_A, sO_2, sM_1, sM_2, sM_3, sM_4, sM_5, sM_6, uc_75, nu_fitI, nu_fitL, nu_fitO, nu_fitA, nu_fitB0, nu_fitB1]
  have h0 := key n 0 (s.1 96) (by omega) (fun b hb i hi => ⟨Or.inl, fun z => z.elim id (fun ⟨j, hj, _⟩ => absurd hj (Nat.not_lt_zero _))⟩)
  rw [sA_id] at h0
  exact h0
/-- what has been found: the orders S -/
def AcM (s : MM) (n law : Nat) (T0 : List (Nat × Nat)) (S : List Nat → Prop) : Prop := ∀ b, b < n → ∀ i, i < 32 → (bt (s.1 95 b) i = true ↔ i < n ∧ ∃ p, S p ∧ p.getD i 0 = b) ∧ (bt (s.1 96 b) i = true ↔ i < n ∧ ∃ p, S p ∧ nb n (fnl law T0 p) b i)
theorem AcM.mx {S : List Nat → Prop} {s' : MM} {A J : List Nat} (h : AcM s n law T0 S) (a : MX A J s s') (h1 : 95 ∉ A) (h2 : 96 ∉ A) : AcM s' n law T0 S := by
  unfold AcM at h ⊢
  rw [a.1 95 h1, a.1 96 h2]
  exact h
theorem AcM.cg {S S' : List Nat → Prop} (h : AcM s n law T0 S) (e : ∀ p, S p ↔ S' p) : AcM s n law T0 S' := by
  have : S = S' := funext (fun p => propext (e p))
  rw [← this]
  exact h
def Sj (n law : Nat) (T0 : List (Nat × Nat)) (j : Nat) (p : List Nat) : Prop := SA n law T0 p ∧ rk p < j
theorem Sj_s {j : Nat} {p : List Nat} (hp : IsP n p) (hj : rk p = j) : (∀ q, Sj n law T0 (j + 1) q ↔ Sj n law T0 j q ∨ (q = p ∧ fit law n T0 p)) := fun q => by
  constructor
  · rintro ⟨h1, h2⟩
    by_cases e : rk q = j
    · have e2 := rk_inj q p (h1.1.trans hp.symm) (e.trans hj.symm)
      rw [e2] at h1
      exact Or.inr ⟨e2, h1.2⟩
    · exact Or.inl ⟨h1, by omega⟩
  · rintro (⟨h1, h2⟩ | ⟨h1, h2⟩)
    · exact ⟨h1, by omega⟩
    · rw [h1]
      exact ⟨⟨hp, h2⟩, by omega⟩
theorem cN_add {j : Nat} {p : List Nat} (hp : IsP n p) (hj : rk p = j) (hf : fit law n T0 p) : cN (LaP n) (Sj n law T0 (j + 1)) = cN (LaP n) (Sj n law T0 j) + 1 := by
  have e1 : Sj n law T0 (j + 1) = fun q => Sj n law T0 j q ∨ q = p := funext (fun q => propext ((Sj_s hp hj q).trans (or_congr Iff.rfl ⟨fun z => z.1, fun z => ⟨z, hf⟩⟩)))
  rw [e1, cN_or (LaP n) (fun q h1 h2 => by
    have := h1.2
    rw [h2] at this
    omega), cN_one (p0 := p) (LaP n) (LP_all n).1 (((LP_all n).2 p).mpr hp) (fun q _ => Iff.rfl)]
theorem Sj_no {j : Nat} {p : List Nat} (hp : IsP n p) (hj : rk p = j) (hf : ¬ fit law n T0 p) : ∀ q, Sj n law T0 j q ↔ Sj n law T0 (j + 1) q := fun q => by
  rw [Sj_s hp hj q]
  exact ⟨Or.inl, fun z => z.elim id (fun z => absurd z.2 hf)⟩
/-- what layRows answers -/
def LyP (s : MM) (n law : Nat) (T0 : List (Nat × Nat)) : AQ := fun z h' => z = some (vI (nI (cN (LaP n) (SA n law T0)))) ∧ ∃ s', h' = HP s' ∧ MX [88, 94, 95, 96] [26] s s' ∧ AcM s' n law T0 (SA n law T0)
theorem M_layRows (hR : RwM s n law T0) (hn2 : 2 ≤ n) (hn8 : n ≤ 8) (hlw : law < 3) (hT6 : T0.length ≤ 6) (hT8 : ∀ q ∈ T0, q.1 < 8 ∧ q.2 < 8) : WM tb (d + 5) k_M_layRows [vR 75] (HP s) 0 0 (LyP s n law T0) := by
  have hfa := fa_8 n hn8
  have hall : ∀ q, Sj n law T0 (fa n) q ↔ SA n law T0 q := fun q => ⟨fun z => z.1, fun z => ⟨z, by
    have := rk_lt q
    rw [z.1.len] at this
    exact this⟩⟩
  have step : ∀ j s1 p, IsP n p → rk p = j → MX [88, 94, 95, 96] [26] s s1 → Ar (s1.1 94) p → AcM s1 n law T0 (Sj n law T0 j) → (∀ s3 p', IsP n p' → rk p' = j + 1 → MX [88, 94, 95, 96] [26] s s3 → Ar (s3.1 94) p' → AcM s3 n law T0 (Sj n law T0 (j + 1)) → WP (mm_rw mr_146) (some .int) tb (WM tb (d + 4)) (LyP s n law T0) 39 [(0, vR 75), (1, vI (nI (cN (LaP n) (Sj n law T0 (j + 1))))), (2, vI 1)] [] (HP s3) 0 0) → WP (mm_rw mr_146) (some .int) tb (WM tb (d + 4)) (LyP s n law T0) 39 [(0, vR 75), (1, vI (nI (cN (LaP n) (Sj n law T0 j)))), (2, vI 1)] [] (HP s1) 0 0 := by
    intro j s1 p hp hrk mx h94 hA next
    have hlen := hp.len
    have h10 : ¬ (1 : Int32) = 0 := by decide
    have on : ∀ s2 lv, MX [88, 94, 95, 96] [26] s s2 → Ar (s2.1 94) p → AcM s2 n law T0 (Sj n law T0 (j + 1)) → (∀ q ∈ ([(0, vR 75), (1, vI (nI (cN (LaP n) (Sj n law T0 (j + 1)))))] : AL), q ∈ lv) → WP (mm_rw mr_146) (some .int) tb (WM tb (d + 4)) (LyP s n law T0) 90 lv [] (HP s2) 0 0 := by
      intro s2 lv mx2 h942 hA2 hlv
      refine WP.drop hlv ?_
      have hR2 := hR.mx mx2
      (try simp only [Option.toList_some, Option.toList_none, List.nil_append, List.append_nil, List.cons_append, Nat.sub_zero, Nat.sub_self, Nat.zero_sub]); refine Go.wp sp_146 200 ?_; simp only [↓g146_0, ↓g146_1, ↓g146_2, ↓g146_3, ↓g146_4, ↓g146_5, ↓g146_7, ↓g146_10, ↓g146_11, ↓g146_14, ↓g146_15, ↓g146_16, ↓g146_17, ↓g146_18, ↓g146_21, ↓g146_22, ↓g146_23, ↓g146_24, ↓g146_25, ↓g146_28, ↓g146_29, ↓g146_30, ↓g146_31, ↓g146_34, ↓g146_37, ↓g146_38, ↓g146_39, ↓g146_40, ↓g146_43, ↓g146_44, ↓g146_47, ↓g146_50, ↓g146_53, ↓g146_54, ↓g146_57, ↓g146_58, ↓g146_59, ↓g146_60, ↓g146_61, ↓g146_64, ↓g146_67, ↓g146_68, ↓g146_71, ↓g146_72, ↓g146_75, ↓g146_76, ↓g146_76t, ↓g146_77, ↓g146_78, ↓g146_78t, ↓g146_79, ↓g146_80, ↓g146_81, ↓g146_82, ↓g146_83, ↓g146_84, ↓g146_87, ↓g146_90, ↓g146_91, ↓g146_94, ↓g146_95, ↓g146_98, ↓g146_99, cl_143, cl_144, cl_145, cn_0, cn_1, cn_2, cn_3, cn_4, cn_5, cn_6, cn_7, cn_8, ↓Go_s, ↓GoC_a, ↓reduceIte, ↓mm_call_eq, ↓mmw_nil, ↓mmw_cons, List.take_succ_cons, List.take_zero, List.take_nil, List.drop_succ_cons, List.drop_zero, List.drop_nil, List.reverse_cons, List.reverse_nil, List.nil_append, List.cons_append, List.append_nil, Option.toList_some, Option.toList_none, Nat.sub_zero, Nat.le_refl, mmr_cons, mm_st1, mm_st2, mmi_nil, mmi_cons, mmc_I, mmc_L, mmc_R, mmu_get, mmu_one, mma_get, mma_one, List.filter_cons, List.filter_nil, List.contains_cons, List.contains_nil, Nat.reduceBEq, Nat.reduceAdd, Nat.reduceLT, Nat.reduceSub, Nat.reduceLeDiff, Nat.reduceEqDiff, Int32.reduceAdd, Bool.not_true, Bool.not_false, Bool.and_true, Bool.true_and, Bool.and_false, Bool.false_and, Bool.or_false, Bool.false_or, Bool.or_true, Bool.true_or, if_true, if_false, ite_true, ite_false, Bool.false_eq_true, List.getElem?_cons_zero, List.getElem?_cons_succ, List.length_cons, List.length_nil, true_and, and_true, List.set_cons_zero, List.set_cons_succ, Fin.isValue, Fin.val_zero, Fin.val_one, Fin.val_two, Fin.reduceFinMk, Nat.zero_add, hp_75, hp_76, hp_77, hp_78, hp_79, hp_80, hp_81, hp_82, hp_83, hp_84, hp_85, hp_86, hp_87, hp_88, hp_89, hp_90, hp_91, hp_92, hp_93, hp_94, hp_95, hp_96, hp_97, hp_98, og_75_0, og_75_1, og_75_2, og_75_3, og_75_4, og_75_5, og_75_6, og_75_7, og_75_8, og_75_9, og_75_10, og_75_11, og_75_12, og_75_13, og_75_14, og_75_15, og_75_16, og_75_17, og_75_18, og_75_19, og_75_20, og_75_21, og_75_22, og_75_23, og_75_24, og_75_25, og_75_26, og_75_27, og_75_28, og_75_29, og_75_30, og_75_31, og_75_32, og_75_33, og_75_34, og_75_35, og_75_36, og_75_37, og_75_38, og_75_39, og_75_40, og_75_41, ol_75, uo_75_4, uo_75_5, uo_75_6, uo_75_7, uo_75_11, uo_75_12, uo_75_13, uo_75_15, uo_75_19, uo_75_20, uo_75_21, uo_75_22, uo_75_23, uo_75_26, uo_75_30, uo_75_31, uo_75_32, uo_75_33, ua_76, ua_77, ua_78, ua_79, ua_80, ua_81, ua_82, ua_83, ua_84, ua_85, ua_86, ua_87, ua_88, ua_89, ua_90, ua_91, ua_92, ua_93, ua_94, ua_95, ua_96, ua_97, ua_98, sO_g, sA_g, sA_O, sO_A, sO_2, sM_1, sM_2, sM_3, sM_4, sM_5, sM_6, uc_75, nu_fitI, nu_fitL, nu_fitO, nu_fitA, nu_fitB0, nu_fitB1]
      refine ⟨0, 0, _, Nat.le_refl _, Nat.le_refl _, M_goOn (d := d + 3) hR2.1 hn2 hn8 h942 hp, fun z h' hz => ?_⟩
      rcases hz with ⟨rfl, rfl, hend⟩ | ⟨rfl, f', p', rfl, hf', hp', hrk'⟩
      · (try simp only [Option.toList_some, Option.toList_none, List.nil_append, List.append_nil, List.cons_append, Nat.sub_zero, Nat.sub_self, Nat.zero_sub]); refine Go.wp sp_146 200 ?_; simp only [↓g146_0, ↓g146_1, ↓g146_2, ↓g146_3, ↓g146_4, ↓g146_5, ↓g146_7, ↓g146_10, ↓g146_11, ↓g146_14, ↓g146_15, ↓g146_16, ↓g146_17, ↓g146_18, ↓g146_21, ↓g146_22, ↓g146_23, ↓g146_24, ↓g146_25, ↓g146_28, ↓g146_29, ↓g146_30, ↓g146_31, ↓g146_34, ↓g146_37, ↓g146_38, ↓g146_39, ↓g146_40, ↓g146_43, ↓g146_44, ↓g146_47, ↓g146_50, ↓g146_53, ↓g146_54, ↓g146_57, ↓g146_58, ↓g146_59, ↓g146_60, ↓g146_61, ↓g146_64, ↓g146_67, ↓g146_68, ↓g146_71, ↓g146_72, ↓g146_75, ↓g146_76, ↓g146_76t, ↓g146_77, ↓g146_78, ↓g146_78t, ↓g146_79, ↓g146_80, ↓g146_81, ↓g146_82, ↓g146_83, ↓g146_84, ↓g146_87, ↓g146_90, ↓g146_91, ↓g146_94, ↓g146_95, ↓g146_98, ↓g146_99, cl_143, cl_144, cl_145, cn_0, cn_1, cn_2, cn_3, cn_4, cn_5, cn_6, cn_7, cn_8, ↓Go_s, ↓GoC_a, ↓reduceIte, ↓mm_call_eq, ↓mmw_nil, ↓mmw_cons, List.take_succ_cons, List.take_zero, List.take_nil, List.drop_succ_cons, List.drop_zero, List.drop_nil, List.reverse_cons, List.reverse_nil, List.nil_append, List.cons_append, List.append_nil, Option.toList_some, Option.toList_none, Nat.sub_zero, Nat.le_refl, mmr_cons, mm_st1, mm_st2, mmi_nil, mmi_cons, mmc_I, mmc_L, mmc_R, mmu_get, mmu_one, mma_get, mma_one, List.filter_cons, List.filter_nil, List.contains_cons, List.contains_nil, Nat.reduceBEq, Nat.reduceAdd, Nat.reduceLT, Nat.reduceSub, Nat.reduceLeDiff, Nat.reduceEqDiff, Int32.reduceAdd, Bool.not_true, Bool.not_false, Bool.and_true, Bool.true_and, Bool.and_false, Bool.false_and, Bool.or_false, Bool.false_or, Bool.or_true, Bool.true_or, if_true, if_false, ite_true, ite_false, Bool.false_eq_true, List.getElem?_cons_zero, List.getElem?_cons_succ, List.length_cons, List.length_nil, true_and, and_true, List.set_cons_zero, List.set_cons_succ, Fin.isValue, Fin.val_zero, Fin.val_one, Fin.val_two, Fin.reduceFinMk, Nat.zero_add, hp_75, hp_76, hp_77, hp_78, hp_79, hp_80, hp_81, hp_82, hp_83, hp_84, hp_85, hp_86, hp_87, hp_88, hp_89, hp_90, hp_91, hp_92, hp_93, hp_94, hp_95, hp_96, hp_97, hp_98, og_75_0, og_75_1, og_75_2, og_75_3, og_75_4, og_75_5, og_75_6, og_75_7, og_75_8, og_75_9, og_75_10, og_75_11, og_75_12, og_75_13, og_75_14, og_75_15, og_75_16, og_75_17, og_75_18, og_75_19, og_75_20, og_75_21, og_75_22, og_75_23, og_75_24, og_75_25, og_75_26, og_75_27, og_75_28, og_75_29, og_75_30, og_75_31, og_75_32, og_75_33, og_75_34, og_75_35, og_75_36, og_75_37, og_75_38, og_75_39, og_75_40, og_75_41, ol_75, uo_75_4, uo_75_5, uo_75_6, uo_75_7, uo_75_11, uo_75_12, uo_75_13, uo_75_15, uo_75_19, uo_75_20, uo_75_21, uo_75_22, uo_75_23, uo_75_26, uo_75_30, uo_75_31, uo_75_32, uo_75_33, ua_76, ua_77, ua_78, ua_79, ua_80, ua_81, ua_82, ua_83, ua_84, ua_85, ua_86, ua_87, ua_88, ua_89, ua_90, ua_91, ua_92, ua_93, ua_94, ua_95, ua_96, ua_97, ua_98, sO_g, sA_g, sA_O, sO_A, sO_2, sM_1, sM_2, sM_3, sM_4, sM_5, sM_6, uc_75, nu_fitI, nu_fitL, nu_fitO, nu_fitA, nu_fitB0, nu_fitB1]
        (try simp only [Option.toList_some, Option.toList_none, List.nil_append, List.append_nil, List.cons_append, Nat.sub_zero, Nat.sub_self, Nat.zero_sub]); refine Go.wp sp_146 200 ?_; simp only [↓g146_0, ↓g146_1, ↓g146_2, ↓g146_3, ↓g146_4, ↓g146_5, ↓g146_7, ↓g146_10, ↓g146_11, ↓g146_14, ↓g146_15, ↓g146_16, ↓g146_17, ↓g146_18, ↓g146_21, ↓g146_22, ↓g146_23, ↓g146_24, ↓g146_25, ↓g146_28, ↓g146_29, ↓g146_30, ↓g146_31, ↓g146_34, ↓g146_37, ↓g146_38, ↓g146_39, ↓g146_40, ↓g146_43, ↓g146_44, ↓g146_47, ↓g146_50, ↓g146_53, ↓g146_54, ↓g146_57, ↓g146_58, ↓g146_59, ↓g146_60, ↓g146_61, ↓g146_64, ↓g146_67, ↓g146_68, ↓g146_71, ↓g146_72, ↓g146_75, ↓g146_76, ↓g146_76t, ↓g146_77, ↓g146_78, ↓g146_78t, ↓g146_79, ↓g146_80, ↓g146_81, ↓g146_82, ↓g146_83, ↓g146_84, ↓g146_87, ↓g146_90, ↓g146_91, ↓g146_94, ↓g146_95, ↓g146_98, ↓g146_99, cl_143, cl_144, cl_145, cn_0, cn_1, cn_2, cn_3, cn_4, cn_5, cn_6, cn_7, cn_8, ↓Go_s, ↓GoC_a, ↓reduceIte, ↓mm_call_eq, ↓mmw_nil, ↓mmw_cons, List.take_succ_cons, List.take_zero, List.take_nil, List.drop_succ_cons, List.drop_zero, List.drop_nil, List.reverse_cons, List.reverse_nil, List.nil_append, List.cons_append, List.append_nil, Option.toList_some, Option.toList_none, Nat.sub_zero, Nat.le_refl, mmr_cons, mm_st1, mm_st2, mmi_nil, mmi_cons, mmc_I, mmc_L, mmc_R, mmu_get, mmu_one, mma_get, mma_one, List.filter_cons, List.filter_nil, List.contains_cons, List.contains_nil, Nat.reduceBEq, Nat.reduceAdd, Nat.reduceLT, Nat.reduceSub, Nat.reduceLeDiff, Nat.reduceEqDiff, Int32.reduceAdd, Bool.not_true, Bool.not_false, Bool.and_true, Bool.true_and, Bool.and_false, Bool.false_and, Bool.or_false, Bool.false_or, Bool.or_true, Bool.true_or, if_true, if_false, ite_true, ite_false, Bool.false_eq_true, List.getElem?_cons_zero, List.getElem?_cons_succ, List.length_cons, List.length_nil, true_and, and_true, List.set_cons_zero, List.set_cons_succ, Fin.isValue, Fin.val_zero, Fin.val_one, Fin.val_two, Fin.reduceFinMk, Nat.zero_add, hp_75, hp_76, hp_77, hp_78, hp_79, hp_80, hp_81, hp_82, hp_83, hp_84, hp_85, hp_86, hp_87, hp_88, hp_89, hp_90, hp_91, hp_92, hp_93, hp_94, hp_95, hp_96, hp_97, hp_98, og_75_0, og_75_1, og_75_2, og_75_3, og_75_4, og_75_5, og_75_6, og_75_7, og_75_8, og_75_9, og_75_10, og_75_11, og_75_12, og_75_13, og_75_14, og_75_15, og_75_16, og_75_17, og_75_18, og_75_19, og_75_20, og_75_21, og_75_22, og_75_23, og_75_24, og_75_25, og_75_26, og_75_27, og_75_28, og_75_29, og_75_30, og_75_31, og_75_32, og_75_33, og_75_34, og_75_35, og_75_36, og_75_37, og_75_38, og_75_39, og_75_40, og_75_41, ol_75, uo_75_4, uo_75_5, uo_75_6, uo_75_7, uo_75_11, uo_75_12, uo_75_13, uo_75_15, uo_75_19, uo_75_20, uo_75_21, uo_75_22, uo_75_23, uo_75_26, uo_75_30, uo_75_31, uo_75_32, uo_75_33, ua_76, ua_77, ua_78, ua_79, ua_80, ua_81, ua_82, ua_83, ua_84, ua_85, ua_86, ua_87, ua_88, ua_89, ua_90, ua_91, ua_92, ua_93, ua_94, ua_95, ua_96, ua_97, ua_98, sO_g, sA_g, sA_O, sO_A, sO_2, sM_1, sM_2, sM_3, sM_4, sM_5, sM_6, uc_75, nu_fitI, nu_fitL, nu_fitO, nu_fitA, nu_fitB0, nu_fitB1]
        have ej : j + 1 = fa n := by omega
        rw [ej] at hA2 ⊢
        refine ⟨fun _ => ⟨?_, s2, rfl, mx2, hA2.cg hall⟩, fun z => absurd trivial z⟩
        rw [show Sj n law T0 (fa n) = SA n law T0 from funext (fun q => propext (hall q))]
      · (try simp only [Option.toList_some, Option.toList_none, List.nil_append, List.append_nil, List.cons_append, Nat.sub_zero, Nat.sub_self, Nat.zero_sub]); refine Go.wp sp_146 200 ?_; simp only [↓g146_0, ↓g146_1, ↓g146_2, ↓g146_3, ↓g146_4, ↓g146_5, ↓g146_7, ↓g146_10, ↓g146_11, ↓g146_14, ↓g146_15, ↓g146_16, ↓g146_17, ↓g146_18, ↓g146_21, ↓g146_22, ↓g146_23, ↓g146_24, ↓g146_25, ↓g146_28, ↓g146_29, ↓g146_30, ↓g146_31, ↓g146_34, ↓g146_37, ↓g146_38, ↓g146_39, ↓g146_40, ↓g146_43, ↓g146_44, ↓g146_47, ↓g146_50, ↓g146_53, ↓g146_54, ↓g146_57, ↓g146_58, ↓g146_59, ↓g146_60, ↓g146_61, ↓g146_64, ↓g146_67, ↓g146_68, ↓g146_71, ↓g146_72, ↓g146_75, ↓g146_76, ↓g146_76t, ↓g146_77, ↓g146_78, ↓g146_78t, ↓g146_79, ↓g146_80, ↓g146_81, ↓g146_82, ↓g146_83, ↓g146_84, ↓g146_87, ↓g146_90, ↓g146_91, ↓g146_94, ↓g146_95, ↓g146_98, ↓g146_99, cl_143, cl_144, cl_145, cn_0, cn_1, cn_2, cn_3, cn_4, cn_5, cn_6, cn_7, cn_8, ↓Go_s, ↓GoC_a, ↓reduceIte, ↓mm_call_eq, ↓mmw_nil, ↓mmw_cons, List.take_succ_cons, List.take_zero, List.take_nil, List.drop_succ_cons, List.drop_zero, List.drop_nil, List.reverse_cons, List.reverse_nil, List.nil_append, List.cons_append, List.append_nil, Option.toList_some, Option.toList_none, Nat.sub_zero, Nat.le_refl, mmr_cons, mm_st1, mm_st2, mmi_nil, mmi_cons, mmc_I, mmc_L, mmc_R, mmu_get, mmu_one, mma_get, mma_one, List.filter_cons, List.filter_nil, List.contains_cons, List.contains_nil, Nat.reduceBEq, Nat.reduceAdd, Nat.reduceLT, Nat.reduceSub, Nat.reduceLeDiff, Nat.reduceEqDiff, Int32.reduceAdd, Bool.not_true, Bool.not_false, Bool.and_true, Bool.true_and, Bool.and_false, Bool.false_and, Bool.or_false, Bool.false_or, Bool.or_true, Bool.true_or, if_true, if_false, ite_true, ite_false, Bool.false_eq_true, List.getElem?_cons_zero, List.getElem?_cons_succ, List.length_cons, List.length_nil, true_and, and_true, List.set_cons_zero, List.set_cons_succ, Fin.isValue, Fin.val_zero, Fin.val_one, Fin.val_two, Fin.reduceFinMk, Nat.zero_add, hp_75, hp_76, hp_77, hp_78, hp_79, hp_80, hp_81, hp_82, hp_83, hp_84, hp_85, hp_86, hp_87, hp_88, hp_89, hp_90, hp_91, hp_92, hp_93, hp_94, hp_95, hp_96, hp_97, hp_98, og_75_0, og_75_1, og_75_2, og_75_3, og_75_4, og_75_5, og_75_6, og_75_7, og_75_8, og_75_9, og_75_10, og_75_11, og_75_12, og_75_13, og_75_14, og_75_15, og_75_16, og_75_17, og_75_18, og_75_19, og_75_20, og_75_21, og_75_22, og_75_23, og_75_24, og_75_25, og_75_26, og_75_27, og_75_28, og_75_29, og_75_30, og_75_31, og_75_32, og_75_33, og_75_34, og_75_35, og_75_36, og_75_37, og_75_38, og_75_39, og_75_40, og_75_41, ol_75, uo_75_4, uo_75_5, uo_75_6, uo_75_7, uo_75_11, uo_75_12, uo_75_13, uo_75_15, uo_75_19, uo_75_20, uo_75_21, uo_75_22, uo_75_23, uo_75_26, uo_75_30, uo_75_31, uo_75_32, uo_75_33, ua_76, ua_77, ua_78, ua_79, ua_80, ua_81, ua_82, ua_83, ua_84, ua_85, ua_86, ua_87, ua_88, ua_89, ua_90, ua_91, ua_92, ua_93, ua_94, ua_95, ua_96, ua_97, ua_98, sO_g, sA_g, sA_O, sO_A, sO_2, sM_1, sM_2, sM_3, sM_4, sM_5, sM_6, uc_75, nu_fitI, nu_fitL, nu_fitO, nu_fitA, nu_fitB0, nu_fitB1]
        exact next (sA s2 94 f') p' hp' (by omega) (mx2.tr (MX.a (by simp))) hf' hA2
    have hR1 := hR.mx mx
    (try simp only [Option.toList_some, Option.toList_none, List.nil_append, List.append_nil, List.cons_append, Nat.sub_zero, Nat.sub_self, Nat.zero_sub]); refine Go.wp sp_146 200 ?_; simp only [↓g146_0, ↓g146_1, ↓g146_2, ↓g146_3, ↓g146_4, ↓g146_5, ↓g146_7, ↓g146_10, ↓g146_11, ↓g146_14, ↓g146_15, ↓g146_16, ↓g146_17, ↓g146_18, ↓g146_21, ↓g146_22, ↓g146_23, ↓g146_24, ↓g146_25, ↓g146_28, ↓g146_29, ↓g146_30, ↓g146_31, ↓g146_34, ↓g146_37, ↓g146_38, ↓g146_39, ↓g146_40, ↓g146_43, ↓g146_44, ↓g146_47, ↓g146_50, ↓g146_53, ↓g146_54, ↓g146_57, ↓g146_58, ↓g146_59, ↓g146_60, ↓g146_61, ↓g146_64, ↓g146_67, ↓g146_68, ↓g146_71, ↓g146_72, ↓g146_75, ↓g146_76, ↓g146_76t, ↓g146_77, ↓g146_78, ↓g146_78t, ↓g146_79, ↓g146_80, ↓g146_81, ↓g146_82, ↓g146_83, ↓g146_84, ↓g146_87, ↓g146_90, ↓g146_91, ↓g146_94, ↓g146_95, ↓g146_98, ↓g146_99, cl_143, cl_144, cl_145, cn_0, cn_1, cn_2, cn_3, cn_4, cn_5, cn_6, cn_7, cn_8, ↓Go_s, ↓GoC_a, ↓reduceIte, ↓mm_call_eq, ↓mmw_nil, ↓mmw_cons, List.take_succ_cons, List.take_zero, List.take_nil, List.drop_succ_cons, List.drop_zero, List.drop_nil, List.reverse_cons, List.reverse_nil, List.nil_append, List.cons_append, List.append_nil, Option.toList_some, Option.toList_none, Nat.sub_zero, Nat.le_refl, mmr_cons, mm_st1, mm_st2, mmi_nil, mmi_cons, mmc_I, mmc_L, mmc_R, mmu_get, mmu_one, mma_get, mma_one, List.filter_cons, List.filter_nil, List.contains_cons, List.contains_nil, Nat.reduceBEq, Nat.reduceAdd, Nat.reduceLT, Nat.reduceSub, Nat.reduceLeDiff, Nat.reduceEqDiff, Int32.reduceAdd, Bool.not_true, Bool.not_false, Bool.and_true, Bool.true_and, Bool.and_false, Bool.false_and, Bool.or_false, Bool.false_or, Bool.or_true, Bool.true_or, if_true, if_false, ite_true, ite_false, Bool.false_eq_true, List.getElem?_cons_zero, List.getElem?_cons_succ, List.length_cons, List.length_nil, true_and, and_true, List.set_cons_zero, List.set_cons_succ, Fin.isValue, Fin.val_zero, Fin.val_one, Fin.val_two, Fin.reduceFinMk, Nat.zero_add, hp_75, hp_76, hp_77, hp_78, hp_79, hp_80, hp_81, hp_82, hp_83, hp_84, hp_85, hp_86, hp_87, hp_88, hp_89, hp_90, hp_91, hp_92, hp_93, hp_94, hp_95, hp_96, hp_97, hp_98, og_75_0, og_75_1, og_75_2, og_75_3, og_75_4, og_75_5, og_75_6, og_75_7, og_75_8, og_75_9, og_75_10, og_75_11, og_75_12, og_75_13, og_75_14, og_75_15, og_75_16, og_75_17, og_75_18, og_75_19, og_75_20, og_75_21, og_75_22, og_75_23, og_75_24, og_75_25, og_75_26, og_75_27, og_75_28, og_75_29, og_75_30, og_75_31, og_75_32, og_75_33, og_75_34, og_75_35, og_75_36, og_75_37, og_75_38, og_75_39, og_75_40, og_75_41, ol_75, uo_75_4, uo_75_5, uo_75_6, uo_75_7, uo_75_11, uo_75_12, uo_75_13, uo_75_15, uo_75_19, uo_75_20, uo_75_21, uo_75_22, uo_75_23, uo_75_26, uo_75_30, uo_75_31, uo_75_32, uo_75_33, ua_76, ua_77, ua_78, ua_79, ua_80, ua_81, ua_82, ua_83, ua_84, ua_85, ua_86, ua_87, ua_88, ua_89, ua_90, ua_91, ua_92, ua_93, ua_94, ua_95, ua_96, ua_97, ua_98, sO_g, sA_g, sA_O, sO_A, sO_2, sM_1, sM_2, sM_3, sM_4, sM_5, sM_6, uc_75, nu_fitI, nu_fitL, nu_fitO, nu_fitA, nu_fitB0, nu_fitB1]
    refine ⟨fun z => absurd z h10, fun _ => ⟨0, 0, _, Nat.le_refl _, Nat.le_refl _, M_fits (d := d) hR1 hn2 hn8 hlw hT6 hT8 h94 hp, fun z h' hz => ?_⟩⟩
    obtain ⟨s2, rfl, mx2, ⟨hfit, rfl, h88⟩ | ⟨hfit, rfl⟩⟩ := hz
    · have hfp := fit_fnl T0 p hp hfit
      have hR2 := hR1.mx (mx2.mono (by simp) (by simp))
      have h942 : Ar (s2.1 94) p := by rw [mx2.1 94 (by simp)]; exact h94
      have hA2 : AcM s2 n law T0 (Sj n law T0 j) := hA.mx mx2 (by simp) (by simp)
      have mxs2 := mx.tr (mx2.mono (A' := [88, 94, 95, 96]) (J' := [26]) (by simp) (by simp))
      (try simp only [Option.toList_some, Option.toList_none, List.nil_append, List.append_nil, List.cons_append, Nat.sub_zero, Nat.sub_self, Nat.zero_sub]); refine Go.wp sp_146 200 ?_; simp only [↓g146_0, ↓g146_1, ↓g146_2, ↓g146_3, ↓g146_4, ↓g146_5, ↓g146_7, ↓g146_10, ↓g146_11, ↓g146_14, ↓g146_15, ↓g146_16, ↓g146_17, ↓g146_18, ↓g146_21, ↓g146_22, ↓g146_23, ↓g146_24, ↓g146_25, ↓g146_28, ↓g146_29, ↓g146_30, ↓g146_31, ↓g146_34, ↓g146_37, ↓g146_38, ↓g146_39, ↓g146_40, ↓g146_43, ↓g146_44, ↓g146_47, ↓g146_50, ↓g146_53, ↓g146_54, ↓g146_57, ↓g146_58, ↓g146_59, ↓g146_60, ↓g146_61, ↓g146_64, ↓g146_67, ↓g146_68, ↓g146_71, ↓g146_72, ↓g146_75, ↓g146_76, ↓g146_76t, ↓g146_77, ↓g146_78, ↓g146_78t, ↓g146_79, ↓g146_80, ↓g146_81, ↓g146_82, ↓g146_83, ↓g146_84, ↓g146_87, ↓g146_90, ↓g146_91, ↓g146_94, ↓g146_95, ↓g146_98, ↓g146_99, cl_143, cl_144, cl_145, cn_0, cn_1, cn_2, cn_3, cn_4, cn_5, cn_6, cn_7, cn_8, ↓Go_s, ↓GoC_a, ↓reduceIte, ↓mm_call_eq, ↓mmw_nil, ↓mmw_cons, List.take_succ_cons, List.take_zero, List.take_nil, List.drop_succ_cons, List.drop_zero, List.drop_nil, List.reverse_cons, List.reverse_nil, List.nil_append, List.cons_append, List.append_nil, Option.toList_some, Option.toList_none, Nat.sub_zero, Nat.le_refl, mmr_cons, mm_st1, mm_st2, mmi_nil, mmi_cons, mmc_I, mmc_L, mmc_R, mmu_get, mmu_one, mma_get, mma_one, List.filter_cons, List.filter_nil, List.contains_cons, List.contains_nil, Nat.reduceBEq, Nat.reduceAdd, Nat.reduceLT, Nat.reduceSub, Nat.reduceLeDiff, Nat.reduceEqDiff, Int32.reduceAdd, Bool.not_true, Bool.not_false, Bool.and_true, Bool.true_and, Bool.and_false, Bool.false_and, Bool.or_false, Bool.false_or, Bool.or_true, Bool.true_or, if_true, if_false, ite_true, ite_false, Bool.false_eq_true, List.getElem?_cons_zero, List.getElem?_cons_succ, List.length_cons, List.length_nil, true_and, and_true, List.set_cons_zero, List.set_cons_succ, Fin.isValue, Fin.val_zero, Fin.val_one, Fin.val_two, Fin.reduceFinMk, Nat.zero_add, hp_75, hp_76, hp_77, hp_78, hp_79, hp_80, hp_81, hp_82, hp_83, hp_84, hp_85, hp_86, hp_87, hp_88, hp_89, hp_90, hp_91, hp_92, hp_93, hp_94, hp_95, hp_96, hp_97, hp_98, og_75_0, og_75_1, og_75_2, og_75_3, og_75_4, og_75_5, og_75_6, og_75_7, og_75_8, og_75_9, og_75_10, og_75_11, og_75_12, og_75_13, og_75_14, og_75_15, og_75_16, og_75_17, og_75_18, og_75_19, og_75_20, og_75_21, og_75_22, og_75_23, og_75_24, og_75_25, og_75_26, og_75_27, og_75_28, og_75_29, og_75_30, og_75_31, og_75_32, og_75_33, og_75_34, og_75_35, og_75_36, og_75_37, og_75_38, og_75_39, og_75_40, og_75_41, ol_75, uo_75_4, uo_75_5, uo_75_6, uo_75_7, uo_75_11, uo_75_12, uo_75_13, uo_75_15, uo_75_19, uo_75_20, uo_75_21, uo_75_22, uo_75_23, uo_75_26, uo_75_30, uo_75_31, uo_75_32, uo_75_33, ua_76, ua_77, ua_78, ua_79, ua_80, ua_81, ua_82, ua_83, ua_84, ua_85, ua_86, ua_87, ua_88, ua_89, ua_90, ua_91, ua_92, ua_93, ua_94, ua_95, ua_96, ua_97, ua_98, sO_g, sA_g, sA_O, sO_A, sO_2, sM_1, sM_2, sM_3, sM_4, sM_5, sM_6, uc_75, nI_1, nu_fitI, nu_fitL, nu_fitO, nu_fitA, nu_fitB0, nu_fitB1]
      refine ⟨fun z => absurd z h10, fun _ => ⟨0, 0, _, Nat.le_refl _, Nat.le_refl _, M_show (d := d + 3) hR2.1 hn2 hn8 h88 hfp, fun z h' hz => ?_⟩⟩
      obtain ⟨rfl, f96, rfl, h96⟩ := hz
      have stood : ∀ r k f, n = k + r → (∀ b, b < n → ∀ i, i < 32 → (bt (f b) i = true ↔ bt (s2.1 95 b) i = true ∨ (i < k ∧ p.getD i 0 = b))) → WP (mm_rw mr_146) (some .int) tb (WM tb (d + 4)) (LyP s n law T0) 59 [(0, vR 75), (1, vI (nI (cN (LaP n) (Sj n law T0 j) + 1))), (2, vI 1), (3, vI (nI k))] [] (HP (sA (sA s2 96 f96) 95 f)) 0 0 := by
        intro r
        induction r with
        | zero =>
          intro k f hk hf
          have ek : k = n := by omega
          subst ek
          have h11 := hR2.1
          (try simp only [Option.toList_some, Option.toList_none, List.nil_append, List.append_nil, List.cons_append, Nat.sub_zero, Nat.sub_self, Nat.zero_sub]); refine Go.wp [4, 39, 47, 57, 59, 90, 94] 200 ?_; simp only [↓g146_0, ↓g146_1, ↓g146_2, ↓g146_3, ↓g146_4, ↓g146_5, ↓g146_7, ↓g146_10, ↓g146_11, ↓g146_14, ↓g146_15, ↓g146_16, ↓g146_17, ↓g146_18, ↓g146_21, ↓g146_22, ↓g146_23, ↓g146_24, ↓g146_25, ↓g146_28, ↓g146_29, ↓g146_30, ↓g146_31, ↓g146_34, ↓g146_37, ↓g146_38, ↓g146_39, ↓g146_40, ↓g146_43, ↓g146_44, ↓g146_47, ↓g146_50, ↓g146_53, ↓g146_54, ↓g146_57, ↓g146_58, ↓g146_59, ↓g146_60, ↓g146_61, ↓g146_64, ↓g146_67, ↓g146_68, ↓g146_71, ↓g146_72, ↓g146_75, ↓g146_76, ↓g146_76t, ↓g146_77, ↓g146_78, ↓g146_78t, ↓g146_79, ↓g146_80, ↓g146_81, ↓g146_82, ↓g146_83, ↓g146_84, ↓g146_87, ↓g146_90, ↓g146_91, ↓g146_94, ↓g146_95, ↓g146_98, ↓g146_99, cl_143, cl_144, cl_145, cn_0, cn_1, cn_2, cn_3, cn_4, cn_5, cn_6, cn_7, cn_8, ↓Go_s, ↓GoC_a, ↓reduceIte, ↓mm_call_eq, ↓mmw_nil, ↓mmw_cons, List.take_succ_cons, List.take_zero, List.take_nil, List.drop_succ_cons, List.drop_zero, List.drop_nil, List.reverse_cons, List.reverse_nil, List.nil_append, List.cons_append, List.append_nil, Option.toList_some, Option.toList_none, Nat.sub_zero, Nat.le_refl, mmr_cons, mm_st1, mm_st2, mmi_nil, mmi_cons, mmc_I, mmc_L, mmc_R, mmu_get, mmu_one, mma_get, mma_one, List.filter_cons, List.filter_nil, List.contains_cons, List.contains_nil, Nat.reduceBEq, Nat.reduceAdd, Nat.reduceLT, Nat.reduceSub, Nat.reduceLeDiff, Nat.reduceEqDiff, Int32.reduceAdd, Bool.not_true, Bool.not_false, Bool.and_true, Bool.true_and, Bool.and_false, Bool.false_and, Bool.or_false, Bool.false_or, Bool.or_true, Bool.true_or, if_true, if_false, ite_true, ite_false, Bool.false_eq_true, List.getElem?_cons_zero, List.getElem?_cons_succ, List.length_cons, List.length_nil, true_and, and_true, List.set_cons_zero, List.set_cons_succ, Fin.isValue, Fin.val_zero, Fin.val_one, Fin.val_two, Fin.reduceFinMk, Nat.zero_add, hp_75, hp_76, hp_77, hp_78, hp_79, hp_80, hp_81, hp_82, hp_83, hp_84, hp_85, hp_86, hp_87, hp_88, hp_89, hp_90, hp_91, hp_92, hp_93, hp_94, hp_95, hp_96, hp_97, hp_98, og_75_0, og_75_1, og_75_2, og_75_3, og_75_4, og_75_5, og_75_6, og_75_7, og_75_8, og_75_9, og_75_10, og_75_11, og_75_12, og_75_13, og_75_14, og_75_15, og_75_16, og_75_17, og_75_18, og_75_19, og_75_20, og_75_21, og_75_22, og_75_23, og_75_24, og_75_25, og_75_26, og_75_27, og_75_28, og_75_29, og_75_30, og_75_31, og_75_32, og_75_33, og_75_34, og_75_35, og_75_36, og_75_37, og_75_38, og_75_39, og_75_40, og_75_41, ol_75, uo_75_4, uo_75_5, uo_75_6, uo_75_7, uo_75_11, uo_75_12, uo_75_13, uo_75_15, uo_75_19, uo_75_20, uo_75_21, uo_75_22, uo_75_23, uo_75_26, uo_75_30, uo_75_31, uo_75_32, uo_75_33, ua_76, ua_77, ua_78, ua_79, ua_80, ua_81, ua_82, ua_83, ua_84, ua_85, ua_86, ua_87, ua_88, ua_89, ua_90, ua_91, ua_92, ua_93, ua_94, ua_95, ua_96, ua_97, ua_98, sO_g, sA_g, sA_O, sO_A, sO_2, sM_1, sM_2, sM_3, sM_4, sM_5, sM_6, uc_75, h11, nu_fitI, nu_fitL, nu_fitO, nu_fitA, nu_fitB0, nu_fitB1]
          refine ⟨fun _ => on _ _ (mxs2.tr ((MX.a (by simp)).tr (MX.a (by simp)))) h942 (fun b hb i hi => ⟨?_, ?_⟩) (by rw [cN_add hp hrk hfit]; simp), fun z => absurd (Int32.le_refl _) z⟩
          · show bt (f b) i = true ↔ _
            rw [hf b hb i hi, (hA2 b hb i hi).1]
            constructor
            · rintro (⟨z1, q, z2, z3⟩ | ⟨z1, z2⟩)
              · exact ⟨z1, q, (Sj_s hp hrk q).mpr (Or.inl z2), z3⟩
              · exact ⟨z1, p, (Sj_s hp hrk p).mpr (Or.inr ⟨rfl, hfit⟩), z2⟩
            · rintro ⟨z1, q, z2, z3⟩
              rcases (Sj_s hp hrk q).mp z2 with z | z
              · exact Or.inl ⟨z1, q, z, z3⟩
              · rw [z.1] at z3
                exact Or.inr ⟨z1, z3⟩
          · show bt (f96 b) i = true ↔ _
            rw [h96 b hb i hi, (hA2 b hb i hi).2]
            constructor
            · rintro (⟨z1, q, z2, z3⟩ | z)
              · exact ⟨z1, q, (Sj_s hp hrk q).mpr (Or.inl z2), z3⟩
              · refine ⟨?_, p, (Sj_s hp hrk p).mpr (Or.inr ⟨rfl, hfit⟩), z⟩
                obtain ⟨k2, hk2, _, e⟩ := z
                rw [← e]
                exact hfp.lt (Nat.mod_lt _ (by omega))
            · rintro ⟨z1, q, z2, z3⟩
              rcases (Sj_s hp hrk q).mp z2 with z | z
              · exact Or.inl ⟨z1, q, z, z3⟩
              · rw [z.1] at z3
                exact Or.inr z3
        | succ r ih =>
          intro k f hk hf
          have hkn : k < n := by omega
          have h11 := hR2.1
          have v1 := hp.lt hkn
          have hcl : (nI k).toNatClampNeg = k := nI_clamp (by omega)
          have hclp : (nI (p.getD k 0)).toNatClampNeg = p.getD k 0 := nI_clamp (by omega)
          have hpk := h942 k (by omega)
          (try simp only [Option.toList_some, Option.toList_none, List.nil_append, List.append_nil, List.cons_append, Nat.sub_zero, Nat.sub_self, Nat.zero_sub]); refine Go.wp [4, 39, 47, 57, 59, 90, 94] 200 ?_; simp only [↓g146_0, ↓g146_1, ↓g146_2, ↓g146_3, ↓g146_4, ↓g146_5, ↓g146_7, ↓g146_10, ↓g146_11, ↓g146_14, ↓g146_15, ↓g146_16, ↓g146_17, ↓g146_18, ↓g146_21, ↓g146_22, ↓g146_23, ↓g146_24, ↓g146_25, ↓g146_28, ↓g146_29, ↓g146_30, ↓g146_31, ↓g146_34, ↓g146_37, ↓g146_38, ↓g146_39, ↓g146_40, ↓g146_43, ↓g146_44, ↓g146_47, ↓g146_50, ↓g146_53, ↓g146_54, ↓g146_57, ↓g146_58, ↓g146_59, ↓g146_60, ↓g146_61, ↓g146_64, ↓g146_67, ↓g146_68, ↓g146_71, ↓g146_72, ↓g146_75, ↓g146_76, ↓g146_76t, ↓g146_77, ↓g146_78, ↓g146_78t, ↓g146_79, ↓g146_80, ↓g146_81, ↓g146_82, ↓g146_83, ↓g146_84, ↓g146_87, ↓g146_90, ↓g146_91, ↓g146_94, ↓g146_95, ↓g146_98, ↓g146_99, cl_143, cl_144, cl_145, cn_0, cn_1, cn_2, cn_3, cn_4, cn_5, cn_6, cn_7, cn_8, ↓Go_s, ↓GoC_a, ↓reduceIte, ↓mm_call_eq, ↓mmw_nil, ↓mmw_cons, List.take_succ_cons, List.take_zero, List.take_nil, List.drop_succ_cons, List.drop_zero, List.drop_nil, List.reverse_cons, List.reverse_nil, List.nil_append, List.cons_append, List.append_nil, Option.toList_some, Option.toList_none, Nat.sub_zero, Nat.le_refl, mmr_cons, mm_st1, mm_st2, mmi_nil, mmi_cons, mmc_I, mmc_L, mmc_R, mmu_get, mmu_one, mma_get, mma_one, List.filter_cons, List.filter_nil, List.contains_cons, List.contains_nil, Nat.reduceBEq, Nat.reduceAdd, Nat.reduceLT, Nat.reduceSub, Nat.reduceLeDiff, Nat.reduceEqDiff, Int32.reduceAdd, Bool.not_true, Bool.not_false, Bool.and_true, Bool.true_and, Bool.and_false, Bool.false_and, Bool.or_false, Bool.false_or, Bool.or_true, Bool.true_or, if_true, if_false, ite_true, ite_false, Bool.false_eq_true, List.getElem?_cons_zero, List.getElem?_cons_succ, List.length_cons, List.length_nil, true_and, and_true, List.set_cons_zero, List.set_cons_succ, Fin.isValue, Fin.val_zero, Fin.val_one, Fin.val_two, Fin.reduceFinMk, Nat.zero_add, hp_75, hp_76, hp_77, hp_78, hp_79, hp_80, hp_81, hp_82, hp_83, hp_84, hp_85, hp_86, hp_87, hp_88, hp_89, hp_90, hp_91, hp_92, hp_93, hp_94, hp_95, hp_96, hp_97, hp_98, og_75_0, og_75_1, og_75_2, og_75_3, og_75_4, og_75_5, og_75_6, og_75_7, og_75_8, og_75_9, og_75_10, og_75_11, og_75_12, og_75_13, og_75_14, og_75_15, og_75_16, og_75_17, og_75_18, og_75_19, og_75_20, og_75_21, og_75_22, og_75_23, og_75_24, og_75_25, og_75_26, og_75_27, og_75_28, og_75_29, og_75_30, og_75_31, og_75_32, og_75_33, og_75_34, og_75_35, og_75_36, og_75_37, og_75_38, og_75_39, og_75_40, og_75_41, ol_75, uo_75_4, uo_75_5, uo_75_6, uo_75_7, uo_75_11, uo_75_12, uo_75_13, uo_75_15, uo_75_19, uo_75_20, uo_75_21, uo_75_22, uo_75_23, uo_75_26, uo_75_30, uo_75_31, uo_75_32, uo_75_33, ua_76, ua_77, ua_78, ua_79, ua_80, ua_81, ua_82, ua_83, ua_84, ua_85, ua_86, ua_87, ua_88, ua_89, ua_90, ua_91, ua_92, ua_93, ua_94, ua_95, ua_96, ua_97, ua_98, sO_g, sA_g, sA_O, sO_A, sO_2, sM_1, sM_2, sM_3, sM_4, sM_5, sM_6, uc_75, h11, hcl, hpk, hclp, nI_1, nu_fitI, nu_fitL, nu_fitO, nu_fitA, nu_fitB0, nu_fitB1]
          rw [sA_sA]
          refine ⟨fun z => absurd z (nI_ge hkn (by omega)), fun _ => ⟨vp_in_nI (by omega) (by omega), vp_in_nI (by omega) (by omega), vp_in_nI (by omega) (by omega), ih (k + 1) _ (by omega) (fun b hb i hi => ?_)⟩⟩
          unfold upd
          by_cases e : b = p.getD k 0
          · rw [if_pos e, b_or, Bool.or_eq_true, bt_sh (by omega) hi, decide_eq_true_eq, ← e, hf b hb i hi]
            constructor
            · rintro ((z | z) | z)
              · exact Or.inl z
              · exact Or.inr ⟨by omega, z.2⟩
              · rw [z]
                exact Or.inr ⟨by omega, e.symm⟩
            · rintro (z | ⟨z1, z2⟩)
              · exact Or.inl (Or.inl z)
              · by_cases ei : i = k
                · exact Or.inr ei
                · exact Or.inl (Or.inr ⟨by omega, z2⟩)
          · rw [if_neg e, hf b hb i hi]
            refine or_congr Iff.rfl ⟨fun z => ⟨by omega, z.2⟩, fun z => ⟨?_, z.2⟩⟩
            have : i ≠ k := fun q => e (by rw [← z.2, q])
            omega
      (try simp only [Option.toList_some, Option.toList_none, List.nil_append, List.append_nil, List.cons_append, Nat.sub_zero, Nat.sub_self, Nat.zero_sub]); refine Go.wp sp_146 200 ?_; simp only [↓g146_0, ↓g146_1, ↓g146_2, ↓g146_3, ↓g146_4, ↓g146_5, ↓g146_7, ↓g146_10, ↓g146_11, ↓g146_14, ↓g146_15, ↓g146_16, ↓g146_17, ↓g146_18, ↓g146_21, ↓g146_22, ↓g146_23, ↓g146_24, ↓g146_25, ↓g146_28, ↓g146_29, ↓g146_30, ↓g146_31, ↓g146_34, ↓g146_37, ↓g146_38, ↓g146_39, ↓g146_40, ↓g146_43, ↓g146_44, ↓g146_47, ↓g146_50, ↓g146_53, ↓g146_54, ↓g146_57, ↓g146_58, ↓g146_59, ↓g146_60, ↓g146_61, ↓g146_64, ↓g146_67, ↓g146_68, ↓g146_71, ↓g146_72, ↓g146_75, ↓g146_76, ↓g146_76t, ↓g146_77, ↓g146_78, ↓g146_78t, ↓g146_79, ↓g146_80, ↓g146_81, ↓g146_82, ↓g146_83, ↓g146_84, ↓g146_87, ↓g146_90, ↓g146_91, ↓g146_94, ↓g146_95, ↓g146_98, ↓g146_99, cl_143, cl_144, cl_145, cn_0, cn_1, cn_2, cn_3, cn_4, cn_5, cn_6, cn_7, cn_8, ↓Go_s, ↓GoC_a, ↓reduceIte, ↓mm_call_eq, ↓mmw_nil, ↓mmw_cons, List.take_succ_cons, List.take_zero, List.take_nil, List.drop_succ_cons, List.drop_zero, List.drop_nil, List.reverse_cons, List.reverse_nil, List.nil_append, List.cons_append, List.append_nil, Option.toList_some, Option.toList_none, Nat.sub_zero, Nat.le_refl, mmr_cons, mm_st1, mm_st2, mmi_nil, mmi_cons, mmc_I, mmc_L, mmc_R, mmu_get, mmu_one, mma_get, mma_one, List.filter_cons, List.filter_nil, List.contains_cons, List.contains_nil, Nat.reduceBEq, Nat.reduceAdd, Nat.reduceLT, Nat.reduceSub, Nat.reduceLeDiff, Nat.reduceEqDiff, Int32.reduceAdd, Bool.not_true, Bool.not_false, Bool.and_true, Bool.true_and, Bool.and_false, Bool.false_and, Bool.or_false, Bool.false_or, Bool.or_true, Bool.true_or, if_true, if_false, ite_true, ite_false, Bool.false_eq_true, List.getElem?_cons_zero, List.getElem?_cons_succ, List.length_cons, List.length_nil, true_and, and_true, List.set_cons_zero, List.set_cons_succ, Fin.isValue, Fin.val_zero, Fin.val_one, Fin.val_two, Fin.reduceFinMk, Nat.zero_add, hp_75, hp_76, hp_77, hp_78, hp_79, hp_80, hp_81, hp_82, hp_83, hp_84, hp_85, hp_86, hp_87, hp_88, hp_89, hp_90, hp_91, hp_92, hp_93, hp_94, hp_95, hp_96, hp_97, hp_98, og_75_0, og_75_1, og_75_2, og_75_3, og_75_4, og_75_5, og_75_6, og_75_7, og_75_8, og_75_9, og_75_10, og_75_11, og_75_12, og_75_13, og_75_14, og_75_15, og_75_16, og_75_17, og_75_18, og_75_19, og_75_20, og_75_21, og_75_22, og_75_23, og_75_24, og_75_25, og_75_26, og_75_27, og_75_28, og_75_29, og_75_30, og_75_31, og_75_32, og_75_33, og_75_34, og_75_35, og_75_36, og_75_37, og_75_38, og_75_39, og_75_40, og_75_41, ol_75, uo_75_4, uo_75_5, uo_75_6, uo_75_7, uo_75_11, uo_75_12, uo_75_13, uo_75_15, uo_75_19, uo_75_20, uo_75_21, uo_75_22, uo_75_23, uo_75_26, uo_75_30, uo_75_31, uo_75_32, uo_75_33, ua_76, ua_77, ua_78, ua_79, ua_80, ua_81, ua_82, ua_83, ua_84, ua_85, ua_86, ua_87, ua_88, ua_89, ua_90, ua_91, ua_92, ua_93, ua_94, ua_95, ua_96, ua_97, ua_98, sO_g, sA_g, sA_O, sO_A, sO_2, sM_1, sM_2, sM_3, sM_4, sM_5, sM_6, uc_75, nu_fitI, nu_fitL, nu_fitO, nu_fitA, nu_fitB0, nu_fitB1]
      have h0 := stood n 0 (s2.1 95) (by omega) (fun b hb i hi => ⟨Or.inl, fun z => z.elim id (fun z => absurd z.1 (Nat.not_lt_zero _))⟩)
      rw [show sA (sA s2 96 f96) 95 (s2.1 95) = sA s2 96 f96 from sA_id (sA s2 96 f96) 95] at h0
      exact h0
    · have hA2 : AcM s2 n law T0 (Sj n law T0 j) := hA.mx mx2 (by simp) (by simp)
      have hsame : Sj n law T0 j = Sj n law T0 (j + 1) := funext (fun q => propext (Sj_no hp hrk hfit q))
      rw [hsame] at hA2 ⊢
      (try simp only [Option.toList_some, Option.toList_none, List.nil_append, List.append_nil, List.cons_append, Nat.sub_zero, Nat.sub_self, Nat.zero_sub]); refine Go.wp [4, 39, 47, 57, 59, 90, 94] 200 ?_; simp only [↓g146_0, ↓g146_1, ↓g146_2, ↓g146_3, ↓g146_4, ↓g146_5, ↓g146_7, ↓g146_10, ↓g146_11, ↓g146_14, ↓g146_15, ↓g146_16, ↓g146_17, ↓g146_18, ↓g146_21, ↓g146_22, ↓g146_23, ↓g146_24, ↓g146_25, ↓g146_28, ↓g146_29, ↓g146_30, ↓g146_31, ↓g146_34, ↓g146_37, ↓g146_38, ↓g146_39, ↓g146_40, ↓g146_43, ↓g146_44, ↓g146_47, ↓g146_50, ↓g146_53, ↓g146_54, ↓g146_57, ↓g146_58, ↓g146_59, ↓g146_60, ↓g146_61, ↓g146_64, ↓g146_67, ↓g146_68, ↓g146_71, ↓g146_72, ↓g146_75, ↓g146_76, ↓g146_76t, ↓g146_77, ↓g146_78, ↓g146_78t, ↓g146_79, ↓g146_80, ↓g146_81, ↓g146_82, ↓g146_83, ↓g146_84, ↓g146_87, ↓g146_90, ↓g146_91, ↓g146_94, ↓g146_95, ↓g146_98, ↓g146_99, cl_143, cl_144, cl_145, cn_0, cn_1, cn_2, cn_3, cn_4, cn_5, cn_6, cn_7, cn_8, ↓Go_s, ↓GoC_a, ↓reduceIte, ↓mm_call_eq, ↓mmw_nil, ↓mmw_cons, List.take_succ_cons, List.take_zero, List.take_nil, List.drop_succ_cons, List.drop_zero, List.drop_nil, List.reverse_cons, List.reverse_nil, List.nil_append, List.cons_append, List.append_nil, Option.toList_some, Option.toList_none, Nat.sub_zero, Nat.le_refl, mmr_cons, mm_st1, mm_st2, mmi_nil, mmi_cons, mmc_I, mmc_L, mmc_R, mmu_get, mmu_one, mma_get, mma_one, List.filter_cons, List.filter_nil, List.contains_cons, List.contains_nil, Nat.reduceBEq, Nat.reduceAdd, Nat.reduceLT, Nat.reduceSub, Nat.reduceLeDiff, Nat.reduceEqDiff, Int32.reduceAdd, Bool.not_true, Bool.not_false, Bool.and_true, Bool.true_and, Bool.and_false, Bool.false_and, Bool.or_false, Bool.false_or, Bool.or_true, Bool.true_or, if_true, if_false, ite_true, ite_false, Bool.false_eq_true, List.getElem?_cons_zero, List.getElem?_cons_succ, List.length_cons, List.length_nil, true_and, and_true, List.set_cons_zero, List.set_cons_succ, Fin.isValue, Fin.val_zero, Fin.val_one, Fin.val_two, Fin.reduceFinMk, Nat.zero_add, hp_75, hp_76, hp_77, hp_78, hp_79, hp_80, hp_81, hp_82, hp_83, hp_84, hp_85, hp_86, hp_87, hp_88, hp_89, hp_90, hp_91, hp_92, hp_93, hp_94, hp_95, hp_96, hp_97, hp_98, og_75_0, og_75_1, og_75_2, og_75_3, og_75_4, og_75_5, og_75_6, og_75_7, og_75_8, og_75_9, og_75_10, og_75_11, og_75_12, og_75_13, og_75_14, og_75_15, og_75_16, og_75_17, og_75_18, og_75_19, og_75_20, og_75_21, og_75_22, og_75_23, og_75_24, og_75_25, og_75_26, og_75_27, og_75_28, og_75_29, og_75_30, og_75_31, og_75_32, og_75_33, og_75_34, og_75_35, og_75_36, og_75_37, og_75_38, og_75_39, og_75_40, og_75_41, ol_75, uo_75_4, uo_75_5, uo_75_6, uo_75_7, uo_75_11, uo_75_12, uo_75_13, uo_75_15, uo_75_19, uo_75_20, uo_75_21, uo_75_22, uo_75_23, uo_75_26, uo_75_30, uo_75_31, uo_75_32, uo_75_33, ua_76, ua_77, ua_78, ua_79, ua_80, ua_81, ua_82, ua_83, ua_84, ua_85, ua_86, ua_87, ua_88, ua_89, ua_90, ua_91, ua_92, ua_93, ua_94, ua_95, ua_96, ua_97, ua_98, sO_g, sA_g, sA_O, sO_A, sO_2, sM_1, sM_2, sM_3, sM_4, sM_5, sM_6, uc_75, nu_fitI, nu_fitL, nu_fitO, nu_fitA, nu_fitB0, nu_fitB1]
      exact ⟨fun _ => on s2 _ (mx.tr (mx2.mono (by simp) (by simp))) (by rw [mx2.1 94 (by simp)]; exact h94) hA2 (by simp), fun z => absurd trivial z⟩
  have main : ∀ r j s1 p, fa n = j + (r + 1) → IsP n p → rk p = j → MX [88, 94, 95, 96] [26] s s1 → Ar (s1.1 94) p → AcM s1 n law T0 (Sj n law T0 j) → WP (mm_rw mr_146) (some .int) tb (WM tb (d + 4)) (LyP s n law T0) 39 [(0, vR 75), (1, vI (nI (cN (LaP n) (Sj n law T0 j)))), (2, vI 1)] [] (HP s1) 0 0 := by
    intro r
    induction r with
    | zero =>
      intro j s1 p hj hp hrk mx h94 hA
      refine step j s1 p hp hrk mx h94 hA (fun s3 p' hp' hrk' _ _ _ => ?_)
      have := rk_lt p'
      rw [hp'.len] at this
      omega
    | succ r ih =>
      intro j s1 p hj hp hrk mx h94 hA
      exact step j s1 p hp hrk mx h94 hA (fun s3 p' hp' hrk' mx3 h943 hA3 => ih (j + 1) s3 p' (by omega) hp' hrk' mx3 h943 hA3)
  have init : ∀ r k f94 f95 f96, 8 = k + r → (∀ j, j < k → f94 j = nI j ∧ f95 j = 0 ∧ f96 j = 0) → WP (mm_rw mr_146) (some .int) tb (WM tb (d + 4)) (LyP s n law T0) 4 [(0, vR 75), (1, vI 0), (2, vI (nI k))] [] (HP (sA (sA (sA s 94 f94) 95 f95) 96 f96)) 0 0 := by
    intro r
    induction r with
    | zero =>
      intro k f94 f95 f96 hk hf
      have ek : k = 8 := by omega
      subst ek
      have hmx : MX [88, 94, 95, 96] [26] s (sA (sA (sA s 94 f94) 95 f95) 96 f96) := (MX.a (by simp)).tr ((MX.a (by simp)).tr (MX.a (by simp)))
      have h0 := main (fa n - 1) 0 (sA (sA (sA s 94 f94) 95 f95) 96 f96) (List.range n) (by have := fa_pos n; omega) (List.Perm.refl _) (range_asc n) hmx (fun j hj => by
        rw [List.length_range] at hj
        show f94 j = _
        rw [(hf j (by omega)).1, List.getD_eq_getElem?_getD, List.getElem?_range hj]
        rfl) (fun b hb i hi => by
        show (bt (f95 b) i = true ↔ _) ∧ (bt (f96 b) i = true ↔ _)
        rw [(hf b (by omega)).2.1, (hf b (by omega)).2.2, b_0]
        exact ⟨⟨fun z => absurd z (by decide), fun ⟨_, q, z, _⟩ => absurd z.2 (Nat.not_lt_zero _)⟩, ⟨fun z => absurd z (by decide), fun ⟨_, q, z, _⟩ => absurd z.2 (Nat.not_lt_zero _)⟩⟩)
      rw [cN_no (LaP n) (fun q _ z => absurd z.2 (Nat.not_lt_zero _))] at h0
      (try simp only [Option.toList_some, Option.toList_none, List.nil_append, List.append_nil, List.cons_append, Nat.sub_zero, Nat.sub_self, Nat.zero_sub]); refine Go.wp sp_146 200 ?_; simp only [↓g146_0, ↓g146_1, ↓g146_2, ↓g146_3, ↓g146_4, ↓g146_5, ↓g146_7, ↓g146_10, ↓g146_11, ↓g146_14, ↓g146_15, ↓g146_16, ↓g146_17, ↓g146_18, ↓g146_21, ↓g146_22, ↓g146_23, ↓g146_24, ↓g146_25, ↓g146_28, ↓g146_29, ↓g146_30, ↓g146_31, ↓g146_34, ↓g146_37, ↓g146_38, ↓g146_39, ↓g146_40, ↓g146_43, ↓g146_44, ↓g146_47, ↓g146_50, ↓g146_53, ↓g146_54, ↓g146_57, ↓g146_58, ↓g146_59, ↓g146_60, ↓g146_61, ↓g146_64, ↓g146_67, ↓g146_68, ↓g146_71, ↓g146_72, ↓g146_75, ↓g146_76, ↓g146_76t, ↓g146_77, ↓g146_78, ↓g146_78t, ↓g146_79, ↓g146_80, ↓g146_81, ↓g146_82, ↓g146_83, ↓g146_84, ↓g146_87, ↓g146_90, ↓g146_91, ↓g146_94, ↓g146_95, ↓g146_98, ↓g146_99, cl_143, cl_144, cl_145, cn_0, cn_1, cn_2, cn_3, cn_4, cn_5, cn_6, cn_7, cn_8, ↓Go_s, ↓GoC_a, ↓reduceIte, ↓mm_call_eq, ↓mmw_nil, ↓mmw_cons, List.take_succ_cons, List.take_zero, List.take_nil, List.drop_succ_cons, List.drop_zero, List.drop_nil, List.reverse_cons, List.reverse_nil, List.nil_append, List.cons_append, List.append_nil, Option.toList_some, Option.toList_none, Nat.sub_zero, Nat.le_refl, mmr_cons, mm_st1, mm_st2, mmi_nil, mmi_cons, mmc_I, mmc_L, mmc_R, mmu_get, mmu_one, mma_get, mma_one, List.filter_cons, List.filter_nil, List.contains_cons, List.contains_nil, Nat.reduceBEq, Nat.reduceAdd, Nat.reduceLT, Nat.reduceSub, Nat.reduceLeDiff, Nat.reduceEqDiff, Int32.reduceAdd, Bool.not_true, Bool.not_false, Bool.and_true, Bool.true_and, Bool.and_false, Bool.false_and, Bool.or_false, Bool.false_or, Bool.or_true, Bool.true_or, if_true, if_false, ite_true, ite_false, Bool.false_eq_true, List.getElem?_cons_zero, List.getElem?_cons_succ, List.length_cons, List.length_nil, true_and, and_true, List.set_cons_zero, List.set_cons_succ, Fin.isValue, Fin.val_zero, Fin.val_one, Fin.val_two, Fin.reduceFinMk, Nat.zero_add, hp_75, hp_76, hp_77, hp_78, hp_79, hp_80, hp_81, hp_82, hp_83, hp_84, hp_85, hp_86, hp_87, hp_88, hp_89, hp_90, hp_91, hp_92, hp_93, hp_94, hp_95, hp_96, hp_97, hp_98, og_75_0, og_75_1, og_75_2, og_75_3, og_75_4, og_75_5, og_75_6, og_75_7, og_75_8, og_75_9, og_75_10, og_75_11, og_75_12, og_75_13, og_75_14, og_75_15, og_75_16, og_75_17, og_75_18, og_75_19, og_75_20, og_75_21, og_75_22, og_75_23, og_75_24, og_75_25, og_75_26, og_75_27, og_75_28, og_75_29, og_75_30, og_75_31, og_75_32, og_75_33, og_75_34, og_75_35, og_75_36, og_75_37, og_75_38, og_75_39, og_75_40, og_75_41, ol_75, uo_75_4, uo_75_5, uo_75_6, uo_75_7, uo_75_11, uo_75_12, uo_75_13, uo_75_15, uo_75_19, uo_75_20, uo_75_21, uo_75_22, uo_75_23, uo_75_26, uo_75_30, uo_75_31, uo_75_32, uo_75_33, ua_76, ua_77, ua_78, ua_79, ua_80, ua_81, ua_82, ua_83, ua_84, ua_85, ua_86, ua_87, ua_88, ua_89, ua_90, ua_91, ua_92, ua_93, ua_94, ua_95, ua_96, ua_97, ua_98, sO_g, sA_g, sA_O, sO_A, sO_2, sM_1, sM_2, sM_3, sM_4, sM_5, sM_6, uc_75, nu_fitI, nu_fitL, nu_fitO, nu_fitA, nu_fitB0, nu_fitB1]
      exact ⟨fun _ => h0, fun z => absurd (Int32.le_refl _) z⟩
    | succ r ih =>
      intro k f94 f95 f96 hk hf
      have hcl : (nI k).toNatClampNeg = k := nI_clamp (by omega)
      have i1 := ih (k + 1) (upd f94 k (nI k)) (upd f95 k 0) (upd f96 k 0) (by omega) (fun j hj => by
        unfold upd
        by_cases e : j = k
        · rw [if_pos e, if_pos e, if_pos e, e]
          exact ⟨rfl, rfl, rfl⟩
        · rw [if_neg e, if_neg e, if_neg e]
          exact hf j (by omega))
      have e3 : sA (sA (sA (sA (sA (sA s 94 f94) 95 f95) 96 f96) 94 (upd f94 k (nI k))) 95 (upd f95 k 0)) 96 (upd f96 k 0) = sA (sA (sA s 94 (upd f94 k (nI k))) 95 (upd f95 k 0)) 96 (upd f96 k 0) := by
        refine Prod.ext (funext fun x => ?_) rfl
        show va_up (va_up (va_up (va_up (va_up (va_up s.1 94 f94) 95 f95) 96 f96) 94 _) 95 _) 96 _ x = va_up (va_up (va_up s.1 94 _) 95 _) 96 _ x
        unfold va_up
        by_cases e1 : x = 96
        · simp only [if_pos e1]
        · by_cases e2 : x = 95
          · simp only [if_neg e1, if_pos e2]
          · by_cases e4 : x = 94
            · simp only [if_neg e1, if_neg e2, if_pos e4]
            · simp only [if_neg e1, if_neg e2, if_neg e4]
      (try simp only [Option.toList_some, Option.toList_none, List.nil_append, List.append_nil, List.cons_append, Nat.sub_zero, Nat.sub_self, Nat.zero_sub]); refine Go.wp sp_146 200 ?_; simp only [↓g146_0, ↓g146_1, ↓g146_2, ↓g146_3, ↓g146_4, ↓g146_5, ↓g146_7, ↓g146_10, ↓g146_11, ↓g146_14, ↓g146_15, ↓g146_16, ↓g146_17, ↓g146_18, ↓g146_21, ↓g146_22, ↓g146_23, ↓g146_24, ↓g146_25, ↓g146_28, ↓g146_29, ↓g146_30, ↓g146_31, ↓g146_34, ↓g146_37, ↓g146_38, ↓g146_39, ↓g146_40, ↓g146_43, ↓g146_44, ↓g146_47, ↓g146_50, ↓g146_53, ↓g146_54, ↓g146_57, ↓g146_58, ↓g146_59, ↓g146_60, ↓g146_61, ↓g146_64, ↓g146_67, ↓g146_68, ↓g146_71, ↓g146_72, ↓g146_75, ↓g146_76, ↓g146_76t, ↓g146_77, ↓g146_78, ↓g146_78t, ↓g146_79, ↓g146_80, ↓g146_81, ↓g146_82, ↓g146_83, ↓g146_84, ↓g146_87, ↓g146_90, ↓g146_91, ↓g146_94, ↓g146_95, ↓g146_98, ↓g146_99, cl_143, cl_144, cl_145, cn_0, cn_1, cn_2, cn_3, cn_4, cn_5, cn_6, cn_7, cn_8, ↓Go_s, ↓GoC_a, ↓reduceIte, ↓mm_call_eq, ↓mmw_nil, ↓mmw_cons, List.take_succ_cons, List.take_zero, List.take_nil, List.drop_succ_cons, List.drop_zero, List.drop_nil, List.reverse_cons, List.reverse_nil, List.nil_append, List.cons_append, List.append_nil, Option.toList_some, Option.toList_none, Nat.sub_zero, Nat.le_refl, mmr_cons, mm_st1, mm_st2, mmi_nil, mmi_cons, mmc_I, mmc_L, mmc_R, mmu_get, mmu_one, mma_get, mma_one, List.filter_cons, List.filter_nil, List.contains_cons, List.contains_nil, Nat.reduceBEq, Nat.reduceAdd, Nat.reduceLT, Nat.reduceSub, Nat.reduceLeDiff, Nat.reduceEqDiff, Int32.reduceAdd, Bool.not_true, Bool.not_false, Bool.and_true, Bool.true_and, Bool.and_false, Bool.false_and, Bool.or_false, Bool.false_or, Bool.or_true, Bool.true_or, if_true, if_false, ite_true, ite_false, Bool.false_eq_true, List.getElem?_cons_zero, List.getElem?_cons_succ, List.length_cons, List.length_nil, true_and, and_true, List.set_cons_zero, List.set_cons_succ, Fin.isValue, Fin.val_zero, Fin.val_one, Fin.val_two, Fin.reduceFinMk, Nat.zero_add, hp_75, hp_76, hp_77, hp_78, hp_79, hp_80, hp_81, hp_82, hp_83, hp_84, hp_85, hp_86, hp_87, hp_88, hp_89, hp_90, hp_91, hp_92, hp_93, hp_94, hp_95, hp_96, hp_97, hp_98, og_75_0, og_75_1, og_75_2, og_75_3, og_75_4, og_75_5, og_75_6, og_75_7, og_75_8, og_75_9, og_75_10, og_75_11, og_75_12, og_75_13, og_75_14, og_75_15, og_75_16, og_75_17, og_75_18, og_75_19, og_75_20, og_75_21, og_75_22, og_75_23, og_75_24, og_75_25, og_75_26, og_75_27, og_75_28, og_75_29, og_75_30, og_75_31, og_75_32, og_75_33, og_75_34, og_75_35, og_75_36, og_75_37, og_75_38, og_75_39, og_75_40, og_75_41, ol_75, uo_75_4, uo_75_5, uo_75_6, uo_75_7, uo_75_11, uo_75_12, uo_75_13, uo_75_15, uo_75_19, uo_75_20, uo_75_21, uo_75_22, uo_75_23, uo_75_26, uo_75_30, uo_75_31, uo_75_32, uo_75_33, ua_76, ua_77, ua_78, ua_79, ua_80, ua_81, ua_82, ua_83, ua_84, ua_85, ua_86, ua_87, ua_88, ua_89, ua_90, ua_91, ua_92, ua_93, ua_94, ua_95, ua_96, ua_97, ua_98, sO_g, sA_g, sA_O, sO_A, sO_2, sM_1, sM_2, sM_3, sM_4, sM_5, sM_6, uc_75, hcl, nI_1, nu_fitI, nu_fitL, nu_fitO, nu_fitA, nu_fitB0, nu_fitB1]
      rw [e3]
      exact ⟨fun z => absurd z (nI_ge (b := 8) (show k < 8 by omega) (by omega)), fun _ => ⟨vp_in_nI (by omega) (by omega), vp_in_nI (by omega) (by omega), vp_in_nI (by omega) (by omega), i1⟩⟩
  refine WM.of mi_146 rfl rfl (Nat.le_of_ble_eq_true rfl) ?_
  show WP (mm_rw mr_146) (some .int) tb (WM tb (d + 4)) _ 0 [(0, vR 75)] [] (HP s) 0 0
  (try simp only [Option.toList_some, Option.toList_none, List.nil_append, List.append_nil, List.cons_append, Nat.sub_zero, Nat.sub_self, Nat.zero_sub]); refine Go.wp sp_146 200 ?_; simp only [↓g146_0, ↓g146_1, ↓g146_2, ↓g146_3, ↓g146_4, ↓g146_5, ↓g146_7, ↓g146_10, ↓g146_11, ↓g146_14, ↓g146_15, ↓g146_16, ↓g146_17, ↓g146_18, ↓g146_21, ↓g146_22, ↓g146_23, ↓g146_24, ↓g146_25, ↓g146_28, ↓g146_29, ↓g146_30, ↓g146_31, ↓g146_34, ↓g146_37, ↓g146_38, ↓g146_39, ↓g146_40, ↓g146_43, ↓g146_44, ↓g146_47, ↓g146_50, ↓g146_53, ↓g146_54, ↓g146_57, ↓g146_58, ↓g146_59, ↓g146_60, ↓g146_61, ↓g146_64, ↓g146_67, ↓g146_68, ↓g146_71, ↓g146_72, ↓g146_75, ↓g146_76, ↓g146_76t, ↓g146_77, ↓g146_78, ↓g146_78t, ↓g146_79, ↓g146_80, ↓g146_81, ↓g146_82, ↓g146_83, ↓g146_84, ↓g146_87, ↓g146_90, ↓g146_91, ↓g146_94, ↓g146_95, ↓g146_98, ↓g146_99, cl_143, cl_144, cl_145, cn_0, cn_1, cn_2, cn_3, cn_4, cn_5, cn_6, cn_7, cn_8, ↓Go_s, ↓GoC_a, ↓reduceIte, ↓mm_call_eq, ↓mmw_nil, ↓mmw_cons, List.take_succ_cons, List.take_zero, List.take_nil, List.drop_succ_cons, List.drop_zero, List.drop_nil, List.reverse_cons, List.reverse_nil, List.nil_append, List.cons_append, List.append_nil, Option.toList_some, Option.toList_none, Nat.sub_zero, Nat.le_refl, mmr_cons, mm_st1, mm_st2, mmi_nil, mmi_cons, mmc_I, mmc_L, mmc_R, mmu_get, mmu_one, mma_get, mma_one, List.filter_cons, List.filter_nil, List.contains_cons, List.contains_nil, Nat.reduceBEq, Nat.reduceAdd, Nat.reduceLT, Nat.reduceSub, Nat.reduceLeDiff, Nat.reduceEqDiff, Int32.reduceAdd, Bool.not_true, Bool.not_false, Bool.and_true, Bool.true_and, Bool.and_false, Bool.false_and, Bool.or_false, Bool.false_or, Bool.or_true, Bool.true_or, if_true, if_false, ite_true, ite_false, Bool.false_eq_true, List.getElem?_cons_zero, List.getElem?_cons_succ, List.length_cons, List.length_nil, true_and, and_true, List.set_cons_zero, List.set_cons_succ, Fin.isValue, Fin.val_zero, Fin.val_one, Fin.val_two, Fin.reduceFinMk, Nat.zero_add, hp_75, hp_76, hp_77, hp_78, hp_79, hp_80, hp_81, hp_82, hp_83, hp_84, hp_85, hp_86, hp_87, hp_88, hp_89, hp_90, hp_91, hp_92, hp_93, hp_94, hp_95, hp_96, hp_97, hp_98, og_75_0, og_75_1, og_75_2, og_75_3, og_75_4, og_75_5, og_75_6, og_75_7, og_75_8, og_75_9, og_75_10, og_75_11, og_75_12, og_75_13, og_75_14, og_75_15, og_75_16, og_75_17, og_75_18, og_75_19, og_75_20, og_75_21, og_75_22, og_75_23, og_75_24, og_75_25, og_75_26, og_75_27, og_75_28, og_75_29, og_75_30, og_75_31, og_75_32, og_75_33, og_75_34, og_75_35, og_75_36, og_75_37, og_75_38, og_75_39, og_75_40, og_75_41, ol_75, uo_75_4, uo_75_5, uo_75_6, uo_75_7, uo_75_11, uo_75_12, uo_75_13, uo_75_15, uo_75_19, uo_75_20, uo_75_21, uo_75_22, uo_75_23, uo_75_26, uo_75_30, uo_75_31, uo_75_32, uo_75_33, ua_76, ua_77, ua_78, ua_79, ua_80, ua_81, ua_82, ua_83, ua_84, ua_85, ua_86, ua_87, ua_88, ua_89, ua_90, ua_91, ua_92, ua_93, ua_94, ua_95, ua_96, ua_97, ua_98, sO_g, sA_g, sA_O, sO_A, sO_2, sM_1, sM_2, sM_3, sM_4, sM_5, sM_6, uc_75, nu_fitI, nu_fitL, nu_fitO, nu_fitA, nu_fitB0, nu_fitB1]
  have h0 := init 8 0 (s.1 94) (s.1 95) (s.1 96) (by omega) (fun j hj => absurd hj (Nat.not_lt_zero _))
  rw [show sA (sA (sA s 94 (s.1 94)) 95 (s.1 95)) 96 (s.1 96) = s by rw [sA_id s 94, sA_id s 95, sA_id s 96]] at h0
  exact h0
theorem RwM_of (hM : InvM g s) : RwM s (gN g) (gLw g) (gTo g) := ⟨hM.2.1.1, hM.2.2.1, hM.2.2.2.2.2.2.1.1, hM.2.2.2.2.2.2.1.2⟩
theorem AcM_st (hn8 : n ≤ 8) (h : AcM s n law T0 (SA n law T0)) {b : Nat} (hb : b < n) : s.1 95 b = stW n law T0 b ∧ s.1 96 b = shW n law T0 b := by
  refine ⟨wS_eq (fun i hi => ?_), wS_eq (fun i hi => ?_)⟩
  · rw [(h b hb i hi).1]
    exact ⟨fun z => ⟨by omega, z⟩, fun z => z.2⟩
  · rw [(h b hb i hi).2]
    exact ⟨fun z => ⟨by omega, z⟩, fun z => z.2⟩
theorem M_rows (hk : SgOk g) (hM : InvM g s) : WM tb (d + 6) k_M_rows [vR 75] (HP s) 0 0 (PostM g s (vI (aRows g))) := by
  obtain ⟨-, -, hlw, hn2, hn8, -, -, -, -, -, -, -, -, hT6, hT8, -, -⟩ := id hk
  refine WM.of mi_147 rfl rfl (Nat.le_of_ble_eq_true rfl) ?_
  show WP (mm_rw mr_147) (some .int) tb (WM tb (d + 5)) _ 0 [(0, vR 75)] [] (HP s) 0 0
  (try simp only [Option.toList_some, Option.toList_none, List.nil_append, List.append_nil, List.cons_append, Nat.sub_zero, Nat.sub_self, Nat.zero_sub]); refine Go.wp sp_147 200 ?_; simp only [↓g147_0, ↓g147_1, ↓g147_4, cl_146, cn_0, cn_1, cn_2, cn_3, cn_4, cn_5, cn_6, cn_7, cn_8, ↓Go_s, ↓GoC_a, ↓reduceIte, ↓mm_call_eq, ↓mmw_nil, ↓mmw_cons, List.take_succ_cons, List.take_zero, List.take_nil, List.drop_succ_cons, List.drop_zero, List.drop_nil, List.reverse_cons, List.reverse_nil, List.nil_append, List.cons_append, List.append_nil, Option.toList_some, Option.toList_none, Nat.sub_zero, Nat.le_refl, mmr_cons, mm_st1, mm_st2, mmi_nil, mmi_cons, mmc_I, mmc_L, mmc_R, mmu_get, mmu_one, mma_get, mma_one, List.filter_cons, List.filter_nil, List.contains_cons, List.contains_nil, Nat.reduceBEq, Nat.reduceAdd, Nat.reduceLT, Nat.reduceSub, Nat.reduceLeDiff, Nat.reduceEqDiff, Int32.reduceAdd, Bool.not_true, Bool.not_false, Bool.and_true, Bool.true_and, Bool.and_false, Bool.false_and, Bool.or_false, Bool.false_or, Bool.or_true, Bool.true_or, if_true, if_false, ite_true, ite_false, Bool.false_eq_true, List.getElem?_cons_zero, List.getElem?_cons_succ, List.length_cons, List.length_nil, true_and, and_true, List.set_cons_zero, List.set_cons_succ, Fin.isValue, Fin.val_zero, Fin.val_one, Fin.val_two, Fin.reduceFinMk, Nat.zero_add, hp_75, hp_76, hp_77, hp_78, hp_79, hp_80, hp_81, hp_82, hp_83, hp_84, hp_85, hp_86, hp_87, hp_88, hp_89, hp_90, hp_91, hp_92, hp_93, hp_94, hp_95, hp_96, hp_97, hp_98, og_75_0, og_75_1, og_75_2, og_75_3, og_75_4, og_75_5, og_75_6, og_75_7, og_75_8, og_75_9, og_75_10, og_75_11, og_75_12, og_75_13, og_75_14, og_75_15, og_75_16, og_75_17, og_75_18, og_75_19, og_75_20, og_75_21, og_75_22, og_75_23, og_75_24, og_75_25, og_75_26, og_75_27, og_75_28, og_75_29, og_75_30, og_75_31, og_75_32, og_75_33, og_75_34, og_75_35, og_75_36, og_75_37, og_75_38, og_75_39, og_75_40, og_75_41, ol_75, uo_75_4, uo_75_5, uo_75_6, uo_75_7, uo_75_11, uo_75_12, uo_75_13, uo_75_15, uo_75_19, uo_75_20, uo_75_21, uo_75_22, uo_75_23, uo_75_26, uo_75_30, uo_75_31, uo_75_32, uo_75_33, ua_76, ua_77, ua_78, ua_79, ua_80, ua_81, ua_82, ua_83, ua_84, ua_85, ua_86, ua_87, ua_88, ua_89, ua_90, ua_91, ua_92, ua_93, ua_94, ua_95, ua_96, ua_97, ua_98, sO_g, sA_g, sA_O, sO_A, sO_2, sM_1, sM_2, sM_3, sM_4, sM_5, sM_6, uc_75, nu_fitI, nu_fitL, nu_fitO, nu_fitA, nu_fitB0, nu_fitB1]
  refine ⟨0, 0, _, Nat.le_refl _, Nat.le_refl _, M_layRows (d := d) (RwM_of hM) hn2 hn8 hlw hT6 hT8, fun z h' hz => ?_⟩
  obtain ⟨rfl, s', rfl, mx, hA⟩ := hz
  (try simp only [Option.toList_some, Option.toList_none, List.nil_append, List.append_nil, List.cons_append, Nat.sub_zero, Nat.sub_self, Nat.zero_sub]); refine Go.wp sp_147 200 ?_; simp only [↓g147_0, ↓g147_1, ↓g147_4, cl_146, cn_0, cn_1, cn_2, cn_3, cn_4, cn_5, cn_6, cn_7, cn_8, ↓Go_s, ↓GoC_a, ↓reduceIte, ↓mm_call_eq, ↓mmw_nil, ↓mmw_cons, List.take_succ_cons, List.take_zero, List.take_nil, List.drop_succ_cons, List.drop_zero, List.drop_nil, List.reverse_cons, List.reverse_nil, List.nil_append, List.cons_append, List.append_nil, Option.toList_some, Option.toList_none, Nat.sub_zero, Nat.le_refl, mmr_cons, mm_st1, mm_st2, mmi_nil, mmi_cons, mmc_I, mmc_L, mmc_R, mmu_get, mmu_one, mma_get, mma_one, List.filter_cons, List.filter_nil, List.contains_cons, List.contains_nil, Nat.reduceBEq, Nat.reduceAdd, Nat.reduceLT, Nat.reduceSub, Nat.reduceLeDiff, Nat.reduceEqDiff, Int32.reduceAdd, Bool.not_true, Bool.not_false, Bool.and_true, Bool.true_and, Bool.and_false, Bool.false_and, Bool.or_false, Bool.false_or, Bool.or_true, Bool.true_or, if_true, if_false, ite_true, ite_false, Bool.false_eq_true, List.getElem?_cons_zero, List.getElem?_cons_succ, List.length_cons, List.length_nil, true_and, and_true, List.set_cons_zero, List.set_cons_succ, Fin.isValue, Fin.val_zero, Fin.val_one, Fin.val_two, Fin.reduceFinMk, Nat.zero_add, hp_75, hp_76, hp_77, hp_78, hp_79, hp_80, hp_81, hp_82, hp_83, hp_84, hp_85, hp_86, hp_87, hp_88, hp_89, hp_90, hp_91, hp_92, hp_93, hp_94, hp_95, hp_96, hp_97, hp_98, og_75_0, og_75_1, og_75_2, og_75_3, og_75_4, og_75_5, og_75_6, og_75_7, og_75_8, og_75_9, og_75_10, og_75_11, og_75_12, og_75_13, og_75_14, og_75_15, og_75_16, og_75_17, og_75_18, og_75_19, og_75_20, og_75_21, og_75_22, og_75_23, og_75_24, og_75_25, og_75_26, og_75_27, og_75_28, og_75_29, og_75_30, og_75_31, og_75_32, og_75_33, og_75_34, og_75_35, og_75_36, og_75_37, og_75_38, og_75_39, og_75_40, og_75_41, ol_75, uo_75_4, uo_75_5, uo_75_6, uo_75_7, uo_75_11, uo_75_12, uo_75_13, uo_75_15, uo_75_19, uo_75_20, uo_75_21, uo_75_22, uo_75_23, uo_75_26, uo_75_30, uo_75_31, uo_75_32, uo_75_33, ua_76, ua_77, ua_78, ua_79, ua_80, ua_81, ua_82, ua_83, ua_84, ua_85, ua_86, ua_87, ua_88, ua_89, ua_90, ua_91, ua_92, ua_93, ua_94, ua_95, ua_96, ua_97, ua_98, sO_g, sA_g, sA_O, sO_A, sO_2, sM_1, sM_2, sM_3, sM_4, sM_5, sM_6, uc_75, nu_fitI, nu_fitL, nu_fitO, nu_fitA, nu_fitB0, nu_fitB1]
  exact ⟨rfl, s', rfl, mx.inv (by simp) (by simp) hM, mx.agC (by simp)⟩
theorem M_stood (hk : SgOk g) (hM : InvM g s) (x : Int32) : WM tb (d + 6) k_M_stood [vR 75, vI x] (HP s) 0 0 (PostM g s (vI (aStood g x))) := by
  obtain ⟨-, -, hlw, hn2, hn8, -, -, -, -, -, -, -, -, hT6, hT8, -, -⟩ := id hk
  unfold aStood
  refine WM.of mi_148 rfl rfl (Nat.le_of_ble_eq_true rfl) ?_
  show WP (mm_rw mr_148) (some .int) tb (WM tb (d + 5)) _ 0 [(0, vR 75), (1, vI x)] [] (HP s) 0 0
  (try simp only [Option.toList_some, Option.toList_none, List.nil_append, List.append_nil, List.cons_append, Nat.sub_zero, Nat.sub_self, Nat.zero_sub]); refine Go.wp sp_148 200 ?_; simp only [↓g148_0, ↓g148_1, ↓g148_2, ↓g148_5, ↓g148_8, ↓g148_9, ↓g148_10, ↓g148_11, ↓g148_14, ↓g148_15, ↓g148_16, ↓g148_19, ↓g148_20, ↓g148_20t, ↓g148_21, cl_107, cl_146, cn_0, cn_1, cn_2, cn_3, cn_4, cn_5, cn_6, cn_7, cn_8, ↓Go_s, ↓GoC_a, ↓reduceIte, ↓mm_call_eq, ↓mmw_nil, ↓mmw_cons, List.take_succ_cons, List.take_zero, List.take_nil, List.drop_succ_cons, List.drop_zero, List.drop_nil, List.reverse_cons, List.reverse_nil, List.nil_append, List.cons_append, List.append_nil, Option.toList_some, Option.toList_none, Nat.sub_zero, Nat.le_refl, mmr_cons, mm_st1, mm_st2, mmi_nil, mmi_cons, mmc_I, mmc_L, mmc_R, mmu_get, mmu_one, mma_get, mma_one, List.filter_cons, List.filter_nil, List.contains_cons, List.contains_nil, Nat.reduceBEq, Nat.reduceAdd, Nat.reduceLT, Nat.reduceSub, Nat.reduceLeDiff, Nat.reduceEqDiff, Int32.reduceAdd, Bool.not_true, Bool.not_false, Bool.and_true, Bool.true_and, Bool.and_false, Bool.false_and, Bool.or_false, Bool.false_or, Bool.or_true, Bool.true_or, if_true, if_false, ite_true, ite_false, Bool.false_eq_true, List.getElem?_cons_zero, List.getElem?_cons_succ, List.length_cons, List.length_nil, true_and, and_true, List.set_cons_zero, List.set_cons_succ, Fin.isValue, Fin.val_zero, Fin.val_one, Fin.val_two, Fin.reduceFinMk, Nat.zero_add, hp_75, hp_76, hp_77, hp_78, hp_79, hp_80, hp_81, hp_82, hp_83, hp_84, hp_85, hp_86, hp_87, hp_88, hp_89, hp_90, hp_91, hp_92, hp_93, hp_94, hp_95, hp_96, hp_97, hp_98, og_75_0, og_75_1, og_75_2, og_75_3, og_75_4, og_75_5, og_75_6, og_75_7, og_75_8, og_75_9, og_75_10, og_75_11, og_75_12, og_75_13, og_75_14, og_75_15, og_75_16, og_75_17, og_75_18, og_75_19, og_75_20, og_75_21, og_75_22, og_75_23, og_75_24, og_75_25, og_75_26, og_75_27, og_75_28, og_75_29, og_75_30, og_75_31, og_75_32, og_75_33, og_75_34, og_75_35, og_75_36, og_75_37, og_75_38, og_75_39, og_75_40, og_75_41, ol_75, uo_75_4, uo_75_5, uo_75_6, uo_75_7, uo_75_11, uo_75_12, uo_75_13, uo_75_15, uo_75_19, uo_75_20, uo_75_21, uo_75_22, uo_75_23, uo_75_26, uo_75_30, uo_75_31, uo_75_32, uo_75_33, ua_76, ua_77, ua_78, ua_79, ua_80, ua_81, ua_82, ua_83, ua_84, ua_85, ua_86, ua_87, ua_88, ua_89, ua_90, ua_91, ua_92, ua_93, ua_94, ua_95, ua_96, ua_97, ua_98, sO_g, sA_g, sA_O, sO_A, sO_2, sM_1, sM_2, sM_3, sM_4, sM_5, sM_6, uc_75, nu_fitI, nu_fitL, nu_fitO, nu_fitA, nu_fitB0, nu_fitB1]
  refine ⟨0, 0, _, Nat.le_refl _, Nat.le_refl _, M_isBook (d := d + 3) hM.2.1.1 (by omega) (by omega) x, fun z h' hz => ?_⟩
  obtain ⟨rfl, rfl⟩ := hz
  cases hb : isB x (gN g)
  · (try simp only [Option.toList_some, Option.toList_none, List.nil_append, List.append_nil, List.cons_append, Nat.sub_zero, Nat.sub_self, Nat.zero_sub]); refine Go.wp sp_148 200 ?_; simp only [↓g148_0, ↓g148_1, ↓g148_2, ↓g148_5, ↓g148_8, ↓g148_9, ↓g148_10, ↓g148_11, ↓g148_14, ↓g148_15, ↓g148_16, ↓g148_19, ↓g148_20, ↓g148_20t, ↓g148_21, cl_107, cl_146, cn_0, cn_1, cn_2, cn_3, cn_4, cn_5, cn_6, cn_7, cn_8, ↓Go_s, ↓GoC_a, ↓reduceIte, ↓mm_call_eq, ↓mmw_nil, ↓mmw_cons, List.take_succ_cons, List.take_zero, List.take_nil, List.drop_succ_cons, List.drop_zero, List.drop_nil, List.reverse_cons, List.reverse_nil, List.nil_append, List.cons_append, List.append_nil, Option.toList_some, Option.toList_none, Nat.sub_zero, Nat.le_refl, mmr_cons, mm_st1, mm_st2, mmi_nil, mmi_cons, mmc_I, mmc_L, mmc_R, mmu_get, mmu_one, mma_get, mma_one, List.filter_cons, List.filter_nil, List.contains_cons, List.contains_nil, Nat.reduceBEq, Nat.reduceAdd, Nat.reduceLT, Nat.reduceSub, Nat.reduceLeDiff, Nat.reduceEqDiff, Int32.reduceAdd, Bool.not_true, Bool.not_false, Bool.and_true, Bool.true_and, Bool.and_false, Bool.false_and, Bool.or_false, Bool.false_or, Bool.or_true, Bool.true_or, if_true, if_false, ite_true, ite_false, Bool.false_eq_true, List.getElem?_cons_zero, List.getElem?_cons_succ, List.length_cons, List.length_nil, true_and, and_true, List.set_cons_zero, List.set_cons_succ, Fin.isValue, Fin.val_zero, Fin.val_one, Fin.val_two, Fin.reduceFinMk, Nat.zero_add, hp_75, hp_76, hp_77, hp_78, hp_79, hp_80, hp_81, hp_82, hp_83, hp_84, hp_85, hp_86, hp_87, hp_88, hp_89, hp_90, hp_91, hp_92, hp_93, hp_94, hp_95, hp_96, hp_97, hp_98, og_75_0, og_75_1, og_75_2, og_75_3, og_75_4, og_75_5, og_75_6, og_75_7, og_75_8, og_75_9, og_75_10, og_75_11, og_75_12, og_75_13, og_75_14, og_75_15, og_75_16, og_75_17, og_75_18, og_75_19, og_75_20, og_75_21, og_75_22, og_75_23, og_75_24, og_75_25, og_75_26, og_75_27, og_75_28, og_75_29, og_75_30, og_75_31, og_75_32, og_75_33, og_75_34, og_75_35, og_75_36, og_75_37, og_75_38, og_75_39, og_75_40, og_75_41, ol_75, uo_75_4, uo_75_5, uo_75_6, uo_75_7, uo_75_11, uo_75_12, uo_75_13, uo_75_15, uo_75_19, uo_75_20, uo_75_21, uo_75_22, uo_75_23, uo_75_26, uo_75_30, uo_75_31, uo_75_32, uo_75_33, ua_76, ua_77, ua_78, ua_79, ua_80, ua_81, ua_82, ua_83, ua_84, ua_85, ua_86, ua_87, ua_88, ua_89, ua_90, ua_91, ua_92, ua_93, ua_94, ua_95, ua_96, ua_97, ua_98, sO_g, sA_g, sA_O, sO_A, sO_2, sM_1, sM_2, sM_3, sM_4, sM_5, sM_6, uc_75, b01_f, nu_fitI, nu_fitL, nu_fitO, nu_fitA, nu_fitB0, nu_fitB1]
    exact ⟨fun c => absurd trivial c, fun _ => ⟨rfl, s, rfl, hM, agC.rf⟩⟩
  · obtain ⟨j, hj, rfl⟩ := isB_t (by omega) hb
    have hcl : (nI j).toNatClampNeg = j := nI_clamp (by omega)
    rw [if_pos rfl, hcl]
    (try simp only [Option.toList_some, Option.toList_none, List.nil_append, List.append_nil, List.cons_append, Nat.sub_zero, Nat.sub_self, Nat.zero_sub]); refine Go.wp sp_148 200 ?_; simp only [↓g148_0, ↓g148_1, ↓g148_2, ↓g148_5, ↓g148_8, ↓g148_9, ↓g148_10, ↓g148_11, ↓g148_14, ↓g148_15, ↓g148_16, ↓g148_19, ↓g148_20, ↓g148_20t, ↓g148_21, cl_107, cl_146, cn_0, cn_1, cn_2, cn_3, cn_4, cn_5, cn_6, cn_7, cn_8, ↓Go_s, ↓GoC_a, ↓reduceIte, ↓mm_call_eq, ↓mmw_nil, ↓mmw_cons, List.take_succ_cons, List.take_zero, List.take_nil, List.drop_succ_cons, List.drop_zero, List.drop_nil, List.reverse_cons, List.reverse_nil, List.nil_append, List.cons_append, List.append_nil, Option.toList_some, Option.toList_none, Nat.sub_zero, Nat.le_refl, mmr_cons, mm_st1, mm_st2, mmi_nil, mmi_cons, mmc_I, mmc_L, mmc_R, mmu_get, mmu_one, mma_get, mma_one, List.filter_cons, List.filter_nil, List.contains_cons, List.contains_nil, Nat.reduceBEq, Nat.reduceAdd, Nat.reduceLT, Nat.reduceSub, Nat.reduceLeDiff, Nat.reduceEqDiff, Int32.reduceAdd, Bool.not_true, Bool.not_false, Bool.and_true, Bool.true_and, Bool.and_false, Bool.false_and, Bool.or_false, Bool.false_or, Bool.or_true, Bool.true_or, if_true, if_false, ite_true, ite_false, Bool.false_eq_true, List.getElem?_cons_zero, List.getElem?_cons_succ, List.length_cons, List.length_nil, true_and, and_true, List.set_cons_zero, List.set_cons_succ, Fin.isValue, Fin.val_zero, Fin.val_one, Fin.val_two, Fin.reduceFinMk, Nat.zero_add, hp_75, hp_76, hp_77, hp_78, hp_79, hp_80, hp_81, hp_82, hp_83, hp_84, hp_85, hp_86, hp_87, hp_88, hp_89, hp_90, hp_91, hp_92, hp_93, hp_94, hp_95, hp_96, hp_97, hp_98, og_75_0, og_75_1, og_75_2, og_75_3, og_75_4, og_75_5, og_75_6, og_75_7, og_75_8, og_75_9, og_75_10, og_75_11, og_75_12, og_75_13, og_75_14, og_75_15, og_75_16, og_75_17, og_75_18, og_75_19, og_75_20, og_75_21, og_75_22, og_75_23, og_75_24, og_75_25, og_75_26, og_75_27, og_75_28, og_75_29, og_75_30, og_75_31, og_75_32, og_75_33, og_75_34, og_75_35, og_75_36, og_75_37, og_75_38, og_75_39, og_75_40, og_75_41, ol_75, uo_75_4, uo_75_5, uo_75_6, uo_75_7, uo_75_11, uo_75_12, uo_75_13, uo_75_15, uo_75_19, uo_75_20, uo_75_21, uo_75_22, uo_75_23, uo_75_26, uo_75_30, uo_75_31, uo_75_32, uo_75_33, ua_76, ua_77, ua_78, ua_79, ua_80, ua_81, ua_82, ua_83, ua_84, ua_85, ua_86, ua_87, ua_88, ua_89, ua_90, ua_91, ua_92, ua_93, ua_94, ua_95, ua_96, ua_97, ua_98, sO_g, sA_g, sA_O, sO_A, sO_2, sM_1, sM_2, sM_3, sM_4, sM_5, sM_6, uc_75, b01_t, nu_fitI, nu_fitL, nu_fitO, nu_fitA, nu_fitB0, nu_fitB1]
    refine ⟨fun _ => ⟨0, 0, _, Nat.le_refl _, Nat.le_refl _, M_layRows (d := d) (RwM_of hM) hn2 hn8 hlw hT6 hT8, fun z h' hz => ?_⟩, fun c => absurd c (by decide)⟩
    obtain ⟨rfl, s', rfl, mx, hA⟩ := hz
    have h95 := (AcM_st hn8 hA hj).1
    (try simp only [Option.toList_some, Option.toList_none, List.nil_append, List.append_nil, List.cons_append, Nat.sub_zero, Nat.sub_self, Nat.zero_sub]); refine Go.wp sp_148 200 ?_; simp only [↓g148_0, ↓g148_1, ↓g148_2, ↓g148_5, ↓g148_8, ↓g148_9, ↓g148_10, ↓g148_11, ↓g148_14, ↓g148_15, ↓g148_16, ↓g148_19, ↓g148_20, ↓g148_20t, ↓g148_21, cl_107, cl_146, cn_0, cn_1, cn_2, cn_3, cn_4, cn_5, cn_6, cn_7, cn_8, ↓Go_s, ↓GoC_a, ↓reduceIte, ↓mm_call_eq, ↓mmw_nil, ↓mmw_cons, List.take_succ_cons, List.take_zero, List.take_nil, List.drop_succ_cons, List.drop_zero, List.drop_nil, List.reverse_cons, List.reverse_nil, List.nil_append, List.cons_append, List.append_nil, Option.toList_some, Option.toList_none, Nat.sub_zero, Nat.le_refl, mmr_cons, mm_st1, mm_st2, mmi_nil, mmi_cons, mmc_I, mmc_L, mmc_R, mmu_get, mmu_one, mma_get, mma_one, List.filter_cons, List.filter_nil, List.contains_cons, List.contains_nil, Nat.reduceBEq, Nat.reduceAdd, Nat.reduceLT, Nat.reduceSub, Nat.reduceLeDiff, Nat.reduceEqDiff, Int32.reduceAdd, Bool.not_true, Bool.not_false, Bool.and_true, Bool.true_and, Bool.and_false, Bool.false_and, Bool.or_false, Bool.false_or, Bool.or_true, Bool.true_or, if_true, if_false, ite_true, ite_false, Bool.false_eq_true, List.getElem?_cons_zero, List.getElem?_cons_succ, List.length_cons, List.length_nil, true_and, and_true, List.set_cons_zero, List.set_cons_succ, Fin.isValue, Fin.val_zero, Fin.val_one, Fin.val_two, Fin.reduceFinMk, Nat.zero_add, hp_75, hp_76, hp_77, hp_78, hp_79, hp_80, hp_81, hp_82, hp_83, hp_84, hp_85, hp_86, hp_87, hp_88, hp_89, hp_90, hp_91, hp_92, hp_93, hp_94, hp_95, hp_96, hp_97, hp_98, og_75_0, og_75_1, og_75_2, og_75_3, og_75_4, og_75_5, og_75_6, og_75_7, og_75_8, og_75_9, og_75_10, og_75_11, og_75_12, og_75_13, og_75_14, og_75_15, og_75_16, og_75_17, og_75_18, og_75_19, og_75_20, og_75_21, og_75_22, og_75_23, og_75_24, og_75_25, og_75_26, og_75_27, og_75_28, og_75_29, og_75_30, og_75_31, og_75_32, og_75_33, og_75_34, og_75_35, og_75_36, og_75_37, og_75_38, og_75_39, og_75_40, og_75_41, ol_75, uo_75_4, uo_75_5, uo_75_6, uo_75_7, uo_75_11, uo_75_12, uo_75_13, uo_75_15, uo_75_19, uo_75_20, uo_75_21, uo_75_22, uo_75_23, uo_75_26, uo_75_30, uo_75_31, uo_75_32, uo_75_33, ua_76, ua_77, ua_78, ua_79, ua_80, ua_81, ua_82, ua_83, ua_84, ua_85, ua_86, ua_87, ua_88, ua_89, ua_90, ua_91, ua_92, ua_93, ua_94, ua_95, ua_96, ua_97, ua_98, sO_g, sA_g, sA_O, sO_A, sO_2, sM_1, sM_2, sM_3, sM_4, sM_5, sM_6, uc_75, hcl, h95, nu_fitI, nu_fitL, nu_fitO, nu_fitA, nu_fitB0, nu_fitB1]
    exact ⟨vp_in_nI (by omega) (by omega), rfl, s', rfl, mx.inv (by simp) (by simp) hM, mx.agC (by simp)⟩
theorem M_ones (h : AH) (W : Int32) : WM tb (d + 1) k_M_ones [vI W] h 0 0 (fun z h' => z = some (vI (nI (pcB W 8))) ∧ h' = h) := by
  have key : ∀ r k, 8 = k + r → WP (mm_rw mr_149) (some .int) tb (WM tb d) (fun z h' => z = some (vI (nI (pcB W 8))) ∧ h' = h) 4 [(0, vI W), (1, vI (nI (pcB W k))), (2, vI (nI k))] [] h 0 0 := by
    intro r
    induction r with
    | zero =>
      intro k hk
      have ek : k = 8 := by omega
      subst ek
      (try simp only [Option.toList_some, Option.toList_none, List.nil_append, List.append_nil, List.cons_append, Nat.sub_zero, Nat.sub_self, Nat.zero_sub]); refine Go.wp sp_149 200 ?_; simp only [↓g149_0, ↓g149_1, ↓g149_2, ↓g149_3, ↓g149_4, ↓g149_5, ↓g149_7, ↓g149_10, ↓g149_11, ↓g149_12, ↓g149_13, ↓g149_14, ↓g149_15, ↓g149_16, ↓g149_17, ↓g149_18, ↓g149_21, ↓g149_24, ↓g149_25, ↓Go_s, ↓GoC_a, ↓reduceIte, ↓mm_call_eq, ↓mmw_nil, ↓mmw_cons, List.take_succ_cons, List.take_zero, List.take_nil, List.drop_succ_cons, List.drop_zero, List.drop_nil, List.reverse_cons, List.reverse_nil, List.nil_append, List.cons_append, List.append_nil, Option.toList_some, Option.toList_none, Nat.sub_zero, Nat.le_refl, mmr_cons, mm_st1, mm_st2, mmi_nil, mmi_cons, mmc_I, mmc_L, mmc_R, mmu_get, mmu_one, mma_get, mma_one, List.filter_cons, List.filter_nil, List.contains_cons, List.contains_nil, Nat.reduceBEq, Nat.reduceAdd, Nat.reduceLT, Nat.reduceSub, Nat.reduceLeDiff, Nat.reduceEqDiff, Int32.reduceAdd, Bool.not_true, Bool.not_false, Bool.and_true, Bool.true_and, Bool.and_false, Bool.false_and, Bool.or_false, Bool.false_or, Bool.or_true, Bool.true_or, if_true, if_false, ite_true, ite_false, Bool.false_eq_true, List.getElem?_cons_zero, List.getElem?_cons_succ, List.length_cons, List.length_nil, true_and, and_true, List.set_cons_zero, List.set_cons_succ, Fin.isValue, Fin.val_zero, Fin.val_one, Fin.val_two, Fin.reduceFinMk, Nat.zero_add, nu_fitI, nu_fitL, nu_fitO, nu_fitA, nu_fitB0, nu_fitB1]
      exact ⟨fun _ => trivial, fun z => absurd (Int32.le_refl _) z⟩
    | succ r ih =>
      intro k hk
      have i1 := ih (k + 1) (by omega)
      have hbit := bit_of (x := W) (show k < 31 by omega)
      have e : nI (pcB W k) + (W >>> (nI k &&& 31) &&& 1) = nI (pcB W (k + 1)) := by
        rw [hbit]
        show _ = nI (pcB W k + (if bt W k = true then 1 else 0))
        by_cases c : bt W k = true
        · rw [if_pos c, if_pos c, nI_1]
        · rw [if_neg c, if_neg c]
          exact Int32.add_zero _
      (try simp only [Option.toList_some, Option.toList_none, List.nil_append, List.append_nil, List.cons_append, Nat.sub_zero, Nat.sub_self, Nat.zero_sub]); refine Go.wp sp_149 200 ?_; simp only [↓g149_0, ↓g149_1, ↓g149_2, ↓g149_3, ↓g149_4, ↓g149_5, ↓g149_7, ↓g149_10, ↓g149_11, ↓g149_12, ↓g149_13, ↓g149_14, ↓g149_15, ↓g149_16, ↓g149_17, ↓g149_18, ↓g149_21, ↓g149_24, ↓g149_25, ↓Go_s, ↓GoC_a, ↓reduceIte, ↓mm_call_eq, ↓mmw_nil, ↓mmw_cons, List.take_succ_cons, List.take_zero, List.take_nil, List.drop_succ_cons, List.drop_zero, List.drop_nil, List.reverse_cons, List.reverse_nil, List.nil_append, List.cons_append, List.append_nil, Option.toList_some, Option.toList_none, Nat.sub_zero, Nat.le_refl, mmr_cons, mm_st1, mm_st2, mmi_nil, mmi_cons, mmc_I, mmc_L, mmc_R, mmu_get, mmu_one, mma_get, mma_one, List.filter_cons, List.filter_nil, List.contains_cons, List.contains_nil, Nat.reduceBEq, Nat.reduceAdd, Nat.reduceLT, Nat.reduceSub, Nat.reduceLeDiff, Nat.reduceEqDiff, Int32.reduceAdd, Bool.not_true, Bool.not_false, Bool.and_true, Bool.true_and, Bool.and_false, Bool.false_and, Bool.or_false, Bool.false_or, Bool.or_true, Bool.true_or, if_true, if_false, ite_true, ite_false, Bool.false_eq_true, List.getElem?_cons_zero, List.getElem?_cons_succ, List.length_cons, List.length_nil, true_and, and_true, List.set_cons_zero, List.set_cons_succ, Fin.isValue, Fin.val_zero, Fin.val_one, Fin.val_two, Fin.reduceFinMk, Nat.zero_add, e, nI_1, nu_fitI, nu_fitL, nu_fitO, nu_fitA, nu_fitB0, nu_fitB1]
      exact ⟨fun z => absurd z (nI_ge (b := 8) (show k < 8 by omega) (by omega)), fun _ => i1⟩
  refine WM.of mi_149 rfl rfl (Nat.le_of_ble_eq_true rfl) ?_
  show WP (mm_rw mr_149) (some .int) tb (WM tb d) _ 0 [(0, vI W)] [] h 0 0
  (try simp only [Option.toList_some, Option.toList_none, List.nil_append, List.append_nil, List.cons_append, Nat.sub_zero, Nat.sub_self, Nat.zero_sub]); refine Go.wp sp_149 200 ?_; simp only [↓g149_0, ↓g149_1, ↓g149_2, ↓g149_3, ↓g149_4, ↓g149_5, ↓g149_7, ↓g149_10, ↓g149_11, ↓g149_12, ↓g149_13, ↓g149_14, ↓g149_15, ↓g149_16, ↓g149_17, ↓g149_18, ↓g149_21, ↓g149_24, ↓g149_25, ↓Go_s, ↓GoC_a, ↓reduceIte, ↓mm_call_eq, ↓mmw_nil, ↓mmw_cons, List.take_succ_cons, List.take_zero, List.take_nil, List.drop_succ_cons, List.drop_zero, List.drop_nil, List.reverse_cons, List.reverse_nil, List.nil_append, List.cons_append, List.append_nil, Option.toList_some, Option.toList_none, Nat.sub_zero, Nat.le_refl, mmr_cons, mm_st1, mm_st2, mmi_nil, mmi_cons, mmc_I, mmc_L, mmc_R, mmu_get, mmu_one, mma_get, mma_one, List.filter_cons, List.filter_nil, List.contains_cons, List.contains_nil, Nat.reduceBEq, Nat.reduceAdd, Nat.reduceLT, Nat.reduceSub, Nat.reduceLeDiff, Nat.reduceEqDiff, Int32.reduceAdd, Bool.not_true, Bool.not_false, Bool.and_true, Bool.true_and, Bool.and_false, Bool.false_and, Bool.or_false, Bool.false_or, Bool.or_true, Bool.true_or, if_true, if_false, ite_true, ite_false, Bool.false_eq_true, List.getElem?_cons_zero, List.getElem?_cons_succ, List.length_cons, List.length_nil, true_and, and_true, List.set_cons_zero, List.set_cons_succ, Fin.isValue, Fin.val_zero, Fin.val_one, Fin.val_two, Fin.reduceFinMk, Nat.zero_add, nu_fitI, nu_fitL, nu_fitO, nu_fitA, nu_fitB0, nu_fitB1]
  exact key 8 0 (by omega)
theorem M_next (hk : SgOk g) (hM : InvM g s) : WM tb (d + 6) k_M_next [vR 75] (HP s) 0 0 (PostM g s (vI (aNext g))) := by
  obtain ⟨-, -, hlw, hn2, hn8, -, -, -, -, -, -, -, -, hT6, hT8, -, -⟩ := id hk
  unfold aNext
  refine WM.of mi_150 rfl rfl (Nat.le_of_ble_eq_true rfl) ?_
  show WP (mm_rw mr_150) (some .int) tb (WM tb (d + 5)) _ 0 [(0, vR 75)] [] (HP s) 0 0
  (try simp only [Option.toList_some, Option.toList_none, List.nil_append, List.append_nil, List.cons_append, Nat.sub_zero, Nat.sub_self, Nat.zero_sub]); refine Go.wp sp_150 200 ?_; simp only [↓g150_0, ↓g150_1, ↓g150_4, ↓g150_7, ↓g150_9, ↓g150_10, ↓g150_11, ↓g150_12, ↓g150_13, ↓g150_14, ↓g150_15, ↓g150_16, ↓g150_19, ↓g150_22, ↓g150_23, ↓g150_26, ↓g150_27, ↓g150_27t, ↓g150_28, ↓g150_31, ↓g150_32, ↓g150_35, ↓g150_36, ↓g150_36t, ↓g150_37, ↓g150_40, ↓g150_43, ↓g150_44, ↓g150_47, ↓g150_48, ↓g150_49, ↓g150_52, ↓g150_55, ↓g150_56, cl_146, cl_149, cn_0, cn_1, cn_2, cn_3, cn_4, cn_5, cn_6, cn_7, cn_8, ↓Go_s, ↓GoC_a, ↓reduceIte, ↓mm_call_eq, ↓mmw_nil, ↓mmw_cons, List.take_succ_cons, List.take_zero, List.take_nil, List.drop_succ_cons, List.drop_zero, List.drop_nil, List.reverse_cons, List.reverse_nil, List.nil_append, List.cons_append, List.append_nil, Option.toList_some, Option.toList_none, Nat.sub_zero, Nat.le_refl, mmr_cons, mm_st1, mm_st2, mmi_nil, mmi_cons, mmc_I, mmc_L, mmc_R, mmu_get, mmu_one, mma_get, mma_one, List.filter_cons, List.filter_nil, List.contains_cons, List.contains_nil, Nat.reduceBEq, Nat.reduceAdd, Nat.reduceLT, Nat.reduceSub, Nat.reduceLeDiff, Nat.reduceEqDiff, Int32.reduceAdd, Bool.not_true, Bool.not_false, Bool.and_true, Bool.true_and, Bool.and_false, Bool.false_and, Bool.or_false, Bool.false_or, Bool.or_true, Bool.true_or, if_true, if_false, ite_true, ite_false, Bool.false_eq_true, List.getElem?_cons_zero, List.getElem?_cons_succ, List.length_cons, List.length_nil, true_and, and_true, List.set_cons_zero, List.set_cons_succ, Fin.isValue, Fin.val_zero, Fin.val_one, Fin.val_two, Fin.reduceFinMk, Nat.zero_add, hp_75, hp_76, hp_77, hp_78, hp_79, hp_80, hp_81, hp_82, hp_83, hp_84, hp_85, hp_86, hp_87, hp_88, hp_89, hp_90, hp_91, hp_92, hp_93, hp_94, hp_95, hp_96, hp_97, hp_98, og_75_0, og_75_1, og_75_2, og_75_3, og_75_4, og_75_5, og_75_6, og_75_7, og_75_8, og_75_9, og_75_10, og_75_11, og_75_12, og_75_13, og_75_14, og_75_15, og_75_16, og_75_17, og_75_18, og_75_19, og_75_20, og_75_21, og_75_22, og_75_23, og_75_24, og_75_25, og_75_26, og_75_27, og_75_28, og_75_29, og_75_30, og_75_31, og_75_32, og_75_33, og_75_34, og_75_35, og_75_36, og_75_37, og_75_38, og_75_39, og_75_40, og_75_41, ol_75, uo_75_4, uo_75_5, uo_75_6, uo_75_7, uo_75_11, uo_75_12, uo_75_13, uo_75_15, uo_75_19, uo_75_20, uo_75_21, uo_75_22, uo_75_23, uo_75_26, uo_75_30, uo_75_31, uo_75_32, uo_75_33, ua_76, ua_77, ua_78, ua_79, ua_80, ua_81, ua_82, ua_83, ua_84, ua_85, ua_86, ua_87, ua_88, ua_89, ua_90, ua_91, ua_92, ua_93, ua_94, ua_95, ua_96, ua_97, ua_98, sO_g, sA_g, sA_O, sO_A, sO_2, sM_1, sM_2, sM_3, sM_4, sM_5, sM_6, uc_75, nu_fitI, nu_fitL, nu_fitO, nu_fitA, nu_fitB0, nu_fitB1]
  refine ⟨0, 0, _, Nat.le_refl _, Nat.le_refl _, M_layRows (d := d) (RwM_of hM) hn2 hn8 hlw hT6 hT8, fun z h' hz => ?_⟩
  obtain ⟨rfl, s', rfl, mx, hA⟩ := hz
  have hM' := mx.inv (by simp) (by simp) hM
  have hC' := mx.agC (by simp)
  have h11 := hM'.2.1.1
  have hcL := cN_LP hn8 (SA (gN g) (gLw g) (gTo g))
  generalize hf : (fun b => pcB (shW (gN g) (gLw g) (gTo g) b) 8) = f
  have hf8 : ∀ b, f b ≤ 8 := fun b => by rw [← hf]; exact pcB_le _ 8
  by_cases hex : ∃ p, SA (gN g) (gLw g) (gTo g) p
  · have hpos : 0 < cN (LaP (gN g)) (SA (gN g) (gLw g) (gTo g)) := by
      rcases Nat.eq_zero_or_pos (cN (LaP (gN g)) (SA (gN g) (gLw g) (gTo g))) with z | z
      · exfalso
        obtain ⟨p, hp⟩ := hex
        have h1 : cN (LaP (gN g)) (SA (gN g) (gLw g) (gTo g)) = cN (LaP (gN g)) (fun q => (SA (gN g) (gLw g) (gTo g) q ∧ q ≠ p) ∨ q = p) := cN_cg _ (fun q _ => ⟨fun z => by
          by_cases e : q = p
          · exact Or.inr e
          · exact Or.inl ⟨z, e⟩, fun z => z.elim (fun z => z.1) (fun z => by rw [z]; exact hp)⟩)
        rw [cN_or _ (fun q h1 h2 => h1.2 h2), cN_one (p0 := p) (LaP (gN g)) (LP_all (gN g)).1 (((LP_all (gN g)).2 p).mpr hp.1) (fun q _ => Iff.rfl)] at h1
        omega
      · exact z
    have hf0 : 0 < f 0 := by rw [← hf]; exact shW_pos hn8 (by omega) hex
    have key : ∀ r k b, gN g = k + r → 1 ≤ k → b < gN g → nxK f k = (f b, nI b) → WP (mm_rw mr_150) (some .int) tb (WM tb (d + 5)) (PostM g s (vI (nxK f (gN g)).2)) 14 [(0, vR 75), (1, vI (nI b)), (2, vI (nI k))] [] (HP s') 0 0 := by
      intro r
      induction r with
      | zero =>
        intro k b hkr hk1 hb he
        have ek : k = gN g := by omega
        (try simp only [Option.toList_some, Option.toList_none, List.nil_append, List.append_nil, List.cons_append, Nat.sub_zero, Nat.sub_self, Nat.zero_sub]); refine Go.wp sp_150 200 ?_; simp only [↓g150_0, ↓g150_1, ↓g150_4, ↓g150_7, ↓g150_9, ↓g150_10, ↓g150_11, ↓g150_12, ↓g150_13, ↓g150_14, ↓g150_15, ↓g150_16, ↓g150_19, ↓g150_22, ↓g150_23, ↓g150_26, ↓g150_27, ↓g150_27t, ↓g150_28, ↓g150_31, ↓g150_32, ↓g150_35, ↓g150_36, ↓g150_36t, ↓g150_37, ↓g150_40, ↓g150_43, ↓g150_44, ↓g150_47, ↓g150_48, ↓g150_49, ↓g150_52, ↓g150_55, ↓g150_56, cl_146, cl_149, cn_0, cn_1, cn_2, cn_3, cn_4, cn_5, cn_6, cn_7, cn_8, ↓Go_s, ↓GoC_a, ↓reduceIte, ↓mm_call_eq, ↓mmw_nil, ↓mmw_cons, List.take_succ_cons, List.take_zero, List.take_nil, List.drop_succ_cons, List.drop_zero, List.drop_nil, List.reverse_cons, List.reverse_nil, List.nil_append, List.cons_append, List.append_nil, Option.toList_some, Option.toList_none, Nat.sub_zero, Nat.le_refl, mmr_cons, mm_st1, mm_st2, mmi_nil, mmi_cons, mmc_I, mmc_L, mmc_R, mmu_get, mmu_one, mma_get, mma_one, List.filter_cons, List.filter_nil, List.contains_cons, List.contains_nil, Nat.reduceBEq, Nat.reduceAdd, Nat.reduceLT, Nat.reduceSub, Nat.reduceLeDiff, Nat.reduceEqDiff, Int32.reduceAdd, Bool.not_true, Bool.not_false, Bool.and_true, Bool.true_and, Bool.and_false, Bool.false_and, Bool.or_false, Bool.false_or, Bool.or_true, Bool.true_or, if_true, if_false, ite_true, ite_false, Bool.false_eq_true, List.getElem?_cons_zero, List.getElem?_cons_succ, List.length_cons, List.length_nil, true_and, and_true, List.set_cons_zero, List.set_cons_succ, Fin.isValue, Fin.val_zero, Fin.val_one, Fin.val_two, Fin.reduceFinMk, Nat.zero_add, hp_75, hp_76, hp_77, hp_78, hp_79, hp_80, hp_81, hp_82, hp_83, hp_84, hp_85, hp_86, hp_87, hp_88, hp_89, hp_90, hp_91, hp_92, hp_93, hp_94, hp_95, hp_96, hp_97, hp_98, og_75_0, og_75_1, og_75_2, og_75_3, og_75_4, og_75_5, og_75_6, og_75_7, og_75_8, og_75_9, og_75_10, og_75_11, og_75_12, og_75_13, og_75_14, og_75_15, og_75_16, og_75_17, og_75_18, og_75_19, og_75_20, og_75_21, og_75_22, og_75_23, og_75_24, og_75_25, og_75_26, og_75_27, og_75_28, og_75_29, og_75_30, og_75_31, og_75_32, og_75_33, og_75_34, og_75_35, og_75_36, og_75_37, og_75_38, og_75_39, og_75_40, og_75_41, ol_75, uo_75_4, uo_75_5, uo_75_6, uo_75_7, uo_75_11, uo_75_12, uo_75_13, uo_75_15, uo_75_19, uo_75_20, uo_75_21, uo_75_22, uo_75_23, uo_75_26, uo_75_30, uo_75_31, uo_75_32, uo_75_33, ua_76, ua_77, ua_78, ua_79, ua_80, ua_81, ua_82, ua_83, ua_84, ua_85, ua_86, ua_87, ua_88, ua_89, ua_90, ua_91, ua_92, ua_93, ua_94, ua_95, ua_96, ua_97, ua_98, sO_g, sA_g, sA_O, sO_A, sO_2, sM_1, sM_2, sM_3, sM_4, sM_5, sM_6, uc_75, h11, nu_fitI, nu_fitL, nu_fitO, nu_fitA, nu_fitB0, nu_fitB1]
        refine ⟨fun _ => ⟨?_, s', rfl, hM', hC'⟩, fun z => absurd (nI_le (show gN g ≤ k by omega) (by omega)) z⟩
        rw [← ek, he]
      | succ r ih =>
        intro k b hkr hk1 hb he
        have hkn : k < gN g := by omega
        have hclk : (nI k).toNatClampNeg = k := nI_clamp (by omega)
        have hclb : (nI b).toNatClampNeg = b := nI_clamp (by omega)
        have h96k := (AcM_st hn8 hA hkn).2
        have h96b := (AcM_st hn8 hA hb).2
        have i2 : nxK f (k + 1) = if (nxK f k).1 < f k then (f k, nI k) else nxK f k := rfl
        rw [he] at i2
        have f1 := hf8 k
        have f2 := hf8 b
        have hfk : pcB (shW (gN g) (gLw g) (gTo g) k) 8 = f k := by rw [← hf]
        have hfb : pcB (shW (gN g) (gLw g) (gTo g) b) 8 = f b := by rw [← hf]
        (try simp only [Option.toList_some, Option.toList_none, List.nil_append, List.append_nil, List.cons_append, Nat.sub_zero, Nat.sub_self, Nat.zero_sub]); refine Go.wp sp_150 200 ?_; simp only [↓g150_0, ↓g150_1, ↓g150_4, ↓g150_7, ↓g150_9, ↓g150_10, ↓g150_11, ↓g150_12, ↓g150_13, ↓g150_14, ↓g150_15, ↓g150_16, ↓g150_19, ↓g150_22, ↓g150_23, ↓g150_26, ↓g150_27, ↓g150_27t, ↓g150_28, ↓g150_31, ↓g150_32, ↓g150_35, ↓g150_36, ↓g150_36t, ↓g150_37, ↓g150_40, ↓g150_43, ↓g150_44, ↓g150_47, ↓g150_48, ↓g150_49, ↓g150_52, ↓g150_55, ↓g150_56, cl_146, cl_149, cn_0, cn_1, cn_2, cn_3, cn_4, cn_5, cn_6, cn_7, cn_8, ↓Go_s, ↓GoC_a, ↓reduceIte, ↓mm_call_eq, ↓mmw_nil, ↓mmw_cons, List.take_succ_cons, List.take_zero, List.take_nil, List.drop_succ_cons, List.drop_zero, List.drop_nil, List.reverse_cons, List.reverse_nil, List.nil_append, List.cons_append, List.append_nil, Option.toList_some, Option.toList_none, Nat.sub_zero, Nat.le_refl, mmr_cons, mm_st1, mm_st2, mmi_nil, mmi_cons, mmc_I, mmc_L, mmc_R, mmu_get, mmu_one, mma_get, mma_one, List.filter_cons, List.filter_nil, List.contains_cons, List.contains_nil, Nat.reduceBEq, Nat.reduceAdd, Nat.reduceLT, Nat.reduceSub, Nat.reduceLeDiff, Nat.reduceEqDiff, Int32.reduceAdd, Bool.not_true, Bool.not_false, Bool.and_true, Bool.true_and, Bool.and_false, Bool.false_and, Bool.or_false, Bool.false_or, Bool.or_true, Bool.true_or, if_true, if_false, ite_true, ite_false, Bool.false_eq_true, List.getElem?_cons_zero, List.getElem?_cons_succ, List.length_cons, List.length_nil, true_and, and_true, List.set_cons_zero, List.set_cons_succ, Fin.isValue, Fin.val_zero, Fin.val_one, Fin.val_two, Fin.reduceFinMk, Nat.zero_add, hp_75, hp_76, hp_77, hp_78, hp_79, hp_80, hp_81, hp_82, hp_83, hp_84, hp_85, hp_86, hp_87, hp_88, hp_89, hp_90, hp_91, hp_92, hp_93, hp_94, hp_95, hp_96, hp_97, hp_98, og_75_0, og_75_1, og_75_2, og_75_3, og_75_4, og_75_5, og_75_6, og_75_7, og_75_8, og_75_9, og_75_10, og_75_11, og_75_12, og_75_13, og_75_14, og_75_15, og_75_16, og_75_17, og_75_18, og_75_19, og_75_20, og_75_21, og_75_22, og_75_23, og_75_24, og_75_25, og_75_26, og_75_27, og_75_28, og_75_29, og_75_30, og_75_31, og_75_32, og_75_33, og_75_34, og_75_35, og_75_36, og_75_37, og_75_38, og_75_39, og_75_40, og_75_41, ol_75, uo_75_4, uo_75_5, uo_75_6, uo_75_7, uo_75_11, uo_75_12, uo_75_13, uo_75_15, uo_75_19, uo_75_20, uo_75_21, uo_75_22, uo_75_23, uo_75_26, uo_75_30, uo_75_31, uo_75_32, uo_75_33, ua_76, ua_77, ua_78, ua_79, ua_80, ua_81, ua_82, ua_83, ua_84, ua_85, ua_86, ua_87, ua_88, ua_89, ua_90, ua_91, ua_92, ua_93, ua_94, ua_95, ua_96, ua_97, ua_98, sO_g, sA_g, sA_O, sO_A, sO_2, sM_1, sM_2, sM_3, sM_4, sM_5, sM_6, uc_75, h11, hclk, h96k, nu_fitI, nu_fitL, nu_fitO, nu_fitA, nu_fitB0, nu_fitB1]
        refine ⟨fun z => absurd z (nI_ge hkn (by omega)), fun _ => ⟨vp_in_nI (by omega) (by omega), 0, 0, _, Nat.le_refl _, Nat.le_refl _, M_ones (d := d + 4) _ _, fun z h' hz => ?_⟩⟩
        obtain ⟨rfl, rfl⟩ := hz
        rw [hfk]
        (try simp only [Option.toList_some, Option.toList_none, List.nil_append, List.append_nil, List.cons_append, Nat.sub_zero, Nat.sub_self, Nat.zero_sub]); refine Go.wp sp_150 200 ?_; simp only [↓g150_0, ↓g150_1, ↓g150_4, ↓g150_7, ↓g150_9, ↓g150_10, ↓g150_11, ↓g150_12, ↓g150_13, ↓g150_14, ↓g150_15, ↓g150_16, ↓g150_19, ↓g150_22, ↓g150_23, ↓g150_26, ↓g150_27, ↓g150_27t, ↓g150_28, ↓g150_31, ↓g150_32, ↓g150_35, ↓g150_36, ↓g150_36t, ↓g150_37, ↓g150_40, ↓g150_43, ↓g150_44, ↓g150_47, ↓g150_48, ↓g150_49, ↓g150_52, ↓g150_55, ↓g150_56, cl_146, cl_149, cn_0, cn_1, cn_2, cn_3, cn_4, cn_5, cn_6, cn_7, cn_8, ↓Go_s, ↓GoC_a, ↓reduceIte, ↓mm_call_eq, ↓mmw_nil, ↓mmw_cons, List.take_succ_cons, List.take_zero, List.take_nil, List.drop_succ_cons, List.drop_zero, List.drop_nil, List.reverse_cons, List.reverse_nil, List.nil_append, List.cons_append, List.append_nil, Option.toList_some, Option.toList_none, Nat.sub_zero, Nat.le_refl, mmr_cons, mm_st1, mm_st2, mmi_nil, mmi_cons, mmc_I, mmc_L, mmc_R, mmu_get, mmu_one, mma_get, mma_one, List.filter_cons, List.filter_nil, List.contains_cons, List.contains_nil, Nat.reduceBEq, Nat.reduceAdd, Nat.reduceLT, Nat.reduceSub, Nat.reduceLeDiff, Nat.reduceEqDiff, Int32.reduceAdd, Bool.not_true, Bool.not_false, Bool.and_true, Bool.true_and, Bool.and_false, Bool.false_and, Bool.or_false, Bool.false_or, Bool.or_true, Bool.true_or, if_true, if_false, ite_true, ite_false, Bool.false_eq_true, List.getElem?_cons_zero, List.getElem?_cons_succ, List.length_cons, List.length_nil, true_and, and_true, List.set_cons_zero, List.set_cons_succ, Fin.isValue, Fin.val_zero, Fin.val_one, Fin.val_two, Fin.reduceFinMk, Nat.zero_add, hp_75, hp_76, hp_77, hp_78, hp_79, hp_80, hp_81, hp_82, hp_83, hp_84, hp_85, hp_86, hp_87, hp_88, hp_89, hp_90, hp_91, hp_92, hp_93, hp_94, hp_95, hp_96, hp_97, hp_98, og_75_0, og_75_1, og_75_2, og_75_3, og_75_4, og_75_5, og_75_6, og_75_7, og_75_8, og_75_9, og_75_10, og_75_11, og_75_12, og_75_13, og_75_14, og_75_15, og_75_16, og_75_17, og_75_18, og_75_19, og_75_20, og_75_21, og_75_22, og_75_23, og_75_24, og_75_25, og_75_26, og_75_27, og_75_28, og_75_29, og_75_30, og_75_31, og_75_32, og_75_33, og_75_34, og_75_35, og_75_36, og_75_37, og_75_38, og_75_39, og_75_40, og_75_41, ol_75, uo_75_4, uo_75_5, uo_75_6, uo_75_7, uo_75_11, uo_75_12, uo_75_13, uo_75_15, uo_75_19, uo_75_20, uo_75_21, uo_75_22, uo_75_23, uo_75_26, uo_75_30, uo_75_31, uo_75_32, uo_75_33, ua_76, ua_77, ua_78, ua_79, ua_80, ua_81, ua_82, ua_83, ua_84, ua_85, ua_86, ua_87, ua_88, ua_89, ua_90, ua_91, ua_92, ua_93, ua_94, ua_95, ua_96, ua_97, ua_98, sO_g, sA_g, sA_O, sO_A, sO_2, sM_1, sM_2, sM_3, sM_4, sM_5, sM_6, uc_75, hclb, h96b, nu_fitI, nu_fitL, nu_fitO, nu_fitA, nu_fitB0, nu_fitB1]
        refine ⟨vp_in_nI (by omega) (by omega), 0, 0, _, Nat.le_refl _, Nat.le_refl _, M_ones (d := d + 4) _ _, fun z h' hz => ?_⟩
        obtain ⟨rfl, rfl⟩ := hz
        rw [hfb]
        (try simp only [Option.toList_some, Option.toList_none, List.nil_append, List.append_nil, List.cons_append, Nat.sub_zero, Nat.sub_self, Nat.zero_sub]); refine Go.wp sp_150 200 ?_; simp only [↓g150_0, ↓g150_1, ↓g150_4, ↓g150_7, ↓g150_9, ↓g150_10, ↓g150_11, ↓g150_12, ↓g150_13, ↓g150_14, ↓g150_15, ↓g150_16, ↓g150_19, ↓g150_22, ↓g150_23, ↓g150_26, ↓g150_27, ↓g150_27t, ↓g150_28, ↓g150_31, ↓g150_32, ↓g150_35, ↓g150_36, ↓g150_36t, ↓g150_37, ↓g150_40, ↓g150_43, ↓g150_44, ↓g150_47, ↓g150_48, ↓g150_49, ↓g150_52, ↓g150_55, ↓g150_56, cl_146, cl_149, cn_0, cn_1, cn_2, cn_3, cn_4, cn_5, cn_6, cn_7, cn_8, ↓Go_s, ↓GoC_a, ↓reduceIte, ↓mm_call_eq, ↓mmw_nil, ↓mmw_cons, List.take_succ_cons, List.take_zero, List.take_nil, List.drop_succ_cons, List.drop_zero, List.drop_nil, List.reverse_cons, List.reverse_nil, List.nil_append, List.cons_append, List.append_nil, Option.toList_some, Option.toList_none, Nat.sub_zero, Nat.le_refl, mmr_cons, mm_st1, mm_st2, mmi_nil, mmi_cons, mmc_I, mmc_L, mmc_R, mmu_get, mmu_one, mma_get, mma_one, List.filter_cons, List.filter_nil, List.contains_cons, List.contains_nil, Nat.reduceBEq, Nat.reduceAdd, Nat.reduceLT, Nat.reduceSub, Nat.reduceLeDiff, Nat.reduceEqDiff, Int32.reduceAdd, Bool.not_true, Bool.not_false, Bool.and_true, Bool.true_and, Bool.and_false, Bool.false_and, Bool.or_false, Bool.false_or, Bool.or_true, Bool.true_or, if_true, if_false, ite_true, ite_false, Bool.false_eq_true, List.getElem?_cons_zero, List.getElem?_cons_succ, List.length_cons, List.length_nil, true_and, and_true, List.set_cons_zero, List.set_cons_succ, Fin.isValue, Fin.val_zero, Fin.val_one, Fin.val_two, Fin.reduceFinMk, Nat.zero_add, hp_75, hp_76, hp_77, hp_78, hp_79, hp_80, hp_81, hp_82, hp_83, hp_84, hp_85, hp_86, hp_87, hp_88, hp_89, hp_90, hp_91, hp_92, hp_93, hp_94, hp_95, hp_96, hp_97, hp_98, og_75_0, og_75_1, og_75_2, og_75_3, og_75_4, og_75_5, og_75_6, og_75_7, og_75_8, og_75_9, og_75_10, og_75_11, og_75_12, og_75_13, og_75_14, og_75_15, og_75_16, og_75_17, og_75_18, og_75_19, og_75_20, og_75_21, og_75_22, og_75_23, og_75_24, og_75_25, og_75_26, og_75_27, og_75_28, og_75_29, og_75_30, og_75_31, og_75_32, og_75_33, og_75_34, og_75_35, og_75_36, og_75_37, og_75_38, og_75_39, og_75_40, og_75_41, ol_75, uo_75_4, uo_75_5, uo_75_6, uo_75_7, uo_75_11, uo_75_12, uo_75_13, uo_75_15, uo_75_19, uo_75_20, uo_75_21, uo_75_22, uo_75_23, uo_75_26, uo_75_30, uo_75_31, uo_75_32, uo_75_33, ua_76, ua_77, ua_78, ua_79, ua_80, ua_81, ua_82, ua_83, ua_84, ua_85, ua_86, ua_87, ua_88, ua_89, ua_90, ua_91, ua_92, ua_93, ua_94, ua_95, ua_96, ua_97, ua_98, sO_g, sA_g, sA_O, sO_A, sO_2, sM_1, sM_2, sM_3, sM_4, sM_5, sM_6, uc_75, nI_1, nu_fitI, nu_fitL, nu_fitO, nu_fitA, nu_fitB0, nu_fitB1]
        rw [nI_leI (by omega) (by omega)]
        refine ⟨fun z => ?_, fun z => ?_⟩
        · rw [if_neg (show ¬ (f b, nI b).1 < f k from Nat.not_lt.mpr z)] at i2
          exact ih (k + 1) b (by omega) (by omega) hb i2
        · rw [if_pos (show (f b, nI b).1 < f k from Nat.not_le.mp z)] at i2
          exact ih (k + 1) k (by omega) (by omega) hkn i2
    (try simp only [Option.toList_some, Option.toList_none, List.nil_append, List.append_nil, List.cons_append, Nat.sub_zero, Nat.sub_self, Nat.zero_sub]); refine Go.wp sp_150 200 ?_; simp only [↓g150_0, ↓g150_1, ↓g150_4, ↓g150_7, ↓g150_9, ↓g150_10, ↓g150_11, ↓g150_12, ↓g150_13, ↓g150_14, ↓g150_15, ↓g150_16, ↓g150_19, ↓g150_22, ↓g150_23, ↓g150_26, ↓g150_27, ↓g150_27t, ↓g150_28, ↓g150_31, ↓g150_32, ↓g150_35, ↓g150_36, ↓g150_36t, ↓g150_37, ↓g150_40, ↓g150_43, ↓g150_44, ↓g150_47, ↓g150_48, ↓g150_49, ↓g150_52, ↓g150_55, ↓g150_56, cl_146, cl_149, cn_0, cn_1, cn_2, cn_3, cn_4, cn_5, cn_6, cn_7, cn_8, ↓Go_s, ↓GoC_a, ↓reduceIte, ↓mm_call_eq, ↓mmw_nil, ↓mmw_cons, List.take_succ_cons, List.take_zero, List.take_nil, List.drop_succ_cons, List.drop_zero, List.drop_nil, List.reverse_cons, List.reverse_nil, List.nil_append, List.cons_append, List.append_nil, Option.toList_some, Option.toList_none, Nat.sub_zero, Nat.le_refl, mmr_cons, mm_st1, mm_st2, mmi_nil, mmi_cons, mmc_I, mmc_L, mmc_R, mmu_get, mmu_one, mma_get, mma_one, List.filter_cons, List.filter_nil, List.contains_cons, List.contains_nil, Nat.reduceBEq, Nat.reduceAdd, Nat.reduceLT, Nat.reduceSub, Nat.reduceLeDiff, Nat.reduceEqDiff, Int32.reduceAdd, Bool.not_true, Bool.not_false, Bool.and_true, Bool.true_and, Bool.and_false, Bool.false_and, Bool.or_false, Bool.false_or, Bool.or_true, Bool.true_or, if_true, if_false, ite_true, ite_false, Bool.false_eq_true, List.getElem?_cons_zero, List.getElem?_cons_succ, List.length_cons, List.length_nil, true_and, and_true, List.set_cons_zero, List.set_cons_succ, Fin.isValue, Fin.val_zero, Fin.val_one, Fin.val_two, Fin.reduceFinMk, Nat.zero_add, hp_75, hp_76, hp_77, hp_78, hp_79, hp_80, hp_81, hp_82, hp_83, hp_84, hp_85, hp_86, hp_87, hp_88, hp_89, hp_90, hp_91, hp_92, hp_93, hp_94, hp_95, hp_96, hp_97, hp_98, og_75_0, og_75_1, og_75_2, og_75_3, og_75_4, og_75_5, og_75_6, og_75_7, og_75_8, og_75_9, og_75_10, og_75_11, og_75_12, og_75_13, og_75_14, og_75_15, og_75_16, og_75_17, og_75_18, og_75_19, og_75_20, og_75_21, og_75_22, og_75_23, og_75_24, og_75_25, og_75_26, og_75_27, og_75_28, og_75_29, og_75_30, og_75_31, og_75_32, og_75_33, og_75_34, og_75_35, og_75_36, og_75_37, og_75_38, og_75_39, og_75_40, og_75_41, ol_75, uo_75_4, uo_75_5, uo_75_6, uo_75_7, uo_75_11, uo_75_12, uo_75_13, uo_75_15, uo_75_19, uo_75_20, uo_75_21, uo_75_22, uo_75_23, uo_75_26, uo_75_30, uo_75_31, uo_75_32, uo_75_33, ua_76, ua_77, ua_78, ua_79, ua_80, ua_81, ua_82, ua_83, ua_84, ua_85, ua_86, ua_87, ua_88, ua_89, ua_90, ua_91, ua_92, ua_93, ua_94, ua_95, ua_96, ua_97, ua_98, sO_g, sA_g, sA_O, sO_A, sO_2, sM_1, sM_2, sM_3, sM_4, sM_5, sM_6, uc_75, nu_fitI, nu_fitL, nu_fitO, nu_fitA, nu_fitB0, nu_fitB1]
    refine ⟨fun _ => ?_, fun z => absurd z (nI_ne0 hpos (by omega))⟩
    refine key (gN g - 1) 1 0 (by omega) (by omega) (by omega) ?_
    show (if (0 : Nat) < f 0 then (f 0, nI 0) else (0, mI 9)) = _
    rw [if_pos hf0]
  · have h0 : cN (LaP (gN g)) (SA (gN g) (gLw g) (gTo g)) = 0 := cN_no _ (fun q _ z => hex ⟨q, z⟩)
    have hf0 : ∀ b, f b = 0 := fun b => by rw [← hf]; exact shW_no hex
    have hn : ∀ k, nxK f k = (0, mI 9) := by
      intro k
      induction k with
      | zero => rfl
      | succ k ih =>
        show (if (nxK f k).1 < f k then (f k, nI k) else nxK f k) = _
        rw [hf0 k, if_neg (Nat.not_lt_zero _), ih]
    rw [h0, hn]
    (try simp only [Option.toList_some, Option.toList_none, List.nil_append, List.append_nil, List.cons_append, Nat.sub_zero, Nat.sub_self, Nat.zero_sub]); refine Go.wp sp_150 200 ?_; simp only [↓g150_0, ↓g150_1, ↓g150_4, ↓g150_7, ↓g150_9, ↓g150_10, ↓g150_11, ↓g150_12, ↓g150_13, ↓g150_14, ↓g150_15, ↓g150_16, ↓g150_19, ↓g150_22, ↓g150_23, ↓g150_26, ↓g150_27, ↓g150_27t, ↓g150_28, ↓g150_31, ↓g150_32, ↓g150_35, ↓g150_36, ↓g150_36t, ↓g150_37, ↓g150_40, ↓g150_43, ↓g150_44, ↓g150_47, ↓g150_48, ↓g150_49, ↓g150_52, ↓g150_55, ↓g150_56, cl_146, cl_149, cn_0, cn_1, cn_2, cn_3, cn_4, cn_5, cn_6, cn_7, cn_8, ↓Go_s, ↓GoC_a, ↓reduceIte, ↓mm_call_eq, ↓mmw_nil, ↓mmw_cons, List.take_succ_cons, List.take_zero, List.take_nil, List.drop_succ_cons, List.drop_zero, List.drop_nil, List.reverse_cons, List.reverse_nil, List.nil_append, List.cons_append, List.append_nil, Option.toList_some, Option.toList_none, Nat.sub_zero, Nat.le_refl, mmr_cons, mm_st1, mm_st2, mmi_nil, mmi_cons, mmc_I, mmc_L, mmc_R, mmu_get, mmu_one, mma_get, mma_one, List.filter_cons, List.filter_nil, List.contains_cons, List.contains_nil, Nat.reduceBEq, Nat.reduceAdd, Nat.reduceLT, Nat.reduceSub, Nat.reduceLeDiff, Nat.reduceEqDiff, Int32.reduceAdd, Bool.not_true, Bool.not_false, Bool.and_true, Bool.true_and, Bool.and_false, Bool.false_and, Bool.or_false, Bool.false_or, Bool.or_true, Bool.true_or, if_true, if_false, ite_true, ite_false, Bool.false_eq_true, List.getElem?_cons_zero, List.getElem?_cons_succ, List.length_cons, List.length_nil, true_and, and_true, List.set_cons_zero, List.set_cons_succ, Fin.isValue, Fin.val_zero, Fin.val_one, Fin.val_two, Fin.reduceFinMk, Nat.zero_add, hp_75, hp_76, hp_77, hp_78, hp_79, hp_80, hp_81, hp_82, hp_83, hp_84, hp_85, hp_86, hp_87, hp_88, hp_89, hp_90, hp_91, hp_92, hp_93, hp_94, hp_95, hp_96, hp_97, hp_98, og_75_0, og_75_1, og_75_2, og_75_3, og_75_4, og_75_5, og_75_6, og_75_7, og_75_8, og_75_9, og_75_10, og_75_11, og_75_12, og_75_13, og_75_14, og_75_15, og_75_16, og_75_17, og_75_18, og_75_19, og_75_20, og_75_21, og_75_22, og_75_23, og_75_24, og_75_25, og_75_26, og_75_27, og_75_28, og_75_29, og_75_30, og_75_31, og_75_32, og_75_33, og_75_34, og_75_35, og_75_36, og_75_37, og_75_38, og_75_39, og_75_40, og_75_41, ol_75, uo_75_4, uo_75_5, uo_75_6, uo_75_7, uo_75_11, uo_75_12, uo_75_13, uo_75_15, uo_75_19, uo_75_20, uo_75_21, uo_75_22, uo_75_23, uo_75_26, uo_75_30, uo_75_31, uo_75_32, uo_75_33, ua_76, ua_77, ua_78, ua_79, ua_80, ua_81, ua_82, ua_83, ua_84, ua_85, ua_86, ua_87, ua_88, ua_89, ua_90, ua_91, ua_92, ua_93, ua_94, ua_95, ua_96, ua_97, ua_98, sO_g, sA_g, sA_O, sO_A, sO_2, sM_1, sM_2, sM_3, sM_4, sM_5, sM_6, uc_75, nu_fitI, nu_fitL, nu_fitO, nu_fitA, nu_fitB0, nu_fitB1]
    exact ⟨fun z => absurd rfl z, fun _ => ⟨rfl, s', rfl, hM', hC'⟩⟩
end ROWSM
