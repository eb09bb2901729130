/-! the model's rows -/
def Ar (f : Nat → Int32) (xs : List Nat) : Prop := ∀ j, j < xs.length → f j = nI (xs.getD j 0)
theorem Ar.snoc {f : Nat → Int32} {xs : List Nat} (h : Ar f xs) {k : Nat} : Ar f (xs.take k) := by
  intro j hj
  rw [List.length_take] at hj
  rw [h j (by omega), List.getD_eq_getElem?_getD, List.getD_eq_getElem?_getD, List.getElem?_take, if_pos (by omega)]
theorem lPl_snoc {ys : List Nat} {x v : Nat} (hn : x ∉ ys) : lPl (ys ++ [x]) v = if x = v then nI ys.length else lPl ys v := by
  unfold lPl
  by_cases e : x = v
  · subst e
    rw [if_pos rfl, if_pos (by simp), List.idxOf_append, if_neg hn]
    simp
  · rw [if_neg e]
    by_cases hm : v ∈ ys
    · rw [if_pos (by simp [hm]), if_pos hm, List.idxOf_append, if_pos hm]
    · rw [if_neg (by simp [hm, Ne.symm e]), if_neg hm]
theorem nodup_take_get {xs : List Nat} (hn : xs.Nodup) {k : Nat} (hk : k < xs.length) : xs.getD k 0 ∉ xs.take k := by
  have h1 : (xs.take (k + 1)).Nodup := hn.sublist (List.take_sublist _ _)
  rw [take_snoc hk] at h1
  intro hm
  exact (List.nodup_append.mp h1).2.2 _ hm _ List.mem_cons_self rfl
abbrev sp_109 : List Nat := [6]
section G109
variable {tb : Nat → Nat × (Nat → Int32)} {call : CO} {Q : AQ} {C : CP} {lv : AL} {st : List AV} {h : AH} {kc ks : Nat}
theorem g109_0  : mm_step (mm_rw mr_109) (some .int) tb call Q C 0 lv st h kc ks = (C 2 lv (vI (mI 9) :: st) h kc ks) := rfl
theorem g109_2 (a : Int32) : mm_step (mm_rw mr_109) (some .int) tb call Q C 2 lv (.inl a :: st) h kc ks = (C 3 (mm_st1 lv 3 (vI a)) st h kc ks) := rfl
theorem g109_3  : mm_step (mm_rw mr_109) (some .int) tb call Q C 3 lv st h kc ks = (C 4 lv (vI 0 :: st) h kc ks) := rfl
theorem g109_4 (a : Int32) : mm_step (mm_rw mr_109) (some .int) tb call Q C 4 lv (.inl a :: st) h kc ks = (C 6 (mm_st1 lv 4 (vI a)) st h kc ks) := rfl
theorem g109_6  : mm_step (mm_rw mr_109) (some .int) tb call Q C 6 lv st h kc ks = (match mm_rd lv 4 with
    | some (.inl a) => C 8 lv (vI a :: st) h kc ks
    | _ => False) := rfl
theorem g109_8  : mm_step (mm_rw mr_109) (some .int) tb call Q C 8 lv st h kc ks = (match mm_rd lv 1 with
    | some (.inl a) => C 9 lv (vI a :: st) h kc ks
    | _ => False) := rfl
theorem g109_9 (a b : Int32) : mm_step (mm_rw mr_109) (some .int) tb call Q C 9 lv (.inl b :: .inl a :: st) h kc ks = ((b ≤ a → C 33 lv st h kc ks) ∧ (¬ b ≤ a → C 12 lv st h kc ks)) := rfl
theorem g109_12  : mm_step (mm_rw mr_109) (some .int) tb call Q C 12 lv st h kc ks = (match mm_rd lv 0 with
    | some (.inr (.inr (.inl (some k)))) => C 13 lv (vR k :: st) h kc ks
    | some (.inr (.inr (.inr t))) => C 13 lv (vT t :: st) h kc ks
    | _ => False) := rfl
theorem g109_13  : mm_step (mm_rw mr_109) (some .int) tb call Q C 13 lv st h kc ks = (match mm_rd lv 4 with
    | some (.inl a) => C 15 lv (vI a :: st) h kc ks
    | _ => False) := rfl
theorem g109_15 (i : Int32) (k : Nat) : mm_step (mm_rw mr_109) (some .int) tb call Q C 15 lv (.inl i :: .inr (.inr (.inl (some k))) :: st) h kc ks = (match h.2 k with
    | some (.inl (.int, n, f)) => vp_in i n ∧ C 16 lv (vI (f i.toNatClampNeg) :: st) h kc ks
    | _ => False) := rfl
theorem g109_15t (i : Int32) (t : Nat) : mm_step (mm_rw mr_109) (some .int) tb call Q C 15 lv (.inl i :: .inr (.inr (.inr t)) :: st) h kc ks = (vp_in i (tb t).1 ∧ C 16 lv (vI ((tb t).2 i.toNatClampNeg) :: st) h kc ks) := rfl
theorem g109_16  : mm_step (mm_rw mr_109) (some .int) tb call Q C 16 lv st h kc ks = (match mm_rd lv 2 with
    | some (.inl a) => C 17 lv (vI a :: st) h kc ks
    | _ => False) := rfl
theorem g109_17 (a b : Int32) : mm_step (mm_rw mr_109) (some .int) tb call Q C 17 lv (.inl b :: .inl a :: st) h kc ks = ((¬ a = b → C 25 lv st h kc ks) ∧ (a = b → C 20 lv st h kc ks)) := rfl
theorem g109_20  : mm_step (mm_rw mr_109) (some .int) tb call Q C 20 lv st h kc ks = (match mm_rd lv 4 with
    | some (.inl a) => C 22 lv (vI a :: st) h kc ks
    | _ => False) := rfl
theorem g109_22  : mm_step (mm_rw mr_109) (some .int) tb call Q C 22 lv st h kc ks = (C 26 lv st h kc ks) := rfl
theorem g109_25  : mm_step (mm_rw mr_109) (some .int) tb call Q C 25 lv st h kc ks = (match mm_rd lv 3 with
    | some (.inl a) => C 26 lv (vI a :: st) h kc ks
    | _ => False) := rfl
theorem g109_26 (a : Int32) : mm_step (mm_rw mr_109) (some .int) tb call Q C 26 lv (.inl a :: st) h kc ks = (C 27 (mm_st1 lv 3 (vI a)) st h kc ks) := rfl
theorem g109_27  : mm_step (mm_rw mr_109) (some .int) tb call Q C 27 lv st h kc ks = (match mm_rd lv 4 with
    | some (.inl a) => C 30 (mm_st1 lv 4 (vI (a + 1))) st h kc ks
    | _ => False) := rfl
theorem g109_30  : mm_step (mm_rw mr_109) (some .int) tb call Q C 30 lv st h kc ks = (C 6 lv st h kc ks) := rfl
theorem g109_33  : mm_step (mm_rw mr_109) (some .int) tb call Q C 33 lv st h kc ks = (match mm_rd lv 3 with
    | some (.inl a) => C 34 lv (vI a :: st) h kc ks
    | _ => False) := rfl
theorem g109_34 (v : Int32) : mm_step (mm_rw mr_109) (some .int) tb call Q C 34 lv [.inl v] h kc ks = (True ∧ Q (some (vI v)) h) := rfl
end G109

abbrev sp_117 : List Nat := [7]
section G117
variable {tb : Nat → Nat × (Nat → Int32)} {call : CO} {Q : AQ} {C : CP} {lv : AL} {st : List AV} {h : AH} {kc ks : Nat}
theorem g117_0  : mm_step (mm_rw mr_117) (some .int) tb call Q C 0 lv st h kc ks = (match mm_rd lv 0 with
    | some (.inr (.inr (.inl (some k)))) => C 1 lv (vR k :: st) h kc ks
    | some (.inr (.inr (.inr t))) => C 1 lv (vT t :: st) h kc ks
    | _ => False) := rfl
theorem g117_1  : mm_step (mm_rw mr_117) (some .int) tb call Q C 1 lv st h kc ks = (match mm_rd lv 2 with
    | some (.inl a) => C 2 lv (vI a :: st) h kc ks
    | _ => False) := rfl
theorem g117_2 (i : Int32) (k : Nat) : mm_step (mm_rw mr_117) (some .int) tb call Q C 2 lv (.inl i :: .inr (.inr (.inl (some k))) :: st) h kc ks = (match h.2 k with
    | some (.inl (.int, n, f)) => vp_in i n ∧ C 3 lv (vI (f i.toNatClampNeg) :: st) h kc ks
    | _ => False) := rfl
theorem g117_2t (i : Int32) (t : Nat) : mm_step (mm_rw mr_117) (some .int) tb call Q C 2 lv (.inl i :: .inr (.inr (.inr t)) :: st) h kc ks = (vp_in i (tb t).1 ∧ C 3 lv (vI ((tb t).2 i.toNatClampNeg) :: st) h kc ks) := rfl
theorem g117_3 (a : Int32) : mm_step (mm_rw mr_117) (some .int) tb call Q C 3 lv (.inl a :: st) h kc ks = (C 4 (mm_st1 lv 3 (vI a)) st h kc ks) := rfl
theorem g117_4  : mm_step (mm_rw mr_117) (some .int) tb call Q C 4 lv st h kc ks = (match mm_rd lv 2 with
    | some (.inl a) => C 5 lv (vI a :: st) h kc ks
    | _ => False) := rfl
theorem g117_5 (a : Int32) : mm_step (mm_rw mr_117) (some .int) tb call Q C 5 lv (.inl a :: st) h kc ks = (C 7 (mm_st1 lv 4 (vI a)) st h kc ks) := rfl
theorem g117_7  : mm_step (mm_rw mr_117) (some .int) tb call Q C 7 lv st h kc ks = (match mm_rd lv 4 with
    | some (.inl a) => C 9 lv (vI a :: st) h kc ks
    | _ => False) := rfl
theorem g117_9  : mm_step (mm_rw mr_117) (some .int) tb call Q C 9 lv st h kc ks = (match mm_rd lv 1 with
    | some (.inl a) => C 10 lv (vI a :: st) h kc ks
    | _ => False) := rfl
theorem g117_10  : mm_step (mm_rw mr_117) (some .int) tb call Q C 10 lv st h kc ks = (C 11 lv (vI 1 :: st) h kc ks) := rfl
theorem g117_11 (a b : Int32) : mm_step (mm_rw mr_117) (some .int) tb call Q C 11 lv (.inl b :: .inl a :: st) h kc ks = (C 12 lv (vI (a - b) :: st) h kc ks) := rfl
theorem g117_12 (a b : Int32) : mm_step (mm_rw mr_117) (some .int) tb call Q C 12 lv (.inl b :: .inl a :: st) h kc ks = ((b ≤ a → C 31 lv st h kc ks) ∧ (¬ b ≤ a → C 15 lv st h kc ks)) := rfl
theorem g117_15  : mm_step (mm_rw mr_117) (some .int) tb call Q C 15 lv st h kc ks = (match mm_rd lv 0 with
    | some (.inr (.inr (.inl (some k)))) => C 16 lv (vR k :: st) h kc ks
    | some (.inr (.inr (.inr t))) => C 16 lv (vT t :: st) h kc ks
    | _ => False) := rfl
theorem g117_16  : mm_step (mm_rw mr_117) (some .int) tb call Q C 16 lv st h kc ks = (match mm_rd lv 4 with
    | some (.inl a) => C 18 lv (vI a :: st) h kc ks
    | _ => False) := rfl
theorem g117_18  : mm_step (mm_rw mr_117) (some .int) tb call Q C 18 lv st h kc ks = (match mm_rd lv 0 with
    | some (.inr (.inr (.inl (some k)))) => C 19 lv (vR k :: st) h kc ks
    | some (.inr (.inr (.inr t))) => C 19 lv (vT t :: st) h kc ks
    | _ => False) := rfl
theorem g117_19  : mm_step (mm_rw mr_117) (some .int) tb call Q C 19 lv st h kc ks = (match mm_rd lv 4 with
    | some (.inl a) => C 21 lv (vI a :: st) h kc ks
    | _ => False) := rfl
theorem g117_21  : mm_step (mm_rw mr_117) (some .int) tb call Q C 21 lv st h kc ks = (C 22 lv (vI 1 :: st) h kc ks) := rfl
theorem g117_22 (a b : Int32) : mm_step (mm_rw mr_117) (some .int) tb call Q C 22 lv (.inl b :: .inl a :: st) h kc ks = (C 23 lv (vI (a + b) :: st) h kc ks) := rfl
theorem g117_23 (i : Int32) (k : Nat) : mm_step (mm_rw mr_117) (some .int) tb call Q C 23 lv (.inl i :: .inr (.inr (.inl (some k))) :: st) h kc ks = (match h.2 k with
    | some (.inl (.int, n, f)) => vp_in i n ∧ C 24 lv (vI (f i.toNatClampNeg) :: st) h kc ks
    | _ => False) := rfl
theorem g117_23t (i : Int32) (t : Nat) : mm_step (mm_rw mr_117) (some .int) tb call Q C 23 lv (.inl i :: .inr (.inr (.inr t)) :: st) h kc ks = (vp_in i (tb t).1 ∧ C 24 lv (vI ((tb t).2 i.toNatClampNeg) :: st) h kc ks) := rfl
theorem g117_24 (v i : Int32) (k : Nat) : mm_step (mm_rw mr_117) (some .int) tb call Q C 24 lv (.inl v :: .inl i :: .inr (.inr (.inl (some k))) :: st) h kc ks = (match h.2 k with
    | some (.inl (.int, n, f)) => vp_in i n ∧ C 25 lv st (mm_up h k (cI n (upd f i.toNatClampNeg v))) kc ks
    | _ => False) := rfl
theorem g117_25  : mm_step (mm_rw mr_117) (some .int) tb call Q C 25 lv st h kc ks = (match mm_rd lv 4 with
    | some (.inl a) => C 28 (mm_st1 lv 4 (vI (a + 1))) st h kc ks
    | _ => False) := rfl
theorem g117_28  : mm_step (mm_rw mr_117) (some .int) tb call Q C 28 lv st h kc ks = (C 7 lv st h kc ks) := rfl
theorem g117_31  : mm_step (mm_rw mr_117) (some .int) tb call Q C 31 lv st h kc ks = (match mm_rd lv 3 with
    | some (.inl a) => C 32 lv (vI a :: st) h kc ks
    | _ => False) := rfl
theorem g117_32 (v : Int32) : mm_step (mm_rw mr_117) (some .int) tb call Q C 32 lv [.inl v] h kc ks = (True ∧ Q (some (vI v)) h) := rfl
end G117

abbrev sp_118 : List Nat := [3]
section G118
variable {tb : Nat → Nat × (Nat → Int32)} {call : CO} {Q : AQ} {C : CP} {lv : AL} {st : List AV} {h : AH} {kc ks : Nat}
theorem g118_0  : mm_step (mm_rw mr_118) none tb call Q C 0 lv st h kc ks = (match mm_rd lv 1 with
    | some (.inl a) => C 1 lv (vI a :: st) h kc ks
    | _ => False) := rfl
theorem g118_1 (a : Int32) : mm_step (mm_rw mr_118) none tb call Q C 1 lv (.inl a :: st) h kc ks = (C 3 (mm_st1 lv 4 (vI a)) st h kc ks) := rfl
theorem g118_3  : mm_step (mm_rw mr_118) none tb call Q C 3 lv st h kc ks = (match mm_rd lv 4 with
    | some (.inl a) => C 5 lv (vI a :: st) h kc ks
    | _ => False) := rfl
theorem g118_5  : mm_step (mm_rw mr_118) none tb call Q C 5 lv st h kc ks = (match mm_rd lv 2 with
    | some (.inl a) => C 6 lv (vI a :: st) h kc ks
    | _ => False) := rfl
theorem g118_6 (a b : Int32) : mm_step (mm_rw mr_118) none tb call Q C 6 lv (.inl b :: .inl a :: st) h kc ks = ((a ≤ b → C 25 lv st h kc ks) ∧ (¬ a ≤ b → C 9 lv st h kc ks)) := rfl
theorem g118_9  : mm_step (mm_rw mr_118) none tb call Q C 9 lv st h kc ks = (match mm_rd lv 0 with
    | some (.inr (.inr (.inl (some k)))) => C 10 lv (vR k :: st) h kc ks
    | some (.inr (.inr (.inr t))) => C 10 lv (vT t :: st) h kc ks
    | _ => False) := rfl
theorem g118_10  : mm_step (mm_rw mr_118) none tb call Q C 10 lv st h kc ks = (match mm_rd lv 4 with
    | some (.inl a) => C 12 lv (vI a :: st) h kc ks
    | _ => False) := rfl
theorem g118_12  : mm_step (mm_rw mr_118) none tb call Q C 12 lv st h kc ks = (match mm_rd lv 0 with
    | some (.inr (.inr (.inl (some k)))) => C 13 lv (vR k :: st) h kc ks
    | some (.inr (.inr (.inr t))) => C 13 lv (vT t :: st) h kc ks
    | _ => False) := rfl
theorem g118_13  : mm_step (mm_rw mr_118) none tb call Q C 13 lv st h kc ks = (match mm_rd lv 4 with
    | some (.inl a) => C 15 lv (vI a :: st) h kc ks
    | _ => False) := rfl
theorem g118_15  : mm_step (mm_rw mr_118) none tb call Q C 15 lv st h kc ks = (C 16 lv (vI 1 :: st) h kc ks) := rfl
theorem g118_16 (a b : Int32) : mm_step (mm_rw mr_118) none tb call Q C 16 lv (.inl b :: .inl a :: st) h kc ks = (C 17 lv (vI (a - b) :: st) h kc ks) := rfl
theorem g118_17 (i : Int32) (k : Nat) : mm_step (mm_rw mr_118) none tb call Q C 17 lv (.inl i :: .inr (.inr (.inl (some k))) :: st) h kc ks = (match h.2 k with
    | some (.inl (.int, n, f)) => vp_in i n ∧ C 18 lv (vI (f i.toNatClampNeg) :: st) h kc ks
    | _ => False) := rfl
theorem g118_17t (i : Int32) (t : Nat) : mm_step (mm_rw mr_118) none tb call Q C 17 lv (.inl i :: .inr (.inr (.inr t)) :: st) h kc ks = (vp_in i (tb t).1 ∧ C 18 lv (vI ((tb t).2 i.toNatClampNeg) :: st) h kc ks) := rfl
theorem g118_18 (v i : Int32) (k : Nat) : mm_step (mm_rw mr_118) none tb call Q C 18 lv (.inl v :: .inl i :: .inr (.inr (.inl (some k))) :: st) h kc ks = (match h.2 k with
    | some (.inl (.int, n, f)) => vp_in i n ∧ C 19 lv st (mm_up h k (cI n (upd f i.toNatClampNeg v))) kc ks
    | _ => False) := rfl
theorem g118_19  : mm_step (mm_rw mr_118) none tb call Q C 19 lv st h kc ks = (match mm_rd lv 4 with
    | some (.inl a) => C 22 (mm_st1 lv 4 (vI (a + (mI 1)))) st h kc ks
    | _ => False) := rfl
theorem g118_22  : mm_step (mm_rw mr_118) none tb call Q C 22 lv st h kc ks = (C 3 lv st h kc ks) := rfl
theorem g118_25  : mm_step (mm_rw mr_118) none tb call Q C 25 lv st h kc ks = (match mm_rd lv 0 with
    | some (.inr (.inr (.inl (some k)))) => C 26 lv (vR k :: st) h kc ks
    | some (.inr (.inr (.inr t))) => C 26 lv (vT t :: st) h kc ks
    | _ => False) := rfl
theorem g118_26  : mm_step (mm_rw mr_118) none tb call Q C 26 lv st h kc ks = (match mm_rd lv 2 with
    | some (.inl a) => C 27 lv (vI a :: st) h kc ks
    | _ => False) := rfl
theorem g118_27  : mm_step (mm_rw mr_118) none tb call Q C 27 lv st h kc ks = (match mm_rd lv 3 with
    | some (.inl a) => C 28 lv (vI a :: st) h kc ks
    | _ => False) := rfl
theorem g118_28 (v i : Int32) (k : Nat) : mm_step (mm_rw mr_118) none tb call Q C 28 lv (.inl v :: .inl i :: .inr (.inr (.inl (some k))) :: st) h kc ks = (match h.2 k with
    | some (.inl (.int, n, f)) => vp_in i n ∧ C 29 lv st (mm_up h k (cI n (upd f i.toNatClampNeg v))) kc ks
    | _ => False) := rfl
theorem g118_29  : mm_step (mm_rw mr_118) none tb call Q C 29 lv [] h kc ks = ((none : Option FieldType) = none ∧ Q none h) := rfl
end G118

abbrev sp_119 : List Nat := [14]
section G119
variable {tb : Nat → Nat × (Nat → Int32)} {call : CO} {Q : AQ} {C : CP} {lv : AL} {st : List AV} {h : AH} {kc ks : Nat}
theorem g119_0  : mm_step (mm_rw mr_119) (some .int) tb call Q C 0 lv st h kc ks = (match mm_rd lv 0 with
    | some (.inr (.inr (.inl (some k)))) => C 1 lv (vR k :: st) h kc ks
    | some (.inr (.inr (.inr t))) => C 1 lv (vT t :: st) h kc ks
    | _ => False) := rfl
theorem g119_1 (k : Nat) : mm_step (mm_rw mr_119) (some .int) tb call Q C 1 lv (.inr (.inr (.inl (some k))) :: st) h kc ks = (match h.2 k with
    | some (.inr (.inr (ci, fs))) => ci = 8 ∧ (match fs[13]? with
      | some v => C 4 lv (v :: st) h kc ks
      | none => False)
    | _ => False) := rfl
theorem g119_4  : mm_step (mm_rw mr_119) (some .int) tb call Q C 4 lv st h kc ks = (C 5 lv (vI 1 :: st) h kc ks) := rfl
theorem g119_5 (a b : Int32) : mm_step (mm_rw mr_119) (some .int) tb call Q C 5 lv (.inl b :: .inl a :: st) h kc ks = ((¬ a = b → C 17 lv st h kc ks) ∧ (a = b → C 8 lv st h kc ks)) := rfl
theorem g119_8  : mm_step (mm_rw mr_119) (some .int) tb call Q C 8 lv st h kc ks = (match mm_rd lv 1 with
    | some (.inr (.inr (.inl (some k)))) => C 9 lv (vR k :: st) h kc ks
    | some (.inr (.inr (.inr t))) => C 9 lv (vT t :: st) h kc ks
    | _ => False) := rfl
theorem g119_9  : mm_step (mm_rw mr_119) (some .int) tb call Q C 9 lv st h kc ks = (match mm_rd lv 2 with
    | some (.inl a) => C 10 lv (vI a :: st) h kc ks
    | _ => False) := rfl
theorem g119_10  : mm_step (mm_rw mr_119) (some .int) tb call Q C 10 lv st h kc ks = (match mm_rd lv 3 with
    | some (.inl a) => C 11 lv (vI a :: st) h kc ks
    | _ => False) := rfl
theorem g119_11  : mm_step (mm_rw mr_119) (some .int) tb call Q C 11 lv st h kc ks = (mm_call call C 109 3 11 lv st h kc ks) := rfl
theorem g119_14  : mm_step (mm_rw mr_119) (some .int) tb call Q C 14 lv st h kc ks = (C 19 lv st h kc ks) := rfl
theorem g119_17  : mm_step (mm_rw mr_119) (some .int) tb call Q C 17 lv st h kc ks = (C 19 lv (vI (mI 9) :: st) h kc ks) := rfl
theorem g119_19 (a : Int32) : mm_step (mm_rw mr_119) (some .int) tb call Q C 19 lv (.inl a :: st) h kc ks = (C 21 (mm_st1 lv 4 (vI a)) st h kc ks) := rfl
theorem g119_21  : mm_step (mm_rw mr_119) (some .int) tb call Q C 21 lv st h kc ks = (match mm_rd lv 0 with
    | some (.inr (.inr (.inl (some k)))) => C 22 lv (vR k :: st) h kc ks
    | some (.inr (.inr (.inr t))) => C 22 lv (vT t :: st) h kc ks
    | _ => False) := rfl
theorem g119_22 (k : Nat) : mm_step (mm_rw mr_119) (some .int) tb call Q C 22 lv (.inr (.inr (.inl (some k))) :: st) h kc ks = (match h.2 k with
    | some (.inr (.inr (ci, fs))) => ci = 8 ∧ (match fs[13]? with
      | some v => C 25 lv (v :: st) h kc ks
      | none => False)
    | _ => False) := rfl
theorem g119_25  : mm_step (mm_rw mr_119) (some .int) tb call Q C 25 lv st h kc ks = (C 26 lv (vI 2 :: st) h kc ks) := rfl
theorem g119_26 (a b : Int32) : mm_step (mm_rw mr_119) (some .int) tb call Q C 26 lv (.inl b :: .inl a :: st) h kc ks = ((¬ a = b → C 33 lv st h kc ks) ∧ (a = b → C 29 lv st h kc ks)) := rfl
theorem g119_29  : mm_step (mm_rw mr_119) (some .int) tb call Q C 29 lv st h kc ks = (C 30 lv (vI 0 :: st) h kc ks) := rfl
theorem g119_30  : mm_step (mm_rw mr_119) (some .int) tb call Q C 30 lv st h kc ks = (C 48 lv st h kc ks) := rfl
theorem g119_33  : mm_step (mm_rw mr_119) (some .int) tb call Q C 33 lv st h kc ks = (match mm_rd lv 4 with
    | some (.inl a) => C 35 lv (vI a :: st) h kc ks
    | _ => False) := rfl
theorem g119_35  : mm_step (mm_rw mr_119) (some .int) tb call Q C 35 lv st h kc ks = (C 37 lv (vI (mI 9) :: st) h kc ks) := rfl
theorem g119_37 (a b : Int32) : mm_step (mm_rw mr_119) (some .int) tb call Q C 37 lv (.inl b :: .inl a :: st) h kc ks = ((a = b → C 47 lv st h kc ks) ∧ (¬ a = b → C 40 lv st h kc ks)) := rfl
theorem g119_40  : mm_step (mm_rw mr_119) (some .int) tb call Q C 40 lv st h kc ks = (match mm_rd lv 4 with
    | some (.inl a) => C 42 lv (vI a :: st) h kc ks
    | _ => False) := rfl
theorem g119_42  : mm_step (mm_rw mr_119) (some .int) tb call Q C 42 lv st h kc ks = (C 43 lv (vI 1 :: st) h kc ks) := rfl
theorem g119_43 (a b : Int32) : mm_step (mm_rw mr_119) (some .int) tb call Q C 43 lv (.inl b :: .inl a :: st) h kc ks = (C 44 lv (vI (a + b) :: st) h kc ks) := rfl
theorem g119_44  : mm_step (mm_rw mr_119) (some .int) tb call Q C 44 lv st h kc ks = (C 48 lv st h kc ks) := rfl
theorem g119_47  : mm_step (mm_rw mr_119) (some .int) tb call Q C 47 lv st h kc ks = (match mm_rd lv 2 with
    | some (.inl a) => C 48 lv (vI a :: st) h kc ks
    | _ => False) := rfl
theorem g119_48 (v : Int32) : mm_step (mm_rw mr_119) (some .int) tb call Q C 48 lv [.inl v] h kc ks = (True ∧ Q (some (vI v)) h) := rfl
end G119

abbrev sp_124 : List Nat := [12, 32, 67, 72]
section G124
variable {tb : Nat → Nat × (Nat → Int32)} {call : CO} {Q : AQ} {C : CP} {lv : AL} {st : List AV} {h : AH} {kc ks : Nat}
theorem g124_0  : mm_step (mm_rw mr_124) (some .int) tb call Q C 0 lv st h kc ks = (match mm_rd lv 0 with
    | some (.inr (.inr (.inl (some k)))) => C 1 lv (vR k :: st) h kc ks
    | some (.inr (.inr (.inr t))) => C 1 lv (vT t :: st) h kc ks
    | _ => False) := rfl
theorem g124_1 (k : Nat) : mm_step (mm_rw mr_124) (some .int) tb call Q C 1 lv (.inr (.inr (.inl (some k))) :: st) h kc ks = (match h.2 k with
    | some (.inr (.inr (ci, fs))) => ci = 8 ∧ (match fs[25]? with
      | some v => C 4 lv (v :: st) h kc ks
      | none => False)
    | _ => False) := rfl
theorem g124_4  : mm_step (mm_rw mr_124) (some .int) tb call Q C 4 lv st h kc ks = (match mm_rd lv 0 with
    | some (.inr (.inr (.inl (some k)))) => C 5 lv (vR k :: st) h kc ks
    | some (.inr (.inr (.inr t))) => C 5 lv (vT t :: st) h kc ks
    | _ => False) := rfl
theorem g124_5 (k : Nat) : mm_step (mm_rw mr_124) (some .int) tb call Q C 5 lv (.inr (.inr (.inl (some k))) :: st) h kc ks = (match h.2 k with
    | some (.inr (.inr (ci, fs))) => ci = 8 ∧ (match fs[26]? with
      | some v => C 8 lv (v :: st) h kc ks
      | none => False)
    | _ => False) := rfl
theorem g124_8  : mm_step (mm_rw mr_124) (some .int) tb call Q C 8 lv st h kc ks = (match mm_rd lv 1 with
    | some (.inl a) => C 9 lv (vI a :: st) h kc ks
    | _ => False) := rfl
theorem g124_9  : mm_step (mm_rw mr_124) (some .int) tb call Q C 9 lv st h kc ks = (mm_call call C 109 3 9 lv st h kc ks) := rfl
theorem g124_12 (a : Int32) : mm_step (mm_rw mr_124) (some .int) tb call Q C 12 lv (.inl a :: st) h kc ks = (C 13 (mm_st1 lv 3 (vI a)) st h kc ks) := rfl
theorem g124_13  : mm_step (mm_rw mr_124) (some .int) tb call Q C 13 lv st h kc ks = (match mm_rd lv 0 with
    | some (.inr (.inr (.inl (some k)))) => C 14 lv (vR k :: st) h kc ks
    | some (.inr (.inr (.inr t))) => C 14 lv (vT t :: st) h kc ks
    | _ => False) := rfl
theorem g124_14 (k : Nat) : mm_step (mm_rw mr_124) (some .int) tb call Q C 14 lv (.inr (.inr (.inl (some k))) :: st) h kc ks = (match h.2 k with
    | some (.inr (.inr (ci, fs))) => ci = 8 ∧ (match fs[25]? with
      | some v => C 17 lv (v :: st) h kc ks
      | none => False)
    | _ => False) := rfl
theorem g124_17  : mm_step (mm_rw mr_124) (some .int) tb call Q C 17 lv st h kc ks = (match mm_rd lv 0 with
    | some (.inr (.inr (.inl (some k)))) => C 18 lv (vR k :: st) h kc ks
    | some (.inr (.inr (.inr t))) => C 18 lv (vT t :: st) h kc ks
    | _ => False) := rfl
theorem g124_18 (k : Nat) : mm_step (mm_rw mr_124) (some .int) tb call Q C 18 lv (.inr (.inr (.inl (some k))) :: st) h kc ks = (match h.2 k with
    | some (.inr (.inr (ci, fs))) => ci = 8 ∧ (match fs[26]? with
      | some v => C 21 lv (v :: st) h kc ks
      | none => False)
    | _ => False) := rfl
theorem g124_21  : mm_step (mm_rw mr_124) (some .int) tb call Q C 21 lv st h kc ks = (match mm_rd lv 3 with
    | some (.inl a) => C 22 lv (vI a :: st) h kc ks
    | _ => False) := rfl
theorem g124_22  : mm_step (mm_rw mr_124) (some .int) tb call Q C 22 lv st h kc ks = (C 23 lv (vI 1 :: st) h kc ks) := rfl
theorem g124_23 (a b : Int32) : mm_step (mm_rw mr_124) (some .int) tb call Q C 23 lv (.inl b :: .inl a :: st) h kc ks = (C 24 lv (vI (a + b) :: st) h kc ks) := rfl
theorem g124_24  : mm_step (mm_rw mr_124) (some .int) tb call Q C 24 lv st h kc ks = (match mm_rd lv 0 with
    | some (.inr (.inr (.inl (some k)))) => C 25 lv (vR k :: st) h kc ks
    | some (.inr (.inr (.inr t))) => C 25 lv (vT t :: st) h kc ks
    | _ => False) := rfl
theorem g124_25 (k : Nat) : mm_step (mm_rw mr_124) (some .int) tb call Q C 25 lv (.inr (.inr (.inl (some k))) :: st) h kc ks = (match h.2 k with
    | some (.inr (.inr (ci, fs))) => ci = 8 ∧ (match fs[26]? with
      | some v => C 28 lv (v :: st) h kc ks
      | none => False)
    | _ => False) := rfl
theorem g124_28 (a b : Int32) : mm_step (mm_rw mr_124) (some .int) tb call Q C 28 lv (.inl b :: .inl a :: st) h kc ks = (¬ b = 0 ∧ C 29 lv (vI (a - a / b * b) :: st) h kc ks) := rfl
theorem g124_29  : mm_step (mm_rw mr_124) (some .int) tb call Q C 29 lv st h kc ks = (mm_call call C 117 3 29 lv st h kc ks) := rfl
theorem g124_32 (a : Int32) : mm_step (mm_rw mr_124) (some .int) tb call Q C 32 lv (.inl a :: st) h kc ks = (C 34 (mm_st1 lv 4 (vI a)) st h kc ks) := rfl
theorem g124_34  : mm_step (mm_rw mr_124) (some .int) tb call Q C 34 lv st h kc ks = (match mm_rd lv 0 with
    | some (.inr (.inr (.inl (some k)))) => C 35 lv (vR k :: st) h kc ks
    | some (.inr (.inr (.inr t))) => C 35 lv (vT t :: st) h kc ks
    | _ => False) := rfl
theorem g124_35 (k : Nat) : mm_step (mm_rw mr_124) (some .int) tb call Q C 35 lv (.inr (.inr (.inl (some k))) :: st) h kc ks = (match h.2 k with
    | some (.inr (.inr (ci, fs))) => ci = 8 ∧ (match fs[25]? with
      | some v => C 38 lv (v :: st) h kc ks
      | none => False)
    | _ => False) := rfl
theorem g124_38  : mm_step (mm_rw mr_124) (some .int) tb call Q C 38 lv st h kc ks = (match mm_rd lv 0 with
    | some (.inr (.inr (.inl (some k)))) => C 39 lv (vR k :: st) h kc ks
    | some (.inr (.inr (.inr t))) => C 39 lv (vT t :: st) h kc ks
    | _ => False) := rfl
theorem g124_39 (k : Nat) : mm_step (mm_rw mr_124) (some .int) tb call Q C 39 lv (.inr (.inr (.inl (some k))) :: st) h kc ks = (match h.2 k with
    | some (.inr (.inr (ci, fs))) => ci = 8 ∧ (match fs[26]? with
      | some v => C 42 lv (v :: st) h kc ks
      | none => False)
    | _ => False) := rfl
theorem g124_42  : mm_step (mm_rw mr_124) (some .int) tb call Q C 42 lv st h kc ks = (C 43 lv (vI 1 :: st) h kc ks) := rfl
theorem g124_43 (a b : Int32) : mm_step (mm_rw mr_124) (some .int) tb call Q C 43 lv (.inl b :: .inl a :: st) h kc ks = (C 44 lv (vI (a - b) :: st) h kc ks) := rfl
theorem g124_44  : mm_step (mm_rw mr_124) (some .int) tb call Q C 44 lv st h kc ks = (match mm_rd lv 2 with
    | some (.inl a) => C 45 lv (vI a :: st) h kc ks
    | _ => False) := rfl
theorem g124_45 (a : Int32) : mm_step (mm_rw mr_124) (some .int) tb call Q C 45 lv (.inl a :: st) h kc ks = ((a = 0 → C 52 lv st h kc ks) ∧ (¬ a = 0 → C 48 lv st h kc ks)) := rfl
theorem g124_48  : mm_step (mm_rw mr_124) (some .int) tb call Q C 48 lv st h kc ks = (C 49 lv (vI 0 :: st) h kc ks) := rfl
theorem g124_49  : mm_step (mm_rw mr_124) (some .int) tb call Q C 49 lv st h kc ks = (C 67 lv st h kc ks) := rfl
theorem g124_52  : mm_step (mm_rw mr_124) (some .int) tb call Q C 52 lv st h kc ks = (match mm_rd lv 0 with
    | some (.inr (.inr (.inl (some k)))) => C 53 lv (vR k :: st) h kc ks
    | some (.inr (.inr (.inr t))) => C 53 lv (vT t :: st) h kc ks
    | _ => False) := rfl
theorem g124_53  : mm_step (mm_rw mr_124) (some .int) tb call Q C 53 lv st h kc ks = (match mm_rd lv 0 with
    | some (.inr (.inr (.inl (some k)))) => C 54 lv (vR k :: st) h kc ks
    | some (.inr (.inr (.inr t))) => C 54 lv (vT t :: st) h kc ks
    | _ => False) := rfl
theorem g124_54 (k : Nat) : mm_step (mm_rw mr_124) (some .int) tb call Q C 54 lv (.inr (.inr (.inl (some k))) :: st) h kc ks = (match h.2 k with
    | some (.inr (.inr (ci, fs))) => ci = 8 ∧ (match fs[25]? with
      | some v => C 57 lv (v :: st) h kc ks
      | none => False)
    | _ => False) := rfl
theorem g124_57  : mm_step (mm_rw mr_124) (some .int) tb call Q C 57 lv st h kc ks = (match mm_rd lv 0 with
    | some (.inr (.inr (.inl (some k)))) => C 58 lv (vR k :: st) h kc ks
    | some (.inr (.inr (.inr t))) => C 58 lv (vT t :: st) h kc ks
    | _ => False) := rfl
theorem g124_58 (k : Nat) : mm_step (mm_rw mr_124) (some .int) tb call Q C 58 lv (.inr (.inr (.inl (some k))) :: st) h kc ks = (match h.2 k with
    | some (.inr (.inr (ci, fs))) => ci = 8 ∧ (match fs[26]? with
      | some v => C 61 lv (v :: st) h kc ks
      | none => False)
    | _ => False) := rfl
theorem g124_61  : mm_step (mm_rw mr_124) (some .int) tb call Q C 61 lv st h kc ks = (C 62 lv (vI 1 :: st) h kc ks) := rfl
theorem g124_62 (a b : Int32) : mm_step (mm_rw mr_124) (some .int) tb call Q C 62 lv (.inl b :: .inl a :: st) h kc ks = (C 63 lv (vI (a - b) :: st) h kc ks) := rfl
theorem g124_63  : mm_step (mm_rw mr_124) (some .int) tb call Q C 63 lv st h kc ks = (match mm_rd lv 1 with
    | some (.inl a) => C 64 lv (vI a :: st) h kc ks
    | _ => False) := rfl
theorem g124_64  : mm_step (mm_rw mr_124) (some .int) tb call Q C 64 lv st h kc ks = ((match (st.take 4).reverse with
    | .inr (.inr (.inl (some k))) :: _ => (match h.2 k with
      | some (.inr (.inr (ci, _))) => mm_cn ci = (mm_mi 119).1.cls
      | _ => False)
    | _ => False) ∧ mm_call call C 119 4 64 lv st h kc ks) := rfl
theorem g124_67  : mm_step (mm_rw mr_124) (some .int) tb call Q C 67 lv st h kc ks = (match mm_rd lv 4 with
    | some (.inl a) => C 69 lv (vI a :: st) h kc ks
    | _ => False) := rfl
theorem g124_69  : mm_step (mm_rw mr_124) (some .int) tb call Q C 69 lv st h kc ks = (mm_call call C 118 4 69 lv st h kc ks) := rfl
theorem g124_72  : mm_step (mm_rw mr_124) (some .int) tb call Q C 72 lv st h kc ks = (match mm_rd lv 4 with
    | some (.inl a) => C 74 lv (vI a :: st) h kc ks
    | _ => False) := rfl
theorem g124_74 (v : Int32) : mm_step (mm_rw mr_124) (some .int) tb call Q C 74 lv [.inl v] h kc ks = (True ∧ Q (some (vI v)) h) := rfl
end G124

abbrev sp_123 : List Nat := [10]
section G123
variable {tb : Nat → Nat × (Nat → Int32)} {call : CO} {Q : AQ} {C : CP} {lv : AL} {st : List AV} {h : AH} {kc ks : Nat}
theorem g123_0  : mm_step (mm_rw mr_123) none tb call Q C 0 lv st h kc ks = (match mm_rd lv 0 with
    | some (.inr (.inr (.inl (some k)))) => C 1 lv (vR k :: st) h kc ks
    | some (.inr (.inr (.inr t))) => C 1 lv (vT t :: st) h kc ks
    | _ => False) := rfl
theorem g123_1  : mm_step (mm_rw mr_123) none tb call Q C 1 lv st h kc ks = (match mm_rd lv 0 with
    | some (.inr (.inr (.inl (some k)))) => C 2 lv (vR k :: st) h kc ks
    | some (.inr (.inr (.inr t))) => C 2 lv (vT t :: st) h kc ks
    | _ => False) := rfl
theorem g123_2 (k : Nat) : mm_step (mm_rw mr_123) none tb call Q C 2 lv (.inr (.inr (.inl (some k))) :: st) h kc ks = (match h.2 k with
    | some (.inr (.inr (ci, fs))) => ci = 8 ∧ (match fs[15]? with
      | some v => C 5 lv (v :: st) h kc ks
      | none => False)
    | _ => False) := rfl
theorem g123_5 (v : AV) (k : Nat) : mm_step (mm_rw mr_123) none tb call Q C 5 lv (v :: .inr (.inr (.inl (some k))) :: st) h kc ks = (match h.2 k with
    | some (.inr (.inr (ci, fs))) => ci = 8 ∧ 26 < fs.length ∧ mm_fit (mm_ft 8 26) v ∧ C 8 lv st (mm_up h k (cO ci (fs.set 26 v))) kc ks
    | _ => False) := rfl
theorem g123_8  : mm_step (mm_rw mr_123) none tb call Q C 8 lv st h kc ks = (C 9 lv (vI 0 :: st) h kc ks) := rfl
theorem g123_9 (a : Int32) : mm_step (mm_rw mr_123) none tb call Q C 9 lv (.inl a :: st) h kc ks = (C 10 (mm_st1 lv 1 (vI a)) st h kc ks) := rfl
theorem g123_10  : mm_step (mm_rw mr_123) none tb call Q C 10 lv st h kc ks = (match mm_rd lv 1 with
    | some (.inl a) => C 11 lv (vI a :: st) h kc ks
    | _ => False) := rfl
theorem g123_11  : mm_step (mm_rw mr_123) none tb call Q C 11 lv st h kc ks = (match mm_rd lv 0 with
    | some (.inr (.inr (.inl (some k)))) => C 12 lv (vR k :: st) h kc ks
    | some (.inr (.inr (.inr t))) => C 12 lv (vT t :: st) h kc ks
    | _ => False) := rfl
theorem g123_12 (k : Nat) : mm_step (mm_rw mr_123) none tb call Q C 12 lv (.inr (.inr (.inl (some k))) :: st) h kc ks = (match h.2 k with
    | some (.inr (.inr (ci, fs))) => ci = 8 ∧ (match fs[15]? with
      | some v => C 15 lv (v :: st) h kc ks
      | none => False)
    | _ => False) := rfl
theorem g123_15 (a b : Int32) : mm_step (mm_rw mr_123) none tb call Q C 15 lv (.inl b :: .inl a :: st) h kc ks = ((b ≤ a → C 36 lv st h kc ks) ∧ (¬ b ≤ a → C 18 lv st h kc ks)) := rfl
theorem g123_18  : mm_step (mm_rw mr_123) none tb call Q C 18 lv st h kc ks = (match mm_rd lv 0 with
    | some (.inr (.inr (.inl (some k)))) => C 19 lv (vR k :: st) h kc ks
    | some (.inr (.inr (.inr t))) => C 19 lv (vT t :: st) h kc ks
    | _ => False) := rfl
theorem g123_19 (k : Nat) : mm_step (mm_rw mr_123) none tb call Q C 19 lv (.inr (.inr (.inl (some k))) :: st) h kc ks = (match h.2 k with
    | some (.inr (.inr (ci, fs))) => ci = 8 ∧ (match fs[25]? with
      | some v => C 22 lv (v :: st) h kc ks
      | none => False)
    | _ => False) := rfl
theorem g123_22  : mm_step (mm_rw mr_123) none tb call Q C 22 lv st h kc ks = (match mm_rd lv 1 with
    | some (.inl a) => C 23 lv (vI a :: st) h kc ks
    | _ => False) := rfl
theorem g123_23  : mm_step (mm_rw mr_123) none tb call Q C 23 lv st h kc ks = (match mm_rd lv 0 with
    | some (.inr (.inr (.inl (some k)))) => C 24 lv (vR k :: st) h kc ks
    | some (.inr (.inr (.inr t))) => C 24 lv (vT t :: st) h kc ks
    | _ => False) := rfl
theorem g123_24 (k : Nat) : mm_step (mm_rw mr_123) none tb call Q C 24 lv (.inr (.inr (.inl (some k))) :: st) h kc ks = (match h.2 k with
    | some (.inr (.inr (ci, fs))) => ci = 8 ∧ (match fs[14]? with
      | some v => C 27 lv (v :: st) h kc ks
      | none => False)
    | _ => False) := rfl
theorem g123_27  : mm_step (mm_rw mr_123) none tb call Q C 27 lv st h kc ks = (match mm_rd lv 1 with
    | some (.inl a) => C 28 lv (vI a :: st) h kc ks
    | _ => False) := rfl
theorem g123_28 (i : Int32) (k : Nat) : mm_step (mm_rw mr_123) none tb call Q C 28 lv (.inl i :: .inr (.inr (.inl (some k))) :: st) h kc ks = (match h.2 k with
    | some (.inl (.int, n, f)) => vp_in i n ∧ C 29 lv (vI (f i.toNatClampNeg) :: st) h kc ks
    | _ => False) := rfl
theorem g123_28t (i : Int32) (t : Nat) : mm_step (mm_rw mr_123) none tb call Q C 28 lv (.inl i :: .inr (.inr (.inr t)) :: st) h kc ks = (vp_in i (tb t).1 ∧ C 29 lv (vI ((tb t).2 i.toNatClampNeg) :: st) h kc ks) := rfl
theorem g123_29 (v i : Int32) (k : Nat) : mm_step (mm_rw mr_123) none tb call Q C 29 lv (.inl v :: .inl i :: .inr (.inr (.inl (some k))) :: st) h kc ks = (match h.2 k with
    | some (.inl (.int, n, f)) => vp_in i n ∧ C 30 lv st (mm_up h k (cI n (upd f i.toNatClampNeg v))) kc ks
    | _ => False) := rfl
theorem g123_30  : mm_step (mm_rw mr_123) none tb call Q C 30 lv st h kc ks = (match mm_rd lv 1 with
    | some (.inl a) => C 33 (mm_st1 lv 1 (vI (a + 1))) st h kc ks
    | _ => False) := rfl
theorem g123_33  : mm_step (mm_rw mr_123) none tb call Q C 33 lv st h kc ks = (C 10 lv st h kc ks) := rfl
theorem g123_36  : mm_step (mm_rw mr_123) none tb call Q C 36 lv [] h kc ks = ((none : Option FieldType) = none ∧ Q none h) := rfl
end G123

section MTRIP
variable {tb : Nat → Nat × (Nat → Int32)} {d : Nat} {h : AH} {q L : Nat} {xs : List Nat} {f : Nat → Int32}
theorem m_placeIn (hq : h.2 q = some (cI L f)) (hL : xs.length ≤ L) (hL2 : L < 2 ^ 31) (hf : Ar f xs) (hs : ∀ v ∈ xs, v < 8) (hn : xs.Nodup) {v : Nat} (hv : v < 2 ^ 31) : WM tb (d + 1) k_M_placeIn [vR q, vI (nI xs.length), vI (nI v)] h 0 0 (fun z h' => z = some (vI (lPl xs v)) ∧ h' = h) := by
  have key : ∀ m k, m = xs.length - k → k ≤ xs.length → WP (mm_rw mr_109) (some .int) tb (WM tb d) (fun z h' => z = some (vI (lPl xs v)) ∧ h' = h) 6 [(0, vR q), (1, vI (nI xs.length)), (2, vI (nI v)), (3, vI (lPl (xs.take k) v)), (4, vI (nI k))] [] h 0 0 := by
    intro m
    induction m with
    | zero =>
      intro k hm hk
      have e : k = xs.length := by omega
      subst e
      (try simp only [Option.toList_some, Option.toList_none, List.nil_append, List.append_nil, List.cons_append, Nat.sub_zero, Nat.sub_self, Nat.zero_sub]); refine Go.wp sp_109 200 ?_; simp only [↓g109_0, ↓g109_2, ↓g109_3, ↓g109_4, ↓g109_6, ↓g109_8, ↓g109_9, ↓g109_12, ↓g109_13, ↓g109_15, ↓g109_15t, ↓g109_16, ↓g109_17, ↓g109_20, ↓g109_22, ↓g109_25, ↓g109_26, ↓g109_27, ↓g109_30, ↓g109_33, ↓g109_34, ↓Go_s, ↓GoC_a, ↓reduceIte, ↓mm_call_eq, ↓mmw_nil, ↓mmw_cons, List.take_succ_cons, List.take_zero, List.take_nil, List.drop_succ_cons, List.drop_zero, List.drop_nil, List.reverse_cons, List.reverse_nil, List.nil_append, List.cons_append, List.append_nil, Option.toList_some, Option.toList_none, Nat.sub_zero, Nat.le_refl, mmr_cons, mm_st1, mm_st2, mmi_nil, mmi_cons, mmc_I, mmc_L, mmc_R, mmu_get, mmu_one, mma_get, mma_one, List.filter_cons, List.filter_nil, List.contains_cons, List.contains_nil, Nat.reduceBEq, Nat.reduceAdd, Nat.reduceLT, Nat.reduceSub, Nat.reduceLeDiff, Nat.reduceEqDiff, Int32.reduceAdd, Bool.not_true, Bool.not_false, Bool.and_true, Bool.true_and, Bool.and_false, Bool.false_and, Bool.or_false, Bool.false_or, Bool.or_true, Bool.true_or, if_true, if_false, ite_true, ite_false, Bool.false_eq_true, List.getElem?_cons_zero, List.getElem?_cons_succ, List.length_cons, List.length_nil, true_and, and_true, List.set_cons_zero, List.set_cons_succ, Fin.isValue, Fin.val_zero, Fin.val_one, Fin.val_two, Fin.reduceFinMk, Nat.zero_add, hq]
      rw [List.take_length]
      simp
    | succ m ih =>
      intro k hm hk
      have hk' : k < xs.length := by omega
      have b1 : xs.getD k 0 < 8 := hs _ (getD_mem hk')
      have h1 := ih (k + 1) (by omega) hk'
      rw [take_snoc hk', lPl_snoc (nodup_take_get hn hk'), List.length_take, Nat.min_eq_left (Nat.le_of_lt hk')] at h1
      (try simp only [Option.toList_some, Option.toList_none, List.nil_append, List.append_nil, List.cons_append, Nat.sub_zero, Nat.sub_self, Nat.zero_sub]); refine Go.wp sp_109 200 ?_; simp only [↓g109_0, ↓g109_2, ↓g109_3, ↓g109_4, ↓g109_6, ↓g109_8, ↓g109_9, ↓g109_12, ↓g109_13, ↓g109_15, ↓g109_15t, ↓g109_16, ↓g109_17, ↓g109_20, ↓g109_22, ↓g109_25, ↓g109_26, ↓g109_27, ↓g109_30, ↓g109_33, ↓g109_34, ↓Go_s, ↓GoC_a, ↓reduceIte, ↓mm_call_eq, ↓mmw_nil, ↓mmw_cons, List.take_succ_cons, List.take_zero, List.take_nil, List.drop_succ_cons, List.drop_zero, List.drop_nil, List.reverse_cons, List.reverse_nil, List.nil_append, List.cons_append, List.append_nil, Option.toList_some, Option.toList_none, Nat.sub_zero, Nat.le_refl, mmr_cons, mm_st1, mm_st2, mmi_nil, mmi_cons, mmc_I, mmc_L, mmc_R, mmu_get, mmu_one, mma_get, mma_one, List.filter_cons, List.filter_nil, List.contains_cons, List.contains_nil, Nat.reduceBEq, Nat.reduceAdd, Nat.reduceLT, Nat.reduceSub, Nat.reduceLeDiff, Nat.reduceEqDiff, Int32.reduceAdd, Bool.not_true, Bool.not_false, Bool.and_true, Bool.true_and, Bool.and_false, Bool.false_and, Bool.or_false, Bool.false_or, Bool.or_true, Bool.true_or, if_true, if_false, ite_true, ite_false, Bool.false_eq_true, List.getElem?_cons_zero, List.getElem?_cons_succ, List.length_cons, List.length_nil, true_and, and_true, List.set_cons_zero, List.set_cons_succ, Fin.isValue, Fin.val_zero, Fin.val_one, Fin.val_two, Fin.reduceFinMk, Nat.zero_add, hq]
      simp (disch := omega) only [lit_0, lit_1, lit_2, lit_3, lit_4, lit_5, lit_6, lit_7, lit_8, lit_9, lit_10, lit_16, lit_40, lit_48, lit_60, lit_67, lit_76, lit_82, lit_99, lit_100, lit_255, lit_508, lit_720, lit_1023, nI_1, nI_add, pk_sub, pk_mul, pk_div, nu_rem2, nI_clamp, nu_m, nu_m', nu_lm, nu_ml, nu_ltm, nu_mlt, nu_mm, nu_dec, nu_in, nu_le, nu_lt, nu_eq, true_and, and_true, false_imp_iff, true_imp_iff, not_true_eq_false, not_false_eq_true, Nat.not_lt_zero, Nat.zero_le, Nat.le_refl, Nat.lt_irrefl, Nat.reduceEqDiff, Nat.reduceLT, Nat.reduceLeDiff, Nat.reduceAdd, Nat.reduceSub, Nat.reduceMul, Nat.reduceMod, Nat.reduceDiv, Nat.one_ne_zero, Nat.zero_ne_one, ft_0_0, ft_0_1, ft_0_2, ft_0_3, ft_0_4, ft_1_0, ft_1_1, ft_1_2, ft_2_0, ft_2_1, ft_2_2, ft_2_3, ft_2_4, ft_2_5, ft_2_6, ft_2_7, ft_2_8, ft_2_9, ft_2_10, ft_3_0, ft_3_1, ft_3_2, ft_3_3, ft_4_0, ft_4_1, ft_4_2, ft_4_3, ft_4_4, ft_4_5, ft_4_6, ft_5_0, ft_5_1, ft_6_0, ft_6_1, ft_6_2, ft_6_3, ft_6_4, ft_6_5, ft_6_6, ft_7_0, ft_7_1, ft_7_2, ft_7_3, ft_7_4, ft_7_5, ft_7_6, ft_7_7, ft_7_8, ft_7_9, ft_7_10, ft_7_11, ft_7_12, ft_7_13, ft_8_0, ft_8_1, ft_8_2, ft_8_3, ft_8_4, ft_8_5, ft_8_6, ft_8_7, ft_8_8, ft_8_9, ft_8_10, ft_8_11, ft_8_12, ft_8_13, ft_8_14, ft_8_15, ft_8_16, ft_8_17, ft_8_18, ft_8_19, ft_8_20, ft_8_21, ft_8_22, ft_8_23, ft_8_24, ft_8_25, ft_8_26, ft_8_27, ft_8_28, ft_8_29, ft_8_30, ft_8_31, ft_8_32, ft_8_33, ft_8_34, ft_8_35, ft_8_36, ft_8_37, ft_8_38, ft_8_39, ft_8_40, ft_8_41, nu_fitI, nu_fitL, nu_fitO, nu_fitA, nu_fitB0, nu_fitB1, hk', Nat.not_le.mpr hk', hf k hk']
      refine ⟨by omega, fun c => ?_, fun c => ?_⟩
      · rw [if_neg c] at h1; exact h1
      · rw [if_pos c] at h1; exact h1
  refine WM.of mi_109 rfl rfl (Nat.le_of_ble_eq_true rfl) ?_
  show WP (mm_rw mr_109) (some .int) tb (WM tb d) _ 0 [(0, vR q), (1, vI (nI xs.length)), (2, vI (nI v))] [] h 0 0
  (try simp only [Option.toList_some, Option.toList_none, List.nil_append, List.append_nil, List.cons_append, Nat.sub_zero, Nat.sub_self, Nat.zero_sub]); refine Go.wp sp_109 200 ?_; simp only [↓g109_0, ↓g109_2, ↓g109_3, ↓g109_4, ↓g109_6, ↓g109_8, ↓g109_9, ↓g109_12, ↓g109_13, ↓g109_15, ↓g109_15t, ↓g109_16, ↓g109_17, ↓g109_20, ↓g109_22, ↓g109_25, ↓g109_26, ↓g109_27, ↓g109_30, ↓g109_33, ↓g109_34, ↓Go_s, ↓GoC_a, ↓reduceIte, ↓mm_call_eq, ↓mmw_nil, ↓mmw_cons, List.take_succ_cons, List.take_zero, List.take_nil, List.drop_succ_cons, List.drop_zero, List.drop_nil, List.reverse_cons, List.reverse_nil, List.nil_append, List.cons_append, List.append_nil, Option.toList_some, Option.toList_none, Nat.sub_zero, Nat.le_refl, mmr_cons, mm_st1, mm_st2, mmi_nil, mmi_cons, mmc_I, mmc_L, mmc_R, mmu_get, mmu_one, mma_get, mma_one, List.filter_cons, List.filter_nil, List.contains_cons, List.contains_nil, Nat.reduceBEq, Nat.reduceAdd, Nat.reduceLT, Nat.reduceSub, Nat.reduceLeDiff, Nat.reduceEqDiff, Int32.reduceAdd, Bool.not_true, Bool.not_false, Bool.and_true, Bool.true_and, Bool.and_false, Bool.false_and, Bool.or_false, Bool.false_or, Bool.or_true, Bool.true_or, if_true, if_false, ite_true, ite_false, Bool.false_eq_true, List.getElem?_cons_zero, List.getElem?_cons_succ, List.length_cons, List.length_nil, true_and, and_true, List.set_cons_zero, List.set_cons_succ, Fin.isValue, Fin.val_zero, Fin.val_one, Fin.val_two, Fin.reduceFinMk, Nat.zero_add, hq]
  exact key _ 0 rfl (Nat.zero_le _)
theorem m_takeOut (hq : h.2 q = some (cI L f)) (hL : xs.length ≤ L) (hL2 : L < 2 ^ 31) (hf : Ar f xs) {p : Nat} (hp : p < xs.length) : WM tb (d + 1) k_M_takeOut [vR q, vI (nI xs.length), vI (nI p)] h 0 0 (fun z h' => z = some (vI (nI (xs.getD p 0))) ∧ ∃ f', h' = mm_up h q (cI L f') ∧ Ar f' (xs.eraseIdx p)) := by
  have hlen := List.length_eraseIdx_of_lt hp
  have key : ∀ m k (g : Nat → Int32), m = xs.length - 1 - k → p ≤ k → k ≤ xs.length - 1 → (∀ j, j < k → p ≤ j → g j = f (j + 1)) → (∀ j, j < p ∨ k ≤ j → g j = f j) → WP (mm_rw mr_117) (some .int) tb (WM tb d) (fun z h' => z = some (vI (nI (xs.getD p 0))) ∧ ∃ f', h' = mm_up h q (cI L f') ∧ Ar f' (xs.eraseIdx p)) 7 [(0, vR q), (1, vI (nI xs.length)), (2, vI (nI p)), (3, vI (nI (xs.getD p 0))), (4, vI (nI k))] [] (mm_up h q (cI L g)) 0 0 := by
    intro m
    induction m with
    | zero =>
      intro k g hm hpk hk a1 a2
      have e : k = xs.length - 1 := by omega
      subst e
      (try simp only [Option.toList_some, Option.toList_none, List.nil_append, List.append_nil, List.cons_append, Nat.sub_zero, Nat.sub_self, Nat.zero_sub]); refine Go.wp sp_117 200 ?_; simp only [↓g117_0, ↓g117_1, ↓g117_2, ↓g117_2t, ↓g117_3, ↓g117_4, ↓g117_5, ↓g117_7, ↓g117_9, ↓g117_10, ↓g117_11, ↓g117_12, ↓g117_15, ↓g117_16, ↓g117_18, ↓g117_19, ↓g117_21, ↓g117_22, ↓g117_23, ↓g117_23t, ↓g117_24, ↓g117_25, ↓g117_28, ↓g117_31, ↓g117_32, ↓Go_s, ↓GoC_a, ↓reduceIte, ↓mm_call_eq, ↓mmw_nil, ↓mmw_cons, List.take_succ_cons, List.take_zero, List.take_nil, List.drop_succ_cons, List.drop_zero, List.drop_nil, List.reverse_cons, List.reverse_nil, List.nil_append, List.cons_append, List.append_nil, Option.toList_some, Option.toList_none, Nat.sub_zero, Nat.le_refl, mmr_cons, mm_st1, mm_st2, mmi_nil, mmi_cons, mmc_I, mmc_L, mmc_R, mmu_get, mmu_one, mma_get, mma_one, List.filter_cons, List.filter_nil, List.contains_cons, List.contains_nil, Nat.reduceBEq, Nat.reduceAdd, Nat.reduceLT, Nat.reduceSub, Nat.reduceLeDiff, Nat.reduceEqDiff, Int32.reduceAdd, Bool.not_true, Bool.not_false, Bool.and_true, Bool.true_and, Bool.and_false, Bool.false_and, Bool.or_false, Bool.false_or, Bool.or_true, Bool.true_or, if_true, if_false, ite_true, ite_false, Bool.false_eq_true, List.getElem?_cons_zero, List.getElem?_cons_succ, List.length_cons, List.length_nil, true_and, and_true, List.set_cons_zero, List.set_cons_succ, Fin.isValue, Fin.val_zero, Fin.val_one, Fin.val_two, Fin.reduceFinMk, Nat.zero_add, hq]
      simp (disch := omega) only [lit_0, lit_1, lit_2, lit_3, lit_4, lit_5, lit_6, lit_7, lit_8, lit_9, lit_10, lit_16, lit_40, lit_48, lit_60, lit_67, lit_76, lit_82, lit_99, lit_100, lit_255, lit_508, lit_720, lit_1023, nI_1, nI_add, pk_sub, pk_mul, pk_div, nu_rem2, nI_clamp, nu_m, nu_m', nu_lm, nu_ml, nu_ltm, nu_mlt, nu_mm, nu_dec, nu_in, nu_le, nu_lt, nu_eq, true_and, and_true, false_imp_iff, true_imp_iff, not_true_eq_false, not_false_eq_true, Nat.not_lt_zero, Nat.zero_le, Nat.le_refl, Nat.lt_irrefl, Nat.reduceEqDiff, Nat.reduceLT, Nat.reduceLeDiff, Nat.reduceAdd, Nat.reduceSub, Nat.reduceMul, Nat.reduceMod, Nat.reduceDiv, Nat.one_ne_zero, Nat.zero_ne_one, ft_0_0, ft_0_1, ft_0_2, ft_0_3, ft_0_4, ft_1_0, ft_1_1, ft_1_2, ft_2_0, ft_2_1, ft_2_2, ft_2_3, ft_2_4, ft_2_5, ft_2_6, ft_2_7, ft_2_8, ft_2_9, ft_2_10, ft_3_0, ft_3_1, ft_3_2, ft_3_3, ft_4_0, ft_4_1, ft_4_2, ft_4_3, ft_4_4, ft_4_5, ft_4_6, ft_5_0, ft_5_1, ft_6_0, ft_6_1, ft_6_2, ft_6_3, ft_6_4, ft_6_5, ft_6_6, ft_7_0, ft_7_1, ft_7_2, ft_7_3, ft_7_4, ft_7_5, ft_7_6, ft_7_7, ft_7_8, ft_7_9, ft_7_10, ft_7_11, ft_7_12, ft_7_13, ft_8_0, ft_8_1, ft_8_2, ft_8_3, ft_8_4, ft_8_5, ft_8_6, ft_8_7, ft_8_8, ft_8_9, ft_8_10, ft_8_11, ft_8_12, ft_8_13, ft_8_14, ft_8_15, ft_8_16, ft_8_17, ft_8_18, ft_8_19, ft_8_20, ft_8_21, ft_8_22, ft_8_23, ft_8_24, ft_8_25, ft_8_26, ft_8_27, ft_8_28, ft_8_29, ft_8_30, ft_8_31, ft_8_32, ft_8_33, ft_8_34, ft_8_35, ft_8_36, ft_8_37, ft_8_38, ft_8_39, ft_8_40, ft_8_41, nu_fitI, nu_fitL, nu_fitO, nu_fitA, nu_fitB0, nu_fitB1]
      refine ⟨g, rfl, fun j hj => ?_⟩
      rw [hlen] at hj
      rw [getD_erase]
      by_cases c : j < p
      · rw [if_pos c, a2 j (Or.inl c), hf j (by omega)]
      · rw [if_neg c, a1 j (by omega) (by omega), hf _ (by omega)]
    | succ m ih =>
      intro k g hm hpk hk a1 a2
      (try simp only [Option.toList_some, Option.toList_none, List.nil_append, List.append_nil, List.cons_append, Nat.sub_zero, Nat.sub_self, Nat.zero_sub]); refine Go.wp sp_117 200 ?_; simp only [↓g117_0, ↓g117_1, ↓g117_2, ↓g117_2t, ↓g117_3, ↓g117_4, ↓g117_5, ↓g117_7, ↓g117_9, ↓g117_10, ↓g117_11, ↓g117_12, ↓g117_15, ↓g117_16, ↓g117_18, ↓g117_19, ↓g117_21, ↓g117_22, ↓g117_23, ↓g117_23t, ↓g117_24, ↓g117_25, ↓g117_28, ↓g117_31, ↓g117_32, ↓Go_s, ↓GoC_a, ↓reduceIte, ↓mm_call_eq, ↓mmw_nil, ↓mmw_cons, List.take_succ_cons, List.take_zero, List.take_nil, List.drop_succ_cons, List.drop_zero, List.drop_nil, List.reverse_cons, List.reverse_nil, List.nil_append, List.cons_append, List.append_nil, Option.toList_some, Option.toList_none, Nat.sub_zero, Nat.le_refl, mmr_cons, mm_st1, mm_st2, mmi_nil, mmi_cons, mmc_I, mmc_L, mmc_R, mmu_get, mmu_one, mma_get, mma_one, List.filter_cons, List.filter_nil, List.contains_cons, List.contains_nil, Nat.reduceBEq, Nat.reduceAdd, Nat.reduceLT, Nat.reduceSub, Nat.reduceLeDiff, Nat.reduceEqDiff, Int32.reduceAdd, Bool.not_true, Bool.not_false, Bool.and_true, Bool.true_and, Bool.and_false, Bool.false_and, Bool.or_false, Bool.false_or, Bool.or_true, Bool.true_or, if_true, if_false, ite_true, ite_false, Bool.false_eq_true, List.getElem?_cons_zero, List.getElem?_cons_succ, List.length_cons, List.length_nil, true_and, and_true, List.set_cons_zero, List.set_cons_succ, Fin.isValue, Fin.val_zero, Fin.val_one, Fin.val_two, Fin.reduceFinMk, Nat.zero_add, hq]
      simp (disch := omega) only [lit_0, lit_1, lit_2, lit_3, lit_4, lit_5, lit_6, lit_7, lit_8, lit_9, lit_10, lit_16, lit_40, lit_48, lit_60, lit_67, lit_76, lit_82, lit_99, lit_100, lit_255, lit_508, lit_720, lit_1023, nI_1, nI_add, pk_sub, pk_mul, pk_div, nu_rem2, nI_clamp, nu_m, nu_m', nu_lm, nu_ml, nu_ltm, nu_mlt, nu_mm, nu_dec, nu_in, nu_le, nu_lt, nu_eq, true_and, and_true, false_imp_iff, true_imp_iff, not_true_eq_false, not_false_eq_true, Nat.not_lt_zero, Nat.zero_le, Nat.le_refl, Nat.lt_irrefl, Nat.reduceEqDiff, Nat.reduceLT, Nat.reduceLeDiff, Nat.reduceAdd, Nat.reduceSub, Nat.reduceMul, Nat.reduceMod, Nat.reduceDiv, Nat.one_ne_zero, Nat.zero_ne_one, ft_0_0, ft_0_1, ft_0_2, ft_0_3, ft_0_4, ft_1_0, ft_1_1, ft_1_2, ft_2_0, ft_2_1, ft_2_2, ft_2_3, ft_2_4, ft_2_5, ft_2_6, ft_2_7, ft_2_8, ft_2_9, ft_2_10, ft_3_0, ft_3_1, ft_3_2, ft_3_3, ft_4_0, ft_4_1, ft_4_2, ft_4_3, ft_4_4, ft_4_5, ft_4_6, ft_5_0, ft_5_1, ft_6_0, ft_6_1, ft_6_2, ft_6_3, ft_6_4, ft_6_5, ft_6_6, ft_7_0, ft_7_1, ft_7_2, ft_7_3, ft_7_4, ft_7_5, ft_7_6, ft_7_7, ft_7_8, ft_7_9, ft_7_10, ft_7_11, ft_7_12, ft_7_13, ft_8_0, ft_8_1, ft_8_2, ft_8_3, ft_8_4, ft_8_5, ft_8_6, ft_8_7, ft_8_8, ft_8_9, ft_8_10, ft_8_11, ft_8_12, ft_8_13, ft_8_14, ft_8_15, ft_8_16, ft_8_17, ft_8_18, ft_8_19, ft_8_20, ft_8_21, ft_8_22, ft_8_23, ft_8_24, ft_8_25, ft_8_26, ft_8_27, ft_8_28, ft_8_29, ft_8_30, ft_8_31, ft_8_32, ft_8_33, ft_8_34, ft_8_35, ft_8_36, ft_8_37, ft_8_38, ft_8_39, ft_8_40, ft_8_41, nu_fitI, nu_fitL, nu_fitO, nu_fitA, nu_fitB0, nu_fitB1, Nat.not_le.mpr (show k < xs.length - 1 by omega), show k < xs.length - 1 by omega]
      refine ⟨by omega, by omega, ?_⟩
      have e : mm_up (mm_up h q (cI L g)) q (cI L (upd g k (g (k + 1)))) = mm_up h q (cI L (upd g k (g (k + 1)))) := by
        unfold mm_up
        congr 1
        funext j
        dsimp only
        split <;> rfl
      rw [e]
      refine ih (k + 1) _ (by omega) (by omega) (by omega) (fun j hj hpj => ?_) (fun j hj => ?_)
      · unfold upd
        by_cases c : j = k
        · rw [if_pos c, a2 (k + 1) (Or.inr (by omega)), c]
        · rw [if_neg c, a1 j (by omega) hpj]
      · unfold upd
        rw [if_neg (by omega), a2 j (by omega)]
  refine WM.of mi_117 rfl rfl (Nat.le_of_ble_eq_true rfl) ?_
  show WP (mm_rw mr_117) (some .int) tb (WM tb d) _ 0 [(0, vR q), (1, vI (nI xs.length)), (2, vI (nI p))] [] h 0 0
  (try simp only [Option.toList_some, Option.toList_none, List.nil_append, List.append_nil, List.cons_append, Nat.sub_zero, Nat.sub_self, Nat.zero_sub]); refine Go.wp sp_117 200 ?_; simp only [↓g117_0, ↓g117_1, ↓g117_2, ↓g117_2t, ↓g117_3, ↓g117_4, ↓g117_5, ↓g117_7, ↓g117_9, ↓g117_10, ↓g117_11, ↓g117_12, ↓g117_15, ↓g117_16, ↓g117_18, ↓g117_19, ↓g117_21, ↓g117_22, ↓g117_23, ↓g117_23t, ↓g117_24, ↓g117_25, ↓g117_28, ↓g117_31, ↓g117_32, ↓Go_s, ↓GoC_a, ↓reduceIte, ↓mm_call_eq, ↓mmw_nil, ↓mmw_cons, List.take_succ_cons, List.take_zero, List.take_nil, List.drop_succ_cons, List.drop_zero, List.drop_nil, List.reverse_cons, List.reverse_nil, List.nil_append, List.cons_append, List.append_nil, Option.toList_some, Option.toList_none, Nat.sub_zero, Nat.le_refl, mmr_cons, mm_st1, mm_st2, mmi_nil, mmi_cons, mmc_I, mmc_L, mmc_R, mmu_get, mmu_one, mma_get, mma_one, List.filter_cons, List.filter_nil, List.contains_cons, List.contains_nil, Nat.reduceBEq, Nat.reduceAdd, Nat.reduceLT, Nat.reduceSub, Nat.reduceLeDiff, Nat.reduceEqDiff, Int32.reduceAdd, Bool.not_true, Bool.not_false, Bool.and_true, Bool.true_and, Bool.and_false, Bool.false_and, Bool.or_false, Bool.false_or, Bool.or_true, Bool.true_or, if_true, if_false, ite_true, ite_false, Bool.false_eq_true, List.getElem?_cons_zero, List.getElem?_cons_succ, List.length_cons, List.length_nil, true_and, and_true, List.set_cons_zero, List.set_cons_succ, Fin.isValue, Fin.val_zero, Fin.val_one, Fin.val_two, Fin.reduceFinMk, Nat.zero_add, hq]
  simp (disch := omega) only [lit_0, lit_1, lit_2, lit_3, lit_4, lit_5, lit_6, lit_7, lit_8, lit_9, lit_10, lit_16, lit_40, lit_48, lit_60, lit_67, lit_76, lit_82, lit_99, lit_100, lit_255, lit_508, lit_720, lit_1023, nI_1, nI_add, pk_sub, pk_mul, pk_div, nu_rem2, nI_clamp, nu_m, nu_m', nu_lm, nu_ml, nu_ltm, nu_mlt, nu_mm, nu_dec, nu_in, nu_le, nu_lt, nu_eq, true_and, and_true, false_imp_iff, true_imp_iff, not_true_eq_false, not_false_eq_true, Nat.not_lt_zero, Nat.zero_le, Nat.le_refl, Nat.lt_irrefl, Nat.reduceEqDiff, Nat.reduceLT, Nat.reduceLeDiff, Nat.reduceAdd, Nat.reduceSub, Nat.reduceMul, Nat.reduceMod, Nat.reduceDiv, Nat.one_ne_zero, Nat.zero_ne_one, ft_0_0, ft_0_1, ft_0_2, ft_0_3, ft_0_4, ft_1_0, ft_1_1, ft_1_2, ft_2_0, ft_2_1, ft_2_2, ft_2_3, ft_2_4, ft_2_5, ft_2_6, ft_2_7, ft_2_8, ft_2_9, ft_2_10, ft_3_0, ft_3_1, ft_3_2, ft_3_3, ft_4_0, ft_4_1, ft_4_2, ft_4_3, ft_4_4, ft_4_5, ft_4_6, ft_5_0, ft_5_1, ft_6_0, ft_6_1, ft_6_2, ft_6_3, ft_6_4, ft_6_5, ft_6_6, ft_7_0, ft_7_1, ft_7_2, ft_7_3, ft_7_4, ft_7_5, ft_7_6, ft_7_7, ft_7_8, ft_7_9, ft_7_10, ft_7_11, ft_7_12, ft_7_13, ft_8_0, ft_8_1, ft_8_2, ft_8_3, ft_8_4, ft_8_5, ft_8_6, ft_8_7, ft_8_8, ft_8_9, ft_8_10, ft_8_11, ft_8_12, ft_8_13, ft_8_14, ft_8_15, ft_8_16, ft_8_17, ft_8_18, ft_8_19, ft_8_20, ft_8_21, ft_8_22, ft_8_23, ft_8_24, ft_8_25, ft_8_26, ft_8_27, ft_8_28, ft_8_29, ft_8_30, ft_8_31, ft_8_32, ft_8_33, ft_8_34, ft_8_35, ft_8_36, ft_8_37, ft_8_38, ft_8_39, ft_8_40, ft_8_41, nu_fitI, nu_fitL, nu_fitO, nu_fitA, nu_fitB0, nu_fitB1, hf p hp]
  refine ⟨by omega, ?_⟩
  have e : h = mm_up h q (cI L f) := mm_ext rfl (fun k => by
    rw [mmu_get]
    split
    · rename_i e; rw [e, hq]
    · rfl)
  have := key _ p f rfl (Nat.le_refl _) (by omega) (fun j hj hpj => by omega) (fun j _ => rfl)
  rw [← e] at this
  exact this
theorem m_putIn (hq : h.2 q = some (cI L f)) (hL : xs.length < L) (hL2 : L < 2 ^ 31) (hf : Ar f xs) {p v : Nat} (hp : p ≤ xs.length) : WM tb (d + 1) k_M_putIn [vR q, vI (nI xs.length), vI (nI p), vI (nI v)] h 0 0 (fun z h' => z = none ∧ ∃ f', h' = mm_up h q (cI L f') ∧ Ar f' (xs.insertIdx p v)) := by
  have hlen : (xs.insertIdx p v).length = xs.length + 1 := List.length_insertIdx_of_le_length hp v
  have key : ∀ m k (g : Nat → Int32), m = k - p → p ≤ k → k ≤ xs.length → (∀ j, k < j → j ≤ xs.length → g j = f (j - 1)) → (∀ j, j ≤ k → j < xs.length → g j = f j) → WP (mm_rw mr_118) none tb (WM tb d) (fun z h' => z = none ∧ ∃ f', h' = mm_up h q (cI L f') ∧ Ar f' (xs.insertIdx p v)) 3 [(0, vR q), (1, vI (nI xs.length)), (2, vI (nI p)), (3, vI (nI v)), (4, vI (nI k))] [] (mm_up h q (cI L g)) 0 0 := by
    intro m
    induction m with
    | zero =>
      intro k g hm hpk hk a1 a2
      have e : k = p := by omega
      subst e
      (try simp only [Option.toList_some, Option.toList_none, List.nil_append, List.append_nil, List.cons_append, Nat.sub_zero, Nat.sub_self, Nat.zero_sub]); refine Go.wp sp_118 200 ?_; simp only [↓g118_0, ↓g118_1, ↓g118_3, ↓g118_5, ↓g118_6, ↓g118_9, ↓g118_10, ↓g118_12, ↓g118_13, ↓g118_15, ↓g118_16, ↓g118_17, ↓g118_17t, ↓g118_18, ↓g118_19, ↓g118_22, ↓g118_25, ↓g118_26, ↓g118_27, ↓g118_28, ↓g118_29, ↓Go_s, ↓GoC_a, ↓reduceIte, ↓mm_call_eq, ↓mmw_nil, ↓mmw_cons, List.take_succ_cons, List.take_zero, List.take_nil, List.drop_succ_cons, List.drop_zero, List.drop_nil, List.reverse_cons, List.reverse_nil, List.nil_append, List.cons_append, List.append_nil, Option.toList_some, Option.toList_none, Nat.sub_zero, Nat.le_refl, mmr_cons, mm_st1, mm_st2, mmi_nil, mmi_cons, mmc_I, mmc_L, mmc_R, mmu_get, mmu_one, mma_get, mma_one, List.filter_cons, List.filter_nil, List.contains_cons, List.contains_nil, Nat.reduceBEq, Nat.reduceAdd, Nat.reduceLT, Nat.reduceSub, Nat.reduceLeDiff, Nat.reduceEqDiff, Int32.reduceAdd, Bool.not_true, Bool.not_false, Bool.and_true, Bool.true_and, Bool.and_false, Bool.false_and, Bool.or_false, Bool.false_or, Bool.or_true, Bool.true_or, if_true, if_false, ite_true, ite_false, Bool.false_eq_true, List.getElem?_cons_zero, List.getElem?_cons_succ, List.length_cons, List.length_nil, true_and, and_true, List.set_cons_zero, List.set_cons_succ, Fin.isValue, Fin.val_zero, Fin.val_one, Fin.val_two, Fin.reduceFinMk, Nat.zero_add, hq]
      simp (disch := omega) only [lit_0, lit_1, lit_2, lit_3, lit_4, lit_5, lit_6, lit_7, lit_8, lit_9, lit_10, lit_16, lit_40, lit_48, lit_60, lit_67, lit_76, lit_82, lit_99, lit_100, lit_255, lit_508, lit_720, lit_1023, nI_1, nI_add, pk_sub, pk_mul, pk_div, nu_rem2, nI_clamp, nu_m, nu_m', nu_lm, nu_ml, nu_ltm, nu_mlt, nu_mm, nu_dec, nu_in, nu_le, nu_lt, nu_eq, true_and, and_true, false_imp_iff, true_imp_iff, not_true_eq_false, not_false_eq_true, Nat.not_lt_zero, Nat.zero_le, Nat.le_refl, Nat.lt_irrefl, Nat.reduceEqDiff, Nat.reduceLT, Nat.reduceLeDiff, Nat.reduceAdd, Nat.reduceSub, Nat.reduceMul, Nat.reduceMod, Nat.reduceDiv, Nat.one_ne_zero, Nat.zero_ne_one, ft_0_0, ft_0_1, ft_0_2, ft_0_3, ft_0_4, ft_1_0, ft_1_1, ft_1_2, ft_2_0, ft_2_1, ft_2_2, ft_2_3, ft_2_4, ft_2_5, ft_2_6, ft_2_7, ft_2_8, ft_2_9, ft_2_10, ft_3_0, ft_3_1, ft_3_2, ft_3_3, ft_4_0, ft_4_1, ft_4_2, ft_4_3, ft_4_4, ft_4_5, ft_4_6, ft_5_0, ft_5_1, ft_6_0, ft_6_1, ft_6_2, ft_6_3, ft_6_4, ft_6_5, ft_6_6, ft_7_0, ft_7_1, ft_7_2, ft_7_3, ft_7_4, ft_7_5, ft_7_6, ft_7_7, ft_7_8, ft_7_9, ft_7_10, ft_7_11, ft_7_12, ft_7_13, ft_8_0, ft_8_1, ft_8_2, ft_8_3, ft_8_4, ft_8_5, ft_8_6, ft_8_7, ft_8_8, ft_8_9, ft_8_10, ft_8_11, ft_8_12, ft_8_13, ft_8_14, ft_8_15, ft_8_16, ft_8_17, ft_8_18, ft_8_19, ft_8_20, ft_8_21, ft_8_22, ft_8_23, ft_8_24, ft_8_25, ft_8_26, ft_8_27, ft_8_28, ft_8_29, ft_8_30, ft_8_31, ft_8_32, ft_8_33, ft_8_34, ft_8_35, ft_8_36, ft_8_37, ft_8_38, ft_8_39, ft_8_40, ft_8_41, nu_fitI, nu_fitL, nu_fitO, nu_fitA, nu_fitB0, nu_fitB1]
      refine ⟨by omega, upd g k (nI v), ?_, fun j hj => ?_⟩
      · unfold mm_up
        congr 1
        funext j
        dsimp only
        split <;> rfl
      · rw [hlen] at hj
        rw [getD_insert xs k j v hp]
        unfold upd
        by_cases c : j = k
        · rw [if_pos c, if_neg (by omega), if_pos c]
        · rw [if_neg c]
          by_cases c2 : j < k
          · rw [if_pos c2, a2 j (by omega) (by omega), hf j (by omega)]
          · rw [if_neg c2, if_neg c, a1 j (by omega) (by omega), hf _ (by omega)]
    | succ m ih =>
      intro k g hm hpk hk a1 a2
      (try simp only [Option.toList_some, Option.toList_none, List.nil_append, List.append_nil, List.cons_append, Nat.sub_zero, Nat.sub_self, Nat.zero_sub]); refine Go.wp sp_118 200 ?_; simp only [↓g118_0, ↓g118_1, ↓g118_3, ↓g118_5, ↓g118_6, ↓g118_9, ↓g118_10, ↓g118_12, ↓g118_13, ↓g118_15, ↓g118_16, ↓g118_17, ↓g118_17t, ↓g118_18, ↓g118_19, ↓g118_22, ↓g118_25, ↓g118_26, ↓g118_27, ↓g118_28, ↓g118_29, ↓Go_s, ↓GoC_a, ↓reduceIte, ↓mm_call_eq, ↓mmw_nil, ↓mmw_cons, List.take_succ_cons, List.take_zero, List.take_nil, List.drop_succ_cons, List.drop_zero, List.drop_nil, List.reverse_cons, List.reverse_nil, List.nil_append, List.cons_append, List.append_nil, Option.toList_some, Option.toList_none, Nat.sub_zero, Nat.le_refl, mmr_cons, mm_st1, mm_st2, mmi_nil, mmi_cons, mmc_I, mmc_L, mmc_R, mmu_get, mmu_one, mma_get, mma_one, List.filter_cons, List.filter_nil, List.contains_cons, List.contains_nil, Nat.reduceBEq, Nat.reduceAdd, Nat.reduceLT, Nat.reduceSub, Nat.reduceLeDiff, Nat.reduceEqDiff, Int32.reduceAdd, Bool.not_true, Bool.not_false, Bool.and_true, Bool.true_and, Bool.and_false, Bool.false_and, Bool.or_false, Bool.false_or, Bool.or_true, Bool.true_or, if_true, if_false, ite_true, ite_false, Bool.false_eq_true, List.getElem?_cons_zero, List.getElem?_cons_succ, List.length_cons, List.length_nil, true_and, and_true, List.set_cons_zero, List.set_cons_succ, Fin.isValue, Fin.val_zero, Fin.val_one, Fin.val_two, Fin.reduceFinMk, Nat.zero_add, hq]
      simp (disch := omega) only [lit_0, lit_1, lit_2, lit_3, lit_4, lit_5, lit_6, lit_7, lit_8, lit_9, lit_10, lit_16, lit_40, lit_48, lit_60, lit_67, lit_76, lit_82, lit_99, lit_100, lit_255, lit_508, lit_720, lit_1023, nI_1, nI_add, pk_sub, pk_mul, pk_div, nu_rem2, nI_clamp, nu_m, nu_m', nu_lm, nu_ml, nu_ltm, nu_mlt, nu_mm, nu_dec, nu_in, nu_le, nu_lt, nu_eq, true_and, and_true, false_imp_iff, true_imp_iff, not_true_eq_false, not_false_eq_true, Nat.not_lt_zero, Nat.zero_le, Nat.le_refl, Nat.lt_irrefl, Nat.reduceEqDiff, Nat.reduceLT, Nat.reduceLeDiff, Nat.reduceAdd, Nat.reduceSub, Nat.reduceMul, Nat.reduceMod, Nat.reduceDiv, Nat.one_ne_zero, Nat.zero_ne_one, ft_0_0, ft_0_1, ft_0_2, ft_0_3, ft_0_4, ft_1_0, ft_1_1, ft_1_2, ft_2_0, ft_2_1, ft_2_2, ft_2_3, ft_2_4, ft_2_5, ft_2_6, ft_2_7, ft_2_8, ft_2_9, ft_2_10, ft_3_0, ft_3_1, ft_3_2, ft_3_3, ft_4_0, ft_4_1, ft_4_2, ft_4_3, ft_4_4, ft_4_5, ft_4_6, ft_5_0, ft_5_1, ft_6_0, ft_6_1, ft_6_2, ft_6_3, ft_6_4, ft_6_5, ft_6_6, ft_7_0, ft_7_1, ft_7_2, ft_7_3, ft_7_4, ft_7_5, ft_7_6, ft_7_7, ft_7_8, ft_7_9, ft_7_10, ft_7_11, ft_7_12, ft_7_13, ft_8_0, ft_8_1, ft_8_2, ft_8_3, ft_8_4, ft_8_5, ft_8_6, ft_8_7, ft_8_8, ft_8_9, ft_8_10, ft_8_11, ft_8_12, ft_8_13, ft_8_14, ft_8_15, ft_8_16, ft_8_17, ft_8_18, ft_8_19, ft_8_20, ft_8_21, ft_8_22, ft_8_23, ft_8_24, ft_8_25, ft_8_26, ft_8_27, ft_8_28, ft_8_29, ft_8_30, ft_8_31, ft_8_32, ft_8_33, ft_8_34, ft_8_35, ft_8_36, ft_8_37, ft_8_38, ft_8_39, ft_8_40, ft_8_41, nu_fitI, nu_fitL, nu_fitO, nu_fitA, nu_fitB0, nu_fitB1, Nat.not_le.mpr (show p < k by omega), show p < k by omega]
      refine ⟨by omega, by omega, ?_⟩
      have e : mm_up (mm_up h q (cI L g)) q (cI L (upd g k (g (k - 1)))) = mm_up h q (cI L (upd g k (g (k - 1)))) := by
        unfold mm_up
        congr 1
        funext j
        dsimp only
        split <;> rfl
      rw [e]
      refine ih (k - 1) _ (by omega) (by omega) (by omega) (fun j hj hj2 => ?_) (fun j hj hj2 => ?_)
      · unfold upd
        by_cases c : j = k
        · rw [if_pos c, a2 (k - 1) (by omega) (by omega), c]
        · rw [if_neg c, a1 j (by omega) hj2]
      · unfold upd
        rw [if_neg (by omega), a2 j (by omega) hj2]
  refine WM.of mi_118 rfl rfl (Nat.le_of_ble_eq_true rfl) ?_
  show WP (mm_rw mr_118) none tb (WM tb d) _ 0 [(0, vR q), (1, vI (nI xs.length)), (2, vI (nI p)), (3, vI (nI v))] [] h 0 0
  (try simp only [Option.toList_some, Option.toList_none, List.nil_append, List.append_nil, List.cons_append, Nat.sub_zero, Nat.sub_self, Nat.zero_sub]); refine Go.wp sp_118 200 ?_; simp only [↓g118_0, ↓g118_1, ↓g118_3, ↓g118_5, ↓g118_6, ↓g118_9, ↓g118_10, ↓g118_12, ↓g118_13, ↓g118_15, ↓g118_16, ↓g118_17, ↓g118_17t, ↓g118_18, ↓g118_19, ↓g118_22, ↓g118_25, ↓g118_26, ↓g118_27, ↓g118_28, ↓g118_29, ↓Go_s, ↓GoC_a, ↓reduceIte, ↓mm_call_eq, ↓mmw_nil, ↓mmw_cons, List.take_succ_cons, List.take_zero, List.take_nil, List.drop_succ_cons, List.drop_zero, List.drop_nil, List.reverse_cons, List.reverse_nil, List.nil_append, List.cons_append, List.append_nil, Option.toList_some, Option.toList_none, Nat.sub_zero, Nat.le_refl, mmr_cons, mm_st1, mm_st2, mmi_nil, mmi_cons, mmc_I, mmc_L, mmc_R, mmu_get, mmu_one, mma_get, mma_one, List.filter_cons, List.filter_nil, List.contains_cons, List.contains_nil, Nat.reduceBEq, Nat.reduceAdd, Nat.reduceLT, Nat.reduceSub, Nat.reduceLeDiff, Nat.reduceEqDiff, Int32.reduceAdd, Bool.not_true, Bool.not_false, Bool.and_true, Bool.true_and, Bool.and_false, Bool.false_and, Bool.or_false, Bool.false_or, Bool.or_true, Bool.true_or, if_true, if_false, ite_true, ite_false, Bool.false_eq_true, List.getElem?_cons_zero, List.getElem?_cons_succ, List.length_cons, List.length_nil, true_and, and_true, List.set_cons_zero, List.set_cons_succ, Fin.isValue, Fin.val_zero, Fin.val_one, Fin.val_two, Fin.reduceFinMk, Nat.zero_add, hq]
  have e : h = mm_up h q (cI L f) := mm_ext rfl (fun k => by
    rw [mmu_get]
    split
    · rename_i e; rw [e, hq]
    · rfl)
  have := key _ xs.length f rfl hp (Nat.le_refl _) (fun j hj hpj => by omega) (fun j _ _ => rfl)
  rw [← e] at this
  exact this
end MTRIP
section MTRIP2
variable {tb : Nat → Nat × (Nat → Int32)} {d : Nat} {s : MM} {q L law : Nat} {xs : List Nat} {f : Nat → Int32}
theorem m_backAt (hq : (HP s).2 q = some (cI L f)) (hL : xs.length ≤ L) (hL2 : L < 2 ^ 31) (hf : Ar f xs) (hs : ∀ v ∈ xs, v < 8) (hn : xs.Nodup) (hl8 : xs.length ≤ 8) (hr : s.2.1 75 13 = nI law) (hw : law < 3) {a : Nat} (ha : a < 2 ^ 31) : WM tb (d + 2) k_M_backAt [vR 75, vR q, vI (nI xs.length), vI (nI a)] (HP s) 0 0 (fun z h' => z = some (vI (nI (bk law xs a))) ∧ h' = HP s) := by
  refine WM.of mi_119 rfl rfl (Nat.le_of_ble_eq_true rfl) ?_
  show WP (mm_rw mr_119) (some .int) tb (WM tb (d + 1)) _ 0 [(0, vR 75), (1, vR q), (2, vI (nI xs.length)), (3, vI (nI a))] [] (HP s) 0 0
  (try simp only [Option.toList_some, Option.toList_none, List.nil_append, List.append_nil, List.cons_append, Nat.sub_zero, Nat.sub_self, Nat.zero_sub]); refine Go.wp sp_119 200 ?_; simp only [↓g119_0, ↓g119_1, ↓g119_4, ↓g119_5, ↓g119_8, ↓g119_9, ↓g119_10, ↓g119_11, ↓g119_14, ↓g119_17, ↓g119_19, ↓g119_21, ↓g119_22, ↓g119_25, ↓g119_26, ↓g119_29, ↓g119_30, ↓g119_33, ↓g119_35, ↓g119_37, ↓g119_40, ↓g119_42, ↓g119_43, ↓g119_44, ↓g119_47, ↓g119_48, cl_109, cn_0, cn_1, cn_2, cn_3, cn_4, cn_5, cn_6, cn_7, cn_8, ↓Go_s, ↓GoC_a, ↓reduceIte, ↓mm_call_eq, ↓mmw_nil, ↓mmw_cons, List.take_succ_cons, List.take_zero, List.take_nil, List.drop_succ_cons, List.drop_zero, List.drop_nil, List.reverse_cons, List.reverse_nil, List.nil_append, List.cons_append, List.append_nil, Option.toList_some, Option.toList_none, Nat.sub_zero, Nat.le_refl, mmr_cons, mm_st1, mm_st2, mmi_nil, mmi_cons, mmc_I, mmc_L, mmc_R, mmu_get, mmu_one, mma_get, mma_one, List.filter_cons, List.filter_nil, List.contains_cons, List.contains_nil, Nat.reduceBEq, Nat.reduceAdd, Nat.reduceLT, Nat.reduceSub, Nat.reduceLeDiff, Nat.reduceEqDiff, Int32.reduceAdd, Bool.not_true, Bool.not_false, Bool.and_true, Bool.true_and, Bool.and_false, Bool.false_and, Bool.or_false, Bool.false_or, Bool.or_true, Bool.true_or, if_true, if_false, ite_true, ite_false, Bool.false_eq_true, List.getElem?_cons_zero, List.getElem?_cons_succ, List.length_cons, List.length_nil, true_and, and_true, List.set_cons_zero, List.set_cons_succ, Fin.isValue, Fin.val_zero, Fin.val_one, Fin.val_two, Fin.reduceFinMk, Nat.zero_add, hp_75, hp_76, hp_77, hp_78, hp_79, hp_80, hp_81, hp_82, hp_83, hp_84, hp_85, hp_86, hp_87, hp_88, hp_89, hp_90, hp_91, hp_92, hp_93, hp_94, hp_95, hp_96, hp_97, hp_98, og_75_0, og_75_1, og_75_2, og_75_3, og_75_4, og_75_5, og_75_6, og_75_7, og_75_8, og_75_9, og_75_10, og_75_11, og_75_12, og_75_13, og_75_14, og_75_15, og_75_16, og_75_17, og_75_18, og_75_19, og_75_20, og_75_21, og_75_22, og_75_23, og_75_24, og_75_25, og_75_26, og_75_27, og_75_28, og_75_29, og_75_30, og_75_31, og_75_32, og_75_33, og_75_34, og_75_35, og_75_36, og_75_37, og_75_38, og_75_39, og_75_40, og_75_41, ol_75, uo_75_4, uo_75_5, uo_75_6, uo_75_7, uo_75_11, uo_75_12, uo_75_13, uo_75_15, uo_75_19, uo_75_20, uo_75_21, uo_75_22, uo_75_23, uo_75_26, uo_75_30, uo_75_31, uo_75_32, uo_75_33, ua_76, ua_77, ua_78, ua_79, ua_80, ua_81, ua_82, ua_83, ua_84, ua_85, ua_86, ua_87, ua_88, ua_89, ua_90, ua_91, ua_92, ua_93, ua_94, ua_95, ua_96, ua_97, ua_98, sO_g, sA_g, sA_O, sO_A, sO_2, sM_1, sM_2, sM_3, sM_4, sM_5, sM_6, uc_75, hr]
  simp (disch := omega) only [lit_0, lit_1, lit_2, lit_3, lit_4, lit_5, lit_6, lit_7, lit_8, lit_9, lit_10, lit_16, lit_40, lit_48, lit_60, lit_67, lit_76, lit_82, lit_99, lit_100, lit_255, lit_508, lit_720, lit_1023, nI_1, nI_add, pk_sub, pk_mul, pk_div, nu_rem2, nI_clamp, nu_m, nu_m', nu_lm, nu_ml, nu_ltm, nu_mlt, nu_mm, nu_dec, nu_in, nu_le, nu_lt, nu_eq, true_and, and_true, false_imp_iff, true_imp_iff, not_true_eq_false, not_false_eq_true, Nat.not_lt_zero, Nat.zero_le, Nat.le_refl, Nat.lt_irrefl, Nat.reduceEqDiff, Nat.reduceLT, Nat.reduceLeDiff, Nat.reduceAdd, Nat.reduceSub, Nat.reduceMul, Nat.reduceMod, Nat.reduceDiv, Nat.one_ne_zero, Nat.zero_ne_one, ft_0_0, ft_0_1, ft_0_2, ft_0_3, ft_0_4, ft_1_0, ft_1_1, ft_1_2, ft_2_0, ft_2_1, ft_2_2, ft_2_3, ft_2_4, ft_2_5, ft_2_6, ft_2_7, ft_2_8, ft_2_9, ft_2_10, ft_3_0, ft_3_1, ft_3_2, ft_3_3, ft_4_0, ft_4_1, ft_4_2, ft_4_3, ft_4_4, ft_4_5, ft_4_6, ft_5_0, ft_5_1, ft_6_0, ft_6_1, ft_6_2, ft_6_3, ft_6_4, ft_6_5, ft_6_6, ft_7_0, ft_7_1, ft_7_2, ft_7_3, ft_7_4, ft_7_5, ft_7_6, ft_7_7, ft_7_8, ft_7_9, ft_7_10, ft_7_11, ft_7_12, ft_7_13, ft_8_0, ft_8_1, ft_8_2, ft_8_3, ft_8_4, ft_8_5, ft_8_6, ft_8_7, ft_8_8, ft_8_9, ft_8_10, ft_8_11, ft_8_12, ft_8_13, ft_8_14, ft_8_15, ft_8_16, ft_8_17, ft_8_18, ft_8_19, ft_8_20, ft_8_21, ft_8_22, ft_8_23, ft_8_24, ft_8_25, ft_8_26, ft_8_27, ft_8_28, ft_8_29, ft_8_30, ft_8_31, ft_8_32, ft_8_33, ft_8_34, ft_8_35, ft_8_36, ft_8_37, ft_8_38, ft_8_39, ft_8_40, ft_8_41, nu_fitI, nu_fitL, nu_fitO, nu_fitA, nu_fitB0, nu_fitB1]
  refine ⟨fun c => ?_, fun c => ?_⟩
  · refine ⟨fun c2 => ?_, fun c2 => ?_⟩
    · unfold bk
      rw [if_neg c2, if_neg (fun z => c z.1)]
    · unfold bk
      rw [if_pos c2]
  · refine ⟨0, 0, _, Nat.le_refl _, Nat.le_refl _, m_placeIn hq hL hL2 hf hs hn ha, fun z h' hz => ?_⟩
    obtain ⟨rfl, rfl⟩ := hz
    (try simp only [Option.toList_some, Option.toList_none, List.nil_append, List.append_nil, List.cons_append, Nat.sub_zero, Nat.sub_self, Nat.zero_sub]); refine Go.wp sp_119 200 ?_; simp only [↓g119_0, ↓g119_1, ↓g119_4, ↓g119_5, ↓g119_8, ↓g119_9, ↓g119_10, ↓g119_11, ↓g119_14, ↓g119_17, ↓g119_19, ↓g119_21, ↓g119_22, ↓g119_25, ↓g119_26, ↓g119_29, ↓g119_30, ↓g119_33, ↓g119_35, ↓g119_37, ↓g119_40, ↓g119_42, ↓g119_43, ↓g119_44, ↓g119_47, ↓g119_48, cl_109, cn_0, cn_1, cn_2, cn_3, cn_4, cn_5, cn_6, cn_7, cn_8, ↓Go_s, ↓GoC_a, ↓reduceIte, ↓mm_call_eq, ↓mmw_nil, ↓mmw_cons, List.take_succ_cons, List.take_zero, List.take_nil, List.drop_succ_cons, List.drop_zero, List.drop_nil, List.reverse_cons, List.reverse_nil, List.nil_append, List.cons_append, List.append_nil, Option.toList_some, Option.toList_none, Nat.sub_zero, Nat.le_refl, mmr_cons, mm_st1, mm_st2, mmi_nil, mmi_cons, mmc_I, mmc_L, mmc_R, mmu_get, mmu_one, mma_get, mma_one, List.filter_cons, List.filter_nil, List.contains_cons, List.contains_nil, Nat.reduceBEq, Nat.reduceAdd, Nat.reduceLT, Nat.reduceSub, Nat.reduceLeDiff, Nat.reduceEqDiff, Int32.reduceAdd, Bool.not_true, Bool.not_false, Bool.and_true, Bool.true_and, Bool.and_false, Bool.false_and, Bool.or_false, Bool.false_or, Bool.or_true, Bool.true_or, if_true, if_false, ite_true, ite_false, Bool.false_eq_true, List.getElem?_cons_zero, List.getElem?_cons_succ, List.length_cons, List.length_nil, true_and, and_true, List.set_cons_zero, List.set_cons_succ, Fin.isValue, Fin.val_zero, Fin.val_one, Fin.val_two, Fin.reduceFinMk, Nat.zero_add, hp_75, hp_76, hp_77, hp_78, hp_79, hp_80, hp_81, hp_82, hp_83, hp_84, hp_85, hp_86, hp_87, hp_88, hp_89, hp_90, hp_91, hp_92, hp_93, hp_94, hp_95, hp_96, hp_97, hp_98, og_75_0, og_75_1, og_75_2, og_75_3, og_75_4, og_75_5, og_75_6, og_75_7, og_75_8, og_75_9, og_75_10, og_75_11, og_75_12, og_75_13, og_75_14, og_75_15, og_75_16, og_75_17, og_75_18, og_75_19, og_75_20, og_75_21, og_75_22, og_75_23, og_75_24, og_75_25, og_75_26, og_75_27, og_75_28, og_75_29, og_75_30, og_75_31, og_75_32, og_75_33, og_75_34, og_75_35, og_75_36, og_75_37, og_75_38, og_75_39, og_75_40, og_75_41, ol_75, uo_75_4, uo_75_5, uo_75_6, uo_75_7, uo_75_11, uo_75_12, uo_75_13, uo_75_15, uo_75_19, uo_75_20, uo_75_21, uo_75_22, uo_75_23, uo_75_26, uo_75_30, uo_75_31, uo_75_32, uo_75_33, ua_76, ua_77, ua_78, ua_79, ua_80, ua_81, ua_82, ua_83, ua_84, ua_85, ua_86, ua_87, ua_88, ua_89, ua_90, ua_91, ua_92, ua_93, ua_94, ua_95, ua_96, ua_97, ua_98, sO_g, sA_g, sA_O, sO_A, sO_2, sM_1, sM_2, sM_3, sM_4, sM_5, sM_6, uc_75, hr]
    by_cases hm : a ∈ xs
    · have := idx_lt hm
      rw [lPl_in hm]
      simp (disch := omega) only [lit_0, lit_1, lit_2, lit_3, lit_4, lit_5, lit_6, lit_7, lit_8, lit_9, lit_10, lit_16, lit_40, lit_48, lit_60, lit_67, lit_76, lit_82, lit_99, lit_100, lit_255, lit_508, lit_720, lit_1023, nI_1, nI_add, pk_sub, pk_mul, pk_div, nu_rem2, nI_clamp, nu_m, nu_m', nu_lm, nu_ml, nu_ltm, nu_mlt, nu_mm, nu_dec, nu_in, nu_le, nu_lt, nu_eq, true_and, and_true, false_imp_iff, true_imp_iff, not_true_eq_false, not_false_eq_true, Nat.not_lt_zero, Nat.zero_le, Nat.le_refl, Nat.lt_irrefl, Nat.reduceEqDiff, Nat.reduceLT, Nat.reduceLeDiff, Nat.reduceAdd, Nat.reduceSub, Nat.reduceMul, Nat.reduceMod, Nat.reduceDiv, Nat.one_ne_zero, Nat.zero_ne_one, ft_0_0, ft_0_1, ft_0_2, ft_0_3, ft_0_4, ft_1_0, ft_1_1, ft_1_2, ft_2_0, ft_2_1, ft_2_2, ft_2_3, ft_2_4, ft_2_5, ft_2_6, ft_2_7, ft_2_8, ft_2_9, ft_2_10, ft_3_0, ft_3_1, ft_3_2, ft_3_3, ft_4_0, ft_4_1, ft_4_2, ft_4_3, ft_4_4, ft_4_5, ft_4_6, ft_5_0, ft_5_1, ft_6_0, ft_6_1, ft_6_2, ft_6_3, ft_6_4, ft_6_5, ft_6_6, ft_7_0, ft_7_1, ft_7_2, ft_7_3, ft_7_4, ft_7_5, ft_7_6, ft_7_7, ft_7_8, ft_7_9, ft_7_10, ft_7_11, ft_7_12, ft_7_13, ft_8_0, ft_8_1, ft_8_2, ft_8_3, ft_8_4, ft_8_5, ft_8_6, ft_8_7, ft_8_8, ft_8_9, ft_8_10, ft_8_11, ft_8_12, ft_8_13, ft_8_14, ft_8_15, ft_8_16, ft_8_17, ft_8_18, ft_8_19, ft_8_20, ft_8_21, ft_8_22, ft_8_23, ft_8_24, ft_8_25, ft_8_26, ft_8_27, ft_8_28, ft_8_29, ft_8_30, ft_8_31, ft_8_32, ft_8_33, ft_8_34, ft_8_35, ft_8_36, ft_8_37, ft_8_38, ft_8_39, ft_8_40, ft_8_41, nu_fitI, nu_fitL, nu_fitO, nu_fitA, nu_fitB0, nu_fitB1]
      refine ⟨fun c2 => ?_, fun c2 => ?_⟩
      · unfold bk
        rw [if_neg c2, if_pos ⟨c, hm⟩]
      · unfold bk
        rw [if_pos c2]
    · rw [lPl_out hm]
      simp (disch := omega) only [lit_0, lit_1, lit_2, lit_3, lit_4, lit_5, lit_6, lit_7, lit_8, lit_9, lit_10, lit_16, lit_40, lit_48, lit_60, lit_67, lit_76, lit_82, lit_99, lit_100, lit_255, lit_508, lit_720, lit_1023, nI_1, nI_add, pk_sub, pk_mul, pk_div, nu_rem2, nI_clamp, nu_m, nu_m', nu_lm, nu_ml, nu_ltm, nu_mlt, nu_mm, nu_dec, nu_in, nu_le, nu_lt, nu_eq, true_and, and_true, false_imp_iff, true_imp_iff, not_true_eq_false, not_false_eq_true, Nat.not_lt_zero, Nat.zero_le, Nat.le_refl, Nat.lt_irrefl, Nat.reduceEqDiff, Nat.reduceLT, Nat.reduceLeDiff, Nat.reduceAdd, Nat.reduceSub, Nat.reduceMul, Nat.reduceMod, Nat.reduceDiv, Nat.one_ne_zero, Nat.zero_ne_one, ft_0_0, ft_0_1, ft_0_2, ft_0_3, ft_0_4, ft_1_0, ft_1_1, ft_1_2, ft_2_0, ft_2_1, ft_2_2, ft_2_3, ft_2_4, ft_2_5, ft_2_6, ft_2_7, ft_2_8, ft_2_9, ft_2_10, ft_3_0, ft_3_1, ft_3_2, ft_3_3, ft_4_0, ft_4_1, ft_4_2, ft_4_3, ft_4_4, ft_4_5, ft_4_6, ft_5_0, ft_5_1, ft_6_0, ft_6_1, ft_6_2, ft_6_3, ft_6_4, ft_6_5, ft_6_6, ft_7_0, ft_7_1, ft_7_2, ft_7_3, ft_7_4, ft_7_5, ft_7_6, ft_7_7, ft_7_8, ft_7_9, ft_7_10, ft_7_11, ft_7_12, ft_7_13, ft_8_0, ft_8_1, ft_8_2, ft_8_3, ft_8_4, ft_8_5, ft_8_6, ft_8_7, ft_8_8, ft_8_9, ft_8_10, ft_8_11, ft_8_12, ft_8_13, ft_8_14, ft_8_15, ft_8_16, ft_8_17, ft_8_18, ft_8_19, ft_8_20, ft_8_21, ft_8_22, ft_8_23, ft_8_24, ft_8_25, ft_8_26, ft_8_27, ft_8_28, ft_8_29, ft_8_30, ft_8_31, ft_8_32, ft_8_33, ft_8_34, ft_8_35, ft_8_36, ft_8_37, ft_8_38, ft_8_39, ft_8_40, ft_8_41, nu_fitI, nu_fitL, nu_fitO, nu_fitA, nu_fitB0, nu_fitB1]
      refine ⟨fun c2 => ?_, fun c2 => ?_⟩
      · unfold bk
        rw [if_neg c2, if_neg (fun z => hm z.2)]
      · unfold bk
        rw [if_pos c2]
theorem nodup_erase {xs : List Nat} (h : xs.Nodup) (p : Nat) : (xs.eraseIdx p).Nodup := h.sublist (List.eraseIdx_sublist _ _)
theorem m_trip (hf : Ar (s.1 88) xs) (h1 : s.2.1 75 26 = nI xs.length) (hs : ∀ v ∈ xs, v < 8) (hn : xs.Nodup) (hl8 : xs.length ≤ 8) (hr : s.2.1 75 13 = nI law) (hw : law < 3) {a e : Nat} (ha : a ∈ xs) (he : e < 2) : WM tb (d + 3) k_M_trip [vR 75, vI (nI a), vI (nI e)] (HP s) 0 0 (fun z h' => z = some (vI (nI (tG xs a))) ∧ ∃ f', h' = HP (sA s 88 f') ∧ Ar f' (tX (if e = 1 then 2 else law) xs a)) := by
  have ha8 := hs a ha
  have hi := idx_lt ha
  have hp : (xs.idxOf a + 1) % xs.length < xs.length := Nat.mod_lt _ (by omega)
  have hlen := List.length_eraseIdx_of_lt hp
  refine WM.of mi_124 rfl rfl (Nat.le_of_ble_eq_true rfl) ?_
  show WP (mm_rw mr_124) (some .int) tb (WM tb (d + 2)) _ 0 [(0, vR 75), (1, vI (nI a)), (2, vI (nI e))] [] (HP s) 0 0
  (try simp only [Option.toList_some, Option.toList_none, List.nil_append, List.append_nil, List.cons_append, Nat.sub_zero, Nat.sub_self, Nat.zero_sub]); refine Go.wp sp_124 200 ?_; simp only [↓g124_0, ↓g124_1, ↓g124_4, ↓g124_5, ↓g124_8, ↓g124_9, ↓g124_12, ↓g124_13, ↓g124_14, ↓g124_17, ↓g124_18, ↓g124_21, ↓g124_22, ↓g124_23, ↓g124_24, ↓g124_25, ↓g124_28, ↓g124_29, ↓g124_32, ↓g124_34, ↓g124_35, ↓g124_38, ↓g124_39, ↓g124_42, ↓g124_43, ↓g124_44, ↓g124_45, ↓g124_48, ↓g124_49, ↓g124_52, ↓g124_53, ↓g124_54, ↓g124_57, ↓g124_58, ↓g124_61, ↓g124_62, ↓g124_63, ↓g124_64, ↓g124_67, ↓g124_69, ↓g124_72, ↓g124_74, cl_109, cl_117, cl_118, cl_119, cn_0, cn_1, cn_2, cn_3, cn_4, cn_5, cn_6, cn_7, cn_8, ↓Go_s, ↓GoC_a, ↓reduceIte, ↓mm_call_eq, ↓mmw_nil, ↓mmw_cons, List.take_succ_cons, List.take_zero, List.take_nil, List.drop_succ_cons, List.drop_zero, List.drop_nil, List.reverse_cons, List.reverse_nil, List.nil_append, List.cons_append, List.append_nil, Option.toList_some, Option.toList_none, Nat.sub_zero, Nat.le_refl, mmr_cons, mm_st1, mm_st2, mmi_nil, mmi_cons, mmc_I, mmc_L, mmc_R, mmu_get, mmu_one, mma_get, mma_one, List.filter_cons, List.filter_nil, List.contains_cons, List.contains_nil, Nat.reduceBEq, Nat.reduceAdd, Nat.reduceLT, Nat.reduceSub, Nat.reduceLeDiff, Nat.reduceEqDiff, Int32.reduceAdd, Bool.not_true, Bool.not_false, Bool.and_true, Bool.true_and, Bool.and_false, Bool.false_and, Bool.or_false, Bool.false_or, Bool.or_true, Bool.true_or, if_true, if_false, ite_true, ite_false, Bool.false_eq_true, List.getElem?_cons_zero, List.getElem?_cons_succ, List.length_cons, List.length_nil, true_and, and_true, List.set_cons_zero, List.set_cons_succ, Fin.isValue, Fin.val_zero, Fin.val_one, Fin.val_two, Fin.reduceFinMk, Nat.zero_add, hp_75, hp_76, hp_77, hp_78, hp_79, hp_80, hp_81, hp_82, hp_83, hp_84, hp_85, hp_86, hp_87, hp_88, hp_89, hp_90, hp_91, hp_92, hp_93, hp_94, hp_95, hp_96, hp_97, hp_98, og_75_0, og_75_1, og_75_2, og_75_3, og_75_4, og_75_5, og_75_6, og_75_7, og_75_8, og_75_9, og_75_10, og_75_11, og_75_12, og_75_13, og_75_14, og_75_15, og_75_16, og_75_17, og_75_18, og_75_19, og_75_20, og_75_21, og_75_22, og_75_23, og_75_24, og_75_25, og_75_26, og_75_27, og_75_28, og_75_29, og_75_30, og_75_31, og_75_32, og_75_33, og_75_34, og_75_35, og_75_36, og_75_37, og_75_38, og_75_39, og_75_40, og_75_41, ol_75, uo_75_4, uo_75_5, uo_75_6, uo_75_7, uo_75_11, uo_75_12, uo_75_13, uo_75_15, uo_75_19, uo_75_20, uo_75_21, uo_75_22, uo_75_23, uo_75_26, uo_75_30, uo_75_31, uo_75_32, uo_75_33, ua_76, ua_77, ua_78, ua_79, ua_80, ua_81, ua_82, ua_83, ua_84, ua_85, ua_86, ua_87, ua_88, ua_89, ua_90, ua_91, ua_92, ua_93, ua_94, ua_95, ua_96, ua_97, ua_98, sO_g, sA_g, sA_O, sO_A, sO_2, sM_1, sM_2, sM_3, sM_4, sM_5, sM_6, uc_75, h1]
  refine ⟨0, 0, _, Nat.le_refl _, Nat.le_refl _, m_placeIn (d := d + 1) (L := 9) rfl (by omega) (by omega) hf hs hn (by omega), fun z h' hz => ?_⟩
  obtain ⟨rfl, rfl⟩ := hz
  rw [lPl_in ha]
  (try simp only [Option.toList_some, Option.toList_none, List.nil_append, List.append_nil, List.cons_append, Nat.sub_zero, Nat.sub_self, Nat.zero_sub]); refine Go.wp sp_124 200 ?_; simp only [↓g124_0, ↓g124_1, ↓g124_4, ↓g124_5, ↓g124_8, ↓g124_9, ↓g124_12, ↓g124_13, ↓g124_14, ↓g124_17, ↓g124_18, ↓g124_21, ↓g124_22, ↓g124_23, ↓g124_24, ↓g124_25, ↓g124_28, ↓g124_29, ↓g124_32, ↓g124_34, ↓g124_35, ↓g124_38, ↓g124_39, ↓g124_42, ↓g124_43, ↓g124_44, ↓g124_45, ↓g124_48, ↓g124_49, ↓g124_52, ↓g124_53, ↓g124_54, ↓g124_57, ↓g124_58, ↓g124_61, ↓g124_62, ↓g124_63, ↓g124_64, ↓g124_67, ↓g124_69, ↓g124_72, ↓g124_74, cl_109, cl_117, cl_118, cl_119, cn_0, cn_1, cn_2, cn_3, cn_4, cn_5, cn_6, cn_7, cn_8, ↓Go_s, ↓GoC_a, ↓reduceIte, ↓mm_call_eq, ↓mmw_nil, ↓mmw_cons, List.take_succ_cons, List.take_zero, List.take_nil, List.drop_succ_cons, List.drop_zero, List.drop_nil, List.reverse_cons, List.reverse_nil, List.nil_append, List.cons_append, List.append_nil, Option.toList_some, Option.toList_none, Nat.sub_zero, Nat.le_refl, mmr_cons, mm_st1, mm_st2, mmi_nil, mmi_cons, mmc_I, mmc_L, mmc_R, mmu_get, mmu_one, mma_get, mma_one, List.filter_cons, List.filter_nil, List.contains_cons, List.contains_nil, Nat.reduceBEq, Nat.reduceAdd, Nat.reduceLT, Nat.reduceSub, Nat.reduceLeDiff, Nat.reduceEqDiff, Int32.reduceAdd, Bool.not_true, Bool.not_false, Bool.and_true, Bool.true_and, Bool.and_false, Bool.false_and, Bool.or_false, Bool.false_or, Bool.or_true, Bool.true_or, if_true, if_false, ite_true, ite_false, Bool.false_eq_true, List.getElem?_cons_zero, List.getElem?_cons_succ, List.length_cons, List.length_nil, true_and, and_true, List.set_cons_zero, List.set_cons_succ, Fin.isValue, Fin.val_zero, Fin.val_one, Fin.val_two, Fin.reduceFinMk, Nat.zero_add, hp_75, hp_76, hp_77, hp_78, hp_79, hp_80, hp_81, hp_82, hp_83, hp_84, hp_85, hp_86, hp_87, hp_88, hp_89, hp_90, hp_91, hp_92, hp_93, hp_94, hp_95, hp_96, hp_97, hp_98, og_75_0, og_75_1, og_75_2, og_75_3, og_75_4, og_75_5, og_75_6, og_75_7, og_75_8, og_75_9, og_75_10, og_75_11, og_75_12, og_75_13, og_75_14, og_75_15, og_75_16, og_75_17, og_75_18, og_75_19, og_75_20, og_75_21, og_75_22, og_75_23, og_75_24, og_75_25, og_75_26, og_75_27, og_75_28, og_75_29, og_75_30, og_75_31, og_75_32, og_75_33, og_75_34, og_75_35, og_75_36, og_75_37, og_75_38, og_75_39, og_75_40, og_75_41, ol_75, uo_75_4, uo_75_5, uo_75_6, uo_75_7, uo_75_11, uo_75_12, uo_75_13, uo_75_15, uo_75_19, uo_75_20, uo_75_21, uo_75_22, uo_75_23, uo_75_26, uo_75_30, uo_75_31, uo_75_32, uo_75_33, ua_76, ua_77, ua_78, ua_79, ua_80, ua_81, ua_82, ua_83, ua_84, ua_85, ua_86, ua_87, ua_88, ua_89, ua_90, ua_91, ua_92, ua_93, ua_94, ua_95, ua_96, ua_97, ua_98, sO_g, sA_g, sA_O, sO_A, sO_2, sM_1, sM_2, sM_3, sM_4, sM_5, sM_6, uc_75, h1]
  simp (disch := omega) only [lit_0, lit_1, lit_2, lit_3, lit_4, lit_5, lit_6, lit_7, lit_8, lit_9, lit_10, lit_16, lit_40, lit_48, lit_60, lit_67, lit_76, lit_82, lit_99, lit_100, lit_255, lit_508, lit_720, lit_1023, nI_1, nI_add, pk_sub, pk_mul, pk_div, nu_rem2, nI_clamp, nu_m, nu_m', nu_lm, nu_ml, nu_ltm, nu_mlt, nu_mm, nu_dec, nu_in, nu_le, nu_lt, nu_eq, true_and, and_true, false_imp_iff, true_imp_iff, not_true_eq_false, not_false_eq_true, Nat.not_lt_zero, Nat.zero_le, Nat.le_refl, Nat.lt_irrefl, Nat.reduceEqDiff, Nat.reduceLT, Nat.reduceLeDiff, Nat.reduceAdd, Nat.reduceSub, Nat.reduceMul, Nat.reduceMod, Nat.reduceDiv, Nat.one_ne_zero, Nat.zero_ne_one, ft_0_0, ft_0_1, ft_0_2, ft_0_3, ft_0_4, ft_1_0, ft_1_1, ft_1_2, ft_2_0, ft_2_1, ft_2_2, ft_2_3, ft_2_4, ft_2_5, ft_2_6, ft_2_7, ft_2_8, ft_2_9, ft_2_10, ft_3_0, ft_3_1, ft_3_2, ft_3_3, ft_4_0, ft_4_1, ft_4_2, ft_4_3, ft_4_4, ft_4_5, ft_4_6, ft_5_0, ft_5_1, ft_6_0, ft_6_1, ft_6_2, ft_6_3, ft_6_4, ft_6_5, ft_6_6, ft_7_0, ft_7_1, ft_7_2, ft_7_3, ft_7_4, ft_7_5, ft_7_6, ft_7_7, ft_7_8, ft_7_9, ft_7_10, ft_7_11, ft_7_12, ft_7_13, ft_8_0, ft_8_1, ft_8_2, ft_8_3, ft_8_4, ft_8_5, ft_8_6, ft_8_7, ft_8_8, ft_8_9, ft_8_10, ft_8_11, ft_8_12, ft_8_13, ft_8_14, ft_8_15, ft_8_16, ft_8_17, ft_8_18, ft_8_19, ft_8_20, ft_8_21, ft_8_22, ft_8_23, ft_8_24, ft_8_25, ft_8_26, ft_8_27, ft_8_28, ft_8_29, ft_8_30, ft_8_31, ft_8_32, ft_8_33, ft_8_34, ft_8_35, ft_8_36, ft_8_37, ft_8_38, ft_8_39, ft_8_40, ft_8_41, nu_fitI, nu_fitL, nu_fitO, nu_fitA, nu_fitB0, nu_fitB1]
  refine ⟨by omega, 0, 0, _, Nat.le_refl _, Nat.le_refl _, m_takeOut (d := d + 1) (L := 9) (f := s.1 88) (xs := xs) rfl (by omega) (by omega) hf hp, fun z h' hz => ?_⟩
  obtain ⟨rfl, f1, rfl, hf1⟩ := hz
  (try simp only [Option.toList_some, Option.toList_none, List.nil_append, List.append_nil, List.cons_append, Nat.sub_zero, Nat.sub_self, Nat.zero_sub]); refine Go.wp sp_124 200 ?_; simp only [↓g124_0, ↓g124_1, ↓g124_4, ↓g124_5, ↓g124_8, ↓g124_9, ↓g124_12, ↓g124_13, ↓g124_14, ↓g124_17, ↓g124_18, ↓g124_21, ↓g124_22, ↓g124_23, ↓g124_24, ↓g124_25, ↓g124_28, ↓g124_29, ↓g124_32, ↓g124_34, ↓g124_35, ↓g124_38, ↓g124_39, ↓g124_42, ↓g124_43, ↓g124_44, ↓g124_45, ↓g124_48, ↓g124_49, ↓g124_52, ↓g124_53, ↓g124_54, ↓g124_57, ↓g124_58, ↓g124_61, ↓g124_62, ↓g124_63, ↓g124_64, ↓g124_67, ↓g124_69, ↓g124_72, ↓g124_74, cl_109, cl_117, cl_118, cl_119, cn_0, cn_1, cn_2, cn_3, cn_4, cn_5, cn_6, cn_7, cn_8, ↓Go_s, ↓GoC_a, ↓reduceIte, ↓mm_call_eq, ↓mmw_nil, ↓mmw_cons, List.take_succ_cons, List.take_zero, List.take_nil, List.drop_succ_cons, List.drop_zero, List.drop_nil, List.reverse_cons, List.reverse_nil, List.nil_append, List.cons_append, List.append_nil, Option.toList_some, Option.toList_none, Nat.sub_zero, Nat.le_refl, mmr_cons, mm_st1, mm_st2, mmi_nil, mmi_cons, mmc_I, mmc_L, mmc_R, mmu_get, mmu_one, mma_get, mma_one, List.filter_cons, List.filter_nil, List.contains_cons, List.contains_nil, Nat.reduceBEq, Nat.reduceAdd, Nat.reduceLT, Nat.reduceSub, Nat.reduceLeDiff, Nat.reduceEqDiff, Int32.reduceAdd, Bool.not_true, Bool.not_false, Bool.and_true, Bool.true_and, Bool.and_false, Bool.false_and, Bool.or_false, Bool.false_or, Bool.or_true, Bool.true_or, if_true, if_false, ite_true, ite_false, Bool.false_eq_true, List.getElem?_cons_zero, List.getElem?_cons_succ, List.length_cons, List.length_nil, true_and, and_true, List.set_cons_zero, List.set_cons_succ, Fin.isValue, Fin.val_zero, Fin.val_one, Fin.val_two, Fin.reduceFinMk, Nat.zero_add, hp_75, hp_76, hp_77, hp_78, hp_79, hp_80, hp_81, hp_82, hp_83, hp_84, hp_85, hp_86, hp_87, hp_88, hp_89, hp_90, hp_91, hp_92, hp_93, hp_94, hp_95, hp_96, hp_97, hp_98, og_75_0, og_75_1, og_75_2, og_75_3, og_75_4, og_75_5, og_75_6, og_75_7, og_75_8, og_75_9, og_75_10, og_75_11, og_75_12, og_75_13, og_75_14, og_75_15, og_75_16, og_75_17, og_75_18, og_75_19, og_75_20, og_75_21, og_75_22, og_75_23, og_75_24, og_75_25, og_75_26, og_75_27, og_75_28, og_75_29, og_75_30, og_75_31, og_75_32, og_75_33, og_75_34, og_75_35, og_75_36, og_75_37, og_75_38, og_75_39, og_75_40, og_75_41, ol_75, uo_75_4, uo_75_5, uo_75_6, uo_75_7, uo_75_11, uo_75_12, uo_75_13, uo_75_15, uo_75_19, uo_75_20, uo_75_21, uo_75_22, uo_75_23, uo_75_26, uo_75_30, uo_75_31, uo_75_32, uo_75_33, ua_76, ua_77, ua_78, ua_79, ua_80, ua_81, ua_82, ua_83, ua_84, ua_85, ua_86, ua_87, ua_88, ua_89, ua_90, ua_91, ua_92, ua_93, ua_94, ua_95, ua_96, ua_97, ua_98, sO_g, sA_g, sA_O, sO_A, sO_2, sM_1, sM_2, sM_3, sM_4, sM_5, sM_6, uc_75, h1]
  simp (disch := omega) only [lit_0, lit_1, lit_2, lit_3, lit_4, lit_5, lit_6, lit_7, lit_8, lit_9, lit_10, lit_16, lit_40, lit_48, lit_60, lit_67, lit_76, lit_82, lit_99, lit_100, lit_255, lit_508, lit_720, lit_1023, nI_1, nI_add, pk_sub, pk_mul, pk_div, nu_rem2, nI_clamp, nu_m, nu_m', nu_lm, nu_ml, nu_ltm, nu_mlt, nu_mm, nu_dec, nu_in, nu_le, nu_lt, nu_eq, true_and, and_true, false_imp_iff, true_imp_iff, not_true_eq_false, not_false_eq_true, Nat.not_lt_zero, Nat.zero_le, Nat.le_refl, Nat.lt_irrefl, Nat.reduceEqDiff, Nat.reduceLT, Nat.reduceLeDiff, Nat.reduceAdd, Nat.reduceSub, Nat.reduceMul, Nat.reduceMod, Nat.reduceDiv, Nat.one_ne_zero, Nat.zero_ne_one, ft_0_0, ft_0_1, ft_0_2, ft_0_3, ft_0_4, ft_1_0, ft_1_1, ft_1_2, ft_2_0, ft_2_1, ft_2_2, ft_2_3, ft_2_4, ft_2_5, ft_2_6, ft_2_7, ft_2_8, ft_2_9, ft_2_10, ft_3_0, ft_3_1, ft_3_2, ft_3_3, ft_4_0, ft_4_1, ft_4_2, ft_4_3, ft_4_4, ft_4_5, ft_4_6, ft_5_0, ft_5_1, ft_6_0, ft_6_1, ft_6_2, ft_6_3, ft_6_4, ft_6_5, ft_6_6, ft_7_0, ft_7_1, ft_7_2, ft_7_3, ft_7_4, ft_7_5, ft_7_6, ft_7_7, ft_7_8, ft_7_9, ft_7_10, ft_7_11, ft_7_12, ft_7_13, ft_8_0, ft_8_1, ft_8_2, ft_8_3, ft_8_4, ft_8_5, ft_8_6, ft_8_7, ft_8_8, ft_8_9, ft_8_10, ft_8_11, ft_8_12, ft_8_13, ft_8_14, ft_8_15, ft_8_16, ft_8_17, ft_8_18, ft_8_19, ft_8_20, ft_8_21, ft_8_22, ft_8_23, ft_8_24, ft_8_25, ft_8_26, ft_8_27, ft_8_28, ft_8_29, ft_8_30, ft_8_31, ft_8_32, ft_8_33, ft_8_34, ft_8_35, ft_8_36, ft_8_37, ft_8_38, ft_8_39, ft_8_40, ft_8_41, nu_fitI, nu_fitL, nu_fitO, nu_fitA, nu_fitB0, nu_fitB1]
  have hys : ∀ v ∈ xs.eraseIdx ((xs.idxOf a + 1) % xs.length), v < 8 := fun v hv => hs v (List.mem_of_mem_eraseIdx hv)
  have hny := nodup_erase hn ((xs.idxOf a + 1) % xs.length)
  have fin : ∀ B : Nat, B = bk (if e = 1 then 2 else law) (xs.eraseIdx ((xs.idxOf a + 1) % xs.length)) a → WP (mm_rw mr_124) (some FieldType.int) tb (WM tb (d + 2)) (fun z h' => z = some (vI (nI (tG xs a))) ∧ ∃ f', h' = HP (sA s 88 f') ∧ Ar f' (tX (if e = 1 then 2 else law) xs a)) 67 [(0, vR 75), (1, vI (nI a)), (2, vI (nI e)), (3, vI (nI (List.idxOf a xs))), (4, vI (nI (xs.getD ((List.idxOf a xs + 1) % xs.length) 0)))] [vI (nI B), vI (nI (xs.length - 1)), vR 88] (HP (sA s 88 f1)) 0 0 := by
    intro B hB
    (try simp only [Option.toList_some, Option.toList_none, List.nil_append, List.append_nil, List.cons_append, Nat.sub_zero, Nat.sub_self, Nat.zero_sub]); refine Go.wp sp_124 200 ?_; simp only [↓g124_0, ↓g124_1, ↓g124_4, ↓g124_5, ↓g124_8, ↓g124_9, ↓g124_12, ↓g124_13, ↓g124_14, ↓g124_17, ↓g124_18, ↓g124_21, ↓g124_22, ↓g124_23, ↓g124_24, ↓g124_25, ↓g124_28, ↓g124_29, ↓g124_32, ↓g124_34, ↓g124_35, ↓g124_38, ↓g124_39, ↓g124_42, ↓g124_43, ↓g124_44, ↓g124_45, ↓g124_48, ↓g124_49, ↓g124_52, ↓g124_53, ↓g124_54, ↓g124_57, ↓g124_58, ↓g124_61, ↓g124_62, ↓g124_63, ↓g124_64, ↓g124_67, ↓g124_69, ↓g124_72, ↓g124_74, cl_109, cl_117, cl_118, cl_119, cn_0, cn_1, cn_2, cn_3, cn_4, cn_5, cn_6, cn_7, cn_8, ↓Go_s, ↓GoC_a, ↓reduceIte, ↓mm_call_eq, ↓mmw_nil, ↓mmw_cons, List.take_succ_cons, List.take_zero, List.take_nil, List.drop_succ_cons, List.drop_zero, List.drop_nil, List.reverse_cons, List.reverse_nil, List.nil_append, List.cons_append, List.append_nil, Option.toList_some, Option.toList_none, Nat.sub_zero, Nat.le_refl, mmr_cons, mm_st1, mm_st2, mmi_nil, mmi_cons, mmc_I, mmc_L, mmc_R, mmu_get, mmu_one, mma_get, mma_one, List.filter_cons, List.filter_nil, List.contains_cons, List.contains_nil, Nat.reduceBEq, Nat.reduceAdd, Nat.reduceLT, Nat.reduceSub, Nat.reduceLeDiff, Nat.reduceEqDiff, Int32.reduceAdd, Bool.not_true, Bool.not_false, Bool.and_true, Bool.true_and, Bool.and_false, Bool.false_and, Bool.or_false, Bool.false_or, Bool.or_true, Bool.true_or, if_true, if_false, ite_true, ite_false, Bool.false_eq_true, List.getElem?_cons_zero, List.getElem?_cons_succ, List.length_cons, List.length_nil, true_and, and_true, List.set_cons_zero, List.set_cons_succ, Fin.isValue, Fin.val_zero, Fin.val_one, Fin.val_two, Fin.reduceFinMk, Nat.zero_add, hp_75, hp_76, hp_77, hp_78, hp_79, hp_80, hp_81, hp_82, hp_83, hp_84, hp_85, hp_86, hp_87, hp_88, hp_89, hp_90, hp_91, hp_92, hp_93, hp_94, hp_95, hp_96, hp_97, hp_98, og_75_0, og_75_1, og_75_2, og_75_3, og_75_4, og_75_5, og_75_6, og_75_7, og_75_8, og_75_9, og_75_10, og_75_11, og_75_12, og_75_13, og_75_14, og_75_15, og_75_16, og_75_17, og_75_18, og_75_19, og_75_20, og_75_21, og_75_22, og_75_23, og_75_24, og_75_25, og_75_26, og_75_27, og_75_28, og_75_29, og_75_30, og_75_31, og_75_32, og_75_33, og_75_34, og_75_35, og_75_36, og_75_37, og_75_38, og_75_39, og_75_40, og_75_41, ol_75, uo_75_4, uo_75_5, uo_75_6, uo_75_7, uo_75_11, uo_75_12, uo_75_13, uo_75_15, uo_75_19, uo_75_20, uo_75_21, uo_75_22, uo_75_23, uo_75_26, uo_75_30, uo_75_31, uo_75_32, uo_75_33, ua_76, ua_77, ua_78, ua_79, ua_80, ua_81, ua_82, ua_83, ua_84, ua_85, ua_86, ua_87, ua_88, ua_89, ua_90, ua_91, ua_92, ua_93, ua_94, ua_95, ua_96, ua_97, ua_98, sO_g, sA_g, sA_O, sO_A, sO_2, sM_1, sM_2, sM_3, sM_4, sM_5, sM_6, uc_75, h1]
    rw [← hlen]
    refine ⟨0, 0, _, Nat.le_refl _, Nat.le_refl _, m_putIn (d := d + 1) (L := 9) (f := f1) (q := 88) rfl (by omega) (by omega) hf1 (by rw [hB]; exact bk_le _ _ _), fun z h' hz => ?_⟩
    obtain ⟨rfl, f2, rfl, hf2⟩ := hz
    rw [ua_88]
    (try simp only [Option.toList_some, Option.toList_none, List.nil_append, List.append_nil, List.cons_append, Nat.sub_zero, Nat.sub_self, Nat.zero_sub]); refine Go.wp sp_124 200 ?_; simp only [↓g124_0, ↓g124_1, ↓g124_4, ↓g124_5, ↓g124_8, ↓g124_9, ↓g124_12, ↓g124_13, ↓g124_14, ↓g124_17, ↓g124_18, ↓g124_21, ↓g124_22, ↓g124_23, ↓g124_24, ↓g124_25, ↓g124_28, ↓g124_29, ↓g124_32, ↓g124_34, ↓g124_35, ↓g124_38, ↓g124_39, ↓g124_42, ↓g124_43, ↓g124_44, ↓g124_45, ↓g124_48, ↓g124_49, ↓g124_52, ↓g124_53, ↓g124_54, ↓g124_57, ↓g124_58, ↓g124_61, ↓g124_62, ↓g124_63, ↓g124_64, ↓g124_67, ↓g124_69, ↓g124_72, ↓g124_74, cl_109, cl_117, cl_118, cl_119, cn_0, cn_1, cn_2, cn_3, cn_4, cn_5, cn_6, cn_7, cn_8, ↓Go_s, ↓GoC_a, ↓reduceIte, ↓mm_call_eq, ↓mmw_nil, ↓mmw_cons, List.take_succ_cons, List.take_zero, List.take_nil, List.drop_succ_cons, List.drop_zero, List.drop_nil, List.reverse_cons, List.reverse_nil, List.nil_append, List.cons_append, List.append_nil, Option.toList_some, Option.toList_none, Nat.sub_zero, Nat.le_refl, mmr_cons, mm_st1, mm_st2, mmi_nil, mmi_cons, mmc_I, mmc_L, mmc_R, mmu_get, mmu_one, mma_get, mma_one, List.filter_cons, List.filter_nil, List.contains_cons, List.contains_nil, Nat.reduceBEq, Nat.reduceAdd, Nat.reduceLT, Nat.reduceSub, Nat.reduceLeDiff, Nat.reduceEqDiff, Int32.reduceAdd, Bool.not_true, Bool.not_false, Bool.and_true, Bool.true_and, Bool.and_false, Bool.false_and, Bool.or_false, Bool.false_or, Bool.or_true, Bool.true_or, if_true, if_false, ite_true, ite_false, Bool.false_eq_true, List.getElem?_cons_zero, List.getElem?_cons_succ, List.length_cons, List.length_nil, true_and, and_true, List.set_cons_zero, List.set_cons_succ, Fin.isValue, Fin.val_zero, Fin.val_one, Fin.val_two, Fin.reduceFinMk, Nat.zero_add, hp_75, hp_76, hp_77, hp_78, hp_79, hp_80, hp_81, hp_82, hp_83, hp_84, hp_85, hp_86, hp_87, hp_88, hp_89, hp_90, hp_91, hp_92, hp_93, hp_94, hp_95, hp_96, hp_97, hp_98, og_75_0, og_75_1, og_75_2, og_75_3, og_75_4, og_75_5, og_75_6, og_75_7, og_75_8, og_75_9, og_75_10, og_75_11, og_75_12, og_75_13, og_75_14, og_75_15, og_75_16, og_75_17, og_75_18, og_75_19, og_75_20, og_75_21, og_75_22, og_75_23, og_75_24, og_75_25, og_75_26, og_75_27, og_75_28, og_75_29, og_75_30, og_75_31, og_75_32, og_75_33, og_75_34, og_75_35, og_75_36, og_75_37, og_75_38, og_75_39, og_75_40, og_75_41, ol_75, uo_75_4, uo_75_5, uo_75_6, uo_75_7, uo_75_11, uo_75_12, uo_75_13, uo_75_15, uo_75_19, uo_75_20, uo_75_21, uo_75_22, uo_75_23, uo_75_26, uo_75_30, uo_75_31, uo_75_32, uo_75_33, ua_76, ua_77, ua_78, ua_79, ua_80, ua_81, ua_82, ua_83, ua_84, ua_85, ua_86, ua_87, ua_88, ua_89, ua_90, ua_91, ua_92, ua_93, ua_94, ua_95, ua_96, ua_97, ua_98, sO_g, sA_g, sA_O, sO_A, sO_2, sM_1, sM_2, sM_3, sM_4, sM_5, sM_6, uc_75, h1]
    refine ⟨rfl, f2, by rw [sA_sA], ?_⟩
    rw [hB] at hf2
    exact hf2
  refine ⟨fun c => ?_, fun c => ?_⟩
  · rw [← hlen]
    refine ⟨0, 0, _, Nat.le_refl _, Nat.le_refl _, m_backAt (d := d) (s := sA s 88 f1) (L := 9) (f := f1) rfl (by omega) (by omega) hf1 hys hny (by omega) hr hw (by omega), fun z h' hz => ?_⟩
    obtain ⟨rfl, rfl⟩ := hz
    rw [hlen]
    exact fin _ (by rw [if_neg (by omega)])
  · have he1 : e = 1 := by omega
    exact fin 0 (by rw [if_pos he1]; rfl)
theorem m_copyShelf (hf : Ar (s.1 83) xs) (h1 : s.2.1 75 15 = nI xs.length) (hl8 : xs.length ≤ 8) : WM tb (d + 1) k_M_copyShelf [vR 75] (HP s) 0 0 (fun z h' => z = none ∧ ∃ f', h' = HP (sA (sO s 75 26 (nI xs.length)) 88 f') ∧ Ar f' xs) := by
  have key : ∀ m k (g : Nat → Int32), m = xs.length - k → k ≤ xs.length → (∀ j, j < k → g j = nI (xs.getD j 0)) → WP (mm_rw mr_123) none tb (WM tb d) (fun z h' => z = none ∧ ∃ f', h' = HP (sA (sO s 75 26 (nI xs.length)) 88 f') ∧ Ar f' xs) 10 [(0, vR 75), (1, vI (nI k))] [] (HP (sA (sO s 75 26 (nI xs.length)) 88 g)) 0 0 := by
    intro m
    induction m with
    | zero =>
      intro k g hm hk a1
      have e : k = xs.length := by omega
      subst e
      (try simp only [Option.toList_some, Option.toList_none, List.nil_append, List.append_nil, List.cons_append, Nat.sub_zero, Nat.sub_self, Nat.zero_sub]); refine Go.wp sp_123 200 ?_; simp only [↓g123_0, ↓g123_1, ↓g123_2, ↓g123_5, ↓g123_8, ↓g123_9, ↓g123_10, ↓g123_11, ↓g123_12, ↓g123_15, ↓g123_18, ↓g123_19, ↓g123_22, ↓g123_23, ↓g123_24, ↓g123_27, ↓g123_28, ↓g123_28t, ↓g123_29, ↓g123_30, ↓g123_33, ↓g123_36, ↓Go_s, ↓GoC_a, ↓reduceIte, ↓mm_call_eq, ↓mmw_nil, ↓mmw_cons, List.take_succ_cons, List.take_zero, List.take_nil, List.drop_succ_cons, List.drop_zero, List.drop_nil, List.reverse_cons, List.reverse_nil, List.nil_append, List.cons_append, List.append_nil, Option.toList_some, Option.toList_none, Nat.sub_zero, Nat.le_refl, mmr_cons, mm_st1, mm_st2, mmi_nil, mmi_cons, mmc_I, mmc_L, mmc_R, mmu_get, mmu_one, mma_get, mma_one, List.filter_cons, List.filter_nil, List.contains_cons, List.contains_nil, Nat.reduceBEq, Nat.reduceAdd, Nat.reduceLT, Nat.reduceSub, Nat.reduceLeDiff, Nat.reduceEqDiff, Int32.reduceAdd, Bool.not_true, Bool.not_false, Bool.and_true, Bool.true_and, Bool.and_false, Bool.false_and, Bool.or_false, Bool.false_or, Bool.or_true, Bool.true_or, if_true, if_false, ite_true, ite_false, Bool.false_eq_true, List.getElem?_cons_zero, List.getElem?_cons_succ, List.length_cons, List.length_nil, true_and, and_true, List.set_cons_zero, List.set_cons_succ, Fin.isValue, Fin.val_zero, Fin.val_one, Fin.val_two, Fin.reduceFinMk, Nat.zero_add, hp_75, hp_76, hp_77, hp_78, hp_79, hp_80, hp_81, hp_82, hp_83, hp_84, hp_85, hp_86, hp_87, hp_88, hp_89, hp_90, hp_91, hp_92, hp_93, hp_94, hp_95, hp_96, hp_97, hp_98, og_75_0, og_75_1, og_75_2, og_75_3, og_75_4, og_75_5, og_75_6, og_75_7, og_75_8, og_75_9, og_75_10, og_75_11, og_75_12, og_75_13, og_75_14, og_75_15, og_75_16, og_75_17, og_75_18, og_75_19, og_75_20, og_75_21, og_75_22, og_75_23, og_75_24, og_75_25, og_75_26, og_75_27, og_75_28, og_75_29, og_75_30, og_75_31, og_75_32, og_75_33, og_75_34, og_75_35, og_75_36, og_75_37, og_75_38, og_75_39, og_75_40, og_75_41, ol_75, uo_75_4, uo_75_5, uo_75_6, uo_75_7, uo_75_11, uo_75_12, uo_75_13, uo_75_15, uo_75_19, uo_75_20, uo_75_21, uo_75_22, uo_75_23, uo_75_26, uo_75_30, uo_75_31, uo_75_32, uo_75_33, ua_76, ua_77, ua_78, ua_79, ua_80, ua_81, ua_82, ua_83, ua_84, ua_85, ua_86, ua_87, ua_88, ua_89, ua_90, ua_91, ua_92, ua_93, ua_94, ua_95, ua_96, ua_97, ua_98, sO_g, sA_g, sA_O, sO_A, sO_2, sM_1, sM_2, sM_3, sM_4, sM_5, sM_6, uc_75, h1]
      refine ⟨fun _ => ⟨g, rfl, a1⟩, fun c => absurd (Int32.le_refl _) c⟩
    | succ m ih =>
      intro k g hm hk a1
      have hk' : k < xs.length := by omega
      (try simp only [Option.toList_some, Option.toList_none, List.nil_append, List.append_nil, List.cons_append, Nat.sub_zero, Nat.sub_self, Nat.zero_sub]); refine Go.wp sp_123 200 ?_; simp only [↓g123_0, ↓g123_1, ↓g123_2, ↓g123_5, ↓g123_8, ↓g123_9, ↓g123_10, ↓g123_11, ↓g123_12, ↓g123_15, ↓g123_18, ↓g123_19, ↓g123_22, ↓g123_23, ↓g123_24, ↓g123_27, ↓g123_28, ↓g123_28t, ↓g123_29, ↓g123_30, ↓g123_33, ↓g123_36, ↓Go_s, ↓GoC_a, ↓reduceIte, ↓mm_call_eq, ↓mmw_nil, ↓mmw_cons, List.take_succ_cons, List.take_zero, List.take_nil, List.drop_succ_cons, List.drop_zero, List.drop_nil, List.reverse_cons, List.reverse_nil, List.nil_append, List.cons_append, List.append_nil, Option.toList_some, Option.toList_none, Nat.sub_zero, Nat.le_refl, mmr_cons, mm_st1, mm_st2, mmi_nil, mmi_cons, mmc_I, mmc_L, mmc_R, mmu_get, mmu_one, mma_get, mma_one, List.filter_cons, List.filter_nil, List.contains_cons, List.contains_nil, Nat.reduceBEq, Nat.reduceAdd, Nat.reduceLT, Nat.reduceSub, Nat.reduceLeDiff, Nat.reduceEqDiff, Int32.reduceAdd, Bool.not_true, Bool.not_false, Bool.and_true, Bool.true_and, Bool.and_false, Bool.false_and, Bool.or_false, Bool.false_or, Bool.or_true, Bool.true_or, if_true, if_false, ite_true, ite_false, Bool.false_eq_true, List.getElem?_cons_zero, List.getElem?_cons_succ, List.length_cons, List.length_nil, true_and, and_true, List.set_cons_zero, List.set_cons_succ, Fin.isValue, Fin.val_zero, Fin.val_one, Fin.val_two, Fin.reduceFinMk, Nat.zero_add, hp_75, hp_76, hp_77, hp_78, hp_79, hp_80, hp_81, hp_82, hp_83, hp_84, hp_85, hp_86, hp_87, hp_88, hp_89, hp_90, hp_91, hp_92, hp_93, hp_94, hp_95, hp_96, hp_97, hp_98, og_75_0, og_75_1, og_75_2, og_75_3, og_75_4, og_75_5, og_75_6, og_75_7, og_75_8, og_75_9, og_75_10, og_75_11, og_75_12, og_75_13, og_75_14, og_75_15, og_75_16, og_75_17, og_75_18, og_75_19, og_75_20, og_75_21, og_75_22, og_75_23, og_75_24, og_75_25, og_75_26, og_75_27, og_75_28, og_75_29, og_75_30, og_75_31, og_75_32, og_75_33, og_75_34, og_75_35, og_75_36, og_75_37, og_75_38, og_75_39, og_75_40, og_75_41, ol_75, uo_75_4, uo_75_5, uo_75_6, uo_75_7, uo_75_11, uo_75_12, uo_75_13, uo_75_15, uo_75_19, uo_75_20, uo_75_21, uo_75_22, uo_75_23, uo_75_26, uo_75_30, uo_75_31, uo_75_32, uo_75_33, ua_76, ua_77, ua_78, ua_79, ua_80, ua_81, ua_82, ua_83, ua_84, ua_85, ua_86, ua_87, ua_88, ua_89, ua_90, ua_91, ua_92, ua_93, ua_94, ua_95, ua_96, ua_97, ua_98, sO_g, sA_g, sA_O, sO_A, sO_2, sM_1, sM_2, sM_3, sM_4, sM_5, sM_6, uc_75, h1]
      simp (disch := omega) only [lit_0, lit_1, lit_2, lit_3, lit_4, lit_5, lit_6, lit_7, lit_8, lit_9, lit_10, lit_16, lit_40, lit_48, lit_60, lit_67, lit_76, lit_82, lit_99, lit_100, lit_255, lit_508, lit_720, lit_1023, nI_1, nI_add, pk_sub, pk_mul, pk_div, nu_rem2, nI_clamp, nu_m, nu_m', nu_lm, nu_ml, nu_ltm, nu_mlt, nu_mm, nu_dec, nu_in, nu_le, nu_lt, nu_eq, true_and, and_true, false_imp_iff, true_imp_iff, not_true_eq_false, not_false_eq_true, Nat.not_lt_zero, Nat.zero_le, Nat.le_refl, Nat.lt_irrefl, Nat.reduceEqDiff, Nat.reduceLT, Nat.reduceLeDiff, Nat.reduceAdd, Nat.reduceSub, Nat.reduceMul, Nat.reduceMod, Nat.reduceDiv, Nat.one_ne_zero, Nat.zero_ne_one, ft_0_0, ft_0_1, ft_0_2, ft_0_3, ft_0_4, ft_1_0, ft_1_1, ft_1_2, ft_2_0, ft_2_1, ft_2_2, ft_2_3, ft_2_4, ft_2_5, ft_2_6, ft_2_7, ft_2_8, ft_2_9, ft_2_10, ft_3_0, ft_3_1, ft_3_2, ft_3_3, ft_4_0, ft_4_1, ft_4_2, ft_4_3, ft_4_4, ft_4_5, ft_4_6, ft_5_0, ft_5_1, ft_6_0, ft_6_1, ft_6_2, ft_6_3, ft_6_4, ft_6_5, ft_6_6, ft_7_0, ft_7_1, ft_7_2, ft_7_3, ft_7_4, ft_7_5, ft_7_6, ft_7_7, ft_7_8, ft_7_9, ft_7_10, ft_7_11, ft_7_12, ft_7_13, ft_8_0, ft_8_1, ft_8_2, ft_8_3, ft_8_4, ft_8_5, ft_8_6, ft_8_7, ft_8_8, ft_8_9, ft_8_10, ft_8_11, ft_8_12, ft_8_13, ft_8_14, ft_8_15, ft_8_16, ft_8_17, ft_8_18, ft_8_19, ft_8_20, ft_8_21, ft_8_22, ft_8_23, ft_8_24, ft_8_25, ft_8_26, ft_8_27, ft_8_28, ft_8_29, ft_8_30, ft_8_31, ft_8_32, ft_8_33, ft_8_34, ft_8_35, ft_8_36, ft_8_37, ft_8_38, ft_8_39, ft_8_40, ft_8_41, nu_fitI, nu_fitL, nu_fitO, nu_fitA, nu_fitB0, nu_fitB1, Nat.not_le.mpr hk', hk', hf k hk']
      refine ⟨by omega, by omega, ?_⟩
      rw [sA_sA]
      refine ih (k + 1) _ (by omega) hk' (fun j hj => ?_)
      unfold upd
      by_cases e : j = k
      · rw [if_pos e, e]
      · rw [if_neg e, a1 j (by omega)]
  refine WM.of mi_123 rfl rfl (Nat.le_of_ble_eq_true rfl) ?_
  show WP (mm_rw mr_123) none tb (WM tb d) _ 0 [(0, vR 75)] [] (HP s) 0 0
  (try simp only [Option.toList_some, Option.toList_none, List.nil_append, List.append_nil, List.cons_append, Nat.sub_zero, Nat.sub_self, Nat.zero_sub]); refine Go.wp sp_123 200 ?_; simp only [↓g123_0, ↓g123_1, ↓g123_2, ↓g123_5, ↓g123_8, ↓g123_9, ↓g123_10, ↓g123_11, ↓g123_12, ↓g123_15, ↓g123_18, ↓g123_19, ↓g123_22, ↓g123_23, ↓g123_24, ↓g123_27, ↓g123_28, ↓g123_28t, ↓g123_29, ↓g123_30, ↓g123_33, ↓g123_36, ↓Go_s, ↓GoC_a, ↓reduceIte, ↓mm_call_eq, ↓mmw_nil, ↓mmw_cons, List.take_succ_cons, List.take_zero, List.take_nil, List.drop_succ_cons, List.drop_zero, List.drop_nil, List.reverse_cons, List.reverse_nil, List.nil_append, List.cons_append, List.append_nil, Option.toList_some, Option.toList_none, Nat.sub_zero, Nat.le_refl, mmr_cons, mm_st1, mm_st2, mmi_nil, mmi_cons, mmc_I, mmc_L, mmc_R, mmu_get, mmu_one, mma_get, mma_one, List.filter_cons, List.filter_nil, List.contains_cons, List.contains_nil, Nat.reduceBEq, Nat.reduceAdd, Nat.reduceLT, Nat.reduceSub, Nat.reduceLeDiff, Nat.reduceEqDiff, Int32.reduceAdd, Bool.not_true, Bool.not_false, Bool.and_true, Bool.true_and, Bool.and_false, Bool.false_and, Bool.or_false, Bool.false_or, Bool.or_true, Bool.true_or, if_true, if_false, ite_true, ite_false, Bool.false_eq_true, List.getElem?_cons_zero, List.getElem?_cons_succ, List.length_cons, List.length_nil, true_and, and_true, List.set_cons_zero, List.set_cons_succ, Fin.isValue, Fin.val_zero, Fin.val_one, Fin.val_two, Fin.reduceFinMk, Nat.zero_add, hp_75, hp_76, hp_77, hp_78, hp_79, hp_80, hp_81, hp_82, hp_83, hp_84, hp_85, hp_86, hp_87, hp_88, hp_89, hp_90, hp_91, hp_92, hp_93, hp_94, hp_95, hp_96, hp_97, hp_98, og_75_0, og_75_1, og_75_2, og_75_3, og_75_4, og_75_5, og_75_6, og_75_7, og_75_8, og_75_9, og_75_10, og_75_11, og_75_12, og_75_13, og_75_14, og_75_15, og_75_16, og_75_17, og_75_18, og_75_19, og_75_20, og_75_21, og_75_22, og_75_23, og_75_24, og_75_25, og_75_26, og_75_27, og_75_28, og_75_29, og_75_30, og_75_31, og_75_32, og_75_33, og_75_34, og_75_35, og_75_36, og_75_37, og_75_38, og_75_39, og_75_40, og_75_41, ol_75, uo_75_4, uo_75_5, uo_75_6, uo_75_7, uo_75_11, uo_75_12, uo_75_13, uo_75_15, uo_75_19, uo_75_20, uo_75_21, uo_75_22, uo_75_23, uo_75_26, uo_75_30, uo_75_31, uo_75_32, uo_75_33, ua_76, ua_77, ua_78, ua_79, ua_80, ua_81, ua_82, ua_83, ua_84, ua_85, ua_86, ua_87, ua_88, ua_89, ua_90, ua_91, ua_92, ua_93, ua_94, ua_95, ua_96, ua_97, ua_98, sO_g, sA_g, sA_O, sO_A, sO_2, sM_1, sM_2, sM_3, sM_4, sM_5, sM_6, uc_75, h1]
  simp (disch := omega) only [lit_0, lit_1, lit_2, lit_3, lit_4, lit_5, lit_6, lit_7, lit_8, lit_9, lit_10, lit_16, lit_40, lit_48, lit_60, lit_67, lit_76, lit_82, lit_99, lit_100, lit_255, lit_508, lit_720, lit_1023, nI_1, nI_add, pk_sub, pk_mul, pk_div, nu_rem2, nI_clamp, nu_m, nu_m', nu_lm, nu_ml, nu_ltm, nu_mlt, nu_mm, nu_dec, nu_in, nu_le, nu_lt, nu_eq, true_and, and_true, false_imp_iff, true_imp_iff, not_true_eq_false, not_false_eq_true, Nat.not_lt_zero, Nat.zero_le, Nat.le_refl, Nat.lt_irrefl, Nat.reduceEqDiff, Nat.reduceLT, Nat.reduceLeDiff, Nat.reduceAdd, Nat.reduceSub, Nat.reduceMul, Nat.reduceMod, Nat.reduceDiv, Nat.one_ne_zero, Nat.zero_ne_one, ft_0_0, ft_0_1, ft_0_2, ft_0_3, ft_0_4, ft_1_0, ft_1_1, ft_1_2, ft_2_0, ft_2_1, ft_2_2, ft_2_3, ft_2_4, ft_2_5, ft_2_6, ft_2_7, ft_2_8, ft_2_9, ft_2_10, ft_3_0, ft_3_1, ft_3_2, ft_3_3, ft_4_0, ft_4_1, ft_4_2, ft_4_3, ft_4_4, ft_4_5, ft_4_6, ft_5_0, ft_5_1, ft_6_0, ft_6_1, ft_6_2, ft_6_3, ft_6_4, ft_6_5, ft_6_6, ft_7_0, ft_7_1, ft_7_2, ft_7_3, ft_7_4, ft_7_5, ft_7_6, ft_7_7, ft_7_8, ft_7_9, ft_7_10, ft_7_11, ft_7_12, ft_7_13, ft_8_0, ft_8_1, ft_8_2, ft_8_3, ft_8_4, ft_8_5, ft_8_6, ft_8_7, ft_8_8, ft_8_9, ft_8_10, ft_8_11, ft_8_12, ft_8_13, ft_8_14, ft_8_15, ft_8_16, ft_8_17, ft_8_18, ft_8_19, ft_8_20, ft_8_21, ft_8_22, ft_8_23, ft_8_24, ft_8_25, ft_8_26, ft_8_27, ft_8_28, ft_8_29, ft_8_30, ft_8_31, ft_8_32, ft_8_33, ft_8_34, ft_8_35, ft_8_36, ft_8_37, ft_8_38, ft_8_39, ft_8_40, ft_8_41, nu_fitI, nu_fitL, nu_fitO, nu_fitA, nu_fitB0, nu_fitB1]
  have := key _ 0 (s.1 88) rfl (Nat.zero_le _) (fun j hj => absurd hj (Nat.not_lt_zero _))
  rw [show sA (sO s 75 26 (nI xs.length)) 88 (s.1 88) = sO s 75 26 (nI xs.length) from sA_id (sO s 75 26 (nI xs.length)) 88] at this
  exact this
end MTRIP2
