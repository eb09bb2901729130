/-! acts -/
theorem AcOk.fr {B P H Q B' P' H' Q' : Nat → Int32} : ∀ {l : List DK} {cur : DK}, AcOk B P H Q cur l → (∀ j, j < l.length → B' j = B j ∧ P' j = P j ∧ H' j = H j ∧ Q' j = Q j) → AcOk B' P' H' Q' cur l
  | [], _, _, _ => trivial
  | k :: rest, cur, h, e => by
    obtain ⟨h1, h2⟩ := h
    have e0 := e rest.length (by rw [List.length_cons]; omega)
    refine ⟨?_, AcOk.fr h2 (fun j hj => e j (by rw [List.length_cons]; omega))⟩
    rw [e0.1, e0.2.1, e0.2.2.1, e0.2.2.2]
    exact h1
theorem AcOk.dl {B P H Q B' P' H' Q' : Nat → Int32} : ∀ {l : List DK} {cur : DK}, AcOk B P H Q cur l → (∀ j, j + 1 < l.length → B' j = B (j + 1) ∧ P' j = P (j + 1) ∧ H' j = H (j + 1) ∧ Q' j = Q (j + 1)) → AcOk B' P' H' Q' cur l.dropLast
  | [], _, _, _ => trivial
  | [_], _, _, _ => trivial
  | k :: k2 :: rest, cur, h, e => by
    obtain ⟨h1, h2⟩ := h
    have e0 := e rest.length (by rw [List.length_cons, List.length_cons]; omega)
    have hl : (k2 :: rest).dropLast.length = rest.length := by rw [List.length_dropLast, List.length_cons]; omega
    refine ⟨?_, AcOk.dl h2 (fun j hj => e j (by rw [List.length_cons]; omega))⟩
    rw [hl, e0.1, e0.2.1, e0.2.2.1, e0.2.2.2]
    exact h1
def pushA (ac : List DK) (k : DK) : List DK := k :: (if ac.length < 16 then ac else ac.dropLast)
theorem pushA_len {ac : List DK} {k : DK} (h : ac.length ≤ 16) : (pushA ac k).length = if ac.length < 16 then ac.length + 1 else 16 := by
  unfold pushA
  rw [List.length_cons]
  split
  · rfl
  · rw [List.length_dropLast]; omega
theorem lit_15b : nI 15 + 1 = nI 16 := rfl
abbrev sp_1 : List Nat := [13]
section G1
variable {tb : Nat → Nat × (Nat → Int32)} {call : CO} {Q : AQ} {C : CP} {lv : AL} {st : List AV} {h : AH} {kc ks : Nat}
theorem g1_0  : mm_step (mm_rw mr_1) none tb call Q C 0 lv st h kc ks = (match mm_rd lv 0 with
    | some (.inr (.inr (.inl (some k)))) => C 1 lv (vR k :: st) h kc ks
    | some (.inr (.inr (.inr t))) => C 1 lv (vT t :: st) h kc ks
    | _ => False) := rfl
theorem g1_1 (k : Nat) : mm_step (mm_rw mr_1) none tb call Q C 1 lv (.inr (.inr (.inl (some k))) :: st) h kc ks = (match h.2 k with
    | some (.inr (.inr (ci, fs))) => ci = 0 ∧ (match fs[4]? with
      | some v => C 4 lv (v :: st) h kc ks
      | none => False)
    | _ => False) := rfl
theorem g1_4  : mm_step (mm_rw mr_1) none tb call Q C 4 lv st h kc ks = (C 6 lv (vI 16 :: st) h kc ks) := rfl
theorem g1_6 (a b : Int32) : mm_step (mm_rw mr_1) none tb call Q C 6 lv (.inl b :: .inl a :: st) h kc ks = ((a < b → C 13 lv st h kc ks) ∧ (¬ a < b → C 9 lv st h kc ks)) := rfl
theorem g1_9  : mm_step (mm_rw mr_1) none tb call Q C 9 lv st h kc ks = (match mm_rd lv 0 with
    | some (.inr (.inr (.inl (some k)))) => C 10 lv (vR k :: st) h kc ks
    | some (.inr (.inr (.inr t))) => C 10 lv (vT t :: st) h kc ks
    | _ => False) := rfl
theorem g1_10  : mm_step (mm_rw mr_1) none tb call Q C 10 lv st h kc ks = ((match (st.take 1).reverse with
    | .inr (.inr (.inl (some k))) :: _ => (match h.2 k with
      | some (.inr (.inr (ci, _))) => mm_cn ci = (mm_mi 3).1.cls
      | _ => False)
    | _ => False) ∧ mm_call call C 3 1 10 lv st h kc ks) := rfl
theorem g1_13  : mm_step (mm_rw mr_1) none tb call Q C 13 lv st h kc ks = (match mm_rd lv 0 with
    | some (.inr (.inr (.inl (some k)))) => C 14 lv (vR k :: st) h kc ks
    | some (.inr (.inr (.inr t))) => C 14 lv (vT t :: st) h kc ks
    | _ => False) := rfl
theorem g1_14 (k : Nat) : mm_step (mm_rw mr_1) none tb call Q C 14 lv (.inr (.inr (.inl (some k))) :: st) h kc ks = (match h.2 k with
    | some (.inr (.inr (ci, fs))) => ci = 0 ∧ (match fs[0]? with
      | some v => C 17 lv (v :: st) h kc ks
      | none => False)
    | _ => False) := rfl
theorem g1_17  : mm_step (mm_rw mr_1) none tb call Q C 17 lv st h kc ks = (match mm_rd lv 0 with
    | some (.inr (.inr (.inl (some k)))) => C 18 lv (vR k :: st) h kc ks
    | some (.inr (.inr (.inr t))) => C 18 lv (vT t :: st) h kc ks
    | _ => False) := rfl
theorem g1_18 (k : Nat) : mm_step (mm_rw mr_1) none tb call Q C 18 lv (.inr (.inr (.inl (some k))) :: st) h kc ks = (match h.2 k with
    | some (.inr (.inr (ci, fs))) => ci = 0 ∧ (match fs[4]? with
      | some v => C 21 lv (v :: st) h kc ks
      | none => False)
    | _ => False) := rfl
theorem g1_21  : mm_step (mm_rw mr_1) none tb call Q C 21 lv st h kc ks = (match mm_rd lv 1 with
    | some (.inl a) => C 22 lv (vI a :: st) h kc ks
    | _ => False) := rfl
theorem g1_22 (v i : Int32) (k : Nat) : mm_step (mm_rw mr_1) none tb call Q C 22 lv (.inl v :: .inl i :: .inr (.inr (.inl (some k))) :: st) h kc ks = (match h.2 k with
    | some (.inl (.int, n, f)) => vp_in i n ∧ C 23 lv st (mm_up h k (cI n (upd f i.toNatClampNeg v))) kc ks
    | _ => False) := rfl
theorem g1_23  : mm_step (mm_rw mr_1) none tb call Q C 23 lv st h kc ks = (match mm_rd lv 0 with
    | some (.inr (.inr (.inl (some k)))) => C 24 lv (vR k :: st) h kc ks
    | some (.inr (.inr (.inr t))) => C 24 lv (vT t :: st) h kc ks
    | _ => False) := rfl
theorem g1_24 (k : Nat) : mm_step (mm_rw mr_1) none tb call Q C 24 lv (.inr (.inr (.inl (some k))) :: st) h kc ks = (match h.2 k with
    | some (.inr (.inr (ci, fs))) => ci = 0 ∧ (match fs[1]? with
      | some v => C 27 lv (v :: st) h kc ks
      | none => False)
    | _ => False) := rfl
theorem g1_27  : mm_step (mm_rw mr_1) none tb call Q C 27 lv st h kc ks = (match mm_rd lv 0 with
    | some (.inr (.inr (.inl (some k)))) => C 28 lv (vR k :: st) h kc ks
    | some (.inr (.inr (.inr t))) => C 28 lv (vT t :: st) h kc ks
    | _ => False) := rfl
theorem g1_28 (k : Nat) : mm_step (mm_rw mr_1) none tb call Q C 28 lv (.inr (.inr (.inl (some k))) :: st) h kc ks = (match h.2 k with
    | some (.inr (.inr (ci, fs))) => ci = 0 ∧ (match fs[4]? with
      | some v => C 31 lv (v :: st) h kc ks
      | none => False)
    | _ => False) := rfl
theorem g1_31  : mm_step (mm_rw mr_1) none tb call Q C 31 lv st h kc ks = (match mm_rd lv 2 with
    | some (.inl a) => C 32 lv (vI a :: st) h kc ks
    | _ => False) := rfl
theorem g1_32 (v i : Int32) (k : Nat) : mm_step (mm_rw mr_1) none tb call Q C 32 lv (.inl v :: .inl i :: .inr (.inr (.inl (some k))) :: st) h kc ks = (match h.2 k with
    | some (.inl (.int, n, f)) => vp_in i n ∧ C 33 lv st (mm_up h k (cI n (upd f i.toNatClampNeg v))) kc ks
    | _ => False) := rfl
theorem g1_33  : mm_step (mm_rw mr_1) none tb call Q C 33 lv st h kc ks = (match mm_rd lv 0 with
    | some (.inr (.inr (.inl (some k)))) => C 34 lv (vR k :: st) h kc ks
    | some (.inr (.inr (.inr t))) => C 34 lv (vT t :: st) h kc ks
    | _ => False) := rfl
theorem g1_34 (k : Nat) : mm_step (mm_rw mr_1) none tb call Q C 34 lv (.inr (.inr (.inl (some k))) :: st) h kc ks = (match h.2 k with
    | some (.inr (.inr (ci, fs))) => ci = 0 ∧ (match fs[2]? with
      | some v => C 37 lv (v :: st) h kc ks
      | none => False)
    | _ => False) := rfl
theorem g1_37  : mm_step (mm_rw mr_1) none tb call Q C 37 lv st h kc ks = (match mm_rd lv 0 with
    | some (.inr (.inr (.inl (some k)))) => C 38 lv (vR k :: st) h kc ks
    | some (.inr (.inr (.inr t))) => C 38 lv (vT t :: st) h kc ks
    | _ => False) := rfl
theorem g1_38 (k : Nat) : mm_step (mm_rw mr_1) none tb call Q C 38 lv (.inr (.inr (.inl (some k))) :: st) h kc ks = (match h.2 k with
    | some (.inr (.inr (ci, fs))) => ci = 0 ∧ (match fs[4]? with
      | some v => C 41 lv (v :: st) h kc ks
      | none => False)
    | _ => False) := rfl
theorem g1_41  : mm_step (mm_rw mr_1) none tb call Q C 41 lv st h kc ks = (match mm_rd lv 3 with
    | some (.inl a) => C 42 lv (vI a :: st) h kc ks
    | _ => False) := rfl
theorem g1_42 (v i : Int32) (k : Nat) : mm_step (mm_rw mr_1) none tb call Q C 42 lv (.inl v :: .inl i :: .inr (.inr (.inl (some k))) :: st) h kc ks = (match h.2 k with
    | some (.inl (.int, n, f)) => vp_in i n ∧ C 43 lv st (mm_up h k (cI n (upd f i.toNatClampNeg v))) kc ks
    | _ => False) := rfl
theorem g1_43  : mm_step (mm_rw mr_1) none tb call Q C 43 lv st h kc ks = (match mm_rd lv 0 with
    | some (.inr (.inr (.inl (some k)))) => C 44 lv (vR k :: st) h kc ks
    | some (.inr (.inr (.inr t))) => C 44 lv (vT t :: st) h kc ks
    | _ => False) := rfl
theorem g1_44 (k : Nat) : mm_step (mm_rw mr_1) none tb call Q C 44 lv (.inr (.inr (.inl (some k))) :: st) h kc ks = (match h.2 k with
    | some (.inr (.inr (ci, fs))) => ci = 0 ∧ (match fs[3]? with
      | some v => C 47 lv (v :: st) h kc ks
      | none => False)
    | _ => False) := rfl
theorem g1_47  : mm_step (mm_rw mr_1) none tb call Q C 47 lv st h kc ks = (match mm_rd lv 0 with
    | some (.inr (.inr (.inl (some k)))) => C 48 lv (vR k :: st) h kc ks
    | some (.inr (.inr (.inr t))) => C 48 lv (vT t :: st) h kc ks
    | _ => False) := rfl
theorem g1_48 (k : Nat) : mm_step (mm_rw mr_1) none tb call Q C 48 lv (.inr (.inr (.inl (some k))) :: st) h kc ks = (match h.2 k with
    | some (.inr (.inr (ci, fs))) => ci = 0 ∧ (match fs[4]? with
      | some v => C 51 lv (v :: st) h kc ks
      | none => False)
    | _ => False) := rfl
theorem g1_51  : mm_step (mm_rw mr_1) none tb call Q C 51 lv st h kc ks = (match mm_rd lv 4 with
    | some (.inl a) => C 53 lv (vI a :: st) h kc ks
    | _ => False) := rfl
theorem g1_53 (v i : Int32) (k : Nat) : mm_step (mm_rw mr_1) none tb call Q C 53 lv (.inl v :: .inl i :: .inr (.inr (.inl (some k))) :: st) h kc ks = (match h.2 k with
    | some (.inl (.int, n, f)) => vp_in i n ∧ C 54 lv st (mm_up h k (cI n (upd f i.toNatClampNeg v))) kc ks
    | _ => False) := rfl
theorem g1_54  : mm_step (mm_rw mr_1) none tb call Q C 54 lv st h kc ks = (match mm_rd lv 0 with
    | some (.inr (.inr (.inl (some k)))) => C 55 lv (vR k :: st) h kc ks
    | some (.inr (.inr (.inr t))) => C 55 lv (vT t :: st) h kc ks
    | _ => False) := rfl
theorem g1_55 (v : AV) : mm_step (mm_rw mr_1) none tb call Q C 55 lv (v :: st) h kc ks = (mm_c2 v = false ∧ C 56 lv (v :: v :: st) h kc ks) := rfl
theorem g1_56 (k : Nat) : mm_step (mm_rw mr_1) none tb call Q C 56 lv (.inr (.inr (.inl (some k))) :: st) h kc ks = (match h.2 k with
    | some (.inr (.inr (ci, fs))) => ci = 0 ∧ (match fs[4]? with
      | some v => C 59 lv (v :: st) h kc ks
      | none => False)
    | _ => False) := rfl
theorem g1_59  : mm_step (mm_rw mr_1) none tb call Q C 59 lv st h kc ks = (C 60 lv (vI 1 :: st) h kc ks) := rfl
theorem g1_60 (a b : Int32) : mm_step (mm_rw mr_1) none tb call Q C 60 lv (.inl b :: .inl a :: st) h kc ks = (C 61 lv (vI (a + b) :: st) h kc ks) := rfl
theorem g1_61 (v : AV) (k : Nat) : mm_step (mm_rw mr_1) none tb call Q C 61 lv (v :: .inr (.inr (.inl (some k))) :: st) h kc ks = (match h.2 k with
    | some (.inr (.inr (ci, fs))) => ci = 0 ∧ 4 < fs.length ∧ mm_fit (mm_ft 0 4) v ∧ C 64 lv st (mm_up h k (cO ci (fs.set 4 v))) kc ks
    | _ => False) := rfl
theorem g1_64  : mm_step (mm_rw mr_1) none tb call Q C 64 lv [] h kc ks = ((none : Option FieldType) = none ∧ Q none h) := rfl
end G1

abbrev sp_2 : List Nat := [60, 79]
section G2
variable {tb : Nat → Nat × (Nat → Int32)} {call : CO} {Q : AQ} {C : CP} {lv : AL} {st : List AV} {h : AH} {kc ks : Nat}
theorem g2_0  : mm_step (mm_rw mr_2) none tb call Q C 0 lv st h kc ks = (match mm_rd lv 0 with
    | some (.inr (.inr (.inl (some k)))) => C 1 lv (vR k :: st) h kc ks
    | some (.inr (.inr (.inr t))) => C 1 lv (vT t :: st) h kc ks
    | _ => False) := rfl
theorem g2_1 (k : Nat) : mm_step (mm_rw mr_2) none tb call Q C 1 lv (.inr (.inr (.inl (some k))) :: st) h kc ks = (match h.2 k with
    | some (.inr (.inr (ci, fs))) => ci = 0 ∧ (match fs[4]? with
      | some v => C 4 lv (v :: st) h kc ks
      | none => False)
    | _ => False) := rfl
theorem g2_4  : mm_step (mm_rw mr_2) none tb call Q C 4 lv st h kc ks = (C 5 lv (vI 1 :: st) h kc ks) := rfl
theorem g2_5 (a b : Int32) : mm_step (mm_rw mr_2) none tb call Q C 5 lv (.inl b :: .inl a :: st) h kc ks = ((b ≤ a → C 9 lv st h kc ks) ∧ (¬ b ≤ a → C 8 lv st h kc ks)) := rfl
theorem g2_8  : mm_step (mm_rw mr_2) none tb call Q C 8 lv [] h kc ks = ((none : Option FieldType) = none ∧ Q none h) := rfl
theorem g2_9  : mm_step (mm_rw mr_2) none tb call Q C 9 lv st h kc ks = (match mm_rd lv 0 with
    | some (.inr (.inr (.inl (some k)))) => C 10 lv (vR k :: st) h kc ks
    | some (.inr (.inr (.inr t))) => C 10 lv (vT t :: st) h kc ks
    | _ => False) := rfl
theorem g2_10 (v : AV) : mm_step (mm_rw mr_2) none tb call Q C 10 lv (v :: st) h kc ks = (mm_c2 v = false ∧ C 11 lv (v :: v :: st) h kc ks) := rfl
theorem g2_11 (k : Nat) : mm_step (mm_rw mr_2) none tb call Q C 11 lv (.inr (.inr (.inl (some k))) :: st) h kc ks = (match h.2 k with
    | some (.inr (.inr (ci, fs))) => ci = 0 ∧ (match fs[4]? with
      | some v => C 14 lv (v :: st) h kc ks
      | none => False)
    | _ => False) := rfl
theorem g2_14  : mm_step (mm_rw mr_2) none tb call Q C 14 lv st h kc ks = (C 15 lv (vI 1 :: st) h kc ks) := rfl
theorem g2_15 (a b : Int32) : mm_step (mm_rw mr_2) none tb call Q C 15 lv (.inl b :: .inl a :: st) h kc ks = (C 16 lv (vI (a - b) :: st) h kc ks) := rfl
theorem g2_16 (v : AV) (k : Nat) : mm_step (mm_rw mr_2) none tb call Q C 16 lv (v :: .inr (.inr (.inl (some k))) :: st) h kc ks = (match h.2 k with
    | some (.inr (.inr (ci, fs))) => ci = 0 ∧ 4 < fs.length ∧ mm_fit (mm_ft 0 4) v ∧ C 19 lv st (mm_up h k (cO ci (fs.set 4 v))) kc ks
    | _ => False) := rfl
theorem g2_19  : mm_step (mm_rw mr_2) none tb call Q C 19 lv st h kc ks = (match mm_rd lv 0 with
    | some (.inr (.inr (.inl (some k)))) => C 20 lv (vR k :: st) h kc ks
    | some (.inr (.inr (.inr t))) => C 20 lv (vT t :: st) h kc ks
    | _ => False) := rfl
theorem g2_20 (k : Nat) : mm_step (mm_rw mr_2) none tb call Q C 20 lv (.inr (.inr (.inl (some k))) :: st) h kc ks = (match h.2 k with
    | some (.inr (.inr (ci, fs))) => ci = 0 ∧ (match fs[0]? with
      | some v => C 23 lv (v :: st) h kc ks
      | none => False)
    | _ => False) := rfl
theorem g2_23  : mm_step (mm_rw mr_2) none tb call Q C 23 lv st h kc ks = (match mm_rd lv 0 with
    | some (.inr (.inr (.inl (some k)))) => C 24 lv (vR k :: st) h kc ks
    | some (.inr (.inr (.inr t))) => C 24 lv (vT t :: st) h kc ks
    | _ => False) := rfl
theorem g2_24 (k : Nat) : mm_step (mm_rw mr_2) none tb call Q C 24 lv (.inr (.inr (.inl (some k))) :: st) h kc ks = (match h.2 k with
    | some (.inr (.inr (ci, fs))) => ci = 0 ∧ (match fs[4]? with
      | some v => C 27 lv (v :: st) h kc ks
      | none => False)
    | _ => False) := rfl
theorem g2_27 (i : Int32) (k : Nat) : mm_step (mm_rw mr_2) none tb call Q C 27 lv (.inl i :: .inr (.inr (.inl (some k))) :: st) h kc ks = (match h.2 k with
    | some (.inl (.int, n, f)) => vp_in i n ∧ C 28 lv (vI (f i.toNatClampNeg) :: st) h kc ks
    | _ => False) := rfl
theorem g2_27t (i : Int32) (t : Nat) : mm_step (mm_rw mr_2) none tb call Q C 27 lv (.inl i :: .inr (.inr (.inr t)) :: st) h kc ks = (vp_in i (tb t).1 ∧ C 28 lv (vI ((tb t).2 i.toNatClampNeg) :: st) h kc ks) := rfl
theorem g2_28 (a : Int32) : mm_step (mm_rw mr_2) none tb call Q C 28 lv (.inl a :: st) h kc ks = (C 29 (mm_st1 lv 2 (vI a)) st h kc ks) := rfl
theorem g2_29  : mm_step (mm_rw mr_2) none tb call Q C 29 lv st h kc ks = (match mm_rd lv 0 with
    | some (.inr (.inr (.inl (some k)))) => C 30 lv (vR k :: st) h kc ks
    | some (.inr (.inr (.inr t))) => C 30 lv (vT t :: st) h kc ks
    | _ => False) := rfl
theorem g2_30 (k : Nat) : mm_step (mm_rw mr_2) none tb call Q C 30 lv (.inr (.inr (.inl (some k))) :: st) h kc ks = (match h.2 k with
    | some (.inr (.inr (ci, fs))) => ci = 0 ∧ (match fs[2]? with
      | some v => C 33 lv (v :: st) h kc ks
      | none => False)
    | _ => False) := rfl
theorem g2_33  : mm_step (mm_rw mr_2) none tb call Q C 33 lv st h kc ks = (match mm_rd lv 0 with
    | some (.inr (.inr (.inl (some k)))) => C 34 lv (vR k :: st) h kc ks
    | some (.inr (.inr (.inr t))) => C 34 lv (vT t :: st) h kc ks
    | _ => False) := rfl
theorem g2_34 (k : Nat) : mm_step (mm_rw mr_2) none tb call Q C 34 lv (.inr (.inr (.inl (some k))) :: st) h kc ks = (match h.2 k with
    | some (.inr (.inr (ci, fs))) => ci = 0 ∧ (match fs[4]? with
      | some v => C 37 lv (v :: st) h kc ks
      | none => False)
    | _ => False) := rfl
theorem g2_37 (i : Int32) (k : Nat) : mm_step (mm_rw mr_2) none tb call Q C 37 lv (.inl i :: .inr (.inr (.inl (some k))) :: st) h kc ks = (match h.2 k with
    | some (.inl (.int, n, f)) => vp_in i n ∧ C 38 lv (vI (f i.toNatClampNeg) :: st) h kc ks
    | _ => False) := rfl
theorem g2_37t (i : Int32) (t : Nat) : mm_step (mm_rw mr_2) none tb call Q C 37 lv (.inl i :: .inr (.inr (.inr t)) :: st) h kc ks = (vp_in i (tb t).1 ∧ C 38 lv (vI ((tb t).2 i.toNatClampNeg) :: st) h kc ks) := rfl
theorem g2_38  : mm_step (mm_rw mr_2) none tb call Q C 38 lv st h kc ks = (C 40 lv (vI (mI 9) :: st) h kc ks) := rfl
theorem g2_40 (a b : Int32) : mm_step (mm_rw mr_2) none tb call Q C 40 lv (.inl b :: .inl a :: st) h kc ks = ((¬ a = b → C 63 lv st h kc ks) ∧ (a = b → C 43 lv st h kc ks)) := rfl
theorem g2_43  : mm_step (mm_rw mr_2) none tb call Q C 43 lv st h kc ks = (match mm_rd lv 1 with
    | some (.inr (.inr (.inl (some k)))) => C 44 lv (vR k :: st) h kc ks
    | some (.inr (.inr (.inr t))) => C 44 lv (vT t :: st) h kc ks
    | _ => False) := rfl
theorem g2_44 (k : Nat) : mm_step (mm_rw mr_2) none tb call Q C 44 lv (.inr (.inr (.inl (some k))) :: st) h kc ks = (match h.2 k with
    | some (.inr (.inr (ci, fs))) => ci = 1 ∧ (match fs[0]? with
      | some v => C 47 lv (v :: st) h kc ks
      | none => False)
    | _ => False) := rfl
theorem g2_47  : mm_step (mm_rw mr_2) none tb call Q C 47 lv st h kc ks = (match mm_rd lv 0 with
    | some (.inr (.inr (.inl (some k)))) => C 48 lv (vR k :: st) h kc ks
    | some (.inr (.inr (.inr t))) => C 48 lv (vT t :: st) h kc ks
    | _ => False) := rfl
theorem g2_48 (k : Nat) : mm_step (mm_rw mr_2) none tb call Q C 48 lv (.inr (.inr (.inl (some k))) :: st) h kc ks = (match h.2 k with
    | some (.inr (.inr (ci, fs))) => ci = 0 ∧ (match fs[1]? with
      | some v => C 51 lv (v :: st) h kc ks
      | none => False)
    | _ => False) := rfl
theorem g2_51  : mm_step (mm_rw mr_2) none tb call Q C 51 lv st h kc ks = (match mm_rd lv 0 with
    | some (.inr (.inr (.inl (some k)))) => C 52 lv (vR k :: st) h kc ks
    | some (.inr (.inr (.inr t))) => C 52 lv (vT t :: st) h kc ks
    | _ => False) := rfl
theorem g2_52 (k : Nat) : mm_step (mm_rw mr_2) none tb call Q C 52 lv (.inr (.inr (.inl (some k))) :: st) h kc ks = (match h.2 k with
    | some (.inr (.inr (ci, fs))) => ci = 0 ∧ (match fs[4]? with
      | some v => C 55 lv (v :: st) h kc ks
      | none => False)
    | _ => False) := rfl
theorem g2_55 (i : Int32) (k : Nat) : mm_step (mm_rw mr_2) none tb call Q C 55 lv (.inl i :: .inr (.inr (.inl (some k))) :: st) h kc ks = (match h.2 k with
    | some (.inl (.int, n, f)) => vp_in i n ∧ C 56 lv (vI (f i.toNatClampNeg) :: st) h kc ks
    | _ => False) := rfl
theorem g2_55t (i : Int32) (t : Nat) : mm_step (mm_rw mr_2) none tb call Q C 55 lv (.inl i :: .inr (.inr (.inr t)) :: st) h kc ks = (vp_in i (tb t).1 ∧ C 56 lv (vI ((tb t).2 i.toNatClampNeg) :: st) h kc ks) := rfl
theorem g2_56  : mm_step (mm_rw mr_2) none tb call Q C 56 lv st h kc ks = (match mm_rd lv 2 with
    | some (.inl a) => C 57 lv (vI a :: st) h kc ks
    | _ => False) := rfl
theorem g2_57  : mm_step (mm_rw mr_2) none tb call Q C 57 lv st h kc ks = ((match (st.take 3).reverse with
    | .inr (.inr (.inl (some k))) :: _ => (match h.2 k with
      | some (.inr (.inr (ci, _))) => mm_cn ci = (mm_mi 42).1.cls
      | _ => False)
    | _ => False) ∧ mm_call call C 42 3 57 lv st h kc ks) := rfl
theorem g2_60  : mm_step (mm_rw mr_2) none tb call Q C 60 lv st h kc ks = (C 80 lv st h kc ks) := rfl
theorem g2_63  : mm_step (mm_rw mr_2) none tb call Q C 63 lv st h kc ks = (match mm_rd lv 1 with
    | some (.inr (.inr (.inl (some k)))) => C 64 lv (vR k :: st) h kc ks
    | some (.inr (.inr (.inr t))) => C 64 lv (vT t :: st) h kc ks
    | _ => False) := rfl
theorem g2_64 (k : Nat) : mm_step (mm_rw mr_2) none tb call Q C 64 lv (.inr (.inr (.inl (some k))) :: st) h kc ks = (match h.2 k with
    | some (.inr (.inr (ci, fs))) => ci = 1 ∧ (match fs[0]? with
      | some v => C 67 lv (v :: st) h kc ks
      | none => False)
    | _ => False) := rfl
theorem g2_67  : mm_step (mm_rw mr_2) none tb call Q C 67 lv st h kc ks = (match mm_rd lv 0 with
    | some (.inr (.inr (.inl (some k)))) => C 68 lv (vR k :: st) h kc ks
    | some (.inr (.inr (.inr t))) => C 68 lv (vT t :: st) h kc ks
    | _ => False) := rfl
theorem g2_68 (k : Nat) : mm_step (mm_rw mr_2) none tb call Q C 68 lv (.inr (.inr (.inl (some k))) :: st) h kc ks = (match h.2 k with
    | some (.inr (.inr (ci, fs))) => ci = 0 ∧ (match fs[1]? with
      | some v => C 71 lv (v :: st) h kc ks
      | none => False)
    | _ => False) := rfl
theorem g2_71  : mm_step (mm_rw mr_2) none tb call Q C 71 lv st h kc ks = (match mm_rd lv 0 with
    | some (.inr (.inr (.inl (some k)))) => C 72 lv (vR k :: st) h kc ks
    | some (.inr (.inr (.inr t))) => C 72 lv (vT t :: st) h kc ks
    | _ => False) := rfl
theorem g2_72 (k : Nat) : mm_step (mm_rw mr_2) none tb call Q C 72 lv (.inr (.inr (.inl (some k))) :: st) h kc ks = (match h.2 k with
    | some (.inr (.inr (ci, fs))) => ci = 0 ∧ (match fs[4]? with
      | some v => C 75 lv (v :: st) h kc ks
      | none => False)
    | _ => False) := rfl
theorem g2_75 (i : Int32) (k : Nat) : mm_step (mm_rw mr_2) none tb call Q C 75 lv (.inl i :: .inr (.inr (.inl (some k))) :: st) h kc ks = (match h.2 k with
    | some (.inl (.int, n, f)) => vp_in i n ∧ C 76 lv (vI (f i.toNatClampNeg) :: st) h kc ks
    | _ => False) := rfl
theorem g2_75t (i : Int32) (t : Nat) : mm_step (mm_rw mr_2) none tb call Q C 75 lv (.inl i :: .inr (.inr (.inr t)) :: st) h kc ks = (vp_in i (tb t).1 ∧ C 76 lv (vI ((tb t).2 i.toNatClampNeg) :: st) h kc ks) := rfl
theorem g2_76  : mm_step (mm_rw mr_2) none tb call Q C 76 lv st h kc ks = ((match (st.take 2).reverse with
    | .inr (.inr (.inl (some k))) :: _ => (match h.2 k with
      | some (.inr (.inr (ci, _))) => mm_cn ci = (mm_mi 41).1.cls
      | _ => False)
    | _ => False) ∧ mm_call call C 41 2 76 lv st h kc ks) := rfl
theorem g2_79 (v : AV) : mm_step (mm_rw mr_2) none tb call Q C 79 lv (v :: st) h kc ks = (mm_c2 v = false ∧ C 80 lv st h kc ks) := rfl
theorem g2_80  : mm_step (mm_rw mr_2) none tb call Q C 80 lv st h kc ks = (match mm_rd lv 1 with
    | some (.inr (.inr (.inl (some k)))) => C 81 lv (vR k :: st) h kc ks
    | some (.inr (.inr (.inr t))) => C 81 lv (vT t :: st) h kc ks
    | _ => False) := rfl
theorem g2_81 (k : Nat) : mm_step (mm_rw mr_2) none tb call Q C 81 lv (.inr (.inr (.inl (some k))) :: st) h kc ks = (match h.2 k with
    | some (.inr (.inr (ci, fs))) => ci = 1 ∧ (match fs[1]? with
      | some v => C 84 lv (v :: st) h kc ks
      | none => False)
    | _ => False) := rfl
theorem g2_84  : mm_step (mm_rw mr_2) none tb call Q C 84 lv st h kc ks = (match mm_rd lv 2 with
    | some (.inl a) => C 85 lv (vI a :: st) h kc ks
    | _ => False) := rfl
theorem g2_85  : mm_step (mm_rw mr_2) none tb call Q C 85 lv st h kc ks = (match mm_rd lv 0 with
    | some (.inr (.inr (.inl (some k)))) => C 86 lv (vR k :: st) h kc ks
    | some (.inr (.inr (.inr t))) => C 86 lv (vT t :: st) h kc ks
    | _ => False) := rfl
theorem g2_86 (k : Nat) : mm_step (mm_rw mr_2) none tb call Q C 86 lv (.inr (.inr (.inl (some k))) :: st) h kc ks = (match h.2 k with
    | some (.inr (.inr (ci, fs))) => ci = 0 ∧ (match fs[2]? with
      | some v => C 89 lv (v :: st) h kc ks
      | none => False)
    | _ => False) := rfl
theorem g2_89  : mm_step (mm_rw mr_2) none tb call Q C 89 lv st h kc ks = (match mm_rd lv 0 with
    | some (.inr (.inr (.inl (some k)))) => C 90 lv (vR k :: st) h kc ks
    | some (.inr (.inr (.inr t))) => C 90 lv (vT t :: st) h kc ks
    | _ => False) := rfl
theorem g2_90 (k : Nat) : mm_step (mm_rw mr_2) none tb call Q C 90 lv (.inr (.inr (.inl (some k))) :: st) h kc ks = (match h.2 k with
    | some (.inr (.inr (ci, fs))) => ci = 0 ∧ (match fs[4]? with
      | some v => C 93 lv (v :: st) h kc ks
      | none => False)
    | _ => False) := rfl
theorem g2_93 (i : Int32) (k : Nat) : mm_step (mm_rw mr_2) none tb call Q C 93 lv (.inl i :: .inr (.inr (.inl (some k))) :: st) h kc ks = (match h.2 k with
    | some (.inl (.int, n, f)) => vp_in i n ∧ C 94 lv (vI (f i.toNatClampNeg) :: st) h kc ks
    | _ => False) := rfl
theorem g2_93t (i : Int32) (t : Nat) : mm_step (mm_rw mr_2) none tb call Q C 93 lv (.inl i :: .inr (.inr (.inr t)) :: st) h kc ks = (vp_in i (tb t).1 ∧ C 94 lv (vI ((tb t).2 i.toNatClampNeg) :: st) h kc ks) := rfl
theorem g2_94 (v i : Int32) (k : Nat) : mm_step (mm_rw mr_2) none tb call Q C 94 lv (.inl v :: .inl i :: .inr (.inr (.inl (some k))) :: st) h kc ks = (match h.2 k with
    | some (.inl (.int, n, f)) => vp_in i n ∧ C 95 lv st (mm_up h k (cI n (upd f i.toNatClampNeg v))) kc ks
    | _ => False) := rfl
theorem g2_95  : mm_step (mm_rw mr_2) none tb call Q C 95 lv st h kc ks = (match mm_rd lv 1 with
    | some (.inr (.inr (.inl (some k)))) => C 96 lv (vR k :: st) h kc ks
    | some (.inr (.inr (.inr t))) => C 96 lv (vT t :: st) h kc ks
    | _ => False) := rfl
theorem g2_96 (k : Nat) : mm_step (mm_rw mr_2) none tb call Q C 96 lv (.inr (.inr (.inl (some k))) :: st) h kc ks = (match h.2 k with
    | some (.inr (.inr (ci, fs))) => ci = 1 ∧ (match fs[2]? with
      | some v => C 99 lv (v :: st) h kc ks
      | none => False)
    | _ => False) := rfl
theorem g2_99  : mm_step (mm_rw mr_2) none tb call Q C 99 lv st h kc ks = (match mm_rd lv 2 with
    | some (.inl a) => C 100 lv (vI a :: st) h kc ks
    | _ => False) := rfl
theorem g2_100  : mm_step (mm_rw mr_2) none tb call Q C 100 lv st h kc ks = (match mm_rd lv 0 with
    | some (.inr (.inr (.inl (some k)))) => C 101 lv (vR k :: st) h kc ks
    | some (.inr (.inr (.inr t))) => C 101 lv (vT t :: st) h kc ks
    | _ => False) := rfl
theorem g2_101 (k : Nat) : mm_step (mm_rw mr_2) none tb call Q C 101 lv (.inr (.inr (.inl (some k))) :: st) h kc ks = (match h.2 k with
    | some (.inr (.inr (ci, fs))) => ci = 0 ∧ (match fs[3]? with
      | some v => C 104 lv (v :: st) h kc ks
      | none => False)
    | _ => False) := rfl
theorem g2_104  : mm_step (mm_rw mr_2) none tb call Q C 104 lv st h kc ks = (match mm_rd lv 0 with
    | some (.inr (.inr (.inl (some k)))) => C 105 lv (vR k :: st) h kc ks
    | some (.inr (.inr (.inr t))) => C 105 lv (vT t :: st) h kc ks
    | _ => False) := rfl
theorem g2_105 (k : Nat) : mm_step (mm_rw mr_2) none tb call Q C 105 lv (.inr (.inr (.inl (some k))) :: st) h kc ks = (match h.2 k with
    | some (.inr (.inr (ci, fs))) => ci = 0 ∧ (match fs[4]? with
      | some v => C 108 lv (v :: st) h kc ks
      | none => False)
    | _ => False) := rfl
theorem g2_108 (i : Int32) (k : Nat) : mm_step (mm_rw mr_2) none tb call Q C 108 lv (.inl i :: .inr (.inr (.inl (some k))) :: st) h kc ks = (match h.2 k with
    | some (.inl (.int, n, f)) => vp_in i n ∧ C 109 lv (vI (f i.toNatClampNeg) :: st) h kc ks
    | _ => False) := rfl
theorem g2_108t (i : Int32) (t : Nat) : mm_step (mm_rw mr_2) none tb call Q C 108 lv (.inl i :: .inr (.inr (.inr t)) :: st) h kc ks = (vp_in i (tb t).1 ∧ C 109 lv (vI ((tb t).2 i.toNatClampNeg) :: st) h kc ks) := rfl
theorem g2_109 (v i : Int32) (k : Nat) : mm_step (mm_rw mr_2) none tb call Q C 109 lv (.inl v :: .inl i :: .inr (.inr (.inl (some k))) :: st) h kc ks = (match h.2 k with
    | some (.inl (.int, n, f)) => vp_in i n ∧ C 110 lv st (mm_up h k (cI n (upd f i.toNatClampNeg v))) kc ks
    | _ => False) := rfl
theorem g2_110  : mm_step (mm_rw mr_2) none tb call Q C 110 lv [] h kc ks = ((none : Option FieldType) = none ∧ Q none h) := rfl
end G2

abbrev sp_3 : List Nat := []
section G3
variable {tb : Nat → Nat × (Nat → Int32)} {call : CO} {Q : AQ} {C : CP} {lv : AL} {st : List AV} {h : AH} {kc ks : Nat}
theorem g3_0  : mm_step (mm_rw mr_3) none tb call Q C 0 lv st h kc ks = (match mm_rd lv 0 with
    | some (.inr (.inr (.inl (some k)))) => C 1 lv (vR k :: st) h kc ks
    | some (.inr (.inr (.inr t))) => C 1 lv (vT t :: st) h kc ks
    | _ => False) := rfl
theorem g3_1  : mm_step (mm_rw mr_3) none tb call Q C 1 lv st h kc ks = (C 3 lv (vI 15 :: st) h kc ks) := rfl
theorem g3_3 (v : AV) (k : Nat) : mm_step (mm_rw mr_3) none tb call Q C 3 lv (v :: .inr (.inr (.inl (some k))) :: st) h kc ks = (match h.2 k with
    | some (.inr (.inr (ci, fs))) => ci = 0 ∧ 4 < fs.length ∧ mm_fit (mm_ft 0 4) v ∧ C 6 lv st (mm_up h k (cO ci (fs.set 4 v))) kc ks
    | _ => False) := rfl
theorem g3_6  : mm_step (mm_rw mr_3) none tb call Q C 6 lv st h kc ks = (match mm_rd lv 0 with
    | some (.inr (.inr (.inl (some k)))) => C 7 lv (vR k :: st) h kc ks
    | some (.inr (.inr (.inr t))) => C 7 lv (vT t :: st) h kc ks
    | _ => False) := rfl
theorem g3_7 (k : Nat) : mm_step (mm_rw mr_3) none tb call Q C 7 lv (.inr (.inr (.inl (some k))) :: st) h kc ks = (match h.2 k with
    | some (.inr (.inr (ci, fs))) => ci = 0 ∧ (match fs[0]? with
      | some v => C 10 lv (v :: st) h kc ks
      | none => False)
    | _ => False) := rfl
theorem g3_10  : mm_step (mm_rw mr_3) none tb call Q C 10 lv st h kc ks = (C 11 lv (vI 1 :: st) h kc ks) := rfl
theorem g3_11  : mm_step (mm_rw mr_3) none tb call Q C 11 lv st h kc ks = (match mm_rd lv 0 with
    | some (.inr (.inr (.inl (some k)))) => C 12 lv (vR k :: st) h kc ks
    | some (.inr (.inr (.inr t))) => C 12 lv (vT t :: st) h kc ks
    | _ => False) := rfl
theorem g3_12 (k : Nat) : mm_step (mm_rw mr_3) none tb call Q C 12 lv (.inr (.inr (.inl (some k))) :: st) h kc ks = (match h.2 k with
    | some (.inr (.inr (ci, fs))) => ci = 0 ∧ (match fs[0]? with
      | some v => C 15 lv (v :: st) h kc ks
      | none => False)
    | _ => False) := rfl
theorem g3_15  : mm_step (mm_rw mr_3) none tb call Q C 15 lv st h kc ks = (C 16 lv (vI 0 :: st) h kc ks) := rfl
theorem g3_16  : mm_step (mm_rw mr_3) none tb call Q C 16 lv st h kc ks = (match mm_rd lv 0 with
    | some (.inr (.inr (.inl (some k)))) => C 17 lv (vR k :: st) h kc ks
    | some (.inr (.inr (.inr t))) => C 17 lv (vT t :: st) h kc ks
    | _ => False) := rfl
theorem g3_17 (k : Nat) : mm_step (mm_rw mr_3) none tb call Q C 17 lv (.inr (.inr (.inl (some k))) :: st) h kc ks = (match h.2 k with
    | some (.inr (.inr (ci, fs))) => ci = 0 ∧ (match fs[4]? with
      | some v => C 20 lv (v :: st) h kc ks
      | none => False)
    | _ => False) := rfl
theorem g3_20 (n dp sp : Int32) (d s : Nat) : mm_step (mm_rw mr_3) none tb call Q C 20 lv (.inl n :: .inl dp :: .inr (.inr (.inl (some d))) :: .inl sp :: .inr (.inr (.inl (some s))) :: st) h kc ks = (match h.2 s, h.2 d with
    | some (.inl (.int, n0, f)), some (.inl (.int, n1, g)) => st.length ≤ 4 ∧ ¬ sp < 0 ∧ ¬ dp < 0 ∧ ¬ n < 0 ∧ sp.toNatClampNeg + n.toNatClampNeg ≤ n0 ∧ dp.toNatClampNeg + n.toNatClampNeg ≤ n1 ∧ C 23 lv st (mm_up h d (cI n1 (va_cpy f g sp.toNatClampNeg dp.toNatClampNeg n.toNatClampNeg))) kc ks
    | _, _ => False) := rfl
theorem g3_23  : mm_step (mm_rw mr_3) none tb call Q C 23 lv st h kc ks = (match mm_rd lv 0 with
    | some (.inr (.inr (.inl (some k)))) => C 24 lv (vR k :: st) h kc ks
    | some (.inr (.inr (.inr t))) => C 24 lv (vT t :: st) h kc ks
    | _ => False) := rfl
theorem g3_24 (k : Nat) : mm_step (mm_rw mr_3) none tb call Q C 24 lv (.inr (.inr (.inl (some k))) :: st) h kc ks = (match h.2 k with
    | some (.inr (.inr (ci, fs))) => ci = 0 ∧ (match fs[1]? with
      | some v => C 27 lv (v :: st) h kc ks
      | none => False)
    | _ => False) := rfl
theorem g3_27  : mm_step (mm_rw mr_3) none tb call Q C 27 lv st h kc ks = (C 28 lv (vI 1 :: st) h kc ks) := rfl
theorem g3_28  : mm_step (mm_rw mr_3) none tb call Q C 28 lv st h kc ks = (match mm_rd lv 0 with
    | some (.inr (.inr (.inl (some k)))) => C 29 lv (vR k :: st) h kc ks
    | some (.inr (.inr (.inr t))) => C 29 lv (vT t :: st) h kc ks
    | _ => False) := rfl
theorem g3_29 (k : Nat) : mm_step (mm_rw mr_3) none tb call Q C 29 lv (.inr (.inr (.inl (some k))) :: st) h kc ks = (match h.2 k with
    | some (.inr (.inr (ci, fs))) => ci = 0 ∧ (match fs[1]? with
      | some v => C 32 lv (v :: st) h kc ks
      | none => False)
    | _ => False) := rfl
theorem g3_32  : mm_step (mm_rw mr_3) none tb call Q C 32 lv st h kc ks = (C 33 lv (vI 0 :: st) h kc ks) := rfl
theorem g3_33  : mm_step (mm_rw mr_3) none tb call Q C 33 lv st h kc ks = (match mm_rd lv 0 with
    | some (.inr (.inr (.inl (some k)))) => C 34 lv (vR k :: st) h kc ks
    | some (.inr (.inr (.inr t))) => C 34 lv (vT t :: st) h kc ks
    | _ => False) := rfl
theorem g3_34 (k : Nat) : mm_step (mm_rw mr_3) none tb call Q C 34 lv (.inr (.inr (.inl (some k))) :: st) h kc ks = (match h.2 k with
    | some (.inr (.inr (ci, fs))) => ci = 0 ∧ (match fs[4]? with
      | some v => C 37 lv (v :: st) h kc ks
      | none => False)
    | _ => False) := rfl
theorem g3_37 (n dp sp : Int32) (d s : Nat) : mm_step (mm_rw mr_3) none tb call Q C 37 lv (.inl n :: .inl dp :: .inr (.inr (.inl (some d))) :: .inl sp :: .inr (.inr (.inl (some s))) :: st) h kc ks = (match h.2 s, h.2 d with
    | some (.inl (.int, n0, f)), some (.inl (.int, n1, g)) => st.length ≤ 4 ∧ ¬ sp < 0 ∧ ¬ dp < 0 ∧ ¬ n < 0 ∧ sp.toNatClampNeg + n.toNatClampNeg ≤ n0 ∧ dp.toNatClampNeg + n.toNatClampNeg ≤ n1 ∧ C 40 lv st (mm_up h d (cI n1 (va_cpy f g sp.toNatClampNeg dp.toNatClampNeg n.toNatClampNeg))) kc ks
    | _, _ => False) := rfl
theorem g3_40  : mm_step (mm_rw mr_3) none tb call Q C 40 lv st h kc ks = (match mm_rd lv 0 with
    | some (.inr (.inr (.inl (some k)))) => C 41 lv (vR k :: st) h kc ks
    | some (.inr (.inr (.inr t))) => C 41 lv (vT t :: st) h kc ks
    | _ => False) := rfl
theorem g3_41 (k : Nat) : mm_step (mm_rw mr_3) none tb call Q C 41 lv (.inr (.inr (.inl (some k))) :: st) h kc ks = (match h.2 k with
    | some (.inr (.inr (ci, fs))) => ci = 0 ∧ (match fs[2]? with
      | some v => C 44 lv (v :: st) h kc ks
      | none => False)
    | _ => False) := rfl
theorem g3_44  : mm_step (mm_rw mr_3) none tb call Q C 44 lv st h kc ks = (C 45 lv (vI 1 :: st) h kc ks) := rfl
theorem g3_45  : mm_step (mm_rw mr_3) none tb call Q C 45 lv st h kc ks = (match mm_rd lv 0 with
    | some (.inr (.inr (.inl (some k)))) => C 46 lv (vR k :: st) h kc ks
    | some (.inr (.inr (.inr t))) => C 46 lv (vT t :: st) h kc ks
    | _ => False) := rfl
theorem g3_46 (k : Nat) : mm_step (mm_rw mr_3) none tb call Q C 46 lv (.inr (.inr (.inl (some k))) :: st) h kc ks = (match h.2 k with
    | some (.inr (.inr (ci, fs))) => ci = 0 ∧ (match fs[2]? with
      | some v => C 49 lv (v :: st) h kc ks
      | none => False)
    | _ => False) := rfl
theorem g3_49  : mm_step (mm_rw mr_3) none tb call Q C 49 lv st h kc ks = (C 50 lv (vI 0 :: st) h kc ks) := rfl
theorem g3_50  : mm_step (mm_rw mr_3) none tb call Q C 50 lv st h kc ks = (match mm_rd lv 0 with
    | some (.inr (.inr (.inl (some k)))) => C 51 lv (vR k :: st) h kc ks
    | some (.inr (.inr (.inr t))) => C 51 lv (vT t :: st) h kc ks
    | _ => False) := rfl
theorem g3_51 (k : Nat) : mm_step (mm_rw mr_3) none tb call Q C 51 lv (.inr (.inr (.inl (some k))) :: st) h kc ks = (match h.2 k with
    | some (.inr (.inr (ci, fs))) => ci = 0 ∧ (match fs[4]? with
      | some v => C 54 lv (v :: st) h kc ks
      | none => False)
    | _ => False) := rfl
theorem g3_54 (n dp sp : Int32) (d s : Nat) : mm_step (mm_rw mr_3) none tb call Q C 54 lv (.inl n :: .inl dp :: .inr (.inr (.inl (some d))) :: .inl sp :: .inr (.inr (.inl (some s))) :: st) h kc ks = (match h.2 s, h.2 d with
    | some (.inl (.int, n0, f)), some (.inl (.int, n1, g)) => st.length ≤ 4 ∧ ¬ sp < 0 ∧ ¬ dp < 0 ∧ ¬ n < 0 ∧ sp.toNatClampNeg + n.toNatClampNeg ≤ n0 ∧ dp.toNatClampNeg + n.toNatClampNeg ≤ n1 ∧ C 57 lv st (mm_up h d (cI n1 (va_cpy f g sp.toNatClampNeg dp.toNatClampNeg n.toNatClampNeg))) kc ks
    | _, _ => False) := rfl
theorem g3_57  : mm_step (mm_rw mr_3) none tb call Q C 57 lv st h kc ks = (match mm_rd lv 0 with
    | some (.inr (.inr (.inl (some k)))) => C 58 lv (vR k :: st) h kc ks
    | some (.inr (.inr (.inr t))) => C 58 lv (vT t :: st) h kc ks
    | _ => False) := rfl
theorem g3_58 (k : Nat) : mm_step (mm_rw mr_3) none tb call Q C 58 lv (.inr (.inr (.inl (some k))) :: st) h kc ks = (match h.2 k with
    | some (.inr (.inr (ci, fs))) => ci = 0 ∧ (match fs[3]? with
      | some v => C 61 lv (v :: st) h kc ks
      | none => False)
    | _ => False) := rfl
theorem g3_61  : mm_step (mm_rw mr_3) none tb call Q C 61 lv st h kc ks = (C 62 lv (vI 1 :: st) h kc ks) := rfl
theorem g3_62  : mm_step (mm_rw mr_3) none tb call Q C 62 lv st h kc ks = (match mm_rd lv 0 with
    | some (.inr (.inr (.inl (some k)))) => C 63 lv (vR k :: st) h kc ks
    | some (.inr (.inr (.inr t))) => C 63 lv (vT t :: st) h kc ks
    | _ => False) := rfl
theorem g3_63 (k : Nat) : mm_step (mm_rw mr_3) none tb call Q C 63 lv (.inr (.inr (.inl (some k))) :: st) h kc ks = (match h.2 k with
    | some (.inr (.inr (ci, fs))) => ci = 0 ∧ (match fs[3]? with
      | some v => C 66 lv (v :: st) h kc ks
      | none => False)
    | _ => False) := rfl
theorem g3_66  : mm_step (mm_rw mr_3) none tb call Q C 66 lv st h kc ks = (C 67 lv (vI 0 :: st) h kc ks) := rfl
theorem g3_67  : mm_step (mm_rw mr_3) none tb call Q C 67 lv st h kc ks = (match mm_rd lv 0 with
    | some (.inr (.inr (.inl (some k)))) => C 68 lv (vR k :: st) h kc ks
    | some (.inr (.inr (.inr t))) => C 68 lv (vT t :: st) h kc ks
    | _ => False) := rfl
theorem g3_68 (k : Nat) : mm_step (mm_rw mr_3) none tb call Q C 68 lv (.inr (.inr (.inl (some k))) :: st) h kc ks = (match h.2 k with
    | some (.inr (.inr (ci, fs))) => ci = 0 ∧ (match fs[4]? with
      | some v => C 71 lv (v :: st) h kc ks
      | none => False)
    | _ => False) := rfl
theorem g3_71 (n dp sp : Int32) (d s : Nat) : mm_step (mm_rw mr_3) none tb call Q C 71 lv (.inl n :: .inl dp :: .inr (.inr (.inl (some d))) :: .inl sp :: .inr (.inr (.inl (some s))) :: st) h kc ks = (match h.2 s, h.2 d with
    | some (.inl (.int, n0, f)), some (.inl (.int, n1, g)) => st.length ≤ 4 ∧ ¬ sp < 0 ∧ ¬ dp < 0 ∧ ¬ n < 0 ∧ sp.toNatClampNeg + n.toNatClampNeg ≤ n0 ∧ dp.toNatClampNeg + n.toNatClampNeg ≤ n1 ∧ C 74 lv st (mm_up h d (cI n1 (va_cpy f g sp.toNatClampNeg dp.toNatClampNeg n.toNatClampNeg))) kc ks
    | _, _ => False) := rfl
theorem g3_74  : mm_step (mm_rw mr_3) none tb call Q C 74 lv [] h kc ks = ((none : Option FieldType) = none ∧ Q none h) := rfl
end G3

abbrev sp_63 : List Nat := [5, 13, 29, 41, 67]
section G63
variable {tb : Nat → Nat × (Nat → Int32)} {call : CO} {Q : AQ} {C : CP} {lv : AL} {st : List AV} {h : AH} {kc ks : Nat}
theorem g63_0  : mm_step (mm_rw mr_63) (some .int) tb call Q C 0 lv st h kc ks = (match mm_rd lv 0 with
    | some (.inr (.inr (.inl (some k)))) => C 1 lv (vR k :: st) h kc ks
    | some (.inr (.inr (.inr t))) => C 1 lv (vT t :: st) h kc ks
    | _ => False) := rfl
theorem g63_1  : mm_step (mm_rw mr_63) (some .int) tb call Q C 1 lv st h kc ks = (match mm_rd lv 1 with
    | some (.inl a) => C 2 lv (vI a :: st) h kc ks
    | _ => False) := rfl
theorem g63_2  : mm_step (mm_rw mr_63) (some .int) tb call Q C 2 lv st h kc ks = ((match (st.take 2).reverse with
    | .inr (.inr (.inl (some k))) :: _ => (match h.2 k with
      | some (.inr (.inr (ci, _))) => mm_cn ci = (mm_mi 86).1.cls
      | _ => False)
    | _ => False) ∧ mm_call call C 86 2 2 lv st h kc ks) := rfl
theorem g63_5 (a : Int32) : mm_step (mm_rw mr_63) (some .int) tb call Q C 5 lv (.inl a :: st) h kc ks = ((a = 0 → C 16 lv st h kc ks) ∧ (¬ a = 0 → C 8 lv st h kc ks)) := rfl
theorem g63_8  : mm_step (mm_rw mr_63) (some .int) tb call Q C 8 lv st h kc ks = (match mm_rd lv 0 with
    | some (.inr (.inr (.inl (some k)))) => C 9 lv (vR k :: st) h kc ks
    | some (.inr (.inr (.inr t))) => C 9 lv (vT t :: st) h kc ks
    | _ => False) := rfl
theorem g63_9  : mm_step (mm_rw mr_63) (some .int) tb call Q C 9 lv st h kc ks = (match mm_rd lv 2 with
    | some (.inl a) => C 10 lv (vI a :: st) h kc ks
    | _ => False) := rfl
theorem g63_10  : mm_step (mm_rw mr_63) (some .int) tb call Q C 10 lv st h kc ks = ((match (st.take 2).reverse with
    | .inr (.inr (.inl (some k))) :: _ => (match h.2 k with
      | some (.inr (.inr (ci, _))) => mm_cn ci = (mm_mi 85).1.cls
      | _ => False)
    | _ => False) ∧ mm_call call C 85 2 10 lv st h kc ks) := rfl
theorem g63_13 (a : Int32) : mm_step (mm_rw mr_63) (some .int) tb call Q C 13 lv (.inl a :: st) h kc ks = ((¬ a = 0 → C 18 lv st h kc ks) ∧ (a = 0 → C 16 lv st h kc ks)) := rfl
theorem g63_16  : mm_step (mm_rw mr_63) (some .int) tb call Q C 16 lv st h kc ks = (C 17 lv (vI (mI 1) :: st) h kc ks) := rfl
theorem g63_17 (v : Int32) : mm_step (mm_rw mr_63) (some .int) tb call Q C 17 lv [.inl v] h kc ks = (True ∧ Q (some (vI v)) h) := rfl
theorem g63_18  : mm_step (mm_rw mr_63) (some .int) tb call Q C 18 lv st h kc ks = (match mm_rd lv 0 with
    | some (.inr (.inr (.inl (some k)))) => C 19 lv (vR k :: st) h kc ks
    | some (.inr (.inr (.inr t))) => C 19 lv (vT t :: st) h kc ks
    | _ => False) := rfl
theorem g63_19 (k : Nat) : mm_step (mm_rw mr_63) (some .int) tb call Q C 19 lv (.inr (.inr (.inl (some k))) :: st) h kc ks = (match h.2 k with
    | some (.inr (.inr (ci, fs))) => ci = 7 ∧ (match fs[5]? with
      | some v => C 22 lv (v :: st) h kc ks
      | none => False)
    | _ => False) := rfl
theorem g63_22 (k : Nat) : mm_step (mm_rw mr_63) (some .int) tb call Q C 22 lv (.inr (.inr (.inl (some k))) :: st) h kc ks = (match h.2 k with
    | some (.inr (.inr (ci, fs))) => ci = 1 ∧ (match fs[0]? with
      | some v => C 25 lv (v :: st) h kc ks
      | none => False)
    | _ => False) := rfl
theorem g63_25  : mm_step (mm_rw mr_63) (some .int) tb call Q C 25 lv st h kc ks = (match mm_rd lv 2 with
    | some (.inl a) => C 26 lv (vI a :: st) h kc ks
    | _ => False) := rfl
theorem g63_26  : mm_step (mm_rw mr_63) (some .int) tb call Q C 26 lv st h kc ks = ((match (st.take 2).reverse with
    | .inr (.inr (.inl (some k))) :: _ => (match h.2 k with
      | some (.inr (.inr (ci, _))) => mm_cn ci = (mm_mi 40).1.cls
      | _ => False)
    | _ => False) ∧ mm_call call C 40 2 26 lv st h kc ks) := rfl
theorem g63_29 (a : Int32) : mm_step (mm_rw mr_63) (some .int) tb call Q C 29 lv (.inl a :: st) h kc ks = (C 30 (mm_st1 lv 3 (vI a)) st h kc ks) := rfl
theorem g63_30  : mm_step (mm_rw mr_63) (some .int) tb call Q C 30 lv st h kc ks = (match mm_rd lv 0 with
    | some (.inr (.inr (.inl (some k)))) => C 31 lv (vR k :: st) h kc ks
    | some (.inr (.inr (.inr t))) => C 31 lv (vT t :: st) h kc ks
    | _ => False) := rfl
theorem g63_31 (k : Nat) : mm_step (mm_rw mr_63) (some .int) tb call Q C 31 lv (.inr (.inr (.inl (some k))) :: st) h kc ks = (match h.2 k with
    | some (.inr (.inr (ci, fs))) => ci = 7 ∧ (match fs[5]? with
      | some v => C 34 lv (v :: st) h kc ks
      | none => False)
    | _ => False) := rfl
theorem g63_34 (k : Nat) : mm_step (mm_rw mr_63) (some .int) tb call Q C 34 lv (.inr (.inr (.inl (some k))) :: st) h kc ks = (match h.2 k with
    | some (.inr (.inr (ci, fs))) => ci = 1 ∧ (match fs[0]? with
      | some v => C 37 lv (v :: st) h kc ks
      | none => False)
    | _ => False) := rfl
theorem g63_37  : mm_step (mm_rw mr_63) (some .int) tb call Q C 37 lv st h kc ks = (match mm_rd lv 3 with
    | some (.inl a) => C 38 lv (vI a :: st) h kc ks
    | _ => False) := rfl
theorem g63_38  : mm_step (mm_rw mr_63) (some .int) tb call Q C 38 lv st h kc ks = ((match (st.take 2).reverse with
    | .inr (.inr (.inl (some k))) :: _ => (match h.2 k with
      | some (.inr (.inr (ci, _))) => mm_cn ci = (mm_mi 41).1.cls
      | _ => False)
    | _ => False) ∧ mm_call call C 41 2 38 lv st h kc ks) := rfl
theorem g63_41 (a : Int32) : mm_step (mm_rw mr_63) (some .int) tb call Q C 41 lv (.inl a :: st) h kc ks = (C 43 (mm_st1 lv 4 (vI a)) st h kc ks) := rfl
theorem g63_43  : mm_step (mm_rw mr_63) (some .int) tb call Q C 43 lv st h kc ks = (match mm_rd lv 4 with
    | some (.inl a) => C 45 lv (vI a :: st) h kc ks
    | _ => False) := rfl
theorem g63_45  : mm_step (mm_rw mr_63) (some .int) tb call Q C 45 lv st h kc ks = (C 47 lv (vI (mI 9) :: st) h kc ks) := rfl
theorem g63_47 (a b : Int32) : mm_step (mm_rw mr_63) (some .int) tb call Q C 47 lv (.inl b :: .inl a :: st) h kc ks = ((¬ a = b → C 53 lv st h kc ks) ∧ (a = b → C 50 lv st h kc ks)) := rfl
theorem g63_50  : mm_step (mm_rw mr_63) (some .int) tb call Q C 50 lv st h kc ks = (C 52 lv (vI (mI 3) :: st) h kc ks) := rfl
theorem g63_52 (v : Int32) : mm_step (mm_rw mr_63) (some .int) tb call Q C 52 lv [.inl v] h kc ks = (True ∧ Q (some (vI v)) h) := rfl
theorem g63_53  : mm_step (mm_rw mr_63) (some .int) tb call Q C 53 lv st h kc ks = (match mm_rd lv 0 with
    | some (.inr (.inr (.inl (some k)))) => C 54 lv (vR k :: st) h kc ks
    | some (.inr (.inr (.inr t))) => C 54 lv (vT t :: st) h kc ks
    | _ => False) := rfl
theorem g63_54 (k : Nat) : mm_step (mm_rw mr_63) (some .int) tb call Q C 54 lv (.inr (.inr (.inl (some k))) :: st) h kc ks = (match h.2 k with
    | some (.inr (.inr (ci, fs))) => ci = 7 ∧ (match fs[6]? with
      | some v => C 57 lv (v :: st) h kc ks
      | none => False)
    | _ => False) := rfl
theorem g63_57  : mm_step (mm_rw mr_63) (some .int) tb call Q C 57 lv st h kc ks = (match mm_rd lv 4 with
    | some (.inl a) => C 59 lv (vI a :: st) h kc ks
    | _ => False) := rfl
theorem g63_59  : mm_step (mm_rw mr_63) (some .int) tb call Q C 59 lv st h kc ks = (match mm_rd lv 3 with
    | some (.inl a) => C 60 lv (vI a :: st) h kc ks
    | _ => False) := rfl
theorem g63_60  : mm_step (mm_rw mr_63) (some .int) tb call Q C 60 lv st h kc ks = (C 62 lv (vI (mI 9) :: st) h kc ks) := rfl
theorem g63_62  : mm_step (mm_rw mr_63) (some .int) tb call Q C 62 lv st h kc ks = (C 64 lv (vI (mI 9) :: st) h kc ks) := rfl
theorem g63_64  : mm_step (mm_rw mr_63) (some .int) tb call Q C 64 lv st h kc ks = ((match (st.take 5).reverse with
    | .inr (.inr (.inl (some k))) :: _ => (match h.2 k with
      | some (.inr (.inr (ci, _))) => mm_cn ci = (mm_mi 1).1.cls
      | _ => False)
    | _ => False) ∧ mm_call call C 1 5 64 lv st h kc ks) := rfl
theorem g63_67  : mm_step (mm_rw mr_63) (some .int) tb call Q C 67 lv st h kc ks = (match mm_rd lv 0 with
    | some (.inr (.inr (.inl (some k)))) => C 68 lv (vR k :: st) h kc ks
    | some (.inr (.inr (.inr t))) => C 68 lv (vT t :: st) h kc ks
    | _ => False) := rfl
theorem g63_68 (k : Nat) : mm_step (mm_rw mr_63) (some .int) tb call Q C 68 lv (.inr (.inr (.inl (some k))) :: st) h kc ks = (match h.2 k with
    | some (.inr (.inr (ci, fs))) => ci = 7 ∧ (match fs[5]? with
      | some v => C 71 lv (v :: st) h kc ks
      | none => False)
    | _ => False) := rfl
theorem g63_71 (k : Nat) : mm_step (mm_rw mr_63) (some .int) tb call Q C 71 lv (.inr (.inr (.inl (some k))) :: st) h kc ks = (match h.2 k with
    | some (.inr (.inr (ci, fs))) => ci = 1 ∧ (match fs[1]? with
      | some v => C 74 lv (v :: st) h kc ks
      | none => False)
    | _ => False) := rfl
theorem g63_74  : mm_step (mm_rw mr_63) (some .int) tb call Q C 74 lv st h kc ks = (match mm_rd lv 4 with
    | some (.inl a) => C 76 lv (vI a :: st) h kc ks
    | _ => False) := rfl
theorem g63_76  : mm_step (mm_rw mr_63) (some .int) tb call Q C 76 lv st h kc ks = (match mm_rd lv 1 with
    | some (.inl a) => C 77 lv (vI a :: st) h kc ks
    | _ => False) := rfl
theorem g63_77 (v i : Int32) (k : Nat) : mm_step (mm_rw mr_63) (some .int) tb call Q C 77 lv (.inl v :: .inl i :: .inr (.inr (.inl (some k))) :: st) h kc ks = (match h.2 k with
    | some (.inl (.int, n, f)) => vp_in i n ∧ C 78 lv st (mm_up h k (cI n (upd f i.toNatClampNeg v))) kc ks
    | _ => False) := rfl
theorem g63_78  : mm_step (mm_rw mr_63) (some .int) tb call Q C 78 lv st h kc ks = (match mm_rd lv 0 with
    | some (.inr (.inr (.inl (some k)))) => C 79 lv (vR k :: st) h kc ks
    | some (.inr (.inr (.inr t))) => C 79 lv (vT t :: st) h kc ks
    | _ => False) := rfl
theorem g63_79 (k : Nat) : mm_step (mm_rw mr_63) (some .int) tb call Q C 79 lv (.inr (.inr (.inl (some k))) :: st) h kc ks = (match h.2 k with
    | some (.inr (.inr (ci, fs))) => ci = 7 ∧ (match fs[5]? with
      | some v => C 82 lv (v :: st) h kc ks
      | none => False)
    | _ => False) := rfl
theorem g63_82 (k : Nat) : mm_step (mm_rw mr_63) (some .int) tb call Q C 82 lv (.inr (.inr (.inl (some k))) :: st) h kc ks = (match h.2 k with
    | some (.inr (.inr (ci, fs))) => ci = 1 ∧ (match fs[2]? with
      | some v => C 85 lv (v :: st) h kc ks
      | none => False)
    | _ => False) := rfl
theorem g63_85  : mm_step (mm_rw mr_63) (some .int) tb call Q C 85 lv st h kc ks = (match mm_rd lv 4 with
    | some (.inl a) => C 87 lv (vI a :: st) h kc ks
    | _ => False) := rfl
theorem g63_87  : mm_step (mm_rw mr_63) (some .int) tb call Q C 87 lv st h kc ks = (match mm_rd lv 2 with
    | some (.inl a) => C 88 lv (vI a :: st) h kc ks
    | _ => False) := rfl
theorem g63_88 (v i : Int32) (k : Nat) : mm_step (mm_rw mr_63) (some .int) tb call Q C 88 lv (.inl v :: .inl i :: .inr (.inr (.inl (some k))) :: st) h kc ks = (match h.2 k with
    | some (.inl (.int, n, f)) => vp_in i n ∧ C 89 lv st (mm_up h k (cI n (upd f i.toNatClampNeg v))) kc ks
    | _ => False) := rfl
theorem g63_89  : mm_step (mm_rw mr_63) (some .int) tb call Q C 89 lv st h kc ks = (match mm_rd lv 4 with
    | some (.inl a) => C 91 lv (vI a :: st) h kc ks
    | _ => False) := rfl
theorem g63_91 (v : Int32) : mm_step (mm_rw mr_63) (some .int) tb call Q C 91 lv [.inl v] h kc ks = (True ∧ Q (some (vI v)) h) := rfl
end G63

abbrev sp_64 : List Nat := [5, 15, 45, 73]
section G64
variable {tb : Nat → Nat × (Nat → Int32)} {call : CO} {Q : AQ} {C : CP} {lv : AL} {st : List AV} {h : AH} {kc ks : Nat}
theorem g64_0  : mm_step (mm_rw mr_64) (some .int) tb call Q C 0 lv st h kc ks = (match mm_rd lv 0 with
    | some (.inr (.inr (.inl (some k)))) => C 1 lv (vR k :: st) h kc ks
    | some (.inr (.inr (.inr t))) => C 1 lv (vT t :: st) h kc ks
    | _ => False) := rfl
theorem g64_1  : mm_step (mm_rw mr_64) (some .int) tb call Q C 1 lv st h kc ks = (match mm_rd lv 1 with
    | some (.inl a) => C 2 lv (vI a :: st) h kc ks
    | _ => False) := rfl
theorem g64_2  : mm_step (mm_rw mr_64) (some .int) tb call Q C 2 lv st h kc ks = ((match (st.take 2).reverse with
    | .inr (.inr (.inl (some k))) :: _ => (match h.2 k with
      | some (.inr (.inr (ci, _))) => mm_cn ci = (mm_mi 85).1.cls
      | _ => False)
    | _ => False) ∧ mm_call call C 85 2 2 lv st h kc ks) := rfl
theorem g64_5 (a : Int32) : mm_step (mm_rw mr_64) (some .int) tb call Q C 5 lv (.inl a :: st) h kc ks = ((¬ a = 0 → C 10 lv st h kc ks) ∧ (a = 0 → C 8 lv st h kc ks)) := rfl
theorem g64_8  : mm_step (mm_rw mr_64) (some .int) tb call Q C 8 lv st h kc ks = (C 9 lv (vI (mI 1) :: st) h kc ks) := rfl
theorem g64_9 (v : Int32) : mm_step (mm_rw mr_64) (some .int) tb call Q C 9 lv [.inl v] h kc ks = (True ∧ Q (some (vI v)) h) := rfl
theorem g64_10  : mm_step (mm_rw mr_64) (some .int) tb call Q C 10 lv st h kc ks = (match mm_rd lv 0 with
    | some (.inr (.inr (.inl (some k)))) => C 11 lv (vR k :: st) h kc ks
    | some (.inr (.inr (.inr t))) => C 11 lv (vT t :: st) h kc ks
    | _ => False) := rfl
theorem g64_11  : mm_step (mm_rw mr_64) (some .int) tb call Q C 11 lv st h kc ks = (match mm_rd lv 1 with
    | some (.inl a) => C 12 lv (vI a :: st) h kc ks
    | _ => False) := rfl
theorem g64_12  : mm_step (mm_rw mr_64) (some .int) tb call Q C 12 lv st h kc ks = ((match (st.take 2).reverse with
    | .inr (.inr (.inl (some k))) :: _ => (match h.2 k with
      | some (.inr (.inr (ci, _))) => mm_cn ci = (mm_mi 88).1.cls
      | _ => False)
    | _ => False) ∧ mm_call call C 88 2 12 lv st h kc ks) := rfl
theorem g64_15 (a : Int32) : mm_step (mm_rw mr_64) (some .int) tb call Q C 15 lv (.inl a :: st) h kc ks = ((a = 0 → C 21 lv st h kc ks) ∧ (¬ a = 0 → C 18 lv st h kc ks)) := rfl
theorem g64_18  : mm_step (mm_rw mr_64) (some .int) tb call Q C 18 lv st h kc ks = (C 20 lv (vI (mI 3) :: st) h kc ks) := rfl
theorem g64_20 (v : Int32) : mm_step (mm_rw mr_64) (some .int) tb call Q C 20 lv [.inl v] h kc ks = (True ∧ Q (some (vI v)) h) := rfl
theorem g64_21  : mm_step (mm_rw mr_64) (some .int) tb call Q C 21 lv st h kc ks = (match mm_rd lv 0 with
    | some (.inr (.inr (.inl (some k)))) => C 22 lv (vR k :: st) h kc ks
    | some (.inr (.inr (.inr t))) => C 22 lv (vT t :: st) h kc ks
    | _ => False) := rfl
theorem g64_22 (k : Nat) : mm_step (mm_rw mr_64) (some .int) tb call Q C 22 lv (.inr (.inr (.inl (some k))) :: st) h kc ks = (match h.2 k with
    | some (.inr (.inr (ci, fs))) => ci = 7 ∧ (match fs[5]? with
      | some v => C 25 lv (v :: st) h kc ks
      | none => False)
    | _ => False) := rfl
theorem g64_25 (k : Nat) : mm_step (mm_rw mr_64) (some .int) tb call Q C 25 lv (.inr (.inr (.inl (some k))) :: st) h kc ks = (match h.2 k with
    | some (.inr (.inr (ci, fs))) => ci = 1 ∧ (match fs[0]? with
      | some v => C 28 lv (v :: st) h kc ks
      | none => False)
    | _ => False) := rfl
theorem g64_28  : mm_step (mm_rw mr_64) (some .int) tb call Q C 28 lv st h kc ks = (match mm_rd lv 1 with
    | some (.inl a) => C 29 lv (vI a :: st) h kc ks
    | _ => False) := rfl
theorem g64_29  : mm_step (mm_rw mr_64) (some .int) tb call Q C 29 lv st h kc ks = (match mm_rd lv 0 with
    | some (.inr (.inr (.inl (some k)))) => C 30 lv (vR k :: st) h kc ks
    | some (.inr (.inr (.inr t))) => C 30 lv (vT t :: st) h kc ks
    | _ => False) := rfl
theorem g64_30 (k : Nat) : mm_step (mm_rw mr_64) (some .int) tb call Q C 30 lv (.inr (.inr (.inl (some k))) :: st) h kc ks = (match h.2 k with
    | some (.inr (.inr (ci, fs))) => ci = 7 ∧ (match fs[5]? with
      | some v => C 33 lv (v :: st) h kc ks
      | none => False)
    | _ => False) := rfl
theorem g64_33 (k : Nat) : mm_step (mm_rw mr_64) (some .int) tb call Q C 33 lv (.inr (.inr (.inl (some k))) :: st) h kc ks = (match h.2 k with
    | some (.inr (.inr (ci, fs))) => ci = 1 ∧ (match fs[2]? with
      | some v => C 36 lv (v :: st) h kc ks
      | none => False)
    | _ => False) := rfl
theorem g64_36  : mm_step (mm_rw mr_64) (some .int) tb call Q C 36 lv st h kc ks = (match mm_rd lv 1 with
    | some (.inl a) => C 37 lv (vI a :: st) h kc ks
    | _ => False) := rfl
theorem g64_37 (i : Int32) (k : Nat) : mm_step (mm_rw mr_64) (some .int) tb call Q C 37 lv (.inl i :: .inr (.inr (.inl (some k))) :: st) h kc ks = (match h.2 k with
    | some (.inl (.int, n, f)) => vp_in i n ∧ C 38 lv (vI (f i.toNatClampNeg) :: st) h kc ks
    | _ => False) := rfl
theorem g64_37t (i : Int32) (t : Nat) : mm_step (mm_rw mr_64) (some .int) tb call Q C 37 lv (.inl i :: .inr (.inr (.inr t)) :: st) h kc ks = (vp_in i (tb t).1 ∧ C 38 lv (vI ((tb t).2 i.toNatClampNeg) :: st) h kc ks) := rfl
theorem g64_38  : mm_step (mm_rw mr_64) (some .int) tb call Q C 38 lv st h kc ks = (match mm_rd lv 0 with
    | some (.inr (.inr (.inl (some k)))) => C 39 lv (vR k :: st) h kc ks
    | some (.inr (.inr (.inr t))) => C 39 lv (vT t :: st) h kc ks
    | _ => False) := rfl
theorem g64_39 (k : Nat) : mm_step (mm_rw mr_64) (some .int) tb call Q C 39 lv (.inr (.inr (.inl (some k))) :: st) h kc ks = (match h.2 k with
    | some (.inr (.inr (ci, fs))) => ci = 7 ∧ (match fs[4]? with
      | some v => C 42 lv (v :: st) h kc ks
      | none => False)
    | _ => False) := rfl
theorem g64_42  : mm_step (mm_rw mr_64) (some .int) tb call Q C 42 lv st h kc ks = ((match (st.take 4).reverse with
    | .inr (.inr (.inl (some k))) :: _ => (match h.2 k with
      | some (.inr (.inr (ci, _))) => mm_cn ci = (mm_mi 43).1.cls
      | _ => False)
    | _ => False) ∧ mm_call call C 43 4 42 lv st h kc ks) := rfl
theorem g64_45 (a : Int32) : mm_step (mm_rw mr_64) (some .int) tb call Q C 45 lv (.inl a :: st) h kc ks = (C 46 (mm_st1 lv 2 (vI a)) st h kc ks) := rfl
theorem g64_46  : mm_step (mm_rw mr_64) (some .int) tb call Q C 46 lv st h kc ks = (match mm_rd lv 0 with
    | some (.inr (.inr (.inl (some k)))) => C 47 lv (vR k :: st) h kc ks
    | some (.inr (.inr (.inr t))) => C 47 lv (vT t :: st) h kc ks
    | _ => False) := rfl
theorem g64_47 (k : Nat) : mm_step (mm_rw mr_64) (some .int) tb call Q C 47 lv (.inr (.inr (.inl (some k))) :: st) h kc ks = (match h.2 k with
    | some (.inr (.inr (ci, fs))) => ci = 7 ∧ (match fs[6]? with
      | some v => C 50 lv (v :: st) h kc ks
      | none => False)
    | _ => False) := rfl
theorem g64_50  : mm_step (mm_rw mr_64) (some .int) tb call Q C 50 lv st h kc ks = (match mm_rd lv 1 with
    | some (.inl a) => C 51 lv (vI a :: st) h kc ks
    | _ => False) := rfl
theorem g64_51  : mm_step (mm_rw mr_64) (some .int) tb call Q C 51 lv st h kc ks = (match mm_rd lv 2 with
    | some (.inl a) => C 52 lv (vI a :: st) h kc ks
    | _ => False) := rfl
theorem g64_52  : mm_step (mm_rw mr_64) (some .int) tb call Q C 52 lv st h kc ks = (match mm_rd lv 0 with
    | some (.inr (.inr (.inl (some k)))) => C 53 lv (vR k :: st) h kc ks
    | some (.inr (.inr (.inr t))) => C 53 lv (vT t :: st) h kc ks
    | _ => False) := rfl
theorem g64_53 (k : Nat) : mm_step (mm_rw mr_64) (some .int) tb call Q C 53 lv (.inr (.inr (.inl (some k))) :: st) h kc ks = (match h.2 k with
    | some (.inr (.inr (ci, fs))) => ci = 7 ∧ (match fs[5]? with
      | some v => C 56 lv (v :: st) h kc ks
      | none => False)
    | _ => False) := rfl
theorem g64_56 (k : Nat) : mm_step (mm_rw mr_64) (some .int) tb call Q C 56 lv (.inr (.inr (.inl (some k))) :: st) h kc ks = (match h.2 k with
    | some (.inr (.inr (ci, fs))) => ci = 1 ∧ (match fs[1]? with
      | some v => C 59 lv (v :: st) h kc ks
      | none => False)
    | _ => False) := rfl
theorem g64_59  : mm_step (mm_rw mr_64) (some .int) tb call Q C 59 lv st h kc ks = (match mm_rd lv 1 with
    | some (.inl a) => C 60 lv (vI a :: st) h kc ks
    | _ => False) := rfl
theorem g64_60 (i : Int32) (k : Nat) : mm_step (mm_rw mr_64) (some .int) tb call Q C 60 lv (.inl i :: .inr (.inr (.inl (some k))) :: st) h kc ks = (match h.2 k with
    | some (.inl (.int, n, f)) => vp_in i n ∧ C 61 lv (vI (f i.toNatClampNeg) :: st) h kc ks
    | _ => False) := rfl
theorem g64_60t (i : Int32) (t : Nat) : mm_step (mm_rw mr_64) (some .int) tb call Q C 60 lv (.inl i :: .inr (.inr (.inr t)) :: st) h kc ks = (vp_in i (tb t).1 ∧ C 61 lv (vI ((tb t).2 i.toNatClampNeg) :: st) h kc ks) := rfl
theorem g64_61  : mm_step (mm_rw mr_64) (some .int) tb call Q C 61 lv st h kc ks = (match mm_rd lv 0 with
    | some (.inr (.inr (.inl (some k)))) => C 62 lv (vR k :: st) h kc ks
    | some (.inr (.inr (.inr t))) => C 62 lv (vT t :: st) h kc ks
    | _ => False) := rfl
theorem g64_62 (k : Nat) : mm_step (mm_rw mr_64) (some .int) tb call Q C 62 lv (.inr (.inr (.inl (some k))) :: st) h kc ks = (match h.2 k with
    | some (.inr (.inr (ci, fs))) => ci = 7 ∧ (match fs[5]? with
      | some v => C 65 lv (v :: st) h kc ks
      | none => False)
    | _ => False) := rfl
theorem g64_65 (k : Nat) : mm_step (mm_rw mr_64) (some .int) tb call Q C 65 lv (.inr (.inr (.inl (some k))) :: st) h kc ks = (match h.2 k with
    | some (.inr (.inr (ci, fs))) => ci = 1 ∧ (match fs[2]? with
      | some v => C 68 lv (v :: st) h kc ks
      | none => False)
    | _ => False) := rfl
theorem g64_68  : mm_step (mm_rw mr_64) (some .int) tb call Q C 68 lv st h kc ks = (match mm_rd lv 1 with
    | some (.inl a) => C 69 lv (vI a :: st) h kc ks
    | _ => False) := rfl
theorem g64_69 (i : Int32) (k : Nat) : mm_step (mm_rw mr_64) (some .int) tb call Q C 69 lv (.inl i :: .inr (.inr (.inl (some k))) :: st) h kc ks = (match h.2 k with
    | some (.inl (.int, n, f)) => vp_in i n ∧ C 70 lv (vI (f i.toNatClampNeg) :: st) h kc ks
    | _ => False) := rfl
theorem g64_69t (i : Int32) (t : Nat) : mm_step (mm_rw mr_64) (some .int) tb call Q C 69 lv (.inl i :: .inr (.inr (.inr t)) :: st) h kc ks = (vp_in i (tb t).1 ∧ C 70 lv (vI ((tb t).2 i.toNatClampNeg) :: st) h kc ks) := rfl
theorem g64_70  : mm_step (mm_rw mr_64) (some .int) tb call Q C 70 lv st h kc ks = ((match (st.take 5).reverse with
    | .inr (.inr (.inl (some k))) :: _ => (match h.2 k with
      | some (.inr (.inr (ci, _))) => mm_cn ci = (mm_mi 1).1.cls
      | _ => False)
    | _ => False) ∧ mm_call call C 1 5 70 lv st h kc ks) := rfl
theorem g64_73  : mm_step (mm_rw mr_64) (some .int) tb call Q C 73 lv st h kc ks = (match mm_rd lv 0 with
    | some (.inr (.inr (.inl (some k)))) => C 74 lv (vR k :: st) h kc ks
    | some (.inr (.inr (.inr t))) => C 74 lv (vT t :: st) h kc ks
    | _ => False) := rfl
theorem g64_74 (k : Nat) : mm_step (mm_rw mr_64) (some .int) tb call Q C 74 lv (.inr (.inr (.inl (some k))) :: st) h kc ks = (match h.2 k with
    | some (.inr (.inr (ci, fs))) => ci = 7 ∧ (match fs[5]? with
      | some v => C 77 lv (v :: st) h kc ks
      | none => False)
    | _ => False) := rfl
theorem g64_77 (k : Nat) : mm_step (mm_rw mr_64) (some .int) tb call Q C 77 lv (.inr (.inr (.inl (some k))) :: st) h kc ks = (match h.2 k with
    | some (.inr (.inr (ci, fs))) => ci = 1 ∧ (match fs[1]? with
      | some v => C 80 lv (v :: st) h kc ks
      | none => False)
    | _ => False) := rfl
theorem g64_80  : mm_step (mm_rw mr_64) (some .int) tb call Q C 80 lv st h kc ks = (match mm_rd lv 1 with
    | some (.inl a) => C 81 lv (vI a :: st) h kc ks
    | _ => False) := rfl
theorem g64_81  : mm_step (mm_rw mr_64) (some .int) tb call Q C 81 lv st h kc ks = (C 83 lv (vI (mI 9) :: st) h kc ks) := rfl
theorem g64_83 (v i : Int32) (k : Nat) : mm_step (mm_rw mr_64) (some .int) tb call Q C 83 lv (.inl v :: .inl i :: .inr (.inr (.inl (some k))) :: st) h kc ks = (match h.2 k with
    | some (.inl (.int, n, f)) => vp_in i n ∧ C 84 lv st (mm_up h k (cI n (upd f i.toNatClampNeg v))) kc ks
    | _ => False) := rfl
theorem g64_84  : mm_step (mm_rw mr_64) (some .int) tb call Q C 84 lv st h kc ks = (match mm_rd lv 0 with
    | some (.inr (.inr (.inl (some k)))) => C 85 lv (vR k :: st) h kc ks
    | some (.inr (.inr (.inr t))) => C 85 lv (vT t :: st) h kc ks
    | _ => False) := rfl
theorem g64_85 (k : Nat) : mm_step (mm_rw mr_64) (some .int) tb call Q C 85 lv (.inr (.inr (.inl (some k))) :: st) h kc ks = (match h.2 k with
    | some (.inr (.inr (ci, fs))) => ci = 7 ∧ (match fs[5]? with
      | some v => C 88 lv (v :: st) h kc ks
      | none => False)
    | _ => False) := rfl
theorem g64_88 (k : Nat) : mm_step (mm_rw mr_64) (some .int) tb call Q C 88 lv (.inr (.inr (.inl (some k))) :: st) h kc ks = (match h.2 k with
    | some (.inr (.inr (ci, fs))) => ci = 1 ∧ (match fs[2]? with
      | some v => C 91 lv (v :: st) h kc ks
      | none => False)
    | _ => False) := rfl
theorem g64_91  : mm_step (mm_rw mr_64) (some .int) tb call Q C 91 lv st h kc ks = (match mm_rd lv 1 with
    | some (.inl a) => C 92 lv (vI a :: st) h kc ks
    | _ => False) := rfl
theorem g64_92  : mm_step (mm_rw mr_64) (some .int) tb call Q C 92 lv st h kc ks = (C 94 lv (vI (mI 9) :: st) h kc ks) := rfl
theorem g64_94 (v i : Int32) (k : Nat) : mm_step (mm_rw mr_64) (some .int) tb call Q C 94 lv (.inl v :: .inl i :: .inr (.inr (.inl (some k))) :: st) h kc ks = (match h.2 k with
    | some (.inl (.int, n, f)) => vp_in i n ∧ C 95 lv st (mm_up h k (cI n (upd f i.toNatClampNeg v))) kc ks
    | _ => False) := rfl
theorem g64_95  : mm_step (mm_rw mr_64) (some .int) tb call Q C 95 lv st h kc ks = (match mm_rd lv 2 with
    | some (.inl a) => C 96 lv (vI a :: st) h kc ks
    | _ => False) := rfl
theorem g64_96 (v : Int32) : mm_step (mm_rw mr_64) (some .int) tb call Q C 96 lv [.inl v] h kc ks = (True ∧ Q (some (vI v)) h) := rfl
end G64

abbrev sp_65 : List Nat := [24]
section G65
variable {tb : Nat → Nat × (Nat → Int32)} {call : CO} {Q : AQ} {C : CP} {lv : AL} {st : List AV} {h : AH} {kc ks : Nat}
theorem g65_0  : mm_step (mm_rw mr_65) (some .int) tb call Q C 0 lv st h kc ks = (match mm_rd lv 0 with
    | some (.inr (.inr (.inl (some k)))) => C 1 lv (vR k :: st) h kc ks
    | some (.inr (.inr (.inr t))) => C 1 lv (vT t :: st) h kc ks
    | _ => False) := rfl
theorem g65_1 (k : Nat) : mm_step (mm_rw mr_65) (some .int) tb call Q C 1 lv (.inr (.inr (.inl (some k))) :: st) h kc ks = (match h.2 k with
    | some (.inr (.inr (ci, fs))) => ci = 7 ∧ (match fs[6]? with
      | some v => C 4 lv (v :: st) h kc ks
      | none => False)
    | _ => False) := rfl
theorem g65_4 (k : Nat) : mm_step (mm_rw mr_65) (some .int) tb call Q C 4 lv (.inr (.inr (.inl (some k))) :: st) h kc ks = (match h.2 k with
    | some (.inr (.inr (ci, fs))) => ci = 0 ∧ (match fs[4]? with
      | some v => C 7 lv (v :: st) h kc ks
      | none => False)
    | _ => False) := rfl
theorem g65_7 (a : Int32) : mm_step (mm_rw mr_65) (some .int) tb call Q C 7 lv (.inl a :: st) h kc ks = ((¬ a = 0 → C 13 lv st h kc ks) ∧ (a = 0 → C 10 lv st h kc ks)) := rfl
theorem g65_10  : mm_step (mm_rw mr_65) (some .int) tb call Q C 10 lv st h kc ks = (C 12 lv (vI (mI 3) :: st) h kc ks) := rfl
theorem g65_12 (v : Int32) : mm_step (mm_rw mr_65) (some .int) tb call Q C 12 lv [.inl v] h kc ks = (True ∧ Q (some (vI v)) h) := rfl
theorem g65_13  : mm_step (mm_rw mr_65) (some .int) tb call Q C 13 lv st h kc ks = (match mm_rd lv 0 with
    | some (.inr (.inr (.inl (some k)))) => C 14 lv (vR k :: st) h kc ks
    | some (.inr (.inr (.inr t))) => C 14 lv (vT t :: st) h kc ks
    | _ => False) := rfl
theorem g65_14 (k : Nat) : mm_step (mm_rw mr_65) (some .int) tb call Q C 14 lv (.inr (.inr (.inl (some k))) :: st) h kc ks = (match h.2 k with
    | some (.inr (.inr (ci, fs))) => ci = 7 ∧ (match fs[6]? with
      | some v => C 17 lv (v :: st) h kc ks
      | none => False)
    | _ => False) := rfl
theorem g65_17  : mm_step (mm_rw mr_65) (some .int) tb call Q C 17 lv st h kc ks = (match mm_rd lv 0 with
    | some (.inr (.inr (.inl (some k)))) => C 18 lv (vR k :: st) h kc ks
    | some (.inr (.inr (.inr t))) => C 18 lv (vT t :: st) h kc ks
    | _ => False) := rfl
theorem g65_18 (k : Nat) : mm_step (mm_rw mr_65) (some .int) tb call Q C 18 lv (.inr (.inr (.inl (some k))) :: st) h kc ks = (match h.2 k with
    | some (.inr (.inr (ci, fs))) => ci = 7 ∧ (match fs[5]? with
      | some v => C 21 lv (v :: st) h kc ks
      | none => False)
    | _ => False) := rfl
theorem g65_21  : mm_step (mm_rw mr_65) (some .int) tb call Q C 21 lv st h kc ks = ((match (st.take 2).reverse with
    | .inr (.inr (.inl (some k))) :: _ => (match h.2 k with
      | some (.inr (.inr (ci, _))) => mm_cn ci = (mm_mi 2).1.cls
      | _ => False)
    | _ => False) ∧ mm_call call C 2 2 21 lv st h kc ks) := rfl
theorem g65_24  : mm_step (mm_rw mr_65) (some .int) tb call Q C 24 lv st h kc ks = (match mm_rd lv 0 with
    | some (.inr (.inr (.inl (some k)))) => C 25 lv (vR k :: st) h kc ks
    | some (.inr (.inr (.inr t))) => C 25 lv (vT t :: st) h kc ks
    | _ => False) := rfl
theorem g65_25 (k : Nat) : mm_step (mm_rw mr_65) (some .int) tb call Q C 25 lv (.inr (.inr (.inl (some k))) :: st) h kc ks = (match h.2 k with
    | some (.inr (.inr (ci, fs))) => ci = 7 ∧ (match fs[6]? with
      | some v => C 28 lv (v :: st) h kc ks
      | none => False)
    | _ => False) := rfl
theorem g65_28 (k : Nat) : mm_step (mm_rw mr_65) (some .int) tb call Q C 28 lv (.inr (.inr (.inl (some k))) :: st) h kc ks = (match h.2 k with
    | some (.inr (.inr (ci, fs))) => ci = 0 ∧ (match fs[4]? with
      | some v => C 31 lv (v :: st) h kc ks
      | none => False)
    | _ => False) := rfl
theorem g65_31 (v : Int32) : mm_step (mm_rw mr_65) (some .int) tb call Q C 31 lv [.inl v] h kc ks = (True ∧ Q (some (vI v)) h) := rfl
end G65

abbrev sp_116 : List Nat := [2]
section G116
variable {tb : Nat → Nat × (Nat → Int32)} {call : CO} {Q : AQ} {C : CP} {lv : AL} {st : List AV} {h : AH} {kc ks : Nat}
theorem g116_0  : mm_step (mm_rw mr_116) none tb call Q C 0 lv st h kc ks = (C 1 lv (vI 0 :: st) h kc ks) := rfl
theorem g116_1 (a : Int32) : mm_step (mm_rw mr_116) none tb call Q C 1 lv (.inl a :: st) h kc ks = (C 2 (mm_st1 lv 1 (vI a)) st h kc ks) := rfl
theorem g116_2  : mm_step (mm_rw mr_116) none tb call Q C 2 lv st h kc ks = (match mm_rd lv 1 with
    | some (.inl a) => C 3 lv (vI a :: st) h kc ks
    | _ => False) := rfl
theorem g116_3  : mm_step (mm_rw mr_116) none tb call Q C 3 lv st h kc ks = (C 5 lv (vI 8 :: st) h kc ks) := rfl
theorem g116_5 (a b : Int32) : mm_step (mm_rw mr_116) none tb call Q C 5 lv (.inl b :: .inl a :: st) h kc ks = ((b ≤ a → C 80 lv st h kc ks) ∧ (¬ b ≤ a → C 8 lv st h kc ks)) := rfl
theorem g116_8  : mm_step (mm_rw mr_116) none tb call Q C 8 lv st h kc ks = (match mm_rd lv 0 with
    | some (.inr (.inr (.inl (some k)))) => C 9 lv (vR k :: st) h kc ks
    | some (.inr (.inr (.inr t))) => C 9 lv (vT t :: st) h kc ks
    | _ => False) := rfl
theorem g116_9 (k : Nat) : mm_step (mm_rw mr_116) none tb call Q C 9 lv (.inr (.inr (.inl (some k))) :: st) h kc ks = (match h.2 k with
    | some (.inr (.inr (ci, fs))) => ci = 8 ∧ (match fs[24]? with
      | some v => C 12 lv (v :: st) h kc ks
      | none => False)
    | _ => False) := rfl
theorem g116_12  : mm_step (mm_rw mr_116) none tb call Q C 12 lv st h kc ks = (C 14 lv (vI 25 :: st) h kc ks) := rfl
theorem g116_14  : mm_step (mm_rw mr_116) none tb call Q C 14 lv st h kc ks = (match mm_rd lv 0 with
    | some (.inr (.inr (.inl (some k)))) => C 15 lv (vR k :: st) h kc ks
    | some (.inr (.inr (.inr t))) => C 15 lv (vT t :: st) h kc ks
    | _ => False) := rfl
theorem g116_15 (k : Nat) : mm_step (mm_rw mr_116) none tb call Q C 15 lv (.inr (.inr (.inl (some k))) :: st) h kc ks = (match h.2 k with
    | some (.inr (.inr (ci, fs))) => ci = 8 ∧ (match fs[23]? with
      | some v => C 18 lv (v :: st) h kc ks
      | none => False)
    | _ => False) := rfl
theorem g116_18 (a b : Int32) : mm_step (mm_rw mr_116) none tb call Q C 18 lv (.inl b :: .inl a :: st) h kc ks = (C 19 lv (vI (a * b) :: st) h kc ks) := rfl
theorem g116_19  : mm_step (mm_rw mr_116) none tb call Q C 19 lv st h kc ks = (match mm_rd lv 1 with
    | some (.inl a) => C 20 lv (vI a :: st) h kc ks
    | _ => False) := rfl
theorem g116_20 (a b : Int32) : mm_step (mm_rw mr_116) none tb call Q C 20 lv (.inl b :: .inl a :: st) h kc ks = (C 21 lv (vI (a + b) :: st) h kc ks) := rfl
theorem g116_21  : mm_step (mm_rw mr_116) none tb call Q C 21 lv st h kc ks = (match mm_rd lv 0 with
    | some (.inr (.inr (.inl (some k)))) => C 22 lv (vR k :: st) h kc ks
    | some (.inr (.inr (.inr t))) => C 22 lv (vT t :: st) h kc ks
    | _ => False) := rfl
theorem g116_22 (k : Nat) : mm_step (mm_rw mr_116) none tb call Q C 22 lv (.inr (.inr (.inl (some k))) :: st) h kc ks = (match h.2 k with
    | some (.inr (.inr (ci, fs))) => ci = 8 ∧ (match fs[14]? with
      | some v => C 25 lv (v :: st) h kc ks
      | none => False)
    | _ => False) := rfl
theorem g116_25  : mm_step (mm_rw mr_116) none tb call Q C 25 lv st h kc ks = (match mm_rd lv 1 with
    | some (.inl a) => C 26 lv (vI a :: st) h kc ks
    | _ => False) := rfl
theorem g116_26 (i : Int32) (k : Nat) : mm_step (mm_rw mr_116) none tb call Q C 26 lv (.inl i :: .inr (.inr (.inl (some k))) :: st) h kc ks = (match h.2 k with
    | some (.inl (.int, n, f)) => vp_in i n ∧ C 27 lv (vI (f i.toNatClampNeg) :: st) h kc ks
    | _ => False) := rfl
theorem g116_26t (i : Int32) (t : Nat) : mm_step (mm_rw mr_116) none tb call Q C 26 lv (.inl i :: .inr (.inr (.inr t)) :: st) h kc ks = (vp_in i (tb t).1 ∧ C 27 lv (vI ((tb t).2 i.toNatClampNeg) :: st) h kc ks) := rfl
theorem g116_27 (v i : Int32) (k : Nat) : mm_step (mm_rw mr_116) none tb call Q C 27 lv (.inl v :: .inl i :: .inr (.inr (.inl (some k))) :: st) h kc ks = (match h.2 k with
    | some (.inl (.int, n, f)) => vp_in i n ∧ C 28 lv st (mm_up h k (cI n (upd f i.toNatClampNeg v))) kc ks
    | _ => False) := rfl
theorem g116_28  : mm_step (mm_rw mr_116) none tb call Q C 28 lv st h kc ks = (match mm_rd lv 0 with
    | some (.inr (.inr (.inl (some k)))) => C 29 lv (vR k :: st) h kc ks
    | some (.inr (.inr (.inr t))) => C 29 lv (vT t :: st) h kc ks
    | _ => False) := rfl
theorem g116_29 (k : Nat) : mm_step (mm_rw mr_116) none tb call Q C 29 lv (.inr (.inr (.inl (some k))) :: st) h kc ks = (match h.2 k with
    | some (.inr (.inr (ci, fs))) => ci = 8 ∧ (match fs[24]? with
      | some v => C 32 lv (v :: st) h kc ks
      | none => False)
    | _ => False) := rfl
theorem g116_32  : mm_step (mm_rw mr_116) none tb call Q C 32 lv st h kc ks = (C 34 lv (vI 25 :: st) h kc ks) := rfl
theorem g116_34  : mm_step (mm_rw mr_116) none tb call Q C 34 lv st h kc ks = (match mm_rd lv 0 with
    | some (.inr (.inr (.inl (some k)))) => C 35 lv (vR k :: st) h kc ks
    | some (.inr (.inr (.inr t))) => C 35 lv (vT t :: st) h kc ks
    | _ => False) := rfl
theorem g116_35 (k : Nat) : mm_step (mm_rw mr_116) none tb call Q C 35 lv (.inr (.inr (.inl (some k))) :: st) h kc ks = (match h.2 k with
    | some (.inr (.inr (ci, fs))) => ci = 8 ∧ (match fs[23]? with
      | some v => C 38 lv (v :: st) h kc ks
      | none => False)
    | _ => False) := rfl
theorem g116_38 (a b : Int32) : mm_step (mm_rw mr_116) none tb call Q C 38 lv (.inl b :: .inl a :: st) h kc ks = (C 39 lv (vI (a * b) :: st) h kc ks) := rfl
theorem g116_39  : mm_step (mm_rw mr_116) none tb call Q C 39 lv st h kc ks = (C 41 lv (vI 8 :: st) h kc ks) := rfl
theorem g116_41 (a b : Int32) : mm_step (mm_rw mr_116) none tb call Q C 41 lv (.inl b :: .inl a :: st) h kc ks = (C 42 lv (vI (a + b) :: st) h kc ks) := rfl
theorem g116_42  : mm_step (mm_rw mr_116) none tb call Q C 42 lv st h kc ks = (match mm_rd lv 1 with
    | some (.inl a) => C 43 lv (vI a :: st) h kc ks
    | _ => False) := rfl
theorem g116_43 (a b : Int32) : mm_step (mm_rw mr_116) none tb call Q C 43 lv (.inl b :: .inl a :: st) h kc ks = (C 44 lv (vI (a + b) :: st) h kc ks) := rfl
theorem g116_44  : mm_step (mm_rw mr_116) none tb call Q C 44 lv st h kc ks = (match mm_rd lv 0 with
    | some (.inr (.inr (.inl (some k)))) => C 45 lv (vR k :: st) h kc ks
    | some (.inr (.inr (.inr t))) => C 45 lv (vT t :: st) h kc ks
    | _ => False) := rfl
theorem g116_45 (k : Nat) : mm_step (mm_rw mr_116) none tb call Q C 45 lv (.inr (.inr (.inl (some k))) :: st) h kc ks = (match h.2 k with
    | some (.inr (.inr (ci, fs))) => ci = 8 ∧ (match fs[16]? with
      | some v => C 48 lv (v :: st) h kc ks
      | none => False)
    | _ => False) := rfl
theorem g116_48  : mm_step (mm_rw mr_116) none tb call Q C 48 lv st h kc ks = (match mm_rd lv 1 with
    | some (.inl a) => C 49 lv (vI a :: st) h kc ks
    | _ => False) := rfl
theorem g116_49 (i : Int32) (k : Nat) : mm_step (mm_rw mr_116) none tb call Q C 49 lv (.inl i :: .inr (.inr (.inl (some k))) :: st) h kc ks = (match h.2 k with
    | some (.inl (.int, n, f)) => vp_in i n ∧ C 50 lv (vI (f i.toNatClampNeg) :: st) h kc ks
    | _ => False) := rfl
theorem g116_49t (i : Int32) (t : Nat) : mm_step (mm_rw mr_116) none tb call Q C 49 lv (.inl i :: .inr (.inr (.inr t)) :: st) h kc ks = (vp_in i (tb t).1 ∧ C 50 lv (vI ((tb t).2 i.toNatClampNeg) :: st) h kc ks) := rfl
theorem g116_50 (v i : Int32) (k : Nat) : mm_step (mm_rw mr_116) none tb call Q C 50 lv (.inl v :: .inl i :: .inr (.inr (.inl (some k))) :: st) h kc ks = (match h.2 k with
    | some (.inl (.int, n, f)) => vp_in i n ∧ C 51 lv st (mm_up h k (cI n (upd f i.toNatClampNeg v))) kc ks
    | _ => False) := rfl
theorem g116_51  : mm_step (mm_rw mr_116) none tb call Q C 51 lv st h kc ks = (match mm_rd lv 0 with
    | some (.inr (.inr (.inl (some k)))) => C 52 lv (vR k :: st) h kc ks
    | some (.inr (.inr (.inr t))) => C 52 lv (vT t :: st) h kc ks
    | _ => False) := rfl
theorem g116_52 (k : Nat) : mm_step (mm_rw mr_116) none tb call Q C 52 lv (.inr (.inr (.inl (some k))) :: st) h kc ks = (match h.2 k with
    | some (.inr (.inr (ci, fs))) => ci = 8 ∧ (match fs[24]? with
      | some v => C 55 lv (v :: st) h kc ks
      | none => False)
    | _ => False) := rfl
theorem g116_55  : mm_step (mm_rw mr_116) none tb call Q C 55 lv st h kc ks = (C 57 lv (vI 25 :: st) h kc ks) := rfl
theorem g116_57  : mm_step (mm_rw mr_116) none tb call Q C 57 lv st h kc ks = (match mm_rd lv 0 with
    | some (.inr (.inr (.inl (some k)))) => C 58 lv (vR k :: st) h kc ks
    | some (.inr (.inr (.inr t))) => C 58 lv (vT t :: st) h kc ks
    | _ => False) := rfl
theorem g116_58 (k : Nat) : mm_step (mm_rw mr_116) none tb call Q C 58 lv (.inr (.inr (.inl (some k))) :: st) h kc ks = (match h.2 k with
    | some (.inr (.inr (ci, fs))) => ci = 8 ∧ (match fs[23]? with
      | some v => C 61 lv (v :: st) h kc ks
      | none => False)
    | _ => False) := rfl
theorem g116_61 (a b : Int32) : mm_step (mm_rw mr_116) none tb call Q C 61 lv (.inl b :: .inl a :: st) h kc ks = (C 62 lv (vI (a * b) :: st) h kc ks) := rfl
theorem g116_62  : mm_step (mm_rw mr_116) none tb call Q C 62 lv st h kc ks = (C 64 lv (vI 16 :: st) h kc ks) := rfl
theorem g116_64 (a b : Int32) : mm_step (mm_rw mr_116) none tb call Q C 64 lv (.inl b :: .inl a :: st) h kc ks = (C 65 lv (vI (a + b) :: st) h kc ks) := rfl
theorem g116_65  : mm_step (mm_rw mr_116) none tb call Q C 65 lv st h kc ks = (match mm_rd lv 1 with
    | some (.inl a) => C 66 lv (vI a :: st) h kc ks
    | _ => False) := rfl
theorem g116_66 (a b : Int32) : mm_step (mm_rw mr_116) none tb call Q C 66 lv (.inl b :: .inl a :: st) h kc ks = (C 67 lv (vI (a + b) :: st) h kc ks) := rfl
theorem g116_67  : mm_step (mm_rw mr_116) none tb call Q C 67 lv st h kc ks = (match mm_rd lv 0 with
    | some (.inr (.inr (.inl (some k)))) => C 68 lv (vR k :: st) h kc ks
    | some (.inr (.inr (.inr t))) => C 68 lv (vT t :: st) h kc ks
    | _ => False) := rfl
theorem g116_68 (k : Nat) : mm_step (mm_rw mr_116) none tb call Q C 68 lv (.inr (.inr (.inl (some k))) :: st) h kc ks = (match h.2 k with
    | some (.inr (.inr (ci, fs))) => ci = 8 ∧ (match fs[17]? with
      | some v => C 71 lv (v :: st) h kc ks
      | none => False)
    | _ => False) := rfl
theorem g116_71  : mm_step (mm_rw mr_116) none tb call Q C 71 lv st h kc ks = (match mm_rd lv 1 with
    | some (.inl a) => C 72 lv (vI a :: st) h kc ks
    | _ => False) := rfl
theorem g116_72 (i : Int32) (k : Nat) : mm_step (mm_rw mr_116) none tb call Q C 72 lv (.inl i :: .inr (.inr (.inl (some k))) :: st) h kc ks = (match h.2 k with
    | some (.inl (.int, n, f)) => vp_in i n ∧ C 73 lv (vI (f i.toNatClampNeg) :: st) h kc ks
    | _ => False) := rfl
theorem g116_72t (i : Int32) (t : Nat) : mm_step (mm_rw mr_116) none tb call Q C 72 lv (.inl i :: .inr (.inr (.inr t)) :: st) h kc ks = (vp_in i (tb t).1 ∧ C 73 lv (vI ((tb t).2 i.toNatClampNeg) :: st) h kc ks) := rfl
theorem g116_73 (v i : Int32) (k : Nat) : mm_step (mm_rw mr_116) none tb call Q C 73 lv (.inl v :: .inl i :: .inr (.inr (.inl (some k))) :: st) h kc ks = (match h.2 k with
    | some (.inl (.int, n, f)) => vp_in i n ∧ C 74 lv st (mm_up h k (cI n (upd f i.toNatClampNeg v))) kc ks
    | _ => False) := rfl
theorem g116_74  : mm_step (mm_rw mr_116) none tb call Q C 74 lv st h kc ks = (match mm_rd lv 1 with
    | some (.inl a) => C 77 (mm_st1 lv 1 (vI (a + 1))) st h kc ks
    | _ => False) := rfl
theorem g116_77  : mm_step (mm_rw mr_116) none tb call Q C 77 lv st h kc ks = (C 2 lv st h kc ks) := rfl
theorem g116_80  : mm_step (mm_rw mr_116) none tb call Q C 80 lv st h kc ks = (match mm_rd lv 0 with
    | some (.inr (.inr (.inl (some k)))) => C 81 lv (vR k :: st) h kc ks
    | some (.inr (.inr (.inr t))) => C 81 lv (vT t :: st) h kc ks
    | _ => False) := rfl
theorem g116_81 (k : Nat) : mm_step (mm_rw mr_116) none tb call Q C 81 lv (.inr (.inr (.inl (some k))) :: st) h kc ks = (match h.2 k with
    | some (.inr (.inr (ci, fs))) => ci = 8 ∧ (match fs[24]? with
      | some v => C 84 lv (v :: st) h kc ks
      | none => False)
    | _ => False) := rfl
theorem g116_84  : mm_step (mm_rw mr_116) none tb call Q C 84 lv st h kc ks = (C 86 lv (vI 25 :: st) h kc ks) := rfl
theorem g116_86  : mm_step (mm_rw mr_116) none tb call Q C 86 lv st h kc ks = (match mm_rd lv 0 with
    | some (.inr (.inr (.inl (some k)))) => C 87 lv (vR k :: st) h kc ks
    | some (.inr (.inr (.inr t))) => C 87 lv (vT t :: st) h kc ks
    | _ => False) := rfl
theorem g116_87 (k : Nat) : mm_step (mm_rw mr_116) none tb call Q C 87 lv (.inr (.inr (.inl (some k))) :: st) h kc ks = (match h.2 k with
    | some (.inr (.inr (ci, fs))) => ci = 8 ∧ (match fs[23]? with
      | some v => C 90 lv (v :: st) h kc ks
      | none => False)
    | _ => False) := rfl
theorem g116_90 (a b : Int32) : mm_step (mm_rw mr_116) none tb call Q C 90 lv (.inl b :: .inl a :: st) h kc ks = (C 91 lv (vI (a * b) :: st) h kc ks) := rfl
theorem g116_91  : mm_step (mm_rw mr_116) none tb call Q C 91 lv st h kc ks = (C 93 lv (vI 24 :: st) h kc ks) := rfl
theorem g116_93 (a b : Int32) : mm_step (mm_rw mr_116) none tb call Q C 93 lv (.inl b :: .inl a :: st) h kc ks = (C 94 lv (vI (a + b) :: st) h kc ks) := rfl
theorem g116_94  : mm_step (mm_rw mr_116) none tb call Q C 94 lv st h kc ks = (match mm_rd lv 0 with
    | some (.inr (.inr (.inl (some k)))) => C 95 lv (vR k :: st) h kc ks
    | some (.inr (.inr (.inr t))) => C 95 lv (vT t :: st) h kc ks
    | _ => False) := rfl
theorem g116_95 (k : Nat) : mm_step (mm_rw mr_116) none tb call Q C 95 lv (.inr (.inr (.inl (some k))) :: st) h kc ks = (match h.2 k with
    | some (.inr (.inr (ci, fs))) => ci = 8 ∧ (match fs[15]? with
      | some v => C 98 lv (v :: st) h kc ks
      | none => False)
    | _ => False) := rfl
theorem g116_98 (v i : Int32) (k : Nat) : mm_step (mm_rw mr_116) none tb call Q C 98 lv (.inl v :: .inl i :: .inr (.inr (.inl (some k))) :: st) h kc ks = (match h.2 k with
    | some (.inl (.int, n, f)) => vp_in i n ∧ C 99 lv st (mm_up h k (cI n (upd f i.toNatClampNeg v))) kc ks
    | _ => False) := rfl
theorem g116_99  : mm_step (mm_rw mr_116) none tb call Q C 99 lv st h kc ks = (match mm_rd lv 0 with
    | some (.inr (.inr (.inl (some k)))) => C 100 lv (vR k :: st) h kc ks
    | some (.inr (.inr (.inr t))) => C 100 lv (vT t :: st) h kc ks
    | _ => False) := rfl
theorem g116_100  : mm_step (mm_rw mr_116) none tb call Q C 100 lv st h kc ks = (match mm_rd lv 0 with
    | some (.inr (.inr (.inl (some k)))) => C 101 lv (vR k :: st) h kc ks
    | some (.inr (.inr (.inr t))) => C 101 lv (vT t :: st) h kc ks
    | _ => False) := rfl
theorem g116_101 (k : Nat) : mm_step (mm_rw mr_116) none tb call Q C 101 lv (.inr (.inr (.inl (some k))) :: st) h kc ks = (match h.2 k with
    | some (.inr (.inr (ci, fs))) => ci = 8 ∧ (match fs[23]? with
      | some v => C 104 lv (v :: st) h kc ks
      | none => False)
    | _ => False) := rfl
theorem g116_104  : mm_step (mm_rw mr_116) none tb call Q C 104 lv st h kc ks = (C 105 lv (vI 1 :: st) h kc ks) := rfl
theorem g116_105 (a b : Int32) : mm_step (mm_rw mr_116) none tb call Q C 105 lv (.inl b :: .inl a :: st) h kc ks = (C 106 lv (vI (a + b) :: st) h kc ks) := rfl
theorem g116_106  : mm_step (mm_rw mr_116) none tb call Q C 106 lv st h kc ks = (C 108 lv (vI 16 :: st) h kc ks) := rfl
theorem g116_108 (a b : Int32) : mm_step (mm_rw mr_116) none tb call Q C 108 lv (.inl b :: .inl a :: st) h kc ks = (¬ b = 0 ∧ C 109 lv (vI (a - a / b * b) :: st) h kc ks) := rfl
theorem g116_109 (v : AV) (k : Nat) : mm_step (mm_rw mr_116) none tb call Q C 109 lv (v :: .inr (.inr (.inl (some k))) :: st) h kc ks = (match h.2 k with
    | some (.inr (.inr (ci, fs))) => ci = 8 ∧ 23 < fs.length ∧ mm_fit (mm_ft 8 23) v ∧ C 112 lv st (mm_up h k (cO ci (fs.set 23 v))) kc ks
    | _ => False) := rfl
theorem g116_112  : mm_step (mm_rw mr_116) none tb call Q C 112 lv st h kc ks = (match mm_rd lv 0 with
    | some (.inr (.inr (.inl (some k)))) => C 113 lv (vR k :: st) h kc ks
    | some (.inr (.inr (.inr t))) => C 113 lv (vT t :: st) h kc ks
    | _ => False) := rfl
theorem g116_113  : mm_step (mm_rw mr_116) none tb call Q C 113 lv st h kc ks = (match mm_rd lv 0 with
    | some (.inr (.inr (.inl (some k)))) => C 114 lv (vR k :: st) h kc ks
    | some (.inr (.inr (.inr t))) => C 114 lv (vT t :: st) h kc ks
    | _ => False) := rfl
theorem g116_114 (k : Nat) : mm_step (mm_rw mr_116) none tb call Q C 114 lv (.inr (.inr (.inl (some k))) :: st) h kc ks = (match h.2 k with
    | some (.inr (.inr (ci, fs))) => ci = 8 ∧ (match fs[22]? with
      | some v => C 117 lv (v :: st) h kc ks
      | none => False)
    | _ => False) := rfl
theorem g116_117  : mm_step (mm_rw mr_116) none tb call Q C 117 lv st h kc ks = (C 119 lv (vI 16 :: st) h kc ks) := rfl
theorem g116_119 (a b : Int32) : mm_step (mm_rw mr_116) none tb call Q C 119 lv (.inl b :: .inl a :: st) h kc ks = ((b ≤ a → C 131 lv st h kc ks) ∧ (¬ b ≤ a → C 122 lv st h kc ks)) := rfl
theorem g116_122  : mm_step (mm_rw mr_116) none tb call Q C 122 lv st h kc ks = (match mm_rd lv 0 with
    | some (.inr (.inr (.inl (some k)))) => C 123 lv (vR k :: st) h kc ks
    | some (.inr (.inr (.inr t))) => C 123 lv (vT t :: st) h kc ks
    | _ => False) := rfl
theorem g116_123 (k : Nat) : mm_step (mm_rw mr_116) none tb call Q C 123 lv (.inr (.inr (.inl (some k))) :: st) h kc ks = (match h.2 k with
    | some (.inr (.inr (ci, fs))) => ci = 8 ∧ (match fs[22]? with
      | some v => C 126 lv (v :: st) h kc ks
      | none => False)
    | _ => False) := rfl
theorem g116_126  : mm_step (mm_rw mr_116) none tb call Q C 126 lv st h kc ks = (C 127 lv (vI 1 :: st) h kc ks) := rfl
theorem g116_127 (a b : Int32) : mm_step (mm_rw mr_116) none tb call Q C 127 lv (.inl b :: .inl a :: st) h kc ks = (C 128 lv (vI (a + b) :: st) h kc ks) := rfl
theorem g116_128  : mm_step (mm_rw mr_116) none tb call Q C 128 lv st h kc ks = (C 133 lv st h kc ks) := rfl
theorem g116_131  : mm_step (mm_rw mr_116) none tb call Q C 131 lv st h kc ks = (C 133 lv (vI 16 :: st) h kc ks) := rfl
theorem g116_133 (v : AV) (k : Nat) : mm_step (mm_rw mr_116) none tb call Q C 133 lv (v :: .inr (.inr (.inl (some k))) :: st) h kc ks = (match h.2 k with
    | some (.inr (.inr (ci, fs))) => ci = 8 ∧ 22 < fs.length ∧ mm_fit (mm_ft 8 22) v ∧ C 136 lv st (mm_up h k (cO ci (fs.set 22 v))) kc ks
    | _ => False) := rfl
theorem g116_136  : mm_step (mm_rw mr_116) none tb call Q C 136 lv [] h kc ks = ((none : Option FieldType) = none ∧ Q none h) := rfl
end G116

abbrev sp_120 : List Nat := [5, 13, 30, 44, 63]
section G120
variable {tb : Nat → Nat × (Nat → Int32)} {call : CO} {Q : AQ} {C : CP} {lv : AL} {st : List AV} {h : AH} {kc ks : Nat}
theorem g120_0  : mm_step (mm_rw mr_120) (some .int) tb call Q C 0 lv st h kc ks = (match mm_rd lv 0 with
    | some (.inr (.inr (.inl (some k)))) => C 1 lv (vR k :: st) h kc ks
    | some (.inr (.inr (.inr t))) => C 1 lv (vT t :: st) h kc ks
    | _ => False) := rfl
theorem g120_1  : mm_step (mm_rw mr_120) (some .int) tb call Q C 1 lv st h kc ks = (match mm_rd lv 1 with
    | some (.inl a) => C 2 lv (vI a :: st) h kc ks
    | _ => False) := rfl
theorem g120_2  : mm_step (mm_rw mr_120) (some .int) tb call Q C 2 lv st h kc ks = ((match (st.take 2).reverse with
    | .inr (.inr (.inl (some k))) :: _ => (match h.2 k with
      | some (.inr (.inr (ci, _))) => mm_cn ci = (mm_mi 108).1.cls
      | _ => False)
    | _ => False) ∧ mm_call call C 108 2 2 lv st h kc ks) := rfl
theorem g120_5 (a : Int32) : mm_step (mm_rw mr_120) (some .int) tb call Q C 5 lv (.inl a :: st) h kc ks = ((a = 0 → C 16 lv st h kc ks) ∧ (¬ a = 0 → C 8 lv st h kc ks)) := rfl
theorem g120_8  : mm_step (mm_rw mr_120) (some .int) tb call Q C 8 lv st h kc ks = (match mm_rd lv 0 with
    | some (.inr (.inr (.inl (some k)))) => C 9 lv (vR k :: st) h kc ks
    | some (.inr (.inr (.inr t))) => C 9 lv (vT t :: st) h kc ks
    | _ => False) := rfl
theorem g120_9  : mm_step (mm_rw mr_120) (some .int) tb call Q C 9 lv st h kc ks = (match mm_rd lv 2 with
    | some (.inl a) => C 10 lv (vI a :: st) h kc ks
    | _ => False) := rfl
theorem g120_10  : mm_step (mm_rw mr_120) (some .int) tb call Q C 10 lv st h kc ks = ((match (st.take 2).reverse with
    | .inr (.inr (.inl (some k))) :: _ => (match h.2 k with
      | some (.inr (.inr (ci, _))) => mm_cn ci = (mm_mi 107).1.cls
      | _ => False)
    | _ => False) ∧ mm_call call C 107 2 10 lv st h kc ks) := rfl
theorem g120_13 (a : Int32) : mm_step (mm_rw mr_120) (some .int) tb call Q C 13 lv (.inl a :: st) h kc ks = ((¬ a = 0 → C 18 lv st h kc ks) ∧ (a = 0 → C 16 lv st h kc ks)) := rfl
theorem g120_16  : mm_step (mm_rw mr_120) (some .int) tb call Q C 16 lv st h kc ks = (C 17 lv (vI (mI 1) :: st) h kc ks) := rfl
theorem g120_17 (v : Int32) : mm_step (mm_rw mr_120) (some .int) tb call Q C 17 lv [.inl v] h kc ks = (True ∧ Q (some (vI v)) h) := rfl
theorem g120_18  : mm_step (mm_rw mr_120) (some .int) tb call Q C 18 lv st h kc ks = (match mm_rd lv 0 with
    | some (.inr (.inr (.inl (some k)))) => C 19 lv (vR k :: st) h kc ks
    | some (.inr (.inr (.inr t))) => C 19 lv (vT t :: st) h kc ks
    | _ => False) := rfl
theorem g120_19 (k : Nat) : mm_step (mm_rw mr_120) (some .int) tb call Q C 19 lv (.inr (.inr (.inl (some k))) :: st) h kc ks = (match h.2 k with
    | some (.inr (.inr (ci, fs))) => ci = 8 ∧ (match fs[14]? with
      | some v => C 22 lv (v :: st) h kc ks
      | none => False)
    | _ => False) := rfl
theorem g120_22  : mm_step (mm_rw mr_120) (some .int) tb call Q C 22 lv st h kc ks = (match mm_rd lv 0 with
    | some (.inr (.inr (.inl (some k)))) => C 23 lv (vR k :: st) h kc ks
    | some (.inr (.inr (.inr t))) => C 23 lv (vT t :: st) h kc ks
    | _ => False) := rfl
theorem g120_23 (k : Nat) : mm_step (mm_rw mr_120) (some .int) tb call Q C 23 lv (.inr (.inr (.inl (some k))) :: st) h kc ks = (match h.2 k with
    | some (.inr (.inr (ci, fs))) => ci = 8 ∧ (match fs[15]? with
      | some v => C 26 lv (v :: st) h kc ks
      | none => False)
    | _ => False) := rfl
theorem g120_26  : mm_step (mm_rw mr_120) (some .int) tb call Q C 26 lv st h kc ks = (match mm_rd lv 2 with
    | some (.inl a) => C 27 lv (vI a :: st) h kc ks
    | _ => False) := rfl
theorem g120_27  : mm_step (mm_rw mr_120) (some .int) tb call Q C 27 lv st h kc ks = (mm_call call C 109 3 27 lv st h kc ks) := rfl
theorem g120_30 (a : Int32) : mm_step (mm_rw mr_120) (some .int) tb call Q C 30 lv (.inl a :: st) h kc ks = (C 31 (mm_st1 lv 3 (vI a)) st h kc ks) := rfl
theorem g120_31  : mm_step (mm_rw mr_120) (some .int) tb call Q C 31 lv st h kc ks = (match mm_rd lv 3 with
    | some (.inl a) => C 32 lv (vI a :: st) h kc ks
    | _ => False) := rfl
theorem g120_32  : mm_step (mm_rw mr_120) (some .int) tb call Q C 32 lv st h kc ks = (C 34 lv (vI (mI 9) :: st) h kc ks) := rfl
theorem g120_34 (a b : Int32) : mm_step (mm_rw mr_120) (some .int) tb call Q C 34 lv (.inl b :: .inl a :: st) h kc ks = ((¬ a = b → C 40 lv st h kc ks) ∧ (a = b → C 37 lv st h kc ks)) := rfl
theorem g120_37  : mm_step (mm_rw mr_120) (some .int) tb call Q C 37 lv st h kc ks = (C 39 lv (vI (mI 3) :: st) h kc ks) := rfl
theorem g120_39 (v : Int32) : mm_step (mm_rw mr_120) (some .int) tb call Q C 39 lv [.inl v] h kc ks = (True ∧ Q (some (vI v)) h) := rfl
theorem g120_40  : mm_step (mm_rw mr_120) (some .int) tb call Q C 40 lv st h kc ks = (match mm_rd lv 0 with
    | some (.inr (.inr (.inl (some k)))) => C 41 lv (vR k :: st) h kc ks
    | some (.inr (.inr (.inr t))) => C 41 lv (vT t :: st) h kc ks
    | _ => False) := rfl
theorem g120_41  : mm_step (mm_rw mr_120) (some .int) tb call Q C 41 lv st h kc ks = ((match (st.take 1).reverse with
    | .inr (.inr (.inl (some k))) :: _ => (match h.2 k with
      | some (.inr (.inr (ci, _))) => mm_cn ci = (mm_mi 116).1.cls
      | _ => False)
    | _ => False) ∧ mm_call call C 116 1 41 lv st h kc ks) := rfl
theorem g120_44  : mm_step (mm_rw mr_120) (some .int) tb call Q C 44 lv st h kc ks = (match mm_rd lv 0 with
    | some (.inr (.inr (.inl (some k)))) => C 45 lv (vR k :: st) h kc ks
    | some (.inr (.inr (.inr t))) => C 45 lv (vT t :: st) h kc ks
    | _ => False) := rfl
theorem g120_45 (k : Nat) : mm_step (mm_rw mr_120) (some .int) tb call Q C 45 lv (.inr (.inr (.inl (some k))) :: st) h kc ks = (match h.2 k with
    | some (.inr (.inr (ci, fs))) => ci = 8 ∧ (match fs[14]? with
      | some v => C 48 lv (v :: st) h kc ks
      | none => False)
    | _ => False) := rfl
theorem g120_48  : mm_step (mm_rw mr_120) (some .int) tb call Q C 48 lv st h kc ks = (match mm_rd lv 0 with
    | some (.inr (.inr (.inl (some k)))) => C 49 lv (vR k :: st) h kc ks
    | some (.inr (.inr (.inr t))) => C 49 lv (vT t :: st) h kc ks
    | _ => False) := rfl
theorem g120_49 (k : Nat) : mm_step (mm_rw mr_120) (some .int) tb call Q C 49 lv (.inr (.inr (.inl (some k))) :: st) h kc ks = (match h.2 k with
    | some (.inr (.inr (ci, fs))) => ci = 8 ∧ (match fs[15]? with
      | some v => C 52 lv (v :: st) h kc ks
      | none => False)
    | _ => False) := rfl
theorem g120_52  : mm_step (mm_rw mr_120) (some .int) tb call Q C 52 lv st h kc ks = (match mm_rd lv 3 with
    | some (.inl a) => C 53 lv (vI a :: st) h kc ks
    | _ => False) := rfl
theorem g120_53  : mm_step (mm_rw mr_120) (some .int) tb call Q C 53 lv st h kc ks = (C 54 lv (vI 1 :: st) h kc ks) := rfl
theorem g120_54 (a b : Int32) : mm_step (mm_rw mr_120) (some .int) tb call Q C 54 lv (.inl b :: .inl a :: st) h kc ks = (C 55 lv (vI (a + b) :: st) h kc ks) := rfl
theorem g120_55  : mm_step (mm_rw mr_120) (some .int) tb call Q C 55 lv st h kc ks = (match mm_rd lv 0 with
    | some (.inr (.inr (.inl (some k)))) => C 56 lv (vR k :: st) h kc ks
    | some (.inr (.inr (.inr t))) => C 56 lv (vT t :: st) h kc ks
    | _ => False) := rfl
theorem g120_56 (k : Nat) : mm_step (mm_rw mr_120) (some .int) tb call Q C 56 lv (.inr (.inr (.inl (some k))) :: st) h kc ks = (match h.2 k with
    | some (.inr (.inr (ci, fs))) => ci = 8 ∧ (match fs[15]? with
      | some v => C 59 lv (v :: st) h kc ks
      | none => False)
    | _ => False) := rfl
theorem g120_59 (a b : Int32) : mm_step (mm_rw mr_120) (some .int) tb call Q C 59 lv (.inl b :: .inl a :: st) h kc ks = (¬ b = 0 ∧ C 60 lv (vI (a - a / b * b) :: st) h kc ks) := rfl
theorem g120_60  : mm_step (mm_rw mr_120) (some .int) tb call Q C 60 lv st h kc ks = (mm_call call C 117 3 60 lv st h kc ks) := rfl
theorem g120_63 (a : Int32) : mm_step (mm_rw mr_120) (some .int) tb call Q C 63 lv (.inl a :: st) h kc ks = (C 65 (mm_st1 lv 4 (vI a)) st h kc ks) := rfl
theorem g120_65  : mm_step (mm_rw mr_120) (some .int) tb call Q C 65 lv st h kc ks = (match mm_rd lv 0 with
    | some (.inr (.inr (.inl (some k)))) => C 66 lv (vR k :: st) h kc ks
    | some (.inr (.inr (.inr t))) => C 66 lv (vT t :: st) h kc ks
    | _ => False) := rfl
theorem g120_66 (v : AV) : mm_step (mm_rw mr_120) (some .int) tb call Q C 66 lv (v :: st) h kc ks = (mm_c2 v = false ∧ C 67 lv (v :: v :: st) h kc ks) := rfl
theorem g120_67 (k : Nat) : mm_step (mm_rw mr_120) (some .int) tb call Q C 67 lv (.inr (.inr (.inl (some k))) :: st) h kc ks = (match h.2 k with
    | some (.inr (.inr (ci, fs))) => ci = 8 ∧ (match fs[15]? with
      | some v => C 70 lv (v :: st) h kc ks
      | none => False)
    | _ => False) := rfl
theorem g120_70  : mm_step (mm_rw mr_120) (some .int) tb call Q C 70 lv st h kc ks = (C 71 lv (vI 1 :: st) h kc ks) := rfl
theorem g120_71 (a b : Int32) : mm_step (mm_rw mr_120) (some .int) tb call Q C 71 lv (.inl b :: .inl a :: st) h kc ks = (C 72 lv (vI (a - b) :: st) h kc ks) := rfl
theorem g120_72 (v : AV) (k : Nat) : mm_step (mm_rw mr_120) (some .int) tb call Q C 72 lv (v :: .inr (.inr (.inl (some k))) :: st) h kc ks = (match h.2 k with
    | some (.inr (.inr (ci, fs))) => ci = 8 ∧ 15 < fs.length ∧ mm_fit (mm_ft 8 15) v ∧ C 75 lv st (mm_up h k (cO ci (fs.set 15 v))) kc ks
    | _ => False) := rfl
theorem g120_75  : mm_step (mm_rw mr_120) (some .int) tb call Q C 75 lv st h kc ks = (match mm_rd lv 0 with
    | some (.inr (.inr (.inl (some k)))) => C 76 lv (vR k :: st) h kc ks
    | some (.inr (.inr (.inr t))) => C 76 lv (vT t :: st) h kc ks
    | _ => False) := rfl
theorem g120_76 (k : Nat) : mm_step (mm_rw mr_120) (some .int) tb call Q C 76 lv (.inr (.inr (.inl (some k))) :: st) h kc ks = (match h.2 k with
    | some (.inr (.inr (ci, fs))) => ci = 8 ∧ (match fs[16]? with
      | some v => C 79 lv (v :: st) h kc ks
      | none => False)
    | _ => False) := rfl
theorem g120_79  : mm_step (mm_rw mr_120) (some .int) tb call Q C 79 lv st h kc ks = (match mm_rd lv 4 with
    | some (.inl a) => C 81 lv (vI a :: st) h kc ks
    | _ => False) := rfl
theorem g120_81  : mm_step (mm_rw mr_120) (some .int) tb call Q C 81 lv st h kc ks = (match mm_rd lv 1 with
    | some (.inl a) => C 82 lv (vI a :: st) h kc ks
    | _ => False) := rfl
theorem g120_82 (v i : Int32) (k : Nat) : mm_step (mm_rw mr_120) (some .int) tb call Q C 82 lv (.inl v :: .inl i :: .inr (.inr (.inl (some k))) :: st) h kc ks = (match h.2 k with
    | some (.inl (.int, n, f)) => vp_in i n ∧ C 83 lv st (mm_up h k (cI n (upd f i.toNatClampNeg v))) kc ks
    | _ => False) := rfl
theorem g120_83  : mm_step (mm_rw mr_120) (some .int) tb call Q C 83 lv st h kc ks = (match mm_rd lv 0 with
    | some (.inr (.inr (.inl (some k)))) => C 84 lv (vR k :: st) h kc ks
    | some (.inr (.inr (.inr t))) => C 84 lv (vT t :: st) h kc ks
    | _ => False) := rfl
theorem g120_84 (k : Nat) : mm_step (mm_rw mr_120) (some .int) tb call Q C 84 lv (.inr (.inr (.inl (some k))) :: st) h kc ks = (match h.2 k with
    | some (.inr (.inr (ci, fs))) => ci = 8 ∧ (match fs[17]? with
      | some v => C 87 lv (v :: st) h kc ks
      | none => False)
    | _ => False) := rfl
theorem g120_87  : mm_step (mm_rw mr_120) (some .int) tb call Q C 87 lv st h kc ks = (match mm_rd lv 4 with
    | some (.inl a) => C 89 lv (vI a :: st) h kc ks
    | _ => False) := rfl
theorem g120_89  : mm_step (mm_rw mr_120) (some .int) tb call Q C 89 lv st h kc ks = (match mm_rd lv 2 with
    | some (.inl a) => C 90 lv (vI a :: st) h kc ks
    | _ => False) := rfl
theorem g120_90 (v i : Int32) (k : Nat) : mm_step (mm_rw mr_120) (some .int) tb call Q C 90 lv (.inl v :: .inl i :: .inr (.inr (.inl (some k))) :: st) h kc ks = (match h.2 k with
    | some (.inl (.int, n, f)) => vp_in i n ∧ C 91 lv st (mm_up h k (cI n (upd f i.toNatClampNeg v))) kc ks
    | _ => False) := rfl
theorem g120_91  : mm_step (mm_rw mr_120) (some .int) tb call Q C 91 lv st h kc ks = (match mm_rd lv 4 with
    | some (.inl a) => C 93 lv (vI a :: st) h kc ks
    | _ => False) := rfl
theorem g120_93 (v : Int32) : mm_step (mm_rw mr_120) (some .int) tb call Q C 93 lv [.inl v] h kc ks = (True ∧ Q (some (vI v)) h) := rfl
end G120

abbrev sp_121 : List Nat := [5, 15, 25, 43, 57]
section G121
variable {tb : Nat → Nat × (Nat → Int32)} {call : CO} {Q : AQ} {C : CP} {lv : AL} {st : List AV} {h : AH} {kc ks : Nat}
theorem g121_0  : mm_step (mm_rw mr_121) (some .int) tb call Q C 0 lv st h kc ks = (match mm_rd lv 0 with
    | some (.inr (.inr (.inl (some k)))) => C 1 lv (vR k :: st) h kc ks
    | some (.inr (.inr (.inr t))) => C 1 lv (vT t :: st) h kc ks
    | _ => False) := rfl
theorem g121_1  : mm_step (mm_rw mr_121) (some .int) tb call Q C 1 lv st h kc ks = (match mm_rd lv 1 with
    | some (.inl a) => C 2 lv (vI a :: st) h kc ks
    | _ => False) := rfl
theorem g121_2  : mm_step (mm_rw mr_121) (some .int) tb call Q C 2 lv st h kc ks = ((match (st.take 2).reverse with
    | .inr (.inr (.inl (some k))) :: _ => (match h.2 k with
      | some (.inr (.inr (ci, _))) => mm_cn ci = (mm_mi 107).1.cls
      | _ => False)
    | _ => False) ∧ mm_call call C 107 2 2 lv st h kc ks) := rfl
theorem g121_5 (a : Int32) : mm_step (mm_rw mr_121) (some .int) tb call Q C 5 lv (.inl a :: st) h kc ks = ((¬ a = 0 → C 10 lv st h kc ks) ∧ (a = 0 → C 8 lv st h kc ks)) := rfl
theorem g121_8  : mm_step (mm_rw mr_121) (some .int) tb call Q C 8 lv st h kc ks = (C 9 lv (vI (mI 1) :: st) h kc ks) := rfl
theorem g121_9 (v : Int32) : mm_step (mm_rw mr_121) (some .int) tb call Q C 9 lv [.inl v] h kc ks = (True ∧ Q (some (vI v)) h) := rfl
theorem g121_10  : mm_step (mm_rw mr_121) (some .int) tb call Q C 10 lv st h kc ks = (match mm_rd lv 0 with
    | some (.inr (.inr (.inl (some k)))) => C 11 lv (vR k :: st) h kc ks
    | some (.inr (.inr (.inr t))) => C 11 lv (vT t :: st) h kc ks
    | _ => False) := rfl
theorem g121_11  : mm_step (mm_rw mr_121) (some .int) tb call Q C 11 lv st h kc ks = (match mm_rd lv 1 with
    | some (.inl a) => C 12 lv (vI a :: st) h kc ks
    | _ => False) := rfl
theorem g121_12  : mm_step (mm_rw mr_121) (some .int) tb call Q C 12 lv st h kc ks = ((match (st.take 2).reverse with
    | .inr (.inr (.inl (some k))) :: _ => (match h.2 k with
      | some (.inr (.inr (ci, _))) => mm_cn ci = (mm_mi 110).1.cls
      | _ => False)
    | _ => False) ∧ mm_call call C 110 2 12 lv st h kc ks) := rfl
theorem g121_15 (a : Int32) : mm_step (mm_rw mr_121) (some .int) tb call Q C 15 lv (.inl a :: st) h kc ks = ((a = 0 → C 21 lv st h kc ks) ∧ (¬ a = 0 → C 18 lv st h kc ks)) := rfl
theorem g121_18  : mm_step (mm_rw mr_121) (some .int) tb call Q C 18 lv st h kc ks = (C 20 lv (vI (mI 3) :: st) h kc ks) := rfl
theorem g121_20 (v : Int32) : mm_step (mm_rw mr_121) (some .int) tb call Q C 20 lv [.inl v] h kc ks = (True ∧ Q (some (vI v)) h) := rfl
theorem g121_21  : mm_step (mm_rw mr_121) (some .int) tb call Q C 21 lv st h kc ks = (match mm_rd lv 0 with
    | some (.inr (.inr (.inl (some k)))) => C 22 lv (vR k :: st) h kc ks
    | some (.inr (.inr (.inr t))) => C 22 lv (vT t :: st) h kc ks
    | _ => False) := rfl
theorem g121_22  : mm_step (mm_rw mr_121) (some .int) tb call Q C 22 lv st h kc ks = ((match (st.take 1).reverse with
    | .inr (.inr (.inl (some k))) :: _ => (match h.2 k with
      | some (.inr (.inr (ci, _))) => mm_cn ci = (mm_mi 116).1.cls
      | _ => False)
    | _ => False) ∧ mm_call call C 116 1 22 lv st h kc ks) := rfl
theorem g121_25  : mm_step (mm_rw mr_121) (some .int) tb call Q C 25 lv st h kc ks = (match mm_rd lv 0 with
    | some (.inr (.inr (.inl (some k)))) => C 26 lv (vR k :: st) h kc ks
    | some (.inr (.inr (.inr t))) => C 26 lv (vT t :: st) h kc ks
    | _ => False) := rfl
theorem g121_26  : mm_step (mm_rw mr_121) (some .int) tb call Q C 26 lv st h kc ks = (match mm_rd lv 0 with
    | some (.inr (.inr (.inl (some k)))) => C 27 lv (vR k :: st) h kc ks
    | some (.inr (.inr (.inr t))) => C 27 lv (vT t :: st) h kc ks
    | _ => False) := rfl
theorem g121_27 (k : Nat) : mm_step (mm_rw mr_121) (some .int) tb call Q C 27 lv (.inr (.inr (.inl (some k))) :: st) h kc ks = (match h.2 k with
    | some (.inr (.inr (ci, fs))) => ci = 8 ∧ (match fs[14]? with
      | some v => C 30 lv (v :: st) h kc ks
      | none => False)
    | _ => False) := rfl
theorem g121_30  : mm_step (mm_rw mr_121) (some .int) tb call Q C 30 lv st h kc ks = (match mm_rd lv 0 with
    | some (.inr (.inr (.inl (some k)))) => C 31 lv (vR k :: st) h kc ks
    | some (.inr (.inr (.inr t))) => C 31 lv (vT t :: st) h kc ks
    | _ => False) := rfl
theorem g121_31 (k : Nat) : mm_step (mm_rw mr_121) (some .int) tb call Q C 31 lv (.inr (.inr (.inl (some k))) :: st) h kc ks = (match h.2 k with
    | some (.inr (.inr (ci, fs))) => ci = 8 ∧ (match fs[15]? with
      | some v => C 34 lv (v :: st) h kc ks
      | none => False)
    | _ => False) := rfl
theorem g121_34  : mm_step (mm_rw mr_121) (some .int) tb call Q C 34 lv st h kc ks = (match mm_rd lv 0 with
    | some (.inr (.inr (.inl (some k)))) => C 35 lv (vR k :: st) h kc ks
    | some (.inr (.inr (.inr t))) => C 35 lv (vT t :: st) h kc ks
    | _ => False) := rfl
theorem g121_35 (k : Nat) : mm_step (mm_rw mr_121) (some .int) tb call Q C 35 lv (.inr (.inr (.inl (some k))) :: st) h kc ks = (match h.2 k with
    | some (.inr (.inr (ci, fs))) => ci = 8 ∧ (match fs[17]? with
      | some v => C 38 lv (v :: st) h kc ks
      | none => False)
    | _ => False) := rfl
theorem g121_38  : mm_step (mm_rw mr_121) (some .int) tb call Q C 38 lv st h kc ks = (match mm_rd lv 1 with
    | some (.inl a) => C 39 lv (vI a :: st) h kc ks
    | _ => False) := rfl
theorem g121_39 (i : Int32) (k : Nat) : mm_step (mm_rw mr_121) (some .int) tb call Q C 39 lv (.inl i :: .inr (.inr (.inl (some k))) :: st) h kc ks = (match h.2 k with
    | some (.inl (.int, n, f)) => vp_in i n ∧ C 40 lv (vI (f i.toNatClampNeg) :: st) h kc ks
    | _ => False) := rfl
theorem g121_39t (i : Int32) (t : Nat) : mm_step (mm_rw mr_121) (some .int) tb call Q C 39 lv (.inl i :: .inr (.inr (.inr t)) :: st) h kc ks = (vp_in i (tb t).1 ∧ C 40 lv (vI ((tb t).2 i.toNatClampNeg) :: st) h kc ks) := rfl
theorem g121_40  : mm_step (mm_rw mr_121) (some .int) tb call Q C 40 lv st h kc ks = ((match (st.take 4).reverse with
    | .inr (.inr (.inl (some k))) :: _ => (match h.2 k with
      | some (.inr (.inr (ci, _))) => mm_cn ci = (mm_mi 119).1.cls
      | _ => False)
    | _ => False) ∧ mm_call call C 119 4 40 lv st h kc ks) := rfl
theorem g121_43 (a : Int32) : mm_step (mm_rw mr_121) (some .int) tb call Q C 43 lv (.inl a :: st) h kc ks = (C 44 (mm_st1 lv 2 (vI a)) st h kc ks) := rfl
theorem g121_44  : mm_step (mm_rw mr_121) (some .int) tb call Q C 44 lv st h kc ks = (match mm_rd lv 0 with
    | some (.inr (.inr (.inl (some k)))) => C 45 lv (vR k :: st) h kc ks
    | some (.inr (.inr (.inr t))) => C 45 lv (vT t :: st) h kc ks
    | _ => False) := rfl
theorem g121_45 (k : Nat) : mm_step (mm_rw mr_121) (some .int) tb call Q C 45 lv (.inr (.inr (.inl (some k))) :: st) h kc ks = (match h.2 k with
    | some (.inr (.inr (ci, fs))) => ci = 8 ∧ (match fs[14]? with
      | some v => C 48 lv (v :: st) h kc ks
      | none => False)
    | _ => False) := rfl
theorem g121_48  : mm_step (mm_rw mr_121) (some .int) tb call Q C 48 lv st h kc ks = (match mm_rd lv 0 with
    | some (.inr (.inr (.inl (some k)))) => C 49 lv (vR k :: st) h kc ks
    | some (.inr (.inr (.inr t))) => C 49 lv (vT t :: st) h kc ks
    | _ => False) := rfl
theorem g121_49 (k : Nat) : mm_step (mm_rw mr_121) (some .int) tb call Q C 49 lv (.inr (.inr (.inl (some k))) :: st) h kc ks = (match h.2 k with
    | some (.inr (.inr (ci, fs))) => ci = 8 ∧ (match fs[15]? with
      | some v => C 52 lv (v :: st) h kc ks
      | none => False)
    | _ => False) := rfl
theorem g121_52  : mm_step (mm_rw mr_121) (some .int) tb call Q C 52 lv st h kc ks = (match mm_rd lv 2 with
    | some (.inl a) => C 53 lv (vI a :: st) h kc ks
    | _ => False) := rfl
theorem g121_53  : mm_step (mm_rw mr_121) (some .int) tb call Q C 53 lv st h kc ks = (match mm_rd lv 1 with
    | some (.inl a) => C 54 lv (vI a :: st) h kc ks
    | _ => False) := rfl
theorem g121_54  : mm_step (mm_rw mr_121) (some .int) tb call Q C 54 lv st h kc ks = (mm_call call C 118 4 54 lv st h kc ks) := rfl
theorem g121_57  : mm_step (mm_rw mr_121) (some .int) tb call Q C 57 lv st h kc ks = (match mm_rd lv 0 with
    | some (.inr (.inr (.inl (some k)))) => C 58 lv (vR k :: st) h kc ks
    | some (.inr (.inr (.inr t))) => C 58 lv (vT t :: st) h kc ks
    | _ => False) := rfl
theorem g121_58 (v : AV) : mm_step (mm_rw mr_121) (some .int) tb call Q C 58 lv (v :: st) h kc ks = (mm_c2 v = false ∧ C 59 lv (v :: v :: st) h kc ks) := rfl
theorem g121_59 (k : Nat) : mm_step (mm_rw mr_121) (some .int) tb call Q C 59 lv (.inr (.inr (.inl (some k))) :: st) h kc ks = (match h.2 k with
    | some (.inr (.inr (ci, fs))) => ci = 8 ∧ (match fs[15]? with
      | some v => C 62 lv (v :: st) h kc ks
      | none => False)
    | _ => False) := rfl
theorem g121_62  : mm_step (mm_rw mr_121) (some .int) tb call Q C 62 lv st h kc ks = (C 63 lv (vI 1 :: st) h kc ks) := rfl
theorem g121_63 (a b : Int32) : mm_step (mm_rw mr_121) (some .int) tb call Q C 63 lv (.inl b :: .inl a :: st) h kc ks = (C 64 lv (vI (a + b) :: st) h kc ks) := rfl
theorem g121_64 (v : AV) (k : Nat) : mm_step (mm_rw mr_121) (some .int) tb call Q C 64 lv (v :: .inr (.inr (.inl (some k))) :: st) h kc ks = (match h.2 k with
    | some (.inr (.inr (ci, fs))) => ci = 8 ∧ 15 < fs.length ∧ mm_fit (mm_ft 8 15) v ∧ C 67 lv st (mm_up h k (cO ci (fs.set 15 v))) kc ks
    | _ => False) := rfl
theorem g121_67  : mm_step (mm_rw mr_121) (some .int) tb call Q C 67 lv st h kc ks = (match mm_rd lv 0 with
    | some (.inr (.inr (.inl (some k)))) => C 68 lv (vR k :: st) h kc ks
    | some (.inr (.inr (.inr t))) => C 68 lv (vT t :: st) h kc ks
    | _ => False) := rfl
theorem g121_68 (k : Nat) : mm_step (mm_rw mr_121) (some .int) tb call Q C 68 lv (.inr (.inr (.inl (some k))) :: st) h kc ks = (match h.2 k with
    | some (.inr (.inr (ci, fs))) => ci = 8 ∧ (match fs[16]? with
      | some v => C 71 lv (v :: st) h kc ks
      | none => False)
    | _ => False) := rfl
theorem g121_71  : mm_step (mm_rw mr_121) (some .int) tb call Q C 71 lv st h kc ks = (match mm_rd lv 1 with
    | some (.inl a) => C 72 lv (vI a :: st) h kc ks
    | _ => False) := rfl
theorem g121_72  : mm_step (mm_rw mr_121) (some .int) tb call Q C 72 lv st h kc ks = (C 74 lv (vI (mI 9) :: st) h kc ks) := rfl
theorem g121_74 (v i : Int32) (k : Nat) : mm_step (mm_rw mr_121) (some .int) tb call Q C 74 lv (.inl v :: .inl i :: .inr (.inr (.inl (some k))) :: st) h kc ks = (match h.2 k with
    | some (.inl (.int, n, f)) => vp_in i n ∧ C 75 lv st (mm_up h k (cI n (upd f i.toNatClampNeg v))) kc ks
    | _ => False) := rfl
theorem g121_75  : mm_step (mm_rw mr_121) (some .int) tb call Q C 75 lv st h kc ks = (match mm_rd lv 0 with
    | some (.inr (.inr (.inl (some k)))) => C 76 lv (vR k :: st) h kc ks
    | some (.inr (.inr (.inr t))) => C 76 lv (vT t :: st) h kc ks
    | _ => False) := rfl
theorem g121_76 (k : Nat) : mm_step (mm_rw mr_121) (some .int) tb call Q C 76 lv (.inr (.inr (.inl (some k))) :: st) h kc ks = (match h.2 k with
    | some (.inr (.inr (ci, fs))) => ci = 8 ∧ (match fs[17]? with
      | some v => C 79 lv (v :: st) h kc ks
      | none => False)
    | _ => False) := rfl
theorem g121_79  : mm_step (mm_rw mr_121) (some .int) tb call Q C 79 lv st h kc ks = (match mm_rd lv 1 with
    | some (.inl a) => C 80 lv (vI a :: st) h kc ks
    | _ => False) := rfl
theorem g121_80  : mm_step (mm_rw mr_121) (some .int) tb call Q C 80 lv st h kc ks = (C 82 lv (vI (mI 9) :: st) h kc ks) := rfl
theorem g121_82 (v i : Int32) (k : Nat) : mm_step (mm_rw mr_121) (some .int) tb call Q C 82 lv (.inl v :: .inl i :: .inr (.inr (.inl (some k))) :: st) h kc ks = (match h.2 k with
    | some (.inl (.int, n, f)) => vp_in i n ∧ C 83 lv st (mm_up h k (cI n (upd f i.toNatClampNeg v))) kc ks
    | _ => False) := rfl
theorem g121_83  : mm_step (mm_rw mr_121) (some .int) tb call Q C 83 lv st h kc ks = (match mm_rd lv 2 with
    | some (.inl a) => C 84 lv (vI a :: st) h kc ks
    | _ => False) := rfl
theorem g121_84 (v : Int32) : mm_step (mm_rw mr_121) (some .int) tb call Q C 84 lv [.inl v] h kc ks = (True ∧ Q (some (vI v)) h) := rfl
end G121

abbrev sp_122 : List Nat := [36]
section G122
variable {tb : Nat → Nat × (Nat → Int32)} {call : CO} {Q : AQ} {C : CP} {lv : AL} {st : List AV} {h : AH} {kc ks : Nat}
theorem g122_0  : mm_step (mm_rw mr_122) (some .int) tb call Q C 0 lv st h kc ks = (match mm_rd lv 0 with
    | some (.inr (.inr (.inl (some k)))) => C 1 lv (vR k :: st) h kc ks
    | some (.inr (.inr (.inr t))) => C 1 lv (vT t :: st) h kc ks
    | _ => False) := rfl
theorem g122_1 (k : Nat) : mm_step (mm_rw mr_122) (some .int) tb call Q C 1 lv (.inr (.inr (.inl (some k))) :: st) h kc ks = (match h.2 k with
    | some (.inr (.inr (ci, fs))) => ci = 8 ∧ (match fs[22]? with
      | some v => C 4 lv (v :: st) h kc ks
      | none => False)
    | _ => False) := rfl
theorem g122_4 (a : Int32) : mm_step (mm_rw mr_122) (some .int) tb call Q C 4 lv (.inl a :: st) h kc ks = ((¬ a = 0 → C 10 lv st h kc ks) ∧ (a = 0 → C 7 lv st h kc ks)) := rfl
theorem g122_7  : mm_step (mm_rw mr_122) (some .int) tb call Q C 7 lv st h kc ks = (C 9 lv (vI (mI 3) :: st) h kc ks) := rfl
theorem g122_9 (v : Int32) : mm_step (mm_rw mr_122) (some .int) tb call Q C 9 lv [.inl v] h kc ks = (True ∧ Q (some (vI v)) h) := rfl
theorem g122_10  : mm_step (mm_rw mr_122) (some .int) tb call Q C 10 lv st h kc ks = (match mm_rd lv 0 with
    | some (.inr (.inr (.inl (some k)))) => C 11 lv (vR k :: st) h kc ks
    | some (.inr (.inr (.inr t))) => C 11 lv (vT t :: st) h kc ks
    | _ => False) := rfl
theorem g122_11 (v : AV) : mm_step (mm_rw mr_122) (some .int) tb call Q C 11 lv (v :: st) h kc ks = (mm_c2 v = false ∧ C 12 lv (v :: v :: st) h kc ks) := rfl
theorem g122_12 (k : Nat) : mm_step (mm_rw mr_122) (some .int) tb call Q C 12 lv (.inr (.inr (.inl (some k))) :: st) h kc ks = (match h.2 k with
    | some (.inr (.inr (ci, fs))) => ci = 8 ∧ (match fs[22]? with
      | some v => C 15 lv (v :: st) h kc ks
      | none => False)
    | _ => False) := rfl
theorem g122_15  : mm_step (mm_rw mr_122) (some .int) tb call Q C 15 lv st h kc ks = (C 16 lv (vI 1 :: st) h kc ks) := rfl
theorem g122_16 (a b : Int32) : mm_step (mm_rw mr_122) (some .int) tb call Q C 16 lv (.inl b :: .inl a :: st) h kc ks = (C 17 lv (vI (a - b) :: st) h kc ks) := rfl
theorem g122_17 (v : AV) (k : Nat) : mm_step (mm_rw mr_122) (some .int) tb call Q C 17 lv (v :: .inr (.inr (.inl (some k))) :: st) h kc ks = (match h.2 k with
    | some (.inr (.inr (ci, fs))) => ci = 8 ∧ 22 < fs.length ∧ mm_fit (mm_ft 8 22) v ∧ C 20 lv st (mm_up h k (cO ci (fs.set 22 v))) kc ks
    | _ => False) := rfl
theorem g122_20  : mm_step (mm_rw mr_122) (some .int) tb call Q C 20 lv st h kc ks = (match mm_rd lv 0 with
    | some (.inr (.inr (.inl (some k)))) => C 21 lv (vR k :: st) h kc ks
    | some (.inr (.inr (.inr t))) => C 21 lv (vT t :: st) h kc ks
    | _ => False) := rfl
theorem g122_21  : mm_step (mm_rw mr_122) (some .int) tb call Q C 21 lv st h kc ks = (match mm_rd lv 0 with
    | some (.inr (.inr (.inl (some k)))) => C 22 lv (vR k :: st) h kc ks
    | some (.inr (.inr (.inr t))) => C 22 lv (vT t :: st) h kc ks
    | _ => False) := rfl
theorem g122_22 (k : Nat) : mm_step (mm_rw mr_122) (some .int) tb call Q C 22 lv (.inr (.inr (.inl (some k))) :: st) h kc ks = (match h.2 k with
    | some (.inr (.inr (ci, fs))) => ci = 8 ∧ (match fs[23]? with
      | some v => C 25 lv (v :: st) h kc ks
      | none => False)
    | _ => False) := rfl
theorem g122_25  : mm_step (mm_rw mr_122) (some .int) tb call Q C 25 lv st h kc ks = (C 27 lv (vI 15 :: st) h kc ks) := rfl
theorem g122_27 (a b : Int32) : mm_step (mm_rw mr_122) (some .int) tb call Q C 27 lv (.inl b :: .inl a :: st) h kc ks = (C 28 lv (vI (a + b) :: st) h kc ks) := rfl
theorem g122_28  : mm_step (mm_rw mr_122) (some .int) tb call Q C 28 lv st h kc ks = (C 30 lv (vI 16 :: st) h kc ks) := rfl
theorem g122_30 (a b : Int32) : mm_step (mm_rw mr_122) (some .int) tb call Q C 30 lv (.inl b :: .inl a :: st) h kc ks = (¬ b = 0 ∧ C 31 lv (vI (a - a / b * b) :: st) h kc ks) := rfl
theorem g122_31 (v : AV) (k : Nat) : mm_step (mm_rw mr_122) (some .int) tb call Q C 31 lv (v :: .inr (.inr (.inl (some k))) :: st) h kc ks = (match h.2 k with
    | some (.inr (.inr (ci, fs))) => ci = 8 ∧ 23 < fs.length ∧ mm_fit (mm_ft 8 23) v ∧ C 34 lv st (mm_up h k (cO ci (fs.set 23 v))) kc ks
    | _ => False) := rfl
theorem g122_34  : mm_step (mm_rw mr_122) (some .int) tb call Q C 34 lv st h kc ks = (C 35 lv (vI 0 :: st) h kc ks) := rfl
theorem g122_35 (a : Int32) : mm_step (mm_rw mr_122) (some .int) tb call Q C 35 lv (.inl a :: st) h kc ks = (C 36 (mm_st1 lv 1 (vI a)) st h kc ks) := rfl
theorem g122_36  : mm_step (mm_rw mr_122) (some .int) tb call Q C 36 lv st h kc ks = (match mm_rd lv 1 with
    | some (.inl a) => C 37 lv (vI a :: st) h kc ks
    | _ => False) := rfl
theorem g122_37  : mm_step (mm_rw mr_122) (some .int) tb call Q C 37 lv st h kc ks = (C 39 lv (vI 8 :: st) h kc ks) := rfl
theorem g122_39 (a b : Int32) : mm_step (mm_rw mr_122) (some .int) tb call Q C 39 lv (.inl b :: .inl a :: st) h kc ks = ((b ≤ a → C 114 lv st h kc ks) ∧ (¬ b ≤ a → C 42 lv st h kc ks)) := rfl
theorem g122_42  : mm_step (mm_rw mr_122) (some .int) tb call Q C 42 lv st h kc ks = (match mm_rd lv 0 with
    | some (.inr (.inr (.inl (some k)))) => C 43 lv (vR k :: st) h kc ks
    | some (.inr (.inr (.inr t))) => C 43 lv (vT t :: st) h kc ks
    | _ => False) := rfl
theorem g122_43 (k : Nat) : mm_step (mm_rw mr_122) (some .int) tb call Q C 43 lv (.inr (.inr (.inl (some k))) :: st) h kc ks = (match h.2 k with
    | some (.inr (.inr (ci, fs))) => ci = 8 ∧ (match fs[14]? with
      | some v => C 46 lv (v :: st) h kc ks
      | none => False)
    | _ => False) := rfl
theorem g122_46  : mm_step (mm_rw mr_122) (some .int) tb call Q C 46 lv st h kc ks = (match mm_rd lv 1 with
    | some (.inl a) => C 47 lv (vI a :: st) h kc ks
    | _ => False) := rfl
theorem g122_47  : mm_step (mm_rw mr_122) (some .int) tb call Q C 47 lv st h kc ks = (match mm_rd lv 0 with
    | some (.inr (.inr (.inl (some k)))) => C 48 lv (vR k :: st) h kc ks
    | some (.inr (.inr (.inr t))) => C 48 lv (vT t :: st) h kc ks
    | _ => False) := rfl
theorem g122_48 (k : Nat) : mm_step (mm_rw mr_122) (some .int) tb call Q C 48 lv (.inr (.inr (.inl (some k))) :: st) h kc ks = (match h.2 k with
    | some (.inr (.inr (ci, fs))) => ci = 8 ∧ (match fs[24]? with
      | some v => C 51 lv (v :: st) h kc ks
      | none => False)
    | _ => False) := rfl
theorem g122_51  : mm_step (mm_rw mr_122) (some .int) tb call Q C 51 lv st h kc ks = (C 53 lv (vI 25 :: st) h kc ks) := rfl
theorem g122_53  : mm_step (mm_rw mr_122) (some .int) tb call Q C 53 lv st h kc ks = (match mm_rd lv 0 with
    | some (.inr (.inr (.inl (some k)))) => C 54 lv (vR k :: st) h kc ks
    | some (.inr (.inr (.inr t))) => C 54 lv (vT t :: st) h kc ks
    | _ => False) := rfl
theorem g122_54 (k : Nat) : mm_step (mm_rw mr_122) (some .int) tb call Q C 54 lv (.inr (.inr (.inl (some k))) :: st) h kc ks = (match h.2 k with
    | some (.inr (.inr (ci, fs))) => ci = 8 ∧ (match fs[23]? with
      | some v => C 57 lv (v :: st) h kc ks
      | none => False)
    | _ => False) := rfl
theorem g122_57 (a b : Int32) : mm_step (mm_rw mr_122) (some .int) tb call Q C 57 lv (.inl b :: .inl a :: st) h kc ks = (C 58 lv (vI (a * b) :: st) h kc ks) := rfl
theorem g122_58  : mm_step (mm_rw mr_122) (some .int) tb call Q C 58 lv st h kc ks = (match mm_rd lv 1 with
    | some (.inl a) => C 59 lv (vI a :: st) h kc ks
    | _ => False) := rfl
theorem g122_59 (a b : Int32) : mm_step (mm_rw mr_122) (some .int) tb call Q C 59 lv (.inl b :: .inl a :: st) h kc ks = (C 60 lv (vI (a + b) :: st) h kc ks) := rfl
theorem g122_60 (i : Int32) (k : Nat) : mm_step (mm_rw mr_122) (some .int) tb call Q C 60 lv (.inl i :: .inr (.inr (.inl (some k))) :: st) h kc ks = (match h.2 k with
    | some (.inl (.int, n, f)) => vp_in i n ∧ C 61 lv (vI (f i.toNatClampNeg) :: st) h kc ks
    | _ => False) := rfl
theorem g122_60t (i : Int32) (t : Nat) : mm_step (mm_rw mr_122) (some .int) tb call Q C 60 lv (.inl i :: .inr (.inr (.inr t)) :: st) h kc ks = (vp_in i (tb t).1 ∧ C 61 lv (vI ((tb t).2 i.toNatClampNeg) :: st) h kc ks) := rfl
theorem g122_61 (v i : Int32) (k : Nat) : mm_step (mm_rw mr_122) (some .int) tb call Q C 61 lv (.inl v :: .inl i :: .inr (.inr (.inl (some k))) :: st) h kc ks = (match h.2 k with
    | some (.inl (.int, n, f)) => vp_in i n ∧ C 62 lv st (mm_up h k (cI n (upd f i.toNatClampNeg v))) kc ks
    | _ => False) := rfl
theorem g122_62  : mm_step (mm_rw mr_122) (some .int) tb call Q C 62 lv st h kc ks = (match mm_rd lv 0 with
    | some (.inr (.inr (.inl (some k)))) => C 63 lv (vR k :: st) h kc ks
    | some (.inr (.inr (.inr t))) => C 63 lv (vT t :: st) h kc ks
    | _ => False) := rfl
theorem g122_63 (k : Nat) : mm_step (mm_rw mr_122) (some .int) tb call Q C 63 lv (.inr (.inr (.inl (some k))) :: st) h kc ks = (match h.2 k with
    | some (.inr (.inr (ci, fs))) => ci = 8 ∧ (match fs[16]? with
      | some v => C 66 lv (v :: st) h kc ks
      | none => False)
    | _ => False) := rfl
theorem g122_66  : mm_step (mm_rw mr_122) (some .int) tb call Q C 66 lv st h kc ks = (match mm_rd lv 1 with
    | some (.inl a) => C 67 lv (vI a :: st) h kc ks
    | _ => False) := rfl
theorem g122_67  : mm_step (mm_rw mr_122) (some .int) tb call Q C 67 lv st h kc ks = (match mm_rd lv 0 with
    | some (.inr (.inr (.inl (some k)))) => C 68 lv (vR k :: st) h kc ks
    | some (.inr (.inr (.inr t))) => C 68 lv (vT t :: st) h kc ks
    | _ => False) := rfl
theorem g122_68 (k : Nat) : mm_step (mm_rw mr_122) (some .int) tb call Q C 68 lv (.inr (.inr (.inl (some k))) :: st) h kc ks = (match h.2 k with
    | some (.inr (.inr (ci, fs))) => ci = 8 ∧ (match fs[24]? with
      | some v => C 71 lv (v :: st) h kc ks
      | none => False)
    | _ => False) := rfl
theorem g122_71  : mm_step (mm_rw mr_122) (some .int) tb call Q C 71 lv st h kc ks = (C 73 lv (vI 25 :: st) h kc ks) := rfl
theorem g122_73  : mm_step (mm_rw mr_122) (some .int) tb call Q C 73 lv st h kc ks = (match mm_rd lv 0 with
    | some (.inr (.inr (.inl (some k)))) => C 74 lv (vR k :: st) h kc ks
    | some (.inr (.inr (.inr t))) => C 74 lv (vT t :: st) h kc ks
    | _ => False) := rfl
theorem g122_74 (k : Nat) : mm_step (mm_rw mr_122) (some .int) tb call Q C 74 lv (.inr (.inr (.inl (some k))) :: st) h kc ks = (match h.2 k with
    | some (.inr (.inr (ci, fs))) => ci = 8 ∧ (match fs[23]? with
      | some v => C 77 lv (v :: st) h kc ks
      | none => False)
    | _ => False) := rfl
theorem g122_77 (a b : Int32) : mm_step (mm_rw mr_122) (some .int) tb call Q C 77 lv (.inl b :: .inl a :: st) h kc ks = (C 78 lv (vI (a * b) :: st) h kc ks) := rfl
theorem g122_78  : mm_step (mm_rw mr_122) (some .int) tb call Q C 78 lv st h kc ks = (C 80 lv (vI 8 :: st) h kc ks) := rfl
theorem g122_80 (a b : Int32) : mm_step (mm_rw mr_122) (some .int) tb call Q C 80 lv (.inl b :: .inl a :: st) h kc ks = (C 81 lv (vI (a + b) :: st) h kc ks) := rfl
theorem g122_81  : mm_step (mm_rw mr_122) (some .int) tb call Q C 81 lv st h kc ks = (match mm_rd lv 1 with
    | some (.inl a) => C 82 lv (vI a :: st) h kc ks
    | _ => False) := rfl
theorem g122_82 (a b : Int32) : mm_step (mm_rw mr_122) (some .int) tb call Q C 82 lv (.inl b :: .inl a :: st) h kc ks = (C 83 lv (vI (a + b) :: st) h kc ks) := rfl
theorem g122_83 (i : Int32) (k : Nat) : mm_step (mm_rw mr_122) (some .int) tb call Q C 83 lv (.inl i :: .inr (.inr (.inl (some k))) :: st) h kc ks = (match h.2 k with
    | some (.inl (.int, n, f)) => vp_in i n ∧ C 84 lv (vI (f i.toNatClampNeg) :: st) h kc ks
    | _ => False) := rfl
theorem g122_83t (i : Int32) (t : Nat) : mm_step (mm_rw mr_122) (some .int) tb call Q C 83 lv (.inl i :: .inr (.inr (.inr t)) :: st) h kc ks = (vp_in i (tb t).1 ∧ C 84 lv (vI ((tb t).2 i.toNatClampNeg) :: st) h kc ks) := rfl
theorem g122_84 (v i : Int32) (k : Nat) : mm_step (mm_rw mr_122) (some .int) tb call Q C 84 lv (.inl v :: .inl i :: .inr (.inr (.inl (some k))) :: st) h kc ks = (match h.2 k with
    | some (.inl (.int, n, f)) => vp_in i n ∧ C 85 lv st (mm_up h k (cI n (upd f i.toNatClampNeg v))) kc ks
    | _ => False) := rfl
theorem g122_85  : mm_step (mm_rw mr_122) (some .int) tb call Q C 85 lv st h kc ks = (match mm_rd lv 0 with
    | some (.inr (.inr (.inl (some k)))) => C 86 lv (vR k :: st) h kc ks
    | some (.inr (.inr (.inr t))) => C 86 lv (vT t :: st) h kc ks
    | _ => False) := rfl
theorem g122_86 (k : Nat) : mm_step (mm_rw mr_122) (some .int) tb call Q C 86 lv (.inr (.inr (.inl (some k))) :: st) h kc ks = (match h.2 k with
    | some (.inr (.inr (ci, fs))) => ci = 8 ∧ (match fs[17]? with
      | some v => C 89 lv (v :: st) h kc ks
      | none => False)
    | _ => False) := rfl
theorem g122_89  : mm_step (mm_rw mr_122) (some .int) tb call Q C 89 lv st h kc ks = (match mm_rd lv 1 with
    | some (.inl a) => C 90 lv (vI a :: st) h kc ks
    | _ => False) := rfl
theorem g122_90  : mm_step (mm_rw mr_122) (some .int) tb call Q C 90 lv st h kc ks = (match mm_rd lv 0 with
    | some (.inr (.inr (.inl (some k)))) => C 91 lv (vR k :: st) h kc ks
    | some (.inr (.inr (.inr t))) => C 91 lv (vT t :: st) h kc ks
    | _ => False) := rfl
theorem g122_91 (k : Nat) : mm_step (mm_rw mr_122) (some .int) tb call Q C 91 lv (.inr (.inr (.inl (some k))) :: st) h kc ks = (match h.2 k with
    | some (.inr (.inr (ci, fs))) => ci = 8 ∧ (match fs[24]? with
      | some v => C 94 lv (v :: st) h kc ks
      | none => False)
    | _ => False) := rfl
theorem g122_94  : mm_step (mm_rw mr_122) (some .int) tb call Q C 94 lv st h kc ks = (C 96 lv (vI 25 :: st) h kc ks) := rfl
theorem g122_96  : mm_step (mm_rw mr_122) (some .int) tb call Q C 96 lv st h kc ks = (match mm_rd lv 0 with
    | some (.inr (.inr (.inl (some k)))) => C 97 lv (vR k :: st) h kc ks
    | some (.inr (.inr (.inr t))) => C 97 lv (vT t :: st) h kc ks
    | _ => False) := rfl
theorem g122_97 (k : Nat) : mm_step (mm_rw mr_122) (some .int) tb call Q C 97 lv (.inr (.inr (.inl (some k))) :: st) h kc ks = (match h.2 k with
    | some (.inr (.inr (ci, fs))) => ci = 8 ∧ (match fs[23]? with
      | some v => C 100 lv (v :: st) h kc ks
      | none => False)
    | _ => False) := rfl
theorem g122_100 (a b : Int32) : mm_step (mm_rw mr_122) (some .int) tb call Q C 100 lv (.inl b :: .inl a :: st) h kc ks = (C 101 lv (vI (a * b) :: st) h kc ks) := rfl
theorem g122_101  : mm_step (mm_rw mr_122) (some .int) tb call Q C 101 lv st h kc ks = (C 103 lv (vI 16 :: st) h kc ks) := rfl
theorem g122_103 (a b : Int32) : mm_step (mm_rw mr_122) (some .int) tb call Q C 103 lv (.inl b :: .inl a :: st) h kc ks = (C 104 lv (vI (a + b) :: st) h kc ks) := rfl
theorem g122_104  : mm_step (mm_rw mr_122) (some .int) tb call Q C 104 lv st h kc ks = (match mm_rd lv 1 with
    | some (.inl a) => C 105 lv (vI a :: st) h kc ks
    | _ => False) := rfl
theorem g122_105 (a b : Int32) : mm_step (mm_rw mr_122) (some .int) tb call Q C 105 lv (.inl b :: .inl a :: st) h kc ks = (C 106 lv (vI (a + b) :: st) h kc ks) := rfl
theorem g122_106 (i : Int32) (k : Nat) : mm_step (mm_rw mr_122) (some .int) tb call Q C 106 lv (.inl i :: .inr (.inr (.inl (some k))) :: st) h kc ks = (match h.2 k with
    | some (.inl (.int, n, f)) => vp_in i n ∧ C 107 lv (vI (f i.toNatClampNeg) :: st) h kc ks
    | _ => False) := rfl
theorem g122_106t (i : Int32) (t : Nat) : mm_step (mm_rw mr_122) (some .int) tb call Q C 106 lv (.inl i :: .inr (.inr (.inr t)) :: st) h kc ks = (vp_in i (tb t).1 ∧ C 107 lv (vI ((tb t).2 i.toNatClampNeg) :: st) h kc ks) := rfl
theorem g122_107 (v i : Int32) (k : Nat) : mm_step (mm_rw mr_122) (some .int) tb call Q C 107 lv (.inl v :: .inl i :: .inr (.inr (.inl (some k))) :: st) h kc ks = (match h.2 k with
    | some (.inl (.int, n, f)) => vp_in i n ∧ C 108 lv st (mm_up h k (cI n (upd f i.toNatClampNeg v))) kc ks
    | _ => False) := rfl
theorem g122_108  : mm_step (mm_rw mr_122) (some .int) tb call Q C 108 lv st h kc ks = (match mm_rd lv 1 with
    | some (.inl a) => C 111 (mm_st1 lv 1 (vI (a + 1))) st h kc ks
    | _ => False) := rfl
theorem g122_111  : mm_step (mm_rw mr_122) (some .int) tb call Q C 111 lv st h kc ks = (C 36 lv st h kc ks) := rfl
theorem g122_114  : mm_step (mm_rw mr_122) (some .int) tb call Q C 114 lv st h kc ks = (match mm_rd lv 0 with
    | some (.inr (.inr (.inl (some k)))) => C 115 lv (vR k :: st) h kc ks
    | some (.inr (.inr (.inr t))) => C 115 lv (vT t :: st) h kc ks
    | _ => False) := rfl
theorem g122_115  : mm_step (mm_rw mr_122) (some .int) tb call Q C 115 lv st h kc ks = (match mm_rd lv 0 with
    | some (.inr (.inr (.inl (some k)))) => C 116 lv (vR k :: st) h kc ks
    | some (.inr (.inr (.inr t))) => C 116 lv (vT t :: st) h kc ks
    | _ => False) := rfl
theorem g122_116 (k : Nat) : mm_step (mm_rw mr_122) (some .int) tb call Q C 116 lv (.inr (.inr (.inl (some k))) :: st) h kc ks = (match h.2 k with
    | some (.inr (.inr (ci, fs))) => ci = 8 ∧ (match fs[24]? with
      | some v => C 119 lv (v :: st) h kc ks
      | none => False)
    | _ => False) := rfl
theorem g122_119  : mm_step (mm_rw mr_122) (some .int) tb call Q C 119 lv st h kc ks = (C 121 lv (vI 25 :: st) h kc ks) := rfl
theorem g122_121  : mm_step (mm_rw mr_122) (some .int) tb call Q C 121 lv st h kc ks = (match mm_rd lv 0 with
    | some (.inr (.inr (.inl (some k)))) => C 122 lv (vR k :: st) h kc ks
    | some (.inr (.inr (.inr t))) => C 122 lv (vT t :: st) h kc ks
    | _ => False) := rfl
theorem g122_122 (k : Nat) : mm_step (mm_rw mr_122) (some .int) tb call Q C 122 lv (.inr (.inr (.inl (some k))) :: st) h kc ks = (match h.2 k with
    | some (.inr (.inr (ci, fs))) => ci = 8 ∧ (match fs[23]? with
      | some v => C 125 lv (v :: st) h kc ks
      | none => False)
    | _ => False) := rfl
theorem g122_125 (a b : Int32) : mm_step (mm_rw mr_122) (some .int) tb call Q C 125 lv (.inl b :: .inl a :: st) h kc ks = (C 126 lv (vI (a * b) :: st) h kc ks) := rfl
theorem g122_126  : mm_step (mm_rw mr_122) (some .int) tb call Q C 126 lv st h kc ks = (C 128 lv (vI 24 :: st) h kc ks) := rfl
theorem g122_128 (a b : Int32) : mm_step (mm_rw mr_122) (some .int) tb call Q C 128 lv (.inl b :: .inl a :: st) h kc ks = (C 129 lv (vI (a + b) :: st) h kc ks) := rfl
theorem g122_129 (i : Int32) (k : Nat) : mm_step (mm_rw mr_122) (some .int) tb call Q C 129 lv (.inl i :: .inr (.inr (.inl (some k))) :: st) h kc ks = (match h.2 k with
    | some (.inl (.int, n, f)) => vp_in i n ∧ C 130 lv (vI (f i.toNatClampNeg) :: st) h kc ks
    | _ => False) := rfl
theorem g122_129t (i : Int32) (t : Nat) : mm_step (mm_rw mr_122) (some .int) tb call Q C 129 lv (.inl i :: .inr (.inr (.inr t)) :: st) h kc ks = (vp_in i (tb t).1 ∧ C 130 lv (vI ((tb t).2 i.toNatClampNeg) :: st) h kc ks) := rfl
theorem g122_130 (v : AV) (k : Nat) : mm_step (mm_rw mr_122) (some .int) tb call Q C 130 lv (v :: .inr (.inr (.inl (some k))) :: st) h kc ks = (match h.2 k with
    | some (.inr (.inr (ci, fs))) => ci = 8 ∧ 15 < fs.length ∧ mm_fit (mm_ft 8 15) v ∧ C 133 lv st (mm_up h k (cO ci (fs.set 15 v))) kc ks
    | _ => False) := rfl
theorem g122_133  : mm_step (mm_rw mr_122) (some .int) tb call Q C 133 lv st h kc ks = (match mm_rd lv 0 with
    | some (.inr (.inr (.inl (some k)))) => C 134 lv (vR k :: st) h kc ks
    | some (.inr (.inr (.inr t))) => C 134 lv (vT t :: st) h kc ks
    | _ => False) := rfl
theorem g122_134 (k : Nat) : mm_step (mm_rw mr_122) (some .int) tb call Q C 134 lv (.inr (.inr (.inl (some k))) :: st) h kc ks = (match h.2 k with
    | some (.inr (.inr (ci, fs))) => ci = 8 ∧ (match fs[22]? with
      | some v => C 137 lv (v :: st) h kc ks
      | none => False)
    | _ => False) := rfl
theorem g122_137 (v : Int32) : mm_step (mm_rw mr_122) (some .int) tb call Q C 137 lv [.inl v] h kc ks = (True ∧ Q (some (vI v)) h) := rfl
end G122

section ACTS
variable {tb : Nat → Nat × (Nat → Int32)} {d : Nat} {s : MM} {g : SG}
theorem C_dropFirst : WM tb (d + 1) k_Acts_dropFirst [vR 21] (HP s) 0 0 (fun z h' => z = none ∧ ∃ s', h' = HP s' ∧ AG s s' [21, 22, 23, 24, 25] ∧ s'.2.1 21 4 = nI 15 ∧ ∀ j, j < 15 → s'.1 22 j = s.1 22 (j + 1) ∧ s'.1 23 j = s.1 23 (j + 1) ∧ s'.1 24 j = s.1 24 (j + 1) ∧ s'.1 25 j = s.1 25 (j + 1)) := by
  refine WM.of mi_3 rfl rfl (Nat.le_of_ble_eq_true rfl) ?_
  show WP (mm_rw mr_3) none tb (WM tb d) _ 0 [(0, vR 21)] [] (HP s) 0 0
  (try simp only [Option.toList_some, Option.toList_none, List.nil_append, List.append_nil, List.cons_append, Nat.sub_zero, Nat.sub_self, Nat.zero_sub]); refine Go.wp sp_3 200 ?_; simp only [↓g3_0, ↓g3_1, ↓g3_3, ↓g3_6, ↓g3_7, ↓g3_10, ↓g3_11, ↓g3_12, ↓g3_15, ↓g3_16, ↓g3_17, ↓g3_20, ↓g3_23, ↓g3_24, ↓g3_27, ↓g3_28, ↓g3_29, ↓g3_32, ↓g3_33, ↓g3_34, ↓g3_37, ↓g3_40, ↓g3_41, ↓g3_44, ↓g3_45, ↓g3_46, ↓g3_49, ↓g3_50, ↓g3_51, ↓g3_54, ↓g3_57, ↓g3_58, ↓g3_61, ↓g3_62, ↓g3_63, ↓g3_66, ↓g3_67, ↓g3_68, ↓g3_71, ↓g3_74, ↓Go_s, ↓GoC_a, ↓reduceIte, ↓mm_call_eq, ↓mmw_nil, ↓mmw_cons, List.take_succ_cons, List.take_zero, List.take_nil, List.drop_succ_cons, List.drop_zero, List.drop_nil, List.reverse_cons, List.reverse_nil, List.nil_append, List.cons_append, List.append_nil, Option.toList_some, Option.toList_none, Nat.sub_zero, Nat.le_refl, mmr_cons, mm_st1, mm_st2, mmi_nil, mmi_cons, mmc_I, mmc_L, mmc_R, mmu_get, mmu_one, mma_get, mma_one, List.filter_cons, List.filter_nil, List.contains_cons, List.contains_nil, Nat.reduceBEq, Nat.reduceAdd, Nat.reduceLT, Nat.reduceSub, Nat.reduceLeDiff, Nat.reduceEqDiff, Int32.reduceAdd, Bool.not_true, Bool.not_false, Bool.and_true, Bool.true_and, Bool.and_false, Bool.false_and, Bool.or_false, Bool.false_or, Bool.or_true, Bool.true_or, if_true, if_false, ite_true, ite_false, Bool.false_eq_true, List.getElem?_cons_zero, List.getElem?_cons_succ, List.length_cons, List.length_nil, true_and, and_true, List.set_cons_zero, List.set_cons_succ, Fin.isValue, Fin.val_zero, Fin.val_one, Fin.val_two, Fin.reduceFinMk, Nat.zero_add, hp_0, hp_1, hp_2, hp_3, hp_4, hp_5, hp_6, hp_7, hp_8, hp_9, hp_10, hp_11, hp_12, hp_13, hp_14, hp_15, hp_16, hp_17, hp_18, hp_19, hp_20, hp_21, hp_22, hp_23, hp_24, hp_25, hp_26, hp_27, hp_28, hp_29, hp_30, hp_31, hp_32, hp_33, hp_34, hp_35, hp_36, hp_37, hp_38, hp_39, hp_40, hp_41, hp_42, hp_43, hp_44, hp_45, hp_46, hp_47, hp_48, hp_49, hp_50, hp_51, hp_52, hp_53, hp_54, hp_55, hp_56, hp_57, hp_58, hp_59, hp_60, hp_61, hp_62, hp_63, hp_64, hp_65, hp_66, hp_67, hp_68, hp_69, hp_70, hp_71, hp_72, hp_73, hp_74, og_0_0, og_0_1, og_0_2, og_0_3, og_0_4, og_0_5, og_0_6, og_0_7, og_0_8, og_0_9, og_0_10, og_0_11, og_0_12, og_0_13, ol_0, og_2_0, og_2_1, og_2_2, og_2_3, og_2_4, og_2_5, og_2_6, ol_2, og_3_0, og_3_1, ol_3, og_5_0, og_5_1, ol_5, og_9_0, og_9_1, og_9_2, og_9_3, og_9_4, og_9_5, og_9_6, ol_9, og_10_0, og_10_1, ol_10, og_12_0, og_12_1, ol_12, og_16_0, og_16_1, og_16_2, ol_16, og_17_0, og_17_1, ol_17, og_21_0, og_21_1, og_21_2, og_21_3, og_21_4, ol_21, og_27_0, og_27_1, og_27_2, og_27_3, og_27_4, og_27_5, og_27_6, og_27_7, og_27_8, og_27_9, og_27_10, ol_27, og_35_0, og_35_1, ol_35, og_37_0, og_37_1, ol_37, og_39_0, og_39_1, ol_39, og_41_0, og_41_1, ol_41, og_43_0, og_43_1, ol_43, og_45_0, og_45_1, ol_45, og_47_0, og_47_1, ol_47, og_49_0, og_49_1, og_49_2, og_49_3, ol_49, og_53_0, og_53_1, ol_53, og_55_0, og_55_1, ol_55, og_57_0, og_57_1, ol_57, og_59_0, og_59_1, ol_59, og_61_0, og_61_1, ol_61, og_63_0, og_63_1, ol_63, og_65_0, og_65_1, og_65_2, ol_65, og_66_0, og_66_1, ol_66, og_70_0, og_70_1, og_70_2, ol_70, og_71_0, og_71_1, ol_71, uo_0_1, uo_0_4, uo_0_8, ua_1, uo_2_0, uo_2_1, uo_2_2, uo_3_1, ua_4, uo_5_1, ua_6, ua_7, ua_8, uo_9_0, uo_9_1, uo_9_2, uo_10_1, ua_11, uo_12_1, ua_13, ua_14, ua_15, uo_17_1, ua_18, ua_19, ua_20, uo_21_4, ua_22, ua_23, ua_24, ua_25, uo_27_2, uo_27_6, uo_27_7, uo_27_8, ua_28, ua_29, ua_31, ua_32, ua_33, ua_34, uo_35_1, ua_36, uo_37_1, ua_38, uo_39_1, ua_40, uo_41_1, ua_42, uo_43_1, ua_44, uo_45_1, ua_46, uo_47_1, ua_48, uo_49_3, ua_51, ua_52, uo_53_1, ua_54, uo_55_1, ua_56, uo_57_1, ua_58, uo_59_1, ua_60, uo_61_1, ua_62, uo_63_1, ua_64, uo_66_1, ua_67, ua_68, ua_69, uo_71_1, ua_72, ua_73, ua_74, sO_g, sA_g, sA_O, sO_A, sO_2, sC_1, sC_2, sC_3, sC_4, sC_5, sC_6, sW_1, sW_2, sW_3, sW_4, uc_0, ft_0_4, nu_fitI, nu_fitL, nu_fitO, nu_fitA, nu_fitB0, nu_fitB1]
  simp (disch := omega) only [lit_0, lit_1, lit_2, lit_3, lit_4, lit_5, lit_6, lit_7, lit_8, lit_9, lit_10, lit_16, lit_40, lit_48, lit_60, lit_67, lit_76, lit_82, lit_99, lit_100, lit_255, lit_508, lit_720, lit_1023, nI_1, nI_add, pk_sub, pk_mul, pk_div, nu_rem2, nI_clamp, nu_m, nu_m', nu_lm, nu_ml, nu_ltm, nu_mlt, nu_mm, nu_dec, nu_in, nu_le, nu_lt, nu_eq, true_and, and_true, false_imp_iff, true_imp_iff, not_true_eq_false, not_false_eq_true, Nat.not_lt_zero, Nat.zero_le, Nat.le_refl, Nat.lt_irrefl, Nat.reduceEqDiff, Nat.reduceLT, Nat.reduceLeDiff, Nat.reduceAdd, Nat.reduceSub, Nat.reduceMul, Nat.reduceMod, Nat.reduceDiv, Nat.one_ne_zero, Nat.zero_ne_one, ft_0_0, ft_0_1, ft_0_2, ft_0_3, ft_0_4, ft_1_0, ft_1_1, ft_1_2, ft_2_0, ft_2_1, ft_2_2, ft_2_3, ft_2_4, ft_2_5, ft_2_6, ft_2_7, ft_2_8, ft_2_9, ft_2_10, ft_3_0, ft_3_1, ft_3_2, ft_3_3, ft_4_0, ft_4_1, ft_4_2, ft_4_3, ft_4_4, ft_4_5, ft_4_6, ft_5_0, ft_5_1, ft_6_0, ft_6_1, ft_6_2, ft_6_3, ft_6_4, ft_6_5, ft_6_6, ft_7_0, ft_7_1, ft_7_2, ft_7_3, ft_7_4, ft_7_5, ft_7_6, ft_7_7, ft_7_8, ft_7_9, ft_7_10, ft_7_11, ft_7_12, ft_7_13, ft_8_0, ft_8_1, ft_8_2, ft_8_3, ft_8_4, ft_8_5, ft_8_6, ft_8_7, ft_8_8, ft_8_9, ft_8_10, ft_8_11, ft_8_12, ft_8_13, ft_8_14, ft_8_15, ft_8_16, ft_8_17, ft_8_18, ft_8_19, ft_8_20, ft_8_21, ft_8_22, ft_8_23, ft_8_24, ft_8_25, ft_8_26, ft_8_27, ft_8_28, ft_8_29, ft_8_30, ft_8_31, ft_8_32, ft_8_33, ft_8_34, ft_8_35, ft_8_36, ft_8_37, ft_8_38, ft_8_39, ft_8_40, ft_8_41, nu_fitI, nu_fitL, nu_fitO, nu_fitA, nu_fitB0, nu_fitB1, lit_15]
  refine ⟨_, rfl, (((AG.sO (by simp)).tr (AG.sA (by simp))).tr (AG.sA (by simp))).tr ((AG.sA (by simp)).tr (AG.sA (by simp))), rfl, fun j hj => ?_⟩
  have e : ∀ f : Nat → Int32, va_cpy f f 1 0 15 j = f (j + 1) := fun f => by
    rw [pk_cpy_in (Nat.zero_le _) (by omega), Nat.sub_zero, Nat.add_comm]
  exact ⟨e _, e _, e _, e _⟩
theorem C_add {n : Nat} (hn : s.2.1 21 4 = nI n) (hn16 : n ≤ 16) (b p h q : Int32) : WM tb (d + 2) k_Acts_add [vR 21, vI b, vI p, vI h, vI q] (HP s) 0 0 (fun z h' => z = none ∧ ∃ s', h' = HP s' ∧ AG s s' [21, 22, 23, 24, 25] ∧ s'.2.1 21 4 = nI ((if n < 16 then n else 15) + 1) ∧ (s'.1 22 (if n < 16 then n else 15) = b ∧ s'.1 23 (if n < 16 then n else 15) = p ∧ s'.1 24 (if n < 16 then n else 15) = h ∧ s'.1 25 (if n < 16 then n else 15) = q) ∧ ∀ j, j < (if n < 16 then n else 15) → s'.1 22 j = s.1 22 (j + if n < 16 then 0 else 1) ∧ s'.1 23 j = s.1 23 (j + if n < 16 then 0 else 1) ∧ s'.1 24 j = s.1 24 (j + if n < 16 then 0 else 1) ∧ s'.1 25 j = s.1 25 (j + if n < 16 then 0 else 1)) := by
  have key : ∀ (s1 : MM) (m : Nat), m < 16 → s1.2.1 21 4 = nI m → ∀ Q : AQ, (∀ s', AG s1 s' [21, 22, 23, 24, 25] → s'.2.1 21 4 = nI (m + 1) → (s'.1 22 m = b ∧ s'.1 23 m = p ∧ s'.1 24 m = h ∧ s'.1 25 m = q) → (∀ j, j < m → s'.1 22 j = s1.1 22 j ∧ s'.1 23 j = s1.1 23 j ∧ s'.1 24 j = s1.1 24 j ∧ s'.1 25 j = s1.1 25 j) → Q none (HP s')) → WP (mm_rw mr_1) none tb (WM tb (d + 1)) Q 13 [(0, vR 21), (1, vI b), (2, vI p), (3, vI h), (4, vI q)] [] (HP s1) 0 0 := by
    intro s1 m hm h1 Q hQ
    (try simp only [Option.toList_some, Option.toList_none, List.nil_append, List.append_nil, List.cons_append, Nat.sub_zero, Nat.sub_self, Nat.zero_sub]); refine Go.wp sp_1 200 ?_; simp only [↓g1_0, ↓g1_1, ↓g1_4, ↓g1_6, ↓g1_9, ↓g1_10, ↓g1_13, ↓g1_14, ↓g1_17, ↓g1_18, ↓g1_21, ↓g1_22, ↓g1_23, ↓g1_24, ↓g1_27, ↓g1_28, ↓g1_31, ↓g1_32, ↓g1_33, ↓g1_34, ↓g1_37, ↓g1_38, ↓g1_41, ↓g1_42, ↓g1_43, ↓g1_44, ↓g1_47, ↓g1_48, ↓g1_51, ↓g1_53, ↓g1_54, ↓g1_55, ↓g1_56, ↓g1_59, ↓g1_60, ↓g1_61, ↓g1_64, cl_3, cn_0, cn_1, cn_2, cn_3, cn_4, cn_5, cn_6, cn_7, cn_8, ↓Go_s, ↓GoC_a, ↓reduceIte, ↓mm_call_eq, ↓mmw_nil, ↓mmw_cons, List.take_succ_cons, List.take_zero, List.take_nil, List.drop_succ_cons, List.drop_zero, List.drop_nil, List.reverse_cons, List.reverse_nil, List.nil_append, List.cons_append, List.append_nil, Option.toList_some, Option.toList_none, Nat.sub_zero, Nat.le_refl, mmr_cons, mm_st1, mm_st2, mmi_nil, mmi_cons, mmc_I, mmc_L, mmc_R, mmu_get, mmu_one, mma_get, mma_one, List.filter_cons, List.filter_nil, List.contains_cons, List.contains_nil, Nat.reduceBEq, Nat.reduceAdd, Nat.reduceLT, Nat.reduceSub, Nat.reduceLeDiff, Nat.reduceEqDiff, Int32.reduceAdd, Bool.not_true, Bool.not_false, Bool.and_true, Bool.true_and, Bool.and_false, Bool.false_and, Bool.or_false, Bool.false_or, Bool.or_true, Bool.true_or, if_true, if_false, ite_true, ite_false, Bool.false_eq_true, List.getElem?_cons_zero, List.getElem?_cons_succ, List.length_cons, List.length_nil, true_and, and_true, List.set_cons_zero, List.set_cons_succ, Fin.isValue, Fin.val_zero, Fin.val_one, Fin.val_two, Fin.reduceFinMk, Nat.zero_add, hp_0, hp_1, hp_2, hp_3, hp_4, hp_5, hp_6, hp_7, hp_8, hp_9, hp_10, hp_11, hp_12, hp_13, hp_14, hp_15, hp_16, hp_17, hp_18, hp_19, hp_20, hp_21, hp_22, hp_23, hp_24, hp_25, hp_26, hp_27, hp_28, hp_29, hp_30, hp_31, hp_32, hp_33, hp_34, hp_35, hp_36, hp_37, hp_38, hp_39, hp_40, hp_41, hp_42, hp_43, hp_44, hp_45, hp_46, hp_47, hp_48, hp_49, hp_50, hp_51, hp_52, hp_53, hp_54, hp_55, hp_56, hp_57, hp_58, hp_59, hp_60, hp_61, hp_62, hp_63, hp_64, hp_65, hp_66, hp_67, hp_68, hp_69, hp_70, hp_71, hp_72, hp_73, hp_74, og_0_0, og_0_1, og_0_2, og_0_3, og_0_4, og_0_5, og_0_6, og_0_7, og_0_8, og_0_9, og_0_10, og_0_11, og_0_12, og_0_13, ol_0, og_2_0, og_2_1, og_2_2, og_2_3, og_2_4, og_2_5, og_2_6, ol_2, og_3_0, og_3_1, ol_3, og_5_0, og_5_1, ol_5, og_9_0, og_9_1, og_9_2, og_9_3, og_9_4, og_9_5, og_9_6, ol_9, og_10_0, og_10_1, ol_10, og_12_0, og_12_1, ol_12, og_16_0, og_16_1, og_16_2, ol_16, og_17_0, og_17_1, ol_17, og_21_0, og_21_1, og_21_2, og_21_3, og_21_4, ol_21, og_27_0, og_27_1, og_27_2, og_27_3, og_27_4, og_27_5, og_27_6, og_27_7, og_27_8, og_27_9, og_27_10, ol_27, og_35_0, og_35_1, ol_35, og_37_0, og_37_1, ol_37, og_39_0, og_39_1, ol_39, og_41_0, og_41_1, ol_41, og_43_0, og_43_1, ol_43, og_45_0, og_45_1, ol_45, og_47_0, og_47_1, ol_47, og_49_0, og_49_1, og_49_2, og_49_3, ol_49, og_53_0, og_53_1, ol_53, og_55_0, og_55_1, ol_55, og_57_0, og_57_1, ol_57, og_59_0, og_59_1, ol_59, og_61_0, og_61_1, ol_61, og_63_0, og_63_1, ol_63, og_65_0, og_65_1, og_65_2, ol_65, og_66_0, og_66_1, ol_66, og_70_0, og_70_1, og_70_2, ol_70, og_71_0, og_71_1, ol_71, uo_0_1, uo_0_4, uo_0_8, ua_1, uo_2_0, uo_2_1, uo_2_2, uo_3_1, ua_4, uo_5_1, ua_6, ua_7, ua_8, uo_9_0, uo_9_1, uo_9_2, uo_10_1, ua_11, uo_12_1, ua_13, ua_14, ua_15, uo_17_1, ua_18, ua_19, ua_20, uo_21_4, ua_22, ua_23, ua_24, ua_25, uo_27_2, uo_27_6, uo_27_7, uo_27_8, ua_28, ua_29, ua_31, ua_32, ua_33, ua_34, uo_35_1, ua_36, uo_37_1, ua_38, uo_39_1, ua_40, uo_41_1, ua_42, uo_43_1, ua_44, uo_45_1, ua_46, uo_47_1, ua_48, uo_49_3, ua_51, ua_52, uo_53_1, ua_54, uo_55_1, ua_56, uo_57_1, ua_58, uo_59_1, ua_60, uo_61_1, ua_62, uo_63_1, ua_64, uo_66_1, ua_67, ua_68, ua_69, uo_71_1, ua_72, ua_73, ua_74, sO_g, sA_g, sA_O, sO_A, sO_2, sC_1, sC_2, sC_3, sC_4, sC_5, sC_6, sW_1, sW_2, sW_3, sW_4, uc_0, h1, ft_0_4, nu_fitI, nu_fitL, nu_fitO, nu_fitA, nu_fitB0, nu_fitB1]
    simp (disch := omega) only [lit_0, lit_1, lit_2, lit_3, lit_4, lit_5, lit_6, lit_7, lit_8, lit_9, lit_10, lit_16, lit_40, lit_48, lit_60, lit_67, lit_76, lit_82, lit_99, lit_100, lit_255, lit_508, lit_720, lit_1023, nI_1, nI_add, pk_sub, pk_mul, pk_div, nu_rem2, nI_clamp, nu_m, nu_m', nu_lm, nu_ml, nu_ltm, nu_mlt, nu_mm, nu_dec, nu_in, nu_le, nu_lt, nu_eq, true_and, and_true, false_imp_iff, true_imp_iff, not_true_eq_false, not_false_eq_true, Nat.not_lt_zero, Nat.zero_le, Nat.le_refl, Nat.lt_irrefl, Nat.reduceEqDiff, Nat.reduceLT, Nat.reduceLeDiff, Nat.reduceAdd, Nat.reduceSub, Nat.reduceMul, Nat.reduceMod, Nat.reduceDiv, Nat.one_ne_zero, Nat.zero_ne_one, ft_0_0, ft_0_1, ft_0_2, ft_0_3, ft_0_4, ft_1_0, ft_1_1, ft_1_2, ft_2_0, ft_2_1, ft_2_2, ft_2_3, ft_2_4, ft_2_5, ft_2_6, ft_2_7, ft_2_8, ft_2_9, ft_2_10, ft_3_0, ft_3_1, ft_3_2, ft_3_3, ft_4_0, ft_4_1, ft_4_2, ft_4_3, ft_4_4, ft_4_5, ft_4_6, ft_5_0, ft_5_1, ft_6_0, ft_6_1, ft_6_2, ft_6_3, ft_6_4, ft_6_5, ft_6_6, ft_7_0, ft_7_1, ft_7_2, ft_7_3, ft_7_4, ft_7_5, ft_7_6, ft_7_7, ft_7_8, ft_7_9, ft_7_10, ft_7_11, ft_7_12, ft_7_13, ft_8_0, ft_8_1, ft_8_2, ft_8_3, ft_8_4, ft_8_5, ft_8_6, ft_8_7, ft_8_8, ft_8_9, ft_8_10, ft_8_11, ft_8_12, ft_8_13, ft_8_14, ft_8_15, ft_8_16, ft_8_17, ft_8_18, ft_8_19, ft_8_20, ft_8_21, ft_8_22, ft_8_23, ft_8_24, ft_8_25, ft_8_26, ft_8_27, ft_8_28, ft_8_29, ft_8_30, ft_8_31, ft_8_32, ft_8_33, ft_8_34, ft_8_35, ft_8_36, ft_8_37, ft_8_38, ft_8_39, ft_8_40, ft_8_41, nu_fitI, nu_fitL, nu_fitO, nu_fitA, nu_fitB0, nu_fitB1]
    refine ⟨by omega, by omega, by omega, by omega, hQ _ ?_ rfl ⟨?_, ?_, ?_, ?_⟩ (fun j hj => ⟨?_, ?_, ?_, ?_⟩)⟩
    · exact (((AG.sA (by simp)).tr (AG.sA (by simp))).tr (AG.sA (by simp))).tr ((AG.sA (by simp)).tr (AG.sO (by simp)))
    · exact if_pos rfl
    · exact if_pos rfl
    · exact if_pos rfl
    · exact if_pos rfl
    · exact if_neg (by omega)
    · exact if_neg (by omega)
    · exact if_neg (by omega)
    · exact if_neg (by omega)
  refine WM.of mi_1 rfl rfl (Nat.le_of_ble_eq_true rfl) ?_
  show WP (mm_rw mr_1) none tb (WM tb (d + 1)) _ 0 [(0, vR 21), (1, vI b), (2, vI p), (3, vI h), (4, vI q)] [] (HP s) 0 0
  (try simp only [Option.toList_some, Option.toList_none, List.nil_append, List.append_nil, List.cons_append, Nat.sub_zero, Nat.sub_self, Nat.zero_sub]); refine Go.wp sp_1 200 ?_; simp only [↓g1_0, ↓g1_1, ↓g1_4, ↓g1_6, ↓g1_9, ↓g1_10, ↓g1_13, ↓g1_14, ↓g1_17, ↓g1_18, ↓g1_21, ↓g1_22, ↓g1_23, ↓g1_24, ↓g1_27, ↓g1_28, ↓g1_31, ↓g1_32, ↓g1_33, ↓g1_34, ↓g1_37, ↓g1_38, ↓g1_41, ↓g1_42, ↓g1_43, ↓g1_44, ↓g1_47, ↓g1_48, ↓g1_51, ↓g1_53, ↓g1_54, ↓g1_55, ↓g1_56, ↓g1_59, ↓g1_60, ↓g1_61, ↓g1_64, cl_3, cn_0, cn_1, cn_2, cn_3, cn_4, cn_5, cn_6, cn_7, cn_8, ↓Go_s, ↓GoC_a, ↓reduceIte, ↓mm_call_eq, ↓mmw_nil, ↓mmw_cons, List.take_succ_cons, List.take_zero, List.take_nil, List.drop_succ_cons, List.drop_zero, List.drop_nil, List.reverse_cons, List.reverse_nil, List.nil_append, List.cons_append, List.append_nil, Option.toList_some, Option.toList_none, Nat.sub_zero, Nat.le_refl, mmr_cons, mm_st1, mm_st2, mmi_nil, mmi_cons, mmc_I, mmc_L, mmc_R, mmu_get, mmu_one, mma_get, mma_one, List.filter_cons, List.filter_nil, List.contains_cons, List.contains_nil, Nat.reduceBEq, Nat.reduceAdd, Nat.reduceLT, Nat.reduceSub, Nat.reduceLeDiff, Nat.reduceEqDiff, Int32.reduceAdd, Bool.not_true, Bool.not_false, Bool.and_true, Bool.true_and, Bool.and_false, Bool.false_and, Bool.or_false, Bool.false_or, Bool.or_true, Bool.true_or, if_true, if_false, ite_true, ite_false, Bool.false_eq_true, List.getElem?_cons_zero, List.getElem?_cons_succ, List.length_cons, List.length_nil, true_and, and_true, List.set_cons_zero, List.set_cons_succ, Fin.isValue, Fin.val_zero, Fin.val_one, Fin.val_two, Fin.reduceFinMk, Nat.zero_add, hp_0, hp_1, hp_2, hp_3, hp_4, hp_5, hp_6, hp_7, hp_8, hp_9, hp_10, hp_11, hp_12, hp_13, hp_14, hp_15, hp_16, hp_17, hp_18, hp_19, hp_20, hp_21, hp_22, hp_23, hp_24, hp_25, hp_26, hp_27, hp_28, hp_29, hp_30, hp_31, hp_32, hp_33, hp_34, hp_35, hp_36, hp_37, hp_38, hp_39, hp_40, hp_41, hp_42, hp_43, hp_44, hp_45, hp_46, hp_47, hp_48, hp_49, hp_50, hp_51, hp_52, hp_53, hp_54, hp_55, hp_56, hp_57, hp_58, hp_59, hp_60, hp_61, hp_62, hp_63, hp_64, hp_65, hp_66, hp_67, hp_68, hp_69, hp_70, hp_71, hp_72, hp_73, hp_74, og_0_0, og_0_1, og_0_2, og_0_3, og_0_4, og_0_5, og_0_6, og_0_7, og_0_8, og_0_9, og_0_10, og_0_11, og_0_12, og_0_13, ol_0, og_2_0, og_2_1, og_2_2, og_2_3, og_2_4, og_2_5, og_2_6, ol_2, og_3_0, og_3_1, ol_3, og_5_0, og_5_1, ol_5, og_9_0, og_9_1, og_9_2, og_9_3, og_9_4, og_9_5, og_9_6, ol_9, og_10_0, og_10_1, ol_10, og_12_0, og_12_1, ol_12, og_16_0, og_16_1, og_16_2, ol_16, og_17_0, og_17_1, ol_17, og_21_0, og_21_1, og_21_2, og_21_3, og_21_4, ol_21, og_27_0, og_27_1, og_27_2, og_27_3, og_27_4, og_27_5, og_27_6, og_27_7, og_27_8, og_27_9, og_27_10, ol_27, og_35_0, og_35_1, ol_35, og_37_0, og_37_1, ol_37, og_39_0, og_39_1, ol_39, og_41_0, og_41_1, ol_41, og_43_0, og_43_1, ol_43, og_45_0, og_45_1, ol_45, og_47_0, og_47_1, ol_47, og_49_0, og_49_1, og_49_2, og_49_3, ol_49, og_53_0, og_53_1, ol_53, og_55_0, og_55_1, ol_55, og_57_0, og_57_1, ol_57, og_59_0, og_59_1, ol_59, og_61_0, og_61_1, ol_61, og_63_0, og_63_1, ol_63, og_65_0, og_65_1, og_65_2, ol_65, og_66_0, og_66_1, ol_66, og_70_0, og_70_1, og_70_2, ol_70, og_71_0, og_71_1, ol_71, uo_0_1, uo_0_4, uo_0_8, ua_1, uo_2_0, uo_2_1, uo_2_2, uo_3_1, ua_4, uo_5_1, ua_6, ua_7, ua_8, uo_9_0, uo_9_1, uo_9_2, uo_10_1, ua_11, uo_12_1, ua_13, ua_14, ua_15, uo_17_1, ua_18, ua_19, ua_20, uo_21_4, ua_22, ua_23, ua_24, ua_25, uo_27_2, uo_27_6, uo_27_7, uo_27_8, ua_28, ua_29, ua_31, ua_32, ua_33, ua_34, uo_35_1, ua_36, uo_37_1, ua_38, uo_39_1, ua_40, uo_41_1, ua_42, uo_43_1, ua_44, uo_45_1, ua_46, uo_47_1, ua_48, uo_49_3, ua_51, ua_52, uo_53_1, ua_54, uo_55_1, ua_56, uo_57_1, ua_58, uo_59_1, ua_60, uo_61_1, ua_62, uo_63_1, ua_64, uo_66_1, ua_67, ua_68, ua_69, uo_71_1, ua_72, ua_73, ua_74, sO_g, sA_g, sA_O, sO_A, sO_2, sC_1, sC_2, sC_3, sC_4, sC_5, sC_6, sW_1, sW_2, sW_3, sW_4, uc_0, hn, ft_0_4, nu_fitI, nu_fitL, nu_fitO, nu_fitA, nu_fitB0, nu_fitB1]
  simp (disch := omega) only [lit_0, lit_1, lit_2, lit_3, lit_4, lit_5, lit_6, lit_7, lit_8, lit_9, lit_10, lit_16, lit_40, lit_48, lit_60, lit_67, lit_76, lit_82, lit_99, lit_100, lit_255, lit_508, lit_720, lit_1023, nI_1, nI_add, pk_sub, pk_mul, pk_div, nu_rem2, nI_clamp, nu_m, nu_m', nu_lm, nu_ml, nu_ltm, nu_mlt, nu_mm, nu_dec, nu_in, nu_le, nu_lt, nu_eq, true_and, and_true, false_imp_iff, true_imp_iff, not_true_eq_false, not_false_eq_true, Nat.not_lt_zero, Nat.zero_le, Nat.le_refl, Nat.lt_irrefl, Nat.reduceEqDiff, Nat.reduceLT, Nat.reduceLeDiff, Nat.reduceAdd, Nat.reduceSub, Nat.reduceMul, Nat.reduceMod, Nat.reduceDiv, Nat.one_ne_zero, Nat.zero_ne_one, ft_0_0, ft_0_1, ft_0_2, ft_0_3, ft_0_4, ft_1_0, ft_1_1, ft_1_2, ft_2_0, ft_2_1, ft_2_2, ft_2_3, ft_2_4, ft_2_5, ft_2_6, ft_2_7, ft_2_8, ft_2_9, ft_2_10, ft_3_0, ft_3_1, ft_3_2, ft_3_3, ft_4_0, ft_4_1, ft_4_2, ft_4_3, ft_4_4, ft_4_5, ft_4_6, ft_5_0, ft_5_1, ft_6_0, ft_6_1, ft_6_2, ft_6_3, ft_6_4, ft_6_5, ft_6_6, ft_7_0, ft_7_1, ft_7_2, ft_7_3, ft_7_4, ft_7_5, ft_7_6, ft_7_7, ft_7_8, ft_7_9, ft_7_10, ft_7_11, ft_7_12, ft_7_13, ft_8_0, ft_8_1, ft_8_2, ft_8_3, ft_8_4, ft_8_5, ft_8_6, ft_8_7, ft_8_8, ft_8_9, ft_8_10, ft_8_11, ft_8_12, ft_8_13, ft_8_14, ft_8_15, ft_8_16, ft_8_17, ft_8_18, ft_8_19, ft_8_20, ft_8_21, ft_8_22, ft_8_23, ft_8_24, ft_8_25, ft_8_26, ft_8_27, ft_8_28, ft_8_29, ft_8_30, ft_8_31, ft_8_32, ft_8_33, ft_8_34, ft_8_35, ft_8_36, ft_8_37, ft_8_38, ft_8_39, ft_8_40, ft_8_41, nu_fitI, nu_fitL, nu_fitO, nu_fitA, nu_fitB0, nu_fitB1]
  refine ⟨fun c => ?_, fun c => ?_⟩
  · rw [if_pos c, if_pos c]
    exact key s n c hn _ (fun s' a b c d => ⟨rfl, s', rfl, a, b, c, d⟩)
  · rw [if_neg c, if_neg c]
    refine ⟨0, 0, _, Nat.le_refl _, Nat.le_refl _, C_dropFirst, fun z h' hz => ?_⟩
    obtain ⟨rfl, s1, rfl, ha, h4, hj⟩ := hz
    refine key s1 15 (by omega) h4 _ (fun s' a b c d => ⟨rfl, s', rfl, ha.tr a, b, c, fun j hj' => ?_⟩)
    have := d j hj'
    have h := hj j hj'
    exact ⟨this.1.trans h.1, this.2.1.trans h.2.1, this.2.2.1.trans h.2.2.1, this.2.2.2.trans h.2.2.2⟩
/-- the acts behind one more -/
theorem AcOk.push {B P H Q B' P' H' Q' : Nat → Int32} {cur k : DK} {ac : List DK} (h : AcOk B P H Q k ac) (hl : ac.length ≤ 16) {b p : Nat} (hb : b < 8) (h1 : B' (if ac.length < 16 then ac.length else 15) = nI b ∧ P' (if ac.length < 16 then ac.length else 15) = nI p ∧ H' (if ac.length < 16 then ac.length else 15) = k.2.1 b ∧ Q' (if ac.length < 16 then ac.length else 15) = k.2.2 b) (h2 : ∀ j, j < (if ac.length < 16 then ac.length else 15) → B' j = B (j + if ac.length < 16 then 0 else 1) ∧ P' j = P (j + if ac.length < 16 then 0 else 1) ∧ H' j = H (j + if ac.length < 16 then 0 else 1) ∧ Q' j = Q (j + if ac.length < 16 then 0 else 1)) (h3 : ∀ j, j < 8 → j ≠ b → k.2.1 j = cur.2.1 j ∧ k.2.2 j = cur.2.2 j) (h4 : (k.2.1 b = mI 9 ∧ p ≤ cur.1.length ∧ cur.1.length < 8 ∧ k.1 = cur.1.insertIdx p b) ∨ (¬ k.2.1 b = mI 9 ∧ p < cur.1.length ∧ k.1 = cur.1.eraseIdx p)) : AcOk B' P' H' Q' cur (pushA ac k) := by
  unfold pushA
  by_cases c : ac.length < 16
  · rw [if_pos c]
    simp only [if_pos c] at h1 h2
    exact ⟨⟨b, p, hb, h1.1, h1.2.1, h1.2.2.1, h1.2.2.2, h3, h4⟩, h.fr h2⟩
  · rw [if_neg c]
    simp only [if_neg c] at h1 h2
    have hd : ac.dropLast.length = 15 := by rw [List.length_dropLast]; omega
    refine ⟨⟨b, p, hb, ?_⟩, h.dl (fun j hj => h2 j (by omega))⟩
    rw [hd]
    exact ⟨h1.1, h1.2.1, h1.2.2.1, h1.2.2.2, h3, h4⟩
theorem upd_eq {f g : Nat → Int32} {k : Nat} {x : Int32} (h : ∀ b, b < 8 → f b = g b) : ∀ b, b < 8 → upd f k x b = upd g k x b := by
  intro b hb
  unfold upd
  rw [h b hb]
def askK (k : DK) (r b : Nat) : DK := (k.1.eraseIdx ((k.1.idxOf b + 1) % k.1.length), upd k.2.1 (tG k.1 b) (nI r), upd k.2.2 (tG k.1 b) (nI b))
def aAsk (g : SG) (x y : Int32) : Int32 × SG := if (isB x (gRd g).length && isB y (gN g)) = true then (if y.toNatClampNeg ∈ (gDk g).1 then (nI (tG (gDk g).1 y.toNatClampNeg), setAD g (askK (gDk g) x.toNatClampNeg y.toNatClampNeg) (pushA (gAc g) (gDk g))) else (mI 3, g)) else (mI 1, g)
theorem InvC.fin {g : SG} {s s' : MM} {S : List Nat} (h : InvC g s) (a : AG s s' S) (hS : ∀ k ∈ S, 16 ≤ k ∧ k < 27) {k : DK} {ac : List DK} (hd : DeskAt s' 17 19 20 k) (ha : s'.2.1 21 4 = nI ac.length ∧ AcOk (s'.1 22) (s'.1 23) (s'.1 24) (s'.1 25) k ac) : InvC (setAD g k ac) s' := by
  obtain ⟨p1, p2, p3, p4, p5, p6⟩ := h.dk a (fun k hk => by have := hS k hk; omega)
  have hn : ∀ k, 27 ≤ k → k ∉ S := fun k hk z => by have := hS k z; omega
  exact ⟨p1, p2, p3, hd, ha, ⟨p4, fun k e => (h.2.2.2.2.2.1.2.1 k e).fr a (hn _ (by omega)) (hn _ (by omega)) (hn _ (by omega)) (hn _ (by omega)), fun k e => (h.2.2.2.2.2.1.2.2 k e).fr a (hn _ (by omega)) (hn _ (by omega)) (hn _ (by omega)) (hn _ (by omega))⟩, p5, p6⟩
theorem C_ask (hk : SgOk g) (hC : InvC g s) (x y : Int32) : WM tb (d + 3) k_B_ask [vR 0, vI x, vI y] (HP s) 0 0 (PostC (aAsk g x y).2 s (vI (aAsk g x y).1)) := by
  have hC0 := hC
  obtain ⟨h1, h2, h3, h4, h5, h6, h7, h8⟩ := hC
  have hn8 := hk.2.2.2.2.1
  have hr4 := hk.2.2.2.2.2.1
  have hs8 := sgS8 hk
  have hl8 := sgL8 hk
  have hD := sgD hk
  have hac := hk.2.2.2.2.2.2.2.2.2.2.2.1
  unfold aAsk
  refine WM.of mi_63 rfl rfl (Nat.le_of_ble_eq_true rfl) ?_
  show WP (mm_rw mr_63) (some .int) tb (WM tb (d + 2)) _ 0 [(0, vR 0), (1, vI x), (2, vI y)] [] (HP s) 0 0
  (try simp only [Option.toList_some, Option.toList_none, List.nil_append, List.append_nil, List.cons_append, Nat.sub_zero, Nat.sub_self, Nat.zero_sub]); refine Go.wp sp_63 200 ?_; simp only [↓g63_0, ↓g63_1, ↓g63_2, ↓g63_5, ↓g63_8, ↓g63_9, ↓g63_10, ↓g63_13, ↓g63_16, ↓g63_17, ↓g63_18, ↓g63_19, ↓g63_22, ↓g63_25, ↓g63_26, ↓g63_29, ↓g63_30, ↓g63_31, ↓g63_34, ↓g63_37, ↓g63_38, ↓g63_41, ↓g63_43, ↓g63_45, ↓g63_47, ↓g63_50, ↓g63_52, ↓g63_53, ↓g63_54, ↓g63_57, ↓g63_59, ↓g63_60, ↓g63_62, ↓g63_64, ↓g63_67, ↓g63_68, ↓g63_71, ↓g63_74, ↓g63_76, ↓g63_77, ↓g63_78, ↓g63_79, ↓g63_82, ↓g63_85, ↓g63_87, ↓g63_88, ↓g63_89, ↓g63_91, cl_1, cl_40, cl_41, cl_85, cl_86, cn_0, cn_1, cn_2, cn_3, cn_4, cn_5, cn_6, cn_7, cn_8, ↓Go_s, ↓GoC_a, ↓reduceIte, ↓mm_call_eq, ↓mmw_nil, ↓mmw_cons, List.take_succ_cons, List.take_zero, List.take_nil, List.drop_succ_cons, List.drop_zero, List.drop_nil, List.reverse_cons, List.reverse_nil, List.nil_append, List.cons_append, List.append_nil, Option.toList_some, Option.toList_none, Nat.sub_zero, Nat.le_refl, mmr_cons, mm_st1, mm_st2, mmi_nil, mmi_cons, mmc_I, mmc_L, mmc_R, mmu_get, mmu_one, mma_get, mma_one, List.filter_cons, List.filter_nil, List.contains_cons, List.contains_nil, Nat.reduceBEq, Nat.reduceAdd, Nat.reduceLT, Nat.reduceSub, Nat.reduceLeDiff, Nat.reduceEqDiff, Int32.reduceAdd, Bool.not_true, Bool.not_false, Bool.and_true, Bool.true_and, Bool.and_false, Bool.false_and, Bool.or_false, Bool.false_or, Bool.or_true, Bool.true_or, if_true, if_false, ite_true, ite_false, Bool.false_eq_true, List.getElem?_cons_zero, List.getElem?_cons_succ, List.length_cons, List.length_nil, true_and, and_true, List.set_cons_zero, List.set_cons_succ, Fin.isValue, Fin.val_zero, Fin.val_one, Fin.val_two, Fin.reduceFinMk, Nat.zero_add, hp_0, hp_1, hp_2, hp_3, hp_4, hp_5, hp_6, hp_7, hp_8, hp_9, hp_10, hp_11, hp_12, hp_13, hp_14, hp_15, hp_16, hp_17, hp_18, hp_19, hp_20, hp_21, hp_22, hp_23, hp_24, hp_25, hp_26, hp_27, hp_28, hp_29, hp_30, hp_31, hp_32, hp_33, hp_34, hp_35, hp_36, hp_37, hp_38, hp_39, hp_40, hp_41, hp_42, hp_43, hp_44, hp_45, hp_46, hp_47, hp_48, hp_49, hp_50, hp_51, hp_52, hp_53, hp_54, hp_55, hp_56, hp_57, hp_58, hp_59, hp_60, hp_61, hp_62, hp_63, hp_64, hp_65, hp_66, hp_67, hp_68, hp_69, hp_70, hp_71, hp_72, hp_73, hp_74, og_0_0, og_0_1, og_0_2, og_0_3, og_0_4, og_0_5, og_0_6, og_0_7, og_0_8, og_0_9, og_0_10, og_0_11, og_0_12, og_0_13, ol_0, og_2_0, og_2_1, og_2_2, og_2_3, og_2_4, og_2_5, og_2_6, ol_2, og_3_0, og_3_1, ol_3, og_5_0, og_5_1, ol_5, og_9_0, og_9_1, og_9_2, og_9_3, og_9_4, og_9_5, og_9_6, ol_9, og_10_0, og_10_1, ol_10, og_12_0, og_12_1, ol_12, og_16_0, og_16_1, og_16_2, ol_16, og_17_0, og_17_1, ol_17, og_21_0, og_21_1, og_21_2, og_21_3, og_21_4, ol_21, og_27_0, og_27_1, og_27_2, og_27_3, og_27_4, og_27_5, og_27_6, og_27_7, og_27_8, og_27_9, og_27_10, ol_27, og_35_0, og_35_1, ol_35, og_37_0, og_37_1, ol_37, og_39_0, og_39_1, ol_39, og_41_0, og_41_1, ol_41, og_43_0, og_43_1, ol_43, og_45_0, og_45_1, ol_45, og_47_0, og_47_1, ol_47, og_49_0, og_49_1, og_49_2, og_49_3, ol_49, og_53_0, og_53_1, ol_53, og_55_0, og_55_1, ol_55, og_57_0, og_57_1, ol_57, og_59_0, og_59_1, ol_59, og_61_0, og_61_1, ol_61, og_63_0, og_63_1, ol_63, og_65_0, og_65_1, og_65_2, ol_65, og_66_0, og_66_1, ol_66, og_70_0, og_70_1, og_70_2, ol_70, og_71_0, og_71_1, ol_71, uo_0_1, uo_0_4, uo_0_8, ua_1, uo_2_0, uo_2_1, uo_2_2, uo_3_1, ua_4, uo_5_1, ua_6, ua_7, ua_8, uo_9_0, uo_9_1, uo_9_2, uo_10_1, ua_11, uo_12_1, ua_13, ua_14, ua_15, uo_17_1, ua_18, ua_19, ua_20, uo_21_4, ua_22, ua_23, ua_24, ua_25, uo_27_2, uo_27_6, uo_27_7, uo_27_8, ua_28, ua_29, ua_31, ua_32, ua_33, ua_34, uo_35_1, ua_36, uo_37_1, ua_38, uo_39_1, ua_40, uo_41_1, ua_42, uo_43_1, ua_44, uo_45_1, ua_46, uo_47_1, ua_48, uo_49_3, ua_51, ua_52, uo_53_1, ua_54, uo_55_1, ua_56, uo_57_1, ua_58, uo_59_1, ua_60, uo_61_1, ua_62, uo_63_1, ua_64, uo_66_1, ua_67, ua_68, ua_69, uo_71_1, ua_72, ua_73, ua_74, sO_g, sA_g, sA_O, sO_A, sO_2, sC_1, sC_2, sC_3, sC_4, sC_5, sC_6, sW_1, sW_2, sW_3, sW_4, uc_0, nu_fitI, nu_fitL, nu_fitO, nu_fitA, nu_fitB0, nu_fitB1]
  refine ⟨0, 0, _, Nat.le_refl _, Nat.le_refl _, C_isReader (d := d + 1) h2.2.1 x, fun z h' hz => ?_⟩
  obtain ⟨rfl, rfl⟩ := hz
  cases hb : isB x (gRd g).length
  · (try simp only [Option.toList_some, Option.toList_none, List.nil_append, List.append_nil, List.cons_append, Nat.sub_zero, Nat.sub_self, Nat.zero_sub]); refine Go.wp sp_63 200 ?_; simp only [↓g63_0, ↓g63_1, ↓g63_2, ↓g63_5, ↓g63_8, ↓g63_9, ↓g63_10, ↓g63_13, ↓g63_16, ↓g63_17, ↓g63_18, ↓g63_19, ↓g63_22, ↓g63_25, ↓g63_26, ↓g63_29, ↓g63_30, ↓g63_31, ↓g63_34, ↓g63_37, ↓g63_38, ↓g63_41, ↓g63_43, ↓g63_45, ↓g63_47, ↓g63_50, ↓g63_52, ↓g63_53, ↓g63_54, ↓g63_57, ↓g63_59, ↓g63_60, ↓g63_62, ↓g63_64, ↓g63_67, ↓g63_68, ↓g63_71, ↓g63_74, ↓g63_76, ↓g63_77, ↓g63_78, ↓g63_79, ↓g63_82, ↓g63_85, ↓g63_87, ↓g63_88, ↓g63_89, ↓g63_91, cl_1, cl_40, cl_41, cl_85, cl_86, cn_0, cn_1, cn_2, cn_3, cn_4, cn_5, cn_6, cn_7, cn_8, ↓Go_s, ↓GoC_a, ↓reduceIte, ↓mm_call_eq, ↓mmw_nil, ↓mmw_cons, List.take_succ_cons, List.take_zero, List.take_nil, List.drop_succ_cons, List.drop_zero, List.drop_nil, List.reverse_cons, List.reverse_nil, List.nil_append, List.cons_append, List.append_nil, Option.toList_some, Option.toList_none, Nat.sub_zero, Nat.le_refl, mmr_cons, mm_st1, mm_st2, mmi_nil, mmi_cons, mmc_I, mmc_L, mmc_R, mmu_get, mmu_one, mma_get, mma_one, List.filter_cons, List.filter_nil, List.contains_cons, List.contains_nil, Nat.reduceBEq, Nat.reduceAdd, Nat.reduceLT, Nat.reduceSub, Nat.reduceLeDiff, Nat.reduceEqDiff, Int32.reduceAdd, Bool.not_true, Bool.not_false, Bool.and_true, Bool.true_and, Bool.and_false, Bool.false_and, Bool.or_false, Bool.false_or, Bool.or_true, Bool.true_or, if_true, if_false, ite_true, ite_false, Bool.false_eq_true, List.getElem?_cons_zero, List.getElem?_cons_succ, List.length_cons, List.length_nil, true_and, and_true, List.set_cons_zero, List.set_cons_succ, Fin.isValue, Fin.val_zero, Fin.val_one, Fin.val_two, Fin.reduceFinMk, Nat.zero_add, hp_0, hp_1, hp_2, hp_3, hp_4, hp_5, hp_6, hp_7, hp_8, hp_9, hp_10, hp_11, hp_12, hp_13, hp_14, hp_15, hp_16, hp_17, hp_18, hp_19, hp_20, hp_21, hp_22, hp_23, hp_24, hp_25, hp_26, hp_27, hp_28, hp_29, hp_30, hp_31, hp_32, hp_33, hp_34, hp_35, hp_36, hp_37, hp_38, hp_39, hp_40, hp_41, hp_42, hp_43, hp_44, hp_45, hp_46, hp_47, hp_48, hp_49, hp_50, hp_51, hp_52, hp_53, hp_54, hp_55, hp_56, hp_57, hp_58, hp_59, hp_60, hp_61, hp_62, hp_63, hp_64, hp_65, hp_66, hp_67, hp_68, hp_69, hp_70, hp_71, hp_72, hp_73, hp_74, og_0_0, og_0_1, og_0_2, og_0_3, og_0_4, og_0_5, og_0_6, og_0_7, og_0_8, og_0_9, og_0_10, og_0_11, og_0_12, og_0_13, ol_0, og_2_0, og_2_1, og_2_2, og_2_3, og_2_4, og_2_5, og_2_6, ol_2, og_3_0, og_3_1, ol_3, og_5_0, og_5_1, ol_5, og_9_0, og_9_1, og_9_2, og_9_3, og_9_4, og_9_5, og_9_6, ol_9, og_10_0, og_10_1, ol_10, og_12_0, og_12_1, ol_12, og_16_0, og_16_1, og_16_2, ol_16, og_17_0, og_17_1, ol_17, og_21_0, og_21_1, og_21_2, og_21_3, og_21_4, ol_21, og_27_0, og_27_1, og_27_2, og_27_3, og_27_4, og_27_5, og_27_6, og_27_7, og_27_8, og_27_9, og_27_10, ol_27, og_35_0, og_35_1, ol_35, og_37_0, og_37_1, ol_37, og_39_0, og_39_1, ol_39, og_41_0, og_41_1, ol_41, og_43_0, og_43_1, ol_43, og_45_0, og_45_1, ol_45, og_47_0, og_47_1, ol_47, og_49_0, og_49_1, og_49_2, og_49_3, ol_49, og_53_0, og_53_1, ol_53, og_55_0, og_55_1, ol_55, og_57_0, og_57_1, ol_57, og_59_0, og_59_1, ol_59, og_61_0, og_61_1, ol_61, og_63_0, og_63_1, ol_63, og_65_0, og_65_1, og_65_2, ol_65, og_66_0, og_66_1, ol_66, og_70_0, og_70_1, og_70_2, ol_70, og_71_0, og_71_1, ol_71, uo_0_1, uo_0_4, uo_0_8, ua_1, uo_2_0, uo_2_1, uo_2_2, uo_3_1, ua_4, uo_5_1, ua_6, ua_7, ua_8, uo_9_0, uo_9_1, uo_9_2, uo_10_1, ua_11, uo_12_1, ua_13, ua_14, ua_15, uo_17_1, ua_18, ua_19, ua_20, uo_21_4, ua_22, ua_23, ua_24, ua_25, uo_27_2, uo_27_6, uo_27_7, uo_27_8, ua_28, ua_29, ua_31, ua_32, ua_33, ua_34, uo_35_1, ua_36, uo_37_1, ua_38, uo_39_1, ua_40, uo_41_1, ua_42, uo_43_1, ua_44, uo_45_1, ua_46, uo_47_1, ua_48, uo_49_3, ua_51, ua_52, uo_53_1, ua_54, uo_55_1, ua_56, uo_57_1, ua_58, uo_59_1, ua_60, uo_61_1, ua_62, uo_63_1, ua_64, uo_66_1, ua_67, ua_68, ua_69, uo_71_1, ua_72, ua_73, ua_74, sO_g, sA_g, sA_O, sO_A, sO_2, sC_1, sC_2, sC_3, sC_4, sC_5, sC_6, sW_1, sW_2, sW_3, sW_4, uc_0, b01_f, nu_fitI, nu_fitL, nu_fitO, nu_fitA, nu_fitB0, nu_fitB1]
    exact ⟨fun _ => ⟨rfl, s, rfl, hC0, agM.rf⟩, fun c => absurd trivial c⟩
  · obtain ⟨i, hi, rfl⟩ := isB_t (by omega) hb
    (try simp only [Option.toList_some, Option.toList_none, List.nil_append, List.append_nil, List.cons_append, Nat.sub_zero, Nat.sub_self, Nat.zero_sub]); refine Go.wp sp_63 200 ?_; simp only [↓g63_0, ↓g63_1, ↓g63_2, ↓g63_5, ↓g63_8, ↓g63_9, ↓g63_10, ↓g63_13, ↓g63_16, ↓g63_17, ↓g63_18, ↓g63_19, ↓g63_22, ↓g63_25, ↓g63_26, ↓g63_29, ↓g63_30, ↓g63_31, ↓g63_34, ↓g63_37, ↓g63_38, ↓g63_41, ↓g63_43, ↓g63_45, ↓g63_47, ↓g63_50, ↓g63_52, ↓g63_53, ↓g63_54, ↓g63_57, ↓g63_59, ↓g63_60, ↓g63_62, ↓g63_64, ↓g63_67, ↓g63_68, ↓g63_71, ↓g63_74, ↓g63_76, ↓g63_77, ↓g63_78, ↓g63_79, ↓g63_82, ↓g63_85, ↓g63_87, ↓g63_88, ↓g63_89, ↓g63_91, cl_1, cl_40, cl_41, cl_85, cl_86, cn_0, cn_1, cn_2, cn_3, cn_4, cn_5, cn_6, cn_7, cn_8, ↓Go_s, ↓GoC_a, ↓reduceIte, ↓mm_call_eq, ↓mmw_nil, ↓mmw_cons, List.take_succ_cons, List.take_zero, List.take_nil, List.drop_succ_cons, List.drop_zero, List.drop_nil, List.reverse_cons, List.reverse_nil, List.nil_append, List.cons_append, List.append_nil, Option.toList_some, Option.toList_none, Nat.sub_zero, Nat.le_refl, mmr_cons, mm_st1, mm_st2, mmi_nil, mmi_cons, mmc_I, mmc_L, mmc_R, mmu_get, mmu_one, mma_get, mma_one, List.filter_cons, List.filter_nil, List.contains_cons, List.contains_nil, Nat.reduceBEq, Nat.reduceAdd, Nat.reduceLT, Nat.reduceSub, Nat.reduceLeDiff, Nat.reduceEqDiff, Int32.reduceAdd, Bool.not_true, Bool.not_false, Bool.and_true, Bool.true_and, Bool.and_false, Bool.false_and, Bool.or_false, Bool.false_or, Bool.or_true, Bool.true_or, if_true, if_false, ite_true, ite_false, Bool.false_eq_true, List.getElem?_cons_zero, List.getElem?_cons_succ, List.length_cons, List.length_nil, true_and, and_true, List.set_cons_zero, List.set_cons_succ, Fin.isValue, Fin.val_zero, Fin.val_one, Fin.val_two, Fin.reduceFinMk, Nat.zero_add, hp_0, hp_1, hp_2, hp_3, hp_4, hp_5, hp_6, hp_7, hp_8, hp_9, hp_10, hp_11, hp_12, hp_13, hp_14, hp_15, hp_16, hp_17, hp_18, hp_19, hp_20, hp_21, hp_22, hp_23, hp_24, hp_25, hp_26, hp_27, hp_28, hp_29, hp_30, hp_31, hp_32, hp_33, hp_34, hp_35, hp_36, hp_37, hp_38, hp_39, hp_40, hp_41, hp_42, hp_43, hp_44, hp_45, hp_46, hp_47, hp_48, hp_49, hp_50, hp_51, hp_52, hp_53, hp_54, hp_55, hp_56, hp_57, hp_58, hp_59, hp_60, hp_61, hp_62, hp_63, hp_64, hp_65, hp_66, hp_67, hp_68, hp_69, hp_70, hp_71, hp_72, hp_73, hp_74, og_0_0, og_0_1, og_0_2, og_0_3, og_0_4, og_0_5, og_0_6, og_0_7, og_0_8, og_0_9, og_0_10, og_0_11, og_0_12, og_0_13, ol_0, og_2_0, og_2_1, og_2_2, og_2_3, og_2_4, og_2_5, og_2_6, ol_2, og_3_0, og_3_1, ol_3, og_5_0, og_5_1, ol_5, og_9_0, og_9_1, og_9_2, og_9_3, og_9_4, og_9_5, og_9_6, ol_9, og_10_0, og_10_1, ol_10, og_12_0, og_12_1, ol_12, og_16_0, og_16_1, og_16_2, ol_16, og_17_0, og_17_1, ol_17, og_21_0, og_21_1, og_21_2, og_21_3, og_21_4, ol_21, og_27_0, og_27_1, og_27_2, og_27_3, og_27_4, og_27_5, og_27_6, og_27_7, og_27_8, og_27_9, og_27_10, ol_27, og_35_0, og_35_1, ol_35, og_37_0, og_37_1, ol_37, og_39_0, og_39_1, ol_39, og_41_0, og_41_1, ol_41, og_43_0, og_43_1, ol_43, og_45_0, og_45_1, ol_45, og_47_0, og_47_1, ol_47, og_49_0, og_49_1, og_49_2, og_49_3, ol_49, og_53_0, og_53_1, ol_53, og_55_0, og_55_1, ol_55, og_57_0, og_57_1, ol_57, og_59_0, og_59_1, ol_59, og_61_0, og_61_1, ol_61, og_63_0, og_63_1, ol_63, og_65_0, og_65_1, og_65_2, ol_65, og_66_0, og_66_1, ol_66, og_70_0, og_70_1, og_70_2, ol_70, og_71_0, og_71_1, ol_71, uo_0_1, uo_0_4, uo_0_8, ua_1, uo_2_0, uo_2_1, uo_2_2, uo_3_1, ua_4, uo_5_1, ua_6, ua_7, ua_8, uo_9_0, uo_9_1, uo_9_2, uo_10_1, ua_11, uo_12_1, ua_13, ua_14, ua_15, uo_17_1, ua_18, ua_19, ua_20, uo_21_4, ua_22, ua_23, ua_24, ua_25, uo_27_2, uo_27_6, uo_27_7, uo_27_8, ua_28, ua_29, ua_31, ua_32, ua_33, ua_34, uo_35_1, ua_36, uo_37_1, ua_38, uo_39_1, ua_40, uo_41_1, ua_42, uo_43_1, ua_44, uo_45_1, ua_46, uo_47_1, ua_48, uo_49_3, ua_51, ua_52, uo_53_1, ua_54, uo_55_1, ua_56, uo_57_1, ua_58, uo_59_1, ua_60, uo_61_1, ua_62, uo_63_1, ua_64, uo_66_1, ua_67, ua_68, ua_69, uo_71_1, ua_72, ua_73, ua_74, sO_g, sA_g, sA_O, sO_A, sO_2, sC_1, sC_2, sC_3, sC_4, sC_5, sC_6, sW_1, sW_2, sW_3, sW_4, uc_0, b01_t, nu_fitI, nu_fitL, nu_fitO, nu_fitA, nu_fitB0, nu_fitB1]
    refine ⟨fun c => absurd c (by decide), fun _ => ⟨0, 0, _, Nat.le_refl _, Nat.le_refl _, C_isBook (d := d + 1) h2.1 y, fun z h' hz => ?_⟩⟩
    obtain ⟨rfl, rfl⟩ := hz
    cases hc : isB y (gN g)
    · (try simp only [Option.toList_some, Option.toList_none, List.nil_append, List.append_nil, List.cons_append, Nat.sub_zero, Nat.sub_self, Nat.zero_sub]); refine Go.wp sp_63 200 ?_; simp only [↓g63_0, ↓g63_1, ↓g63_2, ↓g63_5, ↓g63_8, ↓g63_9, ↓g63_10, ↓g63_13, ↓g63_16, ↓g63_17, ↓g63_18, ↓g63_19, ↓g63_22, ↓g63_25, ↓g63_26, ↓g63_29, ↓g63_30, ↓g63_31, ↓g63_34, ↓g63_37, ↓g63_38, ↓g63_41, ↓g63_43, ↓g63_45, ↓g63_47, ↓g63_50, ↓g63_52, ↓g63_53, ↓g63_54, ↓g63_57, ↓g63_59, ↓g63_60, ↓g63_62, ↓g63_64, ↓g63_67, ↓g63_68, ↓g63_71, ↓g63_74, ↓g63_76, ↓g63_77, ↓g63_78, ↓g63_79, ↓g63_82, ↓g63_85, ↓g63_87, ↓g63_88, ↓g63_89, ↓g63_91, cl_1, cl_40, cl_41, cl_85, cl_86, cn_0, cn_1, cn_2, cn_3, cn_4, cn_5, cn_6, cn_7, cn_8, ↓Go_s, ↓GoC_a, ↓reduceIte, ↓mm_call_eq, ↓mmw_nil, ↓mmw_cons, List.take_succ_cons, List.take_zero, List.take_nil, List.drop_succ_cons, List.drop_zero, List.drop_nil, List.reverse_cons, List.reverse_nil, List.nil_append, List.cons_append, List.append_nil, Option.toList_some, Option.toList_none, Nat.sub_zero, Nat.le_refl, mmr_cons, mm_st1, mm_st2, mmi_nil, mmi_cons, mmc_I, mmc_L, mmc_R, mmu_get, mmu_one, mma_get, mma_one, List.filter_cons, List.filter_nil, List.contains_cons, List.contains_nil, Nat.reduceBEq, Nat.reduceAdd, Nat.reduceLT, Nat.reduceSub, Nat.reduceLeDiff, Nat.reduceEqDiff, Int32.reduceAdd, Bool.not_true, Bool.not_false, Bool.and_true, Bool.true_and, Bool.and_false, Bool.false_and, Bool.or_false, Bool.false_or, Bool.or_true, Bool.true_or, if_true, if_false, ite_true, ite_false, Bool.false_eq_true, List.getElem?_cons_zero, List.getElem?_cons_succ, List.length_cons, List.length_nil, true_and, and_true, List.set_cons_zero, List.set_cons_succ, Fin.isValue, Fin.val_zero, Fin.val_one, Fin.val_two, Fin.reduceFinMk, Nat.zero_add, hp_0, hp_1, hp_2, hp_3, hp_4, hp_5, hp_6, hp_7, hp_8, hp_9, hp_10, hp_11, hp_12, hp_13, hp_14, hp_15, hp_16, hp_17, hp_18, hp_19, hp_20, hp_21, hp_22, hp_23, hp_24, hp_25, hp_26, hp_27, hp_28, hp_29, hp_30, hp_31, hp_32, hp_33, hp_34, hp_35, hp_36, hp_37, hp_38, hp_39, hp_40, hp_41, hp_42, hp_43, hp_44, hp_45, hp_46, hp_47, hp_48, hp_49, hp_50, hp_51, hp_52, hp_53, hp_54, hp_55, hp_56, hp_57, hp_58, hp_59, hp_60, hp_61, hp_62, hp_63, hp_64, hp_65, hp_66, hp_67, hp_68, hp_69, hp_70, hp_71, hp_72, hp_73, hp_74, og_0_0, og_0_1, og_0_2, og_0_3, og_0_4, og_0_5, og_0_6, og_0_7, og_0_8, og_0_9, og_0_10, og_0_11, og_0_12, og_0_13, ol_0, og_2_0, og_2_1, og_2_2, og_2_3, og_2_4, og_2_5, og_2_6, ol_2, og_3_0, og_3_1, ol_3, og_5_0, og_5_1, ol_5, og_9_0, og_9_1, og_9_2, og_9_3, og_9_4, og_9_5, og_9_6, ol_9, og_10_0, og_10_1, ol_10, og_12_0, og_12_1, ol_12, og_16_0, og_16_1, og_16_2, ol_16, og_17_0, og_17_1, ol_17, og_21_0, og_21_1, og_21_2, og_21_3, og_21_4, ol_21, og_27_0, og_27_1, og_27_2, og_27_3, og_27_4, og_27_5, og_27_6, og_27_7, og_27_8, og_27_9, og_27_10, ol_27, og_35_0, og_35_1, ol_35, og_37_0, og_37_1, ol_37, og_39_0, og_39_1, ol_39, og_41_0, og_41_1, ol_41, og_43_0, og_43_1, ol_43, og_45_0, og_45_1, ol_45, og_47_0, og_47_1, ol_47, og_49_0, og_49_1, og_49_2, og_49_3, ol_49, og_53_0, og_53_1, ol_53, og_55_0, og_55_1, ol_55, og_57_0, og_57_1, ol_57, og_59_0, og_59_1, ol_59, og_61_0, og_61_1, ol_61, og_63_0, og_63_1, ol_63, og_65_0, og_65_1, og_65_2, ol_65, og_66_0, og_66_1, ol_66, og_70_0, og_70_1, og_70_2, ol_70, og_71_0, og_71_1, ol_71, uo_0_1, uo_0_4, uo_0_8, ua_1, uo_2_0, uo_2_1, uo_2_2, uo_3_1, ua_4, uo_5_1, ua_6, ua_7, ua_8, uo_9_0, uo_9_1, uo_9_2, uo_10_1, ua_11, uo_12_1, ua_13, ua_14, ua_15, uo_17_1, ua_18, ua_19, ua_20, uo_21_4, ua_22, ua_23, ua_24, ua_25, uo_27_2, uo_27_6, uo_27_7, uo_27_8, ua_28, ua_29, ua_31, ua_32, ua_33, ua_34, uo_35_1, ua_36, uo_37_1, ua_38, uo_39_1, ua_40, uo_41_1, ua_42, uo_43_1, ua_44, uo_45_1, ua_46, uo_47_1, ua_48, uo_49_3, ua_51, ua_52, uo_53_1, ua_54, uo_55_1, ua_56, uo_57_1, ua_58, uo_59_1, ua_60, uo_61_1, ua_62, uo_63_1, ua_64, uo_66_1, ua_67, ua_68, ua_69, uo_71_1, ua_72, ua_73, ua_74, sO_g, sA_g, sA_O, sO_A, sO_2, sC_1, sC_2, sC_3, sC_4, sC_5, sC_6, sW_1, sW_2, sW_3, sW_4, uc_0, b01_f, nu_fitI, nu_fitL, nu_fitO, nu_fitA, nu_fitB0, nu_fitB1]
      exact ⟨fun c => absurd trivial c, fun _ => ⟨rfl, s, rfl, hC0, agM.rf⟩⟩
    · obtain ⟨j, hj, rfl⟩ := isB_t (by omega) hc
      (try simp only [Option.toList_some, Option.toList_none, List.nil_append, List.append_nil, List.cons_append, Nat.sub_zero, Nat.sub_self, Nat.zero_sub]); refine Go.wp sp_63 200 ?_; simp only [↓g63_0, ↓g63_1, ↓g63_2, ↓g63_5, ↓g63_8, ↓g63_9, ↓g63_10, ↓g63_13, ↓g63_16, ↓g63_17, ↓g63_18, ↓g63_19, ↓g63_22, ↓g63_25, ↓g63_26, ↓g63_29, ↓g63_30, ↓g63_31, ↓g63_34, ↓g63_37, ↓g63_38, ↓g63_41, ↓g63_43, ↓g63_45, ↓g63_47, ↓g63_50, ↓g63_52, ↓g63_53, ↓g63_54, ↓g63_57, ↓g63_59, ↓g63_60, ↓g63_62, ↓g63_64, ↓g63_67, ↓g63_68, ↓g63_71, ↓g63_74, ↓g63_76, ↓g63_77, ↓g63_78, ↓g63_79, ↓g63_82, ↓g63_85, ↓g63_87, ↓g63_88, ↓g63_89, ↓g63_91, cl_1, cl_40, cl_41, cl_85, cl_86, cn_0, cn_1, cn_2, cn_3, cn_4, cn_5, cn_6, cn_7, cn_8, ↓Go_s, ↓GoC_a, ↓reduceIte, ↓mm_call_eq, ↓mmw_nil, ↓mmw_cons, List.take_succ_cons, List.take_zero, List.take_nil, List.drop_succ_cons, List.drop_zero, List.drop_nil, List.reverse_cons, List.reverse_nil, List.nil_append, List.cons_append, List.append_nil, Option.toList_some, Option.toList_none, Nat.sub_zero, Nat.le_refl, mmr_cons, mm_st1, mm_st2, mmi_nil, mmi_cons, mmc_I, mmc_L, mmc_R, mmu_get, mmu_one, mma_get, mma_one, List.filter_cons, List.filter_nil, List.contains_cons, List.contains_nil, Nat.reduceBEq, Nat.reduceAdd, Nat.reduceLT, Nat.reduceSub, Nat.reduceLeDiff, Nat.reduceEqDiff, Int32.reduceAdd, Bool.not_true, Bool.not_false, Bool.and_true, Bool.true_and, Bool.and_false, Bool.false_and, Bool.or_false, Bool.false_or, Bool.or_true, Bool.true_or, if_true, if_false, ite_true, ite_false, Bool.false_eq_true, List.getElem?_cons_zero, List.getElem?_cons_succ, List.length_cons, List.length_nil, true_and, and_true, List.set_cons_zero, List.set_cons_succ, Fin.isValue, Fin.val_zero, Fin.val_one, Fin.val_two, Fin.reduceFinMk, Nat.zero_add, hp_0, hp_1, hp_2, hp_3, hp_4, hp_5, hp_6, hp_7, hp_8, hp_9, hp_10, hp_11, hp_12, hp_13, hp_14, hp_15, hp_16, hp_17, hp_18, hp_19, hp_20, hp_21, hp_22, hp_23, hp_24, hp_25, hp_26, hp_27, hp_28, hp_29, hp_30, hp_31, hp_32, hp_33, hp_34, hp_35, hp_36, hp_37, hp_38, hp_39, hp_40, hp_41, hp_42, hp_43, hp_44, hp_45, hp_46, hp_47, hp_48, hp_49, hp_50, hp_51, hp_52, hp_53, hp_54, hp_55, hp_56, hp_57, hp_58, hp_59, hp_60, hp_61, hp_62, hp_63, hp_64, hp_65, hp_66, hp_67, hp_68, hp_69, hp_70, hp_71, hp_72, hp_73, hp_74, og_0_0, og_0_1, og_0_2, og_0_3, og_0_4, og_0_5, og_0_6, og_0_7, og_0_8, og_0_9, og_0_10, og_0_11, og_0_12, og_0_13, ol_0, og_2_0, og_2_1, og_2_2, og_2_3, og_2_4, og_2_5, og_2_6, ol_2, og_3_0, og_3_1, ol_3, og_5_0, og_5_1, ol_5, og_9_0, og_9_1, og_9_2, og_9_3, og_9_4, og_9_5, og_9_6, ol_9, og_10_0, og_10_1, ol_10, og_12_0, og_12_1, ol_12, og_16_0, og_16_1, og_16_2, ol_16, og_17_0, og_17_1, ol_17, og_21_0, og_21_1, og_21_2, og_21_3, og_21_4, ol_21, og_27_0, og_27_1, og_27_2, og_27_3, og_27_4, og_27_5, og_27_6, og_27_7, og_27_8, og_27_9, og_27_10, ol_27, og_35_0, og_35_1, ol_35, og_37_0, og_37_1, ol_37, og_39_0, og_39_1, ol_39, og_41_0, og_41_1, ol_41, og_43_0, og_43_1, ol_43, og_45_0, og_45_1, ol_45, og_47_0, og_47_1, ol_47, og_49_0, og_49_1, og_49_2, og_49_3, ol_49, og_53_0, og_53_1, ol_53, og_55_0, og_55_1, ol_55, og_57_0, og_57_1, ol_57, og_59_0, og_59_1, ol_59, og_61_0, og_61_1, ol_61, og_63_0, og_63_1, ol_63, og_65_0, og_65_1, og_65_2, ol_65, og_66_0, og_66_1, ol_66, og_70_0, og_70_1, og_70_2, ol_70, og_71_0, og_71_1, ol_71, uo_0_1, uo_0_4, uo_0_8, ua_1, uo_2_0, uo_2_1, uo_2_2, uo_3_1, ua_4, uo_5_1, ua_6, ua_7, ua_8, uo_9_0, uo_9_1, uo_9_2, uo_10_1, ua_11, uo_12_1, ua_13, ua_14, ua_15, uo_17_1, ua_18, ua_19, ua_20, uo_21_4, ua_22, ua_23, ua_24, ua_25, uo_27_2, uo_27_6, uo_27_7, uo_27_8, ua_28, ua_29, ua_31, ua_32, ua_33, ua_34, uo_35_1, ua_36, uo_37_1, ua_38, uo_39_1, ua_40, uo_41_1, ua_42, uo_43_1, ua_44, uo_45_1, ua_46, uo_47_1, ua_48, uo_49_3, ua_51, ua_52, uo_53_1, ua_54, uo_55_1, ua_56, uo_57_1, ua_58, uo_59_1, ua_60, uo_61_1, ua_62, uo_63_1, ua_64, uo_66_1, ua_67, ua_68, ua_69, uo_71_1, ua_72, ua_73, ua_74, sO_g, sA_g, sA_O, sO_A, sO_2, sC_1, sC_2, sC_3, sC_4, sC_5, sC_6, sW_1, sW_2, sW_3, sW_4, uc_0, b01_t, nu_fitI, nu_fitL, nu_fitO, nu_fitA, nu_fitB0, nu_fitB1]
      refine ⟨fun _ => ⟨0, 0, _, Nat.le_refl _, Nat.le_refl _, c_placeGivenFor (d := d) (rs_17 h4.1) (by omega), fun z h' hz => ?_⟩, fun c => absurd c (by decide)⟩
      obtain ⟨rfl, rfl⟩ := hz
      rw [nI_clamp (by omega), nI_clamp (by omega)]
      by_cases hm : j ∈ (gDk g).1
      · rw [if_pos hm, if_pos hm]
        have hlt := idx_lt hm
        have hp : ((gDk g).1.idxOf j + 1) % (gDk g).1.length < (gDk g).1.length := Nat.mod_lt _ (by omega)
        have hgm : tG (gDk g).1 j ∈ (gDk g).1 := tG_mem hm
        have hg8 : tG (gDk g).1 j < 8 := hs8 _ hgm
        (try simp only [Option.toList_some, Option.toList_none, List.nil_append, List.append_nil, List.cons_append, Nat.sub_zero, Nat.sub_self, Nat.zero_sub]); refine Go.wp sp_63 200 ?_; simp only [↓g63_0, ↓g63_1, ↓g63_2, ↓g63_5, ↓g63_8, ↓g63_9, ↓g63_10, ↓g63_13, ↓g63_16, ↓g63_17, ↓g63_18, ↓g63_19, ↓g63_22, ↓g63_25, ↓g63_26, ↓g63_29, ↓g63_30, ↓g63_31, ↓g63_34, ↓g63_37, ↓g63_38, ↓g63_41, ↓g63_43, ↓g63_45, ↓g63_47, ↓g63_50, ↓g63_52, ↓g63_53, ↓g63_54, ↓g63_57, ↓g63_59, ↓g63_60, ↓g63_62, ↓g63_64, ↓g63_67, ↓g63_68, ↓g63_71, ↓g63_74, ↓g63_76, ↓g63_77, ↓g63_78, ↓g63_79, ↓g63_82, ↓g63_85, ↓g63_87, ↓g63_88, ↓g63_89, ↓g63_91, cl_1, cl_40, cl_41, cl_85, cl_86, cn_0, cn_1, cn_2, cn_3, cn_4, cn_5, cn_6, cn_7, cn_8, ↓Go_s, ↓GoC_a, ↓reduceIte, ↓mm_call_eq, ↓mmw_nil, ↓mmw_cons, List.take_succ_cons, List.take_zero, List.take_nil, List.drop_succ_cons, List.drop_zero, List.drop_nil, List.reverse_cons, List.reverse_nil, List.nil_append, List.cons_append, List.append_nil, Option.toList_some, Option.toList_none, Nat.sub_zero, Nat.le_refl, mmr_cons, mm_st1, mm_st2, mmi_nil, mmi_cons, mmc_I, mmc_L, mmc_R, mmu_get, mmu_one, mma_get, mma_one, List.filter_cons, List.filter_nil, List.contains_cons, List.contains_nil, Nat.reduceBEq, Nat.reduceAdd, Nat.reduceLT, Nat.reduceSub, Nat.reduceLeDiff, Nat.reduceEqDiff, Int32.reduceAdd, Bool.not_true, Bool.not_false, Bool.and_true, Bool.true_and, Bool.and_false, Bool.false_and, Bool.or_false, Bool.false_or, Bool.or_true, Bool.true_or, if_true, if_false, ite_true, ite_false, Bool.false_eq_true, List.getElem?_cons_zero, List.getElem?_cons_succ, List.length_cons, List.length_nil, true_and, and_true, List.set_cons_zero, List.set_cons_succ, Fin.isValue, Fin.val_zero, Fin.val_one, Fin.val_two, Fin.reduceFinMk, Nat.zero_add, hp_0, hp_1, hp_2, hp_3, hp_4, hp_5, hp_6, hp_7, hp_8, hp_9, hp_10, hp_11, hp_12, hp_13, hp_14, hp_15, hp_16, hp_17, hp_18, hp_19, hp_20, hp_21, hp_22, hp_23, hp_24, hp_25, hp_26, hp_27, hp_28, hp_29, hp_30, hp_31, hp_32, hp_33, hp_34, hp_35, hp_36, hp_37, hp_38, hp_39, hp_40, hp_41, hp_42, hp_43, hp_44, hp_45, hp_46, hp_47, hp_48, hp_49, hp_50, hp_51, hp_52, hp_53, hp_54, hp_55, hp_56, hp_57, hp_58, hp_59, hp_60, hp_61, hp_62, hp_63, hp_64, hp_65, hp_66, hp_67, hp_68, hp_69, hp_70, hp_71, hp_72, hp_73, hp_74, og_0_0, og_0_1, og_0_2, og_0_3, og_0_4, og_0_5, og_0_6, og_0_7, og_0_8, og_0_9, og_0_10, og_0_11, og_0_12, og_0_13, ol_0, og_2_0, og_2_1, og_2_2, og_2_3, og_2_4, og_2_5, og_2_6, ol_2, og_3_0, og_3_1, ol_3, og_5_0, og_5_1, ol_5, og_9_0, og_9_1, og_9_2, og_9_3, og_9_4, og_9_5, og_9_6, ol_9, og_10_0, og_10_1, ol_10, og_12_0, og_12_1, ol_12, og_16_0, og_16_1, og_16_2, ol_16, og_17_0, og_17_1, ol_17, og_21_0, og_21_1, og_21_2, og_21_3, og_21_4, ol_21, og_27_0, og_27_1, og_27_2, og_27_3, og_27_4, og_27_5, og_27_6, og_27_7, og_27_8, og_27_9, og_27_10, ol_27, og_35_0, og_35_1, ol_35, og_37_0, og_37_1, ol_37, og_39_0, og_39_1, ol_39, og_41_0, og_41_1, ol_41, og_43_0, og_43_1, ol_43, og_45_0, og_45_1, ol_45, og_47_0, og_47_1, ol_47, og_49_0, og_49_1, og_49_2, og_49_3, ol_49, og_53_0, og_53_1, ol_53, og_55_0, og_55_1, ol_55, og_57_0, og_57_1, ol_57, og_59_0, og_59_1, ol_59, og_61_0, og_61_1, ol_61, og_63_0, og_63_1, ol_63, og_65_0, og_65_1, og_65_2, ol_65, og_66_0, og_66_1, ol_66, og_70_0, og_70_1, og_70_2, ol_70, og_71_0, og_71_1, ol_71, uo_0_1, uo_0_4, uo_0_8, ua_1, uo_2_0, uo_2_1, uo_2_2, uo_3_1, ua_4, uo_5_1, ua_6, ua_7, ua_8, uo_9_0, uo_9_1, uo_9_2, uo_10_1, ua_11, uo_12_1, ua_13, ua_14, ua_15, uo_17_1, ua_18, ua_19, ua_20, uo_21_4, ua_22, ua_23, ua_24, ua_25, uo_27_2, uo_27_6, uo_27_7, uo_27_8, ua_28, ua_29, ua_31, ua_32, ua_33, ua_34, uo_35_1, ua_36, uo_37_1, ua_38, uo_39_1, ua_40, uo_41_1, ua_42, uo_43_1, ua_44, uo_45_1, ua_46, uo_47_1, ua_48, uo_49_3, ua_51, ua_52, uo_53_1, ua_54, uo_55_1, ua_56, uo_57_1, ua_58, uo_59_1, ua_60, uo_61_1, ua_62, uo_63_1, ua_64, uo_66_1, ua_67, ua_68, ua_69, uo_71_1, ua_72, ua_73, ua_74, sO_g, sA_g, sA_O, sO_A, sO_2, sC_1, sC_2, sC_3, sC_4, sC_5, sC_6, sW_1, sW_2, sW_3, sW_4, uc_0, nu_fitI, nu_fitL, nu_fitO, nu_fitA, nu_fitB0, nu_fitB1]
        refine ⟨0, 0, _, Nat.le_refl _, Nat.le_refl _, c_takeAt (d := d + 1) (rs_17 h4.1) (by omega) hp, fun z h' hz => ?_⟩
        obtain ⟨rfl, hx, hf⟩ := hz
        obtain ⟨f, rfl, q3, q4, q5⟩ := rb_17 hf hx
        rw [show (gDk g).1.getD (((gDk g).1.idxOf j + 1) % (gDk g).1.length) 0 = tG (gDk g).1 j from rfl]
        have hne : ¬ nI (tG (gDk g).1 j) = mI 9 := by rw [nu_m (by omega) (by omega) (by omega)]; exact not_false
        (try simp only [Option.toList_some, Option.toList_none, List.nil_append, List.append_nil, List.cons_append, Nat.sub_zero, Nat.sub_self, Nat.zero_sub]); refine Go.wp sp_63 200 ?_; simp only [↓g63_0, ↓g63_1, ↓g63_2, ↓g63_5, ↓g63_8, ↓g63_9, ↓g63_10, ↓g63_13, ↓g63_16, ↓g63_17, ↓g63_18, ↓g63_19, ↓g63_22, ↓g63_25, ↓g63_26, ↓g63_29, ↓g63_30, ↓g63_31, ↓g63_34, ↓g63_37, ↓g63_38, ↓g63_41, ↓g63_43, ↓g63_45, ↓g63_47, ↓g63_50, ↓g63_52, ↓g63_53, ↓g63_54, ↓g63_57, ↓g63_59, ↓g63_60, ↓g63_62, ↓g63_64, ↓g63_67, ↓g63_68, ↓g63_71, ↓g63_74, ↓g63_76, ↓g63_77, ↓g63_78, ↓g63_79, ↓g63_82, ↓g63_85, ↓g63_87, ↓g63_88, ↓g63_89, ↓g63_91, cl_1, cl_40, cl_41, cl_85, cl_86, cn_0, cn_1, cn_2, cn_3, cn_4, cn_5, cn_6, cn_7, cn_8, ↓Go_s, ↓GoC_a, ↓reduceIte, ↓mm_call_eq, ↓mmw_nil, ↓mmw_cons, List.take_succ_cons, List.take_zero, List.take_nil, List.drop_succ_cons, List.drop_zero, List.drop_nil, List.reverse_cons, List.reverse_nil, List.nil_append, List.cons_append, List.append_nil, Option.toList_some, Option.toList_none, Nat.sub_zero, Nat.le_refl, mmr_cons, mm_st1, mm_st2, mmi_nil, mmi_cons, mmc_I, mmc_L, mmc_R, mmu_get, mmu_one, mma_get, mma_one, List.filter_cons, List.filter_nil, List.contains_cons, List.contains_nil, Nat.reduceBEq, Nat.reduceAdd, Nat.reduceLT, Nat.reduceSub, Nat.reduceLeDiff, Nat.reduceEqDiff, Int32.reduceAdd, Bool.not_true, Bool.not_false, Bool.and_true, Bool.true_and, Bool.and_false, Bool.false_and, Bool.or_false, Bool.false_or, Bool.or_true, Bool.true_or, if_true, if_false, ite_true, ite_false, Bool.false_eq_true, List.getElem?_cons_zero, List.getElem?_cons_succ, List.length_cons, List.length_nil, true_and, and_true, List.set_cons_zero, List.set_cons_succ, Fin.isValue, Fin.val_zero, Fin.val_one, Fin.val_two, Fin.reduceFinMk, Nat.zero_add, hp_0, hp_1, hp_2, hp_3, hp_4, hp_5, hp_6, hp_7, hp_8, hp_9, hp_10, hp_11, hp_12, hp_13, hp_14, hp_15, hp_16, hp_17, hp_18, hp_19, hp_20, hp_21, hp_22, hp_23, hp_24, hp_25, hp_26, hp_27, hp_28, hp_29, hp_30, hp_31, hp_32, hp_33, hp_34, hp_35, hp_36, hp_37, hp_38, hp_39, hp_40, hp_41, hp_42, hp_43, hp_44, hp_45, hp_46, hp_47, hp_48, hp_49, hp_50, hp_51, hp_52, hp_53, hp_54, hp_55, hp_56, hp_57, hp_58, hp_59, hp_60, hp_61, hp_62, hp_63, hp_64, hp_65, hp_66, hp_67, hp_68, hp_69, hp_70, hp_71, hp_72, hp_73, hp_74, og_0_0, og_0_1, og_0_2, og_0_3, og_0_4, og_0_5, og_0_6, og_0_7, og_0_8, og_0_9, og_0_10, og_0_11, og_0_12, og_0_13, ol_0, og_2_0, og_2_1, og_2_2, og_2_3, og_2_4, og_2_5, og_2_6, ol_2, og_3_0, og_3_1, ol_3, og_5_0, og_5_1, ol_5, og_9_0, og_9_1, og_9_2, og_9_3, og_9_4, og_9_5, og_9_6, ol_9, og_10_0, og_10_1, ol_10, og_12_0, og_12_1, ol_12, og_16_0, og_16_1, og_16_2, ol_16, og_17_0, og_17_1, ol_17, og_21_0, og_21_1, og_21_2, og_21_3, og_21_4, ol_21, og_27_0, og_27_1, og_27_2, og_27_3, og_27_4, og_27_5, og_27_6, og_27_7, og_27_8, og_27_9, og_27_10, ol_27, og_35_0, og_35_1, ol_35, og_37_0, og_37_1, ol_37, og_39_0, og_39_1, ol_39, og_41_0, og_41_1, ol_41, og_43_0, og_43_1, ol_43, og_45_0, og_45_1, ol_45, og_47_0, og_47_1, ol_47, og_49_0, og_49_1, og_49_2, og_49_3, ol_49, og_53_0, og_53_1, ol_53, og_55_0, og_55_1, ol_55, og_57_0, og_57_1, ol_57, og_59_0, og_59_1, ol_59, og_61_0, og_61_1, ol_61, og_63_0, og_63_1, ol_63, og_65_0, og_65_1, og_65_2, ol_65, og_66_0, og_66_1, ol_66, og_70_0, og_70_1, og_70_2, ol_70, og_71_0, og_71_1, ol_71, uo_0_1, uo_0_4, uo_0_8, ua_1, uo_2_0, uo_2_1, uo_2_2, uo_3_1, ua_4, uo_5_1, ua_6, ua_7, ua_8, uo_9_0, uo_9_1, uo_9_2, uo_10_1, ua_11, uo_12_1, ua_13, ua_14, ua_15, uo_17_1, ua_18, ua_19, ua_20, uo_21_4, ua_22, ua_23, ua_24, ua_25, uo_27_2, uo_27_6, uo_27_7, uo_27_8, ua_28, ua_29, ua_31, ua_32, ua_33, ua_34, uo_35_1, ua_36, uo_37_1, ua_38, uo_39_1, ua_40, uo_41_1, ua_42, uo_43_1, ua_44, uo_45_1, ua_46, uo_47_1, ua_48, uo_49_3, ua_51, ua_52, uo_53_1, ua_54, uo_55_1, ua_56, uo_57_1, ua_58, uo_59_1, ua_60, uo_61_1, ua_62, uo_63_1, ua_64, uo_66_1, ua_67, ua_68, ua_69, uo_71_1, ua_72, ua_73, ua_74, sO_g, sA_g, sA_O, sO_A, sO_2, sC_1, sC_2, sC_3, sC_4, sC_5, sC_6, sW_1, sW_2, sW_3, sW_4, uc_0, nu_fitI, nu_fitL, nu_fitO, nu_fitA, nu_fitB0, nu_fitB1]
        refine ⟨fun _ => ⟨0, 0, _, Nat.le_refl _, Nat.le_refl _, C_add (d := d) (s := sO (sA s 18 f) 17 1 _) (n := (gAc g).length) h5.1 hac _ _ _ _, fun z h' hz => ?_⟩, fun c => absurd c hne⟩
        obtain ⟨rfl, s2, rfl, a2, e1, e2, e3⟩ := hz
        (try simp only [Option.toList_some, Option.toList_none, List.nil_append, List.append_nil, List.cons_append, Nat.sub_zero, Nat.sub_self, Nat.zero_sub]); refine Go.wp sp_63 200 ?_; simp only [↓g63_0, ↓g63_1, ↓g63_2, ↓g63_5, ↓g63_8, ↓g63_9, ↓g63_10, ↓g63_13, ↓g63_16, ↓g63_17, ↓g63_18, ↓g63_19, ↓g63_22, ↓g63_25, ↓g63_26, ↓g63_29, ↓g63_30, ↓g63_31, ↓g63_34, ↓g63_37, ↓g63_38, ↓g63_41, ↓g63_43, ↓g63_45, ↓g63_47, ↓g63_50, ↓g63_52, ↓g63_53, ↓g63_54, ↓g63_57, ↓g63_59, ↓g63_60, ↓g63_62, ↓g63_64, ↓g63_67, ↓g63_68, ↓g63_71, ↓g63_74, ↓g63_76, ↓g63_77, ↓g63_78, ↓g63_79, ↓g63_82, ↓g63_85, ↓g63_87, ↓g63_88, ↓g63_89, ↓g63_91, cl_1, cl_40, cl_41, cl_85, cl_86, cn_0, cn_1, cn_2, cn_3, cn_4, cn_5, cn_6, cn_7, cn_8, ↓Go_s, ↓GoC_a, ↓reduceIte, ↓mm_call_eq, ↓mmw_nil, ↓mmw_cons, List.take_succ_cons, List.take_zero, List.take_nil, List.drop_succ_cons, List.drop_zero, List.drop_nil, List.reverse_cons, List.reverse_nil, List.nil_append, List.cons_append, List.append_nil, Option.toList_some, Option.toList_none, Nat.sub_zero, Nat.le_refl, mmr_cons, mm_st1, mm_st2, mmi_nil, mmi_cons, mmc_I, mmc_L, mmc_R, mmu_get, mmu_one, mma_get, mma_one, List.filter_cons, List.filter_nil, List.contains_cons, List.contains_nil, Nat.reduceBEq, Nat.reduceAdd, Nat.reduceLT, Nat.reduceSub, Nat.reduceLeDiff, Nat.reduceEqDiff, Int32.reduceAdd, Bool.not_true, Bool.not_false, Bool.and_true, Bool.true_and, Bool.and_false, Bool.false_and, Bool.or_false, Bool.false_or, Bool.or_true, Bool.true_or, if_true, if_false, ite_true, ite_false, Bool.false_eq_true, List.getElem?_cons_zero, List.getElem?_cons_succ, List.length_cons, List.length_nil, true_and, and_true, List.set_cons_zero, List.set_cons_succ, Fin.isValue, Fin.val_zero, Fin.val_one, Fin.val_two, Fin.reduceFinMk, Nat.zero_add, hp_0, hp_1, hp_2, hp_3, hp_4, hp_5, hp_6, hp_7, hp_8, hp_9, hp_10, hp_11, hp_12, hp_13, hp_14, hp_15, hp_16, hp_17, hp_18, hp_19, hp_20, hp_21, hp_22, hp_23, hp_24, hp_25, hp_26, hp_27, hp_28, hp_29, hp_30, hp_31, hp_32, hp_33, hp_34, hp_35, hp_36, hp_37, hp_38, hp_39, hp_40, hp_41, hp_42, hp_43, hp_44, hp_45, hp_46, hp_47, hp_48, hp_49, hp_50, hp_51, hp_52, hp_53, hp_54, hp_55, hp_56, hp_57, hp_58, hp_59, hp_60, hp_61, hp_62, hp_63, hp_64, hp_65, hp_66, hp_67, hp_68, hp_69, hp_70, hp_71, hp_72, hp_73, hp_74, og_0_0, og_0_1, og_0_2, og_0_3, og_0_4, og_0_5, og_0_6, og_0_7, og_0_8, og_0_9, og_0_10, og_0_11, og_0_12, og_0_13, ol_0, og_2_0, og_2_1, og_2_2, og_2_3, og_2_4, og_2_5, og_2_6, ol_2, og_3_0, og_3_1, ol_3, og_5_0, og_5_1, ol_5, og_9_0, og_9_1, og_9_2, og_9_3, og_9_4, og_9_5, og_9_6, ol_9, og_10_0, og_10_1, ol_10, og_12_0, og_12_1, ol_12, og_16_0, og_16_1, og_16_2, ol_16, og_17_0, og_17_1, ol_17, og_21_0, og_21_1, og_21_2, og_21_3, og_21_4, ol_21, og_27_0, og_27_1, og_27_2, og_27_3, og_27_4, og_27_5, og_27_6, og_27_7, og_27_8, og_27_9, og_27_10, ol_27, og_35_0, og_35_1, ol_35, og_37_0, og_37_1, ol_37, og_39_0, og_39_1, ol_39, og_41_0, og_41_1, ol_41, og_43_0, og_43_1, ol_43, og_45_0, og_45_1, ol_45, og_47_0, og_47_1, ol_47, og_49_0, og_49_1, og_49_2, og_49_3, ol_49, og_53_0, og_53_1, ol_53, og_55_0, og_55_1, ol_55, og_57_0, og_57_1, ol_57, og_59_0, og_59_1, ol_59, og_61_0, og_61_1, ol_61, og_63_0, og_63_1, ol_63, og_65_0, og_65_1, og_65_2, ol_65, og_66_0, og_66_1, ol_66, og_70_0, og_70_1, og_70_2, ol_70, og_71_0, og_71_1, ol_71, uo_0_1, uo_0_4, uo_0_8, ua_1, uo_2_0, uo_2_1, uo_2_2, uo_3_1, ua_4, uo_5_1, ua_6, ua_7, ua_8, uo_9_0, uo_9_1, uo_9_2, uo_10_1, ua_11, uo_12_1, ua_13, ua_14, ua_15, uo_17_1, ua_18, ua_19, ua_20, uo_21_4, ua_22, ua_23, ua_24, ua_25, uo_27_2, uo_27_6, uo_27_7, uo_27_8, ua_28, ua_29, ua_31, ua_32, ua_33, ua_34, uo_35_1, ua_36, uo_37_1, ua_38, uo_39_1, ua_40, uo_41_1, ua_42, uo_43_1, ua_44, uo_45_1, ua_46, uo_47_1, ua_48, uo_49_3, ua_51, ua_52, uo_53_1, ua_54, uo_55_1, ua_56, uo_57_1, ua_58, uo_59_1, ua_60, uo_61_1, ua_62, uo_63_1, ua_64, uo_66_1, ua_67, ua_68, ua_69, uo_71_1, ua_72, ua_73, ua_74, sO_g, sA_g, sA_O, sO_A, sO_2, sC_1, sC_2, sC_3, sC_4, sC_5, sC_6, sW_1, sW_2, sW_3, sW_4, uc_0, nu_fitI, nu_fitL, nu_fitO, nu_fitA, nu_fitB0, nu_fitB1]
        simp (disch := omega) only [lit_0, lit_1, lit_2, lit_3, lit_4, lit_5, lit_6, lit_7, lit_8, lit_9, lit_10, lit_16, lit_40, lit_48, lit_60, lit_67, lit_76, lit_82, lit_99, lit_100, lit_255, lit_508, lit_720, lit_1023, nI_1, nI_add, pk_sub, pk_mul, pk_div, nu_rem2, nI_clamp, nu_m, nu_m', nu_lm, nu_ml, nu_ltm, nu_mlt, nu_mm, nu_dec, nu_in, nu_le, nu_lt, nu_eq, true_and, and_true, false_imp_iff, true_imp_iff, not_true_eq_false, not_false_eq_true, Nat.not_lt_zero, Nat.zero_le, Nat.le_refl, Nat.lt_irrefl, Nat.reduceEqDiff, Nat.reduceLT, Nat.reduceLeDiff, Nat.reduceAdd, Nat.reduceSub, Nat.reduceMul, Nat.reduceMod, Nat.reduceDiv, Nat.one_ne_zero, Nat.zero_ne_one, ft_0_0, ft_0_1, ft_0_2, ft_0_3, ft_0_4, ft_1_0, ft_1_1, ft_1_2, ft_2_0, ft_2_1, ft_2_2, ft_2_3, ft_2_4, ft_2_5, ft_2_6, ft_2_7, ft_2_8, ft_2_9, ft_2_10, ft_3_0, ft_3_1, ft_3_2, ft_3_3, ft_4_0, ft_4_1, ft_4_2, ft_4_3, ft_4_4, ft_4_5, ft_4_6, ft_5_0, ft_5_1, ft_6_0, ft_6_1, ft_6_2, ft_6_3, ft_6_4, ft_6_5, ft_6_6, ft_7_0, ft_7_1, ft_7_2, ft_7_3, ft_7_4, ft_7_5, ft_7_6, ft_7_7, ft_7_8, ft_7_9, ft_7_10, ft_7_11, ft_7_12, ft_7_13, ft_8_0, ft_8_1, ft_8_2, ft_8_3, ft_8_4, ft_8_5, ft_8_6, ft_8_7, ft_8_8, ft_8_9, ft_8_10, ft_8_11, ft_8_12, ft_8_13, ft_8_14, ft_8_15, ft_8_16, ft_8_17, ft_8_18, ft_8_19, ft_8_20, ft_8_21, ft_8_22, ft_8_23, ft_8_24, ft_8_25, ft_8_26, ft_8_27, ft_8_28, ft_8_29, ft_8_30, ft_8_31, ft_8_32, ft_8_33, ft_8_34, ft_8_35, ft_8_36, ft_8_37, ft_8_38, ft_8_39, ft_8_40, ft_8_41, nu_fitI, nu_fitL, nu_fitO, nu_fitA, nu_fitB0, nu_fitB1]
        refine ⟨by omega, by omega, rfl, _, rfl, ?_, ?_⟩
        · have el : ((gDk g).1.eraseIdx (((gDk g).1.idxOf j + 1) % (gDk g).1.length)).length = (gDk g).1.length - 1 := List.length_eraseIdx_of_lt hp
          have hr : RS s2 17 18 ((gDk g).1.eraseIdx (((gDk g).1.idxOf j + 1) % (gDk g).1.length)) := RS.ag (s := sO (sA s 18 f) 17 1 _) ⟨rfl, q3, q4, q5⟩ (a2.1 17 (by simp)).2 (a2.1 18 (by simp)).1
          have h19 : s2.1 19 = s.1 19 := (a2.1 19 (by simp)).1
          have h20 : s2.1 20 = s.1 20 := (a2.1 20 (by simp)).1
          refine hC0.fin (S := [17, 18, 19, 20, 21, 22, 23, 24, 25]) (((AG.sA (by simp)).tr (AG.sO (by simp))).tr ((a2.mono (by simp)).tr ((AG.sA (by simp)).tr (AG.sA (by simp))))) (by simp) ⟨hr, fun b hb => ⟨?_, ?_⟩⟩ ⟨?_, ?_⟩
          · show upd (s2.1 19) (tG (gDk g).1 j) (nI i) b = upd (gDk g).2.1 (tG (gDk g).1 j) (nI i) b
            rw [h19]
            exact upd_eq (fun b hb => (h4.2 b hb).1) b hb
          · show upd (s2.1 20) (tG (gDk g).1 j) (nI j) b = upd (gDk g).2.2 (tG (gDk g).1 j) (nI j) b
            rw [h20]
            exact upd_eq (fun b hb => (h4.2 b hb).2) b hb
          · rw [pushA_len hac]
            refine e1.trans ?_
            split <;> rfl
          · have h9 := hD.2.2.1 _ hg8 (Or.inl hgm)
            refine h5.2.push hac hg8 ⟨e2.1, e2.2.1, e2.2.2.1.trans h9.1.symm, e2.2.2.2.trans h9.2.symm⟩ e3 (fun q hq hne => ⟨(if_neg hne).symm, (if_neg hne).symm⟩) (Or.inl ⟨h9.1, ?_, ?_, (erase_ins hp).symm⟩)
            · show _ ≤ ((gDk g).1.eraseIdx _).length
              omega
            · show ((gDk g).1.eraseIdx _).length < 8
              omega
        · exact ((agM.sA (by omega)).tr (agM.sO (by omega))).tr ((a2.agM (by simp)).tr ((agM.sA (by omega)).tr (agM.sA (by omega))))
      · rw [if_neg hm, if_neg hm]
        (try simp only [Option.toList_some, Option.toList_none, List.nil_append, List.append_nil, List.cons_append, Nat.sub_zero, Nat.sub_self, Nat.zero_sub]); refine Go.wp sp_63 200 ?_; simp only [↓g63_0, ↓g63_1, ↓g63_2, ↓g63_5, ↓g63_8, ↓g63_9, ↓g63_10, ↓g63_13, ↓g63_16, ↓g63_17, ↓g63_18, ↓g63_19, ↓g63_22, ↓g63_25, ↓g63_26, ↓g63_29, ↓g63_30, ↓g63_31, ↓g63_34, ↓g63_37, ↓g63_38, ↓g63_41, ↓g63_43, ↓g63_45, ↓g63_47, ↓g63_50, ↓g63_52, ↓g63_53, ↓g63_54, ↓g63_57, ↓g63_59, ↓g63_60, ↓g63_62, ↓g63_64, ↓g63_67, ↓g63_68, ↓g63_71, ↓g63_74, ↓g63_76, ↓g63_77, ↓g63_78, ↓g63_79, ↓g63_82, ↓g63_85, ↓g63_87, ↓g63_88, ↓g63_89, ↓g63_91, cl_1, cl_40, cl_41, cl_85, cl_86, cn_0, cn_1, cn_2, cn_3, cn_4, cn_5, cn_6, cn_7, cn_8, ↓Go_s, ↓GoC_a, ↓reduceIte, ↓mm_call_eq, ↓mmw_nil, ↓mmw_cons, List.take_succ_cons, List.take_zero, List.take_nil, List.drop_succ_cons, List.drop_zero, List.drop_nil, List.reverse_cons, List.reverse_nil, List.nil_append, List.cons_append, List.append_nil, Option.toList_some, Option.toList_none, Nat.sub_zero, Nat.le_refl, mmr_cons, mm_st1, mm_st2, mmi_nil, mmi_cons, mmc_I, mmc_L, mmc_R, mmu_get, mmu_one, mma_get, mma_one, List.filter_cons, List.filter_nil, List.contains_cons, List.contains_nil, Nat.reduceBEq, Nat.reduceAdd, Nat.reduceLT, Nat.reduceSub, Nat.reduceLeDiff, Nat.reduceEqDiff, Int32.reduceAdd, Bool.not_true, Bool.not_false, Bool.and_true, Bool.true_and, Bool.and_false, Bool.false_and, Bool.or_false, Bool.false_or, Bool.or_true, Bool.true_or, if_true, if_false, ite_true, ite_false, Bool.false_eq_true, List.getElem?_cons_zero, List.getElem?_cons_succ, List.length_cons, List.length_nil, true_and, and_true, List.set_cons_zero, List.set_cons_succ, Fin.isValue, Fin.val_zero, Fin.val_one, Fin.val_two, Fin.reduceFinMk, Nat.zero_add, hp_0, hp_1, hp_2, hp_3, hp_4, hp_5, hp_6, hp_7, hp_8, hp_9, hp_10, hp_11, hp_12, hp_13, hp_14, hp_15, hp_16, hp_17, hp_18, hp_19, hp_20, hp_21, hp_22, hp_23, hp_24, hp_25, hp_26, hp_27, hp_28, hp_29, hp_30, hp_31, hp_32, hp_33, hp_34, hp_35, hp_36, hp_37, hp_38, hp_39, hp_40, hp_41, hp_42, hp_43, hp_44, hp_45, hp_46, hp_47, hp_48, hp_49, hp_50, hp_51, hp_52, hp_53, hp_54, hp_55, hp_56, hp_57, hp_58, hp_59, hp_60, hp_61, hp_62, hp_63, hp_64, hp_65, hp_66, hp_67, hp_68, hp_69, hp_70, hp_71, hp_72, hp_73, hp_74, og_0_0, og_0_1, og_0_2, og_0_3, og_0_4, og_0_5, og_0_6, og_0_7, og_0_8, og_0_9, og_0_10, og_0_11, og_0_12, og_0_13, ol_0, og_2_0, og_2_1, og_2_2, og_2_3, og_2_4, og_2_5, og_2_6, ol_2, og_3_0, og_3_1, ol_3, og_5_0, og_5_1, ol_5, og_9_0, og_9_1, og_9_2, og_9_3, og_9_4, og_9_5, og_9_6, ol_9, og_10_0, og_10_1, ol_10, og_12_0, og_12_1, ol_12, og_16_0, og_16_1, og_16_2, ol_16, og_17_0, og_17_1, ol_17, og_21_0, og_21_1, og_21_2, og_21_3, og_21_4, ol_21, og_27_0, og_27_1, og_27_2, og_27_3, og_27_4, og_27_5, og_27_6, og_27_7, og_27_8, og_27_9, og_27_10, ol_27, og_35_0, og_35_1, ol_35, og_37_0, og_37_1, ol_37, og_39_0, og_39_1, ol_39, og_41_0, og_41_1, ol_41, og_43_0, og_43_1, ol_43, og_45_0, og_45_1, ol_45, og_47_0, og_47_1, ol_47, og_49_0, og_49_1, og_49_2, og_49_3, ol_49, og_53_0, og_53_1, ol_53, og_55_0, og_55_1, ol_55, og_57_0, og_57_1, ol_57, og_59_0, og_59_1, ol_59, og_61_0, og_61_1, ol_61, og_63_0, og_63_1, ol_63, og_65_0, og_65_1, og_65_2, ol_65, og_66_0, og_66_1, ol_66, og_70_0, og_70_1, og_70_2, ol_70, og_71_0, og_71_1, ol_71, uo_0_1, uo_0_4, uo_0_8, ua_1, uo_2_0, uo_2_1, uo_2_2, uo_3_1, ua_4, uo_5_1, ua_6, ua_7, ua_8, uo_9_0, uo_9_1, uo_9_2, uo_10_1, ua_11, uo_12_1, ua_13, ua_14, ua_15, uo_17_1, ua_18, ua_19, ua_20, uo_21_4, ua_22, ua_23, ua_24, ua_25, uo_27_2, uo_27_6, uo_27_7, uo_27_8, ua_28, ua_29, ua_31, ua_32, ua_33, ua_34, uo_35_1, ua_36, uo_37_1, ua_38, uo_39_1, ua_40, uo_41_1, ua_42, uo_43_1, ua_44, uo_45_1, ua_46, uo_47_1, ua_48, uo_49_3, ua_51, ua_52, uo_53_1, ua_54, uo_55_1, ua_56, uo_57_1, ua_58, uo_59_1, ua_60, uo_61_1, ua_62, uo_63_1, ua_64, uo_66_1, ua_67, ua_68, ua_69, uo_71_1, ua_72, ua_73, ua_74, sO_g, sA_g, sA_O, sO_A, sO_2, sC_1, sC_2, sC_3, sC_4, sC_5, sC_6, sW_1, sW_2, sW_3, sW_4, uc_0, nu_fitI, nu_fitL, nu_fitO, nu_fitA, nu_fitB0, nu_fitB1]
        refine ⟨0, 0, _, Nat.le_refl _, Nat.le_refl _, c_takeNo (d := d + 1) (rs_17 h4.1), fun z h' hz => ?_⟩
        obtain ⟨rfl, rfl⟩ := hz
        (try simp only [Option.toList_some, Option.toList_none, List.nil_append, List.append_nil, List.cons_append, Nat.sub_zero, Nat.sub_self, Nat.zero_sub]); refine Go.wp sp_63 200 ?_; simp only [↓g63_0, ↓g63_1, ↓g63_2, ↓g63_5, ↓g63_8, ↓g63_9, ↓g63_10, ↓g63_13, ↓g63_16, ↓g63_17, ↓g63_18, ↓g63_19, ↓g63_22, ↓g63_25, ↓g63_26, ↓g63_29, ↓g63_30, ↓g63_31, ↓g63_34, ↓g63_37, ↓g63_38, ↓g63_41, ↓g63_43, ↓g63_45, ↓g63_47, ↓g63_50, ↓g63_52, ↓g63_53, ↓g63_54, ↓g63_57, ↓g63_59, ↓g63_60, ↓g63_62, ↓g63_64, ↓g63_67, ↓g63_68, ↓g63_71, ↓g63_74, ↓g63_76, ↓g63_77, ↓g63_78, ↓g63_79, ↓g63_82, ↓g63_85, ↓g63_87, ↓g63_88, ↓g63_89, ↓g63_91, cl_1, cl_40, cl_41, cl_85, cl_86, cn_0, cn_1, cn_2, cn_3, cn_4, cn_5, cn_6, cn_7, cn_8, ↓Go_s, ↓GoC_a, ↓reduceIte, ↓mm_call_eq, ↓mmw_nil, ↓mmw_cons, List.take_succ_cons, List.take_zero, List.take_nil, List.drop_succ_cons, List.drop_zero, List.drop_nil, List.reverse_cons, List.reverse_nil, List.nil_append, List.cons_append, List.append_nil, Option.toList_some, Option.toList_none, Nat.sub_zero, Nat.le_refl, mmr_cons, mm_st1, mm_st2, mmi_nil, mmi_cons, mmc_I, mmc_L, mmc_R, mmu_get, mmu_one, mma_get, mma_one, List.filter_cons, List.filter_nil, List.contains_cons, List.contains_nil, Nat.reduceBEq, Nat.reduceAdd, Nat.reduceLT, Nat.reduceSub, Nat.reduceLeDiff, Nat.reduceEqDiff, Int32.reduceAdd, Bool.not_true, Bool.not_false, Bool.and_true, Bool.true_and, Bool.and_false, Bool.false_and, Bool.or_false, Bool.false_or, Bool.or_true, Bool.true_or, if_true, if_false, ite_true, ite_false, Bool.false_eq_true, List.getElem?_cons_zero, List.getElem?_cons_succ, List.length_cons, List.length_nil, true_and, and_true, List.set_cons_zero, List.set_cons_succ, Fin.isValue, Fin.val_zero, Fin.val_one, Fin.val_two, Fin.reduceFinMk, Nat.zero_add, hp_0, hp_1, hp_2, hp_3, hp_4, hp_5, hp_6, hp_7, hp_8, hp_9, hp_10, hp_11, hp_12, hp_13, hp_14, hp_15, hp_16, hp_17, hp_18, hp_19, hp_20, hp_21, hp_22, hp_23, hp_24, hp_25, hp_26, hp_27, hp_28, hp_29, hp_30, hp_31, hp_32, hp_33, hp_34, hp_35, hp_36, hp_37, hp_38, hp_39, hp_40, hp_41, hp_42, hp_43, hp_44, hp_45, hp_46, hp_47, hp_48, hp_49, hp_50, hp_51, hp_52, hp_53, hp_54, hp_55, hp_56, hp_57, hp_58, hp_59, hp_60, hp_61, hp_62, hp_63, hp_64, hp_65, hp_66, hp_67, hp_68, hp_69, hp_70, hp_71, hp_72, hp_73, hp_74, og_0_0, og_0_1, og_0_2, og_0_3, og_0_4, og_0_5, og_0_6, og_0_7, og_0_8, og_0_9, og_0_10, og_0_11, og_0_12, og_0_13, ol_0, og_2_0, og_2_1, og_2_2, og_2_3, og_2_4, og_2_5, og_2_6, ol_2, og_3_0, og_3_1, ol_3, og_5_0, og_5_1, ol_5, og_9_0, og_9_1, og_9_2, og_9_3, og_9_4, og_9_5, og_9_6, ol_9, og_10_0, og_10_1, ol_10, og_12_0, og_12_1, ol_12, og_16_0, og_16_1, og_16_2, ol_16, og_17_0, og_17_1, ol_17, og_21_0, og_21_1, og_21_2, og_21_3, og_21_4, ol_21, og_27_0, og_27_1, og_27_2, og_27_3, og_27_4, og_27_5, og_27_6, og_27_7, og_27_8, og_27_9, og_27_10, ol_27, og_35_0, og_35_1, ol_35, og_37_0, og_37_1, ol_37, og_39_0, og_39_1, ol_39, og_41_0, og_41_1, ol_41, og_43_0, og_43_1, ol_43, og_45_0, og_45_1, ol_45, og_47_0, og_47_1, ol_47, og_49_0, og_49_1, og_49_2, og_49_3, ol_49, og_53_0, og_53_1, ol_53, og_55_0, og_55_1, ol_55, og_57_0, og_57_1, ol_57, og_59_0, og_59_1, ol_59, og_61_0, og_61_1, ol_61, og_63_0, og_63_1, ol_63, og_65_0, og_65_1, og_65_2, ol_65, og_66_0, og_66_1, ol_66, og_70_0, og_70_1, og_70_2, ol_70, og_71_0, og_71_1, ol_71, uo_0_1, uo_0_4, uo_0_8, ua_1, uo_2_0, uo_2_1, uo_2_2, uo_3_1, ua_4, uo_5_1, ua_6, ua_7, ua_8, uo_9_0, uo_9_1, uo_9_2, uo_10_1, ua_11, uo_12_1, ua_13, ua_14, ua_15, uo_17_1, ua_18, ua_19, ua_20, uo_21_4, ua_22, ua_23, ua_24, ua_25, uo_27_2, uo_27_6, uo_27_7, uo_27_8, ua_28, ua_29, ua_31, ua_32, ua_33, ua_34, uo_35_1, ua_36, uo_37_1, ua_38, uo_39_1, ua_40, uo_41_1, ua_42, uo_43_1, ua_44, uo_45_1, ua_46, uo_47_1, ua_48, uo_49_3, ua_51, ua_52, uo_53_1, ua_54, uo_55_1, ua_56, uo_57_1, ua_58, uo_59_1, ua_60, uo_61_1, ua_62, uo_63_1, ua_64, uo_66_1, ua_67, ua_68, ua_69, uo_71_1, ua_72, ua_73, ua_74, sO_g, sA_g, sA_O, sO_A, sO_2, sC_1, sC_2, sC_3, sC_4, sC_5, sC_6, sW_1, sW_2, sW_3, sW_4, uc_0, nu_fitI, nu_fitL, nu_fitO, nu_fitA, nu_fitB0, nu_fitB1]
        exact ⟨fun c => absurd trivial c, fun _ => ⟨rfl, s, rfl, hC0, agM.rf⟩⟩
end ACTS
