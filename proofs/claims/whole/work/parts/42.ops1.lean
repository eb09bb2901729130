/-! calls: what each answers, and the state behind it -/
def cPl (g : SG) (s : MM) : Prop := s.2.1 (pP s) 1 = nI (gN g) ∧ s.2.1 (pP s) 2 = nI (gRd g).length ∧ RS s (pP s + 3) (pP s + 4) (gCa g) ∧ ∀ i, i < (gRd g).length → s.1 (pP s + 5) i = nI ((gRd g).getD i (0, 0)).1 ∧ s.1 (pP s + 6) i = nI ((gRd g).getD i (0, 0)).2
theorem pP_or (s : MM) : pP s = 2 ∨ pP s = 9 := by unfold pP; cases s.2.2.1 <;> simp
theorem cPl.ag {g g' : SG} {s s' : MM} (h : cPl g s) (hg : gN g' = gN g ∧ gRd g' = gRd g ∧ gCa g' = gCa g) (hp : pP s' = pP s) (h1 : ∀ k, 2 ≤ k → k < 16 → s'.1 k = s.1 k ∧ s'.2.1 k = s.2.1 k) : cPl g' s' := by
  have h9 := pP_or s
  unfold cPl at h ⊢
  rw [hp, hg.1, hg.2.1, hg.2.2, (h1 (pP s) (by omega) (by omega)).2, (h1 (pP s + 5) (by omega) (by omega)).1, (h1 (pP s + 6) (by omega) (by omega)).1]
  exact ⟨h.1, h.2.1, h.2.2.1.ag (h1 _ (by omega) (by omega)).2 (h1 _ (by omega) (by omega)).1, h.2.2.2⟩
theorem ag2O {s : MM} {k j : Nat} {x : Int32} (h : k < 2 ∨ 16 ≤ k) : ∀ i, 2 ≤ i → i < 16 → (sO s k j x).1 i = s.1 i ∧ (sO s k j x).2.1 i = s.2.1 i := fun i h1 h2 => ⟨rfl, va_ne (by omega)⟩
theorem ag2A {s : MM} {k : Nat} {f : Nat → Int32} (h : k < 2 ∨ 16 ≤ k) : ∀ i, 2 ≤ i → i < 16 → (sA s k f).1 i = s.1 i ∧ (sA s k f).2.1 i = s.2.1 i := fun i h1 h2 => ⟨va_ne (by omega), rfl⟩
abbrev PostC (g : SG) (s : MM) (z : AV) : AQ := fun r h' => r = some z ∧ ∃ s', h' = HP s' ∧ InvC g s' ∧ agM s s'
abbrev PostM (g : SG) (s : MM) (z : AV) : AQ := fun r h' => r = some z ∧ ∃ s', h' = HP s' ∧ InvM g s' ∧ agC s s'
abbrev sp_56 : List Nat := []
section G56
variable {tb : Nat → Nat × (Nat → Int32)} {call : CO} {Q : AQ} {C : CP} {lv : AL} {st : List AV} {h : AH} {kc ks : Nat}
theorem g56_0  : mm_step (mm_rw mr_56) (some .int) tb call Q C 0 lv st h kc ks = (match mm_rd lv 0 with
    | some (.inr (.inr (.inl (some k)))) => C 1 lv (vR k :: st) h kc ks
    | some (.inr (.inr (.inr t))) => C 1 lv (vT t :: st) h kc ks
    | _ => False) := rfl
theorem g56_1 (k : Nat) : mm_step (mm_rw mr_56) (some .int) tb call Q C 1 lv (.inr (.inr (.inl (some k))) :: st) h kc ks = (match h.2 k with
    | some (.inr (.inr (ci, fs))) => ci = 7 ∧ (match fs[1]? with
      | some v => C 4 lv (v :: st) h kc ks
      | none => False)
    | _ => False) := rfl
theorem g56_4 (a : Int32) : mm_step (mm_rw mr_56) (some .int) tb call Q C 4 lv (.inl a :: st) h kc ks = (C 5 (mm_st1 lv 1 (vI a)) st h kc ks) := rfl
theorem g56_5  : mm_step (mm_rw mr_56) (some .int) tb call Q C 5 lv st h kc ks = (match mm_rd lv 0 with
    | some (.inr (.inr (.inl (some k)))) => C 6 lv (vR k :: st) h kc ks
    | some (.inr (.inr (.inr t))) => C 6 lv (vT t :: st) h kc ks
    | _ => False) := rfl
theorem g56_6  : mm_step (mm_rw mr_56) (some .int) tb call Q C 6 lv st h kc ks = (C 7 lv (vI 0 :: st) h kc ks) := rfl
theorem g56_7 (v : AV) (k : Nat) : mm_step (mm_rw mr_56) (some .int) tb call Q C 7 lv (v :: .inr (.inr (.inl (some k))) :: st) h kc ks = (match h.2 k with
    | some (.inr (.inr (ci, fs))) => ci = 7 ∧ 1 < fs.length ∧ mm_fit (mm_ft 7 1) v ∧ C 10 lv st (mm_up h k (cO ci (fs.set 1 v))) kc ks
    | _ => False) := rfl
theorem g56_10  : mm_step (mm_rw mr_56) (some .int) tb call Q C 10 lv st h kc ks = (match mm_rd lv 1 with
    | some (.inl a) => C 11 lv (vI a :: st) h kc ks
    | _ => False) := rfl
theorem g56_11 (v : Int32) : mm_step (mm_rw mr_56) (some .int) tb call Q C 11 lv [.inl v] h kc ks = (True ∧ Q (some (vI v)) h) := rfl
end G56

abbrev sp_80 : List Nat := []
section G80
variable {tb : Nat → Nat × (Nat → Int32)} {call : CO} {Q : AQ} {C : CP} {lv : AL} {st : List AV} {h : AH} {kc ks : Nat}
theorem g80_0  : mm_step (mm_rw mr_80) (some .long) tb call Q C 0 lv st h kc ks = (match mm_rd lv 0 with
    | some (.inr (.inr (.inl (some k)))) => C 1 lv (vR k :: st) h kc ks
    | some (.inr (.inr (.inr t))) => C 1 lv (vT t :: st) h kc ks
    | _ => False) := rfl
theorem g80_1 (k : Nat) : mm_step (mm_rw mr_80) (some .long) tb call Q C 1 lv (.inr (.inr (.inl (some k))) :: st) h kc ks = (match h.2 k with
    | some (.inr (.inr (ci, fs))) => ci = 7 ∧ (match fs[13]? with
      | some v => C 4 lv (v :: st) h kc ks
      | none => False)
    | _ => False) := rfl
theorem g80_4 (a : Int64) : mm_step (mm_rw mr_80) (some .long) tb call Q C 4 lv (.inr (.inl a) :: st) h kc ks = (C 5 (mm_st2 lv 3 (vL a)) st h kc ks) := rfl
theorem g80_5  : mm_step (mm_rw mr_80) (some .long) tb call Q C 5 lv st h kc ks = (match mm_rd lv 0 with
    | some (.inr (.inr (.inl (some k)))) => C 6 lv (vR k :: st) h kc ks
    | some (.inr (.inr (.inr t))) => C 6 lv (vT t :: st) h kc ks
    | _ => False) := rfl
theorem g80_6  : mm_step (mm_rw mr_80) (some .long) tb call Q C 6 lv st h kc ks = (match mm_rd lv 1 with
    | some (.inr (.inl a)) => C 7 lv (vL a :: st) h kc ks
    | _ => False) := rfl
theorem g80_7 (v : AV) (k : Nat) : mm_step (mm_rw mr_80) (some .long) tb call Q C 7 lv (v :: .inr (.inr (.inl (some k))) :: st) h kc ks = (match h.2 k with
    | some (.inr (.inr (ci, fs))) => ci = 7 ∧ 13 < fs.length ∧ mm_fit (mm_ft 7 13) v ∧ C 10 lv st (mm_up h k (cO ci (fs.set 13 v))) kc ks
    | _ => False) := rfl
theorem g80_10  : mm_step (mm_rw mr_80) (some .long) tb call Q C 10 lv st h kc ks = (match mm_rd lv 3 with
    | some (.inr (.inl a)) => C 11 lv (vL a :: st) h kc ks
    | _ => False) := rfl
theorem g80_11 (v : Int64) : mm_step (mm_rw mr_80) (some .long) tb call Q C 11 lv [.inr (.inl v)] h kc ks = (some FieldType.long = some .long ∧ Q (some (vL v)) h) := rfl
end G80

abbrev sp_75 : List Nat := []
section G75
variable {tb : Nat → Nat × (Nat → Int32)} {call : CO} {Q : AQ} {C : CP} {lv : AL} {st : List AV} {h : AH} {kc ks : Nat}
theorem g75_0  : mm_step (mm_rw mr_75) (some .int) tb call Q C 0 lv st h kc ks = (match mm_rd lv 0 with
    | some (.inr (.inr (.inl (some k)))) => C 1 lv (vR k :: st) h kc ks
    | some (.inr (.inr (.inr t))) => C 1 lv (vT t :: st) h kc ks
    | _ => False) := rfl
theorem g75_1 (k : Nat) : mm_step (mm_rw mr_75) (some .int) tb call Q C 1 lv (.inr (.inr (.inl (some k))) :: st) h kc ks = (match h.2 k with
    | some (.inr (.inr (ci, fs))) => ci = 7 ∧ (match fs[9]? with
      | some v => C 4 lv (v :: st) h kc ks
      | none => False)
    | _ => False) := rfl
theorem g75_4 (k : Nat) : mm_step (mm_rw mr_75) (some .int) tb call Q C 4 lv (.inr (.inr (.inl (some k))) :: st) h kc ks = (match h.2 k with
    | some (.inr (.inr (ci, fs))) => ci = 2 ∧ (match fs[2]? with
      | some v => C 7 lv (v :: st) h kc ks
      | none => False)
    | _ => False) := rfl
theorem g75_7 (a : Int32) : mm_step (mm_rw mr_75) (some .int) tb call Q C 7 lv (.inl a :: st) h kc ks = (C 8 (mm_st1 lv 1 (vI a)) st h kc ks) := rfl
theorem g75_8  : mm_step (mm_rw mr_75) (some .int) tb call Q C 8 lv st h kc ks = (match mm_rd lv 0 with
    | some (.inr (.inr (.inl (some k)))) => C 9 lv (vR k :: st) h kc ks
    | some (.inr (.inr (.inr t))) => C 9 lv (vT t :: st) h kc ks
    | _ => False) := rfl
theorem g75_9 (k : Nat) : mm_step (mm_rw mr_75) (some .int) tb call Q C 9 lv (.inr (.inr (.inl (some k))) :: st) h kc ks = (match h.2 k with
    | some (.inr (.inr (ci, fs))) => ci = 7 ∧ (match fs[9]? with
      | some v => C 12 lv (v :: st) h kc ks
      | none => False)
    | _ => False) := rfl
theorem g75_12  : mm_step (mm_rw mr_75) (some .int) tb call Q C 12 lv st h kc ks = (C 13 lv (vI 0 :: st) h kc ks) := rfl
theorem g75_13 (v : AV) (k : Nat) : mm_step (mm_rw mr_75) (some .int) tb call Q C 13 lv (v :: .inr (.inr (.inl (some k))) :: st) h kc ks = (match h.2 k with
    | some (.inr (.inr (ci, fs))) => ci = 2 ∧ 2 < fs.length ∧ mm_fit (mm_ft 2 2) v ∧ C 16 lv st (mm_up h k (cO ci (fs.set 2 v))) kc ks
    | _ => False) := rfl
theorem g75_16  : mm_step (mm_rw mr_75) (some .int) tb call Q C 16 lv st h kc ks = (match mm_rd lv 1 with
    | some (.inl a) => C 17 lv (vI a :: st) h kc ks
    | _ => False) := rfl
theorem g75_17 (v : Int32) : mm_step (mm_rw mr_75) (some .int) tb call Q C 17 lv [.inl v] h kc ks = (True ∧ Q (some (vI v)) h) := rfl
end G75

abbrev sp_62 : List Nat := []
section G62
variable {tb : Nat → Nat × (Nat → Int32)} {call : CO} {Q : AQ} {C : CP} {lv : AL} {st : List AV} {h : AH} {kc ks : Nat}
theorem g62_0  : mm_step (mm_rw mr_62) (some .int) tb call Q C 0 lv st h kc ks = (match mm_rd lv 1 with
    | some (.inl a) => C 1 lv (vI a :: st) h kc ks
    | _ => False) := rfl
theorem g62_1 (a : Int32) : mm_step (mm_rw mr_62) (some .int) tb call Q C 1 lv (.inl a :: st) h kc ks = ((a < 0 → C 9 lv st h kc ks) ∧ (¬ a < 0 → C 4 lv st h kc ks)) := rfl
theorem g62_4  : mm_step (mm_rw mr_62) (some .int) tb call Q C 4 lv st h kc ks = (match mm_rd lv 1 with
    | some (.inl a) => C 5 lv (vI a :: st) h kc ks
    | _ => False) := rfl
theorem g62_5  : mm_step (mm_rw mr_62) (some .int) tb call Q C 5 lv st h kc ks = (C 6 lv (vI 3 :: st) h kc ks) := rfl
theorem g62_6 (a b : Int32) : mm_step (mm_rw mr_62) (some .int) tb call Q C 6 lv (.inl b :: .inl a :: st) h kc ks = ((a < b → C 12 lv st h kc ks) ∧ (¬ a < b → C 9 lv st h kc ks)) := rfl
theorem g62_9  : mm_step (mm_rw mr_62) (some .int) tb call Q C 9 lv st h kc ks = (C 11 lv (vI (mI 2) :: st) h kc ks) := rfl
theorem g62_11 (v : Int32) : mm_step (mm_rw mr_62) (some .int) tb call Q C 11 lv [.inl v] h kc ks = (True ∧ Q (some (vI v)) h) := rfl
theorem g62_12  : mm_step (mm_rw mr_62) (some .int) tb call Q C 12 lv st h kc ks = (match mm_rd lv 0 with
    | some (.inr (.inr (.inl (some k)))) => C 13 lv (vR k :: st) h kc ks
    | some (.inr (.inr (.inr t))) => C 13 lv (vT t :: st) h kc ks
    | _ => False) := rfl
theorem g62_13 (k : Nat) : mm_step (mm_rw mr_62) (some .int) tb call Q C 13 lv (.inr (.inr (.inl (some k))) :: st) h kc ks = (match h.2 k with
    | some (.inr (.inr (ci, fs))) => ci = 7 ∧ (match fs[4]? with
      | some v => C 16 lv (v :: st) h kc ks
      | none => False)
    | _ => False) := rfl
theorem g62_16 (a : Int32) : mm_step (mm_rw mr_62) (some .int) tb call Q C 16 lv (.inl a :: st) h kc ks = (C 17 (mm_st1 lv 2 (vI a)) st h kc ks) := rfl
theorem g62_17  : mm_step (mm_rw mr_62) (some .int) tb call Q C 17 lv st h kc ks = (match mm_rd lv 0 with
    | some (.inr (.inr (.inl (some k)))) => C 18 lv (vR k :: st) h kc ks
    | some (.inr (.inr (.inr t))) => C 18 lv (vT t :: st) h kc ks
    | _ => False) := rfl
theorem g62_18  : mm_step (mm_rw mr_62) (some .int) tb call Q C 18 lv st h kc ks = (match mm_rd lv 1 with
    | some (.inl a) => C 19 lv (vI a :: st) h kc ks
    | _ => False) := rfl
theorem g62_19 (v : AV) (k : Nat) : mm_step (mm_rw mr_62) (some .int) tb call Q C 19 lv (v :: .inr (.inr (.inl (some k))) :: st) h kc ks = (match h.2 k with
    | some (.inr (.inr (ci, fs))) => ci = 7 ∧ 4 < fs.length ∧ mm_fit (mm_ft 7 4) v ∧ C 22 lv st (mm_up h k (cO ci (fs.set 4 v))) kc ks
    | _ => False) := rfl
theorem g62_22  : mm_step (mm_rw mr_62) (some .int) tb call Q C 22 lv st h kc ks = (match mm_rd lv 2 with
    | some (.inl a) => C 23 lv (vI a :: st) h kc ks
    | _ => False) := rfl
theorem g62_23 (v : Int32) : mm_step (mm_rw mr_62) (some .int) tb call Q C 23 lv [.inl v] h kc ks = (True ∧ Q (some (vI v)) h) := rfl
end G62

abbrev sp_59 : List Nat := [11]
section G59
variable {tb : Nat → Nat × (Nat → Int32)} {call : CO} {Q : AQ} {C : CP} {lv : AL} {st : List AV} {h : AH} {kc ks : Nat}
theorem g59_0  : mm_step (mm_rw mr_59) (some .int) tb call Q C 0 lv st h kc ks = (match mm_rd lv 0 with
    | some (.inr (.inr (.inl (some k)))) => C 1 lv (vR k :: st) h kc ks
    | some (.inr (.inr (.inr t))) => C 1 lv (vT t :: st) h kc ks
    | _ => False) := rfl
theorem g59_1 (k : Nat) : mm_step (mm_rw mr_59) (some .int) tb call Q C 1 lv (.inr (.inr (.inl (some k))) :: st) h kc ks = (match h.2 k with
    | some (.inr (.inr (ci, fs))) => ci = 7 ∧ (match fs[5]? with
      | some v => C 4 lv (v :: st) h kc ks
      | none => False)
    | _ => False) := rfl
theorem g59_4 (k : Nat) : mm_step (mm_rw mr_59) (some .int) tb call Q C 4 lv (.inr (.inr (.inl (some k))) :: st) h kc ks = (match h.2 k with
    | some (.inr (.inr (ci, fs))) => ci = 1 ∧ (match fs[0]? with
      | some v => C 7 lv (v :: st) h kc ks
      | none => False)
    | _ => False) := rfl
theorem g59_7  : mm_step (mm_rw mr_59) (some .int) tb call Q C 7 lv st h kc ks = (match mm_rd lv 1 with
    | some (.inl a) => C 8 lv (vI a :: st) h kc ks
    | _ => False) := rfl
theorem g59_8  : mm_step (mm_rw mr_59) (some .int) tb call Q C 8 lv st h kc ks = ((match (st.take 2).reverse with
    | .inr (.inr (.inl (some k))) :: _ => (match h.2 k with
      | some (.inr (.inr (ci, _))) => mm_cn ci = (mm_mi 36).1.cls
      | _ => False)
    | _ => False) ∧ mm_call call C 36 2 8 lv st h kc ks) := rfl
theorem g59_11 (v : Int32) : mm_step (mm_rw mr_59) (some .int) tb call Q C 11 lv [.inl v] h kc ks = (True ∧ Q (some (vI v)) h) := rfl
end G59

abbrev sp_74 : List Nat := [5, 13, 42]
section G74
variable {tb : Nat → Nat × (Nat → Int32)} {call : CO} {Q : AQ} {C : CP} {lv : AL} {st : List AV} {h : AH} {kc ks : Nat}
theorem g74_0  : mm_step (mm_rw mr_74) (some .int) tb call Q C 0 lv st h kc ks = (match mm_rd lv 0 with
    | some (.inr (.inr (.inl (some k)))) => C 1 lv (vR k :: st) h kc ks
    | some (.inr (.inr (.inr t))) => C 1 lv (vT t :: st) h kc ks
    | _ => False) := rfl
theorem g74_1  : mm_step (mm_rw mr_74) (some .int) tb call Q C 1 lv st h kc ks = (match mm_rd lv 1 with
    | some (.inl a) => C 2 lv (vI a :: st) h kc ks
    | _ => False) := rfl
theorem g74_2  : mm_step (mm_rw mr_74) (some .int) tb call Q C 2 lv st h kc ks = ((match (st.take 2).reverse with
    | .inr (.inr (.inl (some k))) :: _ => (match h.2 k with
      | some (.inr (.inr (ci, _))) => mm_cn ci = (mm_mi 85).1.cls
      | _ => False)
    | _ => False) ∧ mm_call call C 85 2 2 lv st h kc ks) := rfl
theorem g74_5 (a : Int32) : mm_step (mm_rw mr_74) (some .int) tb call Q C 5 lv (.inl a :: st) h kc ks = ((a = 0 → C 16 lv st h kc ks) ∧ (¬ a = 0 → C 8 lv st h kc ks)) := rfl
theorem g74_8  : mm_step (mm_rw mr_74) (some .int) tb call Q C 8 lv st h kc ks = (match mm_rd lv 0 with
    | some (.inr (.inr (.inl (some k)))) => C 9 lv (vR k :: st) h kc ks
    | some (.inr (.inr (.inr t))) => C 9 lv (vT t :: st) h kc ks
    | _ => False) := rfl
theorem g74_9  : mm_step (mm_rw mr_74) (some .int) tb call Q C 9 lv st h kc ks = (match mm_rd lv 2 with
    | some (.inl a) => C 10 lv (vI a :: st) h kc ks
    | _ => False) := rfl
theorem g74_10  : mm_step (mm_rw mr_74) (some .int) tb call Q C 10 lv st h kc ks = ((match (st.take 2).reverse with
    | .inr (.inr (.inl (some k))) :: _ => (match h.2 k with
      | some (.inr (.inr (ci, _))) => mm_cn ci = (mm_mi 85).1.cls
      | _ => False)
    | _ => False) ∧ mm_call call C 85 2 10 lv st h kc ks) := rfl
theorem g74_13 (a : Int32) : mm_step (mm_rw mr_74) (some .int) tb call Q C 13 lv (.inl a :: st) h kc ks = ((¬ a = 0 → C 18 lv st h kc ks) ∧ (a = 0 → C 16 lv st h kc ks)) := rfl
theorem g74_16  : mm_step (mm_rw mr_74) (some .int) tb call Q C 16 lv st h kc ks = (C 17 lv (vI (mI 1) :: st) h kc ks) := rfl
theorem g74_17 (v : Int32) : mm_step (mm_rw mr_74) (some .int) tb call Q C 17 lv [.inl v] h kc ks = (True ∧ Q (some (vI v)) h) := rfl
theorem g74_18  : mm_step (mm_rw mr_74) (some .int) tb call Q C 18 lv st h kc ks = (match mm_rd lv 0 with
    | some (.inr (.inr (.inl (some k)))) => C 19 lv (vR k :: st) h kc ks
    | some (.inr (.inr (.inr t))) => C 19 lv (vT t :: st) h kc ks
    | _ => False) := rfl
theorem g74_19 (k : Nat) : mm_step (mm_rw mr_74) (some .int) tb call Q C 19 lv (.inr (.inr (.inl (some k))) :: st) h kc ks = (match h.2 k with
    | some (.inr (.inr (ci, fs))) => ci = 7 ∧ (match fs[9]? with
      | some v => C 22 lv (v :: st) h kc ks
      | none => False)
    | _ => False) := rfl
theorem g74_22 (k : Nat) : mm_step (mm_rw mr_74) (some .int) tb call Q C 22 lv (.inr (.inr (.inl (some k))) :: st) h kc ks = (match h.2 k with
    | some (.inr (.inr (ci, fs))) => ci = 2 ∧ (match fs[2]? with
      | some v => C 25 lv (v :: st) h kc ks
      | none => False)
    | _ => False) := rfl
theorem g74_25  : mm_step (mm_rw mr_74) (some .int) tb call Q C 25 lv st h kc ks = (C 27 lv (vI 6 :: st) h kc ks) := rfl
theorem g74_27 (a b : Int32) : mm_step (mm_rw mr_74) (some .int) tb call Q C 27 lv (.inl b :: .inl a :: st) h kc ks = ((a < b → C 33 lv st h kc ks) ∧ (¬ a < b → C 30 lv st h kc ks)) := rfl
theorem g74_30  : mm_step (mm_rw mr_74) (some .int) tb call Q C 30 lv st h kc ks = (C 32 lv (vI (mI 4) :: st) h kc ks) := rfl
theorem g74_32 (v : Int32) : mm_step (mm_rw mr_74) (some .int) tb call Q C 32 lv [.inl v] h kc ks = (True ∧ Q (some (vI v)) h) := rfl
theorem g74_33  : mm_step (mm_rw mr_74) (some .int) tb call Q C 33 lv st h kc ks = (match mm_rd lv 0 with
    | some (.inr (.inr (.inl (some k)))) => C 34 lv (vR k :: st) h kc ks
    | some (.inr (.inr (.inr t))) => C 34 lv (vT t :: st) h kc ks
    | _ => False) := rfl
theorem g74_34 (k : Nat) : mm_step (mm_rw mr_74) (some .int) tb call Q C 34 lv (.inr (.inr (.inl (some k))) :: st) h kc ks = (match h.2 k with
    | some (.inr (.inr (ci, fs))) => ci = 7 ∧ (match fs[9]? with
      | some v => C 37 lv (v :: st) h kc ks
      | none => False)
    | _ => False) := rfl
theorem g74_37  : mm_step (mm_rw mr_74) (some .int) tb call Q C 37 lv st h kc ks = (match mm_rd lv 1 with
    | some (.inl a) => C 38 lv (vI a :: st) h kc ks
    | _ => False) := rfl
theorem g74_38  : mm_step (mm_rw mr_74) (some .int) tb call Q C 38 lv st h kc ks = (match mm_rd lv 2 with
    | some (.inl a) => C 39 lv (vI a :: st) h kc ks
    | _ => False) := rfl
theorem g74_39  : mm_step (mm_rw mr_74) (some .int) tb call Q C 39 lv st h kc ks = ((match (st.take 3).reverse with
    | .inr (.inr (.inl (some k))) :: _ => (match h.2 k with
      | some (.inr (.inr (ci, _))) => mm_cn ci = (mm_mi 9).1.cls
      | _ => False)
    | _ => False) ∧ mm_call call C 9 3 39 lv st h kc ks) := rfl
theorem g74_42  : mm_step (mm_rw mr_74) (some .int) tb call Q C 42 lv st h kc ks = (match mm_rd lv 0 with
    | some (.inr (.inr (.inl (some k)))) => C 43 lv (vR k :: st) h kc ks
    | some (.inr (.inr (.inr t))) => C 43 lv (vT t :: st) h kc ks
    | _ => False) := rfl
theorem g74_43 (k : Nat) : mm_step (mm_rw mr_74) (some .int) tb call Q C 43 lv (.inr (.inr (.inl (some k))) :: st) h kc ks = (match h.2 k with
    | some (.inr (.inr (ci, fs))) => ci = 7 ∧ (match fs[9]? with
      | some v => C 46 lv (v :: st) h kc ks
      | none => False)
    | _ => False) := rfl
theorem g74_46 (k : Nat) : mm_step (mm_rw mr_74) (some .int) tb call Q C 46 lv (.inr (.inr (.inl (some k))) :: st) h kc ks = (match h.2 k with
    | some (.inr (.inr (ci, fs))) => ci = 2 ∧ (match fs[2]? with
      | some v => C 49 lv (v :: st) h kc ks
      | none => False)
    | _ => False) := rfl
theorem g74_49 (v : Int32) : mm_step (mm_rw mr_74) (some .int) tb call Q C 49 lv [.inl v] h kc ks = (True ∧ Q (some (vI v)) h) := rfl
end G74

abbrev sp_9 : List Nat := []
section G9
variable {tb : Nat → Nat × (Nat → Int32)} {call : CO} {Q : AQ} {C : CP} {lv : AL} {st : List AV} {h : AH} {kc ks : Nat}
theorem g9_0  : mm_step (mm_rw mr_9) none tb call Q C 0 lv st h kc ks = (match mm_rd lv 0 with
    | some (.inr (.inr (.inl (some k)))) => C 1 lv (vR k :: st) h kc ks
    | some (.inr (.inr (.inr t))) => C 1 lv (vT t :: st) h kc ks
    | _ => False) := rfl
theorem g9_1 (k : Nat) : mm_step (mm_rw mr_9) none tb call Q C 1 lv (.inr (.inr (.inl (some k))) :: st) h kc ks = (match h.2 k with
    | some (.inr (.inr (ci, fs))) => ci = 2 ∧ (match fs[2]? with
      | some v => C 4 lv (v :: st) h kc ks
      | none => False)
    | _ => False) := rfl
theorem g9_4  : mm_step (mm_rw mr_9) none tb call Q C 4 lv st h kc ks = (C 6 lv (vI 6 :: st) h kc ks) := rfl
theorem g9_6 (a b : Int32) : mm_step (mm_rw mr_9) none tb call Q C 6 lv (.inl b :: .inl a :: st) h kc ks = ((b ≤ a → C 39 lv st h kc ks) ∧ (¬ b ≤ a → C 9 lv st h kc ks)) := rfl
theorem g9_9  : mm_step (mm_rw mr_9) none tb call Q C 9 lv st h kc ks = (match mm_rd lv 0 with
    | some (.inr (.inr (.inl (some k)))) => C 10 lv (vR k :: st) h kc ks
    | some (.inr (.inr (.inr t))) => C 10 lv (vT t :: st) h kc ks
    | _ => False) := rfl
theorem g9_10 (k : Nat) : mm_step (mm_rw mr_9) none tb call Q C 10 lv (.inr (.inr (.inl (some k))) :: st) h kc ks = (match h.2 k with
    | some (.inr (.inr (ci, fs))) => ci = 2 ∧ (match fs[0]? with
      | some v => C 13 lv (v :: st) h kc ks
      | none => False)
    | _ => False) := rfl
theorem g9_13  : mm_step (mm_rw mr_9) none tb call Q C 13 lv st h kc ks = (match mm_rd lv 0 with
    | some (.inr (.inr (.inl (some k)))) => C 14 lv (vR k :: st) h kc ks
    | some (.inr (.inr (.inr t))) => C 14 lv (vT t :: st) h kc ks
    | _ => False) := rfl
theorem g9_14 (k : Nat) : mm_step (mm_rw mr_9) none tb call Q C 14 lv (.inr (.inr (.inl (some k))) :: st) h kc ks = (match h.2 k with
    | some (.inr (.inr (ci, fs))) => ci = 2 ∧ (match fs[2]? with
      | some v => C 17 lv (v :: st) h kc ks
      | none => False)
    | _ => False) := rfl
theorem g9_17  : mm_step (mm_rw mr_9) none tb call Q C 17 lv st h kc ks = (match mm_rd lv 1 with
    | some (.inl a) => C 18 lv (vI a :: st) h kc ks
    | _ => False) := rfl
theorem g9_18 (v i : Int32) (k : Nat) : mm_step (mm_rw mr_9) none tb call Q C 18 lv (.inl v :: .inl i :: .inr (.inr (.inl (some k))) :: st) h kc ks = (match h.2 k with
    | some (.inl (.int, n, f)) => vp_in i n ∧ C 19 lv st (mm_up h k (cI n (upd f i.toNatClampNeg v))) kc ks
    | _ => False) := rfl
theorem g9_19  : mm_step (mm_rw mr_9) none tb call Q C 19 lv st h kc ks = (match mm_rd lv 0 with
    | some (.inr (.inr (.inl (some k)))) => C 20 lv (vR k :: st) h kc ks
    | some (.inr (.inr (.inr t))) => C 20 lv (vT t :: st) h kc ks
    | _ => False) := rfl
theorem g9_20 (k : Nat) : mm_step (mm_rw mr_9) none tb call Q C 20 lv (.inr (.inr (.inl (some k))) :: st) h kc ks = (match h.2 k with
    | some (.inr (.inr (ci, fs))) => ci = 2 ∧ (match fs[1]? with
      | some v => C 23 lv (v :: st) h kc ks
      | none => False)
    | _ => False) := rfl
theorem g9_23  : mm_step (mm_rw mr_9) none tb call Q C 23 lv st h kc ks = (match mm_rd lv 0 with
    | some (.inr (.inr (.inl (some k)))) => C 24 lv (vR k :: st) h kc ks
    | some (.inr (.inr (.inr t))) => C 24 lv (vT t :: st) h kc ks
    | _ => False) := rfl
theorem g9_24 (k : Nat) : mm_step (mm_rw mr_9) none tb call Q C 24 lv (.inr (.inr (.inl (some k))) :: st) h kc ks = (match h.2 k with
    | some (.inr (.inr (ci, fs))) => ci = 2 ∧ (match fs[2]? with
      | some v => C 27 lv (v :: st) h kc ks
      | none => False)
    | _ => False) := rfl
theorem g9_27  : mm_step (mm_rw mr_9) none tb call Q C 27 lv st h kc ks = (match mm_rd lv 2 with
    | some (.inl a) => C 28 lv (vI a :: st) h kc ks
    | _ => False) := rfl
theorem g9_28 (v i : Int32) (k : Nat) : mm_step (mm_rw mr_9) none tb call Q C 28 lv (.inl v :: .inl i :: .inr (.inr (.inl (some k))) :: st) h kc ks = (match h.2 k with
    | some (.inl (.int, n, f)) => vp_in i n ∧ C 29 lv st (mm_up h k (cI n (upd f i.toNatClampNeg v))) kc ks
    | _ => False) := rfl
theorem g9_29  : mm_step (mm_rw mr_9) none tb call Q C 29 lv st h kc ks = (match mm_rd lv 0 with
    | some (.inr (.inr (.inl (some k)))) => C 30 lv (vR k :: st) h kc ks
    | some (.inr (.inr (.inr t))) => C 30 lv (vT t :: st) h kc ks
    | _ => False) := rfl
theorem g9_30 (v : AV) : mm_step (mm_rw mr_9) none tb call Q C 30 lv (v :: st) h kc ks = (mm_c2 v = false ∧ C 31 lv (v :: v :: st) h kc ks) := rfl
theorem g9_31 (k : Nat) : mm_step (mm_rw mr_9) none tb call Q C 31 lv (.inr (.inr (.inl (some k))) :: st) h kc ks = (match h.2 k with
    | some (.inr (.inr (ci, fs))) => ci = 2 ∧ (match fs[2]? with
      | some v => C 34 lv (v :: st) h kc ks
      | none => False)
    | _ => False) := rfl
theorem g9_34  : mm_step (mm_rw mr_9) none tb call Q C 34 lv st h kc ks = (C 35 lv (vI 1 :: st) h kc ks) := rfl
theorem g9_35 (a b : Int32) : mm_step (mm_rw mr_9) none tb call Q C 35 lv (.inl b :: .inl a :: st) h kc ks = (C 36 lv (vI (a + b) :: st) h kc ks) := rfl
theorem g9_36 (v : AV) (k : Nat) : mm_step (mm_rw mr_9) none tb call Q C 36 lv (v :: .inr (.inr (.inl (some k))) :: st) h kc ks = (match h.2 k with
    | some (.inr (.inr (ci, fs))) => ci = 2 ∧ 2 < fs.length ∧ mm_fit (mm_ft 2 2) v ∧ C 39 lv st (mm_up h k (cO ci (fs.set 2 v))) kc ks
    | _ => False) := rfl
theorem g9_39  : mm_step (mm_rw mr_9) none tb call Q C 39 lv [] h kc ks = ((none : Option FieldType) = none ∧ Q none h) := rfl
end G9

abbrev sp_101 : List Nat := []
section G101
variable {tb : Nat → Nat × (Nat → Int32)} {call : CO} {Q : AQ} {C : CP} {lv : AL} {st : List AV} {h : AH} {kc ks : Nat}
theorem g101_0  : mm_step (mm_rw mr_101) (some .int) tb call Q C 0 lv st h kc ks = (match mm_rd lv 0 with
    | some (.inr (.inr (.inl (some k)))) => C 1 lv (vR k :: st) h kc ks
    | some (.inr (.inr (.inr t))) => C 1 lv (vT t :: st) h kc ks
    | _ => False) := rfl
theorem g101_1 (k : Nat) : mm_step (mm_rw mr_101) (some .int) tb call Q C 1 lv (.inr (.inr (.inl (some k))) :: st) h kc ks = (match h.2 k with
    | some (.inr (.inr (ci, fs))) => ci = 8 ∧ (match fs[19]? with
      | some v => C 4 lv (v :: st) h kc ks
      | none => False)
    | _ => False) := rfl
theorem g101_4 (a : Int32) : mm_step (mm_rw mr_101) (some .int) tb call Q C 4 lv (.inl a :: st) h kc ks = (C 5 (mm_st1 lv 1 (vI a)) st h kc ks) := rfl
theorem g101_5  : mm_step (mm_rw mr_101) (some .int) tb call Q C 5 lv st h kc ks = (match mm_rd lv 0 with
    | some (.inr (.inr (.inl (some k)))) => C 6 lv (vR k :: st) h kc ks
    | some (.inr (.inr (.inr t))) => C 6 lv (vT t :: st) h kc ks
    | _ => False) := rfl
theorem g101_6  : mm_step (mm_rw mr_101) (some .int) tb call Q C 6 lv st h kc ks = (C 7 lv (vI 0 :: st) h kc ks) := rfl
theorem g101_7 (v : AV) (k : Nat) : mm_step (mm_rw mr_101) (some .int) tb call Q C 7 lv (v :: .inr (.inr (.inl (some k))) :: st) h kc ks = (match h.2 k with
    | some (.inr (.inr (ci, fs))) => ci = 8 ∧ 19 < fs.length ∧ mm_fit (mm_ft 8 19) v ∧ C 10 lv st (mm_up h k (cO ci (fs.set 19 v))) kc ks
    | _ => False) := rfl
theorem g101_10  : mm_step (mm_rw mr_101) (some .int) tb call Q C 10 lv st h kc ks = (match mm_rd lv 1 with
    | some (.inl a) => C 11 lv (vI a :: st) h kc ks
    | _ => False) := rfl
theorem g101_11 (v : Int32) : mm_step (mm_rw mr_101) (some .int) tb call Q C 11 lv [.inl v] h kc ks = (True ∧ Q (some (vI v)) h) := rfl
end G101

abbrev sp_153 : List Nat := []
section G153
variable {tb : Nat → Nat × (Nat → Int32)} {call : CO} {Q : AQ} {C : CP} {lv : AL} {st : List AV} {h : AH} {kc ks : Nat}
theorem g153_0  : mm_step (mm_rw mr_153) (some .long) tb call Q C 0 lv st h kc ks = (match mm_rd lv 0 with
    | some (.inr (.inr (.inl (some k)))) => C 1 lv (vR k :: st) h kc ks
    | some (.inr (.inr (.inr t))) => C 1 lv (vT t :: st) h kc ks
    | _ => False) := rfl
theorem g153_1 (k : Nat) : mm_step (mm_rw mr_153) (some .long) tb call Q C 1 lv (.inr (.inr (.inl (some k))) :: st) h kc ks = (match h.2 k with
    | some (.inr (.inr (ci, fs))) => ci = 8 ∧ (match fs[39]? with
      | some v => C 4 lv (v :: st) h kc ks
      | none => False)
    | _ => False) := rfl
theorem g153_4 (a : Int64) : mm_step (mm_rw mr_153) (some .long) tb call Q C 4 lv (.inr (.inl a) :: st) h kc ks = (C 5 (mm_st2 lv 3 (vL a)) st h kc ks) := rfl
theorem g153_5  : mm_step (mm_rw mr_153) (some .long) tb call Q C 5 lv st h kc ks = (match mm_rd lv 0 with
    | some (.inr (.inr (.inl (some k)))) => C 6 lv (vR k :: st) h kc ks
    | some (.inr (.inr (.inr t))) => C 6 lv (vT t :: st) h kc ks
    | _ => False) := rfl
theorem g153_6  : mm_step (mm_rw mr_153) (some .long) tb call Q C 6 lv st h kc ks = (match mm_rd lv 1 with
    | some (.inr (.inl a)) => C 7 lv (vL a :: st) h kc ks
    | _ => False) := rfl
theorem g153_7 (v : AV) (k : Nat) : mm_step (mm_rw mr_153) (some .long) tb call Q C 7 lv (v :: .inr (.inr (.inl (some k))) :: st) h kc ks = (match h.2 k with
    | some (.inr (.inr (ci, fs))) => ci = 8 ∧ 39 < fs.length ∧ mm_fit (mm_ft 8 39) v ∧ C 10 lv st (mm_up h k (cO ci (fs.set 39 v))) kc ks
    | _ => False) := rfl
theorem g153_10  : mm_step (mm_rw mr_153) (some .long) tb call Q C 10 lv st h kc ks = (match mm_rd lv 3 with
    | some (.inr (.inl a)) => C 11 lv (vL a :: st) h kc ks
    | _ => False) := rfl
theorem g153_11 (v : Int64) : mm_step (mm_rw mr_153) (some .long) tb call Q C 11 lv [.inr (.inl v)] h kc ks = (some FieldType.long = some .long ∧ Q (some (vL v)) h) := rfl
end G153

abbrev sp_142 : List Nat := []
section G142
variable {tb : Nat → Nat × (Nat → Int32)} {call : CO} {Q : AQ} {C : CP} {lv : AL} {st : List AV} {h : AH} {kc ks : Nat}
theorem g142_0  : mm_step (mm_rw mr_142) (some .int) tb call Q C 0 lv st h kc ks = (match mm_rd lv 0 with
    | some (.inr (.inr (.inl (some k)))) => C 1 lv (vR k :: st) h kc ks
    | some (.inr (.inr (.inr t))) => C 1 lv (vT t :: st) h kc ks
    | _ => False) := rfl
theorem g142_1 (k : Nat) : mm_step (mm_rw mr_142) (some .int) tb call Q C 1 lv (.inr (.inr (.inl (some k))) :: st) h kc ks = (match h.2 k with
    | some (.inr (.inr (ci, fs))) => ci = 8 ∧ (match fs[33]? with
      | some v => C 4 lv (v :: st) h kc ks
      | none => False)
    | _ => False) := rfl
theorem g142_4 (a : Int32) : mm_step (mm_rw mr_142) (some .int) tb call Q C 4 lv (.inl a :: st) h kc ks = (C 5 (mm_st1 lv 1 (vI a)) st h kc ks) := rfl
theorem g142_5  : mm_step (mm_rw mr_142) (some .int) tb call Q C 5 lv st h kc ks = (match mm_rd lv 0 with
    | some (.inr (.inr (.inl (some k)))) => C 6 lv (vR k :: st) h kc ks
    | some (.inr (.inr (.inr t))) => C 6 lv (vT t :: st) h kc ks
    | _ => False) := rfl
theorem g142_6  : mm_step (mm_rw mr_142) (some .int) tb call Q C 6 lv st h kc ks = (C 7 lv (vI 0 :: st) h kc ks) := rfl
theorem g142_7 (v : AV) (k : Nat) : mm_step (mm_rw mr_142) (some .int) tb call Q C 7 lv (v :: .inr (.inr (.inl (some k))) :: st) h kc ks = (match h.2 k with
    | some (.inr (.inr (ci, fs))) => ci = 8 ∧ 33 < fs.length ∧ mm_fit (mm_ft 8 33) v ∧ C 10 lv st (mm_up h k (cO ci (fs.set 33 v))) kc ks
    | _ => False) := rfl
theorem g142_10  : mm_step (mm_rw mr_142) (some .int) tb call Q C 10 lv st h kc ks = (match mm_rd lv 1 with
    | some (.inl a) => C 11 lv (vI a :: st) h kc ks
    | _ => False) := rfl
theorem g142_11 (v : Int32) : mm_step (mm_rw mr_142) (some .int) tb call Q C 11 lv [.inl v] h kc ks = (True ∧ Q (some (vI v)) h) := rfl
end G142

abbrev sp_115 : List Nat := [9]
section G115
variable {tb : Nat → Nat × (Nat → Int32)} {call : CO} {Q : AQ} {C : CP} {lv : AL} {st : List AV} {h : AH} {kc ks : Nat}
theorem g115_0  : mm_step (mm_rw mr_115) (some .int) tb call Q C 0 lv st h kc ks = (match mm_rd lv 1 with
    | some (.inl a) => C 1 lv (vI a :: st) h kc ks
    | _ => False) := rfl
theorem g115_1 (a : Int32) : mm_step (mm_rw mr_115) (some .int) tb call Q C 1 lv (.inl a :: st) h kc ks = (C 2 lv (vL a.toInt64 :: st) h kc ks) := rfl
theorem g115_2  : mm_step (mm_rw mr_115) (some .int) tb call Q C 2 lv st h kc ks = (C 3 lv (vL 0 :: st) h kc ks) := rfl
theorem g115_3  : mm_step (mm_rw mr_115) (some .int) tb call Q C 3 lv st h kc ks = (C 6 lv (vL 2 :: st) h kc ks) := rfl
theorem g115_6  : mm_step (mm_rw mr_115) (some .int) tb call Q C 6 lv st h kc ks = (mm_call call C 99 3 6 lv st h kc ks) := rfl
theorem g115_9 (a : Int32) : mm_step (mm_rw mr_115) (some .int) tb call Q C 9 lv (.inl a :: st) h kc ks = ((¬ a = 0 → C 15 lv st h kc ks) ∧ (a = 0 → C 12 lv st h kc ks)) := rfl
theorem g115_12  : mm_step (mm_rw mr_115) (some .int) tb call Q C 12 lv st h kc ks = (C 14 lv (vI (mI 2) :: st) h kc ks) := rfl
theorem g115_14 (v : Int32) : mm_step (mm_rw mr_115) (some .int) tb call Q C 14 lv [.inl v] h kc ks = (True ∧ Q (some (vI v)) h) := rfl
theorem g115_15  : mm_step (mm_rw mr_115) (some .int) tb call Q C 15 lv st h kc ks = (match mm_rd lv 0 with
    | some (.inr (.inr (.inl (some k)))) => C 16 lv (vR k :: st) h kc ks
    | some (.inr (.inr (.inr t))) => C 16 lv (vT t :: st) h kc ks
    | _ => False) := rfl
theorem g115_16 (k : Nat) : mm_step (mm_rw mr_115) (some .int) tb call Q C 16 lv (.inr (.inr (.inl (some k))) :: st) h kc ks = (match h.2 k with
    | some (.inr (.inr (ci, fs))) => ci = 8 ∧ (match fs[13]? with
      | some v => C 19 lv (v :: st) h kc ks
      | none => False)
    | _ => False) := rfl
theorem g115_19 (a : Int32) : mm_step (mm_rw mr_115) (some .int) tb call Q C 19 lv (.inl a :: st) h kc ks = (C 20 (mm_st1 lv 2 (vI a)) st h kc ks) := rfl
theorem g115_20  : mm_step (mm_rw mr_115) (some .int) tb call Q C 20 lv st h kc ks = (match mm_rd lv 0 with
    | some (.inr (.inr (.inl (some k)))) => C 21 lv (vR k :: st) h kc ks
    | some (.inr (.inr (.inr t))) => C 21 lv (vT t :: st) h kc ks
    | _ => False) := rfl
theorem g115_21  : mm_step (mm_rw mr_115) (some .int) tb call Q C 21 lv st h kc ks = (match mm_rd lv 1 with
    | some (.inl a) => C 22 lv (vI a :: st) h kc ks
    | _ => False) := rfl
theorem g115_22 (v : AV) (k : Nat) : mm_step (mm_rw mr_115) (some .int) tb call Q C 22 lv (v :: .inr (.inr (.inl (some k))) :: st) h kc ks = (match h.2 k with
    | some (.inr (.inr (ci, fs))) => ci = 8 ∧ 13 < fs.length ∧ mm_fit (mm_ft 8 13) v ∧ C 25 lv st (mm_up h k (cO ci (fs.set 13 v))) kc ks
    | _ => False) := rfl
theorem g115_25  : mm_step (mm_rw mr_115) (some .int) tb call Q C 25 lv st h kc ks = (match mm_rd lv 2 with
    | some (.inl a) => C 26 lv (vI a :: st) h kc ks
    | _ => False) := rfl
theorem g115_26 (v : Int32) : mm_step (mm_rw mr_115) (some .int) tb call Q C 26 lv [.inl v] h kc ks = (True ∧ Q (some (vI v)) h) := rfl
end G115

abbrev sp_111 : List Nat := [13]
section G111
variable {tb : Nat → Nat × (Nat → Int32)} {call : CO} {Q : AQ} {C : CP} {lv : AL} {st : List AV} {h : AH} {kc ks : Nat}
theorem g111_0  : mm_step (mm_rw mr_111) (some .int) tb call Q C 0 lv st h kc ks = (match mm_rd lv 1 with
    | some (.inl a) => C 1 lv (vI a :: st) h kc ks
    | _ => False) := rfl
theorem g111_1 (a : Int32) : mm_step (mm_rw mr_111) (some .int) tb call Q C 1 lv (.inl a :: st) h kc ks = (C 2 lv (vL a.toInt64 :: st) h kc ks) := rfl
theorem g111_2  : mm_step (mm_rw mr_111) (some .int) tb call Q C 2 lv st h kc ks = (C 3 lv (vL 0 :: st) h kc ks) := rfl
theorem g111_3  : mm_step (mm_rw mr_111) (some .int) tb call Q C 3 lv st h kc ks = (match mm_rd lv 0 with
    | some (.inr (.inr (.inl (some k)))) => C 4 lv (vR k :: st) h kc ks
    | some (.inr (.inr (.inr t))) => C 4 lv (vT t :: st) h kc ks
    | _ => False) := rfl
theorem g111_4 (k : Nat) : mm_step (mm_rw mr_111) (some .int) tb call Q C 4 lv (.inr (.inr (.inl (some k))) :: st) h kc ks = (match h.2 k with
    | some (.inr (.inr (ci, fs))) => ci = 8 ∧ (match fs[15]? with
      | some v => C 7 lv (v :: st) h kc ks
      | none => False)
    | _ => False) := rfl
theorem g111_7  : mm_step (mm_rw mr_111) (some .int) tb call Q C 7 lv st h kc ks = (C 8 lv (vI 1 :: st) h kc ks) := rfl
theorem g111_8 (a b : Int32) : mm_step (mm_rw mr_111) (some .int) tb call Q C 8 lv (.inl b :: .inl a :: st) h kc ks = (C 9 lv (vI (a - b) :: st) h kc ks) := rfl
theorem g111_9 (a : Int32) : mm_step (mm_rw mr_111) (some .int) tb call Q C 9 lv (.inl a :: st) h kc ks = (C 10 lv (vL a.toInt64 :: st) h kc ks) := rfl
theorem g111_10  : mm_step (mm_rw mr_111) (some .int) tb call Q C 10 lv st h kc ks = (mm_call call C 99 3 10 lv st h kc ks) := rfl
theorem g111_13 (a : Int32) : mm_step (mm_rw mr_111) (some .int) tb call Q C 13 lv (.inl a :: st) h kc ks = ((a = 0 → C 25 lv st h kc ks) ∧ (¬ a = 0 → C 16 lv st h kc ks)) := rfl
theorem g111_16  : mm_step (mm_rw mr_111) (some .int) tb call Q C 16 lv st h kc ks = (match mm_rd lv 0 with
    | some (.inr (.inr (.inl (some k)))) => C 17 lv (vR k :: st) h kc ks
    | some (.inr (.inr (.inr t))) => C 17 lv (vT t :: st) h kc ks
    | _ => False) := rfl
theorem g111_17 (k : Nat) : mm_step (mm_rw mr_111) (some .int) tb call Q C 17 lv (.inr (.inr (.inl (some k))) :: st) h kc ks = (match h.2 k with
    | some (.inr (.inr (ci, fs))) => ci = 8 ∧ (match fs[14]? with
      | some v => C 20 lv (v :: st) h kc ks
      | none => False)
    | _ => False) := rfl
theorem g111_20  : mm_step (mm_rw mr_111) (some .int) tb call Q C 20 lv st h kc ks = (match mm_rd lv 1 with
    | some (.inl a) => C 21 lv (vI a :: st) h kc ks
    | _ => False) := rfl
theorem g111_21 (i : Int32) (k : Nat) : mm_step (mm_rw mr_111) (some .int) tb call Q C 21 lv (.inl i :: .inr (.inr (.inl (some k))) :: st) h kc ks = (match h.2 k with
    | some (.inl (.int, n, f)) => vp_in i n ∧ C 22 lv (vI (f i.toNatClampNeg) :: st) h kc ks
    | _ => False) := rfl
theorem g111_21t (i : Int32) (t : Nat) : mm_step (mm_rw mr_111) (some .int) tb call Q C 21 lv (.inl i :: .inr (.inr (.inr t)) :: st) h kc ks = (vp_in i (tb t).1 ∧ C 22 lv (vI ((tb t).2 i.toNatClampNeg) :: st) h kc ks) := rfl
theorem g111_22  : mm_step (mm_rw mr_111) (some .int) tb call Q C 22 lv st h kc ks = (C 27 lv st h kc ks) := rfl
theorem g111_25  : mm_step (mm_rw mr_111) (some .int) tb call Q C 25 lv st h kc ks = (C 27 lv (vI (mI 9) :: st) h kc ks) := rfl
theorem g111_27 (v : Int32) : mm_step (mm_rw mr_111) (some .int) tb call Q C 27 lv [.inl v] h kc ks = (True ∧ Q (some (vI v)) h) := rfl
end G111

abbrev sp_141 : List Nat := [5, 13]
section G141
variable {tb : Nat → Nat × (Nat → Int32)} {call : CO} {Q : AQ} {C : CP} {lv : AL} {st : List AV} {h : AH} {kc ks : Nat}
theorem g141_0  : mm_step (mm_rw mr_141) (some .int) tb call Q C 0 lv st h kc ks = (match mm_rd lv 0 with
    | some (.inr (.inr (.inl (some k)))) => C 1 lv (vR k :: st) h kc ks
    | some (.inr (.inr (.inr t))) => C 1 lv (vT t :: st) h kc ks
    | _ => False) := rfl
theorem g141_1  : mm_step (mm_rw mr_141) (some .int) tb call Q C 1 lv st h kc ks = (match mm_rd lv 1 with
    | some (.inl a) => C 2 lv (vI a :: st) h kc ks
    | _ => False) := rfl
theorem g141_2  : mm_step (mm_rw mr_141) (some .int) tb call Q C 2 lv st h kc ks = ((match (st.take 2).reverse with
    | .inr (.inr (.inl (some k))) :: _ => (match h.2 k with
      | some (.inr (.inr (ci, _))) => mm_cn ci = (mm_mi 107).1.cls
      | _ => False)
    | _ => False) ∧ mm_call call C 107 2 2 lv st h kc ks) := rfl
theorem g141_5 (a : Int32) : mm_step (mm_rw mr_141) (some .int) tb call Q C 5 lv (.inl a :: st) h kc ks = ((a = 0 → C 16 lv st h kc ks) ∧ (¬ a = 0 → C 8 lv st h kc ks)) := rfl
theorem g141_8  : mm_step (mm_rw mr_141) (some .int) tb call Q C 8 lv st h kc ks = (match mm_rd lv 0 with
    | some (.inr (.inr (.inl (some k)))) => C 9 lv (vR k :: st) h kc ks
    | some (.inr (.inr (.inr t))) => C 9 lv (vT t :: st) h kc ks
    | _ => False) := rfl
theorem g141_9  : mm_step (mm_rw mr_141) (some .int) tb call Q C 9 lv st h kc ks = (match mm_rd lv 2 with
    | some (.inl a) => C 10 lv (vI a :: st) h kc ks
    | _ => False) := rfl
theorem g141_10  : mm_step (mm_rw mr_141) (some .int) tb call Q C 10 lv st h kc ks = ((match (st.take 2).reverse with
    | .inr (.inr (.inl (some k))) :: _ => (match h.2 k with
      | some (.inr (.inr (ci, _))) => mm_cn ci = (mm_mi 107).1.cls
      | _ => False)
    | _ => False) ∧ mm_call call C 107 2 10 lv st h kc ks) := rfl
theorem g141_13 (a : Int32) : mm_step (mm_rw mr_141) (some .int) tb call Q C 13 lv (.inl a :: st) h kc ks = ((¬ a = 0 → C 18 lv st h kc ks) ∧ (a = 0 → C 16 lv st h kc ks)) := rfl
theorem g141_16  : mm_step (mm_rw mr_141) (some .int) tb call Q C 16 lv st h kc ks = (C 17 lv (vI (mI 1) :: st) h kc ks) := rfl
theorem g141_17 (v : Int32) : mm_step (mm_rw mr_141) (some .int) tb call Q C 17 lv [.inl v] h kc ks = (True ∧ Q (some (vI v)) h) := rfl
theorem g141_18  : mm_step (mm_rw mr_141) (some .int) tb call Q C 18 lv st h kc ks = (match mm_rd lv 0 with
    | some (.inr (.inr (.inl (some k)))) => C 19 lv (vR k :: st) h kc ks
    | some (.inr (.inr (.inr t))) => C 19 lv (vT t :: st) h kc ks
    | _ => False) := rfl
theorem g141_19 (k : Nat) : mm_step (mm_rw mr_141) (some .int) tb call Q C 19 lv (.inr (.inr (.inl (some k))) :: st) h kc ks = (match h.2 k with
    | some (.inr (.inr (ci, fs))) => ci = 8 ∧ (match fs[33]? with
      | some v => C 22 lv (v :: st) h kc ks
      | none => False)
    | _ => False) := rfl
theorem g141_22  : mm_step (mm_rw mr_141) (some .int) tb call Q C 22 lv st h kc ks = (C 24 lv (vI 6 :: st) h kc ks) := rfl
theorem g141_24 (a b : Int32) : mm_step (mm_rw mr_141) (some .int) tb call Q C 24 lv (.inl b :: .inl a :: st) h kc ks = ((¬ a = b → C 30 lv st h kc ks) ∧ (a = b → C 27 lv st h kc ks)) := rfl
theorem g141_27  : mm_step (mm_rw mr_141) (some .int) tb call Q C 27 lv st h kc ks = (C 29 lv (vI (mI 4) :: st) h kc ks) := rfl
theorem g141_29 (v : Int32) : mm_step (mm_rw mr_141) (some .int) tb call Q C 29 lv [.inl v] h kc ks = (True ∧ Q (some (vI v)) h) := rfl
theorem g141_30  : mm_step (mm_rw mr_141) (some .int) tb call Q C 30 lv st h kc ks = (match mm_rd lv 0 with
    | some (.inr (.inr (.inl (some k)))) => C 31 lv (vR k :: st) h kc ks
    | some (.inr (.inr (.inr t))) => C 31 lv (vT t :: st) h kc ks
    | _ => False) := rfl
theorem g141_31 (k : Nat) : mm_step (mm_rw mr_141) (some .int) tb call Q C 31 lv (.inr (.inr (.inl (some k))) :: st) h kc ks = (match h.2 k with
    | some (.inr (.inr (ci, fs))) => ci = 8 ∧ (match fs[34]? with
      | some v => C 34 lv (v :: st) h kc ks
      | none => False)
    | _ => False) := rfl
theorem g141_34  : mm_step (mm_rw mr_141) (some .int) tb call Q C 34 lv st h kc ks = (match mm_rd lv 0 with
    | some (.inr (.inr (.inl (some k)))) => C 35 lv (vR k :: st) h kc ks
    | some (.inr (.inr (.inr t))) => C 35 lv (vT t :: st) h kc ks
    | _ => False) := rfl
theorem g141_35 (k : Nat) : mm_step (mm_rw mr_141) (some .int) tb call Q C 35 lv (.inr (.inr (.inl (some k))) :: st) h kc ks = (match h.2 k with
    | some (.inr (.inr (ci, fs))) => ci = 8 ∧ (match fs[33]? with
      | some v => C 38 lv (v :: st) h kc ks
      | none => False)
    | _ => False) := rfl
theorem g141_38  : mm_step (mm_rw mr_141) (some .int) tb call Q C 38 lv st h kc ks = (match mm_rd lv 1 with
    | some (.inl a) => C 39 lv (vI a :: st) h kc ks
    | _ => False) := rfl
theorem g141_39 (v i : Int32) (k : Nat) : mm_step (mm_rw mr_141) (some .int) tb call Q C 39 lv (.inl v :: .inl i :: .inr (.inr (.inl (some k))) :: st) h kc ks = (match h.2 k with
    | some (.inl (.int, n, f)) => vp_in i n ∧ C 40 lv st (mm_up h k (cI n (upd f i.toNatClampNeg v))) kc ks
    | _ => False) := rfl
theorem g141_40  : mm_step (mm_rw mr_141) (some .int) tb call Q C 40 lv st h kc ks = (match mm_rd lv 0 with
    | some (.inr (.inr (.inl (some k)))) => C 41 lv (vR k :: st) h kc ks
    | some (.inr (.inr (.inr t))) => C 41 lv (vT t :: st) h kc ks
    | _ => False) := rfl
theorem g141_41 (k : Nat) : mm_step (mm_rw mr_141) (some .int) tb call Q C 41 lv (.inr (.inr (.inl (some k))) :: st) h kc ks = (match h.2 k with
    | some (.inr (.inr (ci, fs))) => ci = 8 ∧ (match fs[35]? with
      | some v => C 44 lv (v :: st) h kc ks
      | none => False)
    | _ => False) := rfl
theorem g141_44  : mm_step (mm_rw mr_141) (some .int) tb call Q C 44 lv st h kc ks = (match mm_rd lv 0 with
    | some (.inr (.inr (.inl (some k)))) => C 45 lv (vR k :: st) h kc ks
    | some (.inr (.inr (.inr t))) => C 45 lv (vT t :: st) h kc ks
    | _ => False) := rfl
theorem g141_45 (k : Nat) : mm_step (mm_rw mr_141) (some .int) tb call Q C 45 lv (.inr (.inr (.inl (some k))) :: st) h kc ks = (match h.2 k with
    | some (.inr (.inr (ci, fs))) => ci = 8 ∧ (match fs[33]? with
      | some v => C 48 lv (v :: st) h kc ks
      | none => False)
    | _ => False) := rfl
theorem g141_48  : mm_step (mm_rw mr_141) (some .int) tb call Q C 48 lv st h kc ks = (match mm_rd lv 2 with
    | some (.inl a) => C 49 lv (vI a :: st) h kc ks
    | _ => False) := rfl
theorem g141_49 (v i : Int32) (k : Nat) : mm_step (mm_rw mr_141) (some .int) tb call Q C 49 lv (.inl v :: .inl i :: .inr (.inr (.inl (some k))) :: st) h kc ks = (match h.2 k with
    | some (.inl (.int, n, f)) => vp_in i n ∧ C 50 lv st (mm_up h k (cI n (upd f i.toNatClampNeg v))) kc ks
    | _ => False) := rfl
theorem g141_50  : mm_step (mm_rw mr_141) (some .int) tb call Q C 50 lv st h kc ks = (match mm_rd lv 0 with
    | some (.inr (.inr (.inl (some k)))) => C 51 lv (vR k :: st) h kc ks
    | some (.inr (.inr (.inr t))) => C 51 lv (vT t :: st) h kc ks
    | _ => False) := rfl
theorem g141_51 (v : AV) : mm_step (mm_rw mr_141) (some .int) tb call Q C 51 lv (v :: st) h kc ks = (mm_c2 v = false ∧ C 52 lv (v :: v :: st) h kc ks) := rfl
theorem g141_52 (k : Nat) : mm_step (mm_rw mr_141) (some .int) tb call Q C 52 lv (.inr (.inr (.inl (some k))) :: st) h kc ks = (match h.2 k with
    | some (.inr (.inr (ci, fs))) => ci = 8 ∧ (match fs[33]? with
      | some v => C 55 lv (v :: st) h kc ks
      | none => False)
    | _ => False) := rfl
theorem g141_55  : mm_step (mm_rw mr_141) (some .int) tb call Q C 55 lv st h kc ks = (C 56 lv (vI 1 :: st) h kc ks) := rfl
theorem g141_56 (a b : Int32) : mm_step (mm_rw mr_141) (some .int) tb call Q C 56 lv (.inl b :: .inl a :: st) h kc ks = (C 57 lv (vI (a + b) :: st) h kc ks) := rfl
theorem g141_57 (v : AV) (k : Nat) : mm_step (mm_rw mr_141) (some .int) tb call Q C 57 lv (v :: .inr (.inr (.inl (some k))) :: st) h kc ks = (match h.2 k with
    | some (.inr (.inr (ci, fs))) => ci = 8 ∧ 33 < fs.length ∧ mm_fit (mm_ft 8 33) v ∧ C 60 lv st (mm_up h k (cO ci (fs.set 33 v))) kc ks
    | _ => False) := rfl
theorem g141_60  : mm_step (mm_rw mr_141) (some .int) tb call Q C 60 lv st h kc ks = (match mm_rd lv 0 with
    | some (.inr (.inr (.inl (some k)))) => C 61 lv (vR k :: st) h kc ks
    | some (.inr (.inr (.inr t))) => C 61 lv (vT t :: st) h kc ks
    | _ => False) := rfl
theorem g141_61 (k : Nat) : mm_step (mm_rw mr_141) (some .int) tb call Q C 61 lv (.inr (.inr (.inl (some k))) :: st) h kc ks = (match h.2 k with
    | some (.inr (.inr (ci, fs))) => ci = 8 ∧ (match fs[33]? with
      | some v => C 64 lv (v :: st) h kc ks
      | none => False)
    | _ => False) := rfl
theorem g141_64 (v : Int32) : mm_step (mm_rw mr_141) (some .int) tb call Q C 64 lv [.inl v] h kc ks = (True ∧ Q (some (vI v)) h) := rfl
end G141

def aWipe (g : SG) : Int32 × SG := (nI (gTx g).length, ([], g.2))
def aSeed (g : SG) (v : Int64) : Int64 × SG := (gSd g, (g.1, g.2.1, g.2.2.1, g.2.2.2.1, g.2.2.2.2.1, g.2.2.2.2.2.1, g.2.2.2.2.2.2.1, g.2.2.2.2.2.2.2.1, g.2.2.2.2.2.2.2.2.1, g.2.2.2.2.2.2.2.2.2.1, v))
def setTo (g : SG) (t : List (Nat × Nat)) : SG := (g.1, g.2.1, g.2.2.1, g.2.2.2.1, g.2.2.2.2.1, g.2.2.2.2.2.1, g.2.2.2.2.2.2.1, t, g.2.2.2.2.2.2.2.2)
def aForget (g : SG) : Int32 × SG := (nI (gTo g).length, setTo g [])
def aLaw (g : SG) (x : Int32) : Int32 × SG := if isB x 3 = true then (nI (gLw g), (g.1, x.toNatClampNeg, g.2.2)) else (mI 2, g)
def aAt (g : SG) (x : Int32) : Int32 := if isB x (gDk g).1.length = true then nI ((gDk g).1.getD x.toNatClampNeg 0) else mI 9
def aGiven (g : SG) (x y : Int32) : Int32 × SG := if (isB x (gN g) && isB y (gN g)) = true then (if (gTo g).length = 6 then (mI 4, g) else (nI ((gTo g).length + 1), setTo g (gTo g ++ [(x.toNatClampNeg, y.toNatClampNeg)]))) else (mI 1, g)
section OPS1
variable {tb : Nat → Nat × (Nat → Int32)} {d : Nat} {s : MM} {g : SG}
theorem C_wipe (hC : InvC g s) : WM tb (d + 1) k_B_wipe [vR 0] (HP s) 0 0 (PostC (aWipe g).2 s (vI (aWipe g).1)) := by
  obtain ⟨h1, h2, h3, h4, h5, h6, h7, h8⟩ := hC
  refine WM.of mi_56 rfl rfl (Nat.le_of_ble_eq_true rfl) ?_
  show WP (mm_rw mr_56) (some .int) tb (WM tb d) _ 0 [(0, vR 0)] [] (HP s) 0 0
  (try simp only [Option.toList_some, Option.toList_none, List.nil_append, List.append_nil, List.cons_append, Nat.sub_zero, Nat.sub_self, Nat.zero_sub]); refine Go.wp sp_56 200 ?_; simp only [↓g56_0, ↓g56_1, ↓g56_4, ↓g56_5, ↓g56_6, ↓g56_7, ↓g56_10, ↓g56_11, ↓Go_s, ↓GoC_a, ↓reduceIte, ↓mm_call_eq, ↓mmw_nil, ↓mmw_cons, List.take_succ_cons, List.take_zero, List.take_nil, List.drop_succ_cons, List.drop_zero, List.drop_nil, List.reverse_cons, List.reverse_nil, List.nil_append, List.cons_append, List.append_nil, Option.toList_some, Option.toList_none, Nat.sub_zero, Nat.le_refl, mmr_cons, mm_st1, mm_st2, mmi_nil, mmi_cons, mmc_I, mmc_L, mmc_R, mmu_get, mmu_one, mma_get, mma_one, List.filter_cons, List.filter_nil, List.contains_cons, List.contains_nil, Nat.reduceBEq, Nat.reduceAdd, Nat.reduceLT, Nat.reduceSub, Nat.reduceLeDiff, Nat.reduceEqDiff, Int32.reduceAdd, Bool.not_true, Bool.not_false, Bool.and_true, Bool.true_and, Bool.and_false, Bool.false_and, Bool.or_false, Bool.false_or, Bool.or_true, Bool.true_or, if_true, if_false, ite_true, ite_false, Bool.false_eq_true, List.getElem?_cons_zero, List.getElem?_cons_succ, List.length_cons, List.length_nil, true_and, and_true, List.set_cons_zero, List.set_cons_succ, Fin.isValue, Fin.val_zero, Fin.val_one, Fin.val_two, Fin.reduceFinMk, Nat.zero_add, hp_0, hp_1, hp_2, hp_3, hp_4, hp_5, hp_6, hp_7, hp_8, hp_9, hp_10, hp_11, hp_12, hp_13, hp_14, hp_15, hp_16, hp_17, hp_18, hp_19, hp_20, hp_21, hp_22, hp_23, hp_24, hp_25, hp_26, hp_27, hp_28, hp_29, hp_30, hp_31, hp_32, hp_33, hp_34, hp_35, hp_36, hp_37, hp_38, hp_39, hp_40, hp_41, hp_42, hp_43, hp_44, hp_45, hp_46, hp_47, hp_48, hp_49, hp_50, hp_51, hp_52, hp_53, hp_54, hp_55, hp_56, hp_57, hp_58, hp_59, hp_60, hp_61, hp_62, hp_63, hp_64, hp_65, hp_66, hp_67, hp_68, hp_69, hp_70, hp_71, hp_72, hp_73, hp_74, og_0_0, og_0_1, og_0_2, og_0_3, og_0_4, og_0_5, og_0_6, og_0_7, og_0_8, og_0_9, og_0_10, og_0_11, og_0_12, og_0_13, ol_0, og_2_0, og_2_1, og_2_2, og_2_3, og_2_4, og_2_5, og_2_6, ol_2, og_3_0, og_3_1, ol_3, og_5_0, og_5_1, ol_5, og_9_0, og_9_1, og_9_2, og_9_3, og_9_4, og_9_5, og_9_6, ol_9, og_10_0, og_10_1, ol_10, og_12_0, og_12_1, ol_12, og_16_0, og_16_1, og_16_2, ol_16, og_17_0, og_17_1, ol_17, og_21_0, og_21_1, og_21_2, og_21_3, og_21_4, ol_21, og_27_0, og_27_1, og_27_2, og_27_3, og_27_4, og_27_5, og_27_6, og_27_7, og_27_8, og_27_9, og_27_10, ol_27, og_35_0, og_35_1, ol_35, og_37_0, og_37_1, ol_37, og_39_0, og_39_1, ol_39, og_41_0, og_41_1, ol_41, og_43_0, og_43_1, ol_43, og_45_0, og_45_1, ol_45, og_47_0, og_47_1, ol_47, og_49_0, og_49_1, og_49_2, og_49_3, ol_49, og_53_0, og_53_1, ol_53, og_55_0, og_55_1, ol_55, og_57_0, og_57_1, ol_57, og_59_0, og_59_1, ol_59, og_61_0, og_61_1, ol_61, og_63_0, og_63_1, ol_63, og_65_0, og_65_1, og_65_2, ol_65, og_66_0, og_66_1, ol_66, og_70_0, og_70_1, og_70_2, ol_70, og_71_0, og_71_1, ol_71, uo_0_1, uo_0_4, uo_0_8, ua_1, uo_2_0, uo_2_1, uo_2_2, uo_3_1, ua_4, uo_5_1, ua_6, ua_7, ua_8, uo_9_0, uo_9_1, uo_9_2, uo_10_1, ua_11, uo_12_1, ua_13, ua_14, ua_15, uo_17_1, ua_18, ua_19, ua_20, uo_21_4, ua_22, ua_23, ua_24, ua_25, uo_27_2, uo_27_6, uo_27_7, uo_27_8, ua_28, ua_29, ua_31, ua_32, ua_33, ua_34, uo_35_1, ua_36, uo_37_1, ua_38, uo_39_1, ua_40, uo_41_1, ua_42, uo_43_1, ua_44, uo_45_1, ua_46, uo_47_1, ua_48, uo_49_3, ua_51, ua_52, uo_53_1, ua_54, uo_55_1, ua_56, uo_57_1, ua_58, uo_59_1, ua_60, uo_61_1, ua_62, uo_63_1, ua_64, uo_66_1, ua_67, ua_68, ua_69, uo_71_1, ua_72, ua_73, ua_74, sO_g, sA_g, sA_O, sO_A, sO_2, sC_1, sC_2, sC_3, sC_4, sC_5, sC_6, sW_1, sW_2, sW_3, sW_4, uc_0, h1.1]
  simp (disch := omega) only [lit_0, lit_1, lit_2, lit_3, lit_4, lit_5, lit_6, lit_7, lit_8, lit_9, lit_10, lit_16, lit_40, lit_48, lit_60, lit_67, lit_76, lit_82, lit_99, lit_100, lit_255, lit_508, lit_720, lit_1023, nI_1, nI_add, pk_sub, pk_mul, pk_div, nu_rem2, nI_clamp, nu_m, nu_m', nu_lm, nu_ml, nu_ltm, nu_mlt, nu_mm, nu_dec, nu_in, nu_le, nu_lt, nu_eq, true_and, and_true, false_imp_iff, true_imp_iff, not_true_eq_false, not_false_eq_true, Nat.not_lt_zero, Nat.zero_le, Nat.le_refl, Nat.lt_irrefl, Nat.reduceEqDiff, Nat.reduceLT, Nat.reduceLeDiff, Nat.reduceAdd, Nat.reduceSub, Nat.reduceMul, Nat.reduceMod, Nat.reduceDiv, Nat.one_ne_zero, Nat.zero_ne_one, ft_0_0, ft_0_1, ft_0_2, ft_0_3, ft_0_4, ft_1_0, ft_1_1, ft_1_2, ft_2_0, ft_2_1, ft_2_2, ft_2_3, ft_2_4, ft_2_5, ft_2_6, ft_2_7, ft_2_8, ft_2_9, ft_2_10, ft_3_0, ft_3_1, ft_3_2, ft_3_3, ft_4_0, ft_4_1, ft_4_2, ft_4_3, ft_4_4, ft_4_5, ft_4_6, ft_5_0, ft_5_1, ft_6_0, ft_6_1, ft_6_2, ft_6_3, ft_6_4, ft_6_5, ft_6_6, ft_7_0, ft_7_1, ft_7_2, ft_7_3, ft_7_4, ft_7_5, ft_7_6, ft_7_7, ft_7_8, ft_7_9, ft_7_10, ft_7_11, ft_7_12, ft_7_13, ft_8_0, ft_8_1, ft_8_2, ft_8_3, ft_8_4, ft_8_5, ft_8_6, ft_8_7, ft_8_8, ft_8_9, ft_8_10, ft_8_11, ft_8_12, ft_8_13, ft_8_14, ft_8_15, ft_8_16, ft_8_17, ft_8_18, ft_8_19, ft_8_20, ft_8_21, ft_8_22, ft_8_23, ft_8_24, ft_8_25, ft_8_26, ft_8_27, ft_8_28, ft_8_29, ft_8_30, ft_8_31, ft_8_32, ft_8_33, ft_8_34, ft_8_35, ft_8_36, ft_8_37, ft_8_38, ft_8_39, ft_8_40, ft_8_41, nu_fitI, nu_fitL, nu_fitO, nu_fitA, nu_fitB0, nu_fitB1]
  exact ⟨rfl, _, rfl, ⟨⟨rfl, fun j hj => absurd hj (Nat.not_lt_zero _)⟩, cPl.ag h2 ⟨rfl, rfl, rfl⟩ rfl (ag2O (by omega)), h3, h4, h5, h6, h7, h8⟩, agM.sO (by omega)⟩
theorem M_wipe (hM : InvM g s) : WM tb (d + 1) k_M_wipe [vR 75] (HP s) 0 0 (PostM (aWipe g).2 s (vI (aWipe g).1)) := by
  obtain ⟨h1, h2, h3, h4, h5, h6, h7, h8⟩ := hM
  refine WM.of mi_101 rfl rfl (Nat.le_of_ble_eq_true rfl) ?_
  show WP (mm_rw mr_101) (some .int) tb (WM tb d) _ 0 [(0, vR 75)] [] (HP s) 0 0
  (try simp only [Option.toList_some, Option.toList_none, List.nil_append, List.append_nil, List.cons_append, Nat.sub_zero, Nat.sub_self, Nat.zero_sub]); refine Go.wp sp_101 200 ?_; simp only [↓g101_0, ↓g101_1, ↓g101_4, ↓g101_5, ↓g101_6, ↓g101_7, ↓g101_10, ↓g101_11, ↓Go_s, ↓GoC_a, ↓reduceIte, ↓mm_call_eq, ↓mmw_nil, ↓mmw_cons, List.take_succ_cons, List.take_zero, List.take_nil, List.drop_succ_cons, List.drop_zero, List.drop_nil, List.reverse_cons, List.reverse_nil, List.nil_append, List.cons_append, List.append_nil, Option.toList_some, Option.toList_none, Nat.sub_zero, Nat.le_refl, mmr_cons, mm_st1, mm_st2, mmi_nil, mmi_cons, mmc_I, mmc_L, mmc_R, mmu_get, mmu_one, mma_get, mma_one, List.filter_cons, List.filter_nil, List.contains_cons, List.contains_nil, Nat.reduceBEq, Nat.reduceAdd, Nat.reduceLT, Nat.reduceSub, Nat.reduceLeDiff, Nat.reduceEqDiff, Int32.reduceAdd, Bool.not_true, Bool.not_false, Bool.and_true, Bool.true_and, Bool.and_false, Bool.false_and, Bool.or_false, Bool.false_or, Bool.or_true, Bool.true_or, if_true, if_false, ite_true, ite_false, Bool.false_eq_true, List.getElem?_cons_zero, List.getElem?_cons_succ, List.length_cons, List.length_nil, true_and, and_true, List.set_cons_zero, List.set_cons_succ, Fin.isValue, Fin.val_zero, Fin.val_one, Fin.val_two, Fin.reduceFinMk, Nat.zero_add, hp_75, hp_76, hp_77, hp_78, hp_79, hp_80, hp_81, hp_82, hp_83, hp_84, hp_85, hp_86, hp_87, hp_88, hp_89, hp_90, hp_91, hp_92, hp_93, hp_94, hp_95, hp_96, hp_97, hp_98, og_75_0, og_75_1, og_75_2, og_75_3, og_75_4, og_75_5, og_75_6, og_75_7, og_75_8, og_75_9, og_75_10, og_75_11, og_75_12, og_75_13, og_75_14, og_75_15, og_75_16, og_75_17, og_75_18, og_75_19, og_75_20, og_75_21, og_75_22, og_75_23, og_75_24, og_75_25, og_75_26, og_75_27, og_75_28, og_75_29, og_75_30, og_75_31, og_75_32, og_75_33, og_75_34, og_75_35, og_75_36, og_75_37, og_75_38, og_75_39, og_75_40, og_75_41, ol_75, uo_75_4, uo_75_5, uo_75_6, uo_75_7, uo_75_11, uo_75_12, uo_75_13, uo_75_15, uo_75_19, uo_75_20, uo_75_21, uo_75_22, uo_75_23, uo_75_26, uo_75_30, uo_75_31, uo_75_32, uo_75_33, ua_76, ua_77, ua_78, ua_79, ua_80, ua_81, ua_82, ua_83, ua_84, ua_85, ua_86, ua_87, ua_88, ua_89, ua_90, ua_91, ua_92, ua_93, ua_94, ua_95, ua_96, ua_97, ua_98, sO_g, sA_g, sA_O, sO_A, sO_2, sM_1, sM_2, sM_3, sM_4, sM_5, sM_6, uc_75, h1.1]
  simp (disch := omega) only [lit_0, lit_1, lit_2, lit_3, lit_4, lit_5, lit_6, lit_7, lit_8, lit_9, lit_10, lit_16, lit_40, lit_48, lit_60, lit_67, lit_76, lit_82, lit_99, lit_100, lit_255, lit_508, lit_720, lit_1023, nI_1, nI_add, pk_sub, pk_mul, pk_div, nu_rem2, nI_clamp, nu_m, nu_m', nu_lm, nu_ml, nu_ltm, nu_mlt, nu_mm, nu_dec, nu_in, nu_le, nu_lt, nu_eq, true_and, and_true, false_imp_iff, true_imp_iff, not_true_eq_false, not_false_eq_true, Nat.not_lt_zero, Nat.zero_le, Nat.le_refl, Nat.lt_irrefl, Nat.reduceEqDiff, Nat.reduceLT, Nat.reduceLeDiff, Nat.reduceAdd, Nat.reduceSub, Nat.reduceMul, Nat.reduceMod, Nat.reduceDiv, Nat.one_ne_zero, Nat.zero_ne_one, ft_0_0, ft_0_1, ft_0_2, ft_0_3, ft_0_4, ft_1_0, ft_1_1, ft_1_2, ft_2_0, ft_2_1, ft_2_2, ft_2_3, ft_2_4, ft_2_5, ft_2_6, ft_2_7, ft_2_8, ft_2_9, ft_2_10, ft_3_0, ft_3_1, ft_3_2, ft_3_3, ft_4_0, ft_4_1, ft_4_2, ft_4_3, ft_4_4, ft_4_5, ft_4_6, ft_5_0, ft_5_1, ft_6_0, ft_6_1, ft_6_2, ft_6_3, ft_6_4, ft_6_5, ft_6_6, ft_7_0, ft_7_1, ft_7_2, ft_7_3, ft_7_4, ft_7_5, ft_7_6, ft_7_7, ft_7_8, ft_7_9, ft_7_10, ft_7_11, ft_7_12, ft_7_13, ft_8_0, ft_8_1, ft_8_2, ft_8_3, ft_8_4, ft_8_5, ft_8_6, ft_8_7, ft_8_8, ft_8_9, ft_8_10, ft_8_11, ft_8_12, ft_8_13, ft_8_14, ft_8_15, ft_8_16, ft_8_17, ft_8_18, ft_8_19, ft_8_20, ft_8_21, ft_8_22, ft_8_23, ft_8_24, ft_8_25, ft_8_26, ft_8_27, ft_8_28, ft_8_29, ft_8_30, ft_8_31, ft_8_32, ft_8_33, ft_8_34, ft_8_35, ft_8_36, ft_8_37, ft_8_38, ft_8_39, ft_8_40, ft_8_41, nu_fitI, nu_fitL, nu_fitO, nu_fitA, nu_fitB0, nu_fitB1]
  exact ⟨rfl, _, rfl, ⟨⟨rfl, fun j hj => absurd hj (Nat.not_lt_zero _)⟩, h2, h3, h4, h5, h6, h7, h8⟩, agC.sO (by omega)⟩
theorem C_seed (hC : InvC g s) (v : Int64) : WM tb (d + 1) k_B_seed [vR 0, vL v] (HP s) 0 0 (PostC (aSeed g v).2 s (vL (aSeed g v).1)) := by
  obtain ⟨h1, h2, h3, h4, h5, h6, h7, h8⟩ := hC
  refine WM.of mi_80 rfl rfl (Nat.le_of_ble_eq_true rfl) ?_
  show WP (mm_rw mr_80) (some .long) tb (WM tb d) _ 0 [(0, vR 0), (1, vL v)] [] (HP s) 0 0
  (try simp only [Option.toList_some, Option.toList_none, List.nil_append, List.append_nil, List.cons_append, Nat.sub_zero, Nat.sub_self, Nat.zero_sub]); refine Go.wp sp_80 200 ?_; simp only [↓g80_0, ↓g80_1, ↓g80_4, ↓g80_5, ↓g80_6, ↓g80_7, ↓g80_10, ↓g80_11, ↓Go_s, ↓GoC_a, ↓reduceIte, ↓mm_call_eq, ↓mmw_nil, ↓mmw_cons, List.take_succ_cons, List.take_zero, List.take_nil, List.drop_succ_cons, List.drop_zero, List.drop_nil, List.reverse_cons, List.reverse_nil, List.nil_append, List.cons_append, List.append_nil, Option.toList_some, Option.toList_none, Nat.sub_zero, Nat.le_refl, mmr_cons, mm_st1, mm_st2, mmi_nil, mmi_cons, mmc_I, mmc_L, mmc_R, mmu_get, mmu_one, mma_get, mma_one, List.filter_cons, List.filter_nil, List.contains_cons, List.contains_nil, Nat.reduceBEq, Nat.reduceAdd, Nat.reduceLT, Nat.reduceSub, Nat.reduceLeDiff, Nat.reduceEqDiff, Int32.reduceAdd, Bool.not_true, Bool.not_false, Bool.and_true, Bool.true_and, Bool.and_false, Bool.false_and, Bool.or_false, Bool.false_or, Bool.or_true, Bool.true_or, if_true, if_false, ite_true, ite_false, Bool.false_eq_true, List.getElem?_cons_zero, List.getElem?_cons_succ, List.length_cons, List.length_nil, true_and, and_true, List.set_cons_zero, List.set_cons_succ, Fin.isValue, Fin.val_zero, Fin.val_one, Fin.val_two, Fin.reduceFinMk, Nat.zero_add, hp_0, hp_1, hp_2, hp_3, hp_4, hp_5, hp_6, hp_7, hp_8, hp_9, hp_10, hp_11, hp_12, hp_13, hp_14, hp_15, hp_16, hp_17, hp_18, hp_19, hp_20, hp_21, hp_22, hp_23, hp_24, hp_25, hp_26, hp_27, hp_28, hp_29, hp_30, hp_31, hp_32, hp_33, hp_34, hp_35, hp_36, hp_37, hp_38, hp_39, hp_40, hp_41, hp_42, hp_43, hp_44, hp_45, hp_46, hp_47, hp_48, hp_49, hp_50, hp_51, hp_52, hp_53, hp_54, hp_55, hp_56, hp_57, hp_58, hp_59, hp_60, hp_61, hp_62, hp_63, hp_64, hp_65, hp_66, hp_67, hp_68, hp_69, hp_70, hp_71, hp_72, hp_73, hp_74, og_0_0, og_0_1, og_0_2, og_0_3, og_0_4, og_0_5, og_0_6, og_0_7, og_0_8, og_0_9, og_0_10, og_0_11, og_0_12, og_0_13, ol_0, og_2_0, og_2_1, og_2_2, og_2_3, og_2_4, og_2_5, og_2_6, ol_2, og_3_0, og_3_1, ol_3, og_5_0, og_5_1, ol_5, og_9_0, og_9_1, og_9_2, og_9_3, og_9_4, og_9_5, og_9_6, ol_9, og_10_0, og_10_1, ol_10, og_12_0, og_12_1, ol_12, og_16_0, og_16_1, og_16_2, ol_16, og_17_0, og_17_1, ol_17, og_21_0, og_21_1, og_21_2, og_21_3, og_21_4, ol_21, og_27_0, og_27_1, og_27_2, og_27_3, og_27_4, og_27_5, og_27_6, og_27_7, og_27_8, og_27_9, og_27_10, ol_27, og_35_0, og_35_1, ol_35, og_37_0, og_37_1, ol_37, og_39_0, og_39_1, ol_39, og_41_0, og_41_1, ol_41, og_43_0, og_43_1, ol_43, og_45_0, og_45_1, ol_45, og_47_0, og_47_1, ol_47, og_49_0, og_49_1, og_49_2, og_49_3, ol_49, og_53_0, og_53_1, ol_53, og_55_0, og_55_1, ol_55, og_57_0, og_57_1, ol_57, og_59_0, og_59_1, ol_59, og_61_0, og_61_1, ol_61, og_63_0, og_63_1, ol_63, og_65_0, og_65_1, og_65_2, ol_65, og_66_0, og_66_1, ol_66, og_70_0, og_70_1, og_70_2, ol_70, og_71_0, og_71_1, ol_71, uo_0_1, uo_0_4, uo_0_8, ua_1, uo_2_0, uo_2_1, uo_2_2, uo_3_1, ua_4, uo_5_1, ua_6, ua_7, ua_8, uo_9_0, uo_9_1, uo_9_2, uo_10_1, ua_11, uo_12_1, ua_13, ua_14, ua_15, uo_17_1, ua_18, ua_19, ua_20, uo_21_4, ua_22, ua_23, ua_24, ua_25, uo_27_2, uo_27_6, uo_27_7, uo_27_8, ua_28, ua_29, ua_31, ua_32, ua_33, ua_34, uo_35_1, ua_36, uo_37_1, ua_38, uo_39_1, ua_40, uo_41_1, ua_42, uo_43_1, ua_44, uo_45_1, ua_46, uo_47_1, ua_48, uo_49_3, ua_51, ua_52, uo_53_1, ua_54, uo_55_1, ua_56, uo_57_1, ua_58, uo_59_1, ua_60, uo_61_1, ua_62, uo_63_1, ua_64, uo_66_1, ua_67, ua_68, ua_69, uo_71_1, ua_72, ua_73, ua_74, sO_g, sA_g, sA_O, sO_A, sO_2, sC_1, sC_2, sC_3, sC_4, sC_5, sC_6, sW_1, sW_2, sW_3, sW_4, uc_0]
  simp (disch := omega) only [lit_0, lit_1, lit_2, lit_3, lit_4, lit_5, lit_6, lit_7, lit_8, lit_9, lit_10, lit_16, lit_40, lit_48, lit_60, lit_67, lit_76, lit_82, lit_99, lit_100, lit_255, lit_508, lit_720, lit_1023, nI_1, nI_add, pk_sub, pk_mul, pk_div, nu_rem2, nI_clamp, nu_m, nu_m', nu_lm, nu_ml, nu_ltm, nu_mlt, nu_mm, nu_dec, nu_in, nu_le, nu_lt, nu_eq, true_and, and_true, false_imp_iff, true_imp_iff, not_true_eq_false, not_false_eq_true, Nat.not_lt_zero, Nat.zero_le, Nat.le_refl, Nat.lt_irrefl, Nat.reduceEqDiff, Nat.reduceLT, Nat.reduceLeDiff, Nat.reduceAdd, Nat.reduceSub, Nat.reduceMul, Nat.reduceMod, Nat.reduceDiv, Nat.one_ne_zero, Nat.zero_ne_one, ft_0_0, ft_0_1, ft_0_2, ft_0_3, ft_0_4, ft_1_0, ft_1_1, ft_1_2, ft_2_0, ft_2_1, ft_2_2, ft_2_3, ft_2_4, ft_2_5, ft_2_6, ft_2_7, ft_2_8, ft_2_9, ft_2_10, ft_3_0, ft_3_1, ft_3_2, ft_3_3, ft_4_0, ft_4_1, ft_4_2, ft_4_3, ft_4_4, ft_4_5, ft_4_6, ft_5_0, ft_5_1, ft_6_0, ft_6_1, ft_6_2, ft_6_3, ft_6_4, ft_6_5, ft_6_6, ft_7_0, ft_7_1, ft_7_2, ft_7_3, ft_7_4, ft_7_5, ft_7_6, ft_7_7, ft_7_8, ft_7_9, ft_7_10, ft_7_11, ft_7_12, ft_7_13, ft_8_0, ft_8_1, ft_8_2, ft_8_3, ft_8_4, ft_8_5, ft_8_6, ft_8_7, ft_8_8, ft_8_9, ft_8_10, ft_8_11, ft_8_12, ft_8_13, ft_8_14, ft_8_15, ft_8_16, ft_8_17, ft_8_18, ft_8_19, ft_8_20, ft_8_21, ft_8_22, ft_8_23, ft_8_24, ft_8_25, ft_8_26, ft_8_27, ft_8_28, ft_8_29, ft_8_30, ft_8_31, ft_8_32, ft_8_33, ft_8_34, ft_8_35, ft_8_36, ft_8_37, ft_8_38, ft_8_39, ft_8_40, ft_8_41, nu_fitI, nu_fitL, nu_fitO, nu_fitA, nu_fitB0, nu_fitB1]
  exact ⟨by rw [h8]; rfl, _, rfl, ⟨h1, cPl.ag h2 ⟨rfl, rfl, rfl⟩ rfl (fun i _ _ => ⟨rfl, rfl⟩), h3, h4, h5, h6, h7, rfl⟩, agM.sC⟩
theorem M_seed (hM : InvM g s) (v : Int64) : WM tb (d + 1) k_M_seed [vR 75, vL v] (HP s) 0 0 (PostM (aSeed g v).2 s (vL (aSeed g v).1)) := by
  obtain ⟨h1, h2, h3, h4, h5, h6, h7, h8⟩ := hM
  refine WM.of mi_153 rfl rfl (Nat.le_of_ble_eq_true rfl) ?_
  show WP (mm_rw mr_153) (some .long) tb (WM tb d) _ 0 [(0, vR 75), (1, vL v)] [] (HP s) 0 0
  (try simp only [Option.toList_some, Option.toList_none, List.nil_append, List.append_nil, List.cons_append, Nat.sub_zero, Nat.sub_self, Nat.zero_sub]); refine Go.wp sp_153 200 ?_; simp only [↓g153_0, ↓g153_1, ↓g153_4, ↓g153_5, ↓g153_6, ↓g153_7, ↓g153_10, ↓g153_11, ↓Go_s, ↓GoC_a, ↓reduceIte, ↓mm_call_eq, ↓mmw_nil, ↓mmw_cons, List.take_succ_cons, List.take_zero, List.take_nil, List.drop_succ_cons, List.drop_zero, List.drop_nil, List.reverse_cons, List.reverse_nil, List.nil_append, List.cons_append, List.append_nil, Option.toList_some, Option.toList_none, Nat.sub_zero, Nat.le_refl, mmr_cons, mm_st1, mm_st2, mmi_nil, mmi_cons, mmc_I, mmc_L, mmc_R, mmu_get, mmu_one, mma_get, mma_one, List.filter_cons, List.filter_nil, List.contains_cons, List.contains_nil, Nat.reduceBEq, Nat.reduceAdd, Nat.reduceLT, Nat.reduceSub, Nat.reduceLeDiff, Nat.reduceEqDiff, Int32.reduceAdd, Bool.not_true, Bool.not_false, Bool.and_true, Bool.true_and, Bool.and_false, Bool.false_and, Bool.or_false, Bool.false_or, Bool.or_true, Bool.true_or, if_true, if_false, ite_true, ite_false, Bool.false_eq_true, List.getElem?_cons_zero, List.getElem?_cons_succ, List.length_cons, List.length_nil, true_and, and_true, List.set_cons_zero, List.set_cons_succ, Fin.isValue, Fin.val_zero, Fin.val_one, Fin.val_two, Fin.reduceFinMk, Nat.zero_add, hp_75, hp_76, hp_77, hp_78, hp_79, hp_80, hp_81, hp_82, hp_83, hp_84, hp_85, hp_86, hp_87, hp_88, hp_89, hp_90, hp_91, hp_92, hp_93, hp_94, hp_95, hp_96, hp_97, hp_98, og_75_0, og_75_1, og_75_2, og_75_3, og_75_4, og_75_5, og_75_6, og_75_7, og_75_8, og_75_9, og_75_10, og_75_11, og_75_12, og_75_13, og_75_14, og_75_15, og_75_16, og_75_17, og_75_18, og_75_19, og_75_20, og_75_21, og_75_22, og_75_23, og_75_24, og_75_25, og_75_26, og_75_27, og_75_28, og_75_29, og_75_30, og_75_31, og_75_32, og_75_33, og_75_34, og_75_35, og_75_36, og_75_37, og_75_38, og_75_39, og_75_40, og_75_41, ol_75, uo_75_4, uo_75_5, uo_75_6, uo_75_7, uo_75_11, uo_75_12, uo_75_13, uo_75_15, uo_75_19, uo_75_20, uo_75_21, uo_75_22, uo_75_23, uo_75_26, uo_75_30, uo_75_31, uo_75_32, uo_75_33, ua_76, ua_77, ua_78, ua_79, ua_80, ua_81, ua_82, ua_83, ua_84, ua_85, ua_86, ua_87, ua_88, ua_89, ua_90, ua_91, ua_92, ua_93, ua_94, ua_95, ua_96, ua_97, ua_98, sO_g, sA_g, sA_O, sO_A, sO_2, sM_1, sM_2, sM_3, sM_4, sM_5, sM_6, uc_75]
  simp (disch := omega) only [lit_0, lit_1, lit_2, lit_3, lit_4, lit_5, lit_6, lit_7, lit_8, lit_9, lit_10, lit_16, lit_40, lit_48, lit_60, lit_67, lit_76, lit_82, lit_99, lit_100, lit_255, lit_508, lit_720, lit_1023, nI_1, nI_add, pk_sub, pk_mul, pk_div, nu_rem2, nI_clamp, nu_m, nu_m', nu_lm, nu_ml, nu_ltm, nu_mlt, nu_mm, nu_dec, nu_in, nu_le, nu_lt, nu_eq, true_and, and_true, false_imp_iff, true_imp_iff, not_true_eq_false, not_false_eq_true, Nat.not_lt_zero, Nat.zero_le, Nat.le_refl, Nat.lt_irrefl, Nat.reduceEqDiff, Nat.reduceLT, Nat.reduceLeDiff, Nat.reduceAdd, Nat.reduceSub, Nat.reduceMul, Nat.reduceMod, Nat.reduceDiv, Nat.one_ne_zero, Nat.zero_ne_one, ft_0_0, ft_0_1, ft_0_2, ft_0_3, ft_0_4, ft_1_0, ft_1_1, ft_1_2, ft_2_0, ft_2_1, ft_2_2, ft_2_3, ft_2_4, ft_2_5, ft_2_6, ft_2_7, ft_2_8, ft_2_9, ft_2_10, ft_3_0, ft_3_1, ft_3_2, ft_3_3, ft_4_0, ft_4_1, ft_4_2, ft_4_3, ft_4_4, ft_4_5, ft_4_6, ft_5_0, ft_5_1, ft_6_0, ft_6_1, ft_6_2, ft_6_3, ft_6_4, ft_6_5, ft_6_6, ft_7_0, ft_7_1, ft_7_2, ft_7_3, ft_7_4, ft_7_5, ft_7_6, ft_7_7, ft_7_8, ft_7_9, ft_7_10, ft_7_11, ft_7_12, ft_7_13, ft_8_0, ft_8_1, ft_8_2, ft_8_3, ft_8_4, ft_8_5, ft_8_6, ft_8_7, ft_8_8, ft_8_9, ft_8_10, ft_8_11, ft_8_12, ft_8_13, ft_8_14, ft_8_15, ft_8_16, ft_8_17, ft_8_18, ft_8_19, ft_8_20, ft_8_21, ft_8_22, ft_8_23, ft_8_24, ft_8_25, ft_8_26, ft_8_27, ft_8_28, ft_8_29, ft_8_30, ft_8_31, ft_8_32, ft_8_33, ft_8_34, ft_8_35, ft_8_36, ft_8_37, ft_8_38, ft_8_39, ft_8_40, ft_8_41, nu_fitI, nu_fitL, nu_fitO, nu_fitA, nu_fitB0, nu_fitB1]
  exact ⟨by rw [h8]; rfl, _, rfl, ⟨h1, h2, h3, h4, h5, h6, h7, rfl⟩, agC.sM⟩
theorem C_forget (hC : InvC g s) : WM tb (d + 1) k_B_forget [vR 0] (HP s) 0 0 (PostC (aForget g).2 s (vI (aForget g).1)) := by
  obtain ⟨h1, h2, h3, h4, h5, h6, h7, h8⟩ := hC
  refine WM.of mi_75 rfl rfl (Nat.le_of_ble_eq_true rfl) ?_
  show WP (mm_rw mr_75) (some .int) tb (WM tb d) _ 0 [(0, vR 0)] [] (HP s) 0 0
  (try simp only [Option.toList_some, Option.toList_none, List.nil_append, List.append_nil, List.cons_append, Nat.sub_zero, Nat.sub_self, Nat.zero_sub]); refine Go.wp sp_75 200 ?_; simp only [↓g75_0, ↓g75_1, ↓g75_4, ↓g75_7, ↓g75_8, ↓g75_9, ↓g75_12, ↓g75_13, ↓g75_16, ↓g75_17, ↓Go_s, ↓GoC_a, ↓reduceIte, ↓mm_call_eq, ↓mmw_nil, ↓mmw_cons, List.take_succ_cons, List.take_zero, List.take_nil, List.drop_succ_cons, List.drop_zero, List.drop_nil, List.reverse_cons, List.reverse_nil, List.nil_append, List.cons_append, List.append_nil, Option.toList_some, Option.toList_none, Nat.sub_zero, Nat.le_refl, mmr_cons, mm_st1, mm_st2, mmi_nil, mmi_cons, mmc_I, mmc_L, mmc_R, mmu_get, mmu_one, mma_get, mma_one, List.filter_cons, List.filter_nil, List.contains_cons, List.contains_nil, Nat.reduceBEq, Nat.reduceAdd, Nat.reduceLT, Nat.reduceSub, Nat.reduceLeDiff, Nat.reduceEqDiff, Int32.reduceAdd, Bool.not_true, Bool.not_false, Bool.and_true, Bool.true_and, Bool.and_false, Bool.false_and, Bool.or_false, Bool.false_or, Bool.or_true, Bool.true_or, if_true, if_false, ite_true, ite_false, Bool.false_eq_true, List.getElem?_cons_zero, List.getElem?_cons_succ, List.length_cons, List.length_nil, true_and, and_true, List.set_cons_zero, List.set_cons_succ, Fin.isValue, Fin.val_zero, Fin.val_one, Fin.val_two, Fin.reduceFinMk, Nat.zero_add, hp_0, hp_1, hp_2, hp_3, hp_4, hp_5, hp_6, hp_7, hp_8, hp_9, hp_10, hp_11, hp_12, hp_13, hp_14, hp_15, hp_16, hp_17, hp_18, hp_19, hp_20, hp_21, hp_22, hp_23, hp_24, hp_25, hp_26, hp_27, hp_28, hp_29, hp_30, hp_31, hp_32, hp_33, hp_34, hp_35, hp_36, hp_37, hp_38, hp_39, hp_40, hp_41, hp_42, hp_43, hp_44, hp_45, hp_46, hp_47, hp_48, hp_49, hp_50, hp_51, hp_52, hp_53, hp_54, hp_55, hp_56, hp_57, hp_58, hp_59, hp_60, hp_61, hp_62, hp_63, hp_64, hp_65, hp_66, hp_67, hp_68, hp_69, hp_70, hp_71, hp_72, hp_73, hp_74, og_0_0, og_0_1, og_0_2, og_0_3, og_0_4, og_0_5, og_0_6, og_0_7, og_0_8, og_0_9, og_0_10, og_0_11, og_0_12, og_0_13, ol_0, og_2_0, og_2_1, og_2_2, og_2_3, og_2_4, og_2_5, og_2_6, ol_2, og_3_0, og_3_1, ol_3, og_5_0, og_5_1, ol_5, og_9_0, og_9_1, og_9_2, og_9_3, og_9_4, og_9_5, og_9_6, ol_9, og_10_0, og_10_1, ol_10, og_12_0, og_12_1, ol_12, og_16_0, og_16_1, og_16_2, ol_16, og_17_0, og_17_1, ol_17, og_21_0, og_21_1, og_21_2, og_21_3, og_21_4, ol_21, og_27_0, og_27_1, og_27_2, og_27_3, og_27_4, og_27_5, og_27_6, og_27_7, og_27_8, og_27_9, og_27_10, ol_27, og_35_0, og_35_1, ol_35, og_37_0, og_37_1, ol_37, og_39_0, og_39_1, ol_39, og_41_0, og_41_1, ol_41, og_43_0, og_43_1, ol_43, og_45_0, og_45_1, ol_45, og_47_0, og_47_1, ol_47, og_49_0, og_49_1, og_49_2, og_49_3, ol_49, og_53_0, og_53_1, ol_53, og_55_0, og_55_1, ol_55, og_57_0, og_57_1, ol_57, og_59_0, og_59_1, ol_59, og_61_0, og_61_1, ol_61, og_63_0, og_63_1, ol_63, og_65_0, og_65_1, og_65_2, ol_65, og_66_0, og_66_1, ol_66, og_70_0, og_70_1, og_70_2, ol_70, og_71_0, og_71_1, ol_71, uo_0_1, uo_0_4, uo_0_8, ua_1, uo_2_0, uo_2_1, uo_2_2, uo_3_1, ua_4, uo_5_1, ua_6, ua_7, ua_8, uo_9_0, uo_9_1, uo_9_2, uo_10_1, ua_11, uo_12_1, ua_13, ua_14, ua_15, uo_17_1, ua_18, ua_19, ua_20, uo_21_4, ua_22, ua_23, ua_24, ua_25, uo_27_2, uo_27_6, uo_27_7, uo_27_8, ua_28, ua_29, ua_31, ua_32, ua_33, ua_34, uo_35_1, ua_36, uo_37_1, ua_38, uo_39_1, ua_40, uo_41_1, ua_42, uo_43_1, ua_44, uo_45_1, ua_46, uo_47_1, ua_48, uo_49_3, ua_51, ua_52, uo_53_1, ua_54, uo_55_1, ua_56, uo_57_1, ua_58, uo_59_1, ua_60, uo_61_1, ua_62, uo_63_1, ua_64, uo_66_1, ua_67, ua_68, ua_69, uo_71_1, ua_72, ua_73, ua_74, sO_g, sA_g, sA_O, sO_A, sO_2, sC_1, sC_2, sC_3, sC_4, sC_5, sC_6, sW_1, sW_2, sW_3, sW_4, uc_0, h7.1]
  simp (disch := omega) only [lit_0, lit_1, lit_2, lit_3, lit_4, lit_5, lit_6, lit_7, lit_8, lit_9, lit_10, lit_16, lit_40, lit_48, lit_60, lit_67, lit_76, lit_82, lit_99, lit_100, lit_255, lit_508, lit_720, lit_1023, nI_1, nI_add, pk_sub, pk_mul, pk_div, nu_rem2, nI_clamp, nu_m, nu_m', nu_lm, nu_ml, nu_ltm, nu_mlt, nu_mm, nu_dec, nu_in, nu_le, nu_lt, nu_eq, true_and, and_true, false_imp_iff, true_imp_iff, not_true_eq_false, not_false_eq_true, Nat.not_lt_zero, Nat.zero_le, Nat.le_refl, Nat.lt_irrefl, Nat.reduceEqDiff, Nat.reduceLT, Nat.reduceLeDiff, Nat.reduceAdd, Nat.reduceSub, Nat.reduceMul, Nat.reduceMod, Nat.reduceDiv, Nat.one_ne_zero, Nat.zero_ne_one, ft_0_0, ft_0_1, ft_0_2, ft_0_3, ft_0_4, ft_1_0, ft_1_1, ft_1_2, ft_2_0, ft_2_1, ft_2_2, ft_2_3, ft_2_4, ft_2_5, ft_2_6, ft_2_7, ft_2_8, ft_2_9, ft_2_10, ft_3_0, ft_3_1, ft_3_2, ft_3_3, ft_4_0, ft_4_1, ft_4_2, ft_4_3, ft_4_4, ft_4_5, ft_4_6, ft_5_0, ft_5_1, ft_6_0, ft_6_1, ft_6_2, ft_6_3, ft_6_4, ft_6_5, ft_6_6, ft_7_0, ft_7_1, ft_7_2, ft_7_3, ft_7_4, ft_7_5, ft_7_6, ft_7_7, ft_7_8, ft_7_9, ft_7_10, ft_7_11, ft_7_12, ft_7_13, ft_8_0, ft_8_1, ft_8_2, ft_8_3, ft_8_4, ft_8_5, ft_8_6, ft_8_7, ft_8_8, ft_8_9, ft_8_10, ft_8_11, ft_8_12, ft_8_13, ft_8_14, ft_8_15, ft_8_16, ft_8_17, ft_8_18, ft_8_19, ft_8_20, ft_8_21, ft_8_22, ft_8_23, ft_8_24, ft_8_25, ft_8_26, ft_8_27, ft_8_28, ft_8_29, ft_8_30, ft_8_31, ft_8_32, ft_8_33, ft_8_34, ft_8_35, ft_8_36, ft_8_37, ft_8_38, ft_8_39, ft_8_40, ft_8_41, nu_fitI, nu_fitL, nu_fitO, nu_fitA, nu_fitB0, nu_fitB1]
  exact ⟨rfl, _, rfl, ⟨h1, cPl.ag h2 ⟨rfl, rfl, rfl⟩ rfl (ag2O (by omega)), h3, h4, h5, h6, ⟨rfl, fun j hj => absurd hj (Nat.not_lt_zero _)⟩, h8⟩, agM.sO (by omega)⟩
theorem M_forget (hM : InvM g s) : WM tb (d + 1) k_M_forget [vR 75] (HP s) 0 0 (PostM (aForget g).2 s (vI (aForget g).1)) := by
  obtain ⟨h1, h2, h3, h4, h5, h6, h7, h8⟩ := hM
  refine WM.of mi_142 rfl rfl (Nat.le_of_ble_eq_true rfl) ?_
  show WP (mm_rw mr_142) (some .int) tb (WM tb d) _ 0 [(0, vR 75)] [] (HP s) 0 0
  (try simp only [Option.toList_some, Option.toList_none, List.nil_append, List.append_nil, List.cons_append, Nat.sub_zero, Nat.sub_self, Nat.zero_sub]); refine Go.wp sp_142 200 ?_; simp only [↓g142_0, ↓g142_1, ↓g142_4, ↓g142_5, ↓g142_6, ↓g142_7, ↓g142_10, ↓g142_11, ↓Go_s, ↓GoC_a, ↓reduceIte, ↓mm_call_eq, ↓mmw_nil, ↓mmw_cons, List.take_succ_cons, List.take_zero, List.take_nil, List.drop_succ_cons, List.drop_zero, List.drop_nil, List.reverse_cons, List.reverse_nil, List.nil_append, List.cons_append, List.append_nil, Option.toList_some, Option.toList_none, Nat.sub_zero, Nat.le_refl, mmr_cons, mm_st1, mm_st2, mmi_nil, mmi_cons, mmc_I, mmc_L, mmc_R, mmu_get, mmu_one, mma_get, mma_one, List.filter_cons, List.filter_nil, List.contains_cons, List.contains_nil, Nat.reduceBEq, Nat.reduceAdd, Nat.reduceLT, Nat.reduceSub, Nat.reduceLeDiff, Nat.reduceEqDiff, Int32.reduceAdd, Bool.not_true, Bool.not_false, Bool.and_true, Bool.true_and, Bool.and_false, Bool.false_and, Bool.or_false, Bool.false_or, Bool.or_true, Bool.true_or, if_true, if_false, ite_true, ite_false, Bool.false_eq_true, List.getElem?_cons_zero, List.getElem?_cons_succ, List.length_cons, List.length_nil, true_and, and_true, List.set_cons_zero, List.set_cons_succ, Fin.isValue, Fin.val_zero, Fin.val_one, Fin.val_two, Fin.reduceFinMk, Nat.zero_add, hp_75, hp_76, hp_77, hp_78, hp_79, hp_80, hp_81, hp_82, hp_83, hp_84, hp_85, hp_86, hp_87, hp_88, hp_89, hp_90, hp_91, hp_92, hp_93, hp_94, hp_95, hp_96, hp_97, hp_98, og_75_0, og_75_1, og_75_2, og_75_3, og_75_4, og_75_5, og_75_6, og_75_7, og_75_8, og_75_9, og_75_10, og_75_11, og_75_12, og_75_13, og_75_14, og_75_15, og_75_16, og_75_17, og_75_18, og_75_19, og_75_20, og_75_21, og_75_22, og_75_23, og_75_24, og_75_25, og_75_26, og_75_27, og_75_28, og_75_29, og_75_30, og_75_31, og_75_32, og_75_33, og_75_34, og_75_35, og_75_36, og_75_37, og_75_38, og_75_39, og_75_40, og_75_41, ol_75, uo_75_4, uo_75_5, uo_75_6, uo_75_7, uo_75_11, uo_75_12, uo_75_13, uo_75_15, uo_75_19, uo_75_20, uo_75_21, uo_75_22, uo_75_23, uo_75_26, uo_75_30, uo_75_31, uo_75_32, uo_75_33, ua_76, ua_77, ua_78, ua_79, ua_80, ua_81, ua_82, ua_83, ua_84, ua_85, ua_86, ua_87, ua_88, ua_89, ua_90, ua_91, ua_92, ua_93, ua_94, ua_95, ua_96, ua_97, ua_98, sO_g, sA_g, sA_O, sO_A, sO_2, sM_1, sM_2, sM_3, sM_4, sM_5, sM_6, uc_75, h7.1]
  simp (disch := omega) only [lit_0, lit_1, lit_2, lit_3, lit_4, lit_5, lit_6, lit_7, lit_8, lit_9, lit_10, lit_16, lit_40, lit_48, lit_60, lit_67, lit_76, lit_82, lit_99, lit_100, lit_255, lit_508, lit_720, lit_1023, nI_1, nI_add, pk_sub, pk_mul, pk_div, nu_rem2, nI_clamp, nu_m, nu_m', nu_lm, nu_ml, nu_ltm, nu_mlt, nu_mm, nu_dec, nu_in, nu_le, nu_lt, nu_eq, true_and, and_true, false_imp_iff, true_imp_iff, not_true_eq_false, not_false_eq_true, Nat.not_lt_zero, Nat.zero_le, Nat.le_refl, Nat.lt_irrefl, Nat.reduceEqDiff, Nat.reduceLT, Nat.reduceLeDiff, Nat.reduceAdd, Nat.reduceSub, Nat.reduceMul, Nat.reduceMod, Nat.reduceDiv, Nat.one_ne_zero, Nat.zero_ne_one, ft_0_0, ft_0_1, ft_0_2, ft_0_3, ft_0_4, ft_1_0, ft_1_1, ft_1_2, ft_2_0, ft_2_1, ft_2_2, ft_2_3, ft_2_4, ft_2_5, ft_2_6, ft_2_7, ft_2_8, ft_2_9, ft_2_10, ft_3_0, ft_3_1, ft_3_2, ft_3_3, ft_4_0, ft_4_1, ft_4_2, ft_4_3, ft_4_4, ft_4_5, ft_4_6, ft_5_0, ft_5_1, ft_6_0, ft_6_1, ft_6_2, ft_6_3, ft_6_4, ft_6_5, ft_6_6, ft_7_0, ft_7_1, ft_7_2, ft_7_3, ft_7_4, ft_7_5, ft_7_6, ft_7_7, ft_7_8, ft_7_9, ft_7_10, ft_7_11, ft_7_12, ft_7_13, ft_8_0, ft_8_1, ft_8_2, ft_8_3, ft_8_4, ft_8_5, ft_8_6, ft_8_7, ft_8_8, ft_8_9, ft_8_10, ft_8_11, ft_8_12, ft_8_13, ft_8_14, ft_8_15, ft_8_16, ft_8_17, ft_8_18, ft_8_19, ft_8_20, ft_8_21, ft_8_22, ft_8_23, ft_8_24, ft_8_25, ft_8_26, ft_8_27, ft_8_28, ft_8_29, ft_8_30, ft_8_31, ft_8_32, ft_8_33, ft_8_34, ft_8_35, ft_8_36, ft_8_37, ft_8_38, ft_8_39, ft_8_40, ft_8_41, nu_fitI, nu_fitL, nu_fitO, nu_fitA, nu_fitB0, nu_fitB1]
  exact ⟨rfl, _, rfl, ⟨h1, h2, h3, h4, h5, h6, ⟨rfl, fun j hj => absurd hj (Nat.not_lt_zero _)⟩, h8⟩, agC.sO (by omega)⟩
theorem isB_f {x : Int32} {n : Nat} (h : isB x n = false) (c : ¬ x < 0) : ¬ x < nI n := by
  unfold isB at h
  rw [decide_eq_true (Int32.not_lt.mp c), Bool.true_and, decide_eq_false_iff_not] at h
  exact h
theorem C_law (hC : InvC g s) (x : Int32) : WM tb (d + 1) k_B_law [vR 0, vI x] (HP s) 0 0 (PostC (aLaw g x).2 s (vI (aLaw g x).1)) := by
  have hC0 := hC
  obtain ⟨h1, h2, h3, h4, h5, h6, h7, h8⟩ := hC
  unfold aLaw
  cases hb : isB x 3
  · refine WM.of mi_62 rfl rfl (Nat.le_of_ble_eq_true rfl) ?_
    show WP (mm_rw mr_62) (some .int) tb (WM tb d) _ 0 [(0, vR 0), (1, vI x)] [] (HP s) 0 0
    (try simp only [Option.toList_some, Option.toList_none, List.nil_append, List.append_nil, List.cons_append, Nat.sub_zero, Nat.sub_self, Nat.zero_sub]); refine Go.wp sp_62 200 ?_; simp only [↓g62_0, ↓g62_1, ↓g62_4, ↓g62_5, ↓g62_6, ↓g62_9, ↓g62_11, ↓g62_12, ↓g62_13, ↓g62_16, ↓g62_17, ↓g62_18, ↓g62_19, ↓g62_22, ↓g62_23, ↓Go_s, ↓GoC_a, ↓reduceIte, ↓mm_call_eq, ↓mmw_nil, ↓mmw_cons, List.take_succ_cons, List.take_zero, List.take_nil, List.drop_succ_cons, List.drop_zero, List.drop_nil, List.reverse_cons, List.reverse_nil, List.nil_append, List.cons_append, List.append_nil, Option.toList_some, Option.toList_none, Nat.sub_zero, Nat.le_refl, mmr_cons, mm_st1, mm_st2, mmi_nil, mmi_cons, mmc_I, mmc_L, mmc_R, mmu_get, mmu_one, mma_get, mma_one, List.filter_cons, List.filter_nil, List.contains_cons, List.contains_nil, Nat.reduceBEq, Nat.reduceAdd, Nat.reduceLT, Nat.reduceSub, Nat.reduceLeDiff, Nat.reduceEqDiff, Int32.reduceAdd, Bool.not_true, Bool.not_false, Bool.and_true, Bool.true_and, Bool.and_false, Bool.false_and, Bool.or_false, Bool.false_or, Bool.or_true, Bool.true_or, if_true, if_false, ite_true, ite_false, Bool.false_eq_true, List.getElem?_cons_zero, List.getElem?_cons_succ, List.length_cons, List.length_nil, true_and, and_true, List.set_cons_zero, List.set_cons_succ, Fin.isValue, Fin.val_zero, Fin.val_one, Fin.val_two, Fin.reduceFinMk, Nat.zero_add, hp_0, hp_1, hp_2, hp_3, hp_4, hp_5, hp_6, hp_7, hp_8, hp_9, hp_10, hp_11, hp_12, hp_13, hp_14, hp_15, hp_16, hp_17, hp_18, hp_19, hp_20, hp_21, hp_22, hp_23, hp_24, hp_25, hp_26, hp_27, hp_28, hp_29, hp_30, hp_31, hp_32, hp_33, hp_34, hp_35, hp_36, hp_37, hp_38, hp_39, hp_40, hp_41, hp_42, hp_43, hp_44, hp_45, hp_46, hp_47, hp_48, hp_49, hp_50, hp_51, hp_52, hp_53, hp_54, hp_55, hp_56, hp_57, hp_58, hp_59, hp_60, hp_61, hp_62, hp_63, hp_64, hp_65, hp_66, hp_67, hp_68, hp_69, hp_70, hp_71, hp_72, hp_73, hp_74, og_0_0, og_0_1, og_0_2, og_0_3, og_0_4, og_0_5, og_0_6, og_0_7, og_0_8, og_0_9, og_0_10, og_0_11, og_0_12, og_0_13, ol_0, og_2_0, og_2_1, og_2_2, og_2_3, og_2_4, og_2_5, og_2_6, ol_2, og_3_0, og_3_1, ol_3, og_5_0, og_5_1, ol_5, og_9_0, og_9_1, og_9_2, og_9_3, og_9_4, og_9_5, og_9_6, ol_9, og_10_0, og_10_1, ol_10, og_12_0, og_12_1, ol_12, og_16_0, og_16_1, og_16_2, ol_16, og_17_0, og_17_1, ol_17, og_21_0, og_21_1, og_21_2, og_21_3, og_21_4, ol_21, og_27_0, og_27_1, og_27_2, og_27_3, og_27_4, og_27_5, og_27_6, og_27_7, og_27_8, og_27_9, og_27_10, ol_27, og_35_0, og_35_1, ol_35, og_37_0, og_37_1, ol_37, og_39_0, og_39_1, ol_39, og_41_0, og_41_1, ol_41, og_43_0, og_43_1, ol_43, og_45_0, og_45_1, ol_45, og_47_0, og_47_1, ol_47, og_49_0, og_49_1, og_49_2, og_49_3, ol_49, og_53_0, og_53_1, ol_53, og_55_0, og_55_1, ol_55, og_57_0, og_57_1, ol_57, og_59_0, og_59_1, ol_59, og_61_0, og_61_1, ol_61, og_63_0, og_63_1, ol_63, og_65_0, og_65_1, og_65_2, ol_65, og_66_0, og_66_1, ol_66, og_70_0, og_70_1, og_70_2, ol_70, og_71_0, og_71_1, ol_71, uo_0_1, uo_0_4, uo_0_8, ua_1, uo_2_0, uo_2_1, uo_2_2, uo_3_1, ua_4, uo_5_1, ua_6, ua_7, ua_8, uo_9_0, uo_9_1, uo_9_2, uo_10_1, ua_11, uo_12_1, ua_13, ua_14, ua_15, uo_17_1, ua_18, ua_19, ua_20, uo_21_4, ua_22, ua_23, ua_24, ua_25, uo_27_2, uo_27_6, uo_27_7, uo_27_8, ua_28, ua_29, ua_31, ua_32, ua_33, ua_34, uo_35_1, ua_36, uo_37_1, ua_38, uo_39_1, ua_40, uo_41_1, ua_42, uo_43_1, ua_44, uo_45_1, ua_46, uo_47_1, ua_48, uo_49_3, ua_51, ua_52, uo_53_1, ua_54, uo_55_1, ua_56, uo_57_1, ua_58, uo_59_1, ua_60, uo_61_1, ua_62, uo_63_1, ua_64, uo_66_1, ua_67, ua_68, ua_69, uo_71_1, ua_72, ua_73, ua_74, sO_g, sA_g, sA_O, sO_A, sO_2, sC_1, sC_2, sC_3, sC_4, sC_5, sC_6, sW_1, sW_2, sW_3, sW_4, uc_0, h3]
    exact ⟨fun _ => ⟨rfl, s, rfl, hC0, agM.rf⟩, fun c => ⟨fun c2 => absurd c2 (isB_f hb c), fun _ => ⟨rfl, s, rfl, hC0, agM.rf⟩⟩⟩
  · obtain ⟨j, hj, rfl⟩ := isB_t (by omega) hb
    refine WM.of mi_62 rfl rfl (Nat.le_of_ble_eq_true rfl) ?_
    show WP (mm_rw mr_62) (some .int) tb (WM tb d) _ 0 [(0, vR 0), (1, vI (nI j))] [] (HP s) 0 0
    (try simp only [Option.toList_some, Option.toList_none, List.nil_append, List.append_nil, List.cons_append, Nat.sub_zero, Nat.sub_self, Nat.zero_sub]); refine Go.wp sp_62 200 ?_; simp only [↓g62_0, ↓g62_1, ↓g62_4, ↓g62_5, ↓g62_6, ↓g62_9, ↓g62_11, ↓g62_12, ↓g62_13, ↓g62_16, ↓g62_17, ↓g62_18, ↓g62_19, ↓g62_22, ↓g62_23, ↓Go_s, ↓GoC_a, ↓reduceIte, ↓mm_call_eq, ↓mmw_nil, ↓mmw_cons, List.take_succ_cons, List.take_zero, List.take_nil, List.drop_succ_cons, List.drop_zero, List.drop_nil, List.reverse_cons, List.reverse_nil, List.nil_append, List.cons_append, List.append_nil, Option.toList_some, Option.toList_none, Nat.sub_zero, Nat.le_refl, mmr_cons, mm_st1, mm_st2, mmi_nil, mmi_cons, mmc_I, mmc_L, mmc_R, mmu_get, mmu_one, mma_get, mma_one, List.filter_cons, List.filter_nil, List.contains_cons, List.contains_nil, Nat.reduceBEq, Nat.reduceAdd, Nat.reduceLT, Nat.reduceSub, Nat.reduceLeDiff, Nat.reduceEqDiff, Int32.reduceAdd, Bool.not_true, Bool.not_false, Bool.and_true, Bool.true_and, Bool.and_false, Bool.false_and, Bool.or_false, Bool.false_or, Bool.or_true, Bool.true_or, if_true, if_false, ite_true, ite_false, Bool.false_eq_true, List.getElem?_cons_zero, List.getElem?_cons_succ, List.length_cons, List.length_nil, true_and, and_true, List.set_cons_zero, List.set_cons_succ, Fin.isValue, Fin.val_zero, Fin.val_one, Fin.val_two, Fin.reduceFinMk, Nat.zero_add, hp_0, hp_1, hp_2, hp_3, hp_4, hp_5, hp_6, hp_7, hp_8, hp_9, hp_10, hp_11, hp_12, hp_13, hp_14, hp_15, hp_16, hp_17, hp_18, hp_19, hp_20, hp_21, hp_22, hp_23, hp_24, hp_25, hp_26, hp_27, hp_28, hp_29, hp_30, hp_31, hp_32, hp_33, hp_34, hp_35, hp_36, hp_37, hp_38, hp_39, hp_40, hp_41, hp_42, hp_43, hp_44, hp_45, hp_46, hp_47, hp_48, hp_49, hp_50, hp_51, hp_52, hp_53, hp_54, hp_55, hp_56, hp_57, hp_58, hp_59, hp_60, hp_61, hp_62, hp_63, hp_64, hp_65, hp_66, hp_67, hp_68, hp_69, hp_70, hp_71, hp_72, hp_73, hp_74, og_0_0, og_0_1, og_0_2, og_0_3, og_0_4, og_0_5, og_0_6, og_0_7, og_0_8, og_0_9, og_0_10, og_0_11, og_0_12, og_0_13, ol_0, og_2_0, og_2_1, og_2_2, og_2_3, og_2_4, og_2_5, og_2_6, ol_2, og_3_0, og_3_1, ol_3, og_5_0, og_5_1, ol_5, og_9_0, og_9_1, og_9_2, og_9_3, og_9_4, og_9_5, og_9_6, ol_9, og_10_0, og_10_1, ol_10, og_12_0, og_12_1, ol_12, og_16_0, og_16_1, og_16_2, ol_16, og_17_0, og_17_1, ol_17, og_21_0, og_21_1, og_21_2, og_21_3, og_21_4, ol_21, og_27_0, og_27_1, og_27_2, og_27_3, og_27_4, og_27_5, og_27_6, og_27_7, og_27_8, og_27_9, og_27_10, ol_27, og_35_0, og_35_1, ol_35, og_37_0, og_37_1, ol_37, og_39_0, og_39_1, ol_39, og_41_0, og_41_1, ol_41, og_43_0, og_43_1, ol_43, og_45_0, og_45_1, ol_45, og_47_0, og_47_1, ol_47, og_49_0, og_49_1, og_49_2, og_49_3, ol_49, og_53_0, og_53_1, ol_53, og_55_0, og_55_1, ol_55, og_57_0, og_57_1, ol_57, og_59_0, og_59_1, ol_59, og_61_0, og_61_1, ol_61, og_63_0, og_63_1, ol_63, og_65_0, og_65_1, og_65_2, ol_65, og_66_0, og_66_1, ol_66, og_70_0, og_70_1, og_70_2, ol_70, og_71_0, og_71_1, ol_71, uo_0_1, uo_0_4, uo_0_8, ua_1, uo_2_0, uo_2_1, uo_2_2, uo_3_1, ua_4, uo_5_1, ua_6, ua_7, ua_8, uo_9_0, uo_9_1, uo_9_2, uo_10_1, ua_11, uo_12_1, ua_13, ua_14, ua_15, uo_17_1, ua_18, ua_19, ua_20, uo_21_4, ua_22, ua_23, ua_24, ua_25, uo_27_2, uo_27_6, uo_27_7, uo_27_8, ua_28, ua_29, ua_31, ua_32, ua_33, ua_34, uo_35_1, ua_36, uo_37_1, ua_38, uo_39_1, ua_40, uo_41_1, ua_42, uo_43_1, ua_44, uo_45_1, ua_46, uo_47_1, ua_48, uo_49_3, ua_51, ua_52, uo_53_1, ua_54, uo_55_1, ua_56, uo_57_1, ua_58, uo_59_1, ua_60, uo_61_1, ua_62, uo_63_1, ua_64, uo_66_1, ua_67, ua_68, ua_69, uo_71_1, ua_72, ua_73, ua_74, sO_g, sA_g, sA_O, sO_A, sO_2, sC_1, sC_2, sC_3, sC_4, sC_5, sC_6, sW_1, sW_2, sW_3, sW_4, uc_0, h3]
    simp (disch := omega) only [lit_0, lit_1, lit_2, lit_3, lit_4, lit_5, lit_6, lit_7, lit_8, lit_9, lit_10, lit_16, lit_40, lit_48, lit_60, lit_67, lit_76, lit_82, lit_99, lit_100, lit_255, lit_508, lit_720, lit_1023, nI_1, nI_add, pk_sub, pk_mul, pk_div, nu_rem2, nI_clamp, nu_m, nu_m', nu_lm, nu_ml, nu_ltm, nu_mlt, nu_mm, nu_dec, nu_in, nu_le, nu_lt, nu_eq, true_and, and_true, false_imp_iff, true_imp_iff, not_true_eq_false, not_false_eq_true, Nat.not_lt_zero, Nat.zero_le, Nat.le_refl, Nat.lt_irrefl, Nat.reduceEqDiff, Nat.reduceLT, Nat.reduceLeDiff, Nat.reduceAdd, Nat.reduceSub, Nat.reduceMul, Nat.reduceMod, Nat.reduceDiv, Nat.one_ne_zero, Nat.zero_ne_one, ft_0_0, ft_0_1, ft_0_2, ft_0_3, ft_0_4, ft_1_0, ft_1_1, ft_1_2, ft_2_0, ft_2_1, ft_2_2, ft_2_3, ft_2_4, ft_2_5, ft_2_6, ft_2_7, ft_2_8, ft_2_9, ft_2_10, ft_3_0, ft_3_1, ft_3_2, ft_3_3, ft_4_0, ft_4_1, ft_4_2, ft_4_3, ft_4_4, ft_4_5, ft_4_6, ft_5_0, ft_5_1, ft_6_0, ft_6_1, ft_6_2, ft_6_3, ft_6_4, ft_6_5, ft_6_6, ft_7_0, ft_7_1, ft_7_2, ft_7_3, ft_7_4, ft_7_5, ft_7_6, ft_7_7, ft_7_8, ft_7_9, ft_7_10, ft_7_11, ft_7_12, ft_7_13, ft_8_0, ft_8_1, ft_8_2, ft_8_3, ft_8_4, ft_8_5, ft_8_6, ft_8_7, ft_8_8, ft_8_9, ft_8_10, ft_8_11, ft_8_12, ft_8_13, ft_8_14, ft_8_15, ft_8_16, ft_8_17, ft_8_18, ft_8_19, ft_8_20, ft_8_21, ft_8_22, ft_8_23, ft_8_24, ft_8_25, ft_8_26, ft_8_27, ft_8_28, ft_8_29, ft_8_30, ft_8_31, ft_8_32, ft_8_33, ft_8_34, ft_8_35, ft_8_36, ft_8_37, ft_8_38, ft_8_39, ft_8_40, ft_8_41, nu_fitI, nu_fitL, nu_fitO, nu_fitA, nu_fitB0, nu_fitB1, hj]
    refine ⟨rfl, _, rfl, ⟨h1, cPl.ag h2 ⟨rfl, rfl, rfl⟩ rfl (ag2O (by omega)), rfl, h4, h5, h6, h7, h8⟩, agM.sO (by omega)⟩
theorem M_law (hM : InvM g s) (x : Int32) : WM tb (d + 2) k_M_law [vR 75, vI x] (HP s) 0 0 (PostM (aLaw g x).2 s (vI (aLaw g x).1)) := by
  have hM0 := hM
  obtain ⟨h1, h2, h3, h4, h5, h6, h7, h8⟩ := hM
  refine WM.of mi_115 rfl rfl (Nat.le_of_ble_eq_true rfl) ?_
  show WP (mm_rw mr_115) (some .int) tb (WM tb (d + 1)) _ 0 [(0, vR 75), (1, vI x)] [] (HP s) 0 0
  (try simp only [Option.toList_some, Option.toList_none, List.nil_append, List.append_nil, List.cons_append, Nat.sub_zero, Nat.sub_self, Nat.zero_sub]); refine Go.wp sp_115 200 ?_; simp only [↓g115_0, ↓g115_1, ↓g115_2, ↓g115_3, ↓g115_6, ↓g115_9, ↓g115_12, ↓g115_14, ↓g115_15, ↓g115_16, ↓g115_19, ↓g115_20, ↓g115_21, ↓g115_22, ↓g115_25, ↓g115_26, cl_99, cn_0, cn_1, cn_2, cn_3, cn_4, cn_5, cn_6, cn_7, cn_8, ↓Go_s, ↓GoC_a, ↓reduceIte, ↓mm_call_eq, ↓mmw_nil, ↓mmw_cons, List.take_succ_cons, List.take_zero, List.take_nil, List.drop_succ_cons, List.drop_zero, List.drop_nil, List.reverse_cons, List.reverse_nil, List.nil_append, List.cons_append, List.append_nil, Option.toList_some, Option.toList_none, Nat.sub_zero, Nat.le_refl, mmr_cons, mm_st1, mm_st2, mmi_nil, mmi_cons, mmc_I, mmc_L, mmc_R, mmu_get, mmu_one, mma_get, mma_one, List.filter_cons, List.filter_nil, List.contains_cons, List.contains_nil, Nat.reduceBEq, Nat.reduceAdd, Nat.reduceLT, Nat.reduceSub, Nat.reduceLeDiff, Nat.reduceEqDiff, Int32.reduceAdd, Bool.not_true, Bool.not_false, Bool.and_true, Bool.true_and, Bool.and_false, Bool.false_and, Bool.or_false, Bool.false_or, Bool.or_true, Bool.true_or, if_true, if_false, ite_true, ite_false, Bool.false_eq_true, List.getElem?_cons_zero, List.getElem?_cons_succ, List.length_cons, List.length_nil, true_and, and_true, List.set_cons_zero, List.set_cons_succ, Fin.isValue, Fin.val_zero, Fin.val_one, Fin.val_two, Fin.reduceFinMk, Nat.zero_add, hp_75, hp_76, hp_77, hp_78, hp_79, hp_80, hp_81, hp_82, hp_83, hp_84, hp_85, hp_86, hp_87, hp_88, hp_89, hp_90, hp_91, hp_92, hp_93, hp_94, hp_95, hp_96, hp_97, hp_98, og_75_0, og_75_1, og_75_2, og_75_3, og_75_4, og_75_5, og_75_6, og_75_7, og_75_8, og_75_9, og_75_10, og_75_11, og_75_12, og_75_13, og_75_14, og_75_15, og_75_16, og_75_17, og_75_18, og_75_19, og_75_20, og_75_21, og_75_22, og_75_23, og_75_24, og_75_25, og_75_26, og_75_27, og_75_28, og_75_29, og_75_30, og_75_31, og_75_32, og_75_33, og_75_34, og_75_35, og_75_36, og_75_37, og_75_38, og_75_39, og_75_40, og_75_41, ol_75, uo_75_4, uo_75_5, uo_75_6, uo_75_7, uo_75_11, uo_75_12, uo_75_13, uo_75_15, uo_75_19, uo_75_20, uo_75_21, uo_75_22, uo_75_23, uo_75_26, uo_75_30, uo_75_31, uo_75_32, uo_75_33, ua_76, ua_77, ua_78, ua_79, ua_80, ua_81, ua_82, ua_83, ua_84, ua_85, ua_86, ua_87, ua_88, ua_89, ua_90, ua_91, ua_92, ua_93, ua_94, ua_95, ua_96, ua_97, ua_98, sO_g, sA_g, sA_O, sO_A, sO_2, sM_1, sM_2, sM_3, sM_4, sM_5, sM_6, uc_75, h3]
  refine ⟨0, 0, _, Nat.le_refl _, Nat.le_refl _, M_in _ _ _ _, fun z h' hz => ?_⟩
  obtain ⟨rfl, rfl⟩ := hz
  have e : (decide ((0 : Int64) ≤ x.toInt64) && decide (x.toInt64 ≤ (2 : Int64))) = isB x 3 := isB_long (x := x) (n := 3) (by omega) (by omega)
  rw [e]
  unfold aLaw
  cases hb : isB x 3
  · (try simp only [Option.toList_some, Option.toList_none, List.nil_append, List.append_nil, List.cons_append, Nat.sub_zero, Nat.sub_self, Nat.zero_sub]); refine Go.wp sp_115 200 ?_; simp only [↓g115_0, ↓g115_1, ↓g115_2, ↓g115_3, ↓g115_6, ↓g115_9, ↓g115_12, ↓g115_14, ↓g115_15, ↓g115_16, ↓g115_19, ↓g115_20, ↓g115_21, ↓g115_22, ↓g115_25, ↓g115_26, cl_99, cn_0, cn_1, cn_2, cn_3, cn_4, cn_5, cn_6, cn_7, cn_8, ↓Go_s, ↓GoC_a, ↓reduceIte, ↓mm_call_eq, ↓mmw_nil, ↓mmw_cons, List.take_succ_cons, List.take_zero, List.take_nil, List.drop_succ_cons, List.drop_zero, List.drop_nil, List.reverse_cons, List.reverse_nil, List.nil_append, List.cons_append, List.append_nil, Option.toList_some, Option.toList_none, Nat.sub_zero, Nat.le_refl, mmr_cons, mm_st1, mm_st2, mmi_nil, mmi_cons, mmc_I, mmc_L, mmc_R, mmu_get, mmu_one, mma_get, mma_one, List.filter_cons, List.filter_nil, List.contains_cons, List.contains_nil, Nat.reduceBEq, Nat.reduceAdd, Nat.reduceLT, Nat.reduceSub, Nat.reduceLeDiff, Nat.reduceEqDiff, Int32.reduceAdd, Bool.not_true, Bool.not_false, Bool.and_true, Bool.true_and, Bool.and_false, Bool.false_and, Bool.or_false, Bool.false_or, Bool.or_true, Bool.true_or, if_true, if_false, ite_true, ite_false, Bool.false_eq_true, List.getElem?_cons_zero, List.getElem?_cons_succ, List.length_cons, List.length_nil, true_and, and_true, List.set_cons_zero, List.set_cons_succ, Fin.isValue, Fin.val_zero, Fin.val_one, Fin.val_two, Fin.reduceFinMk, Nat.zero_add, hp_75, hp_76, hp_77, hp_78, hp_79, hp_80, hp_81, hp_82, hp_83, hp_84, hp_85, hp_86, hp_87, hp_88, hp_89, hp_90, hp_91, hp_92, hp_93, hp_94, hp_95, hp_96, hp_97, hp_98, og_75_0, og_75_1, og_75_2, og_75_3, og_75_4, og_75_5, og_75_6, og_75_7, og_75_8, og_75_9, og_75_10, og_75_11, og_75_12, og_75_13, og_75_14, og_75_15, og_75_16, og_75_17, og_75_18, og_75_19, og_75_20, og_75_21, og_75_22, og_75_23, og_75_24, og_75_25, og_75_26, og_75_27, og_75_28, og_75_29, og_75_30, og_75_31, og_75_32, og_75_33, og_75_34, og_75_35, og_75_36, og_75_37, og_75_38, og_75_39, og_75_40, og_75_41, ol_75, uo_75_4, uo_75_5, uo_75_6, uo_75_7, uo_75_11, uo_75_12, uo_75_13, uo_75_15, uo_75_19, uo_75_20, uo_75_21, uo_75_22, uo_75_23, uo_75_26, uo_75_30, uo_75_31, uo_75_32, uo_75_33, ua_76, ua_77, ua_78, ua_79, ua_80, ua_81, ua_82, ua_83, ua_84, ua_85, ua_86, ua_87, ua_88, ua_89, ua_90, ua_91, ua_92, ua_93, ua_94, ua_95, ua_96, ua_97, ua_98, sO_g, sA_g, sA_O, sO_A, sO_2, sM_1, sM_2, sM_3, sM_4, sM_5, sM_6, uc_75, h3, b01_f]
    exact ⟨fun c => absurd trivial c, fun _ => ⟨rfl, s, rfl, hM0, agC.rf⟩⟩
  · (try simp only [Option.toList_some, Option.toList_none, List.nil_append, List.append_nil, List.cons_append, Nat.sub_zero, Nat.sub_self, Nat.zero_sub]); refine Go.wp sp_115 200 ?_; simp only [↓g115_0, ↓g115_1, ↓g115_2, ↓g115_3, ↓g115_6, ↓g115_9, ↓g115_12, ↓g115_14, ↓g115_15, ↓g115_16, ↓g115_19, ↓g115_20, ↓g115_21, ↓g115_22, ↓g115_25, ↓g115_26, cl_99, cn_0, cn_1, cn_2, cn_3, cn_4, cn_5, cn_6, cn_7, cn_8, ↓Go_s, ↓GoC_a, ↓reduceIte, ↓mm_call_eq, ↓mmw_nil, ↓mmw_cons, List.take_succ_cons, List.take_zero, List.take_nil, List.drop_succ_cons, List.drop_zero, List.drop_nil, List.reverse_cons, List.reverse_nil, List.nil_append, List.cons_append, List.append_nil, Option.toList_some, Option.toList_none, Nat.sub_zero, Nat.le_refl, mmr_cons, mm_st1, mm_st2, mmi_nil, mmi_cons, mmc_I, mmc_L, mmc_R, mmu_get, mmu_one, mma_get, mma_one, List.filter_cons, List.filter_nil, List.contains_cons, List.contains_nil, Nat.reduceBEq, Nat.reduceAdd, Nat.reduceLT, Nat.reduceSub, Nat.reduceLeDiff, Nat.reduceEqDiff, Int32.reduceAdd, Bool.not_true, Bool.not_false, Bool.and_true, Bool.true_and, Bool.and_false, Bool.false_and, Bool.or_false, Bool.false_or, Bool.or_true, Bool.true_or, if_true, if_false, ite_true, ite_false, Bool.false_eq_true, List.getElem?_cons_zero, List.getElem?_cons_succ, List.length_cons, List.length_nil, true_and, and_true, List.set_cons_zero, List.set_cons_succ, Fin.isValue, Fin.val_zero, Fin.val_one, Fin.val_two, Fin.reduceFinMk, Nat.zero_add, hp_75, hp_76, hp_77, hp_78, hp_79, hp_80, hp_81, hp_82, hp_83, hp_84, hp_85, hp_86, hp_87, hp_88, hp_89, hp_90, hp_91, hp_92, hp_93, hp_94, hp_95, hp_96, hp_97, hp_98, og_75_0, og_75_1, og_75_2, og_75_3, og_75_4, og_75_5, og_75_6, og_75_7, og_75_8, og_75_9, og_75_10, og_75_11, og_75_12, og_75_13, og_75_14, og_75_15, og_75_16, og_75_17, og_75_18, og_75_19, og_75_20, og_75_21, og_75_22, og_75_23, og_75_24, og_75_25, og_75_26, og_75_27, og_75_28, og_75_29, og_75_30, og_75_31, og_75_32, og_75_33, og_75_34, og_75_35, og_75_36, og_75_37, og_75_38, og_75_39, og_75_40, og_75_41, ol_75, uo_75_4, uo_75_5, uo_75_6, uo_75_7, uo_75_11, uo_75_12, uo_75_13, uo_75_15, uo_75_19, uo_75_20, uo_75_21, uo_75_22, uo_75_23, uo_75_26, uo_75_30, uo_75_31, uo_75_32, uo_75_33, ua_76, ua_77, ua_78, ua_79, ua_80, ua_81, ua_82, ua_83, ua_84, ua_85, ua_86, ua_87, ua_88, ua_89, ua_90, ua_91, ua_92, ua_93, ua_94, ua_95, ua_96, ua_97, ua_98, sO_g, sA_g, sA_O, sO_A, sO_2, sM_1, sM_2, sM_3, sM_4, sM_5, sM_6, uc_75, h3, b01_t]
    obtain ⟨j, hj, rfl⟩ := isB_t (by omega) hb
    simp (disch := omega) only [lit_0, lit_1, lit_2, lit_3, lit_4, lit_5, lit_6, lit_7, lit_8, lit_9, lit_10, lit_16, lit_40, lit_48, lit_60, lit_67, lit_76, lit_82, lit_99, lit_100, lit_255, lit_508, lit_720, lit_1023, nI_1, nI_add, pk_sub, pk_mul, pk_div, nu_rem2, nI_clamp, nu_m, nu_m', nu_lm, nu_ml, nu_ltm, nu_mlt, nu_mm, nu_dec, nu_in, nu_le, nu_lt, nu_eq, true_and, and_true, false_imp_iff, true_imp_iff, not_true_eq_false, not_false_eq_true, Nat.not_lt_zero, Nat.zero_le, Nat.le_refl, Nat.lt_irrefl, Nat.reduceEqDiff, Nat.reduceLT, Nat.reduceLeDiff, Nat.reduceAdd, Nat.reduceSub, Nat.reduceMul, Nat.reduceMod, Nat.reduceDiv, Nat.one_ne_zero, Nat.zero_ne_one, ft_0_0, ft_0_1, ft_0_2, ft_0_3, ft_0_4, ft_1_0, ft_1_1, ft_1_2, ft_2_0, ft_2_1, ft_2_2, ft_2_3, ft_2_4, ft_2_5, ft_2_6, ft_2_7, ft_2_8, ft_2_9, ft_2_10, ft_3_0, ft_3_1, ft_3_2, ft_3_3, ft_4_0, ft_4_1, ft_4_2, ft_4_3, ft_4_4, ft_4_5, ft_4_6, ft_5_0, ft_5_1, ft_6_0, ft_6_1, ft_6_2, ft_6_3, ft_6_4, ft_6_5, ft_6_6, ft_7_0, ft_7_1, ft_7_2, ft_7_3, ft_7_4, ft_7_5, ft_7_6, ft_7_7, ft_7_8, ft_7_9, ft_7_10, ft_7_11, ft_7_12, ft_7_13, ft_8_0, ft_8_1, ft_8_2, ft_8_3, ft_8_4, ft_8_5, ft_8_6, ft_8_7, ft_8_8, ft_8_9, ft_8_10, ft_8_11, ft_8_12, ft_8_13, ft_8_14, ft_8_15, ft_8_16, ft_8_17, ft_8_18, ft_8_19, ft_8_20, ft_8_21, ft_8_22, ft_8_23, ft_8_24, ft_8_25, ft_8_26, ft_8_27, ft_8_28, ft_8_29, ft_8_30, ft_8_31, ft_8_32, ft_8_33, ft_8_34, ft_8_35, ft_8_36, ft_8_37, ft_8_38, ft_8_39, ft_8_40, ft_8_41, nu_fitI, nu_fitL, nu_fitO, nu_fitA, nu_fitB0, nu_fitB1]
    exact ⟨rfl, _, rfl, ⟨h1, h2, rfl, h4, h5, h6, h7, h8⟩, agC.sO (by omega)⟩
theorem C_at (hC : InvC g s) (x : Int32) : WM tb (d + 2) k_B_at [vR 0, vI x] (HP s) 0 0 (PostC g s (vI (aAt g x))) := by
  have hC0 := hC
  obtain ⟨h1, h2, h3, h4, h5, h6, h7, h8⟩ := hC
  refine WM.of mi_59 rfl rfl (Nat.le_of_ble_eq_true rfl) ?_
  show WP (mm_rw mr_59) (some .int) tb (WM tb (d + 1)) _ 0 [(0, vR 0), (1, vI x)] [] (HP s) 0 0
  (try simp only [Option.toList_some, Option.toList_none, List.nil_append, List.append_nil, List.cons_append, Nat.sub_zero, Nat.sub_self, Nat.zero_sub]); refine Go.wp sp_59 200 ?_; simp only [↓g59_0, ↓g59_1, ↓g59_4, ↓g59_7, ↓g59_8, ↓g59_11, cl_36, cn_0, cn_1, cn_2, cn_3, cn_4, cn_5, cn_6, cn_7, cn_8, ↓Go_s, ↓GoC_a, ↓reduceIte, ↓mm_call_eq, ↓mmw_nil, ↓mmw_cons, List.take_succ_cons, List.take_zero, List.take_nil, List.drop_succ_cons, List.drop_zero, List.drop_nil, List.reverse_cons, List.reverse_nil, List.nil_append, List.cons_append, List.append_nil, Option.toList_some, Option.toList_none, Nat.sub_zero, Nat.le_refl, mmr_cons, mm_st1, mm_st2, mmi_nil, mmi_cons, mmc_I, mmc_L, mmc_R, mmu_get, mmu_one, mma_get, mma_one, List.filter_cons, List.filter_nil, List.contains_cons, List.contains_nil, Nat.reduceBEq, Nat.reduceAdd, Nat.reduceLT, Nat.reduceSub, Nat.reduceLeDiff, Nat.reduceEqDiff, Int32.reduceAdd, Bool.not_true, Bool.not_false, Bool.and_true, Bool.true_and, Bool.and_false, Bool.false_and, Bool.or_false, Bool.false_or, Bool.or_true, Bool.true_or, if_true, if_false, ite_true, ite_false, Bool.false_eq_true, List.getElem?_cons_zero, List.getElem?_cons_succ, List.length_cons, List.length_nil, true_and, and_true, List.set_cons_zero, List.set_cons_succ, Fin.isValue, Fin.val_zero, Fin.val_one, Fin.val_two, Fin.reduceFinMk, Nat.zero_add, hp_0, hp_1, hp_2, hp_3, hp_4, hp_5, hp_6, hp_7, hp_8, hp_9, hp_10, hp_11, hp_12, hp_13, hp_14, hp_15, hp_16, hp_17, hp_18, hp_19, hp_20, hp_21, hp_22, hp_23, hp_24, hp_25, hp_26, hp_27, hp_28, hp_29, hp_30, hp_31, hp_32, hp_33, hp_34, hp_35, hp_36, hp_37, hp_38, hp_39, hp_40, hp_41, hp_42, hp_43, hp_44, hp_45, hp_46, hp_47, hp_48, hp_49, hp_50, hp_51, hp_52, hp_53, hp_54, hp_55, hp_56, hp_57, hp_58, hp_59, hp_60, hp_61, hp_62, hp_63, hp_64, hp_65, hp_66, hp_67, hp_68, hp_69, hp_70, hp_71, hp_72, hp_73, hp_74, og_0_0, og_0_1, og_0_2, og_0_3, og_0_4, og_0_5, og_0_6, og_0_7, og_0_8, og_0_9, og_0_10, og_0_11, og_0_12, og_0_13, ol_0, og_2_0, og_2_1, og_2_2, og_2_3, og_2_4, og_2_5, og_2_6, ol_2, og_3_0, og_3_1, ol_3, og_5_0, og_5_1, ol_5, og_9_0, og_9_1, og_9_2, og_9_3, og_9_4, og_9_5, og_9_6, ol_9, og_10_0, og_10_1, ol_10, og_12_0, og_12_1, ol_12, og_16_0, og_16_1, og_16_2, ol_16, og_17_0, og_17_1, ol_17, og_21_0, og_21_1, og_21_2, og_21_3, og_21_4, ol_21, og_27_0, og_27_1, og_27_2, og_27_3, og_27_4, og_27_5, og_27_6, og_27_7, og_27_8, og_27_9, og_27_10, ol_27, og_35_0, og_35_1, ol_35, og_37_0, og_37_1, ol_37, og_39_0, og_39_1, ol_39, og_41_0, og_41_1, ol_41, og_43_0, og_43_1, ol_43, og_45_0, og_45_1, ol_45, og_47_0, og_47_1, ol_47, og_49_0, og_49_1, og_49_2, og_49_3, ol_49, og_53_0, og_53_1, ol_53, og_55_0, og_55_1, ol_55, og_57_0, og_57_1, ol_57, og_59_0, og_59_1, ol_59, og_61_0, og_61_1, ol_61, og_63_0, og_63_1, ol_63, og_65_0, og_65_1, og_65_2, ol_65, og_66_0, og_66_1, ol_66, og_70_0, og_70_1, og_70_2, ol_70, og_71_0, og_71_1, ol_71, uo_0_1, uo_0_4, uo_0_8, ua_1, uo_2_0, uo_2_1, uo_2_2, uo_3_1, ua_4, uo_5_1, ua_6, ua_7, ua_8, uo_9_0, uo_9_1, uo_9_2, uo_10_1, ua_11, uo_12_1, ua_13, ua_14, ua_15, uo_17_1, ua_18, ua_19, ua_20, uo_21_4, ua_22, ua_23, ua_24, ua_25, uo_27_2, uo_27_6, uo_27_7, uo_27_8, ua_28, ua_29, ua_31, ua_32, ua_33, ua_34, uo_35_1, ua_36, uo_37_1, ua_38, uo_39_1, ua_40, uo_41_1, ua_42, uo_43_1, ua_44, uo_45_1, ua_46, uo_47_1, ua_48, uo_49_3, ua_51, ua_52, uo_53_1, ua_54, uo_55_1, ua_56, uo_57_1, ua_58, uo_59_1, ua_60, uo_61_1, ua_62, uo_63_1, ua_64, uo_66_1, ua_67, ua_68, ua_69, uo_71_1, ua_72, ua_73, ua_74, sO_g, sA_g, sA_O, sO_A, sO_2, sC_1, sC_2, sC_3, sC_4, sC_5, sC_6, sW_1, sW_2, sW_3, sW_4, uc_0]
  refine ⟨0, 0, _, Nat.le_refl _, Nat.le_refl _, c_bookAt (rs_17 h4.1) x, fun z h' hz => ?_⟩
  obtain ⟨rfl, rfl⟩ := hz
  (try simp only [Option.toList_some, Option.toList_none, List.nil_append, List.append_nil, List.cons_append, Nat.sub_zero, Nat.sub_self, Nat.zero_sub]); refine Go.wp sp_59 200 ?_; simp only [↓g59_0, ↓g59_1, ↓g59_4, ↓g59_7, ↓g59_8, ↓g59_11, cl_36, cn_0, cn_1, cn_2, cn_3, cn_4, cn_5, cn_6, cn_7, cn_8, ↓Go_s, ↓GoC_a, ↓reduceIte, ↓mm_call_eq, ↓mmw_nil, ↓mmw_cons, List.take_succ_cons, List.take_zero, List.take_nil, List.drop_succ_cons, List.drop_zero, List.drop_nil, List.reverse_cons, List.reverse_nil, List.nil_append, List.cons_append, List.append_nil, Option.toList_some, Option.toList_none, Nat.sub_zero, Nat.le_refl, mmr_cons, mm_st1, mm_st2, mmi_nil, mmi_cons, mmc_I, mmc_L, mmc_R, mmu_get, mmu_one, mma_get, mma_one, List.filter_cons, List.filter_nil, List.contains_cons, List.contains_nil, Nat.reduceBEq, Nat.reduceAdd, Nat.reduceLT, Nat.reduceSub, Nat.reduceLeDiff, Nat.reduceEqDiff, Int32.reduceAdd, Bool.not_true, Bool.not_false, Bool.and_true, Bool.true_and, Bool.and_false, Bool.false_and, Bool.or_false, Bool.false_or, Bool.or_true, Bool.true_or, if_true, if_false, ite_true, ite_false, Bool.false_eq_true, List.getElem?_cons_zero, List.getElem?_cons_succ, List.length_cons, List.length_nil, true_and, and_true, List.set_cons_zero, List.set_cons_succ, Fin.isValue, Fin.val_zero, Fin.val_one, Fin.val_two, Fin.reduceFinMk, Nat.zero_add, hp_0, hp_1, hp_2, hp_3, hp_4, hp_5, hp_6, hp_7, hp_8, hp_9, hp_10, hp_11, hp_12, hp_13, hp_14, hp_15, hp_16, hp_17, hp_18, hp_19, hp_20, hp_21, hp_22, hp_23, hp_24, hp_25, hp_26, hp_27, hp_28, hp_29, hp_30, hp_31, hp_32, hp_33, hp_34, hp_35, hp_36, hp_37, hp_38, hp_39, hp_40, hp_41, hp_42, hp_43, hp_44, hp_45, hp_46, hp_47, hp_48, hp_49, hp_50, hp_51, hp_52, hp_53, hp_54, hp_55, hp_56, hp_57, hp_58, hp_59, hp_60, hp_61, hp_62, hp_63, hp_64, hp_65, hp_66, hp_67, hp_68, hp_69, hp_70, hp_71, hp_72, hp_73, hp_74, og_0_0, og_0_1, og_0_2, og_0_3, og_0_4, og_0_5, og_0_6, og_0_7, og_0_8, og_0_9, og_0_10, og_0_11, og_0_12, og_0_13, ol_0, og_2_0, og_2_1, og_2_2, og_2_3, og_2_4, og_2_5, og_2_6, ol_2, og_3_0, og_3_1, ol_3, og_5_0, og_5_1, ol_5, og_9_0, og_9_1, og_9_2, og_9_3, og_9_4, og_9_5, og_9_6, ol_9, og_10_0, og_10_1, ol_10, og_12_0, og_12_1, ol_12, og_16_0, og_16_1, og_16_2, ol_16, og_17_0, og_17_1, ol_17, og_21_0, og_21_1, og_21_2, og_21_3, og_21_4, ol_21, og_27_0, og_27_1, og_27_2, og_27_3, og_27_4, og_27_5, og_27_6, og_27_7, og_27_8, og_27_9, og_27_10, ol_27, og_35_0, og_35_1, ol_35, og_37_0, og_37_1, ol_37, og_39_0, og_39_1, ol_39, og_41_0, og_41_1, ol_41, og_43_0, og_43_1, ol_43, og_45_0, og_45_1, ol_45, og_47_0, og_47_1, ol_47, og_49_0, og_49_1, og_49_2, og_49_3, ol_49, og_53_0, og_53_1, ol_53, og_55_0, og_55_1, ol_55, og_57_0, og_57_1, ol_57, og_59_0, og_59_1, ol_59, og_61_0, og_61_1, ol_61, og_63_0, og_63_1, ol_63, og_65_0, og_65_1, og_65_2, ol_65, og_66_0, og_66_1, ol_66, og_70_0, og_70_1, og_70_2, ol_70, og_71_0, og_71_1, ol_71, uo_0_1, uo_0_4, uo_0_8, ua_1, uo_2_0, uo_2_1, uo_2_2, uo_3_1, ua_4, uo_5_1, ua_6, ua_7, ua_8, uo_9_0, uo_9_1, uo_9_2, uo_10_1, ua_11, uo_12_1, ua_13, ua_14, ua_15, uo_17_1, ua_18, ua_19, ua_20, uo_21_4, ua_22, ua_23, ua_24, ua_25, uo_27_2, uo_27_6, uo_27_7, uo_27_8, ua_28, ua_29, ua_31, ua_32, ua_33, ua_34, uo_35_1, ua_36, uo_37_1, ua_38, uo_39_1, ua_40, uo_41_1, ua_42, uo_43_1, ua_44, uo_45_1, ua_46, uo_47_1, ua_48, uo_49_3, ua_51, ua_52, uo_53_1, ua_54, uo_55_1, ua_56, uo_57_1, ua_58, uo_59_1, ua_60, uo_61_1, ua_62, uo_63_1, ua_64, uo_66_1, ua_67, ua_68, ua_69, uo_71_1, ua_72, ua_73, ua_74, sO_g, sA_g, sA_O, sO_A, sO_2, sC_1, sC_2, sC_3, sC_4, sC_5, sC_6, sW_1, sW_2, sW_3, sW_4, uc_0]
  refine ⟨?_, s, rfl, hC0, agM.rf⟩
  unfold aAt isB
  congr 2
  by_cases c : 0 ≤ x ∧ x < nI (gDk g).1.length
  · rw [if_pos c, decide_eq_true c.1, decide_eq_true c.2]
    rfl
  · rw [if_neg c, if_neg]
    rw [Bool.and_eq_true, decide_eq_true_eq, decide_eq_true_eq]
    exact c
theorem M_at (hk : SgOk g) (hM : InvM g s) (x : Int32) : WM tb (d + 2) k_M_at [vR 75, vI x] (HP s) 0 0 (PostM g s (vI (aAt g x))) := by
  have hM0 := hM
  obtain ⟨h1, h2, h3, h4, h5, h6, h7, h8⟩ := hM
  have hd : DkOk (gN g) (gRd g).length (gDk g) := hk.2.2.2.2.2.2.2.2.2.2.1
  have hl8 : (gDk g).1.length ≤ 8 := Nat.le_trans (nodup_len hd.1 hd.2.1) hk.2.2.2.2.1
  refine WM.of mi_111 rfl rfl (Nat.le_of_ble_eq_true rfl) ?_
  show WP (mm_rw mr_111) (some .int) tb (WM tb (d + 1)) _ 0 [(0, vR 75), (1, vI x)] [] (HP s) 0 0
  (try simp only [Option.toList_some, Option.toList_none, List.nil_append, List.append_nil, List.cons_append, Nat.sub_zero, Nat.sub_self, Nat.zero_sub]); refine Go.wp sp_111 200 ?_; simp only [↓g111_0, ↓g111_1, ↓g111_2, ↓g111_3, ↓g111_4, ↓g111_7, ↓g111_8, ↓g111_9, ↓g111_10, ↓g111_13, ↓g111_16, ↓g111_17, ↓g111_20, ↓g111_21, ↓g111_21t, ↓g111_22, ↓g111_25, ↓g111_27, cl_99, cn_0, cn_1, cn_2, cn_3, cn_4, cn_5, cn_6, cn_7, cn_8, ↓Go_s, ↓GoC_a, ↓reduceIte, ↓mm_call_eq, ↓mmw_nil, ↓mmw_cons, List.take_succ_cons, List.take_zero, List.take_nil, List.drop_succ_cons, List.drop_zero, List.drop_nil, List.reverse_cons, List.reverse_nil, List.nil_append, List.cons_append, List.append_nil, Option.toList_some, Option.toList_none, Nat.sub_zero, Nat.le_refl, mmr_cons, mm_st1, mm_st2, mmi_nil, mmi_cons, mmc_I, mmc_L, mmc_R, mmu_get, mmu_one, mma_get, mma_one, List.filter_cons, List.filter_nil, List.contains_cons, List.contains_nil, Nat.reduceBEq, Nat.reduceAdd, Nat.reduceLT, Nat.reduceSub, Nat.reduceLeDiff, Nat.reduceEqDiff, Int32.reduceAdd, Bool.not_true, Bool.not_false, Bool.and_true, Bool.true_and, Bool.and_false, Bool.false_and, Bool.or_false, Bool.false_or, Bool.or_true, Bool.true_or, if_true, if_false, ite_true, ite_false, Bool.false_eq_true, List.getElem?_cons_zero, List.getElem?_cons_succ, List.length_cons, List.length_nil, true_and, and_true, List.set_cons_zero, List.set_cons_succ, Fin.isValue, Fin.val_zero, Fin.val_one, Fin.val_two, Fin.reduceFinMk, Nat.zero_add, hp_75, hp_76, hp_77, hp_78, hp_79, hp_80, hp_81, hp_82, hp_83, hp_84, hp_85, hp_86, hp_87, hp_88, hp_89, hp_90, hp_91, hp_92, hp_93, hp_94, hp_95, hp_96, hp_97, hp_98, og_75_0, og_75_1, og_75_2, og_75_3, og_75_4, og_75_5, og_75_6, og_75_7, og_75_8, og_75_9, og_75_10, og_75_11, og_75_12, og_75_13, og_75_14, og_75_15, og_75_16, og_75_17, og_75_18, og_75_19, og_75_20, og_75_21, og_75_22, og_75_23, og_75_24, og_75_25, og_75_26, og_75_27, og_75_28, og_75_29, og_75_30, og_75_31, og_75_32, og_75_33, og_75_34, og_75_35, og_75_36, og_75_37, og_75_38, og_75_39, og_75_40, og_75_41, ol_75, uo_75_4, uo_75_5, uo_75_6, uo_75_7, uo_75_11, uo_75_12, uo_75_13, uo_75_15, uo_75_19, uo_75_20, uo_75_21, uo_75_22, uo_75_23, uo_75_26, uo_75_30, uo_75_31, uo_75_32, uo_75_33, ua_76, ua_77, ua_78, ua_79, ua_80, ua_81, ua_82, ua_83, ua_84, ua_85, ua_86, ua_87, ua_88, ua_89, ua_90, ua_91, ua_92, ua_93, ua_94, ua_95, ua_96, ua_97, ua_98, sO_g, sA_g, sA_O, sO_A, sO_2, sM_1, sM_2, sM_3, sM_4, sM_5, sM_6, uc_75, h4.1]
  refine ⟨0, 0, _, Nat.le_refl _, Nat.le_refl _, M_in _ _ _ _, fun z h' hz => ?_⟩
  obtain ⟨rfl, rfl⟩ := hz
  have e := isB_longZ (x := x) (n := (gDk g).1.length) (by omega)
  rw [e]
  unfold aAt
  cases hb : isB x (gDk g).1.length
  · (try simp only [Option.toList_some, Option.toList_none, List.nil_append, List.append_nil, List.cons_append, Nat.sub_zero, Nat.sub_self, Nat.zero_sub]); refine Go.wp sp_111 200 ?_; simp only [↓g111_0, ↓g111_1, ↓g111_2, ↓g111_3, ↓g111_4, ↓g111_7, ↓g111_8, ↓g111_9, ↓g111_10, ↓g111_13, ↓g111_16, ↓g111_17, ↓g111_20, ↓g111_21, ↓g111_21t, ↓g111_22, ↓g111_25, ↓g111_27, cl_99, cn_0, cn_1, cn_2, cn_3, cn_4, cn_5, cn_6, cn_7, cn_8, ↓Go_s, ↓GoC_a, ↓reduceIte, ↓mm_call_eq, ↓mmw_nil, ↓mmw_cons, List.take_succ_cons, List.take_zero, List.take_nil, List.drop_succ_cons, List.drop_zero, List.drop_nil, List.reverse_cons, List.reverse_nil, List.nil_append, List.cons_append, List.append_nil, Option.toList_some, Option.toList_none, Nat.sub_zero, Nat.le_refl, mmr_cons, mm_st1, mm_st2, mmi_nil, mmi_cons, mmc_I, mmc_L, mmc_R, mmu_get, mmu_one, mma_get, mma_one, List.filter_cons, List.filter_nil, List.contains_cons, List.contains_nil, Nat.reduceBEq, Nat.reduceAdd, Nat.reduceLT, Nat.reduceSub, Nat.reduceLeDiff, Nat.reduceEqDiff, Int32.reduceAdd, Bool.not_true, Bool.not_false, Bool.and_true, Bool.true_and, Bool.and_false, Bool.false_and, Bool.or_false, Bool.false_or, Bool.or_true, Bool.true_or, if_true, if_false, ite_true, ite_false, Bool.false_eq_true, List.getElem?_cons_zero, List.getElem?_cons_succ, List.length_cons, List.length_nil, true_and, and_true, List.set_cons_zero, List.set_cons_succ, Fin.isValue, Fin.val_zero, Fin.val_one, Fin.val_two, Fin.reduceFinMk, Nat.zero_add, hp_75, hp_76, hp_77, hp_78, hp_79, hp_80, hp_81, hp_82, hp_83, hp_84, hp_85, hp_86, hp_87, hp_88, hp_89, hp_90, hp_91, hp_92, hp_93, hp_94, hp_95, hp_96, hp_97, hp_98, og_75_0, og_75_1, og_75_2, og_75_3, og_75_4, og_75_5, og_75_6, og_75_7, og_75_8, og_75_9, og_75_10, og_75_11, og_75_12, og_75_13, og_75_14, og_75_15, og_75_16, og_75_17, og_75_18, og_75_19, og_75_20, og_75_21, og_75_22, og_75_23, og_75_24, og_75_25, og_75_26, og_75_27, og_75_28, og_75_29, og_75_30, og_75_31, og_75_32, og_75_33, og_75_34, og_75_35, og_75_36, og_75_37, og_75_38, og_75_39, og_75_40, og_75_41, ol_75, uo_75_4, uo_75_5, uo_75_6, uo_75_7, uo_75_11, uo_75_12, uo_75_13, uo_75_15, uo_75_19, uo_75_20, uo_75_21, uo_75_22, uo_75_23, uo_75_26, uo_75_30, uo_75_31, uo_75_32, uo_75_33, ua_76, ua_77, ua_78, ua_79, ua_80, ua_81, ua_82, ua_83, ua_84, ua_85, ua_86, ua_87, ua_88, ua_89, ua_90, ua_91, ua_92, ua_93, ua_94, ua_95, ua_96, ua_97, ua_98, sO_g, sA_g, sA_O, sO_A, sO_2, sM_1, sM_2, sM_3, sM_4, sM_5, sM_6, uc_75, h4.1, b01_f]
    exact ⟨fun _ => ⟨rfl, s, rfl, hM0, agC.rf⟩, fun c => absurd trivial c⟩
  · obtain ⟨j, hj, rfl⟩ := isB_t (by omega) hb
    (try simp only [Option.toList_some, Option.toList_none, List.nil_append, List.append_nil, List.cons_append, Nat.sub_zero, Nat.sub_self, Nat.zero_sub]); refine Go.wp sp_111 200 ?_; simp only [↓g111_0, ↓g111_1, ↓g111_2, ↓g111_3, ↓g111_4, ↓g111_7, ↓g111_8, ↓g111_9, ↓g111_10, ↓g111_13, ↓g111_16, ↓g111_17, ↓g111_20, ↓g111_21, ↓g111_21t, ↓g111_22, ↓g111_25, ↓g111_27, cl_99, cn_0, cn_1, cn_2, cn_3, cn_4, cn_5, cn_6, cn_7, cn_8, ↓Go_s, ↓GoC_a, ↓reduceIte, ↓mm_call_eq, ↓mmw_nil, ↓mmw_cons, List.take_succ_cons, List.take_zero, List.take_nil, List.drop_succ_cons, List.drop_zero, List.drop_nil, List.reverse_cons, List.reverse_nil, List.nil_append, List.cons_append, List.append_nil, Option.toList_some, Option.toList_none, Nat.sub_zero, Nat.le_refl, mmr_cons, mm_st1, mm_st2, mmi_nil, mmi_cons, mmc_I, mmc_L, mmc_R, mmu_get, mmu_one, mma_get, mma_one, List.filter_cons, List.filter_nil, List.contains_cons, List.contains_nil, Nat.reduceBEq, Nat.reduceAdd, Nat.reduceLT, Nat.reduceSub, Nat.reduceLeDiff, Nat.reduceEqDiff, Int32.reduceAdd, Bool.not_true, Bool.not_false, Bool.and_true, Bool.true_and, Bool.and_false, Bool.false_and, Bool.or_false, Bool.false_or, Bool.or_true, Bool.true_or, if_true, if_false, ite_true, ite_false, Bool.false_eq_true, List.getElem?_cons_zero, List.getElem?_cons_succ, List.length_cons, List.length_nil, true_and, and_true, List.set_cons_zero, List.set_cons_succ, Fin.isValue, Fin.val_zero, Fin.val_one, Fin.val_two, Fin.reduceFinMk, Nat.zero_add, hp_75, hp_76, hp_77, hp_78, hp_79, hp_80, hp_81, hp_82, hp_83, hp_84, hp_85, hp_86, hp_87, hp_88, hp_89, hp_90, hp_91, hp_92, hp_93, hp_94, hp_95, hp_96, hp_97, hp_98, og_75_0, og_75_1, og_75_2, og_75_3, og_75_4, og_75_5, og_75_6, og_75_7, og_75_8, og_75_9, og_75_10, og_75_11, og_75_12, og_75_13, og_75_14, og_75_15, og_75_16, og_75_17, og_75_18, og_75_19, og_75_20, og_75_21, og_75_22, og_75_23, og_75_24, og_75_25, og_75_26, og_75_27, og_75_28, og_75_29, og_75_30, og_75_31, og_75_32, og_75_33, og_75_34, og_75_35, og_75_36, og_75_37, og_75_38, og_75_39, og_75_40, og_75_41, ol_75, uo_75_4, uo_75_5, uo_75_6, uo_75_7, uo_75_11, uo_75_12, uo_75_13, uo_75_15, uo_75_19, uo_75_20, uo_75_21, uo_75_22, uo_75_23, uo_75_26, uo_75_30, uo_75_31, uo_75_32, uo_75_33, ua_76, ua_77, ua_78, ua_79, ua_80, ua_81, ua_82, ua_83, ua_84, ua_85, ua_86, ua_87, ua_88, ua_89, ua_90, ua_91, ua_92, ua_93, ua_94, ua_95, ua_96, ua_97, ua_98, sO_g, sA_g, sA_O, sO_A, sO_2, sM_1, sM_2, sM_3, sM_4, sM_5, sM_6, uc_75, h4.1, b01_t]
    simp (disch := omega) only [lit_0, lit_1, lit_2, lit_3, lit_4, lit_5, lit_6, lit_7, lit_8, lit_9, lit_10, lit_16, lit_40, lit_48, lit_60, lit_67, lit_76, lit_82, lit_99, lit_100, lit_255, lit_508, lit_720, lit_1023, nI_1, nI_add, pk_sub, pk_mul, pk_div, nu_rem2, nI_clamp, nu_m, nu_m', nu_lm, nu_ml, nu_ltm, nu_mlt, nu_mm, nu_dec, nu_in, nu_le, nu_lt, nu_eq, true_and, and_true, false_imp_iff, true_imp_iff, not_true_eq_false, not_false_eq_true, Nat.not_lt_zero, Nat.zero_le, Nat.le_refl, Nat.lt_irrefl, Nat.reduceEqDiff, Nat.reduceLT, Nat.reduceLeDiff, Nat.reduceAdd, Nat.reduceSub, Nat.reduceMul, Nat.reduceMod, Nat.reduceDiv, Nat.one_ne_zero, Nat.zero_ne_one, ft_0_0, ft_0_1, ft_0_2, ft_0_3, ft_0_4, ft_1_0, ft_1_1, ft_1_2, ft_2_0, ft_2_1, ft_2_2, ft_2_3, ft_2_4, ft_2_5, ft_2_6, ft_2_7, ft_2_8, ft_2_9, ft_2_10, ft_3_0, ft_3_1, ft_3_2, ft_3_3, ft_4_0, ft_4_1, ft_4_2, ft_4_3, ft_4_4, ft_4_5, ft_4_6, ft_5_0, ft_5_1, ft_6_0, ft_6_1, ft_6_2, ft_6_3, ft_6_4, ft_6_5, ft_6_6, ft_7_0, ft_7_1, ft_7_2, ft_7_3, ft_7_4, ft_7_5, ft_7_6, ft_7_7, ft_7_8, ft_7_9, ft_7_10, ft_7_11, ft_7_12, ft_7_13, ft_8_0, ft_8_1, ft_8_2, ft_8_3, ft_8_4, ft_8_5, ft_8_6, ft_8_7, ft_8_8, ft_8_9, ft_8_10, ft_8_11, ft_8_12, ft_8_13, ft_8_14, ft_8_15, ft_8_16, ft_8_17, ft_8_18, ft_8_19, ft_8_20, ft_8_21, ft_8_22, ft_8_23, ft_8_24, ft_8_25, ft_8_26, ft_8_27, ft_8_28, ft_8_29, ft_8_30, ft_8_31, ft_8_32, ft_8_33, ft_8_34, ft_8_35, ft_8_36, ft_8_37, ft_8_38, ft_8_39, ft_8_40, ft_8_41, nu_fitI, nu_fitL, nu_fitO, nu_fitA, nu_fitB0, nu_fitB1]
    rw [h4.2.1 j hj]
    exact ⟨by omega, rfl, s, rfl, hM0, agC.rf⟩
theorem c_gadd (x y : Int32) {n : Nat} (hn : s.2.1 27 2 = nI n) (h6 : n < 6) : WM tb (d + 1) k_Guess_add [vR 27, vI x, vI y] (HP s) 0 0 (fun z h' => z = none ∧ h' = HP (sO (sA (sA s 28 (upd (s.1 28) n x)) 29 (upd (s.1 29) n y)) 27 2 (nI (n + 1)))) := by
  refine WM.of mi_9 rfl rfl (Nat.le_of_ble_eq_true rfl) ?_
  show WP (mm_rw mr_9) none tb (WM tb d) _ 0 [(0, vR 27), (1, vI x), (2, vI y)] [] (HP s) 0 0
  (try simp only [Option.toList_some, Option.toList_none, List.nil_append, List.append_nil, List.cons_append, Nat.sub_zero, Nat.sub_self, Nat.zero_sub]); refine Go.wp sp_9 200 ?_; simp only [↓g9_0, ↓g9_1, ↓g9_4, ↓g9_6, ↓g9_9, ↓g9_10, ↓g9_13, ↓g9_14, ↓g9_17, ↓g9_18, ↓g9_19, ↓g9_20, ↓g9_23, ↓g9_24, ↓g9_27, ↓g9_28, ↓g9_29, ↓g9_30, ↓g9_31, ↓g9_34, ↓g9_35, ↓g9_36, ↓g9_39, ↓Go_s, ↓GoC_a, ↓reduceIte, ↓mm_call_eq, ↓mmw_nil, ↓mmw_cons, List.take_succ_cons, List.take_zero, List.take_nil, List.drop_succ_cons, List.drop_zero, List.drop_nil, List.reverse_cons, List.reverse_nil, List.nil_append, List.cons_append, List.append_nil, Option.toList_some, Option.toList_none, Nat.sub_zero, Nat.le_refl, mmr_cons, mm_st1, mm_st2, mmi_nil, mmi_cons, mmc_I, mmc_L, mmc_R, mmu_get, mmu_one, mma_get, mma_one, List.filter_cons, List.filter_nil, List.contains_cons, List.contains_nil, Nat.reduceBEq, Nat.reduceAdd, Nat.reduceLT, Nat.reduceSub, Nat.reduceLeDiff, Nat.reduceEqDiff, Int32.reduceAdd, Bool.not_true, Bool.not_false, Bool.and_true, Bool.true_and, Bool.and_false, Bool.false_and, Bool.or_false, Bool.false_or, Bool.or_true, Bool.true_or, if_true, if_false, ite_true, ite_false, Bool.false_eq_true, List.getElem?_cons_zero, List.getElem?_cons_succ, List.length_cons, List.length_nil, true_and, and_true, List.set_cons_zero, List.set_cons_succ, Fin.isValue, Fin.val_zero, Fin.val_one, Fin.val_two, Fin.reduceFinMk, Nat.zero_add, hp_0, hp_1, hp_2, hp_3, hp_4, hp_5, hp_6, hp_7, hp_8, hp_9, hp_10, hp_11, hp_12, hp_13, hp_14, hp_15, hp_16, hp_17, hp_18, hp_19, hp_20, hp_21, hp_22, hp_23, hp_24, hp_25, hp_26, hp_27, hp_28, hp_29, hp_30, hp_31, hp_32, hp_33, hp_34, hp_35, hp_36, hp_37, hp_38, hp_39, hp_40, hp_41, hp_42, hp_43, hp_44, hp_45, hp_46, hp_47, hp_48, hp_49, hp_50, hp_51, hp_52, hp_53, hp_54, hp_55, hp_56, hp_57, hp_58, hp_59, hp_60, hp_61, hp_62, hp_63, hp_64, hp_65, hp_66, hp_67, hp_68, hp_69, hp_70, hp_71, hp_72, hp_73, hp_74, og_0_0, og_0_1, og_0_2, og_0_3, og_0_4, og_0_5, og_0_6, og_0_7, og_0_8, og_0_9, og_0_10, og_0_11, og_0_12, og_0_13, ol_0, og_2_0, og_2_1, og_2_2, og_2_3, og_2_4, og_2_5, og_2_6, ol_2, og_3_0, og_3_1, ol_3, og_5_0, og_5_1, ol_5, og_9_0, og_9_1, og_9_2, og_9_3, og_9_4, og_9_5, og_9_6, ol_9, og_10_0, og_10_1, ol_10, og_12_0, og_12_1, ol_12, og_16_0, og_16_1, og_16_2, ol_16, og_17_0, og_17_1, ol_17, og_21_0, og_21_1, og_21_2, og_21_3, og_21_4, ol_21, og_27_0, og_27_1, og_27_2, og_27_3, og_27_4, og_27_5, og_27_6, og_27_7, og_27_8, og_27_9, og_27_10, ol_27, og_35_0, og_35_1, ol_35, og_37_0, og_37_1, ol_37, og_39_0, og_39_1, ol_39, og_41_0, og_41_1, ol_41, og_43_0, og_43_1, ol_43, og_45_0, og_45_1, ol_45, og_47_0, og_47_1, ol_47, og_49_0, og_49_1, og_49_2, og_49_3, ol_49, og_53_0, og_53_1, ol_53, og_55_0, og_55_1, ol_55, og_57_0, og_57_1, ol_57, og_59_0, og_59_1, ol_59, og_61_0, og_61_1, ol_61, og_63_0, og_63_1, ol_63, og_65_0, og_65_1, og_65_2, ol_65, og_66_0, og_66_1, ol_66, og_70_0, og_70_1, og_70_2, ol_70, og_71_0, og_71_1, ol_71, uo_0_1, uo_0_4, uo_0_8, ua_1, uo_2_0, uo_2_1, uo_2_2, uo_3_1, ua_4, uo_5_1, ua_6, ua_7, ua_8, uo_9_0, uo_9_1, uo_9_2, uo_10_1, ua_11, uo_12_1, ua_13, ua_14, ua_15, uo_17_1, ua_18, ua_19, ua_20, uo_21_4, ua_22, ua_23, ua_24, ua_25, uo_27_2, uo_27_6, uo_27_7, uo_27_8, ua_28, ua_29, ua_31, ua_32, ua_33, ua_34, uo_35_1, ua_36, uo_37_1, ua_38, uo_39_1, ua_40, uo_41_1, ua_42, uo_43_1, ua_44, uo_45_1, ua_46, uo_47_1, ua_48, uo_49_3, ua_51, ua_52, uo_53_1, ua_54, uo_55_1, ua_56, uo_57_1, ua_58, uo_59_1, ua_60, uo_61_1, ua_62, uo_63_1, ua_64, uo_66_1, ua_67, ua_68, ua_69, uo_71_1, ua_72, ua_73, ua_74, sO_g, sA_g, sA_O, sO_A, sO_2, sC_1, sC_2, sC_3, sC_4, sC_5, sC_6, sW_1, sW_2, sW_3, sW_4, uc_0, hn]
  simp (disch := omega) only [lit_0, lit_1, lit_2, lit_3, lit_4, lit_5, lit_6, lit_7, lit_8, lit_9, lit_10, lit_16, lit_40, lit_48, lit_60, lit_67, lit_76, lit_82, lit_99, lit_100, lit_255, lit_508, lit_720, lit_1023, nI_1, nI_add, pk_sub, pk_mul, pk_div, nu_rem2, nI_clamp, nu_m, nu_m', nu_lm, nu_ml, nu_ltm, nu_mlt, nu_mm, nu_dec, nu_in, nu_le, nu_lt, nu_eq, true_and, and_true, false_imp_iff, true_imp_iff, not_true_eq_false, not_false_eq_true, Nat.not_lt_zero, Nat.zero_le, Nat.le_refl, Nat.lt_irrefl, Nat.reduceEqDiff, Nat.reduceLT, Nat.reduceLeDiff, Nat.reduceAdd, Nat.reduceSub, Nat.reduceMul, Nat.reduceMod, Nat.reduceDiv, Nat.one_ne_zero, Nat.zero_ne_one, ft_0_0, ft_0_1, ft_0_2, ft_0_3, ft_0_4, ft_1_0, ft_1_1, ft_1_2, ft_2_0, ft_2_1, ft_2_2, ft_2_3, ft_2_4, ft_2_5, ft_2_6, ft_2_7, ft_2_8, ft_2_9, ft_2_10, ft_3_0, ft_3_1, ft_3_2, ft_3_3, ft_4_0, ft_4_1, ft_4_2, ft_4_3, ft_4_4, ft_4_5, ft_4_6, ft_5_0, ft_5_1, ft_6_0, ft_6_1, ft_6_2, ft_6_3, ft_6_4, ft_6_5, ft_6_6, ft_7_0, ft_7_1, ft_7_2, ft_7_3, ft_7_4, ft_7_5, ft_7_6, ft_7_7, ft_7_8, ft_7_9, ft_7_10, ft_7_11, ft_7_12, ft_7_13, ft_8_0, ft_8_1, ft_8_2, ft_8_3, ft_8_4, ft_8_5, ft_8_6, ft_8_7, ft_8_8, ft_8_9, ft_8_10, ft_8_11, ft_8_12, ft_8_13, ft_8_14, ft_8_15, ft_8_16, ft_8_17, ft_8_18, ft_8_19, ft_8_20, ft_8_21, ft_8_22, ft_8_23, ft_8_24, ft_8_25, ft_8_26, ft_8_27, ft_8_28, ft_8_29, ft_8_30, ft_8_31, ft_8_32, ft_8_33, ft_8_34, ft_8_35, ft_8_36, ft_8_37, ft_8_38, ft_8_39, ft_8_40, ft_8_41, nu_fitI, nu_fitL, nu_fitO, nu_fitA, nu_fitB0, nu_fitB1, h6, Nat.not_le.mpr h6]
theorem getD_snoc {α : Type} (l : List α) (x y : α) (i : Nat) : (l ++ [x]).getD i y = if i < l.length then l.getD i y else if i = l.length then x else y := by
  rw [List.getD_eq_getElem?_getD, List.getElem?_append]
  split
  · rw [List.getD_eq_getElem?_getD]
  · rename_i c
    by_cases e : i = l.length
    · rw [if_pos e, e, Nat.sub_self]; rfl
    · rw [if_neg e, List.getElem?_eq_none (by simp; omega)]; rfl
theorem C_given (hk : SgOk g) (hC : InvC g s) (x y : Int32) : WM tb (d + 2) k_B_given [vR 0, vI x, vI y] (HP s) 0 0 (PostC (aGiven g x y).2 s (vI (aGiven g x y).1)) := by
  have hC0 := hC
  obtain ⟨h1, h2, h3, h4, h5, h6, h7, h8⟩ := hC
  have hn8 := hk.2.2.2.2.1
  have hto : (gTo g).length ≤ 6 := hk.2.2.2.2.2.2.2.2.2.2.2.2.2.1
  unfold aGiven
  refine WM.of mi_74 rfl rfl (Nat.le_of_ble_eq_true rfl) ?_
  show WP (mm_rw mr_74) (some .int) tb (WM tb (d + 1)) _ 0 [(0, vR 0), (1, vI x), (2, vI y)] [] (HP s) 0 0
  (try simp only [Option.toList_some, Option.toList_none, List.nil_append, List.append_nil, List.cons_append, Nat.sub_zero, Nat.sub_self, Nat.zero_sub]); refine Go.wp sp_74 200 ?_; simp only [↓g74_0, ↓g74_1, ↓g74_2, ↓g74_5, ↓g74_8, ↓g74_9, ↓g74_10, ↓g74_13, ↓g74_16, ↓g74_17, ↓g74_18, ↓g74_19, ↓g74_22, ↓g74_25, ↓g74_27, ↓g74_30, ↓g74_32, ↓g74_33, ↓g74_34, ↓g74_37, ↓g74_38, ↓g74_39, ↓g74_42, ↓g74_43, ↓g74_46, ↓g74_49, cl_9, cl_85, cn_0, cn_1, cn_2, cn_3, cn_4, cn_5, cn_6, cn_7, cn_8, ↓Go_s, ↓GoC_a, ↓reduceIte, ↓mm_call_eq, ↓mmw_nil, ↓mmw_cons, List.take_succ_cons, List.take_zero, List.take_nil, List.drop_succ_cons, List.drop_zero, List.drop_nil, List.reverse_cons, List.reverse_nil, List.nil_append, List.cons_append, List.append_nil, Option.toList_some, Option.toList_none, Nat.sub_zero, Nat.le_refl, mmr_cons, mm_st1, mm_st2, mmi_nil, mmi_cons, mmc_I, mmc_L, mmc_R, mmu_get, mmu_one, mma_get, mma_one, List.filter_cons, List.filter_nil, List.contains_cons, List.contains_nil, Nat.reduceBEq, Nat.reduceAdd, Nat.reduceLT, Nat.reduceSub, Nat.reduceLeDiff, Nat.reduceEqDiff, Int32.reduceAdd, Bool.not_true, Bool.not_false, Bool.and_true, Bool.true_and, Bool.and_false, Bool.false_and, Bool.or_false, Bool.false_or, Bool.or_true, Bool.true_or, if_true, if_false, ite_true, ite_false, Bool.false_eq_true, List.getElem?_cons_zero, List.getElem?_cons_succ, List.length_cons, List.length_nil, true_and, and_true, List.set_cons_zero, List.set_cons_succ, Fin.isValue, Fin.val_zero, Fin.val_one, Fin.val_two, Fin.reduceFinMk, Nat.zero_add, hp_0, hp_1, hp_2, hp_3, hp_4, hp_5, hp_6, hp_7, hp_8, hp_9, hp_10, hp_11, hp_12, hp_13, hp_14, hp_15, hp_16, hp_17, hp_18, hp_19, hp_20, hp_21, hp_22, hp_23, hp_24, hp_25, hp_26, hp_27, hp_28, hp_29, hp_30, hp_31, hp_32, hp_33, hp_34, hp_35, hp_36, hp_37, hp_38, hp_39, hp_40, hp_41, hp_42, hp_43, hp_44, hp_45, hp_46, hp_47, hp_48, hp_49, hp_50, hp_51, hp_52, hp_53, hp_54, hp_55, hp_56, hp_57, hp_58, hp_59, hp_60, hp_61, hp_62, hp_63, hp_64, hp_65, hp_66, hp_67, hp_68, hp_69, hp_70, hp_71, hp_72, hp_73, hp_74, og_0_0, og_0_1, og_0_2, og_0_3, og_0_4, og_0_5, og_0_6, og_0_7, og_0_8, og_0_9, og_0_10, og_0_11, og_0_12, og_0_13, ol_0, og_2_0, og_2_1, og_2_2, og_2_3, og_2_4, og_2_5, og_2_6, ol_2, og_3_0, og_3_1, ol_3, og_5_0, og_5_1, ol_5, og_9_0, og_9_1, og_9_2, og_9_3, og_9_4, og_9_5, og_9_6, ol_9, og_10_0, og_10_1, ol_10, og_12_0, og_12_1, ol_12, og_16_0, og_16_1, og_16_2, ol_16, og_17_0, og_17_1, ol_17, og_21_0, og_21_1, og_21_2, og_21_3, og_21_4, ol_21, og_27_0, og_27_1, og_27_2, og_27_3, og_27_4, og_27_5, og_27_6, og_27_7, og_27_8, og_27_9, og_27_10, ol_27, og_35_0, og_35_1, ol_35, og_37_0, og_37_1, ol_37, og_39_0, og_39_1, ol_39, og_41_0, og_41_1, ol_41, og_43_0, og_43_1, ol_43, og_45_0, og_45_1, ol_45, og_47_0, og_47_1, ol_47, og_49_0, og_49_1, og_49_2, og_49_3, ol_49, og_53_0, og_53_1, ol_53, og_55_0, og_55_1, ol_55, og_57_0, og_57_1, ol_57, og_59_0, og_59_1, ol_59, og_61_0, og_61_1, ol_61, og_63_0, og_63_1, ol_63, og_65_0, og_65_1, og_65_2, ol_65, og_66_0, og_66_1, ol_66, og_70_0, og_70_1, og_70_2, ol_70, og_71_0, og_71_1, ol_71, uo_0_1, uo_0_4, uo_0_8, ua_1, uo_2_0, uo_2_1, uo_2_2, uo_3_1, ua_4, uo_5_1, ua_6, ua_7, ua_8, uo_9_0, uo_9_1, uo_9_2, uo_10_1, ua_11, uo_12_1, ua_13, ua_14, ua_15, uo_17_1, ua_18, ua_19, ua_20, uo_21_4, ua_22, ua_23, ua_24, ua_25, uo_27_2, uo_27_6, uo_27_7, uo_27_8, ua_28, ua_29, ua_31, ua_32, ua_33, ua_34, uo_35_1, ua_36, uo_37_1, ua_38, uo_39_1, ua_40, uo_41_1, ua_42, uo_43_1, ua_44, uo_45_1, ua_46, uo_47_1, ua_48, uo_49_3, ua_51, ua_52, uo_53_1, ua_54, uo_55_1, ua_56, uo_57_1, ua_58, uo_59_1, ua_60, uo_61_1, ua_62, uo_63_1, ua_64, uo_66_1, ua_67, ua_68, ua_69, uo_71_1, ua_72, ua_73, ua_74, sO_g, sA_g, sA_O, sO_A, sO_2, sC_1, sC_2, sC_3, sC_4, sC_5, sC_6, sW_1, sW_2, sW_3, sW_4, uc_0, h7.1]
  refine ⟨0, 0, _, Nat.le_refl _, Nat.le_refl _, C_isBook h2.1 x, fun z h' hz => ?_⟩
  obtain ⟨rfl, rfl⟩ := hz
  cases hb : isB x (gN g)
  · (try simp only [Option.toList_some, Option.toList_none, List.nil_append, List.append_nil, List.cons_append, Nat.sub_zero, Nat.sub_self, Nat.zero_sub]); refine Go.wp sp_74 200 ?_; simp only [↓g74_0, ↓g74_1, ↓g74_2, ↓g74_5, ↓g74_8, ↓g74_9, ↓g74_10, ↓g74_13, ↓g74_16, ↓g74_17, ↓g74_18, ↓g74_19, ↓g74_22, ↓g74_25, ↓g74_27, ↓g74_30, ↓g74_32, ↓g74_33, ↓g74_34, ↓g74_37, ↓g74_38, ↓g74_39, ↓g74_42, ↓g74_43, ↓g74_46, ↓g74_49, cl_9, cl_85, cn_0, cn_1, cn_2, cn_3, cn_4, cn_5, cn_6, cn_7, cn_8, ↓Go_s, ↓GoC_a, ↓reduceIte, ↓mm_call_eq, ↓mmw_nil, ↓mmw_cons, List.take_succ_cons, List.take_zero, List.take_nil, List.drop_succ_cons, List.drop_zero, List.drop_nil, List.reverse_cons, List.reverse_nil, List.nil_append, List.cons_append, List.append_nil, Option.toList_some, Option.toList_none, Nat.sub_zero, Nat.le_refl, mmr_cons, mm_st1, mm_st2, mmi_nil, mmi_cons, mmc_I, mmc_L, mmc_R, mmu_get, mmu_one, mma_get, mma_one, List.filter_cons, List.filter_nil, List.contains_cons, List.contains_nil, Nat.reduceBEq, Nat.reduceAdd, Nat.reduceLT, Nat.reduceSub, Nat.reduceLeDiff, Nat.reduceEqDiff, Int32.reduceAdd, Bool.not_true, Bool.not_false, Bool.and_true, Bool.true_and, Bool.and_false, Bool.false_and, Bool.or_false, Bool.false_or, Bool.or_true, Bool.true_or, if_true, if_false, ite_true, ite_false, Bool.false_eq_true, List.getElem?_cons_zero, List.getElem?_cons_succ, List.length_cons, List.length_nil, true_and, and_true, List.set_cons_zero, List.set_cons_succ, Fin.isValue, Fin.val_zero, Fin.val_one, Fin.val_two, Fin.reduceFinMk, Nat.zero_add, hp_0, hp_1, hp_2, hp_3, hp_4, hp_5, hp_6, hp_7, hp_8, hp_9, hp_10, hp_11, hp_12, hp_13, hp_14, hp_15, hp_16, hp_17, hp_18, hp_19, hp_20, hp_21, hp_22, hp_23, hp_24, hp_25, hp_26, hp_27, hp_28, hp_29, hp_30, hp_31, hp_32, hp_33, hp_34, hp_35, hp_36, hp_37, hp_38, hp_39, hp_40, hp_41, hp_42, hp_43, hp_44, hp_45, hp_46, hp_47, hp_48, hp_49, hp_50, hp_51, hp_52, hp_53, hp_54, hp_55, hp_56, hp_57, hp_58, hp_59, hp_60, hp_61, hp_62, hp_63, hp_64, hp_65, hp_66, hp_67, hp_68, hp_69, hp_70, hp_71, hp_72, hp_73, hp_74, og_0_0, og_0_1, og_0_2, og_0_3, og_0_4, og_0_5, og_0_6, og_0_7, og_0_8, og_0_9, og_0_10, og_0_11, og_0_12, og_0_13, ol_0, og_2_0, og_2_1, og_2_2, og_2_3, og_2_4, og_2_5, og_2_6, ol_2, og_3_0, og_3_1, ol_3, og_5_0, og_5_1, ol_5, og_9_0, og_9_1, og_9_2, og_9_3, og_9_4, og_9_5, og_9_6, ol_9, og_10_0, og_10_1, ol_10, og_12_0, og_12_1, ol_12, og_16_0, og_16_1, og_16_2, ol_16, og_17_0, og_17_1, ol_17, og_21_0, og_21_1, og_21_2, og_21_3, og_21_4, ol_21, og_27_0, og_27_1, og_27_2, og_27_3, og_27_4, og_27_5, og_27_6, og_27_7, og_27_8, og_27_9, og_27_10, ol_27, og_35_0, og_35_1, ol_35, og_37_0, og_37_1, ol_37, og_39_0, og_39_1, ol_39, og_41_0, og_41_1, ol_41, og_43_0, og_43_1, ol_43, og_45_0, og_45_1, ol_45, og_47_0, og_47_1, ol_47, og_49_0, og_49_1, og_49_2, og_49_3, ol_49, og_53_0, og_53_1, ol_53, og_55_0, og_55_1, ol_55, og_57_0, og_57_1, ol_57, og_59_0, og_59_1, ol_59, og_61_0, og_61_1, ol_61, og_63_0, og_63_1, ol_63, og_65_0, og_65_1, og_65_2, ol_65, og_66_0, og_66_1, ol_66, og_70_0, og_70_1, og_70_2, ol_70, og_71_0, og_71_1, ol_71, uo_0_1, uo_0_4, uo_0_8, ua_1, uo_2_0, uo_2_1, uo_2_2, uo_3_1, ua_4, uo_5_1, ua_6, ua_7, ua_8, uo_9_0, uo_9_1, uo_9_2, uo_10_1, ua_11, uo_12_1, ua_13, ua_14, ua_15, uo_17_1, ua_18, ua_19, ua_20, uo_21_4, ua_22, ua_23, ua_24, ua_25, uo_27_2, uo_27_6, uo_27_7, uo_27_8, ua_28, ua_29, ua_31, ua_32, ua_33, ua_34, uo_35_1, ua_36, uo_37_1, ua_38, uo_39_1, ua_40, uo_41_1, ua_42, uo_43_1, ua_44, uo_45_1, ua_46, uo_47_1, ua_48, uo_49_3, ua_51, ua_52, uo_53_1, ua_54, uo_55_1, ua_56, uo_57_1, ua_58, uo_59_1, ua_60, uo_61_1, ua_62, uo_63_1, ua_64, uo_66_1, ua_67, ua_68, ua_69, uo_71_1, ua_72, ua_73, ua_74, sO_g, sA_g, sA_O, sO_A, sO_2, sC_1, sC_2, sC_3, sC_4, sC_5, sC_6, sW_1, sW_2, sW_3, sW_4, uc_0, h7.1, b01_f]
    exact ⟨fun _ => ⟨rfl, s, rfl, hC0, agM.rf⟩, fun c => absurd trivial c⟩
  · obtain ⟨j, hj, rfl⟩ := isB_t (by omega) hb
    (try simp only [Option.toList_some, Option.toList_none, List.nil_append, List.append_nil, List.cons_append, Nat.sub_zero, Nat.sub_self, Nat.zero_sub]); refine Go.wp sp_74 200 ?_; simp only [↓g74_0, ↓g74_1, ↓g74_2, ↓g74_5, ↓g74_8, ↓g74_9, ↓g74_10, ↓g74_13, ↓g74_16, ↓g74_17, ↓g74_18, ↓g74_19, ↓g74_22, ↓g74_25, ↓g74_27, ↓g74_30, ↓g74_32, ↓g74_33, ↓g74_34, ↓g74_37, ↓g74_38, ↓g74_39, ↓g74_42, ↓g74_43, ↓g74_46, ↓g74_49, cl_9, cl_85, cn_0, cn_1, cn_2, cn_3, cn_4, cn_5, cn_6, cn_7, cn_8, ↓Go_s, ↓GoC_a, ↓reduceIte, ↓mm_call_eq, ↓mmw_nil, ↓mmw_cons, List.take_succ_cons, List.take_zero, List.take_nil, List.drop_succ_cons, List.drop_zero, List.drop_nil, List.reverse_cons, List.reverse_nil, List.nil_append, List.cons_append, List.append_nil, Option.toList_some, Option.toList_none, Nat.sub_zero, Nat.le_refl, mmr_cons, mm_st1, mm_st2, mmi_nil, mmi_cons, mmc_I, mmc_L, mmc_R, mmu_get, mmu_one, mma_get, mma_one, List.filter_cons, List.filter_nil, List.contains_cons, List.contains_nil, Nat.reduceBEq, Nat.reduceAdd, Nat.reduceLT, Nat.reduceSub, Nat.reduceLeDiff, Nat.reduceEqDiff, Int32.reduceAdd, Bool.not_true, Bool.not_false, Bool.and_true, Bool.true_and, Bool.and_false, Bool.false_and, Bool.or_false, Bool.false_or, Bool.or_true, Bool.true_or, if_true, if_false, ite_true, ite_false, Bool.false_eq_true, List.getElem?_cons_zero, List.getElem?_cons_succ, List.length_cons, List.length_nil, true_and, and_true, List.set_cons_zero, List.set_cons_succ, Fin.isValue, Fin.val_zero, Fin.val_one, Fin.val_two, Fin.reduceFinMk, Nat.zero_add, hp_0, hp_1, hp_2, hp_3, hp_4, hp_5, hp_6, hp_7, hp_8, hp_9, hp_10, hp_11, hp_12, hp_13, hp_14, hp_15, hp_16, hp_17, hp_18, hp_19, hp_20, hp_21, hp_22, hp_23, hp_24, hp_25, hp_26, hp_27, hp_28, hp_29, hp_30, hp_31, hp_32, hp_33, hp_34, hp_35, hp_36, hp_37, hp_38, hp_39, hp_40, hp_41, hp_42, hp_43, hp_44, hp_45, hp_46, hp_47, hp_48, hp_49, hp_50, hp_51, hp_52, hp_53, hp_54, hp_55, hp_56, hp_57, hp_58, hp_59, hp_60, hp_61, hp_62, hp_63, hp_64, hp_65, hp_66, hp_67, hp_68, hp_69, hp_70, hp_71, hp_72, hp_73, hp_74, og_0_0, og_0_1, og_0_2, og_0_3, og_0_4, og_0_5, og_0_6, og_0_7, og_0_8, og_0_9, og_0_10, og_0_11, og_0_12, og_0_13, ol_0, og_2_0, og_2_1, og_2_2, og_2_3, og_2_4, og_2_5, og_2_6, ol_2, og_3_0, og_3_1, ol_3, og_5_0, og_5_1, ol_5, og_9_0, og_9_1, og_9_2, og_9_3, og_9_4, og_9_5, og_9_6, ol_9, og_10_0, og_10_1, ol_10, og_12_0, og_12_1, ol_12, og_16_0, og_16_1, og_16_2, ol_16, og_17_0, og_17_1, ol_17, og_21_0, og_21_1, og_21_2, og_21_3, og_21_4, ol_21, og_27_0, og_27_1, og_27_2, og_27_3, og_27_4, og_27_5, og_27_6, og_27_7, og_27_8, og_27_9, og_27_10, ol_27, og_35_0, og_35_1, ol_35, og_37_0, og_37_1, ol_37, og_39_0, og_39_1, ol_39, og_41_0, og_41_1, ol_41, og_43_0, og_43_1, ol_43, og_45_0, og_45_1, ol_45, og_47_0, og_47_1, ol_47, og_49_0, og_49_1, og_49_2, og_49_3, ol_49, og_53_0, og_53_1, ol_53, og_55_0, og_55_1, ol_55, og_57_0, og_57_1, ol_57, og_59_0, og_59_1, ol_59, og_61_0, og_61_1, ol_61, og_63_0, og_63_1, ol_63, og_65_0, og_65_1, og_65_2, ol_65, og_66_0, og_66_1, ol_66, og_70_0, og_70_1, og_70_2, ol_70, og_71_0, og_71_1, ol_71, uo_0_1, uo_0_4, uo_0_8, ua_1, uo_2_0, uo_2_1, uo_2_2, uo_3_1, ua_4, uo_5_1, ua_6, ua_7, ua_8, uo_9_0, uo_9_1, uo_9_2, uo_10_1, ua_11, uo_12_1, ua_13, ua_14, ua_15, uo_17_1, ua_18, ua_19, ua_20, uo_21_4, ua_22, ua_23, ua_24, ua_25, uo_27_2, uo_27_6, uo_27_7, uo_27_8, ua_28, ua_29, ua_31, ua_32, ua_33, ua_34, uo_35_1, ua_36, uo_37_1, ua_38, uo_39_1, ua_40, uo_41_1, ua_42, uo_43_1, ua_44, uo_45_1, ua_46, uo_47_1, ua_48, uo_49_3, ua_51, ua_52, uo_53_1, ua_54, uo_55_1, ua_56, uo_57_1, ua_58, uo_59_1, ua_60, uo_61_1, ua_62, uo_63_1, ua_64, uo_66_1, ua_67, ua_68, ua_69, uo_71_1, ua_72, ua_73, ua_74, sO_g, sA_g, sA_O, sO_A, sO_2, sC_1, sC_2, sC_3, sC_4, sC_5, sC_6, sW_1, sW_2, sW_3, sW_4, uc_0, h7.1, b01_t]
    refine ⟨fun c => absurd c (by decide), fun _ => ⟨0, 0, _, Nat.le_refl _, Nat.le_refl _, C_isBook h2.1 y, fun z h' hz => ?_⟩⟩
    obtain ⟨rfl, rfl⟩ := hz
    cases hc : isB y (gN g)
    · (try simp only [Option.toList_some, Option.toList_none, List.nil_append, List.append_nil, List.cons_append, Nat.sub_zero, Nat.sub_self, Nat.zero_sub]); refine Go.wp sp_74 200 ?_; simp only [↓g74_0, ↓g74_1, ↓g74_2, ↓g74_5, ↓g74_8, ↓g74_9, ↓g74_10, ↓g74_13, ↓g74_16, ↓g74_17, ↓g74_18, ↓g74_19, ↓g74_22, ↓g74_25, ↓g74_27, ↓g74_30, ↓g74_32, ↓g74_33, ↓g74_34, ↓g74_37, ↓g74_38, ↓g74_39, ↓g74_42, ↓g74_43, ↓g74_46, ↓g74_49, cl_9, cl_85, cn_0, cn_1, cn_2, cn_3, cn_4, cn_5, cn_6, cn_7, cn_8, ↓Go_s, ↓GoC_a, ↓reduceIte, ↓mm_call_eq, ↓mmw_nil, ↓mmw_cons, List.take_succ_cons, List.take_zero, List.take_nil, List.drop_succ_cons, List.drop_zero, List.drop_nil, List.reverse_cons, List.reverse_nil, List.nil_append, List.cons_append, List.append_nil, Option.toList_some, Option.toList_none, Nat.sub_zero, Nat.le_refl, mmr_cons, mm_st1, mm_st2, mmi_nil, mmi_cons, mmc_I, mmc_L, mmc_R, mmu_get, mmu_one, mma_get, mma_one, List.filter_cons, List.filter_nil, List.contains_cons, List.contains_nil, Nat.reduceBEq, Nat.reduceAdd, Nat.reduceLT, Nat.reduceSub, Nat.reduceLeDiff, Nat.reduceEqDiff, Int32.reduceAdd, Bool.not_true, Bool.not_false, Bool.and_true, Bool.true_and, Bool.and_false, Bool.false_and, Bool.or_false, Bool.false_or, Bool.or_true, Bool.true_or, if_true, if_false, ite_true, ite_false, Bool.false_eq_true, List.getElem?_cons_zero, List.getElem?_cons_succ, List.length_cons, List.length_nil, true_and, and_true, List.set_cons_zero, List.set_cons_succ, Fin.isValue, Fin.val_zero, Fin.val_one, Fin.val_two, Fin.reduceFinMk, Nat.zero_add, hp_0, hp_1, hp_2, hp_3, hp_4, hp_5, hp_6, hp_7, hp_8, hp_9, hp_10, hp_11, hp_12, hp_13, hp_14, hp_15, hp_16, hp_17, hp_18, hp_19, hp_20, hp_21, hp_22, hp_23, hp_24, hp_25, hp_26, hp_27, hp_28, hp_29, hp_30, hp_31, hp_32, hp_33, hp_34, hp_35, hp_36, hp_37, hp_38, hp_39, hp_40, hp_41, hp_42, hp_43, hp_44, hp_45, hp_46, hp_47, hp_48, hp_49, hp_50, hp_51, hp_52, hp_53, hp_54, hp_55, hp_56, hp_57, hp_58, hp_59, hp_60, hp_61, hp_62, hp_63, hp_64, hp_65, hp_66, hp_67, hp_68, hp_69, hp_70, hp_71, hp_72, hp_73, hp_74, og_0_0, og_0_1, og_0_2, og_0_3, og_0_4, og_0_5, og_0_6, og_0_7, og_0_8, og_0_9, og_0_10, og_0_11, og_0_12, og_0_13, ol_0, og_2_0, og_2_1, og_2_2, og_2_3, og_2_4, og_2_5, og_2_6, ol_2, og_3_0, og_3_1, ol_3, og_5_0, og_5_1, ol_5, og_9_0, og_9_1, og_9_2, og_9_3, og_9_4, og_9_5, og_9_6, ol_9, og_10_0, og_10_1, ol_10, og_12_0, og_12_1, ol_12, og_16_0, og_16_1, og_16_2, ol_16, og_17_0, og_17_1, ol_17, og_21_0, og_21_1, og_21_2, og_21_3, og_21_4, ol_21, og_27_0, og_27_1, og_27_2, og_27_3, og_27_4, og_27_5, og_27_6, og_27_7, og_27_8, og_27_9, og_27_10, ol_27, og_35_0, og_35_1, ol_35, og_37_0, og_37_1, ol_37, og_39_0, og_39_1, ol_39, og_41_0, og_41_1, ol_41, og_43_0, og_43_1, ol_43, og_45_0, og_45_1, ol_45, og_47_0, og_47_1, ol_47, og_49_0, og_49_1, og_49_2, og_49_3, ol_49, og_53_0, og_53_1, ol_53, og_55_0, og_55_1, ol_55, og_57_0, og_57_1, ol_57, og_59_0, og_59_1, ol_59, og_61_0, og_61_1, ol_61, og_63_0, og_63_1, ol_63, og_65_0, og_65_1, og_65_2, ol_65, og_66_0, og_66_1, ol_66, og_70_0, og_70_1, og_70_2, ol_70, og_71_0, og_71_1, ol_71, uo_0_1, uo_0_4, uo_0_8, ua_1, uo_2_0, uo_2_1, uo_2_2, uo_3_1, ua_4, uo_5_1, ua_6, ua_7, ua_8, uo_9_0, uo_9_1, uo_9_2, uo_10_1, ua_11, uo_12_1, ua_13, ua_14, ua_15, uo_17_1, ua_18, ua_19, ua_20, uo_21_4, ua_22, ua_23, ua_24, ua_25, uo_27_2, uo_27_6, uo_27_7, uo_27_8, ua_28, ua_29, ua_31, ua_32, ua_33, ua_34, uo_35_1, ua_36, uo_37_1, ua_38, uo_39_1, ua_40, uo_41_1, ua_42, uo_43_1, ua_44, uo_45_1, ua_46, uo_47_1, ua_48, uo_49_3, ua_51, ua_52, uo_53_1, ua_54, uo_55_1, ua_56, uo_57_1, ua_58, uo_59_1, ua_60, uo_61_1, ua_62, uo_63_1, ua_64, uo_66_1, ua_67, ua_68, ua_69, uo_71_1, ua_72, ua_73, ua_74, sO_g, sA_g, sA_O, sO_A, sO_2, sC_1, sC_2, sC_3, sC_4, sC_5, sC_6, sW_1, sW_2, sW_3, sW_4, uc_0, h7.1, b01_f]
      exact ⟨fun c => absurd trivial c, fun _ => ⟨rfl, s, rfl, hC0, agM.rf⟩⟩
    · obtain ⟨i, hi, rfl⟩ := isB_t (by omega) hc
      (try simp only [Option.toList_some, Option.toList_none, List.nil_append, List.append_nil, List.cons_append, Nat.sub_zero, Nat.sub_self, Nat.zero_sub]); refine Go.wp sp_74 200 ?_; simp only [↓g74_0, ↓g74_1, ↓g74_2, ↓g74_5, ↓g74_8, ↓g74_9, ↓g74_10, ↓g74_13, ↓g74_16, ↓g74_17, ↓g74_18, ↓g74_19, ↓g74_22, ↓g74_25, ↓g74_27, ↓g74_30, ↓g74_32, ↓g74_33, ↓g74_34, ↓g74_37, ↓g74_38, ↓g74_39, ↓g74_42, ↓g74_43, ↓g74_46, ↓g74_49, cl_9, cl_85, cn_0, cn_1, cn_2, cn_3, cn_4, cn_5, cn_6, cn_7, cn_8, ↓Go_s, ↓GoC_a, ↓reduceIte, ↓mm_call_eq, ↓mmw_nil, ↓mmw_cons, List.take_succ_cons, List.take_zero, List.take_nil, List.drop_succ_cons, List.drop_zero, List.drop_nil, List.reverse_cons, List.reverse_nil, List.nil_append, List.cons_append, List.append_nil, Option.toList_some, Option.toList_none, Nat.sub_zero, Nat.le_refl, mmr_cons, mm_st1, mm_st2, mmi_nil, mmi_cons, mmc_I, mmc_L, mmc_R, mmu_get, mmu_one, mma_get, mma_one, List.filter_cons, List.filter_nil, List.contains_cons, List.contains_nil, Nat.reduceBEq, Nat.reduceAdd, Nat.reduceLT, Nat.reduceSub, Nat.reduceLeDiff, Nat.reduceEqDiff, Int32.reduceAdd, Bool.not_true, Bool.not_false, Bool.and_true, Bool.true_and, Bool.and_false, Bool.false_and, Bool.or_false, Bool.false_or, Bool.or_true, Bool.true_or, if_true, if_false, ite_true, ite_false, Bool.false_eq_true, List.getElem?_cons_zero, List.getElem?_cons_succ, List.length_cons, List.length_nil, true_and, and_true, List.set_cons_zero, List.set_cons_succ, Fin.isValue, Fin.val_zero, Fin.val_one, Fin.val_two, Fin.reduceFinMk, Nat.zero_add, hp_0, hp_1, hp_2, hp_3, hp_4, hp_5, hp_6, hp_7, hp_8, hp_9, hp_10, hp_11, hp_12, hp_13, hp_14, hp_15, hp_16, hp_17, hp_18, hp_19, hp_20, hp_21, hp_22, hp_23, hp_24, hp_25, hp_26, hp_27, hp_28, hp_29, hp_30, hp_31, hp_32, hp_33, hp_34, hp_35, hp_36, hp_37, hp_38, hp_39, hp_40, hp_41, hp_42, hp_43, hp_44, hp_45, hp_46, hp_47, hp_48, hp_49, hp_50, hp_51, hp_52, hp_53, hp_54, hp_55, hp_56, hp_57, hp_58, hp_59, hp_60, hp_61, hp_62, hp_63, hp_64, hp_65, hp_66, hp_67, hp_68, hp_69, hp_70, hp_71, hp_72, hp_73, hp_74, og_0_0, og_0_1, og_0_2, og_0_3, og_0_4, og_0_5, og_0_6, og_0_7, og_0_8, og_0_9, og_0_10, og_0_11, og_0_12, og_0_13, ol_0, og_2_0, og_2_1, og_2_2, og_2_3, og_2_4, og_2_5, og_2_6, ol_2, og_3_0, og_3_1, ol_3, og_5_0, og_5_1, ol_5, og_9_0, og_9_1, og_9_2, og_9_3, og_9_4, og_9_5, og_9_6, ol_9, og_10_0, og_10_1, ol_10, og_12_0, og_12_1, ol_12, og_16_0, og_16_1, og_16_2, ol_16, og_17_0, og_17_1, ol_17, og_21_0, og_21_1, og_21_2, og_21_3, og_21_4, ol_21, og_27_0, og_27_1, og_27_2, og_27_3, og_27_4, og_27_5, og_27_6, og_27_7, og_27_8, og_27_9, og_27_10, ol_27, og_35_0, og_35_1, ol_35, og_37_0, og_37_1, ol_37, og_39_0, og_39_1, ol_39, og_41_0, og_41_1, ol_41, og_43_0, og_43_1, ol_43, og_45_0, og_45_1, ol_45, og_47_0, og_47_1, ol_47, og_49_0, og_49_1, og_49_2, og_49_3, ol_49, og_53_0, og_53_1, ol_53, og_55_0, og_55_1, ol_55, og_57_0, og_57_1, ol_57, og_59_0, og_59_1, ol_59, og_61_0, og_61_1, ol_61, og_63_0, og_63_1, ol_63, og_65_0, og_65_1, og_65_2, ol_65, og_66_0, og_66_1, ol_66, og_70_0, og_70_1, og_70_2, ol_70, og_71_0, og_71_1, ol_71, uo_0_1, uo_0_4, uo_0_8, ua_1, uo_2_0, uo_2_1, uo_2_2, uo_3_1, ua_4, uo_5_1, ua_6, ua_7, ua_8, uo_9_0, uo_9_1, uo_9_2, uo_10_1, ua_11, uo_12_1, ua_13, ua_14, ua_15, uo_17_1, ua_18, ua_19, ua_20, uo_21_4, ua_22, ua_23, ua_24, ua_25, uo_27_2, uo_27_6, uo_27_7, uo_27_8, ua_28, ua_29, ua_31, ua_32, ua_33, ua_34, uo_35_1, ua_36, uo_37_1, ua_38, uo_39_1, ua_40, uo_41_1, ua_42, uo_43_1, ua_44, uo_45_1, ua_46, uo_47_1, ua_48, uo_49_3, ua_51, ua_52, uo_53_1, ua_54, uo_55_1, ua_56, uo_57_1, ua_58, uo_59_1, ua_60, uo_61_1, ua_62, uo_63_1, ua_64, uo_66_1, ua_67, ua_68, ua_69, uo_71_1, ua_72, ua_73, ua_74, sO_g, sA_g, sA_O, sO_A, sO_2, sC_1, sC_2, sC_3, sC_4, sC_5, sC_6, sW_1, sW_2, sW_3, sW_4, uc_0, h7.1, b01_t]
      refine ⟨fun _ => ⟨fun c => ?_, fun c => ?_⟩, fun c => absurd c (by decide)⟩
      · simp (disch := omega) only [lit_0, lit_1, lit_2, lit_3, lit_4, lit_5, lit_6, lit_7, lit_8, lit_9, lit_10, lit_16, lit_40, lit_48, lit_60, lit_67, lit_76, lit_82, lit_99, lit_100, lit_255, lit_508, lit_720, lit_1023, nI_1, nI_add, pk_sub, pk_mul, pk_div, nu_rem2, nI_clamp, nu_m, nu_m', nu_lm, nu_ml, nu_ltm, nu_mlt, nu_mm, nu_dec, nu_in, nu_le, nu_lt, nu_eq, true_and, and_true, false_imp_iff, true_imp_iff, not_true_eq_false, not_false_eq_true, Nat.not_lt_zero, Nat.zero_le, Nat.le_refl, Nat.lt_irrefl, Nat.reduceEqDiff, Nat.reduceLT, Nat.reduceLeDiff, Nat.reduceAdd, Nat.reduceSub, Nat.reduceMul, Nat.reduceMod, Nat.reduceDiv, Nat.one_ne_zero, Nat.zero_ne_one, ft_0_0, ft_0_1, ft_0_2, ft_0_3, ft_0_4, ft_1_0, ft_1_1, ft_1_2, ft_2_0, ft_2_1, ft_2_2, ft_2_3, ft_2_4, ft_2_5, ft_2_6, ft_2_7, ft_2_8, ft_2_9, ft_2_10, ft_3_0, ft_3_1, ft_3_2, ft_3_3, ft_4_0, ft_4_1, ft_4_2, ft_4_3, ft_4_4, ft_4_5, ft_4_6, ft_5_0, ft_5_1, ft_6_0, ft_6_1, ft_6_2, ft_6_3, ft_6_4, ft_6_5, ft_6_6, ft_7_0, ft_7_1, ft_7_2, ft_7_3, ft_7_4, ft_7_5, ft_7_6, ft_7_7, ft_7_8, ft_7_9, ft_7_10, ft_7_11, ft_7_12, ft_7_13, ft_8_0, ft_8_1, ft_8_2, ft_8_3, ft_8_4, ft_8_5, ft_8_6, ft_8_7, ft_8_8, ft_8_9, ft_8_10, ft_8_11, ft_8_12, ft_8_13, ft_8_14, ft_8_15, ft_8_16, ft_8_17, ft_8_18, ft_8_19, ft_8_20, ft_8_21, ft_8_22, ft_8_23, ft_8_24, ft_8_25, ft_8_26, ft_8_27, ft_8_28, ft_8_29, ft_8_30, ft_8_31, ft_8_32, ft_8_33, ft_8_34, ft_8_35, ft_8_36, ft_8_37, ft_8_38, ft_8_39, ft_8_40, ft_8_41, nu_fitI, nu_fitL, nu_fitO, nu_fitA, nu_fitB0, nu_fitB1] at c
        refine ⟨0, 0, _, Nat.le_refl _, Nat.le_refl _, c_gadd _ _ h7.1 c, fun z h' hz => ?_⟩
        obtain ⟨rfl, rfl⟩ := hz
        (try simp only [Option.toList_some, Option.toList_none, List.nil_append, List.append_nil, List.cons_append, Nat.sub_zero, Nat.sub_self, Nat.zero_sub]); refine Go.wp sp_74 200 ?_; simp only [↓g74_0, ↓g74_1, ↓g74_2, ↓g74_5, ↓g74_8, ↓g74_9, ↓g74_10, ↓g74_13, ↓g74_16, ↓g74_17, ↓g74_18, ↓g74_19, ↓g74_22, ↓g74_25, ↓g74_27, ↓g74_30, ↓g74_32, ↓g74_33, ↓g74_34, ↓g74_37, ↓g74_38, ↓g74_39, ↓g74_42, ↓g74_43, ↓g74_46, ↓g74_49, cl_9, cl_85, cn_0, cn_1, cn_2, cn_3, cn_4, cn_5, cn_6, cn_7, cn_8, ↓Go_s, ↓GoC_a, ↓reduceIte, ↓mm_call_eq, ↓mmw_nil, ↓mmw_cons, List.take_succ_cons, List.take_zero, List.take_nil, List.drop_succ_cons, List.drop_zero, List.drop_nil, List.reverse_cons, List.reverse_nil, List.nil_append, List.cons_append, List.append_nil, Option.toList_some, Option.toList_none, Nat.sub_zero, Nat.le_refl, mmr_cons, mm_st1, mm_st2, mmi_nil, mmi_cons, mmc_I, mmc_L, mmc_R, mmu_get, mmu_one, mma_get, mma_one, List.filter_cons, List.filter_nil, List.contains_cons, List.contains_nil, Nat.reduceBEq, Nat.reduceAdd, Nat.reduceLT, Nat.reduceSub, Nat.reduceLeDiff, Nat.reduceEqDiff, Int32.reduceAdd, Bool.not_true, Bool.not_false, Bool.and_true, Bool.true_and, Bool.and_false, Bool.false_and, Bool.or_false, Bool.false_or, Bool.or_true, Bool.true_or, if_true, if_false, ite_true, ite_false, Bool.false_eq_true, List.getElem?_cons_zero, List.getElem?_cons_succ, List.length_cons, List.length_nil, true_and, and_true, List.set_cons_zero, List.set_cons_succ, Fin.isValue, Fin.val_zero, Fin.val_one, Fin.val_two, Fin.reduceFinMk, Nat.zero_add, hp_0, hp_1, hp_2, hp_3, hp_4, hp_5, hp_6, hp_7, hp_8, hp_9, hp_10, hp_11, hp_12, hp_13, hp_14, hp_15, hp_16, hp_17, hp_18, hp_19, hp_20, hp_21, hp_22, hp_23, hp_24, hp_25, hp_26, hp_27, hp_28, hp_29, hp_30, hp_31, hp_32, hp_33, hp_34, hp_35, hp_36, hp_37, hp_38, hp_39, hp_40, hp_41, hp_42, hp_43, hp_44, hp_45, hp_46, hp_47, hp_48, hp_49, hp_50, hp_51, hp_52, hp_53, hp_54, hp_55, hp_56, hp_57, hp_58, hp_59, hp_60, hp_61, hp_62, hp_63, hp_64, hp_65, hp_66, hp_67, hp_68, hp_69, hp_70, hp_71, hp_72, hp_73, hp_74, og_0_0, og_0_1, og_0_2, og_0_3, og_0_4, og_0_5, og_0_6, og_0_7, og_0_8, og_0_9, og_0_10, og_0_11, og_0_12, og_0_13, ol_0, og_2_0, og_2_1, og_2_2, og_2_3, og_2_4, og_2_5, og_2_6, ol_2, og_3_0, og_3_1, ol_3, og_5_0, og_5_1, ol_5, og_9_0, og_9_1, og_9_2, og_9_3, og_9_4, og_9_5, og_9_6, ol_9, og_10_0, og_10_1, ol_10, og_12_0, og_12_1, ol_12, og_16_0, og_16_1, og_16_2, ol_16, og_17_0, og_17_1, ol_17, og_21_0, og_21_1, og_21_2, og_21_3, og_21_4, ol_21, og_27_0, og_27_1, og_27_2, og_27_3, og_27_4, og_27_5, og_27_6, og_27_7, og_27_8, og_27_9, og_27_10, ol_27, og_35_0, og_35_1, ol_35, og_37_0, og_37_1, ol_37, og_39_0, og_39_1, ol_39, og_41_0, og_41_1, ol_41, og_43_0, og_43_1, ol_43, og_45_0, og_45_1, ol_45, og_47_0, og_47_1, ol_47, og_49_0, og_49_1, og_49_2, og_49_3, ol_49, og_53_0, og_53_1, ol_53, og_55_0, og_55_1, ol_55, og_57_0, og_57_1, ol_57, og_59_0, og_59_1, ol_59, og_61_0, og_61_1, ol_61, og_63_0, og_63_1, ol_63, og_65_0, og_65_1, og_65_2, ol_65, og_66_0, og_66_1, ol_66, og_70_0, og_70_1, og_70_2, ol_70, og_71_0, og_71_1, ol_71, uo_0_1, uo_0_4, uo_0_8, ua_1, uo_2_0, uo_2_1, uo_2_2, uo_3_1, ua_4, uo_5_1, ua_6, ua_7, ua_8, uo_9_0, uo_9_1, uo_9_2, uo_10_1, ua_11, uo_12_1, ua_13, ua_14, ua_15, uo_17_1, ua_18, ua_19, ua_20, uo_21_4, ua_22, ua_23, ua_24, ua_25, uo_27_2, uo_27_6, uo_27_7, uo_27_8, ua_28, ua_29, ua_31, ua_32, ua_33, ua_34, uo_35_1, ua_36, uo_37_1, ua_38, uo_39_1, ua_40, uo_41_1, ua_42, uo_43_1, ua_44, uo_45_1, ua_46, uo_47_1, ua_48, uo_49_3, ua_51, ua_52, uo_53_1, ua_54, uo_55_1, ua_56, uo_57_1, ua_58, uo_59_1, ua_60, uo_61_1, ua_62, uo_63_1, ua_64, uo_66_1, ua_67, ua_68, ua_69, uo_71_1, ua_72, ua_73, ua_74, sO_g, sA_g, sA_O, sO_A, sO_2, sC_1, sC_2, sC_3, sC_4, sC_5, sC_6, sW_1, sW_2, sW_3, sW_4, uc_0, h7.1]
        rw [if_neg (show ¬ (gTo g).length = 6 by omega)]
        refine ⟨rfl, _, rfl, ⟨h1, cPl.ag h2 ⟨rfl, rfl, rfl⟩ rfl (fun q h1 h2 => ⟨(va_ne (by omega)).trans (va_ne (by omega)), va_ne (by omega)⟩), h3, h4, h5, h6, ⟨?_, ?_⟩, h8⟩, (agM.sA (by omega)).tr ((agM.sA (by omega)).tr (agM.sO (by omega)))⟩
        · show nI ((gTo g).length + 1) = nI (gTo g ++ [_]).length
          rw [List.length_append]; rfl
        · intro q hq
          show upd (s.1 28) (gTo g).length (nI j) q = nI ((gTo g ++ [((nI j).toNatClampNeg, (nI i).toNatClampNeg)]).getD q (0, 0)).1 ∧ upd (s.1 29) (gTo g).length (nI i) q = nI ((gTo g ++ [((nI j).toNatClampNeg, (nI i).toNatClampNeg)]).getD q (0, 0)).2
          have hq : q < (gTo g).length + 1 := by
            have : q < (gTo g ++ [((nI j).toNatClampNeg, (nI i).toNatClampNeg)]).length := hq
            rw [List.length_append] at this; exact this
          rw [getD_snoc, nI_clamp (by omega), nI_clamp (by omega)]
          unfold upd
          by_cases e : q = (gTo g).length
          · rw [if_pos e, if_pos e, if_neg (by omega), if_pos e]
            exact ⟨rfl, rfl⟩
          · simp only [if_neg e, if_pos (show q < (gTo g).length by omega)]
            exact h7.2 q (by omega)
      · simp (disch := omega) only [lit_0, lit_1, lit_2, lit_3, lit_4, lit_5, lit_6, lit_7, lit_8, lit_9, lit_10, lit_16, lit_40, lit_48, lit_60, lit_67, lit_76, lit_82, lit_99, lit_100, lit_255, lit_508, lit_720, lit_1023, nI_1, nI_add, pk_sub, pk_mul, pk_div, nu_rem2, nI_clamp, nu_m, nu_m', nu_lm, nu_ml, nu_ltm, nu_mlt, nu_mm, nu_dec, nu_in, nu_le, nu_lt, nu_eq, true_and, and_true, false_imp_iff, true_imp_iff, not_true_eq_false, not_false_eq_true, Nat.not_lt_zero, Nat.zero_le, Nat.le_refl, Nat.lt_irrefl, Nat.reduceEqDiff, Nat.reduceLT, Nat.reduceLeDiff, Nat.reduceAdd, Nat.reduceSub, Nat.reduceMul, Nat.reduceMod, Nat.reduceDiv, Nat.one_ne_zero, Nat.zero_ne_one, ft_0_0, ft_0_1, ft_0_2, ft_0_3, ft_0_4, ft_1_0, ft_1_1, ft_1_2, ft_2_0, ft_2_1, ft_2_2, ft_2_3, ft_2_4, ft_2_5, ft_2_6, ft_2_7, ft_2_8, ft_2_9, ft_2_10, ft_3_0, ft_3_1, ft_3_2, ft_3_3, ft_4_0, ft_4_1, ft_4_2, ft_4_3, ft_4_4, ft_4_5, ft_4_6, ft_5_0, ft_5_1, ft_6_0, ft_6_1, ft_6_2, ft_6_3, ft_6_4, ft_6_5, ft_6_6, ft_7_0, ft_7_1, ft_7_2, ft_7_3, ft_7_4, ft_7_5, ft_7_6, ft_7_7, ft_7_8, ft_7_9, ft_7_10, ft_7_11, ft_7_12, ft_7_13, ft_8_0, ft_8_1, ft_8_2, ft_8_3, ft_8_4, ft_8_5, ft_8_6, ft_8_7, ft_8_8, ft_8_9, ft_8_10, ft_8_11, ft_8_12, ft_8_13, ft_8_14, ft_8_15, ft_8_16, ft_8_17, ft_8_18, ft_8_19, ft_8_20, ft_8_21, ft_8_22, ft_8_23, ft_8_24, ft_8_25, ft_8_26, ft_8_27, ft_8_28, ft_8_29, ft_8_30, ft_8_31, ft_8_32, ft_8_33, ft_8_34, ft_8_35, ft_8_36, ft_8_37, ft_8_38, ft_8_39, ft_8_40, ft_8_41, nu_fitI, nu_fitL, nu_fitO, nu_fitA, nu_fitB0, nu_fitB1] at c
        rw [if_pos (show (gTo g).length = 6 by omega)]
        exact ⟨rfl, s, rfl, hC0, agM.rf⟩
theorem M_given (hk : SgOk g) (hM : InvM g s) (x y : Int32) : WM tb (d + 3) k_M_given [vR 75, vI x, vI y] (HP s) 0 0 (PostM (aGiven g x y).2 s (vI (aGiven g x y).1)) := by
  have hM0 := hM
  obtain ⟨h1, h2, h3, h4, h5, h6, h7, h8⟩ := hM
  have hn8 := hk.2.2.2.2.1
  have hn2 := hk.2.2.2.1
  have hto : (gTo g).length ≤ 6 := hk.2.2.2.2.2.2.2.2.2.2.2.2.2.1
  unfold aGiven
  refine WM.of mi_141 rfl rfl (Nat.le_of_ble_eq_true rfl) ?_
  show WP (mm_rw mr_141) (some .int) tb (WM tb (d + 2)) _ 0 [(0, vR 75), (1, vI x), (2, vI y)] [] (HP s) 0 0
  (try simp only [Option.toList_some, Option.toList_none, List.nil_append, List.append_nil, List.cons_append, Nat.sub_zero, Nat.sub_self, Nat.zero_sub]); refine Go.wp sp_141 200 ?_; simp only [↓g141_0, ↓g141_1, ↓g141_2, ↓g141_5, ↓g141_8, ↓g141_9, ↓g141_10, ↓g141_13, ↓g141_16, ↓g141_17, ↓g141_18, ↓g141_19, ↓g141_22, ↓g141_24, ↓g141_27, ↓g141_29, ↓g141_30, ↓g141_31, ↓g141_34, ↓g141_35, ↓g141_38, ↓g141_39, ↓g141_40, ↓g141_41, ↓g141_44, ↓g141_45, ↓g141_48, ↓g141_49, ↓g141_50, ↓g141_51, ↓g141_52, ↓g141_55, ↓g141_56, ↓g141_57, ↓g141_60, ↓g141_61, ↓g141_64, cl_107, cn_0, cn_1, cn_2, cn_3, cn_4, cn_5, cn_6, cn_7, cn_8, ↓Go_s, ↓GoC_a, ↓reduceIte, ↓mm_call_eq, ↓mmw_nil, ↓mmw_cons, List.take_succ_cons, List.take_zero, List.take_nil, List.drop_succ_cons, List.drop_zero, List.drop_nil, List.reverse_cons, List.reverse_nil, List.nil_append, List.cons_append, List.append_nil, Option.toList_some, Option.toList_none, Nat.sub_zero, Nat.le_refl, mmr_cons, mm_st1, mm_st2, mmi_nil, mmi_cons, mmc_I, mmc_L, mmc_R, mmu_get, mmu_one, mma_get, mma_one, List.filter_cons, List.filter_nil, List.contains_cons, List.contains_nil, Nat.reduceBEq, Nat.reduceAdd, Nat.reduceLT, Nat.reduceSub, Nat.reduceLeDiff, Nat.reduceEqDiff, Int32.reduceAdd, Bool.not_true, Bool.not_false, Bool.and_true, Bool.true_and, Bool.and_false, Bool.false_and, Bool.or_false, Bool.false_or, Bool.or_true, Bool.true_or, if_true, if_false, ite_true, ite_false, Bool.false_eq_true, List.getElem?_cons_zero, List.getElem?_cons_succ, List.length_cons, List.length_nil, true_and, and_true, List.set_cons_zero, List.set_cons_succ, Fin.isValue, Fin.val_zero, Fin.val_one, Fin.val_two, Fin.reduceFinMk, Nat.zero_add, hp_75, hp_76, hp_77, hp_78, hp_79, hp_80, hp_81, hp_82, hp_83, hp_84, hp_85, hp_86, hp_87, hp_88, hp_89, hp_90, hp_91, hp_92, hp_93, hp_94, hp_95, hp_96, hp_97, hp_98, og_75_0, og_75_1, og_75_2, og_75_3, og_75_4, og_75_5, og_75_6, og_75_7, og_75_8, og_75_9, og_75_10, og_75_11, og_75_12, og_75_13, og_75_14, og_75_15, og_75_16, og_75_17, og_75_18, og_75_19, og_75_20, og_75_21, og_75_22, og_75_23, og_75_24, og_75_25, og_75_26, og_75_27, og_75_28, og_75_29, og_75_30, og_75_31, og_75_32, og_75_33, og_75_34, og_75_35, og_75_36, og_75_37, og_75_38, og_75_39, og_75_40, og_75_41, ol_75, uo_75_4, uo_75_5, uo_75_6, uo_75_7, uo_75_11, uo_75_12, uo_75_13, uo_75_15, uo_75_19, uo_75_20, uo_75_21, uo_75_22, uo_75_23, uo_75_26, uo_75_30, uo_75_31, uo_75_32, uo_75_33, ua_76, ua_77, ua_78, ua_79, ua_80, ua_81, ua_82, ua_83, ua_84, ua_85, ua_86, ua_87, ua_88, ua_89, ua_90, ua_91, ua_92, ua_93, ua_94, ua_95, ua_96, ua_97, ua_98, sO_g, sA_g, sA_O, sO_A, sO_2, sM_1, sM_2, sM_3, sM_4, sM_5, sM_6, uc_75, h7.1]
  refine ⟨0, 0, _, Nat.le_refl _, Nat.le_refl _, M_isBook h2.1 (by omega) (by omega) x, fun z h' hz => ?_⟩
  obtain ⟨rfl, rfl⟩ := hz
  cases hb : isB x (gN g)
  · (try simp only [Option.toList_some, Option.toList_none, List.nil_append, List.append_nil, List.cons_append, Nat.sub_zero, Nat.sub_self, Nat.zero_sub]); refine Go.wp sp_141 200 ?_; simp only [↓g141_0, ↓g141_1, ↓g141_2, ↓g141_5, ↓g141_8, ↓g141_9, ↓g141_10, ↓g141_13, ↓g141_16, ↓g141_17, ↓g141_18, ↓g141_19, ↓g141_22, ↓g141_24, ↓g141_27, ↓g141_29, ↓g141_30, ↓g141_31, ↓g141_34, ↓g141_35, ↓g141_38, ↓g141_39, ↓g141_40, ↓g141_41, ↓g141_44, ↓g141_45, ↓g141_48, ↓g141_49, ↓g141_50, ↓g141_51, ↓g141_52, ↓g141_55, ↓g141_56, ↓g141_57, ↓g141_60, ↓g141_61, ↓g141_64, cl_107, cn_0, cn_1, cn_2, cn_3, cn_4, cn_5, cn_6, cn_7, cn_8, ↓Go_s, ↓GoC_a, ↓reduceIte, ↓mm_call_eq, ↓mmw_nil, ↓mmw_cons, List.take_succ_cons, List.take_zero, List.take_nil, List.drop_succ_cons, List.drop_zero, List.drop_nil, List.reverse_cons, List.reverse_nil, List.nil_append, List.cons_append, List.append_nil, Option.toList_some, Option.toList_none, Nat.sub_zero, Nat.le_refl, mmr_cons, mm_st1, mm_st2, mmi_nil, mmi_cons, mmc_I, mmc_L, mmc_R, mmu_get, mmu_one, mma_get, mma_one, List.filter_cons, List.filter_nil, List.contains_cons, List.contains_nil, Nat.reduceBEq, Nat.reduceAdd, Nat.reduceLT, Nat.reduceSub, Nat.reduceLeDiff, Nat.reduceEqDiff, Int32.reduceAdd, Bool.not_true, Bool.not_false, Bool.and_true, Bool.true_and, Bool.and_false, Bool.false_and, Bool.or_false, Bool.false_or, Bool.or_true, Bool.true_or, if_true, if_false, ite_true, ite_false, Bool.false_eq_true, List.getElem?_cons_zero, List.getElem?_cons_succ, List.length_cons, List.length_nil, true_and, and_true, List.set_cons_zero, List.set_cons_succ, Fin.isValue, Fin.val_zero, Fin.val_one, Fin.val_two, Fin.reduceFinMk, Nat.zero_add, hp_75, hp_76, hp_77, hp_78, hp_79, hp_80, hp_81, hp_82, hp_83, hp_84, hp_85, hp_86, hp_87, hp_88, hp_89, hp_90, hp_91, hp_92, hp_93, hp_94, hp_95, hp_96, hp_97, hp_98, og_75_0, og_75_1, og_75_2, og_75_3, og_75_4, og_75_5, og_75_6, og_75_7, og_75_8, og_75_9, og_75_10, og_75_11, og_75_12, og_75_13, og_75_14, og_75_15, og_75_16, og_75_17, og_75_18, og_75_19, og_75_20, og_75_21, og_75_22, og_75_23, og_75_24, og_75_25, og_75_26, og_75_27, og_75_28, og_75_29, og_75_30, og_75_31, og_75_32, og_75_33, og_75_34, og_75_35, og_75_36, og_75_37, og_75_38, og_75_39, og_75_40, og_75_41, ol_75, uo_75_4, uo_75_5, uo_75_6, uo_75_7, uo_75_11, uo_75_12, uo_75_13, uo_75_15, uo_75_19, uo_75_20, uo_75_21, uo_75_22, uo_75_23, uo_75_26, uo_75_30, uo_75_31, uo_75_32, uo_75_33, ua_76, ua_77, ua_78, ua_79, ua_80, ua_81, ua_82, ua_83, ua_84, ua_85, ua_86, ua_87, ua_88, ua_89, ua_90, ua_91, ua_92, ua_93, ua_94, ua_95, ua_96, ua_97, ua_98, sO_g, sA_g, sA_O, sO_A, sO_2, sM_1, sM_2, sM_3, sM_4, sM_5, sM_6, uc_75, h7.1, b01_f]
    exact ⟨fun _ => ⟨rfl, s, rfl, hM0, agC.rf⟩, fun c => absurd trivial c⟩
  · obtain ⟨j, hj, rfl⟩ := isB_t (by omega) hb
    (try simp only [Option.toList_some, Option.toList_none, List.nil_append, List.append_nil, List.cons_append, Nat.sub_zero, Nat.sub_self, Nat.zero_sub]); refine Go.wp sp_141 200 ?_; simp only [↓g141_0, ↓g141_1, ↓g141_2, ↓g141_5, ↓g141_8, ↓g141_9, ↓g141_10, ↓g141_13, ↓g141_16, ↓g141_17, ↓g141_18, ↓g141_19, ↓g141_22, ↓g141_24, ↓g141_27, ↓g141_29, ↓g141_30, ↓g141_31, ↓g141_34, ↓g141_35, ↓g141_38, ↓g141_39, ↓g141_40, ↓g141_41, ↓g141_44, ↓g141_45, ↓g141_48, ↓g141_49, ↓g141_50, ↓g141_51, ↓g141_52, ↓g141_55, ↓g141_56, ↓g141_57, ↓g141_60, ↓g141_61, ↓g141_64, cl_107, cn_0, cn_1, cn_2, cn_3, cn_4, cn_5, cn_6, cn_7, cn_8, ↓Go_s, ↓GoC_a, ↓reduceIte, ↓mm_call_eq, ↓mmw_nil, ↓mmw_cons, List.take_succ_cons, List.take_zero, List.take_nil, List.drop_succ_cons, List.drop_zero, List.drop_nil, List.reverse_cons, List.reverse_nil, List.nil_append, List.cons_append, List.append_nil, Option.toList_some, Option.toList_none, Nat.sub_zero, Nat.le_refl, mmr_cons, mm_st1, mm_st2, mmi_nil, mmi_cons, mmc_I, mmc_L, mmc_R, mmu_get, mmu_one, mma_get, mma_one, List.filter_cons, List.filter_nil, List.contains_cons, List.contains_nil, Nat.reduceBEq, Nat.reduceAdd, Nat.reduceLT, Nat.reduceSub, Nat.reduceLeDiff, Nat.reduceEqDiff, Int32.reduceAdd, Bool.not_true, Bool.not_false, Bool.and_true, Bool.true_and, Bool.and_false, Bool.false_and, Bool.or_false, Bool.false_or, Bool.or_true, Bool.true_or, if_true, if_false, ite_true, ite_false, Bool.false_eq_true, List.getElem?_cons_zero, List.getElem?_cons_succ, List.length_cons, List.length_nil, true_and, and_true, List.set_cons_zero, List.set_cons_succ, Fin.isValue, Fin.val_zero, Fin.val_one, Fin.val_two, Fin.reduceFinMk, Nat.zero_add, hp_75, hp_76, hp_77, hp_78, hp_79, hp_80, hp_81, hp_82, hp_83, hp_84, hp_85, hp_86, hp_87, hp_88, hp_89, hp_90, hp_91, hp_92, hp_93, hp_94, hp_95, hp_96, hp_97, hp_98, og_75_0, og_75_1, og_75_2, og_75_3, og_75_4, og_75_5, og_75_6, og_75_7, og_75_8, og_75_9, og_75_10, og_75_11, og_75_12, og_75_13, og_75_14, og_75_15, og_75_16, og_75_17, og_75_18, og_75_19, og_75_20, og_75_21, og_75_22, og_75_23, og_75_24, og_75_25, og_75_26, og_75_27, og_75_28, og_75_29, og_75_30, og_75_31, og_75_32, og_75_33, og_75_34, og_75_35, og_75_36, og_75_37, og_75_38, og_75_39, og_75_40, og_75_41, ol_75, uo_75_4, uo_75_5, uo_75_6, uo_75_7, uo_75_11, uo_75_12, uo_75_13, uo_75_15, uo_75_19, uo_75_20, uo_75_21, uo_75_22, uo_75_23, uo_75_26, uo_75_30, uo_75_31, uo_75_32, uo_75_33, ua_76, ua_77, ua_78, ua_79, ua_80, ua_81, ua_82, ua_83, ua_84, ua_85, ua_86, ua_87, ua_88, ua_89, ua_90, ua_91, ua_92, ua_93, ua_94, ua_95, ua_96, ua_97, ua_98, sO_g, sA_g, sA_O, sO_A, sO_2, sM_1, sM_2, sM_3, sM_4, sM_5, sM_6, uc_75, h7.1, b01_t]
    refine ⟨fun c => absurd c (by decide), fun _ => ⟨0, 0, _, Nat.le_refl _, Nat.le_refl _, M_isBook h2.1 (by omega) (by omega) y, fun z h' hz => ?_⟩⟩
    obtain ⟨rfl, rfl⟩ := hz
    cases hc : isB y (gN g)
    · (try simp only [Option.toList_some, Option.toList_none, List.nil_append, List.append_nil, List.cons_append, Nat.sub_zero, Nat.sub_self, Nat.zero_sub]); refine Go.wp sp_141 200 ?_; simp only [↓g141_0, ↓g141_1, ↓g141_2, ↓g141_5, ↓g141_8, ↓g141_9, ↓g141_10, ↓g141_13, ↓g141_16, ↓g141_17, ↓g141_18, ↓g141_19, ↓g141_22, ↓g141_24, ↓g141_27, ↓g141_29, ↓g141_30, ↓g141_31, ↓g141_34, ↓g141_35, ↓g141_38, ↓g141_39, ↓g141_40, ↓g141_41, ↓g141_44, ↓g141_45, ↓g141_48, ↓g141_49, ↓g141_50, ↓g141_51, ↓g141_52, ↓g141_55, ↓g141_56, ↓g141_57, ↓g141_60, ↓g141_61, ↓g141_64, cl_107, cn_0, cn_1, cn_2, cn_3, cn_4, cn_5, cn_6, cn_7, cn_8, ↓Go_s, ↓GoC_a, ↓reduceIte, ↓mm_call_eq, ↓mmw_nil, ↓mmw_cons, List.take_succ_cons, List.take_zero, List.take_nil, List.drop_succ_cons, List.drop_zero, List.drop_nil, List.reverse_cons, List.reverse_nil, List.nil_append, List.cons_append, List.append_nil, Option.toList_some, Option.toList_none, Nat.sub_zero, Nat.le_refl, mmr_cons, mm_st1, mm_st2, mmi_nil, mmi_cons, mmc_I, mmc_L, mmc_R, mmu_get, mmu_one, mma_get, mma_one, List.filter_cons, List.filter_nil, List.contains_cons, List.contains_nil, Nat.reduceBEq, Nat.reduceAdd, Nat.reduceLT, Nat.reduceSub, Nat.reduceLeDiff, Nat.reduceEqDiff, Int32.reduceAdd, Bool.not_true, Bool.not_false, Bool.and_true, Bool.true_and, Bool.and_false, Bool.false_and, Bool.or_false, Bool.false_or, Bool.or_true, Bool.true_or, if_true, if_false, ite_true, ite_false, Bool.false_eq_true, List.getElem?_cons_zero, List.getElem?_cons_succ, List.length_cons, List.length_nil, true_and, and_true, List.set_cons_zero, List.set_cons_succ, Fin.isValue, Fin.val_zero, Fin.val_one, Fin.val_two, Fin.reduceFinMk, Nat.zero_add, hp_75, hp_76, hp_77, hp_78, hp_79, hp_80, hp_81, hp_82, hp_83, hp_84, hp_85, hp_86, hp_87, hp_88, hp_89, hp_90, hp_91, hp_92, hp_93, hp_94, hp_95, hp_96, hp_97, hp_98, og_75_0, og_75_1, og_75_2, og_75_3, og_75_4, og_75_5, og_75_6, og_75_7, og_75_8, og_75_9, og_75_10, og_75_11, og_75_12, og_75_13, og_75_14, og_75_15, og_75_16, og_75_17, og_75_18, og_75_19, og_75_20, og_75_21, og_75_22, og_75_23, og_75_24, og_75_25, og_75_26, og_75_27, og_75_28, og_75_29, og_75_30, og_75_31, og_75_32, og_75_33, og_75_34, og_75_35, og_75_36, og_75_37, og_75_38, og_75_39, og_75_40, og_75_41, ol_75, uo_75_4, uo_75_5, uo_75_6, uo_75_7, uo_75_11, uo_75_12, uo_75_13, uo_75_15, uo_75_19, uo_75_20, uo_75_21, uo_75_22, uo_75_23, uo_75_26, uo_75_30, uo_75_31, uo_75_32, uo_75_33, ua_76, ua_77, ua_78, ua_79, ua_80, ua_81, ua_82, ua_83, ua_84, ua_85, ua_86, ua_87, ua_88, ua_89, ua_90, ua_91, ua_92, ua_93, ua_94, ua_95, ua_96, ua_97, ua_98, sO_g, sA_g, sA_O, sO_A, sO_2, sM_1, sM_2, sM_3, sM_4, sM_5, sM_6, uc_75, h7.1, b01_f]
      exact ⟨fun c => absurd trivial c, fun _ => ⟨rfl, s, rfl, hM0, agC.rf⟩⟩
    · obtain ⟨i, hi, rfl⟩ := isB_t (by omega) hc
      (try simp only [Option.toList_some, Option.toList_none, List.nil_append, List.append_nil, List.cons_append, Nat.sub_zero, Nat.sub_self, Nat.zero_sub]); refine Go.wp sp_141 200 ?_; simp only [↓g141_0, ↓g141_1, ↓g141_2, ↓g141_5, ↓g141_8, ↓g141_9, ↓g141_10, ↓g141_13, ↓g141_16, ↓g141_17, ↓g141_18, ↓g141_19, ↓g141_22, ↓g141_24, ↓g141_27, ↓g141_29, ↓g141_30, ↓g141_31, ↓g141_34, ↓g141_35, ↓g141_38, ↓g141_39, ↓g141_40, ↓g141_41, ↓g141_44, ↓g141_45, ↓g141_48, ↓g141_49, ↓g141_50, ↓g141_51, ↓g141_52, ↓g141_55, ↓g141_56, ↓g141_57, ↓g141_60, ↓g141_61, ↓g141_64, cl_107, cn_0, cn_1, cn_2, cn_3, cn_4, cn_5, cn_6, cn_7, cn_8, ↓Go_s, ↓GoC_a, ↓reduceIte, ↓mm_call_eq, ↓mmw_nil, ↓mmw_cons, List.take_succ_cons, List.take_zero, List.take_nil, List.drop_succ_cons, List.drop_zero, List.drop_nil, List.reverse_cons, List.reverse_nil, List.nil_append, List.cons_append, List.append_nil, Option.toList_some, Option.toList_none, Nat.sub_zero, Nat.le_refl, mmr_cons, mm_st1, mm_st2, mmi_nil, mmi_cons, mmc_I, mmc_L, mmc_R, mmu_get, mmu_one, mma_get, mma_one, List.filter_cons, List.filter_nil, List.contains_cons, List.contains_nil, Nat.reduceBEq, Nat.reduceAdd, Nat.reduceLT, Nat.reduceSub, Nat.reduceLeDiff, Nat.reduceEqDiff, Int32.reduceAdd, Bool.not_true, Bool.not_false, Bool.and_true, Bool.true_and, Bool.and_false, Bool.false_and, Bool.or_false, Bool.false_or, Bool.or_true, Bool.true_or, if_true, if_false, ite_true, ite_false, Bool.false_eq_true, List.getElem?_cons_zero, List.getElem?_cons_succ, List.length_cons, List.length_nil, true_and, and_true, List.set_cons_zero, List.set_cons_succ, Fin.isValue, Fin.val_zero, Fin.val_one, Fin.val_two, Fin.reduceFinMk, Nat.zero_add, hp_75, hp_76, hp_77, hp_78, hp_79, hp_80, hp_81, hp_82, hp_83, hp_84, hp_85, hp_86, hp_87, hp_88, hp_89, hp_90, hp_91, hp_92, hp_93, hp_94, hp_95, hp_96, hp_97, hp_98, og_75_0, og_75_1, og_75_2, og_75_3, og_75_4, og_75_5, og_75_6, og_75_7, og_75_8, og_75_9, og_75_10, og_75_11, og_75_12, og_75_13, og_75_14, og_75_15, og_75_16, og_75_17, og_75_18, og_75_19, og_75_20, og_75_21, og_75_22, og_75_23, og_75_24, og_75_25, og_75_26, og_75_27, og_75_28, og_75_29, og_75_30, og_75_31, og_75_32, og_75_33, og_75_34, og_75_35, og_75_36, og_75_37, og_75_38, og_75_39, og_75_40, og_75_41, ol_75, uo_75_4, uo_75_5, uo_75_6, uo_75_7, uo_75_11, uo_75_12, uo_75_13, uo_75_15, uo_75_19, uo_75_20, uo_75_21, uo_75_22, uo_75_23, uo_75_26, uo_75_30, uo_75_31, uo_75_32, uo_75_33, ua_76, ua_77, ua_78, ua_79, ua_80, ua_81, ua_82, ua_83, ua_84, ua_85, ua_86, ua_87, ua_88, ua_89, ua_90, ua_91, ua_92, ua_93, ua_94, ua_95, ua_96, ua_97, ua_98, sO_g, sA_g, sA_O, sO_A, sO_2, sM_1, sM_2, sM_3, sM_4, sM_5, sM_6, uc_75, h7.1, b01_t]
      refine ⟨fun _ => ⟨fun c => ?_, fun c => ?_⟩, fun c => absurd c (by decide)⟩
      · simp (disch := omega) only [lit_0, lit_1, lit_2, lit_3, lit_4, lit_5, lit_6, lit_7, lit_8, lit_9, lit_10, lit_16, lit_40, lit_48, lit_60, lit_67, lit_76, lit_82, lit_99, lit_100, lit_255, lit_508, lit_720, lit_1023, nI_1, nI_add, pk_sub, pk_mul, pk_div, nu_rem2, nI_clamp, nu_m, nu_m', nu_lm, nu_ml, nu_ltm, nu_mlt, nu_mm, nu_dec, nu_in, nu_le, nu_lt, nu_eq, true_and, and_true, false_imp_iff, true_imp_iff, not_true_eq_false, not_false_eq_true, Nat.not_lt_zero, Nat.zero_le, Nat.le_refl, Nat.lt_irrefl, Nat.reduceEqDiff, Nat.reduceLT, Nat.reduceLeDiff, Nat.reduceAdd, Nat.reduceSub, Nat.reduceMul, Nat.reduceMod, Nat.reduceDiv, Nat.one_ne_zero, Nat.zero_ne_one, ft_0_0, ft_0_1, ft_0_2, ft_0_3, ft_0_4, ft_1_0, ft_1_1, ft_1_2, ft_2_0, ft_2_1, ft_2_2, ft_2_3, ft_2_4, ft_2_5, ft_2_6, ft_2_7, ft_2_8, ft_2_9, ft_2_10, ft_3_0, ft_3_1, ft_3_2, ft_3_3, ft_4_0, ft_4_1, ft_4_2, ft_4_3, ft_4_4, ft_4_5, ft_4_6, ft_5_0, ft_5_1, ft_6_0, ft_6_1, ft_6_2, ft_6_3, ft_6_4, ft_6_5, ft_6_6, ft_7_0, ft_7_1, ft_7_2, ft_7_3, ft_7_4, ft_7_5, ft_7_6, ft_7_7, ft_7_8, ft_7_9, ft_7_10, ft_7_11, ft_7_12, ft_7_13, ft_8_0, ft_8_1, ft_8_2, ft_8_3, ft_8_4, ft_8_5, ft_8_6, ft_8_7, ft_8_8, ft_8_9, ft_8_10, ft_8_11, ft_8_12, ft_8_13, ft_8_14, ft_8_15, ft_8_16, ft_8_17, ft_8_18, ft_8_19, ft_8_20, ft_8_21, ft_8_22, ft_8_23, ft_8_24, ft_8_25, ft_8_26, ft_8_27, ft_8_28, ft_8_29, ft_8_30, ft_8_31, ft_8_32, ft_8_33, ft_8_34, ft_8_35, ft_8_36, ft_8_37, ft_8_38, ft_8_39, ft_8_40, ft_8_41, nu_fitI, nu_fitL, nu_fitO, nu_fitA, nu_fitB0, nu_fitB1] at c
        simp (disch := omega) only [lit_0, lit_1, lit_2, lit_3, lit_4, lit_5, lit_6, lit_7, lit_8, lit_9, lit_10, lit_16, lit_40, lit_48, lit_60, lit_67, lit_76, lit_82, lit_99, lit_100, lit_255, lit_508, lit_720, lit_1023, nI_1, nI_add, pk_sub, pk_mul, pk_div, nu_rem2, nI_clamp, nu_m, nu_m', nu_lm, nu_ml, nu_ltm, nu_mlt, nu_mm, nu_dec, nu_in, nu_le, nu_lt, nu_eq, true_and, and_true, false_imp_iff, true_imp_iff, not_true_eq_false, not_false_eq_true, Nat.not_lt_zero, Nat.zero_le, Nat.le_refl, Nat.lt_irrefl, Nat.reduceEqDiff, Nat.reduceLT, Nat.reduceLeDiff, Nat.reduceAdd, Nat.reduceSub, Nat.reduceMul, Nat.reduceMod, Nat.reduceDiv, Nat.one_ne_zero, Nat.zero_ne_one, ft_0_0, ft_0_1, ft_0_2, ft_0_3, ft_0_4, ft_1_0, ft_1_1, ft_1_2, ft_2_0, ft_2_1, ft_2_2, ft_2_3, ft_2_4, ft_2_5, ft_2_6, ft_2_7, ft_2_8, ft_2_9, ft_2_10, ft_3_0, ft_3_1, ft_3_2, ft_3_3, ft_4_0, ft_4_1, ft_4_2, ft_4_3, ft_4_4, ft_4_5, ft_4_6, ft_5_0, ft_5_1, ft_6_0, ft_6_1, ft_6_2, ft_6_3, ft_6_4, ft_6_5, ft_6_6, ft_7_0, ft_7_1, ft_7_2, ft_7_3, ft_7_4, ft_7_5, ft_7_6, ft_7_7, ft_7_8, ft_7_9, ft_7_10, ft_7_11, ft_7_12, ft_7_13, ft_8_0, ft_8_1, ft_8_2, ft_8_3, ft_8_4, ft_8_5, ft_8_6, ft_8_7, ft_8_8, ft_8_9, ft_8_10, ft_8_11, ft_8_12, ft_8_13, ft_8_14, ft_8_15, ft_8_16, ft_8_17, ft_8_18, ft_8_19, ft_8_20, ft_8_21, ft_8_22, ft_8_23, ft_8_24, ft_8_25, ft_8_26, ft_8_27, ft_8_28, ft_8_29, ft_8_30, ft_8_31, ft_8_32, ft_8_33, ft_8_34, ft_8_35, ft_8_36, ft_8_37, ft_8_38, ft_8_39, ft_8_40, ft_8_41, nu_fitI, nu_fitL, nu_fitO, nu_fitA, nu_fitB0, nu_fitB1]
        rw [if_neg c]
        refine ⟨by omega, by omega, rfl, _, rfl, ⟨h1, h2, h3, h4, h5, h6, ⟨?_, ?_⟩, h8⟩, (agC.sA (by omega)).tr ((agC.sA (by omega)).tr (agC.sO (by omega)))⟩
        · show nI ((gTo g).length + 1) = nI (gTo g ++ [_]).length
          rw [List.length_append]; rfl
        · intro q hq
          show upd (s.1 92) (gTo g).length (nI j) q = nI ((gTo g ++ [(j, i)]).getD q (0, 0)).1 ∧ upd (s.1 93) (gTo g).length (nI i) q = nI ((gTo g ++ [(j, i)]).getD q (0, 0)).2
          have hq : q < (gTo g).length + 1 := by
            have : q < (gTo g ++ [(j, i)]).length := hq
            rw [List.length_append] at this; exact this
          rw [getD_snoc]
          unfold upd
          by_cases e : q = (gTo g).length
          · rw [if_pos e, if_pos e, if_neg (by omega), if_pos e]
            exact ⟨rfl, rfl⟩
          · simp only [if_neg e, if_pos (show q < (gTo g).length by omega)]
            exact h7.2 q (by omega)
      · simp (disch := omega) only [lit_0, lit_1, lit_2, lit_3, lit_4, lit_5, lit_6, lit_7, lit_8, lit_9, lit_10, lit_16, lit_40, lit_48, lit_60, lit_67, lit_76, lit_82, lit_99, lit_100, lit_255, lit_508, lit_720, lit_1023, nI_1, nI_add, pk_sub, pk_mul, pk_div, nu_rem2, nI_clamp, nu_m, nu_m', nu_lm, nu_ml, nu_ltm, nu_mlt, nu_mm, nu_dec, nu_in, nu_le, nu_lt, nu_eq, true_and, and_true, false_imp_iff, true_imp_iff, not_true_eq_false, not_false_eq_true, Nat.not_lt_zero, Nat.zero_le, Nat.le_refl, Nat.lt_irrefl, Nat.reduceEqDiff, Nat.reduceLT, Nat.reduceLeDiff, Nat.reduceAdd, Nat.reduceSub, Nat.reduceMul, Nat.reduceMod, Nat.reduceDiv, Nat.one_ne_zero, Nat.zero_ne_one, ft_0_0, ft_0_1, ft_0_2, ft_0_3, ft_0_4, ft_1_0, ft_1_1, ft_1_2, ft_2_0, ft_2_1, ft_2_2, ft_2_3, ft_2_4, ft_2_5, ft_2_6, ft_2_7, ft_2_8, ft_2_9, ft_2_10, ft_3_0, ft_3_1, ft_3_2, ft_3_3, ft_4_0, ft_4_1, ft_4_2, ft_4_3, ft_4_4, ft_4_5, ft_4_6, ft_5_0, ft_5_1, ft_6_0, ft_6_1, ft_6_2, ft_6_3, ft_6_4, ft_6_5, ft_6_6, ft_7_0, ft_7_1, ft_7_2, ft_7_3, ft_7_4, ft_7_5, ft_7_6, ft_7_7, ft_7_8, ft_7_9, ft_7_10, ft_7_11, ft_7_12, ft_7_13, ft_8_0, ft_8_1, ft_8_2, ft_8_3, ft_8_4, ft_8_5, ft_8_6, ft_8_7, ft_8_8, ft_8_9, ft_8_10, ft_8_11, ft_8_12, ft_8_13, ft_8_14, ft_8_15, ft_8_16, ft_8_17, ft_8_18, ft_8_19, ft_8_20, ft_8_21, ft_8_22, ft_8_23, ft_8_24, ft_8_25, ft_8_26, ft_8_27, ft_8_28, ft_8_29, ft_8_30, ft_8_31, ft_8_32, ft_8_33, ft_8_34, ft_8_35, ft_8_36, ft_8_37, ft_8_38, ft_8_39, ft_8_40, ft_8_41, nu_fitI, nu_fitL, nu_fitO, nu_fitA, nu_fitB0, nu_fitB1] at c
        rw [if_pos c]
        exact ⟨rfl, s, rfl, hM0, agC.rf⟩
end OPS1
