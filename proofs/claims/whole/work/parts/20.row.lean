/-! a row of books as a list -/
def lPl (xs : List Nat) (v : Nat) : Int32 := if v ∈ xs then nI (xs.idxOf v) else mI 9
theorem lPl_hit {v : Nat} : ∀ (xs : List Nat) (k : Nat), k < xs.length → xs.getD k 0 = v → (∀ j, j < k → xs.getD j 0 ≠ v) → v ∈ xs ∧ xs.idxOf v = k
  | [], k, h, _, _ => absurd h (Nat.not_lt_zero _)
  | x :: xs, 0, _, h, _ => by
    have : x = v := h
    subst this
    exact ⟨List.mem_cons_self, by simp⟩
  | x :: xs, k + 1, h, hv, hn => by
    have h0 : x ≠ v := hn 0 (Nat.succ_pos k)
    obtain ⟨h1, h2⟩ := lPl_hit xs k (Nat.lt_of_succ_lt_succ h) hv (fun j hj => hn (j + 1) (Nat.succ_lt_succ hj))
    exact ⟨List.mem_cons_of_mem _ h1, by rw [List.idxOf_cons, cond_eq_if, if_neg (by simpa using h0), h2]⟩
theorem getD_mem {xs : List Nat} {k : Nat} (h : k < xs.length) : xs.getD k 0 ∈ xs := by
  rw [List.getD_eq_getElem?_getD, List.getElem?_eq_getElem h]
  exact List.getElem_mem h
theorem idx_lt {xs : List Nat} {v : Nat} (h : v ∈ xs) : xs.idxOf v < xs.length := List.idxOf_lt_length_of_mem h
theorem idx_get {xs : List Nat} {v : Nat} (h : v ∈ xs) : xs.getD (xs.idxOf v) 0 = v := by
  rw [List.getD_eq_getElem?_getD, List.getElem?_eq_getElem (idx_lt h)]
  exact List.getElem_idxOf (idx_lt h)
theorem lPl_in {xs : List Nat} {v : Nat} (h : v ∈ xs) : lPl xs v = nI (xs.idxOf v) := if_pos h
theorem lPl_out {xs : List Nat} {v : Nat} (h : v ∉ xs) : lPl xs v = mI 9 := if_neg h
/-- the row at r, its books at b -/
def Rw (h : AH) (r b : Nat) (xs : List Nat) : Prop := ∃ f, h.2 r = some (cO 5 [vR b, vI (nI xs.length)]) ∧ h.2 b = some (cI 8 f) ∧ xs.length ≤ 8 ∧ (∀ v ∈ xs, v < 8) ∧ ∀ j, j < xs.length → f j = nI (xs.getD j 0)
theorem Rw.keep {h h' : AH} {r b : Nat} {xs : List Nat} (hx : Rw h r b xs) (h1 : h'.2 r = h.2 r) (h2 : h'.2 b = h.2 b) : Rw h' r b xs := by
  obtain ⟨f, a1, a2, a3⟩ := hx
  exact ⟨f, by rw [h1]; exact a1, by rw [h2]; exact a2, a3⟩
theorem Rw.fr {h h' : AH} {r b : Nat} {xs : List Nat} {S : List Nat} (hx : Rw h r b xs) (hf : FR h h' S) (h1 : r ∉ S) (h2 : b ∉ S) : Rw h' r b xs := hx.keep (hf.2 _ h1) (hf.2 _ h2)
abbrev sp_37 : List Nat := [2]
section G37
variable {tb : Nat → Nat × (Nat → Int32)} {call : CO} {Q : AQ} {C : CP} {lv : AL} {st : List AV} {h : AH} {kc ks : Nat}
theorem g37_0  : mm_step (mm_rw mr_37) (some .int) tb call Q C 0 lv st h kc ks = (C 1 lv (vI 0 :: st) h kc ks) := rfl
theorem g37_1 (a : Int32) : mm_step (mm_rw mr_37) (some .int) tb call Q C 1 lv (.inl a :: st) h kc ks = (C 2 (mm_st1 lv 2 (vI a)) st h kc ks) := rfl
theorem g37_2  : mm_step (mm_rw mr_37) (some .int) tb call Q C 2 lv st h kc ks = (match mm_rd lv 2 with
    | some (.inl a) => C 3 lv (vI a :: st) h kc ks
    | _ => False) := rfl
theorem g37_3  : mm_step (mm_rw mr_37) (some .int) tb call Q C 3 lv st h kc ks = (match mm_rd lv 0 with
    | some (.inr (.inr (.inl (some k)))) => C 4 lv (vR k :: st) h kc ks
    | some (.inr (.inr (.inr t))) => C 4 lv (vT t :: st) h kc ks
    | _ => False) := rfl
theorem g37_4 (k : Nat) : mm_step (mm_rw mr_37) (some .int) tb call Q C 4 lv (.inr (.inr (.inl (some k))) :: st) h kc ks = (match h.2 k with
    | some (.inr (.inr (ci, fs))) => ci = 5 ∧ (match fs[1]? with
      | some v => C 7 lv (v :: st) h kc ks
      | none => False)
    | _ => False) := rfl
theorem g37_7 (a b : Int32) : mm_step (mm_rw mr_37) (some .int) tb call Q C 7 lv (.inl b :: .inl a :: st) h kc ks = ((b ≤ a → C 28 lv st h kc ks) ∧ (¬ b ≤ a → C 10 lv st h kc ks)) := rfl
theorem g37_10  : mm_step (mm_rw mr_37) (some .int) tb call Q C 10 lv st h kc ks = (match mm_rd lv 0 with
    | some (.inr (.inr (.inl (some k)))) => C 11 lv (vR k :: st) h kc ks
    | some (.inr (.inr (.inr t))) => C 11 lv (vT t :: st) h kc ks
    | _ => False) := rfl
theorem g37_11 (k : Nat) : mm_step (mm_rw mr_37) (some .int) tb call Q C 11 lv (.inr (.inr (.inl (some k))) :: st) h kc ks = (match h.2 k with
    | some (.inr (.inr (ci, fs))) => ci = 5 ∧ (match fs[0]? with
      | some v => C 14 lv (v :: st) h kc ks
      | none => False)
    | _ => False) := rfl
theorem g37_14  : mm_step (mm_rw mr_37) (some .int) tb call Q C 14 lv st h kc ks = (match mm_rd lv 2 with
    | some (.inl a) => C 15 lv (vI a :: st) h kc ks
    | _ => False) := rfl
theorem g37_15 (i : Int32) (k : Nat) : mm_step (mm_rw mr_37) (some .int) tb call Q C 15 lv (.inl i :: .inr (.inr (.inl (some k))) :: st) h kc ks = (match h.2 k with
    | some (.inl (.int, n, f)) => vp_in i n ∧ C 16 lv (vI (f i.toNatClampNeg) :: st) h kc ks
    | _ => False) := rfl
theorem g37_15t (i : Int32) (t : Nat) : mm_step (mm_rw mr_37) (some .int) tb call Q C 15 lv (.inl i :: .inr (.inr (.inr t)) :: st) h kc ks = (vp_in i (tb t).1 ∧ C 16 lv (vI ((tb t).2 i.toNatClampNeg) :: st) h kc ks) := rfl
theorem g37_16  : mm_step (mm_rw mr_37) (some .int) tb call Q C 16 lv st h kc ks = (match mm_rd lv 1 with
    | some (.inl a) => C 17 lv (vI a :: st) h kc ks
    | _ => False) := rfl
theorem g37_17 (a b : Int32) : mm_step (mm_rw mr_37) (some .int) tb call Q C 17 lv (.inl b :: .inl a :: st) h kc ks = ((¬ a = b → C 22 lv st h kc ks) ∧ (a = b → C 20 lv st h kc ks)) := rfl
theorem g37_20  : mm_step (mm_rw mr_37) (some .int) tb call Q C 20 lv st h kc ks = (match mm_rd lv 2 with
    | some (.inl a) => C 21 lv (vI a :: st) h kc ks
    | _ => False) := rfl
theorem g37_21 (v : Int32) : mm_step (mm_rw mr_37) (some .int) tb call Q C 21 lv [.inl v] h kc ks = (True ∧ Q (some (vI v)) h) := rfl
theorem g37_22  : mm_step (mm_rw mr_37) (some .int) tb call Q C 22 lv st h kc ks = (match mm_rd lv 2 with
    | some (.inl a) => C 25 (mm_st1 lv 2 (vI (a + 1))) st h kc ks
    | _ => False) := rfl
theorem g37_25  : mm_step (mm_rw mr_37) (some .int) tb call Q C 25 lv st h kc ks = (C 2 lv st h kc ks) := rfl
theorem g37_28  : mm_step (mm_rw mr_37) (some .int) tb call Q C 28 lv st h kc ks = (C 30 lv (vI (mI 9) :: st) h kc ks) := rfl
theorem g37_30 (v : Int32) : mm_step (mm_rw mr_37) (some .int) tb call Q C 30 lv [.inl v] h kc ks = (True ∧ Q (some (vI v)) h) := rfl
end G37

abbrev sp_38 : List Nat := []
section G38
variable {tb : Nat → Nat × (Nat → Int32)} {call : CO} {Q : AQ} {C : CP} {lv : AL} {st : List AV} {h : AH} {kc ks : Nat}
theorem g38_0  : mm_step (mm_rw mr_38) (some .int) tb call Q C 0 lv st h kc ks = (match mm_rd lv 1 with
    | some (.inl a) => C 1 lv (vI a :: st) h kc ks
    | _ => False) := rfl
theorem g38_1  : mm_step (mm_rw mr_38) (some .int) tb call Q C 1 lv st h kc ks = (C 2 lv (vI 1 :: st) h kc ks) := rfl
theorem g38_2 (a b : Int32) : mm_step (mm_rw mr_38) (some .int) tb call Q C 2 lv (.inl b :: .inl a :: st) h kc ks = (C 3 lv (vI (a + b) :: st) h kc ks) := rfl
theorem g38_3  : mm_step (mm_rw mr_38) (some .int) tb call Q C 3 lv st h kc ks = (match mm_rd lv 0 with
    | some (.inr (.inr (.inl (some k)))) => C 4 lv (vR k :: st) h kc ks
    | some (.inr (.inr (.inr t))) => C 4 lv (vT t :: st) h kc ks
    | _ => False) := rfl
theorem g38_4 (k : Nat) : mm_step (mm_rw mr_38) (some .int) tb call Q C 4 lv (.inr (.inr (.inl (some k))) :: st) h kc ks = (match h.2 k with
    | some (.inr (.inr (ci, fs))) => ci = 5 ∧ (match fs[1]? with
      | some v => C 7 lv (v :: st) h kc ks
      | none => False)
    | _ => False) := rfl
theorem g38_7 (a b : Int32) : mm_step (mm_rw mr_38) (some .int) tb call Q C 7 lv (.inl b :: .inl a :: st) h kc ks = ((b ≤ a → C 16 lv st h kc ks) ∧ (¬ b ≤ a → C 10 lv st h kc ks)) := rfl
theorem g38_10  : mm_step (mm_rw mr_38) (some .int) tb call Q C 10 lv st h kc ks = (match mm_rd lv 1 with
    | some (.inl a) => C 11 lv (vI a :: st) h kc ks
    | _ => False) := rfl
theorem g38_11  : mm_step (mm_rw mr_38) (some .int) tb call Q C 11 lv st h kc ks = (C 12 lv (vI 1 :: st) h kc ks) := rfl
theorem g38_12 (a b : Int32) : mm_step (mm_rw mr_38) (some .int) tb call Q C 12 lv (.inl b :: .inl a :: st) h kc ks = (C 13 lv (vI (a + b) :: st) h kc ks) := rfl
theorem g38_13  : mm_step (mm_rw mr_38) (some .int) tb call Q C 13 lv st h kc ks = (C 17 lv st h kc ks) := rfl
theorem g38_16  : mm_step (mm_rw mr_38) (some .int) tb call Q C 16 lv st h kc ks = (C 17 lv (vI 0 :: st) h kc ks) := rfl
theorem g38_17 (v : Int32) : mm_step (mm_rw mr_38) (some .int) tb call Q C 17 lv [.inl v] h kc ks = (True ∧ Q (some (vI v)) h) := rfl
end G38

abbrev sp_39 : List Nat := []
section G39
variable {tb : Nat → Nat × (Nat → Int32)} {call : CO} {Q : AQ} {C : CP} {lv : AL} {st : List AV} {h : AH} {kc ks : Nat}
theorem g39_0  : mm_step (mm_rw mr_39) (some .int) tb call Q C 0 lv st h kc ks = (match mm_rd lv 1 with
    | some (.inl a) => C 1 lv (vI a :: st) h kc ks
    | _ => False) := rfl
theorem g39_1 (a : Int32) : mm_step (mm_rw mr_39) (some .int) tb call Q C 1 lv (.inl a :: st) h kc ks = ((a ≤ 0 → C 10 lv st h kc ks) ∧ (¬ a ≤ 0 → C 4 lv st h kc ks)) := rfl
theorem g39_4  : mm_step (mm_rw mr_39) (some .int) tb call Q C 4 lv st h kc ks = (match mm_rd lv 1 with
    | some (.inl a) => C 5 lv (vI a :: st) h kc ks
    | _ => False) := rfl
theorem g39_5  : mm_step (mm_rw mr_39) (some .int) tb call Q C 5 lv st h kc ks = (C 6 lv (vI 1 :: st) h kc ks) := rfl
theorem g39_6 (a b : Int32) : mm_step (mm_rw mr_39) (some .int) tb call Q C 6 lv (.inl b :: .inl a :: st) h kc ks = (C 7 lv (vI (a - b) :: st) h kc ks) := rfl
theorem g39_7  : mm_step (mm_rw mr_39) (some .int) tb call Q C 7 lv st h kc ks = (C 16 lv st h kc ks) := rfl
theorem g39_10  : mm_step (mm_rw mr_39) (some .int) tb call Q C 10 lv st h kc ks = (match mm_rd lv 0 with
    | some (.inr (.inr (.inl (some k)))) => C 11 lv (vR k :: st) h kc ks
    | some (.inr (.inr (.inr t))) => C 11 lv (vT t :: st) h kc ks
    | _ => False) := rfl
theorem g39_11 (k : Nat) : mm_step (mm_rw mr_39) (some .int) tb call Q C 11 lv (.inr (.inr (.inl (some k))) :: st) h kc ks = (match h.2 k with
    | some (.inr (.inr (ci, fs))) => ci = 5 ∧ (match fs[1]? with
      | some v => C 14 lv (v :: st) h kc ks
      | none => False)
    | _ => False) := rfl
theorem g39_14  : mm_step (mm_rw mr_39) (some .int) tb call Q C 14 lv st h kc ks = (C 15 lv (vI 1 :: st) h kc ks) := rfl
theorem g39_15 (a b : Int32) : mm_step (mm_rw mr_39) (some .int) tb call Q C 15 lv (.inl b :: .inl a :: st) h kc ks = (C 16 lv (vI (a - b) :: st) h kc ks) := rfl
theorem g39_16 (v : Int32) : mm_step (mm_rw mr_39) (some .int) tb call Q C 16 lv [.inl v] h kc ks = (True ∧ Q (some (vI v)) h) := rfl
end G39

abbrev sp_36 : List Nat := []
section G36
variable {tb : Nat → Nat × (Nat → Int32)} {call : CO} {Q : AQ} {C : CP} {lv : AL} {st : List AV} {h : AH} {kc ks : Nat}
theorem g36_0  : mm_step (mm_rw mr_36) (some .int) tb call Q C 0 lv st h kc ks = (match mm_rd lv 1 with
    | some (.inl a) => C 1 lv (vI a :: st) h kc ks
    | _ => False) := rfl
theorem g36_1 (a : Int32) : mm_step (mm_rw mr_36) (some .int) tb call Q C 1 lv (.inl a :: st) h kc ks = ((a < 0 → C 21 lv st h kc ks) ∧ (¬ a < 0 → C 4 lv st h kc ks)) := rfl
theorem g36_4  : mm_step (mm_rw mr_36) (some .int) tb call Q C 4 lv st h kc ks = (match mm_rd lv 1 with
    | some (.inl a) => C 5 lv (vI a :: st) h kc ks
    | _ => False) := rfl
theorem g36_5  : mm_step (mm_rw mr_36) (some .int) tb call Q C 5 lv st h kc ks = (match mm_rd lv 0 with
    | some (.inr (.inr (.inl (some k)))) => C 6 lv (vR k :: st) h kc ks
    | some (.inr (.inr (.inr t))) => C 6 lv (vT t :: st) h kc ks
    | _ => False) := rfl
theorem g36_6 (k : Nat) : mm_step (mm_rw mr_36) (some .int) tb call Q C 6 lv (.inr (.inr (.inl (some k))) :: st) h kc ks = (match h.2 k with
    | some (.inr (.inr (ci, fs))) => ci = 5 ∧ (match fs[1]? with
      | some v => C 9 lv (v :: st) h kc ks
      | none => False)
    | _ => False) := rfl
theorem g36_9 (a b : Int32) : mm_step (mm_rw mr_36) (some .int) tb call Q C 9 lv (.inl b :: .inl a :: st) h kc ks = ((b ≤ a → C 21 lv st h kc ks) ∧ (¬ b ≤ a → C 12 lv st h kc ks)) := rfl
theorem g36_12  : mm_step (mm_rw mr_36) (some .int) tb call Q C 12 lv st h kc ks = (match mm_rd lv 0 with
    | some (.inr (.inr (.inl (some k)))) => C 13 lv (vR k :: st) h kc ks
    | some (.inr (.inr (.inr t))) => C 13 lv (vT t :: st) h kc ks
    | _ => False) := rfl
theorem g36_13 (k : Nat) : mm_step (mm_rw mr_36) (some .int) tb call Q C 13 lv (.inr (.inr (.inl (some k))) :: st) h kc ks = (match h.2 k with
    | some (.inr (.inr (ci, fs))) => ci = 5 ∧ (match fs[0]? with
      | some v => C 16 lv (v :: st) h kc ks
      | none => False)
    | _ => False) := rfl
theorem g36_16  : mm_step (mm_rw mr_36) (some .int) tb call Q C 16 lv st h kc ks = (match mm_rd lv 1 with
    | some (.inl a) => C 17 lv (vI a :: st) h kc ks
    | _ => False) := rfl
theorem g36_17 (i : Int32) (k : Nat) : mm_step (mm_rw mr_36) (some .int) tb call Q C 17 lv (.inl i :: .inr (.inr (.inl (some k))) :: st) h kc ks = (match h.2 k with
    | some (.inl (.int, n, f)) => vp_in i n ∧ C 18 lv (vI (f i.toNatClampNeg) :: st) h kc ks
    | _ => False) := rfl
theorem g36_17t (i : Int32) (t : Nat) : mm_step (mm_rw mr_36) (some .int) tb call Q C 17 lv (.inl i :: .inr (.inr (.inr t)) :: st) h kc ks = (vp_in i (tb t).1 ∧ C 18 lv (vI ((tb t).2 i.toNatClampNeg) :: st) h kc ks) := rfl
theorem g36_18  : mm_step (mm_rw mr_36) (some .int) tb call Q C 18 lv st h kc ks = (C 23 lv st h kc ks) := rfl
theorem g36_21  : mm_step (mm_rw mr_36) (some .int) tb call Q C 21 lv st h kc ks = (C 23 lv (vI (mI 9) :: st) h kc ks) := rfl
theorem g36_23 (v : Int32) : mm_step (mm_rw mr_36) (some .int) tb call Q C 23 lv [.inl v] h kc ks = (True ∧ Q (some (vI v)) h) := rfl
end G36

abbrev sp_41 : List Nat := []
section G41
variable {tb : Nat → Nat × (Nat → Int32)} {call : CO} {Q : AQ} {C : CP} {lv : AL} {st : List AV} {h : AH} {kc ks : Nat}
theorem g41_0  : mm_step (mm_rw mr_41) (some .int) tb call Q C 0 lv st h kc ks = (match mm_rd lv 1 with
    | some (.inl a) => C 1 lv (vI a :: st) h kc ks
    | _ => False) := rfl
theorem g41_1 (a : Int32) : mm_step (mm_rw mr_41) (some .int) tb call Q C 1 lv (.inl a :: st) h kc ks = ((a < 0 → C 12 lv st h kc ks) ∧ (¬ a < 0 → C 4 lv st h kc ks)) := rfl
theorem g41_4  : mm_step (mm_rw mr_41) (some .int) tb call Q C 4 lv st h kc ks = (match mm_rd lv 1 with
    | some (.inl a) => C 5 lv (vI a :: st) h kc ks
    | _ => False) := rfl
theorem g41_5  : mm_step (mm_rw mr_41) (some .int) tb call Q C 5 lv st h kc ks = (match mm_rd lv 0 with
    | some (.inr (.inr (.inl (some k)))) => C 6 lv (vR k :: st) h kc ks
    | some (.inr (.inr (.inr t))) => C 6 lv (vT t :: st) h kc ks
    | _ => False) := rfl
theorem g41_6 (k : Nat) : mm_step (mm_rw mr_41) (some .int) tb call Q C 6 lv (.inr (.inr (.inl (some k))) :: st) h kc ks = (match h.2 k with
    | some (.inr (.inr (ci, fs))) => ci = 5 ∧ (match fs[1]? with
      | some v => C 9 lv (v :: st) h kc ks
      | none => False)
    | _ => False) := rfl
theorem g41_9 (a b : Int32) : mm_step (mm_rw mr_41) (some .int) tb call Q C 9 lv (.inl b :: .inl a :: st) h kc ks = ((a < b → C 15 lv st h kc ks) ∧ (¬ a < b → C 12 lv st h kc ks)) := rfl
theorem g41_12  : mm_step (mm_rw mr_41) (some .int) tb call Q C 12 lv st h kc ks = (C 14 lv (vI (mI 9) :: st) h kc ks) := rfl
theorem g41_14 (v : Int32) : mm_step (mm_rw mr_41) (some .int) tb call Q C 14 lv [.inl v] h kc ks = (True ∧ Q (some (vI v)) h) := rfl
theorem g41_15  : mm_step (mm_rw mr_41) (some .int) tb call Q C 15 lv st h kc ks = (match mm_rd lv 0 with
    | some (.inr (.inr (.inl (some k)))) => C 16 lv (vR k :: st) h kc ks
    | some (.inr (.inr (.inr t))) => C 16 lv (vT t :: st) h kc ks
    | _ => False) := rfl
theorem g41_16 (k : Nat) : mm_step (mm_rw mr_41) (some .int) tb call Q C 16 lv (.inr (.inr (.inl (some k))) :: st) h kc ks = (match h.2 k with
    | some (.inr (.inr (ci, fs))) => ci = 5 ∧ (match fs[0]? with
      | some v => C 19 lv (v :: st) h kc ks
      | none => False)
    | _ => False) := rfl
theorem g41_19  : mm_step (mm_rw mr_41) (some .int) tb call Q C 19 lv st h kc ks = (match mm_rd lv 1 with
    | some (.inl a) => C 20 lv (vI a :: st) h kc ks
    | _ => False) := rfl
theorem g41_20 (i : Int32) (k : Nat) : mm_step (mm_rw mr_41) (some .int) tb call Q C 20 lv (.inl i :: .inr (.inr (.inl (some k))) :: st) h kc ks = (match h.2 k with
    | some (.inl (.int, n, f)) => vp_in i n ∧ C 21 lv (vI (f i.toNatClampNeg) :: st) h kc ks
    | _ => False) := rfl
theorem g41_20t (i : Int32) (t : Nat) : mm_step (mm_rw mr_41) (some .int) tb call Q C 20 lv (.inl i :: .inr (.inr (.inr t)) :: st) h kc ks = (vp_in i (tb t).1 ∧ C 21 lv (vI ((tb t).2 i.toNatClampNeg) :: st) h kc ks) := rfl
theorem g41_21 (a : Int32) : mm_step (mm_rw mr_41) (some .int) tb call Q C 21 lv (.inl a :: st) h kc ks = (C 22 (mm_st1 lv 2 (vI a)) st h kc ks) := rfl
theorem g41_22  : mm_step (mm_rw mr_41) (some .int) tb call Q C 22 lv st h kc ks = (match mm_rd lv 0 with
    | some (.inr (.inr (.inl (some k)))) => C 23 lv (vR k :: st) h kc ks
    | some (.inr (.inr (.inr t))) => C 23 lv (vT t :: st) h kc ks
    | _ => False) := rfl
theorem g41_23 (v : AV) : mm_step (mm_rw mr_41) (some .int) tb call Q C 23 lv (v :: st) h kc ks = (mm_c2 v = false ∧ C 24 lv (v :: v :: st) h kc ks) := rfl
theorem g41_24 (k : Nat) : mm_step (mm_rw mr_41) (some .int) tb call Q C 24 lv (.inr (.inr (.inl (some k))) :: st) h kc ks = (match h.2 k with
    | some (.inr (.inr (ci, fs))) => ci = 5 ∧ (match fs[1]? with
      | some v => C 27 lv (v :: st) h kc ks
      | none => False)
    | _ => False) := rfl
theorem g41_27  : mm_step (mm_rw mr_41) (some .int) tb call Q C 27 lv st h kc ks = (C 28 lv (vI 1 :: st) h kc ks) := rfl
theorem g41_28 (a b : Int32) : mm_step (mm_rw mr_41) (some .int) tb call Q C 28 lv (.inl b :: .inl a :: st) h kc ks = (C 29 lv (vI (a - b) :: st) h kc ks) := rfl
theorem g41_29 (v : AV) (k : Nat) : mm_step (mm_rw mr_41) (some .int) tb call Q C 29 lv (v :: .inr (.inr (.inl (some k))) :: st) h kc ks = (match h.2 k with
    | some (.inr (.inr (ci, fs))) => ci = 5 ∧ 1 < fs.length ∧ mm_fit (mm_ft 5 1) v ∧ C 32 lv st (mm_up h k (cO ci (fs.set 1 v))) kc ks
    | _ => False) := rfl
theorem g41_32  : mm_step (mm_rw mr_41) (some .int) tb call Q C 32 lv st h kc ks = (match mm_rd lv 0 with
    | some (.inr (.inr (.inl (some k)))) => C 33 lv (vR k :: st) h kc ks
    | some (.inr (.inr (.inr t))) => C 33 lv (vT t :: st) h kc ks
    | _ => False) := rfl
theorem g41_33 (k : Nat) : mm_step (mm_rw mr_41) (some .int) tb call Q C 33 lv (.inr (.inr (.inl (some k))) :: st) h kc ks = (match h.2 k with
    | some (.inr (.inr (ci, fs))) => ci = 5 ∧ (match fs[0]? with
      | some v => C 36 lv (v :: st) h kc ks
      | none => False)
    | _ => False) := rfl
theorem g41_36  : mm_step (mm_rw mr_41) (some .int) tb call Q C 36 lv st h kc ks = (match mm_rd lv 1 with
    | some (.inl a) => C 37 lv (vI a :: st) h kc ks
    | _ => False) := rfl
theorem g41_37  : mm_step (mm_rw mr_41) (some .int) tb call Q C 37 lv st h kc ks = (C 38 lv (vI 1 :: st) h kc ks) := rfl
theorem g41_38 (a b : Int32) : mm_step (mm_rw mr_41) (some .int) tb call Q C 38 lv (.inl b :: .inl a :: st) h kc ks = (C 39 lv (vI (a + b) :: st) h kc ks) := rfl
theorem g41_39  : mm_step (mm_rw mr_41) (some .int) tb call Q C 39 lv st h kc ks = (match mm_rd lv 0 with
    | some (.inr (.inr (.inl (some k)))) => C 40 lv (vR k :: st) h kc ks
    | some (.inr (.inr (.inr t))) => C 40 lv (vT t :: st) h kc ks
    | _ => False) := rfl
theorem g41_40 (k : Nat) : mm_step (mm_rw mr_41) (some .int) tb call Q C 40 lv (.inr (.inr (.inl (some k))) :: st) h kc ks = (match h.2 k with
    | some (.inr (.inr (ci, fs))) => ci = 5 ∧ (match fs[0]? with
      | some v => C 43 lv (v :: st) h kc ks
      | none => False)
    | _ => False) := rfl
theorem g41_43  : mm_step (mm_rw mr_41) (some .int) tb call Q C 43 lv st h kc ks = (match mm_rd lv 1 with
    | some (.inl a) => C 44 lv (vI a :: st) h kc ks
    | _ => False) := rfl
theorem g41_44  : mm_step (mm_rw mr_41) (some .int) tb call Q C 44 lv st h kc ks = (match mm_rd lv 0 with
    | some (.inr (.inr (.inl (some k)))) => C 45 lv (vR k :: st) h kc ks
    | some (.inr (.inr (.inr t))) => C 45 lv (vT t :: st) h kc ks
    | _ => False) := rfl
theorem g41_45 (k : Nat) : mm_step (mm_rw mr_41) (some .int) tb call Q C 45 lv (.inr (.inr (.inl (some k))) :: st) h kc ks = (match h.2 k with
    | some (.inr (.inr (ci, fs))) => ci = 5 ∧ (match fs[1]? with
      | some v => C 48 lv (v :: st) h kc ks
      | none => False)
    | _ => False) := rfl
theorem g41_48  : mm_step (mm_rw mr_41) (some .int) tb call Q C 48 lv st h kc ks = (match mm_rd lv 1 with
    | some (.inl a) => C 49 lv (vI a :: st) h kc ks
    | _ => False) := rfl
theorem g41_49 (a b : Int32) : mm_step (mm_rw mr_41) (some .int) tb call Q C 49 lv (.inl b :: .inl a :: st) h kc ks = (C 50 lv (vI (a - b) :: st) h kc ks) := rfl
theorem g41_50 (n dp sp : Int32) (d s : Nat) : mm_step (mm_rw mr_41) (some .int) tb call Q C 50 lv (.inl n :: .inl dp :: .inr (.inr (.inl (some d))) :: .inl sp :: .inr (.inr (.inl (some s))) :: st) h kc ks = (match h.2 s, h.2 d with
    | some (.inl (.int, n0, f)), some (.inl (.int, n1, g)) => st.length ≤ 4 ∧ ¬ sp < 0 ∧ ¬ dp < 0 ∧ ¬ n < 0 ∧ sp.toNatClampNeg + n.toNatClampNeg ≤ n0 ∧ dp.toNatClampNeg + n.toNatClampNeg ≤ n1 ∧ C 53 lv st (mm_up h d (cI n1 (va_cpy f g sp.toNatClampNeg dp.toNatClampNeg n.toNatClampNeg))) kc ks
    | _, _ => False) := rfl
theorem g41_53  : mm_step (mm_rw mr_41) (some .int) tb call Q C 53 lv st h kc ks = (match mm_rd lv 2 with
    | some (.inl a) => C 54 lv (vI a :: st) h kc ks
    | _ => False) := rfl
theorem g41_54 (v : Int32) : mm_step (mm_rw mr_41) (some .int) tb call Q C 54 lv [.inl v] h kc ks = (True ∧ Q (some (vI v)) h) := rfl
end G41

abbrev sp_42 : List Nat := []
section G42
variable {tb : Nat → Nat × (Nat → Int32)} {call : CO} {Q : AQ} {C : CP} {lv : AL} {st : List AV} {h : AH} {kc ks : Nat}
theorem g42_0  : mm_step (mm_rw mr_42) none tb call Q C 0 lv st h kc ks = (match mm_rd lv 1 with
    | some (.inl a) => C 1 lv (vI a :: st) h kc ks
    | _ => False) := rfl
theorem g42_1 (a : Int32) : mm_step (mm_rw mr_42) none tb call Q C 1 lv (.inl a :: st) h kc ks = ((a < 0 → C 21 lv st h kc ks) ∧ (¬ a < 0 → C 4 lv st h kc ks)) := rfl
theorem g42_4  : mm_step (mm_rw mr_42) none tb call Q C 4 lv st h kc ks = (match mm_rd lv 1 with
    | some (.inl a) => C 5 lv (vI a :: st) h kc ks
    | _ => False) := rfl
theorem g42_5  : mm_step (mm_rw mr_42) none tb call Q C 5 lv st h kc ks = (match mm_rd lv 0 with
    | some (.inr (.inr (.inl (some k)))) => C 6 lv (vR k :: st) h kc ks
    | some (.inr (.inr (.inr t))) => C 6 lv (vT t :: st) h kc ks
    | _ => False) := rfl
theorem g42_6 (k : Nat) : mm_step (mm_rw mr_42) none tb call Q C 6 lv (.inr (.inr (.inl (some k))) :: st) h kc ks = (match h.2 k with
    | some (.inr (.inr (ci, fs))) => ci = 5 ∧ (match fs[1]? with
      | some v => C 9 lv (v :: st) h kc ks
      | none => False)
    | _ => False) := rfl
theorem g42_9 (a b : Int32) : mm_step (mm_rw mr_42) none tb call Q C 9 lv (.inl b :: .inl a :: st) h kc ks = ((b < a → C 21 lv st h kc ks) ∧ (¬ b < a → C 12 lv st h kc ks)) := rfl
theorem g42_12  : mm_step (mm_rw mr_42) none tb call Q C 12 lv st h kc ks = (match mm_rd lv 0 with
    | some (.inr (.inr (.inl (some k)))) => C 13 lv (vR k :: st) h kc ks
    | some (.inr (.inr (.inr t))) => C 13 lv (vT t :: st) h kc ks
    | _ => False) := rfl
theorem g42_13 (k : Nat) : mm_step (mm_rw mr_42) none tb call Q C 13 lv (.inr (.inr (.inl (some k))) :: st) h kc ks = (match h.2 k with
    | some (.inr (.inr (ci, fs))) => ci = 5 ∧ (match fs[1]? with
      | some v => C 16 lv (v :: st) h kc ks
      | none => False)
    | _ => False) := rfl
theorem g42_16  : mm_step (mm_rw mr_42) none tb call Q C 16 lv st h kc ks = (C 18 lv (vI 8 :: st) h kc ks) := rfl
theorem g42_18 (a b : Int32) : mm_step (mm_rw mr_42) none tb call Q C 18 lv (.inl b :: .inl a :: st) h kc ks = ((a < b → C 22 lv st h kc ks) ∧ (¬ a < b → C 21 lv st h kc ks)) := rfl
theorem g42_21  : mm_step (mm_rw mr_42) none tb call Q C 21 lv [] h kc ks = ((none : Option FieldType) = none ∧ Q none h) := rfl
theorem g42_22  : mm_step (mm_rw mr_42) none tb call Q C 22 lv st h kc ks = (match mm_rd lv 0 with
    | some (.inr (.inr (.inl (some k)))) => C 23 lv (vR k :: st) h kc ks
    | some (.inr (.inr (.inr t))) => C 23 lv (vT t :: st) h kc ks
    | _ => False) := rfl
theorem g42_23 (k : Nat) : mm_step (mm_rw mr_42) none tb call Q C 23 lv (.inr (.inr (.inl (some k))) :: st) h kc ks = (match h.2 k with
    | some (.inr (.inr (ci, fs))) => ci = 5 ∧ (match fs[0]? with
      | some v => C 26 lv (v :: st) h kc ks
      | none => False)
    | _ => False) := rfl
theorem g42_26  : mm_step (mm_rw mr_42) none tb call Q C 26 lv st h kc ks = (match mm_rd lv 1 with
    | some (.inl a) => C 27 lv (vI a :: st) h kc ks
    | _ => False) := rfl
theorem g42_27  : mm_step (mm_rw mr_42) none tb call Q C 27 lv st h kc ks = (match mm_rd lv 0 with
    | some (.inr (.inr (.inl (some k)))) => C 28 lv (vR k :: st) h kc ks
    | some (.inr (.inr (.inr t))) => C 28 lv (vT t :: st) h kc ks
    | _ => False) := rfl
theorem g42_28 (k : Nat) : mm_step (mm_rw mr_42) none tb call Q C 28 lv (.inr (.inr (.inl (some k))) :: st) h kc ks = (match h.2 k with
    | some (.inr (.inr (ci, fs))) => ci = 5 ∧ (match fs[0]? with
      | some v => C 31 lv (v :: st) h kc ks
      | none => False)
    | _ => False) := rfl
theorem g42_31  : mm_step (mm_rw mr_42) none tb call Q C 31 lv st h kc ks = (match mm_rd lv 1 with
    | some (.inl a) => C 32 lv (vI a :: st) h kc ks
    | _ => False) := rfl
theorem g42_32  : mm_step (mm_rw mr_42) none tb call Q C 32 lv st h kc ks = (C 33 lv (vI 1 :: st) h kc ks) := rfl
theorem g42_33 (a b : Int32) : mm_step (mm_rw mr_42) none tb call Q C 33 lv (.inl b :: .inl a :: st) h kc ks = (C 34 lv (vI (a + b) :: st) h kc ks) := rfl
theorem g42_34  : mm_step (mm_rw mr_42) none tb call Q C 34 lv st h kc ks = (match mm_rd lv 0 with
    | some (.inr (.inr (.inl (some k)))) => C 35 lv (vR k :: st) h kc ks
    | some (.inr (.inr (.inr t))) => C 35 lv (vT t :: st) h kc ks
    | _ => False) := rfl
theorem g42_35 (k : Nat) : mm_step (mm_rw mr_42) none tb call Q C 35 lv (.inr (.inr (.inl (some k))) :: st) h kc ks = (match h.2 k with
    | some (.inr (.inr (ci, fs))) => ci = 5 ∧ (match fs[1]? with
      | some v => C 38 lv (v :: st) h kc ks
      | none => False)
    | _ => False) := rfl
theorem g42_38  : mm_step (mm_rw mr_42) none tb call Q C 38 lv st h kc ks = (match mm_rd lv 1 with
    | some (.inl a) => C 39 lv (vI a :: st) h kc ks
    | _ => False) := rfl
theorem g42_39 (a b : Int32) : mm_step (mm_rw mr_42) none tb call Q C 39 lv (.inl b :: .inl a :: st) h kc ks = (C 40 lv (vI (a - b) :: st) h kc ks) := rfl
theorem g42_40 (n dp sp : Int32) (d s : Nat) : mm_step (mm_rw mr_42) none tb call Q C 40 lv (.inl n :: .inl dp :: .inr (.inr (.inl (some d))) :: .inl sp :: .inr (.inr (.inl (some s))) :: st) h kc ks = (match h.2 s, h.2 d with
    | some (.inl (.int, n0, f)), some (.inl (.int, n1, g)) => st.length ≤ 4 ∧ ¬ sp < 0 ∧ ¬ dp < 0 ∧ ¬ n < 0 ∧ sp.toNatClampNeg + n.toNatClampNeg ≤ n0 ∧ dp.toNatClampNeg + n.toNatClampNeg ≤ n1 ∧ C 43 lv st (mm_up h d (cI n1 (va_cpy f g sp.toNatClampNeg dp.toNatClampNeg n.toNatClampNeg))) kc ks
    | _, _ => False) := rfl
theorem g42_43  : mm_step (mm_rw mr_42) none tb call Q C 43 lv st h kc ks = (match mm_rd lv 0 with
    | some (.inr (.inr (.inl (some k)))) => C 44 lv (vR k :: st) h kc ks
    | some (.inr (.inr (.inr t))) => C 44 lv (vT t :: st) h kc ks
    | _ => False) := rfl
theorem g42_44 (k : Nat) : mm_step (mm_rw mr_42) none tb call Q C 44 lv (.inr (.inr (.inl (some k))) :: st) h kc ks = (match h.2 k with
    | some (.inr (.inr (ci, fs))) => ci = 5 ∧ (match fs[0]? with
      | some v => C 47 lv (v :: st) h kc ks
      | none => False)
    | _ => False) := rfl
theorem g42_47  : mm_step (mm_rw mr_42) none tb call Q C 47 lv st h kc ks = (match mm_rd lv 1 with
    | some (.inl a) => C 48 lv (vI a :: st) h kc ks
    | _ => False) := rfl
theorem g42_48  : mm_step (mm_rw mr_42) none tb call Q C 48 lv st h kc ks = (match mm_rd lv 2 with
    | some (.inl a) => C 49 lv (vI a :: st) h kc ks
    | _ => False) := rfl
theorem g42_49 (v i : Int32) (k : Nat) : mm_step (mm_rw mr_42) none tb call Q C 49 lv (.inl v :: .inl i :: .inr (.inr (.inl (some k))) :: st) h kc ks = (match h.2 k with
    | some (.inl (.int, n, f)) => vp_in i n ∧ C 50 lv st (mm_up h k (cI n (upd f i.toNatClampNeg v))) kc ks
    | _ => False) := rfl
theorem g42_50  : mm_step (mm_rw mr_42) none tb call Q C 50 lv st h kc ks = (match mm_rd lv 0 with
    | some (.inr (.inr (.inl (some k)))) => C 51 lv (vR k :: st) h kc ks
    | some (.inr (.inr (.inr t))) => C 51 lv (vT t :: st) h kc ks
    | _ => False) := rfl
theorem g42_51 (v : AV) : mm_step (mm_rw mr_42) none tb call Q C 51 lv (v :: st) h kc ks = (mm_c2 v = false ∧ C 52 lv (v :: v :: st) h kc ks) := rfl
theorem g42_52 (k : Nat) : mm_step (mm_rw mr_42) none tb call Q C 52 lv (.inr (.inr (.inl (some k))) :: st) h kc ks = (match h.2 k with
    | some (.inr (.inr (ci, fs))) => ci = 5 ∧ (match fs[1]? with
      | some v => C 55 lv (v :: st) h kc ks
      | none => False)
    | _ => False) := rfl
theorem g42_55  : mm_step (mm_rw mr_42) none tb call Q C 55 lv st h kc ks = (C 56 lv (vI 1 :: st) h kc ks) := rfl
theorem g42_56 (a b : Int32) : mm_step (mm_rw mr_42) none tb call Q C 56 lv (.inl b :: .inl a :: st) h kc ks = (C 57 lv (vI (a + b) :: st) h kc ks) := rfl
theorem g42_57 (v : AV) (k : Nat) : mm_step (mm_rw mr_42) none tb call Q C 57 lv (v :: .inr (.inr (.inl (some k))) :: st) h kc ks = (match h.2 k with
    | some (.inr (.inr (ci, fs))) => ci = 5 ∧ 1 < fs.length ∧ mm_fit (mm_ft 5 1) v ∧ C 60 lv st (mm_up h k (cO ci (fs.set 1 v))) kc ks
    | _ => False) := rfl
theorem g42_60  : mm_step (mm_rw mr_42) none tb call Q C 60 lv [] h kc ks = ((none : Option FieldType) = none ∧ Q none h) := rfl
end G42

abbrev sp_40 : List Nat := [5, 22]
section G40
variable {tb : Nat → Nat × (Nat → Int32)} {call : CO} {Q : AQ} {C : CP} {lv : AL} {st : List AV} {h : AH} {kc ks : Nat}
theorem g40_0  : mm_step (mm_rw mr_40) (some .int) tb call Q C 0 lv st h kc ks = (match mm_rd lv 0 with
    | some (.inr (.inr (.inl (some k)))) => C 1 lv (vR k :: st) h kc ks
    | some (.inr (.inr (.inr t))) => C 1 lv (vT t :: st) h kc ks
    | _ => False) := rfl
theorem g40_1  : mm_step (mm_rw mr_40) (some .int) tb call Q C 1 lv st h kc ks = (match mm_rd lv 1 with
    | some (.inl a) => C 2 lv (vI a :: st) h kc ks
    | _ => False) := rfl
theorem g40_2  : mm_step (mm_rw mr_40) (some .int) tb call Q C 2 lv st h kc ks = ((match (st.take 2).reverse with
    | .inr (.inr (.inl (some k))) :: _ => (match h.2 k with
      | some (.inr (.inr (ci, _))) => mm_cn ci = (mm_mi 37).1.cls
      | _ => False)
    | _ => False) ∧ mm_call call C 37 2 2 lv st h kc ks) := rfl
theorem g40_5 (a : Int32) : mm_step (mm_rw mr_40) (some .int) tb call Q C 5 lv (.inl a :: st) h kc ks = (C 6 (mm_st1 lv 2 (vI a)) st h kc ks) := rfl
theorem g40_6  : mm_step (mm_rw mr_40) (some .int) tb call Q C 6 lv st h kc ks = (match mm_rd lv 2 with
    | some (.inl a) => C 7 lv (vI a :: st) h kc ks
    | _ => False) := rfl
theorem g40_7  : mm_step (mm_rw mr_40) (some .int) tb call Q C 7 lv st h kc ks = (C 9 lv (vI (mI 9) :: st) h kc ks) := rfl
theorem g40_9 (a b : Int32) : mm_step (mm_rw mr_40) (some .int) tb call Q C 9 lv (.inl b :: .inl a :: st) h kc ks = ((¬ a = b → C 17 lv st h kc ks) ∧ (a = b → C 12 lv st h kc ks)) := rfl
theorem g40_12  : mm_step (mm_rw mr_40) (some .int) tb call Q C 12 lv st h kc ks = (C 14 lv (vI (mI 9) :: st) h kc ks) := rfl
theorem g40_14  : mm_step (mm_rw mr_40) (some .int) tb call Q C 14 lv st h kc ks = (C 22 lv st h kc ks) := rfl
theorem g40_17  : mm_step (mm_rw mr_40) (some .int) tb call Q C 17 lv st h kc ks = (match mm_rd lv 0 with
    | some (.inr (.inr (.inl (some k)))) => C 18 lv (vR k :: st) h kc ks
    | some (.inr (.inr (.inr t))) => C 18 lv (vT t :: st) h kc ks
    | _ => False) := rfl
theorem g40_18  : mm_step (mm_rw mr_40) (some .int) tb call Q C 18 lv st h kc ks = (match mm_rd lv 2 with
    | some (.inl a) => C 19 lv (vI a :: st) h kc ks
    | _ => False) := rfl
theorem g40_19  : mm_step (mm_rw mr_40) (some .int) tb call Q C 19 lv st h kc ks = ((match (st.take 2).reverse with
    | .inr (.inr (.inl (some k))) :: _ => (match h.2 k with
      | some (.inr (.inr (ci, _))) => mm_cn ci = (mm_mi 38).1.cls
      | _ => False)
    | _ => False) ∧ mm_call call C 38 2 19 lv st h kc ks) := rfl
theorem g40_22 (v : Int32) : mm_step (mm_rw mr_40) (some .int) tb call Q C 22 lv [.inl v] h kc ks = (True ∧ Q (some (vI v)) h) := rfl
end G40

abbrev sp_43 : List Nat := [27, 56]
section G43
variable {tb : Nat → Nat × (Nat → Int32)} {call : CO} {Q : AQ} {C : CP} {lv : AL} {st : List AV} {h : AH} {kc ks : Nat}
theorem g43_0  : mm_step (mm_rw mr_43) (some .int) tb call Q C 0 lv st h kc ks = (match mm_rd lv 0 with
    | some (.inr (.inr (.inl (some k)))) => C 1 lv (vR k :: st) h kc ks
    | some (.inr (.inr (.inr t))) => C 1 lv (vT t :: st) h kc ks
    | _ => False) := rfl
theorem g43_1 (k : Nat) : mm_step (mm_rw mr_43) (some .int) tb call Q C 1 lv (.inr (.inr (.inl (some k))) :: st) h kc ks = (match h.2 k with
    | some (.inr (.inr (ci, fs))) => ci = 5 ∧ (match fs[1]? with
      | some v => C 4 lv (v :: st) h kc ks
      | none => False)
    | _ => False) := rfl
theorem g43_4 (a : Int32) : mm_step (mm_rw mr_43) (some .int) tb call Q C 4 lv (.inl a :: st) h kc ks = (C 6 (mm_st1 lv 4 (vI a)) st h kc ks) := rfl
theorem g43_6  : mm_step (mm_rw mr_43) (some .int) tb call Q C 6 lv st h kc ks = (match mm_rd lv 3 with
    | some (.inl a) => C 7 lv (vI a :: st) h kc ks
    | _ => False) := rfl
theorem g43_7  : mm_step (mm_rw mr_43) (some .int) tb call Q C 7 lv st h kc ks = (C 8 lv (vI 2 :: st) h kc ks) := rfl
theorem g43_8 (a b : Int32) : mm_step (mm_rw mr_43) (some .int) tb call Q C 8 lv (.inl b :: .inl a :: st) h kc ks = ((¬ a = b → C 17 lv st h kc ks) ∧ (a = b → C 11 lv st h kc ks)) := rfl
theorem g43_11  : mm_step (mm_rw mr_43) (some .int) tb call Q C 11 lv st h kc ks = (C 12 lv (vI 0 :: st) h kc ks) := rfl
theorem g43_12 (a : Int32) : mm_step (mm_rw mr_43) (some .int) tb call Q C 12 lv (.inl a :: st) h kc ks = (C 14 (mm_st1 lv 4 (vI a)) st h kc ks) := rfl
theorem g43_14  : mm_step (mm_rw mr_43) (some .int) tb call Q C 14 lv st h kc ks = (C 49 lv st h kc ks) := rfl
theorem g43_17  : mm_step (mm_rw mr_43) (some .int) tb call Q C 17 lv st h kc ks = (match mm_rd lv 3 with
    | some (.inl a) => C 18 lv (vI a :: st) h kc ks
    | _ => False) := rfl
theorem g43_18  : mm_step (mm_rw mr_43) (some .int) tb call Q C 18 lv st h kc ks = (C 19 lv (vI 1 :: st) h kc ks) := rfl
theorem g43_19 (a b : Int32) : mm_step (mm_rw mr_43) (some .int) tb call Q C 19 lv (.inl b :: .inl a :: st) h kc ks = ((¬ a = b → C 49 lv st h kc ks) ∧ (a = b → C 22 lv st h kc ks)) := rfl
theorem g43_22  : mm_step (mm_rw mr_43) (some .int) tb call Q C 22 lv st h kc ks = (match mm_rd lv 0 with
    | some (.inr (.inr (.inl (some k)))) => C 23 lv (vR k :: st) h kc ks
    | some (.inr (.inr (.inr t))) => C 23 lv (vT t :: st) h kc ks
    | _ => False) := rfl
theorem g43_23  : mm_step (mm_rw mr_43) (some .int) tb call Q C 23 lv st h kc ks = (match mm_rd lv 2 with
    | some (.inl a) => C 24 lv (vI a :: st) h kc ks
    | _ => False) := rfl
theorem g43_24  : mm_step (mm_rw mr_43) (some .int) tb call Q C 24 lv st h kc ks = ((match (st.take 2).reverse with
    | .inr (.inr (.inl (some k))) :: _ => (match h.2 k with
      | some (.inr (.inr (ci, _))) => mm_cn ci = (mm_mi 37).1.cls
      | _ => False)
    | _ => False) ∧ mm_call call C 37 2 24 lv st h kc ks) := rfl
theorem g43_27 (a : Int32) : mm_step (mm_rw mr_43) (some .int) tb call Q C 27 lv (.inl a :: st) h kc ks = (C 29 (mm_st1 lv 5 (vI a)) st h kc ks) := rfl
theorem g43_29  : mm_step (mm_rw mr_43) (some .int) tb call Q C 29 lv st h kc ks = (match mm_rd lv 5 with
    | some (.inl a) => C 31 lv (vI a :: st) h kc ks
    | _ => False) := rfl
theorem g43_31  : mm_step (mm_rw mr_43) (some .int) tb call Q C 31 lv st h kc ks = (C 33 lv (vI (mI 9) :: st) h kc ks) := rfl
theorem g43_33 (a b : Int32) : mm_step (mm_rw mr_43) (some .int) tb call Q C 33 lv (.inl b :: .inl a :: st) h kc ks = ((¬ a = b → C 43 lv st h kc ks) ∧ (a = b → C 36 lv st h kc ks)) := rfl
theorem g43_36  : mm_step (mm_rw mr_43) (some .int) tb call Q C 36 lv st h kc ks = (match mm_rd lv 0 with
    | some (.inr (.inr (.inl (some k)))) => C 37 lv (vR k :: st) h kc ks
    | some (.inr (.inr (.inr t))) => C 37 lv (vT t :: st) h kc ks
    | _ => False) := rfl
theorem g43_37 (k : Nat) : mm_step (mm_rw mr_43) (some .int) tb call Q C 37 lv (.inr (.inr (.inl (some k))) :: st) h kc ks = (match h.2 k with
    | some (.inr (.inr (ci, fs))) => ci = 5 ∧ (match fs[1]? with
      | some v => C 40 lv (v :: st) h kc ks
      | none => False)
    | _ => False) := rfl
theorem g43_40  : mm_step (mm_rw mr_43) (some .int) tb call Q C 40 lv st h kc ks = (C 47 lv st h kc ks) := rfl
theorem g43_43  : mm_step (mm_rw mr_43) (some .int) tb call Q C 43 lv st h kc ks = (match mm_rd lv 5 with
    | some (.inl a) => C 45 lv (vI a :: st) h kc ks
    | _ => False) := rfl
theorem g43_45  : mm_step (mm_rw mr_43) (some .int) tb call Q C 45 lv st h kc ks = (C 46 lv (vI 1 :: st) h kc ks) := rfl
theorem g43_46 (a b : Int32) : mm_step (mm_rw mr_43) (some .int) tb call Q C 46 lv (.inl b :: .inl a :: st) h kc ks = (C 47 lv (vI (a + b) :: st) h kc ks) := rfl
theorem g43_47 (a : Int32) : mm_step (mm_rw mr_43) (some .int) tb call Q C 47 lv (.inl a :: st) h kc ks = (C 49 (mm_st1 lv 4 (vI a)) st h kc ks) := rfl
theorem g43_49  : mm_step (mm_rw mr_43) (some .int) tb call Q C 49 lv st h kc ks = (match mm_rd lv 0 with
    | some (.inr (.inr (.inl (some k)))) => C 50 lv (vR k :: st) h kc ks
    | some (.inr (.inr (.inr t))) => C 50 lv (vT t :: st) h kc ks
    | _ => False) := rfl
theorem g43_50  : mm_step (mm_rw mr_43) (some .int) tb call Q C 50 lv st h kc ks = (match mm_rd lv 4 with
    | some (.inl a) => C 52 lv (vI a :: st) h kc ks
    | _ => False) := rfl
theorem g43_52  : mm_step (mm_rw mr_43) (some .int) tb call Q C 52 lv st h kc ks = (match mm_rd lv 1 with
    | some (.inl a) => C 53 lv (vI a :: st) h kc ks
    | _ => False) := rfl
theorem g43_53  : mm_step (mm_rw mr_43) (some .int) tb call Q C 53 lv st h kc ks = ((match (st.take 3).reverse with
    | .inr (.inr (.inl (some k))) :: _ => (match h.2 k with
      | some (.inr (.inr (ci, _))) => mm_cn ci = (mm_mi 42).1.cls
      | _ => False)
    | _ => False) ∧ mm_call call C 42 3 53 lv st h kc ks) := rfl
theorem g43_56  : mm_step (mm_rw mr_43) (some .int) tb call Q C 56 lv st h kc ks = (match mm_rd lv 4 with
    | some (.inl a) => C 58 lv (vI a :: st) h kc ks
    | _ => False) := rfl
theorem g43_58 (v : Int32) : mm_step (mm_rw mr_43) (some .int) tb call Q C 58 lv [.inl v] h kc ks = (True ∧ Q (some (vI v)) h) := rfl
end G43

abbrev sp_44 : List Nat := [6, 9, 23]
section G44
variable {tb : Nat → Nat × (Nat → Int32)} {call : CO} {Q : AQ} {C : CP} {lv : AL} {st : List AV} {h : AH} {kc ks : Nat}
theorem g44_0  : mm_step (mm_rw mr_44) (some .int) tb call Q C 0 lv st h kc ks = (match mm_rd lv 0 with
    | some (.inr (.inr (.inl (some k)))) => C 1 lv (vR k :: st) h kc ks
    | some (.inr (.inr (.inr t))) => C 1 lv (vT t :: st) h kc ks
    | _ => False) := rfl
theorem g44_1  : mm_step (mm_rw mr_44) (some .int) tb call Q C 1 lv st h kc ks = (match mm_rd lv 0 with
    | some (.inr (.inr (.inl (some k)))) => C 2 lv (vR k :: st) h kc ks
    | some (.inr (.inr (.inr t))) => C 2 lv (vT t :: st) h kc ks
    | _ => False) := rfl
theorem g44_2  : mm_step (mm_rw mr_44) (some .int) tb call Q C 2 lv st h kc ks = (match mm_rd lv 1 with
    | some (.inl a) => C 3 lv (vI a :: st) h kc ks
    | _ => False) := rfl
theorem g44_3  : mm_step (mm_rw mr_44) (some .int) tb call Q C 3 lv st h kc ks = ((match (st.take 2).reverse with
    | .inr (.inr (.inl (some k))) :: _ => (match h.2 k with
      | some (.inr (.inr (ci, _))) => mm_cn ci = (mm_mi 40).1.cls
      | _ => False)
    | _ => False) ∧ mm_call call C 40 2 3 lv st h kc ks) := rfl
theorem g44_6  : mm_step (mm_rw mr_44) (some .int) tb call Q C 6 lv st h kc ks = ((match (st.take 2).reverse with
    | .inr (.inr (.inl (some k))) :: _ => (match h.2 k with
      | some (.inr (.inr (ci, _))) => mm_cn ci = (mm_mi 41).1.cls
      | _ => False)
    | _ => False) ∧ mm_call call C 41 2 6 lv st h kc ks) := rfl
theorem g44_9 (a : Int32) : mm_step (mm_rw mr_44) (some .int) tb call Q C 9 lv (.inl a :: st) h kc ks = (C 10 (mm_st1 lv 3 (vI a)) st h kc ks) := rfl
theorem g44_10  : mm_step (mm_rw mr_44) (some .int) tb call Q C 10 lv st h kc ks = (match mm_rd lv 3 with
    | some (.inl a) => C 11 lv (vI a :: st) h kc ks
    | _ => False) := rfl
theorem g44_11  : mm_step (mm_rw mr_44) (some .int) tb call Q C 11 lv st h kc ks = (C 13 lv (vI (mI 9) :: st) h kc ks) := rfl
theorem g44_13 (a b : Int32) : mm_step (mm_rw mr_44) (some .int) tb call Q C 13 lv (.inl b :: .inl a :: st) h kc ks = ((a = b → C 24 lv st h kc ks) ∧ (¬ a = b → C 16 lv st h kc ks)) := rfl
theorem g44_16  : mm_step (mm_rw mr_44) (some .int) tb call Q C 16 lv st h kc ks = (match mm_rd lv 0 with
    | some (.inr (.inr (.inl (some k)))) => C 17 lv (vR k :: st) h kc ks
    | some (.inr (.inr (.inr t))) => C 17 lv (vT t :: st) h kc ks
    | _ => False) := rfl
theorem g44_17  : mm_step (mm_rw mr_44) (some .int) tb call Q C 17 lv st h kc ks = (match mm_rd lv 3 with
    | some (.inl a) => C 18 lv (vI a :: st) h kc ks
    | _ => False) := rfl
theorem g44_18  : mm_step (mm_rw mr_44) (some .int) tb call Q C 18 lv st h kc ks = (match mm_rd lv 1 with
    | some (.inl a) => C 19 lv (vI a :: st) h kc ks
    | _ => False) := rfl
theorem g44_19  : mm_step (mm_rw mr_44) (some .int) tb call Q C 19 lv st h kc ks = (match mm_rd lv 2 with
    | some (.inl a) => C 20 lv (vI a :: st) h kc ks
    | _ => False) := rfl
theorem g44_20  : mm_step (mm_rw mr_44) (some .int) tb call Q C 20 lv st h kc ks = ((match (st.take 4).reverse with
    | .inr (.inr (.inl (some k))) :: _ => (match h.2 k with
      | some (.inr (.inr (ci, _))) => mm_cn ci = (mm_mi 43).1.cls
      | _ => False)
    | _ => False) ∧ mm_call call C 43 4 20 lv st h kc ks) := rfl
theorem g44_23 (v : AV) : mm_step (mm_rw mr_44) (some .int) tb call Q C 23 lv (v :: st) h kc ks = (mm_c2 v = false ∧ C 24 lv st h kc ks) := rfl
theorem g44_24  : mm_step (mm_rw mr_44) (some .int) tb call Q C 24 lv st h kc ks = (match mm_rd lv 3 with
    | some (.inl a) => C 25 lv (vI a :: st) h kc ks
    | _ => False) := rfl
theorem g44_25 (v : Int32) : mm_step (mm_rw mr_44) (some .int) tb call Q C 25 lv [.inl v] h kc ks = (True ∧ Q (some (vI v)) h) := rfl
end G44

section ROW
variable {tb : Nat → Nat × (Nat → Int32)} {d : Nat} {h : AH} {r b : Nat} {xs : List Nat}
theorem c_placeOf (hx : Rw h r b xs) {v : Nat} (hv : v < 2 ^ 31) : WM tb (d + 1) k_Row_placeOf [vR r, vI (nI v)] h 0 0 (fun z h' => z = some (vI (lPl xs v)) ∧ h' = h) := by
  obtain ⟨f, hr, hb, hl, hs, hf⟩ := hx
  have key : ∀ n k, n = xs.length - k → k ≤ xs.length → (∀ j, j < k → xs.getD j 0 ≠ v) → WP (mm_rw mr_37) (some .int) tb (WM tb d) (fun z h' => z = some (vI (lPl xs v)) ∧ h' = h) 2 [(0, vR r), (1, vI (nI v)), (2, vI (nI k))] [] h 0 0 := by
    intro n
    induction n with
    | zero =>
      intro k hn hk hj
      (try simp only [Option.toList_some, Option.toList_none, List.nil_append, List.append_nil, List.cons_append, Nat.sub_zero, Nat.sub_self, Nat.zero_sub]); refine Go.wp sp_37 200 ?_; simp only [↓g37_0, ↓g37_1, ↓g37_2, ↓g37_3, ↓g37_4, ↓g37_7, ↓g37_10, ↓g37_11, ↓g37_14, ↓g37_15, ↓g37_15t, ↓g37_16, ↓g37_17, ↓g37_20, ↓g37_21, ↓g37_22, ↓g37_25, ↓g37_28, ↓g37_30, ↓Go_s, ↓GoC_a, ↓reduceIte, ↓mm_call_eq, ↓mmw_nil, ↓mmw_cons, List.take_succ_cons, List.take_zero, List.take_nil, List.drop_succ_cons, List.drop_zero, List.drop_nil, List.reverse_cons, List.reverse_nil, List.nil_append, List.cons_append, List.append_nil, Option.toList_some, Option.toList_none, Nat.sub_zero, Nat.le_refl, mmr_cons, mm_st1, mm_st2, mmi_nil, mmi_cons, mmc_I, mmc_L, mmc_R, mmu_get, mmu_one, mma_get, mma_one, List.filter_cons, List.filter_nil, List.contains_cons, List.contains_nil, Nat.reduceBEq, Nat.reduceAdd, Nat.reduceLT, Nat.reduceSub, Nat.reduceLeDiff, Nat.reduceEqDiff, Int32.reduceAdd, Bool.not_true, Bool.not_false, Bool.and_true, Bool.true_and, Bool.and_false, Bool.false_and, Bool.or_false, Bool.false_or, Bool.or_true, Bool.true_or, if_true, if_false, ite_true, ite_false, Bool.false_eq_true, List.getElem?_cons_zero, List.getElem?_cons_succ, List.length_cons, List.length_nil, true_and, and_true, List.set_cons_zero, List.set_cons_succ, Fin.isValue, Fin.val_zero, Fin.val_one, Fin.val_two, Fin.reduceFinMk, Nat.zero_add, hr, hb]
      have e : k = xs.length := by omega
      subst e
      refine ⟨fun _ => ?_, fun c => absurd (Int32.le_refl _) c⟩
      rw [lPl_out]
      intro hm
      exact hj _ (idx_lt hm) (idx_get hm)
    | succ n ih =>
      intro k hn hk hj
      have hk' : k < xs.length := by omega
      (try simp only [Option.toList_some, Option.toList_none, List.nil_append, List.append_nil, List.cons_append, Nat.sub_zero, Nat.sub_self, Nat.zero_sub]); refine Go.wp sp_37 200 ?_; simp only [↓g37_0, ↓g37_1, ↓g37_2, ↓g37_3, ↓g37_4, ↓g37_7, ↓g37_10, ↓g37_11, ↓g37_14, ↓g37_15, ↓g37_15t, ↓g37_16, ↓g37_17, ↓g37_20, ↓g37_21, ↓g37_22, ↓g37_25, ↓g37_28, ↓g37_30, ↓Go_s, ↓GoC_a, ↓reduceIte, ↓mm_call_eq, ↓mmw_nil, ↓mmw_cons, List.take_succ_cons, List.take_zero, List.take_nil, List.drop_succ_cons, List.drop_zero, List.drop_nil, List.reverse_cons, List.reverse_nil, List.nil_append, List.cons_append, List.append_nil, Option.toList_some, Option.toList_none, Nat.sub_zero, Nat.le_refl, mmr_cons, mm_st1, mm_st2, mmi_nil, mmi_cons, mmc_I, mmc_L, mmc_R, mmu_get, mmu_one, mma_get, mma_one, List.filter_cons, List.filter_nil, List.contains_cons, List.contains_nil, Nat.reduceBEq, Nat.reduceAdd, Nat.reduceLT, Nat.reduceSub, Nat.reduceLeDiff, Nat.reduceEqDiff, Int32.reduceAdd, Bool.not_true, Bool.not_false, Bool.and_true, Bool.true_and, Bool.and_false, Bool.false_and, Bool.or_false, Bool.false_or, Bool.or_true, Bool.true_or, if_true, if_false, ite_true, ite_false, Bool.false_eq_true, List.getElem?_cons_zero, List.getElem?_cons_succ, List.length_cons, List.length_nil, true_and, and_true, List.set_cons_zero, List.set_cons_succ, Fin.isValue, Fin.val_zero, Fin.val_one, Fin.val_two, Fin.reduceFinMk, Nat.zero_add, hr, hb]
      refine ⟨fun c => absurd c (nI_ge hk' (by omega)), fun _ => ⟨vp_in_nI (by omega) (by omega), ?_⟩⟩
      rw [nI_clamp (by omega), hf k hk', nI_1]
      have hb8 : xs.getD k 0 < 8 := hs _ (getD_mem hk')
      refine ⟨fun c => ih (k + 1) (by omega) hk' (fun j hj' => ?_), fun c => ?_⟩
      · rcases Nat.lt_or_ge j k with q | q
        · exact hj j q
        · have : j = k := by omega
          subst this
          intro e
          exact c (by rw [e])
      · have e := (nI_eq (by omega) hv).mp c
        obtain ⟨m1, m2⟩ := lPl_hit xs k hk' e hj
        rw [lPl_in m1, m2]
  refine WM.of mi_37 rfl rfl (Nat.le_of_ble_eq_true rfl) ?_
  show WP (mm_rw mr_37) (some .int) tb (WM tb d) _ 0 [(0, vR r), (1, vI (nI v))] [] h 0 0
  (try simp only [Option.toList_some, Option.toList_none, List.nil_append, List.append_nil, List.cons_append, Nat.sub_zero, Nat.sub_self, Nat.zero_sub]); refine Go.wp sp_37 200 ?_; simp only [↓g37_0, ↓g37_1, ↓g37_2, ↓g37_3, ↓g37_4, ↓g37_7, ↓g37_10, ↓g37_11, ↓g37_14, ↓g37_15, ↓g37_15t, ↓g37_16, ↓g37_17, ↓g37_20, ↓g37_21, ↓g37_22, ↓g37_25, ↓g37_28, ↓g37_30, ↓Go_s, ↓GoC_a, ↓reduceIte, ↓mm_call_eq, ↓mmw_nil, ↓mmw_cons, List.take_succ_cons, List.take_zero, List.take_nil, List.drop_succ_cons, List.drop_zero, List.drop_nil, List.reverse_cons, List.reverse_nil, List.nil_append, List.cons_append, List.append_nil, Option.toList_some, Option.toList_none, Nat.sub_zero, Nat.le_refl, mmr_cons, mm_st1, mm_st2, mmi_nil, mmi_cons, mmc_I, mmc_L, mmc_R, mmu_get, mmu_one, mma_get, mma_one, List.filter_cons, List.filter_nil, List.contains_cons, List.contains_nil, Nat.reduceBEq, Nat.reduceAdd, Nat.reduceLT, Nat.reduceSub, Nat.reduceLeDiff, Nat.reduceEqDiff, Int32.reduceAdd, Bool.not_true, Bool.not_false, Bool.and_true, Bool.true_and, Bool.and_false, Bool.false_and, Bool.or_false, Bool.false_or, Bool.or_true, Bool.true_or, if_true, if_false, ite_true, ite_false, Bool.false_eq_true, List.getElem?_cons_zero, List.getElem?_cons_succ, List.length_cons, List.length_nil, true_and, and_true, List.set_cons_zero, List.set_cons_succ, Fin.isValue, Fin.val_zero, Fin.val_one, Fin.val_two, Fin.reduceFinMk, Nat.zero_add, hr, hb]
  exact key _ 0 rfl (Nat.zero_le _) (fun j hj => absurd hj (Nat.not_lt_zero _))
theorem c_rightOf (hx : Rw h r b xs) {p : Nat} (hp : p < xs.length) : WM tb (d + 1) k_Row_rightOf [vR r, vI (nI p)] h 0 0 (fun z h' => z = some (vI (nI ((p + 1) % xs.length))) ∧ h' = h) := by
  obtain ⟨f, hr, hb, hl, hs, hf⟩ := hx
  refine WM.of mi_38 rfl rfl (Nat.le_of_ble_eq_true rfl) ?_
  show WP (mm_rw mr_38) (some .int) tb (WM tb d) _ 0 [(0, vR r), (1, vI (nI p))] [] h 0 0
  (try simp only [Option.toList_some, Option.toList_none, List.nil_append, List.append_nil, List.cons_append, Nat.sub_zero, Nat.sub_self, Nat.zero_sub]); refine Go.wp sp_38 200 ?_; simp only [↓g38_0, ↓g38_1, ↓g38_2, ↓g38_3, ↓g38_4, ↓g38_7, ↓g38_10, ↓g38_11, ↓g38_12, ↓g38_13, ↓g38_16, ↓g38_17, ↓Go_s, ↓GoC_a, ↓reduceIte, ↓mm_call_eq, ↓mmw_nil, ↓mmw_cons, List.take_succ_cons, List.take_zero, List.take_nil, List.drop_succ_cons, List.drop_zero, List.drop_nil, List.reverse_cons, List.reverse_nil, List.nil_append, List.cons_append, List.append_nil, Option.toList_some, Option.toList_none, Nat.sub_zero, Nat.le_refl, mmr_cons, mm_st1, mm_st2, mmi_nil, mmi_cons, mmc_I, mmc_L, mmc_R, mmu_get, mmu_one, mma_get, mma_one, List.filter_cons, List.filter_nil, List.contains_cons, List.contains_nil, Nat.reduceBEq, Nat.reduceAdd, Nat.reduceLT, Nat.reduceSub, Nat.reduceLeDiff, Nat.reduceEqDiff, Int32.reduceAdd, Bool.not_true, Bool.not_false, Bool.and_true, Bool.true_and, Bool.and_false, Bool.false_and, Bool.or_false, Bool.false_or, Bool.or_true, Bool.true_or, if_true, if_false, ite_true, ite_false, Bool.false_eq_true, List.getElem?_cons_zero, List.getElem?_cons_succ, List.length_cons, List.length_nil, true_and, and_true, List.set_cons_zero, List.set_cons_succ, Fin.isValue, Fin.val_zero, Fin.val_one, Fin.val_two, Fin.reduceFinMk, Nat.zero_add, hr, hb]
  rw [nI_1]
  refine ⟨fun c => ?_, fun c => ?_⟩
  · have e : p + 1 = xs.length := by
      rcases Nat.lt_or_ge (p + 1) xs.length with q | q
      · exact absurd c (nI_ge q (by omega))
      · omega
    rw [e, Nat.mod_self]
    rfl
  · have e : p + 1 < xs.length := by
      rcases Nat.lt_or_ge (p + 1) xs.length with q | q
      · exact q
      · exact absurd (nI_le q (by omega)) c
    rw [Nat.mod_eq_of_lt e]
theorem c_leftOf (hx : Rw h r b xs) {p : Nat} (hp : p < xs.length) : WM tb (d + 1) k_Row_leftOf [vR r, vI (nI p)] h 0 0 (fun z h' => z = some (vI (nI ((p + xs.length - 1) % xs.length))) ∧ h' = h) := by
  obtain ⟨f, hr, hb, hl, hs, hf⟩ := hx
  refine WM.of mi_39 rfl rfl (Nat.le_of_ble_eq_true rfl) ?_
  show WP (mm_rw mr_39) (some .int) tb (WM tb d) _ 0 [(0, vR r), (1, vI (nI p))] [] h 0 0
  (try simp only [Option.toList_some, Option.toList_none, List.nil_append, List.append_nil, List.cons_append, Nat.sub_zero, Nat.sub_self, Nat.zero_sub]); refine Go.wp sp_39 200 ?_; simp only [↓g39_0, ↓g39_1, ↓g39_4, ↓g39_5, ↓g39_6, ↓g39_7, ↓g39_10, ↓g39_11, ↓g39_14, ↓g39_15, ↓g39_16, ↓Go_s, ↓GoC_a, ↓reduceIte, ↓mm_call_eq, ↓mmw_nil, ↓mmw_cons, List.take_succ_cons, List.take_zero, List.take_nil, List.drop_succ_cons, List.drop_zero, List.drop_nil, List.reverse_cons, List.reverse_nil, List.nil_append, List.cons_append, List.append_nil, Option.toList_some, Option.toList_none, Nat.sub_zero, Nat.le_refl, mmr_cons, mm_st1, mm_st2, mmi_nil, mmi_cons, mmc_I, mmc_L, mmc_R, mmu_get, mmu_one, mma_get, mma_one, List.filter_cons, List.filter_nil, List.contains_cons, List.contains_nil, Nat.reduceBEq, Nat.reduceAdd, Nat.reduceLT, Nat.reduceSub, Nat.reduceLeDiff, Nat.reduceEqDiff, Int32.reduceAdd, Bool.not_true, Bool.not_false, Bool.and_true, Bool.true_and, Bool.and_false, Bool.false_and, Bool.or_false, Bool.false_or, Bool.or_true, Bool.true_or, if_true, if_false, ite_true, ite_false, Bool.false_eq_true, List.getElem?_cons_zero, List.getElem?_cons_succ, List.length_cons, List.length_nil, true_and, and_true, List.set_cons_zero, List.set_cons_succ, Fin.isValue, Fin.val_zero, Fin.val_one, Fin.val_two, Fin.reduceFinMk, Nat.zero_add, hr, hb]
  refine ⟨fun c => ?_, fun c => ?_⟩
  · simp (disch := omega) only [lit_0, lit_1, lit_2, lit_3, lit_4, lit_5, lit_6, lit_7, lit_8, lit_9, lit_10, lit_16, lit_40, lit_48, lit_60, lit_67, lit_76, lit_82, lit_99, lit_100, lit_255, lit_508, lit_720, lit_1023, nI_1, nI_add, pk_sub, pk_mul, pk_div, nu_rem2, nI_clamp, nu_m, nu_m', nu_lm, nu_ml, nu_ltm, nu_mlt, nu_mm, nu_dec, nu_in, nu_le, nu_lt, nu_eq, true_and, and_true, false_imp_iff, true_imp_iff, not_true_eq_false, not_false_eq_true, Nat.not_lt_zero, Nat.zero_le, Nat.le_refl, Nat.lt_irrefl, Nat.reduceEqDiff, Nat.reduceLT, Nat.reduceLeDiff, Nat.reduceAdd, Nat.reduceSub, Nat.reduceMul, Nat.reduceMod, Nat.reduceDiv, Nat.one_ne_zero, Nat.zero_ne_one, ft_0_0, ft_0_1, ft_0_2, ft_0_3, ft_0_4, ft_1_0, ft_1_1, ft_1_2, ft_2_0, ft_2_1, ft_2_2, ft_2_3, ft_2_4, ft_2_5, ft_2_6, ft_2_7, ft_2_8, ft_2_9, ft_2_10, ft_3_0, ft_3_1, ft_3_2, ft_3_3, ft_4_0, ft_4_1, ft_4_2, ft_4_3, ft_4_4, ft_4_5, ft_4_6, ft_5_0, ft_5_1, ft_6_0, ft_6_1, ft_6_2, ft_6_3, ft_6_4, ft_6_5, ft_6_6, ft_7_0, ft_7_1, ft_7_2, ft_7_3, ft_7_4, ft_7_5, ft_7_6, ft_7_7, ft_7_8, ft_7_9, ft_7_10, ft_7_11, ft_7_12, ft_7_13, ft_8_0, ft_8_1, ft_8_2, ft_8_3, ft_8_4, ft_8_5, ft_8_6, ft_8_7, ft_8_8, ft_8_9, ft_8_10, ft_8_11, ft_8_12, ft_8_13, ft_8_14, ft_8_15, ft_8_16, ft_8_17, ft_8_18, ft_8_19, ft_8_20, ft_8_21, ft_8_22, ft_8_23, ft_8_24, ft_8_25, ft_8_26, ft_8_27, ft_8_28, ft_8_29, ft_8_30, ft_8_31, ft_8_32, ft_8_33, ft_8_34, ft_8_35, ft_8_36, ft_8_37, ft_8_38, ft_8_39, ft_8_40, ft_8_41, nu_fitI, nu_fitL, nu_fitO, nu_fitA, nu_fitB0, nu_fitB1] at c
    have e : p = 0 := by omega
    simp (disch := omega) only [lit_0, lit_1, lit_2, lit_3, lit_4, lit_5, lit_6, lit_7, lit_8, lit_9, lit_10, lit_16, lit_40, lit_48, lit_60, lit_67, lit_76, lit_82, lit_99, lit_100, lit_255, lit_508, lit_720, lit_1023, nI_1, nI_add, pk_sub, pk_mul, pk_div, nu_rem2, nI_clamp, nu_m, nu_m', nu_lm, nu_ml, nu_ltm, nu_mlt, nu_mm, nu_dec, nu_in, nu_le, nu_lt, nu_eq, true_and, and_true, false_imp_iff, true_imp_iff, not_true_eq_false, not_false_eq_true, Nat.not_lt_zero, Nat.zero_le, Nat.le_refl, Nat.lt_irrefl, Nat.reduceEqDiff, Nat.reduceLT, Nat.reduceLeDiff, Nat.reduceAdd, Nat.reduceSub, Nat.reduceMul, Nat.reduceMod, Nat.reduceDiv, Nat.one_ne_zero, Nat.zero_ne_one, ft_0_0, ft_0_1, ft_0_2, ft_0_3, ft_0_4, ft_1_0, ft_1_1, ft_1_2, ft_2_0, ft_2_1, ft_2_2, ft_2_3, ft_2_4, ft_2_5, ft_2_6, ft_2_7, ft_2_8, ft_2_9, ft_2_10, ft_3_0, ft_3_1, ft_3_2, ft_3_3, ft_4_0, ft_4_1, ft_4_2, ft_4_3, ft_4_4, ft_4_5, ft_4_6, ft_5_0, ft_5_1, ft_6_0, ft_6_1, ft_6_2, ft_6_3, ft_6_4, ft_6_5, ft_6_6, ft_7_0, ft_7_1, ft_7_2, ft_7_3, ft_7_4, ft_7_5, ft_7_6, ft_7_7, ft_7_8, ft_7_9, ft_7_10, ft_7_11, ft_7_12, ft_7_13, ft_8_0, ft_8_1, ft_8_2, ft_8_3, ft_8_4, ft_8_5, ft_8_6, ft_8_7, ft_8_8, ft_8_9, ft_8_10, ft_8_11, ft_8_12, ft_8_13, ft_8_14, ft_8_15, ft_8_16, ft_8_17, ft_8_18, ft_8_19, ft_8_20, ft_8_21, ft_8_22, ft_8_23, ft_8_24, ft_8_25, ft_8_26, ft_8_27, ft_8_28, ft_8_29, ft_8_30, ft_8_31, ft_8_32, ft_8_33, ft_8_34, ft_8_35, ft_8_36, ft_8_37, ft_8_38, ft_8_39, ft_8_40, ft_8_41, nu_fitI, nu_fitL, nu_fitO, nu_fitA, nu_fitB0, nu_fitB1]
    rw [e, Nat.zero_add, Nat.mod_eq_of_lt (by omega)]
  · simp (disch := omega) only [lit_0, lit_1, lit_2, lit_3, lit_4, lit_5, lit_6, lit_7, lit_8, lit_9, lit_10, lit_16, lit_40, lit_48, lit_60, lit_67, lit_76, lit_82, lit_99, lit_100, lit_255, lit_508, lit_720, lit_1023, nI_1, nI_add, pk_sub, pk_mul, pk_div, nu_rem2, nI_clamp, nu_m, nu_m', nu_lm, nu_ml, nu_ltm, nu_mlt, nu_mm, nu_dec, nu_in, nu_le, nu_lt, nu_eq, true_and, and_true, false_imp_iff, true_imp_iff, not_true_eq_false, not_false_eq_true, Nat.not_lt_zero, Nat.zero_le, Nat.le_refl, Nat.lt_irrefl, Nat.reduceEqDiff, Nat.reduceLT, Nat.reduceLeDiff, Nat.reduceAdd, Nat.reduceSub, Nat.reduceMul, Nat.reduceMod, Nat.reduceDiv, Nat.one_ne_zero, Nat.zero_ne_one, ft_0_0, ft_0_1, ft_0_2, ft_0_3, ft_0_4, ft_1_0, ft_1_1, ft_1_2, ft_2_0, ft_2_1, ft_2_2, ft_2_3, ft_2_4, ft_2_5, ft_2_6, ft_2_7, ft_2_8, ft_2_9, ft_2_10, ft_3_0, ft_3_1, ft_3_2, ft_3_3, ft_4_0, ft_4_1, ft_4_2, ft_4_3, ft_4_4, ft_4_5, ft_4_6, ft_5_0, ft_5_1, ft_6_0, ft_6_1, ft_6_2, ft_6_3, ft_6_4, ft_6_5, ft_6_6, ft_7_0, ft_7_1, ft_7_2, ft_7_3, ft_7_4, ft_7_5, ft_7_6, ft_7_7, ft_7_8, ft_7_9, ft_7_10, ft_7_11, ft_7_12, ft_7_13, ft_8_0, ft_8_1, ft_8_2, ft_8_3, ft_8_4, ft_8_5, ft_8_6, ft_8_7, ft_8_8, ft_8_9, ft_8_10, ft_8_11, ft_8_12, ft_8_13, ft_8_14, ft_8_15, ft_8_16, ft_8_17, ft_8_18, ft_8_19, ft_8_20, ft_8_21, ft_8_22, ft_8_23, ft_8_24, ft_8_25, ft_8_26, ft_8_27, ft_8_28, ft_8_29, ft_8_30, ft_8_31, ft_8_32, ft_8_33, ft_8_34, ft_8_35, ft_8_36, ft_8_37, ft_8_38, ft_8_39, ft_8_40, ft_8_41, nu_fitI, nu_fitL, nu_fitO, nu_fitA, nu_fitB0, nu_fitB1] at c
    simp (disch := omega) only [lit_0, lit_1, lit_2, lit_3, lit_4, lit_5, lit_6, lit_7, lit_8, lit_9, lit_10, lit_16, lit_40, lit_48, lit_60, lit_67, lit_76, lit_82, lit_99, lit_100, lit_255, lit_508, lit_720, lit_1023, nI_1, nI_add, pk_sub, pk_mul, pk_div, nu_rem2, nI_clamp, nu_m, nu_m', nu_lm, nu_ml, nu_ltm, nu_mlt, nu_mm, nu_dec, nu_in, nu_le, nu_lt, nu_eq, true_and, and_true, false_imp_iff, true_imp_iff, not_true_eq_false, not_false_eq_true, Nat.not_lt_zero, Nat.zero_le, Nat.le_refl, Nat.lt_irrefl, Nat.reduceEqDiff, Nat.reduceLT, Nat.reduceLeDiff, Nat.reduceAdd, Nat.reduceSub, Nat.reduceMul, Nat.reduceMod, Nat.reduceDiv, Nat.one_ne_zero, Nat.zero_ne_one, ft_0_0, ft_0_1, ft_0_2, ft_0_3, ft_0_4, ft_1_0, ft_1_1, ft_1_2, ft_2_0, ft_2_1, ft_2_2, ft_2_3, ft_2_4, ft_2_5, ft_2_6, ft_2_7, ft_2_8, ft_2_9, ft_2_10, ft_3_0, ft_3_1, ft_3_2, ft_3_3, ft_4_0, ft_4_1, ft_4_2, ft_4_3, ft_4_4, ft_4_5, ft_4_6, ft_5_0, ft_5_1, ft_6_0, ft_6_1, ft_6_2, ft_6_3, ft_6_4, ft_6_5, ft_6_6, ft_7_0, ft_7_1, ft_7_2, ft_7_3, ft_7_4, ft_7_5, ft_7_6, ft_7_7, ft_7_8, ft_7_9, ft_7_10, ft_7_11, ft_7_12, ft_7_13, ft_8_0, ft_8_1, ft_8_2, ft_8_3, ft_8_4, ft_8_5, ft_8_6, ft_8_7, ft_8_8, ft_8_9, ft_8_10, ft_8_11, ft_8_12, ft_8_13, ft_8_14, ft_8_15, ft_8_16, ft_8_17, ft_8_18, ft_8_19, ft_8_20, ft_8_21, ft_8_22, ft_8_23, ft_8_24, ft_8_25, ft_8_26, ft_8_27, ft_8_28, ft_8_29, ft_8_30, ft_8_31, ft_8_32, ft_8_33, ft_8_34, ft_8_35, ft_8_36, ft_8_37, ft_8_38, ft_8_39, ft_8_40, ft_8_41, nu_fitI, nu_fitL, nu_fitO, nu_fitA, nu_fitB0, nu_fitB1]
    rw [show p + xs.length - 1 = (p - 1) + xs.length by omega, Nat.add_mod_right, Nat.mod_eq_of_lt (by omega)]
theorem c_bookAt (hx : Rw h r b xs) (x : Int32) : WM tb (d + 1) k_Row_bookAt [vR r, vI x] h 0 0 (fun z h' => z = some (vI (if 0 ≤ x ∧ x < nI xs.length then nI (xs.getD x.toNatClampNeg 0) else mI 9)) ∧ h' = h) := by
  obtain ⟨f, hr, hb, hl, hs, hf⟩ := hx
  refine WM.of mi_36 rfl rfl (Nat.le_of_ble_eq_true rfl) ?_
  show WP (mm_rw mr_36) (some .int) tb (WM tb d) _ 0 [(0, vR r), (1, vI x)] [] h 0 0
  (try simp only [Option.toList_some, Option.toList_none, List.nil_append, List.append_nil, List.cons_append, Nat.sub_zero, Nat.sub_self, Nat.zero_sub]); refine Go.wp sp_36 200 ?_; simp only [↓g36_0, ↓g36_1, ↓g36_4, ↓g36_5, ↓g36_6, ↓g36_9, ↓g36_12, ↓g36_13, ↓g36_16, ↓g36_17, ↓g36_17t, ↓g36_18, ↓g36_21, ↓g36_23, ↓Go_s, ↓GoC_a, ↓reduceIte, ↓mm_call_eq, ↓mmw_nil, ↓mmw_cons, List.take_succ_cons, List.take_zero, List.take_nil, List.drop_succ_cons, List.drop_zero, List.drop_nil, List.reverse_cons, List.reverse_nil, List.nil_append, List.cons_append, List.append_nil, Option.toList_some, Option.toList_none, Nat.sub_zero, Nat.le_refl, mmr_cons, mm_st1, mm_st2, mmi_nil, mmi_cons, mmc_I, mmc_L, mmc_R, mmu_get, mmu_one, mma_get, mma_one, List.filter_cons, List.filter_nil, List.contains_cons, List.contains_nil, Nat.reduceBEq, Nat.reduceAdd, Nat.reduceLT, Nat.reduceSub, Nat.reduceLeDiff, Nat.reduceEqDiff, Int32.reduceAdd, Bool.not_true, Bool.not_false, Bool.and_true, Bool.true_and, Bool.and_false, Bool.false_and, Bool.or_false, Bool.false_or, Bool.or_true, Bool.true_or, if_true, if_false, ite_true, ite_false, Bool.false_eq_true, List.getElem?_cons_zero, List.getElem?_cons_succ, List.length_cons, List.length_nil, true_and, and_true, List.set_cons_zero, List.set_cons_succ, Fin.isValue, Fin.val_zero, Fin.val_one, Fin.val_two, Fin.reduceFinMk, Nat.zero_add, hr, hb]
  refine ⟨fun c => ?_, fun c => ⟨fun c2 => ?_, fun c2 => ?_⟩⟩
  · rw [if_neg (fun q => Int32.not_le.mpr c q.1)]
  · rw [if_neg (fun q => Int32.not_le.mpr q.2 c2)]
  · rw [if_pos ⟨Int32.not_lt.mp c, Int32.not_le.mp c2⟩]
    obtain ⟨j, hj, rfl⟩ := nI_of c
    simp (disch := omega) only [lit_0, lit_1, lit_2, lit_3, lit_4, lit_5, lit_6, lit_7, lit_8, lit_9, lit_10, lit_16, lit_40, lit_48, lit_60, lit_67, lit_76, lit_82, lit_99, lit_100, lit_255, lit_508, lit_720, lit_1023, nI_1, nI_add, pk_sub, pk_mul, pk_div, nu_rem2, nI_clamp, nu_m, nu_m', nu_lm, nu_ml, nu_ltm, nu_mlt, nu_mm, nu_dec, nu_in, nu_le, nu_lt, nu_eq, true_and, and_true, false_imp_iff, true_imp_iff, not_true_eq_false, not_false_eq_true, Nat.not_lt_zero, Nat.zero_le, Nat.le_refl, Nat.lt_irrefl, Nat.reduceEqDiff, Nat.reduceLT, Nat.reduceLeDiff, Nat.reduceAdd, Nat.reduceSub, Nat.reduceMul, Nat.reduceMod, Nat.reduceDiv, Nat.one_ne_zero, Nat.zero_ne_one, ft_0_0, ft_0_1, ft_0_2, ft_0_3, ft_0_4, ft_1_0, ft_1_1, ft_1_2, ft_2_0, ft_2_1, ft_2_2, ft_2_3, ft_2_4, ft_2_5, ft_2_6, ft_2_7, ft_2_8, ft_2_9, ft_2_10, ft_3_0, ft_3_1, ft_3_2, ft_3_3, ft_4_0, ft_4_1, ft_4_2, ft_4_3, ft_4_4, ft_4_5, ft_4_6, ft_5_0, ft_5_1, ft_6_0, ft_6_1, ft_6_2, ft_6_3, ft_6_4, ft_6_5, ft_6_6, ft_7_0, ft_7_1, ft_7_2, ft_7_3, ft_7_4, ft_7_5, ft_7_6, ft_7_7, ft_7_8, ft_7_9, ft_7_10, ft_7_11, ft_7_12, ft_7_13, ft_8_0, ft_8_1, ft_8_2, ft_8_3, ft_8_4, ft_8_5, ft_8_6, ft_8_7, ft_8_8, ft_8_9, ft_8_10, ft_8_11, ft_8_12, ft_8_13, ft_8_14, ft_8_15, ft_8_16, ft_8_17, ft_8_18, ft_8_19, ft_8_20, ft_8_21, ft_8_22, ft_8_23, ft_8_24, ft_8_25, ft_8_26, ft_8_27, ft_8_28, ft_8_29, ft_8_30, ft_8_31, ft_8_32, ft_8_33, ft_8_34, ft_8_35, ft_8_36, ft_8_37, ft_8_38, ft_8_39, ft_8_40, ft_8_41, nu_fitI, nu_fitL, nu_fitO, nu_fitA, nu_fitB0, nu_fitB1] at c2
    simp (disch := omega) only [lit_0, lit_1, lit_2, lit_3, lit_4, lit_5, lit_6, lit_7, lit_8, lit_9, lit_10, lit_16, lit_40, lit_48, lit_60, lit_67, lit_76, lit_82, lit_99, lit_100, lit_255, lit_508, lit_720, lit_1023, nI_1, nI_add, pk_sub, pk_mul, pk_div, nu_rem2, nI_clamp, nu_m, nu_m', nu_lm, nu_ml, nu_ltm, nu_mlt, nu_mm, nu_dec, nu_in, nu_le, nu_lt, nu_eq, true_and, and_true, false_imp_iff, true_imp_iff, not_true_eq_false, not_false_eq_true, Nat.not_lt_zero, Nat.zero_le, Nat.le_refl, Nat.lt_irrefl, Nat.reduceEqDiff, Nat.reduceLT, Nat.reduceLeDiff, Nat.reduceAdd, Nat.reduceSub, Nat.reduceMul, Nat.reduceMod, Nat.reduceDiv, Nat.one_ne_zero, Nat.zero_ne_one, ft_0_0, ft_0_1, ft_0_2, ft_0_3, ft_0_4, ft_1_0, ft_1_1, ft_1_2, ft_2_0, ft_2_1, ft_2_2, ft_2_3, ft_2_4, ft_2_5, ft_2_6, ft_2_7, ft_2_8, ft_2_9, ft_2_10, ft_3_0, ft_3_1, ft_3_2, ft_3_3, ft_4_0, ft_4_1, ft_4_2, ft_4_3, ft_4_4, ft_4_5, ft_4_6, ft_5_0, ft_5_1, ft_6_0, ft_6_1, ft_6_2, ft_6_3, ft_6_4, ft_6_5, ft_6_6, ft_7_0, ft_7_1, ft_7_2, ft_7_3, ft_7_4, ft_7_5, ft_7_6, ft_7_7, ft_7_8, ft_7_9, ft_7_10, ft_7_11, ft_7_12, ft_7_13, ft_8_0, ft_8_1, ft_8_2, ft_8_3, ft_8_4, ft_8_5, ft_8_6, ft_8_7, ft_8_8, ft_8_9, ft_8_10, ft_8_11, ft_8_12, ft_8_13, ft_8_14, ft_8_15, ft_8_16, ft_8_17, ft_8_18, ft_8_19, ft_8_20, ft_8_21, ft_8_22, ft_8_23, ft_8_24, ft_8_25, ft_8_26, ft_8_27, ft_8_28, ft_8_29, ft_8_30, ft_8_31, ft_8_32, ft_8_33, ft_8_34, ft_8_35, ft_8_36, ft_8_37, ft_8_38, ft_8_39, ft_8_40, ft_8_41, nu_fitI, nu_fitL, nu_fitO, nu_fitA, nu_fitB0, nu_fitB1]
    exact ⟨by omega, by rw [hf j (by omega)]⟩
theorem getD_erase (xs : List Nat) (p j : Nat) : (xs.eraseIdx p).getD j 0 = if j < p then xs.getD j 0 else xs.getD (j + 1) 0 := by
  rw [List.getD_eq_getElem?_getD, List.getElem?_eraseIdx]
  split <;> rw [List.getD_eq_getElem?_getD]
theorem getD_insert (xs : List Nat) (p j v : Nat) (hp : p ≤ xs.length) : (xs.insertIdx p v).getD j 0 = if j < p then xs.getD j 0 else if j = p then v else xs.getD (j - 1) 0 := by
  rw [List.getD_eq_getElem?_getD, List.getElem?_insertIdx]
  split
  · rw [List.getD_eq_getElem?_getD]
  · split
    · rename_i e
      rw [if_pos (by omega)]
      rfl
    · rw [List.getD_eq_getElem?_getD]
theorem c_takeAt (hx : Rw h r b xs) (hne : r ≠ b) {p : Nat} (hp : p < xs.length) : WM tb (d + 1) k_Row_takeAt [vR r, vI (nI p)] h 0 0 (fun z h' => z = some (vI (nI (xs.getD p 0))) ∧ Rw h' r b (xs.eraseIdx p) ∧ FR h h' [r, b]) := by
  obtain ⟨f, hr, hb, hl, hs, hf⟩ := hx
  refine WM.of mi_41 rfl rfl (Nat.le_of_ble_eq_true rfl) ?_
  show WP (mm_rw mr_41) (some .int) tb (WM tb d) _ 0 [(0, vR r), (1, vI (nI p))] [] h 0 0
  (try simp only [Option.toList_some, Option.toList_none, List.nil_append, List.append_nil, List.cons_append, Nat.sub_zero, Nat.sub_self, Nat.zero_sub]); refine Go.wp sp_41 200 ?_; simp only [↓g41_0, ↓g41_1, ↓g41_4, ↓g41_5, ↓g41_6, ↓g41_9, ↓g41_12, ↓g41_14, ↓g41_15, ↓g41_16, ↓g41_19, ↓g41_20, ↓g41_20t, ↓g41_21, ↓g41_22, ↓g41_23, ↓g41_24, ↓g41_27, ↓g41_28, ↓g41_29, ↓g41_32, ↓g41_33, ↓g41_36, ↓g41_37, ↓g41_38, ↓g41_39, ↓g41_40, ↓g41_43, ↓g41_44, ↓g41_45, ↓g41_48, ↓g41_49, ↓g41_50, ↓g41_53, ↓g41_54, ↓Go_s, ↓GoC_a, ↓reduceIte, ↓mm_call_eq, ↓mmw_nil, ↓mmw_cons, List.take_succ_cons, List.take_zero, List.take_nil, List.drop_succ_cons, List.drop_zero, List.drop_nil, List.reverse_cons, List.reverse_nil, List.nil_append, List.cons_append, List.append_nil, Option.toList_some, Option.toList_none, Nat.sub_zero, Nat.le_refl, mmr_cons, mm_st1, mm_st2, mmi_nil, mmi_cons, mmc_I, mmc_L, mmc_R, mmu_get, mmu_one, mma_get, mma_one, List.filter_cons, List.filter_nil, List.contains_cons, List.contains_nil, Nat.reduceBEq, Nat.reduceAdd, Nat.reduceLT, Nat.reduceSub, Nat.reduceLeDiff, Nat.reduceEqDiff, Int32.reduceAdd, Bool.not_true, Bool.not_false, Bool.and_true, Bool.true_and, Bool.and_false, Bool.false_and, Bool.or_false, Bool.false_or, Bool.or_true, Bool.true_or, if_true, if_false, ite_true, ite_false, Bool.false_eq_true, List.getElem?_cons_zero, List.getElem?_cons_succ, List.length_cons, List.length_nil, true_and, and_true, List.set_cons_zero, List.set_cons_succ, Fin.isValue, Fin.val_zero, Fin.val_one, Fin.val_two, Fin.reduceFinMk, Nat.zero_add, hr, hb, hne, hne.symm]
  simp (disch := omega) only [lit_0, lit_1, lit_2, lit_3, lit_4, lit_5, lit_6, lit_7, lit_8, lit_9, lit_10, lit_16, lit_40, lit_48, lit_60, lit_67, lit_76, lit_82, lit_99, lit_100, lit_255, lit_508, lit_720, lit_1023, nI_1, nI_add, pk_sub, pk_mul, pk_div, nu_rem2, nI_clamp, nu_m, nu_m', nu_lm, nu_ml, nu_ltm, nu_mlt, nu_mm, nu_dec, nu_in, nu_le, nu_lt, nu_eq, true_and, and_true, false_imp_iff, true_imp_iff, not_true_eq_false, not_false_eq_true, Nat.not_lt_zero, Nat.zero_le, Nat.le_refl, Nat.lt_irrefl, Nat.reduceEqDiff, Nat.reduceLT, Nat.reduceLeDiff, Nat.reduceAdd, Nat.reduceSub, Nat.reduceMul, Nat.reduceMod, Nat.reduceDiv, Nat.one_ne_zero, Nat.zero_ne_one, ft_0_0, ft_0_1, ft_0_2, ft_0_3, ft_0_4, ft_1_0, ft_1_1, ft_1_2, ft_2_0, ft_2_1, ft_2_2, ft_2_3, ft_2_4, ft_2_5, ft_2_6, ft_2_7, ft_2_8, ft_2_9, ft_2_10, ft_3_0, ft_3_1, ft_3_2, ft_3_3, ft_4_0, ft_4_1, ft_4_2, ft_4_3, ft_4_4, ft_4_5, ft_4_6, ft_5_0, ft_5_1, ft_6_0, ft_6_1, ft_6_2, ft_6_3, ft_6_4, ft_6_5, ft_6_6, ft_7_0, ft_7_1, ft_7_2, ft_7_3, ft_7_4, ft_7_5, ft_7_6, ft_7_7, ft_7_8, ft_7_9, ft_7_10, ft_7_11, ft_7_12, ft_7_13, ft_8_0, ft_8_1, ft_8_2, ft_8_3, ft_8_4, ft_8_5, ft_8_6, ft_8_7, ft_8_8, ft_8_9, ft_8_10, ft_8_11, ft_8_12, ft_8_13, ft_8_14, ft_8_15, ft_8_16, ft_8_17, ft_8_18, ft_8_19, ft_8_20, ft_8_21, ft_8_22, ft_8_23, ft_8_24, ft_8_25, ft_8_26, ft_8_27, ft_8_28, ft_8_29, ft_8_30, ft_8_31, ft_8_32, ft_8_33, ft_8_34, ft_8_35, ft_8_36, ft_8_37, ft_8_38, ft_8_39, ft_8_40, ft_8_41, nu_fitI, nu_fitL, nu_fitO, nu_fitA, nu_fitB0, nu_fitB1, hp]
  refine ⟨by omega, by omega, by omega, by rw [hf p hp], ⟨_, ?_, mmu_get .. |>.trans (if_pos rfl), ?_, fun v hv => hs v (List.mem_of_mem_eraseIdx hv), ?_⟩, (FR.up (by simp)).tr (FR.up (by simp))⟩
  · simp only [mmu_get, hne, if_true, if_false, List.length_eraseIdx_of_lt hp]
  · rw [List.length_eraseIdx_of_lt hp]; omega
  · intro j hj
    rw [List.length_eraseIdx_of_lt hp] at hj
    rw [getD_erase]
    unfold va_cpy
    split
    · rename_i c
      rw [if_neg (by omega), hf _ (by omega)]
      congr 2
      omega
    · rename_i c
      rw [if_pos (by omega), hf _ (by omega)]
theorem c_takeNo (hx : Rw h r b xs) : WM tb (d + 1) k_Row_takeAt [vR r, vI (mI 9)] h 0 0 (fun z h' => z = some (vI (mI 9)) ∧ h' = h) := by
  obtain ⟨f, hr, hb, hl, hs, hf⟩ := hx
  refine WM.of mi_41 rfl rfl (Nat.le_of_ble_eq_true rfl) ?_
  show WP (mm_rw mr_41) (some .int) tb (WM tb d) _ 0 [(0, vR r), (1, vI (mI 9))] [] h 0 0
  (try simp only [Option.toList_some, Option.toList_none, List.nil_append, List.append_nil, List.cons_append, Nat.sub_zero, Nat.sub_self, Nat.zero_sub]); refine Go.wp sp_41 200 ?_; simp only [↓g41_0, ↓g41_1, ↓g41_4, ↓g41_5, ↓g41_6, ↓g41_9, ↓g41_12, ↓g41_14, ↓g41_15, ↓g41_16, ↓g41_19, ↓g41_20, ↓g41_20t, ↓g41_21, ↓g41_22, ↓g41_23, ↓g41_24, ↓g41_27, ↓g41_28, ↓g41_29, ↓g41_32, ↓g41_33, ↓g41_36, ↓g41_37, ↓g41_38, ↓g41_39, ↓g41_40, ↓g41_43, ↓g41_44, ↓g41_45, ↓g41_48, ↓g41_49, ↓g41_50, ↓g41_53, ↓g41_54, ↓Go_s, ↓GoC_a, ↓reduceIte, ↓mm_call_eq, ↓mmw_nil, ↓mmw_cons, List.take_succ_cons, List.take_zero, List.take_nil, List.drop_succ_cons, List.drop_zero, List.drop_nil, List.reverse_cons, List.reverse_nil, List.nil_append, List.cons_append, List.append_nil, Option.toList_some, Option.toList_none, Nat.sub_zero, Nat.le_refl, mmr_cons, mm_st1, mm_st2, mmi_nil, mmi_cons, mmc_I, mmc_L, mmc_R, mmu_get, mmu_one, mma_get, mma_one, List.filter_cons, List.filter_nil, List.contains_cons, List.contains_nil, Nat.reduceBEq, Nat.reduceAdd, Nat.reduceLT, Nat.reduceSub, Nat.reduceLeDiff, Nat.reduceEqDiff, Int32.reduceAdd, Bool.not_true, Bool.not_false, Bool.and_true, Bool.true_and, Bool.and_false, Bool.false_and, Bool.or_false, Bool.false_or, Bool.or_true, Bool.true_or, if_true, if_false, ite_true, ite_false, Bool.false_eq_true, List.getElem?_cons_zero, List.getElem?_cons_succ, List.length_cons, List.length_nil, true_and, and_true, List.set_cons_zero, List.set_cons_succ, Fin.isValue, Fin.val_zero, Fin.val_one, Fin.val_two, Fin.reduceFinMk, Nat.zero_add, hr, hb]
  exact ⟨fun _ => trivial, fun c => absurd (by decide) c⟩
theorem c_putAt (hx : Rw h r b xs) (hne : r ≠ b) {p v : Nat} (hp : p ≤ xs.length) (hl8 : xs.length < 8) (hv : v < 8) : WM tb (d + 1) k_Row_putAt [vR r, vI (nI p), vI (nI v)] h 0 0 (fun z h' => z = none ∧ Rw h' r b (xs.insertIdx p v) ∧ FR h h' [r, b]) := by
  obtain ⟨f, hr, hb, hl, hs, hf⟩ := hx
  refine WM.of mi_42 rfl rfl (Nat.le_of_ble_eq_true rfl) ?_
  show WP (mm_rw mr_42) none tb (WM tb d) _ 0 [(0, vR r), (1, vI (nI p)), (2, vI (nI v))] [] h 0 0
  (try simp only [Option.toList_some, Option.toList_none, List.nil_append, List.append_nil, List.cons_append, Nat.sub_zero, Nat.sub_self, Nat.zero_sub]); refine Go.wp sp_42 200 ?_; simp only [↓g42_0, ↓g42_1, ↓g42_4, ↓g42_5, ↓g42_6, ↓g42_9, ↓g42_12, ↓g42_13, ↓g42_16, ↓g42_18, ↓g42_21, ↓g42_22, ↓g42_23, ↓g42_26, ↓g42_27, ↓g42_28, ↓g42_31, ↓g42_32, ↓g42_33, ↓g42_34, ↓g42_35, ↓g42_38, ↓g42_39, ↓g42_40, ↓g42_43, ↓g42_44, ↓g42_47, ↓g42_48, ↓g42_49, ↓g42_50, ↓g42_51, ↓g42_52, ↓g42_55, ↓g42_56, ↓g42_57, ↓g42_60, ↓Go_s, ↓GoC_a, ↓reduceIte, ↓mm_call_eq, ↓mmw_nil, ↓mmw_cons, List.take_succ_cons, List.take_zero, List.take_nil, List.drop_succ_cons, List.drop_zero, List.drop_nil, List.reverse_cons, List.reverse_nil, List.nil_append, List.cons_append, List.append_nil, Option.toList_some, Option.toList_none, Nat.sub_zero, Nat.le_refl, mmr_cons, mm_st1, mm_st2, mmi_nil, mmi_cons, mmc_I, mmc_L, mmc_R, mmu_get, mmu_one, mma_get, mma_one, List.filter_cons, List.filter_nil, List.contains_cons, List.contains_nil, Nat.reduceBEq, Nat.reduceAdd, Nat.reduceLT, Nat.reduceSub, Nat.reduceLeDiff, Nat.reduceEqDiff, Int32.reduceAdd, Bool.not_true, Bool.not_false, Bool.and_true, Bool.true_and, Bool.and_false, Bool.false_and, Bool.or_false, Bool.false_or, Bool.or_true, Bool.true_or, if_true, if_false, ite_true, ite_false, Bool.false_eq_true, List.getElem?_cons_zero, List.getElem?_cons_succ, List.length_cons, List.length_nil, true_and, and_true, List.set_cons_zero, List.set_cons_succ, Fin.isValue, Fin.val_zero, Fin.val_one, Fin.val_two, Fin.reduceFinMk, Nat.zero_add, hr, hb, hne, hne.symm]
  simp (disch := omega) only [lit_0, lit_1, lit_2, lit_3, lit_4, lit_5, lit_6, lit_7, lit_8, lit_9, lit_10, lit_16, lit_40, lit_48, lit_60, lit_67, lit_76, lit_82, lit_99, lit_100, lit_255, lit_508, lit_720, lit_1023, nI_1, nI_add, pk_sub, pk_mul, pk_div, nu_rem2, nI_clamp, nu_m, nu_m', nu_lm, nu_ml, nu_ltm, nu_mlt, nu_mm, nu_dec, nu_in, nu_le, nu_lt, nu_eq, true_and, and_true, false_imp_iff, true_imp_iff, not_true_eq_false, not_false_eq_true, Nat.not_lt_zero, Nat.zero_le, Nat.le_refl, Nat.lt_irrefl, Nat.reduceEqDiff, Nat.reduceLT, Nat.reduceLeDiff, Nat.reduceAdd, Nat.reduceSub, Nat.reduceMul, Nat.reduceMod, Nat.reduceDiv, Nat.one_ne_zero, Nat.zero_ne_one, ft_0_0, ft_0_1, ft_0_2, ft_0_3, ft_0_4, ft_1_0, ft_1_1, ft_1_2, ft_2_0, ft_2_1, ft_2_2, ft_2_3, ft_2_4, ft_2_5, ft_2_6, ft_2_7, ft_2_8, ft_2_9, ft_2_10, ft_3_0, ft_3_1, ft_3_2, ft_3_3, ft_4_0, ft_4_1, ft_4_2, ft_4_3, ft_4_4, ft_4_5, ft_4_6, ft_5_0, ft_5_1, ft_6_0, ft_6_1, ft_6_2, ft_6_3, ft_6_4, ft_6_5, ft_6_6, ft_7_0, ft_7_1, ft_7_2, ft_7_3, ft_7_4, ft_7_5, ft_7_6, ft_7_7, ft_7_8, ft_7_9, ft_7_10, ft_7_11, ft_7_12, ft_7_13, ft_8_0, ft_8_1, ft_8_2, ft_8_3, ft_8_4, ft_8_5, ft_8_6, ft_8_7, ft_8_8, ft_8_9, ft_8_10, ft_8_11, ft_8_12, ft_8_13, ft_8_14, ft_8_15, ft_8_16, ft_8_17, ft_8_18, ft_8_19, ft_8_20, ft_8_21, ft_8_22, ft_8_23, ft_8_24, ft_8_25, ft_8_26, ft_8_27, ft_8_28, ft_8_29, ft_8_30, ft_8_31, ft_8_32, ft_8_33, ft_8_34, ft_8_35, ft_8_36, ft_8_37, ft_8_38, ft_8_39, ft_8_40, ft_8_41, nu_fitI, nu_fitL, nu_fitO, nu_fitA, nu_fitB0, nu_fitB1, hl8, Nat.not_lt.mpr hp]
  have hlen : (xs.insertIdx p v).length = xs.length + 1 := List.length_insertIdx_of_le_length hp v
  refine ⟨by omega, by omega, by omega, ⟨upd (va_cpy f f p (p + 1) (xs.length - p)) p (nI v), mmu_get .. |>.trans ((if_pos rfl).trans (by rw [hlen])), ?_, by omega, fun w hw => ?_, ?_⟩, ((FR.up (by simp)).tr (FR.up (by simp))).tr (FR.up (by simp))⟩
  · simp only [mmu_get, hne.symm, if_true, if_false]
  · rcases (List.mem_insertIdx hp).mp hw with rfl | hw
    · exact hv
    · exact hs w hw
  · intro j hj
    rw [hlen] at hj
    rw [getD_insert xs p j v hp]
    unfold upd va_cpy
    by_cases h1 : j = p
    · rw [if_pos h1, if_neg (by omega), if_pos h1]
    · rw [if_neg h1]
      by_cases h2 : j < p
      · rw [if_pos h2, if_neg (by omega), hf _ (by omega)]
      · rw [if_neg h2, if_neg h1, if_pos (by omega), hf _ (by omega)]
        congr 2
        omega
theorem c_placeGivenFor (hx : Rw h r b xs) {v : Nat} (hv : v < 2 ^ 31) : WM tb (d + 2) k_Row_placeGivenFor [vR r, vI (nI v)] h 0 0 (fun z h' => z = some (vI (if v ∈ xs then nI ((xs.idxOf v + 1) % xs.length) else mI 9)) ∧ h' = h) := by
  have hx0 := hx
  obtain ⟨f, hr, hb, hl, hs, hf⟩ := hx
  refine WM.of mi_40 rfl rfl (Nat.le_of_ble_eq_true rfl) ?_
  show WP (mm_rw mr_40) (some .int) tb (WM tb (d + 1)) _ 0 [(0, vR r), (1, vI (nI v))] [] h 0 0
  (try simp only [Option.toList_some, Option.toList_none, List.nil_append, List.append_nil, List.cons_append, Nat.sub_zero, Nat.sub_self, Nat.zero_sub]); refine Go.wp sp_40 200 ?_; simp only [↓g40_0, ↓g40_1, ↓g40_2, ↓g40_5, ↓g40_6, ↓g40_7, ↓g40_9, ↓g40_12, ↓g40_14, ↓g40_17, ↓g40_18, ↓g40_19, ↓g40_22, cl_37, cl_38, cn_0, cn_1, cn_2, cn_3, cn_4, cn_5, cn_6, cn_7, cn_8, ↓Go_s, ↓GoC_a, ↓reduceIte, ↓mm_call_eq, ↓mmw_nil, ↓mmw_cons, List.take_succ_cons, List.take_zero, List.take_nil, List.drop_succ_cons, List.drop_zero, List.drop_nil, List.reverse_cons, List.reverse_nil, List.nil_append, List.cons_append, List.append_nil, Option.toList_some, Option.toList_none, Nat.sub_zero, Nat.le_refl, mmr_cons, mm_st1, mm_st2, mmi_nil, mmi_cons, mmc_I, mmc_L, mmc_R, mmu_get, mmu_one, mma_get, mma_one, List.filter_cons, List.filter_nil, List.contains_cons, List.contains_nil, Nat.reduceBEq, Nat.reduceAdd, Nat.reduceLT, Nat.reduceSub, Nat.reduceLeDiff, Nat.reduceEqDiff, Int32.reduceAdd, Bool.not_true, Bool.not_false, Bool.and_true, Bool.true_and, Bool.and_false, Bool.false_and, Bool.or_false, Bool.false_or, Bool.or_true, Bool.true_or, if_true, if_false, ite_true, ite_false, Bool.false_eq_true, List.getElem?_cons_zero, List.getElem?_cons_succ, List.length_cons, List.length_nil, true_and, and_true, List.set_cons_zero, List.set_cons_succ, Fin.isValue, Fin.val_zero, Fin.val_one, Fin.val_two, Fin.reduceFinMk, Nat.zero_add, hr, hb]
  refine ⟨0, 0, _, Nat.le_refl _, Nat.le_refl _, c_placeOf hx0 hv, fun z h' hz => ?_⟩
  obtain ⟨rfl, rfl⟩ := hz
  (try simp only [Option.toList_some, Option.toList_none, List.nil_append, List.append_nil, List.cons_append, Nat.sub_zero, Nat.sub_self, Nat.zero_sub]); refine Go.wp sp_40 200 ?_; simp only [↓g40_0, ↓g40_1, ↓g40_2, ↓g40_5, ↓g40_6, ↓g40_7, ↓g40_9, ↓g40_12, ↓g40_14, ↓g40_17, ↓g40_18, ↓g40_19, ↓g40_22, cl_37, cl_38, cn_0, cn_1, cn_2, cn_3, cn_4, cn_5, cn_6, cn_7, cn_8, ↓Go_s, ↓GoC_a, ↓reduceIte, ↓mm_call_eq, ↓mmw_nil, ↓mmw_cons, List.take_succ_cons, List.take_zero, List.take_nil, List.drop_succ_cons, List.drop_zero, List.drop_nil, List.reverse_cons, List.reverse_nil, List.nil_append, List.cons_append, List.append_nil, Option.toList_some, Option.toList_none, Nat.sub_zero, Nat.le_refl, mmr_cons, mm_st1, mm_st2, mmi_nil, mmi_cons, mmc_I, mmc_L, mmc_R, mmu_get, mmu_one, mma_get, mma_one, List.filter_cons, List.filter_nil, List.contains_cons, List.contains_nil, Nat.reduceBEq, Nat.reduceAdd, Nat.reduceLT, Nat.reduceSub, Nat.reduceLeDiff, Nat.reduceEqDiff, Int32.reduceAdd, Bool.not_true, Bool.not_false, Bool.and_true, Bool.true_and, Bool.and_false, Bool.false_and, Bool.or_false, Bool.false_or, Bool.or_true, Bool.true_or, if_true, if_false, ite_true, ite_false, Bool.false_eq_true, List.getElem?_cons_zero, List.getElem?_cons_succ, List.length_cons, List.length_nil, true_and, and_true, List.set_cons_zero, List.set_cons_succ, Fin.isValue, Fin.val_zero, Fin.val_one, Fin.val_two, Fin.reduceFinMk, Nat.zero_add, hr, hb]
  by_cases hm : v ∈ xs
  · rw [lPl_in hm, if_pos hm]
    have := idx_lt hm
    simp (disch := omega) only [lit_0, lit_1, lit_2, lit_3, lit_4, lit_5, lit_6, lit_7, lit_8, lit_9, lit_10, lit_16, lit_40, lit_48, lit_60, lit_67, lit_76, lit_82, lit_99, lit_100, lit_255, lit_508, lit_720, lit_1023, nI_1, nI_add, pk_sub, pk_mul, pk_div, nu_rem2, nI_clamp, nu_m, nu_m', nu_lm, nu_ml, nu_ltm, nu_mlt, nu_mm, nu_dec, nu_in, nu_le, nu_lt, nu_eq, true_and, and_true, false_imp_iff, true_imp_iff, not_true_eq_false, not_false_eq_true, Nat.not_lt_zero, Nat.zero_le, Nat.le_refl, Nat.lt_irrefl, Nat.reduceEqDiff, Nat.reduceLT, Nat.reduceLeDiff, Nat.reduceAdd, Nat.reduceSub, Nat.reduceMul, Nat.reduceMod, Nat.reduceDiv, Nat.one_ne_zero, Nat.zero_ne_one, ft_0_0, ft_0_1, ft_0_2, ft_0_3, ft_0_4, ft_1_0, ft_1_1, ft_1_2, ft_2_0, ft_2_1, ft_2_2, ft_2_3, ft_2_4, ft_2_5, ft_2_6, ft_2_7, ft_2_8, ft_2_9, ft_2_10, ft_3_0, ft_3_1, ft_3_2, ft_3_3, ft_4_0, ft_4_1, ft_4_2, ft_4_3, ft_4_4, ft_4_5, ft_4_6, ft_5_0, ft_5_1, ft_6_0, ft_6_1, ft_6_2, ft_6_3, ft_6_4, ft_6_5, ft_6_6, ft_7_0, ft_7_1, ft_7_2, ft_7_3, ft_7_4, ft_7_5, ft_7_6, ft_7_7, ft_7_8, ft_7_9, ft_7_10, ft_7_11, ft_7_12, ft_7_13, ft_8_0, ft_8_1, ft_8_2, ft_8_3, ft_8_4, ft_8_5, ft_8_6, ft_8_7, ft_8_8, ft_8_9, ft_8_10, ft_8_11, ft_8_12, ft_8_13, ft_8_14, ft_8_15, ft_8_16, ft_8_17, ft_8_18, ft_8_19, ft_8_20, ft_8_21, ft_8_22, ft_8_23, ft_8_24, ft_8_25, ft_8_26, ft_8_27, ft_8_28, ft_8_29, ft_8_30, ft_8_31, ft_8_32, ft_8_33, ft_8_34, ft_8_35, ft_8_36, ft_8_37, ft_8_38, ft_8_39, ft_8_40, ft_8_41, nu_fitI, nu_fitL, nu_fitO, nu_fitA, nu_fitB0, nu_fitB1]
    refine ⟨0, 0, _, Nat.le_refl _, Nat.le_refl _, c_rightOf hx0 (idx_lt hm), fun z h' hz => ?_⟩
    obtain ⟨rfl, rfl⟩ := hz
    (try simp only [Option.toList_some, Option.toList_none, List.nil_append, List.append_nil, List.cons_append, Nat.sub_zero, Nat.sub_self, Nat.zero_sub]); refine Go.wp sp_40 200 ?_; simp only [↓g40_0, ↓g40_1, ↓g40_2, ↓g40_5, ↓g40_6, ↓g40_7, ↓g40_9, ↓g40_12, ↓g40_14, ↓g40_17, ↓g40_18, ↓g40_19, ↓g40_22, cl_37, cl_38, cn_0, cn_1, cn_2, cn_3, cn_4, cn_5, cn_6, cn_7, cn_8, ↓Go_s, ↓GoC_a, ↓reduceIte, ↓mm_call_eq, ↓mmw_nil, ↓mmw_cons, List.take_succ_cons, List.take_zero, List.take_nil, List.drop_succ_cons, List.drop_zero, List.drop_nil, List.reverse_cons, List.reverse_nil, List.nil_append, List.cons_append, List.append_nil, Option.toList_some, Option.toList_none, Nat.sub_zero, Nat.le_refl, mmr_cons, mm_st1, mm_st2, mmi_nil, mmi_cons, mmc_I, mmc_L, mmc_R, mmu_get, mmu_one, mma_get, mma_one, List.filter_cons, List.filter_nil, List.contains_cons, List.contains_nil, Nat.reduceBEq, Nat.reduceAdd, Nat.reduceLT, Nat.reduceSub, Nat.reduceLeDiff, Nat.reduceEqDiff, Int32.reduceAdd, Bool.not_true, Bool.not_false, Bool.and_true, Bool.true_and, Bool.and_false, Bool.false_and, Bool.or_false, Bool.false_or, Bool.or_true, Bool.true_or, if_true, if_false, ite_true, ite_false, Bool.false_eq_true, List.getElem?_cons_zero, List.getElem?_cons_succ, List.length_cons, List.length_nil, true_and, and_true, List.set_cons_zero, List.set_cons_succ, Fin.isValue, Fin.val_zero, Fin.val_one, Fin.val_two, Fin.reduceFinMk, Nat.zero_add, hr, hb]
  · rw [lPl_out hm, if_neg hm]
    simp (disch := omega) only [lit_0, lit_1, lit_2, lit_3, lit_4, lit_5, lit_6, lit_7, lit_8, lit_9, lit_10, lit_16, lit_40, lit_48, lit_60, lit_67, lit_76, lit_82, lit_99, lit_100, lit_255, lit_508, lit_720, lit_1023, nI_1, nI_add, pk_sub, pk_mul, pk_div, nu_rem2, nI_clamp, nu_m, nu_m', nu_lm, nu_ml, nu_ltm, nu_mlt, nu_mm, nu_dec, nu_in, nu_le, nu_lt, nu_eq, true_and, and_true, false_imp_iff, true_imp_iff, not_true_eq_false, not_false_eq_true, Nat.not_lt_zero, Nat.zero_le, Nat.le_refl, Nat.lt_irrefl, Nat.reduceEqDiff, Nat.reduceLT, Nat.reduceLeDiff, Nat.reduceAdd, Nat.reduceSub, Nat.reduceMul, Nat.reduceMod, Nat.reduceDiv, Nat.one_ne_zero, Nat.zero_ne_one, ft_0_0, ft_0_1, ft_0_2, ft_0_3, ft_0_4, ft_1_0, ft_1_1, ft_1_2, ft_2_0, ft_2_1, ft_2_2, ft_2_3, ft_2_4, ft_2_5, ft_2_6, ft_2_7, ft_2_8, ft_2_9, ft_2_10, ft_3_0, ft_3_1, ft_3_2, ft_3_3, ft_4_0, ft_4_1, ft_4_2, ft_4_3, ft_4_4, ft_4_5, ft_4_6, ft_5_0, ft_5_1, ft_6_0, ft_6_1, ft_6_2, ft_6_3, ft_6_4, ft_6_5, ft_6_6, ft_7_0, ft_7_1, ft_7_2, ft_7_3, ft_7_4, ft_7_5, ft_7_6, ft_7_7, ft_7_8, ft_7_9, ft_7_10, ft_7_11, ft_7_12, ft_7_13, ft_8_0, ft_8_1, ft_8_2, ft_8_3, ft_8_4, ft_8_5, ft_8_6, ft_8_7, ft_8_8, ft_8_9, ft_8_10, ft_8_11, ft_8_12, ft_8_13, ft_8_14, ft_8_15, ft_8_16, ft_8_17, ft_8_18, ft_8_19, ft_8_20, ft_8_21, ft_8_22, ft_8_23, ft_8_24, ft_8_25, ft_8_26, ft_8_27, ft_8_28, ft_8_29, ft_8_30, ft_8_31, ft_8_32, ft_8_33, ft_8_34, ft_8_35, ft_8_36, ft_8_37, ft_8_38, ft_8_39, ft_8_40, ft_8_41, nu_fitI, nu_fitL, nu_fitO, nu_fitA, nu_fitB0, nu_fitB1]
    (try simp only [Option.toList_some, Option.toList_none, List.nil_append, List.append_nil, List.cons_append, Nat.sub_zero, Nat.sub_self, Nat.zero_sub]); refine Go.wp sp_40 200 ?_; simp only [↓g40_0, ↓g40_1, ↓g40_2, ↓g40_5, ↓g40_6, ↓g40_7, ↓g40_9, ↓g40_12, ↓g40_14, ↓g40_17, ↓g40_18, ↓g40_19, ↓g40_22, cl_37, cl_38, cn_0, cn_1, cn_2, cn_3, cn_4, cn_5, cn_6, cn_7, cn_8, ↓Go_s, ↓GoC_a, ↓reduceIte, ↓mm_call_eq, ↓mmw_nil, ↓mmw_cons, List.take_succ_cons, List.take_zero, List.take_nil, List.drop_succ_cons, List.drop_zero, List.drop_nil, List.reverse_cons, List.reverse_nil, List.nil_append, List.cons_append, List.append_nil, Option.toList_some, Option.toList_none, Nat.sub_zero, Nat.le_refl, mmr_cons, mm_st1, mm_st2, mmi_nil, mmi_cons, mmc_I, mmc_L, mmc_R, mmu_get, mmu_one, mma_get, mma_one, List.filter_cons, List.filter_nil, List.contains_cons, List.contains_nil, Nat.reduceBEq, Nat.reduceAdd, Nat.reduceLT, Nat.reduceSub, Nat.reduceLeDiff, Nat.reduceEqDiff, Int32.reduceAdd, Bool.not_true, Bool.not_false, Bool.and_true, Bool.true_and, Bool.and_false, Bool.false_and, Bool.or_false, Bool.false_or, Bool.or_true, Bool.true_or, if_true, if_false, ite_true, ite_false, Bool.false_eq_true, List.getElem?_cons_zero, List.getElem?_cons_succ, List.length_cons, List.length_nil, true_and, and_true, List.set_cons_zero, List.set_cons_succ, Fin.isValue, Fin.val_zero, Fin.val_one, Fin.val_two, Fin.reduceFinMk, Nat.zero_add, hr, hb]
/-- where a book is put back by a law -/
def bk (law : Nat) (ys : List Nat) (a : Nat) : Nat := if law = 2 then 0 else if law = 1 ∧ a ∈ ys then ys.idxOf a + 1 else ys.length
theorem bk_le (law : Nat) (ys : List Nat) (a : Nat) : bk law ys a ≤ ys.length := by
  unfold bk
  split
  · exact Nat.zero_le _
  · split
    · rename_i c
      exact idx_lt c.2
    · exact Nat.le_refl _
theorem c_putBack (hx : Rw h r b xs) (hne : r ≠ b) {v a law : Nat} (hl8 : xs.length < 8) (hv : v < 8) (ha : a < 2 ^ 31) (hw : law < 3) : WM tb (d + 2) k_Row_putBack [vR r, vI (nI v), vI (nI a), vI (nI law)] h 0 0 (fun z h' => z = some (vI (nI (bk law xs a))) ∧ Rw h' r b (xs.insertIdx (bk law xs a) v) ∧ FR h h' [r, b]) := by
  have hx0 := hx
  obtain ⟨f, hr, hb, hl, hs, hf⟩ := hx
  refine WM.of mi_43 rfl rfl (Nat.le_of_ble_eq_true rfl) ?_
  show WP (mm_rw mr_43) (some .int) tb (WM tb (d + 1)) _ 0 [(0, vR r), (1, vI (nI v)), (2, vI (nI a)), (3, vI (nI law))] [] h 0 0
  (try simp only [Option.toList_some, Option.toList_none, List.nil_append, List.append_nil, List.cons_append, Nat.sub_zero, Nat.sub_self, Nat.zero_sub]); refine Go.wp sp_43 200 ?_; simp only [↓g43_0, ↓g43_1, ↓g43_4, ↓g43_6, ↓g43_7, ↓g43_8, ↓g43_11, ↓g43_12, ↓g43_14, ↓g43_17, ↓g43_18, ↓g43_19, ↓g43_22, ↓g43_23, ↓g43_24, ↓g43_27, ↓g43_29, ↓g43_31, ↓g43_33, ↓g43_36, ↓g43_37, ↓g43_40, ↓g43_43, ↓g43_45, ↓g43_46, ↓g43_47, ↓g43_49, ↓g43_50, ↓g43_52, ↓g43_53, ↓g43_56, ↓g43_58, cl_37, cl_42, cn_0, cn_1, cn_2, cn_3, cn_4, cn_5, cn_6, cn_7, cn_8, ↓Go_s, ↓GoC_a, ↓reduceIte, ↓mm_call_eq, ↓mmw_nil, ↓mmw_cons, List.take_succ_cons, List.take_zero, List.take_nil, List.drop_succ_cons, List.drop_zero, List.drop_nil, List.reverse_cons, List.reverse_nil, List.nil_append, List.cons_append, List.append_nil, Option.toList_some, Option.toList_none, Nat.sub_zero, Nat.le_refl, mmr_cons, mm_st1, mm_st2, mmi_nil, mmi_cons, mmc_I, mmc_L, mmc_R, mmu_get, mmu_one, mma_get, mma_one, List.filter_cons, List.filter_nil, List.contains_cons, List.contains_nil, Nat.reduceBEq, Nat.reduceAdd, Nat.reduceLT, Nat.reduceSub, Nat.reduceLeDiff, Nat.reduceEqDiff, Int32.reduceAdd, Bool.not_true, Bool.not_false, Bool.and_true, Bool.true_and, Bool.and_false, Bool.false_and, Bool.or_false, Bool.false_or, Bool.or_true, Bool.true_or, if_true, if_false, ite_true, ite_false, Bool.false_eq_true, List.getElem?_cons_zero, List.getElem?_cons_succ, List.length_cons, List.length_nil, true_and, and_true, List.set_cons_zero, List.set_cons_succ, Fin.isValue, Fin.val_zero, Fin.val_one, Fin.val_two, Fin.reduceFinMk, Nat.zero_add, hr, hb]
  have fin : ∀ (p : Nat) (z : Int32), z = nI p → p = bk law xs a → ∃ mc ms R, mc ≤ 0 ∧ ms ≤ 0 ∧ WM tb (d + 1) 42 [vR r, vI z, vI (nI v)] h mc ms R ∧ ∀ (r_1 : Option AV) (h' : AH), R r_1 h' → WP (mm_rw mr_43) (some FieldType.int) tb (WM tb (d + 1)) (fun z h' => z = some (vI (nI (bk law xs a))) ∧ Rw h' r b (xs.insertIdx (bk law xs a) v) ∧ FR h h' [r, b]) 56 [(4, vI z)] r_1.toList h' (0 - mc) (0 - ms) := by
    intro p z hz hp
    subst hz; subst hp
    refine ⟨0, 0, _, Nat.le_refl _, Nat.le_refl _, c_putAt hx0 hne (bk_le law xs a) hl8 hv, fun z h' hz => ?_⟩
    obtain ⟨rfl, h1, h2⟩ := hz
    (try simp only [Option.toList_some, Option.toList_none, List.nil_append, List.append_nil, List.cons_append, Nat.sub_zero, Nat.sub_self, Nat.zero_sub]); refine Go.wp sp_43 200 ?_; simp only [↓g43_0, ↓g43_1, ↓g43_4, ↓g43_6, ↓g43_7, ↓g43_8, ↓g43_11, ↓g43_12, ↓g43_14, ↓g43_17, ↓g43_18, ↓g43_19, ↓g43_22, ↓g43_23, ↓g43_24, ↓g43_27, ↓g43_29, ↓g43_31, ↓g43_33, ↓g43_36, ↓g43_37, ↓g43_40, ↓g43_43, ↓g43_45, ↓g43_46, ↓g43_47, ↓g43_49, ↓g43_50, ↓g43_52, ↓g43_53, ↓g43_56, ↓g43_58, cl_37, cl_42, cn_0, cn_1, cn_2, cn_3, cn_4, cn_5, cn_6, cn_7, cn_8, ↓Go_s, ↓GoC_a, ↓reduceIte, ↓mm_call_eq, ↓mmw_nil, ↓mmw_cons, List.take_succ_cons, List.take_zero, List.take_nil, List.drop_succ_cons, List.drop_zero, List.drop_nil, List.reverse_cons, List.reverse_nil, List.nil_append, List.cons_append, List.append_nil, Option.toList_some, Option.toList_none, Nat.sub_zero, Nat.le_refl, mmr_cons, mm_st1, mm_st2, mmi_nil, mmi_cons, mmc_I, mmc_L, mmc_R, mmu_get, mmu_one, mma_get, mma_one, List.filter_cons, List.filter_nil, List.contains_cons, List.contains_nil, Nat.reduceBEq, Nat.reduceAdd, Nat.reduceLT, Nat.reduceSub, Nat.reduceLeDiff, Nat.reduceEqDiff, Int32.reduceAdd, Bool.not_true, Bool.not_false, Bool.and_true, Bool.true_and, Bool.and_false, Bool.false_and, Bool.or_false, Bool.false_or, Bool.or_true, Bool.true_or, if_true, if_false, ite_true, ite_false, Bool.false_eq_true, List.getElem?_cons_zero, List.getElem?_cons_succ, List.length_cons, List.length_nil, true_and, and_true, List.set_cons_zero, List.set_cons_succ, Fin.isValue, Fin.val_zero, Fin.val_one, Fin.val_two, Fin.reduceFinMk, Nat.zero_add, h1, h2]
  have drop : ∀ {p lv mc ms} {R : AQ}, (4, vI p) ∈ lv → (∀ (r_1 : Option AV) (h' : AH), R r_1 h' → WP (mm_rw mr_43) (some FieldType.int) tb (WM tb (d + 1)) (fun z h' => z = some (vI (nI (bk law xs a))) ∧ Rw h' r b (xs.insertIdx (bk law xs a) v) ∧ FR h h' [r, b]) 56 [(4, vI p)] r_1.toList h' (0 - mc) (0 - ms)) → ∀ (r_1 : Option AV) (h' : AH), R r_1 h' → WP (mm_rw mr_43) (some FieldType.int) tb (WM tb (d + 1)) (fun z h' => z = some (vI (nI (bk law xs a))) ∧ Rw h' r b (xs.insertIdx (bk law xs a) v) ∧ FR h h' [r, b]) 56 lv r_1.toList h' (0 - mc) (0 - ms) := by
    intro p lv mc ms R hm hk r1 h' hR
    exact WP.drop (fun q hq => by rw [List.mem_singleton.mp hq]; exact hm) (hk r1 h' hR)
  refine ⟨fun c2 => ⟨fun c1 => ?_, fun c1 => ?_⟩, fun c2 => ?_⟩
  · simp (disch := omega) only [lit_0, lit_1, lit_2, lit_3, lit_4, lit_5, lit_6, lit_7, lit_8, lit_9, lit_10, lit_16, lit_40, lit_48, lit_60, lit_67, lit_76, lit_82, lit_99, lit_100, lit_255, lit_508, lit_720, lit_1023, nI_1, nI_add, pk_sub, pk_mul, pk_div, nu_rem2, nI_clamp, nu_m, nu_m', nu_lm, nu_ml, nu_ltm, nu_mlt, nu_mm, nu_dec, nu_in, nu_le, nu_lt, nu_eq, true_and, and_true, false_imp_iff, true_imp_iff, not_true_eq_false, not_false_eq_true, Nat.not_lt_zero, Nat.zero_le, Nat.le_refl, Nat.lt_irrefl, Nat.reduceEqDiff, Nat.reduceLT, Nat.reduceLeDiff, Nat.reduceAdd, Nat.reduceSub, Nat.reduceMul, Nat.reduceMod, Nat.reduceDiv, Nat.one_ne_zero, Nat.zero_ne_one, ft_0_0, ft_0_1, ft_0_2, ft_0_3, ft_0_4, ft_1_0, ft_1_1, ft_1_2, ft_2_0, ft_2_1, ft_2_2, ft_2_3, ft_2_4, ft_2_5, ft_2_6, ft_2_7, ft_2_8, ft_2_9, ft_2_10, ft_3_0, ft_3_1, ft_3_2, ft_3_3, ft_4_0, ft_4_1, ft_4_2, ft_4_3, ft_4_4, ft_4_5, ft_4_6, ft_5_0, ft_5_1, ft_6_0, ft_6_1, ft_6_2, ft_6_3, ft_6_4, ft_6_5, ft_6_6, ft_7_0, ft_7_1, ft_7_2, ft_7_3, ft_7_4, ft_7_5, ft_7_6, ft_7_7, ft_7_8, ft_7_9, ft_7_10, ft_7_11, ft_7_12, ft_7_13, ft_8_0, ft_8_1, ft_8_2, ft_8_3, ft_8_4, ft_8_5, ft_8_6, ft_8_7, ft_8_8, ft_8_9, ft_8_10, ft_8_11, ft_8_12, ft_8_13, ft_8_14, ft_8_15, ft_8_16, ft_8_17, ft_8_18, ft_8_19, ft_8_20, ft_8_21, ft_8_22, ft_8_23, ft_8_24, ft_8_25, ft_8_26, ft_8_27, ft_8_28, ft_8_29, ft_8_30, ft_8_31, ft_8_32, ft_8_33, ft_8_34, ft_8_35, ft_8_36, ft_8_37, ft_8_38, ft_8_39, ft_8_40, ft_8_41, nu_fitI, nu_fitL, nu_fitO, nu_fitA, nu_fitB0, nu_fitB1] at c1 c2
    obtain ⟨mc, ms, R, q1, q2, q3, q4⟩ := fin xs.length _ rfl (by unfold bk; rw [if_neg c2, if_neg (fun z => c1 z.1)])
    exact ⟨mc, ms, R, q1, q2, q3, drop (by simp) q4⟩
  · simp (disch := omega) only [lit_0, lit_1, lit_2, lit_3, lit_4, lit_5, lit_6, lit_7, lit_8, lit_9, lit_10, lit_16, lit_40, lit_48, lit_60, lit_67, lit_76, lit_82, lit_99, lit_100, lit_255, lit_508, lit_720, lit_1023, nI_1, nI_add, pk_sub, pk_mul, pk_div, nu_rem2, nI_clamp, nu_m, nu_m', nu_lm, nu_ml, nu_ltm, nu_mlt, nu_mm, nu_dec, nu_in, nu_le, nu_lt, nu_eq, true_and, and_true, false_imp_iff, true_imp_iff, not_true_eq_false, not_false_eq_true, Nat.not_lt_zero, Nat.zero_le, Nat.le_refl, Nat.lt_irrefl, Nat.reduceEqDiff, Nat.reduceLT, Nat.reduceLeDiff, Nat.reduceAdd, Nat.reduceSub, Nat.reduceMul, Nat.reduceMod, Nat.reduceDiv, Nat.one_ne_zero, Nat.zero_ne_one, ft_0_0, ft_0_1, ft_0_2, ft_0_3, ft_0_4, ft_1_0, ft_1_1, ft_1_2, ft_2_0, ft_2_1, ft_2_2, ft_2_3, ft_2_4, ft_2_5, ft_2_6, ft_2_7, ft_2_8, ft_2_9, ft_2_10, ft_3_0, ft_3_1, ft_3_2, ft_3_3, ft_4_0, ft_4_1, ft_4_2, ft_4_3, ft_4_4, ft_4_5, ft_4_6, ft_5_0, ft_5_1, ft_6_0, ft_6_1, ft_6_2, ft_6_3, ft_6_4, ft_6_5, ft_6_6, ft_7_0, ft_7_1, ft_7_2, ft_7_3, ft_7_4, ft_7_5, ft_7_6, ft_7_7, ft_7_8, ft_7_9, ft_7_10, ft_7_11, ft_7_12, ft_7_13, ft_8_0, ft_8_1, ft_8_2, ft_8_3, ft_8_4, ft_8_5, ft_8_6, ft_8_7, ft_8_8, ft_8_9, ft_8_10, ft_8_11, ft_8_12, ft_8_13, ft_8_14, ft_8_15, ft_8_16, ft_8_17, ft_8_18, ft_8_19, ft_8_20, ft_8_21, ft_8_22, ft_8_23, ft_8_24, ft_8_25, ft_8_26, ft_8_27, ft_8_28, ft_8_29, ft_8_30, ft_8_31, ft_8_32, ft_8_33, ft_8_34, ft_8_35, ft_8_36, ft_8_37, ft_8_38, ft_8_39, ft_8_40, ft_8_41, nu_fitI, nu_fitL, nu_fitO, nu_fitA, nu_fitB0, nu_fitB1] at c1 c2
    refine ⟨0, 0, _, Nat.le_refl _, Nat.le_refl _, c_placeOf hx0 ha, fun z h' hz => ?_⟩
    obtain ⟨rfl, rfl⟩ := hz
    (try simp only [Option.toList_some, Option.toList_none, List.nil_append, List.append_nil, List.cons_append, Nat.sub_zero, Nat.sub_self, Nat.zero_sub]); refine Go.wp sp_43 200 ?_; simp only [↓g43_0, ↓g43_1, ↓g43_4, ↓g43_6, ↓g43_7, ↓g43_8, ↓g43_11, ↓g43_12, ↓g43_14, ↓g43_17, ↓g43_18, ↓g43_19, ↓g43_22, ↓g43_23, ↓g43_24, ↓g43_27, ↓g43_29, ↓g43_31, ↓g43_33, ↓g43_36, ↓g43_37, ↓g43_40, ↓g43_43, ↓g43_45, ↓g43_46, ↓g43_47, ↓g43_49, ↓g43_50, ↓g43_52, ↓g43_53, ↓g43_56, ↓g43_58, cl_37, cl_42, cn_0, cn_1, cn_2, cn_3, cn_4, cn_5, cn_6, cn_7, cn_8, ↓Go_s, ↓GoC_a, ↓reduceIte, ↓mm_call_eq, ↓mmw_nil, ↓mmw_cons, List.take_succ_cons, List.take_zero, List.take_nil, List.drop_succ_cons, List.drop_zero, List.drop_nil, List.reverse_cons, List.reverse_nil, List.nil_append, List.cons_append, List.append_nil, Option.toList_some, Option.toList_none, Nat.sub_zero, Nat.le_refl, mmr_cons, mm_st1, mm_st2, mmi_nil, mmi_cons, mmc_I, mmc_L, mmc_R, mmu_get, mmu_one, mma_get, mma_one, List.filter_cons, List.filter_nil, List.contains_cons, List.contains_nil, Nat.reduceBEq, Nat.reduceAdd, Nat.reduceLT, Nat.reduceSub, Nat.reduceLeDiff, Nat.reduceEqDiff, Int32.reduceAdd, Bool.not_true, Bool.not_false, Bool.and_true, Bool.true_and, Bool.and_false, Bool.false_and, Bool.or_false, Bool.false_or, Bool.or_true, Bool.true_or, if_true, if_false, ite_true, ite_false, Bool.false_eq_true, List.getElem?_cons_zero, List.getElem?_cons_succ, List.length_cons, List.length_nil, true_and, and_true, List.set_cons_zero, List.set_cons_succ, Fin.isValue, Fin.val_zero, Fin.val_one, Fin.val_two, Fin.reduceFinMk, Nat.zero_add, hr, hb]
    by_cases hm : a ∈ xs
    · have := idx_lt hm
      rw [lPl_in hm]
      simp (disch := omega) only [lit_0, lit_1, lit_2, lit_3, lit_4, lit_5, lit_6, lit_7, lit_8, lit_9, lit_10, lit_16, lit_40, lit_48, lit_60, lit_67, lit_76, lit_82, lit_99, lit_100, lit_255, lit_508, lit_720, lit_1023, nI_1, nI_add, pk_sub, pk_mul, pk_div, nu_rem2, nI_clamp, nu_m, nu_m', nu_lm, nu_ml, nu_ltm, nu_mlt, nu_mm, nu_dec, nu_in, nu_le, nu_lt, nu_eq, true_and, and_true, false_imp_iff, true_imp_iff, not_true_eq_false, not_false_eq_true, Nat.not_lt_zero, Nat.zero_le, Nat.le_refl, Nat.lt_irrefl, Nat.reduceEqDiff, Nat.reduceLT, Nat.reduceLeDiff, Nat.reduceAdd, Nat.reduceSub, Nat.reduceMul, Nat.reduceMod, Nat.reduceDiv, Nat.one_ne_zero, Nat.zero_ne_one, ft_0_0, ft_0_1, ft_0_2, ft_0_3, ft_0_4, ft_1_0, ft_1_1, ft_1_2, ft_2_0, ft_2_1, ft_2_2, ft_2_3, ft_2_4, ft_2_5, ft_2_6, ft_2_7, ft_2_8, ft_2_9, ft_2_10, ft_3_0, ft_3_1, ft_3_2, ft_3_3, ft_4_0, ft_4_1, ft_4_2, ft_4_3, ft_4_4, ft_4_5, ft_4_6, ft_5_0, ft_5_1, ft_6_0, ft_6_1, ft_6_2, ft_6_3, ft_6_4, ft_6_5, ft_6_6, ft_7_0, ft_7_1, ft_7_2, ft_7_3, ft_7_4, ft_7_5, ft_7_6, ft_7_7, ft_7_8, ft_7_9, ft_7_10, ft_7_11, ft_7_12, ft_7_13, ft_8_0, ft_8_1, ft_8_2, ft_8_3, ft_8_4, ft_8_5, ft_8_6, ft_8_7, ft_8_8, ft_8_9, ft_8_10, ft_8_11, ft_8_12, ft_8_13, ft_8_14, ft_8_15, ft_8_16, ft_8_17, ft_8_18, ft_8_19, ft_8_20, ft_8_21, ft_8_22, ft_8_23, ft_8_24, ft_8_25, ft_8_26, ft_8_27, ft_8_28, ft_8_29, ft_8_30, ft_8_31, ft_8_32, ft_8_33, ft_8_34, ft_8_35, ft_8_36, ft_8_37, ft_8_38, ft_8_39, ft_8_40, ft_8_41, nu_fitI, nu_fitL, nu_fitO, nu_fitA, nu_fitB0, nu_fitB1]
      obtain ⟨mc, ms, R, q1, q2, q3, q4⟩ := fin (xs.idxOf a + 1) _ rfl (by unfold bk; rw [if_neg c2, if_pos ⟨c1, hm⟩])
      exact ⟨mc, ms, R, q1, q2, q3, drop (by simp) q4⟩
    · rw [lPl_out hm]
      refine ⟨fun c => absurd rfl c, fun _ => ?_⟩
      obtain ⟨mc, ms, R, q1, q2, q3, q4⟩ := fin xs.length _ rfl (by unfold bk; rw [if_neg c2, if_neg (fun z => hm z.2)])
      exact ⟨mc, ms, R, q1, q2, q3, drop (by simp) q4⟩
  · simp (disch := omega) only [lit_0, lit_1, lit_2, lit_3, lit_4, lit_5, lit_6, lit_7, lit_8, lit_9, lit_10, lit_16, lit_40, lit_48, lit_60, lit_67, lit_76, lit_82, lit_99, lit_100, lit_255, lit_508, lit_720, lit_1023, nI_1, nI_add, pk_sub, pk_mul, pk_div, nu_rem2, nI_clamp, nu_m, nu_m', nu_lm, nu_ml, nu_ltm, nu_mlt, nu_mm, nu_dec, nu_in, nu_le, nu_lt, nu_eq, true_and, and_true, false_imp_iff, true_imp_iff, not_true_eq_false, not_false_eq_true, Nat.not_lt_zero, Nat.zero_le, Nat.le_refl, Nat.lt_irrefl, Nat.reduceEqDiff, Nat.reduceLT, Nat.reduceLeDiff, Nat.reduceAdd, Nat.reduceSub, Nat.reduceMul, Nat.reduceMod, Nat.reduceDiv, Nat.one_ne_zero, Nat.zero_ne_one, ft_0_0, ft_0_1, ft_0_2, ft_0_3, ft_0_4, ft_1_0, ft_1_1, ft_1_2, ft_2_0, ft_2_1, ft_2_2, ft_2_3, ft_2_4, ft_2_5, ft_2_6, ft_2_7, ft_2_8, ft_2_9, ft_2_10, ft_3_0, ft_3_1, ft_3_2, ft_3_3, ft_4_0, ft_4_1, ft_4_2, ft_4_3, ft_4_4, ft_4_5, ft_4_6, ft_5_0, ft_5_1, ft_6_0, ft_6_1, ft_6_2, ft_6_3, ft_6_4, ft_6_5, ft_6_6, ft_7_0, ft_7_1, ft_7_2, ft_7_3, ft_7_4, ft_7_5, ft_7_6, ft_7_7, ft_7_8, ft_7_9, ft_7_10, ft_7_11, ft_7_12, ft_7_13, ft_8_0, ft_8_1, ft_8_2, ft_8_3, ft_8_4, ft_8_5, ft_8_6, ft_8_7, ft_8_8, ft_8_9, ft_8_10, ft_8_11, ft_8_12, ft_8_13, ft_8_14, ft_8_15, ft_8_16, ft_8_17, ft_8_18, ft_8_19, ft_8_20, ft_8_21, ft_8_22, ft_8_23, ft_8_24, ft_8_25, ft_8_26, ft_8_27, ft_8_28, ft_8_29, ft_8_30, ft_8_31, ft_8_32, ft_8_33, ft_8_34, ft_8_35, ft_8_36, ft_8_37, ft_8_38, ft_8_39, ft_8_40, ft_8_41, nu_fitI, nu_fitL, nu_fitO, nu_fitA, nu_fitB0, nu_fitB1] at c2
    obtain ⟨mc, ms, R, q1, q2, q3, q4⟩ := fin 0 _ rfl (by unfold bk; rw [if_pos c2])
    exact ⟨mc, ms, R, q1, q2, q3, drop (by simp [nI_0]) q4⟩
/-- what is given for a, and the row behind it -/
def tG (xs : List Nat) (a : Nat) : Nat := xs.getD ((xs.idxOf a + 1) % xs.length) 0
def tX (law : Nat) (xs : List Nat) (a : Nat) : List Nat := (xs.eraseIdx ((xs.idxOf a + 1) % xs.length)).insertIdx (bk law (xs.eraseIdx ((xs.idxOf a + 1) % xs.length)) a) (tG xs a)
theorem c_roundTrip (hx : Rw h r b xs) (hne : r ≠ b) {a law : Nat} (ha : a < 2 ^ 31) (hw : law < 3) : WM tb (d + 3) k_Row_roundTrip [vR r, vI (nI a), vI (nI law)] h 0 0 (fun z h' => z = some (vI (if a ∈ xs then nI (tG xs a) else mI 9)) ∧ Rw h' r b (if a ∈ xs then tX law xs a else xs) ∧ FR h h' [r, b]) := by
  have hx0 := hx
  obtain ⟨f, hr, hb, hl, hs, hf⟩ := hx
  refine WM.of mi_44 rfl rfl (Nat.le_of_ble_eq_true rfl) ?_
  show WP (mm_rw mr_44) (some .int) tb (WM tb (d + 2)) _ 0 [(0, vR r), (1, vI (nI a)), (2, vI (nI law))] [] h 0 0
  (try simp only [Option.toList_some, Option.toList_none, List.nil_append, List.append_nil, List.cons_append, Nat.sub_zero, Nat.sub_self, Nat.zero_sub]); refine Go.wp sp_44 200 ?_; simp only [↓g44_0, ↓g44_1, ↓g44_2, ↓g44_3, ↓g44_6, ↓g44_9, ↓g44_10, ↓g44_11, ↓g44_13, ↓g44_16, ↓g44_17, ↓g44_18, ↓g44_19, ↓g44_20, ↓g44_23, ↓g44_24, ↓g44_25, cl_40, cl_41, cl_43, cn_0, cn_1, cn_2, cn_3, cn_4, cn_5, cn_6, cn_7, cn_8, ↓Go_s, ↓GoC_a, ↓reduceIte, ↓mm_call_eq, ↓mmw_nil, ↓mmw_cons, List.take_succ_cons, List.take_zero, List.take_nil, List.drop_succ_cons, List.drop_zero, List.drop_nil, List.reverse_cons, List.reverse_nil, List.nil_append, List.cons_append, List.append_nil, Option.toList_some, Option.toList_none, Nat.sub_zero, Nat.le_refl, mmr_cons, mm_st1, mm_st2, mmi_nil, mmi_cons, mmc_I, mmc_L, mmc_R, mmu_get, mmu_one, mma_get, mma_one, List.filter_cons, List.filter_nil, List.contains_cons, List.contains_nil, Nat.reduceBEq, Nat.reduceAdd, Nat.reduceLT, Nat.reduceSub, Nat.reduceLeDiff, Nat.reduceEqDiff, Int32.reduceAdd, Bool.not_true, Bool.not_false, Bool.and_true, Bool.true_and, Bool.and_false, Bool.false_and, Bool.or_false, Bool.false_or, Bool.or_true, Bool.true_or, if_true, if_false, ite_true, ite_false, Bool.false_eq_true, List.getElem?_cons_zero, List.getElem?_cons_succ, List.length_cons, List.length_nil, true_and, and_true, List.set_cons_zero, List.set_cons_succ, Fin.isValue, Fin.val_zero, Fin.val_one, Fin.val_two, Fin.reduceFinMk, Nat.zero_add, hr, hb]
  refine ⟨0, 0, _, Nat.le_refl _, Nat.le_refl _, c_placeGivenFor hx0 ha, fun z h' hz => ?_⟩
  obtain ⟨rfl, rfl⟩ := hz
  (try simp only [Option.toList_some, Option.toList_none, List.nil_append, List.append_nil, List.cons_append, Nat.sub_zero, Nat.sub_self, Nat.zero_sub]); refine Go.wp sp_44 200 ?_; simp only [↓g44_0, ↓g44_1, ↓g44_2, ↓g44_3, ↓g44_6, ↓g44_9, ↓g44_10, ↓g44_11, ↓g44_13, ↓g44_16, ↓g44_17, ↓g44_18, ↓g44_19, ↓g44_20, ↓g44_23, ↓g44_24, ↓g44_25, cl_40, cl_41, cl_43, cn_0, cn_1, cn_2, cn_3, cn_4, cn_5, cn_6, cn_7, cn_8, ↓Go_s, ↓GoC_a, ↓reduceIte, ↓mm_call_eq, ↓mmw_nil, ↓mmw_cons, List.take_succ_cons, List.take_zero, List.take_nil, List.drop_succ_cons, List.drop_zero, List.drop_nil, List.reverse_cons, List.reverse_nil, List.nil_append, List.cons_append, List.append_nil, Option.toList_some, Option.toList_none, Nat.sub_zero, Nat.le_refl, mmr_cons, mm_st1, mm_st2, mmi_nil, mmi_cons, mmc_I, mmc_L, mmc_R, mmu_get, mmu_one, mma_get, mma_one, List.filter_cons, List.filter_nil, List.contains_cons, List.contains_nil, Nat.reduceBEq, Nat.reduceAdd, Nat.reduceLT, Nat.reduceSub, Nat.reduceLeDiff, Nat.reduceEqDiff, Int32.reduceAdd, Bool.not_true, Bool.not_false, Bool.and_true, Bool.true_and, Bool.and_false, Bool.false_and, Bool.or_false, Bool.false_or, Bool.or_true, Bool.true_or, if_true, if_false, ite_true, ite_false, Bool.false_eq_true, List.getElem?_cons_zero, List.getElem?_cons_succ, List.length_cons, List.length_nil, true_and, and_true, List.set_cons_zero, List.set_cons_succ, Fin.isValue, Fin.val_zero, Fin.val_one, Fin.val_two, Fin.reduceFinMk, Nat.zero_add, hr, hb]
  by_cases hm : a ∈ xs
  · have hi := idx_lt hm
    have hp : (xs.idxOf a + 1) % xs.length < xs.length := Nat.mod_lt _ (by omega)
    simp only [hm, if_true]
    refine ⟨0, 0, _, Nat.le_refl _, Nat.le_refl _, c_takeAt (d := d + 1) hx0 hne hp, fun z h1 hz => ?_⟩
    obtain ⟨rfl, hx1, hf1⟩ := hz
    have hg8 : xs.getD ((xs.idxOf a + 1) % xs.length) 0 < 8 := hs _ (getD_mem hp)
    have hlen := List.length_eraseIdx_of_lt hp
    obtain ⟨f1, hr1, hb1, -⟩ := id hx1
    (try simp only [Option.toList_some, Option.toList_none, List.nil_append, List.append_nil, List.cons_append, Nat.sub_zero, Nat.sub_self, Nat.zero_sub]); refine Go.wp sp_44 200 ?_; simp only [↓g44_0, ↓g44_1, ↓g44_2, ↓g44_3, ↓g44_6, ↓g44_9, ↓g44_10, ↓g44_11, ↓g44_13, ↓g44_16, ↓g44_17, ↓g44_18, ↓g44_19, ↓g44_20, ↓g44_23, ↓g44_24, ↓g44_25, cl_40, cl_41, cl_43, cn_0, cn_1, cn_2, cn_3, cn_4, cn_5, cn_6, cn_7, cn_8, ↓Go_s, ↓GoC_a, ↓reduceIte, ↓mm_call_eq, ↓mmw_nil, ↓mmw_cons, List.take_succ_cons, List.take_zero, List.take_nil, List.drop_succ_cons, List.drop_zero, List.drop_nil, List.reverse_cons, List.reverse_nil, List.nil_append, List.cons_append, List.append_nil, Option.toList_some, Option.toList_none, Nat.sub_zero, Nat.le_refl, mmr_cons, mm_st1, mm_st2, mmi_nil, mmi_cons, mmc_I, mmc_L, mmc_R, mmu_get, mmu_one, mma_get, mma_one, List.filter_cons, List.filter_nil, List.contains_cons, List.contains_nil, Nat.reduceBEq, Nat.reduceAdd, Nat.reduceLT, Nat.reduceSub, Nat.reduceLeDiff, Nat.reduceEqDiff, Int32.reduceAdd, Bool.not_true, Bool.not_false, Bool.and_true, Bool.true_and, Bool.and_false, Bool.false_and, Bool.or_false, Bool.false_or, Bool.or_true, Bool.true_or, if_true, if_false, ite_true, ite_false, Bool.false_eq_true, List.getElem?_cons_zero, List.getElem?_cons_succ, List.length_cons, List.length_nil, true_and, and_true, List.set_cons_zero, List.set_cons_succ, Fin.isValue, Fin.val_zero, Fin.val_one, Fin.val_two, Fin.reduceFinMk, Nat.zero_add, hr1, hb1]
    simp (disch := omega) only [lit_0, lit_1, lit_2, lit_3, lit_4, lit_5, lit_6, lit_7, lit_8, lit_9, lit_10, lit_16, lit_40, lit_48, lit_60, lit_67, lit_76, lit_82, lit_99, lit_100, lit_255, lit_508, lit_720, lit_1023, nI_1, nI_add, pk_sub, pk_mul, pk_div, nu_rem2, nI_clamp, nu_m, nu_m', nu_lm, nu_ml, nu_ltm, nu_mlt, nu_mm, nu_dec, nu_in, nu_le, nu_lt, nu_eq, true_and, and_true, false_imp_iff, true_imp_iff, not_true_eq_false, not_false_eq_true, Nat.not_lt_zero, Nat.zero_le, Nat.le_refl, Nat.lt_irrefl, Nat.reduceEqDiff, Nat.reduceLT, Nat.reduceLeDiff, Nat.reduceAdd, Nat.reduceSub, Nat.reduceMul, Nat.reduceMod, Nat.reduceDiv, Nat.one_ne_zero, Nat.zero_ne_one, ft_0_0, ft_0_1, ft_0_2, ft_0_3, ft_0_4, ft_1_0, ft_1_1, ft_1_2, ft_2_0, ft_2_1, ft_2_2, ft_2_3, ft_2_4, ft_2_5, ft_2_6, ft_2_7, ft_2_8, ft_2_9, ft_2_10, ft_3_0, ft_3_1, ft_3_2, ft_3_3, ft_4_0, ft_4_1, ft_4_2, ft_4_3, ft_4_4, ft_4_5, ft_4_6, ft_5_0, ft_5_1, ft_6_0, ft_6_1, ft_6_2, ft_6_3, ft_6_4, ft_6_5, ft_6_6, ft_7_0, ft_7_1, ft_7_2, ft_7_3, ft_7_4, ft_7_5, ft_7_6, ft_7_7, ft_7_8, ft_7_9, ft_7_10, ft_7_11, ft_7_12, ft_7_13, ft_8_0, ft_8_1, ft_8_2, ft_8_3, ft_8_4, ft_8_5, ft_8_6, ft_8_7, ft_8_8, ft_8_9, ft_8_10, ft_8_11, ft_8_12, ft_8_13, ft_8_14, ft_8_15, ft_8_16, ft_8_17, ft_8_18, ft_8_19, ft_8_20, ft_8_21, ft_8_22, ft_8_23, ft_8_24, ft_8_25, ft_8_26, ft_8_27, ft_8_28, ft_8_29, ft_8_30, ft_8_31, ft_8_32, ft_8_33, ft_8_34, ft_8_35, ft_8_36, ft_8_37, ft_8_38, ft_8_39, ft_8_40, ft_8_41, nu_fitI, nu_fitL, nu_fitO, nu_fitA, nu_fitB0, nu_fitB1]
    refine ⟨0, 0, _, Nat.le_refl _, Nat.le_refl _, c_putBack (d := d) (a := a) hx1 hne (by rw [hlen]; omega) hg8 ha hw, fun z h2 hz => ?_⟩
    obtain ⟨rfl, hx2, hf2⟩ := hz
    (try simp only [Option.toList_some, Option.toList_none, List.nil_append, List.append_nil, List.cons_append, Nat.sub_zero, Nat.sub_self, Nat.zero_sub]); refine Go.wp sp_44 200 ?_; simp only [↓g44_0, ↓g44_1, ↓g44_2, ↓g44_3, ↓g44_6, ↓g44_9, ↓g44_10, ↓g44_11, ↓g44_13, ↓g44_16, ↓g44_17, ↓g44_18, ↓g44_19, ↓g44_20, ↓g44_23, ↓g44_24, ↓g44_25, cl_40, cl_41, cl_43, cn_0, cn_1, cn_2, cn_3, cn_4, cn_5, cn_6, cn_7, cn_8, ↓Go_s, ↓GoC_a, ↓reduceIte, ↓mm_call_eq, ↓mmw_nil, ↓mmw_cons, List.take_succ_cons, List.take_zero, List.take_nil, List.drop_succ_cons, List.drop_zero, List.drop_nil, List.reverse_cons, List.reverse_nil, List.nil_append, List.cons_append, List.append_nil, Option.toList_some, Option.toList_none, Nat.sub_zero, Nat.le_refl, mmr_cons, mm_st1, mm_st2, mmi_nil, mmi_cons, mmc_I, mmc_L, mmc_R, mmu_get, mmu_one, mma_get, mma_one, List.filter_cons, List.filter_nil, List.contains_cons, List.contains_nil, Nat.reduceBEq, Nat.reduceAdd, Nat.reduceLT, Nat.reduceSub, Nat.reduceLeDiff, Nat.reduceEqDiff, Int32.reduceAdd, Bool.not_true, Bool.not_false, Bool.and_true, Bool.true_and, Bool.and_false, Bool.false_and, Bool.or_false, Bool.false_or, Bool.or_true, Bool.true_or, if_true, if_false, ite_true, ite_false, Bool.false_eq_true, List.getElem?_cons_zero, List.getElem?_cons_succ, List.length_cons, List.length_nil, true_and, and_true, List.set_cons_zero, List.set_cons_succ, Fin.isValue, Fin.val_zero, Fin.val_one, Fin.val_two, Fin.reduceFinMk, Nat.zero_add, hr1, hb1]
    exact ⟨rfl, hx2, hf1.tr hf2⟩
  · simp only [hm, if_false]
    refine ⟨0, 0, _, Nat.le_refl _, Nat.le_refl _, c_takeNo (d := d + 1) hx0, fun z h1 hz => ?_⟩
    obtain ⟨rfl, rfl⟩ := hz
    (try simp only [Option.toList_some, Option.toList_none, List.nil_append, List.append_nil, List.cons_append, Nat.sub_zero, Nat.sub_self, Nat.zero_sub]); refine Go.wp sp_44 200 ?_; simp only [↓g44_0, ↓g44_1, ↓g44_2, ↓g44_3, ↓g44_6, ↓g44_9, ↓g44_10, ↓g44_11, ↓g44_13, ↓g44_16, ↓g44_17, ↓g44_18, ↓g44_19, ↓g44_20, ↓g44_23, ↓g44_24, ↓g44_25, cl_40, cl_41, cl_43, cn_0, cn_1, cn_2, cn_3, cn_4, cn_5, cn_6, cn_7, cn_8, ↓Go_s, ↓GoC_a, ↓reduceIte, ↓mm_call_eq, ↓mmw_nil, ↓mmw_cons, List.take_succ_cons, List.take_zero, List.take_nil, List.drop_succ_cons, List.drop_zero, List.drop_nil, List.reverse_cons, List.reverse_nil, List.nil_append, List.cons_append, List.append_nil, Option.toList_some, Option.toList_none, Nat.sub_zero, Nat.le_refl, mmr_cons, mm_st1, mm_st2, mmi_nil, mmi_cons, mmc_I, mmc_L, mmc_R, mmu_get, mmu_one, mma_get, mma_one, List.filter_cons, List.filter_nil, List.contains_cons, List.contains_nil, Nat.reduceBEq, Nat.reduceAdd, Nat.reduceLT, Nat.reduceSub, Nat.reduceLeDiff, Nat.reduceEqDiff, Int32.reduceAdd, Bool.not_true, Bool.not_false, Bool.and_true, Bool.true_and, Bool.and_false, Bool.false_and, Bool.or_false, Bool.false_or, Bool.or_true, Bool.true_or, if_true, if_false, ite_true, ite_false, Bool.false_eq_true, List.getElem?_cons_zero, List.getElem?_cons_succ, List.length_cons, List.length_nil, true_and, and_true, List.set_cons_zero, List.set_cons_succ, Fin.isValue, Fin.val_zero, Fin.val_one, Fin.val_two, Fin.reduceFinMk, Nat.zero_add, hr, hb]
    exact ⟨fun _ => ⟨hx0, FR.rf⟩, fun c => absurd trivial c⟩
end ROW
