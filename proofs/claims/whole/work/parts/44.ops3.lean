/-! round trips -/
theorem erase_ins {xs : List Nat} {p : Nat} (hp : p < xs.length) : (xs.eraseIdx p).insertIdx p (xs.getD p 0) = xs := by
  have hl := List.length_eraseIdx_of_lt hp
  apply List.ext_getElem?
  intro i
  rw [List.getElem?_insertIdx]
  split
  · rw [List.getElem?_eraseIdx, if_pos (by assumption)]
  · split
    · rename_i e
      subst e
      rw [if_pos (by omega), List.getD_eq_getElem?_getD, List.getElem?_eq_getElem hp]
      rfl
    · rw [List.getElem?_eraseIdx, if_neg (by omega), show i - 1 + 1 = i by omega]
theorem tX_perm (law : Nat) {xs : List Nat} {a : Nat} (ha : a ∈ xs) : (tX law xs a).Perm xs := by
  have hi := idx_lt ha
  have hp : (xs.idxOf a + 1) % xs.length < xs.length := Nat.mod_lt _ (by omega)
  unfold tX tG
  have h1 := List.perm_insertIdx (xs.getD ((xs.idxOf a + 1) % xs.length) 0) (xs.eraseIdx ((xs.idxOf a + 1) % xs.length)) (bk_le law (xs.eraseIdx ((xs.idxOf a + 1) % xs.length)) a)
  have h2 := List.perm_insertIdx (xs.getD ((xs.idxOf a + 1) % xs.length) 0) (xs.eraseIdx ((xs.idxOf a + 1) % xs.length)) (i := (xs.idxOf a + 1) % xs.length) (by rw [List.length_eraseIdx_of_lt hp]; omega)
  rw [erase_ins hp] at h2
  exact h1.trans h2.symm
theorem tG_mem {xs : List Nat} {a : Nat} (ha : a ∈ xs) : tG xs a ∈ xs := getD_mem (Nat.mod_lt _ (by have := idx_lt ha; omega))
/-- a row that is some order of the shelf -/
def Rk (sh xs : List Nat) : Prop := xs.Perm sh
theorem Rk.rf {sh : List Nat} : Rk sh sh := List.Perm.refl _
theorem Rk.len {sh xs : List Nat} (h : Rk sh xs) : xs.length = sh.length := h.length_eq
theorem Rk.mem {sh xs : List Nat} (h : Rk sh xs) {v : Nat} : v ∈ xs ↔ v ∈ sh := h.mem_iff
theorem Rk.nd {sh xs : List Nat} (h : Rk sh xs) (hn : sh.Nodup) : xs.Nodup := h.nodup_iff.mpr hn
theorem Rk.tX {sh xs : List Nat} (h : Rk sh xs) (law : Nat) {a : Nat} (ha : a ∈ xs) : Rk sh (tX law xs a) := (tX_perm law ha).trans h
/-- the state with another row on trial -/
def sT (s : MM) (f : Nat → Int32) (z : Int32) : MM := sO (sA s 64 f) 63 1 z
theorem upd_upd (f : Nat → Int32) (k : Nat) (x y : Int32) : upd (upd f k x) k y = upd f k y := by
  funext j
  unfold upd
  split <;> rfl
theorem sT_sT (s : MM) (f f' : Nat → Int32) (z z' : Int32) : sO (sA (sT s f z) 64 f') 63 1 z' = sT s f' z' := by
  unfold sT sO sA
  refine Prod.ext ?_ (Prod.ext ?_ rfl)
  · funext j
    unfold va_up
    dsimp only
    split <;> rfl
  · funext j
    dsimp only
    unfold va_up
    split
    · rename_i e
      rw [if_pos rfl, upd_upd]
    · rfl
theorem InvC.trial {g : SG} {s : MM} (h : InvC g s) (f : Nat → Int32) (z : Int32) : InvC g (sT s f z) := by
  obtain ⟨h1, h2, h3, h4, h5, h6, h7, h8⟩ := h
  exact ⟨h1, cPl.ag (s := s) h2 ⟨rfl, rfl, rfl⟩ rfl (fun q q1 q2 => ⟨va_ne (by omega), va_ne (by omega)⟩), h3, h4, h5, h6, h7, h8⟩
theorem agM.trial {s : MM} (f : Nat → Int32) (z : Int32) : agM s (sT s f z) := (agM.sA (by omega)).tr (agM.sO (by omega))
theorem InvM.some1 {g : SG} {s : MM} (h : InvM g s) (f : Nat → Int32) : InvM g (sA s 88 f) := h
theorem InvM.some2 {g : SG} {s : MM} (h : InvM g s) (z : Int32) : InvM g (sO s 75 26 z) := h
section TRIAL
variable {tb : Nat → Nat × (Nat → Int32)} {d : Nat} {s : MM} {g : SG}
/-- copied from the shelf -/
theorem C_trial {k : DK} (h4 : DeskAt s 17 19 20 k) : WM tb (d + 1) k_Row_copyFrom [vR 63, vR 17] (HP s) 0 0 (fun z h' => z = none ∧ ∃ f, h' = HP (sT s f (nI k.1.length)) ∧ RS (sT s f (nI k.1.length)) 63 64 k.1) :=
  (c_copyFrom (rs_17 h4.1) rz_63 (by omega) (by omega) (by omega) (by omega) (by omega)).post (fun z h' hz => by
    obtain ⟨rfl, h1, h2⟩ := hz
    obtain ⟨f, rfl, h3, h4, h5⟩ := rb_63 h2 h1
    exact ⟨rfl, f, rfl, rfl, h3, h4, h5⟩)
theorem C_tripT {xs : List Nat} {f : Nat → Int32} {z : Int32} (hx : RS (sT s f z) 63 64 xs) {a law : Nat} (ha : a < 2 ^ 31) (hw : law < 3) : WM tb (d + 3) k_Row_roundTrip [vR 63, vI (nI a), vI (nI law)] (HP (sT s f z)) 0 0 (fun r h' => r = some (vI (if a ∈ xs then nI (tG xs a) else mI 9)) ∧ ∃ f' z', h' = HP (sT s f' z') ∧ RS (sT s f' z') 63 64 (if a ∈ xs then tX law xs a else xs)) :=
  (c_roundTrip (rs_63 hx) (by omega) ha hw).post (fun r h' hz => by
    obtain ⟨rfl, h1, h2⟩ := hz
    obtain ⟨f', rfl, h3, h4, h5⟩ := rb_63 h2 h1
    rw [sT_sT]
    exact ⟨rfl, f', _, rfl, rfl, h3, h4, h5⟩)
end TRIAL
def arP (law a : Nat) (sh : List Nat) : Nat → Nat → List Nat → Int32
  | 0, _, _ => mI 9
  | r + 1, k, xs => if tX law xs a = sh then nI k else arP law a sh r (k + 1) (tX law xs a)
def aAround (g : SG) (x : Int32) : Int32 := if isB x (gN g) = true then (if x.toNatClampNeg ∈ (gDk g).1 then arP (gLw g) x.toNatClampNeg (gDk g).1 99 1 (gDk g).1 else mI 3) else mI 1
abbrev sp_70 : List Nat := [5, 15, 35, 37, 55, 70]
section G70
variable {tb : Nat → Nat × (Nat → Int32)} {call : CO} {Q : AQ} {C : CP} {lv : AL} {st : List AV} {h : AH} {kc ks : Nat}
theorem g70_0  : mm_step (mm_rw mr_70) (some .int) tb call Q C 0 lv st h kc ks = (match mm_rd lv 0 with
    | some (.inr (.inr (.inl (some k)))) => C 1 lv (vR k :: st) h kc ks
    | some (.inr (.inr (.inr t))) => C 1 lv (vT t :: st) h kc ks
    | _ => False) := rfl
theorem g70_1  : mm_step (mm_rw mr_70) (some .int) tb call Q C 1 lv st h kc ks = (match mm_rd lv 1 with
    | some (.inl a) => C 2 lv (vI a :: st) h kc ks
    | _ => False) := rfl
theorem g70_2  : mm_step (mm_rw mr_70) (some .int) tb call Q C 2 lv st h kc ks = ((match (st.take 2).reverse with
    | .inr (.inr (.inl (some k))) :: _ => (match h.2 k with
      | some (.inr (.inr (ci, _))) => mm_cn ci = (mm_mi 85).1.cls
      | _ => False)
    | _ => False) ∧ mm_call call C 85 2 2 lv st h kc ks) := rfl
theorem g70_5 (a : Int32) : mm_step (mm_rw mr_70) (some .int) tb call Q C 5 lv (.inl a :: st) h kc ks = ((¬ a = 0 → C 10 lv st h kc ks) ∧ (a = 0 → C 8 lv st h kc ks)) := rfl
theorem g70_8  : mm_step (mm_rw mr_70) (some .int) tb call Q C 8 lv st h kc ks = (C 9 lv (vI (mI 1) :: st) h kc ks) := rfl
theorem g70_9 (v : Int32) : mm_step (mm_rw mr_70) (some .int) tb call Q C 9 lv [.inl v] h kc ks = (True ∧ Q (some (vI v)) h) := rfl
theorem g70_10  : mm_step (mm_rw mr_70) (some .int) tb call Q C 10 lv st h kc ks = (match mm_rd lv 0 with
    | some (.inr (.inr (.inl (some k)))) => C 11 lv (vR k :: st) h kc ks
    | some (.inr (.inr (.inr t))) => C 11 lv (vT t :: st) h kc ks
    | _ => False) := rfl
theorem g70_11  : mm_step (mm_rw mr_70) (some .int) tb call Q C 11 lv st h kc ks = (match mm_rd lv 1 with
    | some (.inl a) => C 12 lv (vI a :: st) h kc ks
    | _ => False) := rfl
theorem g70_12  : mm_step (mm_rw mr_70) (some .int) tb call Q C 12 lv st h kc ks = ((match (st.take 2).reverse with
    | .inr (.inr (.inl (some k))) :: _ => (match h.2 k with
      | some (.inr (.inr (ci, _))) => mm_cn ci = (mm_mi 88).1.cls
      | _ => False)
    | _ => False) ∧ mm_call call C 88 2 12 lv st h kc ks) := rfl
theorem g70_15 (a : Int32) : mm_step (mm_rw mr_70) (some .int) tb call Q C 15 lv (.inl a :: st) h kc ks = ((¬ a = 0 → C 21 lv st h kc ks) ∧ (a = 0 → C 18 lv st h kc ks)) := rfl
theorem g70_18  : mm_step (mm_rw mr_70) (some .int) tb call Q C 18 lv st h kc ks = (C 20 lv (vI (mI 3) :: st) h kc ks) := rfl
theorem g70_20 (v : Int32) : mm_step (mm_rw mr_70) (some .int) tb call Q C 20 lv [.inl v] h kc ks = (True ∧ Q (some (vI v)) h) := rfl
theorem g70_21  : mm_step (mm_rw mr_70) (some .int) tb call Q C 21 lv st h kc ks = (match mm_rd lv 0 with
    | some (.inr (.inr (.inl (some k)))) => C 22 lv (vR k :: st) h kc ks
    | some (.inr (.inr (.inr t))) => C 22 lv (vT t :: st) h kc ks
    | _ => False) := rfl
theorem g70_22 (k : Nat) : mm_step (mm_rw mr_70) (some .int) tb call Q C 22 lv (.inr (.inr (.inl (some k))) :: st) h kc ks = (match h.2 k with
    | some (.inr (.inr (ci, fs))) => ci = 7 ∧ (match fs[11]? with
      | some v => C 25 lv (v :: st) h kc ks
      | none => False)
    | _ => False) := rfl
theorem g70_25  : mm_step (mm_rw mr_70) (some .int) tb call Q C 25 lv st h kc ks = (match mm_rd lv 0 with
    | some (.inr (.inr (.inl (some k)))) => C 26 lv (vR k :: st) h kc ks
    | some (.inr (.inr (.inr t))) => C 26 lv (vT t :: st) h kc ks
    | _ => False) := rfl
theorem g70_26 (k : Nat) : mm_step (mm_rw mr_70) (some .int) tb call Q C 26 lv (.inr (.inr (.inl (some k))) :: st) h kc ks = (match h.2 k with
    | some (.inr (.inr (ci, fs))) => ci = 7 ∧ (match fs[5]? with
      | some v => C 29 lv (v :: st) h kc ks
      | none => False)
    | _ => False) := rfl
theorem g70_29 (k : Nat) : mm_step (mm_rw mr_70) (some .int) tb call Q C 29 lv (.inr (.inr (.inl (some k))) :: st) h kc ks = (match h.2 k with
    | some (.inr (.inr (ci, fs))) => ci = 1 ∧ (match fs[0]? with
      | some v => C 32 lv (v :: st) h kc ks
      | none => False)
    | _ => False) := rfl
theorem g70_32  : mm_step (mm_rw mr_70) (some .int) tb call Q C 32 lv st h kc ks = ((match (st.take 2).reverse with
    | .inr (.inr (.inl (some k))) :: _ => (match h.2 k with
      | some (.inr (.inr (ci, _))) => mm_cn ci = (mm_mi 32).1.cls
      | _ => False)
    | _ => False) ∧ mm_call call C 32 2 32 lv st h kc ks) := rfl
theorem g70_35  : mm_step (mm_rw mr_70) (some .int) tb call Q C 35 lv st h kc ks = (C 36 lv (vI 1 :: st) h kc ks) := rfl
theorem g70_36 (a : Int32) : mm_step (mm_rw mr_70) (some .int) tb call Q C 36 lv (.inl a :: st) h kc ks = (C 37 (mm_st1 lv 2 (vI a)) st h kc ks) := rfl
theorem g70_37  : mm_step (mm_rw mr_70) (some .int) tb call Q C 37 lv st h kc ks = (match mm_rd lv 2 with
    | some (.inl a) => C 38 lv (vI a :: st) h kc ks
    | _ => False) := rfl
theorem g70_38  : mm_step (mm_rw mr_70) (some .int) tb call Q C 38 lv st h kc ks = (C 40 lv (vI 99 :: st) h kc ks) := rfl
theorem g70_40 (a b : Int32) : mm_step (mm_rw mr_70) (some .int) tb call Q C 40 lv (.inl b :: .inl a :: st) h kc ks = ((b < a → C 81 lv st h kc ks) ∧ (¬ b < a → C 43 lv st h kc ks)) := rfl
theorem g70_43  : mm_step (mm_rw mr_70) (some .int) tb call Q C 43 lv st h kc ks = (match mm_rd lv 0 with
    | some (.inr (.inr (.inl (some k)))) => C 44 lv (vR k :: st) h kc ks
    | some (.inr (.inr (.inr t))) => C 44 lv (vT t :: st) h kc ks
    | _ => False) := rfl
theorem g70_44 (k : Nat) : mm_step (mm_rw mr_70) (some .int) tb call Q C 44 lv (.inr (.inr (.inl (some k))) :: st) h kc ks = (match h.2 k with
    | some (.inr (.inr (ci, fs))) => ci = 7 ∧ (match fs[11]? with
      | some v => C 47 lv (v :: st) h kc ks
      | none => False)
    | _ => False) := rfl
theorem g70_47  : mm_step (mm_rw mr_70) (some .int) tb call Q C 47 lv st h kc ks = (match mm_rd lv 1 with
    | some (.inl a) => C 48 lv (vI a :: st) h kc ks
    | _ => False) := rfl
theorem g70_48  : mm_step (mm_rw mr_70) (some .int) tb call Q C 48 lv st h kc ks = (match mm_rd lv 0 with
    | some (.inr (.inr (.inl (some k)))) => C 49 lv (vR k :: st) h kc ks
    | some (.inr (.inr (.inr t))) => C 49 lv (vT t :: st) h kc ks
    | _ => False) := rfl
theorem g70_49 (k : Nat) : mm_step (mm_rw mr_70) (some .int) tb call Q C 49 lv (.inr (.inr (.inl (some k))) :: st) h kc ks = (match h.2 k with
    | some (.inr (.inr (ci, fs))) => ci = 7 ∧ (match fs[4]? with
      | some v => C 52 lv (v :: st) h kc ks
      | none => False)
    | _ => False) := rfl
theorem g70_52  : mm_step (mm_rw mr_70) (some .int) tb call Q C 52 lv st h kc ks = ((match (st.take 3).reverse with
    | .inr (.inr (.inl (some k))) :: _ => (match h.2 k with
      | some (.inr (.inr (ci, _))) => mm_cn ci = (mm_mi 44).1.cls
      | _ => False)
    | _ => False) ∧ mm_call call C 44 3 52 lv st h kc ks) := rfl
theorem g70_55 (v : AV) : mm_step (mm_rw mr_70) (some .int) tb call Q C 55 lv (v :: st) h kc ks = (mm_c2 v = false ∧ C 56 lv st h kc ks) := rfl
theorem g70_56  : mm_step (mm_rw mr_70) (some .int) tb call Q C 56 lv st h kc ks = (match mm_rd lv 0 with
    | some (.inr (.inr (.inl (some k)))) => C 57 lv (vR k :: st) h kc ks
    | some (.inr (.inr (.inr t))) => C 57 lv (vT t :: st) h kc ks
    | _ => False) := rfl
theorem g70_57 (k : Nat) : mm_step (mm_rw mr_70) (some .int) tb call Q C 57 lv (.inr (.inr (.inl (some k))) :: st) h kc ks = (match h.2 k with
    | some (.inr (.inr (ci, fs))) => ci = 7 ∧ (match fs[11]? with
      | some v => C 60 lv (v :: st) h kc ks
      | none => False)
    | _ => False) := rfl
theorem g70_60  : mm_step (mm_rw mr_70) (some .int) tb call Q C 60 lv st h kc ks = (match mm_rd lv 0 with
    | some (.inr (.inr (.inl (some k)))) => C 61 lv (vR k :: st) h kc ks
    | some (.inr (.inr (.inr t))) => C 61 lv (vT t :: st) h kc ks
    | _ => False) := rfl
theorem g70_61 (k : Nat) : mm_step (mm_rw mr_70) (some .int) tb call Q C 61 lv (.inr (.inr (.inl (some k))) :: st) h kc ks = (match h.2 k with
    | some (.inr (.inr (ci, fs))) => ci = 7 ∧ (match fs[5]? with
      | some v => C 64 lv (v :: st) h kc ks
      | none => False)
    | _ => False) := rfl
theorem g70_64 (k : Nat) : mm_step (mm_rw mr_70) (some .int) tb call Q C 64 lv (.inr (.inr (.inl (some k))) :: st) h kc ks = (match h.2 k with
    | some (.inr (.inr (ci, fs))) => ci = 1 ∧ (match fs[0]? with
      | some v => C 67 lv (v :: st) h kc ks
      | none => False)
    | _ => False) := rfl
theorem g70_67  : mm_step (mm_rw mr_70) (some .int) tb call Q C 67 lv st h kc ks = ((match (st.take 2).reverse with
    | .inr (.inr (.inl (some k))) :: _ => (match h.2 k with
      | some (.inr (.inr (ci, _))) => mm_cn ci = (mm_mi 34).1.cls
      | _ => False)
    | _ => False) ∧ mm_call call C 34 2 67 lv st h kc ks) := rfl
theorem g70_70 (a : Int32) : mm_step (mm_rw mr_70) (some .int) tb call Q C 70 lv (.inl a :: st) h kc ks = ((a = 0 → C 75 lv st h kc ks) ∧ (¬ a = 0 → C 73 lv st h kc ks)) := rfl
theorem g70_73  : mm_step (mm_rw mr_70) (some .int) tb call Q C 73 lv st h kc ks = (match mm_rd lv 2 with
    | some (.inl a) => C 74 lv (vI a :: st) h kc ks
    | _ => False) := rfl
theorem g70_74 (v : Int32) : mm_step (mm_rw mr_70) (some .int) tb call Q C 74 lv [.inl v] h kc ks = (True ∧ Q (some (vI v)) h) := rfl
theorem g70_75  : mm_step (mm_rw mr_70) (some .int) tb call Q C 75 lv st h kc ks = (match mm_rd lv 2 with
    | some (.inl a) => C 78 (mm_st1 lv 2 (vI (a + 1))) st h kc ks
    | _ => False) := rfl
theorem g70_78  : mm_step (mm_rw mr_70) (some .int) tb call Q C 78 lv st h kc ks = (C 37 lv st h kc ks) := rfl
theorem g70_81  : mm_step (mm_rw mr_70) (some .int) tb call Q C 81 lv st h kc ks = (C 83 lv (vI (mI 9) :: st) h kc ks) := rfl
theorem g70_83 (v : Int32) : mm_step (mm_rw mr_70) (some .int) tb call Q C 83 lv [.inl v] h kc ks = (True ∧ Q (some (vI v)) h) := rfl
end G70

abbrev sp_135 : List Nat := [5, 15, 25, 29, 32, 44, 49]
section G135
variable {tb : Nat → Nat × (Nat → Int32)} {call : CO} {Q : AQ} {C : CP} {lv : AL} {st : List AV} {h : AH} {kc ks : Nat}
theorem g135_0  : mm_step (mm_rw mr_135) (some .int) tb call Q C 0 lv st h kc ks = (match mm_rd lv 0 with
    | some (.inr (.inr (.inl (some k)))) => C 1 lv (vR k :: st) h kc ks
    | some (.inr (.inr (.inr t))) => C 1 lv (vT t :: st) h kc ks
    | _ => False) := rfl
theorem g135_1  : mm_step (mm_rw mr_135) (some .int) tb call Q C 1 lv st h kc ks = (match mm_rd lv 1 with
    | some (.inl a) => C 2 lv (vI a :: st) h kc ks
    | _ => False) := rfl
theorem g135_2  : mm_step (mm_rw mr_135) (some .int) tb call Q C 2 lv st h kc ks = ((match (st.take 2).reverse with
    | .inr (.inr (.inl (some k))) :: _ => (match h.2 k with
      | some (.inr (.inr (ci, _))) => mm_cn ci = (mm_mi 107).1.cls
      | _ => False)
    | _ => False) ∧ mm_call call C 107 2 2 lv st h kc ks) := rfl
theorem g135_5 (a : Int32) : mm_step (mm_rw mr_135) (some .int) tb call Q C 5 lv (.inl a :: st) h kc ks = ((¬ a = 0 → C 10 lv st h kc ks) ∧ (a = 0 → C 8 lv st h kc ks)) := rfl
theorem g135_8  : mm_step (mm_rw mr_135) (some .int) tb call Q C 8 lv st h kc ks = (C 9 lv (vI (mI 1) :: st) h kc ks) := rfl
theorem g135_9 (v : Int32) : mm_step (mm_rw mr_135) (some .int) tb call Q C 9 lv [.inl v] h kc ks = (True ∧ Q (some (vI v)) h) := rfl
theorem g135_10  : mm_step (mm_rw mr_135) (some .int) tb call Q C 10 lv st h kc ks = (match mm_rd lv 0 with
    | some (.inr (.inr (.inl (some k)))) => C 11 lv (vR k :: st) h kc ks
    | some (.inr (.inr (.inr t))) => C 11 lv (vT t :: st) h kc ks
    | _ => False) := rfl
theorem g135_11  : mm_step (mm_rw mr_135) (some .int) tb call Q C 11 lv st h kc ks = (match mm_rd lv 1 with
    | some (.inl a) => C 12 lv (vI a :: st) h kc ks
    | _ => False) := rfl
theorem g135_12  : mm_step (mm_rw mr_135) (some .int) tb call Q C 12 lv st h kc ks = ((match (st.take 2).reverse with
    | .inr (.inr (.inl (some k))) :: _ => (match h.2 k with
      | some (.inr (.inr (ci, _))) => mm_cn ci = (mm_mi 110).1.cls
      | _ => False)
    | _ => False) ∧ mm_call call C 110 2 12 lv st h kc ks) := rfl
theorem g135_15 (a : Int32) : mm_step (mm_rw mr_135) (some .int) tb call Q C 15 lv (.inl a :: st) h kc ks = ((¬ a = 0 → C 21 lv st h kc ks) ∧ (a = 0 → C 18 lv st h kc ks)) := rfl
theorem g135_18  : mm_step (mm_rw mr_135) (some .int) tb call Q C 18 lv st h kc ks = (C 20 lv (vI (mI 3) :: st) h kc ks) := rfl
theorem g135_20 (v : Int32) : mm_step (mm_rw mr_135) (some .int) tb call Q C 20 lv [.inl v] h kc ks = (True ∧ Q (some (vI v)) h) := rfl
theorem g135_21  : mm_step (mm_rw mr_135) (some .int) tb call Q C 21 lv st h kc ks = (match mm_rd lv 0 with
    | some (.inr (.inr (.inl (some k)))) => C 22 lv (vR k :: st) h kc ks
    | some (.inr (.inr (.inr t))) => C 22 lv (vT t :: st) h kc ks
    | _ => False) := rfl
theorem g135_22  : mm_step (mm_rw mr_135) (some .int) tb call Q C 22 lv st h kc ks = ((match (st.take 1).reverse with
    | .inr (.inr (.inl (some k))) :: _ => (match h.2 k with
      | some (.inr (.inr (ci, _))) => mm_cn ci = (mm_mi 123).1.cls
      | _ => False)
    | _ => False) ∧ mm_call call C 123 1 22 lv st h kc ks) := rfl
theorem g135_25  : mm_step (mm_rw mr_135) (some .int) tb call Q C 25 lv st h kc ks = (match mm_rd lv 0 with
    | some (.inr (.inr (.inl (some k)))) => C 26 lv (vR k :: st) h kc ks
    | some (.inr (.inr (.inr t))) => C 26 lv (vT t :: st) h kc ks
    | _ => False) := rfl
theorem g135_26  : mm_step (mm_rw mr_135) (some .int) tb call Q C 26 lv st h kc ks = ((match (st.take 1).reverse with
    | .inr (.inr (.inl (some k))) :: _ => (match h.2 k with
      | some (.inr (.inr (ci, _))) => mm_cn ci = (mm_mi 128).1.cls
      | _ => False)
    | _ => False) ∧ mm_call call C 128 1 26 lv st h kc ks) := rfl
theorem g135_29 (a : Int32) : mm_step (mm_rw mr_135) (some .int) tb call Q C 29 lv (.inl a :: st) h kc ks = (C 30 (mm_st1 lv 2 (vI a)) st h kc ks) := rfl
theorem g135_30  : mm_step (mm_rw mr_135) (some .int) tb call Q C 30 lv st h kc ks = (C 31 lv (vI 1 :: st) h kc ks) := rfl
theorem g135_31 (a : Int32) : mm_step (mm_rw mr_135) (some .int) tb call Q C 31 lv (.inl a :: st) h kc ks = (C 32 (mm_st1 lv 3 (vI a)) st h kc ks) := rfl
theorem g135_32  : mm_step (mm_rw mr_135) (some .int) tb call Q C 32 lv st h kc ks = (match mm_rd lv 3 with
    | some (.inl a) => C 33 lv (vI a :: st) h kc ks
    | _ => False) := rfl
theorem g135_33  : mm_step (mm_rw mr_135) (some .int) tb call Q C 33 lv st h kc ks = (C 35 lv (vI 100 :: st) h kc ks) := rfl
theorem g135_35 (a b : Int32) : mm_step (mm_rw mr_135) (some .int) tb call Q C 35 lv (.inl b :: .inl a :: st) h kc ks = ((b ≤ a → C 61 lv st h kc ks) ∧ (¬ b ≤ a → C 38 lv st h kc ks)) := rfl
theorem g135_38  : mm_step (mm_rw mr_135) (some .int) tb call Q C 38 lv st h kc ks = (match mm_rd lv 0 with
    | some (.inr (.inr (.inl (some k)))) => C 39 lv (vR k :: st) h kc ks
    | some (.inr (.inr (.inr t))) => C 39 lv (vT t :: st) h kc ks
    | _ => False) := rfl
theorem g135_39  : mm_step (mm_rw mr_135) (some .int) tb call Q C 39 lv st h kc ks = (match mm_rd lv 1 with
    | some (.inl a) => C 40 lv (vI a :: st) h kc ks
    | _ => False) := rfl
theorem g135_40  : mm_step (mm_rw mr_135) (some .int) tb call Q C 40 lv st h kc ks = (C 41 lv (vI 0 :: st) h kc ks) := rfl
theorem g135_41  : mm_step (mm_rw mr_135) (some .int) tb call Q C 41 lv st h kc ks = ((match (st.take 3).reverse with
    | .inr (.inr (.inl (some k))) :: _ => (match h.2 k with
      | some (.inr (.inr (ci, _))) => mm_cn ci = (mm_mi 124).1.cls
      | _ => False)
    | _ => False) ∧ mm_call call C 124 3 41 lv st h kc ks) := rfl
theorem g135_44 (v : AV) : mm_step (mm_rw mr_135) (some .int) tb call Q C 44 lv (v :: st) h kc ks = (mm_c2 v = false ∧ C 45 lv st h kc ks) := rfl
theorem g135_45  : mm_step (mm_rw mr_135) (some .int) tb call Q C 45 lv st h kc ks = (match mm_rd lv 0 with
    | some (.inr (.inr (.inl (some k)))) => C 46 lv (vR k :: st) h kc ks
    | some (.inr (.inr (.inr t))) => C 46 lv (vT t :: st) h kc ks
    | _ => False) := rfl
theorem g135_46  : mm_step (mm_rw mr_135) (some .int) tb call Q C 46 lv st h kc ks = ((match (st.take 1).reverse with
    | .inr (.inr (.inl (some k))) :: _ => (match h.2 k with
      | some (.inr (.inr (ci, _))) => mm_cn ci = (mm_mi 128).1.cls
      | _ => False)
    | _ => False) ∧ mm_call call C 128 1 46 lv st h kc ks) := rfl
theorem g135_49  : mm_step (mm_rw mr_135) (some .int) tb call Q C 49 lv st h kc ks = (match mm_rd lv 2 with
    | some (.inl a) => C 50 lv (vI a :: st) h kc ks
    | _ => False) := rfl
theorem g135_50 (a b : Int32) : mm_step (mm_rw mr_135) (some .int) tb call Q C 50 lv (.inl b :: .inl a :: st) h kc ks = ((¬ a = b → C 55 lv st h kc ks) ∧ (a = b → C 53 lv st h kc ks)) := rfl
theorem g135_53  : mm_step (mm_rw mr_135) (some .int) tb call Q C 53 lv st h kc ks = (match mm_rd lv 3 with
    | some (.inl a) => C 54 lv (vI a :: st) h kc ks
    | _ => False) := rfl
theorem g135_54 (v : Int32) : mm_step (mm_rw mr_135) (some .int) tb call Q C 54 lv [.inl v] h kc ks = (True ∧ Q (some (vI v)) h) := rfl
theorem g135_55  : mm_step (mm_rw mr_135) (some .int) tb call Q C 55 lv st h kc ks = (match mm_rd lv 3 with
    | some (.inl a) => C 58 (mm_st1 lv 3 (vI (a + 1))) st h kc ks
    | _ => False) := rfl
theorem g135_58  : mm_step (mm_rw mr_135) (some .int) tb call Q C 58 lv st h kc ks = (C 32 lv st h kc ks) := rfl
theorem g135_61  : mm_step (mm_rw mr_135) (some .int) tb call Q C 61 lv st h kc ks = (C 63 lv (vI (mI 9) :: st) h kc ks) := rfl
theorem g135_63 (v : Int32) : mm_step (mm_rw mr_135) (some .int) tb call Q C 63 lv [.inl v] h kc ks = (True ∧ Q (some (vI v)) h) := rfl
end G135

abbrev sp_128 : List Nat := [4]
section G128
variable {tb : Nat → Nat × (Nat → Int32)} {call : CO} {Q : AQ} {C : CP} {lv : AL} {st : List AV} {h : AH} {kc ks : Nat}
theorem g128_0  : mm_step (mm_rw mr_128) (some .int) tb call Q C 0 lv st h kc ks = (C 1 lv (vI 0 :: st) h kc ks) := rfl
theorem g128_1 (a : Int32) : mm_step (mm_rw mr_128) (some .int) tb call Q C 1 lv (.inl a :: st) h kc ks = (C 2 (mm_st1 lv 1 (vI a)) st h kc ks) := rfl
theorem g128_2  : mm_step (mm_rw mr_128) (some .int) tb call Q C 2 lv st h kc ks = (C 3 lv (vI 0 :: st) h kc ks) := rfl
theorem g128_3 (a : Int32) : mm_step (mm_rw mr_128) (some .int) tb call Q C 3 lv (.inl a :: st) h kc ks = (C 4 (mm_st1 lv 2 (vI a)) st h kc ks) := rfl
theorem g128_4  : mm_step (mm_rw mr_128) (some .int) tb call Q C 4 lv st h kc ks = (match mm_rd lv 2 with
    | some (.inl a) => C 5 lv (vI a :: st) h kc ks
    | _ => False) := rfl
theorem g128_5  : mm_step (mm_rw mr_128) (some .int) tb call Q C 5 lv st h kc ks = (match mm_rd lv 0 with
    | some (.inr (.inr (.inl (some k)))) => C 6 lv (vR k :: st) h kc ks
    | some (.inr (.inr (.inr t))) => C 6 lv (vT t :: st) h kc ks
    | _ => False) := rfl
theorem g128_6 (k : Nat) : mm_step (mm_rw mr_128) (some .int) tb call Q C 6 lv (.inr (.inr (.inl (some k))) :: st) h kc ks = (match h.2 k with
    | some (.inr (.inr (ci, fs))) => ci = 8 ∧ (match fs[26]? with
      | some v => C 9 lv (v :: st) h kc ks
      | none => False)
    | _ => False) := rfl
theorem g128_9 (a b : Int32) : mm_step (mm_rw mr_128) (some .int) tb call Q C 9 lv (.inl b :: .inl a :: st) h kc ks = ((b ≤ a → C 30 lv st h kc ks) ∧ (¬ b ≤ a → C 12 lv st h kc ks)) := rfl
theorem g128_12  : mm_step (mm_rw mr_128) (some .int) tb call Q C 12 lv st h kc ks = (C 14 lv (vI 8 :: st) h kc ks) := rfl
theorem g128_14  : mm_step (mm_rw mr_128) (some .int) tb call Q C 14 lv st h kc ks = (match mm_rd lv 1 with
    | some (.inl a) => C 15 lv (vI a :: st) h kc ks
    | _ => False) := rfl
theorem g128_15 (a b : Int32) : mm_step (mm_rw mr_128) (some .int) tb call Q C 15 lv (.inl b :: .inl a :: st) h kc ks = (C 16 lv (vI (a * b) :: st) h kc ks) := rfl
theorem g128_16  : mm_step (mm_rw mr_128) (some .int) tb call Q C 16 lv st h kc ks = (match mm_rd lv 0 with
    | some (.inr (.inr (.inl (some k)))) => C 17 lv (vR k :: st) h kc ks
    | some (.inr (.inr (.inr t))) => C 17 lv (vT t :: st) h kc ks
    | _ => False) := rfl
theorem g128_17 (k : Nat) : mm_step (mm_rw mr_128) (some .int) tb call Q C 17 lv (.inr (.inr (.inl (some k))) :: st) h kc ks = (match h.2 k with
    | some (.inr (.inr (ci, fs))) => ci = 8 ∧ (match fs[25]? with
      | some v => C 20 lv (v :: st) h kc ks
      | none => False)
    | _ => False) := rfl
theorem g128_20  : mm_step (mm_rw mr_128) (some .int) tb call Q C 20 lv st h kc ks = (match mm_rd lv 2 with
    | some (.inl a) => C 21 lv (vI a :: st) h kc ks
    | _ => False) := rfl
theorem g128_21 (i : Int32) (k : Nat) : mm_step (mm_rw mr_128) (some .int) tb call Q C 21 lv (.inl i :: .inr (.inr (.inl (some k))) :: st) h kc ks = (match h.2 k with
    | some (.inl (.int, n, f)) => vp_in i n ∧ C 22 lv (vI (f i.toNatClampNeg) :: st) h kc ks
    | _ => False) := rfl
theorem g128_21t (i : Int32) (t : Nat) : mm_step (mm_rw mr_128) (some .int) tb call Q C 21 lv (.inl i :: .inr (.inr (.inr t)) :: st) h kc ks = (vp_in i (tb t).1 ∧ C 22 lv (vI ((tb t).2 i.toNatClampNeg) :: st) h kc ks) := rfl
theorem g128_22 (a b : Int32) : mm_step (mm_rw mr_128) (some .int) tb call Q C 22 lv (.inl b :: .inl a :: st) h kc ks = (C 23 lv (vI (a + b) :: st) h kc ks) := rfl
theorem g128_23 (a : Int32) : mm_step (mm_rw mr_128) (some .int) tb call Q C 23 lv (.inl a :: st) h kc ks = (C 24 (mm_st1 lv 1 (vI a)) st h kc ks) := rfl
theorem g128_24  : mm_step (mm_rw mr_128) (some .int) tb call Q C 24 lv st h kc ks = (match mm_rd lv 2 with
    | some (.inl a) => C 27 (mm_st1 lv 2 (vI (a + 1))) st h kc ks
    | _ => False) := rfl
theorem g128_27  : mm_step (mm_rw mr_128) (some .int) tb call Q C 27 lv st h kc ks = (C 4 lv st h kc ks) := rfl
theorem g128_30  : mm_step (mm_rw mr_128) (some .int) tb call Q C 30 lv st h kc ks = (match mm_rd lv 1 with
    | some (.inl a) => C 31 lv (vI a :: st) h kc ks
    | _ => False) := rfl
theorem g128_31 (v : Int32) : mm_step (mm_rw mr_128) (some .int) tb call Q C 31 lv [.inl v] h kc ks = (True ∧ Q (some (vI v)) h) := rfl
end G128

section OPS3
variable {tb : Nat → Nat × (Nat → Int32)} {d : Nat} {s : MM} {g : SG}
theorem C_around (hk : SgOk g) (hC : InvC g s) (x : Int32) : WM tb (d + 4) k_B_around [vR 0, vI x] (HP s) 0 0 (PostC g s (vI (aAround g x))) := by
  have hC0 := hC
  obtain ⟨h1, h2, h3, h4, h5, h6, h7, h8⟩ := hC
  have hn8 := hk.2.2.2.2.1
  have hlw := hk.2.2.1
  refine WM.of mi_70 rfl rfl (Nat.le_of_ble_eq_true rfl) ?_
  show WP (mm_rw mr_70) (some .int) tb (WM tb (d + 3)) _ 0 [(0, vR 0), (1, vI x)] [] (HP s) 0 0
  (try simp only [Option.toList_some, Option.toList_none, List.nil_append, List.append_nil, List.cons_append, Nat.sub_zero, Nat.sub_self, Nat.zero_sub]); refine Go.wp sp_70 200 ?_; simp only [↓g70_0, ↓g70_1, ↓g70_2, ↓g70_5, ↓g70_8, ↓g70_9, ↓g70_10, ↓g70_11, ↓g70_12, ↓g70_15, ↓g70_18, ↓g70_20, ↓g70_21, ↓g70_22, ↓g70_25, ↓g70_26, ↓g70_29, ↓g70_32, ↓g70_35, ↓g70_36, ↓g70_37, ↓g70_38, ↓g70_40, ↓g70_43, ↓g70_44, ↓g70_47, ↓g70_48, ↓g70_49, ↓g70_52, ↓g70_55, ↓g70_56, ↓g70_57, ↓g70_60, ↓g70_61, ↓g70_64, ↓g70_67, ↓g70_70, ↓g70_73, ↓g70_74, ↓g70_75, ↓g70_78, ↓g70_81, ↓g70_83, cl_32, cl_34, cl_44, cl_85, cl_88, cn_0, cn_1, cn_2, cn_3, cn_4, cn_5, cn_6, cn_7, cn_8, ↓Go_s, ↓GoC_a, ↓reduceIte, ↓mm_call_eq, ↓mmw_nil, ↓mmw_cons, List.take_succ_cons, List.take_zero, List.take_nil, List.drop_succ_cons, List.drop_zero, List.drop_nil, List.reverse_cons, List.reverse_nil, List.nil_append, List.cons_append, List.append_nil, Option.toList_some, Option.toList_none, Nat.sub_zero, Nat.le_refl, mmr_cons, mm_st1, mm_st2, mmi_nil, mmi_cons, mmc_I, mmc_L, mmc_R, mmu_get, mmu_one, mma_get, mma_one, List.filter_cons, List.filter_nil, List.contains_cons, List.contains_nil, Nat.reduceBEq, Nat.reduceAdd, Nat.reduceLT, Nat.reduceSub, Nat.reduceLeDiff, Nat.reduceEqDiff, Int32.reduceAdd, Bool.not_true, Bool.not_false, Bool.and_true, Bool.true_and, Bool.and_false, Bool.false_and, Bool.or_false, Bool.false_or, Bool.or_true, Bool.true_or, if_true, if_false, ite_true, ite_false, Bool.false_eq_true, List.getElem?_cons_zero, List.getElem?_cons_succ, List.length_cons, List.length_nil, true_and, and_true, List.set_cons_zero, List.set_cons_succ, Fin.isValue, Fin.val_zero, Fin.val_one, Fin.val_two, Fin.reduceFinMk, Nat.zero_add, hp_0, hp_1, hp_2, hp_3, hp_4, hp_5, hp_6, hp_7, hp_8, hp_9, hp_10, hp_11, hp_12, hp_13, hp_14, hp_15, hp_16, hp_17, hp_18, hp_19, hp_20, hp_21, hp_22, hp_23, hp_24, hp_25, hp_26, hp_27, hp_28, hp_29, hp_30, hp_31, hp_32, hp_33, hp_34, hp_35, hp_36, hp_37, hp_38, hp_39, hp_40, hp_41, hp_42, hp_43, hp_44, hp_45, hp_46, hp_47, hp_48, hp_49, hp_50, hp_51, hp_52, hp_53, hp_54, hp_55, hp_56, hp_57, hp_58, hp_59, hp_60, hp_61, hp_62, hp_63, hp_64, hp_65, hp_66, hp_67, hp_68, hp_69, hp_70, hp_71, hp_72, hp_73, hp_74, og_0_0, og_0_1, og_0_2, og_0_3, og_0_4, og_0_5, og_0_6, og_0_7, og_0_8, og_0_9, og_0_10, og_0_11, og_0_12, og_0_13, ol_0, og_2_0, og_2_1, og_2_2, og_2_3, og_2_4, og_2_5, og_2_6, ol_2, og_3_0, og_3_1, ol_3, og_5_0, og_5_1, ol_5, og_9_0, og_9_1, og_9_2, og_9_3, og_9_4, og_9_5, og_9_6, ol_9, og_10_0, og_10_1, ol_10, og_12_0, og_12_1, ol_12, og_16_0, og_16_1, og_16_2, ol_16, og_17_0, og_17_1, ol_17, og_21_0, og_21_1, og_21_2, og_21_3, og_21_4, ol_21, og_27_0, og_27_1, og_27_2, og_27_3, og_27_4, og_27_5, og_27_6, og_27_7, og_27_8, og_27_9, og_27_10, ol_27, og_35_0, og_35_1, ol_35, og_37_0, og_37_1, ol_37, og_39_0, og_39_1, ol_39, og_41_0, og_41_1, ol_41, og_43_0, og_43_1, ol_43, og_45_0, og_45_1, ol_45, og_47_0, og_47_1, ol_47, og_49_0, og_49_1, og_49_2, og_49_3, ol_49, og_53_0, og_53_1, ol_53, og_55_0, og_55_1, ol_55, og_57_0, og_57_1, ol_57, og_59_0, og_59_1, ol_59, og_61_0, og_61_1, ol_61, og_63_0, og_63_1, ol_63, og_65_0, og_65_1, og_65_2, ol_65, og_66_0, og_66_1, ol_66, og_70_0, og_70_1, og_70_2, ol_70, og_71_0, og_71_1, ol_71, uo_0_1, uo_0_4, uo_0_8, ua_1, uo_2_0, uo_2_1, uo_2_2, uo_3_1, ua_4, uo_5_1, ua_6, ua_7, ua_8, uo_9_0, uo_9_1, uo_9_2, uo_10_1, ua_11, uo_12_1, ua_13, ua_14, ua_15, uo_17_1, ua_18, ua_19, ua_20, uo_21_4, ua_22, ua_23, ua_24, ua_25, uo_27_2, uo_27_6, uo_27_7, uo_27_8, ua_28, ua_29, ua_31, ua_32, ua_33, ua_34, uo_35_1, ua_36, uo_37_1, ua_38, uo_39_1, ua_40, uo_41_1, ua_42, uo_43_1, ua_44, uo_45_1, ua_46, uo_47_1, ua_48, uo_49_3, ua_51, ua_52, uo_53_1, ua_54, uo_55_1, ua_56, uo_57_1, ua_58, uo_59_1, ua_60, uo_61_1, ua_62, uo_63_1, ua_64, uo_66_1, ua_67, ua_68, ua_69, uo_71_1, ua_72, ua_73, ua_74, sO_g, sA_g, sA_O, sO_A, sO_2, sC_1, sC_2, sC_3, sC_4, sC_5, sC_6, sW_1, sW_2, sW_3, sW_4, uc_0]
  refine ⟨0, 0, _, Nat.le_refl _, Nat.le_refl _, C_isBook h2.1 x, fun z h' hz => ?_⟩
  obtain ⟨rfl, rfl⟩ := hz
  cases hb : isB x (gN g)
  · (try simp only [Option.toList_some, Option.toList_none, List.nil_append, List.append_nil, List.cons_append, Nat.sub_zero, Nat.sub_self, Nat.zero_sub]); refine Go.wp sp_70 200 ?_; simp only [↓g70_0, ↓g70_1, ↓g70_2, ↓g70_5, ↓g70_8, ↓g70_9, ↓g70_10, ↓g70_11, ↓g70_12, ↓g70_15, ↓g70_18, ↓g70_20, ↓g70_21, ↓g70_22, ↓g70_25, ↓g70_26, ↓g70_29, ↓g70_32, ↓g70_35, ↓g70_36, ↓g70_37, ↓g70_38, ↓g70_40, ↓g70_43, ↓g70_44, ↓g70_47, ↓g70_48, ↓g70_49, ↓g70_52, ↓g70_55, ↓g70_56, ↓g70_57, ↓g70_60, ↓g70_61, ↓g70_64, ↓g70_67, ↓g70_70, ↓g70_73, ↓g70_74, ↓g70_75, ↓g70_78, ↓g70_81, ↓g70_83, cl_32, cl_34, cl_44, cl_85, cl_88, cn_0, cn_1, cn_2, cn_3, cn_4, cn_5, cn_6, cn_7, cn_8, ↓Go_s, ↓GoC_a, ↓reduceIte, ↓mm_call_eq, ↓mmw_nil, ↓mmw_cons, List.take_succ_cons, List.take_zero, List.take_nil, List.drop_succ_cons, List.drop_zero, List.drop_nil, List.reverse_cons, List.reverse_nil, List.nil_append, List.cons_append, List.append_nil, Option.toList_some, Option.toList_none, Nat.sub_zero, Nat.le_refl, mmr_cons, mm_st1, mm_st2, mmi_nil, mmi_cons, mmc_I, mmc_L, mmc_R, mmu_get, mmu_one, mma_get, mma_one, List.filter_cons, List.filter_nil, List.contains_cons, List.contains_nil, Nat.reduceBEq, Nat.reduceAdd, Nat.reduceLT, Nat.reduceSub, Nat.reduceLeDiff, Nat.reduceEqDiff, Int32.reduceAdd, Bool.not_true, Bool.not_false, Bool.and_true, Bool.true_and, Bool.and_false, Bool.false_and, Bool.or_false, Bool.false_or, Bool.or_true, Bool.true_or, if_true, if_false, ite_true, ite_false, Bool.false_eq_true, List.getElem?_cons_zero, List.getElem?_cons_succ, List.length_cons, List.length_nil, true_and, and_true, List.set_cons_zero, List.set_cons_succ, Fin.isValue, Fin.val_zero, Fin.val_one, Fin.val_two, Fin.reduceFinMk, Nat.zero_add, hp_0, hp_1, hp_2, hp_3, hp_4, hp_5, hp_6, hp_7, hp_8, hp_9, hp_10, hp_11, hp_12, hp_13, hp_14, hp_15, hp_16, hp_17, hp_18, hp_19, hp_20, hp_21, hp_22, hp_23, hp_24, hp_25, hp_26, hp_27, hp_28, hp_29, hp_30, hp_31, hp_32, hp_33, hp_34, hp_35, hp_36, hp_37, hp_38, hp_39, hp_40, hp_41, hp_42, hp_43, hp_44, hp_45, hp_46, hp_47, hp_48, hp_49, hp_50, hp_51, hp_52, hp_53, hp_54, hp_55, hp_56, hp_57, hp_58, hp_59, hp_60, hp_61, hp_62, hp_63, hp_64, hp_65, hp_66, hp_67, hp_68, hp_69, hp_70, hp_71, hp_72, hp_73, hp_74, og_0_0, og_0_1, og_0_2, og_0_3, og_0_4, og_0_5, og_0_6, og_0_7, og_0_8, og_0_9, og_0_10, og_0_11, og_0_12, og_0_13, ol_0, og_2_0, og_2_1, og_2_2, og_2_3, og_2_4, og_2_5, og_2_6, ol_2, og_3_0, og_3_1, ol_3, og_5_0, og_5_1, ol_5, og_9_0, og_9_1, og_9_2, og_9_3, og_9_4, og_9_5, og_9_6, ol_9, og_10_0, og_10_1, ol_10, og_12_0, og_12_1, ol_12, og_16_0, og_16_1, og_16_2, ol_16, og_17_0, og_17_1, ol_17, og_21_0, og_21_1, og_21_2, og_21_3, og_21_4, ol_21, og_27_0, og_27_1, og_27_2, og_27_3, og_27_4, og_27_5, og_27_6, og_27_7, og_27_8, og_27_9, og_27_10, ol_27, og_35_0, og_35_1, ol_35, og_37_0, og_37_1, ol_37, og_39_0, og_39_1, ol_39, og_41_0, og_41_1, ol_41, og_43_0, og_43_1, ol_43, og_45_0, og_45_1, ol_45, og_47_0, og_47_1, ol_47, og_49_0, og_49_1, og_49_2, og_49_3, ol_49, og_53_0, og_53_1, ol_53, og_55_0, og_55_1, ol_55, og_57_0, og_57_1, ol_57, og_59_0, og_59_1, ol_59, og_61_0, og_61_1, ol_61, og_63_0, og_63_1, ol_63, og_65_0, og_65_1, og_65_2, ol_65, og_66_0, og_66_1, ol_66, og_70_0, og_70_1, og_70_2, ol_70, og_71_0, og_71_1, ol_71, uo_0_1, uo_0_4, uo_0_8, ua_1, uo_2_0, uo_2_1, uo_2_2, uo_3_1, ua_4, uo_5_1, ua_6, ua_7, ua_8, uo_9_0, uo_9_1, uo_9_2, uo_10_1, ua_11, uo_12_1, ua_13, ua_14, ua_15, uo_17_1, ua_18, ua_19, ua_20, uo_21_4, ua_22, ua_23, ua_24, ua_25, uo_27_2, uo_27_6, uo_27_7, uo_27_8, ua_28, ua_29, ua_31, ua_32, ua_33, ua_34, uo_35_1, ua_36, uo_37_1, ua_38, uo_39_1, ua_40, uo_41_1, ua_42, uo_43_1, ua_44, uo_45_1, ua_46, uo_47_1, ua_48, uo_49_3, ua_51, ua_52, uo_53_1, ua_54, uo_55_1, ua_56, uo_57_1, ua_58, uo_59_1, ua_60, uo_61_1, ua_62, uo_63_1, ua_64, uo_66_1, ua_67, ua_68, ua_69, uo_71_1, ua_72, ua_73, ua_74, sO_g, sA_g, sA_O, sO_A, sO_2, sC_1, sC_2, sC_3, sC_4, sC_5, sC_6, sW_1, sW_2, sW_3, sW_4, uc_0, b01_f]
    exact ⟨fun c => absurd trivial c, fun _ => ⟨by unfold aAround; rw [if_neg (by rw [hb]; decide)], s, rfl, hC0, agM.rf⟩⟩
  · obtain ⟨j, hj, rfl⟩ := isB_t (by omega) hb
    have e2 : (nI j).toNatClampNeg = j := nI_clamp (by omega)
    (try simp only [Option.toList_some, Option.toList_none, List.nil_append, List.append_nil, List.cons_append, Nat.sub_zero, Nat.sub_self, Nat.zero_sub]); refine Go.wp sp_70 200 ?_; simp only [↓g70_0, ↓g70_1, ↓g70_2, ↓g70_5, ↓g70_8, ↓g70_9, ↓g70_10, ↓g70_11, ↓g70_12, ↓g70_15, ↓g70_18, ↓g70_20, ↓g70_21, ↓g70_22, ↓g70_25, ↓g70_26, ↓g70_29, ↓g70_32, ↓g70_35, ↓g70_36, ↓g70_37, ↓g70_38, ↓g70_40, ↓g70_43, ↓g70_44, ↓g70_47, ↓g70_48, ↓g70_49, ↓g70_52, ↓g70_55, ↓g70_56, ↓g70_57, ↓g70_60, ↓g70_61, ↓g70_64, ↓g70_67, ↓g70_70, ↓g70_73, ↓g70_74, ↓g70_75, ↓g70_78, ↓g70_81, ↓g70_83, cl_32, cl_34, cl_44, cl_85, cl_88, cn_0, cn_1, cn_2, cn_3, cn_4, cn_5, cn_6, cn_7, cn_8, ↓Go_s, ↓GoC_a, ↓reduceIte, ↓mm_call_eq, ↓mmw_nil, ↓mmw_cons, List.take_succ_cons, List.take_zero, List.take_nil, List.drop_succ_cons, List.drop_zero, List.drop_nil, List.reverse_cons, List.reverse_nil, List.nil_append, List.cons_append, List.append_nil, Option.toList_some, Option.toList_none, Nat.sub_zero, Nat.le_refl, mmr_cons, mm_st1, mm_st2, mmi_nil, mmi_cons, mmc_I, mmc_L, mmc_R, mmu_get, mmu_one, mma_get, mma_one, List.filter_cons, List.filter_nil, List.contains_cons, List.contains_nil, Nat.reduceBEq, Nat.reduceAdd, Nat.reduceLT, Nat.reduceSub, Nat.reduceLeDiff, Nat.reduceEqDiff, Int32.reduceAdd, Bool.not_true, Bool.not_false, Bool.and_true, Bool.true_and, Bool.and_false, Bool.false_and, Bool.or_false, Bool.false_or, Bool.or_true, Bool.true_or, if_true, if_false, ite_true, ite_false, Bool.false_eq_true, List.getElem?_cons_zero, List.getElem?_cons_succ, List.length_cons, List.length_nil, true_and, and_true, List.set_cons_zero, List.set_cons_succ, Fin.isValue, Fin.val_zero, Fin.val_one, Fin.val_two, Fin.reduceFinMk, Nat.zero_add, hp_0, hp_1, hp_2, hp_3, hp_4, hp_5, hp_6, hp_7, hp_8, hp_9, hp_10, hp_11, hp_12, hp_13, hp_14, hp_15, hp_16, hp_17, hp_18, hp_19, hp_20, hp_21, hp_22, hp_23, hp_24, hp_25, hp_26, hp_27, hp_28, hp_29, hp_30, hp_31, hp_32, hp_33, hp_34, hp_35, hp_36, hp_37, hp_38, hp_39, hp_40, hp_41, hp_42, hp_43, hp_44, hp_45, hp_46, hp_47, hp_48, hp_49, hp_50, hp_51, hp_52, hp_53, hp_54, hp_55, hp_56, hp_57, hp_58, hp_59, hp_60, hp_61, hp_62, hp_63, hp_64, hp_65, hp_66, hp_67, hp_68, hp_69, hp_70, hp_71, hp_72, hp_73, hp_74, og_0_0, og_0_1, og_0_2, og_0_3, og_0_4, og_0_5, og_0_6, og_0_7, og_0_8, og_0_9, og_0_10, og_0_11, og_0_12, og_0_13, ol_0, og_2_0, og_2_1, og_2_2, og_2_3, og_2_4, og_2_5, og_2_6, ol_2, og_3_0, og_3_1, ol_3, og_5_0, og_5_1, ol_5, og_9_0, og_9_1, og_9_2, og_9_3, og_9_4, og_9_5, og_9_6, ol_9, og_10_0, og_10_1, ol_10, og_12_0, og_12_1, ol_12, og_16_0, og_16_1, og_16_2, ol_16, og_17_0, og_17_1, ol_17, og_21_0, og_21_1, og_21_2, og_21_3, og_21_4, ol_21, og_27_0, og_27_1, og_27_2, og_27_3, og_27_4, og_27_5, og_27_6, og_27_7, og_27_8, og_27_9, og_27_10, ol_27, og_35_0, og_35_1, ol_35, og_37_0, og_37_1, ol_37, og_39_0, og_39_1, ol_39, og_41_0, og_41_1, ol_41, og_43_0, og_43_1, ol_43, og_45_0, og_45_1, ol_45, og_47_0, og_47_1, ol_47, og_49_0, og_49_1, og_49_2, og_49_3, ol_49, og_53_0, og_53_1, ol_53, og_55_0, og_55_1, ol_55, og_57_0, og_57_1, ol_57, og_59_0, og_59_1, ol_59, og_61_0, og_61_1, ol_61, og_63_0, og_63_1, ol_63, og_65_0, og_65_1, og_65_2, ol_65, og_66_0, og_66_1, ol_66, og_70_0, og_70_1, og_70_2, ol_70, og_71_0, og_71_1, ol_71, uo_0_1, uo_0_4, uo_0_8, ua_1, uo_2_0, uo_2_1, uo_2_2, uo_3_1, ua_4, uo_5_1, ua_6, ua_7, ua_8, uo_9_0, uo_9_1, uo_9_2, uo_10_1, ua_11, uo_12_1, ua_13, ua_14, ua_15, uo_17_1, ua_18, ua_19, ua_20, uo_21_4, ua_22, ua_23, ua_24, ua_25, uo_27_2, uo_27_6, uo_27_7, uo_27_8, ua_28, ua_29, ua_31, ua_32, ua_33, ua_34, uo_35_1, ua_36, uo_37_1, ua_38, uo_39_1, ua_40, uo_41_1, ua_42, uo_43_1, ua_44, uo_45_1, ua_46, uo_47_1, ua_48, uo_49_3, ua_51, ua_52, uo_53_1, ua_54, uo_55_1, ua_56, uo_57_1, ua_58, uo_59_1, ua_60, uo_61_1, ua_62, uo_63_1, ua_64, uo_66_1, ua_67, ua_68, ua_69, uo_71_1, ua_72, ua_73, ua_74, sO_g, sA_g, sA_O, sO_A, sO_2, sC_1, sC_2, sC_3, sC_4, sC_5, sC_6, sW_1, sW_2, sW_3, sW_4, uc_0, b01_t]
    refine ⟨fun _ => ⟨0, 0, _, Nat.le_refl _, Nat.le_refl _, C_stands (d := d + 1) h4.1 (by omega), fun z h' hz => ?_⟩, fun c => absurd c (by decide)⟩
    obtain ⟨rfl, rfl⟩ := hz
    by_cases hm : j ∈ (gDk g).1
    · rw [decide_eq_true hm]
      (try simp only [Option.toList_some, Option.toList_none, List.nil_append, List.append_nil, List.cons_append, Nat.sub_zero, Nat.sub_self, Nat.zero_sub]); refine Go.wp sp_70 200 ?_; simp only [↓g70_0, ↓g70_1, ↓g70_2, ↓g70_5, ↓g70_8, ↓g70_9, ↓g70_10, ↓g70_11, ↓g70_12, ↓g70_15, ↓g70_18, ↓g70_20, ↓g70_21, ↓g70_22, ↓g70_25, ↓g70_26, ↓g70_29, ↓g70_32, ↓g70_35, ↓g70_36, ↓g70_37, ↓g70_38, ↓g70_40, ↓g70_43, ↓g70_44, ↓g70_47, ↓g70_48, ↓g70_49, ↓g70_52, ↓g70_55, ↓g70_56, ↓g70_57, ↓g70_60, ↓g70_61, ↓g70_64, ↓g70_67, ↓g70_70, ↓g70_73, ↓g70_74, ↓g70_75, ↓g70_78, ↓g70_81, ↓g70_83, cl_32, cl_34, cl_44, cl_85, cl_88, cn_0, cn_1, cn_2, cn_3, cn_4, cn_5, cn_6, cn_7, cn_8, ↓Go_s, ↓GoC_a, ↓reduceIte, ↓mm_call_eq, ↓mmw_nil, ↓mmw_cons, List.take_succ_cons, List.take_zero, List.take_nil, List.drop_succ_cons, List.drop_zero, List.drop_nil, List.reverse_cons, List.reverse_nil, List.nil_append, List.cons_append, List.append_nil, Option.toList_some, Option.toList_none, Nat.sub_zero, Nat.le_refl, mmr_cons, mm_st1, mm_st2, mmi_nil, mmi_cons, mmc_I, mmc_L, mmc_R, mmu_get, mmu_one, mma_get, mma_one, List.filter_cons, List.filter_nil, List.contains_cons, List.contains_nil, Nat.reduceBEq, Nat.reduceAdd, Nat.reduceLT, Nat.reduceSub, Nat.reduceLeDiff, Nat.reduceEqDiff, Int32.reduceAdd, Bool.not_true, Bool.not_false, Bool.and_true, Bool.true_and, Bool.and_false, Bool.false_and, Bool.or_false, Bool.false_or, Bool.or_true, Bool.true_or, if_true, if_false, ite_true, ite_false, Bool.false_eq_true, List.getElem?_cons_zero, List.getElem?_cons_succ, List.length_cons, List.length_nil, true_and, and_true, List.set_cons_zero, List.set_cons_succ, Fin.isValue, Fin.val_zero, Fin.val_one, Fin.val_two, Fin.reduceFinMk, Nat.zero_add, hp_0, hp_1, hp_2, hp_3, hp_4, hp_5, hp_6, hp_7, hp_8, hp_9, hp_10, hp_11, hp_12, hp_13, hp_14, hp_15, hp_16, hp_17, hp_18, hp_19, hp_20, hp_21, hp_22, hp_23, hp_24, hp_25, hp_26, hp_27, hp_28, hp_29, hp_30, hp_31, hp_32, hp_33, hp_34, hp_35, hp_36, hp_37, hp_38, hp_39, hp_40, hp_41, hp_42, hp_43, hp_44, hp_45, hp_46, hp_47, hp_48, hp_49, hp_50, hp_51, hp_52, hp_53, hp_54, hp_55, hp_56, hp_57, hp_58, hp_59, hp_60, hp_61, hp_62, hp_63, hp_64, hp_65, hp_66, hp_67, hp_68, hp_69, hp_70, hp_71, hp_72, hp_73, hp_74, og_0_0, og_0_1, og_0_2, og_0_3, og_0_4, og_0_5, og_0_6, og_0_7, og_0_8, og_0_9, og_0_10, og_0_11, og_0_12, og_0_13, ol_0, og_2_0, og_2_1, og_2_2, og_2_3, og_2_4, og_2_5, og_2_6, ol_2, og_3_0, og_3_1, ol_3, og_5_0, og_5_1, ol_5, og_9_0, og_9_1, og_9_2, og_9_3, og_9_4, og_9_5, og_9_6, ol_9, og_10_0, og_10_1, ol_10, og_12_0, og_12_1, ol_12, og_16_0, og_16_1, og_16_2, ol_16, og_17_0, og_17_1, ol_17, og_21_0, og_21_1, og_21_2, og_21_3, og_21_4, ol_21, og_27_0, og_27_1, og_27_2, og_27_3, og_27_4, og_27_5, og_27_6, og_27_7, og_27_8, og_27_9, og_27_10, ol_27, og_35_0, og_35_1, ol_35, og_37_0, og_37_1, ol_37, og_39_0, og_39_1, ol_39, og_41_0, og_41_1, ol_41, og_43_0, og_43_1, ol_43, og_45_0, og_45_1, ol_45, og_47_0, og_47_1, ol_47, og_49_0, og_49_1, og_49_2, og_49_3, ol_49, og_53_0, og_53_1, ol_53, og_55_0, og_55_1, ol_55, og_57_0, og_57_1, ol_57, og_59_0, og_59_1, ol_59, og_61_0, og_61_1, ol_61, og_63_0, og_63_1, ol_63, og_65_0, og_65_1, og_65_2, ol_65, og_66_0, og_66_1, ol_66, og_70_0, og_70_1, og_70_2, ol_70, og_71_0, og_71_1, ol_71, uo_0_1, uo_0_4, uo_0_8, ua_1, uo_2_0, uo_2_1, uo_2_2, uo_3_1, ua_4, uo_5_1, ua_6, ua_7, ua_8, uo_9_0, uo_9_1, uo_9_2, uo_10_1, ua_11, uo_12_1, ua_13, ua_14, ua_15, uo_17_1, ua_18, ua_19, ua_20, uo_21_4, ua_22, ua_23, ua_24, ua_25, uo_27_2, uo_27_6, uo_27_7, uo_27_8, ua_28, ua_29, ua_31, ua_32, ua_33, ua_34, uo_35_1, ua_36, uo_37_1, ua_38, uo_39_1, ua_40, uo_41_1, ua_42, uo_43_1, ua_44, uo_45_1, ua_46, uo_47_1, ua_48, uo_49_3, ua_51, ua_52, uo_53_1, ua_54, uo_55_1, ua_56, uo_57_1, ua_58, uo_59_1, ua_60, uo_61_1, ua_62, uo_63_1, ua_64, uo_66_1, ua_67, ua_68, ua_69, uo_71_1, ua_72, ua_73, ua_74, sO_g, sA_g, sA_O, sO_A, sO_2, sC_1, sC_2, sC_3, sC_4, sC_5, sC_6, sW_1, sW_2, sW_3, sW_4, uc_0, b01_t]
      refine ⟨fun _ => ⟨0, 0, _, Nat.le_refl _, Nat.le_refl _, C_trial (d := d + 2) h4, fun z h' hz => ?_⟩, fun c => absurd c (by decide)⟩
      obtain ⟨rfl, f0, rfl, hr0⟩ := hz
      have key : ∀ r k f z xs, r = 100 - k → k ≤ 100 → Rk (gDk g).1 xs → RS (sT s f z) 63 64 xs → arP (gLw g) j (gDk g).1 99 1 (gDk g).1 = arP (gLw g) j (gDk g).1 r k xs → WP (mm_rw mr_70) (some .int) tb (WM tb (d + 3)) (PostC g s (vI (aAround g (nI j)))) 37 [(0, vR 0), (1, vI (nI j)), (2, vI (nI k))] [] (HP (sT s f z)) 0 0 := by
        intro r
        induction r with
        | zero =>
          intro k f z xs hr hk1 hp hx ha
          have e : k = 100 := by omega
          subst e
          (try simp only [Option.toList_some, Option.toList_none, List.nil_append, List.append_nil, List.cons_append, Nat.sub_zero, Nat.sub_self, Nat.zero_sub]); refine Go.wp sp_70 200 ?_; simp only [↓g70_0, ↓g70_1, ↓g70_2, ↓g70_5, ↓g70_8, ↓g70_9, ↓g70_10, ↓g70_11, ↓g70_12, ↓g70_15, ↓g70_18, ↓g70_20, ↓g70_21, ↓g70_22, ↓g70_25, ↓g70_26, ↓g70_29, ↓g70_32, ↓g70_35, ↓g70_36, ↓g70_37, ↓g70_38, ↓g70_40, ↓g70_43, ↓g70_44, ↓g70_47, ↓g70_48, ↓g70_49, ↓g70_52, ↓g70_55, ↓g70_56, ↓g70_57, ↓g70_60, ↓g70_61, ↓g70_64, ↓g70_67, ↓g70_70, ↓g70_73, ↓g70_74, ↓g70_75, ↓g70_78, ↓g70_81, ↓g70_83, cl_32, cl_34, cl_44, cl_85, cl_88, cn_0, cn_1, cn_2, cn_3, cn_4, cn_5, cn_6, cn_7, cn_8, ↓Go_s, ↓GoC_a, ↓reduceIte, ↓mm_call_eq, ↓mmw_nil, ↓mmw_cons, List.take_succ_cons, List.take_zero, List.take_nil, List.drop_succ_cons, List.drop_zero, List.drop_nil, List.reverse_cons, List.reverse_nil, List.nil_append, List.cons_append, List.append_nil, Option.toList_some, Option.toList_none, Nat.sub_zero, Nat.le_refl, mmr_cons, mm_st1, mm_st2, mmi_nil, mmi_cons, mmc_I, mmc_L, mmc_R, mmu_get, mmu_one, mma_get, mma_one, List.filter_cons, List.filter_nil, List.contains_cons, List.contains_nil, Nat.reduceBEq, Nat.reduceAdd, Nat.reduceLT, Nat.reduceSub, Nat.reduceLeDiff, Nat.reduceEqDiff, Int32.reduceAdd, Bool.not_true, Bool.not_false, Bool.and_true, Bool.true_and, Bool.and_false, Bool.false_and, Bool.or_false, Bool.false_or, Bool.or_true, Bool.true_or, if_true, if_false, ite_true, ite_false, Bool.false_eq_true, List.getElem?_cons_zero, List.getElem?_cons_succ, List.length_cons, List.length_nil, true_and, and_true, List.set_cons_zero, List.set_cons_succ, Fin.isValue, Fin.val_zero, Fin.val_one, Fin.val_two, Fin.reduceFinMk, Nat.zero_add, hp_0, hp_1, hp_2, hp_3, hp_4, hp_5, hp_6, hp_7, hp_8, hp_9, hp_10, hp_11, hp_12, hp_13, hp_14, hp_15, hp_16, hp_17, hp_18, hp_19, hp_20, hp_21, hp_22, hp_23, hp_24, hp_25, hp_26, hp_27, hp_28, hp_29, hp_30, hp_31, hp_32, hp_33, hp_34, hp_35, hp_36, hp_37, hp_38, hp_39, hp_40, hp_41, hp_42, hp_43, hp_44, hp_45, hp_46, hp_47, hp_48, hp_49, hp_50, hp_51, hp_52, hp_53, hp_54, hp_55, hp_56, hp_57, hp_58, hp_59, hp_60, hp_61, hp_62, hp_63, hp_64, hp_65, hp_66, hp_67, hp_68, hp_69, hp_70, hp_71, hp_72, hp_73, hp_74, og_0_0, og_0_1, og_0_2, og_0_3, og_0_4, og_0_5, og_0_6, og_0_7, og_0_8, og_0_9, og_0_10, og_0_11, og_0_12, og_0_13, ol_0, og_2_0, og_2_1, og_2_2, og_2_3, og_2_4, og_2_5, og_2_6, ol_2, og_3_0, og_3_1, ol_3, og_5_0, og_5_1, ol_5, og_9_0, og_9_1, og_9_2, og_9_3, og_9_4, og_9_5, og_9_6, ol_9, og_10_0, og_10_1, ol_10, og_12_0, og_12_1, ol_12, og_16_0, og_16_1, og_16_2, ol_16, og_17_0, og_17_1, ol_17, og_21_0, og_21_1, og_21_2, og_21_3, og_21_4, ol_21, og_27_0, og_27_1, og_27_2, og_27_3, og_27_4, og_27_5, og_27_6, og_27_7, og_27_8, og_27_9, og_27_10, ol_27, og_35_0, og_35_1, ol_35, og_37_0, og_37_1, ol_37, og_39_0, og_39_1, ol_39, og_41_0, og_41_1, ol_41, og_43_0, og_43_1, ol_43, og_45_0, og_45_1, ol_45, og_47_0, og_47_1, ol_47, og_49_0, og_49_1, og_49_2, og_49_3, ol_49, og_53_0, og_53_1, ol_53, og_55_0, og_55_1, ol_55, og_57_0, og_57_1, ol_57, og_59_0, og_59_1, ol_59, og_61_0, og_61_1, ol_61, og_63_0, og_63_1, ol_63, og_65_0, og_65_1, og_65_2, ol_65, og_66_0, og_66_1, ol_66, og_70_0, og_70_1, og_70_2, ol_70, og_71_0, og_71_1, ol_71, uo_0_1, uo_0_4, uo_0_8, ua_1, uo_2_0, uo_2_1, uo_2_2, uo_3_1, ua_4, uo_5_1, ua_6, ua_7, ua_8, uo_9_0, uo_9_1, uo_9_2, uo_10_1, ua_11, uo_12_1, ua_13, ua_14, ua_15, uo_17_1, ua_18, ua_19, ua_20, uo_21_4, ua_22, ua_23, ua_24, ua_25, uo_27_2, uo_27_6, uo_27_7, uo_27_8, ua_28, ua_29, ua_31, ua_32, ua_33, ua_34, uo_35_1, ua_36, uo_37_1, ua_38, uo_39_1, ua_40, uo_41_1, ua_42, uo_43_1, ua_44, uo_45_1, ua_46, uo_47_1, ua_48, uo_49_3, ua_51, ua_52, uo_53_1, ua_54, uo_55_1, ua_56, uo_57_1, ua_58, uo_59_1, ua_60, uo_61_1, ua_62, uo_63_1, ua_64, uo_66_1, ua_67, ua_68, ua_69, uo_71_1, ua_72, ua_73, ua_74, sO_g, sA_g, sA_O, sO_A, sO_2, sC_1, sC_2, sC_3, sC_4, sC_5, sC_6, sW_1, sW_2, sW_3, sW_4, uc_0]
          refine ⟨fun _ => ⟨?_, _, rfl, hC0.trial _ _, agM.trial _ _⟩, fun c => absurd (by decide) c⟩
          unfold aAround
          rw [if_pos hb, e2, if_pos hm, ha]
          rfl
        | succ r ih =>
          intro k f z xs hr hk1 hp hx ha
          have hmx : j ∈ xs := hp.mem.mpr hm
          have hl : (sT s f z).2.1 0 4 = nI (gLw g) := h3
          (try simp only [Option.toList_some, Option.toList_none, List.nil_append, List.append_nil, List.cons_append, Nat.sub_zero, Nat.sub_self, Nat.zero_sub]); refine Go.wp sp_70 200 ?_; simp only [↓g70_0, ↓g70_1, ↓g70_2, ↓g70_5, ↓g70_8, ↓g70_9, ↓g70_10, ↓g70_11, ↓g70_12, ↓g70_15, ↓g70_18, ↓g70_20, ↓g70_21, ↓g70_22, ↓g70_25, ↓g70_26, ↓g70_29, ↓g70_32, ↓g70_35, ↓g70_36, ↓g70_37, ↓g70_38, ↓g70_40, ↓g70_43, ↓g70_44, ↓g70_47, ↓g70_48, ↓g70_49, ↓g70_52, ↓g70_55, ↓g70_56, ↓g70_57, ↓g70_60, ↓g70_61, ↓g70_64, ↓g70_67, ↓g70_70, ↓g70_73, ↓g70_74, ↓g70_75, ↓g70_78, ↓g70_81, ↓g70_83, cl_32, cl_34, cl_44, cl_85, cl_88, cn_0, cn_1, cn_2, cn_3, cn_4, cn_5, cn_6, cn_7, cn_8, ↓Go_s, ↓GoC_a, ↓reduceIte, ↓mm_call_eq, ↓mmw_nil, ↓mmw_cons, List.take_succ_cons, List.take_zero, List.take_nil, List.drop_succ_cons, List.drop_zero, List.drop_nil, List.reverse_cons, List.reverse_nil, List.nil_append, List.cons_append, List.append_nil, Option.toList_some, Option.toList_none, Nat.sub_zero, Nat.le_refl, mmr_cons, mm_st1, mm_st2, mmi_nil, mmi_cons, mmc_I, mmc_L, mmc_R, mmu_get, mmu_one, mma_get, mma_one, List.filter_cons, List.filter_nil, List.contains_cons, List.contains_nil, Nat.reduceBEq, Nat.reduceAdd, Nat.reduceLT, Nat.reduceSub, Nat.reduceLeDiff, Nat.reduceEqDiff, Int32.reduceAdd, Bool.not_true, Bool.not_false, Bool.and_true, Bool.true_and, Bool.and_false, Bool.false_and, Bool.or_false, Bool.false_or, Bool.or_true, Bool.true_or, if_true, if_false, ite_true, ite_false, Bool.false_eq_true, List.getElem?_cons_zero, List.getElem?_cons_succ, List.length_cons, List.length_nil, true_and, and_true, List.set_cons_zero, List.set_cons_succ, Fin.isValue, Fin.val_zero, Fin.val_one, Fin.val_two, Fin.reduceFinMk, Nat.zero_add, hp_0, hp_1, hp_2, hp_3, hp_4, hp_5, hp_6, hp_7, hp_8, hp_9, hp_10, hp_11, hp_12, hp_13, hp_14, hp_15, hp_16, hp_17, hp_18, hp_19, hp_20, hp_21, hp_22, hp_23, hp_24, hp_25, hp_26, hp_27, hp_28, hp_29, hp_30, hp_31, hp_32, hp_33, hp_34, hp_35, hp_36, hp_37, hp_38, hp_39, hp_40, hp_41, hp_42, hp_43, hp_44, hp_45, hp_46, hp_47, hp_48, hp_49, hp_50, hp_51, hp_52, hp_53, hp_54, hp_55, hp_56, hp_57, hp_58, hp_59, hp_60, hp_61, hp_62, hp_63, hp_64, hp_65, hp_66, hp_67, hp_68, hp_69, hp_70, hp_71, hp_72, hp_73, hp_74, og_0_0, og_0_1, og_0_2, og_0_3, og_0_4, og_0_5, og_0_6, og_0_7, og_0_8, og_0_9, og_0_10, og_0_11, og_0_12, og_0_13, ol_0, og_2_0, og_2_1, og_2_2, og_2_3, og_2_4, og_2_5, og_2_6, ol_2, og_3_0, og_3_1, ol_3, og_5_0, og_5_1, ol_5, og_9_0, og_9_1, og_9_2, og_9_3, og_9_4, og_9_5, og_9_6, ol_9, og_10_0, og_10_1, ol_10, og_12_0, og_12_1, ol_12, og_16_0, og_16_1, og_16_2, ol_16, og_17_0, og_17_1, ol_17, og_21_0, og_21_1, og_21_2, og_21_3, og_21_4, ol_21, og_27_0, og_27_1, og_27_2, og_27_3, og_27_4, og_27_5, og_27_6, og_27_7, og_27_8, og_27_9, og_27_10, ol_27, og_35_0, og_35_1, ol_35, og_37_0, og_37_1, ol_37, og_39_0, og_39_1, ol_39, og_41_0, og_41_1, ol_41, og_43_0, og_43_1, ol_43, og_45_0, og_45_1, ol_45, og_47_0, og_47_1, ol_47, og_49_0, og_49_1, og_49_2, og_49_3, ol_49, og_53_0, og_53_1, ol_53, og_55_0, og_55_1, ol_55, og_57_0, og_57_1, ol_57, og_59_0, og_59_1, ol_59, og_61_0, og_61_1, ol_61, og_63_0, og_63_1, ol_63, og_65_0, og_65_1, og_65_2, ol_65, og_66_0, og_66_1, ol_66, og_70_0, og_70_1, og_70_2, ol_70, og_71_0, og_71_1, ol_71, uo_0_1, uo_0_4, uo_0_8, ua_1, uo_2_0, uo_2_1, uo_2_2, uo_3_1, ua_4, uo_5_1, ua_6, ua_7, ua_8, uo_9_0, uo_9_1, uo_9_2, uo_10_1, ua_11, uo_12_1, ua_13, ua_14, ua_15, uo_17_1, ua_18, ua_19, ua_20, uo_21_4, ua_22, ua_23, ua_24, ua_25, uo_27_2, uo_27_6, uo_27_7, uo_27_8, ua_28, ua_29, ua_31, ua_32, ua_33, ua_34, uo_35_1, ua_36, uo_37_1, ua_38, uo_39_1, ua_40, uo_41_1, ua_42, uo_43_1, ua_44, uo_45_1, ua_46, uo_47_1, ua_48, uo_49_3, ua_51, ua_52, uo_53_1, ua_54, uo_55_1, ua_56, uo_57_1, ua_58, uo_59_1, ua_60, uo_61_1, ua_62, uo_63_1, ua_64, uo_66_1, ua_67, ua_68, ua_69, uo_71_1, ua_72, ua_73, ua_74, sO_g, sA_g, sA_O, sO_A, sO_2, sC_1, sC_2, sC_3, sC_4, sC_5, sC_6, sW_1, sW_2, sW_3, sW_4, uc_0, hl]
          refine ⟨fun c => absurd c (nI_ge (show k < 100 by omega) (by omega)), fun _ => ⟨0, 0, _, Nat.le_refl _, Nat.le_refl _, C_tripT (d := d) hx (by omega) hlw, fun z1 h' hz => ?_⟩⟩
          obtain ⟨rfl, f', z', rfl, hx'⟩ := hz
          rw [if_pos hmx] at hx' ⊢
          (try simp only [Option.toList_some, Option.toList_none, List.nil_append, List.append_nil, List.cons_append, Nat.sub_zero, Nat.sub_self, Nat.zero_sub]); refine Go.wp sp_70 200 ?_; simp only [↓g70_0, ↓g70_1, ↓g70_2, ↓g70_5, ↓g70_8, ↓g70_9, ↓g70_10, ↓g70_11, ↓g70_12, ↓g70_15, ↓g70_18, ↓g70_20, ↓g70_21, ↓g70_22, ↓g70_25, ↓g70_26, ↓g70_29, ↓g70_32, ↓g70_35, ↓g70_36, ↓g70_37, ↓g70_38, ↓g70_40, ↓g70_43, ↓g70_44, ↓g70_47, ↓g70_48, ↓g70_49, ↓g70_52, ↓g70_55, ↓g70_56, ↓g70_57, ↓g70_60, ↓g70_61, ↓g70_64, ↓g70_67, ↓g70_70, ↓g70_73, ↓g70_74, ↓g70_75, ↓g70_78, ↓g70_81, ↓g70_83, cl_32, cl_34, cl_44, cl_85, cl_88, cn_0, cn_1, cn_2, cn_3, cn_4, cn_5, cn_6, cn_7, cn_8, ↓Go_s, ↓GoC_a, ↓reduceIte, ↓mm_call_eq, ↓mmw_nil, ↓mmw_cons, List.take_succ_cons, List.take_zero, List.take_nil, List.drop_succ_cons, List.drop_zero, List.drop_nil, List.reverse_cons, List.reverse_nil, List.nil_append, List.cons_append, List.append_nil, Option.toList_some, Option.toList_none, Nat.sub_zero, Nat.le_refl, mmr_cons, mm_st1, mm_st2, mmi_nil, mmi_cons, mmc_I, mmc_L, mmc_R, mmu_get, mmu_one, mma_get, mma_one, List.filter_cons, List.filter_nil, List.contains_cons, List.contains_nil, Nat.reduceBEq, Nat.reduceAdd, Nat.reduceLT, Nat.reduceSub, Nat.reduceLeDiff, Nat.reduceEqDiff, Int32.reduceAdd, Bool.not_true, Bool.not_false, Bool.and_true, Bool.true_and, Bool.and_false, Bool.false_and, Bool.or_false, Bool.false_or, Bool.or_true, Bool.true_or, if_true, if_false, ite_true, ite_false, Bool.false_eq_true, List.getElem?_cons_zero, List.getElem?_cons_succ, List.length_cons, List.length_nil, true_and, and_true, List.set_cons_zero, List.set_cons_succ, Fin.isValue, Fin.val_zero, Fin.val_one, Fin.val_two, Fin.reduceFinMk, Nat.zero_add, hp_0, hp_1, hp_2, hp_3, hp_4, hp_5, hp_6, hp_7, hp_8, hp_9, hp_10, hp_11, hp_12, hp_13, hp_14, hp_15, hp_16, hp_17, hp_18, hp_19, hp_20, hp_21, hp_22, hp_23, hp_24, hp_25, hp_26, hp_27, hp_28, hp_29, hp_30, hp_31, hp_32, hp_33, hp_34, hp_35, hp_36, hp_37, hp_38, hp_39, hp_40, hp_41, hp_42, hp_43, hp_44, hp_45, hp_46, hp_47, hp_48, hp_49, hp_50, hp_51, hp_52, hp_53, hp_54, hp_55, hp_56, hp_57, hp_58, hp_59, hp_60, hp_61, hp_62, hp_63, hp_64, hp_65, hp_66, hp_67, hp_68, hp_69, hp_70, hp_71, hp_72, hp_73, hp_74, og_0_0, og_0_1, og_0_2, og_0_3, og_0_4, og_0_5, og_0_6, og_0_7, og_0_8, og_0_9, og_0_10, og_0_11, og_0_12, og_0_13, ol_0, og_2_0, og_2_1, og_2_2, og_2_3, og_2_4, og_2_5, og_2_6, ol_2, og_3_0, og_3_1, ol_3, og_5_0, og_5_1, ol_5, og_9_0, og_9_1, og_9_2, og_9_3, og_9_4, og_9_5, og_9_6, ol_9, og_10_0, og_10_1, ol_10, og_12_0, og_12_1, ol_12, og_16_0, og_16_1, og_16_2, ol_16, og_17_0, og_17_1, ol_17, og_21_0, og_21_1, og_21_2, og_21_3, og_21_4, ol_21, og_27_0, og_27_1, og_27_2, og_27_3, og_27_4, og_27_5, og_27_6, og_27_7, og_27_8, og_27_9, og_27_10, ol_27, og_35_0, og_35_1, ol_35, og_37_0, og_37_1, ol_37, og_39_0, og_39_1, ol_39, og_41_0, og_41_1, ol_41, og_43_0, og_43_1, ol_43, og_45_0, og_45_1, ol_45, og_47_0, og_47_1, ol_47, og_49_0, og_49_1, og_49_2, og_49_3, ol_49, og_53_0, og_53_1, ol_53, og_55_0, og_55_1, ol_55, og_57_0, og_57_1, ol_57, og_59_0, og_59_1, ol_59, og_61_0, og_61_1, ol_61, og_63_0, og_63_1, ol_63, og_65_0, og_65_1, og_65_2, ol_65, og_66_0, og_66_1, ol_66, og_70_0, og_70_1, og_70_2, ol_70, og_71_0, og_71_1, ol_71, uo_0_1, uo_0_4, uo_0_8, ua_1, uo_2_0, uo_2_1, uo_2_2, uo_3_1, ua_4, uo_5_1, ua_6, ua_7, ua_8, uo_9_0, uo_9_1, uo_9_2, uo_10_1, ua_11, uo_12_1, ua_13, ua_14, ua_15, uo_17_1, ua_18, ua_19, ua_20, uo_21_4, ua_22, ua_23, ua_24, ua_25, uo_27_2, uo_27_6, uo_27_7, uo_27_8, ua_28, ua_29, ua_31, ua_32, ua_33, ua_34, uo_35_1, ua_36, uo_37_1, ua_38, uo_39_1, ua_40, uo_41_1, ua_42, uo_43_1, ua_44, uo_45_1, ua_46, uo_47_1, ua_48, uo_49_3, ua_51, ua_52, uo_53_1, ua_54, uo_55_1, ua_56, uo_57_1, ua_58, uo_59_1, ua_60, uo_61_1, ua_62, uo_63_1, ua_64, uo_66_1, ua_67, ua_68, ua_69, uo_71_1, ua_72, ua_73, ua_74, sO_g, sA_g, sA_O, sO_A, sO_2, sC_1, sC_2, sC_3, sC_4, sC_5, sC_6, sW_1, sW_2, sW_3, sW_4, uc_0]
          refine ⟨0, 0, _, Nat.le_refl _, Nat.le_refl _, c_isLike (d := d + 2) (rs_63 hx') (rs_17 (h4.1.ag rfl rfl)), fun z1 h' hz => ?_⟩
          obtain ⟨rfl, rfl⟩ := hz
          by_cases e : tX (gLw g) xs j = (gDk g).1
          · rw [if_pos e]
            (try simp only [Option.toList_some, Option.toList_none, List.nil_append, List.append_nil, List.cons_append, Nat.sub_zero, Nat.sub_self, Nat.zero_sub]); refine Go.wp sp_70 200 ?_; simp only [↓g70_0, ↓g70_1, ↓g70_2, ↓g70_5, ↓g70_8, ↓g70_9, ↓g70_10, ↓g70_11, ↓g70_12, ↓g70_15, ↓g70_18, ↓g70_20, ↓g70_21, ↓g70_22, ↓g70_25, ↓g70_26, ↓g70_29, ↓g70_32, ↓g70_35, ↓g70_36, ↓g70_37, ↓g70_38, ↓g70_40, ↓g70_43, ↓g70_44, ↓g70_47, ↓g70_48, ↓g70_49, ↓g70_52, ↓g70_55, ↓g70_56, ↓g70_57, ↓g70_60, ↓g70_61, ↓g70_64, ↓g70_67, ↓g70_70, ↓g70_73, ↓g70_74, ↓g70_75, ↓g70_78, ↓g70_81, ↓g70_83, cl_32, cl_34, cl_44, cl_85, cl_88, cn_0, cn_1, cn_2, cn_3, cn_4, cn_5, cn_6, cn_7, cn_8, ↓Go_s, ↓GoC_a, ↓reduceIte, ↓mm_call_eq, ↓mmw_nil, ↓mmw_cons, List.take_succ_cons, List.take_zero, List.take_nil, List.drop_succ_cons, List.drop_zero, List.drop_nil, List.reverse_cons, List.reverse_nil, List.nil_append, List.cons_append, List.append_nil, Option.toList_some, Option.toList_none, Nat.sub_zero, Nat.le_refl, mmr_cons, mm_st1, mm_st2, mmi_nil, mmi_cons, mmc_I, mmc_L, mmc_R, mmu_get, mmu_one, mma_get, mma_one, List.filter_cons, List.filter_nil, List.contains_cons, List.contains_nil, Nat.reduceBEq, Nat.reduceAdd, Nat.reduceLT, Nat.reduceSub, Nat.reduceLeDiff, Nat.reduceEqDiff, Int32.reduceAdd, Bool.not_true, Bool.not_false, Bool.and_true, Bool.true_and, Bool.and_false, Bool.false_and, Bool.or_false, Bool.false_or, Bool.or_true, Bool.true_or, if_true, if_false, ite_true, ite_false, Bool.false_eq_true, List.getElem?_cons_zero, List.getElem?_cons_succ, List.length_cons, List.length_nil, true_and, and_true, List.set_cons_zero, List.set_cons_succ, Fin.isValue, Fin.val_zero, Fin.val_one, Fin.val_two, Fin.reduceFinMk, Nat.zero_add, hp_0, hp_1, hp_2, hp_3, hp_4, hp_5, hp_6, hp_7, hp_8, hp_9, hp_10, hp_11, hp_12, hp_13, hp_14, hp_15, hp_16, hp_17, hp_18, hp_19, hp_20, hp_21, hp_22, hp_23, hp_24, hp_25, hp_26, hp_27, hp_28, hp_29, hp_30, hp_31, hp_32, hp_33, hp_34, hp_35, hp_36, hp_37, hp_38, hp_39, hp_40, hp_41, hp_42, hp_43, hp_44, hp_45, hp_46, hp_47, hp_48, hp_49, hp_50, hp_51, hp_52, hp_53, hp_54, hp_55, hp_56, hp_57, hp_58, hp_59, hp_60, hp_61, hp_62, hp_63, hp_64, hp_65, hp_66, hp_67, hp_68, hp_69, hp_70, hp_71, hp_72, hp_73, hp_74, og_0_0, og_0_1, og_0_2, og_0_3, og_0_4, og_0_5, og_0_6, og_0_7, og_0_8, og_0_9, og_0_10, og_0_11, og_0_12, og_0_13, ol_0, og_2_0, og_2_1, og_2_2, og_2_3, og_2_4, og_2_5, og_2_6, ol_2, og_3_0, og_3_1, ol_3, og_5_0, og_5_1, ol_5, og_9_0, og_9_1, og_9_2, og_9_3, og_9_4, og_9_5, og_9_6, ol_9, og_10_0, og_10_1, ol_10, og_12_0, og_12_1, ol_12, og_16_0, og_16_1, og_16_2, ol_16, og_17_0, og_17_1, ol_17, og_21_0, og_21_1, og_21_2, og_21_3, og_21_4, ol_21, og_27_0, og_27_1, og_27_2, og_27_3, og_27_4, og_27_5, og_27_6, og_27_7, og_27_8, og_27_9, og_27_10, ol_27, og_35_0, og_35_1, ol_35, og_37_0, og_37_1, ol_37, og_39_0, og_39_1, ol_39, og_41_0, og_41_1, ol_41, og_43_0, og_43_1, ol_43, og_45_0, og_45_1, ol_45, og_47_0, og_47_1, ol_47, og_49_0, og_49_1, og_49_2, og_49_3, ol_49, og_53_0, og_53_1, ol_53, og_55_0, og_55_1, ol_55, og_57_0, og_57_1, ol_57, og_59_0, og_59_1, ol_59, og_61_0, og_61_1, ol_61, og_63_0, og_63_1, ol_63, og_65_0, og_65_1, og_65_2, ol_65, og_66_0, og_66_1, ol_66, og_70_0, og_70_1, og_70_2, ol_70, og_71_0, og_71_1, ol_71, uo_0_1, uo_0_4, uo_0_8, ua_1, uo_2_0, uo_2_1, uo_2_2, uo_3_1, ua_4, uo_5_1, ua_6, ua_7, ua_8, uo_9_0, uo_9_1, uo_9_2, uo_10_1, ua_11, uo_12_1, ua_13, ua_14, ua_15, uo_17_1, ua_18, ua_19, ua_20, uo_21_4, ua_22, ua_23, ua_24, ua_25, uo_27_2, uo_27_6, uo_27_7, uo_27_8, ua_28, ua_29, ua_31, ua_32, ua_33, ua_34, uo_35_1, ua_36, uo_37_1, ua_38, uo_39_1, ua_40, uo_41_1, ua_42, uo_43_1, ua_44, uo_45_1, ua_46, uo_47_1, ua_48, uo_49_3, ua_51, ua_52, uo_53_1, ua_54, uo_55_1, ua_56, uo_57_1, ua_58, uo_59_1, ua_60, uo_61_1, ua_62, uo_63_1, ua_64, uo_66_1, ua_67, ua_68, ua_69, uo_71_1, ua_72, ua_73, ua_74, sO_g, sA_g, sA_O, sO_A, sO_2, sC_1, sC_2, sC_3, sC_4, sC_5, sC_6, sW_1, sW_2, sW_3, sW_4, uc_0]
            refine ⟨fun c => absurd c (by decide), fun _ => ⟨?_, _, rfl, hC0.trial _ _, agM.trial _ _⟩⟩
            unfold aAround
            rw [if_pos hb, e2, if_pos hm, ha]
            show _ = some (vI (if tX (gLw g) xs j = (gDk g).1 then nI k else _))
            rw [if_pos e]
          · rw [if_neg e]
            (try simp only [Option.toList_some, Option.toList_none, List.nil_append, List.append_nil, List.cons_append, Nat.sub_zero, Nat.sub_self, Nat.zero_sub]); refine Go.wp sp_70 200 ?_; simp only [↓g70_0, ↓g70_1, ↓g70_2, ↓g70_5, ↓g70_8, ↓g70_9, ↓g70_10, ↓g70_11, ↓g70_12, ↓g70_15, ↓g70_18, ↓g70_20, ↓g70_21, ↓g70_22, ↓g70_25, ↓g70_26, ↓g70_29, ↓g70_32, ↓g70_35, ↓g70_36, ↓g70_37, ↓g70_38, ↓g70_40, ↓g70_43, ↓g70_44, ↓g70_47, ↓g70_48, ↓g70_49, ↓g70_52, ↓g70_55, ↓g70_56, ↓g70_57, ↓g70_60, ↓g70_61, ↓g70_64, ↓g70_67, ↓g70_70, ↓g70_73, ↓g70_74, ↓g70_75, ↓g70_78, ↓g70_81, ↓g70_83, cl_32, cl_34, cl_44, cl_85, cl_88, cn_0, cn_1, cn_2, cn_3, cn_4, cn_5, cn_6, cn_7, cn_8, ↓Go_s, ↓GoC_a, ↓reduceIte, ↓mm_call_eq, ↓mmw_nil, ↓mmw_cons, List.take_succ_cons, List.take_zero, List.take_nil, List.drop_succ_cons, List.drop_zero, List.drop_nil, List.reverse_cons, List.reverse_nil, List.nil_append, List.cons_append, List.append_nil, Option.toList_some, Option.toList_none, Nat.sub_zero, Nat.le_refl, mmr_cons, mm_st1, mm_st2, mmi_nil, mmi_cons, mmc_I, mmc_L, mmc_R, mmu_get, mmu_one, mma_get, mma_one, List.filter_cons, List.filter_nil, List.contains_cons, List.contains_nil, Nat.reduceBEq, Nat.reduceAdd, Nat.reduceLT, Nat.reduceSub, Nat.reduceLeDiff, Nat.reduceEqDiff, Int32.reduceAdd, Bool.not_true, Bool.not_false, Bool.and_true, Bool.true_and, Bool.and_false, Bool.false_and, Bool.or_false, Bool.false_or, Bool.or_true, Bool.true_or, if_true, if_false, ite_true, ite_false, Bool.false_eq_true, List.getElem?_cons_zero, List.getElem?_cons_succ, List.length_cons, List.length_nil, true_and, and_true, List.set_cons_zero, List.set_cons_succ, Fin.isValue, Fin.val_zero, Fin.val_one, Fin.val_two, Fin.reduceFinMk, Nat.zero_add, hp_0, hp_1, hp_2, hp_3, hp_4, hp_5, hp_6, hp_7, hp_8, hp_9, hp_10, hp_11, hp_12, hp_13, hp_14, hp_15, hp_16, hp_17, hp_18, hp_19, hp_20, hp_21, hp_22, hp_23, hp_24, hp_25, hp_26, hp_27, hp_28, hp_29, hp_30, hp_31, hp_32, hp_33, hp_34, hp_35, hp_36, hp_37, hp_38, hp_39, hp_40, hp_41, hp_42, hp_43, hp_44, hp_45, hp_46, hp_47, hp_48, hp_49, hp_50, hp_51, hp_52, hp_53, hp_54, hp_55, hp_56, hp_57, hp_58, hp_59, hp_60, hp_61, hp_62, hp_63, hp_64, hp_65, hp_66, hp_67, hp_68, hp_69, hp_70, hp_71, hp_72, hp_73, hp_74, og_0_0, og_0_1, og_0_2, og_0_3, og_0_4, og_0_5, og_0_6, og_0_7, og_0_8, og_0_9, og_0_10, og_0_11, og_0_12, og_0_13, ol_0, og_2_0, og_2_1, og_2_2, og_2_3, og_2_4, og_2_5, og_2_6, ol_2, og_3_0, og_3_1, ol_3, og_5_0, og_5_1, ol_5, og_9_0, og_9_1, og_9_2, og_9_3, og_9_4, og_9_5, og_9_6, ol_9, og_10_0, og_10_1, ol_10, og_12_0, og_12_1, ol_12, og_16_0, og_16_1, og_16_2, ol_16, og_17_0, og_17_1, ol_17, og_21_0, og_21_1, og_21_2, og_21_3, og_21_4, ol_21, og_27_0, og_27_1, og_27_2, og_27_3, og_27_4, og_27_5, og_27_6, og_27_7, og_27_8, og_27_9, og_27_10, ol_27, og_35_0, og_35_1, ol_35, og_37_0, og_37_1, ol_37, og_39_0, og_39_1, ol_39, og_41_0, og_41_1, ol_41, og_43_0, og_43_1, ol_43, og_45_0, og_45_1, ol_45, og_47_0, og_47_1, ol_47, og_49_0, og_49_1, og_49_2, og_49_3, ol_49, og_53_0, og_53_1, ol_53, og_55_0, og_55_1, ol_55, og_57_0, og_57_1, ol_57, og_59_0, og_59_1, ol_59, og_61_0, og_61_1, ol_61, og_63_0, og_63_1, ol_63, og_65_0, og_65_1, og_65_2, ol_65, og_66_0, og_66_1, ol_66, og_70_0, og_70_1, og_70_2, ol_70, og_71_0, og_71_1, ol_71, uo_0_1, uo_0_4, uo_0_8, ua_1, uo_2_0, uo_2_1, uo_2_2, uo_3_1, ua_4, uo_5_1, ua_6, ua_7, ua_8, uo_9_0, uo_9_1, uo_9_2, uo_10_1, ua_11, uo_12_1, ua_13, ua_14, ua_15, uo_17_1, ua_18, ua_19, ua_20, uo_21_4, ua_22, ua_23, ua_24, ua_25, uo_27_2, uo_27_6, uo_27_7, uo_27_8, ua_28, ua_29, ua_31, ua_32, ua_33, ua_34, uo_35_1, ua_36, uo_37_1, ua_38, uo_39_1, ua_40, uo_41_1, ua_42, uo_43_1, ua_44, uo_45_1, ua_46, uo_47_1, ua_48, uo_49_3, ua_51, ua_52, uo_53_1, ua_54, uo_55_1, ua_56, uo_57_1, ua_58, uo_59_1, ua_60, uo_61_1, ua_62, uo_63_1, ua_64, uo_66_1, ua_67, ua_68, ua_69, uo_71_1, ua_72, ua_73, ua_74, sO_g, sA_g, sA_O, sO_A, sO_2, sC_1, sC_2, sC_3, sC_4, sC_5, sC_6, sW_1, sW_2, sW_3, sW_4, uc_0]
            rw [nI_1]
            refine ⟨fun _ => ih (k + 1) f' z' _ (by omega) (by omega) (hp.tX _ hmx) hx' ?_, fun c => absurd trivial c⟩
            rw [ha]
            show (if tX (gLw g) xs j = (gDk g).1 then nI k else _) = _
            rw [if_neg e]
      (try simp only [Option.toList_some, Option.toList_none, List.nil_append, List.append_nil, List.cons_append, Nat.sub_zero, Nat.sub_self, Nat.zero_sub]); refine Go.wp sp_70 200 ?_; simp only [↓g70_0, ↓g70_1, ↓g70_2, ↓g70_5, ↓g70_8, ↓g70_9, ↓g70_10, ↓g70_11, ↓g70_12, ↓g70_15, ↓g70_18, ↓g70_20, ↓g70_21, ↓g70_22, ↓g70_25, ↓g70_26, ↓g70_29, ↓g70_32, ↓g70_35, ↓g70_36, ↓g70_37, ↓g70_38, ↓g70_40, ↓g70_43, ↓g70_44, ↓g70_47, ↓g70_48, ↓g70_49, ↓g70_52, ↓g70_55, ↓g70_56, ↓g70_57, ↓g70_60, ↓g70_61, ↓g70_64, ↓g70_67, ↓g70_70, ↓g70_73, ↓g70_74, ↓g70_75, ↓g70_78, ↓g70_81, ↓g70_83, cl_32, cl_34, cl_44, cl_85, cl_88, cn_0, cn_1, cn_2, cn_3, cn_4, cn_5, cn_6, cn_7, cn_8, ↓Go_s, ↓GoC_a, ↓reduceIte, ↓mm_call_eq, ↓mmw_nil, ↓mmw_cons, List.take_succ_cons, List.take_zero, List.take_nil, List.drop_succ_cons, List.drop_zero, List.drop_nil, List.reverse_cons, List.reverse_nil, List.nil_append, List.cons_append, List.append_nil, Option.toList_some, Option.toList_none, Nat.sub_zero, Nat.le_refl, mmr_cons, mm_st1, mm_st2, mmi_nil, mmi_cons, mmc_I, mmc_L, mmc_R, mmu_get, mmu_one, mma_get, mma_one, List.filter_cons, List.filter_nil, List.contains_cons, List.contains_nil, Nat.reduceBEq, Nat.reduceAdd, Nat.reduceLT, Nat.reduceSub, Nat.reduceLeDiff, Nat.reduceEqDiff, Int32.reduceAdd, Bool.not_true, Bool.not_false, Bool.and_true, Bool.true_and, Bool.and_false, Bool.false_and, Bool.or_false, Bool.false_or, Bool.or_true, Bool.true_or, if_true, if_false, ite_true, ite_false, Bool.false_eq_true, List.getElem?_cons_zero, List.getElem?_cons_succ, List.length_cons, List.length_nil, true_and, and_true, List.set_cons_zero, List.set_cons_succ, Fin.isValue, Fin.val_zero, Fin.val_one, Fin.val_two, Fin.reduceFinMk, Nat.zero_add, hp_0, hp_1, hp_2, hp_3, hp_4, hp_5, hp_6, hp_7, hp_8, hp_9, hp_10, hp_11, hp_12, hp_13, hp_14, hp_15, hp_16, hp_17, hp_18, hp_19, hp_20, hp_21, hp_22, hp_23, hp_24, hp_25, hp_26, hp_27, hp_28, hp_29, hp_30, hp_31, hp_32, hp_33, hp_34, hp_35, hp_36, hp_37, hp_38, hp_39, hp_40, hp_41, hp_42, hp_43, hp_44, hp_45, hp_46, hp_47, hp_48, hp_49, hp_50, hp_51, hp_52, hp_53, hp_54, hp_55, hp_56, hp_57, hp_58, hp_59, hp_60, hp_61, hp_62, hp_63, hp_64, hp_65, hp_66, hp_67, hp_68, hp_69, hp_70, hp_71, hp_72, hp_73, hp_74, og_0_0, og_0_1, og_0_2, og_0_3, og_0_4, og_0_5, og_0_6, og_0_7, og_0_8, og_0_9, og_0_10, og_0_11, og_0_12, og_0_13, ol_0, og_2_0, og_2_1, og_2_2, og_2_3, og_2_4, og_2_5, og_2_6, ol_2, og_3_0, og_3_1, ol_3, og_5_0, og_5_1, ol_5, og_9_0, og_9_1, og_9_2, og_9_3, og_9_4, og_9_5, og_9_6, ol_9, og_10_0, og_10_1, ol_10, og_12_0, og_12_1, ol_12, og_16_0, og_16_1, og_16_2, ol_16, og_17_0, og_17_1, ol_17, og_21_0, og_21_1, og_21_2, og_21_3, og_21_4, ol_21, og_27_0, og_27_1, og_27_2, og_27_3, og_27_4, og_27_5, og_27_6, og_27_7, og_27_8, og_27_9, og_27_10, ol_27, og_35_0, og_35_1, ol_35, og_37_0, og_37_1, ol_37, og_39_0, og_39_1, ol_39, og_41_0, og_41_1, ol_41, og_43_0, og_43_1, ol_43, og_45_0, og_45_1, ol_45, og_47_0, og_47_1, ol_47, og_49_0, og_49_1, og_49_2, og_49_3, ol_49, og_53_0, og_53_1, ol_53, og_55_0, og_55_1, ol_55, og_57_0, og_57_1, ol_57, og_59_0, og_59_1, ol_59, og_61_0, og_61_1, ol_61, og_63_0, og_63_1, ol_63, og_65_0, og_65_1, og_65_2, ol_65, og_66_0, og_66_1, ol_66, og_70_0, og_70_1, og_70_2, ol_70, og_71_0, og_71_1, ol_71, uo_0_1, uo_0_4, uo_0_8, ua_1, uo_2_0, uo_2_1, uo_2_2, uo_3_1, ua_4, uo_5_1, ua_6, ua_7, ua_8, uo_9_0, uo_9_1, uo_9_2, uo_10_1, ua_11, uo_12_1, ua_13, ua_14, ua_15, uo_17_1, ua_18, ua_19, ua_20, uo_21_4, ua_22, ua_23, ua_24, ua_25, uo_27_2, uo_27_6, uo_27_7, uo_27_8, ua_28, ua_29, ua_31, ua_32, ua_33, ua_34, uo_35_1, ua_36, uo_37_1, ua_38, uo_39_1, ua_40, uo_41_1, ua_42, uo_43_1, ua_44, uo_45_1, ua_46, uo_47_1, ua_48, uo_49_3, ua_51, ua_52, uo_53_1, ua_54, uo_55_1, ua_56, uo_57_1, ua_58, uo_59_1, ua_60, uo_61_1, ua_62, uo_63_1, ua_64, uo_66_1, ua_67, ua_68, ua_69, uo_71_1, ua_72, ua_73, ua_74, sO_g, sA_g, sA_O, sO_A, sO_2, sC_1, sC_2, sC_3, sC_4, sC_5, sC_6, sW_1, sW_2, sW_3, sW_4, uc_0]
      exact key 99 1 f0 _ _ rfl (by omega) Rk.rf hr0 rfl
    · rw [decide_eq_false hm]
      (try simp only [Option.toList_some, Option.toList_none, List.nil_append, List.append_nil, List.cons_append, Nat.sub_zero, Nat.sub_self, Nat.zero_sub]); refine Go.wp sp_70 200 ?_; simp only [↓g70_0, ↓g70_1, ↓g70_2, ↓g70_5, ↓g70_8, ↓g70_9, ↓g70_10, ↓g70_11, ↓g70_12, ↓g70_15, ↓g70_18, ↓g70_20, ↓g70_21, ↓g70_22, ↓g70_25, ↓g70_26, ↓g70_29, ↓g70_32, ↓g70_35, ↓g70_36, ↓g70_37, ↓g70_38, ↓g70_40, ↓g70_43, ↓g70_44, ↓g70_47, ↓g70_48, ↓g70_49, ↓g70_52, ↓g70_55, ↓g70_56, ↓g70_57, ↓g70_60, ↓g70_61, ↓g70_64, ↓g70_67, ↓g70_70, ↓g70_73, ↓g70_74, ↓g70_75, ↓g70_78, ↓g70_81, ↓g70_83, cl_32, cl_34, cl_44, cl_85, cl_88, cn_0, cn_1, cn_2, cn_3, cn_4, cn_5, cn_6, cn_7, cn_8, ↓Go_s, ↓GoC_a, ↓reduceIte, ↓mm_call_eq, ↓mmw_nil, ↓mmw_cons, List.take_succ_cons, List.take_zero, List.take_nil, List.drop_succ_cons, List.drop_zero, List.drop_nil, List.reverse_cons, List.reverse_nil, List.nil_append, List.cons_append, List.append_nil, Option.toList_some, Option.toList_none, Nat.sub_zero, Nat.le_refl, mmr_cons, mm_st1, mm_st2, mmi_nil, mmi_cons, mmc_I, mmc_L, mmc_R, mmu_get, mmu_one, mma_get, mma_one, List.filter_cons, List.filter_nil, List.contains_cons, List.contains_nil, Nat.reduceBEq, Nat.reduceAdd, Nat.reduceLT, Nat.reduceSub, Nat.reduceLeDiff, Nat.reduceEqDiff, Int32.reduceAdd, Bool.not_true, Bool.not_false, Bool.and_true, Bool.true_and, Bool.and_false, Bool.false_and, Bool.or_false, Bool.false_or, Bool.or_true, Bool.true_or, if_true, if_false, ite_true, ite_false, Bool.false_eq_true, List.getElem?_cons_zero, List.getElem?_cons_succ, List.length_cons, List.length_nil, true_and, and_true, List.set_cons_zero, List.set_cons_succ, Fin.isValue, Fin.val_zero, Fin.val_one, Fin.val_two, Fin.reduceFinMk, Nat.zero_add, hp_0, hp_1, hp_2, hp_3, hp_4, hp_5, hp_6, hp_7, hp_8, hp_9, hp_10, hp_11, hp_12, hp_13, hp_14, hp_15, hp_16, hp_17, hp_18, hp_19, hp_20, hp_21, hp_22, hp_23, hp_24, hp_25, hp_26, hp_27, hp_28, hp_29, hp_30, hp_31, hp_32, hp_33, hp_34, hp_35, hp_36, hp_37, hp_38, hp_39, hp_40, hp_41, hp_42, hp_43, hp_44, hp_45, hp_46, hp_47, hp_48, hp_49, hp_50, hp_51, hp_52, hp_53, hp_54, hp_55, hp_56, hp_57, hp_58, hp_59, hp_60, hp_61, hp_62, hp_63, hp_64, hp_65, hp_66, hp_67, hp_68, hp_69, hp_70, hp_71, hp_72, hp_73, hp_74, og_0_0, og_0_1, og_0_2, og_0_3, og_0_4, og_0_5, og_0_6, og_0_7, og_0_8, og_0_9, og_0_10, og_0_11, og_0_12, og_0_13, ol_0, og_2_0, og_2_1, og_2_2, og_2_3, og_2_4, og_2_5, og_2_6, ol_2, og_3_0, og_3_1, ol_3, og_5_0, og_5_1, ol_5, og_9_0, og_9_1, og_9_2, og_9_3, og_9_4, og_9_5, og_9_6, ol_9, og_10_0, og_10_1, ol_10, og_12_0, og_12_1, ol_12, og_16_0, og_16_1, og_16_2, ol_16, og_17_0, og_17_1, ol_17, og_21_0, og_21_1, og_21_2, og_21_3, og_21_4, ol_21, og_27_0, og_27_1, og_27_2, og_27_3, og_27_4, og_27_5, og_27_6, og_27_7, og_27_8, og_27_9, og_27_10, ol_27, og_35_0, og_35_1, ol_35, og_37_0, og_37_1, ol_37, og_39_0, og_39_1, ol_39, og_41_0, og_41_1, ol_41, og_43_0, og_43_1, ol_43, og_45_0, og_45_1, ol_45, og_47_0, og_47_1, ol_47, og_49_0, og_49_1, og_49_2, og_49_3, ol_49, og_53_0, og_53_1, ol_53, og_55_0, og_55_1, ol_55, og_57_0, og_57_1, ol_57, og_59_0, og_59_1, ol_59, og_61_0, og_61_1, ol_61, og_63_0, og_63_1, ol_63, og_65_0, og_65_1, og_65_2, ol_65, og_66_0, og_66_1, ol_66, og_70_0, og_70_1, og_70_2, ol_70, og_71_0, og_71_1, ol_71, uo_0_1, uo_0_4, uo_0_8, ua_1, uo_2_0, uo_2_1, uo_2_2, uo_3_1, ua_4, uo_5_1, ua_6, ua_7, ua_8, uo_9_0, uo_9_1, uo_9_2, uo_10_1, ua_11, uo_12_1, ua_13, ua_14, ua_15, uo_17_1, ua_18, ua_19, ua_20, uo_21_4, ua_22, ua_23, ua_24, ua_25, uo_27_2, uo_27_6, uo_27_7, uo_27_8, ua_28, ua_29, ua_31, ua_32, ua_33, ua_34, uo_35_1, ua_36, uo_37_1, ua_38, uo_39_1, ua_40, uo_41_1, ua_42, uo_43_1, ua_44, uo_45_1, ua_46, uo_47_1, ua_48, uo_49_3, ua_51, ua_52, uo_53_1, ua_54, uo_55_1, ua_56, uo_57_1, ua_58, uo_59_1, ua_60, uo_61_1, ua_62, uo_63_1, ua_64, uo_66_1, ua_67, ua_68, ua_69, uo_71_1, ua_72, ua_73, ua_74, sO_g, sA_g, sA_O, sO_A, sO_2, sC_1, sC_2, sC_3, sC_4, sC_5, sC_6, sW_1, sW_2, sW_3, sW_4, uc_0, b01_f]
      exact ⟨fun c => absurd trivial c, fun _ => ⟨by unfold aAround; rw [if_pos hb, e2, if_neg hm], s, rfl, hC0, agM.rf⟩⟩
end OPS3
