/-! told rows: judge and never; weeks -/
def dg (y k : Nat) : Nat := y / 10 ^ k % 10
theorem dg_lt (y k : Nat) : dg y k < 10 := Nat.mod_lt _ (by omega)
theorem mmT_eq : ∀ j, j < 9 → mm_T j = nI (10 ^ j) := by decide +kernel
theorem p10_lt {j : Nat} (h : j < 9) : 10 ^ j < 2 ^ 31 := Nat.lt_of_le_of_lt (Nat.pow_le_pow_right (by omega) (show j ≤ 8 by omega)) (by decide)
/-- told: a number of goes and a row of figures that is not too long -/
def told (x y : Int32) (e : Nat) : Bool := isB x 5 && (!decide (x = 0) && isB y (10 ^ (e * x.toNatClampNeg)))
theorem told_t {x y : Int32} {e : Nat} (he : e ≤ 2) (h : told x y e = true) : ∃ n r, 1 ≤ n ∧ n ≤ 4 ∧ x = nI n ∧ y = nI r ∧ r < 10 ^ (e * n) := by
  unfold told at h
  simp only [Bool.and_eq_true, Bool.not_eq_true', decide_eq_false_iff_not] at h
  obtain ⟨n, hn, rfl⟩ := isB_t (by omega) h.1
  rw [nI_clamp (by omega)] at h
  have hn0 : n ≠ 0 := fun z => h.2.1 (by rw [z]; rfl)
  have hb : e * n < 9 := by
    have : e * n ≤ 2 * 4 := Nat.mul_le_mul he (by omega)
    omega
  obtain ⟨r, hr, rfl⟩ := isB_t (p10_lt hb) h.2.2
  exact ⟨n, r, by omega, by omega, rfl, rfl, hr⟩
def jdP (law y : Nat) : Nat → Nat → List Nat → Int32
  | 0, _, _ => mI 9
  | r + 1, t, xs => if dg y (2 * r + 1) ∈ xs ∧ tG xs (dg y (2 * r + 1)) = dg y (2 * r) then jdP law y r (t + 1) (tX law xs (dg y (2 * r + 1))) else nI t
def aJudge (g : SG) (x y : Int32) : Int32 := if told x y 2 = true then jdP (gLw g) y.toNatClampNeg x.toNatClampNeg 0 (gDk g).1 else mI 2
def nvX (law : Nat) (xs : List Nat) (a : Nat) : List Nat := if a ∈ xs then tX law xs a else xs
def nvB (xs : List Nat) (a : Nat) (v : Int32) : Int32 := if a ∈ xs then v &&& (((1 : Int32) <<< (nI (tG xs a) &&& 31)) ^^^ mI 1) else v
def nvP (law y n : Nat) : Nat → List Nat → Int32 → Int32
  | 0, _, v => v
  | m + 1, xs, v => nvP law y n m (nvX law xs (dg y (n - 1 - (100 * n - (m + 1)) % n))) (nvB xs (dg y (n - 1 - (100 * n - (m + 1)) % n)) v)
def aNever (g : SG) (x y : Int32) : Int32 := if told x y 1 = true then nvP (gLw g) y.toNatClampNeg x.toNatClampNeg (100 * x.toNatClampNeg) (gDk g).1 (bitsL 0 (gDk g).1) else mI 2
abbrev sp_91 : List Nat := []
section G91
variable {tb : Nat → Nat × (Nat → Int32)} {call : CO} {Q : AQ} {C : CP} {lv : AL} {st : List AV} {h : AH} {kc ks : Nat}
theorem g91_0  : mm_step (mm_rw mr_91) (some .boolean) tb call Q C 0 lv st h kc ks = (match mm_rd lv 0 with
    | some (.inl a) => C 1 lv (vI a :: st) h kc ks
    | _ => False) := rfl
theorem g91_1  : mm_step (mm_rw mr_91) (some .boolean) tb call Q C 1 lv st h kc ks = (C 2 lv (vI 1 :: st) h kc ks) := rfl
theorem g91_2 (a b : Int32) : mm_step (mm_rw mr_91) (some .boolean) tb call Q C 2 lv (.inl b :: .inl a :: st) h kc ks = ((a < b → C 29 lv st h kc ks) ∧ (¬ a < b → C 5 lv st h kc ks)) := rfl
theorem g91_5  : mm_step (mm_rw mr_91) (some .boolean) tb call Q C 5 lv st h kc ks = (match mm_rd lv 0 with
    | some (.inl a) => C 6 lv (vI a :: st) h kc ks
    | _ => False) := rfl
theorem g91_6  : mm_step (mm_rw mr_91) (some .boolean) tb call Q C 6 lv st h kc ks = (C 7 lv (vI 4 :: st) h kc ks) := rfl
theorem g91_7 (a b : Int32) : mm_step (mm_rw mr_91) (some .boolean) tb call Q C 7 lv (.inl b :: .inl a :: st) h kc ks = ((b < a → C 29 lv st h kc ks) ∧ (¬ b < a → C 10 lv st h kc ks)) := rfl
theorem g91_10  : mm_step (mm_rw mr_91) (some .boolean) tb call Q C 10 lv st h kc ks = (match mm_rd lv 1 with
    | some (.inl a) => C 11 lv (vI a :: st) h kc ks
    | _ => False) := rfl
theorem g91_11 (a : Int32) : mm_step (mm_rw mr_91) (some .boolean) tb call Q C 11 lv (.inl a :: st) h kc ks = ((a < 0 → C 29 lv st h kc ks) ∧ (¬ a < 0 → C 14 lv st h kc ks)) := rfl
theorem g91_14  : mm_step (mm_rw mr_91) (some .boolean) tb call Q C 14 lv st h kc ks = (match mm_rd lv 1 with
    | some (.inl a) => C 15 lv (vI a :: st) h kc ks
    | _ => False) := rfl
theorem g91_15  : mm_step (mm_rw mr_91) (some .boolean) tb call Q C 15 lv st h kc ks = (C 18 lv (vT 0 :: st) h kc ks) := rfl
theorem g91_18  : mm_step (mm_rw mr_91) (some .boolean) tb call Q C 18 lv st h kc ks = (match mm_rd lv 2 with
    | some (.inl a) => C 19 lv (vI a :: st) h kc ks
    | _ => False) := rfl
theorem g91_19  : mm_step (mm_rw mr_91) (some .boolean) tb call Q C 19 lv st h kc ks = (match mm_rd lv 0 with
    | some (.inl a) => C 20 lv (vI a :: st) h kc ks
    | _ => False) := rfl
theorem g91_20 (a b : Int32) : mm_step (mm_rw mr_91) (some .boolean) tb call Q C 20 lv (.inl b :: .inl a :: st) h kc ks = (C 21 lv (vI (a * b) :: st) h kc ks) := rfl
theorem g91_21 (i : Int32) (k : Nat) : mm_step (mm_rw mr_91) (some .boolean) tb call Q C 21 lv (.inl i :: .inr (.inr (.inl (some k))) :: st) h kc ks = (match h.2 k with
    | some (.inl (.int, n, f)) => vp_in i n ∧ C 22 lv (vI (f i.toNatClampNeg) :: st) h kc ks
    | _ => False) := rfl
theorem g91_21t (i : Int32) (t : Nat) : mm_step (mm_rw mr_91) (some .boolean) tb call Q C 21 lv (.inl i :: .inr (.inr (.inr t)) :: st) h kc ks = (vp_in i (tb t).1 ∧ C 22 lv (vI ((tb t).2 i.toNatClampNeg) :: st) h kc ks) := rfl
theorem g91_22 (a b : Int32) : mm_step (mm_rw mr_91) (some .boolean) tb call Q C 22 lv (.inl b :: .inl a :: st) h kc ks = ((b ≤ a → C 29 lv st h kc ks) ∧ (¬ b ≤ a → C 25 lv st h kc ks)) := rfl
theorem g91_25  : mm_step (mm_rw mr_91) (some .boolean) tb call Q C 25 lv st h kc ks = (C 26 lv (vI 1 :: st) h kc ks) := rfl
theorem g91_26  : mm_step (mm_rw mr_91) (some .boolean) tb call Q C 26 lv st h kc ks = (C 30 lv st h kc ks) := rfl
theorem g91_29  : mm_step (mm_rw mr_91) (some .boolean) tb call Q C 29 lv st h kc ks = (C 30 lv (vI 0 :: st) h kc ks) := rfl
theorem g91_30 (v : Int32) : mm_step (mm_rw mr_91) (some .boolean) tb call Q C 30 lv [.inl v] h kc ks = ((v = 0 ∨ v = 1) ∧ Q (some (vI v)) h) := rfl
end G91

abbrev sp_92 : List Nat := []
section G92
variable {tb : Nat → Nat × (Nat → Int32)} {call : CO} {Q : AQ} {C : CP} {lv : AL} {st : List AV} {h : AH} {kc ks : Nat}
theorem g92_0  : mm_step (mm_rw mr_92) (some .int) tb call Q C 0 lv st h kc ks = (match mm_rd lv 0 with
    | some (.inl a) => C 1 lv (vI a :: st) h kc ks
    | _ => False) := rfl
theorem g92_1  : mm_step (mm_rw mr_92) (some .int) tb call Q C 1 lv st h kc ks = (C 4 lv (vT 0 :: st) h kc ks) := rfl
theorem g92_4  : mm_step (mm_rw mr_92) (some .int) tb call Q C 4 lv st h kc ks = (match mm_rd lv 1 with
    | some (.inl a) => C 5 lv (vI a :: st) h kc ks
    | _ => False) := rfl
theorem g92_5  : mm_step (mm_rw mr_92) (some .int) tb call Q C 5 lv st h kc ks = (C 6 lv (vI 1 :: st) h kc ks) := rfl
theorem g92_6 (a b : Int32) : mm_step (mm_rw mr_92) (some .int) tb call Q C 6 lv (.inl b :: .inl a :: st) h kc ks = (C 7 lv (vI (a - b) :: st) h kc ks) := rfl
theorem g92_7  : mm_step (mm_rw mr_92) (some .int) tb call Q C 7 lv st h kc ks = (match mm_rd lv 2 with
    | some (.inl a) => C 8 lv (vI a :: st) h kc ks
    | _ => False) := rfl
theorem g92_8 (a b : Int32) : mm_step (mm_rw mr_92) (some .int) tb call Q C 8 lv (.inl b :: .inl a :: st) h kc ks = (C 9 lv (vI (a - b) :: st) h kc ks) := rfl
theorem g92_9 (i : Int32) (k : Nat) : mm_step (mm_rw mr_92) (some .int) tb call Q C 9 lv (.inl i :: .inr (.inr (.inl (some k))) :: st) h kc ks = (match h.2 k with
    | some (.inl (.int, n, f)) => vp_in i n ∧ C 10 lv (vI (f i.toNatClampNeg) :: st) h kc ks
    | _ => False) := rfl
theorem g92_9t (i : Int32) (t : Nat) : mm_step (mm_rw mr_92) (some .int) tb call Q C 9 lv (.inl i :: .inr (.inr (.inr t)) :: st) h kc ks = (vp_in i (tb t).1 ∧ C 10 lv (vI ((tb t).2 i.toNatClampNeg) :: st) h kc ks) := rfl
theorem g92_10 (a b : Int32) : mm_step (mm_rw mr_92) (some .int) tb call Q C 10 lv (.inl b :: .inl a :: st) h kc ks = (¬ b = 0 ∧ C 11 lv (vI (a / b) :: st) h kc ks) := rfl
theorem g92_11  : mm_step (mm_rw mr_92) (some .int) tb call Q C 11 lv st h kc ks = (C 13 lv (vI 10 :: st) h kc ks) := rfl
theorem g92_13 (a b : Int32) : mm_step (mm_rw mr_92) (some .int) tb call Q C 13 lv (.inl b :: .inl a :: st) h kc ks = (¬ b = 0 ∧ C 14 lv (vI (a - a / b * b) :: st) h kc ks) := rfl
theorem g92_14 (v : Int32) : mm_step (mm_rw mr_92) (some .int) tb call Q C 14 lv [.inl v] h kc ks = (True ∧ Q (some (vI v)) h) := rfl
end G92

abbrev sp_66 : List Nat := [6, 26, 28, 43, 57, 72]
section G66
variable {tb : Nat → Nat × (Nat → Int32)} {call : CO} {Q : AQ} {C : CP} {lv : AL} {st : List AV} {h : AH} {kc ks : Nat}
theorem g66_0  : mm_step (mm_rw mr_66) (some .int) tb call Q C 0 lv st h kc ks = (match mm_rd lv 1 with
    | some (.inl a) => C 1 lv (vI a :: st) h kc ks
    | _ => False) := rfl
theorem g66_1  : mm_step (mm_rw mr_66) (some .int) tb call Q C 1 lv st h kc ks = (match mm_rd lv 2 with
    | some (.inl a) => C 2 lv (vI a :: st) h kc ks
    | _ => False) := rfl
theorem g66_2  : mm_step (mm_rw mr_66) (some .int) tb call Q C 2 lv st h kc ks = (C 3 lv (vI 2 :: st) h kc ks) := rfl
theorem g66_3  : mm_step (mm_rw mr_66) (some .int) tb call Q C 3 lv st h kc ks = (mm_call call C 91 3 3 lv st h kc ks) := rfl
theorem g66_6 (a : Int32) : mm_step (mm_rw mr_66) (some .int) tb call Q C 6 lv (.inl a :: st) h kc ks = ((¬ a = 0 → C 12 lv st h kc ks) ∧ (a = 0 → C 9 lv st h kc ks)) := rfl
theorem g66_9  : mm_step (mm_rw mr_66) (some .int) tb call Q C 9 lv st h kc ks = (C 11 lv (vI (mI 2) :: st) h kc ks) := rfl
theorem g66_11 (v : Int32) : mm_step (mm_rw mr_66) (some .int) tb call Q C 11 lv [.inl v] h kc ks = (True ∧ Q (some (vI v)) h) := rfl
theorem g66_12  : mm_step (mm_rw mr_66) (some .int) tb call Q C 12 lv st h kc ks = (match mm_rd lv 0 with
    | some (.inr (.inr (.inl (some k)))) => C 13 lv (vR k :: st) h kc ks
    | some (.inr (.inr (.inr t))) => C 13 lv (vT t :: st) h kc ks
    | _ => False) := rfl
theorem g66_13 (k : Nat) : mm_step (mm_rw mr_66) (some .int) tb call Q C 13 lv (.inr (.inr (.inl (some k))) :: st) h kc ks = (match h.2 k with
    | some (.inr (.inr (ci, fs))) => ci = 7 ∧ (match fs[11]? with
      | some v => C 16 lv (v :: st) h kc ks
      | none => False)
    | _ => False) := rfl
theorem g66_16  : mm_step (mm_rw mr_66) (some .int) tb call Q C 16 lv st h kc ks = (match mm_rd lv 0 with
    | some (.inr (.inr (.inl (some k)))) => C 17 lv (vR k :: st) h kc ks
    | some (.inr (.inr (.inr t))) => C 17 lv (vT t :: st) h kc ks
    | _ => False) := rfl
theorem g66_17 (k : Nat) : mm_step (mm_rw mr_66) (some .int) tb call Q C 17 lv (.inr (.inr (.inl (some k))) :: st) h kc ks = (match h.2 k with
    | some (.inr (.inr (ci, fs))) => ci = 7 ∧ (match fs[5]? with
      | some v => C 20 lv (v :: st) h kc ks
      | none => False)
    | _ => False) := rfl
theorem g66_20 (k : Nat) : mm_step (mm_rw mr_66) (some .int) tb call Q C 20 lv (.inr (.inr (.inl (some k))) :: st) h kc ks = (match h.2 k with
    | some (.inr (.inr (ci, fs))) => ci = 1 ∧ (match fs[0]? with
      | some v => C 23 lv (v :: st) h kc ks
      | none => False)
    | _ => False) := rfl
theorem g66_23  : mm_step (mm_rw mr_66) (some .int) tb call Q C 23 lv st h kc ks = ((match (st.take 2).reverse with
    | .inr (.inr (.inl (some k))) :: _ => (match h.2 k with
      | some (.inr (.inr (ci, _))) => mm_cn ci = (mm_mi 32).1.cls
      | _ => False)
    | _ => False) ∧ mm_call call C 32 2 23 lv st h kc ks) := rfl
theorem g66_26  : mm_step (mm_rw mr_66) (some .int) tb call Q C 26 lv st h kc ks = (C 27 lv (vI 0 :: st) h kc ks) := rfl
theorem g66_27 (a : Int32) : mm_step (mm_rw mr_66) (some .int) tb call Q C 27 lv (.inl a :: st) h kc ks = (C 28 (mm_st1 lv 3 (vI a)) st h kc ks) := rfl
theorem g66_28  : mm_step (mm_rw mr_66) (some .int) tb call Q C 28 lv st h kc ks = (match mm_rd lv 3 with
    | some (.inl a) => C 29 lv (vI a :: st) h kc ks
    | _ => False) := rfl
theorem g66_29  : mm_step (mm_rw mr_66) (some .int) tb call Q C 29 lv st h kc ks = (match mm_rd lv 1 with
    | some (.inl a) => C 30 lv (vI a :: st) h kc ks
    | _ => False) := rfl
theorem g66_30 (a b : Int32) : mm_step (mm_rw mr_66) (some .int) tb call Q C 30 lv (.inl b :: .inl a :: st) h kc ks = ((b ≤ a → C 85 lv st h kc ks) ∧ (¬ b ≤ a → C 33 lv st h kc ks)) := rfl
theorem g66_33  : mm_step (mm_rw mr_66) (some .int) tb call Q C 33 lv st h kc ks = (match mm_rd lv 2 with
    | some (.inl a) => C 34 lv (vI a :: st) h kc ks
    | _ => False) := rfl
theorem g66_34  : mm_step (mm_rw mr_66) (some .int) tb call Q C 34 lv st h kc ks = (C 35 lv (vI 2 :: st) h kc ks) := rfl
theorem g66_35  : mm_step (mm_rw mr_66) (some .int) tb call Q C 35 lv st h kc ks = (match mm_rd lv 1 with
    | some (.inl a) => C 36 lv (vI a :: st) h kc ks
    | _ => False) := rfl
theorem g66_36 (a b : Int32) : mm_step (mm_rw mr_66) (some .int) tb call Q C 36 lv (.inl b :: .inl a :: st) h kc ks = (C 37 lv (vI (a * b) :: st) h kc ks) := rfl
theorem g66_37  : mm_step (mm_rw mr_66) (some .int) tb call Q C 37 lv st h kc ks = (C 38 lv (vI 2 :: st) h kc ks) := rfl
theorem g66_38  : mm_step (mm_rw mr_66) (some .int) tb call Q C 38 lv st h kc ks = (match mm_rd lv 3 with
    | some (.inl a) => C 39 lv (vI a :: st) h kc ks
    | _ => False) := rfl
theorem g66_39 (a b : Int32) : mm_step (mm_rw mr_66) (some .int) tb call Q C 39 lv (.inl b :: .inl a :: st) h kc ks = (C 40 lv (vI (a * b) :: st) h kc ks) := rfl
theorem g66_40  : mm_step (mm_rw mr_66) (some .int) tb call Q C 40 lv st h kc ks = (mm_call call C 92 3 40 lv st h kc ks) := rfl
theorem g66_43 (a : Int32) : mm_step (mm_rw mr_66) (some .int) tb call Q C 43 lv (.inl a :: st) h kc ks = (C 45 (mm_st1 lv 4 (vI a)) st h kc ks) := rfl
theorem g66_45  : mm_step (mm_rw mr_66) (some .int) tb call Q C 45 lv st h kc ks = (match mm_rd lv 2 with
    | some (.inl a) => C 46 lv (vI a :: st) h kc ks
    | _ => False) := rfl
theorem g66_46  : mm_step (mm_rw mr_66) (some .int) tb call Q C 46 lv st h kc ks = (C 47 lv (vI 2 :: st) h kc ks) := rfl
theorem g66_47  : mm_step (mm_rw mr_66) (some .int) tb call Q C 47 lv st h kc ks = (match mm_rd lv 1 with
    | some (.inl a) => C 48 lv (vI a :: st) h kc ks
    | _ => False) := rfl
theorem g66_48 (a b : Int32) : mm_step (mm_rw mr_66) (some .int) tb call Q C 48 lv (.inl b :: .inl a :: st) h kc ks = (C 49 lv (vI (a * b) :: st) h kc ks) := rfl
theorem g66_49  : mm_step (mm_rw mr_66) (some .int) tb call Q C 49 lv st h kc ks = (C 50 lv (vI 2 :: st) h kc ks) := rfl
theorem g66_50  : mm_step (mm_rw mr_66) (some .int) tb call Q C 50 lv st h kc ks = (match mm_rd lv 3 with
    | some (.inl a) => C 51 lv (vI a :: st) h kc ks
    | _ => False) := rfl
theorem g66_51 (a b : Int32) : mm_step (mm_rw mr_66) (some .int) tb call Q C 51 lv (.inl b :: .inl a :: st) h kc ks = (C 52 lv (vI (a * b) :: st) h kc ks) := rfl
theorem g66_52  : mm_step (mm_rw mr_66) (some .int) tb call Q C 52 lv st h kc ks = (C 53 lv (vI 1 :: st) h kc ks) := rfl
theorem g66_53 (a b : Int32) : mm_step (mm_rw mr_66) (some .int) tb call Q C 53 lv (.inl b :: .inl a :: st) h kc ks = (C 54 lv (vI (a + b) :: st) h kc ks) := rfl
theorem g66_54  : mm_step (mm_rw mr_66) (some .int) tb call Q C 54 lv st h kc ks = (mm_call call C 92 3 54 lv st h kc ks) := rfl
theorem g66_57 (a : Int32) : mm_step (mm_rw mr_66) (some .int) tb call Q C 57 lv (.inl a :: st) h kc ks = (C 59 (mm_st1 lv 5 (vI a)) st h kc ks) := rfl
theorem g66_59  : mm_step (mm_rw mr_66) (some .int) tb call Q C 59 lv st h kc ks = (match mm_rd lv 0 with
    | some (.inr (.inr (.inl (some k)))) => C 60 lv (vR k :: st) h kc ks
    | some (.inr (.inr (.inr t))) => C 60 lv (vT t :: st) h kc ks
    | _ => False) := rfl
theorem g66_60 (k : Nat) : mm_step (mm_rw mr_66) (some .int) tb call Q C 60 lv (.inr (.inr (.inl (some k))) :: st) h kc ks = (match h.2 k with
    | some (.inr (.inr (ci, fs))) => ci = 7 ∧ (match fs[11]? with
      | some v => C 63 lv (v :: st) h kc ks
      | none => False)
    | _ => False) := rfl
theorem g66_63  : mm_step (mm_rw mr_66) (some .int) tb call Q C 63 lv st h kc ks = (match mm_rd lv 4 with
    | some (.inl a) => C 65 lv (vI a :: st) h kc ks
    | _ => False) := rfl
theorem g66_65  : mm_step (mm_rw mr_66) (some .int) tb call Q C 65 lv st h kc ks = (match mm_rd lv 0 with
    | some (.inr (.inr (.inl (some k)))) => C 66 lv (vR k :: st) h kc ks
    | some (.inr (.inr (.inr t))) => C 66 lv (vT t :: st) h kc ks
    | _ => False) := rfl
theorem g66_66 (k : Nat) : mm_step (mm_rw mr_66) (some .int) tb call Q C 66 lv (.inr (.inr (.inl (some k))) :: st) h kc ks = (match h.2 k with
    | some (.inr (.inr (ci, fs))) => ci = 7 ∧ (match fs[4]? with
      | some v => C 69 lv (v :: st) h kc ks
      | none => False)
    | _ => False) := rfl
theorem g66_69  : mm_step (mm_rw mr_66) (some .int) tb call Q C 69 lv st h kc ks = ((match (st.take 3).reverse with
    | .inr (.inr (.inl (some k))) :: _ => (match h.2 k with
      | some (.inr (.inr (ci, _))) => mm_cn ci = (mm_mi 44).1.cls
      | _ => False)
    | _ => False) ∧ mm_call call C 44 3 69 lv st h kc ks) := rfl
theorem g66_72  : mm_step (mm_rw mr_66) (some .int) tb call Q C 72 lv st h kc ks = (match mm_rd lv 5 with
    | some (.inl a) => C 74 lv (vI a :: st) h kc ks
    | _ => False) := rfl
theorem g66_74 (a b : Int32) : mm_step (mm_rw mr_66) (some .int) tb call Q C 74 lv (.inl b :: .inl a :: st) h kc ks = ((a = b → C 79 lv st h kc ks) ∧ (¬ a = b → C 77 lv st h kc ks)) := rfl
theorem g66_77  : mm_step (mm_rw mr_66) (some .int) tb call Q C 77 lv st h kc ks = (match mm_rd lv 3 with
    | some (.inl a) => C 78 lv (vI a :: st) h kc ks
    | _ => False) := rfl
theorem g66_78 (v : Int32) : mm_step (mm_rw mr_66) (some .int) tb call Q C 78 lv [.inl v] h kc ks = (True ∧ Q (some (vI v)) h) := rfl
theorem g66_79  : mm_step (mm_rw mr_66) (some .int) tb call Q C 79 lv st h kc ks = (match mm_rd lv 3 with
    | some (.inl a) => C 82 (mm_st1 lv 3 (vI (a + 1))) st h kc ks
    | _ => False) := rfl
theorem g66_82  : mm_step (mm_rw mr_66) (some .int) tb call Q C 82 lv st h kc ks = (C 28 lv st h kc ks) := rfl
theorem g66_85  : mm_step (mm_rw mr_66) (some .int) tb call Q C 85 lv st h kc ks = (C 87 lv (vI (mI 9) :: st) h kc ks) := rfl
theorem g66_87 (v : Int32) : mm_step (mm_rw mr_66) (some .int) tb call Q C 87 lv [.inl v] h kc ks = (True ∧ Q (some (vI v)) h) := rfl
end G66

abbrev sp_71 : List Nat := [6, 26, 33, 37, 59, 66]
section G71
variable {tb : Nat → Nat × (Nat → Int32)} {call : CO} {Q : AQ} {C : CP} {lv : AL} {st : List AV} {h : AH} {kc ks : Nat}
theorem g71_0  : mm_step (mm_rw mr_71) (some .int) tb call Q C 0 lv st h kc ks = (match mm_rd lv 1 with
    | some (.inl a) => C 1 lv (vI a :: st) h kc ks
    | _ => False) := rfl
theorem g71_1  : mm_step (mm_rw mr_71) (some .int) tb call Q C 1 lv st h kc ks = (match mm_rd lv 2 with
    | some (.inl a) => C 2 lv (vI a :: st) h kc ks
    | _ => False) := rfl
theorem g71_2  : mm_step (mm_rw mr_71) (some .int) tb call Q C 2 lv st h kc ks = (C 3 lv (vI 1 :: st) h kc ks) := rfl
theorem g71_3  : mm_step (mm_rw mr_71) (some .int) tb call Q C 3 lv st h kc ks = (mm_call call C 91 3 3 lv st h kc ks) := rfl
theorem g71_6 (a : Int32) : mm_step (mm_rw mr_71) (some .int) tb call Q C 6 lv (.inl a :: st) h kc ks = ((¬ a = 0 → C 12 lv st h kc ks) ∧ (a = 0 → C 9 lv st h kc ks)) := rfl
theorem g71_9  : mm_step (mm_rw mr_71) (some .int) tb call Q C 9 lv st h kc ks = (C 11 lv (vI (mI 2) :: st) h kc ks) := rfl
theorem g71_11 (v : Int32) : mm_step (mm_rw mr_71) (some .int) tb call Q C 11 lv [.inl v] h kc ks = (True ∧ Q (some (vI v)) h) := rfl
theorem g71_12  : mm_step (mm_rw mr_71) (some .int) tb call Q C 12 lv st h kc ks = (match mm_rd lv 0 with
    | some (.inr (.inr (.inl (some k)))) => C 13 lv (vR k :: st) h kc ks
    | some (.inr (.inr (.inr t))) => C 13 lv (vT t :: st) h kc ks
    | _ => False) := rfl
theorem g71_13 (k : Nat) : mm_step (mm_rw mr_71) (some .int) tb call Q C 13 lv (.inr (.inr (.inl (some k))) :: st) h kc ks = (match h.2 k with
    | some (.inr (.inr (ci, fs))) => ci = 7 ∧ (match fs[11]? with
      | some v => C 16 lv (v :: st) h kc ks
      | none => False)
    | _ => False) := rfl
theorem g71_16  : mm_step (mm_rw mr_71) (some .int) tb call Q C 16 lv st h kc ks = (match mm_rd lv 0 with
    | some (.inr (.inr (.inl (some k)))) => C 17 lv (vR k :: st) h kc ks
    | some (.inr (.inr (.inr t))) => C 17 lv (vT t :: st) h kc ks
    | _ => False) := rfl
theorem g71_17 (k : Nat) : mm_step (mm_rw mr_71) (some .int) tb call Q C 17 lv (.inr (.inr (.inl (some k))) :: st) h kc ks = (match h.2 k with
    | some (.inr (.inr (ci, fs))) => ci = 7 ∧ (match fs[5]? with
      | some v => C 20 lv (v :: st) h kc ks
      | none => False)
    | _ => False) := rfl
theorem g71_20 (k : Nat) : mm_step (mm_rw mr_71) (some .int) tb call Q C 20 lv (.inr (.inr (.inl (some k))) :: st) h kc ks = (match h.2 k with
    | some (.inr (.inr (ci, fs))) => ci = 1 ∧ (match fs[0]? with
      | some v => C 23 lv (v :: st) h kc ks
      | none => False)
    | _ => False) := rfl
theorem g71_23  : mm_step (mm_rw mr_71) (some .int) tb call Q C 23 lv st h kc ks = ((match (st.take 2).reverse with
    | .inr (.inr (.inl (some k))) :: _ => (match h.2 k with
      | some (.inr (.inr (ci, _))) => mm_cn ci = (mm_mi 32).1.cls
      | _ => False)
    | _ => False) ∧ mm_call call C 32 2 23 lv st h kc ks) := rfl
theorem g71_26  : mm_step (mm_rw mr_71) (some .int) tb call Q C 26 lv st h kc ks = (match mm_rd lv 0 with
    | some (.inr (.inr (.inl (some k)))) => C 27 lv (vR k :: st) h kc ks
    | some (.inr (.inr (.inr t))) => C 27 lv (vT t :: st) h kc ks
    | _ => False) := rfl
theorem g71_27 (k : Nat) : mm_step (mm_rw mr_71) (some .int) tb call Q C 27 lv (.inr (.inr (.inl (some k))) :: st) h kc ks = (match h.2 k with
    | some (.inr (.inr (ci, fs))) => ci = 7 ∧ (match fs[11]? with
      | some v => C 30 lv (v :: st) h kc ks
      | none => False)
    | _ => False) := rfl
theorem g71_30  : mm_step (mm_rw mr_71) (some .int) tb call Q C 30 lv st h kc ks = ((match (st.take 1).reverse with
    | .inr (.inr (.inl (some k))) :: _ => (match h.2 k with
      | some (.inr (.inr (ci, _))) => mm_cn ci = (mm_mi 35).1.cls
      | _ => False)
    | _ => False) ∧ mm_call call C 35 1 30 lv st h kc ks) := rfl
theorem g71_33 (a : Int32) : mm_step (mm_rw mr_71) (some .int) tb call Q C 33 lv (.inl a :: st) h kc ks = (C 34 (mm_st1 lv 3 (vI a)) st h kc ks) := rfl
theorem g71_34  : mm_step (mm_rw mr_71) (some .int) tb call Q C 34 lv st h kc ks = (C 35 lv (vI 0 :: st) h kc ks) := rfl
theorem g71_35 (a : Int32) : mm_step (mm_rw mr_71) (some .int) tb call Q C 35 lv (.inl a :: st) h kc ks = (C 37 (mm_st1 lv 4 (vI a)) st h kc ks) := rfl
theorem g71_37  : mm_step (mm_rw mr_71) (some .int) tb call Q C 37 lv st h kc ks = (match mm_rd lv 4 with
    | some (.inl a) => C 39 lv (vI a :: st) h kc ks
    | _ => False) := rfl
theorem g71_39  : mm_step (mm_rw mr_71) (some .int) tb call Q C 39 lv st h kc ks = (C 41 lv (vI 100 :: st) h kc ks) := rfl
theorem g71_41  : mm_step (mm_rw mr_71) (some .int) tb call Q C 41 lv st h kc ks = (match mm_rd lv 1 with
    | some (.inl a) => C 42 lv (vI a :: st) h kc ks
    | _ => False) := rfl
theorem g71_42 (a b : Int32) : mm_step (mm_rw mr_71) (some .int) tb call Q C 42 lv (.inl b :: .inl a :: st) h kc ks = (C 43 lv (vI (a * b) :: st) h kc ks) := rfl
theorem g71_43 (a b : Int32) : mm_step (mm_rw mr_71) (some .int) tb call Q C 43 lv (.inl b :: .inl a :: st) h kc ks = ((b ≤ a → C 90 lv st h kc ks) ∧ (¬ b ≤ a → C 46 lv st h kc ks)) := rfl
theorem g71_46  : mm_step (mm_rw mr_71) (some .int) tb call Q C 46 lv st h kc ks = (match mm_rd lv 0 with
    | some (.inr (.inr (.inl (some k)))) => C 47 lv (vR k :: st) h kc ks
    | some (.inr (.inr (.inr t))) => C 47 lv (vT t :: st) h kc ks
    | _ => False) := rfl
theorem g71_47 (k : Nat) : mm_step (mm_rw mr_71) (some .int) tb call Q C 47 lv (.inr (.inr (.inl (some k))) :: st) h kc ks = (match h.2 k with
    | some (.inr (.inr (ci, fs))) => ci = 7 ∧ (match fs[11]? with
      | some v => C 50 lv (v :: st) h kc ks
      | none => False)
    | _ => False) := rfl
theorem g71_50  : mm_step (mm_rw mr_71) (some .int) tb call Q C 50 lv st h kc ks = (match mm_rd lv 2 with
    | some (.inl a) => C 51 lv (vI a :: st) h kc ks
    | _ => False) := rfl
theorem g71_51  : mm_step (mm_rw mr_71) (some .int) tb call Q C 51 lv st h kc ks = (match mm_rd lv 1 with
    | some (.inl a) => C 52 lv (vI a :: st) h kc ks
    | _ => False) := rfl
theorem g71_52  : mm_step (mm_rw mr_71) (some .int) tb call Q C 52 lv st h kc ks = (match mm_rd lv 4 with
    | some (.inl a) => C 54 lv (vI a :: st) h kc ks
    | _ => False) := rfl
theorem g71_54  : mm_step (mm_rw mr_71) (some .int) tb call Q C 54 lv st h kc ks = (match mm_rd lv 1 with
    | some (.inl a) => C 55 lv (vI a :: st) h kc ks
    | _ => False) := rfl
theorem g71_55 (a b : Int32) : mm_step (mm_rw mr_71) (some .int) tb call Q C 55 lv (.inl b :: .inl a :: st) h kc ks = (¬ b = 0 ∧ C 56 lv (vI (a - a / b * b) :: st) h kc ks) := rfl
theorem g71_56  : mm_step (mm_rw mr_71) (some .int) tb call Q C 56 lv st h kc ks = (mm_call call C 92 3 56 lv st h kc ks) := rfl
theorem g71_59  : mm_step (mm_rw mr_71) (some .int) tb call Q C 59 lv st h kc ks = (match mm_rd lv 0 with
    | some (.inr (.inr (.inl (some k)))) => C 60 lv (vR k :: st) h kc ks
    | some (.inr (.inr (.inr t))) => C 60 lv (vT t :: st) h kc ks
    | _ => False) := rfl
theorem g71_60 (k : Nat) : mm_step (mm_rw mr_71) (some .int) tb call Q C 60 lv (.inr (.inr (.inl (some k))) :: st) h kc ks = (match h.2 k with
    | some (.inr (.inr (ci, fs))) => ci = 7 ∧ (match fs[4]? with
      | some v => C 63 lv (v :: st) h kc ks
      | none => False)
    | _ => False) := rfl
theorem g71_63  : mm_step (mm_rw mr_71) (some .int) tb call Q C 63 lv st h kc ks = ((match (st.take 3).reverse with
    | .inr (.inr (.inl (some k))) :: _ => (match h.2 k with
      | some (.inr (.inr (ci, _))) => mm_cn ci = (mm_mi 44).1.cls
      | _ => False)
    | _ => False) ∧ mm_call call C 44 3 63 lv st h kc ks) := rfl
theorem g71_66 (a : Int32) : mm_step (mm_rw mr_71) (some .int) tb call Q C 66 lv (.inl a :: st) h kc ks = (C 68 (mm_st1 lv 5 (vI a)) st h kc ks) := rfl
theorem g71_68  : mm_step (mm_rw mr_71) (some .int) tb call Q C 68 lv st h kc ks = (match mm_rd lv 5 with
    | some (.inl a) => C 70 lv (vI a :: st) h kc ks
    | _ => False) := rfl
theorem g71_70  : mm_step (mm_rw mr_71) (some .int) tb call Q C 70 lv st h kc ks = (C 72 lv (vI (mI 9) :: st) h kc ks) := rfl
theorem g71_72 (a b : Int32) : mm_step (mm_rw mr_71) (some .int) tb call Q C 72 lv (.inl b :: .inl a :: st) h kc ks = ((a = b → C 84 lv st h kc ks) ∧ (¬ a = b → C 75 lv st h kc ks)) := rfl
theorem g71_75  : mm_step (mm_rw mr_71) (some .int) tb call Q C 75 lv st h kc ks = (match mm_rd lv 3 with
    | some (.inl a) => C 76 lv (vI a :: st) h kc ks
    | _ => False) := rfl
theorem g71_76  : mm_step (mm_rw mr_71) (some .int) tb call Q C 76 lv st h kc ks = (C 77 lv (vI 1 :: st) h kc ks) := rfl
theorem g71_77  : mm_step (mm_rw mr_71) (some .int) tb call Q C 77 lv st h kc ks = (match mm_rd lv 5 with
    | some (.inl a) => C 79 lv (vI a :: st) h kc ks
    | _ => False) := rfl
theorem g71_79 (a b : Int32) : mm_step (mm_rw mr_71) (some .int) tb call Q C 79 lv (.inl b :: .inl a :: st) h kc ks = (C 80 lv (vI (a <<< (b &&& 31)) :: st) h kc ks) := rfl
theorem g71_80  : mm_step (mm_rw mr_71) (some .int) tb call Q C 80 lv st h kc ks = (C 81 lv (vI (mI 1) :: st) h kc ks) := rfl
theorem g71_81 (a b : Int32) : mm_step (mm_rw mr_71) (some .int) tb call Q C 81 lv (.inl b :: .inl a :: st) h kc ks = (C 82 lv (vI (a ^^^ b) :: st) h kc ks) := rfl
theorem g71_82 (a b : Int32) : mm_step (mm_rw mr_71) (some .int) tb call Q C 82 lv (.inl b :: .inl a :: st) h kc ks = (C 83 lv (vI (a &&& b) :: st) h kc ks) := rfl
theorem g71_83 (a : Int32) : mm_step (mm_rw mr_71) (some .int) tb call Q C 83 lv (.inl a :: st) h kc ks = (C 84 (mm_st1 lv 3 (vI a)) st h kc ks) := rfl
theorem g71_84  : mm_step (mm_rw mr_71) (some .int) tb call Q C 84 lv st h kc ks = (match mm_rd lv 4 with
    | some (.inl a) => C 87 (mm_st1 lv 4 (vI (a + 1))) st h kc ks
    | _ => False) := rfl
theorem g71_87  : mm_step (mm_rw mr_71) (some .int) tb call Q C 87 lv st h kc ks = (C 37 lv st h kc ks) := rfl
theorem g71_90  : mm_step (mm_rw mr_71) (some .int) tb call Q C 90 lv st h kc ks = (match mm_rd lv 3 with
    | some (.inl a) => C 91 lv (vI a :: st) h kc ks
    | _ => False) := rfl
theorem g71_91 (v : Int32) : mm_step (mm_rw mr_71) (some .int) tb call Q C 91 lv [.inl v] h kc ks = (True ∧ Q (some (vI v)) h) := rfl
end G71

abbrev sp_125 : List Nat := [4]
section G125
variable {tb : Nat → Nat × (Nat → Int32)} {call : CO} {Q : AQ} {C : CP} {lv : AL} {st : List AV} {h : AH} {kc ks : Nat}
theorem g125_0  : mm_step (mm_rw mr_125) (some .int) tb call Q C 0 lv st h kc ks = (C 1 lv (vI 1 :: st) h kc ks) := rfl
theorem g125_1 (a : Int32) : mm_step (mm_rw mr_125) (some .int) tb call Q C 1 lv (.inl a :: st) h kc ks = (C 2 (mm_st1 lv 1 (vI a)) st h kc ks) := rfl
theorem g125_2  : mm_step (mm_rw mr_125) (some .int) tb call Q C 2 lv st h kc ks = (C 3 lv (vI 0 :: st) h kc ks) := rfl
theorem g125_3 (a : Int32) : mm_step (mm_rw mr_125) (some .int) tb call Q C 3 lv (.inl a :: st) h kc ks = (C 4 (mm_st1 lv 2 (vI a)) st h kc ks) := rfl
theorem g125_4  : mm_step (mm_rw mr_125) (some .int) tb call Q C 4 lv st h kc ks = (match mm_rd lv 2 with
    | some (.inl a) => C 5 lv (vI a :: st) h kc ks
    | _ => False) := rfl
theorem g125_5  : mm_step (mm_rw mr_125) (some .int) tb call Q C 5 lv st h kc ks = (match mm_rd lv 0 with
    | some (.inl a) => C 6 lv (vI a :: st) h kc ks
    | _ => False) := rfl
theorem g125_6 (a b : Int32) : mm_step (mm_rw mr_125) (some .int) tb call Q C 6 lv (.inl b :: .inl a :: st) h kc ks = ((b ≤ a → C 20 lv st h kc ks) ∧ (¬ b ≤ a → C 9 lv st h kc ks)) := rfl
theorem g125_9  : mm_step (mm_rw mr_125) (some .int) tb call Q C 9 lv st h kc ks = (match mm_rd lv 1 with
    | some (.inl a) => C 10 lv (vI a :: st) h kc ks
    | _ => False) := rfl
theorem g125_10  : mm_step (mm_rw mr_125) (some .int) tb call Q C 10 lv st h kc ks = (C 12 lv (vI 10 :: st) h kc ks) := rfl
theorem g125_12 (a b : Int32) : mm_step (mm_rw mr_125) (some .int) tb call Q C 12 lv (.inl b :: .inl a :: st) h kc ks = (C 13 lv (vI (a * b) :: st) h kc ks) := rfl
theorem g125_13 (a : Int32) : mm_step (mm_rw mr_125) (some .int) tb call Q C 13 lv (.inl a :: st) h kc ks = (C 14 (mm_st1 lv 1 (vI a)) st h kc ks) := rfl
theorem g125_14  : mm_step (mm_rw mr_125) (some .int) tb call Q C 14 lv st h kc ks = (match mm_rd lv 2 with
    | some (.inl a) => C 17 (mm_st1 lv 2 (vI (a + 1))) st h kc ks
    | _ => False) := rfl
theorem g125_17  : mm_step (mm_rw mr_125) (some .int) tb call Q C 17 lv st h kc ks = (C 4 lv st h kc ks) := rfl
theorem g125_20  : mm_step (mm_rw mr_125) (some .int) tb call Q C 20 lv st h kc ks = (match mm_rd lv 1 with
    | some (.inl a) => C 21 lv (vI a :: st) h kc ks
    | _ => False) := rfl
theorem g125_21 (v : Int32) : mm_step (mm_rw mr_125) (some .int) tb call Q C 21 lv [.inl v] h kc ks = (True ∧ Q (some (vI v)) h) := rfl
end G125

abbrev sp_126 : List Nat := [9, 21, 27, 37, 39, 55, 72, 91, 103]
section G126
variable {tb : Nat → Nat × (Nat → Int32)} {call : CO} {Q : AQ} {C : CP} {lv : AL} {st : List AV} {h : AH} {kc ks : Nat}
theorem g126_0  : mm_step (mm_rw mr_126) (some .int) tb call Q C 0 lv st h kc ks = (match mm_rd lv 1 with
    | some (.inl a) => C 1 lv (vI a :: st) h kc ks
    | _ => False) := rfl
theorem g126_1 (a : Int32) : mm_step (mm_rw mr_126) (some .int) tb call Q C 1 lv (.inl a :: st) h kc ks = (C 2 lv (vL a.toInt64 :: st) h kc ks) := rfl
theorem g126_2  : mm_step (mm_rw mr_126) (some .int) tb call Q C 2 lv st h kc ks = (C 3 lv (vL 1 :: st) h kc ks) := rfl
theorem g126_3  : mm_step (mm_rw mr_126) (some .int) tb call Q C 3 lv st h kc ks = (C 6 lv (vL 4 :: st) h kc ks) := rfl
theorem g126_6  : mm_step (mm_rw mr_126) (some .int) tb call Q C 6 lv st h kc ks = (mm_call call C 99 3 6 lv st h kc ks) := rfl
theorem g126_9 (a : Int32) : mm_step (mm_rw mr_126) (some .int) tb call Q C 9 lv (.inl a :: st) h kc ks = ((a = 0 → C 30 lv st h kc ks) ∧ (¬ a = 0 → C 12 lv st h kc ks)) := rfl
theorem g126_12  : mm_step (mm_rw mr_126) (some .int) tb call Q C 12 lv st h kc ks = (match mm_rd lv 2 with
    | some (.inl a) => C 13 lv (vI a :: st) h kc ks
    | _ => False) := rfl
theorem g126_13 (a : Int32) : mm_step (mm_rw mr_126) (some .int) tb call Q C 13 lv (.inl a :: st) h kc ks = (C 14 lv (vL a.toInt64 :: st) h kc ks) := rfl
theorem g126_14  : mm_step (mm_rw mr_126) (some .int) tb call Q C 14 lv st h kc ks = (C 15 lv (vL 0 :: st) h kc ks) := rfl
theorem g126_15  : mm_step (mm_rw mr_126) (some .int) tb call Q C 15 lv st h kc ks = (C 16 lv (vI 2 :: st) h kc ks) := rfl
theorem g126_16  : mm_step (mm_rw mr_126) (some .int) tb call Q C 16 lv st h kc ks = (match mm_rd lv 1 with
    | some (.inl a) => C 17 lv (vI a :: st) h kc ks
    | _ => False) := rfl
theorem g126_17 (a b : Int32) : mm_step (mm_rw mr_126) (some .int) tb call Q C 17 lv (.inl b :: .inl a :: st) h kc ks = (C 18 lv (vI (a * b) :: st) h kc ks) := rfl
theorem g126_18  : mm_step (mm_rw mr_126) (some .int) tb call Q C 18 lv st h kc ks = (mm_call call C 125 1 18 lv st h kc ks) := rfl
theorem g126_21  : mm_step (mm_rw mr_126) (some .int) tb call Q C 21 lv st h kc ks = (C 22 lv (vI 1 :: st) h kc ks) := rfl
theorem g126_22 (a b : Int32) : mm_step (mm_rw mr_126) (some .int) tb call Q C 22 lv (.inl b :: .inl a :: st) h kc ks = (C 23 lv (vI (a - b) :: st) h kc ks) := rfl
theorem g126_23 (a : Int32) : mm_step (mm_rw mr_126) (some .int) tb call Q C 23 lv (.inl a :: st) h kc ks = (C 24 lv (vL a.toInt64 :: st) h kc ks) := rfl
theorem g126_24  : mm_step (mm_rw mr_126) (some .int) tb call Q C 24 lv st h kc ks = (mm_call call C 99 3 24 lv st h kc ks) := rfl
theorem g126_27 (a : Int32) : mm_step (mm_rw mr_126) (some .int) tb call Q C 27 lv (.inl a :: st) h kc ks = ((¬ a = 0 → C 33 lv st h kc ks) ∧ (a = 0 → C 30 lv st h kc ks)) := rfl
theorem g126_30  : mm_step (mm_rw mr_126) (some .int) tb call Q C 30 lv st h kc ks = (C 32 lv (vI (mI 2) :: st) h kc ks) := rfl
theorem g126_32 (v : Int32) : mm_step (mm_rw mr_126) (some .int) tb call Q C 32 lv [.inl v] h kc ks = (True ∧ Q (some (vI v)) h) := rfl
theorem g126_33  : mm_step (mm_rw mr_126) (some .int) tb call Q C 33 lv st h kc ks = (match mm_rd lv 0 with
    | some (.inr (.inr (.inl (some k)))) => C 34 lv (vR k :: st) h kc ks
    | some (.inr (.inr (.inr t))) => C 34 lv (vT t :: st) h kc ks
    | _ => False) := rfl
theorem g126_34  : mm_step (mm_rw mr_126) (some .int) tb call Q C 34 lv st h kc ks = ((match (st.take 1).reverse with
    | .inr (.inr (.inl (some k))) :: _ => (match h.2 k with
      | some (.inr (.inr (ci, _))) => mm_cn ci = (mm_mi 123).1.cls
      | _ => False)
    | _ => False) ∧ mm_call call C 123 1 34 lv st h kc ks) := rfl
theorem g126_37  : mm_step (mm_rw mr_126) (some .int) tb call Q C 37 lv st h kc ks = (C 38 lv (vI 0 :: st) h kc ks) := rfl
theorem g126_38 (a : Int32) : mm_step (mm_rw mr_126) (some .int) tb call Q C 38 lv (.inl a :: st) h kc ks = (C 39 (mm_st1 lv 3 (vI a)) st h kc ks) := rfl
theorem g126_39  : mm_step (mm_rw mr_126) (some .int) tb call Q C 39 lv st h kc ks = (match mm_rd lv 3 with
    | some (.inl a) => C 40 lv (vI a :: st) h kc ks
    | _ => False) := rfl
theorem g126_40  : mm_step (mm_rw mr_126) (some .int) tb call Q C 40 lv st h kc ks = (match mm_rd lv 1 with
    | some (.inl a) => C 41 lv (vI a :: st) h kc ks
    | _ => False) := rfl
theorem g126_41 (a b : Int32) : mm_step (mm_rw mr_126) (some .int) tb call Q C 41 lv (.inl b :: .inl a :: st) h kc ks = ((b ≤ a → C 116 lv st h kc ks) ∧ (¬ b ≤ a → C 44 lv st h kc ks)) := rfl
theorem g126_44  : mm_step (mm_rw mr_126) (some .int) tb call Q C 44 lv st h kc ks = (match mm_rd lv 2 with
    | some (.inl a) => C 45 lv (vI a :: st) h kc ks
    | _ => False) := rfl
theorem g126_45  : mm_step (mm_rw mr_126) (some .int) tb call Q C 45 lv st h kc ks = (C 46 lv (vI 2 :: st) h kc ks) := rfl
theorem g126_46  : mm_step (mm_rw mr_126) (some .int) tb call Q C 46 lv st h kc ks = (match mm_rd lv 1 with
    | some (.inl a) => C 47 lv (vI a :: st) h kc ks
    | _ => False) := rfl
theorem g126_47  : mm_step (mm_rw mr_126) (some .int) tb call Q C 47 lv st h kc ks = (match mm_rd lv 3 with
    | some (.inl a) => C 48 lv (vI a :: st) h kc ks
    | _ => False) := rfl
theorem g126_48 (a b : Int32) : mm_step (mm_rw mr_126) (some .int) tb call Q C 48 lv (.inl b :: .inl a :: st) h kc ks = (C 49 lv (vI (a - b) :: st) h kc ks) := rfl
theorem g126_49 (a b : Int32) : mm_step (mm_rw mr_126) (some .int) tb call Q C 49 lv (.inl b :: .inl a :: st) h kc ks = (C 50 lv (vI (a * b) :: st) h kc ks) := rfl
theorem g126_50  : mm_step (mm_rw mr_126) (some .int) tb call Q C 50 lv st h kc ks = (C 51 lv (vI 1 :: st) h kc ks) := rfl
theorem g126_51 (a b : Int32) : mm_step (mm_rw mr_126) (some .int) tb call Q C 51 lv (.inl b :: .inl a :: st) h kc ks = (C 52 lv (vI (a - b) :: st) h kc ks) := rfl
theorem g126_52  : mm_step (mm_rw mr_126) (some .int) tb call Q C 52 lv st h kc ks = (mm_call call C 125 1 52 lv st h kc ks) := rfl
theorem g126_55 (a b : Int32) : mm_step (mm_rw mr_126) (some .int) tb call Q C 55 lv (.inl b :: .inl a :: st) h kc ks = (¬ b = 0 ∧ C 56 lv (vI (a / b) :: st) h kc ks) := rfl
theorem g126_56  : mm_step (mm_rw mr_126) (some .int) tb call Q C 56 lv st h kc ks = (C 58 lv (vI 10 :: st) h kc ks) := rfl
theorem g126_58 (a b : Int32) : mm_step (mm_rw mr_126) (some .int) tb call Q C 58 lv (.inl b :: .inl a :: st) h kc ks = (¬ b = 0 ∧ C 59 lv (vI (a - a / b * b) :: st) h kc ks) := rfl
theorem g126_59 (a : Int32) : mm_step (mm_rw mr_126) (some .int) tb call Q C 59 lv (.inl a :: st) h kc ks = (C 61 (mm_st1 lv 4 (vI a)) st h kc ks) := rfl
theorem g126_61  : mm_step (mm_rw mr_126) (some .int) tb call Q C 61 lv st h kc ks = (match mm_rd lv 2 with
    | some (.inl a) => C 62 lv (vI a :: st) h kc ks
    | _ => False) := rfl
theorem g126_62  : mm_step (mm_rw mr_126) (some .int) tb call Q C 62 lv st h kc ks = (C 63 lv (vI 2 :: st) h kc ks) := rfl
theorem g126_63  : mm_step (mm_rw mr_126) (some .int) tb call Q C 63 lv st h kc ks = (match mm_rd lv 1 with
    | some (.inl a) => C 64 lv (vI a :: st) h kc ks
    | _ => False) := rfl
theorem g126_64  : mm_step (mm_rw mr_126) (some .int) tb call Q C 64 lv st h kc ks = (match mm_rd lv 3 with
    | some (.inl a) => C 65 lv (vI a :: st) h kc ks
    | _ => False) := rfl
theorem g126_65 (a b : Int32) : mm_step (mm_rw mr_126) (some .int) tb call Q C 65 lv (.inl b :: .inl a :: st) h kc ks = (C 66 lv (vI (a - b) :: st) h kc ks) := rfl
theorem g126_66 (a b : Int32) : mm_step (mm_rw mr_126) (some .int) tb call Q C 66 lv (.inl b :: .inl a :: st) h kc ks = (C 67 lv (vI (a * b) :: st) h kc ks) := rfl
theorem g126_67  : mm_step (mm_rw mr_126) (some .int) tb call Q C 67 lv st h kc ks = (C 68 lv (vI 2 :: st) h kc ks) := rfl
theorem g126_68 (a b : Int32) : mm_step (mm_rw mr_126) (some .int) tb call Q C 68 lv (.inl b :: .inl a :: st) h kc ks = (C 69 lv (vI (a - b) :: st) h kc ks) := rfl
theorem g126_69  : mm_step (mm_rw mr_126) (some .int) tb call Q C 69 lv st h kc ks = (mm_call call C 125 1 69 lv st h kc ks) := rfl
theorem g126_72 (a b : Int32) : mm_step (mm_rw mr_126) (some .int) tb call Q C 72 lv (.inl b :: .inl a :: st) h kc ks = (¬ b = 0 ∧ C 73 lv (vI (a / b) :: st) h kc ks) := rfl
theorem g126_73  : mm_step (mm_rw mr_126) (some .int) tb call Q C 73 lv st h kc ks = (C 75 lv (vI 10 :: st) h kc ks) := rfl
theorem g126_75 (a b : Int32) : mm_step (mm_rw mr_126) (some .int) tb call Q C 75 lv (.inl b :: .inl a :: st) h kc ks = (¬ b = 0 ∧ C 76 lv (vI (a - a / b * b) :: st) h kc ks) := rfl
theorem g126_76 (a : Int32) : mm_step (mm_rw mr_126) (some .int) tb call Q C 76 lv (.inl a :: st) h kc ks = (C 78 (mm_st1 lv 5 (vI a)) st h kc ks) := rfl
theorem g126_78  : mm_step (mm_rw mr_126) (some .int) tb call Q C 78 lv st h kc ks = (match mm_rd lv 0 with
    | some (.inr (.inr (.inl (some k)))) => C 79 lv (vR k :: st) h kc ks
    | some (.inr (.inr (.inr t))) => C 79 lv (vT t :: st) h kc ks
    | _ => False) := rfl
theorem g126_79 (k : Nat) : mm_step (mm_rw mr_126) (some .int) tb call Q C 79 lv (.inr (.inr (.inl (some k))) :: st) h kc ks = (match h.2 k with
    | some (.inr (.inr (ci, fs))) => ci = 8 ∧ (match fs[25]? with
      | some v => C 82 lv (v :: st) h kc ks
      | none => False)
    | _ => False) := rfl
theorem g126_82  : mm_step (mm_rw mr_126) (some .int) tb call Q C 82 lv st h kc ks = (match mm_rd lv 0 with
    | some (.inr (.inr (.inl (some k)))) => C 83 lv (vR k :: st) h kc ks
    | some (.inr (.inr (.inr t))) => C 83 lv (vT t :: st) h kc ks
    | _ => False) := rfl
theorem g126_83 (k : Nat) : mm_step (mm_rw mr_126) (some .int) tb call Q C 83 lv (.inr (.inr (.inl (some k))) :: st) h kc ks = (match h.2 k with
    | some (.inr (.inr (ci, fs))) => ci = 8 ∧ (match fs[26]? with
      | some v => C 86 lv (v :: st) h kc ks
      | none => False)
    | _ => False) := rfl
theorem g126_86  : mm_step (mm_rw mr_126) (some .int) tb call Q C 86 lv st h kc ks = (match mm_rd lv 4 with
    | some (.inl a) => C 88 lv (vI a :: st) h kc ks
    | _ => False) := rfl
theorem g126_88  : mm_step (mm_rw mr_126) (some .int) tb call Q C 88 lv st h kc ks = (mm_call call C 109 3 88 lv st h kc ks) := rfl
theorem g126_91  : mm_step (mm_rw mr_126) (some .int) tb call Q C 91 lv st h kc ks = (C 93 lv (vI (mI 9) :: st) h kc ks) := rfl
theorem g126_93 (a b : Int32) : mm_step (mm_rw mr_126) (some .int) tb call Q C 93 lv (.inl b :: .inl a :: st) h kc ks = ((a = b → C 108 lv st h kc ks) ∧ (¬ a = b → C 96 lv st h kc ks)) := rfl
theorem g126_96  : mm_step (mm_rw mr_126) (some .int) tb call Q C 96 lv st h kc ks = (match mm_rd lv 0 with
    | some (.inr (.inr (.inl (some k)))) => C 97 lv (vR k :: st) h kc ks
    | some (.inr (.inr (.inr t))) => C 97 lv (vT t :: st) h kc ks
    | _ => False) := rfl
theorem g126_97  : mm_step (mm_rw mr_126) (some .int) tb call Q C 97 lv st h kc ks = (match mm_rd lv 4 with
    | some (.inl a) => C 99 lv (vI a :: st) h kc ks
    | _ => False) := rfl
theorem g126_99  : mm_step (mm_rw mr_126) (some .int) tb call Q C 99 lv st h kc ks = (C 100 lv (vI 0 :: st) h kc ks) := rfl
theorem g126_100  : mm_step (mm_rw mr_126) (some .int) tb call Q C 100 lv st h kc ks = ((match (st.take 3).reverse with
    | .inr (.inr (.inl (some k))) :: _ => (match h.2 k with
      | some (.inr (.inr (ci, _))) => mm_cn ci = (mm_mi 124).1.cls
      | _ => False)
    | _ => False) ∧ mm_call call C 124 3 100 lv st h kc ks) := rfl
theorem g126_103  : mm_step (mm_rw mr_126) (some .int) tb call Q C 103 lv st h kc ks = (match mm_rd lv 5 with
    | some (.inl a) => C 105 lv (vI a :: st) h kc ks
    | _ => False) := rfl
theorem g126_105 (a b : Int32) : mm_step (mm_rw mr_126) (some .int) tb call Q C 105 lv (.inl b :: .inl a :: st) h kc ks = ((a = b → C 110 lv st h kc ks) ∧ (¬ a = b → C 108 lv st h kc ks)) := rfl
theorem g126_108  : mm_step (mm_rw mr_126) (some .int) tb call Q C 108 lv st h kc ks = (match mm_rd lv 3 with
    | some (.inl a) => C 109 lv (vI a :: st) h kc ks
    | _ => False) := rfl
theorem g126_109 (v : Int32) : mm_step (mm_rw mr_126) (some .int) tb call Q C 109 lv [.inl v] h kc ks = (True ∧ Q (some (vI v)) h) := rfl
theorem g126_110  : mm_step (mm_rw mr_126) (some .int) tb call Q C 110 lv st h kc ks = (match mm_rd lv 3 with
    | some (.inl a) => C 113 (mm_st1 lv 3 (vI (a + 1))) st h kc ks
    | _ => False) := rfl
theorem g126_113  : mm_step (mm_rw mr_126) (some .int) tb call Q C 113 lv st h kc ks = (C 39 lv st h kc ks) := rfl
theorem g126_116  : mm_step (mm_rw mr_126) (some .int) tb call Q C 116 lv st h kc ks = (C 118 lv (vI (mI 9) :: st) h kc ks) := rfl
theorem g126_118 (v : Int32) : mm_step (mm_rw mr_126) (some .int) tb call Q C 118 lv [.inl v] h kc ks = (True ∧ Q (some (vI v)) h) := rfl
end G126

abbrev sp_136 : List Nat := [9, 19, 25, 35, 40, 70, 82, 93, 112, 126]
section G136
variable {tb : Nat → Nat × (Nat → Int32)} {call : CO} {Q : AQ} {C : CP} {lv : AL} {st : List AV} {h : AH} {kc ks : Nat}
theorem g136_0  : mm_step (mm_rw mr_136) (some .int) tb call Q C 0 lv st h kc ks = (match mm_rd lv 1 with
    | some (.inl a) => C 1 lv (vI a :: st) h kc ks
    | _ => False) := rfl
theorem g136_1 (a : Int32) : mm_step (mm_rw mr_136) (some .int) tb call Q C 1 lv (.inl a :: st) h kc ks = (C 2 lv (vL a.toInt64 :: st) h kc ks) := rfl
theorem g136_2  : mm_step (mm_rw mr_136) (some .int) tb call Q C 2 lv st h kc ks = (C 3 lv (vL 1 :: st) h kc ks) := rfl
theorem g136_3  : mm_step (mm_rw mr_136) (some .int) tb call Q C 3 lv st h kc ks = (C 6 lv (vL 4 :: st) h kc ks) := rfl
theorem g136_6  : mm_step (mm_rw mr_136) (some .int) tb call Q C 6 lv st h kc ks = (mm_call call C 99 3 6 lv st h kc ks) := rfl
theorem g136_9 (a : Int32) : mm_step (mm_rw mr_136) (some .int) tb call Q C 9 lv (.inl a :: st) h kc ks = ((a = 0 → C 28 lv st h kc ks) ∧ (¬ a = 0 → C 12 lv st h kc ks)) := rfl
theorem g136_12  : mm_step (mm_rw mr_136) (some .int) tb call Q C 12 lv st h kc ks = (match mm_rd lv 2 with
    | some (.inl a) => C 13 lv (vI a :: st) h kc ks
    | _ => False) := rfl
theorem g136_13 (a : Int32) : mm_step (mm_rw mr_136) (some .int) tb call Q C 13 lv (.inl a :: st) h kc ks = (C 14 lv (vL a.toInt64 :: st) h kc ks) := rfl
theorem g136_14  : mm_step (mm_rw mr_136) (some .int) tb call Q C 14 lv st h kc ks = (C 15 lv (vL 0 :: st) h kc ks) := rfl
theorem g136_15  : mm_step (mm_rw mr_136) (some .int) tb call Q C 15 lv st h kc ks = (match mm_rd lv 1 with
    | some (.inl a) => C 16 lv (vI a :: st) h kc ks
    | _ => False) := rfl
theorem g136_16  : mm_step (mm_rw mr_136) (some .int) tb call Q C 16 lv st h kc ks = (mm_call call C 125 1 16 lv st h kc ks) := rfl
theorem g136_19  : mm_step (mm_rw mr_136) (some .int) tb call Q C 19 lv st h kc ks = (C 20 lv (vI 1 :: st) h kc ks) := rfl
theorem g136_20 (a b : Int32) : mm_step (mm_rw mr_136) (some .int) tb call Q C 20 lv (.inl b :: .inl a :: st) h kc ks = (C 21 lv (vI (a - b) :: st) h kc ks) := rfl
theorem g136_21 (a : Int32) : mm_step (mm_rw mr_136) (some .int) tb call Q C 21 lv (.inl a :: st) h kc ks = (C 22 lv (vL a.toInt64 :: st) h kc ks) := rfl
theorem g136_22  : mm_step (mm_rw mr_136) (some .int) tb call Q C 22 lv st h kc ks = (mm_call call C 99 3 22 lv st h kc ks) := rfl
theorem g136_25 (a : Int32) : mm_step (mm_rw mr_136) (some .int) tb call Q C 25 lv (.inl a :: st) h kc ks = ((¬ a = 0 → C 31 lv st h kc ks) ∧ (a = 0 → C 28 lv st h kc ks)) := rfl
theorem g136_28  : mm_step (mm_rw mr_136) (some .int) tb call Q C 28 lv st h kc ks = (C 30 lv (vI (mI 2) :: st) h kc ks) := rfl
theorem g136_30 (v : Int32) : mm_step (mm_rw mr_136) (some .int) tb call Q C 30 lv [.inl v] h kc ks = (True ∧ Q (some (vI v)) h) := rfl
theorem g136_31  : mm_step (mm_rw mr_136) (some .int) tb call Q C 31 lv st h kc ks = (match mm_rd lv 0 with
    | some (.inr (.inr (.inl (some k)))) => C 32 lv (vR k :: st) h kc ks
    | some (.inr (.inr (.inr t))) => C 32 lv (vT t :: st) h kc ks
    | _ => False) := rfl
theorem g136_32  : mm_step (mm_rw mr_136) (some .int) tb call Q C 32 lv st h kc ks = ((match (st.take 1).reverse with
    | .inr (.inr (.inl (some k))) :: _ => (match h.2 k with
      | some (.inr (.inr (ci, _))) => mm_cn ci = (mm_mi 123).1.cls
      | _ => False)
    | _ => False) ∧ mm_call call C 123 1 32 lv st h kc ks) := rfl
theorem g136_35  : mm_step (mm_rw mr_136) (some .int) tb call Q C 35 lv st h kc ks = (C 36 lv (vI 0 :: st) h kc ks) := rfl
theorem g136_36 (a : Int32) : mm_step (mm_rw mr_136) (some .int) tb call Q C 36 lv (.inl a :: st) h kc ks = (C 37 (mm_st1 lv 3 (vI a)) st h kc ks) := rfl
theorem g136_37  : mm_step (mm_rw mr_136) (some .int) tb call Q C 37 lv st h kc ks = (C 38 lv (vI 0 :: st) h kc ks) := rfl
theorem g136_38 (a : Int32) : mm_step (mm_rw mr_136) (some .int) tb call Q C 38 lv (.inl a :: st) h kc ks = (C 40 (mm_st1 lv 4 (vI a)) st h kc ks) := rfl
theorem g136_40  : mm_step (mm_rw mr_136) (some .int) tb call Q C 40 lv st h kc ks = (match mm_rd lv 4 with
    | some (.inl a) => C 42 lv (vI a :: st) h kc ks
    | _ => False) := rfl
theorem g136_42  : mm_step (mm_rw mr_136) (some .int) tb call Q C 42 lv st h kc ks = (match mm_rd lv 0 with
    | some (.inr (.inr (.inl (some k)))) => C 43 lv (vR k :: st) h kc ks
    | some (.inr (.inr (.inr t))) => C 43 lv (vT t :: st) h kc ks
    | _ => False) := rfl
theorem g136_43 (k : Nat) : mm_step (mm_rw mr_136) (some .int) tb call Q C 43 lv (.inr (.inr (.inl (some k))) :: st) h kc ks = (match h.2 k with
    | some (.inr (.inr (ci, fs))) => ci = 8 ∧ (match fs[15]? with
      | some v => C 46 lv (v :: st) h kc ks
      | none => False)
    | _ => False) := rfl
theorem g136_46 (a b : Int32) : mm_step (mm_rw mr_136) (some .int) tb call Q C 46 lv (.inl b :: .inl a :: st) h kc ks = ((b ≤ a → C 67 lv st h kc ks) ∧ (¬ b ≤ a → C 49 lv st h kc ks)) := rfl
theorem g136_49  : mm_step (mm_rw mr_136) (some .int) tb call Q C 49 lv st h kc ks = (match mm_rd lv 3 with
    | some (.inl a) => C 50 lv (vI a :: st) h kc ks
    | _ => False) := rfl
theorem g136_50  : mm_step (mm_rw mr_136) (some .int) tb call Q C 50 lv st h kc ks = (C 51 lv (vI 1 :: st) h kc ks) := rfl
theorem g136_51  : mm_step (mm_rw mr_136) (some .int) tb call Q C 51 lv st h kc ks = (match mm_rd lv 0 with
    | some (.inr (.inr (.inl (some k)))) => C 52 lv (vR k :: st) h kc ks
    | some (.inr (.inr (.inr t))) => C 52 lv (vT t :: st) h kc ks
    | _ => False) := rfl
theorem g136_52 (k : Nat) : mm_step (mm_rw mr_136) (some .int) tb call Q C 52 lv (.inr (.inr (.inl (some k))) :: st) h kc ks = (match h.2 k with
    | some (.inr (.inr (ci, fs))) => ci = 8 ∧ (match fs[14]? with
      | some v => C 55 lv (v :: st) h kc ks
      | none => False)
    | _ => False) := rfl
theorem g136_55  : mm_step (mm_rw mr_136) (some .int) tb call Q C 55 lv st h kc ks = (match mm_rd lv 4 with
    | some (.inl a) => C 57 lv (vI a :: st) h kc ks
    | _ => False) := rfl
theorem g136_57 (i : Int32) (k : Nat) : mm_step (mm_rw mr_136) (some .int) tb call Q C 57 lv (.inl i :: .inr (.inr (.inl (some k))) :: st) h kc ks = (match h.2 k with
    | some (.inl (.int, n, f)) => vp_in i n ∧ C 58 lv (vI (f i.toNatClampNeg) :: st) h kc ks
    | _ => False) := rfl
theorem g136_57t (i : Int32) (t : Nat) : mm_step (mm_rw mr_136) (some .int) tb call Q C 57 lv (.inl i :: .inr (.inr (.inr t)) :: st) h kc ks = (vp_in i (tb t).1 ∧ C 58 lv (vI ((tb t).2 i.toNatClampNeg) :: st) h kc ks) := rfl
theorem g136_58 (a b : Int32) : mm_step (mm_rw mr_136) (some .int) tb call Q C 58 lv (.inl b :: .inl a :: st) h kc ks = (C 59 lv (vI (a <<< (b &&& 31)) :: st) h kc ks) := rfl
theorem g136_59 (a b : Int32) : mm_step (mm_rw mr_136) (some .int) tb call Q C 59 lv (.inl b :: .inl a :: st) h kc ks = (C 60 lv (vI (a ||| b) :: st) h kc ks) := rfl
theorem g136_60 (a : Int32) : mm_step (mm_rw mr_136) (some .int) tb call Q C 60 lv (.inl a :: st) h kc ks = (C 61 (mm_st1 lv 3 (vI a)) st h kc ks) := rfl
theorem g136_61  : mm_step (mm_rw mr_136) (some .int) tb call Q C 61 lv st h kc ks = (match mm_rd lv 4 with
    | some (.inl a) => C 64 (mm_st1 lv 4 (vI (a + 1))) st h kc ks
    | _ => False) := rfl
theorem g136_64  : mm_step (mm_rw mr_136) (some .int) tb call Q C 64 lv st h kc ks = (C 40 lv st h kc ks) := rfl
theorem g136_67  : mm_step (mm_rw mr_136) (some .int) tb call Q C 67 lv st h kc ks = (C 68 lv (vI 0 :: st) h kc ks) := rfl
theorem g136_68 (a : Int32) : mm_step (mm_rw mr_136) (some .int) tb call Q C 68 lv (.inl a :: st) h kc ks = (C 70 (mm_st1 lv 4 (vI a)) st h kc ks) := rfl
theorem g136_70  : mm_step (mm_rw mr_136) (some .int) tb call Q C 70 lv st h kc ks = (match mm_rd lv 4 with
    | some (.inl a) => C 72 lv (vI a :: st) h kc ks
    | _ => False) := rfl
theorem g136_72  : mm_step (mm_rw mr_136) (some .int) tb call Q C 72 lv st h kc ks = (C 74 lv (vI 100 :: st) h kc ks) := rfl
theorem g136_74 (a b : Int32) : mm_step (mm_rw mr_136) (some .int) tb call Q C 74 lv (.inl b :: .inl a :: st) h kc ks = ((b ≤ a → C 143 lv st h kc ks) ∧ (¬ b ≤ a → C 77 lv st h kc ks)) := rfl
theorem g136_77  : mm_step (mm_rw mr_136) (some .int) tb call Q C 77 lv st h kc ks = (match mm_rd lv 1 with
    | some (.inl a) => C 78 lv (vI a :: st) h kc ks
    | _ => False) := rfl
theorem g136_78  : mm_step (mm_rw mr_136) (some .int) tb call Q C 78 lv st h kc ks = (C 79 lv (vI 1 :: st) h kc ks) := rfl
theorem g136_79 (a b : Int32) : mm_step (mm_rw mr_136) (some .int) tb call Q C 79 lv (.inl b :: .inl a :: st) h kc ks = (C 80 lv (vI (a - b) :: st) h kc ks) := rfl
theorem g136_80 (a : Int32) : mm_step (mm_rw mr_136) (some .int) tb call Q C 80 lv (.inl a :: st) h kc ks = (C 82 (mm_st1 lv 5 (vI a)) st h kc ks) := rfl
theorem g136_82  : mm_step (mm_rw mr_136) (some .int) tb call Q C 82 lv st h kc ks = (match mm_rd lv 5 with
    | some (.inl a) => C 84 lv (vI a :: st) h kc ks
    | _ => False) := rfl
theorem g136_84 (a : Int32) : mm_step (mm_rw mr_136) (some .int) tb call Q C 84 lv (.inl a :: st) h kc ks = ((a < 0 → C 137 lv st h kc ks) ∧ (¬ a < 0 → C 87 lv st h kc ks)) := rfl
theorem g136_87  : mm_step (mm_rw mr_136) (some .int) tb call Q C 87 lv st h kc ks = (match mm_rd lv 2 with
    | some (.inl a) => C 88 lv (vI a :: st) h kc ks
    | _ => False) := rfl
theorem g136_88  : mm_step (mm_rw mr_136) (some .int) tb call Q C 88 lv st h kc ks = (match mm_rd lv 5 with
    | some (.inl a) => C 90 lv (vI a :: st) h kc ks
    | _ => False) := rfl
theorem g136_90  : mm_step (mm_rw mr_136) (some .int) tb call Q C 90 lv st h kc ks = (mm_call call C 125 1 90 lv st h kc ks) := rfl
theorem g136_93 (a b : Int32) : mm_step (mm_rw mr_136) (some .int) tb call Q C 93 lv (.inl b :: .inl a :: st) h kc ks = (¬ b = 0 ∧ C 94 lv (vI (a / b) :: st) h kc ks) := rfl
theorem g136_94  : mm_step (mm_rw mr_136) (some .int) tb call Q C 94 lv st h kc ks = (C 96 lv (vI 10 :: st) h kc ks) := rfl
theorem g136_96 (a b : Int32) : mm_step (mm_rw mr_136) (some .int) tb call Q C 96 lv (.inl b :: .inl a :: st) h kc ks = (¬ b = 0 ∧ C 97 lv (vI (a - a / b * b) :: st) h kc ks) := rfl
theorem g136_97 (a : Int32) : mm_step (mm_rw mr_136) (some .int) tb call Q C 97 lv (.inl a :: st) h kc ks = (C 99 (mm_st1 lv 6 (vI a)) st h kc ks) := rfl
theorem g136_99  : mm_step (mm_rw mr_136) (some .int) tb call Q C 99 lv st h kc ks = (match mm_rd lv 0 with
    | some (.inr (.inr (.inl (some k)))) => C 100 lv (vR k :: st) h kc ks
    | some (.inr (.inr (.inr t))) => C 100 lv (vT t :: st) h kc ks
    | _ => False) := rfl
theorem g136_100 (k : Nat) : mm_step (mm_rw mr_136) (some .int) tb call Q C 100 lv (.inr (.inr (.inl (some k))) :: st) h kc ks = (match h.2 k with
    | some (.inr (.inr (ci, fs))) => ci = 8 ∧ (match fs[25]? with
      | some v => C 103 lv (v :: st) h kc ks
      | none => False)
    | _ => False) := rfl
theorem g136_103  : mm_step (mm_rw mr_136) (some .int) tb call Q C 103 lv st h kc ks = (match mm_rd lv 0 with
    | some (.inr (.inr (.inl (some k)))) => C 104 lv (vR k :: st) h kc ks
    | some (.inr (.inr (.inr t))) => C 104 lv (vT t :: st) h kc ks
    | _ => False) := rfl
theorem g136_104 (k : Nat) : mm_step (mm_rw mr_136) (some .int) tb call Q C 104 lv (.inr (.inr (.inl (some k))) :: st) h kc ks = (match h.2 k with
    | some (.inr (.inr (ci, fs))) => ci = 8 ∧ (match fs[26]? with
      | some v => C 107 lv (v :: st) h kc ks
      | none => False)
    | _ => False) := rfl
theorem g136_107  : mm_step (mm_rw mr_136) (some .int) tb call Q C 107 lv st h kc ks = (match mm_rd lv 6 with
    | some (.inl a) => C 109 lv (vI a :: st) h kc ks
    | _ => False) := rfl
theorem g136_109  : mm_step (mm_rw mr_136) (some .int) tb call Q C 109 lv st h kc ks = (mm_call call C 109 3 109 lv st h kc ks) := rfl
theorem g136_112  : mm_step (mm_rw mr_136) (some .int) tb call Q C 112 lv st h kc ks = (C 114 lv (vI (mI 9) :: st) h kc ks) := rfl
theorem g136_114 (a b : Int32) : mm_step (mm_rw mr_136) (some .int) tb call Q C 114 lv (.inl b :: .inl a :: st) h kc ks = ((a = b → C 131 lv st h kc ks) ∧ (¬ a = b → C 117 lv st h kc ks)) := rfl
theorem g136_117  : mm_step (mm_rw mr_136) (some .int) tb call Q C 117 lv st h kc ks = (match mm_rd lv 3 with
    | some (.inl a) => C 118 lv (vI a :: st) h kc ks
    | _ => False) := rfl
theorem g136_118  : mm_step (mm_rw mr_136) (some .int) tb call Q C 118 lv st h kc ks = (C 119 lv (vI 1 :: st) h kc ks) := rfl
theorem g136_119  : mm_step (mm_rw mr_136) (some .int) tb call Q C 119 lv st h kc ks = (match mm_rd lv 0 with
    | some (.inr (.inr (.inl (some k)))) => C 120 lv (vR k :: st) h kc ks
    | some (.inr (.inr (.inr t))) => C 120 lv (vT t :: st) h kc ks
    | _ => False) := rfl
theorem g136_120  : mm_step (mm_rw mr_136) (some .int) tb call Q C 120 lv st h kc ks = (match mm_rd lv 6 with
    | some (.inl a) => C 122 lv (vI a :: st) h kc ks
    | _ => False) := rfl
theorem g136_122  : mm_step (mm_rw mr_136) (some .int) tb call Q C 122 lv st h kc ks = (C 123 lv (vI 0 :: st) h kc ks) := rfl
theorem g136_123  : mm_step (mm_rw mr_136) (some .int) tb call Q C 123 lv st h kc ks = ((match (st.take 3).reverse with
    | .inr (.inr (.inl (some k))) :: _ => (match h.2 k with
      | some (.inr (.inr (ci, _))) => mm_cn ci = (mm_mi 124).1.cls
      | _ => False)
    | _ => False) ∧ mm_call call C 124 3 123 lv st h kc ks) := rfl
theorem g136_126 (a b : Int32) : mm_step (mm_rw mr_136) (some .int) tb call Q C 126 lv (.inl b :: .inl a :: st) h kc ks = (C 127 lv (vI (a <<< (b &&& 31)) :: st) h kc ks) := rfl
theorem g136_127  : mm_step (mm_rw mr_136) (some .int) tb call Q C 127 lv st h kc ks = (C 128 lv (vI (mI 1) :: st) h kc ks) := rfl
theorem g136_128 (a b : Int32) : mm_step (mm_rw mr_136) (some .int) tb call Q C 128 lv (.inl b :: .inl a :: st) h kc ks = (C 129 lv (vI (a ^^^ b) :: st) h kc ks) := rfl
theorem g136_129 (a b : Int32) : mm_step (mm_rw mr_136) (some .int) tb call Q C 129 lv (.inl b :: .inl a :: st) h kc ks = (C 130 lv (vI (a &&& b) :: st) h kc ks) := rfl
theorem g136_130 (a : Int32) : mm_step (mm_rw mr_136) (some .int) tb call Q C 130 lv (.inl a :: st) h kc ks = (C 131 (mm_st1 lv 3 (vI a)) st h kc ks) := rfl
theorem g136_131  : mm_step (mm_rw mr_136) (some .int) tb call Q C 131 lv st h kc ks = (match mm_rd lv 5 with
    | some (.inl a) => C 134 (mm_st1 lv 5 (vI (a + (mI 1)))) st h kc ks
    | _ => False) := rfl
theorem g136_134  : mm_step (mm_rw mr_136) (some .int) tb call Q C 134 lv st h kc ks = (C 82 lv st h kc ks) := rfl
theorem g136_137  : mm_step (mm_rw mr_136) (some .int) tb call Q C 137 lv st h kc ks = (match mm_rd lv 4 with
    | some (.inl a) => C 140 (mm_st1 lv 4 (vI (a + 1))) st h kc ks
    | _ => False) := rfl
theorem g136_140  : mm_step (mm_rw mr_136) (some .int) tb call Q C 140 lv st h kc ks = (C 70 lv st h kc ks) := rfl
theorem g136_143  : mm_step (mm_rw mr_136) (some .int) tb call Q C 143 lv st h kc ks = (match mm_rd lv 3 with
    | some (.inl a) => C 144 lv (vI a :: st) h kc ks
    | _ => False) := rfl
theorem g136_144 (v : Int32) : mm_step (mm_rw mr_136) (some .int) tb call Q C 144 lv [.inl v] h kc ks = (True ∧ Q (some (vI v)) h) := rfl
end G136

section OPS4
variable {tb : Nat → Nat × (Nat → Int32)} {d : Nat} {s : MM} {g : SG}
theorem told_le {x : Int32} (h1 : ¬ x < 1) (h2 : ¬ 4 < x) : ∃ n, 1 ≤ n ∧ n ≤ 4 ∧ x = nI n := by
  have c : ¬ x < 0 := fun z => h1 (by
    have := Int32.lt_iff_toInt_lt.mp z
    have e0 : (0 : Int32).toInt = 0 := by decide
    have e1 : (1 : Int32).toInt = 1 := by decide
    exact Int32.lt_iff_toInt_lt.mpr (by omega))
  obtain ⟨n, hn, rfl⟩ := nI_of c
  rw [show (1 : Int32) = nI 1 from rfl, nI_ltI hn (by omega)] at h1
  rw [show (4 : Int32) = nI 4 from rfl, nI_ltI (by omega) hn] at h2
  exact ⟨n, by omega, by omega, rfl⟩
theorem told_no1 {x y : Int32} {e : Nat} (h : x < 1) : told x y e = false := by
  unfold told
  cases hb : isB x 5
  · rfl
  · obtain ⟨n, hn, rfl⟩ := isB_t (by omega) hb
    rw [show (1 : Int32) = nI 1 from rfl, nI_ltI (by omega) (by omega)] at h
    rw [show n = 0 by omega, decide_eq_true (show nI 0 = 0 from rfl)]
    rfl
theorem told_no4 {x y : Int32} {e : Nat} (h : 4 < x) : told x y e = false := by
  unfold told
  cases hb : isB x 5
  · rfl
  · obtain ⟨n, hn, rfl⟩ := isB_t (by omega) hb
    rw [show (4 : Int32) = nI 4 from rfl, nI_ltI (by omega) (by omega)] at h
    omega
theorem told_n {n e : Nat} {y : Int32} (h1 : 1 ≤ n) (h4 : n ≤ 4) : told (nI n) y e = isB y (10 ^ (e * n)) := by
  unfold told
  rw [isB_nI (by omega) (by omega), decide_eq_true (show n < 5 by omega), decide_eq_false (by rw [show (0 : Int32) = nI 0 from rfl, nI_eq (by omega) (by omega)]; omega), nI_clamp (by omega)]
  rfl
theorem C_isTold (ht : tb 0 = (9, mm_T)) (h : AH) (x y : Int32) {e : Nat} (he : e ≤ 2) : WM tb (d + 1) k_B_isTold [vI x, vI y, vI (nI e)] h 0 0 (fun z h' => z = some (vI (b01 (told x y e))) ∧ h' = h) := by
  refine WM.of mi_91 rfl rfl (Nat.le_of_ble_eq_true rfl) ?_
  show WP (mm_rw mr_91) (some .boolean) tb (WM tb d) _ 0 [(0, vI x), (1, vI y), (2, vI (nI e))] [] h 0 0
  by_cases c1 : x < 1
  · rw [told_no1 c1]
    (try simp only [Option.toList_some, Option.toList_none, List.nil_append, List.append_nil, List.cons_append, Nat.sub_zero, Nat.sub_self, Nat.zero_sub]); refine Go.wp sp_91 200 ?_; simp only [↓g91_0, ↓g91_1, ↓g91_2, ↓g91_5, ↓g91_6, ↓g91_7, ↓g91_10, ↓g91_11, ↓g91_14, ↓g91_15, ↓g91_18, ↓g91_19, ↓g91_20, ↓g91_21, ↓g91_21t, ↓g91_22, ↓g91_25, ↓g91_26, ↓g91_29, ↓g91_30, ↓Go_s, ↓GoC_a, ↓reduceIte, ↓mm_call_eq, ↓mmw_nil, ↓mmw_cons, List.take_succ_cons, List.take_zero, List.take_nil, List.drop_succ_cons, List.drop_zero, List.drop_nil, List.reverse_cons, List.reverse_nil, List.nil_append, List.cons_append, List.append_nil, Option.toList_some, Option.toList_none, Nat.sub_zero, Nat.le_refl, mmr_cons, mm_st1, mm_st2, mmi_nil, mmi_cons, mmc_I, mmc_L, mmc_R, mmu_get, mmu_one, mma_get, mma_one, List.filter_cons, List.filter_nil, List.contains_cons, List.contains_nil, Nat.reduceBEq, Nat.reduceAdd, Nat.reduceLT, Nat.reduceSub, Nat.reduceLeDiff, Nat.reduceEqDiff, Int32.reduceAdd, Bool.not_true, Bool.not_false, Bool.and_true, Bool.true_and, Bool.and_false, Bool.false_and, Bool.or_false, Bool.false_or, Bool.or_true, Bool.true_or, if_true, if_false, ite_true, ite_false, Bool.false_eq_true, List.getElem?_cons_zero, List.getElem?_cons_succ, List.length_cons, List.length_nil, true_and, and_true, List.set_cons_zero, List.set_cons_succ, Fin.isValue, Fin.val_zero, Fin.val_one, Fin.val_two, Fin.reduceFinMk, Nat.zero_add, ht]
    exact ⟨fun _ => ⟨Or.inl trivial, rfl⟩, fun c => absurd c1 c⟩
  · by_cases c4 : 4 < x
    · rw [told_no4 c4]
      (try simp only [Option.toList_some, Option.toList_none, List.nil_append, List.append_nil, List.cons_append, Nat.sub_zero, Nat.sub_self, Nat.zero_sub]); refine Go.wp sp_91 200 ?_; simp only [↓g91_0, ↓g91_1, ↓g91_2, ↓g91_5, ↓g91_6, ↓g91_7, ↓g91_10, ↓g91_11, ↓g91_14, ↓g91_15, ↓g91_18, ↓g91_19, ↓g91_20, ↓g91_21, ↓g91_21t, ↓g91_22, ↓g91_25, ↓g91_26, ↓g91_29, ↓g91_30, ↓Go_s, ↓GoC_a, ↓reduceIte, ↓mm_call_eq, ↓mmw_nil, ↓mmw_cons, List.take_succ_cons, List.take_zero, List.take_nil, List.drop_succ_cons, List.drop_zero, List.drop_nil, List.reverse_cons, List.reverse_nil, List.nil_append, List.cons_append, List.append_nil, Option.toList_some, Option.toList_none, Nat.sub_zero, Nat.le_refl, mmr_cons, mm_st1, mm_st2, mmi_nil, mmi_cons, mmc_I, mmc_L, mmc_R, mmu_get, mmu_one, mma_get, mma_one, List.filter_cons, List.filter_nil, List.contains_cons, List.contains_nil, Nat.reduceBEq, Nat.reduceAdd, Nat.reduceLT, Nat.reduceSub, Nat.reduceLeDiff, Nat.reduceEqDiff, Int32.reduceAdd, Bool.not_true, Bool.not_false, Bool.and_true, Bool.true_and, Bool.and_false, Bool.false_and, Bool.or_false, Bool.false_or, Bool.or_true, Bool.true_or, if_true, if_false, ite_true, ite_false, Bool.false_eq_true, List.getElem?_cons_zero, List.getElem?_cons_succ, List.length_cons, List.length_nil, true_and, and_true, List.set_cons_zero, List.set_cons_succ, Fin.isValue, Fin.val_zero, Fin.val_one, Fin.val_two, Fin.reduceFinMk, Nat.zero_add, ht]
      exact ⟨fun _ => ⟨Or.inl trivial, rfl⟩, fun _ => ⟨fun _ => ⟨Or.inl trivial, rfl⟩, fun c => absurd c4 c⟩⟩
    · obtain ⟨n, hn1, hn4, rfl⟩ := told_le c1 c4
      have hb : e * n < 9 := by
        have : e * n ≤ 2 * 4 := Nat.mul_le_mul he hn4
        omega
      rw [told_n hn1 hn4]
      (try simp only [Option.toList_some, Option.toList_none, List.nil_append, List.append_nil, List.cons_append, Nat.sub_zero, Nat.sub_self, Nat.zero_sub]); refine Go.wp sp_91 200 ?_; simp only [↓g91_0, ↓g91_1, ↓g91_2, ↓g91_5, ↓g91_6, ↓g91_7, ↓g91_10, ↓g91_11, ↓g91_14, ↓g91_15, ↓g91_18, ↓g91_19, ↓g91_20, ↓g91_21, ↓g91_21t, ↓g91_22, ↓g91_25, ↓g91_26, ↓g91_29, ↓g91_30, ↓Go_s, ↓GoC_a, ↓reduceIte, ↓mm_call_eq, ↓mmw_nil, ↓mmw_cons, List.take_succ_cons, List.take_zero, List.take_nil, List.drop_succ_cons, List.drop_zero, List.drop_nil, List.reverse_cons, List.reverse_nil, List.nil_append, List.cons_append, List.append_nil, Option.toList_some, Option.toList_none, Nat.sub_zero, Nat.le_refl, mmr_cons, mm_st1, mm_st2, mmi_nil, mmi_cons, mmc_I, mmc_L, mmc_R, mmu_get, mmu_one, mma_get, mma_one, List.filter_cons, List.filter_nil, List.contains_cons, List.contains_nil, Nat.reduceBEq, Nat.reduceAdd, Nat.reduceLT, Nat.reduceSub, Nat.reduceLeDiff, Nat.reduceEqDiff, Int32.reduceAdd, Bool.not_true, Bool.not_false, Bool.and_true, Bool.true_and, Bool.and_false, Bool.false_and, Bool.or_false, Bool.false_or, Bool.or_true, Bool.true_or, if_true, if_false, ite_true, ite_false, Bool.false_eq_true, List.getElem?_cons_zero, List.getElem?_cons_succ, List.length_cons, List.length_nil, true_and, and_true, List.set_cons_zero, List.set_cons_succ, Fin.isValue, Fin.val_zero, Fin.val_one, Fin.val_two, Fin.reduceFinMk, Nat.zero_add, ht]
      refine ⟨fun c => absurd c c1, fun _ => ⟨fun c => absurd c c4, fun _ => ⟨fun c => ?_, fun c => ?_⟩⟩⟩
      · refine ⟨Or.inl trivial, ?_⟩
        unfold isB
        rw [decide_eq_false (Int32.not_le.mpr c)]
        rfl
      · rw [pk_mul, nI_clamp (by omega), mmT_eq _ hb]
        refine ⟨vp_in_nI hb (by omega), fun c2 => ?_, fun c2 => ?_⟩
        · refine ⟨Or.inl trivial, ?_⟩
          unfold isB
          rw [decide_eq_true (Int32.not_lt.mp c), decide_eq_false (Int32.not_lt.mpr c2)]
          rfl
        · refine ⟨Or.inr trivial, ?_⟩
          unfold isB
          rw [decide_eq_true (Int32.not_lt.mp c), decide_eq_true (Int32.not_le.mp c2)]
          rfl
theorem C_figure (ht : tb 0 = (9, mm_T)) (h : AH) {y k i : Nat} (hy : y < 2 ^ 31) (hi : i < k) (hk : k < 10) : WM tb (d + 1) k_B_figure [vI (nI y), vI (nI k), vI (nI i)] h 0 0 (fun z h' => z = some (vI (nI (dg y (k - 1 - i)))) ∧ h' = h) := by
  have hp := p10_lt (show k - 1 - i < 9 by omega)
  have h0 : 0 < 10 ^ (k - 1 - i) := Nat.pow_pos (by omega)
  refine WM.of mi_92 rfl rfl (Nat.le_of_ble_eq_true rfl) ?_
  show WP (mm_rw mr_92) (some .int) tb (WM tb d) _ 0 [(0, vI (nI y)), (1, vI (nI k)), (2, vI (nI i))] [] h 0 0
  (try simp only [Option.toList_some, Option.toList_none, List.nil_append, List.append_nil, List.cons_append, Nat.sub_zero, Nat.sub_self, Nat.zero_sub]); refine Go.wp sp_92 200 ?_; simp only [↓g92_0, ↓g92_1, ↓g92_4, ↓g92_5, ↓g92_6, ↓g92_7, ↓g92_8, ↓g92_9, ↓g92_9t, ↓g92_10, ↓g92_11, ↓g92_13, ↓g92_14, ↓Go_s, ↓GoC_a, ↓reduceIte, ↓mm_call_eq, ↓mmw_nil, ↓mmw_cons, List.take_succ_cons, List.take_zero, List.take_nil, List.drop_succ_cons, List.drop_zero, List.drop_nil, List.reverse_cons, List.reverse_nil, List.nil_append, List.cons_append, List.append_nil, Option.toList_some, Option.toList_none, Nat.sub_zero, Nat.le_refl, mmr_cons, mm_st1, mm_st2, mmi_nil, mmi_cons, mmc_I, mmc_L, mmc_R, mmu_get, mmu_one, mma_get, mma_one, List.filter_cons, List.filter_nil, List.contains_cons, List.contains_nil, Nat.reduceBEq, Nat.reduceAdd, Nat.reduceLT, Nat.reduceSub, Nat.reduceLeDiff, Nat.reduceEqDiff, Int32.reduceAdd, Bool.not_true, Bool.not_false, Bool.and_true, Bool.true_and, Bool.and_false, Bool.false_and, Bool.or_false, Bool.false_or, Bool.or_true, Bool.true_or, if_true, if_false, ite_true, ite_false, Bool.false_eq_true, List.getElem?_cons_zero, List.getElem?_cons_succ, List.length_cons, List.length_nil, true_and, and_true, List.set_cons_zero, List.set_cons_succ, Fin.isValue, Fin.val_zero, Fin.val_one, Fin.val_two, Fin.reduceFinMk, Nat.zero_add, ht]
  simp (disch := omega) only [lit_0, lit_1, lit_2, lit_3, lit_4, lit_5, lit_6, lit_7, lit_8, lit_9, lit_10, lit_16, lit_40, lit_48, lit_60, lit_67, lit_76, lit_82, lit_99, lit_100, lit_255, lit_508, lit_720, lit_1023, nI_1, nI_add, pk_sub, pk_mul, pk_div, nu_rem2, nI_clamp, nu_m, nu_m', nu_lm, nu_ml, nu_ltm, nu_mlt, nu_mm, nu_dec, nu_in, nu_le, nu_lt, nu_eq, true_and, and_true, false_imp_iff, true_imp_iff, not_true_eq_false, not_false_eq_true, Nat.not_lt_zero, Nat.zero_le, Nat.le_refl, Nat.lt_irrefl, Nat.reduceEqDiff, Nat.reduceLT, Nat.reduceLeDiff, Nat.reduceAdd, Nat.reduceSub, Nat.reduceMul, Nat.reduceMod, Nat.reduceDiv, Nat.one_ne_zero, Nat.zero_ne_one, ft_0_0, ft_0_1, ft_0_2, ft_0_3, ft_0_4, ft_1_0, ft_1_1, ft_1_2, ft_2_0, ft_2_1, ft_2_2, ft_2_3, ft_2_4, ft_2_5, ft_2_6, ft_2_7, ft_2_8, ft_2_9, ft_2_10, ft_3_0, ft_3_1, ft_3_2, ft_3_3, ft_4_0, ft_4_1, ft_4_2, ft_4_3, ft_4_4, ft_4_5, ft_4_6, ft_5_0, ft_5_1, ft_6_0, ft_6_1, ft_6_2, ft_6_3, ft_6_4, ft_6_5, ft_6_6, ft_7_0, ft_7_1, ft_7_2, ft_7_3, ft_7_4, ft_7_5, ft_7_6, ft_7_7, ft_7_8, ft_7_9, ft_7_10, ft_7_11, ft_7_12, ft_7_13, ft_8_0, ft_8_1, ft_8_2, ft_8_3, ft_8_4, ft_8_5, ft_8_6, ft_8_7, ft_8_8, ft_8_9, ft_8_10, ft_8_11, ft_8_12, ft_8_13, ft_8_14, ft_8_15, ft_8_16, ft_8_17, ft_8_18, ft_8_19, ft_8_20, ft_8_21, ft_8_22, ft_8_23, ft_8_24, ft_8_25, ft_8_26, ft_8_27, ft_8_28, ft_8_29, ft_8_30, ft_8_31, ft_8_32, ft_8_33, ft_8_34, ft_8_35, ft_8_36, ft_8_37, ft_8_38, ft_8_39, ft_8_40, ft_8_41, nu_fitI, nu_fitL, nu_fitO, nu_fitA, nu_fitB0, nu_fitB1]
  rw [mmT_eq _ (by omega)]
  have h3 : y / 10 ^ (k - 1 - i) < 2 ^ 31 := Nat.lt_of_le_of_lt (Nat.div_le_self _ _) hy
  simp (disch := omega) only [lit_0, lit_1, lit_2, lit_3, lit_4, lit_5, lit_6, lit_7, lit_8, lit_9, lit_10, lit_16, lit_40, lit_48, lit_60, lit_67, lit_76, lit_82, lit_99, lit_100, lit_255, lit_508, lit_720, lit_1023, nI_1, nI_add, pk_sub, pk_mul, pk_div, nu_rem2, nI_clamp, nu_m, nu_m', nu_lm, nu_ml, nu_ltm, nu_mlt, nu_mm, nu_dec, nu_in, nu_le, nu_lt, nu_eq, true_and, and_true, false_imp_iff, true_imp_iff, not_true_eq_false, not_false_eq_true, Nat.not_lt_zero, Nat.zero_le, Nat.le_refl, Nat.lt_irrefl, Nat.reduceEqDiff, Nat.reduceLT, Nat.reduceLeDiff, Nat.reduceAdd, Nat.reduceSub, Nat.reduceMul, Nat.reduceMod, Nat.reduceDiv, Nat.one_ne_zero, Nat.zero_ne_one, ft_0_0, ft_0_1, ft_0_2, ft_0_3, ft_0_4, ft_1_0, ft_1_1, ft_1_2, ft_2_0, ft_2_1, ft_2_2, ft_2_3, ft_2_4, ft_2_5, ft_2_6, ft_2_7, ft_2_8, ft_2_9, ft_2_10, ft_3_0, ft_3_1, ft_3_2, ft_3_3, ft_4_0, ft_4_1, ft_4_2, ft_4_3, ft_4_4, ft_4_5, ft_4_6, ft_5_0, ft_5_1, ft_6_0, ft_6_1, ft_6_2, ft_6_3, ft_6_4, ft_6_5, ft_6_6, ft_7_0, ft_7_1, ft_7_2, ft_7_3, ft_7_4, ft_7_5, ft_7_6, ft_7_7, ft_7_8, ft_7_9, ft_7_10, ft_7_11, ft_7_12, ft_7_13, ft_8_0, ft_8_1, ft_8_2, ft_8_3, ft_8_4, ft_8_5, ft_8_6, ft_8_7, ft_8_8, ft_8_9, ft_8_10, ft_8_11, ft_8_12, ft_8_13, ft_8_14, ft_8_15, ft_8_16, ft_8_17, ft_8_18, ft_8_19, ft_8_20, ft_8_21, ft_8_22, ft_8_23, ft_8_24, ft_8_25, ft_8_26, ft_8_27, ft_8_28, ft_8_29, ft_8_30, ft_8_31, ft_8_32, ft_8_33, ft_8_34, ft_8_35, ft_8_36, ft_8_37, ft_8_38, ft_8_39, ft_8_40, ft_8_41, nu_fitI, nu_fitL, nu_fitO, nu_fitA, nu_fitB0, nu_fitB1]
  exact ⟨by omega, by omega, by unfold dg; rw [show ∀ q : Nat, q - q / 10 * 10 = q % 10 from fun q => by omega]⟩
theorem M_tenTo (h : AH) {m : Nat} (hm : m ≤ 8) : WM tb (d + 1) k_M_tenTo [vI (nI m)] h 0 0 (fun z h' => z = some (vI (nI (10 ^ m))) ∧ h' = h) := by
  have key : ∀ r k, r = m - k → k ≤ m → WP (mm_rw mr_125) (some .int) tb (WM tb d) (fun z h' => z = some (vI (nI (10 ^ m))) ∧ h' = h) 4 [(0, vI (nI m)), (1, vI (nI (10 ^ k))), (2, vI (nI k))] [] h 0 0 := by
    intro r
    induction r with
    | zero =>
      intro k hr hk
      have e : k = m := by omega
      subst e
      (try simp only [Option.toList_some, Option.toList_none, List.nil_append, List.append_nil, List.cons_append, Nat.sub_zero, Nat.sub_self, Nat.zero_sub]); refine Go.wp sp_125 200 ?_; simp only [↓g125_0, ↓g125_1, ↓g125_2, ↓g125_3, ↓g125_4, ↓g125_5, ↓g125_6, ↓g125_9, ↓g125_10, ↓g125_12, ↓g125_13, ↓g125_14, ↓g125_17, ↓g125_20, ↓g125_21, ↓Go_s, ↓GoC_a, ↓reduceIte, ↓mm_call_eq, ↓mmw_nil, ↓mmw_cons, List.take_succ_cons, List.take_zero, List.take_nil, List.drop_succ_cons, List.drop_zero, List.drop_nil, List.reverse_cons, List.reverse_nil, List.nil_append, List.cons_append, List.append_nil, Option.toList_some, Option.toList_none, Nat.sub_zero, Nat.le_refl, mmr_cons, mm_st1, mm_st2, mmi_nil, mmi_cons, mmc_I, mmc_L, mmc_R, mmu_get, mmu_one, mma_get, mma_one, List.filter_cons, List.filter_nil, List.contains_cons, List.contains_nil, Nat.reduceBEq, Nat.reduceAdd, Nat.reduceLT, Nat.reduceSub, Nat.reduceLeDiff, Nat.reduceEqDiff, Int32.reduceAdd, Bool.not_true, Bool.not_false, Bool.and_true, Bool.true_and, Bool.and_false, Bool.false_and, Bool.or_false, Bool.false_or, Bool.or_true, Bool.true_or, if_true, if_false, ite_true, ite_false, Bool.false_eq_true, List.getElem?_cons_zero, List.getElem?_cons_succ, List.length_cons, List.length_nil, true_and, and_true, List.set_cons_zero, List.set_cons_succ, Fin.isValue, Fin.val_zero, Fin.val_one, Fin.val_two, Fin.reduceFinMk, Nat.zero_add]
      exact ⟨fun _ => trivial, fun c => absurd (Int32.le_refl _) c⟩
    | succ r ih =>
      intro k hr hk
      have i1 := ih (k + 1) (by omega) (by omega)
      rw [Nat.pow_succ] at i1
      (try simp only [Option.toList_some, Option.toList_none, List.nil_append, List.append_nil, List.cons_append, Nat.sub_zero, Nat.sub_self, Nat.zero_sub]); refine Go.wp sp_125 200 ?_; simp only [↓g125_0, ↓g125_1, ↓g125_2, ↓g125_3, ↓g125_4, ↓g125_5, ↓g125_6, ↓g125_9, ↓g125_10, ↓g125_12, ↓g125_13, ↓g125_14, ↓g125_17, ↓g125_20, ↓g125_21, ↓Go_s, ↓GoC_a, ↓reduceIte, ↓mm_call_eq, ↓mmw_nil, ↓mmw_cons, List.take_succ_cons, List.take_zero, List.take_nil, List.drop_succ_cons, List.drop_zero, List.drop_nil, List.reverse_cons, List.reverse_nil, List.nil_append, List.cons_append, List.append_nil, Option.toList_some, Option.toList_none, Nat.sub_zero, Nat.le_refl, mmr_cons, mm_st1, mm_st2, mmi_nil, mmi_cons, mmc_I, mmc_L, mmc_R, mmu_get, mmu_one, mma_get, mma_one, List.filter_cons, List.filter_nil, List.contains_cons, List.contains_nil, Nat.reduceBEq, Nat.reduceAdd, Nat.reduceLT, Nat.reduceSub, Nat.reduceLeDiff, Nat.reduceEqDiff, Int32.reduceAdd, Bool.not_true, Bool.not_false, Bool.and_true, Bool.true_and, Bool.and_false, Bool.false_and, Bool.or_false, Bool.false_or, Bool.or_true, Bool.true_or, if_true, if_false, ite_true, ite_false, Bool.false_eq_true, List.getElem?_cons_zero, List.getElem?_cons_succ, List.length_cons, List.length_nil, true_and, and_true, List.set_cons_zero, List.set_cons_succ, Fin.isValue, Fin.val_zero, Fin.val_one, Fin.val_two, Fin.reduceFinMk, Nat.zero_add]
      rw [nI_1, show (10 : Int32) = nI 10 from rfl, pk_mul]
      exact ⟨fun c => absurd c (nI_ge (show k < m by omega) (by omega)), fun _ => i1⟩
  refine WM.of mi_125 rfl rfl (Nat.le_of_ble_eq_true rfl) ?_
  show WP (mm_rw mr_125) (some .int) tb (WM tb d) _ 0 [(0, vI (nI m))] [] h 0 0
  (try simp only [Option.toList_some, Option.toList_none, List.nil_append, List.append_nil, List.cons_append, Nat.sub_zero, Nat.sub_self, Nat.zero_sub]); refine Go.wp sp_125 200 ?_; simp only [↓g125_0, ↓g125_1, ↓g125_2, ↓g125_3, ↓g125_4, ↓g125_5, ↓g125_6, ↓g125_9, ↓g125_10, ↓g125_12, ↓g125_13, ↓g125_14, ↓g125_17, ↓g125_20, ↓g125_21, ↓Go_s, ↓GoC_a, ↓reduceIte, ↓mm_call_eq, ↓mmw_nil, ↓mmw_cons, List.take_succ_cons, List.take_zero, List.take_nil, List.drop_succ_cons, List.drop_zero, List.drop_nil, List.reverse_cons, List.reverse_nil, List.nil_append, List.cons_append, List.append_nil, Option.toList_some, Option.toList_none, Nat.sub_zero, Nat.le_refl, mmr_cons, mm_st1, mm_st2, mmi_nil, mmi_cons, mmc_I, mmc_L, mmc_R, mmu_get, mmu_one, mma_get, mma_one, List.filter_cons, List.filter_nil, List.contains_cons, List.contains_nil, Nat.reduceBEq, Nat.reduceAdd, Nat.reduceLT, Nat.reduceSub, Nat.reduceLeDiff, Nat.reduceEqDiff, Int32.reduceAdd, Bool.not_true, Bool.not_false, Bool.and_true, Bool.true_and, Bool.and_false, Bool.false_and, Bool.or_false, Bool.false_or, Bool.or_true, Bool.true_or, if_true, if_false, ite_true, ite_false, Bool.false_eq_true, List.getElem?_cons_zero, List.getElem?_cons_succ, List.length_cons, List.length_nil, true_and, and_true, List.set_cons_zero, List.set_cons_succ, Fin.isValue, Fin.val_zero, Fin.val_one, Fin.val_two, Fin.reduceFinMk, Nat.zero_add]
  exact key _ 0 rfl (Nat.zero_le _)
theorem C_judge (ht : tb 0 = (9, mm_T)) (hk : SgOk g) (hC : InvC g s) (x y : Int32) : WM tb (d + 4) k_B_judge [vR 0, vI x, vI y] (HP s) 0 0 (PostC g s (vI (aJudge g x y))) := by
  have hC0 := hC
  obtain ⟨h1, h2, h3, h4, h5, h6, h7, h8⟩ := hC
  have hlw := hk.2.2.1
  refine WM.of mi_66 rfl rfl (Nat.le_of_ble_eq_true rfl) ?_
  show WP (mm_rw mr_66) (some .int) tb (WM tb (d + 3)) _ 0 [(0, vR 0), (1, vI x), (2, vI y)] [] (HP s) 0 0
  (try simp only [Option.toList_some, Option.toList_none, List.nil_append, List.append_nil, List.cons_append, Nat.sub_zero, Nat.sub_self, Nat.zero_sub]); refine Go.wp sp_66 200 ?_; simp only [↓g66_0, ↓g66_1, ↓g66_2, ↓g66_3, ↓g66_6, ↓g66_9, ↓g66_11, ↓g66_12, ↓g66_13, ↓g66_16, ↓g66_17, ↓g66_20, ↓g66_23, ↓g66_26, ↓g66_27, ↓g66_28, ↓g66_29, ↓g66_30, ↓g66_33, ↓g66_34, ↓g66_35, ↓g66_36, ↓g66_37, ↓g66_38, ↓g66_39, ↓g66_40, ↓g66_43, ↓g66_45, ↓g66_46, ↓g66_47, ↓g66_48, ↓g66_49, ↓g66_50, ↓g66_51, ↓g66_52, ↓g66_53, ↓g66_54, ↓g66_57, ↓g66_59, ↓g66_60, ↓g66_63, ↓g66_65, ↓g66_66, ↓g66_69, ↓g66_72, ↓g66_74, ↓g66_77, ↓g66_78, ↓g66_79, ↓g66_82, ↓g66_85, ↓g66_87, cl_32, cl_44, cl_91, cl_92, cn_0, cn_1, cn_2, cn_3, cn_4, cn_5, cn_6, cn_7, cn_8, ↓Go_s, ↓GoC_a, ↓reduceIte, ↓mm_call_eq, ↓mmw_nil, ↓mmw_cons, List.take_succ_cons, List.take_zero, List.take_nil, List.drop_succ_cons, List.drop_zero, List.drop_nil, List.reverse_cons, List.reverse_nil, List.nil_append, List.cons_append, List.append_nil, Option.toList_some, Option.toList_none, Nat.sub_zero, Nat.le_refl, mmr_cons, mm_st1, mm_st2, mmi_nil, mmi_cons, mmc_I, mmc_L, mmc_R, mmu_get, mmu_one, mma_get, mma_one, List.filter_cons, List.filter_nil, List.contains_cons, List.contains_nil, Nat.reduceBEq, Nat.reduceAdd, Nat.reduceLT, Nat.reduceSub, Nat.reduceLeDiff, Nat.reduceEqDiff, Int32.reduceAdd, Bool.not_true, Bool.not_false, Bool.and_true, Bool.true_and, Bool.and_false, Bool.false_and, Bool.or_false, Bool.false_or, Bool.or_true, Bool.true_or, if_true, if_false, ite_true, ite_false, Bool.false_eq_true, List.getElem?_cons_zero, List.getElem?_cons_succ, List.length_cons, List.length_nil, true_and, and_true, List.set_cons_zero, List.set_cons_succ, Fin.isValue, Fin.val_zero, Fin.val_one, Fin.val_two, Fin.reduceFinMk, Nat.zero_add, hp_0, hp_1, hp_2, hp_3, hp_4, hp_5, hp_6, hp_7, hp_8, hp_9, hp_10, hp_11, hp_12, hp_13, hp_14, hp_15, hp_16, hp_17, hp_18, hp_19, hp_20, hp_21, hp_22, hp_23, hp_24, hp_25, hp_26, hp_27, hp_28, hp_29, hp_30, hp_31, hp_32, hp_33, hp_34, hp_35, hp_36, hp_37, hp_38, hp_39, hp_40, hp_41, hp_42, hp_43, hp_44, hp_45, hp_46, hp_47, hp_48, hp_49, hp_50, hp_51, hp_52, hp_53, hp_54, hp_55, hp_56, hp_57, hp_58, hp_59, hp_60, hp_61, hp_62, hp_63, hp_64, hp_65, hp_66, hp_67, hp_68, hp_69, hp_70, hp_71, hp_72, hp_73, hp_74, og_0_0, og_0_1, og_0_2, og_0_3, og_0_4, og_0_5, og_0_6, og_0_7, og_0_8, og_0_9, og_0_10, og_0_11, og_0_12, og_0_13, ol_0, og_2_0, og_2_1, og_2_2, og_2_3, og_2_4, og_2_5, og_2_6, ol_2, og_3_0, og_3_1, ol_3, og_5_0, og_5_1, ol_5, og_9_0, og_9_1, og_9_2, og_9_3, og_9_4, og_9_5, og_9_6, ol_9, og_10_0, og_10_1, ol_10, og_12_0, og_12_1, ol_12, og_16_0, og_16_1, og_16_2, ol_16, og_17_0, og_17_1, ol_17, og_21_0, og_21_1, og_21_2, og_21_3, og_21_4, ol_21, og_27_0, og_27_1, og_27_2, og_27_3, og_27_4, og_27_5, og_27_6, og_27_7, og_27_8, og_27_9, og_27_10, ol_27, og_35_0, og_35_1, ol_35, og_37_0, og_37_1, ol_37, og_39_0, og_39_1, ol_39, og_41_0, og_41_1, ol_41, og_43_0, og_43_1, ol_43, og_45_0, og_45_1, ol_45, og_47_0, og_47_1, ol_47, og_49_0, og_49_1, og_49_2, og_49_3, ol_49, og_53_0, og_53_1, ol_53, og_55_0, og_55_1, ol_55, og_57_0, og_57_1, ol_57, og_59_0, og_59_1, ol_59, og_61_0, og_61_1, ol_61, og_63_0, og_63_1, ol_63, og_65_0, og_65_1, og_65_2, ol_65, og_66_0, og_66_1, ol_66, og_70_0, og_70_1, og_70_2, ol_70, og_71_0, og_71_1, ol_71, uo_0_1, uo_0_4, uo_0_8, ua_1, uo_2_0, uo_2_1, uo_2_2, uo_3_1, ua_4, uo_5_1, ua_6, ua_7, ua_8, uo_9_0, uo_9_1, uo_9_2, uo_10_1, ua_11, uo_12_1, ua_13, ua_14, ua_15, uo_17_1, ua_18, ua_19, ua_20, uo_21_4, ua_22, ua_23, ua_24, ua_25, uo_27_2, uo_27_6, uo_27_7, uo_27_8, ua_28, ua_29, ua_31, ua_32, ua_33, ua_34, uo_35_1, ua_36, uo_37_1, ua_38, uo_39_1, ua_40, uo_41_1, ua_42, uo_43_1, ua_44, uo_45_1, ua_46, uo_47_1, ua_48, uo_49_3, ua_51, ua_52, uo_53_1, ua_54, uo_55_1, ua_56, uo_57_1, ua_58, uo_59_1, ua_60, uo_61_1, ua_62, uo_63_1, ua_64, uo_66_1, ua_67, ua_68, ua_69, uo_71_1, ua_72, ua_73, ua_74, sO_g, sA_g, sA_O, sO_A, sO_2, sC_1, sC_2, sC_3, sC_4, sC_5, sC_6, sW_1, sW_2, sW_3, sW_4, uc_0]
  refine ⟨0, 0, _, Nat.le_refl _, Nat.le_refl _, C_isTold (d := d + 2) (e := 2) ht _ x y (by omega), fun z h' hz => ?_⟩
  obtain ⟨rfl, rfl⟩ := hz
  cases hb : told x y 2
  · (try simp only [Option.toList_some, Option.toList_none, List.nil_append, List.append_nil, List.cons_append, Nat.sub_zero, Nat.sub_self, Nat.zero_sub]); refine Go.wp sp_66 200 ?_; simp only [↓g66_0, ↓g66_1, ↓g66_2, ↓g66_3, ↓g66_6, ↓g66_9, ↓g66_11, ↓g66_12, ↓g66_13, ↓g66_16, ↓g66_17, ↓g66_20, ↓g66_23, ↓g66_26, ↓g66_27, ↓g66_28, ↓g66_29, ↓g66_30, ↓g66_33, ↓g66_34, ↓g66_35, ↓g66_36, ↓g66_37, ↓g66_38, ↓g66_39, ↓g66_40, ↓g66_43, ↓g66_45, ↓g66_46, ↓g66_47, ↓g66_48, ↓g66_49, ↓g66_50, ↓g66_51, ↓g66_52, ↓g66_53, ↓g66_54, ↓g66_57, ↓g66_59, ↓g66_60, ↓g66_63, ↓g66_65, ↓g66_66, ↓g66_69, ↓g66_72, ↓g66_74, ↓g66_77, ↓g66_78, ↓g66_79, ↓g66_82, ↓g66_85, ↓g66_87, cl_32, cl_44, cl_91, cl_92, cn_0, cn_1, cn_2, cn_3, cn_4, cn_5, cn_6, cn_7, cn_8, ↓Go_s, ↓GoC_a, ↓reduceIte, ↓mm_call_eq, ↓mmw_nil, ↓mmw_cons, List.take_succ_cons, List.take_zero, List.take_nil, List.drop_succ_cons, List.drop_zero, List.drop_nil, List.reverse_cons, List.reverse_nil, List.nil_append, List.cons_append, List.append_nil, Option.toList_some, Option.toList_none, Nat.sub_zero, Nat.le_refl, mmr_cons, mm_st1, mm_st2, mmi_nil, mmi_cons, mmc_I, mmc_L, mmc_R, mmu_get, mmu_one, mma_get, mma_one, List.filter_cons, List.filter_nil, List.contains_cons, List.contains_nil, Nat.reduceBEq, Nat.reduceAdd, Nat.reduceLT, Nat.reduceSub, Nat.reduceLeDiff, Nat.reduceEqDiff, Int32.reduceAdd, Bool.not_true, Bool.not_false, Bool.and_true, Bool.true_and, Bool.and_false, Bool.false_and, Bool.or_false, Bool.false_or, Bool.or_true, Bool.true_or, if_true, if_false, ite_true, ite_false, Bool.false_eq_true, List.getElem?_cons_zero, List.getElem?_cons_succ, List.length_cons, List.length_nil, true_and, and_true, List.set_cons_zero, List.set_cons_succ, Fin.isValue, Fin.val_zero, Fin.val_one, Fin.val_two, Fin.reduceFinMk, Nat.zero_add, hp_0, hp_1, hp_2, hp_3, hp_4, hp_5, hp_6, hp_7, hp_8, hp_9, hp_10, hp_11, hp_12, hp_13, hp_14, hp_15, hp_16, hp_17, hp_18, hp_19, hp_20, hp_21, hp_22, hp_23, hp_24, hp_25, hp_26, hp_27, hp_28, hp_29, hp_30, hp_31, hp_32, hp_33, hp_34, hp_35, hp_36, hp_37, hp_38, hp_39, hp_40, hp_41, hp_42, hp_43, hp_44, hp_45, hp_46, hp_47, hp_48, hp_49, hp_50, hp_51, hp_52, hp_53, hp_54, hp_55, hp_56, hp_57, hp_58, hp_59, hp_60, hp_61, hp_62, hp_63, hp_64, hp_65, hp_66, hp_67, hp_68, hp_69, hp_70, hp_71, hp_72, hp_73, hp_74, og_0_0, og_0_1, og_0_2, og_0_3, og_0_4, og_0_5, og_0_6, og_0_7, og_0_8, og_0_9, og_0_10, og_0_11, og_0_12, og_0_13, ol_0, og_2_0, og_2_1, og_2_2, og_2_3, og_2_4, og_2_5, og_2_6, ol_2, og_3_0, og_3_1, ol_3, og_5_0, og_5_1, ol_5, og_9_0, og_9_1, og_9_2, og_9_3, og_9_4, og_9_5, og_9_6, ol_9, og_10_0, og_10_1, ol_10, og_12_0, og_12_1, ol_12, og_16_0, og_16_1, og_16_2, ol_16, og_17_0, og_17_1, ol_17, og_21_0, og_21_1, og_21_2, og_21_3, og_21_4, ol_21, og_27_0, og_27_1, og_27_2, og_27_3, og_27_4, og_27_5, og_27_6, og_27_7, og_27_8, og_27_9, og_27_10, ol_27, og_35_0, og_35_1, ol_35, og_37_0, og_37_1, ol_37, og_39_0, og_39_1, ol_39, og_41_0, og_41_1, ol_41, og_43_0, og_43_1, ol_43, og_45_0, og_45_1, ol_45, og_47_0, og_47_1, ol_47, og_49_0, og_49_1, og_49_2, og_49_3, ol_49, og_53_0, og_53_1, ol_53, og_55_0, og_55_1, ol_55, og_57_0, og_57_1, ol_57, og_59_0, og_59_1, ol_59, og_61_0, og_61_1, ol_61, og_63_0, og_63_1, ol_63, og_65_0, og_65_1, og_65_2, ol_65, og_66_0, og_66_1, ol_66, og_70_0, og_70_1, og_70_2, ol_70, og_71_0, og_71_1, ol_71, uo_0_1, uo_0_4, uo_0_8, ua_1, uo_2_0, uo_2_1, uo_2_2, uo_3_1, ua_4, uo_5_1, ua_6, ua_7, ua_8, uo_9_0, uo_9_1, uo_9_2, uo_10_1, ua_11, uo_12_1, ua_13, ua_14, ua_15, uo_17_1, ua_18, ua_19, ua_20, uo_21_4, ua_22, ua_23, ua_24, ua_25, uo_27_2, uo_27_6, uo_27_7, uo_27_8, ua_28, ua_29, ua_31, ua_32, ua_33, ua_34, uo_35_1, ua_36, uo_37_1, ua_38, uo_39_1, ua_40, uo_41_1, ua_42, uo_43_1, ua_44, uo_45_1, ua_46, uo_47_1, ua_48, uo_49_3, ua_51, ua_52, uo_53_1, ua_54, uo_55_1, ua_56, uo_57_1, ua_58, uo_59_1, ua_60, uo_61_1, ua_62, uo_63_1, ua_64, uo_66_1, ua_67, ua_68, ua_69, uo_71_1, ua_72, ua_73, ua_74, sO_g, sA_g, sA_O, sO_A, sO_2, sC_1, sC_2, sC_3, sC_4, sC_5, sC_6, sW_1, sW_2, sW_3, sW_4, uc_0, b01_f]
    exact ⟨fun c => absurd trivial c, fun _ => ⟨by unfold aJudge; rw [if_neg (by rw [hb]; decide)], s, rfl, hC0, agM.rf⟩⟩
  · obtain ⟨n, y', hn1, hn4, rfl, rfl, hy⟩ := told_t (by omega) hb
    have hy8 : 10 ^ (2 * n) < 2 ^ 31 := p10_lt (by omega)
    have hans : aJudge g (nI n) (nI y') = jdP (gLw g) y' n 0 (gDk g).1 := by
      unfold aJudge
      rw [if_pos hb, nI_clamp (by omega), nI_clamp (by omega)]
    rw [hans]
    (try simp only [Option.toList_some, Option.toList_none, List.nil_append, List.append_nil, List.cons_append, Nat.sub_zero, Nat.sub_self, Nat.zero_sub]); refine Go.wp sp_66 200 ?_; simp only [↓g66_0, ↓g66_1, ↓g66_2, ↓g66_3, ↓g66_6, ↓g66_9, ↓g66_11, ↓g66_12, ↓g66_13, ↓g66_16, ↓g66_17, ↓g66_20, ↓g66_23, ↓g66_26, ↓g66_27, ↓g66_28, ↓g66_29, ↓g66_30, ↓g66_33, ↓g66_34, ↓g66_35, ↓g66_36, ↓g66_37, ↓g66_38, ↓g66_39, ↓g66_40, ↓g66_43, ↓g66_45, ↓g66_46, ↓g66_47, ↓g66_48, ↓g66_49, ↓g66_50, ↓g66_51, ↓g66_52, ↓g66_53, ↓g66_54, ↓g66_57, ↓g66_59, ↓g66_60, ↓g66_63, ↓g66_65, ↓g66_66, ↓g66_69, ↓g66_72, ↓g66_74, ↓g66_77, ↓g66_78, ↓g66_79, ↓g66_82, ↓g66_85, ↓g66_87, cl_32, cl_44, cl_91, cl_92, cn_0, cn_1, cn_2, cn_3, cn_4, cn_5, cn_6, cn_7, cn_8, ↓Go_s, ↓GoC_a, ↓reduceIte, ↓mm_call_eq, ↓mmw_nil, ↓mmw_cons, List.take_succ_cons, List.take_zero, List.take_nil, List.drop_succ_cons, List.drop_zero, List.drop_nil, List.reverse_cons, List.reverse_nil, List.nil_append, List.cons_append, List.append_nil, Option.toList_some, Option.toList_none, Nat.sub_zero, Nat.le_refl, mmr_cons, mm_st1, mm_st2, mmi_nil, mmi_cons, mmc_I, mmc_L, mmc_R, mmu_get, mmu_one, mma_get, mma_one, List.filter_cons, List.filter_nil, List.contains_cons, List.contains_nil, Nat.reduceBEq, Nat.reduceAdd, Nat.reduceLT, Nat.reduceSub, Nat.reduceLeDiff, Nat.reduceEqDiff, Int32.reduceAdd, Bool.not_true, Bool.not_false, Bool.and_true, Bool.true_and, Bool.and_false, Bool.false_and, Bool.or_false, Bool.false_or, Bool.or_true, Bool.true_or, if_true, if_false, ite_true, ite_false, Bool.false_eq_true, List.getElem?_cons_zero, List.getElem?_cons_succ, List.length_cons, List.length_nil, true_and, and_true, List.set_cons_zero, List.set_cons_succ, Fin.isValue, Fin.val_zero, Fin.val_one, Fin.val_two, Fin.reduceFinMk, Nat.zero_add, hp_0, hp_1, hp_2, hp_3, hp_4, hp_5, hp_6, hp_7, hp_8, hp_9, hp_10, hp_11, hp_12, hp_13, hp_14, hp_15, hp_16, hp_17, hp_18, hp_19, hp_20, hp_21, hp_22, hp_23, hp_24, hp_25, hp_26, hp_27, hp_28, hp_29, hp_30, hp_31, hp_32, hp_33, hp_34, hp_35, hp_36, hp_37, hp_38, hp_39, hp_40, hp_41, hp_42, hp_43, hp_44, hp_45, hp_46, hp_47, hp_48, hp_49, hp_50, hp_51, hp_52, hp_53, hp_54, hp_55, hp_56, hp_57, hp_58, hp_59, hp_60, hp_61, hp_62, hp_63, hp_64, hp_65, hp_66, hp_67, hp_68, hp_69, hp_70, hp_71, hp_72, hp_73, hp_74, og_0_0, og_0_1, og_0_2, og_0_3, og_0_4, og_0_5, og_0_6, og_0_7, og_0_8, og_0_9, og_0_10, og_0_11, og_0_12, og_0_13, ol_0, og_2_0, og_2_1, og_2_2, og_2_3, og_2_4, og_2_5, og_2_6, ol_2, og_3_0, og_3_1, ol_3, og_5_0, og_5_1, ol_5, og_9_0, og_9_1, og_9_2, og_9_3, og_9_4, og_9_5, og_9_6, ol_9, og_10_0, og_10_1, ol_10, og_12_0, og_12_1, ol_12, og_16_0, og_16_1, og_16_2, ol_16, og_17_0, og_17_1, ol_17, og_21_0, og_21_1, og_21_2, og_21_3, og_21_4, ol_21, og_27_0, og_27_1, og_27_2, og_27_3, og_27_4, og_27_5, og_27_6, og_27_7, og_27_8, og_27_9, og_27_10, ol_27, og_35_0, og_35_1, ol_35, og_37_0, og_37_1, ol_37, og_39_0, og_39_1, ol_39, og_41_0, og_41_1, ol_41, og_43_0, og_43_1, ol_43, og_45_0, og_45_1, ol_45, og_47_0, og_47_1, ol_47, og_49_0, og_49_1, og_49_2, og_49_3, ol_49, og_53_0, og_53_1, ol_53, og_55_0, og_55_1, ol_55, og_57_0, og_57_1, ol_57, og_59_0, og_59_1, ol_59, og_61_0, og_61_1, ol_61, og_63_0, og_63_1, ol_63, og_65_0, og_65_1, og_65_2, ol_65, og_66_0, og_66_1, ol_66, og_70_0, og_70_1, og_70_2, ol_70, og_71_0, og_71_1, ol_71, uo_0_1, uo_0_4, uo_0_8, ua_1, uo_2_0, uo_2_1, uo_2_2, uo_3_1, ua_4, uo_5_1, ua_6, ua_7, ua_8, uo_9_0, uo_9_1, uo_9_2, uo_10_1, ua_11, uo_12_1, ua_13, ua_14, ua_15, uo_17_1, ua_18, ua_19, ua_20, uo_21_4, ua_22, ua_23, ua_24, ua_25, uo_27_2, uo_27_6, uo_27_7, uo_27_8, ua_28, ua_29, ua_31, ua_32, ua_33, ua_34, uo_35_1, ua_36, uo_37_1, ua_38, uo_39_1, ua_40, uo_41_1, ua_42, uo_43_1, ua_44, uo_45_1, ua_46, uo_47_1, ua_48, uo_49_3, ua_51, ua_52, uo_53_1, ua_54, uo_55_1, ua_56, uo_57_1, ua_58, uo_59_1, ua_60, uo_61_1, ua_62, uo_63_1, ua_64, uo_66_1, ua_67, ua_68, ua_69, uo_71_1, ua_72, ua_73, ua_74, sO_g, sA_g, sA_O, sO_A, sO_2, sC_1, sC_2, sC_3, sC_4, sC_5, sC_6, sW_1, sW_2, sW_3, sW_4, uc_0, b01_t]
    refine ⟨fun _ => ⟨0, 0, _, Nat.le_refl _, Nat.le_refl _, C_trial (d := d + 2) h4, fun z h' hz => ?_⟩, fun c => absurd c (by decide)⟩
    obtain ⟨rfl, f0, rfl, hr0⟩ := hz
    have key : ∀ r t f z xs, n = r + t → RS (sT s f z) 63 64 xs → jdP (gLw g) y' n 0 (gDk g).1 = jdP (gLw g) y' r t xs → WP (mm_rw mr_66) (some .int) tb (WM tb (d + 3)) (PostC g s (vI (jdP (gLw g) y' n 0 (gDk g).1))) 28 [(0, vR 0), (1, vI (nI n)), (2, vI (nI y')), (3, vI (nI t))] [] (HP (sT s f z)) 0 0 := by
      intro r
      induction r with
      | zero =>
        intro t f z xs hr hx ha
        have e : t = n := by omega
        subst e
        rw [ha]
        (try simp only [Option.toList_some, Option.toList_none, List.nil_append, List.append_nil, List.cons_append, Nat.sub_zero, Nat.sub_self, Nat.zero_sub]); refine Go.wp sp_66 200 ?_; simp only [↓g66_0, ↓g66_1, ↓g66_2, ↓g66_3, ↓g66_6, ↓g66_9, ↓g66_11, ↓g66_12, ↓g66_13, ↓g66_16, ↓g66_17, ↓g66_20, ↓g66_23, ↓g66_26, ↓g66_27, ↓g66_28, ↓g66_29, ↓g66_30, ↓g66_33, ↓g66_34, ↓g66_35, ↓g66_36, ↓g66_37, ↓g66_38, ↓g66_39, ↓g66_40, ↓g66_43, ↓g66_45, ↓g66_46, ↓g66_47, ↓g66_48, ↓g66_49, ↓g66_50, ↓g66_51, ↓g66_52, ↓g66_53, ↓g66_54, ↓g66_57, ↓g66_59, ↓g66_60, ↓g66_63, ↓g66_65, ↓g66_66, ↓g66_69, ↓g66_72, ↓g66_74, ↓g66_77, ↓g66_78, ↓g66_79, ↓g66_82, ↓g66_85, ↓g66_87, cl_32, cl_44, cl_91, cl_92, cn_0, cn_1, cn_2, cn_3, cn_4, cn_5, cn_6, cn_7, cn_8, ↓Go_s, ↓GoC_a, ↓reduceIte, ↓mm_call_eq, ↓mmw_nil, ↓mmw_cons, List.take_succ_cons, List.take_zero, List.take_nil, List.drop_succ_cons, List.drop_zero, List.drop_nil, List.reverse_cons, List.reverse_nil, List.nil_append, List.cons_append, List.append_nil, Option.toList_some, Option.toList_none, Nat.sub_zero, Nat.le_refl, mmr_cons, mm_st1, mm_st2, mmi_nil, mmi_cons, mmc_I, mmc_L, mmc_R, mmu_get, mmu_one, mma_get, mma_one, List.filter_cons, List.filter_nil, List.contains_cons, List.contains_nil, Nat.reduceBEq, Nat.reduceAdd, Nat.reduceLT, Nat.reduceSub, Nat.reduceLeDiff, Nat.reduceEqDiff, Int32.reduceAdd, Bool.not_true, Bool.not_false, Bool.and_true, Bool.true_and, Bool.and_false, Bool.false_and, Bool.or_false, Bool.false_or, Bool.or_true, Bool.true_or, if_true, if_false, ite_true, ite_false, Bool.false_eq_true, List.getElem?_cons_zero, List.getElem?_cons_succ, List.length_cons, List.length_nil, true_and, and_true, List.set_cons_zero, List.set_cons_succ, Fin.isValue, Fin.val_zero, Fin.val_one, Fin.val_two, Fin.reduceFinMk, Nat.zero_add, hp_0, hp_1, hp_2, hp_3, hp_4, hp_5, hp_6, hp_7, hp_8, hp_9, hp_10, hp_11, hp_12, hp_13, hp_14, hp_15, hp_16, hp_17, hp_18, hp_19, hp_20, hp_21, hp_22, hp_23, hp_24, hp_25, hp_26, hp_27, hp_28, hp_29, hp_30, hp_31, hp_32, hp_33, hp_34, hp_35, hp_36, hp_37, hp_38, hp_39, hp_40, hp_41, hp_42, hp_43, hp_44, hp_45, hp_46, hp_47, hp_48, hp_49, hp_50, hp_51, hp_52, hp_53, hp_54, hp_55, hp_56, hp_57, hp_58, hp_59, hp_60, hp_61, hp_62, hp_63, hp_64, hp_65, hp_66, hp_67, hp_68, hp_69, hp_70, hp_71, hp_72, hp_73, hp_74, og_0_0, og_0_1, og_0_2, og_0_3, og_0_4, og_0_5, og_0_6, og_0_7, og_0_8, og_0_9, og_0_10, og_0_11, og_0_12, og_0_13, ol_0, og_2_0, og_2_1, og_2_2, og_2_3, og_2_4, og_2_5, og_2_6, ol_2, og_3_0, og_3_1, ol_3, og_5_0, og_5_1, ol_5, og_9_0, og_9_1, og_9_2, og_9_3, og_9_4, og_9_5, og_9_6, ol_9, og_10_0, og_10_1, ol_10, og_12_0, og_12_1, ol_12, og_16_0, og_16_1, og_16_2, ol_16, og_17_0, og_17_1, ol_17, og_21_0, og_21_1, og_21_2, og_21_3, og_21_4, ol_21, og_27_0, og_27_1, og_27_2, og_27_3, og_27_4, og_27_5, og_27_6, og_27_7, og_27_8, og_27_9, og_27_10, ol_27, og_35_0, og_35_1, ol_35, og_37_0, og_37_1, ol_37, og_39_0, og_39_1, ol_39, og_41_0, og_41_1, ol_41, og_43_0, og_43_1, ol_43, og_45_0, og_45_1, ol_45, og_47_0, og_47_1, ol_47, og_49_0, og_49_1, og_49_2, og_49_3, ol_49, og_53_0, og_53_1, ol_53, og_55_0, og_55_1, ol_55, og_57_0, og_57_1, ol_57, og_59_0, og_59_1, ol_59, og_61_0, og_61_1, ol_61, og_63_0, og_63_1, ol_63, og_65_0, og_65_1, og_65_2, ol_65, og_66_0, og_66_1, ol_66, og_70_0, og_70_1, og_70_2, ol_70, og_71_0, og_71_1, ol_71, uo_0_1, uo_0_4, uo_0_8, ua_1, uo_2_0, uo_2_1, uo_2_2, uo_3_1, ua_4, uo_5_1, ua_6, ua_7, ua_8, uo_9_0, uo_9_1, uo_9_2, uo_10_1, ua_11, uo_12_1, ua_13, ua_14, ua_15, uo_17_1, ua_18, ua_19, ua_20, uo_21_4, ua_22, ua_23, ua_24, ua_25, uo_27_2, uo_27_6, uo_27_7, uo_27_8, ua_28, ua_29, ua_31, ua_32, ua_33, ua_34, uo_35_1, ua_36, uo_37_1, ua_38, uo_39_1, ua_40, uo_41_1, ua_42, uo_43_1, ua_44, uo_45_1, ua_46, uo_47_1, ua_48, uo_49_3, ua_51, ua_52, uo_53_1, ua_54, uo_55_1, ua_56, uo_57_1, ua_58, uo_59_1, ua_60, uo_61_1, ua_62, uo_63_1, ua_64, uo_66_1, ua_67, ua_68, ua_69, uo_71_1, ua_72, ua_73, ua_74, sO_g, sA_g, sA_O, sO_A, sO_2, sC_1, sC_2, sC_3, sC_4, sC_5, sC_6, sW_1, sW_2, sW_3, sW_4, uc_0]
        exact ⟨fun _ => ⟨rfl, _, rfl, hC0.trial _ _, agM.trial _ _⟩, fun c => absurd (Int32.le_refl _) c⟩
      | succ r ih =>
        intro t f z xs hr hx ha
        have hl : (sT s f z).2.1 0 4 = nI (gLw g) := h3
        have ht1 := dg_lt y' (2 * r + 1)
        have ht2 := dg_lt y' (2 * r)
        (try simp only [Option.toList_some, Option.toList_none, List.nil_append, List.append_nil, List.cons_append, Nat.sub_zero, Nat.sub_self, Nat.zero_sub]); refine Go.wp sp_66 200 ?_; simp only [↓g66_0, ↓g66_1, ↓g66_2, ↓g66_3, ↓g66_6, ↓g66_9, ↓g66_11, ↓g66_12, ↓g66_13, ↓g66_16, ↓g66_17, ↓g66_20, ↓g66_23, ↓g66_26, ↓g66_27, ↓g66_28, ↓g66_29, ↓g66_30, ↓g66_33, ↓g66_34, ↓g66_35, ↓g66_36, ↓g66_37, ↓g66_38, ↓g66_39, ↓g66_40, ↓g66_43, ↓g66_45, ↓g66_46, ↓g66_47, ↓g66_48, ↓g66_49, ↓g66_50, ↓g66_51, ↓g66_52, ↓g66_53, ↓g66_54, ↓g66_57, ↓g66_59, ↓g66_60, ↓g66_63, ↓g66_65, ↓g66_66, ↓g66_69, ↓g66_72, ↓g66_74, ↓g66_77, ↓g66_78, ↓g66_79, ↓g66_82, ↓g66_85, ↓g66_87, cl_32, cl_44, cl_91, cl_92, cn_0, cn_1, cn_2, cn_3, cn_4, cn_5, cn_6, cn_7, cn_8, ↓Go_s, ↓GoC_a, ↓reduceIte, ↓mm_call_eq, ↓mmw_nil, ↓mmw_cons, List.take_succ_cons, List.take_zero, List.take_nil, List.drop_succ_cons, List.drop_zero, List.drop_nil, List.reverse_cons, List.reverse_nil, List.nil_append, List.cons_append, List.append_nil, Option.toList_some, Option.toList_none, Nat.sub_zero, Nat.le_refl, mmr_cons, mm_st1, mm_st2, mmi_nil, mmi_cons, mmc_I, mmc_L, mmc_R, mmu_get, mmu_one, mma_get, mma_one, List.filter_cons, List.filter_nil, List.contains_cons, List.contains_nil, Nat.reduceBEq, Nat.reduceAdd, Nat.reduceLT, Nat.reduceSub, Nat.reduceLeDiff, Nat.reduceEqDiff, Int32.reduceAdd, Bool.not_true, Bool.not_false, Bool.and_true, Bool.true_and, Bool.and_false, Bool.false_and, Bool.or_false, Bool.false_or, Bool.or_true, Bool.true_or, if_true, if_false, ite_true, ite_false, Bool.false_eq_true, List.getElem?_cons_zero, List.getElem?_cons_succ, List.length_cons, List.length_nil, true_and, and_true, List.set_cons_zero, List.set_cons_succ, Fin.isValue, Fin.val_zero, Fin.val_one, Fin.val_two, Fin.reduceFinMk, Nat.zero_add, hp_0, hp_1, hp_2, hp_3, hp_4, hp_5, hp_6, hp_7, hp_8, hp_9, hp_10, hp_11, hp_12, hp_13, hp_14, hp_15, hp_16, hp_17, hp_18, hp_19, hp_20, hp_21, hp_22, hp_23, hp_24, hp_25, hp_26, hp_27, hp_28, hp_29, hp_30, hp_31, hp_32, hp_33, hp_34, hp_35, hp_36, hp_37, hp_38, hp_39, hp_40, hp_41, hp_42, hp_43, hp_44, hp_45, hp_46, hp_47, hp_48, hp_49, hp_50, hp_51, hp_52, hp_53, hp_54, hp_55, hp_56, hp_57, hp_58, hp_59, hp_60, hp_61, hp_62, hp_63, hp_64, hp_65, hp_66, hp_67, hp_68, hp_69, hp_70, hp_71, hp_72, hp_73, hp_74, og_0_0, og_0_1, og_0_2, og_0_3, og_0_4, og_0_5, og_0_6, og_0_7, og_0_8, og_0_9, og_0_10, og_0_11, og_0_12, og_0_13, ol_0, og_2_0, og_2_1, og_2_2, og_2_3, og_2_4, og_2_5, og_2_6, ol_2, og_3_0, og_3_1, ol_3, og_5_0, og_5_1, ol_5, og_9_0, og_9_1, og_9_2, og_9_3, og_9_4, og_9_5, og_9_6, ol_9, og_10_0, og_10_1, ol_10, og_12_0, og_12_1, ol_12, og_16_0, og_16_1, og_16_2, ol_16, og_17_0, og_17_1, ol_17, og_21_0, og_21_1, og_21_2, og_21_3, og_21_4, ol_21, og_27_0, og_27_1, og_27_2, og_27_3, og_27_4, og_27_5, og_27_6, og_27_7, og_27_8, og_27_9, og_27_10, ol_27, og_35_0, og_35_1, ol_35, og_37_0, og_37_1, ol_37, og_39_0, og_39_1, ol_39, og_41_0, og_41_1, ol_41, og_43_0, og_43_1, ol_43, og_45_0, og_45_1, ol_45, og_47_0, og_47_1, ol_47, og_49_0, og_49_1, og_49_2, og_49_3, ol_49, og_53_0, og_53_1, ol_53, og_55_0, og_55_1, ol_55, og_57_0, og_57_1, ol_57, og_59_0, og_59_1, ol_59, og_61_0, og_61_1, ol_61, og_63_0, og_63_1, ol_63, og_65_0, og_65_1, og_65_2, ol_65, og_66_0, og_66_1, ol_66, og_70_0, og_70_1, og_70_2, ol_70, og_71_0, og_71_1, ol_71, uo_0_1, uo_0_4, uo_0_8, ua_1, uo_2_0, uo_2_1, uo_2_2, uo_3_1, ua_4, uo_5_1, ua_6, ua_7, ua_8, uo_9_0, uo_9_1, uo_9_2, uo_10_1, ua_11, uo_12_1, ua_13, ua_14, ua_15, uo_17_1, ua_18, ua_19, ua_20, uo_21_4, ua_22, ua_23, ua_24, ua_25, uo_27_2, uo_27_6, uo_27_7, uo_27_8, ua_28, ua_29, ua_31, ua_32, ua_33, ua_34, uo_35_1, ua_36, uo_37_1, ua_38, uo_39_1, ua_40, uo_41_1, ua_42, uo_43_1, ua_44, uo_45_1, ua_46, uo_47_1, ua_48, uo_49_3, ua_51, ua_52, uo_53_1, ua_54, uo_55_1, ua_56, uo_57_1, ua_58, uo_59_1, ua_60, uo_61_1, ua_62, uo_63_1, ua_64, uo_66_1, ua_67, ua_68, ua_69, uo_71_1, ua_72, ua_73, ua_74, sO_g, sA_g, sA_O, sO_A, sO_2, sC_1, sC_2, sC_3, sC_4, sC_5, sC_6, sW_1, sW_2, sW_3, sW_4, uc_0, hl]
        rw [show (2 : Int32) = nI 2 from rfl, pk_mul, pk_mul]
        refine ⟨fun c => absurd c (nI_ge (show t < n by omega) (by omega)), fun _ => ⟨0, 0, _, Nat.le_refl _, Nat.le_refl _, C_figure (d := d + 2) ht _ (by omega) (show 2 * t < 2 * n by omega) (by omega), fun z1 h' hz => ?_⟩⟩
        obtain ⟨rfl, rfl⟩ := hz
        rw [show 2 * n - 1 - 2 * t = 2 * r + 1 by omega]
        (try simp only [Option.toList_some, Option.toList_none, List.nil_append, List.append_nil, List.cons_append, Nat.sub_zero, Nat.sub_self, Nat.zero_sub]); refine Go.wp sp_66 200 ?_; simp only [↓g66_0, ↓g66_1, ↓g66_2, ↓g66_3, ↓g66_6, ↓g66_9, ↓g66_11, ↓g66_12, ↓g66_13, ↓g66_16, ↓g66_17, ↓g66_20, ↓g66_23, ↓g66_26, ↓g66_27, ↓g66_28, ↓g66_29, ↓g66_30, ↓g66_33, ↓g66_34, ↓g66_35, ↓g66_36, ↓g66_37, ↓g66_38, ↓g66_39, ↓g66_40, ↓g66_43, ↓g66_45, ↓g66_46, ↓g66_47, ↓g66_48, ↓g66_49, ↓g66_50, ↓g66_51, ↓g66_52, ↓g66_53, ↓g66_54, ↓g66_57, ↓g66_59, ↓g66_60, ↓g66_63, ↓g66_65, ↓g66_66, ↓g66_69, ↓g66_72, ↓g66_74, ↓g66_77, ↓g66_78, ↓g66_79, ↓g66_82, ↓g66_85, ↓g66_87, cl_32, cl_44, cl_91, cl_92, cn_0, cn_1, cn_2, cn_3, cn_4, cn_5, cn_6, cn_7, cn_8, ↓Go_s, ↓GoC_a, ↓reduceIte, ↓mm_call_eq, ↓mmw_nil, ↓mmw_cons, List.take_succ_cons, List.take_zero, List.take_nil, List.drop_succ_cons, List.drop_zero, List.drop_nil, List.reverse_cons, List.reverse_nil, List.nil_append, List.cons_append, List.append_nil, Option.toList_some, Option.toList_none, Nat.sub_zero, Nat.le_refl, mmr_cons, mm_st1, mm_st2, mmi_nil, mmi_cons, mmc_I, mmc_L, mmc_R, mmu_get, mmu_one, mma_get, mma_one, List.filter_cons, List.filter_nil, List.contains_cons, List.contains_nil, Nat.reduceBEq, Nat.reduceAdd, Nat.reduceLT, Nat.reduceSub, Nat.reduceLeDiff, Nat.reduceEqDiff, Int32.reduceAdd, Bool.not_true, Bool.not_false, Bool.and_true, Bool.true_and, Bool.and_false, Bool.false_and, Bool.or_false, Bool.false_or, Bool.or_true, Bool.true_or, if_true, if_false, ite_true, ite_false, Bool.false_eq_true, List.getElem?_cons_zero, List.getElem?_cons_succ, List.length_cons, List.length_nil, true_and, and_true, List.set_cons_zero, List.set_cons_succ, Fin.isValue, Fin.val_zero, Fin.val_one, Fin.val_two, Fin.reduceFinMk, Nat.zero_add, hp_0, hp_1, hp_2, hp_3, hp_4, hp_5, hp_6, hp_7, hp_8, hp_9, hp_10, hp_11, hp_12, hp_13, hp_14, hp_15, hp_16, hp_17, hp_18, hp_19, hp_20, hp_21, hp_22, hp_23, hp_24, hp_25, hp_26, hp_27, hp_28, hp_29, hp_30, hp_31, hp_32, hp_33, hp_34, hp_35, hp_36, hp_37, hp_38, hp_39, hp_40, hp_41, hp_42, hp_43, hp_44, hp_45, hp_46, hp_47, hp_48, hp_49, hp_50, hp_51, hp_52, hp_53, hp_54, hp_55, hp_56, hp_57, hp_58, hp_59, hp_60, hp_61, hp_62, hp_63, hp_64, hp_65, hp_66, hp_67, hp_68, hp_69, hp_70, hp_71, hp_72, hp_73, hp_74, og_0_0, og_0_1, og_0_2, og_0_3, og_0_4, og_0_5, og_0_6, og_0_7, og_0_8, og_0_9, og_0_10, og_0_11, og_0_12, og_0_13, ol_0, og_2_0, og_2_1, og_2_2, og_2_3, og_2_4, og_2_5, og_2_6, ol_2, og_3_0, og_3_1, ol_3, og_5_0, og_5_1, ol_5, og_9_0, og_9_1, og_9_2, og_9_3, og_9_4, og_9_5, og_9_6, ol_9, og_10_0, og_10_1, ol_10, og_12_0, og_12_1, ol_12, og_16_0, og_16_1, og_16_2, ol_16, og_17_0, og_17_1, ol_17, og_21_0, og_21_1, og_21_2, og_21_3, og_21_4, ol_21, og_27_0, og_27_1, og_27_2, og_27_3, og_27_4, og_27_5, og_27_6, og_27_7, og_27_8, og_27_9, og_27_10, ol_27, og_35_0, og_35_1, ol_35, og_37_0, og_37_1, ol_37, og_39_0, og_39_1, ol_39, og_41_0, og_41_1, ol_41, og_43_0, og_43_1, ol_43, og_45_0, og_45_1, ol_45, og_47_0, og_47_1, ol_47, og_49_0, og_49_1, og_49_2, og_49_3, ol_49, og_53_0, og_53_1, ol_53, og_55_0, og_55_1, ol_55, og_57_0, og_57_1, ol_57, og_59_0, og_59_1, ol_59, og_61_0, og_61_1, ol_61, og_63_0, og_63_1, ol_63, og_65_0, og_65_1, og_65_2, ol_65, og_66_0, og_66_1, ol_66, og_70_0, og_70_1, og_70_2, ol_70, og_71_0, og_71_1, ol_71, uo_0_1, uo_0_4, uo_0_8, ua_1, uo_2_0, uo_2_1, uo_2_2, uo_3_1, ua_4, uo_5_1, ua_6, ua_7, ua_8, uo_9_0, uo_9_1, uo_9_2, uo_10_1, ua_11, uo_12_1, ua_13, ua_14, ua_15, uo_17_1, ua_18, ua_19, ua_20, uo_21_4, ua_22, ua_23, ua_24, ua_25, uo_27_2, uo_27_6, uo_27_7, uo_27_8, ua_28, ua_29, ua_31, ua_32, ua_33, ua_34, uo_35_1, ua_36, uo_37_1, ua_38, uo_39_1, ua_40, uo_41_1, ua_42, uo_43_1, ua_44, uo_45_1, ua_46, uo_47_1, ua_48, uo_49_3, ua_51, ua_52, uo_53_1, ua_54, uo_55_1, ua_56, uo_57_1, ua_58, uo_59_1, ua_60, uo_61_1, ua_62, uo_63_1, ua_64, uo_66_1, ua_67, ua_68, ua_69, uo_71_1, ua_72, ua_73, ua_74, sO_g, sA_g, sA_O, sO_A, sO_2, sC_1, sC_2, sC_3, sC_4, sC_5, sC_6, sW_1, sW_2, sW_3, sW_4, uc_0, hl]
        rw [show (2 : Int32) = nI 2 from rfl, pk_mul, pk_mul, nI_1]
        refine ⟨0, 0, _, Nat.le_refl _, Nat.le_refl _, C_figure (d := d + 2) ht _ (by omega) (show 2 * t + 1 < 2 * n by omega) (by omega), fun z1 h' hz => ?_⟩
        obtain ⟨rfl, rfl⟩ := hz
        rw [show 2 * n - 1 - (2 * t + 1) = 2 * r by omega]
        (try simp only [Option.toList_some, Option.toList_none, List.nil_append, List.append_nil, List.cons_append, Nat.sub_zero, Nat.sub_self, Nat.zero_sub]); refine Go.wp sp_66 200 ?_; simp only [↓g66_0, ↓g66_1, ↓g66_2, ↓g66_3, ↓g66_6, ↓g66_9, ↓g66_11, ↓g66_12, ↓g66_13, ↓g66_16, ↓g66_17, ↓g66_20, ↓g66_23, ↓g66_26, ↓g66_27, ↓g66_28, ↓g66_29, ↓g66_30, ↓g66_33, ↓g66_34, ↓g66_35, ↓g66_36, ↓g66_37, ↓g66_38, ↓g66_39, ↓g66_40, ↓g66_43, ↓g66_45, ↓g66_46, ↓g66_47, ↓g66_48, ↓g66_49, ↓g66_50, ↓g66_51, ↓g66_52, ↓g66_53, ↓g66_54, ↓g66_57, ↓g66_59, ↓g66_60, ↓g66_63, ↓g66_65, ↓g66_66, ↓g66_69, ↓g66_72, ↓g66_74, ↓g66_77, ↓g66_78, ↓g66_79, ↓g66_82, ↓g66_85, ↓g66_87, cl_32, cl_44, cl_91, cl_92, cn_0, cn_1, cn_2, cn_3, cn_4, cn_5, cn_6, cn_7, cn_8, ↓Go_s, ↓GoC_a, ↓reduceIte, ↓mm_call_eq, ↓mmw_nil, ↓mmw_cons, List.take_succ_cons, List.take_zero, List.take_nil, List.drop_succ_cons, List.drop_zero, List.drop_nil, List.reverse_cons, List.reverse_nil, List.nil_append, List.cons_append, List.append_nil, Option.toList_some, Option.toList_none, Nat.sub_zero, Nat.le_refl, mmr_cons, mm_st1, mm_st2, mmi_nil, mmi_cons, mmc_I, mmc_L, mmc_R, mmu_get, mmu_one, mma_get, mma_one, List.filter_cons, List.filter_nil, List.contains_cons, List.contains_nil, Nat.reduceBEq, Nat.reduceAdd, Nat.reduceLT, Nat.reduceSub, Nat.reduceLeDiff, Nat.reduceEqDiff, Int32.reduceAdd, Bool.not_true, Bool.not_false, Bool.and_true, Bool.true_and, Bool.and_false, Bool.false_and, Bool.or_false, Bool.false_or, Bool.or_true, Bool.true_or, if_true, if_false, ite_true, ite_false, Bool.false_eq_true, List.getElem?_cons_zero, List.getElem?_cons_succ, List.length_cons, List.length_nil, true_and, and_true, List.set_cons_zero, List.set_cons_succ, Fin.isValue, Fin.val_zero, Fin.val_one, Fin.val_two, Fin.reduceFinMk, Nat.zero_add, hp_0, hp_1, hp_2, hp_3, hp_4, hp_5, hp_6, hp_7, hp_8, hp_9, hp_10, hp_11, hp_12, hp_13, hp_14, hp_15, hp_16, hp_17, hp_18, hp_19, hp_20, hp_21, hp_22, hp_23, hp_24, hp_25, hp_26, hp_27, hp_28, hp_29, hp_30, hp_31, hp_32, hp_33, hp_34, hp_35, hp_36, hp_37, hp_38, hp_39, hp_40, hp_41, hp_42, hp_43, hp_44, hp_45, hp_46, hp_47, hp_48, hp_49, hp_50, hp_51, hp_52, hp_53, hp_54, hp_55, hp_56, hp_57, hp_58, hp_59, hp_60, hp_61, hp_62, hp_63, hp_64, hp_65, hp_66, hp_67, hp_68, hp_69, hp_70, hp_71, hp_72, hp_73, hp_74, og_0_0, og_0_1, og_0_2, og_0_3, og_0_4, og_0_5, og_0_6, og_0_7, og_0_8, og_0_9, og_0_10, og_0_11, og_0_12, og_0_13, ol_0, og_2_0, og_2_1, og_2_2, og_2_3, og_2_4, og_2_5, og_2_6, ol_2, og_3_0, og_3_1, ol_3, og_5_0, og_5_1, ol_5, og_9_0, og_9_1, og_9_2, og_9_3, og_9_4, og_9_5, og_9_6, ol_9, og_10_0, og_10_1, ol_10, og_12_0, og_12_1, ol_12, og_16_0, og_16_1, og_16_2, ol_16, og_17_0, og_17_1, ol_17, og_21_0, og_21_1, og_21_2, og_21_3, og_21_4, ol_21, og_27_0, og_27_1, og_27_2, og_27_3, og_27_4, og_27_5, og_27_6, og_27_7, og_27_8, og_27_9, og_27_10, ol_27, og_35_0, og_35_1, ol_35, og_37_0, og_37_1, ol_37, og_39_0, og_39_1, ol_39, og_41_0, og_41_1, ol_41, og_43_0, og_43_1, ol_43, og_45_0, og_45_1, ol_45, og_47_0, og_47_1, ol_47, og_49_0, og_49_1, og_49_2, og_49_3, ol_49, og_53_0, og_53_1, ol_53, og_55_0, og_55_1, ol_55, og_57_0, og_57_1, ol_57, og_59_0, og_59_1, ol_59, og_61_0, og_61_1, ol_61, og_63_0, og_63_1, ol_63, og_65_0, og_65_1, og_65_2, ol_65, og_66_0, og_66_1, ol_66, og_70_0, og_70_1, og_70_2, ol_70, og_71_0, og_71_1, ol_71, uo_0_1, uo_0_4, uo_0_8, ua_1, uo_2_0, uo_2_1, uo_2_2, uo_3_1, ua_4, uo_5_1, ua_6, ua_7, ua_8, uo_9_0, uo_9_1, uo_9_2, uo_10_1, ua_11, uo_12_1, ua_13, ua_14, ua_15, uo_17_1, ua_18, ua_19, ua_20, uo_21_4, ua_22, ua_23, ua_24, ua_25, uo_27_2, uo_27_6, uo_27_7, uo_27_8, ua_28, ua_29, ua_31, ua_32, ua_33, ua_34, uo_35_1, ua_36, uo_37_1, ua_38, uo_39_1, ua_40, uo_41_1, ua_42, uo_43_1, ua_44, uo_45_1, ua_46, uo_47_1, ua_48, uo_49_3, ua_51, ua_52, uo_53_1, ua_54, uo_55_1, ua_56, uo_57_1, ua_58, uo_59_1, ua_60, uo_61_1, ua_62, uo_63_1, ua_64, uo_66_1, ua_67, ua_68, ua_69, uo_71_1, ua_72, ua_73, ua_74, sO_g, sA_g, sA_O, sO_A, sO_2, sC_1, sC_2, sC_3, sC_4, sC_5, sC_6, sW_1, sW_2, sW_3, sW_4, uc_0, hl]
        refine ⟨0, 0, _, Nat.le_refl _, Nat.le_refl _, C_tripT (d := d) hx (by omega) hlw, fun z1 h' hz => ?_⟩
        obtain ⟨rfl, f', z', rfl, hx'⟩ := hz
        by_cases hm : dg y' (2 * r + 1) ∈ xs
        · have hg8 : tG xs (dg y' (2 * r + 1)) < 8 := hx.2.2.1 _ (tG_mem hm)
          rw [if_pos hm] at hx' ⊢
          (try simp only [Option.toList_some, Option.toList_none, List.nil_append, List.append_nil, List.cons_append, Nat.sub_zero, Nat.sub_self, Nat.zero_sub]); refine Go.wp sp_66 200 ?_; simp only [↓g66_0, ↓g66_1, ↓g66_2, ↓g66_3, ↓g66_6, ↓g66_9, ↓g66_11, ↓g66_12, ↓g66_13, ↓g66_16, ↓g66_17, ↓g66_20, ↓g66_23, ↓g66_26, ↓g66_27, ↓g66_28, ↓g66_29, ↓g66_30, ↓g66_33, ↓g66_34, ↓g66_35, ↓g66_36, ↓g66_37, ↓g66_38, ↓g66_39, ↓g66_40, ↓g66_43, ↓g66_45, ↓g66_46, ↓g66_47, ↓g66_48, ↓g66_49, ↓g66_50, ↓g66_51, ↓g66_52, ↓g66_53, ↓g66_54, ↓g66_57, ↓g66_59, ↓g66_60, ↓g66_63, ↓g66_65, ↓g66_66, ↓g66_69, ↓g66_72, ↓g66_74, ↓g66_77, ↓g66_78, ↓g66_79, ↓g66_82, ↓g66_85, ↓g66_87, cl_32, cl_44, cl_91, cl_92, cn_0, cn_1, cn_2, cn_3, cn_4, cn_5, cn_6, cn_7, cn_8, ↓Go_s, ↓GoC_a, ↓reduceIte, ↓mm_call_eq, ↓mmw_nil, ↓mmw_cons, List.take_succ_cons, List.take_zero, List.take_nil, List.drop_succ_cons, List.drop_zero, List.drop_nil, List.reverse_cons, List.reverse_nil, List.nil_append, List.cons_append, List.append_nil, Option.toList_some, Option.toList_none, Nat.sub_zero, Nat.le_refl, mmr_cons, mm_st1, mm_st2, mmi_nil, mmi_cons, mmc_I, mmc_L, mmc_R, mmu_get, mmu_one, mma_get, mma_one, List.filter_cons, List.filter_nil, List.contains_cons, List.contains_nil, Nat.reduceBEq, Nat.reduceAdd, Nat.reduceLT, Nat.reduceSub, Nat.reduceLeDiff, Nat.reduceEqDiff, Int32.reduceAdd, Bool.not_true, Bool.not_false, Bool.and_true, Bool.true_and, Bool.and_false, Bool.false_and, Bool.or_false, Bool.false_or, Bool.or_true, Bool.true_or, if_true, if_false, ite_true, ite_false, Bool.false_eq_true, List.getElem?_cons_zero, List.getElem?_cons_succ, List.length_cons, List.length_nil, true_and, and_true, List.set_cons_zero, List.set_cons_succ, Fin.isValue, Fin.val_zero, Fin.val_one, Fin.val_two, Fin.reduceFinMk, Nat.zero_add, hp_0, hp_1, hp_2, hp_3, hp_4, hp_5, hp_6, hp_7, hp_8, hp_9, hp_10, hp_11, hp_12, hp_13, hp_14, hp_15, hp_16, hp_17, hp_18, hp_19, hp_20, hp_21, hp_22, hp_23, hp_24, hp_25, hp_26, hp_27, hp_28, hp_29, hp_30, hp_31, hp_32, hp_33, hp_34, hp_35, hp_36, hp_37, hp_38, hp_39, hp_40, hp_41, hp_42, hp_43, hp_44, hp_45, hp_46, hp_47, hp_48, hp_49, hp_50, hp_51, hp_52, hp_53, hp_54, hp_55, hp_56, hp_57, hp_58, hp_59, hp_60, hp_61, hp_62, hp_63, hp_64, hp_65, hp_66, hp_67, hp_68, hp_69, hp_70, hp_71, hp_72, hp_73, hp_74, og_0_0, og_0_1, og_0_2, og_0_3, og_0_4, og_0_5, og_0_6, og_0_7, og_0_8, og_0_9, og_0_10, og_0_11, og_0_12, og_0_13, ol_0, og_2_0, og_2_1, og_2_2, og_2_3, og_2_4, og_2_5, og_2_6, ol_2, og_3_0, og_3_1, ol_3, og_5_0, og_5_1, ol_5, og_9_0, og_9_1, og_9_2, og_9_3, og_9_4, og_9_5, og_9_6, ol_9, og_10_0, og_10_1, ol_10, og_12_0, og_12_1, ol_12, og_16_0, og_16_1, og_16_2, ol_16, og_17_0, og_17_1, ol_17, og_21_0, og_21_1, og_21_2, og_21_3, og_21_4, ol_21, og_27_0, og_27_1, og_27_2, og_27_3, og_27_4, og_27_5, og_27_6, og_27_7, og_27_8, og_27_9, og_27_10, ol_27, og_35_0, og_35_1, ol_35, og_37_0, og_37_1, ol_37, og_39_0, og_39_1, ol_39, og_41_0, og_41_1, ol_41, og_43_0, og_43_1, ol_43, og_45_0, og_45_1, ol_45, og_47_0, og_47_1, ol_47, og_49_0, og_49_1, og_49_2, og_49_3, ol_49, og_53_0, og_53_1, ol_53, og_55_0, og_55_1, ol_55, og_57_0, og_57_1, ol_57, og_59_0, og_59_1, ol_59, og_61_0, og_61_1, ol_61, og_63_0, og_63_1, ol_63, og_65_0, og_65_1, og_65_2, ol_65, og_66_0, og_66_1, ol_66, og_70_0, og_70_1, og_70_2, ol_70, og_71_0, og_71_1, ol_71, uo_0_1, uo_0_4, uo_0_8, ua_1, uo_2_0, uo_2_1, uo_2_2, uo_3_1, ua_4, uo_5_1, ua_6, ua_7, ua_8, uo_9_0, uo_9_1, uo_9_2, uo_10_1, ua_11, uo_12_1, ua_13, ua_14, ua_15, uo_17_1, ua_18, ua_19, ua_20, uo_21_4, ua_22, ua_23, ua_24, ua_25, uo_27_2, uo_27_6, uo_27_7, uo_27_8, ua_28, ua_29, ua_31, ua_32, ua_33, ua_34, uo_35_1, ua_36, uo_37_1, ua_38, uo_39_1, ua_40, uo_41_1, ua_42, uo_43_1, ua_44, uo_45_1, ua_46, uo_47_1, ua_48, uo_49_3, ua_51, ua_52, uo_53_1, ua_54, uo_55_1, ua_56, uo_57_1, ua_58, uo_59_1, ua_60, uo_61_1, ua_62, uo_63_1, ua_64, uo_66_1, ua_67, ua_68, ua_69, uo_71_1, ua_72, ua_73, ua_74, sO_g, sA_g, sA_O, sO_A, sO_2, sC_1, sC_2, sC_3, sC_4, sC_5, sC_6, sW_1, sW_2, sW_3, sW_4, uc_0]
          rw [nI_1, nI_eq (by omega) (by omega)]
          refine ⟨fun c => WP.drop (lv' := [(0, vR 0), (1, vI (nI n)), (2, vI (nI y')), (3, vI (nI (t + 1)))]) (by simp) (ih (t + 1) f' z' _ (by omega) hx' ?_), fun c => ⟨?_, _, rfl, hC0.trial _ _, agM.trial _ _⟩⟩
          · rw [ha]
            show (if _ then _ else _) = _
            rw [if_pos ⟨hm, c⟩]
          · rw [ha]
            show _ = some (vI (if _ then _ else _))
            rw [if_neg (fun q => c q.2)]
        · rw [if_neg hm] at hx' ⊢
          (try simp only [Option.toList_some, Option.toList_none, List.nil_append, List.append_nil, List.cons_append, Nat.sub_zero, Nat.sub_self, Nat.zero_sub]); refine Go.wp sp_66 200 ?_; simp only [↓g66_0, ↓g66_1, ↓g66_2, ↓g66_3, ↓g66_6, ↓g66_9, ↓g66_11, ↓g66_12, ↓g66_13, ↓g66_16, ↓g66_17, ↓g66_20, ↓g66_23, ↓g66_26, ↓g66_27, ↓g66_28, ↓g66_29, ↓g66_30, ↓g66_33, ↓g66_34, ↓g66_35, ↓g66_36, ↓g66_37, ↓g66_38, ↓g66_39, ↓g66_40, ↓g66_43, ↓g66_45, ↓g66_46, ↓g66_47, ↓g66_48, ↓g66_49, ↓g66_50, ↓g66_51, ↓g66_52, ↓g66_53, ↓g66_54, ↓g66_57, ↓g66_59, ↓g66_60, ↓g66_63, ↓g66_65, ↓g66_66, ↓g66_69, ↓g66_72, ↓g66_74, ↓g66_77, ↓g66_78, ↓g66_79, ↓g66_82, ↓g66_85, ↓g66_87, cl_32, cl_44, cl_91, cl_92, cn_0, cn_1, cn_2, cn_3, cn_4, cn_5, cn_6, cn_7, cn_8, ↓Go_s, ↓GoC_a, ↓reduceIte, ↓mm_call_eq, ↓mmw_nil, ↓mmw_cons, List.take_succ_cons, List.take_zero, List.take_nil, List.drop_succ_cons, List.drop_zero, List.drop_nil, List.reverse_cons, List.reverse_nil, List.nil_append, List.cons_append, List.append_nil, Option.toList_some, Option.toList_none, Nat.sub_zero, Nat.le_refl, mmr_cons, mm_st1, mm_st2, mmi_nil, mmi_cons, mmc_I, mmc_L, mmc_R, mmu_get, mmu_one, mma_get, mma_one, List.filter_cons, List.filter_nil, List.contains_cons, List.contains_nil, Nat.reduceBEq, Nat.reduceAdd, Nat.reduceLT, Nat.reduceSub, Nat.reduceLeDiff, Nat.reduceEqDiff, Int32.reduceAdd, Bool.not_true, Bool.not_false, Bool.and_true, Bool.true_and, Bool.and_false, Bool.false_and, Bool.or_false, Bool.false_or, Bool.or_true, Bool.true_or, if_true, if_false, ite_true, ite_false, Bool.false_eq_true, List.getElem?_cons_zero, List.getElem?_cons_succ, List.length_cons, List.length_nil, true_and, and_true, List.set_cons_zero, List.set_cons_succ, Fin.isValue, Fin.val_zero, Fin.val_one, Fin.val_two, Fin.reduceFinMk, Nat.zero_add, hp_0, hp_1, hp_2, hp_3, hp_4, hp_5, hp_6, hp_7, hp_8, hp_9, hp_10, hp_11, hp_12, hp_13, hp_14, hp_15, hp_16, hp_17, hp_18, hp_19, hp_20, hp_21, hp_22, hp_23, hp_24, hp_25, hp_26, hp_27, hp_28, hp_29, hp_30, hp_31, hp_32, hp_33, hp_34, hp_35, hp_36, hp_37, hp_38, hp_39, hp_40, hp_41, hp_42, hp_43, hp_44, hp_45, hp_46, hp_47, hp_48, hp_49, hp_50, hp_51, hp_52, hp_53, hp_54, hp_55, hp_56, hp_57, hp_58, hp_59, hp_60, hp_61, hp_62, hp_63, hp_64, hp_65, hp_66, hp_67, hp_68, hp_69, hp_70, hp_71, hp_72, hp_73, hp_74, og_0_0, og_0_1, og_0_2, og_0_3, og_0_4, og_0_5, og_0_6, og_0_7, og_0_8, og_0_9, og_0_10, og_0_11, og_0_12, og_0_13, ol_0, og_2_0, og_2_1, og_2_2, og_2_3, og_2_4, og_2_5, og_2_6, ol_2, og_3_0, og_3_1, ol_3, og_5_0, og_5_1, ol_5, og_9_0, og_9_1, og_9_2, og_9_3, og_9_4, og_9_5, og_9_6, ol_9, og_10_0, og_10_1, ol_10, og_12_0, og_12_1, ol_12, og_16_0, og_16_1, og_16_2, ol_16, og_17_0, og_17_1, ol_17, og_21_0, og_21_1, og_21_2, og_21_3, og_21_4, ol_21, og_27_0, og_27_1, og_27_2, og_27_3, og_27_4, og_27_5, og_27_6, og_27_7, og_27_8, og_27_9, og_27_10, ol_27, og_35_0, og_35_1, ol_35, og_37_0, og_37_1, ol_37, og_39_0, og_39_1, ol_39, og_41_0, og_41_1, ol_41, og_43_0, og_43_1, ol_43, og_45_0, og_45_1, ol_45, og_47_0, og_47_1, ol_47, og_49_0, og_49_1, og_49_2, og_49_3, ol_49, og_53_0, og_53_1, ol_53, og_55_0, og_55_1, ol_55, og_57_0, og_57_1, ol_57, og_59_0, og_59_1, ol_59, og_61_0, og_61_1, ol_61, og_63_0, og_63_1, ol_63, og_65_0, og_65_1, og_65_2, ol_65, og_66_0, og_66_1, ol_66, og_70_0, og_70_1, og_70_2, ol_70, og_71_0, og_71_1, ol_71, uo_0_1, uo_0_4, uo_0_8, ua_1, uo_2_0, uo_2_1, uo_2_2, uo_3_1, ua_4, uo_5_1, ua_6, ua_7, ua_8, uo_9_0, uo_9_1, uo_9_2, uo_10_1, ua_11, uo_12_1, ua_13, ua_14, ua_15, uo_17_1, ua_18, ua_19, ua_20, uo_21_4, ua_22, ua_23, ua_24, ua_25, uo_27_2, uo_27_6, uo_27_7, uo_27_8, ua_28, ua_29, ua_31, ua_32, ua_33, ua_34, uo_35_1, ua_36, uo_37_1, ua_38, uo_39_1, ua_40, uo_41_1, ua_42, uo_43_1, ua_44, uo_45_1, ua_46, uo_47_1, ua_48, uo_49_3, ua_51, ua_52, uo_53_1, ua_54, uo_55_1, ua_56, uo_57_1, ua_58, uo_59_1, ua_60, uo_61_1, ua_62, uo_63_1, ua_64, uo_66_1, ua_67, ua_68, ua_69, uo_71_1, ua_72, ua_73, ua_74, sO_g, sA_g, sA_O, sO_A, sO_2, sC_1, sC_2, sC_3, sC_4, sC_5, sC_6, sW_1, sW_2, sW_3, sW_4, uc_0]
          rw [nI_1]
          refine ⟨fun c => absurd c (by rw [nu_m' (by omega) (by omega) (by omega)]; exact id), fun c => ⟨?_, _, rfl, hC0.trial _ _, agM.trial _ _⟩⟩
          rw [ha]
          show _ = some (vI (if _ then _ else _))
          rw [if_neg (fun q => hm q.1)]
    (try simp only [Option.toList_some, Option.toList_none, List.nil_append, List.append_nil, List.cons_append, Nat.sub_zero, Nat.sub_self, Nat.zero_sub]); refine Go.wp sp_66 200 ?_; simp only [↓g66_0, ↓g66_1, ↓g66_2, ↓g66_3, ↓g66_6, ↓g66_9, ↓g66_11, ↓g66_12, ↓g66_13, ↓g66_16, ↓g66_17, ↓g66_20, ↓g66_23, ↓g66_26, ↓g66_27, ↓g66_28, ↓g66_29, ↓g66_30, ↓g66_33, ↓g66_34, ↓g66_35, ↓g66_36, ↓g66_37, ↓g66_38, ↓g66_39, ↓g66_40, ↓g66_43, ↓g66_45, ↓g66_46, ↓g66_47, ↓g66_48, ↓g66_49, ↓g66_50, ↓g66_51, ↓g66_52, ↓g66_53, ↓g66_54, ↓g66_57, ↓g66_59, ↓g66_60, ↓g66_63, ↓g66_65, ↓g66_66, ↓g66_69, ↓g66_72, ↓g66_74, ↓g66_77, ↓g66_78, ↓g66_79, ↓g66_82, ↓g66_85, ↓g66_87, cl_32, cl_44, cl_91, cl_92, cn_0, cn_1, cn_2, cn_3, cn_4, cn_5, cn_6, cn_7, cn_8, ↓Go_s, ↓GoC_a, ↓reduceIte, ↓mm_call_eq, ↓mmw_nil, ↓mmw_cons, List.take_succ_cons, List.take_zero, List.take_nil, List.drop_succ_cons, List.drop_zero, List.drop_nil, List.reverse_cons, List.reverse_nil, List.nil_append, List.cons_append, List.append_nil, Option.toList_some, Option.toList_none, Nat.sub_zero, Nat.le_refl, mmr_cons, mm_st1, mm_st2, mmi_nil, mmi_cons, mmc_I, mmc_L, mmc_R, mmu_get, mmu_one, mma_get, mma_one, List.filter_cons, List.filter_nil, List.contains_cons, List.contains_nil, Nat.reduceBEq, Nat.reduceAdd, Nat.reduceLT, Nat.reduceSub, Nat.reduceLeDiff, Nat.reduceEqDiff, Int32.reduceAdd, Bool.not_true, Bool.not_false, Bool.and_true, Bool.true_and, Bool.and_false, Bool.false_and, Bool.or_false, Bool.false_or, Bool.or_true, Bool.true_or, if_true, if_false, ite_true, ite_false, Bool.false_eq_true, List.getElem?_cons_zero, List.getElem?_cons_succ, List.length_cons, List.length_nil, true_and, and_true, List.set_cons_zero, List.set_cons_succ, Fin.isValue, Fin.val_zero, Fin.val_one, Fin.val_two, Fin.reduceFinMk, Nat.zero_add, hp_0, hp_1, hp_2, hp_3, hp_4, hp_5, hp_6, hp_7, hp_8, hp_9, hp_10, hp_11, hp_12, hp_13, hp_14, hp_15, hp_16, hp_17, hp_18, hp_19, hp_20, hp_21, hp_22, hp_23, hp_24, hp_25, hp_26, hp_27, hp_28, hp_29, hp_30, hp_31, hp_32, hp_33, hp_34, hp_35, hp_36, hp_37, hp_38, hp_39, hp_40, hp_41, hp_42, hp_43, hp_44, hp_45, hp_46, hp_47, hp_48, hp_49, hp_50, hp_51, hp_52, hp_53, hp_54, hp_55, hp_56, hp_57, hp_58, hp_59, hp_60, hp_61, hp_62, hp_63, hp_64, hp_65, hp_66, hp_67, hp_68, hp_69, hp_70, hp_71, hp_72, hp_73, hp_74, og_0_0, og_0_1, og_0_2, og_0_3, og_0_4, og_0_5, og_0_6, og_0_7, og_0_8, og_0_9, og_0_10, og_0_11, og_0_12, og_0_13, ol_0, og_2_0, og_2_1, og_2_2, og_2_3, og_2_4, og_2_5, og_2_6, ol_2, og_3_0, og_3_1, ol_3, og_5_0, og_5_1, ol_5, og_9_0, og_9_1, og_9_2, og_9_3, og_9_4, og_9_5, og_9_6, ol_9, og_10_0, og_10_1, ol_10, og_12_0, og_12_1, ol_12, og_16_0, og_16_1, og_16_2, ol_16, og_17_0, og_17_1, ol_17, og_21_0, og_21_1, og_21_2, og_21_3, og_21_4, ol_21, og_27_0, og_27_1, og_27_2, og_27_3, og_27_4, og_27_5, og_27_6, og_27_7, og_27_8, og_27_9, og_27_10, ol_27, og_35_0, og_35_1, ol_35, og_37_0, og_37_1, ol_37, og_39_0, og_39_1, ol_39, og_41_0, og_41_1, ol_41, og_43_0, og_43_1, ol_43, og_45_0, og_45_1, ol_45, og_47_0, og_47_1, ol_47, og_49_0, og_49_1, og_49_2, og_49_3, ol_49, og_53_0, og_53_1, ol_53, og_55_0, og_55_1, ol_55, og_57_0, og_57_1, ol_57, og_59_0, og_59_1, ol_59, og_61_0, og_61_1, ol_61, og_63_0, og_63_1, ol_63, og_65_0, og_65_1, og_65_2, ol_65, og_66_0, og_66_1, ol_66, og_70_0, og_70_1, og_70_2, ol_70, og_71_0, og_71_1, ol_71, uo_0_1, uo_0_4, uo_0_8, ua_1, uo_2_0, uo_2_1, uo_2_2, uo_3_1, ua_4, uo_5_1, ua_6, ua_7, ua_8, uo_9_0, uo_9_1, uo_9_2, uo_10_1, ua_11, uo_12_1, ua_13, ua_14, ua_15, uo_17_1, ua_18, ua_19, ua_20, uo_21_4, ua_22, ua_23, ua_24, ua_25, uo_27_2, uo_27_6, uo_27_7, uo_27_8, ua_28, ua_29, ua_31, ua_32, ua_33, ua_34, uo_35_1, ua_36, uo_37_1, ua_38, uo_39_1, ua_40, uo_41_1, ua_42, uo_43_1, ua_44, uo_45_1, ua_46, uo_47_1, ua_48, uo_49_3, ua_51, ua_52, uo_53_1, ua_54, uo_55_1, ua_56, uo_57_1, ua_58, uo_59_1, ua_60, uo_61_1, ua_62, uo_63_1, ua_64, uo_66_1, ua_67, ua_68, ua_69, uo_71_1, ua_72, ua_73, ua_74, sO_g, sA_g, sA_O, sO_A, sO_2, sC_1, sC_2, sC_3, sC_4, sC_5, sC_6, sW_1, sW_2, sW_3, sW_4, uc_0]
    exact key n 0 f0 _ _ rfl hr0 rfl
theorem M_judge (hk : SgOk g) (hM : InvM g s) (x y : Int32) : WM tb (d + 4) k_M_judge [vR 75, vI x, vI y] (HP s) 0 0 (PostM g s (vI (aJudge g x y))) := by
  have hM0 := hM
  obtain ⟨h1, h2, h3, h4, h5, h6, h7, h8⟩ := hM
  have hlw := hk.2.2.1
  have hs8 := sgS8 hk
  have hl8 := sgL8 hk
  have hnd := (sgD hk).1
  refine WM.of mi_126 rfl rfl (Nat.le_of_ble_eq_true rfl) ?_
  show WP (mm_rw mr_126) (some .int) tb (WM tb (d + 3)) _ 0 [(0, vR 75), (1, vI x), (2, vI y)] [] (HP s) 0 0
  (try simp only [Option.toList_some, Option.toList_none, List.nil_append, List.append_nil, List.cons_append, Nat.sub_zero, Nat.sub_self, Nat.zero_sub]); refine Go.wp sp_126 200 ?_; simp only [↓g126_0, ↓g126_1, ↓g126_2, ↓g126_3, ↓g126_6, ↓g126_9, ↓g126_12, ↓g126_13, ↓g126_14, ↓g126_15, ↓g126_16, ↓g126_17, ↓g126_18, ↓g126_21, ↓g126_22, ↓g126_23, ↓g126_24, ↓g126_27, ↓g126_30, ↓g126_32, ↓g126_33, ↓g126_34, ↓g126_37, ↓g126_38, ↓g126_39, ↓g126_40, ↓g126_41, ↓g126_44, ↓g126_45, ↓g126_46, ↓g126_47, ↓g126_48, ↓g126_49, ↓g126_50, ↓g126_51, ↓g126_52, ↓g126_55, ↓g126_56, ↓g126_58, ↓g126_59, ↓g126_61, ↓g126_62, ↓g126_63, ↓g126_64, ↓g126_65, ↓g126_66, ↓g126_67, ↓g126_68, ↓g126_69, ↓g126_72, ↓g126_73, ↓g126_75, ↓g126_76, ↓g126_78, ↓g126_79, ↓g126_82, ↓g126_83, ↓g126_86, ↓g126_88, ↓g126_91, ↓g126_93, ↓g126_96, ↓g126_97, ↓g126_99, ↓g126_100, ↓g126_103, ↓g126_105, ↓g126_108, ↓g126_109, ↓g126_110, ↓g126_113, ↓g126_116, ↓g126_118, cl_99, cl_109, cl_123, cl_124, cl_125, cn_0, cn_1, cn_2, cn_3, cn_4, cn_5, cn_6, cn_7, cn_8, ↓Go_s, ↓GoC_a, ↓reduceIte, ↓mm_call_eq, ↓mmw_nil, ↓mmw_cons, List.take_succ_cons, List.take_zero, List.take_nil, List.drop_succ_cons, List.drop_zero, List.drop_nil, List.reverse_cons, List.reverse_nil, List.nil_append, List.cons_append, List.append_nil, Option.toList_some, Option.toList_none, Nat.sub_zero, Nat.le_refl, mmr_cons, mm_st1, mm_st2, mmi_nil, mmi_cons, mmc_I, mmc_L, mmc_R, mmu_get, mmu_one, mma_get, mma_one, List.filter_cons, List.filter_nil, List.contains_cons, List.contains_nil, Nat.reduceBEq, Nat.reduceAdd, Nat.reduceLT, Nat.reduceSub, Nat.reduceLeDiff, Nat.reduceEqDiff, Int32.reduceAdd, Bool.not_true, Bool.not_false, Bool.and_true, Bool.true_and, Bool.and_false, Bool.false_and, Bool.or_false, Bool.false_or, Bool.or_true, Bool.true_or, if_true, if_false, ite_true, ite_false, Bool.false_eq_true, List.getElem?_cons_zero, List.getElem?_cons_succ, List.length_cons, List.length_nil, true_and, and_true, List.set_cons_zero, List.set_cons_succ, Fin.isValue, Fin.val_zero, Fin.val_one, Fin.val_two, Fin.reduceFinMk, Nat.zero_add, hp_75, hp_76, hp_77, hp_78, hp_79, hp_80, hp_81, hp_82, hp_83, hp_84, hp_85, hp_86, hp_87, hp_88, hp_89, hp_90, hp_91, hp_92, hp_93, hp_94, hp_95, hp_96, hp_97, hp_98, og_75_0, og_75_1, og_75_2, og_75_3, og_75_4, og_75_5, og_75_6, og_75_7, og_75_8, og_75_9, og_75_10, og_75_11, og_75_12, og_75_13, og_75_14, og_75_15, og_75_16, og_75_17, og_75_18, og_75_19, og_75_20, og_75_21, og_75_22, og_75_23, og_75_24, og_75_25, og_75_26, og_75_27, og_75_28, og_75_29, og_75_30, og_75_31, og_75_32, og_75_33, og_75_34, og_75_35, og_75_36, og_75_37, og_75_38, og_75_39, og_75_40, og_75_41, ol_75, uo_75_4, uo_75_5, uo_75_6, uo_75_7, uo_75_11, uo_75_12, uo_75_13, uo_75_15, uo_75_19, uo_75_20, uo_75_21, uo_75_22, uo_75_23, uo_75_26, uo_75_30, uo_75_31, uo_75_32, uo_75_33, ua_76, ua_77, ua_78, ua_79, ua_80, ua_81, ua_82, ua_83, ua_84, ua_85, ua_86, ua_87, ua_88, ua_89, ua_90, ua_91, ua_92, ua_93, ua_94, ua_95, ua_96, ua_97, ua_98, sO_g, sA_g, sA_O, sO_A, sO_2, sM_1, sM_2, sM_3, sM_4, sM_5, sM_6, uc_75]
  refine ⟨0, 0, _, Nat.le_refl _, Nat.le_refl _, M_in (d := d + 2) _ _ _ _, fun z h' hz => ?_⟩
  obtain ⟨rfl, rfl⟩ := hz
  by_cases c1 : x < 1
  · have e1 : ¬ (1 : Int64) ≤ x.toInt64 := fun q => Int32.not_le.mpr c1 ((i64_le 1 x).mp q)
    rw [decide_eq_false e1, Bool.false_and]
    (try simp only [Option.toList_some, Option.toList_none, List.nil_append, List.append_nil, List.cons_append, Nat.sub_zero, Nat.sub_self, Nat.zero_sub]); refine Go.wp sp_126 200 ?_; simp only [↓g126_0, ↓g126_1, ↓g126_2, ↓g126_3, ↓g126_6, ↓g126_9, ↓g126_12, ↓g126_13, ↓g126_14, ↓g126_15, ↓g126_16, ↓g126_17, ↓g126_18, ↓g126_21, ↓g126_22, ↓g126_23, ↓g126_24, ↓g126_27, ↓g126_30, ↓g126_32, ↓g126_33, ↓g126_34, ↓g126_37, ↓g126_38, ↓g126_39, ↓g126_40, ↓g126_41, ↓g126_44, ↓g126_45, ↓g126_46, ↓g126_47, ↓g126_48, ↓g126_49, ↓g126_50, ↓g126_51, ↓g126_52, ↓g126_55, ↓g126_56, ↓g126_58, ↓g126_59, ↓g126_61, ↓g126_62, ↓g126_63, ↓g126_64, ↓g126_65, ↓g126_66, ↓g126_67, ↓g126_68, ↓g126_69, ↓g126_72, ↓g126_73, ↓g126_75, ↓g126_76, ↓g126_78, ↓g126_79, ↓g126_82, ↓g126_83, ↓g126_86, ↓g126_88, ↓g126_91, ↓g126_93, ↓g126_96, ↓g126_97, ↓g126_99, ↓g126_100, ↓g126_103, ↓g126_105, ↓g126_108, ↓g126_109, ↓g126_110, ↓g126_113, ↓g126_116, ↓g126_118, cl_99, cl_109, cl_123, cl_124, cl_125, cn_0, cn_1, cn_2, cn_3, cn_4, cn_5, cn_6, cn_7, cn_8, ↓Go_s, ↓GoC_a, ↓reduceIte, ↓mm_call_eq, ↓mmw_nil, ↓mmw_cons, List.take_succ_cons, List.take_zero, List.take_nil, List.drop_succ_cons, List.drop_zero, List.drop_nil, List.reverse_cons, List.reverse_nil, List.nil_append, List.cons_append, List.append_nil, Option.toList_some, Option.toList_none, Nat.sub_zero, Nat.le_refl, mmr_cons, mm_st1, mm_st2, mmi_nil, mmi_cons, mmc_I, mmc_L, mmc_R, mmu_get, mmu_one, mma_get, mma_one, List.filter_cons, List.filter_nil, List.contains_cons, List.contains_nil, Nat.reduceBEq, Nat.reduceAdd, Nat.reduceLT, Nat.reduceSub, Nat.reduceLeDiff, Nat.reduceEqDiff, Int32.reduceAdd, Bool.not_true, Bool.not_false, Bool.and_true, Bool.true_and, Bool.and_false, Bool.false_and, Bool.or_false, Bool.false_or, Bool.or_true, Bool.true_or, if_true, if_false, ite_true, ite_false, Bool.false_eq_true, List.getElem?_cons_zero, List.getElem?_cons_succ, List.length_cons, List.length_nil, true_and, and_true, List.set_cons_zero, List.set_cons_succ, Fin.isValue, Fin.val_zero, Fin.val_one, Fin.val_two, Fin.reduceFinMk, Nat.zero_add, hp_75, hp_76, hp_77, hp_78, hp_79, hp_80, hp_81, hp_82, hp_83, hp_84, hp_85, hp_86, hp_87, hp_88, hp_89, hp_90, hp_91, hp_92, hp_93, hp_94, hp_95, hp_96, hp_97, hp_98, og_75_0, og_75_1, og_75_2, og_75_3, og_75_4, og_75_5, og_75_6, og_75_7, og_75_8, og_75_9, og_75_10, og_75_11, og_75_12, og_75_13, og_75_14, og_75_15, og_75_16, og_75_17, og_75_18, og_75_19, og_75_20, og_75_21, og_75_22, og_75_23, og_75_24, og_75_25, og_75_26, og_75_27, og_75_28, og_75_29, og_75_30, og_75_31, og_75_32, og_75_33, og_75_34, og_75_35, og_75_36, og_75_37, og_75_38, og_75_39, og_75_40, og_75_41, ol_75, uo_75_4, uo_75_5, uo_75_6, uo_75_7, uo_75_11, uo_75_12, uo_75_13, uo_75_15, uo_75_19, uo_75_20, uo_75_21, uo_75_22, uo_75_23, uo_75_26, uo_75_30, uo_75_31, uo_75_32, uo_75_33, ua_76, ua_77, ua_78, ua_79, ua_80, ua_81, ua_82, ua_83, ua_84, ua_85, ua_86, ua_87, ua_88, ua_89, ua_90, ua_91, ua_92, ua_93, ua_94, ua_95, ua_96, ua_97, ua_98, sO_g, sA_g, sA_O, sO_A, sO_2, sM_1, sM_2, sM_3, sM_4, sM_5, sM_6, uc_75, b01_f]
    exact ⟨fun _ => ⟨by unfold aJudge; rw [told_no1 c1]; rfl, s, rfl, hM0, agC.rf⟩, fun c => absurd trivial c⟩
  · by_cases c4 : 4 < x
    · have e1 : ¬ x.toInt64 ≤ (4 : Int64) := fun q => Int32.not_le.mpr c4 ((i64_le x 4).mp q)
      rw [decide_eq_false e1, Bool.and_false]
      (try simp only [Option.toList_some, Option.toList_none, List.nil_append, List.append_nil, List.cons_append, Nat.sub_zero, Nat.sub_self, Nat.zero_sub]); refine Go.wp sp_126 200 ?_; simp only [↓g126_0, ↓g126_1, ↓g126_2, ↓g126_3, ↓g126_6, ↓g126_9, ↓g126_12, ↓g126_13, ↓g126_14, ↓g126_15, ↓g126_16, ↓g126_17, ↓g126_18, ↓g126_21, ↓g126_22, ↓g126_23, ↓g126_24, ↓g126_27, ↓g126_30, ↓g126_32, ↓g126_33, ↓g126_34, ↓g126_37, ↓g126_38, ↓g126_39, ↓g126_40, ↓g126_41, ↓g126_44, ↓g126_45, ↓g126_46, ↓g126_47, ↓g126_48, ↓g126_49, ↓g126_50, ↓g126_51, ↓g126_52, ↓g126_55, ↓g126_56, ↓g126_58, ↓g126_59, ↓g126_61, ↓g126_62, ↓g126_63, ↓g126_64, ↓g126_65, ↓g126_66, ↓g126_67, ↓g126_68, ↓g126_69, ↓g126_72, ↓g126_73, ↓g126_75, ↓g126_76, ↓g126_78, ↓g126_79, ↓g126_82, ↓g126_83, ↓g126_86, ↓g126_88, ↓g126_91, ↓g126_93, ↓g126_96, ↓g126_97, ↓g126_99, ↓g126_100, ↓g126_103, ↓g126_105, ↓g126_108, ↓g126_109, ↓g126_110, ↓g126_113, ↓g126_116, ↓g126_118, cl_99, cl_109, cl_123, cl_124, cl_125, cn_0, cn_1, cn_2, cn_3, cn_4, cn_5, cn_6, cn_7, cn_8, ↓Go_s, ↓GoC_a, ↓reduceIte, ↓mm_call_eq, ↓mmw_nil, ↓mmw_cons, List.take_succ_cons, List.take_zero, List.take_nil, List.drop_succ_cons, List.drop_zero, List.drop_nil, List.reverse_cons, List.reverse_nil, List.nil_append, List.cons_append, List.append_nil, Option.toList_some, Option.toList_none, Nat.sub_zero, Nat.le_refl, mmr_cons, mm_st1, mm_st2, mmi_nil, mmi_cons, mmc_I, mmc_L, mmc_R, mmu_get, mmu_one, mma_get, mma_one, List.filter_cons, List.filter_nil, List.contains_cons, List.contains_nil, Nat.reduceBEq, Nat.reduceAdd, Nat.reduceLT, Nat.reduceSub, Nat.reduceLeDiff, Nat.reduceEqDiff, Int32.reduceAdd, Bool.not_true, Bool.not_false, Bool.and_true, Bool.true_and, Bool.and_false, Bool.false_and, Bool.or_false, Bool.false_or, Bool.or_true, Bool.true_or, if_true, if_false, ite_true, ite_false, Bool.false_eq_true, List.getElem?_cons_zero, List.getElem?_cons_succ, List.length_cons, List.length_nil, true_and, and_true, List.set_cons_zero, List.set_cons_succ, Fin.isValue, Fin.val_zero, Fin.val_one, Fin.val_two, Fin.reduceFinMk, Nat.zero_add, hp_75, hp_76, hp_77, hp_78, hp_79, hp_80, hp_81, hp_82, hp_83, hp_84, hp_85, hp_86, hp_87, hp_88, hp_89, hp_90, hp_91, hp_92, hp_93, hp_94, hp_95, hp_96, hp_97, hp_98, og_75_0, og_75_1, og_75_2, og_75_3, og_75_4, og_75_5, og_75_6, og_75_7, og_75_8, og_75_9, og_75_10, og_75_11, og_75_12, og_75_13, og_75_14, og_75_15, og_75_16, og_75_17, og_75_18, og_75_19, og_75_20, og_75_21, og_75_22, og_75_23, og_75_24, og_75_25, og_75_26, og_75_27, og_75_28, og_75_29, og_75_30, og_75_31, og_75_32, og_75_33, og_75_34, og_75_35, og_75_36, og_75_37, og_75_38, og_75_39, og_75_40, og_75_41, ol_75, uo_75_4, uo_75_5, uo_75_6, uo_75_7, uo_75_11, uo_75_12, uo_75_13, uo_75_15, uo_75_19, uo_75_20, uo_75_21, uo_75_22, uo_75_23, uo_75_26, uo_75_30, uo_75_31, uo_75_32, uo_75_33, ua_76, ua_77, ua_78, ua_79, ua_80, ua_81, ua_82, ua_83, ua_84, ua_85, ua_86, ua_87, ua_88, ua_89, ua_90, ua_91, ua_92, ua_93, ua_94, ua_95, ua_96, ua_97, ua_98, sO_g, sA_g, sA_O, sO_A, sO_2, sM_1, sM_2, sM_3, sM_4, sM_5, sM_6, uc_75, b01_f]
      exact ⟨fun _ => ⟨by unfold aJudge; rw [told_no4 c4]; rfl, s, rfl, hM0, agC.rf⟩, fun c => absurd trivial c⟩
    · have e1 : (1 : Int64) ≤ x.toInt64 := (i64_le 1 x).mpr (Int32.not_lt.mp c1)
      have e4 : x.toInt64 ≤ (4 : Int64) := (i64_le x 4).mpr (Int32.not_lt.mp c4)
      rw [decide_eq_true e1, decide_eq_true e4, Bool.true_and]
      obtain ⟨n, hn1, hn4, rfl⟩ := told_le c1 c4
      have hy8 : 10 ^ (2 * n) < 2 ^ 31 := p10_lt (by omega)
      have hy0 : 0 < 10 ^ (2 * n) := Nat.pow_pos (by omega)
      (try simp only [Option.toList_some, Option.toList_none, List.nil_append, List.append_nil, List.cons_append, Nat.sub_zero, Nat.sub_self, Nat.zero_sub]); refine Go.wp sp_126 200 ?_; simp only [↓g126_0, ↓g126_1, ↓g126_2, ↓g126_3, ↓g126_6, ↓g126_9, ↓g126_12, ↓g126_13, ↓g126_14, ↓g126_15, ↓g126_16, ↓g126_17, ↓g126_18, ↓g126_21, ↓g126_22, ↓g126_23, ↓g126_24, ↓g126_27, ↓g126_30, ↓g126_32, ↓g126_33, ↓g126_34, ↓g126_37, ↓g126_38, ↓g126_39, ↓g126_40, ↓g126_41, ↓g126_44, ↓g126_45, ↓g126_46, ↓g126_47, ↓g126_48, ↓g126_49, ↓g126_50, ↓g126_51, ↓g126_52, ↓g126_55, ↓g126_56, ↓g126_58, ↓g126_59, ↓g126_61, ↓g126_62, ↓g126_63, ↓g126_64, ↓g126_65, ↓g126_66, ↓g126_67, ↓g126_68, ↓g126_69, ↓g126_72, ↓g126_73, ↓g126_75, ↓g126_76, ↓g126_78, ↓g126_79, ↓g126_82, ↓g126_83, ↓g126_86, ↓g126_88, ↓g126_91, ↓g126_93, ↓g126_96, ↓g126_97, ↓g126_99, ↓g126_100, ↓g126_103, ↓g126_105, ↓g126_108, ↓g126_109, ↓g126_110, ↓g126_113, ↓g126_116, ↓g126_118, cl_99, cl_109, cl_123, cl_124, cl_125, cn_0, cn_1, cn_2, cn_3, cn_4, cn_5, cn_6, cn_7, cn_8, ↓Go_s, ↓GoC_a, ↓reduceIte, ↓mm_call_eq, ↓mmw_nil, ↓mmw_cons, List.take_succ_cons, List.take_zero, List.take_nil, List.drop_succ_cons, List.drop_zero, List.drop_nil, List.reverse_cons, List.reverse_nil, List.nil_append, List.cons_append, List.append_nil, Option.toList_some, Option.toList_none, Nat.sub_zero, Nat.le_refl, mmr_cons, mm_st1, mm_st2, mmi_nil, mmi_cons, mmc_I, mmc_L, mmc_R, mmu_get, mmu_one, mma_get, mma_one, List.filter_cons, List.filter_nil, List.contains_cons, List.contains_nil, Nat.reduceBEq, Nat.reduceAdd, Nat.reduceLT, Nat.reduceSub, Nat.reduceLeDiff, Nat.reduceEqDiff, Int32.reduceAdd, Bool.not_true, Bool.not_false, Bool.and_true, Bool.true_and, Bool.and_false, Bool.false_and, Bool.or_false, Bool.false_or, Bool.or_true, Bool.true_or, if_true, if_false, ite_true, ite_false, Bool.false_eq_true, List.getElem?_cons_zero, List.getElem?_cons_succ, List.length_cons, List.length_nil, true_and, and_true, List.set_cons_zero, List.set_cons_succ, Fin.isValue, Fin.val_zero, Fin.val_one, Fin.val_two, Fin.reduceFinMk, Nat.zero_add, hp_75, hp_76, hp_77, hp_78, hp_79, hp_80, hp_81, hp_82, hp_83, hp_84, hp_85, hp_86, hp_87, hp_88, hp_89, hp_90, hp_91, hp_92, hp_93, hp_94, hp_95, hp_96, hp_97, hp_98, og_75_0, og_75_1, og_75_2, og_75_3, og_75_4, og_75_5, og_75_6, og_75_7, og_75_8, og_75_9, og_75_10, og_75_11, og_75_12, og_75_13, og_75_14, og_75_15, og_75_16, og_75_17, og_75_18, og_75_19, og_75_20, og_75_21, og_75_22, og_75_23, og_75_24, og_75_25, og_75_26, og_75_27, og_75_28, og_75_29, og_75_30, og_75_31, og_75_32, og_75_33, og_75_34, og_75_35, og_75_36, og_75_37, og_75_38, og_75_39, og_75_40, og_75_41, ol_75, uo_75_4, uo_75_5, uo_75_6, uo_75_7, uo_75_11, uo_75_12, uo_75_13, uo_75_15, uo_75_19, uo_75_20, uo_75_21, uo_75_22, uo_75_23, uo_75_26, uo_75_30, uo_75_31, uo_75_32, uo_75_33, ua_76, ua_77, ua_78, ua_79, ua_80, ua_81, ua_82, ua_83, ua_84, ua_85, ua_86, ua_87, ua_88, ua_89, ua_90, ua_91, ua_92, ua_93, ua_94, ua_95, ua_96, ua_97, ua_98, sO_g, sA_g, sA_O, sO_A, sO_2, sM_1, sM_2, sM_3, sM_4, sM_5, sM_6, uc_75, b01_t]
      rw [show (2 : Int32) = nI 2 from rfl, pk_mul]
      refine ⟨fun c => absurd c (by decide), fun _ => ⟨0, 0, _, Nat.le_refl _, Nat.le_refl _, M_tenTo (d := d + 2) _ (by omega), fun z h' hz => ?_⟩⟩
      obtain ⟨rfl, rfl⟩ := hz
      (try simp only [Option.toList_some, Option.toList_none, List.nil_append, List.append_nil, List.cons_append, Nat.sub_zero, Nat.sub_self, Nat.zero_sub]); refine Go.wp sp_126 200 ?_; simp only [↓g126_0, ↓g126_1, ↓g126_2, ↓g126_3, ↓g126_6, ↓g126_9, ↓g126_12, ↓g126_13, ↓g126_14, ↓g126_15, ↓g126_16, ↓g126_17, ↓g126_18, ↓g126_21, ↓g126_22, ↓g126_23, ↓g126_24, ↓g126_27, ↓g126_30, ↓g126_32, ↓g126_33, ↓g126_34, ↓g126_37, ↓g126_38, ↓g126_39, ↓g126_40, ↓g126_41, ↓g126_44, ↓g126_45, ↓g126_46, ↓g126_47, ↓g126_48, ↓g126_49, ↓g126_50, ↓g126_51, ↓g126_52, ↓g126_55, ↓g126_56, ↓g126_58, ↓g126_59, ↓g126_61, ↓g126_62, ↓g126_63, ↓g126_64, ↓g126_65, ↓g126_66, ↓g126_67, ↓g126_68, ↓g126_69, ↓g126_72, ↓g126_73, ↓g126_75, ↓g126_76, ↓g126_78, ↓g126_79, ↓g126_82, ↓g126_83, ↓g126_86, ↓g126_88, ↓g126_91, ↓g126_93, ↓g126_96, ↓g126_97, ↓g126_99, ↓g126_100, ↓g126_103, ↓g126_105, ↓g126_108, ↓g126_109, ↓g126_110, ↓g126_113, ↓g126_116, ↓g126_118, cl_99, cl_109, cl_123, cl_124, cl_125, cn_0, cn_1, cn_2, cn_3, cn_4, cn_5, cn_6, cn_7, cn_8, ↓Go_s, ↓GoC_a, ↓reduceIte, ↓mm_call_eq, ↓mmw_nil, ↓mmw_cons, List.take_succ_cons, List.take_zero, List.take_nil, List.drop_succ_cons, List.drop_zero, List.drop_nil, List.reverse_cons, List.reverse_nil, List.nil_append, List.cons_append, List.append_nil, Option.toList_some, Option.toList_none, Nat.sub_zero, Nat.le_refl, mmr_cons, mm_st1, mm_st2, mmi_nil, mmi_cons, mmc_I, mmc_L, mmc_R, mmu_get, mmu_one, mma_get, mma_one, List.filter_cons, List.filter_nil, List.contains_cons, List.contains_nil, Nat.reduceBEq, Nat.reduceAdd, Nat.reduceLT, Nat.reduceSub, Nat.reduceLeDiff, Nat.reduceEqDiff, Int32.reduceAdd, Bool.not_true, Bool.not_false, Bool.and_true, Bool.true_and, Bool.and_false, Bool.false_and, Bool.or_false, Bool.false_or, Bool.or_true, Bool.true_or, if_true, if_false, ite_true, ite_false, Bool.false_eq_true, List.getElem?_cons_zero, List.getElem?_cons_succ, List.length_cons, List.length_nil, true_and, and_true, List.set_cons_zero, List.set_cons_succ, Fin.isValue, Fin.val_zero, Fin.val_one, Fin.val_two, Fin.reduceFinMk, Nat.zero_add, hp_75, hp_76, hp_77, hp_78, hp_79, hp_80, hp_81, hp_82, hp_83, hp_84, hp_85, hp_86, hp_87, hp_88, hp_89, hp_90, hp_91, hp_92, hp_93, hp_94, hp_95, hp_96, hp_97, hp_98, og_75_0, og_75_1, og_75_2, og_75_3, og_75_4, og_75_5, og_75_6, og_75_7, og_75_8, og_75_9, og_75_10, og_75_11, og_75_12, og_75_13, og_75_14, og_75_15, og_75_16, og_75_17, og_75_18, og_75_19, og_75_20, og_75_21, og_75_22, og_75_23, og_75_24, og_75_25, og_75_26, og_75_27, og_75_28, og_75_29, og_75_30, og_75_31, og_75_32, og_75_33, og_75_34, og_75_35, og_75_36, og_75_37, og_75_38, og_75_39, og_75_40, og_75_41, ol_75, uo_75_4, uo_75_5, uo_75_6, uo_75_7, uo_75_11, uo_75_12, uo_75_13, uo_75_15, uo_75_19, uo_75_20, uo_75_21, uo_75_22, uo_75_23, uo_75_26, uo_75_30, uo_75_31, uo_75_32, uo_75_33, ua_76, ua_77, ua_78, ua_79, ua_80, ua_81, ua_82, ua_83, ua_84, ua_85, ua_86, ua_87, ua_88, ua_89, ua_90, ua_91, ua_92, ua_93, ua_94, ua_95, ua_96, ua_97, ua_98, sO_g, sA_g, sA_O, sO_A, sO_2, sM_1, sM_2, sM_3, sM_4, sM_5, sM_6, uc_75]
      refine ⟨0, 0, _, Nat.le_refl _, Nat.le_refl _, M_in (d := d + 2) _ _ _ _, fun z h' hz => ?_⟩
      obtain ⟨rfl, rfl⟩ := hz
      rw [isB_long hy0 hy8]
      cases hb : isB y (10 ^ (2 * n))
      · (try simp only [Option.toList_some, Option.toList_none, List.nil_append, List.append_nil, List.cons_append, Nat.sub_zero, Nat.sub_self, Nat.zero_sub]); refine Go.wp sp_126 200 ?_; simp only [↓g126_0, ↓g126_1, ↓g126_2, ↓g126_3, ↓g126_6, ↓g126_9, ↓g126_12, ↓g126_13, ↓g126_14, ↓g126_15, ↓g126_16, ↓g126_17, ↓g126_18, ↓g126_21, ↓g126_22, ↓g126_23, ↓g126_24, ↓g126_27, ↓g126_30, ↓g126_32, ↓g126_33, ↓g126_34, ↓g126_37, ↓g126_38, ↓g126_39, ↓g126_40, ↓g126_41, ↓g126_44, ↓g126_45, ↓g126_46, ↓g126_47, ↓g126_48, ↓g126_49, ↓g126_50, ↓g126_51, ↓g126_52, ↓g126_55, ↓g126_56, ↓g126_58, ↓g126_59, ↓g126_61, ↓g126_62, ↓g126_63, ↓g126_64, ↓g126_65, ↓g126_66, ↓g126_67, ↓g126_68, ↓g126_69, ↓g126_72, ↓g126_73, ↓g126_75, ↓g126_76, ↓g126_78, ↓g126_79, ↓g126_82, ↓g126_83, ↓g126_86, ↓g126_88, ↓g126_91, ↓g126_93, ↓g126_96, ↓g126_97, ↓g126_99, ↓g126_100, ↓g126_103, ↓g126_105, ↓g126_108, ↓g126_109, ↓g126_110, ↓g126_113, ↓g126_116, ↓g126_118, cl_99, cl_109, cl_123, cl_124, cl_125, cn_0, cn_1, cn_2, cn_3, cn_4, cn_5, cn_6, cn_7, cn_8, ↓Go_s, ↓GoC_a, ↓reduceIte, ↓mm_call_eq, ↓mmw_nil, ↓mmw_cons, List.take_succ_cons, List.take_zero, List.take_nil, List.drop_succ_cons, List.drop_zero, List.drop_nil, List.reverse_cons, List.reverse_nil, List.nil_append, List.cons_append, List.append_nil, Option.toList_some, Option.toList_none, Nat.sub_zero, Nat.le_refl, mmr_cons, mm_st1, mm_st2, mmi_nil, mmi_cons, mmc_I, mmc_L, mmc_R, mmu_get, mmu_one, mma_get, mma_one, List.filter_cons, List.filter_nil, List.contains_cons, List.contains_nil, Nat.reduceBEq, Nat.reduceAdd, Nat.reduceLT, Nat.reduceSub, Nat.reduceLeDiff, Nat.reduceEqDiff, Int32.reduceAdd, Bool.not_true, Bool.not_false, Bool.and_true, Bool.true_and, Bool.and_false, Bool.false_and, Bool.or_false, Bool.false_or, Bool.or_true, Bool.true_or, if_true, if_false, ite_true, ite_false, Bool.false_eq_true, List.getElem?_cons_zero, List.getElem?_cons_succ, List.length_cons, List.length_nil, true_and, and_true, List.set_cons_zero, List.set_cons_succ, Fin.isValue, Fin.val_zero, Fin.val_one, Fin.val_two, Fin.reduceFinMk, Nat.zero_add, hp_75, hp_76, hp_77, hp_78, hp_79, hp_80, hp_81, hp_82, hp_83, hp_84, hp_85, hp_86, hp_87, hp_88, hp_89, hp_90, hp_91, hp_92, hp_93, hp_94, hp_95, hp_96, hp_97, hp_98, og_75_0, og_75_1, og_75_2, og_75_3, og_75_4, og_75_5, og_75_6, og_75_7, og_75_8, og_75_9, og_75_10, og_75_11, og_75_12, og_75_13, og_75_14, og_75_15, og_75_16, og_75_17, og_75_18, og_75_19, og_75_20, og_75_21, og_75_22, og_75_23, og_75_24, og_75_25, og_75_26, og_75_27, og_75_28, og_75_29, og_75_30, og_75_31, og_75_32, og_75_33, og_75_34, og_75_35, og_75_36, og_75_37, og_75_38, og_75_39, og_75_40, og_75_41, ol_75, uo_75_4, uo_75_5, uo_75_6, uo_75_7, uo_75_11, uo_75_12, uo_75_13, uo_75_15, uo_75_19, uo_75_20, uo_75_21, uo_75_22, uo_75_23, uo_75_26, uo_75_30, uo_75_31, uo_75_32, uo_75_33, ua_76, ua_77, ua_78, ua_79, ua_80, ua_81, ua_82, ua_83, ua_84, ua_85, ua_86, ua_87, ua_88, ua_89, ua_90, ua_91, ua_92, ua_93, ua_94, ua_95, ua_96, ua_97, ua_98, sO_g, sA_g, sA_O, sO_A, sO_2, sM_1, sM_2, sM_3, sM_4, sM_5, sM_6, uc_75, b01_f]
        exact ⟨fun c => absurd trivial c, fun _ => ⟨by unfold aJudge; rw [told_n hn1 hn4, hb]; rfl, s, rfl, hM0, agC.rf⟩⟩
      · obtain ⟨y', hy, rfl⟩ := isB_t hy8 hb
        have hans : aJudge g (nI n) (nI y') = jdP (gLw g) y' n 0 (gDk g).1 := by
          unfold aJudge
          rw [told_n hn1 hn4, if_pos hb, nI_clamp (by omega), nI_clamp (by omega)]
        rw [hans]
        (try simp only [Option.toList_some, Option.toList_none, List.nil_append, List.append_nil, List.cons_append, Nat.sub_zero, Nat.sub_self, Nat.zero_sub]); refine Go.wp sp_126 200 ?_; simp only [↓g126_0, ↓g126_1, ↓g126_2, ↓g126_3, ↓g126_6, ↓g126_9, ↓g126_12, ↓g126_13, ↓g126_14, ↓g126_15, ↓g126_16, ↓g126_17, ↓g126_18, ↓g126_21, ↓g126_22, ↓g126_23, ↓g126_24, ↓g126_27, ↓g126_30, ↓g126_32, ↓g126_33, ↓g126_34, ↓g126_37, ↓g126_38, ↓g126_39, ↓g126_40, ↓g126_41, ↓g126_44, ↓g126_45, ↓g126_46, ↓g126_47, ↓g126_48, ↓g126_49, ↓g126_50, ↓g126_51, ↓g126_52, ↓g126_55, ↓g126_56, ↓g126_58, ↓g126_59, ↓g126_61, ↓g126_62, ↓g126_63, ↓g126_64, ↓g126_65, ↓g126_66, ↓g126_67, ↓g126_68, ↓g126_69, ↓g126_72, ↓g126_73, ↓g126_75, ↓g126_76, ↓g126_78, ↓g126_79, ↓g126_82, ↓g126_83, ↓g126_86, ↓g126_88, ↓g126_91, ↓g126_93, ↓g126_96, ↓g126_97, ↓g126_99, ↓g126_100, ↓g126_103, ↓g126_105, ↓g126_108, ↓g126_109, ↓g126_110, ↓g126_113, ↓g126_116, ↓g126_118, cl_99, cl_109, cl_123, cl_124, cl_125, cn_0, cn_1, cn_2, cn_3, cn_4, cn_5, cn_6, cn_7, cn_8, ↓Go_s, ↓GoC_a, ↓reduceIte, ↓mm_call_eq, ↓mmw_nil, ↓mmw_cons, List.take_succ_cons, List.take_zero, List.take_nil, List.drop_succ_cons, List.drop_zero, List.drop_nil, List.reverse_cons, List.reverse_nil, List.nil_append, List.cons_append, List.append_nil, Option.toList_some, Option.toList_none, Nat.sub_zero, Nat.le_refl, mmr_cons, mm_st1, mm_st2, mmi_nil, mmi_cons, mmc_I, mmc_L, mmc_R, mmu_get, mmu_one, mma_get, mma_one, List.filter_cons, List.filter_nil, List.contains_cons, List.contains_nil, Nat.reduceBEq, Nat.reduceAdd, Nat.reduceLT, Nat.reduceSub, Nat.reduceLeDiff, Nat.reduceEqDiff, Int32.reduceAdd, Bool.not_true, Bool.not_false, Bool.and_true, Bool.true_and, Bool.and_false, Bool.false_and, Bool.or_false, Bool.false_or, Bool.or_true, Bool.true_or, if_true, if_false, ite_true, ite_false, Bool.false_eq_true, List.getElem?_cons_zero, List.getElem?_cons_succ, List.length_cons, List.length_nil, true_and, and_true, List.set_cons_zero, List.set_cons_succ, Fin.isValue, Fin.val_zero, Fin.val_one, Fin.val_two, Fin.reduceFinMk, Nat.zero_add, hp_75, hp_76, hp_77, hp_78, hp_79, hp_80, hp_81, hp_82, hp_83, hp_84, hp_85, hp_86, hp_87, hp_88, hp_89, hp_90, hp_91, hp_92, hp_93, hp_94, hp_95, hp_96, hp_97, hp_98, og_75_0, og_75_1, og_75_2, og_75_3, og_75_4, og_75_5, og_75_6, og_75_7, og_75_8, og_75_9, og_75_10, og_75_11, og_75_12, og_75_13, og_75_14, og_75_15, og_75_16, og_75_17, og_75_18, og_75_19, og_75_20, og_75_21, og_75_22, og_75_23, og_75_24, og_75_25, og_75_26, og_75_27, og_75_28, og_75_29, og_75_30, og_75_31, og_75_32, og_75_33, og_75_34, og_75_35, og_75_36, og_75_37, og_75_38, og_75_39, og_75_40, og_75_41, ol_75, uo_75_4, uo_75_5, uo_75_6, uo_75_7, uo_75_11, uo_75_12, uo_75_13, uo_75_15, uo_75_19, uo_75_20, uo_75_21, uo_75_22, uo_75_23, uo_75_26, uo_75_30, uo_75_31, uo_75_32, uo_75_33, ua_76, ua_77, ua_78, ua_79, ua_80, ua_81, ua_82, ua_83, ua_84, ua_85, ua_86, ua_87, ua_88, ua_89, ua_90, ua_91, ua_92, ua_93, ua_94, ua_95, ua_96, ua_97, ua_98, sO_g, sA_g, sA_O, sO_A, sO_2, sM_1, sM_2, sM_3, sM_4, sM_5, sM_6, uc_75, b01_t]
        refine ⟨fun _ => ⟨0, 0, _, Nat.le_refl _, Nat.le_refl _, m_copyShelf (d := d + 2) h4.2.1 h4.1 hl8, fun z h' hz => ?_⟩, fun c => absurd c (by decide)⟩
        obtain ⟨rfl, f0, rfl, hr0⟩ := hz
        have key : ∀ r t f xs, n = r + t → Rk (gDk g).1 xs → Ar f xs → jdP (gLw g) y' n 0 (gDk g).1 = jdP (gLw g) y' r t xs → WP (mm_rw mr_126) (some .int) tb (WM tb (d + 3)) (PostM g s (vI (jdP (gLw g) y' n 0 (gDk g).1))) 39 [(0, vR 75), (1, vI (nI n)), (2, vI (nI y')), (3, vI (nI t))] [] (HP (sU s f (gDk g).1.length)) 0 0 := by
          intro r
          induction r with
          | zero =>
            intro t f xs hr hp hx ha
            have e : t = n := by omega
            subst e
            rw [ha]
            (try simp only [Option.toList_some, Option.toList_none, List.nil_append, List.append_nil, List.cons_append, Nat.sub_zero, Nat.sub_self, Nat.zero_sub]); refine Go.wp sp_126 200 ?_; simp only [↓g126_0, ↓g126_1, ↓g126_2, ↓g126_3, ↓g126_6, ↓g126_9, ↓g126_12, ↓g126_13, ↓g126_14, ↓g126_15, ↓g126_16, ↓g126_17, ↓g126_18, ↓g126_21, ↓g126_22, ↓g126_23, ↓g126_24, ↓g126_27, ↓g126_30, ↓g126_32, ↓g126_33, ↓g126_34, ↓g126_37, ↓g126_38, ↓g126_39, ↓g126_40, ↓g126_41, ↓g126_44, ↓g126_45, ↓g126_46, ↓g126_47, ↓g126_48, ↓g126_49, ↓g126_50, ↓g126_51, ↓g126_52, ↓g126_55, ↓g126_56, ↓g126_58, ↓g126_59, ↓g126_61, ↓g126_62, ↓g126_63, ↓g126_64, ↓g126_65, ↓g126_66, ↓g126_67, ↓g126_68, ↓g126_69, ↓g126_72, ↓g126_73, ↓g126_75, ↓g126_76, ↓g126_78, ↓g126_79, ↓g126_82, ↓g126_83, ↓g126_86, ↓g126_88, ↓g126_91, ↓g126_93, ↓g126_96, ↓g126_97, ↓g126_99, ↓g126_100, ↓g126_103, ↓g126_105, ↓g126_108, ↓g126_109, ↓g126_110, ↓g126_113, ↓g126_116, ↓g126_118, cl_99, cl_109, cl_123, cl_124, cl_125, cn_0, cn_1, cn_2, cn_3, cn_4, cn_5, cn_6, cn_7, cn_8, ↓Go_s, ↓GoC_a, ↓reduceIte, ↓mm_call_eq, ↓mmw_nil, ↓mmw_cons, List.take_succ_cons, List.take_zero, List.take_nil, List.drop_succ_cons, List.drop_zero, List.drop_nil, List.reverse_cons, List.reverse_nil, List.nil_append, List.cons_append, List.append_nil, Option.toList_some, Option.toList_none, Nat.sub_zero, Nat.le_refl, mmr_cons, mm_st1, mm_st2, mmi_nil, mmi_cons, mmc_I, mmc_L, mmc_R, mmu_get, mmu_one, mma_get, mma_one, List.filter_cons, List.filter_nil, List.contains_cons, List.contains_nil, Nat.reduceBEq, Nat.reduceAdd, Nat.reduceLT, Nat.reduceSub, Nat.reduceLeDiff, Nat.reduceEqDiff, Int32.reduceAdd, Bool.not_true, Bool.not_false, Bool.and_true, Bool.true_and, Bool.and_false, Bool.false_and, Bool.or_false, Bool.false_or, Bool.or_true, Bool.true_or, if_true, if_false, ite_true, ite_false, Bool.false_eq_true, List.getElem?_cons_zero, List.getElem?_cons_succ, List.length_cons, List.length_nil, true_and, and_true, List.set_cons_zero, List.set_cons_succ, Fin.isValue, Fin.val_zero, Fin.val_one, Fin.val_two, Fin.reduceFinMk, Nat.zero_add, hp_75, hp_76, hp_77, hp_78, hp_79, hp_80, hp_81, hp_82, hp_83, hp_84, hp_85, hp_86, hp_87, hp_88, hp_89, hp_90, hp_91, hp_92, hp_93, hp_94, hp_95, hp_96, hp_97, hp_98, og_75_0, og_75_1, og_75_2, og_75_3, og_75_4, og_75_5, og_75_6, og_75_7, og_75_8, og_75_9, og_75_10, og_75_11, og_75_12, og_75_13, og_75_14, og_75_15, og_75_16, og_75_17, og_75_18, og_75_19, og_75_20, og_75_21, og_75_22, og_75_23, og_75_24, og_75_25, og_75_26, og_75_27, og_75_28, og_75_29, og_75_30, og_75_31, og_75_32, og_75_33, og_75_34, og_75_35, og_75_36, og_75_37, og_75_38, og_75_39, og_75_40, og_75_41, ol_75, uo_75_4, uo_75_5, uo_75_6, uo_75_7, uo_75_11, uo_75_12, uo_75_13, uo_75_15, uo_75_19, uo_75_20, uo_75_21, uo_75_22, uo_75_23, uo_75_26, uo_75_30, uo_75_31, uo_75_32, uo_75_33, ua_76, ua_77, ua_78, ua_79, ua_80, ua_81, ua_82, ua_83, ua_84, ua_85, ua_86, ua_87, ua_88, ua_89, ua_90, ua_91, ua_92, ua_93, ua_94, ua_95, ua_96, ua_97, ua_98, sO_g, sA_g, sA_O, sO_A, sO_2, sM_1, sM_2, sM_3, sM_4, sM_5, sM_6, uc_75]
            exact ⟨fun _ => ⟨rfl, _, rfl, hM0.sU _ _, agC.sU _ _⟩, fun c => absurd (Int32.le_refl _) c⟩
          | succ r ih =>
            intro t f xs hr hp hx ha
            have ht1 := dg_lt y' (2 * r + 1)
            have ht2 := dg_lt y' (2 * r)
            have hxs8 : ∀ v ∈ xs, v < 8 := fun v hv => hs8 v (hp.mem.mp hv)
            have hxl : xs.length ≤ 8 := by rw [hp.len]; exact hl8
            have hlen : (sU s f (gDk g).1.length).2.1 75 26 = nI xs.length := by rw [hp.len]; rfl
            have h3' : (sU s f (gDk g).1.length).2.1 75 13 = nI (gLw g) := h3
            have hp1 := p10_lt (show 2 * r + 1 < 9 by omega)
            have hp2 := p10_lt (show 2 * r < 9 by omega)
            have h01 : 0 < 10 ^ (2 * r + 1) := Nat.pow_pos (by omega)
            have h02 : 0 < 10 ^ (2 * r) := Nat.pow_pos (by omega)
            (try simp only [Option.toList_some, Option.toList_none, List.nil_append, List.append_nil, List.cons_append, Nat.sub_zero, Nat.sub_self, Nat.zero_sub]); refine Go.wp sp_126 200 ?_; simp only [↓g126_0, ↓g126_1, ↓g126_2, ↓g126_3, ↓g126_6, ↓g126_9, ↓g126_12, ↓g126_13, ↓g126_14, ↓g126_15, ↓g126_16, ↓g126_17, ↓g126_18, ↓g126_21, ↓g126_22, ↓g126_23, ↓g126_24, ↓g126_27, ↓g126_30, ↓g126_32, ↓g126_33, ↓g126_34, ↓g126_37, ↓g126_38, ↓g126_39, ↓g126_40, ↓g126_41, ↓g126_44, ↓g126_45, ↓g126_46, ↓g126_47, ↓g126_48, ↓g126_49, ↓g126_50, ↓g126_51, ↓g126_52, ↓g126_55, ↓g126_56, ↓g126_58, ↓g126_59, ↓g126_61, ↓g126_62, ↓g126_63, ↓g126_64, ↓g126_65, ↓g126_66, ↓g126_67, ↓g126_68, ↓g126_69, ↓g126_72, ↓g126_73, ↓g126_75, ↓g126_76, ↓g126_78, ↓g126_79, ↓g126_82, ↓g126_83, ↓g126_86, ↓g126_88, ↓g126_91, ↓g126_93, ↓g126_96, ↓g126_97, ↓g126_99, ↓g126_100, ↓g126_103, ↓g126_105, ↓g126_108, ↓g126_109, ↓g126_110, ↓g126_113, ↓g126_116, ↓g126_118, cl_99, cl_109, cl_123, cl_124, cl_125, cn_0, cn_1, cn_2, cn_3, cn_4, cn_5, cn_6, cn_7, cn_8, ↓Go_s, ↓GoC_a, ↓reduceIte, ↓mm_call_eq, ↓mmw_nil, ↓mmw_cons, List.take_succ_cons, List.take_zero, List.take_nil, List.drop_succ_cons, List.drop_zero, List.drop_nil, List.reverse_cons, List.reverse_nil, List.nil_append, List.cons_append, List.append_nil, Option.toList_some, Option.toList_none, Nat.sub_zero, Nat.le_refl, mmr_cons, mm_st1, mm_st2, mmi_nil, mmi_cons, mmc_I, mmc_L, mmc_R, mmu_get, mmu_one, mma_get, mma_one, List.filter_cons, List.filter_nil, List.contains_cons, List.contains_nil, Nat.reduceBEq, Nat.reduceAdd, Nat.reduceLT, Nat.reduceSub, Nat.reduceLeDiff, Nat.reduceEqDiff, Int32.reduceAdd, Bool.not_true, Bool.not_false, Bool.and_true, Bool.true_and, Bool.and_false, Bool.false_and, Bool.or_false, Bool.false_or, Bool.or_true, Bool.true_or, if_true, if_false, ite_true, ite_false, Bool.false_eq_true, List.getElem?_cons_zero, List.getElem?_cons_succ, List.length_cons, List.length_nil, true_and, and_true, List.set_cons_zero, List.set_cons_succ, Fin.isValue, Fin.val_zero, Fin.val_one, Fin.val_two, Fin.reduceFinMk, Nat.zero_add, hp_75, hp_76, hp_77, hp_78, hp_79, hp_80, hp_81, hp_82, hp_83, hp_84, hp_85, hp_86, hp_87, hp_88, hp_89, hp_90, hp_91, hp_92, hp_93, hp_94, hp_95, hp_96, hp_97, hp_98, og_75_0, og_75_1, og_75_2, og_75_3, og_75_4, og_75_5, og_75_6, og_75_7, og_75_8, og_75_9, og_75_10, og_75_11, og_75_12, og_75_13, og_75_14, og_75_15, og_75_16, og_75_17, og_75_18, og_75_19, og_75_20, og_75_21, og_75_22, og_75_23, og_75_24, og_75_25, og_75_26, og_75_27, og_75_28, og_75_29, og_75_30, og_75_31, og_75_32, og_75_33, og_75_34, og_75_35, og_75_36, og_75_37, og_75_38, og_75_39, og_75_40, og_75_41, ol_75, uo_75_4, uo_75_5, uo_75_6, uo_75_7, uo_75_11, uo_75_12, uo_75_13, uo_75_15, uo_75_19, uo_75_20, uo_75_21, uo_75_22, uo_75_23, uo_75_26, uo_75_30, uo_75_31, uo_75_32, uo_75_33, ua_76, ua_77, ua_78, ua_79, ua_80, ua_81, ua_82, ua_83, ua_84, ua_85, ua_86, ua_87, ua_88, ua_89, ua_90, ua_91, ua_92, ua_93, ua_94, ua_95, ua_96, ua_97, ua_98, sO_g, sA_g, sA_O, sO_A, sO_2, sM_1, sM_2, sM_3, sM_4, sM_5, sM_6, uc_75, hlen]
            rw [show (2 : Int32) = nI 2 from rfl, show (1 : Int32) = nI 1 from rfl, pk_sub (by omega), pk_mul, pk_sub (by omega), show 2 * (n - t) - 1 = 2 * r + 1 by omega]
            refine ⟨fun c => absurd c (nI_ge (show t < n by omega) (by omega)), fun _ => ⟨0, 0, _, Nat.le_refl _, Nat.le_refl _, M_tenTo (d := d + 2) _ (show 2 * r + 1 ≤ 8 by omega), fun z1 h' hz => ?_⟩⟩
            obtain ⟨rfl, rfl⟩ := hz
            have hq1 : y' / 10 ^ (2 * r + 1) < 2 ^ 31 := Nat.lt_of_le_of_lt (Nat.div_le_self _ _) (by omega)
            have hq2 : y' / 10 ^ (2 * r) < 2 ^ 31 := Nat.lt_of_le_of_lt (Nat.div_le_self _ _) (by omega)
            (try simp only [Option.toList_some, Option.toList_none, List.nil_append, List.append_nil, List.cons_append, Nat.sub_zero, Nat.sub_self, Nat.zero_sub]); refine Go.wp sp_126 200 ?_; simp only [↓g126_0, ↓g126_1, ↓g126_2, ↓g126_3, ↓g126_6, ↓g126_9, ↓g126_12, ↓g126_13, ↓g126_14, ↓g126_15, ↓g126_16, ↓g126_17, ↓g126_18, ↓g126_21, ↓g126_22, ↓g126_23, ↓g126_24, ↓g126_27, ↓g126_30, ↓g126_32, ↓g126_33, ↓g126_34, ↓g126_37, ↓g126_38, ↓g126_39, ↓g126_40, ↓g126_41, ↓g126_44, ↓g126_45, ↓g126_46, ↓g126_47, ↓g126_48, ↓g126_49, ↓g126_50, ↓g126_51, ↓g126_52, ↓g126_55, ↓g126_56, ↓g126_58, ↓g126_59, ↓g126_61, ↓g126_62, ↓g126_63, ↓g126_64, ↓g126_65, ↓g126_66, ↓g126_67, ↓g126_68, ↓g126_69, ↓g126_72, ↓g126_73, ↓g126_75, ↓g126_76, ↓g126_78, ↓g126_79, ↓g126_82, ↓g126_83, ↓g126_86, ↓g126_88, ↓g126_91, ↓g126_93, ↓g126_96, ↓g126_97, ↓g126_99, ↓g126_100, ↓g126_103, ↓g126_105, ↓g126_108, ↓g126_109, ↓g126_110, ↓g126_113, ↓g126_116, ↓g126_118, cl_99, cl_109, cl_123, cl_124, cl_125, cn_0, cn_1, cn_2, cn_3, cn_4, cn_5, cn_6, cn_7, cn_8, ↓Go_s, ↓GoC_a, ↓reduceIte, ↓mm_call_eq, ↓mmw_nil, ↓mmw_cons, List.take_succ_cons, List.take_zero, List.take_nil, List.drop_succ_cons, List.drop_zero, List.drop_nil, List.reverse_cons, List.reverse_nil, List.nil_append, List.cons_append, List.append_nil, Option.toList_some, Option.toList_none, Nat.sub_zero, Nat.le_refl, mmr_cons, mm_st1, mm_st2, mmi_nil, mmi_cons, mmc_I, mmc_L, mmc_R, mmu_get, mmu_one, mma_get, mma_one, List.filter_cons, List.filter_nil, List.contains_cons, List.contains_nil, Nat.reduceBEq, Nat.reduceAdd, Nat.reduceLT, Nat.reduceSub, Nat.reduceLeDiff, Nat.reduceEqDiff, Int32.reduceAdd, Bool.not_true, Bool.not_false, Bool.and_true, Bool.true_and, Bool.and_false, Bool.false_and, Bool.or_false, Bool.false_or, Bool.or_true, Bool.true_or, if_true, if_false, ite_true, ite_false, Bool.false_eq_true, List.getElem?_cons_zero, List.getElem?_cons_succ, List.length_cons, List.length_nil, true_and, and_true, List.set_cons_zero, List.set_cons_succ, Fin.isValue, Fin.val_zero, Fin.val_one, Fin.val_two, Fin.reduceFinMk, Nat.zero_add, hp_75, hp_76, hp_77, hp_78, hp_79, hp_80, hp_81, hp_82, hp_83, hp_84, hp_85, hp_86, hp_87, hp_88, hp_89, hp_90, hp_91, hp_92, hp_93, hp_94, hp_95, hp_96, hp_97, hp_98, og_75_0, og_75_1, og_75_2, og_75_3, og_75_4, og_75_5, og_75_6, og_75_7, og_75_8, og_75_9, og_75_10, og_75_11, og_75_12, og_75_13, og_75_14, og_75_15, og_75_16, og_75_17, og_75_18, og_75_19, og_75_20, og_75_21, og_75_22, og_75_23, og_75_24, og_75_25, og_75_26, og_75_27, og_75_28, og_75_29, og_75_30, og_75_31, og_75_32, og_75_33, og_75_34, og_75_35, og_75_36, og_75_37, og_75_38, og_75_39, og_75_40, og_75_41, ol_75, uo_75_4, uo_75_5, uo_75_6, uo_75_7, uo_75_11, uo_75_12, uo_75_13, uo_75_15, uo_75_19, uo_75_20, uo_75_21, uo_75_22, uo_75_23, uo_75_26, uo_75_30, uo_75_31, uo_75_32, uo_75_33, ua_76, ua_77, ua_78, ua_79, ua_80, ua_81, ua_82, ua_83, ua_84, ua_85, ua_86, ua_87, ua_88, ua_89, ua_90, ua_91, ua_92, ua_93, ua_94, ua_95, ua_96, ua_97, ua_98, sO_g, sA_g, sA_O, sO_A, sO_2, sM_1, sM_2, sM_3, sM_4, sM_5, sM_6, uc_75, hlen]
            rw [pk_div (by omega) h01 hp1, show (10 : Int32) = nI 10 from rfl, pk_rem hq1 (by omega) (by omega), show y' / 10 ^ (2 * r + 1) % 10 = dg y' (2 * r + 1) from rfl, show (2 : Int32) = nI 2 from rfl, pk_sub (by omega), pk_mul, pk_sub (by omega), show 2 * (n - t) - 2 = 2 * r by omega]
            refine ⟨nI_ne0 h01 hp1, nI_ne0 (by omega) (by omega), 0, 0, _, Nat.le_refl _, Nat.le_refl _, M_tenTo (d := d + 2) _ (show 2 * r ≤ 8 by omega), fun z1 h' hz => ?_⟩
            obtain ⟨rfl, rfl⟩ := hz
            (try simp only [Option.toList_some, Option.toList_none, List.nil_append, List.append_nil, List.cons_append, Nat.sub_zero, Nat.sub_self, Nat.zero_sub]); refine Go.wp sp_126 200 ?_; simp only [↓g126_0, ↓g126_1, ↓g126_2, ↓g126_3, ↓g126_6, ↓g126_9, ↓g126_12, ↓g126_13, ↓g126_14, ↓g126_15, ↓g126_16, ↓g126_17, ↓g126_18, ↓g126_21, ↓g126_22, ↓g126_23, ↓g126_24, ↓g126_27, ↓g126_30, ↓g126_32, ↓g126_33, ↓g126_34, ↓g126_37, ↓g126_38, ↓g126_39, ↓g126_40, ↓g126_41, ↓g126_44, ↓g126_45, ↓g126_46, ↓g126_47, ↓g126_48, ↓g126_49, ↓g126_50, ↓g126_51, ↓g126_52, ↓g126_55, ↓g126_56, ↓g126_58, ↓g126_59, ↓g126_61, ↓g126_62, ↓g126_63, ↓g126_64, ↓g126_65, ↓g126_66, ↓g126_67, ↓g126_68, ↓g126_69, ↓g126_72, ↓g126_73, ↓g126_75, ↓g126_76, ↓g126_78, ↓g126_79, ↓g126_82, ↓g126_83, ↓g126_86, ↓g126_88, ↓g126_91, ↓g126_93, ↓g126_96, ↓g126_97, ↓g126_99, ↓g126_100, ↓g126_103, ↓g126_105, ↓g126_108, ↓g126_109, ↓g126_110, ↓g126_113, ↓g126_116, ↓g126_118, cl_99, cl_109, cl_123, cl_124, cl_125, cn_0, cn_1, cn_2, cn_3, cn_4, cn_5, cn_6, cn_7, cn_8, ↓Go_s, ↓GoC_a, ↓reduceIte, ↓mm_call_eq, ↓mmw_nil, ↓mmw_cons, List.take_succ_cons, List.take_zero, List.take_nil, List.drop_succ_cons, List.drop_zero, List.drop_nil, List.reverse_cons, List.reverse_nil, List.nil_append, List.cons_append, List.append_nil, Option.toList_some, Option.toList_none, Nat.sub_zero, Nat.le_refl, mmr_cons, mm_st1, mm_st2, mmi_nil, mmi_cons, mmc_I, mmc_L, mmc_R, mmu_get, mmu_one, mma_get, mma_one, List.filter_cons, List.filter_nil, List.contains_cons, List.contains_nil, Nat.reduceBEq, Nat.reduceAdd, Nat.reduceLT, Nat.reduceSub, Nat.reduceLeDiff, Nat.reduceEqDiff, Int32.reduceAdd, Bool.not_true, Bool.not_false, Bool.and_true, Bool.true_and, Bool.and_false, Bool.false_and, Bool.or_false, Bool.false_or, Bool.or_true, Bool.true_or, if_true, if_false, ite_true, ite_false, Bool.false_eq_true, List.getElem?_cons_zero, List.getElem?_cons_succ, List.length_cons, List.length_nil, true_and, and_true, List.set_cons_zero, List.set_cons_succ, Fin.isValue, Fin.val_zero, Fin.val_one, Fin.val_two, Fin.reduceFinMk, Nat.zero_add, hp_75, hp_76, hp_77, hp_78, hp_79, hp_80, hp_81, hp_82, hp_83, hp_84, hp_85, hp_86, hp_87, hp_88, hp_89, hp_90, hp_91, hp_92, hp_93, hp_94, hp_95, hp_96, hp_97, hp_98, og_75_0, og_75_1, og_75_2, og_75_3, og_75_4, og_75_5, og_75_6, og_75_7, og_75_8, og_75_9, og_75_10, og_75_11, og_75_12, og_75_13, og_75_14, og_75_15, og_75_16, og_75_17, og_75_18, og_75_19, og_75_20, og_75_21, og_75_22, og_75_23, og_75_24, og_75_25, og_75_26, og_75_27, og_75_28, og_75_29, og_75_30, og_75_31, og_75_32, og_75_33, og_75_34, og_75_35, og_75_36, og_75_37, og_75_38, og_75_39, og_75_40, og_75_41, ol_75, uo_75_4, uo_75_5, uo_75_6, uo_75_7, uo_75_11, uo_75_12, uo_75_13, uo_75_15, uo_75_19, uo_75_20, uo_75_21, uo_75_22, uo_75_23, uo_75_26, uo_75_30, uo_75_31, uo_75_32, uo_75_33, ua_76, ua_77, ua_78, ua_79, ua_80, ua_81, ua_82, ua_83, ua_84, ua_85, ua_86, ua_87, ua_88, ua_89, ua_90, ua_91, ua_92, ua_93, ua_94, ua_95, ua_96, ua_97, ua_98, sO_g, sA_g, sA_O, sO_A, sO_2, sM_1, sM_2, sM_3, sM_4, sM_5, sM_6, uc_75, hlen]
            rw [pk_div (by omega) h02 hp2, show (10 : Int32) = nI 10 from rfl, pk_rem hq2 (by omega) (by omega), show y' / 10 ^ (2 * r) % 10 = dg y' (2 * r) from rfl]
            refine ⟨nI_ne0 h02 hp2, nI_ne0 (by omega) (by omega), 0, 0, _, Nat.le_refl _, Nat.le_refl _, m_placeIn (d := d + 2) (L := 9) (f := f) (xs := xs) rfl (by omega) (by omega) hx hxs8 (hp.nd hnd) (show dg y' (2 * r + 1) < 2 ^ 31 by omega), fun z1 h' hz => ?_⟩
            obtain ⟨rfl, rfl⟩ := hz
            show WP (mm_rw mr_126) (some .int) tb (WM tb (d + 3)) _ _ [(0, vR 75), (1, vI (nI n)), (2, vI (nI y')), (3, vI (nI t)), (4, vI (nI (dg y' (2 * r + 1)))), (5, vI (nI (dg y' (2 * r))))] _ _ _ _
            by_cases hm : dg y' (2 * r + 1) ∈ xs
            · have hi := idx_lt hm
              have hg8 : tG xs (dg y' (2 * r + 1)) < 8 := hxs8 _ (tG_mem hm)
              rw [lPl_in hm]
              (try simp only [Option.toList_some, Option.toList_none, List.nil_append, List.append_nil, List.cons_append, Nat.sub_zero, Nat.sub_self, Nat.zero_sub]); refine Go.wp sp_126 200 ?_; simp only [↓g126_0, ↓g126_1, ↓g126_2, ↓g126_3, ↓g126_6, ↓g126_9, ↓g126_12, ↓g126_13, ↓g126_14, ↓g126_15, ↓g126_16, ↓g126_17, ↓g126_18, ↓g126_21, ↓g126_22, ↓g126_23, ↓g126_24, ↓g126_27, ↓g126_30, ↓g126_32, ↓g126_33, ↓g126_34, ↓g126_37, ↓g126_38, ↓g126_39, ↓g126_40, ↓g126_41, ↓g126_44, ↓g126_45, ↓g126_46, ↓g126_47, ↓g126_48, ↓g126_49, ↓g126_50, ↓g126_51, ↓g126_52, ↓g126_55, ↓g126_56, ↓g126_58, ↓g126_59, ↓g126_61, ↓g126_62, ↓g126_63, ↓g126_64, ↓g126_65, ↓g126_66, ↓g126_67, ↓g126_68, ↓g126_69, ↓g126_72, ↓g126_73, ↓g126_75, ↓g126_76, ↓g126_78, ↓g126_79, ↓g126_82, ↓g126_83, ↓g126_86, ↓g126_88, ↓g126_91, ↓g126_93, ↓g126_96, ↓g126_97, ↓g126_99, ↓g126_100, ↓g126_103, ↓g126_105, ↓g126_108, ↓g126_109, ↓g126_110, ↓g126_113, ↓g126_116, ↓g126_118, cl_99, cl_109, cl_123, cl_124, cl_125, cn_0, cn_1, cn_2, cn_3, cn_4, cn_5, cn_6, cn_7, cn_8, ↓Go_s, ↓GoC_a, ↓reduceIte, ↓mm_call_eq, ↓mmw_nil, ↓mmw_cons, List.take_succ_cons, List.take_zero, List.take_nil, List.drop_succ_cons, List.drop_zero, List.drop_nil, List.reverse_cons, List.reverse_nil, List.nil_append, List.cons_append, List.append_nil, Option.toList_some, Option.toList_none, Nat.sub_zero, Nat.le_refl, mmr_cons, mm_st1, mm_st2, mmi_nil, mmi_cons, mmc_I, mmc_L, mmc_R, mmu_get, mmu_one, mma_get, mma_one, List.filter_cons, List.filter_nil, List.contains_cons, List.contains_nil, Nat.reduceBEq, Nat.reduceAdd, Nat.reduceLT, Nat.reduceSub, Nat.reduceLeDiff, Nat.reduceEqDiff, Int32.reduceAdd, Bool.not_true, Bool.not_false, Bool.and_true, Bool.true_and, Bool.and_false, Bool.false_and, Bool.or_false, Bool.false_or, Bool.or_true, Bool.true_or, if_true, if_false, ite_true, ite_false, Bool.false_eq_true, List.getElem?_cons_zero, List.getElem?_cons_succ, List.length_cons, List.length_nil, true_and, and_true, List.set_cons_zero, List.set_cons_succ, Fin.isValue, Fin.val_zero, Fin.val_one, Fin.val_two, Fin.reduceFinMk, Nat.zero_add, hp_75, hp_76, hp_77, hp_78, hp_79, hp_80, hp_81, hp_82, hp_83, hp_84, hp_85, hp_86, hp_87, hp_88, hp_89, hp_90, hp_91, hp_92, hp_93, hp_94, hp_95, hp_96, hp_97, hp_98, og_75_0, og_75_1, og_75_2, og_75_3, og_75_4, og_75_5, og_75_6, og_75_7, og_75_8, og_75_9, og_75_10, og_75_11, og_75_12, og_75_13, og_75_14, og_75_15, og_75_16, og_75_17, og_75_18, og_75_19, og_75_20, og_75_21, og_75_22, og_75_23, og_75_24, og_75_25, og_75_26, og_75_27, og_75_28, og_75_29, og_75_30, og_75_31, og_75_32, og_75_33, og_75_34, og_75_35, og_75_36, og_75_37, og_75_38, og_75_39, og_75_40, og_75_41, ol_75, uo_75_4, uo_75_5, uo_75_6, uo_75_7, uo_75_11, uo_75_12, uo_75_13, uo_75_15, uo_75_19, uo_75_20, uo_75_21, uo_75_22, uo_75_23, uo_75_26, uo_75_30, uo_75_31, uo_75_32, uo_75_33, ua_76, ua_77, ua_78, ua_79, ua_80, ua_81, ua_82, ua_83, ua_84, ua_85, ua_86, ua_87, ua_88, ua_89, ua_90, ua_91, ua_92, ua_93, ua_94, ua_95, ua_96, ua_97, ua_98, sO_g, sA_g, sA_O, sO_A, sO_2, sM_1, sM_2, sM_3, sM_4, sM_5, sM_6, uc_75, hlen]
              rw [nu_m (by omega) (by omega) (by omega)]
              refine ⟨fun c => c.elim, fun _ => ⟨0, 0, _, Nat.le_refl _, Nat.le_refl _, m_trip (d := d) (e := 0) (s := sU s f (gDk g).1.length) hx hlen hxs8 (hp.nd hnd) hxl h3' hlw hm (by omega), fun z1 h' hz => ?_⟩⟩
              obtain ⟨rfl, f', rfl, hx'⟩ := hz
              rw [if_neg (by omega)] at hx'
              rw [sU_sA]
              (try simp only [Option.toList_some, Option.toList_none, List.nil_append, List.append_nil, List.cons_append, Nat.sub_zero, Nat.sub_self, Nat.zero_sub]); refine Go.wp sp_126 200 ?_; simp only [↓g126_0, ↓g126_1, ↓g126_2, ↓g126_3, ↓g126_6, ↓g126_9, ↓g126_12, ↓g126_13, ↓g126_14, ↓g126_15, ↓g126_16, ↓g126_17, ↓g126_18, ↓g126_21, ↓g126_22, ↓g126_23, ↓g126_24, ↓g126_27, ↓g126_30, ↓g126_32, ↓g126_33, ↓g126_34, ↓g126_37, ↓g126_38, ↓g126_39, ↓g126_40, ↓g126_41, ↓g126_44, ↓g126_45, ↓g126_46, ↓g126_47, ↓g126_48, ↓g126_49, ↓g126_50, ↓g126_51, ↓g126_52, ↓g126_55, ↓g126_56, ↓g126_58, ↓g126_59, ↓g126_61, ↓g126_62, ↓g126_63, ↓g126_64, ↓g126_65, ↓g126_66, ↓g126_67, ↓g126_68, ↓g126_69, ↓g126_72, ↓g126_73, ↓g126_75, ↓g126_76, ↓g126_78, ↓g126_79, ↓g126_82, ↓g126_83, ↓g126_86, ↓g126_88, ↓g126_91, ↓g126_93, ↓g126_96, ↓g126_97, ↓g126_99, ↓g126_100, ↓g126_103, ↓g126_105, ↓g126_108, ↓g126_109, ↓g126_110, ↓g126_113, ↓g126_116, ↓g126_118, cl_99, cl_109, cl_123, cl_124, cl_125, cn_0, cn_1, cn_2, cn_3, cn_4, cn_5, cn_6, cn_7, cn_8, ↓Go_s, ↓GoC_a, ↓reduceIte, ↓mm_call_eq, ↓mmw_nil, ↓mmw_cons, List.take_succ_cons, List.take_zero, List.take_nil, List.drop_succ_cons, List.drop_zero, List.drop_nil, List.reverse_cons, List.reverse_nil, List.nil_append, List.cons_append, List.append_nil, Option.toList_some, Option.toList_none, Nat.sub_zero, Nat.le_refl, mmr_cons, mm_st1, mm_st2, mmi_nil, mmi_cons, mmc_I, mmc_L, mmc_R, mmu_get, mmu_one, mma_get, mma_one, List.filter_cons, List.filter_nil, List.contains_cons, List.contains_nil, Nat.reduceBEq, Nat.reduceAdd, Nat.reduceLT, Nat.reduceSub, Nat.reduceLeDiff, Nat.reduceEqDiff, Int32.reduceAdd, Bool.not_true, Bool.not_false, Bool.and_true, Bool.true_and, Bool.and_false, Bool.false_and, Bool.or_false, Bool.false_or, Bool.or_true, Bool.true_or, if_true, if_false, ite_true, ite_false, Bool.false_eq_true, List.getElem?_cons_zero, List.getElem?_cons_succ, List.length_cons, List.length_nil, true_and, and_true, List.set_cons_zero, List.set_cons_succ, Fin.isValue, Fin.val_zero, Fin.val_one, Fin.val_two, Fin.reduceFinMk, Nat.zero_add, hp_75, hp_76, hp_77, hp_78, hp_79, hp_80, hp_81, hp_82, hp_83, hp_84, hp_85, hp_86, hp_87, hp_88, hp_89, hp_90, hp_91, hp_92, hp_93, hp_94, hp_95, hp_96, hp_97, hp_98, og_75_0, og_75_1, og_75_2, og_75_3, og_75_4, og_75_5, og_75_6, og_75_7, og_75_8, og_75_9, og_75_10, og_75_11, og_75_12, og_75_13, og_75_14, og_75_15, og_75_16, og_75_17, og_75_18, og_75_19, og_75_20, og_75_21, og_75_22, og_75_23, og_75_24, og_75_25, og_75_26, og_75_27, og_75_28, og_75_29, og_75_30, og_75_31, og_75_32, og_75_33, og_75_34, og_75_35, og_75_36, og_75_37, og_75_38, og_75_39, og_75_40, og_75_41, ol_75, uo_75_4, uo_75_5, uo_75_6, uo_75_7, uo_75_11, uo_75_12, uo_75_13, uo_75_15, uo_75_19, uo_75_20, uo_75_21, uo_75_22, uo_75_23, uo_75_26, uo_75_30, uo_75_31, uo_75_32, uo_75_33, ua_76, ua_77, ua_78, ua_79, ua_80, ua_81, ua_82, ua_83, ua_84, ua_85, ua_86, ua_87, ua_88, ua_89, ua_90, ua_91, ua_92, ua_93, ua_94, ua_95, ua_96, ua_97, ua_98, sO_g, sA_g, sA_O, sO_A, sO_2, sM_1, sM_2, sM_3, sM_4, sM_5, sM_6, uc_75]
              rw [nI_1, nI_eq (by omega) (by omega)]
              refine ⟨fun c => WP.drop (lv' := [(0, vR 75), (1, vI (nI n)), (2, vI (nI y')), (3, vI (nI (t + 1)))]) (by simp) (ih (t + 1) f' _ (by omega) (hp.tX _ hm) hx' ?_), fun c => ⟨?_, _, rfl, hM0.sU _ _, agC.sU _ _⟩⟩
              · rw [ha]
                show (if _ then _ else _) = _
                rw [if_pos ⟨hm, c⟩]
              · rw [ha]
                show _ = some (vI (if _ then _ else _))
                rw [if_neg (fun q => c q.2)]
            · rw [lPl_out hm]
              (try simp only [Option.toList_some, Option.toList_none, List.nil_append, List.append_nil, List.cons_append, Nat.sub_zero, Nat.sub_self, Nat.zero_sub]); refine Go.wp sp_126 200 ?_; simp only [↓g126_0, ↓g126_1, ↓g126_2, ↓g126_3, ↓g126_6, ↓g126_9, ↓g126_12, ↓g126_13, ↓g126_14, ↓g126_15, ↓g126_16, ↓g126_17, ↓g126_18, ↓g126_21, ↓g126_22, ↓g126_23, ↓g126_24, ↓g126_27, ↓g126_30, ↓g126_32, ↓g126_33, ↓g126_34, ↓g126_37, ↓g126_38, ↓g126_39, ↓g126_40, ↓g126_41, ↓g126_44, ↓g126_45, ↓g126_46, ↓g126_47, ↓g126_48, ↓g126_49, ↓g126_50, ↓g126_51, ↓g126_52, ↓g126_55, ↓g126_56, ↓g126_58, ↓g126_59, ↓g126_61, ↓g126_62, ↓g126_63, ↓g126_64, ↓g126_65, ↓g126_66, ↓g126_67, ↓g126_68, ↓g126_69, ↓g126_72, ↓g126_73, ↓g126_75, ↓g126_76, ↓g126_78, ↓g126_79, ↓g126_82, ↓g126_83, ↓g126_86, ↓g126_88, ↓g126_91, ↓g126_93, ↓g126_96, ↓g126_97, ↓g126_99, ↓g126_100, ↓g126_103, ↓g126_105, ↓g126_108, ↓g126_109, ↓g126_110, ↓g126_113, ↓g126_116, ↓g126_118, cl_99, cl_109, cl_123, cl_124, cl_125, cn_0, cn_1, cn_2, cn_3, cn_4, cn_5, cn_6, cn_7, cn_8, ↓Go_s, ↓GoC_a, ↓reduceIte, ↓mm_call_eq, ↓mmw_nil, ↓mmw_cons, List.take_succ_cons, List.take_zero, List.take_nil, List.drop_succ_cons, List.drop_zero, List.drop_nil, List.reverse_cons, List.reverse_nil, List.nil_append, List.cons_append, List.append_nil, Option.toList_some, Option.toList_none, Nat.sub_zero, Nat.le_refl, mmr_cons, mm_st1, mm_st2, mmi_nil, mmi_cons, mmc_I, mmc_L, mmc_R, mmu_get, mmu_one, mma_get, mma_one, List.filter_cons, List.filter_nil, List.contains_cons, List.contains_nil, Nat.reduceBEq, Nat.reduceAdd, Nat.reduceLT, Nat.reduceSub, Nat.reduceLeDiff, Nat.reduceEqDiff, Int32.reduceAdd, Bool.not_true, Bool.not_false, Bool.and_true, Bool.true_and, Bool.and_false, Bool.false_and, Bool.or_false, Bool.false_or, Bool.or_true, Bool.true_or, if_true, if_false, ite_true, ite_false, Bool.false_eq_true, List.getElem?_cons_zero, List.getElem?_cons_succ, List.length_cons, List.length_nil, true_and, and_true, List.set_cons_zero, List.set_cons_succ, Fin.isValue, Fin.val_zero, Fin.val_one, Fin.val_two, Fin.reduceFinMk, Nat.zero_add, hp_75, hp_76, hp_77, hp_78, hp_79, hp_80, hp_81, hp_82, hp_83, hp_84, hp_85, hp_86, hp_87, hp_88, hp_89, hp_90, hp_91, hp_92, hp_93, hp_94, hp_95, hp_96, hp_97, hp_98, og_75_0, og_75_1, og_75_2, og_75_3, og_75_4, og_75_5, og_75_6, og_75_7, og_75_8, og_75_9, og_75_10, og_75_11, og_75_12, og_75_13, og_75_14, og_75_15, og_75_16, og_75_17, og_75_18, og_75_19, og_75_20, og_75_21, og_75_22, og_75_23, og_75_24, og_75_25, og_75_26, og_75_27, og_75_28, og_75_29, og_75_30, og_75_31, og_75_32, og_75_33, og_75_34, og_75_35, og_75_36, og_75_37, og_75_38, og_75_39, og_75_40, og_75_41, ol_75, uo_75_4, uo_75_5, uo_75_6, uo_75_7, uo_75_11, uo_75_12, uo_75_13, uo_75_15, uo_75_19, uo_75_20, uo_75_21, uo_75_22, uo_75_23, uo_75_26, uo_75_30, uo_75_31, uo_75_32, uo_75_33, ua_76, ua_77, ua_78, ua_79, ua_80, ua_81, ua_82, ua_83, ua_84, ua_85, ua_86, ua_87, ua_88, ua_89, ua_90, ua_91, ua_92, ua_93, ua_94, ua_95, ua_96, ua_97, ua_98, sO_g, sA_g, sA_O, sO_A, sO_2, sM_1, sM_2, sM_3, sM_4, sM_5, sM_6, uc_75, hlen]
              refine ⟨fun _ => ⟨?_, _, rfl, hM0.sU _ _, agC.sU _ _⟩, fun c => absurd trivial c⟩
              rw [ha]
              show _ = some (vI (if _ then _ else _))
              rw [if_neg (fun q => hm q.1)]
        (try simp only [Option.toList_some, Option.toList_none, List.nil_append, List.append_nil, List.cons_append, Nat.sub_zero, Nat.sub_self, Nat.zero_sub]); refine Go.wp sp_126 200 ?_; simp only [↓g126_0, ↓g126_1, ↓g126_2, ↓g126_3, ↓g126_6, ↓g126_9, ↓g126_12, ↓g126_13, ↓g126_14, ↓g126_15, ↓g126_16, ↓g126_17, ↓g126_18, ↓g126_21, ↓g126_22, ↓g126_23, ↓g126_24, ↓g126_27, ↓g126_30, ↓g126_32, ↓g126_33, ↓g126_34, ↓g126_37, ↓g126_38, ↓g126_39, ↓g126_40, ↓g126_41, ↓g126_44, ↓g126_45, ↓g126_46, ↓g126_47, ↓g126_48, ↓g126_49, ↓g126_50, ↓g126_51, ↓g126_52, ↓g126_55, ↓g126_56, ↓g126_58, ↓g126_59, ↓g126_61, ↓g126_62, ↓g126_63, ↓g126_64, ↓g126_65, ↓g126_66, ↓g126_67, ↓g126_68, ↓g126_69, ↓g126_72, ↓g126_73, ↓g126_75, ↓g126_76, ↓g126_78, ↓g126_79, ↓g126_82, ↓g126_83, ↓g126_86, ↓g126_88, ↓g126_91, ↓g126_93, ↓g126_96, ↓g126_97, ↓g126_99, ↓g126_100, ↓g126_103, ↓g126_105, ↓g126_108, ↓g126_109, ↓g126_110, ↓g126_113, ↓g126_116, ↓g126_118, cl_99, cl_109, cl_123, cl_124, cl_125, cn_0, cn_1, cn_2, cn_3, cn_4, cn_5, cn_6, cn_7, cn_8, ↓Go_s, ↓GoC_a, ↓reduceIte, ↓mm_call_eq, ↓mmw_nil, ↓mmw_cons, List.take_succ_cons, List.take_zero, List.take_nil, List.drop_succ_cons, List.drop_zero, List.drop_nil, List.reverse_cons, List.reverse_nil, List.nil_append, List.cons_append, List.append_nil, Option.toList_some, Option.toList_none, Nat.sub_zero, Nat.le_refl, mmr_cons, mm_st1, mm_st2, mmi_nil, mmi_cons, mmc_I, mmc_L, mmc_R, mmu_get, mmu_one, mma_get, mma_one, List.filter_cons, List.filter_nil, List.contains_cons, List.contains_nil, Nat.reduceBEq, Nat.reduceAdd, Nat.reduceLT, Nat.reduceSub, Nat.reduceLeDiff, Nat.reduceEqDiff, Int32.reduceAdd, Bool.not_true, Bool.not_false, Bool.and_true, Bool.true_and, Bool.and_false, Bool.false_and, Bool.or_false, Bool.false_or, Bool.or_true, Bool.true_or, if_true, if_false, ite_true, ite_false, Bool.false_eq_true, List.getElem?_cons_zero, List.getElem?_cons_succ, List.length_cons, List.length_nil, true_and, and_true, List.set_cons_zero, List.set_cons_succ, Fin.isValue, Fin.val_zero, Fin.val_one, Fin.val_two, Fin.reduceFinMk, Nat.zero_add, hp_75, hp_76, hp_77, hp_78, hp_79, hp_80, hp_81, hp_82, hp_83, hp_84, hp_85, hp_86, hp_87, hp_88, hp_89, hp_90, hp_91, hp_92, hp_93, hp_94, hp_95, hp_96, hp_97, hp_98, og_75_0, og_75_1, og_75_2, og_75_3, og_75_4, og_75_5, og_75_6, og_75_7, og_75_8, og_75_9, og_75_10, og_75_11, og_75_12, og_75_13, og_75_14, og_75_15, og_75_16, og_75_17, og_75_18, og_75_19, og_75_20, og_75_21, og_75_22, og_75_23, og_75_24, og_75_25, og_75_26, og_75_27, og_75_28, og_75_29, og_75_30, og_75_31, og_75_32, og_75_33, og_75_34, og_75_35, og_75_36, og_75_37, og_75_38, og_75_39, og_75_40, og_75_41, ol_75, uo_75_4, uo_75_5, uo_75_6, uo_75_7, uo_75_11, uo_75_12, uo_75_13, uo_75_15, uo_75_19, uo_75_20, uo_75_21, uo_75_22, uo_75_23, uo_75_26, uo_75_30, uo_75_31, uo_75_32, uo_75_33, ua_76, ua_77, ua_78, ua_79, ua_80, ua_81, ua_82, ua_83, ua_84, ua_85, ua_86, ua_87, ua_88, ua_89, ua_90, ua_91, ua_92, ua_93, ua_94, ua_95, ua_96, ua_97, ua_98, sO_g, sA_g, sA_O, sO_A, sO_2, sM_1, sM_2, sM_3, sM_4, sM_5, sM_6, uc_75]
        exact key n 0 f0 _ rfl Rk.rf hr0 rfl
end OPS4
