/-! write -/
def wB (v : Int64) (n i : Nat) : Nat := uN v / 2 ^ (8 * (n - 1 - i)) % 256
theorem wB_lt (v : Int64) (n i : Nat) : wB v n i < 256 := Nat.mod_lt _ (by omega)
def wBs (v : Int64) (n : Nat) : List Nat := (List.range n).map (wB v n)
theorem wBs_len (v : Int64) (n : Nat) : (wBs v n).length = n := by unfold wBs; rw [List.length_map, List.length_range]
theorem wBs_get (v : Int64) {n i : Nat} (h : i < n) : (wBs v n).getD i 0 = wB v n i := by
  unfold wBs
  rw [List.getD_eq_getElem?_getD, List.getElem?_map, List.getElem?_range h]
  rfl
theorem s64 : ∀ k, k < 64 → (((nI k).toInt64 &&& 63).toBitVec.smod 64).toNat = k := by decide +kernel
theorem sar255 (x : Int64) {k : Nat} (hk : k ≤ 56) : (x >>> ((nI k).toInt64 &&& 63)) &&& 255 = lN (uN x / 2 ^ k % 256) := by
  refine Int64.toBitVec_inj.mp (BitVec.eq_of_getLsbD_eq (fun i hi => ?_))
  rw [Int64.toBitVec_and, BitVec.getLsbD_and, Int64.toBitVec_shiftRight]
  show ((x.toBitVec.sshiftRight (((nI k).toInt64 &&& 63).toBitVec.smod 64).toNat).getLsbD i && (255#64).getLsbD i) = (BitVec.ofNat 64 (uN x / 2 ^ k % 256)).getLsbD i
  rw [s64 k (by omega), BitVec.getLsbD_sshiftRight, BitVec.getLsbD_ofNat, BitVec.getLsbD_ofNat, show 256 = 2 ^ 8 from rfl, Nat.testBit_mod_two_pow, Nat.testBit_div_two_pow, show (255 : Nat) = 2 ^ 8 - 1 from rfl, Nat.testBit_two_pow_sub_one]
  by_cases h8 : i < 8
  · rw [if_pos (show k + i < 64 by omega), decide_eq_true h8, decide_eq_true hi, Nat.add_comm k i]
    show (!decide (64 ≤ i) && (uN x).testBit (i + k) && (true && true)) = (true && (true && (uN x).testBit (i + k)))
    rw [decide_eq_false (by omega)]
    cases (uN x).testBit (i + k) <;> rfl
  · rw [decide_eq_false h8]
    cases h : decide (i < 64) <;> simp
theorem nar8 (y : Int64) : vp_nar .byte y.toInt32.toInt8.toInt32 = (nI (uN y % 256)).toInt8.toInt32 := by
  show (y.toInt32.toInt8.toInt32.toInt8).toInt32 = _
  rw [Int8.toInt8_toInt32]
  congr 1
  refine Int8.toBitVec_inj.mp (BitVec.eq_of_getLsbD_eq (fun i hi => ?_))
  rw [Int32.toBitVec_toInt8, Int32.toBitVec_toInt8, Int64.toBitVec_toInt32, BitVec.getLsbD_signExtend, BitVec.getLsbD_signExtend, BitVec.getLsbD_signExtend, decide_eq_true hi, if_pos (by omega), if_pos (by omega), if_pos (by omega), decide_eq_true (show i < 32 by omega)]
  show (true && (true && (uN y).testBit i)) = (true && (BitVec.ofNat 32 (uN y % 256)).getLsbD i)
  rw [BitVec.getLsbD_ofNat, show 256 = 2 ^ 8 from rfl, Nat.testBit_mod_two_pow, decide_eq_true hi, decide_eq_true (show i < 32 by omega)]
  rfl
theorem rg_no {n : Nat} (hn : n < 2 ^ 31 - 1) {y : Int32} (h : y < 1 ∨ nI n < y) : (isB y (n + 1) && !decide (y = 0)) = false := by
  cases hb : isB y (n + 1)
  · rfl
  · obtain ⟨m, hm, rfl⟩ := isB_t (by omega) hb
    rw [show (1 : Int32) = nI 1 from rfl, nI_ltI (by omega) (by omega), nI_ltI (by omega) (by omega)] at h
    rw [show m = 0 by omega, decide_eq_true (show nI 0 = 0 from rfl)]
    rfl
theorem rg_ok {n : Nat} (hn : n < 2 ^ 31 - 1) {y : Int32} (h1 : ¬ y < 1) (h2 : ¬ nI n < y) : ∃ m, 1 ≤ m ∧ m ≤ n ∧ y = nI m ∧ (isB y (n + 1) && !decide (y = 0)) = true := by
  have c : ¬ y < 0 := fun z => h1 (by
    have := Int32.lt_iff_toInt_lt.mp z
    have e0 : (0 : Int32).toInt = 0 := by decide
    have e1 : (1 : Int32).toInt = 1 := by decide
    exact Int32.lt_iff_toInt_lt.mpr (by omega))
  obtain ⟨m, hm, rfl⟩ := nI_of c
  rw [show (1 : Int32) = nI 1 from rfl, nI_ltI hm (by omega)] at h1
  rw [nI_ltI (by omega) hm] at h2
  refine ⟨m, by omega, by omega, rfl, ?_⟩
  rw [isB_nI hm (by omega), decide_eq_true (show m < n + 1 by omega), decide_eq_false (by rw [show (0 : Int32) = nI 0 from rfl, nI_eq (by omega) (by omega)]; omega)]
  rfl
theorem sA_sO (s : MM) (k j i : Nat) (x : Int32) (f : Nat → Int32) : sA (sO s k j x) i f = sO (sA s i f) k j x := rfl
theorem sO_sO (s : MM) (k j : Nat) (x y : Int32) : sO (sO s k j x) k j y = sO s k j y := by
  refine Prod.ext rfl (Prod.ext (funext fun i => ?_) rfl)
  unfold sO va_up
  dsimp only
  split
  · rw [if_pos rfl, upd_upd]
  · rfl
theorem sO_id (s : MM) (k j : Nat) : sO s k j (s.2.1 k j) = s := by
  refine Prod.ext rfl (Prod.ext (funext fun i => ?_) rfl)
  unfold sO va_up
  dsimp only
  split
  · rename_i e
    rw [e]
    funext q
    unfold upd
    split
    · rename_i e2
      rw [e2]
    · rfl
  · rfl
def aWrite (g : SG) (x : Int32) (v : Int64) : Int32 × SG := if (isB x 9 && !decide (x = 0)) = true then (if (gTx g).length + x.toNatClampNeg ≤ 40 then (nI ((gTx g).length + x.toNatClampNeg), (gTx g ++ wBs v x.toNatClampNeg, g.2)) else (mI 4, g)) else (mI 2, g)
abbrev sp_55 : List Nat := [31]
section G55
variable {tb : Nat → Nat × (Nat → Int32)} {call : CO} {Q : AQ} {C : CP} {lv : AL} {st : List AV} {h : AH} {kc ks : Nat}
theorem g55_0  : mm_step (mm_rw mr_55) (some .int) tb call Q C 0 lv st h kc ks = (match mm_rd lv 1 with
    | some (.inl a) => C 1 lv (vI a :: st) h kc ks
    | _ => False) := rfl
theorem g55_1  : mm_step (mm_rw mr_55) (some .int) tb call Q C 1 lv st h kc ks = (C 2 lv (vI 1 :: st) h kc ks) := rfl
theorem g55_2 (a b : Int32) : mm_step (mm_rw mr_55) (some .int) tb call Q C 2 lv (.inl b :: .inl a :: st) h kc ks = ((a < b → C 11 lv st h kc ks) ∧ (¬ a < b → C 5 lv st h kc ks)) := rfl
theorem g55_5  : mm_step (mm_rw mr_55) (some .int) tb call Q C 5 lv st h kc ks = (match mm_rd lv 1 with
    | some (.inl a) => C 6 lv (vI a :: st) h kc ks
    | _ => False) := rfl
theorem g55_6  : mm_step (mm_rw mr_55) (some .int) tb call Q C 6 lv st h kc ks = (C 8 lv (vI 8 :: st) h kc ks) := rfl
theorem g55_8 (a b : Int32) : mm_step (mm_rw mr_55) (some .int) tb call Q C 8 lv (.inl b :: .inl a :: st) h kc ks = ((a ≤ b → C 14 lv st h kc ks) ∧ (¬ a ≤ b → C 11 lv st h kc ks)) := rfl
theorem g55_11  : mm_step (mm_rw mr_55) (some .int) tb call Q C 11 lv st h kc ks = (C 13 lv (vI (mI 2) :: st) h kc ks) := rfl
theorem g55_13 (v : Int32) : mm_step (mm_rw mr_55) (some .int) tb call Q C 13 lv [.inl v] h kc ks = (True ∧ Q (some (vI v)) h) := rfl
theorem g55_14  : mm_step (mm_rw mr_55) (some .int) tb call Q C 14 lv st h kc ks = (match mm_rd lv 0 with
    | some (.inr (.inr (.inl (some k)))) => C 15 lv (vR k :: st) h kc ks
    | some (.inr (.inr (.inr t))) => C 15 lv (vT t :: st) h kc ks
    | _ => False) := rfl
theorem g55_15 (k : Nat) : mm_step (mm_rw mr_55) (some .int) tb call Q C 15 lv (.inr (.inr (.inl (some k))) :: st) h kc ks = (match h.2 k with
    | some (.inr (.inr (ci, fs))) => ci = 7 ∧ (match fs[1]? with
      | some v => C 18 lv (v :: st) h kc ks
      | none => False)
    | _ => False) := rfl
theorem g55_18  : mm_step (mm_rw mr_55) (some .int) tb call Q C 18 lv st h kc ks = (match mm_rd lv 1 with
    | some (.inl a) => C 19 lv (vI a :: st) h kc ks
    | _ => False) := rfl
theorem g55_19 (a b : Int32) : mm_step (mm_rw mr_55) (some .int) tb call Q C 19 lv (.inl b :: .inl a :: st) h kc ks = (C 20 lv (vI (a + b) :: st) h kc ks) := rfl
theorem g55_20  : mm_step (mm_rw mr_55) (some .int) tb call Q C 20 lv st h kc ks = (C 22 lv (vI 40 :: st) h kc ks) := rfl
theorem g55_22 (a b : Int32) : mm_step (mm_rw mr_55) (some .int) tb call Q C 22 lv (.inl b :: .inl a :: st) h kc ks = ((a ≤ b → C 28 lv st h kc ks) ∧ (¬ a ≤ b → C 25 lv st h kc ks)) := rfl
theorem g55_25  : mm_step (mm_rw mr_55) (some .int) tb call Q C 25 lv st h kc ks = (C 27 lv (vI (mI 4) :: st) h kc ks) := rfl
theorem g55_27 (v : Int32) : mm_step (mm_rw mr_55) (some .int) tb call Q C 27 lv [.inl v] h kc ks = (True ∧ Q (some (vI v)) h) := rfl
theorem g55_28  : mm_step (mm_rw mr_55) (some .int) tb call Q C 28 lv st h kc ks = (C 29 lv (vI 0 :: st) h kc ks) := rfl
theorem g55_29 (a : Int32) : mm_step (mm_rw mr_55) (some .int) tb call Q C 29 lv (.inl a :: st) h kc ks = (C 31 (mm_st1 lv 4 (vI a)) st h kc ks) := rfl
theorem g55_31  : mm_step (mm_rw mr_55) (some .int) tb call Q C 31 lv st h kc ks = (match mm_rd lv 4 with
    | some (.inl a) => C 33 lv (vI a :: st) h kc ks
    | _ => False) := rfl
theorem g55_33  : mm_step (mm_rw mr_55) (some .int) tb call Q C 33 lv st h kc ks = (match mm_rd lv 1 with
    | some (.inl a) => C 34 lv (vI a :: st) h kc ks
    | _ => False) := rfl
theorem g55_34 (a b : Int32) : mm_step (mm_rw mr_55) (some .int) tb call Q C 34 lv (.inl b :: .inl a :: st) h kc ks = ((b ≤ a → C 68 lv st h kc ks) ∧ (¬ b ≤ a → C 37 lv st h kc ks)) := rfl
theorem g55_37  : mm_step (mm_rw mr_55) (some .int) tb call Q C 37 lv st h kc ks = (match mm_rd lv 0 with
    | some (.inr (.inr (.inl (some k)))) => C 38 lv (vR k :: st) h kc ks
    | some (.inr (.inr (.inr t))) => C 38 lv (vT t :: st) h kc ks
    | _ => False) := rfl
theorem g55_38 (k : Nat) : mm_step (mm_rw mr_55) (some .int) tb call Q C 38 lv (.inr (.inr (.inl (some k))) :: st) h kc ks = (match h.2 k with
    | some (.inr (.inr (ci, fs))) => ci = 7 ∧ (match fs[0]? with
      | some v => C 41 lv (v :: st) h kc ks
      | none => False)
    | _ => False) := rfl
theorem g55_41  : mm_step (mm_rw mr_55) (some .int) tb call Q C 41 lv st h kc ks = (match mm_rd lv 0 with
    | some (.inr (.inr (.inl (some k)))) => C 42 lv (vR k :: st) h kc ks
    | some (.inr (.inr (.inr t))) => C 42 lv (vT t :: st) h kc ks
    | _ => False) := rfl
theorem g55_42 (k : Nat) : mm_step (mm_rw mr_55) (some .int) tb call Q C 42 lv (.inr (.inr (.inl (some k))) :: st) h kc ks = (match h.2 k with
    | some (.inr (.inr (ci, fs))) => ci = 7 ∧ (match fs[1]? with
      | some v => C 45 lv (v :: st) h kc ks
      | none => False)
    | _ => False) := rfl
theorem g55_45  : mm_step (mm_rw mr_55) (some .int) tb call Q C 45 lv st h kc ks = (match mm_rd lv 4 with
    | some (.inl a) => C 47 lv (vI a :: st) h kc ks
    | _ => False) := rfl
theorem g55_47 (a b : Int32) : mm_step (mm_rw mr_55) (some .int) tb call Q C 47 lv (.inl b :: .inl a :: st) h kc ks = (C 48 lv (vI (a + b) :: st) h kc ks) := rfl
theorem g55_48  : mm_step (mm_rw mr_55) (some .int) tb call Q C 48 lv st h kc ks = (match mm_rd lv 2 with
    | some (.inr (.inl a)) => C 49 lv (vL a :: st) h kc ks
    | _ => False) := rfl
theorem g55_49  : mm_step (mm_rw mr_55) (some .int) tb call Q C 49 lv st h kc ks = (C 51 lv (vI 8 :: st) h kc ks) := rfl
theorem g55_51  : mm_step (mm_rw mr_55) (some .int) tb call Q C 51 lv st h kc ks = (match mm_rd lv 1 with
    | some (.inl a) => C 52 lv (vI a :: st) h kc ks
    | _ => False) := rfl
theorem g55_52  : mm_step (mm_rw mr_55) (some .int) tb call Q C 52 lv st h kc ks = (C 53 lv (vI 1 :: st) h kc ks) := rfl
theorem g55_53 (a b : Int32) : mm_step (mm_rw mr_55) (some .int) tb call Q C 53 lv (.inl b :: .inl a :: st) h kc ks = (C 54 lv (vI (a - b) :: st) h kc ks) := rfl
theorem g55_54  : mm_step (mm_rw mr_55) (some .int) tb call Q C 54 lv st h kc ks = (match mm_rd lv 4 with
    | some (.inl a) => C 56 lv (vI a :: st) h kc ks
    | _ => False) := rfl
theorem g55_56 (a b : Int32) : mm_step (mm_rw mr_55) (some .int) tb call Q C 56 lv (.inl b :: .inl a :: st) h kc ks = (C 57 lv (vI (a - b) :: st) h kc ks) := rfl
theorem g55_57 (a b : Int32) : mm_step (mm_rw mr_55) (some .int) tb call Q C 57 lv (.inl b :: .inl a :: st) h kc ks = (C 58 lv (vI (a * b) :: st) h kc ks) := rfl
theorem g55_58 (a : Int64) (b : Int32) : mm_step (mm_rw mr_55) (some .int) tb call Q C 58 lv (.inl b :: .inr (.inl a) :: st) h kc ks = (C 59 lv (vL ((a.toUInt64 >>> (b.toInt64.toUInt64 &&& Int64.toUInt64 63)).toInt64) :: st) h kc ks) := rfl
theorem g55_59 (a : Int64) : mm_step (mm_rw mr_55) (some .int) tb call Q C 59 lv (.inr (.inl a) :: st) h kc ks = (C 60 lv (vI a.toInt32 :: st) h kc ks) := rfl
theorem g55_60 (a : Int32) : mm_step (mm_rw mr_55) (some .int) tb call Q C 60 lv (.inl a :: st) h kc ks = (C 61 lv (vI a.toInt8.toInt32 :: st) h kc ks) := rfl
theorem g55_61 (v i : Int32) (k : Nat) : mm_step (mm_rw mr_55) (some .int) tb call Q C 61 lv (.inl v :: .inl i :: .inr (.inr (.inl (some k))) :: st) h kc ks = (match h.2 k with
    | some (.inl (.byte, n, f)) => vp_in i n ∧ C 62 lv st (mm_up h k (.inl (.byte, n, upd f i.toNatClampNeg (vp_nar .byte v)))) kc ks
    | some (.inl (.boolean, n, f)) => vp_in i n ∧ C 62 lv st (mm_up h k (.inl (.boolean, n, upd f i.toNatClampNeg (vp_nar .boolean v)))) kc ks
    | _ => False) := rfl
theorem g55_62  : mm_step (mm_rw mr_55) (some .int) tb call Q C 62 lv st h kc ks = (match mm_rd lv 4 with
    | some (.inl a) => C 65 (mm_st1 lv 4 (vI (a + 1))) st h kc ks
    | _ => False) := rfl
theorem g55_65  : mm_step (mm_rw mr_55) (some .int) tb call Q C 65 lv st h kc ks = (C 31 lv st h kc ks) := rfl
theorem g55_68  : mm_step (mm_rw mr_55) (some .int) tb call Q C 68 lv st h kc ks = (match mm_rd lv 0 with
    | some (.inr (.inr (.inl (some k)))) => C 69 lv (vR k :: st) h kc ks
    | some (.inr (.inr (.inr t))) => C 69 lv (vT t :: st) h kc ks
    | _ => False) := rfl
theorem g55_69 (v : AV) : mm_step (mm_rw mr_55) (some .int) tb call Q C 69 lv (v :: st) h kc ks = (mm_c2 v = false ∧ C 70 lv (v :: v :: st) h kc ks) := rfl
theorem g55_70 (k : Nat) : mm_step (mm_rw mr_55) (some .int) tb call Q C 70 lv (.inr (.inr (.inl (some k))) :: st) h kc ks = (match h.2 k with
    | some (.inr (.inr (ci, fs))) => ci = 7 ∧ (match fs[1]? with
      | some v => C 73 lv (v :: st) h kc ks
      | none => False)
    | _ => False) := rfl
theorem g55_73  : mm_step (mm_rw mr_55) (some .int) tb call Q C 73 lv st h kc ks = (match mm_rd lv 1 with
    | some (.inl a) => C 74 lv (vI a :: st) h kc ks
    | _ => False) := rfl
theorem g55_74 (a b : Int32) : mm_step (mm_rw mr_55) (some .int) tb call Q C 74 lv (.inl b :: .inl a :: st) h kc ks = (C 75 lv (vI (a + b) :: st) h kc ks) := rfl
theorem g55_75 (v : AV) (k : Nat) : mm_step (mm_rw mr_55) (some .int) tb call Q C 75 lv (v :: .inr (.inr (.inl (some k))) :: st) h kc ks = (match h.2 k with
    | some (.inr (.inr (ci, fs))) => ci = 7 ∧ 1 < fs.length ∧ mm_fit (mm_ft 7 1) v ∧ C 78 lv st (mm_up h k (cO ci (fs.set 1 v))) kc ks
    | _ => False) := rfl
theorem g55_78  : mm_step (mm_rw mr_55) (some .int) tb call Q C 78 lv st h kc ks = (match mm_rd lv 0 with
    | some (.inr (.inr (.inl (some k)))) => C 79 lv (vR k :: st) h kc ks
    | some (.inr (.inr (.inr t))) => C 79 lv (vT t :: st) h kc ks
    | _ => False) := rfl
theorem g55_79 (k : Nat) : mm_step (mm_rw mr_55) (some .int) tb call Q C 79 lv (.inr (.inr (.inl (some k))) :: st) h kc ks = (match h.2 k with
    | some (.inr (.inr (ci, fs))) => ci = 7 ∧ (match fs[1]? with
      | some v => C 82 lv (v :: st) h kc ks
      | none => False)
    | _ => False) := rfl
theorem g55_82 (v : Int32) : mm_step (mm_rw mr_55) (some .int) tb call Q C 82 lv [.inl v] h kc ks = (True ∧ Q (some (vI v)) h) := rfl
end G55

abbrev sp_100 : List Nat := [9, 34]
section G100
variable {tb : Nat → Nat × (Nat → Int32)} {call : CO} {Q : AQ} {C : CP} {lv : AL} {st : List AV} {h : AH} {kc ks : Nat}
theorem g100_0  : mm_step (mm_rw mr_100) (some .int) tb call Q C 0 lv st h kc ks = (match mm_rd lv 1 with
    | some (.inl a) => C 1 lv (vI a :: st) h kc ks
    | _ => False) := rfl
theorem g100_1 (a : Int32) : mm_step (mm_rw mr_100) (some .int) tb call Q C 1 lv (.inl a :: st) h kc ks = (C 2 lv (vL a.toInt64 :: st) h kc ks) := rfl
theorem g100_2  : mm_step (mm_rw mr_100) (some .int) tb call Q C 2 lv st h kc ks = (C 3 lv (vL 1 :: st) h kc ks) := rfl
theorem g100_3  : mm_step (mm_rw mr_100) (some .int) tb call Q C 3 lv st h kc ks = (C 6 lv (vL 8 :: st) h kc ks) := rfl
theorem g100_6  : mm_step (mm_rw mr_100) (some .int) tb call Q C 6 lv st h kc ks = (mm_call call C 99 3 6 lv st h kc ks) := rfl
theorem g100_9 (a : Int32) : mm_step (mm_rw mr_100) (some .int) tb call Q C 9 lv (.inl a :: st) h kc ks = ((¬ a = 0 → C 15 lv st h kc ks) ∧ (a = 0 → C 12 lv st h kc ks)) := rfl
theorem g100_12  : mm_step (mm_rw mr_100) (some .int) tb call Q C 12 lv st h kc ks = (C 14 lv (vI (mI 2) :: st) h kc ks) := rfl
theorem g100_14 (v : Int32) : mm_step (mm_rw mr_100) (some .int) tb call Q C 14 lv [.inl v] h kc ks = (True ∧ Q (some (vI v)) h) := rfl
theorem g100_15  : mm_step (mm_rw mr_100) (some .int) tb call Q C 15 lv st h kc ks = (match mm_rd lv 0 with
    | some (.inr (.inr (.inl (some k)))) => C 16 lv (vR k :: st) h kc ks
    | some (.inr (.inr (.inr t))) => C 16 lv (vT t :: st) h kc ks
    | _ => False) := rfl
theorem g100_16 (k : Nat) : mm_step (mm_rw mr_100) (some .int) tb call Q C 16 lv (.inr (.inr (.inl (some k))) :: st) h kc ks = (match h.2 k with
    | some (.inr (.inr (ci, fs))) => ci = 8 ∧ (match fs[19]? with
      | some v => C 19 lv (v :: st) h kc ks
      | none => False)
    | _ => False) := rfl
theorem g100_19  : mm_step (mm_rw mr_100) (some .int) tb call Q C 19 lv st h kc ks = (match mm_rd lv 1 with
    | some (.inl a) => C 20 lv (vI a :: st) h kc ks
    | _ => False) := rfl
theorem g100_20 (a b : Int32) : mm_step (mm_rw mr_100) (some .int) tb call Q C 20 lv (.inl b :: .inl a :: st) h kc ks = (C 21 lv (vI (a + b) :: st) h kc ks) := rfl
theorem g100_21  : mm_step (mm_rw mr_100) (some .int) tb call Q C 21 lv st h kc ks = (C 23 lv (vI 40 :: st) h kc ks) := rfl
theorem g100_23 (a b : Int32) : mm_step (mm_rw mr_100) (some .int) tb call Q C 23 lv (.inl b :: .inl a :: st) h kc ks = ((a ≤ b → C 29 lv st h kc ks) ∧ (¬ a ≤ b → C 26 lv st h kc ks)) := rfl
theorem g100_26  : mm_step (mm_rw mr_100) (some .int) tb call Q C 26 lv st h kc ks = (C 28 lv (vI (mI 4) :: st) h kc ks) := rfl
theorem g100_28 (v : Int32) : mm_step (mm_rw mr_100) (some .int) tb call Q C 28 lv [.inl v] h kc ks = (True ∧ Q (some (vI v)) h) := rfl
theorem g100_29  : mm_step (mm_rw mr_100) (some .int) tb call Q C 29 lv st h kc ks = (match mm_rd lv 1 with
    | some (.inl a) => C 30 lv (vI a :: st) h kc ks
    | _ => False) := rfl
theorem g100_30  : mm_step (mm_rw mr_100) (some .int) tb call Q C 30 lv st h kc ks = (C 31 lv (vI 1 :: st) h kc ks) := rfl
theorem g100_31 (a b : Int32) : mm_step (mm_rw mr_100) (some .int) tb call Q C 31 lv (.inl b :: .inl a :: st) h kc ks = (C 32 lv (vI (a - b) :: st) h kc ks) := rfl
theorem g100_32 (a : Int32) : mm_step (mm_rw mr_100) (some .int) tb call Q C 32 lv (.inl a :: st) h kc ks = (C 34 (mm_st1 lv 4 (vI a)) st h kc ks) := rfl
theorem g100_34  : mm_step (mm_rw mr_100) (some .int) tb call Q C 34 lv st h kc ks = (match mm_rd lv 4 with
    | some (.inl a) => C 36 lv (vI a :: st) h kc ks
    | _ => False) := rfl
theorem g100_36 (a : Int32) : mm_step (mm_rw mr_100) (some .int) tb call Q C 36 lv (.inl a :: st) h kc ks = ((a < 0 → C 76 lv st h kc ks) ∧ (¬ a < 0 → C 39 lv st h kc ks)) := rfl
theorem g100_39  : mm_step (mm_rw mr_100) (some .int) tb call Q C 39 lv st h kc ks = (match mm_rd lv 0 with
    | some (.inr (.inr (.inl (some k)))) => C 40 lv (vR k :: st) h kc ks
    | some (.inr (.inr (.inr t))) => C 40 lv (vT t :: st) h kc ks
    | _ => False) := rfl
theorem g100_40 (k : Nat) : mm_step (mm_rw mr_100) (some .int) tb call Q C 40 lv (.inr (.inr (.inl (some k))) :: st) h kc ks = (match h.2 k with
    | some (.inr (.inr (ci, fs))) => ci = 8 ∧ (match fs[18]? with
      | some v => C 43 lv (v :: st) h kc ks
      | none => False)
    | _ => False) := rfl
theorem g100_43  : mm_step (mm_rw mr_100) (some .int) tb call Q C 43 lv st h kc ks = (match mm_rd lv 0 with
    | some (.inr (.inr (.inl (some k)))) => C 44 lv (vR k :: st) h kc ks
    | some (.inr (.inr (.inr t))) => C 44 lv (vT t :: st) h kc ks
    | _ => False) := rfl
theorem g100_44 (k : Nat) : mm_step (mm_rw mr_100) (some .int) tb call Q C 44 lv (.inr (.inr (.inl (some k))) :: st) h kc ks = (match h.2 k with
    | some (.inr (.inr (ci, fs))) => ci = 8 ∧ (match fs[19]? with
      | some v => C 47 lv (v :: st) h kc ks
      | none => False)
    | _ => False) := rfl
theorem g100_47  : mm_step (mm_rw mr_100) (some .int) tb call Q C 47 lv st h kc ks = (match mm_rd lv 2 with
    | some (.inr (.inl a)) => C 48 lv (vL a :: st) h kc ks
    | _ => False) := rfl
theorem g100_48  : mm_step (mm_rw mr_100) (some .int) tb call Q C 48 lv st h kc ks = (C 50 lv (vI 8 :: st) h kc ks) := rfl
theorem g100_50  : mm_step (mm_rw mr_100) (some .int) tb call Q C 50 lv st h kc ks = (match mm_rd lv 4 with
    | some (.inl a) => C 52 lv (vI a :: st) h kc ks
    | _ => False) := rfl
theorem g100_52 (a b : Int32) : mm_step (mm_rw mr_100) (some .int) tb call Q C 52 lv (.inl b :: .inl a :: st) h kc ks = (C 53 lv (vI (a * b) :: st) h kc ks) := rfl
theorem g100_53 (a : Int64) (b : Int32) : mm_step (mm_rw mr_100) (some .int) tb call Q C 53 lv (.inl b :: .inr (.inl a) :: st) h kc ks = (C 54 lv (vL (a >>> (b.toInt64 &&& 63)) :: st) h kc ks) := rfl
theorem g100_54  : mm_step (mm_rw mr_100) (some .int) tb call Q C 54 lv st h kc ks = (C 57 lv (vL 255 :: st) h kc ks) := rfl
theorem g100_57 (a b : Int64) : mm_step (mm_rw mr_100) (some .int) tb call Q C 57 lv (.inr (.inl b) :: .inr (.inl a) :: st) h kc ks = (C 58 lv (vL (a &&& b) :: st) h kc ks) := rfl
theorem g100_58 (a : Int64) : mm_step (mm_rw mr_100) (some .int) tb call Q C 58 lv (.inr (.inl a) :: st) h kc ks = (C 59 lv (vI a.toInt32 :: st) h kc ks) := rfl
theorem g100_59 (v i : Int32) (k : Nat) : mm_step (mm_rw mr_100) (some .int) tb call Q C 59 lv (.inl v :: .inl i :: .inr (.inr (.inl (some k))) :: st) h kc ks = (match h.2 k with
    | some (.inl (.int, n, f)) => vp_in i n ∧ C 60 lv st (mm_up h k (cI n (upd f i.toNatClampNeg v))) kc ks
    | _ => False) := rfl
theorem g100_60  : mm_step (mm_rw mr_100) (some .int) tb call Q C 60 lv st h kc ks = (match mm_rd lv 0 with
    | some (.inr (.inr (.inl (some k)))) => C 61 lv (vR k :: st) h kc ks
    | some (.inr (.inr (.inr t))) => C 61 lv (vT t :: st) h kc ks
    | _ => False) := rfl
theorem g100_61 (v : AV) : mm_step (mm_rw mr_100) (some .int) tb call Q C 61 lv (v :: st) h kc ks = (mm_c2 v = false ∧ C 62 lv (v :: v :: st) h kc ks) := rfl
theorem g100_62 (k : Nat) : mm_step (mm_rw mr_100) (some .int) tb call Q C 62 lv (.inr (.inr (.inl (some k))) :: st) h kc ks = (match h.2 k with
    | some (.inr (.inr (ci, fs))) => ci = 8 ∧ (match fs[19]? with
      | some v => C 65 lv (v :: st) h kc ks
      | none => False)
    | _ => False) := rfl
theorem g100_65  : mm_step (mm_rw mr_100) (some .int) tb call Q C 65 lv st h kc ks = (C 66 lv (vI 1 :: st) h kc ks) := rfl
theorem g100_66 (a b : Int32) : mm_step (mm_rw mr_100) (some .int) tb call Q C 66 lv (.inl b :: .inl a :: st) h kc ks = (C 67 lv (vI (a + b) :: st) h kc ks) := rfl
theorem g100_67 (v : AV) (k : Nat) : mm_step (mm_rw mr_100) (some .int) tb call Q C 67 lv (v :: .inr (.inr (.inl (some k))) :: st) h kc ks = (match h.2 k with
    | some (.inr (.inr (ci, fs))) => ci = 8 ∧ 19 < fs.length ∧ mm_fit (mm_ft 8 19) v ∧ C 70 lv st (mm_up h k (cO ci (fs.set 19 v))) kc ks
    | _ => False) := rfl
theorem g100_70  : mm_step (mm_rw mr_100) (some .int) tb call Q C 70 lv st h kc ks = (match mm_rd lv 4 with
    | some (.inl a) => C 73 (mm_st1 lv 4 (vI (a + (mI 1)))) st h kc ks
    | _ => False) := rfl
theorem g100_73  : mm_step (mm_rw mr_100) (some .int) tb call Q C 73 lv st h kc ks = (C 34 lv st h kc ks) := rfl
theorem g100_76  : mm_step (mm_rw mr_100) (some .int) tb call Q C 76 lv st h kc ks = (match mm_rd lv 0 with
    | some (.inr (.inr (.inl (some k)))) => C 77 lv (vR k :: st) h kc ks
    | some (.inr (.inr (.inr t))) => C 77 lv (vT t :: st) h kc ks
    | _ => False) := rfl
theorem g100_77 (k : Nat) : mm_step (mm_rw mr_100) (some .int) tb call Q C 77 lv (.inr (.inr (.inl (some k))) :: st) h kc ks = (match h.2 k with
    | some (.inr (.inr (ci, fs))) => ci = 8 ∧ (match fs[19]? with
      | some v => C 80 lv (v :: st) h kc ks
      | none => False)
    | _ => False) := rfl
theorem g100_80 (v : Int32) : mm_step (mm_rw mr_100) (some .int) tb call Q C 80 lv [.inl v] h kc ks = (True ∧ Q (some (vI v)) h) := rfl
end G100

section WRITE
variable {tb : Nat → Nat × (Nat → Int32)} {d : Nat} {s : MM} {g : SG}
theorem aWrite_no {x : Int32} {v : Int64} (h : (isB x 9 && !decide (x = 0)) = false) : aWrite g x v = (mI 2, g) := by
  unfold aWrite
  rw [if_neg (by rw [h]; decide)]
theorem tx_get {xs ys : List Nat} {j : Nat} : (xs ++ ys).getD j 0 = if j < xs.length then xs.getD j 0 else ys.getD (j - xs.length) 0 := by
  rw [List.getD_eq_getElem?_getD, List.getElem?_append]
  split
  · rw [List.getD_eq_getElem?_getD]
  · rw [List.getD_eq_getElem?_getD]
theorem C_write (hk : SgOk g) (hC : InvC g s) (x : Int32) (v : Int64) : WM tb (d + 1) k_B_write [vR 0, vI x, vL v] (HP s) 0 0 (PostC (aWrite g x v).2 s (vI (aWrite g x v).1)) := by
  have hC0 := hC
  obtain ⟨h1, h2, h3, h4, h5, h6, h7, h8⟩ := hC
  have hl40 := hk.1
  refine WM.of mi_55 rfl rfl (Nat.le_of_ble_eq_true rfl) ?_
  show WP (mm_rw mr_55) (some .int) tb (WM tb d) _ 0 [(0, vR 0), (1, vI x), (2, vL v)] [] (HP s) 0 0
  by_cases c1 : x < 1
  · rw [aWrite_no (rg_no (n := 8) (by omega) (Or.inl c1))]
    (try simp only [Option.toList_some, Option.toList_none, List.nil_append, List.append_nil, List.cons_append, Nat.sub_zero, Nat.sub_self, Nat.zero_sub]); refine Go.wp sp_55 200 ?_; simp only [↓g55_0, ↓g55_1, ↓g55_2, ↓g55_5, ↓g55_6, ↓g55_8, ↓g55_11, ↓g55_13, ↓g55_14, ↓g55_15, ↓g55_18, ↓g55_19, ↓g55_20, ↓g55_22, ↓g55_25, ↓g55_27, ↓g55_28, ↓g55_29, ↓g55_31, ↓g55_33, ↓g55_34, ↓g55_37, ↓g55_38, ↓g55_41, ↓g55_42, ↓g55_45, ↓g55_47, ↓g55_48, ↓g55_49, ↓g55_51, ↓g55_52, ↓g55_53, ↓g55_54, ↓g55_56, ↓g55_57, ↓g55_58, ↓g55_59, ↓g55_60, ↓g55_61, ↓g55_62, ↓g55_65, ↓g55_68, ↓g55_69, ↓g55_70, ↓g55_73, ↓g55_74, ↓g55_75, ↓g55_78, ↓g55_79, ↓g55_82, ↓Go_s, ↓GoC_a, ↓reduceIte, ↓mm_call_eq, ↓mmw_nil, ↓mmw_cons, List.take_succ_cons, List.take_zero, List.take_nil, List.drop_succ_cons, List.drop_zero, List.drop_nil, List.reverse_cons, List.reverse_nil, List.nil_append, List.cons_append, List.append_nil, Option.toList_some, Option.toList_none, Nat.sub_zero, Nat.le_refl, mmr_cons, mm_st1, mm_st2, mmi_nil, mmi_cons, mmc_I, mmc_L, mmc_R, mmu_get, mmu_one, mma_get, mma_one, List.filter_cons, List.filter_nil, List.contains_cons, List.contains_nil, Nat.reduceBEq, Nat.reduceAdd, Nat.reduceLT, Nat.reduceSub, Nat.reduceLeDiff, Nat.reduceEqDiff, Int32.reduceAdd, Bool.not_true, Bool.not_false, Bool.and_true, Bool.true_and, Bool.and_false, Bool.false_and, Bool.or_false, Bool.false_or, Bool.or_true, Bool.true_or, if_true, if_false, ite_true, ite_false, Bool.false_eq_true, List.getElem?_cons_zero, List.getElem?_cons_succ, List.length_cons, List.length_nil, true_and, and_true, List.set_cons_zero, List.set_cons_succ, Fin.isValue, Fin.val_zero, Fin.val_one, Fin.val_two, Fin.reduceFinMk, Nat.zero_add, hp_0, hp_1, hp_2, hp_3, hp_4, hp_5, hp_6, hp_7, hp_8, hp_9, hp_10, hp_11, hp_12, hp_13, hp_14, hp_15, hp_16, hp_17, hp_18, hp_19, hp_20, hp_21, hp_22, hp_23, hp_24, hp_25, hp_26, hp_27, hp_28, hp_29, hp_30, hp_31, hp_32, hp_33, hp_34, hp_35, hp_36, hp_37, hp_38, hp_39, hp_40, hp_41, hp_42, hp_43, hp_44, hp_45, hp_46, hp_47, hp_48, hp_49, hp_50, hp_51, hp_52, hp_53, hp_54, hp_55, hp_56, hp_57, hp_58, hp_59, hp_60, hp_61, hp_62, hp_63, hp_64, hp_65, hp_66, hp_67, hp_68, hp_69, hp_70, hp_71, hp_72, hp_73, hp_74, og_0_0, og_0_1, og_0_2, og_0_3, og_0_4, og_0_5, og_0_6, og_0_7, og_0_8, og_0_9, og_0_10, og_0_11, og_0_12, og_0_13, ol_0, og_2_0, og_2_1, og_2_2, og_2_3, og_2_4, og_2_5, og_2_6, ol_2, og_3_0, og_3_1, ol_3, og_5_0, og_5_1, ol_5, og_9_0, og_9_1, og_9_2, og_9_3, og_9_4, og_9_5, og_9_6, ol_9, og_10_0, og_10_1, ol_10, og_12_0, og_12_1, ol_12, og_16_0, og_16_1, og_16_2, ol_16, og_17_0, og_17_1, ol_17, og_21_0, og_21_1, og_21_2, og_21_3, og_21_4, ol_21, og_27_0, og_27_1, og_27_2, og_27_3, og_27_4, og_27_5, og_27_6, og_27_7, og_27_8, og_27_9, og_27_10, ol_27, og_35_0, og_35_1, ol_35, og_37_0, og_37_1, ol_37, og_39_0, og_39_1, ol_39, og_41_0, og_41_1, ol_41, og_43_0, og_43_1, ol_43, og_45_0, og_45_1, ol_45, og_47_0, og_47_1, ol_47, og_49_0, og_49_1, og_49_2, og_49_3, ol_49, og_53_0, og_53_1, ol_53, og_55_0, og_55_1, ol_55, og_57_0, og_57_1, ol_57, og_59_0, og_59_1, ol_59, og_61_0, og_61_1, ol_61, og_63_0, og_63_1, ol_63, og_65_0, og_65_1, og_65_2, ol_65, og_66_0, og_66_1, ol_66, og_70_0, og_70_1, og_70_2, ol_70, og_71_0, og_71_1, ol_71, uo_0_1, uo_0_4, uo_0_8, ua_1, uo_2_0, uo_2_1, uo_2_2, uo_3_1, ua_4, uo_5_1, ua_6, ua_7, ua_8, uo_9_0, uo_9_1, uo_9_2, uo_10_1, ua_11, uo_12_1, ua_13, ua_14, ua_15, uo_17_1, ua_18, ua_19, ua_20, uo_21_4, ua_22, ua_23, ua_24, ua_25, uo_27_2, uo_27_6, uo_27_7, uo_27_8, ua_28, ua_29, ua_31, ua_32, ua_33, ua_34, uo_35_1, ua_36, uo_37_1, ua_38, uo_39_1, ua_40, uo_41_1, ua_42, uo_43_1, ua_44, uo_45_1, ua_46, uo_47_1, ua_48, uo_49_3, ua_51, ua_52, uo_53_1, ua_54, uo_55_1, ua_56, uo_57_1, ua_58, uo_59_1, ua_60, uo_61_1, ua_62, uo_63_1, ua_64, uo_66_1, ua_67, ua_68, ua_69, uo_71_1, ua_72, ua_73, ua_74, sO_g, sA_g, sA_O, sO_A, sO_2, sC_1, sC_2, sC_3, sC_4, sC_5, sC_6, sW_1, sW_2, sW_3, sW_4, uc_0, ft_7_1, nu_fitI, nu_fitL, nu_fitO, nu_fitA, nu_fitB0, nu_fitB1]
    exact ⟨fun _ => ⟨rfl, s, rfl, hC0, agM.rf⟩, fun c => absurd c1 c⟩
  · by_cases c8 : 8 < x
    · rw [aWrite_no (rg_no (n := 8) (by omega) (Or.inr c8))]
      (try simp only [Option.toList_some, Option.toList_none, List.nil_append, List.append_nil, List.cons_append, Nat.sub_zero, Nat.sub_self, Nat.zero_sub]); refine Go.wp sp_55 200 ?_; simp only [↓g55_0, ↓g55_1, ↓g55_2, ↓g55_5, ↓g55_6, ↓g55_8, ↓g55_11, ↓g55_13, ↓g55_14, ↓g55_15, ↓g55_18, ↓g55_19, ↓g55_20, ↓g55_22, ↓g55_25, ↓g55_27, ↓g55_28, ↓g55_29, ↓g55_31, ↓g55_33, ↓g55_34, ↓g55_37, ↓g55_38, ↓g55_41, ↓g55_42, ↓g55_45, ↓g55_47, ↓g55_48, ↓g55_49, ↓g55_51, ↓g55_52, ↓g55_53, ↓g55_54, ↓g55_56, ↓g55_57, ↓g55_58, ↓g55_59, ↓g55_60, ↓g55_61, ↓g55_62, ↓g55_65, ↓g55_68, ↓g55_69, ↓g55_70, ↓g55_73, ↓g55_74, ↓g55_75, ↓g55_78, ↓g55_79, ↓g55_82, ↓Go_s, ↓GoC_a, ↓reduceIte, ↓mm_call_eq, ↓mmw_nil, ↓mmw_cons, List.take_succ_cons, List.take_zero, List.take_nil, List.drop_succ_cons, List.drop_zero, List.drop_nil, List.reverse_cons, List.reverse_nil, List.nil_append, List.cons_append, List.append_nil, Option.toList_some, Option.toList_none, Nat.sub_zero, Nat.le_refl, mmr_cons, mm_st1, mm_st2, mmi_nil, mmi_cons, mmc_I, mmc_L, mmc_R, mmu_get, mmu_one, mma_get, mma_one, List.filter_cons, List.filter_nil, List.contains_cons, List.contains_nil, Nat.reduceBEq, Nat.reduceAdd, Nat.reduceLT, Nat.reduceSub, Nat.reduceLeDiff, Nat.reduceEqDiff, Int32.reduceAdd, Bool.not_true, Bool.not_false, Bool.and_true, Bool.true_and, Bool.and_false, Bool.false_and, Bool.or_false, Bool.false_or, Bool.or_true, Bool.true_or, if_true, if_false, ite_true, ite_false, Bool.false_eq_true, List.getElem?_cons_zero, List.getElem?_cons_succ, List.length_cons, List.length_nil, true_and, and_true, List.set_cons_zero, List.set_cons_succ, Fin.isValue, Fin.val_zero, Fin.val_one, Fin.val_two, Fin.reduceFinMk, Nat.zero_add, hp_0, hp_1, hp_2, hp_3, hp_4, hp_5, hp_6, hp_7, hp_8, hp_9, hp_10, hp_11, hp_12, hp_13, hp_14, hp_15, hp_16, hp_17, hp_18, hp_19, hp_20, hp_21, hp_22, hp_23, hp_24, hp_25, hp_26, hp_27, hp_28, hp_29, hp_30, hp_31, hp_32, hp_33, hp_34, hp_35, hp_36, hp_37, hp_38, hp_39, hp_40, hp_41, hp_42, hp_43, hp_44, hp_45, hp_46, hp_47, hp_48, hp_49, hp_50, hp_51, hp_52, hp_53, hp_54, hp_55, hp_56, hp_57, hp_58, hp_59, hp_60, hp_61, hp_62, hp_63, hp_64, hp_65, hp_66, hp_67, hp_68, hp_69, hp_70, hp_71, hp_72, hp_73, hp_74, og_0_0, og_0_1, og_0_2, og_0_3, og_0_4, og_0_5, og_0_6, og_0_7, og_0_8, og_0_9, og_0_10, og_0_11, og_0_12, og_0_13, ol_0, og_2_0, og_2_1, og_2_2, og_2_3, og_2_4, og_2_5, og_2_6, ol_2, og_3_0, og_3_1, ol_3, og_5_0, og_5_1, ol_5, og_9_0, og_9_1, og_9_2, og_9_3, og_9_4, og_9_5, og_9_6, ol_9, og_10_0, og_10_1, ol_10, og_12_0, og_12_1, ol_12, og_16_0, og_16_1, og_16_2, ol_16, og_17_0, og_17_1, ol_17, og_21_0, og_21_1, og_21_2, og_21_3, og_21_4, ol_21, og_27_0, og_27_1, og_27_2, og_27_3, og_27_4, og_27_5, og_27_6, og_27_7, og_27_8, og_27_9, og_27_10, ol_27, og_35_0, og_35_1, ol_35, og_37_0, og_37_1, ol_37, og_39_0, og_39_1, ol_39, og_41_0, og_41_1, ol_41, og_43_0, og_43_1, ol_43, og_45_0, og_45_1, ol_45, og_47_0, og_47_1, ol_47, og_49_0, og_49_1, og_49_2, og_49_3, ol_49, og_53_0, og_53_1, ol_53, og_55_0, og_55_1, ol_55, og_57_0, og_57_1, ol_57, og_59_0, og_59_1, ol_59, og_61_0, og_61_1, ol_61, og_63_0, og_63_1, ol_63, og_65_0, og_65_1, og_65_2, ol_65, og_66_0, og_66_1, ol_66, og_70_0, og_70_1, og_70_2, ol_70, og_71_0, og_71_1, ol_71, uo_0_1, uo_0_4, uo_0_8, ua_1, uo_2_0, uo_2_1, uo_2_2, uo_3_1, ua_4, uo_5_1, ua_6, ua_7, ua_8, uo_9_0, uo_9_1, uo_9_2, uo_10_1, ua_11, uo_12_1, ua_13, ua_14, ua_15, uo_17_1, ua_18, ua_19, ua_20, uo_21_4, ua_22, ua_23, ua_24, ua_25, uo_27_2, uo_27_6, uo_27_7, uo_27_8, ua_28, ua_29, ua_31, ua_32, ua_33, ua_34, uo_35_1, ua_36, uo_37_1, ua_38, uo_39_1, ua_40, uo_41_1, ua_42, uo_43_1, ua_44, uo_45_1, ua_46, uo_47_1, ua_48, uo_49_3, ua_51, ua_52, uo_53_1, ua_54, uo_55_1, ua_56, uo_57_1, ua_58, uo_59_1, ua_60, uo_61_1, ua_62, uo_63_1, ua_64, uo_66_1, ua_67, ua_68, ua_69, uo_71_1, ua_72, ua_73, ua_74, sO_g, sA_g, sA_O, sO_A, sO_2, sC_1, sC_2, sC_3, sC_4, sC_5, sC_6, sW_1, sW_2, sW_3, sW_4, uc_0, ft_7_1, nu_fitI, nu_fitL, nu_fitO, nu_fitA, nu_fitB0, nu_fitB1]
      exact ⟨fun c => absurd c c1, fun _ => ⟨fun c => absurd c8 (Int32.not_lt.mpr c), fun _ => ⟨rfl, s, rfl, hC0, agM.rf⟩⟩⟩
    · obtain ⟨n, hn1, hn8, rfl, hok⟩ := rg_ok (n := 8) (by omega) c1 c8
      have hans : aWrite g (nI n) v = if (gTx g).length + n ≤ 40 then (nI ((gTx g).length + n), (gTx g ++ wBs v n, g.2)) else (mI 4, g) := by
        unfold aWrite
        rw [if_pos hok, nI_clamp (by omega)]
      rw [hans]
      have key : (gTx g).length + n ≤ 40 → ∀ r i f, r = n - i → i ≤ n → (∀ j, j < (gTx g).length → f j = s.1 1 j) → (∀ j, j < i → f ((gTx g).length + j) = (nI (wB v n j)).toInt8.toInt32) → WP (mm_rw mr_55) (some .int) tb (WM tb d) (PostC (gTx g ++ wBs v n, g.2) s (vI (nI ((gTx g).length + n)))) 31 [(0, vR 0), (1, vI (nI n)), (2, vL v), (4, vI (nI i))] [] (HP (sA s 1 f)) 0 0 := by
        intro hle r
        induction r with
        | zero =>
          intro i f hr hi hf1 hf2
          have e : i = n := by omega
          subst e
          (try simp only [Option.toList_some, Option.toList_none, List.nil_append, List.append_nil, List.cons_append, Nat.sub_zero, Nat.sub_self, Nat.zero_sub]); refine Go.wp sp_55 200 ?_; simp only [↓g55_0, ↓g55_1, ↓g55_2, ↓g55_5, ↓g55_6, ↓g55_8, ↓g55_11, ↓g55_13, ↓g55_14, ↓g55_15, ↓g55_18, ↓g55_19, ↓g55_20, ↓g55_22, ↓g55_25, ↓g55_27, ↓g55_28, ↓g55_29, ↓g55_31, ↓g55_33, ↓g55_34, ↓g55_37, ↓g55_38, ↓g55_41, ↓g55_42, ↓g55_45, ↓g55_47, ↓g55_48, ↓g55_49, ↓g55_51, ↓g55_52, ↓g55_53, ↓g55_54, ↓g55_56, ↓g55_57, ↓g55_58, ↓g55_59, ↓g55_60, ↓g55_61, ↓g55_62, ↓g55_65, ↓g55_68, ↓g55_69, ↓g55_70, ↓g55_73, ↓g55_74, ↓g55_75, ↓g55_78, ↓g55_79, ↓g55_82, ↓Go_s, ↓GoC_a, ↓reduceIte, ↓mm_call_eq, ↓mmw_nil, ↓mmw_cons, List.take_succ_cons, List.take_zero, List.take_nil, List.drop_succ_cons, List.drop_zero, List.drop_nil, List.reverse_cons, List.reverse_nil, List.nil_append, List.cons_append, List.append_nil, Option.toList_some, Option.toList_none, Nat.sub_zero, Nat.le_refl, mmr_cons, mm_st1, mm_st2, mmi_nil, mmi_cons, mmc_I, mmc_L, mmc_R, mmu_get, mmu_one, mma_get, mma_one, List.filter_cons, List.filter_nil, List.contains_cons, List.contains_nil, Nat.reduceBEq, Nat.reduceAdd, Nat.reduceLT, Nat.reduceSub, Nat.reduceLeDiff, Nat.reduceEqDiff, Int32.reduceAdd, Bool.not_true, Bool.not_false, Bool.and_true, Bool.true_and, Bool.and_false, Bool.false_and, Bool.or_false, Bool.false_or, Bool.or_true, Bool.true_or, if_true, if_false, ite_true, ite_false, Bool.false_eq_true, List.getElem?_cons_zero, List.getElem?_cons_succ, List.length_cons, List.length_nil, true_and, and_true, List.set_cons_zero, List.set_cons_succ, Fin.isValue, Fin.val_zero, Fin.val_one, Fin.val_two, Fin.reduceFinMk, Nat.zero_add, hp_0, hp_1, hp_2, hp_3, hp_4, hp_5, hp_6, hp_7, hp_8, hp_9, hp_10, hp_11, hp_12, hp_13, hp_14, hp_15, hp_16, hp_17, hp_18, hp_19, hp_20, hp_21, hp_22, hp_23, hp_24, hp_25, hp_26, hp_27, hp_28, hp_29, hp_30, hp_31, hp_32, hp_33, hp_34, hp_35, hp_36, hp_37, hp_38, hp_39, hp_40, hp_41, hp_42, hp_43, hp_44, hp_45, hp_46, hp_47, hp_48, hp_49, hp_50, hp_51, hp_52, hp_53, hp_54, hp_55, hp_56, hp_57, hp_58, hp_59, hp_60, hp_61, hp_62, hp_63, hp_64, hp_65, hp_66, hp_67, hp_68, hp_69, hp_70, hp_71, hp_72, hp_73, hp_74, og_0_0, og_0_1, og_0_2, og_0_3, og_0_4, og_0_5, og_0_6, og_0_7, og_0_8, og_0_9, og_0_10, og_0_11, og_0_12, og_0_13, ol_0, og_2_0, og_2_1, og_2_2, og_2_3, og_2_4, og_2_5, og_2_6, ol_2, og_3_0, og_3_1, ol_3, og_5_0, og_5_1, ol_5, og_9_0, og_9_1, og_9_2, og_9_3, og_9_4, og_9_5, og_9_6, ol_9, og_10_0, og_10_1, ol_10, og_12_0, og_12_1, ol_12, og_16_0, og_16_1, og_16_2, ol_16, og_17_0, og_17_1, ol_17, og_21_0, og_21_1, og_21_2, og_21_3, og_21_4, ol_21, og_27_0, og_27_1, og_27_2, og_27_3, og_27_4, og_27_5, og_27_6, og_27_7, og_27_8, og_27_9, og_27_10, ol_27, og_35_0, og_35_1, ol_35, og_37_0, og_37_1, ol_37, og_39_0, og_39_1, ol_39, og_41_0, og_41_1, ol_41, og_43_0, og_43_1, ol_43, og_45_0, og_45_1, ol_45, og_47_0, og_47_1, ol_47, og_49_0, og_49_1, og_49_2, og_49_3, ol_49, og_53_0, og_53_1, ol_53, og_55_0, og_55_1, ol_55, og_57_0, og_57_1, ol_57, og_59_0, og_59_1, ol_59, og_61_0, og_61_1, ol_61, og_63_0, og_63_1, ol_63, og_65_0, og_65_1, og_65_2, ol_65, og_66_0, og_66_1, ol_66, og_70_0, og_70_1, og_70_2, ol_70, og_71_0, og_71_1, ol_71, uo_0_1, uo_0_4, uo_0_8, ua_1, uo_2_0, uo_2_1, uo_2_2, uo_3_1, ua_4, uo_5_1, ua_6, ua_7, ua_8, uo_9_0, uo_9_1, uo_9_2, uo_10_1, ua_11, uo_12_1, ua_13, ua_14, ua_15, uo_17_1, ua_18, ua_19, ua_20, uo_21_4, ua_22, ua_23, ua_24, ua_25, uo_27_2, uo_27_6, uo_27_7, uo_27_8, ua_28, ua_29, ua_31, ua_32, ua_33, ua_34, uo_35_1, ua_36, uo_37_1, ua_38, uo_39_1, ua_40, uo_41_1, ua_42, uo_43_1, ua_44, uo_45_1, ua_46, uo_47_1, ua_48, uo_49_3, ua_51, ua_52, uo_53_1, ua_54, uo_55_1, ua_56, uo_57_1, ua_58, uo_59_1, ua_60, uo_61_1, ua_62, uo_63_1, ua_64, uo_66_1, ua_67, ua_68, ua_69, uo_71_1, ua_72, ua_73, ua_74, sO_g, sA_g, sA_O, sO_A, sO_2, sC_1, sC_2, sC_3, sC_4, sC_5, sC_6, sW_1, sW_2, sW_3, sW_4, uc_0, h1.1, ft_7_1, nu_fitI, nu_fitL, nu_fitO, nu_fitA, nu_fitB0, nu_fitB1]
          refine ⟨fun _ => ⟨?_, _, rfl, ⟨⟨?_, fun j hj => ?_⟩, cPl.ag (s := s) h2 ⟨rfl, rfl, rfl⟩ rfl (fun q q1 q2 => ⟨va_ne (by omega), va_ne (by omega)⟩), h3, h4, h5, h6, h7, h8⟩, (agM.sA (by omega)).tr (agM.sO (by omega))⟩, fun c => absurd (Int32.le_refl _) c⟩
          · rw [nI_add]
          · show nI _ + nI _ = nI (gTx g ++ wBs v i).length
            rw [nI_add, List.length_append, wBs_len]
          · show f j = (nI ((gTx g ++ wBs v i).getD j 0)).toInt8.toInt32
            have hj : j < (gTx g ++ wBs v i).length := hj
            rw [List.length_append, wBs_len] at hj
            rw [tx_get]
            split
            · rename_i c
              rw [hf1 j c]
              exact h1.2 j c
            · rename_i c
              rw [wBs_get v (by omega), ← hf2 (j - (gTx g).length) (by omega), show (gTx g).length + (j - (gTx g).length) = j by omega]
        | succ r ih =>
          intro i f hr hi hf1 hf2
          (try simp only [Option.toList_some, Option.toList_none, List.nil_append, List.append_nil, List.cons_append, Nat.sub_zero, Nat.sub_self, Nat.zero_sub]); refine Go.wp sp_55 200 ?_; simp only [↓g55_0, ↓g55_1, ↓g55_2, ↓g55_5, ↓g55_6, ↓g55_8, ↓g55_11, ↓g55_13, ↓g55_14, ↓g55_15, ↓g55_18, ↓g55_19, ↓g55_20, ↓g55_22, ↓g55_25, ↓g55_27, ↓g55_28, ↓g55_29, ↓g55_31, ↓g55_33, ↓g55_34, ↓g55_37, ↓g55_38, ↓g55_41, ↓g55_42, ↓g55_45, ↓g55_47, ↓g55_48, ↓g55_49, ↓g55_51, ↓g55_52, ↓g55_53, ↓g55_54, ↓g55_56, ↓g55_57, ↓g55_58, ↓g55_59, ↓g55_60, ↓g55_61, ↓g55_62, ↓g55_65, ↓g55_68, ↓g55_69, ↓g55_70, ↓g55_73, ↓g55_74, ↓g55_75, ↓g55_78, ↓g55_79, ↓g55_82, ↓Go_s, ↓GoC_a, ↓reduceIte, ↓mm_call_eq, ↓mmw_nil, ↓mmw_cons, List.take_succ_cons, List.take_zero, List.take_nil, List.drop_succ_cons, List.drop_zero, List.drop_nil, List.reverse_cons, List.reverse_nil, List.nil_append, List.cons_append, List.append_nil, Option.toList_some, Option.toList_none, Nat.sub_zero, Nat.le_refl, mmr_cons, mm_st1, mm_st2, mmi_nil, mmi_cons, mmc_I, mmc_L, mmc_R, mmu_get, mmu_one, mma_get, mma_one, List.filter_cons, List.filter_nil, List.contains_cons, List.contains_nil, Nat.reduceBEq, Nat.reduceAdd, Nat.reduceLT, Nat.reduceSub, Nat.reduceLeDiff, Nat.reduceEqDiff, Int32.reduceAdd, Bool.not_true, Bool.not_false, Bool.and_true, Bool.true_and, Bool.and_false, Bool.false_and, Bool.or_false, Bool.false_or, Bool.or_true, Bool.true_or, if_true, if_false, ite_true, ite_false, Bool.false_eq_true, List.getElem?_cons_zero, List.getElem?_cons_succ, List.length_cons, List.length_nil, true_and, and_true, List.set_cons_zero, List.set_cons_succ, Fin.isValue, Fin.val_zero, Fin.val_one, Fin.val_two, Fin.reduceFinMk, Nat.zero_add, hp_0, hp_1, hp_2, hp_3, hp_4, hp_5, hp_6, hp_7, hp_8, hp_9, hp_10, hp_11, hp_12, hp_13, hp_14, hp_15, hp_16, hp_17, hp_18, hp_19, hp_20, hp_21, hp_22, hp_23, hp_24, hp_25, hp_26, hp_27, hp_28, hp_29, hp_30, hp_31, hp_32, hp_33, hp_34, hp_35, hp_36, hp_37, hp_38, hp_39, hp_40, hp_41, hp_42, hp_43, hp_44, hp_45, hp_46, hp_47, hp_48, hp_49, hp_50, hp_51, hp_52, hp_53, hp_54, hp_55, hp_56, hp_57, hp_58, hp_59, hp_60, hp_61, hp_62, hp_63, hp_64, hp_65, hp_66, hp_67, hp_68, hp_69, hp_70, hp_71, hp_72, hp_73, hp_74, og_0_0, og_0_1, og_0_2, og_0_3, og_0_4, og_0_5, og_0_6, og_0_7, og_0_8, og_0_9, og_0_10, og_0_11, og_0_12, og_0_13, ol_0, og_2_0, og_2_1, og_2_2, og_2_3, og_2_4, og_2_5, og_2_6, ol_2, og_3_0, og_3_1, ol_3, og_5_0, og_5_1, ol_5, og_9_0, og_9_1, og_9_2, og_9_3, og_9_4, og_9_5, og_9_6, ol_9, og_10_0, og_10_1, ol_10, og_12_0, og_12_1, ol_12, og_16_0, og_16_1, og_16_2, ol_16, og_17_0, og_17_1, ol_17, og_21_0, og_21_1, og_21_2, og_21_3, og_21_4, ol_21, og_27_0, og_27_1, og_27_2, og_27_3, og_27_4, og_27_5, og_27_6, og_27_7, og_27_8, og_27_9, og_27_10, ol_27, og_35_0, og_35_1, ol_35, og_37_0, og_37_1, ol_37, og_39_0, og_39_1, ol_39, og_41_0, og_41_1, ol_41, og_43_0, og_43_1, ol_43, og_45_0, og_45_1, ol_45, og_47_0, og_47_1, ol_47, og_49_0, og_49_1, og_49_2, og_49_3, ol_49, og_53_0, og_53_1, ol_53, og_55_0, og_55_1, ol_55, og_57_0, og_57_1, ol_57, og_59_0, og_59_1, ol_59, og_61_0, og_61_1, ol_61, og_63_0, og_63_1, ol_63, og_65_0, og_65_1, og_65_2, ol_65, og_66_0, og_66_1, ol_66, og_70_0, og_70_1, og_70_2, ol_70, og_71_0, og_71_1, ol_71, uo_0_1, uo_0_4, uo_0_8, ua_1, uo_2_0, uo_2_1, uo_2_2, uo_3_1, ua_4, uo_5_1, ua_6, ua_7, ua_8, uo_9_0, uo_9_1, uo_9_2, uo_10_1, ua_11, uo_12_1, ua_13, ua_14, ua_15, uo_17_1, ua_18, ua_19, ua_20, uo_21_4, ua_22, ua_23, ua_24, ua_25, uo_27_2, uo_27_6, uo_27_7, uo_27_8, ua_28, ua_29, ua_31, ua_32, ua_33, ua_34, uo_35_1, ua_36, uo_37_1, ua_38, uo_39_1, ua_40, uo_41_1, ua_42, uo_43_1, ua_44, uo_45_1, ua_46, uo_47_1, ua_48, uo_49_3, ua_51, ua_52, uo_53_1, ua_54, uo_55_1, ua_56, uo_57_1, ua_58, uo_59_1, ua_60, uo_61_1, ua_62, uo_63_1, ua_64, uo_66_1, ua_67, ua_68, ua_69, uo_71_1, ua_72, ua_73, ua_74, sO_g, sA_g, sA_O, sO_A, sO_2, sC_1, sC_2, sC_3, sC_4, sC_5, sC_6, sW_1, sW_2, sW_3, sW_4, uc_0, h1.1, ft_7_1, nu_fitI, nu_fitL, nu_fitO, nu_fitA, nu_fitB0, nu_fitB1]
          simp (disch := omega) only [lit_0, lit_1, lit_2, lit_3, lit_4, lit_5, lit_6, lit_7, lit_8, lit_9, lit_10, lit_16, lit_40, lit_48, lit_60, lit_67, lit_76, lit_82, lit_99, lit_100, lit_255, lit_508, lit_720, lit_1023, nI_1, nI_add, pk_sub, pk_mul, pk_div, nu_rem2, nI_clamp, nu_m, nu_m', nu_lm, nu_ml, nu_ltm, nu_mlt, nu_mm, nu_dec, nu_in, nu_le, nu_lt, nu_eq, true_and, and_true, false_imp_iff, true_imp_iff, not_true_eq_false, not_false_eq_true, Nat.not_lt_zero, Nat.zero_le, Nat.le_refl, Nat.lt_irrefl, Nat.reduceEqDiff, Nat.reduceLT, Nat.reduceLeDiff, Nat.reduceAdd, Nat.reduceSub, Nat.reduceMul, Nat.reduceMod, Nat.reduceDiv, Nat.one_ne_zero, Nat.zero_ne_one, ft_0_0, ft_0_1, ft_0_2, ft_0_3, ft_0_4, ft_1_0, ft_1_1, ft_1_2, ft_2_0, ft_2_1, ft_2_2, ft_2_3, ft_2_4, ft_2_5, ft_2_6, ft_2_7, ft_2_8, ft_2_9, ft_2_10, ft_3_0, ft_3_1, ft_3_2, ft_3_3, ft_4_0, ft_4_1, ft_4_2, ft_4_3, ft_4_4, ft_4_5, ft_4_6, ft_5_0, ft_5_1, ft_6_0, ft_6_1, ft_6_2, ft_6_3, ft_6_4, ft_6_5, ft_6_6, ft_7_0, ft_7_1, ft_7_2, ft_7_3, ft_7_4, ft_7_5, ft_7_6, ft_7_7, ft_7_8, ft_7_9, ft_7_10, ft_7_11, ft_7_12, ft_7_13, ft_8_0, ft_8_1, ft_8_2, ft_8_3, ft_8_4, ft_8_5, ft_8_6, ft_8_7, ft_8_8, ft_8_9, ft_8_10, ft_8_11, ft_8_12, ft_8_13, ft_8_14, ft_8_15, ft_8_16, ft_8_17, ft_8_18, ft_8_19, ft_8_20, ft_8_21, ft_8_22, ft_8_23, ft_8_24, ft_8_25, ft_8_26, ft_8_27, ft_8_28, ft_8_29, ft_8_30, ft_8_31, ft_8_32, ft_8_33, ft_8_34, ft_8_35, ft_8_36, ft_8_37, ft_8_38, ft_8_39, ft_8_40, ft_8_41, nu_fitI, nu_fitL, nu_fitO, nu_fitA, nu_fitB0, nu_fitB1]
          rw [nar8, uN_sk v (by omega), sA_sA]
          refine ⟨fun c => absurd c (by omega), fun _ => ⟨by omega, ih (i + 1) _ (by omega) (by omega) (fun j hj => ?_) (fun j hj => ?_)⟩⟩
          · unfold upd
            rw [if_neg (by omega)]
            exact hf1 j hj
          · unfold upd
            by_cases e : j = i
            · rw [if_pos (by omega), e]
              rfl
            · rw [if_neg (by omega)]
              exact hf2 j (by omega)
      (try simp only [Option.toList_some, Option.toList_none, List.nil_append, List.append_nil, List.cons_append, Nat.sub_zero, Nat.sub_self, Nat.zero_sub]); refine Go.wp sp_55 200 ?_; simp only [↓g55_0, ↓g55_1, ↓g55_2, ↓g55_5, ↓g55_6, ↓g55_8, ↓g55_11, ↓g55_13, ↓g55_14, ↓g55_15, ↓g55_18, ↓g55_19, ↓g55_20, ↓g55_22, ↓g55_25, ↓g55_27, ↓g55_28, ↓g55_29, ↓g55_31, ↓g55_33, ↓g55_34, ↓g55_37, ↓g55_38, ↓g55_41, ↓g55_42, ↓g55_45, ↓g55_47, ↓g55_48, ↓g55_49, ↓g55_51, ↓g55_52, ↓g55_53, ↓g55_54, ↓g55_56, ↓g55_57, ↓g55_58, ↓g55_59, ↓g55_60, ↓g55_61, ↓g55_62, ↓g55_65, ↓g55_68, ↓g55_69, ↓g55_70, ↓g55_73, ↓g55_74, ↓g55_75, ↓g55_78, ↓g55_79, ↓g55_82, ↓Go_s, ↓GoC_a, ↓reduceIte, ↓mm_call_eq, ↓mmw_nil, ↓mmw_cons, List.take_succ_cons, List.take_zero, List.take_nil, List.drop_succ_cons, List.drop_zero, List.drop_nil, List.reverse_cons, List.reverse_nil, List.nil_append, List.cons_append, List.append_nil, Option.toList_some, Option.toList_none, Nat.sub_zero, Nat.le_refl, mmr_cons, mm_st1, mm_st2, mmi_nil, mmi_cons, mmc_I, mmc_L, mmc_R, mmu_get, mmu_one, mma_get, mma_one, List.filter_cons, List.filter_nil, List.contains_cons, List.contains_nil, Nat.reduceBEq, Nat.reduceAdd, Nat.reduceLT, Nat.reduceSub, Nat.reduceLeDiff, Nat.reduceEqDiff, Int32.reduceAdd, Bool.not_true, Bool.not_false, Bool.and_true, Bool.true_and, Bool.and_false, Bool.false_and, Bool.or_false, Bool.false_or, Bool.or_true, Bool.true_or, if_true, if_false, ite_true, ite_false, Bool.false_eq_true, List.getElem?_cons_zero, List.getElem?_cons_succ, List.length_cons, List.length_nil, true_and, and_true, List.set_cons_zero, List.set_cons_succ, Fin.isValue, Fin.val_zero, Fin.val_one, Fin.val_two, Fin.reduceFinMk, Nat.zero_add, hp_0, hp_1, hp_2, hp_3, hp_4, hp_5, hp_6, hp_7, hp_8, hp_9, hp_10, hp_11, hp_12, hp_13, hp_14, hp_15, hp_16, hp_17, hp_18, hp_19, hp_20, hp_21, hp_22, hp_23, hp_24, hp_25, hp_26, hp_27, hp_28, hp_29, hp_30, hp_31, hp_32, hp_33, hp_34, hp_35, hp_36, hp_37, hp_38, hp_39, hp_40, hp_41, hp_42, hp_43, hp_44, hp_45, hp_46, hp_47, hp_48, hp_49, hp_50, hp_51, hp_52, hp_53, hp_54, hp_55, hp_56, hp_57, hp_58, hp_59, hp_60, hp_61, hp_62, hp_63, hp_64, hp_65, hp_66, hp_67, hp_68, hp_69, hp_70, hp_71, hp_72, hp_73, hp_74, og_0_0, og_0_1, og_0_2, og_0_3, og_0_4, og_0_5, og_0_6, og_0_7, og_0_8, og_0_9, og_0_10, og_0_11, og_0_12, og_0_13, ol_0, og_2_0, og_2_1, og_2_2, og_2_3, og_2_4, og_2_5, og_2_6, ol_2, og_3_0, og_3_1, ol_3, og_5_0, og_5_1, ol_5, og_9_0, og_9_1, og_9_2, og_9_3, og_9_4, og_9_5, og_9_6, ol_9, og_10_0, og_10_1, ol_10, og_12_0, og_12_1, ol_12, og_16_0, og_16_1, og_16_2, ol_16, og_17_0, og_17_1, ol_17, og_21_0, og_21_1, og_21_2, og_21_3, og_21_4, ol_21, og_27_0, og_27_1, og_27_2, og_27_3, og_27_4, og_27_5, og_27_6, og_27_7, og_27_8, og_27_9, og_27_10, ol_27, og_35_0, og_35_1, ol_35, og_37_0, og_37_1, ol_37, og_39_0, og_39_1, ol_39, og_41_0, og_41_1, ol_41, og_43_0, og_43_1, ol_43, og_45_0, og_45_1, ol_45, og_47_0, og_47_1, ol_47, og_49_0, og_49_1, og_49_2, og_49_3, ol_49, og_53_0, og_53_1, ol_53, og_55_0, og_55_1, ol_55, og_57_0, og_57_1, ol_57, og_59_0, og_59_1, ol_59, og_61_0, og_61_1, ol_61, og_63_0, og_63_1, ol_63, og_65_0, og_65_1, og_65_2, ol_65, og_66_0, og_66_1, ol_66, og_70_0, og_70_1, og_70_2, ol_70, og_71_0, og_71_1, ol_71, uo_0_1, uo_0_4, uo_0_8, ua_1, uo_2_0, uo_2_1, uo_2_2, uo_3_1, ua_4, uo_5_1, ua_6, ua_7, ua_8, uo_9_0, uo_9_1, uo_9_2, uo_10_1, ua_11, uo_12_1, ua_13, ua_14, ua_15, uo_17_1, ua_18, ua_19, ua_20, uo_21_4, ua_22, ua_23, ua_24, ua_25, uo_27_2, uo_27_6, uo_27_7, uo_27_8, ua_28, ua_29, ua_31, ua_32, ua_33, ua_34, uo_35_1, ua_36, uo_37_1, ua_38, uo_39_1, ua_40, uo_41_1, ua_42, uo_43_1, ua_44, uo_45_1, ua_46, uo_47_1, ua_48, uo_49_3, ua_51, ua_52, uo_53_1, ua_54, uo_55_1, ua_56, uo_57_1, ua_58, uo_59_1, ua_60, uo_61_1, ua_62, uo_63_1, ua_64, uo_66_1, ua_67, ua_68, ua_69, uo_71_1, ua_72, ua_73, ua_74, sO_g, sA_g, sA_O, sO_A, sO_2, sC_1, sC_2, sC_3, sC_4, sC_5, sC_6, sW_1, sW_2, sW_3, sW_4, uc_0, h1.1, ft_7_1, nu_fitI, nu_fitL, nu_fitO, nu_fitA, nu_fitB0, nu_fitB1]
      refine ⟨fun c => absurd c c1, fun _ => ⟨fun _ => ⟨fun c => ?_, fun c => ?_⟩, fun c => absurd (Int32.not_lt.mp c8) c⟩⟩
      · rw [lit_40, nI_add, nI_leI (by omega) (by omega)] at c
        rw [if_pos c]
        have h0 := key c n 0 (s.1 1) rfl (by omega) (fun _ _ => rfl) (fun j hj => absurd hj (Nat.not_lt_zero _))
        rw [sA_id] at h0
        exact h0
      · rw [lit_40, nI_add, nI_leI (by omega) (by omega)] at c
        rw [if_neg c]
        exact ⟨rfl, s, rfl, hC0, agM.rf⟩
theorem M_write (hk : SgOk g) (hM : InvM g s) (x : Int32) (v : Int64) : WM tb (d + 2) k_M_write [vR 75, vI x, vL v] (HP s) 0 0 (PostM (aWrite g x v).2 s (vI (aWrite g x v).1)) := by
  have hM0 := hM
  obtain ⟨h1, h2, h3, h4, h5, h6, h7, h8⟩ := hM
  have hl40 := hk.1
  refine WM.of mi_100 rfl rfl (Nat.le_of_ble_eq_true rfl) ?_
  show WP (mm_rw mr_100) (some .int) tb (WM tb (d + 1)) _ 0 [(0, vR 75), (1, vI x), (2, vL v)] [] (HP s) 0 0
  (try simp only [Option.toList_some, Option.toList_none, List.nil_append, List.append_nil, List.cons_append, Nat.sub_zero, Nat.sub_self, Nat.zero_sub]); refine Go.wp sp_100 200 ?_; simp only [↓g100_0, ↓g100_1, ↓g100_2, ↓g100_3, ↓g100_6, ↓g100_9, ↓g100_12, ↓g100_14, ↓g100_15, ↓g100_16, ↓g100_19, ↓g100_20, ↓g100_21, ↓g100_23, ↓g100_26, ↓g100_28, ↓g100_29, ↓g100_30, ↓g100_31, ↓g100_32, ↓g100_34, ↓g100_36, ↓g100_39, ↓g100_40, ↓g100_43, ↓g100_44, ↓g100_47, ↓g100_48, ↓g100_50, ↓g100_52, ↓g100_53, ↓g100_54, ↓g100_57, ↓g100_58, ↓g100_59, ↓g100_60, ↓g100_61, ↓g100_62, ↓g100_65, ↓g100_66, ↓g100_67, ↓g100_70, ↓g100_73, ↓g100_76, ↓g100_77, ↓g100_80, cl_99, cn_0, cn_1, cn_2, cn_3, cn_4, cn_5, cn_6, cn_7, cn_8, ↓Go_s, ↓GoC_a, ↓reduceIte, ↓mm_call_eq, ↓mmw_nil, ↓mmw_cons, List.take_succ_cons, List.take_zero, List.take_nil, List.drop_succ_cons, List.drop_zero, List.drop_nil, List.reverse_cons, List.reverse_nil, List.nil_append, List.cons_append, List.append_nil, Option.toList_some, Option.toList_none, Nat.sub_zero, Nat.le_refl, mmr_cons, mm_st1, mm_st2, mmi_nil, mmi_cons, mmc_I, mmc_L, mmc_R, mmu_get, mmu_one, mma_get, mma_one, List.filter_cons, List.filter_nil, List.contains_cons, List.contains_nil, Nat.reduceBEq, Nat.reduceAdd, Nat.reduceLT, Nat.reduceSub, Nat.reduceLeDiff, Nat.reduceEqDiff, Int32.reduceAdd, Bool.not_true, Bool.not_false, Bool.and_true, Bool.true_and, Bool.and_false, Bool.false_and, Bool.or_false, Bool.false_or, Bool.or_true, Bool.true_or, if_true, if_false, ite_true, ite_false, Bool.false_eq_true, List.getElem?_cons_zero, List.getElem?_cons_succ, List.length_cons, List.length_nil, true_and, and_true, List.set_cons_zero, List.set_cons_succ, Fin.isValue, Fin.val_zero, Fin.val_one, Fin.val_two, Fin.reduceFinMk, Nat.zero_add, hp_75, hp_76, hp_77, hp_78, hp_79, hp_80, hp_81, hp_82, hp_83, hp_84, hp_85, hp_86, hp_87, hp_88, hp_89, hp_90, hp_91, hp_92, hp_93, hp_94, hp_95, hp_96, hp_97, hp_98, og_75_0, og_75_1, og_75_2, og_75_3, og_75_4, og_75_5, og_75_6, og_75_7, og_75_8, og_75_9, og_75_10, og_75_11, og_75_12, og_75_13, og_75_14, og_75_15, og_75_16, og_75_17, og_75_18, og_75_19, og_75_20, og_75_21, og_75_22, og_75_23, og_75_24, og_75_25, og_75_26, og_75_27, og_75_28, og_75_29, og_75_30, og_75_31, og_75_32, og_75_33, og_75_34, og_75_35, og_75_36, og_75_37, og_75_38, og_75_39, og_75_40, og_75_41, ol_75, uo_75_4, uo_75_5, uo_75_6, uo_75_7, uo_75_11, uo_75_12, uo_75_13, uo_75_15, uo_75_19, uo_75_20, uo_75_21, uo_75_22, uo_75_23, uo_75_26, uo_75_30, uo_75_31, uo_75_32, uo_75_33, ua_76, ua_77, ua_78, ua_79, ua_80, ua_81, ua_82, ua_83, ua_84, ua_85, ua_86, ua_87, ua_88, ua_89, ua_90, ua_91, ua_92, ua_93, ua_94, ua_95, ua_96, ua_97, ua_98, sO_g, sA_g, sA_O, sO_A, sO_2, sM_1, sM_2, sM_3, sM_4, sM_5, sM_6, uc_75, ft_8_19, nu_fitI, nu_fitL, nu_fitO, nu_fitA, nu_fitB0, nu_fitB1]
  refine ⟨0, 0, _, Nat.le_refl _, Nat.le_refl _, M_in _ _ _ _, fun z h' hz => ?_⟩
  obtain ⟨rfl, rfl⟩ := hz
  by_cases c1 : x < 1
  · rw [aWrite_no (rg_no (n := 8) (by omega) (Or.inl c1)), decide_eq_false (show ¬ (1 : Int64) ≤ x.toInt64 from fun q => Int32.not_le.mpr c1 ((i64_le 1 x).mp q)), Bool.false_and]
    (try simp only [Option.toList_some, Option.toList_none, List.nil_append, List.append_nil, List.cons_append, Nat.sub_zero, Nat.sub_self, Nat.zero_sub]); refine Go.wp sp_100 200 ?_; simp only [↓g100_0, ↓g100_1, ↓g100_2, ↓g100_3, ↓g100_6, ↓g100_9, ↓g100_12, ↓g100_14, ↓g100_15, ↓g100_16, ↓g100_19, ↓g100_20, ↓g100_21, ↓g100_23, ↓g100_26, ↓g100_28, ↓g100_29, ↓g100_30, ↓g100_31, ↓g100_32, ↓g100_34, ↓g100_36, ↓g100_39, ↓g100_40, ↓g100_43, ↓g100_44, ↓g100_47, ↓g100_48, ↓g100_50, ↓g100_52, ↓g100_53, ↓g100_54, ↓g100_57, ↓g100_58, ↓g100_59, ↓g100_60, ↓g100_61, ↓g100_62, ↓g100_65, ↓g100_66, ↓g100_67, ↓g100_70, ↓g100_73, ↓g100_76, ↓g100_77, ↓g100_80, cl_99, cn_0, cn_1, cn_2, cn_3, cn_4, cn_5, cn_6, cn_7, cn_8, ↓Go_s, ↓GoC_a, ↓reduceIte, ↓mm_call_eq, ↓mmw_nil, ↓mmw_cons, List.take_succ_cons, List.take_zero, List.take_nil, List.drop_succ_cons, List.drop_zero, List.drop_nil, List.reverse_cons, List.reverse_nil, List.nil_append, List.cons_append, List.append_nil, Option.toList_some, Option.toList_none, Nat.sub_zero, Nat.le_refl, mmr_cons, mm_st1, mm_st2, mmi_nil, mmi_cons, mmc_I, mmc_L, mmc_R, mmu_get, mmu_one, mma_get, mma_one, List.filter_cons, List.filter_nil, List.contains_cons, List.contains_nil, Nat.reduceBEq, Nat.reduceAdd, Nat.reduceLT, Nat.reduceSub, Nat.reduceLeDiff, Nat.reduceEqDiff, Int32.reduceAdd, Bool.not_true, Bool.not_false, Bool.and_true, Bool.true_and, Bool.and_false, Bool.false_and, Bool.or_false, Bool.false_or, Bool.or_true, Bool.true_or, if_true, if_false, ite_true, ite_false, Bool.false_eq_true, List.getElem?_cons_zero, List.getElem?_cons_succ, List.length_cons, List.length_nil, true_and, and_true, List.set_cons_zero, List.set_cons_succ, Fin.isValue, Fin.val_zero, Fin.val_one, Fin.val_two, Fin.reduceFinMk, Nat.zero_add, hp_75, hp_76, hp_77, hp_78, hp_79, hp_80, hp_81, hp_82, hp_83, hp_84, hp_85, hp_86, hp_87, hp_88, hp_89, hp_90, hp_91, hp_92, hp_93, hp_94, hp_95, hp_96, hp_97, hp_98, og_75_0, og_75_1, og_75_2, og_75_3, og_75_4, og_75_5, og_75_6, og_75_7, og_75_8, og_75_9, og_75_10, og_75_11, og_75_12, og_75_13, og_75_14, og_75_15, og_75_16, og_75_17, og_75_18, og_75_19, og_75_20, og_75_21, og_75_22, og_75_23, og_75_24, og_75_25, og_75_26, og_75_27, og_75_28, og_75_29, og_75_30, og_75_31, og_75_32, og_75_33, og_75_34, og_75_35, og_75_36, og_75_37, og_75_38, og_75_39, og_75_40, og_75_41, ol_75, uo_75_4, uo_75_5, uo_75_6, uo_75_7, uo_75_11, uo_75_12, uo_75_13, uo_75_15, uo_75_19, uo_75_20, uo_75_21, uo_75_22, uo_75_23, uo_75_26, uo_75_30, uo_75_31, uo_75_32, uo_75_33, ua_76, ua_77, ua_78, ua_79, ua_80, ua_81, ua_82, ua_83, ua_84, ua_85, ua_86, ua_87, ua_88, ua_89, ua_90, ua_91, ua_92, ua_93, ua_94, ua_95, ua_96, ua_97, ua_98, sO_g, sA_g, sA_O, sO_A, sO_2, sM_1, sM_2, sM_3, sM_4, sM_5, sM_6, uc_75, b01_f, ft_8_19, nu_fitI, nu_fitL, nu_fitO, nu_fitA, nu_fitB0, nu_fitB1]
    exact ⟨fun c => absurd trivial c, fun _ => ⟨rfl, s, rfl, hM0, agC.rf⟩⟩
  · by_cases c8 : 8 < x
    · rw [aWrite_no (rg_no (n := 8) (by omega) (Or.inr c8)), decide_eq_false (show ¬ x.toInt64 ≤ (8 : Int64) from fun q => Int32.not_le.mpr c8 ((i64_le x 8).mp q)), Bool.and_false]
      (try simp only [Option.toList_some, Option.toList_none, List.nil_append, List.append_nil, List.cons_append, Nat.sub_zero, Nat.sub_self, Nat.zero_sub]); refine Go.wp sp_100 200 ?_; simp only [↓g100_0, ↓g100_1, ↓g100_2, ↓g100_3, ↓g100_6, ↓g100_9, ↓g100_12, ↓g100_14, ↓g100_15, ↓g100_16, ↓g100_19, ↓g100_20, ↓g100_21, ↓g100_23, ↓g100_26, ↓g100_28, ↓g100_29, ↓g100_30, ↓g100_31, ↓g100_32, ↓g100_34, ↓g100_36, ↓g100_39, ↓g100_40, ↓g100_43, ↓g100_44, ↓g100_47, ↓g100_48, ↓g100_50, ↓g100_52, ↓g100_53, ↓g100_54, ↓g100_57, ↓g100_58, ↓g100_59, ↓g100_60, ↓g100_61, ↓g100_62, ↓g100_65, ↓g100_66, ↓g100_67, ↓g100_70, ↓g100_73, ↓g100_76, ↓g100_77, ↓g100_80, cl_99, cn_0, cn_1, cn_2, cn_3, cn_4, cn_5, cn_6, cn_7, cn_8, ↓Go_s, ↓GoC_a, ↓reduceIte, ↓mm_call_eq, ↓mmw_nil, ↓mmw_cons, List.take_succ_cons, List.take_zero, List.take_nil, List.drop_succ_cons, List.drop_zero, List.drop_nil, List.reverse_cons, List.reverse_nil, List.nil_append, List.cons_append, List.append_nil, Option.toList_some, Option.toList_none, Nat.sub_zero, Nat.le_refl, mmr_cons, mm_st1, mm_st2, mmi_nil, mmi_cons, mmc_I, mmc_L, mmc_R, mmu_get, mmu_one, mma_get, mma_one, List.filter_cons, List.filter_nil, List.contains_cons, List.contains_nil, Nat.reduceBEq, Nat.reduceAdd, Nat.reduceLT, Nat.reduceSub, Nat.reduceLeDiff, Nat.reduceEqDiff, Int32.reduceAdd, Bool.not_true, Bool.not_false, Bool.and_true, Bool.true_and, Bool.and_false, Bool.false_and, Bool.or_false, Bool.false_or, Bool.or_true, Bool.true_or, if_true, if_false, ite_true, ite_false, Bool.false_eq_true, List.getElem?_cons_zero, List.getElem?_cons_succ, List.length_cons, List.length_nil, true_and, and_true, List.set_cons_zero, List.set_cons_succ, Fin.isValue, Fin.val_zero, Fin.val_one, Fin.val_two, Fin.reduceFinMk, Nat.zero_add, hp_75, hp_76, hp_77, hp_78, hp_79, hp_80, hp_81, hp_82, hp_83, hp_84, hp_85, hp_86, hp_87, hp_88, hp_89, hp_90, hp_91, hp_92, hp_93, hp_94, hp_95, hp_96, hp_97, hp_98, og_75_0, og_75_1, og_75_2, og_75_3, og_75_4, og_75_5, og_75_6, og_75_7, og_75_8, og_75_9, og_75_10, og_75_11, og_75_12, og_75_13, og_75_14, og_75_15, og_75_16, og_75_17, og_75_18, og_75_19, og_75_20, og_75_21, og_75_22, og_75_23, og_75_24, og_75_25, og_75_26, og_75_27, og_75_28, og_75_29, og_75_30, og_75_31, og_75_32, og_75_33, og_75_34, og_75_35, og_75_36, og_75_37, og_75_38, og_75_39, og_75_40, og_75_41, ol_75, uo_75_4, uo_75_5, uo_75_6, uo_75_7, uo_75_11, uo_75_12, uo_75_13, uo_75_15, uo_75_19, uo_75_20, uo_75_21, uo_75_22, uo_75_23, uo_75_26, uo_75_30, uo_75_31, uo_75_32, uo_75_33, ua_76, ua_77, ua_78, ua_79, ua_80, ua_81, ua_82, ua_83, ua_84, ua_85, ua_86, ua_87, ua_88, ua_89, ua_90, ua_91, ua_92, ua_93, ua_94, ua_95, ua_96, ua_97, ua_98, sO_g, sA_g, sA_O, sO_A, sO_2, sM_1, sM_2, sM_3, sM_4, sM_5, sM_6, uc_75, b01_f, ft_8_19, nu_fitI, nu_fitL, nu_fitO, nu_fitA, nu_fitB0, nu_fitB1]
      exact ⟨fun c => absurd trivial c, fun _ => ⟨rfl, s, rfl, hM0, agC.rf⟩⟩
    · rw [decide_eq_true (show (1 : Int64) ≤ x.toInt64 from (i64_le 1 x).mpr (Int32.not_lt.mp c1)), decide_eq_true (show x.toInt64 ≤ (8 : Int64) from (i64_le x 8).mpr (Int32.not_lt.mp c8)), Bool.true_and]
      obtain ⟨n, hn1, hn8, rfl, hok⟩ := rg_ok (n := 8) (by omega) c1 c8
      have hans : aWrite g (nI n) v = if (gTx g).length + n ≤ 40 then (nI ((gTx g).length + n), (gTx g ++ wBs v n, g.2)) else (mI 4, g) := by
        unfold aWrite
        rw [if_pos hok, nI_clamp (by omega)]
      rw [hans]
      have key : (gTx g).length + n ≤ 40 → ∀ r f, r ≤ n → (∀ j, j < (gTx g).length → f j = s.1 86 j) → (∀ j, j < n - r → f ((gTx g).length + j) = nI (wB v n j)) → WP (mm_rw mr_100) (some .int) tb (WM tb (d + 1)) (PostM (gTx g ++ wBs v n, g.2) s (vI (nI ((gTx g).length + n)))) 34 [(0, vR 75), (1, vI (nI n)), (2, vL v), (4, vI (kI r))] [] (HP (sO (sA s 86 f) 75 19 (nI ((gTx g).length + (n - r))))) 0 0 := by
        intro hle r
        induction r with
        | zero =>
          intro f hr hf1 hf2
          (try simp only [Option.toList_some, Option.toList_none, List.nil_append, List.append_nil, List.cons_append, Nat.sub_zero, Nat.sub_self, Nat.zero_sub]); refine Go.wp sp_100 200 ?_; simp only [↓g100_0, ↓g100_1, ↓g100_2, ↓g100_3, ↓g100_6, ↓g100_9, ↓g100_12, ↓g100_14, ↓g100_15, ↓g100_16, ↓g100_19, ↓g100_20, ↓g100_21, ↓g100_23, ↓g100_26, ↓g100_28, ↓g100_29, ↓g100_30, ↓g100_31, ↓g100_32, ↓g100_34, ↓g100_36, ↓g100_39, ↓g100_40, ↓g100_43, ↓g100_44, ↓g100_47, ↓g100_48, ↓g100_50, ↓g100_52, ↓g100_53, ↓g100_54, ↓g100_57, ↓g100_58, ↓g100_59, ↓g100_60, ↓g100_61, ↓g100_62, ↓g100_65, ↓g100_66, ↓g100_67, ↓g100_70, ↓g100_73, ↓g100_76, ↓g100_77, ↓g100_80, cl_99, cn_0, cn_1, cn_2, cn_3, cn_4, cn_5, cn_6, cn_7, cn_8, ↓Go_s, ↓GoC_a, ↓reduceIte, ↓mm_call_eq, ↓mmw_nil, ↓mmw_cons, List.take_succ_cons, List.take_zero, List.take_nil, List.drop_succ_cons, List.drop_zero, List.drop_nil, List.reverse_cons, List.reverse_nil, List.nil_append, List.cons_append, List.append_nil, Option.toList_some, Option.toList_none, Nat.sub_zero, Nat.le_refl, mmr_cons, mm_st1, mm_st2, mmi_nil, mmi_cons, mmc_I, mmc_L, mmc_R, mmu_get, mmu_one, mma_get, mma_one, List.filter_cons, List.filter_nil, List.contains_cons, List.contains_nil, Nat.reduceBEq, Nat.reduceAdd, Nat.reduceLT, Nat.reduceSub, Nat.reduceLeDiff, Nat.reduceEqDiff, Int32.reduceAdd, Bool.not_true, Bool.not_false, Bool.and_true, Bool.true_and, Bool.and_false, Bool.false_and, Bool.or_false, Bool.false_or, Bool.or_true, Bool.true_or, if_true, if_false, ite_true, ite_false, Bool.false_eq_true, List.getElem?_cons_zero, List.getElem?_cons_succ, List.length_cons, List.length_nil, true_and, and_true, List.set_cons_zero, List.set_cons_succ, Fin.isValue, Fin.val_zero, Fin.val_one, Fin.val_two, Fin.reduceFinMk, Nat.zero_add, hp_75, hp_76, hp_77, hp_78, hp_79, hp_80, hp_81, hp_82, hp_83, hp_84, hp_85, hp_86, hp_87, hp_88, hp_89, hp_90, hp_91, hp_92, hp_93, hp_94, hp_95, hp_96, hp_97, hp_98, og_75_0, og_75_1, og_75_2, og_75_3, og_75_4, og_75_5, og_75_6, og_75_7, og_75_8, og_75_9, og_75_10, og_75_11, og_75_12, og_75_13, og_75_14, og_75_15, og_75_16, og_75_17, og_75_18, og_75_19, og_75_20, og_75_21, og_75_22, og_75_23, og_75_24, og_75_25, og_75_26, og_75_27, og_75_28, og_75_29, og_75_30, og_75_31, og_75_32, og_75_33, og_75_34, og_75_35, og_75_36, og_75_37, og_75_38, og_75_39, og_75_40, og_75_41, ol_75, uo_75_4, uo_75_5, uo_75_6, uo_75_7, uo_75_11, uo_75_12, uo_75_13, uo_75_15, uo_75_19, uo_75_20, uo_75_21, uo_75_22, uo_75_23, uo_75_26, uo_75_30, uo_75_31, uo_75_32, uo_75_33, ua_76, ua_77, ua_78, ua_79, ua_80, ua_81, ua_82, ua_83, ua_84, ua_85, ua_86, ua_87, ua_88, ua_89, ua_90, ua_91, ua_92, ua_93, ua_94, ua_95, ua_96, ua_97, ua_98, sO_g, sA_g, sA_O, sO_A, sO_2, sM_1, sM_2, sM_3, sM_4, sM_5, sM_6, uc_75, ft_8_19, nu_fitI, nu_fitL, nu_fitO, nu_fitA, nu_fitB0, nu_fitB1]
          refine ⟨fun _ => ⟨rfl, _, rfl, ⟨⟨?_, fun j hj => ?_⟩, h2, h3, h4, h5, h6, h7, h8⟩, (agC.sA (by omega)).tr (agC.sO (by omega))⟩, fun c => absurd (by decide) c⟩
          · show nI _ = nI (gTx g ++ wBs v n).length
            rw [List.length_append, wBs_len]
          · show f j = nI ((gTx g ++ wBs v n).getD j 0)
            have hj : j < (gTx g ++ wBs v n).length := hj
            rw [List.length_append, wBs_len] at hj
            rw [tx_get]
            split
            · rename_i c
              rw [hf1 j c]
              exact h1.2 j c
            · rename_i c
              rw [wBs_get v (by omega), ← hf2 (j - (gTx g).length) (by omega), show (gTx g).length + (j - (gTx g).length) = j by omega]
        | succ r ih =>
          intro f hr hf1 hf2
          rw [kI_s]
          have hc : (nI ((gTx g).length + (n - (r + 1)))).toNatClampNeg = (gTx g).length + (n - (r + 1)) := nI_clamp (by omega)
          have e8 : (8 : Int32) * nI r = nI (8 * r) := by rw [lit_8, pk_mul]
          (try simp only [Option.toList_some, Option.toList_none, List.nil_append, List.append_nil, List.cons_append, Nat.sub_zero, Nat.sub_self, Nat.zero_sub]); refine Go.wp sp_100 200 ?_; simp only [↓g100_0, ↓g100_1, ↓g100_2, ↓g100_3, ↓g100_6, ↓g100_9, ↓g100_12, ↓g100_14, ↓g100_15, ↓g100_16, ↓g100_19, ↓g100_20, ↓g100_21, ↓g100_23, ↓g100_26, ↓g100_28, ↓g100_29, ↓g100_30, ↓g100_31, ↓g100_32, ↓g100_34, ↓g100_36, ↓g100_39, ↓g100_40, ↓g100_43, ↓g100_44, ↓g100_47, ↓g100_48, ↓g100_50, ↓g100_52, ↓g100_53, ↓g100_54, ↓g100_57, ↓g100_58, ↓g100_59, ↓g100_60, ↓g100_61, ↓g100_62, ↓g100_65, ↓g100_66, ↓g100_67, ↓g100_70, ↓g100_73, ↓g100_76, ↓g100_77, ↓g100_80, cl_99, cn_0, cn_1, cn_2, cn_3, cn_4, cn_5, cn_6, cn_7, cn_8, ↓Go_s, ↓GoC_a, ↓reduceIte, ↓mm_call_eq, ↓mmw_nil, ↓mmw_cons, List.take_succ_cons, List.take_zero, List.take_nil, List.drop_succ_cons, List.drop_zero, List.drop_nil, List.reverse_cons, List.reverse_nil, List.nil_append, List.cons_append, List.append_nil, Option.toList_some, Option.toList_none, Nat.sub_zero, Nat.le_refl, mmr_cons, mm_st1, mm_st2, mmi_nil, mmi_cons, mmc_I, mmc_L, mmc_R, mmu_get, mmu_one, mma_get, mma_one, List.filter_cons, List.filter_nil, List.contains_cons, List.contains_nil, Nat.reduceBEq, Nat.reduceAdd, Nat.reduceLT, Nat.reduceSub, Nat.reduceLeDiff, Nat.reduceEqDiff, Int32.reduceAdd, Bool.not_true, Bool.not_false, Bool.and_true, Bool.true_and, Bool.and_false, Bool.false_and, Bool.or_false, Bool.false_or, Bool.or_true, Bool.true_or, if_true, if_false, ite_true, ite_false, Bool.false_eq_true, List.getElem?_cons_zero, List.getElem?_cons_succ, List.length_cons, List.length_nil, true_and, and_true, List.set_cons_zero, List.set_cons_succ, Fin.isValue, Fin.val_zero, Fin.val_one, Fin.val_two, Fin.reduceFinMk, Nat.zero_add, hp_75, hp_76, hp_77, hp_78, hp_79, hp_80, hp_81, hp_82, hp_83, hp_84, hp_85, hp_86, hp_87, hp_88, hp_89, hp_90, hp_91, hp_92, hp_93, hp_94, hp_95, hp_96, hp_97, hp_98, og_75_0, og_75_1, og_75_2, og_75_3, og_75_4, og_75_5, og_75_6, og_75_7, og_75_8, og_75_9, og_75_10, og_75_11, og_75_12, og_75_13, og_75_14, og_75_15, og_75_16, og_75_17, og_75_18, og_75_19, og_75_20, og_75_21, og_75_22, og_75_23, og_75_24, og_75_25, og_75_26, og_75_27, og_75_28, og_75_29, og_75_30, og_75_31, og_75_32, og_75_33, og_75_34, og_75_35, og_75_36, og_75_37, og_75_38, og_75_39, og_75_40, og_75_41, ol_75, uo_75_4, uo_75_5, uo_75_6, uo_75_7, uo_75_11, uo_75_12, uo_75_13, uo_75_15, uo_75_19, uo_75_20, uo_75_21, uo_75_22, uo_75_23, uo_75_26, uo_75_30, uo_75_31, uo_75_32, uo_75_33, ua_76, ua_77, ua_78, ua_79, ua_80, ua_81, ua_82, ua_83, ua_84, ua_85, ua_86, ua_87, ua_88, ua_89, ua_90, ua_91, ua_92, ua_93, ua_94, ua_95, ua_96, ua_97, ua_98, sO_g, sA_g, sA_O, sO_A, sO_2, sM_1, sM_2, sM_3, sM_4, sM_5, sM_6, uc_75, hc, e8, sar255 v (show 8 * r ≤ 56 by omega), lN_i, nI_1, kI_dec, ft_8_19, nu_fitI, nu_fitL, nu_fitO, nu_fitA, nu_fitB0, nu_fitB1]
          rw [sA_sO, sO_sO, sA_sA, show (gTx g).length + (n - (r + 1)) + 1 = (gTx g).length + (n - r) by omega]
          refine ⟨fun c => absurd (nI_pos' (by omega)) (Int32.not_le.mpr c), fun _ => ⟨vp_in_nI (by omega) (by omega), ih _ (by omega) (fun j hj => ?_) (fun j hj => ?_)⟩⟩
          · unfold upd
            rw [if_neg (by omega)]
            exact hf1 j hj
          · unfold upd
            by_cases e : j = n - (r + 1)
            · rw [if_pos (by omega), e]
              unfold wB
              rw [show n - 1 - (n - (r + 1)) = r by omega]
            · rw [if_neg (by omega)]
              exact hf2 j (by omega)
      (try simp only [Option.toList_some, Option.toList_none, List.nil_append, List.append_nil, List.cons_append, Nat.sub_zero, Nat.sub_self, Nat.zero_sub]); refine Go.wp sp_100 200 ?_; simp only [↓g100_0, ↓g100_1, ↓g100_2, ↓g100_3, ↓g100_6, ↓g100_9, ↓g100_12, ↓g100_14, ↓g100_15, ↓g100_16, ↓g100_19, ↓g100_20, ↓g100_21, ↓g100_23, ↓g100_26, ↓g100_28, ↓g100_29, ↓g100_30, ↓g100_31, ↓g100_32, ↓g100_34, ↓g100_36, ↓g100_39, ↓g100_40, ↓g100_43, ↓g100_44, ↓g100_47, ↓g100_48, ↓g100_50, ↓g100_52, ↓g100_53, ↓g100_54, ↓g100_57, ↓g100_58, ↓g100_59, ↓g100_60, ↓g100_61, ↓g100_62, ↓g100_65, ↓g100_66, ↓g100_67, ↓g100_70, ↓g100_73, ↓g100_76, ↓g100_77, ↓g100_80, cl_99, cn_0, cn_1, cn_2, cn_3, cn_4, cn_5, cn_6, cn_7, cn_8, ↓Go_s, ↓GoC_a, ↓reduceIte, ↓mm_call_eq, ↓mmw_nil, ↓mmw_cons, List.take_succ_cons, List.take_zero, List.take_nil, List.drop_succ_cons, List.drop_zero, List.drop_nil, List.reverse_cons, List.reverse_nil, List.nil_append, List.cons_append, List.append_nil, Option.toList_some, Option.toList_none, Nat.sub_zero, Nat.le_refl, mmr_cons, mm_st1, mm_st2, mmi_nil, mmi_cons, mmc_I, mmc_L, mmc_R, mmu_get, mmu_one, mma_get, mma_one, List.filter_cons, List.filter_nil, List.contains_cons, List.contains_nil, Nat.reduceBEq, Nat.reduceAdd, Nat.reduceLT, Nat.reduceSub, Nat.reduceLeDiff, Nat.reduceEqDiff, Int32.reduceAdd, Bool.not_true, Bool.not_false, Bool.and_true, Bool.true_and, Bool.and_false, Bool.false_and, Bool.or_false, Bool.false_or, Bool.or_true, Bool.true_or, if_true, if_false, ite_true, ite_false, Bool.false_eq_true, List.getElem?_cons_zero, List.getElem?_cons_succ, List.length_cons, List.length_nil, true_and, and_true, List.set_cons_zero, List.set_cons_succ, Fin.isValue, Fin.val_zero, Fin.val_one, Fin.val_two, Fin.reduceFinMk, Nat.zero_add, hp_75, hp_76, hp_77, hp_78, hp_79, hp_80, hp_81, hp_82, hp_83, hp_84, hp_85, hp_86, hp_87, hp_88, hp_89, hp_90, hp_91, hp_92, hp_93, hp_94, hp_95, hp_96, hp_97, hp_98, og_75_0, og_75_1, og_75_2, og_75_3, og_75_4, og_75_5, og_75_6, og_75_7, og_75_8, og_75_9, og_75_10, og_75_11, og_75_12, og_75_13, og_75_14, og_75_15, og_75_16, og_75_17, og_75_18, og_75_19, og_75_20, og_75_21, og_75_22, og_75_23, og_75_24, og_75_25, og_75_26, og_75_27, og_75_28, og_75_29, og_75_30, og_75_31, og_75_32, og_75_33, og_75_34, og_75_35, og_75_36, og_75_37, og_75_38, og_75_39, og_75_40, og_75_41, ol_75, uo_75_4, uo_75_5, uo_75_6, uo_75_7, uo_75_11, uo_75_12, uo_75_13, uo_75_15, uo_75_19, uo_75_20, uo_75_21, uo_75_22, uo_75_23, uo_75_26, uo_75_30, uo_75_31, uo_75_32, uo_75_33, ua_76, ua_77, ua_78, ua_79, ua_80, ua_81, ua_82, ua_83, ua_84, ua_85, ua_86, ua_87, ua_88, ua_89, ua_90, ua_91, ua_92, ua_93, ua_94, ua_95, ua_96, ua_97, ua_98, sO_g, sA_g, sA_O, sO_A, sO_2, sM_1, sM_2, sM_3, sM_4, sM_5, sM_6, uc_75, h1.1, b01_t, ft_8_19, nu_fitI, nu_fitL, nu_fitO, nu_fitA, nu_fitB0, nu_fitB1]
      rw [lit_40, nI_add, nI_leI (by omega) (by omega)]
      refine ⟨fun _ => ⟨fun c => ?_, fun c => ?_⟩, fun c => absurd c (by decide)⟩
      · rw [if_pos c]
        have h0 := key c n (s.1 86) (by omega) (fun _ _ => rfl) (fun j hj => absurd hj (by omega))
        rw [sA_id, show (gTx g).length + (n - n) = (gTx g).length by omega, ← h1.1, sO_id, show kI n = nI n - 1 by rw [← kI_dec, Int32.sub_eq_add_neg]; rfl] at h0
        exact h0
      · rw [if_neg c]
        exact ⟨rfl, s, rfl, hM0, agC.rf⟩
end WRITE
