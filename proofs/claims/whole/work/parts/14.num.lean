/-! numbers: what simp may use; its side goals go to omega -/
theorem lit_0 : (0 : Int32) = nI 0 := rfl
theorem lit_1 : (1 : Int32) = nI 1 := rfl
theorem lit_2 : (2 : Int32) = nI 2 := rfl
theorem lit_3 : (3 : Int32) = nI 3 := rfl
theorem lit_4 : (4 : Int32) = nI 4 := rfl
theorem lit_5 : (5 : Int32) = nI 5 := rfl
theorem lit_6 : (6 : Int32) = nI 6 := rfl
theorem lit_7 : (7 : Int32) = nI 7 := rfl
theorem lit_8 : (8 : Int32) = nI 8 := rfl
theorem lit_9 : (9 : Int32) = nI 9 := rfl
theorem lit_10 : (10 : Int32) = nI 10 := rfl
theorem lit_16 : (16 : Int32) = nI 16 := rfl
theorem lit_40 : (40 : Int32) = nI 40 := rfl
theorem lit_48 : (48 : Int32) = nI 48 := rfl
theorem lit_60 : (60 : Int32) = nI 60 := rfl
theorem lit_67 : (67 : Int32) = nI 67 := rfl
theorem lit_76 : (76 : Int32) = nI 76 := rfl
theorem lit_82 : (82 : Int32) = nI 82 := rfl
theorem lit_99 : (99 : Int32) = nI 99 := rfl
theorem lit_100 : (100 : Int32) = nI 100 := rfl
theorem lit_255 : (255 : Int32) = nI 255 := rfl
theorem lit_508 : (508 : Int32) = nI 508 := rfl
theorem lit_720 : (720 : Int32) = nI 720 := rfl
theorem lit_1023 : (1023 : Int32) = nI 1023 := rfl
/-- the answers below nought -/
def mI (n : Nat) : Int32 := -nI n
theorem mI_toInt {n : Nat} (h : n < 2 ^ 31) : (mI n).toInt = -(n : Int) := sb_negT h
theorem nu_m {a b : Nat} (ha : a < 2 ^ 31) (h0 : 0 < b) (hb : b < 2 ^ 31) : (nI a = mI b) = False := eq_false (by
  intro e
  have h1 := nI_toInt ha
  have h2 := mI_toInt hb
  rw [e, h2] at h1
  omega)
theorem nu_m' {a b : Nat} (ha : a < 2 ^ 31) (h0 : 0 < b) (hb : b < 2 ^ 31) : (mI b = nI a) = False := by rw [← nu_m ha h0 hb]; exact propext eq_comm
theorem nu_lm {a b : Nat} (ha : a < 2 ^ 31) (h0 : 0 < b) (hb : b < 2 ^ 31) : (nI a ≤ mI b) = False := eq_false (by
  intro e
  have h1 := nI_toInt ha
  have h2 := mI_toInt hb
  have h3 := Int32.le_iff_toInt_le.mp e
  omega)
theorem nu_ml {a b : Nat} (ha : a < 2 ^ 31) (hb : b < 2 ^ 31) : (mI b ≤ nI a) = True := eq_true (by
  have h1 := nI_toInt ha
  have h2 := mI_toInt hb
  exact Int32.le_iff_toInt_le.mpr (by omega))
theorem nu_ltm {a b : Nat} (ha : a < 2 ^ 31) (hb : b < 2 ^ 31) : (nI a < mI b) = False := eq_false (by
  intro e
  have h1 := nI_toInt ha
  have h2 := mI_toInt hb
  have h3 := Int32.lt_iff_toInt_lt.mp e
  omega)
theorem nu_mlt {a b : Nat} (ha : a < 2 ^ 31) (h0 : 0 < b) (hb : b < 2 ^ 31) : (mI b < nI a) = True := eq_true (by
  have h1 := nI_toInt ha
  have h2 := mI_toInt hb
  exact Int32.lt_iff_toInt_lt.mpr (by omega))
theorem nu_mm {a b : Nat} (ha : a < 2 ^ 31) (hb : b < 2 ^ 31) : (mI a = mI b) = (a = b) := by
  apply propext
  constructor
  · intro e
    have h1 := mI_toInt ha
    have h2 := mI_toInt hb
    rw [e, h2] at h1
    omega
  · intro e; rw [e]
theorem nu_dec {n : Nat} (h : 0 < n) : nI n + mI 1 = nI (n - 1) := sb_m1 h
theorem nu_in {n N : Nat} (h : n < 2 ^ 31) : vp_in (nI n) N = (n < N) := by
  apply propext
  unfold vp_in
  rw [nI_clamp h]
  constructor
  · intro z
    exact Nat.not_le.mp (fun q => z (Or.inr q))
  · intro z q
    rcases q with q | q
    · exact nI_pos h q
    · omega
theorem nu_le {a b : Nat} (ha : a < 2 ^ 31) (hb : b < 2 ^ 31) : (nI a ≤ nI b) = (a ≤ b) := propext (nI_leI ha hb)
theorem nu_lt {a b : Nat} (ha : a < 2 ^ 31) (hb : b < 2 ^ 31) : (nI a < nI b) = (a < b) := propext (nI_ltI ha hb)
theorem nu_eq {a b : Nat} (ha : a < 2 ^ 31) (hb : b < 2 ^ 31) : (nI a = nI b) = (a = b) := propext (nI_eq ha hb)
theorem nu_rem {a d : Nat} (ha : a < 2 ^ 31) (h0 : 0 < d) (hd : d < 2 ^ 31) : nI a - nI a / nI d * nI d = nI (a % d) := pk_rem ha h0 hd
theorem nu_rem2 (a d : Nat) : nI a - nI (a / d * d) = nI (a % d) := by
  rw [pk_sub (Nat.div_mul_le_self a d)]
  congr 1
  have := Nat.div_add_mod a d
  rw [Nat.mul_comm] at this
  omega
theorem nu_fitI (x : Int32) : mm_fit .int (.inl x) = True := rfl
theorem nu_fitL (x : Int64) : mm_fit .long (.inr (.inl x)) = True := rfl
theorem nu_fitO (n : String) (x : Option Nat) : mm_fit (.object n) (.inr (.inr (.inl x))) = True := rfl
theorem nu_fitA (t : FieldType) (x : Option Nat) : mm_fit (.array t) (.inr (.inr (.inl x))) = True := rfl
theorem nu_fitB0 : mm_fit .boolean (.inl 0) = True := eq_true (Or.inl rfl)
theorem nu_fitB1 : mm_fit .boolean (.inl 1) = True := eq_true (Or.inr rfl)
theorem ft_0_0 : mm_ft 0 0 = .array .int := rfl
theorem ft_0_1 : mm_ft 0 1 = .array .int := rfl
theorem ft_0_2 : mm_ft 0 2 = .array .int := rfl
theorem ft_0_3 : mm_ft 0 3 = .array .int := rfl
theorem ft_0_4 : mm_ft 0 4 = .int := rfl
theorem ft_1_0 : mm_ft 1 0 = .object "BesideBook$Row" := rfl
theorem ft_1_1 : mm_ft 1 1 = .array .int := rfl
theorem ft_1_2 : mm_ft 1 2 = .array .int := rfl
theorem ft_2_0 : mm_ft 2 0 = .array .int := rfl
theorem ft_2_1 : mm_ft 2 1 = .array .int := rfl
theorem ft_2_2 : mm_ft 2 2 = .int := rfl
theorem ft_2_3 : mm_ft 2 3 = .array (.object "BesideBook$Row") := rfl
theorem ft_2_4 : mm_ft 2 4 = .array .int := rfl
theorem ft_2_5 : mm_ft 2 5 = .array .int := rfl
theorem ft_2_6 : mm_ft 2 6 = .int := rfl
theorem ft_2_7 : mm_ft 2 7 = .int := rfl
theorem ft_2_8 : mm_ft 2 8 = .int := rfl
theorem ft_2_9 : mm_ft 2 9 = .array .int := rfl
theorem ft_2_10 : mm_ft 2 10 = .array .int := rfl
theorem ft_3_0 : mm_ft 3 0 = .array (.object "BesideBook$Row") := rfl
theorem ft_3_1 : mm_ft 3 1 = .array .int := rfl
theorem ft_3_2 : mm_ft 3 2 = .array .int := rfl
theorem ft_3_3 : mm_ft 3 3 = .int := rfl
theorem ft_4_0 : mm_ft 4 0 = .int := rfl
theorem ft_4_1 : mm_ft 4 1 = .int := rfl
theorem ft_4_2 : mm_ft 4 2 = .int := rfl
theorem ft_4_3 : mm_ft 4 3 = .object "BesideBook$Row" := rfl
theorem ft_4_4 : mm_ft 4 4 = .object "BesideBook$Row" := rfl
theorem ft_4_5 : mm_ft 4 5 = .array .int := rfl
theorem ft_4_6 : mm_ft 4 6 = .array .int := rfl
theorem ft_5_0 : mm_ft 5 0 = .array .int := rfl
theorem ft_5_1 : mm_ft 5 1 = .int := rfl
theorem ft_6_0 : mm_ft 6 0 = .array .int := rfl
theorem ft_6_1 : mm_ft 6 1 = .array .int := rfl
theorem ft_6_2 : mm_ft 6 2 = .array .int := rfl
theorem ft_6_3 : mm_ft 6 3 = .object "BesideBook$Row" := rfl
theorem ft_6_4 : mm_ft 6 4 = .int := rfl
theorem ft_6_5 : mm_ft 6 5 = .int := rfl
theorem ft_6_6 : mm_ft 6 6 = .int := rfl
theorem ft_7_0 : mm_ft 7 0 = .array .byte := rfl
theorem ft_7_1 : mm_ft 7 1 = .int := rfl
theorem ft_7_2 : mm_ft 7 2 = .object "BesideBook$Plan" := rfl
theorem ft_7_3 : mm_ft 7 3 = .object "BesideBook$Plan" := rfl
theorem ft_7_4 : mm_ft 7 4 = .int := rfl
theorem ft_7_5 : mm_ft 7 5 = .object "BesideBook$Desk" := rfl
theorem ft_7_6 : mm_ft 7 6 = .object "BesideBook$Acts" := rfl
theorem ft_7_7 : mm_ft 7 7 = .array (.object "BesideBook$Desk") := rfl
theorem ft_7_8 : mm_ft 7 8 = .int := rfl
theorem ft_7_9 : mm_ft 7 9 = .object "BesideBook$Guess" := rfl
theorem ft_7_10 : mm_ft 7 10 = .object "BesideBook$Line" := rfl
theorem ft_7_11 : mm_ft 7 11 = .object "BesideBook$Row" := rfl
theorem ft_7_12 : mm_ft 7 12 = .object "BesideBook$Search" := rfl
theorem ft_7_13 : mm_ft 7 13 = .long := rfl
theorem ft_8_0 : mm_ft 8 0 = .array .int := rfl
theorem ft_8_1 : mm_ft 8 1 = .array .int := rfl
theorem ft_8_2 : mm_ft 8 2 = .array .int := rfl
theorem ft_8_3 : mm_ft 8 3 = .array .int := rfl
theorem ft_8_4 : mm_ft 8 4 = .int := rfl
theorem ft_8_5 : mm_ft 8 5 = .int := rfl
theorem ft_8_6 : mm_ft 8 6 = .int := rfl
theorem ft_8_7 : mm_ft 8 7 = .boolean := rfl
theorem ft_8_8 : mm_ft 8 8 = .array .int := rfl
theorem ft_8_9 : mm_ft 8 9 = .array .int := rfl
theorem ft_8_10 : mm_ft 8 10 = .array .int := rfl
theorem ft_8_11 : mm_ft 8 11 = .int := rfl
theorem ft_8_12 : mm_ft 8 12 = .int := rfl
theorem ft_8_13 : mm_ft 8 13 = .int := rfl
theorem ft_8_14 : mm_ft 8 14 = .array .int := rfl
theorem ft_8_15 : mm_ft 8 15 = .int := rfl
theorem ft_8_16 : mm_ft 8 16 = .array .int := rfl
theorem ft_8_17 : mm_ft 8 17 = .array .int := rfl
theorem ft_8_18 : mm_ft 8 18 = .array .int := rfl
theorem ft_8_19 : mm_ft 8 19 = .int := rfl
theorem ft_8_20 : mm_ft 8 20 = .int := rfl
theorem ft_8_21 : mm_ft 8 21 = .int := rfl
theorem ft_8_22 : mm_ft 8 22 = .int := rfl
theorem ft_8_23 : mm_ft 8 23 = .int := rfl
theorem ft_8_24 : mm_ft 8 24 = .array .int := rfl
theorem ft_8_25 : mm_ft 8 25 = .array .int := rfl
theorem ft_8_26 : mm_ft 8 26 = .int := rfl
theorem ft_8_27 : mm_ft 8 27 = .array .int := rfl
theorem ft_8_28 : mm_ft 8 28 = .array .int := rfl
theorem ft_8_29 : mm_ft 8 29 = .array .int := rfl
theorem ft_8_30 : mm_ft 8 30 = .int := rfl
theorem ft_8_31 : mm_ft 8 31 = .int := rfl
theorem ft_8_32 : mm_ft 8 32 = .int := rfl
theorem ft_8_33 : mm_ft 8 33 = .int := rfl
theorem ft_8_34 : mm_ft 8 34 = .array .int := rfl
theorem ft_8_35 : mm_ft 8 35 = .array .int := rfl
theorem ft_8_36 : mm_ft 8 36 = .array .int := rfl
theorem ft_8_37 : mm_ft 8 37 = .array .int := rfl
theorem ft_8_38 : mm_ft 8 38 = .array .int := rfl
theorem ft_8_39 : mm_ft 8 39 = .long := rfl
theorem ft_8_40 : mm_ft 8 40 = .array .boolean := rfl
theorem ft_8_41 : mm_ft 8 41 = .array .int := rfl
theorem cn_0 : mm_cn 0 = "BesideBook$Acts" := rfl
theorem cn_1 : mm_cn 1 = "BesideBook$Desk" := rfl
theorem cn_2 : mm_cn 2 = "BesideBook$Guess" := rfl
theorem cn_3 : mm_cn 3 = "BesideBook$Line" := rfl
theorem cn_4 : mm_cn 4 = "BesideBook$Plan" := rfl
theorem cn_5 : mm_cn 5 = "BesideBook$Row" := rfl
theorem cn_6 : mm_cn 6 = "BesideBook$Search" := rfl
theorem cn_7 : mm_cn 7 = "BesideBook" := rfl
theorem cn_8 : mm_cn 8 = "BesideBookModel" := rfl
theorem cl_0 : (mm_mi 0).1.cls = "BesideBook$Acts" := rfl
theorem cl_1 : (mm_mi 1).1.cls = "BesideBook$Acts" := rfl
theorem cl_2 : (mm_mi 2).1.cls = "BesideBook$Acts" := rfl
theorem cl_3 : (mm_mi 3).1.cls = "BesideBook$Acts" := rfl
theorem cl_4 : (mm_mi 4).1.cls = "BesideBook$Desk" := rfl
theorem cl_5 : (mm_mi 5).1.cls = "BesideBook$Desk" := rfl
theorem cl_6 : (mm_mi 6).1.cls = "BesideBook$Desk" := rfl
theorem cl_7 : (mm_mi 7).1.cls = "BesideBook$Desk" := rfl
theorem cl_8 : (mm_mi 8).1.cls = "BesideBook$Guess" := rfl
theorem cl_9 : (mm_mi 9).1.cls = "BesideBook$Guess" := rfl
theorem cl_10 : (mm_mi 10).1.cls = "BesideBook$Guess" := rfl
theorem cl_11 : (mm_mi 11).1.cls = "BesideBook$Guess" := rfl
theorem cl_12 : (mm_mi 12).1.cls = "BesideBook$Guess" := rfl
theorem cl_13 : (mm_mi 13).1.cls = "BesideBook$Guess" := rfl
theorem cl_14 : (mm_mi 14).1.cls = "BesideBook$Guess" := rfl
theorem cl_15 : (mm_mi 15).1.cls = "BesideBook$Guess" := rfl
theorem cl_16 : (mm_mi 16).1.cls = "BesideBook$Guess" := rfl
theorem cl_17 : (mm_mi 17).1.cls = "BesideBook$Guess" := rfl
theorem cl_18 : (mm_mi 18).1.cls = "BesideBook$Guess" := rfl
theorem cl_19 : (mm_mi 19).1.cls = "BesideBook$Line" := rfl
theorem cl_20 : (mm_mi 20).1.cls = "BesideBook$Line" := rfl
theorem cl_21 : (mm_mi 21).1.cls = "BesideBook$Line" := rfl
theorem cl_22 : (mm_mi 22).1.cls = "BesideBook$Line" := rfl
theorem cl_23 : (mm_mi 23).1.cls = "BesideBook$Line" := rfl
theorem cl_24 : (mm_mi 24).1.cls = "BesideBook$Plan" := rfl
theorem cl_25 : (mm_mi 25).1.cls = "BesideBook$Plan" := rfl
theorem cl_26 : (mm_mi 26).1.cls = "BesideBook$Plan" := rfl
theorem cl_27 : (mm_mi 27).1.cls = "BesideBook$Plan" := rfl
theorem cl_28 : (mm_mi 28).1.cls = "BesideBook$Plan" := rfl
theorem cl_29 : (mm_mi 29).1.cls = "BesideBook$Plan" := rfl
theorem cl_30 : (mm_mi 30).1.cls = "BesideBook$Plan" := rfl
theorem cl_31 : (mm_mi 31).1.cls = "BesideBook$Row" := rfl
theorem cl_32 : (mm_mi 32).1.cls = "BesideBook$Row" := rfl
theorem cl_33 : (mm_mi 33).1.cls = "BesideBook$Row" := rfl
theorem cl_34 : (mm_mi 34).1.cls = "BesideBook$Row" := rfl
theorem cl_35 : (mm_mi 35).1.cls = "BesideBook$Row" := rfl
theorem cl_36 : (mm_mi 36).1.cls = "BesideBook$Row" := rfl
theorem cl_37 : (mm_mi 37).1.cls = "BesideBook$Row" := rfl
theorem cl_38 : (mm_mi 38).1.cls = "BesideBook$Row" := rfl
theorem cl_39 : (mm_mi 39).1.cls = "BesideBook$Row" := rfl
theorem cl_40 : (mm_mi 40).1.cls = "BesideBook$Row" := rfl
theorem cl_41 : (mm_mi 41).1.cls = "BesideBook$Row" := rfl
theorem cl_42 : (mm_mi 42).1.cls = "BesideBook$Row" := rfl
theorem cl_43 : (mm_mi 43).1.cls = "BesideBook$Row" := rfl
theorem cl_44 : (mm_mi 44).1.cls = "BesideBook$Row" := rfl
theorem cl_45 : (mm_mi 45).1.cls = "BesideBook$Search" := rfl
theorem cl_46 : (mm_mi 46).1.cls = "BesideBook$Search" := rfl
theorem cl_47 : (mm_mi 47).1.cls = "BesideBook$Search" := rfl
theorem cl_48 : (mm_mi 48).1.cls = "BesideBook$Search" := rfl
theorem cl_49 : (mm_mi 49).1.cls = "BesideBook$Search" := rfl
theorem cl_50 : (mm_mi 50).1.cls = "BesideBook$Search" := rfl
theorem cl_51 : (mm_mi 51).1.cls = "BesideBook$Search" := rfl
theorem cl_52 : (mm_mi 52).1.cls = "BesideBook$Search" := rfl
theorem cl_53 : (mm_mi 53).1.cls = "BesideBook$Search" := rfl
theorem cl_54 : (mm_mi 54).1.cls = "BesideBook" := rfl
theorem cl_55 : (mm_mi 55).1.cls = "BesideBook" := rfl
theorem cl_56 : (mm_mi 56).1.cls = "BesideBook" := rfl
theorem cl_57 : (mm_mi 57).1.cls = "BesideBook" := rfl
theorem cl_58 : (mm_mi 58).1.cls = "BesideBook" := rfl
theorem cl_59 : (mm_mi 59).1.cls = "BesideBook" := rfl
theorem cl_60 : (mm_mi 60).1.cls = "BesideBook" := rfl
theorem cl_61 : (mm_mi 61).1.cls = "BesideBook" := rfl
theorem cl_62 : (mm_mi 62).1.cls = "BesideBook" := rfl
theorem cl_63 : (mm_mi 63).1.cls = "BesideBook" := rfl
theorem cl_64 : (mm_mi 64).1.cls = "BesideBook" := rfl
theorem cl_65 : (mm_mi 65).1.cls = "BesideBook" := rfl
theorem cl_66 : (mm_mi 66).1.cls = "BesideBook" := rfl
theorem cl_67 : (mm_mi 67).1.cls = "BesideBook" := rfl
theorem cl_68 : (mm_mi 68).1.cls = "BesideBook" := rfl
theorem cl_69 : (mm_mi 69).1.cls = "BesideBook" := rfl
theorem cl_70 : (mm_mi 70).1.cls = "BesideBook" := rfl
theorem cl_71 : (mm_mi 71).1.cls = "BesideBook" := rfl
theorem cl_72 : (mm_mi 72).1.cls = "BesideBook" := rfl
theorem cl_73 : (mm_mi 73).1.cls = "BesideBook" := rfl
theorem cl_74 : (mm_mi 74).1.cls = "BesideBook" := rfl
theorem cl_75 : (mm_mi 75).1.cls = "BesideBook" := rfl
theorem cl_76 : (mm_mi 76).1.cls = "BesideBook" := rfl
theorem cl_77 : (mm_mi 77).1.cls = "BesideBook" := rfl
theorem cl_78 : (mm_mi 78).1.cls = "BesideBook" := rfl
theorem cl_79 : (mm_mi 79).1.cls = "BesideBook" := rfl
theorem cl_80 : (mm_mi 80).1.cls = "BesideBook" := rfl
theorem cl_81 : (mm_mi 81).1.cls = "BesideBook" := rfl
theorem cl_82 : (mm_mi 82).1.cls = "BesideBook" := rfl
theorem cl_83 : (mm_mi 83).1.cls = "BesideBook" := rfl
theorem cl_84 : (mm_mi 84).1.cls = "BesideBook" := rfl
theorem cl_85 : (mm_mi 85).1.cls = "BesideBook" := rfl
theorem cl_86 : (mm_mi 86).1.cls = "BesideBook" := rfl
theorem cl_87 : (mm_mi 87).1.cls = "BesideBook" := rfl
theorem cl_88 : (mm_mi 88).1.cls = "BesideBook" := rfl
theorem cl_89 : (mm_mi 89).1.cls = "BesideBook" := rfl
theorem cl_90 : (mm_mi 90).1.cls = "BesideBook" := rfl
theorem cl_91 : (mm_mi 91).1.cls = "BesideBook" := rfl
theorem cl_92 : (mm_mi 92).1.cls = "BesideBook" := rfl
theorem cl_93 : (mm_mi 93).1.cls = "BesideBook" := rfl
theorem cl_94 : (mm_mi 94).1.cls = "BesideBook" := rfl
theorem cl_95 : (mm_mi 95).1.cls = "BesideBook" := rfl
theorem cl_96 : (mm_mi 96).1.cls = "BesideBook" := rfl
theorem cl_97 : (mm_mi 97).1.cls = "BesideBook" := rfl
theorem cl_98 : (mm_mi 98).1.cls = "BesideBookModel" := rfl
theorem cl_99 : (mm_mi 99).1.cls = "BesideBookModel" := rfl
theorem cl_100 : (mm_mi 100).1.cls = "BesideBookModel" := rfl
theorem cl_101 : (mm_mi 101).1.cls = "BesideBookModel" := rfl
theorem cl_102 : (mm_mi 102).1.cls = "BesideBookModel" := rfl
theorem cl_103 : (mm_mi 103).1.cls = "BesideBookModel" := rfl
theorem cl_104 : (mm_mi 104).1.cls = "BesideBookModel" := rfl
theorem cl_105 : (mm_mi 105).1.cls = "BesideBookModel" := rfl
theorem cl_106 : (mm_mi 106).1.cls = "BesideBookModel" := rfl
theorem cl_107 : (mm_mi 107).1.cls = "BesideBookModel" := rfl
theorem cl_108 : (mm_mi 108).1.cls = "BesideBookModel" := rfl
theorem cl_109 : (mm_mi 109).1.cls = "BesideBookModel" := rfl
theorem cl_110 : (mm_mi 110).1.cls = "BesideBookModel" := rfl
theorem cl_111 : (mm_mi 111).1.cls = "BesideBookModel" := rfl
theorem cl_112 : (mm_mi 112).1.cls = "BesideBookModel" := rfl
theorem cl_113 : (mm_mi 113).1.cls = "BesideBookModel" := rfl
theorem cl_114 : (mm_mi 114).1.cls = "BesideBookModel" := rfl
theorem cl_115 : (mm_mi 115).1.cls = "BesideBookModel" := rfl
theorem cl_116 : (mm_mi 116).1.cls = "BesideBookModel" := rfl
theorem cl_117 : (mm_mi 117).1.cls = "BesideBookModel" := rfl
theorem cl_118 : (mm_mi 118).1.cls = "BesideBookModel" := rfl
theorem cl_119 : (mm_mi 119).1.cls = "BesideBookModel" := rfl
theorem cl_120 : (mm_mi 120).1.cls = "BesideBookModel" := rfl
theorem cl_121 : (mm_mi 121).1.cls = "BesideBookModel" := rfl
theorem cl_122 : (mm_mi 122).1.cls = "BesideBookModel" := rfl
theorem cl_123 : (mm_mi 123).1.cls = "BesideBookModel" := rfl
theorem cl_124 : (mm_mi 124).1.cls = "BesideBookModel" := rfl
theorem cl_125 : (mm_mi 125).1.cls = "BesideBookModel" := rfl
theorem cl_126 : (mm_mi 126).1.cls = "BesideBookModel" := rfl
theorem cl_127 : (mm_mi 127).1.cls = "BesideBookModel" := rfl
theorem cl_128 : (mm_mi 128).1.cls = "BesideBookModel" := rfl
theorem cl_129 : (mm_mi 129).1.cls = "BesideBookModel" := rfl
theorem cl_130 : (mm_mi 130).1.cls = "BesideBookModel" := rfl
theorem cl_131 : (mm_mi 131).1.cls = "BesideBookModel" := rfl
theorem cl_132 : (mm_mi 132).1.cls = "BesideBookModel" := rfl
theorem cl_133 : (mm_mi 133).1.cls = "BesideBookModel" := rfl
theorem cl_134 : (mm_mi 134).1.cls = "BesideBookModel" := rfl
theorem cl_135 : (mm_mi 135).1.cls = "BesideBookModel" := rfl
theorem cl_136 : (mm_mi 136).1.cls = "BesideBookModel" := rfl
theorem cl_137 : (mm_mi 137).1.cls = "BesideBookModel" := rfl
theorem cl_138 : (mm_mi 138).1.cls = "BesideBookModel" := rfl
theorem cl_139 : (mm_mi 139).1.cls = "BesideBookModel" := rfl
theorem cl_140 : (mm_mi 140).1.cls = "BesideBookModel" := rfl
theorem cl_141 : (mm_mi 141).1.cls = "BesideBookModel" := rfl
theorem cl_142 : (mm_mi 142).1.cls = "BesideBookModel" := rfl
theorem cl_143 : (mm_mi 143).1.cls = "BesideBookModel" := rfl
theorem cl_144 : (mm_mi 144).1.cls = "BesideBookModel" := rfl
theorem cl_145 : (mm_mi 145).1.cls = "BesideBookModel" := rfl
theorem cl_146 : (mm_mi 146).1.cls = "BesideBookModel" := rfl
theorem cl_147 : (mm_mi 147).1.cls = "BesideBookModel" := rfl
theorem cl_148 : (mm_mi 148).1.cls = "BesideBookModel" := rfl
theorem cl_149 : (mm_mi 149).1.cls = "BesideBookModel" := rfl
theorem cl_150 : (mm_mi 150).1.cls = "BesideBookModel" := rfl
theorem cl_151 : (mm_mi 151).1.cls = "BesideBookModel" := rfl
theorem cl_152 : (mm_mi 152).1.cls = "BesideBookModel" := rfl
theorem cl_153 : (mm_mi 153).1.cls = "BesideBookModel" := rfl
theorem cl_154 : (mm_mi 154).1.cls = "BesideBookModel" := rfl
theorem cl_155 : (mm_mi 155).1.cls = "BesideBookModel" := rfl
theorem cl_156 : (mm_mi 156).1.cls = "BesideBookModel" := rfl
theorem cl_157 : (mm_mi 157).1.cls = "BesideBookModel" := rfl
theorem cl_158 : (mm_mi 158).1.cls = "java/lang/Integer" := rfl
theorem cl_159 : (mm_mi 159).1.cls = "java/util/Arrays" := rfl
theorem cl_160 : (mm_mi 160).1.cls = "BesideBookLaw" := rfl
