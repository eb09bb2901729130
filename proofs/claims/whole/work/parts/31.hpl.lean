section HPL
variable {s : MM}
theorem hp_0 : (HP s).2 0 = some (.inr (.inr (7, ob_0 s))) := rfl
theorem hp_1 : (HP s).2 1 = some (.inl (.byte, 40, s.1 1)) := rfl
theorem hp_2 : (HP s).2 2 = some (.inr (.inr (4, ob_2 s))) := rfl
theorem hp_3 : (HP s).2 3 = some (.inr (.inr (5, ob_3 s))) := rfl
theorem hp_4 : (HP s).2 4 = some (.inl (.int, 8, s.1 4)) := rfl
theorem hp_5 : (HP s).2 5 = some (.inr (.inr (5, ob_5 s))) := rfl
theorem hp_6 : (HP s).2 6 = some (.inl (.int, 8, s.1 6)) := rfl
theorem hp_7 : (HP s).2 7 = some (.inl (.int, 4, s.1 7)) := rfl
theorem hp_8 : (HP s).2 8 = some (.inl (.int, 4, s.1 8)) := rfl
theorem hp_9 : (HP s).2 9 = some (.inr (.inr (4, ob_9 s))) := rfl
theorem hp_10 : (HP s).2 10 = some (.inr (.inr (5, ob_10 s))) := rfl
theorem hp_11 : (HP s).2 11 = some (.inl (.int, 8, s.1 11)) := rfl
theorem hp_12 : (HP s).2 12 = some (.inr (.inr (5, ob_12 s))) := rfl
theorem hp_13 : (HP s).2 13 = some (.inl (.int, 8, s.1 13)) := rfl
theorem hp_14 : (HP s).2 14 = some (.inl (.int, 4, s.1 14)) := rfl
theorem hp_15 : (HP s).2 15 = some (.inl (.int, 4, s.1 15)) := rfl
theorem hp_16 : (HP s).2 16 = some (.inr (.inr (1, ob_16 s))) := rfl
theorem hp_17 : (HP s).2 17 = some (.inr (.inr (5, ob_17 s))) := rfl
theorem hp_18 : (HP s).2 18 = some (.inl (.int, 8, s.1 18)) := rfl
theorem hp_19 : (HP s).2 19 = some (.inl (.int, 8, s.1 19)) := rfl
theorem hp_20 : (HP s).2 20 = some (.inl (.int, 8, s.1 20)) := rfl
theorem hp_21 : (HP s).2 21 = some (.inr (.inr (0, ob_21 s))) := rfl
theorem hp_22 : (HP s).2 22 = some (.inl (.int, 16, s.1 22)) := rfl
theorem hp_23 : (HP s).2 23 = some (.inl (.int, 16, s.1 23)) := rfl
theorem hp_24 : (HP s).2 24 = some (.inl (.int, 16, s.1 24)) := rfl
theorem hp_25 : (HP s).2 25 = some (.inl (.int, 16, s.1 25)) := rfl
theorem hp_26 : (HP s).2 26 = some (.inr (.inl (1, 2, (va_up (va_up (fun _ => none) 0 (some 65)) 1 (some 70))))) := rfl
theorem hp_27 : (HP s).2 27 = some (.inr (.inr (2, ob_27 s))) := rfl
theorem hp_28 : (HP s).2 28 = some (.inl (.int, 6, s.1 28)) := rfl
theorem hp_29 : (HP s).2 29 = some (.inl (.int, 6, s.1 29)) := rfl
theorem hp_30 : (HP s).2 30 = some (.inr (.inl (5, 7, (va_up (va_up (va_up (va_up (va_up (va_up (va_up (fun _ => none) 0 (some 35)) 1 (some 37)) 2 (some 39)) 3 (some 41)) 4 (some 43)) 5 (some 45)) 6 (some 47))))) := rfl
theorem hp_31 : (HP s).2 31 = some (.inl (.int, 8, s.1 31)) := rfl
theorem hp_32 : (HP s).2 32 = some (.inl (.int, 8, s.1 32)) := rfl
theorem hp_33 : (HP s).2 33 = some (.inl (.int, 8, s.1 33)) := rfl
theorem hp_34 : (HP s).2 34 = some (.inl (.int, 8, s.1 34)) := rfl
theorem hp_35 : (HP s).2 35 = some (.inr (.inr (5, ob_35 s))) := rfl
theorem hp_36 : (HP s).2 36 = some (.inl (.int, 8, s.1 36)) := rfl
theorem hp_37 : (HP s).2 37 = some (.inr (.inr (5, ob_37 s))) := rfl
theorem hp_38 : (HP s).2 38 = some (.inl (.int, 8, s.1 38)) := rfl
theorem hp_39 : (HP s).2 39 = some (.inr (.inr (5, ob_39 s))) := rfl
theorem hp_40 : (HP s).2 40 = some (.inl (.int, 8, s.1 40)) := rfl
theorem hp_41 : (HP s).2 41 = some (.inr (.inr (5, ob_41 s))) := rfl
theorem hp_42 : (HP s).2 42 = some (.inl (.int, 8, s.1 42)) := rfl
theorem hp_43 : (HP s).2 43 = some (.inr (.inr (5, ob_43 s))) := rfl
theorem hp_44 : (HP s).2 44 = some (.inl (.int, 8, s.1 44)) := rfl
theorem hp_45 : (HP s).2 45 = some (.inr (.inr (5, ob_45 s))) := rfl
theorem hp_46 : (HP s).2 46 = some (.inl (.int, 8, s.1 46)) := rfl
theorem hp_47 : (HP s).2 47 = some (.inr (.inr (5, ob_47 s))) := rfl
theorem hp_48 : (HP s).2 48 = some (.inl (.int, 8, s.1 48)) := rfl
theorem hp_49 : (HP s).2 49 = some (.inr (.inr (3, ob_49 s))) := rfl
theorem hp_50 : (HP s).2 50 = some (.inr (.inl (5, 5, (va_up (va_up (va_up (va_up (va_up (fun _ => none) 0 (some 53)) 1 (some 55)) 2 (some 57)) 3 (some 59)) 4 (some 61))))) := rfl
theorem hp_51 : (HP s).2 51 = some (.inl (.int, 4, s.1 51)) := rfl
theorem hp_52 : (HP s).2 52 = some (.inl (.int, 4, s.1 52)) := rfl
theorem hp_53 : (HP s).2 53 = some (.inr (.inr (5, ob_53 s))) := rfl
theorem hp_54 : (HP s).2 54 = some (.inl (.int, 8, s.1 54)) := rfl
theorem hp_55 : (HP s).2 55 = some (.inr (.inr (5, ob_55 s))) := rfl
theorem hp_56 : (HP s).2 56 = some (.inl (.int, 8, s.1 56)) := rfl
theorem hp_57 : (HP s).2 57 = some (.inr (.inr (5, ob_57 s))) := rfl
theorem hp_58 : (HP s).2 58 = some (.inl (.int, 8, s.1 58)) := rfl
theorem hp_59 : (HP s).2 59 = some (.inr (.inr (5, ob_59 s))) := rfl
theorem hp_60 : (HP s).2 60 = some (.inl (.int, 8, s.1 60)) := rfl
theorem hp_61 : (HP s).2 61 = some (.inr (.inr (5, ob_61 s))) := rfl
theorem hp_62 : (HP s).2 62 = some (.inl (.int, 8, s.1 62)) := rfl
theorem hp_63 : (HP s).2 63 = some (.inr (.inr (5, ob_63 s))) := rfl
theorem hp_64 : (HP s).2 64 = some (.inl (.int, 8, s.1 64)) := rfl
theorem hp_65 : (HP s).2 65 = some (.inr (.inr (1, ob_65 s))) := rfl
theorem hp_66 : (HP s).2 66 = some (.inr (.inr (5, ob_66 s))) := rfl
theorem hp_67 : (HP s).2 67 = some (.inl (.int, 8, s.1 67)) := rfl
theorem hp_68 : (HP s).2 68 = some (.inl (.int, 8, s.1 68)) := rfl
theorem hp_69 : (HP s).2 69 = some (.inl (.int, 8, s.1 69)) := rfl
theorem hp_70 : (HP s).2 70 = some (.inr (.inr (1, ob_70 s))) := rfl
theorem hp_71 : (HP s).2 71 = some (.inr (.inr (5, ob_71 s))) := rfl
theorem hp_72 : (HP s).2 72 = some (.inl (.int, 8, s.1 72)) := rfl
theorem hp_73 : (HP s).2 73 = some (.inl (.int, 8, s.1 73)) := rfl
theorem hp_74 : (HP s).2 74 = some (.inl (.int, 8, s.1 74)) := rfl
theorem hp_75 : (HP s).2 75 = some (.inr (.inr (8, ob_75 s))) := rfl
theorem hp_76 : (HP s).2 76 = some (.inl (.int, 8, s.1 76)) := rfl
theorem hp_77 : (HP s).2 77 = some (.inl (.int, 8, s.1 77)) := rfl
theorem hp_78 : (HP s).2 78 = some (.inl (.int, 4, s.1 78)) := rfl
theorem hp_79 : (HP s).2 79 = some (.inl (.int, 4, s.1 79)) := rfl
theorem hp_80 : (HP s).2 80 = some (.inl (.int, 8, s.1 80)) := rfl
theorem hp_81 : (HP s).2 81 = some (.inl (.int, 4, s.1 81)) := rfl
theorem hp_82 : (HP s).2 82 = some (.inl (.int, 4, s.1 82)) := rfl
theorem hp_83 : (HP s).2 83 = some (.inl (.int, 8, s.1 83)) := rfl
theorem hp_84 : (HP s).2 84 = some (.inl (.int, 8, s.1 84)) := rfl
theorem hp_85 : (HP s).2 85 = some (.inl (.int, 8, s.1 85)) := rfl
theorem hp_86 : (HP s).2 86 = some (.inl (.int, 40, s.1 86)) := rfl
theorem hp_87 : (HP s).2 87 = some (.inl (.int, 400, s.1 87)) := rfl
theorem hp_88 : (HP s).2 88 = some (.inl (.int, 9, s.1 88)) := rfl
theorem hp_89 : (HP s).2 89 = some (.inl (.int, 720, s.1 89)) := rfl
theorem hp_90 : (HP s).2 90 = some (.inl (.int, 720, s.1 90)) := rfl
theorem hp_91 : (HP s).2 91 = some (.inl (.int, 720, s.1 91)) := rfl
theorem hp_92 : (HP s).2 92 = some (.inl (.int, 6, s.1 92)) := rfl
theorem hp_93 : (HP s).2 93 = some (.inl (.int, 6, s.1 93)) := rfl
theorem hp_94 : (HP s).2 94 = some (.inl (.int, 8, s.1 94)) := rfl
theorem hp_95 : (HP s).2 95 = some (.inl (.int, 8, s.1 95)) := rfl
theorem hp_96 : (HP s).2 96 = some (.inl (.int, 8, s.1 96)) := rfl
theorem hp_97 : (HP s).2 97 = some (.inl (.boolean, 2, s.1 97)) := rfl
theorem hp_98 : (HP s).2 98 = some (.inl (.int, 50, s.1 98)) := rfl
theorem hp_99 (h : s.2.2.2.1 = true) : (HP s).2 99 = some (.inr (.inr (6, ob_99 s))) := if_pos h
theorem hp_100 (h : s.2.2.2.1 = true) : (HP s).2 100 = some (.inl (.int, 720, s.1 100)) := if_pos h
theorem hp_101 (h : s.2.2.2.1 = true) : (HP s).2 101 = some (.inl (.int, 720, s.1 101)) := if_pos h
theorem hp_102 (h : s.2.2.2.1 = true) : (HP s).2 102 = some (.inl (.int, 23, s.1 102)) := if_pos h
theorem hp_103 (h : s.2.2.2.1 = true) : (HP s).2 103 = some (.inr (.inr (5, ob_103 s))) := if_pos h
theorem hp_104 (h : s.2.2.2.1 = true) : (HP s).2 104 = some (.inl (.int, 8, s.1 104)) := if_pos h
theorem og_0_0 : (ob_0 s)[0]? = some (vR 1) := rfl
theorem og_0_1 : (ob_0 s)[1]? = some (vI (s.2.1 0 1)) := rfl
theorem og_0_2 : (ob_0 s)[2]? = some (vR (bif s.2.2.1 then 9 else 2)) := rfl
theorem og_0_3 : (ob_0 s)[3]? = some (vR (bif s.2.2.1 then 2 else 9)) := rfl
theorem og_0_4 : (ob_0 s)[4]? = some (vI (s.2.1 0 4)) := rfl
theorem og_0_5 : (ob_0 s)[5]? = some (vR 16) := rfl
theorem og_0_6 : (ob_0 s)[6]? = some (vR 21) := rfl
theorem og_0_7 : (ob_0 s)[7]? = some (vR 26) := rfl
theorem og_0_8 : (ob_0 s)[8]? = some (vI (s.2.1 0 8)) := rfl
theorem og_0_9 : (ob_0 s)[9]? = some (vR 27) := rfl
theorem og_0_10 : (ob_0 s)[10]? = some (vR 49) := rfl
theorem og_0_11 : (ob_0 s)[11]? = some (vR 63) := rfl
theorem og_0_12 : (ob_0 s)[12]? = some ((bif s.2.2.2.1 then vR 99 else vN)) := rfl
theorem og_0_13 : (ob_0 s)[13]? = some (vL s.2.2.2.2.1) := rfl
theorem ol_0 : (ob_0 s).length = 14 := rfl
theorem og_2_0 : (ob_2 s)[0]? = some (vI (s.2.1 2 0)) := rfl
theorem og_2_1 : (ob_2 s)[1]? = some (vI (s.2.1 2 1)) := rfl
theorem og_2_2 : (ob_2 s)[2]? = some (vI (s.2.1 2 2)) := rfl
theorem og_2_3 : (ob_2 s)[3]? = some (vR 3) := rfl
theorem og_2_4 : (ob_2 s)[4]? = some (vR 5) := rfl
theorem og_2_5 : (ob_2 s)[5]? = some (vR 7) := rfl
theorem og_2_6 : (ob_2 s)[6]? = some (vR 8) := rfl
theorem ol_2 : (ob_2 s).length = 7 := rfl
theorem og_3_0 : (ob_3 s)[0]? = some (vR 4) := rfl
theorem og_3_1 : (ob_3 s)[1]? = some (vI (s.2.1 3 1)) := rfl
theorem ol_3 : (ob_3 s).length = 2 := rfl
theorem og_5_0 : (ob_5 s)[0]? = some (vR 6) := rfl
theorem og_5_1 : (ob_5 s)[1]? = some (vI (s.2.1 5 1)) := rfl
theorem ol_5 : (ob_5 s).length = 2 := rfl
theorem og_9_0 : (ob_9 s)[0]? = some (vI (s.2.1 9 0)) := rfl
theorem og_9_1 : (ob_9 s)[1]? = some (vI (s.2.1 9 1)) := rfl
theorem og_9_2 : (ob_9 s)[2]? = some (vI (s.2.1 9 2)) := rfl
theorem og_9_3 : (ob_9 s)[3]? = some (vR 10) := rfl
theorem og_9_4 : (ob_9 s)[4]? = some (vR 12) := rfl
theorem og_9_5 : (ob_9 s)[5]? = some (vR 14) := rfl
theorem og_9_6 : (ob_9 s)[6]? = some (vR 15) := rfl
theorem ol_9 : (ob_9 s).length = 7 := rfl
theorem og_10_0 : (ob_10 s)[0]? = some (vR 11) := rfl
theorem og_10_1 : (ob_10 s)[1]? = some (vI (s.2.1 10 1)) := rfl
theorem ol_10 : (ob_10 s).length = 2 := rfl
theorem og_12_0 : (ob_12 s)[0]? = some (vR 13) := rfl
theorem og_12_1 : (ob_12 s)[1]? = some (vI (s.2.1 12 1)) := rfl
theorem ol_12 : (ob_12 s).length = 2 := rfl
theorem og_16_0 : (ob_16 s)[0]? = some (vR 17) := rfl
theorem og_16_1 : (ob_16 s)[1]? = some (vR 19) := rfl
theorem og_16_2 : (ob_16 s)[2]? = some (vR 20) := rfl
theorem ol_16 : (ob_16 s).length = 3 := rfl
theorem og_17_0 : (ob_17 s)[0]? = some (vR 18) := rfl
theorem og_17_1 : (ob_17 s)[1]? = some (vI (s.2.1 17 1)) := rfl
theorem ol_17 : (ob_17 s).length = 2 := rfl
theorem og_21_0 : (ob_21 s)[0]? = some (vR 22) := rfl
theorem og_21_1 : (ob_21 s)[1]? = some (vR 23) := rfl
theorem og_21_2 : (ob_21 s)[2]? = some (vR 24) := rfl
theorem og_21_3 : (ob_21 s)[3]? = some (vR 25) := rfl
theorem og_21_4 : (ob_21 s)[4]? = some (vI (s.2.1 21 4)) := rfl
theorem ol_21 : (ob_21 s).length = 5 := rfl
theorem og_27_0 : (ob_27 s)[0]? = some (vR 28) := rfl
theorem og_27_1 : (ob_27 s)[1]? = some (vR 29) := rfl
theorem og_27_2 : (ob_27 s)[2]? = some (vI (s.2.1 27 2)) := rfl
theorem og_27_3 : (ob_27 s)[3]? = some (vR 30) := rfl
theorem og_27_4 : (ob_27 s)[4]? = some (vR 31) := rfl
theorem og_27_5 : (ob_27 s)[5]? = some (vR 32) := rfl
theorem og_27_6 : (ob_27 s)[6]? = some (vI (s.2.1 27 6)) := rfl
theorem og_27_7 : (ob_27 s)[7]? = some (vI (s.2.1 27 7)) := rfl
theorem og_27_8 : (ob_27 s)[8]? = some (vI (s.2.1 27 8)) := rfl
theorem og_27_9 : (ob_27 s)[9]? = some (vR 33) := rfl
theorem og_27_10 : (ob_27 s)[10]? = some (vR 34) := rfl
theorem ol_27 : (ob_27 s).length = 11 := rfl
theorem og_35_0 : (ob_35 s)[0]? = some (vR 36) := rfl
theorem og_35_1 : (ob_35 s)[1]? = some (vI (s.2.1 35 1)) := rfl
theorem ol_35 : (ob_35 s).length = 2 := rfl
theorem og_37_0 : (ob_37 s)[0]? = some (vR 38) := rfl
theorem og_37_1 : (ob_37 s)[1]? = some (vI (s.2.1 37 1)) := rfl
theorem ol_37 : (ob_37 s).length = 2 := rfl
theorem og_39_0 : (ob_39 s)[0]? = some (vR 40) := rfl
theorem og_39_1 : (ob_39 s)[1]? = some (vI (s.2.1 39 1)) := rfl
theorem ol_39 : (ob_39 s).length = 2 := rfl
theorem og_41_0 : (ob_41 s)[0]? = some (vR 42) := rfl
theorem og_41_1 : (ob_41 s)[1]? = some (vI (s.2.1 41 1)) := rfl
theorem ol_41 : (ob_41 s).length = 2 := rfl
theorem og_43_0 : (ob_43 s)[0]? = some (vR 44) := rfl
theorem og_43_1 : (ob_43 s)[1]? = some (vI (s.2.1 43 1)) := rfl
theorem ol_43 : (ob_43 s).length = 2 := rfl
theorem og_45_0 : (ob_45 s)[0]? = some (vR 46) := rfl
theorem og_45_1 : (ob_45 s)[1]? = some (vI (s.2.1 45 1)) := rfl
theorem ol_45 : (ob_45 s).length = 2 := rfl
theorem og_47_0 : (ob_47 s)[0]? = some (vR 48) := rfl
theorem og_47_1 : (ob_47 s)[1]? = some (vI (s.2.1 47 1)) := rfl
theorem ol_47 : (ob_47 s).length = 2 := rfl
theorem og_49_0 : (ob_49 s)[0]? = some (vR 50) := rfl
theorem og_49_1 : (ob_49 s)[1]? = some (vR 51) := rfl
theorem og_49_2 : (ob_49 s)[2]? = some (vR 52) := rfl
theorem og_49_3 : (ob_49 s)[3]? = some (vI (s.2.1 49 3)) := rfl
theorem ol_49 : (ob_49 s).length = 4 := rfl
theorem og_53_0 : (ob_53 s)[0]? = some (vR 54) := rfl
theorem og_53_1 : (ob_53 s)[1]? = some (vI (s.2.1 53 1)) := rfl
theorem ol_53 : (ob_53 s).length = 2 := rfl
theorem og_55_0 : (ob_55 s)[0]? = some (vR 56) := rfl
theorem og_55_1 : (ob_55 s)[1]? = some (vI (s.2.1 55 1)) := rfl
theorem ol_55 : (ob_55 s).length = 2 := rfl
theorem og_57_0 : (ob_57 s)[0]? = some (vR 58) := rfl
theorem og_57_1 : (ob_57 s)[1]? = some (vI (s.2.1 57 1)) := rfl
theorem ol_57 : (ob_57 s).length = 2 := rfl
theorem og_59_0 : (ob_59 s)[0]? = some (vR 60) := rfl
theorem og_59_1 : (ob_59 s)[1]? = some (vI (s.2.1 59 1)) := rfl
theorem ol_59 : (ob_59 s).length = 2 := rfl
theorem og_61_0 : (ob_61 s)[0]? = some (vR 62) := rfl
theorem og_61_1 : (ob_61 s)[1]? = some (vI (s.2.1 61 1)) := rfl
theorem ol_61 : (ob_61 s).length = 2 := rfl
theorem og_63_0 : (ob_63 s)[0]? = some (vR 64) := rfl
theorem og_63_1 : (ob_63 s)[1]? = some (vI (s.2.1 63 1)) := rfl
theorem ol_63 : (ob_63 s).length = 2 := rfl
theorem og_65_0 : (ob_65 s)[0]? = some (vR 66) := rfl
theorem og_65_1 : (ob_65 s)[1]? = some (vR 68) := rfl
theorem og_65_2 : (ob_65 s)[2]? = some (vR 69) := rfl
theorem ol_65 : (ob_65 s).length = 3 := rfl
theorem og_66_0 : (ob_66 s)[0]? = some (vR 67) := rfl
theorem og_66_1 : (ob_66 s)[1]? = some (vI (s.2.1 66 1)) := rfl
theorem ol_66 : (ob_66 s).length = 2 := rfl
theorem og_70_0 : (ob_70 s)[0]? = some (vR 71) := rfl
theorem og_70_1 : (ob_70 s)[1]? = some (vR 73) := rfl
theorem og_70_2 : (ob_70 s)[2]? = some (vR 74) := rfl
theorem ol_70 : (ob_70 s).length = 3 := rfl
theorem og_71_0 : (ob_71 s)[0]? = some (vR 72) := rfl
theorem og_71_1 : (ob_71 s)[1]? = some (vI (s.2.1 71 1)) := rfl
theorem ol_71 : (ob_71 s).length = 2 := rfl
theorem og_75_0 : (ob_75 s)[0]? = some (vR 76) := rfl
theorem og_75_1 : (ob_75 s)[1]? = some (vR 77) := rfl
theorem og_75_2 : (ob_75 s)[2]? = some (vR 78) := rfl
theorem og_75_3 : (ob_75 s)[3]? = some (vR 79) := rfl
theorem og_75_4 : (ob_75 s)[4]? = some (vI (s.2.1 75 4)) := rfl
theorem og_75_5 : (ob_75 s)[5]? = some (vI (s.2.1 75 5)) := rfl
theorem og_75_6 : (ob_75 s)[6]? = some (vI (s.2.1 75 6)) := rfl
theorem og_75_7 : (ob_75 s)[7]? = some (vI (s.2.1 75 7)) := rfl
theorem og_75_8 : (ob_75 s)[8]? = some (vR 80) := rfl
theorem og_75_9 : (ob_75 s)[9]? = some (vR 81) := rfl
theorem og_75_10 : (ob_75 s)[10]? = some (vR 82) := rfl
theorem og_75_11 : (ob_75 s)[11]? = some (vI (s.2.1 75 11)) := rfl
theorem og_75_12 : (ob_75 s)[12]? = some (vI (s.2.1 75 12)) := rfl
theorem og_75_13 : (ob_75 s)[13]? = some (vI (s.2.1 75 13)) := rfl
theorem og_75_14 : (ob_75 s)[14]? = some (vR 83) := rfl
theorem og_75_15 : (ob_75 s)[15]? = some (vI (s.2.1 75 15)) := rfl
theorem og_75_16 : (ob_75 s)[16]? = some (vR 84) := rfl
theorem og_75_17 : (ob_75 s)[17]? = some (vR 85) := rfl
theorem og_75_18 : (ob_75 s)[18]? = some (vR 86) := rfl
theorem og_75_19 : (ob_75 s)[19]? = some (vI (s.2.1 75 19)) := rfl
theorem og_75_20 : (ob_75 s)[20]? = some (vI (s.2.1 75 20)) := rfl
theorem og_75_21 : (ob_75 s)[21]? = some (vI (s.2.1 75 21)) := rfl
theorem og_75_22 : (ob_75 s)[22]? = some (vI (s.2.1 75 22)) := rfl
theorem og_75_23 : (ob_75 s)[23]? = some (vI (s.2.1 75 23)) := rfl
theorem og_75_24 : (ob_75 s)[24]? = some (vR 87) := rfl
theorem og_75_25 : (ob_75 s)[25]? = some (vR 88) := rfl
theorem og_75_26 : (ob_75 s)[26]? = some (vI (s.2.1 75 26)) := rfl
theorem og_75_27 : (ob_75 s)[27]? = some (vR 89) := rfl
theorem og_75_28 : (ob_75 s)[28]? = some (vR 90) := rfl
theorem og_75_29 : (ob_75 s)[29]? = some (vR 91) := rfl
theorem og_75_30 : (ob_75 s)[30]? = some (vI (s.2.1 75 30)) := rfl
theorem og_75_31 : (ob_75 s)[31]? = some (vI (s.2.1 75 31)) := rfl
theorem og_75_32 : (ob_75 s)[32]? = some (vI (s.2.1 75 32)) := rfl
theorem og_75_33 : (ob_75 s)[33]? = some (vI (s.2.1 75 33)) := rfl
theorem og_75_34 : (ob_75 s)[34]? = some (vR 92) := rfl
theorem og_75_35 : (ob_75 s)[35]? = some (vR 93) := rfl
theorem og_75_36 : (ob_75 s)[36]? = some (vR 94) := rfl
theorem og_75_37 : (ob_75 s)[37]? = some (vR 95) := rfl
theorem og_75_38 : (ob_75 s)[38]? = some (vR 96) := rfl
theorem og_75_39 : (ob_75 s)[39]? = some (vL s.2.2.2.2.2) := rfl
theorem og_75_40 : (ob_75 s)[40]? = some (vR 97) := rfl
theorem og_75_41 : (ob_75 s)[41]? = some (vR 98) := rfl
theorem ol_75 : (ob_75 s).length = 42 := rfl
theorem og_99_0 : (ob_99 s)[0]? = some (vR 100) := rfl
theorem og_99_1 : (ob_99 s)[1]? = some (vR 101) := rfl
theorem og_99_2 : (ob_99 s)[2]? = some (vR 102) := rfl
theorem og_99_3 : (ob_99 s)[3]? = some (vR 103) := rfl
theorem og_99_4 : (ob_99 s)[4]? = some (vI (s.2.1 99 4)) := rfl
theorem og_99_5 : (ob_99 s)[5]? = some (vI (s.2.1 99 5)) := rfl
theorem og_99_6 : (ob_99 s)[6]? = some (vI (s.2.1 99 6)) := rfl
theorem ol_99 : (ob_99 s).length = 7 := rfl
theorem og_103_0 : (ob_103 s)[0]? = some (vR 104) := rfl
theorem og_103_1 : (ob_103 s)[1]? = some (vI (s.2.1 103 1)) := rfl
theorem ol_103 : (ob_103 s).length = 2 := rfl
end HPL
