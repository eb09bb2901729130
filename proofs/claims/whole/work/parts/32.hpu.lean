/-! stores keep the form -/
theorem mm_ext {h h' : AH} (h1 : h.1 = h'.1) (h2 : ∀ k, h.2 k = h'.2 k) : h = h' := by
  obtain ⟨a, b⟩ := h
  obtain ⟨c, d⟩ := h'
  have e : b = d := funext h2
  have e2 : a = c := h1
  rw [e, e2]
theorem hp_upd {s s' : MM} {k : Nat} {c : AC} (h0 : s'.2.2.2.1 = s.2.2.2.1) (h1 : HPf s' k = some c) (h2 : ∀ j, j ≠ k → HPf s' j = HPf s j) : mm_up (HP s) k c = HP s' := by
  refine mm_ext (by show (HP s).1 = (HP s').1; unfold HP; rw [h0]) (fun j => ?_)
  show (if j = k then some c else HPf s j) = HPf s' j
  by_cases e : j = k
  · rw [if_pos e, e, h1]
  · rw [if_neg e, h2 j e]
theorem va_ne {α : Type} {f : Nat → α} {k j : Nat} {v : α} (h : j ≠ k) : va_up f k v j = f j := if_neg h
theorem va_at_eq {α : Type} {f : Nat → α} {k : Nat} {v : α} : va_up f k v k = v := if_pos rfl
theorem HP0_A (s : MM) (k : Nat) (f : Nat → Int32) (j : Nat) (hj : j ≠ k) : HP0 (sA s k f) j = HP0 s j := by
  unfold HP0
  split <;> first | rfl | (simp only [sA, va_ne hj]; done)
theorem HP0_O (s : MM) (k i : Nat) (x : Int32) (j : Nat) (hj : j ≠ k) : HP0 (sO s k i x) j = HP0 s j := by
  unfold HP0
  split <;> first | rfl | (simp only [sO, va_ne hj, ob_0, ob_2, ob_3, ob_5, ob_9, ob_10, ob_12, ob_16, ob_17, ob_21]; done)
theorem HP25_A (s : MM) (k : Nat) (f : Nat → Int32) (j : Nat) (hj : j ≠ k) : HP25 (sA s k f) j = HP25 s j := by
  unfold HP25
  split <;> first | rfl | (simp only [sA, va_ne hj]; done)
theorem HP25_O (s : MM) (k i : Nat) (x : Int32) (j : Nat) (hj : j ≠ k) : HP25 (sO s k i x) j = HP25 s j := by
  unfold HP25
  split <;> first | rfl | (simp only [sO, va_ne hj, ob_27, ob_35, ob_37, ob_39, ob_41, ob_43, ob_45, ob_47, ob_49]; done)
theorem HP50_A (s : MM) (k : Nat) (f : Nat → Int32) (j : Nat) (hj : j ≠ k) : HP50 (sA s k f) j = HP50 s j := by
  unfold HP50
  split <;> first | rfl | (simp only [sA, va_ne hj]; done)
theorem HP50_O (s : MM) (k i : Nat) (x : Int32) (j : Nat) (hj : j ≠ k) : HP50 (sO s k i x) j = HP50 s j := by
  unfold HP50
  split <;> first | rfl | (simp only [sO, va_ne hj, ob_53, ob_55, ob_57, ob_59, ob_61, ob_63, ob_65, ob_66, ob_70, ob_71]; done)
theorem HP75_A (s : MM) (k : Nat) (f : Nat → Int32) (j : Nat) (hj : j ≠ k) : HP75 (sA s k f) j = HP75 s j := by
  unfold HP75
  split <;> first | rfl | (simp only [sA, va_ne hj]; done)
theorem HP75_O (s : MM) (k i : Nat) (x : Int32) (j : Nat) (hj : j ≠ k) : HP75 (sO s k i x) j = HP75 s j := by
  unfold HP75
  split <;> first | rfl | (simp only [sO, va_ne hj, ob_75]; done)
theorem HPs_A (s : MM) (k : Nat) (f : Nat → Int32) (j : Nat) (hj : j ≠ k) : HPs (sA s k f) j = HPs s j := by
  unfold HPs
  split <;> first | rfl | (simp only [sA, va_ne hj]; done)
theorem HPs_O (s : MM) (k i : Nat) (x : Int32) (j : Nat) (hj : j ≠ k) : HPs (sO s k i x) j = HPs s j := by
  unfold HPs
  split <;> first | rfl | (simp only [sO, va_ne hj, ob_99, ob_103]; done)
theorem HPf_A (s : MM) (k : Nat) (f : Nat → Int32) (j : Nat) (hj : j ≠ k) : HPf (sA s k f) j = HPf s j := by
  unfold HPf
  rw [HP0_A s k f j hj, HP25_A s k f j hj, HP50_A s k f j hj, HP75_A s k f j hj, HPs_A s k f j hj]
  rfl
theorem HPf_O (s : MM) (k i : Nat) (x : Int32) (j : Nat) (hj : j ≠ k) : HPf (sO s k i x) j = HPf s j := by
  unfold HPf
  rw [HP0_O s k i x j hj, HP25_O s k i x j hj, HP50_O s k i x j hj, HP75_O s k i x j hj, HPs_O s k i x j hj]
  rfl
theorem uo_0_1 (s : MM) (x : Int32) : mm_up (HP s) 0 (.inr (.inr (7, (ob_0 s).set 1 (vI x)))) = HP (sO s 0 1 x) := hp_upd rfl rfl (HPf_O s 0 1 x)
theorem uo_0_4 (s : MM) (x : Int32) : mm_up (HP s) 0 (.inr (.inr (7, (ob_0 s).set 4 (vI x)))) = HP (sO s 0 4 x) := hp_upd rfl rfl (HPf_O s 0 4 x)
theorem uo_0_8 (s : MM) (x : Int32) : mm_up (HP s) 0 (.inr (.inr (7, (ob_0 s).set 8 (vI x)))) = HP (sO s 0 8 x) := hp_upd rfl rfl (HPf_O s 0 8 x)
theorem ua_1 (s : MM) (f : Nat → Int32) : mm_up (HP s) 1 (.inl (.byte, 40, f)) = HP (sA s 1 f) := hp_upd rfl rfl (HPf_A s 1 f)
theorem uo_2_0 (s : MM) (x : Int32) : mm_up (HP s) 2 (.inr (.inr (4, (ob_2 s).set 0 (vI x)))) = HP (sO s 2 0 x) := hp_upd rfl rfl (HPf_O s 2 0 x)
theorem uo_2_1 (s : MM) (x : Int32) : mm_up (HP s) 2 (.inr (.inr (4, (ob_2 s).set 1 (vI x)))) = HP (sO s 2 1 x) := hp_upd rfl rfl (HPf_O s 2 1 x)
theorem uo_2_2 (s : MM) (x : Int32) : mm_up (HP s) 2 (.inr (.inr (4, (ob_2 s).set 2 (vI x)))) = HP (sO s 2 2 x) := hp_upd rfl rfl (HPf_O s 2 2 x)
theorem uo_3_1 (s : MM) (x : Int32) : mm_up (HP s) 3 (.inr (.inr (5, (ob_3 s).set 1 (vI x)))) = HP (sO s 3 1 x) := hp_upd rfl rfl (HPf_O s 3 1 x)
theorem ua_4 (s : MM) (f : Nat → Int32) : mm_up (HP s) 4 (.inl (.int, 8, f)) = HP (sA s 4 f) := hp_upd rfl rfl (HPf_A s 4 f)
theorem uo_5_1 (s : MM) (x : Int32) : mm_up (HP s) 5 (.inr (.inr (5, (ob_5 s).set 1 (vI x)))) = HP (sO s 5 1 x) := hp_upd rfl rfl (HPf_O s 5 1 x)
theorem ua_6 (s : MM) (f : Nat → Int32) : mm_up (HP s) 6 (.inl (.int, 8, f)) = HP (sA s 6 f) := hp_upd rfl rfl (HPf_A s 6 f)
theorem ua_7 (s : MM) (f : Nat → Int32) : mm_up (HP s) 7 (.inl (.int, 4, f)) = HP (sA s 7 f) := hp_upd rfl rfl (HPf_A s 7 f)
theorem ua_8 (s : MM) (f : Nat → Int32) : mm_up (HP s) 8 (.inl (.int, 4, f)) = HP (sA s 8 f) := hp_upd rfl rfl (HPf_A s 8 f)
theorem uo_9_0 (s : MM) (x : Int32) : mm_up (HP s) 9 (.inr (.inr (4, (ob_9 s).set 0 (vI x)))) = HP (sO s 9 0 x) := hp_upd rfl rfl (HPf_O s 9 0 x)
theorem uo_9_1 (s : MM) (x : Int32) : mm_up (HP s) 9 (.inr (.inr (4, (ob_9 s).set 1 (vI x)))) = HP (sO s 9 1 x) := hp_upd rfl rfl (HPf_O s 9 1 x)
theorem uo_9_2 (s : MM) (x : Int32) : mm_up (HP s) 9 (.inr (.inr (4, (ob_9 s).set 2 (vI x)))) = HP (sO s 9 2 x) := hp_upd rfl rfl (HPf_O s 9 2 x)
theorem uo_10_1 (s : MM) (x : Int32) : mm_up (HP s) 10 (.inr (.inr (5, (ob_10 s).set 1 (vI x)))) = HP (sO s 10 1 x) := hp_upd rfl rfl (HPf_O s 10 1 x)
theorem ua_11 (s : MM) (f : Nat → Int32) : mm_up (HP s) 11 (.inl (.int, 8, f)) = HP (sA s 11 f) := hp_upd rfl rfl (HPf_A s 11 f)
theorem uo_12_1 (s : MM) (x : Int32) : mm_up (HP s) 12 (.inr (.inr (5, (ob_12 s).set 1 (vI x)))) = HP (sO s 12 1 x) := hp_upd rfl rfl (HPf_O s 12 1 x)
theorem ua_13 (s : MM) (f : Nat → Int32) : mm_up (HP s) 13 (.inl (.int, 8, f)) = HP (sA s 13 f) := hp_upd rfl rfl (HPf_A s 13 f)
theorem ua_14 (s : MM) (f : Nat → Int32) : mm_up (HP s) 14 (.inl (.int, 4, f)) = HP (sA s 14 f) := hp_upd rfl rfl (HPf_A s 14 f)
theorem ua_15 (s : MM) (f : Nat → Int32) : mm_up (HP s) 15 (.inl (.int, 4, f)) = HP (sA s 15 f) := hp_upd rfl rfl (HPf_A s 15 f)
theorem uo_17_1 (s : MM) (x : Int32) : mm_up (HP s) 17 (.inr (.inr (5, (ob_17 s).set 1 (vI x)))) = HP (sO s 17 1 x) := hp_upd rfl rfl (HPf_O s 17 1 x)
theorem ua_18 (s : MM) (f : Nat → Int32) : mm_up (HP s) 18 (.inl (.int, 8, f)) = HP (sA s 18 f) := hp_upd rfl rfl (HPf_A s 18 f)
theorem ua_19 (s : MM) (f : Nat → Int32) : mm_up (HP s) 19 (.inl (.int, 8, f)) = HP (sA s 19 f) := hp_upd rfl rfl (HPf_A s 19 f)
theorem ua_20 (s : MM) (f : Nat → Int32) : mm_up (HP s) 20 (.inl (.int, 8, f)) = HP (sA s 20 f) := hp_upd rfl rfl (HPf_A s 20 f)
theorem uo_21_4 (s : MM) (x : Int32) : mm_up (HP s) 21 (.inr (.inr (0, (ob_21 s).set 4 (vI x)))) = HP (sO s 21 4 x) := hp_upd rfl rfl (HPf_O s 21 4 x)
theorem ua_22 (s : MM) (f : Nat → Int32) : mm_up (HP s) 22 (.inl (.int, 16, f)) = HP (sA s 22 f) := hp_upd rfl rfl (HPf_A s 22 f)
theorem ua_23 (s : MM) (f : Nat → Int32) : mm_up (HP s) 23 (.inl (.int, 16, f)) = HP (sA s 23 f) := hp_upd rfl rfl (HPf_A s 23 f)
theorem ua_24 (s : MM) (f : Nat → Int32) : mm_up (HP s) 24 (.inl (.int, 16, f)) = HP (sA s 24 f) := hp_upd rfl rfl (HPf_A s 24 f)
theorem ua_25 (s : MM) (f : Nat → Int32) : mm_up (HP s) 25 (.inl (.int, 16, f)) = HP (sA s 25 f) := hp_upd rfl rfl (HPf_A s 25 f)
theorem uo_27_2 (s : MM) (x : Int32) : mm_up (HP s) 27 (.inr (.inr (2, (ob_27 s).set 2 (vI x)))) = HP (sO s 27 2 x) := hp_upd rfl rfl (HPf_O s 27 2 x)
theorem uo_27_6 (s : MM) (x : Int32) : mm_up (HP s) 27 (.inr (.inr (2, (ob_27 s).set 6 (vI x)))) = HP (sO s 27 6 x) := hp_upd rfl rfl (HPf_O s 27 6 x)
theorem uo_27_7 (s : MM) (x : Int32) : mm_up (HP s) 27 (.inr (.inr (2, (ob_27 s).set 7 (vI x)))) = HP (sO s 27 7 x) := hp_upd rfl rfl (HPf_O s 27 7 x)
theorem uo_27_8 (s : MM) (x : Int32) : mm_up (HP s) 27 (.inr (.inr (2, (ob_27 s).set 8 (vI x)))) = HP (sO s 27 8 x) := hp_upd rfl rfl (HPf_O s 27 8 x)
theorem ua_28 (s : MM) (f : Nat → Int32) : mm_up (HP s) 28 (.inl (.int, 6, f)) = HP (sA s 28 f) := hp_upd rfl rfl (HPf_A s 28 f)
theorem ua_29 (s : MM) (f : Nat → Int32) : mm_up (HP s) 29 (.inl (.int, 6, f)) = HP (sA s 29 f) := hp_upd rfl rfl (HPf_A s 29 f)
theorem ua_31 (s : MM) (f : Nat → Int32) : mm_up (HP s) 31 (.inl (.int, 8, f)) = HP (sA s 31 f) := hp_upd rfl rfl (HPf_A s 31 f)
theorem ua_32 (s : MM) (f : Nat → Int32) : mm_up (HP s) 32 (.inl (.int, 8, f)) = HP (sA s 32 f) := hp_upd rfl rfl (HPf_A s 32 f)
theorem ua_33 (s : MM) (f : Nat → Int32) : mm_up (HP s) 33 (.inl (.int, 8, f)) = HP (sA s 33 f) := hp_upd rfl rfl (HPf_A s 33 f)
theorem ua_34 (s : MM) (f : Nat → Int32) : mm_up (HP s) 34 (.inl (.int, 8, f)) = HP (sA s 34 f) := hp_upd rfl rfl (HPf_A s 34 f)
theorem uo_35_1 (s : MM) (x : Int32) : mm_up (HP s) 35 (.inr (.inr (5, (ob_35 s).set 1 (vI x)))) = HP (sO s 35 1 x) := hp_upd rfl rfl (HPf_O s 35 1 x)
theorem ua_36 (s : MM) (f : Nat → Int32) : mm_up (HP s) 36 (.inl (.int, 8, f)) = HP (sA s 36 f) := hp_upd rfl rfl (HPf_A s 36 f)
theorem uo_37_1 (s : MM) (x : Int32) : mm_up (HP s) 37 (.inr (.inr (5, (ob_37 s).set 1 (vI x)))) = HP (sO s 37 1 x) := hp_upd rfl rfl (HPf_O s 37 1 x)
theorem ua_38 (s : MM) (f : Nat → Int32) : mm_up (HP s) 38 (.inl (.int, 8, f)) = HP (sA s 38 f) := hp_upd rfl rfl (HPf_A s 38 f)
theorem uo_39_1 (s : MM) (x : Int32) : mm_up (HP s) 39 (.inr (.inr (5, (ob_39 s).set 1 (vI x)))) = HP (sO s 39 1 x) := hp_upd rfl rfl (HPf_O s 39 1 x)
theorem ua_40 (s : MM) (f : Nat → Int32) : mm_up (HP s) 40 (.inl (.int, 8, f)) = HP (sA s 40 f) := hp_upd rfl rfl (HPf_A s 40 f)
theorem uo_41_1 (s : MM) (x : Int32) : mm_up (HP s) 41 (.inr (.inr (5, (ob_41 s).set 1 (vI x)))) = HP (sO s 41 1 x) := hp_upd rfl rfl (HPf_O s 41 1 x)
theorem ua_42 (s : MM) (f : Nat → Int32) : mm_up (HP s) 42 (.inl (.int, 8, f)) = HP (sA s 42 f) := hp_upd rfl rfl (HPf_A s 42 f)
theorem uo_43_1 (s : MM) (x : Int32) : mm_up (HP s) 43 (.inr (.inr (5, (ob_43 s).set 1 (vI x)))) = HP (sO s 43 1 x) := hp_upd rfl rfl (HPf_O s 43 1 x)
theorem ua_44 (s : MM) (f : Nat → Int32) : mm_up (HP s) 44 (.inl (.int, 8, f)) = HP (sA s 44 f) := hp_upd rfl rfl (HPf_A s 44 f)
theorem uo_45_1 (s : MM) (x : Int32) : mm_up (HP s) 45 (.inr (.inr (5, (ob_45 s).set 1 (vI x)))) = HP (sO s 45 1 x) := hp_upd rfl rfl (HPf_O s 45 1 x)
theorem ua_46 (s : MM) (f : Nat → Int32) : mm_up (HP s) 46 (.inl (.int, 8, f)) = HP (sA s 46 f) := hp_upd rfl rfl (HPf_A s 46 f)
theorem uo_47_1 (s : MM) (x : Int32) : mm_up (HP s) 47 (.inr (.inr (5, (ob_47 s).set 1 (vI x)))) = HP (sO s 47 1 x) := hp_upd rfl rfl (HPf_O s 47 1 x)
theorem ua_48 (s : MM) (f : Nat → Int32) : mm_up (HP s) 48 (.inl (.int, 8, f)) = HP (sA s 48 f) := hp_upd rfl rfl (HPf_A s 48 f)
theorem uo_49_3 (s : MM) (x : Int32) : mm_up (HP s) 49 (.inr (.inr (3, (ob_49 s).set 3 (vI x)))) = HP (sO s 49 3 x) := hp_upd rfl rfl (HPf_O s 49 3 x)
theorem ua_51 (s : MM) (f : Nat → Int32) : mm_up (HP s) 51 (.inl (.int, 4, f)) = HP (sA s 51 f) := hp_upd rfl rfl (HPf_A s 51 f)
theorem ua_52 (s : MM) (f : Nat → Int32) : mm_up (HP s) 52 (.inl (.int, 4, f)) = HP (sA s 52 f) := hp_upd rfl rfl (HPf_A s 52 f)
theorem uo_53_1 (s : MM) (x : Int32) : mm_up (HP s) 53 (.inr (.inr (5, (ob_53 s).set 1 (vI x)))) = HP (sO s 53 1 x) := hp_upd rfl rfl (HPf_O s 53 1 x)
theorem ua_54 (s : MM) (f : Nat → Int32) : mm_up (HP s) 54 (.inl (.int, 8, f)) = HP (sA s 54 f) := hp_upd rfl rfl (HPf_A s 54 f)
theorem uo_55_1 (s : MM) (x : Int32) : mm_up (HP s) 55 (.inr (.inr (5, (ob_55 s).set 1 (vI x)))) = HP (sO s 55 1 x) := hp_upd rfl rfl (HPf_O s 55 1 x)
theorem ua_56 (s : MM) (f : Nat → Int32) : mm_up (HP s) 56 (.inl (.int, 8, f)) = HP (sA s 56 f) := hp_upd rfl rfl (HPf_A s 56 f)
theorem uo_57_1 (s : MM) (x : Int32) : mm_up (HP s) 57 (.inr (.inr (5, (ob_57 s).set 1 (vI x)))) = HP (sO s 57 1 x) := hp_upd rfl rfl (HPf_O s 57 1 x)
theorem ua_58 (s : MM) (f : Nat → Int32) : mm_up (HP s) 58 (.inl (.int, 8, f)) = HP (sA s 58 f) := hp_upd rfl rfl (HPf_A s 58 f)
theorem uo_59_1 (s : MM) (x : Int32) : mm_up (HP s) 59 (.inr (.inr (5, (ob_59 s).set 1 (vI x)))) = HP (sO s 59 1 x) := hp_upd rfl rfl (HPf_O s 59 1 x)
theorem ua_60 (s : MM) (f : Nat → Int32) : mm_up (HP s) 60 (.inl (.int, 8, f)) = HP (sA s 60 f) := hp_upd rfl rfl (HPf_A s 60 f)
theorem uo_61_1 (s : MM) (x : Int32) : mm_up (HP s) 61 (.inr (.inr (5, (ob_61 s).set 1 (vI x)))) = HP (sO s 61 1 x) := hp_upd rfl rfl (HPf_O s 61 1 x)
theorem ua_62 (s : MM) (f : Nat → Int32) : mm_up (HP s) 62 (.inl (.int, 8, f)) = HP (sA s 62 f) := hp_upd rfl rfl (HPf_A s 62 f)
theorem uo_63_1 (s : MM) (x : Int32) : mm_up (HP s) 63 (.inr (.inr (5, (ob_63 s).set 1 (vI x)))) = HP (sO s 63 1 x) := hp_upd rfl rfl (HPf_O s 63 1 x)
theorem ua_64 (s : MM) (f : Nat → Int32) : mm_up (HP s) 64 (.inl (.int, 8, f)) = HP (sA s 64 f) := hp_upd rfl rfl (HPf_A s 64 f)
theorem uo_66_1 (s : MM) (x : Int32) : mm_up (HP s) 66 (.inr (.inr (5, (ob_66 s).set 1 (vI x)))) = HP (sO s 66 1 x) := hp_upd rfl rfl (HPf_O s 66 1 x)
theorem ua_67 (s : MM) (f : Nat → Int32) : mm_up (HP s) 67 (.inl (.int, 8, f)) = HP (sA s 67 f) := hp_upd rfl rfl (HPf_A s 67 f)
theorem ua_68 (s : MM) (f : Nat → Int32) : mm_up (HP s) 68 (.inl (.int, 8, f)) = HP (sA s 68 f) := hp_upd rfl rfl (HPf_A s 68 f)
theorem ua_69 (s : MM) (f : Nat → Int32) : mm_up (HP s) 69 (.inl (.int, 8, f)) = HP (sA s 69 f) := hp_upd rfl rfl (HPf_A s 69 f)
theorem uo_71_1 (s : MM) (x : Int32) : mm_up (HP s) 71 (.inr (.inr (5, (ob_71 s).set 1 (vI x)))) = HP (sO s 71 1 x) := hp_upd rfl rfl (HPf_O s 71 1 x)
theorem ua_72 (s : MM) (f : Nat → Int32) : mm_up (HP s) 72 (.inl (.int, 8, f)) = HP (sA s 72 f) := hp_upd rfl rfl (HPf_A s 72 f)
theorem ua_73 (s : MM) (f : Nat → Int32) : mm_up (HP s) 73 (.inl (.int, 8, f)) = HP (sA s 73 f) := hp_upd rfl rfl (HPf_A s 73 f)
theorem ua_74 (s : MM) (f : Nat → Int32) : mm_up (HP s) 74 (.inl (.int, 8, f)) = HP (sA s 74 f) := hp_upd rfl rfl (HPf_A s 74 f)
theorem uo_75_4 (s : MM) (x : Int32) : mm_up (HP s) 75 (.inr (.inr (8, (ob_75 s).set 4 (vI x)))) = HP (sO s 75 4 x) := hp_upd rfl rfl (HPf_O s 75 4 x)
theorem uo_75_5 (s : MM) (x : Int32) : mm_up (HP s) 75 (.inr (.inr (8, (ob_75 s).set 5 (vI x)))) = HP (sO s 75 5 x) := hp_upd rfl rfl (HPf_O s 75 5 x)
theorem uo_75_6 (s : MM) (x : Int32) : mm_up (HP s) 75 (.inr (.inr (8, (ob_75 s).set 6 (vI x)))) = HP (sO s 75 6 x) := hp_upd rfl rfl (HPf_O s 75 6 x)
theorem uo_75_7 (s : MM) (x : Int32) : mm_up (HP s) 75 (.inr (.inr (8, (ob_75 s).set 7 (vI x)))) = HP (sO s 75 7 x) := hp_upd rfl rfl (HPf_O s 75 7 x)
theorem uo_75_11 (s : MM) (x : Int32) : mm_up (HP s) 75 (.inr (.inr (8, (ob_75 s).set 11 (vI x)))) = HP (sO s 75 11 x) := hp_upd rfl rfl (HPf_O s 75 11 x)
theorem uo_75_12 (s : MM) (x : Int32) : mm_up (HP s) 75 (.inr (.inr (8, (ob_75 s).set 12 (vI x)))) = HP (sO s 75 12 x) := hp_upd rfl rfl (HPf_O s 75 12 x)
theorem uo_75_13 (s : MM) (x : Int32) : mm_up (HP s) 75 (.inr (.inr (8, (ob_75 s).set 13 (vI x)))) = HP (sO s 75 13 x) := hp_upd rfl rfl (HPf_O s 75 13 x)
theorem uo_75_15 (s : MM) (x : Int32) : mm_up (HP s) 75 (.inr (.inr (8, (ob_75 s).set 15 (vI x)))) = HP (sO s 75 15 x) := hp_upd rfl rfl (HPf_O s 75 15 x)
theorem uo_75_19 (s : MM) (x : Int32) : mm_up (HP s) 75 (.inr (.inr (8, (ob_75 s).set 19 (vI x)))) = HP (sO s 75 19 x) := hp_upd rfl rfl (HPf_O s 75 19 x)
theorem uo_75_20 (s : MM) (x : Int32) : mm_up (HP s) 75 (.inr (.inr (8, (ob_75 s).set 20 (vI x)))) = HP (sO s 75 20 x) := hp_upd rfl rfl (HPf_O s 75 20 x)
theorem uo_75_21 (s : MM) (x : Int32) : mm_up (HP s) 75 (.inr (.inr (8, (ob_75 s).set 21 (vI x)))) = HP (sO s 75 21 x) := hp_upd rfl rfl (HPf_O s 75 21 x)
theorem uo_75_22 (s : MM) (x : Int32) : mm_up (HP s) 75 (.inr (.inr (8, (ob_75 s).set 22 (vI x)))) = HP (sO s 75 22 x) := hp_upd rfl rfl (HPf_O s 75 22 x)
theorem uo_75_23 (s : MM) (x : Int32) : mm_up (HP s) 75 (.inr (.inr (8, (ob_75 s).set 23 (vI x)))) = HP (sO s 75 23 x) := hp_upd rfl rfl (HPf_O s 75 23 x)
theorem uo_75_26 (s : MM) (x : Int32) : mm_up (HP s) 75 (.inr (.inr (8, (ob_75 s).set 26 (vI x)))) = HP (sO s 75 26 x) := hp_upd rfl rfl (HPf_O s 75 26 x)
theorem uo_75_30 (s : MM) (x : Int32) : mm_up (HP s) 75 (.inr (.inr (8, (ob_75 s).set 30 (vI x)))) = HP (sO s 75 30 x) := hp_upd rfl rfl (HPf_O s 75 30 x)
theorem uo_75_31 (s : MM) (x : Int32) : mm_up (HP s) 75 (.inr (.inr (8, (ob_75 s).set 31 (vI x)))) = HP (sO s 75 31 x) := hp_upd rfl rfl (HPf_O s 75 31 x)
theorem uo_75_32 (s : MM) (x : Int32) : mm_up (HP s) 75 (.inr (.inr (8, (ob_75 s).set 32 (vI x)))) = HP (sO s 75 32 x) := hp_upd rfl rfl (HPf_O s 75 32 x)
theorem uo_75_33 (s : MM) (x : Int32) : mm_up (HP s) 75 (.inr (.inr (8, (ob_75 s).set 33 (vI x)))) = HP (sO s 75 33 x) := hp_upd rfl rfl (HPf_O s 75 33 x)
theorem ua_76 (s : MM) (f : Nat → Int32) : mm_up (HP s) 76 (.inl (.int, 8, f)) = HP (sA s 76 f) := hp_upd rfl rfl (HPf_A s 76 f)
theorem ua_77 (s : MM) (f : Nat → Int32) : mm_up (HP s) 77 (.inl (.int, 8, f)) = HP (sA s 77 f) := hp_upd rfl rfl (HPf_A s 77 f)
theorem ua_78 (s : MM) (f : Nat → Int32) : mm_up (HP s) 78 (.inl (.int, 4, f)) = HP (sA s 78 f) := hp_upd rfl rfl (HPf_A s 78 f)
theorem ua_79 (s : MM) (f : Nat → Int32) : mm_up (HP s) 79 (.inl (.int, 4, f)) = HP (sA s 79 f) := hp_upd rfl rfl (HPf_A s 79 f)
theorem ua_80 (s : MM) (f : Nat → Int32) : mm_up (HP s) 80 (.inl (.int, 8, f)) = HP (sA s 80 f) := hp_upd rfl rfl (HPf_A s 80 f)
theorem ua_81 (s : MM) (f : Nat → Int32) : mm_up (HP s) 81 (.inl (.int, 4, f)) = HP (sA s 81 f) := hp_upd rfl rfl (HPf_A s 81 f)
theorem ua_82 (s : MM) (f : Nat → Int32) : mm_up (HP s) 82 (.inl (.int, 4, f)) = HP (sA s 82 f) := hp_upd rfl rfl (HPf_A s 82 f)
theorem ua_83 (s : MM) (f : Nat → Int32) : mm_up (HP s) 83 (.inl (.int, 8, f)) = HP (sA s 83 f) := hp_upd rfl rfl (HPf_A s 83 f)
theorem ua_84 (s : MM) (f : Nat → Int32) : mm_up (HP s) 84 (.inl (.int, 8, f)) = HP (sA s 84 f) := hp_upd rfl rfl (HPf_A s 84 f)
theorem ua_85 (s : MM) (f : Nat → Int32) : mm_up (HP s) 85 (.inl (.int, 8, f)) = HP (sA s 85 f) := hp_upd rfl rfl (HPf_A s 85 f)
theorem ua_86 (s : MM) (f : Nat → Int32) : mm_up (HP s) 86 (.inl (.int, 40, f)) = HP (sA s 86 f) := hp_upd rfl rfl (HPf_A s 86 f)
theorem ua_87 (s : MM) (f : Nat → Int32) : mm_up (HP s) 87 (.inl (.int, 400, f)) = HP (sA s 87 f) := hp_upd rfl rfl (HPf_A s 87 f)
theorem ua_88 (s : MM) (f : Nat → Int32) : mm_up (HP s) 88 (.inl (.int, 9, f)) = HP (sA s 88 f) := hp_upd rfl rfl (HPf_A s 88 f)
theorem ua_89 (s : MM) (f : Nat → Int32) : mm_up (HP s) 89 (.inl (.int, 720, f)) = HP (sA s 89 f) := hp_upd rfl rfl (HPf_A s 89 f)
theorem ua_90 (s : MM) (f : Nat → Int32) : mm_up (HP s) 90 (.inl (.int, 720, f)) = HP (sA s 90 f) := hp_upd rfl rfl (HPf_A s 90 f)
theorem ua_91 (s : MM) (f : Nat → Int32) : mm_up (HP s) 91 (.inl (.int, 720, f)) = HP (sA s 91 f) := hp_upd rfl rfl (HPf_A s 91 f)
theorem ua_92 (s : MM) (f : Nat → Int32) : mm_up (HP s) 92 (.inl (.int, 6, f)) = HP (sA s 92 f) := hp_upd rfl rfl (HPf_A s 92 f)
theorem ua_93 (s : MM) (f : Nat → Int32) : mm_up (HP s) 93 (.inl (.int, 6, f)) = HP (sA s 93 f) := hp_upd rfl rfl (HPf_A s 93 f)
theorem ua_94 (s : MM) (f : Nat → Int32) : mm_up (HP s) 94 (.inl (.int, 8, f)) = HP (sA s 94 f) := hp_upd rfl rfl (HPf_A s 94 f)
theorem ua_95 (s : MM) (f : Nat → Int32) : mm_up (HP s) 95 (.inl (.int, 8, f)) = HP (sA s 95 f) := hp_upd rfl rfl (HPf_A s 95 f)
theorem ua_96 (s : MM) (f : Nat → Int32) : mm_up (HP s) 96 (.inl (.int, 8, f)) = HP (sA s 96 f) := hp_upd rfl rfl (HPf_A s 96 f)
theorem ua_97 (s : MM) (f : Nat → Int32) : mm_up (HP s) 97 (.inl (.boolean, 2, f)) = HP (sA s 97 f) := hp_upd rfl rfl (HPf_A s 97 f)
theorem ua_98 (s : MM) (f : Nat → Int32) : mm_up (HP s) 98 (.inl (.int, 50, f)) = HP (sA s 98 f) := hp_upd rfl rfl (HPf_A s 98 f)
theorem uo_99_4 (s : MM) (hsr : s.2.2.2.1 = true) (x : Int32) : mm_up (HP s) 99 (.inr (.inr (6, (ob_99 s).set 4 (vI x)))) = HP (sO s 99 4 x) := hp_upd rfl (if_pos hsr) (HPf_O s 99 4 x)
theorem uo_99_5 (s : MM) (hsr : s.2.2.2.1 = true) (x : Int32) : mm_up (HP s) 99 (.inr (.inr (6, (ob_99 s).set 5 (vI x)))) = HP (sO s 99 5 x) := hp_upd rfl (if_pos hsr) (HPf_O s 99 5 x)
theorem uo_99_6 (s : MM) (hsr : s.2.2.2.1 = true) (x : Int32) : mm_up (HP s) 99 (.inr (.inr (6, (ob_99 s).set 6 (vI x)))) = HP (sO s 99 6 x) := hp_upd rfl (if_pos hsr) (HPf_O s 99 6 x)
theorem ua_100 (s : MM) (hsr : s.2.2.2.1 = true) (f : Nat → Int32) : mm_up (HP s) 100 (.inl (.int, 720, f)) = HP (sA s 100 f) := hp_upd rfl (if_pos hsr) (HPf_A s 100 f)
theorem ua_101 (s : MM) (hsr : s.2.2.2.1 = true) (f : Nat → Int32) : mm_up (HP s) 101 (.inl (.int, 720, f)) = HP (sA s 101 f) := hp_upd rfl (if_pos hsr) (HPf_A s 101 f)
theorem ua_102 (s : MM) (hsr : s.2.2.2.1 = true) (f : Nat → Int32) : mm_up (HP s) 102 (.inl (.int, 23, f)) = HP (sA s 102 f) := hp_upd rfl (if_pos hsr) (HPf_A s 102 f)
theorem uo_103_1 (s : MM) (hsr : s.2.2.2.1 = true) (x : Int32) : mm_up (HP s) 103 (.inr (.inr (5, (ob_103 s).set 1 (vI x)))) = HP (sO s 103 1 x) := hp_upd rfl (if_pos hsr) (HPf_O s 103 1 x)
theorem ua_104 (s : MM) (hsr : s.2.2.2.1 = true) (f : Nat → Int32) : mm_up (HP s) 104 (.inl (.int, 8, f)) = HP (sA s 104 f) := hp_upd rfl (if_pos hsr) (HPf_A s 104 f)
