/-! the start: what both constructors leave is the heap of a state, and both sides show the first state -/
/-- the first state -/
def sg0 : SG := ([], 0, 2, [], [0, 1], ([0, 1], fun _ => mI 9, fun _ => mI 9), [], [], none, none, 0)
theorem sg0_ok : SgOk sg0 := by
  refine ⟨Nat.zero_le _, fun c hc => absurd (show c ∈ ([] : List Nat) from hc) (by simp), by decide, by decide, by decide, Nat.zero_le _, fun q hq => absurd (show q ∈ ([] : List (Nat × Nat)) from hq) (by simp), by decide, rfl, by decide, ⟨by decide, by decide, fun _ _ _ => ⟨rfl, rfl⟩, fun b hb hn => ?_⟩, Nat.zero_le _, fun k hk => absurd (show k ∈ ([] : List DK) from hk) (by simp), Nat.zero_le _, fun q hq => absurd (show q ∈ ([] : List (Nat × Nat)) from hq) (by simp), fun k hk => absurd (show (none : Option DK) = some k from hk) (by simp), fun k hk => absurd (show (none : Option DK) = some k from hk) (by simp)⟩
  have hb' : b < 2 := hb
  have hn' : b ∉ [0, 1] := hn
  have h2 : b = 0 ∨ b = 1 := by omega
  rcases h2 with rfl | rfl
  · exact absurd (by decide) hn'
  · exact absurd (by decide) hn'
theorem so_loc (H : Nat → Option AC) {k : Nat} (hk99 : k < 99) : HPf (sOf H) k = HPf (sOf (fun _ => H k)) k := by
  by_cases h1 : k < 25
  · have hk : k = 0 ∨ k = 1 ∨ k = 2 ∨ k = 3 ∨ k = 4 ∨ k = 5 ∨ k = 6 ∨ k = 7 ∨ k = 8 ∨ k = 9 ∨ k = 10 ∨ k = 11 ∨ k = 12 ∨ k = 13 ∨ k = 14 ∨ k = 15 ∨ k = 16 ∨ k = 17 ∨ k = 18 ∨ k = 19 ∨ k = 20 ∨ k = 21 ∨ k = 22 ∨ k = 23 ∨ k = 24 := by omega
    rcases hk with rfl | rfl | rfl | rfl | rfl | rfl | rfl | rfl | rfl | rfl | rfl | rfl | rfl | rfl | rfl | rfl | rfl | rfl | rfl | rfl | rfl | rfl | rfl | rfl | rfl <;> rfl
  by_cases h2 : k < 50
  · have hk : k = 25 ∨ k = 26 ∨ k = 27 ∨ k = 28 ∨ k = 29 ∨ k = 30 ∨ k = 31 ∨ k = 32 ∨ k = 33 ∨ k = 34 ∨ k = 35 ∨ k = 36 ∨ k = 37 ∨ k = 38 ∨ k = 39 ∨ k = 40 ∨ k = 41 ∨ k = 42 ∨ k = 43 ∨ k = 44 ∨ k = 45 ∨ k = 46 ∨ k = 47 ∨ k = 48 ∨ k = 49 := by omega
    rcases hk with rfl | rfl | rfl | rfl | rfl | rfl | rfl | rfl | rfl | rfl | rfl | rfl | rfl | rfl | rfl | rfl | rfl | rfl | rfl | rfl | rfl | rfl | rfl | rfl | rfl <;> rfl
  by_cases h3 : k < 75
  · have hk : k = 50 ∨ k = 51 ∨ k = 52 ∨ k = 53 ∨ k = 54 ∨ k = 55 ∨ k = 56 ∨ k = 57 ∨ k = 58 ∨ k = 59 ∨ k = 60 ∨ k = 61 ∨ k = 62 ∨ k = 63 ∨ k = 64 ∨ k = 65 ∨ k = 66 ∨ k = 67 ∨ k = 68 ∨ k = 69 ∨ k = 70 ∨ k = 71 ∨ k = 72 ∨ k = 73 ∨ k = 74 := by omega
    rcases hk with rfl | rfl | rfl | rfl | rfl | rfl | rfl | rfl | rfl | rfl | rfl | rfl | rfl | rfl | rfl | rfl | rfl | rfl | rfl | rfl | rfl | rfl | rfl | rfl | rfl <;> rfl
  · have hk : k = 75 ∨ k = 76 ∨ k = 77 ∨ k = 78 ∨ k = 79 ∨ k = 80 ∨ k = 81 ∨ k = 82 ∨ k = 83 ∨ k = 84 ∨ k = 85 ∨ k = 86 ∨ k = 87 ∨ k = 88 ∨ k = 89 ∨ k = 90 ∨ k = 91 ∨ k = 92 ∨ k = 93 ∨ k = 94 ∨ k = 95 ∨ k = 96 ∨ k = 97 ∨ k = 98 := by omega
    rcases hk with rfl | rfl | rfl | rfl | rfl | rfl | rfl | rfl | rfl | rfl | rfl | rfl | rfl | rfl | rfl | rfl | rfl | rfl | rfl | rfl | rfl | rfl | rfl | rfl <;> rfl
theorem so_out (H : Nat → Option AC) {k : Nat} (hk99 : 99 ≤ k) : HPf (sOf H) k = none := by
  unfold HPf
  rw [if_neg (by omega), if_neg (by omega), if_neg (by omega), if_neg (by omega)]
  exact if_neg (by simp [sOf])
theorem so_heap {h : AH} (h1 : h.1 = 99) (hs : ∀ k, k < 99 → SH k (h.2 k)) (hn : ∀ k, 99 ≤ k → h.2 k = none) : h = HP (sOf h.2) := by
  refine mm_ext h1 (fun k => ?_)
  show h.2 k = HPf (sOf h.2) k
  by_cases hk : k < 99
  · rw [so_loc h.2 hk]
    exact hs k hk
  · rw [so_out h.2 (by omega)]
    exact hn k (by omega)
theorem so_RS {h : AH} {r b : Nat} {xs : List Nat} (w : Rw h r b xs) : RS (sOf h.2) r b xs := by
  obtain ⟨f, a1, a2, a3, a4, a5⟩ := w
  refine ⟨?_, a3, a4, fun j hj => ?_⟩
  · show rdO (h.2 r) 1 = _
    rw [a1]
    rfl
  · show rdA (h.2 b) j = _
    rw [a2]
    exact a5 j hj
theorem ar_01 : Ar (upd z0 1 1) [0, 1] := by
  intro j hj
  have hj' : j < 2 := hj
  have h2 : j = 0 ∨ j = 1 := by omega
  rcases h2 with rfl | rfl
  · rfl
  · rfl
theorem so_C {h : AH} {f19 f20 : Nat → Int32} (z0' : h.2 0 = some (cO 7 [vR 1, vI 0, vR 2, vR 9, vI 0, vR 16, vR 21, vR 26, vI 0, vR 27, vR 49, vR 63, vN, vL 0])) (e2 : h.2 2 = some (cO 4 [vI 0, vI 2, vI 0, vR 3, vR 5, vR 7, vR 8])) (w5 : Rw h 5 6 (List.range 2)) (w17 : Rw h 17 18 (List.range 2)) (e19 : h.2 19 = some (cI 8 f19)) (k19 : ∀ b, b < 8 → f19 b = mI 9) (e20 : h.2 20 = some (cI 8 f20)) (k20 : ∀ b, b < 8 → f20 b = mI 9) (e21 : h.2 21 = some (cO 0 [vR 22, vR 23, vR 24, vR 25, vI 0])) (e27 : h.2 27 = some (cO 2 [vR 28, vR 29, vI 0, vR 30, vR 31, vR 32, vI 0, vI 0, vI 0, vR 33, vR 34])) : InvC sg0 (sOf h.2) := by
  refine ⟨⟨?_, fun j hj => absurd (show j < 0 from hj) (Nat.not_lt_zero _)⟩, ⟨?_, ?_, so_RS w5, fun j hj => absurd (show j < 0 from hj) (Nat.not_lt_zero _)⟩, ?_, ⟨so_RS w17, fun b hb => ⟨?_, ?_⟩⟩, ⟨?_, trivial⟩, ⟨?_, fun k hk => absurd (show (none : Option DK) = some k from hk) (by simp), fun k hk => absurd (show (none : Option DK) = some k from hk) (by simp)⟩, ⟨?_, fun j hj => absurd (show j < 0 from hj) (Nat.not_lt_zero _)⟩, rfl⟩
  · show rdO (h.2 0) 1 = _
    rw [z0']; rfl
  · show rdO (h.2 2) 1 = _
    rw [e2]; rfl
  · show rdO (h.2 2) 2 = _
    rw [e2]; rfl
  · show rdO (h.2 0) 4 = _
    rw [z0']; rfl
  · show rdA (h.2 19) b = mI 9
    rw [e19]; exact k19 b hb
  · show rdA (h.2 20) b = mI 9
    rw [e20]; exact k20 b hb
  · show rdO (h.2 21) 4 = _
    rw [e21]; rfl
  · show rdO (h.2 0) 8 = _
    rw [z0']; rfl
  · show rdO (h.2 27) 2 = _
    rw [e27]; rfl
theorem so_M {h : AH} {f84 f85 : Nat → Int32} (e75 : h.2 75 = some (cO 8 [vR 76, vR 77, vR 78, vR 79, vI 0, vI 0, vI 0, vI 0, vR 80, vR 81, vR 82, vI 2, vI 0, vI 0, vR 83, vI 2, vR 84, vR 85, vR 86, vI 0, vI 0, vI 0, vI 0, vI 0, vR 87, vR 88, vI 0, vR 89, vR 90, vR 91, vI 0, vI 0, vI 0, vI 0, vR 92, vR 93, vR 94, vR 95, vR 96, vL 0, vR 97, vR 98])) (e80 : h.2 80 = some (cI 8 (upd z0 1 1))) (e83 : h.2 83 = some (cI 8 (upd z0 1 1))) (e84 : h.2 84 = some (cI 8 f84)) (k84 : ∀ b, b < 8 → f84 b = mI 9) (e85 : h.2 85 = some (cI 8 f85)) (k85 : ∀ b, b < 8 → f85 b = mI 9) (e97 : h.2 97 = some (.inl (.boolean, 2, z0))) : InvM sg0 (sOf h.2) := by
  refine ⟨⟨?_, fun j hj => absurd (show j < 0 from hj) (Nat.not_lt_zero _)⟩, ⟨?_, ?_, ?_, fun j hj => absurd (show j < 0 from hj) (Nat.not_lt_zero _)⟩, ?_, ⟨?_, ?_, fun b hb => ⟨?_, ?_⟩⟩, ⟨?_, 0, by decide, ?_, fun j hj => absurd (show j < 0 from hj) (Nat.not_lt_zero _)⟩, ⟨?_, ?_, fun k hk => absurd (show (none : Option DK) = some k from hk) (by simp), fun k hk => absurd (show (none : Option DK) = some k from hk) (by simp)⟩, ⟨?_, fun j hj => absurd (show j < 0 from hj) (Nat.not_lt_zero _)⟩, rfl⟩
  · show rdO (h.2 75) 19 = _
    rw [e75]; rfl
  · show rdO (h.2 75) 11 = _
    rw [e75]; rfl
  · show rdO (h.2 75) 12 = _
    rw [e75]; rfl
  · show Ar (rdA (h.2 80)) [0, 1]
    rw [e80]; exact ar_01
  · show rdO (h.2 75) 13 = _
    rw [e75]; rfl
  · show rdO (h.2 75) 15 = _
    rw [e75]; rfl
  · show Ar (rdA (h.2 83)) [0, 1]
    rw [e83]; exact ar_01
  · show rdA (h.2 84) b = mI 9
    rw [e84]; exact k84 b hb
  · show rdA (h.2 85) b = mI 9
    rw [e85]; exact k85 b hb
  · show rdO (h.2 75) 22 = _
    rw [e75]; rfl
  · show rdO (h.2 75) 23 = _
    rw [e75]; rfl
  · show rdA (h.2 97) 0 = _
    rw [e97]; rfl
  · show rdA (h.2 97) 1 = _
    rw [e97]; rfl
  · show rdO (h.2 75) 33 = _
    rw [e75]; rfl
/-- what both constructors leave -/
theorem so_start {hB hM h2 : AH} {zB zM : Option AV} (qB : QBi zB hB) (e2 : ∀ k, k ≠ 75 → h2.2 k = hB.2 k) (qM : QMi h2 zM hM) : ∃ s, hM = HP s ∧ InvC sg0 s ∧ InvM sg0 s := by
  obtain ⟨-, -, c0, c2, w5, w17, ⟨f19, c19, k19⟩, ⟨f20, c20, k20⟩, c21, c27, sB, noB⟩ := qB
  obtain ⟨-, n, m75, m80, m83, ⟨f84, m84, k84⟩, ⟨f85, m85, k85⟩, m97, sM, fr⟩ := qM
  have low : ∀ k, k < 75 → hM.2 k = hB.2 k := fun k hk => by rw [fr k (Or.inl hk), e2 k (by omega)]
  have w5' : Rw hM 5 6 (List.range 2) := w5.keep (low 5 (by omega)) (low 6 (by omega))
  have w17' : Rw hM 17 18 (List.range 2) := w17.keep (low 17 (by omega)) (low 18 (by omega))
  refine ⟨sOf hM.2, so_heap n (fun k hk => ?_) (fun k hk => ?_), so_C ((low 0 (by omega)).trans c0) ((low 2 (by omega)).trans c2) w5' w17' ((low 19 (by omega)).trans c19) k19 ((low 20 (by omega)).trans c20) k20 ((low 21 (by omega)).trans c21) ((low 27 (by omega)).trans c27), so_M m75 m80 m83 m84 k84 m85 k85 m97⟩
  · by_cases h : k < 75
    · rw [low k h]
      exact sB k h
    · exact sM k (by omega) hk
  · rw [fr k (Or.inr hk), e2 k (by omega)]
    exact noB k (by omega)
