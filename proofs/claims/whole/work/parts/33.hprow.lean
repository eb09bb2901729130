/-! rows of the state -/
def RS (s : MM) (r b : Nat) (xs : List Nat) : Prop := s.2.1 r 1 = nI xs.length ∧ xs.length ≤ 8 ∧ (∀ v ∈ xs, v < 8) ∧ ∀ j, j < xs.length → s.1 b j = nI (xs.getD j 0)
theorem rs_3 {s : MM} {xs : List Nat} (h : RS s 3 4 xs) : Rw (HP s) 3 4 xs := ⟨s.1 4, by rw [← h.1]; rfl, rfl, h.2.1, h.2.2.1, h.2.2.2⟩
theorem rz_3 {s : MM} : Rz (HP s) 3 4 := ⟨_, _, rfl, rfl⟩
theorem rb_3 {s : MM} {h' : AH} {xs : List Nat} (hf : FR (HP s) h' [3, 4]) (h : Rw h' 3 4 xs) : ∃ f, h' = HP (sO (sA s 4 f) 3 1 (nI xs.length)) ∧ xs.length ≤ 8 ∧ (∀ v ∈ xs, v < 8) ∧ ∀ j, j < xs.length → f j = nI (xs.getD j 0) := by
  obtain ⟨f, h1, h2, h3⟩ := h
  refine ⟨f, ?_, h3⟩
  rw [← uo_3_1, ← ua_4]
  refine mm_ext hf.1 (fun k => ?_)
  rw [mmu_get, mmu_get]
  by_cases e1 : k = 3
  · rw [if_pos e1, e1, h1]; rfl
  · rw [if_neg e1]
    by_cases e2 : k = 4
    · rw [if_pos e2, e2, h2]
    · rw [if_neg e2, hf.2 k (by simp [e1, e2])]
theorem rs_5 {s : MM} {xs : List Nat} (h : RS s 5 6 xs) : Rw (HP s) 5 6 xs := ⟨s.1 6, by rw [← h.1]; rfl, rfl, h.2.1, h.2.2.1, h.2.2.2⟩
theorem rz_5 {s : MM} : Rz (HP s) 5 6 := ⟨_, _, rfl, rfl⟩
theorem rb_5 {s : MM} {h' : AH} {xs : List Nat} (hf : FR (HP s) h' [5, 6]) (h : Rw h' 5 6 xs) : ∃ f, h' = HP (sO (sA s 6 f) 5 1 (nI xs.length)) ∧ xs.length ≤ 8 ∧ (∀ v ∈ xs, v < 8) ∧ ∀ j, j < xs.length → f j = nI (xs.getD j 0) := by
  obtain ⟨f, h1, h2, h3⟩ := h
  refine ⟨f, ?_, h3⟩
  rw [← uo_5_1, ← ua_6]
  refine mm_ext hf.1 (fun k => ?_)
  rw [mmu_get, mmu_get]
  by_cases e1 : k = 5
  · rw [if_pos e1, e1, h1]; rfl
  · rw [if_neg e1]
    by_cases e2 : k = 6
    · rw [if_pos e2, e2, h2]
    · rw [if_neg e2, hf.2 k (by simp [e1, e2])]
theorem rs_10 {s : MM} {xs : List Nat} (h : RS s 10 11 xs) : Rw (HP s) 10 11 xs := ⟨s.1 11, by rw [← h.1]; rfl, rfl, h.2.1, h.2.2.1, h.2.2.2⟩
theorem rz_10 {s : MM} : Rz (HP s) 10 11 := ⟨_, _, rfl, rfl⟩
theorem rb_10 {s : MM} {h' : AH} {xs : List Nat} (hf : FR (HP s) h' [10, 11]) (h : Rw h' 10 11 xs) : ∃ f, h' = HP (sO (sA s 11 f) 10 1 (nI xs.length)) ∧ xs.length ≤ 8 ∧ (∀ v ∈ xs, v < 8) ∧ ∀ j, j < xs.length → f j = nI (xs.getD j 0) := by
  obtain ⟨f, h1, h2, h3⟩ := h
  refine ⟨f, ?_, h3⟩
  rw [← uo_10_1, ← ua_11]
  refine mm_ext hf.1 (fun k => ?_)
  rw [mmu_get, mmu_get]
  by_cases e1 : k = 10
  · rw [if_pos e1, e1, h1]; rfl
  · rw [if_neg e1]
    by_cases e2 : k = 11
    · rw [if_pos e2, e2, h2]
    · rw [if_neg e2, hf.2 k (by simp [e1, e2])]
theorem rs_12 {s : MM} {xs : List Nat} (h : RS s 12 13 xs) : Rw (HP s) 12 13 xs := ⟨s.1 13, by rw [← h.1]; rfl, rfl, h.2.1, h.2.2.1, h.2.2.2⟩
theorem rz_12 {s : MM} : Rz (HP s) 12 13 := ⟨_, _, rfl, rfl⟩
theorem rb_12 {s : MM} {h' : AH} {xs : List Nat} (hf : FR (HP s) h' [12, 13]) (h : Rw h' 12 13 xs) : ∃ f, h' = HP (sO (sA s 13 f) 12 1 (nI xs.length)) ∧ xs.length ≤ 8 ∧ (∀ v ∈ xs, v < 8) ∧ ∀ j, j < xs.length → f j = nI (xs.getD j 0) := by
  obtain ⟨f, h1, h2, h3⟩ := h
  refine ⟨f, ?_, h3⟩
  rw [← uo_12_1, ← ua_13]
  refine mm_ext hf.1 (fun k => ?_)
  rw [mmu_get, mmu_get]
  by_cases e1 : k = 12
  · rw [if_pos e1, e1, h1]; rfl
  · rw [if_neg e1]
    by_cases e2 : k = 13
    · rw [if_pos e2, e2, h2]
    · rw [if_neg e2, hf.2 k (by simp [e1, e2])]
theorem rs_17 {s : MM} {xs : List Nat} (h : RS s 17 18 xs) : Rw (HP s) 17 18 xs := ⟨s.1 18, by rw [← h.1]; rfl, rfl, h.2.1, h.2.2.1, h.2.2.2⟩
theorem rz_17 {s : MM} : Rz (HP s) 17 18 := ⟨_, _, rfl, rfl⟩
theorem rb_17 {s : MM} {h' : AH} {xs : List Nat} (hf : FR (HP s) h' [17, 18]) (h : Rw h' 17 18 xs) : ∃ f, h' = HP (sO (sA s 18 f) 17 1 (nI xs.length)) ∧ xs.length ≤ 8 ∧ (∀ v ∈ xs, v < 8) ∧ ∀ j, j < xs.length → f j = nI (xs.getD j 0) := by
  obtain ⟨f, h1, h2, h3⟩ := h
  refine ⟨f, ?_, h3⟩
  rw [← uo_17_1, ← ua_18]
  refine mm_ext hf.1 (fun k => ?_)
  rw [mmu_get, mmu_get]
  by_cases e1 : k = 17
  · rw [if_pos e1, e1, h1]; rfl
  · rw [if_neg e1]
    by_cases e2 : k = 18
    · rw [if_pos e2, e2, h2]
    · rw [if_neg e2, hf.2 k (by simp [e1, e2])]
theorem rs_35 {s : MM} {xs : List Nat} (h : RS s 35 36 xs) : Rw (HP s) 35 36 xs := ⟨s.1 36, by rw [← h.1]; rfl, rfl, h.2.1, h.2.2.1, h.2.2.2⟩
theorem rz_35 {s : MM} : Rz (HP s) 35 36 := ⟨_, _, rfl, rfl⟩
theorem rb_35 {s : MM} {h' : AH} {xs : List Nat} (hf : FR (HP s) h' [35, 36]) (h : Rw h' 35 36 xs) : ∃ f, h' = HP (sO (sA s 36 f) 35 1 (nI xs.length)) ∧ xs.length ≤ 8 ∧ (∀ v ∈ xs, v < 8) ∧ ∀ j, j < xs.length → f j = nI (xs.getD j 0) := by
  obtain ⟨f, h1, h2, h3⟩ := h
  refine ⟨f, ?_, h3⟩
  rw [← uo_35_1, ← ua_36]
  refine mm_ext hf.1 (fun k => ?_)
  rw [mmu_get, mmu_get]
  by_cases e1 : k = 35
  · rw [if_pos e1, e1, h1]; rfl
  · rw [if_neg e1]
    by_cases e2 : k = 36
    · rw [if_pos e2, e2, h2]
    · rw [if_neg e2, hf.2 k (by simp [e1, e2])]
theorem rs_37 {s : MM} {xs : List Nat} (h : RS s 37 38 xs) : Rw (HP s) 37 38 xs := ⟨s.1 38, by rw [← h.1]; rfl, rfl, h.2.1, h.2.2.1, h.2.2.2⟩
theorem rz_37 {s : MM} : Rz (HP s) 37 38 := ⟨_, _, rfl, rfl⟩
theorem rb_37 {s : MM} {h' : AH} {xs : List Nat} (hf : FR (HP s) h' [37, 38]) (h : Rw h' 37 38 xs) : ∃ f, h' = HP (sO (sA s 38 f) 37 1 (nI xs.length)) ∧ xs.length ≤ 8 ∧ (∀ v ∈ xs, v < 8) ∧ ∀ j, j < xs.length → f j = nI (xs.getD j 0) := by
  obtain ⟨f, h1, h2, h3⟩ := h
  refine ⟨f, ?_, h3⟩
  rw [← uo_37_1, ← ua_38]
  refine mm_ext hf.1 (fun k => ?_)
  rw [mmu_get, mmu_get]
  by_cases e1 : k = 37
  · rw [if_pos e1, e1, h1]; rfl
  · rw [if_neg e1]
    by_cases e2 : k = 38
    · rw [if_pos e2, e2, h2]
    · rw [if_neg e2, hf.2 k (by simp [e1, e2])]
theorem rs_39 {s : MM} {xs : List Nat} (h : RS s 39 40 xs) : Rw (HP s) 39 40 xs := ⟨s.1 40, by rw [← h.1]; rfl, rfl, h.2.1, h.2.2.1, h.2.2.2⟩
theorem rz_39 {s : MM} : Rz (HP s) 39 40 := ⟨_, _, rfl, rfl⟩
theorem rb_39 {s : MM} {h' : AH} {xs : List Nat} (hf : FR (HP s) h' [39, 40]) (h : Rw h' 39 40 xs) : ∃ f, h' = HP (sO (sA s 40 f) 39 1 (nI xs.length)) ∧ xs.length ≤ 8 ∧ (∀ v ∈ xs, v < 8) ∧ ∀ j, j < xs.length → f j = nI (xs.getD j 0) := by
  obtain ⟨f, h1, h2, h3⟩ := h
  refine ⟨f, ?_, h3⟩
  rw [← uo_39_1, ← ua_40]
  refine mm_ext hf.1 (fun k => ?_)
  rw [mmu_get, mmu_get]
  by_cases e1 : k = 39
  · rw [if_pos e1, e1, h1]; rfl
  · rw [if_neg e1]
    by_cases e2 : k = 40
    · rw [if_pos e2, e2, h2]
    · rw [if_neg e2, hf.2 k (by simp [e1, e2])]
theorem rs_41 {s : MM} {xs : List Nat} (h : RS s 41 42 xs) : Rw (HP s) 41 42 xs := ⟨s.1 42, by rw [← h.1]; rfl, rfl, h.2.1, h.2.2.1, h.2.2.2⟩
theorem rz_41 {s : MM} : Rz (HP s) 41 42 := ⟨_, _, rfl, rfl⟩
theorem rb_41 {s : MM} {h' : AH} {xs : List Nat} (hf : FR (HP s) h' [41, 42]) (h : Rw h' 41 42 xs) : ∃ f, h' = HP (sO (sA s 42 f) 41 1 (nI xs.length)) ∧ xs.length ≤ 8 ∧ (∀ v ∈ xs, v < 8) ∧ ∀ j, j < xs.length → f j = nI (xs.getD j 0) := by
  obtain ⟨f, h1, h2, h3⟩ := h
  refine ⟨f, ?_, h3⟩
  rw [← uo_41_1, ← ua_42]
  refine mm_ext hf.1 (fun k => ?_)
  rw [mmu_get, mmu_get]
  by_cases e1 : k = 41
  · rw [if_pos e1, e1, h1]; rfl
  · rw [if_neg e1]
    by_cases e2 : k = 42
    · rw [if_pos e2, e2, h2]
    · rw [if_neg e2, hf.2 k (by simp [e1, e2])]
theorem rs_43 {s : MM} {xs : List Nat} (h : RS s 43 44 xs) : Rw (HP s) 43 44 xs := ⟨s.1 44, by rw [← h.1]; rfl, rfl, h.2.1, h.2.2.1, h.2.2.2⟩
theorem rz_43 {s : MM} : Rz (HP s) 43 44 := ⟨_, _, rfl, rfl⟩
theorem rb_43 {s : MM} {h' : AH} {xs : List Nat} (hf : FR (HP s) h' [43, 44]) (h : Rw h' 43 44 xs) : ∃ f, h' = HP (sO (sA s 44 f) 43 1 (nI xs.length)) ∧ xs.length ≤ 8 ∧ (∀ v ∈ xs, v < 8) ∧ ∀ j, j < xs.length → f j = nI (xs.getD j 0) := by
  obtain ⟨f, h1, h2, h3⟩ := h
  refine ⟨f, ?_, h3⟩
  rw [← uo_43_1, ← ua_44]
  refine mm_ext hf.1 (fun k => ?_)
  rw [mmu_get, mmu_get]
  by_cases e1 : k = 43
  · rw [if_pos e1, e1, h1]; rfl
  · rw [if_neg e1]
    by_cases e2 : k = 44
    · rw [if_pos e2, e2, h2]
    · rw [if_neg e2, hf.2 k (by simp [e1, e2])]
theorem rs_45 {s : MM} {xs : List Nat} (h : RS s 45 46 xs) : Rw (HP s) 45 46 xs := ⟨s.1 46, by rw [← h.1]; rfl, rfl, h.2.1, h.2.2.1, h.2.2.2⟩
theorem rz_45 {s : MM} : Rz (HP s) 45 46 := ⟨_, _, rfl, rfl⟩
theorem rb_45 {s : MM} {h' : AH} {xs : List Nat} (hf : FR (HP s) h' [45, 46]) (h : Rw h' 45 46 xs) : ∃ f, h' = HP (sO (sA s 46 f) 45 1 (nI xs.length)) ∧ xs.length ≤ 8 ∧ (∀ v ∈ xs, v < 8) ∧ ∀ j, j < xs.length → f j = nI (xs.getD j 0) := by
  obtain ⟨f, h1, h2, h3⟩ := h
  refine ⟨f, ?_, h3⟩
  rw [← uo_45_1, ← ua_46]
  refine mm_ext hf.1 (fun k => ?_)
  rw [mmu_get, mmu_get]
  by_cases e1 : k = 45
  · rw [if_pos e1, e1, h1]; rfl
  · rw [if_neg e1]
    by_cases e2 : k = 46
    · rw [if_pos e2, e2, h2]
    · rw [if_neg e2, hf.2 k (by simp [e1, e2])]
theorem rs_47 {s : MM} {xs : List Nat} (h : RS s 47 48 xs) : Rw (HP s) 47 48 xs := ⟨s.1 48, by rw [← h.1]; rfl, rfl, h.2.1, h.2.2.1, h.2.2.2⟩
theorem rz_47 {s : MM} : Rz (HP s) 47 48 := ⟨_, _, rfl, rfl⟩
theorem rb_47 {s : MM} {h' : AH} {xs : List Nat} (hf : FR (HP s) h' [47, 48]) (h : Rw h' 47 48 xs) : ∃ f, h' = HP (sO (sA s 48 f) 47 1 (nI xs.length)) ∧ xs.length ≤ 8 ∧ (∀ v ∈ xs, v < 8) ∧ ∀ j, j < xs.length → f j = nI (xs.getD j 0) := by
  obtain ⟨f, h1, h2, h3⟩ := h
  refine ⟨f, ?_, h3⟩
  rw [← uo_47_1, ← ua_48]
  refine mm_ext hf.1 (fun k => ?_)
  rw [mmu_get, mmu_get]
  by_cases e1 : k = 47
  · rw [if_pos e1, e1, h1]; rfl
  · rw [if_neg e1]
    by_cases e2 : k = 48
    · rw [if_pos e2, e2, h2]
    · rw [if_neg e2, hf.2 k (by simp [e1, e2])]
theorem rs_53 {s : MM} {xs : List Nat} (h : RS s 53 54 xs) : Rw (HP s) 53 54 xs := ⟨s.1 54, by rw [← h.1]; rfl, rfl, h.2.1, h.2.2.1, h.2.2.2⟩
theorem rz_53 {s : MM} : Rz (HP s) 53 54 := ⟨_, _, rfl, rfl⟩
theorem rb_53 {s : MM} {h' : AH} {xs : List Nat} (hf : FR (HP s) h' [53, 54]) (h : Rw h' 53 54 xs) : ∃ f, h' = HP (sO (sA s 54 f) 53 1 (nI xs.length)) ∧ xs.length ≤ 8 ∧ (∀ v ∈ xs, v < 8) ∧ ∀ j, j < xs.length → f j = nI (xs.getD j 0) := by
  obtain ⟨f, h1, h2, h3⟩ := h
  refine ⟨f, ?_, h3⟩
  rw [← uo_53_1, ← ua_54]
  refine mm_ext hf.1 (fun k => ?_)
  rw [mmu_get, mmu_get]
  by_cases e1 : k = 53
  · rw [if_pos e1, e1, h1]; rfl
  · rw [if_neg e1]
    by_cases e2 : k = 54
    · rw [if_pos e2, e2, h2]
    · rw [if_neg e2, hf.2 k (by simp [e1, e2])]
theorem rs_55 {s : MM} {xs : List Nat} (h : RS s 55 56 xs) : Rw (HP s) 55 56 xs := ⟨s.1 56, by rw [← h.1]; rfl, rfl, h.2.1, h.2.2.1, h.2.2.2⟩
theorem rz_55 {s : MM} : Rz (HP s) 55 56 := ⟨_, _, rfl, rfl⟩
theorem rb_55 {s : MM} {h' : AH} {xs : List Nat} (hf : FR (HP s) h' [55, 56]) (h : Rw h' 55 56 xs) : ∃ f, h' = HP (sO (sA s 56 f) 55 1 (nI xs.length)) ∧ xs.length ≤ 8 ∧ (∀ v ∈ xs, v < 8) ∧ ∀ j, j < xs.length → f j = nI (xs.getD j 0) := by
  obtain ⟨f, h1, h2, h3⟩ := h
  refine ⟨f, ?_, h3⟩
  rw [← uo_55_1, ← ua_56]
  refine mm_ext hf.1 (fun k => ?_)
  rw [mmu_get, mmu_get]
  by_cases e1 : k = 55
  · rw [if_pos e1, e1, h1]; rfl
  · rw [if_neg e1]
    by_cases e2 : k = 56
    · rw [if_pos e2, e2, h2]
    · rw [if_neg e2, hf.2 k (by simp [e1, e2])]
theorem rs_57 {s : MM} {xs : List Nat} (h : RS s 57 58 xs) : Rw (HP s) 57 58 xs := ⟨s.1 58, by rw [← h.1]; rfl, rfl, h.2.1, h.2.2.1, h.2.2.2⟩
theorem rz_57 {s : MM} : Rz (HP s) 57 58 := ⟨_, _, rfl, rfl⟩
theorem rb_57 {s : MM} {h' : AH} {xs : List Nat} (hf : FR (HP s) h' [57, 58]) (h : Rw h' 57 58 xs) : ∃ f, h' = HP (sO (sA s 58 f) 57 1 (nI xs.length)) ∧ xs.length ≤ 8 ∧ (∀ v ∈ xs, v < 8) ∧ ∀ j, j < xs.length → f j = nI (xs.getD j 0) := by
  obtain ⟨f, h1, h2, h3⟩ := h
  refine ⟨f, ?_, h3⟩
  rw [← uo_57_1, ← ua_58]
  refine mm_ext hf.1 (fun k => ?_)
  rw [mmu_get, mmu_get]
  by_cases e1 : k = 57
  · rw [if_pos e1, e1, h1]; rfl
  · rw [if_neg e1]
    by_cases e2 : k = 58
    · rw [if_pos e2, e2, h2]
    · rw [if_neg e2, hf.2 k (by simp [e1, e2])]
theorem rs_59 {s : MM} {xs : List Nat} (h : RS s 59 60 xs) : Rw (HP s) 59 60 xs := ⟨s.1 60, by rw [← h.1]; rfl, rfl, h.2.1, h.2.2.1, h.2.2.2⟩
theorem rz_59 {s : MM} : Rz (HP s) 59 60 := ⟨_, _, rfl, rfl⟩
theorem rb_59 {s : MM} {h' : AH} {xs : List Nat} (hf : FR (HP s) h' [59, 60]) (h : Rw h' 59 60 xs) : ∃ f, h' = HP (sO (sA s 60 f) 59 1 (nI xs.length)) ∧ xs.length ≤ 8 ∧ (∀ v ∈ xs, v < 8) ∧ ∀ j, j < xs.length → f j = nI (xs.getD j 0) := by
  obtain ⟨f, h1, h2, h3⟩ := h
  refine ⟨f, ?_, h3⟩
  rw [← uo_59_1, ← ua_60]
  refine mm_ext hf.1 (fun k => ?_)
  rw [mmu_get, mmu_get]
  by_cases e1 : k = 59
  · rw [if_pos e1, e1, h1]; rfl
  · rw [if_neg e1]
    by_cases e2 : k = 60
    · rw [if_pos e2, e2, h2]
    · rw [if_neg e2, hf.2 k (by simp [e1, e2])]
theorem rs_61 {s : MM} {xs : List Nat} (h : RS s 61 62 xs) : Rw (HP s) 61 62 xs := ⟨s.1 62, by rw [← h.1]; rfl, rfl, h.2.1, h.2.2.1, h.2.2.2⟩
theorem rz_61 {s : MM} : Rz (HP s) 61 62 := ⟨_, _, rfl, rfl⟩
theorem rb_61 {s : MM} {h' : AH} {xs : List Nat} (hf : FR (HP s) h' [61, 62]) (h : Rw h' 61 62 xs) : ∃ f, h' = HP (sO (sA s 62 f) 61 1 (nI xs.length)) ∧ xs.length ≤ 8 ∧ (∀ v ∈ xs, v < 8) ∧ ∀ j, j < xs.length → f j = nI (xs.getD j 0) := by
  obtain ⟨f, h1, h2, h3⟩ := h
  refine ⟨f, ?_, h3⟩
  rw [← uo_61_1, ← ua_62]
  refine mm_ext hf.1 (fun k => ?_)
  rw [mmu_get, mmu_get]
  by_cases e1 : k = 61
  · rw [if_pos e1, e1, h1]; rfl
  · rw [if_neg e1]
    by_cases e2 : k = 62
    · rw [if_pos e2, e2, h2]
    · rw [if_neg e2, hf.2 k (by simp [e1, e2])]
theorem rs_63 {s : MM} {xs : List Nat} (h : RS s 63 64 xs) : Rw (HP s) 63 64 xs := ⟨s.1 64, by rw [← h.1]; rfl, rfl, h.2.1, h.2.2.1, h.2.2.2⟩
theorem rz_63 {s : MM} : Rz (HP s) 63 64 := ⟨_, _, rfl, rfl⟩
theorem rb_63 {s : MM} {h' : AH} {xs : List Nat} (hf : FR (HP s) h' [63, 64]) (h : Rw h' 63 64 xs) : ∃ f, h' = HP (sO (sA s 64 f) 63 1 (nI xs.length)) ∧ xs.length ≤ 8 ∧ (∀ v ∈ xs, v < 8) ∧ ∀ j, j < xs.length → f j = nI (xs.getD j 0) := by
  obtain ⟨f, h1, h2, h3⟩ := h
  refine ⟨f, ?_, h3⟩
  rw [← uo_63_1, ← ua_64]
  refine mm_ext hf.1 (fun k => ?_)
  rw [mmu_get, mmu_get]
  by_cases e1 : k = 63
  · rw [if_pos e1, e1, h1]; rfl
  · rw [if_neg e1]
    by_cases e2 : k = 64
    · rw [if_pos e2, e2, h2]
    · rw [if_neg e2, hf.2 k (by simp [e1, e2])]
theorem rs_66 {s : MM} {xs : List Nat} (h : RS s 66 67 xs) : Rw (HP s) 66 67 xs := ⟨s.1 67, by rw [← h.1]; rfl, rfl, h.2.1, h.2.2.1, h.2.2.2⟩
theorem rz_66 {s : MM} : Rz (HP s) 66 67 := ⟨_, _, rfl, rfl⟩
theorem rb_66 {s : MM} {h' : AH} {xs : List Nat} (hf : FR (HP s) h' [66, 67]) (h : Rw h' 66 67 xs) : ∃ f, h' = HP (sO (sA s 67 f) 66 1 (nI xs.length)) ∧ xs.length ≤ 8 ∧ (∀ v ∈ xs, v < 8) ∧ ∀ j, j < xs.length → f j = nI (xs.getD j 0) := by
  obtain ⟨f, h1, h2, h3⟩ := h
  refine ⟨f, ?_, h3⟩
  rw [← uo_66_1, ← ua_67]
  refine mm_ext hf.1 (fun k => ?_)
  rw [mmu_get, mmu_get]
  by_cases e1 : k = 66
  · rw [if_pos e1, e1, h1]; rfl
  · rw [if_neg e1]
    by_cases e2 : k = 67
    · rw [if_pos e2, e2, h2]
    · rw [if_neg e2, hf.2 k (by simp [e1, e2])]
theorem rs_71 {s : MM} {xs : List Nat} (h : RS s 71 72 xs) : Rw (HP s) 71 72 xs := ⟨s.1 72, by rw [← h.1]; rfl, rfl, h.2.1, h.2.2.1, h.2.2.2⟩
theorem rz_71 {s : MM} : Rz (HP s) 71 72 := ⟨_, _, rfl, rfl⟩
theorem rb_71 {s : MM} {h' : AH} {xs : List Nat} (hf : FR (HP s) h' [71, 72]) (h : Rw h' 71 72 xs) : ∃ f, h' = HP (sO (sA s 72 f) 71 1 (nI xs.length)) ∧ xs.length ≤ 8 ∧ (∀ v ∈ xs, v < 8) ∧ ∀ j, j < xs.length → f j = nI (xs.getD j 0) := by
  obtain ⟨f, h1, h2, h3⟩ := h
  refine ⟨f, ?_, h3⟩
  rw [← uo_71_1, ← ua_72]
  refine mm_ext hf.1 (fun k => ?_)
  rw [mmu_get, mmu_get]
  by_cases e1 : k = 71
  · rw [if_pos e1, e1, h1]; rfl
  · rw [if_neg e1]
    by_cases e2 : k = 72
    · rw [if_pos e2, e2, h2]
    · rw [if_neg e2, hf.2 k (by simp [e1, e2])]
theorem sO_g (s : MM) (k j : Nat) (x : Int32) (k' j' : Nat) : (sO s k j x).2.1 k' j' = if k' = k then (if j' = j then x else s.2.1 k' j') else s.2.1 k' j' := by
  show va_up s.2.1 k (upd (s.2.1 k) j x) k' j' = _
  unfold va_up upd
  split
  · rename_i e; rw [e]
  · rfl
theorem sA_g (s : MM) (k : Nat) (f : Nat → Int32) (k' : Nat) : (sA s k f).1 k' = if k' = k then f else s.1 k' := rfl
theorem sA_O (s : MM) (k : Nat) (f : Nat → Int32) : (sA s k f).2 = s.2 := rfl
theorem sO_A (s : MM) (k j : Nat) (x : Int32) : (sO s k j x).1 = s.1 := rfl
theorem sO_2 (s : MM) (k j : Nat) (x : Int32) : (sO s k j x).2.2 = s.2.2 := rfl
theorem sC_1 (s : MM) (x : Int64) : (sC s x).1 = s.1 := rfl
theorem sC_2 (s : MM) (x : Int64) : (sC s x).2.1 = s.2.1 := rfl
theorem sC_3 (s : MM) (x : Int64) : (sC s x).2.2.1 = s.2.2.1 := rfl
theorem sC_4 (s : MM) (x : Int64) : (sC s x).2.2.2.1 = s.2.2.2.1 := rfl
theorem sC_5 (s : MM) (x : Int64) : (sC s x).2.2.2.2.1 = x := rfl
theorem sC_6 (s : MM) (x : Int64) : (sC s x).2.2.2.2.2 = s.2.2.2.2.2 := rfl
theorem sM_1 (s : MM) (x : Int64) : (sM s x).1 = s.1 := rfl
theorem sM_2 (s : MM) (x : Int64) : (sM s x).2.1 = s.2.1 := rfl
theorem sM_3 (s : MM) (x : Int64) : (sM s x).2.2.1 = s.2.2.1 := rfl
theorem sM_4 (s : MM) (x : Int64) : (sM s x).2.2.2.1 = s.2.2.2.1 := rfl
theorem sM_5 (s : MM) (x : Int64) : (sM s x).2.2.2.2.1 = s.2.2.2.2.1 := rfl
theorem sM_6 (s : MM) (x : Int64) : (sM s x).2.2.2.2.2 = x := rfl
theorem sW_1 (s : MM) (b : Bool) : (sSw s b).1 = s.1 := rfl
theorem sW_2 (s : MM) (b : Bool) : (sSw s b).2.1 = s.2.1 := rfl
theorem sW_3 (s : MM) (b : Bool) : (sSw s b).2.2.1 = b := rfl
theorem sW_4 (s : MM) (b : Bool) : (sSw s b).2.2.2 = s.2.2.2 := rfl
theorem uc_0 (s : MM) (x : Int64) : mm_up (HP s) 0 (.inr (.inr (7, (ob_0 s).set 13 (vL x)))) = HP (sC s x) := by
  refine hp_upd rfl rfl (fun j hj => ?_)
  unfold HPf
  have e : HP0 (sC s x) j = HP0 s j := by
    unfold HP0
    split <;> first | rfl | exact absurd rfl hj
  rw [e]
  rfl
theorem uc_75 (s : MM) (x : Int64) : mm_up (HP s) 75 (.inr (.inr (8, (ob_75 s).set 39 (vL x)))) = HP (sM s x) := by
  refine hp_upd rfl rfl (fun j hj => ?_)
  unfold HPf
  have e : HP75 (sM s x) j = HP75 s j := by
    unfold HP75
    split <;> first | rfl | exact absurd rfl hj
  rw [e]
  rfl
theorem mm_same {h : AH} {q : Nat} {c : AC} (hq : h.2 q = some c) : h = mm_up h q c := mm_ext rfl (fun k => by
    rw [mmu_get]
    split
    · rename_i e; rw [e, hq]
    · rfl)
theorem sA_sA (s : MM) (k : Nat) (f g : Nat → Int32) : sA (sA s k f) k g = sA s k g := by
  unfold sA va_up
  congr 1
  funext j
  dsimp only
  split <;> rfl
theorem sA_id (s : MM) (k : Nat) : sA s k (s.1 k) = s := by
  unfold sA va_up
  obtain ⟨a, b⟩ := s
  congr 1
  funext j
  dsimp only
  split
  · rename_i e; rw [e]
  · rfl
