/-! ONE STATE for both: what the calls show -/
/-- a desk: the shelf, who has each book, what was asked for -/
abbrev DK : Type := List Nat × (Nat → Int32) × (Nat → Int32)
/-- text, law, books, readers (wish, worth), catalogue, desk, earlier desks (the last first), told, two slots, seed -/
abbrev SG : Type := List Nat × Nat × Nat × List (Nat × Nat) × List Nat × DK × List DK × List (Nat × Nat) × Option DK × Option DK × Int64
abbrev gTx (g : SG) : List Nat := g.1
abbrev gLw (g : SG) : Nat := g.2.1
abbrev gN (g : SG) : Nat := g.2.2.1
abbrev gRd (g : SG) : List (Nat × Nat) := g.2.2.2.1
abbrev gCa (g : SG) : List Nat := g.2.2.2.2.1
abbrev gDk (g : SG) : DK := g.2.2.2.2.2.1
abbrev gAc (g : SG) : List DK := g.2.2.2.2.2.2.1
abbrev gTo (g : SG) : List (Nat × Nat) := g.2.2.2.2.2.2.2.1
abbrev gK0 (g : SG) : Option DK := g.2.2.2.2.2.2.2.2.1
abbrev gK1 (g : SG) : Option DK := g.2.2.2.2.2.2.2.2.2.1
abbrev gSd (g : SG) : Int64 := g.2.2.2.2.2.2.2.2.2.2
/-- what a desk is, with n books and r readers -/
def DkOk (n r : Nat) (k : DK) : Prop := k.1.Nodup ∧ (∀ v ∈ k.1, v < n) ∧ (∀ b, b < 8 → (b ∈ k.1 ∨ n ≤ b) → k.2.1 b = mI 9 ∧ k.2.2 b = mI 9) ∧ ∀ b, b < n → b ∉ k.1 → ∃ i a, i < r ∧ a < n ∧ k.2.1 b = nI i ∧ k.2.2 b = nI a
def SgOk (g : SG) : Prop := (gTx g).length ≤ 40 ∧ (∀ c ∈ gTx g, c < 256) ∧ gLw g < 3 ∧ 2 ≤ gN g ∧ gN g ≤ 8 ∧ (gRd g).length ≤ 4 ∧ (∀ q ∈ gRd g, q.1 < gN g ∧ q.2 < 10) ∧ (gCa g).Nodup ∧ (gCa g).length = gN g ∧ (∀ v ∈ gCa g, v < gN g) ∧ DkOk (gN g) (gRd g).length (gDk g) ∧ (gAc g).length ≤ 16 ∧ (∀ k ∈ gAc g, DkOk (gN g) (gRd g).length k) ∧ (gTo g).length ≤ 6 ∧ (∀ q ∈ gTo g, q.1 < 8 ∧ q.2 < 8) ∧ (∀ k, gK0 g = some k → DkOk (gN g) (gRd g).length k) ∧ ∀ k, gK1 g = some k → DkOk (gN g) (gRd g).length k
theorem nodup_len {n : Nat} : ∀ {xs : List Nat}, xs.Nodup → (∀ v ∈ xs, v < n) → xs.length ≤ n := by
  induction n with
  | zero =>
    intro xs _ h
    cases xs with
    | nil => exact Nat.le_refl _
    | cons x xs => exact absurd (h x List.mem_cons_self) (Nat.not_lt_zero _)
  | succ n ih =>
    intro xs hn h
    by_cases hm : n ∈ xs
    · have h1 : (xs.erase n).length ≤ n := ih (hn.erase n) (fun v hv => by
        have h2 := (List.Nodup.mem_erase_iff hn).mp hv
        have := h v h2.2
        omega)
      rw [List.length_erase_of_mem hm] at h1
      omega
    · have := ih hn (fun v hv => by
        have h3 := h v hv
        have h4 : v ≠ n := fun e => hm (e ▸ hv)
        omega)
      omega
/-- the desk at p: its row at p + 1, p + 2, who has what at p + 3, what was asked for at p + 4 -/
def DeskAt (s : MM) (r ho af : Nat) (k : DK) : Prop := RS s r (r + 1) k.1 ∧ ∀ b, b < 8 → s.1 ho b = k.2.1 b ∧ s.1 af b = k.2.2 b
/-- the acts of the class: each record says how its desk came out of the one before -/
def AcOk (B P H Q : Nat → Int32) : DK → List DK → Prop
  | _, [] => True
  | cur, k :: rest => (∃ b p, b < 8 ∧ B rest.length = nI b ∧ P rest.length = nI p ∧ H rest.length = k.2.1 b ∧ Q rest.length = k.2.2 b ∧ (∀ j, j < 8 → j ≠ b → k.2.1 j = cur.2.1 j ∧ k.2.2 j = cur.2.2 j) ∧ ((k.2.1 b = mI 9 ∧ p ≤ cur.1.length ∧ cur.1.length < 8 ∧ k.1 = cur.1.insertIdx p b) ∨ (¬ k.2.1 b = mI 9 ∧ p < cur.1.length ∧ k.1 = cur.1.eraseIdx p))) ∧ AcOk B P H Q k rest
/-- a desk in 25 places of an array from base on -/
def SnapAt (f : Nat → Int32) (base : Nat) (k : DK) : Prop := (∀ j, j < k.1.length → f (base + j) = nI (k.1.getD j 0)) ∧ f (base + 24) = nI k.1.length ∧ ∀ b, b < 8 → f (base + 8 + b) = k.2.1 b ∧ f (base + 16 + b) = k.2.2 b
def pP (s : MM) : Nat := bif s.2.2.1 then 9 else 2
def InvC (g : SG) (s : MM) : Prop :=
  (s.2.1 0 1 = nI (gTx g).length ∧ ∀ j, j < (gTx g).length → s.1 1 j = (nI ((gTx g).getD j 0)).toInt8.toInt32) ∧
  (s.2.1 (pP s) 1 = nI (gN g) ∧ s.2.1 (pP s) 2 = nI (gRd g).length ∧ RS s (pP s + 3) (pP s + 4) (gCa g) ∧ ∀ i, i < (gRd g).length → s.1 (pP s + 5) i = nI ((gRd g).getD i (0, 0)).1 ∧ s.1 (pP s + 6) i = nI ((gRd g).getD i (0, 0)).2) ∧
  s.2.1 0 4 = nI (gLw g) ∧ DeskAt s 17 19 20 (gDk g) ∧ (s.2.1 21 4 = nI (gAc g).length ∧ AcOk (s.1 22) (s.1 23) (s.1 24) (s.1 25) (gDk g) (gAc g)) ∧
  (s.2.1 0 8 = nI ((if (gK0 g).isSome then 1 else 0) + (if (gK1 g).isSome then 2 else 0)) ∧ (∀ k, gK0 g = some k → DeskAt s 66 68 69 k) ∧ ∀ k, gK1 g = some k → DeskAt s 71 73 74 k) ∧
  (s.2.1 27 2 = nI (gTo g).length ∧ ∀ i, i < (gTo g).length → s.1 28 i = nI ((gTo g).getD i (0, 0)).1 ∧ s.1 29 i = nI ((gTo g).getD i (0, 0)).2) ∧
  s.2.2.2.2.1 = gSd g
def InvM (g : SG) (s : MM) : Prop :=
  (s.2.1 75 19 = nI (gTx g).length ∧ Ar (s.1 86) (gTx g)) ∧
  (s.2.1 75 11 = nI (gN g) ∧ s.2.1 75 12 = nI (gRd g).length ∧ Ar (s.1 80) (gCa g) ∧ ∀ i, i < (gRd g).length → s.1 81 i = nI ((gRd g).getD i (0, 0)).1 ∧ s.1 82 i = nI ((gRd g).getD i (0, 0)).2) ∧
  s.2.1 75 13 = nI (gLw g) ∧ (s.2.1 75 15 = nI (gDk g).1.length ∧ Ar (s.1 83) (gDk g).1 ∧ ∀ b, b < 8 → s.1 84 b = (gDk g).2.1 b ∧ s.1 85 b = (gDk g).2.2 b) ∧
  (s.2.1 75 22 = nI (gAc g).length ∧ ∃ nx, nx < 16 ∧ s.2.1 75 23 = nI nx ∧ ∀ i, i < (gAc g).length → SnapAt (s.1 87) (25 * ((nx + 15 - i) % 16)) ((gAc g).getD i ([], fun _ => 0, fun _ => 0))) ∧
  (s.1 97 0 = (if (gK0 g).isSome then 1 else 0) ∧ s.1 97 1 = (if (gK1 g).isSome then 1 else 0) ∧ (∀ k, gK0 g = some k → SnapAt (s.1 98) 0 k) ∧ ∀ k, gK1 g = some k → SnapAt (s.1 98) 25 k) ∧
  (s.2.1 75 33 = nI (gTo g).length ∧ ∀ i, i < (gTo g).length → s.1 92 i = nI ((gTo g).getD i (0, 0)).1 ∧ s.1 93 i = nI ((gTo g).getD i (0, 0)).2) ∧
  s.2.2.2.2.2 = gSd g
/-- the model's part is the same -/
def agM (s s' : MM) : Prop := (∀ k, 75 ≤ k → k < 99 → s'.1 k = s.1 k ∧ s'.2.1 k = s.2.1 k) ∧ s'.2.2.2.2.2 = s.2.2.2.2.2
/-- the class's part is the same -/
def agC (s s' : MM) : Prop := (∀ k, k < 75 ∨ 99 ≤ k → s'.1 k = s.1 k ∧ s'.2.1 k = s.2.1 k) ∧ s'.2.2.1 = s.2.2.1 ∧ s'.2.2.2.1 = s.2.2.2.1 ∧ s'.2.2.2.2.1 = s.2.2.2.2.1
theorem agM.rf {s : MM} : agM s s := ⟨fun _ _ _ => ⟨rfl, rfl⟩, rfl⟩
theorem agC.rf {s : MM} : agC s s := ⟨fun _ _ => ⟨rfl, rfl⟩, rfl, rfl, rfl⟩
theorem agM.tr {s s' s'' : MM} (a : agM s s') (b : agM s' s'') : agM s s'' := ⟨fun k h1 h2 => ⟨(b.1 k h1 h2).1.trans (a.1 k h1 h2).1, (b.1 k h1 h2).2.trans (a.1 k h1 h2).2⟩, b.2.trans a.2⟩
theorem agC.tr {s s' s'' : MM} (a : agC s s') (b : agC s' s'') : agC s s'' := ⟨fun k h1 => ⟨(b.1 k h1).1.trans (a.1 k h1).1, (b.1 k h1).2.trans (a.1 k h1).2⟩, b.2.1.trans a.2.1, b.2.2.1.trans a.2.2.1, b.2.2.2.trans a.2.2.2⟩
theorem agM.sA {s : MM} {k : Nat} {f : Nat → Int32} (h : k < 75 ∨ 99 ≤ k) : agM s (sA s k f) := ⟨fun j h1 h2 => ⟨va_ne (by omega), rfl⟩, rfl⟩
theorem agM.sO {s : MM} {k j : Nat} {x : Int32} (h : k < 75 ∨ 99 ≤ k) : agM s (sO s k j x) := ⟨fun j h1 h2 => ⟨rfl, va_ne (by omega)⟩, rfl⟩
theorem agM.sC {s : MM} {x : Int64} : agM s (sC s x) := ⟨fun _ _ _ => ⟨rfl, rfl⟩, rfl⟩
theorem agM.sSw {s : MM} {x : Bool} : agM s (sSw s x) := ⟨fun _ _ _ => ⟨rfl, rfl⟩, rfl⟩
theorem agM.sSr {s : MM} {x : Bool} : agM s (sSr s x) := ⟨fun _ _ _ => ⟨rfl, rfl⟩, rfl⟩
theorem agC.sA {s : MM} {k : Nat} {f : Nat → Int32} (h : 75 ≤ k ∧ k < 99) : agC s (sA s k f) := ⟨fun j h1 => ⟨va_ne (by omega), rfl⟩, rfl, rfl, rfl⟩
theorem agC.sO {s : MM} {k j : Nat} {x : Int32} (h : 75 ≤ k ∧ k < 99) : agC s (sO s k j x) := ⟨fun j h1 => ⟨rfl, va_ne (by omega)⟩, rfl, rfl, rfl⟩
theorem agC.sM {s : MM} {x : Int64} : agC s (sM s x) := ⟨fun _ _ => ⟨rfl, rfl⟩, rfl, rfl, rfl⟩
theorem InvM.ag {g : SG} {s s' : MM} (h : InvM g s) (a : agM s s') : InvM g s' := by
  unfold InvM at h ⊢
  rw [(a.1 75 (by omega) (by omega)).2, (a.1 80 (by omega) (by omega)).1, (a.1 81 (by omega) (by omega)).1, (a.1 82 (by omega) (by omega)).1, (a.1 83 (by omega) (by omega)).1, (a.1 84 (by omega) (by omega)).1, (a.1 85 (by omega) (by omega)).1, (a.1 86 (by omega) (by omega)).1, (a.1 87 (by omega) (by omega)).1, (a.1 92 (by omega) (by omega)).1, (a.1 93 (by omega) (by omega)).1, (a.1 97 (by omega) (by omega)).1, (a.1 98 (by omega) (by omega)).1, a.2]
  exact h
theorem RS.ag {s s' : MM} {r b : Nat} {xs : List Nat} (h : RS s r b xs) (h1 : s'.2.1 r = s.2.1 r) (h2 : s'.1 b = s.1 b) : RS s' r b xs := by
  unfold RS at h ⊢
  rw [h1, h2]
  exact h
theorem DeskAt.ag {s s' : MM} {r ho af : Nat} {k : DK} (h : DeskAt s r ho af k) (h1 : s'.2.1 r = s.2.1 r) (h2 : s'.1 (r + 1) = s.1 (r + 1)) (h3 : s'.1 ho = s.1 ho) (h4 : s'.1 af = s.1 af) : DeskAt s' r ho af k := by
  refine ⟨h.1.ag h1 h2, fun b hb => ?_⟩
  rw [h3, h4]
  exact h.2 b hb
theorem InvC.ag {g : SG} {s s' : MM} (h : InvC g s) (a : agC s s') : InvC g s' := by
  have hp : pP s' = pP s := by unfold pP; rw [a.2.1]
  have hp9 : pP s = 2 ∨ pP s = 9 := by unfold pP; cases s.2.2.1 <;> simp
  obtain ⟨h1, h2, h3, h4, h5, h6, h7, h8⟩ := h
  have hk : ∀ k, k < 75 → s'.1 k = s.1 k ∧ s'.2.1 k = s.2.1 k := fun k hk => a.1 k (Or.inl hk)
  unfold InvC
  rw [hp, (hk 0 (by omega)).2, (hk 1 (by omega)).1, (hk (pP s) (by omega)).2, (hk (pP s + 5) (by omega)).1, (hk (pP s + 6) (by omega)).1, (hk 21 (by omega)).2, (hk 22 (by omega)).1, (hk 23 (by omega)).1, (hk 24 (by omega)).1, (hk 25 (by omega)).1, (hk 27 (by omega)).2, (hk 28 (by omega)).1, (hk 29 (by omega)).1, a.2.2.2]
  refine ⟨h1, ⟨h2.1, h2.2.1, h2.2.2.1.ag (hk _ (by omega)).2 (hk _ (by omega)).1, h2.2.2.2⟩, h3, h4.ag (hk _ (by omega)).2 (hk _ (by omega)).1 (hk _ (by omega)).1 (hk _ (by omega)).1, h5, ⟨h6.1, fun k e => (h6.2.1 k e).ag (hk _ (by omega)).2 (hk _ (by omega)).1 (hk _ (by omega)).1 (hk _ (by omega)).1, fun k e => (h6.2.2 k e).ag (hk _ (by omega)).2 (hk _ (by omega)).1 (hk _ (by omega)).1 (hk _ (by omega)).1⟩, h7, h8⟩
