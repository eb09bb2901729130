/-! the number of an order among all orders -/
def fa : Nat → Nat
  | 0 => 1
  | n + 1 => (n + 1) * fa n
theorem fa_pos : ∀ n, 0 < fa n
  | 0 => Nat.one_pos
  | n + 1 => Nat.mul_pos (Nat.succ_pos n) (fa_pos n)
/-- how many are less -/
def ls (x : Nat) : List Nat → Nat
  | [] => 0
  | v :: xs => (if v < x then 1 else 0) + ls x xs
def rk : List Nat → Nat
  | [] => 0
  | x :: xs => ls x xs * fa xs.length + rk xs
theorem ls_le (x : Nat) : ∀ xs, ls x xs ≤ xs.length
  | [] => Nat.le_refl _
  | v :: xs => by
    have := ls_le x xs
    show (if v < x then 1 else 0) + ls x xs ≤ xs.length + 1
    split <;> omega
theorem ls_perm {x : Nat} {xs ys : List Nat} (h : xs.Perm ys) : ls x xs = ls x ys := by
  induction h with
  | nil => rfl
  | cons a _ ih => show _ + ls x _ = _ + ls x _; rw [ih]
  | swap a b l => show _ + (_ + ls x l) = _ + (_ + ls x l); omega
  | trans _ _ ih1 ih2 => exact ih1.trans ih2
theorem ls_mono {x y : Nat} (h : x ≤ y) : ∀ xs, ls x xs ≤ ls y xs
  | [] => Nat.le_refl _
  | v :: xs => by
    have := ls_mono h xs
    show (if v < x then 1 else 0) + ls x xs ≤ (if v < y then 1 else 0) + ls y xs
    split <;> split <;> omega
theorem ls_lt {x y : Nat} (h : x < y) : ∀ xs, x ∈ xs → ls x xs < ls y xs
  | [], hm => absurd hm (by simp)
  | v :: xs, hm => by
    have h1 := ls_mono (Nat.le_of_lt h) xs
    show (if v < x then 1 else 0) + ls x xs < (if v < y then 1 else 0) + ls y xs
    rcases List.mem_cons.mp hm with e | e
    · rw [if_neg (by omega), if_pos (by omega)]
      omega
    · have := ls_lt h xs e
      split <;> split <;> omega
theorem ls_self (x : Nat) (xs : List Nat) : ls x (x :: xs) = ls x xs := by
  show (if x < x then 1 else 0) + ls x xs = _
  rw [if_neg (Nat.lt_irrefl _), Nat.zero_add]
theorem rk_lt : ∀ xs, rk xs < fa xs.length
  | [] => Nat.one_pos
  | x :: xs => by
    have h1 := rk_lt xs
    have h2 := Nat.mul_le_mul_right (fa xs.length) (ls_le x xs)
    show ls x xs * fa xs.length + rk xs < (xs.length + 1) * fa xs.length
    rw [Nat.succ_mul]
    omega
theorem dm_inj {a b F r q : Nat} (hr : r < F) (hq : q < F) (h : a * F + r = b * F + q) : a = b ∧ r = q := by
  have h1 : (a * F + r) / F = a := by rw [Nat.mul_comm, Nat.mul_add_div (by omega), Nat.div_eq_of_lt hr, Nat.add_zero]
  have h2 : (b * F + q) / F = b := by rw [Nat.mul_comm, Nat.mul_add_div (by omega), Nat.div_eq_of_lt hq, Nat.add_zero]
  have h3 : a = b := by rw [← h1, h, h2]
  subst h3
  exact ⟨rfl, by omega⟩
theorem rk_inj : ∀ (xs ys : List Nat), xs.Perm ys → rk xs = rk ys → xs = ys
  | [], ys, hp, _ => (List.nil_perm.mp hp).symm
  | x :: xs, [], hp, _ => absurd hp.length_eq (by simp)
  | x :: xs, y :: ys, hp, h => by
    have hl : xs.length = ys.length := by simpa using hp.length_eq
    have h0 : ls x xs * fa xs.length + rk xs = ls y ys * fa xs.length + rk ys := by
      have : ls x xs * fa xs.length + rk xs = ls y ys * fa ys.length + rk ys := h
      rw [← hl] at this
      exact this
    obtain ⟨h1, h2⟩ := dm_inj (rk_lt xs) (by rw [hl]; exact rk_lt ys) h0
    have h3 : ls x (y :: ys) = ls y (y :: ys) := by rw [← ls_perm hp, ls_self, ls_self, h1]
    have hx : x ∈ y :: ys := hp.mem_iff.mp List.mem_cons_self
    have e : x = y := by
      rcases Nat.lt_trichotomy x y with q | q | q
      · have := ls_lt q _ hx
        omega
      · exact q
      · have := ls_lt q (y :: ys) List.mem_cons_self
        omega
    subst e
    rw [rk_inj xs ys hp.cons_inv h2]
/-- the number, from the left -/
def rkA : Nat → List Nat → Nat
  | acc, [] => acc
  | acc, x :: xs => rkA (acc * (xs.length + 1) + ls x xs) xs
theorem rkA_eq : ∀ (xs : List Nat) (acc : Nat), rkA acc xs = acc * fa xs.length + rk xs
  | [], acc => by show acc = acc * 1 + 0; omega
  | x :: xs, acc => by
    show rkA (acc * (xs.length + 1) + ls x xs) xs = acc * ((xs.length + 1) * fa xs.length) + (ls x xs * fa xs.length + rk xs)
    rw [rkA_eq xs, Nat.add_mul, Nat.mul_assoc, Nat.add_assoc]
theorem rkA_0 (xs : List Nat) : rkA 0 xs = rk xs := by rw [rkA_eq, Nat.zero_mul, Nat.zero_add]
theorem fa_6 : ∀ n, n ≤ 6 → fa n ≤ 720
  | 0, _ => by decide
  | 1, _ => by decide
  | 2, _ => by decide
  | 3, _ => by decide
  | 4, _ => by decide
  | 5, _ => by decide
  | 6, _ => by decide
  | n + 7, h => absurd h (by omega)
/-! the search: rows found, and how they were come to -/
abbrev BS : Type := List (List Nat) × List (Nat × Nat)
def bAdd (S : BS) (y : List Nat) (q : Nat × Nat) : BS := if y ∈ S.1 then S else (S.1 ++ [y], S.2 ++ [q])
def bI (law : Nat) (br : Int32) (wt : Nat) (xs : List Nat) (k : Nat) : Nat → Nat → BS → BS × Option Nat
  | 0, _, S => (S, none)
  | r + 1, b, S => if bt br b = false ∧ b ∈ xs then (if tG xs b = wt then (S, some b) else bI law br wt xs k r (b + 1) (bAdd S (tX law xs b) (k, b))) else bI law br wt xs k r (b + 1) S
def bO (law : Nat) (br : Int32) (wt : Nat) : Nat → Nat → BS → BS × Option (Nat × Nat)
  | 0, _, S => (S, none)
  | f + 1, k, S => if k < S.1.length then (match bI law br wt (S.1.getD k []) k 8 0 S with
    | (S', some b) => (S', some (k, b))
    | (S', none) => bO law br wt f (k + 1) S') else (S, none)
def bF (law : Nat) (br : Int32) (wt : Nat) (sh : List Nat) : BS × Option (Nat × Nat) := bO law br wt 720 0 ([sh], [(0, 0)])
/-- the asks on the way back from k -/
def chA (O : List (Nat × Nat)) : Nat → Nat → List Nat
  | 0, _ => []
  | f + 1, k => if k = 0 then [] else (O.getD k (0, 0)).2 :: chA O f (O.getD k (0, 0)).1
/-- what holds of the search -/
def GI (sh : List Nat) (S : BS) : Prop := S.1.Nodup ∧ (∀ x ∈ S.1, Rk sh x) ∧ S.2.length = S.1.length ∧ 0 < S.1.length ∧ (S.2.getD 0 (0, 0)) = (0, 0) ∧ ∀ i, 0 < i → i < S.1.length → (S.2.getD i (0, 0)).1 < i ∧ (S.2.getD i (0, 0)).2 < 8
theorem GI.z (sh : List Nat) : GI sh ([sh], [(0, 0)]) := ⟨by simp, fun x hx => by rw [List.mem_singleton.mp hx]; exact Rk.rf, rfl, by simp, rfl, fun i h1 h2 => by
  simp at h2
  omega⟩
theorem GI.len {sh : List Nat} {S : BS} (h : GI sh S) (hl : sh.length ≤ 6) : S.1.length ≤ 720 := by
  have h1 : (S.1.map rk).Nodup := by
    show List.Pairwise _ _
    rw [List.pairwise_map]
    refine List.Pairwise.imp_of_mem (fun {a b} ha hb hab e => hab ?_) h.1
    exact rk_inj a b ((h.2.1 a ha).trans (h.2.1 b hb).symm) e
  have h2 := nodup_len (n := 720) h1 (fun v hv => by
    obtain ⟨x, hx, rfl⟩ := List.mem_map.mp hv
    have h3 := rk_lt x
    have h4 := (h.2.1 x hx).len
    have h5 := fa_6 x.length (by omega)
    omega)
  rw [List.length_map] at h2
  exact h2
theorem bAdd_in {S : BS} {y : List Nat} {q : Nat × Nat} (h : y ∈ S.1) : bAdd S y q = S := if_pos h
theorem bAdd_out {S : BS} {y : List Nat} {q : Nat × Nat} (h : y ∉ S.1) : bAdd S y q = (S.1 ++ [y], S.2 ++ [q]) := if_neg h
theorem GI.add {sh : List Nat} {S : BS} (h : GI sh S) {y : List Nat} {q : Nat × Nat} (hy : Rk sh y) (h1 : q.1 < S.1.length) (h2 : q.2 < 8) : GI sh (bAdd S y q) := by
  by_cases hm : y ∈ S.1
  · rw [bAdd_in hm]
    exact h
  · rw [bAdd_out hm]
    obtain ⟨g1, g2, g3, g4, g5, g6⟩ := h
    refine ⟨List.nodup_append.mpr ⟨g1, by simp, fun a ha b hb e => hm ?_⟩, fun x hx => ?_, ?_, ?_, ?_, fun i hi0 hi => ?_⟩
    · rw [List.mem_singleton.mp hb] at e
      rw [← e]
      exact ha
    · rcases List.mem_append.mp hx with z | z
      · exact g2 x z
      · rw [List.mem_singleton.mp z]
        exact hy
    · show (S.2 ++ [q]).length = (S.1 ++ [y]).length
      simp [g3]
    · show 0 < (S.1 ++ [y]).length
      simp
    · show (S.2 ++ [q]).getD 0 (0, 0) = (0, 0)
      rw [getD_snoc, if_pos (by omega)]
      exact g5
    · show ((S.2 ++ [q]).getD i (0, 0)).1 < i ∧ ((S.2 ++ [q]).getD i (0, 0)).2 < 8
      have hi' : i < S.1.length + 1 := by simpa using hi
      rw [getD_snoc]
      by_cases c : i < S.2.length
      · rw [if_pos c]
        exact g6 i hi0 (by omega)
      · rw [if_neg c, if_pos (by omega)]
        exact ⟨by omega, h2⟩
theorem GI.full {sh : List Nat} {S : BS} (h : GI sh S) (hl : sh.length ≤ 6) {y : List Nat} (hy : Rk sh y) (hm : y ∉ S.1) : S.1.length < 720 := by
  have h1 := (h.add (q := (0, 0)) hy h.2.2.2.1 (by omega)).len hl
  rw [bAdd_out hm] at h1
  simp at h1
  omega
theorem bAdd_len (S : BS) (y : List Nat) (q : Nat × Nat) : S.1.length ≤ (bAdd S y q).1.length := by
  unfold bAdd
  split
  · exact Nat.le_refl _
  · simp
theorem bAdd_get {S : BS} {y : List Nat} {q : Nat × Nat} {k : Nat} (hk : k < S.1.length) : (bAdd S y q).1.getD k [] = S.1.getD k [] := by
  unfold bAdd
  split
  · rfl
  · show (S.1 ++ [y]).getD k [] = _
    rw [getD_snoc, if_pos hk]
theorem bI_skip {law : Nat} {br : Int32} {wt : Nat} {xs : List Nat} {k : Nat} : ∀ (r b : Nat) (S : BS), (∀ v, b ≤ v → v ∉ xs) → bI law br wt xs k r b S = (S, none)
  | 0, _, _, _ => rfl
  | r + 1, b, S, h => by
    unfold bI
    rw [if_neg (fun z => h b (Nat.le_refl _) z.2)]
    exact bI_skip r (b + 1) S (fun v hv => h v (by omega))
theorem bI_s (law : Nat) (br : Int32) (wt : Nat) (xs : List Nat) (k r b : Nat) (S : BS) : bI law br wt xs k (r + 1) b S = if bt br b = false ∧ b ∈ xs then (if tG xs b = wt then (S, some b) else bI law br wt xs k r (b + 1) (bAdd S (tX law xs b) (k, b))) else bI law br wt xs k r (b + 1) S := rfl
theorem bO_s (law : Nat) (br : Int32) (wt f k : Nat) (S : BS) : bO law br wt (f + 1) k S = if k < S.1.length then (match bI law br wt (S.1.getD k []) k 8 0 S with
    | (S', some b) => (S', some (k, b))
    | (S', none) => bO law br wt f (k + 1) S') else (S, none) := rfl
theorem bO_end {law : Nat} {br : Int32} {wt : Nat} : ∀ {f k : Nat} {S : BS}, ¬ k < S.1.length → bO law br wt f k S = (S, none)
  | 0, _, _, _ => rfl
  | f + 1, k, S, h => by rw [bO_s, if_neg h]
/-- packed, the first place last -/
def p8 : List Nat → Nat
  | [] => 0
  | x :: xs => x + 8 * p8 xs
theorem p8_lt : ∀ (xs : List Nat), (∀ v ∈ xs, v < 8) → p8 xs < 8 ^ xs.length
  | [], _ => by show 0 < 8 ^ 0; omega
  | x :: xs, h => by
    have h1 := p8_lt xs (fun v hv => h v (List.mem_cons_of_mem _ hv))
    have h2 := h x List.mem_cons_self
    show x + 8 * p8 xs < 8 ^ (xs.length + 1)
    rw [Nat.pow_succ]
    omega
theorem p8_drop {xs : List Nat} {k : Nat} (h : k < xs.length) : p8 (xs.drop k) = xs.getD k 0 + 8 * p8 (xs.drop (k + 1)) := by
  rw [List.drop_eq_getElem_cons h]
  show xs[k] + _ = _
  rw [List.getD_eq_getElem?_getD, List.getElem?_eq_getElem h]
  rfl
