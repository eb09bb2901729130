/-! the next order, and the list of all orders -/
theorem rk_pre {T T' : List Nat} (h : T.Perm T') : ∀ (A : List Nat), rk (A ++ T') + rk T = rk (A ++ T) + rk T'
  | [] => Nat.add_comm _ _
  | a :: A => by
    have ih := rk_pre h A
    have hp : (A ++ T).Perm (A ++ T') := List.Perm.append_left A h
    show ls a (A ++ T') * fa (A ++ T').length + rk (A ++ T') + rk T = ls a (A ++ T) * fa (A ++ T).length + rk (A ++ T) + rk T'
    rw [ls_perm hp, hp.length_eq]
    omega
theorem ls_all {x : Nat} : ∀ (xs : List Nat), (∀ v ∈ xs, v < x) → ls x xs = xs.length
  | [], _ => rfl
  | v :: xs, h => by
    show (if v < x then 1 else 0) + ls x xs = xs.length + 1
    rw [if_pos (h v List.mem_cons_self), ls_all xs (fun u hu => h u (List.mem_cons_of_mem _ hu)), Nat.add_comm]
theorem ls_none {x : Nat} : ∀ (xs : List Nat), (∀ v ∈ xs, ¬ v < x) → ls x xs = 0
  | [], _ => rfl
  | v :: xs, h => by
    show (if v < x then 1 else 0) + ls x xs = 0
    rw [if_neg (h v List.mem_cons_self), ls_none xs (fun u hu => h u (List.mem_cons_of_mem _ hu))]
theorem ls_app (x : Nat) : ∀ (xs ys : List Nat), ls x (xs ++ ys) = ls x xs + ls x ys
  | [], ys => (Nat.zero_add _).symm
  | v :: xs, ys => by
    show (if v < x then 1 else 0) + ls x (xs ++ ys) = (if v < x then 1 else 0) + ls x xs + ls x ys
    rw [ls_app x xs ys, Nat.add_assoc]
theorem rk_desc : ∀ (D : List Nat), D.Pairwise (fun a b => b < a) → rk D + 1 = fa D.length
  | [], _ => rfl
  | d :: D, h => by
    have h' := List.pairwise_cons.mp h
    have ih := rk_desc D h'.2
    show ls d D * fa D.length + rk D + 1 = (D.length + 1) * fa D.length
    rw [ls_all D h'.1, Nat.add_mul, Nat.one_mul]
    omega
theorem rk_asc : ∀ (D : List Nat), D.Pairwise (fun a b => a < b) → rk D = 0
  | [], _ => rfl
  | d :: D, h => by
    have h' := List.pairwise_cons.mp h
    show ls d D * fa D.length + rk D = 0
    rw [ls_none D (fun v hv z => by have := h'.1 v hv; omega), rk_asc D h'.2, Nat.zero_mul]
/-- the next order -/
def nxl (A : List Nat) (x : Nat) (D1 : List Nat) (y : Nat) (D2 : List Nat) : List Nat := A ++ y :: (D1 ++ x :: D2).reverse
theorem nxl_perm (A : List Nat) (x : Nat) (D1 : List Nat) (y : Nat) (D2 : List Nat) : (nxl A x D1 y D2).Perm (A ++ x :: (D1 ++ y :: D2)) := by
  unfold nxl
  refine List.Perm.append_left A ?_
  refine ((List.reverse_perm _).cons y).trans ?_
  have h1 : (y :: (D1 ++ x :: D2)).Perm (y :: x :: (D1 ++ D2)) := (List.perm_middle (a := x) (l₁ := D1) (l₂ := D2)).cons y
  have h2 : (x :: (D1 ++ y :: D2)).Perm (x :: y :: (D1 ++ D2)) := (List.perm_middle (a := y) (l₁ := D1) (l₂ := D2)).cons x
  exact h1.trans ((List.Perm.swap x y _).trans h2.symm)
theorem nxl_rk {A : List Nat} {x : Nat} {D1 : List Nat} {y : Nat} {D2 : List Nat} (hd : (D1 ++ y :: D2).Pairwise (fun a b => b < a)) (hxy : x < y) (h2 : ∀ v ∈ D2, v < x) : rk (nxl A x D1 y D2) = rk (A ++ x :: (D1 ++ y :: D2)) + 1 := by
  have hp := nxl_perm [] x D1 y D2
  have h0 := rk_pre hp.symm A
  have hd' := List.pairwise_append.mp hd
  have hy2 := List.pairwise_cons.mp hd'.2.1
  have hD1 : ∀ v ∈ D1, y < v := fun v hv => hd'.2.2 v hv y List.mem_cons_self
  have hnew : (D1 ++ x :: D2).Pairwise (fun a b => b < a) := List.pairwise_append.mpr ⟨hd'.1, List.pairwise_cons.mpr ⟨h2, hy2.2⟩, fun a ha b hb => by
    have := hD1 a ha
    rcases List.mem_cons.mp hb with e | e
    · omega
    · have := h2 b e
      omega⟩
  have e1 : rk (y :: (D1 ++ x :: D2).reverse) = (D2.length + 1) * fa (D1 ++ y :: D2).length := by
    have hr : rk (D1 ++ x :: D2).reverse = 0 := rk_asc _ (List.pairwise_reverse.mpr hnew)
    show ls y (D1 ++ x :: D2).reverse * fa (D1 ++ x :: D2).reverse.length + rk (D1 ++ x :: D2).reverse = _
    rw [hr, ls_perm (List.reverse_perm _), ls_app, ls_none D1 (fun v hv z => by have := hD1 v hv; omega), ls_all (x :: D2) (fun v hv => by
      rcases List.mem_cons.mp hv with e | e
      · omega
      · have := h2 v e
        omega), List.length_reverse, List.length_append, List.length_append, List.length_cons, List.length_cons, Nat.zero_add]
    omega
  have e2 : rk (x :: (D1 ++ y :: D2)) + 1 = (D2.length + 1) * fa (D1 ++ y :: D2).length := by
    have hr := rk_desc _ hd
    show ls x (D1 ++ y :: D2) * fa (D1 ++ y :: D2).length + rk (D1 ++ y :: D2) + 1 = _
    rw [ls_app, ls_none D1 (fun v hv z => by have := hD1 v hv; omega), show ls x (y :: D2) = (if y < x then 1 else 0) + ls x D2 from rfl, if_neg (by omega), ls_all D2 h2, Nat.zero_add, Nat.zero_add, Nat.succ_mul]
    omega
  have h0' : rk (nxl A x D1 y D2) + rk (x :: (D1 ++ y :: D2)) = rk (A ++ x :: (D1 ++ y :: D2)) + rk (y :: (D1 ++ x :: D2).reverse) := h0
  omega
theorem split_desc {a : Nat} : ∀ (D : List Nat), D.Pairwise (fun a b => b < a) → a ∉ D → (∃ v, v ∈ D ∧ a < v) → ∃ D1 y D2, D = D1 ++ y :: D2 ∧ a < y ∧ ∀ v ∈ D2, v < a
  | [], _, _, ⟨v, hv, _⟩ => absurd hv (by simp)
  | d :: D, hd, hn, ⟨v, hv, hav⟩ => by
    have hd' := List.pairwise_cons.mp hd
    by_cases c : ∃ v, v ∈ D ∧ a < v
    · obtain ⟨D1, y, D2, e, h1, h2⟩ := split_desc D hd'.2 (fun z => hn (List.mem_cons_of_mem _ z)) c
      exact ⟨d :: D1, y, D2, by rw [e]; rfl, h1, h2⟩
    · refine ⟨[], d, D, rfl, ?_, fun u hu => ?_⟩
      · rcases List.mem_cons.mp hv with e | e
        · omega
        · exact absurd ⟨v, e, hav⟩ c
      · have h1 : ¬ a < u := fun z => c ⟨u, hu, z⟩
        have h2 : u ≠ a := fun e => hn (by rw [← e]; exact List.mem_cons_of_mem _ hu)
        omega
theorem nx_dec : ∀ (p : List Nat), p.Nodup → ¬ p.Pairwise (fun a b => b < a) → ∃ A x D1 y D2, p = A ++ x :: (D1 ++ y :: D2) ∧ (D1 ++ y :: D2).Pairwise (fun a b => b < a) ∧ x < y ∧ ∀ v ∈ D2, v < x
  | [], _, h => absurd List.Pairwise.nil h
  | a :: p, hn, h => by
    have hn' := List.nodup_cons.mp hn
    by_cases c : p.Pairwise (fun a b => b < a)
    · have hv : ∃ v, v ∈ p ∧ a < v := Classical.byContradiction (fun z => h (List.pairwise_cons.mpr ⟨fun v hv => by
        have h1 : ¬ a < v := fun q => z ⟨v, hv, q⟩
        have h2 : v ≠ a := fun e => hn'.1 (by rw [← e]; exact hv)
        omega, c⟩))
      obtain ⟨D1, y, D2, e, h1, h2⟩ := split_desc p c hn'.1 hv
      refine ⟨[], a, D1, y, D2, by rw [e]; rfl, by rw [← e]; exact c, h1, h2⟩
    · obtain ⟨A, x, D1, y, D2, e, h1, h2, h3⟩ := nx_dec p hn'.2 c
      exact ⟨a :: A, x, D1, y, D2, by rw [e]; rfl, h1, h2, h3⟩
theorem range_asc (n : Nat) : rk (List.range n) = 0 := rk_asc _ List.pairwise_lt_range
theorem rk_ex (n : Nat) : ∀ j, j < fa n → ∃ p, IsP n p ∧ rk p = j
  | 0, _ => ⟨List.range n, List.Perm.refl _, range_asc n⟩
  | j + 1, h => by
    obtain ⟨p, hp, e⟩ := rk_ex n j (by omega)
    have hnd : ¬ p.Pairwise (fun a b => b < a) := fun z => by
      have := rk_desc p z
      rw [hp.len] at this
      omega
    obtain ⟨A, x, D1, y, D2, e1, h1, h2, h3⟩ := nx_dec p hp.nd hnd
    refine ⟨nxl A x D1 y D2, (nxl_perm A x D1 y D2).trans (by rw [← e1]; exact hp), ?_⟩
    rw [nxl_rk h1 h2 h3, ← e1, e]
noncomputable def nthP (n j : Nat) : List Nat := @dite (List Nat) (j < fa n) (Classical.propDecidable _) (fun h => Classical.choose (rk_ex n j h)) (fun _ => [])
theorem nthP_ok {n j : Nat} (h : j < fa n) : IsP n (nthP n j) ∧ rk (nthP n j) = j := by
  unfold nthP
  rw [dif_pos h]
  exact Classical.choose_spec (rk_ex n j h)
/-- all orders -/
noncomputable def LaP (n : Nat) : List (List Nat) := (List.range (fa n)).map (nthP n)
theorem LP_all (n : Nat) : AllP n (LaP n) := by
  refine ⟨?_, fun p => ⟨fun h => ?_, fun h => ?_⟩⟩
  · show List.Pairwise _ _
    unfold LaP
    rw [List.pairwise_map]
    refine List.Pairwise.imp_of_mem (fun {a b} ha hb hab e => hab ?_) List.nodup_range
    have h1 := (nthP_ok (List.mem_range.mp ha)).2
    have h2 := (nthP_ok (List.mem_range.mp hb)).2
    rw [e, h2] at h1
    exact h1.symm
  · obtain ⟨j, hj, rfl⟩ := List.mem_map.mp h
    exact (nthP_ok (List.mem_range.mp hj)).1
  · have hj : rk p < fa n := by
      have := rk_lt p
      rw [h.len] at this
      exact this
    obtain ⟨h1, h2⟩ := nthP_ok hj
    have e : nthP n (rk p) = p := rk_inj _ _ (h1.trans h.symm) h2
    exact List.mem_map.mpr ⟨rk p, List.mem_range.mpr hj, e⟩
/-- the orders that fit -/
def SA (n law : Nat) (T : List (Nat × Nat)) (p : List Nat) : Prop := IsP n p ∧ fit law n T p
noncomputable def stW (n law : Nat) (T : List (Nat × Nat)) (b : Nat) : Int32 := wS (fun i => i < n ∧ ∃ p, SA n law T p ∧ p.getD i 0 = b)
noncomputable def shW (n law : Nat) (T : List (Nat × Nat)) (b : Nat) : Int32 := wS (fun i => i < n ∧ ∃ p, SA n law T p ∧ nb n (fnl law T p) b i)
def nxK (f : Nat → Nat) : Nat → Nat × Int32
  | 0 => (0, mI 9)
  | k + 1 => if (nxK f k).1 < f k then (f k, nI k) else nxK f k
noncomputable def aRows (g : SG) : Int32 := nI (cN (LaP (gN g)) (SA (gN g) (gLw g) (gTo g)))
noncomputable def aStood (g : SG) (x : Int32) : Int32 := if isB x (gN g) = true then stW (gN g) (gLw g) (gTo g) x.toNatClampNeg else mI 1
noncomputable def aNext (g : SG) : Int32 := (nxK (fun b => pcB (shW (gN g) (gLw g) (gTo g) b) 8) (gN g)).2
theorem cN_le {S : List Nat → Prop} : ∀ (L : List (List Nat)), cN L S ≤ L.length
  | [] => Nat.le_refl _
  | p :: L => by
    have := cN_le (S := S) L
    by_cases c : S p
    · rw [cN_t c, List.length_cons]
      omega
    · rw [cN_f c, List.length_cons]
      omega
theorem fa_8 : ∀ n, n ≤ 8 → fa n ≤ 40320
  | 0, _ => by decide
  | 1, _ => by decide
  | 2, _ => by decide
  | 3, _ => by decide
  | 4, _ => by decide
  | 5, _ => by decide
  | 6, _ => by decide
  | 7, _ => by decide
  | 8, _ => by decide
  | n + 9, h => absurd h (by omega)
theorem cN_LP {n : Nat} (hn : n ≤ 8) (S : List Nat → Prop) : cN (LaP n) S ≤ 40320 := by
  have h1 := cN_le (S := S) (LaP n)
  have h2 : (LaP n).length = fa n := by simp [LaP]
  have h3 := fa_8 n hn
  omega
/-- if an order fits, then something stands to the right of each book -/
theorem fit_fnl {n law : Nat} : ∀ (T : List (Nat × Nat)) (p : List Nat), IsP n p → fit law n T p → IsP n (fnl law T p)
  | [], p, h, _ => h
  | q :: T, p, h, hf => fit_fnl T (tX law p q.1) (h.tX hf.1) hf.2.2.2
theorem shW_pos {n law : Nat} {T : List (Nat × Nat)} (hn : n ≤ 8) {b : Nat} (hb : b < n) (h : ∃ p, SA n law T p) : 0 < pcB (shW n law T b) 8 := by
  obtain ⟨p, hp⟩ := h
  have hq := fit_fnl T p hp.1 hp.2
  obtain ⟨k, hk, e⟩ := hq.sur hb
  have hm : (k + 1) % n < n := Nat.mod_lt _ (by omega)
  have hi : (fnl law T p).getD ((k + 1) % n) 0 < n := hq.lt hm
  rcases Nat.eq_zero_or_pos (pcB (shW n law T b) 8) with z | z
  · have h1 := pcB_0 8 z _ (show (fnl law T p).getD ((k + 1) % n) 0 < 8 by omega)
    have h2 : bt (shW n law T b) ((fnl law T p).getD ((k + 1) % n) 0) = true := (wS_bt (by omega)).mpr ⟨by omega, hi, p, hp, k, hk, e, rfl⟩
    rw [h1] at h2
    exact absurd h2 (by decide)
  · exact z
theorem shW_no {n law : Nat} {T : List (Nat × Nat)} {b : Nat} (h : ¬ ∃ p, SA n law T p) : pcB (shW n law T b) 8 = 0 := by
  have h1 : ∀ i, i < 32 → bt (shW n law T b) i = false := fun i hi => by
    cases hb : bt (shW n law T b) i
    · rfl
    · obtain ⟨_, _, p, hp, _⟩ := (wS_bt hi).mp hb
      exact absurd ⟨p, hp⟩ h
  have h2 : ∀ k, k ≤ 8 → pcB (shW n law T b) k = 0 := by
    intro k
    induction k with
    | zero => intro _; rfl
    | succ k ih =>
      intro hk
      show pcB (shW n law T b) k + (if bt (shW n law T b) k = true then 1 else 0) = 0
      rw [ih (by omega), h1 k (by omega), if_neg (by decide)]
  exact h2 8 (Nat.le_refl _)
