/-! orders: the two ways of going through them -/
/-- nothing but the model's arrays A and fields J has changed -/
def MX (A J : List Nat) (s s' : MM) : Prop := (∀ k, k ∉ A → s'.1 k = s.1 k) ∧ (∀ k, k ≠ 75 → s'.2.1 k = s.2.1 k) ∧ (∀ j, j ∉ J → s'.2.1 75 j = s.2.1 75 j) ∧ s'.2.2 = s.2.2
theorem MX.rf {A J : List Nat} {s : MM} : MX A J s s := ⟨fun _ _ => rfl, fun _ _ => rfl, fun _ _ => rfl, rfl⟩
theorem MX.tr {A J : List Nat} {s s' s'' : MM} (a : MX A J s s') (b : MX A J s' s'') : MX A J s s'' := ⟨fun k h => (b.1 k h).trans (a.1 k h), fun k h => (b.2.1 k h).trans (a.2.1 k h), fun j h => (b.2.2.1 j h).trans (a.2.2.1 j h), b.2.2.2.trans a.2.2.2⟩
theorem MX.o {A J : List Nat} {s : MM} {j : Nat} {x : Int32} (hj : j ∈ J) : MX A J s (sO s 75 j x) := ⟨fun _ _ => rfl, fun k h => va_ne h, fun i h => by
  show va_up s.2.1 75 (upd (s.2.1 75) j x) 75 i = _
  rw [va_at_eq]
  unfold upd
  rw [if_neg (fun e => h (by rw [e]; exact hj))], rfl⟩
theorem MX.a {A J : List Nat} {s : MM} {k : Nat} {f : Nat → Int32} (hk : k ∈ A) : MX A J s (sA s k f) := ⟨fun j h => va_ne (fun e => h (e ▸ hk)), fun _ _ => rfl, fun _ _ => rfl, rfl⟩
theorem MX.mono {A J A' J' : List Nat} {s s' : MM} (a : MX A J s s') (h1 : ∀ k ∈ A, k ∈ A') (h2 : ∀ k ∈ J, k ∈ J') : MX A' J' s s' := ⟨fun k h => a.1 k (fun z => h (h1 k z)), a.2.1, fun j h => a.2.2.1 j (fun z => h (h2 j z)), a.2.2.2⟩
theorem MX.agC {A J : List Nat} {s s' : MM} (a : MX A J s s') (h : ∀ k ∈ A, 75 ≤ k ∧ k < 99) : agC s s' := ⟨fun k hk => ⟨a.1 k (fun z => by have := h k z; omega), a.2.1 k (by omega)⟩, by rw [a.2.2.2], by rw [a.2.2.2], by rw [a.2.2.2]⟩
/-- the arrays and fields that hold no state -/
theorem MX.inv {A J : List Nat} {g : SG} {s s' : MM} (a : MX A J s s') (hA : ∀ k ∈ A, k ∈ [76, 77, 78, 79, 88, 89, 90, 91, 94, 95, 96]) (hJ : ∀ j ∈ J, j ∈ [4, 5, 6, 7, 20, 21, 26, 30, 31, 32]) (h : InvM g s) : InvM g s' := by
  have ha : ∀ k, k ∉ [76, 77, 78, 79, 88, 89, 90, 91, 94, 95, 96] → s'.1 k = s.1 k := fun k hk => a.1 k (fun z => hk (hA k z))
  have hj : ∀ k, k ∉ [4, 5, 6, 7, 20, 21, 26, 30, 31, 32] → s'.2.1 75 k = s.2.1 75 k := fun k hk => a.2.2.1 k (fun z => hk (hJ k z))
  unfold InvM at h ⊢
  rw [hj 19 (by simp), hj 11 (by simp), hj 12 (by simp), hj 13 (by simp), hj 15 (by simp), hj 22 (by simp), hj 23 (by simp), hj 33 (by simp), ha 80 (by simp), ha 81 (by simp), ha 82 (by simp), ha 83 (by simp), ha 84 (by simp), ha 85 (by simp), ha 86 (by simp), ha 87 (by simp), ha 92 (by simp), ha 93 (by simp), ha 97 (by simp), ha 98 (by simp), a.2.2.2]
  exact h
def olV (pre : List Nat) : Nat := pre.foldl (fun a d => 10 * a + d) 0
theorem olV_snoc (pre : List Nat) (d : Nat) : olV (pre ++ [d]) = 10 * olV pre + d := by
  unfold olV
  rw [List.foldl_append]
  rfl
def pm (r c : Nat) : List Nat := (List.range r).map (fun i => dg c (r - 1 - i))
theorem pm_len (r c : Nat) : (pm r c).length = r := by simp [pm]
theorem pm_get {r c i : Nat} (hi : i < r) : (pm r c).getD i 0 = dg c (r - 1 - i) := by
  unfold pm
  rw [List.getD_eq_getElem?_getD, List.getElem?_map, List.getElem?_range hi]
  rfl
theorem pm_succ (r c : Nat) : pm (r + 1) c = pm r (c / 10) ++ [c % 10] := by
  unfold pm
  rw [List.range_succ, List.map_append]
  congr 1
  · apply List.map_congr_left
    intro i hi
    have hi := List.mem_range.mp hi
    unfold dg
    rw [Nat.div_div_eq_div_mul, show r + 1 - 1 - i = (r - 1 - i) + 1 by omega, Nat.pow_succ, Nat.mul_comm (10 ^ (r - 1 - i)) 10]
  · simp [dg]
theorem pm_val : ∀ (n : Nat) (pre : List Nat), pre.length = n → (∀ v ∈ pre, v < 10) → pm n (olV pre) = pre := by
  intro n
  induction n with
  | zero =>
    intro pre h _
    rw [List.length_eq_zero_iff.mp h]
    rfl
  | succ n ih =>
    intro pre h hd
    rcases List.eq_nil_or_concat pre with e | ⟨L, b, e⟩
    · rw [e] at h
      simp at h
    · rw [List.concat_eq_append] at e
      subst e
      have hb := hd b (by simp)
      rw [olV_snoc, pm_succ, show (10 * olV L + b) / 10 = olV L by omega, show (10 * olV L + b) % 10 = b by omega, ih L (by simpa using h) (fun v hv => hd v (by simp [hv]))]
theorem fold_cg {α : Type} {F G : α → Nat → α} : ∀ (l : List Nat) (a : α), (∀ a d, d ∈ l → F a d = G a d) → l.foldl F a = l.foldl G a
  | [], _, _ => rfl
  | x :: l, a, h => by
    rw [List.foldl_cons, List.foldl_cons, h a x List.mem_cons_self]
    exact fold_cg l _ (fun a d hd => h a d (List.mem_cons_of_mem _ hd))
theorem fold_id {α : Type} {F : α → Nat → α} : ∀ (l : List Nat) (a : α), (∀ a d, d ∈ l → F a d = a) → l.foldl F a = a
  | [], _, _ => rfl
  | x :: l, a, h => by
    rw [List.foldl_cons, h a x List.mem_cons_self]
    exact fold_id l _ (fun a d hd => h a d (List.mem_cons_of_mem _ hd))
theorem fold_mul {α : Type} (F : α → Nat → α) (b a : Nat) (acc : α) : ∀ k, (List.range' a (k * b)).foldl F acc = (List.range k).foldl (fun acc d => (List.range' (a + d * b) b).foldl F acc) acc
  | 0 => by rw [Nat.zero_mul]; rfl
  | k + 1 => by
    rw [Nat.succ_mul, ← List.range'_append_1, List.foldl_append, fold_mul F b a acc k, List.range_succ, List.foldl_append]
    rfl
theorem cover_ok : ∀ (r : Nat) (xs : List Nat), xs.length ≤ r → (∀ v, v < r → v ∈ xs) → xs.Nodup ∧ ∀ v ∈ xs, v < r
  | 0, xs, h, _ => by
    rw [List.length_eq_zero_iff.mp (Nat.le_zero.mp h)]
    exact ⟨List.nodup_nil, fun v hv => absurd hv (by simp)⟩
  | r + 1, xs, h, hc => by
    have hr := hc r (by omega)
    have hl := List.length_erase_of_mem hr
    obtain ⟨h1, h2⟩ := cover_ok r (xs.erase r) (by omega) (fun v hv => (List.mem_erase_of_ne (by omega)).mpr (hc v (by omega)))
    have hp := List.perm_cons_erase hr
    refine ⟨hp.nodup_iff.mpr (List.nodup_cons.mpr ⟨fun z => Nat.lt_irrefl _ (h2 r z), h1⟩), fun v hv => ?_⟩
    rcases List.mem_cons.mp (hp.mem_iff.mp hv) with e | e
    · omega
    · have := h2 v e
      omega
theorem cover_of {r : Nat} {xs : List Nat} (h1 : xs.Nodup) (h2 : ∀ v ∈ xs, v < r) (hl : r ≤ xs.length) : ∀ v, v < r → v ∈ xs := fun v hv => Classical.byContradiction (fun z => by
  have := nodup_len (n := r) (xs := v :: xs) (List.nodup_cons.mpr ⟨z, h1⟩) (fun u hu => by
    rcases List.mem_cons.mp hu with e | e
    · omega
    · exact h2 u e)
  rw [List.length_cons] at this
  omega)
def vd (r : Nat) (pre : List Nat) : Prop := pre.Nodup ∧ ∀ v ∈ pre, v < r
theorem vd_snoc {r : Nat} {pre : List Nat} {d : Nat} : vd r (pre ++ [d]) ↔ vd r pre ∧ d < r ∧ d ∉ pre := by
  unfold vd
  rw [List.nodup_append]
  constructor
  · intro h
    refine ⟨⟨h.1.1, fun v hv => h.2 v (by simp [hv])⟩, h.2 d (by simp), fun z => h.1.2.2 d z d (by simp) rfl⟩
  · intro h
    refine ⟨⟨h.1.1, by simp, fun a ha b hb => ?_⟩, fun v hv => ?_⟩
    · rw [List.mem_singleton] at hb
      intro e
      rw [e, hb] at ha
      exact h.2.2 ha
    · rcases List.mem_append.mp hv with q | q
      · exact h.1.2 v q
      · rw [List.mem_singleton] at q
        rw [q]
        exact h.2.1
section OLP
variable {ca sh : List Nat} {rd : List (Nat × Nat)}
def olF (ca : List Nat) (rd : List (Nat × Nat)) (sh pre : List Nat) : List Nat × Nat := pre.foldl (fun p i => (olS ca p.1 (rd.getD i (0, 0)).1, p.2 + olG ca p.1 (rd.getD i (0, 0)))) (sh, 0)
theorem olF_snoc (pre : List Nat) (i : Nat) : olF ca rd sh (pre ++ [i]) = (olS ca (olF ca rd sh pre).1 (rd.getD i (0, 0)).1, (olF ca rd sh pre).2 + olG ca (olF ca rd sh pre).1 (rd.getD i (0, 0))) := by
  unfold olF
  rw [List.foldl_append]
  rfl

def olC (ca : List Nat) (rd : List (Nat × Nat)) (sh : List Nat) (acc : Option (Nat × List Nat)) (c : Nat) : Option (Nat × List Nat) := if (∀ v, v < rd.length → v ∈ pm rd.length c) then olT acc (olF ca rd sh (pm rd.length c)).2 (pm rd.length c) else acc
theorem ol_main (hr : rd.length ≤ 10) : ∀ (m : Nat) (pre : List Nat) (acc : Option (Nat × List Nat)), pre.length + m = rd.length → (∀ v ∈ pre, v < 10) → (vd rd.length pre → (List.range' (olV pre * 10 ^ m) (10 ^ m)).foldl (olC ca rd sh) acc = olD ca rd m pre (olF ca rd sh pre).1 (olF ca rd sh pre).2 acc) ∧ (¬ vd rd.length pre → (List.range' (olV pre * 10 ^ m) (10 ^ m)).foldl (olC ca rd sh) acc = acc) := by
  intro m
  induction m with
  | zero =>
    intro pre acc hl hd
    have e : (List.range' (olV pre * 10 ^ 0) (10 ^ 0)).foldl (olC ca rd sh) acc = olC ca rd sh acc (olV pre) := by
      rw [Nat.pow_zero, Nat.mul_one]
      rfl
    rw [e]
    unfold olC
    rw [pm_val rd.length pre (by omega) hd]
    refine ⟨fun h => ?_, fun h => ?_⟩
    · rw [if_pos (cover_of h.1 h.2 (by omega))]
      rfl
    · rw [if_neg (fun z => h (cover_ok _ _ (by omega) z))]
  | succ m ih =>
    intro pre acc hl hd
    have e : (List.range' (olV pre * 10 ^ (m + 1)) (10 ^ (m + 1))).foldl (olC ca rd sh) acc = (List.range 10).foldl (fun acc d => (List.range' (olV (pre ++ [d]) * 10 ^ m) (10 ^ m)).foldl (olC ca rd sh) acc) acc := by
      rw [Nat.pow_succ, Nat.mul_comm (10 ^ m) 10, fold_mul]
      refine fold_cg _ _ (fun a d _ => ?_)
      rw [olV_snoc, Nat.add_mul, show olV pre * (10 * 10 ^ m) = 10 * olV pre * 10 ^ m by rw [← Nat.mul_assoc, Nat.mul_comm (olV pre) 10]]
    rw [e]
    have hd' : ∀ d, d ∈ List.range 10 → ∀ v ∈ pre ++ [d], v < 10 := fun d hd2 v hv => by
      rcases List.mem_append.mp hv with q | q
      · exact hd v q
      · rw [List.mem_singleton] at q
        rw [q]
        exact List.mem_range.mp hd2
    have hl' : ∀ d, (pre ++ [d]).length + m = rd.length := fun d => by rw [List.length_append, List.length_singleton]; omega
    refine ⟨fun h => ?_, fun h => ?_⟩
    · have e10 : List.range 10 = List.range' 0 rd.length ++ List.range' (0 + rd.length) (10 - rd.length) := by
        rw [List.range'_append_1, List.range_eq_range', show rd.length + (10 - rd.length) = 10 by omega]
      rw [e10, List.foldl_append]
      rw [fold_id (List.range' (0 + rd.length) (10 - rd.length))]
      · rw [← List.range_eq_range']
        refine fold_cg _ _ (fun a d hd2 => ?_)
        have hdr := List.mem_range.mp hd2
        by_cases hm : d ∈ pre
        · rw [if_pos hm]
          exact (ih (pre ++ [d]) a (hl' d) (hd' d (List.mem_range.mpr (by omega)))).2 (fun z => (vd_snoc.mp z).2.2 hm)
        · rw [if_neg hm]
          have := (ih (pre ++ [d]) a (hl' d) (hd' d (List.mem_range.mpr (by omega)))).1 (vd_snoc.mpr ⟨h, hdr, hm⟩)
          rw [olF_snoc] at this
          exact this
      · intro a d hd2
        have hdr := List.mem_range'_1.mp hd2
        exact (ih (pre ++ [d]) a (hl' d) (hd' d (List.mem_range.mpr (by omega)))).2 (fun z => by have := (vd_snoc.mp z).2.1; omega)
    · refine fold_id _ _ (fun a d hd2 => ?_)
      exact (ih (pre ++ [d]) a (hl' d) (hd' d hd2)).2 (fun z => h (vd_snoc.mp z).1)
theorem ol_all (hr : rd.length ≤ 10) : (List.range' 0 (10 ^ rd.length)).foldl (olC ca rd sh) none = olD ca rd rd.length [] sh 0 none := by
  have := (ol_main (ca := ca) (sh := sh) hr rd.length [] none (by simp) (by simp)).1 ⟨List.nodup_nil, by simp⟩
  rw [show olV [] * 10 ^ rd.length = 0 from Nat.zero_mul _] at this
  exact this
theorem olT_some {acc : Option (Nat × List Nat)} {w : Nat} {o : List Nat} : (olT acc w o).isSome = true := by
  unfold olT
  split
  · rfl
  · split <;> rfl
theorem fold_some {F : Option (Nat × List Nat) → Nat → Option (Nat × List Nat)} (h1 : ∀ a d, a.isSome = true → (F a d).isSome = true) : ∀ (l : List Nat) (a : Option (Nat × List Nat)), (a.isSome = true ∨ ∃ d, d ∈ l ∧ ∀ a, (F a d).isSome = true) → (l.foldl F a).isSome = true
  | [], a, h => by
    rcases h with h | ⟨d, hd, _⟩
    · exact h
    · exact absurd hd (by simp)
  | x :: l, a, h => by
    rw [List.foldl_cons]
    refine fold_some h1 l _ ?_
    rcases h with h | ⟨d, hd, h2⟩
    · exact Or.inl (h1 _ _ h)
    · rcases List.mem_cons.mp hd with e | e
      · exact Or.inl (by rw [← e]; exact h2 a)
      · exact Or.inr ⟨d, e, h2⟩
theorem olD_keep : ∀ (m : Nat) (pre sh : List Nat) (w : Nat) (acc : Option (Nat × List Nat)), acc.isSome = true → (olD ca rd m pre sh w acc).isSome = true
  | 0, _, _, _, _, _ => olT_some
  | m + 1, pre, sh, w, acc, h => fold_some (fun a d ha => by
      split
      · exact ha
      · exact olD_keep m _ _ _ _ ha) _ _ (Or.inl h)
theorem olD_some : ∀ (m : Nat) (pre sh : List Nat) (w : Nat) (acc : Option (Nat × List Nat)), pre.length + m = rd.length → vd rd.length pre → (olD ca rd m pre sh w acc).isSome = true
  | 0, _, _, _, _, _, _ => olT_some
  | m + 1, pre, sh, w, acc, hl, hv => by
    obtain ⟨i, hi, hm⟩ : ∃ i, i < rd.length ∧ i ∉ pre := Classical.byContradiction (fun z => by
      have hc : ∀ v, v < rd.length → v ∈ pre := fun v hv => Classical.byContradiction (fun q => z ⟨v, hv, q⟩)
      have h1 := nodup_len (n := pre.length) (xs := List.range rd.length) List.nodup_range
      have h2 : ¬ pre.length < rd.length := fun q => by
        have hcv := cover_ok pre.length pre (Nat.le_refl _) (fun v hv => hc v (by omega))
        have := hcv.2 pre.length (hc pre.length q)
        omega
      omega)
    refine fold_some (fun a d ha => by
      split
      · exact ha
      · exact olD_keep m _ _ _ _ ha) _ _ (Or.inr ⟨i, List.mem_range.mpr hi, fun a => ?_⟩)
    rw [if_neg hm]
    exact olD_some m _ _ _ _ (by rw [List.length_append, List.length_singleton]; omega) (vd_snoc.mpr ⟨hv, hi, hm⟩)
end OLP
theorem aOl_some (g : SG) : ∃ m b, aOl g = some (m, b) := by
  have := olD_some (ca := gCa g) (rd := gRd g) (gRd g).length [] (gDk g).1 0 none (by simp) ⟨List.nodup_nil, by simp⟩
  obtain ⟨⟨m, b⟩, h⟩ := Option.isSome_iff_exists.mp this
  exact ⟨m, b, h⟩
