/-! rows: all orders, and those that fit -/
def IsP (n : Nat) (p : List Nat) : Prop := p.Perm (List.range n)
theorem IsP.len {n : Nat} {p : List Nat} (h : IsP n p) : p.length = n := by rw [h.length_eq, List.length_range]
theorem IsP.nd {n : Nat} {p : List Nat} (h : IsP n p) : p.Nodup := h.nodup_iff.mpr List.nodup_range
theorem IsP.mem {n : Nat} {p : List Nat} (h : IsP n p) {v : Nat} : v ∈ p ↔ v < n := by rw [h.mem_iff, List.mem_range]
theorem IsP.lt {n : Nat} {p : List Nat} (h : IsP n p) {q : Nat} (hq : q < n) : p.getD q 0 < n := h.mem.mp (getD_mem (by rw [h.len]; exact hq))
theorem nd_inj {p : List Nat} (h : p.Nodup) {i j : Nat} (hi : i < p.length) (hj : j < p.length) (e : p.getD i 0 = p.getD j 0) : i = j := by
  rw [List.getD_eq_getElem?_getD, List.getElem?_eq_getElem hi, List.getD_eq_getElem?_getD, List.getElem?_eq_getElem hj] at e
  have e : p[i] = p[j] := e
  have hp := List.pairwise_iff_getElem.mp h
  rcases Nat.lt_trichotomy i j with q | q | q
  · exact absurd e (hp i j hi hj q)
  · exact q
  · exact absurd e.symm (hp j i hj hi q)
theorem IsP.inj {n : Nat} {p : List Nat} (h : IsP n p) {i j : Nat} (hi : i < n) (hj : j < n) (e : p.getD i 0 = p.getD j 0) : i = j := nd_inj h.nd (by rw [h.len]; exact hi) (by rw [h.len]; exact hj) e
theorem IsP.sur {n : Nat} {p : List Nat} (h : IsP n p) {b : Nat} (hb : b < n) : ∃ q, q < n ∧ p.getD q 0 = b := ⟨p.idxOf b, by rw [← h.len]; exact idx_lt (h.mem.mpr hb), idx_get (h.mem.mpr hb)⟩
theorem IsP.of {n : Nat} {p : List Nat} (h1 : p.length = n) (h2 : p.Nodup) (h3 : ∀ v ∈ p, v < n) : IsP n p := by
  have hc := cover_of h2 h3 (by omega)
  exact (List.perm_ext_iff_of_nodup h2 List.nodup_range).mpr (fun v => by rw [List.mem_range]; exact ⟨h3 v, hc v⟩)
/-- how many of L are in S -/
noncomputable def cN : List (List Nat) → (List Nat → Prop) → Nat
  | [], _ => 0
  | p :: L, S => (@ite Nat (S p) (Classical.propDecidable _) 1 0) + cN L S
theorem cN_t {p : List Nat} {L : List (List Nat)} {S : List Nat → Prop} (h : S p) : cN (p :: L) S = 1 + cN L S := by
  show (@ite Nat (S p) (Classical.propDecidable _) 1 0) + cN L S = _
  rw [if_pos h]
theorem cN_f {p : List Nat} {L : List (List Nat)} {S : List Nat → Prop} (h : ¬ S p) : cN (p :: L) S = cN L S := by
  show (@ite Nat (S p) (Classical.propDecidable _) 1 0) + cN L S = _
  rw [if_neg h, Nat.zero_add]
theorem cN_cg {S Q : List Nat → Prop} : ∀ (L : List (List Nat)), (∀ p, p ∈ L → (S p ↔ Q p)) → cN L S = cN L Q
  | [], _ => rfl
  | p :: L, h => by
    have ih := cN_cg L (fun p hp => h p (List.mem_cons_of_mem _ hp))
    by_cases c : S p
    · rw [cN_t c, cN_t ((h p List.mem_cons_self).mp c), ih]
    · rw [cN_f c, cN_f (fun z => c ((h p List.mem_cons_self).mpr z)), ih]
theorem cN_or {S Q : List Nat → Prop} : ∀ (L : List (List Nat)), (∀ p, S p → ¬ Q p) → cN L (fun p => S p ∨ Q p) = cN L S + cN L Q
  | [], _ => rfl
  | p :: L, h => by
    have ih := cN_or L h
    by_cases c : S p
    · rw [cN_t (Or.inl c), cN_t c, cN_f (h p c), ih]
      omega
    · rw [cN_f c]
      by_cases c2 : Q p
      · rw [cN_t (Or.inr c2), cN_t c2, ih]
        omega
      · rw [cN_f (fun z => z.elim c c2), cN_f c2, ih]
theorem cN_no {S : List Nat → Prop} : ∀ (L : List (List Nat)), (∀ p, p ∈ L → ¬ S p) → cN L S = 0
  | [], _ => rfl
  | p :: L, h => by rw [cN_f (h p List.mem_cons_self), cN_no L (fun p hp => h p (List.mem_cons_of_mem _ hp))]
theorem cN_one {S : List Nat → Prop} {p0 : List Nat} : ∀ (L : List (List Nat)), L.Nodup → p0 ∈ L → (∀ p, p ∈ L → (S p ↔ p = p0)) → cN L S = 1
  | [], _, h, _ => absurd h (by simp)
  | p :: L, hn, hm, h => by
    have hn' := List.nodup_cons.mp hn
    by_cases c : p = p0
    · rw [cN_t ((h p List.mem_cons_self).mpr c), cN_no L (fun q hq z => hn'.1 (by rw [c, ← (h q (List.mem_cons_of_mem _ hq)).mp z]; exact hq))]
    · rw [cN_f (fun z => c ((h p List.mem_cons_self).mp z))]
      exact cN_one L hn'.2 ((List.mem_cons.mp hm).resolve_left (fun z => c z.symm)) (fun q hq => h q (List.mem_cons_of_mem _ hq))
theorem cN_pos {S : List Nat → Prop} : ∀ (L : List (List Nat)), 0 < cN L S → ∃ p, p ∈ L ∧ S p
  | [], h => absurd h (Nat.lt_irrefl _)
  | p :: L, h => by
    by_cases c : S p
    · exact ⟨p, List.mem_cons_self, c⟩
    · rw [cN_f c] at h
      obtain ⟨q, h1, h2⟩ := cN_pos L h
      exact ⟨q, List.mem_cons_of_mem _ h1, h2⟩
/-- the list of all orders -/
def AllP (n : Nat) (L : List (List Nat)) : Prop := L.Nodup ∧ ∀ p, p ∈ L ↔ IsP n p
/-! some places settled with books -/
abbrev PM' : Type := Nat → Option Nat
def upo (B : PM') (q b : Nat) : PM' := fun x => if x = q then some b else B x
theorem upo_at (B : PM') (q b : Nat) : upo B q b q = some b := if_pos rfl
theorem upo_ne {B : PM'} {q b x : Nat} (h : x ≠ q) : upo B q b x = B x := if_neg h
def Cs (n : Nat) (B P : PM') : Prop := (∀ q, q < n → ∀ b, B q = some b → b < n ∧ P b = some q) ∧ ∀ b, b < n → ∀ q, P b = some q → q < n ∧ B q = some b
theorem Cs.set {n : Nat} {B P : PM'} (h : Cs n B P) {q b : Nat} (hq : q < n) (hb : b < n) (h1 : B q = none) (h2 : P b = none) : Cs n (upo B q b) (upo P b q) := by
  refine ⟨fun x hx y hy => ?_, fun x hx y hy => ?_⟩
  · by_cases e : x = q
    · rw [e, upo_at] at hy
      obtain rfl := Option.some.inj hy
      exact ⟨hb, by rw [upo_at, e]⟩
    · rw [upo_ne e] at hy
      obtain ⟨z1, z2⟩ := h.1 x hx y hy
      have : y ≠ b := fun z => by rw [z, h2] at z2; exact absurd z2 (by simp)
      exact ⟨z1, by rw [upo_ne this]; exact z2⟩
  · by_cases e : x = b
    · rw [e, upo_at] at hy
      obtain rfl := Option.some.inj hy
      exact ⟨hq, by rw [upo_at, e]⟩
    · rw [upo_ne e] at hy
      obtain ⟨z1, z2⟩ := h.2 x hx y hy
      have : y ≠ q := fun z => by rw [z, h1] at z2; exact absurd z2 (by simp)
      exact ⟨z1, by rw [upo_ne this]; exact z2⟩
/-- how many are free -/
def fc (B : PM') : Nat → Nat
  | 0 => 0
  | n + 1 => fc B n + (if B n = none then 1 else 0)
theorem fc_ge {B : PM'} {q b : Nat} : ∀ n, n ≤ q → fc (upo B q b) n = fc B n
  | 0, _ => rfl
  | n + 1, h => by
    show fc (upo B q b) n + _ = fc B n + _
    rw [fc_ge n (by omega), upo_ne (by omega)]
theorem fc_set {B : PM'} {q b : Nat} (h : B q = none) : ∀ n, q < n → fc (upo B q b) n + 1 = fc B n
  | 0, hq => absurd hq (Nat.not_lt_zero _)
  | n + 1, hq => by
    show fc (upo B q b) n + (if upo B q b n = none then 1 else 0) + 1 = fc B n + (if B n = none then 1 else 0)
    by_cases e : n = q
    · rw [fc_ge n (by omega), e, upo_at, h, if_neg (by simp), if_pos rfl]
    · rw [upo_ne e]
      have := fc_set (b := b) h n (by omega)
      omega
theorem fc_0 {B : PM'} : ∀ n, fc B n = 0 → ∀ q, q < n → B q ≠ none
  | 0, _, q, hq => absurd hq (Nat.not_lt_zero _)
  | n + 1, h, q, hq => by
    have h' : fc B n + (if B n = none then 1 else 0) = 0 := h
    by_cases e : q = n
    · intro z
      rw [e] at z
      rw [if_pos z] at h'
      omega
    · exact fc_0 n (by omega) q (by omega)
theorem fc_ex {B : PM'} : ∀ n, 0 < fc B n → ∃ q, q < n ∧ B q = none
  | 0, h => absurd h (Nat.lt_irrefl _)
  | n + 1, h => by
    have h' : 0 < fc B n + (if B n = none then 1 else 0) := h
    by_cases e : B n = none
    · exact ⟨n, by omega, e⟩
    · rw [if_neg e] at h'
      obtain ⟨q, h1, h2⟩ := fc_ex n h'
      exact ⟨q, by omega, h2⟩
theorem fc_all (n : Nat) : fc (fun _ => none) n = n := by
  induction n with
  | zero => rfl
  | succ n ih => show fc (fun _ => none) n + 1 = n + 1; rw [ih]
/-- the orders in which the settled places have their books -/
def Qx (n : Nat) (B : PM') (p : List Nat) : Prop := IsP n p ∧ ∀ q, q < n → ∀ b, B q = some b → p.getD q 0 = b
theorem Qx_set {n : Nat} {B : PM'} {q b : Nat} (hq : q < n) (h : B q = none) {p : List Nat} : Qx n (upo B q b) p ↔ Qx n B p ∧ p.getD q 0 = b := by
  constructor
  · rintro ⟨h1, h2⟩
    refine ⟨⟨h1, fun x hx y hy => h2 x hx y ?_⟩, h2 q hq b (upo_at _ _ _)⟩
    have : x ≠ q := fun z => by rw [z, h] at hy; exact absurd hy (by simp)
    rw [upo_ne this]
    exact hy
  · rintro ⟨⟨h1, h2⟩, h3⟩
    refine ⟨h1, fun x hx y hy => ?_⟩
    by_cases e : x = q
    · rw [e, upo_at] at hy
      rw [e, h3]
      exact Option.some.inj hy
    · rw [upo_ne e] at hy
      exact h2 x hx y hy
/-- where a free book may stand: on a free place -/
theorem Qx_free {n : Nat} {B P : PM'} (hc : Cs n B P) {p : List Nat} (h : Qx n B p) {q b : Nat} (hq : q < n) (hb : P b = none) (e : p.getD q 0 = b) : B q = none := by
  cases hB : B q with
  | none => rfl
  | some y =>
    have h1 := h.2 q hq y hB
    have h2 := (hc.1 q hq y hB).2
    rw [← h1, e, hb] at h2
    exact absurd h2 (by simp)
theorem Qx_freeP {n : Nat} {B P : PM'} (hc : Cs n B P) {p : List Nat} (h : Qx n B p) {q b : Nat} (hq : q < n) (hb : b < n) (hB : B q = none) (e : p.getD q 0 = b) : P b = none := by
  cases hP : P b with
  | none => rfl
  | some x =>
    obtain ⟨h1, h2⟩ := hc.2 b hb x hP
    have h3 := h.2 x h1 b h2
    have h4 := h.1.inj h1 hq (h3.trans e.symm)
    rw [h4, hB] at h2
    exact absurd h2 (by simp)
theorem cN_sum {n : Nat} {L : List (List Nat)} {B : PM'} {a c : Nat} (h : ∀ q, q < n → B q = none → cN L (Qx n (upo B q a)) = c) : ∀ k, k ≤ n → cN L (fun p => ∃ q, q < k ∧ B q = none ∧ Qx n (upo B q a) p) = fc B k * c
  | 0, _ => by
    rw [cN_no L (fun p _ z => by obtain ⟨q, hq, _⟩ := z; omega)]
    exact (Nat.zero_mul c).symm
  | k + 1, hk => by
    have ih := cN_sum h k (by omega)
    show _ = (fc B k + (if B k = none then 1 else 0)) * c
    by_cases e : B k = none
    · rw [if_pos e, Nat.add_mul, Nat.one_mul, ← ih, ← h k (by omega) e, ← cN_or]
      · refine cN_cg L (fun p _ => ⟨fun z => ?_, fun z => ?_⟩)
        · obtain ⟨q, h1, h2, h3⟩ := z
          by_cases eq : q = k
          · rw [eq] at h3
            exact Or.inr h3
          · exact Or.inl ⟨q, by omega, h2, h3⟩
        · rcases z with ⟨q, h1, h2, h3⟩ | z
          · exact ⟨q, by omega, h2, h3⟩
          · exact ⟨k, by omega, e, z⟩
      · rintro p ⟨q, h1, h2, h3⟩ z
        have e1 := ((Qx_set (show q < n by omega) h2).mp h3).2
        have e2 := ((Qx_set (show k < n by omega) e).mp z).2
        have := h3.1.inj (show q < n by omega) (show k < n by omega) (e1.trans e2.symm)
        omega
    · rw [if_neg e, show fc B k + 0 = fc B k from rfl, ← ih]
      refine cN_cg L (fun p _ => ⟨fun z => ?_, fun z => ?_⟩)
      · obtain ⟨q, h1, h2, h3⟩ := z
        have : q ≠ k := fun z => e (by rw [← z]; exact h2)
        exact ⟨q, by omega, h2, h3⟩
      · obtain ⟨q, h1, h2, h3⟩ := z
        exact ⟨q, by omega, h2, h3⟩
theorem cN_leaf {n : Nat} {L : List (List Nat)} (hL : AllP n L) : ∀ (k : Nat) (B P : PM'), Cs n B P → fc B n = k → fc P n = k → cN L (Qx n B) = fa k := by
  intro k
  induction k with
  | zero =>
    intro B P hc hB hP
    have hB0 := fc_0 n hB
    have hv : ∀ q, q < n → ∃ b, B q = some b ∧ b < n ∧ P b = some q := fun q hq => by
      cases h : B q with
      | none => exact absurd h (hB0 q hq)
      | some b => exact ⟨b, rfl, hc.1 q hq b h⟩
    let p0 := (List.range n).map (fun q => (B q).getD 0)
    have hlen : p0.length = n := by simp [p0]
    have hget : ∀ q, q < n → p0.getD q 0 = (B q).getD 0 := fun q hq => by
      rw [List.getD_eq_getElem?_getD, List.getElem?_map, List.getElem?_range hq]
      rfl
    have hp0 : IsP n p0 := by
      refine IsP.of hlen ?_ (fun v hv' => ?_)
      · show List.Pairwise _ _
        rw [List.pairwise_map]
        refine List.Pairwise.imp_of_mem (fun {x y} hx hy hxy e => hxy ?_) List.nodup_range
        obtain ⟨b1, e1, _, f1⟩ := hv x (List.mem_range.mp hx)
        obtain ⟨b2, e2, _, f2⟩ := hv y (List.mem_range.mp hy)
        rw [e1, e2] at e
        have e3 : b1 = b2 := e
        rw [e3, f2] at f1
        exact (Option.some.inj f1).symm
      · obtain ⟨q, hq, e⟩ := List.mem_map.mp hv'
        obtain ⟨b, e1, l1, _⟩ := hv q (List.mem_range.mp hq)
        rw [e1] at e
        have : b = v := e
        omega
    refine cN_one L hL.1 ((hL.2 p0).mpr hp0) (fun p hp => ⟨fun h => ?_, fun h => ?_⟩)
    · apply List.ext_getElem?
      intro i
      by_cases hi : i < n
      · obtain ⟨b, e1, _, _⟩ := hv i hi
        have h1 := h.2 i hi b e1
        have h2 := hget i hi
        rw [e1] at h2
        have l1 : i < p.length := by rw [h.1.len]; exact hi
        have l2 : i < p0.length := by rw [hlen]; exact hi
        rw [List.getD_eq_getElem?_getD, List.getElem?_eq_getElem l1] at h1
        rw [List.getD_eq_getElem?_getD, List.getElem?_eq_getElem l2] at h2
        rw [List.getElem?_eq_getElem l1, List.getElem?_eq_getElem l2]
        have h1' : p[i] = b := h1
        have h2' : p0[i] = b := h2
        rw [h1', h2']
      · rw [List.getElem?_eq_none (by rw [h.1.len]; omega), List.getElem?_eq_none (by rw [hlen]; omega)]
    · rw [h]
      refine ⟨hp0, fun q hq b hb => ?_⟩
      rw [hget q hq, hb]
      rfl
  | succ k ih =>
    intro B P hc hB hP
    obtain ⟨a, ha, hPa⟩ := fc_ex (B := P) n (by omega)
    have h1 : ∀ q, q < n → B q = none → cN L (Qx n (upo B q a)) = fa k := fun q hq hBq => by
      have e1 := fc_set (b := a) hBq n hq
      have e2 := fc_set (b := q) hPa n ha
      exact ih (upo B q a) (upo P a q) (hc.set hq ha hBq hPa) (by omega) (by omega)
    have h2 := cN_sum h1 n (Nat.le_refl _)
    rw [hB] at h2
    rw [show fa (k + 1) = (k + 1) * fa k from rfl, ← h2]
    refine cN_cg L (fun p hp => ⟨fun h => ?_, fun h => ?_⟩)
    · obtain ⟨q, hq, e⟩ := h.1.sur ha
      have hf := Qx_free hc h hq hPa e
      exact ⟨q, hq, hf, (Qx_set hq hf).mpr ⟨h, e⟩⟩
    · obtain ⟨q, hq, hf, h3⟩ := h
      exact ((Qx_set hq hf).mp h3).1
theorem Qx_ex {n : Nat} {L : List (List Nat)} (hL : AllP n L) {B P : PM'} (hc : Cs n B P) (he : fc B n = fc P n) : ∃ p, Qx n B p := by
  have h := cN_leaf hL (fc B n) B P hc rfl he.symm
  obtain ⟨p, _, hp⟩ := cN_pos L (by rw [h]; exact fa_pos _)
  exact ⟨p, hp⟩
