/-! rows: trips over settled places -/
def fit (law n : Nat) : List (Nat × Nat) → List Nat → Prop
  | [], _ => True
  | q :: T, p => q.1 < n ∧ q.2 < n ∧ tG p q.1 = q.2 ∧ fit law n T (tX law p q.1)
def fnl (law : Nat) : List (Nat × Nat) → List Nat → List Nat
  | [], p => p
  | q :: T, p => fnl law T (tX law p q.1)
def mp (w p : List Nat) : List Nat := w.map (fun q => p.getD q 0)
theorem idx_map {f : Nat → Nat} {q : Nat} : ∀ (w : List Nat), (∀ x ∈ w, f x = f q → x = q) → (w.map f).idxOf (f q) = w.idxOf q
  | [], _ => rfl
  | x :: w, h => by
    rw [List.map_cons, List.idxOf_cons, List.idxOf_cons]
    by_cases e : x = q
    · rw [e]
      simp
    · have e1 : (f x == f q) = false := by
        rw [beq_eq_false_iff_ne]
        exact fun z => e (h x List.mem_cons_self z)
      have e2 : (x == q) = false := by
        rw [beq_eq_false_iff_ne]
        exact e
      rw [e1, e2, idx_map w (fun y hy => h y (List.mem_cons_of_mem _ hy))]
theorem mem_mapi {f : Nat → Nat} {q : Nat} {w : List Nat} (h : ∀ x ∈ w, f x = f q → x = q) : f q ∈ w.map f ↔ q ∈ w := by
  constructor
  · intro z
    obtain ⟨x, hx, e⟩ := List.mem_map.mp z
    rw [← h x hx e]
    exact hx
  · exact fun z => List.mem_map_of_mem z
theorem getD_map {f : Nat → Nat} {w : List Nat} {i : Nat} (hi : i < w.length) : (w.map f).getD i 0 = f (w.getD i 0) := by
  rw [List.getD_eq_getElem?_getD, List.getElem?_map, List.getD_eq_getElem?_getD, List.getElem?_eq_getElem hi]
  rfl
theorem erase_map {f : Nat → Nat} {w : List Nat} {i : Nat} : (w.map f).eraseIdx i = (w.eraseIdx i).map f := by
  apply List.ext_getElem?
  intro j
  rw [List.getElem?_eraseIdx, List.getElem?_map, List.getElem?_map, List.getElem?_map, List.getElem?_eraseIdx]
  split <;> rfl
theorem insert_map {f : Nat → Nat} {w : List Nat} {i v : Nat} : (w.map f).insertIdx i (f v) = (w.insertIdx i v).map f := by
  apply List.ext_getElem?
  intro j
  rw [List.getElem?_insertIdx, List.getElem?_map, List.getElem?_map, List.getElem?_map, List.getElem?_insertIdx, List.length_map]
  split
  · rfl
  · split
    · split <;> rfl
    · rfl
theorem tG_map {f : Nat → Nat} {w : List Nat} {q : Nat} (hq : q ∈ w) (h : ∀ x ∈ w, f x = f q → x = q) : tG (w.map f) (f q) = f (tG w q) := by
  unfold tG
  rw [idx_map w h, List.length_map, getD_map (Nat.mod_lt _ (by have := idx_lt hq; omega))]
theorem bk_map {f : Nat → Nat} {law : Nat} {w : List Nat} {q : Nat} (h : ∀ x ∈ w, f x = f q → x = q) : bk law (w.map f) (f q) = bk law w q := by
  unfold bk
  rw [idx_map w h, List.length_map]
  simp only [mem_mapi h]
theorem tX_map {f : Nat → Nat} {law : Nat} {w : List Nat} {q : Nat} (hq : q ∈ w) (h : ∀ x ∈ w, f x = f q → x = q) : tX law (w.map f) (f q) = (tX law w q).map f := by
  unfold tX
  rw [tG_map hq h, idx_map w h, List.length_map, erase_map, bk_map (fun x hx e => h x (List.mem_of_mem_eraseIdx hx) e), insert_map]
section ROWSQ
variable {n law : Nat} {w p : List Nat} {B P : PM'}
theorem inj_of (hw : IsP n w) (hp : IsP n p) {q : Nat} (hq : q < n) : ∀ x ∈ w, p.getD x 0 = p.getD q 0 → x = q := fun _ hx e => hp.inj (hw.mem.mp hx) hq e
theorem tG_mp (hw : IsP n w) (hp : IsP n p) {q : Nat} (hq : q < n) : tG (mp w p) (p.getD q 0) = p.getD (tG w q) 0 := tG_map (f := fun q => p.getD q 0) (hw.mem.mpr hq) (inj_of hw hp hq)
theorem tX_mp (hw : IsP n w) (hp : IsP n p) {q : Nat} (hq : q < n) : tX law (mp w p) (p.getD q 0) = mp (tX law w q) p := tX_map (f := fun q => p.getD q 0) (hw.mem.mpr hq) (inj_of hw hp hq)
theorem IsP.tX (hw : IsP n w) {q : Nat} (hq : q < n) : IsP n (tX law w q) := (tX_perm law (hw.mem.mpr hq)).trans hw
theorem IsP.tG (hw : IsP n w) {q : Nat} (hq : q < n) : tG w q < n := hw.mem.mp (tG_mem (hw.mem.mpr hq))
theorem mp_get (hw : IsP n w) {k : Nat} (hk : k < n) : (mp w p).getD k 0 = p.getD (w.getD k 0) 0 := getD_map (f := fun q => p.getD q 0) (by rw [hw.len]; exact hk)
theorem mp_range (hp : IsP n p) : mp (List.range n) p = p := by
  apply List.ext_getElem?
  intro i
  unfold mp
  rw [List.getElem?_map]
  by_cases hi : i < n
  · rw [List.getElem?_range hi, List.getElem?_eq_getElem (by rw [hp.len]; exact hi)]
    show some (p.getD i 0) = _
    rw [List.getD_eq_getElem?_getD, List.getElem?_eq_getElem (by rw [hp.len]; exact hi)]
    rfl
  · rw [List.getElem?_eq_none (by rw [List.length_range]; omega), List.getElem?_eq_none (by rw [hp.len]; omega)]
    rfl
/-- the orders of a node -/
def Qn (law n : Nat) (B : PM') (w : List Nat) (T : List (Nat × Nat)) (p : List Nat) : Prop := Qx n B p ∧ fit law n T (mp w p)
theorem Qn_nil : Qn law n B w [] p ↔ Qx n B p := ⟨fun h => h.1, fun h => ⟨h, trivial⟩⟩
theorem Qn_big {q : Nat × Nat} {T : List (Nat × Nat)} (h : ¬ (q.1 < n ∧ q.2 < n)) : ¬ Qn law n B w (q :: T) p := fun z => h ⟨z.2.1, z.2.2.1⟩
theorem Qn_ask {a b x : Nat} {T : List (Nat × Nat)} (hc : Cs n B P) (hw : IsP n w) (ha : a < n) (hb : b < n) (hx : P a = some x) : Qn law n B w ((a, b) :: T) p ↔ Qx n B p ∧ p.getD (tG w x) 0 = b ∧ fit law n T (mp (tX law w x) p) := by
  obtain ⟨h1, h2⟩ := hc.2 a ha x hx
  constructor
  · rintro ⟨hq, _, _, h3, h4⟩
    have e : p.getD x 0 = a := hq.2 x h1 a h2
    have h3 : tG (mp w p) a = b := h3
    have h4 : fit law n T (tX law (mp w p) a) := h4
    rw [← e, tG_mp hw hq.1 h1] at h3
    rw [← e, tX_mp hw hq.1 h1] at h4
    exact ⟨hq, h3, h4⟩
  · rintro ⟨hq, h3, h4⟩
    have e : p.getD x 0 = a := hq.2 x h1 a h2
    refine ⟨hq, ha, hb, ?_, ?_⟩
    · show tG (mp w p) a = b
      rw [← e, tG_mp hw hq.1 h1]
      exact h3
    · show fit law n T (tX law (mp w p) a)
      rw [← e, tX_mp hw hq.1 h1]
      exact h4
theorem Qn_hit {a b x : Nat} {T : List (Nat × Nat)} (hc : Cs n B P) (hw : IsP n w) (ha : a < n) (hb : b < n) (hx : P a = some x) (hr : B (tG w x) = some b) : Qn law n B w ((a, b) :: T) p ↔ Qn law n B (tX law w x) T p := by
  rw [Qn_ask hc hw ha hb hx]
  exact ⟨fun h => ⟨h.1, h.2.2⟩, fun h => ⟨h.1, h.1.2 _ (hw.tG (hc.2 a ha x hx).1) b hr, h.2⟩⟩
theorem Qn_new {a b x : Nat} {T : List (Nat × Nat)} (hc : Cs n B P) (hw : IsP n w) (ha : a < n) (hb : b < n) (hx : P a = some x) (hr : B (tG w x) = none) : Qn law n B w ((a, b) :: T) p ↔ Qn law n (upo B (tG w x) b) (tX law w x) T p := by
  rw [Qn_ask hc hw ha hb hx]
  unfold Qn
  rw [Qx_set (hw.tG (hc.2 a ha x hx).1) hr]
  exact ⟨fun h => ⟨⟨h.1, h.2.1⟩, h.2.2⟩, fun h => ⟨h.1.1, h.1.2, h.2⟩⟩
theorem Qn_miss {a b x : Nat} {T : List (Nat × Nat)} (hc : Cs n B P) (hw : IsP n w) (ha : a < n) (hb : b < n) (hx : P a = some x) (h1 : B (tG w x) ≠ some b) (h2 : ¬ (B (tG w x) = none ∧ P b = none)) : ¬ Qn law n B w ((a, b) :: T) p := by
  rw [Qn_ask hc hw ha hb hx]
  rintro ⟨hq, h3, _⟩
  have hx' := (hc.2 a ha x hx).1
  cases hB : B (tG w x) with
  | none => exact h2 ⟨hB, Qx_freeP hc hq (hw.tG hx') hb hB h3⟩
  | some y =>
    have := hq.2 _ (hw.tG hx') y hB
    rw [h3] at this
    exact h1 (by rw [hB, this])
theorem Qn_split {a : Nat} {T : List (Nat × Nat)} (hc : Cs n B P) (ha : a < n) (hx : P a = none) : Qn law n B w T p ↔ ∃ q, q < n ∧ B q = none ∧ Qn law n (upo B q a) w T p := by
  constructor
  · rintro ⟨h1, h2⟩
    obtain ⟨q, hq, e⟩ := h1.1.sur ha
    have hf := Qx_free hc h1 hq hx e
    exact ⟨q, hq, hf, (Qx_set hq hf).mpr ⟨h1, e⟩, h2⟩
  · rintro ⟨q, hq, hf, h1, h2⟩
    exact ⟨((Qx_set hq hf).mp h1).1, h2⟩
/-- the last row, told by the first -/
def FI (law n : Nat) (T0 : List (Nat × Nat)) (B : PM') (w : List Nat) (T : List (Nat × Nat)) : Prop := ∀ p, Qn law n B w T p → fnl law T0 p = fnl law T (mp w p)
theorem FI.z {T0 : List (Nat × Nat)} : FI law n T0 (fun _ => none) (List.range n) T0 := fun p h => by rw [mp_range h.1.1]
theorem FI.ask {T0 : List (Nat × Nat)} {a b x : Nat} {T : List (Nat × Nat)} {B' : PM'} (h : FI law n T0 B w ((a, b) :: T)) (hc : Cs n B P) (hw : IsP n w) (ha : a < n) (hx : P a = some x) (hs : ∀ p, Qn law n B' (tX law w x) T p → Qn law n B w ((a, b) :: T) p) : FI law n T0 B' (tX law w x) T := fun p hp => by
  have h0 := hs p hp
  obtain ⟨h1, h2⟩ := hc.2 a ha x hx
  have e : p.getD x 0 = a := h0.1.2 x h1 a h2
  rw [h p h0]
  show fnl law T (tX law (mp w p) a) = _
  rw [← e, tX_mp hw h0.1.1 h1]
theorem FI.sub {T0 T : List (Nat × Nat)} {B' : PM'} (h : FI law n T0 B w T) (hs : ∀ p, Qn law n B' w T p → Qn law n B w T p) : FI law n T0 B' w T := fun p hp => h p (hs p hp)
/-! what a leaf adds -/
theorem leaf_st {L : List (List Nat)} (hL : AllP n L) (hc : Cs n B P) (he : fc B n = fc P n) {b i : Nat} (hb : b < n) (hi : i < n) : (∃ p, Qx n B p ∧ p.getD i 0 = b) ↔ (match P b with
    | none => B i = none
    | some q => i = q) := by
  cases hP : P b with
  | none =>
    constructor
    · rintro ⟨p, h1, h2⟩
      exact Qx_free hc h1 hi hP h2
    · intro (hB : B i = none)
      have e1 := fc_set (b := b) hB n hi
      have e2 := fc_set (b := i) hP n hb
      obtain ⟨p, hp⟩ := Qx_ex hL (hc.set hi hb hB hP) (by omega)
      exact ⟨p, (Qx_set hi hB).mp hp⟩
  | some q =>
    obtain ⟨h1, h2⟩ := hc.2 b hb q hP
    constructor
    · rintro ⟨p, h3, h4⟩
      exact h3.1.inj hi h1 (h4.trans (h3.2 q h1 b h2).symm)
    · intro (e : i = q)
      obtain ⟨p, hp⟩ := Qx_ex hL hc he
      exact ⟨p, hp, by rw [e]; exact hp.2 q h1 b h2⟩
/-- the books that may stand on a place -/
def lk (n : Nat) (P : PM') (o : Option Nat) (b : Nat) : Prop := match o with
  | none => b < n ∧ P b = none
  | some y => b = y
theorem lk_of (hc : Cs n B P) (h : Qx n B p) {q : Nat} (hq : q < n) : lk n P (B q) (p.getD q 0) := by
  cases hB : B q with
  | none => exact ⟨h.1.lt hq, Qx_freeP hc h hq (h.1.lt hq) hB rfl⟩
  | some y => exact h.2 q hq y hB
theorem lk_lt (hc : Cs n B P) {q b : Nat} (hq : q < n) (h : lk n P (B q) b) : b < n := by
  cases hB : B q with
  | none => rw [hB] at h; exact h.1
  | some y =>
    rw [hB] at h
    have h : b = y := h
    rw [h]
    exact (hc.1 q hq y hB).1
theorem leaf_pair {L : List (List Nat)} (hL : AllP n L) (hc : Cs n B P) (he : fc B n = fc P n) {x y b r : Nat} (hx : x < n) (hy : y < n) (hxy : x ≠ y) : (∃ p, Qx n B p ∧ p.getD x 0 = b ∧ p.getD y 0 = r) ↔ lk n P (B x) b ∧ lk n P (B y) r ∧ r ≠ b := by
  constructor
  · rintro ⟨p, h1, h2, h3⟩
    refine ⟨by rw [← h2]; exact lk_of hc h1 hx, by rw [← h3]; exact lk_of hc h1 hy, fun e => hxy (h1.1.inj hx hy (by rw [h2, h3, e]))⟩
  · rintro ⟨h1, h2, h3⟩
    have hb := lk_lt hc hx h1
    have hr := lk_lt hc hy h2
    -- settle x with b
    have s1 : ∃ B1 P1, Cs n B1 P1 ∧ fc B1 n = fc P1 n ∧ B1 x = some b ∧ lk n P1 (B1 y) r ∧ ∀ p, Qx n B1 p → Qx n B p := by
      cases hB : B x with
      | none =>
        rw [hB] at h1
        have e1 := fc_set (b := b) hB n hx
        have e2 := fc_set (b := x) h1.2 n hb
        refine ⟨upo B x b, upo P b x, hc.set hx hb hB h1.2, by omega, upo_at _ _ _, ?_, fun p hp => ((Qx_set hx hB).mp hp).1⟩
        rw [upo_ne (Ne.symm hxy)]
        cases hy' : B y with
        | none =>
          rw [hy'] at h2
          exact ⟨hr, by rw [upo_ne h3]; exact h2.2⟩
        | some z =>
          rw [hy'] at h2
          exact h2
      | some z =>
        rw [hB] at h1
        have h1 : b = z := h1
        exact ⟨B, P, hc, he, by rw [hB, h1], h2, fun p hp => hp⟩
    obtain ⟨B1, P1, c1, f1, x1, y1, sub1⟩ := s1
    cases hB : B1 y with
    | none =>
      rw [hB] at y1
      have e1 := fc_set (b := r) hB n hy
      have e2 := fc_set (b := y) y1.2 n hr
      obtain ⟨p, hp⟩ := Qx_ex hL (c1.set hy hr hB y1.2) (by omega)
      obtain ⟨q1, q2⟩ := (Qx_set hy hB).mp hp
      exact ⟨p, sub1 p q1, q1.2 x hx b x1, q2⟩
    | some z =>
      rw [hB] at y1
      have y1 : r = z := y1
      obtain ⟨p, hp⟩ := Qx_ex hL c1 f1
      exact ⟨p, sub1 p hp, hp.2 x hx b x1, by rw [y1]; exact hp.2 y hy z hB⟩
/-- r stands to the right of b -/
def nb (n : Nat) (xs : List Nat) (b r : Nat) : Prop := ∃ k, k < n ∧ xs.getD k 0 = b ∧ xs.getD ((k + 1) % n) 0 = r
theorem leaf_gv {L : List (List Nat)} (hL : AllP n L) (hc : Cs n B P) (he : fc B n = fc P n) (hw : IsP n w) (hn : 2 ≤ n) {b r : Nat} : (∃ p, Qx n B p ∧ nb n (mp w p) b r) ↔ ∃ k, k < n ∧ lk n P (B (w.getD k 0)) b ∧ lk n P (B (w.getD ((k + 1) % n) 0)) r ∧ r ≠ b := by
  have hne : ∀ k, k < n → w.getD k 0 ≠ w.getD ((k + 1) % n) 0 := fun k hk e => by
    have h1 := hw.inj hk (Nat.mod_lt _ (by omega)) e
    rcases Nat.lt_or_ge (k + 1) n with c | c
    · rw [Nat.mod_eq_of_lt c] at h1
      omega
    · rw [show k + 1 = n by omega, Nat.mod_self] at h1
      omega
  constructor
  · rintro ⟨p, h1, k, hk, h2, h3⟩
    have hk' : (k + 1) % n < n := Nat.mod_lt _ (by omega)
    rw [mp_get hw hk] at h2
    rw [mp_get hw hk'] at h3
    exact ⟨k, hk, (leaf_pair hL hc he (hw.lt hk) (hw.lt hk') (hne k hk)).mp ⟨p, h1, h2, h3⟩⟩
  · rintro ⟨k, hk, h⟩
    have hk' : (k + 1) % n < n := Nat.mod_lt _ (by omega)
    obtain ⟨p, h1, h2, h3⟩ := (leaf_pair hL hc he (hw.lt hk) (hw.lt hk') (hne k hk)).mpr h
    exact ⟨p, h1, k, hk, by rw [mp_get hw hk]; exact h2, by rw [mp_get hw hk']; exact h3⟩
end ROWSQ
/-! sets as bits -/
noncomputable def wBk (S : Nat → Prop) : Nat → Int32
  | 0 => 0
  | k + 1 => wBk S k ||| (@ite Int32 (S k) (Classical.propDecidable _) ((1 : Int32) <<< (nI k &&& 31)) 0)
theorem wBk_bt {S : Nat → Prop} {i : Nat} (hi : i < 32) : ∀ k, k ≤ 32 → (bt (wBk S k) i = true ↔ i < k ∧ S i)
  | 0, _ => by
    show bt 0 i = true ↔ _
    rw [b_0]
    exact ⟨fun h => absurd h (by decide), fun h => absurd h.1 (Nat.not_lt_zero _)⟩
  | k + 1, hk => by
    have ih := wBk_bt (S := S) hi k (by omega)
    show bt (wBk S k ||| (@ite Int32 (S k) (Classical.propDecidable _) ((1 : Int32) <<< (nI k &&& 31)) 0)) i = true ↔ _
    rw [b_or, Bool.or_eq_true, ih]
    by_cases c : S k
    · rw [if_pos c, bt_sh (by omega) hi, decide_eq_true_eq]
      constructor
      · rintro (h | h)
        · exact ⟨by omega, h.2⟩
        · rw [h]
          exact ⟨by omega, c⟩
      · rintro ⟨h1, h2⟩
        by_cases e : i = k
        · exact Or.inr e
        · exact Or.inl ⟨by omega, h2⟩
    · rw [if_neg c, b_0]
      constructor
      · rintro (h | h)
        · exact ⟨by omega, h.2⟩
        · exact absurd h (by decide)
      · rintro ⟨h1, h2⟩
        by_cases e : i = k
        · rw [e] at h2
          exact absurd h2 c
        · exact Or.inl ⟨by omega, h2⟩
noncomputable def wS (S : Nat → Prop) : Int32 := wBk S 8
theorem wS_eq {S : Nat → Prop} {W : Int32} (h : ∀ i, i < 32 → (bt W i = true ↔ i < 8 ∧ S i)) : W = wS S := b_ext (fun i hi => by
  have h1 := h i hi
  have h2 := wBk_bt (S := S) hi 8 (by omega)
  exact Bool.eq_iff_iff.mpr (h1.trans h2.symm))
theorem wS_bt {S : Nat → Prop} {i : Nat} (hi : i < 32) : bt (wS S) i = true ↔ i < 8 ∧ S i := wBk_bt hi 8 (by omega)
/-- how many bits -/
def pcB (W : Int32) : Nat → Nat
  | 0 => 0
  | k + 1 => pcB W k + (if bt W k = true then 1 else 0)
theorem pcB_le (W : Int32) : ∀ k, pcB W k ≤ k
  | 0 => Nat.le_refl _
  | k + 1 => by
    have := pcB_le W k
    show pcB W k + (if bt W k = true then 1 else 0) ≤ k + 1
    split <;> omega
theorem pcB_0 {W : Int32} : ∀ k, pcB W k = 0 → ∀ i, i < k → bt W i = false
  | 0, _, i, hi => absurd hi (Nat.not_lt_zero _)
  | k + 1, h, i, hi => by
    have h' : pcB W k + (if bt W k = true then 1 else 0) = 0 := h
    by_cases e : i = k
    · cases hb : bt W k
      · rw [e]; exact hb
      · rw [if_pos hb] at h'
        omega
    · exact pcB_0 k (by omega) i (by omega)
theorem small_of {W : Int32} (h : ∀ i, 8 ≤ i → i < 32 → bt W i = false) : ∃ m, m < 256 ∧ W = nI m := by
  refine ⟨W.toBitVec.toNat, ?_, ?_⟩
  · refine Nat.lt_pow_two_of_testBit (n := 8) _ (fun i hi => ?_)
    by_cases c : i < 32
    · exact h i hi c
    · exact BitVec.getLsbD_of_ge _ _ (by omega)
  · refine b_ext (fun i hi => ?_)
    show W.toBitVec.getLsbD i = (nI W.toBitVec.toNat).toBitVec.getLsbD i
    congr 1
    show W.toBitVec = BitVec.ofNat 32 W.toBitVec.toNat
    apply BitVec.eq_of_toNat_eq
    rw [BitVec.toNat_ofNat, Nat.mod_eq_of_lt W.toBitVec.isLt]
