/-! running the mini machine on: Go n: n steps, but no further than a place of 'stop' -/
def GoC (rw : Nat → Option RW) (rt : Option FieldType) (tb : Nat → Nat × (Nat → Int32)) (call : CO) (Q : AQ) (stop : List Nat) (g : CP) : CP := fun pc lv st h kc ks => if stop.contains pc = true then WP rw rt tb call Q pc lv st h kc ks else g pc lv st h kc ks
def Go (rw : Nat → Option RW) (rt : Option FieldType) (tb : Nat → Nat × (Nat → Int32)) (call : CO) (Q : AQ) (stop : List Nat) : Nat → CP
  | 0 => WP rw rt tb call Q
  | n + 1 => mm_step rw rt tb call Q (GoC rw rt tb call Q stop (Go rw rt tb call Q stop n))
section GO
variable {rw : Nat → Option RW} {rt : Option FieldType} {tb : Nat → Nat × (Nat → Int32)} {call : CO} {Q : AQ} {pc : Nat} {lv : AL} {st : List AV} {h : AH} {kc ks : Nat}
theorem Go_s (stop : List Nat) (n : Nat) : Go rw rt tb call Q stop (n + 1) pc lv st h kc ks = mm_step rw rt tb call Q (GoC rw rt tb call Q stop (Go rw rt tb call Q stop n)) pc lv st h kc ks := rfl
theorem GoC_a (stop : List Nat) (g : CP) : GoC rw rt tb call Q stop g pc lv st h kc ks = (if stop.contains pc = true then WP rw rt tb call Q pc lv st h kc ks else g pc lv st h kc ks) := rfl
theorem Go.wp (stop : List Nat) (n : Nat) {pc : Nat} {lv : AL} {st : List AV} {h : AH} {kc ks : Nat} (hs : Go rw rt tb call Q stop n pc lv st h kc ks) : WP rw rt tb call Q pc lv st h kc ks := by
  induction n generalizing pc lv st h kc ks with
  | zero => exact hs
  | succ n ih =>
    rw [Go_s] at hs
    refine WP.step (mm_step_mono (fun _ _ _ _ _ _ z => z) (fun _ _ z => z) (fun pc lv st h kc ks z => ?_) hs)
    rw [GoC_a] at z
    by_cases e : stop.contains pc = true
    · rw [if_pos e] at z; exact z
    · rw [if_neg e] at z; exact ih z
end GO
theorem mmr_hit (i : Nat) (v : AV) (l : AL) : mm_rd ((i, v) :: l) i = some v := by simp [mm_rd]
theorem mmr_cons (j i : Nat) (v : AV) (l : AL) : mm_rd ((j, v) :: l) i = if (j == i) = true then some v else mm_rd l i := by
  unfold mm_rd
  rw [List.find?_cons]
  dsimp only
  cases j == i <;> rfl
theorem mmc_I (x : Int32) : mm_c2 (.inl x) = false := rfl
theorem mmc_L (x : Int64) : mm_c2 (.inr (.inl x)) = true := rfl
theorem mmc_R (x : Option Nat ⊕ Nat) : mm_c2 (.inr (.inr x)) = false := by cases x <;> rfl
theorem mmi_nil (i : Nat) (v : AV) : mm_ins i v [] = [(i, v)] := rfl
theorem mmi_cons (i j : Nat) (v w : AV) (l : AL) : mm_ins i v ((j, w) :: l) = if j < i then (j, w) :: mm_ins i v l else (i, v) :: (j, w) :: l := rfl
theorem mmu_get (h : AH) (k j : Nat) (c : AC) : (mm_up h k c).2 j = if j = k then some c else h.2 j := rfl
theorem mmu_one (h : AH) (k : Nat) (c : AC) : (mm_up h k c).1 = h.1 := rfl
theorem mma_get (h : AH) (j : Nat) (c : AC) : (mm_al h c).2 j = if j = h.1 then some c else h.2 j := rfl
theorem mma_one (h : AH) (c : AC) : (mm_al h c).1 = h.1 + 1 := rfl
theorem WM.of {tb : Nat → Nat × (Nat → Int32)} {d md : Nat} {as : List AV} {h : AH} {mc ms : Nat} {Q : AQ} (mi : MI) (hmi : mm_mi md = mi) (h1 : as.length = mi.2.2.2.2.1) (h2 : mm_sl as ≤ mi.2.2.1) (hw : WP (mm_rw mi.2.2.2.2.2) mi.2.2.2.1 tb (WM tb d) Q 0 (mm_args 0 as) [] h mc ms) : WM tb (d + 1) md as h mc ms Q := by
  subst hmi
  exact ⟨h1, h2, hw⟩
theorem mm_call_eq (call : CO) (C : CP) (md n pc : Nat) (lv : AL) (st : List AV) (h : AH) (kc ks : Nat) : mm_call call C md n pc lv st h kc ks = (n ≤ st.length ∧ (st.drop n).length ≤ 4 ∧ ∃ (mc ms : Nat) (R : AQ), mc ≤ kc ∧ ms ≤ ks ∧ call md (st.take n).reverse h mc ms R ∧ ∀ (r : Option AV) (h' : AH), R r h' → C (pc + 3) lv (r.toList ++ st.drop n) h' (kc - mc) (ks - ms)) := rfl
theorem mmw_nil (C : Nat → Prop) (a : Int32) (d : Nat) (lo : Int32) : mm_sw C a d lo [] = C d := rfl
theorem mmw_cons (C : Nat → Prop) (a : Int32) (d t : Nat) (lo : Int32) (ts : List Nat) : mm_sw C a d lo (t :: ts) = ((a = lo → C t) ∧ (¬ a = lo → mm_sw C a d (lo + 1) ts)) := rfl
/-- nothing but the cells of S has changed -/
def FR (h h' : AH) (S : List Nat) : Prop := h'.1 = h.1 ∧ ∀ k, k ∉ S → h'.2 k = h.2 k
theorem FR.rf {h : AH} {S : List Nat} : FR h h S := ⟨rfl, fun _ _ => rfl⟩
theorem FR.up {h : AH} {S : List Nat} {k : Nat} {c : AC} (hk : k ∈ S) : FR h (mm_up h k c) S := ⟨rfl, fun j hj => if_neg (fun (e : j = k) => hj (by rw [e]; exact hk))⟩
theorem FR.tr {h h' h'' : AH} {S : List Nat} (a : FR h h' S) (b : FR h' h'' S) : FR h h'' S := ⟨b.1.trans a.1, fun k hk => (b.2 k hk).trans (a.2 k hk)⟩
theorem FR.mono {h h' : AH} {S T : List Nat} (a : FR h h' S) (hs : ∀ k ∈ S, k ∈ T) : FR h h' T := ⟨a.1, fun k hk => a.2 k (fun z => hk (hs k z))⟩
