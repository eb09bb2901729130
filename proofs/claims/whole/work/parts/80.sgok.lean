/-! what is so of the state stays so -/
section SGOK
variable {g : SG}
theorem sg_dk {k : DK} {ac : List DK} (h : SgOk g) (hk : DkOk (gN g) (gRd g).length k) (hl : ac.length ≤ 16) (ha : ∀ k ∈ ac, DkOk (gN g) (gRd g).length k) : SgOk (setAD g k ac) := by
  obtain ⟨h1, h2, h3, h4, h5, h6, h7, h8, h9, h10, h11, h12, h13, h14, h15, h16, h17⟩ := h
  exact ⟨h1, h2, h3, h4, h5, h6, h7, h8, h9, h10, hk, hl, ha, h14, h15, h16, h17⟩
theorem push_ok {k : DK} {n r : Nat} {ac : List DK} (hk : DkOk n r k) (hl : ac.length ≤ 16) (ha : ∀ k ∈ ac, DkOk n r k) : (pushA ac k).length ≤ 16 ∧ ∀ k' ∈ pushA ac k, DkOk n r k' := by
  unfold pushA
  by_cases c : ac.length < 16
  · rw [if_pos c]
    refine ⟨by rw [List.length_cons]; omega, fun k' hk' => ?_⟩
    rcases List.mem_cons.mp hk' with e | e
    · rw [e]; exact hk
    · exact ha k' e
  · rw [if_neg c]
    refine ⟨by rw [List.length_cons, List.length_dropLast]; omega, fun k' hk' => ?_⟩
    rcases List.mem_cons.mp hk' with e | e
    · rw [e]; exact hk
    · exact ha k' (List.dropLast_subset ac e)
theorem erase_perm {xs : List Nat} {p : Nat} (hp : p < xs.length) : xs.Perm (xs.getD p 0 :: xs.eraseIdx p) := by
  have h2 := List.perm_insertIdx (xs.getD p 0) (xs.eraseIdx p) (i := p) (by rw [List.length_eraseIdx_of_lt hp]; omega)
  rw [erase_ins hp] at h2
  exact h2
theorem ask_ok {k : DK} {n r x b : Nat} (h : DkOk n r k) (hx : x < r) (hb : b < n) (hm : b ∈ k.1) : DkOk n r (askK k x b) := by
  obtain ⟨h1, h2, h3, h4⟩ := h
  have hp : (k.1.idxOf b + 1) % k.1.length < k.1.length := Nat.mod_lt _ (by have := idx_lt hm; omega)
  have hpm := erase_perm hp
  have hnd := List.nodup_cons.mp (hpm.nodup_iff.mp h1)
  have hv : tG k.1 b ∈ k.1 := tG_mem hm
  have hvn := h2 _ hv
  have hmem : ∀ v, v ∈ k.1 ↔ v = tG k.1 b ∨ v ∈ k.1.eraseIdx ((k.1.idxOf b + 1) % k.1.length) := fun v => by
    rw [hpm.mem_iff, List.mem_cons]
    rfl
  refine ⟨hnd.2, fun v hv' => h2 v ((hmem v).mpr (Or.inr hv')), fun b' hb' hor => ?_, fun b' hb' hnot => ?_⟩
  · have hne : b' ≠ tG k.1 b := by
      rcases hor with z | z
      · intro e
        exact hnd.1 (by rw [← show tG k.1 b = k.1.getD ((k.1.idxOf b + 1) % k.1.length) 0 from rfl, ← e]; exact z)
      · omega
    have h0 := h3 b' hb' (hor.elim (fun z => Or.inl ((hmem b').mpr (Or.inr z))) Or.inr)
    show upd k.2.1 (tG k.1 b) (nI x) b' = _ ∧ upd k.2.2 (tG k.1 b) (nI b) b' = _
    unfold upd
    rw [if_neg hne, if_neg hne]
    exact h0
  · show ∃ i a, i < r ∧ a < n ∧ upd k.2.1 (tG k.1 b) (nI x) b' = nI i ∧ upd k.2.2 (tG k.1 b) (nI b) b' = nI a
    unfold upd
    by_cases e : b' = tG k.1 b
    · rw [if_pos e, if_pos e]
      exact ⟨x, b, hx, hb, rfl, rfl⟩
    · rw [if_neg e, if_neg e]
      exact h4 b' hb' (fun z => ((hmem b').mp z).elim e hnot)
theorem bring_ok {k : DK} {n r law b : Nat} (h : DkOk n r k) (hb : b < n) (hn8 : n ≤ 8) (hm : b ∉ k.1) : DkOk n r (bringK k law b) := by
  obtain ⟨h1, h2, h3, h4⟩ := h
  have hpm := List.perm_insertIdx b k.1 (bk_le law k.1 (k.2.2 b).toNatClampNeg)
  have hmem : ∀ v, v ∈ (bringK k law b).1 ↔ v = b ∨ v ∈ k.1 := fun v => by
    show v ∈ k.1.insertIdx (bk law k.1 (k.2.2 b).toNatClampNeg) b ↔ _
    rw [hpm.mem_iff, List.mem_cons]
  refine ⟨hpm.nodup_iff.mpr (List.nodup_cons.mpr ⟨hm, h1⟩), fun v hv => ?_, fun b' hb' hor => ?_, fun b' hb' hnot => ?_⟩
  · rcases (hmem v).mp hv with e | e
    · omega
    · exact h2 v e
  · show upd k.2.1 b (mI 9) b' = _ ∧ upd k.2.2 b (mI 9) b' = _
    unfold upd
    by_cases e : b' = b
    · rw [if_pos e, if_pos e]
      exact ⟨rfl, rfl⟩
    · rw [if_neg e, if_neg e]
      refine h3 b' hb' (hor.elim (fun z => Or.inl (((hmem b').mp z).resolve_left e)) Or.inr)
  · have hne : b' ≠ b := fun e => hnot ((hmem b').mpr (Or.inl e))
    show ∃ i a, i < r ∧ a < n ∧ upd k.2.1 b (mI 9) b' = nI i ∧ upd k.2.2 b (mI 9) b' = nI a
    unfold upd
    rw [if_neg hne, if_neg hne]
    exact h4 b' hb' (fun z => hnot ((hmem b').mpr (Or.inr z)))
theorem sgA (h : SgOk g) : (gAc g).length ≤ 16 ∧ ∀ k ∈ gAc g, DkOk (gN g) (gRd g).length k := ⟨h.2.2.2.2.2.2.2.2.2.2.2.1, h.2.2.2.2.2.2.2.2.2.2.2.2.1⟩
theorem sg_ask (h : SgOk g) (x y : Int32) : SgOk (aAsk g x y).2 := by
  have hn8 := h.2.2.2.2.1
  have hr4 := h.2.2.2.2.2.1
  unfold aAsk
  by_cases c : (isB x (gRd g).length && isB y (gN g)) = true
  · rw [if_pos c]
    rw [Bool.and_eq_true] at c
    obtain ⟨i, hi, rfl⟩ := isB_t (by omega) c.1
    obtain ⟨b, hb, rfl⟩ := isB_t (by omega) c.2
    rw [nI_clamp (by omega), nI_clamp (by omega)]
    by_cases c2 : b ∈ (gDk g).1
    · rw [if_pos c2]
      have hp := push_ok (sgD h) (sgA h).1 (sgA h).2
      exact sg_dk h (ask_ok (sgD h) hi hb c2) hp.1 hp.2
    · rw [if_neg c2]
      exact h
  · rw [if_neg c]
    exact h
theorem sg_bring (h : SgOk g) (x : Int32) : SgOk (aBring g x).2 := by
  have hn8 := h.2.2.2.2.1
  unfold aBring
  by_cases c : isB x (gN g) = true
  · rw [if_pos c]
    obtain ⟨b, hb, rfl⟩ := isB_t (by omega) c
    rw [nI_clamp (by omega)]
    by_cases c2 : b ∈ (gDk g).1
    · rw [if_pos c2]
      exact h
    · rw [if_neg c2]
      have hp := push_ok (sgD h) (sgA h).1 (sgA h).2
      exact sg_dk h (bring_ok (sgD h) hb hn8 c2) hp.1 hp.2
  · rw [if_neg c]
    exact h
theorem sg_undo (h : SgOk g) : SgOk (aUndo g).2 := by
  have hA := sgA h
  unfold aUndo
  cases e : gAc g with
  | nil => exact h
  | cons k rest =>
    rw [e] at hA
    rw [List.length_cons] at hA
    exact sg_dk h (hA.2 k List.mem_cons_self) (by omega) (fun k' hk' => hA.2 k' (List.mem_cons_of_mem _ hk'))
theorem sg_again (h : SgOk g) (x : Int32) : SgOk (aAgain g x).2 := by
  have hK := h.2.2.2.2.2.2.2.2.2.2.2.2.2.2.2
  have ha : ∀ o : Option DK, (∀ k, o = some k → DkOk (gN g) (gRd g).length k) → SgOk (againK g o).2 := fun o ho => by
    cases o with
    | none => exact h
    | some k => exact sg_dk h (ho k rfl) (Nat.zero_le _) (fun k' hk' => absurd hk' (by simp))
  unfold aAgain
  split
  · split
    · exact ha _ hK.1
    · exact ha _ hK.2
  · exact h
theorem sg_keep (h : SgOk g) (x : Int32) : SgOk (aKeep g x).2 := by
  obtain ⟨h1, h2, h3, h4, h5, h6, h7, h8, h9, h10, h11, h12, h13, h14, h15, h16, h17⟩ := id h
  unfold aKeep
  split
  · show SgOk (if x = 0 then setK g (some (gDk g)) (gK1 g) else setK g (gK0 g) (some (gDk g)))
    split
    · exact ⟨h1, h2, h3, h4, h5, h6, h7, h8, h9, h10, h11, h12, h13, h14, h15, fun k e => by obtain rfl := Option.some.inj e; exact h11, h17⟩
    · exact ⟨h1, h2, h3, h4, h5, h6, h7, h8, h9, h10, h11, h12, h13, h14, h15, h16, fun k e => by obtain rfl := Option.some.inj e; exact h11⟩
  · exact h
theorem sg_week (h : SgOk g) (x y : Int32) : SgOk (aWeek g x y).2 := by
  unfold aWeek
  split
  · split
    · split
      · exact h
      · exact h
    · exact h
  · exact h
theorem sg_seed (h : SgOk g) (v : Int64) : SgOk (aSeed g v).2 := h
theorem sg_forget (h : SgOk g) : SgOk (aForget g).2 := by
  obtain ⟨h1, h2, h3, h4, h5, h6, h7, h8, h9, h10, h11, h12, h13, h14, h15, h16, h17⟩ := h
  exact ⟨h1, h2, h3, h4, h5, h6, h7, h8, h9, h10, h11, h12, h13, Nat.zero_le _, fun q hq => absurd (show q ∈ ([] : List (Nat × Nat)) from hq) (by simp), h16, h17⟩
theorem sg_wipe (h : SgOk g) : SgOk (aWipe g).2 := by
  obtain ⟨h1, h2, h3⟩ := h
  exact ⟨Nat.zero_le _, fun q hq => absurd (show q ∈ ([] : List Nat) from hq) (by simp), h3⟩
theorem sg_law (h : SgOk g) (x : Int32) : SgOk (aLaw g x).2 := by
  obtain ⟨h1, h2, h3, h4⟩ := id h
  unfold aLaw
  by_cases c : isB x 3 = true
  · rw [if_pos c]
    obtain ⟨i, hi, rfl⟩ := isB_t (by omega) c
    refine ⟨h1, h2, ?_, h4⟩
    show (nI i).toNatClampNeg < 3
    rw [nI_clamp (by omega)]
    exact hi
  · rw [if_neg c]
    exact h
theorem sg_given (h : SgOk g) (x y : Int32) : SgOk (aGiven g x y).2 := by
  obtain ⟨h1, h2, h3, h4, h5, h6, h7, h8, h9, h10, h11, h12, h13, h14, h15, h16, h17⟩ := id h
  unfold aGiven
  by_cases c : (isB x (gN g) && isB y (gN g)) = true
  · rw [if_pos c]
    rw [Bool.and_eq_true] at c
    obtain ⟨i, hi, rfl⟩ := isB_t (by omega) c.1
    obtain ⟨b, hb, rfl⟩ := isB_t (by omega) c.2
    rw [nI_clamp (by omega), nI_clamp (by omega)]
    by_cases c2 : (gTo g).length = 6
    · rw [if_pos c2]
      exact h
    · rw [if_neg c2]
      refine ⟨h1, h2, h3, h4, h5, h6, h7, h8, h9, h10, h11, h12, h13, ?_, fun q hq => ?_, h16, h17⟩
      · show (gTo g ++ [(i, b)]).length ≤ 6
        rw [List.length_append, List.length_singleton]
        omega
      · rcases List.mem_append.mp (show q ∈ gTo g ++ [(i, b)] from hq) with e | e
        · exact h15 q e
        · rw [List.mem_singleton] at e
          rw [e]
          exact ⟨by show i < 8; omega, by show b < 8; omega⟩
  · rw [if_neg c]
    exact h
theorem sg_write (h : SgOk g) (x : Int32) (v : Int64) : SgOk (aWrite g x v).2 := by
  obtain ⟨h1, h2, h3⟩ := id h
  unfold aWrite
  by_cases c : (isB x 9 && !decide (x = 0)) = true
  · rw [if_pos c]
    by_cases c2 : (gTx g).length + x.toNatClampNeg ≤ 40
    · rw [if_pos c2]
      refine ⟨?_, fun q hq => ?_, h3⟩
      · show (gTx g ++ wBs v x.toNatClampNeg).length ≤ 40
        rw [List.length_append, wBs_len]
        exact c2
      · rcases List.mem_append.mp (show q ∈ gTx g ++ wBs v x.toNatClampNeg from hq) with e | e
        · exact h2 q e
        · obtain ⟨i, _, rfl⟩ := List.mem_map.mp e
          exact Nat.mod_lt _ (by omega)
    · rw [if_neg c2]
      exact h
  · rw [if_neg c]
    exact h
theorem sg_lib (h : SgOk g) : SgOk (aLib g).2 := by
  obtain ⟨h1, h2, h3, h4, h5, h6, h7, h8, h9, h10, h11, h12, h13, h14, h15, h16, h17⟩ := id h
  unfold aLib
  cases e : RD (gTx g) with
  | inl q => exact h
  | inr X =>
    obtain ⟨lw, n, sh, cat, rds⟩ := X
    obtain ⟨r1, r2, r3, r4, r5, r6⟩ := RD_ok e
    refine ⟨h1, h2, r1, r2, r3, r6.1, r6.2, r5.1, r5.2.1, r5.2.2, ⟨r4.1, r4.2.2, fun b _ _ => ⟨rfl, rfl⟩, fun b hb hm => ?_⟩, Nat.zero_le _, fun k hk => absurd (show k ∈ ([] : List DK) from hk) (by simp), h14, h15, fun k hk => absurd (show (none : Option DK) = some k from hk) (by simp), fun k hk => absurd (show (none : Option DK) = some k from hk) (by simp)⟩
    exact absurd (cover_of r4.1 r4.2.2 (by have := r4.2.1; show n ≤ sh.length; omega) b hb) hm
end SGOK
