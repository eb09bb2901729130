/-! a promise over the mini machine is a contract of the machine -/
theorem mm_met (hok : ∀ mi ∈ mm_tab, mm_all mi = true) (l : Launch) (N0 : Nat) (sa : Nat → Nat) (ca : FieldType → ClassId) (D : va_G) (tb : Nat → Nat × (Nat → Int32)) : ∀ d : Nat, mm_Mets N0 sa ca D tb l d (WM tb d)
  | 0 => fun _ _ _ _ _ _ hw => False.elim hw
  | d + 1 => by
    intro md as h mc ms Q hw
    obtain ⟨hn, hsl, hw⟩ := hw
    have hall := hok _ (mm_mi_mem md)
    have hpl : plainName (mm_mi md).1.cls = true := by
      unfold mm_all at hall
      simp only [Bool.and_eq_true] at hall
      exact hall.2.1
    refine Met.ofW (cc := (mm_mi md).2.1) (maxL := (mm_mi md).2.2.1) (ret := (mm_mi md).2.2.2.1) hpl rfl ?_
    intro p e s m args below meth c s₁ B hml hv
    obtain ⟨rfl, hR, hG⟩ := hv
    have hx := B.exec
    have hb := B.bytes
    have hr := B.returns
    have hts := atoms_spec (ws := mm_ws (mm_mi md)) B.pre
    have hown : s.vm.findClass (mm_mi md).1.cls = some m.cls := findClass_of_methodNamed B.named
    have hlocks := B.notSynchronized
    have hin : meth.name = (mm_mi md).1.name := (name_of_methodNamed B.named B.method).1
    have X : mm_Ctx N0 sa ca D tb p (mm_rm (d + 1) mc ms) s m (as.map (mm_v N0 sa)).toArray meth c md (mm_ws (mm_mi md)) d := ⟨hx, hb, hml, hown, hts, fun w hw => List.mem_cons_of_mem _ hw, fun z => hin.trans z, hG, by have := hR.1; omega, Nat.le_refl _, Nat.le_refl _⟩
    rw [lg_entry_eq]
    have hl := lv_entry (as.map (mm_v N0 sa)) (n := (mm_mi md).2.2.1) (by rw [mm_sl_eq]; exact hsl)
    rw [mm_args_eq] at hl
    refine hw _ (mm_close (mc := mc) (ms := ms) hok X (Nat.le_refl _) (Nat.le_refl _) (mm_met hok l N0 sa ca D tb d) ?_ ?_ ?_) s.heap [] 0 0 _ hR va_S.rf hl (by omega) (by omega)
    · intro H locs cells slots ls pc v h hdg hrt hQ hR hS h1 h2
      refine W.widen (k := mc) (n := ms) h1 h2 ?_
      have hq : ∀ t : State, t.heap = H → s.WarmedH t.vm → mm_Q N0 sa ca D Q (as.map (mm_v N0 sa)).toArray s (.returned (some (.int v))) t := fun t ht _ => ⟨some (vI v), h, rfl, hQ, by rw [ht]; exact hR, hS.F ht⟩
      split at hrt
      · rename_i e1
        rw [e1] at hr
        exact W.zret hx hb hr (by rcases hrt with rfl | rfl <;> rfl) hq (fun q hq => hS.2.2 q hq) hdg
      · rename_i e1
        rw [e1] at hr
        exact W.zret hx hb hr rfl hq (fun q hq => hS.2.2 q hq) hdg
      · exact hrt.elim
    · intro H locs cells slots ls pc v h hdg hrt hQ hR hS h1 h2
      refine W.widen (k := mc) (n := ms) h1 h2 ?_
      rw [hrt] at hr
      exact W.lret hx hb hr (fun t ht _ => ⟨some (vL v), h, rfl, hQ, by rw [ht]; exact hR, hS.F ht⟩) (fun q hq => hS.2.2 q hq) hdg
    · intro H locs cells slots ls pc st h hdg hrt hst hQ hR hS h1 h2
      subst hst
      refine W.widen (k := mc) (n := ms) h1 h2 ?_
      rw [hrt] at hr
      exact W.vret hx hb hr (fun t ht _ => ⟨none, h, rfl, hQ, by rw [ht]; exact hR, hS.F ht⟩) (fun q hq => hS.2.2 q hq) hdg
