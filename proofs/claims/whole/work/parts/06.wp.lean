/-! rules of the mini machine -/
theorem mm_call_mono {call call' : CO} {C C' : CP} (hc : ∀ md as h mc ms R, call md as h mc ms R → call' md as h mc ms R) (hC : ∀ pc lv st h kc ks, C pc lv st h kc ks → C' pc lv st h kc ks) {md n pc : Nat} {lv : AL} {st : List AV} {h : AH} {kc ks : Nat} (hs : mm_call call C md n pc lv st h kc ks) : mm_call call' C' md n pc lv st h kc ks := by
  obtain ⟨h1, h2, mc, ms, R, h3, h4, h5, h6⟩ := hs
  exact ⟨h1, h2, mc, ms, R, h3, h4, hc _ _ _ _ _ _ h5, fun r h' hr => hC _ _ _ _ _ _ (h6 r h' hr)⟩
theorem mm_sw_mono {C C' : Nat → Prop} (hC : ∀ t, C t → C' t) (a : Int32) (d : Nat) : ∀ (ts : List Nat) (lo : Int32), mm_sw C a d lo ts → mm_sw C' a d lo ts
  | [], _, h => hC _ h
  | _ :: ts, _, h => ⟨fun e => hC _ (h.1 e), fun e => mm_sw_mono hC a d ts _ (h.2 e)⟩
set_option maxHeartbeats 4000000 in
theorem mm_step_mono {rw : Nat → Option RW} {rt : Option FieldType} {tb : Nat → Nat × (Nat → Int32)} {call call' : CO} {Q Q' : AQ} {C C' : CP} (hc : ∀ md as h mc ms R, call md as h mc ms R → call' md as h mc ms R) (hQ : ∀ r h, Q r h → Q' r h) (hC : ∀ pc lv st h kc ks, C pc lv st h kc ks → C' pc lv st h kc ks)
    {pc : Nat} {lv : AL} {st : List AV} {h : AH} {kc ks : Nat} (hs : mm_step rw rt tb call Q C pc lv st h kc ks) : mm_step rw rt tb call' Q' C' pc lv st h kc ks := by
  unfold mm_step at hs ⊢
  cases hrw : rw pc with
  | none => rw [hrw] at hs; exact hs
  | some q =>
    obtain ⟨ins, ln, r1, r2, x, y, ts, hh⟩ := q
    rw [hrw] at hs
    dsimp only at hs ⊢
    cases ins with
    | invokespecial i =>
      dsimp only at hs ⊢
      split
      · rename_i e
        rw [if_pos e] at hs
        split at hs <;> first | exact hs.elim | exact ⟨hs.1, hC _ _ _ _ _ _ hs.2⟩
      · rename_i e
        rw [if_neg e] at hs
        exact ⟨hs.1, mm_call_mono hc hC hs.2⟩
    | invokestatic i =>
      dsimp only at hs ⊢
      split
      · rename_i e
        rw [if_pos e] at hs
        split at hs
        · split at hs
          · obtain ⟨a1, a2, a3, a4, a5, a6, a7⟩ := hs
            exact ⟨a1, a2, a3, a4, a5, a6, hC _ _ _ _ _ _ a7⟩
          · exact hs.elim
        · exact hs.elim
      · rename_i e
        rw [if_neg e] at hs
        exact mm_call_mono hc hC hs
    | invokevirtual i => exact ⟨hs.1, mm_call_mono hc hC hs.2⟩
    | ireturn =>
      dsimp only at hs ⊢
      split at hs
      · exact ⟨hs.1, hQ _ _ hs.2⟩
      · exact hs.elim
    | lreturn =>
      dsimp only at hs ⊢
      split at hs
      · exact ⟨hs.1, hQ _ _ hs.2⟩
      · exact hs.elim
    | return_ =>
      dsimp only at hs ⊢
      split at hs
      · exact ⟨hs.1, hQ _ _ hs.2⟩
      · exact hs.elim
    | new i => exact ⟨hs.1, hs.2.1, hC _ _ _ _ _ _ hs.2.2⟩
    | tableswitch a b c d =>
      dsimp only at hs ⊢
      split at hs
      · exact ⟨hs.1, mm_sw_mono (fun t ht => hC _ _ _ _ _ _ ht) _ _ _ _ hs.2⟩
      · exact hs.elim
    | if_icmp cd o =>
      dsimp only at hs ⊢
      split at hs
      · cases cd <;> exact ⟨fun e => hC _ _ _ _ _ _ (hs.1 e), fun e => hC _ _ _ _ _ _ (hs.2 e)⟩
      · exact hs.elim
    | ifCond cd o =>
      dsimp only at hs ⊢
      split at hs
      · cases cd <;> exact ⟨fun e => hC _ _ _ _ _ _ (hs.1 e), fun e => hC _ _ _ _ _ _ (hs.2 e)⟩
      · exact hs.elim
    | getfield i =>
      dsimp only at hs ⊢
      split at hs
      · split at hs
        · obtain ⟨a1, a2⟩ := hs
          refine ⟨a1, ?_⟩
          split at a2
          · rename_i e2
            exact hC _ _ _ _ _ _ a2
          · exact a2.elim
        · exact hs.elim
      · exact hs.elim
    | putfield i =>
      dsimp only at hs ⊢
      split at hs
      · split at hs
        · exact ⟨hs.1, hs.2.1, hs.2.2.1, hC _ _ _ _ _ _ hs.2.2.2⟩
        · exact hs.elim
      · exact hs.elim
    | iaload =>
      dsimp only at hs ⊢
      split at hs
      · split at hs
        · exact ⟨hs.1, hC _ _ _ _ _ _ hs.2⟩
        · exact hs.elim
      · exact ⟨hs.1, hC _ _ _ _ _ _ hs.2⟩
      · exact hs.elim
    | baload =>
      dsimp only at hs ⊢
      split at hs
      · split at hs
        · exact ⟨hs.1, hC _ _ _ _ _ _ hs.2⟩
        · exact ⟨hs.1, hC _ _ _ _ _ _ hs.2⟩
        · exact hs.elim
      · exact hs.elim
    | aaload =>
      dsimp only at hs ⊢
      split at hs
      · split at hs
        · exact ⟨hs.1, hs.2.1, hC _ _ _ _ _ _ hs.2.2⟩
        · exact hs.elim
      · exact hs.elim
    | iastore =>
      dsimp only at hs ⊢
      split at hs
      · split at hs
        · exact ⟨hs.1, hC _ _ _ _ _ _ hs.2⟩
        · exact hs.elim
      · exact hs.elim
    | bastore =>
      dsimp only at hs ⊢
      split at hs
      · split at hs
        · exact ⟨hs.1, hC _ _ _ _ _ _ hs.2⟩
        · exact ⟨hs.1, hC _ _ _ _ _ _ hs.2⟩
        · exact hs.elim
      · exact hs.elim
    | aastore =>
      dsimp only at hs ⊢
      split at hs
      · split at hs
        · exact ⟨hs.1, hs.2.1, hs.2.2.1, hC _ _ _ _ _ _ hs.2.2.2⟩
        · exact hs.elim
      · exact hs.elim
    | arraylength =>
      dsimp only at hs ⊢
      split at hs
      · split at hs
        · exact hC _ _ _ _ _ _ hs
        · exact hC _ _ _ _ _ _ hs
        · exact hs.elim
      · exact hC _ _ _ _ _ _ hs
      · exact hs.elim
    | newarray ty =>
      dsimp only at hs ⊢
      split at hs
      · exact ⟨hs.1, hs.2.1, hs.2.2.1, hs.2.2.2.1, hC _ _ _ _ _ _ hs.2.2.2.2⟩
      · exact hs.elim
    | anewarray ty =>
      dsimp only at hs ⊢
      split at hs
      · exact ⟨hs.1, hs.2.1, hs.2.2.1, hs.2.2.2.1, hC _ _ _ _ _ _ hs.2.2.2.2⟩
      · exact hs.elim
    | dup2 =>
      dsimp only at hs ⊢
      split at hs
      · exact ⟨hs.1, hs.2.1, hC _ _ _ _ _ _ hs.2.2⟩
      · exact hs.elim
    | _ =>
      first
        | exact hs.elim
        | exact hC _ _ _ _ _ _ hs
        | (dsimp only at hs ⊢; split at hs <;> first | exact hs.elim | exact hC _ _ _ _ _ _ hs | exact ⟨hs.1, hC _ _ _ _ _ _ hs.2⟩)
section WPR
variable {rw : Nat → Option RW} {rt : Option FieldType} {tb : Nat → Nat × (Nat → Int32)} {call : CO} {Q : AQ} {pc : Nat} {lv : AL} {st : List AV} {h : AH} {kc ks : Nat}
theorem WP.step (hs : mm_step rw rt tb call Q (WP rw rt tb call Q) pc lv st h kc ks) : WP rw rt tb call Q pc lv st h kc ks :=
  fun C hC => hC.1 _ _ _ _ _ _ (mm_step_mono (fun _ _ _ _ _ _ z => z) (fun _ _ z => z) (fun _ _ _ _ _ _ z => z C hC) hs)
theorem WP.drop {lv' : AL} (hl : ∀ q ∈ lv', q ∈ lv) (hs : WP rw rt tb call Q pc lv' st h kc ks) : WP rw rt tb call Q pc lv st h kc ks :=
  fun C hC => hC.2 _ _ _ _ _ _ _ hl (hs C hC)
theorem WP.mono {call' : CO} {Q' : AQ} (hc : ∀ md as h mc ms R, call md as h mc ms R → call' md as h mc ms R) (hQ : ∀ r h, Q r h → Q' r h) (hs : WP rw rt tb call Q pc lv st h kc ks) : WP rw rt tb call' Q' pc lv st h kc ks :=
  fun C hC => hs C ⟨fun _ _ _ _ _ _ z => hC.1 _ _ _ _ _ _ (mm_step_mono hc hQ (fun _ _ _ _ _ _ z => z) z), hC.2⟩
end WPR
theorem WM.deeper (tb : Nat → Nat × (Nat → Int32)) : ∀ (d : Nat) (md : Nat) (as : List AV) (h : AH) (mc ms : Nat) (R : AQ), WM tb d md as h mc ms R → WM tb (d + 1) md as h mc ms R
  | 0, _, _, _, _, _, _, hs => False.elim hs
  | d + 1, _, _, _, _, _, _, hs => ⟨hs.1, hs.2.1, WP.mono (WM.deeper tb d) (fun _ _ z => z) hs.2.2⟩
theorem WM.le {tb : Nat → Nat × (Nat → Int32)} {d e : Nat} (hde : d ≤ e) {md : Nat} {as : List AV} {h : AH} {mc ms : Nat} {R : AQ} (hs : WM tb d md as h mc ms R) : WM tb e md as h mc ms R := by
  obtain ⟨k, rfl⟩ := Nat.le.dest hde
  induction k with
  | zero => exact hs
  | succ k ih => exact WM.deeper tb (d + k) _ _ _ _ _ _ (ih (by omega))
theorem WM.post {tb : Nat → Nat × (Nat → Int32)} {d : Nat} {md : Nat} {as : List AV} {h : AH} {mc ms : Nat} {R R' : AQ} (hs : WM tb d md as h mc ms R) (hR : ∀ r h', R r h' → R' r h') : WM tb d md as h mc ms R' := by
  cases d with
  | zero => exact hs.elim
  | succ d => exact ⟨hs.1, hs.2.1, WP.mono (fun _ _ _ _ _ _ z => z) hR hs.2.2⟩
