/-! the law: its rows -/
abbrev sp_160 : List Nat := [7, 15, 18, 197, 226, 235, 239, 248, 252, 261, 265, 279, 288, 307, 321, 340, 354, 368, 377, 396, 410, 424, 433, 442, 446, 465, 479, 493, 502, 521, 535, 559, 578, 592, 601, 620, 634, 643, 647, 661, 670, 689, 703, 712, 716, 725, 729, 743, 752, 761, 765, 807, 844, 874, 898, 918, 932, 946, 955, 969, 978, 992, 1001]
section G160
variable {tb : Nat → Nat × (Nat → Int32)} {call : CO} {Q : AQ} {C : CP} {lv : AL} {st : List AV} {h : AH} {kc ks : Nat}
theorem g160_0  : mm_step (mm_rw mr_160) (some .boolean) tb call Q C 0 lv st h kc ks = (1 ≤ kc ∧ mm_nf 7 ≤ ks ∧ C 3 lv (vR h.1 :: st) (mm_al h (cO 7 (mm_df 7))) (kc - 1) (ks - mm_nf 7)) := rfl
theorem g160_3 (v : AV) : mm_step (mm_rw mr_160) (some .boolean) tb call Q C 3 lv (v :: st) h kc ks = (mm_c2 v = false ∧ C 4 lv (v :: v :: st) h kc ks) := rfl
theorem g160_4  : mm_step (mm_rw mr_160) (some .boolean) tb call Q C 4 lv st h kc ks = ((match (st.take 1).reverse with
    | .inr (.inr (.inl (some _))) :: _ => True
    | _ => False) ∧ mm_call call C 54 1 4 lv st h kc ks) := rfl
theorem g160_7 (a : Nat) : mm_step (mm_rw mr_160) (some .boolean) tb call Q C 7 lv (.inr (.inr (.inl (some a))) :: st) h kc ks = (C 8 (mm_st1 lv 1 (vR a)) st h kc ks) := rfl
theorem g160_8  : mm_step (mm_rw mr_160) (some .boolean) tb call Q C 8 lv st h kc ks = (1 ≤ kc ∧ mm_nf 8 ≤ ks ∧ C 11 lv (vR h.1 :: st) (mm_al h (cO 8 (mm_df 8))) (kc - 1) (ks - mm_nf 8)) := rfl
theorem g160_11 (v : AV) : mm_step (mm_rw mr_160) (some .boolean) tb call Q C 11 lv (v :: st) h kc ks = (mm_c2 v = false ∧ C 12 lv (v :: v :: st) h kc ks) := rfl
theorem g160_12  : mm_step (mm_rw mr_160) (some .boolean) tb call Q C 12 lv st h kc ks = ((match (st.take 1).reverse with
    | .inr (.inr (.inl (some _))) :: _ => True
    | _ => False) ∧ mm_call call C 98 1 12 lv st h kc ks) := rfl
theorem g160_15 (a : Nat) : mm_step (mm_rw mr_160) (some .boolean) tb call Q C 15 lv (.inr (.inr (.inl (some a))) :: st) h kc ks = (C 16 (mm_st1 lv 2 (vR a)) st h kc ks) := rfl
theorem g160_16  : mm_step (mm_rw mr_160) (some .boolean) tb call Q C 16 lv st h kc ks = (C 17 lv (vI 0 :: st) h kc ks) := rfl
theorem g160_17 (a : Int32) : mm_step (mm_rw mr_160) (some .boolean) tb call Q C 17 lv (.inl a :: st) h kc ks = (C 18 (mm_st1 lv 3 (vI a)) st h kc ks) := rfl
theorem g160_18  : mm_step (mm_rw mr_160) (some .boolean) tb call Q C 18 lv st h kc ks = (match mm_rd lv 3 with
    | some (.inl a) => C 19 lv (vI a :: st) h kc ks
    | _ => False) := rfl
theorem g160_19  : mm_step (mm_rw mr_160) (some .boolean) tb call Q C 19 lv st h kc ks = (match mm_rd lv 0 with
    | some (.inr (.inr (.inl (some k)))) => C 20 lv (vR k :: st) h kc ks
    | some (.inr (.inr (.inr t))) => C 20 lv (vT t :: st) h kc ks
    | _ => False) := rfl
theorem g160_20 (k : Nat) : mm_step (mm_rw mr_160) (some .boolean) tb call Q C 20 lv (.inr (.inr (.inl (some k))) :: st) h kc ks = (match h.2 k with
    | some (.inl (.int, n, _)) => C 21 lv (vI (Int32.ofNat n) :: st) h kc ks
    | some (.inl (.byte, n, _)) => C 21 lv (vI (Int32.ofNat n) :: st) h kc ks
    | _ => False) := rfl
theorem g160_20t (t : Nat) : mm_step (mm_rw mr_160) (some .boolean) tb call Q C 20 lv (.inr (.inr (.inr t)) :: st) h kc ks = (C 21 lv (vI (Int32.ofNat (tb t).1) :: st) h kc ks) := rfl
theorem g160_21  : mm_step (mm_rw mr_160) (some .boolean) tb call Q C 21 lv st h kc ks = (C 23 lv (vI 6 :: st) h kc ks) := rfl
theorem g160_23 (a b : Int32) : mm_step (mm_rw mr_160) (some .boolean) tb call Q C 23 lv (.inl b :: .inl a :: st) h kc ks = (C 24 lv (vI (a - b) :: st) h kc ks) := rfl
theorem g160_24 (a b : Int32) : mm_step (mm_rw mr_160) (some .boolean) tb call Q C 24 lv (.inl b :: .inl a :: st) h kc ks = ((b < a → C 1012 lv st h kc ks) ∧ (¬ b < a → C 27 lv st h kc ks)) := rfl
theorem g160_27  : mm_step (mm_rw mr_160) (some .boolean) tb call Q C 27 lv st h kc ks = (match mm_rd lv 0 with
    | some (.inr (.inr (.inl (some k)))) => C 28 lv (vR k :: st) h kc ks
    | some (.inr (.inr (.inr t))) => C 28 lv (vT t :: st) h kc ks
    | _ => False) := rfl
theorem g160_28  : mm_step (mm_rw mr_160) (some .boolean) tb call Q C 28 lv st h kc ks = (match mm_rd lv 3 with
    | some (.inl a) => C 29 lv (vI a :: st) h kc ks
    | _ => False) := rfl
theorem g160_29 (i : Int32) (k : Nat) : mm_step (mm_rw mr_160) (some .boolean) tb call Q C 29 lv (.inl i :: .inr (.inr (.inl (some k))) :: st) h kc ks = (match h.2 k with
    | some (.inl (.int, n, f)) => vp_in i n ∧ C 30 lv (vI (f i.toNatClampNeg) :: st) h kc ks
    | _ => False) := rfl
theorem g160_29t (i : Int32) (t : Nat) : mm_step (mm_rw mr_160) (some .boolean) tb call Q C 29 lv (.inl i :: .inr (.inr (.inr t)) :: st) h kc ks = (vp_in i (tb t).1 ∧ C 30 lv (vI ((tb t).2 i.toNatClampNeg) :: st) h kc ks) := rfl
theorem g160_30  : mm_step (mm_rw mr_160) (some .boolean) tb call Q C 30 lv st h kc ks = (C 32 lv (vI 31 :: st) h kc ks) := rfl
theorem g160_32 (a b : Int32) : mm_step (mm_rw mr_160) (some .boolean) tb call Q C 32 lv (.inl b :: .inl a :: st) h kc ks = (C 33 lv (vI (a &&& b) :: st) h kc ks) := rfl
theorem g160_33 (a : Int32) : mm_step (mm_rw mr_160) (some .boolean) tb call Q C 33 lv (.inl a :: st) h kc ks = (([168, 231, 244, 257, 270, 293, 326, 359, 382, 415, 438, 451, 484, 507, 540, 583, 606, 639, 652, 675, 708, 721, 734, 757, 770, 850, 904, 937, 960, 983] : List Nat).length ≤ 1000 ∧ mm_sw (fun t => C t lv st h kc ks) a 1006 0 [168, 231, 244, 257, 270, 293, 326, 359, 382, 415, 438, 451, 484, 507, 540, 583, 606, 639, 652, 675, 708, 721, 734, 757, 770, 850, 904, 937, 960, 983]) := rfl
theorem g160_168  : mm_step (mm_rw mr_160) (some .boolean) tb call Q C 168 lv st h kc ks = (match mm_rd lv 1 with
    | some (.inr (.inr (.inl (some k)))) => C 169 lv (vR k :: st) h kc ks
    | some (.inr (.inr (.inr t))) => C 169 lv (vT t :: st) h kc ks
    | _ => False) := rfl
theorem g160_169  : mm_step (mm_rw mr_160) (some .boolean) tb call Q C 169 lv st h kc ks = (match mm_rd lv 0 with
    | some (.inr (.inr (.inl (some k)))) => C 170 lv (vR k :: st) h kc ks
    | some (.inr (.inr (.inr t))) => C 170 lv (vT t :: st) h kc ks
    | _ => False) := rfl
theorem g160_170  : mm_step (mm_rw mr_160) (some .boolean) tb call Q C 170 lv st h kc ks = (match mm_rd lv 3 with
    | some (.inl a) => C 171 lv (vI a :: st) h kc ks
    | _ => False) := rfl
theorem g160_171  : mm_step (mm_rw mr_160) (some .boolean) tb call Q C 171 lv st h kc ks = (C 172 lv (vI 1 :: st) h kc ks) := rfl
theorem g160_172 (a b : Int32) : mm_step (mm_rw mr_160) (some .boolean) tb call Q C 172 lv (.inl b :: .inl a :: st) h kc ks = (C 173 lv (vI (a + b) :: st) h kc ks) := rfl
theorem g160_173 (i : Int32) (k : Nat) : mm_step (mm_rw mr_160) (some .boolean) tb call Q C 173 lv (.inl i :: .inr (.inr (.inl (some k))) :: st) h kc ks = (match h.2 k with
    | some (.inl (.int, n, f)) => vp_in i n ∧ C 174 lv (vI (f i.toNatClampNeg) :: st) h kc ks
    | _ => False) := rfl
theorem g160_173t (i : Int32) (t : Nat) : mm_step (mm_rw mr_160) (some .boolean) tb call Q C 173 lv (.inl i :: .inr (.inr (.inr t)) :: st) h kc ks = (vp_in i (tb t).1 ∧ C 174 lv (vI ((tb t).2 i.toNatClampNeg) :: st) h kc ks) := rfl
theorem g160_174  : mm_step (mm_rw mr_160) (some .boolean) tb call Q C 174 lv st h kc ks = (match mm_rd lv 0 with
    | some (.inr (.inr (.inl (some k)))) => C 175 lv (vR k :: st) h kc ks
    | some (.inr (.inr (.inr t))) => C 175 lv (vT t :: st) h kc ks
    | _ => False) := rfl
theorem g160_175  : mm_step (mm_rw mr_160) (some .boolean) tb call Q C 175 lv st h kc ks = (match mm_rd lv 3 with
    | some (.inl a) => C 176 lv (vI a :: st) h kc ks
    | _ => False) := rfl
theorem g160_176  : mm_step (mm_rw mr_160) (some .boolean) tb call Q C 176 lv st h kc ks = (C 177 lv (vI 2 :: st) h kc ks) := rfl
theorem g160_177 (a b : Int32) : mm_step (mm_rw mr_160) (some .boolean) tb call Q C 177 lv (.inl b :: .inl a :: st) h kc ks = (C 178 lv (vI (a + b) :: st) h kc ks) := rfl
theorem g160_178 (i : Int32) (k : Nat) : mm_step (mm_rw mr_160) (some .boolean) tb call Q C 178 lv (.inl i :: .inr (.inr (.inl (some k))) :: st) h kc ks = (match h.2 k with
    | some (.inl (.int, n, f)) => vp_in i n ∧ C 179 lv (vI (f i.toNatClampNeg) :: st) h kc ks
    | _ => False) := rfl
theorem g160_178t (i : Int32) (t : Nat) : mm_step (mm_rw mr_160) (some .boolean) tb call Q C 178 lv (.inl i :: .inr (.inr (.inr t)) :: st) h kc ks = (vp_in i (tb t).1 ∧ C 179 lv (vI ((tb t).2 i.toNatClampNeg) :: st) h kc ks) := rfl
theorem g160_179 (a : Int32) : mm_step (mm_rw mr_160) (some .boolean) tb call Q C 179 lv (.inl a :: st) h kc ks = (C 180 lv (vL a.toInt64 :: st) h kc ks) := rfl
theorem g160_180  : mm_step (mm_rw mr_160) (some .boolean) tb call Q C 180 lv st h kc ks = (C 182 lv (vI 32 :: st) h kc ks) := rfl
theorem g160_182 (a : Int64) (b : Int32) : mm_step (mm_rw mr_160) (some .boolean) tb call Q C 182 lv (.inl b :: .inr (.inl a) :: st) h kc ks = (C 183 lv (vL (a <<< (b.toInt64 &&& 63)) :: st) h kc ks) := rfl
theorem g160_183  : mm_step (mm_rw mr_160) (some .boolean) tb call Q C 183 lv st h kc ks = (match mm_rd lv 0 with
    | some (.inr (.inr (.inl (some k)))) => C 184 lv (vR k :: st) h kc ks
    | some (.inr (.inr (.inr t))) => C 184 lv (vT t :: st) h kc ks
    | _ => False) := rfl
theorem g160_184  : mm_step (mm_rw mr_160) (some .boolean) tb call Q C 184 lv st h kc ks = (match mm_rd lv 3 with
    | some (.inl a) => C 185 lv (vI a :: st) h kc ks
    | _ => False) := rfl
theorem g160_185  : mm_step (mm_rw mr_160) (some .boolean) tb call Q C 185 lv st h kc ks = (C 186 lv (vI 3 :: st) h kc ks) := rfl
theorem g160_186 (a b : Int32) : mm_step (mm_rw mr_160) (some .boolean) tb call Q C 186 lv (.inl b :: .inl a :: st) h kc ks = (C 187 lv (vI (a + b) :: st) h kc ks) := rfl
theorem g160_187 (i : Int32) (k : Nat) : mm_step (mm_rw mr_160) (some .boolean) tb call Q C 187 lv (.inl i :: .inr (.inr (.inl (some k))) :: st) h kc ks = (match h.2 k with
    | some (.inl (.int, n, f)) => vp_in i n ∧ C 188 lv (vI (f i.toNatClampNeg) :: st) h kc ks
    | _ => False) := rfl
theorem g160_187t (i : Int32) (t : Nat) : mm_step (mm_rw mr_160) (some .boolean) tb call Q C 187 lv (.inl i :: .inr (.inr (.inr t)) :: st) h kc ks = (vp_in i (tb t).1 ∧ C 188 lv (vI ((tb t).2 i.toNatClampNeg) :: st) h kc ks) := rfl
theorem g160_188 (a : Int32) : mm_step (mm_rw mr_160) (some .boolean) tb call Q C 188 lv (.inl a :: st) h kc ks = (C 189 lv (vL a.toInt64 :: st) h kc ks) := rfl
theorem g160_189  : mm_step (mm_rw mr_160) (some .boolean) tb call Q C 189 lv st h kc ks = (C 192 lv (vL 4294967295 :: st) h kc ks) := rfl
theorem g160_192 (a b : Int64) : mm_step (mm_rw mr_160) (some .boolean) tb call Q C 192 lv (.inr (.inl b) :: .inr (.inl a) :: st) h kc ks = (C 193 lv (vL (a &&& b) :: st) h kc ks) := rfl
theorem g160_193 (a b : Int64) : mm_step (mm_rw mr_160) (some .boolean) tb call Q C 193 lv (.inr (.inl b) :: .inr (.inl a) :: st) h kc ks = (C 194 lv (vL (a ||| b) :: st) h kc ks) := rfl
theorem g160_194  : mm_step (mm_rw mr_160) (some .boolean) tb call Q C 194 lv st h kc ks = ((match (st.take 3).reverse with
    | .inr (.inr (.inl (some k))) :: _ => (match h.2 k with
      | some (.inr (.inr (ci, _))) => mm_cn ci = (mm_mi 55).1.cls
      | _ => False)
    | _ => False) ∧ mm_call call C 55 3 194 lv st h kc ks) := rfl
theorem g160_197  : mm_step (mm_rw mr_160) (some .boolean) tb call Q C 197 lv st h kc ks = (match mm_rd lv 2 with
    | some (.inr (.inr (.inl (some k)))) => C 198 lv (vR k :: st) h kc ks
    | some (.inr (.inr (.inr t))) => C 198 lv (vT t :: st) h kc ks
    | _ => False) := rfl
theorem g160_198  : mm_step (mm_rw mr_160) (some .boolean) tb call Q C 198 lv st h kc ks = (match mm_rd lv 0 with
    | some (.inr (.inr (.inl (some k)))) => C 199 lv (vR k :: st) h kc ks
    | some (.inr (.inr (.inr t))) => C 199 lv (vT t :: st) h kc ks
    | _ => False) := rfl
theorem g160_199  : mm_step (mm_rw mr_160) (some .boolean) tb call Q C 199 lv st h kc ks = (match mm_rd lv 3 with
    | some (.inl a) => C 200 lv (vI a :: st) h kc ks
    | _ => False) := rfl
theorem g160_200  : mm_step (mm_rw mr_160) (some .boolean) tb call Q C 200 lv st h kc ks = (C 201 lv (vI 1 :: st) h kc ks) := rfl
theorem g160_201 (a b : Int32) : mm_step (mm_rw mr_160) (some .boolean) tb call Q C 201 lv (.inl b :: .inl a :: st) h kc ks = (C 202 lv (vI (a + b) :: st) h kc ks) := rfl
theorem g160_202 (i : Int32) (k : Nat) : mm_step (mm_rw mr_160) (some .boolean) tb call Q C 202 lv (.inl i :: .inr (.inr (.inl (some k))) :: st) h kc ks = (match h.2 k with
    | some (.inl (.int, n, f)) => vp_in i n ∧ C 203 lv (vI (f i.toNatClampNeg) :: st) h kc ks
    | _ => False) := rfl
theorem g160_202t (i : Int32) (t : Nat) : mm_step (mm_rw mr_160) (some .boolean) tb call Q C 202 lv (.inl i :: .inr (.inr (.inr t)) :: st) h kc ks = (vp_in i (tb t).1 ∧ C 203 lv (vI ((tb t).2 i.toNatClampNeg) :: st) h kc ks) := rfl
theorem g160_203  : mm_step (mm_rw mr_160) (some .boolean) tb call Q C 203 lv st h kc ks = (match mm_rd lv 0 with
    | some (.inr (.inr (.inl (some k)))) => C 204 lv (vR k :: st) h kc ks
    | some (.inr (.inr (.inr t))) => C 204 lv (vT t :: st) h kc ks
    | _ => False) := rfl
theorem g160_204  : mm_step (mm_rw mr_160) (some .boolean) tb call Q C 204 lv st h kc ks = (match mm_rd lv 3 with
    | some (.inl a) => C 205 lv (vI a :: st) h kc ks
    | _ => False) := rfl
theorem g160_205  : mm_step (mm_rw mr_160) (some .boolean) tb call Q C 205 lv st h kc ks = (C 206 lv (vI 2 :: st) h kc ks) := rfl
theorem g160_206 (a b : Int32) : mm_step (mm_rw mr_160) (some .boolean) tb call Q C 206 lv (.inl b :: .inl a :: st) h kc ks = (C 207 lv (vI (a + b) :: st) h kc ks) := rfl
theorem g160_207 (i : Int32) (k : Nat) : mm_step (mm_rw mr_160) (some .boolean) tb call Q C 207 lv (.inl i :: .inr (.inr (.inl (some k))) :: st) h kc ks = (match h.2 k with
    | some (.inl (.int, n, f)) => vp_in i n ∧ C 208 lv (vI (f i.toNatClampNeg) :: st) h kc ks
    | _ => False) := rfl
theorem g160_207t (i : Int32) (t : Nat) : mm_step (mm_rw mr_160) (some .boolean) tb call Q C 207 lv (.inl i :: .inr (.inr (.inr t)) :: st) h kc ks = (vp_in i (tb t).1 ∧ C 208 lv (vI ((tb t).2 i.toNatClampNeg) :: st) h kc ks) := rfl
theorem g160_208 (a : Int32) : mm_step (mm_rw mr_160) (some .boolean) tb call Q C 208 lv (.inl a :: st) h kc ks = (C 209 lv (vL a.toInt64 :: st) h kc ks) := rfl
theorem g160_209  : mm_step (mm_rw mr_160) (some .boolean) tb call Q C 209 lv st h kc ks = (C 211 lv (vI 32 :: st) h kc ks) := rfl
theorem g160_211 (a : Int64) (b : Int32) : mm_step (mm_rw mr_160) (some .boolean) tb call Q C 211 lv (.inl b :: .inr (.inl a) :: st) h kc ks = (C 212 lv (vL (a <<< (b.toInt64 &&& 63)) :: st) h kc ks) := rfl
theorem g160_212  : mm_step (mm_rw mr_160) (some .boolean) tb call Q C 212 lv st h kc ks = (match mm_rd lv 0 with
    | some (.inr (.inr (.inl (some k)))) => C 213 lv (vR k :: st) h kc ks
    | some (.inr (.inr (.inr t))) => C 213 lv (vT t :: st) h kc ks
    | _ => False) := rfl
theorem g160_213  : mm_step (mm_rw mr_160) (some .boolean) tb call Q C 213 lv st h kc ks = (match mm_rd lv 3 with
    | some (.inl a) => C 214 lv (vI a :: st) h kc ks
    | _ => False) := rfl
theorem g160_214  : mm_step (mm_rw mr_160) (some .boolean) tb call Q C 214 lv st h kc ks = (C 215 lv (vI 3 :: st) h kc ks) := rfl
theorem g160_215 (a b : Int32) : mm_step (mm_rw mr_160) (some .boolean) tb call Q C 215 lv (.inl b :: .inl a :: st) h kc ks = (C 216 lv (vI (a + b) :: st) h kc ks) := rfl
theorem g160_216 (i : Int32) (k : Nat) : mm_step (mm_rw mr_160) (some .boolean) tb call Q C 216 lv (.inl i :: .inr (.inr (.inl (some k))) :: st) h kc ks = (match h.2 k with
    | some (.inl (.int, n, f)) => vp_in i n ∧ C 217 lv (vI (f i.toNatClampNeg) :: st) h kc ks
    | _ => False) := rfl
theorem g160_216t (i : Int32) (t : Nat) : mm_step (mm_rw mr_160) (some .boolean) tb call Q C 216 lv (.inl i :: .inr (.inr (.inr t)) :: st) h kc ks = (vp_in i (tb t).1 ∧ C 217 lv (vI ((tb t).2 i.toNatClampNeg) :: st) h kc ks) := rfl
theorem g160_217 (a : Int32) : mm_step (mm_rw mr_160) (some .boolean) tb call Q C 217 lv (.inl a :: st) h kc ks = (C 218 lv (vL a.toInt64 :: st) h kc ks) := rfl
theorem g160_218  : mm_step (mm_rw mr_160) (some .boolean) tb call Q C 218 lv st h kc ks = (C 221 lv (vL 4294967295 :: st) h kc ks) := rfl
theorem g160_221 (a b : Int64) : mm_step (mm_rw mr_160) (some .boolean) tb call Q C 221 lv (.inr (.inl b) :: .inr (.inl a) :: st) h kc ks = (C 222 lv (vL (a &&& b) :: st) h kc ks) := rfl
theorem g160_222 (a b : Int64) : mm_step (mm_rw mr_160) (some .boolean) tb call Q C 222 lv (.inr (.inl b) :: .inr (.inl a) :: st) h kc ks = (C 223 lv (vL (a ||| b) :: st) h kc ks) := rfl
theorem g160_223  : mm_step (mm_rw mr_160) (some .boolean) tb call Q C 223 lv st h kc ks = ((match (st.take 3).reverse with
    | .inr (.inr (.inl (some k))) :: _ => (match h.2 k with
      | some (.inr (.inr (ci, _))) => mm_cn ci = (mm_mi 100).1.cls
      | _ => False)
    | _ => False) ∧ mm_call call C 100 3 223 lv st h kc ks) := rfl
theorem g160_226 (a b : Int32) : mm_step (mm_rw mr_160) (some .boolean) tb call Q C 226 lv (.inl b :: .inl a :: st) h kc ks = ((a = b → C 1006 lv st h kc ks) ∧ (¬ a = b → C 229 lv st h kc ks)) := rfl
theorem g160_229  : mm_step (mm_rw mr_160) (some .boolean) tb call Q C 229 lv st h kc ks = (C 230 lv (vI 0 :: st) h kc ks) := rfl
theorem g160_230 (v : Int32) : mm_step (mm_rw mr_160) (some .boolean) tb call Q C 230 lv [.inl v] h kc ks = ((v = 0 ∨ v = 1) ∧ Q (some (vI v)) h) := rfl
theorem g160_231  : mm_step (mm_rw mr_160) (some .boolean) tb call Q C 231 lv st h kc ks = (match mm_rd lv 1 with
    | some (.inr (.inr (.inl (some k)))) => C 232 lv (vR k :: st) h kc ks
    | some (.inr (.inr (.inr t))) => C 232 lv (vT t :: st) h kc ks
    | _ => False) := rfl
theorem g160_232  : mm_step (mm_rw mr_160) (some .boolean) tb call Q C 232 lv st h kc ks = ((match (st.take 1).reverse with
    | .inr (.inr (.inl (some k))) :: _ => (match h.2 k with
      | some (.inr (.inr (ci, _))) => mm_cn ci = (mm_mi 56).1.cls
      | _ => False)
    | _ => False) ∧ mm_call call C 56 1 232 lv st h kc ks) := rfl
theorem g160_235  : mm_step (mm_rw mr_160) (some .boolean) tb call Q C 235 lv st h kc ks = (match mm_rd lv 2 with
    | some (.inr (.inr (.inl (some k)))) => C 236 lv (vR k :: st) h kc ks
    | some (.inr (.inr (.inr t))) => C 236 lv (vT t :: st) h kc ks
    | _ => False) := rfl
theorem g160_236  : mm_step (mm_rw mr_160) (some .boolean) tb call Q C 236 lv st h kc ks = ((match (st.take 1).reverse with
    | .inr (.inr (.inl (some k))) :: _ => (match h.2 k with
      | some (.inr (.inr (ci, _))) => mm_cn ci = (mm_mi 101).1.cls
      | _ => False)
    | _ => False) ∧ mm_call call C 101 1 236 lv st h kc ks) := rfl
theorem g160_239 (a b : Int32) : mm_step (mm_rw mr_160) (some .boolean) tb call Q C 239 lv (.inl b :: .inl a :: st) h kc ks = ((a = b → C 1006 lv st h kc ks) ∧ (¬ a = b → C 242 lv st h kc ks)) := rfl
theorem g160_242  : mm_step (mm_rw mr_160) (some .boolean) tb call Q C 242 lv st h kc ks = (C 243 lv (vI 0 :: st) h kc ks) := rfl
theorem g160_243 (v : Int32) : mm_step (mm_rw mr_160) (some .boolean) tb call Q C 243 lv [.inl v] h kc ks = ((v = 0 ∨ v = 1) ∧ Q (some (vI v)) h) := rfl
theorem g160_244  : mm_step (mm_rw mr_160) (some .boolean) tb call Q C 244 lv st h kc ks = (match mm_rd lv 1 with
    | some (.inr (.inr (.inl (some k)))) => C 245 lv (vR k :: st) h kc ks
    | some (.inr (.inr (.inr t))) => C 245 lv (vT t :: st) h kc ks
    | _ => False) := rfl
theorem g160_245  : mm_step (mm_rw mr_160) (some .boolean) tb call Q C 245 lv st h kc ks = ((match (st.take 1).reverse with
    | .inr (.inr (.inl (some k))) :: _ => (match h.2 k with
      | some (.inr (.inr (ci, _))) => mm_cn ci = (mm_mi 57).1.cls
      | _ => False)
    | _ => False) ∧ mm_call call C 57 1 245 lv st h kc ks) := rfl
theorem g160_248  : mm_step (mm_rw mr_160) (some .boolean) tb call Q C 248 lv st h kc ks = (match mm_rd lv 2 with
    | some (.inr (.inr (.inl (some k)))) => C 249 lv (vR k :: st) h kc ks
    | some (.inr (.inr (.inr t))) => C 249 lv (vT t :: st) h kc ks
    | _ => False) := rfl
theorem g160_249  : mm_step (mm_rw mr_160) (some .boolean) tb call Q C 249 lv st h kc ks = ((match (st.take 1).reverse with
    | .inr (.inr (.inl (some k))) :: _ => (match h.2 k with
      | some (.inr (.inr (ci, _))) => mm_cn ci = (mm_mi 105).1.cls
      | _ => False)
    | _ => False) ∧ mm_call call C 105 1 249 lv st h kc ks) := rfl
theorem g160_252 (a b : Int32) : mm_step (mm_rw mr_160) (some .boolean) tb call Q C 252 lv (.inl b :: .inl a :: st) h kc ks = ((a = b → C 1006 lv st h kc ks) ∧ (¬ a = b → C 255 lv st h kc ks)) := rfl
theorem g160_255  : mm_step (mm_rw mr_160) (some .boolean) tb call Q C 255 lv st h kc ks = (C 256 lv (vI 0 :: st) h kc ks) := rfl
theorem g160_256 (v : Int32) : mm_step (mm_rw mr_160) (some .boolean) tb call Q C 256 lv [.inl v] h kc ks = ((v = 0 ∨ v = 1) ∧ Q (some (vI v)) h) := rfl
theorem g160_257  : mm_step (mm_rw mr_160) (some .boolean) tb call Q C 257 lv st h kc ks = (match mm_rd lv 1 with
    | some (.inr (.inr (.inl (some k)))) => C 258 lv (vR k :: st) h kc ks
    | some (.inr (.inr (.inr t))) => C 258 lv (vT t :: st) h kc ks
    | _ => False) := rfl
theorem g160_258  : mm_step (mm_rw mr_160) (some .boolean) tb call Q C 258 lv st h kc ks = ((match (st.take 1).reverse with
    | .inr (.inr (.inl (some k))) :: _ => (match h.2 k with
      | some (.inr (.inr (ci, _))) => mm_cn ci = (mm_mi 58).1.cls
      | _ => False)
    | _ => False) ∧ mm_call call C 58 1 258 lv st h kc ks) := rfl
theorem g160_261  : mm_step (mm_rw mr_160) (some .boolean) tb call Q C 261 lv st h kc ks = (match mm_rd lv 2 with
    | some (.inr (.inr (.inl (some k)))) => C 262 lv (vR k :: st) h kc ks
    | some (.inr (.inr (.inr t))) => C 262 lv (vT t :: st) h kc ks
    | _ => False) := rfl
theorem g160_262  : mm_step (mm_rw mr_160) (some .boolean) tb call Q C 262 lv st h kc ks = ((match (st.take 1).reverse with
    | .inr (.inr (.inl (some k))) :: _ => (match h.2 k with
      | some (.inr (.inr (ci, _))) => mm_cn ci = (mm_mi 106).1.cls
      | _ => False)
    | _ => False) ∧ mm_call call C 106 1 262 lv st h kc ks) := rfl
theorem g160_265 (a b : Int32) : mm_step (mm_rw mr_160) (some .boolean) tb call Q C 265 lv (.inl b :: .inl a :: st) h kc ks = ((a = b → C 1006 lv st h kc ks) ∧ (¬ a = b → C 268 lv st h kc ks)) := rfl
theorem g160_268  : mm_step (mm_rw mr_160) (some .boolean) tb call Q C 268 lv st h kc ks = (C 269 lv (vI 0 :: st) h kc ks) := rfl
theorem g160_269 (v : Int32) : mm_step (mm_rw mr_160) (some .boolean) tb call Q C 269 lv [.inl v] h kc ks = ((v = 0 ∨ v = 1) ∧ Q (some (vI v)) h) := rfl
theorem g160_270  : mm_step (mm_rw mr_160) (some .boolean) tb call Q C 270 lv st h kc ks = (match mm_rd lv 1 with
    | some (.inr (.inr (.inl (some k)))) => C 271 lv (vR k :: st) h kc ks
    | some (.inr (.inr (.inr t))) => C 271 lv (vT t :: st) h kc ks
    | _ => False) := rfl
theorem g160_271  : mm_step (mm_rw mr_160) (some .boolean) tb call Q C 271 lv st h kc ks = (match mm_rd lv 0 with
    | some (.inr (.inr (.inl (some k)))) => C 272 lv (vR k :: st) h kc ks
    | some (.inr (.inr (.inr t))) => C 272 lv (vT t :: st) h kc ks
    | _ => False) := rfl
theorem g160_272  : mm_step (mm_rw mr_160) (some .boolean) tb call Q C 272 lv st h kc ks = (match mm_rd lv 3 with
    | some (.inl a) => C 273 lv (vI a :: st) h kc ks
    | _ => False) := rfl
theorem g160_273  : mm_step (mm_rw mr_160) (some .boolean) tb call Q C 273 lv st h kc ks = (C 274 lv (vI 1 :: st) h kc ks) := rfl
theorem g160_274 (a b : Int32) : mm_step (mm_rw mr_160) (some .boolean) tb call Q C 274 lv (.inl b :: .inl a :: st) h kc ks = (C 275 lv (vI (a + b) :: st) h kc ks) := rfl
theorem g160_275 (i : Int32) (k : Nat) : mm_step (mm_rw mr_160) (some .boolean) tb call Q C 275 lv (.inl i :: .inr (.inr (.inl (some k))) :: st) h kc ks = (match h.2 k with
    | some (.inl (.int, n, f)) => vp_in i n ∧ C 276 lv (vI (f i.toNatClampNeg) :: st) h kc ks
    | _ => False) := rfl
theorem g160_275t (i : Int32) (t : Nat) : mm_step (mm_rw mr_160) (some .boolean) tb call Q C 275 lv (.inl i :: .inr (.inr (.inr t)) :: st) h kc ks = (vp_in i (tb t).1 ∧ C 276 lv (vI ((tb t).2 i.toNatClampNeg) :: st) h kc ks) := rfl
theorem g160_276  : mm_step (mm_rw mr_160) (some .boolean) tb call Q C 276 lv st h kc ks = ((match (st.take 2).reverse with
    | .inr (.inr (.inl (some k))) :: _ => (match h.2 k with
      | some (.inr (.inr (ci, _))) => mm_cn ci = (mm_mi 59).1.cls
      | _ => False)
    | _ => False) ∧ mm_call call C 59 2 276 lv st h kc ks) := rfl
theorem g160_279  : mm_step (mm_rw mr_160) (some .boolean) tb call Q C 279 lv st h kc ks = (match mm_rd lv 2 with
    | some (.inr (.inr (.inl (some k)))) => C 280 lv (vR k :: st) h kc ks
    | some (.inr (.inr (.inr t))) => C 280 lv (vT t :: st) h kc ks
    | _ => False) := rfl
theorem g160_280  : mm_step (mm_rw mr_160) (some .boolean) tb call Q C 280 lv st h kc ks = (match mm_rd lv 0 with
    | some (.inr (.inr (.inl (some k)))) => C 281 lv (vR k :: st) h kc ks
    | some (.inr (.inr (.inr t))) => C 281 lv (vT t :: st) h kc ks
    | _ => False) := rfl
theorem g160_281  : mm_step (mm_rw mr_160) (some .boolean) tb call Q C 281 lv st h kc ks = (match mm_rd lv 3 with
    | some (.inl a) => C 282 lv (vI a :: st) h kc ks
    | _ => False) := rfl
theorem g160_282  : mm_step (mm_rw mr_160) (some .boolean) tb call Q C 282 lv st h kc ks = (C 283 lv (vI 1 :: st) h kc ks) := rfl
theorem g160_283 (a b : Int32) : mm_step (mm_rw mr_160) (some .boolean) tb call Q C 283 lv (.inl b :: .inl a :: st) h kc ks = (C 284 lv (vI (a + b) :: st) h kc ks) := rfl
theorem g160_284 (i : Int32) (k : Nat) : mm_step (mm_rw mr_160) (some .boolean) tb call Q C 284 lv (.inl i :: .inr (.inr (.inl (some k))) :: st) h kc ks = (match h.2 k with
    | some (.inl (.int, n, f)) => vp_in i n ∧ C 285 lv (vI (f i.toNatClampNeg) :: st) h kc ks
    | _ => False) := rfl
theorem g160_284t (i : Int32) (t : Nat) : mm_step (mm_rw mr_160) (some .boolean) tb call Q C 284 lv (.inl i :: .inr (.inr (.inr t)) :: st) h kc ks = (vp_in i (tb t).1 ∧ C 285 lv (vI ((tb t).2 i.toNatClampNeg) :: st) h kc ks) := rfl
theorem g160_285  : mm_step (mm_rw mr_160) (some .boolean) tb call Q C 285 lv st h kc ks = ((match (st.take 2).reverse with
    | .inr (.inr (.inl (some k))) :: _ => (match h.2 k with
      | some (.inr (.inr (ci, _))) => mm_cn ci = (mm_mi 111).1.cls
      | _ => False)
    | _ => False) ∧ mm_call call C 111 2 285 lv st h kc ks) := rfl
theorem g160_288 (a b : Int32) : mm_step (mm_rw mr_160) (some .boolean) tb call Q C 288 lv (.inl b :: .inl a :: st) h kc ks = ((a = b → C 1006 lv st h kc ks) ∧ (¬ a = b → C 291 lv st h kc ks)) := rfl
theorem g160_291  : mm_step (mm_rw mr_160) (some .boolean) tb call Q C 291 lv st h kc ks = (C 292 lv (vI 0 :: st) h kc ks) := rfl
theorem g160_292 (v : Int32) : mm_step (mm_rw mr_160) (some .boolean) tb call Q C 292 lv [.inl v] h kc ks = ((v = 0 ∨ v = 1) ∧ Q (some (vI v)) h) := rfl
theorem g160_293  : mm_step (mm_rw mr_160) (some .boolean) tb call Q C 293 lv st h kc ks = (match mm_rd lv 1 with
    | some (.inr (.inr (.inl (some k)))) => C 294 lv (vR k :: st) h kc ks
    | some (.inr (.inr (.inr t))) => C 294 lv (vT t :: st) h kc ks
    | _ => False) := rfl
theorem g160_294  : mm_step (mm_rw mr_160) (some .boolean) tb call Q C 294 lv st h kc ks = (match mm_rd lv 0 with
    | some (.inr (.inr (.inl (some k)))) => C 295 lv (vR k :: st) h kc ks
    | some (.inr (.inr (.inr t))) => C 295 lv (vT t :: st) h kc ks
    | _ => False) := rfl
theorem g160_295  : mm_step (mm_rw mr_160) (some .boolean) tb call Q C 295 lv st h kc ks = (match mm_rd lv 3 with
    | some (.inl a) => C 296 lv (vI a :: st) h kc ks
    | _ => False) := rfl
theorem g160_296  : mm_step (mm_rw mr_160) (some .boolean) tb call Q C 296 lv st h kc ks = (C 297 lv (vI 1 :: st) h kc ks) := rfl
theorem g160_297 (a b : Int32) : mm_step (mm_rw mr_160) (some .boolean) tb call Q C 297 lv (.inl b :: .inl a :: st) h kc ks = (C 298 lv (vI (a + b) :: st) h kc ks) := rfl
theorem g160_298 (i : Int32) (k : Nat) : mm_step (mm_rw mr_160) (some .boolean) tb call Q C 298 lv (.inl i :: .inr (.inr (.inl (some k))) :: st) h kc ks = (match h.2 k with
    | some (.inl (.int, n, f)) => vp_in i n ∧ C 299 lv (vI (f i.toNatClampNeg) :: st) h kc ks
    | _ => False) := rfl
theorem g160_298t (i : Int32) (t : Nat) : mm_step (mm_rw mr_160) (some .boolean) tb call Q C 298 lv (.inl i :: .inr (.inr (.inr t)) :: st) h kc ks = (vp_in i (tb t).1 ∧ C 299 lv (vI ((tb t).2 i.toNatClampNeg) :: st) h kc ks) := rfl
theorem g160_299  : mm_step (mm_rw mr_160) (some .boolean) tb call Q C 299 lv st h kc ks = (match mm_rd lv 0 with
    | some (.inr (.inr (.inl (some k)))) => C 300 lv (vR k :: st) h kc ks
    | some (.inr (.inr (.inr t))) => C 300 lv (vT t :: st) h kc ks
    | _ => False) := rfl
theorem g160_300  : mm_step (mm_rw mr_160) (some .boolean) tb call Q C 300 lv st h kc ks = (match mm_rd lv 3 with
    | some (.inl a) => C 301 lv (vI a :: st) h kc ks
    | _ => False) := rfl
theorem g160_301  : mm_step (mm_rw mr_160) (some .boolean) tb call Q C 301 lv st h kc ks = (C 302 lv (vI 2 :: st) h kc ks) := rfl
theorem g160_302 (a b : Int32) : mm_step (mm_rw mr_160) (some .boolean) tb call Q C 302 lv (.inl b :: .inl a :: st) h kc ks = (C 303 lv (vI (a + b) :: st) h kc ks) := rfl
theorem g160_303 (i : Int32) (k : Nat) : mm_step (mm_rw mr_160) (some .boolean) tb call Q C 303 lv (.inl i :: .inr (.inr (.inl (some k))) :: st) h kc ks = (match h.2 k with
    | some (.inl (.int, n, f)) => vp_in i n ∧ C 304 lv (vI (f i.toNatClampNeg) :: st) h kc ks
    | _ => False) := rfl
theorem g160_303t (i : Int32) (t : Nat) : mm_step (mm_rw mr_160) (some .boolean) tb call Q C 303 lv (.inl i :: .inr (.inr (.inr t)) :: st) h kc ks = (vp_in i (tb t).1 ∧ C 304 lv (vI ((tb t).2 i.toNatClampNeg) :: st) h kc ks) := rfl
theorem g160_304  : mm_step (mm_rw mr_160) (some .boolean) tb call Q C 304 lv st h kc ks = ((match (st.take 3).reverse with
    | .inr (.inr (.inl (some k))) :: _ => (match h.2 k with
      | some (.inr (.inr (ci, _))) => mm_cn ci = (mm_mi 60).1.cls
      | _ => False)
    | _ => False) ∧ mm_call call C 60 3 304 lv st h kc ks) := rfl
theorem g160_307  : mm_step (mm_rw mr_160) (some .boolean) tb call Q C 307 lv st h kc ks = (match mm_rd lv 2 with
    | some (.inr (.inr (.inl (some k)))) => C 308 lv (vR k :: st) h kc ks
    | some (.inr (.inr (.inr t))) => C 308 lv (vT t :: st) h kc ks
    | _ => False) := rfl
theorem g160_308  : mm_step (mm_rw mr_160) (some .boolean) tb call Q C 308 lv st h kc ks = (match mm_rd lv 0 with
    | some (.inr (.inr (.inl (some k)))) => C 309 lv (vR k :: st) h kc ks
    | some (.inr (.inr (.inr t))) => C 309 lv (vT t :: st) h kc ks
    | _ => False) := rfl
theorem g160_309  : mm_step (mm_rw mr_160) (some .boolean) tb call Q C 309 lv st h kc ks = (match mm_rd lv 3 with
    | some (.inl a) => C 310 lv (vI a :: st) h kc ks
    | _ => False) := rfl
theorem g160_310  : mm_step (mm_rw mr_160) (some .boolean) tb call Q C 310 lv st h kc ks = (C 311 lv (vI 1 :: st) h kc ks) := rfl
theorem g160_311 (a b : Int32) : mm_step (mm_rw mr_160) (some .boolean) tb call Q C 311 lv (.inl b :: .inl a :: st) h kc ks = (C 312 lv (vI (a + b) :: st) h kc ks) := rfl
theorem g160_312 (i : Int32) (k : Nat) : mm_step (mm_rw mr_160) (some .boolean) tb call Q C 312 lv (.inl i :: .inr (.inr (.inl (some k))) :: st) h kc ks = (match h.2 k with
    | some (.inl (.int, n, f)) => vp_in i n ∧ C 313 lv (vI (f i.toNatClampNeg) :: st) h kc ks
    | _ => False) := rfl
theorem g160_312t (i : Int32) (t : Nat) : mm_step (mm_rw mr_160) (some .boolean) tb call Q C 312 lv (.inl i :: .inr (.inr (.inr t)) :: st) h kc ks = (vp_in i (tb t).1 ∧ C 313 lv (vI ((tb t).2 i.toNatClampNeg) :: st) h kc ks) := rfl
theorem g160_313  : mm_step (mm_rw mr_160) (some .boolean) tb call Q C 313 lv st h kc ks = (match mm_rd lv 0 with
    | some (.inr (.inr (.inl (some k)))) => C 314 lv (vR k :: st) h kc ks
    | some (.inr (.inr (.inr t))) => C 314 lv (vT t :: st) h kc ks
    | _ => False) := rfl
theorem g160_314  : mm_step (mm_rw mr_160) (some .boolean) tb call Q C 314 lv st h kc ks = (match mm_rd lv 3 with
    | some (.inl a) => C 315 lv (vI a :: st) h kc ks
    | _ => False) := rfl
theorem g160_315  : mm_step (mm_rw mr_160) (some .boolean) tb call Q C 315 lv st h kc ks = (C 316 lv (vI 2 :: st) h kc ks) := rfl
theorem g160_316 (a b : Int32) : mm_step (mm_rw mr_160) (some .boolean) tb call Q C 316 lv (.inl b :: .inl a :: st) h kc ks = (C 317 lv (vI (a + b) :: st) h kc ks) := rfl
theorem g160_317 (i : Int32) (k : Nat) : mm_step (mm_rw mr_160) (some .boolean) tb call Q C 317 lv (.inl i :: .inr (.inr (.inl (some k))) :: st) h kc ks = (match h.2 k with
    | some (.inl (.int, n, f)) => vp_in i n ∧ C 318 lv (vI (f i.toNatClampNeg) :: st) h kc ks
    | _ => False) := rfl
theorem g160_317t (i : Int32) (t : Nat) : mm_step (mm_rw mr_160) (some .boolean) tb call Q C 317 lv (.inl i :: .inr (.inr (.inr t)) :: st) h kc ks = (vp_in i (tb t).1 ∧ C 318 lv (vI ((tb t).2 i.toNatClampNeg) :: st) h kc ks) := rfl
theorem g160_318  : mm_step (mm_rw mr_160) (some .boolean) tb call Q C 318 lv st h kc ks = ((match (st.take 3).reverse with
    | .inr (.inr (.inl (some k))) :: _ => (match h.2 k with
      | some (.inr (.inr (ci, _))) => mm_cn ci = (mm_mi 112).1.cls
      | _ => False)
    | _ => False) ∧ mm_call call C 112 3 318 lv st h kc ks) := rfl
theorem g160_321 (a b : Int32) : mm_step (mm_rw mr_160) (some .boolean) tb call Q C 321 lv (.inl b :: .inl a :: st) h kc ks = ((a = b → C 1006 lv st h kc ks) ∧ (¬ a = b → C 324 lv st h kc ks)) := rfl
theorem g160_324  : mm_step (mm_rw mr_160) (some .boolean) tb call Q C 324 lv st h kc ks = (C 325 lv (vI 0 :: st) h kc ks) := rfl
theorem g160_325 (v : Int32) : mm_step (mm_rw mr_160) (some .boolean) tb call Q C 325 lv [.inl v] h kc ks = ((v = 0 ∨ v = 1) ∧ Q (some (vI v)) h) := rfl
theorem g160_326  : mm_step (mm_rw mr_160) (some .boolean) tb call Q C 326 lv st h kc ks = (match mm_rd lv 1 with
    | some (.inr (.inr (.inl (some k)))) => C 327 lv (vR k :: st) h kc ks
    | some (.inr (.inr (.inr t))) => C 327 lv (vT t :: st) h kc ks
    | _ => False) := rfl
theorem g160_327  : mm_step (mm_rw mr_160) (some .boolean) tb call Q C 327 lv st h kc ks = (match mm_rd lv 0 with
    | some (.inr (.inr (.inl (some k)))) => C 328 lv (vR k :: st) h kc ks
    | some (.inr (.inr (.inr t))) => C 328 lv (vT t :: st) h kc ks
    | _ => False) := rfl
theorem g160_328  : mm_step (mm_rw mr_160) (some .boolean) tb call Q C 328 lv st h kc ks = (match mm_rd lv 3 with
    | some (.inl a) => C 329 lv (vI a :: st) h kc ks
    | _ => False) := rfl
theorem g160_329  : mm_step (mm_rw mr_160) (some .boolean) tb call Q C 329 lv st h kc ks = (C 330 lv (vI 1 :: st) h kc ks) := rfl
theorem g160_330 (a b : Int32) : mm_step (mm_rw mr_160) (some .boolean) tb call Q C 330 lv (.inl b :: .inl a :: st) h kc ks = (C 331 lv (vI (a + b) :: st) h kc ks) := rfl
theorem g160_331 (i : Int32) (k : Nat) : mm_step (mm_rw mr_160) (some .boolean) tb call Q C 331 lv (.inl i :: .inr (.inr (.inl (some k))) :: st) h kc ks = (match h.2 k with
    | some (.inl (.int, n, f)) => vp_in i n ∧ C 332 lv (vI (f i.toNatClampNeg) :: st) h kc ks
    | _ => False) := rfl
theorem g160_331t (i : Int32) (t : Nat) : mm_step (mm_rw mr_160) (some .boolean) tb call Q C 331 lv (.inl i :: .inr (.inr (.inr t)) :: st) h kc ks = (vp_in i (tb t).1 ∧ C 332 lv (vI ((tb t).2 i.toNatClampNeg) :: st) h kc ks) := rfl
theorem g160_332  : mm_step (mm_rw mr_160) (some .boolean) tb call Q C 332 lv st h kc ks = (match mm_rd lv 0 with
    | some (.inr (.inr (.inl (some k)))) => C 333 lv (vR k :: st) h kc ks
    | some (.inr (.inr (.inr t))) => C 333 lv (vT t :: st) h kc ks
    | _ => False) := rfl
theorem g160_333  : mm_step (mm_rw mr_160) (some .boolean) tb call Q C 333 lv st h kc ks = (match mm_rd lv 3 with
    | some (.inl a) => C 334 lv (vI a :: st) h kc ks
    | _ => False) := rfl
theorem g160_334  : mm_step (mm_rw mr_160) (some .boolean) tb call Q C 334 lv st h kc ks = (C 335 lv (vI 2 :: st) h kc ks) := rfl
theorem g160_335 (a b : Int32) : mm_step (mm_rw mr_160) (some .boolean) tb call Q C 335 lv (.inl b :: .inl a :: st) h kc ks = (C 336 lv (vI (a + b) :: st) h kc ks) := rfl
theorem g160_336 (i : Int32) (k : Nat) : mm_step (mm_rw mr_160) (some .boolean) tb call Q C 336 lv (.inl i :: .inr (.inr (.inl (some k))) :: st) h kc ks = (match h.2 k with
    | some (.inl (.int, n, f)) => vp_in i n ∧ C 337 lv (vI (f i.toNatClampNeg) :: st) h kc ks
    | _ => False) := rfl
theorem g160_336t (i : Int32) (t : Nat) : mm_step (mm_rw mr_160) (some .boolean) tb call Q C 336 lv (.inl i :: .inr (.inr (.inr t)) :: st) h kc ks = (vp_in i (tb t).1 ∧ C 337 lv (vI ((tb t).2 i.toNatClampNeg) :: st) h kc ks) := rfl
theorem g160_337  : mm_step (mm_rw mr_160) (some .boolean) tb call Q C 337 lv st h kc ks = ((match (st.take 3).reverse with
    | .inr (.inr (.inl (some k))) :: _ => (match h.2 k with
      | some (.inr (.inr (ci, _))) => mm_cn ci = (mm_mi 61).1.cls
      | _ => False)
    | _ => False) ∧ mm_call call C 61 3 337 lv st h kc ks) := rfl
theorem g160_340  : mm_step (mm_rw mr_160) (some .boolean) tb call Q C 340 lv st h kc ks = (match mm_rd lv 2 with
    | some (.inr (.inr (.inl (some k)))) => C 341 lv (vR k :: st) h kc ks
    | some (.inr (.inr (.inr t))) => C 341 lv (vT t :: st) h kc ks
    | _ => False) := rfl
theorem g160_341  : mm_step (mm_rw mr_160) (some .boolean) tb call Q C 341 lv st h kc ks = (match mm_rd lv 0 with
    | some (.inr (.inr (.inl (some k)))) => C 342 lv (vR k :: st) h kc ks
    | some (.inr (.inr (.inr t))) => C 342 lv (vT t :: st) h kc ks
    | _ => False) := rfl
theorem g160_342  : mm_step (mm_rw mr_160) (some .boolean) tb call Q C 342 lv st h kc ks = (match mm_rd lv 3 with
    | some (.inl a) => C 343 lv (vI a :: st) h kc ks
    | _ => False) := rfl
theorem g160_343  : mm_step (mm_rw mr_160) (some .boolean) tb call Q C 343 lv st h kc ks = (C 344 lv (vI 1 :: st) h kc ks) := rfl
theorem g160_344 (a b : Int32) : mm_step (mm_rw mr_160) (some .boolean) tb call Q C 344 lv (.inl b :: .inl a :: st) h kc ks = (C 345 lv (vI (a + b) :: st) h kc ks) := rfl
theorem g160_345 (i : Int32) (k : Nat) : mm_step (mm_rw mr_160) (some .boolean) tb call Q C 345 lv (.inl i :: .inr (.inr (.inl (some k))) :: st) h kc ks = (match h.2 k with
    | some (.inl (.int, n, f)) => vp_in i n ∧ C 346 lv (vI (f i.toNatClampNeg) :: st) h kc ks
    | _ => False) := rfl
theorem g160_345t (i : Int32) (t : Nat) : mm_step (mm_rw mr_160) (some .boolean) tb call Q C 345 lv (.inl i :: .inr (.inr (.inr t)) :: st) h kc ks = (vp_in i (tb t).1 ∧ C 346 lv (vI ((tb t).2 i.toNatClampNeg) :: st) h kc ks) := rfl
theorem g160_346  : mm_step (mm_rw mr_160) (some .boolean) tb call Q C 346 lv st h kc ks = (match mm_rd lv 0 with
    | some (.inr (.inr (.inl (some k)))) => C 347 lv (vR k :: st) h kc ks
    | some (.inr (.inr (.inr t))) => C 347 lv (vT t :: st) h kc ks
    | _ => False) := rfl
theorem g160_347  : mm_step (mm_rw mr_160) (some .boolean) tb call Q C 347 lv st h kc ks = (match mm_rd lv 3 with
    | some (.inl a) => C 348 lv (vI a :: st) h kc ks
    | _ => False) := rfl
theorem g160_348  : mm_step (mm_rw mr_160) (some .boolean) tb call Q C 348 lv st h kc ks = (C 349 lv (vI 2 :: st) h kc ks) := rfl
theorem g160_349 (a b : Int32) : mm_step (mm_rw mr_160) (some .boolean) tb call Q C 349 lv (.inl b :: .inl a :: st) h kc ks = (C 350 lv (vI (a + b) :: st) h kc ks) := rfl
theorem g160_350 (i : Int32) (k : Nat) : mm_step (mm_rw mr_160) (some .boolean) tb call Q C 350 lv (.inl i :: .inr (.inr (.inl (some k))) :: st) h kc ks = (match h.2 k with
    | some (.inl (.int, n, f)) => vp_in i n ∧ C 351 lv (vI (f i.toNatClampNeg) :: st) h kc ks
    | _ => False) := rfl
theorem g160_350t (i : Int32) (t : Nat) : mm_step (mm_rw mr_160) (some .boolean) tb call Q C 350 lv (.inl i :: .inr (.inr (.inr t)) :: st) h kc ks = (vp_in i (tb t).1 ∧ C 351 lv (vI ((tb t).2 i.toNatClampNeg) :: st) h kc ks) := rfl
theorem g160_351  : mm_step (mm_rw mr_160) (some .boolean) tb call Q C 351 lv st h kc ks = ((match (st.take 3).reverse with
    | .inr (.inr (.inl (some k))) :: _ => (match h.2 k with
      | some (.inr (.inr (ci, _))) => mm_cn ci = (mm_mi 114).1.cls
      | _ => False)
    | _ => False) ∧ mm_call call C 114 3 351 lv st h kc ks) := rfl
theorem g160_354 (a b : Int32) : mm_step (mm_rw mr_160) (some .boolean) tb call Q C 354 lv (.inl b :: .inl a :: st) h kc ks = ((a = b → C 1006 lv st h kc ks) ∧ (¬ a = b → C 357 lv st h kc ks)) := rfl
theorem g160_357  : mm_step (mm_rw mr_160) (some .boolean) tb call Q C 357 lv st h kc ks = (C 358 lv (vI 0 :: st) h kc ks) := rfl
theorem g160_358 (v : Int32) : mm_step (mm_rw mr_160) (some .boolean) tb call Q C 358 lv [.inl v] h kc ks = ((v = 0 ∨ v = 1) ∧ Q (some (vI v)) h) := rfl
theorem g160_359  : mm_step (mm_rw mr_160) (some .boolean) tb call Q C 359 lv st h kc ks = (match mm_rd lv 1 with
    | some (.inr (.inr (.inl (some k)))) => C 360 lv (vR k :: st) h kc ks
    | some (.inr (.inr (.inr t))) => C 360 lv (vT t :: st) h kc ks
    | _ => False) := rfl
theorem g160_360  : mm_step (mm_rw mr_160) (some .boolean) tb call Q C 360 lv st h kc ks = (match mm_rd lv 0 with
    | some (.inr (.inr (.inl (some k)))) => C 361 lv (vR k :: st) h kc ks
    | some (.inr (.inr (.inr t))) => C 361 lv (vT t :: st) h kc ks
    | _ => False) := rfl
theorem g160_361  : mm_step (mm_rw mr_160) (some .boolean) tb call Q C 361 lv st h kc ks = (match mm_rd lv 3 with
    | some (.inl a) => C 362 lv (vI a :: st) h kc ks
    | _ => False) := rfl
theorem g160_362  : mm_step (mm_rw mr_160) (some .boolean) tb call Q C 362 lv st h kc ks = (C 363 lv (vI 1 :: st) h kc ks) := rfl
theorem g160_363 (a b : Int32) : mm_step (mm_rw mr_160) (some .boolean) tb call Q C 363 lv (.inl b :: .inl a :: st) h kc ks = (C 364 lv (vI (a + b) :: st) h kc ks) := rfl
theorem g160_364 (i : Int32) (k : Nat) : mm_step (mm_rw mr_160) (some .boolean) tb call Q C 364 lv (.inl i :: .inr (.inr (.inl (some k))) :: st) h kc ks = (match h.2 k with
    | some (.inl (.int, n, f)) => vp_in i n ∧ C 365 lv (vI (f i.toNatClampNeg) :: st) h kc ks
    | _ => False) := rfl
theorem g160_364t (i : Int32) (t : Nat) : mm_step (mm_rw mr_160) (some .boolean) tb call Q C 364 lv (.inl i :: .inr (.inr (.inr t)) :: st) h kc ks = (vp_in i (tb t).1 ∧ C 365 lv (vI ((tb t).2 i.toNatClampNeg) :: st) h kc ks) := rfl
theorem g160_365  : mm_step (mm_rw mr_160) (some .boolean) tb call Q C 365 lv st h kc ks = ((match (st.take 2).reverse with
    | .inr (.inr (.inl (some k))) :: _ => (match h.2 k with
      | some (.inr (.inr (ci, _))) => mm_cn ci = (mm_mi 62).1.cls
      | _ => False)
    | _ => False) ∧ mm_call call C 62 2 365 lv st h kc ks) := rfl
theorem g160_368  : mm_step (mm_rw mr_160) (some .boolean) tb call Q C 368 lv st h kc ks = (match mm_rd lv 2 with
    | some (.inr (.inr (.inl (some k)))) => C 369 lv (vR k :: st) h kc ks
    | some (.inr (.inr (.inr t))) => C 369 lv (vT t :: st) h kc ks
    | _ => False) := rfl
theorem g160_369  : mm_step (mm_rw mr_160) (some .boolean) tb call Q C 369 lv st h kc ks = (match mm_rd lv 0 with
    | some (.inr (.inr (.inl (some k)))) => C 370 lv (vR k :: st) h kc ks
    | some (.inr (.inr (.inr t))) => C 370 lv (vT t :: st) h kc ks
    | _ => False) := rfl
theorem g160_370  : mm_step (mm_rw mr_160) (some .boolean) tb call Q C 370 lv st h kc ks = (match mm_rd lv 3 with
    | some (.inl a) => C 371 lv (vI a :: st) h kc ks
    | _ => False) := rfl
theorem g160_371  : mm_step (mm_rw mr_160) (some .boolean) tb call Q C 371 lv st h kc ks = (C 372 lv (vI 1 :: st) h kc ks) := rfl
theorem g160_372 (a b : Int32) : mm_step (mm_rw mr_160) (some .boolean) tb call Q C 372 lv (.inl b :: .inl a :: st) h kc ks = (C 373 lv (vI (a + b) :: st) h kc ks) := rfl
theorem g160_373 (i : Int32) (k : Nat) : mm_step (mm_rw mr_160) (some .boolean) tb call Q C 373 lv (.inl i :: .inr (.inr (.inl (some k))) :: st) h kc ks = (match h.2 k with
    | some (.inl (.int, n, f)) => vp_in i n ∧ C 374 lv (vI (f i.toNatClampNeg) :: st) h kc ks
    | _ => False) := rfl
theorem g160_373t (i : Int32) (t : Nat) : mm_step (mm_rw mr_160) (some .boolean) tb call Q C 373 lv (.inl i :: .inr (.inr (.inr t)) :: st) h kc ks = (vp_in i (tb t).1 ∧ C 374 lv (vI ((tb t).2 i.toNatClampNeg) :: st) h kc ks) := rfl
theorem g160_374  : mm_step (mm_rw mr_160) (some .boolean) tb call Q C 374 lv st h kc ks = ((match (st.take 2).reverse with
    | .inr (.inr (.inl (some k))) :: _ => (match h.2 k with
      | some (.inr (.inr (ci, _))) => mm_cn ci = (mm_mi 115).1.cls
      | _ => False)
    | _ => False) ∧ mm_call call C 115 2 374 lv st h kc ks) := rfl
theorem g160_377 (a b : Int32) : mm_step (mm_rw mr_160) (some .boolean) tb call Q C 377 lv (.inl b :: .inl a :: st) h kc ks = ((a = b → C 1006 lv st h kc ks) ∧ (¬ a = b → C 380 lv st h kc ks)) := rfl
theorem g160_380  : mm_step (mm_rw mr_160) (some .boolean) tb call Q C 380 lv st h kc ks = (C 381 lv (vI 0 :: st) h kc ks) := rfl
theorem g160_381 (v : Int32) : mm_step (mm_rw mr_160) (some .boolean) tb call Q C 381 lv [.inl v] h kc ks = ((v = 0 ∨ v = 1) ∧ Q (some (vI v)) h) := rfl
theorem g160_382  : mm_step (mm_rw mr_160) (some .boolean) tb call Q C 382 lv st h kc ks = (match mm_rd lv 1 with
    | some (.inr (.inr (.inl (some k)))) => C 383 lv (vR k :: st) h kc ks
    | some (.inr (.inr (.inr t))) => C 383 lv (vT t :: st) h kc ks
    | _ => False) := rfl
theorem g160_383  : mm_step (mm_rw mr_160) (some .boolean) tb call Q C 383 lv st h kc ks = (match mm_rd lv 0 with
    | some (.inr (.inr (.inl (some k)))) => C 384 lv (vR k :: st) h kc ks
    | some (.inr (.inr (.inr t))) => C 384 lv (vT t :: st) h kc ks
    | _ => False) := rfl
theorem g160_384  : mm_step (mm_rw mr_160) (some .boolean) tb call Q C 384 lv st h kc ks = (match mm_rd lv 3 with
    | some (.inl a) => C 385 lv (vI a :: st) h kc ks
    | _ => False) := rfl
theorem g160_385  : mm_step (mm_rw mr_160) (some .boolean) tb call Q C 385 lv st h kc ks = (C 386 lv (vI 1 :: st) h kc ks) := rfl
theorem g160_386 (a b : Int32) : mm_step (mm_rw mr_160) (some .boolean) tb call Q C 386 lv (.inl b :: .inl a :: st) h kc ks = (C 387 lv (vI (a + b) :: st) h kc ks) := rfl
theorem g160_387 (i : Int32) (k : Nat) : mm_step (mm_rw mr_160) (some .boolean) tb call Q C 387 lv (.inl i :: .inr (.inr (.inl (some k))) :: st) h kc ks = (match h.2 k with
    | some (.inl (.int, n, f)) => vp_in i n ∧ C 388 lv (vI (f i.toNatClampNeg) :: st) h kc ks
    | _ => False) := rfl
theorem g160_387t (i : Int32) (t : Nat) : mm_step (mm_rw mr_160) (some .boolean) tb call Q C 387 lv (.inl i :: .inr (.inr (.inr t)) :: st) h kc ks = (vp_in i (tb t).1 ∧ C 388 lv (vI ((tb t).2 i.toNatClampNeg) :: st) h kc ks) := rfl
theorem g160_388  : mm_step (mm_rw mr_160) (some .boolean) tb call Q C 388 lv st h kc ks = (match mm_rd lv 0 with
    | some (.inr (.inr (.inl (some k)))) => C 389 lv (vR k :: st) h kc ks
    | some (.inr (.inr (.inr t))) => C 389 lv (vT t :: st) h kc ks
    | _ => False) := rfl
theorem g160_389  : mm_step (mm_rw mr_160) (some .boolean) tb call Q C 389 lv st h kc ks = (match mm_rd lv 3 with
    | some (.inl a) => C 390 lv (vI a :: st) h kc ks
    | _ => False) := rfl
theorem g160_390  : mm_step (mm_rw mr_160) (some .boolean) tb call Q C 390 lv st h kc ks = (C 391 lv (vI 2 :: st) h kc ks) := rfl
theorem g160_391 (a b : Int32) : mm_step (mm_rw mr_160) (some .boolean) tb call Q C 391 lv (.inl b :: .inl a :: st) h kc ks = (C 392 lv (vI (a + b) :: st) h kc ks) := rfl
theorem g160_392 (i : Int32) (k : Nat) : mm_step (mm_rw mr_160) (some .boolean) tb call Q C 392 lv (.inl i :: .inr (.inr (.inl (some k))) :: st) h kc ks = (match h.2 k with
    | some (.inl (.int, n, f)) => vp_in i n ∧ C 393 lv (vI (f i.toNatClampNeg) :: st) h kc ks
    | _ => False) := rfl
theorem g160_392t (i : Int32) (t : Nat) : mm_step (mm_rw mr_160) (some .boolean) tb call Q C 392 lv (.inl i :: .inr (.inr (.inr t)) :: st) h kc ks = (vp_in i (tb t).1 ∧ C 393 lv (vI ((tb t).2 i.toNatClampNeg) :: st) h kc ks) := rfl
theorem g160_393  : mm_step (mm_rw mr_160) (some .boolean) tb call Q C 393 lv st h kc ks = ((match (st.take 3).reverse with
    | .inr (.inr (.inl (some k))) :: _ => (match h.2 k with
      | some (.inr (.inr (ci, _))) => mm_cn ci = (mm_mi 63).1.cls
      | _ => False)
    | _ => False) ∧ mm_call call C 63 3 393 lv st h kc ks) := rfl
theorem g160_396  : mm_step (mm_rw mr_160) (some .boolean) tb call Q C 396 lv st h kc ks = (match mm_rd lv 2 with
    | some (.inr (.inr (.inl (some k)))) => C 397 lv (vR k :: st) h kc ks
    | some (.inr (.inr (.inr t))) => C 397 lv (vT t :: st) h kc ks
    | _ => False) := rfl
theorem g160_397  : mm_step (mm_rw mr_160) (some .boolean) tb call Q C 397 lv st h kc ks = (match mm_rd lv 0 with
    | some (.inr (.inr (.inl (some k)))) => C 398 lv (vR k :: st) h kc ks
    | some (.inr (.inr (.inr t))) => C 398 lv (vT t :: st) h kc ks
    | _ => False) := rfl
theorem g160_398  : mm_step (mm_rw mr_160) (some .boolean) tb call Q C 398 lv st h kc ks = (match mm_rd lv 3 with
    | some (.inl a) => C 399 lv (vI a :: st) h kc ks
    | _ => False) := rfl
theorem g160_399  : mm_step (mm_rw mr_160) (some .boolean) tb call Q C 399 lv st h kc ks = (C 400 lv (vI 1 :: st) h kc ks) := rfl
theorem g160_400 (a b : Int32) : mm_step (mm_rw mr_160) (some .boolean) tb call Q C 400 lv (.inl b :: .inl a :: st) h kc ks = (C 401 lv (vI (a + b) :: st) h kc ks) := rfl
theorem g160_401 (i : Int32) (k : Nat) : mm_step (mm_rw mr_160) (some .boolean) tb call Q C 401 lv (.inl i :: .inr (.inr (.inl (some k))) :: st) h kc ks = (match h.2 k with
    | some (.inl (.int, n, f)) => vp_in i n ∧ C 402 lv (vI (f i.toNatClampNeg) :: st) h kc ks
    | _ => False) := rfl
theorem g160_401t (i : Int32) (t : Nat) : mm_step (mm_rw mr_160) (some .boolean) tb call Q C 401 lv (.inl i :: .inr (.inr (.inr t)) :: st) h kc ks = (vp_in i (tb t).1 ∧ C 402 lv (vI ((tb t).2 i.toNatClampNeg) :: st) h kc ks) := rfl
theorem g160_402  : mm_step (mm_rw mr_160) (some .boolean) tb call Q C 402 lv st h kc ks = (match mm_rd lv 0 with
    | some (.inr (.inr (.inl (some k)))) => C 403 lv (vR k :: st) h kc ks
    | some (.inr (.inr (.inr t))) => C 403 lv (vT t :: st) h kc ks
    | _ => False) := rfl
theorem g160_403  : mm_step (mm_rw mr_160) (some .boolean) tb call Q C 403 lv st h kc ks = (match mm_rd lv 3 with
    | some (.inl a) => C 404 lv (vI a :: st) h kc ks
    | _ => False) := rfl
theorem g160_404  : mm_step (mm_rw mr_160) (some .boolean) tb call Q C 404 lv st h kc ks = (C 405 lv (vI 2 :: st) h kc ks) := rfl
theorem g160_405 (a b : Int32) : mm_step (mm_rw mr_160) (some .boolean) tb call Q C 405 lv (.inl b :: .inl a :: st) h kc ks = (C 406 lv (vI (a + b) :: st) h kc ks) := rfl
theorem g160_406 (i : Int32) (k : Nat) : mm_step (mm_rw mr_160) (some .boolean) tb call Q C 406 lv (.inl i :: .inr (.inr (.inl (some k))) :: st) h kc ks = (match h.2 k with
    | some (.inl (.int, n, f)) => vp_in i n ∧ C 407 lv (vI (f i.toNatClampNeg) :: st) h kc ks
    | _ => False) := rfl
theorem g160_406t (i : Int32) (t : Nat) : mm_step (mm_rw mr_160) (some .boolean) tb call Q C 406 lv (.inl i :: .inr (.inr (.inr t)) :: st) h kc ks = (vp_in i (tb t).1 ∧ C 407 lv (vI ((tb t).2 i.toNatClampNeg) :: st) h kc ks) := rfl
theorem g160_407  : mm_step (mm_rw mr_160) (some .boolean) tb call Q C 407 lv st h kc ks = ((match (st.take 3).reverse with
    | .inr (.inr (.inl (some k))) :: _ => (match h.2 k with
      | some (.inr (.inr (ci, _))) => mm_cn ci = (mm_mi 120).1.cls
      | _ => False)
    | _ => False) ∧ mm_call call C 120 3 407 lv st h kc ks) := rfl
theorem g160_410 (a b : Int32) : mm_step (mm_rw mr_160) (some .boolean) tb call Q C 410 lv (.inl b :: .inl a :: st) h kc ks = ((a = b → C 1006 lv st h kc ks) ∧ (¬ a = b → C 413 lv st h kc ks)) := rfl
theorem g160_413  : mm_step (mm_rw mr_160) (some .boolean) tb call Q C 413 lv st h kc ks = (C 414 lv (vI 0 :: st) h kc ks) := rfl
theorem g160_414 (v : Int32) : mm_step (mm_rw mr_160) (some .boolean) tb call Q C 414 lv [.inl v] h kc ks = ((v = 0 ∨ v = 1) ∧ Q (some (vI v)) h) := rfl
theorem g160_415  : mm_step (mm_rw mr_160) (some .boolean) tb call Q C 415 lv st h kc ks = (match mm_rd lv 1 with
    | some (.inr (.inr (.inl (some k)))) => C 416 lv (vR k :: st) h kc ks
    | some (.inr (.inr (.inr t))) => C 416 lv (vT t :: st) h kc ks
    | _ => False) := rfl
theorem g160_416  : mm_step (mm_rw mr_160) (some .boolean) tb call Q C 416 lv st h kc ks = (match mm_rd lv 0 with
    | some (.inr (.inr (.inl (some k)))) => C 417 lv (vR k :: st) h kc ks
    | some (.inr (.inr (.inr t))) => C 417 lv (vT t :: st) h kc ks
    | _ => False) := rfl
theorem g160_417  : mm_step (mm_rw mr_160) (some .boolean) tb call Q C 417 lv st h kc ks = (match mm_rd lv 3 with
    | some (.inl a) => C 418 lv (vI a :: st) h kc ks
    | _ => False) := rfl
theorem g160_418  : mm_step (mm_rw mr_160) (some .boolean) tb call Q C 418 lv st h kc ks = (C 419 lv (vI 1 :: st) h kc ks) := rfl
theorem g160_419 (a b : Int32) : mm_step (mm_rw mr_160) (some .boolean) tb call Q C 419 lv (.inl b :: .inl a :: st) h kc ks = (C 420 lv (vI (a + b) :: st) h kc ks) := rfl
theorem g160_420 (i : Int32) (k : Nat) : mm_step (mm_rw mr_160) (some .boolean) tb call Q C 420 lv (.inl i :: .inr (.inr (.inl (some k))) :: st) h kc ks = (match h.2 k with
    | some (.inl (.int, n, f)) => vp_in i n ∧ C 421 lv (vI (f i.toNatClampNeg) :: st) h kc ks
    | _ => False) := rfl
theorem g160_420t (i : Int32) (t : Nat) : mm_step (mm_rw mr_160) (some .boolean) tb call Q C 420 lv (.inl i :: .inr (.inr (.inr t)) :: st) h kc ks = (vp_in i (tb t).1 ∧ C 421 lv (vI ((tb t).2 i.toNatClampNeg) :: st) h kc ks) := rfl
theorem g160_421  : mm_step (mm_rw mr_160) (some .boolean) tb call Q C 421 lv st h kc ks = ((match (st.take 2).reverse with
    | .inr (.inr (.inl (some k))) :: _ => (match h.2 k with
      | some (.inr (.inr (ci, _))) => mm_cn ci = (mm_mi 64).1.cls
      | _ => False)
    | _ => False) ∧ mm_call call C 64 2 421 lv st h kc ks) := rfl
theorem g160_424  : mm_step (mm_rw mr_160) (some .boolean) tb call Q C 424 lv st h kc ks = (match mm_rd lv 2 with
    | some (.inr (.inr (.inl (some k)))) => C 425 lv (vR k :: st) h kc ks
    | some (.inr (.inr (.inr t))) => C 425 lv (vT t :: st) h kc ks
    | _ => False) := rfl
theorem g160_425  : mm_step (mm_rw mr_160) (some .boolean) tb call Q C 425 lv st h kc ks = (match mm_rd lv 0 with
    | some (.inr (.inr (.inl (some k)))) => C 426 lv (vR k :: st) h kc ks
    | some (.inr (.inr (.inr t))) => C 426 lv (vT t :: st) h kc ks
    | _ => False) := rfl
theorem g160_426  : mm_step (mm_rw mr_160) (some .boolean) tb call Q C 426 lv st h kc ks = (match mm_rd lv 3 with
    | some (.inl a) => C 427 lv (vI a :: st) h kc ks
    | _ => False) := rfl
theorem g160_427  : mm_step (mm_rw mr_160) (some .boolean) tb call Q C 427 lv st h kc ks = (C 428 lv (vI 1 :: st) h kc ks) := rfl
theorem g160_428 (a b : Int32) : mm_step (mm_rw mr_160) (some .boolean) tb call Q C 428 lv (.inl b :: .inl a :: st) h kc ks = (C 429 lv (vI (a + b) :: st) h kc ks) := rfl
theorem g160_429 (i : Int32) (k : Nat) : mm_step (mm_rw mr_160) (some .boolean) tb call Q C 429 lv (.inl i :: .inr (.inr (.inl (some k))) :: st) h kc ks = (match h.2 k with
    | some (.inl (.int, n, f)) => vp_in i n ∧ C 430 lv (vI (f i.toNatClampNeg) :: st) h kc ks
    | _ => False) := rfl
theorem g160_429t (i : Int32) (t : Nat) : mm_step (mm_rw mr_160) (some .boolean) tb call Q C 429 lv (.inl i :: .inr (.inr (.inr t)) :: st) h kc ks = (vp_in i (tb t).1 ∧ C 430 lv (vI ((tb t).2 i.toNatClampNeg) :: st) h kc ks) := rfl
theorem g160_430  : mm_step (mm_rw mr_160) (some .boolean) tb call Q C 430 lv st h kc ks = ((match (st.take 2).reverse with
    | .inr (.inr (.inl (some k))) :: _ => (match h.2 k with
      | some (.inr (.inr (ci, _))) => mm_cn ci = (mm_mi 121).1.cls
      | _ => False)
    | _ => False) ∧ mm_call call C 121 2 430 lv st h kc ks) := rfl
theorem g160_433 (a b : Int32) : mm_step (mm_rw mr_160) (some .boolean) tb call Q C 433 lv (.inl b :: .inl a :: st) h kc ks = ((a = b → C 1006 lv st h kc ks) ∧ (¬ a = b → C 436 lv st h kc ks)) := rfl
theorem g160_436  : mm_step (mm_rw mr_160) (some .boolean) tb call Q C 436 lv st h kc ks = (C 437 lv (vI 0 :: st) h kc ks) := rfl
theorem g160_437 (v : Int32) : mm_step (mm_rw mr_160) (some .boolean) tb call Q C 437 lv [.inl v] h kc ks = ((v = 0 ∨ v = 1) ∧ Q (some (vI v)) h) := rfl
theorem g160_438  : mm_step (mm_rw mr_160) (some .boolean) tb call Q C 438 lv st h kc ks = (match mm_rd lv 1 with
    | some (.inr (.inr (.inl (some k)))) => C 439 lv (vR k :: st) h kc ks
    | some (.inr (.inr (.inr t))) => C 439 lv (vT t :: st) h kc ks
    | _ => False) := rfl
theorem g160_439  : mm_step (mm_rw mr_160) (some .boolean) tb call Q C 439 lv st h kc ks = ((match (st.take 1).reverse with
    | .inr (.inr (.inl (some k))) :: _ => (match h.2 k with
      | some (.inr (.inr (ci, _))) => mm_cn ci = (mm_mi 65).1.cls
      | _ => False)
    | _ => False) ∧ mm_call call C 65 1 439 lv st h kc ks) := rfl
theorem g160_442  : mm_step (mm_rw mr_160) (some .boolean) tb call Q C 442 lv st h kc ks = (match mm_rd lv 2 with
    | some (.inr (.inr (.inl (some k)))) => C 443 lv (vR k :: st) h kc ks
    | some (.inr (.inr (.inr t))) => C 443 lv (vT t :: st) h kc ks
    | _ => False) := rfl
theorem g160_443  : mm_step (mm_rw mr_160) (some .boolean) tb call Q C 443 lv st h kc ks = ((match (st.take 1).reverse with
    | .inr (.inr (.inl (some k))) :: _ => (match h.2 k with
      | some (.inr (.inr (ci, _))) => mm_cn ci = (mm_mi 122).1.cls
      | _ => False)
    | _ => False) ∧ mm_call call C 122 1 443 lv st h kc ks) := rfl
theorem g160_446 (a b : Int32) : mm_step (mm_rw mr_160) (some .boolean) tb call Q C 446 lv (.inl b :: .inl a :: st) h kc ks = ((a = b → C 1006 lv st h kc ks) ∧ (¬ a = b → C 449 lv st h kc ks)) := rfl
theorem g160_449  : mm_step (mm_rw mr_160) (some .boolean) tb call Q C 449 lv st h kc ks = (C 450 lv (vI 0 :: st) h kc ks) := rfl
theorem g160_450 (v : Int32) : mm_step (mm_rw mr_160) (some .boolean) tb call Q C 450 lv [.inl v] h kc ks = ((v = 0 ∨ v = 1) ∧ Q (some (vI v)) h) := rfl
theorem g160_451  : mm_step (mm_rw mr_160) (some .boolean) tb call Q C 451 lv st h kc ks = (match mm_rd lv 1 with
    | some (.inr (.inr (.inl (some k)))) => C 452 lv (vR k :: st) h kc ks
    | some (.inr (.inr (.inr t))) => C 452 lv (vT t :: st) h kc ks
    | _ => False) := rfl
theorem g160_452  : mm_step (mm_rw mr_160) (some .boolean) tb call Q C 452 lv st h kc ks = (match mm_rd lv 0 with
    | some (.inr (.inr (.inl (some k)))) => C 453 lv (vR k :: st) h kc ks
    | some (.inr (.inr (.inr t))) => C 453 lv (vT t :: st) h kc ks
    | _ => False) := rfl
theorem g160_453  : mm_step (mm_rw mr_160) (some .boolean) tb call Q C 453 lv st h kc ks = (match mm_rd lv 3 with
    | some (.inl a) => C 454 lv (vI a :: st) h kc ks
    | _ => False) := rfl
theorem g160_454  : mm_step (mm_rw mr_160) (some .boolean) tb call Q C 454 lv st h kc ks = (C 455 lv (vI 1 :: st) h kc ks) := rfl
theorem g160_455 (a b : Int32) : mm_step (mm_rw mr_160) (some .boolean) tb call Q C 455 lv (.inl b :: .inl a :: st) h kc ks = (C 456 lv (vI (a + b) :: st) h kc ks) := rfl
theorem g160_456 (i : Int32) (k : Nat) : mm_step (mm_rw mr_160) (some .boolean) tb call Q C 456 lv (.inl i :: .inr (.inr (.inl (some k))) :: st) h kc ks = (match h.2 k with
    | some (.inl (.int, n, f)) => vp_in i n ∧ C 457 lv (vI (f i.toNatClampNeg) :: st) h kc ks
    | _ => False) := rfl
theorem g160_456t (i : Int32) (t : Nat) : mm_step (mm_rw mr_160) (some .boolean) tb call Q C 456 lv (.inl i :: .inr (.inr (.inr t)) :: st) h kc ks = (vp_in i (tb t).1 ∧ C 457 lv (vI ((tb t).2 i.toNatClampNeg) :: st) h kc ks) := rfl
theorem g160_457  : mm_step (mm_rw mr_160) (some .boolean) tb call Q C 457 lv st h kc ks = (match mm_rd lv 0 with
    | some (.inr (.inr (.inl (some k)))) => C 458 lv (vR k :: st) h kc ks
    | some (.inr (.inr (.inr t))) => C 458 lv (vT t :: st) h kc ks
    | _ => False) := rfl
theorem g160_458  : mm_step (mm_rw mr_160) (some .boolean) tb call Q C 458 lv st h kc ks = (match mm_rd lv 3 with
    | some (.inl a) => C 459 lv (vI a :: st) h kc ks
    | _ => False) := rfl
theorem g160_459  : mm_step (mm_rw mr_160) (some .boolean) tb call Q C 459 lv st h kc ks = (C 460 lv (vI 2 :: st) h kc ks) := rfl
theorem g160_460 (a b : Int32) : mm_step (mm_rw mr_160) (some .boolean) tb call Q C 460 lv (.inl b :: .inl a :: st) h kc ks = (C 461 lv (vI (a + b) :: st) h kc ks) := rfl
theorem g160_461 (i : Int32) (k : Nat) : mm_step (mm_rw mr_160) (some .boolean) tb call Q C 461 lv (.inl i :: .inr (.inr (.inl (some k))) :: st) h kc ks = (match h.2 k with
    | some (.inl (.int, n, f)) => vp_in i n ∧ C 462 lv (vI (f i.toNatClampNeg) :: st) h kc ks
    | _ => False) := rfl
theorem g160_461t (i : Int32) (t : Nat) : mm_step (mm_rw mr_160) (some .boolean) tb call Q C 461 lv (.inl i :: .inr (.inr (.inr t)) :: st) h kc ks = (vp_in i (tb t).1 ∧ C 462 lv (vI ((tb t).2 i.toNatClampNeg) :: st) h kc ks) := rfl
theorem g160_462  : mm_step (mm_rw mr_160) (some .boolean) tb call Q C 462 lv st h kc ks = ((match (st.take 3).reverse with
    | .inr (.inr (.inl (some k))) :: _ => (match h.2 k with
      | some (.inr (.inr (ci, _))) => mm_cn ci = (mm_mi 66).1.cls
      | _ => False)
    | _ => False) ∧ mm_call call C 66 3 462 lv st h kc ks) := rfl
theorem g160_465  : mm_step (mm_rw mr_160) (some .boolean) tb call Q C 465 lv st h kc ks = (match mm_rd lv 2 with
    | some (.inr (.inr (.inl (some k)))) => C 466 lv (vR k :: st) h kc ks
    | some (.inr (.inr (.inr t))) => C 466 lv (vT t :: st) h kc ks
    | _ => False) := rfl
theorem g160_466  : mm_step (mm_rw mr_160) (some .boolean) tb call Q C 466 lv st h kc ks = (match mm_rd lv 0 with
    | some (.inr (.inr (.inl (some k)))) => C 467 lv (vR k :: st) h kc ks
    | some (.inr (.inr (.inr t))) => C 467 lv (vT t :: st) h kc ks
    | _ => False) := rfl
theorem g160_467  : mm_step (mm_rw mr_160) (some .boolean) tb call Q C 467 lv st h kc ks = (match mm_rd lv 3 with
    | some (.inl a) => C 468 lv (vI a :: st) h kc ks
    | _ => False) := rfl
theorem g160_468  : mm_step (mm_rw mr_160) (some .boolean) tb call Q C 468 lv st h kc ks = (C 469 lv (vI 1 :: st) h kc ks) := rfl
theorem g160_469 (a b : Int32) : mm_step (mm_rw mr_160) (some .boolean) tb call Q C 469 lv (.inl b :: .inl a :: st) h kc ks = (C 470 lv (vI (a + b) :: st) h kc ks) := rfl
theorem g160_470 (i : Int32) (k : Nat) : mm_step (mm_rw mr_160) (some .boolean) tb call Q C 470 lv (.inl i :: .inr (.inr (.inl (some k))) :: st) h kc ks = (match h.2 k with
    | some (.inl (.int, n, f)) => vp_in i n ∧ C 471 lv (vI (f i.toNatClampNeg) :: st) h kc ks
    | _ => False) := rfl
theorem g160_470t (i : Int32) (t : Nat) : mm_step (mm_rw mr_160) (some .boolean) tb call Q C 470 lv (.inl i :: .inr (.inr (.inr t)) :: st) h kc ks = (vp_in i (tb t).1 ∧ C 471 lv (vI ((tb t).2 i.toNatClampNeg) :: st) h kc ks) := rfl
theorem g160_471  : mm_step (mm_rw mr_160) (some .boolean) tb call Q C 471 lv st h kc ks = (match mm_rd lv 0 with
    | some (.inr (.inr (.inl (some k)))) => C 472 lv (vR k :: st) h kc ks
    | some (.inr (.inr (.inr t))) => C 472 lv (vT t :: st) h kc ks
    | _ => False) := rfl
theorem g160_472  : mm_step (mm_rw mr_160) (some .boolean) tb call Q C 472 lv st h kc ks = (match mm_rd lv 3 with
    | some (.inl a) => C 473 lv (vI a :: st) h kc ks
    | _ => False) := rfl
theorem g160_473  : mm_step (mm_rw mr_160) (some .boolean) tb call Q C 473 lv st h kc ks = (C 474 lv (vI 2 :: st) h kc ks) := rfl
theorem g160_474 (a b : Int32) : mm_step (mm_rw mr_160) (some .boolean) tb call Q C 474 lv (.inl b :: .inl a :: st) h kc ks = (C 475 lv (vI (a + b) :: st) h kc ks) := rfl
theorem g160_475 (i : Int32) (k : Nat) : mm_step (mm_rw mr_160) (some .boolean) tb call Q C 475 lv (.inl i :: .inr (.inr (.inl (some k))) :: st) h kc ks = (match h.2 k with
    | some (.inl (.int, n, f)) => vp_in i n ∧ C 476 lv (vI (f i.toNatClampNeg) :: st) h kc ks
    | _ => False) := rfl
theorem g160_475t (i : Int32) (t : Nat) : mm_step (mm_rw mr_160) (some .boolean) tb call Q C 475 lv (.inl i :: .inr (.inr (.inr t)) :: st) h kc ks = (vp_in i (tb t).1 ∧ C 476 lv (vI ((tb t).2 i.toNatClampNeg) :: st) h kc ks) := rfl
theorem g160_476  : mm_step (mm_rw mr_160) (some .boolean) tb call Q C 476 lv st h kc ks = ((match (st.take 3).reverse with
    | .inr (.inr (.inl (some k))) :: _ => (match h.2 k with
      | some (.inr (.inr (ci, _))) => mm_cn ci = (mm_mi 126).1.cls
      | _ => False)
    | _ => False) ∧ mm_call call C 126 3 476 lv st h kc ks) := rfl
theorem g160_479 (a b : Int32) : mm_step (mm_rw mr_160) (some .boolean) tb call Q C 479 lv (.inl b :: .inl a :: st) h kc ks = ((a = b → C 1006 lv st h kc ks) ∧ (¬ a = b → C 482 lv st h kc ks)) := rfl
theorem g160_482  : mm_step (mm_rw mr_160) (some .boolean) tb call Q C 482 lv st h kc ks = (C 483 lv (vI 0 :: st) h kc ks) := rfl
theorem g160_483 (v : Int32) : mm_step (mm_rw mr_160) (some .boolean) tb call Q C 483 lv [.inl v] h kc ks = ((v = 0 ∨ v = 1) ∧ Q (some (vI v)) h) := rfl
theorem g160_484  : mm_step (mm_rw mr_160) (some .boolean) tb call Q C 484 lv st h kc ks = (match mm_rd lv 1 with
    | some (.inr (.inr (.inl (some k)))) => C 485 lv (vR k :: st) h kc ks
    | some (.inr (.inr (.inr t))) => C 485 lv (vT t :: st) h kc ks
    | _ => False) := rfl
theorem g160_485  : mm_step (mm_rw mr_160) (some .boolean) tb call Q C 485 lv st h kc ks = (match mm_rd lv 0 with
    | some (.inr (.inr (.inl (some k)))) => C 486 lv (vR k :: st) h kc ks
    | some (.inr (.inr (.inr t))) => C 486 lv (vT t :: st) h kc ks
    | _ => False) := rfl
theorem g160_486  : mm_step (mm_rw mr_160) (some .boolean) tb call Q C 486 lv st h kc ks = (match mm_rd lv 3 with
    | some (.inl a) => C 487 lv (vI a :: st) h kc ks
    | _ => False) := rfl
theorem g160_487  : mm_step (mm_rw mr_160) (some .boolean) tb call Q C 487 lv st h kc ks = (C 488 lv (vI 1 :: st) h kc ks) := rfl
theorem g160_488 (a b : Int32) : mm_step (mm_rw mr_160) (some .boolean) tb call Q C 488 lv (.inl b :: .inl a :: st) h kc ks = (C 489 lv (vI (a + b) :: st) h kc ks) := rfl
theorem g160_489 (i : Int32) (k : Nat) : mm_step (mm_rw mr_160) (some .boolean) tb call Q C 489 lv (.inl i :: .inr (.inr (.inl (some k))) :: st) h kc ks = (match h.2 k with
    | some (.inl (.int, n, f)) => vp_in i n ∧ C 490 lv (vI (f i.toNatClampNeg) :: st) h kc ks
    | _ => False) := rfl
theorem g160_489t (i : Int32) (t : Nat) : mm_step (mm_rw mr_160) (some .boolean) tb call Q C 489 lv (.inl i :: .inr (.inr (.inr t)) :: st) h kc ks = (vp_in i (tb t).1 ∧ C 490 lv (vI ((tb t).2 i.toNatClampNeg) :: st) h kc ks) := rfl
theorem g160_490  : mm_step (mm_rw mr_160) (some .boolean) tb call Q C 490 lv st h kc ks = ((match (st.take 2).reverse with
    | .inr (.inr (.inl (some k))) :: _ => (match h.2 k with
      | some (.inr (.inr (ci, _))) => mm_cn ci = (mm_mi 67).1.cls
      | _ => False)
    | _ => False) ∧ mm_call call C 67 2 490 lv st h kc ks) := rfl
theorem g160_493  : mm_step (mm_rw mr_160) (some .boolean) tb call Q C 493 lv st h kc ks = (match mm_rd lv 2 with
    | some (.inr (.inr (.inl (some k)))) => C 494 lv (vR k :: st) h kc ks
    | some (.inr (.inr (.inr t))) => C 494 lv (vT t :: st) h kc ks
    | _ => False) := rfl
theorem g160_494  : mm_step (mm_rw mr_160) (some .boolean) tb call Q C 494 lv st h kc ks = (match mm_rd lv 0 with
    | some (.inr (.inr (.inl (some k)))) => C 495 lv (vR k :: st) h kc ks
    | some (.inr (.inr (.inr t))) => C 495 lv (vT t :: st) h kc ks
    | _ => False) := rfl
theorem g160_495  : mm_step (mm_rw mr_160) (some .boolean) tb call Q C 495 lv st h kc ks = (match mm_rd lv 3 with
    | some (.inl a) => C 496 lv (vI a :: st) h kc ks
    | _ => False) := rfl
theorem g160_496  : mm_step (mm_rw mr_160) (some .boolean) tb call Q C 496 lv st h kc ks = (C 497 lv (vI 1 :: st) h kc ks) := rfl
theorem g160_497 (a b : Int32) : mm_step (mm_rw mr_160) (some .boolean) tb call Q C 497 lv (.inl b :: .inl a :: st) h kc ks = (C 498 lv (vI (a + b) :: st) h kc ks) := rfl
theorem g160_498 (i : Int32) (k : Nat) : mm_step (mm_rw mr_160) (some .boolean) tb call Q C 498 lv (.inl i :: .inr (.inr (.inl (some k))) :: st) h kc ks = (match h.2 k with
    | some (.inl (.int, n, f)) => vp_in i n ∧ C 499 lv (vI (f i.toNatClampNeg) :: st) h kc ks
    | _ => False) := rfl
theorem g160_498t (i : Int32) (t : Nat) : mm_step (mm_rw mr_160) (some .boolean) tb call Q C 498 lv (.inl i :: .inr (.inr (.inr t)) :: st) h kc ks = (vp_in i (tb t).1 ∧ C 499 lv (vI ((tb t).2 i.toNatClampNeg) :: st) h kc ks) := rfl
theorem g160_499  : mm_step (mm_rw mr_160) (some .boolean) tb call Q C 499 lv st h kc ks = ((match (st.take 2).reverse with
    | .inr (.inr (.inl (some k))) :: _ => (match h.2 k with
      | some (.inr (.inr (ci, _))) => mm_cn ci = (mm_mi 127).1.cls
      | _ => False)
    | _ => False) ∧ mm_call call C 127 2 499 lv st h kc ks) := rfl
theorem g160_502 (a b : Int32) : mm_step (mm_rw mr_160) (some .boolean) tb call Q C 502 lv (.inl b :: .inl a :: st) h kc ks = ((a = b → C 1006 lv st h kc ks) ∧ (¬ a = b → C 505 lv st h kc ks)) := rfl
theorem g160_505  : mm_step (mm_rw mr_160) (some .boolean) tb call Q C 505 lv st h kc ks = (C 506 lv (vI 0 :: st) h kc ks) := rfl
theorem g160_506 (v : Int32) : mm_step (mm_rw mr_160) (some .boolean) tb call Q C 506 lv [.inl v] h kc ks = ((v = 0 ∨ v = 1) ∧ Q (some (vI v)) h) := rfl
theorem g160_507  : mm_step (mm_rw mr_160) (some .boolean) tb call Q C 507 lv st h kc ks = (match mm_rd lv 1 with
    | some (.inr (.inr (.inl (some k)))) => C 508 lv (vR k :: st) h kc ks
    | some (.inr (.inr (.inr t))) => C 508 lv (vT t :: st) h kc ks
    | _ => False) := rfl
theorem g160_508  : mm_step (mm_rw mr_160) (some .boolean) tb call Q C 508 lv st h kc ks = (match mm_rd lv 0 with
    | some (.inr (.inr (.inl (some k)))) => C 509 lv (vR k :: st) h kc ks
    | some (.inr (.inr (.inr t))) => C 509 lv (vT t :: st) h kc ks
    | _ => False) := rfl
theorem g160_509  : mm_step (mm_rw mr_160) (some .boolean) tb call Q C 509 lv st h kc ks = (match mm_rd lv 3 with
    | some (.inl a) => C 510 lv (vI a :: st) h kc ks
    | _ => False) := rfl
theorem g160_510  : mm_step (mm_rw mr_160) (some .boolean) tb call Q C 510 lv st h kc ks = (C 511 lv (vI 1 :: st) h kc ks) := rfl
theorem g160_511 (a b : Int32) : mm_step (mm_rw mr_160) (some .boolean) tb call Q C 511 lv (.inl b :: .inl a :: st) h kc ks = (C 512 lv (vI (a + b) :: st) h kc ks) := rfl
theorem g160_512 (i : Int32) (k : Nat) : mm_step (mm_rw mr_160) (some .boolean) tb call Q C 512 lv (.inl i :: .inr (.inr (.inl (some k))) :: st) h kc ks = (match h.2 k with
    | some (.inl (.int, n, f)) => vp_in i n ∧ C 513 lv (vI (f i.toNatClampNeg) :: st) h kc ks
    | _ => False) := rfl
theorem g160_512t (i : Int32) (t : Nat) : mm_step (mm_rw mr_160) (some .boolean) tb call Q C 512 lv (.inl i :: .inr (.inr (.inr t)) :: st) h kc ks = (vp_in i (tb t).1 ∧ C 513 lv (vI ((tb t).2 i.toNatClampNeg) :: st) h kc ks) := rfl
theorem g160_513  : mm_step (mm_rw mr_160) (some .boolean) tb call Q C 513 lv st h kc ks = (match mm_rd lv 0 with
    | some (.inr (.inr (.inl (some k)))) => C 514 lv (vR k :: st) h kc ks
    | some (.inr (.inr (.inr t))) => C 514 lv (vT t :: st) h kc ks
    | _ => False) := rfl
theorem g160_514  : mm_step (mm_rw mr_160) (some .boolean) tb call Q C 514 lv st h kc ks = (match mm_rd lv 3 with
    | some (.inl a) => C 515 lv (vI a :: st) h kc ks
    | _ => False) := rfl
theorem g160_515  : mm_step (mm_rw mr_160) (some .boolean) tb call Q C 515 lv st h kc ks = (C 516 lv (vI 2 :: st) h kc ks) := rfl
theorem g160_516 (a b : Int32) : mm_step (mm_rw mr_160) (some .boolean) tb call Q C 516 lv (.inl b :: .inl a :: st) h kc ks = (C 517 lv (vI (a + b) :: st) h kc ks) := rfl
theorem g160_517 (i : Int32) (k : Nat) : mm_step (mm_rw mr_160) (some .boolean) tb call Q C 517 lv (.inl i :: .inr (.inr (.inl (some k))) :: st) h kc ks = (match h.2 k with
    | some (.inl (.int, n, f)) => vp_in i n ∧ C 518 lv (vI (f i.toNatClampNeg) :: st) h kc ks
    | _ => False) := rfl
theorem g160_517t (i : Int32) (t : Nat) : mm_step (mm_rw mr_160) (some .boolean) tb call Q C 517 lv (.inl i :: .inr (.inr (.inr t)) :: st) h kc ks = (vp_in i (tb t).1 ∧ C 518 lv (vI ((tb t).2 i.toNatClampNeg) :: st) h kc ks) := rfl
theorem g160_518  : mm_step (mm_rw mr_160) (some .boolean) tb call Q C 518 lv st h kc ks = ((match (st.take 3).reverse with
    | .inr (.inr (.inl (some k))) :: _ => (match h.2 k with
      | some (.inr (.inr (ci, _))) => mm_cn ci = (mm_mi 68).1.cls
      | _ => False)
    | _ => False) ∧ mm_call call C 68 3 518 lv st h kc ks) := rfl
theorem g160_521  : mm_step (mm_rw mr_160) (some .boolean) tb call Q C 521 lv st h kc ks = (match mm_rd lv 2 with
    | some (.inr (.inr (.inl (some k)))) => C 522 lv (vR k :: st) h kc ks
    | some (.inr (.inr (.inr t))) => C 522 lv (vT t :: st) h kc ks
    | _ => False) := rfl
theorem g160_522  : mm_step (mm_rw mr_160) (some .boolean) tb call Q C 522 lv st h kc ks = (match mm_rd lv 0 with
    | some (.inr (.inr (.inl (some k)))) => C 523 lv (vR k :: st) h kc ks
    | some (.inr (.inr (.inr t))) => C 523 lv (vT t :: st) h kc ks
    | _ => False) := rfl
theorem g160_523  : mm_step (mm_rw mr_160) (some .boolean) tb call Q C 523 lv st h kc ks = (match mm_rd lv 3 with
    | some (.inl a) => C 524 lv (vI a :: st) h kc ks
    | _ => False) := rfl
theorem g160_524  : mm_step (mm_rw mr_160) (some .boolean) tb call Q C 524 lv st h kc ks = (C 525 lv (vI 1 :: st) h kc ks) := rfl
theorem g160_525 (a b : Int32) : mm_step (mm_rw mr_160) (some .boolean) tb call Q C 525 lv (.inl b :: .inl a :: st) h kc ks = (C 526 lv (vI (a + b) :: st) h kc ks) := rfl
theorem g160_526 (i : Int32) (k : Nat) : mm_step (mm_rw mr_160) (some .boolean) tb call Q C 526 lv (.inl i :: .inr (.inr (.inl (some k))) :: st) h kc ks = (match h.2 k with
    | some (.inl (.int, n, f)) => vp_in i n ∧ C 527 lv (vI (f i.toNatClampNeg) :: st) h kc ks
    | _ => False) := rfl
theorem g160_526t (i : Int32) (t : Nat) : mm_step (mm_rw mr_160) (some .boolean) tb call Q C 526 lv (.inl i :: .inr (.inr (.inr t)) :: st) h kc ks = (vp_in i (tb t).1 ∧ C 527 lv (vI ((tb t).2 i.toNatClampNeg) :: st) h kc ks) := rfl
theorem g160_527  : mm_step (mm_rw mr_160) (some .boolean) tb call Q C 527 lv st h kc ks = (match mm_rd lv 0 with
    | some (.inr (.inr (.inl (some k)))) => C 528 lv (vR k :: st) h kc ks
    | some (.inr (.inr (.inr t))) => C 528 lv (vT t :: st) h kc ks
    | _ => False) := rfl
theorem g160_528  : mm_step (mm_rw mr_160) (some .boolean) tb call Q C 528 lv st h kc ks = (match mm_rd lv 3 with
    | some (.inl a) => C 529 lv (vI a :: st) h kc ks
    | _ => False) := rfl
theorem g160_529  : mm_step (mm_rw mr_160) (some .boolean) tb call Q C 529 lv st h kc ks = (C 530 lv (vI 2 :: st) h kc ks) := rfl
theorem g160_530 (a b : Int32) : mm_step (mm_rw mr_160) (some .boolean) tb call Q C 530 lv (.inl b :: .inl a :: st) h kc ks = (C 531 lv (vI (a + b) :: st) h kc ks) := rfl
theorem g160_531 (i : Int32) (k : Nat) : mm_step (mm_rw mr_160) (some .boolean) tb call Q C 531 lv (.inl i :: .inr (.inr (.inl (some k))) :: st) h kc ks = (match h.2 k with
    | some (.inl (.int, n, f)) => vp_in i n ∧ C 532 lv (vI (f i.toNatClampNeg) :: st) h kc ks
    | _ => False) := rfl
theorem g160_531t (i : Int32) (t : Nat) : mm_step (mm_rw mr_160) (some .boolean) tb call Q C 531 lv (.inl i :: .inr (.inr (.inr t)) :: st) h kc ks = (vp_in i (tb t).1 ∧ C 532 lv (vI ((tb t).2 i.toNatClampNeg) :: st) h kc ks) := rfl
theorem g160_532  : mm_step (mm_rw mr_160) (some .boolean) tb call Q C 532 lv st h kc ks = ((match (st.take 3).reverse with
    | .inr (.inr (.inl (some k))) :: _ => (match h.2 k with
      | some (.inr (.inr (ci, _))) => mm_cn ci = (mm_mi 133).1.cls
      | _ => False)
    | _ => False) ∧ mm_call call C 133 3 532 lv st h kc ks) := rfl
theorem g160_535 (a b : Int32) : mm_step (mm_rw mr_160) (some .boolean) tb call Q C 535 lv (.inl b :: .inl a :: st) h kc ks = ((a = b → C 1006 lv st h kc ks) ∧ (¬ a = b → C 538 lv st h kc ks)) := rfl
theorem g160_538  : mm_step (mm_rw mr_160) (some .boolean) tb call Q C 538 lv st h kc ks = (C 539 lv (vI 0 :: st) h kc ks) := rfl
theorem g160_539 (v : Int32) : mm_step (mm_rw mr_160) (some .boolean) tb call Q C 539 lv [.inl v] h kc ks = ((v = 0 ∨ v = 1) ∧ Q (some (vI v)) h) := rfl
theorem g160_540  : mm_step (mm_rw mr_160) (some .boolean) tb call Q C 540 lv st h kc ks = (match mm_rd lv 1 with
    | some (.inr (.inr (.inl (some k)))) => C 541 lv (vR k :: st) h kc ks
    | some (.inr (.inr (.inr t))) => C 541 lv (vT t :: st) h kc ks
    | _ => False) := rfl
theorem g160_541  : mm_step (mm_rw mr_160) (some .boolean) tb call Q C 541 lv st h kc ks = (match mm_rd lv 0 with
    | some (.inr (.inr (.inl (some k)))) => C 542 lv (vR k :: st) h kc ks
    | some (.inr (.inr (.inr t))) => C 542 lv (vT t :: st) h kc ks
    | _ => False) := rfl
theorem g160_542  : mm_step (mm_rw mr_160) (some .boolean) tb call Q C 542 lv st h kc ks = (match mm_rd lv 3 with
    | some (.inl a) => C 543 lv (vI a :: st) h kc ks
    | _ => False) := rfl
theorem g160_543  : mm_step (mm_rw mr_160) (some .boolean) tb call Q C 543 lv st h kc ks = (C 544 lv (vI 1 :: st) h kc ks) := rfl
theorem g160_544 (a b : Int32) : mm_step (mm_rw mr_160) (some .boolean) tb call Q C 544 lv (.inl b :: .inl a :: st) h kc ks = (C 545 lv (vI (a + b) :: st) h kc ks) := rfl
theorem g160_545 (i : Int32) (k : Nat) : mm_step (mm_rw mr_160) (some .boolean) tb call Q C 545 lv (.inl i :: .inr (.inr (.inl (some k))) :: st) h kc ks = (match h.2 k with
    | some (.inl (.int, n, f)) => vp_in i n ∧ C 546 lv (vI (f i.toNatClampNeg) :: st) h kc ks
    | _ => False) := rfl
theorem g160_545t (i : Int32) (t : Nat) : mm_step (mm_rw mr_160) (some .boolean) tb call Q C 545 lv (.inl i :: .inr (.inr (.inr t)) :: st) h kc ks = (vp_in i (tb t).1 ∧ C 546 lv (vI ((tb t).2 i.toNatClampNeg) :: st) h kc ks) := rfl
theorem g160_546  : mm_step (mm_rw mr_160) (some .boolean) tb call Q C 546 lv st h kc ks = (match mm_rd lv 0 with
    | some (.inr (.inr (.inl (some k)))) => C 547 lv (vR k :: st) h kc ks
    | some (.inr (.inr (.inr t))) => C 547 lv (vT t :: st) h kc ks
    | _ => False) := rfl
theorem g160_547  : mm_step (mm_rw mr_160) (some .boolean) tb call Q C 547 lv st h kc ks = (match mm_rd lv 3 with
    | some (.inl a) => C 548 lv (vI a :: st) h kc ks
    | _ => False) := rfl
theorem g160_548  : mm_step (mm_rw mr_160) (some .boolean) tb call Q C 548 lv st h kc ks = (C 549 lv (vI 2 :: st) h kc ks) := rfl
theorem g160_549 (a b : Int32) : mm_step (mm_rw mr_160) (some .boolean) tb call Q C 549 lv (.inl b :: .inl a :: st) h kc ks = (C 550 lv (vI (a + b) :: st) h kc ks) := rfl
theorem g160_550 (i : Int32) (k : Nat) : mm_step (mm_rw mr_160) (some .boolean) tb call Q C 550 lv (.inl i :: .inr (.inr (.inl (some k))) :: st) h kc ks = (match h.2 k with
    | some (.inl (.int, n, f)) => vp_in i n ∧ C 551 lv (vI (f i.toNatClampNeg) :: st) h kc ks
    | _ => False) := rfl
theorem g160_550t (i : Int32) (t : Nat) : mm_step (mm_rw mr_160) (some .boolean) tb call Q C 550 lv (.inl i :: .inr (.inr (.inr t)) :: st) h kc ks = (vp_in i (tb t).1 ∧ C 551 lv (vI ((tb t).2 i.toNatClampNeg) :: st) h kc ks) := rfl
theorem g160_551  : mm_step (mm_rw mr_160) (some .boolean) tb call Q C 551 lv st h kc ks = (match mm_rd lv 0 with
    | some (.inr (.inr (.inl (some k)))) => C 552 lv (vR k :: st) h kc ks
    | some (.inr (.inr (.inr t))) => C 552 lv (vT t :: st) h kc ks
    | _ => False) := rfl
theorem g160_552  : mm_step (mm_rw mr_160) (some .boolean) tb call Q C 552 lv st h kc ks = (match mm_rd lv 3 with
    | some (.inl a) => C 553 lv (vI a :: st) h kc ks
    | _ => False) := rfl
theorem g160_553  : mm_step (mm_rw mr_160) (some .boolean) tb call Q C 553 lv st h kc ks = (C 554 lv (vI 3 :: st) h kc ks) := rfl
theorem g160_554 (a b : Int32) : mm_step (mm_rw mr_160) (some .boolean) tb call Q C 554 lv (.inl b :: .inl a :: st) h kc ks = (C 555 lv (vI (a + b) :: st) h kc ks) := rfl
theorem g160_555 (i : Int32) (k : Nat) : mm_step (mm_rw mr_160) (some .boolean) tb call Q C 555 lv (.inl i :: .inr (.inr (.inl (some k))) :: st) h kc ks = (match h.2 k with
    | some (.inl (.int, n, f)) => vp_in i n ∧ C 556 lv (vI (f i.toNatClampNeg) :: st) h kc ks
    | _ => False) := rfl
theorem g160_555t (i : Int32) (t : Nat) : mm_step (mm_rw mr_160) (some .boolean) tb call Q C 555 lv (.inl i :: .inr (.inr (.inr t)) :: st) h kc ks = (vp_in i (tb t).1 ∧ C 556 lv (vI ((tb t).2 i.toNatClampNeg) :: st) h kc ks) := rfl
theorem g160_556  : mm_step (mm_rw mr_160) (some .boolean) tb call Q C 556 lv st h kc ks = ((match (st.take 4).reverse with
    | .inr (.inr (.inl (some k))) :: _ => (match h.2 k with
      | some (.inr (.inr (ci, _))) => mm_cn ci = (mm_mi 69).1.cls
      | _ => False)
    | _ => False) ∧ mm_call call C 69 4 556 lv st h kc ks) := rfl
theorem g160_559  : mm_step (mm_rw mr_160) (some .boolean) tb call Q C 559 lv st h kc ks = (match mm_rd lv 2 with
    | some (.inr (.inr (.inl (some k)))) => C 560 lv (vR k :: st) h kc ks
    | some (.inr (.inr (.inr t))) => C 560 lv (vT t :: st) h kc ks
    | _ => False) := rfl
theorem g160_560  : mm_step (mm_rw mr_160) (some .boolean) tb call Q C 560 lv st h kc ks = (match mm_rd lv 0 with
    | some (.inr (.inr (.inl (some k)))) => C 561 lv (vR k :: st) h kc ks
    | some (.inr (.inr (.inr t))) => C 561 lv (vT t :: st) h kc ks
    | _ => False) := rfl
theorem g160_561  : mm_step (mm_rw mr_160) (some .boolean) tb call Q C 561 lv st h kc ks = (match mm_rd lv 3 with
    | some (.inl a) => C 562 lv (vI a :: st) h kc ks
    | _ => False) := rfl
theorem g160_562  : mm_step (mm_rw mr_160) (some .boolean) tb call Q C 562 lv st h kc ks = (C 563 lv (vI 1 :: st) h kc ks) := rfl
theorem g160_563 (a b : Int32) : mm_step (mm_rw mr_160) (some .boolean) tb call Q C 563 lv (.inl b :: .inl a :: st) h kc ks = (C 564 lv (vI (a + b) :: st) h kc ks) := rfl
theorem g160_564 (i : Int32) (k : Nat) : mm_step (mm_rw mr_160) (some .boolean) tb call Q C 564 lv (.inl i :: .inr (.inr (.inl (some k))) :: st) h kc ks = (match h.2 k with
    | some (.inl (.int, n, f)) => vp_in i n ∧ C 565 lv (vI (f i.toNatClampNeg) :: st) h kc ks
    | _ => False) := rfl
theorem g160_564t (i : Int32) (t : Nat) : mm_step (mm_rw mr_160) (some .boolean) tb call Q C 564 lv (.inl i :: .inr (.inr (.inr t)) :: st) h kc ks = (vp_in i (tb t).1 ∧ C 565 lv (vI ((tb t).2 i.toNatClampNeg) :: st) h kc ks) := rfl
theorem g160_565  : mm_step (mm_rw mr_160) (some .boolean) tb call Q C 565 lv st h kc ks = (match mm_rd lv 0 with
    | some (.inr (.inr (.inl (some k)))) => C 566 lv (vR k :: st) h kc ks
    | some (.inr (.inr (.inr t))) => C 566 lv (vT t :: st) h kc ks
    | _ => False) := rfl
theorem g160_566  : mm_step (mm_rw mr_160) (some .boolean) tb call Q C 566 lv st h kc ks = (match mm_rd lv 3 with
    | some (.inl a) => C 567 lv (vI a :: st) h kc ks
    | _ => False) := rfl
theorem g160_567  : mm_step (mm_rw mr_160) (some .boolean) tb call Q C 567 lv st h kc ks = (C 568 lv (vI 2 :: st) h kc ks) := rfl
theorem g160_568 (a b : Int32) : mm_step (mm_rw mr_160) (some .boolean) tb call Q C 568 lv (.inl b :: .inl a :: st) h kc ks = (C 569 lv (vI (a + b) :: st) h kc ks) := rfl
theorem g160_569 (i : Int32) (k : Nat) : mm_step (mm_rw mr_160) (some .boolean) tb call Q C 569 lv (.inl i :: .inr (.inr (.inl (some k))) :: st) h kc ks = (match h.2 k with
    | some (.inl (.int, n, f)) => vp_in i n ∧ C 570 lv (vI (f i.toNatClampNeg) :: st) h kc ks
    | _ => False) := rfl
theorem g160_569t (i : Int32) (t : Nat) : mm_step (mm_rw mr_160) (some .boolean) tb call Q C 569 lv (.inl i :: .inr (.inr (.inr t)) :: st) h kc ks = (vp_in i (tb t).1 ∧ C 570 lv (vI ((tb t).2 i.toNatClampNeg) :: st) h kc ks) := rfl
theorem g160_570  : mm_step (mm_rw mr_160) (some .boolean) tb call Q C 570 lv st h kc ks = (match mm_rd lv 0 with
    | some (.inr (.inr (.inl (some k)))) => C 571 lv (vR k :: st) h kc ks
    | some (.inr (.inr (.inr t))) => C 571 lv (vT t :: st) h kc ks
    | _ => False) := rfl
theorem g160_571  : mm_step (mm_rw mr_160) (some .boolean) tb call Q C 571 lv st h kc ks = (match mm_rd lv 3 with
    | some (.inl a) => C 572 lv (vI a :: st) h kc ks
    | _ => False) := rfl
theorem g160_572  : mm_step (mm_rw mr_160) (some .boolean) tb call Q C 572 lv st h kc ks = (C 573 lv (vI 3 :: st) h kc ks) := rfl
theorem g160_573 (a b : Int32) : mm_step (mm_rw mr_160) (some .boolean) tb call Q C 573 lv (.inl b :: .inl a :: st) h kc ks = (C 574 lv (vI (a + b) :: st) h kc ks) := rfl
theorem g160_574 (i : Int32) (k : Nat) : mm_step (mm_rw mr_160) (some .boolean) tb call Q C 574 lv (.inl i :: .inr (.inr (.inl (some k))) :: st) h kc ks = (match h.2 k with
    | some (.inl (.int, n, f)) => vp_in i n ∧ C 575 lv (vI (f i.toNatClampNeg) :: st) h kc ks
    | _ => False) := rfl
theorem g160_574t (i : Int32) (t : Nat) : mm_step (mm_rw mr_160) (some .boolean) tb call Q C 574 lv (.inl i :: .inr (.inr (.inr t)) :: st) h kc ks = (vp_in i (tb t).1 ∧ C 575 lv (vI ((tb t).2 i.toNatClampNeg) :: st) h kc ks) := rfl
theorem g160_575  : mm_step (mm_rw mr_160) (some .boolean) tb call Q C 575 lv st h kc ks = ((match (st.take 4).reverse with
    | .inr (.inr (.inl (some k))) :: _ => (match h.2 k with
      | some (.inr (.inr (ci, _))) => mm_cn ci = (mm_mi 134).1.cls
      | _ => False)
    | _ => False) ∧ mm_call call C 134 4 575 lv st h kc ks) := rfl
theorem g160_578 (a b : Int32) : mm_step (mm_rw mr_160) (some .boolean) tb call Q C 578 lv (.inl b :: .inl a :: st) h kc ks = ((a = b → C 1006 lv st h kc ks) ∧ (¬ a = b → C 581 lv st h kc ks)) := rfl
theorem g160_581  : mm_step (mm_rw mr_160) (some .boolean) tb call Q C 581 lv st h kc ks = (C 582 lv (vI 0 :: st) h kc ks) := rfl
theorem g160_582 (v : Int32) : mm_step (mm_rw mr_160) (some .boolean) tb call Q C 582 lv [.inl v] h kc ks = ((v = 0 ∨ v = 1) ∧ Q (some (vI v)) h) := rfl
theorem g160_583  : mm_step (mm_rw mr_160) (some .boolean) tb call Q C 583 lv st h kc ks = (match mm_rd lv 1 with
    | some (.inr (.inr (.inl (some k)))) => C 584 lv (vR k :: st) h kc ks
    | some (.inr (.inr (.inr t))) => C 584 lv (vT t :: st) h kc ks
    | _ => False) := rfl
theorem g160_584  : mm_step (mm_rw mr_160) (some .boolean) tb call Q C 584 lv st h kc ks = (match mm_rd lv 0 with
    | some (.inr (.inr (.inl (some k)))) => C 585 lv (vR k :: st) h kc ks
    | some (.inr (.inr (.inr t))) => C 585 lv (vT t :: st) h kc ks
    | _ => False) := rfl
theorem g160_585  : mm_step (mm_rw mr_160) (some .boolean) tb call Q C 585 lv st h kc ks = (match mm_rd lv 3 with
    | some (.inl a) => C 586 lv (vI a :: st) h kc ks
    | _ => False) := rfl
theorem g160_586  : mm_step (mm_rw mr_160) (some .boolean) tb call Q C 586 lv st h kc ks = (C 587 lv (vI 1 :: st) h kc ks) := rfl
theorem g160_587 (a b : Int32) : mm_step (mm_rw mr_160) (some .boolean) tb call Q C 587 lv (.inl b :: .inl a :: st) h kc ks = (C 588 lv (vI (a + b) :: st) h kc ks) := rfl
theorem g160_588 (i : Int32) (k : Nat) : mm_step (mm_rw mr_160) (some .boolean) tb call Q C 588 lv (.inl i :: .inr (.inr (.inl (some k))) :: st) h kc ks = (match h.2 k with
    | some (.inl (.int, n, f)) => vp_in i n ∧ C 589 lv (vI (f i.toNatClampNeg) :: st) h kc ks
    | _ => False) := rfl
theorem g160_588t (i : Int32) (t : Nat) : mm_step (mm_rw mr_160) (some .boolean) tb call Q C 588 lv (.inl i :: .inr (.inr (.inr t)) :: st) h kc ks = (vp_in i (tb t).1 ∧ C 589 lv (vI ((tb t).2 i.toNatClampNeg) :: st) h kc ks) := rfl
theorem g160_589  : mm_step (mm_rw mr_160) (some .boolean) tb call Q C 589 lv st h kc ks = ((match (st.take 2).reverse with
    | .inr (.inr (.inl (some k))) :: _ => (match h.2 k with
      | some (.inr (.inr (ci, _))) => mm_cn ci = (mm_mi 70).1.cls
      | _ => False)
    | _ => False) ∧ mm_call call C 70 2 589 lv st h kc ks) := rfl
theorem g160_592  : mm_step (mm_rw mr_160) (some .boolean) tb call Q C 592 lv st h kc ks = (match mm_rd lv 2 with
    | some (.inr (.inr (.inl (some k)))) => C 593 lv (vR k :: st) h kc ks
    | some (.inr (.inr (.inr t))) => C 593 lv (vT t :: st) h kc ks
    | _ => False) := rfl
theorem g160_593  : mm_step (mm_rw mr_160) (some .boolean) tb call Q C 593 lv st h kc ks = (match mm_rd lv 0 with
    | some (.inr (.inr (.inl (some k)))) => C 594 lv (vR k :: st) h kc ks
    | some (.inr (.inr (.inr t))) => C 594 lv (vT t :: st) h kc ks
    | _ => False) := rfl
theorem g160_594  : mm_step (mm_rw mr_160) (some .boolean) tb call Q C 594 lv st h kc ks = (match mm_rd lv 3 with
    | some (.inl a) => C 595 lv (vI a :: st) h kc ks
    | _ => False) := rfl
theorem g160_595  : mm_step (mm_rw mr_160) (some .boolean) tb call Q C 595 lv st h kc ks = (C 596 lv (vI 1 :: st) h kc ks) := rfl
theorem g160_596 (a b : Int32) : mm_step (mm_rw mr_160) (some .boolean) tb call Q C 596 lv (.inl b :: .inl a :: st) h kc ks = (C 597 lv (vI (a + b) :: st) h kc ks) := rfl
theorem g160_597 (i : Int32) (k : Nat) : mm_step (mm_rw mr_160) (some .boolean) tb call Q C 597 lv (.inl i :: .inr (.inr (.inl (some k))) :: st) h kc ks = (match h.2 k with
    | some (.inl (.int, n, f)) => vp_in i n ∧ C 598 lv (vI (f i.toNatClampNeg) :: st) h kc ks
    | _ => False) := rfl
theorem g160_597t (i : Int32) (t : Nat) : mm_step (mm_rw mr_160) (some .boolean) tb call Q C 597 lv (.inl i :: .inr (.inr (.inr t)) :: st) h kc ks = (vp_in i (tb t).1 ∧ C 598 lv (vI ((tb t).2 i.toNatClampNeg) :: st) h kc ks) := rfl
theorem g160_598  : mm_step (mm_rw mr_160) (some .boolean) tb call Q C 598 lv st h kc ks = ((match (st.take 2).reverse with
    | .inr (.inr (.inl (some k))) :: _ => (match h.2 k with
      | some (.inr (.inr (ci, _))) => mm_cn ci = (mm_mi 135).1.cls
      | _ => False)
    | _ => False) ∧ mm_call call C 135 2 598 lv st h kc ks) := rfl
theorem g160_601 (a b : Int32) : mm_step (mm_rw mr_160) (some .boolean) tb call Q C 601 lv (.inl b :: .inl a :: st) h kc ks = ((a = b → C 1006 lv st h kc ks) ∧ (¬ a = b → C 604 lv st h kc ks)) := rfl
theorem g160_604  : mm_step (mm_rw mr_160) (some .boolean) tb call Q C 604 lv st h kc ks = (C 605 lv (vI 0 :: st) h kc ks) := rfl
theorem g160_605 (v : Int32) : mm_step (mm_rw mr_160) (some .boolean) tb call Q C 605 lv [.inl v] h kc ks = ((v = 0 ∨ v = 1) ∧ Q (some (vI v)) h) := rfl
theorem g160_606  : mm_step (mm_rw mr_160) (some .boolean) tb call Q C 606 lv st h kc ks = (match mm_rd lv 1 with
    | some (.inr (.inr (.inl (some k)))) => C 607 lv (vR k :: st) h kc ks
    | some (.inr (.inr (.inr t))) => C 607 lv (vT t :: st) h kc ks
    | _ => False) := rfl
theorem g160_607  : mm_step (mm_rw mr_160) (some .boolean) tb call Q C 607 lv st h kc ks = (match mm_rd lv 0 with
    | some (.inr (.inr (.inl (some k)))) => C 608 lv (vR k :: st) h kc ks
    | some (.inr (.inr (.inr t))) => C 608 lv (vT t :: st) h kc ks
    | _ => False) := rfl
theorem g160_608  : mm_step (mm_rw mr_160) (some .boolean) tb call Q C 608 lv st h kc ks = (match mm_rd lv 3 with
    | some (.inl a) => C 609 lv (vI a :: st) h kc ks
    | _ => False) := rfl
theorem g160_609  : mm_step (mm_rw mr_160) (some .boolean) tb call Q C 609 lv st h kc ks = (C 610 lv (vI 1 :: st) h kc ks) := rfl
theorem g160_610 (a b : Int32) : mm_step (mm_rw mr_160) (some .boolean) tb call Q C 610 lv (.inl b :: .inl a :: st) h kc ks = (C 611 lv (vI (a + b) :: st) h kc ks) := rfl
theorem g160_611 (i : Int32) (k : Nat) : mm_step (mm_rw mr_160) (some .boolean) tb call Q C 611 lv (.inl i :: .inr (.inr (.inl (some k))) :: st) h kc ks = (match h.2 k with
    | some (.inl (.int, n, f)) => vp_in i n ∧ C 612 lv (vI (f i.toNatClampNeg) :: st) h kc ks
    | _ => False) := rfl
theorem g160_611t (i : Int32) (t : Nat) : mm_step (mm_rw mr_160) (some .boolean) tb call Q C 611 lv (.inl i :: .inr (.inr (.inr t)) :: st) h kc ks = (vp_in i (tb t).1 ∧ C 612 lv (vI ((tb t).2 i.toNatClampNeg) :: st) h kc ks) := rfl
theorem g160_612  : mm_step (mm_rw mr_160) (some .boolean) tb call Q C 612 lv st h kc ks = (match mm_rd lv 0 with
    | some (.inr (.inr (.inl (some k)))) => C 613 lv (vR k :: st) h kc ks
    | some (.inr (.inr (.inr t))) => C 613 lv (vT t :: st) h kc ks
    | _ => False) := rfl
theorem g160_613  : mm_step (mm_rw mr_160) (some .boolean) tb call Q C 613 lv st h kc ks = (match mm_rd lv 3 with
    | some (.inl a) => C 614 lv (vI a :: st) h kc ks
    | _ => False) := rfl
theorem g160_614  : mm_step (mm_rw mr_160) (some .boolean) tb call Q C 614 lv st h kc ks = (C 615 lv (vI 2 :: st) h kc ks) := rfl
theorem g160_615 (a b : Int32) : mm_step (mm_rw mr_160) (some .boolean) tb call Q C 615 lv (.inl b :: .inl a :: st) h kc ks = (C 616 lv (vI (a + b) :: st) h kc ks) := rfl
theorem g160_616 (i : Int32) (k : Nat) : mm_step (mm_rw mr_160) (some .boolean) tb call Q C 616 lv (.inl i :: .inr (.inr (.inl (some k))) :: st) h kc ks = (match h.2 k with
    | some (.inl (.int, n, f)) => vp_in i n ∧ C 617 lv (vI (f i.toNatClampNeg) :: st) h kc ks
    | _ => False) := rfl
theorem g160_616t (i : Int32) (t : Nat) : mm_step (mm_rw mr_160) (some .boolean) tb call Q C 616 lv (.inl i :: .inr (.inr (.inr t)) :: st) h kc ks = (vp_in i (tb t).1 ∧ C 617 lv (vI ((tb t).2 i.toNatClampNeg) :: st) h kc ks) := rfl
theorem g160_617  : mm_step (mm_rw mr_160) (some .boolean) tb call Q C 617 lv st h kc ks = ((match (st.take 3).reverse with
    | .inr (.inr (.inl (some k))) :: _ => (match h.2 k with
      | some (.inr (.inr (ci, _))) => mm_cn ci = (mm_mi 71).1.cls
      | _ => False)
    | _ => False) ∧ mm_call call C 71 3 617 lv st h kc ks) := rfl
theorem g160_620  : mm_step (mm_rw mr_160) (some .boolean) tb call Q C 620 lv st h kc ks = (match mm_rd lv 2 with
    | some (.inr (.inr (.inl (some k)))) => C 621 lv (vR k :: st) h kc ks
    | some (.inr (.inr (.inr t))) => C 621 lv (vT t :: st) h kc ks
    | _ => False) := rfl
theorem g160_621  : mm_step (mm_rw mr_160) (some .boolean) tb call Q C 621 lv st h kc ks = (match mm_rd lv 0 with
    | some (.inr (.inr (.inl (some k)))) => C 622 lv (vR k :: st) h kc ks
    | some (.inr (.inr (.inr t))) => C 622 lv (vT t :: st) h kc ks
    | _ => False) := rfl
theorem g160_622  : mm_step (mm_rw mr_160) (some .boolean) tb call Q C 622 lv st h kc ks = (match mm_rd lv 3 with
    | some (.inl a) => C 623 lv (vI a :: st) h kc ks
    | _ => False) := rfl
theorem g160_623  : mm_step (mm_rw mr_160) (some .boolean) tb call Q C 623 lv st h kc ks = (C 624 lv (vI 1 :: st) h kc ks) := rfl
theorem g160_624 (a b : Int32) : mm_step (mm_rw mr_160) (some .boolean) tb call Q C 624 lv (.inl b :: .inl a :: st) h kc ks = (C 625 lv (vI (a + b) :: st) h kc ks) := rfl
theorem g160_625 (i : Int32) (k : Nat) : mm_step (mm_rw mr_160) (some .boolean) tb call Q C 625 lv (.inl i :: .inr (.inr (.inl (some k))) :: st) h kc ks = (match h.2 k with
    | some (.inl (.int, n, f)) => vp_in i n ∧ C 626 lv (vI (f i.toNatClampNeg) :: st) h kc ks
    | _ => False) := rfl
theorem g160_625t (i : Int32) (t : Nat) : mm_step (mm_rw mr_160) (some .boolean) tb call Q C 625 lv (.inl i :: .inr (.inr (.inr t)) :: st) h kc ks = (vp_in i (tb t).1 ∧ C 626 lv (vI ((tb t).2 i.toNatClampNeg) :: st) h kc ks) := rfl
theorem g160_626  : mm_step (mm_rw mr_160) (some .boolean) tb call Q C 626 lv st h kc ks = (match mm_rd lv 0 with
    | some (.inr (.inr (.inl (some k)))) => C 627 lv (vR k :: st) h kc ks
    | some (.inr (.inr (.inr t))) => C 627 lv (vT t :: st) h kc ks
    | _ => False) := rfl
theorem g160_627  : mm_step (mm_rw mr_160) (some .boolean) tb call Q C 627 lv st h kc ks = (match mm_rd lv 3 with
    | some (.inl a) => C 628 lv (vI a :: st) h kc ks
    | _ => False) := rfl
theorem g160_628  : mm_step (mm_rw mr_160) (some .boolean) tb call Q C 628 lv st h kc ks = (C 629 lv (vI 2 :: st) h kc ks) := rfl
theorem g160_629 (a b : Int32) : mm_step (mm_rw mr_160) (some .boolean) tb call Q C 629 lv (.inl b :: .inl a :: st) h kc ks = (C 630 lv (vI (a + b) :: st) h kc ks) := rfl
theorem g160_630 (i : Int32) (k : Nat) : mm_step (mm_rw mr_160) (some .boolean) tb call Q C 630 lv (.inl i :: .inr (.inr (.inl (some k))) :: st) h kc ks = (match h.2 k with
    | some (.inl (.int, n, f)) => vp_in i n ∧ C 631 lv (vI (f i.toNatClampNeg) :: st) h kc ks
    | _ => False) := rfl
theorem g160_630t (i : Int32) (t : Nat) : mm_step (mm_rw mr_160) (some .boolean) tb call Q C 630 lv (.inl i :: .inr (.inr (.inr t)) :: st) h kc ks = (vp_in i (tb t).1 ∧ C 631 lv (vI ((tb t).2 i.toNatClampNeg) :: st) h kc ks) := rfl
theorem g160_631  : mm_step (mm_rw mr_160) (some .boolean) tb call Q C 631 lv st h kc ks = ((match (st.take 3).reverse with
    | .inr (.inr (.inl (some k))) :: _ => (match h.2 k with
      | some (.inr (.inr (ci, _))) => mm_cn ci = (mm_mi 136).1.cls
      | _ => False)
    | _ => False) ∧ mm_call call C 136 3 631 lv st h kc ks) := rfl
theorem g160_634 (a b : Int32) : mm_step (mm_rw mr_160) (some .boolean) tb call Q C 634 lv (.inl b :: .inl a :: st) h kc ks = ((a = b → C 1006 lv st h kc ks) ∧ (¬ a = b → C 637 lv st h kc ks)) := rfl
theorem g160_637  : mm_step (mm_rw mr_160) (some .boolean) tb call Q C 637 lv st h kc ks = (C 638 lv (vI 0 :: st) h kc ks) := rfl
theorem g160_638 (v : Int32) : mm_step (mm_rw mr_160) (some .boolean) tb call Q C 638 lv [.inl v] h kc ks = ((v = 0 ∨ v = 1) ∧ Q (some (vI v)) h) := rfl
theorem g160_639  : mm_step (mm_rw mr_160) (some .boolean) tb call Q C 639 lv st h kc ks = (match mm_rd lv 1 with
    | some (.inr (.inr (.inl (some k)))) => C 640 lv (vR k :: st) h kc ks
    | some (.inr (.inr (.inr t))) => C 640 lv (vT t :: st) h kc ks
    | _ => False) := rfl
theorem g160_640  : mm_step (mm_rw mr_160) (some .boolean) tb call Q C 640 lv st h kc ks = ((match (st.take 1).reverse with
    | .inr (.inr (.inl (some k))) :: _ => (match h.2 k with
      | some (.inr (.inr (ci, _))) => mm_cn ci = (mm_mi 72).1.cls
      | _ => False)
    | _ => False) ∧ mm_call call C 72 1 640 lv st h kc ks) := rfl
theorem g160_643  : mm_step (mm_rw mr_160) (some .boolean) tb call Q C 643 lv st h kc ks = (match mm_rd lv 2 with
    | some (.inr (.inr (.inl (some k)))) => C 644 lv (vR k :: st) h kc ks
    | some (.inr (.inr (.inr t))) => C 644 lv (vT t :: st) h kc ks
    | _ => False) := rfl
theorem g160_644  : mm_step (mm_rw mr_160) (some .boolean) tb call Q C 644 lv st h kc ks = ((match (st.take 1).reverse with
    | .inr (.inr (.inl (some k))) :: _ => (match h.2 k with
      | some (.inr (.inr (ci, _))) => mm_cn ci = (mm_mi 139).1.cls
      | _ => False)
    | _ => False) ∧ mm_call call C 139 1 644 lv st h kc ks) := rfl
theorem g160_647 (a b : Int32) : mm_step (mm_rw mr_160) (some .boolean) tb call Q C 647 lv (.inl b :: .inl a :: st) h kc ks = ((a = b → C 1006 lv st h kc ks) ∧ (¬ a = b → C 650 lv st h kc ks)) := rfl
theorem g160_650  : mm_step (mm_rw mr_160) (some .boolean) tb call Q C 650 lv st h kc ks = (C 651 lv (vI 0 :: st) h kc ks) := rfl
theorem g160_651 (v : Int32) : mm_step (mm_rw mr_160) (some .boolean) tb call Q C 651 lv [.inl v] h kc ks = ((v = 0 ∨ v = 1) ∧ Q (some (vI v)) h) := rfl
theorem g160_652  : mm_step (mm_rw mr_160) (some .boolean) tb call Q C 652 lv st h kc ks = (match mm_rd lv 1 with
    | some (.inr (.inr (.inl (some k)))) => C 653 lv (vR k :: st) h kc ks
    | some (.inr (.inr (.inr t))) => C 653 lv (vT t :: st) h kc ks
    | _ => False) := rfl
theorem g160_653  : mm_step (mm_rw mr_160) (some .boolean) tb call Q C 653 lv st h kc ks = (match mm_rd lv 0 with
    | some (.inr (.inr (.inl (some k)))) => C 654 lv (vR k :: st) h kc ks
    | some (.inr (.inr (.inr t))) => C 654 lv (vT t :: st) h kc ks
    | _ => False) := rfl
theorem g160_654  : mm_step (mm_rw mr_160) (some .boolean) tb call Q C 654 lv st h kc ks = (match mm_rd lv 3 with
    | some (.inl a) => C 655 lv (vI a :: st) h kc ks
    | _ => False) := rfl
theorem g160_655  : mm_step (mm_rw mr_160) (some .boolean) tb call Q C 655 lv st h kc ks = (C 656 lv (vI 1 :: st) h kc ks) := rfl
theorem g160_656 (a b : Int32) : mm_step (mm_rw mr_160) (some .boolean) tb call Q C 656 lv (.inl b :: .inl a :: st) h kc ks = (C 657 lv (vI (a + b) :: st) h kc ks) := rfl
theorem g160_657 (i : Int32) (k : Nat) : mm_step (mm_rw mr_160) (some .boolean) tb call Q C 657 lv (.inl i :: .inr (.inr (.inl (some k))) :: st) h kc ks = (match h.2 k with
    | some (.inl (.int, n, f)) => vp_in i n ∧ C 658 lv (vI (f i.toNatClampNeg) :: st) h kc ks
    | _ => False) := rfl
theorem g160_657t (i : Int32) (t : Nat) : mm_step (mm_rw mr_160) (some .boolean) tb call Q C 657 lv (.inl i :: .inr (.inr (.inr t)) :: st) h kc ks = (vp_in i (tb t).1 ∧ C 658 lv (vI ((tb t).2 i.toNatClampNeg) :: st) h kc ks) := rfl
theorem g160_658  : mm_step (mm_rw mr_160) (some .boolean) tb call Q C 658 lv st h kc ks = ((match (st.take 2).reverse with
    | .inr (.inr (.inl (some k))) :: _ => (match h.2 k with
      | some (.inr (.inr (ci, _))) => mm_cn ci = (mm_mi 73).1.cls
      | _ => False)
    | _ => False) ∧ mm_call call C 73 2 658 lv st h kc ks) := rfl
theorem g160_661  : mm_step (mm_rw mr_160) (some .boolean) tb call Q C 661 lv st h kc ks = (match mm_rd lv 2 with
    | some (.inr (.inr (.inl (some k)))) => C 662 lv (vR k :: st) h kc ks
    | some (.inr (.inr (.inr t))) => C 662 lv (vT t :: st) h kc ks
    | _ => False) := rfl
theorem g160_662  : mm_step (mm_rw mr_160) (some .boolean) tb call Q C 662 lv st h kc ks = (match mm_rd lv 0 with
    | some (.inr (.inr (.inl (some k)))) => C 663 lv (vR k :: st) h kc ks
    | some (.inr (.inr (.inr t))) => C 663 lv (vT t :: st) h kc ks
    | _ => False) := rfl
theorem g160_663  : mm_step (mm_rw mr_160) (some .boolean) tb call Q C 663 lv st h kc ks = (match mm_rd lv 3 with
    | some (.inl a) => C 664 lv (vI a :: st) h kc ks
    | _ => False) := rfl
theorem g160_664  : mm_step (mm_rw mr_160) (some .boolean) tb call Q C 664 lv st h kc ks = (C 665 lv (vI 1 :: st) h kc ks) := rfl
theorem g160_665 (a b : Int32) : mm_step (mm_rw mr_160) (some .boolean) tb call Q C 665 lv (.inl b :: .inl a :: st) h kc ks = (C 666 lv (vI (a + b) :: st) h kc ks) := rfl
theorem g160_666 (i : Int32) (k : Nat) : mm_step (mm_rw mr_160) (some .boolean) tb call Q C 666 lv (.inl i :: .inr (.inr (.inl (some k))) :: st) h kc ks = (match h.2 k with
    | some (.inl (.int, n, f)) => vp_in i n ∧ C 667 lv (vI (f i.toNatClampNeg) :: st) h kc ks
    | _ => False) := rfl
theorem g160_666t (i : Int32) (t : Nat) : mm_step (mm_rw mr_160) (some .boolean) tb call Q C 666 lv (.inl i :: .inr (.inr (.inr t)) :: st) h kc ks = (vp_in i (tb t).1 ∧ C 667 lv (vI ((tb t).2 i.toNatClampNeg) :: st) h kc ks) := rfl
theorem g160_667  : mm_step (mm_rw mr_160) (some .boolean) tb call Q C 667 lv st h kc ks = ((match (st.take 2).reverse with
    | .inr (.inr (.inl (some k))) :: _ => (match h.2 k with
      | some (.inr (.inr (ci, _))) => mm_cn ci = (mm_mi 140).1.cls
      | _ => False)
    | _ => False) ∧ mm_call call C 140 2 667 lv st h kc ks) := rfl
theorem g160_670 (a b : Int32) : mm_step (mm_rw mr_160) (some .boolean) tb call Q C 670 lv (.inl b :: .inl a :: st) h kc ks = ((a = b → C 1006 lv st h kc ks) ∧ (¬ a = b → C 673 lv st h kc ks)) := rfl
theorem g160_673  : mm_step (mm_rw mr_160) (some .boolean) tb call Q C 673 lv st h kc ks = (C 674 lv (vI 0 :: st) h kc ks) := rfl
theorem g160_674 (v : Int32) : mm_step (mm_rw mr_160) (some .boolean) tb call Q C 674 lv [.inl v] h kc ks = ((v = 0 ∨ v = 1) ∧ Q (some (vI v)) h) := rfl
theorem g160_675  : mm_step (mm_rw mr_160) (some .boolean) tb call Q C 675 lv st h kc ks = (match mm_rd lv 1 with
    | some (.inr (.inr (.inl (some k)))) => C 676 lv (vR k :: st) h kc ks
    | some (.inr (.inr (.inr t))) => C 676 lv (vT t :: st) h kc ks
    | _ => False) := rfl
theorem g160_676  : mm_step (mm_rw mr_160) (some .boolean) tb call Q C 676 lv st h kc ks = (match mm_rd lv 0 with
    | some (.inr (.inr (.inl (some k)))) => C 677 lv (vR k :: st) h kc ks
    | some (.inr (.inr (.inr t))) => C 677 lv (vT t :: st) h kc ks
    | _ => False) := rfl
theorem g160_677  : mm_step (mm_rw mr_160) (some .boolean) tb call Q C 677 lv st h kc ks = (match mm_rd lv 3 with
    | some (.inl a) => C 678 lv (vI a :: st) h kc ks
    | _ => False) := rfl
theorem g160_678  : mm_step (mm_rw mr_160) (some .boolean) tb call Q C 678 lv st h kc ks = (C 679 lv (vI 1 :: st) h kc ks) := rfl
theorem g160_679 (a b : Int32) : mm_step (mm_rw mr_160) (some .boolean) tb call Q C 679 lv (.inl b :: .inl a :: st) h kc ks = (C 680 lv (vI (a + b) :: st) h kc ks) := rfl
theorem g160_680 (i : Int32) (k : Nat) : mm_step (mm_rw mr_160) (some .boolean) tb call Q C 680 lv (.inl i :: .inr (.inr (.inl (some k))) :: st) h kc ks = (match h.2 k with
    | some (.inl (.int, n, f)) => vp_in i n ∧ C 681 lv (vI (f i.toNatClampNeg) :: st) h kc ks
    | _ => False) := rfl
theorem g160_680t (i : Int32) (t : Nat) : mm_step (mm_rw mr_160) (some .boolean) tb call Q C 680 lv (.inl i :: .inr (.inr (.inr t)) :: st) h kc ks = (vp_in i (tb t).1 ∧ C 681 lv (vI ((tb t).2 i.toNatClampNeg) :: st) h kc ks) := rfl
theorem g160_681  : mm_step (mm_rw mr_160) (some .boolean) tb call Q C 681 lv st h kc ks = (match mm_rd lv 0 with
    | some (.inr (.inr (.inl (some k)))) => C 682 lv (vR k :: st) h kc ks
    | some (.inr (.inr (.inr t))) => C 682 lv (vT t :: st) h kc ks
    | _ => False) := rfl
theorem g160_682  : mm_step (mm_rw mr_160) (some .boolean) tb call Q C 682 lv st h kc ks = (match mm_rd lv 3 with
    | some (.inl a) => C 683 lv (vI a :: st) h kc ks
    | _ => False) := rfl
theorem g160_683  : mm_step (mm_rw mr_160) (some .boolean) tb call Q C 683 lv st h kc ks = (C 684 lv (vI 2 :: st) h kc ks) := rfl
theorem g160_684 (a b : Int32) : mm_step (mm_rw mr_160) (some .boolean) tb call Q C 684 lv (.inl b :: .inl a :: st) h kc ks = (C 685 lv (vI (a + b) :: st) h kc ks) := rfl
theorem g160_685 (i : Int32) (k : Nat) : mm_step (mm_rw mr_160) (some .boolean) tb call Q C 685 lv (.inl i :: .inr (.inr (.inl (some k))) :: st) h kc ks = (match h.2 k with
    | some (.inl (.int, n, f)) => vp_in i n ∧ C 686 lv (vI (f i.toNatClampNeg) :: st) h kc ks
    | _ => False) := rfl
theorem g160_685t (i : Int32) (t : Nat) : mm_step (mm_rw mr_160) (some .boolean) tb call Q C 685 lv (.inl i :: .inr (.inr (.inr t)) :: st) h kc ks = (vp_in i (tb t).1 ∧ C 686 lv (vI ((tb t).2 i.toNatClampNeg) :: st) h kc ks) := rfl
theorem g160_686  : mm_step (mm_rw mr_160) (some .boolean) tb call Q C 686 lv st h kc ks = ((match (st.take 3).reverse with
    | .inr (.inr (.inl (some k))) :: _ => (match h.2 k with
      | some (.inr (.inr (ci, _))) => mm_cn ci = (mm_mi 74).1.cls
      | _ => False)
    | _ => False) ∧ mm_call call C 74 3 686 lv st h kc ks) := rfl
theorem g160_689  : mm_step (mm_rw mr_160) (some .boolean) tb call Q C 689 lv st h kc ks = (match mm_rd lv 2 with
    | some (.inr (.inr (.inl (some k)))) => C 690 lv (vR k :: st) h kc ks
    | some (.inr (.inr (.inr t))) => C 690 lv (vT t :: st) h kc ks
    | _ => False) := rfl
theorem g160_690  : mm_step (mm_rw mr_160) (some .boolean) tb call Q C 690 lv st h kc ks = (match mm_rd lv 0 with
    | some (.inr (.inr (.inl (some k)))) => C 691 lv (vR k :: st) h kc ks
    | some (.inr (.inr (.inr t))) => C 691 lv (vT t :: st) h kc ks
    | _ => False) := rfl
theorem g160_691  : mm_step (mm_rw mr_160) (some .boolean) tb call Q C 691 lv st h kc ks = (match mm_rd lv 3 with
    | some (.inl a) => C 692 lv (vI a :: st) h kc ks
    | _ => False) := rfl
theorem g160_692  : mm_step (mm_rw mr_160) (some .boolean) tb call Q C 692 lv st h kc ks = (C 693 lv (vI 1 :: st) h kc ks) := rfl
theorem g160_693 (a b : Int32) : mm_step (mm_rw mr_160) (some .boolean) tb call Q C 693 lv (.inl b :: .inl a :: st) h kc ks = (C 694 lv (vI (a + b) :: st) h kc ks) := rfl
theorem g160_694 (i : Int32) (k : Nat) : mm_step (mm_rw mr_160) (some .boolean) tb call Q C 694 lv (.inl i :: .inr (.inr (.inl (some k))) :: st) h kc ks = (match h.2 k with
    | some (.inl (.int, n, f)) => vp_in i n ∧ C 695 lv (vI (f i.toNatClampNeg) :: st) h kc ks
    | _ => False) := rfl
theorem g160_694t (i : Int32) (t : Nat) : mm_step (mm_rw mr_160) (some .boolean) tb call Q C 694 lv (.inl i :: .inr (.inr (.inr t)) :: st) h kc ks = (vp_in i (tb t).1 ∧ C 695 lv (vI ((tb t).2 i.toNatClampNeg) :: st) h kc ks) := rfl
theorem g160_695  : mm_step (mm_rw mr_160) (some .boolean) tb call Q C 695 lv st h kc ks = (match mm_rd lv 0 with
    | some (.inr (.inr (.inl (some k)))) => C 696 lv (vR k :: st) h kc ks
    | some (.inr (.inr (.inr t))) => C 696 lv (vT t :: st) h kc ks
    | _ => False) := rfl
theorem g160_696  : mm_step (mm_rw mr_160) (some .boolean) tb call Q C 696 lv st h kc ks = (match mm_rd lv 3 with
    | some (.inl a) => C 697 lv (vI a :: st) h kc ks
    | _ => False) := rfl
theorem g160_697  : mm_step (mm_rw mr_160) (some .boolean) tb call Q C 697 lv st h kc ks = (C 698 lv (vI 2 :: st) h kc ks) := rfl
theorem g160_698 (a b : Int32) : mm_step (mm_rw mr_160) (some .boolean) tb call Q C 698 lv (.inl b :: .inl a :: st) h kc ks = (C 699 lv (vI (a + b) :: st) h kc ks) := rfl
theorem g160_699 (i : Int32) (k : Nat) : mm_step (mm_rw mr_160) (some .boolean) tb call Q C 699 lv (.inl i :: .inr (.inr (.inl (some k))) :: st) h kc ks = (match h.2 k with
    | some (.inl (.int, n, f)) => vp_in i n ∧ C 700 lv (vI (f i.toNatClampNeg) :: st) h kc ks
    | _ => False) := rfl
theorem g160_699t (i : Int32) (t : Nat) : mm_step (mm_rw mr_160) (some .boolean) tb call Q C 699 lv (.inl i :: .inr (.inr (.inr t)) :: st) h kc ks = (vp_in i (tb t).1 ∧ C 700 lv (vI ((tb t).2 i.toNatClampNeg) :: st) h kc ks) := rfl
set_option maxRecDepth 4000 in
theorem g160_700  : mm_step (mm_rw mr_160) (some .boolean) tb call Q C 700 lv st h kc ks = ((match (st.take 3).reverse with
    | .inr (.inr (.inl (some k))) :: _ => (match h.2 k with
      | some (.inr (.inr (ci, _))) => mm_cn ci = (mm_mi 141).1.cls
      | _ => False)
    | _ => False) ∧ mm_call call C 141 3 700 lv st h kc ks) := rfl
set_option maxRecDepth 4000 in
theorem g160_703 (a b : Int32) : mm_step (mm_rw mr_160) (some .boolean) tb call Q C 703 lv (.inl b :: .inl a :: st) h kc ks = ((a = b → C 1006 lv st h kc ks) ∧ (¬ a = b → C 706 lv st h kc ks)) := rfl
set_option maxRecDepth 4000 in
theorem g160_706  : mm_step (mm_rw mr_160) (some .boolean) tb call Q C 706 lv st h kc ks = (C 707 lv (vI 0 :: st) h kc ks) := rfl
set_option maxRecDepth 4000 in
theorem g160_707 (v : Int32) : mm_step (mm_rw mr_160) (some .boolean) tb call Q C 707 lv [.inl v] h kc ks = ((v = 0 ∨ v = 1) ∧ Q (some (vI v)) h) := rfl
set_option maxRecDepth 4000 in
theorem g160_708  : mm_step (mm_rw mr_160) (some .boolean) tb call Q C 708 lv st h kc ks = (match mm_rd lv 1 with
    | some (.inr (.inr (.inl (some k)))) => C 709 lv (vR k :: st) h kc ks
    | some (.inr (.inr (.inr t))) => C 709 lv (vT t :: st) h kc ks
    | _ => False) := rfl
set_option maxRecDepth 4000 in
theorem g160_709  : mm_step (mm_rw mr_160) (some .boolean) tb call Q C 709 lv st h kc ks = ((match (st.take 1).reverse with
    | .inr (.inr (.inl (some k))) :: _ => (match h.2 k with
      | some (.inr (.inr (ci, _))) => mm_cn ci = (mm_mi 75).1.cls
      | _ => False)
    | _ => False) ∧ mm_call call C 75 1 709 lv st h kc ks) := rfl
set_option maxRecDepth 4000 in
theorem g160_712  : mm_step (mm_rw mr_160) (some .boolean) tb call Q C 712 lv st h kc ks = (match mm_rd lv 2 with
    | some (.inr (.inr (.inl (some k)))) => C 713 lv (vR k :: st) h kc ks
    | some (.inr (.inr (.inr t))) => C 713 lv (vT t :: st) h kc ks
    | _ => False) := rfl
set_option maxRecDepth 4000 in
theorem g160_713  : mm_step (mm_rw mr_160) (some .boolean) tb call Q C 713 lv st h kc ks = ((match (st.take 1).reverse with
    | .inr (.inr (.inl (some k))) :: _ => (match h.2 k with
      | some (.inr (.inr (ci, _))) => mm_cn ci = (mm_mi 142).1.cls
      | _ => False)
    | _ => False) ∧ mm_call call C 142 1 713 lv st h kc ks) := rfl
set_option maxRecDepth 4000 in
theorem g160_716 (a b : Int32) : mm_step (mm_rw mr_160) (some .boolean) tb call Q C 716 lv (.inl b :: .inl a :: st) h kc ks = ((a = b → C 1006 lv st h kc ks) ∧ (¬ a = b → C 719 lv st h kc ks)) := rfl
set_option maxRecDepth 4000 in
theorem g160_719  : mm_step (mm_rw mr_160) (some .boolean) tb call Q C 719 lv st h kc ks = (C 720 lv (vI 0 :: st) h kc ks) := rfl
set_option maxRecDepth 4000 in
theorem g160_720 (v : Int32) : mm_step (mm_rw mr_160) (some .boolean) tb call Q C 720 lv [.inl v] h kc ks = ((v = 0 ∨ v = 1) ∧ Q (some (vI v)) h) := rfl
set_option maxRecDepth 4000 in
theorem g160_721  : mm_step (mm_rw mr_160) (some .boolean) tb call Q C 721 lv st h kc ks = (match mm_rd lv 1 with
    | some (.inr (.inr (.inl (some k)))) => C 722 lv (vR k :: st) h kc ks
    | some (.inr (.inr (.inr t))) => C 722 lv (vT t :: st) h kc ks
    | _ => False) := rfl
set_option maxRecDepth 4000 in
theorem g160_722  : mm_step (mm_rw mr_160) (some .boolean) tb call Q C 722 lv st h kc ks = ((match (st.take 1).reverse with
    | .inr (.inr (.inl (some k))) :: _ => (match h.2 k with
      | some (.inr (.inr (ci, _))) => mm_cn ci = (mm_mi 76).1.cls
      | _ => False)
    | _ => False) ∧ mm_call call C 76 1 722 lv st h kc ks) := rfl
set_option maxRecDepth 4000 in
theorem g160_725  : mm_step (mm_rw mr_160) (some .boolean) tb call Q C 725 lv st h kc ks = (match mm_rd lv 2 with
    | some (.inr (.inr (.inl (some k)))) => C 726 lv (vR k :: st) h kc ks
    | some (.inr (.inr (.inr t))) => C 726 lv (vT t :: st) h kc ks
    | _ => False) := rfl
set_option maxRecDepth 4000 in
theorem g160_726  : mm_step (mm_rw mr_160) (some .boolean) tb call Q C 726 lv st h kc ks = ((match (st.take 1).reverse with
    | .inr (.inr (.inl (some k))) :: _ => (match h.2 k with
      | some (.inr (.inr (ci, _))) => mm_cn ci = (mm_mi 147).1.cls
      | _ => False)
    | _ => False) ∧ mm_call call C 147 1 726 lv st h kc ks) := rfl
set_option maxRecDepth 4000 in
theorem g160_729 (a b : Int32) : mm_step (mm_rw mr_160) (some .boolean) tb call Q C 729 lv (.inl b :: .inl a :: st) h kc ks = ((a = b → C 1006 lv st h kc ks) ∧ (¬ a = b → C 732 lv st h kc ks)) := rfl
set_option maxRecDepth 4000 in
theorem g160_732  : mm_step (mm_rw mr_160) (some .boolean) tb call Q C 732 lv st h kc ks = (C 733 lv (vI 0 :: st) h kc ks) := rfl
set_option maxRecDepth 4000 in
theorem g160_733 (v : Int32) : mm_step (mm_rw mr_160) (some .boolean) tb call Q C 733 lv [.inl v] h kc ks = ((v = 0 ∨ v = 1) ∧ Q (some (vI v)) h) := rfl
set_option maxRecDepth 4000 in
theorem g160_734  : mm_step (mm_rw mr_160) (some .boolean) tb call Q C 734 lv st h kc ks = (match mm_rd lv 1 with
    | some (.inr (.inr (.inl (some k)))) => C 735 lv (vR k :: st) h kc ks
    | some (.inr (.inr (.inr t))) => C 735 lv (vT t :: st) h kc ks
    | _ => False) := rfl
set_option maxRecDepth 4000 in
theorem g160_735  : mm_step (mm_rw mr_160) (some .boolean) tb call Q C 735 lv st h kc ks = (match mm_rd lv 0 with
    | some (.inr (.inr (.inl (some k)))) => C 736 lv (vR k :: st) h kc ks
    | some (.inr (.inr (.inr t))) => C 736 lv (vT t :: st) h kc ks
    | _ => False) := rfl
set_option maxRecDepth 4000 in
theorem g160_736  : mm_step (mm_rw mr_160) (some .boolean) tb call Q C 736 lv st h kc ks = (match mm_rd lv 3 with
    | some (.inl a) => C 737 lv (vI a :: st) h kc ks
    | _ => False) := rfl
set_option maxRecDepth 4000 in
theorem g160_737  : mm_step (mm_rw mr_160) (some .boolean) tb call Q C 737 lv st h kc ks = (C 738 lv (vI 1 :: st) h kc ks) := rfl
set_option maxRecDepth 4000 in
theorem g160_738 (a b : Int32) : mm_step (mm_rw mr_160) (some .boolean) tb call Q C 738 lv (.inl b :: .inl a :: st) h kc ks = (C 739 lv (vI (a + b) :: st) h kc ks) := rfl
set_option maxRecDepth 4000 in
theorem g160_739 (i : Int32) (k : Nat) : mm_step (mm_rw mr_160) (some .boolean) tb call Q C 739 lv (.inl i :: .inr (.inr (.inl (some k))) :: st) h kc ks = (match h.2 k with
    | some (.inl (.int, n, f)) => vp_in i n ∧ C 740 lv (vI (f i.toNatClampNeg) :: st) h kc ks
    | _ => False) := rfl
set_option maxRecDepth 4000 in
theorem g160_739t (i : Int32) (t : Nat) : mm_step (mm_rw mr_160) (some .boolean) tb call Q C 739 lv (.inl i :: .inr (.inr (.inr t)) :: st) h kc ks = (vp_in i (tb t).1 ∧ C 740 lv (vI ((tb t).2 i.toNatClampNeg) :: st) h kc ks) := rfl
set_option maxRecDepth 4000 in
theorem g160_740  : mm_step (mm_rw mr_160) (some .boolean) tb call Q C 740 lv st h kc ks = ((match (st.take 2).reverse with
    | .inr (.inr (.inl (some k))) :: _ => (match h.2 k with
      | some (.inr (.inr (ci, _))) => mm_cn ci = (mm_mi 77).1.cls
      | _ => False)
    | _ => False) ∧ mm_call call C 77 2 740 lv st h kc ks) := rfl
set_option maxRecDepth 4000 in
theorem g160_743  : mm_step (mm_rw mr_160) (some .boolean) tb call Q C 743 lv st h kc ks = (match mm_rd lv 2 with
    | some (.inr (.inr (.inl (some k)))) => C 744 lv (vR k :: st) h kc ks
    | some (.inr (.inr (.inr t))) => C 744 lv (vT t :: st) h kc ks
    | _ => False) := rfl
set_option maxRecDepth 4000 in
theorem g160_744  : mm_step (mm_rw mr_160) (some .boolean) tb call Q C 744 lv st h kc ks = (match mm_rd lv 0 with
    | some (.inr (.inr (.inl (some k)))) => C 745 lv (vR k :: st) h kc ks
    | some (.inr (.inr (.inr t))) => C 745 lv (vT t :: st) h kc ks
    | _ => False) := rfl
set_option maxRecDepth 4000 in
theorem g160_745  : mm_step (mm_rw mr_160) (some .boolean) tb call Q C 745 lv st h kc ks = (match mm_rd lv 3 with
    | some (.inl a) => C 746 lv (vI a :: st) h kc ks
    | _ => False) := rfl
set_option maxRecDepth 4000 in
theorem g160_746  : mm_step (mm_rw mr_160) (some .boolean) tb call Q C 746 lv st h kc ks = (C 747 lv (vI 1 :: st) h kc ks) := rfl
set_option maxRecDepth 4000 in
theorem g160_747 (a b : Int32) : mm_step (mm_rw mr_160) (some .boolean) tb call Q C 747 lv (.inl b :: .inl a :: st) h kc ks = (C 748 lv (vI (a + b) :: st) h kc ks) := rfl
set_option maxRecDepth 4000 in
theorem g160_748 (i : Int32) (k : Nat) : mm_step (mm_rw mr_160) (some .boolean) tb call Q C 748 lv (.inl i :: .inr (.inr (.inl (some k))) :: st) h kc ks = (match h.2 k with
    | some (.inl (.int, n, f)) => vp_in i n ∧ C 749 lv (vI (f i.toNatClampNeg) :: st) h kc ks
    | _ => False) := rfl
set_option maxRecDepth 4000 in
theorem g160_748t (i : Int32) (t : Nat) : mm_step (mm_rw mr_160) (some .boolean) tb call Q C 748 lv (.inl i :: .inr (.inr (.inr t)) :: st) h kc ks = (vp_in i (tb t).1 ∧ C 749 lv (vI ((tb t).2 i.toNatClampNeg) :: st) h kc ks) := rfl
set_option maxRecDepth 4000 in
theorem g160_749  : mm_step (mm_rw mr_160) (some .boolean) tb call Q C 749 lv st h kc ks = ((match (st.take 2).reverse with
    | .inr (.inr (.inl (some k))) :: _ => (match h.2 k with
      | some (.inr (.inr (ci, _))) => mm_cn ci = (mm_mi 148).1.cls
      | _ => False)
    | _ => False) ∧ mm_call call C 148 2 749 lv st h kc ks) := rfl
set_option maxRecDepth 4000 in
theorem g160_752 (a b : Int32) : mm_step (mm_rw mr_160) (some .boolean) tb call Q C 752 lv (.inl b :: .inl a :: st) h kc ks = ((a = b → C 1006 lv st h kc ks) ∧ (¬ a = b → C 755 lv st h kc ks)) := rfl
set_option maxRecDepth 4000 in
theorem g160_755  : mm_step (mm_rw mr_160) (some .boolean) tb call Q C 755 lv st h kc ks = (C 756 lv (vI 0 :: st) h kc ks) := rfl
set_option maxRecDepth 4000 in
theorem g160_756 (v : Int32) : mm_step (mm_rw mr_160) (some .boolean) tb call Q C 756 lv [.inl v] h kc ks = ((v = 0 ∨ v = 1) ∧ Q (some (vI v)) h) := rfl
set_option maxRecDepth 4000 in
theorem g160_757  : mm_step (mm_rw mr_160) (some .boolean) tb call Q C 757 lv st h kc ks = (match mm_rd lv 1 with
    | some (.inr (.inr (.inl (some k)))) => C 758 lv (vR k :: st) h kc ks
    | some (.inr (.inr (.inr t))) => C 758 lv (vT t :: st) h kc ks
    | _ => False) := rfl
set_option maxRecDepth 4000 in
theorem g160_758  : mm_step (mm_rw mr_160) (some .boolean) tb call Q C 758 lv st h kc ks = ((match (st.take 1).reverse with
    | .inr (.inr (.inl (some k))) :: _ => (match h.2 k with
      | some (.inr (.inr (ci, _))) => mm_cn ci = (mm_mi 78).1.cls
      | _ => False)
    | _ => False) ∧ mm_call call C 78 1 758 lv st h kc ks) := rfl
set_option maxRecDepth 4000 in
theorem g160_761  : mm_step (mm_rw mr_160) (some .boolean) tb call Q C 761 lv st h kc ks = (match mm_rd lv 2 with
    | some (.inr (.inr (.inl (some k)))) => C 762 lv (vR k :: st) h kc ks
    | some (.inr (.inr (.inr t))) => C 762 lv (vT t :: st) h kc ks
    | _ => False) := rfl
set_option maxRecDepth 4000 in
theorem g160_762  : mm_step (mm_rw mr_160) (some .boolean) tb call Q C 762 lv st h kc ks = ((match (st.take 1).reverse with
    | .inr (.inr (.inl (some k))) :: _ => (match h.2 k with
      | some (.inr (.inr (ci, _))) => mm_cn ci = (mm_mi 150).1.cls
      | _ => False)
    | _ => False) ∧ mm_call call C 150 1 762 lv st h kc ks) := rfl
set_option maxRecDepth 4000 in
theorem g160_765 (a b : Int32) : mm_step (mm_rw mr_160) (some .boolean) tb call Q C 765 lv (.inl b :: .inl a :: st) h kc ks = ((a = b → C 1006 lv st h kc ks) ∧ (¬ a = b → C 768 lv st h kc ks)) := rfl
set_option maxRecDepth 4000 in
theorem g160_768  : mm_step (mm_rw mr_160) (some .boolean) tb call Q C 768 lv st h kc ks = (C 769 lv (vI 0 :: st) h kc ks) := rfl
set_option maxRecDepth 4000 in
theorem g160_769 (v : Int32) : mm_step (mm_rw mr_160) (some .boolean) tb call Q C 769 lv [.inl v] h kc ks = ((v = 0 ∨ v = 1) ∧ Q (some (vI v)) h) := rfl
set_option maxRecDepth 4000 in
theorem g160_770  : mm_step (mm_rw mr_160) (some .boolean) tb call Q C 770 lv st h kc ks = (match mm_rd lv 1 with
    | some (.inr (.inr (.inl (some k)))) => C 771 lv (vR k :: st) h kc ks
    | some (.inr (.inr (.inr t))) => C 771 lv (vT t :: st) h kc ks
    | _ => False) := rfl
set_option maxRecDepth 4000 in
theorem g160_771  : mm_step (mm_rw mr_160) (some .boolean) tb call Q C 771 lv st h kc ks = (match mm_rd lv 0 with
    | some (.inr (.inr (.inl (some k)))) => C 772 lv (vR k :: st) h kc ks
    | some (.inr (.inr (.inr t))) => C 772 lv (vT t :: st) h kc ks
    | _ => False) := rfl
set_option maxRecDepth 4000 in
theorem g160_772  : mm_step (mm_rw mr_160) (some .boolean) tb call Q C 772 lv st h kc ks = (match mm_rd lv 3 with
    | some (.inl a) => C 773 lv (vI a :: st) h kc ks
    | _ => False) := rfl
set_option maxRecDepth 4000 in
theorem g160_773  : mm_step (mm_rw mr_160) (some .boolean) tb call Q C 773 lv st h kc ks = (C 774 lv (vI 1 :: st) h kc ks) := rfl
set_option maxRecDepth 4000 in
theorem g160_774 (a b : Int32) : mm_step (mm_rw mr_160) (some .boolean) tb call Q C 774 lv (.inl b :: .inl a :: st) h kc ks = (C 775 lv (vI (a + b) :: st) h kc ks) := rfl
set_option maxRecDepth 4000 in
theorem g160_775 (i : Int32) (k : Nat) : mm_step (mm_rw mr_160) (some .boolean) tb call Q C 775 lv (.inl i :: .inr (.inr (.inl (some k))) :: st) h kc ks = (match h.2 k with
    | some (.inl (.int, n, f)) => vp_in i n ∧ C 776 lv (vI (f i.toNatClampNeg) :: st) h kc ks
    | _ => False) := rfl
set_option maxRecDepth 4000 in
theorem g160_775t (i : Int32) (t : Nat) : mm_step (mm_rw mr_160) (some .boolean) tb call Q C 775 lv (.inl i :: .inr (.inr (.inr t)) :: st) h kc ks = (vp_in i (tb t).1 ∧ C 776 lv (vI ((tb t).2 i.toNatClampNeg) :: st) h kc ks) := rfl
set_option maxRecDepth 4000 in
theorem g160_776  : mm_step (mm_rw mr_160) (some .boolean) tb call Q C 776 lv st h kc ks = (match mm_rd lv 0 with
    | some (.inr (.inr (.inl (some k)))) => C 777 lv (vR k :: st) h kc ks
    | some (.inr (.inr (.inr t))) => C 777 lv (vT t :: st) h kc ks
    | _ => False) := rfl
set_option maxRecDepth 4000 in
theorem g160_777  : mm_step (mm_rw mr_160) (some .boolean) tb call Q C 777 lv st h kc ks = (match mm_rd lv 3 with
    | some (.inl a) => C 778 lv (vI a :: st) h kc ks
    | _ => False) := rfl
set_option maxRecDepth 4000 in
theorem g160_778  : mm_step (mm_rw mr_160) (some .boolean) tb call Q C 778 lv st h kc ks = (C 779 lv (vI 2 :: st) h kc ks) := rfl
set_option maxRecDepth 4000 in
theorem g160_779 (a b : Int32) : mm_step (mm_rw mr_160) (some .boolean) tb call Q C 779 lv (.inl b :: .inl a :: st) h kc ks = (C 780 lv (vI (a + b) :: st) h kc ks) := rfl
set_option maxRecDepth 4000 in
theorem g160_780 (i : Int32) (k : Nat) : mm_step (mm_rw mr_160) (some .boolean) tb call Q C 780 lv (.inl i :: .inr (.inr (.inl (some k))) :: st) h kc ks = (match h.2 k with
    | some (.inl (.int, n, f)) => vp_in i n ∧ C 781 lv (vI (f i.toNatClampNeg) :: st) h kc ks
    | _ => False) := rfl
set_option maxRecDepth 4000 in
theorem g160_780t (i : Int32) (t : Nat) : mm_step (mm_rw mr_160) (some .boolean) tb call Q C 780 lv (.inl i :: .inr (.inr (.inr t)) :: st) h kc ks = (vp_in i (tb t).1 ∧ C 781 lv (vI ((tb t).2 i.toNatClampNeg) :: st) h kc ks) := rfl
set_option maxRecDepth 4000 in
theorem g160_781  : mm_step (mm_rw mr_160) (some .boolean) tb call Q C 781 lv st h kc ks = (match mm_rd lv 0 with
    | some (.inr (.inr (.inl (some k)))) => C 782 lv (vR k :: st) h kc ks
    | some (.inr (.inr (.inr t))) => C 782 lv (vT t :: st) h kc ks
    | _ => False) := rfl
set_option maxRecDepth 4000 in
theorem g160_782  : mm_step (mm_rw mr_160) (some .boolean) tb call Q C 782 lv st h kc ks = (match mm_rd lv 3 with
    | some (.inl a) => C 783 lv (vI a :: st) h kc ks
    | _ => False) := rfl
set_option maxRecDepth 4000 in
theorem g160_783  : mm_step (mm_rw mr_160) (some .boolean) tb call Q C 783 lv st h kc ks = (C 784 lv (vI 3 :: st) h kc ks) := rfl
set_option maxRecDepth 4000 in
theorem g160_784 (a b : Int32) : mm_step (mm_rw mr_160) (some .boolean) tb call Q C 784 lv (.inl b :: .inl a :: st) h kc ks = (C 785 lv (vI (a + b) :: st) h kc ks) := rfl
set_option maxRecDepth 4000 in
theorem g160_785 (i : Int32) (k : Nat) : mm_step (mm_rw mr_160) (some .boolean) tb call Q C 785 lv (.inl i :: .inr (.inr (.inl (some k))) :: st) h kc ks = (match h.2 k with
    | some (.inl (.int, n, f)) => vp_in i n ∧ C 786 lv (vI (f i.toNatClampNeg) :: st) h kc ks
    | _ => False) := rfl
set_option maxRecDepth 4000 in
theorem g160_785t (i : Int32) (t : Nat) : mm_step (mm_rw mr_160) (some .boolean) tb call Q C 785 lv (.inl i :: .inr (.inr (.inr t)) :: st) h kc ks = (vp_in i (tb t).1 ∧ C 786 lv (vI ((tb t).2 i.toNatClampNeg) :: st) h kc ks) := rfl
set_option maxRecDepth 4000 in
theorem g160_786  : mm_step (mm_rw mr_160) (some .boolean) tb call Q C 786 lv st h kc ks = (match mm_rd lv 0 with
    | some (.inr (.inr (.inl (some k)))) => C 787 lv (vR k :: st) h kc ks
    | some (.inr (.inr (.inr t))) => C 787 lv (vT t :: st) h kc ks
    | _ => False) := rfl
set_option maxRecDepth 4000 in
theorem g160_787  : mm_step (mm_rw mr_160) (some .boolean) tb call Q C 787 lv st h kc ks = (match mm_rd lv 3 with
    | some (.inl a) => C 788 lv (vI a :: st) h kc ks
    | _ => False) := rfl
set_option maxRecDepth 4000 in
theorem g160_788  : mm_step (mm_rw mr_160) (some .boolean) tb call Q C 788 lv st h kc ks = (C 789 lv (vI 4 :: st) h kc ks) := rfl
set_option maxRecDepth 4000 in
theorem g160_789 (a b : Int32) : mm_step (mm_rw mr_160) (some .boolean) tb call Q C 789 lv (.inl b :: .inl a :: st) h kc ks = (C 790 lv (vI (a + b) :: st) h kc ks) := rfl
set_option maxRecDepth 4000 in
theorem g160_790 (i : Int32) (k : Nat) : mm_step (mm_rw mr_160) (some .boolean) tb call Q C 790 lv (.inl i :: .inr (.inr (.inl (some k))) :: st) h kc ks = (match h.2 k with
    | some (.inl (.int, n, f)) => vp_in i n ∧ C 791 lv (vI (f i.toNatClampNeg) :: st) h kc ks
    | _ => False) := rfl
set_option maxRecDepth 4000 in
theorem g160_790t (i : Int32) (t : Nat) : mm_step (mm_rw mr_160) (some .boolean) tb call Q C 790 lv (.inl i :: .inr (.inr (.inr t)) :: st) h kc ks = (vp_in i (tb t).1 ∧ C 791 lv (vI ((tb t).2 i.toNatClampNeg) :: st) h kc ks) := rfl
set_option maxRecDepth 4000 in
theorem g160_791  : mm_step (mm_rw mr_160) (some .boolean) tb call Q C 791 lv st h kc ks = (match mm_rd lv 0 with
    | some (.inr (.inr (.inl (some k)))) => C 792 lv (vR k :: st) h kc ks
    | some (.inr (.inr (.inr t))) => C 792 lv (vT t :: st) h kc ks
    | _ => False) := rfl
set_option maxRecDepth 4000 in
theorem g160_792  : mm_step (mm_rw mr_160) (some .boolean) tb call Q C 792 lv st h kc ks = (match mm_rd lv 3 with
    | some (.inl a) => C 793 lv (vI a :: st) h kc ks
    | _ => False) := rfl
set_option maxRecDepth 4000 in
theorem g160_793  : mm_step (mm_rw mr_160) (some .boolean) tb call Q C 793 lv st h kc ks = (C 794 lv (vI 5 :: st) h kc ks) := rfl
set_option maxRecDepth 4000 in
theorem g160_794 (a b : Int32) : mm_step (mm_rw mr_160) (some .boolean) tb call Q C 794 lv (.inl b :: .inl a :: st) h kc ks = (C 795 lv (vI (a + b) :: st) h kc ks) := rfl
set_option maxRecDepth 4000 in
theorem g160_795 (i : Int32) (k : Nat) : mm_step (mm_rw mr_160) (some .boolean) tb call Q C 795 lv (.inl i :: .inr (.inr (.inl (some k))) :: st) h kc ks = (match h.2 k with
    | some (.inl (.int, n, f)) => vp_in i n ∧ C 796 lv (vI (f i.toNatClampNeg) :: st) h kc ks
    | _ => False) := rfl
set_option maxRecDepth 4000 in
theorem g160_795t (i : Int32) (t : Nat) : mm_step (mm_rw mr_160) (some .boolean) tb call Q C 795 lv (.inl i :: .inr (.inr (.inr t)) :: st) h kc ks = (vp_in i (tb t).1 ∧ C 796 lv (vI ((tb t).2 i.toNatClampNeg) :: st) h kc ks) := rfl
set_option maxRecDepth 4000 in
theorem g160_796 (a : Int32) : mm_step (mm_rw mr_160) (some .boolean) tb call Q C 796 lv (.inl a :: st) h kc ks = ((a = 0 → C 803 lv st h kc ks) ∧ (¬ a = 0 → C 799 lv st h kc ks)) := rfl
set_option maxRecDepth 4000 in
theorem g160_799  : mm_step (mm_rw mr_160) (some .boolean) tb call Q C 799 lv st h kc ks = (C 800 lv (vI 1 :: st) h kc ks) := rfl
set_option maxRecDepth 4000 in
theorem g160_800  : mm_step (mm_rw mr_160) (some .boolean) tb call Q C 800 lv st h kc ks = (C 804 lv st h kc ks) := rfl
set_option maxRecDepth 4000 in
theorem g160_803  : mm_step (mm_rw mr_160) (some .boolean) tb call Q C 803 lv st h kc ks = (C 804 lv (vI 0 :: st) h kc ks) := rfl
set_option maxRecDepth 4000 in
theorem g160_804  : mm_step (mm_rw mr_160) (some .boolean) tb call Q C 804 lv st h kc ks = ((match (st.take 6).reverse with
    | .inr (.inr (.inl (some k))) :: _ => (match h.2 k with
      | some (.inr (.inr (ci, _))) => mm_cn ci = (mm_mi 79).1.cls
      | _ => False)
    | _ => False) ∧ mm_call call C 79 6 804 lv st h kc ks) := rfl
set_option maxRecDepth 4000 in
theorem g160_807  : mm_step (mm_rw mr_160) (some .boolean) tb call Q C 807 lv st h kc ks = (match mm_rd lv 2 with
    | some (.inr (.inr (.inl (some k)))) => C 808 lv (vR k :: st) h kc ks
    | some (.inr (.inr (.inr t))) => C 808 lv (vT t :: st) h kc ks
    | _ => False) := rfl
set_option maxRecDepth 4000 in
theorem g160_808  : mm_step (mm_rw mr_160) (some .boolean) tb call Q C 808 lv st h kc ks = (match mm_rd lv 0 with
    | some (.inr (.inr (.inl (some k)))) => C 809 lv (vR k :: st) h kc ks
    | some (.inr (.inr (.inr t))) => C 809 lv (vT t :: st) h kc ks
    | _ => False) := rfl
set_option maxRecDepth 4000 in
theorem g160_809  : mm_step (mm_rw mr_160) (some .boolean) tb call Q C 809 lv st h kc ks = (match mm_rd lv 3 with
    | some (.inl a) => C 810 lv (vI a :: st) h kc ks
    | _ => False) := rfl
set_option maxRecDepth 4000 in
theorem g160_810  : mm_step (mm_rw mr_160) (some .boolean) tb call Q C 810 lv st h kc ks = (C 811 lv (vI 1 :: st) h kc ks) := rfl
set_option maxRecDepth 4000 in
theorem g160_811 (a b : Int32) : mm_step (mm_rw mr_160) (some .boolean) tb call Q C 811 lv (.inl b :: .inl a :: st) h kc ks = (C 812 lv (vI (a + b) :: st) h kc ks) := rfl
set_option maxRecDepth 4000 in
theorem g160_812 (i : Int32) (k : Nat) : mm_step (mm_rw mr_160) (some .boolean) tb call Q C 812 lv (.inl i :: .inr (.inr (.inl (some k))) :: st) h kc ks = (match h.2 k with
    | some (.inl (.int, n, f)) => vp_in i n ∧ C 813 lv (vI (f i.toNatClampNeg) :: st) h kc ks
    | _ => False) := rfl
set_option maxRecDepth 4000 in
theorem g160_812t (i : Int32) (t : Nat) : mm_step (mm_rw mr_160) (some .boolean) tb call Q C 812 lv (.inl i :: .inr (.inr (.inr t)) :: st) h kc ks = (vp_in i (tb t).1 ∧ C 813 lv (vI ((tb t).2 i.toNatClampNeg) :: st) h kc ks) := rfl
set_option maxRecDepth 4000 in
theorem g160_813  : mm_step (mm_rw mr_160) (some .boolean) tb call Q C 813 lv st h kc ks = (match mm_rd lv 0 with
    | some (.inr (.inr (.inl (some k)))) => C 814 lv (vR k :: st) h kc ks
    | some (.inr (.inr (.inr t))) => C 814 lv (vT t :: st) h kc ks
    | _ => False) := rfl
set_option maxRecDepth 4000 in
theorem g160_814  : mm_step (mm_rw mr_160) (some .boolean) tb call Q C 814 lv st h kc ks = (match mm_rd lv 3 with
    | some (.inl a) => C 815 lv (vI a :: st) h kc ks
    | _ => False) := rfl
set_option maxRecDepth 4000 in
theorem g160_815  : mm_step (mm_rw mr_160) (some .boolean) tb call Q C 815 lv st h kc ks = (C 816 lv (vI 2 :: st) h kc ks) := rfl
set_option maxRecDepth 4000 in
theorem g160_816 (a b : Int32) : mm_step (mm_rw mr_160) (some .boolean) tb call Q C 816 lv (.inl b :: .inl a :: st) h kc ks = (C 817 lv (vI (a + b) :: st) h kc ks) := rfl
set_option maxRecDepth 4000 in
theorem g160_817 (i : Int32) (k : Nat) : mm_step (mm_rw mr_160) (some .boolean) tb call Q C 817 lv (.inl i :: .inr (.inr (.inl (some k))) :: st) h kc ks = (match h.2 k with
    | some (.inl (.int, n, f)) => vp_in i n ∧ C 818 lv (vI (f i.toNatClampNeg) :: st) h kc ks
    | _ => False) := rfl
set_option maxRecDepth 4000 in
theorem g160_817t (i : Int32) (t : Nat) : mm_step (mm_rw mr_160) (some .boolean) tb call Q C 817 lv (.inl i :: .inr (.inr (.inr t)) :: st) h kc ks = (vp_in i (tb t).1 ∧ C 818 lv (vI ((tb t).2 i.toNatClampNeg) :: st) h kc ks) := rfl
set_option maxRecDepth 4000 in
theorem g160_818  : mm_step (mm_rw mr_160) (some .boolean) tb call Q C 818 lv st h kc ks = (match mm_rd lv 0 with
    | some (.inr (.inr (.inl (some k)))) => C 819 lv (vR k :: st) h kc ks
    | some (.inr (.inr (.inr t))) => C 819 lv (vT t :: st) h kc ks
    | _ => False) := rfl
set_option maxRecDepth 4000 in
theorem g160_819  : mm_step (mm_rw mr_160) (some .boolean) tb call Q C 819 lv st h kc ks = (match mm_rd lv 3 with
    | some (.inl a) => C 820 lv (vI a :: st) h kc ks
    | _ => False) := rfl
set_option maxRecDepth 4000 in
theorem g160_820  : mm_step (mm_rw mr_160) (some .boolean) tb call Q C 820 lv st h kc ks = (C 821 lv (vI 3 :: st) h kc ks) := rfl
set_option maxRecDepth 4000 in
theorem g160_821 (a b : Int32) : mm_step (mm_rw mr_160) (some .boolean) tb call Q C 821 lv (.inl b :: .inl a :: st) h kc ks = (C 822 lv (vI (a + b) :: st) h kc ks) := rfl
set_option maxRecDepth 4000 in
theorem g160_822 (i : Int32) (k : Nat) : mm_step (mm_rw mr_160) (some .boolean) tb call Q C 822 lv (.inl i :: .inr (.inr (.inl (some k))) :: st) h kc ks = (match h.2 k with
    | some (.inl (.int, n, f)) => vp_in i n ∧ C 823 lv (vI (f i.toNatClampNeg) :: st) h kc ks
    | _ => False) := rfl
set_option maxRecDepth 4000 in
theorem g160_822t (i : Int32) (t : Nat) : mm_step (mm_rw mr_160) (some .boolean) tb call Q C 822 lv (.inl i :: .inr (.inr (.inr t)) :: st) h kc ks = (vp_in i (tb t).1 ∧ C 823 lv (vI ((tb t).2 i.toNatClampNeg) :: st) h kc ks) := rfl
set_option maxRecDepth 4000 in
theorem g160_823  : mm_step (mm_rw mr_160) (some .boolean) tb call Q C 823 lv st h kc ks = (match mm_rd lv 0 with
    | some (.inr (.inr (.inl (some k)))) => C 824 lv (vR k :: st) h kc ks
    | some (.inr (.inr (.inr t))) => C 824 lv (vT t :: st) h kc ks
    | _ => False) := rfl
set_option maxRecDepth 4000 in
theorem g160_824  : mm_step (mm_rw mr_160) (some .boolean) tb call Q C 824 lv st h kc ks = (match mm_rd lv 3 with
    | some (.inl a) => C 825 lv (vI a :: st) h kc ks
    | _ => False) := rfl
set_option maxRecDepth 4000 in
theorem g160_825  : mm_step (mm_rw mr_160) (some .boolean) tb call Q C 825 lv st h kc ks = (C 826 lv (vI 4 :: st) h kc ks) := rfl
set_option maxRecDepth 4000 in
theorem g160_826 (a b : Int32) : mm_step (mm_rw mr_160) (some .boolean) tb call Q C 826 lv (.inl b :: .inl a :: st) h kc ks = (C 827 lv (vI (a + b) :: st) h kc ks) := rfl
set_option maxRecDepth 4000 in
theorem g160_827 (i : Int32) (k : Nat) : mm_step (mm_rw mr_160) (some .boolean) tb call Q C 827 lv (.inl i :: .inr (.inr (.inl (some k))) :: st) h kc ks = (match h.2 k with
    | some (.inl (.int, n, f)) => vp_in i n ∧ C 828 lv (vI (f i.toNatClampNeg) :: st) h kc ks
    | _ => False) := rfl
set_option maxRecDepth 4000 in
theorem g160_827t (i : Int32) (t : Nat) : mm_step (mm_rw mr_160) (some .boolean) tb call Q C 827 lv (.inl i :: .inr (.inr (.inr t)) :: st) h kc ks = (vp_in i (tb t).1 ∧ C 828 lv (vI ((tb t).2 i.toNatClampNeg) :: st) h kc ks) := rfl
set_option maxRecDepth 4000 in
theorem g160_828  : mm_step (mm_rw mr_160) (some .boolean) tb call Q C 828 lv st h kc ks = (match mm_rd lv 0 with
    | some (.inr (.inr (.inl (some k)))) => C 829 lv (vR k :: st) h kc ks
    | some (.inr (.inr (.inr t))) => C 829 lv (vT t :: st) h kc ks
    | _ => False) := rfl
set_option maxRecDepth 4000 in
theorem g160_829  : mm_step (mm_rw mr_160) (some .boolean) tb call Q C 829 lv st h kc ks = (match mm_rd lv 3 with
    | some (.inl a) => C 830 lv (vI a :: st) h kc ks
    | _ => False) := rfl
set_option maxRecDepth 4000 in
theorem g160_830  : mm_step (mm_rw mr_160) (some .boolean) tb call Q C 830 lv st h kc ks = (C 831 lv (vI 5 :: st) h kc ks) := rfl
set_option maxRecDepth 4000 in
theorem g160_831 (a b : Int32) : mm_step (mm_rw mr_160) (some .boolean) tb call Q C 831 lv (.inl b :: .inl a :: st) h kc ks = (C 832 lv (vI (a + b) :: st) h kc ks) := rfl
set_option maxRecDepth 4000 in
theorem g160_832 (i : Int32) (k : Nat) : mm_step (mm_rw mr_160) (some .boolean) tb call Q C 832 lv (.inl i :: .inr (.inr (.inl (some k))) :: st) h kc ks = (match h.2 k with
    | some (.inl (.int, n, f)) => vp_in i n ∧ C 833 lv (vI (f i.toNatClampNeg) :: st) h kc ks
    | _ => False) := rfl
set_option maxRecDepth 4000 in
theorem g160_832t (i : Int32) (t : Nat) : mm_step (mm_rw mr_160) (some .boolean) tb call Q C 832 lv (.inl i :: .inr (.inr (.inr t)) :: st) h kc ks = (vp_in i (tb t).1 ∧ C 833 lv (vI ((tb t).2 i.toNatClampNeg) :: st) h kc ks) := rfl
set_option maxRecDepth 4000 in
theorem g160_833 (a : Int32) : mm_step (mm_rw mr_160) (some .boolean) tb call Q C 833 lv (.inl a :: st) h kc ks = ((a = 0 → C 840 lv st h kc ks) ∧ (¬ a = 0 → C 836 lv st h kc ks)) := rfl
set_option maxRecDepth 4000 in
theorem g160_836  : mm_step (mm_rw mr_160) (some .boolean) tb call Q C 836 lv st h kc ks = (C 837 lv (vI 1 :: st) h kc ks) := rfl
set_option maxRecDepth 4000 in
theorem g160_837  : mm_step (mm_rw mr_160) (some .boolean) tb call Q C 837 lv st h kc ks = (C 841 lv st h kc ks) := rfl
set_option maxRecDepth 4000 in
theorem g160_840  : mm_step (mm_rw mr_160) (some .boolean) tb call Q C 840 lv st h kc ks = (C 841 lv (vI 0 :: st) h kc ks) := rfl
set_option maxRecDepth 4000 in
theorem g160_841  : mm_step (mm_rw mr_160) (some .boolean) tb call Q C 841 lv st h kc ks = ((match (st.take 6).reverse with
    | .inr (.inr (.inl (some k))) :: _ => (match h.2 k with
      | some (.inr (.inr (ci, _))) => mm_cn ci = (mm_mi 152).1.cls
      | _ => False)
    | _ => False) ∧ mm_call call C 152 6 841 lv st h kc ks) := rfl
set_option maxRecDepth 4000 in
theorem g160_844 (a b : Int64) : mm_step (mm_rw mr_160) (some .boolean) tb call Q C 844 lv (.inr (.inl b) :: .inr (.inl a) :: st) h kc ks = (C 845 lv (vI (lg_cmp a b) :: st) h kc ks) := rfl
set_option maxRecDepth 4000 in
theorem g160_845 (a : Int32) : mm_step (mm_rw mr_160) (some .boolean) tb call Q C 845 lv (.inl a :: st) h kc ks = ((a = 0 → C 1006 lv st h kc ks) ∧ (¬ a = 0 → C 848 lv st h kc ks)) := rfl
set_option maxRecDepth 4000 in
theorem g160_848  : mm_step (mm_rw mr_160) (some .boolean) tb call Q C 848 lv st h kc ks = (C 849 lv (vI 0 :: st) h kc ks) := rfl
set_option maxRecDepth 4000 in
theorem g160_849 (v : Int32) : mm_step (mm_rw mr_160) (some .boolean) tb call Q C 849 lv [.inl v] h kc ks = ((v = 0 ∨ v = 1) ∧ Q (some (vI v)) h) := rfl
set_option maxRecDepth 4000 in
theorem g160_850  : mm_step (mm_rw mr_160) (some .boolean) tb call Q C 850 lv st h kc ks = (match mm_rd lv 1 with
    | some (.inr (.inr (.inl (some k)))) => C 851 lv (vR k :: st) h kc ks
    | some (.inr (.inr (.inr t))) => C 851 lv (vT t :: st) h kc ks
    | _ => False) := rfl
set_option maxRecDepth 4000 in
theorem g160_851  : mm_step (mm_rw mr_160) (some .boolean) tb call Q C 851 lv st h kc ks = (match mm_rd lv 0 with
    | some (.inr (.inr (.inl (some k)))) => C 852 lv (vR k :: st) h kc ks
    | some (.inr (.inr (.inr t))) => C 852 lv (vT t :: st) h kc ks
    | _ => False) := rfl
set_option maxRecDepth 4000 in
theorem g160_852  : mm_step (mm_rw mr_160) (some .boolean) tb call Q C 852 lv st h kc ks = (match mm_rd lv 3 with
    | some (.inl a) => C 853 lv (vI a :: st) h kc ks
    | _ => False) := rfl
set_option maxRecDepth 4000 in
theorem g160_853  : mm_step (mm_rw mr_160) (some .boolean) tb call Q C 853 lv st h kc ks = (C 854 lv (vI 1 :: st) h kc ks) := rfl
set_option maxRecDepth 4000 in
theorem g160_854 (a b : Int32) : mm_step (mm_rw mr_160) (some .boolean) tb call Q C 854 lv (.inl b :: .inl a :: st) h kc ks = (C 855 lv (vI (a + b) :: st) h kc ks) := rfl
set_option maxRecDepth 4000 in
theorem g160_855 (i : Int32) (k : Nat) : mm_step (mm_rw mr_160) (some .boolean) tb call Q C 855 lv (.inl i :: .inr (.inr (.inl (some k))) :: st) h kc ks = (match h.2 k with
    | some (.inl (.int, n, f)) => vp_in i n ∧ C 856 lv (vI (f i.toNatClampNeg) :: st) h kc ks
    | _ => False) := rfl
set_option maxRecDepth 4000 in
theorem g160_855t (i : Int32) (t : Nat) : mm_step (mm_rw mr_160) (some .boolean) tb call Q C 855 lv (.inl i :: .inr (.inr (.inr t)) :: st) h kc ks = (vp_in i (tb t).1 ∧ C 856 lv (vI ((tb t).2 i.toNatClampNeg) :: st) h kc ks) := rfl
set_option maxRecDepth 4000 in
theorem g160_856 (a : Int32) : mm_step (mm_rw mr_160) (some .boolean) tb call Q C 856 lv (.inl a :: st) h kc ks = (C 857 lv (vL a.toInt64 :: st) h kc ks) := rfl
set_option maxRecDepth 4000 in
theorem g160_857  : mm_step (mm_rw mr_160) (some .boolean) tb call Q C 857 lv st h kc ks = (C 859 lv (vI 32 :: st) h kc ks) := rfl
set_option maxRecDepth 4000 in
theorem g160_859 (a : Int64) (b : Int32) : mm_step (mm_rw mr_160) (some .boolean) tb call Q C 859 lv (.inl b :: .inr (.inl a) :: st) h kc ks = (C 860 lv (vL (a <<< (b.toInt64 &&& 63)) :: st) h kc ks) := rfl
set_option maxRecDepth 4000 in
theorem g160_860  : mm_step (mm_rw mr_160) (some .boolean) tb call Q C 860 lv st h kc ks = (match mm_rd lv 0 with
    | some (.inr (.inr (.inl (some k)))) => C 861 lv (vR k :: st) h kc ks
    | some (.inr (.inr (.inr t))) => C 861 lv (vT t :: st) h kc ks
    | _ => False) := rfl
set_option maxRecDepth 4000 in
theorem g160_861  : mm_step (mm_rw mr_160) (some .boolean) tb call Q C 861 lv st h kc ks = (match mm_rd lv 3 with
    | some (.inl a) => C 862 lv (vI a :: st) h kc ks
    | _ => False) := rfl
set_option maxRecDepth 4000 in
theorem g160_862  : mm_step (mm_rw mr_160) (some .boolean) tb call Q C 862 lv st h kc ks = (C 863 lv (vI 2 :: st) h kc ks) := rfl
set_option maxRecDepth 4000 in
theorem g160_863 (a b : Int32) : mm_step (mm_rw mr_160) (some .boolean) tb call Q C 863 lv (.inl b :: .inl a :: st) h kc ks = (C 864 lv (vI (a + b) :: st) h kc ks) := rfl
set_option maxRecDepth 4000 in
theorem g160_864 (i : Int32) (k : Nat) : mm_step (mm_rw mr_160) (some .boolean) tb call Q C 864 lv (.inl i :: .inr (.inr (.inl (some k))) :: st) h kc ks = (match h.2 k with
    | some (.inl (.int, n, f)) => vp_in i n ∧ C 865 lv (vI (f i.toNatClampNeg) :: st) h kc ks
    | _ => False) := rfl
set_option maxRecDepth 4000 in
theorem g160_864t (i : Int32) (t : Nat) : mm_step (mm_rw mr_160) (some .boolean) tb call Q C 864 lv (.inl i :: .inr (.inr (.inr t)) :: st) h kc ks = (vp_in i (tb t).1 ∧ C 865 lv (vI ((tb t).2 i.toNatClampNeg) :: st) h kc ks) := rfl
set_option maxRecDepth 4000 in
theorem g160_865 (a : Int32) : mm_step (mm_rw mr_160) (some .boolean) tb call Q C 865 lv (.inl a :: st) h kc ks = (C 866 lv (vL a.toInt64 :: st) h kc ks) := rfl
set_option maxRecDepth 4000 in
theorem g160_866  : mm_step (mm_rw mr_160) (some .boolean) tb call Q C 866 lv st h kc ks = (C 869 lv (vL 4294967295 :: st) h kc ks) := rfl
set_option maxRecDepth 4000 in
theorem g160_869 (a b : Int64) : mm_step (mm_rw mr_160) (some .boolean) tb call Q C 869 lv (.inr (.inl b) :: .inr (.inl a) :: st) h kc ks = (C 870 lv (vL (a &&& b) :: st) h kc ks) := rfl
set_option maxRecDepth 4000 in
theorem g160_870 (a b : Int64) : mm_step (mm_rw mr_160) (some .boolean) tb call Q C 870 lv (.inr (.inl b) :: .inr (.inl a) :: st) h kc ks = (C 871 lv (vL (a ||| b) :: st) h kc ks) := rfl
set_option maxRecDepth 4000 in
theorem g160_871  : mm_step (mm_rw mr_160) (some .boolean) tb call Q C 871 lv st h kc ks = ((match (st.take 2).reverse with
    | .inr (.inr (.inl (some k))) :: _ => (match h.2 k with
      | some (.inr (.inr (ci, _))) => mm_cn ci = (mm_mi 80).1.cls
      | _ => False)
    | _ => False) ∧ mm_call call C 80 2 871 lv st h kc ks) := rfl
set_option maxRecDepth 4000 in
theorem g160_874  : mm_step (mm_rw mr_160) (some .boolean) tb call Q C 874 lv st h kc ks = (match mm_rd lv 2 with
    | some (.inr (.inr (.inl (some k)))) => C 875 lv (vR k :: st) h kc ks
    | some (.inr (.inr (.inr t))) => C 875 lv (vT t :: st) h kc ks
    | _ => False) := rfl
set_option maxRecDepth 4000 in
theorem g160_875  : mm_step (mm_rw mr_160) (some .boolean) tb call Q C 875 lv st h kc ks = (match mm_rd lv 0 with
    | some (.inr (.inr (.inl (some k)))) => C 876 lv (vR k :: st) h kc ks
    | some (.inr (.inr (.inr t))) => C 876 lv (vT t :: st) h kc ks
    | _ => False) := rfl
set_option maxRecDepth 4000 in
theorem g160_876  : mm_step (mm_rw mr_160) (some .boolean) tb call Q C 876 lv st h kc ks = (match mm_rd lv 3 with
    | some (.inl a) => C 877 lv (vI a :: st) h kc ks
    | _ => False) := rfl
set_option maxRecDepth 4000 in
theorem g160_877  : mm_step (mm_rw mr_160) (some .boolean) tb call Q C 877 lv st h kc ks = (C 878 lv (vI 1 :: st) h kc ks) := rfl
set_option maxRecDepth 4000 in
theorem g160_878 (a b : Int32) : mm_step (mm_rw mr_160) (some .boolean) tb call Q C 878 lv (.inl b :: .inl a :: st) h kc ks = (C 879 lv (vI (a + b) :: st) h kc ks) := rfl
set_option maxRecDepth 4000 in
theorem g160_879 (i : Int32) (k : Nat) : mm_step (mm_rw mr_160) (some .boolean) tb call Q C 879 lv (.inl i :: .inr (.inr (.inl (some k))) :: st) h kc ks = (match h.2 k with
    | some (.inl (.int, n, f)) => vp_in i n ∧ C 880 lv (vI (f i.toNatClampNeg) :: st) h kc ks
    | _ => False) := rfl
set_option maxRecDepth 4000 in
theorem g160_879t (i : Int32) (t : Nat) : mm_step (mm_rw mr_160) (some .boolean) tb call Q C 879 lv (.inl i :: .inr (.inr (.inr t)) :: st) h kc ks = (vp_in i (tb t).1 ∧ C 880 lv (vI ((tb t).2 i.toNatClampNeg) :: st) h kc ks) := rfl
set_option maxRecDepth 4000 in
theorem g160_880 (a : Int32) : mm_step (mm_rw mr_160) (some .boolean) tb call Q C 880 lv (.inl a :: st) h kc ks = (C 881 lv (vL a.toInt64 :: st) h kc ks) := rfl
set_option maxRecDepth 4000 in
theorem g160_881  : mm_step (mm_rw mr_160) (some .boolean) tb call Q C 881 lv st h kc ks = (C 883 lv (vI 32 :: st) h kc ks) := rfl
set_option maxRecDepth 4000 in
theorem g160_883 (a : Int64) (b : Int32) : mm_step (mm_rw mr_160) (some .boolean) tb call Q C 883 lv (.inl b :: .inr (.inl a) :: st) h kc ks = (C 884 lv (vL (a <<< (b.toInt64 &&& 63)) :: st) h kc ks) := rfl
set_option maxRecDepth 4000 in
theorem g160_884  : mm_step (mm_rw mr_160) (some .boolean) tb call Q C 884 lv st h kc ks = (match mm_rd lv 0 with
    | some (.inr (.inr (.inl (some k)))) => C 885 lv (vR k :: st) h kc ks
    | some (.inr (.inr (.inr t))) => C 885 lv (vT t :: st) h kc ks
    | _ => False) := rfl
set_option maxRecDepth 4000 in
theorem g160_885  : mm_step (mm_rw mr_160) (some .boolean) tb call Q C 885 lv st h kc ks = (match mm_rd lv 3 with
    | some (.inl a) => C 886 lv (vI a :: st) h kc ks
    | _ => False) := rfl
set_option maxRecDepth 4000 in
theorem g160_886  : mm_step (mm_rw mr_160) (some .boolean) tb call Q C 886 lv st h kc ks = (C 887 lv (vI 2 :: st) h kc ks) := rfl
set_option maxRecDepth 4000 in
theorem g160_887 (a b : Int32) : mm_step (mm_rw mr_160) (some .boolean) tb call Q C 887 lv (.inl b :: .inl a :: st) h kc ks = (C 888 lv (vI (a + b) :: st) h kc ks) := rfl
set_option maxRecDepth 4000 in
theorem g160_888 (i : Int32) (k : Nat) : mm_step (mm_rw mr_160) (some .boolean) tb call Q C 888 lv (.inl i :: .inr (.inr (.inl (some k))) :: st) h kc ks = (match h.2 k with
    | some (.inl (.int, n, f)) => vp_in i n ∧ C 889 lv (vI (f i.toNatClampNeg) :: st) h kc ks
    | _ => False) := rfl
set_option maxRecDepth 4000 in
theorem g160_888t (i : Int32) (t : Nat) : mm_step (mm_rw mr_160) (some .boolean) tb call Q C 888 lv (.inl i :: .inr (.inr (.inr t)) :: st) h kc ks = (vp_in i (tb t).1 ∧ C 889 lv (vI ((tb t).2 i.toNatClampNeg) :: st) h kc ks) := rfl
set_option maxRecDepth 4000 in
theorem g160_889 (a : Int32) : mm_step (mm_rw mr_160) (some .boolean) tb call Q C 889 lv (.inl a :: st) h kc ks = (C 890 lv (vL a.toInt64 :: st) h kc ks) := rfl
set_option maxRecDepth 4000 in
theorem g160_890  : mm_step (mm_rw mr_160) (some .boolean) tb call Q C 890 lv st h kc ks = (C 893 lv (vL 4294967295 :: st) h kc ks) := rfl
set_option maxRecDepth 4000 in
theorem g160_893 (a b : Int64) : mm_step (mm_rw mr_160) (some .boolean) tb call Q C 893 lv (.inr (.inl b) :: .inr (.inl a) :: st) h kc ks = (C 894 lv (vL (a &&& b) :: st) h kc ks) := rfl
set_option maxRecDepth 4000 in
theorem g160_894 (a b : Int64) : mm_step (mm_rw mr_160) (some .boolean) tb call Q C 894 lv (.inr (.inl b) :: .inr (.inl a) :: st) h kc ks = (C 895 lv (vL (a ||| b) :: st) h kc ks) := rfl
set_option maxRecDepth 4000 in
theorem g160_895  : mm_step (mm_rw mr_160) (some .boolean) tb call Q C 895 lv st h kc ks = ((match (st.take 2).reverse with
    | .inr (.inr (.inl (some k))) :: _ => (match h.2 k with
      | some (.inr (.inr (ci, _))) => mm_cn ci = (mm_mi 153).1.cls
      | _ => False)
    | _ => False) ∧ mm_call call C 153 2 895 lv st h kc ks) := rfl
set_option maxRecDepth 4000 in
theorem g160_898 (a b : Int64) : mm_step (mm_rw mr_160) (some .boolean) tb call Q C 898 lv (.inr (.inl b) :: .inr (.inl a) :: st) h kc ks = (C 899 lv (vI (lg_cmp a b) :: st) h kc ks) := rfl
set_option maxRecDepth 4000 in
theorem g160_899 (a : Int32) : mm_step (mm_rw mr_160) (some .boolean) tb call Q C 899 lv (.inl a :: st) h kc ks = ((a = 0 → C 1006 lv st h kc ks) ∧ (¬ a = 0 → C 902 lv st h kc ks)) := rfl
set_option maxRecDepth 4000 in
theorem g160_902  : mm_step (mm_rw mr_160) (some .boolean) tb call Q C 902 lv st h kc ks = (C 903 lv (vI 0 :: st) h kc ks) := rfl
set_option maxRecDepth 4000 in
theorem g160_903 (v : Int32) : mm_step (mm_rw mr_160) (some .boolean) tb call Q C 903 lv [.inl v] h kc ks = ((v = 0 ∨ v = 1) ∧ Q (some (vI v)) h) := rfl
set_option maxRecDepth 4000 in
theorem g160_904  : mm_step (mm_rw mr_160) (some .boolean) tb call Q C 904 lv st h kc ks = (match mm_rd lv 1 with
    | some (.inr (.inr (.inl (some k)))) => C 905 lv (vR k :: st) h kc ks
    | some (.inr (.inr (.inr t))) => C 905 lv (vT t :: st) h kc ks
    | _ => False) := rfl
set_option maxRecDepth 4000 in
theorem g160_905  : mm_step (mm_rw mr_160) (some .boolean) tb call Q C 905 lv st h kc ks = (match mm_rd lv 0 with
    | some (.inr (.inr (.inl (some k)))) => C 906 lv (vR k :: st) h kc ks
    | some (.inr (.inr (.inr t))) => C 906 lv (vT t :: st) h kc ks
    | _ => False) := rfl
set_option maxRecDepth 4000 in
theorem g160_906  : mm_step (mm_rw mr_160) (some .boolean) tb call Q C 906 lv st h kc ks = (match mm_rd lv 3 with
    | some (.inl a) => C 907 lv (vI a :: st) h kc ks
    | _ => False) := rfl
set_option maxRecDepth 4000 in
theorem g160_907  : mm_step (mm_rw mr_160) (some .boolean) tb call Q C 907 lv st h kc ks = (C 908 lv (vI 1 :: st) h kc ks) := rfl
set_option maxRecDepth 4000 in
theorem g160_908 (a b : Int32) : mm_step (mm_rw mr_160) (some .boolean) tb call Q C 908 lv (.inl b :: .inl a :: st) h kc ks = (C 909 lv (vI (a + b) :: st) h kc ks) := rfl
set_option maxRecDepth 4000 in
theorem g160_909 (i : Int32) (k : Nat) : mm_step (mm_rw mr_160) (some .boolean) tb call Q C 909 lv (.inl i :: .inr (.inr (.inl (some k))) :: st) h kc ks = (match h.2 k with
    | some (.inl (.int, n, f)) => vp_in i n ∧ C 910 lv (vI (f i.toNatClampNeg) :: st) h kc ks
    | _ => False) := rfl
set_option maxRecDepth 4000 in
theorem g160_909t (i : Int32) (t : Nat) : mm_step (mm_rw mr_160) (some .boolean) tb call Q C 909 lv (.inl i :: .inr (.inr (.inr t)) :: st) h kc ks = (vp_in i (tb t).1 ∧ C 910 lv (vI ((tb t).2 i.toNatClampNeg) :: st) h kc ks) := rfl
set_option maxRecDepth 4000 in
theorem g160_910  : mm_step (mm_rw mr_160) (some .boolean) tb call Q C 910 lv st h kc ks = (match mm_rd lv 0 with
    | some (.inr (.inr (.inl (some k)))) => C 911 lv (vR k :: st) h kc ks
    | some (.inr (.inr (.inr t))) => C 911 lv (vT t :: st) h kc ks
    | _ => False) := rfl
set_option maxRecDepth 4000 in
theorem g160_911  : mm_step (mm_rw mr_160) (some .boolean) tb call Q C 911 lv st h kc ks = (match mm_rd lv 3 with
    | some (.inl a) => C 912 lv (vI a :: st) h kc ks
    | _ => False) := rfl
set_option maxRecDepth 4000 in
theorem g160_912  : mm_step (mm_rw mr_160) (some .boolean) tb call Q C 912 lv st h kc ks = (C 913 lv (vI 2 :: st) h kc ks) := rfl
set_option maxRecDepth 4000 in
theorem g160_913 (a b : Int32) : mm_step (mm_rw mr_160) (some .boolean) tb call Q C 913 lv (.inl b :: .inl a :: st) h kc ks = (C 914 lv (vI (a + b) :: st) h kc ks) := rfl
set_option maxRecDepth 4000 in
theorem g160_914 (i : Int32) (k : Nat) : mm_step (mm_rw mr_160) (some .boolean) tb call Q C 914 lv (.inl i :: .inr (.inr (.inl (some k))) :: st) h kc ks = (match h.2 k with
    | some (.inl (.int, n, f)) => vp_in i n ∧ C 915 lv (vI (f i.toNatClampNeg) :: st) h kc ks
    | _ => False) := rfl
set_option maxRecDepth 4000 in
theorem g160_914t (i : Int32) (t : Nat) : mm_step (mm_rw mr_160) (some .boolean) tb call Q C 914 lv (.inl i :: .inr (.inr (.inr t)) :: st) h kc ks = (vp_in i (tb t).1 ∧ C 915 lv (vI ((tb t).2 i.toNatClampNeg) :: st) h kc ks) := rfl
set_option maxRecDepth 4000 in
theorem g160_915  : mm_step (mm_rw mr_160) (some .boolean) tb call Q C 915 lv st h kc ks = ((match (st.take 3).reverse with
    | .inr (.inr (.inl (some k))) :: _ => (match h.2 k with
      | some (.inr (.inr (ci, _))) => mm_cn ci = (mm_mi 81).1.cls
      | _ => False)
    | _ => False) ∧ mm_call call C 81 3 915 lv st h kc ks) := rfl
set_option maxRecDepth 4000 in
theorem g160_918  : mm_step (mm_rw mr_160) (some .boolean) tb call Q C 918 lv st h kc ks = (match mm_rd lv 2 with
    | some (.inr (.inr (.inl (some k)))) => C 919 lv (vR k :: st) h kc ks
    | some (.inr (.inr (.inr t))) => C 919 lv (vT t :: st) h kc ks
    | _ => False) := rfl
set_option maxRecDepth 4000 in
theorem g160_919  : mm_step (mm_rw mr_160) (some .boolean) tb call Q C 919 lv st h kc ks = (match mm_rd lv 0 with
    | some (.inr (.inr (.inl (some k)))) => C 920 lv (vR k :: st) h kc ks
    | some (.inr (.inr (.inr t))) => C 920 lv (vT t :: st) h kc ks
    | _ => False) := rfl
set_option maxRecDepth 4000 in
theorem g160_920  : mm_step (mm_rw mr_160) (some .boolean) tb call Q C 920 lv st h kc ks = (match mm_rd lv 3 with
    | some (.inl a) => C 921 lv (vI a :: st) h kc ks
    | _ => False) := rfl
set_option maxRecDepth 4000 in
theorem g160_921  : mm_step (mm_rw mr_160) (some .boolean) tb call Q C 921 lv st h kc ks = (C 922 lv (vI 1 :: st) h kc ks) := rfl
set_option maxRecDepth 4000 in
theorem g160_922 (a b : Int32) : mm_step (mm_rw mr_160) (some .boolean) tb call Q C 922 lv (.inl b :: .inl a :: st) h kc ks = (C 923 lv (vI (a + b) :: st) h kc ks) := rfl
set_option maxRecDepth 4000 in
theorem g160_923 (i : Int32) (k : Nat) : mm_step (mm_rw mr_160) (some .boolean) tb call Q C 923 lv (.inl i :: .inr (.inr (.inl (some k))) :: st) h kc ks = (match h.2 k with
    | some (.inl (.int, n, f)) => vp_in i n ∧ C 924 lv (vI (f i.toNatClampNeg) :: st) h kc ks
    | _ => False) := rfl
set_option maxRecDepth 4000 in
theorem g160_923t (i : Int32) (t : Nat) : mm_step (mm_rw mr_160) (some .boolean) tb call Q C 923 lv (.inl i :: .inr (.inr (.inr t)) :: st) h kc ks = (vp_in i (tb t).1 ∧ C 924 lv (vI ((tb t).2 i.toNatClampNeg) :: st) h kc ks) := rfl
set_option maxRecDepth 4000 in
theorem g160_924  : mm_step (mm_rw mr_160) (some .boolean) tb call Q C 924 lv st h kc ks = (match mm_rd lv 0 with
    | some (.inr (.inr (.inl (some k)))) => C 925 lv (vR k :: st) h kc ks
    | some (.inr (.inr (.inr t))) => C 925 lv (vT t :: st) h kc ks
    | _ => False) := rfl
set_option maxRecDepth 4000 in
theorem g160_925  : mm_step (mm_rw mr_160) (some .boolean) tb call Q C 925 lv st h kc ks = (match mm_rd lv 3 with
    | some (.inl a) => C 926 lv (vI a :: st) h kc ks
    | _ => False) := rfl
set_option maxRecDepth 4000 in
theorem g160_926  : mm_step (mm_rw mr_160) (some .boolean) tb call Q C 926 lv st h kc ks = (C 927 lv (vI 2 :: st) h kc ks) := rfl
set_option maxRecDepth 4000 in
theorem g160_927 (a b : Int32) : mm_step (mm_rw mr_160) (some .boolean) tb call Q C 927 lv (.inl b :: .inl a :: st) h kc ks = (C 928 lv (vI (a + b) :: st) h kc ks) := rfl
set_option maxRecDepth 4000 in
theorem g160_928 (i : Int32) (k : Nat) : mm_step (mm_rw mr_160) (some .boolean) tb call Q C 928 lv (.inl i :: .inr (.inr (.inl (some k))) :: st) h kc ks = (match h.2 k with
    | some (.inl (.int, n, f)) => vp_in i n ∧ C 929 lv (vI (f i.toNatClampNeg) :: st) h kc ks
    | _ => False) := rfl
set_option maxRecDepth 4000 in
theorem g160_928t (i : Int32) (t : Nat) : mm_step (mm_rw mr_160) (some .boolean) tb call Q C 928 lv (.inl i :: .inr (.inr (.inr t)) :: st) h kc ks = (vp_in i (tb t).1 ∧ C 929 lv (vI ((tb t).2 i.toNatClampNeg) :: st) h kc ks) := rfl
set_option maxRecDepth 4000 in
theorem g160_929  : mm_step (mm_rw mr_160) (some .boolean) tb call Q C 929 lv st h kc ks = ((match (st.take 3).reverse with
    | .inr (.inr (.inl (some k))) :: _ => (match h.2 k with
      | some (.inr (.inr (ci, _))) => mm_cn ci = (mm_mi 154).1.cls
      | _ => False)
    | _ => False) ∧ mm_call call C 154 3 929 lv st h kc ks) := rfl
set_option maxRecDepth 4000 in
theorem g160_932 (a b : Int32) : mm_step (mm_rw mr_160) (some .boolean) tb call Q C 932 lv (.inl b :: .inl a :: st) h kc ks = ((a = b → C 1006 lv st h kc ks) ∧ (¬ a = b → C 935 lv st h kc ks)) := rfl
set_option maxRecDepth 4000 in
theorem g160_935  : mm_step (mm_rw mr_160) (some .boolean) tb call Q C 935 lv st h kc ks = (C 936 lv (vI 0 :: st) h kc ks) := rfl
set_option maxRecDepth 4000 in
theorem g160_936 (v : Int32) : mm_step (mm_rw mr_160) (some .boolean) tb call Q C 936 lv [.inl v] h kc ks = ((v = 0 ∨ v = 1) ∧ Q (some (vI v)) h) := rfl
set_option maxRecDepth 4000 in
theorem g160_937  : mm_step (mm_rw mr_160) (some .boolean) tb call Q C 937 lv st h kc ks = (match mm_rd lv 1 with
    | some (.inr (.inr (.inl (some k)))) => C 938 lv (vR k :: st) h kc ks
    | some (.inr (.inr (.inr t))) => C 938 lv (vT t :: st) h kc ks
    | _ => False) := rfl
set_option maxRecDepth 4000 in
theorem g160_938  : mm_step (mm_rw mr_160) (some .boolean) tb call Q C 938 lv st h kc ks = (match mm_rd lv 0 with
    | some (.inr (.inr (.inl (some k)))) => C 939 lv (vR k :: st) h kc ks
    | some (.inr (.inr (.inr t))) => C 939 lv (vT t :: st) h kc ks
    | _ => False) := rfl
set_option maxRecDepth 4000 in
theorem g160_939  : mm_step (mm_rw mr_160) (some .boolean) tb call Q C 939 lv st h kc ks = (match mm_rd lv 3 with
    | some (.inl a) => C 940 lv (vI a :: st) h kc ks
    | _ => False) := rfl
set_option maxRecDepth 4000 in
theorem g160_940  : mm_step (mm_rw mr_160) (some .boolean) tb call Q C 940 lv st h kc ks = (C 941 lv (vI 1 :: st) h kc ks) := rfl
set_option maxRecDepth 4000 in
theorem g160_941 (a b : Int32) : mm_step (mm_rw mr_160) (some .boolean) tb call Q C 941 lv (.inl b :: .inl a :: st) h kc ks = (C 942 lv (vI (a + b) :: st) h kc ks) := rfl
set_option maxRecDepth 4000 in
theorem g160_942 (i : Int32) (k : Nat) : mm_step (mm_rw mr_160) (some .boolean) tb call Q C 942 lv (.inl i :: .inr (.inr (.inl (some k))) :: st) h kc ks = (match h.2 k with
    | some (.inl (.int, n, f)) => vp_in i n ∧ C 943 lv (vI (f i.toNatClampNeg) :: st) h kc ks
    | _ => False) := rfl
set_option maxRecDepth 4000 in
theorem g160_942t (i : Int32) (t : Nat) : mm_step (mm_rw mr_160) (some .boolean) tb call Q C 942 lv (.inl i :: .inr (.inr (.inr t)) :: st) h kc ks = (vp_in i (tb t).1 ∧ C 943 lv (vI ((tb t).2 i.toNatClampNeg) :: st) h kc ks) := rfl
set_option maxRecDepth 4000 in
theorem g160_943  : mm_step (mm_rw mr_160) (some .boolean) tb call Q C 943 lv st h kc ks = ((match (st.take 2).reverse with
    | .inr (.inr (.inl (some k))) :: _ => (match h.2 k with
      | some (.inr (.inr (ci, _))) => mm_cn ci = (mm_mi 82).1.cls
      | _ => False)
    | _ => False) ∧ mm_call call C 82 2 943 lv st h kc ks) := rfl
set_option maxRecDepth 4000 in
theorem g160_946  : mm_step (mm_rw mr_160) (some .boolean) tb call Q C 946 lv st h kc ks = (match mm_rd lv 2 with
    | some (.inr (.inr (.inl (some k)))) => C 947 lv (vR k :: st) h kc ks
    | some (.inr (.inr (.inr t))) => C 947 lv (vT t :: st) h kc ks
    | _ => False) := rfl
set_option maxRecDepth 4000 in
theorem g160_947  : mm_step (mm_rw mr_160) (some .boolean) tb call Q C 947 lv st h kc ks = (match mm_rd lv 0 with
    | some (.inr (.inr (.inl (some k)))) => C 948 lv (vR k :: st) h kc ks
    | some (.inr (.inr (.inr t))) => C 948 lv (vT t :: st) h kc ks
    | _ => False) := rfl
set_option maxRecDepth 4000 in
theorem g160_948  : mm_step (mm_rw mr_160) (some .boolean) tb call Q C 948 lv st h kc ks = (match mm_rd lv 3 with
    | some (.inl a) => C 949 lv (vI a :: st) h kc ks
    | _ => False) := rfl
set_option maxRecDepth 4000 in
theorem g160_949  : mm_step (mm_rw mr_160) (some .boolean) tb call Q C 949 lv st h kc ks = (C 950 lv (vI 1 :: st) h kc ks) := rfl
set_option maxRecDepth 4000 in
theorem g160_950 (a b : Int32) : mm_step (mm_rw mr_160) (some .boolean) tb call Q C 950 lv (.inl b :: .inl a :: st) h kc ks = (C 951 lv (vI (a + b) :: st) h kc ks) := rfl
set_option maxRecDepth 4000 in
theorem g160_951 (i : Int32) (k : Nat) : mm_step (mm_rw mr_160) (some .boolean) tb call Q C 951 lv (.inl i :: .inr (.inr (.inl (some k))) :: st) h kc ks = (match h.2 k with
    | some (.inl (.int, n, f)) => vp_in i n ∧ C 952 lv (vI (f i.toNatClampNeg) :: st) h kc ks
    | _ => False) := rfl
set_option maxRecDepth 4000 in
theorem g160_951t (i : Int32) (t : Nat) : mm_step (mm_rw mr_160) (some .boolean) tb call Q C 951 lv (.inl i :: .inr (.inr (.inr t)) :: st) h kc ks = (vp_in i (tb t).1 ∧ C 952 lv (vI ((tb t).2 i.toNatClampNeg) :: st) h kc ks) := rfl
set_option maxRecDepth 4000 in
theorem g160_952  : mm_step (mm_rw mr_160) (some .boolean) tb call Q C 952 lv st h kc ks = ((match (st.take 2).reverse with
    | .inr (.inr (.inl (some k))) :: _ => (match h.2 k with
      | some (.inr (.inr (ci, _))) => mm_cn ci = (mm_mi 155).1.cls
      | _ => False)
    | _ => False) ∧ mm_call call C 155 2 952 lv st h kc ks) := rfl
set_option maxRecDepth 4000 in
theorem g160_955 (a b : Int32) : mm_step (mm_rw mr_160) (some .boolean) tb call Q C 955 lv (.inl b :: .inl a :: st) h kc ks = ((a = b → C 1006 lv st h kc ks) ∧ (¬ a = b → C 958 lv st h kc ks)) := rfl
set_option maxRecDepth 4000 in
theorem g160_958  : mm_step (mm_rw mr_160) (some .boolean) tb call Q C 958 lv st h kc ks = (C 959 lv (vI 0 :: st) h kc ks) := rfl
set_option maxRecDepth 4000 in
theorem g160_959 (v : Int32) : mm_step (mm_rw mr_160) (some .boolean) tb call Q C 959 lv [.inl v] h kc ks = ((v = 0 ∨ v = 1) ∧ Q (some (vI v)) h) := rfl
set_option maxRecDepth 4000 in
theorem g160_960  : mm_step (mm_rw mr_160) (some .boolean) tb call Q C 960 lv st h kc ks = (match mm_rd lv 1 with
    | some (.inr (.inr (.inl (some k)))) => C 961 lv (vR k :: st) h kc ks
    | some (.inr (.inr (.inr t))) => C 961 lv (vT t :: st) h kc ks
    | _ => False) := rfl
set_option maxRecDepth 4000 in
theorem g160_961  : mm_step (mm_rw mr_160) (some .boolean) tb call Q C 961 lv st h kc ks = (match mm_rd lv 0 with
    | some (.inr (.inr (.inl (some k)))) => C 962 lv (vR k :: st) h kc ks
    | some (.inr (.inr (.inr t))) => C 962 lv (vT t :: st) h kc ks
    | _ => False) := rfl
set_option maxRecDepth 4000 in
theorem g160_962  : mm_step (mm_rw mr_160) (some .boolean) tb call Q C 962 lv st h kc ks = (match mm_rd lv 3 with
    | some (.inl a) => C 963 lv (vI a :: st) h kc ks
    | _ => False) := rfl
set_option maxRecDepth 4000 in
theorem g160_963  : mm_step (mm_rw mr_160) (some .boolean) tb call Q C 963 lv st h kc ks = (C 964 lv (vI 1 :: st) h kc ks) := rfl
set_option maxRecDepth 4000 in
theorem g160_964 (a b : Int32) : mm_step (mm_rw mr_160) (some .boolean) tb call Q C 964 lv (.inl b :: .inl a :: st) h kc ks = (C 965 lv (vI (a + b) :: st) h kc ks) := rfl
set_option maxRecDepth 4000 in
theorem g160_965 (i : Int32) (k : Nat) : mm_step (mm_rw mr_160) (some .boolean) tb call Q C 965 lv (.inl i :: .inr (.inr (.inl (some k))) :: st) h kc ks = (match h.2 k with
    | some (.inl (.int, n, f)) => vp_in i n ∧ C 966 lv (vI (f i.toNatClampNeg) :: st) h kc ks
    | _ => False) := rfl
set_option maxRecDepth 4000 in
theorem g160_965t (i : Int32) (t : Nat) : mm_step (mm_rw mr_160) (some .boolean) tb call Q C 965 lv (.inl i :: .inr (.inr (.inr t)) :: st) h kc ks = (vp_in i (tb t).1 ∧ C 966 lv (vI ((tb t).2 i.toNatClampNeg) :: st) h kc ks) := rfl
set_option maxRecDepth 4000 in
theorem g160_966  : mm_step (mm_rw mr_160) (some .boolean) tb call Q C 966 lv st h kc ks = ((match (st.take 2).reverse with
    | .inr (.inr (.inl (some k))) :: _ => (match h.2 k with
      | some (.inr (.inr (ci, _))) => mm_cn ci = (mm_mi 83).1.cls
      | _ => False)
    | _ => False) ∧ mm_call call C 83 2 966 lv st h kc ks) := rfl
set_option maxRecDepth 4000 in
theorem g160_969  : mm_step (mm_rw mr_160) (some .boolean) tb call Q C 969 lv st h kc ks = (match mm_rd lv 2 with
    | some (.inr (.inr (.inl (some k)))) => C 970 lv (vR k :: st) h kc ks
    | some (.inr (.inr (.inr t))) => C 970 lv (vT t :: st) h kc ks
    | _ => False) := rfl
set_option maxRecDepth 4000 in
theorem g160_970  : mm_step (mm_rw mr_160) (some .boolean) tb call Q C 970 lv st h kc ks = (match mm_rd lv 0 with
    | some (.inr (.inr (.inl (some k)))) => C 971 lv (vR k :: st) h kc ks
    | some (.inr (.inr (.inr t))) => C 971 lv (vT t :: st) h kc ks
    | _ => False) := rfl
set_option maxRecDepth 4000 in
theorem g160_971  : mm_step (mm_rw mr_160) (some .boolean) tb call Q C 971 lv st h kc ks = (match mm_rd lv 3 with
    | some (.inl a) => C 972 lv (vI a :: st) h kc ks
    | _ => False) := rfl
set_option maxRecDepth 4000 in
theorem g160_972  : mm_step (mm_rw mr_160) (some .boolean) tb call Q C 972 lv st h kc ks = (C 973 lv (vI 1 :: st) h kc ks) := rfl
set_option maxRecDepth 4000 in
theorem g160_973 (a b : Int32) : mm_step (mm_rw mr_160) (some .boolean) tb call Q C 973 lv (.inl b :: .inl a :: st) h kc ks = (C 974 lv (vI (a + b) :: st) h kc ks) := rfl
set_option maxRecDepth 4000 in
theorem g160_974 (i : Int32) (k : Nat) : mm_step (mm_rw mr_160) (some .boolean) tb call Q C 974 lv (.inl i :: .inr (.inr (.inl (some k))) :: st) h kc ks = (match h.2 k with
    | some (.inl (.int, n, f)) => vp_in i n ∧ C 975 lv (vI (f i.toNatClampNeg) :: st) h kc ks
    | _ => False) := rfl
set_option maxRecDepth 4000 in
theorem g160_974t (i : Int32) (t : Nat) : mm_step (mm_rw mr_160) (some .boolean) tb call Q C 974 lv (.inl i :: .inr (.inr (.inr t)) :: st) h kc ks = (vp_in i (tb t).1 ∧ C 975 lv (vI ((tb t).2 i.toNatClampNeg) :: st) h kc ks) := rfl
set_option maxRecDepth 4000 in
theorem g160_975  : mm_step (mm_rw mr_160) (some .boolean) tb call Q C 975 lv st h kc ks = ((match (st.take 2).reverse with
    | .inr (.inr (.inl (some k))) :: _ => (match h.2 k with
      | some (.inr (.inr (ci, _))) => mm_cn ci = (mm_mi 156).1.cls
      | _ => False)
    | _ => False) ∧ mm_call call C 156 2 975 lv st h kc ks) := rfl
set_option maxRecDepth 4000 in
theorem g160_978 (a b : Int32) : mm_step (mm_rw mr_160) (some .boolean) tb call Q C 978 lv (.inl b :: .inl a :: st) h kc ks = ((a = b → C 1006 lv st h kc ks) ∧ (¬ a = b → C 981 lv st h kc ks)) := rfl
set_option maxRecDepth 4000 in
theorem g160_981  : mm_step (mm_rw mr_160) (some .boolean) tb call Q C 981 lv st h kc ks = (C 982 lv (vI 0 :: st) h kc ks) := rfl
set_option maxRecDepth 4000 in
theorem g160_982 (v : Int32) : mm_step (mm_rw mr_160) (some .boolean) tb call Q C 982 lv [.inl v] h kc ks = ((v = 0 ∨ v = 1) ∧ Q (some (vI v)) h) := rfl
set_option maxRecDepth 4000 in
theorem g160_983  : mm_step (mm_rw mr_160) (some .boolean) tb call Q C 983 lv st h kc ks = (match mm_rd lv 1 with
    | some (.inr (.inr (.inl (some k)))) => C 984 lv (vR k :: st) h kc ks
    | some (.inr (.inr (.inr t))) => C 984 lv (vT t :: st) h kc ks
    | _ => False) := rfl
set_option maxRecDepth 4000 in
theorem g160_984  : mm_step (mm_rw mr_160) (some .boolean) tb call Q C 984 lv st h kc ks = (match mm_rd lv 0 with
    | some (.inr (.inr (.inl (some k)))) => C 985 lv (vR k :: st) h kc ks
    | some (.inr (.inr (.inr t))) => C 985 lv (vT t :: st) h kc ks
    | _ => False) := rfl
set_option maxRecDepth 4000 in
theorem g160_985  : mm_step (mm_rw mr_160) (some .boolean) tb call Q C 985 lv st h kc ks = (match mm_rd lv 3 with
    | some (.inl a) => C 986 lv (vI a :: st) h kc ks
    | _ => False) := rfl
set_option maxRecDepth 4000 in
theorem g160_986  : mm_step (mm_rw mr_160) (some .boolean) tb call Q C 986 lv st h kc ks = (C 987 lv (vI 1 :: st) h kc ks) := rfl
set_option maxRecDepth 4000 in
theorem g160_987 (a b : Int32) : mm_step (mm_rw mr_160) (some .boolean) tb call Q C 987 lv (.inl b :: .inl a :: st) h kc ks = (C 988 lv (vI (a + b) :: st) h kc ks) := rfl
set_option maxRecDepth 4000 in
theorem g160_988 (i : Int32) (k : Nat) : mm_step (mm_rw mr_160) (some .boolean) tb call Q C 988 lv (.inl i :: .inr (.inr (.inl (some k))) :: st) h kc ks = (match h.2 k with
    | some (.inl (.int, n, f)) => vp_in i n ∧ C 989 lv (vI (f i.toNatClampNeg) :: st) h kc ks
    | _ => False) := rfl
set_option maxRecDepth 4000 in
theorem g160_988t (i : Int32) (t : Nat) : mm_step (mm_rw mr_160) (some .boolean) tb call Q C 988 lv (.inl i :: .inr (.inr (.inr t)) :: st) h kc ks = (vp_in i (tb t).1 ∧ C 989 lv (vI ((tb t).2 i.toNatClampNeg) :: st) h kc ks) := rfl
set_option maxRecDepth 4000 in
theorem g160_989  : mm_step (mm_rw mr_160) (some .boolean) tb call Q C 989 lv st h kc ks = ((match (st.take 2).reverse with
    | .inr (.inr (.inl (some k))) :: _ => (match h.2 k with
      | some (.inr (.inr (ci, _))) => mm_cn ci = (mm_mi 84).1.cls
      | _ => False)
    | _ => False) ∧ mm_call call C 84 2 989 lv st h kc ks) := rfl
set_option maxRecDepth 4000 in
theorem g160_992  : mm_step (mm_rw mr_160) (some .boolean) tb call Q C 992 lv st h kc ks = (match mm_rd lv 2 with
    | some (.inr (.inr (.inl (some k)))) => C 993 lv (vR k :: st) h kc ks
    | some (.inr (.inr (.inr t))) => C 993 lv (vT t :: st) h kc ks
    | _ => False) := rfl
set_option maxRecDepth 4000 in
theorem g160_993  : mm_step (mm_rw mr_160) (some .boolean) tb call Q C 993 lv st h kc ks = (match mm_rd lv 0 with
    | some (.inr (.inr (.inl (some k)))) => C 994 lv (vR k :: st) h kc ks
    | some (.inr (.inr (.inr t))) => C 994 lv (vT t :: st) h kc ks
    | _ => False) := rfl
set_option maxRecDepth 4000 in
theorem g160_994  : mm_step (mm_rw mr_160) (some .boolean) tb call Q C 994 lv st h kc ks = (match mm_rd lv 3 with
    | some (.inl a) => C 995 lv (vI a :: st) h kc ks
    | _ => False) := rfl
set_option maxRecDepth 4000 in
theorem g160_995  : mm_step (mm_rw mr_160) (some .boolean) tb call Q C 995 lv st h kc ks = (C 996 lv (vI 1 :: st) h kc ks) := rfl
set_option maxRecDepth 4000 in
theorem g160_996 (a b : Int32) : mm_step (mm_rw mr_160) (some .boolean) tb call Q C 996 lv (.inl b :: .inl a :: st) h kc ks = (C 997 lv (vI (a + b) :: st) h kc ks) := rfl
set_option maxRecDepth 4000 in
theorem g160_997 (i : Int32) (k : Nat) : mm_step (mm_rw mr_160) (some .boolean) tb call Q C 997 lv (.inl i :: .inr (.inr (.inl (some k))) :: st) h kc ks = (match h.2 k with
    | some (.inl (.int, n, f)) => vp_in i n ∧ C 998 lv (vI (f i.toNatClampNeg) :: st) h kc ks
    | _ => False) := rfl
set_option maxRecDepth 4000 in
theorem g160_997t (i : Int32) (t : Nat) : mm_step (mm_rw mr_160) (some .boolean) tb call Q C 997 lv (.inl i :: .inr (.inr (.inr t)) :: st) h kc ks = (vp_in i (tb t).1 ∧ C 998 lv (vI ((tb t).2 i.toNatClampNeg) :: st) h kc ks) := rfl
set_option maxRecDepth 4000 in
theorem g160_998  : mm_step (mm_rw mr_160) (some .boolean) tb call Q C 998 lv st h kc ks = ((match (st.take 2).reverse with
    | .inr (.inr (.inl (some k))) :: _ => (match h.2 k with
      | some (.inr (.inr (ci, _))) => mm_cn ci = (mm_mi 157).1.cls
      | _ => False)
    | _ => False) ∧ mm_call call C 157 2 998 lv st h kc ks) := rfl
set_option maxRecDepth 4000 in
theorem g160_1001 (a b : Int32) : mm_step (mm_rw mr_160) (some .boolean) tb call Q C 1001 lv (.inl b :: .inl a :: st) h kc ks = ((a = b → C 1006 lv st h kc ks) ∧ (¬ a = b → C 1004 lv st h kc ks)) := rfl
set_option maxRecDepth 4000 in
theorem g160_1004  : mm_step (mm_rw mr_160) (some .boolean) tb call Q C 1004 lv st h kc ks = (C 1005 lv (vI 0 :: st) h kc ks) := rfl
set_option maxRecDepth 4000 in
theorem g160_1005 (v : Int32) : mm_step (mm_rw mr_160) (some .boolean) tb call Q C 1005 lv [.inl v] h kc ks = ((v = 0 ∨ v = 1) ∧ Q (some (vI v)) h) := rfl
set_option maxRecDepth 4000 in
theorem g160_1006  : mm_step (mm_rw mr_160) (some .boolean) tb call Q C 1006 lv st h kc ks = (match mm_rd lv 3 with
    | some (.inl a) => C 1009 (mm_st1 lv 3 (vI (a + 6))) st h kc ks
    | _ => False) := rfl
set_option maxRecDepth 4000 in
theorem g160_1009  : mm_step (mm_rw mr_160) (some .boolean) tb call Q C 1009 lv st h kc ks = (C 18 lv st h kc ks) := rfl
set_option maxRecDepth 4000 in
theorem g160_1012  : mm_step (mm_rw mr_160) (some .boolean) tb call Q C 1012 lv st h kc ks = (C 1013 lv (vI 1 :: st) h kc ks) := rfl
set_option maxRecDepth 4000 in
theorem g160_1013 (v : Int32) : mm_step (mm_rw mr_160) (some .boolean) tb call Q C 1013 lv [.inl v] h kc ks = ((v = 0 ∨ v = 1) ∧ Q (some (vI v)) h) := rfl
end G160

theorem sw_all {C : Nat → Prop} {a : Int32} {dflt : Nat} : ∀ (ts : List Nat) (lo : Int32), C dflt → (∀ t ∈ ts, C t) → mm_sw C a dflt lo ts
  | [], _, h, _ => h
  | _ :: ts, _, h, ht => ⟨fun _ => ht _ List.mem_cons_self, fun _ => sw_all ts _ h (fun t hm => ht t (List.mem_cons_of_mem _ hm))⟩
theorem cmp_self (a : Int64) : lg_cmp a a = 0 := (cmp_eq a a).mpr rfl
theorem tb_1 (L : Nat) (xs : Nat → Int32) : (mm_tbl L xs 2).1 = L := rfl
theorem tb_2 (L : Nat) (xs : Nat → Int32) : (mm_tbl L xs 2).2 = xs := rfl
theorem law_lt {L i : Nat} (hL : L ≤ 3072) (hi : i ≤ 3072) : (Int32.ofNat L - 6 < nI i) = (L < i + 6) := by
  apply propext
  have h1 : (nI L - nI 6).toInt = (L : Int) - 6 := pk_sub_toInt (by omega) (by omega)
  have h2 := nI_toInt (n := i) (by omega)
  show nI L - nI 6 < nI i ↔ _
  rw [Int32.lt_iff_toInt_lt, h1, h2]
  omega
