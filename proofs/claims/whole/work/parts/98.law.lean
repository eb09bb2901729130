theorem law_ok (L : Nat) (xs : Nat → Int32) (hL : L ≤ 3072) : WM (mm_tbl L xs) 31 k_L_law [vT 2] mm_h0 600000 7302250 (fun r _ => r = some (vI 1)) := sorry
