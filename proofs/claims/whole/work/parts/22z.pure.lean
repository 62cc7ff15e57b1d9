theorem pure_main (xs : Nat → Int32) (L : Nat) (hL : L ≤ 3072) : wl_L_law_23 xs L 1000 0 X00 M00 T00 = some 1 := sorry
