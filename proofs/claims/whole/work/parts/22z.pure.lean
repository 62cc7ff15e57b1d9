theorem pure_main (xs : Nat → Int32) (L : Nat) (hL : L ≤ 3072) : wl_L_law_23 xs L 1000 0 X00 M00 T00 = some 1 := l_loop hL 513 0 0 1000 X00 M00 T00 (by omega) (by omega) (by omega) (by omega) i0_J
