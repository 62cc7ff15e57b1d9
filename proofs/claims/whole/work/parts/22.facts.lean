section SF
variable {s : State} {a : Array Value}
theorem st_nw (hts : ∀ w ∈ lw_tbl, w.before a s = true) : g_nw s := ⟨va_Nw.of rfl (hts _ (tb2 _ (List.mem_of_getElem? (i := 155) (by first | rfl | decide +kernel)))), va_Nw.of rfl (hts _ (tb2 _ (List.mem_of_getElem? (i := 190) (by first | rfl | decide +kernel)))), va_Nw.of rfl (hts _ (tb3 _ (List.mem_of_getElem? (i := 23) (by first | rfl | decide +kernel)))), va_Nw.of rfl (hts _ (tb3 _ (List.mem_of_getElem? (i := 85) (by first | rfl | decide +kernel)))), va_Nw.of rfl (hts _ (tb3 _ (List.mem_of_getElem? (i := 199) (by first | rfl | decide +kernel)))), va_Nw.of rfl (hts _ (tb3 _ (List.mem_of_getElem? (i := 212) (by first | rfl | decide +kernel)))), va_Nw.of rfl (hts _ (tb2 _ (List.mem_of_getElem? (i := 138) (by first | rfl | decide +kernel)))), va_Nw.of rfl (hts _ (tb4 _ (List.mem_of_getElem? (i := 143) (by first | rfl | decide +kernel)))), va_Nw.of rfl (hts _ (tb4 _ (List.mem_of_getElem? (i := 145) (by first | rfl | decide +kernel)))), va_Nw.of rfl (hts _ (tb4 _ (List.mem_of_getElem? (i := 147) (by first | rfl | decide +kernel)))), va_Nw.of rfl (hts _ (tb4 _ (List.mem_of_getElem? (i := 142) (by first | rfl | decide +kernel))))⟩
theorem st_cn (hts : ∀ w ∈ lw_tbl, w.before a s = true) : c_nw s := ⟨va_Nw.of rfl (hts _ (tb1 _ (List.mem_of_getElem? (i := 54) (by first | rfl | decide +kernel)))), va_Nw.of rfl (hts _ (tb2 _ (List.mem_of_getElem? (i := 78) (by first | rfl | decide +kernel)))), va_Nw.of rfl (hts _ (tb2 _ (List.mem_of_getElem? (i := 88) (by first | rfl | decide +kernel)))), va_Nw.of rfl (hts _ (tb1 _ (List.mem_of_getElem? (i := 88) (by first | rfl | decide +kernel)))), va_Nw.of rfl (hts _ (tb1 _ (List.mem_of_getElem? (i := 117) (by first | rfl | decide +kernel)))), va_Nw.of rfl (hts _ (tb1 _ (List.mem_of_getElem? (i := 137) (by first | rfl | decide +kernel)))), va_Nw.of rfl (hts _ (tb1 _ (List.mem_of_getElem? (i := 175) (by first | rfl | decide +kernel)))), va_AO.of (hts _ (tb1 _ (List.mem_of_getElem? (i := 79) (by first | rfl | decide +kernel)))), over_moved (Vm.Alike.refl s.vm) (hts _ (tb1 _ (List.mem_of_getElem? (i := 122) (by first | rfl | decide +kernel))))⟩
theorem st_cy (hts : ∀ w ∈ lw_tbl, w.before a s = true) : ∃ cy : Nat → ClassId, ∀ (k : Nat) (q : ClassId × FieldType), (c_ty cy)[k]? = some q → ArrOfT s q.1 q.2 ∧ va_RA s q.1 q.2 := by
  obtain ⟨c0, k0, m0, f0, g0, h0⟩ := Cond.arrayClass_spec (hts (Cond.arrayClass .int) (tb1 _ (List.mem_of_getElem? (i := 51) (by first | rfl | decide +kernel))))
  obtain ⟨c1, k1, m1, f1, g1, h1⟩ := Cond.arrayClass_spec (hts (Cond.arrayClass .long) (tb5 _ (List.mem_of_getElem? (i := 75) (by first | rfl | decide +kernel))))
  obtain ⟨c2, k2, m2, f2, g2, h2⟩ := Cond.arrayClass_spec (hts (Cond.arrayClass .boolean) (tb5 _ (List.mem_of_getElem? (i := 74) (by first | rfl | decide +kernel))))
  obtain ⟨m3, c3, k3, e3, -, g3, h3, f3⟩ := Cond.arrayOver_spec (hts (Cond.arrayOver (.object "BarrelSlots$Strand")) (tb1 _ (List.mem_of_getElem? (i := 79) (by first | rfl | decide +kernel))))
  obtain ⟨m4, c4, k4, e4, -, g4, h4, f4⟩ := arrayOverA_spec (hts (Cond.arrayOver (.array .int)) (tb1 _ (List.mem_of_getElem? (i := 122) (by first | rfl | decide +kernel))))
  refine ⟨fun n => ([c0, c1, c2, c3, c4] : List ClassId).getD n c0, fun k q hq => ?_⟩
  match k, hq with
  | 0, hq => cases hq; exact ⟨fun n z => ⟨fun q hq => (by cases hq), k0, g0, m0, h0⟩, f0⟩
  | 1, hq => cases hq; exact ⟨fun n z => ⟨fun q hq => (by cases hq), k1, g1, m1, h1⟩, f1⟩
  | 2, hq => cases hq; exact ⟨fun n z => ⟨fun q hq => (by cases hq), k2, g2, m2, h2⟩, f2⟩
  | 3, hq => cases hq; exact ⟨fun n z => ⟨fun q hq => (by cases hq), k3, g3, m3, h3⟩, k3, m3, g3, h3, e3, f3⟩
  | 4, hq => cases hq; exact ⟨fun n z => ⟨fun q hq => (by cases hq), k4, g4, m4, h4⟩, f4⟩
  | k + 5, hq => simp [c_ty] at hq
theorem st_D (hts : ∀ w ∈ wsL_law, w.before a s = true) : ∃ D : va_G, ∀ (k : Nat) (q : vw_C), g_cl[k]? = some q → u_Kn s q.1 q.2.1 q.2.2 (D.1 k) (D.2 k) := by
  obtain ⟨c0, i0, h0⟩ := u_known (C := RX0) (T := TX0) (N := 2) (n := 2) hts inlX0 (hts _ q3_16)
  obtain ⟨c1, i1, h1⟩ := u_known (C := RX1) (T := TX1) (N := 5) (n := 5) hts inlX1 (hts _ q5_2)
  obtain ⟨c2, i2, h2⟩ := u_known (C := RX2) (T := TX2) (N := 1) (n := 1) hts inlX2 (hts _ q2_3)
  obtain ⟨c3, i3, h3⟩ := u_known (C := RX3) (T := TX3) (N := 3) (n := 3) hts inlX3 (hts _ q4_7)
  obtain ⟨c4, i4, h4⟩ := u_known (C := RX4) (T := TX4) (N := 5) (n := 5) hts inlX4 (hts _ q5_6)
  obtain ⟨c5, i5, h5⟩ := u_known (C := RX5) (T := TX5) (N := 4) (n := 4) hts inlX5 (hts _ q1_18)
  obtain ⟨c6, i6, h6⟩ := u_known (C := RX6) (T := TX6) (N := 3) (n := 3) hts inlX6 (hts _ q2_7)
  obtain ⟨c7, i7, h7⟩ := u_known (C := RX7) (T := TX7) (N := 12) (n := 12) hts inlX7 (hts _ q1_22)
  obtain ⟨c8, i8, h8⟩ := u_known (C := RX8) (T := TX8) (N := 3) (n := 3) hts inlX8 (hts _ q3_12)
  obtain ⟨c9, i9, h9⟩ := u_known (C := RX9) (T := TX9) (N := 15) (n := 15) hts inlX9 (hts _ q3_22)
  obtain ⟨c10, i10, h10⟩ := u_known (C := RX10) (T := TX10) (N := 2) (n := 2) hts inlX10 (hts _ q1_14)
  obtain ⟨c11, i11, h11⟩ := u_known (C := RX11) (T := TX11) (N := 8) (n := 8) hts inlX11 (hts _ q1_1)
  obtain ⟨c12, i12, h12⟩ := u_known (C := RX12) (T := TX12) (N := 22) (n := 22) hts inlX12 (hts _ q1_4)
  refine ⟨(fun n => ([c0, c1, c2, c3, c4, c5, c6, c7, c8, c9, c10, c11, c12] : List ClassId).getD n c0, fun n => ([i0, i1, i2, i3, i4, i5, i6, i7, i8, i9, i10, i11, i12] : List (Nat → Nat)).getD n i0), fun k q hq => ?_⟩
  match k, hq with
  | 0, hq => cases hq; exact h0
  | 1, hq => cases hq; exact h1
  | 2, hq => cases hq; exact h2
  | 3, hq => cases hq; exact h3
  | 4, hq => cases hq; exact h4
  | 5, hq => cases hq; exact h5
  | 6, hq => cases hq; exact h6
  | 7, hq => cases hq; exact h7
  | 8, hq => cases hq; exact h8
  | 9, hq => cases hq; exact h9
  | 10, hq => cases hq; exact h10
  | 11, hq => cases hq; exact h11
  | 12, hq => cases hq; exact h12
  | k + 13, hq => simp [g_cl] at hq
end SF
set_option maxRecDepth 100000 in
set_option maxHeartbeats 4000000 in
theorem st_ev {s : State} {a : Array Value} {D : va_G} {ad : Nat → Nat → Nat} {cy : Nat → ClassId} (hts : ∀ w ∈ lw_tbl, w.before a s = true) (hgv : (Jvm.Cond.and given_1 narrow_1).before a s = true) : ∃ g : Nat, ∀ (ad : Nat → Nat → Nat), g_ev (D, ad, s.heap.size, cy, g) s := by
  have hs := flat_of_before _ hgv
  have hA : ∀ q : Nat, q < s.heap.size → ¬ (fun q => s.heap.size ≤ q) q := fun q h1 h2 => Nat.not_le.mpr h1 h2
  have hT := va_Tof (tm := .static "BarrelSlots" "GREATEST" "[I") (ty := .int) (N := 63) (f := fun j => .int (g_tab j)) (by decide) (hs _ (by decide +kernel)) (va_eqt (hs (Cond.eq (.length (.static "BarrelSlots" "GREATEST" "[I")) (.int 63)) (by decide +kernel))) (fun j hj => by
    match j, hj with
    | 0, _ => exact va_eqt (hs (Cond.eq (.elem (.static "BarrelSlots" "GREATEST" "[I") (.int 0)) (.int (7))) (by decide +kernel))
    | 1, _ => exact va_eqt (hs (Cond.eq (.elem (.static "BarrelSlots" "GREATEST" "[I") (.int 1)) (.int (-1))) (by decide +kernel))
    | 2, _ => exact va_eqt (hs (Cond.eq (.elem (.static "BarrelSlots" "GREATEST" "[I") (.int 2)) (.int (-1))) (by decide +kernel))
    | 3, _ => exact va_eqt (hs (Cond.eq (.elem (.static "BarrelSlots" "GREATEST" "[I") (.int 3)) (.int (7))) (by decide +kernel))
    | 4, _ => exact va_eqt (hs (Cond.eq (.elem (.static "BarrelSlots" "GREATEST" "[I") (.int 4)) (.int (7))) (by decide +kernel))
    | 5, _ => exact va_eqt (hs (Cond.eq (.elem (.static "BarrelSlots" "GREATEST" "[I") (.int 5)) (.int (7))) (by decide +kernel))
    | 6, _ => exact va_eqt (hs (Cond.eq (.elem (.static "BarrelSlots" "GREATEST" "[I") (.int 6)) (.int (7))) (by decide +kernel))
    | 7, _ => exact va_eqt (hs (Cond.eq (.elem (.static "BarrelSlots" "GREATEST" "[I") (.int 7)) (.int (7))) (by decide +kernel))
    | 8, _ => exact va_eqt (hs (Cond.eq (.elem (.static "BarrelSlots" "GREATEST" "[I") (.int 8)) (.int (7))) (by decide +kernel))
    | 9, _ => exact va_eqt (hs (Cond.eq (.elem (.static "BarrelSlots" "GREATEST" "[I") (.int 9)) (.int (7))) (by decide +kernel))
    | 10, _ => exact va_eqt (hs (Cond.eq (.elem (.static "BarrelSlots" "GREATEST" "[I") (.int 10)) (.int (7))) (by decide +kernel))
    | 11, _ => exact va_eqt (hs (Cond.eq (.elem (.static "BarrelSlots" "GREATEST" "[I") (.int 11)) (.int (7))) (by decide +kernel))
    | 12, _ => exact va_eqt (hs (Cond.eq (.elem (.static "BarrelSlots" "GREATEST" "[I") (.int 12)) (.int (7))) (by decide +kernel))
    | 13, _ => exact va_eqt (hs (Cond.eq (.elem (.static "BarrelSlots" "GREATEST" "[I") (.int 13)) (.int (7))) (by decide +kernel))
    | 14, _ => exact va_eqt (hs (Cond.eq (.elem (.static "BarrelSlots" "GREATEST" "[I") (.int 14)) (.int (7))) (by decide +kernel))
    | 15, _ => exact va_eqt (hs (Cond.eq (.elem (.static "BarrelSlots" "GREATEST" "[I") (.int 15)) (.int (7))) (by decide +kernel))
    | 16, _ => exact va_eqt (hs (Cond.eq (.elem (.static "BarrelSlots" "GREATEST" "[I") (.int 16)) (.int (7))) (by decide +kernel))
    | 17, _ => exact va_eqt (hs (Cond.eq (.elem (.static "BarrelSlots" "GREATEST" "[I") (.int 17)) (.int (-1))) (by decide +kernel))
    | 18, _ => exact va_eqt (hs (Cond.eq (.elem (.static "BarrelSlots" "GREATEST" "[I") (.int 18)) (.int (7))) (by decide +kernel))
    | 19, _ => exact va_eqt (hs (Cond.eq (.elem (.static "BarrelSlots" "GREATEST" "[I") (.int 19)) (.int (7))) (by decide +kernel))
    | 20, _ => exact va_eqt (hs (Cond.eq (.elem (.static "BarrelSlots" "GREATEST" "[I") (.int 20)) (.int (-1))) (by decide +kernel))
    | 21, _ => exact va_eqt (hs (Cond.eq (.elem (.static "BarrelSlots" "GREATEST" "[I") (.int 21)) (.int (-1))) (by decide +kernel))
    | 22, _ => exact va_eqt (hs (Cond.eq (.elem (.static "BarrelSlots" "GREATEST" "[I") (.int 22)) (.int (23))) (by decide +kernel))
    | 23, _ => exact va_eqt (hs (Cond.eq (.elem (.static "BarrelSlots" "GREATEST" "[I") (.int 23)) (.int (-1))) (by decide +kernel))
    | 24, _ => exact va_eqt (hs (Cond.eq (.elem (.static "BarrelSlots" "GREATEST" "[I") (.int 24)) (.int (7))) (by decide +kernel))
    | 25, _ => exact va_eqt (hs (Cond.eq (.elem (.static "BarrelSlots" "GREATEST" "[I") (.int 25)) (.int (23))) (by decide +kernel))
    | 26, _ => exact va_eqt (hs (Cond.eq (.elem (.static "BarrelSlots" "GREATEST" "[I") (.int 26)) (.int (-1))) (by decide +kernel))
    | 27, _ => exact va_eqt (hs (Cond.eq (.elem (.static "BarrelSlots" "GREATEST" "[I") (.int 27)) (.int (7))) (by decide +kernel))
    | 28, _ => exact va_eqt (hs (Cond.eq (.elem (.static "BarrelSlots" "GREATEST" "[I") (.int 28)) (.int (23))) (by decide +kernel))
    | 29, _ => exact va_eqt (hs (Cond.eq (.elem (.static "BarrelSlots" "GREATEST" "[I") (.int 29)) (.int (-1))) (by decide +kernel))
    | 30, _ => exact va_eqt (hs (Cond.eq (.elem (.static "BarrelSlots" "GREATEST" "[I") (.int 30)) (.int (7))) (by decide +kernel))
    | 31, _ => exact va_eqt (hs (Cond.eq (.elem (.static "BarrelSlots" "GREATEST" "[I") (.int 31)) (.int (7))) (by decide +kernel))
    | 32, _ => exact va_eqt (hs (Cond.eq (.elem (.static "BarrelSlots" "GREATEST" "[I") (.int 32)) (.int (-1))) (by decide +kernel))
    | 33, _ => exact va_eqt (hs (Cond.eq (.elem (.static "BarrelSlots" "GREATEST" "[I") (.int 33)) (.int (7))) (by decide +kernel))
    | 34, _ => exact va_eqt (hs (Cond.eq (.elem (.static "BarrelSlots" "GREATEST" "[I") (.int 34)) (.int (7))) (by decide +kernel))
    | 35, _ => exact va_eqt (hs (Cond.eq (.elem (.static "BarrelSlots" "GREATEST" "[I") (.int 35)) (.int (7))) (by decide +kernel))
    | 36, _ => exact va_eqt (hs (Cond.eq (.elem (.static "BarrelSlots" "GREATEST" "[I") (.int 36)) (.int (7))) (by decide +kernel))
    | 37, _ => exact va_eqt (hs (Cond.eq (.elem (.static "BarrelSlots" "GREATEST" "[I") (.int 37)) (.int (7))) (by decide +kernel))
    | 38, _ => exact va_eqt (hs (Cond.eq (.elem (.static "BarrelSlots" "GREATEST" "[I") (.int 38)) (.int (-1))) (by decide +kernel))
    | 39, _ => exact va_eqt (hs (Cond.eq (.elem (.static "BarrelSlots" "GREATEST" "[I") (.int 39)) (.int (7))) (by decide +kernel))
    | 40, _ => exact va_eqt (hs (Cond.eq (.elem (.static "BarrelSlots" "GREATEST" "[I") (.int 40)) (.int (7))) (by decide +kernel))
    | 41, _ => exact va_eqt (hs (Cond.eq (.elem (.static "BarrelSlots" "GREATEST" "[I") (.int 41)) (.int (7))) (by decide +kernel))
    | 42, _ => exact va_eqt (hs (Cond.eq (.elem (.static "BarrelSlots" "GREATEST" "[I") (.int 42)) (.int (7))) (by decide +kernel))
    | 43, _ => exact va_eqt (hs (Cond.eq (.elem (.static "BarrelSlots" "GREATEST" "[I") (.int 43)) (.int (-1))) (by decide +kernel))
    | 44, _ => exact va_eqt (hs (Cond.eq (.elem (.static "BarrelSlots" "GREATEST" "[I") (.int 44)) (.int (-1))) (by decide +kernel))
    | 45, _ => exact va_eqt (hs (Cond.eq (.elem (.static "BarrelSlots" "GREATEST" "[I") (.int 45)) (.int (7))) (by decide +kernel))
    | 46, _ => exact va_eqt (hs (Cond.eq (.elem (.static "BarrelSlots" "GREATEST" "[I") (.int 46)) (.int (-1))) (by decide +kernel))
    | 47, _ => exact va_eqt (hs (Cond.eq (.elem (.static "BarrelSlots" "GREATEST" "[I") (.int 47)) (.int (-1))) (by decide +kernel))
    | 48, _ => exact va_eqt (hs (Cond.eq (.elem (.static "BarrelSlots" "GREATEST" "[I") (.int 48)) (.int (3))) (by decide +kernel))
    | 49, _ => exact va_eqt (hs (Cond.eq (.elem (.static "BarrelSlots" "GREATEST" "[I") (.int 49)) (.int (7))) (by decide +kernel))
    | 50, _ => exact va_eqt (hs (Cond.eq (.elem (.static "BarrelSlots" "GREATEST" "[I") (.int 50)) (.int (-1))) (by decide +kernel))
    | 51, _ => exact va_eqt (hs (Cond.eq (.elem (.static "BarrelSlots" "GREATEST" "[I") (.int 51)) (.int (3))) (by decide +kernel))
    | 52, _ => exact va_eqt (hs (Cond.eq (.elem (.static "BarrelSlots" "GREATEST" "[I") (.int 52)) (.int (7))) (by decide +kernel))
    | 53, _ => exact va_eqt (hs (Cond.eq (.elem (.static "BarrelSlots" "GREATEST" "[I") (.int 53)) (.int (-1))) (by decide +kernel))
    | 54, _ => exact va_eqt (hs (Cond.eq (.elem (.static "BarrelSlots" "GREATEST" "[I") (.int 54)) (.int (-1))) (by decide +kernel))
    | 55, _ => exact va_eqt (hs (Cond.eq (.elem (.static "BarrelSlots" "GREATEST" "[I") (.int 55)) (.int (-1))) (by decide +kernel))
    | 56, _ => exact va_eqt (hs (Cond.eq (.elem (.static "BarrelSlots" "GREATEST" "[I") (.int 56)) (.int (-1))) (by decide +kernel))
    | 57, _ => exact va_eqt (hs (Cond.eq (.elem (.static "BarrelSlots" "GREATEST" "[I") (.int 57)) (.int (7))) (by decide +kernel))
    | 58, _ => exact va_eqt (hs (Cond.eq (.elem (.static "BarrelSlots" "GREATEST" "[I") (.int 58)) (.int (7))) (by decide +kernel))
    | 59, _ => exact va_eqt (hs (Cond.eq (.elem (.static "BarrelSlots" "GREATEST" "[I") (.int 59)) (.int (7))) (by decide +kernel))
    | 60, _ => exact va_eqt (hs (Cond.eq (.elem (.static "BarrelSlots" "GREATEST" "[I") (.int 60)) (.int (7))) (by decide +kernel))
    | 61, _ => exact va_eqt (hs (Cond.eq (.elem (.static "BarrelSlots" "GREATEST" "[I") (.int 61)) (.int (7))) (by decide +kernel))
    | 62, _ => exact va_eqt (hs (Cond.eq (.elem (.static "BarrelSlots" "GREATEST" "[I") (.int 62)) (.int (7))) (by decide +kernel))
    | j + 63, hj => omega) hA
  obtain ⟨t, ht, hT⟩ := hT
  refine ⟨t, fun ad => ⟨va_Zref (hts _ (tb2 _ (List.mem_of_getElem? (i := 139) (by first | rfl | decide +kernel)))) (hts _ (tb1 _ (List.mem_of_getElem? (i := 1) (by first | rfl | decide +kernel)))) ht hA, hT, vx_Zqof (hts _ (tb4 _ (List.mem_of_getElem? (i := 167) (by first | rfl | decide +kernel)))) (hts _ (tb1 _ (List.mem_of_getElem? (i := 17) (by first | rfl | decide +kernel)))) (hs _ (by decide +kernel)) hA, vx_Zqof (hts _ (tb4 _ (List.mem_of_getElem? (i := 169) (by first | rfl | decide +kernel)))) (hts _ (tb1 _ (List.mem_of_getElem? (i := 17) (by first | rfl | decide +kernel)))) (hs _ (by decide +kernel)) hA⟩⟩
