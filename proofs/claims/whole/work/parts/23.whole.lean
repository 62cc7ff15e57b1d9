theorem c_setEnd {α : Type} {l N : List α} {x y : α} : (l ++ [x]).set l.length y ++ N = (l ++ [y]) ++ N := by simp
set_option maxRecDepth 1000000 in
set_option maxHeartbeats 40000000 in
theorem c_final {D : va_G} {cy : Nat → ClassId} {z0 g qx qm qo : Nat} {u : S_X11} {v : S_X12} {H : Heap} (hP : va_P D g_cl ((([(qx, .inr (11, [.ref (u.1 0), .ref (u.1 1), .ref (u.1 2), .ref (u.1 3), .ref (u.1 4), .ref (u.1 5), .ref (u.1 6), .ref (u.1 7)]))] ++ nw_X11 cy u) ++ [(qm, .inr (12, [.ref (v 0), .ref (v 1), .ref (v 2), .ref (v 3), .ref (v 4), .ref (v 5), .ref (v 6), .ref (v 7), .ref (v 8), .ref (v 9), .int 0, .ref (v 10), .int 1, .ref (v 11), .ref (v 12), .int 0, .ref (v 13), .ref (v 14), .ref (v 15), .ref (v 16), .int 0, .ref (v 17)]))] ++ nw_X12 cy v) ++ [(qo, .inl (cy 1, 1, .inr (.inl (fun _ => 0))))]) H) (hD : va_D (fun q => z0 ≤ q) ((([(qx, .inr (11, [.ref (u.1 0), .ref (u.1 1), .ref (u.1 2), .ref (u.1 3), .ref (u.1 4), .ref (u.1 5), .ref (u.1 6), .ref (u.1 7)]))] ++ nw_X11 cy u) ++ [(qm, .inr (12, [.ref (v 0), .ref (v 1), .ref (v 2), .ref (v 3), .ref (v 4), .ref (v 5), .ref (v 6), .ref (v 7), .ref (v 8), .ref (v 9), .int 0, .ref (v 10), .int 1, .ref (v 11), .ref (v 12), .int 0, .ref (v 13), .ref (v 14), .ref (v 15), .ref (v 16), .int 0, .ref (v 17)]))] ++ nw_X12 cy v) ++ [(qo, .inl (cy 1, 1, .inr (.inl (fun _ => 0))))])) : va_P D g_cl (wd (GG D cy z0 g qx qm qo u v) (cb X00 M00) T00) H ∧ ∀ σ τ, va_D (fun q => z0 ≤ q) (wd (GG D cy z0 g qx qm qo u v) σ τ) := by
  rw [c_alloc] at hP hD
  have h1 := hP.sub (ws' := WLs cy qx qm qo u v) [15, 88, 32, 41, 50, 59, 68, 77, 105, 114, 123, 132, 141, 150, 5, 24, 97, 33, 42, 51, 60, 69, 78, 106, 115, 124, 133, 142, 151, 2, 6, 3, 4, 14, 87, 16, 17, 18, 19, 20, 21, 89, 90, 91, 92, 93, 94, 1, 0, 26, 99, 27, 28, 29, 30, 100, 101, 102, 103, 31, 104, 37, 46, 55, 64, 73, 82, 110, 119, 128, 137, 146, 155, 38, 47, 56, 65, 74, 83, 111, 120, 129, 138, 147, 156, 39, 48, 57, 66, 75, 84, 112, 121, 130, 139, 148, 157, 40, 49, 58, 67, 76, 85, 113, 122, 131, 140, 149, 158, 159, 25, 98, 10, 11, 12, 160, 161, 162, 13, 86, 22, 95, 23, 96, 34, 43, 52, 61, 70, 79, 107, 116, 125, 134, 143, 152, 35, 44, 53, 62, 71, 80, 108, 117, 126, 135, 144, 153, 36, 45, 54, 63, 72, 81, 109, 118, 127, 136, 145, 154, 9, 7, 8, 163, 164, 165, 166, 167, 168, 169, 170, 171, 172, 173, 174, 175, 176, 177, 178, 179, 180, 181, 182] c_sorted
  have d1 := hD.sub (ws' := WLs cy qx qm qo u v) [15, 88, 32, 41, 50, 59, 68, 77, 105, 114, 123, 132, 141, 150, 5, 24, 97, 33, 42, 51, 60, 69, 78, 106, 115, 124, 133, 142, 151, 2, 6, 3, 4, 14, 87, 16, 17, 18, 19, 20, 21, 89, 90, 91, 92, 93, 94, 1, 0, 26, 99, 27, 28, 29, 30, 100, 101, 102, 103, 31, 104, 37, 46, 55, 64, 73, 82, 110, 119, 128, 137, 146, 155, 38, 47, 56, 65, 74, 83, 111, 120, 129, 138, 147, 156, 39, 48, 57, 66, 75, 84, 112, 121, 130, 139, 148, 157, 40, 49, 58, 67, 76, 85, 113, 122, 131, 140, 149, 158, 159, 25, 98, 10, 11, 12, 160, 161, 162, 13, 86, 22, 95, 23, 96, 34, 43, 52, 61, 70, 79, 107, 116, 125, 134, 143, 152, 35, 44, 53, 62, 71, 80, 108, 117, 126, 135, 144, 153, 36, 45, 54, 63, 72, 81, 109, 118, 127, 136, 145, 154, 9, 7, 8, 163, 164, 165, 166, 167, 168, 169, 170, 171, 172, 173, 174, 175, 176, 177, 178, 179, 180, 181, 182] (by decide +kernel) c_sortedD
  have h2 := c_congP (g := fun j => some (adf qx qm qo u v 14 (4 * 0 + j))) h1 (k := 49) rfl (fun j hj => by match j, hj with | 0, _ => rfl | 1, _ => rfl | 2, _ => rfl | 3, _ => rfl | j + 4, hj => omega)
  have h3 := c_congP (g := fun j => some (adf qx qm qo u v 14 (4 * 1 + j))) h2 (k := 50) rfl (fun j hj => by match j, hj with | 0, _ => rfl | 1, _ => rfl | 2, _ => rfl | 3, _ => rfl | j + 4, hj => omega)
  have h4 := c_congP (g := fun j => some (adf qx qm qo u v 9 (6 * 0 + j))) h3 (k := 118) rfl (fun j hj => by match j, hj with | 0, _ => rfl | 1, _ => rfl | 2, _ => rfl | 3, _ => rfl | 4, _ => rfl | 5, _ => rfl | j + 6, hj => omega)
  have h5 := c_congP (g := fun j => some (adf qx qm qo u v 9 (6 * 1 + j))) h4 (k := 119) rfl (fun j hj => by match j, hj with | 0, _ => rfl | 1, _ => rfl | 2, _ => rfl | 3, _ => rfl | 4, _ => rfl | 5, _ => rfl | j + 6, hj => omega)
  refine ⟨by rw [c_wd]; exact h5, fun σ τ => ?_⟩
  refine c_addrD ?_ d1
  show _ = (g_ix.map _).map Prod.fst
  rw [List.map_map]
  rfl
set_option maxRecDepth 100000 in
set_option maxHeartbeats 40000000 in
/-- THE LAW, from its entry -/
theorem whole_start {p : Program} {e : Env} {s : State} {m : MethodId} {below : List Frame} {meth : Method} {c : Code} (l : Launch) (hflags : l.flags = flags0) {b L : Nat} {xs : Nat → Int32} (hL : L ≤ 3072) (C0 : lw_At p s m meth c b L xs) : W p l e room_1 s m #[Value.ref b] below meth c s.heap [] 0 0 (lw_Z below #[Value.ref b] s) (entryFrame m ([Value.ref b] : List Value).toArray 7) := by
  obtain ⟨hx, hb, hr, hml, hown, hts1, hX, hbl, hlocks, hgv⟩ := id C0
  have hts : ∀ w ∈ wsL_law, w.before #[Value.ref b] s = true := fun w h => hts1 w (wsL_law_in w h)
  have hown : s.vm.findClass RL = some m.cls := hown
  have hlt : l.stackTraces = false := by show _ = _; unfold Launch.stackTraces; rw [hflags]; decide +kernel
  obtain ⟨D, hKc⟩ := st_D hts
  obtain ⟨cy, hKt⟩ := st_cy hts1
  have hK : va_K D g_cl (c_ty cy) s := ⟨hKc, hKt⟩
  have hCs : c_sc D cy s := ⟨hK, st_cn hts1⟩
  obtain ⟨g, hev⟩ := st_ev (D := D) (ad := fun _ _ => 0) (cy := cy) hts1 hgv
  have hA : ∀ q : Nat, s.heap.size ≤ q → (fun q => s.heap.size ≤ q) q := fun _ h => h
  have hS : va_S (fun q => s.heap.size ≤ q) s.heap s.heap [] := va_S.rf
  have hP : va_P D g_cl [] s.heap := fun k q h => by simp at h
  have hD : va_D (fun q => s.heap.size ≤ q) [] := ⟨fun i j p q h => by simp at h, fun k q h => by simp at h⟩
  have hd := Drawn.sameBut.refl s.drawn lw_cs
  have hl := lv_entry ([.ref b]) (n := 7) (Nat.le_of_ble_eq_true rfl)
  rw [lg_entry_eq]
  generalize (lg_sl ([.ref b]) ++ List.replicate (7 - (lg_sl ([.ref b])).length) Slot.unset).toArray = ls at hl ⊢
  have hl : lv_has ls 7 [(0, .ref b)] := hl
  refine va_new (ci := 11) (fs := [.null, .null, .null, .null, .null, .null, .null, .null]) (C := RX11) (T := TX11) (N := 8) hx hb hts inlX11 tyX11 tyX11_ok hown (hts _ q1_0) (hts _ q1_1) (hts _ q1_2) hK hP hD hS hA rfl (fun j hj => by rcases (show j = 0 ∨ j = 1 ∨ j = 2 ∨ j = 3 ∨ j = 4 ∨ j = 5 ∨ j = 6 ∨ j = 7 by omega) with rfl | rfl | rfl | rfl | rfl | rfl | rfl | rfl <;> rfl) (Nat.le_of_ble_eq_true rfl) (Nat.le_of_ble_eq_true rfl) dL_law_0 (fun qx H hP hD hS => ?_)
  have hP : va_P D g_cl [(qx, .inr (11, [.null, .null, .null, .null, .null, .null, .null, .null]))] H := hP
  have hD : va_D (fun q => s.heap.size ≤ q) [(qx, .inr (11, [.null, .null, .null, .null, .null, .null, .null, .null]))] := hD
  refine lv_dup hx hb dL_law_3 rfl ?_
  refine va_callv (va_runI (As := []) (rest := [.ref qx]) ⟨hx, hb, hml, hown, hts⟩ (cc_X11 l D cy s.heap.size _ 0 qx rfl) (cwI 0 hts (wz_N q1_9) rfl rfl rfl (hts _ q1_2) (hts _ q1_7) (hts _ q1_8) rfl hdc_X11 ⟨Nat.le_of_ble_eq_true rfl, Nat.le_of_ble_eq_true rfl⟩) ⟨c_blind, fun U hU hW => ⟨rfl, hCs.moved hW, by rw [hU]; exact hP, hD, by rw [hU]; exact hS.1⟩⟩ rfl rfl hl.1 rfl (lv_room (Nat.le_of_ble_eq_true rfl)) dL_law_4 ⟨Nat.le_of_ble_eq_true rfl, Nat.le_of_ble_eq_true rfl⟩) hS (fun _ _ h => h) (fun _ h => h) (fun u t H locs ht hvm _ hB hz1 hk1 hS => ?_)
  obtain ⟨hP, hD⟩ := hB
  rw [ht] at hP
  have hP : va_P D g_cl ([(qx, .inr (11, [.ref (u.1 0), .ref (u.1 1), .ref (u.1 2), .ref (u.1 3), .ref (u.1 4), .ref (u.1 5), .ref (u.1 6), .ref (u.1 7)]))] ++ nw_X11 cy u) H := hP
  have hD : va_D (fun q => s.heap.size ≤ q) ([(qx, .inr (11, [.ref (u.1 0), .ref (u.1 1), .ref (u.1 2), .ref (u.1 3), .ref (u.1 4), .ref (u.1 5), .ref (u.1 6), .ref (u.1 7)]))] ++ nw_X11 cy u) := hD
  generalize hW1 : ([(qx, .inr (11, [.ref (u.1 0), .ref (u.1 1), .ref (u.1 2), .ref (u.1 3), .ref (u.1 4), .ref (u.1 5), .ref (u.1 6), .ref (u.1 7)]))] ++ nw_X11 cy u : va_W) = W1 at hP hD
  refine lv_astore_n (lv' := [(1, .ref qx), (0, .ref b)]) hx hb dL_law_7 rfl hl (by decide) rfl (fun ls hl => ?_)
  refine va_new (ci := 12) (fs := [.null, .null, .null, .null, .null, .null, .null, .null, .null, .null, .int 0, .null, .int 0, .null, .null, .int 0, .null, .null, .null, .null, .int 0, .null]) (C := RX12) (T := TX12) (N := 22) hx hb hts inlX12 tyX12 tyX12_ok hown (hts _ q1_3) (hts _ q1_4) (hts _ q1_5) hK hP hD hS hA rfl (fun j hj => by rcases (show j = 0 ∨ j = 1 ∨ j = 2 ∨ j = 3 ∨ j = 4 ∨ j = 5 ∨ j = 6 ∨ j = 7 ∨ j = 8 ∨ j = 9 ∨ j = 10 ∨ j = 11 ∨ j = 12 ∨ j = 13 ∨ j = 14 ∨ j = 15 ∨ j = 16 ∨ j = 17 ∨ j = 18 ∨ j = 19 ∨ j = 20 ∨ j = 21 by omega) with rfl | rfl | rfl | rfl | rfl | rfl | rfl | rfl | rfl | rfl | rfl | rfl | rfl | rfl | rfl | rfl | rfl | rfl | rfl | rfl | rfl | rfl <;> rfl) (Nat.le_of_ble_eq_true rfl) (Nat.le_of_ble_eq_true rfl) dL_law_8 (fun qm H hP hD hS => ?_)
  refine lv_dup hx hb dL_law_11 rfl ?_
  refine va_callv (va_runI (As := []) (rest := [.ref qm]) ⟨hx, hb, hml, hown, hts⟩ (cc_X12 l D cy s.heap.size _ W1.length qm (List.getElem?_concat_length)) (cwI 0 hts (wz_N q6_15) rfl rfl rfl (hts _ q1_5) (hts _ q6_13) (hts _ q6_14) rfl hdc_X12 ⟨Nat.le_of_ble_eq_true rfl, Nat.le_of_ble_eq_true rfl⟩) ⟨c_blind, fun U hU hW => ⟨rfl, hCs.moved hW, by rw [hU]; exact hP, hD, by rw [hU]; exact hS.1⟩⟩ rfl rfl hl.1 rfl (lv_room (Nat.le_of_ble_eq_true rfl)) dL_law_12 ⟨Nat.le_of_ble_eq_true rfl, Nat.le_of_ble_eq_true rfl⟩) hS (fun _ _ h => h) (fun _ h => h) (fun v t H locs ht hvm _ hB hz1 hk1 hS => ?_)
  obtain ⟨hP, hD⟩ := hB
  rw [ht] at hP
  rw [c_setEnd] at hP hD
  refine lv_astore_n (lv' := [(2, .ref qm), (1, .ref qx), (0, .ref b)]) hx hb dL_law_15 rfl hl (by decide) rfl (fun ls hl => ?_)
  refine lv_iconst (v := 1) hx hb dL_law_16 (by decide) ?_
  refine c_newl (N := 1) hx hb hts hK hP hD hS hA (by decide) (by decide) (by decide) (Nat.le_of_ble_eq_true rfl) (Nat.le_of_ble_eq_true rfl) dL_law_17 (fun qo H hP hD hS => ?_)
  refine lv_astore_n (lv' := [(3, .ref qo), (2, .ref qm), (1, .ref qx), (0, .ref b)]) hx hb dL_law_19 rfl hl (by decide) rfl (fun ls hl => ?_)
  refine lv_iconst (v := 0) hx hb dL_law_20 (by decide) ?_
  refine lv_istore (lv' := [(4, .int 0), (3, .ref qo), (2, .ref qm), (1, .ref qx), (0, .ref b)]) hx hb dL_law_21 hl (by decide) rfl (fun ls hl => ?_)
  rw [← hW1] at hP hD
  obtain ⟨hP, hDa⟩ := c_final (D := D) (cy := cy) (z0 := s.heap.size) (g := g) hP hD
  have hG : g_sc (GG D cy s.heap.size g qx qm qo u v) s := ⟨hK, st_nw hts1, hev _, hDa, Nat.le_refl _⟩
  have C1 : lw_Cx p l s m meth c b L xs (GG D cy s.heap.size g qx qm qo u v) := ⟨hx, hb, hr, hml, hown, hts, hX, hbl, hlocks, hG, hlt, rfl⟩
  exact lp_L_law_23 C1 1000 _ _ (Nat.le_of_ble_eq_true rfl) (Nat.le_of_ble_eq_true rfl) 0 X00 M00 T00 (pure_main xs L hL) hd hP hS (lv_sub hl [4, 3, 2, 1, 0] rfl)
