abbrev rm_X12_cell : Room := { frames := 2, cells := 0, slots := 0, locals := 42 }
def wb_X12_cell_26 (x1 : Int32) (x2 : Int32) (xs0 : Int32) (xs2 : Int32) (xs3 : Int32) (M : SM) : Option (Int32 × SM) :=
  if g_in xs0 6 then
  g_let (fn_X12_within xs3 xs2 ((M 44 0 (xs0.toNatClampNeg)) - 1)) fun r_13 =>
  if r_13 = 0 then
  (g_let (fn_X12_throwing 0 M) fun (r_16, M_17) =>
    if r_16 = 0 then
    (if g_in ((48 + (16 * x1)) + x2) 693 then
      some ((M_17 40 0 (((48 + (16 * x1)) + x2).toNatClampNeg)), M_17)
      else none)
    else
    (some (0, M_17)))
  else
  (g_let (fn_X12_throwing 1 M) fun (r_21, M_22) =>
    if r_21 = 0 then
    (if g_in ((48 + (16 * x1)) + x2) 693 then
      some ((M_22 40 0 (((48 + (16 * x1)) + x2).toNatClampNeg)), M_22)
      else none)
    else
    (some (0, M_22)))
  else none
set_option maxRecDepth 100000 in
set_option maxHeartbeats 4000000 in
theorem bk_X12_cell_26 {p : Program} {l : Launch} {e : Env} {s : State} {m : MethodId} {args : Array Value} {below : List Frame} {meth : Method} {c : Code} {G : GP} {X : SM} {τ : SL} (C0 : g_mc p s m args meth c RX12 cX12_cell (some .int) 3 G) {r0 : Int32} {M0 : SM} (x1 : Int32) (x2 : Int32) (xs0 : Int32) (xs2 : Int32) (xs3 : Int32) (M : SM) (hf : wb_X12_cell_26 x1 x2 xs0 xs2 xs3 M = some (r0, M0)) {H : Heap} {locs : List Loc} (hP : va_P G.1 g_cl (wd G (cb X M) τ) H) (hS : va_S (g_A G) s.heap H locs) {ls : Array Slot} (hl : lv_has ls 3 [(0, .ref (G.2.1 39 0)), (1, .int x1), (2, .int x2)]) : W p l e rm_X12_cell s m args below meth c H locs 0 0 (MQ below (va_Qi (fun r u => r = r0 ∧ u = (X, M0, τ)) (g_pw G) (g_A G)) args s 0 0 (g_A G)) (F0 m 26 ls [.int xs0, .ref (G.2.1 44 0), .int xs2, .int xs3, .ref (G.2.1 39 0)]) := by
  obtain ⟨hx, hb, hr, hml, hown, hts, hlocks, hC⟩ := id C0
  unfold wb_X12_cell_26 at hf
  obtain ⟨hg_12, hf⟩ := g_gd hf
  refine xildM (k := 44) (n := 6) hx hb hC hP (fun _ _ => rfl) rfl Nat.zero_lt_one hg_12 dX12_cell_26 ?_
  refine lv_iconst (v := 1) hx hb dX12_cell_27 (by decide) ?_
  refine lv_isub hx hb dX12_cell_28 ?_
  obtain ⟨r_13, hc_14, hf⟩ := g_letE hf
  refine x_calli (v := (X, M, τ)) (va_runS (As := [.int xs3, .int xs2, .int ((M 44 0 (xs0.toNatClampNeg)) - 1)]) (rest := [.ref (G.2.1 39 0)]) ⟨hx, hb, hml, hown, hts⟩ (ct_X12_within l G X M τ xs3 xs2 ((M 44 0 (xs0.toNatClampNeg)) - 1) hc_14) (cwS 3 hts gd_X12_76 rfl rfl rfl hd_X12_within ⟨Nat.le_of_ble_eq_true rfl, Nat.le_of_ble_eq_true rfl⟩) (x_pre (u := (X, M, τ)) hC hS hP) rfl rfl hl.1 rfl (lv_room (Nat.le_of_ble_eq_true rfl)) dX12_cell_29 ⟨Nat.zero_le _, Nat.zero_le _⟩) hS (fun H locs hP hS => ?_)
  refine lv_if_eq (tgt := 39) hx hb dX12_cell_32 (by decide) (fun hc_15 => ?_) (fun hc_15 => ?_)
  · have hf := g_pos hf hc_15
    refine lv_iconst (v := 0) hx hb dX12_cell_39 (by decide) ?_
    obtain ⟨⟨r_16, M_17⟩, hc_18, hf⟩ := g_letE hf
    refine x_calli (v := (X, M_17, τ)) (va_runV (As := [.int 0]) (rest := []) ⟨hx, hb, hml, hown, hts⟩ (ct_X12_throwing l G X M τ 0 hc_18) (cwV 1 hts gd_X12_175 rfl rfl rfl hd_X12_throwing ⟨Nat.le_of_ble_eq_true rfl, Nat.le_of_ble_eq_true rfl⟩) (x_preV (u := (X, M, τ)) (k := 39) (ci := 12) hC hS hP Nat.zero_lt_one rfl rfl) rfl rfl hl.1 rfl (lv_room (Nat.le_of_ble_eq_true rfl)) dX12_cell_40 ⟨Nat.zero_le _, Nat.zero_le _⟩) hS (fun H locs hP hS => ?_)
    refine lv_if_eq (tgt := 50) hx hb dX12_cell_43 (by decide) (fun hc_19 => ?_) (fun hc_19 => ?_)
    · have hf := g_pos hf hc_19
      refine lv_aload_n hx hb dX12_cell_50 rfl (lv_at hl 0 rfl) ?_
      refine gt_39_0 hx hb hts hown hC hP Nat.zero_lt_one q6_17 dX12_cell_51 ?_
      refine lv_bipush (v := 48) hx hb dX12_cell_54 (by decide) ?_
      refine lv_bipush (v := 16) hx hb dX12_cell_56 (by decide) ?_
      refine lv_iload_n hx hb dX12_cell_58 rfl (lv_at hl 1 rfl) ?_
      refine lv_imul hx hb dX12_cell_59 ?_
      refine lv_iadd hx hb dX12_cell_60 ?_
      refine lv_iload_n hx hb dX12_cell_61 rfl (lv_at hl 2 rfl) ?_
      refine lv_iadd hx hb dX12_cell_62 ?_
      obtain ⟨hg_20, hf⟩ := g_gd hf
      refine xildM (k := 40) (n := 693) hx hb hC hP (fun _ _ => rfl) rfl Nat.zero_lt_one hg_20 dX12_cell_63 ?_
      cases hf
      exact x_iret hx hb hlocks hC hP hS hr dX12_cell_64
    · have hf := g_neg hf hc_19
      refine lv_iconst (v := 0) hx hb dX12_cell_46 (by decide) ?_
      refine lv_goto (tgt := 64) hx hb dX12_cell_47 (by decide) ?_
      cases hf
      exact x_iret hx hb hlocks hC hP hS hr dX12_cell_64
  · have hf := g_neg hf hc_15
    refine lv_iconst (v := 1) hx hb dX12_cell_35 (by decide) ?_
    refine lv_goto (tgt := 40) hx hb dX12_cell_36 (by decide) ?_
    obtain ⟨⟨r_21, M_22⟩, hc_23, hf⟩ := g_letE hf
    refine x_calli (v := (X, M_22, τ)) (va_runV (As := [.int 1]) (rest := []) ⟨hx, hb, hml, hown, hts⟩ (ct_X12_throwing l G X M τ 1 hc_23) (cwV 1 hts gd_X12_175 rfl rfl rfl hd_X12_throwing ⟨Nat.le_of_ble_eq_true rfl, Nat.le_of_ble_eq_true rfl⟩) (x_preV (u := (X, M, τ)) (k := 39) (ci := 12) hC hS hP Nat.zero_lt_one rfl rfl) rfl rfl hl.1 rfl (lv_room (Nat.le_of_ble_eq_true rfl)) dX12_cell_40 ⟨Nat.zero_le _, Nat.zero_le _⟩) hS (fun H locs hP hS => ?_)
    refine lv_if_eq (tgt := 50) hx hb dX12_cell_43 (by decide) (fun hc_24 => ?_) (fun hc_24 => ?_)
    · have hf := g_pos hf hc_24
      refine lv_aload_n hx hb dX12_cell_50 rfl (lv_at hl 0 rfl) ?_
      refine gt_39_0 hx hb hts hown hC hP Nat.zero_lt_one q6_17 dX12_cell_51 ?_
      refine lv_bipush (v := 48) hx hb dX12_cell_54 (by decide) ?_
      refine lv_bipush (v := 16) hx hb dX12_cell_56 (by decide) ?_
      refine lv_iload_n hx hb dX12_cell_58 rfl (lv_at hl 1 rfl) ?_
      refine lv_imul hx hb dX12_cell_59 ?_
      refine lv_iadd hx hb dX12_cell_60 ?_
      refine lv_iload_n hx hb dX12_cell_61 rfl (lv_at hl 2 rfl) ?_
      refine lv_iadd hx hb dX12_cell_62 ?_
      obtain ⟨hg_25, hf⟩ := g_gd hf
      refine xildM (k := 40) (n := 693) hx hb hC hP (fun _ _ => rfl) rfl Nat.zero_lt_one hg_25 dX12_cell_63 ?_
      cases hf
      exact x_iret hx hb hlocks hC hP hS hr dX12_cell_64
    · have hf := g_neg hf hc_24
      refine lv_iconst (v := 0) hx hb dX12_cell_46 (by decide) ?_
      refine lv_goto (tgt := 64) hx hb dX12_cell_47 (by decide) ?_
      cases hf
      exact x_iret hx hb hlocks hC hP hS hr dX12_cell_64
def fn_X12_cell (x1 : Int32) (x2 : Int32) (M : SM) : Option (Int32 × SM) :=
  (fn_X12_isThread x1).bind fun r_1 =>
  if r_1 = 0 then
  (g_let (fn_X12_throwing 0 M) fun (r_4, M_5) =>
    if r_4 = 0 then
    (if g_in ((48 + (16 * x1)) + x2) 693 then
      some ((M_5 40 0 (((48 + (16 * x1)) + x2).toNatClampNeg)), M_5)
      else none)
    else
    (some (0, M_5)))
  else
  ((fn_X12_isThread x1).bind fun r_9 =>
    if r_9 = 0 then
    (wb_X12_cell_26 x1 x2 0 0 x2 M)
    else
    (wb_X12_cell_26 x1 x2 x1 0 x2 M))
set_option maxRecDepth 100000 in
set_option maxHeartbeats 4000000 in
theorem wk_X12_cell {p : Program} {l : Launch} {e : Env} {s : State} {m : MethodId} {args : Array Value} {below : List Frame} {meth : Method} {c : Code} {G : GP} {X : SM} {τ : SL} (C0 : g_mc p s m args meth c RX12 cX12_cell (some .int) 3 G) {r0 : Int32} {M0 : SM} (x1 : Int32) (x2 : Int32) (M : SM) (hf : fn_X12_cell x1 x2 M = some (r0, M0)) {H : Heap} {locs : List Loc} (hP : va_P G.1 g_cl (wd G (cb X M) τ) H) (hS : va_S (g_A G) s.heap H locs) {ls : Array Slot} (hl : lv_has ls 3 [(0, .ref (G.2.1 39 0)), (1, .int x1), (2, .int x2)]) : W p l e rm_X12_cell s m args below meth c H locs 0 0 (MQ below (va_Qi (fun r u => r = r0 ∧ u = (X, M0, τ)) (g_pw G) (g_A G)) args s 0 0 (g_A G)) (F0 m 0 ls []) := by
  obtain ⟨hx, hb, hr, hml, hown, hts, hlocks, hC⟩ := id C0
  unfold fn_X12_cell at hf
  refine lv_aload_n hx hb dX12_cell_0 rfl (lv_at hl 0 rfl) ?_
  refine lv_iload_n hx hb dX12_cell_1 rfl (lv_at hl 1 rfl) ?_
  obtain ⟨r_1, hc_2, hf⟩ := g_bindE hf
  refine x_calli (v := (X, M, τ)) (va_runS (As := [.int x1]) (rest := [.ref (G.2.1 39 0)]) ⟨hx, hb, hml, hown, hts⟩ (ct_X12_isThread l G X M τ x1 hc_2) (cwS 1 hts gd_X12_80 rfl rfl rfl hd_X12_isThread ⟨Nat.le_of_ble_eq_true rfl, Nat.le_of_ble_eq_true rfl⟩) (x_pre (u := (X, M, τ)) hC hS hP) rfl rfl hl.1 rfl (lv_room (Nat.le_of_ble_eq_true rfl)) dX12_cell_2 ⟨Nat.zero_le _, Nat.zero_le _⟩) hS (fun H locs hP hS => ?_)
  refine lv_if_eq (tgt := 39) hx hb dX12_cell_5 (by decide) (fun hc_3 => ?_) (fun hc_3 => ?_)
  · have hf := g_pos hf hc_3
    refine lv_iconst (v := 0) hx hb dX12_cell_39 (by decide) ?_
    obtain ⟨⟨r_4, M_5⟩, hc_6, hf⟩ := g_letE hf
    refine x_calli (v := (X, M_5, τ)) (va_runV (As := [.int 0]) (rest := []) ⟨hx, hb, hml, hown, hts⟩ (ct_X12_throwing l G X M τ 0 hc_6) (cwV 1 hts gd_X12_175 rfl rfl rfl hd_X12_throwing ⟨Nat.le_of_ble_eq_true rfl, Nat.le_of_ble_eq_true rfl⟩) (x_preV (u := (X, M, τ)) (k := 39) (ci := 12) hC hS hP Nat.zero_lt_one rfl rfl) rfl rfl hl.1 rfl (lv_room (Nat.le_of_ble_eq_true rfl)) dX12_cell_40 ⟨Nat.zero_le _, Nat.zero_le _⟩) hS (fun H locs hP hS => ?_)
    refine lv_if_eq (tgt := 50) hx hb dX12_cell_43 (by decide) (fun hc_7 => ?_) (fun hc_7 => ?_)
    · have hf := g_pos hf hc_7
      refine lv_aload_n hx hb dX12_cell_50 rfl (lv_at hl 0 rfl) ?_
      refine gt_39_0 hx hb hts hown hC hP Nat.zero_lt_one q6_17 dX12_cell_51 ?_
      refine lv_bipush (v := 48) hx hb dX12_cell_54 (by decide) ?_
      refine lv_bipush (v := 16) hx hb dX12_cell_56 (by decide) ?_
      refine lv_iload_n hx hb dX12_cell_58 rfl (lv_at hl 1 rfl) ?_
      refine lv_imul hx hb dX12_cell_59 ?_
      refine lv_iadd hx hb dX12_cell_60 ?_
      refine lv_iload_n hx hb dX12_cell_61 rfl (lv_at hl 2 rfl) ?_
      refine lv_iadd hx hb dX12_cell_62 ?_
      obtain ⟨hg_8, hf⟩ := g_gd hf
      refine xildM (k := 40) (n := 693) hx hb hC hP (fun _ _ => rfl) rfl Nat.zero_lt_one hg_8 dX12_cell_63 ?_
      cases hf
      exact x_iret hx hb hlocks hC hP hS hr dX12_cell_64
    · have hf := g_neg hf hc_7
      refine lv_iconst (v := 0) hx hb dX12_cell_46 (by decide) ?_
      refine lv_goto (tgt := 64) hx hb dX12_cell_47 (by decide) ?_
      cases hf
      exact x_iret hx hb hlocks hC hP hS hr dX12_cell_64
  · have hf := g_neg hf hc_3
    refine lv_iload_n hx hb dX12_cell_8 rfl (lv_at hl 2 rfl) ?_
    refine lv_iconst (v := 0) hx hb dX12_cell_9 (by decide) ?_
    refine lv_aload_n hx hb dX12_cell_10 rfl (lv_at hl 0 rfl) ?_
    refine gt_39_4 hx hb hts hown hC hP Nat.zero_lt_one q6_21 dX12_cell_11 ?_
    refine lv_iload_n hx hb dX12_cell_14 rfl (lv_at hl 1 rfl) ?_
    obtain ⟨r_9, hc_10, hf⟩ := g_bindE hf
    refine x_calli (v := (X, M, τ)) (va_runS (As := [.int x1]) (rest := [.ref (G.2.1 44 0), .int 0, .int x2, .ref (G.2.1 39 0)]) ⟨hx, hb, hml, hown, hts⟩ (ct_X12_isThread l G X M τ x1 hc_10) (cwS 1 hts gd_X12_80 rfl rfl rfl hd_X12_isThread ⟨Nat.le_of_ble_eq_true rfl, Nat.le_of_ble_eq_true rfl⟩) (x_pre (u := (X, M, τ)) hC hS hP) rfl rfl hl.1 rfl (lv_room (Nat.le_of_ble_eq_true rfl)) dX12_cell_15 ⟨Nat.zero_le _, Nat.zero_le _⟩) hS (fun H locs hP hS => ?_)
    refine lv_if_eq (tgt := 25) hx hb dX12_cell_18 (by decide) (fun hc_11 => ?_) (fun hc_11 => ?_)
    · have hf := g_pos hf hc_11
      refine lv_iconst (v := 0) hx hb dX12_cell_25 (by decide) ?_
      exact bk_X12_cell_26 C0 x1 x2 0 0 x2 M hf hP hS (lv_sub hl [0, 1, 2] rfl)
    · have hf := g_neg hf hc_11
      refine lv_iload_n hx hb dX12_cell_21 rfl (lv_at hl 1 rfl) ?_
      refine lv_goto (tgt := 26) hx hb dX12_cell_22 (by decide) ?_
      exact bk_X12_cell_26 C0 x1 x2 x1 0 x2 M hf hP hS (lv_sub hl [0, 1, 2] rfl)
set_option maxRecDepth 100000 in
set_option maxHeartbeats 4000000 in
theorem ct_X12_cell (l : Launch) (G : GP) (X M : SM) (τ : SL) (x1 : Int32) (x2 : Int32) {r0 : Int32} {M0 : SM} (hf : fn_X12_cell x1 x2 M = some (r0, M0)) : Met l yX12_cell (wz yX12_cell cX12_cell 3 (some .int)) rm_X12_cell (va_Pc [.ref (G.2.1 39 0), .int x1, .int x2] (g_pw G (X, M, τ))) (va_Qi (fun r u => r = r0 ∧ u = (X, M0, τ)) (g_pw G) (g_A G)) 0 0 (g_A G) := by
  refine Met.ofW (cc := cX12_cell) (maxL := 3) (ret := (some .int)) (by decide +kernel) rfl ?_
  intro p e s m args below meth c s₁ B hml hv
  obtain ⟨rfl, hC, hP⟩ := hv
  have C0 : g_mc p s m _ meth c RX12 cX12_cell (some .int) 3 G := ⟨B.exec, B.bytes, B.returns, hml, findClass_of_methodNamed B.named, fun w h => atoms_spec (ws := wz yX12_cell cX12_cell 3 (some .int)) B.pre w (List.mem_cons_of_mem _ h), B.notSynchronized, hC⟩
  have hl := lv_entry ([.ref (G.2.1 39 0), .int x1, .int x2]) (n := 3) (Nat.le_of_ble_eq_true rfl)
  rw [lg_entry_eq]
  generalize (lg_sl ([.ref (G.2.1 39 0), .int x1, .int x2]) ++ List.replicate (3 - (lg_sl ([.ref (G.2.1 39 0), .int x1, .int x2])).length) Slot.unset).toArray = ls at hl ⊢
  exact wk_X12_cell C0  x1 x2 M hf hP va_S.rf hl
abbrev rm_X12_channel : Room := { frames := 1, cells := 0, slots := 0, locals := 22 }
def wb_X12_channel_57 (x2 : Int32) (x3 : Int32) (xs0 : Int32) (M : SM) : Option (Int32 × SM) :=
  if x2 = 2 then
  (some (xs0, M))
  else
  (if xs0 < 0 then
    (some (0, M))
    else
    (if g_in (438 + xs0) 693 then
      if x2 = 0 then
      (if (M 40 0 ((438 + xs0).toNatClampNeg)) = 2 then
        (some (x3, M))
        else
        (some (0, M)))
      else
      (if (M 40 0 ((438 + xs0).toNatClampNeg)) = 3 then
        (some (x3, M))
        else
        (some (0, M)))
      else none))
set_option maxRecDepth 100000 in
set_option maxHeartbeats 4000000 in
theorem bk_X12_channel_57 {p : Program} {l : Launch} {e : Env} {s : State} {m : MethodId} {args : Array Value} {below : List Frame} {meth : Method} {c : Code} {G : GP} {X : SM} {τ : SL} (C0 : g_mc p s m args meth c RX12 cX12_channel (some .int) 5 G) {r0 : Int32} {M0 : SM} (x2 : Int32) (x3 : Int32) (xs0 : Int32) (M : SM) (hf : wb_X12_channel_57 x2 x3 xs0 M = some (r0, M0)) {H : Heap} {locs : List Loc} (hP : va_P G.1 g_cl (wd G (cb X M) τ) H) (hS : va_S (g_A G) s.heap H locs) {ls : Array Slot} (hl : lv_has ls 5 [(0, .ref (G.2.1 39 0)), (2, .int x2), (3, .int x3)]) : W p l e rm_X12_channel s m args below meth c H locs 0 0 (MQ below (va_Qi (fun r u => r = r0 ∧ u = (X, M0, τ)) (g_pw G) (g_A G)) args s 0 0 (g_A G)) (F0 m 57 ls [.int xs0]) := by
  obtain ⟨hx, hb, hr, hml, hown, hts, hlocks, hC⟩ := id C0
  unfold wb_X12_channel_57 at hf
  refine lv_istore (lv' := [(4, .int xs0), (0, .ref (G.2.1 39 0)), (2, .int x2), (3, .int x3)]) hx hb dX12_channel_57 hl (by decide) rfl (fun ls hl => ?_)
  refine lv_iload_n hx hb dX12_channel_59 rfl (lv_at hl 2 rfl) ?_
  refine lv_iconst (v := 2) hx hb dX12_channel_60 (by decide) ?_
  refine lv_icmp_ne (tgt := 67) hx hb dX12_channel_61 (by decide) (fun hc_12 => ?_) (fun hc_12 => ?_)
  · have hf := g_neg hf hc_12
    refine lv_iload hx hb dX12_channel_67 (lv_at hl 0 rfl) ?_
    refine lv_if_lt (tgt := 99) hx hb dX12_channel_69 (by decide) (fun hc_13 => ?_) (fun hc_13 => ?_)
    · have hf := g_pos hf hc_13
      refine lv_iconst (v := 0) hx hb dX12_channel_99 (by decide) ?_
      cases hf
      exact x_iret hx hb hlocks hC hP hS hr dX12_channel_100
    · have hf := g_neg hf hc_13
      refine lv_aload_n hx hb dX12_channel_72 rfl (lv_at hl 1 rfl) ?_
      refine gt_39_0 hx hb hts hown hC hP Nat.zero_lt_one q6_17 dX12_channel_73 ?_
      refine lv_sipush (v := 438) hx hb dX12_channel_76 (by decide) ?_
      refine lv_iload hx hb dX12_channel_79 (lv_at hl 0 rfl) ?_
      refine lv_iadd hx hb dX12_channel_81 ?_
      obtain ⟨hg_14, hf⟩ := g_gd hf
      refine xildM (k := 40) (n := 693) hx hb hC hP (fun _ _ => rfl) rfl Nat.zero_lt_one hg_14 dX12_channel_82 ?_
      refine lv_iload_n hx hb dX12_channel_83 rfl (lv_at hl 2 rfl) ?_
      refine lv_if_ne (tgt := 91) hx hb dX12_channel_84 (by decide) (fun hc_15 => ?_) (fun hc_15 => ?_)
      · have hf := g_neg hf hc_15
        refine lv_iconst (v := 3) hx hb dX12_channel_91 (by decide) ?_
        refine lv_icmp_ne (tgt := 99) hx hb dX12_channel_92 (by decide) (fun hc_16 => ?_) (fun hc_16 => ?_)
        · have hf := g_neg hf hc_16
          refine lv_iconst (v := 0) hx hb dX12_channel_99 (by decide) ?_
          cases hf
          exact x_iret hx hb hlocks hC hP hS hr dX12_channel_100
        · have hf := g_pos hf hc_16
          refine lv_iload_n hx hb dX12_channel_95 rfl (lv_at hl 3 rfl) ?_
          refine lv_goto (tgt := 100) hx hb dX12_channel_96 (by decide) ?_
          cases hf
          exact x_iret hx hb hlocks hC hP hS hr dX12_channel_100
      · have hf := g_pos hf hc_15
        refine lv_iconst (v := 2) hx hb dX12_channel_87 (by decide) ?_
        refine lv_goto (tgt := 92) hx hb dX12_channel_88 (by decide) ?_
        refine lv_icmp_ne (tgt := 99) hx hb dX12_channel_92 (by decide) (fun hc_17 => ?_) (fun hc_17 => ?_)
        · have hf := g_neg hf hc_17
          refine lv_iconst (v := 0) hx hb dX12_channel_99 (by decide) ?_
          cases hf
          exact x_iret hx hb hlocks hC hP hS hr dX12_channel_100
        · have hf := g_pos hf hc_17
          refine lv_iload_n hx hb dX12_channel_95 rfl (lv_at hl 3 rfl) ?_
          refine lv_goto (tgt := 100) hx hb dX12_channel_96 (by decide) ?_
          cases hf
          exact x_iret hx hb hlocks hC hP hS hr dX12_channel_100
  · have hf := g_pos hf hc_12
    refine lv_iload hx hb dX12_channel_64 (lv_at hl 0 rfl) ?_
    cases hf
    exact x_iret hx hb hlocks hC hP hS hr dX12_channel_66
def fn_X12_channel (x1 : Int32) (x2 : Int32) (M : SM) : Option (Int32 × SM) :=
  g_let (u1 M 39 0 15 0) fun M_1 =>
  g_let (fn_X12_within x1 0 3) fun r_2 =>
  if r_2 = 0 then
  (some ((-1), M_1))
  else
  (g_let (fn_X12_within x2 0 2) fun r_5 =>
    if r_5 = 0 then
    (some ((-1), M_1))
    else
    (if g_in (518 + x1) 693 then
      g_let ((M_1 40 0 ((518 + x1).toNatClampNeg))) fun x3_9 =>
      if x3_9 ≤ 0 then
      (wb_X12_channel_57 x2 x3_9 (-1) M_1)
      else
      (if g_in (494 + (6 * x1)) 693 then
        wb_X12_channel_57 x2 x3_9 (M_1 40 0 ((494 + (6 * x1)).toNatClampNeg)) M_1
        else none)
      else none))
set_option maxRecDepth 100000 in
set_option maxHeartbeats 4000000 in
theorem wk_X12_channel {p : Program} {l : Launch} {e : Env} {s : State} {m : MethodId} {args : Array Value} {below : List Frame} {meth : Method} {c : Code} {G : GP} {X : SM} {τ : SL} (C0 : g_mc p s m args meth c RX12 cX12_channel (some .int) 5 G) {r0 : Int32} {M0 : SM} (x1 : Int32) (x2 : Int32) (M : SM) (hf : fn_X12_channel x1 x2 M = some (r0, M0)) {H : Heap} {locs : List Loc} (hP : va_P G.1 g_cl (wd G (cb X M) τ) H) (hS : va_S (g_A G) s.heap H locs) {ls : Array Slot} (hl : lv_has ls 5 [(0, .ref (G.2.1 39 0)), (1, .int x1), (2, .int x2)]) : W p l e rm_X12_channel s m args below meth c H locs 0 0 (MQ below (va_Qi (fun r u => r = r0 ∧ u = (X, M0, τ)) (g_pw G) (g_A G)) args s 0 0 (g_A G)) (F0 m 0 ls []) := by
  obtain ⟨hx, hb, hr, hml, hown, hts, hlocks, hC⟩ := id C0
  unfold fn_X12_channel at hf
  refine lv_aload_n hx hb dX12_channel_0 rfl (lv_at hl 0 rfl) ?_
  refine lv_iconst (v := 0) hx hb dX12_channel_1 (by decide) ?_
  obtain ⟨M_1, eM_1, hf⟩ := g_letE hf
  refine pt_39_15 hx hb hts hown hC hP hS Nat.zero_lt_one q8_18 dX12_channel_2 (fun H locs hP hS => ?_)
  rw [eM_1] at hP
  refine lv_iload_n hx hb dX12_channel_5 rfl (lv_at hl 1 rfl) ?_
  refine lv_iconst (v := 0) hx hb dX12_channel_6 (by decide) ?_
  refine lv_iconst (v := 3) hx hb dX12_channel_7 (by decide) ?_
  obtain ⟨r_2, hc_3, hf⟩ := g_letE hf
  refine x_calli (v := (X, M_1, τ)) (va_runS (As := [.int x1, .int 0, .int 3]) (rest := []) ⟨hx, hb, hml, hown, hts⟩ (ct_X12_within l G X M_1 τ x1 0 3 hc_3) (cwS 3 hts gd_X12_76 rfl rfl rfl hd_X12_within ⟨Nat.le_of_ble_eq_true rfl, Nat.le_of_ble_eq_true rfl⟩) (x_pre (u := (X, M_1, τ)) hC hS hP) rfl rfl hl.1 rfl (lv_room (Nat.le_of_ble_eq_true rfl)) dX12_channel_8 ⟨Nat.zero_le _, Nat.zero_le _⟩) hS (fun H locs hP hS => ?_)
  refine lv_if_eq (tgt := 23) hx hb dX12_channel_11 (by decide) (fun hc_4 => ?_) (fun hc_4 => ?_)
  · have hf := g_pos hf hc_4
    refine lv_iconst (v := (-1)) hx hb dX12_channel_23 (by decide) ?_
    cases hf
    exact x_iret hx hb hlocks hC hP hS hr dX12_channel_24
  · have hf := g_neg hf hc_4
    refine lv_iload_n hx hb dX12_channel_14 rfl (lv_at hl 2 rfl) ?_
    refine lv_iconst (v := 0) hx hb dX12_channel_15 (by decide) ?_
    refine lv_iconst (v := 2) hx hb dX12_channel_16 (by decide) ?_
    obtain ⟨r_5, hc_6, hf⟩ := g_letE hf
    refine x_calli (v := (X, M_1, τ)) (va_runS (As := [.int x2, .int 0, .int 2]) (rest := []) ⟨hx, hb, hml, hown, hts⟩ (ct_X12_within l G X M_1 τ x2 0 2 hc_6) (cwS 3 hts gd_X12_76 rfl rfl rfl hd_X12_within ⟨Nat.le_of_ble_eq_true rfl, Nat.le_of_ble_eq_true rfl⟩) (x_pre (u := (X, M_1, τ)) hC hS hP) rfl rfl hl.1 rfl (lv_room (Nat.le_of_ble_eq_true rfl)) dX12_channel_17 ⟨Nat.zero_le _, Nat.zero_le _⟩) hS (fun H locs hP hS => ?_)
    refine lv_if_ne (tgt := 25) hx hb dX12_channel_20 (by decide) (fun hc_7 => ?_) (fun hc_7 => ?_)
    · have hf := g_neg hf hc_7
      refine lv_aload_n hx hb dX12_channel_25 rfl (lv_at hl 0 rfl) ?_
      refine gt_39_0 hx hb hts hown hC hP Nat.zero_lt_one q6_17 dX12_channel_26 ?_
      refine lv_sipush (v := 518) hx hb dX12_channel_29 (by decide) ?_
      refine lv_iload_n hx hb dX12_channel_32 rfl (lv_at hl 1 rfl) ?_
      refine lv_iadd hx hb dX12_channel_33 ?_
      obtain ⟨hg_8, hf⟩ := g_gd hf
      refine xildM (k := 40) (n := 693) hx hb hC hP (fun _ _ => rfl) rfl Nat.zero_lt_one hg_8 dX12_channel_34 ?_
      obtain ⟨x3_9, ex3_9, hf⟩ := g_letE hf
      refine lv_topE ex3_9 ?_
      refine lv_istore_n (lv' := [(3, .int x3_9), (0, .ref (G.2.1 39 0)), (1, .int x1), (2, .int x2)]) hx hb dX12_channel_35 rfl hl (by decide) rfl (fun ls hl => ?_)
      refine lv_iload_n hx hb dX12_channel_36 rfl (lv_at hl 0 rfl) ?_
      refine lv_if_le (tgt := 56) hx hb dX12_channel_37 (by decide) (fun hc_10 => ?_) (fun hc_10 => ?_)
      · have hf := g_pos hf hc_10
        refine lv_iconst (v := (-1)) hx hb dX12_channel_56 (by decide) ?_
        exact bk_X12_channel_57 C0 x2 x3_9 (-1) M_1 hf hP hS (lv_sub hl [1, 3, 0] rfl)
      · have hf := g_neg hf hc_10
        refine lv_aload_n hx hb dX12_channel_40 rfl (lv_at hl 1 rfl) ?_
        refine gt_39_0 hx hb hts hown hC hP Nat.zero_lt_one q6_17 dX12_channel_41 ?_
        refine lv_sipush (v := 494) hx hb dX12_channel_44 (by decide) ?_
        refine lv_bipush (v := 6) hx hb dX12_channel_47 (by decide) ?_
        refine lv_iload_n hx hb dX12_channel_49 rfl (lv_at hl 2 rfl) ?_
        refine lv_imul hx hb dX12_channel_50 ?_
        refine lv_iadd hx hb dX12_channel_51 ?_
        obtain ⟨hg_11, hf⟩ := g_gd hf
        refine xildM (k := 40) (n := 693) hx hb hC hP (fun _ _ => rfl) rfl Nat.zero_lt_one hg_11 dX12_channel_52 ?_
        refine lv_goto (tgt := 57) hx hb dX12_channel_53 (by decide) ?_
        exact bk_X12_channel_57 C0 x2 x3_9 (M_1 40 0 ((494 + (6 * x1)).toNatClampNeg)) M_1 hf hP hS (lv_sub hl [1, 3, 0] rfl)
    · have hf := g_pos hf hc_7
      refine lv_iconst (v := (-1)) hx hb dX12_channel_23 (by decide) ?_
      cases hf
      exact x_iret hx hb hlocks hC hP hS hr dX12_channel_24
set_option maxRecDepth 100000 in
set_option maxHeartbeats 4000000 in
theorem ct_X12_channel (l : Launch) (G : GP) (X M : SM) (τ : SL) (x1 : Int32) (x2 : Int32) {r0 : Int32} {M0 : SM} (hf : fn_X12_channel x1 x2 M = some (r0, M0)) : Met l yX12_channel (wz yX12_channel cX12_channel 5 (some .int)) rm_X12_channel (va_Pc [.ref (G.2.1 39 0), .int x1, .int x2] (g_pw G (X, M, τ))) (va_Qi (fun r u => r = r0 ∧ u = (X, M0, τ)) (g_pw G) (g_A G)) 0 0 (g_A G) := by
  refine Met.ofW (cc := cX12_channel) (maxL := 5) (ret := (some .int)) (by decide +kernel) rfl ?_
  intro p e s m args below meth c s₁ B hml hv
  obtain ⟨rfl, hC, hP⟩ := hv
  have C0 : g_mc p s m _ meth c RX12 cX12_channel (some .int) 5 G := ⟨B.exec, B.bytes, B.returns, hml, findClass_of_methodNamed B.named, fun w h => atoms_spec (ws := wz yX12_channel cX12_channel 5 (some .int)) B.pre w (List.mem_cons_of_mem _ h), B.notSynchronized, hC⟩
  have hl := lv_entry ([.ref (G.2.1 39 0), .int x1, .int x2]) (n := 5) (Nat.le_of_ble_eq_true rfl)
  rw [lg_entry_eq]
  generalize (lg_sl ([.ref (G.2.1 39 0), .int x1, .int x2]) ++ List.replicate (5 - (lg_sl ([.ref (G.2.1 39 0), .int x1, .int x2])).length) Slot.unset).toArray = ls at hl ⊢
  exact wk_X12_channel C0  x1 x2 M hf hP va_S.rf hl
abbrev rm_X12_code : Room := { frames := 2, cells := 0, slots := 0, locals := 42 }
def wb_X12_code_48 (x1 : Int32) (x2 : Int32) (x3 : Int32) (M : SM) : Option (Int32 × SM) :=
  g_let (fn_X12_throwing 0 M) fun (r_7, M_8) =>
  if r_7 = 0 then
  (if x3 = 4 then
    (if g_in ((144 + (24 * x1)) + x2) 693 then
      some ((M_8 40 0 (((144 + (24 * x1)) + x2).toNatClampNeg)), M_8)
      else none)
    else
    ((fn_X12_part x1 x2 x3 M_8).bind fun r_12 =>
      some (r_12, M_8)))
  else
  (some (0, M_8))
set_option maxRecDepth 100000 in
set_option maxHeartbeats 4000000 in
theorem bk_X12_code_48 {p : Program} {l : Launch} {e : Env} {s : State} {m : MethodId} {args : Array Value} {below : List Frame} {meth : Method} {c : Code} {G : GP} {X : SM} {τ : SL} (C0 : g_mc p s m args meth c RX12 cX12_code (some .int) 4 G) {r0 : Int32} {M0 : SM} (x1 : Int32) (x2 : Int32) (x3 : Int32) (M : SM) (hf : wb_X12_code_48 x1 x2 x3 M = some (r0, M0)) {H : Heap} {locs : List Loc} (hP : va_P G.1 g_cl (wd G (cb X M) τ) H) (hS : va_S (g_A G) s.heap H locs) {ls : Array Slot} (hl : lv_has ls 4 [(0, .ref (G.2.1 39 0)), (1, .int x1), (2, .int x2), (3, .int x3)]) : W p l e rm_X12_code s m args below meth c H locs 0 0 (MQ below (va_Qi (fun r u => r = r0 ∧ u = (X, M0, τ)) (g_pw G) (g_A G)) args s 0 0 (g_A G)) (F0 m 48 ls [.ref (G.2.1 39 0)]) := by
  obtain ⟨hx, hb, hr, hml, hown, hts, hlocks, hC⟩ := id C0
  unfold wb_X12_code_48 at hf
  refine lv_iconst (v := 0) hx hb dX12_code_48 (by decide) ?_
  obtain ⟨⟨r_7, M_8⟩, hc_9, hf⟩ := g_letE hf
  refine x_calli (v := (X, M_8, τ)) (va_runV (As := [.int 0]) (rest := []) ⟨hx, hb, hml, hown, hts⟩ (ct_X12_throwing l G X M τ 0 hc_9) (cwV 1 hts gd_X12_175 rfl rfl rfl hd_X12_throwing ⟨Nat.le_of_ble_eq_true rfl, Nat.le_of_ble_eq_true rfl⟩) (x_preV (u := (X, M, τ)) (k := 39) (ci := 12) hC hS hP Nat.zero_lt_one rfl rfl) rfl rfl hl.1 rfl (lv_room (Nat.le_of_ble_eq_true rfl)) dX12_code_49 ⟨Nat.zero_le _, Nat.zero_le _⟩) hS (fun H locs hP hS => ?_)
  refine lv_if_eq (tgt := 57) hx hb dX12_code_52 (by decide) (fun hc_10 => ?_) (fun hc_10 => ?_)
  · have hf := g_pos hf hc_10
    refine lv_iload_n hx hb dX12_code_57 rfl (lv_at hl 3 rfl) ?_
    refine lv_iconst (v := 4) hx hb dX12_code_58 (by decide) ?_
    refine lv_icmp_ne (tgt := 80) hx hb dX12_code_59 (by decide) (fun hc_11 => ?_) (fun hc_11 => ?_)
    · have hf := g_neg hf hc_11
      refine lv_aload_n hx hb dX12_code_80 rfl (lv_at hl 0 rfl) ?_
      refine lv_iload_n hx hb dX12_code_81 rfl (lv_at hl 1 rfl) ?_
      refine lv_iload_n hx hb dX12_code_82 rfl (lv_at hl 2 rfl) ?_
      refine lv_iload_n hx hb dX12_code_83 rfl (lv_at hl 3 rfl) ?_
      obtain ⟨r_12, hc_13, hf⟩ := g_bindE hf
      refine x_calli (v := (X, M_8, τ)) (va_runV (As := [.int x1, .int x2, .int x3]) (rest := []) ⟨hx, hb, hml, hown, hts⟩ (ct_X12_part l G X M_8 τ x1 x2 x3 hc_13) (cwV 3 hts gd_X12_115 rfl rfl rfl hd_X12_part ⟨Nat.le_of_ble_eq_true rfl, Nat.le_of_ble_eq_true rfl⟩) (x_preV (u := (X, M_8, τ)) (k := 39) (ci := 12) hC hS hP Nat.zero_lt_one rfl rfl) rfl rfl hl.1 rfl (lv_room (Nat.le_of_ble_eq_true rfl)) dX12_code_84 ⟨Nat.zero_le _, Nat.zero_le _⟩) hS (fun H locs hP hS => ?_)
      cases hf
      exact x_iret hx hb hlocks hC hP hS hr dX12_code_87
    · have hf := g_pos hf hc_11
      refine lv_aload_n hx hb dX12_code_62 rfl (lv_at hl 0 rfl) ?_
      refine gt_39_0 hx hb hts hown hC hP Nat.zero_lt_one q6_17 dX12_code_63 ?_
      refine lv_sipush (v := 144) hx hb dX12_code_66 (by decide) ?_
      refine lv_bipush (v := 24) hx hb dX12_code_69 (by decide) ?_
      refine lv_iload_n hx hb dX12_code_71 rfl (lv_at hl 1 rfl) ?_
      refine lv_imul hx hb dX12_code_72 ?_
      refine lv_iadd hx hb dX12_code_73 ?_
      refine lv_iload_n hx hb dX12_code_74 rfl (lv_at hl 2 rfl) ?_
      refine lv_iadd hx hb dX12_code_75 ?_
      obtain ⟨hg_14, hf⟩ := g_gd hf
      refine xildM (k := 40) (n := 693) hx hb hC hP (fun _ _ => rfl) rfl Nat.zero_lt_one hg_14 dX12_code_76 ?_
      refine lv_goto (tgt := 87) hx hb dX12_code_77 (by decide) ?_
      cases hf
      exact x_iret hx hb hlocks hC hP hS hr dX12_code_87
  · have hf := g_neg hf hc_10
    refine lv_iconst (v := 0) hx hb dX12_code_55 (by decide) ?_
    cases hf
    exact x_iret hx hb hlocks hC hP hS hr dX12_code_56
def wb_X12_code_26 (x1 : Int32) (x2 : Int32) (x3 : Int32) (xs0 : Int32) (xs2 : Int32) (xs3 : Int32) (M : SM) : Option (Int32 × SM) :=
  if g_in xs0 6 then
  g_let (fn_X12_within xs3 xs2 ((M 43 0 (xs0.toNatClampNeg)) - 1)) fun r_16 =>
  if r_16 = 0 then
  (wb_X12_code_48 x1 x2 x3 M)
  else
  (g_let (fn_X12_within x3 0 4) fun r_19 =>
    if r_19 = 0 then
    (wb_X12_code_48 x1 x2 x3 M)
    else
    (g_let (fn_X12_throwing 1 M) fun (r_22, M_23) =>
      if r_22 = 0 then
      (if x3 = 4 then
        (if g_in ((144 + (24 * x1)) + x2) 693 then
          some ((M_23 40 0 (((144 + (24 * x1)) + x2).toNatClampNeg)), M_23)
          else none)
        else
        ((fn_X12_part x1 x2 x3 M_23).bind fun r_27 =>
          some (r_27, M_23)))
      else
      (some (0, M_23))))
  else none
set_option maxRecDepth 100000 in
set_option maxHeartbeats 4000000 in
theorem bk_X12_code_26 {p : Program} {l : Launch} {e : Env} {s : State} {m : MethodId} {args : Array Value} {below : List Frame} {meth : Method} {c : Code} {G : GP} {X : SM} {τ : SL} (C0 : g_mc p s m args meth c RX12 cX12_code (some .int) 4 G) {r0 : Int32} {M0 : SM} (x1 : Int32) (x2 : Int32) (x3 : Int32) (xs0 : Int32) (xs2 : Int32) (xs3 : Int32) (M : SM) (hf : wb_X12_code_26 x1 x2 x3 xs0 xs2 xs3 M = some (r0, M0)) {H : Heap} {locs : List Loc} (hP : va_P G.1 g_cl (wd G (cb X M) τ) H) (hS : va_S (g_A G) s.heap H locs) {ls : Array Slot} (hl : lv_has ls 4 [(0, .ref (G.2.1 39 0)), (1, .int x1), (2, .int x2), (3, .int x3)]) : W p l e rm_X12_code s m args below meth c H locs 0 0 (MQ below (va_Qi (fun r u => r = r0 ∧ u = (X, M0, τ)) (g_pw G) (g_A G)) args s 0 0 (g_A G)) (F0 m 26 ls [.int xs0, .ref (G.2.1 43 0), .int xs2, .int xs3, .ref (G.2.1 39 0)]) := by
  obtain ⟨hx, hb, hr, hml, hown, hts, hlocks, hC⟩ := id C0
  unfold wb_X12_code_26 at hf
  obtain ⟨hg_15, hf⟩ := g_gd hf
  refine xildM (k := 43) (n := 6) hx hb hC hP (fun _ _ => rfl) rfl Nat.zero_lt_one hg_15 dX12_code_26 ?_
  refine lv_iconst (v := 1) hx hb dX12_code_27 (by decide) ?_
  refine lv_isub hx hb dX12_code_28 ?_
  obtain ⟨r_16, hc_17, hf⟩ := g_letE hf
  refine x_calli (v := (X, M, τ)) (va_runS (As := [.int xs3, .int xs2, .int ((M 43 0 (xs0.toNatClampNeg)) - 1)]) (rest := [.ref (G.2.1 39 0)]) ⟨hx, hb, hml, hown, hts⟩ (ct_X12_within l G X M τ xs3 xs2 ((M 43 0 (xs0.toNatClampNeg)) - 1) hc_17) (cwS 3 hts gd_X12_76 rfl rfl rfl hd_X12_within ⟨Nat.le_of_ble_eq_true rfl, Nat.le_of_ble_eq_true rfl⟩) (x_pre (u := (X, M, τ)) hC hS hP) rfl rfl hl.1 rfl (lv_room (Nat.le_of_ble_eq_true rfl)) dX12_code_29 ⟨Nat.zero_le _, Nat.zero_le _⟩) hS (fun H locs hP hS => ?_)
  refine lv_if_eq (tgt := 48) hx hb dX12_code_32 (by decide) (fun hc_18 => ?_) (fun hc_18 => ?_)
  · have hf := g_pos hf hc_18
    exact bk_X12_code_48 C0 x1 x2 x3 M hf hP hS (lv_sub hl [0, 1, 2, 3] rfl)
  · have hf := g_neg hf hc_18
    refine lv_iload_n hx hb dX12_code_35 rfl (lv_at hl 3 rfl) ?_
    refine lv_iconst (v := 0) hx hb dX12_code_36 (by decide) ?_
    refine lv_iconst (v := 4) hx hb dX12_code_37 (by decide) ?_
    obtain ⟨r_19, hc_20, hf⟩ := g_letE hf
    refine x_calli (v := (X, M, τ)) (va_runS (As := [.int x3, .int 0, .int 4]) (rest := [.ref (G.2.1 39 0)]) ⟨hx, hb, hml, hown, hts⟩ (ct_X12_within l G X M τ x3 0 4 hc_20) (cwS 3 hts gd_X12_76 rfl rfl rfl hd_X12_within ⟨Nat.le_of_ble_eq_true rfl, Nat.le_of_ble_eq_true rfl⟩) (x_pre (u := (X, M, τ)) hC hS hP) rfl rfl hl.1 rfl (lv_room (Nat.le_of_ble_eq_true rfl)) dX12_code_38 ⟨Nat.zero_le _, Nat.zero_le _⟩) hS (fun H locs hP hS => ?_)
    refine lv_if_eq (tgt := 48) hx hb dX12_code_41 (by decide) (fun hc_21 => ?_) (fun hc_21 => ?_)
    · have hf := g_pos hf hc_21
      exact bk_X12_code_48 C0 x1 x2 x3 M hf hP hS (lv_sub hl [0, 1, 2, 3] rfl)
    · have hf := g_neg hf hc_21
      refine lv_iconst (v := 1) hx hb dX12_code_44 (by decide) ?_
      refine lv_goto (tgt := 49) hx hb dX12_code_45 (by decide) ?_
      obtain ⟨⟨r_22, M_23⟩, hc_24, hf⟩ := g_letE hf
      refine x_calli (v := (X, M_23, τ)) (va_runV (As := [.int 1]) (rest := []) ⟨hx, hb, hml, hown, hts⟩ (ct_X12_throwing l G X M τ 1 hc_24) (cwV 1 hts gd_X12_175 rfl rfl rfl hd_X12_throwing ⟨Nat.le_of_ble_eq_true rfl, Nat.le_of_ble_eq_true rfl⟩) (x_preV (u := (X, M, τ)) (k := 39) (ci := 12) hC hS hP Nat.zero_lt_one rfl rfl) rfl rfl hl.1 rfl (lv_room (Nat.le_of_ble_eq_true rfl)) dX12_code_49 ⟨Nat.zero_le _, Nat.zero_le _⟩) hS (fun H locs hP hS => ?_)
      refine lv_if_eq (tgt := 57) hx hb dX12_code_52 (by decide) (fun hc_25 => ?_) (fun hc_25 => ?_)
      · have hf := g_pos hf hc_25
        refine lv_iload_n hx hb dX12_code_57 rfl (lv_at hl 3 rfl) ?_
        refine lv_iconst (v := 4) hx hb dX12_code_58 (by decide) ?_
        refine lv_icmp_ne (tgt := 80) hx hb dX12_code_59 (by decide) (fun hc_26 => ?_) (fun hc_26 => ?_)
        · have hf := g_neg hf hc_26
          refine lv_aload_n hx hb dX12_code_80 rfl (lv_at hl 0 rfl) ?_
          refine lv_iload_n hx hb dX12_code_81 rfl (lv_at hl 1 rfl) ?_
          refine lv_iload_n hx hb dX12_code_82 rfl (lv_at hl 2 rfl) ?_
          refine lv_iload_n hx hb dX12_code_83 rfl (lv_at hl 3 rfl) ?_
          obtain ⟨r_27, hc_28, hf⟩ := g_bindE hf
          refine x_calli (v := (X, M_23, τ)) (va_runV (As := [.int x1, .int x2, .int x3]) (rest := []) ⟨hx, hb, hml, hown, hts⟩ (ct_X12_part l G X M_23 τ x1 x2 x3 hc_28) (cwV 3 hts gd_X12_115 rfl rfl rfl hd_X12_part ⟨Nat.le_of_ble_eq_true rfl, Nat.le_of_ble_eq_true rfl⟩) (x_preV (u := (X, M_23, τ)) (k := 39) (ci := 12) hC hS hP Nat.zero_lt_one rfl rfl) rfl rfl hl.1 rfl (lv_room (Nat.le_of_ble_eq_true rfl)) dX12_code_84 ⟨Nat.zero_le _, Nat.zero_le _⟩) hS (fun H locs hP hS => ?_)
          cases hf
          exact x_iret hx hb hlocks hC hP hS hr dX12_code_87
        · have hf := g_pos hf hc_26
          refine lv_aload_n hx hb dX12_code_62 rfl (lv_at hl 0 rfl) ?_
          refine gt_39_0 hx hb hts hown hC hP Nat.zero_lt_one q6_17 dX12_code_63 ?_
          refine lv_sipush (v := 144) hx hb dX12_code_66 (by decide) ?_
          refine lv_bipush (v := 24) hx hb dX12_code_69 (by decide) ?_
          refine lv_iload_n hx hb dX12_code_71 rfl (lv_at hl 1 rfl) ?_
          refine lv_imul hx hb dX12_code_72 ?_
          refine lv_iadd hx hb dX12_code_73 ?_
          refine lv_iload_n hx hb dX12_code_74 rfl (lv_at hl 2 rfl) ?_
          refine lv_iadd hx hb dX12_code_75 ?_
          obtain ⟨hg_29, hf⟩ := g_gd hf
          refine xildM (k := 40) (n := 693) hx hb hC hP (fun _ _ => rfl) rfl Nat.zero_lt_one hg_29 dX12_code_76 ?_
          refine lv_goto (tgt := 87) hx hb dX12_code_77 (by decide) ?_
          cases hf
          exact x_iret hx hb hlocks hC hP hS hr dX12_code_87
      · have hf := g_neg hf hc_25
        refine lv_iconst (v := 0) hx hb dX12_code_55 (by decide) ?_
        cases hf
        exact x_iret hx hb hlocks hC hP hS hr dX12_code_56
def fn_X12_code (x1 : Int32) (x2 : Int32) (x3 : Int32) (M : SM) : Option (Int32 × SM) :=
  (fn_X12_isThread x1).bind fun r_1 =>
  if r_1 = 0 then
  (wb_X12_code_48 x1 x2 x3 M)
  else
  ((fn_X12_isThread x1).bind fun r_4 =>
    if r_4 = 0 then
    (wb_X12_code_26 x1 x2 x3 0 0 x2 M)
    else
    (wb_X12_code_26 x1 x2 x3 x1 0 x2 M))
set_option maxRecDepth 100000 in
set_option maxHeartbeats 4000000 in
theorem wk_X12_code {p : Program} {l : Launch} {e : Env} {s : State} {m : MethodId} {args : Array Value} {below : List Frame} {meth : Method} {c : Code} {G : GP} {X : SM} {τ : SL} (C0 : g_mc p s m args meth c RX12 cX12_code (some .int) 4 G) {r0 : Int32} {M0 : SM} (x1 : Int32) (x2 : Int32) (x3 : Int32) (M : SM) (hf : fn_X12_code x1 x2 x3 M = some (r0, M0)) {H : Heap} {locs : List Loc} (hP : va_P G.1 g_cl (wd G (cb X M) τ) H) (hS : va_S (g_A G) s.heap H locs) {ls : Array Slot} (hl : lv_has ls 4 [(0, .ref (G.2.1 39 0)), (1, .int x1), (2, .int x2), (3, .int x3)]) : W p l e rm_X12_code s m args below meth c H locs 0 0 (MQ below (va_Qi (fun r u => r = r0 ∧ u = (X, M0, τ)) (g_pw G) (g_A G)) args s 0 0 (g_A G)) (F0 m 0 ls []) := by
  obtain ⟨hx, hb, hr, hml, hown, hts, hlocks, hC⟩ := id C0
  unfold fn_X12_code at hf
  refine lv_aload_n hx hb dX12_code_0 rfl (lv_at hl 0 rfl) ?_
  refine lv_iload_n hx hb dX12_code_1 rfl (lv_at hl 1 rfl) ?_
  obtain ⟨r_1, hc_2, hf⟩ := g_bindE hf
  refine x_calli (v := (X, M, τ)) (va_runS (As := [.int x1]) (rest := [.ref (G.2.1 39 0)]) ⟨hx, hb, hml, hown, hts⟩ (ct_X12_isThread l G X M τ x1 hc_2) (cwS 1 hts gd_X12_80 rfl rfl rfl hd_X12_isThread ⟨Nat.le_of_ble_eq_true rfl, Nat.le_of_ble_eq_true rfl⟩) (x_pre (u := (X, M, τ)) hC hS hP) rfl rfl hl.1 rfl (lv_room (Nat.le_of_ble_eq_true rfl)) dX12_code_2 ⟨Nat.zero_le _, Nat.zero_le _⟩) hS (fun H locs hP hS => ?_)
  refine lv_if_eq (tgt := 48) hx hb dX12_code_5 (by decide) (fun hc_3 => ?_) (fun hc_3 => ?_)
  · have hf := g_pos hf hc_3
    exact bk_X12_code_48 C0 x1 x2 x3 M hf hP hS (lv_sub hl [0, 1, 2, 3] rfl)
  · have hf := g_neg hf hc_3
    refine lv_iload_n hx hb dX12_code_8 rfl (lv_at hl 2 rfl) ?_
    refine lv_iconst (v := 0) hx hb dX12_code_9 (by decide) ?_
    refine lv_aload_n hx hb dX12_code_10 rfl (lv_at hl 0 rfl) ?_
    refine gt_39_3 hx hb hts hown hC hP Nat.zero_lt_one q6_20 dX12_code_11 ?_
    refine lv_iload_n hx hb dX12_code_14 rfl (lv_at hl 1 rfl) ?_
    obtain ⟨r_4, hc_5, hf⟩ := g_bindE hf
    refine x_calli (v := (X, M, τ)) (va_runS (As := [.int x1]) (rest := [.ref (G.2.1 43 0), .int 0, .int x2, .ref (G.2.1 39 0)]) ⟨hx, hb, hml, hown, hts⟩ (ct_X12_isThread l G X M τ x1 hc_5) (cwS 1 hts gd_X12_80 rfl rfl rfl hd_X12_isThread ⟨Nat.le_of_ble_eq_true rfl, Nat.le_of_ble_eq_true rfl⟩) (x_pre (u := (X, M, τ)) hC hS hP) rfl rfl hl.1 rfl (lv_room (Nat.le_of_ble_eq_true rfl)) dX12_code_15 ⟨Nat.zero_le _, Nat.zero_le _⟩) hS (fun H locs hP hS => ?_)
    refine lv_if_eq (tgt := 25) hx hb dX12_code_18 (by decide) (fun hc_6 => ?_) (fun hc_6 => ?_)
    · have hf := g_pos hf hc_6
      refine lv_iconst (v := 0) hx hb dX12_code_25 (by decide) ?_
      exact bk_X12_code_26 C0 x1 x2 x3 0 0 x2 M hf hP hS (lv_sub hl [0, 1, 2, 3] rfl)
    · have hf := g_neg hf hc_6
      refine lv_iload_n hx hb dX12_code_21 rfl (lv_at hl 1 rfl) ?_
      refine lv_goto (tgt := 26) hx hb dX12_code_22 (by decide) ?_
      exact bk_X12_code_26 C0 x1 x2 x3 x1 0 x2 M hf hP hS (lv_sub hl [0, 1, 2, 3] rfl)
set_option maxRecDepth 100000 in
set_option maxHeartbeats 4000000 in
theorem ct_X12_code (l : Launch) (G : GP) (X M : SM) (τ : SL) (x1 : Int32) (x2 : Int32) (x3 : Int32) {r0 : Int32} {M0 : SM} (hf : fn_X12_code x1 x2 x3 M = some (r0, M0)) : Met l yX12_code (wz yX12_code cX12_code 4 (some .int)) rm_X12_code (va_Pc [.ref (G.2.1 39 0), .int x1, .int x2, .int x3] (g_pw G (X, M, τ))) (va_Qi (fun r u => r = r0 ∧ u = (X, M0, τ)) (g_pw G) (g_A G)) 0 0 (g_A G) := by
  refine Met.ofW (cc := cX12_code) (maxL := 4) (ret := (some .int)) (by decide +kernel) rfl ?_
  intro p e s m args below meth c s₁ B hml hv
  obtain ⟨rfl, hC, hP⟩ := hv
  have C0 : g_mc p s m _ meth c RX12 cX12_code (some .int) 4 G := ⟨B.exec, B.bytes, B.returns, hml, findClass_of_methodNamed B.named, fun w h => atoms_spec (ws := wz yX12_code cX12_code 4 (some .int)) B.pre w (List.mem_cons_of_mem _ h), B.notSynchronized, hC⟩
  have hl := lv_entry ([.ref (G.2.1 39 0), .int x1, .int x2, .int x3]) (n := 4) (Nat.le_of_ble_eq_true rfl)
  rw [lg_entry_eq]
  generalize (lg_sl ([.ref (G.2.1 39 0), .int x1, .int x2, .int x3]) ++ List.replicate (4 - (lg_sl ([.ref (G.2.1 39 0), .int x1, .int x2, .int x3])).length) Slot.unset).toArray = ls at hl ⊢
  exact wk_X12_code C0  x1 x2 x3 M hf hP va_S.rf hl
abbrev rm_X12_spares : Room := { frames := 0, cells := 0, slots := 0, locals := 0 }
def wb_X12_spares_4 (k4 : Int32 → Int32 → SM → Option (Int32)) (x1 : Int32) (x2 : Int32) (M : SM) : Option (Int32) :=
  if (M 39 0 12) ≤ x2 then
  (some x1)
  else
  (if g_in x2 16 then
    if 0 ≤ (M 50 0 (x2.toNatClampNeg)) then
    (g_let (x2 + 1) fun x2_4 =>
      k4 x1 x2_4 M)
    else
    (g_let (x1 + 1) fun x1_5 =>
      g_let (x2 + 1) fun x2_6 =>
      k4 x1_5 x2_6 M)
    else none)
set_option maxRecDepth 100000 in
set_option maxHeartbeats 4000000 in
theorem bk_X12_spares_4 {p : Program} {l : Launch} {e : Env} {s : State} {m : MethodId} {args : Array Value} {below : List Frame} {meth : Method} {c : Code} {G : GP} {X : SM} {τ : SL} (C0 : g_mc p s m args meth c RX12 cX12_spares (some .int) 3 G) {r0 : Int32} (k4 : Int32 → Int32 → SM → Option (Int32)) (hk4 : ∀ (x1 : Int32) (x2 : Int32) (M : SM), k4 x1 x2 M = some r0 → ∀ {H : Heap} {locs : List Loc}, va_P G.1 g_cl (wd G (cb X M) τ) H → va_S (g_A G) s.heap H locs → ∀ {ls : Array Slot}, lv_has ls 3 [(0, .ref (G.2.1 39 0)), (1, .int x1), (2, .int x2)] → W p l e rm_X12_spares s m args below meth c H locs 0 0 (MQ below (va_Qi (fun r u => r = r0 ∧ u = (X, M, τ)) (g_pw G) (g_A G)) args s 0 0 (g_A G)) (F0 m 4 ls [])) (x1 : Int32) (x2 : Int32) (M : SM) (hf : wb_X12_spares_4 k4 x1 x2 M = some r0) {H : Heap} {locs : List Loc} (hP : va_P G.1 g_cl (wd G (cb X M) τ) H) (hS : va_S (g_A G) s.heap H locs) {ls : Array Slot} (hl : lv_has ls 3 [(0, .ref (G.2.1 39 0)), (1, .int x1), (2, .int x2)]) : W p l e rm_X12_spares s m args below meth c H locs 0 0 (MQ below (va_Qi (fun r u => r = r0 ∧ u = (X, M, τ)) (g_pw G) (g_A G)) args s 0 0 (g_A G)) (F0 m 4 ls []) := by
  obtain ⟨hx, hb, hr, hml, hown, hts, hlocks, hC⟩ := id C0
  unfold wb_X12_spares_4 at hf
  refine lv_iload_n hx hb dX12_spares_4 rfl (lv_at hl 2 rfl) ?_
  refine lv_aload_n hx hb dX12_spares_5 rfl (lv_at hl 0 rfl) ?_
  refine gt_39_12 hx hb hts hown hC hP Nat.zero_lt_one q7_5 dX12_spares_6 ?_
  refine lv_icmp_ge (tgt := 30) hx hb dX12_spares_9 (by decide) (fun hc_1 => ?_) (fun hc_1 => ?_)
  · have hf := g_pos hf hc_1
    refine lv_iload_n hx hb dX12_spares_30 rfl (lv_at hl 1 rfl) ?_
    cases hf
    exact x_iret hx hb hlocks hC hP hS hr dX12_spares_31
  · have hf := g_neg hf hc_1
    refine lv_aload_n hx hb dX12_spares_12 rfl (lv_at hl 0 rfl) ?_
    refine gt_39_11 hx hb hts hown hC hP Nat.zero_lt_one q7_4 dX12_spares_13 ?_
    refine lv_iload_n hx hb dX12_spares_16 rfl (lv_at hl 2 rfl) ?_
    obtain ⟨hg_2, hf⟩ := g_gd hf
    refine xildM (k := 50) (n := 16) hx hb hC hP (fun _ _ => rfl) rfl Nat.zero_lt_one hg_2 dX12_spares_17 ?_
    refine lv_if_ge (tgt := 24) hx hb dX12_spares_18 (by decide) (fun hc_3 => ?_) (fun hc_3 => ?_)
    · have hf := g_pos hf hc_3
      obtain ⟨x2_4, ex2_4, hf⟩ := g_letE hf
      refine lv_iinc (v := x2_4) (lv' := [(2, .int x2_4), (0, .ref (G.2.1 39 0)), (1, .int x1)]) hx hb dX12_spares_24 hl (k := 2) rfl (by rw [← ex2_4]; rfl) (by decide) rfl (fun ls hl => ?_)
      refine lv_goto (tgt := 4) hx hb dX12_spares_27 (by decide) ?_
      exact hk4 x1 x2_4 M hf hP hS (lv_sub hl [1, 2, 0] rfl)
    · have hf := g_neg hf hc_3
      obtain ⟨x1_5, ex1_5, hf⟩ := g_letE hf
      refine lv_iinc (v := x1_5) (lv' := [(1, .int x1_5), (0, .ref (G.2.1 39 0)), (2, .int x2)]) hx hb dX12_spares_21 hl (k := 1) rfl (by rw [← ex1_5]; rfl) (by decide) rfl (fun ls hl => ?_)
      obtain ⟨x2_6, ex2_6, hf⟩ := g_letE hf
      refine lv_iinc (v := x2_6) (lv' := [(2, .int x2_6), (1, .int x1_5), (0, .ref (G.2.1 39 0))]) hx hb dX12_spares_24 hl (k := 2) rfl (by rw [← ex2_6]; rfl) (by decide) rfl (fun ls hl => ?_)
      refine lv_goto (tgt := 4) hx hb dX12_spares_27 (by decide) ?_
      exact hk4 x1_5 x2_6 M hf hP hS (lv_sub hl [2, 1, 0] rfl)
def wl_X12_spares_4 (n : Nat) (x1 : Int32) (x2 : Int32) (M : SM) : Option (Int32) := g_loop (α := Int32 × Int32 × SM) (fun k a => wb_X12_spares_4 (fun x1 x2 M => k (x1, x2, M)) a.1 a.2.1 a.2.2) n (x1, x2, M)
set_option maxRecDepth 100000 in
set_option maxHeartbeats 4000000 in
theorem lp_X12_spares_4 {p : Program} {l : Launch} {e : Env} {s : State} {m : MethodId} {args : Array Value} {below : List Frame} {meth : Method} {c : Code} {G : GP} {X : SM} {τ : SL} (C0 : g_mc p s m args meth c RX12 cX12_spares (some .int) 3 G) {r0 : Int32} (n : Nat) : ∀ (x1 : Int32) (x2 : Int32) (M : SM), wl_X12_spares_4 n x1 x2 M = some r0 → ∀ {H : Heap} {locs : List Loc}, va_P G.1 g_cl (wd G (cb X M) τ) H → va_S (g_A G) s.heap H locs → ∀ {ls : Array Slot}, lv_has ls 3 [(0, .ref (G.2.1 39 0)), (1, .int x1), (2, .int x2)] → W p l e rm_X12_spares s m args below meth c H locs 0 0 (MQ below (va_Qi (fun r u => r = r0 ∧ u = (X, M, τ)) (g_pw G) (g_A G)) args s 0 0 (g_A G)) (F0 m 4 ls []) := by
  induction n with
  | zero =>
    intro x1 x2 M hf
    have hf : (none : Option (Int32)) = _ := hf
    cases hf
  | succ n ih =>
    intro x1 x2 M hf H locs hP hS ls hl
    exact bk_X12_spares_4 C0   (fun x1 x2 M => wl_X12_spares_4   n x1 x2 M) ih x1 x2 M hf hP hS hl
def fn_X12_spares (M : SM) : Option (Int32) :=
  wl_X12_spares_4 1000 0 0 M
set_option maxRecDepth 100000 in
set_option maxHeartbeats 4000000 in
theorem wk_X12_spares {p : Program} {l : Launch} {e : Env} {s : State} {m : MethodId} {args : Array Value} {below : List Frame} {meth : Method} {c : Code} {G : GP} {X : SM} {τ : SL} (C0 : g_mc p s m args meth c RX12 cX12_spares (some .int) 3 G) {r0 : Int32} (M : SM) (hf : fn_X12_spares M = some r0) {H : Heap} {locs : List Loc} (hP : va_P G.1 g_cl (wd G (cb X M) τ) H) (hS : va_S (g_A G) s.heap H locs) {ls : Array Slot} (hl : lv_has ls 3 [(0, .ref (G.2.1 39 0))]) : W p l e rm_X12_spares s m args below meth c H locs 0 0 (MQ below (va_Qi (fun r u => r = r0 ∧ u = (X, M, τ)) (g_pw G) (g_A G)) args s 0 0 (g_A G)) (F0 m 0 ls []) := by
  obtain ⟨hx, hb, hr, hml, hown, hts, hlocks, hC⟩ := id C0
  unfold fn_X12_spares at hf
  refine lv_iconst (v := 0) hx hb dX12_spares_0 (by decide) ?_
  refine lv_istore_n (lv' := [(1, .int 0), (0, .ref (G.2.1 39 0))]) hx hb dX12_spares_1 rfl hl (by decide) rfl (fun ls hl => ?_)
  refine lv_iconst (v := 0) hx hb dX12_spares_2 (by decide) ?_
  refine lv_istore_n (lv' := [(2, .int 0), (1, .int 0), (0, .ref (G.2.1 39 0))]) hx hb dX12_spares_3 rfl hl (by decide) rfl (fun ls hl => ?_)
  exact lp_X12_spares_4 C0 1000 0 0 M hf hP hS (lv_sub hl [2, 1, 0] rfl)
set_option maxRecDepth 100000 in
set_option maxHeartbeats 4000000 in
theorem ct_X12_spares (l : Launch) (G : GP) (X M : SM) (τ : SL) {r0 : Int32} (hf : fn_X12_spares M = some r0) : Met l yX12_spares (wz yX12_spares cX12_spares 3 (some .int)) rm_X12_spares (va_Pc [.ref (G.2.1 39 0)] (g_pw G (X, M, τ))) (va_Qi (fun r u => r = r0 ∧ u = (X, M, τ)) (g_pw G) (g_A G)) 0 0 (g_A G) := by
  refine Met.ofW (cc := cX12_spares) (maxL := 3) (ret := (some .int)) (by decide +kernel) rfl ?_
  intro p e s m args below meth c s₁ B hml hv
  obtain ⟨rfl, hC, hP⟩ := hv
  have C0 : g_mc p s m _ meth c RX12 cX12_spares (some .int) 3 G := ⟨B.exec, B.bytes, B.returns, hml, findClass_of_methodNamed B.named, fun w h => atoms_spec (ws := wz yX12_spares cX12_spares 3 (some .int)) B.pre w (List.mem_cons_of_mem _ h), B.notSynchronized, hC⟩
  have hl := lv_entry ([.ref (G.2.1 39 0)]) (n := 3) (Nat.le_of_ble_eq_true rfl)
  rw [lg_entry_eq]
  generalize (lg_sl ([.ref (G.2.1 39 0)]) ++ List.replicate (3 - (lg_sl ([.ref (G.2.1 39 0)])).length) Slot.unset).toArray = ls at hl ⊢
  exact wk_X12_spares C0  M hf hP va_S.rf hl
abbrev rm_X12_setOf : Room := { frames := 35, cells := 0, slots := 0, locals := 1082 }
def wb_X12_setOf_4 (k4 : Int32 → Int32 → Int32 → SM → SL → Option (Int32 × SM × SL)) (x1 : Int32) (x2 : Int32) (x3 : Int32) (M : SM) (τ : SL) : Option (Int32 × SM × SL) :=
  if 6 ≤ x3 then
  (some (x2, M, τ))
  else
  (if x1 = 0 then
    ((fn_X12_isSafe x3 M τ).bind fun (r_3, M_4, τ_5) =>
      if r_3 = 0 then
      (g_let (x3 + 1) fun x3_8 =>
        k4 x1 x2 x3_8 M_4 τ_5)
      else
      (g_let ((x2 ||| (1 <<< (x3 &&& 31)))) fun x2_9 =>
        g_let (x3 + 1) fun x3_10 =>
        k4 x1 x2_9 x3_10 M_4 τ_5))
    else
    (if g_in (438 + x3) 693 then
      if (M 40 0 ((438 + x3).toNatClampNeg)) = 5 then
      (g_let ((x2 ||| (1 <<< (x3 &&& 31)))) fun x2_14 =>
        g_let (x3 + 1) fun x3_15 =>
        k4 x1 x2_14 x3_15 M τ)
      else
      (g_let (x3 + 1) fun x3_13 =>
        k4 x1 x2 x3_13 M τ)
      else none))
set_option maxRecDepth 100000 in
set_option maxHeartbeats 4000000 in
theorem bk_X12_setOf_4 {p : Program} {l : Launch} {e : Env} {s : State} {m : MethodId} {args : Array Value} {below : List Frame} {meth : Method} {c : Code} {G : GP} {X : SM} (C0 : g_mc p s m args meth c RX12 cX12_setOf (some .int) 4 G) {r0 : Int32} {M0 : SM} {τ0 : SL} (k4 : Int32 → Int32 → Int32 → SM → SL → Option (Int32 × SM × SL)) (hk4 : ∀ (x1 : Int32) (x2 : Int32) (x3 : Int32) (M : SM) (τ : SL), k4 x1 x2 x3 M τ = some (r0, M0, τ0) → ∀ {H : Heap} {locs : List Loc}, va_P G.1 g_cl (wd G (cb X M) τ) H → va_S (g_A G) s.heap H locs → ∀ {ls : Array Slot}, lv_has ls 4 [(0, .ref (G.2.1 39 0)), (1, .int x1), (2, .int x2), (3, .int x3)] → W p l e rm_X12_setOf s m args below meth c H locs 0 0 (MQ below (va_Qi (fun r u => r = r0 ∧ u = (X, M0, τ0)) (g_pw G) (g_A G)) args s 0 0 (g_A G)) (F0 m 4 ls [])) (x1 : Int32) (x2 : Int32) (x3 : Int32) (M : SM) (τ : SL) (hf : wb_X12_setOf_4 k4 x1 x2 x3 M τ = some (r0, M0, τ0)) {H : Heap} {locs : List Loc} (hP : va_P G.1 g_cl (wd G (cb X M) τ) H) (hS : va_S (g_A G) s.heap H locs) {ls : Array Slot} (hl : lv_has ls 4 [(0, .ref (G.2.1 39 0)), (1, .int x1), (2, .int x2), (3, .int x3)]) : W p l e rm_X12_setOf s m args below meth c H locs 0 0 (MQ below (va_Qi (fun r u => r = r0 ∧ u = (X, M0, τ0)) (g_pw G) (g_A G)) args s 0 0 (g_A G)) (F0 m 4 ls []) := by
  obtain ⟨hx, hb, hr, hml, hown, hts, hlocks, hC⟩ := id C0
  unfold wb_X12_setOf_4 at hf
  refine lv_iload_n hx hb dX12_setOf_4 rfl (lv_at hl 3 rfl) ?_
  refine lv_bipush (v := 6) hx hb dX12_setOf_5 (by decide) ?_
  refine lv_icmp_ge (tgt := 51) hx hb dX12_setOf_7 (by decide) (fun hc_1 => ?_) (fun hc_1 => ?_)
  · have hf := g_pos hf hc_1
    refine lv_iload_n hx hb dX12_setOf_51 rfl (lv_at hl 2 rfl) ?_
    cases hf
    exact x_iret hx hb hlocks hC hP hS hr dX12_setOf_52
  · have hf := g_neg hf hc_1
    refine lv_iload_n hx hb dX12_setOf_10 rfl (lv_at hl 1 rfl) ?_
    refine lv_if_eq (tgt := 31) hx hb dX12_setOf_11 (by decide) (fun hc_2 => ?_) (fun hc_2 => ?_)
    · have hf := g_pos hf hc_2
      refine lv_aload_n hx hb dX12_setOf_31 rfl (lv_at hl 0 rfl) ?_
      refine lv_iload_n hx hb dX12_setOf_32 rfl (lv_at hl 3 rfl) ?_
      obtain ⟨⟨r_3, M_4, τ_5⟩, hc_6, hf⟩ := g_bindE hf
      refine x_calli (v := (X, M_4, τ_5)) (va_runV (As := [.int x3]) (rest := []) ⟨hx, hb, hml, hown, hts⟩ (ct_X12_isSafe l G X M τ x3 hc_6) (cwV 1 hts gd_X12_224 rfl rfl rfl hd_X12_isSafe ⟨Nat.le_of_ble_eq_true rfl, Nat.le_of_ble_eq_true rfl⟩) (x_preV (u := (X, M, τ)) (k := 39) (ci := 12) hC hS hP Nat.zero_lt_one rfl rfl) rfl rfl hl.1 rfl (lv_room (Nat.le_of_ble_eq_true rfl)) dX12_setOf_33 ⟨Nat.zero_le _, Nat.zero_le _⟩) hS (fun H locs hP hS => ?_)
      refine lv_if_eq (tgt := 45) hx hb dX12_setOf_36 (by decide) (fun hc_7 => ?_) (fun hc_7 => ?_)
      · have hf := g_pos hf hc_7
        obtain ⟨x3_8, ex3_8, hf⟩ := g_letE hf
        refine lv_iinc (v := x3_8) (lv' := [(3, .int x3_8), (0, .ref (G.2.1 39 0)), (1, .int x1), (2, .int x2)]) hx hb dX12_setOf_45 hl (k := 3) rfl (by rw [← ex3_8]; rfl) (by decide) rfl (fun ls hl => ?_)
        refine lv_goto (tgt := 4) hx hb dX12_setOf_48 (by decide) ?_
        exact hk4 x1 x2 x3_8 M_4 τ_5 hf hP hS (lv_sub hl [1, 2, 3, 0] rfl)
      · have hf := g_neg hf hc_7
        refine lv_iload_n hx hb dX12_setOf_39 rfl (lv_at hl 2 rfl) ?_
        refine lv_iconst (v := 1) hx hb dX12_setOf_40 (by decide) ?_
        refine lv_iload_n hx hb dX12_setOf_41 rfl (lv_at hl 3 rfl) ?_
        refine lv_ishl hx hb dX12_setOf_42 ?_
        refine lv_ior hx hb dX12_setOf_43 ?_
        obtain ⟨x2_9, ex2_9, hf⟩ := g_letE hf
        refine lv_topE ex2_9 ?_
        refine lv_istore_n (lv' := [(2, .int x2_9), (0, .ref (G.2.1 39 0)), (1, .int x1), (3, .int x3)]) hx hb dX12_setOf_44 rfl hl (by decide) rfl (fun ls hl => ?_)
        obtain ⟨x3_10, ex3_10, hf⟩ := g_letE hf
        refine lv_iinc (v := x3_10) (lv' := [(3, .int x3_10), (2, .int x2_9), (0, .ref (G.2.1 39 0)), (1, .int x1)]) hx hb dX12_setOf_45 hl (k := 3) rfl (by rw [← ex3_10]; rfl) (by decide) rfl (fun ls hl => ?_)
        refine lv_goto (tgt := 4) hx hb dX12_setOf_48 (by decide) ?_
        exact hk4 x1 x2_9 x3_10 M_4 τ_5 hf hP hS (lv_sub hl [2, 3, 1, 0] rfl)
    · have hf := g_neg hf hc_2
      refine lv_aload_n hx hb dX12_setOf_14 rfl (lv_at hl 0 rfl) ?_
      refine gt_39_0 hx hb hts hown hC hP Nat.zero_lt_one q6_17 dX12_setOf_15 ?_
      refine lv_sipush (v := 438) hx hb dX12_setOf_18 (by decide) ?_
      refine lv_iload_n hx hb dX12_setOf_21 rfl (lv_at hl 3 rfl) ?_
      refine lv_iadd hx hb dX12_setOf_22 ?_
      obtain ⟨hg_11, hf⟩ := g_gd hf
      refine xildM (k := 40) (n := 693) hx hb hC hP (fun _ _ => rfl) rfl Nat.zero_lt_one hg_11 dX12_setOf_23 ?_
      refine lv_iconst (v := 5) hx hb dX12_setOf_24 (by decide) ?_
      refine lv_icmp_ne (tgt := 45) hx hb dX12_setOf_25 (by decide) (fun hc_12 => ?_) (fun hc_12 => ?_)
      · have hf := g_neg hf hc_12
        obtain ⟨x3_13, ex3_13, hf⟩ := g_letE hf
        refine lv_iinc (v := x3_13) (lv' := [(3, .int x3_13), (0, .ref (G.2.1 39 0)), (1, .int x1), (2, .int x2)]) hx hb dX12_setOf_45 hl (k := 3) rfl (by rw [← ex3_13]; rfl) (by decide) rfl (fun ls hl => ?_)
        refine lv_goto (tgt := 4) hx hb dX12_setOf_48 (by decide) ?_
        exact hk4 x1 x2 x3_13 M τ hf hP hS (lv_sub hl [1, 2, 3, 0] rfl)
      · have hf := g_pos hf hc_12
        refine lv_goto (tgt := 39) hx hb dX12_setOf_28 (by decide) ?_
        refine lv_iload_n hx hb dX12_setOf_39 rfl (lv_at hl 2 rfl) ?_
        refine lv_iconst (v := 1) hx hb dX12_setOf_40 (by decide) ?_
        refine lv_iload_n hx hb dX12_setOf_41 rfl (lv_at hl 3 rfl) ?_
        refine lv_ishl hx hb dX12_setOf_42 ?_
        refine lv_ior hx hb dX12_setOf_43 ?_
        obtain ⟨x2_14, ex2_14, hf⟩ := g_letE hf
        refine lv_topE ex2_14 ?_
        refine lv_istore_n (lv' := [(2, .int x2_14), (0, .ref (G.2.1 39 0)), (1, .int x1), (3, .int x3)]) hx hb dX12_setOf_44 rfl hl (by decide) rfl (fun ls hl => ?_)
        obtain ⟨x3_15, ex3_15, hf⟩ := g_letE hf
        refine lv_iinc (v := x3_15) (lv' := [(3, .int x3_15), (2, .int x2_14), (0, .ref (G.2.1 39 0)), (1, .int x1)]) hx hb dX12_setOf_45 hl (k := 3) rfl (by rw [← ex3_15]; rfl) (by decide) rfl (fun ls hl => ?_)
        refine lv_goto (tgt := 4) hx hb dX12_setOf_48 (by decide) ?_
        exact hk4 x1 x2_14 x3_15 M τ hf hP hS (lv_sub hl [2, 3, 1, 0] rfl)
def wl_X12_setOf_4 (n : Nat) (x1 : Int32) (x2 : Int32) (x3 : Int32) (M : SM) (τ : SL) : Option (Int32 × SM × SL) := g_loop (α := Int32 × Int32 × Int32 × SM × SL) (fun k a => wb_X12_setOf_4 (fun x1 x2 x3 M τ => k (x1, x2, x3, M, τ)) a.1 a.2.1 a.2.2.1 a.2.2.2.1 a.2.2.2.2) n (x1, x2, x3, M, τ)
set_option maxRecDepth 100000 in
set_option maxHeartbeats 4000000 in
theorem lp_X12_setOf_4 {p : Program} {l : Launch} {e : Env} {s : State} {m : MethodId} {args : Array Value} {below : List Frame} {meth : Method} {c : Code} {G : GP} {X : SM} (C0 : g_mc p s m args meth c RX12 cX12_setOf (some .int) 4 G) {r0 : Int32} {M0 : SM} {τ0 : SL} (n : Nat) : ∀ (x1 : Int32) (x2 : Int32) (x3 : Int32) (M : SM) (τ : SL), wl_X12_setOf_4 n x1 x2 x3 M τ = some (r0, M0, τ0) → ∀ {H : Heap} {locs : List Loc}, va_P G.1 g_cl (wd G (cb X M) τ) H → va_S (g_A G) s.heap H locs → ∀ {ls : Array Slot}, lv_has ls 4 [(0, .ref (G.2.1 39 0)), (1, .int x1), (2, .int x2), (3, .int x3)] → W p l e rm_X12_setOf s m args below meth c H locs 0 0 (MQ below (va_Qi (fun r u => r = r0 ∧ u = (X, M0, τ0)) (g_pw G) (g_A G)) args s 0 0 (g_A G)) (F0 m 4 ls []) := by
  induction n with
  | zero =>
    intro x1 x2 x3 M τ hf
    have hf : (none : Option (Int32 × SM × SL)) = _ := hf
    cases hf
  | succ n ih =>
    intro x1 x2 x3 M τ hf H locs hP hS ls hl
    exact bk_X12_setOf_4 C0   (fun x1 x2 x3 M τ => wl_X12_setOf_4   n x1 x2 x3 M τ) ih x1 x2 x3 M τ hf hP hS hl
def fn_X12_setOf (x1 : Int32) (M : SM) (τ : SL) : Option (Int32 × SM × SL) :=
  wl_X12_setOf_4 1000 x1 0 0 M τ
set_option maxRecDepth 100000 in
set_option maxHeartbeats 4000000 in
theorem wk_X12_setOf {p : Program} {l : Launch} {e : Env} {s : State} {m : MethodId} {args : Array Value} {below : List Frame} {meth : Method} {c : Code} {G : GP} {X : SM} (C0 : g_mc p s m args meth c RX12 cX12_setOf (some .int) 4 G) {r0 : Int32} {M0 : SM} {τ0 : SL} (x1 : Int32) (M : SM) (τ : SL) (hf : fn_X12_setOf x1 M τ = some (r0, M0, τ0)) {H : Heap} {locs : List Loc} (hP : va_P G.1 g_cl (wd G (cb X M) τ) H) (hS : va_S (g_A G) s.heap H locs) {ls : Array Slot} (hl : lv_has ls 4 [(0, .ref (G.2.1 39 0)), (1, .int x1)]) : W p l e rm_X12_setOf s m args below meth c H locs 0 0 (MQ below (va_Qi (fun r u => r = r0 ∧ u = (X, M0, τ0)) (g_pw G) (g_A G)) args s 0 0 (g_A G)) (F0 m 0 ls []) := by
  obtain ⟨hx, hb, hr, hml, hown, hts, hlocks, hC⟩ := id C0
  unfold fn_X12_setOf at hf
  refine lv_iconst (v := 0) hx hb dX12_setOf_0 (by decide) ?_
  refine lv_istore_n (lv' := [(2, .int 0), (0, .ref (G.2.1 39 0)), (1, .int x1)]) hx hb dX12_setOf_1 rfl hl (by decide) rfl (fun ls hl => ?_)
  refine lv_iconst (v := 0) hx hb dX12_setOf_2 (by decide) ?_
  refine lv_istore_n (lv' := [(3, .int 0), (2, .int 0), (0, .ref (G.2.1 39 0)), (1, .int x1)]) hx hb dX12_setOf_3 rfl hl (by decide) rfl (fun ls hl => ?_)
  exact lp_X12_setOf_4 C0 1000 x1 0 0 M τ hf hP hS (lv_sub hl [2, 3, 1, 0] rfl)
set_option maxRecDepth 100000 in
set_option maxHeartbeats 4000000 in
theorem ct_X12_setOf (l : Launch) (G : GP) (X M : SM) (τ : SL) (x1 : Int32) {r0 : Int32} {M0 : SM} {τ0 : SL} (hf : fn_X12_setOf x1 M τ = some (r0, M0, τ0)) : Met l yX12_setOf (wz yX12_setOf cX12_setOf 4 (some .int)) rm_X12_setOf (va_Pc [.ref (G.2.1 39 0), .int x1] (g_pw G (X, M, τ))) (va_Qi (fun r u => r = r0 ∧ u = (X, M0, τ0)) (g_pw G) (g_A G)) 0 0 (g_A G) := by
  refine Met.ofW (cc := cX12_setOf) (maxL := 4) (ret := (some .int)) (by decide +kernel) rfl ?_
  intro p e s m args below meth c s₁ B hml hv
  obtain ⟨rfl, hC, hP⟩ := hv
  have C0 : g_mc p s m _ meth c RX12 cX12_setOf (some .int) 4 G := ⟨B.exec, B.bytes, B.returns, hml, findClass_of_methodNamed B.named, fun w h => atoms_spec (ws := wz yX12_setOf cX12_setOf 4 (some .int)) B.pre w (List.mem_cons_of_mem _ h), B.notSynchronized, hC⟩
  have hl := lv_entry ([.ref (G.2.1 39 0), .int x1]) (n := 4) (Nat.le_of_ble_eq_true rfl)
  rw [lg_entry_eq]
  generalize (lg_sl ([.ref (G.2.1 39 0), .int x1]) ++ List.replicate (4 - (lg_sl ([.ref (G.2.1 39 0), .int x1])).length) Slot.unset).toArray = ls at hl ⊢
  exact wk_X12_setOf C0  x1 M τ hf hP va_S.rf hl
abbrev rm_X12_count : Room := { frames := 36, cells := 0, slots := 0, locals := 1105 }
def fn_X12_count (x1 : Int32) (M : SM) (τ : SL) : Option (Int32 × SM × SL) :=
  g_let (u1 M 39 0 15 0) fun M_1 =>
  if x1 = 0 then
  (some ((M_1 40 0 683), M_1, τ))
  else
  (if x1 = 1 then
    (some ((M_1 39 0 12), M_1, τ))
    else
    (if x1 = 2 then
      ((fn_X12_spares M_1).bind fun r_16 =>
        some (r_16, M_1, τ))
      else
      (if x1 = 3 then
        ((fn_X12_allOf 456 M_1).bind fun r_14 =>
          some (r_14, M_1, τ))
        else
        (if x1 = 4 then
          (some ((M_1 40 0 685), M_1, τ))
          else
          (if x1 = 5 then
            ((fn_X12_allOf 450 M_1).bind fun r_12 =>
              some (r_12, M_1, τ))
            else
            (if x1 = 6 then
              (some ((M_1 40 0 682), M_1, τ))
              else
              (if x1 = 7 then
                (some ((M_1 39 0 10), M_1, τ))
                else
                (if x1 = 8 then
                  ((fn_X12_allOf 474 M_1).bind fun r_10 =>
                    some (r_10, M_1, τ))
                  else
                  (if x1 = 9 then
                    (some ((M_1 40 0 684), M_1, τ))
                    else
                    (if x1 = 10 then
                      ((fn_X12_setOf 1 M_1 τ).bind fun (r_6, M_7, τ_8) =>
                        some (r_6, M_7, τ_8))
                      else
                      (if x1 = 11 then
                        ((fn_X12_setOf 0 M_1 τ).bind fun (r_2, M_3, τ_4) =>
                          some (r_2, M_3, τ_4))
                        else
                        (if x1 = 12 then
                          (some ((M_1 40 0 686), M_1, τ))
                          else
                          (some ((-1), M_1, τ))))))))))))))
set_option maxRecDepth 100000 in
set_option maxHeartbeats 4000000 in
theorem wk_X12_count {p : Program} {l : Launch} {e : Env} {s : State} {m : MethodId} {args : Array Value} {below : List Frame} {meth : Method} {c : Code} {G : GP} {X : SM} (C0 : g_mc p s m args meth c RX12 cX12_count (some .int) 2 G) {r0 : Int32} {M0 : SM} {τ0 : SL} (x1 : Int32) (M : SM) (τ : SL) (hf : fn_X12_count x1 M τ = some (r0, M0, τ0)) {H : Heap} {locs : List Loc} (hP : va_P G.1 g_cl (wd G (cb X M) τ) H) (hS : va_S (g_A G) s.heap H locs) {ls : Array Slot} (hl : lv_has ls 2 [(0, .ref (G.2.1 39 0)), (1, .int x1)]) : W p l e rm_X12_count s m args below meth c H locs 0 0 (MQ below (va_Qi (fun r u => r = r0 ∧ u = (X, M0, τ0)) (g_pw G) (g_A G)) args s 0 0 (g_A G)) (F0 m 0 ls []) := by
  obtain ⟨hx, hb, hr, hml, hown, hts, hlocks, hC⟩ := id C0
  unfold fn_X12_count at hf
  refine lv_aload_n hx hb dX12_count_0 rfl (lv_at hl 0 rfl) ?_
  refine lv_iconst (v := 0) hx hb dX12_count_1 (by decide) ?_
  obtain ⟨M_1, eM_1, hf⟩ := g_letE hf
  refine pt_39_15 hx hb hts hown hC hP hS Nat.zero_lt_one q8_18 dX12_count_2 (fun H locs hP hS => ?_)
  rw [eM_1] at hP
  refine lv_iload_n hx hb dX12_count_5 rfl (lv_at hl 1 rfl) ?_
  by_cases hs6_0 : x1 = 0
  · have hf := g_pos hf hs6_0
    refine lv_tableIn (off := 66) (tgt := 72) hx hb dX12_count_6 (by rw [hs6_0]; decide) (by rw [hs6_0]; decide) (by rw [hs6_0]; rfl) (by decide) ?_
    refine lv_aload_n hx hb dX12_count_72 rfl (lv_at hl 0 rfl) ?_
    refine gt_39_0 hx hb hts hown hC hP Nat.zero_lt_one q6_17 dX12_count_73 ?_
    refine lv_sipush (v := 683) hx hb dX12_count_76 (by decide) ?_
    refine xildM (k := 40) (n := 693) hx hb hC hP (fun _ _ => rfl) rfl Nat.zero_lt_one (by decide) dX12_count_79 ?_
    refine lv_topE (show M_1 40 0 (Int32.toNatClampNeg 683) = M_1 40 0 683 from rfl) ?_
    cases hf
    exact x_iret hx hb hlocks hC hP hS hr dX12_count_80
  · have hf := g_neg hf hs6_0
    by_cases hs6_1 : x1 = 1
    · have hf := g_pos hf hs6_1
      refine lv_tableIn (off := 75) (tgt := 81) hx hb dX12_count_6 (by rw [hs6_1]; decide) (by rw [hs6_1]; decide) (by rw [hs6_1]; rfl) (by decide) ?_
      refine lv_aload_n hx hb dX12_count_81 rfl (lv_at hl 0 rfl) ?_
      refine gt_39_12 hx hb hts hown hC hP Nat.zero_lt_one q7_5 dX12_count_82 ?_
      cases hf
      exact x_iret hx hb hlocks hC hP hS hr dX12_count_85
    · have hf := g_neg hf hs6_1
      by_cases hs6_2 : x1 = 2
      · have hf := g_pos hf hs6_2
        refine lv_tableIn (off := 80) (tgt := 86) hx hb dX12_count_6 (by rw [hs6_2]; decide) (by rw [hs6_2]; decide) (by rw [hs6_2]; rfl) (by decide) ?_
        refine lv_aload_n hx hb dX12_count_86 rfl (lv_at hl 0 rfl) ?_
        obtain ⟨r_16, hc_17, hf⟩ := g_bindE hf
        refine x_calli (v := (X, M_1, τ)) (va_runV (As := []) (rest := []) ⟨hx, hb, hml, hown, hts⟩ (ct_X12_spares l G X M_1 τ  hc_17) (cwV 0 hts gd_X12_236 rfl rfl rfl hd_X12_spares ⟨Nat.le_of_ble_eq_true rfl, Nat.le_of_ble_eq_true rfl⟩) (x_preV (u := (X, M_1, τ)) (k := 39) (ci := 12) hC hS hP Nat.zero_lt_one rfl rfl) rfl rfl hl.1 rfl (lv_room (Nat.le_of_ble_eq_true rfl)) dX12_count_87 ⟨Nat.zero_le _, Nat.zero_le _⟩) hS (fun H locs hP hS => ?_)
        cases hf
        exact x_iret hx hb hlocks hC hP hS hr dX12_count_90
      · have hf := g_neg hf hs6_2
        by_cases hs6_3 : x1 = 3
        · have hf := g_pos hf hs6_3
          refine lv_tableIn (off := 85) (tgt := 91) hx hb dX12_count_6 (by rw [hs6_3]; decide) (by rw [hs6_3]; decide) (by rw [hs6_3]; rfl) (by decide) ?_
          refine lv_aload_n hx hb dX12_count_91 rfl (lv_at hl 0 rfl) ?_
          refine lv_sipush (v := 456) hx hb dX12_count_92 (by decide) ?_
          obtain ⟨r_14, hc_15, hf⟩ := g_bindE hf
          refine x_calli (v := (X, M_1, τ)) (va_runV (As := [.int 456]) (rest := []) ⟨hx, hb, hml, hown, hts⟩ (ct_X12_allOf l G X M_1 τ 456 hc_15) (cwV 1 hts gd_X12_239 rfl rfl rfl hd_X12_allOf ⟨Nat.le_of_ble_eq_true rfl, Nat.le_of_ble_eq_true rfl⟩) (x_preV (u := (X, M_1, τ)) (k := 39) (ci := 12) hC hS hP Nat.zero_lt_one rfl rfl) rfl rfl hl.1 rfl (lv_room (Nat.le_of_ble_eq_true rfl)) dX12_count_95 ⟨Nat.zero_le _, Nat.zero_le _⟩) hS (fun H locs hP hS => ?_)
          cases hf
          exact x_iret hx hb hlocks hC hP hS hr dX12_count_98
        · have hf := g_neg hf hs6_3
          by_cases hs6_4 : x1 = 4
          · have hf := g_pos hf hs6_4
            refine lv_tableIn (off := 93) (tgt := 99) hx hb dX12_count_6 (by rw [hs6_4]; decide) (by rw [hs6_4]; decide) (by rw [hs6_4]; rfl) (by decide) ?_
            refine lv_aload_n hx hb dX12_count_99 rfl (lv_at hl 0 rfl) ?_
            refine gt_39_0 hx hb hts hown hC hP Nat.zero_lt_one q6_17 dX12_count_100 ?_
            refine lv_sipush (v := 685) hx hb dX12_count_103 (by decide) ?_
            refine xildM (k := 40) (n := 693) hx hb hC hP (fun _ _ => rfl) rfl Nat.zero_lt_one (by decide) dX12_count_106 ?_
            refine lv_topE (show M_1 40 0 (Int32.toNatClampNeg 685) = M_1 40 0 685 from rfl) ?_
            cases hf
            exact x_iret hx hb hlocks hC hP hS hr dX12_count_107
          · have hf := g_neg hf hs6_4
            by_cases hs6_5 : x1 = 5
            · have hf := g_pos hf hs6_5
              refine lv_tableIn (off := 102) (tgt := 108) hx hb dX12_count_6 (by rw [hs6_5]; decide) (by rw [hs6_5]; decide) (by rw [hs6_5]; rfl) (by decide) ?_
              refine lv_aload_n hx hb dX12_count_108 rfl (lv_at hl 0 rfl) ?_
              refine lv_sipush (v := 450) hx hb dX12_count_109 (by decide) ?_
              obtain ⟨r_12, hc_13, hf⟩ := g_bindE hf
              refine x_calli (v := (X, M_1, τ)) (va_runV (As := [.int 450]) (rest := []) ⟨hx, hb, hml, hown, hts⟩ (ct_X12_allOf l G X M_1 τ 450 hc_13) (cwV 1 hts gd_X12_239 rfl rfl rfl hd_X12_allOf ⟨Nat.le_of_ble_eq_true rfl, Nat.le_of_ble_eq_true rfl⟩) (x_preV (u := (X, M_1, τ)) (k := 39) (ci := 12) hC hS hP Nat.zero_lt_one rfl rfl) rfl rfl hl.1 rfl (lv_room (Nat.le_of_ble_eq_true rfl)) dX12_count_112 ⟨Nat.zero_le _, Nat.zero_le _⟩) hS (fun H locs hP hS => ?_)
              cases hf
              exact x_iret hx hb hlocks hC hP hS hr dX12_count_115
            · have hf := g_neg hf hs6_5
              by_cases hs6_6 : x1 = 6
              · have hf := g_pos hf hs6_6
                refine lv_tableIn (off := 110) (tgt := 116) hx hb dX12_count_6 (by rw [hs6_6]; decide) (by rw [hs6_6]; decide) (by rw [hs6_6]; rfl) (by decide) ?_
                refine lv_aload_n hx hb dX12_count_116 rfl (lv_at hl 0 rfl) ?_
                refine gt_39_0 hx hb hts hown hC hP Nat.zero_lt_one q6_17 dX12_count_117 ?_
                refine lv_sipush (v := 682) hx hb dX12_count_120 (by decide) ?_
                refine xildM (k := 40) (n := 693) hx hb hC hP (fun _ _ => rfl) rfl Nat.zero_lt_one (by decide) dX12_count_123 ?_
                refine lv_topE (show M_1 40 0 (Int32.toNatClampNeg 682) = M_1 40 0 682 from rfl) ?_
                cases hf
                exact x_iret hx hb hlocks hC hP hS hr dX12_count_124
              · have hf := g_neg hf hs6_6
                by_cases hs6_7 : x1 = 7
                · have hf := g_pos hf hs6_7
                  refine lv_tableIn (off := 119) (tgt := 125) hx hb dX12_count_6 (by rw [hs6_7]; decide) (by rw [hs6_7]; decide) (by rw [hs6_7]; rfl) (by decide) ?_
                  refine lv_aload_n hx hb dX12_count_125 rfl (lv_at hl 0 rfl) ?_
                  refine gt_39_10 hx hb hts hown hC hP Nat.zero_lt_one q13_4 dX12_count_126 ?_
                  cases hf
                  exact x_iret hx hb hlocks hC hP hS hr dX12_count_129
                · have hf := g_neg hf hs6_7
                  by_cases hs6_8 : x1 = 8
                  · have hf := g_pos hf hs6_8
                    refine lv_tableIn (off := 124) (tgt := 130) hx hb dX12_count_6 (by rw [hs6_8]; decide) (by rw [hs6_8]; decide) (by rw [hs6_8]; rfl) (by decide) ?_
                    refine lv_aload_n hx hb dX12_count_130 rfl (lv_at hl 0 rfl) ?_
                    refine lv_sipush (v := 474) hx hb dX12_count_131 (by decide) ?_
                    obtain ⟨r_10, hc_11, hf⟩ := g_bindE hf
                    refine x_calli (v := (X, M_1, τ)) (va_runV (As := [.int 474]) (rest := []) ⟨hx, hb, hml, hown, hts⟩ (ct_X12_allOf l G X M_1 τ 474 hc_11) (cwV 1 hts gd_X12_239 rfl rfl rfl hd_X12_allOf ⟨Nat.le_of_ble_eq_true rfl, Nat.le_of_ble_eq_true rfl⟩) (x_preV (u := (X, M_1, τ)) (k := 39) (ci := 12) hC hS hP Nat.zero_lt_one rfl rfl) rfl rfl hl.1 rfl (lv_room (Nat.le_of_ble_eq_true rfl)) dX12_count_134 ⟨Nat.zero_le _, Nat.zero_le _⟩) hS (fun H locs hP hS => ?_)
                    cases hf
                    exact x_iret hx hb hlocks hC hP hS hr dX12_count_137
                  · have hf := g_neg hf hs6_8
                    by_cases hs6_9 : x1 = 9
                    · have hf := g_pos hf hs6_9
                      refine lv_tableIn (off := 132) (tgt := 138) hx hb dX12_count_6 (by rw [hs6_9]; decide) (by rw [hs6_9]; decide) (by rw [hs6_9]; rfl) (by decide) ?_
                      refine lv_aload_n hx hb dX12_count_138 rfl (lv_at hl 0 rfl) ?_
                      refine gt_39_0 hx hb hts hown hC hP Nat.zero_lt_one q6_17 dX12_count_139 ?_
                      refine lv_sipush (v := 684) hx hb dX12_count_142 (by decide) ?_
                      refine xildM (k := 40) (n := 693) hx hb hC hP (fun _ _ => rfl) rfl Nat.zero_lt_one (by decide) dX12_count_145 ?_
                      refine lv_topE (show M_1 40 0 (Int32.toNatClampNeg 684) = M_1 40 0 684 from rfl) ?_
                      cases hf
                      exact x_iret hx hb hlocks hC hP hS hr dX12_count_146
                    · have hf := g_neg hf hs6_9
                      by_cases hs6_10 : x1 = 10
                      · have hf := g_pos hf hs6_10
                        refine lv_tableIn (off := 141) (tgt := 147) hx hb dX12_count_6 (by rw [hs6_10]; decide) (by rw [hs6_10]; decide) (by rw [hs6_10]; rfl) (by decide) ?_
                        refine lv_aload_n hx hb dX12_count_147 rfl (lv_at hl 0 rfl) ?_
                        refine lv_iconst (v := 1) hx hb dX12_count_148 (by decide) ?_
                        obtain ⟨⟨r_6, M_7, τ_8⟩, hc_9, hf⟩ := g_bindE hf
                        refine x_calli (v := (X, M_7, τ_8)) (va_runV (As := [.int 1]) (rest := []) ⟨hx, hb, hml, hown, hts⟩ (ct_X12_setOf l G X M_1 τ 1 hc_9) (cwV 1 hts gd_X12_242 rfl rfl rfl hd_X12_setOf ⟨Nat.le_of_ble_eq_true rfl, Nat.le_of_ble_eq_true rfl⟩) (x_preV (u := (X, M_1, τ)) (k := 39) (ci := 12) hC hS hP Nat.zero_lt_one rfl rfl) rfl rfl hl.1 rfl (lv_room (Nat.le_of_ble_eq_true rfl)) dX12_count_149 ⟨Nat.zero_le _, Nat.zero_le _⟩) hS (fun H locs hP hS => ?_)
                        cases hf
                        exact x_iret hx hb hlocks hC hP hS hr dX12_count_152
                      · have hf := g_neg hf hs6_10
                        by_cases hs6_11 : x1 = 11
                        · have hf := g_pos hf hs6_11
                          refine lv_tableIn (off := 147) (tgt := 153) hx hb dX12_count_6 (by rw [hs6_11]; decide) (by rw [hs6_11]; decide) (by rw [hs6_11]; rfl) (by decide) ?_
                          refine lv_aload_n hx hb dX12_count_153 rfl (lv_at hl 0 rfl) ?_
                          refine lv_iconst (v := 0) hx hb dX12_count_154 (by decide) ?_
                          obtain ⟨⟨r_2, M_3, τ_4⟩, hc_5, hf⟩ := g_bindE hf
                          refine x_calli (v := (X, M_3, τ_4)) (va_runV (As := [.int 0]) (rest := []) ⟨hx, hb, hml, hown, hts⟩ (ct_X12_setOf l G X M_1 τ 0 hc_5) (cwV 1 hts gd_X12_242 rfl rfl rfl hd_X12_setOf ⟨Nat.le_of_ble_eq_true rfl, Nat.le_of_ble_eq_true rfl⟩) (x_preV (u := (X, M_1, τ)) (k := 39) (ci := 12) hC hS hP Nat.zero_lt_one rfl rfl) rfl rfl hl.1 rfl (lv_room (Nat.le_of_ble_eq_true rfl)) dX12_count_155 ⟨Nat.zero_le _, Nat.zero_le _⟩) hS (fun H locs hP hS => ?_)
                          cases hf
                          exact x_iret hx hb hlocks hC hP hS hr dX12_count_158
                        · have hf := g_neg hf hs6_11
                          by_cases hs6_12 : x1 = 12
                          · have hf := g_pos hf hs6_12
                            refine lv_tableIn (off := 153) (tgt := 159) hx hb dX12_count_6 (by rw [hs6_12]; decide) (by rw [hs6_12]; decide) (by rw [hs6_12]; rfl) (by decide) ?_
                            refine lv_aload_n hx hb dX12_count_159 rfl (lv_at hl 0 rfl) ?_
                            refine gt_39_0 hx hb hts hown hC hP Nat.zero_lt_one q6_17 dX12_count_160 ?_
                            refine lv_sipush (v := 686) hx hb dX12_count_163 (by decide) ?_
                            refine xildM (k := 40) (n := 693) hx hb hC hP (fun _ _ => rfl) rfl Nat.zero_lt_one (by decide) dX12_count_166 ?_
                            refine lv_topE (show M_1 40 0 (Int32.toNatClampNeg 686) = M_1 40 0 686 from rfl) ?_
                            cases hf
                            exact x_iret hx hb hlocks hC hP hS hr dX12_count_167
                          · have hf := g_neg hf hs6_12
                            have nhs6_0 : x1.toInt ≠ 0 := fun h => hs6_0 (Int32.toInt_inj.mp (by rw [h]; rfl))
                            have nhs6_1 : x1.toInt ≠ 1 := fun h => hs6_1 (Int32.toInt_inj.mp (by rw [h]; rfl))
                            have nhs6_2 : x1.toInt ≠ 2 := fun h => hs6_2 (Int32.toInt_inj.mp (by rw [h]; rfl))
                            have nhs6_3 : x1.toInt ≠ 3 := fun h => hs6_3 (Int32.toInt_inj.mp (by rw [h]; rfl))
                            have nhs6_4 : x1.toInt ≠ 4 := fun h => hs6_4 (Int32.toInt_inj.mp (by rw [h]; rfl))
                            have nhs6_5 : x1.toInt ≠ 5 := fun h => hs6_5 (Int32.toInt_inj.mp (by rw [h]; rfl))
                            have nhs6_6 : x1.toInt ≠ 6 := fun h => hs6_6 (Int32.toInt_inj.mp (by rw [h]; rfl))
                            have nhs6_7 : x1.toInt ≠ 7 := fun h => hs6_7 (Int32.toInt_inj.mp (by rw [h]; rfl))
                            have nhs6_8 : x1.toInt ≠ 8 := fun h => hs6_8 (Int32.toInt_inj.mp (by rw [h]; rfl))
                            have nhs6_9 : x1.toInt ≠ 9 := fun h => hs6_9 (Int32.toInt_inj.mp (by rw [h]; rfl))
                            have nhs6_10 : x1.toInt ≠ 10 := fun h => hs6_10 (Int32.toInt_inj.mp (by rw [h]; rfl))
                            have nhs6_11 : x1.toInt ≠ 11 := fun h => hs6_11 (Int32.toInt_inj.mp (by rw [h]; rfl))
                            have nhs6_12 : x1.toInt ≠ 12 := fun h => hs6_12 (Int32.toInt_inj.mp (by rw [h]; rfl))
                            refine lv_tableOut (tgt := 168) hx hb dX12_count_6 (by omega) (by decide) ?_
                            refine lv_iconst (v := (-1)) hx hb dX12_count_168 (by decide) ?_
                            cases hf
                            exact x_iret hx hb hlocks hC hP hS hr dX12_count_169
set_option maxRecDepth 100000 in
set_option maxHeartbeats 4000000 in
theorem ct_X12_count (l : Launch) (G : GP) (X M : SM) (τ : SL) (x1 : Int32) {r0 : Int32} {M0 : SM} {τ0 : SL} (hf : fn_X12_count x1 M τ = some (r0, M0, τ0)) : Met l yX12_count (wz yX12_count cX12_count 2 (some .int)) rm_X12_count (va_Pc [.ref (G.2.1 39 0), .int x1] (g_pw G (X, M, τ))) (va_Qi (fun r u => r = r0 ∧ u = (X, M0, τ0)) (g_pw G) (g_A G)) 0 0 (g_A G) := by
  refine Met.ofW (cc := cX12_count) (maxL := 2) (ret := (some .int)) (by decide +kernel) rfl ?_
  intro p e s m args below meth c s₁ B hml hv
  obtain ⟨rfl, hC, hP⟩ := hv
  have C0 : g_mc p s m _ meth c RX12 cX12_count (some .int) 2 G := ⟨B.exec, B.bytes, B.returns, hml, findClass_of_methodNamed B.named, fun w h => atoms_spec (ws := wz yX12_count cX12_count 2 (some .int)) B.pre w (List.mem_cons_of_mem _ h), B.notSynchronized, hC⟩
  have hl := lv_entry ([.ref (G.2.1 39 0), .int x1]) (n := 2) (Nat.le_of_ble_eq_true rfl)
  rw [lg_entry_eq]
  generalize (lg_sl ([.ref (G.2.1 39 0), .int x1]) ++ List.replicate (2 - (lg_sl ([.ref (G.2.1 39 0), .int x1])).length) Slot.unset).toArray = ls at hl ⊢
  exact wk_X12_count C0  x1 M τ hf hP va_S.rf hl
abbrev rm_X12_due : Room := { frames := 2, cells := 0, slots := 0, locals := 42 }
def fn_X12_due (x1 : Int32) (x2 : Int32) (M : SM) : Option (Int32 × SM) :=
  g_let (u1 M 39 0 15 0) fun M_1 =>
  (fn_X12_isThread x1).bind fun r_2 =>
  if r_2 = 0 then
  (some ((-1), M_1))
  else
  (g_let (fn_X12_within x2 0 9999) fun r_5 =>
    if r_5 = 0 then
    (some ((-1), M_1))
    else
    (if g_in x1 6 then
      g_let ((M_1 51 0 (x1.toNatClampNeg))) fun x3_9 =>
      if g_in x1 6 then
      g_let (u1 M_1 51 0 (x1.toNatClampNeg) x2) fun M_11 =>
      some (x3_9, M_11)
      else none
      else none))
set_option maxRecDepth 100000 in
set_option maxHeartbeats 4000000 in
theorem wk_X12_due {p : Program} {l : Launch} {e : Env} {s : State} {m : MethodId} {args : Array Value} {below : List Frame} {meth : Method} {c : Code} {G : GP} {X : SM} {τ : SL} (C0 : g_mc p s m args meth c RX12 cX12_due (some .int) 4 G) {r0 : Int32} {M0 : SM} (x1 : Int32) (x2 : Int32) (M : SM) (hf : fn_X12_due x1 x2 M = some (r0, M0)) {H : Heap} {locs : List Loc} (hP : va_P G.1 g_cl (wd G (cb X M) τ) H) (hS : va_S (g_A G) s.heap H locs) {ls : Array Slot} (hl : lv_has ls 4 [(0, .ref (G.2.1 39 0)), (1, .int x1), (2, .int x2)]) : W p l e rm_X12_due s m args below meth c H locs 0 0 (MQ below (va_Qi (fun r u => r = r0 ∧ u = (X, M0, τ)) (g_pw G) (g_A G)) args s 0 0 (g_A G)) (F0 m 0 ls []) := by
  obtain ⟨hx, hb, hr, hml, hown, hts, hlocks, hC⟩ := id C0
  unfold fn_X12_due at hf
  refine lv_aload_n hx hb dX12_due_0 rfl (lv_at hl 0 rfl) ?_
  refine lv_iconst (v := 0) hx hb dX12_due_1 (by decide) ?_
  obtain ⟨M_1, eM_1, hf⟩ := g_letE hf
  refine pt_39_15 hx hb hts hown hC hP hS Nat.zero_lt_one q8_18 dX12_due_2 (fun H locs hP hS => ?_)
  rw [eM_1] at hP
  refine lv_iload_n hx hb dX12_due_5 rfl (lv_at hl 1 rfl) ?_
  obtain ⟨r_2, hc_3, hf⟩ := g_bindE hf
  refine x_calli (v := (X, M_1, τ)) (va_runS (As := [.int x1]) (rest := []) ⟨hx, hb, hml, hown, hts⟩ (ct_X12_isThread l G X M_1 τ x1 hc_3) (cwS 1 hts gd_X12_80 rfl rfl rfl hd_X12_isThread ⟨Nat.le_of_ble_eq_true rfl, Nat.le_of_ble_eq_true rfl⟩) (x_pre (u := (X, M_1, τ)) hC hS hP) rfl rfl hl.1 rfl (lv_room (Nat.le_of_ble_eq_true rfl)) dX12_due_6 ⟨Nat.zero_le _, Nat.zero_le _⟩) hS (fun H locs hP hS => ?_)
  refine lv_if_eq (tgt := 23) hx hb dX12_due_9 (by decide) (fun hc_4 => ?_) (fun hc_4 => ?_)
  · have hf := g_pos hf hc_4
    refine lv_iconst (v := (-1)) hx hb dX12_due_23 (by decide) ?_
    cases hf
    exact x_iret hx hb hlocks hC hP hS hr dX12_due_24
  · have hf := g_neg hf hc_4
    refine lv_iload_n hx hb dX12_due_12 rfl (lv_at hl 2 rfl) ?_
    refine lv_iconst (v := 0) hx hb dX12_due_13 (by decide) ?_
    refine lv_sipush (v := 9999) hx hb dX12_due_14 (by decide) ?_
    obtain ⟨r_5, hc_6, hf⟩ := g_letE hf
    refine x_calli (v := (X, M_1, τ)) (va_runS (As := [.int x2, .int 0, .int 9999]) (rest := []) ⟨hx, hb, hml, hown, hts⟩ (ct_X12_within l G X M_1 τ x2 0 9999 hc_6) (cwS 3 hts gd_X12_76 rfl rfl rfl hd_X12_within ⟨Nat.le_of_ble_eq_true rfl, Nat.le_of_ble_eq_true rfl⟩) (x_pre (u := (X, M_1, τ)) hC hS hP) rfl rfl hl.1 rfl (lv_room (Nat.le_of_ble_eq_true rfl)) dX12_due_17 ⟨Nat.zero_le _, Nat.zero_le _⟩) hS (fun H locs hP hS => ?_)
    refine lv_if_ne (tgt := 25) hx hb dX12_due_20 (by decide) (fun hc_7 => ?_) (fun hc_7 => ?_)
    · have hf := g_neg hf hc_7
      refine lv_aload_n hx hb dX12_due_25 rfl (lv_at hl 0 rfl) ?_
      refine gt_39_13 hx hb hts hown hC hP Nat.zero_lt_one q7_6 dX12_due_26 ?_
      refine lv_iload_n hx hb dX12_due_29 rfl (lv_at hl 1 rfl) ?_
      obtain ⟨hg_8, hf⟩ := g_gd hf
      refine xildM (k := 51) (n := 6) hx hb hC hP (fun _ _ => rfl) rfl Nat.zero_lt_one hg_8 dX12_due_30 ?_
      obtain ⟨x3_9, ex3_9, hf⟩ := g_letE hf
      refine lv_topE ex3_9 ?_
      refine lv_istore_n (lv' := [(3, .int x3_9), (0, .ref (G.2.1 39 0)), (1, .int x1), (2, .int x2)]) hx hb dX12_due_31 rfl hl (by decide) rfl (fun ls hl => ?_)
      refine lv_aload_n hx hb dX12_due_32 rfl (lv_at hl 1 rfl) ?_
      refine gt_39_13 hx hb hts hown hC hP Nat.zero_lt_one q7_6 dX12_due_33 ?_
      refine lv_iload_n hx hb dX12_due_36 rfl (lv_at hl 2 rfl) ?_
      refine lv_iload_n hx hb dX12_due_37 rfl (lv_at hl 3 rfl) ?_
      obtain ⟨hg_10, hf⟩ := g_gd hf
      obtain ⟨M_11, eM_11, hf⟩ := g_letE hf
      refine xistM (k := 51) (n := 6) hx hb hC hP hS (fun _ _ => rfl) rfl Nat.zero_lt_one hg_10 dX12_due_38 (fun H locs hP hS => ?_)
      rw [eM_11] at hP
      refine lv_iload_n hx hb dX12_due_39 rfl (lv_at hl 0 rfl) ?_
      cases hf
      exact x_iret hx hb hlocks hC hP hS hr dX12_due_40
    · have hf := g_pos hf hc_7
      refine lv_iconst (v := (-1)) hx hb dX12_due_23 (by decide) ?_
      cases hf
      exact x_iret hx hb hlocks hC hP hS hr dX12_due_24
set_option maxRecDepth 100000 in
set_option maxHeartbeats 4000000 in
theorem ct_X12_due (l : Launch) (G : GP) (X M : SM) (τ : SL) (x1 : Int32) (x2 : Int32) {r0 : Int32} {M0 : SM} (hf : fn_X12_due x1 x2 M = some (r0, M0)) : Met l yX12_due (wz yX12_due cX12_due 4 (some .int)) rm_X12_due (va_Pc [.ref (G.2.1 39 0), .int x1, .int x2] (g_pw G (X, M, τ))) (va_Qi (fun r u => r = r0 ∧ u = (X, M0, τ)) (g_pw G) (g_A G)) 0 0 (g_A G) := by
  refine Met.ofW (cc := cX12_due) (maxL := 4) (ret := (some .int)) (by decide +kernel) rfl ?_
  intro p e s m args below meth c s₁ B hml hv
  obtain ⟨rfl, hC, hP⟩ := hv
  have C0 : g_mc p s m _ meth c RX12 cX12_due (some .int) 4 G := ⟨B.exec, B.bytes, B.returns, hml, findClass_of_methodNamed B.named, fun w h => atoms_spec (ws := wz yX12_due cX12_due 4 (some .int)) B.pre w (List.mem_cons_of_mem _ h), B.notSynchronized, hC⟩
  have hl := lv_entry ([.ref (G.2.1 39 0), .int x1, .int x2]) (n := 4) (Nat.le_of_ble_eq_true rfl)
  rw [lg_entry_eq]
  generalize (lg_sl ([.ref (G.2.1 39 0), .int x1, .int x2]) ++ List.replicate (4 - (lg_sl ([.ref (G.2.1 39 0), .int x1, .int x2])).length) Slot.unset).toArray = ls at hl ⊢
  exact wk_X12_due C0  x1 x2 M hf hP va_S.rf hl
