abbrev rm_X12_edge : Room := { frames := 1, cells := 0, slots := 0, locals := 22 }
def fn_X12_edge (x1 : Int32) (x2 : Int32) (M : SM) : Option (Int32 × SM) :=
  g_let (u1 M 39 0 15 0) fun M_1 =>
  g_let (fn_X12_within x1 0 ((M_1 40 0 682) - 1)) fun r_2 =>
  if r_2 = 0 then
  (some ((-1), M_1))
  else
  (g_let (fn_X12_within x2 0 3) fun r_5 =>
    if r_5 = 0 then
    (some ((-1), M_1))
    else
    (if g_in ((522 + (4 * x1)) + x2) 693 then
      some ((M_1 40 0 (((522 + (4 * x1)) + x2).toNatClampNeg)), M_1)
      else none))
set_option maxRecDepth 100000 in
set_option maxHeartbeats 4000000 in
theorem wk_X12_edge {p : Program} {l : Launch} {e : Env} {s : State} {m : MethodId} {args : Array Value} {below : List Frame} {meth : Method} {c : Code} {G : GP} {X : SM} {τ : SL} (C0 : g_mc p s m args meth c RX12 cX12_edge (some .int) 3 G) {r0 : Int32} {M0 : SM} (x1 : Int32) (x2 : Int32) (M : SM) (hf : fn_X12_edge x1 x2 M = some (r0, M0)) {H : Heap} {locs : List Loc} (hP : va_P G.1 g_cl (wd G (cb X M) τ) H) (hS : va_S (g_A G) s.heap H locs) {ls : Array Slot} (hl : lv_has ls 3 [(0, .ref (G.2.1 39 0)), (1, .int x1), (2, .int x2)]) : W p l e rm_X12_edge s m args below meth c H locs 0 0 (MQ below (va_Qi (fun r u => r = r0 ∧ u = (X, M0, τ)) (g_pw G) (g_A G)) args s 0 0 (g_A G)) (F0 m 0 ls []) := by
  obtain ⟨hx, hb, hr, hml, hown, hts, hlocks, hC⟩ := id C0
  unfold fn_X12_edge at hf
  refine lv_aload_n hx hb dX12_edge_0 rfl (lv_at hl 0 rfl) ?_
  refine lv_iconst (v := 0) hx hb dX12_edge_1 (by decide) ?_
  obtain ⟨M_1, eM_1, hf⟩ := g_letE hf
  refine pt_39_15 hx hb hts hown hC hP hS Nat.zero_lt_one q8_18 dX12_edge_2 (fun H locs hP hS => ?_)
  rw [eM_1] at hP
  refine lv_iload_n hx hb dX12_edge_5 rfl (lv_at hl 1 rfl) ?_
  refine lv_iconst (v := 0) hx hb dX12_edge_6 (by decide) ?_
  refine lv_aload_n hx hb dX12_edge_7 rfl (lv_at hl 0 rfl) ?_
  refine gt_39_0 hx hb hts hown hC hP Nat.zero_lt_one q6_17 dX12_edge_8 ?_
  refine lv_sipush (v := 682) hx hb dX12_edge_11 (by decide) ?_
  refine xildM (k := 40) (n := 693) hx hb hC hP (fun _ _ => rfl) rfl Nat.zero_lt_one (by decide) dX12_edge_14 ?_
  refine lv_topE (show M_1 40 0 (Int32.toNatClampNeg 682) = M_1 40 0 682 from rfl) ?_
  refine lv_iconst (v := 1) hx hb dX12_edge_15 (by decide) ?_
  refine lv_isub hx hb dX12_edge_16 ?_
  obtain ⟨r_2, hc_3, hf⟩ := g_letE hf
  refine x_calli (v := (X, M_1, τ)) (va_runS (As := [.int x1, .int 0, .int ((M_1 40 0 682) - 1)]) (rest := []) ⟨hx, hb, hml, hown, hts⟩ (ct_X12_within l G X M_1 τ x1 0 ((M_1 40 0 682) - 1) hc_3) (cwS 3 hts gd_X12_76 rfl rfl rfl hd_X12_within ⟨Nat.le_of_ble_eq_true rfl, Nat.le_of_ble_eq_true rfl⟩) (x_pre (u := (X, M_1, τ)) hC hS hP) rfl rfl hl.1 rfl (lv_room (Nat.le_of_ble_eq_true rfl)) dX12_edge_17 ⟨Nat.zero_le _, Nat.zero_le _⟩) hS (fun H locs hP hS => ?_)
  refine lv_if_eq (tgt := 49) hx hb dX12_edge_20 (by decide) (fun hc_4 => ?_) (fun hc_4 => ?_)
  · have hf := g_pos hf hc_4
    refine lv_iconst (v := (-1)) hx hb dX12_edge_49 (by decide) ?_
    cases hf
    exact x_iret hx hb hlocks hC hP hS hr dX12_edge_50
  · have hf := g_neg hf hc_4
    refine lv_iload_n hx hb dX12_edge_23 rfl (lv_at hl 2 rfl) ?_
    refine lv_iconst (v := 0) hx hb dX12_edge_24 (by decide) ?_
    refine lv_iconst (v := 3) hx hb dX12_edge_25 (by decide) ?_
    obtain ⟨r_5, hc_6, hf⟩ := g_letE hf
    refine x_calli (v := (X, M_1, τ)) (va_runS (As := [.int x2, .int 0, .int 3]) (rest := []) ⟨hx, hb, hml, hown, hts⟩ (ct_X12_within l G X M_1 τ x2 0 3 hc_6) (cwS 3 hts gd_X12_76 rfl rfl rfl hd_X12_within ⟨Nat.le_of_ble_eq_true rfl, Nat.le_of_ble_eq_true rfl⟩) (x_pre (u := (X, M_1, τ)) hC hS hP) rfl rfl hl.1 rfl (lv_room (Nat.le_of_ble_eq_true rfl)) dX12_edge_26 ⟨Nat.zero_le _, Nat.zero_le _⟩) hS (fun H locs hP hS => ?_)
    refine lv_if_eq (tgt := 49) hx hb dX12_edge_29 (by decide) (fun hc_7 => ?_) (fun hc_7 => ?_)
    · have hf := g_pos hf hc_7
      refine lv_iconst (v := (-1)) hx hb dX12_edge_49 (by decide) ?_
      cases hf
      exact x_iret hx hb hlocks hC hP hS hr dX12_edge_50
    · have hf := g_neg hf hc_7
      refine lv_aload_n hx hb dX12_edge_32 rfl (lv_at hl 0 rfl) ?_
      refine gt_39_0 hx hb hts hown hC hP Nat.zero_lt_one q6_17 dX12_edge_33 ?_
      refine lv_sipush (v := 522) hx hb dX12_edge_36 (by decide) ?_
      refine lv_iconst (v := 4) hx hb dX12_edge_39 (by decide) ?_
      refine lv_iload_n hx hb dX12_edge_40 rfl (lv_at hl 1 rfl) ?_
      refine lv_imul hx hb dX12_edge_41 ?_
      refine lv_iadd hx hb dX12_edge_42 ?_
      refine lv_iload_n hx hb dX12_edge_43 rfl (lv_at hl 2 rfl) ?_
      refine lv_iadd hx hb dX12_edge_44 ?_
      obtain ⟨hg_8, hf⟩ := g_gd hf
      refine xildM (k := 40) (n := 693) hx hb hC hP (fun _ _ => rfl) rfl Nat.zero_lt_one hg_8 dX12_edge_45 ?_
      refine lv_goto (tgt := 50) hx hb dX12_edge_46 (by decide) ?_
      cases hf
      exact x_iret hx hb hlocks hC hP hS hr dX12_edge_50
set_option maxRecDepth 100000 in
set_option maxHeartbeats 4000000 in
theorem ct_X12_edge (l : Launch) (G : GP) (X M : SM) (τ : SL) (x1 : Int32) (x2 : Int32) {r0 : Int32} {M0 : SM} (hf : fn_X12_edge x1 x2 M = some (r0, M0)) : Met l yX12_edge (wz yX12_edge cX12_edge 3 (some .int)) rm_X12_edge (va_Pc [.ref (G.2.1 39 0), .int x1, .int x2] (g_pw G (X, M, τ))) (va_Qi (fun r u => r = r0 ∧ u = (X, M0, τ)) (g_pw G) (g_A G)) 0 0 (g_A G) := by
  refine Met.ofW (cc := cX12_edge) (maxL := 3) (ret := (some .int)) (by decide +kernel) rfl ?_
  intro p e s m args below meth c s₁ B hml hv
  obtain ⟨rfl, hC, hP⟩ := hv
  have C0 : g_mc p s m _ meth c RX12 cX12_edge (some .int) 3 G := ⟨B.exec, B.bytes, B.returns, hml, findClass_of_methodNamed B.named, fun w h => atoms_spec (ws := wz yX12_edge cX12_edge 3 (some .int)) B.pre w (List.mem_cons_of_mem _ h), B.notSynchronized, hC⟩
  have hl := lv_entry ([.ref (G.2.1 39 0), .int x1, .int x2]) (n := 3) (Nat.le_of_ble_eq_true rfl)
  rw [lg_entry_eq]
  generalize (lg_sl ([.ref (G.2.1 39 0), .int x1, .int x2]) ++ List.replicate (3 - (lg_sl ([.ref (G.2.1 39 0), .int x1, .int x2])).length) Slot.unset).toArray = ls at hl ⊢
  exact wk_X12_edge C0  x1 x2 M hf hP va_S.rf hl
abbrev rm_X12_event : Room := { frames := 1, cells := 0, slots := 0, locals := 22 }
def fn_X12_event (x1 : Int32) (x2 : Int32) (x3 : Int32) (M : SM) : Option (Int32 × SM) :=
  g_let (u1 M 39 0 15 0) fun M_1 =>
  g_let (fn_X12_within x1 0 7) fun r_2 =>
  if r_2 = 0 then
  (some ((-1), M_1))
  else
  (if g_in x1 8 then
    if (M_1 46 0 (x1.toNatClampNeg)) = 0 then
    (g_let (fn_X12_within x2 (M_1 40 0 683) 99999) fun r_7 =>
      if r_7 = 0 then
      (some ((-1), M_1))
      else
      (if (M_1 39 0 10) = 32 then
        (some ((-1), M_1))
        else
        (if g_in (M_1 39 0 10) 32 then
          g_let (u1 M_1 47 0 ((M_1 39 0 10).toNatClampNeg) x2) fun M_12 =>
          if g_in (M_12 39 0 10) 32 then
          g_let (u1 M_12 48 0 ((M_12 39 0 10).toNatClampNeg) x1) fun M_14 =>
          if x3 = 0 then
          (if g_in (M_14 39 0 10) 32 then
            g_let (u1 M_14 49 0 ((M_14 39 0 10).toNatClampNeg) 0) fun M_17 =>
            g_let (u1 M_17 39 0 10 ((M_17 39 0 10) + 1)) fun M_18 =>
            some ((M_18 39 0 10), M_18)
            else none)
          else
          (if g_in (M_14 39 0 10) 32 then
            g_let (u1 M_14 49 0 ((M_14 39 0 10).toNatClampNeg) 1) fun M_20 =>
            g_let (u1 M_20 39 0 10 ((M_20 39 0 10) + 1)) fun M_21 =>
            some ((M_21 39 0 10), M_21)
            else none)
          else none
          else none)))
    else
    (some ((-1), M_1))
    else none)
set_option maxRecDepth 100000 in
set_option maxHeartbeats 4000000 in
theorem wk_X12_event {p : Program} {l : Launch} {e : Env} {s : State} {m : MethodId} {args : Array Value} {below : List Frame} {meth : Method} {c : Code} {G : GP} {X : SM} {τ : SL} (C0 : g_mc p s m args meth c RX12 cX12_event (some .int) 4 G) {r0 : Int32} {M0 : SM} (x1 : Int32) (x2 : Int32) (x3 : Int32) (M : SM) (hf : fn_X12_event x1 x2 x3 M = some (r0, M0)) {H : Heap} {locs : List Loc} (hP : va_P G.1 g_cl (wd G (cb X M) τ) H) (hS : va_S (g_A G) s.heap H locs) {ls : Array Slot} (hl : lv_has ls 4 [(0, .ref (G.2.1 39 0)), (1, .int x1), (2, .int x2), (3, .int x3)]) : W p l e rm_X12_event s m args below meth c H locs 0 0 (MQ below (va_Qi (fun r u => r = r0 ∧ u = (X, M0, τ)) (g_pw G) (g_A G)) args s 0 0 (g_A G)) (F0 m 0 ls []) := by
  obtain ⟨hx, hb, hr, hml, hown, hts, hlocks, hC⟩ := id C0
  unfold fn_X12_event at hf
  refine lv_aload_n hx hb dX12_event_0 rfl (lv_at hl 0 rfl) ?_
  refine lv_iconst (v := 0) hx hb dX12_event_1 (by decide) ?_
  obtain ⟨M_1, eM_1, hf⟩ := g_letE hf
  refine pt_39_15 hx hb hts hown hC hP hS Nat.zero_lt_one q8_18 dX12_event_2 (fun H locs hP hS => ?_)
  rw [eM_1] at hP
  refine lv_iload_n hx hb dX12_event_5 rfl (lv_at hl 1 rfl) ?_
  refine lv_iconst (v := 0) hx hb dX12_event_6 (by decide) ?_
  refine lv_bipush (v := 7) hx hb dX12_event_7 (by decide) ?_
  obtain ⟨r_2, hc_3, hf⟩ := g_letE hf
  refine x_calli (v := (X, M_1, τ)) (va_runS (As := [.int x1, .int 0, .int 7]) (rest := []) ⟨hx, hb, hml, hown, hts⟩ (ct_X12_within l G X M_1 τ x1 0 7 hc_3) (cwS 3 hts gd_X12_76 rfl rfl rfl hd_X12_within ⟨Nat.le_of_ble_eq_true rfl, Nat.le_of_ble_eq_true rfl⟩) (x_pre (u := (X, M_1, τ)) hC hS hP) rfl rfl hl.1 rfl (lv_room (Nat.le_of_ble_eq_true rfl)) dX12_event_9 ⟨Nat.zero_le _, Nat.zero_le _⟩) hS (fun H locs hP hS => ?_)
  refine lv_if_eq (tgt := 50) hx hb dX12_event_12 (by decide) (fun hc_4 => ?_) (fun hc_4 => ?_)
  · have hf := g_pos hf hc_4
    refine lv_iconst (v := (-1)) hx hb dX12_event_50 (by decide) ?_
    cases hf
    exact x_iret hx hb hlocks hC hP hS hr dX12_event_51
  · have hf := g_neg hf hc_4
    refine lv_aload_n hx hb dX12_event_15 rfl (lv_at hl 0 rfl) ?_
    refine gt_39_6 hx hb hts hown hC hP Nat.zero_lt_one q7_0 dX12_event_16 ?_
    refine lv_iload_n hx hb dX12_event_19 rfl (lv_at hl 1 rfl) ?_
    obtain ⟨hg_5, hf⟩ := g_gd hf
    refine xildM (k := 46) (n := 8) hx hb hC hP (fun _ _ => rfl) rfl Nat.zero_lt_one hg_5 dX12_event_20 ?_
    refine lv_if_ne (tgt := 50) hx hb dX12_event_21 (by decide) (fun hc_6 => ?_) (fun hc_6 => ?_)
    · have hf := g_neg hf hc_6
      refine lv_iconst (v := (-1)) hx hb dX12_event_50 (by decide) ?_
      cases hf
      exact x_iret hx hb hlocks hC hP hS hr dX12_event_51
    · have hf := g_pos hf hc_6
      refine lv_iload_n hx hb dX12_event_24 rfl (lv_at hl 2 rfl) ?_
      refine lv_aload_n hx hb dX12_event_25 rfl (lv_at hl 0 rfl) ?_
      refine gt_39_0 hx hb hts hown hC hP Nat.zero_lt_one q6_17 dX12_event_26 ?_
      refine lv_sipush (v := 683) hx hb dX12_event_29 (by decide) ?_
      refine xildM (k := 40) (n := 693) hx hb hC hP (fun _ _ => rfl) rfl Nat.zero_lt_one (by decide) dX12_event_32 ?_
      refine lv_topE (show M_1 40 0 (Int32.toNatClampNeg 683) = M_1 40 0 683 from rfl) ?_
      refine lv_ldc (v := 99999) hx hb hown (hts _ q13_3) dX12_event_33 ?_
      obtain ⟨r_7, hc_8, hf⟩ := g_letE hf
      refine x_calli (v := (X, M_1, τ)) (va_runS (As := [.int x2, .int (M_1 40 0 683), .int 99999]) (rest := []) ⟨hx, hb, hml, hown, hts⟩ (ct_X12_within l G X M_1 τ x2 (M_1 40 0 683) 99999 hc_8) (cwS 3 hts gd_X12_76 rfl rfl rfl hd_X12_within ⟨Nat.le_of_ble_eq_true rfl, Nat.le_of_ble_eq_true rfl⟩) (x_pre (u := (X, M_1, τ)) hC hS hP) rfl rfl hl.1 rfl (lv_room (Nat.le_of_ble_eq_true rfl)) dX12_event_35 ⟨Nat.zero_le _, Nat.zero_le _⟩) hS (fun H locs hP hS => ?_)
      refine lv_if_eq (tgt := 50) hx hb dX12_event_38 (by decide) (fun hc_9 => ?_) (fun hc_9 => ?_)
      · have hf := g_pos hf hc_9
        refine lv_iconst (v := (-1)) hx hb dX12_event_50 (by decide) ?_
        cases hf
        exact x_iret hx hb hlocks hC hP hS hr dX12_event_51
      · have hf := g_neg hf hc_9
        refine lv_aload_n hx hb dX12_event_41 rfl (lv_at hl 0 rfl) ?_
        refine gt_39_10 hx hb hts hown hC hP Nat.zero_lt_one q13_4 dX12_event_42 ?_
        refine lv_bipush (v := 32) hx hb dX12_event_45 (by decide) ?_
        refine lv_icmp_ne (tgt := 52) hx hb dX12_event_47 (by decide) (fun hc_10 => ?_) (fun hc_10 => ?_)
        · have hf := g_neg hf hc_10
          refine lv_aload_n hx hb dX12_event_52 rfl (lv_at hl 0 rfl) ?_
          refine gt_39_7 hx hb hts hown hC hP Nat.zero_lt_one q7_1 dX12_event_53 ?_
          refine lv_aload_n hx hb dX12_event_56 rfl (lv_at hl 0 rfl) ?_
          refine gt_39_10 hx hb hts hown hC hP Nat.zero_lt_one q13_4 dX12_event_57 ?_
          refine lv_iload_n hx hb dX12_event_60 rfl (lv_at hl 2 rfl) ?_
          obtain ⟨hg_11, hf⟩ := g_gd hf
          obtain ⟨M_12, eM_12, hf⟩ := g_letE hf
          refine xistM (k := 47) (n := 32) hx hb hC hP hS (fun _ _ => rfl) rfl Nat.zero_lt_one hg_11 dX12_event_61 (fun H locs hP hS => ?_)
          rw [eM_12] at hP
          refine lv_aload_n hx hb dX12_event_62 rfl (lv_at hl 0 rfl) ?_
          refine gt_39_8 hx hb hts hown hC hP Nat.zero_lt_one q7_2 dX12_event_63 ?_
          refine lv_aload_n hx hb dX12_event_66 rfl (lv_at hl 0 rfl) ?_
          refine gt_39_10 hx hb hts hown hC hP Nat.zero_lt_one q13_4 dX12_event_67 ?_
          refine lv_iload_n hx hb dX12_event_70 rfl (lv_at hl 1 rfl) ?_
          obtain ⟨hg_13, hf⟩ := g_gd hf
          obtain ⟨M_14, eM_14, hf⟩ := g_letE hf
          refine xistM (k := 48) (n := 32) hx hb hC hP hS (fun _ _ => rfl) rfl Nat.zero_lt_one hg_13 dX12_event_71 (fun H locs hP hS => ?_)
          rw [eM_14] at hP
          refine lv_aload_n hx hb dX12_event_72 rfl (lv_at hl 0 rfl) ?_
          refine gt_39_9 hx hb hts hown hC hP Nat.zero_lt_one q7_3 dX12_event_73 ?_
          refine lv_aload_n hx hb dX12_event_76 rfl (lv_at hl 0 rfl) ?_
          refine gt_39_10 hx hb hts hown hC hP Nat.zero_lt_one q13_4 dX12_event_77 ?_
          refine lv_iload_n hx hb dX12_event_80 rfl (lv_at hl 3 rfl) ?_
          refine lv_if_eq (tgt := 88) hx hb dX12_event_81 (by decide) (fun hc_15 => ?_) (fun hc_15 => ?_)
          · have hf := g_pos hf hc_15
            refine lv_iconst (v := 0) hx hb dX12_event_88 (by decide) ?_
            obtain ⟨hg_16, hf⟩ := g_gd hf
            obtain ⟨M_17, eM_17, hf⟩ := g_letE hf
            refine xistM (k := 49) (n := 32) hx hb hC hP hS (fun _ _ => rfl) rfl Nat.zero_lt_one hg_16 dX12_event_89 (fun H locs hP hS => ?_)
            rw [eM_17] at hP
            refine lv_aload_n hx hb dX12_event_90 rfl (lv_at hl 0 rfl) ?_
            refine lv_dup hx hb dX12_event_91 rfl ?_
            refine gt_39_10 hx hb hts hown hC hP Nat.zero_lt_one q13_4 dX12_event_92 ?_
            refine lv_iconst (v := 1) hx hb dX12_event_95 (by decide) ?_
            refine lv_iadd hx hb dX12_event_96 ?_
            obtain ⟨M_18, eM_18, hf⟩ := g_letE hf
            refine pt_39_10 hx hb hts hown hC hP hS Nat.zero_lt_one q13_4 dX12_event_97 (fun H locs hP hS => ?_)
            rw [eM_18] at hP
            refine lv_aload_n hx hb dX12_event_100 rfl (lv_at hl 0 rfl) ?_
            refine gt_39_10 hx hb hts hown hC hP Nat.zero_lt_one q13_4 dX12_event_101 ?_
            cases hf
            exact x_iret hx hb hlocks hC hP hS hr dX12_event_104
          · have hf := g_neg hf hc_15
            refine lv_iconst (v := 1) hx hb dX12_event_84 (by decide) ?_
            refine lv_goto (tgt := 89) hx hb dX12_event_85 (by decide) ?_
            obtain ⟨hg_19, hf⟩ := g_gd hf
            obtain ⟨M_20, eM_20, hf⟩ := g_letE hf
            refine xistM (k := 49) (n := 32) hx hb hC hP hS (fun _ _ => rfl) rfl Nat.zero_lt_one hg_19 dX12_event_89 (fun H locs hP hS => ?_)
            rw [eM_20] at hP
            refine lv_aload_n hx hb dX12_event_90 rfl (lv_at hl 0 rfl) ?_
            refine lv_dup hx hb dX12_event_91 rfl ?_
            refine gt_39_10 hx hb hts hown hC hP Nat.zero_lt_one q13_4 dX12_event_92 ?_
            refine lv_iconst (v := 1) hx hb dX12_event_95 (by decide) ?_
            refine lv_iadd hx hb dX12_event_96 ?_
            obtain ⟨M_21, eM_21, hf⟩ := g_letE hf
            refine pt_39_10 hx hb hts hown hC hP hS Nat.zero_lt_one q13_4 dX12_event_97 (fun H locs hP hS => ?_)
            rw [eM_21] at hP
            refine lv_aload_n hx hb dX12_event_100 rfl (lv_at hl 0 rfl) ?_
            refine gt_39_10 hx hb hts hown hC hP Nat.zero_lt_one q13_4 dX12_event_101 ?_
            cases hf
            exact x_iret hx hb hlocks hC hP hS hr dX12_event_104
        · have hf := g_pos hf hc_10
          refine lv_iconst (v := (-1)) hx hb dX12_event_50 (by decide) ?_
          cases hf
          exact x_iret hx hb hlocks hC hP hS hr dX12_event_51
set_option maxRecDepth 100000 in
set_option maxHeartbeats 4000000 in
theorem ct_X12_event (l : Launch) (G : GP) (X M : SM) (τ : SL) (x1 : Int32) (x2 : Int32) (x3 : Int32) {r0 : Int32} {M0 : SM} (hf : fn_X12_event x1 x2 x3 M = some (r0, M0)) : Met l yX12_event (wz yX12_event cX12_event 4 (some .int)) rm_X12_event (va_Pc [.ref (G.2.1 39 0), .int x1, .int x2, .int x3] (g_pw G (X, M, τ))) (va_Qi (fun r u => r = r0 ∧ u = (X, M0, τ)) (g_pw G) (g_A G)) 0 0 (g_A G) := by
  refine Met.ofW (cc := cX12_event) (maxL := 4) (ret := (some .int)) (by decide +kernel) rfl ?_
  intro p e s m args below meth c s₁ B hml hv
  obtain ⟨rfl, hC, hP⟩ := hv
  have C0 : g_mc p s m _ meth c RX12 cX12_event (some .int) 4 G := ⟨B.exec, B.bytes, B.returns, hml, findClass_of_methodNamed B.named, fun w h => atoms_spec (ws := wz yX12_event cX12_event 4 (some .int)) B.pre w (List.mem_cons_of_mem _ h), B.notSynchronized, hC⟩
  have hl := lv_entry ([.ref (G.2.1 39 0), .int x1, .int x2, .int x3]) (n := 4) (Nat.le_of_ble_eq_true rfl)
  rw [lg_entry_eq]
  generalize (lg_sl ([.ref (G.2.1 39 0), .int x1, .int x2, .int x3]) ++ List.replicate (4 - (lg_sl ([.ref (G.2.1 39 0), .int x1, .int x2, .int x3])).length) Slot.unset).toArray = ls at hl ⊢
  exact wk_X12_event C0  x1 x2 x3 M hf hP va_S.rf hl
abbrev rm_X12_isAsked : Room := { frames := 0, cells := 0, slots := 0, locals := 0 }
def wb_X12_isAsked_2 (k2 : Int32 → SM → Option (Int32)) (x1 : Int32) (M : SM) : Option (Int32) :=
  if 6 ≤ x1 then
  (some 0)
  else
  (if g_in x1 6 then
    if (M 52 0 (x1.toNatClampNeg)) ≤ 0 then
    (g_let (x1 + 1) fun x1_4 =>
      k2 x1_4 M)
    else
    (some 1)
    else none)
set_option maxRecDepth 100000 in
set_option maxHeartbeats 4000000 in
theorem bk_X12_isAsked_2 {p : Program} {l : Launch} {e : Env} {s : State} {m : MethodId} {args : Array Value} {below : List Frame} {meth : Method} {c : Code} {G : GP} {X : SM} {τ : SL} (C0 : g_mc p s m args meth c RX12 cX12_isAsked (some .boolean) 2 G) {r0 : Int32} (k2 : Int32 → SM → Option (Int32)) (hk2 : ∀ (x1 : Int32) (M : SM), k2 x1 M = some r0 → ∀ {H : Heap} {locs : List Loc}, va_P G.1 g_cl (wd G (cb X M) τ) H → va_S (g_A G) s.heap H locs → ∀ {ls : Array Slot}, lv_has ls 2 [(0, .ref (G.2.1 39 0)), (1, .int x1)] → W p l e rm_X12_isAsked s m args below meth c H locs 0 0 (MQ below (va_Qi (fun r u => r = r0 ∧ u = (X, M, τ)) (g_pw G) (g_A G)) args s 0 0 (g_A G)) (F0 m 2 ls [])) (x1 : Int32) (M : SM) (hf : wb_X12_isAsked_2 k2 x1 M = some r0) {H : Heap} {locs : List Loc} (hP : va_P G.1 g_cl (wd G (cb X M) τ) H) (hS : va_S (g_A G) s.heap H locs) {ls : Array Slot} (hl : lv_has ls 2 [(0, .ref (G.2.1 39 0)), (1, .int x1)]) : W p l e rm_X12_isAsked s m args below meth c H locs 0 0 (MQ below (va_Qi (fun r u => r = r0 ∧ u = (X, M, τ)) (g_pw G) (g_A G)) args s 0 0 (g_A G)) (F0 m 2 ls []) := by
  obtain ⟨hx, hb, hr, hml, hown, hts, hlocks, hC⟩ := id C0
  unfold wb_X12_isAsked_2 at hf
  refine lv_iload_n hx hb dX12_isAsked_2 rfl (lv_at hl 1 rfl) ?_
  refine lv_bipush (v := 6) hx hb dX12_isAsked_3 (by decide) ?_
  refine lv_icmp_ge (tgt := 25) hx hb dX12_isAsked_5 (by decide) (fun hc_1 => ?_) (fun hc_1 => ?_)
  · have hf := g_pos hf hc_1
    refine lv_iconst (v := 0) hx hb dX12_isAsked_25 (by decide) ?_
    cases hf
    exact x_zret hx hb hlocks hC hP hS hr (Or.inl rfl) dX12_isAsked_26
  · have hf := g_neg hf hc_1
    refine lv_aload_n hx hb dX12_isAsked_8 rfl (lv_at hl 0 rfl) ?_
    refine gt_39_14 hx hb hts hown hC hP Nat.zero_lt_one q7_7 dX12_isAsked_9 ?_
    refine lv_iload_n hx hb dX12_isAsked_12 rfl (lv_at hl 1 rfl) ?_
    obtain ⟨hg_2, hf⟩ := g_gd hf
    refine xildM (k := 52) (n := 6) hx hb hC hP (fun _ _ => rfl) rfl Nat.zero_lt_one hg_2 dX12_isAsked_13 ?_
    refine lv_if_le (tgt := 19) hx hb dX12_isAsked_14 (by decide) (fun hc_3 => ?_) (fun hc_3 => ?_)
    · have hf := g_pos hf hc_3
      obtain ⟨x1_4, ex1_4, hf⟩ := g_letE hf
      refine lv_iinc (v := x1_4) (lv' := [(1, .int x1_4), (0, .ref (G.2.1 39 0))]) hx hb dX12_isAsked_19 hl (k := 1) rfl (by rw [← ex1_4]; rfl) (by decide) rfl (fun ls hl => ?_)
      refine lv_goto (tgt := 2) hx hb dX12_isAsked_22 (by decide) ?_
      exact hk2 x1_4 M hf hP hS (lv_sub hl [1, 0] rfl)
    · have hf := g_neg hf hc_3
      refine lv_iconst (v := 1) hx hb dX12_isAsked_17 (by decide) ?_
      cases hf
      exact x_zret hx hb hlocks hC hP hS hr (Or.inr rfl) dX12_isAsked_18
def wl_X12_isAsked_2 (n : Nat) (x1 : Int32) (M : SM) : Option (Int32) := g_loop (α := Int32 × SM) (fun k a => wb_X12_isAsked_2 (fun x1 M => k (x1, M)) a.1 a.2) n (x1, M)
set_option maxRecDepth 100000 in
set_option maxHeartbeats 4000000 in
theorem lp_X12_isAsked_2 {p : Program} {l : Launch} {e : Env} {s : State} {m : MethodId} {args : Array Value} {below : List Frame} {meth : Method} {c : Code} {G : GP} {X : SM} {τ : SL} (C0 : g_mc p s m args meth c RX12 cX12_isAsked (some .boolean) 2 G) {r0 : Int32} (n : Nat) : ∀ (x1 : Int32) (M : SM), wl_X12_isAsked_2 n x1 M = some r0 → ∀ {H : Heap} {locs : List Loc}, va_P G.1 g_cl (wd G (cb X M) τ) H → va_S (g_A G) s.heap H locs → ∀ {ls : Array Slot}, lv_has ls 2 [(0, .ref (G.2.1 39 0)), (1, .int x1)] → W p l e rm_X12_isAsked s m args below meth c H locs 0 0 (MQ below (va_Qi (fun r u => r = r0 ∧ u = (X, M, τ)) (g_pw G) (g_A G)) args s 0 0 (g_A G)) (F0 m 2 ls []) := by
  induction n with
  | zero =>
    intro x1 M hf
    have hf : (none : Option (Int32)) = _ := hf
    cases hf
  | succ n ih =>
    intro x1 M hf H locs hP hS ls hl
    exact bk_X12_isAsked_2 C0   (fun x1 M => wl_X12_isAsked_2   n x1 M) ih x1 M hf hP hS hl
def fn_X12_isAsked (M : SM) : Option (Int32) :=
  wl_X12_isAsked_2 1000 0 M
set_option maxRecDepth 100000 in
set_option maxHeartbeats 4000000 in
theorem wk_X12_isAsked {p : Program} {l : Launch} {e : Env} {s : State} {m : MethodId} {args : Array Value} {below : List Frame} {meth : Method} {c : Code} {G : GP} {X : SM} {τ : SL} (C0 : g_mc p s m args meth c RX12 cX12_isAsked (some .boolean) 2 G) {r0 : Int32} (M : SM) (hf : fn_X12_isAsked M = some r0) {H : Heap} {locs : List Loc} (hP : va_P G.1 g_cl (wd G (cb X M) τ) H) (hS : va_S (g_A G) s.heap H locs) {ls : Array Slot} (hl : lv_has ls 2 [(0, .ref (G.2.1 39 0))]) : W p l e rm_X12_isAsked s m args below meth c H locs 0 0 (MQ below (va_Qi (fun r u => r = r0 ∧ u = (X, M, τ)) (g_pw G) (g_A G)) args s 0 0 (g_A G)) (F0 m 0 ls []) := by
  obtain ⟨hx, hb, hr, hml, hown, hts, hlocks, hC⟩ := id C0
  unfold fn_X12_isAsked at hf
  refine lv_iconst (v := 0) hx hb dX12_isAsked_0 (by decide) ?_
  refine lv_istore_n (lv' := [(1, .int 0), (0, .ref (G.2.1 39 0))]) hx hb dX12_isAsked_1 rfl hl (by decide) rfl (fun ls hl => ?_)
  exact lp_X12_isAsked_2 C0 1000 0 M hf hP hS (lv_sub hl [1, 0] rfl)
set_option maxRecDepth 100000 in
set_option maxHeartbeats 4000000 in
theorem ct_X12_isAsked (l : Launch) (G : GP) (X M : SM) (τ : SL) {r0 : Int32} (hf : fn_X12_isAsked M = some r0) : Met l yX12_isAsked (wz yX12_isAsked cX12_isAsked 2 (some .boolean)) rm_X12_isAsked (va_Pc [.ref (G.2.1 39 0)] (g_pw G (X, M, τ))) (va_Qi (fun r u => r = r0 ∧ u = (X, M, τ)) (g_pw G) (g_A G)) 0 0 (g_A G) := by
  refine Met.ofW (cc := cX12_isAsked) (maxL := 2) (ret := (some .boolean)) (by decide +kernel) rfl ?_
  intro p e s m args below meth c s₁ B hml hv
  obtain ⟨rfl, hC, hP⟩ := hv
  have C0 : g_mc p s m _ meth c RX12 cX12_isAsked (some .boolean) 2 G := ⟨B.exec, B.bytes, B.returns, hml, findClass_of_methodNamed B.named, fun w h => atoms_spec (ws := wz yX12_isAsked cX12_isAsked 2 (some .boolean)) B.pre w (List.mem_cons_of_mem _ h), B.notSynchronized, hC⟩
  have hl := lv_entry ([.ref (G.2.1 39 0)]) (n := 2) (Nat.le_of_ble_eq_true rfl)
  rw [lg_entry_eq]
  generalize (lg_sl ([.ref (G.2.1 39 0)]) ++ List.replicate (2 - (lg_sl ([.ref (G.2.1 39 0)])).length) Slot.unset).toArray = ls at hl ⊢
  exact wk_X12_isAsked C0  M hf hP va_S.rf hl
abbrev rm_X12_isTooMuch : Room := { frames := 0, cells := 0, slots := 0, locals := 0 }
def wb_X12_isTooMuch_4 (k4 : Int32 → Int32 → SM → Option (Int32)) (x1 : Int32) (x2 : Int32) (M : SM) : Option (Int32) :=
  if 6 ≤ x2 then
  (if x1 ≤ 720720 then
    (some 0)
    else
    (some 1))
  else
  (if g_in x2 6 then
    if (M 52 0 (x2.toNatClampNeg)) ≤ 0 then
    (g_let (x2 + 1) fun x2_5 =>
      k4 x1 x2_5 M)
    else
    (if g_in x2 6 then
      if ¬ (M 52 0 (x2.toNatClampNeg)) = 0 then
      g_let ((x1 + (720720 / (M 52 0 (x2.toNatClampNeg))))) fun x1_8 =>
      g_let (x2 + 1) fun x2_9 =>
      k4 x1_8 x2_9 M
      else none
      else none)
    else none)
set_option maxRecDepth 100000 in
set_option maxHeartbeats 4000000 in
theorem bk_X12_isTooMuch_4 {p : Program} {l : Launch} {e : Env} {s : State} {m : MethodId} {args : Array Value} {below : List Frame} {meth : Method} {c : Code} {G : GP} {X : SM} {τ : SL} (C0 : g_mc p s m args meth c RX12 cX12_isTooMuch (some .boolean) 3 G) {r0 : Int32} (k4 : Int32 → Int32 → SM → Option (Int32)) (hk4 : ∀ (x1 : Int32) (x2 : Int32) (M : SM), k4 x1 x2 M = some r0 → ∀ {H : Heap} {locs : List Loc}, va_P G.1 g_cl (wd G (cb X M) τ) H → va_S (g_A G) s.heap H locs → ∀ {ls : Array Slot}, lv_has ls 3 [(0, .ref (G.2.1 39 0)), (1, .int x1), (2, .int x2)] → W p l e rm_X12_isTooMuch s m args below meth c H locs 0 0 (MQ below (va_Qi (fun r u => r = r0 ∧ u = (X, M, τ)) (g_pw G) (g_A G)) args s 0 0 (g_A G)) (F0 m 4 ls [])) (x1 : Int32) (x2 : Int32) (M : SM) (hf : wb_X12_isTooMuch_4 k4 x1 x2 M = some r0) {H : Heap} {locs : List Loc} (hP : va_P G.1 g_cl (wd G (cb X M) τ) H) (hS : va_S (g_A G) s.heap H locs) {ls : Array Slot} (hl : lv_has ls 3 [(0, .ref (G.2.1 39 0)), (1, .int x1), (2, .int x2)]) : W p l e rm_X12_isTooMuch s m args below meth c H locs 0 0 (MQ below (va_Qi (fun r u => r = r0 ∧ u = (X, M, τ)) (g_pw G) (g_A G)) args s 0 0 (g_A G)) (F0 m 4 ls []) := by
  obtain ⟨hx, hb, hr, hml, hown, hts, hlocks, hC⟩ := id C0
  unfold wb_X12_isTooMuch_4 at hf
  refine lv_iload_n hx hb dX12_isTooMuch_4 rfl (lv_at hl 2 rfl) ?_
  refine lv_bipush (v := 6) hx hb dX12_isTooMuch_5 (by decide) ?_
  refine lv_icmp_ge (tgt := 37) hx hb dX12_isTooMuch_7 (by decide) (fun hc_1 => ?_) (fun hc_1 => ?_)
  · have hf := g_pos hf hc_1
    refine lv_iload_n hx hb dX12_isTooMuch_37 rfl (lv_at hl 1 rfl) ?_
    refine lv_ldc (v := 720720) hx hb hown (hts _ q16_21) dX12_isTooMuch_38 ?_
    refine lv_icmp_le (tgt := 47) hx hb dX12_isTooMuch_40 (by decide) (fun hc_2 => ?_) (fun hc_2 => ?_)
    · have hf := g_pos hf hc_2
      refine lv_iconst (v := 0) hx hb dX12_isTooMuch_47 (by decide) ?_
      cases hf
      exact x_zret hx hb hlocks hC hP hS hr (Or.inl rfl) dX12_isTooMuch_48
    · have hf := g_neg hf hc_2
      refine lv_iconst (v := 1) hx hb dX12_isTooMuch_43 (by decide) ?_
      refine lv_goto (tgt := 48) hx hb dX12_isTooMuch_44 (by decide) ?_
      cases hf
      exact x_zret hx hb hlocks hC hP hS hr (Or.inr rfl) dX12_isTooMuch_48
  · have hf := g_neg hf hc_1
    refine lv_aload_n hx hb dX12_isTooMuch_10 rfl (lv_at hl 0 rfl) ?_
    refine gt_39_14 hx hb hts hown hC hP Nat.zero_lt_one q7_7 dX12_isTooMuch_11 ?_
    refine lv_iload_n hx hb dX12_isTooMuch_14 rfl (lv_at hl 2 rfl) ?_
    obtain ⟨hg_3, hf⟩ := g_gd hf
    refine xildM (k := 52) (n := 6) hx hb hC hP (fun _ _ => rfl) rfl Nat.zero_lt_one hg_3 dX12_isTooMuch_15 ?_
    refine lv_if_le (tgt := 31) hx hb dX12_isTooMuch_16 (by decide) (fun hc_4 => ?_) (fun hc_4 => ?_)
    · have hf := g_pos hf hc_4
      obtain ⟨x2_5, ex2_5, hf⟩ := g_letE hf
      refine lv_iinc (v := x2_5) (lv' := [(2, .int x2_5), (0, .ref (G.2.1 39 0)), (1, .int x1)]) hx hb dX12_isTooMuch_31 hl (k := 2) rfl (by rw [← ex2_5]; rfl) (by decide) rfl (fun ls hl => ?_)
      refine lv_goto (tgt := 4) hx hb dX12_isTooMuch_34 (by decide) ?_
      exact hk4 x1 x2_5 M hf hP hS (lv_sub hl [1, 2, 0] rfl)
    · have hf := g_neg hf hc_4
      refine lv_iload_n hx hb dX12_isTooMuch_19 rfl (lv_at hl 1 rfl) ?_
      refine lv_ldc (v := 720720) hx hb hown (hts _ q16_21) dX12_isTooMuch_20 ?_
      refine lv_aload_n hx hb dX12_isTooMuch_22 rfl (lv_at hl 0 rfl) ?_
      refine gt_39_14 hx hb hts hown hC hP Nat.zero_lt_one q7_7 dX12_isTooMuch_23 ?_
      refine lv_iload_n hx hb dX12_isTooMuch_26 rfl (lv_at hl 2 rfl) ?_
      obtain ⟨hg_6, hf⟩ := g_gd hf
      refine xildM (k := 52) (n := 6) hx hb hC hP (fun _ _ => rfl) rfl Nat.zero_lt_one hg_6 dX12_isTooMuch_27 ?_
      obtain ⟨hg_7, hf⟩ := g_gd hf
      refine lv_idiv hx hb dX12_isTooMuch_28 hg_7 ?_
      refine lv_iadd hx hb dX12_isTooMuch_29 ?_
      obtain ⟨x1_8, ex1_8, hf⟩ := g_letE hf
      refine lv_topE ex1_8 ?_
      refine lv_istore_n (lv' := [(1, .int x1_8), (0, .ref (G.2.1 39 0)), (2, .int x2)]) hx hb dX12_isTooMuch_30 rfl hl (by decide) rfl (fun ls hl => ?_)
      obtain ⟨x2_9, ex2_9, hf⟩ := g_letE hf
      refine lv_iinc (v := x2_9) (lv' := [(2, .int x2_9), (1, .int x1_8), (0, .ref (G.2.1 39 0))]) hx hb dX12_isTooMuch_31 hl (k := 2) rfl (by rw [← ex2_9]; rfl) (by decide) rfl (fun ls hl => ?_)
      refine lv_goto (tgt := 4) hx hb dX12_isTooMuch_34 (by decide) ?_
      exact hk4 x1_8 x2_9 M hf hP hS (lv_sub hl [2, 1, 0] rfl)
def wl_X12_isTooMuch_4 (n : Nat) (x1 : Int32) (x2 : Int32) (M : SM) : Option (Int32) := g_loop (α := Int32 × Int32 × SM) (fun k a => wb_X12_isTooMuch_4 (fun x1 x2 M => k (x1, x2, M)) a.1 a.2.1 a.2.2) n (x1, x2, M)
set_option maxRecDepth 100000 in
set_option maxHeartbeats 4000000 in
theorem lp_X12_isTooMuch_4 {p : Program} {l : Launch} {e : Env} {s : State} {m : MethodId} {args : Array Value} {below : List Frame} {meth : Method} {c : Code} {G : GP} {X : SM} {τ : SL} (C0 : g_mc p s m args meth c RX12 cX12_isTooMuch (some .boolean) 3 G) {r0 : Int32} (n : Nat) : ∀ (x1 : Int32) (x2 : Int32) (M : SM), wl_X12_isTooMuch_4 n x1 x2 M = some r0 → ∀ {H : Heap} {locs : List Loc}, va_P G.1 g_cl (wd G (cb X M) τ) H → va_S (g_A G) s.heap H locs → ∀ {ls : Array Slot}, lv_has ls 3 [(0, .ref (G.2.1 39 0)), (1, .int x1), (2, .int x2)] → W p l e rm_X12_isTooMuch s m args below meth c H locs 0 0 (MQ below (va_Qi (fun r u => r = r0 ∧ u = (X, M, τ)) (g_pw G) (g_A G)) args s 0 0 (g_A G)) (F0 m 4 ls []) := by
  induction n with
  | zero =>
    intro x1 x2 M hf
    have hf : (none : Option (Int32)) = _ := hf
    cases hf
  | succ n ih =>
    intro x1 x2 M hf H locs hP hS ls hl
    exact bk_X12_isTooMuch_4 C0   (fun x1 x2 M => wl_X12_isTooMuch_4   n x1 x2 M) ih x1 x2 M hf hP hS hl
def fn_X12_isTooMuch (M : SM) : Option (Int32) :=
  wl_X12_isTooMuch_4 1000 0 0 M
set_option maxRecDepth 100000 in
set_option maxHeartbeats 4000000 in
theorem wk_X12_isTooMuch {p : Program} {l : Launch} {e : Env} {s : State} {m : MethodId} {args : Array Value} {below : List Frame} {meth : Method} {c : Code} {G : GP} {X : SM} {τ : SL} (C0 : g_mc p s m args meth c RX12 cX12_isTooMuch (some .boolean) 3 G) {r0 : Int32} (M : SM) (hf : fn_X12_isTooMuch M = some r0) {H : Heap} {locs : List Loc} (hP : va_P G.1 g_cl (wd G (cb X M) τ) H) (hS : va_S (g_A G) s.heap H locs) {ls : Array Slot} (hl : lv_has ls 3 [(0, .ref (G.2.1 39 0))]) : W p l e rm_X12_isTooMuch s m args below meth c H locs 0 0 (MQ below (va_Qi (fun r u => r = r0 ∧ u = (X, M, τ)) (g_pw G) (g_A G)) args s 0 0 (g_A G)) (F0 m 0 ls []) := by
  obtain ⟨hx, hb, hr, hml, hown, hts, hlocks, hC⟩ := id C0
  unfold fn_X12_isTooMuch at hf
  refine lv_iconst (v := 0) hx hb dX12_isTooMuch_0 (by decide) ?_
  refine lv_istore_n (lv' := [(1, .int 0), (0, .ref (G.2.1 39 0))]) hx hb dX12_isTooMuch_1 rfl hl (by decide) rfl (fun ls hl => ?_)
  refine lv_iconst (v := 0) hx hb dX12_isTooMuch_2 (by decide) ?_
  refine lv_istore_n (lv' := [(2, .int 0), (1, .int 0), (0, .ref (G.2.1 39 0))]) hx hb dX12_isTooMuch_3 rfl hl (by decide) rfl (fun ls hl => ?_)
  exact lp_X12_isTooMuch_4 C0 1000 0 0 M hf hP hS (lv_sub hl [2, 1, 0] rfl)
set_option maxRecDepth 100000 in
set_option maxHeartbeats 4000000 in
theorem ct_X12_isTooMuch (l : Launch) (G : GP) (X M : SM) (τ : SL) {r0 : Int32} (hf : fn_X12_isTooMuch M = some r0) : Met l yX12_isTooMuch (wz yX12_isTooMuch cX12_isTooMuch 3 (some .boolean)) rm_X12_isTooMuch (va_Pc [.ref (G.2.1 39 0)] (g_pw G (X, M, τ))) (va_Qi (fun r u => r = r0 ∧ u = (X, M, τ)) (g_pw G) (g_A G)) 0 0 (g_A G) := by
  refine Met.ofW (cc := cX12_isTooMuch) (maxL := 3) (ret := (some .boolean)) (by decide +kernel) rfl ?_
  intro p e s m args below meth c s₁ B hml hv
  obtain ⟨rfl, hC, hP⟩ := hv
  have C0 : g_mc p s m _ meth c RX12 cX12_isTooMuch (some .boolean) 3 G := ⟨B.exec, B.bytes, B.returns, hml, findClass_of_methodNamed B.named, fun w h => atoms_spec (ws := wz yX12_isTooMuch cX12_isTooMuch 3 (some .boolean)) B.pre w (List.mem_cons_of_mem _ h), B.notSynchronized, hC⟩
  have hl := lv_entry ([.ref (G.2.1 39 0)]) (n := 3) (Nat.le_of_ble_eq_true rfl)
  rw [lg_entry_eq]
  generalize (lg_sl ([.ref (G.2.1 39 0)]) ++ List.replicate (3 - (lg_sl ([.ref (G.2.1 39 0)])).length) Slot.unset).toArray = ls at hl ⊢
  exact wk_X12_isTooMuch C0  M hf hP va_S.rf hl
abbrev rm_X12_isAlike : Room := { frames := 0, cells := 0, slots := 0, locals := 0 }
def wb_X12_isAlike_2 (k2 : Int32 → Int32 → Int32 → SM → Option (Int32)) (x1 : Int32) (x2 : Int32) (x3 : Int32) (M : SM) : Option (Int32) :=
  if 6 ≤ x3 then
  (some 1)
  else
  (if g_in x3 6 then
    if (M 52 0 (x3.toNatClampNeg)) ≤ 0 then
    (g_let (x3 + 1) fun x3_4 =>
      k2 x1 x2 x3_4 M)
    else
    (if g_in ((6 * x1) + x3) 390 then
      if g_in ((6 * x2) + x3) 390 then
      if (M 54 0 (((6 * x1) + x3).toNatClampNeg)) = (M 54 0 (((6 * x2) + x3).toNatClampNeg)) then
      (g_let (x3 + 1) fun x3_8 =>
        k2 x1 x2 x3_8 M)
      else
      (some 0)
      else none
      else none)
    else none)
set_option maxRecDepth 100000 in
set_option maxHeartbeats 4000000 in
theorem bk_X12_isAlike_2 {p : Program} {l : Launch} {e : Env} {s : State} {m : MethodId} {args : Array Value} {below : List Frame} {meth : Method} {c : Code} {G : GP} {X : SM} {τ : SL} (C0 : g_mc p s m args meth c RX12 cX12_isAlike (some .boolean) 4 G) {r0 : Int32} (k2 : Int32 → Int32 → Int32 → SM → Option (Int32)) (hk2 : ∀ (x1 : Int32) (x2 : Int32) (x3 : Int32) (M : SM), k2 x1 x2 x3 M = some r0 → ∀ {H : Heap} {locs : List Loc}, va_P G.1 g_cl (wd G (cb X M) τ) H → va_S (g_A G) s.heap H locs → ∀ {ls : Array Slot}, lv_has ls 4 [(0, .ref (G.2.1 39 0)), (1, .int x1), (2, .int x2), (3, .int x3)] → W p l e rm_X12_isAlike s m args below meth c H locs 0 0 (MQ below (va_Qi (fun r u => r = r0 ∧ u = (X, M, τ)) (g_pw G) (g_A G)) args s 0 0 (g_A G)) (F0 m 2 ls [])) (x1 : Int32) (x2 : Int32) (x3 : Int32) (M : SM) (hf : wb_X12_isAlike_2 k2 x1 x2 x3 M = some r0) {H : Heap} {locs : List Loc} (hP : va_P G.1 g_cl (wd G (cb X M) τ) H) (hS : va_S (g_A G) s.heap H locs) {ls : Array Slot} (hl : lv_has ls 4 [(0, .ref (G.2.1 39 0)), (1, .int x1), (2, .int x2), (3, .int x3)]) : W p l e rm_X12_isAlike s m args below meth c H locs 0 0 (MQ below (va_Qi (fun r u => r = r0 ∧ u = (X, M, τ)) (g_pw G) (g_A G)) args s 0 0 (g_A G)) (F0 m 2 ls []) := by
  obtain ⟨hx, hb, hr, hml, hown, hts, hlocks, hC⟩ := id C0
  unfold wb_X12_isAlike_2 at hf
  refine lv_iload_n hx hb dX12_isAlike_2 rfl (lv_at hl 3 rfl) ?_
  refine lv_bipush (v := 6) hx hb dX12_isAlike_3 (by decide) ?_
  refine lv_icmp_ge (tgt := 50) hx hb dX12_isAlike_5 (by decide) (fun hc_1 => ?_) (fun hc_1 => ?_)
  · have hf := g_pos hf hc_1
    refine lv_iconst (v := 1) hx hb dX12_isAlike_50 (by decide) ?_
    cases hf
    exact x_zret hx hb hlocks hC hP hS hr (Or.inr rfl) dX12_isAlike_51
  · have hf := g_neg hf hc_1
    refine lv_aload_n hx hb dX12_isAlike_8 rfl (lv_at hl 0 rfl) ?_
    refine gt_39_14 hx hb hts hown hC hP Nat.zero_lt_one q7_7 dX12_isAlike_9 ?_
    refine lv_iload_n hx hb dX12_isAlike_12 rfl (lv_at hl 3 rfl) ?_
    obtain ⟨hg_2, hf⟩ := g_gd hf
    refine xildM (k := 52) (n := 6) hx hb hC hP (fun _ _ => rfl) rfl Nat.zero_lt_one hg_2 dX12_isAlike_13 ?_
    refine lv_if_le (tgt := 44) hx hb dX12_isAlike_14 (by decide) (fun hc_3 => ?_) (fun hc_3 => ?_)
    · have hf := g_pos hf hc_3
      obtain ⟨x3_4, ex3_4, hf⟩ := g_letE hf
      refine lv_iinc (v := x3_4) (lv' := [(3, .int x3_4), (0, .ref (G.2.1 39 0)), (1, .int x1), (2, .int x2)]) hx hb dX12_isAlike_44 hl (k := 3) rfl (by rw [← ex3_4]; rfl) (by decide) rfl (fun ls hl => ?_)
      refine lv_goto (tgt := 2) hx hb dX12_isAlike_47 (by decide) ?_
      exact hk2 x1 x2 x3_4 M hf hP hS (lv_sub hl [1, 2, 3, 0] rfl)
    · have hf := g_neg hf hc_3
      refine lv_aload_n hx hb dX12_isAlike_17 rfl (lv_at hl 0 rfl) ?_
      refine gt_39_17 hx hb hts hown hC hP Nat.zero_lt_one q7_9 dX12_isAlike_18 ?_
      refine lv_bipush (v := 6) hx hb dX12_isAlike_21 (by decide) ?_
      refine lv_iload_n hx hb dX12_isAlike_23 rfl (lv_at hl 1 rfl) ?_
      refine lv_imul hx hb dX12_isAlike_24 ?_
      refine lv_iload_n hx hb dX12_isAlike_25 rfl (lv_at hl 3 rfl) ?_
      refine lv_iadd hx hb dX12_isAlike_26 ?_
      obtain ⟨hg_5, hf⟩ := g_gd hf
      refine xildM (k := 54) (n := 390) hx hb hC hP (fun _ _ => rfl) rfl Nat.zero_lt_one hg_5 dX12_isAlike_27 ?_
      refine lv_aload_n hx hb dX12_isAlike_28 rfl (lv_at hl 0 rfl) ?_
      refine gt_39_17 hx hb hts hown hC hP Nat.zero_lt_one q7_9 dX12_isAlike_29 ?_
      refine lv_bipush (v := 6) hx hb dX12_isAlike_32 (by decide) ?_
      refine lv_iload_n hx hb dX12_isAlike_34 rfl (lv_at hl 2 rfl) ?_
      refine lv_imul hx hb dX12_isAlike_35 ?_
      refine lv_iload_n hx hb dX12_isAlike_36 rfl (lv_at hl 3 rfl) ?_
      refine lv_iadd hx hb dX12_isAlike_37 ?_
      obtain ⟨hg_6, hf⟩ := g_gd hf
      refine xildM (k := 54) (n := 390) hx hb hC hP (fun _ _ => rfl) rfl Nat.zero_lt_one hg_6 dX12_isAlike_38 ?_
      refine lv_icmp_eq (tgt := 44) hx hb dX12_isAlike_39 (by decide) (fun hc_7 => ?_) (fun hc_7 => ?_)
      · have hf := g_pos hf hc_7
        obtain ⟨x3_8, ex3_8, hf⟩ := g_letE hf
        refine lv_iinc (v := x3_8) (lv' := [(3, .int x3_8), (0, .ref (G.2.1 39 0)), (1, .int x1), (2, .int x2)]) hx hb dX12_isAlike_44 hl (k := 3) rfl (by rw [← ex3_8]; rfl) (by decide) rfl (fun ls hl => ?_)
        refine lv_goto (tgt := 2) hx hb dX12_isAlike_47 (by decide) ?_
        exact hk2 x1 x2 x3_8 M hf hP hS (lv_sub hl [1, 2, 3, 0] rfl)
      · have hf := g_neg hf hc_7
        refine lv_iconst (v := 0) hx hb dX12_isAlike_42 (by decide) ?_
        cases hf
        exact x_zret hx hb hlocks hC hP hS hr (Or.inl rfl) dX12_isAlike_43
def wl_X12_isAlike_2 (n : Nat) (x1 : Int32) (x2 : Int32) (x3 : Int32) (M : SM) : Option (Int32) := g_loop (α := Int32 × Int32 × Int32 × SM) (fun k a => wb_X12_isAlike_2 (fun x1 x2 x3 M => k (x1, x2, x3, M)) a.1 a.2.1 a.2.2.1 a.2.2.2) n (x1, x2, x3, M)
set_option maxRecDepth 100000 in
set_option maxHeartbeats 4000000 in
theorem lp_X12_isAlike_2 {p : Program} {l : Launch} {e : Env} {s : State} {m : MethodId} {args : Array Value} {below : List Frame} {meth : Method} {c : Code} {G : GP} {X : SM} {τ : SL} (C0 : g_mc p s m args meth c RX12 cX12_isAlike (some .boolean) 4 G) {r0 : Int32} (n : Nat) : ∀ (x1 : Int32) (x2 : Int32) (x3 : Int32) (M : SM), wl_X12_isAlike_2 n x1 x2 x3 M = some r0 → ∀ {H : Heap} {locs : List Loc}, va_P G.1 g_cl (wd G (cb X M) τ) H → va_S (g_A G) s.heap H locs → ∀ {ls : Array Slot}, lv_has ls 4 [(0, .ref (G.2.1 39 0)), (1, .int x1), (2, .int x2), (3, .int x3)] → W p l e rm_X12_isAlike s m args below meth c H locs 0 0 (MQ below (va_Qi (fun r u => r = r0 ∧ u = (X, M, τ)) (g_pw G) (g_A G)) args s 0 0 (g_A G)) (F0 m 2 ls []) := by
  induction n with
  | zero =>
    intro x1 x2 x3 M hf
    have hf : (none : Option (Int32)) = _ := hf
    cases hf
  | succ n ih =>
    intro x1 x2 x3 M hf H locs hP hS ls hl
    exact bk_X12_isAlike_2 C0   (fun x1 x2 x3 M => wl_X12_isAlike_2   n x1 x2 x3 M) ih x1 x2 x3 M hf hP hS hl
def fn_X12_isAlike (x1 : Int32) (x2 : Int32) (M : SM) : Option (Int32) :=
  wl_X12_isAlike_2 1000 x1 x2 0 M
set_option maxRecDepth 100000 in
set_option maxHeartbeats 4000000 in
theorem wk_X12_isAlike {p : Program} {l : Launch} {e : Env} {s : State} {m : MethodId} {args : Array Value} {below : List Frame} {meth : Method} {c : Code} {G : GP} {X : SM} {τ : SL} (C0 : g_mc p s m args meth c RX12 cX12_isAlike (some .boolean) 4 G) {r0 : Int32} (x1 : Int32) (x2 : Int32) (M : SM) (hf : fn_X12_isAlike x1 x2 M = some r0) {H : Heap} {locs : List Loc} (hP : va_P G.1 g_cl (wd G (cb X M) τ) H) (hS : va_S (g_A G) s.heap H locs) {ls : Array Slot} (hl : lv_has ls 4 [(0, .ref (G.2.1 39 0)), (1, .int x1), (2, .int x2)]) : W p l e rm_X12_isAlike s m args below meth c H locs 0 0 (MQ below (va_Qi (fun r u => r = r0 ∧ u = (X, M, τ)) (g_pw G) (g_A G)) args s 0 0 (g_A G)) (F0 m 0 ls []) := by
  obtain ⟨hx, hb, hr, hml, hown, hts, hlocks, hC⟩ := id C0
  unfold fn_X12_isAlike at hf
  refine lv_iconst (v := 0) hx hb dX12_isAlike_0 (by decide) ?_
  refine lv_istore_n (lv' := [(3, .int 0), (0, .ref (G.2.1 39 0)), (1, .int x1), (2, .int x2)]) hx hb dX12_isAlike_1 rfl hl (by decide) rfl (fun ls hl => ?_)
  exact lp_X12_isAlike_2 C0 1000 x1 x2 0 M hf hP hS (lv_sub hl [1, 2, 3, 0] rfl)
set_option maxRecDepth 100000 in
set_option maxHeartbeats 4000000 in
theorem ct_X12_isAlike (l : Launch) (G : GP) (X M : SM) (τ : SL) (x1 : Int32) (x2 : Int32) {r0 : Int32} (hf : fn_X12_isAlike x1 x2 M = some r0) : Met l yX12_isAlike (wz yX12_isAlike cX12_isAlike 4 (some .boolean)) rm_X12_isAlike (va_Pc [.ref (G.2.1 39 0), .int x1, .int x2] (g_pw G (X, M, τ))) (va_Qi (fun r u => r = r0 ∧ u = (X, M, τ)) (g_pw G) (g_A G)) 0 0 (g_A G) := by
  refine Met.ofW (cc := cX12_isAlike) (maxL := 4) (ret := (some .boolean)) (by decide +kernel) rfl ?_
  intro p e s m args below meth c s₁ B hml hv
  obtain ⟨rfl, hC, hP⟩ := hv
  have C0 : g_mc p s m _ meth c RX12 cX12_isAlike (some .boolean) 4 G := ⟨B.exec, B.bytes, B.returns, hml, findClass_of_methodNamed B.named, fun w h => atoms_spec (ws := wz yX12_isAlike cX12_isAlike 4 (some .boolean)) B.pre w (List.mem_cons_of_mem _ h), B.notSynchronized, hC⟩
  have hl := lv_entry ([.ref (G.2.1 39 0), .int x1, .int x2]) (n := 4) (Nat.le_of_ble_eq_true rfl)
  rw [lg_entry_eq]
  generalize (lg_sl ([.ref (G.2.1 39 0), .int x1, .int x2]) ++ List.replicate (4 - (lg_sl ([.ref (G.2.1 39 0), .int x1, .int x2])).length) Slot.unset).toArray = ls at hl ⊢
  exact wk_X12_isAlike C0  x1 x2 M hf hP va_S.rf hl
abbrev rm_X12_leastLimit : Room := { frames := 0, cells := 0, slots := 0, locals := 0 }
def wb_X12_leastLimit_4 (k4 : Int32 → Int32 → SM → Option (Int32)) (x1 : Int32) (x2 : Int32) (M : SM) : Option (Int32) :=
  if 6 ≤ x2 then
  (some x1)
  else
  (if g_in x2 6 then
    if (M 52 0 (x2.toNatClampNeg)) ≤ 0 then
    (g_let (x2 + 1) fun x2_4 =>
      k4 x1 x2_4 M)
    else
    (if x1 < 0 then
      (g_let (x2 + 1) fun x2_6 =>
        k4 x2 x2_6 M)
      else
      (if g_in x2 6 then
        if g_in x1 6 then
        if (M 53 0 (x1.toNatClampNeg)) ≤ (M 53 0 (x2.toNatClampNeg)) then
        (g_let (x2 + 1) fun x2_10 =>
          k4 x1 x2_10 M)
        else
        (g_let (x2 + 1) fun x2_11 =>
          k4 x2 x2_11 M)
        else none
        else none))
    else none)
set_option maxRecDepth 100000 in
set_option maxHeartbeats 4000000 in
theorem bk_X12_leastLimit_4 {p : Program} {l : Launch} {e : Env} {s : State} {m : MethodId} {args : Array Value} {below : List Frame} {meth : Method} {c : Code} {G : GP} {X : SM} {τ : SL} (C0 : g_mc p s m args meth c RX12 cX12_leastLimit (some .int) 3 G) {r0 : Int32} (k4 : Int32 → Int32 → SM → Option (Int32)) (hk4 : ∀ (x1 : Int32) (x2 : Int32) (M : SM), k4 x1 x2 M = some r0 → ∀ {H : Heap} {locs : List Loc}, va_P G.1 g_cl (wd G (cb X M) τ) H → va_S (g_A G) s.heap H locs → ∀ {ls : Array Slot}, lv_has ls 3 [(0, .ref (G.2.1 39 0)), (1, .int x1), (2, .int x2)] → W p l e rm_X12_leastLimit s m args below meth c H locs 0 0 (MQ below (va_Qi (fun r u => r = r0 ∧ u = (X, M, τ)) (g_pw G) (g_A G)) args s 0 0 (g_A G)) (F0 m 4 ls [])) (x1 : Int32) (x2 : Int32) (M : SM) (hf : wb_X12_leastLimit_4 k4 x1 x2 M = some r0) {H : Heap} {locs : List Loc} (hP : va_P G.1 g_cl (wd G (cb X M) τ) H) (hS : va_S (g_A G) s.heap H locs) {ls : Array Slot} (hl : lv_has ls 3 [(0, .ref (G.2.1 39 0)), (1, .int x1), (2, .int x2)]) : W p l e rm_X12_leastLimit s m args below meth c H locs 0 0 (MQ below (va_Qi (fun r u => r = r0 ∧ u = (X, M, τ)) (g_pw G) (g_A G)) args s 0 0 (g_A G)) (F0 m 4 ls []) := by
  obtain ⟨hx, hb, hr, hml, hown, hts, hlocks, hC⟩ := id C0
  unfold wb_X12_leastLimit_4 at hf
  refine lv_iload_n hx hb dX12_leastLimit_4 rfl (lv_at hl 2 rfl) ?_
  refine lv_bipush (v := 6) hx hb dX12_leastLimit_5 (by decide) ?_
  refine lv_icmp_ge (tgt := 46) hx hb dX12_leastLimit_7 (by decide) (fun hc_1 => ?_) (fun hc_1 => ?_)
  · have hf := g_pos hf hc_1
    refine lv_iload_n hx hb dX12_leastLimit_46 rfl (lv_at hl 1 rfl) ?_
    cases hf
    exact x_iret hx hb hlocks hC hP hS hr dX12_leastLimit_47
  · have hf := g_neg hf hc_1
    refine lv_aload_n hx hb dX12_leastLimit_10 rfl (lv_at hl 0 rfl) ?_
    refine gt_39_14 hx hb hts hown hC hP Nat.zero_lt_one q7_7 dX12_leastLimit_11 ?_
    refine lv_iload_n hx hb dX12_leastLimit_14 rfl (lv_at hl 2 rfl) ?_
    obtain ⟨hg_2, hf⟩ := g_gd hf
    refine xildM (k := 52) (n := 6) hx hb hC hP (fun _ _ => rfl) rfl Nat.zero_lt_one hg_2 dX12_leastLimit_15 ?_
    refine lv_if_le (tgt := 40) hx hb dX12_leastLimit_16 (by decide) (fun hc_3 => ?_) (fun hc_3 => ?_)
    · have hf := g_pos hf hc_3
      obtain ⟨x2_4, ex2_4, hf⟩ := g_letE hf
      refine lv_iinc (v := x2_4) (lv' := [(2, .int x2_4), (0, .ref (G.2.1 39 0)), (1, .int x1)]) hx hb dX12_leastLimit_40 hl (k := 2) rfl (by rw [← ex2_4]; rfl) (by decide) rfl (fun ls hl => ?_)
      refine lv_goto (tgt := 4) hx hb dX12_leastLimit_43 (by decide) ?_
      exact hk4 x1 x2_4 M hf hP hS (lv_sub hl [1, 2, 0] rfl)
    · have hf := g_neg hf hc_3
      refine lv_iload_n hx hb dX12_leastLimit_19 rfl (lv_at hl 1 rfl) ?_
      refine lv_if_lt (tgt := 38) hx hb dX12_leastLimit_20 (by decide) (fun hc_5 => ?_) (fun hc_5 => ?_)
      · have hf := g_pos hf hc_5
        refine lv_iload_n hx hb dX12_leastLimit_38 rfl (lv_at hl 2 rfl) ?_
        refine lv_istore_n (lv' := [(1, .int x2), (0, .ref (G.2.1 39 0)), (2, .int x2)]) hx hb dX12_leastLimit_39 rfl hl (by decide) rfl (fun ls hl => ?_)
        obtain ⟨x2_6, ex2_6, hf⟩ := g_letE hf
        refine lv_iinc (v := x2_6) (lv' := [(2, .int x2_6), (1, .int x2), (0, .ref (G.2.1 39 0))]) hx hb dX12_leastLimit_40 hl (k := 2) rfl (by rw [← ex2_6]; rfl) (by decide) rfl (fun ls hl => ?_)
        refine lv_goto (tgt := 4) hx hb dX12_leastLimit_43 (by decide) ?_
        exact hk4 x2 x2_6 M hf hP hS (lv_sub hl [2, 1, 0] rfl)
      · have hf := g_neg hf hc_5
        refine lv_aload_n hx hb dX12_leastLimit_23 rfl (lv_at hl 0 rfl) ?_
        refine gt_39_16 hx hb hts hown hC hP Nat.zero_lt_one q7_8 dX12_leastLimit_24 ?_
        refine lv_iload_n hx hb dX12_leastLimit_27 rfl (lv_at hl 2 rfl) ?_
        obtain ⟨hg_7, hf⟩ := g_gd hf
        refine xildM (k := 53) (n := 6) hx hb hC hP (fun _ _ => rfl) rfl Nat.zero_lt_one hg_7 dX12_leastLimit_28 ?_
        refine lv_aload_n hx hb dX12_leastLimit_29 rfl (lv_at hl 0 rfl) ?_
        refine gt_39_16 hx hb hts hown hC hP Nat.zero_lt_one q7_8 dX12_leastLimit_30 ?_
        refine lv_iload_n hx hb dX12_leastLimit_33 rfl (lv_at hl 1 rfl) ?_
        obtain ⟨hg_8, hf⟩ := g_gd hf
        refine xildM (k := 53) (n := 6) hx hb hC hP (fun _ _ => rfl) rfl Nat.zero_lt_one hg_8 dX12_leastLimit_34 ?_
        refine lv_icmp_ge (tgt := 40) hx hb dX12_leastLimit_35 (by decide) (fun hc_9 => ?_) (fun hc_9 => ?_)
        · have hf := g_pos hf hc_9
          obtain ⟨x2_10, ex2_10, hf⟩ := g_letE hf
          refine lv_iinc (v := x2_10) (lv' := [(2, .int x2_10), (0, .ref (G.2.1 39 0)), (1, .int x1)]) hx hb dX12_leastLimit_40 hl (k := 2) rfl (by rw [← ex2_10]; rfl) (by decide) rfl (fun ls hl => ?_)
          refine lv_goto (tgt := 4) hx hb dX12_leastLimit_43 (by decide) ?_
          exact hk4 x1 x2_10 M hf hP hS (lv_sub hl [1, 2, 0] rfl)
        · have hf := g_neg hf hc_9
          refine lv_iload_n hx hb dX12_leastLimit_38 rfl (lv_at hl 2 rfl) ?_
          refine lv_istore_n (lv' := [(1, .int x2), (0, .ref (G.2.1 39 0)), (2, .int x2)]) hx hb dX12_leastLimit_39 rfl hl (by decide) rfl (fun ls hl => ?_)
          obtain ⟨x2_11, ex2_11, hf⟩ := g_letE hf
          refine lv_iinc (v := x2_11) (lv' := [(2, .int x2_11), (1, .int x2), (0, .ref (G.2.1 39 0))]) hx hb dX12_leastLimit_40 hl (k := 2) rfl (by rw [← ex2_11]; rfl) (by decide) rfl (fun ls hl => ?_)
          refine lv_goto (tgt := 4) hx hb dX12_leastLimit_43 (by decide) ?_
          exact hk4 x2 x2_11 M hf hP hS (lv_sub hl [2, 1, 0] rfl)
def wl_X12_leastLimit_4 (n : Nat) (x1 : Int32) (x2 : Int32) (M : SM) : Option (Int32) := g_loop (α := Int32 × Int32 × SM) (fun k a => wb_X12_leastLimit_4 (fun x1 x2 M => k (x1, x2, M)) a.1 a.2.1 a.2.2) n (x1, x2, M)
set_option maxRecDepth 100000 in
set_option maxHeartbeats 4000000 in
theorem lp_X12_leastLimit_4 {p : Program} {l : Launch} {e : Env} {s : State} {m : MethodId} {args : Array Value} {below : List Frame} {meth : Method} {c : Code} {G : GP} {X : SM} {τ : SL} (C0 : g_mc p s m args meth c RX12 cX12_leastLimit (some .int) 3 G) {r0 : Int32} (n : Nat) : ∀ (x1 : Int32) (x2 : Int32) (M : SM), wl_X12_leastLimit_4 n x1 x2 M = some r0 → ∀ {H : Heap} {locs : List Loc}, va_P G.1 g_cl (wd G (cb X M) τ) H → va_S (g_A G) s.heap H locs → ∀ {ls : Array Slot}, lv_has ls 3 [(0, .ref (G.2.1 39 0)), (1, .int x1), (2, .int x2)] → W p l e rm_X12_leastLimit s m args below meth c H locs 0 0 (MQ below (va_Qi (fun r u => r = r0 ∧ u = (X, M, τ)) (g_pw G) (g_A G)) args s 0 0 (g_A G)) (F0 m 4 ls []) := by
  induction n with
  | zero =>
    intro x1 x2 M hf
    have hf : (none : Option (Int32)) = _ := hf
    cases hf
  | succ n ih =>
    intro x1 x2 M hf H locs hP hS ls hl
    exact bk_X12_leastLimit_4 C0   (fun x1 x2 M => wl_X12_leastLimit_4   n x1 x2 M) ih x1 x2 M hf hP hS hl
def fn_X12_leastLimit (M : SM) : Option (Int32) :=
  wl_X12_leastLimit_4 1000 (-1) 0 M
set_option maxRecDepth 100000 in
set_option maxHeartbeats 4000000 in
theorem wk_X12_leastLimit {p : Program} {l : Launch} {e : Env} {s : State} {m : MethodId} {args : Array Value} {below : List Frame} {meth : Method} {c : Code} {G : GP} {X : SM} {τ : SL} (C0 : g_mc p s m args meth c RX12 cX12_leastLimit (some .int) 3 G) {r0 : Int32} (M : SM) (hf : fn_X12_leastLimit M = some r0) {H : Heap} {locs : List Loc} (hP : va_P G.1 g_cl (wd G (cb X M) τ) H) (hS : va_S (g_A G) s.heap H locs) {ls : Array Slot} (hl : lv_has ls 3 [(0, .ref (G.2.1 39 0))]) : W p l e rm_X12_leastLimit s m args below meth c H locs 0 0 (MQ below (va_Qi (fun r u => r = r0 ∧ u = (X, M, τ)) (g_pw G) (g_A G)) args s 0 0 (g_A G)) (F0 m 0 ls []) := by
  obtain ⟨hx, hb, hr, hml, hown, hts, hlocks, hC⟩ := id C0
  unfold fn_X12_leastLimit at hf
  refine lv_iconst (v := (-1)) hx hb dX12_leastLimit_0 (by decide) ?_
  refine lv_istore_n (lv' := [(1, .int (-1)), (0, .ref (G.2.1 39 0))]) hx hb dX12_leastLimit_1 rfl hl (by decide) rfl (fun ls hl => ?_)
  refine lv_iconst (v := 0) hx hb dX12_leastLimit_2 (by decide) ?_
  refine lv_istore_n (lv' := [(2, .int 0), (1, .int (-1)), (0, .ref (G.2.1 39 0))]) hx hb dX12_leastLimit_3 rfl hl (by decide) rfl (fun ls hl => ?_)
  exact lp_X12_leastLimit_4 C0 1000 (-1) 0 M hf hP hS (lv_sub hl [2, 1, 0] rfl)
set_option maxRecDepth 100000 in
set_option maxHeartbeats 4000000 in
theorem ct_X12_leastLimit (l : Launch) (G : GP) (X M : SM) (τ : SL) {r0 : Int32} (hf : fn_X12_leastLimit M = some r0) : Met l yX12_leastLimit (wz yX12_leastLimit cX12_leastLimit 3 (some .int)) rm_X12_leastLimit (va_Pc [.ref (G.2.1 39 0)] (g_pw G (X, M, τ))) (va_Qi (fun r u => r = r0 ∧ u = (X, M, τ)) (g_pw G) (g_A G)) 0 0 (g_A G) := by
  refine Met.ofW (cc := cX12_leastLimit) (maxL := 3) (ret := (some .int)) (by decide +kernel) rfl ?_
  intro p e s m args below meth c s₁ B hml hv
  obtain ⟨rfl, hC, hP⟩ := hv
  have C0 : g_mc p s m _ meth c RX12 cX12_leastLimit (some .int) 3 G := ⟨B.exec, B.bytes, B.returns, hml, findClass_of_methodNamed B.named, fun w h => atoms_spec (ws := wz yX12_leastLimit cX12_leastLimit 3 (some .int)) B.pre w (List.mem_cons_of_mem _ h), B.notSynchronized, hC⟩
  have hl := lv_entry ([.ref (G.2.1 39 0)]) (n := 3) (Nat.le_of_ble_eq_true rfl)
  rw [lg_entry_eq]
  generalize (lg_sl ([.ref (G.2.1 39 0)]) ++ List.replicate (3 - (lg_sl ([.ref (G.2.1 39 0)])).length) Slot.unset).toArray = ls at hl ⊢
  exact wk_X12_leastLimit C0  M hf hP va_S.rf hl
abbrev rm_X12_found : Room := { frames := 1, cells := 0, slots := 0, locals := 23 }
def wb_X12_found_139 (k139 : Int32 → Int32 → SM → Option (Int32 × SM)) (x2 : Int32) (x3 : Int32) (M : SM) : Option (Int32 × SM) :=
  if (M 39 0 12) ≤ x3 then
  (some (0, M))
  else
  (if g_in (x2 + x3) 65 then
    if g_in x3 16 then
    g_let (u1 M 50 0 (x3.toNatClampNeg) (M 55 0 ((x2 + x3).toNatClampNeg))) fun M_42 =>
    g_let (x3 + 1) fun x3_43 =>
    k139 x2 x3_43 M_42
    else none
    else none)
set_option maxRecDepth 100000 in
set_option maxHeartbeats 4000000 in
theorem bk_X12_found_139 {p : Program} {l : Launch} {e : Env} {s : State} {m : MethodId} {args : Array Value} {below : List Frame} {meth : Method} {c : Code} {G : GP} {X : SM} {τ : SL} (C0 : g_mc p s m args meth c RX12 cX12_found (some .int) 4 G) {r0 : Int32} {M0 : SM} (k139 : Int32 → Int32 → SM → Option (Int32 × SM)) (hk139 : ∀ (x2 : Int32) (x3 : Int32) (M : SM), k139 x2 x3 M = some (r0, M0) → ∀ {H : Heap} {locs : List Loc}, va_P G.1 g_cl (wd G (cb X M) τ) H → va_S (g_A G) s.heap H locs → ∀ {ls : Array Slot}, lv_has ls 4 [(0, .ref (G.2.1 39 0)), (2, .int x2), (3, .int x3)] → W p l e rm_X12_found s m args below meth c H locs 0 0 (MQ below (va_Qi (fun r u => r = r0 ∧ u = (X, M0, τ)) (g_pw G) (g_A G)) args s 0 0 (g_A G)) (F0 m 139 ls [])) (x2 : Int32) (x3 : Int32) (M : SM) (hf : wb_X12_found_139 k139 x2 x3 M = some (r0, M0)) {H : Heap} {locs : List Loc} (hP : va_P G.1 g_cl (wd G (cb X M) τ) H) (hS : va_S (g_A G) s.heap H locs) {ls : Array Slot} (hl : lv_has ls 4 [(0, .ref (G.2.1 39 0)), (2, .int x2), (3, .int x3)]) : W p l e rm_X12_found s m args below meth c H locs 0 0 (MQ below (va_Qi (fun r u => r = r0 ∧ u = (X, M0, τ)) (g_pw G) (g_A G)) args s 0 0 (g_A G)) (F0 m 139 ls []) := by
  obtain ⟨hx, hb, hr, hml, hown, hts, hlocks, hC⟩ := id C0
  unfold wb_X12_found_139 at hf
  refine lv_iload_n hx hb dX12_found_139 rfl (lv_at hl 2 rfl) ?_
  refine lv_aload_n hx hb dX12_found_140 rfl (lv_at hl 0 rfl) ?_
  refine gt_39_12 hx hb hts hown hC hP Nat.zero_lt_one q7_5 dX12_found_141 ?_
  refine lv_icmp_ge (tgt := 167) hx hb dX12_found_144 (by decide) (fun hc_39 => ?_) (fun hc_39 => ?_)
  · have hf := g_pos hf hc_39
    refine lv_iconst (v := 0) hx hb dX12_found_167 (by decide) ?_
    cases hf
    exact x_iret hx hb hlocks hC hP hS hr dX12_found_168
  · have hf := g_neg hf hc_39
    refine lv_aload_n hx hb dX12_found_147 rfl (lv_at hl 0 rfl) ?_
    refine gt_39_11 hx hb hts hown hC hP Nat.zero_lt_one q7_4 dX12_found_148 ?_
    refine lv_iload_n hx hb dX12_found_151 rfl (lv_at hl 2 rfl) ?_
    refine lv_aload_n hx hb dX12_found_152 rfl (lv_at hl 0 rfl) ?_
    refine gt_39_18 hx hb hts hown hC hP Nat.zero_lt_one q7_10 dX12_found_153 ?_
    refine lv_iload_n hx hb dX12_found_156 rfl (lv_at hl 1 rfl) ?_
    refine lv_iload_n hx hb dX12_found_157 rfl (lv_at hl 2 rfl) ?_
    refine lv_iadd hx hb dX12_found_158 ?_
    obtain ⟨hg_40, hf⟩ := g_gd hf
    refine xildM (k := 55) (n := 65) hx hb hC hP (fun _ _ => rfl) rfl Nat.zero_lt_one hg_40 dX12_found_159 ?_
    obtain ⟨hg_41, hf⟩ := g_gd hf
    obtain ⟨M_42, eM_42, hf⟩ := g_letE hf
    refine xistM (k := 50) (n := 16) hx hb hC hP hS (fun _ _ => rfl) rfl Nat.zero_lt_one hg_41 dX12_found_160 (fun H locs hP hS => ?_)
    rw [eM_42] at hP
    obtain ⟨x3_43, ex3_43, hf⟩ := g_letE hf
    refine lv_iinc (v := x3_43) (lv' := [(3, .int x3_43), (0, .ref (G.2.1 39 0)), (2, .int x2)]) hx hb dX12_found_161 hl (k := 2) rfl (by rw [← ex3_43]; rfl) (by decide) rfl (fun ls hl => ?_)
    refine lv_goto (tgt := 139) hx hb dX12_found_164 (by decide) ?_
    exact hk139 x2 x3_43 M_42 hf hP hS (lv_sub hl [1, 2, 0] rfl)
def wl_X12_found_139 (n : Nat) (x2 : Int32) (x3 : Int32) (M : SM) : Option (Int32 × SM) := g_loop (α := Int32 × Int32 × SM) (fun k a => wb_X12_found_139 (fun x2 x3 M => k (x2, x3, M)) a.1 a.2.1 a.2.2) n (x2, x3, M)
set_option maxRecDepth 100000 in
set_option maxHeartbeats 4000000 in
theorem lp_X12_found_139 {p : Program} {l : Launch} {e : Env} {s : State} {m : MethodId} {args : Array Value} {below : List Frame} {meth : Method} {c : Code} {G : GP} {X : SM} {τ : SL} (C0 : g_mc p s m args meth c RX12 cX12_found (some .int) 4 G) {r0 : Int32} {M0 : SM} (n : Nat) : ∀ (x2 : Int32) (x3 : Int32) (M : SM), wl_X12_found_139 n x2 x3 M = some (r0, M0) → ∀ {H : Heap} {locs : List Loc}, va_P G.1 g_cl (wd G (cb X M) τ) H → va_S (g_A G) s.heap H locs → ∀ {ls : Array Slot}, lv_has ls 4 [(0, .ref (G.2.1 39 0)), (2, .int x2), (3, .int x3)] → W p l e rm_X12_found s m args below meth c H locs 0 0 (MQ below (va_Qi (fun r u => r = r0 ∧ u = (X, M0, τ)) (g_pw G) (g_A G)) args s 0 0 (g_A G)) (F0 m 139 ls []) := by
  induction n with
  | zero =>
    intro x2 x3 M hf
    have hf : (none : Option (Int32 × SM)) = _ := hf
    cases hf
  | succ n ih =>
    intro x2 x3 M hf H locs hP hS ls hl
    exact bk_X12_found_139 C0   (fun x2 x3 M => wl_X12_found_139   n x2 x3 M) ih x2 x3 M hf hP hS hl
def wb_X12_found_175 (k63 : Int32 → SM → Option (Int32 × SM)) (x1 : Int32) (M : SM) : Option (Int32 × SM) :=
  (fn_X12_leastLimit M).bind fun r_29 =>
  if g_in r_29 6 then
  if x1 < (M 53 0 (r_29.toNatClampNeg)) then
  (if g_in x1 65 then
    g_let (u1 M 55 0 (x1.toNatClampNeg) r_29) fun M_34 =>
    if g_in r_29 6 then
    if g_in r_29 6 then
    g_let (u1 M_34 53 0 (r_29.toNatClampNeg) ((x1 + 1) + (M_34 52 0 (r_29.toNatClampNeg)))) fun M_37 =>
    g_let (x1 + 1) fun x1_38 =>
    k63 x1_38 M_37
    else none
    else none
    else none)
  else
  (some (2, M))
  else none
set_option maxRecDepth 100000 in
set_option maxHeartbeats 4000000 in
theorem bk_X12_found_175 {p : Program} {l : Launch} {e : Env} {s : State} {m : MethodId} {args : Array Value} {below : List Frame} {meth : Method} {c : Code} {G : GP} {X : SM} {τ : SL} (C0 : g_mc p s m args meth c RX12 cX12_found (some .int) 4 G) {r0 : Int32} {M0 : SM} (k63 : Int32 → SM → Option (Int32 × SM)) (hk63 : ∀ (x1 : Int32) (M : SM), k63 x1 M = some (r0, M0) → ∀ {H : Heap} {locs : List Loc}, va_P G.1 g_cl (wd G (cb X M) τ) H → va_S (g_A G) s.heap H locs → ∀ {ls : Array Slot}, lv_has ls 4 [(0, .ref (G.2.1 39 0)), (1, .int x1)] → W p l e rm_X12_found s m args below meth c H locs 0 0 (MQ below (va_Qi (fun r u => r = r0 ∧ u = (X, M0, τ)) (g_pw G) (g_A G)) args s 0 0 (g_A G)) (F0 m 63 ls [])) (x1 : Int32) (M : SM) (hf : wb_X12_found_175 k63 x1 M = some (r0, M0)) {H : Heap} {locs : List Loc} (hP : va_P G.1 g_cl (wd G (cb X M) τ) H) (hS : va_S (g_A G) s.heap H locs) {ls : Array Slot} (hl : lv_has ls 4 [(0, .ref (G.2.1 39 0)), (1, .int x1)]) : W p l e rm_X12_found s m args below meth c H locs 0 0 (MQ below (va_Qi (fun r u => r = r0 ∧ u = (X, M0, τ)) (g_pw G) (g_A G)) args s 0 0 (g_A G)) (F0 m 175 ls []) := by
  obtain ⟨hx, hb, hr, hml, hown, hts, hlocks, hC⟩ := id C0
  unfold wb_X12_found_175 at hf
  refine lv_aload_n hx hb dX12_found_175 rfl (lv_at hl 0 rfl) ?_
  obtain ⟨r_29, hc_30, hf⟩ := g_bindE hf
  refine x_calli (v := (X, M, τ)) (va_runV (As := []) (rest := []) ⟨hx, hb, hml, hown, hts⟩ (ct_X12_leastLimit l G X M τ  hc_30) (cwV 0 hts gd_X12_111 rfl rfl rfl hd_X12_leastLimit ⟨Nat.le_of_ble_eq_true rfl, Nat.le_of_ble_eq_true rfl⟩) (x_preV (u := (X, M, τ)) (k := 39) (ci := 12) hC hS hP Nat.zero_lt_one rfl rfl) rfl rfl hl.1 rfl (lv_room (Nat.le_of_ble_eq_true rfl)) dX12_found_176 ⟨Nat.zero_le _, Nat.zero_le _⟩) hS (fun H locs hP hS => ?_)
  refine lv_istore_n (lv' := [(2, .int r_29), (0, .ref (G.2.1 39 0)), (1, .int x1)]) hx hb dX12_found_179 rfl hl (by decide) rfl (fun ls hl => ?_)
  refine lv_aload_n hx hb dX12_found_180 rfl (lv_at hl 1 rfl) ?_
  refine gt_39_16 hx hb hts hown hC hP Nat.zero_lt_one q7_8 dX12_found_181 ?_
  refine lv_iload_n hx hb dX12_found_184 rfl (lv_at hl 0 rfl) ?_
  obtain ⟨hg_31, hf⟩ := g_gd hf
  refine xildM (k := 53) (n := 6) hx hb hC hP (fun _ _ => rfl) rfl Nat.zero_lt_one hg_31 dX12_found_185 ?_
  refine lv_iload_n hx hb dX12_found_186 rfl (lv_at hl 2 rfl) ?_
  refine lv_icmp_gt (tgt := 192) hx hb dX12_found_187 (by decide) (fun hc_32 => ?_) (fun hc_32 => ?_)
  · have hf := g_pos hf hc_32
    refine lv_aload_n hx hb dX12_found_192 rfl (lv_at hl 1 rfl) ?_
    refine gt_39_18 hx hb hts hown hC hP Nat.zero_lt_one q7_10 dX12_found_193 ?_
    refine lv_iload_n hx hb dX12_found_196 rfl (lv_at hl 2 rfl) ?_
    refine lv_iload_n hx hb dX12_found_197 rfl (lv_at hl 0 rfl) ?_
    obtain ⟨hg_33, hf⟩ := g_gd hf
    obtain ⟨M_34, eM_34, hf⟩ := g_letE hf
    refine xistM (k := 55) (n := 65) hx hb hC hP hS (fun _ _ => rfl) rfl Nat.zero_lt_one hg_33 dX12_found_198 (fun H locs hP hS => ?_)
    rw [eM_34] at hP
    refine lv_aload_n hx hb dX12_found_199 rfl (lv_at hl 1 rfl) ?_
    refine gt_39_16 hx hb hts hown hC hP Nat.zero_lt_one q7_8 dX12_found_200 ?_
    refine lv_iload_n hx hb dX12_found_203 rfl (lv_at hl 0 rfl) ?_
    refine lv_iload_n hx hb dX12_found_204 rfl (lv_at hl 2 rfl) ?_
    refine lv_iconst (v := 1) hx hb dX12_found_205 (by decide) ?_
    refine lv_iadd hx hb dX12_found_206 ?_
    refine lv_aload_n hx hb dX12_found_207 rfl (lv_at hl 1 rfl) ?_
    refine gt_39_14 hx hb hts hown hC hP Nat.zero_lt_one q7_7 dX12_found_208 ?_
    refine lv_iload_n hx hb dX12_found_211 rfl (lv_at hl 0 rfl) ?_
    obtain ⟨hg_35, hf⟩ := g_gd hf
    refine xildM (k := 52) (n := 6) hx hb hC hP (fun _ _ => rfl) rfl Nat.zero_lt_one hg_35 dX12_found_212 ?_
    refine lv_iadd hx hb dX12_found_213 ?_
    obtain ⟨hg_36, hf⟩ := g_gd hf
    obtain ⟨M_37, eM_37, hf⟩ := g_letE hf
    refine xistM (k := 53) (n := 6) hx hb hC hP hS (fun _ _ => rfl) rfl Nat.zero_lt_one hg_36 dX12_found_214 (fun H locs hP hS => ?_)
    rw [eM_37] at hP
    obtain ⟨x1_38, ex1_38, hf⟩ := g_letE hf
    refine lv_iinc (v := x1_38) (lv' := [(1, .int x1_38), (2, .int r_29), (0, .ref (G.2.1 39 0))]) hx hb dX12_found_215 hl (k := 2) rfl (by rw [← ex1_38]; rfl) (by decide) rfl (fun ls hl => ?_)
    refine lv_goto (tgt := 63) hx hb dX12_found_218 (by decide) ?_
    exact hk63 x1_38 M_37 hf hP hS (lv_sub hl [2, 0] rfl)
  · have hf := g_neg hf hc_32
    refine lv_iconst (v := 2) hx hb dX12_found_190 (by decide) ?_
    cases hf
    exact x_iret hx hb hlocks hC hP hS hr dX12_found_191
def wb_X12_found_106 (k63 : Int32 → SM → Option (Int32 × SM)) (k106 : Int32 → Int32 → SM → Option (Int32 × SM)) (x1 : Int32) (x2 : Int32) (M : SM) : Option (Int32 × SM) :=
  if x2 < 0 then
  (wb_X12_found_175 k63 x1 M)
  else
  (if x2 < (x1 - 16) then
    (wb_X12_found_175 k63 x1 M)
    else
    ((fn_X12_isAlike x1 x2 M).bind fun r_24 =>
      if r_24 = 0 then
      (g_let (x2 + (-1)) fun x2_28 =>
        k106 x1 x2_28 M)
      else
      (g_let (u1 M 39 0 12 (x1 - x2)) fun M_27 =>
        wl_X12_found_139 1000 x2 0 M_27)))
set_option maxRecDepth 100000 in
set_option maxHeartbeats 4000000 in
theorem bk_X12_found_106 {p : Program} {l : Launch} {e : Env} {s : State} {m : MethodId} {args : Array Value} {below : List Frame} {meth : Method} {c : Code} {G : GP} {X : SM} {τ : SL} (C0 : g_mc p s m args meth c RX12 cX12_found (some .int) 4 G) {r0 : Int32} {M0 : SM} (k63 : Int32 → SM → Option (Int32 × SM)) (hk63 : ∀ (x1 : Int32) (M : SM), k63 x1 M = some (r0, M0) → ∀ {H : Heap} {locs : List Loc}, va_P G.1 g_cl (wd G (cb X M) τ) H → va_S (g_A G) s.heap H locs → ∀ {ls : Array Slot}, lv_has ls 4 [(0, .ref (G.2.1 39 0)), (1, .int x1)] → W p l e rm_X12_found s m args below meth c H locs 0 0 (MQ below (va_Qi (fun r u => r = r0 ∧ u = (X, M0, τ)) (g_pw G) (g_A G)) args s 0 0 (g_A G)) (F0 m 63 ls [])) (k106 : Int32 → Int32 → SM → Option (Int32 × SM)) (hk106 : ∀ (x1 : Int32) (x2 : Int32) (M : SM), k106 x1 x2 M = some (r0, M0) → ∀ {H : Heap} {locs : List Loc}, va_P G.1 g_cl (wd G (cb X M) τ) H → va_S (g_A G) s.heap H locs → ∀ {ls : Array Slot}, lv_has ls 4 [(0, .ref (G.2.1 39 0)), (1, .int x1), (2, .int x2)] → W p l e rm_X12_found s m args below meth c H locs 0 0 (MQ below (va_Qi (fun r u => r = r0 ∧ u = (X, M0, τ)) (g_pw G) (g_A G)) args s 0 0 (g_A G)) (F0 m 106 ls [])) (x1 : Int32) (x2 : Int32) (M : SM) (hf : wb_X12_found_106 k63 k106 x1 x2 M = some (r0, M0)) {H : Heap} {locs : List Loc} (hP : va_P G.1 g_cl (wd G (cb X M) τ) H) (hS : va_S (g_A G) s.heap H locs) {ls : Array Slot} (hl : lv_has ls 4 [(0, .ref (G.2.1 39 0)), (1, .int x1), (2, .int x2)]) : W p l e rm_X12_found s m args below meth c H locs 0 0 (MQ below (va_Qi (fun r u => r = r0 ∧ u = (X, M0, τ)) (g_pw G) (g_A G)) args s 0 0 (g_A G)) (F0 m 106 ls []) := by
  obtain ⟨hx, hb, hr, hml, hown, hts, hlocks, hC⟩ := id C0
  unfold wb_X12_found_106 at hf
  refine lv_iload_n hx hb dX12_found_106 rfl (lv_at hl 2 rfl) ?_
  refine lv_if_lt (tgt := 175) hx hb dX12_found_107 (by decide) (fun hc_22 => ?_) (fun hc_22 => ?_)
  · have hf := g_pos hf hc_22
    exact bk_X12_found_175 C0 k63 hk63 x1 M hf hP hS (lv_sub hl [0, 1] rfl)
  · have hf := g_neg hf hc_22
    refine lv_iload_n hx hb dX12_found_110 rfl (lv_at hl 2 rfl) ?_
    refine lv_iload_n hx hb dX12_found_111 rfl (lv_at hl 1 rfl) ?_
    refine lv_bipush (v := 16) hx hb dX12_found_112 (by decide) ?_
    refine lv_isub hx hb dX12_found_114 ?_
    refine lv_icmp_lt (tgt := 175) hx hb dX12_found_115 (by decide) (fun hc_23 => ?_) (fun hc_23 => ?_)
    · have hf := g_pos hf hc_23
      exact bk_X12_found_175 C0 k63 hk63 x1 M hf hP hS (lv_sub hl [0, 1] rfl)
    · have hf := g_neg hf hc_23
      refine lv_aload_n hx hb dX12_found_118 rfl (lv_at hl 0 rfl) ?_
      refine lv_iload_n hx hb dX12_found_119 rfl (lv_at hl 1 rfl) ?_
      refine lv_iload_n hx hb dX12_found_120 rfl (lv_at hl 2 rfl) ?_
      obtain ⟨r_24, hc_25, hf⟩ := g_bindE hf
      refine x_calli (v := (X, M, τ)) (va_runV (As := [.int x1, .int x2]) (rest := []) ⟨hx, hb, hml, hown, hts⟩ (ct_X12_isAlike l G X M τ x1 x2 hc_25) (cwV 2 hts gd_X12_107 rfl rfl rfl hd_X12_isAlike ⟨Nat.le_of_ble_eq_true rfl, Nat.le_of_ble_eq_true rfl⟩) (x_preV (u := (X, M, τ)) (k := 39) (ci := 12) hC hS hP Nat.zero_lt_one rfl rfl) rfl rfl hl.1 rfl (lv_room (Nat.le_of_ble_eq_true rfl)) dX12_found_121 ⟨Nat.zero_le _, Nat.zero_le _⟩) hS (fun H locs hP hS => ?_)
      refine lv_if_ne (tgt := 130) hx hb dX12_found_124 (by decide) (fun hc_26 => ?_) (fun hc_26 => ?_)
      · have hf := g_neg hf hc_26
        refine lv_aload_n hx hb dX12_found_130 rfl (lv_at hl 0 rfl) ?_
        refine lv_iload_n hx hb dX12_found_131 rfl (lv_at hl 1 rfl) ?_
        refine lv_iload_n hx hb dX12_found_132 rfl (lv_at hl 2 rfl) ?_
        refine lv_isub hx hb dX12_found_133 ?_
        obtain ⟨M_27, eM_27, hf⟩ := g_letE hf
        refine pt_39_12 hx hb hts hown hC hP hS Nat.zero_lt_one q7_5 dX12_found_134 (fun H locs hP hS => ?_)
        rw [eM_27] at hP
        refine lv_iconst (v := 0) hx hb dX12_found_137 (by decide) ?_
        refine lv_istore_n (lv' := [(3, .int 0), (0, .ref (G.2.1 39 0)), (1, .int x1), (2, .int x2)]) hx hb dX12_found_138 rfl hl (by decide) rfl (fun ls hl => ?_)
        exact lp_X12_found_139 C0 1000 x2 0 M_27 hf hP hS (lv_sub hl [1, 3, 0] rfl)
      · have hf := g_pos hf hc_26
        refine lv_goto (tgt := 169) hx hb dX12_found_127 (by decide) ?_
        obtain ⟨x2_28, ex2_28, hf⟩ := g_letE hf
        refine lv_iinc (v := x2_28) (lv' := [(2, .int x2_28), (0, .ref (G.2.1 39 0)), (1, .int x1)]) hx hb dX12_found_169 hl (k := 2) rfl (by rw [← ex2_28]; rfl) (by decide) rfl (fun ls hl => ?_)
        refine lv_goto (tgt := 106) hx hb dX12_found_172 (by decide) ?_
        exact hk106 x1 x2_28 M hf hP hS (lv_sub hl [1, 2, 0] rfl)
def wl_X12_found_106 (k63 : Int32 → SM → Option (Int32 × SM)) (n : Nat) (x1 : Int32) (x2 : Int32) (M : SM) : Option (Int32 × SM) := g_loop (α := Int32 × Int32 × SM) (fun k a => wb_X12_found_106 k63 (fun x1 x2 M => k (x1, x2, M)) a.1 a.2.1 a.2.2) n (x1, x2, M)
set_option maxRecDepth 100000 in
set_option maxHeartbeats 4000000 in
theorem lp_X12_found_106 {p : Program} {l : Launch} {e : Env} {s : State} {m : MethodId} {args : Array Value} {below : List Frame} {meth : Method} {c : Code} {G : GP} {X : SM} {τ : SL} (C0 : g_mc p s m args meth c RX12 cX12_found (some .int) 4 G) {r0 : Int32} {M0 : SM} (k63 : Int32 → SM → Option (Int32 × SM)) (hk63 : ∀ (x1 : Int32) (M : SM), k63 x1 M = some (r0, M0) → ∀ {H : Heap} {locs : List Loc}, va_P G.1 g_cl (wd G (cb X M) τ) H → va_S (g_A G) s.heap H locs → ∀ {ls : Array Slot}, lv_has ls 4 [(0, .ref (G.2.1 39 0)), (1, .int x1)] → W p l e rm_X12_found s m args below meth c H locs 0 0 (MQ below (va_Qi (fun r u => r = r0 ∧ u = (X, M0, τ)) (g_pw G) (g_A G)) args s 0 0 (g_A G)) (F0 m 63 ls [])) (n : Nat) : ∀ (x1 : Int32) (x2 : Int32) (M : SM), wl_X12_found_106 k63 n x1 x2 M = some (r0, M0) → ∀ {H : Heap} {locs : List Loc}, va_P G.1 g_cl (wd G (cb X M) τ) H → va_S (g_A G) s.heap H locs → ∀ {ls : Array Slot}, lv_has ls 4 [(0, .ref (G.2.1 39 0)), (1, .int x1), (2, .int x2)] → W p l e rm_X12_found s m args below meth c H locs 0 0 (MQ below (va_Qi (fun r u => r = r0 ∧ u = (X, M0, τ)) (g_pw G) (g_A G)) args s 0 0 (g_A G)) (F0 m 106 ls []) := by
  induction n with
  | zero =>
    intro x1 x2 M hf
    have hf : (none : Option (Int32 × SM)) = _ := hf
    cases hf
  | succ n ih =>
    intro x1 x2 M hf H locs hP hS ls hl
    exact bk_X12_found_106 C0  k63 hk63 (fun x1 x2 M => wl_X12_found_106  k63 n x1 x2 M) ih x1 x2 M hf hP hS hl
def wb_X12_found_71 (k63 : Int32 → SM → Option (Int32 × SM)) (k71 : Int32 → Int32 → SM → Option (Int32 × SM)) (x1 : Int32) (x2 : Int32) (M : SM) : Option (Int32 × SM) :=
  if 6 ≤ x2 then
  (g_let ((x1 - 1)) fun x2_17 =>
    wl_X12_found_106 k63 1000 x1 x2_17 M)
  else
  (if g_in x2 6 then
    if g_in ((6 * x1) + x2) 390 then
    g_let (u1 M 54 0 (((6 * x1) + x2).toNatClampNeg) ((M 53 0 (x2.toNatClampNeg)) - x1)) fun M_20 =>
    g_let (x2 + 1) fun x2_21 =>
    k71 x1 x2_21 M_20
    else none
    else none)
set_option maxRecDepth 100000 in
set_option maxHeartbeats 4000000 in
theorem bk_X12_found_71 {p : Program} {l : Launch} {e : Env} {s : State} {m : MethodId} {args : Array Value} {below : List Frame} {meth : Method} {c : Code} {G : GP} {X : SM} {τ : SL} (C0 : g_mc p s m args meth c RX12 cX12_found (some .int) 4 G) {r0 : Int32} {M0 : SM} (k63 : Int32 → SM → Option (Int32 × SM)) (hk63 : ∀ (x1 : Int32) (M : SM), k63 x1 M = some (r0, M0) → ∀ {H : Heap} {locs : List Loc}, va_P G.1 g_cl (wd G (cb X M) τ) H → va_S (g_A G) s.heap H locs → ∀ {ls : Array Slot}, lv_has ls 4 [(0, .ref (G.2.1 39 0)), (1, .int x1)] → W p l e rm_X12_found s m args below meth c H locs 0 0 (MQ below (va_Qi (fun r u => r = r0 ∧ u = (X, M0, τ)) (g_pw G) (g_A G)) args s 0 0 (g_A G)) (F0 m 63 ls [])) (k71 : Int32 → Int32 → SM → Option (Int32 × SM)) (hk71 : ∀ (x1 : Int32) (x2 : Int32) (M : SM), k71 x1 x2 M = some (r0, M0) → ∀ {H : Heap} {locs : List Loc}, va_P G.1 g_cl (wd G (cb X M) τ) H → va_S (g_A G) s.heap H locs → ∀ {ls : Array Slot}, lv_has ls 4 [(0, .ref (G.2.1 39 0)), (1, .int x1), (2, .int x2)] → W p l e rm_X12_found s m args below meth c H locs 0 0 (MQ below (va_Qi (fun r u => r = r0 ∧ u = (X, M0, τ)) (g_pw G) (g_A G)) args s 0 0 (g_A G)) (F0 m 71 ls [])) (x1 : Int32) (x2 : Int32) (M : SM) (hf : wb_X12_found_71 k63 k71 x1 x2 M = some (r0, M0)) {H : Heap} {locs : List Loc} (hP : va_P G.1 g_cl (wd G (cb X M) τ) H) (hS : va_S (g_A G) s.heap H locs) {ls : Array Slot} (hl : lv_has ls 4 [(0, .ref (G.2.1 39 0)), (1, .int x1), (2, .int x2)]) : W p l e rm_X12_found s m args below meth c H locs 0 0 (MQ below (va_Qi (fun r u => r = r0 ∧ u = (X, M0, τ)) (g_pw G) (g_A G)) args s 0 0 (g_A G)) (F0 m 71 ls []) := by
  obtain ⟨hx, hb, hr, hml, hown, hts, hlocks, hC⟩ := id C0
  unfold wb_X12_found_71 at hf
  refine lv_iload_n hx hb dX12_found_71 rfl (lv_at hl 2 rfl) ?_
  refine lv_bipush (v := 6) hx hb dX12_found_72 (by decide) ?_
  refine lv_icmp_ge (tgt := 102) hx hb dX12_found_74 (by decide) (fun hc_16 => ?_) (fun hc_16 => ?_)
  · have hf := g_pos hf hc_16
    refine lv_iload_n hx hb dX12_found_102 rfl (lv_at hl 1 rfl) ?_
    refine lv_iconst (v := 1) hx hb dX12_found_103 (by decide) ?_
    refine lv_isub hx hb dX12_found_104 ?_
    obtain ⟨x2_17, ex2_17, hf⟩ := g_letE hf
    refine lv_topE ex2_17 ?_
    refine lv_istore_n (lv' := [(2, .int x2_17), (0, .ref (G.2.1 39 0)), (1, .int x1)]) hx hb dX12_found_105 rfl hl (by decide) rfl (fun ls hl => ?_)
    exact lp_X12_found_106 C0 k63 hk63 1000 x1 x2_17 M hf hP hS (lv_sub hl [1, 2, 0] rfl)
  · have hf := g_neg hf hc_16
    refine lv_aload_n hx hb dX12_found_77 rfl (lv_at hl 0 rfl) ?_
    refine gt_39_17 hx hb hts hown hC hP Nat.zero_lt_one q7_9 dX12_found_78 ?_
    refine lv_bipush (v := 6) hx hb dX12_found_81 (by decide) ?_
    refine lv_iload_n hx hb dX12_found_83 rfl (lv_at hl 1 rfl) ?_
    refine lv_imul hx hb dX12_found_84 ?_
    refine lv_iload_n hx hb dX12_found_85 rfl (lv_at hl 2 rfl) ?_
    refine lv_iadd hx hb dX12_found_86 ?_
    refine lv_aload_n hx hb dX12_found_87 rfl (lv_at hl 0 rfl) ?_
    refine gt_39_16 hx hb hts hown hC hP Nat.zero_lt_one q7_8 dX12_found_88 ?_
    refine lv_iload_n hx hb dX12_found_91 rfl (lv_at hl 2 rfl) ?_
    obtain ⟨hg_18, hf⟩ := g_gd hf
    refine xildM (k := 53) (n := 6) hx hb hC hP (fun _ _ => rfl) rfl Nat.zero_lt_one hg_18 dX12_found_92 ?_
    refine lv_iload_n hx hb dX12_found_93 rfl (lv_at hl 1 rfl) ?_
    refine lv_isub hx hb dX12_found_94 ?_
    obtain ⟨hg_19, hf⟩ := g_gd hf
    obtain ⟨M_20, eM_20, hf⟩ := g_letE hf
    refine xistM (k := 54) (n := 390) hx hb hC hP hS (fun _ _ => rfl) rfl Nat.zero_lt_one hg_19 dX12_found_95 (fun H locs hP hS => ?_)
    rw [eM_20] at hP
    obtain ⟨x2_21, ex2_21, hf⟩ := g_letE hf
    refine lv_iinc (v := x2_21) (lv' := [(2, .int x2_21), (0, .ref (G.2.1 39 0)), (1, .int x1)]) hx hb dX12_found_96 hl (k := 2) rfl (by rw [← ex2_21]; rfl) (by decide) rfl (fun ls hl => ?_)
    refine lv_goto (tgt := 71) hx hb dX12_found_99 (by decide) ?_
    exact hk71 x1 x2_21 M_20 hf hP hS (lv_sub hl [1, 2, 0] rfl)
def wl_X12_found_71 (k63 : Int32 → SM → Option (Int32 × SM)) (n : Nat) (x1 : Int32) (x2 : Int32) (M : SM) : Option (Int32 × SM) := g_loop (α := Int32 × Int32 × SM) (fun k a => wb_X12_found_71 k63 (fun x1 x2 M => k (x1, x2, M)) a.1 a.2.1 a.2.2) n (x1, x2, M)
set_option maxRecDepth 100000 in
set_option maxHeartbeats 4000000 in
theorem lp_X12_found_71 {p : Program} {l : Launch} {e : Env} {s : State} {m : MethodId} {args : Array Value} {below : List Frame} {meth : Method} {c : Code} {G : GP} {X : SM} {τ : SL} (C0 : g_mc p s m args meth c RX12 cX12_found (some .int) 4 G) {r0 : Int32} {M0 : SM} (k63 : Int32 → SM → Option (Int32 × SM)) (hk63 : ∀ (x1 : Int32) (M : SM), k63 x1 M = some (r0, M0) → ∀ {H : Heap} {locs : List Loc}, va_P G.1 g_cl (wd G (cb X M) τ) H → va_S (g_A G) s.heap H locs → ∀ {ls : Array Slot}, lv_has ls 4 [(0, .ref (G.2.1 39 0)), (1, .int x1)] → W p l e rm_X12_found s m args below meth c H locs 0 0 (MQ below (va_Qi (fun r u => r = r0 ∧ u = (X, M0, τ)) (g_pw G) (g_A G)) args s 0 0 (g_A G)) (F0 m 63 ls [])) (n : Nat) : ∀ (x1 : Int32) (x2 : Int32) (M : SM), wl_X12_found_71 k63 n x1 x2 M = some (r0, M0) → ∀ {H : Heap} {locs : List Loc}, va_P G.1 g_cl (wd G (cb X M) τ) H → va_S (g_A G) s.heap H locs → ∀ {ls : Array Slot}, lv_has ls 4 [(0, .ref (G.2.1 39 0)), (1, .int x1), (2, .int x2)] → W p l e rm_X12_found s m args below meth c H locs 0 0 (MQ below (va_Qi (fun r u => r = r0 ∧ u = (X, M0, τ)) (g_pw G) (g_A G)) args s 0 0 (g_A G)) (F0 m 71 ls []) := by
  induction n with
  | zero =>
    intro x1 x2 M hf
    have hf : (none : Option (Int32 × SM)) = _ := hf
    cases hf
  | succ n ih =>
    intro x1 x2 M hf H locs hP hS ls hl
    exact bk_X12_found_71 C0  k63 hk63 (fun x1 x2 M => wl_X12_found_71  k63 n x1 x2 M) ih x1 x2 M hf hP hS hl
def wb_X12_found_63 (k63 : Int32 → SM → Option (Int32 × SM)) (x1 : Int32) (M : SM) : Option (Int32 × SM) :=
  if 64 < x1 then
  (some (3, M))
  else
  (wl_X12_found_71 k63 1000 x1 0 M)
set_option maxRecDepth 100000 in
set_option maxHeartbeats 4000000 in
theorem bk_X12_found_63 {p : Program} {l : Launch} {e : Env} {s : State} {m : MethodId} {args : Array Value} {below : List Frame} {meth : Method} {c : Code} {G : GP} {X : SM} {τ : SL} (C0 : g_mc p s m args meth c RX12 cX12_found (some .int) 4 G) {r0 : Int32} {M0 : SM} (k63 : Int32 → SM → Option (Int32 × SM)) (hk63 : ∀ (x1 : Int32) (M : SM), k63 x1 M = some (r0, M0) → ∀ {H : Heap} {locs : List Loc}, va_P G.1 g_cl (wd G (cb X M) τ) H → va_S (g_A G) s.heap H locs → ∀ {ls : Array Slot}, lv_has ls 4 [(0, .ref (G.2.1 39 0)), (1, .int x1)] → W p l e rm_X12_found s m args below meth c H locs 0 0 (MQ below (va_Qi (fun r u => r = r0 ∧ u = (X, M0, τ)) (g_pw G) (g_A G)) args s 0 0 (g_A G)) (F0 m 63 ls [])) (x1 : Int32) (M : SM) (hf : wb_X12_found_63 k63 x1 M = some (r0, M0)) {H : Heap} {locs : List Loc} (hP : va_P G.1 g_cl (wd G (cb X M) τ) H) (hS : va_S (g_A G) s.heap H locs) {ls : Array Slot} (hl : lv_has ls 4 [(0, .ref (G.2.1 39 0)), (1, .int x1)]) : W p l e rm_X12_found s m args below meth c H locs 0 0 (MQ below (va_Qi (fun r u => r = r0 ∧ u = (X, M0, τ)) (g_pw G) (g_A G)) args s 0 0 (g_A G)) (F0 m 63 ls []) := by
  obtain ⟨hx, hb, hr, hml, hown, hts, hlocks, hC⟩ := id C0
  unfold wb_X12_found_63 at hf
  refine lv_iload_n hx hb dX12_found_63 rfl (lv_at hl 1 rfl) ?_
  refine lv_bipush (v := 64) hx hb dX12_found_64 (by decide) ?_
  refine lv_icmp_gt (tgt := 221) hx hb dX12_found_66 (by decide) (fun hc_15 => ?_) (fun hc_15 => ?_)
  · have hf := g_pos hf hc_15
    refine lv_iconst (v := 3) hx hb dX12_found_221 (by decide) ?_
    cases hf
    exact x_iret hx hb hlocks hC hP hS hr dX12_found_222
  · have hf := g_neg hf hc_15
    refine lv_iconst (v := 0) hx hb dX12_found_69 (by decide) ?_
    refine lv_istore_n (lv' := [(2, .int 0), (0, .ref (G.2.1 39 0)), (1, .int x1)]) hx hb dX12_found_70 rfl hl (by decide) rfl (fun ls hl => ?_)
    exact lp_X12_found_71 C0 k63 hk63 1000 x1 0 M hf hP hS (lv_sub hl [1, 2, 0] rfl)
def wl_X12_found_63 (n : Nat) (x1 : Int32) (M : SM) : Option (Int32 × SM) := g_loop (α := Int32 × SM) (fun k a => wb_X12_found_63 (fun x1 M => k (x1, M)) a.1 a.2) n (x1, M)
set_option maxRecDepth 100000 in
set_option maxHeartbeats 4000000 in
theorem lp_X12_found_63 {p : Program} {l : Launch} {e : Env} {s : State} {m : MethodId} {args : Array Value} {below : List Frame} {meth : Method} {c : Code} {G : GP} {X : SM} {τ : SL} (C0 : g_mc p s m args meth c RX12 cX12_found (some .int) 4 G) {r0 : Int32} {M0 : SM} (n : Nat) : ∀ (x1 : Int32) (M : SM), wl_X12_found_63 n x1 M = some (r0, M0) → ∀ {H : Heap} {locs : List Loc}, va_P G.1 g_cl (wd G (cb X M) τ) H → va_S (g_A G) s.heap H locs → ∀ {ls : Array Slot}, lv_has ls 4 [(0, .ref (G.2.1 39 0)), (1, .int x1)] → W p l e rm_X12_found s m args below meth c H locs 0 0 (MQ below (va_Qi (fun r u => r = r0 ∧ u = (X, M0, τ)) (g_pw G) (g_A G)) args s 0 0 (g_A G)) (F0 m 63 ls []) := by
  induction n with
  | zero =>
    intro x1 M hf
    have hf : (none : Option (Int32 × SM)) = _ := hf
    cases hf
  | succ n ih =>
    intro x1 M hf H locs hP hS ls hl
    exact bk_X12_found_63 C0   (fun x1 M => wl_X12_found_63   n x1 M) ih x1 M hf hP hS hl
def wb_X12_found_37 (k37 : Int32 → SM → Option (Int32 × SM)) (x1 : Int32) (M : SM) : Option (Int32 × SM) :=
  if 6 ≤ x1 then
  (wl_X12_found_63 1000 0 M)
  else
  (if g_in x1 6 then
    if g_in x1 6 then
    g_let (u1 M 53 0 (x1.toNatClampNeg) (M 52 0 (x1.toNatClampNeg))) fun M_13 =>
    g_let (x1 + 1) fun x1_14 =>
    k37 x1_14 M_13
    else none
    else none)
set_option maxRecDepth 100000 in
set_option maxHeartbeats 4000000 in
theorem bk_X12_found_37 {p : Program} {l : Launch} {e : Env} {s : State} {m : MethodId} {args : Array Value} {below : List Frame} {meth : Method} {c : Code} {G : GP} {X : SM} {τ : SL} (C0 : g_mc p s m args meth c RX12 cX12_found (some .int) 4 G) {r0 : Int32} {M0 : SM} (k37 : Int32 → SM → Option (Int32 × SM)) (hk37 : ∀ (x1 : Int32) (M : SM), k37 x1 M = some (r0, M0) → ∀ {H : Heap} {locs : List Loc}, va_P G.1 g_cl (wd G (cb X M) τ) H → va_S (g_A G) s.heap H locs → ∀ {ls : Array Slot}, lv_has ls 4 [(0, .ref (G.2.1 39 0)), (1, .int x1)] → W p l e rm_X12_found s m args below meth c H locs 0 0 (MQ below (va_Qi (fun r u => r = r0 ∧ u = (X, M0, τ)) (g_pw G) (g_A G)) args s 0 0 (g_A G)) (F0 m 37 ls [])) (x1 : Int32) (M : SM) (hf : wb_X12_found_37 k37 x1 M = some (r0, M0)) {H : Heap} {locs : List Loc} (hP : va_P G.1 g_cl (wd G (cb X M) τ) H) (hS : va_S (g_A G) s.heap H locs) {ls : Array Slot} (hl : lv_has ls 4 [(0, .ref (G.2.1 39 0)), (1, .int x1)]) : W p l e rm_X12_found s m args below meth c H locs 0 0 (MQ below (va_Qi (fun r u => r = r0 ∧ u = (X, M0, τ)) (g_pw G) (g_A G)) args s 0 0 (g_A G)) (F0 m 37 ls []) := by
  obtain ⟨hx, hb, hr, hml, hown, hts, hlocks, hC⟩ := id C0
  unfold wb_X12_found_37 at hf
  refine lv_iload_n hx hb dX12_found_37 rfl (lv_at hl 1 rfl) ?_
  refine lv_bipush (v := 6) hx hb dX12_found_38 (by decide) ?_
  refine lv_icmp_ge (tgt := 61) hx hb dX12_found_40 (by decide) (fun hc_10 => ?_) (fun hc_10 => ?_)
  · have hf := g_pos hf hc_10
    refine lv_iconst (v := 0) hx hb dX12_found_61 (by decide) ?_
    refine lv_istore_n (lv' := [(1, .int 0), (0, .ref (G.2.1 39 0))]) hx hb dX12_found_62 rfl hl (by decide) rfl (fun ls hl => ?_)
    exact lp_X12_found_63 C0 1000 0 M hf hP hS (lv_sub hl [1, 0] rfl)
  · have hf := g_neg hf hc_10
    refine lv_aload_n hx hb dX12_found_43 rfl (lv_at hl 0 rfl) ?_
    refine gt_39_16 hx hb hts hown hC hP Nat.zero_lt_one q7_8 dX12_found_44 ?_
    refine lv_iload_n hx hb dX12_found_47 rfl (lv_at hl 1 rfl) ?_
    refine lv_aload_n hx hb dX12_found_48 rfl (lv_at hl 0 rfl) ?_
    refine gt_39_14 hx hb hts hown hC hP Nat.zero_lt_one q7_7 dX12_found_49 ?_
    refine lv_iload_n hx hb dX12_found_52 rfl (lv_at hl 1 rfl) ?_
    obtain ⟨hg_11, hf⟩ := g_gd hf
    refine xildM (k := 52) (n := 6) hx hb hC hP (fun _ _ => rfl) rfl Nat.zero_lt_one hg_11 dX12_found_53 ?_
    obtain ⟨hg_12, hf⟩ := g_gd hf
    obtain ⟨M_13, eM_13, hf⟩ := g_letE hf
    refine xistM (k := 53) (n := 6) hx hb hC hP hS (fun _ _ => rfl) rfl Nat.zero_lt_one hg_12 dX12_found_54 (fun H locs hP hS => ?_)
    rw [eM_13] at hP
    obtain ⟨x1_14, ex1_14, hf⟩ := g_letE hf
    refine lv_iinc (v := x1_14) (lv' := [(1, .int x1_14), (0, .ref (G.2.1 39 0))]) hx hb dX12_found_55 hl (k := 1) rfl (by rw [← ex1_14]; rfl) (by decide) rfl (fun ls hl => ?_)
    refine lv_goto (tgt := 37) hx hb dX12_found_58 (by decide) ?_
    exact hk37 x1_14 M_13 hf hP hS (lv_sub hl [1, 0] rfl)
def wl_X12_found_37 (n : Nat) (x1 : Int32) (M : SM) : Option (Int32 × SM) := g_loop (α := Int32 × SM) (fun k a => wb_X12_found_37 (fun x1 M => k (x1, M)) a.1 a.2) n (x1, M)
set_option maxRecDepth 100000 in
set_option maxHeartbeats 4000000 in
theorem lp_X12_found_37 {p : Program} {l : Launch} {e : Env} {s : State} {m : MethodId} {args : Array Value} {below : List Frame} {meth : Method} {c : Code} {G : GP} {X : SM} {τ : SL} (C0 : g_mc p s m args meth c RX12 cX12_found (some .int) 4 G) {r0 : Int32} {M0 : SM} (n : Nat) : ∀ (x1 : Int32) (M : SM), wl_X12_found_37 n x1 M = some (r0, M0) → ∀ {H : Heap} {locs : List Loc}, va_P G.1 g_cl (wd G (cb X M) τ) H → va_S (g_A G) s.heap H locs → ∀ {ls : Array Slot}, lv_has ls 4 [(0, .ref (G.2.1 39 0)), (1, .int x1)] → W p l e rm_X12_found s m args below meth c H locs 0 0 (MQ below (va_Qi (fun r u => r = r0 ∧ u = (X, M0, τ)) (g_pw G) (g_A G)) args s 0 0 (g_A G)) (F0 m 37 ls []) := by
  induction n with
  | zero =>
    intro x1 M hf
    have hf : (none : Option (Int32 × SM)) = _ := hf
    cases hf
  | succ n ih =>
    intro x1 M hf H locs hP hS ls hl
    exact bk_X12_found_37 C0   (fun x1 M => wl_X12_found_37   n x1 M) ih x1 M hf hP hS hl
def fn_X12_found (M : SM) : Option (Int32 × SM) :=
  g_let (u1 M 39 0 15 0) fun M_1 =>
  (fn_X12_isAsked M_1).bind fun r_2 =>
  if r_2 = 0 then
  (g_let (u1 M_1 39 0 12 1) fun M_8 =>
    g_let (u1 M_8 50 0 (Int32.toNatClampNeg 0) (-1)) fun M_9 =>
    some (0, M_9))
  else
  ((fn_X12_isTooMuch M_1).bind fun r_5 =>
    if r_5 = 0 then
    (wl_X12_found_37 1000 0 M_1)
    else
    (some (1, M_1)))
set_option maxRecDepth 100000 in
set_option maxHeartbeats 4000000 in
theorem wk_X12_found {p : Program} {l : Launch} {e : Env} {s : State} {m : MethodId} {args : Array Value} {below : List Frame} {meth : Method} {c : Code} {G : GP} {X : SM} {τ : SL} (C0 : g_mc p s m args meth c RX12 cX12_found (some .int) 4 G) {r0 : Int32} {M0 : SM} (M : SM) (hf : fn_X12_found M = some (r0, M0)) {H : Heap} {locs : List Loc} (hP : va_P G.1 g_cl (wd G (cb X M) τ) H) (hS : va_S (g_A G) s.heap H locs) {ls : Array Slot} (hl : lv_has ls 4 [(0, .ref (G.2.1 39 0))]) : W p l e rm_X12_found s m args below meth c H locs 0 0 (MQ below (va_Qi (fun r u => r = r0 ∧ u = (X, M0, τ)) (g_pw G) (g_A G)) args s 0 0 (g_A G)) (F0 m 0 ls []) := by
  obtain ⟨hx, hb, hr, hml, hown, hts, hlocks, hC⟩ := id C0
  unfold fn_X12_found at hf
  refine lv_aload_n hx hb dX12_found_0 rfl (lv_at hl 0 rfl) ?_
  refine lv_iconst (v := 0) hx hb dX12_found_1 (by decide) ?_
  obtain ⟨M_1, eM_1, hf⟩ := g_letE hf
  refine pt_39_15 hx hb hts hown hC hP hS Nat.zero_lt_one q8_18 dX12_found_2 (fun H locs hP hS => ?_)
  rw [eM_1] at hP
  refine lv_aload_n hx hb dX12_found_5 rfl (lv_at hl 0 rfl) ?_
  obtain ⟨r_2, hc_3, hf⟩ := g_bindE hf
  refine x_calli (v := (X, M_1, τ)) (va_runV (As := []) (rest := []) ⟨hx, hb, hml, hown, hts⟩ (ct_X12_isAsked l G X M_1 τ  hc_3) (cwV 0 hts gd_X12_100 rfl rfl rfl hd_X12_isAsked ⟨Nat.le_of_ble_eq_true rfl, Nat.le_of_ble_eq_true rfl⟩) (x_preV (u := (X, M_1, τ)) (k := 39) (ci := 12) hC hS hP Nat.zero_lt_one rfl rfl) rfl rfl hl.1 rfl (lv_room (Nat.le_of_ble_eq_true rfl)) dX12_found_6 ⟨Nat.zero_le _, Nat.zero_le _⟩) hS (fun H locs hP hS => ?_)
  refine lv_if_ne (tgt := 26) hx hb dX12_found_9 (by decide) (fun hc_4 => ?_) (fun hc_4 => ?_)
  · have hf := g_neg hf hc_4
    refine lv_aload_n hx hb dX12_found_26 rfl (lv_at hl 0 rfl) ?_
    obtain ⟨r_5, hc_6, hf⟩ := g_bindE hf
    refine x_calli (v := (X, M_1, τ)) (va_runV (As := []) (rest := []) ⟨hx, hb, hml, hown, hts⟩ (ct_X12_isTooMuch l G X M_1 τ  hc_6) (cwV 0 hts gd_X12_104 rfl rfl rfl hd_X12_isTooMuch ⟨Nat.le_of_ble_eq_true rfl, Nat.le_of_ble_eq_true rfl⟩) (x_preV (u := (X, M_1, τ)) (k := 39) (ci := 12) hC hS hP Nat.zero_lt_one rfl rfl) rfl rfl hl.1 rfl (lv_room (Nat.le_of_ble_eq_true rfl)) dX12_found_27 ⟨Nat.zero_le _, Nat.zero_le _⟩) hS (fun H locs hP hS => ?_)
    refine lv_if_eq (tgt := 35) hx hb dX12_found_30 (by decide) (fun hc_7 => ?_) (fun hc_7 => ?_)
    · have hf := g_pos hf hc_7
      refine lv_iconst (v := 0) hx hb dX12_found_35 (by decide) ?_
      refine lv_istore_n (lv' := [(1, .int 0), (0, .ref (G.2.1 39 0))]) hx hb dX12_found_36 rfl hl (by decide) rfl (fun ls hl => ?_)
      exact lp_X12_found_37 C0 1000 0 M_1 hf hP hS (lv_sub hl [1, 0] rfl)
    · have hf := g_neg hf hc_7
      refine lv_iconst (v := 1) hx hb dX12_found_33 (by decide) ?_
      cases hf
      exact x_iret hx hb hlocks hC hP hS hr dX12_found_34
  · have hf := g_pos hf hc_4
    refine lv_aload_n hx hb dX12_found_12 rfl (lv_at hl 0 rfl) ?_
    refine lv_iconst (v := 1) hx hb dX12_found_13 (by decide) ?_
    obtain ⟨M_8, eM_8, hf⟩ := g_letE hf
    refine pt_39_12 hx hb hts hown hC hP hS Nat.zero_lt_one q7_5 dX12_found_14 (fun H locs hP hS => ?_)
    rw [eM_8] at hP
    refine lv_aload_n hx hb dX12_found_17 rfl (lv_at hl 0 rfl) ?_
    refine gt_39_11 hx hb hts hown hC hP Nat.zero_lt_one q7_4 dX12_found_18 ?_
    refine lv_iconst (v := 0) hx hb dX12_found_21 (by decide) ?_
    refine lv_iconst (v := (-1)) hx hb dX12_found_22 (by decide) ?_
    obtain ⟨M_9, eM_9, hf⟩ := g_letE hf
    refine xistM (k := 50) (n := 16) hx hb hC hP hS (fun _ _ => rfl) rfl Nat.zero_lt_one (by decide) dX12_found_23 (fun H locs hP hS => ?_)
    rw [eM_9] at hP
    refine lv_iconst (v := 0) hx hb dX12_found_24 (by decide) ?_
    cases hf
    exact x_iret hx hb hlocks hC hP hS hr dX12_found_25
set_option maxRecDepth 100000 in
set_option maxHeartbeats 4000000 in
theorem ct_X12_found (l : Launch) (G : GP) (X M : SM) (τ : SL) {r0 : Int32} {M0 : SM} (hf : fn_X12_found M = some (r0, M0)) : Met l yX12_found (wz yX12_found cX12_found 4 (some .int)) rm_X12_found (va_Pc [.ref (G.2.1 39 0)] (g_pw G (X, M, τ))) (va_Qi (fun r u => r = r0 ∧ u = (X, M0, τ)) (g_pw G) (g_A G)) 0 0 (g_A G) := by
  refine Met.ofW (cc := cX12_found) (maxL := 4) (ret := (some .int)) (by decide +kernel) rfl ?_
  intro p e s m args below meth c s₁ B hml hv
  obtain ⟨rfl, hC, hP⟩ := hv
  have C0 : g_mc p s m _ meth c RX12 cX12_found (some .int) 4 G := ⟨B.exec, B.bytes, B.returns, hml, findClass_of_methodNamed B.named, fun w h => atoms_spec (ws := wz yX12_found cX12_found 4 (some .int)) B.pre w (List.mem_cons_of_mem _ h), B.notSynchronized, hC⟩
  have hl := lv_entry ([.ref (G.2.1 39 0)]) (n := 4) (Nat.le_of_ble_eq_true rfl)
  rw [lg_entry_eq]
  generalize (lg_sl ([.ref (G.2.1 39 0)]) ++ List.replicate (4 - (lg_sl ([.ref (G.2.1 39 0)])).length) Slot.unset).toArray = ls at hl ⊢
  exact wk_X12_found C0  M hf hP va_S.rf hl
