abbrev rm_X11_edge : Room := { frames := 1, cells := 0, slots := 0, locals := 24 }
def fn_X11_edge (x1 : Int32) (x2 : Int32) (X : SM) : Option (Int32) :=
  (fn_X3_look 0 x1 x2 X).bind fun r_1 =>
  some r_1
set_option maxRecDepth 100000 in
set_option maxHeartbeats 4000000 in
theorem wk_X11_edge {p : Program} {l : Launch} {e : Env} {s : State} {m : MethodId} {args : Array Value} {below : List Frame} {meth : Method} {c : Code} {G : GP} {M : SM} {τ : SL} (C0 : g_mc p s m args meth c RX11 cX11_edge (some .int) 3 G) {r0 : Int32} (x1 : Int32) (x2 : Int32) (X : SM) (hf : fn_X11_edge x1 x2 X = some r0) {H : Heap} {locs : List Loc} (hP : va_P G.1 g_cl (wd G (cb X M) τ) H) (hS : va_S (g_A G) s.heap H locs) {ls : Array Slot} (hl : lv_has ls 3 [(0, .ref (G.2.1 11 0)), (1, .int x1), (2, .int x2)]) : W p l e rm_X11_edge s m args below meth c H locs 0 0 (MQ below (va_Qi (fun r u => r = r0 ∧ u = (X, M, τ)) (g_pw G) (g_A G)) args s 0 0 (g_A G)) (F0 m 0 ls []) := by
  obtain ⟨hx, hb, hr, hml, hown, hts, hlocks, hC⟩ := id C0
  unfold fn_X11_edge at hf
  refine lv_aload_n hx hb dX11_edge_0 rfl (lv_at hl 0 rfl) ?_
  refine gt_11_2 hx hb hts hown hC hP Nat.zero_lt_one q2_0 dX11_edge_1 ?_
  refine gt_7_1 hx hb hts hown hC hP (by decide) q11_21 dX11_edge_4 ?_
  refine gt_8_2 hx hb hts hown hC hP (by decide) q34_0 dX11_edge_7 ?_
  refine lv_iload_n hx hb dX11_edge_10 rfl (lv_at hl 1 rfl) ?_
  refine lv_iload_n hx hb dX11_edge_11 rfl (lv_at hl 2 rfl) ?_
  obtain ⟨r_1, hc_2, hf⟩ := g_bindE hf
  refine x_calli (v := (X, M, τ)) (va_runV (As := [.int x1, .int x2]) (rest := []) ⟨hx, hb, hml, hown, hts⟩ (ct_X3_look l G X M τ 0 (by decide) x1 x2 hc_2) (cwV 2 hts gd_X11_216 rfl rfl rfl hd_X3_look ⟨Nat.le_of_ble_eq_true rfl, Nat.le_of_ble_eq_true rfl⟩) (x_preV (u := (X, M, τ)) (k := 3) (ci := 3) hC hS hP (by decide) rfl rfl) rfl rfl hl.1 rfl (lv_room (Nat.le_of_ble_eq_true rfl)) dX11_edge_12 ⟨Nat.zero_le _, Nat.zero_le _⟩) hS (fun H locs hP hS => ?_)
  cases hf
  exact x_iret hx hb hlocks hC hP hS hr dX11_edge_15
set_option maxRecDepth 100000 in
set_option maxHeartbeats 4000000 in
theorem ct_X11_edge (l : Launch) (G : GP) (X M : SM) (τ : SL) (x1 : Int32) (x2 : Int32) {r0 : Int32} (hf : fn_X11_edge x1 x2 X = some r0) : Met l yX11_edge (wz yX11_edge cX11_edge 3 (some .int)) rm_X11_edge (va_Pc [.ref (G.2.1 11 0), .int x1, .int x2] (g_pw G (X, M, τ))) (va_Qi (fun r u => r = r0 ∧ u = (X, M, τ)) (g_pw G) (g_A G)) 0 0 (g_A G) := by
  refine Met.ofW (cc := cX11_edge) (maxL := 3) (ret := (some .int)) (by decide +kernel) rfl ?_
  intro p e s m args below meth c s₁ B hml hv
  obtain ⟨rfl, hC, hP⟩ := hv
  have C0 : g_mc p s m _ meth c RX11 cX11_edge (some .int) 3 G := ⟨B.exec, B.bytes, B.returns, hml, findClass_of_methodNamed B.named, fun w h => atoms_spec (ws := wz yX11_edge cX11_edge 3 (some .int)) B.pre w (List.mem_cons_of_mem _ h), B.notSynchronized, hC⟩
  have hl := lv_entry ([.ref (G.2.1 11 0), .int x1, .int x2]) (n := 3) (Nat.le_of_ble_eq_true rfl)
  rw [lg_entry_eq]
  generalize (lg_sl ([.ref (G.2.1 11 0), .int x1, .int x2]) ++ List.replicate (3 - (lg_sl ([.ref (G.2.1 11 0), .int x1, .int x2])).length) Slot.unset).toArray = ls at hl ⊢
  exact wk_X11_edge C0  x1 x2 X hf hP va_S.rf hl
abbrev rm_X5_append : Room := { frames := 0, cells := 0, slots := 0, locals := 0 }
def fn_X5_append (x1 : Int32) (x2 : Int32) (x3 : Int32) (X : SM) : Option (Int32 × SM) :=
  if (X 5 0 3) < 0 then
  (some ((-1), X))
  else
  (if (X 5 0 3) < 32 then
    (if g_in (X 5 0 3) 32 then
      g_let (u1 X 22 0 ((X 5 0 3).toNatClampNeg) x1) fun X_4 =>
      if g_in (X_4 5 0 3) 32 then
      g_let (u1 X_4 23 0 ((X_4 5 0 3).toNatClampNeg) x2) fun X_6 =>
      if g_in (X_6 5 0 3) 32 then
      g_let (u1 X_6 24 0 ((X_6 5 0 3).toNatClampNeg) x3) fun X_8 =>
      g_let (u1 X_8 5 0 3 ((X_8 5 0 3) + 1)) fun X_9 =>
      some ((X_9 5 0 3), X_9)
      else none
      else none
      else none)
    else
    (some ((-1), X)))
set_option maxRecDepth 100000 in
set_option maxHeartbeats 4000000 in
theorem wk_X5_append {p : Program} {l : Launch} {e : Env} {s : State} {m : MethodId} {args : Array Value} {below : List Frame} {meth : Method} {c : Code} {G : GP} {M : SM} {τ : SL} (C0 : g_mc p s m args meth c RX5 cX5_append (some .int) 4 G) {r0 : Int32} {X0 : SM} (x1 : Int32) (x2 : Int32) (x3 : Int32) (X : SM) (hf : fn_X5_append x1 x2 x3 X = some (r0, X0)) {H : Heap} {locs : List Loc} (hP : va_P G.1 g_cl (wd G (cb X M) τ) H) (hS : va_S (g_A G) s.heap H locs) {ls : Array Slot} (hl : lv_has ls 4 [(0, .ref (G.2.1 5 0)), (1, .int x1), (2, .int x2), (3, .int x3)]) : W p l e rm_X5_append s m args below meth c H locs 0 0 (MQ below (va_Qi (fun r u => r = r0 ∧ u = (X0, M, τ)) (g_pw G) (g_A G)) args s 0 0 (g_A G)) (F0 m 0 ls []) := by
  obtain ⟨hx, hb, hr, hml, hown, hts, hlocks, hC⟩ := id C0
  unfold fn_X5_append at hf
  refine lv_aload_n hx hb dX5_append_0 rfl (lv_at hl 0 rfl) ?_
  refine gt_5_3 hx hb hts hown hC hP Nat.zero_lt_one q12_22 dX5_append_1 ?_
  refine lv_if_lt (tgt := 16) hx hb dX5_append_4 (by decide) (fun hc_1 => ?_) (fun hc_1 => ?_)
  · have hf := g_pos hf hc_1
    refine lv_iconst (v := (-1)) hx hb dX5_append_16 (by decide) ?_
    cases hf
    exact x_iret hx hb hlocks hC hP hS hr dX5_append_17
  · have hf := g_neg hf hc_1
    refine lv_aload_n hx hb dX5_append_7 rfl (lv_at hl 0 rfl) ?_
    refine gt_5_3 hx hb hts hown hC hP Nat.zero_lt_one q12_22 dX5_append_8 ?_
    refine lv_bipush (v := 32) hx hb dX5_append_11 (by decide) ?_
    refine lv_icmp_lt (tgt := 18) hx hb dX5_append_13 (by decide) (fun hc_2 => ?_) (fun hc_2 => ?_)
    · have hf := g_pos hf hc_2
      refine lv_aload_n hx hb dX5_append_18 rfl (lv_at hl 0 rfl) ?_
      refine gt_5_0 hx hb hts hown hC hP Nat.zero_lt_one q3_2 dX5_append_19 ?_
      refine lv_aload_n hx hb dX5_append_22 rfl (lv_at hl 0 rfl) ?_
      refine gt_5_3 hx hb hts hown hC hP Nat.zero_lt_one q12_22 dX5_append_23 ?_
      refine lv_iload_n hx hb dX5_append_26 rfl (lv_at hl 1 rfl) ?_
      obtain ⟨hg_3, hf⟩ := g_gd hf
      obtain ⟨X_4, eX_4, hf⟩ := g_letE hf
      refine xistX (k := 22) (n := 32) hx hb hC hP hS (fun _ _ => rfl) rfl Nat.zero_lt_one hg_3 dX5_append_27 (fun H locs hP hS => ?_)
      rw [eX_4] at hP
      refine lv_aload_n hx hb dX5_append_28 rfl (lv_at hl 0 rfl) ?_
      refine gt_5_1 hx hb hts hown hC hP Nat.zero_lt_one q3_3 dX5_append_29 ?_
      refine lv_aload_n hx hb dX5_append_32 rfl (lv_at hl 0 rfl) ?_
      refine gt_5_3 hx hb hts hown hC hP Nat.zero_lt_one q12_22 dX5_append_33 ?_
      refine lv_iload_n hx hb dX5_append_36 rfl (lv_at hl 2 rfl) ?_
      obtain ⟨hg_5, hf⟩ := g_gd hf
      obtain ⟨X_6, eX_6, hf⟩ := g_letE hf
      refine xistX (k := 23) (n := 32) hx hb hC hP hS (fun _ _ => rfl) rfl Nat.zero_lt_one hg_5 dX5_append_37 (fun H locs hP hS => ?_)
      rw [eX_6] at hP
      refine lv_aload_n hx hb dX5_append_38 rfl (lv_at hl 0 rfl) ?_
      refine gt_5_2 hx hb hts hown hC hP Nat.zero_lt_one q3_4 dX5_append_39 ?_
      refine lv_aload_n hx hb dX5_append_42 rfl (lv_at hl 0 rfl) ?_
      refine gt_5_3 hx hb hts hown hC hP Nat.zero_lt_one q12_22 dX5_append_43 ?_
      refine lv_iload_n hx hb dX5_append_46 rfl (lv_at hl 3 rfl) ?_
      obtain ⟨hg_7, hf⟩ := g_gd hf
      obtain ⟨X_8, eX_8, hf⟩ := g_letE hf
      refine xistX (k := 24) (n := 32) hx hb hC hP hS (fun _ _ => rfl) rfl Nat.zero_lt_one hg_7 dX5_append_47 (fun H locs hP hS => ?_)
      rw [eX_8] at hP
      refine lv_aload_n hx hb dX5_append_48 rfl (lv_at hl 0 rfl) ?_
      refine lv_dup hx hb dX5_append_49 rfl ?_
      refine gt_5_3 hx hb hts hown hC hP Nat.zero_lt_one q12_22 dX5_append_50 ?_
      refine lv_iconst (v := 1) hx hb dX5_append_53 (by decide) ?_
      refine lv_iadd hx hb dX5_append_54 ?_
      obtain ⟨X_9, eX_9, hf⟩ := g_letE hf
      refine pt_5_3 hx hb hts hown hC hP hS Nat.zero_lt_one q12_22 dX5_append_55 (fun H locs hP hS => ?_)
      rw [eX_9] at hP
      refine lv_aload_n hx hb dX5_append_58 rfl (lv_at hl 0 rfl) ?_
      refine gt_5_3 hx hb hts hown hC hP Nat.zero_lt_one q12_22 dX5_append_59 ?_
      cases hf
      exact x_iret hx hb hlocks hC hP hS hr dX5_append_62
    · have hf := g_neg hf hc_2
      refine lv_iconst (v := (-1)) hx hb dX5_append_16 (by decide) ?_
      cases hf
      exact x_iret hx hb hlocks hC hP hS hr dX5_append_17
set_option maxRecDepth 100000 in
set_option maxHeartbeats 4000000 in
theorem ct_X5_append (l : Launch) (G : GP) (X M : SM) (τ : SL) (x1 : Int32) (x2 : Int32) (x3 : Int32) {r0 : Int32} {X0 : SM} (hf : fn_X5_append x1 x2 x3 X = some (r0, X0)) : Met l yX5_append (wz yX5_append cX5_append 4 (some .int)) rm_X5_append (va_Pc [.ref (G.2.1 5 0), .int x1, .int x2, .int x3] (g_pw G (X, M, τ))) (va_Qi (fun r u => r = r0 ∧ u = (X0, M, τ)) (g_pw G) (g_A G)) 0 0 (g_A G) := by
  refine Met.ofW (cc := cX5_append) (maxL := 4) (ret := (some .int)) (by decide +kernel) rfl ?_
  intro p e s m args below meth c s₁ B hml hv
  obtain ⟨rfl, hC, hP⟩ := hv
  have C0 : g_mc p s m _ meth c RX5 cX5_append (some .int) 4 G := ⟨B.exec, B.bytes, B.returns, hml, findClass_of_methodNamed B.named, fun w h => atoms_spec (ws := wz yX5_append cX5_append 4 (some .int)) B.pre w (List.mem_cons_of_mem _ h), B.notSynchronized, hC⟩
  have hl := lv_entry ([.ref (G.2.1 5 0), .int x1, .int x2, .int x3]) (n := 4) (Nat.le_of_ble_eq_true rfl)
  rw [lg_entry_eq]
  generalize (lg_sl ([.ref (G.2.1 5 0), .int x1, .int x2, .int x3]) ++ List.replicate (4 - (lg_sl ([.ref (G.2.1 5 0), .int x1, .int x2, .int x3])).length) Slot.unset).toArray = ls at hl ⊢
  exact wk_X5_append C0  x1 x2 x3 X hf hP va_S.rf hl
abbrev rm_X11_event : Room := { frames := 2, cells := 0, slots := 0, locals := 41 }
def fn_X11_event (x1 : Int32) (x2 : Int32) (x3 : Int32) (X : SM) : Option (Int32 × SM) :=
  (fn_X8_kindOf 0 x1 X).bind fun r_1 =>
  if r_1 = 0 then
  (if x2 < (X 7 0 5) then
    (some ((-1), X))
    else
    (if x2 ≤ 99999 then
      (if x3 = 0 then
        ((fn_X5_append x1 x2 0 X).bind fun (r_7, X_8) =>
          some (r_7, X_8))
        else
        ((fn_X5_append x1 x2 1 X).bind fun (r_10, X_11) =>
          some (r_10, X_11)))
      else
      (some ((-1), X))))
  else
  (some ((-1), X))
set_option maxRecDepth 100000 in
set_option maxHeartbeats 4000000 in
theorem wk_X11_event {p : Program} {l : Launch} {e : Env} {s : State} {m : MethodId} {args : Array Value} {below : List Frame} {meth : Method} {c : Code} {G : GP} {M : SM} {τ : SL} (C0 : g_mc p s m args meth c RX11 cX11_event (some .int) 4 G) {r0 : Int32} {X0 : SM} (x1 : Int32) (x2 : Int32) (x3 : Int32) (X : SM) (hf : fn_X11_event x1 x2 x3 X = some (r0, X0)) {H : Heap} {locs : List Loc} (hP : va_P G.1 g_cl (wd G (cb X M) τ) H) (hS : va_S (g_A G) s.heap H locs) {ls : Array Slot} (hl : lv_has ls 4 [(0, .ref (G.2.1 11 0)), (1, .int x1), (2, .int x2), (3, .int x3)]) : W p l e rm_X11_event s m args below meth c H locs 0 0 (MQ below (va_Qi (fun r u => r = r0 ∧ u = (X0, M, τ)) (g_pw G) (g_A G)) args s 0 0 (g_A G)) (F0 m 0 ls []) := by
  obtain ⟨hx, hb, hr, hml, hown, hts, hlocks, hC⟩ := id C0
  unfold fn_X11_event at hf
  refine lv_aload_n hx hb dX11_event_0 rfl (lv_at hl 0 rfl) ?_
  refine gt_11_2 hx hb hts hown hC hP Nat.zero_lt_one q2_0 dX11_event_1 ?_
  refine gt_7_1 hx hb hts hown hC hP (by decide) q11_21 dX11_event_4 ?_
  refine lv_iload_n hx hb dX11_event_7 rfl (lv_at hl 1 rfl) ?_
  obtain ⟨r_1, hc_2, hf⟩ := g_bindE hf
  refine x_calli (v := (X, M, τ)) (va_runV (As := [.int x1]) (rest := []) ⟨hx, hb, hml, hown, hts⟩ (ct_X8_kindOf l G X M τ 0 (by decide) x1 hc_2) (cwV 1 hts gd_X11_111 rfl rfl rfl hd_X8_kindOf ⟨Nat.le_of_ble_eq_true rfl, Nat.le_of_ble_eq_true rfl⟩) (x_preV (u := (X, M, τ)) (k := 8) (ci := 8) hC hS hP (by decide) rfl rfl) rfl rfl hl.1 rfl (lv_room (Nat.le_of_ble_eq_true rfl)) dX11_event_8 ⟨Nat.zero_le _, Nat.zero_le _⟩) hS (fun H locs hP hS => ?_)
  refine lv_if_ne (tgt := 31) hx hb dX11_event_11 (by decide) (fun hc_3 => ?_) (fun hc_3 => ?_)
  · have hf := g_neg hf hc_3
    refine lv_iconst (v := (-1)) hx hb dX11_event_31 (by decide) ?_
    cases hf
    exact x_iret hx hb hlocks hC hP hS hr dX11_event_32
  · have hf := g_pos hf hc_3
    refine lv_iload_n hx hb dX11_event_14 rfl (lv_at hl 2 rfl) ?_
    refine lv_aload_n hx hb dX11_event_15 rfl (lv_at hl 0 rfl) ?_
    refine gt_11_2 hx hb hts hown hC hP Nat.zero_lt_one q2_0 dX11_event_16 ?_
    refine gt_7_5 hx hb hts hown hC hP (by decide) q12_12 dX11_event_19 ?_
    refine lv_icmp_lt (tgt := 31) hx hb dX11_event_22 (by decide) (fun hc_4 => ?_) (fun hc_4 => ?_)
    · have hf := g_pos hf hc_4
      refine lv_iconst (v := (-1)) hx hb dX11_event_31 (by decide) ?_
      cases hf
      exact x_iret hx hb hlocks hC hP hS hr dX11_event_32
    · have hf := g_neg hf hc_4
      refine lv_iload_n hx hb dX11_event_25 rfl (lv_at hl 2 rfl) ?_
      refine lv_ldc (v := 99999) hx hb hown (hts _ q12_13) dX11_event_26 ?_
      refine lv_icmp_le (tgt := 33) hx hb dX11_event_28 (by decide) (fun hc_5 => ?_) (fun hc_5 => ?_)
      · have hf := g_pos hf hc_5
        refine lv_aload_n hx hb dX11_event_33 rfl (lv_at hl 0 rfl) ?_
        refine gt_11_1 hx hb hts hown hC hP Nat.zero_lt_one q1_20 dX11_event_34 ?_
        refine lv_iload_n hx hb dX11_event_37 rfl (lv_at hl 1 rfl) ?_
        refine lv_iload_n hx hb dX11_event_38 rfl (lv_at hl 2 rfl) ?_
        refine lv_iload_n hx hb dX11_event_39 rfl (lv_at hl 3 rfl) ?_
        refine lv_if_eq (tgt := 47) hx hb dX11_event_40 (by decide) (fun hc_6 => ?_) (fun hc_6 => ?_)
        · have hf := g_pos hf hc_6
          refine lv_iconst (v := 0) hx hb dX11_event_47 (by decide) ?_
          obtain ⟨⟨r_7, X_8⟩, hc_9, hf⟩ := g_bindE hf
          refine x_calli (v := (X_8, M, τ)) (va_runV (As := [.int x1, .int x2, .int 0]) (rest := []) ⟨hx, hb, hml, hown, hts⟩ (ct_X5_append l G X M τ x1 x2 0 hc_9) (cwV 3 hts gd_X11_118 rfl rfl rfl hd_X5_append ⟨Nat.le_of_ble_eq_true rfl, Nat.le_of_ble_eq_true rfl⟩) (x_preV (u := (X, M, τ)) (k := 5) (ci := 5) hC hS hP Nat.zero_lt_one rfl rfl) rfl rfl hl.1 rfl (lv_room (Nat.le_of_ble_eq_true rfl)) dX11_event_48 ⟨Nat.zero_le _, Nat.zero_le _⟩) hS (fun H locs hP hS => ?_)
          cases hf
          exact x_iret hx hb hlocks hC hP hS hr dX11_event_51
        · have hf := g_neg hf hc_6
          refine lv_iconst (v := 1) hx hb dX11_event_43 (by decide) ?_
          refine lv_goto (tgt := 48) hx hb dX11_event_44 (by decide) ?_
          obtain ⟨⟨r_10, X_11⟩, hc_12, hf⟩ := g_bindE hf
          refine x_calli (v := (X_11, M, τ)) (va_runV (As := [.int x1, .int x2, .int 1]) (rest := []) ⟨hx, hb, hml, hown, hts⟩ (ct_X5_append l G X M τ x1 x2 1 hc_12) (cwV 3 hts gd_X11_118 rfl rfl rfl hd_X5_append ⟨Nat.le_of_ble_eq_true rfl, Nat.le_of_ble_eq_true rfl⟩) (x_preV (u := (X, M, τ)) (k := 5) (ci := 5) hC hS hP Nat.zero_lt_one rfl rfl) rfl rfl hl.1 rfl (lv_room (Nat.le_of_ble_eq_true rfl)) dX11_event_48 ⟨Nat.zero_le _, Nat.zero_le _⟩) hS (fun H locs hP hS => ?_)
          cases hf
          exact x_iret hx hb hlocks hC hP hS hr dX11_event_51
      · have hf := g_neg hf hc_5
        refine lv_iconst (v := (-1)) hx hb dX11_event_31 (by decide) ?_
        cases hf
        exact x_iret hx hb hlocks hC hP hS hr dX11_event_32
set_option maxRecDepth 100000 in
set_option maxHeartbeats 4000000 in
theorem ct_X11_event (l : Launch) (G : GP) (X M : SM) (τ : SL) (x1 : Int32) (x2 : Int32) (x3 : Int32) {r0 : Int32} {X0 : SM} (hf : fn_X11_event x1 x2 x3 X = some (r0, X0)) : Met l yX11_event (wz yX11_event cX11_event 4 (some .int)) rm_X11_event (va_Pc [.ref (G.2.1 11 0), .int x1, .int x2, .int x3] (g_pw G (X, M, τ))) (va_Qi (fun r u => r = r0 ∧ u = (X0, M, τ)) (g_pw G) (g_A G)) 0 0 (g_A G) := by
  refine Met.ofW (cc := cX11_event) (maxL := 4) (ret := (some .int)) (by decide +kernel) rfl ?_
  intro p e s m args below meth c s₁ B hml hv
  obtain ⟨rfl, hC, hP⟩ := hv
  have C0 : g_mc p s m _ meth c RX11 cX11_event (some .int) 4 G := ⟨B.exec, B.bytes, B.returns, hml, findClass_of_methodNamed B.named, fun w h => atoms_spec (ws := wz yX11_event cX11_event 4 (some .int)) B.pre w (List.mem_cons_of_mem _ h), B.notSynchronized, hC⟩
  have hl := lv_entry ([.ref (G.2.1 11 0), .int x1, .int x2, .int x3]) (n := 4) (Nat.le_of_ble_eq_true rfl)
  rw [lg_entry_eq]
  generalize (lg_sl ([.ref (G.2.1 11 0), .int x1, .int x2, .int x3]) ++ List.replicate (4 - (lg_sl ([.ref (G.2.1 11 0), .int x1, .int x2, .int x3])).length) Slot.unset).toArray = ls at hl ⊢
  exact wk_X11_event C0  x1 x2 x3 X hf hP va_S.rf hl
abbrev rm_X6_note : Room := { frames := 0, cells := 0, slots := 0, locals := 0 }
def wb_X6_note_2 (k2 : Int32 → Int32 → SM → Option (SM)) (x2 : Int32) (x3 : Int32) (X : SM) : Option (SM) :=
  if 6 ≤ x3 then
  (some X)
  else
  (if g_in x3 6 then
    if (X 36 0 (x3.toNatClampNeg)) ≤ 0 then
    (if g_in ((x2 * 6) + x3) 390 then
      g_let (u1 X 26 0 (((x2 * 6) + x3).toNatClampNeg) 0) fun X_5 =>
      g_let (x3 + 1) fun x3_6 =>
      k2 x2 x3_6 X_5
      else none)
    else
    (if g_in x3 6 then
      if g_in ((x2 * 6) + x3) 390 then
      g_let (u1 X 26 0 (((x2 * 6) + x3).toNatClampNeg) ((X 25 0 (x3.toNatClampNeg)) - x2)) fun X_9 =>
      g_let (x3 + 1) fun x3_10 =>
      k2 x2 x3_10 X_9
      else none
      else none)
    else none)
set_option maxRecDepth 100000 in
set_option maxHeartbeats 4000000 in
theorem bk_X6_note_2 {p : Program} {l : Launch} {e : Env} {s : State} {m : MethodId} {args : Array Value} {below : List Frame} {meth : Method} {c : Code} {G : GP} {M : SM} {τ : SL} (C0 : g_mc p s m args meth c RX6 cX6_note none 4 G) {X0 : SM} (k2 : Int32 → Int32 → SM → Option (SM)) (hk2 : ∀ (x2 : Int32) (x3 : Int32) (X : SM), k2 x2 x3 X = some X0 → ∀ {H : Heap} {locs : List Loc}, va_P G.1 g_cl (wd G (cb X M) τ) H → va_S (g_A G) s.heap H locs → ∀ {ls : Array Slot}, lv_has ls 4 [(0, .ref (G.2.1 6 0)), (1, .ref (G.2.1 36 0)), (2, .int x2), (3, .int x3)] → W p l e rm_X6_note s m args below meth c H locs 0 0 (MQ below (va_Qv (fun u => u = (X0, M, τ)) (g_pw G) (g_A G)) args s 0 0 (g_A G)) (F0 m 2 ls [])) (x2 : Int32) (x3 : Int32) (X : SM) (hf : wb_X6_note_2 k2 x2 x3 X = some X0) {H : Heap} {locs : List Loc} (hP : va_P G.1 g_cl (wd G (cb X M) τ) H) (hS : va_S (g_A G) s.heap H locs) {ls : Array Slot} (hl : lv_has ls 4 [(0, .ref (G.2.1 6 0)), (1, .ref (G.2.1 36 0)), (2, .int x2), (3, .int x3)]) : W p l e rm_X6_note s m args below meth c H locs 0 0 (MQ below (va_Qv (fun u => u = (X0, M, τ)) (g_pw G) (g_A G)) args s 0 0 (g_A G)) (F0 m 2 ls []) := by
  obtain ⟨hx, hb, hr, hml, hown, hts, hlocks, hC⟩ := id C0
  unfold wb_X6_note_2 at hf
  refine lv_iload_n hx hb dX6_note_2 rfl (lv_at hl 3 rfl) ?_
  refine lv_bipush (v := 6) hx hb dX6_note_3 (by decide) ?_
  refine lv_icmp_ge (tgt := 43) hx hb dX6_note_5 (by decide) (fun hc_1 => ?_) (fun hc_1 => ?_)
  · have hf := g_pos hf hc_1
    cases hf
    exact x_vret hx hb hlocks hC hP hS hr dX6_note_43
  · have hf := g_neg hf hc_1
    refine lv_aload_n hx hb dX6_note_8 rfl (lv_at hl 0 rfl) ?_
    refine gt_6_1 hx hb hts hown hC hP Nat.zero_lt_one q6_11 dX6_note_9 ?_
    refine lv_iload_n hx hb dX6_note_12 rfl (lv_at hl 2 rfl) ?_
    refine lv_bipush (v := 6) hx hb dX6_note_13 (by decide) ?_
    refine lv_imul hx hb dX6_note_15 ?_
    refine lv_iload_n hx hb dX6_note_16 rfl (lv_at hl 3 rfl) ?_
    refine lv_iadd hx hb dX6_note_17 ?_
    refine lv_aload_n hx hb dX6_note_18 rfl (lv_at hl 1 rfl) ?_
    refine lv_iload_n hx hb dX6_note_19 rfl (lv_at hl 3 rfl) ?_
    obtain ⟨hg_2, hf⟩ := g_gd hf
    refine xildX (k := 36) (n := 6) hx hb hC hP (fun _ _ => rfl) rfl Nat.zero_lt_one hg_2 dX6_note_20 ?_
    refine lv_if_le (tgt := 35) hx hb dX6_note_21 (by decide) (fun hc_3 => ?_) (fun hc_3 => ?_)
    · have hf := g_pos hf hc_3
      refine lv_iconst (v := 0) hx hb dX6_note_35 (by decide) ?_
      obtain ⟨hg_4, hf⟩ := g_gd hf
      obtain ⟨X_5, eX_5, hf⟩ := g_letE hf
      refine xistX (k := 26) (n := 390) hx hb hC hP hS (fun _ _ => rfl) rfl Nat.zero_lt_one hg_4 dX6_note_36 (fun H locs hP hS => ?_)
      rw [eX_5] at hP
      obtain ⟨x3_6, ex3_6, hf⟩ := g_letE hf
      refine lv_iinc (v := x3_6) (lv' := [(3, .int x3_6), (0, .ref (G.2.1 6 0)), (1, .ref (G.2.1 36 0)), (2, .int x2)]) hx hb dX6_note_37 hl (k := 3) rfl (by rw [← ex3_6]; rfl) (by decide) rfl (fun ls hl => ?_)
      refine lv_goto (tgt := 2) hx hb dX6_note_40 (by decide) ?_
      exact hk2 x2 x3_6 X_5 hf hP hS (lv_sub hl [1, 2, 3, 0] rfl)
    · have hf := g_neg hf hc_3
      refine lv_aload_n hx hb dX6_note_24 rfl (lv_at hl 0 rfl) ?_
      refine gt_6_0 hx hb hts hown hC hP Nat.zero_lt_one q6_10 dX6_note_25 ?_
      refine lv_iload_n hx hb dX6_note_28 rfl (lv_at hl 3 rfl) ?_
      obtain ⟨hg_7, hf⟩ := g_gd hf
      refine xildX (k := 25) (n := 6) hx hb hC hP (fun _ _ => rfl) rfl Nat.zero_lt_one hg_7 dX6_note_29 ?_
      refine lv_iload_n hx hb dX6_note_30 rfl (lv_at hl 2 rfl) ?_
      refine lv_isub hx hb dX6_note_31 ?_
      refine lv_goto (tgt := 36) hx hb dX6_note_32 (by decide) ?_
      obtain ⟨hg_8, hf⟩ := g_gd hf
      obtain ⟨X_9, eX_9, hf⟩ := g_letE hf
      refine xistX (k := 26) (n := 390) hx hb hC hP hS (fun _ _ => rfl) rfl Nat.zero_lt_one hg_8 dX6_note_36 (fun H locs hP hS => ?_)
      rw [eX_9] at hP
      obtain ⟨x3_10, ex3_10, hf⟩ := g_letE hf
      refine lv_iinc (v := x3_10) (lv' := [(3, .int x3_10), (0, .ref (G.2.1 6 0)), (1, .ref (G.2.1 36 0)), (2, .int x2)]) hx hb dX6_note_37 hl (k := 3) rfl (by rw [← ex3_10]; rfl) (by decide) rfl (fun ls hl => ?_)
      refine lv_goto (tgt := 2) hx hb dX6_note_40 (by decide) ?_
      exact hk2 x2 x3_10 X_9 hf hP hS (lv_sub hl [1, 2, 3, 0] rfl)
def wl_X6_note_2 (n : Nat) (x2 : Int32) (x3 : Int32) (X : SM) : Option (SM) := g_loop (α := Int32 × Int32 × SM) (fun k a => wb_X6_note_2 (fun x2 x3 X => k (x2, x3, X)) a.1 a.2.1 a.2.2) n (x2, x3, X)
set_option maxRecDepth 100000 in
set_option maxHeartbeats 4000000 in
theorem lp_X6_note_2 {p : Program} {l : Launch} {e : Env} {s : State} {m : MethodId} {args : Array Value} {below : List Frame} {meth : Method} {c : Code} {G : GP} {M : SM} {τ : SL} (C0 : g_mc p s m args meth c RX6 cX6_note none 4 G) {X0 : SM} (n : Nat) : ∀ (x2 : Int32) (x3 : Int32) (X : SM), wl_X6_note_2 n x2 x3 X = some X0 → ∀ {H : Heap} {locs : List Loc}, va_P G.1 g_cl (wd G (cb X M) τ) H → va_S (g_A G) s.heap H locs → ∀ {ls : Array Slot}, lv_has ls 4 [(0, .ref (G.2.1 6 0)), (1, .ref (G.2.1 36 0)), (2, .int x2), (3, .int x3)] → W p l e rm_X6_note s m args below meth c H locs 0 0 (MQ below (va_Qv (fun u => u = (X0, M, τ)) (g_pw G) (g_A G)) args s 0 0 (g_A G)) (F0 m 2 ls []) := by
  induction n with
  | zero =>
    intro x2 x3 X hf
    have hf : (none : Option (SM)) = _ := hf
    cases hf
  | succ n ih =>
    intro x2 x3 X hf H locs hP hS ls hl
    exact bk_X6_note_2 C0   (fun x2 x3 X => wl_X6_note_2   n x2 x3 X) ih x2 x3 X hf hP hS hl
def fn_X6_note (x2 : Int32) (X : SM) : Option (SM) :=
  wl_X6_note_2 1000 x2 0 X
set_option maxRecDepth 100000 in
set_option maxHeartbeats 4000000 in
theorem wk_X6_note {p : Program} {l : Launch} {e : Env} {s : State} {m : MethodId} {args : Array Value} {below : List Frame} {meth : Method} {c : Code} {G : GP} {M : SM} {τ : SL} (C0 : g_mc p s m args meth c RX6 cX6_note none 4 G) {X0 : SM} (x2 : Int32) (X : SM) (hf : fn_X6_note x2 X = some X0) {H : Heap} {locs : List Loc} (hP : va_P G.1 g_cl (wd G (cb X M) τ) H) (hS : va_S (g_A G) s.heap H locs) {ls : Array Slot} (hl : lv_has ls 4 [(0, .ref (G.2.1 6 0)), (1, .ref (G.2.1 36 0)), (2, .int x2)]) : W p l e rm_X6_note s m args below meth c H locs 0 0 (MQ below (va_Qv (fun u => u = (X0, M, τ)) (g_pw G) (g_A G)) args s 0 0 (g_A G)) (F0 m 0 ls []) := by
  obtain ⟨hx, hb, hr, hml, hown, hts, hlocks, hC⟩ := id C0
  unfold fn_X6_note at hf
  refine lv_iconst (v := 0) hx hb dX6_note_0 (by decide) ?_
  refine lv_istore_n (lv' := [(3, .int 0), (0, .ref (G.2.1 6 0)), (1, .ref (G.2.1 36 0)), (2, .int x2)]) hx hb dX6_note_1 rfl hl (by decide) rfl (fun ls hl => ?_)
  exact lp_X6_note_2 C0 1000 x2 0 X hf hP hS (lv_sub hl [1, 2, 3, 0] rfl)
set_option maxRecDepth 100000 in
set_option maxHeartbeats 4000000 in
theorem ct_X6_note (l : Launch) (G : GP) (X M : SM) (τ : SL) (x2 : Int32) {X0 : SM} (hf : fn_X6_note x2 X = some X0) : Met l yX6_note (wz yX6_note cX6_note 4 none) rm_X6_note (va_Pc [.ref (G.2.1 6 0), .ref (G.2.1 36 0), .int x2] (g_pw G (X, M, τ))) (va_Qv (fun u => u = (X0, M, τ)) (g_pw G) (g_A G)) 0 0 (g_A G) := by
  refine Met.ofW (cc := cX6_note) (maxL := 4) (ret := none) (by decide +kernel) rfl ?_
  intro p e s m args below meth c s₁ B hml hv
  obtain ⟨rfl, hC, hP⟩ := hv
  have C0 : g_mc p s m _ meth c RX6 cX6_note none 4 G := ⟨B.exec, B.bytes, B.returns, hml, findClass_of_methodNamed B.named, fun w h => atoms_spec (ws := wz yX6_note cX6_note 4 none) B.pre w (List.mem_cons_of_mem _ h), B.notSynchronized, hC⟩
  have hl := lv_entry ([.ref (G.2.1 6 0), .ref (G.2.1 36 0), .int x2]) (n := 4) (Nat.le_of_ble_eq_true rfl)
  rw [lg_entry_eq]
  generalize (lg_sl ([.ref (G.2.1 6 0), .ref (G.2.1 36 0), .int x2]) ++ List.replicate (4 - (lg_sl ([.ref (G.2.1 6 0), .ref (G.2.1 36 0), .int x2])).length) Slot.unset).toArray = ls at hl ⊢
  exact wk_X6_note C0  x2 X hf hP va_S.rf hl
abbrev rm_X6_isSame : Room := { frames := 0, cells := 0, slots := 0, locals := 0 }
def wb_X6_isSame_2 (k2 : Int32 → Int32 → Int32 → SM → Option (Int32)) (x1 : Int32) (x2 : Int32) (x3 : Int32) (X : SM) : Option (Int32) :=
  if 6 ≤ x3 then
  (some 1)
  else
  (if g_in ((x1 * 6) + x3) 390 then
    if g_in ((x2 * 6) + x3) 390 then
    if (X 26 0 (((x1 * 6) + x3).toNatClampNeg)) = (X 26 0 (((x2 * 6) + x3).toNatClampNeg)) then
    (g_let (x3 + 1) fun x3_5 =>
      k2 x1 x2 x3_5 X)
    else
    (some 0)
    else none
    else none)
set_option maxRecDepth 100000 in
set_option maxHeartbeats 4000000 in
theorem bk_X6_isSame_2 {p : Program} {l : Launch} {e : Env} {s : State} {m : MethodId} {args : Array Value} {below : List Frame} {meth : Method} {c : Code} {G : GP} {M : SM} {τ : SL} (C0 : g_mc p s m args meth c RX6 cX6_isSame (some .boolean) 4 G) {r0 : Int32} (k2 : Int32 → Int32 → Int32 → SM → Option (Int32)) (hk2 : ∀ (x1 : Int32) (x2 : Int32) (x3 : Int32) (X : SM), k2 x1 x2 x3 X = some r0 → ∀ {H : Heap} {locs : List Loc}, va_P G.1 g_cl (wd G (cb X M) τ) H → va_S (g_A G) s.heap H locs → ∀ {ls : Array Slot}, lv_has ls 4 [(0, .ref (G.2.1 6 0)), (1, .int x1), (2, .int x2), (3, .int x3)] → W p l e rm_X6_isSame s m args below meth c H locs 0 0 (MQ below (va_Qi (fun r u => r = r0 ∧ u = (X, M, τ)) (g_pw G) (g_A G)) args s 0 0 (g_A G)) (F0 m 2 ls [])) (x1 : Int32) (x2 : Int32) (x3 : Int32) (X : SM) (hf : wb_X6_isSame_2 k2 x1 x2 x3 X = some r0) {H : Heap} {locs : List Loc} (hP : va_P G.1 g_cl (wd G (cb X M) τ) H) (hS : va_S (g_A G) s.heap H locs) {ls : Array Slot} (hl : lv_has ls 4 [(0, .ref (G.2.1 6 0)), (1, .int x1), (2, .int x2), (3, .int x3)]) : W p l e rm_X6_isSame s m args below meth c H locs 0 0 (MQ below (va_Qi (fun r u => r = r0 ∧ u = (X, M, τ)) (g_pw G) (g_A G)) args s 0 0 (g_A G)) (F0 m 2 ls []) := by
  obtain ⟨hx, hb, hr, hml, hown, hts, hlocks, hC⟩ := id C0
  unfold wb_X6_isSame_2 at hf
  refine lv_iload_n hx hb dX6_isSame_2 rfl (lv_at hl 3 rfl) ?_
  refine lv_bipush (v := 6) hx hb dX6_isSame_3 (by decide) ?_
  refine lv_icmp_ge (tgt := 41) hx hb dX6_isSame_5 (by decide) (fun hc_1 => ?_) (fun hc_1 => ?_)
  · have hf := g_pos hf hc_1
    refine lv_iconst (v := 1) hx hb dX6_isSame_41 (by decide) ?_
    cases hf
    exact x_zret hx hb hlocks hC hP hS hr (Or.inr rfl) dX6_isSame_42
  · have hf := g_neg hf hc_1
    refine lv_aload_n hx hb dX6_isSame_8 rfl (lv_at hl 0 rfl) ?_
    refine gt_6_1 hx hb hts hown hC hP Nat.zero_lt_one q6_11 dX6_isSame_9 ?_
    refine lv_iload_n hx hb dX6_isSame_12 rfl (lv_at hl 1 rfl) ?_
    refine lv_bipush (v := 6) hx hb dX6_isSame_13 (by decide) ?_
    refine lv_imul hx hb dX6_isSame_15 ?_
    refine lv_iload_n hx hb dX6_isSame_16 rfl (lv_at hl 3 rfl) ?_
    refine lv_iadd hx hb dX6_isSame_17 ?_
    obtain ⟨hg_2, hf⟩ := g_gd hf
    refine xildX (k := 26) (n := 390) hx hb hC hP (fun _ _ => rfl) rfl Nat.zero_lt_one hg_2 dX6_isSame_18 ?_
    refine lv_aload_n hx hb dX6_isSame_19 rfl (lv_at hl 0 rfl) ?_
    refine gt_6_1 hx hb hts hown hC hP Nat.zero_lt_one q6_11 dX6_isSame_20 ?_
    refine lv_iload_n hx hb dX6_isSame_23 rfl (lv_at hl 2 rfl) ?_
    refine lv_bipush (v := 6) hx hb dX6_isSame_24 (by decide) ?_
    refine lv_imul hx hb dX6_isSame_26 ?_
    refine lv_iload_n hx hb dX6_isSame_27 rfl (lv_at hl 3 rfl) ?_
    refine lv_iadd hx hb dX6_isSame_28 ?_
    obtain ⟨hg_3, hf⟩ := g_gd hf
    refine xildX (k := 26) (n := 390) hx hb hC hP (fun _ _ => rfl) rfl Nat.zero_lt_one hg_3 dX6_isSame_29 ?_
    refine lv_icmp_eq (tgt := 35) hx hb dX6_isSame_30 (by decide) (fun hc_4 => ?_) (fun hc_4 => ?_)
    · have hf := g_pos hf hc_4
      obtain ⟨x3_5, ex3_5, hf⟩ := g_letE hf
      refine lv_iinc (v := x3_5) (lv' := [(3, .int x3_5), (0, .ref (G.2.1 6 0)), (1, .int x1), (2, .int x2)]) hx hb dX6_isSame_35 hl (k := 3) rfl (by rw [← ex3_5]; rfl) (by decide) rfl (fun ls hl => ?_)
      refine lv_goto (tgt := 2) hx hb dX6_isSame_38 (by decide) ?_
      exact hk2 x1 x2 x3_5 X hf hP hS (lv_sub hl [1, 2, 3, 0] rfl)
    · have hf := g_neg hf hc_4
      refine lv_iconst (v := 0) hx hb dX6_isSame_33 (by decide) ?_
      cases hf
      exact x_zret hx hb hlocks hC hP hS hr (Or.inl rfl) dX6_isSame_34
def wl_X6_isSame_2 (n : Nat) (x1 : Int32) (x2 : Int32) (x3 : Int32) (X : SM) : Option (Int32) := g_loop (α := Int32 × Int32 × Int32 × SM) (fun k a => wb_X6_isSame_2 (fun x1 x2 x3 X => k (x1, x2, x3, X)) a.1 a.2.1 a.2.2.1 a.2.2.2) n (x1, x2, x3, X)
set_option maxRecDepth 100000 in
set_option maxHeartbeats 4000000 in
theorem lp_X6_isSame_2 {p : Program} {l : Launch} {e : Env} {s : State} {m : MethodId} {args : Array Value} {below : List Frame} {meth : Method} {c : Code} {G : GP} {M : SM} {τ : SL} (C0 : g_mc p s m args meth c RX6 cX6_isSame (some .boolean) 4 G) {r0 : Int32} (n : Nat) : ∀ (x1 : Int32) (x2 : Int32) (x3 : Int32) (X : SM), wl_X6_isSame_2 n x1 x2 x3 X = some r0 → ∀ {H : Heap} {locs : List Loc}, va_P G.1 g_cl (wd G (cb X M) τ) H → va_S (g_A G) s.heap H locs → ∀ {ls : Array Slot}, lv_has ls 4 [(0, .ref (G.2.1 6 0)), (1, .int x1), (2, .int x2), (3, .int x3)] → W p l e rm_X6_isSame s m args below meth c H locs 0 0 (MQ below (va_Qi (fun r u => r = r0 ∧ u = (X, M, τ)) (g_pw G) (g_A G)) args s 0 0 (g_A G)) (F0 m 2 ls []) := by
  induction n with
  | zero =>
    intro x1 x2 x3 X hf
    have hf : (none : Option (Int32)) = _ := hf
    cases hf
  | succ n ih =>
    intro x1 x2 x3 X hf H locs hP hS ls hl
    exact bk_X6_isSame_2 C0   (fun x1 x2 x3 X => wl_X6_isSame_2   n x1 x2 x3 X) ih x1 x2 x3 X hf hP hS hl
def fn_X6_isSame (x1 : Int32) (x2 : Int32) (X : SM) : Option (Int32) :=
  wl_X6_isSame_2 1000 x1 x2 0 X
set_option maxRecDepth 100000 in
set_option maxHeartbeats 4000000 in
theorem wk_X6_isSame {p : Program} {l : Launch} {e : Env} {s : State} {m : MethodId} {args : Array Value} {below : List Frame} {meth : Method} {c : Code} {G : GP} {M : SM} {τ : SL} (C0 : g_mc p s m args meth c RX6 cX6_isSame (some .boolean) 4 G) {r0 : Int32} (x1 : Int32) (x2 : Int32) (X : SM) (hf : fn_X6_isSame x1 x2 X = some r0) {H : Heap} {locs : List Loc} (hP : va_P G.1 g_cl (wd G (cb X M) τ) H) (hS : va_S (g_A G) s.heap H locs) {ls : Array Slot} (hl : lv_has ls 4 [(0, .ref (G.2.1 6 0)), (1, .int x1), (2, .int x2)]) : W p l e rm_X6_isSame s m args below meth c H locs 0 0 (MQ below (va_Qi (fun r u => r = r0 ∧ u = (X, M, τ)) (g_pw G) (g_A G)) args s 0 0 (g_A G)) (F0 m 0 ls []) := by
  obtain ⟨hx, hb, hr, hml, hown, hts, hlocks, hC⟩ := id C0
  unfold fn_X6_isSame at hf
  refine lv_iconst (v := 0) hx hb dX6_isSame_0 (by decide) ?_
  refine lv_istore_n (lv' := [(3, .int 0), (0, .ref (G.2.1 6 0)), (1, .int x1), (2, .int x2)]) hx hb dX6_isSame_1 rfl hl (by decide) rfl (fun ls hl => ?_)
  exact lp_X6_isSame_2 C0 1000 x1 x2 0 X hf hP hS (lv_sub hl [1, 2, 3, 0] rfl)
set_option maxRecDepth 100000 in
set_option maxHeartbeats 4000000 in
theorem ct_X6_isSame (l : Launch) (G : GP) (X M : SM) (τ : SL) (x1 : Int32) (x2 : Int32) {r0 : Int32} (hf : fn_X6_isSame x1 x2 X = some r0) : Met l yX6_isSame (wz yX6_isSame cX6_isSame 4 (some .boolean)) rm_X6_isSame (va_Pc [.ref (G.2.1 6 0), .int x1, .int x2] (g_pw G (X, M, τ))) (va_Qi (fun r u => r = r0 ∧ u = (X, M, τ)) (g_pw G) (g_A G)) 0 0 (g_A G) := by
  refine Met.ofW (cc := cX6_isSame) (maxL := 4) (ret := (some .boolean)) (by decide +kernel) rfl ?_
  intro p e s m args below meth c s₁ B hml hv
  obtain ⟨rfl, hC, hP⟩ := hv
  have C0 : g_mc p s m _ meth c RX6 cX6_isSame (some .boolean) 4 G := ⟨B.exec, B.bytes, B.returns, hml, findClass_of_methodNamed B.named, fun w h => atoms_spec (ws := wz yX6_isSame cX6_isSame 4 (some .boolean)) B.pre w (List.mem_cons_of_mem _ h), B.notSynchronized, hC⟩
  have hl := lv_entry ([.ref (G.2.1 6 0), .int x1, .int x2]) (n := 4) (Nat.le_of_ble_eq_true rfl)
  rw [lg_entry_eq]
  generalize (lg_sl ([.ref (G.2.1 6 0), .int x1, .int x2]) ++ List.replicate (4 - (lg_sl ([.ref (G.2.1 6 0), .int x1, .int x2])).length) Slot.unset).toArray = ls at hl ⊢
  exact wk_X6_isSame C0  x1 x2 X hf hP va_S.rf hl
abbrev rm_X6_periodAt : Room := { frames := 1, cells := 0, slots := 0, locals := 23 }
def wb_X6_periodAt_2 (k2 : Int32 → Int32 → SM → Option (Int32)) (x1 : Int32) (x2 : Int32) (X : SM) : Option (Int32) :=
  if 16 < x2 then
  (some (-1))
  else
  (if x1 < x2 then
    (some (-1))
    else
    ((fn_X6_isSame x1 (x1 - x2) X).bind fun r_3 =>
      if r_3 = 0 then
      (g_let (x2 + 1) fun x2_6 =>
        k2 x1 x2_6 X)
      else
      (some x2)))
set_option maxRecDepth 100000 in
set_option maxHeartbeats 4000000 in
theorem bk_X6_periodAt_2 {p : Program} {l : Launch} {e : Env} {s : State} {m : MethodId} {args : Array Value} {below : List Frame} {meth : Method} {c : Code} {G : GP} {M : SM} {τ : SL} (C0 : g_mc p s m args meth c RX6 cX6_periodAt (some .int) 3 G) {r0 : Int32} (k2 : Int32 → Int32 → SM → Option (Int32)) (hk2 : ∀ (x1 : Int32) (x2 : Int32) (X : SM), k2 x1 x2 X = some r0 → ∀ {H : Heap} {locs : List Loc}, va_P G.1 g_cl (wd G (cb X M) τ) H → va_S (g_A G) s.heap H locs → ∀ {ls : Array Slot}, lv_has ls 3 [(0, .ref (G.2.1 6 0)), (1, .int x1), (2, .int x2)] → W p l e rm_X6_periodAt s m args below meth c H locs 0 0 (MQ below (va_Qi (fun r u => r = r0 ∧ u = (X, M, τ)) (g_pw G) (g_A G)) args s 0 0 (g_A G)) (F0 m 2 ls [])) (x1 : Int32) (x2 : Int32) (X : SM) (hf : wb_X6_periodAt_2 k2 x1 x2 X = some r0) {H : Heap} {locs : List Loc} (hP : va_P G.1 g_cl (wd G (cb X M) τ) H) (hS : va_S (g_A G) s.heap H locs) {ls : Array Slot} (hl : lv_has ls 3 [(0, .ref (G.2.1 6 0)), (1, .int x1), (2, .int x2)]) : W p l e rm_X6_periodAt s m args below meth c H locs 0 0 (MQ below (va_Qi (fun r u => r = r0 ∧ u = (X, M, τ)) (g_pw G) (g_A G)) args s 0 0 (g_A G)) (F0 m 2 ls []) := by
  obtain ⟨hx, hb, hr, hml, hown, hts, hlocks, hC⟩ := id C0
  unfold wb_X6_periodAt_2 at hf
  refine lv_iload_n hx hb dX6_periodAt_2 rfl (lv_at hl 2 rfl) ?_
  refine lv_bipush (v := 16) hx hb dX6_periodAt_3 (by decide) ?_
  refine lv_icmp_gt (tgt := 32) hx hb dX6_periodAt_5 (by decide) (fun hc_1 => ?_) (fun hc_1 => ?_)
  · have hf := g_pos hf hc_1
    refine lv_iconst (v := (-1)) hx hb dX6_periodAt_32 (by decide) ?_
    cases hf
    exact x_iret hx hb hlocks hC hP hS hr dX6_periodAt_33
  · have hf := g_neg hf hc_1
    refine lv_iload_n hx hb dX6_periodAt_8 rfl (lv_at hl 2 rfl) ?_
    refine lv_iload_n hx hb dX6_periodAt_9 rfl (lv_at hl 1 rfl) ?_
    refine lv_icmp_gt (tgt := 32) hx hb dX6_periodAt_10 (by decide) (fun hc_2 => ?_) (fun hc_2 => ?_)
    · have hf := g_pos hf hc_2
      refine lv_iconst (v := (-1)) hx hb dX6_periodAt_32 (by decide) ?_
      cases hf
      exact x_iret hx hb hlocks hC hP hS hr dX6_periodAt_33
    · have hf := g_neg hf hc_2
      refine lv_aload_n hx hb dX6_periodAt_13 rfl (lv_at hl 0 rfl) ?_
      refine lv_iload_n hx hb dX6_periodAt_14 rfl (lv_at hl 1 rfl) ?_
      refine lv_iload_n hx hb dX6_periodAt_15 rfl (lv_at hl 1 rfl) ?_
      refine lv_iload_n hx hb dX6_periodAt_16 rfl (lv_at hl 2 rfl) ?_
      refine lv_isub hx hb dX6_periodAt_17 ?_
      obtain ⟨r_3, hc_4, hf⟩ := g_bindE hf
      refine x_calli (v := (X, M, τ)) (va_runV (As := [.int x1, .int (x1 - x2)]) (rest := []) ⟨hx, hb, hml, hown, hts⟩ (ct_X6_isSame l G X M τ x1 (x1 - x2) hc_4) (cwV 2 hts gd_X6_53 rfl rfl rfl hd_X6_isSame ⟨Nat.le_of_ble_eq_true rfl, Nat.le_of_ble_eq_true rfl⟩) (x_preV (u := (X, M, τ)) (k := 6) (ci := 6) hC hS hP Nat.zero_lt_one rfl rfl) rfl rfl hl.1 rfl (lv_room (Nat.le_of_ble_eq_true rfl)) dX6_periodAt_18 ⟨Nat.zero_le _, Nat.zero_le _⟩) hS (fun H locs hP hS => ?_)
      refine lv_if_eq (tgt := 26) hx hb dX6_periodAt_21 (by decide) (fun hc_5 => ?_) (fun hc_5 => ?_)
      · have hf := g_pos hf hc_5
        obtain ⟨x2_6, ex2_6, hf⟩ := g_letE hf
        refine lv_iinc (v := x2_6) (lv' := [(2, .int x2_6), (0, .ref (G.2.1 6 0)), (1, .int x1)]) hx hb dX6_periodAt_26 hl (k := 2) rfl (by rw [← ex2_6]; rfl) (by decide) rfl (fun ls hl => ?_)
        refine lv_goto (tgt := 2) hx hb dX6_periodAt_29 (by decide) ?_
        exact hk2 x1 x2_6 X hf hP hS (lv_sub hl [1, 2, 0] rfl)
      · have hf := g_neg hf hc_5
        refine lv_iload_n hx hb dX6_periodAt_24 rfl (lv_at hl 2 rfl) ?_
        cases hf
        exact x_iret hx hb hlocks hC hP hS hr dX6_periodAt_25
def wl_X6_periodAt_2 (n : Nat) (x1 : Int32) (x2 : Int32) (X : SM) : Option (Int32) := g_loop (α := Int32 × Int32 × SM) (fun k a => wb_X6_periodAt_2 (fun x1 x2 X => k (x1, x2, X)) a.1 a.2.1 a.2.2) n (x1, x2, X)
set_option maxRecDepth 100000 in
set_option maxHeartbeats 4000000 in
theorem lp_X6_periodAt_2 {p : Program} {l : Launch} {e : Env} {s : State} {m : MethodId} {args : Array Value} {below : List Frame} {meth : Method} {c : Code} {G : GP} {M : SM} {τ : SL} (C0 : g_mc p s m args meth c RX6 cX6_periodAt (some .int) 3 G) {r0 : Int32} (n : Nat) : ∀ (x1 : Int32) (x2 : Int32) (X : SM), wl_X6_periodAt_2 n x1 x2 X = some r0 → ∀ {H : Heap} {locs : List Loc}, va_P G.1 g_cl (wd G (cb X M) τ) H → va_S (g_A G) s.heap H locs → ∀ {ls : Array Slot}, lv_has ls 3 [(0, .ref (G.2.1 6 0)), (1, .int x1), (2, .int x2)] → W p l e rm_X6_periodAt s m args below meth c H locs 0 0 (MQ below (va_Qi (fun r u => r = r0 ∧ u = (X, M, τ)) (g_pw G) (g_A G)) args s 0 0 (g_A G)) (F0 m 2 ls []) := by
  induction n with
  | zero =>
    intro x1 x2 X hf
    have hf : (none : Option (Int32)) = _ := hf
    cases hf
  | succ n ih =>
    intro x1 x2 X hf H locs hP hS ls hl
    exact bk_X6_periodAt_2 C0   (fun x1 x2 X => wl_X6_periodAt_2   n x1 x2 X) ih x1 x2 X hf hP hS hl
def fn_X6_periodAt (x1 : Int32) (X : SM) : Option (Int32) :=
  wl_X6_periodAt_2 1000 x1 1 X
set_option maxRecDepth 100000 in
set_option maxHeartbeats 4000000 in
theorem wk_X6_periodAt {p : Program} {l : Launch} {e : Env} {s : State} {m : MethodId} {args : Array Value} {below : List Frame} {meth : Method} {c : Code} {G : GP} {M : SM} {τ : SL} (C0 : g_mc p s m args meth c RX6 cX6_periodAt (some .int) 3 G) {r0 : Int32} (x1 : Int32) (X : SM) (hf : fn_X6_periodAt x1 X = some r0) {H : Heap} {locs : List Loc} (hP : va_P G.1 g_cl (wd G (cb X M) τ) H) (hS : va_S (g_A G) s.heap H locs) {ls : Array Slot} (hl : lv_has ls 3 [(0, .ref (G.2.1 6 0)), (1, .int x1)]) : W p l e rm_X6_periodAt s m args below meth c H locs 0 0 (MQ below (va_Qi (fun r u => r = r0 ∧ u = (X, M, τ)) (g_pw G) (g_A G)) args s 0 0 (g_A G)) (F0 m 0 ls []) := by
  obtain ⟨hx, hb, hr, hml, hown, hts, hlocks, hC⟩ := id C0
  unfold fn_X6_periodAt at hf
  refine lv_iconst (v := 1) hx hb dX6_periodAt_0 (by decide) ?_
  refine lv_istore_n (lv' := [(2, .int 1), (0, .ref (G.2.1 6 0)), (1, .int x1)]) hx hb dX6_periodAt_1 rfl hl (by decide) rfl (fun ls hl => ?_)
  exact lp_X6_periodAt_2 C0 1000 x1 1 X hf hP hS (lv_sub hl [1, 2, 0] rfl)
set_option maxRecDepth 100000 in
set_option maxHeartbeats 4000000 in
theorem ct_X6_periodAt (l : Launch) (G : GP) (X M : SM) (τ : SL) (x1 : Int32) {r0 : Int32} (hf : fn_X6_periodAt x1 X = some r0) : Met l yX6_periodAt (wz yX6_periodAt cX6_periodAt 3 (some .int)) rm_X6_periodAt (va_Pc [.ref (G.2.1 6 0), .int x1] (g_pw G (X, M, τ))) (va_Qi (fun r u => r = r0 ∧ u = (X, M, τ)) (g_pw G) (g_A G)) 0 0 (g_A G) := by
  refine Met.ofW (cc := cX6_periodAt) (maxL := 3) (ret := (some .int)) (by decide +kernel) rfl ?_
  intro p e s m args below meth c s₁ B hml hv
  obtain ⟨rfl, hC, hP⟩ := hv
  have C0 : g_mc p s m _ meth c RX6 cX6_periodAt (some .int) 3 G := ⟨B.exec, B.bytes, B.returns, hml, findClass_of_methodNamed B.named, fun w h => atoms_spec (ws := wz yX6_periodAt cX6_periodAt 3 (some .int)) B.pre w (List.mem_cons_of_mem _ h), B.notSynchronized, hC⟩
  have hl := lv_entry ([.ref (G.2.1 6 0), .int x1]) (n := 3) (Nat.le_of_ble_eq_true rfl)
  rw [lg_entry_eq]
  generalize (lg_sl ([.ref (G.2.1 6 0), .int x1]) ++ List.replicate (3 - (lg_sl ([.ref (G.2.1 6 0), .int x1])).length) Slot.unset).toArray = ls at hl ⊢
  exact wk_X6_periodAt C0  x1 X hf hP va_S.rf hl
abbrev rm_X6_fill : Room := { frames := 0, cells := 0, slots := 0, locals := 0 }
def wb_X6_fill_3 (k3 : Int32 → Int32 → Int32 → SM → Option (SM)) (x2 : Int32) (x3 : Int32) (x4 : Int32) (X : SM) : Option (SM) :=
  if x3 ≤ x4 then
  (g_let (u1 X 10 0 1 x3) fun X_2 =>
    some X_2)
  else
  (if 16 ≤ x4 then
    (g_let (u1 X 10 0 1 x3) fun X_4 =>
      some X_4)
    else
    (if g_in (x2 + x4) 65 then
      if g_in x4 16 then
      g_let (u1 X 34 0 (x4.toNatClampNeg) (X 27 0 ((x2 + x4).toNatClampNeg))) fun X_7 =>
      g_let (x4 + 1) fun x4_8 =>
      k3 x2 x3 x4_8 X_7
      else none
      else none))
set_option maxRecDepth 100000 in
set_option maxHeartbeats 4000000 in
theorem bk_X6_fill_3 {p : Program} {l : Launch} {e : Env} {s : State} {m : MethodId} {args : Array Value} {below : List Frame} {meth : Method} {c : Code} {G : GP} {M : SM} {τ : SL} (C0 : g_mc p s m args meth c RX6 cX6_fill none 5 G) {X0 : SM} (k3 : Int32 → Int32 → Int32 → SM → Option (SM)) (hk3 : ∀ (x2 : Int32) (x3 : Int32) (x4 : Int32) (X : SM), k3 x2 x3 x4 X = some X0 → ∀ {H : Heap} {locs : List Loc}, va_P G.1 g_cl (wd G (cb X M) τ) H → va_S (g_A G) s.heap H locs → ∀ {ls : Array Slot}, lv_has ls 5 [(0, .ref (G.2.1 6 0)), (1, .ref (G.2.1 10 0)), (2, .int x2), (3, .int x3), (4, .int x4)] → W p l e rm_X6_fill s m args below meth c H locs 0 0 (MQ below (va_Qv (fun u => u = (X0, M, τ)) (g_pw G) (g_A G)) args s 0 0 (g_A G)) (F0 m 3 ls [])) (x2 : Int32) (x3 : Int32) (x4 : Int32) (X : SM) (hf : wb_X6_fill_3 k3 x2 x3 x4 X = some X0) {H : Heap} {locs : List Loc} (hP : va_P G.1 g_cl (wd G (cb X M) τ) H) (hS : va_S (g_A G) s.heap H locs) {ls : Array Slot} (hl : lv_has ls 5 [(0, .ref (G.2.1 6 0)), (1, .ref (G.2.1 10 0)), (2, .int x2), (3, .int x3), (4, .int x4)]) : W p l e rm_X6_fill s m args below meth c H locs 0 0 (MQ below (va_Qv (fun u => u = (X0, M, τ)) (g_pw G) (g_A G)) args s 0 0 (g_A G)) (F0 m 3 ls []) := by
  obtain ⟨hx, hb, hr, hml, hown, hts, hlocks, hC⟩ := id C0
  unfold wb_X6_fill_3 at hf
  refine lv_iload hx hb dX6_fill_3 (lv_at hl 4 rfl) ?_
  refine lv_iload_n hx hb dX6_fill_5 rfl (lv_at hl 3 rfl) ?_
  refine lv_icmp_ge (tgt := 38) hx hb dX6_fill_6 (by decide) (fun hc_1 => ?_) (fun hc_1 => ?_)
  · have hf := g_pos hf hc_1
    refine lv_aload_n hx hb dX6_fill_38 rfl (lv_at hl 1 rfl) ?_
    refine lv_iload_n hx hb dX6_fill_39 rfl (lv_at hl 3 rfl) ?_
    obtain ⟨X_2, eX_2, hf⟩ := g_letE hf
    refine pt_10_1 hx hb hts hown hC hP hS Nat.zero_lt_one q15_7 dX6_fill_40 (fun H locs hP hS => ?_)
    rw [eX_2] at hP
    cases hf
    exact x_vret hx hb hlocks hC hP hS hr dX6_fill_43
  · have hf := g_neg hf hc_1
    refine lv_iload hx hb dX6_fill_9 (lv_at hl 4 rfl) ?_
    refine lv_bipush (v := 16) hx hb dX6_fill_11 (by decide) ?_
    refine lv_icmp_ge (tgt := 38) hx hb dX6_fill_13 (by decide) (fun hc_3 => ?_) (fun hc_3 => ?_)
    · have hf := g_pos hf hc_3
      refine lv_aload_n hx hb dX6_fill_38 rfl (lv_at hl 1 rfl) ?_
      refine lv_iload_n hx hb dX6_fill_39 rfl (lv_at hl 3 rfl) ?_
      obtain ⟨X_4, eX_4, hf⟩ := g_letE hf
      refine pt_10_1 hx hb hts hown hC hP hS Nat.zero_lt_one q15_7 dX6_fill_40 (fun H locs hP hS => ?_)
      rw [eX_4] at hP
      cases hf
      exact x_vret hx hb hlocks hC hP hS hr dX6_fill_43
    · have hf := g_neg hf hc_3
      refine lv_aload_n hx hb dX6_fill_16 rfl (lv_at hl 1 rfl) ?_
      refine gt_10_0 hx hb hts hown hC hP Nat.zero_lt_one q15_8 dX6_fill_17 ?_
      refine lv_iload hx hb dX6_fill_20 (lv_at hl 4 rfl) ?_
      refine lv_aload_n hx hb dX6_fill_22 rfl (lv_at hl 0 rfl) ?_
      refine gt_6_2 hx hb hts hown hC hP Nat.zero_lt_one q6_12 dX6_fill_23 ?_
      refine lv_iload_n hx hb dX6_fill_26 rfl (lv_at hl 2 rfl) ?_
      refine lv_iload hx hb dX6_fill_27 (lv_at hl 4 rfl) ?_
      refine lv_iadd hx hb dX6_fill_29 ?_
      obtain ⟨hg_5, hf⟩ := g_gd hf
      refine xildX (k := 27) (n := 65) hx hb hC hP (fun _ _ => rfl) rfl Nat.zero_lt_one hg_5 dX6_fill_30 ?_
      obtain ⟨hg_6, hf⟩ := g_gd hf
      obtain ⟨X_7, eX_7, hf⟩ := g_letE hf
      refine xistX (k := 34) (n := 16) hx hb hC hP hS (fun _ _ => rfl) rfl Nat.zero_lt_one hg_6 dX6_fill_31 (fun H locs hP hS => ?_)
      rw [eX_7] at hP
      obtain ⟨x4_8, ex4_8, hf⟩ := g_letE hf
      refine lv_iinc (v := x4_8) (lv' := [(4, .int x4_8), (0, .ref (G.2.1 6 0)), (1, .ref (G.2.1 10 0)), (2, .int x2), (3, .int x3)]) hx hb dX6_fill_32 hl (k := 4) rfl (by rw [← ex4_8]; rfl) (by decide) rfl (fun ls hl => ?_)
      refine lv_goto (tgt := 3) hx hb dX6_fill_35 (by decide) ?_
      exact hk3 x2 x3 x4_8 X_7 hf hP hS (lv_sub hl [1, 2, 3, 4, 0] rfl)
def wl_X6_fill_3 (n : Nat) (x2 : Int32) (x3 : Int32) (x4 : Int32) (X : SM) : Option (SM) := g_loop (α := Int32 × Int32 × Int32 × SM) (fun k a => wb_X6_fill_3 (fun x2 x3 x4 X => k (x2, x3, x4, X)) a.1 a.2.1 a.2.2.1 a.2.2.2) n (x2, x3, x4, X)
set_option maxRecDepth 100000 in
set_option maxHeartbeats 4000000 in
theorem lp_X6_fill_3 {p : Program} {l : Launch} {e : Env} {s : State} {m : MethodId} {args : Array Value} {below : List Frame} {meth : Method} {c : Code} {G : GP} {M : SM} {τ : SL} (C0 : g_mc p s m args meth c RX6 cX6_fill none 5 G) {X0 : SM} (n : Nat) : ∀ (x2 : Int32) (x3 : Int32) (x4 : Int32) (X : SM), wl_X6_fill_3 n x2 x3 x4 X = some X0 → ∀ {H : Heap} {locs : List Loc}, va_P G.1 g_cl (wd G (cb X M) τ) H → va_S (g_A G) s.heap H locs → ∀ {ls : Array Slot}, lv_has ls 5 [(0, .ref (G.2.1 6 0)), (1, .ref (G.2.1 10 0)), (2, .int x2), (3, .int x3), (4, .int x4)] → W p l e rm_X6_fill s m args below meth c H locs 0 0 (MQ below (va_Qv (fun u => u = (X0, M, τ)) (g_pw G) (g_A G)) args s 0 0 (g_A G)) (F0 m 3 ls []) := by
  induction n with
  | zero =>
    intro x2 x3 x4 X hf
    have hf : (none : Option (SM)) = _ := hf
    cases hf
  | succ n ih =>
    intro x2 x3 x4 X hf H locs hP hS ls hl
    exact bk_X6_fill_3 C0   (fun x2 x3 x4 X => wl_X6_fill_3   n x2 x3 x4 X) ih x2 x3 x4 X hf hP hS hl
def fn_X6_fill (x2 : Int32) (x3 : Int32) (X : SM) : Option (SM) :=
  wl_X6_fill_3 1000 x2 x3 0 X
set_option maxRecDepth 100000 in
set_option maxHeartbeats 4000000 in
theorem wk_X6_fill {p : Program} {l : Launch} {e : Env} {s : State} {m : MethodId} {args : Array Value} {below : List Frame} {meth : Method} {c : Code} {G : GP} {M : SM} {τ : SL} (C0 : g_mc p s m args meth c RX6 cX6_fill none 5 G) {X0 : SM} (x2 : Int32) (x3 : Int32) (X : SM) (hf : fn_X6_fill x2 x3 X = some X0) {H : Heap} {locs : List Loc} (hP : va_P G.1 g_cl (wd G (cb X M) τ) H) (hS : va_S (g_A G) s.heap H locs) {ls : Array Slot} (hl : lv_has ls 5 [(0, .ref (G.2.1 6 0)), (1, .ref (G.2.1 10 0)), (2, .int x2), (3, .int x3)]) : W p l e rm_X6_fill s m args below meth c H locs 0 0 (MQ below (va_Qv (fun u => u = (X0, M, τ)) (g_pw G) (g_A G)) args s 0 0 (g_A G)) (F0 m 0 ls []) := by
  obtain ⟨hx, hb, hr, hml, hown, hts, hlocks, hC⟩ := id C0
  unfold fn_X6_fill at hf
  refine lv_iconst (v := 0) hx hb dX6_fill_0 (by decide) ?_
  refine lv_istore (lv' := [(4, .int 0), (0, .ref (G.2.1 6 0)), (1, .ref (G.2.1 10 0)), (2, .int x2), (3, .int x3)]) hx hb dX6_fill_1 hl (by decide) rfl (fun ls hl => ?_)
  exact lp_X6_fill_3 C0 1000 x2 x3 0 X hf hP hS (lv_sub hl [1, 2, 3, 4, 0] rfl)
set_option maxRecDepth 100000 in
set_option maxHeartbeats 4000000 in
theorem ct_X6_fill (l : Launch) (G : GP) (X M : SM) (τ : SL) (x2 : Int32) (x3 : Int32) {X0 : SM} (hf : fn_X6_fill x2 x3 X = some X0) : Met l yX6_fill (wz yX6_fill cX6_fill 5 none) rm_X6_fill (va_Pc [.ref (G.2.1 6 0), .ref (G.2.1 10 0), .int x2, .int x3] (g_pw G (X, M, τ))) (va_Qv (fun u => u = (X0, M, τ)) (g_pw G) (g_A G)) 0 0 (g_A G) := by
  refine Met.ofW (cc := cX6_fill) (maxL := 5) (ret := none) (by decide +kernel) rfl ?_
  intro p e s m args below meth c s₁ B hml hv
  obtain ⟨rfl, hC, hP⟩ := hv
  have C0 : g_mc p s m _ meth c RX6 cX6_fill none 5 G := ⟨B.exec, B.bytes, B.returns, hml, findClass_of_methodNamed B.named, fun w h => atoms_spec (ws := wz yX6_fill cX6_fill 5 none) B.pre w (List.mem_cons_of_mem _ h), B.notSynchronized, hC⟩
  have hl := lv_entry ([.ref (G.2.1 6 0), .ref (G.2.1 10 0), .int x2, .int x3]) (n := 5) (Nat.le_of_ble_eq_true rfl)
  rw [lg_entry_eq]
  generalize (lg_sl ([.ref (G.2.1 6 0), .ref (G.2.1 10 0), .int x2, .int x3]) ++ List.replicate (5 - (lg_sl ([.ref (G.2.1 6 0), .ref (G.2.1 10 0), .int x2, .int x3])).length) Slot.unset).toArray = ls at hl ⊢
  exact wk_X6_fill C0  x2 x3 X hf hP va_S.rf hl
abbrev rm_X6_leastLimit : Room := { frames := 0, cells := 0, slots := 0, locals := 0 }
def wb_X6_leastLimit_4 (k4 : Int32 → Int32 → SM → Option (Int32)) (x2 : Int32) (x3 : Int32) (X : SM) : Option (Int32) :=
  if 6 ≤ x3 then
  (some x2)
  else
  (if g_in x3 6 then
    if (X 36 0 (x3.toNatClampNeg)) ≤ 0 then
    (g_let (x3 + 1) fun x3_4 =>
      k4 x2 x3_4 X)
    else
    (if x2 = (-1) then
      (g_let (x3 + 1) fun x3_6 =>
        k4 x3 x3_6 X)
      else
      (if g_in x3 6 then
        if g_in x2 6 then
        if (X 25 0 (x2.toNatClampNeg)) ≤ (X 25 0 (x3.toNatClampNeg)) then
        (g_let (x3 + 1) fun x3_10 =>
          k4 x2 x3_10 X)
        else
        (g_let (x3 + 1) fun x3_11 =>
          k4 x3 x3_11 X)
        else none
        else none))
    else none)
set_option maxRecDepth 100000 in
set_option maxHeartbeats 4000000 in
theorem bk_X6_leastLimit_4 {p : Program} {l : Launch} {e : Env} {s : State} {m : MethodId} {args : Array Value} {below : List Frame} {meth : Method} {c : Code} {G : GP} {M : SM} {τ : SL} (C0 : g_mc p s m args meth c RX6 cX6_leastLimit (some .int) 4 G) {r0 : Int32} (k4 : Int32 → Int32 → SM → Option (Int32)) (hk4 : ∀ (x2 : Int32) (x3 : Int32) (X : SM), k4 x2 x3 X = some r0 → ∀ {H : Heap} {locs : List Loc}, va_P G.1 g_cl (wd G (cb X M) τ) H → va_S (g_A G) s.heap H locs → ∀ {ls : Array Slot}, lv_has ls 4 [(0, .ref (G.2.1 6 0)), (1, .ref (G.2.1 36 0)), (2, .int x2), (3, .int x3)] → W p l e rm_X6_leastLimit s m args below meth c H locs 0 0 (MQ below (va_Qi (fun r u => r = r0 ∧ u = (X, M, τ)) (g_pw G) (g_A G)) args s 0 0 (g_A G)) (F0 m 4 ls [])) (x2 : Int32) (x3 : Int32) (X : SM) (hf : wb_X6_leastLimit_4 k4 x2 x3 X = some r0) {H : Heap} {locs : List Loc} (hP : va_P G.1 g_cl (wd G (cb X M) τ) H) (hS : va_S (g_A G) s.heap H locs) {ls : Array Slot} (hl : lv_has ls 4 [(0, .ref (G.2.1 6 0)), (1, .ref (G.2.1 36 0)), (2, .int x2), (3, .int x3)]) : W p l e rm_X6_leastLimit s m args below meth c H locs 0 0 (MQ below (va_Qi (fun r u => r = r0 ∧ u = (X, M, τ)) (g_pw G) (g_A G)) args s 0 0 (g_A G)) (F0 m 4 ls []) := by
  obtain ⟨hx, hb, hr, hml, hown, hts, hlocks, hC⟩ := id C0
  unfold wb_X6_leastLimit_4 at hf
  refine lv_iload_n hx hb dX6_leastLimit_4 rfl (lv_at hl 3 rfl) ?_
  refine lv_bipush (v := 6) hx hb dX6_leastLimit_5 (by decide) ?_
  refine lv_icmp_ge (tgt := 44) hx hb dX6_leastLimit_7 (by decide) (fun hc_1 => ?_) (fun hc_1 => ?_)
  · have hf := g_pos hf hc_1
    refine lv_iload_n hx hb dX6_leastLimit_44 rfl (lv_at hl 2 rfl) ?_
    cases hf
    exact x_iret hx hb hlocks hC hP hS hr dX6_leastLimit_45
  · have hf := g_neg hf hc_1
    refine lv_aload_n hx hb dX6_leastLimit_10 rfl (lv_at hl 1 rfl) ?_
    refine lv_iload_n hx hb dX6_leastLimit_11 rfl (lv_at hl 3 rfl) ?_
    obtain ⟨hg_2, hf⟩ := g_gd hf
    refine xildX (k := 36) (n := 6) hx hb hC hP (fun _ _ => rfl) rfl Nat.zero_lt_one hg_2 dX6_leastLimit_12 ?_
    refine lv_if_le (tgt := 38) hx hb dX6_leastLimit_13 (by decide) (fun hc_3 => ?_) (fun hc_3 => ?_)
    · have hf := g_pos hf hc_3
      obtain ⟨x3_4, ex3_4, hf⟩ := g_letE hf
      refine lv_iinc (v := x3_4) (lv' := [(3, .int x3_4), (0, .ref (G.2.1 6 0)), (1, .ref (G.2.1 36 0)), (2, .int x2)]) hx hb dX6_leastLimit_38 hl (k := 3) rfl (by rw [← ex3_4]; rfl) (by decide) rfl (fun ls hl => ?_)
      refine lv_goto (tgt := 4) hx hb dX6_leastLimit_41 (by decide) ?_
      exact hk4 x2 x3_4 X hf hP hS (lv_sub hl [1, 2, 3, 0] rfl)
    · have hf := g_neg hf hc_3
      refine lv_iload_n hx hb dX6_leastLimit_16 rfl (lv_at hl 2 rfl) ?_
      refine lv_iconst (v := (-1)) hx hb dX6_leastLimit_17 (by decide) ?_
      refine lv_icmp_eq (tgt := 36) hx hb dX6_leastLimit_18 (by decide) (fun hc_5 => ?_) (fun hc_5 => ?_)
      · have hf := g_pos hf hc_5
        refine lv_iload_n hx hb dX6_leastLimit_36 rfl (lv_at hl 3 rfl) ?_
        refine lv_istore_n (lv' := [(2, .int x3), (0, .ref (G.2.1 6 0)), (1, .ref (G.2.1 36 0)), (3, .int x3)]) hx hb dX6_leastLimit_37 rfl hl (by decide) rfl (fun ls hl => ?_)
        obtain ⟨x3_6, ex3_6, hf⟩ := g_letE hf
        refine lv_iinc (v := x3_6) (lv' := [(3, .int x3_6), (2, .int x3), (0, .ref (G.2.1 6 0)), (1, .ref (G.2.1 36 0))]) hx hb dX6_leastLimit_38 hl (k := 3) rfl (by rw [← ex3_6]; rfl) (by decide) rfl (fun ls hl => ?_)
        refine lv_goto (tgt := 4) hx hb dX6_leastLimit_41 (by decide) ?_
        exact hk4 x3 x3_6 X hf hP hS (lv_sub hl [2, 3, 1, 0] rfl)
      · have hf := g_neg hf hc_5
        refine lv_aload_n hx hb dX6_leastLimit_21 rfl (lv_at hl 0 rfl) ?_
        refine gt_6_0 hx hb hts hown hC hP Nat.zero_lt_one q6_10 dX6_leastLimit_22 ?_
        refine lv_iload_n hx hb dX6_leastLimit_25 rfl (lv_at hl 3 rfl) ?_
        obtain ⟨hg_7, hf⟩ := g_gd hf
        refine xildX (k := 25) (n := 6) hx hb hC hP (fun _ _ => rfl) rfl Nat.zero_lt_one hg_7 dX6_leastLimit_26 ?_
        refine lv_aload_n hx hb dX6_leastLimit_27 rfl (lv_at hl 0 rfl) ?_
        refine gt_6_0 hx hb hts hown hC hP Nat.zero_lt_one q6_10 dX6_leastLimit_28 ?_
        refine lv_iload_n hx hb dX6_leastLimit_31 rfl (lv_at hl 2 rfl) ?_
        obtain ⟨hg_8, hf⟩ := g_gd hf
        refine xildX (k := 25) (n := 6) hx hb hC hP (fun _ _ => rfl) rfl Nat.zero_lt_one hg_8 dX6_leastLimit_32 ?_
        refine lv_icmp_ge (tgt := 38) hx hb dX6_leastLimit_33 (by decide) (fun hc_9 => ?_) (fun hc_9 => ?_)
        · have hf := g_pos hf hc_9
          obtain ⟨x3_10, ex3_10, hf⟩ := g_letE hf
          refine lv_iinc (v := x3_10) (lv' := [(3, .int x3_10), (0, .ref (G.2.1 6 0)), (1, .ref (G.2.1 36 0)), (2, .int x2)]) hx hb dX6_leastLimit_38 hl (k := 3) rfl (by rw [← ex3_10]; rfl) (by decide) rfl (fun ls hl => ?_)
          refine lv_goto (tgt := 4) hx hb dX6_leastLimit_41 (by decide) ?_
          exact hk4 x2 x3_10 X hf hP hS (lv_sub hl [1, 2, 3, 0] rfl)
        · have hf := g_neg hf hc_9
          refine lv_iload_n hx hb dX6_leastLimit_36 rfl (lv_at hl 3 rfl) ?_
          refine lv_istore_n (lv' := [(2, .int x3), (0, .ref (G.2.1 6 0)), (1, .ref (G.2.1 36 0)), (3, .int x3)]) hx hb dX6_leastLimit_37 rfl hl (by decide) rfl (fun ls hl => ?_)
          obtain ⟨x3_11, ex3_11, hf⟩ := g_letE hf
          refine lv_iinc (v := x3_11) (lv' := [(3, .int x3_11), (2, .int x3), (0, .ref (G.2.1 6 0)), (1, .ref (G.2.1 36 0))]) hx hb dX6_leastLimit_38 hl (k := 3) rfl (by rw [← ex3_11]; rfl) (by decide) rfl (fun ls hl => ?_)
          refine lv_goto (tgt := 4) hx hb dX6_leastLimit_41 (by decide) ?_
          exact hk4 x3 x3_11 X hf hP hS (lv_sub hl [2, 3, 1, 0] rfl)
def wl_X6_leastLimit_4 (n : Nat) (x2 : Int32) (x3 : Int32) (X : SM) : Option (Int32) := g_loop (α := Int32 × Int32 × SM) (fun k a => wb_X6_leastLimit_4 (fun x2 x3 X => k (x2, x3, X)) a.1 a.2.1 a.2.2) n (x2, x3, X)
set_option maxRecDepth 100000 in
set_option maxHeartbeats 4000000 in
theorem lp_X6_leastLimit_4 {p : Program} {l : Launch} {e : Env} {s : State} {m : MethodId} {args : Array Value} {below : List Frame} {meth : Method} {c : Code} {G : GP} {M : SM} {τ : SL} (C0 : g_mc p s m args meth c RX6 cX6_leastLimit (some .int) 4 G) {r0 : Int32} (n : Nat) : ∀ (x2 : Int32) (x3 : Int32) (X : SM), wl_X6_leastLimit_4 n x2 x3 X = some r0 → ∀ {H : Heap} {locs : List Loc}, va_P G.1 g_cl (wd G (cb X M) τ) H → va_S (g_A G) s.heap H locs → ∀ {ls : Array Slot}, lv_has ls 4 [(0, .ref (G.2.1 6 0)), (1, .ref (G.2.1 36 0)), (2, .int x2), (3, .int x3)] → W p l e rm_X6_leastLimit s m args below meth c H locs 0 0 (MQ below (va_Qi (fun r u => r = r0 ∧ u = (X, M, τ)) (g_pw G) (g_A G)) args s 0 0 (g_A G)) (F0 m 4 ls []) := by
  induction n with
  | zero =>
    intro x2 x3 X hf
    have hf : (none : Option (Int32)) = _ := hf
    cases hf
  | succ n ih =>
    intro x2 x3 X hf H locs hP hS ls hl
    exact bk_X6_leastLimit_4 C0   (fun x2 x3 X => wl_X6_leastLimit_4   n x2 x3 X) ih x2 x3 X hf hP hS hl
def fn_X6_leastLimit (X : SM) : Option (Int32) :=
  wl_X6_leastLimit_4 1000 (-1) 0 X
set_option maxRecDepth 100000 in
set_option maxHeartbeats 4000000 in
theorem wk_X6_leastLimit {p : Program} {l : Launch} {e : Env} {s : State} {m : MethodId} {args : Array Value} {below : List Frame} {meth : Method} {c : Code} {G : GP} {M : SM} {τ : SL} (C0 : g_mc p s m args meth c RX6 cX6_leastLimit (some .int) 4 G) {r0 : Int32} (X : SM) (hf : fn_X6_leastLimit X = some r0) {H : Heap} {locs : List Loc} (hP : va_P G.1 g_cl (wd G (cb X M) τ) H) (hS : va_S (g_A G) s.heap H locs) {ls : Array Slot} (hl : lv_has ls 4 [(0, .ref (G.2.1 6 0)), (1, .ref (G.2.1 36 0))]) : W p l e rm_X6_leastLimit s m args below meth c H locs 0 0 (MQ below (va_Qi (fun r u => r = r0 ∧ u = (X, M, τ)) (g_pw G) (g_A G)) args s 0 0 (g_A G)) (F0 m 0 ls []) := by
  obtain ⟨hx, hb, hr, hml, hown, hts, hlocks, hC⟩ := id C0
  unfold fn_X6_leastLimit at hf
  refine lv_iconst (v := (-1)) hx hb dX6_leastLimit_0 (by decide) ?_
  refine lv_istore_n (lv' := [(2, .int (-1)), (0, .ref (G.2.1 6 0)), (1, .ref (G.2.1 36 0))]) hx hb dX6_leastLimit_1 rfl hl (by decide) rfl (fun ls hl => ?_)
  refine lv_iconst (v := 0) hx hb dX6_leastLimit_2 (by decide) ?_
  refine lv_istore_n (lv' := [(3, .int 0), (2, .int (-1)), (0, .ref (G.2.1 6 0)), (1, .ref (G.2.1 36 0))]) hx hb dX6_leastLimit_3 rfl hl (by decide) rfl (fun ls hl => ?_)
  exact lp_X6_leastLimit_4 C0 1000 (-1) 0 X hf hP hS (lv_sub hl [2, 3, 1, 0] rfl)
set_option maxRecDepth 100000 in
set_option maxHeartbeats 4000000 in
theorem ct_X6_leastLimit (l : Launch) (G : GP) (X M : SM) (τ : SL) {r0 : Int32} (hf : fn_X6_leastLimit X = some r0) : Met l yX6_leastLimit (wz yX6_leastLimit cX6_leastLimit 4 (some .int)) rm_X6_leastLimit (va_Pc [.ref (G.2.1 6 0), .ref (G.2.1 36 0)] (g_pw G (X, M, τ))) (va_Qi (fun r u => r = r0 ∧ u = (X, M, τ)) (g_pw G) (g_A G)) 0 0 (g_A G) := by
  refine Met.ofW (cc := cX6_leastLimit) (maxL := 4) (ret := (some .int)) (by decide +kernel) rfl ?_
  intro p e s m args below meth c s₁ B hml hv
  obtain ⟨rfl, hC, hP⟩ := hv
  have C0 : g_mc p s m _ meth c RX6 cX6_leastLimit (some .int) 4 G := ⟨B.exec, B.bytes, B.returns, hml, findClass_of_methodNamed B.named, fun w h => atoms_spec (ws := wz yX6_leastLimit cX6_leastLimit 4 (some .int)) B.pre w (List.mem_cons_of_mem _ h), B.notSynchronized, hC⟩
  have hl := lv_entry ([.ref (G.2.1 6 0), .ref (G.2.1 36 0)]) (n := 4) (Nat.le_of_ble_eq_true rfl)
  rw [lg_entry_eq]
  generalize (lg_sl ([.ref (G.2.1 6 0), .ref (G.2.1 36 0)]) ++ List.replicate (4 - (lg_sl ([.ref (G.2.1 6 0), .ref (G.2.1 36 0)])).length) Slot.unset).toArray = ls at hl ⊢
  exact wk_X6_leastLimit C0  X hf hP va_S.rf hl
abbrev rm_X6_search : Room := { frames := 2, cells := 0, slots := 0, locals := 45 }
def wb_X6_search_2 (k2 : Int32 → SM → Option (Int32 × SM)) (x3 : Int32) (X : SM) : Option (Int32 × SM) :=
  if 64 < x3 then
  (some (3, X))
  else
  ((fn_X6_note x3 X).bind fun X_2 =>
    (fn_X6_periodAt x3 X_2).bind fun r_4 =>
    if r_4 = (-1) then
    ((fn_X6_leastLimit X_2).bind fun r_7 =>
      g_let (fn_X11_isThread r_7) fun r_9 =>
      if r_9 = 0 then
      (some (2, X_2))
      else
      (if g_in r_7 6 then
        if x3 < (X_2 25 0 (r_7.toNatClampNeg)) then
        (if g_in x3 65 then
          g_let (u1 X_2 27 0 (x3.toNatClampNeg) r_7) fun X_15 =>
          if g_in r_7 6 then
          if g_in r_7 6 then
          g_let (u1 X_15 25 0 (r_7.toNatClampNeg) ((x3 + 1) + (X_15 36 0 (r_7.toNatClampNeg)))) fun X_18 =>
          g_let (x3 + 1) fun x3_19 =>
          k2 x3_19 X_18
          else none
          else none
          else none)
        else
        (some (2, X_2))
        else none))
    else
    ((fn_X6_fill (x3 - r_4) r_4 X_2).bind fun X_20 =>
      some (0, X_20)))
set_option maxRecDepth 100000 in
set_option maxHeartbeats 4000000 in
theorem bk_X6_search_2 {p : Program} {l : Launch} {e : Env} {s : State} {m : MethodId} {args : Array Value} {below : List Frame} {meth : Method} {c : Code} {G : GP} {M : SM} {τ : SL} (C0 : g_mc p s m args meth c RX6 cX6_search (some .int) 6 G) {r0 : Int32} {X0 : SM} (k2 : Int32 → SM → Option (Int32 × SM)) (hk2 : ∀ (x3 : Int32) (X : SM), k2 x3 X = some (r0, X0) → ∀ {H : Heap} {locs : List Loc}, va_P G.1 g_cl (wd G (cb X M) τ) H → va_S (g_A G) s.heap H locs → ∀ {ls : Array Slot}, lv_has ls 6 [(0, .ref (G.2.1 6 0)), (1, .ref (G.2.1 36 0)), (2, .ref (G.2.1 10 0)), (3, .int x3)] → W p l e rm_X6_search s m args below meth c H locs 0 0 (MQ below (va_Qi (fun r u => r = r0 ∧ u = (X0, M, τ)) (g_pw G) (g_A G)) args s 0 0 (g_A G)) (F0 m 2 ls [])) (x3 : Int32) (X : SM) (hf : wb_X6_search_2 k2 x3 X = some (r0, X0)) {H : Heap} {locs : List Loc} (hP : va_P G.1 g_cl (wd G (cb X M) τ) H) (hS : va_S (g_A G) s.heap H locs) {ls : Array Slot} (hl : lv_has ls 6 [(0, .ref (G.2.1 6 0)), (1, .ref (G.2.1 36 0)), (2, .ref (G.2.1 10 0)), (3, .int x3)]) : W p l e rm_X6_search s m args below meth c H locs 0 0 (MQ below (va_Qi (fun r u => r = r0 ∧ u = (X0, M, τ)) (g_pw G) (g_A G)) args s 0 0 (g_A G)) (F0 m 2 ls []) := by
  obtain ⟨hx, hb, hr, hml, hown, hts, hlocks, hC⟩ := id C0
  unfold wb_X6_search_2 at hf
  refine lv_iload_n hx hb dX6_search_2 rfl (lv_at hl 3 rfl) ?_
  refine lv_bipush (v := 64) hx hb dX6_search_3 (by decide) ?_
  refine lv_icmp_gt (tgt := 97) hx hb dX6_search_5 (by decide) (fun hc_1 => ?_) (fun hc_1 => ?_)
  · have hf := g_pos hf hc_1
    refine lv_iconst (v := 3) hx hb dX6_search_97 (by decide) ?_
    cases hf
    exact x_iret hx hb hlocks hC hP hS hr dX6_search_98
  · have hf := g_neg hf hc_1
    refine lv_aload_n hx hb dX6_search_8 rfl (lv_at hl 0 rfl) ?_
    refine lv_aload_n hx hb dX6_search_9 rfl (lv_at hl 1 rfl) ?_
    refine lv_iload_n hx hb dX6_search_10 rfl (lv_at hl 3 rfl) ?_
    obtain ⟨X_2, hc_3, hf⟩ := g_bindE hf
    refine x_callv (v := (X_2, M, τ)) (va_runV (As := [.ref (G.2.1 36 0), .int x3]) (rest := []) ⟨hx, hb, hml, hown, hts⟩ (ct_X6_note l G X M τ x3 hc_3) (cwV 2 hts gd_X6_33 rfl rfl rfl hd_X6_note ⟨Nat.le_of_ble_eq_true rfl, Nat.le_of_ble_eq_true rfl⟩) (x_preV (u := (X, M, τ)) (k := 6) (ci := 6) hC hS hP Nat.zero_lt_one rfl rfl) rfl rfl hl.1 rfl (lv_room (Nat.le_of_ble_eq_true rfl)) dX6_search_11 ⟨Nat.zero_le _, Nat.zero_le _⟩) hS (fun H locs hP hS => ?_)
    refine lv_aload_n hx hb dX6_search_14 rfl (lv_at hl 0 rfl) ?_
    refine lv_iload_n hx hb dX6_search_15 rfl (lv_at hl 3 rfl) ?_
    obtain ⟨r_4, hc_5, hf⟩ := g_bindE hf
    refine x_calli (v := (X_2, M, τ)) (va_runV (As := [.int x3]) (rest := []) ⟨hx, hb, hml, hown, hts⟩ (ct_X6_periodAt l G X_2 M τ x3 hc_5) (cwV 1 hts gd_X6_37 rfl rfl rfl hd_X6_periodAt ⟨Nat.le_of_ble_eq_true rfl, Nat.le_of_ble_eq_true rfl⟩) (x_preV (u := (X_2, M, τ)) (k := 6) (ci := 6) hC hS hP Nat.zero_lt_one rfl rfl) rfl rfl hl.1 rfl (lv_room (Nat.le_of_ble_eq_true rfl)) dX6_search_16 ⟨Nat.zero_le _, Nat.zero_le _⟩) hS (fun H locs hP hS => ?_)
    refine lv_istore (lv' := [(4, .int r_4), (0, .ref (G.2.1 6 0)), (1, .ref (G.2.1 36 0)), (2, .ref (G.2.1 10 0)), (3, .int x3)]) hx hb dX6_search_19 hl (by decide) rfl (fun ls hl => ?_)
    refine lv_iload hx hb dX6_search_21 (lv_at hl 0 rfl) ?_
    refine lv_iconst (v := (-1)) hx hb dX6_search_23 (by decide) ?_
    refine lv_icmp_eq (tgt := 40) hx hb dX6_search_24 (by decide) (fun hc_6 => ?_) (fun hc_6 => ?_)
    · have hf := g_pos hf hc_6
      refine lv_aload_n hx hb dX6_search_40 rfl (lv_at hl 1 rfl) ?_
      refine lv_aload_n hx hb dX6_search_41 rfl (lv_at hl 2 rfl) ?_
      obtain ⟨r_7, hc_8, hf⟩ := g_bindE hf
      refine x_calli (v := (X_2, M, τ)) (va_runV (As := [.ref (G.2.1 36 0)]) (rest := []) ⟨hx, hb, hml, hown, hts⟩ (ct_X6_leastLimit l G X_2 M τ  hc_8) (cwV 1 hts gd_X6_45 rfl rfl rfl hd_X6_leastLimit ⟨Nat.le_of_ble_eq_true rfl, Nat.le_of_ble_eq_true rfl⟩) (x_preV (u := (X_2, M, τ)) (k := 6) (ci := 6) hC hS hP Nat.zero_lt_one rfl rfl) rfl rfl hl.1 rfl (lv_room (Nat.le_of_ble_eq_true rfl)) dX6_search_42 ⟨Nat.zero_le _, Nat.zero_le _⟩) hS (fun H locs hP hS => ?_)
      refine lv_istore (lv' := [(5, .int r_7), (4, .int r_4), (0, .ref (G.2.1 6 0)), (1, .ref (G.2.1 36 0)), (2, .ref (G.2.1 10 0)), (3, .int x3)]) hx hb dX6_search_45 hl (by decide) rfl (fun ls hl => ?_)
      refine lv_iload hx hb dX6_search_47 (lv_at hl 0 rfl) ?_
      obtain ⟨r_9, hc_10, hf⟩ := g_letE hf
      refine x_calli (v := (X_2, M, τ)) (va_runSN (As := [.int r_7]) (rest := []) ⟨hx, hb, hml, hown, hts⟩ (ct_X11_isThread l G X_2 M τ r_7 hc_10) ⟨va_cnB 1 hts (wz_N q8_1) rfl rfl rfl hC.2.1.2.2.1 (hts _ q1_2) hd_X11_isThread.2 ⟨Nat.le_of_ble_eq_true rfl, Nat.le_of_ble_eq_true rfl⟩, hts _ q8_0, trivial⟩ (x_pre (u := (X_2, M, τ)) hC hS hP) rfl rfl hl.1 rfl (lv_room (Nat.le_of_ble_eq_true rfl)) dX6_search_49 ⟨Nat.zero_le _, Nat.zero_le _⟩) hS (fun H locs hP hS => ?_)
      refine lv_if_eq (tgt := 66) hx hb dX6_search_52 (by decide) (fun hc_11 => ?_) (fun hc_11 => ?_)
      · have hf := g_pos hf hc_11
        refine lv_iconst (v := 2) hx hb dX6_search_66 (by decide) ?_
        cases hf
        exact x_iret hx hb hlocks hC hP hS hr dX6_search_67
      · have hf := g_neg hf hc_11
        refine lv_aload_n hx hb dX6_search_55 rfl (lv_at hl 2 rfl) ?_
        refine gt_6_0 hx hb hts hown hC hP Nat.zero_lt_one q6_10 dX6_search_56 ?_
        refine lv_iload hx hb dX6_search_59 (lv_at hl 0 rfl) ?_
        obtain ⟨hg_12, hf⟩ := g_gd hf
        refine xildX (k := 25) (n := 6) hx hb hC hP (fun _ _ => rfl) rfl Nat.zero_lt_one hg_12 dX6_search_61 ?_
        refine lv_iload_n hx hb dX6_search_62 rfl (lv_at hl 5 rfl) ?_
        refine lv_icmp_gt (tgt := 68) hx hb dX6_search_63 (by decide) (fun hc_13 => ?_) (fun hc_13 => ?_)
        · have hf := g_pos hf hc_13
          refine lv_aload_n hx hb dX6_search_68 rfl (lv_at hl 2 rfl) ?_
          refine gt_6_2 hx hb hts hown hC hP Nat.zero_lt_one q6_12 dX6_search_69 ?_
          refine lv_iload_n hx hb dX6_search_72 rfl (lv_at hl 5 rfl) ?_
          refine lv_iload hx hb dX6_search_73 (lv_at hl 0 rfl) ?_
          obtain ⟨hg_14, hf⟩ := g_gd hf
          obtain ⟨X_15, eX_15, hf⟩ := g_letE hf
          refine xistX (k := 27) (n := 65) hx hb hC hP hS (fun _ _ => rfl) rfl Nat.zero_lt_one hg_14 dX6_search_75 (fun H locs hP hS => ?_)
          rw [eX_15] at hP
          refine lv_aload_n hx hb dX6_search_76 rfl (lv_at hl 2 rfl) ?_
          refine gt_6_0 hx hb hts hown hC hP Nat.zero_lt_one q6_10 dX6_search_77 ?_
          refine lv_iload hx hb dX6_search_80 (lv_at hl 0 rfl) ?_
          refine lv_iload_n hx hb dX6_search_82 rfl (lv_at hl 5 rfl) ?_
          refine lv_iconst (v := 1) hx hb dX6_search_83 (by decide) ?_
          refine lv_iadd hx hb dX6_search_84 ?_
          refine lv_aload_n hx hb dX6_search_85 rfl (lv_at hl 3 rfl) ?_
          refine lv_iload hx hb dX6_search_86 (lv_at hl 0 rfl) ?_
          obtain ⟨hg_16, hf⟩ := g_gd hf
          refine xildX (k := 36) (n := 6) hx hb hC hP (fun _ _ => rfl) rfl Nat.zero_lt_one hg_16 dX6_search_88 ?_
          refine lv_iadd hx hb dX6_search_89 ?_
          obtain ⟨hg_17, hf⟩ := g_gd hf
          obtain ⟨X_18, eX_18, hf⟩ := g_letE hf
          refine xistX (k := 25) (n := 6) hx hb hC hP hS (fun _ _ => rfl) rfl Nat.zero_lt_one hg_17 dX6_search_90 (fun H locs hP hS => ?_)
          rw [eX_18] at hP
          obtain ⟨x3_19, ex3_19, hf⟩ := g_letE hf
          refine lv_iinc (v := x3_19) (lv' := [(3, .int x3_19), (5, .int r_7), (4, .int r_4), (0, .ref (G.2.1 6 0)), (1, .ref (G.2.1 36 0)), (2, .ref (G.2.1 10 0))]) hx hb dX6_search_91 hl (k := 5) rfl (by rw [← ex3_19]; rfl) (by decide) rfl (fun ls hl => ?_)
          refine lv_goto (tgt := 2) hx hb dX6_search_94 (by decide) ?_
          exact hk2 x3_19 X_18 hf hP hS (lv_sub hl [3, 4, 5, 0] rfl)
        · have hf := g_neg hf hc_13
          refine lv_iconst (v := 2) hx hb dX6_search_66 (by decide) ?_
          cases hf
          exact x_iret hx hb hlocks hC hP hS hr dX6_search_67
    · have hf := g_neg hf hc_6
      refine lv_aload_n hx hb dX6_search_27 rfl (lv_at hl 1 rfl) ?_
      refine lv_aload_n hx hb dX6_search_28 rfl (lv_at hl 3 rfl) ?_
      refine lv_iload_n hx hb dX6_search_29 rfl (lv_at hl 4 rfl) ?_
      refine lv_iload hx hb dX6_search_30 (lv_at hl 0 rfl) ?_
      refine lv_isub hx hb dX6_search_32 ?_
      refine lv_iload hx hb dX6_search_33 (lv_at hl 0 rfl) ?_
      obtain ⟨X_20, hc_21, hf⟩ := g_bindE hf
      refine x_callv (v := (X_20, M, τ)) (va_runV (As := [.ref (G.2.1 10 0), .int (x3 - r_4), .int r_4]) (rest := []) ⟨hx, hb, hml, hown, hts⟩ (ct_X6_fill l G X_2 M τ (x3 - r_4) r_4 hc_21) (cwV 3 hts gd_X6_41 rfl rfl rfl hd_X6_fill ⟨Nat.le_of_ble_eq_true rfl, Nat.le_of_ble_eq_true rfl⟩) (x_preV (u := (X_2, M, τ)) (k := 6) (ci := 6) hC hS hP Nat.zero_lt_one rfl rfl) rfl rfl hl.1 rfl (lv_room (Nat.le_of_ble_eq_true rfl)) dX6_search_35 ⟨Nat.zero_le _, Nat.zero_le _⟩) hS (fun H locs hP hS => ?_)
      refine lv_iconst (v := 0) hx hb dX6_search_38 (by decide) ?_
      cases hf
      exact x_iret hx hb hlocks hC hP hS hr dX6_search_39
def wl_X6_search_2 (n : Nat) (x3 : Int32) (X : SM) : Option (Int32 × SM) := g_loop (α := Int32 × SM) (fun k a => wb_X6_search_2 (fun x3 X => k (x3, X)) a.1 a.2) n (x3, X)
set_option maxRecDepth 100000 in
set_option maxHeartbeats 4000000 in
theorem lp_X6_search_2 {p : Program} {l : Launch} {e : Env} {s : State} {m : MethodId} {args : Array Value} {below : List Frame} {meth : Method} {c : Code} {G : GP} {M : SM} {τ : SL} (C0 : g_mc p s m args meth c RX6 cX6_search (some .int) 6 G) {r0 : Int32} {X0 : SM} (n : Nat) : ∀ (x3 : Int32) (X : SM), wl_X6_search_2 n x3 X = some (r0, X0) → ∀ {H : Heap} {locs : List Loc}, va_P G.1 g_cl (wd G (cb X M) τ) H → va_S (g_A G) s.heap H locs → ∀ {ls : Array Slot}, lv_has ls 6 [(0, .ref (G.2.1 6 0)), (1, .ref (G.2.1 36 0)), (2, .ref (G.2.1 10 0)), (3, .int x3)] → W p l e rm_X6_search s m args below meth c H locs 0 0 (MQ below (va_Qi (fun r u => r = r0 ∧ u = (X0, M, τ)) (g_pw G) (g_A G)) args s 0 0 (g_A G)) (F0 m 2 ls []) := by
  induction n with
  | zero =>
    intro x3 X hf
    have hf : (none : Option (Int32 × SM)) = _ := hf
    cases hf
  | succ n ih =>
    intro x3 X hf H locs hP hS ls hl
    exact bk_X6_search_2 C0   (fun x3 X => wl_X6_search_2   n x3 X) ih x3 X hf hP hS hl
def fn_X6_search (X : SM) : Option (Int32 × SM) :=
  wl_X6_search_2 1000 0 X
set_option maxRecDepth 100000 in
set_option maxHeartbeats 4000000 in
theorem wk_X6_search {p : Program} {l : Launch} {e : Env} {s : State} {m : MethodId} {args : Array Value} {below : List Frame} {meth : Method} {c : Code} {G : GP} {M : SM} {τ : SL} (C0 : g_mc p s m args meth c RX6 cX6_search (some .int) 6 G) {r0 : Int32} {X0 : SM} (X : SM) (hf : fn_X6_search X = some (r0, X0)) {H : Heap} {locs : List Loc} (hP : va_P G.1 g_cl (wd G (cb X M) τ) H) (hS : va_S (g_A G) s.heap H locs) {ls : Array Slot} (hl : lv_has ls 6 [(0, .ref (G.2.1 6 0)), (1, .ref (G.2.1 36 0)), (2, .ref (G.2.1 10 0))]) : W p l e rm_X6_search s m args below meth c H locs 0 0 (MQ below (va_Qi (fun r u => r = r0 ∧ u = (X0, M, τ)) (g_pw G) (g_A G)) args s 0 0 (g_A G)) (F0 m 0 ls []) := by
  obtain ⟨hx, hb, hr, hml, hown, hts, hlocks, hC⟩ := id C0
  unfold fn_X6_search at hf
  refine lv_iconst (v := 0) hx hb dX6_search_0 (by decide) ?_
  refine lv_istore_n (lv' := [(3, .int 0), (0, .ref (G.2.1 6 0)), (1, .ref (G.2.1 36 0)), (2, .ref (G.2.1 10 0))]) hx hb dX6_search_1 rfl hl (by decide) rfl (fun ls hl => ?_)
  exact lp_X6_search_2 C0 1000 0 X hf hP hS (lv_sub hl [1, 2, 3, 0] rfl)
set_option maxRecDepth 100000 in
set_option maxHeartbeats 4000000 in
theorem ct_X6_search (l : Launch) (G : GP) (X M : SM) (τ : SL) {r0 : Int32} {X0 : SM} (hf : fn_X6_search X = some (r0, X0)) : Met l yX6_search (wz yX6_search cX6_search 6 (some .int)) rm_X6_search (va_Pc [.ref (G.2.1 6 0), .ref (G.2.1 36 0), .ref (G.2.1 10 0)] (g_pw G (X, M, τ))) (va_Qi (fun r u => r = r0 ∧ u = (X0, M, τ)) (g_pw G) (g_A G)) 0 0 (g_A G) := by
  refine Met.ofW (cc := cX6_search) (maxL := 6) (ret := (some .int)) (by decide +kernel) rfl ?_
  intro p e s m args below meth c s₁ B hml hv
  obtain ⟨rfl, hC, hP⟩ := hv
  have C0 : g_mc p s m _ meth c RX6 cX6_search (some .int) 6 G := ⟨B.exec, B.bytes, B.returns, hml, findClass_of_methodNamed B.named, fun w h => atoms_spec (ws := wz yX6_search cX6_search 6 (some .int)) B.pre w (List.mem_cons_of_mem _ h), B.notSynchronized, hC⟩
  have hl := lv_entry ([.ref (G.2.1 6 0), .ref (G.2.1 36 0), .ref (G.2.1 10 0)]) (n := 6) (Nat.le_of_ble_eq_true rfl)
  rw [lg_entry_eq]
  generalize (lg_sl ([.ref (G.2.1 6 0), .ref (G.2.1 36 0), .ref (G.2.1 10 0)]) ++ List.replicate (6 - (lg_sl ([.ref (G.2.1 6 0), .ref (G.2.1 36 0), .ref (G.2.1 10 0)])).length) Slot.unset).toArray = ls at hl ⊢
  exact wk_X6_search C0  X hf hP va_S.rf hl
abbrev rm_X6_find : Room := { frames := 3, cells := 0, slots := 0, locals := 70 }
def wb_X6_find_5 (k5 : Int32 → Int32 → SM → Option (Int32 × SM)) (x3 : Int32) (x4 : Int32) (X : SM) : Option (Int32 × SM) :=
  if 6 ≤ x4 then
  (if x3 ≤ 720720 then
    (if x3 = 0 then
      (g_let (u1 X 10 0 1 1) fun X_7 =>
        g_let (u1 X_7 34 0 (Int32.toNatClampNeg 0) (-1)) fun X_8 =>
        some (0, X_8))
      else
      ((fn_X6_search X).bind fun (r_4, X_5) =>
        some (r_4, X_5)))
    else
    (some (1, X)))
  else
  (if g_in x4 6 then
    if g_in x4 6 then
    g_let (u1 X 25 0 (x4.toNatClampNeg) (X 36 0 (x4.toNatClampNeg))) fun X_11 =>
    if g_in x4 6 then
    if (X_11 36 0 (x4.toNatClampNeg)) ≤ 0 then
    (g_let ((x3 + 0)) fun x3_14 =>
      g_let (x4 + 1) fun x4_15 =>
      k5 x3_14 x4_15 X_11)
    else
    (if g_in x4 6 then
      if ¬ (X_11 36 0 (x4.toNatClampNeg)) = 0 then
      g_let ((x3 + (720720 / (X_11 36 0 (x4.toNatClampNeg))))) fun x3_18 =>
      g_let (x4 + 1) fun x4_19 =>
      k5 x3_18 x4_19 X_11
      else none
      else none)
    else none
    else none
    else none)
set_option maxRecDepth 100000 in
set_option maxHeartbeats 4000000 in
theorem bk_X6_find_5 {p : Program} {l : Launch} {e : Env} {s : State} {m : MethodId} {args : Array Value} {below : List Frame} {meth : Method} {c : Code} {G : GP} {M : SM} {τ : SL} (C0 : g_mc p s m args meth c RX6 cX6_find (some .int) 5 G) {r0 : Int32} {X0 : SM} (k5 : Int32 → Int32 → SM → Option (Int32 × SM)) (hk5 : ∀ (x3 : Int32) (x4 : Int32) (X : SM), k5 x3 x4 X = some (r0, X0) → ∀ {H : Heap} {locs : List Loc}, va_P G.1 g_cl (wd G (cb X M) τ) H → va_S (g_A G) s.heap H locs → ∀ {ls : Array Slot}, lv_has ls 5 [(0, .ref (G.2.1 6 0)), (1, .ref (G.2.1 36 0)), (2, .ref (G.2.1 10 0)), (3, .int x3), (4, .int x4)] → W p l e rm_X6_find s m args below meth c H locs 0 0 (MQ below (va_Qi (fun r u => r = r0 ∧ u = (X0, M, τ)) (g_pw G) (g_A G)) args s 0 0 (g_A G)) (F0 m 5 ls [])) (x3 : Int32) (x4 : Int32) (X : SM) (hf : wb_X6_find_5 k5 x3 x4 X = some (r0, X0)) {H : Heap} {locs : List Loc} (hP : va_P G.1 g_cl (wd G (cb X M) τ) H) (hS : va_S (g_A G) s.heap H locs) {ls : Array Slot} (hl : lv_has ls 5 [(0, .ref (G.2.1 6 0)), (1, .ref (G.2.1 36 0)), (2, .ref (G.2.1 10 0)), (3, .int x3), (4, .int x4)]) : W p l e rm_X6_find s m args below meth c H locs 0 0 (MQ below (va_Qi (fun r u => r = r0 ∧ u = (X0, M, τ)) (g_pw G) (g_A G)) args s 0 0 (g_A G)) (F0 m 5 ls []) := by
  obtain ⟨hx, hb, hr, hml, hown, hts, hlocks, hC⟩ := id C0
  unfold wb_X6_find_5 at hf
  refine lv_iload hx hb dX6_find_5 (lv_at hl 4 rfl) ?_
  refine lv_bipush (v := 6) hx hb dX6_find_7 (by decide) ?_
  refine lv_icmp_ge (tgt := 50) hx hb dX6_find_9 (by decide) (fun hc_1 => ?_) (fun hc_1 => ?_)
  · have hf := g_pos hf hc_1
    refine lv_iload_n hx hb dX6_find_50 rfl (lv_at hl 3 rfl) ?_
    refine lv_ldc (v := 720720) hx hb hown (hts _ q15_6) dX6_find_51 ?_
    refine lv_icmp_le (tgt := 58) hx hb dX6_find_53 (by decide) (fun hc_2 => ?_) (fun hc_2 => ?_)
    · have hf := g_pos hf hc_2
      refine lv_iload_n hx hb dX6_find_58 rfl (lv_at hl 3 rfl) ?_
      refine lv_if_ne (tgt := 76) hx hb dX6_find_59 (by decide) (fun hc_3 => ?_) (fun hc_3 => ?_)
      · have hf := g_neg hf hc_3
        refine lv_aload_n hx hb dX6_find_76 rfl (lv_at hl 0 rfl) ?_
        refine lv_aload_n hx hb dX6_find_77 rfl (lv_at hl 1 rfl) ?_
        refine lv_aload_n hx hb dX6_find_78 rfl (lv_at hl 2 rfl) ?_
        obtain ⟨⟨r_4, X_5⟩, hc_6, hf⟩ := g_bindE hf
        refine x_calli (v := (X_5, M, τ)) (va_runV (As := [.ref (G.2.1 36 0), .ref (G.2.1 10 0)]) (rest := []) ⟨hx, hb, hml, hown, hts⟩ (ct_X6_search l G X M τ  hc_6) (cwV 2 hts gd_X6_29 rfl rfl rfl hd_X6_search ⟨Nat.le_of_ble_eq_true rfl, Nat.le_of_ble_eq_true rfl⟩) (x_preV (u := (X, M, τ)) (k := 6) (ci := 6) hC hS hP Nat.zero_lt_one rfl rfl) rfl rfl hl.1 rfl (lv_room (Nat.le_of_ble_eq_true rfl)) dX6_find_79 ⟨Nat.zero_le _, Nat.zero_le _⟩) hS (fun H locs hP hS => ?_)
        cases hf
        exact x_iret hx hb hlocks hC hP hS hr dX6_find_82
      · have hf := g_pos hf hc_3
        refine lv_aload_n hx hb dX6_find_62 rfl (lv_at hl 2 rfl) ?_
        refine lv_iconst (v := 1) hx hb dX6_find_63 (by decide) ?_
        obtain ⟨X_7, eX_7, hf⟩ := g_letE hf
        refine pt_10_1 hx hb hts hown hC hP hS Nat.zero_lt_one q15_7 dX6_find_64 (fun H locs hP hS => ?_)
        rw [eX_7] at hP
        refine lv_aload_n hx hb dX6_find_67 rfl (lv_at hl 2 rfl) ?_
        refine gt_10_0 hx hb hts hown hC hP Nat.zero_lt_one q15_8 dX6_find_68 ?_
        refine lv_iconst (v := 0) hx hb dX6_find_71 (by decide) ?_
        refine lv_iconst (v := (-1)) hx hb dX6_find_72 (by decide) ?_
        obtain ⟨X_8, eX_8, hf⟩ := g_letE hf
        refine xistX (k := 34) (n := 16) hx hb hC hP hS (fun _ _ => rfl) rfl Nat.zero_lt_one (by decide) dX6_find_73 (fun H locs hP hS => ?_)
        rw [eX_8] at hP
        refine lv_iconst (v := 0) hx hb dX6_find_74 (by decide) ?_
        cases hf
        exact x_iret hx hb hlocks hC hP hS hr dX6_find_75
    · have hf := g_neg hf hc_2
      refine lv_iconst (v := 1) hx hb dX6_find_56 (by decide) ?_
      cases hf
      exact x_iret hx hb hlocks hC hP hS hr dX6_find_57
  · have hf := g_neg hf hc_1
    refine lv_aload_n hx hb dX6_find_12 rfl (lv_at hl 0 rfl) ?_
    refine gt_6_0 hx hb hts hown hC hP Nat.zero_lt_one q6_10 dX6_find_13 ?_
    refine lv_iload hx hb dX6_find_16 (lv_at hl 4 rfl) ?_
    refine lv_aload_n hx hb dX6_find_18 rfl (lv_at hl 1 rfl) ?_
    refine lv_iload hx hb dX6_find_19 (lv_at hl 4 rfl) ?_
    obtain ⟨hg_9, hf⟩ := g_gd hf
    refine xildX (k := 36) (n := 6) hx hb hC hP (fun _ _ => rfl) rfl Nat.zero_lt_one hg_9 dX6_find_21 ?_
    obtain ⟨hg_10, hf⟩ := g_gd hf
    obtain ⟨X_11, eX_11, hf⟩ := g_letE hf
    refine xistX (k := 25) (n := 6) hx hb hC hP hS (fun _ _ => rfl) rfl Nat.zero_lt_one hg_10 dX6_find_22 (fun H locs hP hS => ?_)
    rw [eX_11] at hP
    refine lv_iload_n hx hb dX6_find_23 rfl (lv_at hl 3 rfl) ?_
    refine lv_aload_n hx hb dX6_find_24 rfl (lv_at hl 1 rfl) ?_
    refine lv_iload hx hb dX6_find_25 (lv_at hl 4 rfl) ?_
    obtain ⟨hg_12, hf⟩ := g_gd hf
    refine xildX (k := 36) (n := 6) hx hb hC hP (fun _ _ => rfl) rfl Nat.zero_lt_one hg_12 dX6_find_27 ?_
    refine lv_if_le (tgt := 41) hx hb dX6_find_28 (by decide) (fun hc_13 => ?_) (fun hc_13 => ?_)
    · have hf := g_pos hf hc_13
      refine lv_iconst (v := 0) hx hb dX6_find_41 (by decide) ?_
      refine lv_iadd hx hb dX6_find_42 ?_
      obtain ⟨x3_14, ex3_14, hf⟩ := g_letE hf
      refine lv_topE ex3_14 ?_
      refine lv_istore_n (lv' := [(3, .int x3_14), (0, .ref (G.2.1 6 0)), (1, .ref (G.2.1 36 0)), (2, .ref (G.2.1 10 0)), (4, .int x4)]) hx hb dX6_find_43 rfl hl (by decide) rfl (fun ls hl => ?_)
      obtain ⟨x4_15, ex4_15, hf⟩ := g_letE hf
      refine lv_iinc (v := x4_15) (lv' := [(4, .int x4_15), (3, .int x3_14), (0, .ref (G.2.1 6 0)), (1, .ref (G.2.1 36 0)), (2, .ref (G.2.1 10 0))]) hx hb dX6_find_44 hl (k := 4) rfl (by rw [← ex4_15]; rfl) (by decide) rfl (fun ls hl => ?_)
      refine lv_goto (tgt := 5) hx hb dX6_find_47 (by decide) ?_
      exact hk5 x3_14 x4_15 X_11 hf hP hS (lv_sub hl [2, 3, 4, 1, 0] rfl)
    · have hf := g_neg hf hc_13
      refine lv_ldc (v := 720720) hx hb hown (hts _ q15_6) dX6_find_31 ?_
      refine lv_aload_n hx hb dX6_find_33 rfl (lv_at hl 1 rfl) ?_
      refine lv_iload hx hb dX6_find_34 (lv_at hl 4 rfl) ?_
      obtain ⟨hg_16, hf⟩ := g_gd hf
      refine xildX (k := 36) (n := 6) hx hb hC hP (fun _ _ => rfl) rfl Nat.zero_lt_one hg_16 dX6_find_36 ?_
      obtain ⟨hg_17, hf⟩ := g_gd hf
      refine lv_idiv hx hb dX6_find_37 hg_17 ?_
      refine lv_goto (tgt := 42) hx hb dX6_find_38 (by decide) ?_
      refine lv_iadd hx hb dX6_find_42 ?_
      obtain ⟨x3_18, ex3_18, hf⟩ := g_letE hf
      refine lv_topE ex3_18 ?_
      refine lv_istore_n (lv' := [(3, .int x3_18), (0, .ref (G.2.1 6 0)), (1, .ref (G.2.1 36 0)), (2, .ref (G.2.1 10 0)), (4, .int x4)]) hx hb dX6_find_43 rfl hl (by decide) rfl (fun ls hl => ?_)
      obtain ⟨x4_19, ex4_19, hf⟩ := g_letE hf
      refine lv_iinc (v := x4_19) (lv' := [(4, .int x4_19), (3, .int x3_18), (0, .ref (G.2.1 6 0)), (1, .ref (G.2.1 36 0)), (2, .ref (G.2.1 10 0))]) hx hb dX6_find_44 hl (k := 4) rfl (by rw [← ex4_19]; rfl) (by decide) rfl (fun ls hl => ?_)
      refine lv_goto (tgt := 5) hx hb dX6_find_47 (by decide) ?_
      exact hk5 x3_18 x4_19 X_11 hf hP hS (lv_sub hl [2, 3, 4, 1, 0] rfl)
def wl_X6_find_5 (n : Nat) (x3 : Int32) (x4 : Int32) (X : SM) : Option (Int32 × SM) := g_loop (α := Int32 × Int32 × SM) (fun k a => wb_X6_find_5 (fun x3 x4 X => k (x3, x4, X)) a.1 a.2.1 a.2.2) n (x3, x4, X)
set_option maxRecDepth 100000 in
set_option maxHeartbeats 4000000 in
theorem lp_X6_find_5 {p : Program} {l : Launch} {e : Env} {s : State} {m : MethodId} {args : Array Value} {below : List Frame} {meth : Method} {c : Code} {G : GP} {M : SM} {τ : SL} (C0 : g_mc p s m args meth c RX6 cX6_find (some .int) 5 G) {r0 : Int32} {X0 : SM} (n : Nat) : ∀ (x3 : Int32) (x4 : Int32) (X : SM), wl_X6_find_5 n x3 x4 X = some (r0, X0) → ∀ {H : Heap} {locs : List Loc}, va_P G.1 g_cl (wd G (cb X M) τ) H → va_S (g_A G) s.heap H locs → ∀ {ls : Array Slot}, lv_has ls 5 [(0, .ref (G.2.1 6 0)), (1, .ref (G.2.1 36 0)), (2, .ref (G.2.1 10 0)), (3, .int x3), (4, .int x4)] → W p l e rm_X6_find s m args below meth c H locs 0 0 (MQ below (va_Qi (fun r u => r = r0 ∧ u = (X0, M, τ)) (g_pw G) (g_A G)) args s 0 0 (g_A G)) (F0 m 5 ls []) := by
  induction n with
  | zero =>
    intro x3 x4 X hf
    have hf : (none : Option (Int32 × SM)) = _ := hf
    cases hf
  | succ n ih =>
    intro x3 x4 X hf H locs hP hS ls hl
    exact bk_X6_find_5 C0   (fun x3 x4 X => wl_X6_find_5   n x3 x4 X) ih x3 x4 X hf hP hS hl
def fn_X6_find (X : SM) : Option (Int32 × SM) :=
  wl_X6_find_5 1000 0 0 X
set_option maxRecDepth 100000 in
set_option maxHeartbeats 4000000 in
theorem wk_X6_find {p : Program} {l : Launch} {e : Env} {s : State} {m : MethodId} {args : Array Value} {below : List Frame} {meth : Method} {c : Code} {G : GP} {M : SM} {τ : SL} (C0 : g_mc p s m args meth c RX6 cX6_find (some .int) 5 G) {r0 : Int32} {X0 : SM} (X : SM) (hf : fn_X6_find X = some (r0, X0)) {H : Heap} {locs : List Loc} (hP : va_P G.1 g_cl (wd G (cb X M) τ) H) (hS : va_S (g_A G) s.heap H locs) {ls : Array Slot} (hl : lv_has ls 5 [(0, .ref (G.2.1 6 0)), (1, .ref (G.2.1 36 0)), (2, .ref (G.2.1 10 0))]) : W p l e rm_X6_find s m args below meth c H locs 0 0 (MQ below (va_Qi (fun r u => r = r0 ∧ u = (X0, M, τ)) (g_pw G) (g_A G)) args s 0 0 (g_A G)) (F0 m 0 ls []) := by
  obtain ⟨hx, hb, hr, hml, hown, hts, hlocks, hC⟩ := id C0
  unfold fn_X6_find at hf
  refine lv_iconst (v := 0) hx hb dX6_find_0 (by decide) ?_
  refine lv_istore_n (lv' := [(3, .int 0), (0, .ref (G.2.1 6 0)), (1, .ref (G.2.1 36 0)), (2, .ref (G.2.1 10 0))]) hx hb dX6_find_1 rfl hl (by decide) rfl (fun ls hl => ?_)
  refine lv_iconst (v := 0) hx hb dX6_find_2 (by decide) ?_
  refine lv_istore (lv' := [(4, .int 0), (3, .int 0), (0, .ref (G.2.1 6 0)), (1, .ref (G.2.1 36 0)), (2, .ref (G.2.1 10 0))]) hx hb dX6_find_3 hl (by decide) rfl (fun ls hl => ?_)
  exact lp_X6_find_5 C0 1000 0 0 X hf hP hS (lv_sub hl [2, 3, 4, 1, 0] rfl)
set_option maxRecDepth 100000 in
set_option maxHeartbeats 4000000 in
theorem ct_X6_find (l : Launch) (G : GP) (X M : SM) (τ : SL) {r0 : Int32} {X0 : SM} (hf : fn_X6_find X = some (r0, X0)) : Met l yX6_find (wz yX6_find cX6_find 5 (some .int)) rm_X6_find (va_Pc [.ref (G.2.1 6 0), .ref (G.2.1 36 0), .ref (G.2.1 10 0)] (g_pw G (X, M, τ))) (va_Qi (fun r u => r = r0 ∧ u = (X0, M, τ)) (g_pw G) (g_A G)) 0 0 (g_A G) := by
  refine Met.ofW (cc := cX6_find) (maxL := 5) (ret := (some .int)) (by decide +kernel) rfl ?_
  intro p e s m args below meth c s₁ B hml hv
  obtain ⟨rfl, hC, hP⟩ := hv
  have C0 : g_mc p s m _ meth c RX6 cX6_find (some .int) 5 G := ⟨B.exec, B.bytes, B.returns, hml, findClass_of_methodNamed B.named, fun w h => atoms_spec (ws := wz yX6_find cX6_find 5 (some .int)) B.pre w (List.mem_cons_of_mem _ h), B.notSynchronized, hC⟩
  have hl := lv_entry ([.ref (G.2.1 6 0), .ref (G.2.1 36 0), .ref (G.2.1 10 0)]) (n := 5) (Nat.le_of_ble_eq_true rfl)
  rw [lg_entry_eq]
  generalize (lg_sl ([.ref (G.2.1 6 0), .ref (G.2.1 36 0), .ref (G.2.1 10 0)]) ++ List.replicate (5 - (lg_sl ([.ref (G.2.1 6 0), .ref (G.2.1 36 0), .ref (G.2.1 10 0)])).length) Slot.unset).toArray = ls at hl ⊢
  exact wk_X6_find C0  X hf hP va_S.rf hl
