abbrev rm_X11_found : Room := { frames := 4, cells := 0, slots := 0, locals := 94 }
def fn_X11_found (X : SM) : Option (Int32 × SM) :=
  (fn_X6_find X).bind fun (r_1, X_2) =>
  some (r_1, X_2)
set_option maxRecDepth 100000 in
set_option maxHeartbeats 4000000 in
theorem wk_X11_found {p : Program} {l : Launch} {e : Env} {s : State} {m : MethodId} {args : Array Value} {below : List Frame} {meth : Method} {c : Code} {G : GP} {M : SM} {τ : SL} (C0 : g_mc p s m args meth c RX11 cX11_found (some .int) 1 G) {r0 : Int32} {X0 : SM} (X : SM) (hf : fn_X11_found X = some (r0, X0)) {H : Heap} {locs : List Loc} (hP : va_P G.1 g_cl (wd G (cb X M) τ) H) (hS : va_S (g_A G) s.heap H locs) {ls : Array Slot} (hl : lv_has ls 1 [(0, .ref (G.2.1 11 0))]) : W p l e rm_X11_found s m args below meth c H locs 0 0 (MQ below (va_Qi (fun r u => r = r0 ∧ u = (X0, M, τ)) (g_pw G) (g_A G)) args s 0 0 (g_A G)) (F0 m 0 ls []) := by
  obtain ⟨hx, hb, hr, hml, hown, hts, hlocks, hC⟩ := id C0
  unfold fn_X11_found at hf
  refine lv_aload_n hx hb dX11_found_0 rfl (lv_at hl 0 rfl) ?_
  refine gt_11_5 hx hb hts hown hC hP Nat.zero_lt_one q2_9 dX11_found_1 ?_
  refine lv_aload_n hx hb dX11_found_4 rfl (lv_at hl 0 rfl) ?_
  refine gt_11_7 hx hb hts hown hC hP Nat.zero_lt_one q2_12 dX11_found_5 ?_
  refine lv_aload_n hx hb dX11_found_8 rfl (lv_at hl 0 rfl) ?_
  refine gt_11_0 hx hb hts hown hC hP Nat.zero_lt_one q1_16 dX11_found_9 ?_
  obtain ⟨⟨r_1, X_2⟩, hc_3, hf⟩ := g_bindE hf
  refine x_calli (v := (X_2, M, τ)) (va_runV (As := [.ref (G.2.1 36 0), .ref (G.2.1 10 0)]) (rest := []) ⟨hx, hb, hml, hown, hts⟩ (ct_X6_find l G X M τ  hc_3) (cwV 2 hts gd_X11_130 rfl rfl rfl hd_X6_find ⟨Nat.le_of_ble_eq_true rfl, Nat.le_of_ble_eq_true rfl⟩) (x_preV (u := (X, M, τ)) (k := 6) (ci := 6) hC hS hP Nat.zero_lt_one rfl rfl) rfl rfl hl.1 rfl (lv_room (Nat.le_of_ble_eq_true rfl)) dX11_found_12 ⟨Nat.zero_le _, Nat.zero_le _⟩) hS (fun H locs hP hS => ?_)
  cases hf
  exact x_iret hx hb hlocks hC hP hS hr dX11_found_15
set_option maxRecDepth 100000 in
set_option maxHeartbeats 4000000 in
theorem ct_X11_found (l : Launch) (G : GP) (X M : SM) (τ : SL) {r0 : Int32} {X0 : SM} (hf : fn_X11_found X = some (r0, X0)) : Met l yX11_found (wz yX11_found cX11_found 1 (some .int)) rm_X11_found (va_Pc [.ref (G.2.1 11 0)] (g_pw G (X, M, τ))) (va_Qi (fun r u => r = r0 ∧ u = (X0, M, τ)) (g_pw G) (g_A G)) 0 0 (g_A G) := by
  refine Met.ofW (cc := cX11_found) (maxL := 1) (ret := (some .int)) (by decide +kernel) rfl ?_
  intro p e s m args below meth c s₁ B hml hv
  obtain ⟨rfl, hC, hP⟩ := hv
  have C0 : g_mc p s m _ meth c RX11 cX11_found (some .int) 1 G := ⟨B.exec, B.bytes, B.returns, hml, findClass_of_methodNamed B.named, fun w h => atoms_spec (ws := wz yX11_found cX11_found 1 (some .int)) B.pre w (List.mem_cons_of_mem _ h), B.notSynchronized, hC⟩
  have hl := lv_entry ([.ref (G.2.1 11 0)]) (n := 1) (Nat.le_of_ble_eq_true rfl)
  rw [lg_entry_eq]
  generalize (lg_sl ([.ref (G.2.1 11 0)]) ++ List.replicate (1 - (lg_sl ([.ref (G.2.1 11 0)])).length) Slot.unset).toArray = ls at hl ⊢
  exact wk_X11_found C0  X hf hP va_S.rf hl
abbrev rm_X11_hard : Room := { frames := 1, cells := 0, slots := 0, locals := 20 }
def fn_X11_hard (x1 : Int32) (x2 : Int32) (X : SM) : Option (Int32 × SM) :=
  g_let (fn_X11_isThread x1) fun r_1 =>
  if r_1 = 0 then
  (some (0, X))
  else
  (if g_in x1 6 then
    if (X 9 (6 * 0 + (x1.toNatClampNeg)) 7) = x2 then
    (some (0, X))
    else
    (if g_in x1 6 then
      if x2 = 0 ∨ x2 = 1 then
      g_let (u1 X 9 (6 * 0 + (x1.toNatClampNeg)) 7 x2) fun X_10 =>
      some (1, X_10)
      else none
      else none)
    else none)
set_option maxRecDepth 100000 in
set_option maxHeartbeats 4000000 in
theorem wk_X11_hard {p : Program} {l : Launch} {e : Env} {s : State} {m : MethodId} {args : Array Value} {below : List Frame} {meth : Method} {c : Code} {G : GP} {M : SM} {τ : SL} (C0 : g_mc p s m args meth c RX11 cX11_hard (some .boolean) 3 G) {r0 : Int32} {X0 : SM} (x1 : Int32) (x2 : Int32) (X : SM) (hf : fn_X11_hard x1 x2 X = some (r0, X0)) {H : Heap} {locs : List Loc} (hP : va_P G.1 g_cl (wd G (cb X M) τ) H) (hS : va_S (g_A G) s.heap H locs) {ls : Array Slot} (hl : lv_has ls 3 [(0, .ref (G.2.1 11 0)), (1, .int x1), (2, .int x2)]) : W p l e rm_X11_hard s m args below meth c H locs 0 0 (MQ below (va_Qi (fun r u => r = r0 ∧ u = (X0, M, τ)) (g_pw G) (g_A G)) args s 0 0 (g_A G)) (F0 m 0 ls []) := by
  obtain ⟨hx, hb, hr, hml, hown, hts, hlocks, hC⟩ := id C0
  unfold fn_X11_hard at hf
  refine lv_iload_n hx hb dX11_hard_0 rfl (lv_at hl 1 rfl) ?_
  obtain ⟨r_1, hc_2, hf⟩ := g_letE hf
  refine x_calli (v := (X, M, τ)) (va_runS (As := [.int x1]) (rest := []) ⟨hx, hb, hml, hown, hts⟩ (ct_X11_isThread l G X M τ x1 hc_2) (cwS 1 hts gd_X11_56 rfl rfl rfl hd_X11_isThread ⟨Nat.le_of_ble_eq_true rfl, Nat.le_of_ble_eq_true rfl⟩) (x_pre (u := (X, M, τ)) hC hS hP) rfl rfl hl.1 rfl (lv_room (Nat.le_of_ble_eq_true rfl)) dX11_hard_1 ⟨Nat.zero_le _, Nat.zero_le _⟩) hS (fun H locs hP hS => ?_)
  refine lv_if_eq (tgt := 23) hx hb dX11_hard_4 (by decide) (fun hc_3 => ?_) (fun hc_3 => ?_)
  · have hf := g_pos hf hc_3
    refine lv_iconst (v := 0) hx hb dX11_hard_23 (by decide) ?_
    cases hf
    exact x_zret hx hb hlocks hC hP hS hr (Or.inl rfl) dX11_hard_24
  · have hf := g_neg hf hc_3
    refine lv_aload_n hx hb dX11_hard_7 rfl (lv_at hl 0 rfl) ?_
    refine gt_11_2 hx hb hts hown hC hP Nat.zero_lt_one q2_0 dX11_hard_8 ?_
    refine gt_7_0 hx hb hts hown hC hP (by decide) q7_21 dX11_hard_11 ?_
    refine lv_iload_n hx hb dX11_hard_14 rfl (lv_at hl 1 rfl) ?_
    obtain ⟨hg_4, hf⟩ := g_gd hf
    have hq_5 : 6 * 0 + (x1.toNatClampNeg) < 12 := by have h8 := g_in_lt (n := 6) hg_4; have h9 : 0 < 2 := (by decide); omega
    refine xaldS hx hb hC hP (by decide) hg_4 dX11_hard_15 ?_
    refine gt_9_7 hx hb hts hown hC hP hq_5 q11_12 dX11_hard_16 ?_
    refine lv_iload_n hx hb dX11_hard_19 rfl (lv_at hl 2 rfl) ?_
    refine lv_icmp_ne (tgt := 25) hx hb dX11_hard_20 (by decide) (fun hc_6 => ?_) (fun hc_6 => ?_)
    · have hf := g_neg hf hc_6
      refine lv_aload_n hx hb dX11_hard_25 rfl (lv_at hl 0 rfl) ?_
      refine gt_11_2 hx hb hts hown hC hP Nat.zero_lt_one q2_0 dX11_hard_26 ?_
      refine gt_7_0 hx hb hts hown hC hP (by decide) q7_21 dX11_hard_29 ?_
      refine lv_iload_n hx hb dX11_hard_32 rfl (lv_at hl 1 rfl) ?_
      obtain ⟨hg_7, hf⟩ := g_gd hf
      have hq_8 : 6 * 0 + (x1.toNatClampNeg) < 12 := by have h8 := g_in_lt (n := 6) hg_7; have h9 : 0 < 2 := (by decide); omega
      refine xaldS hx hb hC hP (by decide) hg_7 dX11_hard_33 ?_
      refine lv_iload_n hx hb dX11_hard_34 rfl (lv_at hl 2 rfl) ?_
      obtain ⟨hg_9, hf⟩ := g_gd hf
      obtain ⟨X_10, eX_10, hf⟩ := g_letE hf
      refine pt_9_7 hx hb hts hown hC hP hS hq_8 q11_12 hg_9 dX11_hard_35 (fun H locs hP hS => ?_)
      rw [eX_10] at hP
      refine lv_iconst (v := 1) hx hb dX11_hard_38 (by decide) ?_
      cases hf
      exact x_zret hx hb hlocks hC hP hS hr (Or.inr rfl) dX11_hard_39
    · have hf := g_pos hf hc_6
      refine lv_iconst (v := 0) hx hb dX11_hard_23 (by decide) ?_
      cases hf
      exact x_zret hx hb hlocks hC hP hS hr (Or.inl rfl) dX11_hard_24
set_option maxRecDepth 100000 in
set_option maxHeartbeats 4000000 in
theorem ct_X11_hard (l : Launch) (G : GP) (X M : SM) (τ : SL) (x1 : Int32) (x2 : Int32) {r0 : Int32} {X0 : SM} (hf : fn_X11_hard x1 x2 X = some (r0, X0)) : Met l yX11_hard (wz yX11_hard cX11_hard 3 (some .boolean)) rm_X11_hard (va_Pc [.ref (G.2.1 11 0), .int x1, .int x2] (g_pw G (X, M, τ))) (va_Qi (fun r u => r = r0 ∧ u = (X0, M, τ)) (g_pw G) (g_A G)) 0 0 (g_A G) := by
  refine Met.ofW (cc := cX11_hard) (maxL := 3) (ret := (some .boolean)) (by decide +kernel) rfl ?_
  intro p e s m args below meth c s₁ B hml hv
  obtain ⟨rfl, hC, hP⟩ := hv
  have C0 : g_mc p s m _ meth c RX11 cX11_hard (some .boolean) 3 G := ⟨B.exec, B.bytes, B.returns, hml, findClass_of_methodNamed B.named, fun w h => atoms_spec (ws := wz yX11_hard cX11_hard 3 (some .boolean)) B.pre w (List.mem_cons_of_mem _ h), B.notSynchronized, hC⟩
  have hl := lv_entry ([.ref (G.2.1 11 0), .int x1, .int x2]) (n := 3) (Nat.le_of_ble_eq_true rfl)
  rw [lg_entry_eq]
  generalize (lg_sl ([.ref (G.2.1 11 0), .int x1, .int x2]) ++ List.replicate (3 - (lg_sl ([.ref (G.2.1 11 0), .int x1, .int x2])).length) Slot.unset).toArray = ls at hl ⊢
  exact wk_X11_hard C0  x1 x2 X hf hP va_S.rf hl
abbrev rm_X11_level : Room := { frames := 2, cells := 0, slots := 0, locals := 41 }
def fn_X11_level (x1 : Int32) (x2 : Int32) (X : SM) : Option (Int32) :=
  g_let (fn_X11_isPin x1) fun r_1 =>
  if r_1 = 0 then
  (some (-1))
  else
  (if x2 = 0 then
    ((fn_X8_levelOf 0 x1 X).bind fun r_8 =>
      some r_8)
    else
    (if x2 = 1 then
      ((fn_X8_kindOf 0 x1 X).bind fun r_6 =>
        some r_6)
      else
      (some (-1))))
set_option maxRecDepth 100000 in
set_option maxHeartbeats 4000000 in
theorem wk_X11_level {p : Program} {l : Launch} {e : Env} {s : State} {m : MethodId} {args : Array Value} {below : List Frame} {meth : Method} {c : Code} {G : GP} {M : SM} {τ : SL} (C0 : g_mc p s m args meth c RX11 cX11_level (some .int) 3 G) {r0 : Int32} (x1 : Int32) (x2 : Int32) (X : SM) (hf : fn_X11_level x1 x2 X = some r0) {H : Heap} {locs : List Loc} (hP : va_P G.1 g_cl (wd G (cb X M) τ) H) (hS : va_S (g_A G) s.heap H locs) {ls : Array Slot} (hl : lv_has ls 3 [(0, .ref (G.2.1 11 0)), (1, .int x1), (2, .int x2)]) : W p l e rm_X11_level s m args below meth c H locs 0 0 (MQ below (va_Qi (fun r u => r = r0 ∧ u = (X, M, τ)) (g_pw G) (g_A G)) args s 0 0 (g_A G)) (F0 m 0 ls []) := by
  obtain ⟨hx, hb, hr, hml, hown, hts, hlocks, hC⟩ := id C0
  unfold fn_X11_level at hf
  refine lv_iload_n hx hb dX11_level_0 rfl (lv_at hl 1 rfl) ?_
  obtain ⟨r_1, hc_2, hf⟩ := g_letE hf
  refine x_calli (v := (X, M, τ)) (va_runS (As := [.int x1]) (rest := []) ⟨hx, hb, hml, hown, hts⟩ (ct_X11_isPin l G X M τ x1 hc_2) (cwS 1 hts gd_X11_206 rfl rfl rfl hd_X11_isPin ⟨Nat.le_of_ble_eq_true rfl, Nat.le_of_ble_eq_true rfl⟩) (x_pre (u := (X, M, τ)) hC hS hP) rfl rfl hl.1 rfl (lv_room (Nat.le_of_ble_eq_true rfl)) dX11_level_1 ⟨Nat.zero_le _, Nat.zero_le _⟩) hS (fun H locs hP hS => ?_)
  refine lv_if_ne (tgt := 9) hx hb dX11_level_4 (by decide) (fun hc_3 => ?_) (fun hc_3 => ?_)
  · have hf := g_neg hf hc_3
    refine lv_iload_n hx hb dX11_level_9 rfl (lv_at hl 2 rfl) ?_
    refine lv_if_ne (tgt := 25) hx hb dX11_level_10 (by decide) (fun hc_4 => ?_) (fun hc_4 => ?_)
    · have hf := g_neg hf hc_4
      refine lv_iload_n hx hb dX11_level_25 rfl (lv_at hl 2 rfl) ?_
      refine lv_iconst (v := 1) hx hb dX11_level_26 (by decide) ?_
      refine lv_icmp_ne (tgt := 44) hx hb dX11_level_27 (by decide) (fun hc_5 => ?_) (fun hc_5 => ?_)
      · have hf := g_neg hf hc_5
        refine lv_iconst (v := (-1)) hx hb dX11_level_44 (by decide) ?_
        cases hf
        exact x_iret hx hb hlocks hC hP hS hr dX11_level_45
      · have hf := g_pos hf hc_5
        refine lv_aload_n hx hb dX11_level_30 rfl (lv_at hl 0 rfl) ?_
        refine gt_11_2 hx hb hts hown hC hP Nat.zero_lt_one q2_0 dX11_level_31 ?_
        refine gt_7_1 hx hb hts hown hC hP (by decide) q11_21 dX11_level_34 ?_
        refine lv_iload_n hx hb dX11_level_37 rfl (lv_at hl 1 rfl) ?_
        obtain ⟨r_6, hc_7, hf⟩ := g_bindE hf
        refine x_calli (v := (X, M, τ)) (va_runV (As := [.int x1]) (rest := []) ⟨hx, hb, hml, hown, hts⟩ (ct_X8_kindOf l G X M τ 0 (by decide) x1 hc_7) (cwV 1 hts gd_X11_111 rfl rfl rfl hd_X8_kindOf ⟨Nat.le_of_ble_eq_true rfl, Nat.le_of_ble_eq_true rfl⟩) (x_preV (u := (X, M, τ)) (k := 8) (ci := 8) hC hS hP (by decide) rfl rfl) rfl rfl hl.1 rfl (lv_room (Nat.le_of_ble_eq_true rfl)) dX11_level_38 ⟨Nat.zero_le _, Nat.zero_le _⟩) hS (fun H locs hP hS => ?_)
        refine lv_goto (tgt := 45) hx hb dX11_level_41 (by decide) ?_
        cases hf
        exact x_iret hx hb hlocks hC hP hS hr dX11_level_45
    · have hf := g_pos hf hc_4
      refine lv_aload_n hx hb dX11_level_13 rfl (lv_at hl 0 rfl) ?_
      refine gt_11_2 hx hb hts hown hC hP Nat.zero_lt_one q2_0 dX11_level_14 ?_
      refine gt_7_1 hx hb hts hown hC hP (by decide) q11_21 dX11_level_17 ?_
      refine lv_iload_n hx hb dX11_level_20 rfl (lv_at hl 1 rfl) ?_
      obtain ⟨r_8, hc_9, hf⟩ := g_bindE hf
      refine x_calli (v := (X, M, τ)) (va_runV (As := [.int x1]) (rest := []) ⟨hx, hb, hml, hown, hts⟩ (ct_X8_levelOf l G X M τ 0 (by decide) x1 hc_9) (cwV 1 hts gd_X11_209 rfl rfl rfl hd_X8_levelOf ⟨Nat.le_of_ble_eq_true rfl, Nat.le_of_ble_eq_true rfl⟩) (x_preV (u := (X, M, τ)) (k := 8) (ci := 8) hC hS hP (by decide) rfl rfl) rfl rfl hl.1 rfl (lv_room (Nat.le_of_ble_eq_true rfl)) dX11_level_21 ⟨Nat.zero_le _, Nat.zero_le _⟩) hS (fun H locs hP hS => ?_)
      cases hf
      exact x_iret hx hb hlocks hC hP hS hr dX11_level_24
  · have hf := g_pos hf hc_3
    refine lv_iconst (v := (-1)) hx hb dX11_level_7 (by decide) ?_
    cases hf
    exact x_iret hx hb hlocks hC hP hS hr dX11_level_8
set_option maxRecDepth 100000 in
set_option maxHeartbeats 4000000 in
theorem ct_X11_level (l : Launch) (G : GP) (X M : SM) (τ : SL) (x1 : Int32) (x2 : Int32) {r0 : Int32} (hf : fn_X11_level x1 x2 X = some r0) : Met l yX11_level (wz yX11_level cX11_level 3 (some .int)) rm_X11_level (va_Pc [.ref (G.2.1 11 0), .int x1, .int x2] (g_pw G (X, M, τ))) (va_Qi (fun r u => r = r0 ∧ u = (X, M, τ)) (g_pw G) (g_A G)) 0 0 (g_A G) := by
  refine Met.ofW (cc := cX11_level) (maxL := 3) (ret := (some .int)) (by decide +kernel) rfl ?_
  intro p e s m args below meth c s₁ B hml hv
  obtain ⟨rfl, hC, hP⟩ := hv
  have C0 : g_mc p s m _ meth c RX11 cX11_level (some .int) 3 G := ⟨B.exec, B.bytes, B.returns, hml, findClass_of_methodNamed B.named, fun w h => atoms_spec (ws := wz yX11_level cX11_level 3 (some .int)) B.pre w (List.mem_cons_of_mem _ h), B.notSynchronized, hC⟩
  have hl := lv_entry ([.ref (G.2.1 11 0), .int x1, .int x2]) (n := 3) (Nat.le_of_ble_eq_true rfl)
  rw [lg_entry_eq]
  generalize (lg_sl ([.ref (G.2.1 11 0), .int x1, .int x2]) ++ List.replicate (3 - (lg_sl ([.ref (G.2.1 11 0), .int x1, .int x2])).length) Slot.unset).toArray = ls at hl ⊢
  exact wk_X11_level C0  x1 x2 X hf hP va_S.rf hl
abbrev rm_X11_memory : Room := { frames := 1, cells := 0, slots := 0, locals := 23 }
def fn_X11_memory (x1 : Int32) (x2 : Int32) (X : SM) : Option (Int32 × SM) :=
  g_let (fn_X11_isThread x1) fun r_1 =>
  if r_1 = 0 then
  (some ((-2), X))
  else
  (if x2 ≤ 16 then
    (if g_in x1 6 then
      g_let ((6 * 0 + (x1.toNatClampNeg))) fun t3_7 =>
      g_let ((X 9 t3_7 6)) fun x4_8 =>
      if 0 ≤ x2 then
      (g_let (u1 X 9 t3_7 6 x2) fun X_10 =>
        g_let (uf X_10 32 t3_7 16 0) fun X_11 =>
        some (x4_8, X_11))
      else
      (g_let (u1 X 9 t3_7 6 (-1)) fun X_12 =>
        g_let (uf X_12 32 t3_7 16 0) fun X_13 =>
        some (x4_8, X_13))
      else none)
    else
    (some ((-2), X)))
set_option maxRecDepth 100000 in
set_option maxHeartbeats 4000000 in
theorem wk_X11_memory {p : Program} {l : Launch} {e : Env} {s : State} {m : MethodId} {args : Array Value} {below : List Frame} {meth : Method} {c : Code} {G : GP} {M : SM} {τ : SL} (C0 : g_mc p s m args meth c RX11 cX11_memory (some .int) 5 G) {r0 : Int32} {X0 : SM} (x1 : Int32) (x2 : Int32) (X : SM) (hf : fn_X11_memory x1 x2 X = some (r0, X0)) {H : Heap} {locs : List Loc} (hP : va_P G.1 g_cl (wd G (cb X M) τ) H) (hS : va_S (g_A G) s.heap H locs) {ls : Array Slot} (hl : lv_has ls 5 [(0, .ref (G.2.1 11 0)), (1, .int x1), (2, .int x2)]) : W p l e rm_X11_memory s m args below meth c H locs 0 0 (MQ below (va_Qi (fun r u => r = r0 ∧ u = (X0, M, τ)) (g_pw G) (g_A G)) args s 0 0 (g_A G)) (F0 m 0 ls []) := by
  obtain ⟨hx, hb, hr, hml, hown, hts, hlocks, hC⟩ := id C0
  unfold fn_X11_memory at hf
  refine lv_iload_n hx hb dX11_memory_0 rfl (lv_at hl 1 rfl) ?_
  obtain ⟨r_1, hc_2, hf⟩ := g_letE hf
  refine x_calli (v := (X, M, τ)) (va_runS (As := [.int x1]) (rest := []) ⟨hx, hb, hml, hown, hts⟩ (ct_X11_isThread l G X M τ x1 hc_2) (cwS 1 hts gd_X11_56 rfl rfl rfl hd_X11_isThread ⟨Nat.le_of_ble_eq_true rfl, Nat.le_of_ble_eq_true rfl⟩) (x_pre (u := (X, M, τ)) hC hS hP) rfl rfl hl.1 rfl (lv_room (Nat.le_of_ble_eq_true rfl)) dX11_memory_1 ⟨Nat.zero_le _, Nat.zero_le _⟩) hS (fun H locs hP hS => ?_)
  refine lv_if_eq (tgt := 13) hx hb dX11_memory_4 (by decide) (fun hc_3 => ?_) (fun hc_3 => ?_)
  · have hf := g_pos hf hc_3
    refine lv_bipush (v := (-2)) hx hb dX11_memory_13 (by decide) ?_
    cases hf
    exact x_iret hx hb hlocks hC hP hS hr dX11_memory_15
  · have hf := g_neg hf hc_3
    refine lv_iload_n hx hb dX11_memory_7 rfl (lv_at hl 2 rfl) ?_
    refine lv_bipush (v := 16) hx hb dX11_memory_8 (by decide) ?_
    refine lv_icmp_le (tgt := 16) hx hb dX11_memory_10 (by decide) (fun hc_4 => ?_) (fun hc_4 => ?_)
    · have hf := g_pos hf hc_4
      refine lv_aload_n hx hb dX11_memory_16 rfl (lv_at hl 0 rfl) ?_
      refine gt_11_2 hx hb hts hown hC hP Nat.zero_lt_one q2_0 dX11_memory_17 ?_
      refine gt_7_0 hx hb hts hown hC hP (by decide) q7_21 dX11_memory_20 ?_
      refine lv_iload_n hx hb dX11_memory_23 rfl (lv_at hl 1 rfl) ?_
      obtain ⟨hg_5, hf⟩ := g_gd hf
      have hq_6 : 6 * 0 + (x1.toNatClampNeg) < 12 := by have h8 := g_in_lt (n := 6) hg_5; have h9 : 0 < 2 := (by decide); omega
      refine xaldS hx hb hC hP (by decide) hg_5 dX11_memory_24 ?_
      obtain ⟨t3_7, et3_7, hf⟩ := g_letE hf
      refine lv_toprE et3_7 ?_
      have ht3_7 : t3_7 < 12 := by rw [← et3_7]; exact hq_6
      refine lv_astore_n (lv' := [(3, .ref (G.2.1 9 t3_7)), (0, .ref (G.2.1 11 0)), (1, .int x1), (2, .int x2)]) hx hb dX11_memory_25 rfl hl (by decide) rfl (fun ls hl => ?_)
      refine lv_aload_n hx hb dX11_memory_26 rfl (lv_at hl 0 rfl) ?_
      refine gt_9_6 hx hb hts hown hC hP ht3_7 q11_1 dX11_memory_27 ?_
      obtain ⟨x4_8, ex4_8, hf⟩ := g_letE hf
      refine lv_topE ex4_8 ?_
      refine lv_istore (lv' := [(4, .int x4_8), (3, .ref (G.2.1 9 t3_7)), (0, .ref (G.2.1 11 0)), (1, .int x1), (2, .int x2)]) hx hb dX11_memory_30 hl (by decide) rfl (fun ls hl => ?_)
      refine lv_aload_n hx hb dX11_memory_32 rfl (lv_at hl 1 rfl) ?_
      refine lv_iload_n hx hb dX11_memory_33 rfl (lv_at hl 4 rfl) ?_
      refine lv_if_ge (tgt := 41) hx hb dX11_memory_34 (by decide) (fun hc_9 => ?_) (fun hc_9 => ?_)
      · have hf := g_pos hf hc_9
        refine lv_iload_n hx hb dX11_memory_41 rfl (lv_at hl 4 rfl) ?_
        obtain ⟨X_10, eX_10, hf⟩ := g_letE hf
        refine pt_9_6 hx hb hts hown hC hP hS ht3_7 q11_1 dX11_memory_42 (fun H locs hP hS => ?_)
        rw [eX_10] at hP
        refine lv_aload_n hx hb dX11_memory_45 rfl (lv_at hl 1 rfl) ?_
        refine gt_9_4 hx hb hts hown hC hP ht3_7 q11_2 dX11_memory_46 ?_
        refine lv_iconst (v := 0) hx hb dX11_memory_49 (by decide) ?_
        obtain ⟨X_11, eX_11, hf⟩ := g_letE hf
        refine x_fillX (k := 32) (n := 16) (rest := []) hx hb hml hown hts hC hP hS (fun _ _ => rfl) rfl (by decide) ht3_7 q11_3 hl.1 (lv_room (Nat.le_of_ble_eq_true rfl)) dX11_memory_50 ⟨Nat.le_of_ble_eq_true rfl, Nat.le_of_ble_eq_true rfl⟩ ⟨Nat.zero_le _, Nat.zero_le _⟩ (fun H locs hP hS => ?_)
        rw [eX_11] at hP
        refine lv_iload hx hb dX11_memory_53 (lv_at hl 0 rfl) ?_
        cases hf
        exact x_iret hx hb hlocks hC hP hS hr dX11_memory_55
      · have hf := g_neg hf hc_9
        refine lv_iconst (v := (-1)) hx hb dX11_memory_37 (by decide) ?_
        refine lv_goto (tgt := 42) hx hb dX11_memory_38 (by decide) ?_
        obtain ⟨X_12, eX_12, hf⟩ := g_letE hf
        refine pt_9_6 hx hb hts hown hC hP hS ht3_7 q11_1 dX11_memory_42 (fun H locs hP hS => ?_)
        rw [eX_12] at hP
        refine lv_aload_n hx hb dX11_memory_45 rfl (lv_at hl 1 rfl) ?_
        refine gt_9_4 hx hb hts hown hC hP ht3_7 q11_2 dX11_memory_46 ?_
        refine lv_iconst (v := 0) hx hb dX11_memory_49 (by decide) ?_
        obtain ⟨X_13, eX_13, hf⟩ := g_letE hf
        refine x_fillX (k := 32) (n := 16) (rest := []) hx hb hml hown hts hC hP hS (fun _ _ => rfl) rfl (by decide) ht3_7 q11_3 hl.1 (lv_room (Nat.le_of_ble_eq_true rfl)) dX11_memory_50 ⟨Nat.le_of_ble_eq_true rfl, Nat.le_of_ble_eq_true rfl⟩ ⟨Nat.zero_le _, Nat.zero_le _⟩ (fun H locs hP hS => ?_)
        rw [eX_13] at hP
        refine lv_iload hx hb dX11_memory_53 (lv_at hl 0 rfl) ?_
        cases hf
        exact x_iret hx hb hlocks hC hP hS hr dX11_memory_55
    · have hf := g_neg hf hc_4
      refine lv_bipush (v := (-2)) hx hb dX11_memory_13 (by decide) ?_
      cases hf
      exact x_iret hx hb hlocks hC hP hS hr dX11_memory_15
set_option maxRecDepth 100000 in
set_option maxHeartbeats 4000000 in
theorem ct_X11_memory (l : Launch) (G : GP) (X M : SM) (τ : SL) (x1 : Int32) (x2 : Int32) {r0 : Int32} {X0 : SM} (hf : fn_X11_memory x1 x2 X = some (r0, X0)) : Met l yX11_memory (wz yX11_memory cX11_memory 5 (some .int)) rm_X11_memory (va_Pc [.ref (G.2.1 11 0), .int x1, .int x2] (g_pw G (X, M, τ))) (va_Qi (fun r u => r = r0 ∧ u = (X0, M, τ)) (g_pw G) (g_A G)) 0 0 (g_A G) := by
  refine Met.ofW (cc := cX11_memory) (maxL := 5) (ret := (some .int)) (by decide +kernel) rfl ?_
  intro p e s m args below meth c s₁ B hml hv
  obtain ⟨rfl, hC, hP⟩ := hv
  have C0 : g_mc p s m _ meth c RX11 cX11_memory (some .int) 5 G := ⟨B.exec, B.bytes, B.returns, hml, findClass_of_methodNamed B.named, fun w h => atoms_spec (ws := wz yX11_memory cX11_memory 5 (some .int)) B.pre w (List.mem_cons_of_mem _ h), B.notSynchronized, hC⟩
  have hl := lv_entry ([.ref (G.2.1 11 0), .int x1, .int x2]) (n := 5) (Nat.le_of_ble_eq_true rfl)
  rw [lg_entry_eq]
  generalize (lg_sl ([.ref (G.2.1 11 0), .int x1, .int x2]) ++ List.replicate (5 - (lg_sl ([.ref (G.2.1 11 0), .int x1, .int x2])).length) Slot.unset).toArray = ls at hl ⊢
  exact wk_X11_memory C0  x1 x2 X hf hP va_S.rf hl
abbrev rm_X8_name : Room := { frames := 1, cells := 0, slots := 0, locals := 20 }
def wb_X8_name_33 (k33 : Nat → Int32 → Int32 → Int32 → Int32 → SM → Option (Int32 × SM)) (t0 : Nat) (x1 : Int32) (x2 : Int32) (x3 : Int32) (x4 : Int32) (X : SM) : Option (Int32 × SM) :=
  if (x3 + 4) ≤ x4 then
  (if g_in x1 8 then
    g_let (u1 X 29 t0 (x1.toNatClampNeg) x2) fun X_9 =>
    some (1, X_9)
    else none)
  else
  (if g_in x4 8 then
    if (X 29 t0 (x4.toNatClampNeg)) = 2 then
    (g_let (x4 + 1) fun x4_12 =>
      k33 t0 x1 x2 x3 x4_12 X)
    else
    (if g_in x4 8 then
      if (X 29 t0 (x4.toNatClampNeg)) = x2 then
      (g_let (x4 + 1) fun x4_15 =>
        k33 t0 x1 x2 x3 x4_15 X)
      else
      (some (0, X))
      else none)
    else none)
set_option maxRecDepth 100000 in
set_option maxHeartbeats 4000000 in
theorem bk_X8_name_33 {p : Program} {l : Launch} {e : Env} {s : State} {m : MethodId} {args : Array Value} {below : List Frame} {meth : Method} {c : Code} {G : GP} {M : SM} {τ : SL} (C0 : g_mc p s m args meth c RX8 cX8_name (some .boolean) 5 G) {r0 : Int32} {X0 : SM} (k33 : Nat → Int32 → Int32 → Int32 → Int32 → SM → Option (Int32 × SM)) (hk33 : ∀ (t0 : Nat) (ht0 : t0 < 2) (x1 : Int32) (x2 : Int32) (x3 : Int32) (x4 : Int32) (X : SM), k33 t0 x1 x2 x3 x4 X = some (r0, X0) → ∀ {H : Heap} {locs : List Loc}, va_P G.1 g_cl (wd G (cb X M) τ) H → va_S (g_A G) s.heap H locs → ∀ {ls : Array Slot}, lv_has ls 5 [(0, .ref (G.2.1 8 t0)), (1, .int x1), (2, .int x2), (3, .int x3), (4, .int x4)] → W p l e rm_X8_name s m args below meth c H locs 0 0 (MQ below (va_Qi (fun r u => r = r0 ∧ u = (X0, M, τ)) (g_pw G) (g_A G)) args s 0 0 (g_A G)) (F0 m 33 ls [])) (t0 : Nat) (ht0 : t0 < 2) (x1 : Int32) (x2 : Int32) (x3 : Int32) (x4 : Int32) (X : SM) (hf : wb_X8_name_33 k33 t0 x1 x2 x3 x4 X = some (r0, X0)) {H : Heap} {locs : List Loc} (hP : va_P G.1 g_cl (wd G (cb X M) τ) H) (hS : va_S (g_A G) s.heap H locs) {ls : Array Slot} (hl : lv_has ls 5 [(0, .ref (G.2.1 8 t0)), (1, .int x1), (2, .int x2), (3, .int x3), (4, .int x4)]) : W p l e rm_X8_name s m args below meth c H locs 0 0 (MQ below (va_Qi (fun r u => r = r0 ∧ u = (X0, M, τ)) (g_pw G) (g_A G)) args s 0 0 (g_A G)) (F0 m 33 ls []) := by
  obtain ⟨hx, hb, hr, hml, hown, hts, hlocks, hC⟩ := id C0
  unfold wb_X8_name_33 at hf
  refine lv_iload hx hb dX8_name_33 (lv_at hl 4 rfl) ?_
  refine lv_iload_n hx hb dX8_name_35 rfl (lv_at hl 3 rfl) ?_
  refine lv_iconst (v := 4) hx hb dX8_name_36 (by decide) ?_
  refine lv_iadd hx hb dX8_name_37 ?_
  refine lv_icmp_ge (tgt := 71) hx hb dX8_name_38 (by decide) (fun hc_7 => ?_) (fun hc_7 => ?_)
  · have hf := g_pos hf hc_7
    refine lv_aload_n hx hb dX8_name_71 rfl (lv_at hl 0 rfl) ?_
    refine gt_8_0 hx hb hts hown hC hP ht0 q4_4 dX8_name_72 ?_
    refine lv_iload_n hx hb dX8_name_75 rfl (lv_at hl 1 rfl) ?_
    refine lv_iload_n hx hb dX8_name_76 rfl (lv_at hl 2 rfl) ?_
    obtain ⟨hg_8, hf⟩ := g_gd hf
    obtain ⟨X_9, eX_9, hf⟩ := g_letE hf
    refine xistX (k := 29) (n := 8) hx hb hC hP hS (fun _ _ => rfl) rfl ht0 hg_8 dX8_name_77 (fun H locs hP hS => ?_)
    rw [eX_9] at hP
    refine lv_iconst (v := 1) hx hb dX8_name_78 (by decide) ?_
    cases hf
    exact x_zret hx hb hlocks hC hP hS hr (Or.inr rfl) dX8_name_79
  · have hf := g_neg hf hc_7
    refine lv_aload_n hx hb dX8_name_41 rfl (lv_at hl 0 rfl) ?_
    refine gt_8_0 hx hb hts hown hC hP ht0 q4_4 dX8_name_42 ?_
    refine lv_iload hx hb dX8_name_45 (lv_at hl 4 rfl) ?_
    obtain ⟨hg_10, hf⟩ := g_gd hf
    refine xildX (k := 29) (n := 8) hx hb hC hP (fun _ _ => rfl) rfl ht0 hg_10 dX8_name_47 ?_
    refine lv_iconst (v := 2) hx hb dX8_name_48 (by decide) ?_
    refine lv_icmp_eq (tgt := 65) hx hb dX8_name_49 (by decide) (fun hc_11 => ?_) (fun hc_11 => ?_)
    · have hf := g_pos hf hc_11
      obtain ⟨x4_12, ex4_12, hf⟩ := g_letE hf
      refine lv_iinc (v := x4_12) (lv' := [(4, .int x4_12), (0, .ref (G.2.1 8 t0)), (1, .int x1), (2, .int x2), (3, .int x3)]) hx hb dX8_name_65 hl (k := 4) rfl (by rw [← ex4_12]; rfl) (by decide) rfl (fun ls hl => ?_)
      refine lv_goto (tgt := 33) hx hb dX8_name_68 (by decide) ?_
      exact hk33 t0 ht0 x1 x2 x3 x4_12 X hf hP hS (lv_sub hl [1, 2, 3, 4, 0] rfl)
    · have hf := g_neg hf hc_11
      refine lv_aload_n hx hb dX8_name_52 rfl (lv_at hl 0 rfl) ?_
      refine gt_8_0 hx hb hts hown hC hP ht0 q4_4 dX8_name_53 ?_
      refine lv_iload hx hb dX8_name_56 (lv_at hl 4 rfl) ?_
      obtain ⟨hg_13, hf⟩ := g_gd hf
      refine xildX (k := 29) (n := 8) hx hb hC hP (fun _ _ => rfl) rfl ht0 hg_13 dX8_name_58 ?_
      refine lv_iload_n hx hb dX8_name_59 rfl (lv_at hl 2 rfl) ?_
      refine lv_icmp_eq (tgt := 65) hx hb dX8_name_60 (by decide) (fun hc_14 => ?_) (fun hc_14 => ?_)
      · have hf := g_pos hf hc_14
        obtain ⟨x4_15, ex4_15, hf⟩ := g_letE hf
        refine lv_iinc (v := x4_15) (lv' := [(4, .int x4_15), (0, .ref (G.2.1 8 t0)), (1, .int x1), (2, .int x2), (3, .int x3)]) hx hb dX8_name_65 hl (k := 4) rfl (by rw [← ex4_15]; rfl) (by decide) rfl (fun ls hl => ?_)
        refine lv_goto (tgt := 33) hx hb dX8_name_68 (by decide) ?_
        exact hk33 t0 ht0 x1 x2 x3 x4_15 X hf hP hS (lv_sub hl [1, 2, 3, 4, 0] rfl)
      · have hf := g_neg hf hc_14
        refine lv_iconst (v := 0) hx hb dX8_name_63 (by decide) ?_
        cases hf
        exact x_zret hx hb hlocks hC hP hS hr (Or.inl rfl) dX8_name_64
def wl_X8_name_33 (n : Nat) (t0 : Nat) (x1 : Int32) (x2 : Int32) (x3 : Int32) (x4 : Int32) (X : SM) : Option (Int32 × SM) := g_loop (α := Nat × Int32 × Int32 × Int32 × Int32 × SM) (fun k a => wb_X8_name_33 (fun t0 x1 x2 x3 x4 X => k (t0, x1, x2, x3, x4, X)) a.1 a.2.1 a.2.2.1 a.2.2.2.1 a.2.2.2.2.1 a.2.2.2.2.2) n (t0, x1, x2, x3, x4, X)
set_option maxRecDepth 100000 in
set_option maxHeartbeats 4000000 in
theorem lp_X8_name_33 {p : Program} {l : Launch} {e : Env} {s : State} {m : MethodId} {args : Array Value} {below : List Frame} {meth : Method} {c : Code} {G : GP} {M : SM} {τ : SL} (C0 : g_mc p s m args meth c RX8 cX8_name (some .boolean) 5 G) {r0 : Int32} {X0 : SM} (n : Nat) : ∀ (t0 : Nat) (ht0 : t0 < 2) (x1 : Int32) (x2 : Int32) (x3 : Int32) (x4 : Int32) (X : SM), wl_X8_name_33 n t0 x1 x2 x3 x4 X = some (r0, X0) → ∀ {H : Heap} {locs : List Loc}, va_P G.1 g_cl (wd G (cb X M) τ) H → va_S (g_A G) s.heap H locs → ∀ {ls : Array Slot}, lv_has ls 5 [(0, .ref (G.2.1 8 t0)), (1, .int x1), (2, .int x2), (3, .int x3), (4, .int x4)] → W p l e rm_X8_name s m args below meth c H locs 0 0 (MQ below (va_Qi (fun r u => r = r0 ∧ u = (X0, M, τ)) (g_pw G) (g_A G)) args s 0 0 (g_A G)) (F0 m 33 ls []) := by
  induction n with
  | zero =>
    intro t0 ht0 x1 x2 x3 x4 X hf
    have hf : (none : Option (Int32 × SM)) = _ := hf
    cases hf
  | succ n ih =>
    intro t0 ht0 x1 x2 x3 x4 X hf H locs hP hS ls hl
    exact bk_X8_name_33 C0   (fun t0 x1 x2 x3 x4 X => wl_X8_name_33   n t0 x1 x2 x3 x4 X) ih t0 ht0 x1 x2 x3 x4 X hf hP hS hl
def fn_X8_name (t0 : Nat) (x1 : Int32) (x2 : Int32) (X : SM) : Option (Int32 × SM) :=
  g_let (fn_X11_isPin x1) fun r_1 =>
  if r_1 = 0 then
  (some (0, X))
  else
  (if g_in x1 8 then
    if (X 29 t0 (x1.toNatClampNeg)) = 2 then
    (if 4 ≤ x1 then
      (wl_X8_name_33 1000 t0 x1 x2 4 4 X)
      else
      (wl_X8_name_33 1000 t0 x1 x2 0 0 X))
    else
    (some (0, X))
    else none)
set_option maxRecDepth 100000 in
set_option maxHeartbeats 4000000 in
theorem wk_X8_name {p : Program} {l : Launch} {e : Env} {s : State} {m : MethodId} {args : Array Value} {below : List Frame} {meth : Method} {c : Code} {G : GP} {M : SM} {τ : SL} (C0 : g_mc p s m args meth c RX8 cX8_name (some .boolean) 5 G) {r0 : Int32} {X0 : SM} (t0 : Nat) (ht0 : t0 < 2) (x1 : Int32) (x2 : Int32) (X : SM) (hf : fn_X8_name t0 x1 x2 X = some (r0, X0)) {H : Heap} {locs : List Loc} (hP : va_P G.1 g_cl (wd G (cb X M) τ) H) (hS : va_S (g_A G) s.heap H locs) {ls : Array Slot} (hl : lv_has ls 5 [(0, .ref (G.2.1 8 t0)), (1, .int x1), (2, .int x2)]) : W p l e rm_X8_name s m args below meth c H locs 0 0 (MQ below (va_Qi (fun r u => r = r0 ∧ u = (X0, M, τ)) (g_pw G) (g_A G)) args s 0 0 (g_A G)) (F0 m 0 ls []) := by
  obtain ⟨hx, hb, hr, hml, hown, hts, hlocks, hC⟩ := id C0
  unfold fn_X8_name at hf
  refine lv_iload_n hx hb dX8_name_0 rfl (lv_at hl 1 rfl) ?_
  obtain ⟨r_1, hc_2, hf⟩ := g_letE hf
  refine x_calli (v := (X, M, τ)) (va_runSN (As := [.int x1]) (rest := []) ⟨hx, hb, hml, hown, hts⟩ (ct_X11_isPin l G X M τ x1 hc_2) ⟨va_cnB 1 hts (wz_N q12_3) rfl rfl rfl hC.2.1.2.1 (hts _ q1_2) hd_X11_isPin.2 ⟨Nat.le_of_ble_eq_true rfl, Nat.le_of_ble_eq_true rfl⟩, hts _ q12_2, trivial⟩ (x_pre (u := (X, M, τ)) hC hS hP) rfl rfl hl.1 rfl (lv_room (Nat.le_of_ble_eq_true rfl)) dX8_name_1 ⟨Nat.zero_le _, Nat.zero_le _⟩) hS (fun H locs hP hS => ?_)
  refine lv_if_eq (tgt := 17) hx hb dX8_name_4 (by decide) (fun hc_3 => ?_) (fun hc_3 => ?_)
  · have hf := g_pos hf hc_3
    refine lv_iconst (v := 0) hx hb dX8_name_17 (by decide) ?_
    cases hf
    exact x_zret hx hb hlocks hC hP hS hr (Or.inl rfl) dX8_name_18
  · have hf := g_neg hf hc_3
    refine lv_aload_n hx hb dX8_name_7 rfl (lv_at hl 0 rfl) ?_
    refine gt_8_0 hx hb hts hown hC hP ht0 q4_4 dX8_name_8 ?_
    refine lv_iload_n hx hb dX8_name_11 rfl (lv_at hl 1 rfl) ?_
    obtain ⟨hg_4, hf⟩ := g_gd hf
    refine xildX (k := 29) (n := 8) hx hb hC hP (fun _ _ => rfl) rfl ht0 hg_4 dX8_name_12 ?_
    refine lv_iconst (v := 2) hx hb dX8_name_13 (by decide) ?_
    refine lv_icmp_eq (tgt := 19) hx hb dX8_name_14 (by decide) (fun hc_5 => ?_) (fun hc_5 => ?_)
    · have hf := g_pos hf hc_5
      refine lv_iload_n hx hb dX8_name_19 rfl (lv_at hl 1 rfl) ?_
      refine lv_iconst (v := 4) hx hb dX8_name_20 (by decide) ?_
      refine lv_icmp_ge (tgt := 28) hx hb dX8_name_21 (by decide) (fun hc_6 => ?_) (fun hc_6 => ?_)
      · have hf := g_pos hf hc_6
        refine lv_iconst (v := 4) hx hb dX8_name_28 (by decide) ?_
        refine lv_istore_n (lv' := [(3, .int 4), (0, .ref (G.2.1 8 t0)), (1, .int x1), (2, .int x2)]) hx hb dX8_name_29 rfl hl (by decide) rfl (fun ls hl => ?_)
        refine lv_iload_n hx hb dX8_name_30 rfl (lv_at hl 0 rfl) ?_
        refine lv_istore (lv' := [(4, .int 4), (3, .int 4), (0, .ref (G.2.1 8 t0)), (1, .int x1), (2, .int x2)]) hx hb dX8_name_31 hl (by decide) rfl (fun ls hl => ?_)
        exact lp_X8_name_33 C0 1000 t0 ht0 x1 x2 4 4 X hf hP hS (lv_sub hl [2, 3, 4, 1, 0] rfl)
      · have hf := g_neg hf hc_6
        refine lv_iconst (v := 0) hx hb dX8_name_24 (by decide) ?_
        refine lv_goto (tgt := 29) hx hb dX8_name_25 (by decide) ?_
        refine lv_istore_n (lv' := [(3, .int 0), (0, .ref (G.2.1 8 t0)), (1, .int x1), (2, .int x2)]) hx hb dX8_name_29 rfl hl (by decide) rfl (fun ls hl => ?_)
        refine lv_iload_n hx hb dX8_name_30 rfl (lv_at hl 0 rfl) ?_
        refine lv_istore (lv' := [(4, .int 0), (3, .int 0), (0, .ref (G.2.1 8 t0)), (1, .int x1), (2, .int x2)]) hx hb dX8_name_31 hl (by decide) rfl (fun ls hl => ?_)
        exact lp_X8_name_33 C0 1000 t0 ht0 x1 x2 0 0 X hf hP hS (lv_sub hl [2, 3, 4, 1, 0] rfl)
    · have hf := g_neg hf hc_5
      refine lv_iconst (v := 0) hx hb dX8_name_17 (by decide) ?_
      cases hf
      exact x_zret hx hb hlocks hC hP hS hr (Or.inl rfl) dX8_name_18
set_option maxRecDepth 100000 in
set_option maxHeartbeats 4000000 in
theorem ct_X8_name (l : Launch) (G : GP) (X M : SM) (τ : SL) (t0 : Nat) (ht0 : t0 < 2) (x1 : Int32) (x2 : Int32) {r0 : Int32} {X0 : SM} (hf : fn_X8_name t0 x1 x2 X = some (r0, X0)) : Met l yX8_name (wz yX8_name cX8_name 5 (some .boolean)) rm_X8_name (va_Pc [.ref (G.2.1 8 t0), .int x1, .int x2] (g_pw G (X, M, τ))) (va_Qi (fun r u => r = r0 ∧ u = (X0, M, τ)) (g_pw G) (g_A G)) 0 0 (g_A G) := by
  refine Met.ofW (cc := cX8_name) (maxL := 5) (ret := (some .boolean)) (by decide +kernel) rfl ?_
  intro p e s m args below meth c s₁ B hml hv
  obtain ⟨rfl, hC, hP⟩ := hv
  have C0 : g_mc p s m _ meth c RX8 cX8_name (some .boolean) 5 G := ⟨B.exec, B.bytes, B.returns, hml, findClass_of_methodNamed B.named, fun w h => atoms_spec (ws := wz yX8_name cX8_name 5 (some .boolean)) B.pre w (List.mem_cons_of_mem _ h), B.notSynchronized, hC⟩
  have hl := lv_entry ([.ref (G.2.1 8 t0), .int x1, .int x2]) (n := 5) (Nat.le_of_ble_eq_true rfl)
  rw [lg_entry_eq]
  generalize (lg_sl ([.ref (G.2.1 8 t0), .int x1, .int x2]) ++ List.replicate (5 - (lg_sl ([.ref (G.2.1 8 t0), .int x1, .int x2])).length) Slot.unset).toArray = ls at hl ⊢
  exact wk_X8_name C0  t0 ht0 x1 x2 X hf hP va_S.rf hl
abbrev rm_X11_pin : Room := { frames := 2, cells := 0, slots := 0, locals := 44 }
def fn_X11_pin (x1 : Int32) (x2 : Int32) (X : SM) : Option (Int32 × SM) :=
  if x2 = 0 then
  ((fn_X8_name 0 x1 0 X).bind fun (r_2, X_3) =>
    if r_2 = 0 ∨ r_2 = 1 then
    some (r_2, X_3)
    else none)
  else
  ((fn_X8_name 0 x1 1 X).bind fun (r_6, X_7) =>
    if r_6 = 0 ∨ r_6 = 1 then
    some (r_6, X_7)
    else none)
set_option maxRecDepth 100000 in
set_option maxHeartbeats 4000000 in
theorem wk_X11_pin {p : Program} {l : Launch} {e : Env} {s : State} {m : MethodId} {args : Array Value} {below : List Frame} {meth : Method} {c : Code} {G : GP} {M : SM} {τ : SL} (C0 : g_mc p s m args meth c RX11 cX11_pin (some .boolean) 3 G) {r0 : Int32} {X0 : SM} (x1 : Int32) (x2 : Int32) (X : SM) (hf : fn_X11_pin x1 x2 X = some (r0, X0)) {H : Heap} {locs : List Loc} (hP : va_P G.1 g_cl (wd G (cb X M) τ) H) (hS : va_S (g_A G) s.heap H locs) {ls : Array Slot} (hl : lv_has ls 3 [(0, .ref (G.2.1 11 0)), (1, .int x1), (2, .int x2)]) : W p l e rm_X11_pin s m args below meth c H locs 0 0 (MQ below (va_Qi (fun r u => r = r0 ∧ u = (X0, M, τ)) (g_pw G) (g_A G)) args s 0 0 (g_A G)) (F0 m 0 ls []) := by
  obtain ⟨hx, hb, hr, hml, hown, hts, hlocks, hC⟩ := id C0
  unfold fn_X11_pin at hf
  refine lv_aload_n hx hb dX11_pin_0 rfl (lv_at hl 0 rfl) ?_
  refine gt_11_2 hx hb hts hown hC hP Nat.zero_lt_one q2_0 dX11_pin_1 ?_
  refine gt_7_1 hx hb hts hown hC hP (by decide) q11_21 dX11_pin_4 ?_
  refine lv_iload_n hx hb dX11_pin_7 rfl (lv_at hl 1 rfl) ?_
  refine lv_iload_n hx hb dX11_pin_8 rfl (lv_at hl 2 rfl) ?_
  refine lv_if_eq (tgt := 16) hx hb dX11_pin_9 (by decide) (fun hc_1 => ?_) (fun hc_1 => ?_)
  · have hf := g_pos hf hc_1
    refine lv_iconst (v := 0) hx hb dX11_pin_16 (by decide) ?_
    obtain ⟨⟨r_2, X_3⟩, hc_4, hf⟩ := g_bindE hf
    refine x_calli (v := (X_3, M, τ)) (va_runV (As := [.int x1, .int 0]) (rest := []) ⟨hx, hb, hml, hown, hts⟩ (ct_X8_name l G X M τ 0 (by decide) x1 0 hc_4) (cwV 2 hts gd_X11_105 rfl rfl rfl hd_X8_name ⟨Nat.le_of_ble_eq_true rfl, Nat.le_of_ble_eq_true rfl⟩) (x_preV (u := (X, M, τ)) (k := 8) (ci := 8) hC hS hP (by decide) rfl rfl) rfl rfl hl.1 rfl (lv_room (Nat.le_of_ble_eq_true rfl)) dX11_pin_17 ⟨Nat.zero_le _, Nat.zero_le _⟩) hS (fun H locs hP hS => ?_)
    obtain ⟨hg_5, hf⟩ := g_gd hf
    cases hf
    exact x_zret hx hb hlocks hC hP hS hr hg_5 dX11_pin_20
  · have hf := g_neg hf hc_1
    refine lv_iconst (v := 1) hx hb dX11_pin_12 (by decide) ?_
    refine lv_goto (tgt := 17) hx hb dX11_pin_13 (by decide) ?_
    obtain ⟨⟨r_6, X_7⟩, hc_8, hf⟩ := g_bindE hf
    refine x_calli (v := (X_7, M, τ)) (va_runV (As := [.int x1, .int 1]) (rest := []) ⟨hx, hb, hml, hown, hts⟩ (ct_X8_name l G X M τ 0 (by decide) x1 1 hc_8) (cwV 2 hts gd_X11_105 rfl rfl rfl hd_X8_name ⟨Nat.le_of_ble_eq_true rfl, Nat.le_of_ble_eq_true rfl⟩) (x_preV (u := (X, M, τ)) (k := 8) (ci := 8) hC hS hP (by decide) rfl rfl) rfl rfl hl.1 rfl (lv_room (Nat.le_of_ble_eq_true rfl)) dX11_pin_17 ⟨Nat.zero_le _, Nat.zero_le _⟩) hS (fun H locs hP hS => ?_)
    obtain ⟨hg_9, hf⟩ := g_gd hf
    cases hf
    exact x_zret hx hb hlocks hC hP hS hr hg_9 dX11_pin_20
set_option maxRecDepth 100000 in
set_option maxHeartbeats 4000000 in
theorem ct_X11_pin (l : Launch) (G : GP) (X M : SM) (τ : SL) (x1 : Int32) (x2 : Int32) {r0 : Int32} {X0 : SM} (hf : fn_X11_pin x1 x2 X = some (r0, X0)) : Met l yX11_pin (wz yX11_pin cX11_pin 3 (some .boolean)) rm_X11_pin (va_Pc [.ref (G.2.1 11 0), .int x1, .int x2] (g_pw G (X, M, τ))) (va_Qi (fun r u => r = r0 ∧ u = (X0, M, τ)) (g_pw G) (g_A G)) 0 0 (g_A G) := by
  refine Met.ofW (cc := cX11_pin) (maxL := 3) (ret := (some .boolean)) (by decide +kernel) rfl ?_
  intro p e s m args below meth c s₁ B hml hv
  obtain ⟨rfl, hC, hP⟩ := hv
  have C0 : g_mc p s m _ meth c RX11 cX11_pin (some .boolean) 3 G := ⟨B.exec, B.bytes, B.returns, hml, findClass_of_methodNamed B.named, fun w h => atoms_spec (ws := wz yX11_pin cX11_pin 3 (some .boolean)) B.pre w (List.mem_cons_of_mem _ h), B.notSynchronized, hC⟩
  have hl := lv_entry ([.ref (G.2.1 11 0), .int x1, .int x2]) (n := 3) (Nat.le_of_ble_eq_true rfl)
  rw [lg_entry_eq]
  generalize (lg_sl ([.ref (G.2.1 11 0), .int x1, .int x2]) ++ List.replicate (3 - (lg_sl ([.ref (G.2.1 11 0), .int x1, .int x2])).length) Slot.unset).toArray = ls at hl ⊢
  exact wk_X11_pin C0  x1 x2 X hf hP va_S.rf hl
abbrev rm_X11_register : Room := { frames := 8, cells := 1, slots := 6, locals := 120 }
def fn_X11_register (x1 : Int32) (x2 : Int32) (X : SM) : Option (Option Int32) :=
  g_let (fn_X11_isThread x1) fun r_1 =>
  if r_1 = 0 then
  (some none)
  else
  (g_let (fn_X11_isRegister x2) fun r_4 =>
    if r_4 = 0 then
    (some none)
    else
    (if g_in x1 6 then
      (fn_X9_read (6 * 0 + (x1.toNatClampNeg)) x2 X).bind fun r_9 =>
      some (some r_9)
      else none))
set_option maxRecDepth 100000 in
set_option maxHeartbeats 4000000 in
theorem wk_X11_register {p : Program} {l : Launch} {e : Env} {s : State} {m : MethodId} {args : Array Value} {below : List Frame} {meth : Method} {c : Code} {G : GP} {M : SM} {τ : SL} (C0 : g_mc p s m args meth c RX11 cX11_register (some .int) 3 G) (hno : ∀ x ∈ c.exceptionTable.toList, False) (hlt : l.stackTraces = false) {r0 : Option Int32} (x1 : Int32) (x2 : Int32) (X : SM) (hf : fn_X11_register x1 x2 X = some r0) {H : Heap} {locs : List Loc} (hP : va_P G.1 g_cl (wd G (cb X M) τ) H) (hS : va_S (g_A G) s.heap H locs) {ls : Array Slot} (hl : lv_has ls 3 [(0, .ref (G.2.1 11 0)), (1, .int x1), (2, .int x2)]) : W p l e rm_X11_register s m args below meth c H locs 0 0 (vx_MQ below (va_Qi (fun r u => r0 = some r ∧ u = (X, M, τ)) (g_pw G) (g_A G)) (vx_X (fun u => r0 = none ∧ u = (X, M, τ)) (fun E u t => E = "java/util/NoSuchElementException" ∧ va_P G.1 g_cl (wd G (cb u.1 u.2.1) u.2.2) t.heap) (g_A G)) args s 1 6 (g_A G)) (F0 m 0 ls []) := by
  obtain ⟨hx, hb, hr, hml, hown, hts, hlocks, hC⟩ := id C0
  unfold fn_X11_register at hf
  refine lv_iload_n hx hb dX11_register_0 rfl (lv_at hl 1 rfl) ?_
  obtain ⟨r_1, hc_2, hf⟩ := g_letE hf
  refine x_calli (v := (X, M, τ)) (va_runS (As := [.int x1]) (rest := []) ⟨hx, hb, hml, hown, hts⟩ (ct_X11_isThread l G X M τ x1 hc_2) (cwS 1 hts gd_X11_56 rfl rfl rfl hd_X11_isThread ⟨Nat.le_of_ble_eq_true rfl, Nat.le_of_ble_eq_true rfl⟩) (x_pre (u := (X, M, τ)) hC hS hP) rfl rfl hl.1 rfl (lv_room (Nat.le_of_ble_eq_true rfl)) dX11_register_1 ⟨Nat.zero_le _, Nat.zero_le _⟩) hS (fun H locs hP hS => ?_)
  refine lv_if_eq (tgt := 14) hx hb dX11_register_4 (by decide) (fun hc_3 => ?_) (fun hc_3 => ?_)
  · have hf := g_pos hf hc_3
    cases hf
    exact x_throw hx hb hlt hown hts hC hP hS (hl.1.trans hml.symm) dX11_register_14 dX11_register_17 dX11_register_18 dX11_register_21 hno (Nat.le_of_ble_eq_true rfl) (Nat.le_of_ble_eq_true rfl) hlocks
  · have hf := g_neg hf hc_3
    refine lv_iload_n hx hb dX11_register_7 rfl (lv_at hl 2 rfl) ?_
    obtain ⟨r_4, hc_5, hf⟩ := g_letE hf
    refine x_calli (v := (X, M, τ)) (va_runS (As := [.int x2]) (rest := []) ⟨hx, hb, hml, hown, hts⟩ (ct_X11_isRegister l G X M τ x2 hc_5) (cwS 1 hts gd_X11_141 rfl rfl rfl hd_X11_isRegister ⟨Nat.le_of_ble_eq_true rfl, Nat.le_of_ble_eq_true rfl⟩) (x_pre (u := (X, M, τ)) hC hS hP) rfl rfl hl.1 rfl (lv_room (Nat.le_of_ble_eq_true rfl)) dX11_register_8 ⟨Nat.zero_le _, Nat.zero_le _⟩) hS (fun H locs hP hS => ?_)
    refine lv_if_ne (tgt := 22) hx hb dX11_register_11 (by decide) (fun hc_6 => ?_) (fun hc_6 => ?_)
    · have hf := g_neg hf hc_6
      refine lv_aload_n hx hb dX11_register_22 rfl (lv_at hl 0 rfl) ?_
      refine gt_11_2 hx hb hts hown hC hP Nat.zero_lt_one q2_0 dX11_register_23 ?_
      refine gt_7_0 hx hb hts hown hC hP (by decide) q7_21 dX11_register_26 ?_
      refine lv_iload_n hx hb dX11_register_29 rfl (lv_at hl 1 rfl) ?_
      obtain ⟨hg_7, hf⟩ := g_gd hf
      have hq_8 : 6 * 0 + (x1.toNatClampNeg) < 12 := by have h8 := g_in_lt (n := 6) hg_7; have h9 : 0 < 2 := (by decide); omega
      refine xaldS hx hb hC hP (by decide) hg_7 dX11_register_30 ?_
      refine lv_iload_n hx hb dX11_register_31 rfl (lv_at hl 2 rfl) ?_
      obtain ⟨r_9, hc_10, hf⟩ := g_bindE hf
      refine x_calli (v := (X, M, τ)) (va_runV (As := [.int x2]) (rest := []) ⟨hx, hb, hml, hown, hts⟩ (ct_X9_read l G X M τ (6 * 0 + (x1.toNatClampNeg)) hq_8 x2 hc_10) (cwV 1 hts gd_X11_147 rfl rfl rfl hd_X9_read ⟨Nat.le_of_ble_eq_true rfl, Nat.le_of_ble_eq_true rfl⟩) (x_preV (u := (X, M, τ)) (k := 9) (ci := 9) hC hS hP hq_8 rfl rfl) rfl rfl hl.1 rfl (lv_room (Nat.le_of_ble_eq_true rfl)) dX11_register_32 ⟨Nat.zero_le _, Nat.zero_le _⟩) hS (fun H locs hP hS => ?_)
      cases hf
      refine W.widen (k := 1) (n := 6) (Nat.zero_le _) (Nat.zero_le _) ?_
      refine vx_ret ?_
      exact x_tret hx hb hlocks hC hP hS hr dX11_register_35
    · have hf := g_pos hf hc_6
      cases hf
      exact x_throw hx hb hlt hown hts hC hP hS (hl.1.trans hml.symm) dX11_register_14 dX11_register_17 dX11_register_18 dX11_register_21 hno (Nat.le_of_ble_eq_true rfl) (Nat.le_of_ble_eq_true rfl) hlocks
set_option maxRecDepth 100000 in
set_option maxHeartbeats 4000000 in
theorem ct_X11_register (l : Launch) (hlt : l.stackTraces = false) (G : GP) (X M : SM) (τ : SL) (x1 : Int32) (x2 : Int32) {r0 : Option Int32} (hf : fn_X11_register x1 x2 X = some r0) : vx_Met l yX11_register (wz yX11_register cX11_register 3 (some .int)) rm_X11_register (va_Pc [.ref (G.2.1 11 0), .int x1, .int x2] (g_pw G (X, M, τ))) (va_Qi (fun r u => r0 = some r ∧ u = (X, M, τ)) (g_pw G) (g_A G)) (vx_X (fun u => r0 = none ∧ u = (X, M, τ)) (fun E u t => E = "java/util/NoSuchElementException" ∧ va_P G.1 g_cl (wd G (cb u.1 u.2.1) u.2.2) t.heap) (g_A G)) 1 6 (g_A G) := by
  refine vx_ofW (cc := cX11_register) (maxL := 3) (ret := (some .int)) (by decide +kernel) rfl ?_
  intro p e s m args below meth c s₁ B hml hno hv
  obtain ⟨rfl, hC, hP⟩ := hv
  have C0 : g_mc p s m _ meth c RX11 cX11_register (some .int) 3 G := ⟨B.exec, B.bytes, B.returns, hml, findClass_of_methodNamed B.named, fun w h => atoms_spec (ws := wz yX11_register cX11_register 3 (some .int)) B.pre w (List.mem_cons_of_mem _ h), B.notSynchronized, hC⟩
  have hl := lv_entry ([.ref (G.2.1 11 0), .int x1, .int x2]) (n := 3) (Nat.le_of_ble_eq_true rfl)
  rw [lg_entry_eq]
  generalize (lg_sl ([.ref (G.2.1 11 0), .int x1, .int x2]) ++ List.replicate (3 - (lg_sl ([.ref (G.2.1 11 0), .int x1, .int x2])).length) Slot.unset).toArray = ls at hl ⊢
  exact wk_X11_register C0 hno hlt x1 x2 X hf hP va_S.rf hl
abbrev rm_X11_run : Room := { frames := 6, cells := 0, slots := 0, locals := 148 }
def wb_X11_run_18 (k18 : Int32 → Int32 → Int32 → SM → Option (Int32 × SM)) (x1 : Int32) (x2 : Int32) (x3 : Int32) (X : SM) : Option (Int32 × SM) :=
  if x1 ≤ x3 then
  (some (x2, X))
  else
  ((fn_X7_tick 0 X).bind fun (r_4, X_5) =>
    if r_4 = (-1) then
    (g_let (x3 + 1) fun x3_8 =>
      k18 x1 x2 x3_8 X_5)
    else
    (g_let (x2 + 1) fun x2_9 =>
      g_let (x3 + 1) fun x3_10 =>
      k18 x1 x2_9 x3_10 X_5))
set_option maxRecDepth 100000 in
set_option maxHeartbeats 4000000 in
theorem bk_X11_run_18 {p : Program} {l : Launch} {e : Env} {s : State} {m : MethodId} {args : Array Value} {below : List Frame} {meth : Method} {c : Code} {G : GP} {M : SM} {τ : SL} (C0 : g_mc p s m args meth c RX11 cX11_run (some .int) 4 G) {r0 : Int32} {X0 : SM} (k18 : Int32 → Int32 → Int32 → SM → Option (Int32 × SM)) (hk18 : ∀ (x1 : Int32) (x2 : Int32) (x3 : Int32) (X : SM), k18 x1 x2 x3 X = some (r0, X0) → ∀ {H : Heap} {locs : List Loc}, va_P G.1 g_cl (wd G (cb X M) τ) H → va_S (g_A G) s.heap H locs → ∀ {ls : Array Slot}, lv_has ls 4 [(0, .ref (G.2.1 11 0)), (1, .int x1), (2, .int x2), (3, .int x3)] → W p l e rm_X11_run s m args below meth c H locs 0 0 (MQ below (va_Qi (fun r u => r = r0 ∧ u = (X0, M, τ)) (g_pw G) (g_A G)) args s 0 0 (g_A G)) (F0 m 18 ls [])) (x1 : Int32) (x2 : Int32) (x3 : Int32) (X : SM) (hf : wb_X11_run_18 k18 x1 x2 x3 X = some (r0, X0)) {H : Heap} {locs : List Loc} (hP : va_P G.1 g_cl (wd G (cb X M) τ) H) (hS : va_S (g_A G) s.heap H locs) {ls : Array Slot} (hl : lv_has ls 4 [(0, .ref (G.2.1 11 0)), (1, .int x1), (2, .int x2), (3, .int x3)]) : W p l e rm_X11_run s m args below meth c H locs 0 0 (MQ below (va_Qi (fun r u => r = r0 ∧ u = (X0, M, τ)) (g_pw G) (g_A G)) args s 0 0 (g_A G)) (F0 m 18 ls []) := by
  obtain ⟨hx, hb, hr, hml, hown, hts, hlocks, hC⟩ := id C0
  unfold wb_X11_run_18 at hf
  refine lv_iload_n hx hb dX11_run_18 rfl (lv_at hl 3 rfl) ?_
  refine lv_iload_n hx hb dX11_run_19 rfl (lv_at hl 1 rfl) ?_
  refine lv_icmp_ge (tgt := 43) hx hb dX11_run_20 (by decide) (fun hc_3 => ?_) (fun hc_3 => ?_)
  · have hf := g_pos hf hc_3
    refine lv_iload_n hx hb dX11_run_43 rfl (lv_at hl 2 rfl) ?_
    cases hf
    exact x_iret hx hb hlocks hC hP hS hr dX11_run_44
  · have hf := g_neg hf hc_3
    refine lv_aload_n hx hb dX11_run_23 rfl (lv_at hl 0 rfl) ?_
    refine gt_11_2 hx hb hts hown hC hP Nat.zero_lt_one q2_0 dX11_run_24 ?_
    obtain ⟨⟨r_4, X_5⟩, hc_6, hf⟩ := g_bindE hf
    refine x_calli (v := (X_5, M, τ)) (va_runV (As := []) (rest := []) ⟨hx, hb, hml, hown, hts⟩ (ct_X7_tick l G X M τ 0 (by decide) hc_6) (cwV 0 hts gd_X11_137 rfl rfl rfl hd_X7_tick ⟨Nat.le_of_ble_eq_true rfl, Nat.le_of_ble_eq_true rfl⟩) (x_preV (u := (X, M, τ)) (k := 7) (ci := 7) hC hS hP (by decide) rfl rfl) rfl rfl hl.1 rfl (lv_room (Nat.le_of_ble_eq_true rfl)) dX11_run_27 ⟨Nat.zero_le _, Nat.zero_le _⟩) hS (fun H locs hP hS => ?_)
    refine lv_iconst (v := (-1)) hx hb dX11_run_30 (by decide) ?_
    refine lv_icmp_eq (tgt := 37) hx hb dX11_run_31 (by decide) (fun hc_7 => ?_) (fun hc_7 => ?_)
    · have hf := g_pos hf hc_7
      obtain ⟨x3_8, ex3_8, hf⟩ := g_letE hf
      refine lv_iinc (v := x3_8) (lv' := [(3, .int x3_8), (0, .ref (G.2.1 11 0)), (1, .int x1), (2, .int x2)]) hx hb dX11_run_37 hl (k := 3) rfl (by rw [← ex3_8]; rfl) (by decide) rfl (fun ls hl => ?_)
      refine lv_goto (tgt := 18) hx hb dX11_run_40 (by decide) ?_
      exact hk18 x1 x2 x3_8 X_5 hf hP hS (lv_sub hl [1, 2, 3, 0] rfl)
    · have hf := g_neg hf hc_7
      obtain ⟨x2_9, ex2_9, hf⟩ := g_letE hf
      refine lv_iinc (v := x2_9) (lv' := [(2, .int x2_9), (0, .ref (G.2.1 11 0)), (1, .int x1), (3, .int x3)]) hx hb dX11_run_34 hl (k := 2) rfl (by rw [← ex2_9]; rfl) (by decide) rfl (fun ls hl => ?_)
      obtain ⟨x3_10, ex3_10, hf⟩ := g_letE hf
      refine lv_iinc (v := x3_10) (lv' := [(3, .int x3_10), (2, .int x2_9), (0, .ref (G.2.1 11 0)), (1, .int x1)]) hx hb dX11_run_37 hl (k := 3) rfl (by rw [← ex3_10]; rfl) (by decide) rfl (fun ls hl => ?_)
      refine lv_goto (tgt := 18) hx hb dX11_run_40 (by decide) ?_
      exact hk18 x1 x2_9 x3_10 X_5 hf hP hS (lv_sub hl [2, 3, 1, 0] rfl)
def wl_X11_run_18 (n : Nat) (x1 : Int32) (x2 : Int32) (x3 : Int32) (X : SM) : Option (Int32 × SM) := g_loop (α := Int32 × Int32 × Int32 × SM) (fun k a => wb_X11_run_18 (fun x1 x2 x3 X => k (x1, x2, x3, X)) a.1 a.2.1 a.2.2.1 a.2.2.2) n (x1, x2, x3, X)
set_option maxRecDepth 100000 in
set_option maxHeartbeats 4000000 in
theorem lp_X11_run_18 {p : Program} {l : Launch} {e : Env} {s : State} {m : MethodId} {args : Array Value} {below : List Frame} {meth : Method} {c : Code} {G : GP} {M : SM} {τ : SL} (C0 : g_mc p s m args meth c RX11 cX11_run (some .int) 4 G) {r0 : Int32} {X0 : SM} (n : Nat) : ∀ (x1 : Int32) (x2 : Int32) (x3 : Int32) (X : SM), wl_X11_run_18 n x1 x2 x3 X = some (r0, X0) → ∀ {H : Heap} {locs : List Loc}, va_P G.1 g_cl (wd G (cb X M) τ) H → va_S (g_A G) s.heap H locs → ∀ {ls : Array Slot}, lv_has ls 4 [(0, .ref (G.2.1 11 0)), (1, .int x1), (2, .int x2), (3, .int x3)] → W p l e rm_X11_run s m args below meth c H locs 0 0 (MQ below (va_Qi (fun r u => r = r0 ∧ u = (X0, M, τ)) (g_pw G) (g_A G)) args s 0 0 (g_A G)) (F0 m 18 ls []) := by
  induction n with
  | zero =>
    intro x1 x2 x3 X hf
    have hf : (none : Option (Int32 × SM)) = _ := hf
    cases hf
  | succ n ih =>
    intro x1 x2 x3 X hf H locs hP hS ls hl
    exact bk_X11_run_18 C0   (fun x1 x2 x3 X => wl_X11_run_18   n x1 x2 x3 X) ih x1 x2 x3 X hf hP hS hl
def fn_X11_run (x1 : Int32) (X : SM) : Option (Int32 × SM) :=
  if x1 < 1 then
  (some ((-1), X))
  else
  (if x1 ≤ 200 then
    (wl_X11_run_18 1000 x1 0 0 X)
    else
    (some ((-1), X)))
set_option maxRecDepth 100000 in
set_option maxHeartbeats 4000000 in
theorem wk_X11_run {p : Program} {l : Launch} {e : Env} {s : State} {m : MethodId} {args : Array Value} {below : List Frame} {meth : Method} {c : Code} {G : GP} {M : SM} {τ : SL} (C0 : g_mc p s m args meth c RX11 cX11_run (some .int) 4 G) {r0 : Int32} {X0 : SM} (x1 : Int32) (X : SM) (hf : fn_X11_run x1 X = some (r0, X0)) {H : Heap} {locs : List Loc} (hP : va_P G.1 g_cl (wd G (cb X M) τ) H) (hS : va_S (g_A G) s.heap H locs) {ls : Array Slot} (hl : lv_has ls 4 [(0, .ref (G.2.1 11 0)), (1, .int x1)]) : W p l e rm_X11_run s m args below meth c H locs 0 0 (MQ below (va_Qi (fun r u => r = r0 ∧ u = (X0, M, τ)) (g_pw G) (g_A G)) args s 0 0 (g_A G)) (F0 m 0 ls []) := by
  obtain ⟨hx, hb, hr, hml, hown, hts, hlocks, hC⟩ := id C0
  unfold fn_X11_run at hf
  refine lv_iload_n hx hb dX11_run_0 rfl (lv_at hl 1 rfl) ?_
  refine lv_iconst (v := 1) hx hb dX11_run_1 (by decide) ?_
  refine lv_icmp_lt (tgt := 12) hx hb dX11_run_2 (by decide) (fun hc_1 => ?_) (fun hc_1 => ?_)
  · have hf := g_pos hf hc_1
    refine lv_iconst (v := (-1)) hx hb dX11_run_12 (by decide) ?_
    cases hf
    exact x_iret hx hb hlocks hC hP hS hr dX11_run_13
  · have hf := g_neg hf hc_1
    refine lv_iload_n hx hb dX11_run_5 rfl (lv_at hl 1 rfl) ?_
    refine lv_sipush (v := 200) hx hb dX11_run_6 (by decide) ?_
    refine lv_icmp_le (tgt := 14) hx hb dX11_run_9 (by decide) (fun hc_2 => ?_) (fun hc_2 => ?_)
    · have hf := g_pos hf hc_2
      refine lv_iconst (v := 0) hx hb dX11_run_14 (by decide) ?_
      refine lv_istore_n (lv' := [(2, .int 0), (0, .ref (G.2.1 11 0)), (1, .int x1)]) hx hb dX11_run_15 rfl hl (by decide) rfl (fun ls hl => ?_)
      refine lv_iconst (v := 0) hx hb dX11_run_16 (by decide) ?_
      refine lv_istore_n (lv' := [(3, .int 0), (2, .int 0), (0, .ref (G.2.1 11 0)), (1, .int x1)]) hx hb dX11_run_17 rfl hl (by decide) rfl (fun ls hl => ?_)
      exact lp_X11_run_18 C0 1000 x1 0 0 X hf hP hS (lv_sub hl [2, 3, 1, 0] rfl)
    · have hf := g_neg hf hc_2
      refine lv_iconst (v := (-1)) hx hb dX11_run_12 (by decide) ?_
      cases hf
      exact x_iret hx hb hlocks hC hP hS hr dX11_run_13
set_option maxRecDepth 100000 in
set_option maxHeartbeats 4000000 in
theorem ct_X11_run (l : Launch) (G : GP) (X M : SM) (τ : SL) (x1 : Int32) {r0 : Int32} {X0 : SM} (hf : fn_X11_run x1 X = some (r0, X0)) : Met l yX11_run (wz yX11_run cX11_run 4 (some .int)) rm_X11_run (va_Pc [.ref (G.2.1 11 0), .int x1] (g_pw G (X, M, τ))) (va_Qi (fun r u => r = r0 ∧ u = (X0, M, τ)) (g_pw G) (g_A G)) 0 0 (g_A G) := by
  refine Met.ofW (cc := cX11_run) (maxL := 4) (ret := (some .int)) (by decide +kernel) rfl ?_
  intro p e s m args below meth c s₁ B hml hv
  obtain ⟨rfl, hC, hP⟩ := hv
  have C0 : g_mc p s m _ meth c RX11 cX11_run (some .int) 4 G := ⟨B.exec, B.bytes, B.returns, hml, findClass_of_methodNamed B.named, fun w h => atoms_spec (ws := wz yX11_run cX11_run 4 (some .int)) B.pre w (List.mem_cons_of_mem _ h), B.notSynchronized, hC⟩
  have hl := lv_entry ([.ref (G.2.1 11 0), .int x1]) (n := 4) (Nat.le_of_ble_eq_true rfl)
  rw [lg_entry_eq]
  generalize (lg_sl ([.ref (G.2.1 11 0), .int x1]) ++ List.replicate (4 - (lg_sl ([.ref (G.2.1 11 0), .int x1])).length) Slot.unset).toArray = ls at hl ⊢
  exact wk_X11_run C0  x1 X hf hP va_S.rf hl
abbrev rm_X11_set : Room := { frames := 8, cells := 1, slots := 6, locals := 120 }
def fn_X11_set (x1 : Int32) (x2 : Int32) (x3 : Int32) (X : SM) : Option (Option Int32 × SM) :=
  g_let (fn_X11_isThread x1) fun r_1 =>
  if r_1 = 0 then
  (some (none, X))
  else
  (g_let (fn_X11_isRegister x2) fun r_4 =>
    if r_4 = 0 then
    (some (none, X))
    else
    (if g_in x1 6 then
      (fn_X9_read (6 * 0 + (x1.toNatClampNeg)) x2 X).bind fun r_9 =>
      if g_in x1 6 then
      (fn_X9_write (6 * 0 + (x1.toNatClampNeg)) x2 x3 X).bind fun X_13 =>
      some ((some r_9), X_13)
      else none
      else none))
set_option maxRecDepth 100000 in
set_option maxHeartbeats 4000000 in
theorem wk_X11_set {p : Program} {l : Launch} {e : Env} {s : State} {m : MethodId} {args : Array Value} {below : List Frame} {meth : Method} {c : Code} {G : GP} {M : SM} {τ : SL} (C0 : g_mc p s m args meth c RX11 cX11_set (some .int) 5 G) (hno : ∀ x ∈ c.exceptionTable.toList, False) (hlt : l.stackTraces = false) {r0 : Option Int32} {X0 : SM} (x1 : Int32) (x2 : Int32) (x3 : Int32) (X : SM) (hf : fn_X11_set x1 x2 x3 X = some (r0, X0)) {H : Heap} {locs : List Loc} (hP : va_P G.1 g_cl (wd G (cb X M) τ) H) (hS : va_S (g_A G) s.heap H locs) {ls : Array Slot} (hl : lv_has ls 5 [(0, .ref (G.2.1 11 0)), (1, .int x1), (2, .int x2), (3, .int x3)]) : W p l e rm_X11_set s m args below meth c H locs 0 0 (vx_MQ below (va_Qi (fun r u => r0 = some r ∧ u = (X0, M, τ)) (g_pw G) (g_A G)) (vx_X (fun u => r0 = none ∧ u = (X0, M, τ)) (fun E u t => E = "java/util/NoSuchElementException" ∧ va_P G.1 g_cl (wd G (cb u.1 u.2.1) u.2.2) t.heap) (g_A G)) args s 1 6 (g_A G)) (F0 m 0 ls []) := by
  obtain ⟨hx, hb, hr, hml, hown, hts, hlocks, hC⟩ := id C0
  unfold fn_X11_set at hf
  refine lv_iload_n hx hb dX11_set_0 rfl (lv_at hl 1 rfl) ?_
  obtain ⟨r_1, hc_2, hf⟩ := g_letE hf
  refine x_calli (v := (X, M, τ)) (va_runS (As := [.int x1]) (rest := []) ⟨hx, hb, hml, hown, hts⟩ (ct_X11_isThread l G X M τ x1 hc_2) (cwS 1 hts gd_X11_56 rfl rfl rfl hd_X11_isThread ⟨Nat.le_of_ble_eq_true rfl, Nat.le_of_ble_eq_true rfl⟩) (x_pre (u := (X, M, τ)) hC hS hP) rfl rfl hl.1 rfl (lv_room (Nat.le_of_ble_eq_true rfl)) dX11_set_1 ⟨Nat.zero_le _, Nat.zero_le _⟩) hS (fun H locs hP hS => ?_)
  refine lv_if_eq (tgt := 14) hx hb dX11_set_4 (by decide) (fun hc_3 => ?_) (fun hc_3 => ?_)
  · have hf := g_pos hf hc_3
    cases hf
    exact x_throw hx hb hlt hown hts hC hP hS (hl.1.trans hml.symm) dX11_set_14 dX11_set_17 dX11_set_18 dX11_set_21 hno (Nat.le_of_ble_eq_true rfl) (Nat.le_of_ble_eq_true rfl) hlocks
  · have hf := g_neg hf hc_3
    refine lv_iload_n hx hb dX11_set_7 rfl (lv_at hl 2 rfl) ?_
    obtain ⟨r_4, hc_5, hf⟩ := g_letE hf
    refine x_calli (v := (X, M, τ)) (va_runS (As := [.int x2]) (rest := []) ⟨hx, hb, hml, hown, hts⟩ (ct_X11_isRegister l G X M τ x2 hc_5) (cwS 1 hts gd_X11_141 rfl rfl rfl hd_X11_isRegister ⟨Nat.le_of_ble_eq_true rfl, Nat.le_of_ble_eq_true rfl⟩) (x_pre (u := (X, M, τ)) hC hS hP) rfl rfl hl.1 rfl (lv_room (Nat.le_of_ble_eq_true rfl)) dX11_set_8 ⟨Nat.zero_le _, Nat.zero_le _⟩) hS (fun H locs hP hS => ?_)
    refine lv_if_ne (tgt := 22) hx hb dX11_set_11 (by decide) (fun hc_6 => ?_) (fun hc_6 => ?_)
    · have hf := g_neg hf hc_6
      refine lv_aload_n hx hb dX11_set_22 rfl (lv_at hl 0 rfl) ?_
      refine gt_11_2 hx hb hts hown hC hP Nat.zero_lt_one q2_0 dX11_set_23 ?_
      refine gt_7_0 hx hb hts hown hC hP (by decide) q7_21 dX11_set_26 ?_
      refine lv_iload_n hx hb dX11_set_29 rfl (lv_at hl 1 rfl) ?_
      obtain ⟨hg_7, hf⟩ := g_gd hf
      have hq_8 : 6 * 0 + (x1.toNatClampNeg) < 12 := by have h8 := g_in_lt (n := 6) hg_7; have h9 : 0 < 2 := (by decide); omega
      refine xaldS hx hb hC hP (by decide) hg_7 dX11_set_30 ?_
      refine lv_iload_n hx hb dX11_set_31 rfl (lv_at hl 2 rfl) ?_
      obtain ⟨r_9, hc_10, hf⟩ := g_bindE hf
      refine x_calli (v := (X, M, τ)) (va_runV (As := [.int x2]) (rest := []) ⟨hx, hb, hml, hown, hts⟩ (ct_X9_read l G X M τ (6 * 0 + (x1.toNatClampNeg)) hq_8 x2 hc_10) (cwV 1 hts gd_X11_147 rfl rfl rfl hd_X9_read ⟨Nat.le_of_ble_eq_true rfl, Nat.le_of_ble_eq_true rfl⟩) (x_preV (u := (X, M, τ)) (k := 9) (ci := 9) hC hS hP hq_8 rfl rfl) rfl rfl hl.1 rfl (lv_room (Nat.le_of_ble_eq_true rfl)) dX11_set_32 ⟨Nat.zero_le _, Nat.zero_le _⟩) hS (fun H locs hP hS => ?_)
      refine lv_istore (lv' := [(4, .int r_9), (0, .ref (G.2.1 11 0)), (1, .int x1), (2, .int x2), (3, .int x3)]) hx hb dX11_set_35 hl (by decide) rfl (fun ls hl => ?_)
      refine lv_aload_n hx hb dX11_set_37 rfl (lv_at hl 1 rfl) ?_
      refine gt_11_2 hx hb hts hown hC hP Nat.zero_lt_one q2_0 dX11_set_38 ?_
      refine gt_7_0 hx hb hts hown hC hP (by decide) q7_21 dX11_set_41 ?_
      refine lv_iload_n hx hb dX11_set_44 rfl (lv_at hl 2 rfl) ?_
      obtain ⟨hg_11, hf⟩ := g_gd hf
      have hq_12 : 6 * 0 + (x1.toNatClampNeg) < 12 := by have h8 := g_in_lt (n := 6) hg_11; have h9 : 0 < 2 := (by decide); omega
      refine xaldS hx hb hC hP (by decide) hg_11 dX11_set_45 ?_
      refine lv_iload_n hx hb dX11_set_46 rfl (lv_at hl 3 rfl) ?_
      refine lv_iload_n hx hb dX11_set_47 rfl (lv_at hl 4 rfl) ?_
      obtain ⟨X_13, hc_14, hf⟩ := g_bindE hf
      refine x_callv (v := (X_13, M, τ)) (va_runV (As := [.int x2, .int x3]) (rest := []) ⟨hx, hb, hml, hown, hts⟩ (ct_X9_write l G X M τ (6 * 0 + (x1.toNatClampNeg)) hq_12 x2 x3 hc_14) (cwV 2 hts gd_X11_150 rfl rfl rfl hd_X9_write ⟨Nat.le_of_ble_eq_true rfl, Nat.le_of_ble_eq_true rfl⟩) (x_preV (u := (X, M, τ)) (k := 9) (ci := 9) hC hS hP hq_12 rfl rfl) rfl rfl hl.1 rfl (lv_room (Nat.le_of_ble_eq_true rfl)) dX11_set_48 ⟨Nat.zero_le _, Nat.zero_le _⟩) hS (fun H locs hP hS => ?_)
      refine lv_iload hx hb dX11_set_51 (lv_at hl 0 rfl) ?_
      cases hf
      refine W.widen (k := 1) (n := 6) (Nat.zero_le _) (Nat.zero_le _) ?_
      refine vx_ret ?_
      exact x_tret hx hb hlocks hC hP hS hr dX11_set_53
    · have hf := g_pos hf hc_6
      cases hf
      exact x_throw hx hb hlt hown hts hC hP hS (hl.1.trans hml.symm) dX11_set_14 dX11_set_17 dX11_set_18 dX11_set_21 hno (Nat.le_of_ble_eq_true rfl) (Nat.le_of_ble_eq_true rfl) hlocks
set_option maxRecDepth 100000 in
set_option maxHeartbeats 4000000 in
theorem ct_X11_set (l : Launch) (hlt : l.stackTraces = false) (G : GP) (X M : SM) (τ : SL) (x1 : Int32) (x2 : Int32) (x3 : Int32) {r0 : Option Int32} {X0 : SM} (hf : fn_X11_set x1 x2 x3 X = some (r0, X0)) : vx_Met l yX11_set (wz yX11_set cX11_set 5 (some .int)) rm_X11_set (va_Pc [.ref (G.2.1 11 0), .int x1, .int x2, .int x3] (g_pw G (X, M, τ))) (va_Qi (fun r u => r0 = some r ∧ u = (X0, M, τ)) (g_pw G) (g_A G)) (vx_X (fun u => r0 = none ∧ u = (X0, M, τ)) (fun E u t => E = "java/util/NoSuchElementException" ∧ va_P G.1 g_cl (wd G (cb u.1 u.2.1) u.2.2) t.heap) (g_A G)) 1 6 (g_A G) := by
  refine vx_ofW (cc := cX11_set) (maxL := 5) (ret := (some .int)) (by decide +kernel) rfl ?_
  intro p e s m args below meth c s₁ B hml hno hv
  obtain ⟨rfl, hC, hP⟩ := hv
  have C0 : g_mc p s m _ meth c RX11 cX11_set (some .int) 5 G := ⟨B.exec, B.bytes, B.returns, hml, findClass_of_methodNamed B.named, fun w h => atoms_spec (ws := wz yX11_set cX11_set 5 (some .int)) B.pre w (List.mem_cons_of_mem _ h), B.notSynchronized, hC⟩
  have hl := lv_entry ([.ref (G.2.1 11 0), .int x1, .int x2, .int x3]) (n := 5) (Nat.le_of_ble_eq_true rfl)
  rw [lg_entry_eq]
  generalize (lg_sl ([.ref (G.2.1 11 0), .int x1, .int x2, .int x3]) ++ List.replicate (5 - (lg_sl ([.ref (G.2.1 11 0), .int x1, .int x2, .int x3])).length) Slot.unset).toArray = ls at hl ⊢
  exact wk_X11_set C0 hno hlt x1 x2 x3 X hf hP va_S.rf hl
abbrev rm_X11_share : Room := { frames := 2, cells := 0, slots := 0, locals := 44 }
def fn_X11_share (x1 : Int32) (X : SM) : Option (Int32) :=
  g_let (fn_X11_isThread x1) fun r_1 =>
  if r_1 = 0 then
  (some (-1))
  else
  (if (X 7 0 5) = 0 then
    (some (-1))
    else
    (if g_in x1 6 then
      (fn_X11_ratioBits (X 9 (6 * 0 + (x1.toNatClampNeg)) 11) (X 7 0 5)).bind fun r_7 =>
      some r_7
      else none))
set_option maxRecDepth 100000 in
set_option maxHeartbeats 4000000 in
theorem wk_X11_share {p : Program} {l : Launch} {e : Env} {s : State} {m : MethodId} {args : Array Value} {below : List Frame} {meth : Method} {c : Code} {G : GP} {M : SM} {τ : SL} (C0 : g_mc p s m args meth c RX11 cX11_share (some .int) 2 G) {r0 : Int32} (x1 : Int32) (X : SM) (hf : fn_X11_share x1 X = some r0) {H : Heap} {locs : List Loc} (hP : va_P G.1 g_cl (wd G (cb X M) τ) H) (hS : va_S (g_A G) s.heap H locs) {ls : Array Slot} (hl : lv_has ls 2 [(0, .ref (G.2.1 11 0)), (1, .int x1)]) : W p l e rm_X11_share s m args below meth c H locs 0 0 (MQ below (va_Qi (fun r u => r = r0 ∧ u = (X, M, τ)) (g_pw G) (g_A G)) args s 0 0 (g_A G)) (F0 m 0 ls []) := by
  obtain ⟨hx, hb, hr, hml, hown, hts, hlocks, hC⟩ := id C0
  unfold fn_X11_share at hf
  refine lv_iload_n hx hb dX11_share_0 rfl (lv_at hl 1 rfl) ?_
  obtain ⟨r_1, hc_2, hf⟩ := g_letE hf
  refine x_calli (v := (X, M, τ)) (va_runS (As := [.int x1]) (rest := []) ⟨hx, hb, hml, hown, hts⟩ (ct_X11_isThread l G X M τ x1 hc_2) (cwS 1 hts gd_X11_56 rfl rfl rfl hd_X11_isThread ⟨Nat.le_of_ble_eq_true rfl, Nat.le_of_ble_eq_true rfl⟩) (x_pre (u := (X, M, τ)) hC hS hP) rfl rfl hl.1 rfl (lv_room (Nat.le_of_ble_eq_true rfl)) dX11_share_1 ⟨Nat.zero_le _, Nat.zero_le _⟩) hS (fun H locs hP hS => ?_)
  refine lv_if_eq (tgt := 17) hx hb dX11_share_4 (by decide) (fun hc_3 => ?_) (fun hc_3 => ?_)
  · have hf := g_pos hf hc_3
    refine lv_iconst (v := (-1)) hx hb dX11_share_17 (by decide) ?_
    cases hf
    exact x_iret hx hb hlocks hC hP hS hr dX11_share_18
  · have hf := g_neg hf hc_3
    refine lv_aload_n hx hb dX11_share_7 rfl (lv_at hl 0 rfl) ?_
    refine gt_11_2 hx hb hts hown hC hP Nat.zero_lt_one q2_0 dX11_share_8 ?_
    refine gt_7_5 hx hb hts hown hC hP (by decide) q12_12 dX11_share_11 ?_
    refine lv_if_ne (tgt := 19) hx hb dX11_share_14 (by decide) (fun hc_4 => ?_) (fun hc_4 => ?_)
    · have hf := g_neg hf hc_4
      refine lv_aload_n hx hb dX11_share_19 rfl (lv_at hl 0 rfl) ?_
      refine gt_11_2 hx hb hts hown hC hP Nat.zero_lt_one q2_0 dX11_share_20 ?_
      refine gt_7_0 hx hb hts hown hC hP (by decide) q7_21 dX11_share_23 ?_
      refine lv_iload_n hx hb dX11_share_26 rfl (lv_at hl 1 rfl) ?_
      obtain ⟨hg_5, hf⟩ := g_gd hf
      have hq_6 : 6 * 0 + (x1.toNatClampNeg) < 12 := by have h8 := g_in_lt (n := 6) hg_5; have h9 : 0 < 2 := (by decide); omega
      refine xaldS hx hb hC hP (by decide) hg_5 dX11_share_27 ?_
      refine gt_9_11 hx hb hts hown hC hP hq_6 q32_23 dX11_share_28 ?_
      refine lv_aload_n hx hb dX11_share_31 rfl (lv_at hl 0 rfl) ?_
      refine gt_11_2 hx hb hts hown hC hP Nat.zero_lt_one q2_0 dX11_share_32 ?_
      refine gt_7_5 hx hb hts hown hC hP (by decide) q12_12 dX11_share_35 ?_
      obtain ⟨r_7, hc_8, hf⟩ := g_bindE hf
      refine x_calli (v := (X, M, τ)) (va_runS (As := [.int (X 9 (6 * 0 + (x1.toNatClampNeg)) 11), .int (X 7 0 5)]) (rest := []) ⟨hx, hb, hml, hown, hts⟩ (ct_X11_ratioBits l G X M τ (X 9 (6 * 0 + (x1.toNatClampNeg)) 11) (X 7 0 5) hc_8) (cwS 2 hts gd_X11_257 rfl rfl rfl hd_X11_ratioBits ⟨Nat.le_of_ble_eq_true rfl, Nat.le_of_ble_eq_true rfl⟩) (x_pre (u := (X, M, τ)) hC hS hP) rfl rfl hl.1 rfl (lv_room (Nat.le_of_ble_eq_true rfl)) dX11_share_38 ⟨Nat.zero_le _, Nat.zero_le _⟩) hS (fun H locs hP hS => ?_)
      cases hf
      exact x_iret hx hb hlocks hC hP hS hr dX11_share_41
    · have hf := g_pos hf hc_4
      refine lv_iconst (v := (-1)) hx hb dX11_share_17 (by decide) ?_
      cases hf
      exact x_iret hx hb hlocks hC hP hS hr dX11_share_18
set_option maxRecDepth 100000 in
set_option maxHeartbeats 4000000 in
theorem ct_X11_share (l : Launch) (G : GP) (X M : SM) (τ : SL) (x1 : Int32) {r0 : Int32} (hf : fn_X11_share x1 X = some r0) : Met l yX11_share (wz yX11_share cX11_share 2 (some .int)) rm_X11_share (va_Pc [.ref (G.2.1 11 0), .int x1] (g_pw G (X, M, τ))) (va_Qi (fun r u => r = r0 ∧ u = (X, M, τ)) (g_pw G) (g_A G)) 0 0 (g_A G) := by
  refine Met.ofW (cc := cX11_share) (maxL := 2) (ret := (some .int)) (by decide +kernel) rfl ?_
  intro p e s m args below meth c s₁ B hml hv
  obtain ⟨rfl, hC, hP⟩ := hv
  have C0 : g_mc p s m _ meth c RX11 cX11_share (some .int) 2 G := ⟨B.exec, B.bytes, B.returns, hml, findClass_of_methodNamed B.named, fun w h => atoms_spec (ws := wz yX11_share cX11_share 2 (some .int)) B.pre w (List.mem_cons_of_mem _ h), B.notSynchronized, hC⟩
  have hl := lv_entry ([.ref (G.2.1 11 0), .int x1]) (n := 2) (Nat.le_of_ble_eq_true rfl)
  rw [lg_entry_eq]
  generalize (lg_sl ([.ref (G.2.1 11 0), .int x1]) ++ List.replicate (2 - (lg_sl ([.ref (G.2.1 11 0), .int x1])).length) Slot.unset).toArray = ls at hl ⊢
  exact wk_X11_share C0  x1 X hf hP va_S.rf hl
abbrev rm_X11_slot : Room := { frames := 1, cells := 0, slots := 0, locals := 21 }
def fn_X11_slot (x1 : Int32) (x2 : Int32) (X : SM) : Option (Int32 × SM) :=
  g_let (fn_X10_has x1 X) fun r_1 =>
  if r_1 = 0 then
  (some (0, X))
  else
  (if x2 = (-1) then
    (if g_in x1 16 then
      g_let (u1 X 34 0 (x1.toNatClampNeg) x2) fun X_6 =>
      some (1, X_6)
      else none)
    else
    (g_let (fn_X11_isThread x2) fun r_7 =>
      if r_7 = 0 then
      (some (0, X))
      else
      (if g_in x1 16 then
        g_let (u1 X 34 0 (x1.toNatClampNeg) x2) fun X_11 =>
        some (1, X_11)
        else none)))
set_option maxRecDepth 100000 in
set_option maxHeartbeats 4000000 in
theorem wk_X11_slot {p : Program} {l : Launch} {e : Env} {s : State} {m : MethodId} {args : Array Value} {below : List Frame} {meth : Method} {c : Code} {G : GP} {M : SM} {τ : SL} (C0 : g_mc p s m args meth c RX11 cX11_slot (some .boolean) 3 G) {r0 : Int32} {X0 : SM} (x1 : Int32) (x2 : Int32) (X : SM) (hf : fn_X11_slot x1 x2 X = some (r0, X0)) {H : Heap} {locs : List Loc} (hP : va_P G.1 g_cl (wd G (cb X M) τ) H) (hS : va_S (g_A G) s.heap H locs) {ls : Array Slot} (hl : lv_has ls 3 [(0, .ref (G.2.1 11 0)), (1, .int x1), (2, .int x2)]) : W p l e rm_X11_slot s m args below meth c H locs 0 0 (MQ below (va_Qi (fun r u => r = r0 ∧ u = (X0, M, τ)) (g_pw G) (g_A G)) args s 0 0 (g_A G)) (F0 m 0 ls []) := by
  obtain ⟨hx, hb, hr, hml, hown, hts, hlocks, hC⟩ := id C0
  unfold fn_X11_slot at hf
  refine lv_aload_n hx hb dX11_slot_0 rfl (lv_at hl 0 rfl) ?_
  refine gt_11_0 hx hb hts hown hC hP Nat.zero_lt_one q1_16 dX11_slot_1 ?_
  refine lv_iload_n hx hb dX11_slot_4 rfl (lv_at hl 1 rfl) ?_
  obtain ⟨r_1, hc_2, hf⟩ := g_letE hf
  refine x_calli (v := (X, M, τ)) (va_runV (As := [.int x1]) (rest := []) ⟨hx, hb, hml, hown, hts⟩ (ct_X10_has l G X M τ x1 hc_2) (cwV 1 hts gd_X11_124 rfl rfl rfl hd_X10_has ⟨Nat.le_of_ble_eq_true rfl, Nat.le_of_ble_eq_true rfl⟩) (x_preV (u := (X, M, τ)) (k := 10) (ci := 10) hC hS hP Nat.zero_lt_one rfl rfl) rfl rfl hl.1 rfl (lv_room (Nat.le_of_ble_eq_true rfl)) dX11_slot_5 ⟨Nat.zero_le _, Nat.zero_le _⟩) hS (fun H locs hP hS => ?_)
  refine lv_if_eq (tgt := 23) hx hb dX11_slot_8 (by decide) (fun hc_3 => ?_) (fun hc_3 => ?_)
  · have hf := g_pos hf hc_3
    refine lv_iconst (v := 0) hx hb dX11_slot_23 (by decide) ?_
    cases hf
    exact x_zret hx hb hlocks hC hP hS hr (Or.inl rfl) dX11_slot_24
  · have hf := g_neg hf hc_3
    refine lv_iload_n hx hb dX11_slot_11 rfl (lv_at hl 2 rfl) ?_
    refine lv_iconst (v := (-1)) hx hb dX11_slot_12 (by decide) ?_
    refine lv_icmp_eq (tgt := 25) hx hb dX11_slot_13 (by decide) (fun hc_4 => ?_) (fun hc_4 => ?_)
    · have hf := g_pos hf hc_4
      refine lv_aload_n hx hb dX11_slot_25 rfl (lv_at hl 0 rfl) ?_
      refine gt_11_0 hx hb hts hown hC hP Nat.zero_lt_one q1_16 dX11_slot_26 ?_
      refine gt_10_0 hx hb hts hown hC hP Nat.zero_lt_one q13_21 dX11_slot_29 ?_
      refine lv_iload_n hx hb dX11_slot_32 rfl (lv_at hl 1 rfl) ?_
      refine lv_iload_n hx hb dX11_slot_33 rfl (lv_at hl 2 rfl) ?_
      obtain ⟨hg_5, hf⟩ := g_gd hf
      obtain ⟨X_6, eX_6, hf⟩ := g_letE hf
      refine xistX (k := 34) (n := 16) hx hb hC hP hS (fun _ _ => rfl) rfl Nat.zero_lt_one hg_5 dX11_slot_34 (fun H locs hP hS => ?_)
      rw [eX_6] at hP
      refine lv_iconst (v := 1) hx hb dX11_slot_35 (by decide) ?_
      cases hf
      exact x_zret hx hb hlocks hC hP hS hr (Or.inr rfl) dX11_slot_36
    · have hf := g_neg hf hc_4
      refine lv_iload_n hx hb dX11_slot_16 rfl (lv_at hl 2 rfl) ?_
      obtain ⟨r_7, hc_8, hf⟩ := g_letE hf
      refine x_calli (v := (X, M, τ)) (va_runS (As := [.int x2]) (rest := []) ⟨hx, hb, hml, hown, hts⟩ (ct_X11_isThread l G X M τ x2 hc_8) (cwS 1 hts gd_X11_56 rfl rfl rfl hd_X11_isThread ⟨Nat.le_of_ble_eq_true rfl, Nat.le_of_ble_eq_true rfl⟩) (x_pre (u := (X, M, τ)) hC hS hP) rfl rfl hl.1 rfl (lv_room (Nat.le_of_ble_eq_true rfl)) dX11_slot_17 ⟨Nat.zero_le _, Nat.zero_le _⟩) hS (fun H locs hP hS => ?_)
      refine lv_if_ne (tgt := 25) hx hb dX11_slot_20 (by decide) (fun hc_9 => ?_) (fun hc_9 => ?_)
      · have hf := g_neg hf hc_9
        refine lv_aload_n hx hb dX11_slot_25 rfl (lv_at hl 0 rfl) ?_
        refine gt_11_0 hx hb hts hown hC hP Nat.zero_lt_one q1_16 dX11_slot_26 ?_
        refine gt_10_0 hx hb hts hown hC hP Nat.zero_lt_one q13_21 dX11_slot_29 ?_
        refine lv_iload_n hx hb dX11_slot_32 rfl (lv_at hl 1 rfl) ?_
        refine lv_iload_n hx hb dX11_slot_33 rfl (lv_at hl 2 rfl) ?_
        obtain ⟨hg_10, hf⟩ := g_gd hf
        obtain ⟨X_11, eX_11, hf⟩ := g_letE hf
        refine xistX (k := 34) (n := 16) hx hb hC hP hS (fun _ _ => rfl) rfl Nat.zero_lt_one hg_10 dX11_slot_34 (fun H locs hP hS => ?_)
        rw [eX_11] at hP
        refine lv_iconst (v := 1) hx hb dX11_slot_35 (by decide) ?_
        cases hf
        exact x_zret hx hb hlocks hC hP hS hr (Or.inr rfl) dX11_slot_36
      · have hf := g_pos hf hc_9
        refine lv_iconst (v := 0) hx hb dX11_slot_23 (by decide) ?_
        cases hf
        exact x_zret hx hb hlocks hC hP hS hr (Or.inl rfl) dX11_slot_24
set_option maxRecDepth 100000 in
set_option maxHeartbeats 4000000 in
theorem ct_X11_slot (l : Launch) (G : GP) (X M : SM) (τ : SL) (x1 : Int32) (x2 : Int32) {r0 : Int32} {X0 : SM} (hf : fn_X11_slot x1 x2 X = some (r0, X0)) : Met l yX11_slot (wz yX11_slot cX11_slot 3 (some .boolean)) rm_X11_slot (va_Pc [.ref (G.2.1 11 0), .int x1, .int x2] (g_pw G (X, M, τ))) (va_Qi (fun r u => r = r0 ∧ u = (X0, M, τ)) (g_pw G) (g_A G)) 0 0 (g_A G) := by
  refine Met.ofW (cc := cX11_slot) (maxL := 3) (ret := (some .boolean)) (by decide +kernel) rfl ?_
  intro p e s m args below meth c s₁ B hml hv
  obtain ⟨rfl, hC, hP⟩ := hv
  have C0 : g_mc p s m _ meth c RX11 cX11_slot (some .boolean) 3 G := ⟨B.exec, B.bytes, B.returns, hml, findClass_of_methodNamed B.named, fun w h => atoms_spec (ws := wz yX11_slot cX11_slot 3 (some .boolean)) B.pre w (List.mem_cons_of_mem _ h), B.notSynchronized, hC⟩
  have hl := lv_entry ([.ref (G.2.1 11 0), .int x1, .int x2]) (n := 3) (Nat.le_of_ble_eq_true rfl)
  rw [lg_entry_eq]
  generalize (lg_sl ([.ref (G.2.1 11 0), .int x1, .int x2]) ++ List.replicate (3 - (lg_sl ([.ref (G.2.1 11 0), .int x1, .int x2])).length) Slot.unset).toArray = ls at hl ⊢
  exact wk_X11_slot C0  x1 x2 X hf hP va_S.rf hl
abbrev rm_X11_slots : Room := { frames := 1, cells := 0, slots := 0, locals := 23 }
def fn_X11_slots (x1 : Int32) (X : SM) : Option (Int32 × SM) :=
  if x1 < 1 then
  (some ((-1), X))
  else
  (if x1 ≤ 16 then
    ((fn_X10_resize x1 X).bind fun (r_3, X_4) =>
      some (r_3, X_4))
    else
    (some ((-1), X)))
set_option maxRecDepth 100000 in
set_option maxHeartbeats 4000000 in
theorem wk_X11_slots {p : Program} {l : Launch} {e : Env} {s : State} {m : MethodId} {args : Array Value} {below : List Frame} {meth : Method} {c : Code} {G : GP} {M : SM} {τ : SL} (C0 : g_mc p s m args meth c RX11 cX11_slots (some .int) 2 G) {r0 : Int32} {X0 : SM} (x1 : Int32) (X : SM) (hf : fn_X11_slots x1 X = some (r0, X0)) {H : Heap} {locs : List Loc} (hP : va_P G.1 g_cl (wd G (cb X M) τ) H) (hS : va_S (g_A G) s.heap H locs) {ls : Array Slot} (hl : lv_has ls 2 [(0, .ref (G.2.1 11 0)), (1, .int x1)]) : W p l e rm_X11_slots s m args below meth c H locs 0 0 (MQ below (va_Qi (fun r u => r = r0 ∧ u = (X0, M, τ)) (g_pw G) (g_A G)) args s 0 0 (g_A G)) (F0 m 0 ls []) := by
  obtain ⟨hx, hb, hr, hml, hown, hts, hlocks, hC⟩ := id C0
  unfold fn_X11_slots at hf
  refine lv_iload_n hx hb dX11_slots_0 rfl (lv_at hl 1 rfl) ?_
  refine lv_iconst (v := 1) hx hb dX11_slots_1 (by decide) ?_
  refine lv_icmp_lt (tgt := 11) hx hb dX11_slots_2 (by decide) (fun hc_1 => ?_) (fun hc_1 => ?_)
  · have hf := g_pos hf hc_1
    refine lv_iconst (v := (-1)) hx hb dX11_slots_11 (by decide) ?_
    refine lv_goto (tgt := 23) hx hb dX11_slots_12 (by decide) ?_
    cases hf
    exact x_iret hx hb hlocks hC hP hS hr dX11_slots_23
  · have hf := g_neg hf hc_1
    refine lv_iload_n hx hb dX11_slots_5 rfl (lv_at hl 1 rfl) ?_
    refine lv_bipush (v := 16) hx hb dX11_slots_6 (by decide) ?_
    refine lv_icmp_le (tgt := 15) hx hb dX11_slots_8 (by decide) (fun hc_2 => ?_) (fun hc_2 => ?_)
    · have hf := g_pos hf hc_2
      refine lv_aload_n hx hb dX11_slots_15 rfl (lv_at hl 0 rfl) ?_
      refine gt_11_0 hx hb hts hown hC hP Nat.zero_lt_one q1_16 dX11_slots_16 ?_
      refine lv_iload_n hx hb dX11_slots_19 rfl (lv_at hl 1 rfl) ?_
      obtain ⟨⟨r_3, X_4⟩, hc_5, hf⟩ := g_bindE hf
      refine x_calli (v := (X_4, M, τ)) (va_runV (As := [.int x1]) (rest := []) ⟨hx, hb, hml, hown, hts⟩ (ct_X10_resize l G X M τ x1 hc_5) (cwV 1 hts gd_X11_121 rfl rfl rfl hd_X10_resize ⟨Nat.le_of_ble_eq_true rfl, Nat.le_of_ble_eq_true rfl⟩) (x_preV (u := (X, M, τ)) (k := 10) (ci := 10) hC hS hP Nat.zero_lt_one rfl rfl) rfl rfl hl.1 rfl (lv_room (Nat.le_of_ble_eq_true rfl)) dX11_slots_20 ⟨Nat.zero_le _, Nat.zero_le _⟩) hS (fun H locs hP hS => ?_)
      cases hf
      exact x_iret hx hb hlocks hC hP hS hr dX11_slots_23
    · have hf := g_neg hf hc_2
      refine lv_iconst (v := (-1)) hx hb dX11_slots_11 (by decide) ?_
      refine lv_goto (tgt := 23) hx hb dX11_slots_12 (by decide) ?_
      cases hf
      exact x_iret hx hb hlocks hC hP hS hr dX11_slots_23
set_option maxRecDepth 100000 in
set_option maxHeartbeats 4000000 in
theorem ct_X11_slots (l : Launch) (G : GP) (X M : SM) (τ : SL) (x1 : Int32) {r0 : Int32} {X0 : SM} (hf : fn_X11_slots x1 X = some (r0, X0)) : Met l yX11_slots (wz yX11_slots cX11_slots 2 (some .int)) rm_X11_slots (va_Pc [.ref (G.2.1 11 0), .int x1] (g_pw G (X, M, τ))) (va_Qi (fun r u => r = r0 ∧ u = (X0, M, τ)) (g_pw G) (g_A G)) 0 0 (g_A G) := by
  refine Met.ofW (cc := cX11_slots) (maxL := 2) (ret := (some .int)) (by decide +kernel) rfl ?_
  intro p e s m args below meth c s₁ B hml hv
  obtain ⟨rfl, hC, hP⟩ := hv
  have C0 : g_mc p s m _ meth c RX11 cX11_slots (some .int) 2 G := ⟨B.exec, B.bytes, B.returns, hml, findClass_of_methodNamed B.named, fun w h => atoms_spec (ws := wz yX11_slots cX11_slots 2 (some .int)) B.pre w (List.mem_cons_of_mem _ h), B.notSynchronized, hC⟩
  have hl := lv_entry ([.ref (G.2.1 11 0), .int x1]) (n := 2) (Nat.le_of_ble_eq_true rfl)
  rw [lg_entry_eq]
  generalize (lg_sl ([.ref (G.2.1 11 0), .int x1]) ++ List.replicate (2 - (lg_sl ([.ref (G.2.1 11 0), .int x1])).length) Slot.unset).toArray = ls at hl ⊢
  exact wk_X11_slots C0  x1 X hf hP va_S.rf hl
abbrev rm_X11_span : Room := { frames := 4, cells := 0, slots := 0, locals := 97 }
def fn_X11_span (x1 : Int32) (x2 : Int32) (x3 : Int32) (X : SM) : Option (Int32) :=
  g_let (fn_X11_isThread x1) fun r_1 =>
  if r_1 = 0 then
  (some (-1))
  else
  (if x3 < 0 then
    (some (-1))
    else
    (if x3 ≤ 1 then
      (if x3 = 1 then
        ((fn_X10_ticksOf x1 x2 1 X).bind fun r_9 =>
          some r_9)
        else
        ((fn_X10_ticksOf x1 x2 0 X).bind fun r_7 =>
          some r_7))
      else
      (some (-1))))
set_option maxRecDepth 100000 in
set_option maxHeartbeats 4000000 in
theorem wk_X11_span {p : Program} {l : Launch} {e : Env} {s : State} {m : MethodId} {args : Array Value} {below : List Frame} {meth : Method} {c : Code} {G : GP} {M : SM} {τ : SL} (C0 : g_mc p s m args meth c RX11 cX11_span (some .int) 4 G) {r0 : Int32} (x1 : Int32) (x2 : Int32) (x3 : Int32) (X : SM) (hf : fn_X11_span x1 x2 x3 X = some r0) {H : Heap} {locs : List Loc} (hP : va_P G.1 g_cl (wd G (cb X M) τ) H) (hS : va_S (g_A G) s.heap H locs) {ls : Array Slot} (hl : lv_has ls 4 [(0, .ref (G.2.1 11 0)), (1, .int x1), (2, .int x2), (3, .int x3)]) : W p l e rm_X11_span s m args below meth c H locs 0 0 (MQ below (va_Qi (fun r u => r = r0 ∧ u = (X, M, τ)) (g_pw G) (g_A G)) args s 0 0 (g_A G)) (F0 m 0 ls []) := by
  obtain ⟨hx, hb, hr, hml, hown, hts, hlocks, hC⟩ := id C0
  unfold fn_X11_span at hf
  refine lv_iload_n hx hb dX11_span_0 rfl (lv_at hl 1 rfl) ?_
  obtain ⟨r_1, hc_2, hf⟩ := g_letE hf
  refine x_calli (v := (X, M, τ)) (va_runS (As := [.int x1]) (rest := []) ⟨hx, hb, hml, hown, hts⟩ (ct_X11_isThread l G X M τ x1 hc_2) (cwS 1 hts gd_X11_56 rfl rfl rfl hd_X11_isThread ⟨Nat.le_of_ble_eq_true rfl, Nat.le_of_ble_eq_true rfl⟩) (x_pre (u := (X, M, τ)) hC hS hP) rfl rfl hl.1 rfl (lv_room (Nat.le_of_ble_eq_true rfl)) dX11_span_1 ⟨Nat.zero_le _, Nat.zero_le _⟩) hS (fun H locs hP hS => ?_)
  refine lv_if_eq (tgt := 16) hx hb dX11_span_4 (by decide) (fun hc_3 => ?_) (fun hc_3 => ?_)
  · have hf := g_pos hf hc_3
    refine lv_iconst (v := (-1)) hx hb dX11_span_16 (by decide) ?_
    cases hf
    exact x_iret hx hb hlocks hC hP hS hr dX11_span_17
  · have hf := g_neg hf hc_3
    refine lv_iload_n hx hb dX11_span_7 rfl (lv_at hl 3 rfl) ?_
    refine lv_if_lt (tgt := 16) hx hb dX11_span_8 (by decide) (fun hc_4 => ?_) (fun hc_4 => ?_)
    · have hf := g_pos hf hc_4
      refine lv_iconst (v := (-1)) hx hb dX11_span_16 (by decide) ?_
      cases hf
      exact x_iret hx hb hlocks hC hP hS hr dX11_span_17
    · have hf := g_neg hf hc_4
      refine lv_iload_n hx hb dX11_span_11 rfl (lv_at hl 3 rfl) ?_
      refine lv_iconst (v := 1) hx hb dX11_span_12 (by decide) ?_
      refine lv_icmp_le (tgt := 18) hx hb dX11_span_13 (by decide) (fun hc_5 => ?_) (fun hc_5 => ?_)
      · have hf := g_pos hf hc_5
        refine lv_aload_n hx hb dX11_span_18 rfl (lv_at hl 0 rfl) ?_
        refine gt_11_0 hx hb hts hown hC hP Nat.zero_lt_one q1_16 dX11_span_19 ?_
        refine lv_iload_n hx hb dX11_span_22 rfl (lv_at hl 1 rfl) ?_
        refine lv_iload_n hx hb dX11_span_23 rfl (lv_at hl 2 rfl) ?_
        refine lv_iload_n hx hb dX11_span_24 rfl (lv_at hl 3 rfl) ?_
        refine lv_iconst (v := 1) hx hb dX11_span_25 (by decide) ?_
        refine lv_icmp_ne (tgt := 33) hx hb dX11_span_26 (by decide) (fun hc_6 => ?_) (fun hc_6 => ?_)
        · have hf := g_neg hf hc_6
          refine lv_iconst (v := 0) hx hb dX11_span_33 (by decide) ?_
          obtain ⟨r_7, hc_8, hf⟩ := g_bindE hf
          refine x_calli (v := (X, M, τ)) (va_runV (As := [.int x1, .int x2, .int 0]) (rest := []) ⟨hx, hb, hml, hown, hts⟩ (ct_X10_ticksOf l G X M τ x1 x2 0 hc_8) (cwV 3 hts gd_X11_245 rfl rfl rfl hd_X10_ticksOf ⟨Nat.le_of_ble_eq_true rfl, Nat.le_of_ble_eq_true rfl⟩) (x_preV (u := (X, M, τ)) (k := 10) (ci := 10) hC hS hP Nat.zero_lt_one rfl rfl) rfl rfl hl.1 rfl (lv_room (Nat.le_of_ble_eq_true rfl)) dX11_span_34 ⟨Nat.zero_le _, Nat.zero_le _⟩) hS (fun H locs hP hS => ?_)
          cases hf
          exact x_iret hx hb hlocks hC hP hS hr dX11_span_37
        · have hf := g_pos hf hc_6
          refine lv_iconst (v := 1) hx hb dX11_span_29 (by decide) ?_
          refine lv_goto (tgt := 34) hx hb dX11_span_30 (by decide) ?_
          obtain ⟨r_9, hc_10, hf⟩ := g_bindE hf
          refine x_calli (v := (X, M, τ)) (va_runV (As := [.int x1, .int x2, .int 1]) (rest := []) ⟨hx, hb, hml, hown, hts⟩ (ct_X10_ticksOf l G X M τ x1 x2 1 hc_10) (cwV 3 hts gd_X11_245 rfl rfl rfl hd_X10_ticksOf ⟨Nat.le_of_ble_eq_true rfl, Nat.le_of_ble_eq_true rfl⟩) (x_preV (u := (X, M, τ)) (k := 10) (ci := 10) hC hS hP Nat.zero_lt_one rfl rfl) rfl rfl hl.1 rfl (lv_room (Nat.le_of_ble_eq_true rfl)) dX11_span_34 ⟨Nat.zero_le _, Nat.zero_le _⟩) hS (fun H locs hP hS => ?_)
          cases hf
          exact x_iret hx hb hlocks hC hP hS hr dX11_span_37
      · have hf := g_neg hf hc_5
        refine lv_iconst (v := (-1)) hx hb dX11_span_16 (by decide) ?_
        cases hf
        exact x_iret hx hb hlocks hC hP hS hr dX11_span_17
set_option maxRecDepth 100000 in
set_option maxHeartbeats 4000000 in
theorem ct_X11_span (l : Launch) (G : GP) (X M : SM) (τ : SL) (x1 : Int32) (x2 : Int32) (x3 : Int32) {r0 : Int32} (hf : fn_X11_span x1 x2 x3 X = some r0) : Met l yX11_span (wz yX11_span cX11_span 4 (some .int)) rm_X11_span (va_Pc [.ref (G.2.1 11 0), .int x1, .int x2, .int x3] (g_pw G (X, M, τ))) (va_Qi (fun r u => r = r0 ∧ u = (X, M, τ)) (g_pw G) (g_A G)) 0 0 (g_A G) := by
  refine Met.ofW (cc := cX11_span) (maxL := 4) (ret := (some .int)) (by decide +kernel) rfl ?_
  intro p e s m args below meth c s₁ B hml hv
  obtain ⟨rfl, hC, hP⟩ := hv
  have C0 : g_mc p s m _ meth c RX11 cX11_span (some .int) 4 G := ⟨B.exec, B.bytes, B.returns, hml, findClass_of_methodNamed B.named, fun w h => atoms_spec (ws := wz yX11_span cX11_span 4 (some .int)) B.pre w (List.mem_cons_of_mem _ h), B.notSynchronized, hC⟩
  have hl := lv_entry ([.ref (G.2.1 11 0), .int x1, .int x2, .int x3]) (n := 4) (Nat.le_of_ble_eq_true rfl)
  rw [lg_entry_eq]
  generalize (lg_sl ([.ref (G.2.1 11 0), .int x1, .int x2, .int x3]) ++ List.replicate (4 - (lg_sl ([.ref (G.2.1 11 0), .int x1, .int x2, .int x3])).length) Slot.unset).toArray = ls at hl ⊢
  exact wk_X11_span C0  x1 x2 x3 X hf hP va_S.rf hl
abbrev rm_X9_reset : Room := { frames := 2, cells := 0, slots := 0, locals := 43 }
def fn_X9_reset (t0 : Nat) (X : SM) : SM :=
  g_let (uf X 31 t0 8 0) fun X_1 =>
  g_let (uf X_1 32 t0 16 0) fun X_2 =>
  g_let (fn_X9_rewind t0 X_2) fun X_3 =>
  g_let (u1 X_3 9 t0 11 0) fun X_5 =>
  g_let (u1 X_5 9 t0 12 0) fun X_6 =>
  g_let (u1 X_6 9 t0 13 0) fun X_7 =>
  g_let (u1 X_7 9 t0 14 0) fun X_8 =>
  X_8
set_option maxRecDepth 100000 in
set_option maxHeartbeats 4000000 in
theorem wk_X9_reset {p : Program} {l : Launch} {e : Env} {s : State} {m : MethodId} {args : Array Value} {below : List Frame} {meth : Method} {c : Code} {G : GP} {M : SM} {τ : SL} (C0 : g_mc p s m args meth c RX9 cX9_reset none 1 G) {X0 : SM} (t0 : Nat) (ht0 : t0 < 12) (X : SM) (hf : fn_X9_reset t0 X = X0) {H : Heap} {locs : List Loc} (hP : va_P G.1 g_cl (wd G (cb X M) τ) H) (hS : va_S (g_A G) s.heap H locs) {ls : Array Slot} (hl : lv_has ls 1 [(0, .ref (G.2.1 9 t0))]) : W p l e rm_X9_reset s m args below meth c H locs 0 0 (MQ below (va_Qv (fun u => u = (X0, M, τ)) (g_pw G) (g_A G)) args s 0 0 (g_A G)) (F0 m 0 ls []) := by
  obtain ⟨hx, hb, hr, hml, hown, hts, hlocks, hC⟩ := id C0
  unfold fn_X9_reset at hf
  refine lv_aload_n hx hb dX9_reset_0 rfl (lv_at hl 0 rfl) ?_
  refine gt_9_3 hx hb hts hown hC hP ht0 q5_9 dX9_reset_1 ?_
  refine lv_iconst (v := 0) hx hb dX9_reset_4 (by decide) ?_
  obtain ⟨X_1, eX_1, hf⟩ := g_letE hf
  refine x_fillX (k := 31) (n := 8) (rest := []) hx hb hml hown hts hC hP hS (fun _ _ => rfl) rfl (by decide) ht0 q10_8 hl.1 (lv_room (Nat.le_of_ble_eq_true rfl)) dX9_reset_5 ⟨Nat.le_of_ble_eq_true rfl, Nat.le_of_ble_eq_true rfl⟩ ⟨Nat.zero_le _, Nat.zero_le _⟩ (fun H locs hP hS => ?_)
  rw [eX_1] at hP
  refine lv_aload_n hx hb dX9_reset_8 rfl (lv_at hl 0 rfl) ?_
  refine gt_9_4 hx hb hts hown hC hP ht0 q5_10 dX9_reset_9 ?_
  refine lv_iconst (v := 0) hx hb dX9_reset_12 (by decide) ?_
  obtain ⟨X_2, eX_2, hf⟩ := g_letE hf
  refine x_fillX (k := 32) (n := 16) (rest := []) hx hb hml hown hts hC hP hS (fun _ _ => rfl) rfl (by decide) ht0 q10_8 hl.1 (lv_room (Nat.le_of_ble_eq_true rfl)) dX9_reset_13 ⟨Nat.le_of_ble_eq_true rfl, Nat.le_of_ble_eq_true rfl⟩ ⟨Nat.zero_le _, Nat.zero_le _⟩ (fun H locs hP hS => ?_)
  rw [eX_2] at hP
  refine lv_aload_n hx hb dX9_reset_16 rfl (lv_at hl 0 rfl) ?_
  obtain ⟨X_3, hc_4, hf⟩ := g_letE hf
  refine x_callv (v := (X_3, M, τ)) (va_runV (As := []) (rest := []) ⟨hx, hb, hml, hown, hts⟩ (ct_X9_rewind l G X_2 M τ t0 ht0 hc_4) (cwV 0 hts gd_X9_95 rfl rfl rfl hd_X9_rewind ⟨Nat.le_of_ble_eq_true rfl, Nat.le_of_ble_eq_true rfl⟩) (x_preV (u := (X_2, M, τ)) (k := 9) (ci := 9) hC hS hP ht0 rfl rfl) rfl rfl hl.1 rfl (lv_room (Nat.le_of_ble_eq_true rfl)) dX9_reset_17 ⟨Nat.zero_le _, Nat.zero_le _⟩) hS (fun H locs hP hS => ?_)
  refine lv_aload_n hx hb dX9_reset_20 rfl (lv_at hl 0 rfl) ?_
  refine lv_iconst (v := 0) hx hb dX9_reset_21 (by decide) ?_
  obtain ⟨X_5, eX_5, hf⟩ := g_letE hf
  refine pt_9_11 hx hb hts hown hC hP hS ht0 q18_0 dX9_reset_22 (fun H locs hP hS => ?_)
  rw [eX_5] at hP
  refine lv_aload_n hx hb dX9_reset_25 rfl (lv_at hl 0 rfl) ?_
  refine lv_iconst (v := 0) hx hb dX9_reset_26 (by decide) ?_
  obtain ⟨X_6, eX_6, hf⟩ := g_letE hf
  refine pt_9_12 hx hb hts hown hC hP hS ht0 q18_1 dX9_reset_27 (fun H locs hP hS => ?_)
  rw [eX_6] at hP
  refine lv_aload_n hx hb dX9_reset_30 rfl (lv_at hl 0 rfl) ?_
  refine lv_iconst (v := 0) hx hb dX9_reset_31 (by decide) ?_
  obtain ⟨X_7, eX_7, hf⟩ := g_letE hf
  refine pt_9_13 hx hb hts hown hC hP hS ht0 q18_2 dX9_reset_32 (fun H locs hP hS => ?_)
  rw [eX_7] at hP
  refine lv_aload_n hx hb dX9_reset_35 rfl (lv_at hl 0 rfl) ?_
  refine lv_iconst (v := 0) hx hb dX9_reset_36 (by decide) ?_
  obtain ⟨X_8, eX_8, hf⟩ := g_letE hf
  refine pt_9_14 hx hb hts hown hC hP hS ht0 q18_3 dX9_reset_37 (fun H locs hP hS => ?_)
  rw [eX_8] at hP
  cases hf
  exact x_vret hx hb hlocks hC hP hS hr dX9_reset_40
set_option maxRecDepth 100000 in
set_option maxHeartbeats 4000000 in
theorem ct_X9_reset (l : Launch) (G : GP) (X M : SM) (τ : SL) (t0 : Nat) (ht0 : t0 < 12) {X0 : SM} (hf : fn_X9_reset t0 X = X0) : Met l yX9_reset (wz yX9_reset cX9_reset 1 none) rm_X9_reset (va_Pc [.ref (G.2.1 9 t0)] (g_pw G (X, M, τ))) (va_Qv (fun u => u = (X0, M, τ)) (g_pw G) (g_A G)) 0 0 (g_A G) := by
  refine Met.ofW (cc := cX9_reset) (maxL := 1) (ret := none) (by decide +kernel) rfl ?_
  intro p e s m args below meth c s₁ B hml hv
  obtain ⟨rfl, hC, hP⟩ := hv
  have C0 : g_mc p s m _ meth c RX9 cX9_reset none 1 G := ⟨B.exec, B.bytes, B.returns, hml, findClass_of_methodNamed B.named, fun w h => atoms_spec (ws := wz yX9_reset cX9_reset 1 none) B.pre w (List.mem_cons_of_mem _ h), B.notSynchronized, hC⟩
  have hl := lv_entry ([.ref (G.2.1 9 t0)]) (n := 1) (Nat.le_of_ble_eq_true rfl)
  rw [lg_entry_eq]
  generalize (lg_sl ([.ref (G.2.1 9 t0)]) ++ List.replicate (1 - (lg_sl ([.ref (G.2.1 9 t0)])).length) Slot.unset).toArray = ls at hl ⊢
  exact wk_X9_reset C0  t0 ht0 X hf hP va_S.rf hl
