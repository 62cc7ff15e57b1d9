abbrev rm_X11_cell : Room := { frames := 8, cells := 1, slots := 6, locals := 120 }
def fn_X11_cell (x1 : Int32) (x2 : Int32) (X : SM) : Option (Option Int32) :=
  g_let (fn_X11_isThread x1) fun r_1 =>
  if r_1 = 0 then
  (some none)
  else
  (if g_in x1 6 then
    g_let (fn_X9_hasCell (6 * 0 + (x1.toNatClampNeg)) x2 X) fun r_6 =>
    if r_6 = 0 then
    (some none)
    else
    (if g_in x1 6 then
      if g_in x2 16 then
      some (some (X 32 (6 * 0 + (x1.toNatClampNeg)) (x2.toNatClampNeg)))
      else none
      else none)
    else none)
set_option maxRecDepth 100000 in
set_option maxHeartbeats 4000000 in
theorem wk_X11_cell {p : Program} {l : Launch} {e : Env} {s : State} {m : MethodId} {args : Array Value} {below : List Frame} {meth : Method} {c : Code} {G : GP} {M : SM} {τ : SL} (C0 : g_mc p s m args meth c RX11 cX11_cell (some .int) 3 G) (hno : ∀ x ∈ c.exceptionTable.toList, False) (hlt : l.stackTraces = false) {r0 : Option Int32} (x1 : Int32) (x2 : Int32) (X : SM) (hf : fn_X11_cell x1 x2 X = some r0) {H : Heap} {locs : List Loc} (hP : va_P G.1 g_cl (wd G (cb X M) τ) H) (hS : va_S (g_A G) s.heap H locs) {ls : Array Slot} (hl : lv_has ls 3 [(0, .ref (G.2.1 11 0)), (1, .int x1), (2, .int x2)]) : W p l e rm_X11_cell s m args below meth c H locs 0 0 (vx_MQ below (va_Qi (fun r u => r0 = some r ∧ u = (X, M, τ)) (g_pw G) (g_A G)) (vx_X (fun u => r0 = none ∧ u = (X, M, τ)) (fun E u t => E = "java/util/NoSuchElementException" ∧ va_P G.1 g_cl (wd G (cb u.1 u.2.1) u.2.2) t.heap) (g_A G)) args s 1 6 (g_A G)) (F0 m 0 ls []) := by
  obtain ⟨hx, hb, hr, hml, hown, hts, hlocks, hC⟩ := id C0
  unfold fn_X11_cell at hf
  refine lv_iload_n hx hb dX11_cell_0 rfl (lv_at hl 1 rfl) ?_
  obtain ⟨r_1, hc_2, hf⟩ := g_letE hf
  refine x_calli (v := (X, M, τ)) (va_runS (As := [.int x1]) (rest := []) ⟨hx, hb, hml, hown, hts⟩ (ct_X11_isThread l G X M τ x1 hc_2) (cwS 1 hts gd_X11_56 rfl rfl rfl hd_X11_isThread ⟨Nat.le_of_ble_eq_true rfl, Nat.le_of_ble_eq_true rfl⟩) (x_pre (u := (X, M, τ)) hC hS hP) rfl rfl hl.1 rfl (lv_room (Nat.le_of_ble_eq_true rfl)) dX11_cell_1 ⟨Nat.zero_le _, Nat.zero_le _⟩) hS (fun H locs hP hS => ?_)
  refine lv_if_eq (tgt := 23) hx hb dX11_cell_4 (by decide) (fun hc_3 => ?_) (fun hc_3 => ?_)
  · have hf := g_pos hf hc_3
    cases hf
    exact x_throw hx hb hlt hown hts hC hP hS (hl.1.trans hml.symm) dX11_cell_23 dX11_cell_26 dX11_cell_27 dX11_cell_30 hno (Nat.le_of_ble_eq_true rfl) (Nat.le_of_ble_eq_true rfl) hlocks
  · have hf := g_neg hf hc_3
    refine lv_aload_n hx hb dX11_cell_7 rfl (lv_at hl 0 rfl) ?_
    refine gt_11_2 hx hb hts hown hC hP Nat.zero_lt_one q2_0 dX11_cell_8 ?_
    refine gt_7_0 hx hb hts hown hC hP (by decide) q7_21 dX11_cell_11 ?_
    refine lv_iload_n hx hb dX11_cell_14 rfl (lv_at hl 1 rfl) ?_
    obtain ⟨hg_4, hf⟩ := g_gd hf
    have hq_5 : 6 * 0 + (x1.toNatClampNeg) < 12 := by have h8 := g_in_lt (n := 6) hg_4; have h9 : 0 < 2 := (by decide); omega
    refine xaldS hx hb hC hP (by decide) hg_4 dX11_cell_15 ?_
    refine lv_iload_n hx hb dX11_cell_16 rfl (lv_at hl 2 rfl) ?_
    obtain ⟨r_6, hc_7, hf⟩ := g_letE hf
    refine x_calli (v := (X, M, τ)) (va_runV (As := [.int x2]) (rest := []) ⟨hx, hb, hml, hown, hts⟩ (ct_X9_hasCell l G X M τ (6 * 0 + (x1.toNatClampNeg)) hq_5 x2 hc_7) (cwV 1 hts gd_X11_154 rfl rfl rfl hd_X9_hasCell ⟨Nat.le_of_ble_eq_true rfl, Nat.le_of_ble_eq_true rfl⟩) (x_preV (u := (X, M, τ)) (k := 9) (ci := 9) hC hS hP hq_5 rfl rfl) rfl rfl hl.1 rfl (lv_room (Nat.le_of_ble_eq_true rfl)) dX11_cell_17 ⟨Nat.zero_le _, Nat.zero_le _⟩) hS (fun H locs hP hS => ?_)
    refine lv_if_ne (tgt := 31) hx hb dX11_cell_20 (by decide) (fun hc_8 => ?_) (fun hc_8 => ?_)
    · have hf := g_neg hf hc_8
      refine lv_aload_n hx hb dX11_cell_31 rfl (lv_at hl 0 rfl) ?_
      refine gt_11_2 hx hb hts hown hC hP Nat.zero_lt_one q2_0 dX11_cell_32 ?_
      refine gt_7_0 hx hb hts hown hC hP (by decide) q7_21 dX11_cell_35 ?_
      refine lv_iload_n hx hb dX11_cell_38 rfl (lv_at hl 1 rfl) ?_
      obtain ⟨hg_9, hf⟩ := g_gd hf
      have hq_10 : 6 * 0 + (x1.toNatClampNeg) < 12 := by have h8 := g_in_lt (n := 6) hg_9; have h9 : 0 < 2 := (by decide); omega
      refine xaldS hx hb hC hP (by decide) hg_9 dX11_cell_39 ?_
      refine gt_9_4 hx hb hts hown hC hP hq_10 q11_2 dX11_cell_40 ?_
      refine lv_iload_n hx hb dX11_cell_43 rfl (lv_at hl 2 rfl) ?_
      obtain ⟨hg_11, hf⟩ := g_gd hf
      refine xildX (k := 32) (n := 16) hx hb hC hP (fun _ _ => rfl) rfl hq_10 hg_11 dX11_cell_44 ?_
      cases hf
      refine W.widen (k := 1) (n := 6) (Nat.zero_le _) (Nat.zero_le _) ?_
      refine vx_ret ?_
      exact x_tret hx hb hlocks hC hP hS hr dX11_cell_45
    · have hf := g_pos hf hc_8
      cases hf
      exact x_throw hx hb hlt hown hts hC hP hS (hl.1.trans hml.symm) dX11_cell_23 dX11_cell_26 dX11_cell_27 dX11_cell_30 hno (Nat.le_of_ble_eq_true rfl) (Nat.le_of_ble_eq_true rfl) hlocks
set_option maxRecDepth 100000 in
set_option maxHeartbeats 4000000 in
theorem ct_X11_cell (l : Launch) (hlt : l.stackTraces = false) (G : GP) (X M : SM) (τ : SL) (x1 : Int32) (x2 : Int32) {r0 : Option Int32} (hf : fn_X11_cell x1 x2 X = some r0) : vx_Met l yX11_cell (wz yX11_cell cX11_cell 3 (some .int)) rm_X11_cell (va_Pc [.ref (G.2.1 11 0), .int x1, .int x2] (g_pw G (X, M, τ))) (va_Qi (fun r u => r0 = some r ∧ u = (X, M, τ)) (g_pw G) (g_A G)) (vx_X (fun u => r0 = none ∧ u = (X, M, τ)) (fun E u t => E = "java/util/NoSuchElementException" ∧ va_P G.1 g_cl (wd G (cb u.1 u.2.1) u.2.2) t.heap) (g_A G)) 1 6 (g_A G) := by
  refine vx_ofW (cc := cX11_cell) (maxL := 3) (ret := (some .int)) (by decide +kernel) rfl ?_
  intro p e s m args below meth c s₁ B hml hno hv
  obtain ⟨rfl, hC, hP⟩ := hv
  have C0 : g_mc p s m _ meth c RX11 cX11_cell (some .int) 3 G := ⟨B.exec, B.bytes, B.returns, hml, findClass_of_methodNamed B.named, fun w h => atoms_spec (ws := wz yX11_cell cX11_cell 3 (some .int)) B.pre w (List.mem_cons_of_mem _ h), B.notSynchronized, hC⟩
  have hl := lv_entry ([.ref (G.2.1 11 0), .int x1, .int x2]) (n := 3) (Nat.le_of_ble_eq_true rfl)
  rw [lg_entry_eq]
  generalize (lg_sl ([.ref (G.2.1 11 0), .int x1, .int x2]) ++ List.replicate (3 - (lg_sl ([.ref (G.2.1 11 0), .int x1, .int x2])).length) Slot.unset).toArray = ls at hl ⊢
  exact wk_X11_cell C0 hno hlt x1 x2 X hf hP va_S.rf hl
abbrev rm_X7_howManyAt : Room := { frames := 2, cells := 0, slots := 0, locals := 44 }
def fn_X7_howManyAt (t0 : Nat) (x1 : Int32) (x2 : Int32) (X : SM) : Option (Int32) :=
  (fn_X7_firstAt t0 x1 x2 X).bind fun r_1 =>
  match r_1 with
  | none =>
  (some 0)
  | some t_3 =>
  (if t_3 < 12 then
    (fn_X0_lengthAt t0 x1 X).bind fun r_5 =>
    some r_5
    else none)
set_option maxRecDepth 100000 in
set_option maxHeartbeats 4000000 in
theorem wk_X7_howManyAt {p : Program} {l : Launch} {e : Env} {s : State} {m : MethodId} {args : Array Value} {below : List Frame} {meth : Method} {c : Code} {G : GP} {M : SM} {τ : SL} (C0 : g_mc p s m args meth c RX7 cX7_howManyAt (some .int) 3 G) {r0 : Int32} (t0 : Nat) (ht0 : t0 < 2) (x1 : Int32) (x2 : Int32) (X : SM) (hf : fn_X7_howManyAt t0 x1 x2 X = some r0) {H : Heap} {locs : List Loc} (hP : va_P G.1 g_cl (wd G (cb X M) τ) H) (hS : va_S (g_A G) s.heap H locs) {ls : Array Slot} (hl : lv_has ls 3 [(0, .ref (G.2.1 7 t0)), (1, .int x1), (2, .int x2)]) : W p l e rm_X7_howManyAt s m args below meth c H locs 0 0 (MQ below (va_Qi (fun r u => r = r0 ∧ u = (X, M, τ)) (g_pw G) (g_A G)) args s 0 0 (g_A G)) (F0 m 0 ls []) := by
  obtain ⟨hx, hb, hr, hml, hown, hts, hlocks, hC⟩ := id C0
  unfold fn_X7_howManyAt at hf
  refine lv_aload_n hx hb dX7_howManyAt_0 rfl (lv_at hl 0 rfl) ?_
  refine lv_iload_n hx hb dX7_howManyAt_1 rfl (lv_at hl 1 rfl) ?_
  refine lv_iload_n hx hb dX7_howManyAt_2 rfl (lv_at hl 2 rfl) ?_
  obtain ⟨r_1, hc_2, hf⟩ := g_bindE hf
  refine x_callq (v := (X, M, τ)) (va_runV (As := [.int x1, .int x2]) (rest := []) ⟨hx, hb, hml, hown, hts⟩ (ct_X7_firstAt l G X M τ t0 ht0 x1 x2 hc_2) (cwV 2 hts gd_X7_241 rfl rfl rfl hd_X7_firstAt ⟨Nat.le_of_ble_eq_true rfl, Nat.le_of_ble_eq_true rfl⟩) (x_preV (u := (X, M, τ)) (k := 7) (ci := 7) hC hS hP ht0 rfl rfl) rfl rfl hl.1 rfl (lv_room (Nat.le_of_ble_eq_true rfl)) dX7_howManyAt_3 ⟨Nat.zero_le _, Nat.zero_le _⟩) hS (fun H locs hP hS => ?_)
  rcases r_1 with _ | t_3
  · refine lv_ifnonnullN hx hb dX7_howManyAt_6 ?_
    refine lv_iconst (v := 0) hx hb dX7_howManyAt_9 (by decide) ?_
    refine lv_goto (tgt := 21) hx hb dX7_howManyAt_10 (by decide) ?_
    cases hf
    exact x_iret hx hb hlocks hC hP hS hr dX7_howManyAt_21
  · obtain ⟨hg_4, hf⟩ := g_gd hf
    refine lv_ifnonnull (tgt := 13) hx hb dX7_howManyAt_6 (by decide) ?_
    refine lv_aload_n hx hb dX7_howManyAt_13 rfl (lv_at hl 0 rfl) ?_
    refine gt_7_2 hx hb hts hown hC hP ht0 q3_18 dX7_howManyAt_14 ?_
    refine lv_iload_n hx hb dX7_howManyAt_17 rfl (lv_at hl 1 rfl) ?_
    obtain ⟨r_5, hc_6, hf⟩ := g_bindE hf
    refine x_calli (v := (X, M, τ)) (va_runV (As := [.int x1]) (rest := []) ⟨hx, hb, hml, hown, hts⟩ (ct_X0_lengthAt l G X M τ t0 ht0 x1 hc_6) (cwV 1 hts gd_X7_260 rfl rfl rfl hd_X0_lengthAt ⟨Nat.le_of_ble_eq_true rfl, Nat.le_of_ble_eq_true rfl⟩) (x_preV (u := (X, M, τ)) (k := 0) (ci := 0) hC hS hP ht0 rfl rfl) rfl rfl hl.1 rfl (lv_room (Nat.le_of_ble_eq_true rfl)) dX7_howManyAt_18 ⟨Nat.zero_le _, Nat.zero_le _⟩) hS (fun H locs hP hS => ?_)
    cases hf
    exact x_iret hx hb hlocks hC hP hS hr dX7_howManyAt_21
set_option maxRecDepth 100000 in
set_option maxHeartbeats 4000000 in
theorem ct_X7_howManyAt (l : Launch) (G : GP) (X M : SM) (τ : SL) (t0 : Nat) (ht0 : t0 < 2) (x1 : Int32) (x2 : Int32) {r0 : Int32} (hf : fn_X7_howManyAt t0 x1 x2 X = some r0) : Met l yX7_howManyAt (wz yX7_howManyAt cX7_howManyAt 3 (some .int)) rm_X7_howManyAt (va_Pc [.ref (G.2.1 7 t0), .int x1, .int x2] (g_pw G (X, M, τ))) (va_Qi (fun r u => r = r0 ∧ u = (X, M, τ)) (g_pw G) (g_A G)) 0 0 (g_A G) := by
  refine Met.ofW (cc := cX7_howManyAt) (maxL := 3) (ret := (some .int)) (by decide +kernel) rfl ?_
  intro p e s m args below meth c s₁ B hml hv
  obtain ⟨rfl, hC, hP⟩ := hv
  have C0 : g_mc p s m _ meth c RX7 cX7_howManyAt (some .int) 3 G := ⟨B.exec, B.bytes, B.returns, hml, findClass_of_methodNamed B.named, fun w h => atoms_spec (ws := wz yX7_howManyAt cX7_howManyAt 3 (some .int)) B.pre w (List.mem_cons_of_mem _ h), B.notSynchronized, hC⟩
  have hl := lv_entry ([.ref (G.2.1 7 t0), .int x1, .int x2]) (n := 3) (Nat.le_of_ble_eq_true rfl)
  rw [lg_entry_eq]
  generalize (lg_sl ([.ref (G.2.1 7 t0), .int x1, .int x2]) ++ List.replicate (3 - (lg_sl ([.ref (G.2.1 7 t0), .int x1, .int x2])).length) Slot.unset).toArray = ls at hl ⊢
  exact wk_X7_howManyAt C0  t0 ht0 x1 x2 X hf hP va_S.rf hl
abbrev rm_X11_channel : Room := { frames := 3, cells := 0, slots := 0, locals := 66 }
def fn_X11_channel (x1 : Int32) (x2 : Int32) (X : SM) : Option (Int32) :=
  if x1 < 0 then
  (some (-1))
  else
  (if x1 < 4 then
    (if x2 = 0 then
      ((fn_X7_howManyAt 0 x1 2 X).bind fun r_7 =>
        some r_7)
      else
      (if x2 = 1 then
        ((fn_X7_howManyAt 0 x1 3 X).bind fun r_5 =>
          some r_5)
        else
        (if x2 = 2 then
          ((fn_X0_firstAt 0 x1 X).bind fun r_3 =>
            some r_3)
          else
          (some (-1)))))
    else
    (some (-1)))
set_option maxRecDepth 100000 in
set_option maxHeartbeats 4000000 in
theorem wk_X11_channel {p : Program} {l : Launch} {e : Env} {s : State} {m : MethodId} {args : Array Value} {below : List Frame} {meth : Method} {c : Code} {G : GP} {M : SM} {τ : SL} (C0 : g_mc p s m args meth c RX11 cX11_channel (some .int) 3 G) {r0 : Int32} (x1 : Int32) (x2 : Int32) (X : SM) (hf : fn_X11_channel x1 x2 X = some r0) {H : Heap} {locs : List Loc} (hP : va_P G.1 g_cl (wd G (cb X M) τ) H) (hS : va_S (g_A G) s.heap H locs) {ls : Array Slot} (hl : lv_has ls 3 [(0, .ref (G.2.1 11 0)), (1, .int x1), (2, .int x2)]) : W p l e rm_X11_channel s m args below meth c H locs 0 0 (MQ below (va_Qi (fun r u => r = r0 ∧ u = (X, M, τ)) (g_pw G) (g_A G)) args s 0 0 (g_A G)) (F0 m 0 ls []) := by
  obtain ⟨hx, hb, hr, hml, hown, hts, hlocks, hC⟩ := id C0
  unfold fn_X11_channel at hf
  refine lv_iload_n hx hb dX11_channel_0 rfl (lv_at hl 1 rfl) ?_
  refine lv_if_lt (tgt := 9) hx hb dX11_channel_1 (by decide) (fun hc_1 => ?_) (fun hc_1 => ?_)
  · have hf := g_pos hf hc_1
    refine lv_iconst (v := (-1)) hx hb dX11_channel_9 (by decide) ?_
    cases hf
    exact x_iret hx hb hlocks hC hP hS hr dX11_channel_10
  · have hf := g_neg hf hc_1
    refine lv_iload_n hx hb dX11_channel_4 rfl (lv_at hl 1 rfl) ?_
    refine lv_iconst (v := 4) hx hb dX11_channel_5 (by decide) ?_
    refine lv_icmp_lt (tgt := 11) hx hb dX11_channel_6 (by decide) (fun hc_2 => ?_) (fun hc_2 => ?_)
    · have hf := g_pos hf hc_2
      refine lv_iload_n hx hb dX11_channel_11 rfl (lv_at hl 2 rfl) ?_
      by_cases hs12_0 : x2 = 0
      · have hf := g_pos hf hs12_0
        refine lv_tableIn (off := 28) (tgt := 40) hx hb dX11_channel_12 (by rw [hs12_0]; decide) (by rw [hs12_0]; decide) (by rw [hs12_0]; rfl) (by decide) ?_
        refine lv_aload_n hx hb dX11_channel_40 rfl (lv_at hl 0 rfl) ?_
        refine gt_11_2 hx hb hts hown hC hP Nat.zero_lt_one q2_0 dX11_channel_41 ?_
        refine lv_iload_n hx hb dX11_channel_44 rfl (lv_at hl 1 rfl) ?_
        refine lv_iconst (v := 2) hx hb dX11_channel_45 (by decide) ?_
        obtain ⟨r_7, hc_8, hf⟩ := g_bindE hf
        refine x_calli (v := (X, M, τ)) (va_runV (As := [.int x1, .int 2]) (rest := []) ⟨hx, hb, hml, hown, hts⟩ (ct_X7_howManyAt l G X M τ 0 (by decide) x1 2 hc_8) (cwV 2 hts gd_X11_222 rfl rfl rfl hd_X7_howManyAt ⟨Nat.le_of_ble_eq_true rfl, Nat.le_of_ble_eq_true rfl⟩) (x_preV (u := (X, M, τ)) (k := 7) (ci := 7) hC hS hP (by decide) rfl rfl) rfl rfl hl.1 rfl (lv_room (Nat.le_of_ble_eq_true rfl)) dX11_channel_46 ⟨Nat.zero_le _, Nat.zero_le _⟩) hS (fun H locs hP hS => ?_)
        cases hf
        exact x_iret hx hb hlocks hC hP hS hr dX11_channel_49
      · have hf := g_neg hf hs12_0
        by_cases hs12_1 : x2 = 1
        · have hf := g_pos hf hs12_1
          refine lv_tableIn (off := 38) (tgt := 50) hx hb dX11_channel_12 (by rw [hs12_1]; decide) (by rw [hs12_1]; decide) (by rw [hs12_1]; rfl) (by decide) ?_
          refine lv_aload_n hx hb dX11_channel_50 rfl (lv_at hl 0 rfl) ?_
          refine gt_11_2 hx hb hts hown hC hP Nat.zero_lt_one q2_0 dX11_channel_51 ?_
          refine lv_iload_n hx hb dX11_channel_54 rfl (lv_at hl 1 rfl) ?_
          refine lv_iconst (v := 3) hx hb dX11_channel_55 (by decide) ?_
          obtain ⟨r_5, hc_6, hf⟩ := g_bindE hf
          refine x_calli (v := (X, M, τ)) (va_runV (As := [.int x1, .int 3]) (rest := []) ⟨hx, hb, hml, hown, hts⟩ (ct_X7_howManyAt l G X M τ 0 (by decide) x1 3 hc_6) (cwV 2 hts gd_X11_222 rfl rfl rfl hd_X7_howManyAt ⟨Nat.le_of_ble_eq_true rfl, Nat.le_of_ble_eq_true rfl⟩) (x_preV (u := (X, M, τ)) (k := 7) (ci := 7) hC hS hP (by decide) rfl rfl) rfl rfl hl.1 rfl (lv_room (Nat.le_of_ble_eq_true rfl)) dX11_channel_56 ⟨Nat.zero_le _, Nat.zero_le _⟩) hS (fun H locs hP hS => ?_)
          cases hf
          exact x_iret hx hb hlocks hC hP hS hr dX11_channel_59
        · have hf := g_neg hf hs12_1
          by_cases hs12_2 : x2 = 2
          · have hf := g_pos hf hs12_2
            refine lv_tableIn (off := 48) (tgt := 60) hx hb dX11_channel_12 (by rw [hs12_2]; decide) (by rw [hs12_2]; decide) (by rw [hs12_2]; rfl) (by decide) ?_
            refine lv_aload_n hx hb dX11_channel_60 rfl (lv_at hl 0 rfl) ?_
            refine gt_11_2 hx hb hts hown hC hP Nat.zero_lt_one q2_0 dX11_channel_61 ?_
            refine gt_7_2 hx hb hts hown hC hP (by decide) q34_13 dX11_channel_64 ?_
            refine lv_iload_n hx hb dX11_channel_67 rfl (lv_at hl 1 rfl) ?_
            obtain ⟨r_3, hc_4, hf⟩ := g_bindE hf
            refine x_calli (v := (X, M, τ)) (va_runV (As := [.int x1]) (rest := []) ⟨hx, hb, hml, hown, hts⟩ (ct_X0_firstAt l G X M τ 0 (by decide) x1 hc_4) (cwV 1 hts gd_X11_229 rfl rfl rfl hd_X0_firstAt ⟨Nat.le_of_ble_eq_true rfl, Nat.le_of_ble_eq_true rfl⟩) (x_preV (u := (X, M, τ)) (k := 0) (ci := 0) hC hS hP (by decide) rfl rfl) rfl rfl hl.1 rfl (lv_room (Nat.le_of_ble_eq_true rfl)) dX11_channel_68 ⟨Nat.zero_le _, Nat.zero_le _⟩) hS (fun H locs hP hS => ?_)
            cases hf
            exact x_iret hx hb hlocks hC hP hS hr dX11_channel_71
          · have hf := g_neg hf hs12_2
            have nhs12_0 : x2.toInt ≠ 0 := fun h => hs12_0 (Int32.toInt_inj.mp (by rw [h]; rfl))
            have nhs12_1 : x2.toInt ≠ 1 := fun h => hs12_1 (Int32.toInt_inj.mp (by rw [h]; rfl))
            have nhs12_2 : x2.toInt ≠ 2 := fun h => hs12_2 (Int32.toInt_inj.mp (by rw [h]; rfl))
            refine lv_tableOut (tgt := 72) hx hb dX11_channel_12 (by omega) (by decide) ?_
            refine lv_iconst (v := (-1)) hx hb dX11_channel_72 (by decide) ?_
            cases hf
            exact x_iret hx hb hlocks hC hP hS hr dX11_channel_73
    · have hf := g_neg hf hc_2
      refine lv_iconst (v := (-1)) hx hb dX11_channel_9 (by decide) ?_
      cases hf
      exact x_iret hx hb hlocks hC hP hS hr dX11_channel_10
set_option maxRecDepth 100000 in
set_option maxHeartbeats 4000000 in
theorem ct_X11_channel (l : Launch) (G : GP) (X M : SM) (τ : SL) (x1 : Int32) (x2 : Int32) {r0 : Int32} (hf : fn_X11_channel x1 x2 X = some r0) : Met l yX11_channel (wz yX11_channel cX11_channel 3 (some .int)) rm_X11_channel (va_Pc [.ref (G.2.1 11 0), .int x1, .int x2] (g_pw G (X, M, τ))) (va_Qi (fun r u => r = r0 ∧ u = (X, M, τ)) (g_pw G) (g_A G)) 0 0 (g_A G) := by
  refine Met.ofW (cc := cX11_channel) (maxL := 3) (ret := (some .int)) (by decide +kernel) rfl ?_
  intro p e s m args below meth c s₁ B hml hv
  obtain ⟨rfl, hC, hP⟩ := hv
  have C0 : g_mc p s m _ meth c RX11 cX11_channel (some .int) 3 G := ⟨B.exec, B.bytes, B.returns, hml, findClass_of_methodNamed B.named, fun w h => atoms_spec (ws := wz yX11_channel cX11_channel 3 (some .int)) B.pre w (List.mem_cons_of_mem _ h), B.notSynchronized, hC⟩
  have hl := lv_entry ([.ref (G.2.1 11 0), .int x1, .int x2]) (n := 3) (Nat.le_of_ble_eq_true rfl)
  rw [lg_entry_eq]
  generalize (lg_sl ([.ref (G.2.1 11 0), .int x1, .int x2]) ++ List.replicate (3 - (lg_sl ([.ref (G.2.1 11 0), .int x1, .int x2])).length) Slot.unset).toArray = ls at hl ⊢
  exact wk_X11_channel C0  x1 x2 X hf hP va_S.rf hl
abbrev rm_X9_stillToGoBack : Room := { frames := 1, cells := 0, slots := 0, locals := 21 }
def fn_X9_stillToGoBack (t0 : Nat) (x1 : Int32) (X : SM) : Option (Int32) :=
  g_let (fn_X1_has t0 x1 X) fun r_1 =>
  if r_1 = 0 then
  (some 0)
  else
  (if g_in x1 24 then
    if (X 33 t0 (x1.toNatClampNeg)) = 0 then
    (some 0)
    else
    (if g_in x1 24 then
      if g_in x1 24 then
      some ((X 17 t0 (x1.toNatClampNeg)) - (X 33 t0 (x1.toNatClampNeg)))
      else none
      else none)
    else none)
set_option maxRecDepth 100000 in
set_option maxHeartbeats 4000000 in
theorem wk_X9_stillToGoBack {p : Program} {l : Launch} {e : Env} {s : State} {m : MethodId} {args : Array Value} {below : List Frame} {meth : Method} {c : Code} {G : GP} {M : SM} {τ : SL} (C0 : g_mc p s m args meth c RX9 cX9_stillToGoBack (some .int) 2 G) {r0 : Int32} (t0 : Nat) (ht0 : t0 < 12) (x1 : Int32) (X : SM) (hf : fn_X9_stillToGoBack t0 x1 X = some r0) {H : Heap} {locs : List Loc} (hP : va_P G.1 g_cl (wd G (cb X M) τ) H) (hS : va_S (g_A G) s.heap H locs) {ls : Array Slot} (hl : lv_has ls 2 [(0, .ref (G.2.1 9 t0)), (1, .int x1)]) : W p l e rm_X9_stillToGoBack s m args below meth c H locs 0 0 (MQ below (va_Qi (fun r u => r = r0 ∧ u = (X, M, τ)) (g_pw G) (g_A G)) args s 0 0 (g_A G)) (F0 m 0 ls []) := by
  obtain ⟨hx, hb, hr, hml, hown, hts, hlocks, hC⟩ := id C0
  unfold fn_X9_stillToGoBack at hf
  refine lv_aload_n hx hb dX9_stillToGoBack_0 rfl (lv_at hl 0 rfl) ?_
  refine gt_9_1 hx hb hts hown hC hP ht0 q5_4 dX9_stillToGoBack_1 ?_
  refine lv_iload_n hx hb dX9_stillToGoBack_4 rfl (lv_at hl 1 rfl) ?_
  obtain ⟨r_1, hc_2, hf⟩ := g_letE hf
  refine x_calli (v := (X, M, τ)) (va_runV (As := [.int x1]) (rest := []) ⟨hx, hb, hml, hown, hts⟩ (ct_X1_has l G X M τ t0 ht0 x1 hc_2) (cwV 1 hts gd_X9_55 rfl rfl rfl hd_X1_has ⟨Nat.le_of_ble_eq_true rfl, Nat.le_of_ble_eq_true rfl⟩) (x_preV (u := (X, M, τ)) (k := 1) (ci := 1) hC hS hP ht0 rfl rfl) rfl rfl hl.1 rfl (lv_room (Nat.le_of_ble_eq_true rfl)) dX9_stillToGoBack_5 ⟨Nat.zero_le _, Nat.zero_le _⟩) hS (fun H locs hP hS => ?_)
  refine lv_if_eq (tgt := 20) hx hb dX9_stillToGoBack_8 (by decide) (fun hc_3 => ?_) (fun hc_3 => ?_)
  · have hf := g_pos hf hc_3
    refine lv_iconst (v := 0) hx hb dX9_stillToGoBack_20 (by decide) ?_
    cases hf
    exact x_iret hx hb hlocks hC hP hS hr dX9_stillToGoBack_21
  · have hf := g_neg hf hc_3
    refine lv_aload_n hx hb dX9_stillToGoBack_11 rfl (lv_at hl 0 rfl) ?_
    refine gt_9_5 hx hb hts hown hC hP ht0 q5_11 dX9_stillToGoBack_12 ?_
    refine lv_iload_n hx hb dX9_stillToGoBack_15 rfl (lv_at hl 1 rfl) ?_
    obtain ⟨hg_4, hf⟩ := g_gd hf
    refine xildX (k := 33) (n := 24) hx hb hC hP (fun _ _ => rfl) rfl ht0 hg_4 dX9_stillToGoBack_16 ?_
    refine lv_if_ne (tgt := 22) hx hb dX9_stillToGoBack_17 (by decide) (fun hc_5 => ?_) (fun hc_5 => ?_)
    · have hf := g_neg hf hc_5
      refine lv_aload_n hx hb dX9_stillToGoBack_22 rfl (lv_at hl 0 rfl) ?_
      refine gt_9_1 hx hb hts hown hC hP ht0 q5_4 dX9_stillToGoBack_23 ?_
      refine gt_1_1 hx hb hts hown hC hP ht0 q32_11 dX9_stillToGoBack_26 ?_
      refine lv_iload_n hx hb dX9_stillToGoBack_29 rfl (lv_at hl 1 rfl) ?_
      obtain ⟨hg_6, hf⟩ := g_gd hf
      refine xildX (k := 17) (n := 24) hx hb hC hP (fun _ _ => rfl) rfl ht0 hg_6 dX9_stillToGoBack_30 ?_
      refine lv_aload_n hx hb dX9_stillToGoBack_31 rfl (lv_at hl 0 rfl) ?_
      refine gt_9_5 hx hb hts hown hC hP ht0 q5_11 dX9_stillToGoBack_32 ?_
      refine lv_iload_n hx hb dX9_stillToGoBack_35 rfl (lv_at hl 1 rfl) ?_
      obtain ⟨hg_7, hf⟩ := g_gd hf
      refine xildX (k := 33) (n := 24) hx hb hC hP (fun _ _ => rfl) rfl ht0 hg_7 dX9_stillToGoBack_36 ?_
      refine lv_isub hx hb dX9_stillToGoBack_37 ?_
      cases hf
      exact x_iret hx hb hlocks hC hP hS hr dX9_stillToGoBack_38
    · have hf := g_pos hf hc_5
      refine lv_iconst (v := 0) hx hb dX9_stillToGoBack_20 (by decide) ?_
      cases hf
      exact x_iret hx hb hlocks hC hP hS hr dX9_stillToGoBack_21
set_option maxRecDepth 100000 in
set_option maxHeartbeats 4000000 in
theorem ct_X9_stillToGoBack (l : Launch) (G : GP) (X M : SM) (τ : SL) (t0 : Nat) (ht0 : t0 < 12) (x1 : Int32) {r0 : Int32} (hf : fn_X9_stillToGoBack t0 x1 X = some r0) : Met l yX9_stillToGoBack (wz yX9_stillToGoBack cX9_stillToGoBack 2 (some .int)) rm_X9_stillToGoBack (va_Pc [.ref (G.2.1 9 t0), .int x1] (g_pw G (X, M, τ))) (va_Qi (fun r u => r = r0 ∧ u = (X, M, τ)) (g_pw G) (g_A G)) 0 0 (g_A G) := by
  refine Met.ofW (cc := cX9_stillToGoBack) (maxL := 2) (ret := (some .int)) (by decide +kernel) rfl ?_
  intro p e s m args below meth c s₁ B hml hv
  obtain ⟨rfl, hC, hP⟩ := hv
  have C0 : g_mc p s m _ meth c RX9 cX9_stillToGoBack (some .int) 2 G := ⟨B.exec, B.bytes, B.returns, hml, findClass_of_methodNamed B.named, fun w h => atoms_spec (ws := wz yX9_stillToGoBack cX9_stillToGoBack 2 (some .int)) B.pre w (List.mem_cons_of_mem _ h), B.notSynchronized, hC⟩
  have hl := lv_entry ([.ref (G.2.1 9 t0), .int x1]) (n := 2) (Nat.le_of_ble_eq_true rfl)
  rw [lg_entry_eq]
  generalize (lg_sl ([.ref (G.2.1 9 t0), .int x1]) ++ List.replicate (2 - (lg_sl ([.ref (G.2.1 9 t0), .int x1])).length) Slot.unset).toArray = ls at hl ⊢
  exact wk_X9_stillToGoBack C0  t0 ht0 x1 X hf hP va_S.rf hl
abbrev rm_X11_code : Room := { frames := 8, cells := 1, slots := 6, locals := 120 }
def fn_X11_code (x1 : Int32) (x2 : Int32) (x3 : Int32) (X : SM) : Option (Option Int32) :=
  g_let (fn_X11_isThread x1) fun r_1 =>
  if r_1 = 0 then
  (some none)
  else
  (if g_in x1 6 then
    g_let (fn_X1_has (6 * 0 + (x1.toNatClampNeg)) x2 X) fun r_6 =>
    if r_6 = 0 then
    (some none)
    else
    (if x3 < 0 then
      (some none)
      else
      (if x3 ≤ 4 then
        (if g_in x1 6 then
          g_let ((6 * 0 + (x1.toNatClampNeg))) fun t4_13 =>
          if x3 = 0 then
          (if g_in x2 24 then
            some (some (X 16 t4_13 (x2.toNatClampNeg)))
            else none)
          else
          (if x3 = 1 then
            (if g_in x2 24 then
              some (some (X 17 t4_13 (x2.toNatClampNeg)))
              else none)
            else
            (if x3 = 2 then
              (if g_in x2 24 then
                some (some (X 18 t4_13 (x2.toNatClampNeg)))
                else none)
              else
              (if x3 = 3 then
                (if g_in x2 24 then
                  some (some (X 19 t4_13 (x2.toNatClampNeg)))
                  else none)
                else
                (if g_in x1 6 then
                  (fn_X9_stillToGoBack (6 * 0 + (x1.toNatClampNeg)) x2 X).bind fun r_16 =>
                  some (some r_16)
                  else none))))
          else none)
        else
        (some none)))
    else none)
set_option maxRecDepth 100000 in
set_option maxHeartbeats 4000000 in
theorem wk_X11_code {p : Program} {l : Launch} {e : Env} {s : State} {m : MethodId} {args : Array Value} {below : List Frame} {meth : Method} {c : Code} {G : GP} {M : SM} {τ : SL} (C0 : g_mc p s m args meth c RX11 cX11_code (some .int) 5 G) (hno : ∀ x ∈ c.exceptionTable.toList, False) (hlt : l.stackTraces = false) {r0 : Option Int32} (x1 : Int32) (x2 : Int32) (x3 : Int32) (X : SM) (hf : fn_X11_code x1 x2 x3 X = some r0) {H : Heap} {locs : List Loc} (hP : va_P G.1 g_cl (wd G (cb X M) τ) H) (hS : va_S (g_A G) s.heap H locs) {ls : Array Slot} (hl : lv_has ls 5 [(0, .ref (G.2.1 11 0)), (1, .int x1), (2, .int x2), (3, .int x3)]) : W p l e rm_X11_code s m args below meth c H locs 0 0 (vx_MQ below (va_Qi (fun r u => r0 = some r ∧ u = (X, M, τ)) (g_pw G) (g_A G)) (vx_X (fun u => r0 = none ∧ u = (X, M, τ)) (fun E u t => E = "java/util/NoSuchElementException" ∧ va_P G.1 g_cl (wd G (cb u.1 u.2.1) u.2.2) t.heap) (g_A G)) args s 1 6 (g_A G)) (F0 m 0 ls []) := by
  obtain ⟨hx, hb, hr, hml, hown, hts, hlocks, hC⟩ := id C0
  unfold fn_X11_code at hf
  refine lv_iload_n hx hb dX11_code_0 rfl (lv_at hl 1 rfl) ?_
  obtain ⟨r_1, hc_2, hf⟩ := g_letE hf
  refine x_calli (v := (X, M, τ)) (va_runS (As := [.int x1]) (rest := []) ⟨hx, hb, hml, hown, hts⟩ (ct_X11_isThread l G X M τ x1 hc_2) (cwS 1 hts gd_X11_56 rfl rfl rfl hd_X11_isThread ⟨Nat.le_of_ble_eq_true rfl, Nat.le_of_ble_eq_true rfl⟩) (x_pre (u := (X, M, τ)) hC hS hP) rfl rfl hl.1 rfl (lv_room (Nat.le_of_ble_eq_true rfl)) dX11_code_1 ⟨Nat.zero_le _, Nat.zero_le _⟩) hS (fun H locs hP hS => ?_)
  refine lv_if_eq (tgt := 35) hx hb dX11_code_4 (by decide) (fun hc_3 => ?_) (fun hc_3 => ?_)
  · have hf := g_pos hf hc_3
    cases hf
    exact x_throw hx hb hlt hown hts hC hP hS (hl.1.trans hml.symm) dX11_code_35 dX11_code_38 dX11_code_39 dX11_code_42 hno (Nat.le_of_ble_eq_true rfl) (Nat.le_of_ble_eq_true rfl) hlocks
  · have hf := g_neg hf hc_3
    refine lv_aload_n hx hb dX11_code_7 rfl (lv_at hl 0 rfl) ?_
    refine gt_11_2 hx hb hts hown hC hP Nat.zero_lt_one q2_0 dX11_code_8 ?_
    refine gt_7_0 hx hb hts hown hC hP (by decide) q7_21 dX11_code_11 ?_
    refine lv_iload_n hx hb dX11_code_14 rfl (lv_at hl 1 rfl) ?_
    obtain ⟨hg_4, hf⟩ := g_gd hf
    have hq_5 : 6 * 0 + (x1.toNatClampNeg) < 12 := by have h8 := g_in_lt (n := 6) hg_4; have h9 : 0 < 2 := (by decide); omega
    refine xaldS hx hb hC hP (by decide) hg_4 dX11_code_15 ?_
    refine gt_9_1 hx hb hts hown hC hP hq_5 q7_22 dX11_code_16 ?_
    refine lv_iload_n hx hb dX11_code_19 rfl (lv_at hl 2 rfl) ?_
    obtain ⟨r_6, hc_7, hf⟩ := g_letE hf
    refine x_calli (v := (X, M, τ)) (va_runV (As := [.int x2]) (rest := []) ⟨hx, hb, hml, hown, hts⟩ (ct_X1_has l G X M τ (6 * 0 + (x1.toNatClampNeg)) hq_5 x2 hc_7) (cwV 1 hts gd_X11_157 rfl rfl rfl hd_X1_has ⟨Nat.le_of_ble_eq_true rfl, Nat.le_of_ble_eq_true rfl⟩) (x_preV (u := (X, M, τ)) (k := 1) (ci := 1) hC hS hP hq_5 rfl rfl) rfl rfl hl.1 rfl (lv_room (Nat.le_of_ble_eq_true rfl)) dX11_code_20 ⟨Nat.zero_le _, Nat.zero_le _⟩) hS (fun H locs hP hS => ?_)
    refine lv_if_eq (tgt := 35) hx hb dX11_code_23 (by decide) (fun hc_8 => ?_) (fun hc_8 => ?_)
    · have hf := g_pos hf hc_8
      cases hf
      exact x_throw hx hb hlt hown hts hC hP hS (hl.1.trans hml.symm) dX11_code_35 dX11_code_38 dX11_code_39 dX11_code_42 hno (Nat.le_of_ble_eq_true rfl) (Nat.le_of_ble_eq_true rfl) hlocks
    · have hf := g_neg hf hc_8
      refine lv_iload_n hx hb dX11_code_26 rfl (lv_at hl 3 rfl) ?_
      refine lv_if_lt (tgt := 35) hx hb dX11_code_27 (by decide) (fun hc_9 => ?_) (fun hc_9 => ?_)
      · have hf := g_pos hf hc_9
        cases hf
        exact x_throw hx hb hlt hown hts hC hP hS (hl.1.trans hml.symm) dX11_code_35 dX11_code_38 dX11_code_39 dX11_code_42 hno (Nat.le_of_ble_eq_true rfl) (Nat.le_of_ble_eq_true rfl) hlocks
      · have hf := g_neg hf hc_9
        refine lv_iload_n hx hb dX11_code_30 rfl (lv_at hl 3 rfl) ?_
        refine lv_iconst (v := 4) hx hb dX11_code_31 (by decide) ?_
        refine lv_icmp_le (tgt := 43) hx hb dX11_code_32 (by decide) (fun hc_10 => ?_) (fun hc_10 => ?_)
        · have hf := g_pos hf hc_10
          refine lv_aload_n hx hb dX11_code_43 rfl (lv_at hl 0 rfl) ?_
          refine gt_11_2 hx hb hts hown hC hP Nat.zero_lt_one q2_0 dX11_code_44 ?_
          refine gt_7_0 hx hb hts hown hC hP (by decide) q7_21 dX11_code_47 ?_
          refine lv_iload_n hx hb dX11_code_50 rfl (lv_at hl 1 rfl) ?_
          obtain ⟨hg_11, hf⟩ := g_gd hf
          have hq_12 : 6 * 0 + (x1.toNatClampNeg) < 12 := by have h8 := g_in_lt (n := 6) hg_11; have h9 : 0 < 2 := (by decide); omega
          refine xaldS hx hb hC hP (by decide) hg_11 dX11_code_51 ?_
          refine gt_9_1 hx hb hts hown hC hP hq_12 q7_22 dX11_code_52 ?_
          obtain ⟨t4_13, et4_13, hf⟩ := g_letE hf
          refine lv_toprE et4_13 ?_
          have ht4_13 : t4_13 < 12 := by rw [← et4_13]; exact hq_12
          refine lv_astore (lv' := [(4, .ref (G.2.1 1 t4_13)), (0, .ref (G.2.1 11 0)), (1, .int x1), (2, .int x2), (3, .int x3)]) hx hb dX11_code_55 hl (by decide) rfl (fun ls hl => ?_)
          refine lv_iload_n hx hb dX11_code_57 rfl (lv_at hl 4 rfl) ?_
          by_cases hs58_0 : x3 = 0
          · have hf := g_pos hf hs58_0
            refine lv_tableIn (off := 30) (tgt := 88) hx hb dX11_code_58 (by rw [hs58_0]; decide) (by rw [hs58_0]; decide) (by rw [hs58_0]; rfl) (by decide) ?_
            refine lv_aload hx hb dX11_code_88 (lv_at hl 0 rfl) ?_
            refine gt_1_0 hx hb hts hown hC hP ht4_13 q32_2 dX11_code_90 ?_
            refine lv_iload_n hx hb dX11_code_93 rfl (lv_at hl 3 rfl) ?_
            obtain ⟨hg_21, hf⟩ := g_gd hf
            refine xildX (k := 16) (n := 24) hx hb hC hP (fun _ _ => rfl) rfl ht4_13 hg_21 dX11_code_94 ?_
            cases hf
            refine W.widen (k := 1) (n := 6) (Nat.zero_le _) (Nat.zero_le _) ?_
            refine vx_ret ?_
            exact x_tret hx hb hlocks hC hP hS hr dX11_code_95
          · have hf := g_neg hf hs58_0
            by_cases hs58_1 : x3 = 1
            · have hf := g_pos hf hs58_1
              refine lv_tableIn (off := 38) (tgt := 96) hx hb dX11_code_58 (by rw [hs58_1]; decide) (by rw [hs58_1]; decide) (by rw [hs58_1]; rfl) (by decide) ?_
              refine lv_aload hx hb dX11_code_96 (lv_at hl 0 rfl) ?_
              refine gt_1_1 hx hb hts hown hC hP ht4_13 q32_3 dX11_code_98 ?_
              refine lv_iload_n hx hb dX11_code_101 rfl (lv_at hl 3 rfl) ?_
              obtain ⟨hg_20, hf⟩ := g_gd hf
              refine xildX (k := 17) (n := 24) hx hb hC hP (fun _ _ => rfl) rfl ht4_13 hg_20 dX11_code_102 ?_
              cases hf
              refine W.widen (k := 1) (n := 6) (Nat.zero_le _) (Nat.zero_le _) ?_
              refine vx_ret ?_
              exact x_tret hx hb hlocks hC hP hS hr dX11_code_103
            · have hf := g_neg hf hs58_1
              by_cases hs58_2 : x3 = 2
              · have hf := g_pos hf hs58_2
                refine lv_tableIn (off := 46) (tgt := 104) hx hb dX11_code_58 (by rw [hs58_2]; decide) (by rw [hs58_2]; decide) (by rw [hs58_2]; rfl) (by decide) ?_
                refine lv_aload hx hb dX11_code_104 (lv_at hl 0 rfl) ?_
                refine gt_1_2 hx hb hts hown hC hP ht4_13 q32_4 dX11_code_106 ?_
                refine lv_iload_n hx hb dX11_code_109 rfl (lv_at hl 3 rfl) ?_
                obtain ⟨hg_19, hf⟩ := g_gd hf
                refine xildX (k := 18) (n := 24) hx hb hC hP (fun _ _ => rfl) rfl ht4_13 hg_19 dX11_code_110 ?_
                cases hf
                refine W.widen (k := 1) (n := 6) (Nat.zero_le _) (Nat.zero_le _) ?_
                refine vx_ret ?_
                exact x_tret hx hb hlocks hC hP hS hr dX11_code_111
              · have hf := g_neg hf hs58_2
                by_cases hs58_3 : x3 = 3
                · have hf := g_pos hf hs58_3
                  refine lv_tableIn (off := 54) (tgt := 112) hx hb dX11_code_58 (by rw [hs58_3]; decide) (by rw [hs58_3]; decide) (by rw [hs58_3]; rfl) (by decide) ?_
                  refine lv_aload hx hb dX11_code_112 (lv_at hl 0 rfl) ?_
                  refine gt_1_3 hx hb hts hown hC hP ht4_13 q32_5 dX11_code_114 ?_
                  refine lv_iload_n hx hb dX11_code_117 rfl (lv_at hl 3 rfl) ?_
                  obtain ⟨hg_18, hf⟩ := g_gd hf
                  refine xildX (k := 19) (n := 24) hx hb hC hP (fun _ _ => rfl) rfl ht4_13 hg_18 dX11_code_118 ?_
                  cases hf
                  refine W.widen (k := 1) (n := 6) (Nat.zero_le _) (Nat.zero_le _) ?_
                  refine vx_ret ?_
                  exact x_tret hx hb hlocks hC hP hS hr dX11_code_119
                · have hf := g_neg hf hs58_3
                  have nhs58_0 : x3.toInt ≠ 0 := fun h => hs58_0 (Int32.toInt_inj.mp (by rw [h]; rfl))
                  have nhs58_1 : x3.toInt ≠ 1 := fun h => hs58_1 (Int32.toInt_inj.mp (by rw [h]; rfl))
                  have nhs58_2 : x3.toInt ≠ 2 := fun h => hs58_2 (Int32.toInt_inj.mp (by rw [h]; rfl))
                  have nhs58_3 : x3.toInt ≠ 3 := fun h => hs58_3 (Int32.toInt_inj.mp (by rw [h]; rfl))
                  refine lv_tableOut (tgt := 120) hx hb dX11_code_58 (by omega) (by decide) ?_
                  refine lv_aload_n hx hb dX11_code_120 rfl (lv_at hl 1 rfl) ?_
                  refine gt_11_2 hx hb hts hown hC hP Nat.zero_lt_one q2_0 dX11_code_121 ?_
                  refine gt_7_0 hx hb hts hown hC hP (by decide) q7_21 dX11_code_124 ?_
                  refine lv_iload_n hx hb dX11_code_127 rfl (lv_at hl 2 rfl) ?_
                  obtain ⟨hg_14, hf⟩ := g_gd hf
                  have hq_15 : 6 * 0 + (x1.toNatClampNeg) < 12 := by have h8 := g_in_lt (n := 6) hg_14; have h9 : 0 < 2 := (by decide); omega
                  refine xaldS hx hb hC hP (by decide) hg_14 dX11_code_128 ?_
                  refine lv_iload_n hx hb dX11_code_129 rfl (lv_at hl 3 rfl) ?_
                  obtain ⟨r_16, hc_17, hf⟩ := g_bindE hf
                  refine x_calli (v := (X, M, τ)) (va_runV (As := [.int x2]) (rest := []) ⟨hx, hb, hml, hown, hts⟩ (ct_X9_stillToGoBack l G X M τ (6 * 0 + (x1.toNatClampNeg)) hq_15 x2 hc_17) (cwV 1 hts gd_X11_170 rfl rfl rfl hd_X9_stillToGoBack ⟨Nat.le_of_ble_eq_true rfl, Nat.le_of_ble_eq_true rfl⟩) (x_preV (u := (X, M, τ)) (k := 9) (ci := 9) hC hS hP hq_15 rfl rfl) rfl rfl hl.1 rfl (lv_room (Nat.le_of_ble_eq_true rfl)) dX11_code_130 ⟨Nat.zero_le _, Nat.zero_le _⟩) hS (fun H locs hP hS => ?_)
                  cases hf
                  refine W.widen (k := 1) (n := 6) (Nat.zero_le _) (Nat.zero_le _) ?_
                  refine vx_ret ?_
                  exact x_tret hx hb hlocks hC hP hS hr dX11_code_133
        · have hf := g_neg hf hc_10
          cases hf
          exact x_throw hx hb hlt hown hts hC hP hS (hl.1.trans hml.symm) dX11_code_35 dX11_code_38 dX11_code_39 dX11_code_42 hno (Nat.le_of_ble_eq_true rfl) (Nat.le_of_ble_eq_true rfl) hlocks
set_option maxRecDepth 100000 in
set_option maxHeartbeats 4000000 in
theorem ct_X11_code (l : Launch) (hlt : l.stackTraces = false) (G : GP) (X M : SM) (τ : SL) (x1 : Int32) (x2 : Int32) (x3 : Int32) {r0 : Option Int32} (hf : fn_X11_code x1 x2 x3 X = some r0) : vx_Met l yX11_code (wz yX11_code cX11_code 5 (some .int)) rm_X11_code (va_Pc [.ref (G.2.1 11 0), .int x1, .int x2, .int x3] (g_pw G (X, M, τ))) (va_Qi (fun r u => r0 = some r ∧ u = (X, M, τ)) (g_pw G) (g_A G)) (vx_X (fun u => r0 = none ∧ u = (X, M, τ)) (fun E u t => E = "java/util/NoSuchElementException" ∧ va_P G.1 g_cl (wd G (cb u.1 u.2.1) u.2.2) t.heap) (g_A G)) 1 6 (g_A G) := by
  refine vx_ofW (cc := cX11_code) (maxL := 5) (ret := (some .int)) (by decide +kernel) rfl ?_
  intro p e s m args below meth c s₁ B hml hno hv
  obtain ⟨rfl, hC, hP⟩ := hv
  have C0 : g_mc p s m _ meth c RX11 cX11_code (some .int) 5 G := ⟨B.exec, B.bytes, B.returns, hml, findClass_of_methodNamed B.named, fun w h => atoms_spec (ws := wz yX11_code cX11_code 5 (some .int)) B.pre w (List.mem_cons_of_mem _ h), B.notSynchronized, hC⟩
  have hl := lv_entry ([.ref (G.2.1 11 0), .int x1, .int x2, .int x3]) (n := 5) (Nat.le_of_ble_eq_true rfl)
  rw [lg_entry_eq]
  generalize (lg_sl ([.ref (G.2.1 11 0), .int x1, .int x2, .int x3]) ++ List.replicate (5 - (lg_sl ([.ref (G.2.1 11 0), .int x1, .int x2, .int x3])).length) Slot.unset).toArray = ls at hl ⊢
  exact wk_X11_code C0 hno hlt x1 x2 x3 X hf hP va_S.rf hl
abbrev rm_X7_trapped : Room := { frames := 0, cells := 0, slots := 0, locals := 0 }
def wb_X7_trapped_4 (k4 : Nat → Int32 → Int32 → SM → Option (Int32)) (t0 : Nat) (x1 : Int32) (x2 : Int32) (X : SM) : Option (Int32) :=
  if 6 ≤ x2 then
  (some x1)
  else
  (if g_in x2 6 then
    if (X 9 (6 * t0 + (x2.toNatClampNeg)) 9) = 5 then
    (g_let ((x1 ||| (1 <<< (x2 &&& 31)))) fun x1_6 =>
      g_let (x2 + 1) fun x2_7 =>
      k4 t0 x1_6 x2_7 X)
    else
    (g_let (x2 + 1) fun x2_5 =>
      k4 t0 x1 x2_5 X)
    else none)
set_option maxRecDepth 100000 in
set_option maxHeartbeats 4000000 in
theorem bk_X7_trapped_4 {p : Program} {l : Launch} {e : Env} {s : State} {m : MethodId} {args : Array Value} {below : List Frame} {meth : Method} {c : Code} {G : GP} {M : SM} {τ : SL} (C0 : g_mc p s m args meth c RX7 cX7_trapped (some .int) 3 G) {r0 : Int32} (k4 : Nat → Int32 → Int32 → SM → Option (Int32)) (hk4 : ∀ (t0 : Nat) (ht0 : t0 < 2) (x1 : Int32) (x2 : Int32) (X : SM), k4 t0 x1 x2 X = some r0 → ∀ {H : Heap} {locs : List Loc}, va_P G.1 g_cl (wd G (cb X M) τ) H → va_S (g_A G) s.heap H locs → ∀ {ls : Array Slot}, lv_has ls 3 [(0, .ref (G.2.1 7 t0)), (1, .int x1), (2, .int x2)] → W p l e rm_X7_trapped s m args below meth c H locs 0 0 (MQ below (va_Qi (fun r u => r = r0 ∧ u = (X, M, τ)) (g_pw G) (g_A G)) args s 0 0 (g_A G)) (F0 m 4 ls [])) (t0 : Nat) (ht0 : t0 < 2) (x1 : Int32) (x2 : Int32) (X : SM) (hf : wb_X7_trapped_4 k4 t0 x1 x2 X = some r0) {H : Heap} {locs : List Loc} (hP : va_P G.1 g_cl (wd G (cb X M) τ) H) (hS : va_S (g_A G) s.heap H locs) {ls : Array Slot} (hl : lv_has ls 3 [(0, .ref (G.2.1 7 t0)), (1, .int x1), (2, .int x2)]) : W p l e rm_X7_trapped s m args below meth c H locs 0 0 (MQ below (va_Qi (fun r u => r = r0 ∧ u = (X, M, τ)) (g_pw G) (g_A G)) args s 0 0 (g_A G)) (F0 m 4 ls []) := by
  obtain ⟨hx, hb, hr, hml, hown, hts, hlocks, hC⟩ := id C0
  unfold wb_X7_trapped_4 at hf
  refine lv_iload_n hx hb dX7_trapped_4 rfl (lv_at hl 2 rfl) ?_
  refine lv_bipush (v := 6) hx hb dX7_trapped_5 (by decide) ?_
  refine lv_icmp_ge (tgt := 35) hx hb dX7_trapped_7 (by decide) (fun hc_1 => ?_) (fun hc_1 => ?_)
  · have hf := g_pos hf hc_1
    refine lv_iload_n hx hb dX7_trapped_35 rfl (lv_at hl 1 rfl) ?_
    cases hf
    exact x_iret hx hb hlocks hC hP hS hr dX7_trapped_36
  · have hf := g_neg hf hc_1
    refine lv_aload_n hx hb dX7_trapped_10 rfl (lv_at hl 0 rfl) ?_
    refine gt_7_0 hx hb hts hown hC hP ht0 q3_10 dX7_trapped_11 ?_
    refine lv_iload_n hx hb dX7_trapped_14 rfl (lv_at hl 2 rfl) ?_
    obtain ⟨hg_2, hf⟩ := g_gd hf
    have hq_3 : 6 * t0 + (x2.toNatClampNeg) < 12 := by have h8 := g_in_lt (n := 6) hg_2; have h9 : t0 < 2 := ht0; omega
    refine xaldS hx hb hC hP ht0 hg_2 dX7_trapped_15 ?_
    refine gt_9_9 hx hb hts hown hC hP hq_3 q19_7 dX7_trapped_16 ?_
    refine lv_iconst (v := 5) hx hb dX7_trapped_19 (by decide) ?_
    refine lv_icmp_ne (tgt := 29) hx hb dX7_trapped_20 (by decide) (fun hc_4 => ?_) (fun hc_4 => ?_)
    · have hf := g_neg hf hc_4
      obtain ⟨x2_5, ex2_5, hf⟩ := g_letE hf
      refine lv_iinc (v := x2_5) (lv' := [(2, .int x2_5), (0, .ref (G.2.1 7 t0)), (1, .int x1)]) hx hb dX7_trapped_29 hl (k := 2) rfl (by rw [← ex2_5]; rfl) (by decide) rfl (fun ls hl => ?_)
      refine lv_goto (tgt := 4) hx hb dX7_trapped_32 (by decide) ?_
      exact hk4 t0 ht0 x1 x2_5 X hf hP hS (lv_sub hl [1, 2, 0] rfl)
    · have hf := g_pos hf hc_4
      refine lv_iload_n hx hb dX7_trapped_23 rfl (lv_at hl 1 rfl) ?_
      refine lv_iconst (v := 1) hx hb dX7_trapped_24 (by decide) ?_
      refine lv_iload_n hx hb dX7_trapped_25 rfl (lv_at hl 2 rfl) ?_
      refine lv_ishl hx hb dX7_trapped_26 ?_
      refine lv_ior hx hb dX7_trapped_27 ?_
      obtain ⟨x1_6, ex1_6, hf⟩ := g_letE hf
      refine lv_topE ex1_6 ?_
      refine lv_istore_n (lv' := [(1, .int x1_6), (0, .ref (G.2.1 7 t0)), (2, .int x2)]) hx hb dX7_trapped_28 rfl hl (by decide) rfl (fun ls hl => ?_)
      obtain ⟨x2_7, ex2_7, hf⟩ := g_letE hf
      refine lv_iinc (v := x2_7) (lv' := [(2, .int x2_7), (1, .int x1_6), (0, .ref (G.2.1 7 t0))]) hx hb dX7_trapped_29 hl (k := 2) rfl (by rw [← ex2_7]; rfl) (by decide) rfl (fun ls hl => ?_)
      refine lv_goto (tgt := 4) hx hb dX7_trapped_32 (by decide) ?_
      exact hk4 t0 ht0 x1_6 x2_7 X hf hP hS (lv_sub hl [2, 1, 0] rfl)
def wl_X7_trapped_4 (n : Nat) (t0 : Nat) (x1 : Int32) (x2 : Int32) (X : SM) : Option (Int32) := g_loop (α := Nat × Int32 × Int32 × SM) (fun k a => wb_X7_trapped_4 (fun t0 x1 x2 X => k (t0, x1, x2, X)) a.1 a.2.1 a.2.2.1 a.2.2.2) n (t0, x1, x2, X)
set_option maxRecDepth 100000 in
set_option maxHeartbeats 4000000 in
theorem lp_X7_trapped_4 {p : Program} {l : Launch} {e : Env} {s : State} {m : MethodId} {args : Array Value} {below : List Frame} {meth : Method} {c : Code} {G : GP} {M : SM} {τ : SL} (C0 : g_mc p s m args meth c RX7 cX7_trapped (some .int) 3 G) {r0 : Int32} (n : Nat) : ∀ (t0 : Nat) (ht0 : t0 < 2) (x1 : Int32) (x2 : Int32) (X : SM), wl_X7_trapped_4 n t0 x1 x2 X = some r0 → ∀ {H : Heap} {locs : List Loc}, va_P G.1 g_cl (wd G (cb X M) τ) H → va_S (g_A G) s.heap H locs → ∀ {ls : Array Slot}, lv_has ls 3 [(0, .ref (G.2.1 7 t0)), (1, .int x1), (2, .int x2)] → W p l e rm_X7_trapped s m args below meth c H locs 0 0 (MQ below (va_Qi (fun r u => r = r0 ∧ u = (X, M, τ)) (g_pw G) (g_A G)) args s 0 0 (g_A G)) (F0 m 4 ls []) := by
  induction n with
  | zero =>
    intro t0 ht0 x1 x2 X hf
    have hf : (none : Option (Int32)) = _ := hf
    cases hf
  | succ n ih =>
    intro t0 ht0 x1 x2 X hf H locs hP hS ls hl
    exact bk_X7_trapped_4 C0   (fun t0 x1 x2 X => wl_X7_trapped_4   n t0 x1 x2 X) ih t0 ht0 x1 x2 X hf hP hS hl
def fn_X7_trapped (t0 : Nat) (X : SM) : Option (Int32) :=
  wl_X7_trapped_4 1000 t0 0 0 X
set_option maxRecDepth 100000 in
set_option maxHeartbeats 4000000 in
theorem wk_X7_trapped {p : Program} {l : Launch} {e : Env} {s : State} {m : MethodId} {args : Array Value} {below : List Frame} {meth : Method} {c : Code} {G : GP} {M : SM} {τ : SL} (C0 : g_mc p s m args meth c RX7 cX7_trapped (some .int) 3 G) {r0 : Int32} (t0 : Nat) (ht0 : t0 < 2) (X : SM) (hf : fn_X7_trapped t0 X = some r0) {H : Heap} {locs : List Loc} (hP : va_P G.1 g_cl (wd G (cb X M) τ) H) (hS : va_S (g_A G) s.heap H locs) {ls : Array Slot} (hl : lv_has ls 3 [(0, .ref (G.2.1 7 t0))]) : W p l e rm_X7_trapped s m args below meth c H locs 0 0 (MQ below (va_Qi (fun r u => r = r0 ∧ u = (X, M, τ)) (g_pw G) (g_A G)) args s 0 0 (g_A G)) (F0 m 0 ls []) := by
  obtain ⟨hx, hb, hr, hml, hown, hts, hlocks, hC⟩ := id C0
  unfold fn_X7_trapped at hf
  refine lv_iconst (v := 0) hx hb dX7_trapped_0 (by decide) ?_
  refine lv_istore_n (lv' := [(1, .int 0), (0, .ref (G.2.1 7 t0))]) hx hb dX7_trapped_1 rfl hl (by decide) rfl (fun ls hl => ?_)
  refine lv_iconst (v := 0) hx hb dX7_trapped_2 (by decide) ?_
  refine lv_istore_n (lv' := [(2, .int 0), (1, .int 0), (0, .ref (G.2.1 7 t0))]) hx hb dX7_trapped_3 rfl hl (by decide) rfl (fun ls hl => ?_)
  exact lp_X7_trapped_4 C0 1000 t0 ht0 0 0 X hf hP hS (lv_sub hl [2, 1, 0] rfl)
set_option maxRecDepth 100000 in
set_option maxHeartbeats 4000000 in
theorem ct_X7_trapped (l : Launch) (G : GP) (X M : SM) (τ : SL) (t0 : Nat) (ht0 : t0 < 2) {r0 : Int32} (hf : fn_X7_trapped t0 X = some r0) : Met l yX7_trapped (wz yX7_trapped cX7_trapped 3 (some .int)) rm_X7_trapped (va_Pc [.ref (G.2.1 7 t0)] (g_pw G (X, M, τ))) (va_Qi (fun r u => r = r0 ∧ u = (X, M, τ)) (g_pw G) (g_A G)) 0 0 (g_A G) := by
  refine Met.ofW (cc := cX7_trapped) (maxL := 3) (ret := (some .int)) (by decide +kernel) rfl ?_
  intro p e s m args below meth c s₁ B hml hv
  obtain ⟨rfl, hC, hP⟩ := hv
  have C0 : g_mc p s m _ meth c RX7 cX7_trapped (some .int) 3 G := ⟨B.exec, B.bytes, B.returns, hml, findClass_of_methodNamed B.named, fun w h => atoms_spec (ws := wz yX7_trapped cX7_trapped 3 (some .int)) B.pre w (List.mem_cons_of_mem _ h), B.notSynchronized, hC⟩
  have hl := lv_entry ([.ref (G.2.1 7 t0)]) (n := 3) (Nat.le_of_ble_eq_true rfl)
  rw [lg_entry_eq]
  generalize (lg_sl ([.ref (G.2.1 7 t0)]) ++ List.replicate (3 - (lg_sl ([.ref (G.2.1 7 t0)])).length) Slot.unset).toArray = ls at hl ⊢
  exact wk_X7_trapped C0  t0 ht0 X hf hP va_S.rf hl
abbrev rm_X11_safeOnes : Room := { frames := 5, cells := 0, slots := 0, locals := 120 }
def wb_X11_safeOnes_4 (k4 : Int32 → Int32 → SM → Option (Int32 × SM)) (x1 : Int32) (x2 : Int32) (X : SM) : Option (Int32 × SM) :=
  if 6 ≤ x2 then
  (some (x1, X))
  else
  ((fn_X11_isSafe x2 X).bind fun (r_2, X_3) =>
    if r_2 = 0 then
    (g_let (x2 + 1) fun x2_6 =>
      k4 x1 x2_6 X_3)
    else
    (g_let ((x1 ||| (1 <<< (x2 &&& 31)))) fun x1_7 =>
      g_let (x2 + 1) fun x2_8 =>
      k4 x1_7 x2_8 X_3))
set_option maxRecDepth 100000 in
set_option maxHeartbeats 4000000 in
theorem bk_X11_safeOnes_4 {p : Program} {l : Launch} {e : Env} {s : State} {m : MethodId} {args : Array Value} {below : List Frame} {meth : Method} {c : Code} {G : GP} {M : SM} {τ : SL} (C0 : g_mc p s m args meth c RX11 cX11_safeOnes (some .int) 3 G) {r0 : Int32} {X0 : SM} (k4 : Int32 → Int32 → SM → Option (Int32 × SM)) (hk4 : ∀ (x1 : Int32) (x2 : Int32) (X : SM), k4 x1 x2 X = some (r0, X0) → ∀ {H : Heap} {locs : List Loc}, va_P G.1 g_cl (wd G (cb X M) τ) H → va_S (g_A G) s.heap H locs → ∀ {ls : Array Slot}, lv_has ls 3 [(0, .ref (G.2.1 11 0)), (1, .int x1), (2, .int x2)] → W p l e rm_X11_safeOnes s m args below meth c H locs 0 0 (MQ below (va_Qi (fun r u => r = r0 ∧ u = (X0, M, τ)) (g_pw G) (g_A G)) args s 0 0 (g_A G)) (F0 m 4 ls [])) (x1 : Int32) (x2 : Int32) (X : SM) (hf : wb_X11_safeOnes_4 k4 x1 x2 X = some (r0, X0)) {H : Heap} {locs : List Loc} (hP : va_P G.1 g_cl (wd G (cb X M) τ) H) (hS : va_S (g_A G) s.heap H locs) {ls : Array Slot} (hl : lv_has ls 3 [(0, .ref (G.2.1 11 0)), (1, .int x1), (2, .int x2)]) : W p l e rm_X11_safeOnes s m args below meth c H locs 0 0 (MQ below (va_Qi (fun r u => r = r0 ∧ u = (X0, M, τ)) (g_pw G) (g_A G)) args s 0 0 (g_A G)) (F0 m 4 ls []) := by
  obtain ⟨hx, hb, hr, hml, hown, hts, hlocks, hC⟩ := id C0
  unfold wb_X11_safeOnes_4 at hf
  refine lv_iload_n hx hb dX11_safeOnes_4 rfl (lv_at hl 2 rfl) ?_
  refine lv_bipush (v := 6) hx hb dX11_safeOnes_5 (by decide) ?_
  refine lv_icmp_ge (tgt := 30) hx hb dX11_safeOnes_7 (by decide) (fun hc_1 => ?_) (fun hc_1 => ?_)
  · have hf := g_pos hf hc_1
    refine lv_iload_n hx hb dX11_safeOnes_30 rfl (lv_at hl 1 rfl) ?_
    cases hf
    exact x_iret hx hb hlocks hC hP hS hr dX11_safeOnes_31
  · have hf := g_neg hf hc_1
    refine lv_aload_n hx hb dX11_safeOnes_10 rfl (lv_at hl 0 rfl) ?_
    refine lv_iload_n hx hb dX11_safeOnes_11 rfl (lv_at hl 2 rfl) ?_
    obtain ⟨⟨r_2, X_3⟩, hc_4, hf⟩ := g_bindE hf
    refine x_calli (v := (X_3, M, τ)) (va_runV (As := [.int x2]) (rest := []) ⟨hx, hb, hml, hown, hts⟩ (ct_X11_isSafe l G X M τ x2 hc_4) (cwV 1 hts gd_X11_234 rfl rfl rfl hd_X11_isSafe ⟨Nat.le_of_ble_eq_true rfl, Nat.le_of_ble_eq_true rfl⟩) (x_preV (u := (X, M, τ)) (k := 11) (ci := 11) hC hS hP Nat.zero_lt_one rfl rfl) rfl rfl hl.1 rfl (lv_room (Nat.le_of_ble_eq_true rfl)) dX11_safeOnes_12 ⟨Nat.zero_le _, Nat.zero_le _⟩) hS (fun H locs hP hS => ?_)
    refine lv_if_eq (tgt := 24) hx hb dX11_safeOnes_15 (by decide) (fun hc_5 => ?_) (fun hc_5 => ?_)
    · have hf := g_pos hf hc_5
      obtain ⟨x2_6, ex2_6, hf⟩ := g_letE hf
      refine lv_iinc (v := x2_6) (lv' := [(2, .int x2_6), (0, .ref (G.2.1 11 0)), (1, .int x1)]) hx hb dX11_safeOnes_24 hl (k := 2) rfl (by rw [← ex2_6]; rfl) (by decide) rfl (fun ls hl => ?_)
      refine lv_goto (tgt := 4) hx hb dX11_safeOnes_27 (by decide) ?_
      exact hk4 x1 x2_6 X_3 hf hP hS (lv_sub hl [1, 2, 0] rfl)
    · have hf := g_neg hf hc_5
      refine lv_iload_n hx hb dX11_safeOnes_18 rfl (lv_at hl 1 rfl) ?_
      refine lv_iconst (v := 1) hx hb dX11_safeOnes_19 (by decide) ?_
      refine lv_iload_n hx hb dX11_safeOnes_20 rfl (lv_at hl 2 rfl) ?_
      refine lv_ishl hx hb dX11_safeOnes_21 ?_
      refine lv_ior hx hb dX11_safeOnes_22 ?_
      obtain ⟨x1_7, ex1_7, hf⟩ := g_letE hf
      refine lv_topE ex1_7 ?_
      refine lv_istore_n (lv' := [(1, .int x1_7), (0, .ref (G.2.1 11 0)), (2, .int x2)]) hx hb dX11_safeOnes_23 rfl hl (by decide) rfl (fun ls hl => ?_)
      obtain ⟨x2_8, ex2_8, hf⟩ := g_letE hf
      refine lv_iinc (v := x2_8) (lv' := [(2, .int x2_8), (1, .int x1_7), (0, .ref (G.2.1 11 0))]) hx hb dX11_safeOnes_24 hl (k := 2) rfl (by rw [← ex2_8]; rfl) (by decide) rfl (fun ls hl => ?_)
      refine lv_goto (tgt := 4) hx hb dX11_safeOnes_27 (by decide) ?_
      exact hk4 x1_7 x2_8 X_3 hf hP hS (lv_sub hl [2, 1, 0] rfl)
def wl_X11_safeOnes_4 (n : Nat) (x1 : Int32) (x2 : Int32) (X : SM) : Option (Int32 × SM) := g_loop (α := Int32 × Int32 × SM) (fun k a => wb_X11_safeOnes_4 (fun x1 x2 X => k (x1, x2, X)) a.1 a.2.1 a.2.2) n (x1, x2, X)
set_option maxRecDepth 100000 in
set_option maxHeartbeats 4000000 in
theorem lp_X11_safeOnes_4 {p : Program} {l : Launch} {e : Env} {s : State} {m : MethodId} {args : Array Value} {below : List Frame} {meth : Method} {c : Code} {G : GP} {M : SM} {τ : SL} (C0 : g_mc p s m args meth c RX11 cX11_safeOnes (some .int) 3 G) {r0 : Int32} {X0 : SM} (n : Nat) : ∀ (x1 : Int32) (x2 : Int32) (X : SM), wl_X11_safeOnes_4 n x1 x2 X = some (r0, X0) → ∀ {H : Heap} {locs : List Loc}, va_P G.1 g_cl (wd G (cb X M) τ) H → va_S (g_A G) s.heap H locs → ∀ {ls : Array Slot}, lv_has ls 3 [(0, .ref (G.2.1 11 0)), (1, .int x1), (2, .int x2)] → W p l e rm_X11_safeOnes s m args below meth c H locs 0 0 (MQ below (va_Qi (fun r u => r = r0 ∧ u = (X0, M, τ)) (g_pw G) (g_A G)) args s 0 0 (g_A G)) (F0 m 4 ls []) := by
  induction n with
  | zero =>
    intro x1 x2 X hf
    have hf : (none : Option (Int32 × SM)) = _ := hf
    cases hf
  | succ n ih =>
    intro x1 x2 X hf H locs hP hS ls hl
    exact bk_X11_safeOnes_4 C0   (fun x1 x2 X => wl_X11_safeOnes_4   n x1 x2 X) ih x1 x2 X hf hP hS hl
def fn_X11_safeOnes (X : SM) : Option (Int32 × SM) :=
  wl_X11_safeOnes_4 1000 0 0 X
set_option maxRecDepth 100000 in
set_option maxHeartbeats 4000000 in
theorem wk_X11_safeOnes {p : Program} {l : Launch} {e : Env} {s : State} {m : MethodId} {args : Array Value} {below : List Frame} {meth : Method} {c : Code} {G : GP} {M : SM} {τ : SL} (C0 : g_mc p s m args meth c RX11 cX11_safeOnes (some .int) 3 G) {r0 : Int32} {X0 : SM} (X : SM) (hf : fn_X11_safeOnes X = some (r0, X0)) {H : Heap} {locs : List Loc} (hP : va_P G.1 g_cl (wd G (cb X M) τ) H) (hS : va_S (g_A G) s.heap H locs) {ls : Array Slot} (hl : lv_has ls 3 [(0, .ref (G.2.1 11 0))]) : W p l e rm_X11_safeOnes s m args below meth c H locs 0 0 (MQ below (va_Qi (fun r u => r = r0 ∧ u = (X0, M, τ)) (g_pw G) (g_A G)) args s 0 0 (g_A G)) (F0 m 0 ls []) := by
  obtain ⟨hx, hb, hr, hml, hown, hts, hlocks, hC⟩ := id C0
  unfold fn_X11_safeOnes at hf
  refine lv_iconst (v := 0) hx hb dX11_safeOnes_0 (by decide) ?_
  refine lv_istore_n (lv' := [(1, .int 0), (0, .ref (G.2.1 11 0))]) hx hb dX11_safeOnes_1 rfl hl (by decide) rfl (fun ls hl => ?_)
  refine lv_iconst (v := 0) hx hb dX11_safeOnes_2 (by decide) ?_
  refine lv_istore_n (lv' := [(2, .int 0), (1, .int 0), (0, .ref (G.2.1 11 0))]) hx hb dX11_safeOnes_3 rfl hl (by decide) rfl (fun ls hl => ?_)
  exact lp_X11_safeOnes_4 C0 1000 0 0 X hf hP hS (lv_sub hl [2, 1, 0] rfl)
set_option maxRecDepth 100000 in
set_option maxHeartbeats 4000000 in
theorem ct_X11_safeOnes (l : Launch) (G : GP) (X M : SM) (τ : SL) {r0 : Int32} {X0 : SM} (hf : fn_X11_safeOnes X = some (r0, X0)) : Met l yX11_safeOnes (wz yX11_safeOnes cX11_safeOnes 3 (some .int)) rm_X11_safeOnes (va_Pc [.ref (G.2.1 11 0)] (g_pw G (X, M, τ))) (va_Qi (fun r u => r = r0 ∧ u = (X0, M, τ)) (g_pw G) (g_A G)) 0 0 (g_A G) := by
  refine Met.ofW (cc := cX11_safeOnes) (maxL := 3) (ret := (some .int)) (by decide +kernel) rfl ?_
  intro p e s m args below meth c s₁ B hml hv
  obtain ⟨rfl, hC, hP⟩ := hv
  have C0 : g_mc p s m _ meth c RX11 cX11_safeOnes (some .int) 3 G := ⟨B.exec, B.bytes, B.returns, hml, findClass_of_methodNamed B.named, fun w h => atoms_spec (ws := wz yX11_safeOnes cX11_safeOnes 3 (some .int)) B.pre w (List.mem_cons_of_mem _ h), B.notSynchronized, hC⟩
  have hl := lv_entry ([.ref (G.2.1 11 0)]) (n := 3) (Nat.le_of_ble_eq_true rfl)
  rw [lg_entry_eq]
  generalize (lg_sl ([.ref (G.2.1 11 0)]) ++ List.replicate (3 - (lg_sl ([.ref (G.2.1 11 0)])).length) Slot.unset).toArray = ls at hl ⊢
  exact wk_X11_safeOnes C0  X hf hP va_S.rf hl
abbrev rm_X11_count : Room := { frames := 6, cells := 0, slots := 0, locals := 142 }
def fn_X11_count (x1 : Int32) (X : SM) : Option (Int32 × SM) :=
  if x1 = 0 then
  (some ((X 7 0 5), X))
  else
  (if x1 = 1 then
    (some ((X 10 0 1), X))
    else
    (if x1 = 2 then
      ((fn_X10_owned (-1) X).bind fun r_6 =>
        some (r_6, X))
      else
      (if x1 = 3 then
        (some ((X 7 0 7), X))
        else
        (if x1 = 4 then
          (some ((X 7 0 6), X))
          else
          (if x1 = 5 then
            (some ((X 7 0 8), X))
            else
            (if x1 = 6 then
              (some ((X 3 0 2), X))
              else
              (if x1 = 7 then
                (some ((X 5 0 3), X))
                else
                (if x1 = 8 then
                  (some ((X 7 0 9), X))
                  else
                  (if x1 = 9 then
                    (some ((X 7 0 10), X))
                    else
                    (if x1 = 10 then
                      ((fn_X7_trapped 0 X).bind fun r_4 =>
                        some (r_4, X))
                      else
                      (if x1 = 11 then
                        ((fn_X11_safeOnes X).bind fun (r_1, X_2) =>
                          some (r_1, X_2))
                        else
                        (if x1 = 12 then
                          (some ((X 7 0 11), X))
                          else
                          (some ((-1), X))))))))))))))
set_option maxRecDepth 100000 in
set_option maxHeartbeats 4000000 in
theorem wk_X11_count {p : Program} {l : Launch} {e : Env} {s : State} {m : MethodId} {args : Array Value} {below : List Frame} {meth : Method} {c : Code} {G : GP} {M : SM} {τ : SL} (C0 : g_mc p s m args meth c RX11 cX11_count (some .int) 2 G) {r0 : Int32} {X0 : SM} (x1 : Int32) (X : SM) (hf : fn_X11_count x1 X = some (r0, X0)) {H : Heap} {locs : List Loc} (hP : va_P G.1 g_cl (wd G (cb X M) τ) H) (hS : va_S (g_A G) s.heap H locs) {ls : Array Slot} (hl : lv_has ls 2 [(0, .ref (G.2.1 11 0)), (1, .int x1)]) : W p l e rm_X11_count s m args below meth c H locs 0 0 (MQ below (va_Qi (fun r u => r = r0 ∧ u = (X0, M, τ)) (g_pw G) (g_A G)) args s 0 0 (g_A G)) (F0 m 0 ls []) := by
  obtain ⟨hx, hb, hr, hml, hown, hts, hlocks, hC⟩ := id C0
  unfold fn_X11_count at hf
  refine lv_iload_n hx hb dX11_count_0 rfl (lv_at hl 1 rfl) ?_
  by_cases hs1_0 : x1 = 0
  · have hf := g_pos hf hs1_0
    refine lv_tableIn (off := 67) (tgt := 68) hx hb dX11_count_1 (by rw [hs1_0]; decide) (by rw [hs1_0]; decide) (by rw [hs1_0]; rfl) (by decide) ?_
    refine lv_aload_n hx hb dX11_count_68 rfl (lv_at hl 0 rfl) ?_
    refine gt_11_2 hx hb hts hown hC hP Nat.zero_lt_one q2_0 dX11_count_69 ?_
    refine gt_7_5 hx hb hts hown hC hP (by decide) q12_12 dX11_count_72 ?_
    cases hf
    exact x_iret hx hb hlocks hC hP hS hr dX11_count_75
  · have hf := g_neg hf hs1_0
    by_cases hs1_1 : x1 = 1
    · have hf := g_pos hf hs1_1
      refine lv_tableIn (off := 75) (tgt := 76) hx hb dX11_count_1 (by rw [hs1_1]; decide) (by rw [hs1_1]; decide) (by rw [hs1_1]; rfl) (by decide) ?_
      refine lv_aload_n hx hb dX11_count_76 rfl (lv_at hl 0 rfl) ?_
      refine gt_11_0 hx hb hts hown hC hP Nat.zero_lt_one q1_16 dX11_count_77 ?_
      refine gt_10_1 hx hb hts hown hC hP Nat.zero_lt_one q44_7 dX11_count_80 ?_
      cases hf
      exact x_iret hx hb hlocks hC hP hS hr dX11_count_83
    · have hf := g_neg hf hs1_1
      by_cases hs1_2 : x1 = 2
      · have hf := g_pos hf hs1_2
        refine lv_tableIn (off := 83) (tgt := 84) hx hb dX11_count_1 (by rw [hs1_2]; decide) (by rw [hs1_2]; decide) (by rw [hs1_2]; rfl) (by decide) ?_
        refine lv_aload_n hx hb dX11_count_84 rfl (lv_at hl 0 rfl) ?_
        refine gt_11_0 hx hb hts hown hC hP Nat.zero_lt_one q1_16 dX11_count_85 ?_
        refine lv_iconst (v := (-1)) hx hb dX11_count_88 (by decide) ?_
        obtain ⟨r_6, hc_7, hf⟩ := g_bindE hf
        refine x_calli (v := (X, M, τ)) (va_runV (As := [.int (-1)]) (rest := []) ⟨hx, hb, hml, hown, hts⟩ (ct_X10_owned l G X M τ (-1) hc_7) (cwV 1 hts gd_X11_261 rfl rfl rfl hd_X10_owned ⟨Nat.le_of_ble_eq_true rfl, Nat.le_of_ble_eq_true rfl⟩) (x_preV (u := (X, M, τ)) (k := 10) (ci := 10) hC hS hP Nat.zero_lt_one rfl rfl) rfl rfl hl.1 rfl (lv_room (Nat.le_of_ble_eq_true rfl)) dX11_count_89 ⟨Nat.zero_le _, Nat.zero_le _⟩) hS (fun H locs hP hS => ?_)
        cases hf
        exact x_iret hx hb hlocks hC hP hS hr dX11_count_92
      · have hf := g_neg hf hs1_2
        by_cases hs1_3 : x1 = 3
        · have hf := g_pos hf hs1_3
          refine lv_tableIn (off := 92) (tgt := 93) hx hb dX11_count_1 (by rw [hs1_3]; decide) (by rw [hs1_3]; decide) (by rw [hs1_3]; rfl) (by decide) ?_
          refine lv_aload_n hx hb dX11_count_93 rfl (lv_at hl 0 rfl) ?_
          refine gt_11_2 hx hb hts hown hC hP Nat.zero_lt_one q2_0 dX11_count_94 ?_
          refine gt_7_7 hx hb hts hown hC hP (by decide) q44_8 dX11_count_97 ?_
          cases hf
          exact x_iret hx hb hlocks hC hP hS hr dX11_count_100
        · have hf := g_neg hf hs1_3
          by_cases hs1_4 : x1 = 4
          · have hf := g_pos hf hs1_4
            refine lv_tableIn (off := 100) (tgt := 101) hx hb dX11_count_1 (by rw [hs1_4]; decide) (by rw [hs1_4]; decide) (by rw [hs1_4]; rfl) (by decide) ?_
            refine lv_aload_n hx hb dX11_count_101 rfl (lv_at hl 0 rfl) ?_
            refine gt_11_2 hx hb hts hown hC hP Nat.zero_lt_one q2_0 dX11_count_102 ?_
            refine gt_7_6 hx hb hts hown hC hP (by decide) q44_9 dX11_count_105 ?_
            cases hf
            exact x_iret hx hb hlocks hC hP hS hr dX11_count_108
          · have hf := g_neg hf hs1_4
            by_cases hs1_5 : x1 = 5
            · have hf := g_pos hf hs1_5
              refine lv_tableIn (off := 108) (tgt := 109) hx hb dX11_count_1 (by rw [hs1_5]; decide) (by rw [hs1_5]; decide) (by rw [hs1_5]; rfl) (by decide) ?_
              refine lv_aload_n hx hb dX11_count_109 rfl (lv_at hl 0 rfl) ?_
              refine gt_11_2 hx hb hts hown hC hP Nat.zero_lt_one q2_0 dX11_count_110 ?_
              refine gt_7_8 hx hb hts hown hC hP (by decide) q44_10 dX11_count_113 ?_
              cases hf
              exact x_iret hx hb hlocks hC hP hS hr dX11_count_116
            · have hf := g_neg hf hs1_5
              by_cases hs1_6 : x1 = 6
              · have hf := g_pos hf hs1_6
                refine lv_tableIn (off := 116) (tgt := 117) hx hb dX11_count_1 (by rw [hs1_6]; decide) (by rw [hs1_6]; decide) (by rw [hs1_6]; rfl) (by decide) ?_
                refine lv_aload_n hx hb dX11_count_117 rfl (lv_at hl 0 rfl) ?_
                refine gt_11_2 hx hb hts hown hC hP Nat.zero_lt_one q2_0 dX11_count_118 ?_
                refine gt_7_1 hx hb hts hown hC hP (by decide) q11_21 dX11_count_121 ?_
                refine gt_8_2 hx hb hts hown hC hP (by decide) q34_0 dX11_count_124 ?_
                refine gt_3_2 hx hb hts hown hC hP (by decide) q44_11 dX11_count_127 ?_
                cases hf
                exact x_iret hx hb hlocks hC hP hS hr dX11_count_130
              · have hf := g_neg hf hs1_6
                by_cases hs1_7 : x1 = 7
                · have hf := g_pos hf hs1_7
                  refine lv_tableIn (off := 130) (tgt := 131) hx hb dX11_count_1 (by rw [hs1_7]; decide) (by rw [hs1_7]; decide) (by rw [hs1_7]; rfl) (by decide) ?_
                  refine lv_aload_n hx hb dX11_count_131 rfl (lv_at hl 0 rfl) ?_
                  refine gt_11_1 hx hb hts hown hC hP Nat.zero_lt_one q1_20 dX11_count_132 ?_
                  refine gt_5_3 hx hb hts hown hC hP Nat.zero_lt_one q44_12 dX11_count_135 ?_
                  cases hf
                  exact x_iret hx hb hlocks hC hP hS hr dX11_count_138
                · have hf := g_neg hf hs1_7
                  by_cases hs1_8 : x1 = 8
                  · have hf := g_pos hf hs1_8
                    refine lv_tableIn (off := 138) (tgt := 139) hx hb dX11_count_1 (by rw [hs1_8]; decide) (by rw [hs1_8]; decide) (by rw [hs1_8]; rfl) (by decide) ?_
                    refine lv_aload_n hx hb dX11_count_139 rfl (lv_at hl 0 rfl) ?_
                    refine gt_11_2 hx hb hts hown hC hP Nat.zero_lt_one q2_0 dX11_count_140 ?_
                    refine gt_7_9 hx hb hts hown hC hP (by decide) q44_13 dX11_count_143 ?_
                    cases hf
                    exact x_iret hx hb hlocks hC hP hS hr dX11_count_146
                  · have hf := g_neg hf hs1_8
                    by_cases hs1_9 : x1 = 9
                    · have hf := g_pos hf hs1_9
                      refine lv_tableIn (off := 146) (tgt := 147) hx hb dX11_count_1 (by rw [hs1_9]; decide) (by rw [hs1_9]; decide) (by rw [hs1_9]; rfl) (by decide) ?_
                      refine lv_aload_n hx hb dX11_count_147 rfl (lv_at hl 0 rfl) ?_
                      refine gt_11_2 hx hb hts hown hC hP Nat.zero_lt_one q2_0 dX11_count_148 ?_
                      refine gt_7_10 hx hb hts hown hC hP (by decide) q44_14 dX11_count_151 ?_
                      cases hf
                      exact x_iret hx hb hlocks hC hP hS hr dX11_count_154
                    · have hf := g_neg hf hs1_9
                      by_cases hs1_10 : x1 = 10
                      · have hf := g_pos hf hs1_10
                        refine lv_tableIn (off := 154) (tgt := 155) hx hb dX11_count_1 (by rw [hs1_10]; decide) (by rw [hs1_10]; decide) (by rw [hs1_10]; rfl) (by decide) ?_
                        refine lv_aload_n hx hb dX11_count_155 rfl (lv_at hl 0 rfl) ?_
                        refine gt_11_2 hx hb hts hown hC hP Nat.zero_lt_one q2_0 dX11_count_156 ?_
                        obtain ⟨r_4, hc_5, hf⟩ := g_bindE hf
                        refine x_calli (v := (X, M, τ)) (va_runV (As := []) (rest := []) ⟨hx, hb, hml, hown, hts⟩ (ct_X7_trapped l G X M τ 0 (by decide) hc_5) (cwV 0 hts gd_X11_277 rfl rfl rfl hd_X7_trapped ⟨Nat.le_of_ble_eq_true rfl, Nat.le_of_ble_eq_true rfl⟩) (x_preV (u := (X, M, τ)) (k := 7) (ci := 7) hC hS hP (by decide) rfl rfl) rfl rfl hl.1 rfl (lv_room (Nat.le_of_ble_eq_true rfl)) dX11_count_159 ⟨Nat.zero_le _, Nat.zero_le _⟩) hS (fun H locs hP hS => ?_)
                        cases hf
                        exact x_iret hx hb hlocks hC hP hS hr dX11_count_162
                      · have hf := g_neg hf hs1_10
                        by_cases hs1_11 : x1 = 11
                        · have hf := g_pos hf hs1_11
                          refine lv_tableIn (off := 162) (tgt := 163) hx hb dX11_count_1 (by rw [hs1_11]; decide) (by rw [hs1_11]; decide) (by rw [hs1_11]; rfl) (by decide) ?_
                          refine lv_aload_n hx hb dX11_count_163 rfl (lv_at hl 0 rfl) ?_
                          obtain ⟨⟨r_1, X_2⟩, hc_3, hf⟩ := g_bindE hf
                          refine x_calli (v := (X_2, M, τ)) (va_runV (As := []) (rest := []) ⟨hx, hb, hml, hown, hts⟩ (ct_X11_safeOnes l G X M τ  hc_3) (cwV 0 hts gd_X11_280 rfl rfl rfl hd_X11_safeOnes ⟨Nat.le_of_ble_eq_true rfl, Nat.le_of_ble_eq_true rfl⟩) (x_preV (u := (X, M, τ)) (k := 11) (ci := 11) hC hS hP Nat.zero_lt_one rfl rfl) rfl rfl hl.1 rfl (lv_room (Nat.le_of_ble_eq_true rfl)) dX11_count_164 ⟨Nat.zero_le _, Nat.zero_le _⟩) hS (fun H locs hP hS => ?_)
                          cases hf
                          exact x_iret hx hb hlocks hC hP hS hr dX11_count_167
                        · have hf := g_neg hf hs1_11
                          by_cases hs1_12 : x1 = 12
                          · have hf := g_pos hf hs1_12
                            refine lv_tableIn (off := 167) (tgt := 168) hx hb dX11_count_1 (by rw [hs1_12]; decide) (by rw [hs1_12]; decide) (by rw [hs1_12]; rfl) (by decide) ?_
                            refine lv_aload_n hx hb dX11_count_168 rfl (lv_at hl 0 rfl) ?_
                            refine gt_11_2 hx hb hts hown hC hP Nat.zero_lt_one q2_0 dX11_count_169 ?_
                            refine gt_7_11 hx hb hts hown hC hP (by decide) q44_15 dX11_count_172 ?_
                            cases hf
                            exact x_iret hx hb hlocks hC hP hS hr dX11_count_175
                          · have hf := g_neg hf hs1_12
                            have nhs1_0 : x1.toInt ≠ 0 := fun h => hs1_0 (Int32.toInt_inj.mp (by rw [h]; rfl))
                            have nhs1_1 : x1.toInt ≠ 1 := fun h => hs1_1 (Int32.toInt_inj.mp (by rw [h]; rfl))
                            have nhs1_2 : x1.toInt ≠ 2 := fun h => hs1_2 (Int32.toInt_inj.mp (by rw [h]; rfl))
                            have nhs1_3 : x1.toInt ≠ 3 := fun h => hs1_3 (Int32.toInt_inj.mp (by rw [h]; rfl))
                            have nhs1_4 : x1.toInt ≠ 4 := fun h => hs1_4 (Int32.toInt_inj.mp (by rw [h]; rfl))
                            have nhs1_5 : x1.toInt ≠ 5 := fun h => hs1_5 (Int32.toInt_inj.mp (by rw [h]; rfl))
                            have nhs1_6 : x1.toInt ≠ 6 := fun h => hs1_6 (Int32.toInt_inj.mp (by rw [h]; rfl))
                            have nhs1_7 : x1.toInt ≠ 7 := fun h => hs1_7 (Int32.toInt_inj.mp (by rw [h]; rfl))
                            have nhs1_8 : x1.toInt ≠ 8 := fun h => hs1_8 (Int32.toInt_inj.mp (by rw [h]; rfl))
                            have nhs1_9 : x1.toInt ≠ 9 := fun h => hs1_9 (Int32.toInt_inj.mp (by rw [h]; rfl))
                            have nhs1_10 : x1.toInt ≠ 10 := fun h => hs1_10 (Int32.toInt_inj.mp (by rw [h]; rfl))
                            have nhs1_11 : x1.toInt ≠ 11 := fun h => hs1_11 (Int32.toInt_inj.mp (by rw [h]; rfl))
                            have nhs1_12 : x1.toInt ≠ 12 := fun h => hs1_12 (Int32.toInt_inj.mp (by rw [h]; rfl))
                            refine lv_tableOut (tgt := 176) hx hb dX11_count_1 (by omega) (by decide) ?_
                            refine lv_iconst (v := (-1)) hx hb dX11_count_176 (by decide) ?_
                            cases hf
                            exact x_iret hx hb hlocks hC hP hS hr dX11_count_177
set_option maxRecDepth 100000 in
set_option maxHeartbeats 4000000 in
theorem ct_X11_count (l : Launch) (G : GP) (X M : SM) (τ : SL) (x1 : Int32) {r0 : Int32} {X0 : SM} (hf : fn_X11_count x1 X = some (r0, X0)) : Met l yX11_count (wz yX11_count cX11_count 2 (some .int)) rm_X11_count (va_Pc [.ref (G.2.1 11 0), .int x1] (g_pw G (X, M, τ))) (va_Qi (fun r u => r = r0 ∧ u = (X0, M, τ)) (g_pw G) (g_A G)) 0 0 (g_A G) := by
  refine Met.ofW (cc := cX11_count) (maxL := 2) (ret := (some .int)) (by decide +kernel) rfl ?_
  intro p e s m args below meth c s₁ B hml hv
  obtain ⟨rfl, hC, hP⟩ := hv
  have C0 : g_mc p s m _ meth c RX11 cX11_count (some .int) 2 G := ⟨B.exec, B.bytes, B.returns, hml, findClass_of_methodNamed B.named, fun w h => atoms_spec (ws := wz yX11_count cX11_count 2 (some .int)) B.pre w (List.mem_cons_of_mem _ h), B.notSynchronized, hC⟩
  have hl := lv_entry ([.ref (G.2.1 11 0), .int x1]) (n := 2) (Nat.le_of_ble_eq_true rfl)
  rw [lg_entry_eq]
  generalize (lg_sl ([.ref (G.2.1 11 0), .int x1]) ++ List.replicate (2 - (lg_sl ([.ref (G.2.1 11 0), .int x1])).length) Slot.unset).toArray = ls at hl ⊢
  exact wk_X11_count C0  x1 X hf hP va_S.rf hl
abbrev rm_X11_due : Room := { frames := 1, cells := 0, slots := 0, locals := 20 }
def fn_X11_due (x1 : Int32) (x2 : Int32) (X : SM) : Option (Int32 × SM) :=
  g_let (fn_X11_isThread x1) fun r_1 =>
  if r_1 = 0 then
  (some ((-1), X))
  else
  (if x2 < 0 then
    (some ((-1), X))
    else
    (if x2 ≤ 9999 then
      (if g_in x1 6 then
        g_let ((X 35 0 (x1.toNatClampNeg))) fun x3_7 =>
        if g_in x1 6 then
        g_let (u1 X 35 0 (x1.toNatClampNeg) x2) fun X_9 =>
        some (x3_7, X_9)
        else none
        else none)
      else
      (some ((-1), X))))
set_option maxRecDepth 100000 in
set_option maxHeartbeats 4000000 in
theorem wk_X11_due {p : Program} {l : Launch} {e : Env} {s : State} {m : MethodId} {args : Array Value} {below : List Frame} {meth : Method} {c : Code} {G : GP} {M : SM} {τ : SL} (C0 : g_mc p s m args meth c RX11 cX11_due (some .int) 4 G) {r0 : Int32} {X0 : SM} (x1 : Int32) (x2 : Int32) (X : SM) (hf : fn_X11_due x1 x2 X = some (r0, X0)) {H : Heap} {locs : List Loc} (hP : va_P G.1 g_cl (wd G (cb X M) τ) H) (hS : va_S (g_A G) s.heap H locs) {ls : Array Slot} (hl : lv_has ls 4 [(0, .ref (G.2.1 11 0)), (1, .int x1), (2, .int x2)]) : W p l e rm_X11_due s m args below meth c H locs 0 0 (MQ below (va_Qi (fun r u => r = r0 ∧ u = (X0, M, τ)) (g_pw G) (g_A G)) args s 0 0 (g_A G)) (F0 m 0 ls []) := by
  obtain ⟨hx, hb, hr, hml, hown, hts, hlocks, hC⟩ := id C0
  unfold fn_X11_due at hf
  refine lv_iload_n hx hb dX11_due_0 rfl (lv_at hl 1 rfl) ?_
  obtain ⟨r_1, hc_2, hf⟩ := g_letE hf
  refine x_calli (v := (X, M, τ)) (va_runS (As := [.int x1]) (rest := []) ⟨hx, hb, hml, hown, hts⟩ (ct_X11_isThread l G X M τ x1 hc_2) (cwS 1 hts gd_X11_56 rfl rfl rfl hd_X11_isThread ⟨Nat.le_of_ble_eq_true rfl, Nat.le_of_ble_eq_true rfl⟩) (x_pre (u := (X, M, τ)) hC hS hP) rfl rfl hl.1 rfl (lv_room (Nat.le_of_ble_eq_true rfl)) dX11_due_1 ⟨Nat.zero_le _, Nat.zero_le _⟩) hS (fun H locs hP hS => ?_)
  refine lv_if_eq (tgt := 18) hx hb dX11_due_4 (by decide) (fun hc_3 => ?_) (fun hc_3 => ?_)
  · have hf := g_pos hf hc_3
    refine lv_iconst (v := (-1)) hx hb dX11_due_18 (by decide) ?_
    cases hf
    exact x_iret hx hb hlocks hC hP hS hr dX11_due_19
  · have hf := g_neg hf hc_3
    refine lv_iload_n hx hb dX11_due_7 rfl (lv_at hl 2 rfl) ?_
    refine lv_if_lt (tgt := 18) hx hb dX11_due_8 (by decide) (fun hc_4 => ?_) (fun hc_4 => ?_)
    · have hf := g_pos hf hc_4
      refine lv_iconst (v := (-1)) hx hb dX11_due_18 (by decide) ?_
      cases hf
      exact x_iret hx hb hlocks hC hP hS hr dX11_due_19
    · have hf := g_neg hf hc_4
      refine lv_iload_n hx hb dX11_due_11 rfl (lv_at hl 2 rfl) ?_
      refine lv_sipush (v := 9999) hx hb dX11_due_12 (by decide) ?_
      refine lv_icmp_le (tgt := 20) hx hb dX11_due_15 (by decide) (fun hc_5 => ?_) (fun hc_5 => ?_)
      · have hf := g_pos hf hc_5
        refine lv_aload_n hx hb dX11_due_20 rfl (lv_at hl 0 rfl) ?_
        refine gt_11_6 hx hb hts hown hC hP Nat.zero_lt_one q2_11 dX11_due_21 ?_
        refine lv_iload_n hx hb dX11_due_24 rfl (lv_at hl 1 rfl) ?_
        obtain ⟨hg_6, hf⟩ := g_gd hf
        refine xildX (k := 35) (n := 6) hx hb hC hP (fun _ _ => rfl) rfl Nat.zero_lt_one hg_6 dX11_due_25 ?_
        obtain ⟨x3_7, ex3_7, hf⟩ := g_letE hf
        refine lv_topE ex3_7 ?_
        refine lv_istore_n (lv' := [(3, .int x3_7), (0, .ref (G.2.1 11 0)), (1, .int x1), (2, .int x2)]) hx hb dX11_due_26 rfl hl (by decide) rfl (fun ls hl => ?_)
        refine lv_aload_n hx hb dX11_due_27 rfl (lv_at hl 1 rfl) ?_
        refine gt_11_6 hx hb hts hown hC hP Nat.zero_lt_one q2_11 dX11_due_28 ?_
        refine lv_iload_n hx hb dX11_due_31 rfl (lv_at hl 2 rfl) ?_
        refine lv_iload_n hx hb dX11_due_32 rfl (lv_at hl 3 rfl) ?_
        obtain ⟨hg_8, hf⟩ := g_gd hf
        obtain ⟨X_9, eX_9, hf⟩ := g_letE hf
        refine xistX (k := 35) (n := 6) hx hb hC hP hS (fun _ _ => rfl) rfl Nat.zero_lt_one hg_8 dX11_due_33 (fun H locs hP hS => ?_)
        rw [eX_9] at hP
        refine lv_iload_n hx hb dX11_due_34 rfl (lv_at hl 0 rfl) ?_
        cases hf
        exact x_iret hx hb hlocks hC hP hS hr dX11_due_35
      · have hf := g_neg hf hc_5
        refine lv_iconst (v := (-1)) hx hb dX11_due_18 (by decide) ?_
        cases hf
        exact x_iret hx hb hlocks hC hP hS hr dX11_due_19
set_option maxRecDepth 100000 in
set_option maxHeartbeats 4000000 in
theorem ct_X11_due (l : Launch) (G : GP) (X M : SM) (τ : SL) (x1 : Int32) (x2 : Int32) {r0 : Int32} {X0 : SM} (hf : fn_X11_due x1 x2 X = some (r0, X0)) : Met l yX11_due (wz yX11_due cX11_due 4 (some .int)) rm_X11_due (va_Pc [.ref (G.2.1 11 0), .int x1, .int x2] (g_pw G (X, M, τ))) (va_Qi (fun r u => r = r0 ∧ u = (X0, M, τ)) (g_pw G) (g_A G)) 0 0 (g_A G) := by
  refine Met.ofW (cc := cX11_due) (maxL := 4) (ret := (some .int)) (by decide +kernel) rfl ?_
  intro p e s m args below meth c s₁ B hml hv
  obtain ⟨rfl, hC, hP⟩ := hv
  have C0 : g_mc p s m _ meth c RX11 cX11_due (some .int) 4 G := ⟨B.exec, B.bytes, B.returns, hml, findClass_of_methodNamed B.named, fun w h => atoms_spec (ws := wz yX11_due cX11_due 4 (some .int)) B.pre w (List.mem_cons_of_mem _ h), B.notSynchronized, hC⟩
  have hl := lv_entry ([.ref (G.2.1 11 0), .int x1, .int x2]) (n := 4) (Nat.le_of_ble_eq_true rfl)
  rw [lg_entry_eq]
  generalize (lg_sl ([.ref (G.2.1 11 0), .int x1, .int x2]) ++ List.replicate (4 - (lg_sl ([.ref (G.2.1 11 0), .int x1, .int x2])).length) Slot.unset).toArray = ls at hl ⊢
  exact wk_X11_due C0  x1 x2 X hf hP va_S.rf hl
abbrev rm_X3_look : Room := { frames := 0, cells := 0, slots := 0, locals := 0 }
def fn_X3_look (t0 : Nat) (x1 : Int32) (x2 : Int32) (X : SM) : Option (Int32) :=
  if x1 < 0 then
  (some (-1))
  else
  (if (X 3 t0 2) ≤ x1 then
    (some (-1))
    else
    (if x2 < 0 then
      (some (-1))
      else
      (if x2 ≤ 3 then
        (g_let ((((X 3 t0 1) - 1) - x1)) fun x3_5 =>
          if 0 ≤ x3_5 then
          (g_let (((4 * x3_5) + x2)) fun x4_7 =>
            if x4_7 < 0 then
            (some (-1))
            else
            (if 160 ≤ x4_7 then
              (some (-1))
              else
              (if g_in x4_7 160 then
                some (X 21 t0 (x4_7.toNatClampNeg))
                else none)))
          else
          (g_let (((4 * (x3_5 + 40)) + x2)) fun x4_11 =>
            if x4_11 < 0 then
            (some (-1))
            else
            (if 160 ≤ x4_11 then
              (some (-1))
              else
              (if g_in x4_11 160 then
                some (X 21 t0 (x4_11.toNatClampNeg))
                else none))))
        else
        (some (-1)))))
set_option maxRecDepth 100000 in
set_option maxHeartbeats 4000000 in
theorem wk_X3_look {p : Program} {l : Launch} {e : Env} {s : State} {m : MethodId} {args : Array Value} {below : List Frame} {meth : Method} {c : Code} {G : GP} {M : SM} {τ : SL} (C0 : g_mc p s m args meth c RX3 cX3_look (some .int) 5 G) {r0 : Int32} (t0 : Nat) (ht0 : t0 < 2) (x1 : Int32) (x2 : Int32) (X : SM) (hf : fn_X3_look t0 x1 x2 X = some r0) {H : Heap} {locs : List Loc} (hP : va_P G.1 g_cl (wd G (cb X M) τ) H) (hS : va_S (g_A G) s.heap H locs) {ls : Array Slot} (hl : lv_has ls 5 [(0, .ref (G.2.1 3 t0)), (1, .int x1), (2, .int x2)]) : W p l e rm_X3_look s m args below meth c H locs 0 0 (MQ below (va_Qi (fun r u => r = r0 ∧ u = (X, M, τ)) (g_pw G) (g_A G)) args s 0 0 (g_A G)) (F0 m 0 ls []) := by
  obtain ⟨hx, hb, hr, hml, hown, hts, hlocks, hC⟩ := id C0
  unfold fn_X3_look at hf
  refine lv_iload_n hx hb dX3_look_0 rfl (lv_at hl 1 rfl) ?_
  refine lv_if_lt (tgt := 21) hx hb dX3_look_1 (by decide) (fun hc_1 => ?_) (fun hc_1 => ?_)
  · have hf := g_pos hf hc_1
    refine lv_iconst (v := (-1)) hx hb dX3_look_21 (by decide) ?_
    cases hf
    exact x_iret hx hb hlocks hC hP hS hr dX3_look_22
  · have hf := g_neg hf hc_1
    refine lv_iload_n hx hb dX3_look_4 rfl (lv_at hl 1 rfl) ?_
    refine lv_aload_n hx hb dX3_look_5 rfl (lv_at hl 0 rfl) ?_
    refine gt_3_2 hx hb hts hown hC hP ht0 q18_13 dX3_look_6 ?_
    refine lv_icmp_ge (tgt := 21) hx hb dX3_look_9 (by decide) (fun hc_2 => ?_) (fun hc_2 => ?_)
    · have hf := g_pos hf hc_2
      refine lv_iconst (v := (-1)) hx hb dX3_look_21 (by decide) ?_
      cases hf
      exact x_iret hx hb hlocks hC hP hS hr dX3_look_22
    · have hf := g_neg hf hc_2
      refine lv_iload_n hx hb dX3_look_12 rfl (lv_at hl 2 rfl) ?_
      refine lv_if_lt (tgt := 21) hx hb dX3_look_13 (by decide) (fun hc_3 => ?_) (fun hc_3 => ?_)
      · have hf := g_pos hf hc_3
        refine lv_iconst (v := (-1)) hx hb dX3_look_21 (by decide) ?_
        cases hf
        exact x_iret hx hb hlocks hC hP hS hr dX3_look_22
      · have hf := g_neg hf hc_3
        refine lv_iload_n hx hb dX3_look_16 rfl (lv_at hl 2 rfl) ?_
        refine lv_iconst (v := 3) hx hb dX3_look_17 (by decide) ?_
        refine lv_icmp_le (tgt := 23) hx hb dX3_look_18 (by decide) (fun hc_4 => ?_) (fun hc_4 => ?_)
        · have hf := g_pos hf hc_4
          refine lv_aload_n hx hb dX3_look_23 rfl (lv_at hl 0 rfl) ?_
          refine gt_3_1 hx hb hts hown hC hP ht0 q18_12 dX3_look_24 ?_
          refine lv_iconst (v := 1) hx hb dX3_look_27 (by decide) ?_
          refine lv_isub hx hb dX3_look_28 ?_
          refine lv_iload_n hx hb dX3_look_29 rfl (lv_at hl 1 rfl) ?_
          refine lv_isub hx hb dX3_look_30 ?_
          obtain ⟨x3_5, ex3_5, hf⟩ := g_letE hf
          refine lv_topE ex3_5 ?_
          refine lv_istore_n (lv' := [(3, .int x3_5), (0, .ref (G.2.1 3 t0)), (1, .int x1), (2, .int x2)]) hx hb dX3_look_31 rfl hl (by decide) rfl (fun ls hl => ?_)
          refine lv_iconst (v := 4) hx hb dX3_look_32 (by decide) ?_
          refine lv_iload_n hx hb dX3_look_33 rfl (lv_at hl 0 rfl) ?_
          refine lv_if_ge (tgt := 44) hx hb dX3_look_34 (by decide) (fun hc_6 => ?_) (fun hc_6 => ?_)
          · have hf := g_pos hf hc_6
            refine lv_iload_n hx hb dX3_look_44 rfl (lv_at hl 0 rfl) ?_
            refine lv_imul hx hb dX3_look_45 ?_
            refine lv_iload_n hx hb dX3_look_46 rfl (lv_at hl 3 rfl) ?_
            refine lv_iadd hx hb dX3_look_47 ?_
            obtain ⟨x4_7, ex4_7, hf⟩ := g_letE hf
            refine lv_topE ex4_7 ?_
            refine lv_istore (lv' := [(4, .int x4_7), (3, .int x3_5), (0, .ref (G.2.1 3 t0)), (1, .int x1), (2, .int x2)]) hx hb dX3_look_48 hl (by decide) rfl (fun ls hl => ?_)
            refine lv_iload hx hb dX3_look_50 (lv_at hl 0 rfl) ?_
            refine lv_if_lt (tgt := 75) hx hb dX3_look_52 (by decide) (fun hc_8 => ?_) (fun hc_8 => ?_)
            · have hf := g_pos hf hc_8
              refine lv_iconst (v := (-1)) hx hb dX3_look_75 (by decide) ?_
              cases hf
              exact x_iret hx hb hlocks hC hP hS hr dX3_look_76
            · have hf := g_neg hf hc_8
              refine lv_iload hx hb dX3_look_55 (lv_at hl 0 rfl) ?_
              refine lv_aload_n hx hb dX3_look_57 rfl (lv_at hl 2 rfl) ?_
              refine gt_3_0 hx hb hts hown hC hP ht0 q4_13 dX3_look_58 ?_
              refine xlen (k := 21) (n := 160) (v := 160) hx hb hC hP (fun _ _ => rfl) ht0 (by decide) dX3_look_61 ?_
              refine lv_icmp_ge (tgt := 75) hx hb dX3_look_62 (by decide) (fun hc_9 => ?_) (fun hc_9 => ?_)
              · have hf := g_pos hf hc_9
                refine lv_iconst (v := (-1)) hx hb dX3_look_75 (by decide) ?_
                cases hf
                exact x_iret hx hb hlocks hC hP hS hr dX3_look_76
              · have hf := g_neg hf hc_9
                refine lv_aload_n hx hb dX3_look_65 rfl (lv_at hl 2 rfl) ?_
                refine gt_3_0 hx hb hts hown hC hP ht0 q4_13 dX3_look_66 ?_
                refine lv_iload hx hb dX3_look_69 (lv_at hl 0 rfl) ?_
                obtain ⟨hg_10, hf⟩ := g_gd hf
                refine xildX (k := 21) (n := 160) hx hb hC hP (fun _ _ => rfl) rfl ht0 hg_10 dX3_look_71 ?_
                refine lv_goto (tgt := 76) hx hb dX3_look_72 (by decide) ?_
                cases hf
                exact x_iret hx hb hlocks hC hP hS hr dX3_look_76
          · have hf := g_neg hf hc_6
            refine lv_iload_n hx hb dX3_look_37 rfl (lv_at hl 0 rfl) ?_
            refine lv_bipush (v := 40) hx hb dX3_look_38 (by decide) ?_
            refine lv_iadd hx hb dX3_look_40 ?_
            refine lv_goto (tgt := 45) hx hb dX3_look_41 (by decide) ?_
            refine lv_imul hx hb dX3_look_45 ?_
            refine lv_iload_n hx hb dX3_look_46 rfl (lv_at hl 3 rfl) ?_
            refine lv_iadd hx hb dX3_look_47 ?_
            obtain ⟨x4_11, ex4_11, hf⟩ := g_letE hf
            refine lv_topE ex4_11 ?_
            refine lv_istore (lv' := [(4, .int x4_11), (3, .int x3_5), (0, .ref (G.2.1 3 t0)), (1, .int x1), (2, .int x2)]) hx hb dX3_look_48 hl (by decide) rfl (fun ls hl => ?_)
            refine lv_iload hx hb dX3_look_50 (lv_at hl 0 rfl) ?_
            refine lv_if_lt (tgt := 75) hx hb dX3_look_52 (by decide) (fun hc_12 => ?_) (fun hc_12 => ?_)
            · have hf := g_pos hf hc_12
              refine lv_iconst (v := (-1)) hx hb dX3_look_75 (by decide) ?_
              cases hf
              exact x_iret hx hb hlocks hC hP hS hr dX3_look_76
            · have hf := g_neg hf hc_12
              refine lv_iload hx hb dX3_look_55 (lv_at hl 0 rfl) ?_
              refine lv_aload_n hx hb dX3_look_57 rfl (lv_at hl 2 rfl) ?_
              refine gt_3_0 hx hb hts hown hC hP ht0 q4_13 dX3_look_58 ?_
              refine xlen (k := 21) (n := 160) (v := 160) hx hb hC hP (fun _ _ => rfl) ht0 (by decide) dX3_look_61 ?_
              refine lv_icmp_ge (tgt := 75) hx hb dX3_look_62 (by decide) (fun hc_13 => ?_) (fun hc_13 => ?_)
              · have hf := g_pos hf hc_13
                refine lv_iconst (v := (-1)) hx hb dX3_look_75 (by decide) ?_
                cases hf
                exact x_iret hx hb hlocks hC hP hS hr dX3_look_76
              · have hf := g_neg hf hc_13
                refine lv_aload_n hx hb dX3_look_65 rfl (lv_at hl 2 rfl) ?_
                refine gt_3_0 hx hb hts hown hC hP ht0 q4_13 dX3_look_66 ?_
                refine lv_iload hx hb dX3_look_69 (lv_at hl 0 rfl) ?_
                obtain ⟨hg_14, hf⟩ := g_gd hf
                refine xildX (k := 21) (n := 160) hx hb hC hP (fun _ _ => rfl) rfl ht0 hg_14 dX3_look_71 ?_
                refine lv_goto (tgt := 76) hx hb dX3_look_72 (by decide) ?_
                cases hf
                exact x_iret hx hb hlocks hC hP hS hr dX3_look_76
        · have hf := g_neg hf hc_4
          refine lv_iconst (v := (-1)) hx hb dX3_look_21 (by decide) ?_
          cases hf
          exact x_iret hx hb hlocks hC hP hS hr dX3_look_22
set_option maxRecDepth 100000 in
set_option maxHeartbeats 4000000 in
theorem ct_X3_look (l : Launch) (G : GP) (X M : SM) (τ : SL) (t0 : Nat) (ht0 : t0 < 2) (x1 : Int32) (x2 : Int32) {r0 : Int32} (hf : fn_X3_look t0 x1 x2 X = some r0) : Met l yX3_look (wz yX3_look cX3_look 5 (some .int)) rm_X3_look (va_Pc [.ref (G.2.1 3 t0), .int x1, .int x2] (g_pw G (X, M, τ))) (va_Qi (fun r u => r = r0 ∧ u = (X, M, τ)) (g_pw G) (g_A G)) 0 0 (g_A G) := by
  refine Met.ofW (cc := cX3_look) (maxL := 5) (ret := (some .int)) (by decide +kernel) rfl ?_
  intro p e s m args below meth c s₁ B hml hv
  obtain ⟨rfl, hC, hP⟩ := hv
  have C0 : g_mc p s m _ meth c RX3 cX3_look (some .int) 5 G := ⟨B.exec, B.bytes, B.returns, hml, findClass_of_methodNamed B.named, fun w h => atoms_spec (ws := wz yX3_look cX3_look 5 (some .int)) B.pre w (List.mem_cons_of_mem _ h), B.notSynchronized, hC⟩
  have hl := lv_entry ([.ref (G.2.1 3 t0), .int x1, .int x2]) (n := 5) (Nat.le_of_ble_eq_true rfl)
  rw [lg_entry_eq]
  generalize (lg_sl ([.ref (G.2.1 3 t0), .int x1, .int x2]) ++ List.replicate (5 - (lg_sl ([.ref (G.2.1 3 t0), .int x1, .int x2])).length) Slot.unset).toArray = ls at hl ⊢
  exact wk_X3_look C0  t0 ht0 x1 x2 X hf hP va_S.rf hl
