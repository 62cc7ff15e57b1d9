abbrev rm_X8_write : Room := { frames := 1, cells := 0, slots := 0, locals := 25 }
def fn_X8_write (t0 : Nat) (x1 : Int32) (x2 : Int32) (x3 : Int32) (x4 : Int32) (X : SM) : Option (SM) :=
  g_let (fn_X11_isPin x1) fun r_1 =>
  if r_1 = 0 then
  (some X)
  else
  (if g_in x1 8 then
    if (X 30 t0 (x1.toNatClampNeg)) = x2 then
    (some X)
    else
    (if g_in x1 8 then
      g_let (u1 X 30 t0 (x1.toNatClampNeg) x2) fun X_7 =>
      (fn_X3_append t0 x3 x1 x2 x4 X_7).bind fun X_8 =>
      some X_8
      else none)
    else none)
set_option maxRecDepth 100000 in
set_option maxHeartbeats 4000000 in
theorem wk_X8_write {p : Program} {l : Launch} {e : Env} {s : State} {m : MethodId} {args : Array Value} {below : List Frame} {meth : Method} {c : Code} {G : GP} {M : SM} {τ : SL} (C0 : g_mc p s m args meth c RX8 cX8_write none 5 G) {X0 : SM} (t0 : Nat) (ht0 : t0 < 2) (x1 : Int32) (x2 : Int32) (x3 : Int32) (x4 : Int32) (X : SM) (hf : fn_X8_write t0 x1 x2 x3 x4 X = some X0) {H : Heap} {locs : List Loc} (hP : va_P G.1 g_cl (wd G (cb X M) τ) H) (hS : va_S (g_A G) s.heap H locs) {ls : Array Slot} (hl : lv_has ls 5 [(0, .ref (G.2.1 8 t0)), (1, .int x1), (2, .int x2), (3, .int x3), (4, .int x4)]) : W p l e rm_X8_write s m args below meth c H locs 0 0 (MQ below (va_Qv (fun u => u = (X0, M, τ)) (g_pw G) (g_A G)) args s 0 0 (g_A G)) (F0 m 0 ls []) := by
  obtain ⟨hx, hb, hr, hml, hown, hts, hlocks, hC⟩ := id C0
  unfold fn_X8_write at hf
  refine lv_iload_n hx hb dX8_write_0 rfl (lv_at hl 1 rfl) ?_
  obtain ⟨r_1, hc_2, hf⟩ := g_letE hf
  refine x_calli (v := (X, M, τ)) (va_runSN (As := [.int x1]) (rest := []) ⟨hx, hb, hml, hown, hts⟩ (ct_X11_isPin l G X M τ x1 hc_2) ⟨va_cnB 1 hts (wz_N q12_3) rfl rfl rfl hC.2.1.2.1 (hts _ q1_2) hd_X11_isPin.2 ⟨Nat.le_of_ble_eq_true rfl, Nat.le_of_ble_eq_true rfl⟩, hts _ q12_2, trivial⟩ (x_pre (u := (X, M, τ)) hC hS hP) rfl rfl hl.1 rfl (lv_room (Nat.le_of_ble_eq_true rfl)) dX8_write_1 ⟨Nat.zero_le _, Nat.zero_le _⟩) hS (fun H locs hP hS => ?_)
  refine lv_if_eq (tgt := 36) hx hb dX8_write_4 (by decide) (fun hc_3 => ?_) (fun hc_3 => ?_)
  · have hf := g_pos hf hc_3
    cases hf
    exact x_vret hx hb hlocks hC hP hS hr dX8_write_36
  · have hf := g_neg hf hc_3
    refine lv_aload_n hx hb dX8_write_7 rfl (lv_at hl 0 rfl) ?_
    refine gt_8_1 hx hb hts hown hC hP ht0 q4_5 dX8_write_8 ?_
    refine lv_iload_n hx hb dX8_write_11 rfl (lv_at hl 1 rfl) ?_
    obtain ⟨hg_4, hf⟩ := g_gd hf
    refine xildX (k := 30) (n := 8) hx hb hC hP (fun _ _ => rfl) rfl ht0 hg_4 dX8_write_12 ?_
    refine lv_iload_n hx hb dX8_write_13 rfl (lv_at hl 2 rfl) ?_
    refine lv_icmp_eq (tgt := 36) hx hb dX8_write_14 (by decide) (fun hc_5 => ?_) (fun hc_5 => ?_)
    · have hf := g_pos hf hc_5
      cases hf
      exact x_vret hx hb hlocks hC hP hS hr dX8_write_36
    · have hf := g_neg hf hc_5
      refine lv_aload_n hx hb dX8_write_17 rfl (lv_at hl 0 rfl) ?_
      refine gt_8_1 hx hb hts hown hC hP ht0 q4_5 dX8_write_18 ?_
      refine lv_iload_n hx hb dX8_write_21 rfl (lv_at hl 1 rfl) ?_
      refine lv_iload_n hx hb dX8_write_22 rfl (lv_at hl 2 rfl) ?_
      obtain ⟨hg_6, hf⟩ := g_gd hf
      obtain ⟨X_7, eX_7, hf⟩ := g_letE hf
      refine xistX (k := 30) (n := 8) hx hb hC hP hS (fun _ _ => rfl) rfl ht0 hg_6 dX8_write_23 (fun H locs hP hS => ?_)
      rw [eX_7] at hP
      refine lv_aload_n hx hb dX8_write_24 rfl (lv_at hl 0 rfl) ?_
      refine gt_8_2 hx hb hts hown hC hP ht0 q4_9 dX8_write_25 ?_
      refine lv_iload_n hx hb dX8_write_28 rfl (lv_at hl 3 rfl) ?_
      refine lv_iload_n hx hb dX8_write_29 rfl (lv_at hl 1 rfl) ?_
      refine lv_iload_n hx hb dX8_write_30 rfl (lv_at hl 2 rfl) ?_
      refine lv_iload hx hb dX8_write_31 (lv_at hl 4 rfl) ?_
      obtain ⟨X_8, hc_9, hf⟩ := g_bindE hf
      refine x_callv (v := (X_8, M, τ)) (va_runV (As := [.int x3, .int x1, .int x2, .int x4]) (rest := []) ⟨hx, hb, hml, hown, hts⟩ (ct_X3_append l G X_7 M τ t0 ht0 x3 x1 x2 x4 hc_9) (cwV 4 hts gd_X8_35 rfl rfl rfl hd_X3_append ⟨Nat.le_of_ble_eq_true rfl, Nat.le_of_ble_eq_true rfl⟩) (x_preV (u := (X_7, M, τ)) (k := 3) (ci := 3) hC hS hP ht0 rfl rfl) rfl rfl hl.1 rfl (lv_room (Nat.le_of_ble_eq_true rfl)) dX8_write_33 ⟨Nat.zero_le _, Nat.zero_le _⟩) hS (fun H locs hP hS => ?_)
      cases hf
      exact x_vret hx hb hlocks hC hP hS hr dX8_write_36
set_option maxRecDepth 100000 in
set_option maxHeartbeats 4000000 in
theorem ct_X8_write (l : Launch) (G : GP) (X M : SM) (τ : SL) (t0 : Nat) (ht0 : t0 < 2) (x1 : Int32) (x2 : Int32) (x3 : Int32) (x4 : Int32) {X0 : SM} (hf : fn_X8_write t0 x1 x2 x3 x4 X = some X0) : Met l yX8_write (wz yX8_write cX8_write 5 none) rm_X8_write (va_Pc [.ref (G.2.1 8 t0), .int x1, .int x2, .int x3, .int x4] (g_pw G (X, M, τ))) (va_Qv (fun u => u = (X0, M, τ)) (g_pw G) (g_A G)) 0 0 (g_A G) := by
  refine Met.ofW (cc := cX8_write) (maxL := 5) (ret := none) (by decide +kernel) rfl ?_
  intro p e s m args below meth c s₁ B hml hv
  obtain ⟨rfl, hC, hP⟩ := hv
  have C0 : g_mc p s m _ meth c RX8 cX8_write none 5 G := ⟨B.exec, B.bytes, B.returns, hml, findClass_of_methodNamed B.named, fun w h => atoms_spec (ws := wz yX8_write cX8_write 5 none) B.pre w (List.mem_cons_of_mem _ h), B.notSynchronized, hC⟩
  have hl := lv_entry ([.ref (G.2.1 8 t0), .int x1, .int x2, .int x3, .int x4]) (n := 5) (Nat.le_of_ble_eq_true rfl)
  rw [lg_entry_eq]
  generalize (lg_sl ([.ref (G.2.1 8 t0), .int x1, .int x2, .int x3, .int x4]) ++ List.replicate (5 - (lg_sl ([.ref (G.2.1 8 t0), .int x1, .int x2, .int x3, .int x4])).length) Slot.unset).toArray = ls at hl ⊢
  exact wk_X8_write C0  t0 ht0 x1 x2 x3 x4 X hf hP va_S.rf hl
abbrev rm_X8_levelOf : Room := { frames := 1, cells := 0, slots := 0, locals := 20 }
def fn_X8_levelOf (t0 : Nat) (x1 : Int32) (X : SM) : Option (Int32) :=
  g_let (fn_X11_isPin x1) fun r_1 =>
  if r_1 = 0 then
  (some 0)
  else
  (if g_in x1 8 then
    some (X 30 t0 (x1.toNatClampNeg))
    else none)
set_option maxRecDepth 100000 in
set_option maxHeartbeats 4000000 in
theorem wk_X8_levelOf {p : Program} {l : Launch} {e : Env} {s : State} {m : MethodId} {args : Array Value} {below : List Frame} {meth : Method} {c : Code} {G : GP} {M : SM} {τ : SL} (C0 : g_mc p s m args meth c RX8 cX8_levelOf (some .int) 2 G) {r0 : Int32} (t0 : Nat) (ht0 : t0 < 2) (x1 : Int32) (X : SM) (hf : fn_X8_levelOf t0 x1 X = some r0) {H : Heap} {locs : List Loc} (hP : va_P G.1 g_cl (wd G (cb X M) τ) H) (hS : va_S (g_A G) s.heap H locs) {ls : Array Slot} (hl : lv_has ls 2 [(0, .ref (G.2.1 8 t0)), (1, .int x1)]) : W p l e rm_X8_levelOf s m args below meth c H locs 0 0 (MQ below (va_Qi (fun r u => r = r0 ∧ u = (X, M, τ)) (g_pw G) (g_A G)) args s 0 0 (g_A G)) (F0 m 0 ls []) := by
  obtain ⟨hx, hb, hr, hml, hown, hts, hlocks, hC⟩ := id C0
  unfold fn_X8_levelOf at hf
  refine lv_iload_n hx hb dX8_levelOf_0 rfl (lv_at hl 1 rfl) ?_
  obtain ⟨r_1, hc_2, hf⟩ := g_letE hf
  refine x_calli (v := (X, M, τ)) (va_runSN (As := [.int x1]) (rest := []) ⟨hx, hb, hml, hown, hts⟩ (ct_X11_isPin l G X M τ x1 hc_2) ⟨va_cnB 1 hts (wz_N q12_3) rfl rfl rfl hC.2.1.2.1 (hts _ q1_2) hd_X11_isPin.2 ⟨Nat.le_of_ble_eq_true rfl, Nat.le_of_ble_eq_true rfl⟩, hts _ q12_2, trivial⟩ (x_pre (u := (X, M, τ)) hC hS hP) rfl rfl hl.1 rfl (lv_room (Nat.le_of_ble_eq_true rfl)) dX8_levelOf_1 ⟨Nat.zero_le _, Nat.zero_le _⟩) hS (fun H locs hP hS => ?_)
  refine lv_if_eq (tgt := 16) hx hb dX8_levelOf_4 (by decide) (fun hc_3 => ?_) (fun hc_3 => ?_)
  · have hf := g_pos hf hc_3
    refine lv_iconst (v := 0) hx hb dX8_levelOf_16 (by decide) ?_
    cases hf
    exact x_iret hx hb hlocks hC hP hS hr dX8_levelOf_17
  · have hf := g_neg hf hc_3
    refine lv_aload_n hx hb dX8_levelOf_7 rfl (lv_at hl 0 rfl) ?_
    refine gt_8_1 hx hb hts hown hC hP ht0 q4_5 dX8_levelOf_8 ?_
    refine lv_iload_n hx hb dX8_levelOf_11 rfl (lv_at hl 1 rfl) ?_
    obtain ⟨hg_4, hf⟩ := g_gd hf
    refine xildX (k := 30) (n := 8) hx hb hC hP (fun _ _ => rfl) rfl ht0 hg_4 dX8_levelOf_12 ?_
    refine lv_goto (tgt := 17) hx hb dX8_levelOf_13 (by decide) ?_
    cases hf
    exact x_iret hx hb hlocks hC hP hS hr dX8_levelOf_17
set_option maxRecDepth 100000 in
set_option maxHeartbeats 4000000 in
theorem ct_X8_levelOf (l : Launch) (G : GP) (X M : SM) (τ : SL) (t0 : Nat) (ht0 : t0 < 2) (x1 : Int32) {r0 : Int32} (hf : fn_X8_levelOf t0 x1 X = some r0) : Met l yX8_levelOf (wz yX8_levelOf cX8_levelOf 2 (some .int)) rm_X8_levelOf (va_Pc [.ref (G.2.1 8 t0), .int x1] (g_pw G (X, M, τ))) (va_Qi (fun r u => r = r0 ∧ u = (X, M, τ)) (g_pw G) (g_A G)) 0 0 (g_A G) := by
  refine Met.ofW (cc := cX8_levelOf) (maxL := 2) (ret := (some .int)) (by decide +kernel) rfl ?_
  intro p e s m args below meth c s₁ B hml hv
  obtain ⟨rfl, hC, hP⟩ := hv
  have C0 : g_mc p s m _ meth c RX8 cX8_levelOf (some .int) 2 G := ⟨B.exec, B.bytes, B.returns, hml, findClass_of_methodNamed B.named, fun w h => atoms_spec (ws := wz yX8_levelOf cX8_levelOf 2 (some .int)) B.pre w (List.mem_cons_of_mem _ h), B.notSynchronized, hC⟩
  have hl := lv_entry ([.ref (G.2.1 8 t0), .int x1]) (n := 2) (Nat.le_of_ble_eq_true rfl)
  rw [lg_entry_eq]
  generalize (lg_sl ([.ref (G.2.1 8 t0), .int x1]) ++ List.replicate (2 - (lg_sl ([.ref (G.2.1 8 t0), .int x1])).length) Slot.unset).toArray = ls at hl ⊢
  exact wk_X8_levelOf C0  t0 ht0 x1 X hf hP va_S.rf hl
abbrev rm_X9_write : Room := { frames := 1, cells := 0, slots := 0, locals := 20 }
def fn_X9_write (t0 : Nat) (x1 : Int32) (x2 : Int32) (X : SM) : Option (SM) :=
  g_let (fn_X11_isRegister x1) fun r_1 =>
  if r_1 = 0 then
  (some X)
  else
  (if g_in x1 8 then
    g_let (u1 X 31 t0 (x1.toNatClampNeg) x2) fun X_5 =>
    some X_5
    else none)
set_option maxRecDepth 100000 in
set_option maxHeartbeats 4000000 in
theorem wk_X9_write {p : Program} {l : Launch} {e : Env} {s : State} {m : MethodId} {args : Array Value} {below : List Frame} {meth : Method} {c : Code} {G : GP} {M : SM} {τ : SL} (C0 : g_mc p s m args meth c RX9 cX9_write none 3 G) {X0 : SM} (t0 : Nat) (ht0 : t0 < 12) (x1 : Int32) (x2 : Int32) (X : SM) (hf : fn_X9_write t0 x1 x2 X = some X0) {H : Heap} {locs : List Loc} (hP : va_P G.1 g_cl (wd G (cb X M) τ) H) (hS : va_S (g_A G) s.heap H locs) {ls : Array Slot} (hl : lv_has ls 3 [(0, .ref (G.2.1 9 t0)), (1, .int x1), (2, .int x2)]) : W p l e rm_X9_write s m args below meth c H locs 0 0 (MQ below (va_Qv (fun u => u = (X0, M, τ)) (g_pw G) (g_A G)) args s 0 0 (g_A G)) (F0 m 0 ls []) := by
  obtain ⟨hx, hb, hr, hml, hown, hts, hlocks, hC⟩ := id C0
  unfold fn_X9_write at hf
  refine lv_iload_n hx hb dX9_write_0 rfl (lv_at hl 1 rfl) ?_
  obtain ⟨r_1, hc_2, hf⟩ := g_letE hf
  refine x_calli (v := (X, M, τ)) (va_runSN (As := [.int x1]) (rest := []) ⟨hx, hb, hml, hown, hts⟩ (ct_X11_isRegister l G X M τ x1 hc_2) ⟨va_cnB 1 hts (wz_N q20_19) rfl rfl rfl hC.2.1.2.2.2.1 (hts _ q1_2) hd_X11_isRegister.2 ⟨Nat.le_of_ble_eq_true rfl, Nat.le_of_ble_eq_true rfl⟩, hts _ q20_18, trivial⟩ (x_pre (u := (X, M, τ)) hC hS hP) rfl rfl hl.1 rfl (lv_room (Nat.le_of_ble_eq_true rfl)) dX9_write_1 ⟨Nat.zero_le _, Nat.zero_le _⟩) hS (fun H locs hP hS => ?_)
  refine lv_if_eq (tgt := 14) hx hb dX9_write_4 (by decide) (fun hc_3 => ?_) (fun hc_3 => ?_)
  · have hf := g_pos hf hc_3
    cases hf
    exact x_vret hx hb hlocks hC hP hS hr dX9_write_14
  · have hf := g_neg hf hc_3
    refine lv_aload_n hx hb dX9_write_7 rfl (lv_at hl 0 rfl) ?_
    refine gt_9_3 hx hb hts hown hC hP ht0 q5_9 dX9_write_8 ?_
    refine lv_iload_n hx hb dX9_write_11 rfl (lv_at hl 1 rfl) ?_
    refine lv_iload_n hx hb dX9_write_12 rfl (lv_at hl 2 rfl) ?_
    obtain ⟨hg_4, hf⟩ := g_gd hf
    obtain ⟨X_5, eX_5, hf⟩ := g_letE hf
    refine xistX (k := 31) (n := 8) hx hb hC hP hS (fun _ _ => rfl) rfl ht0 hg_4 dX9_write_13 (fun H locs hP hS => ?_)
    rw [eX_5] at hP
    cases hf
    exact x_vret hx hb hlocks hC hP hS hr dX9_write_14
set_option maxRecDepth 100000 in
set_option maxHeartbeats 4000000 in
theorem ct_X9_write (l : Launch) (G : GP) (X M : SM) (τ : SL) (t0 : Nat) (ht0 : t0 < 12) (x1 : Int32) (x2 : Int32) {X0 : SM} (hf : fn_X9_write t0 x1 x2 X = some X0) : Met l yX9_write (wz yX9_write cX9_write 3 none) rm_X9_write (va_Pc [.ref (G.2.1 9 t0), .int x1, .int x2] (g_pw G (X, M, τ))) (va_Qv (fun u => u = (X0, M, τ)) (g_pw G) (g_A G)) 0 0 (g_A G) := by
  refine Met.ofW (cc := cX9_write) (maxL := 3) (ret := none) (by decide +kernel) rfl ?_
  intro p e s m args below meth c s₁ B hml hv
  obtain ⟨rfl, hC, hP⟩ := hv
  have C0 : g_mc p s m _ meth c RX9 cX9_write none 3 G := ⟨B.exec, B.bytes, B.returns, hml, findClass_of_methodNamed B.named, fun w h => atoms_spec (ws := wz yX9_write cX9_write 3 none) B.pre w (List.mem_cons_of_mem _ h), B.notSynchronized, hC⟩
  have hl := lv_entry ([.ref (G.2.1 9 t0), .int x1, .int x2]) (n := 3) (Nat.le_of_ble_eq_true rfl)
  rw [lg_entry_eq]
  generalize (lg_sl ([.ref (G.2.1 9 t0), .int x1, .int x2]) ++ List.replicate (3 - (lg_sl ([.ref (G.2.1 9 t0), .int x1, .int x2])).length) Slot.unset).toArray = ls at hl ⊢
  exact wk_X9_write C0  t0 ht0 x1 x2 X hf hP va_S.rf hl
abbrev rm_X7_wake : Room := { frames := 2, cells := 0, slots := 0, locals := 49 }
def fn_X7_wake (t0 : Nat) (t1 : Nat) (X : SM) : Option (SM) :=
  if (X 4 t1 0) = 11 then
  ((fn_X8_write t0 (X 4 t1 1) (X 4 t1 3) (X 7 t0 5) 0 X).bind fun X_9 =>
    g_let (u1 X_9 9 t1 9 0) fun X_11 =>
    some X_11)
  else
  (if (X 4 t1 0) = 13 then
    ((fn_X8_levelOf t0 (X 4 t1 1) X).bind fun r_4 =>
      (fn_X9_write t1 (X 4 t1 2) r_4 X).bind fun X_6 =>
      g_let (u1 X_6 9 t1 9 0) fun X_8 =>
      some X_8)
    else
    (g_let (u1 X 9 t1 9 0) fun X_3 =>
      some X_3))
set_option maxRecDepth 100000 in
set_option maxHeartbeats 4000000 in
theorem wk_X7_wake {p : Program} {l : Launch} {e : Env} {s : State} {m : MethodId} {args : Array Value} {below : List Frame} {meth : Method} {c : Code} {G : GP} {M : SM} {τ : SL} (C0 : g_mc p s m args meth c RX7 cX7_wake none 3 G) {X0 : SM} (t0 : Nat) (ht0 : t0 < 2) (t1 : Nat) (ht1 : t1 < 12) (X : SM) (hf : fn_X7_wake t0 t1 X = some X0) {H : Heap} {locs : List Loc} (hP : va_P G.1 g_cl (wd G (cb X M) τ) H) (hS : va_S (g_A G) s.heap H locs) {ls : Array Slot} (hl : lv_has ls 3 [(0, .ref (G.2.1 7 t0)), (1, .ref (G.2.1 9 t1))]) : W p l e rm_X7_wake s m args below meth c H locs 0 0 (MQ below (va_Qv (fun u => u = (X0, M, τ)) (g_pw G) (g_A G)) args s 0 0 (g_A G)) (F0 m 0 ls []) := by
  obtain ⟨hx, hb, hr, hml, hown, hts, hlocks, hC⟩ := id C0
  unfold fn_X7_wake at hf
  refine lv_aload_n hx hb dX7_wake_0 rfl (lv_at hl 1 rfl) ?_
  refine gt_9_2 hx hb hts hown hC hP ht1 q19_8 dX7_wake_1 ?_
  refine lv_astore_n (lv' := [(2, .ref (G.2.1 4 t1)), (0, .ref (G.2.1 7 t0)), (1, .ref (G.2.1 9 t1))]) hx hb dX7_wake_4 rfl hl (by decide) rfl (fun ls hl => ?_)
  refine lv_aload_n hx hb dX7_wake_5 rfl (lv_at hl 0 rfl) ?_
  refine gt_4_0 hx hb hts hown hC hP ht1 q19_22 dX7_wake_6 ?_
  refine lv_bipush (v := 11) hx hb dX7_wake_9 (by decide) ?_
  refine lv_icmp_ne (tgt := 37) hx hb dX7_wake_11 (by decide) (fun hc_1 => ?_) (fun hc_1 => ?_)
  · have hf := g_neg hf hc_1
    refine lv_aload_n hx hb dX7_wake_37 rfl (lv_at hl 0 rfl) ?_
    refine gt_4_0 hx hb hts hown hC hP ht1 q19_22 dX7_wake_38 ?_
    refine lv_bipush (v := 13) hx hb dX7_wake_41 (by decide) ?_
    refine lv_icmp_ne (tgt := 65) hx hb dX7_wake_43 (by decide) (fun hc_2 => ?_) (fun hc_2 => ?_)
    · have hf := g_neg hf hc_2
      refine lv_aload_n hx hb dX7_wake_65 rfl (lv_at hl 2 rfl) ?_
      refine lv_iconst (v := 0) hx hb dX7_wake_66 (by decide) ?_
      obtain ⟨X_3, eX_3, hf⟩ := g_letE hf
      refine pt_9_9 hx hb hts hown hC hP hS ht1 q19_7 dX7_wake_67 (fun H locs hP hS => ?_)
      rw [eX_3] at hP
      cases hf
      exact x_vret hx hb hlocks hC hP hS hr dX7_wake_70
    · have hf := g_pos hf hc_2
      refine lv_aload_n hx hb dX7_wake_46 rfl (lv_at hl 2 rfl) ?_
      refine lv_aload_n hx hb dX7_wake_47 rfl (lv_at hl 0 rfl) ?_
      refine gt_4_2 hx hb hts hown hC hP ht1 q20_1 dX7_wake_48 ?_
      refine lv_aload_n hx hb dX7_wake_51 rfl (lv_at hl 1 rfl) ?_
      refine gt_7_1 hx hb hts hown hC hP ht0 q3_14 dX7_wake_52 ?_
      refine lv_aload_n hx hb dX7_wake_55 rfl (lv_at hl 0 rfl) ?_
      refine gt_4_1 hx hb hts hown hC hP ht1 q19_23 dX7_wake_56 ?_
      obtain ⟨r_4, hc_5, hf⟩ := g_bindE hf
      refine x_calli (v := (X, M, τ)) (va_runV (As := [.int (X 4 t1 1)]) (rest := [.int (X 4 t1 2), .ref (G.2.1 9 t1)]) ⟨hx, hb, hml, hown, hts⟩ (ct_X8_levelOf l G X M τ t0 ht0 (X 4 t1 1) hc_5) (cwV 1 hts gd_X7_142 rfl rfl rfl hd_X8_levelOf ⟨Nat.le_of_ble_eq_true rfl, Nat.le_of_ble_eq_true rfl⟩) (x_preV (u := (X, M, τ)) (k := 8) (ci := 8) hC hS hP ht0 rfl rfl) rfl rfl hl.1 rfl (lv_room (Nat.le_of_ble_eq_true rfl)) dX7_wake_59 ⟨Nat.zero_le _, Nat.zero_le _⟩) hS (fun H locs hP hS => ?_)
      obtain ⟨X_6, hc_7, hf⟩ := g_bindE hf
      refine x_callv (v := (X_6, M, τ)) (va_runV (As := [.int (X 4 t1 2), .int r_4]) (rest := []) ⟨hx, hb, hml, hown, hts⟩ (ct_X9_write l G X M τ t1 ht1 (X 4 t1 2) r_4 hc_7) (cwV 2 hts gd_X7_146 rfl rfl rfl hd_X9_write ⟨Nat.le_of_ble_eq_true rfl, Nat.le_of_ble_eq_true rfl⟩) (x_preV (u := (X, M, τ)) (k := 9) (ci := 9) hC hS hP ht1 rfl rfl) rfl rfl hl.1 rfl (lv_room (Nat.le_of_ble_eq_true rfl)) dX7_wake_62 ⟨Nat.zero_le _, Nat.zero_le _⟩) hS (fun H locs hP hS => ?_)
      refine lv_aload_n hx hb dX7_wake_65 rfl (lv_at hl 2 rfl) ?_
      refine lv_iconst (v := 0) hx hb dX7_wake_66 (by decide) ?_
      obtain ⟨X_8, eX_8, hf⟩ := g_letE hf
      refine pt_9_9 hx hb hts hown hC hP hS ht1 q19_7 dX7_wake_67 (fun H locs hP hS => ?_)
      rw [eX_8] at hP
      cases hf
      exact x_vret hx hb hlocks hC hP hS hr dX7_wake_70
  · have hf := g_pos hf hc_1
    refine lv_aload_n hx hb dX7_wake_14 rfl (lv_at hl 1 rfl) ?_
    refine gt_7_1 hx hb hts hown hC hP ht0 q3_14 dX7_wake_15 ?_
    refine lv_aload_n hx hb dX7_wake_18 rfl (lv_at hl 0 rfl) ?_
    refine gt_4_1 hx hb hts hown hC hP ht1 q19_23 dX7_wake_19 ?_
    refine lv_aload_n hx hb dX7_wake_22 rfl (lv_at hl 0 rfl) ?_
    refine gt_4_3 hx hb hts hown hC hP ht1 q20_0 dX7_wake_23 ?_
    refine lv_aload_n hx hb dX7_wake_26 rfl (lv_at hl 1 rfl) ?_
    refine gt_7_5 hx hb hts hown hC hP ht0 q17_14 dX7_wake_27 ?_
    refine lv_iconst (v := 0) hx hb dX7_wake_30 (by decide) ?_
    obtain ⟨X_9, hc_10, hf⟩ := g_bindE hf
    refine x_callv (v := (X_9, M, τ)) (va_runV (As := [.int (X 4 t1 1), .int (X 4 t1 3), .int (X 7 t0 5), .int 0]) (rest := []) ⟨hx, hb, hml, hown, hts⟩ (ct_X8_write l G X M τ t0 ht0 (X 4 t1 1) (X 4 t1 3) (X 7 t0 5) 0 hc_10) (cwV 4 hts gd_X7_135 rfl rfl rfl hd_X8_write ⟨Nat.le_of_ble_eq_true rfl, Nat.le_of_ble_eq_true rfl⟩) (x_preV (u := (X, M, τ)) (k := 8) (ci := 8) hC hS hP ht0 rfl rfl) rfl rfl hl.1 rfl (lv_room (Nat.le_of_ble_eq_true rfl)) dX7_wake_31 ⟨Nat.zero_le _, Nat.zero_le _⟩) hS (fun H locs hP hS => ?_)
    refine lv_goto (tgt := 65) hx hb dX7_wake_34 (by decide) ?_
    refine lv_aload_n hx hb dX7_wake_65 rfl (lv_at hl 2 rfl) ?_
    refine lv_iconst (v := 0) hx hb dX7_wake_66 (by decide) ?_
    obtain ⟨X_11, eX_11, hf⟩ := g_letE hf
    refine pt_9_9 hx hb hts hown hC hP hS ht1 q19_7 dX7_wake_67 (fun H locs hP hS => ?_)
    rw [eX_11] at hP
    cases hf
    exact x_vret hx hb hlocks hC hP hS hr dX7_wake_70
set_option maxRecDepth 100000 in
set_option maxHeartbeats 4000000 in
theorem ct_X7_wake (l : Launch) (G : GP) (X M : SM) (τ : SL) (t0 : Nat) (ht0 : t0 < 2) (t1 : Nat) (ht1 : t1 < 12) {X0 : SM} (hf : fn_X7_wake t0 t1 X = some X0) : Met l yX7_wake (wz yX7_wake cX7_wake 3 none) rm_X7_wake (va_Pc [.ref (G.2.1 7 t0), .ref (G.2.1 9 t1)] (g_pw G (X, M, τ))) (va_Qv (fun u => u = (X0, M, τ)) (g_pw G) (g_A G)) 0 0 (g_A G) := by
  refine Met.ofW (cc := cX7_wake) (maxL := 3) (ret := none) (by decide +kernel) rfl ?_
  intro p e s m args below meth c s₁ B hml hv
  obtain ⟨rfl, hC, hP⟩ := hv
  have C0 : g_mc p s m _ meth c RX7 cX7_wake none 3 G := ⟨B.exec, B.bytes, B.returns, hml, findClass_of_methodNamed B.named, fun w h => atoms_spec (ws := wz yX7_wake cX7_wake 3 none) B.pre w (List.mem_cons_of_mem _ h), B.notSynchronized, hC⟩
  have hl := lv_entry ([.ref (G.2.1 7 t0), .ref (G.2.1 9 t1)]) (n := 3) (Nat.le_of_ble_eq_true rfl)
  rw [lg_entry_eq]
  generalize (lg_sl ([.ref (G.2.1 7 t0), .ref (G.2.1 9 t1)]) ++ List.replicate (3 - (lg_sl ([.ref (G.2.1 7 t0), .ref (G.2.1 9 t1)])).length) Slot.unset).toArray = ls at hl ⊢
  exact wk_X7_wake C0  t0 ht0 t1 ht1 X hf hP va_S.rf hl
abbrev rm_X1_has : Room := { frames := 0, cells := 0, slots := 0, locals := 0 }
def fn_X1_has (t0 : Nat) (x1 : Int32) (X : SM) : Int32 :=
  if x1 < 0 then
  (0)
  else
  (if (X 1 t0 4) ≤ x1 then
    (0)
    else
    (if 24 ≤ x1 then
      (0)
      else
      (1)))
set_option maxRecDepth 100000 in
set_option maxHeartbeats 4000000 in
theorem wk_X1_has {p : Program} {l : Launch} {e : Env} {s : State} {m : MethodId} {args : Array Value} {below : List Frame} {meth : Method} {c : Code} {G : GP} {M : SM} {τ : SL} (C0 : g_mc p s m args meth c RX1 cX1_has (some .boolean) 2 G) {r0 : Int32} (t0 : Nat) (ht0 : t0 < 12) (x1 : Int32) (X : SM) (hf : fn_X1_has t0 x1 X = r0) {H : Heap} {locs : List Loc} (hP : va_P G.1 g_cl (wd G (cb X M) τ) H) (hS : va_S (g_A G) s.heap H locs) {ls : Array Slot} (hl : lv_has ls 2 [(0, .ref (G.2.1 1 t0)), (1, .int x1)]) : W p l e rm_X1_has s m args below meth c H locs 0 0 (MQ below (va_Qi (fun r u => r = r0 ∧ u = (X, M, τ)) (g_pw G) (g_A G)) args s 0 0 (g_A G)) (F0 m 0 ls []) := by
  obtain ⟨hx, hb, hr, hml, hown, hts, hlocks, hC⟩ := id C0
  unfold fn_X1_has at hf
  refine lv_iload_n hx hb dX1_has_0 rfl (lv_at hl 1 rfl) ?_
  refine lv_if_lt (tgt := 22) hx hb dX1_has_1 (by decide) (fun hc_1 => ?_) (fun hc_1 => ?_)
  · have hf := g_pos hf hc_1
    refine lv_iconst (v := 0) hx hb dX1_has_22 (by decide) ?_
    cases hf
    exact x_zret hx hb hlocks hC hP hS hr (Or.inl rfl) dX1_has_23
  · have hf := g_neg hf hc_1
    refine lv_iload_n hx hb dX1_has_4 rfl (lv_at hl 1 rfl) ?_
    refine lv_aload_n hx hb dX1_has_5 rfl (lv_at hl 0 rfl) ?_
    refine gt_1_4 hx hb hts hown hC hP ht0 q8_6 dX1_has_6 ?_
    refine lv_icmp_ge (tgt := 22) hx hb dX1_has_9 (by decide) (fun hc_2 => ?_) (fun hc_2 => ?_)
    · have hf := g_pos hf hc_2
      refine lv_iconst (v := 0) hx hb dX1_has_22 (by decide) ?_
      cases hf
      exact x_zret hx hb hlocks hC hP hS hr (Or.inl rfl) dX1_has_23
    · have hf := g_neg hf hc_2
      refine lv_iload_n hx hb dX1_has_12 rfl (lv_at hl 1 rfl) ?_
      refine lv_bipush (v := 24) hx hb dX1_has_13 (by decide) ?_
      refine lv_icmp_ge (tgt := 22) hx hb dX1_has_15 (by decide) (fun hc_3 => ?_) (fun hc_3 => ?_)
      · have hf := g_pos hf hc_3
        refine lv_iconst (v := 0) hx hb dX1_has_22 (by decide) ?_
        cases hf
        exact x_zret hx hb hlocks hC hP hS hr (Or.inl rfl) dX1_has_23
      · have hf := g_neg hf hc_3
        refine lv_iconst (v := 1) hx hb dX1_has_18 (by decide) ?_
        refine lv_goto (tgt := 23) hx hb dX1_has_19 (by decide) ?_
        cases hf
        exact x_zret hx hb hlocks hC hP hS hr (Or.inr rfl) dX1_has_23
set_option maxRecDepth 100000 in
set_option maxHeartbeats 4000000 in
theorem ct_X1_has (l : Launch) (G : GP) (X M : SM) (τ : SL) (t0 : Nat) (ht0 : t0 < 12) (x1 : Int32) {r0 : Int32} (hf : fn_X1_has t0 x1 X = r0) : Met l yX1_has (wz yX1_has cX1_has 2 (some .boolean)) rm_X1_has (va_Pc [.ref (G.2.1 1 t0), .int x1] (g_pw G (X, M, τ))) (va_Qi (fun r u => r = r0 ∧ u = (X, M, τ)) (g_pw G) (g_A G)) 0 0 (g_A G) := by
  refine Met.ofW (cc := cX1_has) (maxL := 2) (ret := (some .boolean)) (by decide +kernel) rfl ?_
  intro p e s m args below meth c s₁ B hml hv
  obtain ⟨rfl, hC, hP⟩ := hv
  have C0 : g_mc p s m _ meth c RX1 cX1_has (some .boolean) 2 G := ⟨B.exec, B.bytes, B.returns, hml, findClass_of_methodNamed B.named, fun w h => atoms_spec (ws := wz yX1_has cX1_has 2 (some .boolean)) B.pre w (List.mem_cons_of_mem _ h), B.notSynchronized, hC⟩
  have hl := lv_entry ([.ref (G.2.1 1 t0), .int x1]) (n := 2) (Nat.le_of_ble_eq_true rfl)
  rw [lg_entry_eq]
  generalize (lg_sl ([.ref (G.2.1 1 t0), .int x1]) ++ List.replicate (2 - (lg_sl ([.ref (G.2.1 1 t0), .int x1])).length) Slot.unset).toArray = ls at hl ⊢
  exact wk_X1_has C0  t0 ht0 x1 X hf hP va_S.rf hl
abbrev rm_X9_canGo : Room := { frames := 1, cells := 0, slots := 0, locals := 21 }
def fn_X9_canGo (t0 : Nat) (X : SM) : Int32 :=
  if (X 9 t0 9) = 0 then
  (g_let (fn_X1_has t0 (X 9 t0 8) X) fun r_2 =>
    if r_2 = 0 then
    (0)
    else
    (1))
  else
  (0)
set_option maxRecDepth 100000 in
set_option maxHeartbeats 4000000 in
theorem wk_X9_canGo {p : Program} {l : Launch} {e : Env} {s : State} {m : MethodId} {args : Array Value} {below : List Frame} {meth : Method} {c : Code} {G : GP} {M : SM} {τ : SL} (C0 : g_mc p s m args meth c RX9 cX9_canGo (some .boolean) 1 G) {r0 : Int32} (t0 : Nat) (ht0 : t0 < 12) (X : SM) (hf : fn_X9_canGo t0 X = r0) {H : Heap} {locs : List Loc} (hP : va_P G.1 g_cl (wd G (cb X M) τ) H) (hS : va_S (g_A G) s.heap H locs) {ls : Array Slot} (hl : lv_has ls 1 [(0, .ref (G.2.1 9 t0))]) : W p l e rm_X9_canGo s m args below meth c H locs 0 0 (MQ below (va_Qi (fun r u => r = r0 ∧ u = (X, M, τ)) (g_pw G) (g_A G)) args s 0 0 (g_A G)) (F0 m 0 ls []) := by
  obtain ⟨hx, hb, hr, hml, hown, hts, hlocks, hC⟩ := id C0
  unfold fn_X9_canGo at hf
  refine lv_aload_n hx hb dX9_canGo_0 rfl (lv_at hl 0 rfl) ?_
  refine gt_9_9 hx hb hts hown hC hP ht0 q5_14 dX9_canGo_1 ?_
  refine lv_if_ne (tgt := 25) hx hb dX9_canGo_4 (by decide) (fun hc_1 => ?_) (fun hc_1 => ?_)
  · have hf := g_neg hf hc_1
    refine lv_iconst (v := 0) hx hb dX9_canGo_25 (by decide) ?_
    cases hf
    exact x_zret hx hb hlocks hC hP hS hr (Or.inl rfl) dX9_canGo_26
  · have hf := g_pos hf hc_1
    refine lv_aload_n hx hb dX9_canGo_7 rfl (lv_at hl 0 rfl) ?_
    refine gt_9_1 hx hb hts hown hC hP ht0 q5_4 dX9_canGo_8 ?_
    refine lv_aload_n hx hb dX9_canGo_11 rfl (lv_at hl 0 rfl) ?_
    refine gt_9_8 hx hb hts hown hC hP ht0 q10_7 dX9_canGo_12 ?_
    obtain ⟨r_2, hc_3, hf⟩ := g_letE hf
    refine x_calli (v := (X, M, τ)) (va_runV (As := [.int (X 9 t0 8)]) (rest := []) ⟨hx, hb, hml, hown, hts⟩ (ct_X1_has l G X M τ t0 ht0 (X 9 t0 8) hc_3) (cwV 1 hts gd_X9_55 rfl rfl rfl hd_X1_has ⟨Nat.le_of_ble_eq_true rfl, Nat.le_of_ble_eq_true rfl⟩) (x_preV (u := (X, M, τ)) (k := 1) (ci := 1) hC hS hP ht0 rfl rfl) rfl rfl hl.1 rfl (lv_room (Nat.le_of_ble_eq_true rfl)) dX9_canGo_15 ⟨Nat.zero_le _, Nat.zero_le _⟩) hS (fun H locs hP hS => ?_)
    refine lv_if_eq (tgt := 25) hx hb dX9_canGo_18 (by decide) (fun hc_4 => ?_) (fun hc_4 => ?_)
    · have hf := g_pos hf hc_4
      refine lv_iconst (v := 0) hx hb dX9_canGo_25 (by decide) ?_
      cases hf
      exact x_zret hx hb hlocks hC hP hS hr (Or.inl rfl) dX9_canGo_26
    · have hf := g_neg hf hc_4
      refine lv_iconst (v := 1) hx hb dX9_canGo_21 (by decide) ?_
      refine lv_goto (tgt := 26) hx hb dX9_canGo_22 (by decide) ?_
      cases hf
      exact x_zret hx hb hlocks hC hP hS hr (Or.inr rfl) dX9_canGo_26
set_option maxRecDepth 100000 in
set_option maxHeartbeats 4000000 in
theorem ct_X9_canGo (l : Launch) (G : GP) (X M : SM) (τ : SL) (t0 : Nat) (ht0 : t0 < 12) {r0 : Int32} (hf : fn_X9_canGo t0 X = r0) : Met l yX9_canGo (wz yX9_canGo cX9_canGo 1 (some .boolean)) rm_X9_canGo (va_Pc [.ref (G.2.1 9 t0)] (g_pw G (X, M, τ))) (va_Qi (fun r u => r = r0 ∧ u = (X, M, τ)) (g_pw G) (g_A G)) 0 0 (g_A G) := by
  refine Met.ofW (cc := cX9_canGo) (maxL := 1) (ret := (some .boolean)) (by decide +kernel) rfl ?_
  intro p e s m args below meth c s₁ B hml hv
  obtain ⟨rfl, hC, hP⟩ := hv
  have C0 : g_mc p s m _ meth c RX9 cX9_canGo (some .boolean) 1 G := ⟨B.exec, B.bytes, B.returns, hml, findClass_of_methodNamed B.named, fun w h => atoms_spec (ws := wz yX9_canGo cX9_canGo 1 (some .boolean)) B.pre w (List.mem_cons_of_mem _ h), B.notSynchronized, hC⟩
  have hl := lv_entry ([.ref (G.2.1 9 t0)]) (n := 1) (Nat.le_of_ble_eq_true rfl)
  rw [lg_entry_eq]
  generalize (lg_sl ([.ref (G.2.1 9 t0)]) ++ List.replicate (1 - (lg_sl ([.ref (G.2.1 9 t0)])).length) Slot.unset).toArray = ls at hl ⊢
  exact wk_X9_canGo C0  t0 ht0 X hf hP va_S.rf hl
abbrev rm_X7_whoseTurn : Room := { frames := 2, cells := 0, slots := 0, locals := 43 }
def wb_X7_whoseTurn_61 (k40 : Nat → Int32 → Int32 → SM → Option (Int32 × SM)) (t0 : Nat) (x3 : Int32) (xs0 : Int32) (X : SM) : Option (Int32 × SM) :=
  g_let (fn_X11_isThread xs0) fun r_16 =>
  if r_16 = 0 then
  (g_let (x3 + 1) fun x3_19 =>
    k40 t0 xs0 x3_19 X)
  else
  (if g_in xs0 6 then
    if (X 9 (6 * t0 + (xs0.toNatClampNeg)) 7) = 0 then
    (if g_in xs0 6 then
      g_let (fn_X9_canGo (6 * t0 + (xs0.toNatClampNeg)) X) fun r_26 =>
      if r_26 = 0 then
      (g_let (x3 + 1) fun x3_29 =>
        k40 t0 xs0 x3_29 X)
      else
      (if g_in xs0 6 then
        g_let (u1 X 9 (6 * t0 + (xs0.toNatClampNeg)) 12 ((X 9 (6 * t0 + (xs0.toNatClampNeg)) 12) + 1)) fun X_32 =>
        g_let (u1 X_32 7 t0 7 ((X_32 7 t0 7) + 1)) fun X_33 =>
        g_let (u1 X_33 7 t0 10 xs0) fun X_34 =>
        some (xs0, X_34)
        else none)
      else none)
    else
    (g_let (x3 + 1) fun x3_23 =>
      k40 t0 xs0 x3_23 X)
    else none)
set_option maxRecDepth 100000 in
set_option maxHeartbeats 4000000 in
theorem bk_X7_whoseTurn_61 {p : Program} {l : Launch} {e : Env} {s : State} {m : MethodId} {args : Array Value} {below : List Frame} {meth : Method} {c : Code} {G : GP} {M : SM} {τ : SL} (C0 : g_mc p s m args meth c RX7 cX7_whoseTurn (some .int) 4 G) {r0 : Int32} {X0 : SM} (k40 : Nat → Int32 → Int32 → SM → Option (Int32 × SM)) (hk40 : ∀ (t0 : Nat) (ht0 : t0 < 2) (x2 : Int32) (x3 : Int32) (X : SM), k40 t0 x2 x3 X = some (r0, X0) → ∀ {H : Heap} {locs : List Loc}, va_P G.1 g_cl (wd G (cb X M) τ) H → va_S (g_A G) s.heap H locs → ∀ {ls : Array Slot}, lv_has ls 4 [(0, .ref (G.2.1 7 t0)), (2, .int x2), (3, .int x3)] → W p l e rm_X7_whoseTurn s m args below meth c H locs 0 0 (MQ below (va_Qi (fun r u => r = r0 ∧ u = (X0, M, τ)) (g_pw G) (g_A G)) args s 0 0 (g_A G)) (F0 m 40 ls [])) (t0 : Nat) (ht0 : t0 < 2) (x3 : Int32) (xs0 : Int32) (X : SM) (hf : wb_X7_whoseTurn_61 k40 t0 x3 xs0 X = some (r0, X0)) {H : Heap} {locs : List Loc} (hP : va_P G.1 g_cl (wd G (cb X M) τ) H) (hS : va_S (g_A G) s.heap H locs) {ls : Array Slot} (hl : lv_has ls 4 [(0, .ref (G.2.1 7 t0)), (3, .int x3)]) : W p l e rm_X7_whoseTurn s m args below meth c H locs 0 0 (MQ below (va_Qi (fun r u => r = r0 ∧ u = (X0, M, τ)) (g_pw G) (g_A G)) args s 0 0 (g_A G)) (F0 m 61 ls [.int xs0]) := by
  obtain ⟨hx, hb, hr, hml, hown, hts, hlocks, hC⟩ := id C0
  unfold wb_X7_whoseTurn_61 at hf
  refine lv_istore_n (lv' := [(2, .int xs0), (0, .ref (G.2.1 7 t0)), (3, .int x3)]) hx hb dX7_whoseTurn_61 rfl hl (by decide) rfl (fun ls hl => ?_)
  refine lv_iload_n hx hb dX7_whoseTurn_62 rfl (lv_at hl 0 rfl) ?_
  obtain ⟨r_16, hc_17, hf⟩ := g_letE hf
  refine x_calli (v := (X, M, τ)) (va_runSN (As := [.int xs0]) (rest := []) ⟨hx, hb, hml, hown, hts⟩ (ct_X11_isThread l G X M τ xs0 hc_17) ⟨va_cnB 1 hts (wz_N q8_1) rfl rfl rfl hC.2.1.1 (hts _ q1_2) hd_X11_isThread.2 ⟨Nat.le_of_ble_eq_true rfl, Nat.le_of_ble_eq_true rfl⟩, hts _ q8_0, trivial⟩ (x_pre (u := (X, M, τ)) hC hS hP) rfl rfl hl.1 rfl (lv_room (Nat.le_of_ble_eq_true rfl)) dX7_whoseTurn_63 ⟨Nat.zero_le _, Nat.zero_le _⟩) hS (fun H locs hP hS => ?_)
  refine lv_if_eq (tgt := 125) hx hb dX7_whoseTurn_66 (by decide) (fun hc_18 => ?_) (fun hc_18 => ?_)
  · have hf := g_pos hf hc_18
    obtain ⟨x3_19, ex3_19, hf⟩ := g_letE hf
    refine lv_iinc (v := x3_19) (lv' := [(3, .int x3_19), (2, .int xs0), (0, .ref (G.2.1 7 t0))]) hx hb dX7_whoseTurn_125 hl (k := 2) rfl (by rw [← ex3_19]; rfl) (by decide) rfl (fun ls hl => ?_)
    refine lv_goto (tgt := 40) hx hb dX7_whoseTurn_128 (by decide) ?_
    exact hk40 t0 ht0 xs0 x3_19 X hf hP hS (lv_sub hl [2, 1, 0] rfl)
  · have hf := g_neg hf hc_18
    refine lv_aload_n hx hb dX7_whoseTurn_69 rfl (lv_at hl 1 rfl) ?_
    refine gt_7_0 hx hb hts hown hC hP ht0 q3_10 dX7_whoseTurn_70 ?_
    refine lv_iload_n hx hb dX7_whoseTurn_73 rfl (lv_at hl 0 rfl) ?_
    obtain ⟨hg_20, hf⟩ := g_gd hf
    have hq_21 : 6 * t0 + (xs0.toNatClampNeg) < 12 := by have h8 := g_in_lt (n := 6) hg_20; have h9 : t0 < 2 := ht0; omega
    refine xaldS hx hb hC hP ht0 hg_20 dX7_whoseTurn_74 ?_
    refine gt_9_7 hx hb hts hown hC hP hq_21 q21_0 dX7_whoseTurn_75 ?_
    refine lv_if_ne (tgt := 125) hx hb dX7_whoseTurn_78 (by decide) (fun hc_22 => ?_) (fun hc_22 => ?_)
    · have hf := g_neg hf hc_22
      obtain ⟨x3_23, ex3_23, hf⟩ := g_letE hf
      refine lv_iinc (v := x3_23) (lv' := [(3, .int x3_23), (2, .int xs0), (0, .ref (G.2.1 7 t0))]) hx hb dX7_whoseTurn_125 hl (k := 2) rfl (by rw [← ex3_23]; rfl) (by decide) rfl (fun ls hl => ?_)
      refine lv_goto (tgt := 40) hx hb dX7_whoseTurn_128 (by decide) ?_
      exact hk40 t0 ht0 xs0 x3_23 X hf hP hS (lv_sub hl [2, 1, 0] rfl)
    · have hf := g_pos hf hc_22
      refine lv_aload_n hx hb dX7_whoseTurn_81 rfl (lv_at hl 1 rfl) ?_
      refine gt_7_0 hx hb hts hown hC hP ht0 q3_10 dX7_whoseTurn_82 ?_
      refine lv_iload_n hx hb dX7_whoseTurn_85 rfl (lv_at hl 0 rfl) ?_
      obtain ⟨hg_24, hf⟩ := g_gd hf
      have hq_25 : 6 * t0 + (xs0.toNatClampNeg) < 12 := by have h8 := g_in_lt (n := 6) hg_24; have h9 : t0 < 2 := ht0; omega
      refine xaldS hx hb hC hP ht0 hg_24 dX7_whoseTurn_86 ?_
      obtain ⟨r_26, hc_27, hf⟩ := g_letE hf
      refine x_calli (v := (X, M, τ)) (va_runV (As := []) (rest := []) ⟨hx, hb, hml, hown, hts⟩ (ct_X9_canGo l G X M τ (6 * t0 + (xs0.toNatClampNeg)) hq_25 hc_27) (cwV 0 hts gd_X7_154 rfl rfl rfl hd_X9_canGo ⟨Nat.le_of_ble_eq_true rfl, Nat.le_of_ble_eq_true rfl⟩) (x_preV (u := (X, M, τ)) (k := 9) (ci := 9) hC hS hP hq_25 rfl rfl) rfl rfl hl.1 rfl (lv_room (Nat.le_of_ble_eq_true rfl)) dX7_whoseTurn_87 ⟨Nat.zero_le _, Nat.zero_le _⟩) hS (fun H locs hP hS => ?_)
      refine lv_if_eq (tgt := 125) hx hb dX7_whoseTurn_90 (by decide) (fun hc_28 => ?_) (fun hc_28 => ?_)
      · have hf := g_pos hf hc_28
        obtain ⟨x3_29, ex3_29, hf⟩ := g_letE hf
        refine lv_iinc (v := x3_29) (lv' := [(3, .int x3_29), (2, .int xs0), (0, .ref (G.2.1 7 t0))]) hx hb dX7_whoseTurn_125 hl (k := 2) rfl (by rw [← ex3_29]; rfl) (by decide) rfl (fun ls hl => ?_)
        refine lv_goto (tgt := 40) hx hb dX7_whoseTurn_128 (by decide) ?_
        exact hk40 t0 ht0 xs0 x3_29 X hf hP hS (lv_sub hl [2, 1, 0] rfl)
      · have hf := g_neg hf hc_28
        refine lv_aload_n hx hb dX7_whoseTurn_93 rfl (lv_at hl 1 rfl) ?_
        refine gt_7_0 hx hb hts hown hC hP ht0 q3_10 dX7_whoseTurn_94 ?_
        refine lv_iload_n hx hb dX7_whoseTurn_97 rfl (lv_at hl 0 rfl) ?_
        obtain ⟨hg_30, hf⟩ := g_gd hf
        have hq_31 : 6 * t0 + (xs0.toNatClampNeg) < 12 := by have h8 := g_in_lt (n := 6) hg_30; have h9 : t0 < 2 := ht0; omega
        refine xaldS hx hb hC hP ht0 hg_30 dX7_whoseTurn_98 ?_
        refine lv_dup hx hb dX7_whoseTurn_99 rfl ?_
        refine gt_9_12 hx hb hts hown hC hP hq_31 q21_1 dX7_whoseTurn_100 ?_
        refine lv_iconst (v := 1) hx hb dX7_whoseTurn_103 (by decide) ?_
        refine lv_iadd hx hb dX7_whoseTurn_104 ?_
        obtain ⟨X_32, eX_32, hf⟩ := g_letE hf
        refine pt_9_12 hx hb hts hown hC hP hS hq_31 q21_1 dX7_whoseTurn_105 (fun H locs hP hS => ?_)
        rw [eX_32] at hP
        refine lv_aload_n hx hb dX7_whoseTurn_108 rfl (lv_at hl 1 rfl) ?_
        refine lv_dup hx hb dX7_whoseTurn_109 rfl ?_
        refine gt_7_7 hx hb hts hown hC hP ht0 q17_16 dX7_whoseTurn_110 ?_
        refine lv_iconst (v := 1) hx hb dX7_whoseTurn_113 (by decide) ?_
        refine lv_iadd hx hb dX7_whoseTurn_114 ?_
        obtain ⟨X_33, eX_33, hf⟩ := g_letE hf
        refine pt_7_7 hx hb hts hown hC hP hS ht0 q17_16 dX7_whoseTurn_115 (fun H locs hP hS => ?_)
        rw [eX_33] at hP
        refine lv_aload_n hx hb dX7_whoseTurn_118 rfl (lv_at hl 1 rfl) ?_
        refine lv_iload_n hx hb dX7_whoseTurn_119 rfl (lv_at hl 0 rfl) ?_
        obtain ⟨X_34, eX_34, hf⟩ := g_letE hf
        refine pt_7_10 hx hb hts hown hC hP hS ht0 q3_19 dX7_whoseTurn_120 (fun H locs hP hS => ?_)
        rw [eX_34] at hP
        refine lv_iload_n hx hb dX7_whoseTurn_123 rfl (lv_at hl 0 rfl) ?_
        cases hf
        exact x_iret hx hb hlocks hC hP hS hr dX7_whoseTurn_124
def wb_X7_whoseTurn_40 (k40 : Nat → Int32 → Int32 → SM → Option (Int32 × SM)) (t0 : Nat) (x2 : Int32) (x3 : Int32) (X : SM) : Option (Int32 × SM) :=
  if 6 ≤ x3 then
  (g_let (u1 X 7 t0 6 ((X 7 t0 6) + 1)) fun X_14 =>
    some ((-1), X_14))
  else
  (if 6 ≤ (x2 + 1) then
    (wb_X7_whoseTurn_61 k40 t0 x3 0 X)
    else
    (wb_X7_whoseTurn_61 k40 t0 x3 (x2 + 1) X))
set_option maxRecDepth 100000 in
set_option maxHeartbeats 4000000 in
theorem bk_X7_whoseTurn_40 {p : Program} {l : Launch} {e : Env} {s : State} {m : MethodId} {args : Array Value} {below : List Frame} {meth : Method} {c : Code} {G : GP} {M : SM} {τ : SL} (C0 : g_mc p s m args meth c RX7 cX7_whoseTurn (some .int) 4 G) {r0 : Int32} {X0 : SM} (k40 : Nat → Int32 → Int32 → SM → Option (Int32 × SM)) (hk40 : ∀ (t0 : Nat) (ht0 : t0 < 2) (x2 : Int32) (x3 : Int32) (X : SM), k40 t0 x2 x3 X = some (r0, X0) → ∀ {H : Heap} {locs : List Loc}, va_P G.1 g_cl (wd G (cb X M) τ) H → va_S (g_A G) s.heap H locs → ∀ {ls : Array Slot}, lv_has ls 4 [(0, .ref (G.2.1 7 t0)), (2, .int x2), (3, .int x3)] → W p l e rm_X7_whoseTurn s m args below meth c H locs 0 0 (MQ below (va_Qi (fun r u => r = r0 ∧ u = (X0, M, τ)) (g_pw G) (g_A G)) args s 0 0 (g_A G)) (F0 m 40 ls [])) (t0 : Nat) (ht0 : t0 < 2) (x2 : Int32) (x3 : Int32) (X : SM) (hf : wb_X7_whoseTurn_40 k40 t0 x2 x3 X = some (r0, X0)) {H : Heap} {locs : List Loc} (hP : va_P G.1 g_cl (wd G (cb X M) τ) H) (hS : va_S (g_A G) s.heap H locs) {ls : Array Slot} (hl : lv_has ls 4 [(0, .ref (G.2.1 7 t0)), (2, .int x2), (3, .int x3)]) : W p l e rm_X7_whoseTurn s m args below meth c H locs 0 0 (MQ below (va_Qi (fun r u => r = r0 ∧ u = (X0, M, τ)) (g_pw G) (g_A G)) args s 0 0 (g_A G)) (F0 m 40 ls []) := by
  obtain ⟨hx, hb, hr, hml, hown, hts, hlocks, hC⟩ := id C0
  unfold wb_X7_whoseTurn_40 at hf
  refine lv_iload_n hx hb dX7_whoseTurn_40 rfl (lv_at hl 2 rfl) ?_
  refine lv_bipush (v := 6) hx hb dX7_whoseTurn_41 (by decide) ?_
  refine lv_icmp_ge (tgt := 131) hx hb dX7_whoseTurn_43 (by decide) (fun hc_13 => ?_) (fun hc_13 => ?_)
  · have hf := g_pos hf hc_13
    refine lv_aload_n hx hb dX7_whoseTurn_131 rfl (lv_at hl 0 rfl) ?_
    refine lv_dup hx hb dX7_whoseTurn_132 rfl ?_
    refine gt_7_6 hx hb hts hown hC hP ht0 q17_15 dX7_whoseTurn_133 ?_
    refine lv_iconst (v := 1) hx hb dX7_whoseTurn_136 (by decide) ?_
    refine lv_iadd hx hb dX7_whoseTurn_137 ?_
    obtain ⟨X_14, eX_14, hf⟩ := g_letE hf
    refine pt_7_6 hx hb hts hown hC hP hS ht0 q17_15 dX7_whoseTurn_138 (fun H locs hP hS => ?_)
    rw [eX_14] at hP
    refine lv_iconst (v := (-1)) hx hb dX7_whoseTurn_141 (by decide) ?_
    cases hf
    exact x_iret hx hb hlocks hC hP hS hr dX7_whoseTurn_142
  · have hf := g_neg hf hc_13
    refine lv_iload_n hx hb dX7_whoseTurn_46 rfl (lv_at hl 1 rfl) ?_
    refine lv_iconst (v := 1) hx hb dX7_whoseTurn_47 (by decide) ?_
    refine lv_iadd hx hb dX7_whoseTurn_48 ?_
    refine lv_bipush (v := 6) hx hb dX7_whoseTurn_49 (by decide) ?_
    refine lv_icmp_ge (tgt := 60) hx hb dX7_whoseTurn_51 (by decide) (fun hc_15 => ?_) (fun hc_15 => ?_)
    · have hf := g_pos hf hc_15
      refine lv_iconst (v := 0) hx hb dX7_whoseTurn_60 (by decide) ?_
      exact bk_X7_whoseTurn_61 C0 k40 hk40 t0 ht0 x3 0 X hf hP hS (lv_sub hl [0, 2] rfl)
    · have hf := g_neg hf hc_15
      refine lv_iload_n hx hb dX7_whoseTurn_54 rfl (lv_at hl 1 rfl) ?_
      refine lv_iconst (v := 1) hx hb dX7_whoseTurn_55 (by decide) ?_
      refine lv_iadd hx hb dX7_whoseTurn_56 ?_
      refine lv_goto (tgt := 61) hx hb dX7_whoseTurn_57 (by decide) ?_
      exact bk_X7_whoseTurn_61 C0 k40 hk40 t0 ht0 x3 (x2 + 1) X hf hP hS (lv_sub hl [0, 2] rfl)
def wl_X7_whoseTurn_40 (n : Nat) (t0 : Nat) (x2 : Int32) (x3 : Int32) (X : SM) : Option (Int32 × SM) := g_loop (α := Nat × Int32 × Int32 × SM) (fun k a => wb_X7_whoseTurn_40 (fun t0 x2 x3 X => k (t0, x2, x3, X)) a.1 a.2.1 a.2.2.1 a.2.2.2) n (t0, x2, x3, X)
set_option maxRecDepth 100000 in
set_option maxHeartbeats 4000000 in
theorem lp_X7_whoseTurn_40 {p : Program} {l : Launch} {e : Env} {s : State} {m : MethodId} {args : Array Value} {below : List Frame} {meth : Method} {c : Code} {G : GP} {M : SM} {τ : SL} (C0 : g_mc p s m args meth c RX7 cX7_whoseTurn (some .int) 4 G) {r0 : Int32} {X0 : SM} (n : Nat) : ∀ (t0 : Nat) (ht0 : t0 < 2) (x2 : Int32) (x3 : Int32) (X : SM), wl_X7_whoseTurn_40 n t0 x2 x3 X = some (r0, X0) → ∀ {H : Heap} {locs : List Loc}, va_P G.1 g_cl (wd G (cb X M) τ) H → va_S (g_A G) s.heap H locs → ∀ {ls : Array Slot}, lv_has ls 4 [(0, .ref (G.2.1 7 t0)), (2, .int x2), (3, .int x3)] → W p l e rm_X7_whoseTurn s m args below meth c H locs 0 0 (MQ below (va_Qi (fun r u => r = r0 ∧ u = (X0, M, τ)) (g_pw G) (g_A G)) args s 0 0 (g_A G)) (F0 m 40 ls []) := by
  induction n with
  | zero =>
    intro t0 ht0 x2 x3 X hf
    have hf : (none : Option (Int32 × SM)) = _ := hf
    cases hf
  | succ n ih =>
    intro t0 ht0 x2 x3 X hf H locs hP hS ls hl
    exact bk_X7_whoseTurn_40 C0   (fun t0 x2 x3 X => wl_X7_whoseTurn_40   n t0 x2 x3 X) ih t0 ht0 x2 x3 X hf hP hS hl
def fn_X7_whoseTurn (t0 : Nat) (X : SM) : Option (Int32 × SM) :=
  (fn_X10_ownerAt (X 7 t0 5) X).bind fun r_1 =>
  g_let (fn_X11_isThread r_1) fun r_3 =>
  if r_3 = 0 then
  (g_let ((X 7 t0 10)) fun x2_6 =>
    wl_X7_whoseTurn_40 1000 t0 x2_6 0 X)
  else
  (if g_in r_1 6 then
    g_let (fn_X9_canGo (6 * t0 + (r_1.toNatClampNeg)) X) fun r_9 =>
    if r_9 = 0 then
    (g_let ((X 7 t0 10)) fun x2_12 =>
      wl_X7_whoseTurn_40 1000 t0 x2_12 0 X)
    else
    (some (r_1, X))
    else none)
set_option maxRecDepth 100000 in
set_option maxHeartbeats 4000000 in
theorem wk_X7_whoseTurn {p : Program} {l : Launch} {e : Env} {s : State} {m : MethodId} {args : Array Value} {below : List Frame} {meth : Method} {c : Code} {G : GP} {M : SM} {τ : SL} (C0 : g_mc p s m args meth c RX7 cX7_whoseTurn (some .int) 4 G) {r0 : Int32} {X0 : SM} (t0 : Nat) (ht0 : t0 < 2) (X : SM) (hf : fn_X7_whoseTurn t0 X = some (r0, X0)) {H : Heap} {locs : List Loc} (hP : va_P G.1 g_cl (wd G (cb X M) τ) H) (hS : va_S (g_A G) s.heap H locs) {ls : Array Slot} (hl : lv_has ls 4 [(0, .ref (G.2.1 7 t0))]) : W p l e rm_X7_whoseTurn s m args below meth c H locs 0 0 (MQ below (va_Qi (fun r u => r = r0 ∧ u = (X0, M, τ)) (g_pw G) (g_A G)) args s 0 0 (g_A G)) (F0 m 0 ls []) := by
  obtain ⟨hx, hb, hr, hml, hown, hts, hlocks, hC⟩ := id C0
  unfold fn_X7_whoseTurn at hf
  refine lv_aload_n hx hb dX7_whoseTurn_0 rfl (lv_at hl 0 rfl) ?_
  refine gt_7_3 hx hb hts hown hC hP ht0 q3_20 dX7_whoseTurn_1 ?_
  refine lv_aload_n hx hb dX7_whoseTurn_4 rfl (lv_at hl 0 rfl) ?_
  refine gt_7_5 hx hb hts hown hC hP ht0 q17_14 dX7_whoseTurn_5 ?_
  obtain ⟨r_1, hc_2, hf⟩ := g_bindE hf
  refine x_calli (v := (X, M, τ)) (va_runV (As := [.int (X 7 t0 5)]) (rest := []) ⟨hx, hb, hml, hown, hts⟩ (ct_X10_ownerAt l G X M τ (X 7 t0 5) hc_2) (cwV 1 hts gd_X7_149 rfl rfl rfl hd_X10_ownerAt ⟨Nat.le_of_ble_eq_true rfl, Nat.le_of_ble_eq_true rfl⟩) (x_preV (u := (X, M, τ)) (k := 10) (ci := 10) hC hS hP Nat.zero_lt_one rfl rfl) rfl rfl hl.1 rfl (lv_room (Nat.le_of_ble_eq_true rfl)) dX7_whoseTurn_8 ⟨Nat.zero_le _, Nat.zero_le _⟩) hS (fun H locs hP hS => ?_)
  refine lv_istore_n (lv' := [(1, .int r_1), (0, .ref (G.2.1 7 t0))]) hx hb dX7_whoseTurn_11 rfl hl (by decide) rfl (fun ls hl => ?_)
  refine lv_iload_n hx hb dX7_whoseTurn_12 rfl (lv_at hl 0 rfl) ?_
  obtain ⟨r_3, hc_4, hf⟩ := g_letE hf
  refine x_calli (v := (X, M, τ)) (va_runSN (As := [.int r_1]) (rest := []) ⟨hx, hb, hml, hown, hts⟩ (ct_X11_isThread l G X M τ r_1 hc_4) ⟨va_cnB 1 hts (wz_N q8_1) rfl rfl rfl hC.2.1.1 (hts _ q1_2) hd_X11_isThread.2 ⟨Nat.le_of_ble_eq_true rfl, Nat.le_of_ble_eq_true rfl⟩, hts _ q8_0, trivial⟩ (x_pre (u := (X, M, τ)) hC hS hP) rfl rfl hl.1 rfl (lv_room (Nat.le_of_ble_eq_true rfl)) dX7_whoseTurn_13 ⟨Nat.zero_le _, Nat.zero_le _⟩) hS (fun H locs hP hS => ?_)
  refine lv_if_eq (tgt := 33) hx hb dX7_whoseTurn_16 (by decide) (fun hc_5 => ?_) (fun hc_5 => ?_)
  · have hf := g_pos hf hc_5
    refine lv_aload_n hx hb dX7_whoseTurn_33 rfl (lv_at hl 1 rfl) ?_
    refine gt_7_10 hx hb hts hown hC hP ht0 q3_19 dX7_whoseTurn_34 ?_
    obtain ⟨x2_6, ex2_6, hf⟩ := g_letE hf
    refine lv_topE ex2_6 ?_
    refine lv_istore_n (lv' := [(2, .int x2_6), (1, .int r_1), (0, .ref (G.2.1 7 t0))]) hx hb dX7_whoseTurn_37 rfl hl (by decide) rfl (fun ls hl => ?_)
    refine lv_iconst (v := 0) hx hb dX7_whoseTurn_38 (by decide) ?_
    refine lv_istore_n (lv' := [(3, .int 0), (2, .int x2_6), (1, .int r_1), (0, .ref (G.2.1 7 t0))]) hx hb dX7_whoseTurn_39 rfl hl (by decide) rfl (fun ls hl => ?_)
    exact lp_X7_whoseTurn_40 C0 1000 t0 ht0 x2_6 0 X hf hP hS (lv_sub hl [3, 1, 0] rfl)
  · have hf := g_neg hf hc_5
    refine lv_aload_n hx hb dX7_whoseTurn_19 rfl (lv_at hl 1 rfl) ?_
    refine gt_7_0 hx hb hts hown hC hP ht0 q3_10 dX7_whoseTurn_20 ?_
    refine lv_iload_n hx hb dX7_whoseTurn_23 rfl (lv_at hl 0 rfl) ?_
    obtain ⟨hg_7, hf⟩ := g_gd hf
    have hq_8 : 6 * t0 + (r_1.toNatClampNeg) < 12 := by have h8 := g_in_lt (n := 6) hg_7; have h9 : t0 < 2 := ht0; omega
    refine xaldS hx hb hC hP ht0 hg_7 dX7_whoseTurn_24 ?_
    obtain ⟨r_9, hc_10, hf⟩ := g_letE hf
    refine x_calli (v := (X, M, τ)) (va_runV (As := []) (rest := []) ⟨hx, hb, hml, hown, hts⟩ (ct_X9_canGo l G X M τ (6 * t0 + (r_1.toNatClampNeg)) hq_8 hc_10) (cwV 0 hts gd_X7_154 rfl rfl rfl hd_X9_canGo ⟨Nat.le_of_ble_eq_true rfl, Nat.le_of_ble_eq_true rfl⟩) (x_preV (u := (X, M, τ)) (k := 9) (ci := 9) hC hS hP hq_8 rfl rfl) rfl rfl hl.1 rfl (lv_room (Nat.le_of_ble_eq_true rfl)) dX7_whoseTurn_25 ⟨Nat.zero_le _, Nat.zero_le _⟩) hS (fun H locs hP hS => ?_)
    refine lv_if_eq (tgt := 33) hx hb dX7_whoseTurn_28 (by decide) (fun hc_11 => ?_) (fun hc_11 => ?_)
    · have hf := g_pos hf hc_11
      refine lv_aload_n hx hb dX7_whoseTurn_33 rfl (lv_at hl 1 rfl) ?_
      refine gt_7_10 hx hb hts hown hC hP ht0 q3_19 dX7_whoseTurn_34 ?_
      obtain ⟨x2_12, ex2_12, hf⟩ := g_letE hf
      refine lv_topE ex2_12 ?_
      refine lv_istore_n (lv' := [(2, .int x2_12), (1, .int r_1), (0, .ref (G.2.1 7 t0))]) hx hb dX7_whoseTurn_37 rfl hl (by decide) rfl (fun ls hl => ?_)
      refine lv_iconst (v := 0) hx hb dX7_whoseTurn_38 (by decide) ?_
      refine lv_istore_n (lv' := [(3, .int 0), (2, .int x2_12), (1, .int r_1), (0, .ref (G.2.1 7 t0))]) hx hb dX7_whoseTurn_39 rfl hl (by decide) rfl (fun ls hl => ?_)
      exact lp_X7_whoseTurn_40 C0 1000 t0 ht0 x2_12 0 X hf hP hS (lv_sub hl [3, 1, 0] rfl)
    · have hf := g_neg hf hc_11
      refine lv_iload_n hx hb dX7_whoseTurn_31 rfl (lv_at hl 0 rfl) ?_
      cases hf
      exact x_iret hx hb hlocks hC hP hS hr dX7_whoseTurn_32
set_option maxRecDepth 100000 in
set_option maxHeartbeats 4000000 in
theorem ct_X7_whoseTurn (l : Launch) (G : GP) (X M : SM) (τ : SL) (t0 : Nat) (ht0 : t0 < 2) {r0 : Int32} {X0 : SM} (hf : fn_X7_whoseTurn t0 X = some (r0, X0)) : Met l yX7_whoseTurn (wz yX7_whoseTurn cX7_whoseTurn 4 (some .int)) rm_X7_whoseTurn (va_Pc [.ref (G.2.1 7 t0)] (g_pw G (X, M, τ))) (va_Qi (fun r u => r = r0 ∧ u = (X0, M, τ)) (g_pw G) (g_A G)) 0 0 (g_A G) := by
  refine Met.ofW (cc := cX7_whoseTurn) (maxL := 4) (ret := (some .int)) (by decide +kernel) rfl ?_
  intro p e s m args below meth c s₁ B hml hv
  obtain ⟨rfl, hC, hP⟩ := hv
  have C0 : g_mc p s m _ meth c RX7 cX7_whoseTurn (some .int) 4 G := ⟨B.exec, B.bytes, B.returns, hml, findClass_of_methodNamed B.named, fun w h => atoms_spec (ws := wz yX7_whoseTurn cX7_whoseTurn 4 (some .int)) B.pre w (List.mem_cons_of_mem _ h), B.notSynchronized, hC⟩
  have hl := lv_entry ([.ref (G.2.1 7 t0)]) (n := 4) (Nat.le_of_ble_eq_true rfl)
  rw [lg_entry_eq]
  generalize (lg_sl ([.ref (G.2.1 7 t0)]) ++ List.replicate (4 - (lg_sl ([.ref (G.2.1 7 t0)])).length) Slot.unset).toArray = ls at hl ⊢
  exact wk_X7_whoseTurn C0  t0 ht0 X hf hP va_S.rf hl
abbrev rm_X9_read : Room := { frames := 1, cells := 0, slots := 0, locals := 20 }
def fn_X9_read (t0 : Nat) (x1 : Int32) (X : SM) : Option (Int32) :=
  g_let (fn_X11_isRegister x1) fun r_1 =>
  if r_1 = 0 then
  (some 0)
  else
  (if g_in x1 8 then
    some (X 31 t0 (x1.toNatClampNeg))
    else none)
set_option maxRecDepth 100000 in
set_option maxHeartbeats 4000000 in
theorem wk_X9_read {p : Program} {l : Launch} {e : Env} {s : State} {m : MethodId} {args : Array Value} {below : List Frame} {meth : Method} {c : Code} {G : GP} {M : SM} {τ : SL} (C0 : g_mc p s m args meth c RX9 cX9_read (some .int) 2 G) {r0 : Int32} (t0 : Nat) (ht0 : t0 < 12) (x1 : Int32) (X : SM) (hf : fn_X9_read t0 x1 X = some r0) {H : Heap} {locs : List Loc} (hP : va_P G.1 g_cl (wd G (cb X M) τ) H) (hS : va_S (g_A G) s.heap H locs) {ls : Array Slot} (hl : lv_has ls 2 [(0, .ref (G.2.1 9 t0)), (1, .int x1)]) : W p l e rm_X9_read s m args below meth c H locs 0 0 (MQ below (va_Qi (fun r u => r = r0 ∧ u = (X, M, τ)) (g_pw G) (g_A G)) args s 0 0 (g_A G)) (F0 m 0 ls []) := by
  obtain ⟨hx, hb, hr, hml, hown, hts, hlocks, hC⟩ := id C0
  unfold fn_X9_read at hf
  refine lv_iload_n hx hb dX9_read_0 rfl (lv_at hl 1 rfl) ?_
  obtain ⟨r_1, hc_2, hf⟩ := g_letE hf
  refine x_calli (v := (X, M, τ)) (va_runSN (As := [.int x1]) (rest := []) ⟨hx, hb, hml, hown, hts⟩ (ct_X11_isRegister l G X M τ x1 hc_2) ⟨va_cnB 1 hts (wz_N q20_19) rfl rfl rfl hC.2.1.2.2.2.1 (hts _ q1_2) hd_X11_isRegister.2 ⟨Nat.le_of_ble_eq_true rfl, Nat.le_of_ble_eq_true rfl⟩, hts _ q20_18, trivial⟩ (x_pre (u := (X, M, τ)) hC hS hP) rfl rfl hl.1 rfl (lv_room (Nat.le_of_ble_eq_true rfl)) dX9_read_1 ⟨Nat.zero_le _, Nat.zero_le _⟩) hS (fun H locs hP hS => ?_)
  refine lv_if_eq (tgt := 16) hx hb dX9_read_4 (by decide) (fun hc_3 => ?_) (fun hc_3 => ?_)
  · have hf := g_pos hf hc_3
    refine lv_iconst (v := 0) hx hb dX9_read_16 (by decide) ?_
    cases hf
    exact x_iret hx hb hlocks hC hP hS hr dX9_read_17
  · have hf := g_neg hf hc_3
    refine lv_aload_n hx hb dX9_read_7 rfl (lv_at hl 0 rfl) ?_
    refine gt_9_3 hx hb hts hown hC hP ht0 q5_9 dX9_read_8 ?_
    refine lv_iload_n hx hb dX9_read_11 rfl (lv_at hl 1 rfl) ?_
    obtain ⟨hg_4, hf⟩ := g_gd hf
    refine xildX (k := 31) (n := 8) hx hb hC hP (fun _ _ => rfl) rfl ht0 hg_4 dX9_read_12 ?_
    refine lv_goto (tgt := 17) hx hb dX9_read_13 (by decide) ?_
    cases hf
    exact x_iret hx hb hlocks hC hP hS hr dX9_read_17
set_option maxRecDepth 100000 in
set_option maxHeartbeats 4000000 in
theorem ct_X9_read (l : Launch) (G : GP) (X M : SM) (τ : SL) (t0 : Nat) (ht0 : t0 < 12) (x1 : Int32) {r0 : Int32} (hf : fn_X9_read t0 x1 X = some r0) : Met l yX9_read (wz yX9_read cX9_read 2 (some .int)) rm_X9_read (va_Pc [.ref (G.2.1 9 t0), .int x1] (g_pw G (X, M, τ))) (va_Qi (fun r u => r = r0 ∧ u = (X, M, τ)) (g_pw G) (g_A G)) 0 0 (g_A G) := by
  refine Met.ofW (cc := cX9_read) (maxL := 2) (ret := (some .int)) (by decide +kernel) rfl ?_
  intro p e s m args below meth c s₁ B hml hv
  obtain ⟨rfl, hC, hP⟩ := hv
  have C0 : g_mc p s m _ meth c RX9 cX9_read (some .int) 2 G := ⟨B.exec, B.bytes, B.returns, hml, findClass_of_methodNamed B.named, fun w h => atoms_spec (ws := wz yX9_read cX9_read 2 (some .int)) B.pre w (List.mem_cons_of_mem _ h), B.notSynchronized, hC⟩
  have hl := lv_entry ([.ref (G.2.1 9 t0), .int x1]) (n := 2) (Nat.le_of_ble_eq_true rfl)
  rw [lg_entry_eq]
  generalize (lg_sl ([.ref (G.2.1 9 t0), .int x1]) ++ List.replicate (2 - (lg_sl ([.ref (G.2.1 9 t0), .int x1])).length) Slot.unset).toArray = ls at hl ⊢
  exact wk_X9_read C0  t0 ht0 x1 X hf hP va_S.rf hl
abbrev rm_X9_hasCell : Room := { frames := 0, cells := 0, slots := 0, locals := 0 }
def fn_X9_hasCell (t0 : Nat) (x1 : Int32) (X : SM) : Int32 :=
  if x1 < 0 then
  (0)
  else
  (if (X 9 t0 6) ≤ x1 then
    (0)
    else
    (if 16 ≤ x1 then
      (0)
      else
      (1)))
set_option maxRecDepth 100000 in
set_option maxHeartbeats 4000000 in
theorem wk_X9_hasCell {p : Program} {l : Launch} {e : Env} {s : State} {m : MethodId} {args : Array Value} {below : List Frame} {meth : Method} {c : Code} {G : GP} {M : SM} {τ : SL} (C0 : g_mc p s m args meth c RX9 cX9_hasCell (some .boolean) 2 G) {r0 : Int32} (t0 : Nat) (ht0 : t0 < 12) (x1 : Int32) (X : SM) (hf : fn_X9_hasCell t0 x1 X = r0) {H : Heap} {locs : List Loc} (hP : va_P G.1 g_cl (wd G (cb X M) τ) H) (hS : va_S (g_A G) s.heap H locs) {ls : Array Slot} (hl : lv_has ls 2 [(0, .ref (G.2.1 9 t0)), (1, .int x1)]) : W p l e rm_X9_hasCell s m args below meth c H locs 0 0 (MQ below (va_Qi (fun r u => r = r0 ∧ u = (X, M, τ)) (g_pw G) (g_A G)) args s 0 0 (g_A G)) (F0 m 0 ls []) := by
  obtain ⟨hx, hb, hr, hml, hown, hts, hlocks, hC⟩ := id C0
  unfold fn_X9_hasCell at hf
  refine lv_iload_n hx hb dX9_hasCell_0 rfl (lv_at hl 1 rfl) ?_
  refine lv_if_lt (tgt := 22) hx hb dX9_hasCell_1 (by decide) (fun hc_1 => ?_) (fun hc_1 => ?_)
  · have hf := g_pos hf hc_1
    refine lv_iconst (v := 0) hx hb dX9_hasCell_22 (by decide) ?_
    cases hf
    exact x_zret hx hb hlocks hC hP hS hr (Or.inl rfl) dX9_hasCell_23
  · have hf := g_neg hf hc_1
    refine lv_iload_n hx hb dX9_hasCell_4 rfl (lv_at hl 1 rfl) ?_
    refine lv_aload_n hx hb dX9_hasCell_5 rfl (lv_at hl 0 rfl) ?_
    refine gt_9_6 hx hb hts hown hC hP ht0 q5_12 dX9_hasCell_6 ?_
    refine lv_icmp_ge (tgt := 22) hx hb dX9_hasCell_9 (by decide) (fun hc_2 => ?_) (fun hc_2 => ?_)
    · have hf := g_pos hf hc_2
      refine lv_iconst (v := 0) hx hb dX9_hasCell_22 (by decide) ?_
      cases hf
      exact x_zret hx hb hlocks hC hP hS hr (Or.inl rfl) dX9_hasCell_23
    · have hf := g_neg hf hc_2
      refine lv_iload_n hx hb dX9_hasCell_12 rfl (lv_at hl 1 rfl) ?_
      refine lv_bipush (v := 16) hx hb dX9_hasCell_13 (by decide) ?_
      refine lv_icmp_ge (tgt := 22) hx hb dX9_hasCell_15 (by decide) (fun hc_3 => ?_) (fun hc_3 => ?_)
      · have hf := g_pos hf hc_3
        refine lv_iconst (v := 0) hx hb dX9_hasCell_22 (by decide) ?_
        cases hf
        exact x_zret hx hb hlocks hC hP hS hr (Or.inl rfl) dX9_hasCell_23
      · have hf := g_neg hf hc_3
        refine lv_iconst (v := 1) hx hb dX9_hasCell_18 (by decide) ?_
        refine lv_goto (tgt := 23) hx hb dX9_hasCell_19 (by decide) ?_
        cases hf
        exact x_zret hx hb hlocks hC hP hS hr (Or.inr rfl) dX9_hasCell_23
set_option maxRecDepth 100000 in
set_option maxHeartbeats 4000000 in
theorem ct_X9_hasCell (l : Launch) (G : GP) (X M : SM) (τ : SL) (t0 : Nat) (ht0 : t0 < 12) (x1 : Int32) {r0 : Int32} (hf : fn_X9_hasCell t0 x1 X = r0) : Met l yX9_hasCell (wz yX9_hasCell cX9_hasCell 2 (some .boolean)) rm_X9_hasCell (va_Pc [.ref (G.2.1 9 t0), .int x1] (g_pw G (X, M, τ))) (va_Qi (fun r u => r = r0 ∧ u = (X, M, τ)) (g_pw G) (g_A G)) 0 0 (g_A G) := by
  refine Met.ofW (cc := cX9_hasCell) (maxL := 2) (ret := (some .boolean)) (by decide +kernel) rfl ?_
  intro p e s m args below meth c s₁ B hml hv
  obtain ⟨rfl, hC, hP⟩ := hv
  have C0 : g_mc p s m _ meth c RX9 cX9_hasCell (some .boolean) 2 G := ⟨B.exec, B.bytes, B.returns, hml, findClass_of_methodNamed B.named, fun w h => atoms_spec (ws := wz yX9_hasCell cX9_hasCell 2 (some .boolean)) B.pre w (List.mem_cons_of_mem _ h), B.notSynchronized, hC⟩
  have hl := lv_entry ([.ref (G.2.1 9 t0), .int x1]) (n := 2) (Nat.le_of_ble_eq_true rfl)
  rw [lg_entry_eq]
  generalize (lg_sl ([.ref (G.2.1 9 t0), .int x1]) ++ List.replicate (2 - (lg_sl ([.ref (G.2.1 9 t0), .int x1])).length) Slot.unset).toArray = ls at hl ⊢
  exact wk_X9_hasCell C0  t0 ht0 x1 X hf hP va_S.rf hl
abbrev rm_X8_kindOf : Room := { frames := 1, cells := 0, slots := 0, locals := 20 }
def fn_X8_kindOf (t0 : Nat) (x1 : Int32) (X : SM) : Option (Int32) :=
  g_let (fn_X11_isPin x1) fun r_1 =>
  if r_1 = 0 then
  (some 2)
  else
  (if g_in x1 8 then
    some (X 29 t0 (x1.toNatClampNeg))
    else none)
set_option maxRecDepth 100000 in
set_option maxHeartbeats 4000000 in
theorem wk_X8_kindOf {p : Program} {l : Launch} {e : Env} {s : State} {m : MethodId} {args : Array Value} {below : List Frame} {meth : Method} {c : Code} {G : GP} {M : SM} {τ : SL} (C0 : g_mc p s m args meth c RX8 cX8_kindOf (some .int) 2 G) {r0 : Int32} (t0 : Nat) (ht0 : t0 < 2) (x1 : Int32) (X : SM) (hf : fn_X8_kindOf t0 x1 X = some r0) {H : Heap} {locs : List Loc} (hP : va_P G.1 g_cl (wd G (cb X M) τ) H) (hS : va_S (g_A G) s.heap H locs) {ls : Array Slot} (hl : lv_has ls 2 [(0, .ref (G.2.1 8 t0)), (1, .int x1)]) : W p l e rm_X8_kindOf s m args below meth c H locs 0 0 (MQ below (va_Qi (fun r u => r = r0 ∧ u = (X, M, τ)) (g_pw G) (g_A G)) args s 0 0 (g_A G)) (F0 m 0 ls []) := by
  obtain ⟨hx, hb, hr, hml, hown, hts, hlocks, hC⟩ := id C0
  unfold fn_X8_kindOf at hf
  refine lv_iload_n hx hb dX8_kindOf_0 rfl (lv_at hl 1 rfl) ?_
  obtain ⟨r_1, hc_2, hf⟩ := g_letE hf
  refine x_calli (v := (X, M, τ)) (va_runSN (As := [.int x1]) (rest := []) ⟨hx, hb, hml, hown, hts⟩ (ct_X11_isPin l G X M τ x1 hc_2) ⟨va_cnB 1 hts (wz_N q12_3) rfl rfl rfl hC.2.1.2.1 (hts _ q1_2) hd_X11_isPin.2 ⟨Nat.le_of_ble_eq_true rfl, Nat.le_of_ble_eq_true rfl⟩, hts _ q12_2, trivial⟩ (x_pre (u := (X, M, τ)) hC hS hP) rfl rfl hl.1 rfl (lv_room (Nat.le_of_ble_eq_true rfl)) dX8_kindOf_1 ⟨Nat.zero_le _, Nat.zero_le _⟩) hS (fun H locs hP hS => ?_)
  refine lv_if_eq (tgt := 16) hx hb dX8_kindOf_4 (by decide) (fun hc_3 => ?_) (fun hc_3 => ?_)
  · have hf := g_pos hf hc_3
    refine lv_iconst (v := 2) hx hb dX8_kindOf_16 (by decide) ?_
    cases hf
    exact x_iret hx hb hlocks hC hP hS hr dX8_kindOf_17
  · have hf := g_neg hf hc_3
    refine lv_aload_n hx hb dX8_kindOf_7 rfl (lv_at hl 0 rfl) ?_
    refine gt_8_0 hx hb hts hown hC hP ht0 q4_4 dX8_kindOf_8 ?_
    refine lv_iload_n hx hb dX8_kindOf_11 rfl (lv_at hl 1 rfl) ?_
    obtain ⟨hg_4, hf⟩ := g_gd hf
    refine xildX (k := 29) (n := 8) hx hb hC hP (fun _ _ => rfl) rfl ht0 hg_4 dX8_kindOf_12 ?_
    refine lv_goto (tgt := 17) hx hb dX8_kindOf_13 (by decide) ?_
    cases hf
    exact x_iret hx hb hlocks hC hP hS hr dX8_kindOf_17
set_option maxRecDepth 100000 in
set_option maxHeartbeats 4000000 in
theorem ct_X8_kindOf (l : Launch) (G : GP) (X M : SM) (τ : SL) (t0 : Nat) (ht0 : t0 < 2) (x1 : Int32) {r0 : Int32} (hf : fn_X8_kindOf t0 x1 X = some r0) : Met l yX8_kindOf (wz yX8_kindOf cX8_kindOf 2 (some .int)) rm_X8_kindOf (va_Pc [.ref (G.2.1 8 t0), .int x1] (g_pw G (X, M, τ))) (va_Qi (fun r u => r = r0 ∧ u = (X, M, τ)) (g_pw G) (g_A G)) 0 0 (g_A G) := by
  refine Met.ofW (cc := cX8_kindOf) (maxL := 2) (ret := (some .int)) (by decide +kernel) rfl ?_
  intro p e s m args below meth c s₁ B hml hv
  obtain ⟨rfl, hC, hP⟩ := hv
  have C0 : g_mc p s m _ meth c RX8 cX8_kindOf (some .int) 2 G := ⟨B.exec, B.bytes, B.returns, hml, findClass_of_methodNamed B.named, fun w h => atoms_spec (ws := wz yX8_kindOf cX8_kindOf 2 (some .int)) B.pre w (List.mem_cons_of_mem _ h), B.notSynchronized, hC⟩
  have hl := lv_entry ([.ref (G.2.1 8 t0), .int x1]) (n := 2) (Nat.le_of_ble_eq_true rfl)
  rw [lg_entry_eq]
  generalize (lg_sl ([.ref (G.2.1 8 t0), .int x1]) ++ List.replicate (2 - (lg_sl ([.ref (G.2.1 8 t0), .int x1])).length) Slot.unset).toArray = ls at hl ⊢
  exact wk_X8_kindOf C0  t0 ht0 x1 X hf hP va_S.rf hl
abbrev rm_X7_isClaimed : Room := { frames := 0, cells := 0, slots := 0, locals := 0 }
def wb_X7_isClaimed_2 (k2 : Nat → Int32 → Int32 → SM → Option (Int32)) (t0 : Nat) (x1 : Int32) (x2 : Int32) (X : SM) : Option (Int32) :=
  if 6 ≤ x2 then
  (some 0)
  else
  (if g_in x2 6 then
    g_let ((6 * t0 + (x2.toNatClampNeg))) fun t3_4 =>
    if (X 9 t3_4 9) = 1 then
    (if (X 4 t3_4 0) = 11 then
      (if (X 4 t3_4 1) = x1 then
        (some 1)
        else
        (g_let (x2 + 1) fun x2_10 =>
          k2 t0 x1 x2_10 X))
      else
      (g_let (x2 + 1) fun x2_8 =>
        k2 t0 x1 x2_8 X))
    else
    (g_let (x2 + 1) fun x2_6 =>
      k2 t0 x1 x2_6 X)
    else none)
set_option maxRecDepth 100000 in
set_option maxHeartbeats 4000000 in
theorem bk_X7_isClaimed_2 {p : Program} {l : Launch} {e : Env} {s : State} {m : MethodId} {args : Array Value} {below : List Frame} {meth : Method} {c : Code} {G : GP} {M : SM} {τ : SL} (C0 : g_mc p s m args meth c RX7 cX7_isClaimed (some .boolean) 4 G) {r0 : Int32} (k2 : Nat → Int32 → Int32 → SM → Option (Int32)) (hk2 : ∀ (t0 : Nat) (ht0 : t0 < 2) (x1 : Int32) (x2 : Int32) (X : SM), k2 t0 x1 x2 X = some r0 → ∀ {H : Heap} {locs : List Loc}, va_P G.1 g_cl (wd G (cb X M) τ) H → va_S (g_A G) s.heap H locs → ∀ {ls : Array Slot}, lv_has ls 4 [(0, .ref (G.2.1 7 t0)), (1, .int x1), (2, .int x2)] → W p l e rm_X7_isClaimed s m args below meth c H locs 0 0 (MQ below (va_Qi (fun r u => r = r0 ∧ u = (X, M, τ)) (g_pw G) (g_A G)) args s 0 0 (g_A G)) (F0 m 2 ls [])) (t0 : Nat) (ht0 : t0 < 2) (x1 : Int32) (x2 : Int32) (X : SM) (hf : wb_X7_isClaimed_2 k2 t0 x1 x2 X = some r0) {H : Heap} {locs : List Loc} (hP : va_P G.1 g_cl (wd G (cb X M) τ) H) (hS : va_S (g_A G) s.heap H locs) {ls : Array Slot} (hl : lv_has ls 4 [(0, .ref (G.2.1 7 t0)), (1, .int x1), (2, .int x2)]) : W p l e rm_X7_isClaimed s m args below meth c H locs 0 0 (MQ below (va_Qi (fun r u => r = r0 ∧ u = (X, M, τ)) (g_pw G) (g_A G)) args s 0 0 (g_A G)) (F0 m 2 ls []) := by
  obtain ⟨hx, hb, hr, hml, hown, hts, hlocks, hC⟩ := id C0
  unfold wb_X7_isClaimed_2 at hf
  refine lv_iload_n hx hb dX7_isClaimed_2 rfl (lv_at hl 2 rfl) ?_
  refine lv_bipush (v := 6) hx hb dX7_isClaimed_3 (by decide) ?_
  refine lv_icmp_ge (tgt := 54) hx hb dX7_isClaimed_5 (by decide) (fun hc_1 => ?_) (fun hc_1 => ?_)
  · have hf := g_pos hf hc_1
    refine lv_iconst (v := 0) hx hb dX7_isClaimed_54 (by decide) ?_
    cases hf
    exact x_zret hx hb hlocks hC hP hS hr (Or.inl rfl) dX7_isClaimed_55
  · have hf := g_neg hf hc_1
    refine lv_aload_n hx hb dX7_isClaimed_8 rfl (lv_at hl 0 rfl) ?_
    refine gt_7_0 hx hb hts hown hC hP ht0 q3_10 dX7_isClaimed_9 ?_
    refine lv_iload_n hx hb dX7_isClaimed_12 rfl (lv_at hl 2 rfl) ?_
    obtain ⟨hg_2, hf⟩ := g_gd hf
    have hq_3 : 6 * t0 + (x2.toNatClampNeg) < 12 := by have h8 := g_in_lt (n := 6) hg_2; have h9 : t0 < 2 := ht0; omega
    refine xaldS hx hb hC hP ht0 hg_2 dX7_isClaimed_13 ?_
    obtain ⟨t3_4, et3_4, hf⟩ := g_letE hf
    refine lv_toprE et3_4 ?_
    have ht3_4 : t3_4 < 12 := by rw [← et3_4]; exact hq_3
    refine lv_astore_n (lv' := [(3, .ref (G.2.1 9 t3_4)), (0, .ref (G.2.1 7 t0)), (1, .int x1), (2, .int x2)]) hx hb dX7_isClaimed_14 rfl hl (by decide) rfl (fun ls hl => ?_)
    refine lv_aload_n hx hb dX7_isClaimed_15 rfl (lv_at hl 0 rfl) ?_
    refine gt_9_9 hx hb hts hown hC hP ht3_4 q19_7 dX7_isClaimed_16 ?_
    refine lv_iconst (v := 1) hx hb dX7_isClaimed_19 (by decide) ?_
    refine lv_icmp_ne (tgt := 48) hx hb dX7_isClaimed_20 (by decide) (fun hc_5 => ?_) (fun hc_5 => ?_)
    · have hf := g_neg hf hc_5
      obtain ⟨x2_6, ex2_6, hf⟩ := g_letE hf
      refine lv_iinc (v := x2_6) (lv' := [(2, .int x2_6), (3, .ref (G.2.1 9 t3_4)), (0, .ref (G.2.1 7 t0)), (1, .int x1)]) hx hb dX7_isClaimed_48 hl (k := 3) rfl (by rw [← ex2_6]; rfl) (by decide) rfl (fun ls hl => ?_)
      refine lv_goto (tgt := 2) hx hb dX7_isClaimed_51 (by decide) ?_
      exact hk2 t0 ht0 x1 x2_6 X hf hP hS (lv_sub hl [2, 3, 0] rfl)
    · have hf := g_pos hf hc_5
      refine lv_aload_n hx hb dX7_isClaimed_23 rfl (lv_at hl 0 rfl) ?_
      refine gt_9_2 hx hb hts hown hC hP ht3_4 q19_8 dX7_isClaimed_24 ?_
      refine gt_4_0 hx hb hts hown hC hP ht3_4 q19_22 dX7_isClaimed_27 ?_
      refine lv_bipush (v := 11) hx hb dX7_isClaimed_30 (by decide) ?_
      refine lv_icmp_ne (tgt := 48) hx hb dX7_isClaimed_32 (by decide) (fun hc_7 => ?_) (fun hc_7 => ?_)
      · have hf := g_neg hf hc_7
        obtain ⟨x2_8, ex2_8, hf⟩ := g_letE hf
        refine lv_iinc (v := x2_8) (lv' := [(2, .int x2_8), (3, .ref (G.2.1 9 t3_4)), (0, .ref (G.2.1 7 t0)), (1, .int x1)]) hx hb dX7_isClaimed_48 hl (k := 3) rfl (by rw [← ex2_8]; rfl) (by decide) rfl (fun ls hl => ?_)
        refine lv_goto (tgt := 2) hx hb dX7_isClaimed_51 (by decide) ?_
        exact hk2 t0 ht0 x1 x2_8 X hf hP hS (lv_sub hl [2, 3, 0] rfl)
      · have hf := g_pos hf hc_7
        refine lv_aload_n hx hb dX7_isClaimed_35 rfl (lv_at hl 0 rfl) ?_
        refine gt_9_2 hx hb hts hown hC hP ht3_4 q19_8 dX7_isClaimed_36 ?_
        refine gt_4_1 hx hb hts hown hC hP ht3_4 q19_23 dX7_isClaimed_39 ?_
        refine lv_iload_n hx hb dX7_isClaimed_42 rfl (lv_at hl 2 rfl) ?_
        refine lv_icmp_ne (tgt := 48) hx hb dX7_isClaimed_43 (by decide) (fun hc_9 => ?_) (fun hc_9 => ?_)
        · have hf := g_neg hf hc_9
          obtain ⟨x2_10, ex2_10, hf⟩ := g_letE hf
          refine lv_iinc (v := x2_10) (lv' := [(2, .int x2_10), (3, .ref (G.2.1 9 t3_4)), (0, .ref (G.2.1 7 t0)), (1, .int x1)]) hx hb dX7_isClaimed_48 hl (k := 3) rfl (by rw [← ex2_10]; rfl) (by decide) rfl (fun ls hl => ?_)
          refine lv_goto (tgt := 2) hx hb dX7_isClaimed_51 (by decide) ?_
          exact hk2 t0 ht0 x1 x2_10 X hf hP hS (lv_sub hl [2, 3, 0] rfl)
        · have hf := g_pos hf hc_9
          refine lv_iconst (v := 1) hx hb dX7_isClaimed_46 (by decide) ?_
          cases hf
          exact x_zret hx hb hlocks hC hP hS hr (Or.inr rfl) dX7_isClaimed_47
def wl_X7_isClaimed_2 (n : Nat) (t0 : Nat) (x1 : Int32) (x2 : Int32) (X : SM) : Option (Int32) := g_loop (α := Nat × Int32 × Int32 × SM) (fun k a => wb_X7_isClaimed_2 (fun t0 x1 x2 X => k (t0, x1, x2, X)) a.1 a.2.1 a.2.2.1 a.2.2.2) n (t0, x1, x2, X)
set_option maxRecDepth 100000 in
set_option maxHeartbeats 4000000 in
theorem lp_X7_isClaimed_2 {p : Program} {l : Launch} {e : Env} {s : State} {m : MethodId} {args : Array Value} {below : List Frame} {meth : Method} {c : Code} {G : GP} {M : SM} {τ : SL} (C0 : g_mc p s m args meth c RX7 cX7_isClaimed (some .boolean) 4 G) {r0 : Int32} (n : Nat) : ∀ (t0 : Nat) (ht0 : t0 < 2) (x1 : Int32) (x2 : Int32) (X : SM), wl_X7_isClaimed_2 n t0 x1 x2 X = some r0 → ∀ {H : Heap} {locs : List Loc}, va_P G.1 g_cl (wd G (cb X M) τ) H → va_S (g_A G) s.heap H locs → ∀ {ls : Array Slot}, lv_has ls 4 [(0, .ref (G.2.1 7 t0)), (1, .int x1), (2, .int x2)] → W p l e rm_X7_isClaimed s m args below meth c H locs 0 0 (MQ below (va_Qi (fun r u => r = r0 ∧ u = (X, M, τ)) (g_pw G) (g_A G)) args s 0 0 (g_A G)) (F0 m 2 ls []) := by
  induction n with
  | zero =>
    intro t0 ht0 x1 x2 X hf
    have hf : (none : Option (Int32)) = _ := hf
    cases hf
  | succ n ih =>
    intro t0 ht0 x1 x2 X hf H locs hP hS ls hl
    exact bk_X7_isClaimed_2 C0   (fun t0 x1 x2 X => wl_X7_isClaimed_2   n t0 x1 x2 X) ih t0 ht0 x1 x2 X hf hP hS hl
def fn_X7_isClaimed (t0 : Nat) (x1 : Int32) (X : SM) : Option (Int32) :=
  wl_X7_isClaimed_2 1000 t0 x1 0 X
set_option maxRecDepth 100000 in
set_option maxHeartbeats 4000000 in
theorem wk_X7_isClaimed {p : Program} {l : Launch} {e : Env} {s : State} {m : MethodId} {args : Array Value} {below : List Frame} {meth : Method} {c : Code} {G : GP} {M : SM} {τ : SL} (C0 : g_mc p s m args meth c RX7 cX7_isClaimed (some .boolean) 4 G) {r0 : Int32} (t0 : Nat) (ht0 : t0 < 2) (x1 : Int32) (X : SM) (hf : fn_X7_isClaimed t0 x1 X = some r0) {H : Heap} {locs : List Loc} (hP : va_P G.1 g_cl (wd G (cb X M) τ) H) (hS : va_S (g_A G) s.heap H locs) {ls : Array Slot} (hl : lv_has ls 4 [(0, .ref (G.2.1 7 t0)), (1, .int x1)]) : W p l e rm_X7_isClaimed s m args below meth c H locs 0 0 (MQ below (va_Qi (fun r u => r = r0 ∧ u = (X, M, τ)) (g_pw G) (g_A G)) args s 0 0 (g_A G)) (F0 m 0 ls []) := by
  obtain ⟨hx, hb, hr, hml, hown, hts, hlocks, hC⟩ := id C0
  unfold fn_X7_isClaimed at hf
  refine lv_iconst (v := 0) hx hb dX7_isClaimed_0 (by decide) ?_
  refine lv_istore_n (lv' := [(2, .int 0), (0, .ref (G.2.1 7 t0)), (1, .int x1)]) hx hb dX7_isClaimed_1 rfl hl (by decide) rfl (fun ls hl => ?_)
  exact lp_X7_isClaimed_2 C0 1000 t0 ht0 x1 0 X hf hP hS (lv_sub hl [1, 2, 0] rfl)
set_option maxRecDepth 100000 in
set_option maxHeartbeats 4000000 in
theorem ct_X7_isClaimed (l : Launch) (G : GP) (X M : SM) (τ : SL) (t0 : Nat) (ht0 : t0 < 2) (x1 : Int32) {r0 : Int32} (hf : fn_X7_isClaimed t0 x1 X = some r0) : Met l yX7_isClaimed (wz yX7_isClaimed cX7_isClaimed 4 (some .boolean)) rm_X7_isClaimed (va_Pc [.ref (G.2.1 7 t0), .int x1] (g_pw G (X, M, τ))) (va_Qi (fun r u => r = r0 ∧ u = (X, M, τ)) (g_pw G) (g_A G)) 0 0 (g_A G) := by
  refine Met.ofW (cc := cX7_isClaimed) (maxL := 4) (ret := (some .boolean)) (by decide +kernel) rfl ?_
  intro p e s m args below meth c s₁ B hml hv
  obtain ⟨rfl, hC, hP⟩ := hv
  have C0 : g_mc p s m _ meth c RX7 cX7_isClaimed (some .boolean) 4 G := ⟨B.exec, B.bytes, B.returns, hml, findClass_of_methodNamed B.named, fun w h => atoms_spec (ws := wz yX7_isClaimed cX7_isClaimed 4 (some .boolean)) B.pre w (List.mem_cons_of_mem _ h), B.notSynchronized, hC⟩
  have hl := lv_entry ([.ref (G.2.1 7 t0), .int x1]) (n := 4) (Nat.le_of_ble_eq_true rfl)
  rw [lg_entry_eq]
  generalize (lg_sl ([.ref (G.2.1 7 t0), .int x1]) ++ List.replicate (4 - (lg_sl ([.ref (G.2.1 7 t0), .int x1])).length) Slot.unset).toArray = ls at hl ⊢
  exact wk_X7_isClaimed C0  t0 ht0 x1 X hf hP va_S.rf hl
abbrev rm_X7_trapOf : Room := { frames := 2, cells := 0, slots := 0, locals := 41 }
def fn_X7_trapOf (t0 : Nat) (t1 : Nat) (x2 : Int32) (x3 : Int32) (x4 : Int32) (X : SM) : Option (Int32) :=
  if x2 = 5 then
  (if (X 9 t1 6) = (-1) then
    (some 1)
    else
    ((fn_X9_read t1 x4 X).bind fun r_3 =>
      g_let (fn_X9_hasCell t1 r_3 X) fun r_5 =>
      if r_5 = 0 then
      (some 2)
      else
      (some 0)))
  else
  (if x2 = 6 then
    (if (X 9 t1 6) = (-1) then
      (some 1)
      else
      ((fn_X9_read t1 x4 X).bind fun r_34 =>
        g_let (fn_X9_hasCell t1 r_34 X) fun r_36 =>
        if r_36 = 0 then
        (some 2)
        else
        (some 0)))
    else
    (if x2 = 10 then
      ((fn_X8_kindOf t0 x3 X).bind fun r_10 =>
        if r_10 = 1 then
        (if x2 = 11 then
          ((fn_X7_isClaimed t0 x3 X).bind fun r_14 =>
            if r_14 = 0 then
            (some 0)
            else
            (some 4))
          else
          (some 0))
        else
        (some 3))
      else
      (if x2 = 11 then
        ((fn_X8_kindOf t0 x3 X).bind fun r_26 =>
          if r_26 = 1 then
          (if x2 = 11 then
            ((fn_X7_isClaimed t0 x3 X).bind fun r_30 =>
              if r_30 = 0 then
              (some 0)
              else
              (some 4))
            else
            (some 0))
          else
          (some 3))
        else
        (if x2 = 12 then
          ((fn_X8_kindOf t0 x3 X).bind fun r_19 =>
            if r_19 = 0 then
            (some 0)
            else
            (some 3))
          else
          (if x2 = 13 then
            ((fn_X8_kindOf t0 x3 X).bind fun r_23 =>
              if r_23 = 0 then
              (some 0)
              else
              (some 3))
            else
            (some 0))))))
set_option maxRecDepth 100000 in
set_option maxHeartbeats 4000000 in
theorem wk_X7_trapOf {p : Program} {l : Launch} {e : Env} {s : State} {m : MethodId} {args : Array Value} {below : List Frame} {meth : Method} {c : Code} {G : GP} {M : SM} {τ : SL} (C0 : g_mc p s m args meth c RX7 cX7_trapOf (some .int) 5 G) {r0 : Int32} (t0 : Nat) (ht0 : t0 < 2) (t1 : Nat) (ht1 : t1 < 12) (x2 : Int32) (x3 : Int32) (x4 : Int32) (X : SM) (hf : fn_X7_trapOf t0 t1 x2 x3 x4 X = some r0) {H : Heap} {locs : List Loc} (hP : va_P G.1 g_cl (wd G (cb X M) τ) H) (hS : va_S (g_A G) s.heap H locs) {ls : Array Slot} (hl : lv_has ls 5 [(0, .ref (G.2.1 7 t0)), (1, .ref (G.2.1 9 t1)), (2, .int x2), (3, .int x3), (4, .int x4)]) : W p l e rm_X7_trapOf s m args below meth c H locs 0 0 (MQ below (va_Qi (fun r u => r = r0 ∧ u = (X, M, τ)) (g_pw G) (g_A G)) args s 0 0 (g_A G)) (F0 m 0 ls []) := by
  obtain ⟨hx, hb, hr, hml, hown, hts, hlocks, hC⟩ := id C0
  unfold fn_X7_trapOf at hf
  refine lv_iload_n hx hb dX7_trapOf_0 rfl (lv_at hl 2 rfl) ?_
  refine lv_iconst (v := 5) hx hb dX7_trapOf_1 (by decide) ?_
  refine lv_icmp_eq (tgt := 11) hx hb dX7_trapOf_2 (by decide) (fun hc_1 => ?_) (fun hc_1 => ?_)
  · have hf := g_pos hf hc_1
    refine lv_aload_n hx hb dX7_trapOf_11 rfl (lv_at hl 1 rfl) ?_
    refine gt_9_6 hx hb hts hown hC hP ht1 q22_6 dX7_trapOf_12 ?_
    refine lv_iconst (v := (-1)) hx hb dX7_trapOf_15 (by decide) ?_
    refine lv_icmp_ne (tgt := 21) hx hb dX7_trapOf_16 (by decide) (fun hc_2 => ?_) (fun hc_2 => ?_)
    · have hf := g_neg hf hc_2
      refine lv_aload_n hx hb dX7_trapOf_21 rfl (lv_at hl 1 rfl) ?_
      refine lv_aload_n hx hb dX7_trapOf_22 rfl (lv_at hl 1 rfl) ?_
      refine lv_iload hx hb dX7_trapOf_23 (lv_at hl 4 rfl) ?_
      obtain ⟨r_3, hc_4, hf⟩ := g_bindE hf
      refine x_calli (v := (X, M, τ)) (va_runV (As := [.int x4]) (rest := [.ref (G.2.1 9 t1)]) ⟨hx, hb, hml, hown, hts⟩ (ct_X9_read l G X M τ t1 ht1 x4 hc_4) (cwV 1 hts gd_X7_207 rfl rfl rfl hd_X9_read ⟨Nat.le_of_ble_eq_true rfl, Nat.le_of_ble_eq_true rfl⟩) (x_preV (u := (X, M, τ)) (k := 9) (ci := 9) hC hS hP ht1 rfl rfl) rfl rfl hl.1 rfl (lv_room (Nat.le_of_ble_eq_true rfl)) dX7_trapOf_25 ⟨Nat.zero_le _, Nat.zero_le _⟩) hS (fun H locs hP hS => ?_)
      obtain ⟨r_5, hc_6, hf⟩ := g_letE hf
      refine x_calli (v := (X, M, τ)) (va_runV (As := [.int r_3]) (rest := []) ⟨hx, hb, hml, hown, hts⟩ (ct_X9_hasCell l G X M τ t1 ht1 r_3 hc_6) (cwV 1 hts gd_X7_210 rfl rfl rfl hd_X9_hasCell ⟨Nat.le_of_ble_eq_true rfl, Nat.le_of_ble_eq_true rfl⟩) (x_preV (u := (X, M, τ)) (k := 9) (ci := 9) hC hS hP ht1 rfl rfl) rfl rfl hl.1 rfl (lv_room (Nat.le_of_ble_eq_true rfl)) dX7_trapOf_28 ⟨Nat.zero_le _, Nat.zero_le _⟩) hS (fun H locs hP hS => ?_)
      refine lv_if_eq (tgt := 38) hx hb dX7_trapOf_31 (by decide) (fun hc_7 => ?_) (fun hc_7 => ?_)
      · have hf := g_pos hf hc_7
        refine lv_iconst (v := 2) hx hb dX7_trapOf_38 (by decide) ?_
        cases hf
        exact x_iret hx hb hlocks hC hP hS hr dX7_trapOf_39
      · have hf := g_neg hf hc_7
        refine lv_iconst (v := 0) hx hb dX7_trapOf_34 (by decide) ?_
        refine lv_goto (tgt := 39) hx hb dX7_trapOf_35 (by decide) ?_
        cases hf
        exact x_iret hx hb hlocks hC hP hS hr dX7_trapOf_39
    · have hf := g_pos hf hc_2
      refine lv_iconst (v := 1) hx hb dX7_trapOf_19 (by decide) ?_
      cases hf
      exact x_iret hx hb hlocks hC hP hS hr dX7_trapOf_20
  · have hf := g_neg hf hc_1
    refine lv_iload_n hx hb dX7_trapOf_5 rfl (lv_at hl 2 rfl) ?_
    refine lv_bipush (v := 6) hx hb dX7_trapOf_6 (by decide) ?_
    refine lv_icmp_ne (tgt := 40) hx hb dX7_trapOf_8 (by decide) (fun hc_8 => ?_) (fun hc_8 => ?_)
    · have hf := g_neg hf hc_8
      refine lv_iload_n hx hb dX7_trapOf_40 rfl (lv_at hl 2 rfl) ?_
      refine lv_bipush (v := 10) hx hb dX7_trapOf_41 (by decide) ?_
      refine lv_icmp_eq (tgt := 52) hx hb dX7_trapOf_43 (by decide) (fun hc_9 => ?_) (fun hc_9 => ?_)
      · have hf := g_pos hf hc_9
        refine lv_aload_n hx hb dX7_trapOf_52 rfl (lv_at hl 0 rfl) ?_
        refine gt_7_1 hx hb hts hown hC hP ht0 q3_14 dX7_trapOf_53 ?_
        refine lv_iload_n hx hb dX7_trapOf_56 rfl (lv_at hl 3 rfl) ?_
        obtain ⟨r_10, hc_11, hf⟩ := g_bindE hf
        refine x_calli (v := (X, M, τ)) (va_runV (As := [.int x3]) (rest := []) ⟨hx, hb, hml, hown, hts⟩ (ct_X8_kindOf l G X M τ t0 ht0 x3 hc_11) (cwV 1 hts gd_X7_213 rfl rfl rfl hd_X8_kindOf ⟨Nat.le_of_ble_eq_true rfl, Nat.le_of_ble_eq_true rfl⟩) (x_preV (u := (X, M, τ)) (k := 8) (ci := 8) hC hS hP ht0 rfl rfl) rfl rfl hl.1 rfl (lv_room (Nat.le_of_ble_eq_true rfl)) dX7_trapOf_57 ⟨Nat.zero_le _, Nat.zero_le _⟩) hS (fun H locs hP hS => ?_)
        refine lv_iconst (v := 1) hx hb dX7_trapOf_60 (by decide) ?_
        refine lv_icmp_eq (tgt := 66) hx hb dX7_trapOf_61 (by decide) (fun hc_12 => ?_) (fun hc_12 => ?_)
        · have hf := g_pos hf hc_12
          refine lv_iload_n hx hb dX7_trapOf_66 rfl (lv_at hl 2 rfl) ?_
          refine lv_bipush (v := 11) hx hb dX7_trapOf_67 (by decide) ?_
          refine lv_icmp_ne (tgt := 84) hx hb dX7_trapOf_69 (by decide) (fun hc_13 => ?_) (fun hc_13 => ?_)
          · have hf := g_neg hf hc_13
            refine lv_iconst (v := 0) hx hb dX7_trapOf_84 (by decide) ?_
            cases hf
            exact x_iret hx hb hlocks hC hP hS hr dX7_trapOf_85
          · have hf := g_pos hf hc_13
            refine lv_aload_n hx hb dX7_trapOf_72 rfl (lv_at hl 0 rfl) ?_
            refine lv_iload_n hx hb dX7_trapOf_73 rfl (lv_at hl 3 rfl) ?_
            obtain ⟨r_14, hc_15, hf⟩ := g_bindE hf
            refine x_calli (v := (X, M, τ)) (va_runV (As := [.int x3]) (rest := []) ⟨hx, hb, hml, hown, hts⟩ (ct_X7_isClaimed l G X M τ t0 ht0 x3 hc_15) (cwV 1 hts gd_X7_216 rfl rfl rfl hd_X7_isClaimed ⟨Nat.le_of_ble_eq_true rfl, Nat.le_of_ble_eq_true rfl⟩) (x_preV (u := (X, M, τ)) (k := 7) (ci := 7) hC hS hP ht0 rfl rfl) rfl rfl hl.1 rfl (lv_room (Nat.le_of_ble_eq_true rfl)) dX7_trapOf_74 ⟨Nat.zero_le _, Nat.zero_le _⟩) hS (fun H locs hP hS => ?_)
            refine lv_if_eq (tgt := 84) hx hb dX7_trapOf_77 (by decide) (fun hc_16 => ?_) (fun hc_16 => ?_)
            · have hf := g_pos hf hc_16
              refine lv_iconst (v := 0) hx hb dX7_trapOf_84 (by decide) ?_
              cases hf
              exact x_iret hx hb hlocks hC hP hS hr dX7_trapOf_85
            · have hf := g_neg hf hc_16
              refine lv_iconst (v := 4) hx hb dX7_trapOf_80 (by decide) ?_
              refine lv_goto (tgt := 85) hx hb dX7_trapOf_81 (by decide) ?_
              cases hf
              exact x_iret hx hb hlocks hC hP hS hr dX7_trapOf_85
        · have hf := g_neg hf hc_12
          refine lv_iconst (v := 3) hx hb dX7_trapOf_64 (by decide) ?_
          cases hf
          exact x_iret hx hb hlocks hC hP hS hr dX7_trapOf_65
      · have hf := g_neg hf hc_9
        refine lv_iload_n hx hb dX7_trapOf_46 rfl (lv_at hl 2 rfl) ?_
        refine lv_bipush (v := 11) hx hb dX7_trapOf_47 (by decide) ?_
        refine lv_icmp_ne (tgt := 86) hx hb dX7_trapOf_49 (by decide) (fun hc_17 => ?_) (fun hc_17 => ?_)
        · have hf := g_neg hf hc_17
          refine lv_iload_n hx hb dX7_trapOf_86 rfl (lv_at hl 2 rfl) ?_
          refine lv_bipush (v := 12) hx hb dX7_trapOf_87 (by decide) ?_
          refine lv_icmp_eq (tgt := 98) hx hb dX7_trapOf_89 (by decide) (fun hc_18 => ?_) (fun hc_18 => ?_)
          · have hf := g_pos hf hc_18
            refine lv_aload_n hx hb dX7_trapOf_98 rfl (lv_at hl 0 rfl) ?_
            refine gt_7_1 hx hb hts hown hC hP ht0 q3_14 dX7_trapOf_99 ?_
            refine lv_iload_n hx hb dX7_trapOf_102 rfl (lv_at hl 3 rfl) ?_
            obtain ⟨r_19, hc_20, hf⟩ := g_bindE hf
            refine x_calli (v := (X, M, τ)) (va_runV (As := [.int x3]) (rest := []) ⟨hx, hb, hml, hown, hts⟩ (ct_X8_kindOf l G X M τ t0 ht0 x3 hc_20) (cwV 1 hts gd_X7_213 rfl rfl rfl hd_X8_kindOf ⟨Nat.le_of_ble_eq_true rfl, Nat.le_of_ble_eq_true rfl⟩) (x_preV (u := (X, M, τ)) (k := 8) (ci := 8) hC hS hP ht0 rfl rfl) rfl rfl hl.1 rfl (lv_room (Nat.le_of_ble_eq_true rfl)) dX7_trapOf_103 ⟨Nat.zero_le _, Nat.zero_le _⟩) hS (fun H locs hP hS => ?_)
            refine lv_if_ne (tgt := 113) hx hb dX7_trapOf_106 (by decide) (fun hc_21 => ?_) (fun hc_21 => ?_)
            · have hf := g_neg hf hc_21
              refine lv_iconst (v := 3) hx hb dX7_trapOf_113 (by decide) ?_
              cases hf
              exact x_iret hx hb hlocks hC hP hS hr dX7_trapOf_114
            · have hf := g_pos hf hc_21
              refine lv_iconst (v := 0) hx hb dX7_trapOf_109 (by decide) ?_
              refine lv_goto (tgt := 114) hx hb dX7_trapOf_110 (by decide) ?_
              cases hf
              exact x_iret hx hb hlocks hC hP hS hr dX7_trapOf_114
          · have hf := g_neg hf hc_18
            refine lv_iload_n hx hb dX7_trapOf_92 rfl (lv_at hl 2 rfl) ?_
            refine lv_bipush (v := 13) hx hb dX7_trapOf_93 (by decide) ?_
            refine lv_icmp_ne (tgt := 115) hx hb dX7_trapOf_95 (by decide) (fun hc_22 => ?_) (fun hc_22 => ?_)
            · have hf := g_neg hf hc_22
              refine lv_iconst (v := 0) hx hb dX7_trapOf_115 (by decide) ?_
              cases hf
              exact x_iret hx hb hlocks hC hP hS hr dX7_trapOf_116
            · have hf := g_pos hf hc_22
              refine lv_aload_n hx hb dX7_trapOf_98 rfl (lv_at hl 0 rfl) ?_
              refine gt_7_1 hx hb hts hown hC hP ht0 q3_14 dX7_trapOf_99 ?_
              refine lv_iload_n hx hb dX7_trapOf_102 rfl (lv_at hl 3 rfl) ?_
              obtain ⟨r_23, hc_24, hf⟩ := g_bindE hf
              refine x_calli (v := (X, M, τ)) (va_runV (As := [.int x3]) (rest := []) ⟨hx, hb, hml, hown, hts⟩ (ct_X8_kindOf l G X M τ t0 ht0 x3 hc_24) (cwV 1 hts gd_X7_213 rfl rfl rfl hd_X8_kindOf ⟨Nat.le_of_ble_eq_true rfl, Nat.le_of_ble_eq_true rfl⟩) (x_preV (u := (X, M, τ)) (k := 8) (ci := 8) hC hS hP ht0 rfl rfl) rfl rfl hl.1 rfl (lv_room (Nat.le_of_ble_eq_true rfl)) dX7_trapOf_103 ⟨Nat.zero_le _, Nat.zero_le _⟩) hS (fun H locs hP hS => ?_)
              refine lv_if_ne (tgt := 113) hx hb dX7_trapOf_106 (by decide) (fun hc_25 => ?_) (fun hc_25 => ?_)
              · have hf := g_neg hf hc_25
                refine lv_iconst (v := 3) hx hb dX7_trapOf_113 (by decide) ?_
                cases hf
                exact x_iret hx hb hlocks hC hP hS hr dX7_trapOf_114
              · have hf := g_pos hf hc_25
                refine lv_iconst (v := 0) hx hb dX7_trapOf_109 (by decide) ?_
                refine lv_goto (tgt := 114) hx hb dX7_trapOf_110 (by decide) ?_
                cases hf
                exact x_iret hx hb hlocks hC hP hS hr dX7_trapOf_114
        · have hf := g_pos hf hc_17
          refine lv_aload_n hx hb dX7_trapOf_52 rfl (lv_at hl 0 rfl) ?_
          refine gt_7_1 hx hb hts hown hC hP ht0 q3_14 dX7_trapOf_53 ?_
          refine lv_iload_n hx hb dX7_trapOf_56 rfl (lv_at hl 3 rfl) ?_
          obtain ⟨r_26, hc_27, hf⟩ := g_bindE hf
          refine x_calli (v := (X, M, τ)) (va_runV (As := [.int x3]) (rest := []) ⟨hx, hb, hml, hown, hts⟩ (ct_X8_kindOf l G X M τ t0 ht0 x3 hc_27) (cwV 1 hts gd_X7_213 rfl rfl rfl hd_X8_kindOf ⟨Nat.le_of_ble_eq_true rfl, Nat.le_of_ble_eq_true rfl⟩) (x_preV (u := (X, M, τ)) (k := 8) (ci := 8) hC hS hP ht0 rfl rfl) rfl rfl hl.1 rfl (lv_room (Nat.le_of_ble_eq_true rfl)) dX7_trapOf_57 ⟨Nat.zero_le _, Nat.zero_le _⟩) hS (fun H locs hP hS => ?_)
          refine lv_iconst (v := 1) hx hb dX7_trapOf_60 (by decide) ?_
          refine lv_icmp_eq (tgt := 66) hx hb dX7_trapOf_61 (by decide) (fun hc_28 => ?_) (fun hc_28 => ?_)
          · have hf := g_pos hf hc_28
            refine lv_iload_n hx hb dX7_trapOf_66 rfl (lv_at hl 2 rfl) ?_
            refine lv_bipush (v := 11) hx hb dX7_trapOf_67 (by decide) ?_
            refine lv_icmp_ne (tgt := 84) hx hb dX7_trapOf_69 (by decide) (fun hc_29 => ?_) (fun hc_29 => ?_)
            · have hf := g_neg hf hc_29
              refine lv_iconst (v := 0) hx hb dX7_trapOf_84 (by decide) ?_
              cases hf
              exact x_iret hx hb hlocks hC hP hS hr dX7_trapOf_85
            · have hf := g_pos hf hc_29
              refine lv_aload_n hx hb dX7_trapOf_72 rfl (lv_at hl 0 rfl) ?_
              refine lv_iload_n hx hb dX7_trapOf_73 rfl (lv_at hl 3 rfl) ?_
              obtain ⟨r_30, hc_31, hf⟩ := g_bindE hf
              refine x_calli (v := (X, M, τ)) (va_runV (As := [.int x3]) (rest := []) ⟨hx, hb, hml, hown, hts⟩ (ct_X7_isClaimed l G X M τ t0 ht0 x3 hc_31) (cwV 1 hts gd_X7_216 rfl rfl rfl hd_X7_isClaimed ⟨Nat.le_of_ble_eq_true rfl, Nat.le_of_ble_eq_true rfl⟩) (x_preV (u := (X, M, τ)) (k := 7) (ci := 7) hC hS hP ht0 rfl rfl) rfl rfl hl.1 rfl (lv_room (Nat.le_of_ble_eq_true rfl)) dX7_trapOf_74 ⟨Nat.zero_le _, Nat.zero_le _⟩) hS (fun H locs hP hS => ?_)
              refine lv_if_eq (tgt := 84) hx hb dX7_trapOf_77 (by decide) (fun hc_32 => ?_) (fun hc_32 => ?_)
              · have hf := g_pos hf hc_32
                refine lv_iconst (v := 0) hx hb dX7_trapOf_84 (by decide) ?_
                cases hf
                exact x_iret hx hb hlocks hC hP hS hr dX7_trapOf_85
              · have hf := g_neg hf hc_32
                refine lv_iconst (v := 4) hx hb dX7_trapOf_80 (by decide) ?_
                refine lv_goto (tgt := 85) hx hb dX7_trapOf_81 (by decide) ?_
                cases hf
                exact x_iret hx hb hlocks hC hP hS hr dX7_trapOf_85
          · have hf := g_neg hf hc_28
            refine lv_iconst (v := 3) hx hb dX7_trapOf_64 (by decide) ?_
            cases hf
            exact x_iret hx hb hlocks hC hP hS hr dX7_trapOf_65
    · have hf := g_pos hf hc_8
      refine lv_aload_n hx hb dX7_trapOf_11 rfl (lv_at hl 1 rfl) ?_
      refine gt_9_6 hx hb hts hown hC hP ht1 q22_6 dX7_trapOf_12 ?_
      refine lv_iconst (v := (-1)) hx hb dX7_trapOf_15 (by decide) ?_
      refine lv_icmp_ne (tgt := 21) hx hb dX7_trapOf_16 (by decide) (fun hc_33 => ?_) (fun hc_33 => ?_)
      · have hf := g_neg hf hc_33
        refine lv_aload_n hx hb dX7_trapOf_21 rfl (lv_at hl 1 rfl) ?_
        refine lv_aload_n hx hb dX7_trapOf_22 rfl (lv_at hl 1 rfl) ?_
        refine lv_iload hx hb dX7_trapOf_23 (lv_at hl 4 rfl) ?_
        obtain ⟨r_34, hc_35, hf⟩ := g_bindE hf
        refine x_calli (v := (X, M, τ)) (va_runV (As := [.int x4]) (rest := [.ref (G.2.1 9 t1)]) ⟨hx, hb, hml, hown, hts⟩ (ct_X9_read l G X M τ t1 ht1 x4 hc_35) (cwV 1 hts gd_X7_207 rfl rfl rfl hd_X9_read ⟨Nat.le_of_ble_eq_true rfl, Nat.le_of_ble_eq_true rfl⟩) (x_preV (u := (X, M, τ)) (k := 9) (ci := 9) hC hS hP ht1 rfl rfl) rfl rfl hl.1 rfl (lv_room (Nat.le_of_ble_eq_true rfl)) dX7_trapOf_25 ⟨Nat.zero_le _, Nat.zero_le _⟩) hS (fun H locs hP hS => ?_)
        obtain ⟨r_36, hc_37, hf⟩ := g_letE hf
        refine x_calli (v := (X, M, τ)) (va_runV (As := [.int r_34]) (rest := []) ⟨hx, hb, hml, hown, hts⟩ (ct_X9_hasCell l G X M τ t1 ht1 r_34 hc_37) (cwV 1 hts gd_X7_210 rfl rfl rfl hd_X9_hasCell ⟨Nat.le_of_ble_eq_true rfl, Nat.le_of_ble_eq_true rfl⟩) (x_preV (u := (X, M, τ)) (k := 9) (ci := 9) hC hS hP ht1 rfl rfl) rfl rfl hl.1 rfl (lv_room (Nat.le_of_ble_eq_true rfl)) dX7_trapOf_28 ⟨Nat.zero_le _, Nat.zero_le _⟩) hS (fun H locs hP hS => ?_)
        refine lv_if_eq (tgt := 38) hx hb dX7_trapOf_31 (by decide) (fun hc_38 => ?_) (fun hc_38 => ?_)
        · have hf := g_pos hf hc_38
          refine lv_iconst (v := 2) hx hb dX7_trapOf_38 (by decide) ?_
          cases hf
          exact x_iret hx hb hlocks hC hP hS hr dX7_trapOf_39
        · have hf := g_neg hf hc_38
          refine lv_iconst (v := 0) hx hb dX7_trapOf_34 (by decide) ?_
          refine lv_goto (tgt := 39) hx hb dX7_trapOf_35 (by decide) ?_
          cases hf
          exact x_iret hx hb hlocks hC hP hS hr dX7_trapOf_39
      · have hf := g_pos hf hc_33
        refine lv_iconst (v := 1) hx hb dX7_trapOf_19 (by decide) ?_
        cases hf
        exact x_iret hx hb hlocks hC hP hS hr dX7_trapOf_20
set_option maxRecDepth 100000 in
set_option maxHeartbeats 4000000 in
theorem ct_X7_trapOf (l : Launch) (G : GP) (X M : SM) (τ : SL) (t0 : Nat) (ht0 : t0 < 2) (t1 : Nat) (ht1 : t1 < 12) (x2 : Int32) (x3 : Int32) (x4 : Int32) {r0 : Int32} (hf : fn_X7_trapOf t0 t1 x2 x3 x4 X = some r0) : Met l yX7_trapOf (wz yX7_trapOf cX7_trapOf 5 (some .int)) rm_X7_trapOf (va_Pc [.ref (G.2.1 7 t0), .ref (G.2.1 9 t1), .int x2, .int x3, .int x4] (g_pw G (X, M, τ))) (va_Qi (fun r u => r = r0 ∧ u = (X, M, τ)) (g_pw G) (g_A G)) 0 0 (g_A G) := by
  refine Met.ofW (cc := cX7_trapOf) (maxL := 5) (ret := (some .int)) (by decide +kernel) rfl ?_
  intro p e s m args below meth c s₁ B hml hv
  obtain ⟨rfl, hC, hP⟩ := hv
  have C0 : g_mc p s m _ meth c RX7 cX7_trapOf (some .int) 5 G := ⟨B.exec, B.bytes, B.returns, hml, findClass_of_methodNamed B.named, fun w h => atoms_spec (ws := wz yX7_trapOf cX7_trapOf 5 (some .int)) B.pre w (List.mem_cons_of_mem _ h), B.notSynchronized, hC⟩
  have hl := lv_entry ([.ref (G.2.1 7 t0), .ref (G.2.1 9 t1), .int x2, .int x3, .int x4]) (n := 5) (Nat.le_of_ble_eq_true rfl)
  rw [lg_entry_eq]
  generalize (lg_sl ([.ref (G.2.1 7 t0), .ref (G.2.1 9 t1), .int x2, .int x3, .int x4]) ++ List.replicate (5 - (lg_sl ([.ref (G.2.1 7 t0), .ref (G.2.1 9 t1), .int x2, .int x3, .int x4])).length) Slot.unset).toArray = ls at hl ⊢
  exact wk_X7_trapOf C0  t0 ht0 t1 ht1 x2 x3 x4 X hf hP va_S.rf hl
