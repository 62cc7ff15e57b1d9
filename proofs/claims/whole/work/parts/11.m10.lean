abbrev rm_X12_span : Room := { frames := 2, cells := 0, slots := 0, locals := 53 }
def fn_X12_span (x1 : Int32) (x2 : Int32) (x3 : Int32) (M : SM) : Option (Int32 × SM) :=
  g_let (u1 M 39 0 15 0) fun M_1 =>
  (fn_X12_isThread x1).bind fun r_2 =>
  if r_2 = 0 then
  (some ((-1), M_1))
  else
  (g_let (fn_X12_within x2 1 100000) fun r_5 =>
    if r_5 = 0 then
    (some ((-1), M_1))
    else
    (g_let (fn_X12_within x3 0 1) fun r_8 =>
      if r_8 = 0 then
      (some ((-1), M_1))
      else
      ((fn_X12_hasSlot x1 M_1).bind fun r_11 =>
        if r_11 = 0 then
        (some ((-1), M_1))
        else
        (if x3 = 1 then
          ((fn_X12_spanOf x1 x2 1 M_1).bind fun r_17 =>
            some (r_17, M_1))
          else
          ((fn_X12_spanOf x1 x2 0 M_1).bind fun r_15 =>
            some (r_15, M_1))))))
set_option maxRecDepth 100000 in
set_option maxHeartbeats 4000000 in
theorem wk_X12_span {p : Program} {l : Launch} {e : Env} {s : State} {m : MethodId} {args : Array Value} {below : List Frame} {meth : Method} {c : Code} {G : GP} {X : SM} {τ : SL} (C0 : g_mc p s m args meth c RX12 cX12_span (some .int) 4 G) {r0 : Int32} {M0 : SM} (x1 : Int32) (x2 : Int32) (x3 : Int32) (M : SM) (hf : fn_X12_span x1 x2 x3 M = some (r0, M0)) {H : Heap} {locs : List Loc} (hP : va_P G.1 g_cl (wd G (cb X M) τ) H) (hS : va_S (g_A G) s.heap H locs) {ls : Array Slot} (hl : lv_has ls 4 [(0, .ref (G.2.1 39 0)), (1, .int x1), (2, .int x2), (3, .int x3)]) : W p l e rm_X12_span s m args below meth c H locs 0 0 (MQ below (va_Qi (fun r u => r = r0 ∧ u = (X, M0, τ)) (g_pw G) (g_A G)) args s 0 0 (g_A G)) (F0 m 0 ls []) := by
  obtain ⟨hx, hb, hr, hml, hown, hts, hlocks, hC⟩ := id C0
  unfold fn_X12_span at hf
  refine lv_aload_n hx hb dX12_span_0 rfl (lv_at hl 0 rfl) ?_
  refine lv_iconst (v := 0) hx hb dX12_span_1 (by decide) ?_
  obtain ⟨M_1, eM_1, hf⟩ := g_letE hf
  refine pt_39_15 hx hb hts hown hC hP hS Nat.zero_lt_one q8_18 dX12_span_2 (fun H locs hP hS => ?_)
  rw [eM_1] at hP
  refine lv_iload_n hx hb dX12_span_5 rfl (lv_at hl 1 rfl) ?_
  obtain ⟨r_2, hc_3, hf⟩ := g_bindE hf
  refine x_calli (v := (X, M_1, τ)) (va_runS (As := [.int x1]) (rest := []) ⟨hx, hb, hml, hown, hts⟩ (ct_X12_isThread l G X M_1 τ x1 hc_3) (cwS 1 hts gd_X12_80 rfl rfl rfl hd_X12_isThread ⟨Nat.le_of_ble_eq_true rfl, Nat.le_of_ble_eq_true rfl⟩) (x_pre (u := (X, M_1, τ)) hC hS hP) rfl rfl hl.1 rfl (lv_room (Nat.le_of_ble_eq_true rfl)) dX12_span_6 ⟨Nat.zero_le _, Nat.zero_le _⟩) hS (fun H locs hP hS => ?_)
  refine lv_if_eq (tgt := 39) hx hb dX12_span_9 (by decide) (fun hc_4 => ?_) (fun hc_4 => ?_)
  · have hf := g_pos hf hc_4
    refine lv_iconst (v := (-1)) hx hb dX12_span_39 (by decide) ?_
    cases hf
    exact x_iret hx hb hlocks hC hP hS hr dX12_span_40
  · have hf := g_neg hf hc_4
    refine lv_iload_n hx hb dX12_span_12 rfl (lv_at hl 2 rfl) ?_
    refine lv_iconst (v := 1) hx hb dX12_span_13 (by decide) ?_
    refine lv_ldc (v := 100000) hx hb hown (hts _ q38_5) dX12_span_14 ?_
    obtain ⟨r_5, hc_6, hf⟩ := g_letE hf
    refine x_calli (v := (X, M_1, τ)) (va_runS (As := [.int x2, .int 1, .int 100000]) (rest := []) ⟨hx, hb, hml, hown, hts⟩ (ct_X12_within l G X M_1 τ x2 1 100000 hc_6) (cwS 3 hts gd_X12_76 rfl rfl rfl hd_X12_within ⟨Nat.le_of_ble_eq_true rfl, Nat.le_of_ble_eq_true rfl⟩) (x_pre (u := (X, M_1, τ)) hC hS hP) rfl rfl hl.1 rfl (lv_room (Nat.le_of_ble_eq_true rfl)) dX12_span_16 ⟨Nat.zero_le _, Nat.zero_le _⟩) hS (fun H locs hP hS => ?_)
    refine lv_if_eq (tgt := 39) hx hb dX12_span_19 (by decide) (fun hc_7 => ?_) (fun hc_7 => ?_)
    · have hf := g_pos hf hc_7
      refine lv_iconst (v := (-1)) hx hb dX12_span_39 (by decide) ?_
      cases hf
      exact x_iret hx hb hlocks hC hP hS hr dX12_span_40
    · have hf := g_neg hf hc_7
      refine lv_iload_n hx hb dX12_span_22 rfl (lv_at hl 3 rfl) ?_
      refine lv_iconst (v := 0) hx hb dX12_span_23 (by decide) ?_
      refine lv_iconst (v := 1) hx hb dX12_span_24 (by decide) ?_
      obtain ⟨r_8, hc_9, hf⟩ := g_letE hf
      refine x_calli (v := (X, M_1, τ)) (va_runS (As := [.int x3, .int 0, .int 1]) (rest := []) ⟨hx, hb, hml, hown, hts⟩ (ct_X12_within l G X M_1 τ x3 0 1 hc_9) (cwS 3 hts gd_X12_76 rfl rfl rfl hd_X12_within ⟨Nat.le_of_ble_eq_true rfl, Nat.le_of_ble_eq_true rfl⟩) (x_pre (u := (X, M_1, τ)) hC hS hP) rfl rfl hl.1 rfl (lv_room (Nat.le_of_ble_eq_true rfl)) dX12_span_25 ⟨Nat.zero_le _, Nat.zero_le _⟩) hS (fun H locs hP hS => ?_)
      refine lv_if_eq (tgt := 39) hx hb dX12_span_28 (by decide) (fun hc_10 => ?_) (fun hc_10 => ?_)
      · have hf := g_pos hf hc_10
        refine lv_iconst (v := (-1)) hx hb dX12_span_39 (by decide) ?_
        cases hf
        exact x_iret hx hb hlocks hC hP hS hr dX12_span_40
      · have hf := g_neg hf hc_10
        refine lv_aload_n hx hb dX12_span_31 rfl (lv_at hl 0 rfl) ?_
        refine lv_iload_n hx hb dX12_span_32 rfl (lv_at hl 1 rfl) ?_
        obtain ⟨r_11, hc_12, hf⟩ := g_bindE hf
        refine x_calli (v := (X, M_1, τ)) (va_runV (As := [.int x1]) (rest := []) ⟨hx, hb, hml, hown, hts⟩ (ct_X12_hasSlot l G X M_1 τ x1 hc_12) (cwV 1 hts gd_X12_214 rfl rfl rfl hd_X12_hasSlot ⟨Nat.le_of_ble_eq_true rfl, Nat.le_of_ble_eq_true rfl⟩) (x_preV (u := (X, M_1, τ)) (k := 39) (ci := 12) hC hS hP Nat.zero_lt_one rfl rfl) rfl rfl hl.1 rfl (lv_room (Nat.le_of_ble_eq_true rfl)) dX12_span_33 ⟨Nat.zero_le _, Nat.zero_le _⟩) hS (fun H locs hP hS => ?_)
        refine lv_if_ne (tgt := 41) hx hb dX12_span_36 (by decide) (fun hc_13 => ?_) (fun hc_13 => ?_)
        · have hf := g_neg hf hc_13
          refine lv_aload_n hx hb dX12_span_41 rfl (lv_at hl 0 rfl) ?_
          refine lv_iload_n hx hb dX12_span_42 rfl (lv_at hl 1 rfl) ?_
          refine lv_iload_n hx hb dX12_span_43 rfl (lv_at hl 2 rfl) ?_
          refine lv_iload_n hx hb dX12_span_44 rfl (lv_at hl 3 rfl) ?_
          refine lv_iconst (v := 1) hx hb dX12_span_45 (by decide) ?_
          refine lv_icmp_ne (tgt := 53) hx hb dX12_span_46 (by decide) (fun hc_14 => ?_) (fun hc_14 => ?_)
          · have hf := g_neg hf hc_14
            refine lv_iconst (v := 0) hx hb dX12_span_53 (by decide) ?_
            obtain ⟨r_15, hc_16, hf⟩ := g_bindE hf
            refine x_calli (v := (X, M_1, τ)) (va_runV (As := [.int x1, .int x2, .int 0]) (rest := []) ⟨hx, hb, hml, hown, hts⟩ (ct_X12_spanOf l G X M_1 τ x1 x2 0 hc_16) (cwV 3 hts gd_X12_210 rfl rfl rfl hd_X12_spanOf ⟨Nat.le_of_ble_eq_true rfl, Nat.le_of_ble_eq_true rfl⟩) (x_preV (u := (X, M_1, τ)) (k := 39) (ci := 12) hC hS hP Nat.zero_lt_one rfl rfl) rfl rfl hl.1 rfl (lv_room (Nat.le_of_ble_eq_true rfl)) dX12_span_54 ⟨Nat.zero_le _, Nat.zero_le _⟩) hS (fun H locs hP hS => ?_)
            cases hf
            exact x_iret hx hb hlocks hC hP hS hr dX12_span_57
          · have hf := g_pos hf hc_14
            refine lv_iconst (v := 1) hx hb dX12_span_49 (by decide) ?_
            refine lv_goto (tgt := 54) hx hb dX12_span_50 (by decide) ?_
            obtain ⟨r_17, hc_18, hf⟩ := g_bindE hf
            refine x_calli (v := (X, M_1, τ)) (va_runV (As := [.int x1, .int x2, .int 1]) (rest := []) ⟨hx, hb, hml, hown, hts⟩ (ct_X12_spanOf l G X M_1 τ x1 x2 1 hc_18) (cwV 3 hts gd_X12_210 rfl rfl rfl hd_X12_spanOf ⟨Nat.le_of_ble_eq_true rfl, Nat.le_of_ble_eq_true rfl⟩) (x_preV (u := (X, M_1, τ)) (k := 39) (ci := 12) hC hS hP Nat.zero_lt_one rfl rfl) rfl rfl hl.1 rfl (lv_room (Nat.le_of_ble_eq_true rfl)) dX12_span_54 ⟨Nat.zero_le _, Nat.zero_le _⟩) hS (fun H locs hP hS => ?_)
            cases hf
            exact x_iret hx hb hlocks hC hP hS hr dX12_span_57
        · have hf := g_pos hf hc_13
          refine lv_iconst (v := (-1)) hx hb dX12_span_39 (by decide) ?_
          cases hf
          exact x_iret hx hb hlocks hC hP hS hr dX12_span_40
set_option maxRecDepth 100000 in
set_option maxHeartbeats 4000000 in
theorem ct_X12_span (l : Launch) (G : GP) (X M : SM) (τ : SL) (x1 : Int32) (x2 : Int32) (x3 : Int32) {r0 : Int32} {M0 : SM} (hf : fn_X12_span x1 x2 x3 M = some (r0, M0)) : Met l yX12_span (wz yX12_span cX12_span 4 (some .int)) rm_X12_span (va_Pc [.ref (G.2.1 39 0), .int x1, .int x2, .int x3] (g_pw G (X, M, τ))) (va_Qi (fun r u => r = r0 ∧ u = (X, M0, τ)) (g_pw G) (g_A G)) 0 0 (g_A G) := by
  refine Met.ofW (cc := cX12_span) (maxL := 4) (ret := (some .int)) (by decide +kernel) rfl ?_
  intro p e s m args below meth c s₁ B hml hv
  obtain ⟨rfl, hC, hP⟩ := hv
  have C0 : g_mc p s m _ meth c RX12 cX12_span (some .int) 4 G := ⟨B.exec, B.bytes, B.returns, hml, findClass_of_methodNamed B.named, fun w h => atoms_spec (ws := wz yX12_span cX12_span 4 (some .int)) B.pre w (List.mem_cons_of_mem _ h), B.notSynchronized, hC⟩
  have hl := lv_entry ([.ref (G.2.1 39 0), .int x1, .int x2, .int x3]) (n := 4) (Nat.le_of_ble_eq_true rfl)
  rw [lg_entry_eq]
  generalize (lg_sl ([.ref (G.2.1 39 0), .int x1, .int x2, .int x3]) ++ List.replicate (4 - (lg_sl ([.ref (G.2.1 39 0), .int x1, .int x2, .int x3])).length) Slot.unset).toArray = ls at hl ⊢
  exact wk_X12_span C0  x1 x2 x3 M hf hP va_S.rf hl
abbrev rm_X12_start : Room := { frames := 1, cells := 0, slots := 0, locals := 21 }
def fn_X12_start (M : SM) : Option (Int32 × SM) :=
  g_let (u1 M 39 0 15 0) fun M_1 =>
  g_let ((M_1 40 0 683)) fun x1_2 =>
  (fn_X12_begins M_1).bind fun M_3 =>
  some (x1_2, M_3)
set_option maxRecDepth 100000 in
set_option maxHeartbeats 4000000 in
theorem wk_X12_start {p : Program} {l : Launch} {e : Env} {s : State} {m : MethodId} {args : Array Value} {below : List Frame} {meth : Method} {c : Code} {G : GP} {X : SM} {τ : SL} (C0 : g_mc p s m args meth c RX12 cX12_start (some .int) 2 G) {r0 : Int32} {M0 : SM} (M : SM) (hf : fn_X12_start M = some (r0, M0)) {H : Heap} {locs : List Loc} (hP : va_P G.1 g_cl (wd G (cb X M) τ) H) (hS : va_S (g_A G) s.heap H locs) {ls : Array Slot} (hl : lv_has ls 2 [(0, .ref (G.2.1 39 0))]) : W p l e rm_X12_start s m args below meth c H locs 0 0 (MQ below (va_Qi (fun r u => r = r0 ∧ u = (X, M0, τ)) (g_pw G) (g_A G)) args s 0 0 (g_A G)) (F0 m 0 ls []) := by
  obtain ⟨hx, hb, hr, hml, hown, hts, hlocks, hC⟩ := id C0
  unfold fn_X12_start at hf
  refine lv_aload_n hx hb dX12_start_0 rfl (lv_at hl 0 rfl) ?_
  refine lv_iconst (v := 0) hx hb dX12_start_1 (by decide) ?_
  obtain ⟨M_1, eM_1, hf⟩ := g_letE hf
  refine pt_39_15 hx hb hts hown hC hP hS Nat.zero_lt_one q8_18 dX12_start_2 (fun H locs hP hS => ?_)
  rw [eM_1] at hP
  refine lv_aload_n hx hb dX12_start_5 rfl (lv_at hl 0 rfl) ?_
  refine gt_39_0 hx hb hts hown hC hP Nat.zero_lt_one q6_17 dX12_start_6 ?_
  refine lv_sipush (v := 683) hx hb dX12_start_9 (by decide) ?_
  refine xildM (k := 40) (n := 693) hx hb hC hP (fun _ _ => rfl) rfl Nat.zero_lt_one (by decide) dX12_start_12 ?_
  refine lv_topE (show M_1 40 0 (Int32.toNatClampNeg 683) = M_1 40 0 683 from rfl) ?_
  obtain ⟨x1_2, ex1_2, hf⟩ := g_letE hf
  refine lv_topE ex1_2 ?_
  refine lv_istore_n (lv' := [(1, .int x1_2), (0, .ref (G.2.1 39 0))]) hx hb dX12_start_13 rfl hl (by decide) rfl (fun ls hl => ?_)
  refine lv_aload_n hx hb dX12_start_14 rfl (lv_at hl 1 rfl) ?_
  obtain ⟨M_3, hc_4, hf⟩ := g_bindE hf
  refine x_callv (v := (X, M_3, τ)) (va_runV (As := []) (rest := []) ⟨hx, hb, hml, hown, hts⟩ (ct_X12_begins l G X M_1 τ  hc_4) (cwV 0 hts gd_X12_70 rfl rfl rfl hd_X12_begins ⟨Nat.le_of_ble_eq_true rfl, Nat.le_of_ble_eq_true rfl⟩) (x_preV (u := (X, M_1, τ)) (k := 39) (ci := 12) hC hS hP Nat.zero_lt_one rfl rfl) rfl rfl hl.1 rfl (lv_room (Nat.le_of_ble_eq_true rfl)) dX12_start_15 ⟨Nat.zero_le _, Nat.zero_le _⟩) hS (fun H locs hP hS => ?_)
  refine lv_iload_n hx hb dX12_start_18 rfl (lv_at hl 0 rfl) ?_
  cases hf
  exact x_iret hx hb hlocks hC hP hS hr dX12_start_19
set_option maxRecDepth 100000 in
set_option maxHeartbeats 4000000 in
theorem ct_X12_start (l : Launch) (G : GP) (X M : SM) (τ : SL) {r0 : Int32} {M0 : SM} (hf : fn_X12_start M = some (r0, M0)) : Met l yX12_start (wz yX12_start cX12_start 2 (some .int)) rm_X12_start (va_Pc [.ref (G.2.1 39 0)] (g_pw G (X, M, τ))) (va_Qi (fun r u => r = r0 ∧ u = (X, M0, τ)) (g_pw G) (g_A G)) 0 0 (g_A G) := by
  refine Met.ofW (cc := cX12_start) (maxL := 2) (ret := (some .int)) (by decide +kernel) rfl ?_
  intro p e s m args below meth c s₁ B hml hv
  obtain ⟨rfl, hC, hP⟩ := hv
  have C0 : g_mc p s m _ meth c RX12 cX12_start (some .int) 2 G := ⟨B.exec, B.bytes, B.returns, hml, findClass_of_methodNamed B.named, fun w h => atoms_spec (ws := wz yX12_start cX12_start 2 (some .int)) B.pre w (List.mem_cons_of_mem _ h), B.notSynchronized, hC⟩
  have hl := lv_entry ([.ref (G.2.1 39 0)]) (n := 2) (Nat.le_of_ble_eq_true rfl)
  rw [lg_entry_eq]
  generalize (lg_sl ([.ref (G.2.1 39 0)]) ++ List.replicate (2 - (lg_sl ([.ref (G.2.1 39 0)])).length) Slot.unset).toArray = ls at hl ⊢
  exact wk_X12_start C0  M hf hP va_S.rf hl
abbrev rm_X12_table : Room := { frames := 1, cells := 0, slots := 0, locals := 22 }
def fn_X12_table (x1 : Int32) (M : SM) : Option (Int32 × SM) :=
  g_let (u1 M 39 0 15 0) fun M_1 =>
  g_let (fn_X12_within x1 0 ((M_1 39 0 12) - 1)) fun r_2 =>
  if r_2 = 0 then
  (some ((-2), M_1))
  else
  (if g_in x1 16 then
    some ((M_1 50 0 (x1.toNatClampNeg)), M_1)
    else none)
set_option maxRecDepth 100000 in
set_option maxHeartbeats 4000000 in
theorem wk_X12_table {p : Program} {l : Launch} {e : Env} {s : State} {m : MethodId} {args : Array Value} {below : List Frame} {meth : Method} {c : Code} {G : GP} {X : SM} {τ : SL} (C0 : g_mc p s m args meth c RX12 cX12_table (some .int) 2 G) {r0 : Int32} {M0 : SM} (x1 : Int32) (M : SM) (hf : fn_X12_table x1 M = some (r0, M0)) {H : Heap} {locs : List Loc} (hP : va_P G.1 g_cl (wd G (cb X M) τ) H) (hS : va_S (g_A G) s.heap H locs) {ls : Array Slot} (hl : lv_has ls 2 [(0, .ref (G.2.1 39 0)), (1, .int x1)]) : W p l e rm_X12_table s m args below meth c H locs 0 0 (MQ below (va_Qi (fun r u => r = r0 ∧ u = (X, M0, τ)) (g_pw G) (g_A G)) args s 0 0 (g_A G)) (F0 m 0 ls []) := by
  obtain ⟨hx, hb, hr, hml, hown, hts, hlocks, hC⟩ := id C0
  unfold fn_X12_table at hf
  refine lv_aload_n hx hb dX12_table_0 rfl (lv_at hl 0 rfl) ?_
  refine lv_iconst (v := 0) hx hb dX12_table_1 (by decide) ?_
  obtain ⟨M_1, eM_1, hf⟩ := g_letE hf
  refine pt_39_15 hx hb hts hown hC hP hS Nat.zero_lt_one q8_18 dX12_table_2 (fun H locs hP hS => ?_)
  rw [eM_1] at hP
  refine lv_iload_n hx hb dX12_table_5 rfl (lv_at hl 1 rfl) ?_
  refine lv_iconst (v := 0) hx hb dX12_table_6 (by decide) ?_
  refine lv_aload_n hx hb dX12_table_7 rfl (lv_at hl 0 rfl) ?_
  refine gt_39_12 hx hb hts hown hC hP Nat.zero_lt_one q7_5 dX12_table_8 ?_
  refine lv_iconst (v := 1) hx hb dX12_table_11 (by decide) ?_
  refine lv_isub hx hb dX12_table_12 ?_
  obtain ⟨r_2, hc_3, hf⟩ := g_letE hf
  refine x_calli (v := (X, M_1, τ)) (va_runS (As := [.int x1, .int 0, .int ((M_1 39 0 12) - 1)]) (rest := []) ⟨hx, hb, hml, hown, hts⟩ (ct_X12_within l G X M_1 τ x1 0 ((M_1 39 0 12) - 1) hc_3) (cwS 3 hts gd_X12_76 rfl rfl rfl hd_X12_within ⟨Nat.le_of_ble_eq_true rfl, Nat.le_of_ble_eq_true rfl⟩) (x_pre (u := (X, M_1, τ)) hC hS hP) rfl rfl hl.1 rfl (lv_room (Nat.le_of_ble_eq_true rfl)) dX12_table_13 ⟨Nat.zero_le _, Nat.zero_le _⟩) hS (fun H locs hP hS => ?_)
  refine lv_if_eq (tgt := 28) hx hb dX12_table_16 (by decide) (fun hc_4 => ?_) (fun hc_4 => ?_)
  · have hf := g_pos hf hc_4
    refine lv_bipush (v := (-2)) hx hb dX12_table_28 (by decide) ?_
    cases hf
    exact x_iret hx hb hlocks hC hP hS hr dX12_table_30
  · have hf := g_neg hf hc_4
    refine lv_aload_n hx hb dX12_table_19 rfl (lv_at hl 0 rfl) ?_
    refine gt_39_11 hx hb hts hown hC hP Nat.zero_lt_one q7_4 dX12_table_20 ?_
    refine lv_iload_n hx hb dX12_table_23 rfl (lv_at hl 1 rfl) ?_
    obtain ⟨hg_5, hf⟩ := g_gd hf
    refine xildM (k := 50) (n := 16) hx hb hC hP (fun _ _ => rfl) rfl Nat.zero_lt_one hg_5 dX12_table_24 ?_
    refine lv_goto (tgt := 30) hx hb dX12_table_25 (by decide) ?_
    cases hf
    exact x_iret hx hb hlocks hC hP hS hr dX12_table_30
set_option maxRecDepth 100000 in
set_option maxHeartbeats 4000000 in
theorem ct_X12_table (l : Launch) (G : GP) (X M : SM) (τ : SL) (x1 : Int32) {r0 : Int32} {M0 : SM} (hf : fn_X12_table x1 M = some (r0, M0)) : Met l yX12_table (wz yX12_table cX12_table 2 (some .int)) rm_X12_table (va_Pc [.ref (G.2.1 39 0), .int x1] (g_pw G (X, M, τ))) (va_Qi (fun r u => r = r0 ∧ u = (X, M0, τ)) (g_pw G) (g_A G)) 0 0 (g_A G) := by
  refine Met.ofW (cc := cX12_table) (maxL := 2) (ret := (some .int)) (by decide +kernel) rfl ?_
  intro p e s m args below meth c s₁ B hml hv
  obtain ⟨rfl, hC, hP⟩ := hv
  have C0 : g_mc p s m _ meth c RX12 cX12_table (some .int) 2 G := ⟨B.exec, B.bytes, B.returns, hml, findClass_of_methodNamed B.named, fun w h => atoms_spec (ws := wz yX12_table cX12_table 2 (some .int)) B.pre w (List.mem_cons_of_mem _ h), B.notSynchronized, hC⟩
  have hl := lv_entry ([.ref (G.2.1 39 0), .int x1]) (n := 2) (Nat.le_of_ble_eq_true rfl)
  rw [lg_entry_eq]
  generalize (lg_sl ([.ref (G.2.1 39 0), .int x1]) ++ List.replicate (2 - (lg_sl ([.ref (G.2.1 39 0), .int x1])).length) Slot.unset).toArray = ls at hl ⊢
  exact wk_X12_table C0  x1 M hf hP va_S.rf hl
abbrev rm_X12_tell : Room := { frames := 2, cells := 0, slots := 0, locals := 49 }
def fn_X12_tell (x1 : Int32) (x2 : Int32) (x3 : Int32) (x4 : Int32) (x5 : Int32) (M : SM) : Option (Int32 × SM) :=
  g_let (u1 M 39 0 15 0) fun M_1 =>
  (fn_X12_isThread x1).bind fun r_2 =>
  if r_2 = 0 then
  (some ((-1), M_1))
  else
  (g_let (fn_X12_within x2 0 20) fun r_5 =>
    if r_5 = 0 then
    (some ((-1), M_1))
    else
    (if g_in x1 6 then
      if (M_1 43 0 (x1.toNatClampNeg)) = 24 then
      (some ((-1), M_1))
      else
      (if g_in x1 6 then
        (fn_X12_canTell x2 x3 x4 x5 (M_1 43 0 (x1.toNatClampNeg))).bind fun r_11 =>
        if r_11 = 0 then
        (some ((-1), M_1))
        else
        (if g_in x1 6 then
          g_let ((4 * ((24 * x1) + (M_1 43 0 (x1.toNatClampNeg))))) fun x6_15 =>
          if g_in x6_15 576 then
          g_let (u1 M_1 42 0 (x6_15.toNatClampNeg) x2) fun M_17 =>
          if g_in (x6_15 + 1) 576 then
          g_let (u1 M_17 42 0 ((x6_15 + 1).toNatClampNeg) x3) fun M_19 =>
          if g_in (x6_15 + 2) 576 then
          g_let (u1 M_19 42 0 ((x6_15 + 2).toNatClampNeg) x4) fun M_21 =>
          if g_in (x6_15 + 3) 576 then
          g_let (u1 M_21 42 0 ((x6_15 + 3).toNatClampNeg) x5) fun M_23 =>
          if g_in x1 6 then
          if g_in x1 6 then
          g_let (u1 M_23 43 0 (x1.toNatClampNeg) ((M_23 43 0 (x1.toNatClampNeg)) + 1)) fun M_26 =>
          if g_in x1 6 then
          some (((M_26 43 0 (x1.toNatClampNeg)) - 1), M_26)
          else none
          else none
          else none
          else none
          else none
          else none
          else none
          else none)
        else none)
      else none))
set_option maxRecDepth 100000 in
set_option maxHeartbeats 4000000 in
theorem wk_X12_tell {p : Program} {l : Launch} {e : Env} {s : State} {m : MethodId} {args : Array Value} {below : List Frame} {meth : Method} {c : Code} {G : GP} {X : SM} {τ : SL} (C0 : g_mc p s m args meth c RX12 cX12_tell (some .int) 7 G) {r0 : Int32} {M0 : SM} (x1 : Int32) (x2 : Int32) (x3 : Int32) (x4 : Int32) (x5 : Int32) (M : SM) (hf : fn_X12_tell x1 x2 x3 x4 x5 M = some (r0, M0)) {H : Heap} {locs : List Loc} (hP : va_P G.1 g_cl (wd G (cb X M) τ) H) (hS : va_S (g_A G) s.heap H locs) {ls : Array Slot} (hl : lv_has ls 7 [(0, .ref (G.2.1 39 0)), (1, .int x1), (2, .int x2), (3, .int x3), (4, .int x4), (5, .int x5)]) : W p l e rm_X12_tell s m args below meth c H locs 0 0 (MQ below (va_Qi (fun r u => r = r0 ∧ u = (X, M0, τ)) (g_pw G) (g_A G)) args s 0 0 (g_A G)) (F0 m 0 ls []) := by
  obtain ⟨hx, hb, hr, hml, hown, hts, hlocks, hC⟩ := id C0
  unfold fn_X12_tell at hf
  refine lv_aload_n hx hb dX12_tell_0 rfl (lv_at hl 0 rfl) ?_
  refine lv_iconst (v := 0) hx hb dX12_tell_1 (by decide) ?_
  obtain ⟨M_1, eM_1, hf⟩ := g_letE hf
  refine pt_39_15 hx hb hts hown hC hP hS Nat.zero_lt_one q8_18 dX12_tell_2 (fun H locs hP hS => ?_)
  rw [eM_1] at hP
  refine lv_iload_n hx hb dX12_tell_5 rfl (lv_at hl 1 rfl) ?_
  obtain ⟨r_2, hc_3, hf⟩ := g_bindE hf
  refine x_calli (v := (X, M_1, τ)) (va_runS (As := [.int x1]) (rest := []) ⟨hx, hb, hml, hown, hts⟩ (ct_X12_isThread l G X M_1 τ x1 hc_3) (cwS 1 hts gd_X12_80 rfl rfl rfl hd_X12_isThread ⟨Nat.le_of_ble_eq_true rfl, Nat.le_of_ble_eq_true rfl⟩) (x_pre (u := (X, M_1, τ)) hC hS hP) rfl rfl hl.1 rfl (lv_room (Nat.le_of_ble_eq_true rfl)) dX12_tell_6 ⟨Nat.zero_le _, Nat.zero_le _⟩) hS (fun H locs hP hS => ?_)
  refine lv_if_eq (tgt := 51) hx hb dX12_tell_9 (by decide) (fun hc_4 => ?_) (fun hc_4 => ?_)
  · have hf := g_pos hf hc_4
    refine lv_iconst (v := (-1)) hx hb dX12_tell_51 (by decide) ?_
    cases hf
    exact x_iret hx hb hlocks hC hP hS hr dX12_tell_52
  · have hf := g_neg hf hc_4
    refine lv_iload_n hx hb dX12_tell_12 rfl (lv_at hl 2 rfl) ?_
    refine lv_iconst (v := 0) hx hb dX12_tell_13 (by decide) ?_
    refine lv_bipush (v := 20) hx hb dX12_tell_14 (by decide) ?_
    obtain ⟨r_5, hc_6, hf⟩ := g_letE hf
    refine x_calli (v := (X, M_1, τ)) (va_runS (As := [.int x2, .int 0, .int 20]) (rest := []) ⟨hx, hb, hml, hown, hts⟩ (ct_X12_within l G X M_1 τ x2 0 20 hc_6) (cwS 3 hts gd_X12_76 rfl rfl rfl hd_X12_within ⟨Nat.le_of_ble_eq_true rfl, Nat.le_of_ble_eq_true rfl⟩) (x_pre (u := (X, M_1, τ)) hC hS hP) rfl rfl hl.1 rfl (lv_room (Nat.le_of_ble_eq_true rfl)) dX12_tell_16 ⟨Nat.zero_le _, Nat.zero_le _⟩) hS (fun H locs hP hS => ?_)
    refine lv_if_eq (tgt := 51) hx hb dX12_tell_19 (by decide) (fun hc_7 => ?_) (fun hc_7 => ?_)
    · have hf := g_pos hf hc_7
      refine lv_iconst (v := (-1)) hx hb dX12_tell_51 (by decide) ?_
      cases hf
      exact x_iret hx hb hlocks hC hP hS hr dX12_tell_52
    · have hf := g_neg hf hc_7
      refine lv_aload_n hx hb dX12_tell_22 rfl (lv_at hl 0 rfl) ?_
      refine gt_39_3 hx hb hts hown hC hP Nat.zero_lt_one q6_20 dX12_tell_23 ?_
      refine lv_iload_n hx hb dX12_tell_26 rfl (lv_at hl 1 rfl) ?_
      obtain ⟨hg_8, hf⟩ := g_gd hf
      refine xildM (k := 43) (n := 6) hx hb hC hP (fun _ _ => rfl) rfl Nat.zero_lt_one hg_8 dX12_tell_27 ?_
      refine lv_bipush (v := 24) hx hb dX12_tell_28 (by decide) ?_
      refine lv_icmp_eq (tgt := 51) hx hb dX12_tell_30 (by decide) (fun hc_9 => ?_) (fun hc_9 => ?_)
      · have hf := g_pos hf hc_9
        refine lv_iconst (v := (-1)) hx hb dX12_tell_51 (by decide) ?_
        cases hf
        exact x_iret hx hb hlocks hC hP hS hr dX12_tell_52
      · have hf := g_neg hf hc_9
        refine lv_iload_n hx hb dX12_tell_33 rfl (lv_at hl 2 rfl) ?_
        refine lv_iload_n hx hb dX12_tell_34 rfl (lv_at hl 3 rfl) ?_
        refine lv_iload hx hb dX12_tell_35 (lv_at hl 4 rfl) ?_
        refine lv_iload hx hb dX12_tell_37 (lv_at hl 5 rfl) ?_
        refine lv_aload_n hx hb dX12_tell_39 rfl (lv_at hl 0 rfl) ?_
        refine gt_39_3 hx hb hts hown hC hP Nat.zero_lt_one q6_20 dX12_tell_40 ?_
        refine lv_iload_n hx hb dX12_tell_43 rfl (lv_at hl 1 rfl) ?_
        obtain ⟨hg_10, hf⟩ := g_gd hf
        refine xildM (k := 43) (n := 6) hx hb hC hP (fun _ _ => rfl) rfl Nat.zero_lt_one hg_10 dX12_tell_44 ?_
        obtain ⟨r_11, hc_12, hf⟩ := g_bindE hf
        refine x_calli (v := (X, M_1, τ)) (va_runS (As := [.int x2, .int x3, .int x4, .int x5, .int (M_1 43 0 (x1.toNatClampNeg))]) (rest := []) ⟨hx, hb, hml, hown, hts⟩ (ct_X12_canTell l G X M_1 τ x2 x3 x4 x5 (M_1 43 0 (x1.toNatClampNeg)) hc_12) (cwS 5 hts gd_X12_84 rfl rfl rfl hd_X12_canTell ⟨Nat.le_of_ble_eq_true rfl, Nat.le_of_ble_eq_true rfl⟩) (x_pre (u := (X, M_1, τ)) hC hS hP) rfl rfl hl.1 rfl (lv_room (Nat.le_of_ble_eq_true rfl)) dX12_tell_45 ⟨Nat.zero_le _, Nat.zero_le _⟩) hS (fun H locs hP hS => ?_)
        refine lv_if_ne (tgt := 53) hx hb dX12_tell_48 (by decide) (fun hc_13 => ?_) (fun hc_13 => ?_)
        · have hf := g_neg hf hc_13
          refine lv_iconst (v := 4) hx hb dX12_tell_53 (by decide) ?_
          refine lv_bipush (v := 24) hx hb dX12_tell_54 (by decide) ?_
          refine lv_iload_n hx hb dX12_tell_56 rfl (lv_at hl 1 rfl) ?_
          refine lv_imul hx hb dX12_tell_57 ?_
          refine lv_aload_n hx hb dX12_tell_58 rfl (lv_at hl 0 rfl) ?_
          refine gt_39_3 hx hb hts hown hC hP Nat.zero_lt_one q6_20 dX12_tell_59 ?_
          refine lv_iload_n hx hb dX12_tell_62 rfl (lv_at hl 1 rfl) ?_
          obtain ⟨hg_14, hf⟩ := g_gd hf
          refine xildM (k := 43) (n := 6) hx hb hC hP (fun _ _ => rfl) rfl Nat.zero_lt_one hg_14 dX12_tell_63 ?_
          refine lv_iadd hx hb dX12_tell_64 ?_
          refine lv_imul hx hb dX12_tell_65 ?_
          obtain ⟨x6_15, ex6_15, hf⟩ := g_letE hf
          refine lv_topE ex6_15 ?_
          refine lv_istore (lv' := [(6, .int x6_15), (0, .ref (G.2.1 39 0)), (1, .int x1), (2, .int x2), (3, .int x3), (4, .int x4), (5, .int x5)]) hx hb dX12_tell_66 hl (by decide) rfl (fun ls hl => ?_)
          refine lv_aload_n hx hb dX12_tell_68 rfl (lv_at hl 1 rfl) ?_
          refine gt_39_2 hx hb hts hown hC hP Nat.zero_lt_one q6_19 dX12_tell_69 ?_
          refine lv_iload hx hb dX12_tell_72 (lv_at hl 0 rfl) ?_
          refine lv_iload_n hx hb dX12_tell_74 rfl (lv_at hl 3 rfl) ?_
          obtain ⟨hg_16, hf⟩ := g_gd hf
          obtain ⟨M_17, eM_17, hf⟩ := g_letE hf
          refine xistM (k := 42) (n := 576) hx hb hC hP hS (fun _ _ => rfl) rfl Nat.zero_lt_one hg_16 dX12_tell_75 (fun H locs hP hS => ?_)
          rw [eM_17] at hP
          refine lv_aload_n hx hb dX12_tell_76 rfl (lv_at hl 1 rfl) ?_
          refine gt_39_2 hx hb hts hown hC hP Nat.zero_lt_one q6_19 dX12_tell_77 ?_
          refine lv_iload hx hb dX12_tell_80 (lv_at hl 0 rfl) ?_
          refine lv_iconst (v := 1) hx hb dX12_tell_82 (by decide) ?_
          refine lv_iadd hx hb dX12_tell_83 ?_
          refine lv_iload_n hx hb dX12_tell_84 rfl (lv_at hl 4 rfl) ?_
          obtain ⟨hg_18, hf⟩ := g_gd hf
          obtain ⟨M_19, eM_19, hf⟩ := g_letE hf
          refine xistM (k := 42) (n := 576) hx hb hC hP hS (fun _ _ => rfl) rfl Nat.zero_lt_one hg_18 dX12_tell_85 (fun H locs hP hS => ?_)
          rw [eM_19] at hP
          refine lv_aload_n hx hb dX12_tell_86 rfl (lv_at hl 1 rfl) ?_
          refine gt_39_2 hx hb hts hown hC hP Nat.zero_lt_one q6_19 dX12_tell_87 ?_
          refine lv_iload hx hb dX12_tell_90 (lv_at hl 0 rfl) ?_
          refine lv_iconst (v := 2) hx hb dX12_tell_92 (by decide) ?_
          refine lv_iadd hx hb dX12_tell_93 ?_
          refine lv_iload hx hb dX12_tell_94 (lv_at hl 5 rfl) ?_
          obtain ⟨hg_20, hf⟩ := g_gd hf
          obtain ⟨M_21, eM_21, hf⟩ := g_letE hf
          refine xistM (k := 42) (n := 576) hx hb hC hP hS (fun _ _ => rfl) rfl Nat.zero_lt_one hg_20 dX12_tell_96 (fun H locs hP hS => ?_)
          rw [eM_21] at hP
          refine lv_aload_n hx hb dX12_tell_97 rfl (lv_at hl 1 rfl) ?_
          refine gt_39_2 hx hb hts hown hC hP Nat.zero_lt_one q6_19 dX12_tell_98 ?_
          refine lv_iload hx hb dX12_tell_101 (lv_at hl 0 rfl) ?_
          refine lv_iconst (v := 3) hx hb dX12_tell_103 (by decide) ?_
          refine lv_iadd hx hb dX12_tell_104 ?_
          refine lv_iload hx hb dX12_tell_105 (lv_at hl 6 rfl) ?_
          obtain ⟨hg_22, hf⟩ := g_gd hf
          obtain ⟨M_23, eM_23, hf⟩ := g_letE hf
          refine xistM (k := 42) (n := 576) hx hb hC hP hS (fun _ _ => rfl) rfl Nat.zero_lt_one hg_22 dX12_tell_107 (fun H locs hP hS => ?_)
          rw [eM_23] at hP
          refine lv_aload_n hx hb dX12_tell_108 rfl (lv_at hl 1 rfl) ?_
          refine gt_39_3 hx hb hts hown hC hP Nat.zero_lt_one q6_20 dX12_tell_109 ?_
          refine lv_iload_n hx hb dX12_tell_112 rfl (lv_at hl 2 rfl) ?_
          refine lv_dup2_11 hx hb dX12_tell_113 rfl rfl ?_
          obtain ⟨hg_24, hf⟩ := g_gd hf
          refine xildM (k := 43) (n := 6) hx hb hC hP (fun _ _ => rfl) rfl Nat.zero_lt_one hg_24 dX12_tell_114 ?_
          refine lv_iconst (v := 1) hx hb dX12_tell_115 (by decide) ?_
          refine lv_iadd hx hb dX12_tell_116 ?_
          obtain ⟨hg_25, hf⟩ := g_gd hf
          obtain ⟨M_26, eM_26, hf⟩ := g_letE hf
          refine xistM (k := 43) (n := 6) hx hb hC hP hS (fun _ _ => rfl) rfl Nat.zero_lt_one hg_25 dX12_tell_117 (fun H locs hP hS => ?_)
          rw [eM_26] at hP
          refine lv_aload_n hx hb dX12_tell_118 rfl (lv_at hl 1 rfl) ?_
          refine gt_39_3 hx hb hts hown hC hP Nat.zero_lt_one q6_20 dX12_tell_119 ?_
          refine lv_iload_n hx hb dX12_tell_122 rfl (lv_at hl 2 rfl) ?_
          obtain ⟨hg_27, hf⟩ := g_gd hf
          refine xildM (k := 43) (n := 6) hx hb hC hP (fun _ _ => rfl) rfl Nat.zero_lt_one hg_27 dX12_tell_123 ?_
          refine lv_iconst (v := 1) hx hb dX12_tell_124 (by decide) ?_
          refine lv_isub hx hb dX12_tell_125 ?_
          cases hf
          exact x_iret hx hb hlocks hC hP hS hr dX12_tell_126
        · have hf := g_pos hf hc_13
          refine lv_iconst (v := (-1)) hx hb dX12_tell_51 (by decide) ?_
          cases hf
          exact x_iret hx hb hlocks hC hP hS hr dX12_tell_52
set_option maxRecDepth 100000 in
set_option maxHeartbeats 4000000 in
theorem ct_X12_tell (l : Launch) (G : GP) (X M : SM) (τ : SL) (x1 : Int32) (x2 : Int32) (x3 : Int32) (x4 : Int32) (x5 : Int32) {r0 : Int32} {M0 : SM} (hf : fn_X12_tell x1 x2 x3 x4 x5 M = some (r0, M0)) : Met l yX12_tell (wz yX12_tell cX12_tell 7 (some .int)) rm_X12_tell (va_Pc [.ref (G.2.1 39 0), .int x1, .int x2, .int x3, .int x4, .int x5] (g_pw G (X, M, τ))) (va_Qi (fun r u => r = r0 ∧ u = (X, M0, τ)) (g_pw G) (g_A G)) 0 0 (g_A G) := by
  refine Met.ofW (cc := cX12_tell) (maxL := 7) (ret := (some .int)) (by decide +kernel) rfl ?_
  intro p e s m args below meth c s₁ B hml hv
  obtain ⟨rfl, hC, hP⟩ := hv
  have C0 : g_mc p s m _ meth c RX12 cX12_tell (some .int) 7 G := ⟨B.exec, B.bytes, B.returns, hml, findClass_of_methodNamed B.named, fun w h => atoms_spec (ws := wz yX12_tell cX12_tell 7 (some .int)) B.pre w (List.mem_cons_of_mem _ h), B.notSynchronized, hC⟩
  have hl := lv_entry ([.ref (G.2.1 39 0), .int x1, .int x2, .int x3, .int x4, .int x5]) (n := 7) (Nat.le_of_ble_eq_true rfl)
  rw [lg_entry_eq]
  generalize (lg_sl ([.ref (G.2.1 39 0), .int x1, .int x2, .int x3, .int x4, .int x5]) ++ List.replicate (7 - (lg_sl ([.ref (G.2.1 39 0), .int x1, .int x2, .int x3, .int x4, .int x5])).length) Slot.unset).toArray = ls at hl ⊢
  exact wk_X12_tell C0  x1 x2 x3 x4 x5 M hf hP va_S.rf hl
abbrev rm_X12_thread : Room := { frames := 2, cells := 0, slots := 0, locals := 42 }
def fn_X12_thread (x1 : Int32) (x2 : Int32) (M : SM) : Option (Int32 × SM) :=
  g_let (u1 M 39 0 15 0) fun M_1 =>
  (fn_X12_isThread x1).bind fun r_2 =>
  if r_2 = 0 then
  (some ((-2), M_1))
  else
  (if x2 = 0 then
    (if g_in (438 + x1) 693 then
      some ((M_1 40 0 ((438 + x1).toNatClampNeg)), M_1)
      else none)
    else
    (if x2 = 1 then
      (if g_in (432 + x1) 693 then
        some ((M_1 40 0 ((432 + x1).toNatClampNeg)), M_1)
        else none)
      else
      (if x2 = 2 then
        (if g_in (444 + x1) 693 then
          some ((M_1 40 0 ((444 + x1).toNatClampNeg)), M_1)
          else none)
        else
        (if x2 = 3 then
          (if g_in (450 + x1) 693 then
            some ((M_1 40 0 ((450 + x1).toNatClampNeg)), M_1)
            else none)
          else
          (if x2 = 4 then
            (if g_in (456 + x1) 693 then
              some ((M_1 40 0 ((456 + x1).toNatClampNeg)), M_1)
              else none)
            else
            (if x2 = 5 then
              (if g_in (462 + x1) 693 then
                some ((M_1 40 0 ((462 + x1).toNatClampNeg)), M_1)
                else none)
              else
              (if x2 = 6 then
                (if g_in (468 + x1) 693 then
                  some ((M_1 40 0 ((468 + x1).toNatClampNeg)), M_1)
                  else none)
                else
                (if x2 = 7 then
                  (if g_in (474 + x1) 693 then
                    some ((M_1 40 0 ((474 + x1).toNatClampNeg)), M_1)
                    else none)
                  else
                  (if x2 = 8 then
                    (if g_in x1 6 then
                      some ((M_1 43 0 (x1.toNatClampNeg)), M_1)
                      else none)
                    else
                    (if x2 = 9 then
                      (if g_in x1 6 then
                        if (M_1 45 0 (x1.toNatClampNeg)) = 0 then
                        (some (1, M_1))
                        else
                        (some (0, M_1))
                        else none)
                      else
                      (if x2 = 10 then
                        (if g_in x1 6 then
                          some ((M_1 44 0 (x1.toNatClampNeg)), M_1)
                          else none)
                        else
                        (if x2 = 11 then
                          (if g_in x1 6 then
                            some ((M_1 51 0 (x1.toNatClampNeg)), M_1)
                            else none)
                          else
                          (if x2 = 12 then
                            (if g_in x1 6 then
                              some ((M_1 52 0 (x1.toNatClampNeg)), M_1)
                              else none)
                            else
                            (some ((-2), M_1)))))))))))))))
set_option maxRecDepth 100000 in
set_option maxHeartbeats 4000000 in
theorem wk_X12_thread {p : Program} {l : Launch} {e : Env} {s : State} {m : MethodId} {args : Array Value} {below : List Frame} {meth : Method} {c : Code} {G : GP} {X : SM} {τ : SL} (C0 : g_mc p s m args meth c RX12 cX12_thread (some .int) 3 G) {r0 : Int32} {M0 : SM} (x1 : Int32) (x2 : Int32) (M : SM) (hf : fn_X12_thread x1 x2 M = some (r0, M0)) {H : Heap} {locs : List Loc} (hP : va_P G.1 g_cl (wd G (cb X M) τ) H) (hS : va_S (g_A G) s.heap H locs) {ls : Array Slot} (hl : lv_has ls 3 [(0, .ref (G.2.1 39 0)), (1, .int x1), (2, .int x2)]) : W p l e rm_X12_thread s m args below meth c H locs 0 0 (MQ below (va_Qi (fun r u => r = r0 ∧ u = (X, M0, τ)) (g_pw G) (g_A G)) args s 0 0 (g_A G)) (F0 m 0 ls []) := by
  obtain ⟨hx, hb, hr, hml, hown, hts, hlocks, hC⟩ := id C0
  unfold fn_X12_thread at hf
  refine lv_aload_n hx hb dX12_thread_0 rfl (lv_at hl 0 rfl) ?_
  refine lv_iconst (v := 0) hx hb dX12_thread_1 (by decide) ?_
  obtain ⟨M_1, eM_1, hf⟩ := g_letE hf
  refine pt_39_15 hx hb hts hown hC hP hS Nat.zero_lt_one q8_18 dX12_thread_2 (fun H locs hP hS => ?_)
  rw [eM_1] at hP
  refine lv_iload_n hx hb dX12_thread_5 rfl (lv_at hl 1 rfl) ?_
  obtain ⟨r_2, hc_3, hf⟩ := g_bindE hf
  refine x_calli (v := (X, M_1, τ)) (va_runS (As := [.int x1]) (rest := []) ⟨hx, hb, hml, hown, hts⟩ (ct_X12_isThread l G X M_1 τ x1 hc_3) (cwS 1 hts gd_X12_80 rfl rfl rfl hd_X12_isThread ⟨Nat.le_of_ble_eq_true rfl, Nat.le_of_ble_eq_true rfl⟩) (x_pre (u := (X, M_1, τ)) hC hS hP) rfl rfl hl.1 rfl (lv_room (Nat.le_of_ble_eq_true rfl)) dX12_thread_6 ⟨Nat.zero_le _, Nat.zero_le _⟩) hS (fun H locs hP hS => ?_)
  refine lv_if_ne (tgt := 15) hx hb dX12_thread_9 (by decide) (fun hc_4 => ?_) (fun hc_4 => ?_)
  · have hf := g_neg hf hc_4
    refine lv_iload_n hx hb dX12_thread_15 rfl (lv_at hl 2 rfl) ?_
    by_cases hs16_0 : x2 = 0
    · have hf := g_pos hf hs16_0
      refine lv_tableIn (off := 68) (tgt := 84) hx hb dX12_thread_16 (by rw [hs16_0]; decide) (by rw [hs16_0]; decide) (by rw [hs16_0]; rfl) (by decide) ?_
      refine lv_aload_n hx hb dX12_thread_84 rfl (lv_at hl 0 rfl) ?_
      refine gt_39_0 hx hb hts hown hC hP Nat.zero_lt_one q6_17 dX12_thread_85 ?_
      refine lv_sipush (v := 438) hx hb dX12_thread_88 (by decide) ?_
      refine lv_iload_n hx hb dX12_thread_91 rfl (lv_at hl 1 rfl) ?_
      refine lv_iadd hx hb dX12_thread_92 ?_
      obtain ⟨hg_18, hf⟩ := g_gd hf
      refine xildM (k := 40) (n := 693) hx hb hC hP (fun _ _ => rfl) rfl Nat.zero_lt_one hg_18 dX12_thread_93 ?_
      cases hf
      exact x_iret hx hb hlocks hC hP hS hr dX12_thread_94
    · have hf := g_neg hf hs16_0
      by_cases hs16_1 : x2 = 1
      · have hf := g_pos hf hs16_1
        refine lv_tableIn (off := 79) (tgt := 95) hx hb dX12_thread_16 (by rw [hs16_1]; decide) (by rw [hs16_1]; decide) (by rw [hs16_1]; rfl) (by decide) ?_
        refine lv_aload_n hx hb dX12_thread_95 rfl (lv_at hl 0 rfl) ?_
        refine gt_39_0 hx hb hts hown hC hP Nat.zero_lt_one q6_17 dX12_thread_96 ?_
        refine lv_sipush (v := 432) hx hb dX12_thread_99 (by decide) ?_
        refine lv_iload_n hx hb dX12_thread_102 rfl (lv_at hl 1 rfl) ?_
        refine lv_iadd hx hb dX12_thread_103 ?_
        obtain ⟨hg_17, hf⟩ := g_gd hf
        refine xildM (k := 40) (n := 693) hx hb hC hP (fun _ _ => rfl) rfl Nat.zero_lt_one hg_17 dX12_thread_104 ?_
        cases hf
        exact x_iret hx hb hlocks hC hP hS hr dX12_thread_105
      · have hf := g_neg hf hs16_1
        by_cases hs16_2 : x2 = 2
        · have hf := g_pos hf hs16_2
          refine lv_tableIn (off := 90) (tgt := 106) hx hb dX12_thread_16 (by rw [hs16_2]; decide) (by rw [hs16_2]; decide) (by rw [hs16_2]; rfl) (by decide) ?_
          refine lv_aload_n hx hb dX12_thread_106 rfl (lv_at hl 0 rfl) ?_
          refine gt_39_0 hx hb hts hown hC hP Nat.zero_lt_one q6_17 dX12_thread_107 ?_
          refine lv_sipush (v := 444) hx hb dX12_thread_110 (by decide) ?_
          refine lv_iload_n hx hb dX12_thread_113 rfl (lv_at hl 1 rfl) ?_
          refine lv_iadd hx hb dX12_thread_114 ?_
          obtain ⟨hg_16, hf⟩ := g_gd hf
          refine xildM (k := 40) (n := 693) hx hb hC hP (fun _ _ => rfl) rfl Nat.zero_lt_one hg_16 dX12_thread_115 ?_
          cases hf
          exact x_iret hx hb hlocks hC hP hS hr dX12_thread_116
        · have hf := g_neg hf hs16_2
          by_cases hs16_3 : x2 = 3
          · have hf := g_pos hf hs16_3
            refine lv_tableIn (off := 101) (tgt := 117) hx hb dX12_thread_16 (by rw [hs16_3]; decide) (by rw [hs16_3]; decide) (by rw [hs16_3]; rfl) (by decide) ?_
            refine lv_aload_n hx hb dX12_thread_117 rfl (lv_at hl 0 rfl) ?_
            refine gt_39_0 hx hb hts hown hC hP Nat.zero_lt_one q6_17 dX12_thread_118 ?_
            refine lv_sipush (v := 450) hx hb dX12_thread_121 (by decide) ?_
            refine lv_iload_n hx hb dX12_thread_124 rfl (lv_at hl 1 rfl) ?_
            refine lv_iadd hx hb dX12_thread_125 ?_
            obtain ⟨hg_15, hf⟩ := g_gd hf
            refine xildM (k := 40) (n := 693) hx hb hC hP (fun _ _ => rfl) rfl Nat.zero_lt_one hg_15 dX12_thread_126 ?_
            cases hf
            exact x_iret hx hb hlocks hC hP hS hr dX12_thread_127
          · have hf := g_neg hf hs16_3
            by_cases hs16_4 : x2 = 4
            · have hf := g_pos hf hs16_4
              refine lv_tableIn (off := 112) (tgt := 128) hx hb dX12_thread_16 (by rw [hs16_4]; decide) (by rw [hs16_4]; decide) (by rw [hs16_4]; rfl) (by decide) ?_
              refine lv_aload_n hx hb dX12_thread_128 rfl (lv_at hl 0 rfl) ?_
              refine gt_39_0 hx hb hts hown hC hP Nat.zero_lt_one q6_17 dX12_thread_129 ?_
              refine lv_sipush (v := 456) hx hb dX12_thread_132 (by decide) ?_
              refine lv_iload_n hx hb dX12_thread_135 rfl (lv_at hl 1 rfl) ?_
              refine lv_iadd hx hb dX12_thread_136 ?_
              obtain ⟨hg_14, hf⟩ := g_gd hf
              refine xildM (k := 40) (n := 693) hx hb hC hP (fun _ _ => rfl) rfl Nat.zero_lt_one hg_14 dX12_thread_137 ?_
              cases hf
              exact x_iret hx hb hlocks hC hP hS hr dX12_thread_138
            · have hf := g_neg hf hs16_4
              by_cases hs16_5 : x2 = 5
              · have hf := g_pos hf hs16_5
                refine lv_tableIn (off := 123) (tgt := 139) hx hb dX12_thread_16 (by rw [hs16_5]; decide) (by rw [hs16_5]; decide) (by rw [hs16_5]; rfl) (by decide) ?_
                refine lv_aload_n hx hb dX12_thread_139 rfl (lv_at hl 0 rfl) ?_
                refine gt_39_0 hx hb hts hown hC hP Nat.zero_lt_one q6_17 dX12_thread_140 ?_
                refine lv_sipush (v := 462) hx hb dX12_thread_143 (by decide) ?_
                refine lv_iload_n hx hb dX12_thread_146 rfl (lv_at hl 1 rfl) ?_
                refine lv_iadd hx hb dX12_thread_147 ?_
                obtain ⟨hg_13, hf⟩ := g_gd hf
                refine xildM (k := 40) (n := 693) hx hb hC hP (fun _ _ => rfl) rfl Nat.zero_lt_one hg_13 dX12_thread_148 ?_
                cases hf
                exact x_iret hx hb hlocks hC hP hS hr dX12_thread_149
              · have hf := g_neg hf hs16_5
                by_cases hs16_6 : x2 = 6
                · have hf := g_pos hf hs16_6
                  refine lv_tableIn (off := 134) (tgt := 150) hx hb dX12_thread_16 (by rw [hs16_6]; decide) (by rw [hs16_6]; decide) (by rw [hs16_6]; rfl) (by decide) ?_
                  refine lv_aload_n hx hb dX12_thread_150 rfl (lv_at hl 0 rfl) ?_
                  refine gt_39_0 hx hb hts hown hC hP Nat.zero_lt_one q6_17 dX12_thread_151 ?_
                  refine lv_sipush (v := 468) hx hb dX12_thread_154 (by decide) ?_
                  refine lv_iload_n hx hb dX12_thread_157 rfl (lv_at hl 1 rfl) ?_
                  refine lv_iadd hx hb dX12_thread_158 ?_
                  obtain ⟨hg_12, hf⟩ := g_gd hf
                  refine xildM (k := 40) (n := 693) hx hb hC hP (fun _ _ => rfl) rfl Nat.zero_lt_one hg_12 dX12_thread_159 ?_
                  cases hf
                  exact x_iret hx hb hlocks hC hP hS hr dX12_thread_160
                · have hf := g_neg hf hs16_6
                  by_cases hs16_7 : x2 = 7
                  · have hf := g_pos hf hs16_7
                    refine lv_tableIn (off := 145) (tgt := 161) hx hb dX12_thread_16 (by rw [hs16_7]; decide) (by rw [hs16_7]; decide) (by rw [hs16_7]; rfl) (by decide) ?_
                    refine lv_aload_n hx hb dX12_thread_161 rfl (lv_at hl 0 rfl) ?_
                    refine gt_39_0 hx hb hts hown hC hP Nat.zero_lt_one q6_17 dX12_thread_162 ?_
                    refine lv_sipush (v := 474) hx hb dX12_thread_165 (by decide) ?_
                    refine lv_iload_n hx hb dX12_thread_168 rfl (lv_at hl 1 rfl) ?_
                    refine lv_iadd hx hb dX12_thread_169 ?_
                    obtain ⟨hg_11, hf⟩ := g_gd hf
                    refine xildM (k := 40) (n := 693) hx hb hC hP (fun _ _ => rfl) rfl Nat.zero_lt_one hg_11 dX12_thread_170 ?_
                    cases hf
                    exact x_iret hx hb hlocks hC hP hS hr dX12_thread_171
                  · have hf := g_neg hf hs16_7
                    by_cases hs16_8 : x2 = 8
                    · have hf := g_pos hf hs16_8
                      refine lv_tableIn (off := 156) (tgt := 172) hx hb dX12_thread_16 (by rw [hs16_8]; decide) (by rw [hs16_8]; decide) (by rw [hs16_8]; rfl) (by decide) ?_
                      refine lv_aload_n hx hb dX12_thread_172 rfl (lv_at hl 0 rfl) ?_
                      refine gt_39_3 hx hb hts hown hC hP Nat.zero_lt_one q6_20 dX12_thread_173 ?_
                      refine lv_iload_n hx hb dX12_thread_176 rfl (lv_at hl 1 rfl) ?_
                      obtain ⟨hg_10, hf⟩ := g_gd hf
                      refine xildM (k := 43) (n := 6) hx hb hC hP (fun _ _ => rfl) rfl Nat.zero_lt_one hg_10 dX12_thread_177 ?_
                      cases hf
                      exact x_iret hx hb hlocks hC hP hS hr dX12_thread_178
                    · have hf := g_neg hf hs16_8
                      by_cases hs16_9 : x2 = 9
                      · have hf := g_pos hf hs16_9
                        refine lv_tableIn (off := 163) (tgt := 179) hx hb dX12_thread_16 (by rw [hs16_9]; decide) (by rw [hs16_9]; decide) (by rw [hs16_9]; rfl) (by decide) ?_
                        refine lv_aload_n hx hb dX12_thread_179 rfl (lv_at hl 0 rfl) ?_
                        refine gt_39_5 hx hb hts hown hC hP Nat.zero_lt_one q6_23 dX12_thread_180 ?_
                        refine lv_iload_n hx hb dX12_thread_183 rfl (lv_at hl 1 rfl) ?_
                        obtain ⟨hg_8, hf⟩ := g_gd hf
                        refine xzldM (k := 45) (n := 6) hx hb hC hP (fun _ _ => rfl) rfl Nat.zero_lt_one hg_8 dX12_thread_184 ?_
                        refine lv_if_eq (tgt := 192) hx hb dX12_thread_185 (by decide) (fun hc_9 => ?_) (fun hc_9 => ?_)
                        · have hf := g_pos hf hc_9
                          refine lv_iconst (v := 1) hx hb dX12_thread_192 (by decide) ?_
                          cases hf
                          exact x_iret hx hb hlocks hC hP hS hr dX12_thread_193
                        · have hf := g_neg hf hc_9
                          refine lv_iconst (v := 0) hx hb dX12_thread_188 (by decide) ?_
                          refine lv_goto (tgt := 193) hx hb dX12_thread_189 (by decide) ?_
                          cases hf
                          exact x_iret hx hb hlocks hC hP hS hr dX12_thread_193
                      · have hf := g_neg hf hs16_9
                        by_cases hs16_10 : x2 = 10
                        · have hf := g_pos hf hs16_10
                          refine lv_tableIn (off := 178) (tgt := 194) hx hb dX12_thread_16 (by rw [hs16_10]; decide) (by rw [hs16_10]; decide) (by rw [hs16_10]; rfl) (by decide) ?_
                          refine lv_aload_n hx hb dX12_thread_194 rfl (lv_at hl 0 rfl) ?_
                          refine gt_39_4 hx hb hts hown hC hP Nat.zero_lt_one q6_21 dX12_thread_195 ?_
                          refine lv_iload_n hx hb dX12_thread_198 rfl (lv_at hl 1 rfl) ?_
                          obtain ⟨hg_7, hf⟩ := g_gd hf
                          refine xildM (k := 44) (n := 6) hx hb hC hP (fun _ _ => rfl) rfl Nat.zero_lt_one hg_7 dX12_thread_199 ?_
                          cases hf
                          exact x_iret hx hb hlocks hC hP hS hr dX12_thread_200
                        · have hf := g_neg hf hs16_10
                          by_cases hs16_11 : x2 = 11
                          · have hf := g_pos hf hs16_11
                            refine lv_tableIn (off := 185) (tgt := 201) hx hb dX12_thread_16 (by rw [hs16_11]; decide) (by rw [hs16_11]; decide) (by rw [hs16_11]; rfl) (by decide) ?_
                            refine lv_aload_n hx hb dX12_thread_201 rfl (lv_at hl 0 rfl) ?_
                            refine gt_39_13 hx hb hts hown hC hP Nat.zero_lt_one q7_6 dX12_thread_202 ?_
                            refine lv_iload_n hx hb dX12_thread_205 rfl (lv_at hl 1 rfl) ?_
                            obtain ⟨hg_6, hf⟩ := g_gd hf
                            refine xildM (k := 51) (n := 6) hx hb hC hP (fun _ _ => rfl) rfl Nat.zero_lt_one hg_6 dX12_thread_206 ?_
                            cases hf
                            exact x_iret hx hb hlocks hC hP hS hr dX12_thread_207
                          · have hf := g_neg hf hs16_11
                            by_cases hs16_12 : x2 = 12
                            · have hf := g_pos hf hs16_12
                              refine lv_tableIn (off := 192) (tgt := 208) hx hb dX12_thread_16 (by rw [hs16_12]; decide) (by rw [hs16_12]; decide) (by rw [hs16_12]; rfl) (by decide) ?_
                              refine lv_aload_n hx hb dX12_thread_208 rfl (lv_at hl 0 rfl) ?_
                              refine gt_39_14 hx hb hts hown hC hP Nat.zero_lt_one q7_7 dX12_thread_209 ?_
                              refine lv_iload_n hx hb dX12_thread_212 rfl (lv_at hl 1 rfl) ?_
                              obtain ⟨hg_5, hf⟩ := g_gd hf
                              refine xildM (k := 52) (n := 6) hx hb hC hP (fun _ _ => rfl) rfl Nat.zero_lt_one hg_5 dX12_thread_213 ?_
                              cases hf
                              exact x_iret hx hb hlocks hC hP hS hr dX12_thread_214
                            · have hf := g_neg hf hs16_12
                              have nhs16_0 : x2.toInt ≠ 0 := fun h => hs16_0 (Int32.toInt_inj.mp (by rw [h]; rfl))
                              have nhs16_1 : x2.toInt ≠ 1 := fun h => hs16_1 (Int32.toInt_inj.mp (by rw [h]; rfl))
                              have nhs16_2 : x2.toInt ≠ 2 := fun h => hs16_2 (Int32.toInt_inj.mp (by rw [h]; rfl))
                              have nhs16_3 : x2.toInt ≠ 3 := fun h => hs16_3 (Int32.toInt_inj.mp (by rw [h]; rfl))
                              have nhs16_4 : x2.toInt ≠ 4 := fun h => hs16_4 (Int32.toInt_inj.mp (by rw [h]; rfl))
                              have nhs16_5 : x2.toInt ≠ 5 := fun h => hs16_5 (Int32.toInt_inj.mp (by rw [h]; rfl))
                              have nhs16_6 : x2.toInt ≠ 6 := fun h => hs16_6 (Int32.toInt_inj.mp (by rw [h]; rfl))
                              have nhs16_7 : x2.toInt ≠ 7 := fun h => hs16_7 (Int32.toInt_inj.mp (by rw [h]; rfl))
                              have nhs16_8 : x2.toInt ≠ 8 := fun h => hs16_8 (Int32.toInt_inj.mp (by rw [h]; rfl))
                              have nhs16_9 : x2.toInt ≠ 9 := fun h => hs16_9 (Int32.toInt_inj.mp (by rw [h]; rfl))
                              have nhs16_10 : x2.toInt ≠ 10 := fun h => hs16_10 (Int32.toInt_inj.mp (by rw [h]; rfl))
                              have nhs16_11 : x2.toInt ≠ 11 := fun h => hs16_11 (Int32.toInt_inj.mp (by rw [h]; rfl))
                              have nhs16_12 : x2.toInt ≠ 12 := fun h => hs16_12 (Int32.toInt_inj.mp (by rw [h]; rfl))
                              refine lv_tableOut (tgt := 215) hx hb dX12_thread_16 (by omega) (by decide) ?_
                              refine lv_bipush (v := (-2)) hx hb dX12_thread_215 (by decide) ?_
                              cases hf
                              exact x_iret hx hb hlocks hC hP hS hr dX12_thread_217
  · have hf := g_pos hf hc_4
    refine lv_bipush (v := (-2)) hx hb dX12_thread_12 (by decide) ?_
    cases hf
    exact x_iret hx hb hlocks hC hP hS hr dX12_thread_14
set_option maxRecDepth 100000 in
set_option maxHeartbeats 4000000 in
theorem ct_X12_thread (l : Launch) (G : GP) (X M : SM) (τ : SL) (x1 : Int32) (x2 : Int32) {r0 : Int32} {M0 : SM} (hf : fn_X12_thread x1 x2 M = some (r0, M0)) : Met l yX12_thread (wz yX12_thread cX12_thread 3 (some .int)) rm_X12_thread (va_Pc [.ref (G.2.1 39 0), .int x1, .int x2] (g_pw G (X, M, τ))) (va_Qi (fun r u => r = r0 ∧ u = (X, M0, τ)) (g_pw G) (g_A G)) 0 0 (g_A G) := by
  refine Met.ofW (cc := cX12_thread) (maxL := 3) (ret := (some .int)) (by decide +kernel) rfl ?_
  intro p e s m args below meth c s₁ B hml hv
  obtain ⟨rfl, hC, hP⟩ := hv
  have C0 : g_mc p s m _ meth c RX12 cX12_thread (some .int) 3 G := ⟨B.exec, B.bytes, B.returns, hml, findClass_of_methodNamed B.named, fun w h => atoms_spec (ws := wz yX12_thread cX12_thread 3 (some .int)) B.pre w (List.mem_cons_of_mem _ h), B.notSynchronized, hC⟩
  have hl := lv_entry ([.ref (G.2.1 39 0), .int x1, .int x2]) (n := 3) (Nat.le_of_ble_eq_true rfl)
  rw [lg_entry_eq]
  generalize (lg_sl ([.ref (G.2.1 39 0), .int x1, .int x2]) ++ List.replicate (3 - (lg_sl ([.ref (G.2.1 39 0), .int x1, .int x2])).length) Slot.unset).toArray = ls at hl ⊢
  exact wk_X12_thread C0  x1 x2 M hf hP va_S.rf hl
abbrev rm_X12_thrown : Room := { frames := 0, cells := 0, slots := 0, locals := 0 }
def fn_X12_thrown (M : SM) : Int32 :=
  (M 39 0 15)
set_option maxRecDepth 100000 in
set_option maxHeartbeats 4000000 in
theorem wk_X12_thrown {p : Program} {l : Launch} {e : Env} {s : State} {m : MethodId} {args : Array Value} {below : List Frame} {meth : Method} {c : Code} {G : GP} {X : SM} {τ : SL} (C0 : g_mc p s m args meth c RX12 cX12_thrown (some .int) 1 G) {r0 : Int32} (M : SM) (hf : fn_X12_thrown M = r0) {H : Heap} {locs : List Loc} (hP : va_P G.1 g_cl (wd G (cb X M) τ) H) (hS : va_S (g_A G) s.heap H locs) {ls : Array Slot} (hl : lv_has ls 1 [(0, .ref (G.2.1 39 0))]) : W p l e rm_X12_thrown s m args below meth c H locs 0 0 (MQ below (va_Qi (fun r u => r = r0 ∧ u = (X, M, τ)) (g_pw G) (g_A G)) args s 0 0 (g_A G)) (F0 m 0 ls []) := by
  obtain ⟨hx, hb, hr, hml, hown, hts, hlocks, hC⟩ := id C0
  unfold fn_X12_thrown at hf
  refine lv_aload_n hx hb dX12_thrown_0 rfl (lv_at hl 0 rfl) ?_
  refine gt_39_15 hx hb hts hown hC hP Nat.zero_lt_one q8_18 dX12_thrown_1 ?_
  cases hf
  exact x_iret hx hb hlocks hC hP hS hr dX12_thrown_4
set_option maxRecDepth 100000 in
set_option maxHeartbeats 4000000 in
theorem ct_X12_thrown (l : Launch) (G : GP) (X M : SM) (τ : SL) {r0 : Int32} (hf : fn_X12_thrown M = r0) : Met l yX12_thrown (wz yX12_thrown cX12_thrown 1 (some .int)) rm_X12_thrown (va_Pc [.ref (G.2.1 39 0)] (g_pw G (X, M, τ))) (va_Qi (fun r u => r = r0 ∧ u = (X, M, τ)) (g_pw G) (g_A G)) 0 0 (g_A G) := by
  refine Met.ofW (cc := cX12_thrown) (maxL := 1) (ret := (some .int)) (by decide +kernel) rfl ?_
  intro p e s m args below meth c s₁ B hml hv
  obtain ⟨rfl, hC, hP⟩ := hv
  have C0 : g_mc p s m _ meth c RX12 cX12_thrown (some .int) 1 G := ⟨B.exec, B.bytes, B.returns, hml, findClass_of_methodNamed B.named, fun w h => atoms_spec (ws := wz yX12_thrown cX12_thrown 1 (some .int)) B.pre w (List.mem_cons_of_mem _ h), B.notSynchronized, hC⟩
  have hl := lv_entry ([.ref (G.2.1 39 0)]) (n := 1) (Nat.le_of_ble_eq_true rfl)
  rw [lg_entry_eq]
  generalize (lg_sl ([.ref (G.2.1 39 0)]) ++ List.replicate (1 - (lg_sl ([.ref (G.2.1 39 0)])).length) Slot.unset).toArray = ls at hl ⊢
  exact wk_X12_thrown C0  M hf hP va_S.rf hl
abbrev rm_X12_will : Room := { frames := 6, cells := 0, slots := 0, locals := 142 }
def fn_X12_will (x1 : Int32) (x2 : Int32) (M : SM) : Option (Int32 × SM) :=
  g_let (u1 M 39 0 15 0) fun M_1 =>
  (fn_X12_isThread x1).bind fun r_2 =>
  if r_2 = 0 then
  (some ((-1), M_1))
  else
  (g_let (fn_X12_within x2 1 60) fun r_5 =>
    if r_5 = 0 then
    (some ((-1), M_1))
    else
    ((fn_X12_keeps M_1).bind fun M_8 =>
      (fn_X12_tickOf x1 x2 M_8).bind fun (r_10, M_11) =>
      (fn_X12_comesBack M_11).bind fun M_13 =>
      some (r_10, M_13)))
set_option maxRecDepth 100000 in
set_option maxHeartbeats 4000000 in
theorem wk_X12_will {p : Program} {l : Launch} {e : Env} {s : State} {m : MethodId} {args : Array Value} {below : List Frame} {meth : Method} {c : Code} {G : GP} {X : SM} {τ : SL} (C0 : g_mc p s m args meth c RX12 cX12_will (some .int) 4 G) {r0 : Int32} {M0 : SM} (x1 : Int32) (x2 : Int32) (M : SM) (hf : fn_X12_will x1 x2 M = some (r0, M0)) {d : Drawn} (hd : s.drawn.sameBut d lw_cs) {H : Heap} {locs : List Loc} (hP : va_P G.1 g_cl (wd G (cb X M) τ) H) (hS : va_S (g_A G) s.heap H locs) {ls : Array Slot} (hl : lv_has ls 4 [(0, .ref (G.2.1 39 0)), (1, .int x1), (2, .int x2)]) : W p l e rm_X12_will (s.setDrawn d) m args below meth c H locs 0 0 (MQD lw_cs below (va_Qi (fun r u => r = r0 ∧ u = (X, M0, τ)) (g_pw G) (g_A G)) args s 0 0 (g_A G)) (F0 m 0 ls []) := by
  obtain ⟨hx, hb, hr, hml, hown, hts0, hlocks, hC0⟩ := id C0
  have hts := dr_words hts0 d
  have hC := hC0.dr d
  unfold fn_X12_will at hf
  refine lv_aload_n hx hb dX12_will_0 rfl (lv_at hl 0 rfl) ?_
  refine lv_iconst (v := 0) hx hb dX12_will_1 (by decide) ?_
  obtain ⟨M_1, eM_1, hf⟩ := g_letE hf
  refine pt_39_15 hx hb hts hown hC hP hS Nat.zero_lt_one q8_18 dX12_will_2 (fun H locs hP hS => ?_)
  rw [eM_1] at hP
  refine lv_iload_n hx hb dX12_will_5 rfl (lv_at hl 1 rfl) ?_
  obtain ⟨r_2, hc_3, hf⟩ := g_bindE hf
  refine x_calli (v := (X, M_1, τ)) (va_runS (As := [.int x1]) (rest := []) ⟨hx, hb, hml, hown, hts⟩ (ct_X12_isThread l G X M_1 τ x1 hc_3) (cwS 1 hts gd_X12_80 rfl rfl rfl hd_X12_isThread ⟨Nat.le_of_ble_eq_true rfl, Nat.le_of_ble_eq_true rfl⟩) (x_pre (u := (X, M_1, τ)) hC hS hP) rfl rfl hl.1 rfl (lv_room (Nat.le_of_ble_eq_true rfl)) dX12_will_6 ⟨Nat.zero_le _, Nat.zero_le _⟩) hS (fun H locs hP hS => ?_)
  refine lv_if_eq (tgt := 22) hx hb dX12_will_9 (by decide) (fun hc_4 => ?_) (fun hc_4 => ?_)
  · have hf := g_pos hf hc_4
    refine lv_iconst (v := (-1)) hx hb dX12_will_22 (by decide) ?_
    cases hf
    refine W.endD hd ?_
    exact x_iret hx hb hlocks hC hP hS hr dX12_will_23
  · have hf := g_neg hf hc_4
    refine lv_iload_n hx hb dX12_will_12 rfl (lv_at hl 2 rfl) ?_
    refine lv_iconst (v := 1) hx hb dX12_will_13 (by decide) ?_
    refine lv_bipush (v := 60) hx hb dX12_will_14 (by decide) ?_
    obtain ⟨r_5, hc_6, hf⟩ := g_letE hf
    refine x_calli (v := (X, M_1, τ)) (va_runS (As := [.int x2, .int 1, .int 60]) (rest := []) ⟨hx, hb, hml, hown, hts⟩ (ct_X12_within l G X M_1 τ x2 1 60 hc_6) (cwS 3 hts gd_X12_76 rfl rfl rfl hd_X12_within ⟨Nat.le_of_ble_eq_true rfl, Nat.le_of_ble_eq_true rfl⟩) (x_pre (u := (X, M_1, τ)) hC hS hP) rfl rfl hl.1 rfl (lv_room (Nat.le_of_ble_eq_true rfl)) dX12_will_16 ⟨Nat.zero_le _, Nat.zero_le _⟩) hS (fun H locs hP hS => ?_)
    refine lv_if_ne (tgt := 24) hx hb dX12_will_19 (by decide) (fun hc_7 => ?_) (fun hc_7 => ?_)
    · have hf := g_neg hf hc_7
      refine lv_aload_n hx hb dX12_will_24 rfl (lv_at hl 0 rfl) ?_
      obtain ⟨M_8, hc_9, hf⟩ := g_bindE hf
      refine x_callv (v := (X, M_8, τ)) (va_runV (As := []) (rest := []) ⟨hx, hb, hml, hown, hts⟩ (ct_X12_keeps l G X M_1 τ  hc_9) (cwV 0 hts gd_X12_227 rfl rfl rfl hd_X12_keeps ⟨Nat.le_of_ble_eq_true rfl, Nat.le_of_ble_eq_true rfl⟩) (x_preV (u := (X, M_1, τ)) (k := 39) (ci := 12) hC hS hP Nat.zero_lt_one rfl rfl) rfl rfl hl.1 rfl (lv_room (Nat.le_of_ble_eq_true rfl)) dX12_will_25 ⟨Nat.zero_le _, Nat.zero_le _⟩) hS (fun H locs hP hS => ?_)
      refine lv_aload_n hx hb dX12_will_28 rfl (lv_at hl 0 rfl) ?_
      refine lv_iload_n hx hb dX12_will_29 rfl (lv_at hl 1 rfl) ?_
      refine lv_iload_n hx hb dX12_will_30 rfl (lv_at hl 2 rfl) ?_
      obtain ⟨⟨r_10, M_11⟩, hc_12, hf⟩ := g_bindE hf
      refine x_calliD (v := (X, M_11, τ)) hd (va_runV_D (As := [.int x1, .int x2]) (rest := []) ⟨hx, hb, hml, hown, hts⟩ (ct_X12_tickOf l G X M_8 τ x1 x2 hc_12) (cwV 2 hts gd_X12_230 rfl rfl rfl hd_X12_tickOf ⟨Nat.le_of_ble_eq_true rfl, Nat.le_of_ble_eq_true rfl⟩) (x_preV (u := (X, M_8, τ)) (k := 39) (ci := 12) hC hS hP Nat.zero_lt_one rfl rfl) rfl rfl hl.1 rfl (lv_room (Nat.le_of_ble_eq_true rfl)) dX12_will_31 ⟨Nat.zero_le _, Nat.zero_le _⟩) hS (fun H locs hP hS d hd => ?_)
      have hts := dr_words hts0 d
      have hC := hC0.dr d
      refine lv_istore_n (lv' := [(3, .int r_10), (0, .ref (G.2.1 39 0)), (1, .int x1), (2, .int x2)]) hx hb dX12_will_34 rfl hl (by decide) rfl (fun ls hl => ?_)
      refine lv_aload_n hx hb dX12_will_35 rfl (lv_at hl 1 rfl) ?_
      obtain ⟨M_13, hc_14, hf⟩ := g_bindE hf
      refine x_callv (v := (X, M_13, τ)) (va_runV (As := []) (rest := []) ⟨hx, hb, hml, hown, hts⟩ (ct_X12_comesBack l G X M_11 τ  hc_14) (cwV 0 hts gd_X12_233 rfl rfl rfl hd_X12_comesBack ⟨Nat.le_of_ble_eq_true rfl, Nat.le_of_ble_eq_true rfl⟩) (x_preV (u := (X, M_11, τ)) (k := 39) (ci := 12) hC hS hP Nat.zero_lt_one rfl rfl) rfl rfl hl.1 rfl (lv_room (Nat.le_of_ble_eq_true rfl)) dX12_will_36 ⟨Nat.zero_le _, Nat.zero_le _⟩) hS (fun H locs hP hS => ?_)
      refine lv_iload_n hx hb dX12_will_39 rfl (lv_at hl 0 rfl) ?_
      cases hf
      refine W.endD hd ?_
      exact x_iret hx hb hlocks hC hP hS hr dX12_will_40
    · have hf := g_pos hf hc_7
      refine lv_iconst (v := (-1)) hx hb dX12_will_22 (by decide) ?_
      cases hf
      refine W.endD hd ?_
      exact x_iret hx hb hlocks hC hP hS hr dX12_will_23
set_option maxRecDepth 100000 in
set_option maxHeartbeats 4000000 in
theorem ct_X12_will (l : Launch) (G : GP) (X M : SM) (τ : SL) (x1 : Int32) (x2 : Int32) {r0 : Int32} {M0 : SM} (hf : fn_X12_will x1 x2 M = some (r0, M0)) : MetD lw_cs l yX12_will (wz yX12_will cX12_will 4 (some .int)) rm_X12_will (va_Pc [.ref (G.2.1 39 0), .int x1, .int x2] (g_pw G (X, M, τ))) (va_Qi (fun r u => r = r0 ∧ u = (X, M0, τ)) (g_pw G) (g_A G)) 0 0 (g_A G) := by
  refine MetD.ofW (cc := cX12_will) (maxL := 4) (ret := (some .int)) (by decide +kernel) rfl ?_
  intro p e s m args below meth c s₁ B hml hv hd
  obtain ⟨rfl, hC, hP⟩ := hv
  have C0 : g_mc p s m _ meth c RX12 cX12_will (some .int) 4 G := ⟨B.exec, B.bytes, B.returns, hml, findClass_of_methodNamed B.named, fun w h => atoms_spec (ws := wz yX12_will cX12_will 4 (some .int)) B.pre w (List.mem_cons_of_mem _ h), B.notSynchronized, hC⟩
  have hl := lv_entry ([.ref (G.2.1 39 0), .int x1, .int x2]) (n := 4) (Nat.le_of_ble_eq_true rfl)
  rw [lg_entry_eq]
  generalize (lg_sl ([.ref (G.2.1 39 0), .int x1, .int x2]) ++ List.replicate (4 - (lg_sl ([.ref (G.2.1 39 0), .int x1, .int x2])).length) Slot.unset).toArray = ls at hl ⊢
  exact wk_X12_will C0  x1 x2 M hf hd hP va_S.rf hl
abbrev rm_X12_wipe : Room := { frames := 2, cells := 0, slots := 0, locals := 46 }
def fn_X12_wipe (x1 : Int32) (M : SM) : Option (Int32 × SM) :=
  g_let (u1 M 39 0 15 0) fun M_1 =>
  (fn_X12_isThread x1).bind fun r_2 =>
  if r_2 = 0 then
  (some ((-1), M_1))
  else
  (if g_in x1 6 then
    g_let ((M_1 43 0 (x1.toNatClampNeg))) fun x2_6 =>
    (fn_X12_wipes x1 M_1).bind fun M_7 =>
    some (x2_6, M_7)
    else none)
set_option maxRecDepth 100000 in
set_option maxHeartbeats 4000000 in
theorem wk_X12_wipe {p : Program} {l : Launch} {e : Env} {s : State} {m : MethodId} {args : Array Value} {below : List Frame} {meth : Method} {c : Code} {G : GP} {X : SM} {τ : SL} (C0 : g_mc p s m args meth c RX12 cX12_wipe (some .int) 3 G) {r0 : Int32} {M0 : SM} (x1 : Int32) (M : SM) (hf : fn_X12_wipe x1 M = some (r0, M0)) {H : Heap} {locs : List Loc} (hP : va_P G.1 g_cl (wd G (cb X M) τ) H) (hS : va_S (g_A G) s.heap H locs) {ls : Array Slot} (hl : lv_has ls 3 [(0, .ref (G.2.1 39 0)), (1, .int x1)]) : W p l e rm_X12_wipe s m args below meth c H locs 0 0 (MQ below (va_Qi (fun r u => r = r0 ∧ u = (X, M0, τ)) (g_pw G) (g_A G)) args s 0 0 (g_A G)) (F0 m 0 ls []) := by
  obtain ⟨hx, hb, hr, hml, hown, hts, hlocks, hC⟩ := id C0
  unfold fn_X12_wipe at hf
  refine lv_aload_n hx hb dX12_wipe_0 rfl (lv_at hl 0 rfl) ?_
  refine lv_iconst (v := 0) hx hb dX12_wipe_1 (by decide) ?_
  obtain ⟨M_1, eM_1, hf⟩ := g_letE hf
  refine pt_39_15 hx hb hts hown hC hP hS Nat.zero_lt_one q8_18 dX12_wipe_2 (fun H locs hP hS => ?_)
  rw [eM_1] at hP
  refine lv_iload_n hx hb dX12_wipe_5 rfl (lv_at hl 1 rfl) ?_
  obtain ⟨r_2, hc_3, hf⟩ := g_bindE hf
  refine x_calli (v := (X, M_1, τ)) (va_runS (As := [.int x1]) (rest := []) ⟨hx, hb, hml, hown, hts⟩ (ct_X12_isThread l G X M_1 τ x1 hc_3) (cwS 1 hts gd_X12_80 rfl rfl rfl hd_X12_isThread ⟨Nat.le_of_ble_eq_true rfl, Nat.le_of_ble_eq_true rfl⟩) (x_pre (u := (X, M_1, τ)) hC hS hP) rfl rfl hl.1 rfl (lv_room (Nat.le_of_ble_eq_true rfl)) dX12_wipe_6 ⟨Nat.zero_le _, Nat.zero_le _⟩) hS (fun H locs hP hS => ?_)
  refine lv_if_ne (tgt := 14) hx hb dX12_wipe_9 (by decide) (fun hc_4 => ?_) (fun hc_4 => ?_)
  · have hf := g_neg hf hc_4
    refine lv_aload_n hx hb dX12_wipe_14 rfl (lv_at hl 0 rfl) ?_
    refine gt_39_3 hx hb hts hown hC hP Nat.zero_lt_one q6_20 dX12_wipe_15 ?_
    refine lv_iload_n hx hb dX12_wipe_18 rfl (lv_at hl 1 rfl) ?_
    obtain ⟨hg_5, hf⟩ := g_gd hf
    refine xildM (k := 43) (n := 6) hx hb hC hP (fun _ _ => rfl) rfl Nat.zero_lt_one hg_5 dX12_wipe_19 ?_
    obtain ⟨x2_6, ex2_6, hf⟩ := g_letE hf
    refine lv_topE ex2_6 ?_
    refine lv_istore_n (lv' := [(2, .int x2_6), (0, .ref (G.2.1 39 0)), (1, .int x1)]) hx hb dX12_wipe_20 rfl hl (by decide) rfl (fun ls hl => ?_)
    refine lv_aload_n hx hb dX12_wipe_21 rfl (lv_at hl 1 rfl) ?_
    refine lv_iload_n hx hb dX12_wipe_22 rfl (lv_at hl 2 rfl) ?_
    obtain ⟨M_7, hc_8, hf⟩ := g_bindE hf
    refine x_callv (v := (X, M_7, τ)) (va_runV (As := [.int x1]) (rest := []) ⟨hx, hb, hml, hown, hts⟩ (ct_X12_wipes l G X M_1 τ x1 hc_8) (cwV 1 hts gd_X12_92 rfl rfl rfl hd_X12_wipes ⟨Nat.le_of_ble_eq_true rfl, Nat.le_of_ble_eq_true rfl⟩) (x_preV (u := (X, M_1, τ)) (k := 39) (ci := 12) hC hS hP Nat.zero_lt_one rfl rfl) rfl rfl hl.1 rfl (lv_room (Nat.le_of_ble_eq_true rfl)) dX12_wipe_23 ⟨Nat.zero_le _, Nat.zero_le _⟩) hS (fun H locs hP hS => ?_)
    refine lv_iload_n hx hb dX12_wipe_26 rfl (lv_at hl 0 rfl) ?_
    cases hf
    exact x_iret hx hb hlocks hC hP hS hr dX12_wipe_27
  · have hf := g_pos hf hc_4
    refine lv_iconst (v := (-1)) hx hb dX12_wipe_12 (by decide) ?_
    cases hf
    exact x_iret hx hb hlocks hC hP hS hr dX12_wipe_13
set_option maxRecDepth 100000 in
set_option maxHeartbeats 4000000 in
theorem ct_X12_wipe (l : Launch) (G : GP) (X M : SM) (τ : SL) (x1 : Int32) {r0 : Int32} {M0 : SM} (hf : fn_X12_wipe x1 M = some (r0, M0)) : Met l yX12_wipe (wz yX12_wipe cX12_wipe 3 (some .int)) rm_X12_wipe (va_Pc [.ref (G.2.1 39 0), .int x1] (g_pw G (X, M, τ))) (va_Qi (fun r u => r = r0 ∧ u = (X, M0, τ)) (g_pw G) (g_A G)) 0 0 (g_A G) := by
  refine Met.ofW (cc := cX12_wipe) (maxL := 3) (ret := (some .int)) (by decide +kernel) rfl ?_
  intro p e s m args below meth c s₁ B hml hv
  obtain ⟨rfl, hC, hP⟩ := hv
  have C0 : g_mc p s m _ meth c RX12 cX12_wipe (some .int) 3 G := ⟨B.exec, B.bytes, B.returns, hml, findClass_of_methodNamed B.named, fun w h => atoms_spec (ws := wz yX12_wipe cX12_wipe 3 (some .int)) B.pre w (List.mem_cons_of_mem _ h), B.notSynchronized, hC⟩
  have hl := lv_entry ([.ref (G.2.1 39 0), .int x1]) (n := 3) (Nat.le_of_ble_eq_true rfl)
  rw [lg_entry_eq]
  generalize (lg_sl ([.ref (G.2.1 39 0), .int x1]) ++ List.replicate (3 - (lg_sl ([.ref (G.2.1 39 0), .int x1])).length) Slot.unset).toArray = ls at hl ⊢
  exact wk_X12_wipe C0  x1 M hf hP va_S.rf hl
