abbrev rm_X12_hard : Room := { frames := 2, cells := 0, slots := 0, locals := 42 }
def fn_X12_hard (x1 : Int32) (x2 : Int32) (M : SM) : Option (Int32 × SM) :=
  g_let (u1 M 39 0 15 0) fun M_1 =>
  (fn_X12_isThread x1).bind fun r_2 =>
  if r_2 = 0 then
  (some (0, M_1))
  else
  (if g_in x1 6 then
    if (M_1 45 0 (x1.toNatClampNeg)) = x2 then
    (if x2 = 0 then
      (if g_in x1 6 then
        g_let (u1 M_1 45 0 (x1.toNatClampNeg) (vp_nar .boolean 1)) fun M_11 =>
        some (1, M_11)
        else none)
      else
      (if g_in x1 6 then
        g_let (u1 M_1 45 0 (x1.toNatClampNeg) (vp_nar .boolean 0)) fun M_9 =>
        some (1, M_9)
        else none))
    else
    (some (0, M_1))
    else none)
set_option maxRecDepth 100000 in
set_option maxHeartbeats 4000000 in
theorem wk_X12_hard {p : Program} {l : Launch} {e : Env} {s : State} {m : MethodId} {args : Array Value} {below : List Frame} {meth : Method} {c : Code} {G : GP} {X : SM} {τ : SL} (C0 : g_mc p s m args meth c RX12 cX12_hard (some .boolean) 3 G) {r0 : Int32} {M0 : SM} (x1 : Int32) (x2 : Int32) (M : SM) (hf : fn_X12_hard x1 x2 M = some (r0, M0)) {H : Heap} {locs : List Loc} (hP : va_P G.1 g_cl (wd G (cb X M) τ) H) (hS : va_S (g_A G) s.heap H locs) {ls : Array Slot} (hl : lv_has ls 3 [(0, .ref (G.2.1 39 0)), (1, .int x1), (2, .int x2)]) : W p l e rm_X12_hard s m args below meth c H locs 0 0 (MQ below (va_Qi (fun r u => r = r0 ∧ u = (X, M0, τ)) (g_pw G) (g_A G)) args s 0 0 (g_A G)) (F0 m 0 ls []) := by
  obtain ⟨hx, hb, hr, hml, hown, hts, hlocks, hC⟩ := id C0
  unfold fn_X12_hard at hf
  refine lv_aload_n hx hb dX12_hard_0 rfl (lv_at hl 0 rfl) ?_
  refine lv_iconst (v := 0) hx hb dX12_hard_1 (by decide) ?_
  obtain ⟨M_1, eM_1, hf⟩ := g_letE hf
  refine pt_39_15 hx hb hts hown hC hP hS Nat.zero_lt_one q8_18 dX12_hard_2 (fun H locs hP hS => ?_)
  rw [eM_1] at hP
  refine lv_iload_n hx hb dX12_hard_5 rfl (lv_at hl 1 rfl) ?_
  obtain ⟨r_2, hc_3, hf⟩ := g_bindE hf
  refine x_calli (v := (X, M_1, τ)) (va_runS (As := [.int x1]) (rest := []) ⟨hx, hb, hml, hown, hts⟩ (ct_X12_isThread l G X M_1 τ x1 hc_3) (cwS 1 hts gd_X12_80 rfl rfl rfl hd_X12_isThread ⟨Nat.le_of_ble_eq_true rfl, Nat.le_of_ble_eq_true rfl⟩) (x_pre (u := (X, M_1, τ)) hC hS hP) rfl rfl hl.1 rfl (lv_room (Nat.le_of_ble_eq_true rfl)) dX12_hard_6 ⟨Nat.zero_le _, Nat.zero_le _⟩) hS (fun H locs hP hS => ?_)
  refine lv_if_eq (tgt := 22) hx hb dX12_hard_9 (by decide) (fun hc_4 => ?_) (fun hc_4 => ?_)
  · have hf := g_pos hf hc_4
    refine lv_iconst (v := 0) hx hb dX12_hard_22 (by decide) ?_
    cases hf
    exact x_zret hx hb hlocks hC hP hS hr (Or.inl rfl) dX12_hard_23
  · have hf := g_neg hf hc_4
    refine lv_aload_n hx hb dX12_hard_12 rfl (lv_at hl 0 rfl) ?_
    refine gt_39_5 hx hb hts hown hC hP Nat.zero_lt_one q6_23 dX12_hard_13 ?_
    refine lv_iload_n hx hb dX12_hard_16 rfl (lv_at hl 1 rfl) ?_
    obtain ⟨hg_5, hf⟩ := g_gd hf
    refine xzldM (k := 45) (n := 6) hx hb hC hP (fun _ _ => rfl) rfl Nat.zero_lt_one hg_5 dX12_hard_17 ?_
    refine lv_iload_n hx hb dX12_hard_18 rfl (lv_at hl 2 rfl) ?_
    refine lv_icmp_eq (tgt := 24) hx hb dX12_hard_19 (by decide) (fun hc_6 => ?_) (fun hc_6 => ?_)
    · have hf := g_pos hf hc_6
      refine lv_aload_n hx hb dX12_hard_24 rfl (lv_at hl 0 rfl) ?_
      refine gt_39_5 hx hb hts hown hC hP Nat.zero_lt_one q6_23 dX12_hard_25 ?_
      refine lv_iload_n hx hb dX12_hard_28 rfl (lv_at hl 1 rfl) ?_
      refine lv_iload_n hx hb dX12_hard_29 rfl (lv_at hl 2 rfl) ?_
      refine lv_if_ne (tgt := 37) hx hb dX12_hard_30 (by decide) (fun hc_7 => ?_) (fun hc_7 => ?_)
      · have hf := g_neg hf hc_7
        refine lv_iconst (v := 0) hx hb dX12_hard_37 (by decide) ?_
        obtain ⟨hg_8, hf⟩ := g_gd hf
        obtain ⟨M_9, eM_9, hf⟩ := g_letE hf
        refine xzstM (k := 45) (n := 6) hx hb hC hP hS (fun _ _ => rfl) rfl Nat.zero_lt_one hg_8 dX12_hard_38 (fun H locs hP hS => ?_)
        rw [eM_9] at hP
        refine lv_iconst (v := 1) hx hb dX12_hard_39 (by decide) ?_
        cases hf
        exact x_zret hx hb hlocks hC hP hS hr (Or.inr rfl) dX12_hard_40
      · have hf := g_pos hf hc_7
        refine lv_iconst (v := 1) hx hb dX12_hard_33 (by decide) ?_
        refine lv_goto (tgt := 38) hx hb dX12_hard_34 (by decide) ?_
        obtain ⟨hg_10, hf⟩ := g_gd hf
        obtain ⟨M_11, eM_11, hf⟩ := g_letE hf
        refine xzstM (k := 45) (n := 6) hx hb hC hP hS (fun _ _ => rfl) rfl Nat.zero_lt_one hg_10 dX12_hard_38 (fun H locs hP hS => ?_)
        rw [eM_11] at hP
        refine lv_iconst (v := 1) hx hb dX12_hard_39 (by decide) ?_
        cases hf
        exact x_zret hx hb hlocks hC hP hS hr (Or.inr rfl) dX12_hard_40
    · have hf := g_neg hf hc_6
      refine lv_iconst (v := 0) hx hb dX12_hard_22 (by decide) ?_
      cases hf
      exact x_zret hx hb hlocks hC hP hS hr (Or.inl rfl) dX12_hard_23
set_option maxRecDepth 100000 in
set_option maxHeartbeats 4000000 in
theorem ct_X12_hard (l : Launch) (G : GP) (X M : SM) (τ : SL) (x1 : Int32) (x2 : Int32) {r0 : Int32} {M0 : SM} (hf : fn_X12_hard x1 x2 M = some (r0, M0)) : Met l yX12_hard (wz yX12_hard cX12_hard 3 (some .boolean)) rm_X12_hard (va_Pc [.ref (G.2.1 39 0), .int x1, .int x2] (g_pw G (X, M, τ))) (va_Qi (fun r u => r = r0 ∧ u = (X, M0, τ)) (g_pw G) (g_A G)) 0 0 (g_A G) := by
  refine Met.ofW (cc := cX12_hard) (maxL := 3) (ret := (some .boolean)) (by decide +kernel) rfl ?_
  intro p e s m args below meth c s₁ B hml hv
  obtain ⟨rfl, hC, hP⟩ := hv
  have C0 : g_mc p s m _ meth c RX12 cX12_hard (some .boolean) 3 G := ⟨B.exec, B.bytes, B.returns, hml, findClass_of_methodNamed B.named, fun w h => atoms_spec (ws := wz yX12_hard cX12_hard 3 (some .boolean)) B.pre w (List.mem_cons_of_mem _ h), B.notSynchronized, hC⟩
  have hl := lv_entry ([.ref (G.2.1 39 0), .int x1, .int x2]) (n := 3) (Nat.le_of_ble_eq_true rfl)
  rw [lg_entry_eq]
  generalize (lg_sl ([.ref (G.2.1 39 0), .int x1, .int x2]) ++ List.replicate (3 - (lg_sl ([.ref (G.2.1 39 0), .int x1, .int x2])).length) Slot.unset).toArray = ls at hl ⊢
  exact wk_X12_hard C0  x1 x2 M hf hP va_S.rf hl
abbrev rm_X12_level : Room := { frames := 1, cells := 0, slots := 0, locals := 22 }
def fn_X12_level (x1 : Int32) (x2 : Int32) (M : SM) : Option (Int32 × SM) :=
  g_let (u1 M 39 0 15 0) fun M_1 =>
  g_let (fn_X12_within x1 0 7) fun r_2 =>
  if r_2 = 0 then
  (some ((-1), M_1))
  else
  (g_let (fn_X12_within x2 0 1) fun r_5 =>
    if r_5 = 0 then
    (some ((-1), M_1))
    else
    (if x2 = 0 then
      (if g_in (486 + x1) 693 then
        some ((M_1 40 0 ((486 + x1).toNatClampNeg)), M_1)
        else none)
      else
      (if g_in x1 8 then
        some ((M_1 46 0 (x1.toNatClampNeg)), M_1)
        else none)))
set_option maxRecDepth 100000 in
set_option maxHeartbeats 4000000 in
theorem wk_X12_level {p : Program} {l : Launch} {e : Env} {s : State} {m : MethodId} {args : Array Value} {below : List Frame} {meth : Method} {c : Code} {G : GP} {X : SM} {τ : SL} (C0 : g_mc p s m args meth c RX12 cX12_level (some .int) 3 G) {r0 : Int32} {M0 : SM} (x1 : Int32) (x2 : Int32) (M : SM) (hf : fn_X12_level x1 x2 M = some (r0, M0)) {H : Heap} {locs : List Loc} (hP : va_P G.1 g_cl (wd G (cb X M) τ) H) (hS : va_S (g_A G) s.heap H locs) {ls : Array Slot} (hl : lv_has ls 3 [(0, .ref (G.2.1 39 0)), (1, .int x1), (2, .int x2)]) : W p l e rm_X12_level s m args below meth c H locs 0 0 (MQ below (va_Qi (fun r u => r = r0 ∧ u = (X, M0, τ)) (g_pw G) (g_A G)) args s 0 0 (g_A G)) (F0 m 0 ls []) := by
  obtain ⟨hx, hb, hr, hml, hown, hts, hlocks, hC⟩ := id C0
  unfold fn_X12_level at hf
  refine lv_aload_n hx hb dX12_level_0 rfl (lv_at hl 0 rfl) ?_
  refine lv_iconst (v := 0) hx hb dX12_level_1 (by decide) ?_
  obtain ⟨M_1, eM_1, hf⟩ := g_letE hf
  refine pt_39_15 hx hb hts hown hC hP hS Nat.zero_lt_one q8_18 dX12_level_2 (fun H locs hP hS => ?_)
  rw [eM_1] at hP
  refine lv_iload_n hx hb dX12_level_5 rfl (lv_at hl 1 rfl) ?_
  refine lv_iconst (v := 0) hx hb dX12_level_6 (by decide) ?_
  refine lv_bipush (v := 7) hx hb dX12_level_7 (by decide) ?_
  obtain ⟨r_2, hc_3, hf⟩ := g_letE hf
  refine x_calli (v := (X, M_1, τ)) (va_runS (As := [.int x1, .int 0, .int 7]) (rest := []) ⟨hx, hb, hml, hown, hts⟩ (ct_X12_within l G X M_1 τ x1 0 7 hc_3) (cwS 3 hts gd_X12_76 rfl rfl rfl hd_X12_within ⟨Nat.le_of_ble_eq_true rfl, Nat.le_of_ble_eq_true rfl⟩) (x_pre (u := (X, M_1, τ)) hC hS hP) rfl rfl hl.1 rfl (lv_room (Nat.le_of_ble_eq_true rfl)) dX12_level_9 ⟨Nat.zero_le _, Nat.zero_le _⟩) hS (fun H locs hP hS => ?_)
  refine lv_if_eq (tgt := 24) hx hb dX12_level_12 (by decide) (fun hc_4 => ?_) (fun hc_4 => ?_)
  · have hf := g_pos hf hc_4
    refine lv_iconst (v := (-1)) hx hb dX12_level_24 (by decide) ?_
    cases hf
    exact x_iret hx hb hlocks hC hP hS hr dX12_level_25
  · have hf := g_neg hf hc_4
    refine lv_iload_n hx hb dX12_level_15 rfl (lv_at hl 2 rfl) ?_
    refine lv_iconst (v := 0) hx hb dX12_level_16 (by decide) ?_
    refine lv_iconst (v := 1) hx hb dX12_level_17 (by decide) ?_
    obtain ⟨r_5, hc_6, hf⟩ := g_letE hf
    refine x_calli (v := (X, M_1, τ)) (va_runS (As := [.int x2, .int 0, .int 1]) (rest := []) ⟨hx, hb, hml, hown, hts⟩ (ct_X12_within l G X M_1 τ x2 0 1 hc_6) (cwS 3 hts gd_X12_76 rfl rfl rfl hd_X12_within ⟨Nat.le_of_ble_eq_true rfl, Nat.le_of_ble_eq_true rfl⟩) (x_pre (u := (X, M_1, τ)) hC hS hP) rfl rfl hl.1 rfl (lv_room (Nat.le_of_ble_eq_true rfl)) dX12_level_18 ⟨Nat.zero_le _, Nat.zero_le _⟩) hS (fun H locs hP hS => ?_)
    refine lv_if_ne (tgt := 26) hx hb dX12_level_21 (by decide) (fun hc_7 => ?_) (fun hc_7 => ?_)
    · have hf := g_neg hf hc_7
      refine lv_iload_n hx hb dX12_level_26 rfl (lv_at hl 2 rfl) ?_
      refine lv_if_ne (tgt := 43) hx hb dX12_level_27 (by decide) (fun hc_8 => ?_) (fun hc_8 => ?_)
      · have hf := g_neg hf hc_8
        refine lv_aload_n hx hb dX12_level_43 rfl (lv_at hl 0 rfl) ?_
        refine gt_39_6 hx hb hts hown hC hP Nat.zero_lt_one q7_0 dX12_level_44 ?_
        refine lv_iload_n hx hb dX12_level_47 rfl (lv_at hl 1 rfl) ?_
        obtain ⟨hg_9, hf⟩ := g_gd hf
        refine xildM (k := 46) (n := 8) hx hb hC hP (fun _ _ => rfl) rfl Nat.zero_lt_one hg_9 dX12_level_48 ?_
        cases hf
        exact x_iret hx hb hlocks hC hP hS hr dX12_level_49
      · have hf := g_pos hf hc_8
        refine lv_aload_n hx hb dX12_level_30 rfl (lv_at hl 0 rfl) ?_
        refine gt_39_0 hx hb hts hown hC hP Nat.zero_lt_one q6_17 dX12_level_31 ?_
        refine lv_sipush (v := 486) hx hb dX12_level_34 (by decide) ?_
        refine lv_iload_n hx hb dX12_level_37 rfl (lv_at hl 1 rfl) ?_
        refine lv_iadd hx hb dX12_level_38 ?_
        obtain ⟨hg_10, hf⟩ := g_gd hf
        refine xildM (k := 40) (n := 693) hx hb hC hP (fun _ _ => rfl) rfl Nat.zero_lt_one hg_10 dX12_level_39 ?_
        refine lv_goto (tgt := 49) hx hb dX12_level_40 (by decide) ?_
        cases hf
        exact x_iret hx hb hlocks hC hP hS hr dX12_level_49
    · have hf := g_pos hf hc_7
      refine lv_iconst (v := (-1)) hx hb dX12_level_24 (by decide) ?_
      cases hf
      exact x_iret hx hb hlocks hC hP hS hr dX12_level_25
set_option maxRecDepth 100000 in
set_option maxHeartbeats 4000000 in
theorem ct_X12_level (l : Launch) (G : GP) (X M : SM) (τ : SL) (x1 : Int32) (x2 : Int32) {r0 : Int32} {M0 : SM} (hf : fn_X12_level x1 x2 M = some (r0, M0)) : Met l yX12_level (wz yX12_level cX12_level 3 (some .int)) rm_X12_level (va_Pc [.ref (G.2.1 39 0), .int x1, .int x2] (g_pw G (X, M, τ))) (va_Qi (fun r u => r = r0 ∧ u = (X, M0, τ)) (g_pw G) (g_A G)) 0 0 (g_A G) := by
  refine Met.ofW (cc := cX12_level) (maxL := 3) (ret := (some .int)) (by decide +kernel) rfl ?_
  intro p e s m args below meth c s₁ B hml hv
  obtain ⟨rfl, hC, hP⟩ := hv
  have C0 : g_mc p s m _ meth c RX12 cX12_level (some .int) 3 G := ⟨B.exec, B.bytes, B.returns, hml, findClass_of_methodNamed B.named, fun w h => atoms_spec (ws := wz yX12_level cX12_level 3 (some .int)) B.pre w (List.mem_cons_of_mem _ h), B.notSynchronized, hC⟩
  have hl := lv_entry ([.ref (G.2.1 39 0), .int x1, .int x2]) (n := 3) (Nat.le_of_ble_eq_true rfl)
  rw [lg_entry_eq]
  generalize (lg_sl ([.ref (G.2.1 39 0), .int x1, .int x2]) ++ List.replicate (3 - (lg_sl ([.ref (G.2.1 39 0), .int x1, .int x2])).length) Slot.unset).toArray = ls at hl ⊢
  exact wk_X12_level C0  x1 x2 M hf hP va_S.rf hl
abbrev rm_X12_memory : Room := { frames := 2, cells := 0, slots := 0, locals := 42 }
def wb_X12_memory_46 (k46 : Int32 → Int32 → Int32 → SM → Option (Int32 × SM)) (x1 : Int32) (x3 : Int32) (x4 : Int32) (M : SM) : Option (Int32 × SM) :=
  if 16 ≤ x4 then
  (some (x3, M))
  else
  (if g_in ((48 + (16 * x1)) + x4) 693 then
    g_let (u1 M 40 0 (((48 + (16 * x1)) + x4).toNatClampNeg) 0) fun M_15 =>
    g_let (x4 + 1) fun x4_16 =>
    k46 x1 x3 x4_16 M_15
    else none)
set_option maxRecDepth 100000 in
set_option maxHeartbeats 4000000 in
theorem bk_X12_memory_46 {p : Program} {l : Launch} {e : Env} {s : State} {m : MethodId} {args : Array Value} {below : List Frame} {meth : Method} {c : Code} {G : GP} {X : SM} {τ : SL} (C0 : g_mc p s m args meth c RX12 cX12_memory (some .int) 5 G) {r0 : Int32} {M0 : SM} (k46 : Int32 → Int32 → Int32 → SM → Option (Int32 × SM)) (hk46 : ∀ (x1 : Int32) (x3 : Int32) (x4 : Int32) (M : SM), k46 x1 x3 x4 M = some (r0, M0) → ∀ {H : Heap} {locs : List Loc}, va_P G.1 g_cl (wd G (cb X M) τ) H → va_S (g_A G) s.heap H locs → ∀ {ls : Array Slot}, lv_has ls 5 [(0, .ref (G.2.1 39 0)), (1, .int x1), (3, .int x3), (4, .int x4)] → W p l e rm_X12_memory s m args below meth c H locs 0 0 (MQ below (va_Qi (fun r u => r = r0 ∧ u = (X, M0, τ)) (g_pw G) (g_A G)) args s 0 0 (g_A G)) (F0 m 46 ls [])) (x1 : Int32) (x3 : Int32) (x4 : Int32) (M : SM) (hf : wb_X12_memory_46 k46 x1 x3 x4 M = some (r0, M0)) {H : Heap} {locs : List Loc} (hP : va_P G.1 g_cl (wd G (cb X M) τ) H) (hS : va_S (g_A G) s.heap H locs) {ls : Array Slot} (hl : lv_has ls 5 [(0, .ref (G.2.1 39 0)), (1, .int x1), (3, .int x3), (4, .int x4)]) : W p l e rm_X12_memory s m args below meth c H locs 0 0 (MQ below (va_Qi (fun r u => r = r0 ∧ u = (X, M0, τ)) (g_pw G) (g_A G)) args s 0 0 (g_A G)) (F0 m 46 ls []) := by
  obtain ⟨hx, hb, hr, hml, hown, hts, hlocks, hC⟩ := id C0
  unfold wb_X12_memory_46 at hf
  refine lv_iload hx hb dX12_memory_46 (lv_at hl 3 rfl) ?_
  refine lv_bipush (v := 16) hx hb dX12_memory_48 (by decide) ?_
  refine lv_icmp_ge (tgt := 75) hx hb dX12_memory_50 (by decide) (fun hc_13 => ?_) (fun hc_13 => ?_)
  · have hf := g_pos hf hc_13
    refine lv_iload_n hx hb dX12_memory_75 rfl (lv_at hl 2 rfl) ?_
    cases hf
    exact x_iret hx hb hlocks hC hP hS hr dX12_memory_76
  · have hf := g_neg hf hc_13
    refine lv_aload_n hx hb dX12_memory_53 rfl (lv_at hl 0 rfl) ?_
    refine gt_39_0 hx hb hts hown hC hP Nat.zero_lt_one q6_17 dX12_memory_54 ?_
    refine lv_bipush (v := 48) hx hb dX12_memory_57 (by decide) ?_
    refine lv_bipush (v := 16) hx hb dX12_memory_59 (by decide) ?_
    refine lv_iload_n hx hb dX12_memory_61 rfl (lv_at hl 1 rfl) ?_
    refine lv_imul hx hb dX12_memory_62 ?_
    refine lv_iadd hx hb dX12_memory_63 ?_
    refine lv_iload hx hb dX12_memory_64 (lv_at hl 3 rfl) ?_
    refine lv_iadd hx hb dX12_memory_66 ?_
    refine lv_iconst (v := 0) hx hb dX12_memory_67 (by decide) ?_
    obtain ⟨hg_14, hf⟩ := g_gd hf
    obtain ⟨M_15, eM_15, hf⟩ := g_letE hf
    refine xistM (k := 40) (n := 693) hx hb hC hP hS (fun _ _ => rfl) rfl Nat.zero_lt_one hg_14 dX12_memory_68 (fun H locs hP hS => ?_)
    rw [eM_15] at hP
    obtain ⟨x4_16, ex4_16, hf⟩ := g_letE hf
    refine lv_iinc (v := x4_16) (lv' := [(4, .int x4_16), (0, .ref (G.2.1 39 0)), (1, .int x1), (3, .int x3)]) hx hb dX12_memory_69 hl (k := 3) rfl (by rw [← ex4_16]; rfl) (by decide) rfl (fun ls hl => ?_)
    refine lv_goto (tgt := 46) hx hb dX12_memory_72 (by decide) ?_
    exact hk46 x1 x3 x4_16 M_15 hf hP hS (lv_sub hl [1, 2, 3, 0] rfl)
def wl_X12_memory_46 (n : Nat) (x1 : Int32) (x3 : Int32) (x4 : Int32) (M : SM) : Option (Int32 × SM) := g_loop (α := Int32 × Int32 × Int32 × SM) (fun k a => wb_X12_memory_46 (fun x1 x3 x4 M => k (x1, x3, x4, M)) a.1 a.2.1 a.2.2.1 a.2.2.2) n (x1, x3, x4, M)
set_option maxRecDepth 100000 in
set_option maxHeartbeats 4000000 in
theorem lp_X12_memory_46 {p : Program} {l : Launch} {e : Env} {s : State} {m : MethodId} {args : Array Value} {below : List Frame} {meth : Method} {c : Code} {G : GP} {X : SM} {τ : SL} (C0 : g_mc p s m args meth c RX12 cX12_memory (some .int) 5 G) {r0 : Int32} {M0 : SM} (n : Nat) : ∀ (x1 : Int32) (x3 : Int32) (x4 : Int32) (M : SM), wl_X12_memory_46 n x1 x3 x4 M = some (r0, M0) → ∀ {H : Heap} {locs : List Loc}, va_P G.1 g_cl (wd G (cb X M) τ) H → va_S (g_A G) s.heap H locs → ∀ {ls : Array Slot}, lv_has ls 5 [(0, .ref (G.2.1 39 0)), (1, .int x1), (3, .int x3), (4, .int x4)] → W p l e rm_X12_memory s m args below meth c H locs 0 0 (MQ below (va_Qi (fun r u => r = r0 ∧ u = (X, M0, τ)) (g_pw G) (g_A G)) args s 0 0 (g_A G)) (F0 m 46 ls []) := by
  induction n with
  | zero =>
    intro x1 x3 x4 M hf
    have hf : (none : Option (Int32 × SM)) = _ := hf
    cases hf
  | succ n ih =>
    intro x1 x3 x4 M hf H locs hP hS ls hl
    exact bk_X12_memory_46 C0   (fun x1 x3 x4 M => wl_X12_memory_46   n x1 x3 x4 M) ih x1 x3 x4 M hf hP hS hl
def fn_X12_memory (x1 : Int32) (x2 : Int32) (M : SM) : Option (Int32 × SM) :=
  g_let (u1 M 39 0 15 0) fun M_1 =>
  (fn_X12_isThread x1).bind fun r_2 =>
  if r_2 = 0 then
  (some ((-2), M_1))
  else
  (if x2 ≤ 16 then
    (if g_in x1 6 then
      g_let ((M_1 44 0 (x1.toNatClampNeg))) fun x3_7 =>
      if 0 ≤ x2 then
      (if g_in x1 6 then
        g_let (u1 M_1 44 0 (x1.toNatClampNeg) x2) fun M_10 =>
        wl_X12_memory_46 1000 x1 x3_7 0 M_10
        else none)
      else
      (if g_in x1 6 then
        g_let (u1 M_1 44 0 (x1.toNatClampNeg) (-1)) fun M_12 =>
        wl_X12_memory_46 1000 x1 x3_7 0 M_12
        else none)
      else none)
    else
    (some ((-2), M_1)))
set_option maxRecDepth 100000 in
set_option maxHeartbeats 4000000 in
theorem wk_X12_memory {p : Program} {l : Launch} {e : Env} {s : State} {m : MethodId} {args : Array Value} {below : List Frame} {meth : Method} {c : Code} {G : GP} {X : SM} {τ : SL} (C0 : g_mc p s m args meth c RX12 cX12_memory (some .int) 5 G) {r0 : Int32} {M0 : SM} (x1 : Int32) (x2 : Int32) (M : SM) (hf : fn_X12_memory x1 x2 M = some (r0, M0)) {H : Heap} {locs : List Loc} (hP : va_P G.1 g_cl (wd G (cb X M) τ) H) (hS : va_S (g_A G) s.heap H locs) {ls : Array Slot} (hl : lv_has ls 5 [(0, .ref (G.2.1 39 0)), (1, .int x1), (2, .int x2)]) : W p l e rm_X12_memory s m args below meth c H locs 0 0 (MQ below (va_Qi (fun r u => r = r0 ∧ u = (X, M0, τ)) (g_pw G) (g_A G)) args s 0 0 (g_A G)) (F0 m 0 ls []) := by
  obtain ⟨hx, hb, hr, hml, hown, hts, hlocks, hC⟩ := id C0
  unfold fn_X12_memory at hf
  refine lv_aload_n hx hb dX12_memory_0 rfl (lv_at hl 0 rfl) ?_
  refine lv_iconst (v := 0) hx hb dX12_memory_1 (by decide) ?_
  obtain ⟨M_1, eM_1, hf⟩ := g_letE hf
  refine pt_39_15 hx hb hts hown hC hP hS Nat.zero_lt_one q8_18 dX12_memory_2 (fun H locs hP hS => ?_)
  rw [eM_1] at hP
  refine lv_iload_n hx hb dX12_memory_5 rfl (lv_at hl 1 rfl) ?_
  obtain ⟨r_2, hc_3, hf⟩ := g_bindE hf
  refine x_calli (v := (X, M_1, τ)) (va_runS (As := [.int x1]) (rest := []) ⟨hx, hb, hml, hown, hts⟩ (ct_X12_isThread l G X M_1 τ x1 hc_3) (cwS 1 hts gd_X12_80 rfl rfl rfl hd_X12_isThread ⟨Nat.le_of_ble_eq_true rfl, Nat.le_of_ble_eq_true rfl⟩) (x_pre (u := (X, M_1, τ)) hC hS hP) rfl rfl hl.1 rfl (lv_room (Nat.le_of_ble_eq_true rfl)) dX12_memory_6 ⟨Nat.zero_le _, Nat.zero_le _⟩) hS (fun H locs hP hS => ?_)
  refine lv_if_eq (tgt := 18) hx hb dX12_memory_9 (by decide) (fun hc_4 => ?_) (fun hc_4 => ?_)
  · have hf := g_pos hf hc_4
    refine lv_bipush (v := (-2)) hx hb dX12_memory_18 (by decide) ?_
    cases hf
    exact x_iret hx hb hlocks hC hP hS hr dX12_memory_20
  · have hf := g_neg hf hc_4
    refine lv_iload_n hx hb dX12_memory_12 rfl (lv_at hl 2 rfl) ?_
    refine lv_bipush (v := 16) hx hb dX12_memory_13 (by decide) ?_
    refine lv_icmp_le (tgt := 21) hx hb dX12_memory_15 (by decide) (fun hc_5 => ?_) (fun hc_5 => ?_)
    · have hf := g_pos hf hc_5
      refine lv_aload_n hx hb dX12_memory_21 rfl (lv_at hl 0 rfl) ?_
      refine gt_39_4 hx hb hts hown hC hP Nat.zero_lt_one q6_21 dX12_memory_22 ?_
      refine lv_iload_n hx hb dX12_memory_25 rfl (lv_at hl 1 rfl) ?_
      obtain ⟨hg_6, hf⟩ := g_gd hf
      refine xildM (k := 44) (n := 6) hx hb hC hP (fun _ _ => rfl) rfl Nat.zero_lt_one hg_6 dX12_memory_26 ?_
      obtain ⟨x3_7, ex3_7, hf⟩ := g_letE hf
      refine lv_topE ex3_7 ?_
      refine lv_istore_n (lv' := [(3, .int x3_7), (0, .ref (G.2.1 39 0)), (1, .int x1), (2, .int x2)]) hx hb dX12_memory_27 rfl hl (by decide) rfl (fun ls hl => ?_)
      refine lv_aload_n hx hb dX12_memory_28 rfl (lv_at hl 1 rfl) ?_
      refine gt_39_4 hx hb hts hown hC hP Nat.zero_lt_one q6_21 dX12_memory_29 ?_
      refine lv_iload_n hx hb dX12_memory_32 rfl (lv_at hl 2 rfl) ?_
      refine lv_iload_n hx hb dX12_memory_33 rfl (lv_at hl 3 rfl) ?_
      refine lv_if_ge (tgt := 41) hx hb dX12_memory_34 (by decide) (fun hc_8 => ?_) (fun hc_8 => ?_)
      · have hf := g_pos hf hc_8
        refine lv_iload_n hx hb dX12_memory_41 rfl (lv_at hl 3 rfl) ?_
        obtain ⟨hg_9, hf⟩ := g_gd hf
        obtain ⟨M_10, eM_10, hf⟩ := g_letE hf
        refine xistM (k := 44) (n := 6) hx hb hC hP hS (fun _ _ => rfl) rfl Nat.zero_lt_one hg_9 dX12_memory_42 (fun H locs hP hS => ?_)
        rw [eM_10] at hP
        refine lv_iconst (v := 0) hx hb dX12_memory_43 (by decide) ?_
        refine lv_istore (lv' := [(4, .int 0), (3, .int x3_7), (0, .ref (G.2.1 39 0)), (1, .int x1), (2, .int x2)]) hx hb dX12_memory_44 hl (by decide) rfl (fun ls hl => ?_)
        exact lp_X12_memory_46 C0 1000 x1 x3_7 0 M_10 hf hP hS (lv_sub hl [2, 3, 1, 0] rfl)
      · have hf := g_neg hf hc_8
        refine lv_iconst (v := (-1)) hx hb dX12_memory_37 (by decide) ?_
        refine lv_goto (tgt := 42) hx hb dX12_memory_38 (by decide) ?_
        obtain ⟨hg_11, hf⟩ := g_gd hf
        obtain ⟨M_12, eM_12, hf⟩ := g_letE hf
        refine xistM (k := 44) (n := 6) hx hb hC hP hS (fun _ _ => rfl) rfl Nat.zero_lt_one hg_11 dX12_memory_42 (fun H locs hP hS => ?_)
        rw [eM_12] at hP
        refine lv_iconst (v := 0) hx hb dX12_memory_43 (by decide) ?_
        refine lv_istore (lv' := [(4, .int 0), (3, .int x3_7), (0, .ref (G.2.1 39 0)), (1, .int x1), (2, .int x2)]) hx hb dX12_memory_44 hl (by decide) rfl (fun ls hl => ?_)
        exact lp_X12_memory_46 C0 1000 x1 x3_7 0 M_12 hf hP hS (lv_sub hl [2, 3, 1, 0] rfl)
    · have hf := g_neg hf hc_5
      refine lv_bipush (v := (-2)) hx hb dX12_memory_18 (by decide) ?_
      cases hf
      exact x_iret hx hb hlocks hC hP hS hr dX12_memory_20
set_option maxRecDepth 100000 in
set_option maxHeartbeats 4000000 in
theorem ct_X12_memory (l : Launch) (G : GP) (X M : SM) (τ : SL) (x1 : Int32) (x2 : Int32) {r0 : Int32} {M0 : SM} (hf : fn_X12_memory x1 x2 M = some (r0, M0)) : Met l yX12_memory (wz yX12_memory cX12_memory 5 (some .int)) rm_X12_memory (va_Pc [.ref (G.2.1 39 0), .int x1, .int x2] (g_pw G (X, M, τ))) (va_Qi (fun r u => r = r0 ∧ u = (X, M0, τ)) (g_pw G) (g_A G)) 0 0 (g_A G) := by
  refine Met.ofW (cc := cX12_memory) (maxL := 5) (ret := (some .int)) (by decide +kernel) rfl ?_
  intro p e s m args below meth c s₁ B hml hv
  obtain ⟨rfl, hC, hP⟩ := hv
  have C0 : g_mc p s m _ meth c RX12 cX12_memory (some .int) 5 G := ⟨B.exec, B.bytes, B.returns, hml, findClass_of_methodNamed B.named, fun w h => atoms_spec (ws := wz yX12_memory cX12_memory 5 (some .int)) B.pre w (List.mem_cons_of_mem _ h), B.notSynchronized, hC⟩
  have hl := lv_entry ([.ref (G.2.1 39 0), .int x1, .int x2]) (n := 5) (Nat.le_of_ble_eq_true rfl)
  rw [lg_entry_eq]
  generalize (lg_sl ([.ref (G.2.1 39 0), .int x1, .int x2]) ++ List.replicate (5 - (lg_sl ([.ref (G.2.1 39 0), .int x1, .int x2])).length) Slot.unset).toArray = ls at hl ⊢
  exact wk_X12_memory C0  x1 x2 M hf hP va_S.rf hl
abbrev rm_X12_pin : Room := { frames := 1, cells := 0, slots := 0, locals := 22 }
def wb_X12_pin_44 (k44 : Int32 → Int32 → Int32 → SM → Option (Int32 × SM)) (x1 : Int32) (x3 : Int32) (x4 : Int32) (M : SM) : Option (Int32 × SM) :=
  if (((x1 / 4) * 4) + 4) ≤ x4 then
  (if g_in x1 8 then
    g_let (u1 M 46 0 (x1.toNatClampNeg) x3) fun M_12 =>
    some (1, M_12)
    else none)
  else
  (if g_in x4 8 then
    if (M 46 0 (x4.toNatClampNeg)) = (1 - x3) then
    (some (0, M))
    else
    (g_let (x4 + 1) fun x4_15 =>
      k44 x1 x3 x4_15 M)
    else none)
set_option maxRecDepth 100000 in
set_option maxHeartbeats 4000000 in
theorem bk_X12_pin_44 {p : Program} {l : Launch} {e : Env} {s : State} {m : MethodId} {args : Array Value} {below : List Frame} {meth : Method} {c : Code} {G : GP} {X : SM} {τ : SL} (C0 : g_mc p s m args meth c RX12 cX12_pin (some .boolean) 5 G) {r0 : Int32} {M0 : SM} (k44 : Int32 → Int32 → Int32 → SM → Option (Int32 × SM)) (hk44 : ∀ (x1 : Int32) (x3 : Int32) (x4 : Int32) (M : SM), k44 x1 x3 x4 M = some (r0, M0) → ∀ {H : Heap} {locs : List Loc}, va_P G.1 g_cl (wd G (cb X M) τ) H → va_S (g_A G) s.heap H locs → ∀ {ls : Array Slot}, lv_has ls 5 [(0, .ref (G.2.1 39 0)), (1, .int x1), (3, .int x3), (4, .int x4)] → W p l e rm_X12_pin s m args below meth c H locs 0 0 (MQ below (va_Qi (fun r u => r = r0 ∧ u = (X, M0, τ)) (g_pw G) (g_A G)) args s 0 0 (g_A G)) (F0 m 44 ls [])) (x1 : Int32) (x3 : Int32) (x4 : Int32) (M : SM) (hf : wb_X12_pin_44 k44 x1 x3 x4 M = some (r0, M0)) {H : Heap} {locs : List Loc} (hP : va_P G.1 g_cl (wd G (cb X M) τ) H) (hS : va_S (g_A G) s.heap H locs) {ls : Array Slot} (hl : lv_has ls 5 [(0, .ref (G.2.1 39 0)), (1, .int x1), (3, .int x3), (4, .int x4)]) : W p l e rm_X12_pin s m args below meth c H locs 0 0 (MQ below (va_Qi (fun r u => r = r0 ∧ u = (X, M0, τ)) (g_pw G) (g_A G)) args s 0 0 (g_A G)) (F0 m 44 ls []) := by
  obtain ⟨hx, hb, hr, hml, hown, hts, hlocks, hC⟩ := id C0
  unfold wb_X12_pin_44 at hf
  refine lv_iload hx hb dX12_pin_44 (lv_at hl 3 rfl) ?_
  refine lv_iload_n hx hb dX12_pin_46 rfl (lv_at hl 1 rfl) ?_
  refine lv_iconst (v := 4) hx hb dX12_pin_47 (by decide) ?_
  refine lv_idiv hx hb dX12_pin_48 (by decide) ?_
  refine lv_iconst (v := 4) hx hb dX12_pin_49 (by decide) ?_
  refine lv_imul hx hb dX12_pin_50 ?_
  refine lv_iconst (v := 4) hx hb dX12_pin_51 (by decide) ?_
  refine lv_iadd hx hb dX12_pin_52 ?_
  refine lv_icmp_ge (tgt := 77) hx hb dX12_pin_53 (by decide) (fun hc_10 => ?_) (fun hc_10 => ?_)
  · have hf := g_pos hf hc_10
    refine lv_aload_n hx hb dX12_pin_77 rfl (lv_at hl 0 rfl) ?_
    refine gt_39_6 hx hb hts hown hC hP Nat.zero_lt_one q7_0 dX12_pin_78 ?_
    refine lv_iload_n hx hb dX12_pin_81 rfl (lv_at hl 1 rfl) ?_
    refine lv_iload_n hx hb dX12_pin_82 rfl (lv_at hl 2 rfl) ?_
    obtain ⟨hg_11, hf⟩ := g_gd hf
    obtain ⟨M_12, eM_12, hf⟩ := g_letE hf
    refine xistM (k := 46) (n := 8) hx hb hC hP hS (fun _ _ => rfl) rfl Nat.zero_lt_one hg_11 dX12_pin_83 (fun H locs hP hS => ?_)
    rw [eM_12] at hP
    refine lv_iconst (v := 1) hx hb dX12_pin_84 (by decide) ?_
    cases hf
    exact x_zret hx hb hlocks hC hP hS hr (Or.inr rfl) dX12_pin_85
  · have hf := g_neg hf hc_10
    refine lv_aload_n hx hb dX12_pin_56 rfl (lv_at hl 0 rfl) ?_
    refine gt_39_6 hx hb hts hown hC hP Nat.zero_lt_one q7_0 dX12_pin_57 ?_
    refine lv_iload hx hb dX12_pin_60 (lv_at hl 3 rfl) ?_
    obtain ⟨hg_13, hf⟩ := g_gd hf
    refine xildM (k := 46) (n := 8) hx hb hC hP (fun _ _ => rfl) rfl Nat.zero_lt_one hg_13 dX12_pin_62 ?_
    refine lv_iconst (v := 1) hx hb dX12_pin_63 (by decide) ?_
    refine lv_iload_n hx hb dX12_pin_64 rfl (lv_at hl 2 rfl) ?_
    refine lv_isub hx hb dX12_pin_65 ?_
    refine lv_icmp_ne (tgt := 71) hx hb dX12_pin_66 (by decide) (fun hc_14 => ?_) (fun hc_14 => ?_)
    · have hf := g_neg hf hc_14
      obtain ⟨x4_15, ex4_15, hf⟩ := g_letE hf
      refine lv_iinc (v := x4_15) (lv' := [(4, .int x4_15), (0, .ref (G.2.1 39 0)), (1, .int x1), (3, .int x3)]) hx hb dX12_pin_71 hl (k := 3) rfl (by rw [← ex4_15]; rfl) (by decide) rfl (fun ls hl => ?_)
      refine lv_goto (tgt := 44) hx hb dX12_pin_74 (by decide) ?_
      exact hk44 x1 x3 x4_15 M hf hP hS (lv_sub hl [1, 2, 3, 0] rfl)
    · have hf := g_pos hf hc_14
      refine lv_iconst (v := 0) hx hb dX12_pin_69 (by decide) ?_
      cases hf
      exact x_zret hx hb hlocks hC hP hS hr (Or.inl rfl) dX12_pin_70
def wl_X12_pin_44 (n : Nat) (x1 : Int32) (x3 : Int32) (x4 : Int32) (M : SM) : Option (Int32 × SM) := g_loop (α := Int32 × Int32 × Int32 × SM) (fun k a => wb_X12_pin_44 (fun x1 x3 x4 M => k (x1, x3, x4, M)) a.1 a.2.1 a.2.2.1 a.2.2.2) n (x1, x3, x4, M)
set_option maxRecDepth 100000 in
set_option maxHeartbeats 4000000 in
theorem lp_X12_pin_44 {p : Program} {l : Launch} {e : Env} {s : State} {m : MethodId} {args : Array Value} {below : List Frame} {meth : Method} {c : Code} {G : GP} {X : SM} {τ : SL} (C0 : g_mc p s m args meth c RX12 cX12_pin (some .boolean) 5 G) {r0 : Int32} {M0 : SM} (n : Nat) : ∀ (x1 : Int32) (x3 : Int32) (x4 : Int32) (M : SM), wl_X12_pin_44 n x1 x3 x4 M = some (r0, M0) → ∀ {H : Heap} {locs : List Loc}, va_P G.1 g_cl (wd G (cb X M) τ) H → va_S (g_A G) s.heap H locs → ∀ {ls : Array Slot}, lv_has ls 5 [(0, .ref (G.2.1 39 0)), (1, .int x1), (3, .int x3), (4, .int x4)] → W p l e rm_X12_pin s m args below meth c H locs 0 0 (MQ below (va_Qi (fun r u => r = r0 ∧ u = (X, M0, τ)) (g_pw G) (g_A G)) args s 0 0 (g_A G)) (F0 m 44 ls []) := by
  induction n with
  | zero =>
    intro x1 x3 x4 M hf
    have hf : (none : Option (Int32 × SM)) = _ := hf
    cases hf
  | succ n ih =>
    intro x1 x3 x4 M hf H locs hP hS ls hl
    exact bk_X12_pin_44 C0   (fun x1 x3 x4 M => wl_X12_pin_44   n x1 x3 x4 M) ih x1 x3 x4 M hf hP hS hl
def fn_X12_pin (x1 : Int32) (x2 : Int32) (M : SM) : Option (Int32 × SM) :=
  g_let (u1 M 39 0 15 0) fun M_1 =>
  g_let (fn_X12_within x1 0 7) fun r_2 =>
  if r_2 = 0 then
  (some (0, M_1))
  else
  (if g_in x1 8 then
    if (M_1 46 0 (x1.toNatClampNeg)) = 2 then
    (if x2 = 0 then
      (g_let (((x1 / 4) * 4)) fun x4_8 =>
        wl_X12_pin_44 1000 x1 0 x4_8 M_1)
      else
      (g_let (((x1 / 4) * 4)) fun x4_9 =>
        wl_X12_pin_44 1000 x1 1 x4_9 M_1))
    else
    (some (0, M_1))
    else none)
set_option maxRecDepth 100000 in
set_option maxHeartbeats 4000000 in
theorem wk_X12_pin {p : Program} {l : Launch} {e : Env} {s : State} {m : MethodId} {args : Array Value} {below : List Frame} {meth : Method} {c : Code} {G : GP} {X : SM} {τ : SL} (C0 : g_mc p s m args meth c RX12 cX12_pin (some .boolean) 5 G) {r0 : Int32} {M0 : SM} (x1 : Int32) (x2 : Int32) (M : SM) (hf : fn_X12_pin x1 x2 M = some (r0, M0)) {H : Heap} {locs : List Loc} (hP : va_P G.1 g_cl (wd G (cb X M) τ) H) (hS : va_S (g_A G) s.heap H locs) {ls : Array Slot} (hl : lv_has ls 5 [(0, .ref (G.2.1 39 0)), (1, .int x1), (2, .int x2)]) : W p l e rm_X12_pin s m args below meth c H locs 0 0 (MQ below (va_Qi (fun r u => r = r0 ∧ u = (X, M0, τ)) (g_pw G) (g_A G)) args s 0 0 (g_A G)) (F0 m 0 ls []) := by
  obtain ⟨hx, hb, hr, hml, hown, hts, hlocks, hC⟩ := id C0
  unfold fn_X12_pin at hf
  refine lv_aload_n hx hb dX12_pin_0 rfl (lv_at hl 0 rfl) ?_
  refine lv_iconst (v := 0) hx hb dX12_pin_1 (by decide) ?_
  obtain ⟨M_1, eM_1, hf⟩ := g_letE hf
  refine pt_39_15 hx hb hts hown hC hP hS Nat.zero_lt_one q8_18 dX12_pin_2 (fun H locs hP hS => ?_)
  rw [eM_1] at hP
  refine lv_iload_n hx hb dX12_pin_5 rfl (lv_at hl 1 rfl) ?_
  refine lv_iconst (v := 0) hx hb dX12_pin_6 (by decide) ?_
  refine lv_bipush (v := 7) hx hb dX12_pin_7 (by decide) ?_
  obtain ⟨r_2, hc_3, hf⟩ := g_letE hf
  refine x_calli (v := (X, M_1, τ)) (va_runS (As := [.int x1, .int 0, .int 7]) (rest := []) ⟨hx, hb, hml, hown, hts⟩ (ct_X12_within l G X M_1 τ x1 0 7 hc_3) (cwS 3 hts gd_X12_76 rfl rfl rfl hd_X12_within ⟨Nat.le_of_ble_eq_true rfl, Nat.le_of_ble_eq_true rfl⟩) (x_pre (u := (X, M_1, τ)) hC hS hP) rfl rfl hl.1 rfl (lv_room (Nat.le_of_ble_eq_true rfl)) dX12_pin_9 ⟨Nat.zero_le _, Nat.zero_le _⟩) hS (fun H locs hP hS => ?_)
  refine lv_if_eq (tgt := 25) hx hb dX12_pin_12 (by decide) (fun hc_4 => ?_) (fun hc_4 => ?_)
  · have hf := g_pos hf hc_4
    refine lv_iconst (v := 0) hx hb dX12_pin_25 (by decide) ?_
    cases hf
    exact x_zret hx hb hlocks hC hP hS hr (Or.inl rfl) dX12_pin_26
  · have hf := g_neg hf hc_4
    refine lv_aload_n hx hb dX12_pin_15 rfl (lv_at hl 0 rfl) ?_
    refine gt_39_6 hx hb hts hown hC hP Nat.zero_lt_one q7_0 dX12_pin_16 ?_
    refine lv_iload_n hx hb dX12_pin_19 rfl (lv_at hl 1 rfl) ?_
    obtain ⟨hg_5, hf⟩ := g_gd hf
    refine xildM (k := 46) (n := 8) hx hb hC hP (fun _ _ => rfl) rfl Nat.zero_lt_one hg_5 dX12_pin_20 ?_
    refine lv_iconst (v := 2) hx hb dX12_pin_21 (by decide) ?_
    refine lv_icmp_eq (tgt := 27) hx hb dX12_pin_22 (by decide) (fun hc_6 => ?_) (fun hc_6 => ?_)
    · have hf := g_pos hf hc_6
      refine lv_iload_n hx hb dX12_pin_27 rfl (lv_at hl 2 rfl) ?_
      refine lv_if_eq (tgt := 35) hx hb dX12_pin_28 (by decide) (fun hc_7 => ?_) (fun hc_7 => ?_)
      · have hf := g_pos hf hc_7
        refine lv_iconst (v := 0) hx hb dX12_pin_35 (by decide) ?_
        refine lv_istore_n (lv' := [(3, .int 0), (0, .ref (G.2.1 39 0)), (1, .int x1), (2, .int x2)]) hx hb dX12_pin_36 rfl hl (by decide) rfl (fun ls hl => ?_)
        refine lv_iload_n hx hb dX12_pin_37 rfl (lv_at hl 2 rfl) ?_
        refine lv_iconst (v := 4) hx hb dX12_pin_38 (by decide) ?_
        refine lv_idiv hx hb dX12_pin_39 (by decide) ?_
        refine lv_iconst (v := 4) hx hb dX12_pin_40 (by decide) ?_
        refine lv_imul hx hb dX12_pin_41 ?_
        obtain ⟨x4_8, ex4_8, hf⟩ := g_letE hf
        refine lv_topE ex4_8 ?_
        refine lv_istore (lv' := [(4, .int x4_8), (3, .int 0), (0, .ref (G.2.1 39 0)), (1, .int x1), (2, .int x2)]) hx hb dX12_pin_42 hl (by decide) rfl (fun ls hl => ?_)
        exact lp_X12_pin_44 C0 1000 x1 0 x4_8 M_1 hf hP hS (lv_sub hl [2, 3, 1, 0] rfl)
      · have hf := g_neg hf hc_7
        refine lv_iconst (v := 1) hx hb dX12_pin_31 (by decide) ?_
        refine lv_goto (tgt := 36) hx hb dX12_pin_32 (by decide) ?_
        refine lv_istore_n (lv' := [(3, .int 1), (0, .ref (G.2.1 39 0)), (1, .int x1), (2, .int x2)]) hx hb dX12_pin_36 rfl hl (by decide) rfl (fun ls hl => ?_)
        refine lv_iload_n hx hb dX12_pin_37 rfl (lv_at hl 2 rfl) ?_
        refine lv_iconst (v := 4) hx hb dX12_pin_38 (by decide) ?_
        refine lv_idiv hx hb dX12_pin_39 (by decide) ?_
        refine lv_iconst (v := 4) hx hb dX12_pin_40 (by decide) ?_
        refine lv_imul hx hb dX12_pin_41 ?_
        obtain ⟨x4_9, ex4_9, hf⟩ := g_letE hf
        refine lv_topE ex4_9 ?_
        refine lv_istore (lv' := [(4, .int x4_9), (3, .int 1), (0, .ref (G.2.1 39 0)), (1, .int x1), (2, .int x2)]) hx hb dX12_pin_42 hl (by decide) rfl (fun ls hl => ?_)
        exact lp_X12_pin_44 C0 1000 x1 1 x4_9 M_1 hf hP hS (lv_sub hl [2, 3, 1, 0] rfl)
    · have hf := g_neg hf hc_6
      refine lv_iconst (v := 0) hx hb dX12_pin_25 (by decide) ?_
      cases hf
      exact x_zret hx hb hlocks hC hP hS hr (Or.inl rfl) dX12_pin_26
set_option maxRecDepth 100000 in
set_option maxHeartbeats 4000000 in
theorem ct_X12_pin (l : Launch) (G : GP) (X M : SM) (τ : SL) (x1 : Int32) (x2 : Int32) {r0 : Int32} {M0 : SM} (hf : fn_X12_pin x1 x2 M = some (r0, M0)) : Met l yX12_pin (wz yX12_pin cX12_pin 5 (some .boolean)) rm_X12_pin (va_Pc [.ref (G.2.1 39 0), .int x1, .int x2] (g_pw G (X, M, τ))) (va_Qi (fun r u => r = r0 ∧ u = (X, M0, τ)) (g_pw G) (g_A G)) 0 0 (g_A G) := by
  refine Met.ofW (cc := cX12_pin) (maxL := 5) (ret := (some .boolean)) (by decide +kernel) rfl ?_
  intro p e s m args below meth c s₁ B hml hv
  obtain ⟨rfl, hC, hP⟩ := hv
  have C0 : g_mc p s m _ meth c RX12 cX12_pin (some .boolean) 5 G := ⟨B.exec, B.bytes, B.returns, hml, findClass_of_methodNamed B.named, fun w h => atoms_spec (ws := wz yX12_pin cX12_pin 5 (some .boolean)) B.pre w (List.mem_cons_of_mem _ h), B.notSynchronized, hC⟩
  have hl := lv_entry ([.ref (G.2.1 39 0), .int x1, .int x2]) (n := 5) (Nat.le_of_ble_eq_true rfl)
  rw [lg_entry_eq]
  generalize (lg_sl ([.ref (G.2.1 39 0), .int x1, .int x2]) ++ List.replicate (5 - (lg_sl ([.ref (G.2.1 39 0), .int x1, .int x2])).length) Slot.unset).toArray = ls at hl ⊢
  exact wk_X12_pin C0  x1 x2 M hf hP va_S.rf hl
abbrev rm_X12_register : Room := { frames := 2, cells := 0, slots := 0, locals := 42 }
def fn_X12_register (x1 : Int32) (x2 : Int32) (M : SM) : Option (Int32 × SM) :=
  (fn_X12_isThread x1).bind fun r_1 =>
  if r_1 = 0 then
  (g_let (fn_X12_throwing 0 M) fun (r_4, M_5) =>
    if r_4 = 0 then
    ((fn_X12_reg x1 x2 M_5).bind fun r_8 =>
      some (r_8, M_5))
    else
    (some (0, M_5)))
  else
  (g_let (fn_X12_within x2 0 7) fun r_10 =>
    if r_10 = 0 then
    (g_let (fn_X12_throwing 0 M) fun (r_13, M_14) =>
      if r_13 = 0 then
      ((fn_X12_reg x1 x2 M_14).bind fun r_17 =>
        some (r_17, M_14))
      else
      (some (0, M_14)))
    else
    (g_let (fn_X12_throwing 1 M) fun (r_19, M_20) =>
      if r_19 = 0 then
      ((fn_X12_reg x1 x2 M_20).bind fun r_23 =>
        some (r_23, M_20))
      else
      (some (0, M_20))))
set_option maxRecDepth 100000 in
set_option maxHeartbeats 4000000 in
theorem wk_X12_register {p : Program} {l : Launch} {e : Env} {s : State} {m : MethodId} {args : Array Value} {below : List Frame} {meth : Method} {c : Code} {G : GP} {X : SM} {τ : SL} (C0 : g_mc p s m args meth c RX12 cX12_register (some .int) 3 G) {r0 : Int32} {M0 : SM} (x1 : Int32) (x2 : Int32) (M : SM) (hf : fn_X12_register x1 x2 M = some (r0, M0)) {H : Heap} {locs : List Loc} (hP : va_P G.1 g_cl (wd G (cb X M) τ) H) (hS : va_S (g_A G) s.heap H locs) {ls : Array Slot} (hl : lv_has ls 3 [(0, .ref (G.2.1 39 0)), (1, .int x1), (2, .int x2)]) : W p l e rm_X12_register s m args below meth c H locs 0 0 (MQ below (va_Qi (fun r u => r = r0 ∧ u = (X, M0, τ)) (g_pw G) (g_A G)) args s 0 0 (g_A G)) (F0 m 0 ls []) := by
  obtain ⟨hx, hb, hr, hml, hown, hts, hlocks, hC⟩ := id C0
  unfold fn_X12_register at hf
  refine lv_aload_n hx hb dX12_register_0 rfl (lv_at hl 0 rfl) ?_
  refine lv_iload_n hx hb dX12_register_1 rfl (lv_at hl 1 rfl) ?_
  obtain ⟨r_1, hc_2, hf⟩ := g_bindE hf
  refine x_calli (v := (X, M, τ)) (va_runS (As := [.int x1]) (rest := [.ref (G.2.1 39 0)]) ⟨hx, hb, hml, hown, hts⟩ (ct_X12_isThread l G X M τ x1 hc_2) (cwS 1 hts gd_X12_80 rfl rfl rfl hd_X12_isThread ⟨Nat.le_of_ble_eq_true rfl, Nat.le_of_ble_eq_true rfl⟩) (x_pre (u := (X, M, τ)) hC hS hP) rfl rfl hl.1 rfl (lv_room (Nat.le_of_ble_eq_true rfl)) dX12_register_2 ⟨Nat.zero_le _, Nat.zero_le _⟩) hS (fun H locs hP hS => ?_)
  refine lv_if_eq (tgt := 22) hx hb dX12_register_5 (by decide) (fun hc_3 => ?_) (fun hc_3 => ?_)
  · have hf := g_pos hf hc_3
    refine lv_iconst (v := 0) hx hb dX12_register_22 (by decide) ?_
    obtain ⟨⟨r_4, M_5⟩, hc_6, hf⟩ := g_letE hf
    refine x_calli (v := (X, M_5, τ)) (va_runV (As := [.int 0]) (rest := []) ⟨hx, hb, hml, hown, hts⟩ (ct_X12_throwing l G X M τ 0 hc_6) (cwV 1 hts gd_X12_175 rfl rfl rfl hd_X12_throwing ⟨Nat.le_of_ble_eq_true rfl, Nat.le_of_ble_eq_true rfl⟩) (x_preV (u := (X, M, τ)) (k := 39) (ci := 12) hC hS hP Nat.zero_lt_one rfl rfl) rfl rfl hl.1 rfl (lv_room (Nat.le_of_ble_eq_true rfl)) dX12_register_23 ⟨Nat.zero_le _, Nat.zero_le _⟩) hS (fun H locs hP hS => ?_)
    refine lv_if_eq (tgt := 33) hx hb dX12_register_26 (by decide) (fun hc_7 => ?_) (fun hc_7 => ?_)
    · have hf := g_pos hf hc_7
      refine lv_aload_n hx hb dX12_register_33 rfl (lv_at hl 0 rfl) ?_
      refine lv_iload_n hx hb dX12_register_34 rfl (lv_at hl 1 rfl) ?_
      refine lv_iload_n hx hb dX12_register_35 rfl (lv_at hl 2 rfl) ?_
      obtain ⟨r_8, hc_9, hf⟩ := g_bindE hf
      refine x_calli (v := (X, M_5, τ)) (va_runV (As := [.int x1, .int x2]) (rest := []) ⟨hx, hb, hml, hown, hts⟩ (ct_X12_reg l G X M_5 τ x1 x2 hc_9) (cwV 2 hts gd_X12_139 rfl rfl rfl hd_X12_reg ⟨Nat.le_of_ble_eq_true rfl, Nat.le_of_ble_eq_true rfl⟩) (x_preV (u := (X, M_5, τ)) (k := 39) (ci := 12) hC hS hP Nat.zero_lt_one rfl rfl) rfl rfl hl.1 rfl (lv_room (Nat.le_of_ble_eq_true rfl)) dX12_register_36 ⟨Nat.zero_le _, Nat.zero_le _⟩) hS (fun H locs hP hS => ?_)
      cases hf
      exact x_iret hx hb hlocks hC hP hS hr dX12_register_39
    · have hf := g_neg hf hc_7
      refine lv_iconst (v := 0) hx hb dX12_register_29 (by decide) ?_
      refine lv_goto (tgt := 39) hx hb dX12_register_30 (by decide) ?_
      cases hf
      exact x_iret hx hb hlocks hC hP hS hr dX12_register_39
  · have hf := g_neg hf hc_3
    refine lv_iload_n hx hb dX12_register_8 rfl (lv_at hl 2 rfl) ?_
    refine lv_iconst (v := 0) hx hb dX12_register_9 (by decide) ?_
    refine lv_bipush (v := 7) hx hb dX12_register_10 (by decide) ?_
    obtain ⟨r_10, hc_11, hf⟩ := g_letE hf
    refine x_calli (v := (X, M, τ)) (va_runS (As := [.int x2, .int 0, .int 7]) (rest := [.ref (G.2.1 39 0)]) ⟨hx, hb, hml, hown, hts⟩ (ct_X12_within l G X M τ x2 0 7 hc_11) (cwS 3 hts gd_X12_76 rfl rfl rfl hd_X12_within ⟨Nat.le_of_ble_eq_true rfl, Nat.le_of_ble_eq_true rfl⟩) (x_pre (u := (X, M, τ)) hC hS hP) rfl rfl hl.1 rfl (lv_room (Nat.le_of_ble_eq_true rfl)) dX12_register_12 ⟨Nat.zero_le _, Nat.zero_le _⟩) hS (fun H locs hP hS => ?_)
    refine lv_if_eq (tgt := 22) hx hb dX12_register_15 (by decide) (fun hc_12 => ?_) (fun hc_12 => ?_)
    · have hf := g_pos hf hc_12
      refine lv_iconst (v := 0) hx hb dX12_register_22 (by decide) ?_
      obtain ⟨⟨r_13, M_14⟩, hc_15, hf⟩ := g_letE hf
      refine x_calli (v := (X, M_14, τ)) (va_runV (As := [.int 0]) (rest := []) ⟨hx, hb, hml, hown, hts⟩ (ct_X12_throwing l G X M τ 0 hc_15) (cwV 1 hts gd_X12_175 rfl rfl rfl hd_X12_throwing ⟨Nat.le_of_ble_eq_true rfl, Nat.le_of_ble_eq_true rfl⟩) (x_preV (u := (X, M, τ)) (k := 39) (ci := 12) hC hS hP Nat.zero_lt_one rfl rfl) rfl rfl hl.1 rfl (lv_room (Nat.le_of_ble_eq_true rfl)) dX12_register_23 ⟨Nat.zero_le _, Nat.zero_le _⟩) hS (fun H locs hP hS => ?_)
      refine lv_if_eq (tgt := 33) hx hb dX12_register_26 (by decide) (fun hc_16 => ?_) (fun hc_16 => ?_)
      · have hf := g_pos hf hc_16
        refine lv_aload_n hx hb dX12_register_33 rfl (lv_at hl 0 rfl) ?_
        refine lv_iload_n hx hb dX12_register_34 rfl (lv_at hl 1 rfl) ?_
        refine lv_iload_n hx hb dX12_register_35 rfl (lv_at hl 2 rfl) ?_
        obtain ⟨r_17, hc_18, hf⟩ := g_bindE hf
        refine x_calli (v := (X, M_14, τ)) (va_runV (As := [.int x1, .int x2]) (rest := []) ⟨hx, hb, hml, hown, hts⟩ (ct_X12_reg l G X M_14 τ x1 x2 hc_18) (cwV 2 hts gd_X12_139 rfl rfl rfl hd_X12_reg ⟨Nat.le_of_ble_eq_true rfl, Nat.le_of_ble_eq_true rfl⟩) (x_preV (u := (X, M_14, τ)) (k := 39) (ci := 12) hC hS hP Nat.zero_lt_one rfl rfl) rfl rfl hl.1 rfl (lv_room (Nat.le_of_ble_eq_true rfl)) dX12_register_36 ⟨Nat.zero_le _, Nat.zero_le _⟩) hS (fun H locs hP hS => ?_)
        cases hf
        exact x_iret hx hb hlocks hC hP hS hr dX12_register_39
      · have hf := g_neg hf hc_16
        refine lv_iconst (v := 0) hx hb dX12_register_29 (by decide) ?_
        refine lv_goto (tgt := 39) hx hb dX12_register_30 (by decide) ?_
        cases hf
        exact x_iret hx hb hlocks hC hP hS hr dX12_register_39
    · have hf := g_neg hf hc_12
      refine lv_iconst (v := 1) hx hb dX12_register_18 (by decide) ?_
      refine lv_goto (tgt := 23) hx hb dX12_register_19 (by decide) ?_
      obtain ⟨⟨r_19, M_20⟩, hc_21, hf⟩ := g_letE hf
      refine x_calli (v := (X, M_20, τ)) (va_runV (As := [.int 1]) (rest := []) ⟨hx, hb, hml, hown, hts⟩ (ct_X12_throwing l G X M τ 1 hc_21) (cwV 1 hts gd_X12_175 rfl rfl rfl hd_X12_throwing ⟨Nat.le_of_ble_eq_true rfl, Nat.le_of_ble_eq_true rfl⟩) (x_preV (u := (X, M, τ)) (k := 39) (ci := 12) hC hS hP Nat.zero_lt_one rfl rfl) rfl rfl hl.1 rfl (lv_room (Nat.le_of_ble_eq_true rfl)) dX12_register_23 ⟨Nat.zero_le _, Nat.zero_le _⟩) hS (fun H locs hP hS => ?_)
      refine lv_if_eq (tgt := 33) hx hb dX12_register_26 (by decide) (fun hc_22 => ?_) (fun hc_22 => ?_)
      · have hf := g_pos hf hc_22
        refine lv_aload_n hx hb dX12_register_33 rfl (lv_at hl 0 rfl) ?_
        refine lv_iload_n hx hb dX12_register_34 rfl (lv_at hl 1 rfl) ?_
        refine lv_iload_n hx hb dX12_register_35 rfl (lv_at hl 2 rfl) ?_
        obtain ⟨r_23, hc_24, hf⟩ := g_bindE hf
        refine x_calli (v := (X, M_20, τ)) (va_runV (As := [.int x1, .int x2]) (rest := []) ⟨hx, hb, hml, hown, hts⟩ (ct_X12_reg l G X M_20 τ x1 x2 hc_24) (cwV 2 hts gd_X12_139 rfl rfl rfl hd_X12_reg ⟨Nat.le_of_ble_eq_true rfl, Nat.le_of_ble_eq_true rfl⟩) (x_preV (u := (X, M_20, τ)) (k := 39) (ci := 12) hC hS hP Nat.zero_lt_one rfl rfl) rfl rfl hl.1 rfl (lv_room (Nat.le_of_ble_eq_true rfl)) dX12_register_36 ⟨Nat.zero_le _, Nat.zero_le _⟩) hS (fun H locs hP hS => ?_)
        cases hf
        exact x_iret hx hb hlocks hC hP hS hr dX12_register_39
      · have hf := g_neg hf hc_22
        refine lv_iconst (v := 0) hx hb dX12_register_29 (by decide) ?_
        refine lv_goto (tgt := 39) hx hb dX12_register_30 (by decide) ?_
        cases hf
        exact x_iret hx hb hlocks hC hP hS hr dX12_register_39
set_option maxRecDepth 100000 in
set_option maxHeartbeats 4000000 in
theorem ct_X12_register (l : Launch) (G : GP) (X M : SM) (τ : SL) (x1 : Int32) (x2 : Int32) {r0 : Int32} {M0 : SM} (hf : fn_X12_register x1 x2 M = some (r0, M0)) : Met l yX12_register (wz yX12_register cX12_register 3 (some .int)) rm_X12_register (va_Pc [.ref (G.2.1 39 0), .int x1, .int x2] (g_pw G (X, M, τ))) (va_Qi (fun r u => r = r0 ∧ u = (X, M0, τ)) (g_pw G) (g_A G)) 0 0 (g_A G) := by
  refine Met.ofW (cc := cX12_register) (maxL := 3) (ret := (some .int)) (by decide +kernel) rfl ?_
  intro p e s m args below meth c s₁ B hml hv
  obtain ⟨rfl, hC, hP⟩ := hv
  have C0 : g_mc p s m _ meth c RX12 cX12_register (some .int) 3 G := ⟨B.exec, B.bytes, B.returns, hml, findClass_of_methodNamed B.named, fun w h => atoms_spec (ws := wz yX12_register cX12_register 3 (some .int)) B.pre w (List.mem_cons_of_mem _ h), B.notSynchronized, hC⟩
  have hl := lv_entry ([.ref (G.2.1 39 0), .int x1, .int x2]) (n := 3) (Nat.le_of_ble_eq_true rfl)
  rw [lg_entry_eq]
  generalize (lg_sl ([.ref (G.2.1 39 0), .int x1, .int x2]) ++ List.replicate (3 - (lg_sl ([.ref (G.2.1 39 0), .int x1, .int x2])).length) Slot.unset).toArray = ls at hl ⊢
  exact wk_X12_register C0  x1 x2 M hf hP va_S.rf hl
abbrev rm_X12_run : Room := { frames := 5, cells := 0, slots := 0, locals := 118 }
def wb_X12_run_22 (k22 : Int32 → Int32 → Int32 → SM → Option (Int32 × SM)) (x1 : Int32) (x2 : Int32) (x3 : Int32) (M : SM) : Option (Int32 × SM) :=
  if x1 ≤ x3 then
  (some (x2, M))
  else
  ((fn_X12_ticks M).bind fun (r_6, M_7) =>
    if r_6 < 0 then
    (g_let (x3 + 1) fun x3_10 =>
      k22 x1 x2 x3_10 M_7)
    else
    (g_let (x2 + 1) fun x2_11 =>
      g_let (x3 + 1) fun x3_12 =>
      k22 x1 x2_11 x3_12 M_7))
set_option maxRecDepth 100000 in
set_option maxHeartbeats 4000000 in
theorem bk_X12_run_22 {p : Program} {l : Launch} {e : Env} {s : State} {m : MethodId} {args : Array Value} {below : List Frame} {meth : Method} {c : Code} {G : GP} {X : SM} {τ : SL} (C0 : g_mc p s m args meth c RX12 cX12_run (some .int) 4 G) {r0 : Int32} {M0 : SM} (k22 : Int32 → Int32 → Int32 → SM → Option (Int32 × SM)) (hk22 : ∀ (x1 : Int32) (x2 : Int32) (x3 : Int32) (M : SM), k22 x1 x2 x3 M = some (r0, M0) → ∀ {d : Drawn} (_ : s.drawn.sameBut d lw_cs) {H : Heap} {locs : List Loc}, va_P G.1 g_cl (wd G (cb X M) τ) H → va_S (g_A G) s.heap H locs → ∀ {ls : Array Slot}, lv_has ls 4 [(0, .ref (G.2.1 39 0)), (1, .int x1), (2, .int x2), (3, .int x3)] → W p l e rm_X12_run (s.setDrawn d) m args below meth c H locs 0 0 (MQD lw_cs below (va_Qi (fun r u => r = r0 ∧ u = (X, M0, τ)) (g_pw G) (g_A G)) args s 0 0 (g_A G)) (F0 m 22 ls [])) (x1 : Int32) (x2 : Int32) (x3 : Int32) (M : SM) (hf : wb_X12_run_22 k22 x1 x2 x3 M = some (r0, M0)) {d : Drawn} (hd : s.drawn.sameBut d lw_cs) {H : Heap} {locs : List Loc} (hP : va_P G.1 g_cl (wd G (cb X M) τ) H) (hS : va_S (g_A G) s.heap H locs) {ls : Array Slot} (hl : lv_has ls 4 [(0, .ref (G.2.1 39 0)), (1, .int x1), (2, .int x2), (3, .int x3)]) : W p l e rm_X12_run (s.setDrawn d) m args below meth c H locs 0 0 (MQD lw_cs below (va_Qi (fun r u => r = r0 ∧ u = (X, M0, τ)) (g_pw G) (g_A G)) args s 0 0 (g_A G)) (F0 m 22 ls []) := by
  obtain ⟨hx, hb, hr, hml, hown, hts0, hlocks, hC0⟩ := id C0
  have hts := dr_words hts0 d
  have hC := hC0.dr d
  unfold wb_X12_run_22 at hf
  refine lv_iload_n hx hb dX12_run_22 rfl (lv_at hl 3 rfl) ?_
  refine lv_iload_n hx hb dX12_run_23 rfl (lv_at hl 1 rfl) ?_
  refine lv_icmp_ge (tgt := 43) hx hb dX12_run_24 (by decide) (fun hc_5 => ?_) (fun hc_5 => ?_)
  · have hf := g_pos hf hc_5
    refine lv_iload_n hx hb dX12_run_43 rfl (lv_at hl 2 rfl) ?_
    cases hf
    refine W.endD hd ?_
    exact x_iret hx hb hlocks hC hP hS hr dX12_run_44
  · have hf := g_neg hf hc_5
    refine lv_aload_n hx hb dX12_run_27 rfl (lv_at hl 0 rfl) ?_
    obtain ⟨⟨r_6, M_7⟩, hc_8, hf⟩ := g_bindE hf
    refine x_calliD (v := (X, M_7, τ)) hd (va_runV_D (As := []) (rest := []) ⟨hx, hb, hml, hown, hts⟩ (ct_X12_ticks l G X M τ  hc_8) (cwV 0 hts gd_X12_172 rfl rfl rfl hd_X12_ticks ⟨Nat.le_of_ble_eq_true rfl, Nat.le_of_ble_eq_true rfl⟩) (x_preV (u := (X, M, τ)) (k := 39) (ci := 12) hC hS hP Nat.zero_lt_one rfl rfl) rfl rfl hl.1 rfl (lv_room (Nat.le_of_ble_eq_true rfl)) dX12_run_28 ⟨Nat.zero_le _, Nat.zero_le _⟩) hS (fun H locs hP hS d hd => ?_)
    have hts := dr_words hts0 d
    have hC := hC0.dr d
    refine lv_if_lt (tgt := 37) hx hb dX12_run_31 (by decide) (fun hc_9 => ?_) (fun hc_9 => ?_)
    · have hf := g_pos hf hc_9
      obtain ⟨x3_10, ex3_10, hf⟩ := g_letE hf
      refine lv_iinc (v := x3_10) (lv' := [(3, .int x3_10), (0, .ref (G.2.1 39 0)), (1, .int x1), (2, .int x2)]) hx hb dX12_run_37 hl (k := 3) rfl (by rw [← ex3_10]; rfl) (by decide) rfl (fun ls hl => ?_)
      refine lv_goto (tgt := 22) hx hb dX12_run_40 (by decide) ?_
      exact hk22 x1 x2 x3_10 M_7 hf hd hP hS (lv_sub hl [1, 2, 3, 0] rfl)
    · have hf := g_neg hf hc_9
      obtain ⟨x2_11, ex2_11, hf⟩ := g_letE hf
      refine lv_iinc (v := x2_11) (lv' := [(2, .int x2_11), (0, .ref (G.2.1 39 0)), (1, .int x1), (3, .int x3)]) hx hb dX12_run_34 hl (k := 2) rfl (by rw [← ex2_11]; rfl) (by decide) rfl (fun ls hl => ?_)
      obtain ⟨x3_12, ex3_12, hf⟩ := g_letE hf
      refine lv_iinc (v := x3_12) (lv' := [(3, .int x3_12), (2, .int x2_11), (0, .ref (G.2.1 39 0)), (1, .int x1)]) hx hb dX12_run_37 hl (k := 3) rfl (by rw [← ex3_12]; rfl) (by decide) rfl (fun ls hl => ?_)
      refine lv_goto (tgt := 22) hx hb dX12_run_40 (by decide) ?_
      exact hk22 x1 x2_11 x3_12 M_7 hf hd hP hS (lv_sub hl [2, 3, 1, 0] rfl)
def wl_X12_run_22 (n : Nat) (x1 : Int32) (x2 : Int32) (x3 : Int32) (M : SM) : Option (Int32 × SM) := g_loop (α := Int32 × Int32 × Int32 × SM) (fun k a => wb_X12_run_22 (fun x1 x2 x3 M => k (x1, x2, x3, M)) a.1 a.2.1 a.2.2.1 a.2.2.2) n (x1, x2, x3, M)
set_option maxRecDepth 100000 in
set_option maxHeartbeats 4000000 in
theorem lp_X12_run_22 {p : Program} {l : Launch} {e : Env} {s : State} {m : MethodId} {args : Array Value} {below : List Frame} {meth : Method} {c : Code} {G : GP} {X : SM} {τ : SL} (C0 : g_mc p s m args meth c RX12 cX12_run (some .int) 4 G) {r0 : Int32} {M0 : SM} (n : Nat) : ∀ (x1 : Int32) (x2 : Int32) (x3 : Int32) (M : SM), wl_X12_run_22 n x1 x2 x3 M = some (r0, M0) → ∀ {d : Drawn} (_ : s.drawn.sameBut d lw_cs) {H : Heap} {locs : List Loc}, va_P G.1 g_cl (wd G (cb X M) τ) H → va_S (g_A G) s.heap H locs → ∀ {ls : Array Slot}, lv_has ls 4 [(0, .ref (G.2.1 39 0)), (1, .int x1), (2, .int x2), (3, .int x3)] → W p l e rm_X12_run (s.setDrawn d) m args below meth c H locs 0 0 (MQD lw_cs below (va_Qi (fun r u => r = r0 ∧ u = (X, M0, τ)) (g_pw G) (g_A G)) args s 0 0 (g_A G)) (F0 m 22 ls []) := by
  induction n with
  | zero =>
    intro x1 x2 x3 M hf
    have hf : (none : Option (Int32 × SM)) = _ := hf
    cases hf
  | succ n ih =>
    intro x1 x2 x3 M hf d hd H locs hP hS ls hl
    exact bk_X12_run_22 C0   (fun x1 x2 x3 M => wl_X12_run_22   n x1 x2 x3 M) ih x1 x2 x3 M hf hd hP hS hl
def fn_X12_run (x1 : Int32) (M : SM) : Option (Int32 × SM) :=
  g_let (u1 M 39 0 15 0) fun M_1 =>
  g_let (fn_X12_within x1 1 200) fun r_2 =>
  if r_2 = 0 then
  (some ((-1), M_1))
  else
  (wl_X12_run_22 1000 x1 0 0 M_1)
set_option maxRecDepth 100000 in
set_option maxHeartbeats 4000000 in
theorem wk_X12_run {p : Program} {l : Launch} {e : Env} {s : State} {m : MethodId} {args : Array Value} {below : List Frame} {meth : Method} {c : Code} {G : GP} {X : SM} {τ : SL} (C0 : g_mc p s m args meth c RX12 cX12_run (some .int) 4 G) {r0 : Int32} {M0 : SM} (x1 : Int32) (M : SM) (hf : fn_X12_run x1 M = some (r0, M0)) {d : Drawn} (hd : s.drawn.sameBut d lw_cs) {H : Heap} {locs : List Loc} (hP : va_P G.1 g_cl (wd G (cb X M) τ) H) (hS : va_S (g_A G) s.heap H locs) {ls : Array Slot} (hl : lv_has ls 4 [(0, .ref (G.2.1 39 0)), (1, .int x1)]) : W p l e rm_X12_run (s.setDrawn d) m args below meth c H locs 0 0 (MQD lw_cs below (va_Qi (fun r u => r = r0 ∧ u = (X, M0, τ)) (g_pw G) (g_A G)) args s 0 0 (g_A G)) (F0 m 0 ls []) := by
  obtain ⟨hx, hb, hr, hml, hown, hts0, hlocks, hC0⟩ := id C0
  have hts := dr_words hts0 d
  have hC := hC0.dr d
  unfold fn_X12_run at hf
  refine lv_aload_n hx hb dX12_run_0 rfl (lv_at hl 0 rfl) ?_
  refine lv_iconst (v := 0) hx hb dX12_run_1 (by decide) ?_
  obtain ⟨M_1, eM_1, hf⟩ := g_letE hf
  refine pt_39_15 hx hb hts hown hC hP hS Nat.zero_lt_one q8_18 dX12_run_2 (fun H locs hP hS => ?_)
  rw [eM_1] at hP
  refine lv_iload_n hx hb dX12_run_5 rfl (lv_at hl 1 rfl) ?_
  refine lv_iconst (v := 1) hx hb dX12_run_6 (by decide) ?_
  refine lv_sipush (v := 200) hx hb dX12_run_7 (by decide) ?_
  obtain ⟨r_2, hc_3, hf⟩ := g_letE hf
  refine x_calli (v := (X, M_1, τ)) (va_runS (As := [.int x1, .int 1, .int 200]) (rest := []) ⟨hx, hb, hml, hown, hts⟩ (ct_X12_within l G X M_1 τ x1 1 200 hc_3) (cwS 3 hts gd_X12_76 rfl rfl rfl hd_X12_within ⟨Nat.le_of_ble_eq_true rfl, Nat.le_of_ble_eq_true rfl⟩) (x_pre (u := (X, M_1, τ)) hC hS hP) rfl rfl hl.1 rfl (lv_room (Nat.le_of_ble_eq_true rfl)) dX12_run_10 ⟨Nat.zero_le _, Nat.zero_le _⟩) hS (fun H locs hP hS => ?_)
  refine lv_if_ne (tgt := 18) hx hb dX12_run_13 (by decide) (fun hc_4 => ?_) (fun hc_4 => ?_)
  · have hf := g_neg hf hc_4
    refine lv_iconst (v := 0) hx hb dX12_run_18 (by decide) ?_
    refine lv_istore_n (lv' := [(2, .int 0), (0, .ref (G.2.1 39 0)), (1, .int x1)]) hx hb dX12_run_19 rfl hl (by decide) rfl (fun ls hl => ?_)
    refine lv_iconst (v := 0) hx hb dX12_run_20 (by decide) ?_
    refine lv_istore_n (lv' := [(3, .int 0), (2, .int 0), (0, .ref (G.2.1 39 0)), (1, .int x1)]) hx hb dX12_run_21 rfl hl (by decide) rfl (fun ls hl => ?_)
    exact lp_X12_run_22 C0 1000 x1 0 0 M_1 hf hd hP hS (lv_sub hl [2, 3, 1, 0] rfl)
  · have hf := g_pos hf hc_4
    refine lv_iconst (v := (-1)) hx hb dX12_run_16 (by decide) ?_
    cases hf
    refine W.endD hd ?_
    exact x_iret hx hb hlocks hC hP hS hr dX12_run_17
set_option maxRecDepth 100000 in
set_option maxHeartbeats 4000000 in
theorem ct_X12_run (l : Launch) (G : GP) (X M : SM) (τ : SL) (x1 : Int32) {r0 : Int32} {M0 : SM} (hf : fn_X12_run x1 M = some (r0, M0)) : MetD lw_cs l yX12_run (wz yX12_run cX12_run 4 (some .int)) rm_X12_run (va_Pc [.ref (G.2.1 39 0), .int x1] (g_pw G (X, M, τ))) (va_Qi (fun r u => r = r0 ∧ u = (X, M0, τ)) (g_pw G) (g_A G)) 0 0 (g_A G) := by
  refine MetD.ofW (cc := cX12_run) (maxL := 4) (ret := (some .int)) (by decide +kernel) rfl ?_
  intro p e s m args below meth c s₁ B hml hv hd
  obtain ⟨rfl, hC, hP⟩ := hv
  have C0 : g_mc p s m _ meth c RX12 cX12_run (some .int) 4 G := ⟨B.exec, B.bytes, B.returns, hml, findClass_of_methodNamed B.named, fun w h => atoms_spec (ws := wz yX12_run cX12_run 4 (some .int)) B.pre w (List.mem_cons_of_mem _ h), B.notSynchronized, hC⟩
  have hl := lv_entry ([.ref (G.2.1 39 0), .int x1]) (n := 4) (Nat.le_of_ble_eq_true rfl)
  rw [lg_entry_eq]
  generalize (lg_sl ([.ref (G.2.1 39 0), .int x1]) ++ List.replicate (4 - (lg_sl ([.ref (G.2.1 39 0), .int x1])).length) Slot.unset).toArray = ls at hl ⊢
  exact wk_X12_run C0  x1 M hf hd hP va_S.rf hl
abbrev rm_X12_set : Room := { frames := 2, cells := 0, slots := 0, locals := 42 }
def fn_X12_set (x1 : Int32) (x2 : Int32) (x3 : Int32) (M : SM) : Option (Int32 × SM) :=
  (fn_X12_isThread x1).bind fun r_1 =>
  if r_1 = 0 then
  (g_let (fn_X12_throwing 0 M) fun (r_4, M_5) =>
    if r_4 = 0 then
    ((fn_X12_reg x1 x2 M_5).bind fun r_8 =>
      (fn_X12_gets x1 x2 x3 M_5).bind fun M_10 =>
      some (r_8, M_10))
    else
    (some (0, M_5)))
  else
  (g_let (fn_X12_within x2 0 7) fun r_12 =>
    if r_12 = 0 then
    (g_let (fn_X12_throwing 0 M) fun (r_15, M_16) =>
      if r_15 = 0 then
      ((fn_X12_reg x1 x2 M_16).bind fun r_19 =>
        (fn_X12_gets x1 x2 x3 M_16).bind fun M_21 =>
        some (r_19, M_21))
      else
      (some (0, M_16)))
    else
    (g_let (fn_X12_throwing 1 M) fun (r_23, M_24) =>
      if r_23 = 0 then
      ((fn_X12_reg x1 x2 M_24).bind fun r_27 =>
        (fn_X12_gets x1 x2 x3 M_24).bind fun M_29 =>
        some (r_27, M_29))
      else
      (some (0, M_24))))
set_option maxRecDepth 100000 in
set_option maxHeartbeats 4000000 in
theorem wk_X12_set {p : Program} {l : Launch} {e : Env} {s : State} {m : MethodId} {args : Array Value} {below : List Frame} {meth : Method} {c : Code} {G : GP} {X : SM} {τ : SL} (C0 : g_mc p s m args meth c RX12 cX12_set (some .int) 5 G) {r0 : Int32} {M0 : SM} (x1 : Int32) (x2 : Int32) (x3 : Int32) (M : SM) (hf : fn_X12_set x1 x2 x3 M = some (r0, M0)) {H : Heap} {locs : List Loc} (hP : va_P G.1 g_cl (wd G (cb X M) τ) H) (hS : va_S (g_A G) s.heap H locs) {ls : Array Slot} (hl : lv_has ls 5 [(0, .ref (G.2.1 39 0)), (1, .int x1), (2, .int x2), (3, .int x3)]) : W p l e rm_X12_set s m args below meth c H locs 0 0 (MQ below (va_Qi (fun r u => r = r0 ∧ u = (X, M0, τ)) (g_pw G) (g_A G)) args s 0 0 (g_A G)) (F0 m 0 ls []) := by
  obtain ⟨hx, hb, hr, hml, hown, hts, hlocks, hC⟩ := id C0
  unfold fn_X12_set at hf
  refine lv_aload_n hx hb dX12_set_0 rfl (lv_at hl 0 rfl) ?_
  refine lv_iload_n hx hb dX12_set_1 rfl (lv_at hl 1 rfl) ?_
  obtain ⟨r_1, hc_2, hf⟩ := g_bindE hf
  refine x_calli (v := (X, M, τ)) (va_runS (As := [.int x1]) (rest := [.ref (G.2.1 39 0)]) ⟨hx, hb, hml, hown, hts⟩ (ct_X12_isThread l G X M τ x1 hc_2) (cwS 1 hts gd_X12_80 rfl rfl rfl hd_X12_isThread ⟨Nat.le_of_ble_eq_true rfl, Nat.le_of_ble_eq_true rfl⟩) (x_pre (u := (X, M, τ)) hC hS hP) rfl rfl hl.1 rfl (lv_room (Nat.le_of_ble_eq_true rfl)) dX12_set_2 ⟨Nat.zero_le _, Nat.zero_le _⟩) hS (fun H locs hP hS => ?_)
  refine lv_if_eq (tgt := 22) hx hb dX12_set_5 (by decide) (fun hc_3 => ?_) (fun hc_3 => ?_)
  · have hf := g_pos hf hc_3
    refine lv_iconst (v := 0) hx hb dX12_set_22 (by decide) ?_
    obtain ⟨⟨r_4, M_5⟩, hc_6, hf⟩ := g_letE hf
    refine x_calli (v := (X, M_5, τ)) (va_runV (As := [.int 0]) (rest := []) ⟨hx, hb, hml, hown, hts⟩ (ct_X12_throwing l G X M τ 0 hc_6) (cwV 1 hts gd_X12_175 rfl rfl rfl hd_X12_throwing ⟨Nat.le_of_ble_eq_true rfl, Nat.le_of_ble_eq_true rfl⟩) (x_preV (u := (X, M, τ)) (k := 39) (ci := 12) hC hS hP Nat.zero_lt_one rfl rfl) rfl rfl hl.1 rfl (lv_room (Nat.le_of_ble_eq_true rfl)) dX12_set_23 ⟨Nat.zero_le _, Nat.zero_le _⟩) hS (fun H locs hP hS => ?_)
    refine lv_if_eq (tgt := 31) hx hb dX12_set_26 (by decide) (fun hc_7 => ?_) (fun hc_7 => ?_)
    · have hf := g_pos hf hc_7
      refine lv_aload_n hx hb dX12_set_31 rfl (lv_at hl 0 rfl) ?_
      refine lv_iload_n hx hb dX12_set_32 rfl (lv_at hl 1 rfl) ?_
      refine lv_iload_n hx hb dX12_set_33 rfl (lv_at hl 2 rfl) ?_
      obtain ⟨r_8, hc_9, hf⟩ := g_bindE hf
      refine x_calli (v := (X, M_5, τ)) (va_runV (As := [.int x1, .int x2]) (rest := []) ⟨hx, hb, hml, hown, hts⟩ (ct_X12_reg l G X M_5 τ x1 x2 hc_9) (cwV 2 hts gd_X12_139 rfl rfl rfl hd_X12_reg ⟨Nat.le_of_ble_eq_true rfl, Nat.le_of_ble_eq_true rfl⟩) (x_preV (u := (X, M_5, τ)) (k := 39) (ci := 12) hC hS hP Nat.zero_lt_one rfl rfl) rfl rfl hl.1 rfl (lv_room (Nat.le_of_ble_eq_true rfl)) dX12_set_34 ⟨Nat.zero_le _, Nat.zero_le _⟩) hS (fun H locs hP hS => ?_)
      refine lv_istore (lv' := [(4, .int r_8), (0, .ref (G.2.1 39 0)), (1, .int x1), (2, .int x2), (3, .int x3)]) hx hb dX12_set_37 hl (by decide) rfl (fun ls hl => ?_)
      refine lv_aload_n hx hb dX12_set_39 rfl (lv_at hl 1 rfl) ?_
      refine lv_iload_n hx hb dX12_set_40 rfl (lv_at hl 2 rfl) ?_
      refine lv_iload_n hx hb dX12_set_41 rfl (lv_at hl 3 rfl) ?_
      refine lv_iload_n hx hb dX12_set_42 rfl (lv_at hl 4 rfl) ?_
      obtain ⟨M_10, hc_11, hf⟩ := g_bindE hf
      refine x_callv (v := (X, M_10, τ)) (va_runV (As := [.int x1, .int x2, .int x3]) (rest := []) ⟨hx, hb, hml, hown, hts⟩ (ct_X12_gets l G X M_5 τ x1 x2 x3 hc_11) (cwV 3 hts gd_X12_123 rfl rfl rfl hd_X12_gets ⟨Nat.le_of_ble_eq_true rfl, Nat.le_of_ble_eq_true rfl⟩) (x_preV (u := (X, M_5, τ)) (k := 39) (ci := 12) hC hS hP Nat.zero_lt_one rfl rfl) rfl rfl hl.1 rfl (lv_room (Nat.le_of_ble_eq_true rfl)) dX12_set_43 ⟨Nat.zero_le _, Nat.zero_le _⟩) hS (fun H locs hP hS => ?_)
      refine lv_iload hx hb dX12_set_46 (lv_at hl 0 rfl) ?_
      cases hf
      exact x_iret hx hb hlocks hC hP hS hr dX12_set_48
    · have hf := g_neg hf hc_7
      refine lv_iconst (v := 0) hx hb dX12_set_29 (by decide) ?_
      cases hf
      exact x_iret hx hb hlocks hC hP hS hr dX12_set_30
  · have hf := g_neg hf hc_3
    refine lv_iload_n hx hb dX12_set_8 rfl (lv_at hl 2 rfl) ?_
    refine lv_iconst (v := 0) hx hb dX12_set_9 (by decide) ?_
    refine lv_bipush (v := 7) hx hb dX12_set_10 (by decide) ?_
    obtain ⟨r_12, hc_13, hf⟩ := g_letE hf
    refine x_calli (v := (X, M, τ)) (va_runS (As := [.int x2, .int 0, .int 7]) (rest := [.ref (G.2.1 39 0)]) ⟨hx, hb, hml, hown, hts⟩ (ct_X12_within l G X M τ x2 0 7 hc_13) (cwS 3 hts gd_X12_76 rfl rfl rfl hd_X12_within ⟨Nat.le_of_ble_eq_true rfl, Nat.le_of_ble_eq_true rfl⟩) (x_pre (u := (X, M, τ)) hC hS hP) rfl rfl hl.1 rfl (lv_room (Nat.le_of_ble_eq_true rfl)) dX12_set_12 ⟨Nat.zero_le _, Nat.zero_le _⟩) hS (fun H locs hP hS => ?_)
    refine lv_if_eq (tgt := 22) hx hb dX12_set_15 (by decide) (fun hc_14 => ?_) (fun hc_14 => ?_)
    · have hf := g_pos hf hc_14
      refine lv_iconst (v := 0) hx hb dX12_set_22 (by decide) ?_
      obtain ⟨⟨r_15, M_16⟩, hc_17, hf⟩ := g_letE hf
      refine x_calli (v := (X, M_16, τ)) (va_runV (As := [.int 0]) (rest := []) ⟨hx, hb, hml, hown, hts⟩ (ct_X12_throwing l G X M τ 0 hc_17) (cwV 1 hts gd_X12_175 rfl rfl rfl hd_X12_throwing ⟨Nat.le_of_ble_eq_true rfl, Nat.le_of_ble_eq_true rfl⟩) (x_preV (u := (X, M, τ)) (k := 39) (ci := 12) hC hS hP Nat.zero_lt_one rfl rfl) rfl rfl hl.1 rfl (lv_room (Nat.le_of_ble_eq_true rfl)) dX12_set_23 ⟨Nat.zero_le _, Nat.zero_le _⟩) hS (fun H locs hP hS => ?_)
      refine lv_if_eq (tgt := 31) hx hb dX12_set_26 (by decide) (fun hc_18 => ?_) (fun hc_18 => ?_)
      · have hf := g_pos hf hc_18
        refine lv_aload_n hx hb dX12_set_31 rfl (lv_at hl 0 rfl) ?_
        refine lv_iload_n hx hb dX12_set_32 rfl (lv_at hl 1 rfl) ?_
        refine lv_iload_n hx hb dX12_set_33 rfl (lv_at hl 2 rfl) ?_
        obtain ⟨r_19, hc_20, hf⟩ := g_bindE hf
        refine x_calli (v := (X, M_16, τ)) (va_runV (As := [.int x1, .int x2]) (rest := []) ⟨hx, hb, hml, hown, hts⟩ (ct_X12_reg l G X M_16 τ x1 x2 hc_20) (cwV 2 hts gd_X12_139 rfl rfl rfl hd_X12_reg ⟨Nat.le_of_ble_eq_true rfl, Nat.le_of_ble_eq_true rfl⟩) (x_preV (u := (X, M_16, τ)) (k := 39) (ci := 12) hC hS hP Nat.zero_lt_one rfl rfl) rfl rfl hl.1 rfl (lv_room (Nat.le_of_ble_eq_true rfl)) dX12_set_34 ⟨Nat.zero_le _, Nat.zero_le _⟩) hS (fun H locs hP hS => ?_)
        refine lv_istore (lv' := [(4, .int r_19), (0, .ref (G.2.1 39 0)), (1, .int x1), (2, .int x2), (3, .int x3)]) hx hb dX12_set_37 hl (by decide) rfl (fun ls hl => ?_)
        refine lv_aload_n hx hb dX12_set_39 rfl (lv_at hl 1 rfl) ?_
        refine lv_iload_n hx hb dX12_set_40 rfl (lv_at hl 2 rfl) ?_
        refine lv_iload_n hx hb dX12_set_41 rfl (lv_at hl 3 rfl) ?_
        refine lv_iload_n hx hb dX12_set_42 rfl (lv_at hl 4 rfl) ?_
        obtain ⟨M_21, hc_22, hf⟩ := g_bindE hf
        refine x_callv (v := (X, M_21, τ)) (va_runV (As := [.int x1, .int x2, .int x3]) (rest := []) ⟨hx, hb, hml, hown, hts⟩ (ct_X12_gets l G X M_16 τ x1 x2 x3 hc_22) (cwV 3 hts gd_X12_123 rfl rfl rfl hd_X12_gets ⟨Nat.le_of_ble_eq_true rfl, Nat.le_of_ble_eq_true rfl⟩) (x_preV (u := (X, M_16, τ)) (k := 39) (ci := 12) hC hS hP Nat.zero_lt_one rfl rfl) rfl rfl hl.1 rfl (lv_room (Nat.le_of_ble_eq_true rfl)) dX12_set_43 ⟨Nat.zero_le _, Nat.zero_le _⟩) hS (fun H locs hP hS => ?_)
        refine lv_iload hx hb dX12_set_46 (lv_at hl 0 rfl) ?_
        cases hf
        exact x_iret hx hb hlocks hC hP hS hr dX12_set_48
      · have hf := g_neg hf hc_18
        refine lv_iconst (v := 0) hx hb dX12_set_29 (by decide) ?_
        cases hf
        exact x_iret hx hb hlocks hC hP hS hr dX12_set_30
    · have hf := g_neg hf hc_14
      refine lv_iconst (v := 1) hx hb dX12_set_18 (by decide) ?_
      refine lv_goto (tgt := 23) hx hb dX12_set_19 (by decide) ?_
      obtain ⟨⟨r_23, M_24⟩, hc_25, hf⟩ := g_letE hf
      refine x_calli (v := (X, M_24, τ)) (va_runV (As := [.int 1]) (rest := []) ⟨hx, hb, hml, hown, hts⟩ (ct_X12_throwing l G X M τ 1 hc_25) (cwV 1 hts gd_X12_175 rfl rfl rfl hd_X12_throwing ⟨Nat.le_of_ble_eq_true rfl, Nat.le_of_ble_eq_true rfl⟩) (x_preV (u := (X, M, τ)) (k := 39) (ci := 12) hC hS hP Nat.zero_lt_one rfl rfl) rfl rfl hl.1 rfl (lv_room (Nat.le_of_ble_eq_true rfl)) dX12_set_23 ⟨Nat.zero_le _, Nat.zero_le _⟩) hS (fun H locs hP hS => ?_)
      refine lv_if_eq (tgt := 31) hx hb dX12_set_26 (by decide) (fun hc_26 => ?_) (fun hc_26 => ?_)
      · have hf := g_pos hf hc_26
        refine lv_aload_n hx hb dX12_set_31 rfl (lv_at hl 0 rfl) ?_
        refine lv_iload_n hx hb dX12_set_32 rfl (lv_at hl 1 rfl) ?_
        refine lv_iload_n hx hb dX12_set_33 rfl (lv_at hl 2 rfl) ?_
        obtain ⟨r_27, hc_28, hf⟩ := g_bindE hf
        refine x_calli (v := (X, M_24, τ)) (va_runV (As := [.int x1, .int x2]) (rest := []) ⟨hx, hb, hml, hown, hts⟩ (ct_X12_reg l G X M_24 τ x1 x2 hc_28) (cwV 2 hts gd_X12_139 rfl rfl rfl hd_X12_reg ⟨Nat.le_of_ble_eq_true rfl, Nat.le_of_ble_eq_true rfl⟩) (x_preV (u := (X, M_24, τ)) (k := 39) (ci := 12) hC hS hP Nat.zero_lt_one rfl rfl) rfl rfl hl.1 rfl (lv_room (Nat.le_of_ble_eq_true rfl)) dX12_set_34 ⟨Nat.zero_le _, Nat.zero_le _⟩) hS (fun H locs hP hS => ?_)
        refine lv_istore (lv' := [(4, .int r_27), (0, .ref (G.2.1 39 0)), (1, .int x1), (2, .int x2), (3, .int x3)]) hx hb dX12_set_37 hl (by decide) rfl (fun ls hl => ?_)
        refine lv_aload_n hx hb dX12_set_39 rfl (lv_at hl 1 rfl) ?_
        refine lv_iload_n hx hb dX12_set_40 rfl (lv_at hl 2 rfl) ?_
        refine lv_iload_n hx hb dX12_set_41 rfl (lv_at hl 3 rfl) ?_
        refine lv_iload_n hx hb dX12_set_42 rfl (lv_at hl 4 rfl) ?_
        obtain ⟨M_29, hc_30, hf⟩ := g_bindE hf
        refine x_callv (v := (X, M_29, τ)) (va_runV (As := [.int x1, .int x2, .int x3]) (rest := []) ⟨hx, hb, hml, hown, hts⟩ (ct_X12_gets l G X M_24 τ x1 x2 x3 hc_30) (cwV 3 hts gd_X12_123 rfl rfl rfl hd_X12_gets ⟨Nat.le_of_ble_eq_true rfl, Nat.le_of_ble_eq_true rfl⟩) (x_preV (u := (X, M_24, τ)) (k := 39) (ci := 12) hC hS hP Nat.zero_lt_one rfl rfl) rfl rfl hl.1 rfl (lv_room (Nat.le_of_ble_eq_true rfl)) dX12_set_43 ⟨Nat.zero_le _, Nat.zero_le _⟩) hS (fun H locs hP hS => ?_)
        refine lv_iload hx hb dX12_set_46 (lv_at hl 0 rfl) ?_
        cases hf
        exact x_iret hx hb hlocks hC hP hS hr dX12_set_48
      · have hf := g_neg hf hc_26
        refine lv_iconst (v := 0) hx hb dX12_set_29 (by decide) ?_
        cases hf
        exact x_iret hx hb hlocks hC hP hS hr dX12_set_30
set_option maxRecDepth 100000 in
set_option maxHeartbeats 4000000 in
theorem ct_X12_set (l : Launch) (G : GP) (X M : SM) (τ : SL) (x1 : Int32) (x2 : Int32) (x3 : Int32) {r0 : Int32} {M0 : SM} (hf : fn_X12_set x1 x2 x3 M = some (r0, M0)) : Met l yX12_set (wz yX12_set cX12_set 5 (some .int)) rm_X12_set (va_Pc [.ref (G.2.1 39 0), .int x1, .int x2, .int x3] (g_pw G (X, M, τ))) (va_Qi (fun r u => r = r0 ∧ u = (X, M0, τ)) (g_pw G) (g_A G)) 0 0 (g_A G) := by
  refine Met.ofW (cc := cX12_set) (maxL := 5) (ret := (some .int)) (by decide +kernel) rfl ?_
  intro p e s m args below meth c s₁ B hml hv
  obtain ⟨rfl, hC, hP⟩ := hv
  have C0 : g_mc p s m _ meth c RX12 cX12_set (some .int) 5 G := ⟨B.exec, B.bytes, B.returns, hml, findClass_of_methodNamed B.named, fun w h => atoms_spec (ws := wz yX12_set cX12_set 5 (some .int)) B.pre w (List.mem_cons_of_mem _ h), B.notSynchronized, hC⟩
  have hl := lv_entry ([.ref (G.2.1 39 0), .int x1, .int x2, .int x3]) (n := 5) (Nat.le_of_ble_eq_true rfl)
  rw [lg_entry_eq]
  generalize (lg_sl ([.ref (G.2.1 39 0), .int x1, .int x2, .int x3]) ++ List.replicate (5 - (lg_sl ([.ref (G.2.1 39 0), .int x1, .int x2, .int x3])).length) Slot.unset).toArray = ls at hl ⊢
  exact wk_X12_set C0  x1 x2 x3 M hf hP va_S.rf hl
abbrev rm_X12_share : Room := { frames := 2, cells := 0, slots := 0, locals := 43 }
def fn_X12_share (x1 : Int32) (M : SM) : Option (Int32 × SM) :=
  g_let (u1 M 39 0 15 0) fun M_1 =>
  (fn_X12_isThread x1).bind fun r_2 =>
  if r_2 = 0 then
  (some ((-1), M_1))
  else
  (if (M_1 40 0 683) ≤ 0 then
    (some ((-1), M_1))
    else
    (if g_in (450 + x1) 693 then
      g_let (fn_Jxf58ca_floatToIntBits_5c35a (FP.fdiv (FP.i2f (M_1 40 0 ((450 + x1).toNatClampNeg))) (FP.i2f (M_1 40 0 683)))) fun r_9 =>
      some (r_9, M_1)
      else none))
set_option maxRecDepth 100000 in
set_option maxHeartbeats 4000000 in
theorem wk_X12_share {p : Program} {l : Launch} {e : Env} {s : State} {m : MethodId} {args : Array Value} {below : List Frame} {meth : Method} {c : Code} {G : GP} {X : SM} {τ : SL} (C0 : g_mc p s m args meth c RX12 cX12_share (some .int) 2 G) {r0 : Int32} {M0 : SM} (x1 : Int32) (M : SM) (hf : fn_X12_share x1 M = some (r0, M0)) {d : Drawn} (hd : s.drawn.sameBut d lw_cs) {H : Heap} {locs : List Loc} (hP : va_P G.1 g_cl (wd G (cb X M) τ) H) (hS : va_S (g_A G) s.heap H locs) {ls : Array Slot} (hl : lv_has ls 2 [(0, .ref (G.2.1 39 0)), (1, .int x1)]) : W p l e rm_X12_share (s.setDrawn d) m args below meth c H locs 0 0 (MQD lw_cs below (va_Qi (fun r u => r = r0 ∧ u = (X, M0, τ)) (g_pw G) (g_A G)) args s 0 0 (g_A G)) (F0 m 0 ls []) := by
  obtain ⟨hx, hb, hr, hml, hown, hts0, hlocks, hC0⟩ := id C0
  have hts := dr_words hts0 d
  have hC := hC0.dr d
  unfold fn_X12_share at hf
  refine lv_aload_n hx hb dX12_share_0 rfl (lv_at hl 0 rfl) ?_
  refine lv_iconst (v := 0) hx hb dX12_share_1 (by decide) ?_
  obtain ⟨M_1, eM_1, hf⟩ := g_letE hf
  refine pt_39_15 hx hb hts hown hC hP hS Nat.zero_lt_one q8_18 dX12_share_2 (fun H locs hP hS => ?_)
  rw [eM_1] at hP
  refine lv_iload_n hx hb dX12_share_5 rfl (lv_at hl 1 rfl) ?_
  obtain ⟨r_2, hc_3, hf⟩ := g_bindE hf
  refine x_calli (v := (X, M_1, τ)) (va_runS (As := [.int x1]) (rest := []) ⟨hx, hb, hml, hown, hts⟩ (ct_X12_isThread l G X M_1 τ x1 hc_3) (cwS 1 hts gd_X12_80 rfl rfl rfl hd_X12_isThread ⟨Nat.le_of_ble_eq_true rfl, Nat.le_of_ble_eq_true rfl⟩) (x_pre (u := (X, M_1, τ)) hC hS hP) rfl rfl hl.1 rfl (lv_room (Nat.le_of_ble_eq_true rfl)) dX12_share_6 ⟨Nat.zero_le _, Nat.zero_le _⟩) hS (fun H locs hP hS => ?_)
  refine lv_if_eq (tgt := 50) hx hb dX12_share_9 (by decide) (fun hc_4 => ?_) (fun hc_4 => ?_)
  · have hf := g_pos hf hc_4
    refine lv_iconst (v := (-1)) hx hb dX12_share_50 (by decide) ?_
    cases hf
    refine W.endD hd ?_
    exact x_iret hx hb hlocks hC hP hS hr dX12_share_51
  · have hf := g_neg hf hc_4
    refine lv_aload_n hx hb dX12_share_12 rfl (lv_at hl 0 rfl) ?_
    refine gt_39_0 hx hb hts hown hC hP Nat.zero_lt_one q6_17 dX12_share_13 ?_
    refine lv_sipush (v := 683) hx hb dX12_share_16 (by decide) ?_
    refine xildM (k := 40) (n := 693) hx hb hC hP (fun _ _ => rfl) rfl Nat.zero_lt_one (by decide) dX12_share_19 ?_
    refine lv_topE (show M_1 40 0 (Int32.toNatClampNeg 683) = M_1 40 0 683 from rfl) ?_
    refine lv_if_le (tgt := 50) hx hb dX12_share_20 (by decide) (fun hc_5 => ?_) (fun hc_5 => ?_)
    · have hf := g_pos hf hc_5
      refine lv_iconst (v := (-1)) hx hb dX12_share_50 (by decide) ?_
      cases hf
      refine W.endD hd ?_
      exact x_iret hx hb hlocks hC hP hS hr dX12_share_51
    · have hf := g_neg hf hc_5
      refine lv_aload_n hx hb dX12_share_23 rfl (lv_at hl 0 rfl) ?_
      refine gt_39_0 hx hb hts hown hC hP Nat.zero_lt_one q6_17 dX12_share_24 ?_
      refine lv_sipush (v := 450) hx hb dX12_share_27 (by decide) ?_
      refine lv_iload_n hx hb dX12_share_30 rfl (lv_at hl 1 rfl) ?_
      refine lv_iadd hx hb dX12_share_31 ?_
      obtain ⟨hg_6, hf⟩ := g_gd hf
      refine xildM (k := 40) (n := 693) hx hb hC hP (fun _ _ => rfl) rfl Nat.zero_lt_one hg_6 dX12_share_32 ?_
      refine lv_i2f hx hb dX12_share_33 ?_
      refine lv_aload_n hx hb dX12_share_34 rfl (lv_at hl 0 rfl) ?_
      refine gt_39_0 hx hb hts hown hC hP Nat.zero_lt_one q6_17 dX12_share_35 ?_
      refine lv_sipush (v := 683) hx hb dX12_share_38 (by decide) ?_
      refine xildM (k := 40) (n := 693) hx hb hC hP (fun _ _ => rfl) rfl Nat.zero_lt_one (by decide) dX12_share_41 ?_
      refine lv_topE (show M_1 40 0 (Int32.toNatClampNeg 683) = M_1 40 0 683 from rfl) ?_
      refine lv_i2f hx hb dX12_share_42 ?_
      refine lv_fdiv_any hd lw_bits hx hb dX12_share_43 (fun rq_7 d hal_8 hd => ?_)
      have hts := dr_words hts0 d
      have hC := hC0.dr d
      obtain ⟨r_9, hc_10, hf⟩ := g_letE hf
      refine x_calli (v := (X, M_1, τ)) (va_runS (As := [.float rq_7]) (rest := []) ⟨hx, hb, hml, hown, hts⟩ (ct_Jxf58ca_floatToIntBits_5c35a l G X M_1 τ rq_7 ((fb_alike hal_8).trans hc_10)) ⟨callB_of 1 hts (wz_N q29_1) rfl rfl rfl (hts _ q29_0) (hts _ q28_22) hd_Jxf58ca_floatToIntBits_5c35a.2 ⟨Nat.le_of_ble_eq_true rfl, Nat.le_of_ble_eq_true rfl⟩, hts _ q28_23⟩ (x_pre (u := (X, M_1, τ)) hC hS hP) rfl rfl hl.1 rfl (lv_room (Nat.le_of_ble_eq_true rfl)) dX12_share_44 ⟨Nat.zero_le _, Nat.zero_le _⟩) hS (fun H locs hP hS => ?_)
      refine lv_goto (tgt := 51) hx hb dX12_share_47 (by decide) ?_
      cases hf
      refine W.endD hd ?_
      exact x_iret hx hb hlocks hC hP hS hr dX12_share_51
set_option maxRecDepth 100000 in
set_option maxHeartbeats 4000000 in
theorem ct_X12_share (l : Launch) (G : GP) (X M : SM) (τ : SL) (x1 : Int32) {r0 : Int32} {M0 : SM} (hf : fn_X12_share x1 M = some (r0, M0)) : MetD lw_cs l yX12_share (wz yX12_share cX12_share 2 (some .int)) rm_X12_share (va_Pc [.ref (G.2.1 39 0), .int x1] (g_pw G (X, M, τ))) (va_Qi (fun r u => r = r0 ∧ u = (X, M0, τ)) (g_pw G) (g_A G)) 0 0 (g_A G) := by
  refine MetD.ofW (cc := cX12_share) (maxL := 2) (ret := (some .int)) (by decide +kernel) rfl ?_
  intro p e s m args below meth c s₁ B hml hv hd
  obtain ⟨rfl, hC, hP⟩ := hv
  have C0 : g_mc p s m _ meth c RX12 cX12_share (some .int) 2 G := ⟨B.exec, B.bytes, B.returns, hml, findClass_of_methodNamed B.named, fun w h => atoms_spec (ws := wz yX12_share cX12_share 2 (some .int)) B.pre w (List.mem_cons_of_mem _ h), B.notSynchronized, hC⟩
  have hl := lv_entry ([.ref (G.2.1 39 0), .int x1]) (n := 2) (Nat.le_of_ble_eq_true rfl)
  rw [lg_entry_eq]
  generalize (lg_sl ([.ref (G.2.1 39 0), .int x1]) ++ List.replicate (2 - (lg_sl ([.ref (G.2.1 39 0), .int x1])).length) Slot.unset).toArray = ls at hl ⊢
  exact wk_X12_share C0  x1 M hf hd hP va_S.rf hl
abbrev rm_X12_slot : Room := { frames := 2, cells := 0, slots := 0, locals := 42 }
def fn_X12_slot (x1 : Int32) (x2 : Int32) (M : SM) : Option (Int32 × SM) :=
  g_let (u1 M 39 0 15 0) fun M_1 =>
  g_let (fn_X12_within x1 0 ((M_1 39 0 12) - 1)) fun r_2 =>
  if r_2 = 0 then
  (some (0, M_1))
  else
  (if x2 = (-1) then
    (if g_in x1 16 then
      g_let (u1 M_1 50 0 (x1.toNatClampNeg) x2) fun M_7 =>
      some (1, M_7)
      else none)
    else
    ((fn_X12_isThread x2).bind fun r_8 =>
      if r_8 = 0 then
      (some (0, M_1))
      else
      (if g_in x1 16 then
        g_let (u1 M_1 50 0 (x1.toNatClampNeg) x2) fun M_12 =>
        some (1, M_12)
        else none)))
set_option maxRecDepth 100000 in
set_option maxHeartbeats 4000000 in
theorem wk_X12_slot {p : Program} {l : Launch} {e : Env} {s : State} {m : MethodId} {args : Array Value} {below : List Frame} {meth : Method} {c : Code} {G : GP} {X : SM} {τ : SL} (C0 : g_mc p s m args meth c RX12 cX12_slot (some .boolean) 3 G) {r0 : Int32} {M0 : SM} (x1 : Int32) (x2 : Int32) (M : SM) (hf : fn_X12_slot x1 x2 M = some (r0, M0)) {H : Heap} {locs : List Loc} (hP : va_P G.1 g_cl (wd G (cb X M) τ) H) (hS : va_S (g_A G) s.heap H locs) {ls : Array Slot} (hl : lv_has ls 3 [(0, .ref (G.2.1 39 0)), (1, .int x1), (2, .int x2)]) : W p l e rm_X12_slot s m args below meth c H locs 0 0 (MQ below (va_Qi (fun r u => r = r0 ∧ u = (X, M0, τ)) (g_pw G) (g_A G)) args s 0 0 (g_A G)) (F0 m 0 ls []) := by
  obtain ⟨hx, hb, hr, hml, hown, hts, hlocks, hC⟩ := id C0
  unfold fn_X12_slot at hf
  refine lv_aload_n hx hb dX12_slot_0 rfl (lv_at hl 0 rfl) ?_
  refine lv_iconst (v := 0) hx hb dX12_slot_1 (by decide) ?_
  obtain ⟨M_1, eM_1, hf⟩ := g_letE hf
  refine pt_39_15 hx hb hts hown hC hP hS Nat.zero_lt_one q8_18 dX12_slot_2 (fun H locs hP hS => ?_)
  rw [eM_1] at hP
  refine lv_iload_n hx hb dX12_slot_5 rfl (lv_at hl 1 rfl) ?_
  refine lv_iconst (v := 0) hx hb dX12_slot_6 (by decide) ?_
  refine lv_aload_n hx hb dX12_slot_7 rfl (lv_at hl 0 rfl) ?_
  refine gt_39_12 hx hb hts hown hC hP Nat.zero_lt_one q7_5 dX12_slot_8 ?_
  refine lv_iconst (v := 1) hx hb dX12_slot_11 (by decide) ?_
  refine lv_isub hx hb dX12_slot_12 ?_
  obtain ⟨r_2, hc_3, hf⟩ := g_letE hf
  refine x_calli (v := (X, M_1, τ)) (va_runS (As := [.int x1, .int 0, .int ((M_1 39 0 12) - 1)]) (rest := []) ⟨hx, hb, hml, hown, hts⟩ (ct_X12_within l G X M_1 τ x1 0 ((M_1 39 0 12) - 1) hc_3) (cwS 3 hts gd_X12_76 rfl rfl rfl hd_X12_within ⟨Nat.le_of_ble_eq_true rfl, Nat.le_of_ble_eq_true rfl⟩) (x_pre (u := (X, M_1, τ)) hC hS hP) rfl rfl hl.1 rfl (lv_room (Nat.le_of_ble_eq_true rfl)) dX12_slot_13 ⟨Nat.zero_le _, Nat.zero_le _⟩) hS (fun H locs hP hS => ?_)
  refine lv_if_eq (tgt := 31) hx hb dX12_slot_16 (by decide) (fun hc_4 => ?_) (fun hc_4 => ?_)
  · have hf := g_pos hf hc_4
    refine lv_iconst (v := 0) hx hb dX12_slot_31 (by decide) ?_
    cases hf
    exact x_zret hx hb hlocks hC hP hS hr (Or.inl rfl) dX12_slot_32
  · have hf := g_neg hf hc_4
    refine lv_iload_n hx hb dX12_slot_19 rfl (lv_at hl 2 rfl) ?_
    refine lv_iconst (v := (-1)) hx hb dX12_slot_20 (by decide) ?_
    refine lv_icmp_eq (tgt := 33) hx hb dX12_slot_21 (by decide) (fun hc_5 => ?_) (fun hc_5 => ?_)
    · have hf := g_pos hf hc_5
      refine lv_aload_n hx hb dX12_slot_33 rfl (lv_at hl 0 rfl) ?_
      refine gt_39_11 hx hb hts hown hC hP Nat.zero_lt_one q7_4 dX12_slot_34 ?_
      refine lv_iload_n hx hb dX12_slot_37 rfl (lv_at hl 1 rfl) ?_
      refine lv_iload_n hx hb dX12_slot_38 rfl (lv_at hl 2 rfl) ?_
      obtain ⟨hg_6, hf⟩ := g_gd hf
      obtain ⟨M_7, eM_7, hf⟩ := g_letE hf
      refine xistM (k := 50) (n := 16) hx hb hC hP hS (fun _ _ => rfl) rfl Nat.zero_lt_one hg_6 dX12_slot_39 (fun H locs hP hS => ?_)
      rw [eM_7] at hP
      refine lv_iconst (v := 1) hx hb dX12_slot_40 (by decide) ?_
      cases hf
      exact x_zret hx hb hlocks hC hP hS hr (Or.inr rfl) dX12_slot_41
    · have hf := g_neg hf hc_5
      refine lv_iload_n hx hb dX12_slot_24 rfl (lv_at hl 2 rfl) ?_
      obtain ⟨r_8, hc_9, hf⟩ := g_bindE hf
      refine x_calli (v := (X, M_1, τ)) (va_runS (As := [.int x2]) (rest := []) ⟨hx, hb, hml, hown, hts⟩ (ct_X12_isThread l G X M_1 τ x2 hc_9) (cwS 1 hts gd_X12_80 rfl rfl rfl hd_X12_isThread ⟨Nat.le_of_ble_eq_true rfl, Nat.le_of_ble_eq_true rfl⟩) (x_pre (u := (X, M_1, τ)) hC hS hP) rfl rfl hl.1 rfl (lv_room (Nat.le_of_ble_eq_true rfl)) dX12_slot_25 ⟨Nat.zero_le _, Nat.zero_le _⟩) hS (fun H locs hP hS => ?_)
      refine lv_if_ne (tgt := 33) hx hb dX12_slot_28 (by decide) (fun hc_10 => ?_) (fun hc_10 => ?_)
      · have hf := g_neg hf hc_10
        refine lv_aload_n hx hb dX12_slot_33 rfl (lv_at hl 0 rfl) ?_
        refine gt_39_11 hx hb hts hown hC hP Nat.zero_lt_one q7_4 dX12_slot_34 ?_
        refine lv_iload_n hx hb dX12_slot_37 rfl (lv_at hl 1 rfl) ?_
        refine lv_iload_n hx hb dX12_slot_38 rfl (lv_at hl 2 rfl) ?_
        obtain ⟨hg_11, hf⟩ := g_gd hf
        obtain ⟨M_12, eM_12, hf⟩ := g_letE hf
        refine xistM (k := 50) (n := 16) hx hb hC hP hS (fun _ _ => rfl) rfl Nat.zero_lt_one hg_11 dX12_slot_39 (fun H locs hP hS => ?_)
        rw [eM_12] at hP
        refine lv_iconst (v := 1) hx hb dX12_slot_40 (by decide) ?_
        cases hf
        exact x_zret hx hb hlocks hC hP hS hr (Or.inr rfl) dX12_slot_41
      · have hf := g_pos hf hc_10
        refine lv_iconst (v := 0) hx hb dX12_slot_31 (by decide) ?_
        cases hf
        exact x_zret hx hb hlocks hC hP hS hr (Or.inl rfl) dX12_slot_32
set_option maxRecDepth 100000 in
set_option maxHeartbeats 4000000 in
theorem ct_X12_slot (l : Launch) (G : GP) (X M : SM) (τ : SL) (x1 : Int32) (x2 : Int32) {r0 : Int32} {M0 : SM} (hf : fn_X12_slot x1 x2 M = some (r0, M0)) : Met l yX12_slot (wz yX12_slot cX12_slot 3 (some .boolean)) rm_X12_slot (va_Pc [.ref (G.2.1 39 0), .int x1, .int x2] (g_pw G (X, M, τ))) (va_Qi (fun r u => r = r0 ∧ u = (X, M0, τ)) (g_pw G) (g_A G)) 0 0 (g_A G) := by
  refine Met.ofW (cc := cX12_slot) (maxL := 3) (ret := (some .boolean)) (by decide +kernel) rfl ?_
  intro p e s m args below meth c s₁ B hml hv
  obtain ⟨rfl, hC, hP⟩ := hv
  have C0 : g_mc p s m _ meth c RX12 cX12_slot (some .boolean) 3 G := ⟨B.exec, B.bytes, B.returns, hml, findClass_of_methodNamed B.named, fun w h => atoms_spec (ws := wz yX12_slot cX12_slot 3 (some .boolean)) B.pre w (List.mem_cons_of_mem _ h), B.notSynchronized, hC⟩
  have hl := lv_entry ([.ref (G.2.1 39 0), .int x1, .int x2]) (n := 3) (Nat.le_of_ble_eq_true rfl)
  rw [lg_entry_eq]
  generalize (lg_sl ([.ref (G.2.1 39 0), .int x1, .int x2]) ++ List.replicate (3 - (lg_sl ([.ref (G.2.1 39 0), .int x1, .int x2])).length) Slot.unset).toArray = ls at hl ⊢
  exact wk_X12_slot C0  x1 x2 M hf hP va_S.rf hl
abbrev rm_X12_slots : Room := { frames := 1, cells := 0, slots := 0, locals := 22 }
def wb_X12_slots_24 (k24 : Int32 → Int32 → Int32 → SM → Option (Int32 × SM)) (x1 : Int32) (x2 : Int32) (x3 : Int32) (M : SM) : Option (Int32 × SM) :=
  if x1 ≤ x3 then
  (g_let (u1 M 39 0 12 x1) fun M_7 =>
    some (x2, M_7))
  else
  (if g_in x3 16 then
    g_let (u1 M 50 0 (x3.toNatClampNeg) (-1)) fun M_9 =>
    g_let (x3 + 1) fun x3_10 =>
    k24 x1 x2 x3_10 M_9
    else none)
set_option maxRecDepth 100000 in
set_option maxHeartbeats 4000000 in
theorem bk_X12_slots_24 {p : Program} {l : Launch} {e : Env} {s : State} {m : MethodId} {args : Array Value} {below : List Frame} {meth : Method} {c : Code} {G : GP} {X : SM} {τ : SL} (C0 : g_mc p s m args meth c RX12 cX12_slots (some .int) 4 G) {r0 : Int32} {M0 : SM} (k24 : Int32 → Int32 → Int32 → SM → Option (Int32 × SM)) (hk24 : ∀ (x1 : Int32) (x2 : Int32) (x3 : Int32) (M : SM), k24 x1 x2 x3 M = some (r0, M0) → ∀ {H : Heap} {locs : List Loc}, va_P G.1 g_cl (wd G (cb X M) τ) H → va_S (g_A G) s.heap H locs → ∀ {ls : Array Slot}, lv_has ls 4 [(0, .ref (G.2.1 39 0)), (1, .int x1), (2, .int x2), (3, .int x3)] → W p l e rm_X12_slots s m args below meth c H locs 0 0 (MQ below (va_Qi (fun r u => r = r0 ∧ u = (X, M0, τ)) (g_pw G) (g_A G)) args s 0 0 (g_A G)) (F0 m 24 ls [])) (x1 : Int32) (x2 : Int32) (x3 : Int32) (M : SM) (hf : wb_X12_slots_24 k24 x1 x2 x3 M = some (r0, M0)) {H : Heap} {locs : List Loc} (hP : va_P G.1 g_cl (wd G (cb X M) τ) H) (hS : va_S (g_A G) s.heap H locs) {ls : Array Slot} (hl : lv_has ls 4 [(0, .ref (G.2.1 39 0)), (1, .int x1), (2, .int x2), (3, .int x3)]) : W p l e rm_X12_slots s m args below meth c H locs 0 0 (MQ below (va_Qi (fun r u => r = r0 ∧ u = (X, M0, τ)) (g_pw G) (g_A G)) args s 0 0 (g_A G)) (F0 m 24 ls []) := by
  obtain ⟨hx, hb, hr, hml, hown, hts, hlocks, hC⟩ := id C0
  unfold wb_X12_slots_24 at hf
  refine lv_iload_n hx hb dX12_slots_24 rfl (lv_at hl 3 rfl) ?_
  refine lv_iload_n hx hb dX12_slots_25 rfl (lv_at hl 1 rfl) ?_
  refine lv_icmp_ge (tgt := 42) hx hb dX12_slots_26 (by decide) (fun hc_6 => ?_) (fun hc_6 => ?_)
  · have hf := g_pos hf hc_6
    refine lv_aload_n hx hb dX12_slots_42 rfl (lv_at hl 0 rfl) ?_
    refine lv_iload_n hx hb dX12_slots_43 rfl (lv_at hl 1 rfl) ?_
    obtain ⟨M_7, eM_7, hf⟩ := g_letE hf
    refine pt_39_12 hx hb hts hown hC hP hS Nat.zero_lt_one q7_5 dX12_slots_44 (fun H locs hP hS => ?_)
    rw [eM_7] at hP
    refine lv_iload_n hx hb dX12_slots_47 rfl (lv_at hl 2 rfl) ?_
    cases hf
    exact x_iret hx hb hlocks hC hP hS hr dX12_slots_48
  · have hf := g_neg hf hc_6
    refine lv_aload_n hx hb dX12_slots_29 rfl (lv_at hl 0 rfl) ?_
    refine gt_39_11 hx hb hts hown hC hP Nat.zero_lt_one q7_4 dX12_slots_30 ?_
    refine lv_iload_n hx hb dX12_slots_33 rfl (lv_at hl 3 rfl) ?_
    refine lv_iconst (v := (-1)) hx hb dX12_slots_34 (by decide) ?_
    obtain ⟨hg_8, hf⟩ := g_gd hf
    obtain ⟨M_9, eM_9, hf⟩ := g_letE hf
    refine xistM (k := 50) (n := 16) hx hb hC hP hS (fun _ _ => rfl) rfl Nat.zero_lt_one hg_8 dX12_slots_35 (fun H locs hP hS => ?_)
    rw [eM_9] at hP
    obtain ⟨x3_10, ex3_10, hf⟩ := g_letE hf
    refine lv_iinc (v := x3_10) (lv' := [(3, .int x3_10), (0, .ref (G.2.1 39 0)), (1, .int x1), (2, .int x2)]) hx hb dX12_slots_36 hl (k := 3) rfl (by rw [← ex3_10]; rfl) (by decide) rfl (fun ls hl => ?_)
    refine lv_goto (tgt := 24) hx hb dX12_slots_39 (by decide) ?_
    exact hk24 x1 x2 x3_10 M_9 hf hP hS (lv_sub hl [1, 2, 3, 0] rfl)
def wl_X12_slots_24 (n : Nat) (x1 : Int32) (x2 : Int32) (x3 : Int32) (M : SM) : Option (Int32 × SM) := g_loop (α := Int32 × Int32 × Int32 × SM) (fun k a => wb_X12_slots_24 (fun x1 x2 x3 M => k (x1, x2, x3, M)) a.1 a.2.1 a.2.2.1 a.2.2.2) n (x1, x2, x3, M)
set_option maxRecDepth 100000 in
set_option maxHeartbeats 4000000 in
theorem lp_X12_slots_24 {p : Program} {l : Launch} {e : Env} {s : State} {m : MethodId} {args : Array Value} {below : List Frame} {meth : Method} {c : Code} {G : GP} {X : SM} {τ : SL} (C0 : g_mc p s m args meth c RX12 cX12_slots (some .int) 4 G) {r0 : Int32} {M0 : SM} (n : Nat) : ∀ (x1 : Int32) (x2 : Int32) (x3 : Int32) (M : SM), wl_X12_slots_24 n x1 x2 x3 M = some (r0, M0) → ∀ {H : Heap} {locs : List Loc}, va_P G.1 g_cl (wd G (cb X M) τ) H → va_S (g_A G) s.heap H locs → ∀ {ls : Array Slot}, lv_has ls 4 [(0, .ref (G.2.1 39 0)), (1, .int x1), (2, .int x2), (3, .int x3)] → W p l e rm_X12_slots s m args below meth c H locs 0 0 (MQ below (va_Qi (fun r u => r = r0 ∧ u = (X, M0, τ)) (g_pw G) (g_A G)) args s 0 0 (g_A G)) (F0 m 24 ls []) := by
  induction n with
  | zero =>
    intro x1 x2 x3 M hf
    have hf : (none : Option (Int32 × SM)) = _ := hf
    cases hf
  | succ n ih =>
    intro x1 x2 x3 M hf H locs hP hS ls hl
    exact bk_X12_slots_24 C0   (fun x1 x2 x3 M => wl_X12_slots_24   n x1 x2 x3 M) ih x1 x2 x3 M hf hP hS hl
def fn_X12_slots (x1 : Int32) (M : SM) : Option (Int32 × SM) :=
  g_let (u1 M 39 0 15 0) fun M_1 =>
  g_let (fn_X12_within x1 1 16) fun r_2 =>
  if r_2 = 0 then
  (some ((-1), M_1))
  else
  (g_let ((M_1 39 0 12)) fun x2_5 =>
    wl_X12_slots_24 1000 x1 x2_5 x2_5 M_1)
set_option maxRecDepth 100000 in
set_option maxHeartbeats 4000000 in
theorem wk_X12_slots {p : Program} {l : Launch} {e : Env} {s : State} {m : MethodId} {args : Array Value} {below : List Frame} {meth : Method} {c : Code} {G : GP} {X : SM} {τ : SL} (C0 : g_mc p s m args meth c RX12 cX12_slots (some .int) 4 G) {r0 : Int32} {M0 : SM} (x1 : Int32) (M : SM) (hf : fn_X12_slots x1 M = some (r0, M0)) {H : Heap} {locs : List Loc} (hP : va_P G.1 g_cl (wd G (cb X M) τ) H) (hS : va_S (g_A G) s.heap H locs) {ls : Array Slot} (hl : lv_has ls 4 [(0, .ref (G.2.1 39 0)), (1, .int x1)]) : W p l e rm_X12_slots s m args below meth c H locs 0 0 (MQ below (va_Qi (fun r u => r = r0 ∧ u = (X, M0, τ)) (g_pw G) (g_A G)) args s 0 0 (g_A G)) (F0 m 0 ls []) := by
  obtain ⟨hx, hb, hr, hml, hown, hts, hlocks, hC⟩ := id C0
  unfold fn_X12_slots at hf
  refine lv_aload_n hx hb dX12_slots_0 rfl (lv_at hl 0 rfl) ?_
  refine lv_iconst (v := 0) hx hb dX12_slots_1 (by decide) ?_
  obtain ⟨M_1, eM_1, hf⟩ := g_letE hf
  refine pt_39_15 hx hb hts hown hC hP hS Nat.zero_lt_one q8_18 dX12_slots_2 (fun H locs hP hS => ?_)
  rw [eM_1] at hP
  refine lv_iload_n hx hb dX12_slots_5 rfl (lv_at hl 1 rfl) ?_
  refine lv_iconst (v := 1) hx hb dX12_slots_6 (by decide) ?_
  refine lv_bipush (v := 16) hx hb dX12_slots_7 (by decide) ?_
  obtain ⟨r_2, hc_3, hf⟩ := g_letE hf
  refine x_calli (v := (X, M_1, τ)) (va_runS (As := [.int x1, .int 1, .int 16]) (rest := []) ⟨hx, hb, hml, hown, hts⟩ (ct_X12_within l G X M_1 τ x1 1 16 hc_3) (cwS 3 hts gd_X12_76 rfl rfl rfl hd_X12_within ⟨Nat.le_of_ble_eq_true rfl, Nat.le_of_ble_eq_true rfl⟩) (x_pre (u := (X, M_1, τ)) hC hS hP) rfl rfl hl.1 rfl (lv_room (Nat.le_of_ble_eq_true rfl)) dX12_slots_9 ⟨Nat.zero_le _, Nat.zero_le _⟩) hS (fun H locs hP hS => ?_)
  refine lv_if_ne (tgt := 17) hx hb dX12_slots_12 (by decide) (fun hc_4 => ?_) (fun hc_4 => ?_)
  · have hf := g_neg hf hc_4
    refine lv_aload_n hx hb dX12_slots_17 rfl (lv_at hl 0 rfl) ?_
    refine gt_39_12 hx hb hts hown hC hP Nat.zero_lt_one q7_5 dX12_slots_18 ?_
    obtain ⟨x2_5, ex2_5, hf⟩ := g_letE hf
    refine lv_topE ex2_5 ?_
    refine lv_istore_n (lv' := [(2, .int x2_5), (0, .ref (G.2.1 39 0)), (1, .int x1)]) hx hb dX12_slots_21 rfl hl (by decide) rfl (fun ls hl => ?_)
    refine lv_iload_n hx hb dX12_slots_22 rfl (lv_at hl 0 rfl) ?_
    refine lv_istore_n (lv' := [(3, .int x2_5), (2, .int x2_5), (0, .ref (G.2.1 39 0)), (1, .int x1)]) hx hb dX12_slots_23 rfl hl (by decide) rfl (fun ls hl => ?_)
    exact lp_X12_slots_24 C0 1000 x1 x2_5 x2_5 M_1 hf hP hS (lv_sub hl [2, 3, 1, 0] rfl)
  · have hf := g_pos hf hc_4
    refine lv_iconst (v := (-1)) hx hb dX12_slots_15 (by decide) ?_
    cases hf
    exact x_iret hx hb hlocks hC hP hS hr dX12_slots_16
set_option maxRecDepth 100000 in
set_option maxHeartbeats 4000000 in
theorem ct_X12_slots (l : Launch) (G : GP) (X M : SM) (τ : SL) (x1 : Int32) {r0 : Int32} {M0 : SM} (hf : fn_X12_slots x1 M = some (r0, M0)) : Met l yX12_slots (wz yX12_slots cX12_slots 4 (some .int)) rm_X12_slots (va_Pc [.ref (G.2.1 39 0), .int x1] (g_pw G (X, M, τ))) (va_Qi (fun r u => r = r0 ∧ u = (X, M0, τ)) (g_pw G) (g_A G)) 0 0 (g_A G) := by
  refine Met.ofW (cc := cX12_slots) (maxL := 4) (ret := (some .int)) (by decide +kernel) rfl ?_
  intro p e s m args below meth c s₁ B hml hv
  obtain ⟨rfl, hC, hP⟩ := hv
  have C0 : g_mc p s m _ meth c RX12 cX12_slots (some .int) 4 G := ⟨B.exec, B.bytes, B.returns, hml, findClass_of_methodNamed B.named, fun w h => atoms_spec (ws := wz yX12_slots cX12_slots 4 (some .int)) B.pre w (List.mem_cons_of_mem _ h), B.notSynchronized, hC⟩
  have hl := lv_entry ([.ref (G.2.1 39 0), .int x1]) (n := 4) (Nat.le_of_ble_eq_true rfl)
  rw [lg_entry_eq]
  generalize (lg_sl ([.ref (G.2.1 39 0), .int x1]) ++ List.replicate (4 - (lg_sl ([.ref (G.2.1 39 0), .int x1])).length) Slot.unset).toArray = ls at hl ⊢
  exact wk_X12_slots C0  x1 M hf hP va_S.rf hl
