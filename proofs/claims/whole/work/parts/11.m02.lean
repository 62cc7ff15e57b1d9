abbrev rm_X12_isBack : Room := { frames := 0, cells := 0, slots := 0, locals := 0 }
def fn_X12_isBack (x1 : Int32) (x2 : Int32) (M : SM) : Option (Int32 × SM) :=
  if g_in (288 + x1) 693 then
  if (M 40 0 ((288 + x1).toNatClampNeg)) = 0 then
  (if g_in (288 + x1) 693 then
    g_let (u1 M 40 0 ((288 + x1).toNatClampNeg) 1) fun M_11 =>
    if g_in (144 + x1) 693 then
    g_let (u1 M_11 40 0 ((144 + x1).toNatClampNeg) x2) fun M_13 =>
    if g_in (144 + x1) 693 then
    if (M_13 40 0 ((144 + x1).toNatClampNeg)) ≤ 0 then
    (if g_in (288 + x1) 693 then
      g_let (u1 M_13 40 0 ((288 + x1).toNatClampNeg) 0) fun M_17 =>
      some (0, M_17)
      else none)
    else
    (if g_in (144 + x1) 693 then
      if g_in (144 + x1) 693 then
      g_let (u1 M_13 40 0 ((144 + x1).toNatClampNeg) ((M_13 40 0 ((144 + x1).toNatClampNeg)) - 1)) fun M_20 =>
      some (1, M_20)
      else none
      else none)
    else none
    else none
    else none)
  else
  (if g_in (144 + x1) 693 then
    if (M 40 0 ((144 + x1).toNatClampNeg)) ≤ 0 then
    (if g_in (288 + x1) 693 then
      g_let (u1 M 40 0 ((288 + x1).toNatClampNeg) 0) fun M_6 =>
      some (0, M_6)
      else none)
    else
    (if g_in (144 + x1) 693 then
      if g_in (144 + x1) 693 then
      g_let (u1 M 40 0 ((144 + x1).toNatClampNeg) ((M 40 0 ((144 + x1).toNatClampNeg)) - 1)) fun M_9 =>
      some (1, M_9)
      else none
      else none)
    else none)
  else none
set_option maxRecDepth 100000 in
set_option maxHeartbeats 4000000 in
theorem wk_X12_isBack {p : Program} {l : Launch} {e : Env} {s : State} {m : MethodId} {args : Array Value} {below : List Frame} {meth : Method} {c : Code} {G : GP} {X : SM} {τ : SL} (C0 : g_mc p s m args meth c RX12 cX12_isBack (some .boolean) 3 G) {r0 : Int32} {M0 : SM} (x1 : Int32) (x2 : Int32) (M : SM) (hf : fn_X12_isBack x1 x2 M = some (r0, M0)) {H : Heap} {locs : List Loc} (hP : va_P G.1 g_cl (wd G (cb X M) τ) H) (hS : va_S (g_A G) s.heap H locs) {ls : Array Slot} (hl : lv_has ls 3 [(0, .ref (G.2.1 39 0)), (1, .int x1), (2, .int x2)]) : W p l e rm_X12_isBack s m args below meth c H locs 0 0 (MQ below (va_Qi (fun r u => r = r0 ∧ u = (X, M0, τ)) (g_pw G) (g_A G)) args s 0 0 (g_A G)) (F0 m 0 ls []) := by
  obtain ⟨hx, hb, hr, hml, hown, hts, hlocks, hC⟩ := id C0
  unfold fn_X12_isBack at hf
  refine lv_aload_n hx hb dX12_isBack_0 rfl (lv_at hl 0 rfl) ?_
  refine gt_39_0 hx hb hts hown hC hP Nat.zero_lt_one q6_17 dX12_isBack_1 ?_
  refine lv_sipush (v := 288) hx hb dX12_isBack_4 (by decide) ?_
  refine lv_iload_n hx hb dX12_isBack_7 rfl (lv_at hl 1 rfl) ?_
  refine lv_iadd hx hb dX12_isBack_8 ?_
  obtain ⟨hg_1, hf⟩ := g_gd hf
  refine xildM (k := 40) (n := 693) hx hb hC hP (fun _ _ => rfl) rfl Nat.zero_lt_one hg_1 dX12_isBack_9 ?_
  refine lv_if_ne (tgt := 35) hx hb dX12_isBack_10 (by decide) (fun hc_2 => ?_) (fun hc_2 => ?_)
  · have hf := g_neg hf hc_2
    refine lv_aload_n hx hb dX12_isBack_35 rfl (lv_at hl 0 rfl) ?_
    refine gt_39_0 hx hb hts hown hC hP Nat.zero_lt_one q6_17 dX12_isBack_36 ?_
    refine lv_sipush (v := 144) hx hb dX12_isBack_39 (by decide) ?_
    refine lv_iload_n hx hb dX12_isBack_42 rfl (lv_at hl 1 rfl) ?_
    refine lv_iadd hx hb dX12_isBack_43 ?_
    obtain ⟨hg_3, hf⟩ := g_gd hf
    refine xildM (k := 40) (n := 693) hx hb hC hP (fun _ _ => rfl) rfl Nat.zero_lt_one hg_3 dX12_isBack_44 ?_
    refine lv_if_le (tgt := 64) hx hb dX12_isBack_45 (by decide) (fun hc_4 => ?_) (fun hc_4 => ?_)
    · have hf := g_pos hf hc_4
      refine lv_aload_n hx hb dX12_isBack_64 rfl (lv_at hl 0 rfl) ?_
      refine gt_39_0 hx hb hts hown hC hP Nat.zero_lt_one q6_17 dX12_isBack_65 ?_
      refine lv_sipush (v := 288) hx hb dX12_isBack_68 (by decide) ?_
      refine lv_iload_n hx hb dX12_isBack_71 rfl (lv_at hl 1 rfl) ?_
      refine lv_iadd hx hb dX12_isBack_72 ?_
      refine lv_iconst (v := 0) hx hb dX12_isBack_73 (by decide) ?_
      obtain ⟨hg_5, hf⟩ := g_gd hf
      obtain ⟨M_6, eM_6, hf⟩ := g_letE hf
      refine xistM (k := 40) (n := 693) hx hb hC hP hS (fun _ _ => rfl) rfl Nat.zero_lt_one hg_5 dX12_isBack_74 (fun H locs hP hS => ?_)
      rw [eM_6] at hP
      refine lv_iconst (v := 0) hx hb dX12_isBack_75 (by decide) ?_
      cases hf
      exact x_zret hx hb hlocks hC hP hS hr (Or.inl rfl) dX12_isBack_76
    · have hf := g_neg hf hc_4
      refine lv_aload_n hx hb dX12_isBack_48 rfl (lv_at hl 0 rfl) ?_
      refine gt_39_0 hx hb hts hown hC hP Nat.zero_lt_one q6_17 dX12_isBack_49 ?_
      refine lv_sipush (v := 144) hx hb dX12_isBack_52 (by decide) ?_
      refine lv_iload_n hx hb dX12_isBack_55 rfl (lv_at hl 1 rfl) ?_
      refine lv_iadd hx hb dX12_isBack_56 ?_
      refine lv_dup2_11 hx hb dX12_isBack_57 rfl rfl ?_
      obtain ⟨hg_7, hf⟩ := g_gd hf
      refine xildM (k := 40) (n := 693) hx hb hC hP (fun _ _ => rfl) rfl Nat.zero_lt_one hg_7 dX12_isBack_58 ?_
      refine lv_iconst (v := 1) hx hb dX12_isBack_59 (by decide) ?_
      refine lv_isub hx hb dX12_isBack_60 ?_
      obtain ⟨hg_8, hf⟩ := g_gd hf
      obtain ⟨M_9, eM_9, hf⟩ := g_letE hf
      refine xistM (k := 40) (n := 693) hx hb hC hP hS (fun _ _ => rfl) rfl Nat.zero_lt_one hg_8 dX12_isBack_61 (fun H locs hP hS => ?_)
      rw [eM_9] at hP
      refine lv_iconst (v := 1) hx hb dX12_isBack_62 (by decide) ?_
      cases hf
      exact x_zret hx hb hlocks hC hP hS hr (Or.inr rfl) dX12_isBack_63
  · have hf := g_pos hf hc_2
    refine lv_aload_n hx hb dX12_isBack_13 rfl (lv_at hl 0 rfl) ?_
    refine gt_39_0 hx hb hts hown hC hP Nat.zero_lt_one q6_17 dX12_isBack_14 ?_
    refine lv_sipush (v := 288) hx hb dX12_isBack_17 (by decide) ?_
    refine lv_iload_n hx hb dX12_isBack_20 rfl (lv_at hl 1 rfl) ?_
    refine lv_iadd hx hb dX12_isBack_21 ?_
    refine lv_iconst (v := 1) hx hb dX12_isBack_22 (by decide) ?_
    obtain ⟨hg_10, hf⟩ := g_gd hf
    obtain ⟨M_11, eM_11, hf⟩ := g_letE hf
    refine xistM (k := 40) (n := 693) hx hb hC hP hS (fun _ _ => rfl) rfl Nat.zero_lt_one hg_10 dX12_isBack_23 (fun H locs hP hS => ?_)
    rw [eM_11] at hP
    refine lv_aload_n hx hb dX12_isBack_24 rfl (lv_at hl 0 rfl) ?_
    refine gt_39_0 hx hb hts hown hC hP Nat.zero_lt_one q6_17 dX12_isBack_25 ?_
    refine lv_sipush (v := 144) hx hb dX12_isBack_28 (by decide) ?_
    refine lv_iload_n hx hb dX12_isBack_31 rfl (lv_at hl 1 rfl) ?_
    refine lv_iadd hx hb dX12_isBack_32 ?_
    refine lv_iload_n hx hb dX12_isBack_33 rfl (lv_at hl 2 rfl) ?_
    obtain ⟨hg_12, hf⟩ := g_gd hf
    obtain ⟨M_13, eM_13, hf⟩ := g_letE hf
    refine xistM (k := 40) (n := 693) hx hb hC hP hS (fun _ _ => rfl) rfl Nat.zero_lt_one hg_12 dX12_isBack_34 (fun H locs hP hS => ?_)
    rw [eM_13] at hP
    refine lv_aload_n hx hb dX12_isBack_35 rfl (lv_at hl 0 rfl) ?_
    refine gt_39_0 hx hb hts hown hC hP Nat.zero_lt_one q6_17 dX12_isBack_36 ?_
    refine lv_sipush (v := 144) hx hb dX12_isBack_39 (by decide) ?_
    refine lv_iload_n hx hb dX12_isBack_42 rfl (lv_at hl 1 rfl) ?_
    refine lv_iadd hx hb dX12_isBack_43 ?_
    obtain ⟨hg_14, hf⟩ := g_gd hf
    refine xildM (k := 40) (n := 693) hx hb hC hP (fun _ _ => rfl) rfl Nat.zero_lt_one hg_14 dX12_isBack_44 ?_
    refine lv_if_le (tgt := 64) hx hb dX12_isBack_45 (by decide) (fun hc_15 => ?_) (fun hc_15 => ?_)
    · have hf := g_pos hf hc_15
      refine lv_aload_n hx hb dX12_isBack_64 rfl (lv_at hl 0 rfl) ?_
      refine gt_39_0 hx hb hts hown hC hP Nat.zero_lt_one q6_17 dX12_isBack_65 ?_
      refine lv_sipush (v := 288) hx hb dX12_isBack_68 (by decide) ?_
      refine lv_iload_n hx hb dX12_isBack_71 rfl (lv_at hl 1 rfl) ?_
      refine lv_iadd hx hb dX12_isBack_72 ?_
      refine lv_iconst (v := 0) hx hb dX12_isBack_73 (by decide) ?_
      obtain ⟨hg_16, hf⟩ := g_gd hf
      obtain ⟨M_17, eM_17, hf⟩ := g_letE hf
      refine xistM (k := 40) (n := 693) hx hb hC hP hS (fun _ _ => rfl) rfl Nat.zero_lt_one hg_16 dX12_isBack_74 (fun H locs hP hS => ?_)
      rw [eM_17] at hP
      refine lv_iconst (v := 0) hx hb dX12_isBack_75 (by decide) ?_
      cases hf
      exact x_zret hx hb hlocks hC hP hS hr (Or.inl rfl) dX12_isBack_76
    · have hf := g_neg hf hc_15
      refine lv_aload_n hx hb dX12_isBack_48 rfl (lv_at hl 0 rfl) ?_
      refine gt_39_0 hx hb hts hown hC hP Nat.zero_lt_one q6_17 dX12_isBack_49 ?_
      refine lv_sipush (v := 144) hx hb dX12_isBack_52 (by decide) ?_
      refine lv_iload_n hx hb dX12_isBack_55 rfl (lv_at hl 1 rfl) ?_
      refine lv_iadd hx hb dX12_isBack_56 ?_
      refine lv_dup2_11 hx hb dX12_isBack_57 rfl rfl ?_
      obtain ⟨hg_18, hf⟩ := g_gd hf
      refine xildM (k := 40) (n := 693) hx hb hC hP (fun _ _ => rfl) rfl Nat.zero_lt_one hg_18 dX12_isBack_58 ?_
      refine lv_iconst (v := 1) hx hb dX12_isBack_59 (by decide) ?_
      refine lv_isub hx hb dX12_isBack_60 ?_
      obtain ⟨hg_19, hf⟩ := g_gd hf
      obtain ⟨M_20, eM_20, hf⟩ := g_letE hf
      refine xistM (k := 40) (n := 693) hx hb hC hP hS (fun _ _ => rfl) rfl Nat.zero_lt_one hg_19 dX12_isBack_61 (fun H locs hP hS => ?_)
      rw [eM_20] at hP
      refine lv_iconst (v := 1) hx hb dX12_isBack_62 (by decide) ?_
      cases hf
      exact x_zret hx hb hlocks hC hP hS hr (Or.inr rfl) dX12_isBack_63
set_option maxRecDepth 100000 in
set_option maxHeartbeats 4000000 in
theorem ct_X12_isBack (l : Launch) (G : GP) (X M : SM) (τ : SL) (x1 : Int32) (x2 : Int32) {r0 : Int32} {M0 : SM} (hf : fn_X12_isBack x1 x2 M = some (r0, M0)) : Met l yX12_isBack (wz yX12_isBack cX12_isBack 3 (some .boolean)) rm_X12_isBack (va_Pc [.ref (G.2.1 39 0), .int x1, .int x2] (g_pw G (X, M, τ))) (va_Qi (fun r u => r = r0 ∧ u = (X, M0, τ)) (g_pw G) (g_A G)) 0 0 (g_A G) := by
  refine Met.ofW (cc := cX12_isBack) (maxL := 3) (ret := (some .boolean)) (by decide) rfl ?_
  intro p e s m args below meth c s₁ B hml hv
  obtain ⟨rfl, hC, hP⟩ := hv
  have C0 : g_mc p s m _ meth c RX12 cX12_isBack (some .boolean) 3 G := ⟨B.exec, B.bytes, B.returns, hml, findClass_of_methodNamed B.named, fun w h => atoms_spec (ws := wz yX12_isBack cX12_isBack 3 (some .boolean)) B.pre w (List.mem_cons_of_mem _ h), B.notSynchronized, hC⟩
  have hl := lv_entry ([.ref (G.2.1 39 0), .int x1, .int x2]) (n := 3) (Nat.le_of_ble_eq_true rfl)
  rw [lg_entry_eq]
  generalize (lg_sl ([.ref (G.2.1 39 0), .int x1, .int x2]) ++ List.replicate (3 - (lg_sl ([.ref (G.2.1 39 0), .int x1, .int x2])).length) Slot.unset).toArray = ls at hl ⊢
  exact wk_X12_isBack C0 x1 x2 M hf hP va_S.rf hl
abbrev rm_X12_goesTo : Room := { frames := 0, cells := 0, slots := 0, locals := 0 }
def fn_X12_goesTo (x1 : Int32) (x2 : Int32) (M : SM) : Option (SM) :=
  if g_in (432 + x1) 693 then
  g_let (u1 M 40 0 ((432 + x1).toNatClampNeg) x2) fun M_2 =>
  if g_in x1 6 then
  if (M_2 43 0 (x1.toNatClampNeg)) ≤ x2 then
  (if g_in (432 + x1) 693 then
    g_let (u1 M_2 40 0 ((432 + x1).toNatClampNeg) 0) fun M_6 =>
    if g_in (462 + x1) 693 then
    if g_in (462 + x1) 693 then
    g_let (u1 M_6 40 0 ((462 + x1).toNatClampNeg) ((M_6 40 0 ((462 + x1).toNatClampNeg)) + 1)) fun M_9 =>
    some M_9
    else none
    else none
    else none)
  else
  (some M_2)
  else none
  else none
set_option maxRecDepth 100000 in
set_option maxHeartbeats 4000000 in
theorem wk_X12_goesTo {p : Program} {l : Launch} {e : Env} {s : State} {m : MethodId} {args : Array Value} {below : List Frame} {meth : Method} {c : Code} {G : GP} {X : SM} {τ : SL} (C0 : g_mc p s m args meth c RX12 cX12_goesTo none 3 G) {M0 : SM} (x1 : Int32) (x2 : Int32) (M : SM) (hf : fn_X12_goesTo x1 x2 M = some M0) {H : Heap} {locs : List Loc} (hP : va_P G.1 g_cl (wd G (cb X M) τ) H) (hS : va_S (g_A G) s.heap H locs) {ls : Array Slot} (hl : lv_has ls 3 [(0, .ref (G.2.1 39 0)), (1, .int x1), (2, .int x2)]) : W p l e rm_X12_goesTo s m args below meth c H locs 0 0 (MQ below (va_Qv (fun u => u = (X, M0, τ)) (g_pw G) (g_A G)) args s 0 0 (g_A G)) (F0 m 0 ls []) := by
  obtain ⟨hx, hb, hr, hml, hown, hts, hlocks, hC⟩ := id C0
  unfold fn_X12_goesTo at hf
  refine lv_aload_n hx hb dX12_goesTo_0 rfl (lv_at hl 0 rfl) ?_
  refine gt_39_0 hx hb hts hown hC hP Nat.zero_lt_one q6_17 dX12_goesTo_1 ?_
  refine lv_sipush (v := 432) hx hb dX12_goesTo_4 (by decide) ?_
  refine lv_iload_n hx hb dX12_goesTo_7 rfl (lv_at hl 1 rfl) ?_
  refine lv_iadd hx hb dX12_goesTo_8 ?_
  refine lv_iload_n hx hb dX12_goesTo_9 rfl (lv_at hl 2 rfl) ?_
  obtain ⟨hg_1, hf⟩ := g_gd hf
  obtain ⟨M_2, eM_2, hf⟩ := g_letE hf
  refine xistM (k := 40) (n := 693) hx hb hC hP hS (fun _ _ => rfl) rfl Nat.zero_lt_one hg_1 dX12_goesTo_10 (fun H locs hP hS => ?_)
  rw [eM_2] at hP
  refine lv_iload_n hx hb dX12_goesTo_11 rfl (lv_at hl 2 rfl) ?_
  refine lv_aload_n hx hb dX12_goesTo_12 rfl (lv_at hl 0 rfl) ?_
  refine gt_39_3 hx hb hts hown hC hP Nat.zero_lt_one q6_20 dX12_goesTo_13 ?_
  refine lv_iload_n hx hb dX12_goesTo_16 rfl (lv_at hl 1 rfl) ?_
  obtain ⟨hg_3, hf⟩ := g_gd hf
  refine xildM (k := 43) (n := 6) hx hb hC hP (fun _ _ => rfl) rfl Nat.zero_lt_one hg_3 dX12_goesTo_17 ?_
  refine lv_icmp_ge (tgt := 22) hx hb dX12_goesTo_18 (by decide) (fun hc_4 => ?_) (fun hc_4 => ?_)
  · have hf := g_pos hf hc_4
    refine lv_aload_n hx hb dX12_goesTo_22 rfl (lv_at hl 0 rfl) ?_
    refine gt_39_0 hx hb hts hown hC hP Nat.zero_lt_one q6_17 dX12_goesTo_23 ?_
    refine lv_sipush (v := 432) hx hb dX12_goesTo_26 (by decide) ?_
    refine lv_iload_n hx hb dX12_goesTo_29 rfl (lv_at hl 1 rfl) ?_
    refine lv_iadd hx hb dX12_goesTo_30 ?_
    refine lv_iconst (v := 0) hx hb dX12_goesTo_31 (by decide) ?_
    obtain ⟨hg_5, hf⟩ := g_gd hf
    obtain ⟨M_6, eM_6, hf⟩ := g_letE hf
    refine xistM (k := 40) (n := 693) hx hb hC hP hS (fun _ _ => rfl) rfl Nat.zero_lt_one hg_5 dX12_goesTo_32 (fun H locs hP hS => ?_)
    rw [eM_6] at hP
    refine lv_aload_n hx hb dX12_goesTo_33 rfl (lv_at hl 0 rfl) ?_
    refine gt_39_0 hx hb hts hown hC hP Nat.zero_lt_one q6_17 dX12_goesTo_34 ?_
    refine lv_sipush (v := 462) hx hb dX12_goesTo_37 (by decide) ?_
    refine lv_iload_n hx hb dX12_goesTo_40 rfl (lv_at hl 1 rfl) ?_
    refine lv_iadd hx hb dX12_goesTo_41 ?_
    refine lv_dup2_11 hx hb dX12_goesTo_42 rfl rfl ?_
    obtain ⟨hg_7, hf⟩ := g_gd hf
    refine xildM (k := 40) (n := 693) hx hb hC hP (fun _ _ => rfl) rfl Nat.zero_lt_one hg_7 dX12_goesTo_43 ?_
    refine lv_iconst (v := 1) hx hb dX12_goesTo_44 (by decide) ?_
    refine lv_iadd hx hb dX12_goesTo_45 ?_
    obtain ⟨hg_8, hf⟩ := g_gd hf
    obtain ⟨M_9, eM_9, hf⟩ := g_letE hf
    refine xistM (k := 40) (n := 693) hx hb hC hP hS (fun _ _ => rfl) rfl Nat.zero_lt_one hg_8 dX12_goesTo_46 (fun H locs hP hS => ?_)
    rw [eM_9] at hP
    cases hf
    exact x_vret hx hb hlocks hC hP hS hr dX12_goesTo_47
  · have hf := g_neg hf hc_4
    cases hf
    exact x_vret hx hb hlocks hC hP hS hr dX12_goesTo_21
set_option maxRecDepth 100000 in
set_option maxHeartbeats 4000000 in
theorem ct_X12_goesTo (l : Launch) (G : GP) (X M : SM) (τ : SL) (x1 : Int32) (x2 : Int32) {M0 : SM} (hf : fn_X12_goesTo x1 x2 M = some M0) : Met l yX12_goesTo (wz yX12_goesTo cX12_goesTo 3 none) rm_X12_goesTo (va_Pc [.ref (G.2.1 39 0), .int x1, .int x2] (g_pw G (X, M, τ))) (va_Qv (fun u => u = (X, M0, τ)) (g_pw G) (g_A G)) 0 0 (g_A G) := by
  refine Met.ofW (cc := cX12_goesTo) (maxL := 3) (ret := none) (by decide) rfl ?_
  intro p e s m args below meth c s₁ B hml hv
  obtain ⟨rfl, hC, hP⟩ := hv
  have C0 : g_mc p s m _ meth c RX12 cX12_goesTo none 3 G := ⟨B.exec, B.bytes, B.returns, hml, findClass_of_methodNamed B.named, fun w h => atoms_spec (ws := wz yX12_goesTo cX12_goesTo 3 none) B.pre w (List.mem_cons_of_mem _ h), B.notSynchronized, hC⟩
  have hl := lv_entry ([.ref (G.2.1 39 0), .int x1, .int x2]) (n := 3) (Nat.le_of_ble_eq_true rfl)
  rw [lg_entry_eq]
  generalize (lg_sl ([.ref (G.2.1 39 0), .int x1, .int x2]) ++ List.replicate (3 - (lg_sl ([.ref (G.2.1 39 0), .int x1, .int x2])).length) Slot.unset).toArray = ls at hl ⊢
  exact wk_X12_goesTo C0 x1 x2 M hf hP va_S.rf hl
abbrev rm_X12_waits : Room := { frames := 1, cells := 0, slots := 0, locals := 27 }
def wb_X12_waits_120 (x1 : Int32) (x3 : Int32) (x4 : Int32) (x5 : Int32) (xs0 : Int32) (M : SM) : Option (SM) :=
  if xs0 = 0 then
  (if x3 = 11 then
    ((fn_X12_reg x1 x5 M).bind fun r_25 =>
      (fn_X12_writes x4 r_25 xs0 M).bind fun M_27 =>
      some M_27)
    else
    (if g_in (486 + x4) 693 then
      (fn_X12_gets x1 x5 (M 40 0 ((486 + x4).toNatClampNeg)) M).bind fun M_23 =>
      some M_23
      else none))
  else
  (if g_in (474 + x1) 693 then
    if g_in (474 + x1) 693 then
    g_let (u1 M 40 0 ((474 + x1).toNatClampNeg) ((M 40 0 ((474 + x1).toNatClampNeg)) + 1)) fun M_31 =>
    if x3 = 11 then
    ((fn_X12_reg x1 x5 M_31).bind fun r_36 =>
      (fn_X12_writes x4 r_36 xs0 M_31).bind fun M_38 =>
      some M_38)
    else
    (if g_in (486 + x4) 693 then
      (fn_X12_gets x1 x5 (M_31 40 0 ((486 + x4).toNatClampNeg)) M_31).bind fun M_34 =>
      some M_34
      else none)
    else none
    else none)
set_option maxRecDepth 100000 in
set_option maxHeartbeats 4000000 in
theorem bk_X12_waits_120 {p : Program} {l : Launch} {e : Env} {s : State} {m : MethodId} {args : Array Value} {below : List Frame} {meth : Method} {c : Code} {G : GP} {X : SM} {τ : SL} (C0 : g_mc p s m args meth c RX12 cX12_waits none 9 G) {M0 : SM} (x1 : Int32) (x3 : Int32) (x4 : Int32) (x5 : Int32) (xs0 : Int32) (M : SM) (hf : wb_X12_waits_120 x1 x3 x4 x5 xs0 M = some M0) {H : Heap} {locs : List Loc} (hP : va_P G.1 g_cl (wd G (cb X M) τ) H) (hS : va_S (g_A G) s.heap H locs) {ls : Array Slot} (hl : lv_has ls 9 [(0, .ref (G.2.1 39 0)), (1, .int x1), (3, .int x3), (4, .int x4), (5, .int x5)]) : W p l e rm_X12_waits s m args below meth c H locs 0 0 (MQ below (va_Qv (fun u => u = (X, M0, τ)) (g_pw G) (g_A G)) args s 0 0 (g_A G)) (F0 m 120 ls [.int xs0]) := by
  obtain ⟨hx, hb, hr, hml, hown, hts, hlocks, hC⟩ := id C0
  unfold wb_X12_waits_120 at hf
  refine lv_istore (lv' := [(8, .int xs0), (0, .ref (G.2.1 39 0)), (1, .int x1), (3, .int x3), (4, .int x4), (5, .int x5)]) hx hb dX12_waits_120 hl (by decide) rfl (fun ls hl => ?_)
  refine lv_iload hx hb dX12_waits_122 (lv_at hl 0 rfl) ?_
  refine lv_if_eq (tgt := 141) hx hb dX12_waits_124 (by decide) (fun hc_20 => ?_) (fun hc_20 => ?_)
  · have hf := g_pos hf hc_20
    refine lv_iload_n hx hb dX12_waits_141 rfl (lv_at hl 3 rfl) ?_
    refine lv_bipush (v := 11) hx hb dX12_waits_142 (by decide) ?_
    refine lv_icmp_ne (tgt := 165) hx hb dX12_waits_144 (by decide) (fun hc_21 => ?_) (fun hc_21 => ?_)
    · have hf := g_neg hf hc_21
      refine lv_aload_n hx hb dX12_waits_165 rfl (lv_at hl 1 rfl) ?_
      refine lv_iload_n hx hb dX12_waits_166 rfl (lv_at hl 2 rfl) ?_
      refine lv_iload hx hb dX12_waits_167 (lv_at hl 5 rfl) ?_
      refine lv_aload_n hx hb dX12_waits_169 rfl (lv_at hl 1 rfl) ?_
      refine gt_39_0 hx hb hts hown hC hP Nat.zero_lt_one q6_17 dX12_waits_170 ?_
      refine lv_sipush (v := 486) hx hb dX12_waits_173 (by decide) ?_
      refine lv_iload hx hb dX12_waits_176 (lv_at hl 4 rfl) ?_
      refine lv_iadd hx hb dX12_waits_178 ?_
      obtain ⟨hg_22, hf⟩ := g_gd hf
      refine xildM (k := 40) (n := 693) hx hb hC hP (fun _ _ => rfl) rfl Nat.zero_lt_one hg_22 dX12_waits_179 ?_
      obtain ⟨M_23, hc_24, hf⟩ := g_bindE hf
      refine x_callv (v := (X, M_23, τ)) (va_runV (As := [.int x1, .int x5, .int (M 40 0 ((486 + x4).toNatClampNeg))]) (rest := []) ⟨hx, hb, hml, hown, hts⟩ (ct_X12_gets l G X M τ x1 x5 (M 40 0 ((486 + x4).toNatClampNeg)) hc_24) (cwV 3 hts gd_X12_123 rfl rfl rfl hd_X12_gets ⟨Nat.le_of_ble_eq_true rfl, Nat.le_of_ble_eq_true rfl⟩) (x_preV (u := (X, M, τ)) (k := 39) (ci := 12) hC hS hP Nat.zero_lt_one rfl rfl) rfl rfl hl.1 rfl (lv_room (Nat.le_of_ble_eq_true rfl)) dX12_waits_180 ⟨Nat.le_refl _, Nat.le_refl _⟩) hS (fun H locs hP hS => ?_)
      cases hf
      exact x_vret hx hb hlocks hC hP hS hr dX12_waits_183
    · have hf := g_pos hf hc_21
      refine lv_aload_n hx hb dX12_waits_147 rfl (lv_at hl 1 rfl) ?_
      refine lv_iload hx hb dX12_waits_148 (lv_at hl 4 rfl) ?_
      refine lv_aload_n hx hb dX12_waits_150 rfl (lv_at hl 1 rfl) ?_
      refine lv_iload_n hx hb dX12_waits_151 rfl (lv_at hl 2 rfl) ?_
      refine lv_iload hx hb dX12_waits_152 (lv_at hl 5 rfl) ?_
      obtain ⟨r_25, hc_26, hf⟩ := g_bindE hf
      refine x_calli (v := (X, M, τ)) (va_runV (As := [.int x1, .int x5]) (rest := [.int x4, .ref (G.2.1 39 0)]) ⟨hx, hb, hml, hown, hts⟩ (ct_X12_reg l G X M τ x1 x5 hc_26) (cwV 2 hts gd_X12_139 rfl rfl rfl hd_X12_reg ⟨Nat.le_of_ble_eq_true rfl, Nat.le_of_ble_eq_true rfl⟩) (x_preV (u := (X, M, τ)) (k := 39) (ci := 12) hC hS hP Nat.zero_lt_one rfl rfl) rfl rfl hl.1 rfl (lv_room (Nat.le_of_ble_eq_true rfl)) dX12_waits_154 ⟨Nat.le_refl _, Nat.le_refl _⟩) hS (fun H locs hP hS => ?_)
      refine lv_iload hx hb dX12_waits_157 (lv_at hl 0 rfl) ?_
      obtain ⟨M_27, hc_28, hf⟩ := g_bindE hf
      refine x_callv (v := (X, M_27, τ)) (va_runV (As := [.int x4, .int r_25, .int xs0]) (rest := []) ⟨hx, hb, hml, hown, hts⟩ (ct_X12_writes l G X M τ x4 r_25 xs0 hc_28) (cwV 3 hts gd_X12_119 rfl rfl rfl hd_X12_writes ⟨Nat.le_of_ble_eq_true rfl, Nat.le_of_ble_eq_true rfl⟩) (x_preV (u := (X, M, τ)) (k := 39) (ci := 12) hC hS hP Nat.zero_lt_one rfl rfl) rfl rfl hl.1 rfl (lv_room (Nat.le_of_ble_eq_true rfl)) dX12_waits_159 ⟨Nat.le_refl _, Nat.le_refl _⟩) hS (fun H locs hP hS => ?_)
      refine lv_goto (tgt := 183) hx hb dX12_waits_162 (by decide) ?_
      cases hf
      exact x_vret hx hb hlocks hC hP hS hr dX12_waits_183
  · have hf := g_neg hf hc_20
    refine lv_aload_n hx hb dX12_waits_127 rfl (lv_at hl 1 rfl) ?_
    refine gt_39_0 hx hb hts hown hC hP Nat.zero_lt_one q6_17 dX12_waits_128 ?_
    refine lv_sipush (v := 474) hx hb dX12_waits_131 (by decide) ?_
    refine lv_iload_n hx hb dX12_waits_134 rfl (lv_at hl 2 rfl) ?_
    refine lv_iadd hx hb dX12_waits_135 ?_
    refine lv_dup2_11 hx hb dX12_waits_136 rfl rfl ?_
    obtain ⟨hg_29, hf⟩ := g_gd hf
    refine xildM (k := 40) (n := 693) hx hb hC hP (fun _ _ => rfl) rfl Nat.zero_lt_one hg_29 dX12_waits_137 ?_
    refine lv_iconst (v := 1) hx hb dX12_waits_138 (by decide) ?_
    refine lv_iadd hx hb dX12_waits_139 ?_
    obtain ⟨hg_30, hf⟩ := g_gd hf
    obtain ⟨M_31, eM_31, hf⟩ := g_letE hf
    refine xistM (k := 40) (n := 693) hx hb hC hP hS (fun _ _ => rfl) rfl Nat.zero_lt_one hg_30 dX12_waits_140 (fun H locs hP hS => ?_)
    rw [eM_31] at hP
    refine lv_iload_n hx hb dX12_waits_141 rfl (lv_at hl 3 rfl) ?_
    refine lv_bipush (v := 11) hx hb dX12_waits_142 (by decide) ?_
    refine lv_icmp_ne (tgt := 165) hx hb dX12_waits_144 (by decide) (fun hc_32 => ?_) (fun hc_32 => ?_)
    · have hf := g_neg hf hc_32
      refine lv_aload_n hx hb dX12_waits_165 rfl (lv_at hl 1 rfl) ?_
      refine lv_iload_n hx hb dX12_waits_166 rfl (lv_at hl 2 rfl) ?_
      refine lv_iload hx hb dX12_waits_167 (lv_at hl 5 rfl) ?_
      refine lv_aload_n hx hb dX12_waits_169 rfl (lv_at hl 1 rfl) ?_
      refine gt_39_0 hx hb hts hown hC hP Nat.zero_lt_one q6_17 dX12_waits_170 ?_
      refine lv_sipush (v := 486) hx hb dX12_waits_173 (by decide) ?_
      refine lv_iload hx hb dX12_waits_176 (lv_at hl 4 rfl) ?_
      refine lv_iadd hx hb dX12_waits_178 ?_
      obtain ⟨hg_33, hf⟩ := g_gd hf
      refine xildM (k := 40) (n := 693) hx hb hC hP (fun _ _ => rfl) rfl Nat.zero_lt_one hg_33 dX12_waits_179 ?_
      obtain ⟨M_34, hc_35, hf⟩ := g_bindE hf
      refine x_callv (v := (X, M_34, τ)) (va_runV (As := [.int x1, .int x5, .int (M_31 40 0 ((486 + x4).toNatClampNeg))]) (rest := []) ⟨hx, hb, hml, hown, hts⟩ (ct_X12_gets l G X M_31 τ x1 x5 (M_31 40 0 ((486 + x4).toNatClampNeg)) hc_35) (cwV 3 hts gd_X12_123 rfl rfl rfl hd_X12_gets ⟨Nat.le_of_ble_eq_true rfl, Nat.le_of_ble_eq_true rfl⟩) (x_preV (u := (X, M_31, τ)) (k := 39) (ci := 12) hC hS hP Nat.zero_lt_one rfl rfl) rfl rfl hl.1 rfl (lv_room (Nat.le_of_ble_eq_true rfl)) dX12_waits_180 ⟨Nat.le_refl _, Nat.le_refl _⟩) hS (fun H locs hP hS => ?_)
      cases hf
      exact x_vret hx hb hlocks hC hP hS hr dX12_waits_183
    · have hf := g_pos hf hc_32
      refine lv_aload_n hx hb dX12_waits_147 rfl (lv_at hl 1 rfl) ?_
      refine lv_iload hx hb dX12_waits_148 (lv_at hl 4 rfl) ?_
      refine lv_aload_n hx hb dX12_waits_150 rfl (lv_at hl 1 rfl) ?_
      refine lv_iload_n hx hb dX12_waits_151 rfl (lv_at hl 2 rfl) ?_
      refine lv_iload hx hb dX12_waits_152 (lv_at hl 5 rfl) ?_
      obtain ⟨r_36, hc_37, hf⟩ := g_bindE hf
      refine x_calli (v := (X, M_31, τ)) (va_runV (As := [.int x1, .int x5]) (rest := [.int x4, .ref (G.2.1 39 0)]) ⟨hx, hb, hml, hown, hts⟩ (ct_X12_reg l G X M_31 τ x1 x5 hc_37) (cwV 2 hts gd_X12_139 rfl rfl rfl hd_X12_reg ⟨Nat.le_of_ble_eq_true rfl, Nat.le_of_ble_eq_true rfl⟩) (x_preV (u := (X, M_31, τ)) (k := 39) (ci := 12) hC hS hP Nat.zero_lt_one rfl rfl) rfl rfl hl.1 rfl (lv_room (Nat.le_of_ble_eq_true rfl)) dX12_waits_154 ⟨Nat.le_refl _, Nat.le_refl _⟩) hS (fun H locs hP hS => ?_)
      refine lv_iload hx hb dX12_waits_157 (lv_at hl 0 rfl) ?_
      obtain ⟨M_38, hc_39, hf⟩ := g_bindE hf
      refine x_callv (v := (X, M_38, τ)) (va_runV (As := [.int x4, .int r_36, .int xs0]) (rest := []) ⟨hx, hb, hml, hown, hts⟩ (ct_X12_writes l G X M_31 τ x4 r_36 xs0 hc_39) (cwV 3 hts gd_X12_119 rfl rfl rfl hd_X12_writes ⟨Nat.le_of_ble_eq_true rfl, Nat.le_of_ble_eq_true rfl⟩) (x_preV (u := (X, M_31, τ)) (k := 39) (ci := 12) hC hS hP Nat.zero_lt_one rfl rfl) rfl rfl hl.1 rfl (lv_room (Nat.le_of_ble_eq_true rfl)) dX12_waits_159 ⟨Nat.le_refl _, Nat.le_refl _⟩) hS (fun H locs hP hS => ?_)
      refine lv_goto (tgt := 183) hx hb dX12_waits_162 (by decide) ?_
      cases hf
      exact x_vret hx hb hlocks hC hP hS hr dX12_waits_183
def wb_X12_waits_15 (x1 : Int32) (x2 : Int32) (x3 : Int32) (x4 : Int32) (x5 : Int32) (xs0 : Int32) (xs1 : Int32) (M : SM) : Option (SM) :=
  (fn_X12_reg xs1 xs0 M).bind fun r_2 =>
  if r_2 ≤ (M 40 0 683) then
  (if x3 = 14 then
    (some M)
    else
    (if (M 40 0 683) ≤ r_2 then
      (wb_X12_waits_120 x1 x3 x4 x5 0 M)
      else
      (wb_X12_waits_120 x1 x3 x4 x5 1 M)))
  else
  (if g_in (438 + x1) 693 then
    g_let (u1 M 40 0 ((438 + x1).toNatClampNeg) 1) fun M_8 =>
    if g_in (468 + x1) 693 then
    g_let (u1 M_8 40 0 ((468 + x1).toNatClampNeg) r_2) fun M_10 =>
    if g_in (480 + x1) 693 then
    g_let (u1 M_10 40 0 ((480 + x1).toNatClampNeg) x2) fun M_12 =>
    if x3 = 14 then
    (if g_in (687 + x1) 693 then
      g_let (u1 M_12 40 0 ((687 + x1).toNatClampNeg) 0) fun M_19 =>
      some M_19
      else none)
    else
    ((fn_X12_reg x1 x5 M_12).bind fun r_14 =>
      if g_in (687 + x1) 693 then
      g_let (u1 M_12 40 0 ((687 + x1).toNatClampNeg) r_14) fun M_17 =>
      some M_17
      else none)
    else none
    else none
    else none)
set_option maxRecDepth 100000 in
set_option maxHeartbeats 4000000 in
theorem bk_X12_waits_15 {p : Program} {l : Launch} {e : Env} {s : State} {m : MethodId} {args : Array Value} {below : List Frame} {meth : Method} {c : Code} {G : GP} {X : SM} {τ : SL} (C0 : g_mc p s m args meth c RX12 cX12_waits none 9 G) {M0 : SM} (x1 : Int32) (x2 : Int32) (x3 : Int32) (x4 : Int32) (x5 : Int32) (xs0 : Int32) (xs1 : Int32) (M : SM) (hf : wb_X12_waits_15 x1 x2 x3 x4 x5 xs0 xs1 M = some M0) {H : Heap} {locs : List Loc} (hP : va_P G.1 g_cl (wd G (cb X M) τ) H) (hS : va_S (g_A G) s.heap H locs) {ls : Array Slot} (hl : lv_has ls 9 [(0, .ref (G.2.1 39 0)), (1, .int x1), (2, .int x2), (3, .int x3), (4, .int x4), (5, .int x5)]) : W p l e rm_X12_waits s m args below meth c H locs 0 0 (MQ below (va_Qv (fun u => u = (X, M0, τ)) (g_pw G) (g_A G)) args s 0 0 (g_A G)) (F0 m 15 ls [.int xs0, .int xs1, .ref (G.2.1 39 0)]) := by
  obtain ⟨hx, hb, hr, hml, hown, hts, hlocks, hC⟩ := id C0
  unfold wb_X12_waits_15 at hf
  obtain ⟨r_2, hc_3, hf⟩ := g_bindE hf
  refine x_calli (v := (X, M, τ)) (va_runV (As := [.int xs1, .int xs0]) (rest := []) ⟨hx, hb, hml, hown, hts⟩ (ct_X12_reg l G X M τ xs1 xs0 hc_3) (cwV 2 hts gd_X12_139 rfl rfl rfl hd_X12_reg ⟨Nat.le_of_ble_eq_true rfl, Nat.le_of_ble_eq_true rfl⟩) (x_preV (u := (X, M, τ)) (k := 39) (ci := 12) hC hS hP Nat.zero_lt_one rfl rfl) rfl rfl hl.1 rfl (lv_room (Nat.le_of_ble_eq_true rfl)) dX12_waits_15 ⟨Nat.le_refl _, Nat.le_refl _⟩) hS (fun H locs hP hS => ?_)
  refine lv_istore (lv' := [(7, .int r_2), (0, .ref (G.2.1 39 0)), (1, .int x1), (2, .int x2), (3, .int x3), (4, .int x4), (5, .int x5)]) hx hb dX12_waits_18 hl (by decide) rfl (fun ls hl => ?_)
  refine lv_iload hx hb dX12_waits_20 (lv_at hl 0 rfl) ?_
  refine lv_aload_n hx hb dX12_waits_22 rfl (lv_at hl 1 rfl) ?_
  refine gt_39_0 hx hb hts hown hC hP Nat.zero_lt_one q6_17 dX12_waits_23 ?_
  refine lv_sipush (v := 683) hx hb dX12_waits_26 (by decide) ?_
  refine xildM (k := 40) (n := 693) hx hb hC hP (fun _ _ => rfl) rfl Nat.zero_lt_one (by decide) dX12_waits_29 ?_
  refine lv_topE (show M 40 0 (Int32.toNatClampNeg 683) = M 40 0 683 from rfl) ?_
  refine lv_icmp_le (tgt := 95) hx hb dX12_waits_30 (by decide) (fun hc_4 => ?_) (fun hc_4 => ?_)
  · have hf := g_pos hf hc_4
    refine lv_iload_n hx hb dX12_waits_95 rfl (lv_at hl 4 rfl) ?_
    refine lv_bipush (v := 14) hx hb dX12_waits_96 (by decide) ?_
    refine lv_icmp_ne (tgt := 102) hx hb dX12_waits_98 (by decide) (fun hc_5 => ?_) (fun hc_5 => ?_)
    · have hf := g_neg hf hc_5
      refine lv_iload hx hb dX12_waits_102 (lv_at hl 0 rfl) ?_
      refine lv_aload_n hx hb dX12_waits_104 rfl (lv_at hl 1 rfl) ?_
      refine gt_39_0 hx hb hts hown hC hP Nat.zero_lt_one q6_17 dX12_waits_105 ?_
      refine lv_sipush (v := 683) hx hb dX12_waits_108 (by decide) ?_
      refine xildM (k := 40) (n := 693) hx hb hC hP (fun _ _ => rfl) rfl Nat.zero_lt_one (by decide) dX12_waits_111 ?_
      refine lv_topE (show M 40 0 (Int32.toNatClampNeg 683) = M 40 0 683 from rfl) ?_
      refine lv_icmp_ge (tgt := 119) hx hb dX12_waits_112 (by decide) (fun hc_6 => ?_) (fun hc_6 => ?_)
      · have hf := g_pos hf hc_6
        refine lv_iconst (v := 0) hx hb dX12_waits_119 (by decide) ?_
        exact bk_X12_waits_120 C0 x1 x3 x4 x5 0 M hf hP hS (lv_sub hl [1, 2, 4, 5, 6] rfl)
      · have hf := g_neg hf hc_6
        refine lv_iconst (v := 1) hx hb dX12_waits_115 (by decide) ?_
        refine lv_goto (tgt := 120) hx hb dX12_waits_116 (by decide) ?_
        exact bk_X12_waits_120 C0 x1 x3 x4 x5 1 M hf hP hS (lv_sub hl [1, 2, 4, 5, 6] rfl)
    · have hf := g_pos hf hc_5
      cases hf
      exact x_vret hx hb hlocks hC hP hS hr dX12_waits_101
  · have hf := g_neg hf hc_4
    refine lv_aload_n hx hb dX12_waits_33 rfl (lv_at hl 1 rfl) ?_
    refine gt_39_0 hx hb hts hown hC hP Nat.zero_lt_one q6_17 dX12_waits_34 ?_
    refine lv_sipush (v := 438) hx hb dX12_waits_37 (by decide) ?_
    refine lv_iload_n hx hb dX12_waits_40 rfl (lv_at hl 2 rfl) ?_
    refine lv_iadd hx hb dX12_waits_41 ?_
    refine lv_iconst (v := 1) hx hb dX12_waits_42 (by decide) ?_
    obtain ⟨hg_7, hf⟩ := g_gd hf
    obtain ⟨M_8, eM_8, hf⟩ := g_letE hf
    refine xistM (k := 40) (n := 693) hx hb hC hP hS (fun _ _ => rfl) rfl Nat.zero_lt_one hg_7 dX12_waits_43 (fun H locs hP hS => ?_)
    rw [eM_8] at hP
    refine lv_aload_n hx hb dX12_waits_44 rfl (lv_at hl 1 rfl) ?_
    refine gt_39_0 hx hb hts hown hC hP Nat.zero_lt_one q6_17 dX12_waits_45 ?_
    refine lv_sipush (v := 468) hx hb dX12_waits_48 (by decide) ?_
    refine lv_iload_n hx hb dX12_waits_51 rfl (lv_at hl 2 rfl) ?_
    refine lv_iadd hx hb dX12_waits_52 ?_
    refine lv_iload hx hb dX12_waits_53 (lv_at hl 0 rfl) ?_
    obtain ⟨hg_9, hf⟩ := g_gd hf
    obtain ⟨M_10, eM_10, hf⟩ := g_letE hf
    refine xistM (k := 40) (n := 693) hx hb hC hP hS (fun _ _ => rfl) rfl Nat.zero_lt_one hg_9 dX12_waits_55 (fun H locs hP hS => ?_)
    rw [eM_10] at hP
    refine lv_aload_n hx hb dX12_waits_56 rfl (lv_at hl 1 rfl) ?_
    refine gt_39_0 hx hb hts hown hC hP Nat.zero_lt_one q6_17 dX12_waits_57 ?_
    refine lv_sipush (v := 480) hx hb dX12_waits_60 (by decide) ?_
    refine lv_iload_n hx hb dX12_waits_63 rfl (lv_at hl 2 rfl) ?_
    refine lv_iadd hx hb dX12_waits_64 ?_
    refine lv_iload_n hx hb dX12_waits_65 rfl (lv_at hl 3 rfl) ?_
    obtain ⟨hg_11, hf⟩ := g_gd hf
    obtain ⟨M_12, eM_12, hf⟩ := g_letE hf
    refine xistM (k := 40) (n := 693) hx hb hC hP hS (fun _ _ => rfl) rfl Nat.zero_lt_one hg_11 dX12_waits_66 (fun H locs hP hS => ?_)
    rw [eM_12] at hP
    refine lv_aload_n hx hb dX12_waits_67 rfl (lv_at hl 1 rfl) ?_
    refine gt_39_0 hx hb hts hown hC hP Nat.zero_lt_one q6_17 dX12_waits_68 ?_
    refine lv_sipush (v := 687) hx hb dX12_waits_71 (by decide) ?_
    refine lv_iload_n hx hb dX12_waits_74 rfl (lv_at hl 2 rfl) ?_
    refine lv_iadd hx hb dX12_waits_75 ?_
    refine lv_iload_n hx hb dX12_waits_76 rfl (lv_at hl 4 rfl) ?_
    refine lv_bipush (v := 14) hx hb dX12_waits_77 (by decide) ?_
    refine lv_icmp_ne (tgt := 86) hx hb dX12_waits_79 (by decide) (fun hc_13 => ?_) (fun hc_13 => ?_)
    · have hf := g_neg hf hc_13
      refine lv_aload_n hx hb dX12_waits_86 rfl (lv_at hl 1 rfl) ?_
      refine lv_iload_n hx hb dX12_waits_87 rfl (lv_at hl 2 rfl) ?_
      refine lv_iload hx hb dX12_waits_88 (lv_at hl 6 rfl) ?_
      obtain ⟨r_14, hc_15, hf⟩ := g_bindE hf
      refine x_calli (v := (X, M_12, τ)) (va_runV (As := [.int x1, .int x5]) (rest := [.int (687 + x1), .ref (G.2.1 40 0)]) ⟨hx, hb, hml, hown, hts⟩ (ct_X12_reg l G X M_12 τ x1 x5 hc_15) (cwV 2 hts gd_X12_139 rfl rfl rfl hd_X12_reg ⟨Nat.le_of_ble_eq_true rfl, Nat.le_of_ble_eq_true rfl⟩) (x_preV (u := (X, M_12, τ)) (k := 39) (ci := 12) hC hS hP Nat.zero_lt_one rfl rfl) rfl rfl hl.1 rfl (lv_room (Nat.le_of_ble_eq_true rfl)) dX12_waits_90 ⟨Nat.le_refl _, Nat.le_refl _⟩) hS (fun H locs hP hS => ?_)
      obtain ⟨hg_16, hf⟩ := g_gd hf
      obtain ⟨M_17, eM_17, hf⟩ := g_letE hf
      refine xistM (k := 40) (n := 693) hx hb hC hP hS (fun _ _ => rfl) rfl Nat.zero_lt_one hg_16 dX12_waits_93 (fun H locs hP hS => ?_)
      rw [eM_17] at hP
      cases hf
      exact x_vret hx hb hlocks hC hP hS hr dX12_waits_94
    · have hf := g_pos hf hc_13
      refine lv_iconst (v := 0) hx hb dX12_waits_82 (by decide) ?_
      refine lv_goto (tgt := 93) hx hb dX12_waits_83 (by decide) ?_
      obtain ⟨hg_18, hf⟩ := g_gd hf
      obtain ⟨M_19, eM_19, hf⟩ := g_letE hf
      refine xistM (k := 40) (n := 693) hx hb hC hP hS (fun _ _ => rfl) rfl Nat.zero_lt_one hg_18 dX12_waits_93 (fun H locs hP hS => ?_)
      rw [eM_19] at hP
      cases hf
      exact x_vret hx hb hlocks hC hP hS hr dX12_waits_94
def fn_X12_waits (x1 : Int32) (x2 : Int32) (x3 : Int32) (x4 : Int32) (x5 : Int32) (x6 : Int32) (M : SM) : Option (SM) :=
  if x3 = 14 then
  (wb_X12_waits_15 x1 x2 x3 x4 x5 x4 x1 M)
  else
  (wb_X12_waits_15 x1 x2 x3 x4 x5 x6 x1 M)
set_option maxRecDepth 100000 in
set_option maxHeartbeats 4000000 in
theorem wk_X12_waits {p : Program} {l : Launch} {e : Env} {s : State} {m : MethodId} {args : Array Value} {below : List Frame} {meth : Method} {c : Code} {G : GP} {X : SM} {τ : SL} (C0 : g_mc p s m args meth c RX12 cX12_waits none 9 G) {M0 : SM} (x1 : Int32) (x2 : Int32) (x3 : Int32) (x4 : Int32) (x5 : Int32) (x6 : Int32) (M : SM) (hf : fn_X12_waits x1 x2 x3 x4 x5 x6 M = some M0) {H : Heap} {locs : List Loc} (hP : va_P G.1 g_cl (wd G (cb X M) τ) H) (hS : va_S (g_A G) s.heap H locs) {ls : Array Slot} (hl : lv_has ls 9 [(0, .ref (G.2.1 39 0)), (1, .int x1), (2, .int x2), (3, .int x3), (4, .int x4), (5, .int x5), (6, .int x6)]) : W p l e rm_X12_waits s m args below meth c H locs 0 0 (MQ below (va_Qv (fun u => u = (X, M0, τ)) (g_pw G) (g_A G)) args s 0 0 (g_A G)) (F0 m 0 ls []) := by
  obtain ⟨hx, hb, hr, hml, hown, hts, hlocks, hC⟩ := id C0
  unfold fn_X12_waits at hf
  refine lv_aload_n hx hb dX12_waits_0 rfl (lv_at hl 0 rfl) ?_
  refine lv_iload_n hx hb dX12_waits_1 rfl (lv_at hl 1 rfl) ?_
  refine lv_iload_n hx hb dX12_waits_2 rfl (lv_at hl 3 rfl) ?_
  refine lv_bipush (v := 14) hx hb dX12_waits_3 (by decide) ?_
  refine lv_icmp_ne (tgt := 13) hx hb dX12_waits_5 (by decide) (fun hc_1 => ?_) (fun hc_1 => ?_)
  · have hf := g_neg hf hc_1
    refine lv_iload hx hb dX12_waits_13 (lv_at hl 6 rfl) ?_
    exact bk_X12_waits_15 C0 x1 x2 x3 x4 x5 x6 x1 M hf hP hS (lv_sub hl [0, 1, 2, 3, 4, 5] rfl)
  · have hf := g_pos hf hc_1
    refine lv_iload hx hb dX12_waits_8 (lv_at hl 4 rfl) ?_
    refine lv_goto (tgt := 15) hx hb dX12_waits_10 (by decide) ?_
    exact bk_X12_waits_15 C0 x1 x2 x3 x4 x5 x4 x1 M hf hP hS (lv_sub hl [0, 1, 2, 3, 4, 5] rfl)
set_option maxRecDepth 100000 in
set_option maxHeartbeats 4000000 in
theorem ct_X12_waits (l : Launch) (G : GP) (X M : SM) (τ : SL) (x1 : Int32) (x2 : Int32) (x3 : Int32) (x4 : Int32) (x5 : Int32) (x6 : Int32) {M0 : SM} (hf : fn_X12_waits x1 x2 x3 x4 x5 x6 M = some M0) : Met l yX12_waits (wz yX12_waits cX12_waits 9 none) rm_X12_waits (va_Pc [.ref (G.2.1 39 0), .int x1, .int x2, .int x3, .int x4, .int x5, .int x6] (g_pw G (X, M, τ))) (va_Qv (fun u => u = (X, M0, τ)) (g_pw G) (g_A G)) 0 0 (g_A G) := by
  refine Met.ofW (cc := cX12_waits) (maxL := 9) (ret := none) (by decide) rfl ?_
  intro p e s m args below meth c s₁ B hml hv
  obtain ⟨rfl, hC, hP⟩ := hv
  have C0 : g_mc p s m _ meth c RX12 cX12_waits none 9 G := ⟨B.exec, B.bytes, B.returns, hml, findClass_of_methodNamed B.named, fun w h => atoms_spec (ws := wz yX12_waits cX12_waits 9 none) B.pre w (List.mem_cons_of_mem _ h), B.notSynchronized, hC⟩
  have hl := lv_entry ([.ref (G.2.1 39 0), .int x1, .int x2, .int x3, .int x4, .int x5, .int x6]) (n := 9) (Nat.le_of_ble_eq_true rfl)
  rw [lg_entry_eq]
  generalize (lg_sl ([.ref (G.2.1 39 0), .int x1, .int x2, .int x3, .int x4, .int x5, .int x6]) ++ List.replicate (9 - (lg_sl ([.ref (G.2.1 39 0), .int x1, .int x2, .int x3, .int x4, .int x5, .int x6])).length) Slot.unset).toArray = ls at hl ⊢
  exact wk_X12_waits C0 x1 x2 x3 x4 x5 x6 M hf hP va_S.rf hl
abbrev rm_X12_leaves : Room := { frames := 0, cells := 0, slots := 0, locals := 0 }
def wb_X12_leaves_12 (k2 : Int32 → Int32 → SM → Option (SM)) (k12 : Int32 → Int32 → Int32 → Int32 → SM → Option (SM)) (x1 : Int32) (x2 : Int32) (x3 : Int32) (x4 : Int32) (M : SM) : Option (SM) :=
  if g_in (518 + x2) 693 then
  if (M 40 0 ((518 + x2).toNatClampNeg)) ≤ x4 then
  (if g_in (518 + x2) 693 then
    g_let (u1 M 40 0 ((518 + x2).toNatClampNeg) x3) fun M_5 =>
    g_let (x2 + 1) fun x2_6 =>
    k2 x1 x2_6 M_5
    else none)
  else
  (if g_in ((494 + (6 * x2)) + x4) 693 then
    if (M 40 0 (((494 + (6 * x2)) + x4).toNatClampNeg)) = x1 then
    (g_let (x4 + 1) fun x4_14 =>
      k12 x1 x2 x3 x4_14 M)
    else
    (if g_in ((494 + (6 * x2)) + x4) 693 then
      if g_in ((494 + (6 * x2)) + x3) 693 then
      g_let (u1 M 40 0 (((494 + (6 * x2)) + x3).toNatClampNeg) (M 40 0 (((494 + (6 * x2)) + x4).toNatClampNeg))) fun M_11 =>
      g_let (x3 + 1) fun x3_12 =>
      g_let (x4 + 1) fun x4_13 =>
      k12 x1 x2 x3_12 x4_13 M_11
      else none
      else none)
    else none)
  else none
set_option maxRecDepth 100000 in
set_option maxHeartbeats 4000000 in
theorem bk_X12_leaves_12 {p : Program} {l : Launch} {e : Env} {s : State} {m : MethodId} {args : Array Value} {below : List Frame} {meth : Method} {c : Code} {G : GP} {X : SM} {τ : SL} (C0 : g_mc p s m args meth c RX12 cX12_leaves none 5 G) {M0 : SM} (k2 : Int32 → Int32 → SM → Option (SM)) (hk2 : ∀ (x1 : Int32) (x2 : Int32) (M : SM), k2 x1 x2 M = some M0 → ∀ {H : Heap} {locs : List Loc}, va_P G.1 g_cl (wd G (cb X M) τ) H → va_S (g_A G) s.heap H locs → ∀ {ls : Array Slot}, lv_has ls 5 [(0, .ref (G.2.1 39 0)), (1, .int x1), (2, .int x2)] → W p l e rm_X12_leaves s m args below meth c H locs 0 0 (MQ below (va_Qv (fun u => u = (X, M0, τ)) (g_pw G) (g_A G)) args s 0 0 (g_A G)) (F0 m 2 ls [])) (k12 : Int32 → Int32 → Int32 → Int32 → SM → Option (SM)) (hk12 : ∀ (x1 : Int32) (x2 : Int32) (x3 : Int32) (x4 : Int32) (M : SM), k12 x1 x2 x3 x4 M = some M0 → ∀ {H : Heap} {locs : List Loc}, va_P G.1 g_cl (wd G (cb X M) τ) H → va_S (g_A G) s.heap H locs → ∀ {ls : Array Slot}, lv_has ls 5 [(0, .ref (G.2.1 39 0)), (1, .int x1), (2, .int x2), (3, .int x3), (4, .int x4)] → W p l e rm_X12_leaves s m args below meth c H locs 0 0 (MQ below (va_Qv (fun u => u = (X, M0, τ)) (g_pw G) (g_A G)) args s 0 0 (g_A G)) (F0 m 12 ls [])) (x1 : Int32) (x2 : Int32) (x3 : Int32) (x4 : Int32) (M : SM) (hf : wb_X12_leaves_12 k2 k12 x1 x2 x3 x4 M = some M0) {H : Heap} {locs : List Loc} (hP : va_P G.1 g_cl (wd G (cb X M) τ) H) (hS : va_S (g_A G) s.heap H locs) {ls : Array Slot} (hl : lv_has ls 5 [(0, .ref (G.2.1 39 0)), (1, .int x1), (2, .int x2), (3, .int x3), (4, .int x4)]) : W p l e rm_X12_leaves s m args below meth c H locs 0 0 (MQ below (va_Qv (fun u => u = (X, M0, τ)) (g_pw G) (g_A G)) args s 0 0 (g_A G)) (F0 m 12 ls []) := by
  obtain ⟨hx, hb, hr, hml, hown, hts, hlocks, hC⟩ := id C0
  unfold wb_X12_leaves_12 at hf
  refine lv_iload hx hb dX12_leaves_12 (lv_at hl 4 rfl) ?_
  refine lv_aload_n hx hb dX12_leaves_14 rfl (lv_at hl 0 rfl) ?_
  refine gt_39_0 hx hb hts hown hC hP Nat.zero_lt_one q6_17 dX12_leaves_15 ?_
  refine lv_sipush (v := 518) hx hb dX12_leaves_18 (by decide) ?_
  refine lv_iload_n hx hb dX12_leaves_21 rfl (lv_at hl 2 rfl) ?_
  refine lv_iadd hx hb dX12_leaves_22 ?_
  obtain ⟨hg_2, hf⟩ := g_gd hf
  refine xildM (k := 40) (n := 693) hx hb hC hP (fun _ _ => rfl) rfl Nat.zero_lt_one hg_2 dX12_leaves_23 ?_
  refine lv_icmp_ge (tgt := 90) hx hb dX12_leaves_24 (by decide) (fun hc_3 => ?_) (fun hc_3 => ?_)
  · have hf := g_pos hf hc_3
    refine lv_aload_n hx hb dX12_leaves_90 rfl (lv_at hl 0 rfl) ?_
    refine gt_39_0 hx hb hts hown hC hP Nat.zero_lt_one q6_17 dX12_leaves_91 ?_
    refine lv_sipush (v := 518) hx hb dX12_leaves_94 (by decide) ?_
    refine lv_iload_n hx hb dX12_leaves_97 rfl (lv_at hl 2 rfl) ?_
    refine lv_iadd hx hb dX12_leaves_98 ?_
    refine lv_iload_n hx hb dX12_leaves_99 rfl (lv_at hl 3 rfl) ?_
    obtain ⟨hg_4, hf⟩ := g_gd hf
    obtain ⟨M_5, eM_5, hf⟩ := g_letE hf
    refine xistM (k := 40) (n := 693) hx hb hC hP hS (fun _ _ => rfl) rfl Nat.zero_lt_one hg_4 dX12_leaves_100 (fun H locs hP hS => ?_)
    rw [eM_5] at hP
    obtain ⟨x2_6, ex2_6, hf⟩ := g_letE hf
    refine lv_iinc (v := x2_6) (lv' := [(2, .int x2_6), (0, .ref (G.2.1 39 0)), (1, .int x1), (3, .int x3), (4, .int x4)]) hx hb dX12_leaves_101 hl (k := 2) rfl (by rw [← ex2_6]; rfl) (by decide) rfl (fun ls hl => ?_)
    refine lv_goto (tgt := 2) hx hb dX12_leaves_104 (by decide) ?_
    exact hk2 x1 x2_6 M_5 hf hP hS (lv_sub hl [1, 2, 0] rfl)
  · have hf := g_neg hf hc_3
    refine lv_aload_n hx hb dX12_leaves_27 rfl (lv_at hl 0 rfl) ?_
    refine gt_39_0 hx hb hts hown hC hP Nat.zero_lt_one q6_17 dX12_leaves_28 ?_
    refine lv_sipush (v := 494) hx hb dX12_leaves_31 (by decide) ?_
    refine lv_bipush (v := 6) hx hb dX12_leaves_34 (by decide) ?_
    refine lv_iload_n hx hb dX12_leaves_36 rfl (lv_at hl 2 rfl) ?_
    refine lv_imul hx hb dX12_leaves_37 ?_
    refine lv_iadd hx hb dX12_leaves_38 ?_
    refine lv_iload hx hb dX12_leaves_39 (lv_at hl 4 rfl) ?_
    refine lv_iadd hx hb dX12_leaves_41 ?_
    obtain ⟨hg_7, hf⟩ := g_gd hf
    refine xildM (k := 40) (n := 693) hx hb hC hP (fun _ _ => rfl) rfl Nat.zero_lt_one hg_7 dX12_leaves_42 ?_
    refine lv_iload_n hx hb dX12_leaves_43 rfl (lv_at hl 1 rfl) ?_
    refine lv_icmp_ne (tgt := 50) hx hb dX12_leaves_44 (by decide) (fun hc_8 => ?_) (fun hc_8 => ?_)
    · have hf := g_neg hf hc_8
      refine lv_aload_n hx hb dX12_leaves_50 rfl (lv_at hl 0 rfl) ?_
      refine gt_39_0 hx hb hts hown hC hP Nat.zero_lt_one q6_17 dX12_leaves_51 ?_
      refine lv_sipush (v := 494) hx hb dX12_leaves_54 (by decide) ?_
      refine lv_bipush (v := 6) hx hb dX12_leaves_57 (by decide) ?_
      refine lv_iload_n hx hb dX12_leaves_59 rfl (lv_at hl 2 rfl) ?_
      refine lv_imul hx hb dX12_leaves_60 ?_
      refine lv_iadd hx hb dX12_leaves_61 ?_
      refine lv_iload_n hx hb dX12_leaves_62 rfl (lv_at hl 3 rfl) ?_
      refine lv_iadd hx hb dX12_leaves_63 ?_
      refine lv_aload_n hx hb dX12_leaves_64 rfl (lv_at hl 0 rfl) ?_
      refine gt_39_0 hx hb hts hown hC hP Nat.zero_lt_one q6_17 dX12_leaves_65 ?_
      refine lv_sipush (v := 494) hx hb dX12_leaves_68 (by decide) ?_
      refine lv_bipush (v := 6) hx hb dX12_leaves_71 (by decide) ?_
      refine lv_iload_n hx hb dX12_leaves_73 rfl (lv_at hl 2 rfl) ?_
      refine lv_imul hx hb dX12_leaves_74 ?_
      refine lv_iadd hx hb dX12_leaves_75 ?_
      refine lv_iload hx hb dX12_leaves_76 (lv_at hl 4 rfl) ?_
      refine lv_iadd hx hb dX12_leaves_78 ?_
      obtain ⟨hg_9, hf⟩ := g_gd hf
      refine xildM (k := 40) (n := 693) hx hb hC hP (fun _ _ => rfl) rfl Nat.zero_lt_one hg_9 dX12_leaves_79 ?_
      obtain ⟨hg_10, hf⟩ := g_gd hf
      obtain ⟨M_11, eM_11, hf⟩ := g_letE hf
      refine xistM (k := 40) (n := 693) hx hb hC hP hS (fun _ _ => rfl) rfl Nat.zero_lt_one hg_10 dX12_leaves_80 (fun H locs hP hS => ?_)
      rw [eM_11] at hP
      obtain ⟨x3_12, ex3_12, hf⟩ := g_letE hf
      refine lv_iinc (v := x3_12) (lv' := [(3, .int x3_12), (0, .ref (G.2.1 39 0)), (1, .int x1), (2, .int x2), (4, .int x4)]) hx hb dX12_leaves_81 hl (k := 3) rfl (by rw [← ex3_12]; rfl) (by decide) rfl (fun ls hl => ?_)
      obtain ⟨x4_13, ex4_13, hf⟩ := g_letE hf
      refine lv_iinc (v := x4_13) (lv' := [(4, .int x4_13), (3, .int x3_12), (0, .ref (G.2.1 39 0)), (1, .int x1), (2, .int x2)]) hx hb dX12_leaves_84 hl (k := 4) rfl (by rw [← ex4_13]; rfl) (by decide) rfl (fun ls hl => ?_)
      refine lv_goto (tgt := 12) hx hb dX12_leaves_87 (by decide) ?_
      exact hk12 x1 x2 x3_12 x4_13 M_11 hf hP hS (lv_sub hl [2, 3, 4, 1, 0] rfl)
    · have hf := g_pos hf hc_8
      refine lv_goto (tgt := 84) hx hb dX12_leaves_47 (by decide) ?_
      obtain ⟨x4_14, ex4_14, hf⟩ := g_letE hf
      refine lv_iinc (v := x4_14) (lv' := [(4, .int x4_14), (0, .ref (G.2.1 39 0)), (1, .int x1), (2, .int x2), (3, .int x3)]) hx hb dX12_leaves_84 hl (k := 4) rfl (by rw [← ex4_14]; rfl) (by decide) rfl (fun ls hl => ?_)
      refine lv_goto (tgt := 12) hx hb dX12_leaves_87 (by decide) ?_
      exact hk12 x1 x2 x3 x4_14 M hf hP hS (lv_sub hl [1, 2, 3, 4, 0] rfl)
def wl_X12_leaves_12 (k2 : Int32 → Int32 → SM → Option (SM)) (n : Nat) (x1 : Int32) (x2 : Int32) (x3 : Int32) (x4 : Int32) (M : SM) : Option (SM) := g_loop (α := Int32 × Int32 × Int32 × Int32 × SM) (fun k a => wb_X12_leaves_12 k2 (fun x1 x2 x3 x4 M => k (x1, x2, x3, x4, M)) a.1 a.2.1 a.2.2.1 a.2.2.2.1 a.2.2.2.2) n (x1, x2, x3, x4, M)
set_option maxRecDepth 100000 in
set_option maxHeartbeats 4000000 in
theorem lp_X12_leaves_12 {p : Program} {l : Launch} {e : Env} {s : State} {m : MethodId} {args : Array Value} {below : List Frame} {meth : Method} {c : Code} {G : GP} {X : SM} {τ : SL} (C0 : g_mc p s m args meth c RX12 cX12_leaves none 5 G) {M0 : SM} (k2 : Int32 → Int32 → SM → Option (SM)) (hk2 : ∀ (x1 : Int32) (x2 : Int32) (M : SM), k2 x1 x2 M = some M0 → ∀ {H : Heap} {locs : List Loc}, va_P G.1 g_cl (wd G (cb X M) τ) H → va_S (g_A G) s.heap H locs → ∀ {ls : Array Slot}, lv_has ls 5 [(0, .ref (G.2.1 39 0)), (1, .int x1), (2, .int x2)] → W p l e rm_X12_leaves s m args below meth c H locs 0 0 (MQ below (va_Qv (fun u => u = (X, M0, τ)) (g_pw G) (g_A G)) args s 0 0 (g_A G)) (F0 m 2 ls [])) (n : Nat) : ∀ (x1 : Int32) (x2 : Int32) (x3 : Int32) (x4 : Int32) (M : SM), wl_X12_leaves_12 k2 n x1 x2 x3 x4 M = some M0 → ∀ {H : Heap} {locs : List Loc}, va_P G.1 g_cl (wd G (cb X M) τ) H → va_S (g_A G) s.heap H locs → ∀ {ls : Array Slot}, lv_has ls 5 [(0, .ref (G.2.1 39 0)), (1, .int x1), (2, .int x2), (3, .int x3), (4, .int x4)] → W p l e rm_X12_leaves s m args below meth c H locs 0 0 (MQ below (va_Qv (fun u => u = (X, M0, τ)) (g_pw G) (g_A G)) args s 0 0 (g_A G)) (F0 m 12 ls []) := by
  induction n with
  | zero =>
    intro x1 x2 x3 x4 M hf
    have hf : (none : Option (SM)) = _ := hf
    cases hf
  | succ n ih =>
    intro x1 x2 x3 x4 M hf H locs hP hS ls hl
    exact bk_X12_leaves_12 C0 k2 hk2 (fun x1 x2 x3 x4 M => wl_X12_leaves_12 k2 n x1 x2 x3 x4 M) ih x1 x2 x3 x4 M hf hP hS hl
def wb_X12_leaves_2 (k2 : Int32 → Int32 → SM → Option (SM)) (x1 : Int32) (x2 : Int32) (M : SM) : Option (SM) :=
  if 4 ≤ x2 then
  (some M)
  else
  (wl_X12_leaves_12 k2 1000 x1 x2 0 0 M)
set_option maxRecDepth 100000 in
set_option maxHeartbeats 4000000 in
theorem bk_X12_leaves_2 {p : Program} {l : Launch} {e : Env} {s : State} {m : MethodId} {args : Array Value} {below : List Frame} {meth : Method} {c : Code} {G : GP} {X : SM} {τ : SL} (C0 : g_mc p s m args meth c RX12 cX12_leaves none 5 G) {M0 : SM} (k2 : Int32 → Int32 → SM → Option (SM)) (hk2 : ∀ (x1 : Int32) (x2 : Int32) (M : SM), k2 x1 x2 M = some M0 → ∀ {H : Heap} {locs : List Loc}, va_P G.1 g_cl (wd G (cb X M) τ) H → va_S (g_A G) s.heap H locs → ∀ {ls : Array Slot}, lv_has ls 5 [(0, .ref (G.2.1 39 0)), (1, .int x1), (2, .int x2)] → W p l e rm_X12_leaves s m args below meth c H locs 0 0 (MQ below (va_Qv (fun u => u = (X, M0, τ)) (g_pw G) (g_A G)) args s 0 0 (g_A G)) (F0 m 2 ls [])) (x1 : Int32) (x2 : Int32) (M : SM) (hf : wb_X12_leaves_2 k2 x1 x2 M = some M0) {H : Heap} {locs : List Loc} (hP : va_P G.1 g_cl (wd G (cb X M) τ) H) (hS : va_S (g_A G) s.heap H locs) {ls : Array Slot} (hl : lv_has ls 5 [(0, .ref (G.2.1 39 0)), (1, .int x1), (2, .int x2)]) : W p l e rm_X12_leaves s m args below meth c H locs 0 0 (MQ below (va_Qv (fun u => u = (X, M0, τ)) (g_pw G) (g_A G)) args s 0 0 (g_A G)) (F0 m 2 ls []) := by
  obtain ⟨hx, hb, hr, hml, hown, hts, hlocks, hC⟩ := id C0
  unfold wb_X12_leaves_2 at hf
  refine lv_iload_n hx hb dX12_leaves_2 rfl (lv_at hl 2 rfl) ?_
  refine lv_iconst (v := 4) hx hb dX12_leaves_3 (by decide) ?_
  refine lv_icmp_ge (tgt := 107) hx hb dX12_leaves_4 (by decide) (fun hc_1 => ?_) (fun hc_1 => ?_)
  · have hf := g_pos hf hc_1
    cases hf
    exact x_vret hx hb hlocks hC hP hS hr dX12_leaves_107
  · have hf := g_neg hf hc_1
    refine lv_iconst (v := 0) hx hb dX12_leaves_7 (by decide) ?_
    refine lv_istore_n (lv' := [(3, .int 0), (0, .ref (G.2.1 39 0)), (1, .int x1), (2, .int x2)]) hx hb dX12_leaves_8 rfl hl (by decide) rfl (fun ls hl => ?_)
    refine lv_iconst (v := 0) hx hb dX12_leaves_9 (by decide) ?_
    refine lv_istore (lv' := [(4, .int 0), (3, .int 0), (0, .ref (G.2.1 39 0)), (1, .int x1), (2, .int x2)]) hx hb dX12_leaves_10 hl (by decide) rfl (fun ls hl => ?_)
    exact lp_X12_leaves_12 C0 k2 hk2 1000 x1 x2 0 0 M hf hP hS (lv_sub hl [2, 3, 4, 1, 0] rfl)
def wl_X12_leaves_2 (n : Nat) (x1 : Int32) (x2 : Int32) (M : SM) : Option (SM) := g_loop (α := Int32 × Int32 × SM) (fun k a => wb_X12_leaves_2 (fun x1 x2 M => k (x1, x2, M)) a.1 a.2.1 a.2.2) n (x1, x2, M)
set_option maxRecDepth 100000 in
set_option maxHeartbeats 4000000 in
theorem lp_X12_leaves_2 {p : Program} {l : Launch} {e : Env} {s : State} {m : MethodId} {args : Array Value} {below : List Frame} {meth : Method} {c : Code} {G : GP} {X : SM} {τ : SL} (C0 : g_mc p s m args meth c RX12 cX12_leaves none 5 G) {M0 : SM} (n : Nat) : ∀ (x1 : Int32) (x2 : Int32) (M : SM), wl_X12_leaves_2 n x1 x2 M = some M0 → ∀ {H : Heap} {locs : List Loc}, va_P G.1 g_cl (wd G (cb X M) τ) H → va_S (g_A G) s.heap H locs → ∀ {ls : Array Slot}, lv_has ls 5 [(0, .ref (G.2.1 39 0)), (1, .int x1), (2, .int x2)] → W p l e rm_X12_leaves s m args below meth c H locs 0 0 (MQ below (va_Qv (fun u => u = (X, M0, τ)) (g_pw G) (g_A G)) args s 0 0 (g_A G)) (F0 m 2 ls []) := by
  induction n with
  | zero =>
    intro x1 x2 M hf
    have hf : (none : Option (SM)) = _ := hf
    cases hf
  | succ n ih =>
    intro x1 x2 M hf H locs hP hS ls hl
    exact bk_X12_leaves_2 C0  (fun x1 x2 M => wl_X12_leaves_2  n x1 x2 M) ih x1 x2 M hf hP hS hl
def fn_X12_leaves (x1 : Int32) (M : SM) : Option (SM) :=
  wl_X12_leaves_2 1000 x1 0 M
set_option maxRecDepth 100000 in
set_option maxHeartbeats 4000000 in
theorem wk_X12_leaves {p : Program} {l : Launch} {e : Env} {s : State} {m : MethodId} {args : Array Value} {below : List Frame} {meth : Method} {c : Code} {G : GP} {X : SM} {τ : SL} (C0 : g_mc p s m args meth c RX12 cX12_leaves none 5 G) {M0 : SM} (x1 : Int32) (M : SM) (hf : fn_X12_leaves x1 M = some M0) {H : Heap} {locs : List Loc} (hP : va_P G.1 g_cl (wd G (cb X M) τ) H) (hS : va_S (g_A G) s.heap H locs) {ls : Array Slot} (hl : lv_has ls 5 [(0, .ref (G.2.1 39 0)), (1, .int x1)]) : W p l e rm_X12_leaves s m args below meth c H locs 0 0 (MQ below (va_Qv (fun u => u = (X, M0, τ)) (g_pw G) (g_A G)) args s 0 0 (g_A G)) (F0 m 0 ls []) := by
  obtain ⟨hx, hb, hr, hml, hown, hts, hlocks, hC⟩ := id C0
  unfold fn_X12_leaves at hf
  refine lv_iconst (v := 0) hx hb dX12_leaves_0 (by decide) ?_
  refine lv_istore_n (lv' := [(2, .int 0), (0, .ref (G.2.1 39 0)), (1, .int x1)]) hx hb dX12_leaves_1 rfl hl (by decide) rfl (fun ls hl => ?_)
  exact lp_X12_leaves_2 C0 1000 x1 0 M hf hP hS (lv_sub hl [1, 2, 0] rfl)
set_option maxRecDepth 100000 in
set_option maxHeartbeats 4000000 in
theorem ct_X12_leaves (l : Launch) (G : GP) (X M : SM) (τ : SL) (x1 : Int32) {M0 : SM} (hf : fn_X12_leaves x1 M = some M0) : Met l yX12_leaves (wz yX12_leaves cX12_leaves 5 none) rm_X12_leaves (va_Pc [.ref (G.2.1 39 0), .int x1] (g_pw G (X, M, τ))) (va_Qv (fun u => u = (X, M0, τ)) (g_pw G) (g_A G)) 0 0 (g_A G) := by
  refine Met.ofW (cc := cX12_leaves) (maxL := 5) (ret := none) (by decide) rfl ?_
  intro p e s m args below meth c s₁ B hml hv
  obtain ⟨rfl, hC, hP⟩ := hv
  have C0 : g_mc p s m _ meth c RX12 cX12_leaves none 5 G := ⟨B.exec, B.bytes, B.returns, hml, findClass_of_methodNamed B.named, fun w h => atoms_spec (ws := wz yX12_leaves cX12_leaves 5 none) B.pre w (List.mem_cons_of_mem _ h), B.notSynchronized, hC⟩
  have hl := lv_entry ([.ref (G.2.1 39 0), .int x1]) (n := 5) (Nat.le_of_ble_eq_true rfl)
  rw [lg_entry_eq]
  generalize (lg_sl ([.ref (G.2.1 39 0), .int x1]) ++ List.replicate (5 - (lg_sl ([.ref (G.2.1 39 0), .int x1])).length) Slot.unset).toArray = ls at hl ⊢
  exact wk_X12_leaves C0 x1 M hf hP va_S.rf hl
abbrev rm_X12_meets : Room := { frames := 1, cells := 0, slots := 0, locals := 24 }
def wb_X12_meets_86 (x1 : Int32) (x3 : Int32) (x4 : Int32) (x5 : Int32) (xs0 : Int32) (xs1 : Int32) (M : SM) : Option (SM) :=
  if g_in xs1 693 then
  g_let (u1 M 40 0 (xs1.toNatClampNeg) xs0) fun M_34 =>
  if g_in (480 + x1) 693 then
  g_let (u1 M_34 40 0 ((480 + x1).toNatClampNeg) x5) fun M_36 =>
  (fn_X12_reg x1 x4 M_36).bind fun r_37 =>
  if g_in (687 + x1) 693 then
  g_let (u1 M_36 40 0 ((687 + x1).toNatClampNeg) r_37) fun M_40 =>
  if g_in (518 + x3) 693 then
  if g_in ((494 + (6 * x3)) + (M_40 40 0 ((518 + x3).toNatClampNeg))) 693 then
  g_let (u1 M_40 40 0 (((494 + (6 * x3)) + (M_40 40 0 ((518 + x3).toNatClampNeg))).toNatClampNeg) x1) fun M_43 =>
  if g_in (518 + x3) 693 then
  if g_in (518 + x3) 693 then
  g_let (u1 M_43 40 0 ((518 + x3).toNatClampNeg) ((M_43 40 0 ((518 + x3).toNatClampNeg)) + 1)) fun M_46 =>
  some M_46
  else none
  else none
  else none
  else none
  else none
  else none
  else none
set_option maxRecDepth 100000 in
set_option maxHeartbeats 4000000 in
theorem bk_X12_meets_86 {p : Program} {l : Launch} {e : Env} {s : State} {m : MethodId} {args : Array Value} {below : List Frame} {meth : Method} {c : Code} {G : GP} {X : SM} {τ : SL} (C0 : g_mc p s m args meth c RX12 cX12_meets none 9 G) {M0 : SM} (x1 : Int32) (x3 : Int32) (x4 : Int32) (x5 : Int32) (xs0 : Int32) (xs1 : Int32) (M : SM) (hf : wb_X12_meets_86 x1 x3 x4 x5 xs0 xs1 M = some M0) {H : Heap} {locs : List Loc} (hP : va_P G.1 g_cl (wd G (cb X M) τ) H) (hS : va_S (g_A G) s.heap H locs) {ls : Array Slot} (hl : lv_has ls 9 [(0, .ref (G.2.1 39 0)), (1, .int x1), (3, .int x3), (4, .int x4), (5, .int x5)]) : W p l e rm_X12_meets s m args below meth c H locs 0 0 (MQ below (va_Qv (fun u => u = (X, M0, τ)) (g_pw G) (g_A G)) args s 0 0 (g_A G)) (F0 m 86 ls [.int xs0, .int xs1, .ref (G.2.1 40 0)]) := by
  obtain ⟨hx, hb, hr, hml, hown, hts, hlocks, hC⟩ := id C0
  unfold wb_X12_meets_86 at hf
  obtain ⟨hg_33, hf⟩ := g_gd hf
  obtain ⟨M_34, eM_34, hf⟩ := g_letE hf
  refine xistM (k := 40) (n := 693) hx hb hC hP hS (fun _ _ => rfl) rfl Nat.zero_lt_one hg_33 dX12_meets_86 (fun H locs hP hS => ?_)
  rw [eM_34] at hP
  refine lv_aload_n hx hb dX12_meets_87 rfl (lv_at hl 0 rfl) ?_
  refine gt_39_0 hx hb hts hown hC hP Nat.zero_lt_one q6_17 dX12_meets_88 ?_
  refine lv_sipush (v := 480) hx hb dX12_meets_91 (by decide) ?_
  refine lv_iload_n hx hb dX12_meets_94 rfl (lv_at hl 1 rfl) ?_
  refine lv_iadd hx hb dX12_meets_95 ?_
  refine lv_iload hx hb dX12_meets_96 (lv_at hl 4 rfl) ?_
  obtain ⟨hg_35, hf⟩ := g_gd hf
  obtain ⟨M_36, eM_36, hf⟩ := g_letE hf
  refine xistM (k := 40) (n := 693) hx hb hC hP hS (fun _ _ => rfl) rfl Nat.zero_lt_one hg_35 dX12_meets_98 (fun H locs hP hS => ?_)
  rw [eM_36] at hP
  refine lv_aload_n hx hb dX12_meets_99 rfl (lv_at hl 0 rfl) ?_
  refine gt_39_0 hx hb hts hown hC hP Nat.zero_lt_one q6_17 dX12_meets_100 ?_
  refine lv_sipush (v := 687) hx hb dX12_meets_103 (by decide) ?_
  refine lv_iload_n hx hb dX12_meets_106 rfl (lv_at hl 1 rfl) ?_
  refine lv_iadd hx hb dX12_meets_107 ?_
  refine lv_aload_n hx hb dX12_meets_108 rfl (lv_at hl 0 rfl) ?_
  refine lv_iload_n hx hb dX12_meets_109 rfl (lv_at hl 1 rfl) ?_
  refine lv_iload hx hb dX12_meets_110 (lv_at hl 3 rfl) ?_
  obtain ⟨r_37, hc_38, hf⟩ := g_bindE hf
  refine x_calli (v := (X, M_36, τ)) (va_runV (As := [.int x1, .int x4]) (rest := [.int (687 + x1), .ref (G.2.1 40 0)]) ⟨hx, hb, hml, hown, hts⟩ (ct_X12_reg l G X M_36 τ x1 x4 hc_38) (cwV 2 hts gd_X12_139 rfl rfl rfl hd_X12_reg ⟨Nat.le_of_ble_eq_true rfl, Nat.le_of_ble_eq_true rfl⟩) (x_preV (u := (X, M_36, τ)) (k := 39) (ci := 12) hC hS hP Nat.zero_lt_one rfl rfl) rfl rfl hl.1 rfl (lv_room (Nat.le_of_ble_eq_true rfl)) dX12_meets_112 ⟨Nat.le_refl _, Nat.le_refl _⟩) hS (fun H locs hP hS => ?_)
  obtain ⟨hg_39, hf⟩ := g_gd hf
  obtain ⟨M_40, eM_40, hf⟩ := g_letE hf
  refine xistM (k := 40) (n := 693) hx hb hC hP hS (fun _ _ => rfl) rfl Nat.zero_lt_one hg_39 dX12_meets_115 (fun H locs hP hS => ?_)
  rw [eM_40] at hP
  refine lv_aload_n hx hb dX12_meets_116 rfl (lv_at hl 0 rfl) ?_
  refine gt_39_0 hx hb hts hown hC hP Nat.zero_lt_one q6_17 dX12_meets_117 ?_
  refine lv_sipush (v := 494) hx hb dX12_meets_120 (by decide) ?_
  refine lv_bipush (v := 6) hx hb dX12_meets_123 (by decide) ?_
  refine lv_iload_n hx hb dX12_meets_125 rfl (lv_at hl 2 rfl) ?_
  refine lv_imul hx hb dX12_meets_126 ?_
  refine lv_iadd hx hb dX12_meets_127 ?_
  refine lv_aload_n hx hb dX12_meets_128 rfl (lv_at hl 0 rfl) ?_
  refine gt_39_0 hx hb hts hown hC hP Nat.zero_lt_one q6_17 dX12_meets_129 ?_
  refine lv_sipush (v := 518) hx hb dX12_meets_132 (by decide) ?_
  refine lv_iload_n hx hb dX12_meets_135 rfl (lv_at hl 2 rfl) ?_
  refine lv_iadd hx hb dX12_meets_136 ?_
  obtain ⟨hg_41, hf⟩ := g_gd hf
  refine xildM (k := 40) (n := 693) hx hb hC hP (fun _ _ => rfl) rfl Nat.zero_lt_one hg_41 dX12_meets_137 ?_
  refine lv_iadd hx hb dX12_meets_138 ?_
  refine lv_iload_n hx hb dX12_meets_139 rfl (lv_at hl 1 rfl) ?_
  obtain ⟨hg_42, hf⟩ := g_gd hf
  obtain ⟨M_43, eM_43, hf⟩ := g_letE hf
  refine xistM (k := 40) (n := 693) hx hb hC hP hS (fun _ _ => rfl) rfl Nat.zero_lt_one hg_42 dX12_meets_140 (fun H locs hP hS => ?_)
  rw [eM_43] at hP
  refine lv_aload_n hx hb dX12_meets_141 rfl (lv_at hl 0 rfl) ?_
  refine gt_39_0 hx hb hts hown hC hP Nat.zero_lt_one q6_17 dX12_meets_142 ?_
  refine lv_sipush (v := 518) hx hb dX12_meets_145 (by decide) ?_
  refine lv_iload_n hx hb dX12_meets_148 rfl (lv_at hl 2 rfl) ?_
  refine lv_iadd hx hb dX12_meets_149 ?_
  refine lv_dup2_11 hx hb dX12_meets_150 rfl rfl ?_
  obtain ⟨hg_44, hf⟩ := g_gd hf
  refine xildM (k := 40) (n := 693) hx hb hC hP (fun _ _ => rfl) rfl Nat.zero_lt_one hg_44 dX12_meets_151 ?_
  refine lv_iconst (v := 1) hx hb dX12_meets_152 (by decide) ?_
  refine lv_iadd hx hb dX12_meets_153 ?_
  obtain ⟨hg_45, hf⟩ := g_gd hf
  obtain ⟨M_46, eM_46, hf⟩ := g_letE hf
  refine xistM (k := 40) (n := 693) hx hb hC hP hS (fun _ _ => rfl) rfl Nat.zero_lt_one hg_45 dX12_meets_154 (fun H locs hP hS => ?_)
  rw [eM_46] at hP
  cases hf
  exact x_vret hx hb hlocks hC hP hS hr dX12_meets_155
def wb_X12_meets_43 (x1 : Int32) (x2 : Int32) (x3 : Int32) (x4 : Int32) (x5 : Int32) (x6 : Int32) (xs0 : Int32) (M : SM) : Option (SM) :=
  if x6 < 0 then
  (if x2 = 16 then
    (wb_X12_meets_86 x1 x3 x4 x5 2 (438 + x1) M)
    else
    (wb_X12_meets_86 x1 x3 x4 x5 3 (438 + x1) M))
  else
  (if g_in (438 + x6) 693 then
    if (M 40 0 ((438 + x6).toNatClampNeg)) = xs0 then
    (if g_in (480 + x6) 693 then
      (fn_X12_part x6 (M 40 0 ((480 + x6).toNatClampNeg)) 2 M).bind fun r_12 =>
      if x2 = 16 then
      ((fn_X12_reg x1 x4 M).bind fun r_23 =>
        (fn_X12_gets x6 r_12 r_23 M).bind fun M_25 =>
        if g_in (438 + x6) 693 then
        g_let (u1 M_25 40 0 ((438 + x6).toNatClampNeg) 0) fun M_28 =>
        (fn_X12_leaves x6 M_28).bind fun M_29 =>
        g_let (u1 M_29 40 0 (Int32.toNatClampNeg 686) ((M_29 40 0 686) + 1)) fun M_31 =>
        some M_31
        else none)
      else
      (if g_in (687 + x6) 693 then
        (fn_X12_gets x1 x4 (M 40 0 ((687 + x6).toNatClampNeg)) M).bind fun M_16 =>
        if g_in (438 + x6) 693 then
        g_let (u1 M_16 40 0 ((438 + x6).toNatClampNeg) 0) fun M_19 =>
        (fn_X12_leaves x6 M_19).bind fun M_20 =>
        g_let (u1 M_20 40 0 (Int32.toNatClampNeg 686) ((M_20 40 0 686) + 1)) fun M_22 =>
        some M_22
        else none
        else none)
      else none)
    else
    (if x2 = 16 then
      (wb_X12_meets_86 x1 x3 x4 x5 2 (438 + x1) M)
      else
      (wb_X12_meets_86 x1 x3 x4 x5 3 (438 + x1) M))
    else none)
set_option maxRecDepth 100000 in
set_option maxHeartbeats 4000000 in
theorem bk_X12_meets_43 {p : Program} {l : Launch} {e : Env} {s : State} {m : MethodId} {args : Array Value} {below : List Frame} {meth : Method} {c : Code} {G : GP} {X : SM} {τ : SL} (C0 : g_mc p s m args meth c RX12 cX12_meets none 9 G) {M0 : SM} (x1 : Int32) (x2 : Int32) (x3 : Int32) (x4 : Int32) (x5 : Int32) (x6 : Int32) (xs0 : Int32) (M : SM) (hf : wb_X12_meets_43 x1 x2 x3 x4 x5 x6 xs0 M = some M0) {H : Heap} {locs : List Loc} (hP : va_P G.1 g_cl (wd G (cb X M) τ) H) (hS : va_S (g_A G) s.heap H locs) {ls : Array Slot} (hl : lv_has ls 9 [(0, .ref (G.2.1 39 0)), (1, .int x1), (2, .int x2), (3, .int x3), (4, .int x4), (5, .int x5), (6, .int x6)]) : W p l e rm_X12_meets s m args below meth c H locs 0 0 (MQ below (va_Qv (fun u => u = (X, M0, τ)) (g_pw G) (g_A G)) args s 0 0 (g_A G)) (F0 m 43 ls [.int xs0]) := by
  obtain ⟨hx, hb, hr, hml, hown, hts, hlocks, hC⟩ := id C0
  unfold wb_X12_meets_43 at hf
  refine lv_istore (lv' := [(7, .int xs0), (0, .ref (G.2.1 39 0)), (1, .int x1), (2, .int x2), (3, .int x3), (4, .int x4), (5, .int x5), (6, .int x6)]) hx hb dX12_meets_43 hl (by decide) rfl (fun ls hl => ?_)
  refine lv_iload hx hb dX12_meets_45 (lv_at hl 7 rfl) ?_
  refine lv_if_lt (tgt := 66) hx hb dX12_meets_47 (by decide) (fun hc_7 => ?_) (fun hc_7 => ?_)
  · have hf := g_pos hf hc_7
    refine lv_aload_n hx hb dX12_meets_66 rfl (lv_at hl 1 rfl) ?_
    refine gt_39_0 hx hb hts hown hC hP Nat.zero_lt_one q6_17 dX12_meets_67 ?_
    refine lv_sipush (v := 438) hx hb dX12_meets_70 (by decide) ?_
    refine lv_iload_n hx hb dX12_meets_73 rfl (lv_at hl 2 rfl) ?_
    refine lv_iadd hx hb dX12_meets_74 ?_
    refine lv_iload_n hx hb dX12_meets_75 rfl (lv_at hl 3 rfl) ?_
    refine lv_bipush (v := 16) hx hb dX12_meets_76 (by decide) ?_
    refine lv_icmp_ne (tgt := 85) hx hb dX12_meets_78 (by decide) (fun hc_8 => ?_) (fun hc_8 => ?_)
    · have hf := g_neg hf hc_8
      refine lv_iconst (v := 3) hx hb dX12_meets_85 (by decide) ?_
      exact bk_X12_meets_86 C0 x1 x3 x4 x5 3 (438 + x1) M hf hP hS (lv_sub hl [1, 2, 4, 5, 6] rfl)
    · have hf := g_pos hf hc_8
      refine lv_iconst (v := 2) hx hb dX12_meets_81 (by decide) ?_
      refine lv_goto (tgt := 86) hx hb dX12_meets_82 (by decide) ?_
      exact bk_X12_meets_86 C0 x1 x3 x4 x5 2 (438 + x1) M hf hP hS (lv_sub hl [1, 2, 4, 5, 6] rfl)
  · have hf := g_neg hf hc_7
    refine lv_aload_n hx hb dX12_meets_50 rfl (lv_at hl 1 rfl) ?_
    refine gt_39_0 hx hb hts hown hC hP Nat.zero_lt_one q6_17 dX12_meets_51 ?_
    refine lv_sipush (v := 438) hx hb dX12_meets_54 (by decide) ?_
    refine lv_iload hx hb dX12_meets_57 (lv_at hl 7 rfl) ?_
    refine lv_iadd hx hb dX12_meets_59 ?_
    obtain ⟨hg_9, hf⟩ := g_gd hf
    refine xildM (k := 40) (n := 693) hx hb hC hP (fun _ _ => rfl) rfl Nat.zero_lt_one hg_9 dX12_meets_60 ?_
    refine lv_iload hx hb dX12_meets_61 (lv_at hl 0 rfl) ?_
    refine lv_icmp_eq (tgt := 156) hx hb dX12_meets_63 (by decide) (fun hc_10 => ?_) (fun hc_10 => ?_)
    · have hf := g_pos hf hc_10
      refine lv_aload_n hx hb dX12_meets_156 rfl (lv_at hl 1 rfl) ?_
      refine lv_iload hx hb dX12_meets_157 (lv_at hl 7 rfl) ?_
      refine lv_aload_n hx hb dX12_meets_159 rfl (lv_at hl 1 rfl) ?_
      refine gt_39_0 hx hb hts hown hC hP Nat.zero_lt_one q6_17 dX12_meets_160 ?_
      refine lv_sipush (v := 480) hx hb dX12_meets_163 (by decide) ?_
      refine lv_iload hx hb dX12_meets_166 (lv_at hl 7 rfl) ?_
      refine lv_iadd hx hb dX12_meets_168 ?_
      obtain ⟨hg_11, hf⟩ := g_gd hf
      refine xildM (k := 40) (n := 693) hx hb hC hP (fun _ _ => rfl) rfl Nat.zero_lt_one hg_11 dX12_meets_169 ?_
      refine lv_iconst (v := 2) hx hb dX12_meets_170 (by decide) ?_
      obtain ⟨r_12, hc_13, hf⟩ := g_bindE hf
      refine x_calli (v := (X, M, τ)) (va_runV (As := [.int x6, .int (M 40 0 ((480 + x6).toNatClampNeg)), .int 2]) (rest := []) ⟨hx, hb, hml, hown, hts⟩ (ct_X12_part l G X M τ x6 (M 40 0 ((480 + x6).toNatClampNeg)) 2 hc_13) (cwV 3 hts gd_X12_115 rfl rfl rfl hd_X12_part ⟨Nat.le_of_ble_eq_true rfl, Nat.le_of_ble_eq_true rfl⟩) (x_preV (u := (X, M, τ)) (k := 39) (ci := 12) hC hS hP Nat.zero_lt_one rfl rfl) rfl rfl hl.1 rfl (lv_room (Nat.le_of_ble_eq_true rfl)) dX12_meets_171 ⟨Nat.le_refl _, Nat.le_refl _⟩) hS (fun H locs hP hS => ?_)
      refine lv_istore (lv' := [(8, .int r_12), (7, .int xs0), (0, .ref (G.2.1 39 0)), (1, .int x1), (2, .int x2), (3, .int x3), (4, .int x4), (5, .int x5), (6, .int x6)]) hx hb dX12_meets_174 hl (by decide) rfl (fun ls hl => ?_)
      refine lv_iload_n hx hb dX12_meets_176 rfl (lv_at hl 4 rfl) ?_
      refine lv_bipush (v := 16) hx hb dX12_meets_177 (by decide) ?_
      refine lv_icmp_ne (tgt := 200) hx hb dX12_meets_179 (by decide) (fun hc_14 => ?_) (fun hc_14 => ?_)
      · have hf := g_neg hf hc_14
        refine lv_aload_n hx hb dX12_meets_200 rfl (lv_at hl 2 rfl) ?_
        refine lv_iload_n hx hb dX12_meets_201 rfl (lv_at hl 3 rfl) ?_
        refine lv_iload hx hb dX12_meets_202 (lv_at hl 6 rfl) ?_
        refine lv_aload_n hx hb dX12_meets_204 rfl (lv_at hl 2 rfl) ?_
        refine gt_39_0 hx hb hts hown hC hP Nat.zero_lt_one q6_17 dX12_meets_205 ?_
        refine lv_sipush (v := 687) hx hb dX12_meets_208 (by decide) ?_
        refine lv_iload hx hb dX12_meets_211 (lv_at hl 8 rfl) ?_
        refine lv_iadd hx hb dX12_meets_213 ?_
        obtain ⟨hg_15, hf⟩ := g_gd hf
        refine xildM (k := 40) (n := 693) hx hb hC hP (fun _ _ => rfl) rfl Nat.zero_lt_one hg_15 dX12_meets_214 ?_
        obtain ⟨M_16, hc_17, hf⟩ := g_bindE hf
        refine x_callv (v := (X, M_16, τ)) (va_runV (As := [.int x1, .int x4, .int (M 40 0 ((687 + x6).toNatClampNeg))]) (rest := []) ⟨hx, hb, hml, hown, hts⟩ (ct_X12_gets l G X M τ x1 x4 (M 40 0 ((687 + x6).toNatClampNeg)) hc_17) (cwV 3 hts gd_X12_123 rfl rfl rfl hd_X12_gets ⟨Nat.le_of_ble_eq_true rfl, Nat.le_of_ble_eq_true rfl⟩) (x_preV (u := (X, M, τ)) (k := 39) (ci := 12) hC hS hP Nat.zero_lt_one rfl rfl) rfl rfl hl.1 rfl (lv_room (Nat.le_of_ble_eq_true rfl)) dX12_meets_215 ⟨Nat.le_refl _, Nat.le_refl _⟩) hS (fun H locs hP hS => ?_)
        refine lv_aload_n hx hb dX12_meets_218 rfl (lv_at hl 2 rfl) ?_
        refine gt_39_0 hx hb hts hown hC hP Nat.zero_lt_one q6_17 dX12_meets_219 ?_
        refine lv_sipush (v := 438) hx hb dX12_meets_222 (by decide) ?_
        refine lv_iload hx hb dX12_meets_225 (lv_at hl 8 rfl) ?_
        refine lv_iadd hx hb dX12_meets_227 ?_
        refine lv_iconst (v := 0) hx hb dX12_meets_228 (by decide) ?_
        obtain ⟨hg_18, hf⟩ := g_gd hf
        obtain ⟨M_19, eM_19, hf⟩ := g_letE hf
        refine xistM (k := 40) (n := 693) hx hb hC hP hS (fun _ _ => rfl) rfl Nat.zero_lt_one hg_18 dX12_meets_229 (fun H locs hP hS => ?_)
        rw [eM_19] at hP
        refine lv_aload_n hx hb dX12_meets_230 rfl (lv_at hl 2 rfl) ?_
        refine lv_iload hx hb dX12_meets_231 (lv_at hl 8 rfl) ?_
        obtain ⟨M_20, hc_21, hf⟩ := g_bindE hf
        refine x_callv (v := (X, M_20, τ)) (va_runV (As := [.int x6]) (rest := []) ⟨hx, hb, hml, hown, hts⟩ (ct_X12_leaves l G X M_19 τ x6 hc_21) (cwV 1 hts gd_X12_88 rfl rfl rfl hd_X12_leaves ⟨Nat.le_of_ble_eq_true rfl, Nat.le_of_ble_eq_true rfl⟩) (x_preV (u := (X, M_19, τ)) (k := 39) (ci := 12) hC hS hP Nat.zero_lt_one rfl rfl) rfl rfl hl.1 rfl (lv_room (Nat.le_of_ble_eq_true rfl)) dX12_meets_233 ⟨Nat.le_refl _, Nat.le_refl _⟩) hS (fun H locs hP hS => ?_)
        refine lv_aload_n hx hb dX12_meets_236 rfl (lv_at hl 2 rfl) ?_
        refine gt_39_0 hx hb hts hown hC hP Nat.zero_lt_one q6_17 dX12_meets_237 ?_
        refine lv_sipush (v := 686) hx hb dX12_meets_240 (by decide) ?_
        refine lv_dup2_11 hx hb dX12_meets_243 rfl rfl ?_
        refine xildM (k := 40) (n := 693) hx hb hC hP (fun _ _ => rfl) rfl Nat.zero_lt_one (by decide) dX12_meets_244 ?_
        refine lv_topE (show M_20 40 0 (Int32.toNatClampNeg 686) = M_20 40 0 686 from rfl) ?_
        refine lv_iconst (v := 1) hx hb dX12_meets_245 (by decide) ?_
        refine lv_iadd hx hb dX12_meets_246 ?_
        obtain ⟨M_22, eM_22, hf⟩ := g_letE hf
        refine xistM (k := 40) (n := 693) hx hb hC hP hS (fun _ _ => rfl) rfl Nat.zero_lt_one (by decide) dX12_meets_247 (fun H locs hP hS => ?_)
        rw [eM_22] at hP
        cases hf
        exact x_vret hx hb hlocks hC hP hS hr dX12_meets_248
      · have hf := g_pos hf hc_14
        refine lv_aload_n hx hb dX12_meets_182 rfl (lv_at hl 2 rfl) ?_
        refine lv_iload hx hb dX12_meets_183 (lv_at hl 8 rfl) ?_
        refine lv_iload hx hb dX12_meets_185 (lv_at hl 0 rfl) ?_
        refine lv_aload_n hx hb dX12_meets_187 rfl (lv_at hl 2 rfl) ?_
        refine lv_iload_n hx hb dX12_meets_188 rfl (lv_at hl 3 rfl) ?_
        refine lv_iload hx hb dX12_meets_189 (lv_at hl 6 rfl) ?_
        obtain ⟨r_23, hc_24, hf⟩ := g_bindE hf
        refine x_calli (v := (X, M, τ)) (va_runV (As := [.int x1, .int x4]) (rest := [.int r_12, .int x6, .ref (G.2.1 39 0)]) ⟨hx, hb, hml, hown, hts⟩ (ct_X12_reg l G X M τ x1 x4 hc_24) (cwV 2 hts gd_X12_139 rfl rfl rfl hd_X12_reg ⟨Nat.le_of_ble_eq_true rfl, Nat.le_of_ble_eq_true rfl⟩) (x_preV (u := (X, M, τ)) (k := 39) (ci := 12) hC hS hP Nat.zero_lt_one rfl rfl) rfl rfl hl.1 rfl (lv_room (Nat.le_of_ble_eq_true rfl)) dX12_meets_191 ⟨Nat.le_refl _, Nat.le_refl _⟩) hS (fun H locs hP hS => ?_)
        obtain ⟨M_25, hc_26, hf⟩ := g_bindE hf
        refine x_callv (v := (X, M_25, τ)) (va_runV (As := [.int x6, .int r_12, .int r_23]) (rest := []) ⟨hx, hb, hml, hown, hts⟩ (ct_X12_gets l G X M τ x6 r_12 r_23 hc_26) (cwV 3 hts gd_X12_123 rfl rfl rfl hd_X12_gets ⟨Nat.le_of_ble_eq_true rfl, Nat.le_of_ble_eq_true rfl⟩) (x_preV (u := (X, M, τ)) (k := 39) (ci := 12) hC hS hP Nat.zero_lt_one rfl rfl) rfl rfl hl.1 rfl (lv_room (Nat.le_of_ble_eq_true rfl)) dX12_meets_194 ⟨Nat.le_refl _, Nat.le_refl _⟩) hS (fun H locs hP hS => ?_)
        refine lv_goto (tgt := 218) hx hb dX12_meets_197 (by decide) ?_
        refine lv_aload_n hx hb dX12_meets_218 rfl (lv_at hl 2 rfl) ?_
        refine gt_39_0 hx hb hts hown hC hP Nat.zero_lt_one q6_17 dX12_meets_219 ?_
        refine lv_sipush (v := 438) hx hb dX12_meets_222 (by decide) ?_
        refine lv_iload hx hb dX12_meets_225 (lv_at hl 8 rfl) ?_
        refine lv_iadd hx hb dX12_meets_227 ?_
        refine lv_iconst (v := 0) hx hb dX12_meets_228 (by decide) ?_
        obtain ⟨hg_27, hf⟩ := g_gd hf
        obtain ⟨M_28, eM_28, hf⟩ := g_letE hf
        refine xistM (k := 40) (n := 693) hx hb hC hP hS (fun _ _ => rfl) rfl Nat.zero_lt_one hg_27 dX12_meets_229 (fun H locs hP hS => ?_)
        rw [eM_28] at hP
        refine lv_aload_n hx hb dX12_meets_230 rfl (lv_at hl 2 rfl) ?_
        refine lv_iload hx hb dX12_meets_231 (lv_at hl 8 rfl) ?_
        obtain ⟨M_29, hc_30, hf⟩ := g_bindE hf
        refine x_callv (v := (X, M_29, τ)) (va_runV (As := [.int x6]) (rest := []) ⟨hx, hb, hml, hown, hts⟩ (ct_X12_leaves l G X M_28 τ x6 hc_30) (cwV 1 hts gd_X12_88 rfl rfl rfl hd_X12_leaves ⟨Nat.le_of_ble_eq_true rfl, Nat.le_of_ble_eq_true rfl⟩) (x_preV (u := (X, M_28, τ)) (k := 39) (ci := 12) hC hS hP Nat.zero_lt_one rfl rfl) rfl rfl hl.1 rfl (lv_room (Nat.le_of_ble_eq_true rfl)) dX12_meets_233 ⟨Nat.le_refl _, Nat.le_refl _⟩) hS (fun H locs hP hS => ?_)
        refine lv_aload_n hx hb dX12_meets_236 rfl (lv_at hl 2 rfl) ?_
        refine gt_39_0 hx hb hts hown hC hP Nat.zero_lt_one q6_17 dX12_meets_237 ?_
        refine lv_sipush (v := 686) hx hb dX12_meets_240 (by decide) ?_
        refine lv_dup2_11 hx hb dX12_meets_243 rfl rfl ?_
        refine xildM (k := 40) (n := 693) hx hb hC hP (fun _ _ => rfl) rfl Nat.zero_lt_one (by decide) dX12_meets_244 ?_
        refine lv_topE (show M_29 40 0 (Int32.toNatClampNeg 686) = M_29 40 0 686 from rfl) ?_
        refine lv_iconst (v := 1) hx hb dX12_meets_245 (by decide) ?_
        refine lv_iadd hx hb dX12_meets_246 ?_
        obtain ⟨M_31, eM_31, hf⟩ := g_letE hf
        refine xistM (k := 40) (n := 693) hx hb hC hP hS (fun _ _ => rfl) rfl Nat.zero_lt_one (by decide) dX12_meets_247 (fun H locs hP hS => ?_)
        rw [eM_31] at hP
        cases hf
        exact x_vret hx hb hlocks hC hP hS hr dX12_meets_248
    · have hf := g_neg hf hc_10
      refine lv_aload_n hx hb dX12_meets_66 rfl (lv_at hl 1 rfl) ?_
      refine gt_39_0 hx hb hts hown hC hP Nat.zero_lt_one q6_17 dX12_meets_67 ?_
      refine lv_sipush (v := 438) hx hb dX12_meets_70 (by decide) ?_
      refine lv_iload_n hx hb dX12_meets_73 rfl (lv_at hl 2 rfl) ?_
      refine lv_iadd hx hb dX12_meets_74 ?_
      refine lv_iload_n hx hb dX12_meets_75 rfl (lv_at hl 3 rfl) ?_
      refine lv_bipush (v := 16) hx hb dX12_meets_76 (by decide) ?_
      refine lv_icmp_ne (tgt := 85) hx hb dX12_meets_78 (by decide) (fun hc_32 => ?_) (fun hc_32 => ?_)
      · have hf := g_neg hf hc_32
        refine lv_iconst (v := 3) hx hb dX12_meets_85 (by decide) ?_
        exact bk_X12_meets_86 C0 x1 x3 x4 x5 3 (438 + x1) M hf hP hS (lv_sub hl [1, 2, 4, 5, 6] rfl)
      · have hf := g_pos hf hc_32
        refine lv_iconst (v := 2) hx hb dX12_meets_81 (by decide) ?_
        refine lv_goto (tgt := 86) hx hb dX12_meets_82 (by decide) ?_
        exact bk_X12_meets_86 C0 x1 x3 x4 x5 2 (438 + x1) M hf hP hS (lv_sub hl [1, 2, 4, 5, 6] rfl)
def fn_X12_meets (x1 : Int32) (x2 : Int32) (x3 : Int32) (x4 : Int32) (x5 : Int32) (M : SM) : Option (SM) :=
  if g_in (518 + x3) 693 then
  if (M 40 0 ((518 + x3).toNatClampNeg)) ≤ 0 then
  (if x2 = 16 then
    (wb_X12_meets_43 x1 x2 x3 x4 x5 (-1) 3 M)
    else
    (wb_X12_meets_43 x1 x2 x3 x4 x5 (-1) 2 M))
  else
  (if g_in (494 + (6 * x3)) 693 then
    g_let ((M 40 0 ((494 + (6 * x3)).toNatClampNeg))) fun x6_5 =>
    if x2 = 16 then
    (wb_X12_meets_43 x1 x2 x3 x4 x5 x6_5 3 M)
    else
    (wb_X12_meets_43 x1 x2 x3 x4 x5 x6_5 2 M)
    else none)
  else none
set_option maxRecDepth 100000 in
set_option maxHeartbeats 4000000 in
theorem wk_X12_meets {p : Program} {l : Launch} {e : Env} {s : State} {m : MethodId} {args : Array Value} {below : List Frame} {meth : Method} {c : Code} {G : GP} {X : SM} {τ : SL} (C0 : g_mc p s m args meth c RX12 cX12_meets none 9 G) {M0 : SM} (x1 : Int32) (x2 : Int32) (x3 : Int32) (x4 : Int32) (x5 : Int32) (M : SM) (hf : fn_X12_meets x1 x2 x3 x4 x5 M = some M0) {H : Heap} {locs : List Loc} (hP : va_P G.1 g_cl (wd G (cb X M) τ) H) (hS : va_S (g_A G) s.heap H locs) {ls : Array Slot} (hl : lv_has ls 9 [(0, .ref (G.2.1 39 0)), (1, .int x1), (2, .int x2), (3, .int x3), (4, .int x4), (5, .int x5)]) : W p l e rm_X12_meets s m args below meth c H locs 0 0 (MQ below (va_Qv (fun u => u = (X, M0, τ)) (g_pw G) (g_A G)) args s 0 0 (g_A G)) (F0 m 0 ls []) := by
  obtain ⟨hx, hb, hr, hml, hown, hts, hlocks, hC⟩ := id C0
  unfold fn_X12_meets at hf
  refine lv_aload_n hx hb dX12_meets_0 rfl (lv_at hl 0 rfl) ?_
  refine gt_39_0 hx hb hts hown hC hP Nat.zero_lt_one q6_17 dX12_meets_1 ?_
  refine lv_sipush (v := 518) hx hb dX12_meets_4 (by decide) ?_
  refine lv_iload_n hx hb dX12_meets_7 rfl (lv_at hl 3 rfl) ?_
  refine lv_iadd hx hb dX12_meets_8 ?_
  obtain ⟨hg_1, hf⟩ := g_gd hf
  refine xildM (k := 40) (n := 693) hx hb hC hP (fun _ _ => rfl) rfl Nat.zero_lt_one hg_1 dX12_meets_9 ?_
  refine lv_if_le (tgt := 29) hx hb dX12_meets_10 (by decide) (fun hc_2 => ?_) (fun hc_2 => ?_)
  · have hf := g_pos hf hc_2
    refine lv_iconst (v := (-1)) hx hb dX12_meets_29 (by decide) ?_
    refine lv_istore (lv' := [(6, .int (-1)), (0, .ref (G.2.1 39 0)), (1, .int x1), (2, .int x2), (3, .int x3), (4, .int x4), (5, .int x5)]) hx hb dX12_meets_30 hl (by decide) rfl (fun ls hl => ?_)
    refine lv_iload_n hx hb dX12_meets_32 rfl (lv_at hl 3 rfl) ?_
    refine lv_bipush (v := 16) hx hb dX12_meets_33 (by decide) ?_
    refine lv_icmp_ne (tgt := 42) hx hb dX12_meets_35 (by decide) (fun hc_3 => ?_) (fun hc_3 => ?_)
    · have hf := g_neg hf hc_3
      refine lv_iconst (v := 2) hx hb dX12_meets_42 (by decide) ?_
      exact bk_X12_meets_43 C0 x1 x2 x3 x4 x5 (-1) 2 M hf hP hS (lv_sub hl [1, 2, 3, 4, 5, 6, 0] rfl)
    · have hf := g_pos hf hc_3
      refine lv_iconst (v := 3) hx hb dX12_meets_38 (by decide) ?_
      refine lv_goto (tgt := 43) hx hb dX12_meets_39 (by decide) ?_
      exact bk_X12_meets_43 C0 x1 x2 x3 x4 x5 (-1) 3 M hf hP hS (lv_sub hl [1, 2, 3, 4, 5, 6, 0] rfl)
  · have hf := g_neg hf hc_2
    refine lv_aload_n hx hb dX12_meets_13 rfl (lv_at hl 0 rfl) ?_
    refine gt_39_0 hx hb hts hown hC hP Nat.zero_lt_one q6_17 dX12_meets_14 ?_
    refine lv_sipush (v := 494) hx hb dX12_meets_17 (by decide) ?_
    refine lv_bipush (v := 6) hx hb dX12_meets_20 (by decide) ?_
    refine lv_iload_n hx hb dX12_meets_22 rfl (lv_at hl 3 rfl) ?_
    refine lv_imul hx hb dX12_meets_23 ?_
    refine lv_iadd hx hb dX12_meets_24 ?_
    obtain ⟨hg_4, hf⟩ := g_gd hf
    refine xildM (k := 40) (n := 693) hx hb hC hP (fun _ _ => rfl) rfl Nat.zero_lt_one hg_4 dX12_meets_25 ?_
    refine lv_goto (tgt := 30) hx hb dX12_meets_26 (by decide) ?_
    obtain ⟨x6_5, ex6_5, hf⟩ := g_letE hf
    refine lv_topE ex6_5 ?_
    refine lv_istore (lv' := [(6, .int x6_5), (0, .ref (G.2.1 39 0)), (1, .int x1), (2, .int x2), (3, .int x3), (4, .int x4), (5, .int x5)]) hx hb dX12_meets_30 hl (by decide) rfl (fun ls hl => ?_)
    refine lv_iload_n hx hb dX12_meets_32 rfl (lv_at hl 3 rfl) ?_
    refine lv_bipush (v := 16) hx hb dX12_meets_33 (by decide) ?_
    refine lv_icmp_ne (tgt := 42) hx hb dX12_meets_35 (by decide) (fun hc_6 => ?_) (fun hc_6 => ?_)
    · have hf := g_neg hf hc_6
      refine lv_iconst (v := 2) hx hb dX12_meets_42 (by decide) ?_
      exact bk_X12_meets_43 C0 x1 x2 x3 x4 x5 x6_5 2 M hf hP hS (lv_sub hl [1, 2, 3, 4, 5, 6, 0] rfl)
    · have hf := g_pos hf hc_6
      refine lv_iconst (v := 3) hx hb dX12_meets_38 (by decide) ?_
      refine lv_goto (tgt := 43) hx hb dX12_meets_39 (by decide) ?_
      exact bk_X12_meets_43 C0 x1 x2 x3 x4 x5 x6_5 3 M hf hP hS (lv_sub hl [1, 2, 3, 4, 5, 6, 0] rfl)
set_option maxRecDepth 100000 in
set_option maxHeartbeats 4000000 in
theorem ct_X12_meets (l : Launch) (G : GP) (X M : SM) (τ : SL) (x1 : Int32) (x2 : Int32) (x3 : Int32) (x4 : Int32) (x5 : Int32) {M0 : SM} (hf : fn_X12_meets x1 x2 x3 x4 x5 M = some M0) : Met l yX12_meets (wz yX12_meets cX12_meets 9 none) rm_X12_meets (va_Pc [.ref (G.2.1 39 0), .int x1, .int x2, .int x3, .int x4, .int x5] (g_pw G (X, M, τ))) (va_Qv (fun u => u = (X, M0, τ)) (g_pw G) (g_A G)) 0 0 (g_A G) := by
  refine Met.ofW (cc := cX12_meets) (maxL := 9) (ret := none) (by decide) rfl ?_
  intro p e s m args below meth c s₁ B hml hv
  obtain ⟨rfl, hC, hP⟩ := hv
  have C0 : g_mc p s m _ meth c RX12 cX12_meets none 9 G := ⟨B.exec, B.bytes, B.returns, hml, findClass_of_methodNamed B.named, fun w h => atoms_spec (ws := wz yX12_meets cX12_meets 9 none) B.pre w (List.mem_cons_of_mem _ h), B.notSynchronized, hC⟩
  have hl := lv_entry ([.ref (G.2.1 39 0), .int x1, .int x2, .int x3, .int x4, .int x5]) (n := 9) (Nat.le_of_ble_eq_true rfl)
  rw [lg_entry_eq]
  generalize (lg_sl ([.ref (G.2.1 39 0), .int x1, .int x2, .int x3, .int x4, .int x5]) ++ List.replicate (9 - (lg_sl ([.ref (G.2.1 39 0), .int x1, .int x2, .int x3, .int x4, .int x5])).length) Slot.unset).toArray = ls at hl ⊢
  exact wk_X12_meets C0 x1 x2 x3 x4 x5 M hf hP va_S.rf hl
