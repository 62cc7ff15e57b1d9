abbrev rm_X12_isBack : Room := { frames := 0, cells := 0, slots := 0, locals := 0 }
def fn_X12_isBack (x1 : Int32) (x2 : Int32) (M : SM) : Option (Int32 × SM) :=
  if g_in (288 + x1) 693 then
  if (M 40 0 ((288 + x1).toNatClampNeg)) = 0 then
  (if g_in (288 + x1) 693 then
    g_let (u1 M 40 0 ((288 + x1).toNatClampNeg) 1) fun M_11 =>
    if g_in (144 + x1) 693 then
    g_let (u1 M_11 40 0 ((144 + x1).toNatClampNeg) x2) fun M_13 =>
    if g_in (144 + x1) 693 then
    if (M_13 40 0 ((144 + x1).toNatClampNeg)) ≤ 0 then
    (if g_in (288 + x1) 693 then
      g_let (u1 M_13 40 0 ((288 + x1).toNatClampNeg) 0) fun M_17 =>
      some (0, M_17)
      else none)
    else
    (if g_in (144 + x1) 693 then
      if g_in (144 + x1) 693 then
      g_let (u1 M_13 40 0 ((144 + x1).toNatClampNeg) ((M_13 40 0 ((144 + x1).toNatClampNeg)) - 1)) fun M_20 =>
      some (1, M_20)
      else none
      else none)
    else none
    else none
    else none)
  else
  (if g_in (144 + x1) 693 then
    if (M 40 0 ((144 + x1).toNatClampNeg)) ≤ 0 then
    (if g_in (288 + x1) 693 then
      g_let (u1 M 40 0 ((288 + x1).toNatClampNeg) 0) fun M_6 =>
      some (0, M_6)
      else none)
    else
    (if g_in (144 + x1) 693 then
      if g_in (144 + x1) 693 then
      g_let (u1 M 40 0 ((144 + x1).toNatClampNeg) ((M 40 0 ((144 + x1).toNatClampNeg)) - 1)) fun M_9 =>
      some (1, M_9)
      else none
      else none)
    else none)
  else none
set_option maxRecDepth 100000 in
set_option maxHeartbeats 4000000 in
theorem wk_X12_isBack {p : Program} {l : Launch} {e : Env} {s : State} {m : MethodId} {args : Array Value} {below : List Frame} {meth : Method} {c : Code} {G : GP} {X : SM} {τ : SL} (C0 : g_mc p s m args meth c RX12 cX12_isBack (some .boolean) 3 G) {r0 : Int32} {M0 : SM} (x1 : Int32) (x2 : Int32) (M : SM) (hf : fn_X12_isBack x1 x2 M = some (r0, M0)) {H : Heap} {locs : List Loc} (hP : va_P G.1 g_cl (wd G (cb X M) τ) H) (hS : va_S (g_A G) s.heap H locs) {ls : Array Slot} (hl : lv_has ls 3 [(0, .ref (G.2.1 39 0)), (1, .int x1), (2, .int x2)]) : W p l e rm_X12_isBack s m args below meth c H locs 0 0 (MQ below (va_Qi (fun r u => r = r0 ∧ u = (X, M0, τ)) (g_pw G) (g_A G)) args s 0 0 (g_A G)) (F0 m 0 ls []) := by
  obtain ⟨hx, hb, hr, hml, hown, hts, hlocks, hC⟩ := id C0
  unfold fn_X12_isBack at hf
  refine lv_aload_n hx hb dX12_isBack_0 rfl (lv_at hl 0 rfl) ?_
  refine gt_39_0 hx hb hts hown hC hP Nat.zero_lt_one q6_17 dX12_isBack_1 ?_
  refine lv_sipush (v := 288) hx hb dX12_isBack_4 (by decide) ?_
  refine lv_iload_n hx hb dX12_isBack_7 rfl (lv_at hl 1 rfl) ?_
  refine lv_iadd hx hb dX12_isBack_8 ?_
  obtain ⟨hg_1, hf⟩ := g_gd hf
  refine xildM (k := 40) (n := 693) hx hb hC hP (fun _ _ => rfl) rfl Nat.zero_lt_one hg_1 dX12_isBack_9 ?_
  refine lv_if_ne (tgt := 35) hx hb dX12_isBack_10 (by decide) (fun hc_2 => ?_) (fun hc_2 => ?_)
  · have hf := g_neg hf hc_2
    refine lv_aload_n hx hb dX12_isBack_35 rfl (lv_at hl 0 rfl) ?_
    refine gt_39_0 hx hb hts hown hC hP Nat.zero_lt_one q6_17 dX12_isBack_36 ?_
    refine lv_sipush (v := 144) hx hb dX12_isBack_39 (by decide) ?_
    refine lv_iload_n hx hb dX12_isBack_42 rfl (lv_at hl 1 rfl) ?_
    refine lv_iadd hx hb dX12_isBack_43 ?_
    obtain ⟨hg_3, hf⟩ := g_gd hf
    refine xildM (k := 40) (n := 693) hx hb hC hP (fun _ _ => rfl) rfl Nat.zero_lt_one hg_3 dX12_isBack_44 ?_
    refine lv_if_le (tgt := 64) hx hb dX12_isBack_45 (by decide) (fun hc_4 => ?_) (fun hc_4 => ?_)
    · have hf := g_pos hf hc_4
      refine lv_aload_n hx hb dX12_isBack_64 rfl (lv_at hl 0 rfl) ?_
      refine gt_39_0 hx hb hts hown hC hP Nat.zero_lt_one q6_17 dX12_isBack_65 ?_
      refine lv_sipush (v := 288) hx hb dX12_isBack_68 (by decide) ?_
      refine lv_iload_n hx hb dX12_isBack_71 rfl (lv_at hl 1 rfl) ?_
      refine lv_iadd hx hb dX12_isBack_72 ?_
      refine lv_iconst (v := 0) hx hb dX12_isBack_73 (by decide) ?_
      obtain ⟨hg_5, hf⟩ := g_gd hf
      obtain ⟨M_6, eM_6, hf⟩ := g_letE hf
      refine xistM (k := 40) (n := 693) hx hb hC hP hS (fun _ _ => rfl) rfl Nat.zero_lt_one hg_5 dX12_isBack_74 (fun H locs hP hS => ?_)
      rw [eM_6] at hP
      refine lv_iconst (v := 0) hx hb dX12_isBack_75 (by decide) ?_
      cases hf
      exact x_zret hx hb hlocks hC hP hS hr (Or.inl rfl) dX12_isBack_76
    · have hf := g_neg hf hc_4
      refine lv_aload_n hx hb dX12_isBack_48 rfl (lv_at hl 0 rfl) ?_
      refine gt_39_0 hx hb hts hown hC hP Nat.zero_lt_one q6_17 dX12_isBack_49 ?_
      refine lv_sipush (v := 144) hx hb dX12_isBack_52 (by decide) ?_
      refine lv_iload_n hx hb dX12_isBack_55 rfl (lv_at hl 1 rfl) ?_
      refine lv_iadd hx hb dX12_isBack_56 ?_
      refine lv_dup2_11 hx hb dX12_isBack_57 rfl rfl ?_
      obtain ⟨hg_7, hf⟩ := g_gd hf
      refine xildM (k := 40) (n := 693) hx hb hC hP (fun _ _ => rfl) rfl Nat.zero_lt_one hg_7 dX12_isBack_58 ?_
      refine lv_iconst (v := 1) hx hb dX12_isBack_59 (by decide) ?_
      refine lv_isub hx hb dX12_isBack_60 ?_
      obtain ⟨hg_8, hf⟩ := g_gd hf
      obtain ⟨M_9, eM_9, hf⟩ := g_letE hf
      refine xistM (k := 40) (n := 693) hx hb hC hP hS (fun _ _ => rfl) rfl Nat.zero_lt_one hg_8 dX12_isBack_61 (fun H locs hP hS => ?_)
      rw [eM_9] at hP
      refine lv_iconst (v := 1) hx hb dX12_isBack_62 (by decide) ?_
      cases hf
      exact x_zret hx hb hlocks hC hP hS hr (Or.inr rfl) dX12_isBack_63
  · have hf := g_pos hf hc_2
    refine lv_aload_n hx hb dX12_isBack_13 rfl (lv_at hl 0 rfl) ?_
    refine gt_39_0 hx hb hts hown hC hP Nat.zero_lt_one q6_17 dX12_isBack_14 ?_
    refine lv_sipush (v := 288) hx hb dX12_isBack_17 (by decide) ?_
    refine lv_iload_n hx hb dX12_isBack_20 rfl (lv_at hl 1 rfl) ?_
    refine lv_iadd hx hb dX12_isBack_21 ?_
    refine lv_iconst (v := 1) hx hb dX12_isBack_22 (by decide) ?_
    obtain ⟨hg_10, hf⟩ := g_gd hf
    obtain ⟨M_11, eM_11, hf⟩ := g_letE hf
    refine xistM (k := 40) (n := 693) hx hb hC hP hS (fun _ _ => rfl) rfl Nat.zero_lt_one hg_10 dX12_isBack_23 (fun H locs hP hS => ?_)
    rw [eM_11] at hP
    refine lv_aload_n hx hb dX12_isBack_24 rfl (lv_at hl 0 rfl) ?_
    refine gt_39_0 hx hb hts hown hC hP Nat.zero_lt_one q6_17 dX12_isBack_25 ?_
    refine lv_sipush (v := 144) hx hb dX12_isBack_28 (by decide) ?_
    refine lv_iload_n hx hb dX12_isBack_31 rfl (lv_at hl 1 rfl) ?_
    refine lv_iadd hx hb dX12_isBack_32 ?_
    refine lv_iload_n hx hb dX12_isBack_33 rfl (lv_at hl 2 rfl) ?_
    obtain ⟨hg_12, hf⟩ := g_gd hf
    obtain ⟨M_13, eM_13, hf⟩ := g_letE hf
    refine xistM (k := 40) (n := 693) hx hb hC hP hS (fun _ _ => rfl) rfl Nat.zero_lt_one hg_12 dX12_isBack_34 (fun H locs hP hS => ?_)
    rw [eM_13] at hP
    refine lv_aload_n hx hb dX12_isBack_35 rfl (lv_at hl 0 rfl) ?_
    refine gt_39_0 hx hb hts hown hC hP Nat.zero_lt_one q6_17 dX12_isBack_36 ?_
    refine lv_sipush (v := 144) hx hb dX12_isBack_39 (by decide) ?_
    refine lv_iload_n hx hb dX12_isBack_42 rfl (lv_at hl 1 rfl) ?_
    refine lv_iadd hx hb dX12_isBack_43 ?_
    obtain ⟨hg_14, hf⟩ := g_gd hf
    refine xildM (k := 40) (n := 693) hx hb hC hP (fun _ _ => rfl) rfl Nat.zero_lt_one hg_14 dX12_isBack_44 ?_
    refine lv_if_le (tgt := 64) hx hb dX12_isBack_45 (by decide) (fun hc_15 => ?_) (fun hc_15 => ?_)
    · have hf := g_pos hf hc_15
      refine lv_aload_n hx hb dX12_isBack_64 rfl (lv_at hl 0 rfl) ?_
      refine gt_39_0 hx hb hts hown hC hP Nat.zero_lt_one q6_17 dX12_isBack_65 ?_
      refine lv_sipush (v := 288) hx hb dX12_isBack_68 (by decide) ?_
      refine lv_iload_n hx hb dX12_isBack_71 rfl (lv_at hl 1 rfl) ?_
      refine lv_iadd hx hb dX12_isBack_72 ?_
      refine lv_iconst (v := 0) hx hb dX12_isBack_73 (by decide) ?_
      obtain ⟨hg_16, hf⟩ := g_gd hf
      obtain ⟨M_17, eM_17, hf⟩ := g_letE hf
      refine xistM (k := 40) (n := 693) hx hb hC hP hS (fun _ _ => rfl) rfl Nat.zero_lt_one hg_16 dX12_isBack_74 (fun H locs hP hS => ?_)
      rw [eM_17] at hP
      refine lv_iconst (v := 0) hx hb dX12_isBack_75 (by decide) ?_
      cases hf
      exact x_zret hx hb hlocks hC hP hS hr (Or.inl rfl) dX12_isBack_76
    · have hf := g_neg hf hc_15
      refine lv_aload_n hx hb dX12_isBack_48 rfl (lv_at hl 0 rfl) ?_
      refine gt_39_0 hx hb hts hown hC hP Nat.zero_lt_one q6_17 dX12_isBack_49 ?_
      refine lv_sipush (v := 144) hx hb dX12_isBack_52 (by decide) ?_
      refine lv_iload_n hx hb dX12_isBack_55 rfl (lv_at hl 1 rfl) ?_
      refine lv_iadd hx hb dX12_isBack_56 ?_
      refine lv_dup2_11 hx hb dX12_isBack_57 rfl rfl ?_
      obtain ⟨hg_18, hf⟩ := g_gd hf
      refine xildM (k := 40) (n := 693) hx hb hC hP (fun _ _ => rfl) rfl Nat.zero_lt_one hg_18 dX12_isBack_58 ?_
      refine lv_iconst (v := 1) hx hb dX12_isBack_59 (by decide) ?_
      refine lv_isub hx hb dX12_isBack_60 ?_
      obtain ⟨hg_19, hf⟩ := g_gd hf
      obtain ⟨M_20, eM_20, hf⟩ := g_letE hf
      refine xistM (k := 40) (n := 693) hx hb hC hP hS (fun _ _ => rfl) rfl Nat.zero_lt_one hg_19 dX12_isBack_61 (fun H locs hP hS => ?_)
      rw [eM_20] at hP
      refine lv_iconst (v := 1) hx hb dX12_isBack_62 (by decide) ?_
      cases hf
      exact x_zret hx hb hlocks hC hP hS hr (Or.inr rfl) dX12_isBack_63
set_option maxRecDepth 100000 in
set_option maxHeartbeats 4000000 in
theorem ct_X12_isBack (l : Launch) (G : GP) (X M : SM) (τ : SL) (x1 : Int32) (x2 : Int32) {r0 : Int32} {M0 : SM} (hf : fn_X12_isBack x1 x2 M = some (r0, M0)) : Met l yX12_isBack (wz yX12_isBack cX12_isBack 3 (some .boolean)) rm_X12_isBack (va_Pc [.ref (G.2.1 39 0), .int x1, .int x2] (g_pw G (X, M, τ))) (va_Qi (fun r u => r = r0 ∧ u = (X, M0, τ)) (g_pw G) (g_A G)) 0 0 (g_A G) := by
  refine Met.ofW (cc := cX12_isBack) (maxL := 3) (ret := (some .boolean)) (by decide +kernel) rfl ?_
  intro p e s m args below meth c s₁ B hml hv
  obtain ⟨rfl, hC, hP⟩ := hv
  have C0 : g_mc p s m _ meth c RX12 cX12_isBack (some .boolean) 3 G := ⟨B.exec, B.bytes, B.returns, hml, findClass_of_methodNamed B.named, fun w h => atoms_spec (ws := wz yX12_isBack cX12_isBack 3 (some .boolean)) B.pre w (List.mem_cons_of_mem _ h), B.notSynchronized, hC⟩
  have hl := lv_entry ([.ref (G.2.1 39 0), .int x1, .int x2]) (n := 3) (Nat.le_of_ble_eq_true rfl)
  rw [lg_entry_eq]
  generalize (lg_sl ([.ref (G.2.1 39 0), .int x1, .int x2]) ++ List.replicate (3 - (lg_sl ([.ref (G.2.1 39 0), .int x1, .int x2])).length) Slot.unset).toArray = ls at hl ⊢
  exact wk_X12_isBack C0  x1 x2 M hf hP va_S.rf hl
abbrev rm_X12_goesTo : Room := { frames := 0, cells := 0, slots := 0, locals := 0 }
def fn_X12_goesTo (x1 : Int32) (x2 : Int32) (M : SM) : Option (SM) :=
  if g_in (432 + x1) 693 then
  g_let (u1 M 40 0 ((432 + x1).toNatClampNeg) x2) fun M_2 =>
  if g_in x1 6 then
  if (M_2 43 0 (x1.toNatClampNeg)) ≤ x2 then
  (if g_in (432 + x1) 693 then
    g_let (u1 M_2 40 0 ((432 + x1).toNatClampNeg) 0) fun M_6 =>
    if g_in (462 + x1) 693 then
    if g_in (462 + x1) 693 then
    g_let (u1 M_6 40 0 ((462 + x1).toNatClampNeg) ((M_6 40 0 ((462 + x1).toNatClampNeg)) + 1)) fun M_9 =>
    some M_9
    else none
    else none
    else none)
  else
  (some M_2)
  else none
  else none
set_option maxRecDepth 100000 in
set_option maxHeartbeats 4000000 in
theorem wk_X12_goesTo {p : Program} {l : Launch} {e : Env} {s : State} {m : MethodId} {args : Array Value} {below : List Frame} {meth : Method} {c : Code} {G : GP} {X : SM} {τ : SL} (C0 : g_mc p s m args meth c RX12 cX12_goesTo none 3 G) {M0 : SM} (x1 : Int32) (x2 : Int32) (M : SM) (hf : fn_X12_goesTo x1 x2 M = some M0) {H : Heap} {locs : List Loc} (hP : va_P G.1 g_cl (wd G (cb X M) τ) H) (hS : va_S (g_A G) s.heap H locs) {ls : Array Slot} (hl : lv_has ls 3 [(0, .ref (G.2.1 39 0)), (1, .int x1), (2, .int x2)]) : W p l e rm_X12_goesTo s m args below meth c H locs 0 0 (MQ below (va_Qv (fun u => u = (X, M0, τ)) (g_pw G) (g_A G)) args s 0 0 (g_A G)) (F0 m 0 ls []) := by
  obtain ⟨hx, hb, hr, hml, hown, hts, hlocks, hC⟩ := id C0
  unfold fn_X12_goesTo at hf
  refine lv_aload_n hx hb dX12_goesTo_0 rfl (lv_at hl 0 rfl) ?_
  refine gt_39_0 hx hb hts hown hC hP Nat.zero_lt_one q6_17 dX12_goesTo_1 ?_
  refine lv_sipush (v := 432) hx hb dX12_goesTo_4 (by decide) ?_
  refine lv_iload_n hx hb dX12_goesTo_7 rfl (lv_at hl 1 rfl) ?_
  refine lv_iadd hx hb dX12_goesTo_8 ?_
  refine lv_iload_n hx hb dX12_goesTo_9 rfl (lv_at hl 2 rfl) ?_
  obtain ⟨hg_1, hf⟩ := g_gd hf
  obtain ⟨M_2, eM_2, hf⟩ := g_letE hf
  refine xistM (k := 40) (n := 693) hx hb hC hP hS (fun _ _ => rfl) rfl Nat.zero_lt_one hg_1 dX12_goesTo_10 (fun H locs hP hS => ?_)
  rw [eM_2] at hP
  refine lv_iload_n hx hb dX12_goesTo_11 rfl (lv_at hl 2 rfl) ?_
  refine lv_aload_n hx hb dX12_goesTo_12 rfl (lv_at hl 0 rfl) ?_
  refine gt_39_3 hx hb hts hown hC hP Nat.zero_lt_one q6_20 dX12_goesTo_13 ?_
  refine lv_iload_n hx hb dX12_goesTo_16 rfl (lv_at hl 1 rfl) ?_
  obtain ⟨hg_3, hf⟩ := g_gd hf
  refine xildM (k := 43) (n := 6) hx hb hC hP (fun _ _ => rfl) rfl Nat.zero_lt_one hg_3 dX12_goesTo_17 ?_
  refine lv_icmp_ge (tgt := 22) hx hb dX12_goesTo_18 (by decide) (fun hc_4 => ?_) (fun hc_4 => ?_)
  · have hf := g_pos hf hc_4
    refine lv_aload_n hx hb dX12_goesTo_22 rfl (lv_at hl 0 rfl) ?_
    refine gt_39_0 hx hb hts hown hC hP Nat.zero_lt_one q6_17 dX12_goesTo_23 ?_
    refine lv_sipush (v := 432) hx hb dX12_goesTo_26 (by decide) ?_
    refine lv_iload_n hx hb dX12_goesTo_29 rfl (lv_at hl 1 rfl) ?_
    refine lv_iadd hx hb dX12_goesTo_30 ?_
    refine lv_iconst (v := 0) hx hb dX12_goesTo_31 (by decide) ?_
    obtain ⟨hg_5, hf⟩ := g_gd hf
    obtain ⟨M_6, eM_6, hf⟩ := g_letE hf
    refine xistM (k := 40) (n := 693) hx hb hC hP hS (fun _ _ => rfl) rfl Nat.zero_lt_one hg_5 dX12_goesTo_32 (fun H locs hP hS => ?_)
    rw [eM_6] at hP
    refine lv_aload_n hx hb dX12_goesTo_33 rfl (lv_at hl 0 rfl) ?_
    refine gt_39_0 hx hb hts hown hC hP Nat.zero_lt_one q6_17 dX12_goesTo_34 ?_
    refine lv_sipush (v := 462) hx hb dX12_goesTo_37 (by decide) ?_
    refine lv_iload_n hx hb dX12_goesTo_40 rfl (lv_at hl 1 rfl) ?_
    refine lv_iadd hx hb dX12_goesTo_41 ?_
    refine lv_dup2_11 hx hb dX12_goesTo_42 rfl rfl ?_
    obtain ⟨hg_7, hf⟩ := g_gd hf
    refine xildM (k := 40) (n := 693) hx hb hC hP (fun _ _ => rfl) rfl Nat.zero_lt_one hg_7 dX12_goesTo_43 ?_
    refine lv_iconst (v := 1) hx hb dX12_goesTo_44 (by decide) ?_
    refine lv_iadd hx hb dX12_goesTo_45 ?_
    obtain ⟨hg_8, hf⟩ := g_gd hf
    obtain ⟨M_9, eM_9, hf⟩ := g_letE hf
    refine xistM (k := 40) (n := 693) hx hb hC hP hS (fun _ _ => rfl) rfl Nat.zero_lt_one hg_8 dX12_goesTo_46 (fun H locs hP hS => ?_)
    rw [eM_9] at hP
    cases hf
    exact x_vret hx hb hlocks hC hP hS hr dX12_goesTo_47
  · have hf := g_neg hf hc_4
    cases hf
    exact x_vret hx hb hlocks hC hP hS hr dX12_goesTo_21
set_option maxRecDepth 100000 in
set_option maxHeartbeats 4000000 in
theorem ct_X12_goesTo (l : Launch) (G : GP) (X M : SM) (τ : SL) (x1 : Int32) (x2 : Int32) {M0 : SM} (hf : fn_X12_goesTo x1 x2 M = some M0) : Met l yX12_goesTo (wz yX12_goesTo cX12_goesTo 3 none) rm_X12_goesTo (va_Pc [.ref (G.2.1 39 0), .int x1, .int x2] (g_pw G (X, M, τ))) (va_Qv (fun u => u = (X, M0, τ)) (g_pw G) (g_A G)) 0 0 (g_A G) := by
  refine Met.ofW (cc := cX12_goesTo) (maxL := 3) (ret := none) (by decide +kernel) rfl ?_
  intro p e s m args below meth c s₁ B hml hv
  obtain ⟨rfl, hC, hP⟩ := hv
  have C0 : g_mc p s m _ meth c RX12 cX12_goesTo none 3 G := ⟨B.exec, B.bytes, B.returns, hml, findClass_of_methodNamed B.named, fun w h => atoms_spec (ws := wz yX12_goesTo cX12_goesTo 3 none) B.pre w (List.mem_cons_of_mem _ h), B.notSynchronized, hC⟩
  have hl := lv_entry ([.ref (G.2.1 39 0), .int x1, .int x2]) (n := 3) (Nat.le_of_ble_eq_true rfl)
  rw [lg_entry_eq]
  generalize (lg_sl ([.ref (G.2.1 39 0), .int x1, .int x2]) ++ List.replicate (3 - (lg_sl ([.ref (G.2.1 39 0), .int x1, .int x2])).length) Slot.unset).toArray = ls at hl ⊢
  exact wk_X12_goesTo C0  x1 x2 M hf hP va_S.rf hl
abbrev rm_X12_reckons : Room := { frames := 2, cells := 0, slots := 0, locals := 43 }
def fn_X12_reckons (x1 : Int32) (x2 : Int32) (x3 : Int32) (x4 : Int32) (x5 : Int32) (M : SM) : Option (SM) :=
  if x2 = 0 then
  ((fn_X12_gets x1 x3 x4 M).bind fun M_59 =>
    some M_59)
  else
  (if x2 = 1 then
    ((fn_X12_reg x1 x4 M).bind fun r_53 =>
      (fn_X12_reg x1 x5 M).bind fun r_55 =>
      (fn_X12_gets x1 x3 (r_53 + r_55) M).bind fun M_57 =>
      some M_57)
    else
    (if x2 = 2 then
      ((fn_X12_reg x1 x4 M).bind fun r_47 =>
        (fn_X12_reg x1 x5 M).bind fun r_49 =>
        (fn_X12_gets x1 x3 (r_47 - r_49) M).bind fun M_51 =>
        some M_51)
      else
      (if x2 = 3 then
        ((fn_X12_reg x1 x4 M).bind fun r_41 =>
          (fn_X12_reg x1 x5 M).bind fun r_43 =>
          (fn_X12_gets x1 x3 (r_41 * r_43) M).bind fun M_45 =>
          some M_45)
        else
        (if x2 = 4 then
          ((fn_X12_reg x1 x4 M).bind fun r_32 =>
            (fn_X12_reg x1 x5 M).bind fun r_34 =>
            if r_34 ≤ r_32 then
            ((fn_X12_gets x1 x3 0 M).bind fun M_37 =>
              some M_37)
            else
            ((fn_X12_gets x1 x3 1 M).bind fun M_39 =>
              some M_39))
          else
          (if x2 = 5 then
            ((fn_X12_reg x1 x4 M).bind fun r_27 =>
              if g_in ((48 + (16 * x1)) + r_27) 693 then
              (fn_X12_gets x1 x3 (M 40 0 (((48 + (16 * x1)) + r_27).toNatClampNeg)) M).bind fun M_30 =>
              some M_30
              else none)
            else
            (if x2 = 6 then
              ((fn_X12_reg x1 x4 M).bind fun r_21 =>
                (fn_X12_reg x1 x3 M).bind fun r_23 =>
                if g_in ((48 + (16 * x1)) + r_21) 693 then
                g_let (u1 M 40 0 (((48 + (16 * x1)) + r_21).toNatClampNeg) r_23) fun M_26 =>
                some M_26
                else none)
              else
              (if x2 = 15 then
                ((fn_X12_gets x1 x3 (M 40 0 683) M).bind fun M_19 =>
                  some M_19)
                else
                (if x2 = 19 then
                  ((fn_X12_reg x1 x4 M).bind fun r_9 =>
                    (fn_X12_reg x1 x5 M).bind fun r_11 =>
                    g_let (fn_Jxf58ca_floatToIntBits_5c35a (FP.fdiv (FP.i2f r_9) (FP.i2f r_11))) fun r_15 =>
                    (fn_X12_gets x1 x3 r_15 M).bind fun M_17 =>
                    some M_17)
                  else
                  ((fn_X12_reg x1 x4 M).bind fun r_1 =>
                    (fn_X12_reg x1 x5 M).bind fun r_3 =>
                    if g_n32 (FP.fmul (FP.i2f r_1) (FP.i2f r_3)) then
                    if g_n32 (FP.fdiv (FP.fmul (FP.i2f r_1) (FP.i2f r_3)) 1149239296) then
                    (fn_X12_gets x1 x3 (FP.f2i (FP.fdiv (FP.fmul (FP.i2f r_1) (FP.i2f r_3)) 1149239296)) M).bind fun M_7 =>
                    some M_7
                    else none
                    else none)))))))))
set_option maxRecDepth 100000 in
set_option maxHeartbeats 4000000 in
theorem wk_X12_reckons {p : Program} {l : Launch} {e : Env} {s : State} {m : MethodId} {args : Array Value} {below : List Frame} {meth : Method} {c : Code} {G : GP} {X : SM} {τ : SL} (C0 : g_mc p s m args meth c RX12 cX12_reckons none 6 G) {M0 : SM} (x1 : Int32) (x2 : Int32) (x3 : Int32) (x4 : Int32) (x5 : Int32) (M : SM) (hf : fn_X12_reckons x1 x2 x3 x4 x5 M = some M0) {d : Drawn} (hd : s.drawn.sameBut d lw_cs) {H : Heap} {locs : List Loc} (hP : va_P G.1 g_cl (wd G (cb X M) τ) H) (hS : va_S (g_A G) s.heap H locs) {ls : Array Slot} (hl : lv_has ls 6 [(0, .ref (G.2.1 39 0)), (1, .int x1), (2, .int x2), (3, .int x3), (4, .int x4), (5, .int x5)]) : W p l e rm_X12_reckons (s.setDrawn d) m args below meth c H locs 0 0 (MQD lw_cs below (va_Qv (fun u => u = (X, M0, τ)) (g_pw G) (g_A G)) args s 0 0 (g_A G)) (F0 m 0 ls []) := by
  obtain ⟨hx, hb, hr, hml, hown, hts0, hlocks, hC0⟩ := id C0
  have hts := dr_words hts0 d
  have hC := hC0.dr d
  unfold fn_X12_reckons at hf
  refine lv_iload_n hx hb dX12_reckons_0 rfl (lv_at hl 2 rfl) ?_
  by_cases hs1_0 : x2 = 0
  · have hf := g_pos hf hs1_0
    refine lv_tableIn (off := 95) (tgt := 96) hx hb dX12_reckons_1 (by rw [hs1_0]; decide) (by rw [hs1_0]; decide) (by rw [hs1_0]; rfl) (by decide) ?_
    refine lv_aload_n hx hb dX12_reckons_96 rfl (lv_at hl 0 rfl) ?_
    refine lv_iload_n hx hb dX12_reckons_97 rfl (lv_at hl 1 rfl) ?_
    refine lv_iload_n hx hb dX12_reckons_98 rfl (lv_at hl 3 rfl) ?_
    refine lv_iload hx hb dX12_reckons_99 (lv_at hl 4 rfl) ?_
    obtain ⟨M_59, hc_60, hf⟩ := g_bindE hf
    refine x_callv (v := (X, M_59, τ)) (va_runV (As := [.int x1, .int x3, .int x4]) (rest := []) ⟨hx, hb, hml, hown, hts⟩ (ct_X12_gets l G X M τ x1 x3 x4 hc_60) (cwV 3 hts gd_X12_123 rfl rfl rfl hd_X12_gets ⟨Nat.le_of_ble_eq_true rfl, Nat.le_of_ble_eq_true rfl⟩) (x_preV (u := (X, M, τ)) (k := 39) (ci := 12) hC hS hP Nat.zero_lt_one rfl rfl) rfl rfl hl.1 rfl (lv_room (Nat.le_of_ble_eq_true rfl)) dX12_reckons_101 ⟨Nat.zero_le _, Nat.zero_le _⟩) hS (fun H locs hP hS => ?_)
    refine lv_goto (tgt := 341) hx hb dX12_reckons_104 (by decide) ?_
    cases hf
    refine W.endD hd ?_
    exact x_vret hx hb hlocks hC hP hS hr dX12_reckons_341
  · have hf := g_neg hf hs1_0
    by_cases hs1_1 : x2 = 1
    · have hf := g_pos hf hs1_1
      refine lv_tableIn (off := 106) (tgt := 107) hx hb dX12_reckons_1 (by rw [hs1_1]; decide) (by rw [hs1_1]; decide) (by rw [hs1_1]; rfl) (by decide) ?_
      refine lv_aload_n hx hb dX12_reckons_107 rfl (lv_at hl 0 rfl) ?_
      refine lv_iload_n hx hb dX12_reckons_108 rfl (lv_at hl 1 rfl) ?_
      refine lv_iload_n hx hb dX12_reckons_109 rfl (lv_at hl 3 rfl) ?_
      refine lv_aload_n hx hb dX12_reckons_110 rfl (lv_at hl 0 rfl) ?_
      refine lv_iload_n hx hb dX12_reckons_111 rfl (lv_at hl 1 rfl) ?_
      refine lv_iload hx hb dX12_reckons_112 (lv_at hl 4 rfl) ?_
      obtain ⟨r_53, hc_54, hf⟩ := g_bindE hf
      refine x_calli (v := (X, M, τ)) (va_runV (As := [.int x1, .int x4]) (rest := [.int x3, .int x1, .ref (G.2.1 39 0)]) ⟨hx, hb, hml, hown, hts⟩ (ct_X12_reg l G X M τ x1 x4 hc_54) (cwV 2 hts gd_X12_139 rfl rfl rfl hd_X12_reg ⟨Nat.le_of_ble_eq_true rfl, Nat.le_of_ble_eq_true rfl⟩) (x_preV (u := (X, M, τ)) (k := 39) (ci := 12) hC hS hP Nat.zero_lt_one rfl rfl) rfl rfl hl.1 rfl (lv_room (Nat.le_of_ble_eq_true rfl)) dX12_reckons_114 ⟨Nat.zero_le _, Nat.zero_le _⟩) hS (fun H locs hP hS => ?_)
      refine lv_aload_n hx hb dX12_reckons_117 rfl (lv_at hl 0 rfl) ?_
      refine lv_iload_n hx hb dX12_reckons_118 rfl (lv_at hl 1 rfl) ?_
      refine lv_iload hx hb dX12_reckons_119 (lv_at hl 5 rfl) ?_
      obtain ⟨r_55, hc_56, hf⟩ := g_bindE hf
      refine x_calli (v := (X, M, τ)) (va_runV (As := [.int x1, .int x5]) (rest := [.int r_53, .int x3, .int x1, .ref (G.2.1 39 0)]) ⟨hx, hb, hml, hown, hts⟩ (ct_X12_reg l G X M τ x1 x5 hc_56) (cwV 2 hts gd_X12_139 rfl rfl rfl hd_X12_reg ⟨Nat.le_of_ble_eq_true rfl, Nat.le_of_ble_eq_true rfl⟩) (x_preV (u := (X, M, τ)) (k := 39) (ci := 12) hC hS hP Nat.zero_lt_one rfl rfl) rfl rfl hl.1 rfl (lv_room (Nat.le_of_ble_eq_true rfl)) dX12_reckons_121 ⟨Nat.zero_le _, Nat.zero_le _⟩) hS (fun H locs hP hS => ?_)
      refine lv_iadd hx hb dX12_reckons_124 ?_
      obtain ⟨M_57, hc_58, hf⟩ := g_bindE hf
      refine x_callv (v := (X, M_57, τ)) (va_runV (As := [.int x1, .int x3, .int (r_53 + r_55)]) (rest := []) ⟨hx, hb, hml, hown, hts⟩ (ct_X12_gets l G X M τ x1 x3 (r_53 + r_55) hc_58) (cwV 3 hts gd_X12_123 rfl rfl rfl hd_X12_gets ⟨Nat.le_of_ble_eq_true rfl, Nat.le_of_ble_eq_true rfl⟩) (x_preV (u := (X, M, τ)) (k := 39) (ci := 12) hC hS hP Nat.zero_lt_one rfl rfl) rfl rfl hl.1 rfl (lv_room (Nat.le_of_ble_eq_true rfl)) dX12_reckons_125 ⟨Nat.zero_le _, Nat.zero_le _⟩) hS (fun H locs hP hS => ?_)
      refine lv_goto (tgt := 341) hx hb dX12_reckons_128 (by decide) ?_
      cases hf
      refine W.endD hd ?_
      exact x_vret hx hb hlocks hC hP hS hr dX12_reckons_341
    · have hf := g_neg hf hs1_1
      by_cases hs1_2 : x2 = 2
      · have hf := g_pos hf hs1_2
        refine lv_tableIn (off := 130) (tgt := 131) hx hb dX12_reckons_1 (by rw [hs1_2]; decide) (by rw [hs1_2]; decide) (by rw [hs1_2]; rfl) (by decide) ?_
        refine lv_aload_n hx hb dX12_reckons_131 rfl (lv_at hl 0 rfl) ?_
        refine lv_iload_n hx hb dX12_reckons_132 rfl (lv_at hl 1 rfl) ?_
        refine lv_iload_n hx hb dX12_reckons_133 rfl (lv_at hl 3 rfl) ?_
        refine lv_aload_n hx hb dX12_reckons_134 rfl (lv_at hl 0 rfl) ?_
        refine lv_iload_n hx hb dX12_reckons_135 rfl (lv_at hl 1 rfl) ?_
        refine lv_iload hx hb dX12_reckons_136 (lv_at hl 4 rfl) ?_
        obtain ⟨r_47, hc_48, hf⟩ := g_bindE hf
        refine x_calli (v := (X, M, τ)) (va_runV (As := [.int x1, .int x4]) (rest := [.int x3, .int x1, .ref (G.2.1 39 0)]) ⟨hx, hb, hml, hown, hts⟩ (ct_X12_reg l G X M τ x1 x4 hc_48) (cwV 2 hts gd_X12_139 rfl rfl rfl hd_X12_reg ⟨Nat.le_of_ble_eq_true rfl, Nat.le_of_ble_eq_true rfl⟩) (x_preV (u := (X, M, τ)) (k := 39) (ci := 12) hC hS hP Nat.zero_lt_one rfl rfl) rfl rfl hl.1 rfl (lv_room (Nat.le_of_ble_eq_true rfl)) dX12_reckons_138 ⟨Nat.zero_le _, Nat.zero_le _⟩) hS (fun H locs hP hS => ?_)
        refine lv_aload_n hx hb dX12_reckons_141 rfl (lv_at hl 0 rfl) ?_
        refine lv_iload_n hx hb dX12_reckons_142 rfl (lv_at hl 1 rfl) ?_
        refine lv_iload hx hb dX12_reckons_143 (lv_at hl 5 rfl) ?_
        obtain ⟨r_49, hc_50, hf⟩ := g_bindE hf
        refine x_calli (v := (X, M, τ)) (va_runV (As := [.int x1, .int x5]) (rest := [.int r_47, .int x3, .int x1, .ref (G.2.1 39 0)]) ⟨hx, hb, hml, hown, hts⟩ (ct_X12_reg l G X M τ x1 x5 hc_50) (cwV 2 hts gd_X12_139 rfl rfl rfl hd_X12_reg ⟨Nat.le_of_ble_eq_true rfl, Nat.le_of_ble_eq_true rfl⟩) (x_preV (u := (X, M, τ)) (k := 39) (ci := 12) hC hS hP Nat.zero_lt_one rfl rfl) rfl rfl hl.1 rfl (lv_room (Nat.le_of_ble_eq_true rfl)) dX12_reckons_145 ⟨Nat.zero_le _, Nat.zero_le _⟩) hS (fun H locs hP hS => ?_)
        refine lv_isub hx hb dX12_reckons_148 ?_
        obtain ⟨M_51, hc_52, hf⟩ := g_bindE hf
        refine x_callv (v := (X, M_51, τ)) (va_runV (As := [.int x1, .int x3, .int (r_47 - r_49)]) (rest := []) ⟨hx, hb, hml, hown, hts⟩ (ct_X12_gets l G X M τ x1 x3 (r_47 - r_49) hc_52) (cwV 3 hts gd_X12_123 rfl rfl rfl hd_X12_gets ⟨Nat.le_of_ble_eq_true rfl, Nat.le_of_ble_eq_true rfl⟩) (x_preV (u := (X, M, τ)) (k := 39) (ci := 12) hC hS hP Nat.zero_lt_one rfl rfl) rfl rfl hl.1 rfl (lv_room (Nat.le_of_ble_eq_true rfl)) dX12_reckons_149 ⟨Nat.zero_le _, Nat.zero_le _⟩) hS (fun H locs hP hS => ?_)
        refine lv_goto (tgt := 341) hx hb dX12_reckons_152 (by decide) ?_
        cases hf
        refine W.endD hd ?_
        exact x_vret hx hb hlocks hC hP hS hr dX12_reckons_341
      · have hf := g_neg hf hs1_2
        by_cases hs1_3 : x2 = 3
        · have hf := g_pos hf hs1_3
          refine lv_tableIn (off := 154) (tgt := 155) hx hb dX12_reckons_1 (by rw [hs1_3]; decide) (by rw [hs1_3]; decide) (by rw [hs1_3]; rfl) (by decide) ?_
          refine lv_aload_n hx hb dX12_reckons_155 rfl (lv_at hl 0 rfl) ?_
          refine lv_iload_n hx hb dX12_reckons_156 rfl (lv_at hl 1 rfl) ?_
          refine lv_iload_n hx hb dX12_reckons_157 rfl (lv_at hl 3 rfl) ?_
          refine lv_aload_n hx hb dX12_reckons_158 rfl (lv_at hl 0 rfl) ?_
          refine lv_iload_n hx hb dX12_reckons_159 rfl (lv_at hl 1 rfl) ?_
          refine lv_iload hx hb dX12_reckons_160 (lv_at hl 4 rfl) ?_
          obtain ⟨r_41, hc_42, hf⟩ := g_bindE hf
          refine x_calli (v := (X, M, τ)) (va_runV (As := [.int x1, .int x4]) (rest := [.int x3, .int x1, .ref (G.2.1 39 0)]) ⟨hx, hb, hml, hown, hts⟩ (ct_X12_reg l G X M τ x1 x4 hc_42) (cwV 2 hts gd_X12_139 rfl rfl rfl hd_X12_reg ⟨Nat.le_of_ble_eq_true rfl, Nat.le_of_ble_eq_true rfl⟩) (x_preV (u := (X, M, τ)) (k := 39) (ci := 12) hC hS hP Nat.zero_lt_one rfl rfl) rfl rfl hl.1 rfl (lv_room (Nat.le_of_ble_eq_true rfl)) dX12_reckons_162 ⟨Nat.zero_le _, Nat.zero_le _⟩) hS (fun H locs hP hS => ?_)
          refine lv_aload_n hx hb dX12_reckons_165 rfl (lv_at hl 0 rfl) ?_
          refine lv_iload_n hx hb dX12_reckons_166 rfl (lv_at hl 1 rfl) ?_
          refine lv_iload hx hb dX12_reckons_167 (lv_at hl 5 rfl) ?_
          obtain ⟨r_43, hc_44, hf⟩ := g_bindE hf
          refine x_calli (v := (X, M, τ)) (va_runV (As := [.int x1, .int x5]) (rest := [.int r_41, .int x3, .int x1, .ref (G.2.1 39 0)]) ⟨hx, hb, hml, hown, hts⟩ (ct_X12_reg l G X M τ x1 x5 hc_44) (cwV 2 hts gd_X12_139 rfl rfl rfl hd_X12_reg ⟨Nat.le_of_ble_eq_true rfl, Nat.le_of_ble_eq_true rfl⟩) (x_preV (u := (X, M, τ)) (k := 39) (ci := 12) hC hS hP Nat.zero_lt_one rfl rfl) rfl rfl hl.1 rfl (lv_room (Nat.le_of_ble_eq_true rfl)) dX12_reckons_169 ⟨Nat.zero_le _, Nat.zero_le _⟩) hS (fun H locs hP hS => ?_)
          refine lv_imul hx hb dX12_reckons_172 ?_
          obtain ⟨M_45, hc_46, hf⟩ := g_bindE hf
          refine x_callv (v := (X, M_45, τ)) (va_runV (As := [.int x1, .int x3, .int (r_41 * r_43)]) (rest := []) ⟨hx, hb, hml, hown, hts⟩ (ct_X12_gets l G X M τ x1 x3 (r_41 * r_43) hc_46) (cwV 3 hts gd_X12_123 rfl rfl rfl hd_X12_gets ⟨Nat.le_of_ble_eq_true rfl, Nat.le_of_ble_eq_true rfl⟩) (x_preV (u := (X, M, τ)) (k := 39) (ci := 12) hC hS hP Nat.zero_lt_one rfl rfl) rfl rfl hl.1 rfl (lv_room (Nat.le_of_ble_eq_true rfl)) dX12_reckons_173 ⟨Nat.zero_le _, Nat.zero_le _⟩) hS (fun H locs hP hS => ?_)
          refine lv_goto (tgt := 341) hx hb dX12_reckons_176 (by decide) ?_
          cases hf
          refine W.endD hd ?_
          exact x_vret hx hb hlocks hC hP hS hr dX12_reckons_341
        · have hf := g_neg hf hs1_3
          by_cases hs1_4 : x2 = 4
          · have hf := g_pos hf hs1_4
            refine lv_tableIn (off := 178) (tgt := 179) hx hb dX12_reckons_1 (by rw [hs1_4]; decide) (by rw [hs1_4]; decide) (by rw [hs1_4]; rfl) (by decide) ?_
            refine lv_aload_n hx hb dX12_reckons_179 rfl (lv_at hl 0 rfl) ?_
            refine lv_iload_n hx hb dX12_reckons_180 rfl (lv_at hl 1 rfl) ?_
            refine lv_iload_n hx hb dX12_reckons_181 rfl (lv_at hl 3 rfl) ?_
            refine lv_aload_n hx hb dX12_reckons_182 rfl (lv_at hl 0 rfl) ?_
            refine lv_iload_n hx hb dX12_reckons_183 rfl (lv_at hl 1 rfl) ?_
            refine lv_iload hx hb dX12_reckons_184 (lv_at hl 4 rfl) ?_
            obtain ⟨r_32, hc_33, hf⟩ := g_bindE hf
            refine x_calli (v := (X, M, τ)) (va_runV (As := [.int x1, .int x4]) (rest := [.int x3, .int x1, .ref (G.2.1 39 0)]) ⟨hx, hb, hml, hown, hts⟩ (ct_X12_reg l G X M τ x1 x4 hc_33) (cwV 2 hts gd_X12_139 rfl rfl rfl hd_X12_reg ⟨Nat.le_of_ble_eq_true rfl, Nat.le_of_ble_eq_true rfl⟩) (x_preV (u := (X, M, τ)) (k := 39) (ci := 12) hC hS hP Nat.zero_lt_one rfl rfl) rfl rfl hl.1 rfl (lv_room (Nat.le_of_ble_eq_true rfl)) dX12_reckons_186 ⟨Nat.zero_le _, Nat.zero_le _⟩) hS (fun H locs hP hS => ?_)
            refine lv_aload_n hx hb dX12_reckons_189 rfl (lv_at hl 0 rfl) ?_
            refine lv_iload_n hx hb dX12_reckons_190 rfl (lv_at hl 1 rfl) ?_
            refine lv_iload hx hb dX12_reckons_191 (lv_at hl 5 rfl) ?_
            obtain ⟨r_34, hc_35, hf⟩ := g_bindE hf
            refine x_calli (v := (X, M, τ)) (va_runV (As := [.int x1, .int x5]) (rest := [.int r_32, .int x3, .int x1, .ref (G.2.1 39 0)]) ⟨hx, hb, hml, hown, hts⟩ (ct_X12_reg l G X M τ x1 x5 hc_35) (cwV 2 hts gd_X12_139 rfl rfl rfl hd_X12_reg ⟨Nat.le_of_ble_eq_true rfl, Nat.le_of_ble_eq_true rfl⟩) (x_preV (u := (X, M, τ)) (k := 39) (ci := 12) hC hS hP Nat.zero_lt_one rfl rfl) rfl rfl hl.1 rfl (lv_room (Nat.le_of_ble_eq_true rfl)) dX12_reckons_193 ⟨Nat.zero_le _, Nat.zero_le _⟩) hS (fun H locs hP hS => ?_)
            refine lv_icmp_ge (tgt := 203) hx hb dX12_reckons_196 (by decide) (fun hc_36 => ?_) (fun hc_36 => ?_)
            · have hf := g_pos hf hc_36
              refine lv_iconst (v := 0) hx hb dX12_reckons_203 (by decide) ?_
              obtain ⟨M_37, hc_38, hf⟩ := g_bindE hf
              refine x_callv (v := (X, M_37, τ)) (va_runV (As := [.int x1, .int x3, .int 0]) (rest := []) ⟨hx, hb, hml, hown, hts⟩ (ct_X12_gets l G X M τ x1 x3 0 hc_38) (cwV 3 hts gd_X12_123 rfl rfl rfl hd_X12_gets ⟨Nat.le_of_ble_eq_true rfl, Nat.le_of_ble_eq_true rfl⟩) (x_preV (u := (X, M, τ)) (k := 39) (ci := 12) hC hS hP Nat.zero_lt_one rfl rfl) rfl rfl hl.1 rfl (lv_room (Nat.le_of_ble_eq_true rfl)) dX12_reckons_204 ⟨Nat.zero_le _, Nat.zero_le _⟩) hS (fun H locs hP hS => ?_)
              refine lv_goto (tgt := 341) hx hb dX12_reckons_207 (by decide) ?_
              cases hf
              refine W.endD hd ?_
              exact x_vret hx hb hlocks hC hP hS hr dX12_reckons_341
            · have hf := g_neg hf hc_36
              refine lv_iconst (v := 1) hx hb dX12_reckons_199 (by decide) ?_
              refine lv_goto (tgt := 204) hx hb dX12_reckons_200 (by decide) ?_
              obtain ⟨M_39, hc_40, hf⟩ := g_bindE hf
              refine x_callv (v := (X, M_39, τ)) (va_runV (As := [.int x1, .int x3, .int 1]) (rest := []) ⟨hx, hb, hml, hown, hts⟩ (ct_X12_gets l G X M τ x1 x3 1 hc_40) (cwV 3 hts gd_X12_123 rfl rfl rfl hd_X12_gets ⟨Nat.le_of_ble_eq_true rfl, Nat.le_of_ble_eq_true rfl⟩) (x_preV (u := (X, M, τ)) (k := 39) (ci := 12) hC hS hP Nat.zero_lt_one rfl rfl) rfl rfl hl.1 rfl (lv_room (Nat.le_of_ble_eq_true rfl)) dX12_reckons_204 ⟨Nat.zero_le _, Nat.zero_le _⟩) hS (fun H locs hP hS => ?_)
              refine lv_goto (tgt := 341) hx hb dX12_reckons_207 (by decide) ?_
              cases hf
              refine W.endD hd ?_
              exact x_vret hx hb hlocks hC hP hS hr dX12_reckons_341
          · have hf := g_neg hf hs1_4
            by_cases hs1_5 : x2 = 5
            · have hf := g_pos hf hs1_5
              refine lv_tableIn (off := 209) (tgt := 210) hx hb dX12_reckons_1 (by rw [hs1_5]; decide) (by rw [hs1_5]; decide) (by rw [hs1_5]; rfl) (by decide) ?_
              refine lv_aload_n hx hb dX12_reckons_210 rfl (lv_at hl 0 rfl) ?_
              refine lv_iload_n hx hb dX12_reckons_211 rfl (lv_at hl 1 rfl) ?_
              refine lv_iload_n hx hb dX12_reckons_212 rfl (lv_at hl 3 rfl) ?_
              refine lv_aload_n hx hb dX12_reckons_213 rfl (lv_at hl 0 rfl) ?_
              refine gt_39_0 hx hb hts hown hC hP Nat.zero_lt_one q6_17 dX12_reckons_214 ?_
              refine lv_bipush (v := 48) hx hb dX12_reckons_217 (by decide) ?_
              refine lv_bipush (v := 16) hx hb dX12_reckons_219 (by decide) ?_
              refine lv_iload_n hx hb dX12_reckons_221 rfl (lv_at hl 1 rfl) ?_
              refine lv_imul hx hb dX12_reckons_222 ?_
              refine lv_iadd hx hb dX12_reckons_223 ?_
              refine lv_aload_n hx hb dX12_reckons_224 rfl (lv_at hl 0 rfl) ?_
              refine lv_iload_n hx hb dX12_reckons_225 rfl (lv_at hl 1 rfl) ?_
              refine lv_iload hx hb dX12_reckons_226 (lv_at hl 4 rfl) ?_
              obtain ⟨r_27, hc_28, hf⟩ := g_bindE hf
              refine x_calli (v := (X, M, τ)) (va_runV (As := [.int x1, .int x4]) (rest := [.int (48 + (16 * x1)), .ref (G.2.1 40 0), .int x3, .int x1, .ref (G.2.1 39 0)]) ⟨hx, hb, hml, hown, hts⟩ (ct_X12_reg l G X M τ x1 x4 hc_28) (cwV 2 hts gd_X12_139 rfl rfl rfl hd_X12_reg ⟨Nat.le_of_ble_eq_true rfl, Nat.le_of_ble_eq_true rfl⟩) (x_preV (u := (X, M, τ)) (k := 39) (ci := 12) hC hS hP Nat.zero_lt_one rfl rfl) rfl rfl hl.1 rfl (lv_room (Nat.le_of_ble_eq_true rfl)) dX12_reckons_228 ⟨Nat.zero_le _, Nat.zero_le _⟩) hS (fun H locs hP hS => ?_)
              refine lv_iadd hx hb dX12_reckons_231 ?_
              obtain ⟨hg_29, hf⟩ := g_gd hf
              refine xildM (k := 40) (n := 693) hx hb hC hP (fun _ _ => rfl) rfl Nat.zero_lt_one hg_29 dX12_reckons_232 ?_
              obtain ⟨M_30, hc_31, hf⟩ := g_bindE hf
              refine x_callv (v := (X, M_30, τ)) (va_runV (As := [.int x1, .int x3, .int (M 40 0 (((48 + (16 * x1)) + r_27).toNatClampNeg))]) (rest := []) ⟨hx, hb, hml, hown, hts⟩ (ct_X12_gets l G X M τ x1 x3 (M 40 0 (((48 + (16 * x1)) + r_27).toNatClampNeg)) hc_31) (cwV 3 hts gd_X12_123 rfl rfl rfl hd_X12_gets ⟨Nat.le_of_ble_eq_true rfl, Nat.le_of_ble_eq_true rfl⟩) (x_preV (u := (X, M, τ)) (k := 39) (ci := 12) hC hS hP Nat.zero_lt_one rfl rfl) rfl rfl hl.1 rfl (lv_room (Nat.le_of_ble_eq_true rfl)) dX12_reckons_233 ⟨Nat.zero_le _, Nat.zero_le _⟩) hS (fun H locs hP hS => ?_)
              refine lv_goto (tgt := 341) hx hb dX12_reckons_236 (by decide) ?_
              cases hf
              refine W.endD hd ?_
              exact x_vret hx hb hlocks hC hP hS hr dX12_reckons_341
            · have hf := g_neg hf hs1_5
              by_cases hs1_6 : x2 = 6
              · have hf := g_pos hf hs1_6
                refine lv_tableIn (off := 238) (tgt := 239) hx hb dX12_reckons_1 (by rw [hs1_6]; decide) (by rw [hs1_6]; decide) (by rw [hs1_6]; rfl) (by decide) ?_
                refine lv_aload_n hx hb dX12_reckons_239 rfl (lv_at hl 0 rfl) ?_
                refine gt_39_0 hx hb hts hown hC hP Nat.zero_lt_one q6_17 dX12_reckons_240 ?_
                refine lv_bipush (v := 48) hx hb dX12_reckons_243 (by decide) ?_
                refine lv_bipush (v := 16) hx hb dX12_reckons_245 (by decide) ?_
                refine lv_iload_n hx hb dX12_reckons_247 rfl (lv_at hl 1 rfl) ?_
                refine lv_imul hx hb dX12_reckons_248 ?_
                refine lv_iadd hx hb dX12_reckons_249 ?_
                refine lv_aload_n hx hb dX12_reckons_250 rfl (lv_at hl 0 rfl) ?_
                refine lv_iload_n hx hb dX12_reckons_251 rfl (lv_at hl 1 rfl) ?_
                refine lv_iload hx hb dX12_reckons_252 (lv_at hl 4 rfl) ?_
                obtain ⟨r_21, hc_22, hf⟩ := g_bindE hf
                refine x_calli (v := (X, M, τ)) (va_runV (As := [.int x1, .int x4]) (rest := [.int (48 + (16 * x1)), .ref (G.2.1 40 0)]) ⟨hx, hb, hml, hown, hts⟩ (ct_X12_reg l G X M τ x1 x4 hc_22) (cwV 2 hts gd_X12_139 rfl rfl rfl hd_X12_reg ⟨Nat.le_of_ble_eq_true rfl, Nat.le_of_ble_eq_true rfl⟩) (x_preV (u := (X, M, τ)) (k := 39) (ci := 12) hC hS hP Nat.zero_lt_one rfl rfl) rfl rfl hl.1 rfl (lv_room (Nat.le_of_ble_eq_true rfl)) dX12_reckons_254 ⟨Nat.zero_le _, Nat.zero_le _⟩) hS (fun H locs hP hS => ?_)
                refine lv_iadd hx hb dX12_reckons_257 ?_
                refine lv_aload_n hx hb dX12_reckons_258 rfl (lv_at hl 0 rfl) ?_
                refine lv_iload_n hx hb dX12_reckons_259 rfl (lv_at hl 1 rfl) ?_
                refine lv_iload_n hx hb dX12_reckons_260 rfl (lv_at hl 3 rfl) ?_
                obtain ⟨r_23, hc_24, hf⟩ := g_bindE hf
                refine x_calli (v := (X, M, τ)) (va_runV (As := [.int x1, .int x3]) (rest := [.int ((48 + (16 * x1)) + r_21), .ref (G.2.1 40 0)]) ⟨hx, hb, hml, hown, hts⟩ (ct_X12_reg l G X M τ x1 x3 hc_24) (cwV 2 hts gd_X12_139 rfl rfl rfl hd_X12_reg ⟨Nat.le_of_ble_eq_true rfl, Nat.le_of_ble_eq_true rfl⟩) (x_preV (u := (X, M, τ)) (k := 39) (ci := 12) hC hS hP Nat.zero_lt_one rfl rfl) rfl rfl hl.1 rfl (lv_room (Nat.le_of_ble_eq_true rfl)) dX12_reckons_261 ⟨Nat.zero_le _, Nat.zero_le _⟩) hS (fun H locs hP hS => ?_)
                obtain ⟨hg_25, hf⟩ := g_gd hf
                obtain ⟨M_26, eM_26, hf⟩ := g_letE hf
                refine xistM (k := 40) (n := 693) hx hb hC hP hS (fun _ _ => rfl) rfl Nat.zero_lt_one hg_25 dX12_reckons_264 (fun H locs hP hS => ?_)
                rw [eM_26] at hP
                refine lv_goto (tgt := 341) hx hb dX12_reckons_265 (by decide) ?_
                cases hf
                refine W.endD hd ?_
                exact x_vret hx hb hlocks hC hP hS hr dX12_reckons_341
              · have hf := g_neg hf hs1_6
                by_cases hs1_7 : x2 = 7
                · refine lv_tableIn (off := 313) (tgt := 314) hx hb dX12_reckons_1 (by rw [hs1_7]; decide) (by rw [hs1_7]; decide) (by rw [hs1_7]; rfl) (by decide) ?_
                  have hf := g_neg hf (by rw [hs1_7]; decide)
                  have hf := g_neg hf (by rw [hs1_7]; decide)
                  refine lv_aload_n hx hb dX12_reckons_314 rfl (lv_at hl 0 rfl) ?_
                  refine lv_iload_n hx hb dX12_reckons_315 rfl (lv_at hl 1 rfl) ?_
                  refine lv_iload_n hx hb dX12_reckons_316 rfl (lv_at hl 3 rfl) ?_
                  refine lv_aload_n hx hb dX12_reckons_317 rfl (lv_at hl 0 rfl) ?_
                  refine lv_iload_n hx hb dX12_reckons_318 rfl (lv_at hl 1 rfl) ?_
                  refine lv_iload hx hb dX12_reckons_319 (lv_at hl 4 rfl) ?_
                  obtain ⟨r_1, hc_2, hf⟩ := g_bindE hf
                  refine x_calli (v := (X, M, τ)) (va_runV (As := [.int x1, .int x4]) (rest := [.int x3, .int x1, .ref (G.2.1 39 0)]) ⟨hx, hb, hml, hown, hts⟩ (ct_X12_reg l G X M τ x1 x4 hc_2) (cwV 2 hts gd_X12_139 rfl rfl rfl hd_X12_reg ⟨Nat.le_of_ble_eq_true rfl, Nat.le_of_ble_eq_true rfl⟩) (x_preV (u := (X, M, τ)) (k := 39) (ci := 12) hC hS hP Nat.zero_lt_one rfl rfl) rfl rfl hl.1 rfl (lv_room (Nat.le_of_ble_eq_true rfl)) dX12_reckons_321 ⟨Nat.zero_le _, Nat.zero_le _⟩) hS (fun H locs hP hS => ?_)
                  refine lv_i2f hx hb dX12_reckons_324 ?_
                  refine lv_aload_n hx hb dX12_reckons_325 rfl (lv_at hl 0 rfl) ?_
                  refine lv_iload_n hx hb dX12_reckons_326 rfl (lv_at hl 1 rfl) ?_
                  refine lv_iload hx hb dX12_reckons_327 (lv_at hl 5 rfl) ?_
                  obtain ⟨r_3, hc_4, hf⟩ := g_bindE hf
                  refine x_calli (v := (X, M, τ)) (va_runV (As := [.int x1, .int x5]) (rest := [.float (FP.i2f r_1), .int x3, .int x1, .ref (G.2.1 39 0)]) ⟨hx, hb, hml, hown, hts⟩ (ct_X12_reg l G X M τ x1 x5 hc_4) (cwV 2 hts gd_X12_139 rfl rfl rfl hd_X12_reg ⟨Nat.le_of_ble_eq_true rfl, Nat.le_of_ble_eq_true rfl⟩) (x_preV (u := (X, M, τ)) (k := 39) (ci := 12) hC hS hP Nat.zero_lt_one rfl rfl) rfl rfl hl.1 rfl (lv_room (Nat.le_of_ble_eq_true rfl)) dX12_reckons_329 ⟨Nat.zero_le _, Nat.zero_le _⟩) hS (fun H locs hP hS => ?_)
                  refine lv_i2f hx hb dX12_reckons_332 ?_
                  obtain ⟨hg_5, hf⟩ := g_gd hf
                  refine lv_fmul hx hb dX12_reckons_333 hg_5 ?_
                  refine lv_ldcf (v := 1149239296) hx hb hown (hts _ q28_21) dX12_reckons_334 ?_
                  obtain ⟨hg_6, hf⟩ := g_gd hf
                  refine lv_fdiv hx hb dX12_reckons_336 hg_6 ?_
                  refine lv_f2i hx hb dX12_reckons_337 ?_
                  obtain ⟨M_7, hc_8, hf⟩ := g_bindE hf
                  refine x_callv (v := (X, M_7, τ)) (va_runV (As := [.int x1, .int x3, .int (FP.f2i (FP.fdiv (FP.fmul (FP.i2f r_1) (FP.i2f r_3)) 1149239296))]) (rest := []) ⟨hx, hb, hml, hown, hts⟩ (ct_X12_gets l G X M τ x1 x3 (FP.f2i (FP.fdiv (FP.fmul (FP.i2f r_1) (FP.i2f r_3)) 1149239296)) hc_8) (cwV 3 hts gd_X12_123 rfl rfl rfl hd_X12_gets ⟨Nat.le_of_ble_eq_true rfl, Nat.le_of_ble_eq_true rfl⟩) (x_preV (u := (X, M, τ)) (k := 39) (ci := 12) hC hS hP Nat.zero_lt_one rfl rfl) rfl rfl hl.1 rfl (lv_room (Nat.le_of_ble_eq_true rfl)) dX12_reckons_338 ⟨Nat.zero_le _, Nat.zero_le _⟩) hS (fun H locs hP hS => ?_)
                  cases hf
                  refine W.endD hd ?_
                  exact x_vret hx hb hlocks hC hP hS hr dX12_reckons_341
                · by_cases hs1_8 : x2 = 8
                  · refine lv_tableIn (off := 313) (tgt := 314) hx hb dX12_reckons_1 (by rw [hs1_8]; decide) (by rw [hs1_8]; decide) (by rw [hs1_8]; rfl) (by decide) ?_
                    have hf := g_neg hf (by rw [hs1_8]; decide)
                    have hf := g_neg hf (by rw [hs1_8]; decide)
                    refine lv_aload_n hx hb dX12_reckons_314 rfl (lv_at hl 0 rfl) ?_
                    refine lv_iload_n hx hb dX12_reckons_315 rfl (lv_at hl 1 rfl) ?_
                    refine lv_iload_n hx hb dX12_reckons_316 rfl (lv_at hl 3 rfl) ?_
                    refine lv_aload_n hx hb dX12_reckons_317 rfl (lv_at hl 0 rfl) ?_
                    refine lv_iload_n hx hb dX12_reckons_318 rfl (lv_at hl 1 rfl) ?_
                    refine lv_iload hx hb dX12_reckons_319 (lv_at hl 4 rfl) ?_
                    obtain ⟨r_1, hc_2, hf⟩ := g_bindE hf
                    refine x_calli (v := (X, M, τ)) (va_runV (As := [.int x1, .int x4]) (rest := [.int x3, .int x1, .ref (G.2.1 39 0)]) ⟨hx, hb, hml, hown, hts⟩ (ct_X12_reg l G X M τ x1 x4 hc_2) (cwV 2 hts gd_X12_139 rfl rfl rfl hd_X12_reg ⟨Nat.le_of_ble_eq_true rfl, Nat.le_of_ble_eq_true rfl⟩) (x_preV (u := (X, M, τ)) (k := 39) (ci := 12) hC hS hP Nat.zero_lt_one rfl rfl) rfl rfl hl.1 rfl (lv_room (Nat.le_of_ble_eq_true rfl)) dX12_reckons_321 ⟨Nat.zero_le _, Nat.zero_le _⟩) hS (fun H locs hP hS => ?_)
                    refine lv_i2f hx hb dX12_reckons_324 ?_
                    refine lv_aload_n hx hb dX12_reckons_325 rfl (lv_at hl 0 rfl) ?_
                    refine lv_iload_n hx hb dX12_reckons_326 rfl (lv_at hl 1 rfl) ?_
                    refine lv_iload hx hb dX12_reckons_327 (lv_at hl 5 rfl) ?_
                    obtain ⟨r_3, hc_4, hf⟩ := g_bindE hf
                    refine x_calli (v := (X, M, τ)) (va_runV (As := [.int x1, .int x5]) (rest := [.float (FP.i2f r_1), .int x3, .int x1, .ref (G.2.1 39 0)]) ⟨hx, hb, hml, hown, hts⟩ (ct_X12_reg l G X M τ x1 x5 hc_4) (cwV 2 hts gd_X12_139 rfl rfl rfl hd_X12_reg ⟨Nat.le_of_ble_eq_true rfl, Nat.le_of_ble_eq_true rfl⟩) (x_preV (u := (X, M, τ)) (k := 39) (ci := 12) hC hS hP Nat.zero_lt_one rfl rfl) rfl rfl hl.1 rfl (lv_room (Nat.le_of_ble_eq_true rfl)) dX12_reckons_329 ⟨Nat.zero_le _, Nat.zero_le _⟩) hS (fun H locs hP hS => ?_)
                    refine lv_i2f hx hb dX12_reckons_332 ?_
                    obtain ⟨hg_5, hf⟩ := g_gd hf
                    refine lv_fmul hx hb dX12_reckons_333 hg_5 ?_
                    refine lv_ldcf (v := 1149239296) hx hb hown (hts _ q28_21) dX12_reckons_334 ?_
                    obtain ⟨hg_6, hf⟩ := g_gd hf
                    refine lv_fdiv hx hb dX12_reckons_336 hg_6 ?_
                    refine lv_f2i hx hb dX12_reckons_337 ?_
                    obtain ⟨M_7, hc_8, hf⟩ := g_bindE hf
                    refine x_callv (v := (X, M_7, τ)) (va_runV (As := [.int x1, .int x3, .int (FP.f2i (FP.fdiv (FP.fmul (FP.i2f r_1) (FP.i2f r_3)) 1149239296))]) (rest := []) ⟨hx, hb, hml, hown, hts⟩ (ct_X12_gets l G X M τ x1 x3 (FP.f2i (FP.fdiv (FP.fmul (FP.i2f r_1) (FP.i2f r_3)) 1149239296)) hc_8) (cwV 3 hts gd_X12_123 rfl rfl rfl hd_X12_gets ⟨Nat.le_of_ble_eq_true rfl, Nat.le_of_ble_eq_true rfl⟩) (x_preV (u := (X, M, τ)) (k := 39) (ci := 12) hC hS hP Nat.zero_lt_one rfl rfl) rfl rfl hl.1 rfl (lv_room (Nat.le_of_ble_eq_true rfl)) dX12_reckons_338 ⟨Nat.zero_le _, Nat.zero_le _⟩) hS (fun H locs hP hS => ?_)
                    cases hf
                    refine W.endD hd ?_
                    exact x_vret hx hb hlocks hC hP hS hr dX12_reckons_341
                  · by_cases hs1_9 : x2 = 9
                    · refine lv_tableIn (off := 313) (tgt := 314) hx hb dX12_reckons_1 (by rw [hs1_9]; decide) (by rw [hs1_9]; decide) (by rw [hs1_9]; rfl) (by decide) ?_
                      have hf := g_neg hf (by rw [hs1_9]; decide)
                      have hf := g_neg hf (by rw [hs1_9]; decide)
                      refine lv_aload_n hx hb dX12_reckons_314 rfl (lv_at hl 0 rfl) ?_
                      refine lv_iload_n hx hb dX12_reckons_315 rfl (lv_at hl 1 rfl) ?_
                      refine lv_iload_n hx hb dX12_reckons_316 rfl (lv_at hl 3 rfl) ?_
                      refine lv_aload_n hx hb dX12_reckons_317 rfl (lv_at hl 0 rfl) ?_
                      refine lv_iload_n hx hb dX12_reckons_318 rfl (lv_at hl 1 rfl) ?_
                      refine lv_iload hx hb dX12_reckons_319 (lv_at hl 4 rfl) ?_
                      obtain ⟨r_1, hc_2, hf⟩ := g_bindE hf
                      refine x_calli (v := (X, M, τ)) (va_runV (As := [.int x1, .int x4]) (rest := [.int x3, .int x1, .ref (G.2.1 39 0)]) ⟨hx, hb, hml, hown, hts⟩ (ct_X12_reg l G X M τ x1 x4 hc_2) (cwV 2 hts gd_X12_139 rfl rfl rfl hd_X12_reg ⟨Nat.le_of_ble_eq_true rfl, Nat.le_of_ble_eq_true rfl⟩) (x_preV (u := (X, M, τ)) (k := 39) (ci := 12) hC hS hP Nat.zero_lt_one rfl rfl) rfl rfl hl.1 rfl (lv_room (Nat.le_of_ble_eq_true rfl)) dX12_reckons_321 ⟨Nat.zero_le _, Nat.zero_le _⟩) hS (fun H locs hP hS => ?_)
                      refine lv_i2f hx hb dX12_reckons_324 ?_
                      refine lv_aload_n hx hb dX12_reckons_325 rfl (lv_at hl 0 rfl) ?_
                      refine lv_iload_n hx hb dX12_reckons_326 rfl (lv_at hl 1 rfl) ?_
                      refine lv_iload hx hb dX12_reckons_327 (lv_at hl 5 rfl) ?_
                      obtain ⟨r_3, hc_4, hf⟩ := g_bindE hf
                      refine x_calli (v := (X, M, τ)) (va_runV (As := [.int x1, .int x5]) (rest := [.float (FP.i2f r_1), .int x3, .int x1, .ref (G.2.1 39 0)]) ⟨hx, hb, hml, hown, hts⟩ (ct_X12_reg l G X M τ x1 x5 hc_4) (cwV 2 hts gd_X12_139 rfl rfl rfl hd_X12_reg ⟨Nat.le_of_ble_eq_true rfl, Nat.le_of_ble_eq_true rfl⟩) (x_preV (u := (X, M, τ)) (k := 39) (ci := 12) hC hS hP Nat.zero_lt_one rfl rfl) rfl rfl hl.1 rfl (lv_room (Nat.le_of_ble_eq_true rfl)) dX12_reckons_329 ⟨Nat.zero_le _, Nat.zero_le _⟩) hS (fun H locs hP hS => ?_)
                      refine lv_i2f hx hb dX12_reckons_332 ?_
                      obtain ⟨hg_5, hf⟩ := g_gd hf
                      refine lv_fmul hx hb dX12_reckons_333 hg_5 ?_
                      refine lv_ldcf (v := 1149239296) hx hb hown (hts _ q28_21) dX12_reckons_334 ?_
                      obtain ⟨hg_6, hf⟩ := g_gd hf
                      refine lv_fdiv hx hb dX12_reckons_336 hg_6 ?_
                      refine lv_f2i hx hb dX12_reckons_337 ?_
                      obtain ⟨M_7, hc_8, hf⟩ := g_bindE hf
                      refine x_callv (v := (X, M_7, τ)) (va_runV (As := [.int x1, .int x3, .int (FP.f2i (FP.fdiv (FP.fmul (FP.i2f r_1) (FP.i2f r_3)) 1149239296))]) (rest := []) ⟨hx, hb, hml, hown, hts⟩ (ct_X12_gets l G X M τ x1 x3 (FP.f2i (FP.fdiv (FP.fmul (FP.i2f r_1) (FP.i2f r_3)) 1149239296)) hc_8) (cwV 3 hts gd_X12_123 rfl rfl rfl hd_X12_gets ⟨Nat.le_of_ble_eq_true rfl, Nat.le_of_ble_eq_true rfl⟩) (x_preV (u := (X, M, τ)) (k := 39) (ci := 12) hC hS hP Nat.zero_lt_one rfl rfl) rfl rfl hl.1 rfl (lv_room (Nat.le_of_ble_eq_true rfl)) dX12_reckons_338 ⟨Nat.zero_le _, Nat.zero_le _⟩) hS (fun H locs hP hS => ?_)
                      cases hf
                      refine W.endD hd ?_
                      exact x_vret hx hb hlocks hC hP hS hr dX12_reckons_341
                    · by_cases hs1_10 : x2 = 10
                      · refine lv_tableIn (off := 313) (tgt := 314) hx hb dX12_reckons_1 (by rw [hs1_10]; decide) (by rw [hs1_10]; decide) (by rw [hs1_10]; rfl) (by decide) ?_
                        have hf := g_neg hf (by rw [hs1_10]; decide)
                        have hf := g_neg hf (by rw [hs1_10]; decide)
                        refine lv_aload_n hx hb dX12_reckons_314 rfl (lv_at hl 0 rfl) ?_
                        refine lv_iload_n hx hb dX12_reckons_315 rfl (lv_at hl 1 rfl) ?_
                        refine lv_iload_n hx hb dX12_reckons_316 rfl (lv_at hl 3 rfl) ?_
                        refine lv_aload_n hx hb dX12_reckons_317 rfl (lv_at hl 0 rfl) ?_
                        refine lv_iload_n hx hb dX12_reckons_318 rfl (lv_at hl 1 rfl) ?_
                        refine lv_iload hx hb dX12_reckons_319 (lv_at hl 4 rfl) ?_
                        obtain ⟨r_1, hc_2, hf⟩ := g_bindE hf
                        refine x_calli (v := (X, M, τ)) (va_runV (As := [.int x1, .int x4]) (rest := [.int x3, .int x1, .ref (G.2.1 39 0)]) ⟨hx, hb, hml, hown, hts⟩ (ct_X12_reg l G X M τ x1 x4 hc_2) (cwV 2 hts gd_X12_139 rfl rfl rfl hd_X12_reg ⟨Nat.le_of_ble_eq_true rfl, Nat.le_of_ble_eq_true rfl⟩) (x_preV (u := (X, M, τ)) (k := 39) (ci := 12) hC hS hP Nat.zero_lt_one rfl rfl) rfl rfl hl.1 rfl (lv_room (Nat.le_of_ble_eq_true rfl)) dX12_reckons_321 ⟨Nat.zero_le _, Nat.zero_le _⟩) hS (fun H locs hP hS => ?_)
                        refine lv_i2f hx hb dX12_reckons_324 ?_
                        refine lv_aload_n hx hb dX12_reckons_325 rfl (lv_at hl 0 rfl) ?_
                        refine lv_iload_n hx hb dX12_reckons_326 rfl (lv_at hl 1 rfl) ?_
                        refine lv_iload hx hb dX12_reckons_327 (lv_at hl 5 rfl) ?_
                        obtain ⟨r_3, hc_4, hf⟩ := g_bindE hf
                        refine x_calli (v := (X, M, τ)) (va_runV (As := [.int x1, .int x5]) (rest := [.float (FP.i2f r_1), .int x3, .int x1, .ref (G.2.1 39 0)]) ⟨hx, hb, hml, hown, hts⟩ (ct_X12_reg l G X M τ x1 x5 hc_4) (cwV 2 hts gd_X12_139 rfl rfl rfl hd_X12_reg ⟨Nat.le_of_ble_eq_true rfl, Nat.le_of_ble_eq_true rfl⟩) (x_preV (u := (X, M, τ)) (k := 39) (ci := 12) hC hS hP Nat.zero_lt_one rfl rfl) rfl rfl hl.1 rfl (lv_room (Nat.le_of_ble_eq_true rfl)) dX12_reckons_329 ⟨Nat.zero_le _, Nat.zero_le _⟩) hS (fun H locs hP hS => ?_)
                        refine lv_i2f hx hb dX12_reckons_332 ?_
                        obtain ⟨hg_5, hf⟩ := g_gd hf
                        refine lv_fmul hx hb dX12_reckons_333 hg_5 ?_
                        refine lv_ldcf (v := 1149239296) hx hb hown (hts _ q28_21) dX12_reckons_334 ?_
                        obtain ⟨hg_6, hf⟩ := g_gd hf
                        refine lv_fdiv hx hb dX12_reckons_336 hg_6 ?_
                        refine lv_f2i hx hb dX12_reckons_337 ?_
                        obtain ⟨M_7, hc_8, hf⟩ := g_bindE hf
                        refine x_callv (v := (X, M_7, τ)) (va_runV (As := [.int x1, .int x3, .int (FP.f2i (FP.fdiv (FP.fmul (FP.i2f r_1) (FP.i2f r_3)) 1149239296))]) (rest := []) ⟨hx, hb, hml, hown, hts⟩ (ct_X12_gets l G X M τ x1 x3 (FP.f2i (FP.fdiv (FP.fmul (FP.i2f r_1) (FP.i2f r_3)) 1149239296)) hc_8) (cwV 3 hts gd_X12_123 rfl rfl rfl hd_X12_gets ⟨Nat.le_of_ble_eq_true rfl, Nat.le_of_ble_eq_true rfl⟩) (x_preV (u := (X, M, τ)) (k := 39) (ci := 12) hC hS hP Nat.zero_lt_one rfl rfl) rfl rfl hl.1 rfl (lv_room (Nat.le_of_ble_eq_true rfl)) dX12_reckons_338 ⟨Nat.zero_le _, Nat.zero_le _⟩) hS (fun H locs hP hS => ?_)
                        cases hf
                        refine W.endD hd ?_
                        exact x_vret hx hb hlocks hC hP hS hr dX12_reckons_341
                      · by_cases hs1_11 : x2 = 11
                        · refine lv_tableIn (off := 313) (tgt := 314) hx hb dX12_reckons_1 (by rw [hs1_11]; decide) (by rw [hs1_11]; decide) (by rw [hs1_11]; rfl) (by decide) ?_
                          have hf := g_neg hf (by rw [hs1_11]; decide)
                          have hf := g_neg hf (by rw [hs1_11]; decide)
                          refine lv_aload_n hx hb dX12_reckons_314 rfl (lv_at hl 0 rfl) ?_
                          refine lv_iload_n hx hb dX12_reckons_315 rfl (lv_at hl 1 rfl) ?_
                          refine lv_iload_n hx hb dX12_reckons_316 rfl (lv_at hl 3 rfl) ?_
                          refine lv_aload_n hx hb dX12_reckons_317 rfl (lv_at hl 0 rfl) ?_
                          refine lv_iload_n hx hb dX12_reckons_318 rfl (lv_at hl 1 rfl) ?_
                          refine lv_iload hx hb dX12_reckons_319 (lv_at hl 4 rfl) ?_
                          obtain ⟨r_1, hc_2, hf⟩ := g_bindE hf
                          refine x_calli (v := (X, M, τ)) (va_runV (As := [.int x1, .int x4]) (rest := [.int x3, .int x1, .ref (G.2.1 39 0)]) ⟨hx, hb, hml, hown, hts⟩ (ct_X12_reg l G X M τ x1 x4 hc_2) (cwV 2 hts gd_X12_139 rfl rfl rfl hd_X12_reg ⟨Nat.le_of_ble_eq_true rfl, Nat.le_of_ble_eq_true rfl⟩) (x_preV (u := (X, M, τ)) (k := 39) (ci := 12) hC hS hP Nat.zero_lt_one rfl rfl) rfl rfl hl.1 rfl (lv_room (Nat.le_of_ble_eq_true rfl)) dX12_reckons_321 ⟨Nat.zero_le _, Nat.zero_le _⟩) hS (fun H locs hP hS => ?_)
                          refine lv_i2f hx hb dX12_reckons_324 ?_
                          refine lv_aload_n hx hb dX12_reckons_325 rfl (lv_at hl 0 rfl) ?_
                          refine lv_iload_n hx hb dX12_reckons_326 rfl (lv_at hl 1 rfl) ?_
                          refine lv_iload hx hb dX12_reckons_327 (lv_at hl 5 rfl) ?_
                          obtain ⟨r_3, hc_4, hf⟩ := g_bindE hf
                          refine x_calli (v := (X, M, τ)) (va_runV (As := [.int x1, .int x5]) (rest := [.float (FP.i2f r_1), .int x3, .int x1, .ref (G.2.1 39 0)]) ⟨hx, hb, hml, hown, hts⟩ (ct_X12_reg l G X M τ x1 x5 hc_4) (cwV 2 hts gd_X12_139 rfl rfl rfl hd_X12_reg ⟨Nat.le_of_ble_eq_true rfl, Nat.le_of_ble_eq_true rfl⟩) (x_preV (u := (X, M, τ)) (k := 39) (ci := 12) hC hS hP Nat.zero_lt_one rfl rfl) rfl rfl hl.1 rfl (lv_room (Nat.le_of_ble_eq_true rfl)) dX12_reckons_329 ⟨Nat.zero_le _, Nat.zero_le _⟩) hS (fun H locs hP hS => ?_)
                          refine lv_i2f hx hb dX12_reckons_332 ?_
                          obtain ⟨hg_5, hf⟩ := g_gd hf
                          refine lv_fmul hx hb dX12_reckons_333 hg_5 ?_
                          refine lv_ldcf (v := 1149239296) hx hb hown (hts _ q28_21) dX12_reckons_334 ?_
                          obtain ⟨hg_6, hf⟩ := g_gd hf
                          refine lv_fdiv hx hb dX12_reckons_336 hg_6 ?_
                          refine lv_f2i hx hb dX12_reckons_337 ?_
                          obtain ⟨M_7, hc_8, hf⟩ := g_bindE hf
                          refine x_callv (v := (X, M_7, τ)) (va_runV (As := [.int x1, .int x3, .int (FP.f2i (FP.fdiv (FP.fmul (FP.i2f r_1) (FP.i2f r_3)) 1149239296))]) (rest := []) ⟨hx, hb, hml, hown, hts⟩ (ct_X12_gets l G X M τ x1 x3 (FP.f2i (FP.fdiv (FP.fmul (FP.i2f r_1) (FP.i2f r_3)) 1149239296)) hc_8) (cwV 3 hts gd_X12_123 rfl rfl rfl hd_X12_gets ⟨Nat.le_of_ble_eq_true rfl, Nat.le_of_ble_eq_true rfl⟩) (x_preV (u := (X, M, τ)) (k := 39) (ci := 12) hC hS hP Nat.zero_lt_one rfl rfl) rfl rfl hl.1 rfl (lv_room (Nat.le_of_ble_eq_true rfl)) dX12_reckons_338 ⟨Nat.zero_le _, Nat.zero_le _⟩) hS (fun H locs hP hS => ?_)
                          cases hf
                          refine W.endD hd ?_
                          exact x_vret hx hb hlocks hC hP hS hr dX12_reckons_341
                        · by_cases hs1_12 : x2 = 12
                          · refine lv_tableIn (off := 313) (tgt := 314) hx hb dX12_reckons_1 (by rw [hs1_12]; decide) (by rw [hs1_12]; decide) (by rw [hs1_12]; rfl) (by decide) ?_
                            have hf := g_neg hf (by rw [hs1_12]; decide)
                            have hf := g_neg hf (by rw [hs1_12]; decide)
                            refine lv_aload_n hx hb dX12_reckons_314 rfl (lv_at hl 0 rfl) ?_
                            refine lv_iload_n hx hb dX12_reckons_315 rfl (lv_at hl 1 rfl) ?_
                            refine lv_iload_n hx hb dX12_reckons_316 rfl (lv_at hl 3 rfl) ?_
                            refine lv_aload_n hx hb dX12_reckons_317 rfl (lv_at hl 0 rfl) ?_
                            refine lv_iload_n hx hb dX12_reckons_318 rfl (lv_at hl 1 rfl) ?_
                            refine lv_iload hx hb dX12_reckons_319 (lv_at hl 4 rfl) ?_
                            obtain ⟨r_1, hc_2, hf⟩ := g_bindE hf
                            refine x_calli (v := (X, M, τ)) (va_runV (As := [.int x1, .int x4]) (rest := [.int x3, .int x1, .ref (G.2.1 39 0)]) ⟨hx, hb, hml, hown, hts⟩ (ct_X12_reg l G X M τ x1 x4 hc_2) (cwV 2 hts gd_X12_139 rfl rfl rfl hd_X12_reg ⟨Nat.le_of_ble_eq_true rfl, Nat.le_of_ble_eq_true rfl⟩) (x_preV (u := (X, M, τ)) (k := 39) (ci := 12) hC hS hP Nat.zero_lt_one rfl rfl) rfl rfl hl.1 rfl (lv_room (Nat.le_of_ble_eq_true rfl)) dX12_reckons_321 ⟨Nat.zero_le _, Nat.zero_le _⟩) hS (fun H locs hP hS => ?_)
                            refine lv_i2f hx hb dX12_reckons_324 ?_
                            refine lv_aload_n hx hb dX12_reckons_325 rfl (lv_at hl 0 rfl) ?_
                            refine lv_iload_n hx hb dX12_reckons_326 rfl (lv_at hl 1 rfl) ?_
                            refine lv_iload hx hb dX12_reckons_327 (lv_at hl 5 rfl) ?_
                            obtain ⟨r_3, hc_4, hf⟩ := g_bindE hf
                            refine x_calli (v := (X, M, τ)) (va_runV (As := [.int x1, .int x5]) (rest := [.float (FP.i2f r_1), .int x3, .int x1, .ref (G.2.1 39 0)]) ⟨hx, hb, hml, hown, hts⟩ (ct_X12_reg l G X M τ x1 x5 hc_4) (cwV 2 hts gd_X12_139 rfl rfl rfl hd_X12_reg ⟨Nat.le_of_ble_eq_true rfl, Nat.le_of_ble_eq_true rfl⟩) (x_preV (u := (X, M, τ)) (k := 39) (ci := 12) hC hS hP Nat.zero_lt_one rfl rfl) rfl rfl hl.1 rfl (lv_room (Nat.le_of_ble_eq_true rfl)) dX12_reckons_329 ⟨Nat.zero_le _, Nat.zero_le _⟩) hS (fun H locs hP hS => ?_)
                            refine lv_i2f hx hb dX12_reckons_332 ?_
                            obtain ⟨hg_5, hf⟩ := g_gd hf
                            refine lv_fmul hx hb dX12_reckons_333 hg_5 ?_
                            refine lv_ldcf (v := 1149239296) hx hb hown (hts _ q28_21) dX12_reckons_334 ?_
                            obtain ⟨hg_6, hf⟩ := g_gd hf
                            refine lv_fdiv hx hb dX12_reckons_336 hg_6 ?_
                            refine lv_f2i hx hb dX12_reckons_337 ?_
                            obtain ⟨M_7, hc_8, hf⟩ := g_bindE hf
                            refine x_callv (v := (X, M_7, τ)) (va_runV (As := [.int x1, .int x3, .int (FP.f2i (FP.fdiv (FP.fmul (FP.i2f r_1) (FP.i2f r_3)) 1149239296))]) (rest := []) ⟨hx, hb, hml, hown, hts⟩ (ct_X12_gets l G X M τ x1 x3 (FP.f2i (FP.fdiv (FP.fmul (FP.i2f r_1) (FP.i2f r_3)) 1149239296)) hc_8) (cwV 3 hts gd_X12_123 rfl rfl rfl hd_X12_gets ⟨Nat.le_of_ble_eq_true rfl, Nat.le_of_ble_eq_true rfl⟩) (x_preV (u := (X, M, τ)) (k := 39) (ci := 12) hC hS hP Nat.zero_lt_one rfl rfl) rfl rfl hl.1 rfl (lv_room (Nat.le_of_ble_eq_true rfl)) dX12_reckons_338 ⟨Nat.zero_le _, Nat.zero_le _⟩) hS (fun H locs hP hS => ?_)
                            cases hf
                            refine W.endD hd ?_
                            exact x_vret hx hb hlocks hC hP hS hr dX12_reckons_341
                          · by_cases hs1_13 : x2 = 13
                            · refine lv_tableIn (off := 313) (tgt := 314) hx hb dX12_reckons_1 (by rw [hs1_13]; decide) (by rw [hs1_13]; decide) (by rw [hs1_13]; rfl) (by decide) ?_
                              have hf := g_neg hf (by rw [hs1_13]; decide)
                              have hf := g_neg hf (by rw [hs1_13]; decide)
                              refine lv_aload_n hx hb dX12_reckons_314 rfl (lv_at hl 0 rfl) ?_
                              refine lv_iload_n hx hb dX12_reckons_315 rfl (lv_at hl 1 rfl) ?_
                              refine lv_iload_n hx hb dX12_reckons_316 rfl (lv_at hl 3 rfl) ?_
                              refine lv_aload_n hx hb dX12_reckons_317 rfl (lv_at hl 0 rfl) ?_
                              refine lv_iload_n hx hb dX12_reckons_318 rfl (lv_at hl 1 rfl) ?_
                              refine lv_iload hx hb dX12_reckons_319 (lv_at hl 4 rfl) ?_
                              obtain ⟨r_1, hc_2, hf⟩ := g_bindE hf
                              refine x_calli (v := (X, M, τ)) (va_runV (As := [.int x1, .int x4]) (rest := [.int x3, .int x1, .ref (G.2.1 39 0)]) ⟨hx, hb, hml, hown, hts⟩ (ct_X12_reg l G X M τ x1 x4 hc_2) (cwV 2 hts gd_X12_139 rfl rfl rfl hd_X12_reg ⟨Nat.le_of_ble_eq_true rfl, Nat.le_of_ble_eq_true rfl⟩) (x_preV (u := (X, M, τ)) (k := 39) (ci := 12) hC hS hP Nat.zero_lt_one rfl rfl) rfl rfl hl.1 rfl (lv_room (Nat.le_of_ble_eq_true rfl)) dX12_reckons_321 ⟨Nat.zero_le _, Nat.zero_le _⟩) hS (fun H locs hP hS => ?_)
                              refine lv_i2f hx hb dX12_reckons_324 ?_
                              refine lv_aload_n hx hb dX12_reckons_325 rfl (lv_at hl 0 rfl) ?_
                              refine lv_iload_n hx hb dX12_reckons_326 rfl (lv_at hl 1 rfl) ?_
                              refine lv_iload hx hb dX12_reckons_327 (lv_at hl 5 rfl) ?_
                              obtain ⟨r_3, hc_4, hf⟩ := g_bindE hf
                              refine x_calli (v := (X, M, τ)) (va_runV (As := [.int x1, .int x5]) (rest := [.float (FP.i2f r_1), .int x3, .int x1, .ref (G.2.1 39 0)]) ⟨hx, hb, hml, hown, hts⟩ (ct_X12_reg l G X M τ x1 x5 hc_4) (cwV 2 hts gd_X12_139 rfl rfl rfl hd_X12_reg ⟨Nat.le_of_ble_eq_true rfl, Nat.le_of_ble_eq_true rfl⟩) (x_preV (u := (X, M, τ)) (k := 39) (ci := 12) hC hS hP Nat.zero_lt_one rfl rfl) rfl rfl hl.1 rfl (lv_room (Nat.le_of_ble_eq_true rfl)) dX12_reckons_329 ⟨Nat.zero_le _, Nat.zero_le _⟩) hS (fun H locs hP hS => ?_)
                              refine lv_i2f hx hb dX12_reckons_332 ?_
                              obtain ⟨hg_5, hf⟩ := g_gd hf
                              refine lv_fmul hx hb dX12_reckons_333 hg_5 ?_
                              refine lv_ldcf (v := 1149239296) hx hb hown (hts _ q28_21) dX12_reckons_334 ?_
                              obtain ⟨hg_6, hf⟩ := g_gd hf
                              refine lv_fdiv hx hb dX12_reckons_336 hg_6 ?_
                              refine lv_f2i hx hb dX12_reckons_337 ?_
                              obtain ⟨M_7, hc_8, hf⟩ := g_bindE hf
                              refine x_callv (v := (X, M_7, τ)) (va_runV (As := [.int x1, .int x3, .int (FP.f2i (FP.fdiv (FP.fmul (FP.i2f r_1) (FP.i2f r_3)) 1149239296))]) (rest := []) ⟨hx, hb, hml, hown, hts⟩ (ct_X12_gets l G X M τ x1 x3 (FP.f2i (FP.fdiv (FP.fmul (FP.i2f r_1) (FP.i2f r_3)) 1149239296)) hc_8) (cwV 3 hts gd_X12_123 rfl rfl rfl hd_X12_gets ⟨Nat.le_of_ble_eq_true rfl, Nat.le_of_ble_eq_true rfl⟩) (x_preV (u := (X, M, τ)) (k := 39) (ci := 12) hC hS hP Nat.zero_lt_one rfl rfl) rfl rfl hl.1 rfl (lv_room (Nat.le_of_ble_eq_true rfl)) dX12_reckons_338 ⟨Nat.zero_le _, Nat.zero_le _⟩) hS (fun H locs hP hS => ?_)
                              cases hf
                              refine W.endD hd ?_
                              exact x_vret hx hb hlocks hC hP hS hr dX12_reckons_341
                            · by_cases hs1_14 : x2 = 14
                              · refine lv_tableIn (off := 313) (tgt := 314) hx hb dX12_reckons_1 (by rw [hs1_14]; decide) (by rw [hs1_14]; decide) (by rw [hs1_14]; rfl) (by decide) ?_
                                have hf := g_neg hf (by rw [hs1_14]; decide)
                                have hf := g_neg hf (by rw [hs1_14]; decide)
                                refine lv_aload_n hx hb dX12_reckons_314 rfl (lv_at hl 0 rfl) ?_
                                refine lv_iload_n hx hb dX12_reckons_315 rfl (lv_at hl 1 rfl) ?_
                                refine lv_iload_n hx hb dX12_reckons_316 rfl (lv_at hl 3 rfl) ?_
                                refine lv_aload_n hx hb dX12_reckons_317 rfl (lv_at hl 0 rfl) ?_
                                refine lv_iload_n hx hb dX12_reckons_318 rfl (lv_at hl 1 rfl) ?_
                                refine lv_iload hx hb dX12_reckons_319 (lv_at hl 4 rfl) ?_
                                obtain ⟨r_1, hc_2, hf⟩ := g_bindE hf
                                refine x_calli (v := (X, M, τ)) (va_runV (As := [.int x1, .int x4]) (rest := [.int x3, .int x1, .ref (G.2.1 39 0)]) ⟨hx, hb, hml, hown, hts⟩ (ct_X12_reg l G X M τ x1 x4 hc_2) (cwV 2 hts gd_X12_139 rfl rfl rfl hd_X12_reg ⟨Nat.le_of_ble_eq_true rfl, Nat.le_of_ble_eq_true rfl⟩) (x_preV (u := (X, M, τ)) (k := 39) (ci := 12) hC hS hP Nat.zero_lt_one rfl rfl) rfl rfl hl.1 rfl (lv_room (Nat.le_of_ble_eq_true rfl)) dX12_reckons_321 ⟨Nat.zero_le _, Nat.zero_le _⟩) hS (fun H locs hP hS => ?_)
                                refine lv_i2f hx hb dX12_reckons_324 ?_
                                refine lv_aload_n hx hb dX12_reckons_325 rfl (lv_at hl 0 rfl) ?_
                                refine lv_iload_n hx hb dX12_reckons_326 rfl (lv_at hl 1 rfl) ?_
                                refine lv_iload hx hb dX12_reckons_327 (lv_at hl 5 rfl) ?_
                                obtain ⟨r_3, hc_4, hf⟩ := g_bindE hf
                                refine x_calli (v := (X, M, τ)) (va_runV (As := [.int x1, .int x5]) (rest := [.float (FP.i2f r_1), .int x3, .int x1, .ref (G.2.1 39 0)]) ⟨hx, hb, hml, hown, hts⟩ (ct_X12_reg l G X M τ x1 x5 hc_4) (cwV 2 hts gd_X12_139 rfl rfl rfl hd_X12_reg ⟨Nat.le_of_ble_eq_true rfl, Nat.le_of_ble_eq_true rfl⟩) (x_preV (u := (X, M, τ)) (k := 39) (ci := 12) hC hS hP Nat.zero_lt_one rfl rfl) rfl rfl hl.1 rfl (lv_room (Nat.le_of_ble_eq_true rfl)) dX12_reckons_329 ⟨Nat.zero_le _, Nat.zero_le _⟩) hS (fun H locs hP hS => ?_)
                                refine lv_i2f hx hb dX12_reckons_332 ?_
                                obtain ⟨hg_5, hf⟩ := g_gd hf
                                refine lv_fmul hx hb dX12_reckons_333 hg_5 ?_
                                refine lv_ldcf (v := 1149239296) hx hb hown (hts _ q28_21) dX12_reckons_334 ?_
                                obtain ⟨hg_6, hf⟩ := g_gd hf
                                refine lv_fdiv hx hb dX12_reckons_336 hg_6 ?_
                                refine lv_f2i hx hb dX12_reckons_337 ?_
                                obtain ⟨M_7, hc_8, hf⟩ := g_bindE hf
                                refine x_callv (v := (X, M_7, τ)) (va_runV (As := [.int x1, .int x3, .int (FP.f2i (FP.fdiv (FP.fmul (FP.i2f r_1) (FP.i2f r_3)) 1149239296))]) (rest := []) ⟨hx, hb, hml, hown, hts⟩ (ct_X12_gets l G X M τ x1 x3 (FP.f2i (FP.fdiv (FP.fmul (FP.i2f r_1) (FP.i2f r_3)) 1149239296)) hc_8) (cwV 3 hts gd_X12_123 rfl rfl rfl hd_X12_gets ⟨Nat.le_of_ble_eq_true rfl, Nat.le_of_ble_eq_true rfl⟩) (x_preV (u := (X, M, τ)) (k := 39) (ci := 12) hC hS hP Nat.zero_lt_one rfl rfl) rfl rfl hl.1 rfl (lv_room (Nat.le_of_ble_eq_true rfl)) dX12_reckons_338 ⟨Nat.zero_le _, Nat.zero_le _⟩) hS (fun H locs hP hS => ?_)
                                cases hf
                                refine W.endD hd ?_
                                exact x_vret hx hb hlocks hC hP hS hr dX12_reckons_341
                              · by_cases hs1_15 : x2 = 15
                                · have hf := g_pos hf hs1_15
                                  refine lv_tableIn (off := 267) (tgt := 268) hx hb dX12_reckons_1 (by rw [hs1_15]; decide) (by rw [hs1_15]; decide) (by rw [hs1_15]; rfl) (by decide) ?_
                                  refine lv_aload_n hx hb dX12_reckons_268 rfl (lv_at hl 0 rfl) ?_
                                  refine lv_iload_n hx hb dX12_reckons_269 rfl (lv_at hl 1 rfl) ?_
                                  refine lv_iload_n hx hb dX12_reckons_270 rfl (lv_at hl 3 rfl) ?_
                                  refine lv_aload_n hx hb dX12_reckons_271 rfl (lv_at hl 0 rfl) ?_
                                  refine gt_39_0 hx hb hts hown hC hP Nat.zero_lt_one q6_17 dX12_reckons_272 ?_
                                  refine lv_sipush (v := 683) hx hb dX12_reckons_275 (by decide) ?_
                                  refine xildM (k := 40) (n := 693) hx hb hC hP (fun _ _ => rfl) rfl Nat.zero_lt_one (by decide) dX12_reckons_278 ?_
                                  refine lv_topE (show M 40 0 (Int32.toNatClampNeg 683) = M 40 0 683 from rfl) ?_
                                  obtain ⟨M_19, hc_20, hf⟩ := g_bindE hf
                                  refine x_callv (v := (X, M_19, τ)) (va_runV (As := [.int x1, .int x3, .int (M 40 0 683)]) (rest := []) ⟨hx, hb, hml, hown, hts⟩ (ct_X12_gets l G X M τ x1 x3 (M 40 0 683) hc_20) (cwV 3 hts gd_X12_123 rfl rfl rfl hd_X12_gets ⟨Nat.le_of_ble_eq_true rfl, Nat.le_of_ble_eq_true rfl⟩) (x_preV (u := (X, M, τ)) (k := 39) (ci := 12) hC hS hP Nat.zero_lt_one rfl rfl) rfl rfl hl.1 rfl (lv_room (Nat.le_of_ble_eq_true rfl)) dX12_reckons_279 ⟨Nat.zero_le _, Nat.zero_le _⟩) hS (fun H locs hP hS => ?_)
                                  refine lv_goto (tgt := 341) hx hb dX12_reckons_282 (by decide) ?_
                                  cases hf
                                  refine W.endD hd ?_
                                  exact x_vret hx hb hlocks hC hP hS hr dX12_reckons_341
                                · have hf := g_neg hf hs1_15
                                  by_cases hs1_16 : x2 = 16
                                  · refine lv_tableIn (off := 313) (tgt := 314) hx hb dX12_reckons_1 (by rw [hs1_16]; decide) (by rw [hs1_16]; decide) (by rw [hs1_16]; rfl) (by decide) ?_
                                    have hf := g_neg hf (by rw [hs1_16]; decide)
                                    refine lv_aload_n hx hb dX12_reckons_314 rfl (lv_at hl 0 rfl) ?_
                                    refine lv_iload_n hx hb dX12_reckons_315 rfl (lv_at hl 1 rfl) ?_
                                    refine lv_iload_n hx hb dX12_reckons_316 rfl (lv_at hl 3 rfl) ?_
                                    refine lv_aload_n hx hb dX12_reckons_317 rfl (lv_at hl 0 rfl) ?_
                                    refine lv_iload_n hx hb dX12_reckons_318 rfl (lv_at hl 1 rfl) ?_
                                    refine lv_iload hx hb dX12_reckons_319 (lv_at hl 4 rfl) ?_
                                    obtain ⟨r_1, hc_2, hf⟩ := g_bindE hf
                                    refine x_calli (v := (X, M, τ)) (va_runV (As := [.int x1, .int x4]) (rest := [.int x3, .int x1, .ref (G.2.1 39 0)]) ⟨hx, hb, hml, hown, hts⟩ (ct_X12_reg l G X M τ x1 x4 hc_2) (cwV 2 hts gd_X12_139 rfl rfl rfl hd_X12_reg ⟨Nat.le_of_ble_eq_true rfl, Nat.le_of_ble_eq_true rfl⟩) (x_preV (u := (X, M, τ)) (k := 39) (ci := 12) hC hS hP Nat.zero_lt_one rfl rfl) rfl rfl hl.1 rfl (lv_room (Nat.le_of_ble_eq_true rfl)) dX12_reckons_321 ⟨Nat.zero_le _, Nat.zero_le _⟩) hS (fun H locs hP hS => ?_)
                                    refine lv_i2f hx hb dX12_reckons_324 ?_
                                    refine lv_aload_n hx hb dX12_reckons_325 rfl (lv_at hl 0 rfl) ?_
                                    refine lv_iload_n hx hb dX12_reckons_326 rfl (lv_at hl 1 rfl) ?_
                                    refine lv_iload hx hb dX12_reckons_327 (lv_at hl 5 rfl) ?_
                                    obtain ⟨r_3, hc_4, hf⟩ := g_bindE hf
                                    refine x_calli (v := (X, M, τ)) (va_runV (As := [.int x1, .int x5]) (rest := [.float (FP.i2f r_1), .int x3, .int x1, .ref (G.2.1 39 0)]) ⟨hx, hb, hml, hown, hts⟩ (ct_X12_reg l G X M τ x1 x5 hc_4) (cwV 2 hts gd_X12_139 rfl rfl rfl hd_X12_reg ⟨Nat.le_of_ble_eq_true rfl, Nat.le_of_ble_eq_true rfl⟩) (x_preV (u := (X, M, τ)) (k := 39) (ci := 12) hC hS hP Nat.zero_lt_one rfl rfl) rfl rfl hl.1 rfl (lv_room (Nat.le_of_ble_eq_true rfl)) dX12_reckons_329 ⟨Nat.zero_le _, Nat.zero_le _⟩) hS (fun H locs hP hS => ?_)
                                    refine lv_i2f hx hb dX12_reckons_332 ?_
                                    obtain ⟨hg_5, hf⟩ := g_gd hf
                                    refine lv_fmul hx hb dX12_reckons_333 hg_5 ?_
                                    refine lv_ldcf (v := 1149239296) hx hb hown (hts _ q28_21) dX12_reckons_334 ?_
                                    obtain ⟨hg_6, hf⟩ := g_gd hf
                                    refine lv_fdiv hx hb dX12_reckons_336 hg_6 ?_
                                    refine lv_f2i hx hb dX12_reckons_337 ?_
                                    obtain ⟨M_7, hc_8, hf⟩ := g_bindE hf
                                    refine x_callv (v := (X, M_7, τ)) (va_runV (As := [.int x1, .int x3, .int (FP.f2i (FP.fdiv (FP.fmul (FP.i2f r_1) (FP.i2f r_3)) 1149239296))]) (rest := []) ⟨hx, hb, hml, hown, hts⟩ (ct_X12_gets l G X M τ x1 x3 (FP.f2i (FP.fdiv (FP.fmul (FP.i2f r_1) (FP.i2f r_3)) 1149239296)) hc_8) (cwV 3 hts gd_X12_123 rfl rfl rfl hd_X12_gets ⟨Nat.le_of_ble_eq_true rfl, Nat.le_of_ble_eq_true rfl⟩) (x_preV (u := (X, M, τ)) (k := 39) (ci := 12) hC hS hP Nat.zero_lt_one rfl rfl) rfl rfl hl.1 rfl (lv_room (Nat.le_of_ble_eq_true rfl)) dX12_reckons_338 ⟨Nat.zero_le _, Nat.zero_le _⟩) hS (fun H locs hP hS => ?_)
                                    cases hf
                                    refine W.endD hd ?_
                                    exact x_vret hx hb hlocks hC hP hS hr dX12_reckons_341
                                  · by_cases hs1_17 : x2 = 17
                                    · refine lv_tableIn (off := 313) (tgt := 314) hx hb dX12_reckons_1 (by rw [hs1_17]; decide) (by rw [hs1_17]; decide) (by rw [hs1_17]; rfl) (by decide) ?_
                                      have hf := g_neg hf (by rw [hs1_17]; decide)
                                      refine lv_aload_n hx hb dX12_reckons_314 rfl (lv_at hl 0 rfl) ?_
                                      refine lv_iload_n hx hb dX12_reckons_315 rfl (lv_at hl 1 rfl) ?_
                                      refine lv_iload_n hx hb dX12_reckons_316 rfl (lv_at hl 3 rfl) ?_
                                      refine lv_aload_n hx hb dX12_reckons_317 rfl (lv_at hl 0 rfl) ?_
                                      refine lv_iload_n hx hb dX12_reckons_318 rfl (lv_at hl 1 rfl) ?_
                                      refine lv_iload hx hb dX12_reckons_319 (lv_at hl 4 rfl) ?_
                                      obtain ⟨r_1, hc_2, hf⟩ := g_bindE hf
                                      refine x_calli (v := (X, M, τ)) (va_runV (As := [.int x1, .int x4]) (rest := [.int x3, .int x1, .ref (G.2.1 39 0)]) ⟨hx, hb, hml, hown, hts⟩ (ct_X12_reg l G X M τ x1 x4 hc_2) (cwV 2 hts gd_X12_139 rfl rfl rfl hd_X12_reg ⟨Nat.le_of_ble_eq_true rfl, Nat.le_of_ble_eq_true rfl⟩) (x_preV (u := (X, M, τ)) (k := 39) (ci := 12) hC hS hP Nat.zero_lt_one rfl rfl) rfl rfl hl.1 rfl (lv_room (Nat.le_of_ble_eq_true rfl)) dX12_reckons_321 ⟨Nat.zero_le _, Nat.zero_le _⟩) hS (fun H locs hP hS => ?_)
                                      refine lv_i2f hx hb dX12_reckons_324 ?_
                                      refine lv_aload_n hx hb dX12_reckons_325 rfl (lv_at hl 0 rfl) ?_
                                      refine lv_iload_n hx hb dX12_reckons_326 rfl (lv_at hl 1 rfl) ?_
                                      refine lv_iload hx hb dX12_reckons_327 (lv_at hl 5 rfl) ?_
                                      obtain ⟨r_3, hc_4, hf⟩ := g_bindE hf
                                      refine x_calli (v := (X, M, τ)) (va_runV (As := [.int x1, .int x5]) (rest := [.float (FP.i2f r_1), .int x3, .int x1, .ref (G.2.1 39 0)]) ⟨hx, hb, hml, hown, hts⟩ (ct_X12_reg l G X M τ x1 x5 hc_4) (cwV 2 hts gd_X12_139 rfl rfl rfl hd_X12_reg ⟨Nat.le_of_ble_eq_true rfl, Nat.le_of_ble_eq_true rfl⟩) (x_preV (u := (X, M, τ)) (k := 39) (ci := 12) hC hS hP Nat.zero_lt_one rfl rfl) rfl rfl hl.1 rfl (lv_room (Nat.le_of_ble_eq_true rfl)) dX12_reckons_329 ⟨Nat.zero_le _, Nat.zero_le _⟩) hS (fun H locs hP hS => ?_)
                                      refine lv_i2f hx hb dX12_reckons_332 ?_
                                      obtain ⟨hg_5, hf⟩ := g_gd hf
                                      refine lv_fmul hx hb dX12_reckons_333 hg_5 ?_
                                      refine lv_ldcf (v := 1149239296) hx hb hown (hts _ q28_21) dX12_reckons_334 ?_
                                      obtain ⟨hg_6, hf⟩ := g_gd hf
                                      refine lv_fdiv hx hb dX12_reckons_336 hg_6 ?_
                                      refine lv_f2i hx hb dX12_reckons_337 ?_
                                      obtain ⟨M_7, hc_8, hf⟩ := g_bindE hf
                                      refine x_callv (v := (X, M_7, τ)) (va_runV (As := [.int x1, .int x3, .int (FP.f2i (FP.fdiv (FP.fmul (FP.i2f r_1) (FP.i2f r_3)) 1149239296))]) (rest := []) ⟨hx, hb, hml, hown, hts⟩ (ct_X12_gets l G X M τ x1 x3 (FP.f2i (FP.fdiv (FP.fmul (FP.i2f r_1) (FP.i2f r_3)) 1149239296)) hc_8) (cwV 3 hts gd_X12_123 rfl rfl rfl hd_X12_gets ⟨Nat.le_of_ble_eq_true rfl, Nat.le_of_ble_eq_true rfl⟩) (x_preV (u := (X, M, τ)) (k := 39) (ci := 12) hC hS hP Nat.zero_lt_one rfl rfl) rfl rfl hl.1 rfl (lv_room (Nat.le_of_ble_eq_true rfl)) dX12_reckons_338 ⟨Nat.zero_le _, Nat.zero_le _⟩) hS (fun H locs hP hS => ?_)
                                      cases hf
                                      refine W.endD hd ?_
                                      exact x_vret hx hb hlocks hC hP hS hr dX12_reckons_341
                                    · by_cases hs1_18 : x2 = 18
                                      · refine lv_tableIn (off := 313) (tgt := 314) hx hb dX12_reckons_1 (by rw [hs1_18]; decide) (by rw [hs1_18]; decide) (by rw [hs1_18]; rfl) (by decide) ?_
                                        have hf := g_neg hf (by rw [hs1_18]; decide)
                                        refine lv_aload_n hx hb dX12_reckons_314 rfl (lv_at hl 0 rfl) ?_
                                        refine lv_iload_n hx hb dX12_reckons_315 rfl (lv_at hl 1 rfl) ?_
                                        refine lv_iload_n hx hb dX12_reckons_316 rfl (lv_at hl 3 rfl) ?_
                                        refine lv_aload_n hx hb dX12_reckons_317 rfl (lv_at hl 0 rfl) ?_
                                        refine lv_iload_n hx hb dX12_reckons_318 rfl (lv_at hl 1 rfl) ?_
                                        refine lv_iload hx hb dX12_reckons_319 (lv_at hl 4 rfl) ?_
                                        obtain ⟨r_1, hc_2, hf⟩ := g_bindE hf
                                        refine x_calli (v := (X, M, τ)) (va_runV (As := [.int x1, .int x4]) (rest := [.int x3, .int x1, .ref (G.2.1 39 0)]) ⟨hx, hb, hml, hown, hts⟩ (ct_X12_reg l G X M τ x1 x4 hc_2) (cwV 2 hts gd_X12_139 rfl rfl rfl hd_X12_reg ⟨Nat.le_of_ble_eq_true rfl, Nat.le_of_ble_eq_true rfl⟩) (x_preV (u := (X, M, τ)) (k := 39) (ci := 12) hC hS hP Nat.zero_lt_one rfl rfl) rfl rfl hl.1 rfl (lv_room (Nat.le_of_ble_eq_true rfl)) dX12_reckons_321 ⟨Nat.zero_le _, Nat.zero_le _⟩) hS (fun H locs hP hS => ?_)
                                        refine lv_i2f hx hb dX12_reckons_324 ?_
                                        refine lv_aload_n hx hb dX12_reckons_325 rfl (lv_at hl 0 rfl) ?_
                                        refine lv_iload_n hx hb dX12_reckons_326 rfl (lv_at hl 1 rfl) ?_
                                        refine lv_iload hx hb dX12_reckons_327 (lv_at hl 5 rfl) ?_
                                        obtain ⟨r_3, hc_4, hf⟩ := g_bindE hf
                                        refine x_calli (v := (X, M, τ)) (va_runV (As := [.int x1, .int x5]) (rest := [.float (FP.i2f r_1), .int x3, .int x1, .ref (G.2.1 39 0)]) ⟨hx, hb, hml, hown, hts⟩ (ct_X12_reg l G X M τ x1 x5 hc_4) (cwV 2 hts gd_X12_139 rfl rfl rfl hd_X12_reg ⟨Nat.le_of_ble_eq_true rfl, Nat.le_of_ble_eq_true rfl⟩) (x_preV (u := (X, M, τ)) (k := 39) (ci := 12) hC hS hP Nat.zero_lt_one rfl rfl) rfl rfl hl.1 rfl (lv_room (Nat.le_of_ble_eq_true rfl)) dX12_reckons_329 ⟨Nat.zero_le _, Nat.zero_le _⟩) hS (fun H locs hP hS => ?_)
                                        refine lv_i2f hx hb dX12_reckons_332 ?_
                                        obtain ⟨hg_5, hf⟩ := g_gd hf
                                        refine lv_fmul hx hb dX12_reckons_333 hg_5 ?_
                                        refine lv_ldcf (v := 1149239296) hx hb hown (hts _ q28_21) dX12_reckons_334 ?_
                                        obtain ⟨hg_6, hf⟩ := g_gd hf
                                        refine lv_fdiv hx hb dX12_reckons_336 hg_6 ?_
                                        refine lv_f2i hx hb dX12_reckons_337 ?_
                                        obtain ⟨M_7, hc_8, hf⟩ := g_bindE hf
                                        refine x_callv (v := (X, M_7, τ)) (va_runV (As := [.int x1, .int x3, .int (FP.f2i (FP.fdiv (FP.fmul (FP.i2f r_1) (FP.i2f r_3)) 1149239296))]) (rest := []) ⟨hx, hb, hml, hown, hts⟩ (ct_X12_gets l G X M τ x1 x3 (FP.f2i (FP.fdiv (FP.fmul (FP.i2f r_1) (FP.i2f r_3)) 1149239296)) hc_8) (cwV 3 hts gd_X12_123 rfl rfl rfl hd_X12_gets ⟨Nat.le_of_ble_eq_true rfl, Nat.le_of_ble_eq_true rfl⟩) (x_preV (u := (X, M, τ)) (k := 39) (ci := 12) hC hS hP Nat.zero_lt_one rfl rfl) rfl rfl hl.1 rfl (lv_room (Nat.le_of_ble_eq_true rfl)) dX12_reckons_338 ⟨Nat.zero_le _, Nat.zero_le _⟩) hS (fun H locs hP hS => ?_)
                                        cases hf
                                        refine W.endD hd ?_
                                        exact x_vret hx hb hlocks hC hP hS hr dX12_reckons_341
                                      · by_cases hs1_19 : x2 = 19
                                        · have hf := g_pos hf hs1_19
                                          refine lv_tableIn (off := 284) (tgt := 285) hx hb dX12_reckons_1 (by rw [hs1_19]; decide) (by rw [hs1_19]; decide) (by rw [hs1_19]; rfl) (by decide) ?_
                                          refine lv_aload_n hx hb dX12_reckons_285 rfl (lv_at hl 0 rfl) ?_
                                          refine lv_iload_n hx hb dX12_reckons_286 rfl (lv_at hl 1 rfl) ?_
                                          refine lv_iload_n hx hb dX12_reckons_287 rfl (lv_at hl 3 rfl) ?_
                                          refine lv_aload_n hx hb dX12_reckons_288 rfl (lv_at hl 0 rfl) ?_
                                          refine lv_iload_n hx hb dX12_reckons_289 rfl (lv_at hl 1 rfl) ?_
                                          refine lv_iload hx hb dX12_reckons_290 (lv_at hl 4 rfl) ?_
                                          obtain ⟨r_9, hc_10, hf⟩ := g_bindE hf
                                          refine x_calli (v := (X, M, τ)) (va_runV (As := [.int x1, .int x4]) (rest := [.int x3, .int x1, .ref (G.2.1 39 0)]) ⟨hx, hb, hml, hown, hts⟩ (ct_X12_reg l G X M τ x1 x4 hc_10) (cwV 2 hts gd_X12_139 rfl rfl rfl hd_X12_reg ⟨Nat.le_of_ble_eq_true rfl, Nat.le_of_ble_eq_true rfl⟩) (x_preV (u := (X, M, τ)) (k := 39) (ci := 12) hC hS hP Nat.zero_lt_one rfl rfl) rfl rfl hl.1 rfl (lv_room (Nat.le_of_ble_eq_true rfl)) dX12_reckons_292 ⟨Nat.zero_le _, Nat.zero_le _⟩) hS (fun H locs hP hS => ?_)
                                          refine lv_i2f hx hb dX12_reckons_295 ?_
                                          refine lv_aload_n hx hb dX12_reckons_296 rfl (lv_at hl 0 rfl) ?_
                                          refine lv_iload_n hx hb dX12_reckons_297 rfl (lv_at hl 1 rfl) ?_
                                          refine lv_iload hx hb dX12_reckons_298 (lv_at hl 5 rfl) ?_
                                          obtain ⟨r_11, hc_12, hf⟩ := g_bindE hf
                                          refine x_calli (v := (X, M, τ)) (va_runV (As := [.int x1, .int x5]) (rest := [.float (FP.i2f r_9), .int x3, .int x1, .ref (G.2.1 39 0)]) ⟨hx, hb, hml, hown, hts⟩ (ct_X12_reg l G X M τ x1 x5 hc_12) (cwV 2 hts gd_X12_139 rfl rfl rfl hd_X12_reg ⟨Nat.le_of_ble_eq_true rfl, Nat.le_of_ble_eq_true rfl⟩) (x_preV (u := (X, M, τ)) (k := 39) (ci := 12) hC hS hP Nat.zero_lt_one rfl rfl) rfl rfl hl.1 rfl (lv_room (Nat.le_of_ble_eq_true rfl)) dX12_reckons_300 ⟨Nat.zero_le _, Nat.zero_le _⟩) hS (fun H locs hP hS => ?_)
                                          refine lv_i2f hx hb dX12_reckons_303 ?_
                                          refine lv_fdiv_any hd lw_bits hx hb dX12_reckons_304 (fun rq_13 d hal_14 hd => ?_)
                                          have hts := dr_words hts0 d
                                          have hC := hC0.dr d
                                          obtain ⟨r_15, hc_16, hf⟩ := g_letE hf
                                          refine x_calli (v := (X, M, τ)) (va_runS (As := [.float rq_13]) (rest := [.int x3, .int x1, .ref (G.2.1 39 0)]) ⟨hx, hb, hml, hown, hts⟩ (ct_Jxf58ca_floatToIntBits_5c35a l G X M τ rq_13 ((fb_alike hal_14).trans hc_16)) ⟨callB_of 1 hts (wz_N q29_1) rfl rfl rfl (hts _ q29_0) (hts _ q28_22) hd_Jxf58ca_floatToIntBits_5c35a.2 ⟨Nat.le_of_ble_eq_true rfl, Nat.le_of_ble_eq_true rfl⟩, hts _ q28_23⟩ (x_pre (u := (X, M, τ)) hC hS hP) rfl rfl hl.1 rfl (lv_room (Nat.le_of_ble_eq_true rfl)) dX12_reckons_305 ⟨Nat.zero_le _, Nat.zero_le _⟩) hS (fun H locs hP hS => ?_)
                                          obtain ⟨M_17, hc_18, hf⟩ := g_bindE hf
                                          refine x_callv (v := (X, M_17, τ)) (va_runV (As := [.int x1, .int x3, .int r_15]) (rest := []) ⟨hx, hb, hml, hown, hts⟩ (ct_X12_gets l G X M τ x1 x3 r_15 hc_18) (cwV 3 hts gd_X12_123 rfl rfl rfl hd_X12_gets ⟨Nat.le_of_ble_eq_true rfl, Nat.le_of_ble_eq_true rfl⟩) (x_preV (u := (X, M, τ)) (k := 39) (ci := 12) hC hS hP Nat.zero_lt_one rfl rfl) rfl rfl hl.1 rfl (lv_room (Nat.le_of_ble_eq_true rfl)) dX12_reckons_308 ⟨Nat.zero_le _, Nat.zero_le _⟩) hS (fun H locs hP hS => ?_)
                                          refine lv_goto (tgt := 341) hx hb dX12_reckons_311 (by decide) ?_
                                          cases hf
                                          refine W.endD hd ?_
                                          exact x_vret hx hb hlocks hC hP hS hr dX12_reckons_341
                                        · have hf := g_neg hf hs1_19
                                          have nhs1_0 : x2.toInt ≠ 0 := fun h => hs1_0 (Int32.toInt_inj.mp (by rw [h]; rfl))
                                          have nhs1_1 : x2.toInt ≠ 1 := fun h => hs1_1 (Int32.toInt_inj.mp (by rw [h]; rfl))
                                          have nhs1_2 : x2.toInt ≠ 2 := fun h => hs1_2 (Int32.toInt_inj.mp (by rw [h]; rfl))
                                          have nhs1_3 : x2.toInt ≠ 3 := fun h => hs1_3 (Int32.toInt_inj.mp (by rw [h]; rfl))
                                          have nhs1_4 : x2.toInt ≠ 4 := fun h => hs1_4 (Int32.toInt_inj.mp (by rw [h]; rfl))
                                          have nhs1_5 : x2.toInt ≠ 5 := fun h => hs1_5 (Int32.toInt_inj.mp (by rw [h]; rfl))
                                          have nhs1_6 : x2.toInt ≠ 6 := fun h => hs1_6 (Int32.toInt_inj.mp (by rw [h]; rfl))
                                          have nhs1_7 : x2.toInt ≠ 7 := fun h => hs1_7 (Int32.toInt_inj.mp (by rw [h]; rfl))
                                          have nhs1_8 : x2.toInt ≠ 8 := fun h => hs1_8 (Int32.toInt_inj.mp (by rw [h]; rfl))
                                          have nhs1_9 : x2.toInt ≠ 9 := fun h => hs1_9 (Int32.toInt_inj.mp (by rw [h]; rfl))
                                          have nhs1_10 : x2.toInt ≠ 10 := fun h => hs1_10 (Int32.toInt_inj.mp (by rw [h]; rfl))
                                          have nhs1_11 : x2.toInt ≠ 11 := fun h => hs1_11 (Int32.toInt_inj.mp (by rw [h]; rfl))
                                          have nhs1_12 : x2.toInt ≠ 12 := fun h => hs1_12 (Int32.toInt_inj.mp (by rw [h]; rfl))
                                          have nhs1_13 : x2.toInt ≠ 13 := fun h => hs1_13 (Int32.toInt_inj.mp (by rw [h]; rfl))
                                          have nhs1_14 : x2.toInt ≠ 14 := fun h => hs1_14 (Int32.toInt_inj.mp (by rw [h]; rfl))
                                          have nhs1_15 : x2.toInt ≠ 15 := fun h => hs1_15 (Int32.toInt_inj.mp (by rw [h]; rfl))
                                          have nhs1_16 : x2.toInt ≠ 16 := fun h => hs1_16 (Int32.toInt_inj.mp (by rw [h]; rfl))
                                          have nhs1_17 : x2.toInt ≠ 17 := fun h => hs1_17 (Int32.toInt_inj.mp (by rw [h]; rfl))
                                          have nhs1_18 : x2.toInt ≠ 18 := fun h => hs1_18 (Int32.toInt_inj.mp (by rw [h]; rfl))
                                          have nhs1_19 : x2.toInt ≠ 19 := fun h => hs1_19 (Int32.toInt_inj.mp (by rw [h]; rfl))
                                          refine lv_tableOut (tgt := 314) hx hb dX12_reckons_1 (by omega) (by decide) ?_
                                          refine lv_aload_n hx hb dX12_reckons_314 rfl (lv_at hl 0 rfl) ?_
                                          refine lv_iload_n hx hb dX12_reckons_315 rfl (lv_at hl 1 rfl) ?_
                                          refine lv_iload_n hx hb dX12_reckons_316 rfl (lv_at hl 3 rfl) ?_
                                          refine lv_aload_n hx hb dX12_reckons_317 rfl (lv_at hl 0 rfl) ?_
                                          refine lv_iload_n hx hb dX12_reckons_318 rfl (lv_at hl 1 rfl) ?_
                                          refine lv_iload hx hb dX12_reckons_319 (lv_at hl 4 rfl) ?_
                                          obtain ⟨r_1, hc_2, hf⟩ := g_bindE hf
                                          refine x_calli (v := (X, M, τ)) (va_runV (As := [.int x1, .int x4]) (rest := [.int x3, .int x1, .ref (G.2.1 39 0)]) ⟨hx, hb, hml, hown, hts⟩ (ct_X12_reg l G X M τ x1 x4 hc_2) (cwV 2 hts gd_X12_139 rfl rfl rfl hd_X12_reg ⟨Nat.le_of_ble_eq_true rfl, Nat.le_of_ble_eq_true rfl⟩) (x_preV (u := (X, M, τ)) (k := 39) (ci := 12) hC hS hP Nat.zero_lt_one rfl rfl) rfl rfl hl.1 rfl (lv_room (Nat.le_of_ble_eq_true rfl)) dX12_reckons_321 ⟨Nat.zero_le _, Nat.zero_le _⟩) hS (fun H locs hP hS => ?_)
                                          refine lv_i2f hx hb dX12_reckons_324 ?_
                                          refine lv_aload_n hx hb dX12_reckons_325 rfl (lv_at hl 0 rfl) ?_
                                          refine lv_iload_n hx hb dX12_reckons_326 rfl (lv_at hl 1 rfl) ?_
                                          refine lv_iload hx hb dX12_reckons_327 (lv_at hl 5 rfl) ?_
                                          obtain ⟨r_3, hc_4, hf⟩ := g_bindE hf
                                          refine x_calli (v := (X, M, τ)) (va_runV (As := [.int x1, .int x5]) (rest := [.float (FP.i2f r_1), .int x3, .int x1, .ref (G.2.1 39 0)]) ⟨hx, hb, hml, hown, hts⟩ (ct_X12_reg l G X M τ x1 x5 hc_4) (cwV 2 hts gd_X12_139 rfl rfl rfl hd_X12_reg ⟨Nat.le_of_ble_eq_true rfl, Nat.le_of_ble_eq_true rfl⟩) (x_preV (u := (X, M, τ)) (k := 39) (ci := 12) hC hS hP Nat.zero_lt_one rfl rfl) rfl rfl hl.1 rfl (lv_room (Nat.le_of_ble_eq_true rfl)) dX12_reckons_329 ⟨Nat.zero_le _, Nat.zero_le _⟩) hS (fun H locs hP hS => ?_)
                                          refine lv_i2f hx hb dX12_reckons_332 ?_
                                          obtain ⟨hg_5, hf⟩ := g_gd hf
                                          refine lv_fmul hx hb dX12_reckons_333 hg_5 ?_
                                          refine lv_ldcf (v := 1149239296) hx hb hown (hts _ q28_21) dX12_reckons_334 ?_
                                          obtain ⟨hg_6, hf⟩ := g_gd hf
                                          refine lv_fdiv hx hb dX12_reckons_336 hg_6 ?_
                                          refine lv_f2i hx hb dX12_reckons_337 ?_
                                          obtain ⟨M_7, hc_8, hf⟩ := g_bindE hf
                                          refine x_callv (v := (X, M_7, τ)) (va_runV (As := [.int x1, .int x3, .int (FP.f2i (FP.fdiv (FP.fmul (FP.i2f r_1) (FP.i2f r_3)) 1149239296))]) (rest := []) ⟨hx, hb, hml, hown, hts⟩ (ct_X12_gets l G X M τ x1 x3 (FP.f2i (FP.fdiv (FP.fmul (FP.i2f r_1) (FP.i2f r_3)) 1149239296)) hc_8) (cwV 3 hts gd_X12_123 rfl rfl rfl hd_X12_gets ⟨Nat.le_of_ble_eq_true rfl, Nat.le_of_ble_eq_true rfl⟩) (x_preV (u := (X, M, τ)) (k := 39) (ci := 12) hC hS hP Nat.zero_lt_one rfl rfl) rfl rfl hl.1 rfl (lv_room (Nat.le_of_ble_eq_true rfl)) dX12_reckons_338 ⟨Nat.zero_le _, Nat.zero_le _⟩) hS (fun H locs hP hS => ?_)
                                          cases hf
                                          refine W.endD hd ?_
                                          exact x_vret hx hb hlocks hC hP hS hr dX12_reckons_341
set_option maxRecDepth 100000 in
set_option maxHeartbeats 4000000 in
theorem ct_X12_reckons (l : Launch) (G : GP) (X M : SM) (τ : SL) (x1 : Int32) (x2 : Int32) (x3 : Int32) (x4 : Int32) (x5 : Int32) {M0 : SM} (hf : fn_X12_reckons x1 x2 x3 x4 x5 M = some M0) : MetD lw_cs l yX12_reckons (wz yX12_reckons cX12_reckons 6 none) rm_X12_reckons (va_Pc [.ref (G.2.1 39 0), .int x1, .int x2, .int x3, .int x4, .int x5] (g_pw G (X, M, τ))) (va_Qv (fun u => u = (X, M0, τ)) (g_pw G) (g_A G)) 0 0 (g_A G) := by
  refine MetD.ofW (cc := cX12_reckons) (maxL := 6) (ret := none) (by decide +kernel) rfl ?_
  intro p e s m args below meth c s₁ B hml hv hd
  obtain ⟨rfl, hC, hP⟩ := hv
  have C0 : g_mc p s m _ meth c RX12 cX12_reckons none 6 G := ⟨B.exec, B.bytes, B.returns, hml, findClass_of_methodNamed B.named, fun w h => atoms_spec (ws := wz yX12_reckons cX12_reckons 6 none) B.pre w (List.mem_cons_of_mem _ h), B.notSynchronized, hC⟩
  have hl := lv_entry ([.ref (G.2.1 39 0), .int x1, .int x2, .int x3, .int x4, .int x5]) (n := 6) (Nat.le_of_ble_eq_true rfl)
  rw [lg_entry_eq]
  generalize (lg_sl ([.ref (G.2.1 39 0), .int x1, .int x2, .int x3, .int x4, .int x5]) ++ List.replicate (6 - (lg_sl ([.ref (G.2.1 39 0), .int x1, .int x2, .int x3, .int x4, .int x5])).length) Slot.unset).toArray = ls at hl ⊢
  exact wk_X12_reckons C0  x1 x2 x3 x4 x5 M hf hd hP va_S.rf hl
abbrev rm_X12_waits : Room := { frames := 1, cells := 0, slots := 0, locals := 27 }
def wb_X12_waits_120 (x1 : Int32) (x3 : Int32) (x4 : Int32) (x5 : Int32) (xs0 : Int32) (M : SM) : Option (SM) :=
  if xs0 = 0 then
  (if x3 = 11 then
    ((fn_X12_reg x1 x5 M).bind fun r_25 =>
      (fn_X12_writes x4 r_25 xs0 M).bind fun M_27 =>
      some M_27)
    else
    (if g_in (486 + x4) 693 then
      (fn_X12_gets x1 x5 (M 40 0 ((486 + x4).toNatClampNeg)) M).bind fun M_23 =>
      some M_23
      else none))
  else
  (if g_in (474 + x1) 693 then
    if g_in (474 + x1) 693 then
    g_let (u1 M 40 0 ((474 + x1).toNatClampNeg) ((M 40 0 ((474 + x1).toNatClampNeg)) + 1)) fun M_31 =>
    if x3 = 11 then
    ((fn_X12_reg x1 x5 M_31).bind fun r_36 =>
      (fn_X12_writes x4 r_36 xs0 M_31).bind fun M_38 =>
      some M_38)
    else
    (if g_in (486 + x4) 693 then
      (fn_X12_gets x1 x5 (M_31 40 0 ((486 + x4).toNatClampNeg)) M_31).bind fun M_34 =>
      some M_34
      else none)
    else none
    else none)
set_option maxRecDepth 100000 in
set_option maxHeartbeats 4000000 in
theorem bk_X12_waits_120 {p : Program} {l : Launch} {e : Env} {s : State} {m : MethodId} {args : Array Value} {below : List Frame} {meth : Method} {c : Code} {G : GP} {X : SM} {τ : SL} (C0 : g_mc p s m args meth c RX12 cX12_waits none 9 G) {M0 : SM} (x1 : Int32) (x3 : Int32) (x4 : Int32) (x5 : Int32) (xs0 : Int32) (M : SM) (hf : wb_X12_waits_120 x1 x3 x4 x5 xs0 M = some M0) {H : Heap} {locs : List Loc} (hP : va_P G.1 g_cl (wd G (cb X M) τ) H) (hS : va_S (g_A G) s.heap H locs) {ls : Array Slot} (hl : lv_has ls 9 [(0, .ref (G.2.1 39 0)), (1, .int x1), (3, .int x3), (4, .int x4), (5, .int x5)]) : W p l e rm_X12_waits s m args below meth c H locs 0 0 (MQ below (va_Qv (fun u => u = (X, M0, τ)) (g_pw G) (g_A G)) args s 0 0 (g_A G)) (F0 m 120 ls [.int xs0]) := by
  obtain ⟨hx, hb, hr, hml, hown, hts, hlocks, hC⟩ := id C0
  unfold wb_X12_waits_120 at hf
  refine lv_istore (lv' := [(8, .int xs0), (0, .ref (G.2.1 39 0)), (1, .int x1), (3, .int x3), (4, .int x4), (5, .int x5)]) hx hb dX12_waits_120 hl (by decide) rfl (fun ls hl => ?_)
  refine lv_iload hx hb dX12_waits_122 (lv_at hl 0 rfl) ?_
  refine lv_if_eq (tgt := 141) hx hb dX12_waits_124 (by decide) (fun hc_20 => ?_) (fun hc_20 => ?_)
  · have hf := g_pos hf hc_20
    refine lv_iload_n hx hb dX12_waits_141 rfl (lv_at hl 3 rfl) ?_
    refine lv_bipush (v := 11) hx hb dX12_waits_142 (by decide) ?_
    refine lv_icmp_ne (tgt := 165) hx hb dX12_waits_144 (by decide) (fun hc_21 => ?_) (fun hc_21 => ?_)
    · have hf := g_neg hf hc_21
      refine lv_aload_n hx hb dX12_waits_165 rfl (lv_at hl 1 rfl) ?_
      refine lv_iload_n hx hb dX12_waits_166 rfl (lv_at hl 2 rfl) ?_
      refine lv_iload hx hb dX12_waits_167 (lv_at hl 5 rfl) ?_
      refine lv_aload_n hx hb dX12_waits_169 rfl (lv_at hl 1 rfl) ?_
      refine gt_39_0 hx hb hts hown hC hP Nat.zero_lt_one q6_17 dX12_waits_170 ?_
      refine lv_sipush (v := 486) hx hb dX12_waits_173 (by decide) ?_
      refine lv_iload hx hb dX12_waits_176 (lv_at hl 4 rfl) ?_
      refine lv_iadd hx hb dX12_waits_178 ?_
      obtain ⟨hg_22, hf⟩ := g_gd hf
      refine xildM (k := 40) (n := 693) hx hb hC hP (fun _ _ => rfl) rfl Nat.zero_lt_one hg_22 dX12_waits_179 ?_
      obtain ⟨M_23, hc_24, hf⟩ := g_bindE hf
      refine x_callv (v := (X, M_23, τ)) (va_runV (As := [.int x1, .int x5, .int (M 40 0 ((486 + x4).toNatClampNeg))]) (rest := []) ⟨hx, hb, hml, hown, hts⟩ (ct_X12_gets l G X M τ x1 x5 (M 40 0 ((486 + x4).toNatClampNeg)) hc_24) (cwV 3 hts gd_X12_123 rfl rfl rfl hd_X12_gets ⟨Nat.le_of_ble_eq_true rfl, Nat.le_of_ble_eq_true rfl⟩) (x_preV (u := (X, M, τ)) (k := 39) (ci := 12) hC hS hP Nat.zero_lt_one rfl rfl) rfl rfl hl.1 rfl (lv_room (Nat.le_of_ble_eq_true rfl)) dX12_waits_180 ⟨Nat.zero_le _, Nat.zero_le _⟩) hS (fun H locs hP hS => ?_)
      cases hf
      exact x_vret hx hb hlocks hC hP hS hr dX12_waits_183
    · have hf := g_pos hf hc_21
      refine lv_aload_n hx hb dX12_waits_147 rfl (lv_at hl 1 rfl) ?_
      refine lv_iload hx hb dX12_waits_148 (lv_at hl 4 rfl) ?_
      refine lv_aload_n hx hb dX12_waits_150 rfl (lv_at hl 1 rfl) ?_
      refine lv_iload_n hx hb dX12_waits_151 rfl (lv_at hl 2 rfl) ?_
      refine lv_iload hx hb dX12_waits_152 (lv_at hl 5 rfl) ?_
      obtain ⟨r_25, hc_26, hf⟩ := g_bindE hf
      refine x_calli (v := (X, M, τ)) (va_runV (As := [.int x1, .int x5]) (rest := [.int x4, .ref (G.2.1 39 0)]) ⟨hx, hb, hml, hown, hts⟩ (ct_X12_reg l G X M τ x1 x5 hc_26) (cwV 2 hts gd_X12_139 rfl rfl rfl hd_X12_reg ⟨Nat.le_of_ble_eq_true rfl, Nat.le_of_ble_eq_true rfl⟩) (x_preV (u := (X, M, τ)) (k := 39) (ci := 12) hC hS hP Nat.zero_lt_one rfl rfl) rfl rfl hl.1 rfl (lv_room (Nat.le_of_ble_eq_true rfl)) dX12_waits_154 ⟨Nat.zero_le _, Nat.zero_le _⟩) hS (fun H locs hP hS => ?_)
      refine lv_iload hx hb dX12_waits_157 (lv_at hl 0 rfl) ?_
      obtain ⟨M_27, hc_28, hf⟩ := g_bindE hf
      refine x_callv (v := (X, M_27, τ)) (va_runV (As := [.int x4, .int r_25, .int xs0]) (rest := []) ⟨hx, hb, hml, hown, hts⟩ (ct_X12_writes l G X M τ x4 r_25 xs0 hc_28) (cwV 3 hts gd_X12_119 rfl rfl rfl hd_X12_writes ⟨Nat.le_of_ble_eq_true rfl, Nat.le_of_ble_eq_true rfl⟩) (x_preV (u := (X, M, τ)) (k := 39) (ci := 12) hC hS hP Nat.zero_lt_one rfl rfl) rfl rfl hl.1 rfl (lv_room (Nat.le_of_ble_eq_true rfl)) dX12_waits_159 ⟨Nat.zero_le _, Nat.zero_le _⟩) hS (fun H locs hP hS => ?_)
      refine lv_goto (tgt := 183) hx hb dX12_waits_162 (by decide) ?_
      cases hf
      exact x_vret hx hb hlocks hC hP hS hr dX12_waits_183
  · have hf := g_neg hf hc_20
    refine lv_aload_n hx hb dX12_waits_127 rfl (lv_at hl 1 rfl) ?_
    refine gt_39_0 hx hb hts hown hC hP Nat.zero_lt_one q6_17 dX12_waits_128 ?_
    refine lv_sipush (v := 474) hx hb dX12_waits_131 (by decide) ?_
    refine lv_iload_n hx hb dX12_waits_134 rfl (lv_at hl 2 rfl) ?_
    refine lv_iadd hx hb dX12_waits_135 ?_
    refine lv_dup2_11 hx hb dX12_waits_136 rfl rfl ?_
    obtain ⟨hg_29, hf⟩ := g_gd hf
    refine xildM (k := 40) (n := 693) hx hb hC hP (fun _ _ => rfl) rfl Nat.zero_lt_one hg_29 dX12_waits_137 ?_
    refine lv_iconst (v := 1) hx hb dX12_waits_138 (by decide) ?_
    refine lv_iadd hx hb dX12_waits_139 ?_
    obtain ⟨hg_30, hf⟩ := g_gd hf
    obtain ⟨M_31, eM_31, hf⟩ := g_letE hf
    refine xistM (k := 40) (n := 693) hx hb hC hP hS (fun _ _ => rfl) rfl Nat.zero_lt_one hg_30 dX12_waits_140 (fun H locs hP hS => ?_)
    rw [eM_31] at hP
    refine lv_iload_n hx hb dX12_waits_141 rfl (lv_at hl 3 rfl) ?_
    refine lv_bipush (v := 11) hx hb dX12_waits_142 (by decide) ?_
    refine lv_icmp_ne (tgt := 165) hx hb dX12_waits_144 (by decide) (fun hc_32 => ?_) (fun hc_32 => ?_)
    · have hf := g_neg hf hc_32
      refine lv_aload_n hx hb dX12_waits_165 rfl (lv_at hl 1 rfl) ?_
      refine lv_iload_n hx hb dX12_waits_166 rfl (lv_at hl 2 rfl) ?_
      refine lv_iload hx hb dX12_waits_167 (lv_at hl 5 rfl) ?_
      refine lv_aload_n hx hb dX12_waits_169 rfl (lv_at hl 1 rfl) ?_
      refine gt_39_0 hx hb hts hown hC hP Nat.zero_lt_one q6_17 dX12_waits_170 ?_
      refine lv_sipush (v := 486) hx hb dX12_waits_173 (by decide) ?_
      refine lv_iload hx hb dX12_waits_176 (lv_at hl 4 rfl) ?_
      refine lv_iadd hx hb dX12_waits_178 ?_
      obtain ⟨hg_33, hf⟩ := g_gd hf
      refine xildM (k := 40) (n := 693) hx hb hC hP (fun _ _ => rfl) rfl Nat.zero_lt_one hg_33 dX12_waits_179 ?_
      obtain ⟨M_34, hc_35, hf⟩ := g_bindE hf
      refine x_callv (v := (X, M_34, τ)) (va_runV (As := [.int x1, .int x5, .int (M_31 40 0 ((486 + x4).toNatClampNeg))]) (rest := []) ⟨hx, hb, hml, hown, hts⟩ (ct_X12_gets l G X M_31 τ x1 x5 (M_31 40 0 ((486 + x4).toNatClampNeg)) hc_35) (cwV 3 hts gd_X12_123 rfl rfl rfl hd_X12_gets ⟨Nat.le_of_ble_eq_true rfl, Nat.le_of_ble_eq_true rfl⟩) (x_preV (u := (X, M_31, τ)) (k := 39) (ci := 12) hC hS hP Nat.zero_lt_one rfl rfl) rfl rfl hl.1 rfl (lv_room (Nat.le_of_ble_eq_true rfl)) dX12_waits_180 ⟨Nat.zero_le _, Nat.zero_le _⟩) hS (fun H locs hP hS => ?_)
      cases hf
      exact x_vret hx hb hlocks hC hP hS hr dX12_waits_183
    · have hf := g_pos hf hc_32
      refine lv_aload_n hx hb dX12_waits_147 rfl (lv_at hl 1 rfl) ?_
      refine lv_iload hx hb dX12_waits_148 (lv_at hl 4 rfl) ?_
      refine lv_aload_n hx hb dX12_waits_150 rfl (lv_at hl 1 rfl) ?_
      refine lv_iload_n hx hb dX12_waits_151 rfl (lv_at hl 2 rfl) ?_
      refine lv_iload hx hb dX12_waits_152 (lv_at hl 5 rfl) ?_
      obtain ⟨r_36, hc_37, hf⟩ := g_bindE hf
      refine x_calli (v := (X, M_31, τ)) (va_runV (As := [.int x1, .int x5]) (rest := [.int x4, .ref (G.2.1 39 0)]) ⟨hx, hb, hml, hown, hts⟩ (ct_X12_reg l G X M_31 τ x1 x5 hc_37) (cwV 2 hts gd_X12_139 rfl rfl rfl hd_X12_reg ⟨Nat.le_of_ble_eq_true rfl, Nat.le_of_ble_eq_true rfl⟩) (x_preV (u := (X, M_31, τ)) (k := 39) (ci := 12) hC hS hP Nat.zero_lt_one rfl rfl) rfl rfl hl.1 rfl (lv_room (Nat.le_of_ble_eq_true rfl)) dX12_waits_154 ⟨Nat.zero_le _, Nat.zero_le _⟩) hS (fun H locs hP hS => ?_)
      refine lv_iload hx hb dX12_waits_157 (lv_at hl 0 rfl) ?_
      obtain ⟨M_38, hc_39, hf⟩ := g_bindE hf
      refine x_callv (v := (X, M_38, τ)) (va_runV (As := [.int x4, .int r_36, .int xs0]) (rest := []) ⟨hx, hb, hml, hown, hts⟩ (ct_X12_writes l G X M_31 τ x4 r_36 xs0 hc_39) (cwV 3 hts gd_X12_119 rfl rfl rfl hd_X12_writes ⟨Nat.le_of_ble_eq_true rfl, Nat.le_of_ble_eq_true rfl⟩) (x_preV (u := (X, M_31, τ)) (k := 39) (ci := 12) hC hS hP Nat.zero_lt_one rfl rfl) rfl rfl hl.1 rfl (lv_room (Nat.le_of_ble_eq_true rfl)) dX12_waits_159 ⟨Nat.zero_le _, Nat.zero_le _⟩) hS (fun H locs hP hS => ?_)
      refine lv_goto (tgt := 183) hx hb dX12_waits_162 (by decide) ?_
      cases hf
      exact x_vret hx hb hlocks hC hP hS hr dX12_waits_183
def wb_X12_waits_15 (x1 : Int32) (x2 : Int32) (x3 : Int32) (x4 : Int32) (x5 : Int32) (xs0 : Int32) (xs1 : Int32) (M : SM) : Option (SM) :=
  (fn_X12_reg xs1 xs0 M).bind fun r_2 =>
  if r_2 ≤ (M 40 0 683) then
  (if x3 = 14 then
    (some M)
    else
    (if (M 40 0 683) ≤ r_2 then
      (wb_X12_waits_120 x1 x3 x4 x5 0 M)
      else
      (wb_X12_waits_120 x1 x3 x4 x5 1 M)))
  else
  (if g_in (438 + x1) 693 then
    g_let (u1 M 40 0 ((438 + x1).toNatClampNeg) 1) fun M_8 =>
    if g_in (468 + x1) 693 then
    g_let (u1 M_8 40 0 ((468 + x1).toNatClampNeg) r_2) fun M_10 =>
    if g_in (480 + x1) 693 then
    g_let (u1 M_10 40 0 ((480 + x1).toNatClampNeg) x2) fun M_12 =>
    if x3 = 14 then
    (if g_in (687 + x1) 693 then
      g_let (u1 M_12 40 0 ((687 + x1).toNatClampNeg) 0) fun M_19 =>
      some M_19
      else none)
    else
    ((fn_X12_reg x1 x5 M_12).bind fun r_14 =>
      if g_in (687 + x1) 693 then
      g_let (u1 M_12 40 0 ((687 + x1).toNatClampNeg) r_14) fun M_17 =>
      some M_17
      else none)
    else none
    else none
    else none)
set_option maxRecDepth 100000 in
set_option maxHeartbeats 4000000 in
theorem bk_X12_waits_15 {p : Program} {l : Launch} {e : Env} {s : State} {m : MethodId} {args : Array Value} {below : List Frame} {meth : Method} {c : Code} {G : GP} {X : SM} {τ : SL} (C0 : g_mc p s m args meth c RX12 cX12_waits none 9 G) {M0 : SM} (x1 : Int32) (x2 : Int32) (x3 : Int32) (x4 : Int32) (x5 : Int32) (xs0 : Int32) (xs1 : Int32) (M : SM) (hf : wb_X12_waits_15 x1 x2 x3 x4 x5 xs0 xs1 M = some M0) {H : Heap} {locs : List Loc} (hP : va_P G.1 g_cl (wd G (cb X M) τ) H) (hS : va_S (g_A G) s.heap H locs) {ls : Array Slot} (hl : lv_has ls 9 [(0, .ref (G.2.1 39 0)), (1, .int x1), (2, .int x2), (3, .int x3), (4, .int x4), (5, .int x5)]) : W p l e rm_X12_waits s m args below meth c H locs 0 0 (MQ below (va_Qv (fun u => u = (X, M0, τ)) (g_pw G) (g_A G)) args s 0 0 (g_A G)) (F0 m 15 ls [.int xs0, .int xs1, .ref (G.2.1 39 0)]) := by
  obtain ⟨hx, hb, hr, hml, hown, hts, hlocks, hC⟩ := id C0
  unfold wb_X12_waits_15 at hf
  obtain ⟨r_2, hc_3, hf⟩ := g_bindE hf
  refine x_calli (v := (X, M, τ)) (va_runV (As := [.int xs1, .int xs0]) (rest := []) ⟨hx, hb, hml, hown, hts⟩ (ct_X12_reg l G X M τ xs1 xs0 hc_3) (cwV 2 hts gd_X12_139 rfl rfl rfl hd_X12_reg ⟨Nat.le_of_ble_eq_true rfl, Nat.le_of_ble_eq_true rfl⟩) (x_preV (u := (X, M, τ)) (k := 39) (ci := 12) hC hS hP Nat.zero_lt_one rfl rfl) rfl rfl hl.1 rfl (lv_room (Nat.le_of_ble_eq_true rfl)) dX12_waits_15 ⟨Nat.zero_le _, Nat.zero_le _⟩) hS (fun H locs hP hS => ?_)
  refine lv_istore (lv' := [(7, .int r_2), (0, .ref (G.2.1 39 0)), (1, .int x1), (2, .int x2), (3, .int x3), (4, .int x4), (5, .int x5)]) hx hb dX12_waits_18 hl (by decide) rfl (fun ls hl => ?_)
  refine lv_iload hx hb dX12_waits_20 (lv_at hl 0 rfl) ?_
  refine lv_aload_n hx hb dX12_waits_22 rfl (lv_at hl 1 rfl) ?_
  refine gt_39_0 hx hb hts hown hC hP Nat.zero_lt_one q6_17 dX12_waits_23 ?_
  refine lv_sipush (v := 683) hx hb dX12_waits_26 (by decide) ?_
  refine xildM (k := 40) (n := 693) hx hb hC hP (fun _ _ => rfl) rfl Nat.zero_lt_one (by decide) dX12_waits_29 ?_
  refine lv_topE (show M 40 0 (Int32.toNatClampNeg 683) = M 40 0 683 from rfl) ?_
  refine lv_icmp_le (tgt := 95) hx hb dX12_waits_30 (by decide) (fun hc_4 => ?_) (fun hc_4 => ?_)
  · have hf := g_pos hf hc_4
    refine lv_iload_n hx hb dX12_waits_95 rfl (lv_at hl 4 rfl) ?_
    refine lv_bipush (v := 14) hx hb dX12_waits_96 (by decide) ?_
    refine lv_icmp_ne (tgt := 102) hx hb dX12_waits_98 (by decide) (fun hc_5 => ?_) (fun hc_5 => ?_)
    · have hf := g_neg hf hc_5
      refine lv_iload hx hb dX12_waits_102 (lv_at hl 0 rfl) ?_
      refine lv_aload_n hx hb dX12_waits_104 rfl (lv_at hl 1 rfl) ?_
      refine gt_39_0 hx hb hts hown hC hP Nat.zero_lt_one q6_17 dX12_waits_105 ?_
      refine lv_sipush (v := 683) hx hb dX12_waits_108 (by decide) ?_
      refine xildM (k := 40) (n := 693) hx hb hC hP (fun _ _ => rfl) rfl Nat.zero_lt_one (by decide) dX12_waits_111 ?_
      refine lv_topE (show M 40 0 (Int32.toNatClampNeg 683) = M 40 0 683 from rfl) ?_
      refine lv_icmp_ge (tgt := 119) hx hb dX12_waits_112 (by decide) (fun hc_6 => ?_) (fun hc_6 => ?_)
      · have hf := g_pos hf hc_6
        refine lv_iconst (v := 0) hx hb dX12_waits_119 (by decide) ?_
        exact bk_X12_waits_120 C0 x1 x3 x4 x5 0 M hf hP hS (lv_sub hl [1, 2, 4, 5, 6] rfl)
      · have hf := g_neg hf hc_6
        refine lv_iconst (v := 1) hx hb dX12_waits_115 (by decide) ?_
        refine lv_goto (tgt := 120) hx hb dX12_waits_116 (by decide) ?_
        exact bk_X12_waits_120 C0 x1 x3 x4 x5 1 M hf hP hS (lv_sub hl [1, 2, 4, 5, 6] rfl)
    · have hf := g_pos hf hc_5
      cases hf
      exact x_vret hx hb hlocks hC hP hS hr dX12_waits_101
  · have hf := g_neg hf hc_4
    refine lv_aload_n hx hb dX12_waits_33 rfl (lv_at hl 1 rfl) ?_
    refine gt_39_0 hx hb hts hown hC hP Nat.zero_lt_one q6_17 dX12_waits_34 ?_
    refine lv_sipush (v := 438) hx hb dX12_waits_37 (by decide) ?_
    refine lv_iload_n hx hb dX12_waits_40 rfl (lv_at hl 2 rfl) ?_
    refine lv_iadd hx hb dX12_waits_41 ?_
    refine lv_iconst (v := 1) hx hb dX12_waits_42 (by decide) ?_
    obtain ⟨hg_7, hf⟩ := g_gd hf
    obtain ⟨M_8, eM_8, hf⟩ := g_letE hf
    refine xistM (k := 40) (n := 693) hx hb hC hP hS (fun _ _ => rfl) rfl Nat.zero_lt_one hg_7 dX12_waits_43 (fun H locs hP hS => ?_)
    rw [eM_8] at hP
    refine lv_aload_n hx hb dX12_waits_44 rfl (lv_at hl 1 rfl) ?_
    refine gt_39_0 hx hb hts hown hC hP Nat.zero_lt_one q6_17 dX12_waits_45 ?_
    refine lv_sipush (v := 468) hx hb dX12_waits_48 (by decide) ?_
    refine lv_iload_n hx hb dX12_waits_51 rfl (lv_at hl 2 rfl) ?_
    refine lv_iadd hx hb dX12_waits_52 ?_
    refine lv_iload hx hb dX12_waits_53 (lv_at hl 0 rfl) ?_
    obtain ⟨hg_9, hf⟩ := g_gd hf
    obtain ⟨M_10, eM_10, hf⟩ := g_letE hf
    refine xistM (k := 40) (n := 693) hx hb hC hP hS (fun _ _ => rfl) rfl Nat.zero_lt_one hg_9 dX12_waits_55 (fun H locs hP hS => ?_)
    rw [eM_10] at hP
    refine lv_aload_n hx hb dX12_waits_56 rfl (lv_at hl 1 rfl) ?_
    refine gt_39_0 hx hb hts hown hC hP Nat.zero_lt_one q6_17 dX12_waits_57 ?_
    refine lv_sipush (v := 480) hx hb dX12_waits_60 (by decide) ?_
    refine lv_iload_n hx hb dX12_waits_63 rfl (lv_at hl 2 rfl) ?_
    refine lv_iadd hx hb dX12_waits_64 ?_
    refine lv_iload_n hx hb dX12_waits_65 rfl (lv_at hl 3 rfl) ?_
    obtain ⟨hg_11, hf⟩ := g_gd hf
    obtain ⟨M_12, eM_12, hf⟩ := g_letE hf
    refine xistM (k := 40) (n := 693) hx hb hC hP hS (fun _ _ => rfl) rfl Nat.zero_lt_one hg_11 dX12_waits_66 (fun H locs hP hS => ?_)
    rw [eM_12] at hP
    refine lv_aload_n hx hb dX12_waits_67 rfl (lv_at hl 1 rfl) ?_
    refine gt_39_0 hx hb hts hown hC hP Nat.zero_lt_one q6_17 dX12_waits_68 ?_
    refine lv_sipush (v := 687) hx hb dX12_waits_71 (by decide) ?_
    refine lv_iload_n hx hb dX12_waits_74 rfl (lv_at hl 2 rfl) ?_
    refine lv_iadd hx hb dX12_waits_75 ?_
    refine lv_iload_n hx hb dX12_waits_76 rfl (lv_at hl 4 rfl) ?_
    refine lv_bipush (v := 14) hx hb dX12_waits_77 (by decide) ?_
    refine lv_icmp_ne (tgt := 86) hx hb dX12_waits_79 (by decide) (fun hc_13 => ?_) (fun hc_13 => ?_)
    · have hf := g_neg hf hc_13
      refine lv_aload_n hx hb dX12_waits_86 rfl (lv_at hl 1 rfl) ?_
      refine lv_iload_n hx hb dX12_waits_87 rfl (lv_at hl 2 rfl) ?_
      refine lv_iload hx hb dX12_waits_88 (lv_at hl 6 rfl) ?_
      obtain ⟨r_14, hc_15, hf⟩ := g_bindE hf
      refine x_calli (v := (X, M_12, τ)) (va_runV (As := [.int x1, .int x5]) (rest := [.int (687 + x1), .ref (G.2.1 40 0)]) ⟨hx, hb, hml, hown, hts⟩ (ct_X12_reg l G X M_12 τ x1 x5 hc_15) (cwV 2 hts gd_X12_139 rfl rfl rfl hd_X12_reg ⟨Nat.le_of_ble_eq_true rfl, Nat.le_of_ble_eq_true rfl⟩) (x_preV (u := (X, M_12, τ)) (k := 39) (ci := 12) hC hS hP Nat.zero_lt_one rfl rfl) rfl rfl hl.1 rfl (lv_room (Nat.le_of_ble_eq_true rfl)) dX12_waits_90 ⟨Nat.zero_le _, Nat.zero_le _⟩) hS (fun H locs hP hS => ?_)
      obtain ⟨hg_16, hf⟩ := g_gd hf
      obtain ⟨M_17, eM_17, hf⟩ := g_letE hf
      refine xistM (k := 40) (n := 693) hx hb hC hP hS (fun _ _ => rfl) rfl Nat.zero_lt_one hg_16 dX12_waits_93 (fun H locs hP hS => ?_)
      rw [eM_17] at hP
      cases hf
      exact x_vret hx hb hlocks hC hP hS hr dX12_waits_94
    · have hf := g_pos hf hc_13
      refine lv_iconst (v := 0) hx hb dX12_waits_82 (by decide) ?_
      refine lv_goto (tgt := 93) hx hb dX12_waits_83 (by decide) ?_
      obtain ⟨hg_18, hf⟩ := g_gd hf
      obtain ⟨M_19, eM_19, hf⟩ := g_letE hf
      refine xistM (k := 40) (n := 693) hx hb hC hP hS (fun _ _ => rfl) rfl Nat.zero_lt_one hg_18 dX12_waits_93 (fun H locs hP hS => ?_)
      rw [eM_19] at hP
      cases hf
      exact x_vret hx hb hlocks hC hP hS hr dX12_waits_94
def fn_X12_waits (x1 : Int32) (x2 : Int32) (x3 : Int32) (x4 : Int32) (x5 : Int32) (x6 : Int32) (M : SM) : Option (SM) :=
  if x3 = 14 then
  (wb_X12_waits_15 x1 x2 x3 x4 x5 x4 x1 M)
  else
  (wb_X12_waits_15 x1 x2 x3 x4 x5 x6 x1 M)
set_option maxRecDepth 100000 in
set_option maxHeartbeats 4000000 in
theorem wk_X12_waits {p : Program} {l : Launch} {e : Env} {s : State} {m : MethodId} {args : Array Value} {below : List Frame} {meth : Method} {c : Code} {G : GP} {X : SM} {τ : SL} (C0 : g_mc p s m args meth c RX12 cX12_waits none 9 G) {M0 : SM} (x1 : Int32) (x2 : Int32) (x3 : Int32) (x4 : Int32) (x5 : Int32) (x6 : Int32) (M : SM) (hf : fn_X12_waits x1 x2 x3 x4 x5 x6 M = some M0) {H : Heap} {locs : List Loc} (hP : va_P G.1 g_cl (wd G (cb X M) τ) H) (hS : va_S (g_A G) s.heap H locs) {ls : Array Slot} (hl : lv_has ls 9 [(0, .ref (G.2.1 39 0)), (1, .int x1), (2, .int x2), (3, .int x3), (4, .int x4), (5, .int x5), (6, .int x6)]) : W p l e rm_X12_waits s m args below meth c H locs 0 0 (MQ below (va_Qv (fun u => u = (X, M0, τ)) (g_pw G) (g_A G)) args s 0 0 (g_A G)) (F0 m 0 ls []) := by
  obtain ⟨hx, hb, hr, hml, hown, hts, hlocks, hC⟩ := id C0
  unfold fn_X12_waits at hf
  refine lv_aload_n hx hb dX12_waits_0 rfl (lv_at hl 0 rfl) ?_
  refine lv_iload_n hx hb dX12_waits_1 rfl (lv_at hl 1 rfl) ?_
  refine lv_iload_n hx hb dX12_waits_2 rfl (lv_at hl 3 rfl) ?_
  refine lv_bipush (v := 14) hx hb dX12_waits_3 (by decide) ?_
  refine lv_icmp_ne (tgt := 13) hx hb dX12_waits_5 (by decide) (fun hc_1 => ?_) (fun hc_1 => ?_)
  · have hf := g_neg hf hc_1
    refine lv_iload hx hb dX12_waits_13 (lv_at hl 6 rfl) ?_
    exact bk_X12_waits_15 C0 x1 x2 x3 x4 x5 x6 x1 M hf hP hS (lv_sub hl [0, 1, 2, 3, 4, 5] rfl)
  · have hf := g_pos hf hc_1
    refine lv_iload hx hb dX12_waits_8 (lv_at hl 4 rfl) ?_
    refine lv_goto (tgt := 15) hx hb dX12_waits_10 (by decide) ?_
    exact bk_X12_waits_15 C0 x1 x2 x3 x4 x5 x4 x1 M hf hP hS (lv_sub hl [0, 1, 2, 3, 4, 5] rfl)
set_option maxRecDepth 100000 in
set_option maxHeartbeats 4000000 in
theorem ct_X12_waits (l : Launch) (G : GP) (X M : SM) (τ : SL) (x1 : Int32) (x2 : Int32) (x3 : Int32) (x4 : Int32) (x5 : Int32) (x6 : Int32) {M0 : SM} (hf : fn_X12_waits x1 x2 x3 x4 x5 x6 M = some M0) : Met l yX12_waits (wz yX12_waits cX12_waits 9 none) rm_X12_waits (va_Pc [.ref (G.2.1 39 0), .int x1, .int x2, .int x3, .int x4, .int x5, .int x6] (g_pw G (X, M, τ))) (va_Qv (fun u => u = (X, M0, τ)) (g_pw G) (g_A G)) 0 0 (g_A G) := by
  refine Met.ofW (cc := cX12_waits) (maxL := 9) (ret := none) (by decide +kernel) rfl ?_
  intro p e s m args below meth c s₁ B hml hv
  obtain ⟨rfl, hC, hP⟩ := hv
  have C0 : g_mc p s m _ meth c RX12 cX12_waits none 9 G := ⟨B.exec, B.bytes, B.returns, hml, findClass_of_methodNamed B.named, fun w h => atoms_spec (ws := wz yX12_waits cX12_waits 9 none) B.pre w (List.mem_cons_of_mem _ h), B.notSynchronized, hC⟩
  have hl := lv_entry ([.ref (G.2.1 39 0), .int x1, .int x2, .int x3, .int x4, .int x5, .int x6]) (n := 9) (Nat.le_of_ble_eq_true rfl)
  rw [lg_entry_eq]
  generalize (lg_sl ([.ref (G.2.1 39 0), .int x1, .int x2, .int x3, .int x4, .int x5, .int x6]) ++ List.replicate (9 - (lg_sl ([.ref (G.2.1 39 0), .int x1, .int x2, .int x3, .int x4, .int x5, .int x6])).length) Slot.unset).toArray = ls at hl ⊢
  exact wk_X12_waits C0  x1 x2 x3 x4 x5 x6 M hf hP va_S.rf hl
