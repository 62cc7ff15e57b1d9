abbrev rm_X12_held : Room := { frames := 0, cells := 0, slots := 0, locals := 0 }
def fn_X12_held (x0 : Int64) : Int64 :=
  if (lg_cmp x0 999999) ≤ 0 then
  (x0)
  else
  (999999)
set_option maxRecDepth 100000 in
set_option maxHeartbeats 4000000 in
theorem wk_X12_held {p : Program} {l : Launch} {e : Env} {s : State} {m : MethodId} {args : Array Value} {below : List Frame} {meth : Method} {c : Code} {G : GP} {X : SM} {M : SM} {τ : SL} (C0 : g_mc p s m args meth c RX12 cX12_held (some .long) 2 G) {r0 : Int64} (x0 : Int64) (hf : fn_X12_held x0 = r0) {H : Heap} {locs : List Loc} (hP : va_P G.1 g_cl (wd G (cb X M) τ) H) (hS : va_S (g_A G) s.heap H locs) {ls : Array Slot} (hl : lv_has ls 2 [(0, .long x0)]) : W p l e rm_X12_held s m args below meth c H locs 0 0 (MQ below (va_Ql (fun r u => r = r0 ∧ u = (X, M, τ)) (g_pw G) (g_A G)) args s 0 0 (g_A G)) (F0 m 0 ls []) := by
  obtain ⟨hx, hb, hr, hml, hown, hts, hlocks, hC⟩ := id C0
  unfold fn_X12_held at hf
  refine lv_lload_n hx hb dX12_held_0 rfl (lv_at hl 0 rfl) ?_
  refine lv_ldc2 (v := 999999) hx hb hown (hts _ q39_19) dX12_held_1 ?_
  refine W.lcmp hx hb dX12_held_4 ?_
  refine lv_if_le (tgt := 14) hx hb dX12_held_5 (by decide) (fun hc_1 => ?_) (fun hc_1 => ?_)
  · have hf := g_pos hf hc_1
    refine lv_lload_n hx hb dX12_held_14 rfl (lv_at hl 0 rfl) ?_
    cases hf
    exact x_lret hx hb hlocks hC hP hS hr dX12_held_15
  · have hf := g_neg hf hc_1
    refine lv_ldc2 (v := 999999) hx hb hown (hts _ q39_19) dX12_held_8 ?_
    refine lv_goto (tgt := 15) hx hb dX12_held_11 (by decide) ?_
    cases hf
    exact x_lret hx hb hlocks hC hP hS hr dX12_held_15
set_option maxRecDepth 100000 in
set_option maxHeartbeats 4000000 in
theorem ct_X12_held (l : Launch) (G : GP) (X M : SM) (τ : SL) (x0 : Int64) {r0 : Int64} (hf : fn_X12_held x0 = r0) : Met l yX12_held (wz yX12_held cX12_held 2 (some .long)) rm_X12_held (va_Pc [.long x0] (g_pw G (X, M, τ))) (va_Ql (fun r u => r = r0 ∧ u = (X, M, τ)) (g_pw G) (g_A G)) 0 0 (g_A G) := by
  refine Met.ofW (cc := cX12_held) (maxL := 2) (ret := (some .long)) (by decide) rfl ?_
  intro p e s m args below meth c s₁ B hml hv
  obtain ⟨rfl, hC, hP⟩ := hv
  have C0 : g_mc p s m _ meth c RX12 cX12_held (some .long) 2 G := ⟨B.exec, B.bytes, B.returns, hml, findClass_of_methodNamed B.named, fun w h => atoms_spec (ws := wz yX12_held cX12_held 2 (some .long)) B.pre w (List.mem_cons_of_mem _ h), B.notSynchronized, hC⟩
  have hl := lv_entry ([.long x0]) (n := 2) (Nat.le_of_ble_eq_true rfl)
  rw [lg_entry_eq]
  generalize (lg_sl ([.long x0]) ++ List.replicate (2 - (lg_sl ([.long x0])).length) Slot.unset).toArray = ls at hl ⊢
  exact wk_X12_held C0 x0 hf hP va_S.rf hl
abbrev rm_X12_ticksFrom : Room := { frames := 0, cells := 0, slots := 0, locals := 0 }
def wb_X12_ticksFrom_55 (k55 : Int32 → Int32 → Int32 → Int32 → Int32 → SM → Option (Int32)) (x1 : Int32) (x2 : Int32) (x5 : Int32) (x6 : Int32) (x7 : Int32) (M : SM) : Option (Int32) :=
  if x6 ≤ 0 then
  (some ((x5 * (M 39 0 12)) + x7))
  else
  (if ¬ (M 39 0 12) = 0 then
    if g_in ((x1 + x7) - (x1 + x7) / (M 39 0 12) * (M 39 0 12)) 16 then
    if (M 50 0 (((x1 + x7) - (x1 + x7) / (M 39 0 12) * (M 39 0 12)).toNatClampNeg)) = x2 then
    (g_let (x6 + (-1)) fun x6_15 =>
      g_let (x7 + 1) fun x7_16 =>
      k55 x1 x2 x5 x6_15 x7_16 M)
    else
    (g_let (x7 + 1) fun x7_14 =>
      k55 x1 x2 x5 x6 x7_14 M)
    else none
    else none)
set_option maxRecDepth 100000 in
set_option maxHeartbeats 4000000 in
theorem bk_X12_ticksFrom_55 {p : Program} {l : Launch} {e : Env} {s : State} {m : MethodId} {args : Array Value} {below : List Frame} {meth : Method} {c : Code} {G : GP} {X : SM} {τ : SL} (C0 : g_mc p s m args meth c RX12 cX12_ticksFrom (some .int) 8 G) {r0 : Int32} (k55 : Int32 → Int32 → Int32 → Int32 → Int32 → SM → Option (Int32)) (hk55 : ∀ (x1 : Int32) (x2 : Int32) (x5 : Int32) (x6 : Int32) (x7 : Int32) (M : SM), k55 x1 x2 x5 x6 x7 M = some r0 → ∀ {H : Heap} {locs : List Loc}, va_P G.1 g_cl (wd G (cb X M) τ) H → va_S (g_A G) s.heap H locs → ∀ {ls : Array Slot}, lv_has ls 8 [(0, .ref (G.2.1 39 0)), (1, .int x1), (2, .int x2), (5, .int x5), (6, .int x6), (7, .int x7)] → W p l e rm_X12_ticksFrom s m args below meth c H locs 0 0 (MQ below (va_Qi (fun r u => r = r0 ∧ u = (X, M, τ)) (g_pw G) (g_A G)) args s 0 0 (g_A G)) (F0 m 55 ls [])) (x1 : Int32) (x2 : Int32) (x5 : Int32) (x6 : Int32) (x7 : Int32) (M : SM) (hf : wb_X12_ticksFrom_55 k55 x1 x2 x5 x6 x7 M = some r0) {H : Heap} {locs : List Loc} (hP : va_P G.1 g_cl (wd G (cb X M) τ) H) (hS : va_S (g_A G) s.heap H locs) {ls : Array Slot} (hl : lv_has ls 8 [(0, .ref (G.2.1 39 0)), (1, .int x1), (2, .int x2), (5, .int x5), (6, .int x6), (7, .int x7)]) : W p l e rm_X12_ticksFrom s m args below meth c H locs 0 0 (MQ below (va_Qi (fun r u => r = r0 ∧ u = (X, M, τ)) (g_pw G) (g_A G)) args s 0 0 (g_A G)) (F0 m 55 ls []) := by
  obtain ⟨hx, hb, hr, hml, hown, hts, hlocks, hC⟩ := id C0
  unfold wb_X12_ticksFrom_55 at hf
  refine lv_iload hx hb dX12_ticksFrom_55 (lv_at hl 4 rfl) ?_
  refine lv_if_le (tgt := 87) hx hb dX12_ticksFrom_57 (by decide) (fun hc_10 => ?_) (fun hc_10 => ?_)
  · have hf := g_pos hf hc_10
    refine lv_iload hx hb dX12_ticksFrom_87 (lv_at hl 3 rfl) ?_
    refine lv_aload_n hx hb dX12_ticksFrom_89 rfl (lv_at hl 0 rfl) ?_
    refine gt_39_12 hx hb hts hown hC hP Nat.zero_lt_one q7_5 dX12_ticksFrom_90 ?_
    refine lv_imul hx hb dX12_ticksFrom_93 ?_
    refine lv_iload hx hb dX12_ticksFrom_94 (lv_at hl 5 rfl) ?_
    refine lv_iadd hx hb dX12_ticksFrom_96 ?_
    cases hf
    exact x_iret hx hb hlocks hC hP hS hr dX12_ticksFrom_97
  · have hf := g_neg hf hc_10
    refine lv_aload_n hx hb dX12_ticksFrom_60 rfl (lv_at hl 0 rfl) ?_
    refine gt_39_11 hx hb hts hown hC hP Nat.zero_lt_one q7_4 dX12_ticksFrom_61 ?_
    refine lv_iload_n hx hb dX12_ticksFrom_64 rfl (lv_at hl 1 rfl) ?_
    refine lv_iload hx hb dX12_ticksFrom_65 (lv_at hl 5 rfl) ?_
    refine lv_iadd hx hb dX12_ticksFrom_67 ?_
    refine lv_aload_n hx hb dX12_ticksFrom_68 rfl (lv_at hl 0 rfl) ?_
    refine gt_39_12 hx hb hts hown hC hP Nat.zero_lt_one q7_5 dX12_ticksFrom_69 ?_
    obtain ⟨hg_11, hf⟩ := g_gd hf
    refine lv_irem hx hb dX12_ticksFrom_72 hg_11 ?_
    obtain ⟨hg_12, hf⟩ := g_gd hf
    refine xildM (k := 50) (n := 16) hx hb hC hP (fun _ _ => rfl) rfl Nat.zero_lt_one hg_12 dX12_ticksFrom_73 ?_
    refine lv_iload_n hx hb dX12_ticksFrom_74 rfl (lv_at hl 2 rfl) ?_
    refine lv_icmp_ne (tgt := 81) hx hb dX12_ticksFrom_75 (by decide) (fun hc_13 => ?_) (fun hc_13 => ?_)
    · have hf := g_neg hf hc_13
      obtain ⟨x7_14, ex7_14, hf⟩ := g_letE hf
      refine lv_iinc (v := x7_14) (lv' := [(7, .int x7_14), (0, .ref (G.2.1 39 0)), (1, .int x1), (2, .int x2), (5, .int x5), (6, .int x6)]) hx hb dX12_ticksFrom_81 hl (k := 5) rfl (by rw [← ex7_14]; rfl) (by decide) rfl (fun ls hl => ?_)
      refine lv_goto (tgt := 55) hx hb dX12_ticksFrom_84 (by decide) ?_
      exact hk55 x1 x2 x5 x6 x7_14 M hf hP hS (lv_sub hl [1, 2, 3, 4, 5, 0] rfl)
    · have hf := g_pos hf hc_13
      obtain ⟨x6_15, ex6_15, hf⟩ := g_letE hf
      refine lv_iinc (v := x6_15) (lv' := [(6, .int x6_15), (0, .ref (G.2.1 39 0)), (1, .int x1), (2, .int x2), (5, .int x5), (7, .int x7)]) hx hb dX12_ticksFrom_78 hl (k := 4) rfl (by rw [← ex6_15]; rfl) (by decide) rfl (fun ls hl => ?_)
      obtain ⟨x7_16, ex7_16, hf⟩ := g_letE hf
      refine lv_iinc (v := x7_16) (lv' := [(7, .int x7_16), (6, .int x6_15), (0, .ref (G.2.1 39 0)), (1, .int x1), (2, .int x2), (5, .int x5)]) hx hb dX12_ticksFrom_81 hl (k := 5) rfl (by rw [← ex7_16]; rfl) (by decide) rfl (fun ls hl => ?_)
      refine lv_goto (tgt := 55) hx hb dX12_ticksFrom_84 (by decide) ?_
      exact hk55 x1 x2 x5 x6_15 x7_16 M hf hP hS (lv_sub hl [2, 3, 4, 5, 1, 0] rfl)
def wl_X12_ticksFrom_55 (n : Nat) (x1 : Int32) (x2 : Int32) (x5 : Int32) (x6 : Int32) (x7 : Int32) (M : SM) : Option (Int32) := g_loop (α := Int32 × Int32 × Int32 × Int32 × Int32 × SM) (fun k a => wb_X12_ticksFrom_55 (fun x1 x2 x5 x6 x7 M => k (x1, x2, x5, x6, x7, M)) a.1 a.2.1 a.2.2.1 a.2.2.2.1 a.2.2.2.2.1 a.2.2.2.2.2) n (x1, x2, x5, x6, x7, M)
set_option maxRecDepth 100000 in
set_option maxHeartbeats 4000000 in
theorem lp_X12_ticksFrom_55 {p : Program} {l : Launch} {e : Env} {s : State} {m : MethodId} {args : Array Value} {below : List Frame} {meth : Method} {c : Code} {G : GP} {X : SM} {τ : SL} (C0 : g_mc p s m args meth c RX12 cX12_ticksFrom (some .int) 8 G) {r0 : Int32} (n : Nat) : ∀ (x1 : Int32) (x2 : Int32) (x5 : Int32) (x6 : Int32) (x7 : Int32) (M : SM), wl_X12_ticksFrom_55 n x1 x2 x5 x6 x7 M = some r0 → ∀ {H : Heap} {locs : List Loc}, va_P G.1 g_cl (wd G (cb X M) τ) H → va_S (g_A G) s.heap H locs → ∀ {ls : Array Slot}, lv_has ls 8 [(0, .ref (G.2.1 39 0)), (1, .int x1), (2, .int x2), (5, .int x5), (6, .int x6), (7, .int x7)] → W p l e rm_X12_ticksFrom s m args below meth c H locs 0 0 (MQ below (va_Qi (fun r u => r = r0 ∧ u = (X, M, τ)) (g_pw G) (g_A G)) args s 0 0 (g_A G)) (F0 m 55 ls []) := by
  induction n with
  | zero =>
    intro x1 x2 x5 x6 x7 M hf
    have hf : (none : Option (Int32)) = _ := hf
    cases hf
  | succ n ih =>
    intro x1 x2 x5 x6 x7 M hf H locs hP hS ls hl
    exact bk_X12_ticksFrom_55 C0  (fun x1 x2 x5 x6 x7 M => wl_X12_ticksFrom_55  n x1 x2 x5 x6 x7 M) ih x1 x2 x5 x6 x7 M hf hP hS hl
def wb_X12_ticksFrom_6 (k6 : Int32 → Int32 → Int32 → Int32 → Int32 → SM → Option (Int32)) (x1 : Int32) (x2 : Int32) (x3 : Int32) (x4 : Int32) (x5 : Int32) (M : SM) : Option (Int32) :=
  if (M 39 0 12) ≤ x5 then
  (if ¬ x4 = 0 then
    g_let (((x3 - 1) / x4)) fun x5_3 =>
    g_let ((x3 - (x5_3 * x4))) fun x6_4 =>
    wl_X12_ticksFrom_55 1000 x1 x2 x5_3 x6_4 0 M
    else none)
  else
  (if g_in x5 16 then
    if (M 50 0 (x5.toNatClampNeg)) = x2 then
    (g_let (x4 + 1) fun x4_8 =>
      g_let (x5 + 1) fun x5_9 =>
      k6 x1 x2 x3 x4_8 x5_9 M)
    else
    (g_let (x5 + 1) fun x5_7 =>
      k6 x1 x2 x3 x4 x5_7 M)
    else none)
set_option maxRecDepth 100000 in
set_option maxHeartbeats 4000000 in
theorem bk_X12_ticksFrom_6 {p : Program} {l : Launch} {e : Env} {s : State} {m : MethodId} {args : Array Value} {below : List Frame} {meth : Method} {c : Code} {G : GP} {X : SM} {τ : SL} (C0 : g_mc p s m args meth c RX12 cX12_ticksFrom (some .int) 8 G) {r0 : Int32} (k6 : Int32 → Int32 → Int32 → Int32 → Int32 → SM → Option (Int32)) (hk6 : ∀ (x1 : Int32) (x2 : Int32) (x3 : Int32) (x4 : Int32) (x5 : Int32) (M : SM), k6 x1 x2 x3 x4 x5 M = some r0 → ∀ {H : Heap} {locs : List Loc}, va_P G.1 g_cl (wd G (cb X M) τ) H → va_S (g_A G) s.heap H locs → ∀ {ls : Array Slot}, lv_has ls 8 [(0, .ref (G.2.1 39 0)), (1, .int x1), (2, .int x2), (3, .int x3), (4, .int x4), (5, .int x5)] → W p l e rm_X12_ticksFrom s m args below meth c H locs 0 0 (MQ below (va_Qi (fun r u => r = r0 ∧ u = (X, M, τ)) (g_pw G) (g_A G)) args s 0 0 (g_A G)) (F0 m 6 ls [])) (x1 : Int32) (x2 : Int32) (x3 : Int32) (x4 : Int32) (x5 : Int32) (M : SM) (hf : wb_X12_ticksFrom_6 k6 x1 x2 x3 x4 x5 M = some r0) {H : Heap} {locs : List Loc} (hP : va_P G.1 g_cl (wd G (cb X M) τ) H) (hS : va_S (g_A G) s.heap H locs) {ls : Array Slot} (hl : lv_has ls 8 [(0, .ref (G.2.1 39 0)), (1, .int x1), (2, .int x2), (3, .int x3), (4, .int x4), (5, .int x5)]) : W p l e rm_X12_ticksFrom s m args below meth c H locs 0 0 (MQ below (va_Qi (fun r u => r = r0 ∧ u = (X, M, τ)) (g_pw G) (g_A G)) args s 0 0 (g_A G)) (F0 m 6 ls []) := by
  obtain ⟨hx, hb, hr, hml, hown, hts, hlocks, hC⟩ := id C0
  unfold wb_X12_ticksFrom_6 at hf
  refine lv_iload hx hb dX12_ticksFrom_6 (lv_at hl 5 rfl) ?_
  refine lv_aload_n hx hb dX12_ticksFrom_8 rfl (lv_at hl 0 rfl) ?_
  refine gt_39_12 hx hb hts hown hC hP Nat.zero_lt_one q7_5 dX12_ticksFrom_9 ?_
  refine lv_icmp_ge (tgt := 35) hx hb dX12_ticksFrom_12 (by decide) (fun hc_1 => ?_) (fun hc_1 => ?_)
  · have hf := g_pos hf hc_1
    refine lv_iload_n hx hb dX12_ticksFrom_35 rfl (lv_at hl 3 rfl) ?_
    refine lv_iconst (v := 1) hx hb dX12_ticksFrom_36 (by decide) ?_
    refine lv_isub hx hb dX12_ticksFrom_37 ?_
    refine lv_iload hx hb dX12_ticksFrom_38 (lv_at hl 4 rfl) ?_
    obtain ⟨hg_2, hf⟩ := g_gd hf
    refine lv_idiv hx hb dX12_ticksFrom_40 hg_2 ?_
    obtain ⟨x5_3, ex5_3, hf⟩ := g_letE hf
    refine lv_topE ex5_3 ?_
    refine lv_istore (lv' := [(5, .int x5_3), (0, .ref (G.2.1 39 0)), (1, .int x1), (2, .int x2), (3, .int x3), (4, .int x4)]) hx hb dX12_ticksFrom_41 hl (by decide) rfl (fun ls hl => ?_)
    refine lv_iload_n hx hb dX12_ticksFrom_43 rfl (lv_at hl 4 rfl) ?_
    refine lv_iload hx hb dX12_ticksFrom_44 (lv_at hl 0 rfl) ?_
    refine lv_iload hx hb dX12_ticksFrom_46 (lv_at hl 5 rfl) ?_
    refine lv_imul hx hb dX12_ticksFrom_48 ?_
    refine lv_isub hx hb dX12_ticksFrom_49 ?_
    obtain ⟨x6_4, ex6_4, hf⟩ := g_letE hf
    refine lv_topE ex6_4 ?_
    refine lv_istore (lv' := [(6, .int x6_4), (5, .int x5_3), (0, .ref (G.2.1 39 0)), (1, .int x1), (2, .int x2), (3, .int x3), (4, .int x4)]) hx hb dX12_ticksFrom_50 hl (by decide) rfl (fun ls hl => ?_)
    refine lv_iconst (v := 0) hx hb dX12_ticksFrom_52 (by decide) ?_
    refine lv_istore (lv' := [(7, .int 0), (6, .int x6_4), (5, .int x5_3), (0, .ref (G.2.1 39 0)), (1, .int x1), (2, .int x2), (3, .int x3), (4, .int x4)]) hx hb dX12_ticksFrom_53 hl (by decide) rfl (fun ls hl => ?_)
    exact lp_X12_ticksFrom_55 C0 1000 x1 x2 x5_3 x6_4 0 M hf hP hS (lv_sub hl [3, 4, 5, 2, 1, 0] rfl)
  · have hf := g_neg hf hc_1
    refine lv_aload_n hx hb dX12_ticksFrom_15 rfl (lv_at hl 0 rfl) ?_
    refine gt_39_11 hx hb hts hown hC hP Nat.zero_lt_one q7_4 dX12_ticksFrom_16 ?_
    refine lv_iload hx hb dX12_ticksFrom_19 (lv_at hl 5 rfl) ?_
    obtain ⟨hg_5, hf⟩ := g_gd hf
    refine xildM (k := 50) (n := 16) hx hb hC hP (fun _ _ => rfl) rfl Nat.zero_lt_one hg_5 dX12_ticksFrom_21 ?_
    refine lv_iload_n hx hb dX12_ticksFrom_22 rfl (lv_at hl 2 rfl) ?_
    refine lv_icmp_ne (tgt := 29) hx hb dX12_ticksFrom_23 (by decide) (fun hc_6 => ?_) (fun hc_6 => ?_)
    · have hf := g_neg hf hc_6
      obtain ⟨x5_7, ex5_7, hf⟩ := g_letE hf
      refine lv_iinc (v := x5_7) (lv' := [(5, .int x5_7), (0, .ref (G.2.1 39 0)), (1, .int x1), (2, .int x2), (3, .int x3), (4, .int x4)]) hx hb dX12_ticksFrom_29 hl (k := 5) rfl (by rw [← ex5_7]; rfl) (by decide) rfl (fun ls hl => ?_)
      refine lv_goto (tgt := 6) hx hb dX12_ticksFrom_32 (by decide) ?_
      exact hk6 x1 x2 x3 x4 x5_7 M hf hP hS (lv_sub hl [1, 2, 3, 4, 5, 0] rfl)
    · have hf := g_pos hf hc_6
      obtain ⟨x4_8, ex4_8, hf⟩ := g_letE hf
      refine lv_iinc (v := x4_8) (lv' := [(4, .int x4_8), (0, .ref (G.2.1 39 0)), (1, .int x1), (2, .int x2), (3, .int x3), (5, .int x5)]) hx hb dX12_ticksFrom_26 hl (k := 4) rfl (by rw [← ex4_8]; rfl) (by decide) rfl (fun ls hl => ?_)
      obtain ⟨x5_9, ex5_9, hf⟩ := g_letE hf
      refine lv_iinc (v := x5_9) (lv' := [(5, .int x5_9), (4, .int x4_8), (0, .ref (G.2.1 39 0)), (1, .int x1), (2, .int x2), (3, .int x3)]) hx hb dX12_ticksFrom_29 hl (k := 5) rfl (by rw [← ex5_9]; rfl) (by decide) rfl (fun ls hl => ?_)
      refine lv_goto (tgt := 6) hx hb dX12_ticksFrom_32 (by decide) ?_
      exact hk6 x1 x2 x3 x4_8 x5_9 M hf hP hS (lv_sub hl [2, 3, 4, 5, 1, 0] rfl)
def wl_X12_ticksFrom_6 (n : Nat) (x1 : Int32) (x2 : Int32) (x3 : Int32) (x4 : Int32) (x5 : Int32) (M : SM) : Option (Int32) := g_loop (α := Int32 × Int32 × Int32 × Int32 × Int32 × SM) (fun k a => wb_X12_ticksFrom_6 (fun x1 x2 x3 x4 x5 M => k (x1, x2, x3, x4, x5, M)) a.1 a.2.1 a.2.2.1 a.2.2.2.1 a.2.2.2.2.1 a.2.2.2.2.2) n (x1, x2, x3, x4, x5, M)
set_option maxRecDepth 100000 in
set_option maxHeartbeats 4000000 in
theorem lp_X12_ticksFrom_6 {p : Program} {l : Launch} {e : Env} {s : State} {m : MethodId} {args : Array Value} {below : List Frame} {meth : Method} {c : Code} {G : GP} {X : SM} {τ : SL} (C0 : g_mc p s m args meth c RX12 cX12_ticksFrom (some .int) 8 G) {r0 : Int32} (n : Nat) : ∀ (x1 : Int32) (x2 : Int32) (x3 : Int32) (x4 : Int32) (x5 : Int32) (M : SM), wl_X12_ticksFrom_6 n x1 x2 x3 x4 x5 M = some r0 → ∀ {H : Heap} {locs : List Loc}, va_P G.1 g_cl (wd G (cb X M) τ) H → va_S (g_A G) s.heap H locs → ∀ {ls : Array Slot}, lv_has ls 8 [(0, .ref (G.2.1 39 0)), (1, .int x1), (2, .int x2), (3, .int x3), (4, .int x4), (5, .int x5)] → W p l e rm_X12_ticksFrom s m args below meth c H locs 0 0 (MQ below (va_Qi (fun r u => r = r0 ∧ u = (X, M, τ)) (g_pw G) (g_A G)) args s 0 0 (g_A G)) (F0 m 6 ls []) := by
  induction n with
  | zero =>
    intro x1 x2 x3 x4 x5 M hf
    have hf : (none : Option (Int32)) = _ := hf
    cases hf
  | succ n ih =>
    intro x1 x2 x3 x4 x5 M hf H locs hP hS ls hl
    exact bk_X12_ticksFrom_6 C0  (fun x1 x2 x3 x4 x5 M => wl_X12_ticksFrom_6  n x1 x2 x3 x4 x5 M) ih x1 x2 x3 x4 x5 M hf hP hS hl
def fn_X12_ticksFrom (x1 : Int32) (x2 : Int32) (x3 : Int32) (M : SM) : Option (Int32) :=
  wl_X12_ticksFrom_6 1000 x1 x2 x3 0 0 M
set_option maxRecDepth 100000 in
set_option maxHeartbeats 4000000 in
theorem wk_X12_ticksFrom {p : Program} {l : Launch} {e : Env} {s : State} {m : MethodId} {args : Array Value} {below : List Frame} {meth : Method} {c : Code} {G : GP} {X : SM} {τ : SL} (C0 : g_mc p s m args meth c RX12 cX12_ticksFrom (some .int) 8 G) {r0 : Int32} (x1 : Int32) (x2 : Int32) (x3 : Int32) (M : SM) (hf : fn_X12_ticksFrom x1 x2 x3 M = some r0) {H : Heap} {locs : List Loc} (hP : va_P G.1 g_cl (wd G (cb X M) τ) H) (hS : va_S (g_A G) s.heap H locs) {ls : Array Slot} (hl : lv_has ls 8 [(0, .ref (G.2.1 39 0)), (1, .int x1), (2, .int x2), (3, .int x3)]) : W p l e rm_X12_ticksFrom s m args below meth c H locs 0 0 (MQ below (va_Qi (fun r u => r = r0 ∧ u = (X, M, τ)) (g_pw G) (g_A G)) args s 0 0 (g_A G)) (F0 m 0 ls []) := by
  obtain ⟨hx, hb, hr, hml, hown, hts, hlocks, hC⟩ := id C0
  unfold fn_X12_ticksFrom at hf
  refine lv_iconst (v := 0) hx hb dX12_ticksFrom_0 (by decide) ?_
  refine lv_istore (lv' := [(4, .int 0), (0, .ref (G.2.1 39 0)), (1, .int x1), (2, .int x2), (3, .int x3)]) hx hb dX12_ticksFrom_1 hl (by decide) rfl (fun ls hl => ?_)
  refine lv_iconst (v := 0) hx hb dX12_ticksFrom_3 (by decide) ?_
  refine lv_istore (lv' := [(5, .int 0), (4, .int 0), (0, .ref (G.2.1 39 0)), (1, .int x1), (2, .int x2), (3, .int x3)]) hx hb dX12_ticksFrom_4 hl (by decide) rfl (fun ls hl => ?_)
  exact lp_X12_ticksFrom_6 C0 1000 x1 x2 x3 0 0 M hf hP hS (lv_sub hl [2, 3, 4, 5, 1, 0] rfl)
set_option maxRecDepth 100000 in
set_option maxHeartbeats 4000000 in
theorem ct_X12_ticksFrom (l : Launch) (G : GP) (X M : SM) (τ : SL) (x1 : Int32) (x2 : Int32) (x3 : Int32) {r0 : Int32} (hf : fn_X12_ticksFrom x1 x2 x3 M = some r0) : Met l yX12_ticksFrom (wz yX12_ticksFrom cX12_ticksFrom 8 (some .int)) rm_X12_ticksFrom (va_Pc [.ref (G.2.1 39 0), .int x1, .int x2, .int x3] (g_pw G (X, M, τ))) (va_Qi (fun r u => r = r0 ∧ u = (X, M, τ)) (g_pw G) (g_A G)) 0 0 (g_A G) := by
  refine Met.ofW (cc := cX12_ticksFrom) (maxL := 8) (ret := (some .int)) (by decide) rfl ?_
  intro p e s m args below meth c s₁ B hml hv
  obtain ⟨rfl, hC, hP⟩ := hv
  have C0 : g_mc p s m _ meth c RX12 cX12_ticksFrom (some .int) 8 G := ⟨B.exec, B.bytes, B.returns, hml, findClass_of_methodNamed B.named, fun w h => atoms_spec (ws := wz yX12_ticksFrom cX12_ticksFrom 8 (some .int)) B.pre w (List.mem_cons_of_mem _ h), B.notSynchronized, hC⟩
  have hl := lv_entry ([.ref (G.2.1 39 0), .int x1, .int x2, .int x3]) (n := 8) (Nat.le_of_ble_eq_true rfl)
  rw [lg_entry_eq]
  generalize (lg_sl ([.ref (G.2.1 39 0), .int x1, .int x2, .int x3]) ++ List.replicate (8 - (lg_sl ([.ref (G.2.1 39 0), .int x1, .int x2, .int x3])).length) Slot.unset).toArray = ls at hl ⊢
  exact wk_X12_ticksFrom C0 x1 x2 x3 M hf hP va_S.rf hl
abbrev rm_X12_spanOf : Room := { frames := 1, cells := 0, slots := 0, locals := 27 }
def wb_X12_spanOf_6 (k6 : Int32 → Int32 → Int32 → Int32 → Int32 → SM → Option (Int32)) (x1 : Int32) (x2 : Int32) (x3 : Int32) (x4 : Int32) (x5 : Int32) (M : SM) : Option (Int32) :=
  if (M 39 0 12) ≤ x5 then
  (some x4)
  else
  ((fn_X12_ticksFrom x5 x1 x2 M).bind fun r_2 =>
    if x4 < 0 then
    (g_let (x5 + 1) fun x5_5 =>
      k6 x1 x2 x3 r_2 x5_5 M)
    else
    (if x3 = 0 then
      (if x4 ≤ r_2 then
        (g_let (x5 + 1) fun x5_8 =>
          k6 x1 x2 x3 x4 x5_8 M)
        else
        (g_let (x5 + 1) fun x5_9 =>
          k6 x1 x2 x3 r_2 x5_9 M))
      else
      (if r_2 ≤ x4 then
        (g_let (x5 + 1) fun x5_11 =>
          k6 x1 x2 x3 x4 x5_11 M)
        else
        (g_let (x5 + 1) fun x5_12 =>
          k6 x1 x2 x3 r_2 x5_12 M))))
set_option maxRecDepth 100000 in
set_option maxHeartbeats 4000000 in
theorem bk_X12_spanOf_6 {p : Program} {l : Launch} {e : Env} {s : State} {m : MethodId} {args : Array Value} {below : List Frame} {meth : Method} {c : Code} {G : GP} {X : SM} {τ : SL} (C0 : g_mc p s m args meth c RX12 cX12_spanOf (some .int) 7 G) {r0 : Int32} (k6 : Int32 → Int32 → Int32 → Int32 → Int32 → SM → Option (Int32)) (hk6 : ∀ (x1 : Int32) (x2 : Int32) (x3 : Int32) (x4 : Int32) (x5 : Int32) (M : SM), k6 x1 x2 x3 x4 x5 M = some r0 → ∀ {H : Heap} {locs : List Loc}, va_P G.1 g_cl (wd G (cb X M) τ) H → va_S (g_A G) s.heap H locs → ∀ {ls : Array Slot}, lv_has ls 7 [(0, .ref (G.2.1 39 0)), (1, .int x1), (2, .int x2), (3, .int x3), (4, .int x4), (5, .int x5)] → W p l e rm_X12_spanOf s m args below meth c H locs 0 0 (MQ below (va_Qi (fun r u => r = r0 ∧ u = (X, M, τ)) (g_pw G) (g_A G)) args s 0 0 (g_A G)) (F0 m 6 ls [])) (x1 : Int32) (x2 : Int32) (x3 : Int32) (x4 : Int32) (x5 : Int32) (M : SM) (hf : wb_X12_spanOf_6 k6 x1 x2 x3 x4 x5 M = some r0) {H : Heap} {locs : List Loc} (hP : va_P G.1 g_cl (wd G (cb X M) τ) H) (hS : va_S (g_A G) s.heap H locs) {ls : Array Slot} (hl : lv_has ls 7 [(0, .ref (G.2.1 39 0)), (1, .int x1), (2, .int x2), (3, .int x3), (4, .int x4), (5, .int x5)]) : W p l e rm_X12_spanOf s m args below meth c H locs 0 0 (MQ below (va_Qi (fun r u => r = r0 ∧ u = (X, M, τ)) (g_pw G) (g_A G)) args s 0 0 (g_A G)) (F0 m 6 ls []) := by
  obtain ⟨hx, hb, hr, hml, hown, hts, hlocks, hC⟩ := id C0
  unfold wb_X12_spanOf_6 at hf
  refine lv_iload hx hb dX12_spanOf_6 (lv_at hl 5 rfl) ?_
  refine lv_aload_n hx hb dX12_spanOf_8 rfl (lv_at hl 0 rfl) ?_
  refine gt_39_12 hx hb hts hown hC hP Nat.zero_lt_one q7_5 dX12_spanOf_9 ?_
  refine lv_icmp_ge (tgt := 61) hx hb dX12_spanOf_12 (by decide) (fun hc_1 => ?_) (fun hc_1 => ?_)
  · have hf := g_pos hf hc_1
    refine lv_iload hx hb dX12_spanOf_61 (lv_at hl 4 rfl) ?_
    cases hf
    exact x_iret hx hb hlocks hC hP hS hr dX12_spanOf_63
  · have hf := g_neg hf hc_1
    refine lv_aload_n hx hb dX12_spanOf_15 rfl (lv_at hl 0 rfl) ?_
    refine lv_iload hx hb dX12_spanOf_16 (lv_at hl 5 rfl) ?_
    refine lv_iload_n hx hb dX12_spanOf_18 rfl (lv_at hl 1 rfl) ?_
    refine lv_iload_n hx hb dX12_spanOf_19 rfl (lv_at hl 2 rfl) ?_
    obtain ⟨r_2, hc_3, hf⟩ := g_bindE hf
    refine x_calli (v := (X, M, τ)) (va_runV (As := [.int x5, .int x1, .int x2]) (rest := []) ⟨hx, hb, hml, hown, hts⟩ (ct_X12_ticksFrom l G X M τ x5 x1 x2 hc_3) (cwV 3 hts gd_X12_202 rfl rfl rfl hd_X12_ticksFrom ⟨Nat.le_of_ble_eq_true rfl, Nat.le_of_ble_eq_true rfl⟩) (x_preV (u := (X, M, τ)) (k := 39) (ci := 12) hC hS hP Nat.zero_lt_one rfl rfl) rfl rfl hl.1 rfl (lv_room (Nat.le_of_ble_eq_true rfl)) dX12_spanOf_20 ⟨Nat.le_refl _, Nat.le_refl _⟩) hS (fun H locs hP hS => ?_)
    refine lv_istore (lv' := [(6, .int r_2), (0, .ref (G.2.1 39 0)), (1, .int x1), (2, .int x2), (3, .int x3), (4, .int x4), (5, .int x5)]) hx hb dX12_spanOf_23 hl (by decide) rfl (fun ls hl => ?_)
    refine lv_iload hx hb dX12_spanOf_25 (lv_at hl 5 rfl) ?_
    refine lv_if_lt (tgt := 51) hx hb dX12_spanOf_27 (by decide) (fun hc_4 => ?_) (fun hc_4 => ?_)
    · have hf := g_pos hf hc_4
      refine lv_iload hx hb dX12_spanOf_51 (lv_at hl 0 rfl) ?_
      refine lv_istore (lv' := [(4, .int r_2), (6, .int r_2), (0, .ref (G.2.1 39 0)), (1, .int x1), (2, .int x2), (3, .int x3), (5, .int x5)]) hx hb dX12_spanOf_53 hl (by decide) rfl (fun ls hl => ?_)
      obtain ⟨x5_5, ex5_5, hf⟩ := g_letE hf
      refine lv_iinc (v := x5_5) (lv' := [(5, .int x5_5), (4, .int r_2), (6, .int r_2), (0, .ref (G.2.1 39 0)), (1, .int x1), (2, .int x2), (3, .int x3)]) hx hb dX12_spanOf_55 hl (k := 6) rfl (by rw [← ex5_5]; rfl) (by decide) rfl (fun ls hl => ?_)
      refine lv_goto (tgt := 6) hx hb dX12_spanOf_58 (by decide) ?_
      exact hk6 x1 x2 x3 r_2 x5_5 M hf hP hS (lv_sub hl [3, 4, 5, 6, 1, 0] rfl)
    · have hf := g_neg hf hc_4
      refine lv_iload_n hx hb dX12_spanOf_30 rfl (lv_at hl 4 rfl) ?_
      refine lv_if_eq (tgt := 44) hx hb dX12_spanOf_31 (by decide) (fun hc_6 => ?_) (fun hc_6 => ?_)
      · have hf := g_pos hf hc_6
        refine lv_iload hx hb dX12_spanOf_44 (lv_at hl 0 rfl) ?_
        refine lv_iload hx hb dX12_spanOf_46 (lv_at hl 5 rfl) ?_
        refine lv_icmp_ge (tgt := 55) hx hb dX12_spanOf_48 (by decide) (fun hc_7 => ?_) (fun hc_7 => ?_)
        · have hf := g_pos hf hc_7
          obtain ⟨x5_8, ex5_8, hf⟩ := g_letE hf
          refine lv_iinc (v := x5_8) (lv' := [(5, .int x5_8), (6, .int r_2), (0, .ref (G.2.1 39 0)), (1, .int x1), (2, .int x2), (3, .int x3), (4, .int x4)]) hx hb dX12_spanOf_55 hl (k := 6) rfl (by rw [← ex5_8]; rfl) (by decide) rfl (fun ls hl => ?_)
          refine lv_goto (tgt := 6) hx hb dX12_spanOf_58 (by decide) ?_
          exact hk6 x1 x2 x3 x4 x5_8 M hf hP hS (lv_sub hl [2, 3, 4, 5, 6, 0] rfl)
        · have hf := g_neg hf hc_7
          refine lv_iload hx hb dX12_spanOf_51 (lv_at hl 0 rfl) ?_
          refine lv_istore (lv' := [(4, .int r_2), (6, .int r_2), (0, .ref (G.2.1 39 0)), (1, .int x1), (2, .int x2), (3, .int x3), (5, .int x5)]) hx hb dX12_spanOf_53 hl (by decide) rfl (fun ls hl => ?_)
          obtain ⟨x5_9, ex5_9, hf⟩ := g_letE hf
          refine lv_iinc (v := x5_9) (lv' := [(5, .int x5_9), (4, .int r_2), (6, .int r_2), (0, .ref (G.2.1 39 0)), (1, .int x1), (2, .int x2), (3, .int x3)]) hx hb dX12_spanOf_55 hl (k := 6) rfl (by rw [← ex5_9]; rfl) (by decide) rfl (fun ls hl => ?_)
          refine lv_goto (tgt := 6) hx hb dX12_spanOf_58 (by decide) ?_
          exact hk6 x1 x2 x3 r_2 x5_9 M hf hP hS (lv_sub hl [3, 4, 5, 6, 1, 0] rfl)
      · have hf := g_neg hf hc_6
        refine lv_iload hx hb dX12_spanOf_34 (lv_at hl 0 rfl) ?_
        refine lv_iload hx hb dX12_spanOf_36 (lv_at hl 5 rfl) ?_
        refine lv_icmp_le (tgt := 55) hx hb dX12_spanOf_38 (by decide) (fun hc_10 => ?_) (fun hc_10 => ?_)
        · have hf := g_pos hf hc_10
          obtain ⟨x5_11, ex5_11, hf⟩ := g_letE hf
          refine lv_iinc (v := x5_11) (lv' := [(5, .int x5_11), (6, .int r_2), (0, .ref (G.2.1 39 0)), (1, .int x1), (2, .int x2), (3, .int x3), (4, .int x4)]) hx hb dX12_spanOf_55 hl (k := 6) rfl (by rw [← ex5_11]; rfl) (by decide) rfl (fun ls hl => ?_)
          refine lv_goto (tgt := 6) hx hb dX12_spanOf_58 (by decide) ?_
          exact hk6 x1 x2 x3 x4 x5_11 M hf hP hS (lv_sub hl [2, 3, 4, 5, 6, 0] rfl)
        · have hf := g_neg hf hc_10
          refine lv_goto (tgt := 51) hx hb dX12_spanOf_41 (by decide) ?_
          refine lv_iload hx hb dX12_spanOf_51 (lv_at hl 0 rfl) ?_
          refine lv_istore (lv' := [(4, .int r_2), (6, .int r_2), (0, .ref (G.2.1 39 0)), (1, .int x1), (2, .int x2), (3, .int x3), (5, .int x5)]) hx hb dX12_spanOf_53 hl (by decide) rfl (fun ls hl => ?_)
          obtain ⟨x5_12, ex5_12, hf⟩ := g_letE hf
          refine lv_iinc (v := x5_12) (lv' := [(5, .int x5_12), (4, .int r_2), (6, .int r_2), (0, .ref (G.2.1 39 0)), (1, .int x1), (2, .int x2), (3, .int x3)]) hx hb dX12_spanOf_55 hl (k := 6) rfl (by rw [← ex5_12]; rfl) (by decide) rfl (fun ls hl => ?_)
          refine lv_goto (tgt := 6) hx hb dX12_spanOf_58 (by decide) ?_
          exact hk6 x1 x2 x3 r_2 x5_12 M hf hP hS (lv_sub hl [3, 4, 5, 6, 1, 0] rfl)
def wl_X12_spanOf_6 (n : Nat) (x1 : Int32) (x2 : Int32) (x3 : Int32) (x4 : Int32) (x5 : Int32) (M : SM) : Option (Int32) := g_loop (α := Int32 × Int32 × Int32 × Int32 × Int32 × SM) (fun k a => wb_X12_spanOf_6 (fun x1 x2 x3 x4 x5 M => k (x1, x2, x3, x4, x5, M)) a.1 a.2.1 a.2.2.1 a.2.2.2.1 a.2.2.2.2.1 a.2.2.2.2.2) n (x1, x2, x3, x4, x5, M)
set_option maxRecDepth 100000 in
set_option maxHeartbeats 4000000 in
theorem lp_X12_spanOf_6 {p : Program} {l : Launch} {e : Env} {s : State} {m : MethodId} {args : Array Value} {below : List Frame} {meth : Method} {c : Code} {G : GP} {X : SM} {τ : SL} (C0 : g_mc p s m args meth c RX12 cX12_spanOf (some .int) 7 G) {r0 : Int32} (n : Nat) : ∀ (x1 : Int32) (x2 : Int32) (x3 : Int32) (x4 : Int32) (x5 : Int32) (M : SM), wl_X12_spanOf_6 n x1 x2 x3 x4 x5 M = some r0 → ∀ {H : Heap} {locs : List Loc}, va_P G.1 g_cl (wd G (cb X M) τ) H → va_S (g_A G) s.heap H locs → ∀ {ls : Array Slot}, lv_has ls 7 [(0, .ref (G.2.1 39 0)), (1, .int x1), (2, .int x2), (3, .int x3), (4, .int x4), (5, .int x5)] → W p l e rm_X12_spanOf s m args below meth c H locs 0 0 (MQ below (va_Qi (fun r u => r = r0 ∧ u = (X, M, τ)) (g_pw G) (g_A G)) args s 0 0 (g_A G)) (F0 m 6 ls []) := by
  induction n with
  | zero =>
    intro x1 x2 x3 x4 x5 M hf
    have hf : (none : Option (Int32)) = _ := hf
    cases hf
  | succ n ih =>
    intro x1 x2 x3 x4 x5 M hf H locs hP hS ls hl
    exact bk_X12_spanOf_6 C0  (fun x1 x2 x3 x4 x5 M => wl_X12_spanOf_6  n x1 x2 x3 x4 x5 M) ih x1 x2 x3 x4 x5 M hf hP hS hl
def fn_X12_spanOf (x1 : Int32) (x2 : Int32) (x3 : Int32) (M : SM) : Option (Int32) :=
  wl_X12_spanOf_6 1000 x1 x2 x3 (-1) 0 M
set_option maxRecDepth 100000 in
set_option maxHeartbeats 4000000 in
theorem wk_X12_spanOf {p : Program} {l : Launch} {e : Env} {s : State} {m : MethodId} {args : Array Value} {below : List Frame} {meth : Method} {c : Code} {G : GP} {X : SM} {τ : SL} (C0 : g_mc p s m args meth c RX12 cX12_spanOf (some .int) 7 G) {r0 : Int32} (x1 : Int32) (x2 : Int32) (x3 : Int32) (M : SM) (hf : fn_X12_spanOf x1 x2 x3 M = some r0) {H : Heap} {locs : List Loc} (hP : va_P G.1 g_cl (wd G (cb X M) τ) H) (hS : va_S (g_A G) s.heap H locs) {ls : Array Slot} (hl : lv_has ls 7 [(0, .ref (G.2.1 39 0)), (1, .int x1), (2, .int x2), (3, .int x3)]) : W p l e rm_X12_spanOf s m args below meth c H locs 0 0 (MQ below (va_Qi (fun r u => r = r0 ∧ u = (X, M, τ)) (g_pw G) (g_A G)) args s 0 0 (g_A G)) (F0 m 0 ls []) := by
  obtain ⟨hx, hb, hr, hml, hown, hts, hlocks, hC⟩ := id C0
  unfold fn_X12_spanOf at hf
  refine lv_iconst (v := (-1)) hx hb dX12_spanOf_0 (by decide) ?_
  refine lv_istore (lv' := [(4, .int (-1)), (0, .ref (G.2.1 39 0)), (1, .int x1), (2, .int x2), (3, .int x3)]) hx hb dX12_spanOf_1 hl (by decide) rfl (fun ls hl => ?_)
  refine lv_iconst (v := 0) hx hb dX12_spanOf_3 (by decide) ?_
  refine lv_istore (lv' := [(5, .int 0), (4, .int (-1)), (0, .ref (G.2.1 39 0)), (1, .int x1), (2, .int x2), (3, .int x3)]) hx hb dX12_spanOf_4 hl (by decide) rfl (fun ls hl => ?_)
  exact lp_X12_spanOf_6 C0 1000 x1 x2 x3 (-1) 0 M hf hP hS (lv_sub hl [2, 3, 4, 5, 1, 0] rfl)
set_option maxRecDepth 100000 in
set_option maxHeartbeats 4000000 in
theorem ct_X12_spanOf (l : Launch) (G : GP) (X M : SM) (τ : SL) (x1 : Int32) (x2 : Int32) (x3 : Int32) {r0 : Int32} (hf : fn_X12_spanOf x1 x2 x3 M = some r0) : Met l yX12_spanOf (wz yX12_spanOf cX12_spanOf 7 (some .int)) rm_X12_spanOf (va_Pc [.ref (G.2.1 39 0), .int x1, .int x2, .int x3] (g_pw G (X, M, τ))) (va_Qi (fun r u => r = r0 ∧ u = (X, M, τ)) (g_pw G) (g_A G)) 0 0 (g_A G) := by
  refine Met.ofW (cc := cX12_spanOf) (maxL := 7) (ret := (some .int)) (by decide) rfl ?_
  intro p e s m args below meth c s₁ B hml hv
  obtain ⟨rfl, hC, hP⟩ := hv
  have C0 : g_mc p s m _ meth c RX12 cX12_spanOf (some .int) 7 G := ⟨B.exec, B.bytes, B.returns, hml, findClass_of_methodNamed B.named, fun w h => atoms_spec (ws := wz yX12_spanOf cX12_spanOf 7 (some .int)) B.pre w (List.mem_cons_of_mem _ h), B.notSynchronized, hC⟩
  have hl := lv_entry ([.ref (G.2.1 39 0), .int x1, .int x2, .int x3]) (n := 7) (Nat.le_of_ble_eq_true rfl)
  rw [lg_entry_eq]
  generalize (lg_sl ([.ref (G.2.1 39 0), .int x1, .int x2, .int x3]) ++ List.replicate (7 - (lg_sl ([.ref (G.2.1 39 0), .int x1, .int x2, .int x3])).length) Slot.unset).toArray = ls at hl ⊢
  exact wk_X12_spanOf C0 x1 x2 x3 M hf hP va_S.rf hl
abbrev rm_X12_canTell : Room := { frames := 1, cells := 0, slots := 0, locals := 22 }
def wb_X12_canTell_69 (x5 : Int32) (x6 : Int32) : Option (Int32) :=
  if x5 = 0 then
  (some 0)
  else
  (if x6 = 0 then
    (some 0)
    else
    (some 1))
set_option maxRecDepth 100000 in
set_option maxHeartbeats 4000000 in
theorem bk_X12_canTell_69 {p : Program} {l : Launch} {e : Env} {s : State} {m : MethodId} {args : Array Value} {below : List Frame} {meth : Method} {c : Code} {G : GP} {X : SM} {M : SM} {τ : SL} (C0 : g_mc p s m args meth c RX12 cX12_canTell (some .boolean) 8 G) {r0 : Int32} (x5 : Int32) (x6 : Int32) (hf : wb_X12_canTell_69 x5 x6 = some r0) {H : Heap} {locs : List Loc} (hP : va_P G.1 g_cl (wd G (cb X M) τ) H) (hS : va_S (g_A G) s.heap H locs) {ls : Array Slot} (hl : lv_has ls 8 [(5, .int x5), (6, .int x6)]) : W p l e rm_X12_canTell s m args below meth c H locs 0 0 (MQ below (va_Qi (fun r u => r = r0 ∧ u = (X, M, τ)) (g_pw G) (g_A G)) args s 0 0 (g_A G)) (F0 m 69 ls []) := by
  obtain ⟨hx, hb, hr, hml, hown, hts, hlocks, hC⟩ := id C0
  unfold wb_X12_canTell_69 at hf
  refine lv_iload hx hb dX12_canTell_69 (lv_at hl 0 rfl) ?_
  refine lv_if_eq (tgt := 83) hx hb dX12_canTell_71 (by decide) (fun hc_45 => ?_) (fun hc_45 => ?_)
  · have hf := g_pos hf hc_45
    refine lv_iconst (v := 0) hx hb dX12_canTell_83 (by decide) ?_
    cases hf
    exact x_zret hx hb hlocks hC hP hS hr (Or.inl rfl) dX12_canTell_84
  · have hf := g_neg hf hc_45
    refine lv_iload hx hb dX12_canTell_74 (lv_at hl 1 rfl) ?_
    refine lv_if_eq (tgt := 83) hx hb dX12_canTell_76 (by decide) (fun hc_46 => ?_) (fun hc_46 => ?_)
    · have hf := g_pos hf hc_46
      refine lv_iconst (v := 0) hx hb dX12_canTell_83 (by decide) ?_
      cases hf
      exact x_zret hx hb hlocks hC hP hS hr (Or.inl rfl) dX12_canTell_84
    · have hf := g_neg hf hc_46
      refine lv_iconst (v := 1) hx hb dX12_canTell_79 (by decide) ?_
      refine lv_goto (tgt := 84) hx hb dX12_canTell_80 (by decide) ?_
      cases hf
      exact x_zret hx hb hlocks hC hP hS hr (Or.inr rfl) dX12_canTell_84
def fn_X12_canTell (x0 : Int32) (x1 : Int32) (x2 : Int32) (x3 : Int32) (x4 : Int32) : Option (Int32) :=
  g_let (fn_X12_within x1 0 7) fun r_1 =>
  g_let (fn_X12_within x2 0 7) fun r_3 =>
  g_let (fn_X12_within x3 0 7) fun r_5 =>
  if x0 = 0 then
  (if r_1 = 0 ∨ r_1 = 1 then
    some r_1
    else none)
  else
  (if x0 = 14 then
    (if r_1 = 0 ∨ r_1 = 1 then
      some r_1
      else none)
    else
    (if x0 = 15 then
      (if r_1 = 0 ∨ r_1 = 1 then
        some r_1
        else none)
      else
      (if x0 = 5 then
        (wb_X12_canTell_69 r_1 r_3)
        else
        (if x0 = 6 then
          (wb_X12_canTell_69 r_1 r_3)
          else
          (if x0 = 10 then
            (wb_X12_canTell_69 r_1 r_3)
            else
            (if x0 = 12 then
              (wb_X12_canTell_69 r_1 r_3)
              else
              (if x0 = 7 then
                (g_let (fn_X12_within x2 0 23) fun r_41 =>
                  if r_41 = 0 ∨ r_41 = 1 then
                  some r_41
                  else none)
                else
                (if x0 = 8 then
                  (if r_1 = 0 then
                    (some 0)
                    else
                    (g_let (fn_X12_within x2 0 23) fun r_38 =>
                      if r_38 = 0 then
                      (some 0)
                      else
                      (some 1)))
                  else
                  (if x0 = 9 then
                    (if r_1 = 0 then
                      (some 0)
                      else
                      (g_let (fn_X12_within x2 0 x4) fun r_34 =>
                        if r_34 = 0 then
                        (some 0)
                        else
                        (some 1)))
                    else
                    (if x0 = 16 then
                      (g_let (fn_X12_within x1 0 3) fun r_20 =>
                        if r_20 = 0 then
                        (some 0)
                        else
                        (if r_3 = 0 then
                          (some 0)
                          else
                          (some 1)))
                      else
                      (if x0 = 17 then
                        (g_let (fn_X12_within x1 0 3) fun r_29 =>
                          if r_29 = 0 then
                          (some 0)
                          else
                          (if r_3 = 0 then
                            (some 0)
                            else
                            (some 1)))
                        else
                        (if x0 = 18 then
                          (some 1)
                          else
                          (if r_1 = 0 then
                            (some 0)
                            else
                            (if r_3 = 0 then
                              (some 0)
                              else
                              (if r_5 = 0 then
                                (some 0)
                                else
                                (some 1))))))))))))))))
set_option maxRecDepth 100000 in
set_option maxHeartbeats 4000000 in
theorem wk_X12_canTell {p : Program} {l : Launch} {e : Env} {s : State} {m : MethodId} {args : Array Value} {below : List Frame} {meth : Method} {c : Code} {G : GP} {X : SM} {M : SM} {τ : SL} (C0 : g_mc p s m args meth c RX12 cX12_canTell (some .boolean) 8 G) {r0 : Int32} (x0 : Int32) (x1 : Int32) (x2 : Int32) (x3 : Int32) (x4 : Int32) (hf : fn_X12_canTell x0 x1 x2 x3 x4 = some r0) {H : Heap} {locs : List Loc} (hP : va_P G.1 g_cl (wd G (cb X M) τ) H) (hS : va_S (g_A G) s.heap H locs) {ls : Array Slot} (hl : lv_has ls 8 [(0, .int x0), (1, .int x1), (2, .int x2), (3, .int x3), (4, .int x4)]) : W p l e rm_X12_canTell s m args below meth c H locs 0 0 (MQ below (va_Qi (fun r u => r = r0 ∧ u = (X, M, τ)) (g_pw G) (g_A G)) args s 0 0 (g_A G)) (F0 m 0 ls []) := by
  obtain ⟨hx, hb, hr, hml, hown, hts, hlocks, hC⟩ := id C0
  unfold fn_X12_canTell at hf
  refine lv_iload_n hx hb dX12_canTell_0 rfl (lv_at hl 1 rfl) ?_
  refine lv_iconst (v := 0) hx hb dX12_canTell_1 (by decide) ?_
  refine lv_bipush (v := 7) hx hb dX12_canTell_2 (by decide) ?_
  obtain ⟨r_1, hc_2, hf⟩ := g_letE hf
  refine x_calli (v := (X, M, τ)) (va_runS (As := [.int x1, .int 0, .int 7]) (rest := []) ⟨hx, hb, hml, hown, hts⟩ (ct_X12_within l G X M τ x1 0 7 hc_2) (cwS 3 hts gd_X12_76 rfl rfl rfl hd_X12_within ⟨Nat.le_of_ble_eq_true rfl, Nat.le_of_ble_eq_true rfl⟩) (x_pre (u := (X, M, τ)) hC hS hP) rfl rfl hl.1 rfl (lv_room (Nat.le_of_ble_eq_true rfl)) dX12_canTell_4 ⟨Nat.le_refl _, Nat.le_refl _⟩) hS (fun H locs hP hS => ?_)
  refine lv_istore (lv' := [(5, .int r_1), (0, .int x0), (1, .int x1), (2, .int x2), (3, .int x3), (4, .int x4)]) hx hb dX12_canTell_7 hl (by decide) rfl (fun ls hl => ?_)
  refine lv_iload_n hx hb dX12_canTell_9 rfl (lv_at hl 3 rfl) ?_
  refine lv_iconst (v := 0) hx hb dX12_canTell_10 (by decide) ?_
  refine lv_bipush (v := 7) hx hb dX12_canTell_11 (by decide) ?_
  obtain ⟨r_3, hc_4, hf⟩ := g_letE hf
  refine x_calli (v := (X, M, τ)) (va_runS (As := [.int x2, .int 0, .int 7]) (rest := []) ⟨hx, hb, hml, hown, hts⟩ (ct_X12_within l G X M τ x2 0 7 hc_4) (cwS 3 hts gd_X12_76 rfl rfl rfl hd_X12_within ⟨Nat.le_of_ble_eq_true rfl, Nat.le_of_ble_eq_true rfl⟩) (x_pre (u := (X, M, τ)) hC hS hP) rfl rfl hl.1 rfl (lv_room (Nat.le_of_ble_eq_true rfl)) dX12_canTell_13 ⟨Nat.le_refl _, Nat.le_refl _⟩) hS (fun H locs hP hS => ?_)
  refine lv_istore (lv' := [(6, .int r_3), (5, .int r_1), (0, .int x0), (1, .int x1), (2, .int x2), (3, .int x3), (4, .int x4)]) hx hb dX12_canTell_16 hl (by decide) rfl (fun ls hl => ?_)
  refine lv_iload_n hx hb dX12_canTell_18 rfl (lv_at hl 5 rfl) ?_
  refine lv_iconst (v := 0) hx hb dX12_canTell_19 (by decide) ?_
  refine lv_bipush (v := 7) hx hb dX12_canTell_20 (by decide) ?_
  obtain ⟨r_5, hc_6, hf⟩ := g_letE hf
  refine x_calli (v := (X, M, τ)) (va_runS (As := [.int x3, .int 0, .int 7]) (rest := []) ⟨hx, hb, hml, hown, hts⟩ (ct_X12_within l G X M τ x3 0 7 hc_6) (cwS 3 hts gd_X12_76 rfl rfl rfl hd_X12_within ⟨Nat.le_of_ble_eq_true rfl, Nat.le_of_ble_eq_true rfl⟩) (x_pre (u := (X, M, τ)) hC hS hP) rfl rfl hl.1 rfl (lv_room (Nat.le_of_ble_eq_true rfl)) dX12_canTell_22 ⟨Nat.le_refl _, Nat.le_refl _⟩) hS (fun H locs hP hS => ?_)
  refine lv_istore (lv' := [(7, .int r_5), (6, .int r_3), (5, .int r_1), (0, .int x0), (1, .int x1), (2, .int x2), (3, .int x3), (4, .int x4)]) hx hb dX12_canTell_25 hl (by decide) rfl (fun ls hl => ?_)
  refine lv_iload_n hx hb dX12_canTell_27 rfl (lv_at hl 3 rfl) ?_
  refine lv_if_eq (tgt := 43) hx hb dX12_canTell_28 (by decide) (fun hc_7 => ?_) (fun hc_7 => ?_)
  · have hf := g_pos hf hc_7
    refine lv_iload hx hb dX12_canTell_43 (lv_at hl 2 rfl) ?_
    obtain ⟨hg_8, hf⟩ := g_gd hf
    cases hf
    exact x_zret hx hb hlocks hC hP hS hr hg_8 dX12_canTell_45
  · have hf := g_neg hf hc_7
    refine lv_iload_n hx hb dX12_canTell_31 rfl (lv_at hl 3 rfl) ?_
    refine lv_bipush (v := 14) hx hb dX12_canTell_32 (by decide) ?_
    refine lv_icmp_eq (tgt := 43) hx hb dX12_canTell_34 (by decide) (fun hc_9 => ?_) (fun hc_9 => ?_)
    · have hf := g_pos hf hc_9
      refine lv_iload hx hb dX12_canTell_43 (lv_at hl 2 rfl) ?_
      obtain ⟨hg_10, hf⟩ := g_gd hf
      cases hf
      exact x_zret hx hb hlocks hC hP hS hr hg_10 dX12_canTell_45
    · have hf := g_neg hf hc_9
      refine lv_iload_n hx hb dX12_canTell_37 rfl (lv_at hl 3 rfl) ?_
      refine lv_bipush (v := 15) hx hb dX12_canTell_38 (by decide) ?_
      refine lv_icmp_ne (tgt := 46) hx hb dX12_canTell_40 (by decide) (fun hc_11 => ?_) (fun hc_11 => ?_)
      · have hf := g_neg hf hc_11
        refine lv_iload_n hx hb dX12_canTell_46 rfl (lv_at hl 3 rfl) ?_
        refine lv_iconst (v := 5) hx hb dX12_canTell_47 (by decide) ?_
        refine lv_icmp_eq (tgt := 69) hx hb dX12_canTell_48 (by decide) (fun hc_12 => ?_) (fun hc_12 => ?_)
        · have hf := g_pos hf hc_12
          exact bk_X12_canTell_69 C0 r_1 r_3 hf hP hS (lv_sub hl [2, 1] rfl)
        · have hf := g_neg hf hc_12
          refine lv_iload_n hx hb dX12_canTell_51 rfl (lv_at hl 3 rfl) ?_
          refine lv_bipush (v := 6) hx hb dX12_canTell_52 (by decide) ?_
          refine lv_icmp_eq (tgt := 69) hx hb dX12_canTell_54 (by decide) (fun hc_13 => ?_) (fun hc_13 => ?_)
          · have hf := g_pos hf hc_13
            exact bk_X12_canTell_69 C0 r_1 r_3 hf hP hS (lv_sub hl [2, 1] rfl)
          · have hf := g_neg hf hc_13
            refine lv_iload_n hx hb dX12_canTell_57 rfl (lv_at hl 3 rfl) ?_
            refine lv_bipush (v := 10) hx hb dX12_canTell_58 (by decide) ?_
            refine lv_icmp_eq (tgt := 69) hx hb dX12_canTell_60 (by decide) (fun hc_14 => ?_) (fun hc_14 => ?_)
            · have hf := g_pos hf hc_14
              exact bk_X12_canTell_69 C0 r_1 r_3 hf hP hS (lv_sub hl [2, 1] rfl)
            · have hf := g_neg hf hc_14
              refine lv_iload_n hx hb dX12_canTell_63 rfl (lv_at hl 3 rfl) ?_
              refine lv_bipush (v := 12) hx hb dX12_canTell_64 (by decide) ?_
              refine lv_icmp_ne (tgt := 85) hx hb dX12_canTell_66 (by decide) (fun hc_15 => ?_) (fun hc_15 => ?_)
              · have hf := g_neg hf hc_15
                refine lv_iload_n hx hb dX12_canTell_85 rfl (lv_at hl 3 rfl) ?_
                refine lv_bipush (v := 7) hx hb dX12_canTell_86 (by decide) ?_
                refine lv_icmp_ne (tgt := 99) hx hb dX12_canTell_88 (by decide) (fun hc_16 => ?_) (fun hc_16 => ?_)
                · have hf := g_neg hf hc_16
                  refine lv_iload_n hx hb dX12_canTell_99 rfl (lv_at hl 3 rfl) ?_
                  refine lv_bipush (v := 8) hx hb dX12_canTell_100 (by decide) ?_
                  refine lv_icmp_ne (tgt := 126) hx hb dX12_canTell_102 (by decide) (fun hc_17 => ?_) (fun hc_17 => ?_)
                  · have hf := g_neg hf hc_17
                    refine lv_iload_n hx hb dX12_canTell_126 rfl (lv_at hl 3 rfl) ?_
                    refine lv_bipush (v := 9) hx hb dX12_canTell_127 (by decide) ?_
                    refine lv_icmp_ne (tgt := 153) hx hb dX12_canTell_129 (by decide) (fun hc_18 => ?_) (fun hc_18 => ?_)
                    · have hf := g_neg hf hc_18
                      refine lv_iload_n hx hb dX12_canTell_153 rfl (lv_at hl 3 rfl) ?_
                      refine lv_bipush (v := 16) hx hb dX12_canTell_154 (by decide) ?_
                      refine lv_icmp_eq (tgt := 165) hx hb dX12_canTell_156 (by decide) (fun hc_19 => ?_) (fun hc_19 => ?_)
                      · have hf := g_pos hf hc_19
                        refine lv_iload_n hx hb dX12_canTell_165 rfl (lv_at hl 4 rfl) ?_
                        refine lv_iconst (v := 0) hx hb dX12_canTell_166 (by decide) ?_
                        refine lv_iconst (v := 3) hx hb dX12_canTell_167 (by decide) ?_
                        obtain ⟨r_20, hc_21, hf⟩ := g_letE hf
                        refine x_calli (v := (X, M, τ)) (va_runS (As := [.int x1, .int 0, .int 3]) (rest := []) ⟨hx, hb, hml, hown, hts⟩ (ct_X12_within l G X M τ x1 0 3 hc_21) (cwS 3 hts gd_X12_76 rfl rfl rfl hd_X12_within ⟨Nat.le_of_ble_eq_true rfl, Nat.le_of_ble_eq_true rfl⟩) (x_pre (u := (X, M, τ)) hC hS hP) rfl rfl hl.1 rfl (lv_room (Nat.le_of_ble_eq_true rfl)) dX12_canTell_168 ⟨Nat.le_refl _, Nat.le_refl _⟩) hS (fun H locs hP hS => ?_)
                        refine lv_if_eq (tgt := 183) hx hb dX12_canTell_171 (by decide) (fun hc_22 => ?_) (fun hc_22 => ?_)
                        · have hf := g_pos hf hc_22
                          refine lv_iconst (v := 0) hx hb dX12_canTell_183 (by decide) ?_
                          cases hf
                          exact x_zret hx hb hlocks hC hP hS hr (Or.inl rfl) dX12_canTell_184
                        · have hf := g_neg hf hc_22
                          refine lv_iload hx hb dX12_canTell_174 (lv_at hl 1 rfl) ?_
                          refine lv_if_eq (tgt := 183) hx hb dX12_canTell_176 (by decide) (fun hc_23 => ?_) (fun hc_23 => ?_)
                          · have hf := g_pos hf hc_23
                            refine lv_iconst (v := 0) hx hb dX12_canTell_183 (by decide) ?_
                            cases hf
                            exact x_zret hx hb hlocks hC hP hS hr (Or.inl rfl) dX12_canTell_184
                          · have hf := g_neg hf hc_23
                            refine lv_iconst (v := 1) hx hb dX12_canTell_179 (by decide) ?_
                            refine lv_goto (tgt := 184) hx hb dX12_canTell_180 (by decide) ?_
                            cases hf
                            exact x_zret hx hb hlocks hC hP hS hr (Or.inr rfl) dX12_canTell_184
                      · have hf := g_neg hf hc_19
                        refine lv_iload_n hx hb dX12_canTell_159 rfl (lv_at hl 3 rfl) ?_
                        refine lv_bipush (v := 17) hx hb dX12_canTell_160 (by decide) ?_
                        refine lv_icmp_ne (tgt := 185) hx hb dX12_canTell_162 (by decide) (fun hc_24 => ?_) (fun hc_24 => ?_)
                        · have hf := g_neg hf hc_24
                          refine lv_iload_n hx hb dX12_canTell_185 rfl (lv_at hl 3 rfl) ?_
                          refine lv_bipush (v := 18) hx hb dX12_canTell_186 (by decide) ?_
                          refine lv_icmp_eq (tgt := 206) hx hb dX12_canTell_188 (by decide) (fun hc_25 => ?_) (fun hc_25 => ?_)
                          · have hf := g_pos hf hc_25
                            refine lv_iconst (v := 1) hx hb dX12_canTell_206 (by decide) ?_
                            refine lv_goto (tgt := 211) hx hb dX12_canTell_207 (by decide) ?_
                            cases hf
                            exact x_zret hx hb hlocks hC hP hS hr (Or.inr rfl) dX12_canTell_211
                          · have hf := g_neg hf hc_25
                            refine lv_iload hx hb dX12_canTell_191 (lv_at hl 2 rfl) ?_
                            refine lv_if_eq (tgt := 210) hx hb dX12_canTell_193 (by decide) (fun hc_26 => ?_) (fun hc_26 => ?_)
                            · have hf := g_pos hf hc_26
                              refine lv_iconst (v := 0) hx hb dX12_canTell_210 (by decide) ?_
                              cases hf
                              exact x_zret hx hb hlocks hC hP hS hr (Or.inl rfl) dX12_canTell_211
                            · have hf := g_neg hf hc_26
                              refine lv_iload hx hb dX12_canTell_196 (lv_at hl 1 rfl) ?_
                              refine lv_if_eq (tgt := 210) hx hb dX12_canTell_198 (by decide) (fun hc_27 => ?_) (fun hc_27 => ?_)
                              · have hf := g_pos hf hc_27
                                refine lv_iconst (v := 0) hx hb dX12_canTell_210 (by decide) ?_
                                cases hf
                                exact x_zret hx hb hlocks hC hP hS hr (Or.inl rfl) dX12_canTell_211
                              · have hf := g_neg hf hc_27
                                refine lv_iload hx hb dX12_canTell_201 (lv_at hl 0 rfl) ?_
                                refine lv_if_eq (tgt := 210) hx hb dX12_canTell_203 (by decide) (fun hc_28 => ?_) (fun hc_28 => ?_)
                                · have hf := g_pos hf hc_28
                                  refine lv_iconst (v := 0) hx hb dX12_canTell_210 (by decide) ?_
                                  cases hf
                                  exact x_zret hx hb hlocks hC hP hS hr (Or.inl rfl) dX12_canTell_211
                                · have hf := g_neg hf hc_28
                                  refine lv_iconst (v := 1) hx hb dX12_canTell_206 (by decide) ?_
                                  refine lv_goto (tgt := 211) hx hb dX12_canTell_207 (by decide) ?_
                                  cases hf
                                  exact x_zret hx hb hlocks hC hP hS hr (Or.inr rfl) dX12_canTell_211
                        · have hf := g_pos hf hc_24
                          refine lv_iload_n hx hb dX12_canTell_165 rfl (lv_at hl 4 rfl) ?_
                          refine lv_iconst (v := 0) hx hb dX12_canTell_166 (by decide) ?_
                          refine lv_iconst (v := 3) hx hb dX12_canTell_167 (by decide) ?_
                          obtain ⟨r_29, hc_30, hf⟩ := g_letE hf
                          refine x_calli (v := (X, M, τ)) (va_runS (As := [.int x1, .int 0, .int 3]) (rest := []) ⟨hx, hb, hml, hown, hts⟩ (ct_X12_within l G X M τ x1 0 3 hc_30) (cwS 3 hts gd_X12_76 rfl rfl rfl hd_X12_within ⟨Nat.le_of_ble_eq_true rfl, Nat.le_of_ble_eq_true rfl⟩) (x_pre (u := (X, M, τ)) hC hS hP) rfl rfl hl.1 rfl (lv_room (Nat.le_of_ble_eq_true rfl)) dX12_canTell_168 ⟨Nat.le_refl _, Nat.le_refl _⟩) hS (fun H locs hP hS => ?_)
                          refine lv_if_eq (tgt := 183) hx hb dX12_canTell_171 (by decide) (fun hc_31 => ?_) (fun hc_31 => ?_)
                          · have hf := g_pos hf hc_31
                            refine lv_iconst (v := 0) hx hb dX12_canTell_183 (by decide) ?_
                            cases hf
                            exact x_zret hx hb hlocks hC hP hS hr (Or.inl rfl) dX12_canTell_184
                          · have hf := g_neg hf hc_31
                            refine lv_iload hx hb dX12_canTell_174 (lv_at hl 1 rfl) ?_
                            refine lv_if_eq (tgt := 183) hx hb dX12_canTell_176 (by decide) (fun hc_32 => ?_) (fun hc_32 => ?_)
                            · have hf := g_pos hf hc_32
                              refine lv_iconst (v := 0) hx hb dX12_canTell_183 (by decide) ?_
                              cases hf
                              exact x_zret hx hb hlocks hC hP hS hr (Or.inl rfl) dX12_canTell_184
                            · have hf := g_neg hf hc_32
                              refine lv_iconst (v := 1) hx hb dX12_canTell_179 (by decide) ?_
                              refine lv_goto (tgt := 184) hx hb dX12_canTell_180 (by decide) ?_
                              cases hf
                              exact x_zret hx hb hlocks hC hP hS hr (Or.inr rfl) dX12_canTell_184
                    · have hf := g_pos hf hc_18
                      refine lv_iload hx hb dX12_canTell_132 (lv_at hl 2 rfl) ?_
                      refine lv_if_eq (tgt := 151) hx hb dX12_canTell_134 (by decide) (fun hc_33 => ?_) (fun hc_33 => ?_)
                      · have hf := g_pos hf hc_33
                        refine lv_iconst (v := 0) hx hb dX12_canTell_151 (by decide) ?_
                        cases hf
                        exact x_zret hx hb hlocks hC hP hS hr (Or.inl rfl) dX12_canTell_152
                      · have hf := g_neg hf hc_33
                        refine lv_iload_n hx hb dX12_canTell_137 rfl (lv_at hl 5 rfl) ?_
                        refine lv_iconst (v := 0) hx hb dX12_canTell_138 (by decide) ?_
                        refine lv_iload hx hb dX12_canTell_139 (lv_at hl 7 rfl) ?_
                        obtain ⟨r_34, hc_35, hf⟩ := g_letE hf
                        refine x_calli (v := (X, M, τ)) (va_runS (As := [.int x2, .int 0, .int x4]) (rest := []) ⟨hx, hb, hml, hown, hts⟩ (ct_X12_within l G X M τ x2 0 x4 hc_35) (cwS 3 hts gd_X12_76 rfl rfl rfl hd_X12_within ⟨Nat.le_of_ble_eq_true rfl, Nat.le_of_ble_eq_true rfl⟩) (x_pre (u := (X, M, τ)) hC hS hP) rfl rfl hl.1 rfl (lv_room (Nat.le_of_ble_eq_true rfl)) dX12_canTell_141 ⟨Nat.le_refl _, Nat.le_refl _⟩) hS (fun H locs hP hS => ?_)
                        refine lv_if_eq (tgt := 151) hx hb dX12_canTell_144 (by decide) (fun hc_36 => ?_) (fun hc_36 => ?_)
                        · have hf := g_pos hf hc_36
                          refine lv_iconst (v := 0) hx hb dX12_canTell_151 (by decide) ?_
                          cases hf
                          exact x_zret hx hb hlocks hC hP hS hr (Or.inl rfl) dX12_canTell_152
                        · have hf := g_neg hf hc_36
                          refine lv_iconst (v := 1) hx hb dX12_canTell_147 (by decide) ?_
                          refine lv_goto (tgt := 152) hx hb dX12_canTell_148 (by decide) ?_
                          cases hf
                          exact x_zret hx hb hlocks hC hP hS hr (Or.inr rfl) dX12_canTell_152
                  · have hf := g_pos hf hc_17
                    refine lv_iload hx hb dX12_canTell_105 (lv_at hl 2 rfl) ?_
                    refine lv_if_eq (tgt := 124) hx hb dX12_canTell_107 (by decide) (fun hc_37 => ?_) (fun hc_37 => ?_)
                    · have hf := g_pos hf hc_37
                      refine lv_iconst (v := 0) hx hb dX12_canTell_124 (by decide) ?_
                      cases hf
                      exact x_zret hx hb hlocks hC hP hS hr (Or.inl rfl) dX12_canTell_125
                    · have hf := g_neg hf hc_37
                      refine lv_iload_n hx hb dX12_canTell_110 rfl (lv_at hl 5 rfl) ?_
                      refine lv_iconst (v := 0) hx hb dX12_canTell_111 (by decide) ?_
                      refine lv_bipush (v := 23) hx hb dX12_canTell_112 (by decide) ?_
                      obtain ⟨r_38, hc_39, hf⟩ := g_letE hf
                      refine x_calli (v := (X, M, τ)) (va_runS (As := [.int x2, .int 0, .int 23]) (rest := []) ⟨hx, hb, hml, hown, hts⟩ (ct_X12_within l G X M τ x2 0 23 hc_39) (cwS 3 hts gd_X12_76 rfl rfl rfl hd_X12_within ⟨Nat.le_of_ble_eq_true rfl, Nat.le_of_ble_eq_true rfl⟩) (x_pre (u := (X, M, τ)) hC hS hP) rfl rfl hl.1 rfl (lv_room (Nat.le_of_ble_eq_true rfl)) dX12_canTell_114 ⟨Nat.le_refl _, Nat.le_refl _⟩) hS (fun H locs hP hS => ?_)
                      refine lv_if_eq (tgt := 124) hx hb dX12_canTell_117 (by decide) (fun hc_40 => ?_) (fun hc_40 => ?_)
                      · have hf := g_pos hf hc_40
                        refine lv_iconst (v := 0) hx hb dX12_canTell_124 (by decide) ?_
                        cases hf
                        exact x_zret hx hb hlocks hC hP hS hr (Or.inl rfl) dX12_canTell_125
                      · have hf := g_neg hf hc_40
                        refine lv_iconst (v := 1) hx hb dX12_canTell_120 (by decide) ?_
                        refine lv_goto (tgt := 125) hx hb dX12_canTell_121 (by decide) ?_
                        cases hf
                        exact x_zret hx hb hlocks hC hP hS hr (Or.inr rfl) dX12_canTell_125
                · have hf := g_pos hf hc_16
                  refine lv_iload_n hx hb dX12_canTell_91 rfl (lv_at hl 5 rfl) ?_
                  refine lv_iconst (v := 0) hx hb dX12_canTell_92 (by decide) ?_
                  refine lv_bipush (v := 23) hx hb dX12_canTell_93 (by decide) ?_
                  obtain ⟨r_41, hc_42, hf⟩ := g_letE hf
                  refine x_calli (v := (X, M, τ)) (va_runS (As := [.int x2, .int 0, .int 23]) (rest := []) ⟨hx, hb, hml, hown, hts⟩ (ct_X12_within l G X M τ x2 0 23 hc_42) (cwS 3 hts gd_X12_76 rfl rfl rfl hd_X12_within ⟨Nat.le_of_ble_eq_true rfl, Nat.le_of_ble_eq_true rfl⟩) (x_pre (u := (X, M, τ)) hC hS hP) rfl rfl hl.1 rfl (lv_room (Nat.le_of_ble_eq_true rfl)) dX12_canTell_95 ⟨Nat.le_refl _, Nat.le_refl _⟩) hS (fun H locs hP hS => ?_)
                  obtain ⟨hg_43, hf⟩ := g_gd hf
                  cases hf
                  exact x_zret hx hb hlocks hC hP hS hr hg_43 dX12_canTell_98
              · have hf := g_pos hf hc_15
                exact bk_X12_canTell_69 C0 r_1 r_3 hf hP hS (lv_sub hl [2, 1] rfl)
      · have hf := g_pos hf hc_11
        refine lv_iload hx hb dX12_canTell_43 (lv_at hl 2 rfl) ?_
        obtain ⟨hg_44, hf⟩ := g_gd hf
        cases hf
        exact x_zret hx hb hlocks hC hP hS hr hg_44 dX12_canTell_45
set_option maxRecDepth 100000 in
set_option maxHeartbeats 4000000 in
theorem ct_X12_canTell (l : Launch) (G : GP) (X M : SM) (τ : SL) (x0 : Int32) (x1 : Int32) (x2 : Int32) (x3 : Int32) (x4 : Int32) {r0 : Int32} (hf : fn_X12_canTell x0 x1 x2 x3 x4 = some r0) : Met l yX12_canTell (wz yX12_canTell cX12_canTell 8 (some .boolean)) rm_X12_canTell (va_Pc [.int x0, .int x1, .int x2, .int x3, .int x4] (g_pw G (X, M, τ))) (va_Qi (fun r u => r = r0 ∧ u = (X, M, τ)) (g_pw G) (g_A G)) 0 0 (g_A G) := by
  refine Met.ofW (cc := cX12_canTell) (maxL := 8) (ret := (some .boolean)) (by decide) rfl ?_
  intro p e s m args below meth c s₁ B hml hv
  obtain ⟨rfl, hC, hP⟩ := hv
  have C0 : g_mc p s m _ meth c RX12 cX12_canTell (some .boolean) 8 G := ⟨B.exec, B.bytes, B.returns, hml, findClass_of_methodNamed B.named, fun w h => atoms_spec (ws := wz yX12_canTell cX12_canTell 8 (some .boolean)) B.pre w (List.mem_cons_of_mem _ h), B.notSynchronized, hC⟩
  have hl := lv_entry ([.int x0, .int x1, .int x2, .int x3, .int x4]) (n := 8) (Nat.le_of_ble_eq_true rfl)
  rw [lg_entry_eq]
  generalize (lg_sl ([.int x0, .int x1, .int x2, .int x3, .int x4]) ++ List.replicate (8 - (lg_sl ([.int x0, .int x1, .int x2, .int x3, .int x4])).length) Slot.unset).toArray = ls at hl ⊢
  exact wk_X12_canTell C0 x0 x1 x2 x3 x4 hf hP va_S.rf hl
abbrev rm_X12_cell : Room := { frames := 2, cells := 0, slots := 0, locals := 42 }
def wb_X12_cell_26 (x1 : Int32) (x2 : Int32) (xs0 : Int32) (xs2 : Int32) (xs3 : Int32) (M : SM) : Option (Int32 × SM) :=
  if g_in xs0 6 then
  g_let (fn_X12_within xs3 xs2 ((M 44 0 (xs0.toNatClampNeg)) - 1)) fun r_13 =>
  if r_13 = 0 then
  (g_let (fn_X12_throwing 0 M) fun (r_16, M_17) =>
    if r_16 = 0 then
    (if g_in ((48 + (16 * x1)) + x2) 693 then
      some ((M_17 40 0 (((48 + (16 * x1)) + x2).toNatClampNeg)), M_17)
      else none)
    else
    (some (0, M_17)))
  else
  (g_let (fn_X12_throwing 1 M) fun (r_21, M_22) =>
    if r_21 = 0 then
    (if g_in ((48 + (16 * x1)) + x2) 693 then
      some ((M_22 40 0 (((48 + (16 * x1)) + x2).toNatClampNeg)), M_22)
      else none)
    else
    (some (0, M_22)))
  else none
set_option maxRecDepth 100000 in
set_option maxHeartbeats 4000000 in
theorem bk_X12_cell_26 {p : Program} {l : Launch} {e : Env} {s : State} {m : MethodId} {args : Array Value} {below : List Frame} {meth : Method} {c : Code} {G : GP} {X : SM} {τ : SL} (C0 : g_mc p s m args meth c RX12 cX12_cell (some .int) 3 G) {r0 : Int32} {M0 : SM} (x1 : Int32) (x2 : Int32) (xs0 : Int32) (xs2 : Int32) (xs3 : Int32) (M : SM) (hf : wb_X12_cell_26 x1 x2 xs0 xs2 xs3 M = some (r0, M0)) {H : Heap} {locs : List Loc} (hP : va_P G.1 g_cl (wd G (cb X M) τ) H) (hS : va_S (g_A G) s.heap H locs) {ls : Array Slot} (hl : lv_has ls 3 [(0, .ref (G.2.1 39 0)), (1, .int x1), (2, .int x2)]) : W p l e rm_X12_cell s m args below meth c H locs 0 0 (MQ below (va_Qi (fun r u => r = r0 ∧ u = (X, M0, τ)) (g_pw G) (g_A G)) args s 0 0 (g_A G)) (F0 m 26 ls [.int xs0, .ref (G.2.1 44 0), .int xs2, .int xs3, .ref (G.2.1 39 0)]) := by
  obtain ⟨hx, hb, hr, hml, hown, hts, hlocks, hC⟩ := id C0
  unfold wb_X12_cell_26 at hf
  obtain ⟨hg_12, hf⟩ := g_gd hf
  refine xildM (k := 44) (n := 6) hx hb hC hP (fun _ _ => rfl) rfl Nat.zero_lt_one hg_12 dX12_cell_26 ?_
  refine lv_iconst (v := 1) hx hb dX12_cell_27 (by decide) ?_
  refine lv_isub hx hb dX12_cell_28 ?_
  obtain ⟨r_13, hc_14, hf⟩ := g_letE hf
  refine x_calli (v := (X, M, τ)) (va_runS (As := [.int xs3, .int xs2, .int ((M 44 0 (xs0.toNatClampNeg)) - 1)]) (rest := [.ref (G.2.1 39 0)]) ⟨hx, hb, hml, hown, hts⟩ (ct_X12_within l G X M τ xs3 xs2 ((M 44 0 (xs0.toNatClampNeg)) - 1) hc_14) (cwS 3 hts gd_X12_76 rfl rfl rfl hd_X12_within ⟨Nat.le_of_ble_eq_true rfl, Nat.le_of_ble_eq_true rfl⟩) (x_pre (u := (X, M, τ)) hC hS hP) rfl rfl hl.1 rfl (lv_room (Nat.le_of_ble_eq_true rfl)) dX12_cell_29 ⟨Nat.le_refl _, Nat.le_refl _⟩) hS (fun H locs hP hS => ?_)
  refine lv_if_eq (tgt := 39) hx hb dX12_cell_32 (by decide) (fun hc_15 => ?_) (fun hc_15 => ?_)
  · have hf := g_pos hf hc_15
    refine lv_iconst (v := 0) hx hb dX12_cell_39 (by decide) ?_
    obtain ⟨⟨r_16, M_17⟩, hc_18, hf⟩ := g_letE hf
    refine x_calli (v := (X, M_17, τ)) (va_runV (As := [.int 0]) (rest := []) ⟨hx, hb, hml, hown, hts⟩ (ct_X12_throwing l G X M τ 0 hc_18) (cwV 1 hts gd_X12_175 rfl rfl rfl hd_X12_throwing ⟨Nat.le_of_ble_eq_true rfl, Nat.le_of_ble_eq_true rfl⟩) (x_preV (u := (X, M, τ)) (k := 39) (ci := 12) hC hS hP Nat.zero_lt_one rfl rfl) rfl rfl hl.1 rfl (lv_room (Nat.le_of_ble_eq_true rfl)) dX12_cell_40 ⟨Nat.le_refl _, Nat.le_refl _⟩) hS (fun H locs hP hS => ?_)
    refine lv_if_eq (tgt := 50) hx hb dX12_cell_43 (by decide) (fun hc_19 => ?_) (fun hc_19 => ?_)
    · have hf := g_pos hf hc_19
      refine lv_aload_n hx hb dX12_cell_50 rfl (lv_at hl 0 rfl) ?_
      refine gt_39_0 hx hb hts hown hC hP Nat.zero_lt_one q6_17 dX12_cell_51 ?_
      refine lv_bipush (v := 48) hx hb dX12_cell_54 (by decide) ?_
      refine lv_bipush (v := 16) hx hb dX12_cell_56 (by decide) ?_
      refine lv_iload_n hx hb dX12_cell_58 rfl (lv_at hl 1 rfl) ?_
      refine lv_imul hx hb dX12_cell_59 ?_
      refine lv_iadd hx hb dX12_cell_60 ?_
      refine lv_iload_n hx hb dX12_cell_61 rfl (lv_at hl 2 rfl) ?_
      refine lv_iadd hx hb dX12_cell_62 ?_
      obtain ⟨hg_20, hf⟩ := g_gd hf
      refine xildM (k := 40) (n := 693) hx hb hC hP (fun _ _ => rfl) rfl Nat.zero_lt_one hg_20 dX12_cell_63 ?_
      cases hf
      exact x_iret hx hb hlocks hC hP hS hr dX12_cell_64
    · have hf := g_neg hf hc_19
      refine lv_iconst (v := 0) hx hb dX12_cell_46 (by decide) ?_
      refine lv_goto (tgt := 64) hx hb dX12_cell_47 (by decide) ?_
      cases hf
      exact x_iret hx hb hlocks hC hP hS hr dX12_cell_64
  · have hf := g_neg hf hc_15
    refine lv_iconst (v := 1) hx hb dX12_cell_35 (by decide) ?_
    refine lv_goto (tgt := 40) hx hb dX12_cell_36 (by decide) ?_
    obtain ⟨⟨r_21, M_22⟩, hc_23, hf⟩ := g_letE hf
    refine x_calli (v := (X, M_22, τ)) (va_runV (As := [.int 1]) (rest := []) ⟨hx, hb, hml, hown, hts⟩ (ct_X12_throwing l G X M τ 1 hc_23) (cwV 1 hts gd_X12_175 rfl rfl rfl hd_X12_throwing ⟨Nat.le_of_ble_eq_true rfl, Nat.le_of_ble_eq_true rfl⟩) (x_preV (u := (X, M, τ)) (k := 39) (ci := 12) hC hS hP Nat.zero_lt_one rfl rfl) rfl rfl hl.1 rfl (lv_room (Nat.le_of_ble_eq_true rfl)) dX12_cell_40 ⟨Nat.le_refl _, Nat.le_refl _⟩) hS (fun H locs hP hS => ?_)
    refine lv_if_eq (tgt := 50) hx hb dX12_cell_43 (by decide) (fun hc_24 => ?_) (fun hc_24 => ?_)
    · have hf := g_pos hf hc_24
      refine lv_aload_n hx hb dX12_cell_50 rfl (lv_at hl 0 rfl) ?_
      refine gt_39_0 hx hb hts hown hC hP Nat.zero_lt_one q6_17 dX12_cell_51 ?_
      refine lv_bipush (v := 48) hx hb dX12_cell_54 (by decide) ?_
      refine lv_bipush (v := 16) hx hb dX12_cell_56 (by decide) ?_
      refine lv_iload_n hx hb dX12_cell_58 rfl (lv_at hl 1 rfl) ?_
      refine lv_imul hx hb dX12_cell_59 ?_
      refine lv_iadd hx hb dX12_cell_60 ?_
      refine lv_iload_n hx hb dX12_cell_61 rfl (lv_at hl 2 rfl) ?_
      refine lv_iadd hx hb dX12_cell_62 ?_
      obtain ⟨hg_25, hf⟩ := g_gd hf
      refine xildM (k := 40) (n := 693) hx hb hC hP (fun _ _ => rfl) rfl Nat.zero_lt_one hg_25 dX12_cell_63 ?_
      cases hf
      exact x_iret hx hb hlocks hC hP hS hr dX12_cell_64
    · have hf := g_neg hf hc_24
      refine lv_iconst (v := 0) hx hb dX12_cell_46 (by decide) ?_
      refine lv_goto (tgt := 64) hx hb dX12_cell_47 (by decide) ?_
      cases hf
      exact x_iret hx hb hlocks hC hP hS hr dX12_cell_64
def fn_X12_cell (x1 : Int32) (x2 : Int32) (M : SM) : Option (Int32 × SM) :=
  (fn_X12_isThread x1).bind fun r_1 =>
  if r_1 = 0 then
  (g_let (fn_X12_throwing 0 M) fun (r_4, M_5) =>
    if r_4 = 0 then
    (if g_in ((48 + (16 * x1)) + x2) 693 then
      some ((M_5 40 0 (((48 + (16 * x1)) + x2).toNatClampNeg)), M_5)
      else none)
    else
    (some (0, M_5)))
  else
  ((fn_X12_isThread x1).bind fun r_9 =>
    if r_9 = 0 then
    (wb_X12_cell_26 x1 x2 0 0 x2 M)
    else
    (wb_X12_cell_26 x1 x2 x1 0 x2 M))
set_option maxRecDepth 100000 in
set_option maxHeartbeats 4000000 in
theorem wk_X12_cell {p : Program} {l : Launch} {e : Env} {s : State} {m : MethodId} {args : Array Value} {below : List Frame} {meth : Method} {c : Code} {G : GP} {X : SM} {τ : SL} (C0 : g_mc p s m args meth c RX12 cX12_cell (some .int) 3 G) {r0 : Int32} {M0 : SM} (x1 : Int32) (x2 : Int32) (M : SM) (hf : fn_X12_cell x1 x2 M = some (r0, M0)) {H : Heap} {locs : List Loc} (hP : va_P G.1 g_cl (wd G (cb X M) τ) H) (hS : va_S (g_A G) s.heap H locs) {ls : Array Slot} (hl : lv_has ls 3 [(0, .ref (G.2.1 39 0)), (1, .int x1), (2, .int x2)]) : W p l e rm_X12_cell s m args below meth c H locs 0 0 (MQ below (va_Qi (fun r u => r = r0 ∧ u = (X, M0, τ)) (g_pw G) (g_A G)) args s 0 0 (g_A G)) (F0 m 0 ls []) := by
  obtain ⟨hx, hb, hr, hml, hown, hts, hlocks, hC⟩ := id C0
  unfold fn_X12_cell at hf
  refine lv_aload_n hx hb dX12_cell_0 rfl (lv_at hl 0 rfl) ?_
  refine lv_iload_n hx hb dX12_cell_1 rfl (lv_at hl 1 rfl) ?_
  obtain ⟨r_1, hc_2, hf⟩ := g_bindE hf
  refine x_calli (v := (X, M, τ)) (va_runS (As := [.int x1]) (rest := [.ref (G.2.1 39 0)]) ⟨hx, hb, hml, hown, hts⟩ (ct_X12_isThread l G X M τ x1 hc_2) (cwS 1 hts gd_X12_80 rfl rfl rfl hd_X12_isThread ⟨Nat.le_of_ble_eq_true rfl, Nat.le_of_ble_eq_true rfl⟩) (x_pre (u := (X, M, τ)) hC hS hP) rfl rfl hl.1 rfl (lv_room (Nat.le_of_ble_eq_true rfl)) dX12_cell_2 ⟨Nat.le_refl _, Nat.le_refl _⟩) hS (fun H locs hP hS => ?_)
  refine lv_if_eq (tgt := 39) hx hb dX12_cell_5 (by decide) (fun hc_3 => ?_) (fun hc_3 => ?_)
  · have hf := g_pos hf hc_3
    refine lv_iconst (v := 0) hx hb dX12_cell_39 (by decide) ?_
    obtain ⟨⟨r_4, M_5⟩, hc_6, hf⟩ := g_letE hf
    refine x_calli (v := (X, M_5, τ)) (va_runV (As := [.int 0]) (rest := []) ⟨hx, hb, hml, hown, hts⟩ (ct_X12_throwing l G X M τ 0 hc_6) (cwV 1 hts gd_X12_175 rfl rfl rfl hd_X12_throwing ⟨Nat.le_of_ble_eq_true rfl, Nat.le_of_ble_eq_true rfl⟩) (x_preV (u := (X, M, τ)) (k := 39) (ci := 12) hC hS hP Nat.zero_lt_one rfl rfl) rfl rfl hl.1 rfl (lv_room (Nat.le_of_ble_eq_true rfl)) dX12_cell_40 ⟨Nat.le_refl _, Nat.le_refl _⟩) hS (fun H locs hP hS => ?_)
    refine lv_if_eq (tgt := 50) hx hb dX12_cell_43 (by decide) (fun hc_7 => ?_) (fun hc_7 => ?_)
    · have hf := g_pos hf hc_7
      refine lv_aload_n hx hb dX12_cell_50 rfl (lv_at hl 0 rfl) ?_
      refine gt_39_0 hx hb hts hown hC hP Nat.zero_lt_one q6_17 dX12_cell_51 ?_
      refine lv_bipush (v := 48) hx hb dX12_cell_54 (by decide) ?_
      refine lv_bipush (v := 16) hx hb dX12_cell_56 (by decide) ?_
      refine lv_iload_n hx hb dX12_cell_58 rfl (lv_at hl 1 rfl) ?_
      refine lv_imul hx hb dX12_cell_59 ?_
      refine lv_iadd hx hb dX12_cell_60 ?_
      refine lv_iload_n hx hb dX12_cell_61 rfl (lv_at hl 2 rfl) ?_
      refine lv_iadd hx hb dX12_cell_62 ?_
      obtain ⟨hg_8, hf⟩ := g_gd hf
      refine xildM (k := 40) (n := 693) hx hb hC hP (fun _ _ => rfl) rfl Nat.zero_lt_one hg_8 dX12_cell_63 ?_
      cases hf
      exact x_iret hx hb hlocks hC hP hS hr dX12_cell_64
    · have hf := g_neg hf hc_7
      refine lv_iconst (v := 0) hx hb dX12_cell_46 (by decide) ?_
      refine lv_goto (tgt := 64) hx hb dX12_cell_47 (by decide) ?_
      cases hf
      exact x_iret hx hb hlocks hC hP hS hr dX12_cell_64
  · have hf := g_neg hf hc_3
    refine lv_iload_n hx hb dX12_cell_8 rfl (lv_at hl 2 rfl) ?_
    refine lv_iconst (v := 0) hx hb dX12_cell_9 (by decide) ?_
    refine lv_aload_n hx hb dX12_cell_10 rfl (lv_at hl 0 rfl) ?_
    refine gt_39_4 hx hb hts hown hC hP Nat.zero_lt_one q6_21 dX12_cell_11 ?_
    refine lv_iload_n hx hb dX12_cell_14 rfl (lv_at hl 1 rfl) ?_
    obtain ⟨r_9, hc_10, hf⟩ := g_bindE hf
    refine x_calli (v := (X, M, τ)) (va_runS (As := [.int x1]) (rest := [.ref (G.2.1 44 0), .int 0, .int x2, .ref (G.2.1 39 0)]) ⟨hx, hb, hml, hown, hts⟩ (ct_X12_isThread l G X M τ x1 hc_10) (cwS 1 hts gd_X12_80 rfl rfl rfl hd_X12_isThread ⟨Nat.le_of_ble_eq_true rfl, Nat.le_of_ble_eq_true rfl⟩) (x_pre (u := (X, M, τ)) hC hS hP) rfl rfl hl.1 rfl (lv_room (Nat.le_of_ble_eq_true rfl)) dX12_cell_15 ⟨Nat.le_refl _, Nat.le_refl _⟩) hS (fun H locs hP hS => ?_)
    refine lv_if_eq (tgt := 25) hx hb dX12_cell_18 (by decide) (fun hc_11 => ?_) (fun hc_11 => ?_)
    · have hf := g_pos hf hc_11
      refine lv_iconst (v := 0) hx hb dX12_cell_25 (by decide) ?_
      exact bk_X12_cell_26 C0 x1 x2 0 0 x2 M hf hP hS (lv_sub hl [0, 1, 2] rfl)
    · have hf := g_neg hf hc_11
      refine lv_iload_n hx hb dX12_cell_21 rfl (lv_at hl 1 rfl) ?_
      refine lv_goto (tgt := 26) hx hb dX12_cell_22 (by decide) ?_
      exact bk_X12_cell_26 C0 x1 x2 x1 0 x2 M hf hP hS (lv_sub hl [0, 1, 2] rfl)
set_option maxRecDepth 100000 in
set_option maxHeartbeats 4000000 in
theorem ct_X12_cell (l : Launch) (G : GP) (X M : SM) (τ : SL) (x1 : Int32) (x2 : Int32) {r0 : Int32} {M0 : SM} (hf : fn_X12_cell x1 x2 M = some (r0, M0)) : Met l yX12_cell (wz yX12_cell cX12_cell 3 (some .int)) rm_X12_cell (va_Pc [.ref (G.2.1 39 0), .int x1, .int x2] (g_pw G (X, M, τ))) (va_Qi (fun r u => r = r0 ∧ u = (X, M0, τ)) (g_pw G) (g_A G)) 0 0 (g_A G) := by
  refine Met.ofW (cc := cX12_cell) (maxL := 3) (ret := (some .int)) (by decide) rfl ?_
  intro p e s m args below meth c s₁ B hml hv
  obtain ⟨rfl, hC, hP⟩ := hv
  have C0 : g_mc p s m _ meth c RX12 cX12_cell (some .int) 3 G := ⟨B.exec, B.bytes, B.returns, hml, findClass_of_methodNamed B.named, fun w h => atoms_spec (ws := wz yX12_cell cX12_cell 3 (some .int)) B.pre w (List.mem_cons_of_mem _ h), B.notSynchronized, hC⟩
  have hl := lv_entry ([.ref (G.2.1 39 0), .int x1, .int x2]) (n := 3) (Nat.le_of_ble_eq_true rfl)
  rw [lg_entry_eq]
  generalize (lg_sl ([.ref (G.2.1 39 0), .int x1, .int x2]) ++ List.replicate (3 - (lg_sl ([.ref (G.2.1 39 0), .int x1, .int x2])).length) Slot.unset).toArray = ls at hl ⊢
  exact wk_X12_cell C0 x1 x2 M hf hP va_S.rf hl
abbrev rm_X12_channel : Room := { frames := 1, cells := 0, slots := 0, locals := 22 }
def wb_X12_channel_57 (x2 : Int32) (x3 : Int32) (xs0 : Int32) (M : SM) : Option (Int32 × SM) :=
  if x2 = 2 then
  (some (xs0, M))
  else
  (if xs0 < 0 then
    (some (0, M))
    else
    (if g_in (438 + xs0) 693 then
      if x2 = 0 then
      (if (M 40 0 ((438 + xs0).toNatClampNeg)) = 2 then
        (some (x3, M))
        else
        (some (0, M)))
      else
      (if (M 40 0 ((438 + xs0).toNatClampNeg)) = 3 then
        (some (x3, M))
        else
        (some (0, M)))
      else none))
set_option maxRecDepth 100000 in
set_option maxHeartbeats 4000000 in
theorem bk_X12_channel_57 {p : Program} {l : Launch} {e : Env} {s : State} {m : MethodId} {args : Array Value} {below : List Frame} {meth : Method} {c : Code} {G : GP} {X : SM} {τ : SL} (C0 : g_mc p s m args meth c RX12 cX12_channel (some .int) 5 G) {r0 : Int32} {M0 : SM} (x2 : Int32) (x3 : Int32) (xs0 : Int32) (M : SM) (hf : wb_X12_channel_57 x2 x3 xs0 M = some (r0, M0)) {H : Heap} {locs : List Loc} (hP : va_P G.1 g_cl (wd G (cb X M) τ) H) (hS : va_S (g_A G) s.heap H locs) {ls : Array Slot} (hl : lv_has ls 5 [(0, .ref (G.2.1 39 0)), (2, .int x2), (3, .int x3)]) : W p l e rm_X12_channel s m args below meth c H locs 0 0 (MQ below (va_Qi (fun r u => r = r0 ∧ u = (X, M0, τ)) (g_pw G) (g_A G)) args s 0 0 (g_A G)) (F0 m 57 ls [.int xs0]) := by
  obtain ⟨hx, hb, hr, hml, hown, hts, hlocks, hC⟩ := id C0
  unfold wb_X12_channel_57 at hf
  refine lv_istore (lv' := [(4, .int xs0), (0, .ref (G.2.1 39 0)), (2, .int x2), (3, .int x3)]) hx hb dX12_channel_57 hl (by decide) rfl (fun ls hl => ?_)
  refine lv_iload_n hx hb dX12_channel_59 rfl (lv_at hl 2 rfl) ?_
  refine lv_iconst (v := 2) hx hb dX12_channel_60 (by decide) ?_
  refine lv_icmp_ne (tgt := 67) hx hb dX12_channel_61 (by decide) (fun hc_12 => ?_) (fun hc_12 => ?_)
  · have hf := g_neg hf hc_12
    refine lv_iload hx hb dX12_channel_67 (lv_at hl 0 rfl) ?_
    refine lv_if_lt (tgt := 99) hx hb dX12_channel_69 (by decide) (fun hc_13 => ?_) (fun hc_13 => ?_)
    · have hf := g_pos hf hc_13
      refine lv_iconst (v := 0) hx hb dX12_channel_99 (by decide) ?_
      cases hf
      exact x_iret hx hb hlocks hC hP hS hr dX12_channel_100
    · have hf := g_neg hf hc_13
      refine lv_aload_n hx hb dX12_channel_72 rfl (lv_at hl 1 rfl) ?_
      refine gt_39_0 hx hb hts hown hC hP Nat.zero_lt_one q6_17 dX12_channel_73 ?_
      refine lv_sipush (v := 438) hx hb dX12_channel_76 (by decide) ?_
      refine lv_iload hx hb dX12_channel_79 (lv_at hl 0 rfl) ?_
      refine lv_iadd hx hb dX12_channel_81 ?_
      obtain ⟨hg_14, hf⟩ := g_gd hf
      refine xildM (k := 40) (n := 693) hx hb hC hP (fun _ _ => rfl) rfl Nat.zero_lt_one hg_14 dX12_channel_82 ?_
      refine lv_iload_n hx hb dX12_channel_83 rfl (lv_at hl 2 rfl) ?_
      refine lv_if_ne (tgt := 91) hx hb dX12_channel_84 (by decide) (fun hc_15 => ?_) (fun hc_15 => ?_)
      · have hf := g_neg hf hc_15
        refine lv_iconst (v := 3) hx hb dX12_channel_91 (by decide) ?_
        refine lv_icmp_ne (tgt := 99) hx hb dX12_channel_92 (by decide) (fun hc_16 => ?_) (fun hc_16 => ?_)
        · have hf := g_neg hf hc_16
          refine lv_iconst (v := 0) hx hb dX12_channel_99 (by decide) ?_
          cases hf
          exact x_iret hx hb hlocks hC hP hS hr dX12_channel_100
        · have hf := g_pos hf hc_16
          refine lv_iload_n hx hb dX12_channel_95 rfl (lv_at hl 3 rfl) ?_
          refine lv_goto (tgt := 100) hx hb dX12_channel_96 (by decide) ?_
          cases hf
          exact x_iret hx hb hlocks hC hP hS hr dX12_channel_100
      · have hf := g_pos hf hc_15
        refine lv_iconst (v := 2) hx hb dX12_channel_87 (by decide) ?_
        refine lv_goto (tgt := 92) hx hb dX12_channel_88 (by decide) ?_
        refine lv_icmp_ne (tgt := 99) hx hb dX12_channel_92 (by decide) (fun hc_17 => ?_) (fun hc_17 => ?_)
        · have hf := g_neg hf hc_17
          refine lv_iconst (v := 0) hx hb dX12_channel_99 (by decide) ?_
          cases hf
          exact x_iret hx hb hlocks hC hP hS hr dX12_channel_100
        · have hf := g_pos hf hc_17
          refine lv_iload_n hx hb dX12_channel_95 rfl (lv_at hl 3 rfl) ?_
          refine lv_goto (tgt := 100) hx hb dX12_channel_96 (by decide) ?_
          cases hf
          exact x_iret hx hb hlocks hC hP hS hr dX12_channel_100
  · have hf := g_pos hf hc_12
    refine lv_iload hx hb dX12_channel_64 (lv_at hl 0 rfl) ?_
    cases hf
    exact x_iret hx hb hlocks hC hP hS hr dX12_channel_66
def fn_X12_channel (x1 : Int32) (x2 : Int32) (M : SM) : Option (Int32 × SM) :=
  g_let (u1 M 39 0 15 0) fun M_1 =>
  g_let (fn_X12_within x1 0 3) fun r_2 =>
  if r_2 = 0 then
  (some ((-1), M_1))
  else
  (g_let (fn_X12_within x2 0 2) fun r_5 =>
    if r_5 = 0 then
    (some ((-1), M_1))
    else
    (if g_in (518 + x1) 693 then
      g_let ((M_1 40 0 ((518 + x1).toNatClampNeg))) fun x3_9 =>
      if x3_9 ≤ 0 then
      (wb_X12_channel_57 x2 x3_9 (-1) M_1)
      else
      (if g_in (494 + (6 * x1)) 693 then
        wb_X12_channel_57 x2 x3_9 (M_1 40 0 ((494 + (6 * x1)).toNatClampNeg)) M_1
        else none)
      else none))
set_option maxRecDepth 100000 in
set_option maxHeartbeats 4000000 in
theorem wk_X12_channel {p : Program} {l : Launch} {e : Env} {s : State} {m : MethodId} {args : Array Value} {below : List Frame} {meth : Method} {c : Code} {G : GP} {X : SM} {τ : SL} (C0 : g_mc p s m args meth c RX12 cX12_channel (some .int) 5 G) {r0 : Int32} {M0 : SM} (x1 : Int32) (x2 : Int32) (M : SM) (hf : fn_X12_channel x1 x2 M = some (r0, M0)) {H : Heap} {locs : List Loc} (hP : va_P G.1 g_cl (wd G (cb X M) τ) H) (hS : va_S (g_A G) s.heap H locs) {ls : Array Slot} (hl : lv_has ls 5 [(0, .ref (G.2.1 39 0)), (1, .int x1), (2, .int x2)]) : W p l e rm_X12_channel s m args below meth c H locs 0 0 (MQ below (va_Qi (fun r u => r = r0 ∧ u = (X, M0, τ)) (g_pw G) (g_A G)) args s 0 0 (g_A G)) (F0 m 0 ls []) := by
  obtain ⟨hx, hb, hr, hml, hown, hts, hlocks, hC⟩ := id C0
  unfold fn_X12_channel at hf
  refine lv_aload_n hx hb dX12_channel_0 rfl (lv_at hl 0 rfl) ?_
  refine lv_iconst (v := 0) hx hb dX12_channel_1 (by decide) ?_
  obtain ⟨M_1, eM_1, hf⟩ := g_letE hf
  refine pt_39_15 hx hb hts hown hC hP hS Nat.zero_lt_one q8_18 dX12_channel_2 (fun H locs hP hS => ?_)
  rw [eM_1] at hP
  refine lv_iload_n hx hb dX12_channel_5 rfl (lv_at hl 1 rfl) ?_
  refine lv_iconst (v := 0) hx hb dX12_channel_6 (by decide) ?_
  refine lv_iconst (v := 3) hx hb dX12_channel_7 (by decide) ?_
  obtain ⟨r_2, hc_3, hf⟩ := g_letE hf
  refine x_calli (v := (X, M_1, τ)) (va_runS (As := [.int x1, .int 0, .int 3]) (rest := []) ⟨hx, hb, hml, hown, hts⟩ (ct_X12_within l G X M_1 τ x1 0 3 hc_3) (cwS 3 hts gd_X12_76 rfl rfl rfl hd_X12_within ⟨Nat.le_of_ble_eq_true rfl, Nat.le_of_ble_eq_true rfl⟩) (x_pre (u := (X, M_1, τ)) hC hS hP) rfl rfl hl.1 rfl (lv_room (Nat.le_of_ble_eq_true rfl)) dX12_channel_8 ⟨Nat.le_refl _, Nat.le_refl _⟩) hS (fun H locs hP hS => ?_)
  refine lv_if_eq (tgt := 23) hx hb dX12_channel_11 (by decide) (fun hc_4 => ?_) (fun hc_4 => ?_)
  · have hf := g_pos hf hc_4
    refine lv_iconst (v := (-1)) hx hb dX12_channel_23 (by decide) ?_
    cases hf
    exact x_iret hx hb hlocks hC hP hS hr dX12_channel_24
  · have hf := g_neg hf hc_4
    refine lv_iload_n hx hb dX12_channel_14 rfl (lv_at hl 2 rfl) ?_
    refine lv_iconst (v := 0) hx hb dX12_channel_15 (by decide) ?_
    refine lv_iconst (v := 2) hx hb dX12_channel_16 (by decide) ?_
    obtain ⟨r_5, hc_6, hf⟩ := g_letE hf
    refine x_calli (v := (X, M_1, τ)) (va_runS (As := [.int x2, .int 0, .int 2]) (rest := []) ⟨hx, hb, hml, hown, hts⟩ (ct_X12_within l G X M_1 τ x2 0 2 hc_6) (cwS 3 hts gd_X12_76 rfl rfl rfl hd_X12_within ⟨Nat.le_of_ble_eq_true rfl, Nat.le_of_ble_eq_true rfl⟩) (x_pre (u := (X, M_1, τ)) hC hS hP) rfl rfl hl.1 rfl (lv_room (Nat.le_of_ble_eq_true rfl)) dX12_channel_17 ⟨Nat.le_refl _, Nat.le_refl _⟩) hS (fun H locs hP hS => ?_)
    refine lv_if_ne (tgt := 25) hx hb dX12_channel_20 (by decide) (fun hc_7 => ?_) (fun hc_7 => ?_)
    · have hf := g_neg hf hc_7
      refine lv_aload_n hx hb dX12_channel_25 rfl (lv_at hl 0 rfl) ?_
      refine gt_39_0 hx hb hts hown hC hP Nat.zero_lt_one q6_17 dX12_channel_26 ?_
      refine lv_sipush (v := 518) hx hb dX12_channel_29 (by decide) ?_
      refine lv_iload_n hx hb dX12_channel_32 rfl (lv_at hl 1 rfl) ?_
      refine lv_iadd hx hb dX12_channel_33 ?_
      obtain ⟨hg_8, hf⟩ := g_gd hf
      refine xildM (k := 40) (n := 693) hx hb hC hP (fun _ _ => rfl) rfl Nat.zero_lt_one hg_8 dX12_channel_34 ?_
      obtain ⟨x3_9, ex3_9, hf⟩ := g_letE hf
      refine lv_topE ex3_9 ?_
      refine lv_istore_n (lv' := [(3, .int x3_9), (0, .ref (G.2.1 39 0)), (1, .int x1), (2, .int x2)]) hx hb dX12_channel_35 rfl hl (by decide) rfl (fun ls hl => ?_)
      refine lv_iload_n hx hb dX12_channel_36 rfl (lv_at hl 0 rfl) ?_
      refine lv_if_le (tgt := 56) hx hb dX12_channel_37 (by decide) (fun hc_10 => ?_) (fun hc_10 => ?_)
      · have hf := g_pos hf hc_10
        refine lv_iconst (v := (-1)) hx hb dX12_channel_56 (by decide) ?_
        exact bk_X12_channel_57 C0 x2 x3_9 (-1) M_1 hf hP hS (lv_sub hl [1, 3, 0] rfl)
      · have hf := g_neg hf hc_10
        refine lv_aload_n hx hb dX12_channel_40 rfl (lv_at hl 1 rfl) ?_
        refine gt_39_0 hx hb hts hown hC hP Nat.zero_lt_one q6_17 dX12_channel_41 ?_
        refine lv_sipush (v := 494) hx hb dX12_channel_44 (by decide) ?_
        refine lv_bipush (v := 6) hx hb dX12_channel_47 (by decide) ?_
        refine lv_iload_n hx hb dX12_channel_49 rfl (lv_at hl 2 rfl) ?_
        refine lv_imul hx hb dX12_channel_50 ?_
        refine lv_iadd hx hb dX12_channel_51 ?_
        obtain ⟨hg_11, hf⟩ := g_gd hf
        refine xildM (k := 40) (n := 693) hx hb hC hP (fun _ _ => rfl) rfl Nat.zero_lt_one hg_11 dX12_channel_52 ?_
        refine lv_goto (tgt := 57) hx hb dX12_channel_53 (by decide) ?_
        exact bk_X12_channel_57 C0 x2 x3_9 (M_1 40 0 ((494 + (6 * x1)).toNatClampNeg)) M_1 hf hP hS (lv_sub hl [1, 3, 0] rfl)
    · have hf := g_pos hf hc_7
      refine lv_iconst (v := (-1)) hx hb dX12_channel_23 (by decide) ?_
      cases hf
      exact x_iret hx hb hlocks hC hP hS hr dX12_channel_24
set_option maxRecDepth 100000 in
set_option maxHeartbeats 4000000 in
theorem ct_X12_channel (l : Launch) (G : GP) (X M : SM) (τ : SL) (x1 : Int32) (x2 : Int32) {r0 : Int32} {M0 : SM} (hf : fn_X12_channel x1 x2 M = some (r0, M0)) : Met l yX12_channel (wz yX12_channel cX12_channel 5 (some .int)) rm_X12_channel (va_Pc [.ref (G.2.1 39 0), .int x1, .int x2] (g_pw G (X, M, τ))) (va_Qi (fun r u => r = r0 ∧ u = (X, M0, τ)) (g_pw G) (g_A G)) 0 0 (g_A G) := by
  refine Met.ofW (cc := cX12_channel) (maxL := 5) (ret := (some .int)) (by decide) rfl ?_
  intro p e s m args below meth c s₁ B hml hv
  obtain ⟨rfl, hC, hP⟩ := hv
  have C0 : g_mc p s m _ meth c RX12 cX12_channel (some .int) 5 G := ⟨B.exec, B.bytes, B.returns, hml, findClass_of_methodNamed B.named, fun w h => atoms_spec (ws := wz yX12_channel cX12_channel 5 (some .int)) B.pre w (List.mem_cons_of_mem _ h), B.notSynchronized, hC⟩
  have hl := lv_entry ([.ref (G.2.1 39 0), .int x1, .int x2]) (n := 5) (Nat.le_of_ble_eq_true rfl)
  rw [lg_entry_eq]
  generalize (lg_sl ([.ref (G.2.1 39 0), .int x1, .int x2]) ++ List.replicate (5 - (lg_sl ([.ref (G.2.1 39 0), .int x1, .int x2])).length) Slot.unset).toArray = ls at hl ⊢
  exact wk_X12_channel C0 x1 x2 M hf hP va_S.rf hl
