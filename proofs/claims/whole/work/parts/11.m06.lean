abbrev rm_X12_counted : Room := { frames := 32, cells := 0, slots := 0, locals := 1015 }
def wb_X12_counted_2 (k2 : Int32 → Int32 → Int32 → SM → SL → Option (Int32 × SM × SL)) (x1 : Int32) (x2 : Int32) (x3 : Int32) (M : SM) (τ : SL) : Option (Int32 × SM × SL) :=
  if 625 ≤ x3 then
  (if x2 = 0 ∨ x2 = 1 then
    g_let (u1 M 39 0 20 x2) fun M_3 =>
    if g_in x1 6 then
    (fr_X12_takesFrom 30 x1 0 (M_3 43 0 (x1.toNatClampNeg)) M_3 τ).bind fun (r_5, τ_6) =>
    some ((Int64.toInt32 r_5), M_3, τ_6)
    else none
    else none)
  else
  (if g_in x3 625 then
    g_let (ul1 τ 56 0 (x3.toNatClampNeg) (-1)) fun τ_9 =>
    g_let (x3 + 1) fun x3_10 =>
    k2 x1 x2 x3_10 M τ_9
    else none)
set_option maxRecDepth 100000 in
set_option maxHeartbeats 4000000 in
theorem bk_X12_counted_2 {p : Program} {l : Launch} {e : Env} {s : State} {m : MethodId} {args : Array Value} {below : List Frame} {meth : Method} {c : Code} {G : GP} {X : SM} (C0 : g_mc p s m args meth c RX12 cX12_counted (some .int) 4 G) {r0 : Int32} {M0 : SM} {τ0 : SL} (k2 : Int32 → Int32 → Int32 → SM → SL → Option (Int32 × SM × SL)) (hk2 : ∀ (x1 : Int32) (x2 : Int32) (x3 : Int32) (M : SM) (τ : SL), k2 x1 x2 x3 M τ = some (r0, M0, τ0) → ∀ {H : Heap} {locs : List Loc}, va_P G.1 g_cl (wd G (cb X M) τ) H → va_S (g_A G) s.heap H locs → ∀ {ls : Array Slot}, lv_has ls 4 [(0, .ref (G.2.1 39 0)), (1, .int x1), (2, .int x2), (3, .int x3)] → W p l e rm_X12_counted s m args below meth c H locs 0 0 (MQ below (va_Qi (fun r u => r = r0 ∧ u = (X, M0, τ0)) (g_pw G) (g_A G)) args s 0 0 (g_A G)) (F0 m 2 ls [])) (x1 : Int32) (x2 : Int32) (x3 : Int32) (M : SM) (τ : SL) (hf : wb_X12_counted_2 k2 x1 x2 x3 M τ = some (r0, M0, τ0)) {H : Heap} {locs : List Loc} (hP : va_P G.1 g_cl (wd G (cb X M) τ) H) (hS : va_S (g_A G) s.heap H locs) {ls : Array Slot} (hl : lv_has ls 4 [(0, .ref (G.2.1 39 0)), (1, .int x1), (2, .int x2), (3, .int x3)]) : W p l e rm_X12_counted s m args below meth c H locs 0 0 (MQ below (va_Qi (fun r u => r = r0 ∧ u = (X, M0, τ0)) (g_pw G) (g_A G)) args s 0 0 (g_A G)) (F0 m 2 ls []) := by
  obtain ⟨hx, hb, hr, hml, hown, hts, hlocks, hC⟩ := id C0
  unfold wb_X12_counted_2 at hf
  refine lv_iload_n hx hb dX12_counted_2 rfl (lv_at hl 3 rfl) ?_
  refine lv_sipush (v := 625) hx hb dX12_counted_3 (by decide) ?_
  refine lv_icmp_ge (tgt := 24) hx hb dX12_counted_6 (by decide) (fun hc_1 => ?_) (fun hc_1 => ?_)
  · have hf := g_pos hf hc_1
    refine lv_aload_n hx hb dX12_counted_24 rfl (lv_at hl 0 rfl) ?_
    refine lv_iload_n hx hb dX12_counted_25 rfl (lv_at hl 2 rfl) ?_
    obtain ⟨hg_2, hf⟩ := g_gd hf
    obtain ⟨M_3, eM_3, hf⟩ := g_letE hf
    refine pt_39_20 hx hb hts hown hC hP hS Nat.zero_lt_one q39_11 hg_2 dX12_counted_26 (fun H locs hP hS => ?_)
    rw [eM_3] at hP
    refine lv_aload_n hx hb dX12_counted_29 rfl (lv_at hl 0 rfl) ?_
    refine lv_iload_n hx hb dX12_counted_30 rfl (lv_at hl 1 rfl) ?_
    refine lv_iconst (v := 0) hx hb dX12_counted_31 (by decide) ?_
    refine lv_aload_n hx hb dX12_counted_32 rfl (lv_at hl 0 rfl) ?_
    refine gt_39_3 hx hb hts hown hC hP Nat.zero_lt_one q6_20 dX12_counted_33 ?_
    refine lv_iload_n hx hb dX12_counted_36 rfl (lv_at hl 1 rfl) ?_
    obtain ⟨hg_4, hf⟩ := g_gd hf
    refine xildM (k := 43) (n := 6) hx hb hC hP (fun _ _ => rfl) rfl Nat.zero_lt_one hg_4 dX12_counted_37 ?_
    obtain ⟨⟨r_5, τ_6⟩, hc_7, hf⟩ := g_bindE hf
    refine x_calll (v := (X, M_3, τ_6)) (va_runV (As := [.int x1, .int 0, .int (M_3 43 0 (x1.toNatClampNeg))]) (rest := []) ⟨hx, hb, hml, hown, hts⟩ (ct_X12_takesFrom l G 30 X M_3 τ x1 0 (M_3 43 0 (x1.toNatClampNeg)) hc_7) (cwV 3 hts gd_X12_188 rfl rfl rfl hd_X12_takesFrom ⟨Nat.le_of_ble_eq_true rfl, Nat.le_of_ble_eq_true rfl⟩) (x_preV (u := (X, M_3, τ)) (k := 39) (ci := 12) hC hS hP Nat.zero_lt_one rfl rfl) rfl rfl hl.1 rfl (lv_room (Nat.le_of_ble_eq_true rfl)) dX12_counted_38 ⟨Nat.zero_le _, Nat.zero_le _⟩) hS (fun H locs hP hS => ?_)
    refine lv_l2i hx hb dX12_counted_41 rfl ?_
    cases hf
    exact x_iret hx hb hlocks hC hP hS hr dX12_counted_42
  · have hf := g_neg hf hc_1
    refine lv_aload_n hx hb dX12_counted_9 rfl (lv_at hl 0 rfl) ?_
    refine gt_39_19 hx hb hts hown hC hP Nat.zero_lt_one q7_11 dX12_counted_10 ?_
    refine lv_iload_n hx hb dX12_counted_13 rfl (lv_at hl 3 rfl) ?_
    refine lv_ldc2 (v := -1) hx hb hown (hts _ q39_10) dX12_counted_14 ?_
    obtain ⟨hg_8, hf⟩ := g_gd hf
    obtain ⟨τ_9, eτ_9, hf⟩ := g_letE hf
    refine xlst (k := 56) (n := 625) hx hb hC hP hS (fun _ _ => rfl) Nat.zero_lt_one hg_8 dX12_counted_17 (fun H locs hP hS => ?_)
    rw [eτ_9] at hP
    obtain ⟨x3_10, ex3_10, hf⟩ := g_letE hf
    refine lv_iinc (v := x3_10) (lv' := [(3, .int x3_10), (0, .ref (G.2.1 39 0)), (1, .int x1), (2, .int x2)]) hx hb dX12_counted_18 hl (k := 3) rfl (by rw [← ex3_10]; rfl) (by decide) rfl (fun ls hl => ?_)
    refine lv_goto (tgt := 2) hx hb dX12_counted_21 (by decide) ?_
    exact hk2 x1 x2 x3_10 M τ_9 hf hP hS (lv_sub hl [1, 2, 3, 0] rfl)
def wl_X12_counted_2 (n : Nat) (x1 : Int32) (x2 : Int32) (x3 : Int32) (M : SM) (τ : SL) : Option (Int32 × SM × SL) := g_loop (α := Int32 × Int32 × Int32 × SM × SL) (fun k a => wb_X12_counted_2 (fun x1 x2 x3 M τ => k (x1, x2, x3, M, τ)) a.1 a.2.1 a.2.2.1 a.2.2.2.1 a.2.2.2.2) n (x1, x2, x3, M, τ)
set_option maxRecDepth 100000 in
set_option maxHeartbeats 4000000 in
theorem lp_X12_counted_2 {p : Program} {l : Launch} {e : Env} {s : State} {m : MethodId} {args : Array Value} {below : List Frame} {meth : Method} {c : Code} {G : GP} {X : SM} (C0 : g_mc p s m args meth c RX12 cX12_counted (some .int) 4 G) {r0 : Int32} {M0 : SM} {τ0 : SL} (n : Nat) : ∀ (x1 : Int32) (x2 : Int32) (x3 : Int32) (M : SM) (τ : SL), wl_X12_counted_2 n x1 x2 x3 M τ = some (r0, M0, τ0) → ∀ {H : Heap} {locs : List Loc}, va_P G.1 g_cl (wd G (cb X M) τ) H → va_S (g_A G) s.heap H locs → ∀ {ls : Array Slot}, lv_has ls 4 [(0, .ref (G.2.1 39 0)), (1, .int x1), (2, .int x2), (3, .int x3)] → W p l e rm_X12_counted s m args below meth c H locs 0 0 (MQ below (va_Qi (fun r u => r = r0 ∧ u = (X, M0, τ0)) (g_pw G) (g_A G)) args s 0 0 (g_A G)) (F0 m 2 ls []) := by
  induction n with
  | zero =>
    intro x1 x2 x3 M τ hf
    have hf : (none : Option (Int32 × SM × SL)) = _ := hf
    cases hf
  | succ n ih =>
    intro x1 x2 x3 M τ hf H locs hP hS ls hl
    exact bk_X12_counted_2 C0   (fun x1 x2 x3 M τ => wl_X12_counted_2   n x1 x2 x3 M τ) ih x1 x2 x3 M τ hf hP hS hl
def fn_X12_counted (x1 : Int32) (x2 : Int32) (M : SM) (τ : SL) : Option (Int32 × SM × SL) :=
  wl_X12_counted_2 1000 x1 x2 0 M τ
set_option maxRecDepth 100000 in
set_option maxHeartbeats 4000000 in
theorem wk_X12_counted {p : Program} {l : Launch} {e : Env} {s : State} {m : MethodId} {args : Array Value} {below : List Frame} {meth : Method} {c : Code} {G : GP} {X : SM} (C0 : g_mc p s m args meth c RX12 cX12_counted (some .int) 4 G) {r0 : Int32} {M0 : SM} {τ0 : SL} (x1 : Int32) (x2 : Int32) (M : SM) (τ : SL) (hf : fn_X12_counted x1 x2 M τ = some (r0, M0, τ0)) {H : Heap} {locs : List Loc} (hP : va_P G.1 g_cl (wd G (cb X M) τ) H) (hS : va_S (g_A G) s.heap H locs) {ls : Array Slot} (hl : lv_has ls 4 [(0, .ref (G.2.1 39 0)), (1, .int x1), (2, .int x2)]) : W p l e rm_X12_counted s m args below meth c H locs 0 0 (MQ below (va_Qi (fun r u => r = r0 ∧ u = (X, M0, τ0)) (g_pw G) (g_A G)) args s 0 0 (g_A G)) (F0 m 0 ls []) := by
  obtain ⟨hx, hb, hr, hml, hown, hts, hlocks, hC⟩ := id C0
  unfold fn_X12_counted at hf
  refine lv_iconst (v := 0) hx hb dX12_counted_0 (by decide) ?_
  refine lv_istore_n (lv' := [(3, .int 0), (0, .ref (G.2.1 39 0)), (1, .int x1), (2, .int x2)]) hx hb dX12_counted_1 rfl hl (by decide) rfl (fun ls hl => ?_)
  exact lp_X12_counted_2 C0 1000 x1 x2 0 M τ hf hP hS (lv_sub hl [1, 2, 3, 0] rfl)
set_option maxRecDepth 100000 in
set_option maxHeartbeats 4000000 in
theorem ct_X12_counted (l : Launch) (G : GP) (X M : SM) (τ : SL) (x1 : Int32) (x2 : Int32) {r0 : Int32} {M0 : SM} {τ0 : SL} (hf : fn_X12_counted x1 x2 M τ = some (r0, M0, τ0)) : Met l yX12_counted (wz yX12_counted cX12_counted 4 (some .int)) rm_X12_counted (va_Pc [.ref (G.2.1 39 0), .int x1, .int x2] (g_pw G (X, M, τ))) (va_Qi (fun r u => r = r0 ∧ u = (X, M0, τ0)) (g_pw G) (g_A G)) 0 0 (g_A G) := by
  refine Met.ofW (cc := cX12_counted) (maxL := 4) (ret := (some .int)) (by decide +kernel) rfl ?_
  intro p e s m args below meth c s₁ B hml hv
  obtain ⟨rfl, hC, hP⟩ := hv
  have C0 : g_mc p s m _ meth c RX12 cX12_counted (some .int) 4 G := ⟨B.exec, B.bytes, B.returns, hml, findClass_of_methodNamed B.named, fun w h => atoms_spec (ws := wz yX12_counted cX12_counted 4 (some .int)) B.pre w (List.mem_cons_of_mem _ h), B.notSynchronized, hC⟩
  have hl := lv_entry ([.ref (G.2.1 39 0), .int x1, .int x2]) (n := 4) (Nat.le_of_ble_eq_true rfl)
  rw [lg_entry_eq]
  generalize (lg_sl ([.ref (G.2.1 39 0), .int x1, .int x2]) ++ List.replicate (4 - (lg_sl ([.ref (G.2.1 39 0), .int x1, .int x2])).length) Slot.unset).toArray = ls at hl ⊢
  exact wk_X12_counted C0  x1 x2 M τ hf hP va_S.rf hl
abbrev rm_X12_ticksFrom : Room := { frames := 0, cells := 0, slots := 0, locals := 0 }
def wb_X12_ticksFrom_55 (k55 : Int32 → Int32 → Int32 → Int32 → Int32 → SM → Option (Int32)) (x1 : Int32) (x2 : Int32) (x5 : Int32) (x6 : Int32) (x7 : Int32) (M : SM) : Option (Int32) :=
  if x6 ≤ 0 then
  (some ((x5 * (M 39 0 12)) + x7))
  else
  (if ¬ (M 39 0 12) = 0 then
    if g_in ((x1 + x7) - (x1 + x7) / (M 39 0 12) * (M 39 0 12)) 16 then
    if (M 50 0 (((x1 + x7) - (x1 + x7) / (M 39 0 12) * (M 39 0 12)).toNatClampNeg)) = x2 then
    (g_let (x6 + (-1)) fun x6_15 =>
      g_let (x7 + 1) fun x7_16 =>
      k55 x1 x2 x5 x6_15 x7_16 M)
    else
    (g_let (x7 + 1) fun x7_14 =>
      k55 x1 x2 x5 x6 x7_14 M)
    else none
    else none)
set_option maxRecDepth 100000 in
set_option maxHeartbeats 4000000 in
theorem bk_X12_ticksFrom_55 {p : Program} {l : Launch} {e : Env} {s : State} {m : MethodId} {args : Array Value} {below : List Frame} {meth : Method} {c : Code} {G : GP} {X : SM} {τ : SL} (C0 : g_mc p s m args meth c RX12 cX12_ticksFrom (some .int) 8 G) {r0 : Int32} (k55 : Int32 → Int32 → Int32 → Int32 → Int32 → SM → Option (Int32)) (hk55 : ∀ (x1 : Int32) (x2 : Int32) (x5 : Int32) (x6 : Int32) (x7 : Int32) (M : SM), k55 x1 x2 x5 x6 x7 M = some r0 → ∀ {H : Heap} {locs : List Loc}, va_P G.1 g_cl (wd G (cb X M) τ) H → va_S (g_A G) s.heap H locs → ∀ {ls : Array Slot}, lv_has ls 8 [(0, .ref (G.2.1 39 0)), (1, .int x1), (2, .int x2), (5, .int x5), (6, .int x6), (7, .int x7)] → W p l e rm_X12_ticksFrom s m args below meth c H locs 0 0 (MQ below (va_Qi (fun r u => r = r0 ∧ u = (X, M, τ)) (g_pw G) (g_A G)) args s 0 0 (g_A G)) (F0 m 55 ls [])) (x1 : Int32) (x2 : Int32) (x5 : Int32) (x6 : Int32) (x7 : Int32) (M : SM) (hf : wb_X12_ticksFrom_55 k55 x1 x2 x5 x6 x7 M = some r0) {H : Heap} {locs : List Loc} (hP : va_P G.1 g_cl (wd G (cb X M) τ) H) (hS : va_S (g_A G) s.heap H locs) {ls : Array Slot} (hl : lv_has ls 8 [(0, .ref (G.2.1 39 0)), (1, .int x1), (2, .int x2), (5, .int x5), (6, .int x6), (7, .int x7)]) : W p l e rm_X12_ticksFrom s m args below meth c H locs 0 0 (MQ below (va_Qi (fun r u => r = r0 ∧ u = (X, M, τ)) (g_pw G) (g_A G)) args s 0 0 (g_A G)) (F0 m 55 ls []) := by
  obtain ⟨hx, hb, hr, hml, hown, hts, hlocks, hC⟩ := id C0
  unfold wb_X12_ticksFrom_55 at hf
  refine lv_iload hx hb dX12_ticksFrom_55 (lv_at hl 4 rfl) ?_
  refine lv_if_le (tgt := 87) hx hb dX12_ticksFrom_57 (by decide) (fun hc_10 => ?_) (fun hc_10 => ?_)
  · have hf := g_pos hf hc_10
    refine lv_iload hx hb dX12_ticksFrom_87 (lv_at hl 3 rfl) ?_
    refine lv_aload_n hx hb dX12_ticksFrom_89 rfl (lv_at hl 0 rfl) ?_
    refine gt_39_12 hx hb hts hown hC hP Nat.zero_lt_one q7_5 dX12_ticksFrom_90 ?_
    refine lv_imul hx hb dX12_ticksFrom_93 ?_
    refine lv_iload hx hb dX12_ticksFrom_94 (lv_at hl 5 rfl) ?_
    refine lv_iadd hx hb dX12_ticksFrom_96 ?_
    cases hf
    exact x_iret hx hb hlocks hC hP hS hr dX12_ticksFrom_97
  · have hf := g_neg hf hc_10
    refine lv_aload_n hx hb dX12_ticksFrom_60 rfl (lv_at hl 0 rfl) ?_
    refine gt_39_11 hx hb hts hown hC hP Nat.zero_lt_one q7_4 dX12_ticksFrom_61 ?_
    refine lv_iload_n hx hb dX12_ticksFrom_64 rfl (lv_at hl 1 rfl) ?_
    refine lv_iload hx hb dX12_ticksFrom_65 (lv_at hl 5 rfl) ?_
    refine lv_iadd hx hb dX12_ticksFrom_67 ?_
    refine lv_aload_n hx hb dX12_ticksFrom_68 rfl (lv_at hl 0 rfl) ?_
    refine gt_39_12 hx hb hts hown hC hP Nat.zero_lt_one q7_5 dX12_ticksFrom_69 ?_
    obtain ⟨hg_11, hf⟩ := g_gd hf
    refine lv_irem hx hb dX12_ticksFrom_72 hg_11 ?_
    obtain ⟨hg_12, hf⟩ := g_gd hf
    refine xildM (k := 50) (n := 16) hx hb hC hP (fun _ _ => rfl) rfl Nat.zero_lt_one hg_12 dX12_ticksFrom_73 ?_
    refine lv_iload_n hx hb dX12_ticksFrom_74 rfl (lv_at hl 2 rfl) ?_
    refine lv_icmp_ne (tgt := 81) hx hb dX12_ticksFrom_75 (by decide) (fun hc_13 => ?_) (fun hc_13 => ?_)
    · have hf := g_neg hf hc_13
      obtain ⟨x7_14, ex7_14, hf⟩ := g_letE hf
      refine lv_iinc (v := x7_14) (lv' := [(7, .int x7_14), (0, .ref (G.2.1 39 0)), (1, .int x1), (2, .int x2), (5, .int x5), (6, .int x6)]) hx hb dX12_ticksFrom_81 hl (k := 5) rfl (by rw [← ex7_14]; rfl) (by decide) rfl (fun ls hl => ?_)
      refine lv_goto (tgt := 55) hx hb dX12_ticksFrom_84 (by decide) ?_
      exact hk55 x1 x2 x5 x6 x7_14 M hf hP hS (lv_sub hl [1, 2, 3, 4, 5, 0] rfl)
    · have hf := g_pos hf hc_13
      obtain ⟨x6_15, ex6_15, hf⟩ := g_letE hf
      refine lv_iinc (v := x6_15) (lv' := [(6, .int x6_15), (0, .ref (G.2.1 39 0)), (1, .int x1), (2, .int x2), (5, .int x5), (7, .int x7)]) hx hb dX12_ticksFrom_78 hl (k := 4) rfl (by rw [← ex6_15]; rfl) (by decide) rfl (fun ls hl => ?_)
      obtain ⟨x7_16, ex7_16, hf⟩ := g_letE hf
      refine lv_iinc (v := x7_16) (lv' := [(7, .int x7_16), (6, .int x6_15), (0, .ref (G.2.1 39 0)), (1, .int x1), (2, .int x2), (5, .int x5)]) hx hb dX12_ticksFrom_81 hl (k := 5) rfl (by rw [← ex7_16]; rfl) (by decide) rfl (fun ls hl => ?_)
      refine lv_goto (tgt := 55) hx hb dX12_ticksFrom_84 (by decide) ?_
      exact hk55 x1 x2 x5 x6_15 x7_16 M hf hP hS (lv_sub hl [2, 3, 4, 5, 1, 0] rfl)
def wl_X12_ticksFrom_55 (n : Nat) (x1 : Int32) (x2 : Int32) (x5 : Int32) (x6 : Int32) (x7 : Int32) (M : SM) : Option (Int32) := g_loop (α := Int32 × Int32 × Int32 × Int32 × Int32 × SM) (fun k a => wb_X12_ticksFrom_55 (fun x1 x2 x5 x6 x7 M => k (x1, x2, x5, x6, x7, M)) a.1 a.2.1 a.2.2.1 a.2.2.2.1 a.2.2.2.2.1 a.2.2.2.2.2) n (x1, x2, x5, x6, x7, M)
set_option maxRecDepth 100000 in
set_option maxHeartbeats 4000000 in
theorem lp_X12_ticksFrom_55 {p : Program} {l : Launch} {e : Env} {s : State} {m : MethodId} {args : Array Value} {below : List Frame} {meth : Method} {c : Code} {G : GP} {X : SM} {τ : SL} (C0 : g_mc p s m args meth c RX12 cX12_ticksFrom (some .int) 8 G) {r0 : Int32} (n : Nat) : ∀ (x1 : Int32) (x2 : Int32) (x5 : Int32) (x6 : Int32) (x7 : Int32) (M : SM), wl_X12_ticksFrom_55 n x1 x2 x5 x6 x7 M = some r0 → ∀ {H : Heap} {locs : List Loc}, va_P G.1 g_cl (wd G (cb X M) τ) H → va_S (g_A G) s.heap H locs → ∀ {ls : Array Slot}, lv_has ls 8 [(0, .ref (G.2.1 39 0)), (1, .int x1), (2, .int x2), (5, .int x5), (6, .int x6), (7, .int x7)] → W p l e rm_X12_ticksFrom s m args below meth c H locs 0 0 (MQ below (va_Qi (fun r u => r = r0 ∧ u = (X, M, τ)) (g_pw G) (g_A G)) args s 0 0 (g_A G)) (F0 m 55 ls []) := by
  induction n with
  | zero =>
    intro x1 x2 x5 x6 x7 M hf
    have hf : (none : Option (Int32)) = _ := hf
    cases hf
  | succ n ih =>
    intro x1 x2 x5 x6 x7 M hf H locs hP hS ls hl
    exact bk_X12_ticksFrom_55 C0   (fun x1 x2 x5 x6 x7 M => wl_X12_ticksFrom_55   n x1 x2 x5 x6 x7 M) ih x1 x2 x5 x6 x7 M hf hP hS hl
def wb_X12_ticksFrom_6 (k6 : Int32 → Int32 → Int32 → Int32 → Int32 → SM → Option (Int32)) (x1 : Int32) (x2 : Int32) (x3 : Int32) (x4 : Int32) (x5 : Int32) (M : SM) : Option (Int32) :=
  if (M 39 0 12) ≤ x5 then
  (if ¬ x4 = 0 then
    g_let (((x3 - 1) / x4)) fun x5_3 =>
    g_let ((x3 - (x5_3 * x4))) fun x6_4 =>
    wl_X12_ticksFrom_55 1000 x1 x2 x5_3 x6_4 0 M
    else none)
  else
  (if g_in x5 16 then
    if (M 50 0 (x5.toNatClampNeg)) = x2 then
    (g_let (x4 + 1) fun x4_8 =>
      g_let (x5 + 1) fun x5_9 =>
      k6 x1 x2 x3 x4_8 x5_9 M)
    else
    (g_let (x5 + 1) fun x5_7 =>
      k6 x1 x2 x3 x4 x5_7 M)
    else none)
set_option maxRecDepth 100000 in
set_option maxHeartbeats 4000000 in
theorem bk_X12_ticksFrom_6 {p : Program} {l : Launch} {e : Env} {s : State} {m : MethodId} {args : Array Value} {below : List Frame} {meth : Method} {c : Code} {G : GP} {X : SM} {τ : SL} (C0 : g_mc p s m args meth c RX12 cX12_ticksFrom (some .int) 8 G) {r0 : Int32} (k6 : Int32 → Int32 → Int32 → Int32 → Int32 → SM → Option (Int32)) (hk6 : ∀ (x1 : Int32) (x2 : Int32) (x3 : Int32) (x4 : Int32) (x5 : Int32) (M : SM), k6 x1 x2 x3 x4 x5 M = some r0 → ∀ {H : Heap} {locs : List Loc}, va_P G.1 g_cl (wd G (cb X M) τ) H → va_S (g_A G) s.heap H locs → ∀ {ls : Array Slot}, lv_has ls 8 [(0, .ref (G.2.1 39 0)), (1, .int x1), (2, .int x2), (3, .int x3), (4, .int x4), (5, .int x5)] → W p l e rm_X12_ticksFrom s m args below meth c H locs 0 0 (MQ below (va_Qi (fun r u => r = r0 ∧ u = (X, M, τ)) (g_pw G) (g_A G)) args s 0 0 (g_A G)) (F0 m 6 ls [])) (x1 : Int32) (x2 : Int32) (x3 : Int32) (x4 : Int32) (x5 : Int32) (M : SM) (hf : wb_X12_ticksFrom_6 k6 x1 x2 x3 x4 x5 M = some r0) {H : Heap} {locs : List Loc} (hP : va_P G.1 g_cl (wd G (cb X M) τ) H) (hS : va_S (g_A G) s.heap H locs) {ls : Array Slot} (hl : lv_has ls 8 [(0, .ref (G.2.1 39 0)), (1, .int x1), (2, .int x2), (3, .int x3), (4, .int x4), (5, .int x5)]) : W p l e rm_X12_ticksFrom s m args below meth c H locs 0 0 (MQ below (va_Qi (fun r u => r = r0 ∧ u = (X, M, τ)) (g_pw G) (g_A G)) args s 0 0 (g_A G)) (F0 m 6 ls []) := by
  obtain ⟨hx, hb, hr, hml, hown, hts, hlocks, hC⟩ := id C0
  unfold wb_X12_ticksFrom_6 at hf
  refine lv_iload hx hb dX12_ticksFrom_6 (lv_at hl 5 rfl) ?_
  refine lv_aload_n hx hb dX12_ticksFrom_8 rfl (lv_at hl 0 rfl) ?_
  refine gt_39_12 hx hb hts hown hC hP Nat.zero_lt_one q7_5 dX12_ticksFrom_9 ?_
  refine lv_icmp_ge (tgt := 35) hx hb dX12_ticksFrom_12 (by decide) (fun hc_1 => ?_) (fun hc_1 => ?_)
  · have hf := g_pos hf hc_1
    refine lv_iload_n hx hb dX12_ticksFrom_35 rfl (lv_at hl 3 rfl) ?_
    refine lv_iconst (v := 1) hx hb dX12_ticksFrom_36 (by decide) ?_
    refine lv_isub hx hb dX12_ticksFrom_37 ?_
    refine lv_iload hx hb dX12_ticksFrom_38 (lv_at hl 4 rfl) ?_
    obtain ⟨hg_2, hf⟩ := g_gd hf
    refine lv_idiv hx hb dX12_ticksFrom_40 hg_2 ?_
    obtain ⟨x5_3, ex5_3, hf⟩ := g_letE hf
    refine lv_topE ex5_3 ?_
    refine lv_istore (lv' := [(5, .int x5_3), (0, .ref (G.2.1 39 0)), (1, .int x1), (2, .int x2), (3, .int x3), (4, .int x4)]) hx hb dX12_ticksFrom_41 hl (by decide) rfl (fun ls hl => ?_)
    refine lv_iload_n hx hb dX12_ticksFrom_43 rfl (lv_at hl 4 rfl) ?_
    refine lv_iload hx hb dX12_ticksFrom_44 (lv_at hl 0 rfl) ?_
    refine lv_iload hx hb dX12_ticksFrom_46 (lv_at hl 5 rfl) ?_
    refine lv_imul hx hb dX12_ticksFrom_48 ?_
    refine lv_isub hx hb dX12_ticksFrom_49 ?_
    obtain ⟨x6_4, ex6_4, hf⟩ := g_letE hf
    refine lv_topE ex6_4 ?_
    refine lv_istore (lv' := [(6, .int x6_4), (5, .int x5_3), (0, .ref (G.2.1 39 0)), (1, .int x1), (2, .int x2), (3, .int x3), (4, .int x4)]) hx hb dX12_ticksFrom_50 hl (by decide) rfl (fun ls hl => ?_)
    refine lv_iconst (v := 0) hx hb dX12_ticksFrom_52 (by decide) ?_
    refine lv_istore (lv' := [(7, .int 0), (6, .int x6_4), (5, .int x5_3), (0, .ref (G.2.1 39 0)), (1, .int x1), (2, .int x2), (3, .int x3), (4, .int x4)]) hx hb dX12_ticksFrom_53 hl (by decide) rfl (fun ls hl => ?_)
    exact lp_X12_ticksFrom_55 C0 1000 x1 x2 x5_3 x6_4 0 M hf hP hS (lv_sub hl [3, 4, 5, 2, 1, 0] rfl)
  · have hf := g_neg hf hc_1
    refine lv_aload_n hx hb dX12_ticksFrom_15 rfl (lv_at hl 0 rfl) ?_
    refine gt_39_11 hx hb hts hown hC hP Nat.zero_lt_one q7_4 dX12_ticksFrom_16 ?_
    refine lv_iload hx hb dX12_ticksFrom_19 (lv_at hl 5 rfl) ?_
    obtain ⟨hg_5, hf⟩ := g_gd hf
    refine xildM (k := 50) (n := 16) hx hb hC hP (fun _ _ => rfl) rfl Nat.zero_lt_one hg_5 dX12_ticksFrom_21 ?_
    refine lv_iload_n hx hb dX12_ticksFrom_22 rfl (lv_at hl 2 rfl) ?_
    refine lv_icmp_ne (tgt := 29) hx hb dX12_ticksFrom_23 (by decide) (fun hc_6 => ?_) (fun hc_6 => ?_)
    · have hf := g_neg hf hc_6
      obtain ⟨x5_7, ex5_7, hf⟩ := g_letE hf
      refine lv_iinc (v := x5_7) (lv' := [(5, .int x5_7), (0, .ref (G.2.1 39 0)), (1, .int x1), (2, .int x2), (3, .int x3), (4, .int x4)]) hx hb dX12_ticksFrom_29 hl (k := 5) rfl (by rw [← ex5_7]; rfl) (by decide) rfl (fun ls hl => ?_)
      refine lv_goto (tgt := 6) hx hb dX12_ticksFrom_32 (by decide) ?_
      exact hk6 x1 x2 x3 x4 x5_7 M hf hP hS (lv_sub hl [1, 2, 3, 4, 5, 0] rfl)
    · have hf := g_pos hf hc_6
      obtain ⟨x4_8, ex4_8, hf⟩ := g_letE hf
      refine lv_iinc (v := x4_8) (lv' := [(4, .int x4_8), (0, .ref (G.2.1 39 0)), (1, .int x1), (2, .int x2), (3, .int x3), (5, .int x5)]) hx hb dX12_ticksFrom_26 hl (k := 4) rfl (by rw [← ex4_8]; rfl) (by decide) rfl (fun ls hl => ?_)
      obtain ⟨x5_9, ex5_9, hf⟩ := g_letE hf
      refine lv_iinc (v := x5_9) (lv' := [(5, .int x5_9), (4, .int x4_8), (0, .ref (G.2.1 39 0)), (1, .int x1), (2, .int x2), (3, .int x3)]) hx hb dX12_ticksFrom_29 hl (k := 5) rfl (by rw [← ex5_9]; rfl) (by decide) rfl (fun ls hl => ?_)
      refine lv_goto (tgt := 6) hx hb dX12_ticksFrom_32 (by decide) ?_
      exact hk6 x1 x2 x3 x4_8 x5_9 M hf hP hS (lv_sub hl [2, 3, 4, 5, 1, 0] rfl)
def wl_X12_ticksFrom_6 (n : Nat) (x1 : Int32) (x2 : Int32) (x3 : Int32) (x4 : Int32) (x5 : Int32) (M : SM) : Option (Int32) := g_loop (α := Int32 × Int32 × Int32 × Int32 × Int32 × SM) (fun k a => wb_X12_ticksFrom_6 (fun x1 x2 x3 x4 x5 M => k (x1, x2, x3, x4, x5, M)) a.1 a.2.1 a.2.2.1 a.2.2.2.1 a.2.2.2.2.1 a.2.2.2.2.2) n (x1, x2, x3, x4, x5, M)
set_option maxRecDepth 100000 in
set_option maxHeartbeats 4000000 in
theorem lp_X12_ticksFrom_6 {p : Program} {l : Launch} {e : Env} {s : State} {m : MethodId} {args : Array Value} {below : List Frame} {meth : Method} {c : Code} {G : GP} {X : SM} {τ : SL} (C0 : g_mc p s m args meth c RX12 cX12_ticksFrom (some .int) 8 G) {r0 : Int32} (n : Nat) : ∀ (x1 : Int32) (x2 : Int32) (x3 : Int32) (x4 : Int32) (x5 : Int32) (M : SM), wl_X12_ticksFrom_6 n x1 x2 x3 x4 x5 M = some r0 → ∀ {H : Heap} {locs : List Loc}, va_P G.1 g_cl (wd G (cb X M) τ) H → va_S (g_A G) s.heap H locs → ∀ {ls : Array Slot}, lv_has ls 8 [(0, .ref (G.2.1 39 0)), (1, .int x1), (2, .int x2), (3, .int x3), (4, .int x4), (5, .int x5)] → W p l e rm_X12_ticksFrom s m args below meth c H locs 0 0 (MQ below (va_Qi (fun r u => r = r0 ∧ u = (X, M, τ)) (g_pw G) (g_A G)) args s 0 0 (g_A G)) (F0 m 6 ls []) := by
  induction n with
  | zero =>
    intro x1 x2 x3 x4 x5 M hf
    have hf : (none : Option (Int32)) = _ := hf
    cases hf
  | succ n ih =>
    intro x1 x2 x3 x4 x5 M hf H locs hP hS ls hl
    exact bk_X12_ticksFrom_6 C0   (fun x1 x2 x3 x4 x5 M => wl_X12_ticksFrom_6   n x1 x2 x3 x4 x5 M) ih x1 x2 x3 x4 x5 M hf hP hS hl
def fn_X12_ticksFrom (x1 : Int32) (x2 : Int32) (x3 : Int32) (M : SM) : Option (Int32) :=
  wl_X12_ticksFrom_6 1000 x1 x2 x3 0 0 M
set_option maxRecDepth 100000 in
set_option maxHeartbeats 4000000 in
theorem wk_X12_ticksFrom {p : Program} {l : Launch} {e : Env} {s : State} {m : MethodId} {args : Array Value} {below : List Frame} {meth : Method} {c : Code} {G : GP} {X : SM} {τ : SL} (C0 : g_mc p s m args meth c RX12 cX12_ticksFrom (some .int) 8 G) {r0 : Int32} (x1 : Int32) (x2 : Int32) (x3 : Int32) (M : SM) (hf : fn_X12_ticksFrom x1 x2 x3 M = some r0) {H : Heap} {locs : List Loc} (hP : va_P G.1 g_cl (wd G (cb X M) τ) H) (hS : va_S (g_A G) s.heap H locs) {ls : Array Slot} (hl : lv_has ls 8 [(0, .ref (G.2.1 39 0)), (1, .int x1), (2, .int x2), (3, .int x3)]) : W p l e rm_X12_ticksFrom s m args below meth c H locs 0 0 (MQ below (va_Qi (fun r u => r = r0 ∧ u = (X, M, τ)) (g_pw G) (g_A G)) args s 0 0 (g_A G)) (F0 m 0 ls []) := by
  obtain ⟨hx, hb, hr, hml, hown, hts, hlocks, hC⟩ := id C0
  unfold fn_X12_ticksFrom at hf
  refine lv_iconst (v := 0) hx hb dX12_ticksFrom_0 (by decide) ?_
  refine lv_istore (lv' := [(4, .int 0), (0, .ref (G.2.1 39 0)), (1, .int x1), (2, .int x2), (3, .int x3)]) hx hb dX12_ticksFrom_1 hl (by decide) rfl (fun ls hl => ?_)
  refine lv_iconst (v := 0) hx hb dX12_ticksFrom_3 (by decide) ?_
  refine lv_istore (lv' := [(5, .int 0), (4, .int 0), (0, .ref (G.2.1 39 0)), (1, .int x1), (2, .int x2), (3, .int x3)]) hx hb dX12_ticksFrom_4 hl (by decide) rfl (fun ls hl => ?_)
  exact lp_X12_ticksFrom_6 C0 1000 x1 x2 x3 0 0 M hf hP hS (lv_sub hl [2, 3, 4, 5, 1, 0] rfl)
set_option maxRecDepth 100000 in
set_option maxHeartbeats 4000000 in
theorem ct_X12_ticksFrom (l : Launch) (G : GP) (X M : SM) (τ : SL) (x1 : Int32) (x2 : Int32) (x3 : Int32) {r0 : Int32} (hf : fn_X12_ticksFrom x1 x2 x3 M = some r0) : Met l yX12_ticksFrom (wz yX12_ticksFrom cX12_ticksFrom 8 (some .int)) rm_X12_ticksFrom (va_Pc [.ref (G.2.1 39 0), .int x1, .int x2, .int x3] (g_pw G (X, M, τ))) (va_Qi (fun r u => r = r0 ∧ u = (X, M, τ)) (g_pw G) (g_A G)) 0 0 (g_A G) := by
  refine Met.ofW (cc := cX12_ticksFrom) (maxL := 8) (ret := (some .int)) (by decide +kernel) rfl ?_
  intro p e s m args below meth c s₁ B hml hv
  obtain ⟨rfl, hC, hP⟩ := hv
  have C0 : g_mc p s m _ meth c RX12 cX12_ticksFrom (some .int) 8 G := ⟨B.exec, B.bytes, B.returns, hml, findClass_of_methodNamed B.named, fun w h => atoms_spec (ws := wz yX12_ticksFrom cX12_ticksFrom 8 (some .int)) B.pre w (List.mem_cons_of_mem _ h), B.notSynchronized, hC⟩
  have hl := lv_entry ([.ref (G.2.1 39 0), .int x1, .int x2, .int x3]) (n := 8) (Nat.le_of_ble_eq_true rfl)
  rw [lg_entry_eq]
  generalize (lg_sl ([.ref (G.2.1 39 0), .int x1, .int x2, .int x3]) ++ List.replicate (8 - (lg_sl ([.ref (G.2.1 39 0), .int x1, .int x2, .int x3])).length) Slot.unset).toArray = ls at hl ⊢
  exact wk_X12_ticksFrom C0  x1 x2 x3 M hf hP va_S.rf hl
abbrev rm_X12_spanOf : Room := { frames := 1, cells := 0, slots := 0, locals := 27 }
def wb_X12_spanOf_6 (k6 : Int32 → Int32 → Int32 → Int32 → Int32 → SM → Option (Int32)) (x1 : Int32) (x2 : Int32) (x3 : Int32) (x4 : Int32) (x5 : Int32) (M : SM) : Option (Int32) :=
  if (M 39 0 12) ≤ x5 then
  (some x4)
  else
  ((fn_X12_ticksFrom x5 x1 x2 M).bind fun r_2 =>
    if x4 < 0 then
    (g_let (x5 + 1) fun x5_5 =>
      k6 x1 x2 x3 r_2 x5_5 M)
    else
    (if x3 = 0 then
      (if x4 ≤ r_2 then
        (g_let (x5 + 1) fun x5_8 =>
          k6 x1 x2 x3 x4 x5_8 M)
        else
        (g_let (x5 + 1) fun x5_9 =>
          k6 x1 x2 x3 r_2 x5_9 M))
      else
      (if r_2 ≤ x4 then
        (g_let (x5 + 1) fun x5_11 =>
          k6 x1 x2 x3 x4 x5_11 M)
        else
        (g_let (x5 + 1) fun x5_12 =>
          k6 x1 x2 x3 r_2 x5_12 M))))
set_option maxRecDepth 100000 in
set_option maxHeartbeats 4000000 in
theorem bk_X12_spanOf_6 {p : Program} {l : Launch} {e : Env} {s : State} {m : MethodId} {args : Array Value} {below : List Frame} {meth : Method} {c : Code} {G : GP} {X : SM} {τ : SL} (C0 : g_mc p s m args meth c RX12 cX12_spanOf (some .int) 7 G) {r0 : Int32} (k6 : Int32 → Int32 → Int32 → Int32 → Int32 → SM → Option (Int32)) (hk6 : ∀ (x1 : Int32) (x2 : Int32) (x3 : Int32) (x4 : Int32) (x5 : Int32) (M : SM), k6 x1 x2 x3 x4 x5 M = some r0 → ∀ {H : Heap} {locs : List Loc}, va_P G.1 g_cl (wd G (cb X M) τ) H → va_S (g_A G) s.heap H locs → ∀ {ls : Array Slot}, lv_has ls 7 [(0, .ref (G.2.1 39 0)), (1, .int x1), (2, .int x2), (3, .int x3), (4, .int x4), (5, .int x5)] → W p l e rm_X12_spanOf s m args below meth c H locs 0 0 (MQ below (va_Qi (fun r u => r = r0 ∧ u = (X, M, τ)) (g_pw G) (g_A G)) args s 0 0 (g_A G)) (F0 m 6 ls [])) (x1 : Int32) (x2 : Int32) (x3 : Int32) (x4 : Int32) (x5 : Int32) (M : SM) (hf : wb_X12_spanOf_6 k6 x1 x2 x3 x4 x5 M = some r0) {H : Heap} {locs : List Loc} (hP : va_P G.1 g_cl (wd G (cb X M) τ) H) (hS : va_S (g_A G) s.heap H locs) {ls : Array Slot} (hl : lv_has ls 7 [(0, .ref (G.2.1 39 0)), (1, .int x1), (2, .int x2), (3, .int x3), (4, .int x4), (5, .int x5)]) : W p l e rm_X12_spanOf s m args below meth c H locs 0 0 (MQ below (va_Qi (fun r u => r = r0 ∧ u = (X, M, τ)) (g_pw G) (g_A G)) args s 0 0 (g_A G)) (F0 m 6 ls []) := by
  obtain ⟨hx, hb, hr, hml, hown, hts, hlocks, hC⟩ := id C0
  unfold wb_X12_spanOf_6 at hf
  refine lv_iload hx hb dX12_spanOf_6 (lv_at hl 5 rfl) ?_
  refine lv_aload_n hx hb dX12_spanOf_8 rfl (lv_at hl 0 rfl) ?_
  refine gt_39_12 hx hb hts hown hC hP Nat.zero_lt_one q7_5 dX12_spanOf_9 ?_
  refine lv_icmp_ge (tgt := 61) hx hb dX12_spanOf_12 (by decide) (fun hc_1 => ?_) (fun hc_1 => ?_)
  · have hf := g_pos hf hc_1
    refine lv_iload hx hb dX12_spanOf_61 (lv_at hl 4 rfl) ?_
    cases hf
    exact x_iret hx hb hlocks hC hP hS hr dX12_spanOf_63
  · have hf := g_neg hf hc_1
    refine lv_aload_n hx hb dX12_spanOf_15 rfl (lv_at hl 0 rfl) ?_
    refine lv_iload hx hb dX12_spanOf_16 (lv_at hl 5 rfl) ?_
    refine lv_iload_n hx hb dX12_spanOf_18 rfl (lv_at hl 1 rfl) ?_
    refine lv_iload_n hx hb dX12_spanOf_19 rfl (lv_at hl 2 rfl) ?_
    obtain ⟨r_2, hc_3, hf⟩ := g_bindE hf
    refine x_calli (v := (X, M, τ)) (va_runV (As := [.int x5, .int x1, .int x2]) (rest := []) ⟨hx, hb, hml, hown, hts⟩ (ct_X12_ticksFrom l G X M τ x5 x1 x2 hc_3) (cwV 3 hts gd_X12_202 rfl rfl rfl hd_X12_ticksFrom ⟨Nat.le_of_ble_eq_true rfl, Nat.le_of_ble_eq_true rfl⟩) (x_preV (u := (X, M, τ)) (k := 39) (ci := 12) hC hS hP Nat.zero_lt_one rfl rfl) rfl rfl hl.1 rfl (lv_room (Nat.le_of_ble_eq_true rfl)) dX12_spanOf_20 ⟨Nat.zero_le _, Nat.zero_le _⟩) hS (fun H locs hP hS => ?_)
    refine lv_istore (lv' := [(6, .int r_2), (0, .ref (G.2.1 39 0)), (1, .int x1), (2, .int x2), (3, .int x3), (4, .int x4), (5, .int x5)]) hx hb dX12_spanOf_23 hl (by decide) rfl (fun ls hl => ?_)
    refine lv_iload hx hb dX12_spanOf_25 (lv_at hl 5 rfl) ?_
    refine lv_if_lt (tgt := 51) hx hb dX12_spanOf_27 (by decide) (fun hc_4 => ?_) (fun hc_4 => ?_)
    · have hf := g_pos hf hc_4
      refine lv_iload hx hb dX12_spanOf_51 (lv_at hl 0 rfl) ?_
      refine lv_istore (lv' := [(4, .int r_2), (6, .int r_2), (0, .ref (G.2.1 39 0)), (1, .int x1), (2, .int x2), (3, .int x3), (5, .int x5)]) hx hb dX12_spanOf_53 hl (by decide) rfl (fun ls hl => ?_)
      obtain ⟨x5_5, ex5_5, hf⟩ := g_letE hf
      refine lv_iinc (v := x5_5) (lv' := [(5, .int x5_5), (4, .int r_2), (6, .int r_2), (0, .ref (G.2.1 39 0)), (1, .int x1), (2, .int x2), (3, .int x3)]) hx hb dX12_spanOf_55 hl (k := 6) rfl (by rw [← ex5_5]; rfl) (by decide) rfl (fun ls hl => ?_)
      refine lv_goto (tgt := 6) hx hb dX12_spanOf_58 (by decide) ?_
      exact hk6 x1 x2 x3 r_2 x5_5 M hf hP hS (lv_sub hl [3, 4, 5, 6, 1, 0] rfl)
    · have hf := g_neg hf hc_4
      refine lv_iload_n hx hb dX12_spanOf_30 rfl (lv_at hl 4 rfl) ?_
      refine lv_if_eq (tgt := 44) hx hb dX12_spanOf_31 (by decide) (fun hc_6 => ?_) (fun hc_6 => ?_)
      · have hf := g_pos hf hc_6
        refine lv_iload hx hb dX12_spanOf_44 (lv_at hl 0 rfl) ?_
        refine lv_iload hx hb dX12_spanOf_46 (lv_at hl 5 rfl) ?_
        refine lv_icmp_ge (tgt := 55) hx hb dX12_spanOf_48 (by decide) (fun hc_7 => ?_) (fun hc_7 => ?_)
        · have hf := g_pos hf hc_7
          obtain ⟨x5_8, ex5_8, hf⟩ := g_letE hf
          refine lv_iinc (v := x5_8) (lv' := [(5, .int x5_8), (6, .int r_2), (0, .ref (G.2.1 39 0)), (1, .int x1), (2, .int x2), (3, .int x3), (4, .int x4)]) hx hb dX12_spanOf_55 hl (k := 6) rfl (by rw [← ex5_8]; rfl) (by decide) rfl (fun ls hl => ?_)
          refine lv_goto (tgt := 6) hx hb dX12_spanOf_58 (by decide) ?_
          exact hk6 x1 x2 x3 x4 x5_8 M hf hP hS (lv_sub hl [2, 3, 4, 5, 6, 0] rfl)
        · have hf := g_neg hf hc_7
          refine lv_iload hx hb dX12_spanOf_51 (lv_at hl 0 rfl) ?_
          refine lv_istore (lv' := [(4, .int r_2), (6, .int r_2), (0, .ref (G.2.1 39 0)), (1, .int x1), (2, .int x2), (3, .int x3), (5, .int x5)]) hx hb dX12_spanOf_53 hl (by decide) rfl (fun ls hl => ?_)
          obtain ⟨x5_9, ex5_9, hf⟩ := g_letE hf
          refine lv_iinc (v := x5_9) (lv' := [(5, .int x5_9), (4, .int r_2), (6, .int r_2), (0, .ref (G.2.1 39 0)), (1, .int x1), (2, .int x2), (3, .int x3)]) hx hb dX12_spanOf_55 hl (k := 6) rfl (by rw [← ex5_9]; rfl) (by decide) rfl (fun ls hl => ?_)
          refine lv_goto (tgt := 6) hx hb dX12_spanOf_58 (by decide) ?_
          exact hk6 x1 x2 x3 r_2 x5_9 M hf hP hS (lv_sub hl [3, 4, 5, 6, 1, 0] rfl)
      · have hf := g_neg hf hc_6
        refine lv_iload hx hb dX12_spanOf_34 (lv_at hl 0 rfl) ?_
        refine lv_iload hx hb dX12_spanOf_36 (lv_at hl 5 rfl) ?_
        refine lv_icmp_le (tgt := 55) hx hb dX12_spanOf_38 (by decide) (fun hc_10 => ?_) (fun hc_10 => ?_)
        · have hf := g_pos hf hc_10
          obtain ⟨x5_11, ex5_11, hf⟩ := g_letE hf
          refine lv_iinc (v := x5_11) (lv' := [(5, .int x5_11), (6, .int r_2), (0, .ref (G.2.1 39 0)), (1, .int x1), (2, .int x2), (3, .int x3), (4, .int x4)]) hx hb dX12_spanOf_55 hl (k := 6) rfl (by rw [← ex5_11]; rfl) (by decide) rfl (fun ls hl => ?_)
          refine lv_goto (tgt := 6) hx hb dX12_spanOf_58 (by decide) ?_
          exact hk6 x1 x2 x3 x4 x5_11 M hf hP hS (lv_sub hl [2, 3, 4, 5, 6, 0] rfl)
        · have hf := g_neg hf hc_10
          refine lv_goto (tgt := 51) hx hb dX12_spanOf_41 (by decide) ?_
          refine lv_iload hx hb dX12_spanOf_51 (lv_at hl 0 rfl) ?_
          refine lv_istore (lv' := [(4, .int r_2), (6, .int r_2), (0, .ref (G.2.1 39 0)), (1, .int x1), (2, .int x2), (3, .int x3), (5, .int x5)]) hx hb dX12_spanOf_53 hl (by decide) rfl (fun ls hl => ?_)
          obtain ⟨x5_12, ex5_12, hf⟩ := g_letE hf
          refine lv_iinc (v := x5_12) (lv' := [(5, .int x5_12), (4, .int r_2), (6, .int r_2), (0, .ref (G.2.1 39 0)), (1, .int x1), (2, .int x2), (3, .int x3)]) hx hb dX12_spanOf_55 hl (k := 6) rfl (by rw [← ex5_12]; rfl) (by decide) rfl (fun ls hl => ?_)
          refine lv_goto (tgt := 6) hx hb dX12_spanOf_58 (by decide) ?_
          exact hk6 x1 x2 x3 r_2 x5_12 M hf hP hS (lv_sub hl [3, 4, 5, 6, 1, 0] rfl)
def wl_X12_spanOf_6 (n : Nat) (x1 : Int32) (x2 : Int32) (x3 : Int32) (x4 : Int32) (x5 : Int32) (M : SM) : Option (Int32) := g_loop (α := Int32 × Int32 × Int32 × Int32 × Int32 × SM) (fun k a => wb_X12_spanOf_6 (fun x1 x2 x3 x4 x5 M => k (x1, x2, x3, x4, x5, M)) a.1 a.2.1 a.2.2.1 a.2.2.2.1 a.2.2.2.2.1 a.2.2.2.2.2) n (x1, x2, x3, x4, x5, M)
set_option maxRecDepth 100000 in
set_option maxHeartbeats 4000000 in
theorem lp_X12_spanOf_6 {p : Program} {l : Launch} {e : Env} {s : State} {m : MethodId} {args : Array Value} {below : List Frame} {meth : Method} {c : Code} {G : GP} {X : SM} {τ : SL} (C0 : g_mc p s m args meth c RX12 cX12_spanOf (some .int) 7 G) {r0 : Int32} (n : Nat) : ∀ (x1 : Int32) (x2 : Int32) (x3 : Int32) (x4 : Int32) (x5 : Int32) (M : SM), wl_X12_spanOf_6 n x1 x2 x3 x4 x5 M = some r0 → ∀ {H : Heap} {locs : List Loc}, va_P G.1 g_cl (wd G (cb X M) τ) H → va_S (g_A G) s.heap H locs → ∀ {ls : Array Slot}, lv_has ls 7 [(0, .ref (G.2.1 39 0)), (1, .int x1), (2, .int x2), (3, .int x3), (4, .int x4), (5, .int x5)] → W p l e rm_X12_spanOf s m args below meth c H locs 0 0 (MQ below (va_Qi (fun r u => r = r0 ∧ u = (X, M, τ)) (g_pw G) (g_A G)) args s 0 0 (g_A G)) (F0 m 6 ls []) := by
  induction n with
  | zero =>
    intro x1 x2 x3 x4 x5 M hf
    have hf : (none : Option (Int32)) = _ := hf
    cases hf
  | succ n ih =>
    intro x1 x2 x3 x4 x5 M hf H locs hP hS ls hl
    exact bk_X12_spanOf_6 C0   (fun x1 x2 x3 x4 x5 M => wl_X12_spanOf_6   n x1 x2 x3 x4 x5 M) ih x1 x2 x3 x4 x5 M hf hP hS hl
def fn_X12_spanOf (x1 : Int32) (x2 : Int32) (x3 : Int32) (M : SM) : Option (Int32) :=
  wl_X12_spanOf_6 1000 x1 x2 x3 (-1) 0 M
set_option maxRecDepth 100000 in
set_option maxHeartbeats 4000000 in
theorem wk_X12_spanOf {p : Program} {l : Launch} {e : Env} {s : State} {m : MethodId} {args : Array Value} {below : List Frame} {meth : Method} {c : Code} {G : GP} {X : SM} {τ : SL} (C0 : g_mc p s m args meth c RX12 cX12_spanOf (some .int) 7 G) {r0 : Int32} (x1 : Int32) (x2 : Int32) (x3 : Int32) (M : SM) (hf : fn_X12_spanOf x1 x2 x3 M = some r0) {H : Heap} {locs : List Loc} (hP : va_P G.1 g_cl (wd G (cb X M) τ) H) (hS : va_S (g_A G) s.heap H locs) {ls : Array Slot} (hl : lv_has ls 7 [(0, .ref (G.2.1 39 0)), (1, .int x1), (2, .int x2), (3, .int x3)]) : W p l e rm_X12_spanOf s m args below meth c H locs 0 0 (MQ below (va_Qi (fun r u => r = r0 ∧ u = (X, M, τ)) (g_pw G) (g_A G)) args s 0 0 (g_A G)) (F0 m 0 ls []) := by
  obtain ⟨hx, hb, hr, hml, hown, hts, hlocks, hC⟩ := id C0
  unfold fn_X12_spanOf at hf
  refine lv_iconst (v := (-1)) hx hb dX12_spanOf_0 (by decide) ?_
  refine lv_istore (lv' := [(4, .int (-1)), (0, .ref (G.2.1 39 0)), (1, .int x1), (2, .int x2), (3, .int x3)]) hx hb dX12_spanOf_1 hl (by decide) rfl (fun ls hl => ?_)
  refine lv_iconst (v := 0) hx hb dX12_spanOf_3 (by decide) ?_
  refine lv_istore (lv' := [(5, .int 0), (4, .int (-1)), (0, .ref (G.2.1 39 0)), (1, .int x1), (2, .int x2), (3, .int x3)]) hx hb dX12_spanOf_4 hl (by decide) rfl (fun ls hl => ?_)
  exact lp_X12_spanOf_6 C0 1000 x1 x2 x3 (-1) 0 M hf hP hS (lv_sub hl [2, 3, 4, 5, 1, 0] rfl)
set_option maxRecDepth 100000 in
set_option maxHeartbeats 4000000 in
theorem ct_X12_spanOf (l : Launch) (G : GP) (X M : SM) (τ : SL) (x1 : Int32) (x2 : Int32) (x3 : Int32) {r0 : Int32} (hf : fn_X12_spanOf x1 x2 x3 M = some r0) : Met l yX12_spanOf (wz yX12_spanOf cX12_spanOf 7 (some .int)) rm_X12_spanOf (va_Pc [.ref (G.2.1 39 0), .int x1, .int x2, .int x3] (g_pw G (X, M, τ))) (va_Qi (fun r u => r = r0 ∧ u = (X, M, τ)) (g_pw G) (g_A G)) 0 0 (g_A G) := by
  refine Met.ofW (cc := cX12_spanOf) (maxL := 7) (ret := (some .int)) (by decide +kernel) rfl ?_
  intro p e s m args below meth c s₁ B hml hv
  obtain ⟨rfl, hC, hP⟩ := hv
  have C0 : g_mc p s m _ meth c RX12 cX12_spanOf (some .int) 7 G := ⟨B.exec, B.bytes, B.returns, hml, findClass_of_methodNamed B.named, fun w h => atoms_spec (ws := wz yX12_spanOf cX12_spanOf 7 (some .int)) B.pre w (List.mem_cons_of_mem _ h), B.notSynchronized, hC⟩
  have hl := lv_entry ([.ref (G.2.1 39 0), .int x1, .int x2, .int x3]) (n := 7) (Nat.le_of_ble_eq_true rfl)
  rw [lg_entry_eq]
  generalize (lg_sl ([.ref (G.2.1 39 0), .int x1, .int x2, .int x3]) ++ List.replicate (7 - (lg_sl ([.ref (G.2.1 39 0), .int x1, .int x2, .int x3])).length) Slot.unset).toArray = ls at hl ⊢
  exact wk_X12_spanOf C0  x1 x2 x3 M hf hP va_S.rf hl
abbrev rm_X12_worstOf : Room := { frames := 33, cells := 0, slots := 0, locals := 1038 }
def fn_X12_worstOf (x1 : Int32) (M : SM) (τ : SL) : Option (Int32 × SM × SL) :=
  (fn_X12_counted x1 1 M τ).bind fun (r_1, M_2, τ_3) =>
  if r_1 ≤ 100000 then
  ((fn_X12_spanOf x1 r_1 1 M_2).bind fun r_6 =>
    some (r_6, M_2, τ_3))
  else
  (some ((-1), M_2, τ_3))
set_option maxRecDepth 100000 in
set_option maxHeartbeats 4000000 in
theorem wk_X12_worstOf {p : Program} {l : Launch} {e : Env} {s : State} {m : MethodId} {args : Array Value} {below : List Frame} {meth : Method} {c : Code} {G : GP} {X : SM} (C0 : g_mc p s m args meth c RX12 cX12_worstOf (some .int) 3 G) {r0 : Int32} {M0 : SM} {τ0 : SL} (x1 : Int32) (M : SM) (τ : SL) (hf : fn_X12_worstOf x1 M τ = some (r0, M0, τ0)) {H : Heap} {locs : List Loc} (hP : va_P G.1 g_cl (wd G (cb X M) τ) H) (hS : va_S (g_A G) s.heap H locs) {ls : Array Slot} (hl : lv_has ls 3 [(0, .ref (G.2.1 39 0)), (1, .int x1)]) : W p l e rm_X12_worstOf s m args below meth c H locs 0 0 (MQ below (va_Qi (fun r u => r = r0 ∧ u = (X, M0, τ0)) (g_pw G) (g_A G)) args s 0 0 (g_A G)) (F0 m 0 ls []) := by
  obtain ⟨hx, hb, hr, hml, hown, hts, hlocks, hC⟩ := id C0
  unfold fn_X12_worstOf at hf
  refine lv_aload_n hx hb dX12_worstOf_0 rfl (lv_at hl 0 rfl) ?_
  refine lv_iload_n hx hb dX12_worstOf_1 rfl (lv_at hl 1 rfl) ?_
  refine lv_iconst (v := 1) hx hb dX12_worstOf_2 (by decide) ?_
  obtain ⟨⟨r_1, M_2, τ_3⟩, hc_4, hf⟩ := g_bindE hf
  refine x_calli (v := (X, M_2, τ_3)) (va_runV (As := [.int x1, .int 1]) (rest := []) ⟨hx, hb, hml, hown, hts⟩ (ct_X12_counted l G X M τ x1 1 hc_4) (cwV 2 hts gd_X12_205 rfl rfl rfl hd_X12_counted ⟨Nat.le_of_ble_eq_true rfl, Nat.le_of_ble_eq_true rfl⟩) (x_preV (u := (X, M, τ)) (k := 39) (ci := 12) hC hS hP Nat.zero_lt_one rfl rfl) rfl rfl hl.1 rfl (lv_room (Nat.le_of_ble_eq_true rfl)) dX12_worstOf_3 ⟨Nat.zero_le _, Nat.zero_le _⟩) hS (fun H locs hP hS => ?_)
  refine lv_istore_n (lv' := [(2, .int r_1), (0, .ref (G.2.1 39 0)), (1, .int x1)]) hx hb dX12_worstOf_6 rfl hl (by decide) rfl (fun ls hl => ?_)
  refine lv_iload_n hx hb dX12_worstOf_7 rfl (lv_at hl 0 rfl) ?_
  refine lv_ldc (v := 100000) hx hb hown (hts _ q38_5) dX12_worstOf_8 ?_
  refine lv_icmp_le (tgt := 17) hx hb dX12_worstOf_10 (by decide) (fun hc_5 => ?_) (fun hc_5 => ?_)
  · have hf := g_pos hf hc_5
    refine lv_aload_n hx hb dX12_worstOf_17 rfl (lv_at hl 1 rfl) ?_
    refine lv_iload_n hx hb dX12_worstOf_18 rfl (lv_at hl 2 rfl) ?_
    refine lv_iload_n hx hb dX12_worstOf_19 rfl (lv_at hl 0 rfl) ?_
    refine lv_iconst (v := 1) hx hb dX12_worstOf_20 (by decide) ?_
    obtain ⟨r_6, hc_7, hf⟩ := g_bindE hf
    refine x_calli (v := (X, M_2, τ_3)) (va_runV (As := [.int x1, .int r_1, .int 1]) (rest := []) ⟨hx, hb, hml, hown, hts⟩ (ct_X12_spanOf l G X M_2 τ_3 x1 r_1 1 hc_7) (cwV 3 hts gd_X12_210 rfl rfl rfl hd_X12_spanOf ⟨Nat.le_of_ble_eq_true rfl, Nat.le_of_ble_eq_true rfl⟩) (x_preV (u := (X, M_2, τ_3)) (k := 39) (ci := 12) hC hS hP Nat.zero_lt_one rfl rfl) rfl rfl hl.1 rfl (lv_room (Nat.le_of_ble_eq_true rfl)) dX12_worstOf_21 ⟨Nat.zero_le _, Nat.zero_le _⟩) hS (fun H locs hP hS => ?_)
    cases hf
    exact x_iret hx hb hlocks hC hP hS hr dX12_worstOf_24
  · have hf := g_neg hf hc_5
    refine lv_iconst (v := (-1)) hx hb dX12_worstOf_13 (by decide) ?_
    refine lv_goto (tgt := 24) hx hb dX12_worstOf_14 (by decide) ?_
    cases hf
    exact x_iret hx hb hlocks hC hP hS hr dX12_worstOf_24
set_option maxRecDepth 100000 in
set_option maxHeartbeats 4000000 in
theorem ct_X12_worstOf (l : Launch) (G : GP) (X M : SM) (τ : SL) (x1 : Int32) {r0 : Int32} {M0 : SM} {τ0 : SL} (hf : fn_X12_worstOf x1 M τ = some (r0, M0, τ0)) : Met l yX12_worstOf (wz yX12_worstOf cX12_worstOf 3 (some .int)) rm_X12_worstOf (va_Pc [.ref (G.2.1 39 0), .int x1] (g_pw G (X, M, τ))) (va_Qi (fun r u => r = r0 ∧ u = (X, M0, τ0)) (g_pw G) (g_A G)) 0 0 (g_A G) := by
  refine Met.ofW (cc := cX12_worstOf) (maxL := 3) (ret := (some .int)) (by decide +kernel) rfl ?_
  intro p e s m args below meth c s₁ B hml hv
  obtain ⟨rfl, hC, hP⟩ := hv
  have C0 : g_mc p s m _ meth c RX12 cX12_worstOf (some .int) 3 G := ⟨B.exec, B.bytes, B.returns, hml, findClass_of_methodNamed B.named, fun w h => atoms_spec (ws := wz yX12_worstOf cX12_worstOf 3 (some .int)) B.pre w (List.mem_cons_of_mem _ h), B.notSynchronized, hC⟩
  have hl := lv_entry ([.ref (G.2.1 39 0), .int x1]) (n := 3) (Nat.le_of_ble_eq_true rfl)
  rw [lg_entry_eq]
  generalize (lg_sl ([.ref (G.2.1 39 0), .int x1]) ++ List.replicate (3 - (lg_sl ([.ref (G.2.1 39 0), .int x1])).length) Slot.unset).toArray = ls at hl ⊢
  exact wk_X12_worstOf C0  x1 M τ hf hP va_S.rf hl
abbrev rm_X12_isSafe : Room := { frames := 34, cells := 0, slots := 0, locals := 1060 }
def fn_X12_isSafe (x1 : Int32) (M : SM) (τ : SL) : Option (Int32 × SM × SL) :=
  if g_in x1 6 then
  if (M 45 0 (x1.toNatClampNeg)) = 0 then
  (if g_in x1 6 then
    if (M 51 0 (x1.toNatClampNeg)) = 0 then
    (some (0, M, τ))
    else
    ((fn_X12_hasSlot x1 M).bind fun r_5 =>
      if r_5 = 0 then
      (some (0, M, τ))
      else
      ((fn_X12_isPlain x1 M).bind fun r_8 =>
        if r_8 = 0 then
        (some (0, M, τ))
        else
        ((fn_X12_worstOf x1 M τ).bind fun (r_11, M_12, τ_13) =>
          if r_11 < 0 then
          (some (0, M_12, τ_13))
          else
          (if g_in x1 6 then
            if (M_12 51 0 (x1.toNatClampNeg)) < r_11 then
            (some (0, M_12, τ_13))
            else
            (some (1, M_12, τ_13))
            else none))))
    else none)
  else
  (some (0, M, τ))
  else none
set_option maxRecDepth 100000 in
set_option maxHeartbeats 4000000 in
theorem wk_X12_isSafe {p : Program} {l : Launch} {e : Env} {s : State} {m : MethodId} {args : Array Value} {below : List Frame} {meth : Method} {c : Code} {G : GP} {X : SM} (C0 : g_mc p s m args meth c RX12 cX12_isSafe (some .boolean) 3 G) {r0 : Int32} {M0 : SM} {τ0 : SL} (x1 : Int32) (M : SM) (τ : SL) (hf : fn_X12_isSafe x1 M τ = some (r0, M0, τ0)) {H : Heap} {locs : List Loc} (hP : va_P G.1 g_cl (wd G (cb X M) τ) H) (hS : va_S (g_A G) s.heap H locs) {ls : Array Slot} (hl : lv_has ls 3 [(0, .ref (G.2.1 39 0)), (1, .int x1)]) : W p l e rm_X12_isSafe s m args below meth c H locs 0 0 (MQ below (va_Qi (fun r u => r = r0 ∧ u = (X, M0, τ0)) (g_pw G) (g_A G)) args s 0 0 (g_A G)) (F0 m 0 ls []) := by
  obtain ⟨hx, hb, hr, hml, hown, hts, hlocks, hC⟩ := id C0
  unfold fn_X12_isSafe at hf
  refine lv_aload_n hx hb dX12_isSafe_0 rfl (lv_at hl 0 rfl) ?_
  refine gt_39_5 hx hb hts hown hC hP Nat.zero_lt_one q6_23 dX12_isSafe_1 ?_
  refine lv_iload_n hx hb dX12_isSafe_4 rfl (lv_at hl 1 rfl) ?_
  obtain ⟨hg_1, hf⟩ := g_gd hf
  refine xzldM (k := 45) (n := 6) hx hb hC hP (fun _ _ => rfl) rfl Nat.zero_lt_one hg_1 dX12_isSafe_5 ?_
  refine lv_if_ne (tgt := 34) hx hb dX12_isSafe_6 (by decide) (fun hc_2 => ?_) (fun hc_2 => ?_)
  · have hf := g_neg hf hc_2
    refine lv_iconst (v := 0) hx hb dX12_isSafe_34 (by decide) ?_
    cases hf
    exact x_zret hx hb hlocks hC hP hS hr (Or.inl rfl) dX12_isSafe_35
  · have hf := g_pos hf hc_2
    refine lv_aload_n hx hb dX12_isSafe_9 rfl (lv_at hl 0 rfl) ?_
    refine gt_39_13 hx hb hts hown hC hP Nat.zero_lt_one q7_6 dX12_isSafe_10 ?_
    refine lv_iload_n hx hb dX12_isSafe_13 rfl (lv_at hl 1 rfl) ?_
    obtain ⟨hg_3, hf⟩ := g_gd hf
    refine xildM (k := 51) (n := 6) hx hb hC hP (fun _ _ => rfl) rfl Nat.zero_lt_one hg_3 dX12_isSafe_14 ?_
    refine lv_if_eq (tgt := 34) hx hb dX12_isSafe_15 (by decide) (fun hc_4 => ?_) (fun hc_4 => ?_)
    · have hf := g_pos hf hc_4
      refine lv_iconst (v := 0) hx hb dX12_isSafe_34 (by decide) ?_
      cases hf
      exact x_zret hx hb hlocks hC hP hS hr (Or.inl rfl) dX12_isSafe_35
    · have hf := g_neg hf hc_4
      refine lv_aload_n hx hb dX12_isSafe_18 rfl (lv_at hl 0 rfl) ?_
      refine lv_iload_n hx hb dX12_isSafe_19 rfl (lv_at hl 1 rfl) ?_
      obtain ⟨r_5, hc_6, hf⟩ := g_bindE hf
      refine x_calli (v := (X, M, τ)) (va_runV (As := [.int x1]) (rest := []) ⟨hx, hb, hml, hown, hts⟩ (ct_X12_hasSlot l G X M τ x1 hc_6) (cwV 1 hts gd_X12_214 rfl rfl rfl hd_X12_hasSlot ⟨Nat.le_of_ble_eq_true rfl, Nat.le_of_ble_eq_true rfl⟩) (x_preV (u := (X, M, τ)) (k := 39) (ci := 12) hC hS hP Nat.zero_lt_one rfl rfl) rfl rfl hl.1 rfl (lv_room (Nat.le_of_ble_eq_true rfl)) dX12_isSafe_20 ⟨Nat.zero_le _, Nat.zero_le _⟩) hS (fun H locs hP hS => ?_)
      refine lv_if_eq (tgt := 34) hx hb dX12_isSafe_23 (by decide) (fun hc_7 => ?_) (fun hc_7 => ?_)
      · have hf := g_pos hf hc_7
        refine lv_iconst (v := 0) hx hb dX12_isSafe_34 (by decide) ?_
        cases hf
        exact x_zret hx hb hlocks hC hP hS hr (Or.inl rfl) dX12_isSafe_35
      · have hf := g_neg hf hc_7
        refine lv_aload_n hx hb dX12_isSafe_26 rfl (lv_at hl 0 rfl) ?_
        refine lv_iload_n hx hb dX12_isSafe_27 rfl (lv_at hl 1 rfl) ?_
        obtain ⟨r_8, hc_9, hf⟩ := g_bindE hf
        refine x_calli (v := (X, M, τ)) (va_runV (As := [.int x1]) (rest := []) ⟨hx, hb, hml, hown, hts⟩ (ct_X12_isPlain l G X M τ x1 hc_9) (cwV 1 hts gd_X12_217 rfl rfl rfl hd_X12_isPlain ⟨Nat.le_of_ble_eq_true rfl, Nat.le_of_ble_eq_true rfl⟩) (x_preV (u := (X, M, τ)) (k := 39) (ci := 12) hC hS hP Nat.zero_lt_one rfl rfl) rfl rfl hl.1 rfl (lv_room (Nat.le_of_ble_eq_true rfl)) dX12_isSafe_28 ⟨Nat.zero_le _, Nat.zero_le _⟩) hS (fun H locs hP hS => ?_)
        refine lv_if_ne (tgt := 36) hx hb dX12_isSafe_31 (by decide) (fun hc_10 => ?_) (fun hc_10 => ?_)
        · have hf := g_neg hf hc_10
          refine lv_aload_n hx hb dX12_isSafe_36 rfl (lv_at hl 0 rfl) ?_
          refine lv_iload_n hx hb dX12_isSafe_37 rfl (lv_at hl 1 rfl) ?_
          obtain ⟨⟨r_11, M_12, τ_13⟩, hc_14, hf⟩ := g_bindE hf
          refine x_calli (v := (X, M_12, τ_13)) (va_runV (As := [.int x1]) (rest := []) ⟨hx, hb, hml, hown, hts⟩ (ct_X12_worstOf l G X M τ x1 hc_14) (cwV 1 hts gd_X12_220 rfl rfl rfl hd_X12_worstOf ⟨Nat.le_of_ble_eq_true rfl, Nat.le_of_ble_eq_true rfl⟩) (x_preV (u := (X, M, τ)) (k := 39) (ci := 12) hC hS hP Nat.zero_lt_one rfl rfl) rfl rfl hl.1 rfl (lv_room (Nat.le_of_ble_eq_true rfl)) dX12_isSafe_38 ⟨Nat.zero_le _, Nat.zero_le _⟩) hS (fun H locs hP hS => ?_)
          refine lv_istore_n (lv' := [(2, .int r_11), (0, .ref (G.2.1 39 0)), (1, .int x1)]) hx hb dX12_isSafe_41 rfl hl (by decide) rfl (fun ls hl => ?_)
          refine lv_iload_n hx hb dX12_isSafe_42 rfl (lv_at hl 0 rfl) ?_
          refine lv_if_lt (tgt := 60) hx hb dX12_isSafe_43 (by decide) (fun hc_15 => ?_) (fun hc_15 => ?_)
          · have hf := g_pos hf hc_15
            refine lv_iconst (v := 0) hx hb dX12_isSafe_60 (by decide) ?_
            cases hf
            exact x_zret hx hb hlocks hC hP hS hr (Or.inl rfl) dX12_isSafe_61
          · have hf := g_neg hf hc_15
            refine lv_iload_n hx hb dX12_isSafe_46 rfl (lv_at hl 0 rfl) ?_
            refine lv_aload_n hx hb dX12_isSafe_47 rfl (lv_at hl 1 rfl) ?_
            refine gt_39_13 hx hb hts hown hC hP Nat.zero_lt_one q7_6 dX12_isSafe_48 ?_
            refine lv_iload_n hx hb dX12_isSafe_51 rfl (lv_at hl 2 rfl) ?_
            obtain ⟨hg_16, hf⟩ := g_gd hf
            refine xildM (k := 51) (n := 6) hx hb hC hP (fun _ _ => rfl) rfl Nat.zero_lt_one hg_16 dX12_isSafe_52 ?_
            refine lv_icmp_gt (tgt := 60) hx hb dX12_isSafe_53 (by decide) (fun hc_17 => ?_) (fun hc_17 => ?_)
            · have hf := g_pos hf hc_17
              refine lv_iconst (v := 0) hx hb dX12_isSafe_60 (by decide) ?_
              cases hf
              exact x_zret hx hb hlocks hC hP hS hr (Or.inl rfl) dX12_isSafe_61
            · have hf := g_neg hf hc_17
              refine lv_iconst (v := 1) hx hb dX12_isSafe_56 (by decide) ?_
              refine lv_goto (tgt := 61) hx hb dX12_isSafe_57 (by decide) ?_
              cases hf
              exact x_zret hx hb hlocks hC hP hS hr (Or.inr rfl) dX12_isSafe_61
        · have hf := g_pos hf hc_10
          refine lv_iconst (v := 0) hx hb dX12_isSafe_34 (by decide) ?_
          cases hf
          exact x_zret hx hb hlocks hC hP hS hr (Or.inl rfl) dX12_isSafe_35
set_option maxRecDepth 100000 in
set_option maxHeartbeats 4000000 in
theorem ct_X12_isSafe (l : Launch) (G : GP) (X M : SM) (τ : SL) (x1 : Int32) {r0 : Int32} {M0 : SM} {τ0 : SL} (hf : fn_X12_isSafe x1 M τ = some (r0, M0, τ0)) : Met l yX12_isSafe (wz yX12_isSafe cX12_isSafe 3 (some .boolean)) rm_X12_isSafe (va_Pc [.ref (G.2.1 39 0), .int x1] (g_pw G (X, M, τ))) (va_Qi (fun r u => r = r0 ∧ u = (X, M0, τ0)) (g_pw G) (g_A G)) 0 0 (g_A G) := by
  refine Met.ofW (cc := cX12_isSafe) (maxL := 3) (ret := (some .boolean)) (by decide +kernel) rfl ?_
  intro p e s m args below meth c s₁ B hml hv
  obtain ⟨rfl, hC, hP⟩ := hv
  have C0 : g_mc p s m _ meth c RX12 cX12_isSafe (some .boolean) 3 G := ⟨B.exec, B.bytes, B.returns, hml, findClass_of_methodNamed B.named, fun w h => atoms_spec (ws := wz yX12_isSafe cX12_isSafe 3 (some .boolean)) B.pre w (List.mem_cons_of_mem _ h), B.notSynchronized, hC⟩
  have hl := lv_entry ([.ref (G.2.1 39 0), .int x1]) (n := 3) (Nat.le_of_ble_eq_true rfl)
  rw [lg_entry_eq]
  generalize (lg_sl ([.ref (G.2.1 39 0), .int x1]) ++ List.replicate (3 - (lg_sl ([.ref (G.2.1 39 0), .int x1])).length) Slot.unset).toArray = ls at hl ⊢
  exact wk_X12_isSafe C0  x1 M τ hf hP va_S.rf hl
abbrev rm_X12_bound : Room := { frames := 35, cells := 0, slots := 0, locals := 1082 }
def fn_X12_bound (x1 : Int32) (x2 : Int32) (M : SM) (τ : SL) : Option (Int32 × SM × SL) :=
  g_let (u1 M 39 0 15 0) fun M_1 =>
  (fn_X12_isThread x1).bind fun r_2 =>
  if r_2 = 0 then
  (some ((-1), M_1, τ))
  else
  (g_let (fn_X12_within x2 0 5) fun r_5 =>
    if r_5 = 0 then
    (some ((-1), M_1, τ))
    else
    (if x2 = 5 then
      ((fn_X12_isSafe x1 M_1 τ).bind fun (r_39, M_40, τ_41) =>
        if r_39 = 0 then
        (some (0, M_40, τ_41))
        else
        (some (1, M_40, τ_41)))
      else
      ((fn_X12_isPlain x1 M_1).bind fun r_9 =>
        if x2 = 0 then
        (if r_9 = 0 then
          (some (0, M_1, τ))
          else
          (some (1, M_1, τ)))
        else
        (if r_9 = 0 then
          (some ((-1), M_1, τ))
          else
          (if 3 ≤ x2 then
            ((fn_X12_hasSlot x1 M_1).bind fun r_14 =>
              if r_14 = 0 then
              (some ((-1), M_1, τ))
              else
              (if x2 = 4 then
                ((fn_X12_worstOf x1 M_1 τ).bind fun (r_25, M_26, τ_27) =>
                  some (r_25, M_26, τ_27))
                else
                ((fn_X12_counted x1 0 M_1 τ).bind fun (r_18, M_19, τ_20) =>
                  if r_18 ≤ 100000 then
                  ((fn_X12_spanOf x1 r_18 0 M_19).bind fun r_23 =>
                    some (r_23, M_19, τ_20))
                  else
                  (some ((-1), M_19, τ_20)))))
            else
            (if x2 = 2 then
              ((fn_X12_counted x1 1 M_1 τ).bind fun (r_34, M_35, τ_36) =>
                some (r_34, M_35, τ_36))
              else
              ((fn_X12_counted x1 0 M_1 τ).bind fun (r_30, M_31, τ_32) =>
                some (r_30, M_31, τ_32))))))))
set_option maxRecDepth 100000 in
set_option maxHeartbeats 4000000 in
theorem wk_X12_bound {p : Program} {l : Launch} {e : Env} {s : State} {m : MethodId} {args : Array Value} {below : List Frame} {meth : Method} {c : Code} {G : GP} {X : SM} (C0 : g_mc p s m args meth c RX12 cX12_bound (some .int) 5 G) {r0 : Int32} {M0 : SM} {τ0 : SL} (x1 : Int32) (x2 : Int32) (M : SM) (τ : SL) (hf : fn_X12_bound x1 x2 M τ = some (r0, M0, τ0)) {H : Heap} {locs : List Loc} (hP : va_P G.1 g_cl (wd G (cb X M) τ) H) (hS : va_S (g_A G) s.heap H locs) {ls : Array Slot} (hl : lv_has ls 5 [(0, .ref (G.2.1 39 0)), (1, .int x1), (2, .int x2)]) : W p l e rm_X12_bound s m args below meth c H locs 0 0 (MQ below (va_Qi (fun r u => r = r0 ∧ u = (X, M0, τ0)) (g_pw G) (g_A G)) args s 0 0 (g_A G)) (F0 m 0 ls []) := by
  obtain ⟨hx, hb, hr, hml, hown, hts, hlocks, hC⟩ := id C0
  unfold fn_X12_bound at hf
  refine lv_aload_n hx hb dX12_bound_0 rfl (lv_at hl 0 rfl) ?_
  refine lv_iconst (v := 0) hx hb dX12_bound_1 (by decide) ?_
  obtain ⟨M_1, eM_1, hf⟩ := g_letE hf
  refine pt_39_15 hx hb hts hown hC hP hS Nat.zero_lt_one q8_18 dX12_bound_2 (fun H locs hP hS => ?_)
  rw [eM_1] at hP
  refine lv_iload_n hx hb dX12_bound_5 rfl (lv_at hl 1 rfl) ?_
  obtain ⟨r_2, hc_3, hf⟩ := g_bindE hf
  refine x_calli (v := (X, M_1, τ)) (va_runS (As := [.int x1]) (rest := []) ⟨hx, hb, hml, hown, hts⟩ (ct_X12_isThread l G X M_1 τ x1 hc_3) (cwS 1 hts gd_X12_80 rfl rfl rfl hd_X12_isThread ⟨Nat.le_of_ble_eq_true rfl, Nat.le_of_ble_eq_true rfl⟩) (x_pre (u := (X, M_1, τ)) hC hS hP) rfl rfl hl.1 rfl (lv_room (Nat.le_of_ble_eq_true rfl)) dX12_bound_6 ⟨Nat.zero_le _, Nat.zero_le _⟩) hS (fun H locs hP hS => ?_)
  refine lv_if_eq (tgt := 21) hx hb dX12_bound_9 (by decide) (fun hc_4 => ?_) (fun hc_4 => ?_)
  · have hf := g_pos hf hc_4
    refine lv_iconst (v := (-1)) hx hb dX12_bound_21 (by decide) ?_
    cases hf
    exact x_iret hx hb hlocks hC hP hS hr dX12_bound_22
  · have hf := g_neg hf hc_4
    refine lv_iload_n hx hb dX12_bound_12 rfl (lv_at hl 2 rfl) ?_
    refine lv_iconst (v := 0) hx hb dX12_bound_13 (by decide) ?_
    refine lv_iconst (v := 5) hx hb dX12_bound_14 (by decide) ?_
    obtain ⟨r_5, hc_6, hf⟩ := g_letE hf
    refine x_calli (v := (X, M_1, τ)) (va_runS (As := [.int x2, .int 0, .int 5]) (rest := []) ⟨hx, hb, hml, hown, hts⟩ (ct_X12_within l G X M_1 τ x2 0 5 hc_6) (cwS 3 hts gd_X12_76 rfl rfl rfl hd_X12_within ⟨Nat.le_of_ble_eq_true rfl, Nat.le_of_ble_eq_true rfl⟩) (x_pre (u := (X, M_1, τ)) hC hS hP) rfl rfl hl.1 rfl (lv_room (Nat.le_of_ble_eq_true rfl)) dX12_bound_15 ⟨Nat.zero_le _, Nat.zero_le _⟩) hS (fun H locs hP hS => ?_)
    refine lv_if_ne (tgt := 23) hx hb dX12_bound_18 (by decide) (fun hc_7 => ?_) (fun hc_7 => ?_)
    · have hf := g_neg hf hc_7
      refine lv_iload_n hx hb dX12_bound_23 rfl (lv_at hl 2 rfl) ?_
      refine lv_iconst (v := 5) hx hb dX12_bound_24 (by decide) ?_
      refine lv_icmp_ne (tgt := 42) hx hb dX12_bound_25 (by decide) (fun hc_8 => ?_) (fun hc_8 => ?_)
      · have hf := g_neg hf hc_8
        refine lv_aload_n hx hb dX12_bound_42 rfl (lv_at hl 0 rfl) ?_
        refine lv_iload_n hx hb dX12_bound_43 rfl (lv_at hl 1 rfl) ?_
        obtain ⟨r_9, hc_10, hf⟩ := g_bindE hf
        refine x_calli (v := (X, M_1, τ)) (va_runV (As := [.int x1]) (rest := []) ⟨hx, hb, hml, hown, hts⟩ (ct_X12_isPlain l G X M_1 τ x1 hc_10) (cwV 1 hts gd_X12_217 rfl rfl rfl hd_X12_isPlain ⟨Nat.le_of_ble_eq_true rfl, Nat.le_of_ble_eq_true rfl⟩) (x_preV (u := (X, M_1, τ)) (k := 39) (ci := 12) hC hS hP Nat.zero_lt_one rfl rfl) rfl rfl hl.1 rfl (lv_room (Nat.le_of_ble_eq_true rfl)) dX12_bound_44 ⟨Nat.zero_le _, Nat.zero_le _⟩) hS (fun H locs hP hS => ?_)
        refine lv_istore_n (lv' := [(3, .int r_9), (0, .ref (G.2.1 39 0)), (1, .int x1), (2, .int x2)]) hx hb dX12_bound_47 rfl hl (by decide) rfl (fun ls hl => ?_)
        refine lv_iload_n hx hb dX12_bound_48 rfl (lv_at hl 3 rfl) ?_
        refine lv_if_ne (tgt := 62) hx hb dX12_bound_49 (by decide) (fun hc_11 => ?_) (fun hc_11 => ?_)
        · have hf := g_neg hf hc_11
          refine lv_iload_n hx hb dX12_bound_62 rfl (lv_at hl 0 rfl) ?_
          refine lv_if_ne (tgt := 68) hx hb dX12_bound_63 (by decide) (fun hc_12 => ?_) (fun hc_12 => ?_)
          · have hf := g_neg hf hc_12
            refine lv_iload_n hx hb dX12_bound_68 rfl (lv_at hl 3 rfl) ?_
            refine lv_iconst (v := 3) hx hb dX12_bound_69 (by decide) ?_
            refine lv_icmp_ge (tgt := 89) hx hb dX12_bound_70 (by decide) (fun hc_13 => ?_) (fun hc_13 => ?_)
            · have hf := g_pos hf hc_13
              refine lv_aload_n hx hb dX12_bound_89 rfl (lv_at hl 1 rfl) ?_
              refine lv_iload_n hx hb dX12_bound_90 rfl (lv_at hl 2 rfl) ?_
              obtain ⟨r_14, hc_15, hf⟩ := g_bindE hf
              refine x_calli (v := (X, M_1, τ)) (va_runV (As := [.int x1]) (rest := []) ⟨hx, hb, hml, hown, hts⟩ (ct_X12_hasSlot l G X M_1 τ x1 hc_15) (cwV 1 hts gd_X12_214 rfl rfl rfl hd_X12_hasSlot ⟨Nat.le_of_ble_eq_true rfl, Nat.le_of_ble_eq_true rfl⟩) (x_preV (u := (X, M_1, τ)) (k := 39) (ci := 12) hC hS hP Nat.zero_lt_one rfl rfl) rfl rfl hl.1 rfl (lv_room (Nat.le_of_ble_eq_true rfl)) dX12_bound_91 ⟨Nat.zero_le _, Nat.zero_le _⟩) hS (fun H locs hP hS => ?_)
              refine lv_if_ne (tgt := 99) hx hb dX12_bound_94 (by decide) (fun hc_16 => ?_) (fun hc_16 => ?_)
              · have hf := g_neg hf hc_16
                refine lv_iload_n hx hb dX12_bound_99 rfl (lv_at hl 3 rfl) ?_
                refine lv_iconst (v := 4) hx hb dX12_bound_100 (by decide) ?_
                refine lv_icmp_ne (tgt := 110) hx hb dX12_bound_101 (by decide) (fun hc_17 => ?_) (fun hc_17 => ?_)
                · have hf := g_neg hf hc_17
                  refine lv_aload_n hx hb dX12_bound_110 rfl (lv_at hl 1 rfl) ?_
                  refine lv_iload_n hx hb dX12_bound_111 rfl (lv_at hl 2 rfl) ?_
                  refine lv_iconst (v := 0) hx hb dX12_bound_112 (by decide) ?_
                  obtain ⟨⟨r_18, M_19, τ_20⟩, hc_21, hf⟩ := g_bindE hf
                  refine x_calli (v := (X, M_19, τ_20)) (va_runV (As := [.int x1, .int 0]) (rest := []) ⟨hx, hb, hml, hown, hts⟩ (ct_X12_counted l G X M_1 τ x1 0 hc_21) (cwV 2 hts gd_X12_205 rfl rfl rfl hd_X12_counted ⟨Nat.le_of_ble_eq_true rfl, Nat.le_of_ble_eq_true rfl⟩) (x_preV (u := (X, M_1, τ)) (k := 39) (ci := 12) hC hS hP Nat.zero_lt_one rfl rfl) rfl rfl hl.1 rfl (lv_room (Nat.le_of_ble_eq_true rfl)) dX12_bound_113 ⟨Nat.zero_le _, Nat.zero_le _⟩) hS (fun H locs hP hS => ?_)
                  refine lv_istore (lv' := [(4, .int r_18), (3, .int r_9), (0, .ref (G.2.1 39 0)), (1, .int x1), (2, .int x2)]) hx hb dX12_bound_116 hl (by decide) rfl (fun ls hl => ?_)
                  refine lv_iload hx hb dX12_bound_118 (lv_at hl 0 rfl) ?_
                  refine lv_ldc (v := 100000) hx hb hown (hts _ q38_5) dX12_bound_120 ?_
                  refine lv_icmp_le (tgt := 129) hx hb dX12_bound_122 (by decide) (fun hc_22 => ?_) (fun hc_22 => ?_)
                  · have hf := g_pos hf hc_22
                    refine lv_aload_n hx hb dX12_bound_129 rfl (lv_at hl 2 rfl) ?_
                    refine lv_iload_n hx hb dX12_bound_130 rfl (lv_at hl 3 rfl) ?_
                    refine lv_iload hx hb dX12_bound_131 (lv_at hl 0 rfl) ?_
                    refine lv_iconst (v := 0) hx hb dX12_bound_133 (by decide) ?_
                    obtain ⟨r_23, hc_24, hf⟩ := g_bindE hf
                    refine x_calli (v := (X, M_19, τ_20)) (va_runV (As := [.int x1, .int r_18, .int 0]) (rest := []) ⟨hx, hb, hml, hown, hts⟩ (ct_X12_spanOf l G X M_19 τ_20 x1 r_18 0 hc_24) (cwV 3 hts gd_X12_210 rfl rfl rfl hd_X12_spanOf ⟨Nat.le_of_ble_eq_true rfl, Nat.le_of_ble_eq_true rfl⟩) (x_preV (u := (X, M_19, τ_20)) (k := 39) (ci := 12) hC hS hP Nat.zero_lt_one rfl rfl) rfl rfl hl.1 rfl (lv_room (Nat.le_of_ble_eq_true rfl)) dX12_bound_134 ⟨Nat.zero_le _, Nat.zero_le _⟩) hS (fun H locs hP hS => ?_)
                    cases hf
                    exact x_iret hx hb hlocks hC hP hS hr dX12_bound_137
                  · have hf := g_neg hf hc_22
                    refine lv_iconst (v := (-1)) hx hb dX12_bound_125 (by decide) ?_
                    refine lv_goto (tgt := 137) hx hb dX12_bound_126 (by decide) ?_
                    cases hf
                    exact x_iret hx hb hlocks hC hP hS hr dX12_bound_137
                · have hf := g_pos hf hc_17
                  refine lv_aload_n hx hb dX12_bound_104 rfl (lv_at hl 1 rfl) ?_
                  refine lv_iload_n hx hb dX12_bound_105 rfl (lv_at hl 2 rfl) ?_
                  obtain ⟨⟨r_25, M_26, τ_27⟩, hc_28, hf⟩ := g_bindE hf
                  refine x_calli (v := (X, M_26, τ_27)) (va_runV (As := [.int x1]) (rest := []) ⟨hx, hb, hml, hown, hts⟩ (ct_X12_worstOf l G X M_1 τ x1 hc_28) (cwV 1 hts gd_X12_220 rfl rfl rfl hd_X12_worstOf ⟨Nat.le_of_ble_eq_true rfl, Nat.le_of_ble_eq_true rfl⟩) (x_preV (u := (X, M_1, τ)) (k := 39) (ci := 12) hC hS hP Nat.zero_lt_one rfl rfl) rfl rfl hl.1 rfl (lv_room (Nat.le_of_ble_eq_true rfl)) dX12_bound_106 ⟨Nat.zero_le _, Nat.zero_le _⟩) hS (fun H locs hP hS => ?_)
                  cases hf
                  exact x_iret hx hb hlocks hC hP hS hr dX12_bound_109
              · have hf := g_pos hf hc_16
                refine lv_iconst (v := (-1)) hx hb dX12_bound_97 (by decide) ?_
                cases hf
                exact x_iret hx hb hlocks hC hP hS hr dX12_bound_98
            · have hf := g_neg hf hc_13
              refine lv_aload_n hx hb dX12_bound_73 rfl (lv_at hl 1 rfl) ?_
              refine lv_iload_n hx hb dX12_bound_74 rfl (lv_at hl 2 rfl) ?_
              refine lv_iload_n hx hb dX12_bound_75 rfl (lv_at hl 3 rfl) ?_
              refine lv_iconst (v := 2) hx hb dX12_bound_76 (by decide) ?_
              refine lv_icmp_ne (tgt := 84) hx hb dX12_bound_77 (by decide) (fun hc_29 => ?_) (fun hc_29 => ?_)
              · have hf := g_neg hf hc_29
                refine lv_iconst (v := 0) hx hb dX12_bound_84 (by decide) ?_
                obtain ⟨⟨r_30, M_31, τ_32⟩, hc_33, hf⟩ := g_bindE hf
                refine x_calli (v := (X, M_31, τ_32)) (va_runV (As := [.int x1, .int 0]) (rest := []) ⟨hx, hb, hml, hown, hts⟩ (ct_X12_counted l G X M_1 τ x1 0 hc_33) (cwV 2 hts gd_X12_205 rfl rfl rfl hd_X12_counted ⟨Nat.le_of_ble_eq_true rfl, Nat.le_of_ble_eq_true rfl⟩) (x_preV (u := (X, M_1, τ)) (k := 39) (ci := 12) hC hS hP Nat.zero_lt_one rfl rfl) rfl rfl hl.1 rfl (lv_room (Nat.le_of_ble_eq_true rfl)) dX12_bound_85 ⟨Nat.zero_le _, Nat.zero_le _⟩) hS (fun H locs hP hS => ?_)
                cases hf
                exact x_iret hx hb hlocks hC hP hS hr dX12_bound_88
              · have hf := g_pos hf hc_29
                refine lv_iconst (v := 1) hx hb dX12_bound_80 (by decide) ?_
                refine lv_goto (tgt := 85) hx hb dX12_bound_81 (by decide) ?_
                obtain ⟨⟨r_34, M_35, τ_36⟩, hc_37, hf⟩ := g_bindE hf
                refine x_calli (v := (X, M_35, τ_36)) (va_runV (As := [.int x1, .int 1]) (rest := []) ⟨hx, hb, hml, hown, hts⟩ (ct_X12_counted l G X M_1 τ x1 1 hc_37) (cwV 2 hts gd_X12_205 rfl rfl rfl hd_X12_counted ⟨Nat.le_of_ble_eq_true rfl, Nat.le_of_ble_eq_true rfl⟩) (x_preV (u := (X, M_1, τ)) (k := 39) (ci := 12) hC hS hP Nat.zero_lt_one rfl rfl) rfl rfl hl.1 rfl (lv_room (Nat.le_of_ble_eq_true rfl)) dX12_bound_85 ⟨Nat.zero_le _, Nat.zero_le _⟩) hS (fun H locs hP hS => ?_)
                cases hf
                exact x_iret hx hb hlocks hC hP hS hr dX12_bound_88
          · have hf := g_pos hf hc_12
            refine lv_iconst (v := (-1)) hx hb dX12_bound_66 (by decide) ?_
            cases hf
            exact x_iret hx hb hlocks hC hP hS hr dX12_bound_67
        · have hf := g_pos hf hc_11
          refine lv_iload_n hx hb dX12_bound_52 rfl (lv_at hl 0 rfl) ?_
          refine lv_if_eq (tgt := 60) hx hb dX12_bound_53 (by decide) (fun hc_38 => ?_) (fun hc_38 => ?_)
          · have hf := g_pos hf hc_38
            refine lv_iconst (v := 0) hx hb dX12_bound_60 (by decide) ?_
            cases hf
            exact x_iret hx hb hlocks hC hP hS hr dX12_bound_61
          · have hf := g_neg hf hc_38
            refine lv_iconst (v := 1) hx hb dX12_bound_56 (by decide) ?_
            refine lv_goto (tgt := 61) hx hb dX12_bound_57 (by decide) ?_
            cases hf
            exact x_iret hx hb hlocks hC hP hS hr dX12_bound_61
      · have hf := g_pos hf hc_8
        refine lv_aload_n hx hb dX12_bound_28 rfl (lv_at hl 0 rfl) ?_
        refine lv_iload_n hx hb dX12_bound_29 rfl (lv_at hl 1 rfl) ?_
        obtain ⟨⟨r_39, M_40, τ_41⟩, hc_42, hf⟩ := g_bindE hf
        refine x_calli (v := (X, M_40, τ_41)) (va_runV (As := [.int x1]) (rest := []) ⟨hx, hb, hml, hown, hts⟩ (ct_X12_isSafe l G X M_1 τ x1 hc_42) (cwV 1 hts gd_X12_224 rfl rfl rfl hd_X12_isSafe ⟨Nat.le_of_ble_eq_true rfl, Nat.le_of_ble_eq_true rfl⟩) (x_preV (u := (X, M_1, τ)) (k := 39) (ci := 12) hC hS hP Nat.zero_lt_one rfl rfl) rfl rfl hl.1 rfl (lv_room (Nat.le_of_ble_eq_true rfl)) dX12_bound_30 ⟨Nat.zero_le _, Nat.zero_le _⟩) hS (fun H locs hP hS => ?_)
        refine lv_if_eq (tgt := 40) hx hb dX12_bound_33 (by decide) (fun hc_43 => ?_) (fun hc_43 => ?_)
        · have hf := g_pos hf hc_43
          refine lv_iconst (v := 0) hx hb dX12_bound_40 (by decide) ?_
          cases hf
          exact x_iret hx hb hlocks hC hP hS hr dX12_bound_41
        · have hf := g_neg hf hc_43
          refine lv_iconst (v := 1) hx hb dX12_bound_36 (by decide) ?_
          refine lv_goto (tgt := 41) hx hb dX12_bound_37 (by decide) ?_
          cases hf
          exact x_iret hx hb hlocks hC hP hS hr dX12_bound_41
    · have hf := g_pos hf hc_7
      refine lv_iconst (v := (-1)) hx hb dX12_bound_21 (by decide) ?_
      cases hf
      exact x_iret hx hb hlocks hC hP hS hr dX12_bound_22
set_option maxRecDepth 100000 in
set_option maxHeartbeats 4000000 in
theorem ct_X12_bound (l : Launch) (G : GP) (X M : SM) (τ : SL) (x1 : Int32) (x2 : Int32) {r0 : Int32} {M0 : SM} {τ0 : SL} (hf : fn_X12_bound x1 x2 M τ = some (r0, M0, τ0)) : Met l yX12_bound (wz yX12_bound cX12_bound 5 (some .int)) rm_X12_bound (va_Pc [.ref (G.2.1 39 0), .int x1, .int x2] (g_pw G (X, M, τ))) (va_Qi (fun r u => r = r0 ∧ u = (X, M0, τ0)) (g_pw G) (g_A G)) 0 0 (g_A G) := by
  refine Met.ofW (cc := cX12_bound) (maxL := 5) (ret := (some .int)) (by decide +kernel) rfl ?_
  intro p e s m args below meth c s₁ B hml hv
  obtain ⟨rfl, hC, hP⟩ := hv
  have C0 : g_mc p s m _ meth c RX12 cX12_bound (some .int) 5 G := ⟨B.exec, B.bytes, B.returns, hml, findClass_of_methodNamed B.named, fun w h => atoms_spec (ws := wz yX12_bound cX12_bound 5 (some .int)) B.pre w (List.mem_cons_of_mem _ h), B.notSynchronized, hC⟩
  have hl := lv_entry ([.ref (G.2.1 39 0), .int x1, .int x2]) (n := 5) (Nat.le_of_ble_eq_true rfl)
  rw [lg_entry_eq]
  generalize (lg_sl ([.ref (G.2.1 39 0), .int x1, .int x2]) ++ List.replicate (5 - (lg_sl ([.ref (G.2.1 39 0), .int x1, .int x2])).length) Slot.unset).toArray = ls at hl ⊢
  exact wk_X12_bound C0  x1 x2 M τ hf hP va_S.rf hl
abbrev rm_X12_canTell : Room := { frames := 1, cells := 0, slots := 0, locals := 22 }
def wb_X12_canTell_69 (x5 : Int32) (x6 : Int32) : Option (Int32) :=
  if x5 = 0 then
  (some 0)
  else
  (if x6 = 0 then
    (some 0)
    else
    (some 1))
set_option maxRecDepth 100000 in
set_option maxHeartbeats 4000000 in
theorem bk_X12_canTell_69 {p : Program} {l : Launch} {e : Env} {s : State} {m : MethodId} {args : Array Value} {below : List Frame} {meth : Method} {c : Code} {G : GP} {X : SM} {M : SM} {τ : SL} (C0 : g_mc p s m args meth c RX12 cX12_canTell (some .boolean) 8 G) {r0 : Int32} (x5 : Int32) (x6 : Int32) (hf : wb_X12_canTell_69 x5 x6 = some r0) {H : Heap} {locs : List Loc} (hP : va_P G.1 g_cl (wd G (cb X M) τ) H) (hS : va_S (g_A G) s.heap H locs) {ls : Array Slot} (hl : lv_has ls 8 [(5, .int x5), (6, .int x6)]) : W p l e rm_X12_canTell s m args below meth c H locs 0 0 (MQ below (va_Qi (fun r u => r = r0 ∧ u = (X, M, τ)) (g_pw G) (g_A G)) args s 0 0 (g_A G)) (F0 m 69 ls []) := by
  obtain ⟨hx, hb, hr, hml, hown, hts, hlocks, hC⟩ := id C0
  unfold wb_X12_canTell_69 at hf
  refine lv_iload hx hb dX12_canTell_69 (lv_at hl 0 rfl) ?_
  refine lv_if_eq (tgt := 83) hx hb dX12_canTell_71 (by decide) (fun hc_45 => ?_) (fun hc_45 => ?_)
  · have hf := g_pos hf hc_45
    refine lv_iconst (v := 0) hx hb dX12_canTell_83 (by decide) ?_
    cases hf
    exact x_zret hx hb hlocks hC hP hS hr (Or.inl rfl) dX12_canTell_84
  · have hf := g_neg hf hc_45
    refine lv_iload hx hb dX12_canTell_74 (lv_at hl 1 rfl) ?_
    refine lv_if_eq (tgt := 83) hx hb dX12_canTell_76 (by decide) (fun hc_46 => ?_) (fun hc_46 => ?_)
    · have hf := g_pos hf hc_46
      refine lv_iconst (v := 0) hx hb dX12_canTell_83 (by decide) ?_
      cases hf
      exact x_zret hx hb hlocks hC hP hS hr (Or.inl rfl) dX12_canTell_84
    · have hf := g_neg hf hc_46
      refine lv_iconst (v := 1) hx hb dX12_canTell_79 (by decide) ?_
      refine lv_goto (tgt := 84) hx hb dX12_canTell_80 (by decide) ?_
      cases hf
      exact x_zret hx hb hlocks hC hP hS hr (Or.inr rfl) dX12_canTell_84
def fn_X12_canTell (x0 : Int32) (x1 : Int32) (x2 : Int32) (x3 : Int32) (x4 : Int32) : Option (Int32) :=
  g_let (fn_X12_within x1 0 7) fun r_1 =>
  g_let (fn_X12_within x2 0 7) fun r_3 =>
  g_let (fn_X12_within x3 0 7) fun r_5 =>
  if x0 = 0 then
  (if r_1 = 0 ∨ r_1 = 1 then
    some r_1
    else none)
  else
  (if x0 = 14 then
    (if r_1 = 0 ∨ r_1 = 1 then
      some r_1
      else none)
    else
    (if x0 = 15 then
      (if r_1 = 0 ∨ r_1 = 1 then
        some r_1
        else none)
      else
      (if x0 = 5 then
        (wb_X12_canTell_69 r_1 r_3)
        else
        (if x0 = 6 then
          (wb_X12_canTell_69 r_1 r_3)
          else
          (if x0 = 10 then
            (wb_X12_canTell_69 r_1 r_3)
            else
            (if x0 = 12 then
              (wb_X12_canTell_69 r_1 r_3)
              else
              (if x0 = 7 then
                (g_let (fn_X12_within x2 0 23) fun r_41 =>
                  if r_41 = 0 ∨ r_41 = 1 then
                  some r_41
                  else none)
                else
                (if x0 = 8 then
                  (if r_1 = 0 then
                    (some 0)
                    else
                    (g_let (fn_X12_within x2 0 23) fun r_38 =>
                      if r_38 = 0 then
                      (some 0)
                      else
                      (some 1)))
                  else
                  (if x0 = 9 then
                    (if r_1 = 0 then
                      (some 0)
                      else
                      (g_let (fn_X12_within x2 0 x4) fun r_34 =>
                        if r_34 = 0 then
                        (some 0)
                        else
                        (some 1)))
                    else
                    (if x0 = 16 then
                      (g_let (fn_X12_within x1 0 3) fun r_20 =>
                        if r_20 = 0 then
                        (some 0)
                        else
                        (if r_3 = 0 then
                          (some 0)
                          else
                          (some 1)))
                      else
                      (if x0 = 17 then
                        (g_let (fn_X12_within x1 0 3) fun r_29 =>
                          if r_29 = 0 then
                          (some 0)
                          else
                          (if r_3 = 0 then
                            (some 0)
                            else
                            (some 1)))
                        else
                        (if x0 = 18 then
                          (some 1)
                          else
                          (if r_1 = 0 then
                            (some 0)
                            else
                            (if r_3 = 0 then
                              (some 0)
                              else
                              (if r_5 = 0 then
                                (some 0)
                                else
                                (some 1))))))))))))))))
set_option maxRecDepth 100000 in
set_option maxHeartbeats 4000000 in
theorem wk_X12_canTell {p : Program} {l : Launch} {e : Env} {s : State} {m : MethodId} {args : Array Value} {below : List Frame} {meth : Method} {c : Code} {G : GP} {X : SM} {M : SM} {τ : SL} (C0 : g_mc p s m args meth c RX12 cX12_canTell (some .boolean) 8 G) {r0 : Int32} (x0 : Int32) (x1 : Int32) (x2 : Int32) (x3 : Int32) (x4 : Int32) (hf : fn_X12_canTell x0 x1 x2 x3 x4 = some r0) {H : Heap} {locs : List Loc} (hP : va_P G.1 g_cl (wd G (cb X M) τ) H) (hS : va_S (g_A G) s.heap H locs) {ls : Array Slot} (hl : lv_has ls 8 [(0, .int x0), (1, .int x1), (2, .int x2), (3, .int x3), (4, .int x4)]) : W p l e rm_X12_canTell s m args below meth c H locs 0 0 (MQ below (va_Qi (fun r u => r = r0 ∧ u = (X, M, τ)) (g_pw G) (g_A G)) args s 0 0 (g_A G)) (F0 m 0 ls []) := by
  obtain ⟨hx, hb, hr, hml, hown, hts, hlocks, hC⟩ := id C0
  unfold fn_X12_canTell at hf
  refine lv_iload_n hx hb dX12_canTell_0 rfl (lv_at hl 1 rfl) ?_
  refine lv_iconst (v := 0) hx hb dX12_canTell_1 (by decide) ?_
  refine lv_bipush (v := 7) hx hb dX12_canTell_2 (by decide) ?_
  obtain ⟨r_1, hc_2, hf⟩ := g_letE hf
  refine x_calli (v := (X, M, τ)) (va_runS (As := [.int x1, .int 0, .int 7]) (rest := []) ⟨hx, hb, hml, hown, hts⟩ (ct_X12_within l G X M τ x1 0 7 hc_2) (cwS 3 hts gd_X12_76 rfl rfl rfl hd_X12_within ⟨Nat.le_of_ble_eq_true rfl, Nat.le_of_ble_eq_true rfl⟩) (x_pre (u := (X, M, τ)) hC hS hP) rfl rfl hl.1 rfl (lv_room (Nat.le_of_ble_eq_true rfl)) dX12_canTell_4 ⟨Nat.zero_le _, Nat.zero_le _⟩) hS (fun H locs hP hS => ?_)
  refine lv_istore (lv' := [(5, .int r_1), (0, .int x0), (1, .int x1), (2, .int x2), (3, .int x3), (4, .int x4)]) hx hb dX12_canTell_7 hl (by decide) rfl (fun ls hl => ?_)
  refine lv_iload_n hx hb dX12_canTell_9 rfl (lv_at hl 3 rfl) ?_
  refine lv_iconst (v := 0) hx hb dX12_canTell_10 (by decide) ?_
  refine lv_bipush (v := 7) hx hb dX12_canTell_11 (by decide) ?_
  obtain ⟨r_3, hc_4, hf⟩ := g_letE hf
  refine x_calli (v := (X, M, τ)) (va_runS (As := [.int x2, .int 0, .int 7]) (rest := []) ⟨hx, hb, hml, hown, hts⟩ (ct_X12_within l G X M τ x2 0 7 hc_4) (cwS 3 hts gd_X12_76 rfl rfl rfl hd_X12_within ⟨Nat.le_of_ble_eq_true rfl, Nat.le_of_ble_eq_true rfl⟩) (x_pre (u := (X, M, τ)) hC hS hP) rfl rfl hl.1 rfl (lv_room (Nat.le_of_ble_eq_true rfl)) dX12_canTell_13 ⟨Nat.zero_le _, Nat.zero_le _⟩) hS (fun H locs hP hS => ?_)
  refine lv_istore (lv' := [(6, .int r_3), (5, .int r_1), (0, .int x0), (1, .int x1), (2, .int x2), (3, .int x3), (4, .int x4)]) hx hb dX12_canTell_16 hl (by decide) rfl (fun ls hl => ?_)
  refine lv_iload_n hx hb dX12_canTell_18 rfl (lv_at hl 5 rfl) ?_
  refine lv_iconst (v := 0) hx hb dX12_canTell_19 (by decide) ?_
  refine lv_bipush (v := 7) hx hb dX12_canTell_20 (by decide) ?_
  obtain ⟨r_5, hc_6, hf⟩ := g_letE hf
  refine x_calli (v := (X, M, τ)) (va_runS (As := [.int x3, .int 0, .int 7]) (rest := []) ⟨hx, hb, hml, hown, hts⟩ (ct_X12_within l G X M τ x3 0 7 hc_6) (cwS 3 hts gd_X12_76 rfl rfl rfl hd_X12_within ⟨Nat.le_of_ble_eq_true rfl, Nat.le_of_ble_eq_true rfl⟩) (x_pre (u := (X, M, τ)) hC hS hP) rfl rfl hl.1 rfl (lv_room (Nat.le_of_ble_eq_true rfl)) dX12_canTell_22 ⟨Nat.zero_le _, Nat.zero_le _⟩) hS (fun H locs hP hS => ?_)
  refine lv_istore (lv' := [(7, .int r_5), (6, .int r_3), (5, .int r_1), (0, .int x0), (1, .int x1), (2, .int x2), (3, .int x3), (4, .int x4)]) hx hb dX12_canTell_25 hl (by decide) rfl (fun ls hl => ?_)
  refine lv_iload_n hx hb dX12_canTell_27 rfl (lv_at hl 3 rfl) ?_
  refine lv_if_eq (tgt := 43) hx hb dX12_canTell_28 (by decide) (fun hc_7 => ?_) (fun hc_7 => ?_)
  · have hf := g_pos hf hc_7
    refine lv_iload hx hb dX12_canTell_43 (lv_at hl 2 rfl) ?_
    obtain ⟨hg_8, hf⟩ := g_gd hf
    cases hf
    exact x_zret hx hb hlocks hC hP hS hr hg_8 dX12_canTell_45
  · have hf := g_neg hf hc_7
    refine lv_iload_n hx hb dX12_canTell_31 rfl (lv_at hl 3 rfl) ?_
    refine lv_bipush (v := 14) hx hb dX12_canTell_32 (by decide) ?_
    refine lv_icmp_eq (tgt := 43) hx hb dX12_canTell_34 (by decide) (fun hc_9 => ?_) (fun hc_9 => ?_)
    · have hf := g_pos hf hc_9
      refine lv_iload hx hb dX12_canTell_43 (lv_at hl 2 rfl) ?_
      obtain ⟨hg_10, hf⟩ := g_gd hf
      cases hf
      exact x_zret hx hb hlocks hC hP hS hr hg_10 dX12_canTell_45
    · have hf := g_neg hf hc_9
      refine lv_iload_n hx hb dX12_canTell_37 rfl (lv_at hl 3 rfl) ?_
      refine lv_bipush (v := 15) hx hb dX12_canTell_38 (by decide) ?_
      refine lv_icmp_ne (tgt := 46) hx hb dX12_canTell_40 (by decide) (fun hc_11 => ?_) (fun hc_11 => ?_)
      · have hf := g_neg hf hc_11
        refine lv_iload_n hx hb dX12_canTell_46 rfl (lv_at hl 3 rfl) ?_
        refine lv_iconst (v := 5) hx hb dX12_canTell_47 (by decide) ?_
        refine lv_icmp_eq (tgt := 69) hx hb dX12_canTell_48 (by decide) (fun hc_12 => ?_) (fun hc_12 => ?_)
        · have hf := g_pos hf hc_12
          exact bk_X12_canTell_69 C0 r_1 r_3 hf hP hS (lv_sub hl [2, 1] rfl)
        · have hf := g_neg hf hc_12
          refine lv_iload_n hx hb dX12_canTell_51 rfl (lv_at hl 3 rfl) ?_
          refine lv_bipush (v := 6) hx hb dX12_canTell_52 (by decide) ?_
          refine lv_icmp_eq (tgt := 69) hx hb dX12_canTell_54 (by decide) (fun hc_13 => ?_) (fun hc_13 => ?_)
          · have hf := g_pos hf hc_13
            exact bk_X12_canTell_69 C0 r_1 r_3 hf hP hS (lv_sub hl [2, 1] rfl)
          · have hf := g_neg hf hc_13
            refine lv_iload_n hx hb dX12_canTell_57 rfl (lv_at hl 3 rfl) ?_
            refine lv_bipush (v := 10) hx hb dX12_canTell_58 (by decide) ?_
            refine lv_icmp_eq (tgt := 69) hx hb dX12_canTell_60 (by decide) (fun hc_14 => ?_) (fun hc_14 => ?_)
            · have hf := g_pos hf hc_14
              exact bk_X12_canTell_69 C0 r_1 r_3 hf hP hS (lv_sub hl [2, 1] rfl)
            · have hf := g_neg hf hc_14
              refine lv_iload_n hx hb dX12_canTell_63 rfl (lv_at hl 3 rfl) ?_
              refine lv_bipush (v := 12) hx hb dX12_canTell_64 (by decide) ?_
              refine lv_icmp_ne (tgt := 85) hx hb dX12_canTell_66 (by decide) (fun hc_15 => ?_) (fun hc_15 => ?_)
              · have hf := g_neg hf hc_15
                refine lv_iload_n hx hb dX12_canTell_85 rfl (lv_at hl 3 rfl) ?_
                refine lv_bipush (v := 7) hx hb dX12_canTell_86 (by decide) ?_
                refine lv_icmp_ne (tgt := 99) hx hb dX12_canTell_88 (by decide) (fun hc_16 => ?_) (fun hc_16 => ?_)
                · have hf := g_neg hf hc_16
                  refine lv_iload_n hx hb dX12_canTell_99 rfl (lv_at hl 3 rfl) ?_
                  refine lv_bipush (v := 8) hx hb dX12_canTell_100 (by decide) ?_
                  refine lv_icmp_ne (tgt := 126) hx hb dX12_canTell_102 (by decide) (fun hc_17 => ?_) (fun hc_17 => ?_)
                  · have hf := g_neg hf hc_17
                    refine lv_iload_n hx hb dX12_canTell_126 rfl (lv_at hl 3 rfl) ?_
                    refine lv_bipush (v := 9) hx hb dX12_canTell_127 (by decide) ?_
                    refine lv_icmp_ne (tgt := 153) hx hb dX12_canTell_129 (by decide) (fun hc_18 => ?_) (fun hc_18 => ?_)
                    · have hf := g_neg hf hc_18
                      refine lv_iload_n hx hb dX12_canTell_153 rfl (lv_at hl 3 rfl) ?_
                      refine lv_bipush (v := 16) hx hb dX12_canTell_154 (by decide) ?_
                      refine lv_icmp_eq (tgt := 165) hx hb dX12_canTell_156 (by decide) (fun hc_19 => ?_) (fun hc_19 => ?_)
                      · have hf := g_pos hf hc_19
                        refine lv_iload_n hx hb dX12_canTell_165 rfl (lv_at hl 4 rfl) ?_
                        refine lv_iconst (v := 0) hx hb dX12_canTell_166 (by decide) ?_
                        refine lv_iconst (v := 3) hx hb dX12_canTell_167 (by decide) ?_
                        obtain ⟨r_20, hc_21, hf⟩ := g_letE hf
                        refine x_calli (v := (X, M, τ)) (va_runS (As := [.int x1, .int 0, .int 3]) (rest := []) ⟨hx, hb, hml, hown, hts⟩ (ct_X12_within l G X M τ x1 0 3 hc_21) (cwS 3 hts gd_X12_76 rfl rfl rfl hd_X12_within ⟨Nat.le_of_ble_eq_true rfl, Nat.le_of_ble_eq_true rfl⟩) (x_pre (u := (X, M, τ)) hC hS hP) rfl rfl hl.1 rfl (lv_room (Nat.le_of_ble_eq_true rfl)) dX12_canTell_168 ⟨Nat.zero_le _, Nat.zero_le _⟩) hS (fun H locs hP hS => ?_)
                        refine lv_if_eq (tgt := 183) hx hb dX12_canTell_171 (by decide) (fun hc_22 => ?_) (fun hc_22 => ?_)
                        · have hf := g_pos hf hc_22
                          refine lv_iconst (v := 0) hx hb dX12_canTell_183 (by decide) ?_
                          cases hf
                          exact x_zret hx hb hlocks hC hP hS hr (Or.inl rfl) dX12_canTell_184
                        · have hf := g_neg hf hc_22
                          refine lv_iload hx hb dX12_canTell_174 (lv_at hl 1 rfl) ?_
                          refine lv_if_eq (tgt := 183) hx hb dX12_canTell_176 (by decide) (fun hc_23 => ?_) (fun hc_23 => ?_)
                          · have hf := g_pos hf hc_23
                            refine lv_iconst (v := 0) hx hb dX12_canTell_183 (by decide) ?_
                            cases hf
                            exact x_zret hx hb hlocks hC hP hS hr (Or.inl rfl) dX12_canTell_184
                          · have hf := g_neg hf hc_23
                            refine lv_iconst (v := 1) hx hb dX12_canTell_179 (by decide) ?_
                            refine lv_goto (tgt := 184) hx hb dX12_canTell_180 (by decide) ?_
                            cases hf
                            exact x_zret hx hb hlocks hC hP hS hr (Or.inr rfl) dX12_canTell_184
                      · have hf := g_neg hf hc_19
                        refine lv_iload_n hx hb dX12_canTell_159 rfl (lv_at hl 3 rfl) ?_
                        refine lv_bipush (v := 17) hx hb dX12_canTell_160 (by decide) ?_
                        refine lv_icmp_ne (tgt := 185) hx hb dX12_canTell_162 (by decide) (fun hc_24 => ?_) (fun hc_24 => ?_)
                        · have hf := g_neg hf hc_24
                          refine lv_iload_n hx hb dX12_canTell_185 rfl (lv_at hl 3 rfl) ?_
                          refine lv_bipush (v := 18) hx hb dX12_canTell_186 (by decide) ?_
                          refine lv_icmp_eq (tgt := 206) hx hb dX12_canTell_188 (by decide) (fun hc_25 => ?_) (fun hc_25 => ?_)
                          · have hf := g_pos hf hc_25
                            refine lv_iconst (v := 1) hx hb dX12_canTell_206 (by decide) ?_
                            refine lv_goto (tgt := 211) hx hb dX12_canTell_207 (by decide) ?_
                            cases hf
                            exact x_zret hx hb hlocks hC hP hS hr (Or.inr rfl) dX12_canTell_211
                          · have hf := g_neg hf hc_25
                            refine lv_iload hx hb dX12_canTell_191 (lv_at hl 2 rfl) ?_
                            refine lv_if_eq (tgt := 210) hx hb dX12_canTell_193 (by decide) (fun hc_26 => ?_) (fun hc_26 => ?_)
                            · have hf := g_pos hf hc_26
                              refine lv_iconst (v := 0) hx hb dX12_canTell_210 (by decide) ?_
                              cases hf
                              exact x_zret hx hb hlocks hC hP hS hr (Or.inl rfl) dX12_canTell_211
                            · have hf := g_neg hf hc_26
                              refine lv_iload hx hb dX12_canTell_196 (lv_at hl 1 rfl) ?_
                              refine lv_if_eq (tgt := 210) hx hb dX12_canTell_198 (by decide) (fun hc_27 => ?_) (fun hc_27 => ?_)
                              · have hf := g_pos hf hc_27
                                refine lv_iconst (v := 0) hx hb dX12_canTell_210 (by decide) ?_
                                cases hf
                                exact x_zret hx hb hlocks hC hP hS hr (Or.inl rfl) dX12_canTell_211
                              · have hf := g_neg hf hc_27
                                refine lv_iload hx hb dX12_canTell_201 (lv_at hl 0 rfl) ?_
                                refine lv_if_eq (tgt := 210) hx hb dX12_canTell_203 (by decide) (fun hc_28 => ?_) (fun hc_28 => ?_)
                                · have hf := g_pos hf hc_28
                                  refine lv_iconst (v := 0) hx hb dX12_canTell_210 (by decide) ?_
                                  cases hf
                                  exact x_zret hx hb hlocks hC hP hS hr (Or.inl rfl) dX12_canTell_211
                                · have hf := g_neg hf hc_28
                                  refine lv_iconst (v := 1) hx hb dX12_canTell_206 (by decide) ?_
                                  refine lv_goto (tgt := 211) hx hb dX12_canTell_207 (by decide) ?_
                                  cases hf
                                  exact x_zret hx hb hlocks hC hP hS hr (Or.inr rfl) dX12_canTell_211
                        · have hf := g_pos hf hc_24
                          refine lv_iload_n hx hb dX12_canTell_165 rfl (lv_at hl 4 rfl) ?_
                          refine lv_iconst (v := 0) hx hb dX12_canTell_166 (by decide) ?_
                          refine lv_iconst (v := 3) hx hb dX12_canTell_167 (by decide) ?_
                          obtain ⟨r_29, hc_30, hf⟩ := g_letE hf
                          refine x_calli (v := (X, M, τ)) (va_runS (As := [.int x1, .int 0, .int 3]) (rest := []) ⟨hx, hb, hml, hown, hts⟩ (ct_X12_within l G X M τ x1 0 3 hc_30) (cwS 3 hts gd_X12_76 rfl rfl rfl hd_X12_within ⟨Nat.le_of_ble_eq_true rfl, Nat.le_of_ble_eq_true rfl⟩) (x_pre (u := (X, M, τ)) hC hS hP) rfl rfl hl.1 rfl (lv_room (Nat.le_of_ble_eq_true rfl)) dX12_canTell_168 ⟨Nat.zero_le _, Nat.zero_le _⟩) hS (fun H locs hP hS => ?_)
                          refine lv_if_eq (tgt := 183) hx hb dX12_canTell_171 (by decide) (fun hc_31 => ?_) (fun hc_31 => ?_)
                          · have hf := g_pos hf hc_31
                            refine lv_iconst (v := 0) hx hb dX12_canTell_183 (by decide) ?_
                            cases hf
                            exact x_zret hx hb hlocks hC hP hS hr (Or.inl rfl) dX12_canTell_184
                          · have hf := g_neg hf hc_31
                            refine lv_iload hx hb dX12_canTell_174 (lv_at hl 1 rfl) ?_
                            refine lv_if_eq (tgt := 183) hx hb dX12_canTell_176 (by decide) (fun hc_32 => ?_) (fun hc_32 => ?_)
                            · have hf := g_pos hf hc_32
                              refine lv_iconst (v := 0) hx hb dX12_canTell_183 (by decide) ?_
                              cases hf
                              exact x_zret hx hb hlocks hC hP hS hr (Or.inl rfl) dX12_canTell_184
                            · have hf := g_neg hf hc_32
                              refine lv_iconst (v := 1) hx hb dX12_canTell_179 (by decide) ?_
                              refine lv_goto (tgt := 184) hx hb dX12_canTell_180 (by decide) ?_
                              cases hf
                              exact x_zret hx hb hlocks hC hP hS hr (Or.inr rfl) dX12_canTell_184
                    · have hf := g_pos hf hc_18
                      refine lv_iload hx hb dX12_canTell_132 (lv_at hl 2 rfl) ?_
                      refine lv_if_eq (tgt := 151) hx hb dX12_canTell_134 (by decide) (fun hc_33 => ?_) (fun hc_33 => ?_)
                      · have hf := g_pos hf hc_33
                        refine lv_iconst (v := 0) hx hb dX12_canTell_151 (by decide) ?_
                        cases hf
                        exact x_zret hx hb hlocks hC hP hS hr (Or.inl rfl) dX12_canTell_152
                      · have hf := g_neg hf hc_33
                        refine lv_iload_n hx hb dX12_canTell_137 rfl (lv_at hl 5 rfl) ?_
                        refine lv_iconst (v := 0) hx hb dX12_canTell_138 (by decide) ?_
                        refine lv_iload hx hb dX12_canTell_139 (lv_at hl 7 rfl) ?_
                        obtain ⟨r_34, hc_35, hf⟩ := g_letE hf
                        refine x_calli (v := (X, M, τ)) (va_runS (As := [.int x2, .int 0, .int x4]) (rest := []) ⟨hx, hb, hml, hown, hts⟩ (ct_X12_within l G X M τ x2 0 x4 hc_35) (cwS 3 hts gd_X12_76 rfl rfl rfl hd_X12_within ⟨Nat.le_of_ble_eq_true rfl, Nat.le_of_ble_eq_true rfl⟩) (x_pre (u := (X, M, τ)) hC hS hP) rfl rfl hl.1 rfl (lv_room (Nat.le_of_ble_eq_true rfl)) dX12_canTell_141 ⟨Nat.zero_le _, Nat.zero_le _⟩) hS (fun H locs hP hS => ?_)
                        refine lv_if_eq (tgt := 151) hx hb dX12_canTell_144 (by decide) (fun hc_36 => ?_) (fun hc_36 => ?_)
                        · have hf := g_pos hf hc_36
                          refine lv_iconst (v := 0) hx hb dX12_canTell_151 (by decide) ?_
                          cases hf
                          exact x_zret hx hb hlocks hC hP hS hr (Or.inl rfl) dX12_canTell_152
                        · have hf := g_neg hf hc_36
                          refine lv_iconst (v := 1) hx hb dX12_canTell_147 (by decide) ?_
                          refine lv_goto (tgt := 152) hx hb dX12_canTell_148 (by decide) ?_
                          cases hf
                          exact x_zret hx hb hlocks hC hP hS hr (Or.inr rfl) dX12_canTell_152
                  · have hf := g_pos hf hc_17
                    refine lv_iload hx hb dX12_canTell_105 (lv_at hl 2 rfl) ?_
                    refine lv_if_eq (tgt := 124) hx hb dX12_canTell_107 (by decide) (fun hc_37 => ?_) (fun hc_37 => ?_)
                    · have hf := g_pos hf hc_37
                      refine lv_iconst (v := 0) hx hb dX12_canTell_124 (by decide) ?_
                      cases hf
                      exact x_zret hx hb hlocks hC hP hS hr (Or.inl rfl) dX12_canTell_125
                    · have hf := g_neg hf hc_37
                      refine lv_iload_n hx hb dX12_canTell_110 rfl (lv_at hl 5 rfl) ?_
                      refine lv_iconst (v := 0) hx hb dX12_canTell_111 (by decide) ?_
                      refine lv_bipush (v := 23) hx hb dX12_canTell_112 (by decide) ?_
                      obtain ⟨r_38, hc_39, hf⟩ := g_letE hf
                      refine x_calli (v := (X, M, τ)) (va_runS (As := [.int x2, .int 0, .int 23]) (rest := []) ⟨hx, hb, hml, hown, hts⟩ (ct_X12_within l G X M τ x2 0 23 hc_39) (cwS 3 hts gd_X12_76 rfl rfl rfl hd_X12_within ⟨Nat.le_of_ble_eq_true rfl, Nat.le_of_ble_eq_true rfl⟩) (x_pre (u := (X, M, τ)) hC hS hP) rfl rfl hl.1 rfl (lv_room (Nat.le_of_ble_eq_true rfl)) dX12_canTell_114 ⟨Nat.zero_le _, Nat.zero_le _⟩) hS (fun H locs hP hS => ?_)
                      refine lv_if_eq (tgt := 124) hx hb dX12_canTell_117 (by decide) (fun hc_40 => ?_) (fun hc_40 => ?_)
                      · have hf := g_pos hf hc_40
                        refine lv_iconst (v := 0) hx hb dX12_canTell_124 (by decide) ?_
                        cases hf
                        exact x_zret hx hb hlocks hC hP hS hr (Or.inl rfl) dX12_canTell_125
                      · have hf := g_neg hf hc_40
                        refine lv_iconst (v := 1) hx hb dX12_canTell_120 (by decide) ?_
                        refine lv_goto (tgt := 125) hx hb dX12_canTell_121 (by decide) ?_
                        cases hf
                        exact x_zret hx hb hlocks hC hP hS hr (Or.inr rfl) dX12_canTell_125
                · have hf := g_pos hf hc_16
                  refine lv_iload_n hx hb dX12_canTell_91 rfl (lv_at hl 5 rfl) ?_
                  refine lv_iconst (v := 0) hx hb dX12_canTell_92 (by decide) ?_
                  refine lv_bipush (v := 23) hx hb dX12_canTell_93 (by decide) ?_
                  obtain ⟨r_41, hc_42, hf⟩ := g_letE hf
                  refine x_calli (v := (X, M, τ)) (va_runS (As := [.int x2, .int 0, .int 23]) (rest := []) ⟨hx, hb, hml, hown, hts⟩ (ct_X12_within l G X M τ x2 0 23 hc_42) (cwS 3 hts gd_X12_76 rfl rfl rfl hd_X12_within ⟨Nat.le_of_ble_eq_true rfl, Nat.le_of_ble_eq_true rfl⟩) (x_pre (u := (X, M, τ)) hC hS hP) rfl rfl hl.1 rfl (lv_room (Nat.le_of_ble_eq_true rfl)) dX12_canTell_95 ⟨Nat.zero_le _, Nat.zero_le _⟩) hS (fun H locs hP hS => ?_)
                  obtain ⟨hg_43, hf⟩ := g_gd hf
                  cases hf
                  exact x_zret hx hb hlocks hC hP hS hr hg_43 dX12_canTell_98
              · have hf := g_pos hf hc_15
                exact bk_X12_canTell_69 C0 r_1 r_3 hf hP hS (lv_sub hl [2, 1] rfl)
      · have hf := g_pos hf hc_11
        refine lv_iload hx hb dX12_canTell_43 (lv_at hl 2 rfl) ?_
        obtain ⟨hg_44, hf⟩ := g_gd hf
        cases hf
        exact x_zret hx hb hlocks hC hP hS hr hg_44 dX12_canTell_45
set_option maxRecDepth 100000 in
set_option maxHeartbeats 4000000 in
theorem ct_X12_canTell (l : Launch) (G : GP) (X M : SM) (τ : SL) (x0 : Int32) (x1 : Int32) (x2 : Int32) (x3 : Int32) (x4 : Int32) {r0 : Int32} (hf : fn_X12_canTell x0 x1 x2 x3 x4 = some r0) : Met l yX12_canTell (wz yX12_canTell cX12_canTell 8 (some .boolean)) rm_X12_canTell (va_Pc [.int x0, .int x1, .int x2, .int x3, .int x4] (g_pw G (X, M, τ))) (va_Qi (fun r u => r = r0 ∧ u = (X, M, τ)) (g_pw G) (g_A G)) 0 0 (g_A G) := by
  refine Met.ofW (cc := cX12_canTell) (maxL := 8) (ret := (some .boolean)) (by decide +kernel) rfl ?_
  intro p e s m args below meth c s₁ B hml hv
  obtain ⟨rfl, hC, hP⟩ := hv
  have C0 : g_mc p s m _ meth c RX12 cX12_canTell (some .boolean) 8 G := ⟨B.exec, B.bytes, B.returns, hml, findClass_of_methodNamed B.named, fun w h => atoms_spec (ws := wz yX12_canTell cX12_canTell 8 (some .boolean)) B.pre w (List.mem_cons_of_mem _ h), B.notSynchronized, hC⟩
  have hl := lv_entry ([.int x0, .int x1, .int x2, .int x3, .int x4]) (n := 8) (Nat.le_of_ble_eq_true rfl)
  rw [lg_entry_eq]
  generalize (lg_sl ([.int x0, .int x1, .int x2, .int x3, .int x4]) ++ List.replicate (8 - (lg_sl ([.int x0, .int x1, .int x2, .int x3, .int x4])).length) Slot.unset).toArray = ls at hl ⊢
  exact wk_X12_canTell C0  x0 x1 x2 x3 x4 hf hP va_S.rf hl
