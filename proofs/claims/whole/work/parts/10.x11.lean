abbrev rm_X3_clear : Room := { frames := 0, cells := 0, slots := 0, locals := 0 }
def fn_X3_clear (t0 : Nat) (X : SM) : SM :=
  g_let (u1 X 3 t0 1 0) fun X_1 =>
  g_let (u1 X_1 3 t0 2 0) fun X_2 =>
  X_2
set_option maxRecDepth 100000 in
set_option maxHeartbeats 4000000 in
theorem wk_X3_clear {p : Program} {l : Launch} {e : Env} {s : State} {m : MethodId} {args : Array Value} {below : List Frame} {meth : Method} {c : Code} {G : GP} {M : SM} {τ : SL} (C0 : g_mc p s m args meth c RX3 cX3_clear none 1 G) {X0 : SM} (t0 : Nat) (ht0 : t0 < 2) (X : SM) (hf : fn_X3_clear t0 X = X0) {H : Heap} {locs : List Loc} (hP : va_P G.1 g_cl (wd G (cb X M) τ) H) (hS : va_S (g_A G) s.heap H locs) {ls : Array Slot} (hl : lv_has ls 1 [(0, .ref (G.2.1 3 t0))]) : W p l e rm_X3_clear s m args below meth c H locs 0 0 (MQ below (va_Qv (fun u => u = (X0, M, τ)) (g_pw G) (g_A G)) args s 0 0 (g_A G)) (F0 m 0 ls []) := by
  obtain ⟨hx, hb, hr, hml, hown, hts, hlocks, hC⟩ := id C0
  unfold fn_X3_clear at hf
  refine lv_aload_n hx hb dX3_clear_0 rfl (lv_at hl 0 rfl) ?_
  refine lv_iconst (v := 0) hx hb dX3_clear_1 (by decide) ?_
  obtain ⟨X_1, eX_1, hf⟩ := g_letE hf
  refine pt_3_1 hx hb hts hown hC hP hS ht0 q18_12 dX3_clear_2 (fun H locs hP hS => ?_)
  rw [eX_1] at hP
  refine lv_aload_n hx hb dX3_clear_5 rfl (lv_at hl 0 rfl) ?_
  refine lv_iconst (v := 0) hx hb dX3_clear_6 (by decide) ?_
  obtain ⟨X_2, eX_2, hf⟩ := g_letE hf
  refine pt_3_2 hx hb hts hown hC hP hS ht0 q18_13 dX3_clear_7 (fun H locs hP hS => ?_)
  rw [eX_2] at hP
  cases hf
  exact x_vret hx hb hlocks hC hP hS hr dX3_clear_10
set_option maxRecDepth 100000 in
set_option maxHeartbeats 4000000 in
theorem ct_X3_clear (l : Launch) (G : GP) (X M : SM) (τ : SL) (t0 : Nat) (ht0 : t0 < 2) {X0 : SM} (hf : fn_X3_clear t0 X = X0) : Met l yX3_clear (wz yX3_clear cX3_clear 1 none) rm_X3_clear (va_Pc [.ref (G.2.1 3 t0)] (g_pw G (X, M, τ))) (va_Qv (fun u => u = (X0, M, τ)) (g_pw G) (g_A G)) 0 0 (g_A G) := by
  refine Met.ofW (cc := cX3_clear) (maxL := 1) (ret := none) (by decide +kernel) rfl ?_
  intro p e s m args below meth c s₁ B hml hv
  obtain ⟨rfl, hC, hP⟩ := hv
  have C0 : g_mc p s m _ meth c RX3 cX3_clear none 1 G := ⟨B.exec, B.bytes, B.returns, hml, findClass_of_methodNamed B.named, fun w h => atoms_spec (ws := wz yX3_clear cX3_clear 1 none) B.pre w (List.mem_cons_of_mem _ h), B.notSynchronized, hC⟩
  have hl := lv_entry ([.ref (G.2.1 3 t0)]) (n := 1) (Nat.le_of_ble_eq_true rfl)
  rw [lg_entry_eq]
  generalize (lg_sl ([.ref (G.2.1 3 t0)]) ++ List.replicate (1 - (lg_sl ([.ref (G.2.1 3 t0)])).length) Slot.unset).toArray = ls at hl ⊢
  exact wk_X3_clear C0  t0 ht0 X hf hP va_S.rf hl
abbrev rm_X8_reset : Room := { frames := 1, cells := 0, slots := 0, locals := 23 }
def fn_X8_reset (t0 : Nat) (X : SM) : SM :=
  g_let (uf X 30 t0 8 0) fun X_1 =>
  g_let (fn_X3_clear t0 X_1) fun X_2 =>
  X_2
set_option maxRecDepth 100000 in
set_option maxHeartbeats 4000000 in
theorem wk_X8_reset {p : Program} {l : Launch} {e : Env} {s : State} {m : MethodId} {args : Array Value} {below : List Frame} {meth : Method} {c : Code} {G : GP} {M : SM} {τ : SL} (C0 : g_mc p s m args meth c RX8 cX8_reset none 1 G) {X0 : SM} (t0 : Nat) (ht0 : t0 < 2) (X : SM) (hf : fn_X8_reset t0 X = X0) {H : Heap} {locs : List Loc} (hP : va_P G.1 g_cl (wd G (cb X M) τ) H) (hS : va_S (g_A G) s.heap H locs) {ls : Array Slot} (hl : lv_has ls 1 [(0, .ref (G.2.1 8 t0))]) : W p l e rm_X8_reset s m args below meth c H locs 0 0 (MQ below (va_Qv (fun u => u = (X0, M, τ)) (g_pw G) (g_A G)) args s 0 0 (g_A G)) (F0 m 0 ls []) := by
  obtain ⟨hx, hb, hr, hml, hown, hts, hlocks, hC⟩ := id C0
  unfold fn_X8_reset at hf
  refine lv_aload_n hx hb dX8_reset_0 rfl (lv_at hl 0 rfl) ?_
  refine gt_8_1 hx hb hts hown hC hP ht0 q4_5 dX8_reset_1 ?_
  refine lv_iconst (v := 0) hx hb dX8_reset_4 (by decide) ?_
  obtain ⟨X_1, eX_1, hf⟩ := g_letE hf
  refine x_fillX (k := 30) (n := 8) (rest := []) hx hb hml hown hts hC hP hS (fun _ _ => rfl) rfl (by decide) ht0 q4_14 hl.1 (lv_room (Nat.le_of_ble_eq_true rfl)) dX8_reset_5 ⟨Nat.le_of_ble_eq_true rfl, Nat.le_of_ble_eq_true rfl⟩ ⟨Nat.zero_le _, Nat.zero_le _⟩ (fun H locs hP hS => ?_)
  rw [eX_1] at hP
  refine lv_aload_n hx hb dX8_reset_8 rfl (lv_at hl 0 rfl) ?_
  refine gt_8_2 hx hb hts hown hC hP ht0 q4_9 dX8_reset_9 ?_
  obtain ⟨X_2, hc_3, hf⟩ := g_letE hf
  refine x_callv (v := (X_2, M, τ)) (va_runV (As := []) (rest := []) ⟨hx, hb, hml, hown, hts⟩ (ct_X3_clear l G X_1 M τ t0 ht0 hc_3) (cwV 0 hts gd_X8_39 rfl rfl rfl hd_X3_clear ⟨Nat.le_of_ble_eq_true rfl, Nat.le_of_ble_eq_true rfl⟩) (x_preV (u := (X_1, M, τ)) (k := 3) (ci := 3) hC hS hP ht0 rfl rfl) rfl rfl hl.1 rfl (lv_room (Nat.le_of_ble_eq_true rfl)) dX8_reset_12 ⟨Nat.zero_le _, Nat.zero_le _⟩) hS (fun H locs hP hS => ?_)
  cases hf
  exact x_vret hx hb hlocks hC hP hS hr dX8_reset_15
set_option maxRecDepth 100000 in
set_option maxHeartbeats 4000000 in
theorem ct_X8_reset (l : Launch) (G : GP) (X M : SM) (τ : SL) (t0 : Nat) (ht0 : t0 < 2) {X0 : SM} (hf : fn_X8_reset t0 X = X0) : Met l yX8_reset (wz yX8_reset cX8_reset 1 none) rm_X8_reset (va_Pc [.ref (G.2.1 8 t0)] (g_pw G (X, M, τ))) (va_Qv (fun u => u = (X0, M, τ)) (g_pw G) (g_A G)) 0 0 (g_A G) := by
  refine Met.ofW (cc := cX8_reset) (maxL := 1) (ret := none) (by decide +kernel) rfl ?_
  intro p e s m args below meth c s₁ B hml hv
  obtain ⟨rfl, hC, hP⟩ := hv
  have C0 : g_mc p s m _ meth c RX8 cX8_reset none 1 G := ⟨B.exec, B.bytes, B.returns, hml, findClass_of_methodNamed B.named, fun w h => atoms_spec (ws := wz yX8_reset cX8_reset 1 none) B.pre w (List.mem_cons_of_mem _ h), B.notSynchronized, hC⟩
  have hl := lv_entry ([.ref (G.2.1 8 t0)]) (n := 1) (Nat.le_of_ble_eq_true rfl)
  rw [lg_entry_eq]
  generalize (lg_sl ([.ref (G.2.1 8 t0)]) ++ List.replicate (1 - (lg_sl ([.ref (G.2.1 8 t0)])).length) Slot.unset).toArray = ls at hl ⊢
  exact wk_X8_reset C0  t0 ht0 X hf hP va_S.rf hl
abbrev rm_X7_reset : Room := { frames := 3, cells := 0, slots := 0, locals := 63 }
def wb_X7_reset_2 (k2 : Nat → Int32 → SM → Option (SM)) (t0 : Nat) (x1 : Int32) (X : SM) : Option (SM) :=
  if 6 ≤ x1 then
  (g_let (fn_X8_reset t0 X) fun X_2 =>
    g_let (fn_X0_reset t0 X_2) fun X_4 =>
    g_let (u1 X_4 7 t0 5 0) fun X_6 =>
    g_let (u1 X_6 7 t0 6 0) fun X_7 =>
    g_let (u1 X_7 7 t0 7 0) fun X_8 =>
    g_let (u1 X_8 7 t0 8 0) fun X_9 =>
    g_let (u1 X_9 7 t0 9 0) fun X_10 =>
    g_let (u1 X_10 7 t0 10 (-1)) fun X_11 =>
    g_let (u1 X_11 7 t0 11 0) fun X_12 =>
    some X_12)
  else
  (if g_in x1 6 then
    g_let (fn_X9_reset (6 * t0 + (x1.toNatClampNeg)) X) fun X_15 =>
    g_let (x1 + 1) fun x1_17 =>
    k2 t0 x1_17 X_15
    else none)
set_option maxRecDepth 100000 in
set_option maxHeartbeats 4000000 in
theorem bk_X7_reset_2 {p : Program} {l : Launch} {e : Env} {s : State} {m : MethodId} {args : Array Value} {below : List Frame} {meth : Method} {c : Code} {G : GP} {M : SM} {τ : SL} (C0 : g_mc p s m args meth c RX7 cX7_reset none 2 G) {X0 : SM} (k2 : Nat → Int32 → SM → Option (SM)) (hk2 : ∀ (t0 : Nat) (ht0 : t0 < 2) (x1 : Int32) (X : SM), k2 t0 x1 X = some X0 → ∀ {H : Heap} {locs : List Loc}, va_P G.1 g_cl (wd G (cb X M) τ) H → va_S (g_A G) s.heap H locs → ∀ {ls : Array Slot}, lv_has ls 2 [(0, .ref (G.2.1 7 t0)), (1, .int x1)] → W p l e rm_X7_reset s m args below meth c H locs 0 0 (MQ below (va_Qv (fun u => u = (X0, M, τ)) (g_pw G) (g_A G)) args s 0 0 (g_A G)) (F0 m 2 ls [])) (t0 : Nat) (ht0 : t0 < 2) (x1 : Int32) (X : SM) (hf : wb_X7_reset_2 k2 t0 x1 X = some X0) {H : Heap} {locs : List Loc} (hP : va_P G.1 g_cl (wd G (cb X M) τ) H) (hS : va_S (g_A G) s.heap H locs) {ls : Array Slot} (hl : lv_has ls 2 [(0, .ref (G.2.1 7 t0)), (1, .int x1)]) : W p l e rm_X7_reset s m args below meth c H locs 0 0 (MQ below (va_Qv (fun u => u = (X0, M, τ)) (g_pw G) (g_A G)) args s 0 0 (g_A G)) (F0 m 2 ls []) := by
  obtain ⟨hx, hb, hr, hml, hown, hts, hlocks, hC⟩ := id C0
  unfold wb_X7_reset_2 at hf
  refine lv_iload_n hx hb dX7_reset_2 rfl (lv_at hl 1 rfl) ?_
  refine lv_bipush (v := 6) hx hb dX7_reset_3 (by decide) ?_
  refine lv_icmp_ge (tgt := 23) hx hb dX7_reset_5 (by decide) (fun hc_1 => ?_) (fun hc_1 => ?_)
  · have hf := g_pos hf hc_1
    refine lv_aload_n hx hb dX7_reset_23 rfl (lv_at hl 0 rfl) ?_
    refine gt_7_1 hx hb hts hown hC hP ht0 q3_14 dX7_reset_24 ?_
    obtain ⟨X_2, hc_3, hf⟩ := g_letE hf
    refine x_callv (v := (X_2, M, τ)) (va_runV (As := []) (rest := []) ⟨hx, hb, hml, hown, hts⟩ (ct_X8_reset l G X M τ t0 ht0 hc_3) (cwV 0 hts gd_X7_77 rfl rfl rfl hd_X8_reset ⟨Nat.le_of_ble_eq_true rfl, Nat.le_of_ble_eq_true rfl⟩) (x_preV (u := (X, M, τ)) (k := 8) (ci := 8) hC hS hP ht0 rfl rfl) rfl rfl hl.1 rfl (lv_room (Nat.le_of_ble_eq_true rfl)) dX7_reset_27 ⟨Nat.zero_le _, Nat.zero_le _⟩) hS (fun H locs hP hS => ?_)
    refine lv_aload_n hx hb dX7_reset_30 rfl (lv_at hl 0 rfl) ?_
    refine gt_7_2 hx hb hts hown hC hP ht0 q3_18 dX7_reset_31 ?_
    obtain ⟨X_4, hc_5, hf⟩ := g_letE hf
    refine x_callv (v := (X_4, M, τ)) (va_runV (As := []) (rest := []) ⟨hx, hb, hml, hown, hts⟩ (ct_X0_reset l G X_2 M τ t0 ht0 hc_5) (cwV 0 hts gd_X7_78 rfl rfl rfl hd_X0_reset ⟨Nat.le_of_ble_eq_true rfl, Nat.le_of_ble_eq_true rfl⟩) (x_preV (u := (X_2, M, τ)) (k := 0) (ci := 0) hC hS hP ht0 rfl rfl) rfl rfl hl.1 rfl (lv_room (Nat.le_of_ble_eq_true rfl)) dX7_reset_34 ⟨Nat.zero_le _, Nat.zero_le _⟩) hS (fun H locs hP hS => ?_)
    refine lv_aload_n hx hb dX7_reset_37 rfl (lv_at hl 0 rfl) ?_
    refine lv_iconst (v := 0) hx hb dX7_reset_38 (by decide) ?_
    obtain ⟨X_6, eX_6, hf⟩ := g_letE hf
    refine pt_7_5 hx hb hts hown hC hP hS ht0 q17_14 dX7_reset_39 (fun H locs hP hS => ?_)
    rw [eX_6] at hP
    refine lv_aload_n hx hb dX7_reset_42 rfl (lv_at hl 0 rfl) ?_
    refine lv_iconst (v := 0) hx hb dX7_reset_43 (by decide) ?_
    obtain ⟨X_7, eX_7, hf⟩ := g_letE hf
    refine pt_7_6 hx hb hts hown hC hP hS ht0 q17_15 dX7_reset_44 (fun H locs hP hS => ?_)
    rw [eX_7] at hP
    refine lv_aload_n hx hb dX7_reset_47 rfl (lv_at hl 0 rfl) ?_
    refine lv_iconst (v := 0) hx hb dX7_reset_48 (by decide) ?_
    obtain ⟨X_8, eX_8, hf⟩ := g_letE hf
    refine pt_7_7 hx hb hts hown hC hP hS ht0 q17_16 dX7_reset_49 (fun H locs hP hS => ?_)
    rw [eX_8] at hP
    refine lv_aload_n hx hb dX7_reset_52 rfl (lv_at hl 0 rfl) ?_
    refine lv_iconst (v := 0) hx hb dX7_reset_53 (by decide) ?_
    obtain ⟨X_9, eX_9, hf⟩ := g_letE hf
    refine pt_7_8 hx hb hts hown hC hP hS ht0 q17_17 dX7_reset_54 (fun H locs hP hS => ?_)
    rw [eX_9] at hP
    refine lv_aload_n hx hb dX7_reset_57 rfl (lv_at hl 0 rfl) ?_
    refine lv_iconst (v := 0) hx hb dX7_reset_58 (by decide) ?_
    obtain ⟨X_10, eX_10, hf⟩ := g_letE hf
    refine pt_7_9 hx hb hts hown hC hP hS ht0 q17_18 dX7_reset_59 (fun H locs hP hS => ?_)
    rw [eX_10] at hP
    refine lv_aload_n hx hb dX7_reset_62 rfl (lv_at hl 0 rfl) ?_
    refine lv_iconst (v := (-1)) hx hb dX7_reset_63 (by decide) ?_
    obtain ⟨X_11, eX_11, hf⟩ := g_letE hf
    refine pt_7_10 hx hb hts hown hC hP hS ht0 q3_19 dX7_reset_64 (fun H locs hP hS => ?_)
    rw [eX_11] at hP
    refine lv_aload_n hx hb dX7_reset_67 rfl (lv_at hl 0 rfl) ?_
    refine lv_iconst (v := 0) hx hb dX7_reset_68 (by decide) ?_
    obtain ⟨X_12, eX_12, hf⟩ := g_letE hf
    refine pt_7_11 hx hb hts hown hC hP hS ht0 q17_19 dX7_reset_69 (fun H locs hP hS => ?_)
    rw [eX_12] at hP
    cases hf
    exact x_vret hx hb hlocks hC hP hS hr dX7_reset_72
  · have hf := g_neg hf hc_1
    refine lv_aload_n hx hb dX7_reset_8 rfl (lv_at hl 0 rfl) ?_
    refine gt_7_0 hx hb hts hown hC hP ht0 q3_10 dX7_reset_9 ?_
    refine lv_iload_n hx hb dX7_reset_12 rfl (lv_at hl 1 rfl) ?_
    obtain ⟨hg_13, hf⟩ := g_gd hf
    have hq_14 : 6 * t0 + (x1.toNatClampNeg) < 12 := by have h8 := g_in_lt (n := 6) hg_13; have h9 : t0 < 2 := ht0; omega
    refine xaldS hx hb hC hP ht0 hg_13 dX7_reset_13 ?_
    obtain ⟨X_15, hc_16, hf⟩ := g_letE hf
    refine x_callv (v := (X_15, M, τ)) (va_runV (As := []) (rest := []) ⟨hx, hb, hml, hown, hts⟩ (ct_X9_reset l G X M τ (6 * t0 + (x1.toNatClampNeg)) hq_14 hc_16) (cwV 0 hts gd_X7_74 rfl rfl rfl hd_X9_reset ⟨Nat.le_of_ble_eq_true rfl, Nat.le_of_ble_eq_true rfl⟩) (x_preV (u := (X, M, τ)) (k := 9) (ci := 9) hC hS hP hq_14 rfl rfl) rfl rfl hl.1 rfl (lv_room (Nat.le_of_ble_eq_true rfl)) dX7_reset_14 ⟨Nat.zero_le _, Nat.zero_le _⟩) hS (fun H locs hP hS => ?_)
    obtain ⟨x1_17, ex1_17, hf⟩ := g_letE hf
    refine lv_iinc (v := x1_17) (lv' := [(1, .int x1_17), (0, .ref (G.2.1 7 t0))]) hx hb dX7_reset_17 hl (k := 1) rfl (by rw [← ex1_17]; rfl) (by decide) rfl (fun ls hl => ?_)
    refine lv_goto (tgt := 2) hx hb dX7_reset_20 (by decide) ?_
    exact hk2 t0 ht0 x1_17 X_15 hf hP hS (lv_sub hl [1, 0] rfl)
def wl_X7_reset_2 (n : Nat) (t0 : Nat) (x1 : Int32) (X : SM) : Option (SM) := g_loop (α := Nat × Int32 × SM) (fun k a => wb_X7_reset_2 (fun t0 x1 X => k (t0, x1, X)) a.1 a.2.1 a.2.2) n (t0, x1, X)
set_option maxRecDepth 100000 in
set_option maxHeartbeats 4000000 in
theorem lp_X7_reset_2 {p : Program} {l : Launch} {e : Env} {s : State} {m : MethodId} {args : Array Value} {below : List Frame} {meth : Method} {c : Code} {G : GP} {M : SM} {τ : SL} (C0 : g_mc p s m args meth c RX7 cX7_reset none 2 G) {X0 : SM} (n : Nat) : ∀ (t0 : Nat) (ht0 : t0 < 2) (x1 : Int32) (X : SM), wl_X7_reset_2 n t0 x1 X = some X0 → ∀ {H : Heap} {locs : List Loc}, va_P G.1 g_cl (wd G (cb X M) τ) H → va_S (g_A G) s.heap H locs → ∀ {ls : Array Slot}, lv_has ls 2 [(0, .ref (G.2.1 7 t0)), (1, .int x1)] → W p l e rm_X7_reset s m args below meth c H locs 0 0 (MQ below (va_Qv (fun u => u = (X0, M, τ)) (g_pw G) (g_A G)) args s 0 0 (g_A G)) (F0 m 2 ls []) := by
  induction n with
  | zero =>
    intro t0 ht0 x1 X hf
    have hf : (none : Option (SM)) = _ := hf
    cases hf
  | succ n ih =>
    intro t0 ht0 x1 X hf H locs hP hS ls hl
    exact bk_X7_reset_2 C0   (fun t0 x1 X => wl_X7_reset_2   n t0 x1 X) ih t0 ht0 x1 X hf hP hS hl
def fn_X7_reset (t0 : Nat) (X : SM) : Option (SM) :=
  wl_X7_reset_2 1000 t0 0 X
set_option maxRecDepth 100000 in
set_option maxHeartbeats 4000000 in
theorem wk_X7_reset {p : Program} {l : Launch} {e : Env} {s : State} {m : MethodId} {args : Array Value} {below : List Frame} {meth : Method} {c : Code} {G : GP} {M : SM} {τ : SL} (C0 : g_mc p s m args meth c RX7 cX7_reset none 2 G) {X0 : SM} (t0 : Nat) (ht0 : t0 < 2) (X : SM) (hf : fn_X7_reset t0 X = some X0) {H : Heap} {locs : List Loc} (hP : va_P G.1 g_cl (wd G (cb X M) τ) H) (hS : va_S (g_A G) s.heap H locs) {ls : Array Slot} (hl : lv_has ls 2 [(0, .ref (G.2.1 7 t0))]) : W p l e rm_X7_reset s m args below meth c H locs 0 0 (MQ below (va_Qv (fun u => u = (X0, M, τ)) (g_pw G) (g_A G)) args s 0 0 (g_A G)) (F0 m 0 ls []) := by
  obtain ⟨hx, hb, hr, hml, hown, hts, hlocks, hC⟩ := id C0
  unfold fn_X7_reset at hf
  refine lv_iconst (v := 0) hx hb dX7_reset_0 (by decide) ?_
  refine lv_istore_n (lv' := [(1, .int 0), (0, .ref (G.2.1 7 t0))]) hx hb dX7_reset_1 rfl hl (by decide) rfl (fun ls hl => ?_)
  exact lp_X7_reset_2 C0 1000 t0 ht0 0 X hf hP hS (lv_sub hl [1, 0] rfl)
set_option maxRecDepth 100000 in
set_option maxHeartbeats 4000000 in
theorem ct_X7_reset (l : Launch) (G : GP) (X M : SM) (τ : SL) (t0 : Nat) (ht0 : t0 < 2) {X0 : SM} (hf : fn_X7_reset t0 X = some X0) : Met l yX7_reset (wz yX7_reset cX7_reset 2 none) rm_X7_reset (va_Pc [.ref (G.2.1 7 t0)] (g_pw G (X, M, τ))) (va_Qv (fun u => u = (X0, M, τ)) (g_pw G) (g_A G)) 0 0 (g_A G) := by
  refine Met.ofW (cc := cX7_reset) (maxL := 2) (ret := none) (by decide +kernel) rfl ?_
  intro p e s m args below meth c s₁ B hml hv
  obtain ⟨rfl, hC, hP⟩ := hv
  have C0 : g_mc p s m _ meth c RX7 cX7_reset none 2 G := ⟨B.exec, B.bytes, B.returns, hml, findClass_of_methodNamed B.named, fun w h => atoms_spec (ws := wz yX7_reset cX7_reset 2 none) B.pre w (List.mem_cons_of_mem _ h), B.notSynchronized, hC⟩
  have hl := lv_entry ([.ref (G.2.1 7 t0)]) (n := 2) (Nat.le_of_ble_eq_true rfl)
  rw [lg_entry_eq]
  generalize (lg_sl ([.ref (G.2.1 7 t0)]) ++ List.replicate (2 - (lg_sl ([.ref (G.2.1 7 t0)])).length) Slot.unset).toArray = ls at hl ⊢
  exact wk_X7_reset C0  t0 ht0 X hf hP va_S.rf hl
abbrev rm_X11_start : Room := { frames := 4, cells := 0, slots := 0, locals := 84 }
def fn_X11_start (X : SM) : Option (Int32 × SM) :=
  g_let ((X 7 0 5)) fun x1_1 =>
  (fn_X7_reset 0 X).bind fun X_2 =>
  some (x1_1, X_2)
set_option maxRecDepth 100000 in
set_option maxHeartbeats 4000000 in
theorem wk_X11_start {p : Program} {l : Launch} {e : Env} {s : State} {m : MethodId} {args : Array Value} {below : List Frame} {meth : Method} {c : Code} {G : GP} {M : SM} {τ : SL} (C0 : g_mc p s m args meth c RX11 cX11_start (some .int) 2 G) {r0 : Int32} {X0 : SM} (X : SM) (hf : fn_X11_start X = some (r0, X0)) {H : Heap} {locs : List Loc} (hP : va_P G.1 g_cl (wd G (cb X M) τ) H) (hS : va_S (g_A G) s.heap H locs) {ls : Array Slot} (hl : lv_has ls 2 [(0, .ref (G.2.1 11 0))]) : W p l e rm_X11_start s m args below meth c H locs 0 0 (MQ below (va_Qi (fun r u => r = r0 ∧ u = (X0, M, τ)) (g_pw G) (g_A G)) args s 0 0 (g_A G)) (F0 m 0 ls []) := by
  obtain ⟨hx, hb, hr, hml, hown, hts, hlocks, hC⟩ := id C0
  unfold fn_X11_start at hf
  refine lv_aload_n hx hb dX11_start_0 rfl (lv_at hl 0 rfl) ?_
  refine gt_11_2 hx hb hts hown hC hP Nat.zero_lt_one q2_0 dX11_start_1 ?_
  refine gt_7_5 hx hb hts hown hC hP (by decide) q12_12 dX11_start_4 ?_
  obtain ⟨x1_1, ex1_1, hf⟩ := g_letE hf
  refine lv_topE ex1_1 ?_
  refine lv_istore_n (lv' := [(1, .int x1_1), (0, .ref (G.2.1 11 0))]) hx hb dX11_start_7 rfl hl (by decide) rfl (fun ls hl => ?_)
  refine lv_aload_n hx hb dX11_start_8 rfl (lv_at hl 1 rfl) ?_
  refine gt_11_2 hx hb hts hown hC hP Nat.zero_lt_one q2_0 dX11_start_9 ?_
  obtain ⟨X_2, hc_3, hf⟩ := g_bindE hf
  refine x_callv (v := (X_2, M, τ)) (va_runV (As := []) (rest := []) ⟨hx, hb, hml, hown, hts⟩ (ct_X7_reset l G X M τ 0 (by decide) hc_3) (cwV 0 hts gd_X11_134 rfl rfl rfl hd_X7_reset ⟨Nat.le_of_ble_eq_true rfl, Nat.le_of_ble_eq_true rfl⟩) (x_preV (u := (X, M, τ)) (k := 7) (ci := 7) hC hS hP (by decide) rfl rfl) rfl rfl hl.1 rfl (lv_room (Nat.le_of_ble_eq_true rfl)) dX11_start_12 ⟨Nat.zero_le _, Nat.zero_le _⟩) hS (fun H locs hP hS => ?_)
  refine lv_iload_n hx hb dX11_start_15 rfl (lv_at hl 0 rfl) ?_
  cases hf
  exact x_iret hx hb hlocks hC hP hS hr dX11_start_16
set_option maxRecDepth 100000 in
set_option maxHeartbeats 4000000 in
theorem ct_X11_start (l : Launch) (G : GP) (X M : SM) (τ : SL) {r0 : Int32} {X0 : SM} (hf : fn_X11_start X = some (r0, X0)) : Met l yX11_start (wz yX11_start cX11_start 2 (some .int)) rm_X11_start (va_Pc [.ref (G.2.1 11 0)] (g_pw G (X, M, τ))) (va_Qi (fun r u => r = r0 ∧ u = (X0, M, τ)) (g_pw G) (g_A G)) 0 0 (g_A G) := by
  refine Met.ofW (cc := cX11_start) (maxL := 2) (ret := (some .int)) (by decide +kernel) rfl ?_
  intro p e s m args below meth c s₁ B hml hv
  obtain ⟨rfl, hC, hP⟩ := hv
  have C0 : g_mc p s m _ meth c RX11 cX11_start (some .int) 2 G := ⟨B.exec, B.bytes, B.returns, hml, findClass_of_methodNamed B.named, fun w h => atoms_spec (ws := wz yX11_start cX11_start 2 (some .int)) B.pre w (List.mem_cons_of_mem _ h), B.notSynchronized, hC⟩
  have hl := lv_entry ([.ref (G.2.1 11 0)]) (n := 2) (Nat.le_of_ble_eq_true rfl)
  rw [lg_entry_eq]
  generalize (lg_sl ([.ref (G.2.1 11 0)]) ++ List.replicate (2 - (lg_sl ([.ref (G.2.1 11 0)])).length) Slot.unset).toArray = ls at hl ⊢
  exact wk_X11_start C0  X hf hP va_S.rf hl
abbrev rm_X11_table : Room := { frames := 1, cells := 0, slots := 0, locals := 21 }
def fn_X11_table (x1 : Int32) (X : SM) : Option (Int32) :=
  g_let (fn_X10_has x1 X) fun r_1 =>
  if r_1 = 0 then
  (some (-2))
  else
  (if g_in x1 16 then
    some (X 34 0 (x1.toNatClampNeg))
    else none)
set_option maxRecDepth 100000 in
set_option maxHeartbeats 4000000 in
theorem wk_X11_table {p : Program} {l : Launch} {e : Env} {s : State} {m : MethodId} {args : Array Value} {below : List Frame} {meth : Method} {c : Code} {G : GP} {M : SM} {τ : SL} (C0 : g_mc p s m args meth c RX11 cX11_table (some .int) 2 G) {r0 : Int32} (x1 : Int32) (X : SM) (hf : fn_X11_table x1 X = some r0) {H : Heap} {locs : List Loc} (hP : va_P G.1 g_cl (wd G (cb X M) τ) H) (hS : va_S (g_A G) s.heap H locs) {ls : Array Slot} (hl : lv_has ls 2 [(0, .ref (G.2.1 11 0)), (1, .int x1)]) : W p l e rm_X11_table s m args below meth c H locs 0 0 (MQ below (va_Qi (fun r u => r = r0 ∧ u = (X, M, τ)) (g_pw G) (g_A G)) args s 0 0 (g_A G)) (F0 m 0 ls []) := by
  obtain ⟨hx, hb, hr, hml, hown, hts, hlocks, hC⟩ := id C0
  unfold fn_X11_table at hf
  refine lv_aload_n hx hb dX11_table_0 rfl (lv_at hl 0 rfl) ?_
  refine gt_11_0 hx hb hts hown hC hP Nat.zero_lt_one q1_16 dX11_table_1 ?_
  refine lv_iload_n hx hb dX11_table_4 rfl (lv_at hl 1 rfl) ?_
  obtain ⟨r_1, hc_2, hf⟩ := g_letE hf
  refine x_calli (v := (X, M, τ)) (va_runV (As := [.int x1]) (rest := []) ⟨hx, hb, hml, hown, hts⟩ (ct_X10_has l G X M τ x1 hc_2) (cwV 1 hts gd_X11_124 rfl rfl rfl hd_X10_has ⟨Nat.le_of_ble_eq_true rfl, Nat.le_of_ble_eq_true rfl⟩) (x_preV (u := (X, M, τ)) (k := 10) (ci := 10) hC hS hP Nat.zero_lt_one rfl rfl) rfl rfl hl.1 rfl (lv_room (Nat.le_of_ble_eq_true rfl)) dX11_table_5 ⟨Nat.zero_le _, Nat.zero_le _⟩) hS (fun H locs hP hS => ?_)
  refine lv_if_eq (tgt := 23) hx hb dX11_table_8 (by decide) (fun hc_3 => ?_) (fun hc_3 => ?_)
  · have hf := g_pos hf hc_3
    refine lv_bipush (v := (-2)) hx hb dX11_table_23 (by decide) ?_
    cases hf
    exact x_iret hx hb hlocks hC hP hS hr dX11_table_25
  · have hf := g_neg hf hc_3
    refine lv_aload_n hx hb dX11_table_11 rfl (lv_at hl 0 rfl) ?_
    refine gt_11_0 hx hb hts hown hC hP Nat.zero_lt_one q1_16 dX11_table_12 ?_
    refine gt_10_0 hx hb hts hown hC hP Nat.zero_lt_one q13_21 dX11_table_15 ?_
    refine lv_iload_n hx hb dX11_table_18 rfl (lv_at hl 1 rfl) ?_
    obtain ⟨hg_4, hf⟩ := g_gd hf
    refine xildX (k := 34) (n := 16) hx hb hC hP (fun _ _ => rfl) rfl Nat.zero_lt_one hg_4 dX11_table_19 ?_
    refine lv_goto (tgt := 25) hx hb dX11_table_20 (by decide) ?_
    cases hf
    exact x_iret hx hb hlocks hC hP hS hr dX11_table_25
set_option maxRecDepth 100000 in
set_option maxHeartbeats 4000000 in
theorem ct_X11_table (l : Launch) (G : GP) (X M : SM) (τ : SL) (x1 : Int32) {r0 : Int32} (hf : fn_X11_table x1 X = some r0) : Met l yX11_table (wz yX11_table cX11_table 2 (some .int)) rm_X11_table (va_Pc [.ref (G.2.1 11 0), .int x1] (g_pw G (X, M, τ))) (va_Qi (fun r u => r = r0 ∧ u = (X, M, τ)) (g_pw G) (g_A G)) 0 0 (g_A G) := by
  refine Met.ofW (cc := cX11_table) (maxL := 2) (ret := (some .int)) (by decide +kernel) rfl ?_
  intro p e s m args below meth c s₁ B hml hv
  obtain ⟨rfl, hC, hP⟩ := hv
  have C0 : g_mc p s m _ meth c RX11 cX11_table (some .int) 2 G := ⟨B.exec, B.bytes, B.returns, hml, findClass_of_methodNamed B.named, fun w h => atoms_spec (ws := wz yX11_table cX11_table 2 (some .int)) B.pre w (List.mem_cons_of_mem _ h), B.notSynchronized, hC⟩
  have hl := lv_entry ([.ref (G.2.1 11 0), .int x1]) (n := 2) (Nat.le_of_ble_eq_true rfl)
  rw [lg_entry_eq]
  generalize (lg_sl ([.ref (G.2.1 11 0), .int x1]) ++ List.replicate (2 - (lg_sl ([.ref (G.2.1 11 0), .int x1])).length) Slot.unset).toArray = ls at hl ⊢
  exact wk_X11_table C0  x1 X hf hP va_S.rf hl
abbrev rm_X1_upTo : Room := { frames := 0, cells := 0, slots := 0, locals := 0 }
def fn_X1_upTo (x0 : Int32) (x1 : Int32) : Int32 :=
  if x1 < 0 then
  (1)
  else
  (if x0 < 0 then
    (0)
    else
    (if x1 < x0 then
      (0)
      else
      (1)))
set_option maxRecDepth 100000 in
set_option maxHeartbeats 4000000 in
theorem wk_X1_upTo {p : Program} {l : Launch} {e : Env} {s : State} {m : MethodId} {args : Array Value} {below : List Frame} {meth : Method} {c : Code} {G : GP} {X : SM} {M : SM} {τ : SL} (C0 : g_mc p s m args meth c RX1 cX1_upTo (some .boolean) 2 G) {r0 : Int32} (x0 : Int32) (x1 : Int32) (hf : fn_X1_upTo x0 x1 = r0) {H : Heap} {locs : List Loc} (hP : va_P G.1 g_cl (wd G (cb X M) τ) H) (hS : va_S (g_A G) s.heap H locs) {ls : Array Slot} (hl : lv_has ls 2 [(0, .int x0), (1, .int x1)]) : W p l e rm_X1_upTo s m args below meth c H locs 0 0 (MQ below (va_Qi (fun r u => r = r0 ∧ u = (X, M, τ)) (g_pw G) (g_A G)) args s 0 0 (g_A G)) (F0 m 0 ls []) := by
  obtain ⟨hx, hb, hr, hml, hown, hts, hlocks, hC⟩ := id C0
  unfold fn_X1_upTo at hf
  refine lv_iload_n hx hb dX1_upTo_0 rfl (lv_at hl 1 rfl) ?_
  refine lv_if_lt (tgt := 13) hx hb dX1_upTo_1 (by decide) (fun hc_1 => ?_) (fun hc_1 => ?_)
  · have hf := g_pos hf hc_1
    refine lv_iconst (v := 1) hx hb dX1_upTo_13 (by decide) ?_
    refine lv_goto (tgt := 18) hx hb dX1_upTo_14 (by decide) ?_
    cases hf
    exact x_zret hx hb hlocks hC hP hS hr (Or.inr rfl) dX1_upTo_18
  · have hf := g_neg hf hc_1
    refine lv_iload_n hx hb dX1_upTo_4 rfl (lv_at hl 0 rfl) ?_
    refine lv_if_lt (tgt := 17) hx hb dX1_upTo_5 (by decide) (fun hc_2 => ?_) (fun hc_2 => ?_)
    · have hf := g_pos hf hc_2
      refine lv_iconst (v := 0) hx hb dX1_upTo_17 (by decide) ?_
      cases hf
      exact x_zret hx hb hlocks hC hP hS hr (Or.inl rfl) dX1_upTo_18
    · have hf := g_neg hf hc_2
      refine lv_iload_n hx hb dX1_upTo_8 rfl (lv_at hl 0 rfl) ?_
      refine lv_iload_n hx hb dX1_upTo_9 rfl (lv_at hl 1 rfl) ?_
      refine lv_icmp_gt (tgt := 17) hx hb dX1_upTo_10 (by decide) (fun hc_3 => ?_) (fun hc_3 => ?_)
      · have hf := g_pos hf hc_3
        refine lv_iconst (v := 0) hx hb dX1_upTo_17 (by decide) ?_
        cases hf
        exact x_zret hx hb hlocks hC hP hS hr (Or.inl rfl) dX1_upTo_18
      · have hf := g_neg hf hc_3
        refine lv_iconst (v := 1) hx hb dX1_upTo_13 (by decide) ?_
        refine lv_goto (tgt := 18) hx hb dX1_upTo_14 (by decide) ?_
        cases hf
        exact x_zret hx hb hlocks hC hP hS hr (Or.inr rfl) dX1_upTo_18
set_option maxRecDepth 100000 in
set_option maxHeartbeats 4000000 in
theorem ct_X1_upTo (l : Launch) (G : GP) (X M : SM) (τ : SL) (x0 : Int32) (x1 : Int32) {r0 : Int32} (hf : fn_X1_upTo x0 x1 = r0) : Met l yX1_upTo (wz yX1_upTo cX1_upTo 2 (some .boolean)) rm_X1_upTo (va_Pc [.int x0, .int x1] (g_pw G (X, M, τ))) (va_Qi (fun r u => r = r0 ∧ u = (X, M, τ)) (g_pw G) (g_A G)) 0 0 (g_A G) := by
  refine Met.ofW (cc := cX1_upTo) (maxL := 2) (ret := (some .boolean)) (by decide +kernel) rfl ?_
  intro p e s m args below meth c s₁ B hml hv
  obtain ⟨rfl, hC, hP⟩ := hv
  have C0 : g_mc p s m _ meth c RX1 cX1_upTo (some .boolean) 2 G := ⟨B.exec, B.bytes, B.returns, hml, findClass_of_methodNamed B.named, fun w h => atoms_spec (ws := wz yX1_upTo cX1_upTo 2 (some .boolean)) B.pre w (List.mem_cons_of_mem _ h), B.notSynchronized, hC⟩
  have hl := lv_entry ([.int x0, .int x1]) (n := 2) (Nat.le_of_ble_eq_true rfl)
  rw [lg_entry_eq]
  generalize (lg_sl ([.int x0, .int x1]) ++ List.replicate (2 - (lg_sl ([.int x0, .int x1])).length) Slot.unset).toArray = ls at hl ⊢
  exact wk_X1_upTo C0  x0 x1 hf hP va_S.rf hl
abbrev rm_X1_suits : Room := { frames := 1, cells := 0, slots := 0, locals := 21 }
def fn_X1_suits (t0 : Nat) (x1 : Int32) (x2 : Int32) (x3 : Int32) (x4 : Int32) (X : SM) : Option (Int32) :=
  if x1 < 0 then
  (some 0)
  else
  (if x1 < 21 then
    (g_let ((3 * x1)) fun x5_3 =>
      if g_in x5_3 63 then
      g_let (fn_X1_upTo x2 (g_tab (x5_3.toNatClampNeg))) fun r_5 =>
      if r_5 = 0 then
      (some 0)
      else
      (if g_in (x5_3 + 1) 63 then
        g_let (fn_X1_upTo x3 (g_tab ((x5_3 + 1).toNatClampNeg))) fun r_9 =>
        if r_9 = 0 then
        (some 0)
        else
        (if g_in (x5_3 + 2) 63 then
          g_let (fn_X1_upTo x4 (g_tab ((x5_3 + 2).toNatClampNeg))) fun r_13 =>
          if r_13 = 0 then
          (some 0)
          else
          (if x1 = 9 then
            (if (X 1 t0 4) < x3 then
              (some 0)
              else
              (some 1))
            else
            (some 1))
          else none)
        else none)
      else none)
    else
    (some 0))
set_option maxRecDepth 100000 in
set_option maxHeartbeats 4000000 in
theorem wk_X1_suits {p : Program} {l : Launch} {e : Env} {s : State} {m : MethodId} {args : Array Value} {below : List Frame} {meth : Method} {c : Code} {G : GP} {M : SM} {τ : SL} (C0 : g_mc p s m args meth c RX1 cX1_suits (some .boolean) 6 G) {r0 : Int32} (t0 : Nat) (ht0 : t0 < 12) (x1 : Int32) (x2 : Int32) (x3 : Int32) (x4 : Int32) (X : SM) (hf : fn_X1_suits t0 x1 x2 x3 x4 X = some r0) {H : Heap} {locs : List Loc} (hP : va_P G.1 g_cl (wd G (cb X M) τ) H) (hS : va_S (g_A G) s.heap H locs) {ls : Array Slot} (hl : lv_has ls 6 [(0, .ref (G.2.1 1 t0)), (1, .int x1), (2, .int x2), (3, .int x3), (4, .int x4)]) : W p l e rm_X1_suits s m args below meth c H locs 0 0 (MQ below (va_Qi (fun r u => r = r0 ∧ u = (X, M, τ)) (g_pw G) (g_A G)) args s 0 0 (g_A G)) (F0 m 0 ls []) := by
  obtain ⟨hx, hb, hr, hml, hown, hts, hlocks, hC⟩ := id C0
  unfold fn_X1_suits at hf
  refine lv_iload_n hx hb dX1_suits_0 rfl (lv_at hl 1 rfl) ?_
  refine lv_if_lt (tgt := 10) hx hb dX1_suits_1 (by decide) (fun hc_1 => ?_) (fun hc_1 => ?_)
  · have hf := g_pos hf hc_1
    refine lv_iconst (v := 0) hx hb dX1_suits_10 (by decide) ?_
    cases hf
    exact x_zret hx hb hlocks hC hP hS hr (Or.inl rfl) dX1_suits_11
  · have hf := g_neg hf hc_1
    refine lv_iload_n hx hb dX1_suits_4 rfl (lv_at hl 1 rfl) ?_
    refine lv_bipush (v := 21) hx hb dX1_suits_5 (by decide) ?_
    refine lv_icmp_lt (tgt := 12) hx hb dX1_suits_7 (by decide) (fun hc_2 => ?_) (fun hc_2 => ?_)
    · have hf := g_pos hf hc_2
      refine lv_iconst (v := 3) hx hb dX1_suits_12 (by decide) ?_
      refine lv_iload_n hx hb dX1_suits_13 rfl (lv_at hl 1 rfl) ?_
      refine lv_imul hx hb dX1_suits_14 ?_
      obtain ⟨x5_3, ex5_3, hf⟩ := g_letE hf
      refine lv_topE ex5_3 ?_
      refine lv_istore (lv' := [(5, .int x5_3), (0, .ref (G.2.1 1 t0)), (1, .int x1), (2, .int x2), (3, .int x3), (4, .int x4)]) hx hb dX1_suits_15 hl (by decide) rfl (fun ls hl => ?_)
      refine lv_iload_n hx hb dX1_suits_17 rfl (lv_at hl 3 rfl) ?_
      refine va_getsN (A := g_A G) hx hb hC.2.2.1.1 hS hown (va_Nw.use rfl hC.2.1.2.2.2.2.2.2.1) (fun _ h => h) dX1_suits_18 ?_
      refine lv_iload hx hb dX1_suits_21 (lv_at hl 0 rfl) ?_
      obtain ⟨hg_4, hf⟩ := g_gd hf
      refine va_ti (A := g_A G) hx hb hC.2.2.1.2.1 hS hg_4 rfl dX1_suits_23 ?_
      obtain ⟨r_5, hc_6, hf⟩ := g_letE hf
      refine x_calli (v := (X, M, τ)) (va_runS (As := [.int x2, .int (g_tab (x5_3.toNatClampNeg))]) (rest := []) ⟨hx, hb, hml, hown, hts⟩ (ct_X1_upTo l G X M τ x2 (g_tab (x5_3.toNatClampNeg)) hc_6) (cwS 2 hts gd_X1_31 rfl rfl rfl hd_X1_upTo ⟨Nat.le_of_ble_eq_true rfl, Nat.le_of_ble_eq_true rfl⟩) (x_pre (u := (X, M, τ)) hC hS hP) rfl rfl hl.1 rfl (lv_room (Nat.le_of_ble_eq_true rfl)) dX1_suits_24 ⟨Nat.zero_le _, Nat.zero_le _⟩) hS (fun H locs hP hS => ?_)
      refine lv_if_eq (tgt := 79) hx hb dX1_suits_27 (by decide) (fun hc_7 => ?_) (fun hc_7 => ?_)
      · have hf := g_pos hf hc_7
        refine lv_iconst (v := 0) hx hb dX1_suits_79 (by decide) ?_
        cases hf
        exact x_zret hx hb hlocks hC hP hS hr (Or.inl rfl) dX1_suits_80
      · have hf := g_neg hf hc_7
        refine lv_iload_n hx hb dX1_suits_30 rfl (lv_at hl 4 rfl) ?_
        refine va_getsN (A := g_A G) hx hb hC.2.2.1.1 hS hown (va_Nw.use rfl hC.2.1.2.2.2.2.2.2.1) (fun _ h => h) dX1_suits_31 ?_
        refine lv_iload hx hb dX1_suits_34 (lv_at hl 0 rfl) ?_
        refine lv_iconst (v := 1) hx hb dX1_suits_36 (by decide) ?_
        refine lv_iadd hx hb dX1_suits_37 ?_
        obtain ⟨hg_8, hf⟩ := g_gd hf
        refine va_ti (A := g_A G) hx hb hC.2.2.1.2.1 hS hg_8 rfl dX1_suits_38 ?_
        obtain ⟨r_9, hc_10, hf⟩ := g_letE hf
        refine x_calli (v := (X, M, τ)) (va_runS (As := [.int x3, .int (g_tab ((x5_3 + 1).toNatClampNeg))]) (rest := []) ⟨hx, hb, hml, hown, hts⟩ (ct_X1_upTo l G X M τ x3 (g_tab ((x5_3 + 1).toNatClampNeg)) hc_10) (cwS 2 hts gd_X1_31 rfl rfl rfl hd_X1_upTo ⟨Nat.le_of_ble_eq_true rfl, Nat.le_of_ble_eq_true rfl⟩) (x_pre (u := (X, M, τ)) hC hS hP) rfl rfl hl.1 rfl (lv_room (Nat.le_of_ble_eq_true rfl)) dX1_suits_39 ⟨Nat.zero_le _, Nat.zero_le _⟩) hS (fun H locs hP hS => ?_)
        refine lv_if_eq (tgt := 79) hx hb dX1_suits_42 (by decide) (fun hc_11 => ?_) (fun hc_11 => ?_)
        · have hf := g_pos hf hc_11
          refine lv_iconst (v := 0) hx hb dX1_suits_79 (by decide) ?_
          cases hf
          exact x_zret hx hb hlocks hC hP hS hr (Or.inl rfl) dX1_suits_80
        · have hf := g_neg hf hc_11
          refine lv_iload hx hb dX1_suits_45 (lv_at hl 5 rfl) ?_
          refine va_getsN (A := g_A G) hx hb hC.2.2.1.1 hS hown (va_Nw.use rfl hC.2.1.2.2.2.2.2.2.1) (fun _ h => h) dX1_suits_47 ?_
          refine lv_iload hx hb dX1_suits_50 (lv_at hl 0 rfl) ?_
          refine lv_iconst (v := 2) hx hb dX1_suits_52 (by decide) ?_
          refine lv_iadd hx hb dX1_suits_53 ?_
          obtain ⟨hg_12, hf⟩ := g_gd hf
          refine va_ti (A := g_A G) hx hb hC.2.2.1.2.1 hS hg_12 rfl dX1_suits_54 ?_
          obtain ⟨r_13, hc_14, hf⟩ := g_letE hf
          refine x_calli (v := (X, M, τ)) (va_runS (As := [.int x4, .int (g_tab ((x5_3 + 2).toNatClampNeg))]) (rest := []) ⟨hx, hb, hml, hown, hts⟩ (ct_X1_upTo l G X M τ x4 (g_tab ((x5_3 + 2).toNatClampNeg)) hc_14) (cwS 2 hts gd_X1_31 rfl rfl rfl hd_X1_upTo ⟨Nat.le_of_ble_eq_true rfl, Nat.le_of_ble_eq_true rfl⟩) (x_pre (u := (X, M, τ)) hC hS hP) rfl rfl hl.1 rfl (lv_room (Nat.le_of_ble_eq_true rfl)) dX1_suits_55 ⟨Nat.zero_le _, Nat.zero_le _⟩) hS (fun H locs hP hS => ?_)
          refine lv_if_eq (tgt := 79) hx hb dX1_suits_58 (by decide) (fun hc_15 => ?_) (fun hc_15 => ?_)
          · have hf := g_pos hf hc_15
            refine lv_iconst (v := 0) hx hb dX1_suits_79 (by decide) ?_
            cases hf
            exact x_zret hx hb hlocks hC hP hS hr (Or.inl rfl) dX1_suits_80
          · have hf := g_neg hf hc_15
            refine lv_iload_n hx hb dX1_suits_61 rfl (lv_at hl 2 rfl) ?_
            refine lv_bipush (v := 9) hx hb dX1_suits_62 (by decide) ?_
            refine lv_icmp_ne (tgt := 75) hx hb dX1_suits_64 (by decide) (fun hc_16 => ?_) (fun hc_16 => ?_)
            · have hf := g_neg hf hc_16
              refine lv_iconst (v := 1) hx hb dX1_suits_75 (by decide) ?_
              refine lv_goto (tgt := 80) hx hb dX1_suits_76 (by decide) ?_
              cases hf
              exact x_zret hx hb hlocks hC hP hS hr (Or.inr rfl) dX1_suits_80
            · have hf := g_pos hf hc_16
              refine lv_iload_n hx hb dX1_suits_67 rfl (lv_at hl 4 rfl) ?_
              refine lv_aload_n hx hb dX1_suits_68 rfl (lv_at hl 1 rfl) ?_
              refine gt_1_4 hx hb hts hown hC hP ht0 q8_6 dX1_suits_69 ?_
              refine lv_icmp_gt (tgt := 79) hx hb dX1_suits_72 (by decide) (fun hc_17 => ?_) (fun hc_17 => ?_)
              · have hf := g_pos hf hc_17
                refine lv_iconst (v := 0) hx hb dX1_suits_79 (by decide) ?_
                cases hf
                exact x_zret hx hb hlocks hC hP hS hr (Or.inl rfl) dX1_suits_80
              · have hf := g_neg hf hc_17
                refine lv_iconst (v := 1) hx hb dX1_suits_75 (by decide) ?_
                refine lv_goto (tgt := 80) hx hb dX1_suits_76 (by decide) ?_
                cases hf
                exact x_zret hx hb hlocks hC hP hS hr (Or.inr rfl) dX1_suits_80
    · have hf := g_neg hf hc_2
      refine lv_iconst (v := 0) hx hb dX1_suits_10 (by decide) ?_
      cases hf
      exact x_zret hx hb hlocks hC hP hS hr (Or.inl rfl) dX1_suits_11
set_option maxRecDepth 100000 in
set_option maxHeartbeats 4000000 in
theorem ct_X1_suits (l : Launch) (G : GP) (X M : SM) (τ : SL) (t0 : Nat) (ht0 : t0 < 12) (x1 : Int32) (x2 : Int32) (x3 : Int32) (x4 : Int32) {r0 : Int32} (hf : fn_X1_suits t0 x1 x2 x3 x4 X = some r0) : Met l yX1_suits (wz yX1_suits cX1_suits 6 (some .boolean)) rm_X1_suits (va_Pc [.ref (G.2.1 1 t0), .int x1, .int x2, .int x3, .int x4] (g_pw G (X, M, τ))) (va_Qi (fun r u => r = r0 ∧ u = (X, M, τ)) (g_pw G) (g_A G)) 0 0 (g_A G) := by
  refine Met.ofW (cc := cX1_suits) (maxL := 6) (ret := (some .boolean)) (by decide +kernel) rfl ?_
  intro p e s m args below meth c s₁ B hml hv
  obtain ⟨rfl, hC, hP⟩ := hv
  have C0 : g_mc p s m _ meth c RX1 cX1_suits (some .boolean) 6 G := ⟨B.exec, B.bytes, B.returns, hml, findClass_of_methodNamed B.named, fun w h => atoms_spec (ws := wz yX1_suits cX1_suits 6 (some .boolean)) B.pre w (List.mem_cons_of_mem _ h), B.notSynchronized, hC⟩
  have hl := lv_entry ([.ref (G.2.1 1 t0), .int x1, .int x2, .int x3, .int x4]) (n := 6) (Nat.le_of_ble_eq_true rfl)
  rw [lg_entry_eq]
  generalize (lg_sl ([.ref (G.2.1 1 t0), .int x1, .int x2, .int x3, .int x4]) ++ List.replicate (6 - (lg_sl ([.ref (G.2.1 1 t0), .int x1, .int x2, .int x3, .int x4])).length) Slot.unset).toArray = ls at hl ⊢
  exact wk_X1_suits C0  t0 ht0 x1 x2 x3 x4 X hf hP va_S.rf hl
abbrev rm_X1_append : Room := { frames := 0, cells := 0, slots := 0, locals := 0 }
def fn_X1_append (t0 : Nat) (x1 : Int32) (x2 : Int32) (x3 : Int32) (x4 : Int32) (X : SM) : Option (Int32 × SM) :=
  g_let ((X 1 t0 4)) fun x5_1 =>
  if x5_1 < 0 then
  (some ((-1), X))
  else
  (if x5_1 < 24 then
    (if g_in x5_1 24 then
      g_let (u1 X 16 t0 (x5_1.toNatClampNeg) x1) fun X_5 =>
      if g_in x5_1 24 then
      g_let (u1 X_5 17 t0 (x5_1.toNatClampNeg) x2) fun X_7 =>
      if g_in x5_1 24 then
      g_let (u1 X_7 18 t0 (x5_1.toNatClampNeg) x3) fun X_9 =>
      if g_in x5_1 24 then
      g_let (u1 X_9 19 t0 (x5_1.toNatClampNeg) x4) fun X_11 =>
      g_let (u1 X_11 1 t0 4 ((X_11 1 t0 4) + 1)) fun X_12 =>
      some (x5_1, X_12)
      else none
      else none
      else none
      else none)
    else
    (some ((-1), X)))
set_option maxRecDepth 100000 in
set_option maxHeartbeats 4000000 in
theorem wk_X1_append {p : Program} {l : Launch} {e : Env} {s : State} {m : MethodId} {args : Array Value} {below : List Frame} {meth : Method} {c : Code} {G : GP} {M : SM} {τ : SL} (C0 : g_mc p s m args meth c RX1 cX1_append (some .int) 6 G) {r0 : Int32} {X0 : SM} (t0 : Nat) (ht0 : t0 < 12) (x1 : Int32) (x2 : Int32) (x3 : Int32) (x4 : Int32) (X : SM) (hf : fn_X1_append t0 x1 x2 x3 x4 X = some (r0, X0)) {H : Heap} {locs : List Loc} (hP : va_P G.1 g_cl (wd G (cb X M) τ) H) (hS : va_S (g_A G) s.heap H locs) {ls : Array Slot} (hl : lv_has ls 6 [(0, .ref (G.2.1 1 t0)), (1, .int x1), (2, .int x2), (3, .int x3), (4, .int x4)]) : W p l e rm_X1_append s m args below meth c H locs 0 0 (MQ below (va_Qi (fun r u => r = r0 ∧ u = (X0, M, τ)) (g_pw G) (g_A G)) args s 0 0 (g_A G)) (F0 m 0 ls []) := by
  obtain ⟨hx, hb, hr, hml, hown, hts, hlocks, hC⟩ := id C0
  unfold fn_X1_append at hf
  refine lv_aload_n hx hb dX1_append_0 rfl (lv_at hl 0 rfl) ?_
  refine gt_1_4 hx hb hts hown hC hP ht0 q8_6 dX1_append_1 ?_
  obtain ⟨x5_1, ex5_1, hf⟩ := g_letE hf
  refine lv_topE ex5_1 ?_
  refine lv_istore (lv' := [(5, .int x5_1), (0, .ref (G.2.1 1 t0)), (1, .int x1), (2, .int x2), (3, .int x3), (4, .int x4)]) hx hb dX1_append_4 hl (by decide) rfl (fun ls hl => ?_)
  refine lv_iload hx hb dX1_append_6 (lv_at hl 0 rfl) ?_
  refine lv_if_lt (tgt := 18) hx hb dX1_append_8 (by decide) (fun hc_2 => ?_) (fun hc_2 => ?_)
  · have hf := g_pos hf hc_2
    refine lv_iconst (v := (-1)) hx hb dX1_append_18 (by decide) ?_
    cases hf
    exact x_iret hx hb hlocks hC hP hS hr dX1_append_19
  · have hf := g_neg hf hc_2
    refine lv_iload hx hb dX1_append_11 (lv_at hl 0 rfl) ?_
    refine lv_bipush (v := 24) hx hb dX1_append_13 (by decide) ?_
    refine lv_icmp_lt (tgt := 20) hx hb dX1_append_15 (by decide) (fun hc_3 => ?_) (fun hc_3 => ?_)
    · have hf := g_pos hf hc_3
      refine lv_aload_n hx hb dX1_append_20 rfl (lv_at hl 1 rfl) ?_
      refine gt_1_0 hx hb hts hown hC hP ht0 q5_20 dX1_append_21 ?_
      refine lv_iload hx hb dX1_append_24 (lv_at hl 0 rfl) ?_
      refine lv_iload_n hx hb dX1_append_26 rfl (lv_at hl 2 rfl) ?_
      obtain ⟨hg_4, hf⟩ := g_gd hf
      obtain ⟨X_5, eX_5, hf⟩ := g_letE hf
      refine xistX (k := 16) (n := 24) hx hb hC hP hS (fun _ _ => rfl) rfl ht0 hg_4 dX1_append_27 (fun H locs hP hS => ?_)
      rw [eX_5] at hP
      refine lv_aload_n hx hb dX1_append_28 rfl (lv_at hl 1 rfl) ?_
      refine gt_1_1 hx hb hts hown hC hP ht0 q5_21 dX1_append_29 ?_
      refine lv_iload hx hb dX1_append_32 (lv_at hl 0 rfl) ?_
      refine lv_iload_n hx hb dX1_append_34 rfl (lv_at hl 3 rfl) ?_
      obtain ⟨hg_6, hf⟩ := g_gd hf
      obtain ⟨X_7, eX_7, hf⟩ := g_letE hf
      refine xistX (k := 17) (n := 24) hx hb hC hP hS (fun _ _ => rfl) rfl ht0 hg_6 dX1_append_35 (fun H locs hP hS => ?_)
      rw [eX_7] at hP
      refine lv_aload_n hx hb dX1_append_36 rfl (lv_at hl 1 rfl) ?_
      refine gt_1_2 hx hb hts hown hC hP ht0 q5_22 dX1_append_37 ?_
      refine lv_iload hx hb dX1_append_40 (lv_at hl 0 rfl) ?_
      refine lv_iload_n hx hb dX1_append_42 rfl (lv_at hl 4 rfl) ?_
      obtain ⟨hg_8, hf⟩ := g_gd hf
      obtain ⟨X_9, eX_9, hf⟩ := g_letE hf
      refine xistX (k := 18) (n := 24) hx hb hC hP hS (fun _ _ => rfl) rfl ht0 hg_8 dX1_append_43 (fun H locs hP hS => ?_)
      rw [eX_9] at hP
      refine lv_aload_n hx hb dX1_append_44 rfl (lv_at hl 1 rfl) ?_
      refine gt_1_3 hx hb hts hown hC hP ht0 q5_23 dX1_append_45 ?_
      refine lv_iload hx hb dX1_append_48 (lv_at hl 0 rfl) ?_
      refine lv_iload hx hb dX1_append_50 (lv_at hl 5 rfl) ?_
      obtain ⟨hg_10, hf⟩ := g_gd hf
      obtain ⟨X_11, eX_11, hf⟩ := g_letE hf
      refine xistX (k := 19) (n := 24) hx hb hC hP hS (fun _ _ => rfl) rfl ht0 hg_10 dX1_append_52 (fun H locs hP hS => ?_)
      rw [eX_11] at hP
      refine lv_aload_n hx hb dX1_append_53 rfl (lv_at hl 1 rfl) ?_
      refine lv_dup hx hb dX1_append_54 rfl ?_
      refine gt_1_4 hx hb hts hown hC hP ht0 q8_6 dX1_append_55 ?_
      refine lv_iconst (v := 1) hx hb dX1_append_58 (by decide) ?_
      refine lv_iadd hx hb dX1_append_59 ?_
      obtain ⟨X_12, eX_12, hf⟩ := g_letE hf
      refine pt_1_4 hx hb hts hown hC hP hS ht0 q8_6 dX1_append_60 (fun H locs hP hS => ?_)
      rw [eX_12] at hP
      refine lv_iload hx hb dX1_append_63 (lv_at hl 0 rfl) ?_
      cases hf
      exact x_iret hx hb hlocks hC hP hS hr dX1_append_65
    · have hf := g_neg hf hc_3
      refine lv_iconst (v := (-1)) hx hb dX1_append_18 (by decide) ?_
      cases hf
      exact x_iret hx hb hlocks hC hP hS hr dX1_append_19
set_option maxRecDepth 100000 in
set_option maxHeartbeats 4000000 in
theorem ct_X1_append (l : Launch) (G : GP) (X M : SM) (τ : SL) (t0 : Nat) (ht0 : t0 < 12) (x1 : Int32) (x2 : Int32) (x3 : Int32) (x4 : Int32) {r0 : Int32} {X0 : SM} (hf : fn_X1_append t0 x1 x2 x3 x4 X = some (r0, X0)) : Met l yX1_append (wz yX1_append cX1_append 6 (some .int)) rm_X1_append (va_Pc [.ref (G.2.1 1 t0), .int x1, .int x2, .int x3, .int x4] (g_pw G (X, M, τ))) (va_Qi (fun r u => r = r0 ∧ u = (X0, M, τ)) (g_pw G) (g_A G)) 0 0 (g_A G) := by
  refine Met.ofW (cc := cX1_append) (maxL := 6) (ret := (some .int)) (by decide +kernel) rfl ?_
  intro p e s m args below meth c s₁ B hml hv
  obtain ⟨rfl, hC, hP⟩ := hv
  have C0 : g_mc p s m _ meth c RX1 cX1_append (some .int) 6 G := ⟨B.exec, B.bytes, B.returns, hml, findClass_of_methodNamed B.named, fun w h => atoms_spec (ws := wz yX1_append cX1_append 6 (some .int)) B.pre w (List.mem_cons_of_mem _ h), B.notSynchronized, hC⟩
  have hl := lv_entry ([.ref (G.2.1 1 t0), .int x1, .int x2, .int x3, .int x4]) (n := 6) (Nat.le_of_ble_eq_true rfl)
  rw [lg_entry_eq]
  generalize (lg_sl ([.ref (G.2.1 1 t0), .int x1, .int x2, .int x3, .int x4]) ++ List.replicate (6 - (lg_sl ([.ref (G.2.1 1 t0), .int x1, .int x2, .int x3, .int x4])).length) Slot.unset).toArray = ls at hl ⊢
  exact wk_X1_append C0  t0 ht0 x1 x2 x3 x4 X hf hP va_S.rf hl
abbrev rm_X11_tell : Room := { frames := 2, cells := 0, slots := 0, locals := 46 }
def fn_X11_tell (x1 : Int32) (x2 : Int32) (x3 : Int32) (x4 : Int32) (x5 : Int32) (X : SM) : Option (Int32 × SM) :=
  g_let (fn_X11_isThread x1) fun r_1 =>
  if r_1 = 0 then
  (some ((-1), X))
  else
  (if g_in x1 6 then
    g_let ((6 * 0 + (x1.toNatClampNeg))) fun t6_6 =>
    (fn_X1_suits t6_6 x2 x3 x4 x5 X).bind fun r_7 =>
    if r_7 = 0 then
    (some ((-1), X))
    else
    ((fn_X1_append t6_6 x2 x3 x4 x5 X).bind fun (r_10, X_11) =>
      some (r_10, X_11))
    else none)
set_option maxRecDepth 100000 in
set_option maxHeartbeats 4000000 in
theorem wk_X11_tell {p : Program} {l : Launch} {e : Env} {s : State} {m : MethodId} {args : Array Value} {below : List Frame} {meth : Method} {c : Code} {G : GP} {M : SM} {τ : SL} (C0 : g_mc p s m args meth c RX11 cX11_tell (some .int) 7 G) {r0 : Int32} {X0 : SM} (x1 : Int32) (x2 : Int32) (x3 : Int32) (x4 : Int32) (x5 : Int32) (X : SM) (hf : fn_X11_tell x1 x2 x3 x4 x5 X = some (r0, X0)) {H : Heap} {locs : List Loc} (hP : va_P G.1 g_cl (wd G (cb X M) τ) H) (hS : va_S (g_A G) s.heap H locs) {ls : Array Slot} (hl : lv_has ls 7 [(0, .ref (G.2.1 11 0)), (1, .int x1), (2, .int x2), (3, .int x3), (4, .int x4), (5, .int x5)]) : W p l e rm_X11_tell s m args below meth c H locs 0 0 (MQ below (va_Qi (fun r u => r = r0 ∧ u = (X0, M, τ)) (g_pw G) (g_A G)) args s 0 0 (g_A G)) (F0 m 0 ls []) := by
  obtain ⟨hx, hb, hr, hml, hown, hts, hlocks, hC⟩ := id C0
  unfold fn_X11_tell at hf
  refine lv_iload_n hx hb dX11_tell_0 rfl (lv_at hl 1 rfl) ?_
  obtain ⟨r_1, hc_2, hf⟩ := g_letE hf
  refine x_calli (v := (X, M, τ)) (va_runS (As := [.int x1]) (rest := []) ⟨hx, hb, hml, hown, hts⟩ (ct_X11_isThread l G X M τ x1 hc_2) (cwS 1 hts gd_X11_56 rfl rfl rfl hd_X11_isThread ⟨Nat.le_of_ble_eq_true rfl, Nat.le_of_ble_eq_true rfl⟩) (x_pre (u := (X, M, τ)) hC hS hP) rfl rfl hl.1 rfl (lv_room (Nat.le_of_ble_eq_true rfl)) dX11_tell_1 ⟨Nat.zero_le _, Nat.zero_le _⟩) hS (fun H locs hP hS => ?_)
  refine lv_if_ne (tgt := 9) hx hb dX11_tell_4 (by decide) (fun hc_3 => ?_) (fun hc_3 => ?_)
  · have hf := g_neg hf hc_3
    refine lv_aload_n hx hb dX11_tell_9 rfl (lv_at hl 0 rfl) ?_
    refine gt_11_2 hx hb hts hown hC hP Nat.zero_lt_one q2_0 dX11_tell_10 ?_
    refine gt_7_0 hx hb hts hown hC hP (by decide) q7_21 dX11_tell_13 ?_
    refine lv_iload_n hx hb dX11_tell_16 rfl (lv_at hl 1 rfl) ?_
    obtain ⟨hg_4, hf⟩ := g_gd hf
    have hq_5 : 6 * 0 + (x1.toNatClampNeg) < 12 := by have h8 := g_in_lt (n := 6) hg_4; have h9 : 0 < 2 := (by decide); omega
    refine xaldS hx hb hC hP (by decide) hg_4 dX11_tell_17 ?_
    refine gt_9_1 hx hb hts hown hC hP hq_5 q7_22 dX11_tell_18 ?_
    obtain ⟨t6_6, et6_6, hf⟩ := g_letE hf
    refine lv_toprE et6_6 ?_
    have ht6_6 : t6_6 < 12 := by rw [← et6_6]; exact hq_5
    refine lv_astore (lv' := [(6, .ref (G.2.1 1 t6_6)), (0, .ref (G.2.1 11 0)), (1, .int x1), (2, .int x2), (3, .int x3), (4, .int x4), (5, .int x5)]) hx hb dX11_tell_21 hl (by decide) rfl (fun ls hl => ?_)
    refine lv_aload hx hb dX11_tell_23 (lv_at hl 0 rfl) ?_
    refine lv_iload_n hx hb dX11_tell_25 rfl (lv_at hl 3 rfl) ?_
    refine lv_iload_n hx hb dX11_tell_26 rfl (lv_at hl 4 rfl) ?_
    refine lv_iload hx hb dX11_tell_27 (lv_at hl 5 rfl) ?_
    refine lv_iload hx hb dX11_tell_29 (lv_at hl 6 rfl) ?_
    obtain ⟨r_7, hc_8, hf⟩ := g_bindE hf
    refine x_calli (v := (X, M, τ)) (va_runV (As := [.int x2, .int x3, .int x4, .int x5]) (rest := []) ⟨hx, hb, hml, hown, hts⟩ (ct_X1_suits l G X M τ t6_6 ht6_6 x2 x3 x4 x5 hc_8) (cwV 4 hts gd_X11_70 rfl rfl rfl hd_X1_suits ⟨Nat.le_of_ble_eq_true rfl, Nat.le_of_ble_eq_true rfl⟩) (x_preV (u := (X, M, τ)) (k := 1) (ci := 1) hC hS hP ht6_6 rfl rfl) rfl rfl hl.1 rfl (lv_room (Nat.le_of_ble_eq_true rfl)) dX11_tell_31 ⟨Nat.zero_le _, Nat.zero_le _⟩) hS (fun H locs hP hS => ?_)
    refine lv_if_eq (tgt := 51) hx hb dX11_tell_34 (by decide) (fun hc_9 => ?_) (fun hc_9 => ?_)
    · have hf := g_pos hf hc_9
      refine lv_iconst (v := (-1)) hx hb dX11_tell_51 (by decide) ?_
      cases hf
      exact x_iret hx hb hlocks hC hP hS hr dX11_tell_52
    · have hf := g_neg hf hc_9
      refine lv_aload hx hb dX11_tell_37 (lv_at hl 0 rfl) ?_
      refine lv_iload_n hx hb dX11_tell_39 rfl (lv_at hl 3 rfl) ?_
      refine lv_iload_n hx hb dX11_tell_40 rfl (lv_at hl 4 rfl) ?_
      refine lv_iload hx hb dX11_tell_41 (lv_at hl 5 rfl) ?_
      refine lv_iload hx hb dX11_tell_43 (lv_at hl 6 rfl) ?_
      obtain ⟨⟨r_10, X_11⟩, hc_12, hf⟩ := g_bindE hf
      refine x_calli (v := (X_11, M, τ)) (va_runV (As := [.int x2, .int x3, .int x4, .int x5]) (rest := []) ⟨hx, hb, hml, hown, hts⟩ (ct_X1_append l G X M τ t6_6 ht6_6 x2 x3 x4 x5 hc_12) (cwV 4 hts gd_X11_76 rfl rfl rfl hd_X1_append ⟨Nat.le_of_ble_eq_true rfl, Nat.le_of_ble_eq_true rfl⟩) (x_preV (u := (X, M, τ)) (k := 1) (ci := 1) hC hS hP ht6_6 rfl rfl) rfl rfl hl.1 rfl (lv_room (Nat.le_of_ble_eq_true rfl)) dX11_tell_45 ⟨Nat.zero_le _, Nat.zero_le _⟩) hS (fun H locs hP hS => ?_)
      refine lv_goto (tgt := 52) hx hb dX11_tell_48 (by decide) ?_
      cases hf
      exact x_iret hx hb hlocks hC hP hS hr dX11_tell_52
  · have hf := g_pos hf hc_3
    refine lv_iconst (v := (-1)) hx hb dX11_tell_7 (by decide) ?_
    cases hf
    exact x_iret hx hb hlocks hC hP hS hr dX11_tell_8
set_option maxRecDepth 100000 in
set_option maxHeartbeats 4000000 in
theorem ct_X11_tell (l : Launch) (G : GP) (X M : SM) (τ : SL) (x1 : Int32) (x2 : Int32) (x3 : Int32) (x4 : Int32) (x5 : Int32) {r0 : Int32} {X0 : SM} (hf : fn_X11_tell x1 x2 x3 x4 x5 X = some (r0, X0)) : Met l yX11_tell (wz yX11_tell cX11_tell 7 (some .int)) rm_X11_tell (va_Pc [.ref (G.2.1 11 0), .int x1, .int x2, .int x3, .int x4, .int x5] (g_pw G (X, M, τ))) (va_Qi (fun r u => r = r0 ∧ u = (X0, M, τ)) (g_pw G) (g_A G)) 0 0 (g_A G) := by
  refine Met.ofW (cc := cX11_tell) (maxL := 7) (ret := (some .int)) (by decide +kernel) rfl ?_
  intro p e s m args below meth c s₁ B hml hv
  obtain ⟨rfl, hC, hP⟩ := hv
  have C0 : g_mc p s m _ meth c RX11 cX11_tell (some .int) 7 G := ⟨B.exec, B.bytes, B.returns, hml, findClass_of_methodNamed B.named, fun w h => atoms_spec (ws := wz yX11_tell cX11_tell 7 (some .int)) B.pre w (List.mem_cons_of_mem _ h), B.notSynchronized, hC⟩
  have hl := lv_entry ([.ref (G.2.1 11 0), .int x1, .int x2, .int x3, .int x4, .int x5]) (n := 7) (Nat.le_of_ble_eq_true rfl)
  rw [lg_entry_eq]
  generalize (lg_sl ([.ref (G.2.1 11 0), .int x1, .int x2, .int x3, .int x4, .int x5]) ++ List.replicate (7 - (lg_sl ([.ref (G.2.1 11 0), .int x1, .int x2, .int x3, .int x4, .int x5])).length) Slot.unset).toArray = ls at hl ⊢
  exact wk_X11_tell C0  x1 x2 x3 x4 x5 X hf hP va_S.rf hl
abbrev rm_X11_thread : Room := { frames := 1, cells := 0, slots := 0, locals := 20 }
def fn_X11_thread (x1 : Int32) (x2 : Int32) (X : SM) : Option (Int32) :=
  g_let (fn_X11_isThread x1) fun r_1 =>
  if r_1 = 0 then
  (some (-2))
  else
  (if g_in x1 6 then
    g_let ((6 * 0 + (x1.toNatClampNeg))) fun t3_6 =>
    if x2 = 0 then
    (some (X 9 t3_6 9))
    else
    (if x2 = 1 then
      (some (X 9 t3_6 8))
      else
      (if x2 = 2 then
        (some (X 9 t3_6 10))
        else
        (if x2 = 3 then
          (some (X 9 t3_6 11))
          else
          (if x2 = 4 then
            (some (X 9 t3_6 12))
            else
            (if x2 = 5 then
              (some (X 9 t3_6 13))
              else
              (if x2 = 6 then
                (if (X 9 t3_6 9) = 1 then
                  (some (X 4 t3_6 4))
                  else
                  (some (-1)))
                else
                (if x2 = 7 then
                  (some (X 9 t3_6 14))
                  else
                  (if x2 = 8 then
                    (some (X 1 t3_6 4))
                    else
                    (if x2 = 9 then
                      (if (X 9 t3_6 7) = 0 then
                        (some 0)
                        else
                        (some 1))
                      else
                      (if x2 = 10 then
                        (some (X 9 t3_6 6))
                        else
                        (if x2 = 11 then
                          (if g_in x1 6 then
                            some (X 35 0 (x1.toNatClampNeg))
                            else none)
                          else
                          (if x2 = 12 then
                            (if g_in x1 6 then
                              some (X 36 0 (x1.toNatClampNeg))
                              else none)
                            else
                            (some (-2))))))))))))))
    else none)
set_option maxRecDepth 100000 in
set_option maxHeartbeats 4000000 in
theorem wk_X11_thread {p : Program} {l : Launch} {e : Env} {s : State} {m : MethodId} {args : Array Value} {below : List Frame} {meth : Method} {c : Code} {G : GP} {M : SM} {τ : SL} (C0 : g_mc p s m args meth c RX11 cX11_thread (some .int) 4 G) {r0 : Int32} (x1 : Int32) (x2 : Int32) (X : SM) (hf : fn_X11_thread x1 x2 X = some r0) {H : Heap} {locs : List Loc} (hP : va_P G.1 g_cl (wd G (cb X M) τ) H) (hS : va_S (g_A G) s.heap H locs) {ls : Array Slot} (hl : lv_has ls 4 [(0, .ref (G.2.1 11 0)), (1, .int x1), (2, .int x2)]) : W p l e rm_X11_thread s m args below meth c H locs 0 0 (MQ below (va_Qi (fun r u => r = r0 ∧ u = (X, M, τ)) (g_pw G) (g_A G)) args s 0 0 (g_A G)) (F0 m 0 ls []) := by
  obtain ⟨hx, hb, hr, hml, hown, hts, hlocks, hC⟩ := id C0
  unfold fn_X11_thread at hf
  refine lv_iload_n hx hb dX11_thread_0 rfl (lv_at hl 1 rfl) ?_
  obtain ⟨r_1, hc_2, hf⟩ := g_letE hf
  refine x_calli (v := (X, M, τ)) (va_runS (As := [.int x1]) (rest := []) ⟨hx, hb, hml, hown, hts⟩ (ct_X11_isThread l G X M τ x1 hc_2) (cwS 1 hts gd_X11_56 rfl rfl rfl hd_X11_isThread ⟨Nat.le_of_ble_eq_true rfl, Nat.le_of_ble_eq_true rfl⟩) (x_pre (u := (X, M, τ)) hC hS hP) rfl rfl hl.1 rfl (lv_room (Nat.le_of_ble_eq_true rfl)) dX11_thread_1 ⟨Nat.zero_le _, Nat.zero_le _⟩) hS (fun H locs hP hS => ?_)
  refine lv_if_ne (tgt := 10) hx hb dX11_thread_4 (by decide) (fun hc_3 => ?_) (fun hc_3 => ?_)
  · have hf := g_neg hf hc_3
    refine lv_aload_n hx hb dX11_thread_10 rfl (lv_at hl 0 rfl) ?_
    refine gt_11_2 hx hb hts hown hC hP Nat.zero_lt_one q2_0 dX11_thread_11 ?_
    refine gt_7_0 hx hb hts hown hC hP (by decide) q7_21 dX11_thread_14 ?_
    refine lv_iload_n hx hb dX11_thread_17 rfl (lv_at hl 1 rfl) ?_
    obtain ⟨hg_4, hf⟩ := g_gd hf
    have hq_5 : 6 * 0 + (x1.toNatClampNeg) < 12 := by have h8 := g_in_lt (n := 6) hg_4; have h9 : 0 < 2 := (by decide); omega
    refine xaldS hx hb hC hP (by decide) hg_4 dX11_thread_18 ?_
    obtain ⟨t3_6, et3_6, hf⟩ := g_letE hf
    refine lv_toprE et3_6 ?_
    have ht3_6 : t3_6 < 12 := by rw [← et3_6]; exact hq_5
    refine lv_astore_n (lv' := [(3, .ref (G.2.1 9 t3_6)), (0, .ref (G.2.1 11 0)), (1, .int x1), (2, .int x2)]) hx hb dX11_thread_19 rfl hl (by decide) rfl (fun ls hl => ?_)
    refine lv_iload_n hx hb dX11_thread_20 rfl (lv_at hl 3 rfl) ?_
    by_cases hs21_0 : x2 = 0
    · have hf := g_pos hf hs21_0
      refine lv_tableIn (off := 67) (tgt := 88) hx hb dX11_thread_21 (by rw [hs21_0]; decide) (by rw [hs21_0]; decide) (by rw [hs21_0]; rfl) (by decide) ?_
      refine lv_aload_n hx hb dX11_thread_88 rfl (lv_at hl 0 rfl) ?_
      refine gt_9_9 hx hb hts hown hC hP ht3_6 q32_20 dX11_thread_89 ?_
      cases hf
      exact x_iret hx hb hlocks hC hP hS hr dX11_thread_92
    · have hf := g_neg hf hs21_0
      by_cases hs21_1 : x2 = 1
      · have hf := g_pos hf hs21_1
        refine lv_tableIn (off := 72) (tgt := 93) hx hb dX11_thread_21 (by rw [hs21_1]; decide) (by rw [hs21_1]; decide) (by rw [hs21_1]; rfl) (by decide) ?_
        refine lv_aload_n hx hb dX11_thread_93 rfl (lv_at hl 0 rfl) ?_
        refine gt_9_8 hx hb hts hown hC hP ht3_6 q32_21 dX11_thread_94 ?_
        cases hf
        exact x_iret hx hb hlocks hC hP hS hr dX11_thread_97
      · have hf := g_neg hf hs21_1
        by_cases hs21_2 : x2 = 2
        · have hf := g_pos hf hs21_2
          refine lv_tableIn (off := 77) (tgt := 98) hx hb dX11_thread_21 (by rw [hs21_2]; decide) (by rw [hs21_2]; decide) (by rw [hs21_2]; rfl) (by decide) ?_
          refine lv_aload_n hx hb dX11_thread_98 rfl (lv_at hl 0 rfl) ?_
          refine gt_9_10 hx hb hts hown hC hP ht3_6 q32_22 dX11_thread_99 ?_
          cases hf
          exact x_iret hx hb hlocks hC hP hS hr dX11_thread_102
        · have hf := g_neg hf hs21_2
          by_cases hs21_3 : x2 = 3
          · have hf := g_pos hf hs21_3
            refine lv_tableIn (off := 82) (tgt := 103) hx hb dX11_thread_21 (by rw [hs21_3]; decide) (by rw [hs21_3]; decide) (by rw [hs21_3]; rfl) (by decide) ?_
            refine lv_aload_n hx hb dX11_thread_103 rfl (lv_at hl 0 rfl) ?_
            refine gt_9_11 hx hb hts hown hC hP ht3_6 q32_23 dX11_thread_104 ?_
            cases hf
            exact x_iret hx hb hlocks hC hP hS hr dX11_thread_107
          · have hf := g_neg hf hs21_3
            by_cases hs21_4 : x2 = 4
            · have hf := g_pos hf hs21_4
              refine lv_tableIn (off := 87) (tgt := 108) hx hb dX11_thread_21 (by rw [hs21_4]; decide) (by rw [hs21_4]; decide) (by rw [hs21_4]; rfl) (by decide) ?_
              refine lv_aload_n hx hb dX11_thread_108 rfl (lv_at hl 0 rfl) ?_
              refine gt_9_12 hx hb hts hown hC hP ht3_6 q33_0 dX11_thread_109 ?_
              cases hf
              exact x_iret hx hb hlocks hC hP hS hr dX11_thread_112
            · have hf := g_neg hf hs21_4
              by_cases hs21_5 : x2 = 5
              · have hf := g_pos hf hs21_5
                refine lv_tableIn (off := 92) (tgt := 113) hx hb dX11_thread_21 (by rw [hs21_5]; decide) (by rw [hs21_5]; decide) (by rw [hs21_5]; rfl) (by decide) ?_
                refine lv_aload_n hx hb dX11_thread_113 rfl (lv_at hl 0 rfl) ?_
                refine gt_9_13 hx hb hts hown hC hP ht3_6 q33_1 dX11_thread_114 ?_
                cases hf
                exact x_iret hx hb hlocks hC hP hS hr dX11_thread_117
              · have hf := g_neg hf hs21_5
                by_cases hs21_6 : x2 = 6
                · have hf := g_pos hf hs21_6
                  refine lv_tableIn (off := 97) (tgt := 118) hx hb dX11_thread_21 (by rw [hs21_6]; decide) (by rw [hs21_6]; decide) (by rw [hs21_6]; rfl) (by decide) ?_
                  refine lv_aload_n hx hb dX11_thread_118 rfl (lv_at hl 0 rfl) ?_
                  refine gt_9_9 hx hb hts hown hC hP ht3_6 q32_20 dX11_thread_119 ?_
                  refine lv_iconst (v := 1) hx hb dX11_thread_122 (by decide) ?_
                  refine lv_icmp_ne (tgt := 136) hx hb dX11_thread_123 (by decide) (fun hc_10 => ?_) (fun hc_10 => ?_)
                  · have hf := g_neg hf hc_10
                    refine lv_iconst (v := (-1)) hx hb dX11_thread_136 (by decide) ?_
                    cases hf
                    exact x_iret hx hb hlocks hC hP hS hr dX11_thread_137
                  · have hf := g_pos hf hc_10
                    refine lv_aload_n hx hb dX11_thread_126 rfl (lv_at hl 0 rfl) ?_
                    refine gt_9_2 hx hb hts hown hC hP ht3_6 q33_2 dX11_thread_127 ?_
                    refine gt_4_4 hx hb hts hown hC hP ht3_6 q33_3 dX11_thread_130 ?_
                    refine lv_goto (tgt := 137) hx hb dX11_thread_133 (by decide) ?_
                    cases hf
                    exact x_iret hx hb hlocks hC hP hS hr dX11_thread_137
                · have hf := g_neg hf hs21_6
                  by_cases hs21_7 : x2 = 7
                  · have hf := g_pos hf hs21_7
                    refine lv_tableIn (off := 117) (tgt := 138) hx hb dX11_thread_21 (by rw [hs21_7]; decide) (by rw [hs21_7]; decide) (by rw [hs21_7]; rfl) (by decide) ?_
                    refine lv_aload_n hx hb dX11_thread_138 rfl (lv_at hl 0 rfl) ?_
                    refine gt_9_14 hx hb hts hown hC hP ht3_6 q33_4 dX11_thread_139 ?_
                    cases hf
                    exact x_iret hx hb hlocks hC hP hS hr dX11_thread_142
                  · have hf := g_neg hf hs21_7
                    by_cases hs21_8 : x2 = 8
                    · have hf := g_pos hf hs21_8
                      refine lv_tableIn (off := 122) (tgt := 143) hx hb dX11_thread_21 (by rw [hs21_8]; decide) (by rw [hs21_8]; decide) (by rw [hs21_8]; rfl) (by decide) ?_
                      refine lv_aload_n hx hb dX11_thread_143 rfl (lv_at hl 0 rfl) ?_
                      refine gt_9_1 hx hb hts hown hC hP ht3_6 q7_22 dX11_thread_144 ?_
                      refine gt_1_4 hx hb hts hown hC hP ht3_6 q33_5 dX11_thread_147 ?_
                      cases hf
                      exact x_iret hx hb hlocks hC hP hS hr dX11_thread_150
                    · have hf := g_neg hf hs21_8
                      by_cases hs21_9 : x2 = 9
                      · have hf := g_pos hf hs21_9
                        refine lv_tableIn (off := 130) (tgt := 151) hx hb dX11_thread_21 (by rw [hs21_9]; decide) (by rw [hs21_9]; decide) (by rw [hs21_9]; rfl) (by decide) ?_
                        refine lv_aload_n hx hb dX11_thread_151 rfl (lv_at hl 0 rfl) ?_
                        refine gt_9_7 hx hb hts hown hC hP ht3_6 q11_12 dX11_thread_152 ?_
                        refine lv_if_eq (tgt := 162) hx hb dX11_thread_155 (by decide) (fun hc_9 => ?_) (fun hc_9 => ?_)
                        · have hf := g_pos hf hc_9
                          refine lv_iconst (v := 0) hx hb dX11_thread_162 (by decide) ?_
                          cases hf
                          exact x_iret hx hb hlocks hC hP hS hr dX11_thread_163
                        · have hf := g_neg hf hc_9
                          refine lv_iconst (v := 1) hx hb dX11_thread_158 (by decide) ?_
                          refine lv_goto (tgt := 163) hx hb dX11_thread_159 (by decide) ?_
                          cases hf
                          exact x_iret hx hb hlocks hC hP hS hr dX11_thread_163
                      · have hf := g_neg hf hs21_9
                        by_cases hs21_10 : x2 = 10
                        · have hf := g_pos hf hs21_10
                          refine lv_tableIn (off := 143) (tgt := 164) hx hb dX11_thread_21 (by rw [hs21_10]; decide) (by rw [hs21_10]; decide) (by rw [hs21_10]; rfl) (by decide) ?_
                          refine lv_aload_n hx hb dX11_thread_164 rfl (lv_at hl 0 rfl) ?_
                          refine gt_9_6 hx hb hts hown hC hP ht3_6 q11_1 dX11_thread_165 ?_
                          cases hf
                          exact x_iret hx hb hlocks hC hP hS hr dX11_thread_168
                        · have hf := g_neg hf hs21_10
                          by_cases hs21_11 : x2 = 11
                          · have hf := g_pos hf hs21_11
                            refine lv_tableIn (off := 148) (tgt := 169) hx hb dX11_thread_21 (by rw [hs21_11]; decide) (by rw [hs21_11]; decide) (by rw [hs21_11]; rfl) (by decide) ?_
                            refine lv_aload_n hx hb dX11_thread_169 rfl (lv_at hl 1 rfl) ?_
                            refine gt_11_6 hx hb hts hown hC hP Nat.zero_lt_one q2_11 dX11_thread_170 ?_
                            refine lv_iload_n hx hb dX11_thread_173 rfl (lv_at hl 2 rfl) ?_
                            obtain ⟨hg_8, hf⟩ := g_gd hf
                            refine xildX (k := 35) (n := 6) hx hb hC hP (fun _ _ => rfl) rfl Nat.zero_lt_one hg_8 dX11_thread_174 ?_
                            cases hf
                            exact x_iret hx hb hlocks hC hP hS hr dX11_thread_175
                          · have hf := g_neg hf hs21_11
                            by_cases hs21_12 : x2 = 12
                            · have hf := g_pos hf hs21_12
                              refine lv_tableIn (off := 155) (tgt := 176) hx hb dX11_thread_21 (by rw [hs21_12]; decide) (by rw [hs21_12]; decide) (by rw [hs21_12]; rfl) (by decide) ?_
                              refine lv_aload_n hx hb dX11_thread_176 rfl (lv_at hl 1 rfl) ?_
                              refine gt_11_7 hx hb hts hown hC hP Nat.zero_lt_one q2_12 dX11_thread_177 ?_
                              refine lv_iload_n hx hb dX11_thread_180 rfl (lv_at hl 2 rfl) ?_
                              obtain ⟨hg_7, hf⟩ := g_gd hf
                              refine xildX (k := 36) (n := 6) hx hb hC hP (fun _ _ => rfl) rfl Nat.zero_lt_one hg_7 dX11_thread_181 ?_
                              cases hf
                              exact x_iret hx hb hlocks hC hP hS hr dX11_thread_182
                            · have hf := g_neg hf hs21_12
                              have nhs21_0 : x2.toInt ≠ 0 := fun h => hs21_0 (Int32.toInt_inj.mp (by rw [h]; rfl))
                              have nhs21_1 : x2.toInt ≠ 1 := fun h => hs21_1 (Int32.toInt_inj.mp (by rw [h]; rfl))
                              have nhs21_2 : x2.toInt ≠ 2 := fun h => hs21_2 (Int32.toInt_inj.mp (by rw [h]; rfl))
                              have nhs21_3 : x2.toInt ≠ 3 := fun h => hs21_3 (Int32.toInt_inj.mp (by rw [h]; rfl))
                              have nhs21_4 : x2.toInt ≠ 4 := fun h => hs21_4 (Int32.toInt_inj.mp (by rw [h]; rfl))
                              have nhs21_5 : x2.toInt ≠ 5 := fun h => hs21_5 (Int32.toInt_inj.mp (by rw [h]; rfl))
                              have nhs21_6 : x2.toInt ≠ 6 := fun h => hs21_6 (Int32.toInt_inj.mp (by rw [h]; rfl))
                              have nhs21_7 : x2.toInt ≠ 7 := fun h => hs21_7 (Int32.toInt_inj.mp (by rw [h]; rfl))
                              have nhs21_8 : x2.toInt ≠ 8 := fun h => hs21_8 (Int32.toInt_inj.mp (by rw [h]; rfl))
                              have nhs21_9 : x2.toInt ≠ 9 := fun h => hs21_9 (Int32.toInt_inj.mp (by rw [h]; rfl))
                              have nhs21_10 : x2.toInt ≠ 10 := fun h => hs21_10 (Int32.toInt_inj.mp (by rw [h]; rfl))
                              have nhs21_11 : x2.toInt ≠ 11 := fun h => hs21_11 (Int32.toInt_inj.mp (by rw [h]; rfl))
                              have nhs21_12 : x2.toInt ≠ 12 := fun h => hs21_12 (Int32.toInt_inj.mp (by rw [h]; rfl))
                              refine lv_tableOut (tgt := 183) hx hb dX11_thread_21 (by omega) (by decide) ?_
                              refine lv_bipush (v := (-2)) hx hb dX11_thread_183 (by decide) ?_
                              cases hf
                              exact x_iret hx hb hlocks hC hP hS hr dX11_thread_185
  · have hf := g_pos hf hc_3
    refine lv_bipush (v := (-2)) hx hb dX11_thread_7 (by decide) ?_
    cases hf
    exact x_iret hx hb hlocks hC hP hS hr dX11_thread_9
set_option maxRecDepth 100000 in
set_option maxHeartbeats 4000000 in
theorem ct_X11_thread (l : Launch) (G : GP) (X M : SM) (τ : SL) (x1 : Int32) (x2 : Int32) {r0 : Int32} (hf : fn_X11_thread x1 x2 X = some r0) : Met l yX11_thread (wz yX11_thread cX11_thread 4 (some .int)) rm_X11_thread (va_Pc [.ref (G.2.1 11 0), .int x1, .int x2] (g_pw G (X, M, τ))) (va_Qi (fun r u => r = r0 ∧ u = (X, M, τ)) (g_pw G) (g_A G)) 0 0 (g_A G) := by
  refine Met.ofW (cc := cX11_thread) (maxL := 4) (ret := (some .int)) (by decide +kernel) rfl ?_
  intro p e s m args below meth c s₁ B hml hv
  obtain ⟨rfl, hC, hP⟩ := hv
  have C0 : g_mc p s m _ meth c RX11 cX11_thread (some .int) 4 G := ⟨B.exec, B.bytes, B.returns, hml, findClass_of_methodNamed B.named, fun w h => atoms_spec (ws := wz yX11_thread cX11_thread 4 (some .int)) B.pre w (List.mem_cons_of_mem _ h), B.notSynchronized, hC⟩
  have hl := lv_entry ([.ref (G.2.1 11 0), .int x1, .int x2]) (n := 4) (Nat.le_of_ble_eq_true rfl)
  rw [lg_entry_eq]
  generalize (lg_sl ([.ref (G.2.1 11 0), .int x1, .int x2]) ++ List.replicate (4 - (lg_sl ([.ref (G.2.1 11 0), .int x1, .int x2])).length) Slot.unset).toArray = ls at hl ⊢
  exact wk_X11_thread C0  x1 x2 X hf hP va_S.rf hl
abbrev rm_X11_will : Room := { frames := 7, cells := 0, slots := 0, locals := 173 }
def fn_X11_will (x1 : Int32) (x2 : Int32) (X : SM) : Option (Int32 × SM) :=
  g_let (fn_X11_isThread x1) fun r_1 =>
  if r_1 = 0 then
  (some ((-1), X))
  else
  (if x2 < 1 then
    (some ((-1), X))
    else
    (if x2 ≤ 60 then
      ((fn_X7_copy 1 0 X).bind fun X_6 =>
        (fn_X11_tickOfInstruction 1 x1 x2 X_6).bind fun (r_8, X_9) =>
        some (r_8, X_9))
      else
      (some ((-1), X))))
set_option maxRecDepth 100000 in
set_option maxHeartbeats 4000000 in
theorem wk_X11_will {p : Program} {l : Launch} {e : Env} {s : State} {m : MethodId} {args : Array Value} {below : List Frame} {meth : Method} {c : Code} {G : GP} {M : SM} {τ : SL} (C0 : g_mc p s m args meth c RX11 cX11_will (some .int) 3 G) {r0 : Int32} {X0 : SM} (x1 : Int32) (x2 : Int32) (X : SM) (hf : fn_X11_will x1 x2 X = some (r0, X0)) {H : Heap} {locs : List Loc} (hP : va_P G.1 g_cl (wd G (cb X M) τ) H) (hS : va_S (g_A G) s.heap H locs) {ls : Array Slot} (hl : lv_has ls 3 [(0, .ref (G.2.1 11 0)), (1, .int x1), (2, .int x2)]) : W p l e rm_X11_will s m args below meth c H locs 0 0 (MQ below (va_Qi (fun r u => r = r0 ∧ u = (X0, M, τ)) (g_pw G) (g_A G)) args s 0 0 (g_A G)) (F0 m 0 ls []) := by
  obtain ⟨hx, hb, hr, hml, hown, hts, hlocks, hC⟩ := id C0
  unfold fn_X11_will at hf
  refine lv_iload_n hx hb dX11_will_0 rfl (lv_at hl 1 rfl) ?_
  obtain ⟨r_1, hc_2, hf⟩ := g_letE hf
  refine x_calli (v := (X, M, τ)) (va_runS (As := [.int x1]) (rest := []) ⟨hx, hb, hml, hown, hts⟩ (ct_X11_isThread l G X M τ x1 hc_2) (cwS 1 hts gd_X11_56 rfl rfl rfl hd_X11_isThread ⟨Nat.le_of_ble_eq_true rfl, Nat.le_of_ble_eq_true rfl⟩) (x_pre (u := (X, M, τ)) hC hS hP) rfl rfl hl.1 rfl (lv_room (Nat.le_of_ble_eq_true rfl)) dX11_will_1 ⟨Nat.zero_le _, Nat.zero_le _⟩) hS (fun H locs hP hS => ?_)
  refine lv_if_eq (tgt := 18) hx hb dX11_will_4 (by decide) (fun hc_3 => ?_) (fun hc_3 => ?_)
  · have hf := g_pos hf hc_3
    refine lv_iconst (v := (-1)) hx hb dX11_will_18 (by decide) ?_
    cases hf
    exact x_iret hx hb hlocks hC hP hS hr dX11_will_19
  · have hf := g_neg hf hc_3
    refine lv_iload_n hx hb dX11_will_7 rfl (lv_at hl 2 rfl) ?_
    refine lv_iconst (v := 1) hx hb dX11_will_8 (by decide) ?_
    refine lv_icmp_lt (tgt := 18) hx hb dX11_will_9 (by decide) (fun hc_4 => ?_) (fun hc_4 => ?_)
    · have hf := g_pos hf hc_4
      refine lv_iconst (v := (-1)) hx hb dX11_will_18 (by decide) ?_
      cases hf
      exact x_iret hx hb hlocks hC hP hS hr dX11_will_19
    · have hf := g_neg hf hc_4
      refine lv_iload_n hx hb dX11_will_12 rfl (lv_at hl 2 rfl) ?_
      refine lv_bipush (v := 60) hx hb dX11_will_13 (by decide) ?_
      refine lv_icmp_le (tgt := 20) hx hb dX11_will_15 (by decide) (fun hc_5 => ?_) (fun hc_5 => ?_)
      · have hf := g_pos hf hc_5
        refine lv_aload_n hx hb dX11_will_20 rfl (lv_at hl 0 rfl) ?_
        refine gt_11_3 hx hb hts hown hC hP Nat.zero_lt_one q2_1 dX11_will_21 ?_
        refine lv_aload_n hx hb dX11_will_24 rfl (lv_at hl 0 rfl) ?_
        refine gt_11_2 hx hb hts hown hC hP Nat.zero_lt_one q2_0 dX11_will_25 ?_
        obtain ⟨X_6, hc_7, hf⟩ := g_bindE hf
        refine x_callv (v := (X_6, M, τ)) (va_runV (As := [.ref (G.2.1 7 0)]) (rest := []) ⟨hx, hb, hml, hown, hts⟩ (ct_X7_copy l G X M τ 1 (by decide) 0 (by decide) hc_7) (cwV 1 hts gd_X11_249 rfl rfl rfl hd_X7_copy ⟨Nat.le_of_ble_eq_true rfl, Nat.le_of_ble_eq_true rfl⟩) (x_preV (u := (X, M, τ)) (k := 7) (ci := 7) hC hS hP (by decide) rfl rfl) rfl rfl hl.1 rfl (lv_room (Nat.le_of_ble_eq_true rfl)) dX11_will_28 ⟨Nat.zero_le _, Nat.zero_le _⟩) hS (fun H locs hP hS => ?_)
        refine lv_aload_n hx hb dX11_will_31 rfl (lv_at hl 0 rfl) ?_
        refine gt_11_3 hx hb hts hown hC hP Nat.zero_lt_one q2_1 dX11_will_32 ?_
        refine lv_iload_n hx hb dX11_will_35 rfl (lv_at hl 1 rfl) ?_
        refine lv_iload_n hx hb dX11_will_36 rfl (lv_at hl 2 rfl) ?_
        obtain ⟨⟨r_8, X_9⟩, hc_10, hf⟩ := g_bindE hf
        refine x_calli (v := (X_9, M, τ)) (va_runS (As := [.ref (G.2.1 7 1), .int x1, .int x2]) (rest := []) ⟨hx, hb, hml, hown, hts⟩ (ct_X11_tickOfInstruction l G X_6 M τ 1 (by decide) x1 x2 hc_10) (cwS 3 hts gd_X11_253 rfl rfl rfl hd_X11_tickOfInstruction ⟨Nat.le_of_ble_eq_true rfl, Nat.le_of_ble_eq_true rfl⟩) (x_pre (u := (X_6, M, τ)) hC hS hP) rfl rfl hl.1 rfl (lv_room (Nat.le_of_ble_eq_true rfl)) dX11_will_37 ⟨Nat.zero_le _, Nat.zero_le _⟩) hS (fun H locs hP hS => ?_)
        cases hf
        exact x_iret hx hb hlocks hC hP hS hr dX11_will_40
      · have hf := g_neg hf hc_5
        refine lv_iconst (v := (-1)) hx hb dX11_will_18 (by decide) ?_
        cases hf
        exact x_iret hx hb hlocks hC hP hS hr dX11_will_19
set_option maxRecDepth 100000 in
set_option maxHeartbeats 4000000 in
theorem ct_X11_will (l : Launch) (G : GP) (X M : SM) (τ : SL) (x1 : Int32) (x2 : Int32) {r0 : Int32} {X0 : SM} (hf : fn_X11_will x1 x2 X = some (r0, X0)) : Met l yX11_will (wz yX11_will cX11_will 3 (some .int)) rm_X11_will (va_Pc [.ref (G.2.1 11 0), .int x1, .int x2] (g_pw G (X, M, τ))) (va_Qi (fun r u => r = r0 ∧ u = (X0, M, τ)) (g_pw G) (g_A G)) 0 0 (g_A G) := by
  refine Met.ofW (cc := cX11_will) (maxL := 3) (ret := (some .int)) (by decide +kernel) rfl ?_
  intro p e s m args below meth c s₁ B hml hv
  obtain ⟨rfl, hC, hP⟩ := hv
  have C0 : g_mc p s m _ meth c RX11 cX11_will (some .int) 3 G := ⟨B.exec, B.bytes, B.returns, hml, findClass_of_methodNamed B.named, fun w h => atoms_spec (ws := wz yX11_will cX11_will 3 (some .int)) B.pre w (List.mem_cons_of_mem _ h), B.notSynchronized, hC⟩
  have hl := lv_entry ([.ref (G.2.1 11 0), .int x1, .int x2]) (n := 3) (Nat.le_of_ble_eq_true rfl)
  rw [lg_entry_eq]
  generalize (lg_sl ([.ref (G.2.1 11 0), .int x1, .int x2]) ++ List.replicate (3 - (lg_sl ([.ref (G.2.1 11 0), .int x1, .int x2])).length) Slot.unset).toArray = ls at hl ⊢
  exact wk_X11_will C0  x1 x2 X hf hP va_S.rf hl
abbrev rm_X11_wipe : Room := { frames := 4, cells := 0, slots := 0, locals := 85 }
def fn_X11_wipe (x1 : Int32) (X : SM) : Option (Int32 × SM) :=
  g_let (fn_X11_isThread x1) fun r_1 =>
  if r_1 = 0 then
  (some ((-1), X))
  else
  ((fn_X7_empty 0 x1 X).bind fun (r_4, X_5) =>
    some (r_4, X_5))
set_option maxRecDepth 100000 in
set_option maxHeartbeats 4000000 in
theorem wk_X11_wipe {p : Program} {l : Launch} {e : Env} {s : State} {m : MethodId} {args : Array Value} {below : List Frame} {meth : Method} {c : Code} {G : GP} {M : SM} {τ : SL} (C0 : g_mc p s m args meth c RX11 cX11_wipe (some .int) 2 G) {r0 : Int32} {X0 : SM} (x1 : Int32) (X : SM) (hf : fn_X11_wipe x1 X = some (r0, X0)) {H : Heap} {locs : List Loc} (hP : va_P G.1 g_cl (wd G (cb X M) τ) H) (hS : va_S (g_A G) s.heap H locs) {ls : Array Slot} (hl : lv_has ls 2 [(0, .ref (G.2.1 11 0)), (1, .int x1)]) : W p l e rm_X11_wipe s m args below meth c H locs 0 0 (MQ below (va_Qi (fun r u => r = r0 ∧ u = (X0, M, τ)) (g_pw G) (g_A G)) args s 0 0 (g_A G)) (F0 m 0 ls []) := by
  obtain ⟨hx, hb, hr, hml, hown, hts, hlocks, hC⟩ := id C0
  unfold fn_X11_wipe at hf
  refine lv_iload_n hx hb dX11_wipe_0 rfl (lv_at hl 1 rfl) ?_
  obtain ⟨r_1, hc_2, hf⟩ := g_letE hf
  refine x_calli (v := (X, M, τ)) (va_runS (As := [.int x1]) (rest := []) ⟨hx, hb, hml, hown, hts⟩ (ct_X11_isThread l G X M τ x1 hc_2) (cwS 1 hts gd_X11_56 rfl rfl rfl hd_X11_isThread ⟨Nat.le_of_ble_eq_true rfl, Nat.le_of_ble_eq_true rfl⟩) (x_pre (u := (X, M, τ)) hC hS hP) rfl rfl hl.1 rfl (lv_room (Nat.le_of_ble_eq_true rfl)) dX11_wipe_1 ⟨Nat.zero_le _, Nat.zero_le _⟩) hS (fun H locs hP hS => ?_)
  refine lv_if_eq (tgt := 18) hx hb dX11_wipe_4 (by decide) (fun hc_3 => ?_) (fun hc_3 => ?_)
  · have hf := g_pos hf hc_3
    refine lv_iconst (v := (-1)) hx hb dX11_wipe_18 (by decide) ?_
    cases hf
    exact x_iret hx hb hlocks hC hP hS hr dX11_wipe_19
  · have hf := g_neg hf hc_3
    refine lv_aload_n hx hb dX11_wipe_7 rfl (lv_at hl 0 rfl) ?_
    refine gt_11_2 hx hb hts hown hC hP Nat.zero_lt_one q2_0 dX11_wipe_8 ?_
    refine lv_iload_n hx hb dX11_wipe_11 rfl (lv_at hl 1 rfl) ?_
    obtain ⟨⟨r_4, X_5⟩, hc_6, hf⟩ := g_bindE hf
    refine x_calli (v := (X_5, M, τ)) (va_runV (As := [.int x1]) (rest := []) ⟨hx, hb, hml, hown, hts⟩ (ct_X7_empty l G X M τ 0 (by decide) x1 hc_6) (cwV 1 hts gd_X11_80 rfl rfl rfl hd_X7_empty ⟨Nat.le_of_ble_eq_true rfl, Nat.le_of_ble_eq_true rfl⟩) (x_preV (u := (X, M, τ)) (k := 7) (ci := 7) hC hS hP (by decide) rfl rfl) rfl rfl hl.1 rfl (lv_room (Nat.le_of_ble_eq_true rfl)) dX11_wipe_12 ⟨Nat.zero_le _, Nat.zero_le _⟩) hS (fun H locs hP hS => ?_)
    refine lv_goto (tgt := 19) hx hb dX11_wipe_15 (by decide) ?_
    cases hf
    exact x_iret hx hb hlocks hC hP hS hr dX11_wipe_19
set_option maxRecDepth 100000 in
set_option maxHeartbeats 4000000 in
theorem ct_X11_wipe (l : Launch) (G : GP) (X M : SM) (τ : SL) (x1 : Int32) {r0 : Int32} {X0 : SM} (hf : fn_X11_wipe x1 X = some (r0, X0)) : Met l yX11_wipe (wz yX11_wipe cX11_wipe 2 (some .int)) rm_X11_wipe (va_Pc [.ref (G.2.1 11 0), .int x1] (g_pw G (X, M, τ))) (va_Qi (fun r u => r = r0 ∧ u = (X0, M, τ)) (g_pw G) (g_A G)) 0 0 (g_A G) := by
  refine Met.ofW (cc := cX11_wipe) (maxL := 2) (ret := (some .int)) (by decide +kernel) rfl ?_
  intro p e s m args below meth c s₁ B hml hv
  obtain ⟨rfl, hC, hP⟩ := hv
  have C0 : g_mc p s m _ meth c RX11 cX11_wipe (some .int) 2 G := ⟨B.exec, B.bytes, B.returns, hml, findClass_of_methodNamed B.named, fun w h => atoms_spec (ws := wz yX11_wipe cX11_wipe 2 (some .int)) B.pre w (List.mem_cons_of_mem _ h), B.notSynchronized, hC⟩
  have hl := lv_entry ([.ref (G.2.1 11 0), .int x1]) (n := 2) (Nat.le_of_ble_eq_true rfl)
  rw [lg_entry_eq]
  generalize (lg_sl ([.ref (G.2.1 11 0), .int x1]) ++ List.replicate (2 - (lg_sl ([.ref (G.2.1 11 0), .int x1])).length) Slot.unset).toArray = ls at hl ⊢
  exact wk_X11_wipe C0  x1 X hf hP va_S.rf hl
