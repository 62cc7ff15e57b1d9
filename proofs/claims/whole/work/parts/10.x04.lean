abbrev rm_X9_stopBy : Room := { frames := 0, cells := 0, slots := 0, locals := 0 }
def fn_X9_stopBy (t0 : Nat) (x1 : Int32) (X : SM) : SM :=
  g_let (u1 X 9 t0 9 5) fun X_1 =>
  g_let (u1 X_1 9 t0 10 x1) fun X_2 =>
  X_2
set_option maxRecDepth 100000 in
set_option maxHeartbeats 4000000 in
theorem wk_X9_stopBy {p : Program} {l : Launch} {e : Env} {s : State} {m : MethodId} {args : Array Value} {below : List Frame} {meth : Method} {c : Code} {G : GP} {M : SM} {τ : SL} (C0 : g_mc p s m args meth c RX9 cX9_stopBy none 2 G) {X0 : SM} (t0 : Nat) (ht0 : t0 < 12) (x1 : Int32) (X : SM) (hf : fn_X9_stopBy t0 x1 X = X0) {H : Heap} {locs : List Loc} (hP : va_P G.1 g_cl (wd G (cb X M) τ) H) (hS : va_S (g_A G) s.heap H locs) {ls : Array Slot} (hl : lv_has ls 2 [(0, .ref (G.2.1 9 t0)), (1, .int x1)]) : W p l e rm_X9_stopBy s m args below meth c H locs 0 0 (MQ below (va_Qv (fun u => u = (X0, M, τ)) (g_pw G) (g_A G)) args s 0 0 (g_A G)) (F0 m 0 ls []) := by
  obtain ⟨hx, hb, hr, hml, hown, hts, hlocks, hC⟩ := id C0
  unfold fn_X9_stopBy at hf
  refine lv_aload_n hx hb dX9_stopBy_0 rfl (lv_at hl 0 rfl) ?_
  refine lv_iconst (v := 5) hx hb dX9_stopBy_1 (by decide) ?_
  obtain ⟨X_1, eX_1, hf⟩ := g_letE hf
  refine pt_9_9 hx hb hts hown hC hP hS ht0 q5_14 dX9_stopBy_2 (fun H locs hP hS => ?_)
  rw [eX_1] at hP
  refine lv_aload_n hx hb dX9_stopBy_5 rfl (lv_at hl 0 rfl) ?_
  refine lv_iload_n hx hb dX9_stopBy_6 rfl (lv_at hl 1 rfl) ?_
  obtain ⟨X_2, eX_2, hf⟩ := g_letE hf
  refine pt_9_10 hx hb hts hown hC hP hS ht0 q5_15 dX9_stopBy_7 (fun H locs hP hS => ?_)
  rw [eX_2] at hP
  cases hf
  exact x_vret hx hb hlocks hC hP hS hr dX9_stopBy_10
set_option maxRecDepth 100000 in
set_option maxHeartbeats 4000000 in
theorem ct_X9_stopBy (l : Launch) (G : GP) (X M : SM) (τ : SL) (t0 : Nat) (ht0 : t0 < 12) (x1 : Int32) {X0 : SM} (hf : fn_X9_stopBy t0 x1 X = X0) : Met l yX9_stopBy (wz yX9_stopBy cX9_stopBy 2 none) rm_X9_stopBy (va_Pc [.ref (G.2.1 9 t0), .int x1] (g_pw G (X, M, τ))) (va_Qv (fun u => u = (X0, M, τ)) (g_pw G) (g_A G)) 0 0 (g_A G) := by
  refine Met.ofW (cc := cX9_stopBy) (maxL := 2) (ret := none) (by decide +kernel) rfl ?_
  intro p e s m args below meth c s₁ B hml hv
  obtain ⟨rfl, hC, hP⟩ := hv
  have C0 : g_mc p s m _ meth c RX9 cX9_stopBy none 2 G := ⟨B.exec, B.bytes, B.returns, hml, findClass_of_methodNamed B.named, fun w h => atoms_spec (ws := wz yX9_stopBy cX9_stopBy 2 none) B.pre w (List.mem_cons_of_mem _ h), B.notSynchronized, hC⟩
  have hl := lv_entry ([.ref (G.2.1 9 t0), .int x1]) (n := 2) (Nat.le_of_ble_eq_true rfl)
  rw [lg_entry_eq]
  generalize (lg_sl ([.ref (G.2.1 9 t0), .int x1]) ++ List.replicate (2 - (lg_sl ([.ref (G.2.1 9 t0), .int x1])).length) Slot.unset).toArray = ls at hl ⊢
  exact wk_X9_stopBy C0  t0 ht0 x1 X hf hP va_S.rf hl
abbrev rm_X9_next : Room := { frames := 2, cells := 0, slots := 0, locals := 41 }
def wb_X9_next_22 (t0 : Nat) (x1 : Int32) (x2 : Int32) (x3 : Int32) (X : SM) : Option (Int32 × SM) :=
  if x1 = 9 then
  (g_let (fn_X1_has t0 (X 9 t0 8) X) fun r_7 =>
    if r_7 = 0 then
    (some (((X 9 t0 8) + 1), X))
    else
    (if g_in (X 9 t0 8) 24 then
      if x2 ≤ (X 33 t0 ((X 9 t0 8).toNatClampNeg)) then
      (if g_in (X 9 t0 8) 24 then
        g_let (u1 X 33 t0 ((X 9 t0 8).toNatClampNeg) 0) fun X_13 =>
        some (((X_13 9 t0 8) + 1), X_13)
        else none)
      else
      (if g_in (X 9 t0 8) 24 then
        if g_in (X 9 t0 8) 24 then
        g_let (u1 X 33 t0 ((X 9 t0 8).toNatClampNeg) ((X 33 t0 ((X 9 t0 8).toNatClampNeg)) + 1)) fun X_16 =>
        some (x3, X_16)
        else none
        else none)
      else none))
  else
  (some (((X 9 t0 8) + 1), X))
set_option maxRecDepth 100000 in
set_option maxHeartbeats 4000000 in
theorem bk_X9_next_22 {p : Program} {l : Launch} {e : Env} {s : State} {m : MethodId} {args : Array Value} {below : List Frame} {meth : Method} {c : Code} {G : GP} {M : SM} {τ : SL} (C0 : g_mc p s m args meth c RX9 cX9_next (some .int) 4 G) {r0 : Int32} {X0 : SM} (t0 : Nat) (ht0 : t0 < 12) (x1 : Int32) (x2 : Int32) (x3 : Int32) (X : SM) (hf : wb_X9_next_22 t0 x1 x2 x3 X = some (r0, X0)) {H : Heap} {locs : List Loc} (hP : va_P G.1 g_cl (wd G (cb X M) τ) H) (hS : va_S (g_A G) s.heap H locs) {ls : Array Slot} (hl : lv_has ls 4 [(0, .ref (G.2.1 9 t0)), (1, .int x1), (2, .int x2), (3, .int x3)]) : W p l e rm_X9_next s m args below meth c H locs 0 0 (MQ below (va_Qi (fun r u => r = r0 ∧ u = (X0, M, τ)) (g_pw G) (g_A G)) args s 0 0 (g_A G)) (F0 m 22 ls []) := by
  obtain ⟨hx, hb, hr, hml, hown, hts, hlocks, hC⟩ := id C0
  unfold wb_X9_next_22 at hf
  refine lv_iload_n hx hb dX9_next_22 rfl (lv_at hl 1 rfl) ?_
  refine lv_bipush (v := 9) hx hb dX9_next_23 (by decide) ?_
  refine lv_icmp_ne (tgt := 42) hx hb dX9_next_25 (by decide) (fun hc_6 => ?_) (fun hc_6 => ?_)
  · have hf := g_neg hf hc_6
    refine lv_aload_n hx hb dX9_next_42 rfl (lv_at hl 0 rfl) ?_
    refine gt_9_8 hx hb hts hown hC hP ht0 q10_7 dX9_next_43 ?_
    refine lv_iconst (v := 1) hx hb dX9_next_46 (by decide) ?_
    refine lv_iadd hx hb dX9_next_47 ?_
    cases hf
    exact x_iret hx hb hlocks hC hP hS hr dX9_next_48
  · have hf := g_pos hf hc_6
    refine lv_aload_n hx hb dX9_next_28 rfl (lv_at hl 0 rfl) ?_
    refine gt_9_1 hx hb hts hown hC hP ht0 q5_4 dX9_next_29 ?_
    refine lv_aload_n hx hb dX9_next_32 rfl (lv_at hl 0 rfl) ?_
    refine gt_9_8 hx hb hts hown hC hP ht0 q10_7 dX9_next_33 ?_
    obtain ⟨r_7, hc_8, hf⟩ := g_letE hf
    refine x_calli (v := (X, M, τ)) (va_runV (As := [.int (X 9 t0 8)]) (rest := []) ⟨hx, hb, hml, hown, hts⟩ (ct_X1_has l G X M τ t0 ht0 (X 9 t0 8) hc_8) (cwV 1 hts gd_X9_55 rfl rfl rfl hd_X1_has ⟨Nat.le_of_ble_eq_true rfl, Nat.le_of_ble_eq_true rfl⟩) (x_preV (u := (X, M, τ)) (k := 1) (ci := 1) hC hS hP ht0 rfl rfl) rfl rfl hl.1 rfl (lv_room (Nat.le_of_ble_eq_true rfl)) dX9_next_36 ⟨Nat.zero_le _, Nat.zero_le _⟩) hS (fun H locs hP hS => ?_)
    refine lv_if_ne (tgt := 49) hx hb dX9_next_39 (by decide) (fun hc_9 => ?_) (fun hc_9 => ?_)
    · have hf := g_neg hf hc_9
      refine lv_aload_n hx hb dX9_next_49 rfl (lv_at hl 0 rfl) ?_
      refine gt_9_5 hx hb hts hown hC hP ht0 q5_11 dX9_next_50 ?_
      refine lv_aload_n hx hb dX9_next_53 rfl (lv_at hl 0 rfl) ?_
      refine gt_9_8 hx hb hts hown hC hP ht0 q10_7 dX9_next_54 ?_
      obtain ⟨hg_10, hf⟩ := g_gd hf
      refine xildX (k := 33) (n := 24) hx hb hC hP (fun _ _ => rfl) rfl ht0 hg_10 dX9_next_57 ?_
      refine lv_iload_n hx hb dX9_next_58 rfl (lv_at hl 2 rfl) ?_
      refine lv_icmp_ge (tgt := 77) hx hb dX9_next_59 (by decide) (fun hc_11 => ?_) (fun hc_11 => ?_)
      · have hf := g_pos hf hc_11
        refine lv_aload_n hx hb dX9_next_77 rfl (lv_at hl 0 rfl) ?_
        refine gt_9_5 hx hb hts hown hC hP ht0 q5_11 dX9_next_78 ?_
        refine lv_aload_n hx hb dX9_next_81 rfl (lv_at hl 0 rfl) ?_
        refine gt_9_8 hx hb hts hown hC hP ht0 q10_7 dX9_next_82 ?_
        refine lv_iconst (v := 0) hx hb dX9_next_85 (by decide) ?_
        obtain ⟨hg_12, hf⟩ := g_gd hf
        obtain ⟨X_13, eX_13, hf⟩ := g_letE hf
        refine xistX (k := 33) (n := 24) hx hb hC hP hS (fun _ _ => rfl) rfl ht0 hg_12 dX9_next_86 (fun H locs hP hS => ?_)
        rw [eX_13] at hP
        refine lv_aload_n hx hb dX9_next_87 rfl (lv_at hl 0 rfl) ?_
        refine gt_9_8 hx hb hts hown hC hP ht0 q10_7 dX9_next_88 ?_
        refine lv_iconst (v := 1) hx hb dX9_next_91 (by decide) ?_
        refine lv_iadd hx hb dX9_next_92 ?_
        cases hf
        exact x_iret hx hb hlocks hC hP hS hr dX9_next_93
      · have hf := g_neg hf hc_11
        refine lv_aload_n hx hb dX9_next_62 rfl (lv_at hl 0 rfl) ?_
        refine gt_9_5 hx hb hts hown hC hP ht0 q5_11 dX9_next_63 ?_
        refine lv_aload_n hx hb dX9_next_66 rfl (lv_at hl 0 rfl) ?_
        refine gt_9_8 hx hb hts hown hC hP ht0 q10_7 dX9_next_67 ?_
        refine lv_dup2_11 hx hb dX9_next_70 rfl rfl ?_
        obtain ⟨hg_14, hf⟩ := g_gd hf
        refine xildX (k := 33) (n := 24) hx hb hC hP (fun _ _ => rfl) rfl ht0 hg_14 dX9_next_71 ?_
        refine lv_iconst (v := 1) hx hb dX9_next_72 (by decide) ?_
        refine lv_iadd hx hb dX9_next_73 ?_
        obtain ⟨hg_15, hf⟩ := g_gd hf
        obtain ⟨X_16, eX_16, hf⟩ := g_letE hf
        refine xistX (k := 33) (n := 24) hx hb hC hP hS (fun _ _ => rfl) rfl ht0 hg_15 dX9_next_74 (fun H locs hP hS => ?_)
        rw [eX_16] at hP
        refine lv_iload_n hx hb dX9_next_75 rfl (lv_at hl 3 rfl) ?_
        cases hf
        exact x_iret hx hb hlocks hC hP hS hr dX9_next_76
    · have hf := g_pos hf hc_9
      refine lv_aload_n hx hb dX9_next_42 rfl (lv_at hl 0 rfl) ?_
      refine gt_9_8 hx hb hts hown hC hP ht0 q10_7 dX9_next_43 ?_
      refine lv_iconst (v := 1) hx hb dX9_next_46 (by decide) ?_
      refine lv_iadd hx hb dX9_next_47 ?_
      cases hf
      exact x_iret hx hb hlocks hC hP hS hr dX9_next_48
def fn_X9_next (t0 : Nat) (x1 : Int32) (x2 : Int32) (x3 : Int32) (X : SM) : Option (Int32 × SM) :=
  if x1 = 7 then
  (some (x3, X))
  else
  (if x1 = 8 then
    ((fn_X9_read t0 x2 X).bind fun r_3 =>
      if r_3 = 0 then
      (wb_X9_next_22 t0 x1 x2 x3 X)
      else
      (some (x3, X)))
    else
    (wb_X9_next_22 t0 x1 x2 x3 X))
set_option maxRecDepth 100000 in
set_option maxHeartbeats 4000000 in
theorem wk_X9_next {p : Program} {l : Launch} {e : Env} {s : State} {m : MethodId} {args : Array Value} {below : List Frame} {meth : Method} {c : Code} {G : GP} {M : SM} {τ : SL} (C0 : g_mc p s m args meth c RX9 cX9_next (some .int) 4 G) {r0 : Int32} {X0 : SM} (t0 : Nat) (ht0 : t0 < 12) (x1 : Int32) (x2 : Int32) (x3 : Int32) (X : SM) (hf : fn_X9_next t0 x1 x2 x3 X = some (r0, X0)) {H : Heap} {locs : List Loc} (hP : va_P G.1 g_cl (wd G (cb X M) τ) H) (hS : va_S (g_A G) s.heap H locs) {ls : Array Slot} (hl : lv_has ls 4 [(0, .ref (G.2.1 9 t0)), (1, .int x1), (2, .int x2), (3, .int x3)]) : W p l e rm_X9_next s m args below meth c H locs 0 0 (MQ below (va_Qi (fun r u => r = r0 ∧ u = (X0, M, τ)) (g_pw G) (g_A G)) args s 0 0 (g_A G)) (F0 m 0 ls []) := by
  obtain ⟨hx, hb, hr, hml, hown, hts, hlocks, hC⟩ := id C0
  unfold fn_X9_next at hf
  refine lv_iload_n hx hb dX9_next_0 rfl (lv_at hl 1 rfl) ?_
  refine lv_bipush (v := 7) hx hb dX9_next_1 (by decide) ?_
  refine lv_icmp_eq (tgt := 20) hx hb dX9_next_3 (by decide) (fun hc_1 => ?_) (fun hc_1 => ?_)
  · have hf := g_pos hf hc_1
    refine lv_iload_n hx hb dX9_next_20 rfl (lv_at hl 3 rfl) ?_
    cases hf
    exact x_iret hx hb hlocks hC hP hS hr dX9_next_21
  · have hf := g_neg hf hc_1
    refine lv_iload_n hx hb dX9_next_6 rfl (lv_at hl 1 rfl) ?_
    refine lv_bipush (v := 8) hx hb dX9_next_7 (by decide) ?_
    refine lv_icmp_ne (tgt := 22) hx hb dX9_next_9 (by decide) (fun hc_2 => ?_) (fun hc_2 => ?_)
    · have hf := g_neg hf hc_2
      exact bk_X9_next_22 C0 t0 ht0 x1 x2 x3 X hf hP hS (lv_sub hl [0, 1, 2, 3] rfl)
    · have hf := g_pos hf hc_2
      refine lv_aload_n hx hb dX9_next_12 rfl (lv_at hl 0 rfl) ?_
      refine lv_iload_n hx hb dX9_next_13 rfl (lv_at hl 2 rfl) ?_
      obtain ⟨r_3, hc_4, hf⟩ := g_bindE hf
      refine x_calli (v := (X, M, τ)) (va_runV (As := [.int x2]) (rest := []) ⟨hx, hb, hml, hown, hts⟩ (ct_X9_read l G X M τ t0 ht0 x2 hc_4) (cwV 1 hts gd_X9_71 rfl rfl rfl hd_X9_read ⟨Nat.le_of_ble_eq_true rfl, Nat.le_of_ble_eq_true rfl⟩) (x_preV (u := (X, M, τ)) (k := 9) (ci := 9) hC hS hP ht0 rfl rfl) rfl rfl hl.1 rfl (lv_room (Nat.le_of_ble_eq_true rfl)) dX9_next_14 ⟨Nat.zero_le _, Nat.zero_le _⟩) hS (fun H locs hP hS => ?_)
      refine lv_if_eq (tgt := 22) hx hb dX9_next_17 (by decide) (fun hc_5 => ?_) (fun hc_5 => ?_)
      · have hf := g_pos hf hc_5
        exact bk_X9_next_22 C0 t0 ht0 x1 x2 x3 X hf hP hS (lv_sub hl [0, 1, 2, 3] rfl)
      · have hf := g_neg hf hc_5
        refine lv_iload_n hx hb dX9_next_20 rfl (lv_at hl 3 rfl) ?_
        cases hf
        exact x_iret hx hb hlocks hC hP hS hr dX9_next_21
set_option maxRecDepth 100000 in
set_option maxHeartbeats 4000000 in
theorem ct_X9_next (l : Launch) (G : GP) (X M : SM) (τ : SL) (t0 : Nat) (ht0 : t0 < 12) (x1 : Int32) (x2 : Int32) (x3 : Int32) {r0 : Int32} {X0 : SM} (hf : fn_X9_next t0 x1 x2 x3 X = some (r0, X0)) : Met l yX9_next (wz yX9_next cX9_next 4 (some .int)) rm_X9_next (va_Pc [.ref (G.2.1 9 t0), .int x1, .int x2, .int x3] (g_pw G (X, M, τ))) (va_Qi (fun r u => r = r0 ∧ u = (X0, M, τ)) (g_pw G) (g_A G)) 0 0 (g_A G) := by
  refine Met.ofW (cc := cX9_next) (maxL := 4) (ret := (some .int)) (by decide +kernel) rfl ?_
  intro p e s m args below meth c s₁ B hml hv
  obtain ⟨rfl, hC, hP⟩ := hv
  have C0 : g_mc p s m _ meth c RX9 cX9_next (some .int) 4 G := ⟨B.exec, B.bytes, B.returns, hml, findClass_of_methodNamed B.named, fun w h => atoms_spec (ws := wz yX9_next cX9_next 4 (some .int)) B.pre w (List.mem_cons_of_mem _ h), B.notSynchronized, hC⟩
  have hl := lv_entry ([.ref (G.2.1 9 t0), .int x1, .int x2, .int x3]) (n := 4) (Nat.le_of_ble_eq_true rfl)
  rw [lg_entry_eq]
  generalize (lg_sl ([.ref (G.2.1 9 t0), .int x1, .int x2, .int x3]) ++ List.replicate (4 - (lg_sl ([.ref (G.2.1 9 t0), .int x1, .int x2, .int x3])).length) Slot.unset).toArray = ls at hl ⊢
  exact wk_X9_next C0  t0 ht0 x1 x2 x3 X hf hP va_S.rf hl
abbrev rm_X9_goTo : Room := { frames := 0, cells := 0, slots := 0, locals := 0 }
def fn_X9_goTo (t0 : Nat) (x1 : Int32) (X : SM) : SM :=
  if (X 1 t0 4) ≤ x1 then
  (g_let (u1 X 9 t0 8 0) fun X_2 =>
    g_let (u1 X_2 9 t0 13 ((X_2 9 t0 13) + 1)) fun X_3 =>
    X_3)
  else
  (g_let (u1 X 9 t0 8 x1) fun X_4 =>
    X_4)
set_option maxRecDepth 100000 in
set_option maxHeartbeats 4000000 in
theorem wk_X9_goTo {p : Program} {l : Launch} {e : Env} {s : State} {m : MethodId} {args : Array Value} {below : List Frame} {meth : Method} {c : Code} {G : GP} {M : SM} {τ : SL} (C0 : g_mc p s m args meth c RX9 cX9_goTo none 2 G) {X0 : SM} (t0 : Nat) (ht0 : t0 < 12) (x1 : Int32) (X : SM) (hf : fn_X9_goTo t0 x1 X = X0) {H : Heap} {locs : List Loc} (hP : va_P G.1 g_cl (wd G (cb X M) τ) H) (hS : va_S (g_A G) s.heap H locs) {ls : Array Slot} (hl : lv_has ls 2 [(0, .ref (G.2.1 9 t0)), (1, .int x1)]) : W p l e rm_X9_goTo s m args below meth c H locs 0 0 (MQ below (va_Qv (fun u => u = (X0, M, τ)) (g_pw G) (g_A G)) args s 0 0 (g_A G)) (F0 m 0 ls []) := by
  obtain ⟨hx, hb, hr, hml, hown, hts, hlocks, hC⟩ := id C0
  unfold fn_X9_goTo at hf
  refine lv_iload_n hx hb dX9_goTo_0 rfl (lv_at hl 1 rfl) ?_
  refine lv_aload_n hx hb dX9_goTo_1 rfl (lv_at hl 0 rfl) ?_
  refine gt_9_1 hx hb hts hown hC hP ht0 q5_4 dX9_goTo_2 ?_
  refine gt_1_4 hx hb hts hown hC hP ht0 q10_2 dX9_goTo_5 ?_
  refine lv_icmp_ge (tgt := 19) hx hb dX9_goTo_8 (by decide) (fun hc_1 => ?_) (fun hc_1 => ?_)
  · have hf := g_pos hf hc_1
    refine lv_aload_n hx hb dX9_goTo_19 rfl (lv_at hl 0 rfl) ?_
    refine lv_iconst (v := 0) hx hb dX9_goTo_20 (by decide) ?_
    obtain ⟨X_2, eX_2, hf⟩ := g_letE hf
    refine pt_9_8 hx hb hts hown hC hP hS ht0 q10_7 dX9_goTo_21 (fun H locs hP hS => ?_)
    rw [eX_2] at hP
    refine lv_aload_n hx hb dX9_goTo_24 rfl (lv_at hl 0 rfl) ?_
    refine lv_dup hx hb dX9_goTo_25 rfl ?_
    refine gt_9_13 hx hb hts hown hC hP ht0 q18_2 dX9_goTo_26 ?_
    refine lv_iconst (v := 1) hx hb dX9_goTo_29 (by decide) ?_
    refine lv_iadd hx hb dX9_goTo_30 ?_
    obtain ⟨X_3, eX_3, hf⟩ := g_letE hf
    refine pt_9_13 hx hb hts hown hC hP hS ht0 q18_2 dX9_goTo_31 (fun H locs hP hS => ?_)
    rw [eX_3] at hP
    cases hf
    exact x_vret hx hb hlocks hC hP hS hr dX9_goTo_34
  · have hf := g_neg hf hc_1
    refine lv_aload_n hx hb dX9_goTo_11 rfl (lv_at hl 0 rfl) ?_
    refine lv_iload_n hx hb dX9_goTo_12 rfl (lv_at hl 1 rfl) ?_
    obtain ⟨X_4, eX_4, hf⟩ := g_letE hf
    refine pt_9_8 hx hb hts hown hC hP hS ht0 q10_7 dX9_goTo_13 (fun H locs hP hS => ?_)
    rw [eX_4] at hP
    refine lv_goto (tgt := 34) hx hb dX9_goTo_16 (by decide) ?_
    cases hf
    exact x_vret hx hb hlocks hC hP hS hr dX9_goTo_34
set_option maxRecDepth 100000 in
set_option maxHeartbeats 4000000 in
theorem ct_X9_goTo (l : Launch) (G : GP) (X M : SM) (τ : SL) (t0 : Nat) (ht0 : t0 < 12) (x1 : Int32) {X0 : SM} (hf : fn_X9_goTo t0 x1 X = X0) : Met l yX9_goTo (wz yX9_goTo cX9_goTo 2 none) rm_X9_goTo (va_Pc [.ref (G.2.1 9 t0), .int x1] (g_pw G (X, M, τ))) (va_Qv (fun u => u = (X0, M, τ)) (g_pw G) (g_A G)) 0 0 (g_A G) := by
  refine Met.ofW (cc := cX9_goTo) (maxL := 2) (ret := none) (by decide +kernel) rfl ?_
  intro p e s m args below meth c s₁ B hml hv
  obtain ⟨rfl, hC, hP⟩ := hv
  have C0 : g_mc p s m _ meth c RX9 cX9_goTo none 2 G := ⟨B.exec, B.bytes, B.returns, hml, findClass_of_methodNamed B.named, fun w h => atoms_spec (ws := wz yX9_goTo cX9_goTo 2 none) B.pre w (List.mem_cons_of_mem _ h), B.notSynchronized, hC⟩
  have hl := lv_entry ([.ref (G.2.1 9 t0), .int x1]) (n := 2) (Nat.le_of_ble_eq_true rfl)
  rw [lg_entry_eq]
  generalize (lg_sl ([.ref (G.2.1 9 t0), .int x1]) ++ List.replicate (2 - (lg_sl ([.ref (G.2.1 9 t0), .int x1])).length) Slot.unset).toArray = ls at hl ⊢
  exact wk_X9_goTo C0  t0 ht0 x1 X hf hP va_S.rf hl
abbrev rm_X7_waitTill : Room := { frames := 0, cells := 0, slots := 0, locals := 0 }
def fn_X7_waitTill (t0 : Nat) (t1 : Nat) (x2 : Int32) (x3 : Int32) (X : SM) : SM :=
  g_let (u1 X 4 t1 0 x2) fun X_1 =>
  g_let (u1 X_1 4 t1 4 x3) fun X_2 =>
  g_let (u1 X_2 9 t1 9 1) fun X_3 =>
  X_3
set_option maxRecDepth 100000 in
set_option maxHeartbeats 4000000 in
theorem wk_X7_waitTill {p : Program} {l : Launch} {e : Env} {s : State} {m : MethodId} {args : Array Value} {below : List Frame} {meth : Method} {c : Code} {G : GP} {M : SM} {τ : SL} (C0 : g_mc p s m args meth c RX7 cX7_waitTill none 4 G) {X0 : SM} (t0 : Nat) (ht0 : t0 < 2) (t1 : Nat) (ht1 : t1 < 12) (x2 : Int32) (x3 : Int32) (X : SM) (hf : fn_X7_waitTill t0 t1 x2 x3 X = X0) {H : Heap} {locs : List Loc} (hP : va_P G.1 g_cl (wd G (cb X M) τ) H) (hS : va_S (g_A G) s.heap H locs) {ls : Array Slot} (hl : lv_has ls 4 [(0, .ref (G.2.1 7 t0)), (1, .ref (G.2.1 9 t1)), (2, .int x2), (3, .int x3)]) : W p l e rm_X7_waitTill s m args below meth c H locs 0 0 (MQ below (va_Qv (fun u => u = (X0, M, τ)) (g_pw G) (g_A G)) args s 0 0 (g_A G)) (F0 m 0 ls []) := by
  obtain ⟨hx, hb, hr, hml, hown, hts, hlocks, hC⟩ := id C0
  unfold fn_X7_waitTill at hf
  refine lv_aload_n hx hb dX7_waitTill_0 rfl (lv_at hl 1 rfl) ?_
  refine gt_9_2 hx hb hts hown hC hP ht1 q19_8 dX7_waitTill_1 ?_
  refine lv_iload_n hx hb dX7_waitTill_4 rfl (lv_at hl 2 rfl) ?_
  obtain ⟨X_1, eX_1, hf⟩ := g_letE hf
  refine pt_4_0 hx hb hts hown hC hP hS ht1 q19_22 dX7_waitTill_5 (fun H locs hP hS => ?_)
  rw [eX_1] at hP
  refine lv_aload_n hx hb dX7_waitTill_8 rfl (lv_at hl 1 rfl) ?_
  refine gt_9_2 hx hb hts hown hC hP ht1 q19_8 dX7_waitTill_9 ?_
  refine lv_iload_n hx hb dX7_waitTill_12 rfl (lv_at hl 3 rfl) ?_
  obtain ⟨X_2, eX_2, hf⟩ := g_letE hf
  refine pt_4_4 hx hb hts hown hC hP hS ht1 q19_9 dX7_waitTill_13 (fun H locs hP hS => ?_)
  rw [eX_2] at hP
  refine lv_aload_n hx hb dX7_waitTill_16 rfl (lv_at hl 1 rfl) ?_
  refine lv_iconst (v := 1) hx hb dX7_waitTill_17 (by decide) ?_
  obtain ⟨X_3, eX_3, hf⟩ := g_letE hf
  refine pt_9_9 hx hb hts hown hC hP hS ht1 q19_7 dX7_waitTill_18 (fun H locs hP hS => ?_)
  rw [eX_3] at hP
  cases hf
  exact x_vret hx hb hlocks hC hP hS hr dX7_waitTill_21
set_option maxRecDepth 100000 in
set_option maxHeartbeats 4000000 in
theorem ct_X7_waitTill (l : Launch) (G : GP) (X M : SM) (τ : SL) (t0 : Nat) (ht0 : t0 < 2) (t1 : Nat) (ht1 : t1 < 12) (x2 : Int32) (x3 : Int32) {X0 : SM} (hf : fn_X7_waitTill t0 t1 x2 x3 X = X0) : Met l yX7_waitTill (wz yX7_waitTill cX7_waitTill 4 none) rm_X7_waitTill (va_Pc [.ref (G.2.1 7 t0), .ref (G.2.1 9 t1), .int x2, .int x3] (g_pw G (X, M, τ))) (va_Qv (fun u => u = (X0, M, τ)) (g_pw G) (g_A G)) 0 0 (g_A G) := by
  refine Met.ofW (cc := cX7_waitTill) (maxL := 4) (ret := none) (by decide +kernel) rfl ?_
  intro p e s m args below meth c s₁ B hml hv
  obtain ⟨rfl, hC, hP⟩ := hv
  have C0 : g_mc p s m _ meth c RX7 cX7_waitTill none 4 G := ⟨B.exec, B.bytes, B.returns, hml, findClass_of_methodNamed B.named, fun w h => atoms_spec (ws := wz yX7_waitTill cX7_waitTill 4 none) B.pre w (List.mem_cons_of_mem _ h), B.notSynchronized, hC⟩
  have hl := lv_entry ([.ref (G.2.1 7 t0), .ref (G.2.1 9 t1), .int x2, .int x3]) (n := 4) (Nat.le_of_ble_eq_true rfl)
  rw [lg_entry_eq]
  generalize (lg_sl ([.ref (G.2.1 7 t0), .ref (G.2.1 9 t1), .int x2, .int x3]) ++ List.replicate (4 - (lg_sl ([.ref (G.2.1 7 t0), .ref (G.2.1 9 t1), .int x2, .int x3])).length) Slot.unset).toArray = ls at hl ⊢
  exact wk_X7_waitTill C0  t0 ht0 t1 ht1 x2 x3 X hf hP va_S.rf hl
abbrev rm_X7_noteLate : Room := { frames := 0, cells := 0, slots := 0, locals := 0 }
def fn_X7_noteLate (t0 : Nat) (t1 : Nat) (x2 : Int32) (X : SM) : Int32 × SM :=
  if x2 < (X 7 t0 5) then
  (g_let (u1 X 9 t1 14 ((X 9 t1 14) + 1)) fun X_2 =>
    g_let (u1 X_2 7 t0 9 ((X_2 7 t0 9) + 1)) fun X_3 =>
    (1, X_3))
  else
  ((0, X))
set_option maxRecDepth 100000 in
set_option maxHeartbeats 4000000 in
theorem wk_X7_noteLate {p : Program} {l : Launch} {e : Env} {s : State} {m : MethodId} {args : Array Value} {below : List Frame} {meth : Method} {c : Code} {G : GP} {M : SM} {τ : SL} (C0 : g_mc p s m args meth c RX7 cX7_noteLate (some .int) 3 G) {r0 : Int32} {X0 : SM} (t0 : Nat) (ht0 : t0 < 2) (t1 : Nat) (ht1 : t1 < 12) (x2 : Int32) (X : SM) (hf : fn_X7_noteLate t0 t1 x2 X = (r0, X0)) {H : Heap} {locs : List Loc} (hP : va_P G.1 g_cl (wd G (cb X M) τ) H) (hS : va_S (g_A G) s.heap H locs) {ls : Array Slot} (hl : lv_has ls 3 [(0, .ref (G.2.1 7 t0)), (1, .ref (G.2.1 9 t1)), (2, .int x2)]) : W p l e rm_X7_noteLate s m args below meth c H locs 0 0 (MQ below (va_Qi (fun r u => r = r0 ∧ u = (X0, M, τ)) (g_pw G) (g_A G)) args s 0 0 (g_A G)) (F0 m 0 ls []) := by
  obtain ⟨hx, hb, hr, hml, hown, hts, hlocks, hC⟩ := id C0
  unfold fn_X7_noteLate at hf
  refine lv_iload_n hx hb dX7_noteLate_0 rfl (lv_at hl 2 rfl) ?_
  refine lv_aload_n hx hb dX7_noteLate_1 rfl (lv_at hl 0 rfl) ?_
  refine gt_7_5 hx hb hts hown hC hP ht0 q17_14 dX7_noteLate_2 ?_
  refine lv_icmp_lt (tgt := 10) hx hb dX7_noteLate_5 (by decide) (fun hc_1 => ?_) (fun hc_1 => ?_)
  · have hf := g_pos hf hc_1
    refine lv_aload_n hx hb dX7_noteLate_10 rfl (lv_at hl 1 rfl) ?_
    refine lv_dup hx hb dX7_noteLate_11 rfl ?_
    refine gt_9_14 hx hb hts hown hC hP ht1 q24_1 dX7_noteLate_12 ?_
    refine lv_iconst (v := 1) hx hb dX7_noteLate_15 (by decide) ?_
    refine lv_iadd hx hb dX7_noteLate_16 ?_
    obtain ⟨X_2, eX_2, hf⟩ := g_letE hf
    refine pt_9_14 hx hb hts hown hC hP hS ht1 q24_1 dX7_noteLate_17 (fun H locs hP hS => ?_)
    rw [eX_2] at hP
    refine lv_aload_n hx hb dX7_noteLate_20 rfl (lv_at hl 0 rfl) ?_
    refine lv_dup hx hb dX7_noteLate_21 rfl ?_
    refine gt_7_9 hx hb hts hown hC hP ht0 q17_18 dX7_noteLate_22 ?_
    refine lv_iconst (v := 1) hx hb dX7_noteLate_25 (by decide) ?_
    refine lv_iadd hx hb dX7_noteLate_26 ?_
    obtain ⟨X_3, eX_3, hf⟩ := g_letE hf
    refine pt_7_9 hx hb hts hown hC hP hS ht0 q17_18 dX7_noteLate_27 (fun H locs hP hS => ?_)
    rw [eX_3] at hP
    refine lv_iconst (v := 1) hx hb dX7_noteLate_30 (by decide) ?_
    cases hf
    exact x_iret hx hb hlocks hC hP hS hr dX7_noteLate_31
  · have hf := g_neg hf hc_1
    refine lv_iconst (v := 0) hx hb dX7_noteLate_8 (by decide) ?_
    cases hf
    exact x_iret hx hb hlocks hC hP hS hr dX7_noteLate_9
set_option maxRecDepth 100000 in
set_option maxHeartbeats 4000000 in
theorem ct_X7_noteLate (l : Launch) (G : GP) (X M : SM) (τ : SL) (t0 : Nat) (ht0 : t0 < 2) (t1 : Nat) (ht1 : t1 < 12) (x2 : Int32) {r0 : Int32} {X0 : SM} (hf : fn_X7_noteLate t0 t1 x2 X = (r0, X0)) : Met l yX7_noteLate (wz yX7_noteLate cX7_noteLate 3 (some .int)) rm_X7_noteLate (va_Pc [.ref (G.2.1 7 t0), .ref (G.2.1 9 t1), .int x2] (g_pw G (X, M, τ))) (va_Qi (fun r u => r = r0 ∧ u = (X0, M, τ)) (g_pw G) (g_A G)) 0 0 (g_A G) := by
  refine Met.ofW (cc := cX7_noteLate) (maxL := 3) (ret := (some .int)) (by decide +kernel) rfl ?_
  intro p e s m args below meth c s₁ B hml hv
  obtain ⟨rfl, hC, hP⟩ := hv
  have C0 : g_mc p s m _ meth c RX7 cX7_noteLate (some .int) 3 G := ⟨B.exec, B.bytes, B.returns, hml, findClass_of_methodNamed B.named, fun w h => atoms_spec (ws := wz yX7_noteLate cX7_noteLate 3 (some .int)) B.pre w (List.mem_cons_of_mem _ h), B.notSynchronized, hC⟩
  have hl := lv_entry ([.ref (G.2.1 7 t0), .ref (G.2.1 9 t1), .int x2]) (n := 3) (Nat.le_of_ble_eq_true rfl)
  rw [lg_entry_eq]
  generalize (lg_sl ([.ref (G.2.1 7 t0), .ref (G.2.1 9 t1), .int x2]) ++ List.replicate (3 - (lg_sl ([.ref (G.2.1 7 t0), .ref (G.2.1 9 t1), .int x2])).length) Slot.unset).toArray = ls at hl ⊢
  exact wk_X7_noteLate C0  t0 ht0 t1 ht1 x2 X hf hP va_S.rf hl
abbrev rm_X7_writeAt : Room := { frames := 2, cells := 0, slots := 0, locals := 49 }
def fn_X7_writeAt (t0 : Nat) (t1 : Nat) (x2 : Int32) (x3 : Int32) (x4 : Int32) (X : SM) : Option (SM) :=
  if x4 ≤ (X 7 t0 5) then
  (g_let (fn_X7_noteLate t0 t1 x4 X) fun (r_2, X_3) =>
    (fn_X8_write t0 x2 x3 (X 7 t0 5) r_2 X_3).bind fun X_5 =>
    some X_5)
  else
  (g_let (u1 X 4 t1 1 x2) fun X_7 =>
    g_let (u1 X_7 4 t1 3 x3) fun X_8 =>
    g_let (fn_X7_waitTill t0 t1 11 x4 X_8) fun X_9 =>
    some X_9)
set_option maxRecDepth 100000 in
set_option maxHeartbeats 4000000 in
theorem wk_X7_writeAt {p : Program} {l : Launch} {e : Env} {s : State} {m : MethodId} {args : Array Value} {below : List Frame} {meth : Method} {c : Code} {G : GP} {M : SM} {τ : SL} (C0 : g_mc p s m args meth c RX7 cX7_writeAt none 5 G) {X0 : SM} (t0 : Nat) (ht0 : t0 < 2) (t1 : Nat) (ht1 : t1 < 12) (x2 : Int32) (x3 : Int32) (x4 : Int32) (X : SM) (hf : fn_X7_writeAt t0 t1 x2 x3 x4 X = some X0) {H : Heap} {locs : List Loc} (hP : va_P G.1 g_cl (wd G (cb X M) τ) H) (hS : va_S (g_A G) s.heap H locs) {ls : Array Slot} (hl : lv_has ls 5 [(0, .ref (G.2.1 7 t0)), (1, .ref (G.2.1 9 t1)), (2, .int x2), (3, .int x3), (4, .int x4)]) : W p l e rm_X7_writeAt s m args below meth c H locs 0 0 (MQ below (va_Qv (fun u => u = (X0, M, τ)) (g_pw G) (g_A G)) args s 0 0 (g_A G)) (F0 m 0 ls []) := by
  obtain ⟨hx, hb, hr, hml, hown, hts, hlocks, hC⟩ := id C0
  unfold fn_X7_writeAt at hf
  refine lv_iload hx hb dX7_writeAt_0 (lv_at hl 4 rfl) ?_
  refine lv_aload_n hx hb dX7_writeAt_2 rfl (lv_at hl 0 rfl) ?_
  refine gt_7_5 hx hb hts hown hC hP ht0 q17_14 dX7_writeAt_3 ?_
  refine lv_icmp_le (tgt := 35) hx hb dX7_writeAt_6 (by decide) (fun hc_1 => ?_) (fun hc_1 => ?_)
  · have hf := g_pos hf hc_1
    refine lv_aload_n hx hb dX7_writeAt_35 rfl (lv_at hl 0 rfl) ?_
    refine gt_7_1 hx hb hts hown hC hP ht0 q3_14 dX7_writeAt_36 ?_
    refine lv_iload_n hx hb dX7_writeAt_39 rfl (lv_at hl 2 rfl) ?_
    refine lv_iload_n hx hb dX7_writeAt_40 rfl (lv_at hl 3 rfl) ?_
    refine lv_aload_n hx hb dX7_writeAt_41 rfl (lv_at hl 0 rfl) ?_
    refine gt_7_5 hx hb hts hown hC hP ht0 q17_14 dX7_writeAt_42 ?_
    refine lv_aload_n hx hb dX7_writeAt_45 rfl (lv_at hl 0 rfl) ?_
    refine lv_aload_n hx hb dX7_writeAt_46 rfl (lv_at hl 1 rfl) ?_
    refine lv_iload hx hb dX7_writeAt_47 (lv_at hl 4 rfl) ?_
    obtain ⟨⟨r_2, X_3⟩, hc_4, hf⟩ := g_letE hf
    refine x_calli (v := (X_3, M, τ)) (va_runV (As := [.ref (G.2.1 9 t1), .int x4]) (rest := [.int (X 7 t0 5), .int x3, .int x2, .ref (G.2.1 8 t0)]) ⟨hx, hb, hml, hown, hts⟩ (ct_X7_noteLate l G X M τ t0 ht0 t1 ht1 x4 hc_4) (cwV 2 hts gd_X7_237 rfl rfl rfl hd_X7_noteLate ⟨Nat.le_of_ble_eq_true rfl, Nat.le_of_ble_eq_true rfl⟩) (x_preV (u := (X, M, τ)) (k := 7) (ci := 7) hC hS hP ht0 rfl rfl) rfl rfl hl.1 rfl (lv_room (Nat.le_of_ble_eq_true rfl)) dX7_writeAt_49 ⟨Nat.zero_le _, Nat.zero_le _⟩) hS (fun H locs hP hS => ?_)
    obtain ⟨X_5, hc_6, hf⟩ := g_bindE hf
    refine x_callv (v := (X_5, M, τ)) (va_runV (As := [.int x2, .int x3, .int (X 7 t0 5), .int r_2]) (rest := []) ⟨hx, hb, hml, hown, hts⟩ (ct_X8_write l G X_3 M τ t0 ht0 x2 x3 (X 7 t0 5) r_2 hc_6) (cwV 4 hts gd_X7_135 rfl rfl rfl hd_X8_write ⟨Nat.le_of_ble_eq_true rfl, Nat.le_of_ble_eq_true rfl⟩) (x_preV (u := (X_3, M, τ)) (k := 8) (ci := 8) hC hS hP ht0 rfl rfl) rfl rfl hl.1 rfl (lv_room (Nat.le_of_ble_eq_true rfl)) dX7_writeAt_52 ⟨Nat.zero_le _, Nat.zero_le _⟩) hS (fun H locs hP hS => ?_)
    cases hf
    exact x_vret hx hb hlocks hC hP hS hr dX7_writeAt_55
  · have hf := g_neg hf hc_1
    refine lv_aload_n hx hb dX7_writeAt_9 rfl (lv_at hl 1 rfl) ?_
    refine gt_9_2 hx hb hts hown hC hP ht1 q19_8 dX7_writeAt_10 ?_
    refine lv_iload_n hx hb dX7_writeAt_13 rfl (lv_at hl 2 rfl) ?_
    obtain ⟨X_7, eX_7, hf⟩ := g_letE hf
    refine pt_4_1 hx hb hts hown hC hP hS ht1 q19_23 dX7_writeAt_14 (fun H locs hP hS => ?_)
    rw [eX_7] at hP
    refine lv_aload_n hx hb dX7_writeAt_17 rfl (lv_at hl 1 rfl) ?_
    refine gt_9_2 hx hb hts hown hC hP ht1 q19_8 dX7_writeAt_18 ?_
    refine lv_iload_n hx hb dX7_writeAt_21 rfl (lv_at hl 3 rfl) ?_
    obtain ⟨X_8, eX_8, hf⟩ := g_letE hf
    refine pt_4_3 hx hb hts hown hC hP hS ht1 q20_0 dX7_writeAt_22 (fun H locs hP hS => ?_)
    rw [eX_8] at hP
    refine lv_aload_n hx hb dX7_writeAt_25 rfl (lv_at hl 0 rfl) ?_
    refine lv_aload_n hx hb dX7_writeAt_26 rfl (lv_at hl 1 rfl) ?_
    refine lv_bipush (v := 11) hx hb dX7_writeAt_27 (by decide) ?_
    refine lv_iload hx hb dX7_writeAt_29 (lv_at hl 4 rfl) ?_
    obtain ⟨X_9, hc_10, hf⟩ := g_letE hf
    refine x_callv (v := (X_9, M, τ)) (va_runV (As := [.ref (G.2.1 9 t1), .int 11, .int x4]) (rest := []) ⟨hx, hb, hml, hown, hts⟩ (ct_X7_waitTill l G X_8 M τ t0 ht0 t1 ht1 11 x4 hc_10) (cwV 3 hts gd_X7_226 rfl rfl rfl hd_X7_waitTill ⟨Nat.le_of_ble_eq_true rfl, Nat.le_of_ble_eq_true rfl⟩) (x_preV (u := (X_8, M, τ)) (k := 7) (ci := 7) hC hS hP ht0 rfl rfl) rfl rfl hl.1 rfl (lv_room (Nat.le_of_ble_eq_true rfl)) dX7_writeAt_31 ⟨Nat.zero_le _, Nat.zero_le _⟩) hS (fun H locs hP hS => ?_)
    cases hf
    exact x_vret hx hb hlocks hC hP hS hr dX7_writeAt_34
set_option maxRecDepth 100000 in
set_option maxHeartbeats 4000000 in
theorem ct_X7_writeAt (l : Launch) (G : GP) (X M : SM) (τ : SL) (t0 : Nat) (ht0 : t0 < 2) (t1 : Nat) (ht1 : t1 < 12) (x2 : Int32) (x3 : Int32) (x4 : Int32) {X0 : SM} (hf : fn_X7_writeAt t0 t1 x2 x3 x4 X = some X0) : Met l yX7_writeAt (wz yX7_writeAt cX7_writeAt 5 none) rm_X7_writeAt (va_Pc [.ref (G.2.1 7 t0), .ref (G.2.1 9 t1), .int x2, .int x3, .int x4] (g_pw G (X, M, τ))) (va_Qv (fun u => u = (X0, M, τ)) (g_pw G) (g_A G)) 0 0 (g_A G) := by
  refine Met.ofW (cc := cX7_writeAt) (maxL := 5) (ret := none) (by decide +kernel) rfl ?_
  intro p e s m args below meth c s₁ B hml hv
  obtain ⟨rfl, hC, hP⟩ := hv
  have C0 : g_mc p s m _ meth c RX7 cX7_writeAt none 5 G := ⟨B.exec, B.bytes, B.returns, hml, findClass_of_methodNamed B.named, fun w h => atoms_spec (ws := wz yX7_writeAt cX7_writeAt 5 none) B.pre w (List.mem_cons_of_mem _ h), B.notSynchronized, hC⟩
  have hl := lv_entry ([.ref (G.2.1 7 t0), .ref (G.2.1 9 t1), .int x2, .int x3, .int x4]) (n := 5) (Nat.le_of_ble_eq_true rfl)
  rw [lg_entry_eq]
  generalize (lg_sl ([.ref (G.2.1 7 t0), .ref (G.2.1 9 t1), .int x2, .int x3, .int x4]) ++ List.replicate (5 - (lg_sl ([.ref (G.2.1 7 t0), .ref (G.2.1 9 t1), .int x2, .int x3, .int x4])).length) Slot.unset).toArray = ls at hl ⊢
  exact wk_X7_writeAt C0  t0 ht0 t1 ht1 x2 x3 x4 X hf hP va_S.rf hl
abbrev rm_X7_readAt : Room := { frames := 2, cells := 0, slots := 0, locals := 42 }
def fn_X7_readAt (t0 : Nat) (t1 : Nat) (x2 : Int32) (x3 : Int32) (x4 : Int32) (X : SM) : Option (SM) :=
  if x4 ≤ (X 7 t0 5) then
  (g_let (fn_X7_noteLate t0 t1 x4 X) fun (r_2, X_3) =>
    (fn_X8_levelOf t0 x2 X_3).bind fun r_5 =>
    (fn_X9_write t1 x3 r_5 X_3).bind fun X_7 =>
    some X_7)
  else
  (g_let (u1 X 4 t1 1 x2) fun X_9 =>
    g_let (u1 X_9 4 t1 2 x3) fun X_10 =>
    g_let (fn_X7_waitTill t0 t1 13 x4 X_10) fun X_11 =>
    some X_11)
set_option maxRecDepth 100000 in
set_option maxHeartbeats 4000000 in
theorem wk_X7_readAt {p : Program} {l : Launch} {e : Env} {s : State} {m : MethodId} {args : Array Value} {below : List Frame} {meth : Method} {c : Code} {G : GP} {M : SM} {τ : SL} (C0 : g_mc p s m args meth c RX7 cX7_readAt none 5 G) {X0 : SM} (t0 : Nat) (ht0 : t0 < 2) (t1 : Nat) (ht1 : t1 < 12) (x2 : Int32) (x3 : Int32) (x4 : Int32) (X : SM) (hf : fn_X7_readAt t0 t1 x2 x3 x4 X = some X0) {H : Heap} {locs : List Loc} (hP : va_P G.1 g_cl (wd G (cb X M) τ) H) (hS : va_S (g_A G) s.heap H locs) {ls : Array Slot} (hl : lv_has ls 5 [(0, .ref (G.2.1 7 t0)), (1, .ref (G.2.1 9 t1)), (2, .int x2), (3, .int x3), (4, .int x4)]) : W p l e rm_X7_readAt s m args below meth c H locs 0 0 (MQ below (va_Qv (fun u => u = (X0, M, τ)) (g_pw G) (g_A G)) args s 0 0 (g_A G)) (F0 m 0 ls []) := by
  obtain ⟨hx, hb, hr, hml, hown, hts, hlocks, hC⟩ := id C0
  unfold fn_X7_readAt at hf
  refine lv_iload hx hb dX7_readAt_0 (lv_at hl 4 rfl) ?_
  refine lv_aload_n hx hb dX7_readAt_2 rfl (lv_at hl 0 rfl) ?_
  refine gt_7_5 hx hb hts hown hC hP ht0 q17_14 dX7_readAt_3 ?_
  refine lv_icmp_le (tgt := 35) hx hb dX7_readAt_6 (by decide) (fun hc_1 => ?_) (fun hc_1 => ?_)
  · have hf := g_pos hf hc_1
    refine lv_aload_n hx hb dX7_readAt_35 rfl (lv_at hl 0 rfl) ?_
    refine lv_aload_n hx hb dX7_readAt_36 rfl (lv_at hl 1 rfl) ?_
    refine lv_iload hx hb dX7_readAt_37 (lv_at hl 4 rfl) ?_
    obtain ⟨⟨r_2, X_3⟩, hc_4, hf⟩ := g_letE hf
    refine x_calli (v := (X_3, M, τ)) (va_runV (As := [.ref (G.2.1 9 t1), .int x4]) (rest := []) ⟨hx, hb, hml, hown, hts⟩ (ct_X7_noteLate l G X M τ t0 ht0 t1 ht1 x4 hc_4) (cwV 2 hts gd_X7_237 rfl rfl rfl hd_X7_noteLate ⟨Nat.le_of_ble_eq_true rfl, Nat.le_of_ble_eq_true rfl⟩) (x_preV (u := (X, M, τ)) (k := 7) (ci := 7) hC hS hP ht0 rfl rfl) rfl rfl hl.1 rfl (lv_room (Nat.le_of_ble_eq_true rfl)) dX7_readAt_39 ⟨Nat.zero_le _, Nat.zero_le _⟩) hS (fun H locs hP hS => ?_)
    refine lv_pop hx hb dX7_readAt_42 rfl ?_
    refine lv_aload_n hx hb dX7_readAt_43 rfl (lv_at hl 1 rfl) ?_
    refine lv_iload_n hx hb dX7_readAt_44 rfl (lv_at hl 3 rfl) ?_
    refine lv_aload_n hx hb dX7_readAt_45 rfl (lv_at hl 0 rfl) ?_
    refine gt_7_1 hx hb hts hown hC hP ht0 q3_14 dX7_readAt_46 ?_
    refine lv_iload_n hx hb dX7_readAt_49 rfl (lv_at hl 2 rfl) ?_
    obtain ⟨r_5, hc_6, hf⟩ := g_bindE hf
    refine x_calli (v := (X_3, M, τ)) (va_runV (As := [.int x2]) (rest := [.int x3, .ref (G.2.1 9 t1)]) ⟨hx, hb, hml, hown, hts⟩ (ct_X8_levelOf l G X_3 M τ t0 ht0 x2 hc_6) (cwV 1 hts gd_X7_142 rfl rfl rfl hd_X8_levelOf ⟨Nat.le_of_ble_eq_true rfl, Nat.le_of_ble_eq_true rfl⟩) (x_preV (u := (X_3, M, τ)) (k := 8) (ci := 8) hC hS hP ht0 rfl rfl) rfl rfl hl.1 rfl (lv_room (Nat.le_of_ble_eq_true rfl)) dX7_readAt_50 ⟨Nat.zero_le _, Nat.zero_le _⟩) hS (fun H locs hP hS => ?_)
    obtain ⟨X_7, hc_8, hf⟩ := g_bindE hf
    refine x_callv (v := (X_7, M, τ)) (va_runV (As := [.int x3, .int r_5]) (rest := []) ⟨hx, hb, hml, hown, hts⟩ (ct_X9_write l G X_3 M τ t1 ht1 x3 r_5 hc_8) (cwV 2 hts gd_X7_146 rfl rfl rfl hd_X9_write ⟨Nat.le_of_ble_eq_true rfl, Nat.le_of_ble_eq_true rfl⟩) (x_preV (u := (X_3, M, τ)) (k := 9) (ci := 9) hC hS hP ht1 rfl rfl) rfl rfl hl.1 rfl (lv_room (Nat.le_of_ble_eq_true rfl)) dX7_readAt_53 ⟨Nat.zero_le _, Nat.zero_le _⟩) hS (fun H locs hP hS => ?_)
    cases hf
    exact x_vret hx hb hlocks hC hP hS hr dX7_readAt_56
  · have hf := g_neg hf hc_1
    refine lv_aload_n hx hb dX7_readAt_9 rfl (lv_at hl 1 rfl) ?_
    refine gt_9_2 hx hb hts hown hC hP ht1 q19_8 dX7_readAt_10 ?_
    refine lv_iload_n hx hb dX7_readAt_13 rfl (lv_at hl 2 rfl) ?_
    obtain ⟨X_9, eX_9, hf⟩ := g_letE hf
    refine pt_4_1 hx hb hts hown hC hP hS ht1 q19_23 dX7_readAt_14 (fun H locs hP hS => ?_)
    rw [eX_9] at hP
    refine lv_aload_n hx hb dX7_readAt_17 rfl (lv_at hl 1 rfl) ?_
    refine gt_9_2 hx hb hts hown hC hP ht1 q19_8 dX7_readAt_18 ?_
    refine lv_iload_n hx hb dX7_readAt_21 rfl (lv_at hl 3 rfl) ?_
    obtain ⟨X_10, eX_10, hf⟩ := g_letE hf
    refine pt_4_2 hx hb hts hown hC hP hS ht1 q20_1 dX7_readAt_22 (fun H locs hP hS => ?_)
    rw [eX_10] at hP
    refine lv_aload_n hx hb dX7_readAt_25 rfl (lv_at hl 0 rfl) ?_
    refine lv_aload_n hx hb dX7_readAt_26 rfl (lv_at hl 1 rfl) ?_
    refine lv_bipush (v := 13) hx hb dX7_readAt_27 (by decide) ?_
    refine lv_iload hx hb dX7_readAt_29 (lv_at hl 4 rfl) ?_
    obtain ⟨X_11, hc_12, hf⟩ := g_letE hf
    refine x_callv (v := (X_11, M, τ)) (va_runV (As := [.ref (G.2.1 9 t1), .int 13, .int x4]) (rest := []) ⟨hx, hb, hml, hown, hts⟩ (ct_X7_waitTill l G X_10 M τ t0 ht0 t1 ht1 13 x4 hc_12) (cwV 3 hts gd_X7_226 rfl rfl rfl hd_X7_waitTill ⟨Nat.le_of_ble_eq_true rfl, Nat.le_of_ble_eq_true rfl⟩) (x_preV (u := (X_10, M, τ)) (k := 7) (ci := 7) hC hS hP ht0 rfl rfl) rfl rfl hl.1 rfl (lv_room (Nat.le_of_ble_eq_true rfl)) dX7_readAt_31 ⟨Nat.zero_le _, Nat.zero_le _⟩) hS (fun H locs hP hS => ?_)
    cases hf
    exact x_vret hx hb hlocks hC hP hS hr dX7_readAt_34
set_option maxRecDepth 100000 in
set_option maxHeartbeats 4000000 in
theorem ct_X7_readAt (l : Launch) (G : GP) (X M : SM) (τ : SL) (t0 : Nat) (ht0 : t0 < 2) (t1 : Nat) (ht1 : t1 < 12) (x2 : Int32) (x3 : Int32) (x4 : Int32) {X0 : SM} (hf : fn_X7_readAt t0 t1 x2 x3 x4 X = some X0) : Met l yX7_readAt (wz yX7_readAt cX7_readAt 5 none) rm_X7_readAt (va_Pc [.ref (G.2.1 7 t0), .ref (G.2.1 9 t1), .int x2, .int x3, .int x4] (g_pw G (X, M, τ))) (va_Qv (fun u => u = (X0, M, τ)) (g_pw G) (g_A G)) 0 0 (g_A G) := by
  refine Met.ofW (cc := cX7_readAt) (maxL := 5) (ret := none) (by decide +kernel) rfl ?_
  intro p e s m args below meth c s₁ B hml hv
  obtain ⟨rfl, hC, hP⟩ := hv
  have C0 : g_mc p s m _ meth c RX7 cX7_readAt none 5 G := ⟨B.exec, B.bytes, B.returns, hml, findClass_of_methodNamed B.named, fun w h => atoms_spec (ws := wz yX7_readAt cX7_readAt 5 none) B.pre w (List.mem_cons_of_mem _ h), B.notSynchronized, hC⟩
  have hl := lv_entry ([.ref (G.2.1 7 t0), .ref (G.2.1 9 t1), .int x2, .int x3, .int x4]) (n := 5) (Nat.le_of_ble_eq_true rfl)
  rw [lg_entry_eq]
  generalize (lg_sl ([.ref (G.2.1 7 t0), .ref (G.2.1 9 t1), .int x2, .int x3, .int x4]) ++ List.replicate (5 - (lg_sl ([.ref (G.2.1 7 t0), .ref (G.2.1 9 t1), .int x2, .int x3, .int x4])).length) Slot.unset).toArray = ls at hl ⊢
  exact wk_X7_readAt C0  t0 ht0 t1 ht1 x2 x3 x4 X hf hP va_S.rf hl
abbrev rm_X7_firstAt : Room := { frames := 1, cells := 0, slots := 0, locals := 21 }
def fn_X7_firstAt (t0 : Nat) (x1 : Int32) (x2 : Int32) (X : SM) : Option (Option Nat) :=
  (fn_X0_firstAt t0 x1 X).bind fun r_1 =>
  g_let (fn_X11_isThread r_1) fun r_3 =>
  if r_3 = 0 then
  (some none)
  else
  (if g_in r_1 6 then
    if (X 9 (6 * t0 + (r_1.toNatClampNeg)) 9) = x2 then
    (if g_in r_1 6 then
      some (some (6 * t0 + (r_1.toNatClampNeg)))
      else none)
    else
    (some none)
    else none)
set_option maxRecDepth 100000 in
set_option maxHeartbeats 4000000 in
theorem wk_X7_firstAt {p : Program} {l : Launch} {e : Env} {s : State} {m : MethodId} {args : Array Value} {below : List Frame} {meth : Method} {c : Code} {G : GP} {M : SM} {τ : SL} (C0 : g_mc p s m args meth c RX7 cX7_firstAt (some (.object "BarrelSlots$Strand")) 4 G) {r0 : Option Nat} (t0 : Nat) (ht0 : t0 < 2) (x1 : Int32) (x2 : Int32) (X : SM) (hf : fn_X7_firstAt t0 x1 x2 X = some r0) {H : Heap} {locs : List Loc} (hP : va_P G.1 g_cl (wd G (cb X M) τ) H) (hS : va_S (g_A G) s.heap H locs) {ls : Array Slot} (hl : lv_has ls 4 [(0, .ref (G.2.1 7 t0)), (1, .int x1), (2, .int x2)]) : W p l e rm_X7_firstAt s m args below meth c H locs 0 0 (MQ below (va_Qq (fun r u => r = Option.map (G.2.1 9) r0 ∧ u = (X, M, τ)) (g_pw G) (g_A G)) args s 0 0 (g_A G)) (F0 m 0 ls []) := by
  obtain ⟨hx, hb, hr, hml, hown, hts, hlocks, hC⟩ := id C0
  unfold fn_X7_firstAt at hf
  refine lv_aload_n hx hb dX7_firstAt_0 rfl (lv_at hl 0 rfl) ?_
  refine gt_7_2 hx hb hts hown hC hP ht0 q3_18 dX7_firstAt_1 ?_
  refine lv_iload_n hx hb dX7_firstAt_4 rfl (lv_at hl 1 rfl) ?_
  obtain ⟨r_1, hc_2, hf⟩ := g_bindE hf
  refine x_calli (v := (X, M, τ)) (va_runV (As := [.int x1]) (rest := []) ⟨hx, hb, hml, hown, hts⟩ (ct_X0_firstAt l G X M τ t0 ht0 x1 hc_2) (cwV 1 hts gd_X7_255 rfl rfl rfl hd_X0_firstAt ⟨Nat.le_of_ble_eq_true rfl, Nat.le_of_ble_eq_true rfl⟩) (x_preV (u := (X, M, τ)) (k := 0) (ci := 0) hC hS hP ht0 rfl rfl) rfl rfl hl.1 rfl (lv_room (Nat.le_of_ble_eq_true rfl)) dX7_firstAt_5 ⟨Nat.zero_le _, Nat.zero_le _⟩) hS (fun H locs hP hS => ?_)
  refine lv_istore_n (lv' := [(3, .int r_1), (0, .ref (G.2.1 7 t0)), (1, .int x1), (2, .int x2)]) hx hb dX7_firstAt_8 rfl hl (by decide) rfl (fun ls hl => ?_)
  refine lv_iload_n hx hb dX7_firstAt_9 rfl (lv_at hl 0 rfl) ?_
  obtain ⟨r_3, hc_4, hf⟩ := g_letE hf
  refine x_calli (v := (X, M, τ)) (va_runSN (As := [.int r_1]) (rest := []) ⟨hx, hb, hml, hown, hts⟩ (ct_X11_isThread l G X M τ r_1 hc_4) ⟨va_cnB 1 hts (wz_N q8_1) rfl rfl rfl hC.2.1.1 (hts _ q1_2) hd_X11_isThread.2 ⟨Nat.le_of_ble_eq_true rfl, Nat.le_of_ble_eq_true rfl⟩, hts _ q8_0, trivial⟩ (x_pre (u := (X, M, τ)) hC hS hP) rfl rfl hl.1 rfl (lv_room (Nat.le_of_ble_eq_true rfl)) dX7_firstAt_10 ⟨Nat.zero_le _, Nat.zero_le _⟩) hS (fun H locs hP hS => ?_)
  refine lv_if_ne (tgt := 18) hx hb dX7_firstAt_13 (by decide) (fun hc_5 => ?_) (fun hc_5 => ?_)
  · have hf := g_neg hf hc_5
    refine lv_aload_n hx hb dX7_firstAt_18 rfl (lv_at hl 1 rfl) ?_
    refine gt_7_0 hx hb hts hown hC hP ht0 q3_10 dX7_firstAt_19 ?_
    refine lv_iload_n hx hb dX7_firstAt_22 rfl (lv_at hl 0 rfl) ?_
    obtain ⟨hg_6, hf⟩ := g_gd hf
    have hq_7 : 6 * t0 + (r_1.toNatClampNeg) < 12 := by have h8 := g_in_lt (n := 6) hg_6; have h9 : t0 < 2 := ht0; omega
    refine xaldS hx hb hC hP ht0 hg_6 dX7_firstAt_23 ?_
    refine gt_9_9 hx hb hts hown hC hP hq_7 q19_7 dX7_firstAt_24 ?_
    refine lv_iload_n hx hb dX7_firstAt_27 rfl (lv_at hl 3 rfl) ?_
    refine lv_icmp_ne (tgt := 40) hx hb dX7_firstAt_28 (by decide) (fun hc_8 => ?_) (fun hc_8 => ?_)
    · have hf := g_neg hf hc_8
      refine lv_null hx hb dX7_firstAt_40 ?_
      cases hf
      exact x_qret (v := Option.map (G.2.1 9) none) hx hb hlocks hC hP hS hr dX7_firstAt_41
    · have hf := g_pos hf hc_8
      refine lv_aload_n hx hb dX7_firstAt_31 rfl (lv_at hl 1 rfl) ?_
      refine gt_7_0 hx hb hts hown hC hP ht0 q3_10 dX7_firstAt_32 ?_
      refine lv_iload_n hx hb dX7_firstAt_35 rfl (lv_at hl 0 rfl) ?_
      obtain ⟨hg_9, hf⟩ := g_gd hf
      have hq_10 : 6 * t0 + (r_1.toNatClampNeg) < 12 := by have h8 := g_in_lt (n := 6) hg_9; have h9 : t0 < 2 := ht0; omega
      refine xaldS hx hb hC hP ht0 hg_9 dX7_firstAt_36 ?_
      refine lv_goto (tgt := 41) hx hb dX7_firstAt_37 (by decide) ?_
      cases hf
      exact x_qret (v := Option.map (G.2.1 9) (some (6 * t0 + (r_1.toNatClampNeg)))) hx hb hlocks hC hP hS hr dX7_firstAt_41
  · have hf := g_pos hf hc_5
    refine lv_null hx hb dX7_firstAt_16 ?_
    cases hf
    exact x_qret (v := Option.map (G.2.1 9) none) hx hb hlocks hC hP hS hr dX7_firstAt_17
set_option maxRecDepth 100000 in
set_option maxHeartbeats 4000000 in
theorem ct_X7_firstAt (l : Launch) (G : GP) (X M : SM) (τ : SL) (t0 : Nat) (ht0 : t0 < 2) (x1 : Int32) (x2 : Int32) {r0 : Option Nat} (hf : fn_X7_firstAt t0 x1 x2 X = some r0) : Met l yX7_firstAt (wz yX7_firstAt cX7_firstAt 4 (some (.object "BarrelSlots$Strand"))) rm_X7_firstAt (va_Pc [.ref (G.2.1 7 t0), .int x1, .int x2] (g_pw G (X, M, τ))) (va_Qq (fun r u => r = Option.map (G.2.1 9) r0 ∧ u = (X, M, τ)) (g_pw G) (g_A G)) 0 0 (g_A G) := by
  refine Met.ofW (cc := cX7_firstAt) (maxL := 4) (ret := (some (.object "BarrelSlots$Strand"))) (by decide +kernel) rfl ?_
  intro p e s m args below meth c s₁ B hml hv
  obtain ⟨rfl, hC, hP⟩ := hv
  have C0 : g_mc p s m _ meth c RX7 cX7_firstAt (some (.object "BarrelSlots$Strand")) 4 G := ⟨B.exec, B.bytes, B.returns, hml, findClass_of_methodNamed B.named, fun w h => atoms_spec (ws := wz yX7_firstAt cX7_firstAt 4 (some (.object "BarrelSlots$Strand"))) B.pre w (List.mem_cons_of_mem _ h), B.notSynchronized, hC⟩
  have hl := lv_entry ([.ref (G.2.1 7 t0), .int x1, .int x2]) (n := 4) (Nat.le_of_ble_eq_true rfl)
  rw [lg_entry_eq]
  generalize (lg_sl ([.ref (G.2.1 7 t0), .int x1, .int x2]) ++ List.replicate (4 - (lg_sl ([.ref (G.2.1 7 t0), .int x1, .int x2])).length) Slot.unset).toArray = ls at hl ⊢
  exact wk_X7_firstAt C0  t0 ht0 x1 x2 X hf hP va_S.rf hl
abbrev rm_X7_release : Room := { frames := 1, cells := 0, slots := 0, locals := 25 }
def fn_X7_release (t0 : Nat) (x1 : Int32) (t2 : Nat) (X : SM) : Option (SM) :=
  (fn_X0_leave t0 x1 (X 9 t2 0) X).bind fun X_1 =>
  g_let (u1 X_1 9 t2 9 0) fun X_3 =>
  g_let (u1 X_3 7 t0 11 ((X_3 7 t0 11) + 1)) fun X_4 =>
  some X_4
set_option maxRecDepth 100000 in
set_option maxHeartbeats 4000000 in
theorem wk_X7_release {p : Program} {l : Launch} {e : Env} {s : State} {m : MethodId} {args : Array Value} {below : List Frame} {meth : Method} {c : Code} {G : GP} {M : SM} {τ : SL} (C0 : g_mc p s m args meth c RX7 cX7_release none 3 G) {X0 : SM} (t0 : Nat) (ht0 : t0 < 2) (x1 : Int32) (t2 : Nat) (ht2 : t2 < 12) (X : SM) (hf : fn_X7_release t0 x1 t2 X = some X0) {H : Heap} {locs : List Loc} (hP : va_P G.1 g_cl (wd G (cb X M) τ) H) (hS : va_S (g_A G) s.heap H locs) {ls : Array Slot} (hl : lv_has ls 3 [(0, .ref (G.2.1 7 t0)), (1, .int x1), (2, .ref (G.2.1 9 t2))]) : W p l e rm_X7_release s m args below meth c H locs 0 0 (MQ below (va_Qv (fun u => u = (X0, M, τ)) (g_pw G) (g_A G)) args s 0 0 (g_A G)) (F0 m 0 ls []) := by
  obtain ⟨hx, hb, hr, hml, hown, hts, hlocks, hC⟩ := id C0
  unfold fn_X7_release at hf
  refine lv_aload_n hx hb dX7_release_0 rfl (lv_at hl 0 rfl) ?_
  refine gt_7_2 hx hb hts hown hC hP ht0 q3_18 dX7_release_1 ?_
  refine lv_iload_n hx hb dX7_release_4 rfl (lv_at hl 1 rfl) ?_
  refine lv_aload_n hx hb dX7_release_5 rfl (lv_at hl 2 rfl) ?_
  refine gt_9_0 hx hb hts hown hC hP ht2 q24_10 dX7_release_6 ?_
  obtain ⟨X_1, hc_2, hf⟩ := g_bindE hf
  refine x_callv (v := (X_1, M, τ)) (va_runV (As := [.int x1, .int (X 9 t2 0)]) (rest := []) ⟨hx, hb, hml, hown, hts⟩ (ct_X0_leave l G X M τ t0 ht0 x1 (X 9 t2 0) hc_2) (cwV 2 hts gd_X7_257 rfl rfl rfl hd_X0_leave ⟨Nat.le_of_ble_eq_true rfl, Nat.le_of_ble_eq_true rfl⟩) (x_preV (u := (X, M, τ)) (k := 0) (ci := 0) hC hS hP ht0 rfl rfl) rfl rfl hl.1 rfl (lv_room (Nat.le_of_ble_eq_true rfl)) dX7_release_9 ⟨Nat.zero_le _, Nat.zero_le _⟩) hS (fun H locs hP hS => ?_)
  refine lv_aload_n hx hb dX7_release_12 rfl (lv_at hl 2 rfl) ?_
  refine lv_iconst (v := 0) hx hb dX7_release_13 (by decide) ?_
  obtain ⟨X_3, eX_3, hf⟩ := g_letE hf
  refine pt_9_9 hx hb hts hown hC hP hS ht2 q19_7 dX7_release_14 (fun H locs hP hS => ?_)
  rw [eX_3] at hP
  refine lv_aload_n hx hb dX7_release_17 rfl (lv_at hl 0 rfl) ?_
  refine lv_dup hx hb dX7_release_18 rfl ?_
  refine gt_7_11 hx hb hts hown hC hP ht0 q17_19 dX7_release_19 ?_
  refine lv_iconst (v := 1) hx hb dX7_release_22 (by decide) ?_
  refine lv_iadd hx hb dX7_release_23 ?_
  obtain ⟨X_4, eX_4, hf⟩ := g_letE hf
  refine pt_7_11 hx hb hts hown hC hP hS ht0 q17_19 dX7_release_24 (fun H locs hP hS => ?_)
  rw [eX_4] at hP
  cases hf
  exact x_vret hx hb hlocks hC hP hS hr dX7_release_27
set_option maxRecDepth 100000 in
set_option maxHeartbeats 4000000 in
theorem ct_X7_release (l : Launch) (G : GP) (X M : SM) (τ : SL) (t0 : Nat) (ht0 : t0 < 2) (x1 : Int32) (t2 : Nat) (ht2 : t2 < 12) {X0 : SM} (hf : fn_X7_release t0 x1 t2 X = some X0) : Met l yX7_release (wz yX7_release cX7_release 3 none) rm_X7_release (va_Pc [.ref (G.2.1 7 t0), .int x1, .ref (G.2.1 9 t2)] (g_pw G (X, M, τ))) (va_Qv (fun u => u = (X0, M, τ)) (g_pw G) (g_A G)) 0 0 (g_A G) := by
  refine Met.ofW (cc := cX7_release) (maxL := 3) (ret := none) (by decide +kernel) rfl ?_
  intro p e s m args below meth c s₁ B hml hv
  obtain ⟨rfl, hC, hP⟩ := hv
  have C0 : g_mc p s m _ meth c RX7 cX7_release none 3 G := ⟨B.exec, B.bytes, B.returns, hml, findClass_of_methodNamed B.named, fun w h => atoms_spec (ws := wz yX7_release cX7_release 3 none) B.pre w (List.mem_cons_of_mem _ h), B.notSynchronized, hC⟩
  have hl := lv_entry ([.ref (G.2.1 7 t0), .int x1, .ref (G.2.1 9 t2)]) (n := 3) (Nat.le_of_ble_eq_true rfl)
  rw [lg_entry_eq]
  generalize (lg_sl ([.ref (G.2.1 7 t0), .int x1, .ref (G.2.1 9 t2)]) ++ List.replicate (3 - (lg_sl ([.ref (G.2.1 7 t0), .int x1, .ref (G.2.1 9 t2)])).length) Slot.unset).toArray = ls at hl ⊢
  exact wk_X7_release C0  t0 ht0 x1 t2 ht2 X hf hP va_S.rf hl
abbrev rm_X7_send : Room := { frames := 2, cells := 0, slots := 0, locals := 47 }
def fn_X7_send (t0 : Nat) (t1 : Nat) (x2 : Int32) (x3 : Int32) (X : SM) : Option (SM) :=
  (fn_X7_firstAt t0 x2 3 X).bind fun r_1 =>
  match r_1 with
  | none =>
  (g_let (u1 X 4 t1 3 x3) fun X_3 =>
    g_let (u1 X_3 9 t1 9 2) fun X_4 =>
    (fn_X0_join t0 x2 (X_4 9 t1 0) X_4).bind fun X_5 =>
    some X_5)
  | some t_7 =>
  (if t_7 < 12 then
    (fn_X9_write t_7 (X 4 t_7 2) x3 X).bind fun X_9 =>
    (fn_X7_release t0 x2 t_7 X_9).bind fun X_11 =>
    some X_11
    else none)
set_option maxRecDepth 100000 in
set_option maxHeartbeats 4000000 in
theorem wk_X7_send {p : Program} {l : Launch} {e : Env} {s : State} {m : MethodId} {args : Array Value} {below : List Frame} {meth : Method} {c : Code} {G : GP} {M : SM} {τ : SL} (C0 : g_mc p s m args meth c RX7 cX7_send none 5 G) {X0 : SM} (t0 : Nat) (ht0 : t0 < 2) (t1 : Nat) (ht1 : t1 < 12) (x2 : Int32) (x3 : Int32) (X : SM) (hf : fn_X7_send t0 t1 x2 x3 X = some X0) {H : Heap} {locs : List Loc} (hP : va_P G.1 g_cl (wd G (cb X M) τ) H) (hS : va_S (g_A G) s.heap H locs) {ls : Array Slot} (hl : lv_has ls 5 [(0, .ref (G.2.1 7 t0)), (1, .ref (G.2.1 9 t1)), (2, .int x2), (3, .int x3)]) : W p l e rm_X7_send s m args below meth c H locs 0 0 (MQ below (va_Qv (fun u => u = (X0, M, τ)) (g_pw G) (g_A G)) args s 0 0 (g_A G)) (F0 m 0 ls []) := by
  obtain ⟨hx, hb, hr, hml, hown, hts, hlocks, hC⟩ := id C0
  unfold fn_X7_send at hf
  refine lv_aload_n hx hb dX7_send_0 rfl (lv_at hl 0 rfl) ?_
  refine lv_iload_n hx hb dX7_send_1 rfl (lv_at hl 2 rfl) ?_
  refine lv_iconst (v := 3) hx hb dX7_send_2 (by decide) ?_
  obtain ⟨r_1, hc_2, hf⟩ := g_bindE hf
  refine x_callq (v := (X, M, τ)) (va_runV (As := [.int x2, .int 3]) (rest := []) ⟨hx, hb, hml, hown, hts⟩ (ct_X7_firstAt l G X M τ t0 ht0 x2 3 hc_2) (cwV 2 hts gd_X7_241 rfl rfl rfl hd_X7_firstAt ⟨Nat.le_of_ble_eq_true rfl, Nat.le_of_ble_eq_true rfl⟩) (x_preV (u := (X, M, τ)) (k := 7) (ci := 7) hC hS hP ht0 rfl rfl) rfl rfl hl.1 rfl (lv_room (Nat.le_of_ble_eq_true rfl)) dX7_send_3 ⟨Nat.zero_le _, Nat.zero_le _⟩) hS (fun H locs hP hS => ?_)
  rcases r_1 with _ | t_7
  · refine lv_astoreN (lv' := [(4, .null), (0, .ref (G.2.1 7 t0)), (1, .ref (G.2.1 9 t1)), (2, .int x2), (3, .int x3)]) hx hb dX7_send_6 hl (by decide) rfl (fun ls hl => ?_)
    refine lv_aloadN hx hb dX7_send_8 (lv_at hl 0 rfl) ?_
    refine lv_ifnonnullN hx hb dX7_send_10 ?_
    refine lv_aload_n hx hb dX7_send_13 rfl (lv_at hl 2 rfl) ?_
    refine gt_9_2 hx hb hts hown hC hP ht1 q19_8 dX7_send_14 ?_
    refine lv_iload_n hx hb dX7_send_17 rfl (lv_at hl 4 rfl) ?_
    obtain ⟨X_3, eX_3, hf⟩ := g_letE hf
    refine pt_4_3 hx hb hts hown hC hP hS ht1 q20_0 dX7_send_18 (fun H locs hP hS => ?_)
    rw [eX_3] at hP
    refine lv_aload_n hx hb dX7_send_21 rfl (lv_at hl 2 rfl) ?_
    refine lv_iconst (v := 2) hx hb dX7_send_22 (by decide) ?_
    obtain ⟨X_4, eX_4, hf⟩ := g_letE hf
    refine pt_9_9 hx hb hts hown hC hP hS ht1 q19_7 dX7_send_23 (fun H locs hP hS => ?_)
    rw [eX_4] at hP
    refine lv_aload_n hx hb dX7_send_26 rfl (lv_at hl 1 rfl) ?_
    refine gt_7_2 hx hb hts hown hC hP ht0 q3_18 dX7_send_27 ?_
    refine lv_iload_n hx hb dX7_send_30 rfl (lv_at hl 3 rfl) ?_
    refine lv_aload_n hx hb dX7_send_31 rfl (lv_at hl 2 rfl) ?_
    refine gt_9_0 hx hb hts hown hC hP ht1 q24_10 dX7_send_32 ?_
    obtain ⟨X_5, hc_6, hf⟩ := g_bindE hf
    refine x_callv (v := (X_5, M, τ)) (va_runV (As := [.int x2, .int (X_4 9 t1 0)]) (rest := []) ⟨hx, hb, hml, hown, hts⟩ (ct_X0_join l G X_4 M τ t0 ht0 x2 (X_4 9 t1 0) hc_6) (cwV 2 hts gd_X7_248 rfl rfl rfl hd_X0_join ⟨Nat.le_of_ble_eq_true rfl, Nat.le_of_ble_eq_true rfl⟩) (x_preV (u := (X_4, M, τ)) (k := 0) (ci := 0) hC hS hP ht0 rfl rfl) rfl rfl hl.1 rfl (lv_room (Nat.le_of_ble_eq_true rfl)) dX7_send_35 ⟨Nat.zero_le _, Nat.zero_le _⟩) hS (fun H locs hP hS => ?_)
    cases hf
    exact x_vret hx hb hlocks hC hP hS hr dX7_send_38
  · obtain ⟨hg_8, hf⟩ := g_gd hf
    refine lv_astore (lv' := [(4, .ref (G.2.1 9 t_7)), (0, .ref (G.2.1 7 t0)), (1, .ref (G.2.1 9 t1)), (2, .int x2), (3, .int x3)]) hx hb dX7_send_6 hl (by decide) rfl (fun ls hl => ?_)
    refine lv_aload hx hb dX7_send_8 (lv_at hl 0 rfl) ?_
    refine lv_ifnonnull (tgt := 39) hx hb dX7_send_10 (by decide) ?_
    refine lv_aload hx hb dX7_send_39 (lv_at hl 0 rfl) ?_
    refine lv_aload hx hb dX7_send_41 (lv_at hl 0 rfl) ?_
    refine gt_9_2 hx hb hts hown hC hP hg_8 q19_8 dX7_send_43 ?_
    refine gt_4_2 hx hb hts hown hC hP hg_8 q20_1 dX7_send_46 ?_
    refine lv_iload_n hx hb dX7_send_49 rfl (lv_at hl 4 rfl) ?_
    obtain ⟨X_9, hc_10, hf⟩ := g_bindE hf
    refine x_callv (v := (X_9, M, τ)) (va_runV (As := [.int (X 4 t_7 2), .int x3]) (rest := []) ⟨hx, hb, hml, hown, hts⟩ (ct_X9_write l G X M τ t_7 hg_8 (X 4 t_7 2) x3 hc_10) (cwV 2 hts gd_X7_146 rfl rfl rfl hd_X9_write ⟨Nat.le_of_ble_eq_true rfl, Nat.le_of_ble_eq_true rfl⟩) (x_preV (u := (X, M, τ)) (k := 9) (ci := 9) hC hS hP hg_8 rfl rfl) rfl rfl hl.1 rfl (lv_room (Nat.le_of_ble_eq_true rfl)) dX7_send_50 ⟨Nat.zero_le _, Nat.zero_le _⟩) hS (fun H locs hP hS => ?_)
    refine lv_aload_n hx hb dX7_send_53 rfl (lv_at hl 1 rfl) ?_
    refine lv_iload_n hx hb dX7_send_54 rfl (lv_at hl 3 rfl) ?_
    refine lv_aload hx hb dX7_send_55 (lv_at hl 0 rfl) ?_
    obtain ⟨X_11, hc_12, hf⟩ := g_bindE hf
    refine x_callv (v := (X_11, M, τ)) (va_runV (As := [.int x2, .ref (G.2.1 9 t_7)]) (rest := []) ⟨hx, hb, hml, hown, hts⟩ (ct_X7_release l G X_9 M τ t0 ht0 x2 t_7 hg_8 hc_12) (cwV 2 hts gd_X7_251 rfl rfl rfl hd_X7_release ⟨Nat.le_of_ble_eq_true rfl, Nat.le_of_ble_eq_true rfl⟩) (x_preV (u := (X_9, M, τ)) (k := 7) (ci := 7) hC hS hP ht0 rfl rfl) rfl rfl hl.1 rfl (lv_room (Nat.le_of_ble_eq_true rfl)) dX7_send_57 ⟨Nat.zero_le _, Nat.zero_le _⟩) hS (fun H locs hP hS => ?_)
    cases hf
    exact x_vret hx hb hlocks hC hP hS hr dX7_send_60
set_option maxRecDepth 100000 in
set_option maxHeartbeats 4000000 in
theorem ct_X7_send (l : Launch) (G : GP) (X M : SM) (τ : SL) (t0 : Nat) (ht0 : t0 < 2) (t1 : Nat) (ht1 : t1 < 12) (x2 : Int32) (x3 : Int32) {X0 : SM} (hf : fn_X7_send t0 t1 x2 x3 X = some X0) : Met l yX7_send (wz yX7_send cX7_send 5 none) rm_X7_send (va_Pc [.ref (G.2.1 7 t0), .ref (G.2.1 9 t1), .int x2, .int x3] (g_pw G (X, M, τ))) (va_Qv (fun u => u = (X0, M, τ)) (g_pw G) (g_A G)) 0 0 (g_A G) := by
  refine Met.ofW (cc := cX7_send) (maxL := 5) (ret := none) (by decide +kernel) rfl ?_
  intro p e s m args below meth c s₁ B hml hv
  obtain ⟨rfl, hC, hP⟩ := hv
  have C0 : g_mc p s m _ meth c RX7 cX7_send none 5 G := ⟨B.exec, B.bytes, B.returns, hml, findClass_of_methodNamed B.named, fun w h => atoms_spec (ws := wz yX7_send cX7_send 5 none) B.pre w (List.mem_cons_of_mem _ h), B.notSynchronized, hC⟩
  have hl := lv_entry ([.ref (G.2.1 7 t0), .ref (G.2.1 9 t1), .int x2, .int x3]) (n := 5) (Nat.le_of_ble_eq_true rfl)
  rw [lg_entry_eq]
  generalize (lg_sl ([.ref (G.2.1 7 t0), .ref (G.2.1 9 t1), .int x2, .int x3]) ++ List.replicate (5 - (lg_sl ([.ref (G.2.1 7 t0), .ref (G.2.1 9 t1), .int x2, .int x3])).length) Slot.unset).toArray = ls at hl ⊢
  exact wk_X7_send C0  t0 ht0 t1 ht1 x2 x3 X hf hP va_S.rf hl
abbrev rm_X7_take : Room := { frames := 2, cells := 0, slots := 0, locals := 47 }
def fn_X7_take (t0 : Nat) (t1 : Nat) (x2 : Int32) (x3 : Int32) (X : SM) : Option (SM) :=
  (fn_X7_firstAt t0 x2 2 X).bind fun r_1 =>
  match r_1 with
  | none =>
  (g_let (u1 X 4 t1 2 x3) fun X_3 =>
    g_let (u1 X_3 9 t1 9 3) fun X_4 =>
    (fn_X0_join t0 x2 (X_4 9 t1 0) X_4).bind fun X_5 =>
    some X_5)
  | some t_7 =>
  (if t_7 < 12 then
    (fn_X9_write t1 x3 (X 4 t_7 3) X).bind fun X_9 =>
    (fn_X7_release t0 x2 t_7 X_9).bind fun X_11 =>
    some X_11
    else none)
set_option maxRecDepth 100000 in
set_option maxHeartbeats 4000000 in
theorem wk_X7_take {p : Program} {l : Launch} {e : Env} {s : State} {m : MethodId} {args : Array Value} {below : List Frame} {meth : Method} {c : Code} {G : GP} {M : SM} {τ : SL} (C0 : g_mc p s m args meth c RX7 cX7_take none 5 G) {X0 : SM} (t0 : Nat) (ht0 : t0 < 2) (t1 : Nat) (ht1 : t1 < 12) (x2 : Int32) (x3 : Int32) (X : SM) (hf : fn_X7_take t0 t1 x2 x3 X = some X0) {H : Heap} {locs : List Loc} (hP : va_P G.1 g_cl (wd G (cb X M) τ) H) (hS : va_S (g_A G) s.heap H locs) {ls : Array Slot} (hl : lv_has ls 5 [(0, .ref (G.2.1 7 t0)), (1, .ref (G.2.1 9 t1)), (2, .int x2), (3, .int x3)]) : W p l e rm_X7_take s m args below meth c H locs 0 0 (MQ below (va_Qv (fun u => u = (X0, M, τ)) (g_pw G) (g_A G)) args s 0 0 (g_A G)) (F0 m 0 ls []) := by
  obtain ⟨hx, hb, hr, hml, hown, hts, hlocks, hC⟩ := id C0
  unfold fn_X7_take at hf
  refine lv_aload_n hx hb dX7_take_0 rfl (lv_at hl 0 rfl) ?_
  refine lv_iload_n hx hb dX7_take_1 rfl (lv_at hl 2 rfl) ?_
  refine lv_iconst (v := 2) hx hb dX7_take_2 (by decide) ?_
  obtain ⟨r_1, hc_2, hf⟩ := g_bindE hf
  refine x_callq (v := (X, M, τ)) (va_runV (As := [.int x2, .int 2]) (rest := []) ⟨hx, hb, hml, hown, hts⟩ (ct_X7_firstAt l G X M τ t0 ht0 x2 2 hc_2) (cwV 2 hts gd_X7_241 rfl rfl rfl hd_X7_firstAt ⟨Nat.le_of_ble_eq_true rfl, Nat.le_of_ble_eq_true rfl⟩) (x_preV (u := (X, M, τ)) (k := 7) (ci := 7) hC hS hP ht0 rfl rfl) rfl rfl hl.1 rfl (lv_room (Nat.le_of_ble_eq_true rfl)) dX7_take_3 ⟨Nat.zero_le _, Nat.zero_le _⟩) hS (fun H locs hP hS => ?_)
  rcases r_1 with _ | t_7
  · refine lv_astoreN (lv' := [(4, .null), (0, .ref (G.2.1 7 t0)), (1, .ref (G.2.1 9 t1)), (2, .int x2), (3, .int x3)]) hx hb dX7_take_6 hl (by decide) rfl (fun ls hl => ?_)
    refine lv_aloadN hx hb dX7_take_8 (lv_at hl 0 rfl) ?_
    refine lv_ifnonnullN hx hb dX7_take_10 ?_
    refine lv_aload_n hx hb dX7_take_13 rfl (lv_at hl 2 rfl) ?_
    refine gt_9_2 hx hb hts hown hC hP ht1 q19_8 dX7_take_14 ?_
    refine lv_iload_n hx hb dX7_take_17 rfl (lv_at hl 4 rfl) ?_
    obtain ⟨X_3, eX_3, hf⟩ := g_letE hf
    refine pt_4_2 hx hb hts hown hC hP hS ht1 q20_1 dX7_take_18 (fun H locs hP hS => ?_)
    rw [eX_3] at hP
    refine lv_aload_n hx hb dX7_take_21 rfl (lv_at hl 2 rfl) ?_
    refine lv_iconst (v := 3) hx hb dX7_take_22 (by decide) ?_
    obtain ⟨X_4, eX_4, hf⟩ := g_letE hf
    refine pt_9_9 hx hb hts hown hC hP hS ht1 q19_7 dX7_take_23 (fun H locs hP hS => ?_)
    rw [eX_4] at hP
    refine lv_aload_n hx hb dX7_take_26 rfl (lv_at hl 1 rfl) ?_
    refine gt_7_2 hx hb hts hown hC hP ht0 q3_18 dX7_take_27 ?_
    refine lv_iload_n hx hb dX7_take_30 rfl (lv_at hl 3 rfl) ?_
    refine lv_aload_n hx hb dX7_take_31 rfl (lv_at hl 2 rfl) ?_
    refine gt_9_0 hx hb hts hown hC hP ht1 q24_10 dX7_take_32 ?_
    obtain ⟨X_5, hc_6, hf⟩ := g_bindE hf
    refine x_callv (v := (X_5, M, τ)) (va_runV (As := [.int x2, .int (X_4 9 t1 0)]) (rest := []) ⟨hx, hb, hml, hown, hts⟩ (ct_X0_join l G X_4 M τ t0 ht0 x2 (X_4 9 t1 0) hc_6) (cwV 2 hts gd_X7_248 rfl rfl rfl hd_X0_join ⟨Nat.le_of_ble_eq_true rfl, Nat.le_of_ble_eq_true rfl⟩) (x_preV (u := (X_4, M, τ)) (k := 0) (ci := 0) hC hS hP ht0 rfl rfl) rfl rfl hl.1 rfl (lv_room (Nat.le_of_ble_eq_true rfl)) dX7_take_35 ⟨Nat.zero_le _, Nat.zero_le _⟩) hS (fun H locs hP hS => ?_)
    cases hf
    exact x_vret hx hb hlocks hC hP hS hr dX7_take_38
  · obtain ⟨hg_8, hf⟩ := g_gd hf
    refine lv_astore (lv' := [(4, .ref (G.2.1 9 t_7)), (0, .ref (G.2.1 7 t0)), (1, .ref (G.2.1 9 t1)), (2, .int x2), (3, .int x3)]) hx hb dX7_take_6 hl (by decide) rfl (fun ls hl => ?_)
    refine lv_aload hx hb dX7_take_8 (lv_at hl 0 rfl) ?_
    refine lv_ifnonnull (tgt := 39) hx hb dX7_take_10 (by decide) ?_
    refine lv_aload_n hx hb dX7_take_39 rfl (lv_at hl 2 rfl) ?_
    refine lv_iload_n hx hb dX7_take_40 rfl (lv_at hl 4 rfl) ?_
    refine lv_aload hx hb dX7_take_41 (lv_at hl 0 rfl) ?_
    refine gt_9_2 hx hb hts hown hC hP hg_8 q19_8 dX7_take_43 ?_
    refine gt_4_3 hx hb hts hown hC hP hg_8 q20_0 dX7_take_46 ?_
    obtain ⟨X_9, hc_10, hf⟩ := g_bindE hf
    refine x_callv (v := (X_9, M, τ)) (va_runV (As := [.int x3, .int (X 4 t_7 3)]) (rest := []) ⟨hx, hb, hml, hown, hts⟩ (ct_X9_write l G X M τ t1 ht1 x3 (X 4 t_7 3) hc_10) (cwV 2 hts gd_X7_146 rfl rfl rfl hd_X9_write ⟨Nat.le_of_ble_eq_true rfl, Nat.le_of_ble_eq_true rfl⟩) (x_preV (u := (X, M, τ)) (k := 9) (ci := 9) hC hS hP ht1 rfl rfl) rfl rfl hl.1 rfl (lv_room (Nat.le_of_ble_eq_true rfl)) dX7_take_49 ⟨Nat.zero_le _, Nat.zero_le _⟩) hS (fun H locs hP hS => ?_)
    refine lv_aload_n hx hb dX7_take_52 rfl (lv_at hl 1 rfl) ?_
    refine lv_iload_n hx hb dX7_take_53 rfl (lv_at hl 3 rfl) ?_
    refine lv_aload hx hb dX7_take_54 (lv_at hl 0 rfl) ?_
    obtain ⟨X_11, hc_12, hf⟩ := g_bindE hf
    refine x_callv (v := (X_11, M, τ)) (va_runV (As := [.int x2, .ref (G.2.1 9 t_7)]) (rest := []) ⟨hx, hb, hml, hown, hts⟩ (ct_X7_release l G X_9 M τ t0 ht0 x2 t_7 hg_8 hc_12) (cwV 2 hts gd_X7_251 rfl rfl rfl hd_X7_release ⟨Nat.le_of_ble_eq_true rfl, Nat.le_of_ble_eq_true rfl⟩) (x_preV (u := (X_9, M, τ)) (k := 7) (ci := 7) hC hS hP ht0 rfl rfl) rfl rfl hl.1 rfl (lv_room (Nat.le_of_ble_eq_true rfl)) dX7_take_56 ⟨Nat.zero_le _, Nat.zero_le _⟩) hS (fun H locs hP hS => ?_)
    cases hf
    exact x_vret hx hb hlocks hC hP hS hr dX7_take_59
set_option maxRecDepth 100000 in
set_option maxHeartbeats 4000000 in
theorem ct_X7_take (l : Launch) (G : GP) (X M : SM) (τ : SL) (t0 : Nat) (ht0 : t0 < 2) (t1 : Nat) (ht1 : t1 < 12) (x2 : Int32) (x3 : Int32) {X0 : SM} (hf : fn_X7_take t0 t1 x2 x3 X = some X0) : Met l yX7_take (wz yX7_take cX7_take 5 none) rm_X7_take (va_Pc [.ref (G.2.1 7 t0), .ref (G.2.1 9 t1), .int x2, .int x3] (g_pw G (X, M, τ))) (va_Qv (fun u => u = (X0, M, τ)) (g_pw G) (g_A G)) 0 0 (g_A G) := by
  refine Met.ofW (cc := cX7_take) (maxL := 5) (ret := none) (by decide +kernel) rfl ?_
  intro p e s m args below meth c s₁ B hml hv
  obtain ⟨rfl, hC, hP⟩ := hv
  have C0 : g_mc p s m _ meth c RX7 cX7_take none 5 G := ⟨B.exec, B.bytes, B.returns, hml, findClass_of_methodNamed B.named, fun w h => atoms_spec (ws := wz yX7_take cX7_take 5 none) B.pre w (List.mem_cons_of_mem _ h), B.notSynchronized, hC⟩
  have hl := lv_entry ([.ref (G.2.1 7 t0), .ref (G.2.1 9 t1), .int x2, .int x3]) (n := 5) (Nat.le_of_ble_eq_true rfl)
  rw [lg_entry_eq]
  generalize (lg_sl ([.ref (G.2.1 7 t0), .ref (G.2.1 9 t1), .int x2, .int x3]) ++ List.replicate (5 - (lg_sl ([.ref (G.2.1 7 t0), .ref (G.2.1 9 t1), .int x2, .int x3])).length) Slot.unset).toArray = ls at hl ⊢
  exact wk_X7_take C0  t0 ht0 t1 ht1 x2 x3 X hf hP va_S.rf hl
abbrev rm_X7_meetOthers : Room := { frames := 3, cells := 0, slots := 0, locals := 73 }
def fn_X7_meetOthers (t0 : Nat) (t1 : Nat) (x2 : Int32) (x3 : Int32) (x4 : Int32) (x5 : Int32) (X : SM) : Option (SM) :=
  if x2 = 10 then
  ((fn_X9_read t1 x4 X).bind fun r_30 =>
    (fn_X8_write t0 x3 (r_30 &&& 1) (X 7 t0 5) 0 X).bind fun X_32 =>
    some X_32)
  else
  (if x2 = 11 then
    ((fn_X9_read t1 x4 X).bind fun r_24 =>
      (fn_X9_read t1 x5 X).bind fun r_26 =>
      (fn_X7_writeAt t0 t1 x3 (r_24 &&& 1) r_26 X).bind fun X_28 =>
      some X_28)
    else
    (if x2 = 12 then
      ((fn_X8_levelOf t0 x3 X).bind fun r_20 =>
        (fn_X9_write t1 x4 r_20 X).bind fun X_22 =>
        some X_22)
      else
      (if x2 = 13 then
        ((fn_X9_read t1 x5 X).bind fun r_16 =>
          (fn_X7_readAt t0 t1 x3 x4 r_16 X).bind fun X_18 =>
          some X_18)
        else
        (if x2 = 14 then
          ((fn_X9_read t1 x3 X).bind fun r_9 =>
            if r_9 ≤ (X 7 t0 5) then
            (some X)
            else
            ((fn_X9_read t1 x3 X).bind fun r_12 =>
              g_let (fn_X7_waitTill t0 t1 14 r_12 X) fun X_14 =>
              some X_14))
          else
          (if x2 = 15 then
            ((fn_X9_write t1 x3 (X 7 t0 5) X).bind fun X_7 =>
              some X_7)
            else
            (if x2 = 16 then
              ((fn_X9_read t1 x4 X).bind fun r_3 =>
                (fn_X7_send t0 t1 x3 r_3 X).bind fun X_5 =>
                some X_5)
              else
              (if x2 = 17 then
                ((fn_X7_take t0 t1 x3 x4 X).bind fun X_1 =>
                  some X_1)
                else
                (some X))))))))
set_option maxRecDepth 100000 in
set_option maxHeartbeats 4000000 in
theorem wk_X7_meetOthers {p : Program} {l : Launch} {e : Env} {s : State} {m : MethodId} {args : Array Value} {below : List Frame} {meth : Method} {c : Code} {G : GP} {M : SM} {τ : SL} (C0 : g_mc p s m args meth c RX7 cX7_meetOthers none 6 G) {X0 : SM} (t0 : Nat) (ht0 : t0 < 2) (t1 : Nat) (ht1 : t1 < 12) (x2 : Int32) (x3 : Int32) (x4 : Int32) (x5 : Int32) (X : SM) (hf : fn_X7_meetOthers t0 t1 x2 x3 x4 x5 X = some X0) {H : Heap} {locs : List Loc} (hP : va_P G.1 g_cl (wd G (cb X M) τ) H) (hS : va_S (g_A G) s.heap H locs) {ls : Array Slot} (hl : lv_has ls 6 [(0, .ref (G.2.1 7 t0)), (1, .ref (G.2.1 9 t1)), (2, .int x2), (3, .int x3), (4, .int x4), (5, .int x5)]) : W p l e rm_X7_meetOthers s m args below meth c H locs 0 0 (MQ below (va_Qv (fun u => u = (X0, M, τ)) (g_pw G) (g_A G)) args s 0 0 (g_A G)) (F0 m 0 ls []) := by
  obtain ⟨hx, hb, hr, hml, hown, hts, hlocks, hC⟩ := id C0
  unfold fn_X7_meetOthers at hf
  refine lv_iload_n hx hb dX7_meetOthers_0 rfl (lv_at hl 2 rfl) ?_
  by_cases hs1_10 : x2 = 10
  · have hf := g_pos hf hs1_10
    refine lv_tableIn (off := 47) (tgt := 48) hx hb dX7_meetOthers_1 (by rw [hs1_10]; decide) (by rw [hs1_10]; decide) (by rw [hs1_10]; rfl) (by decide) ?_
    refine lv_aload_n hx hb dX7_meetOthers_48 rfl (lv_at hl 0 rfl) ?_
    refine gt_7_1 hx hb hts hown hC hP ht0 q3_14 dX7_meetOthers_49 ?_
    refine lv_iload_n hx hb dX7_meetOthers_52 rfl (lv_at hl 3 rfl) ?_
    refine lv_aload_n hx hb dX7_meetOthers_53 rfl (lv_at hl 1 rfl) ?_
    refine lv_iload hx hb dX7_meetOthers_54 (lv_at hl 4 rfl) ?_
    obtain ⟨r_30, hc_31, hf⟩ := g_bindE hf
    refine x_calli (v := (X, M, τ)) (va_runV (As := [.int x4]) (rest := [.int x3, .ref (G.2.1 8 t0)]) ⟨hx, hb, hml, hown, hts⟩ (ct_X9_read l G X M τ t1 ht1 x4 hc_31) (cwV 1 hts gd_X7_207 rfl rfl rfl hd_X9_read ⟨Nat.le_of_ble_eq_true rfl, Nat.le_of_ble_eq_true rfl⟩) (x_preV (u := (X, M, τ)) (k := 9) (ci := 9) hC hS hP ht1 rfl rfl) rfl rfl hl.1 rfl (lv_room (Nat.le_of_ble_eq_true rfl)) dX7_meetOthers_56 ⟨Nat.zero_le _, Nat.zero_le _⟩) hS (fun H locs hP hS => ?_)
    refine lv_iconst (v := 1) hx hb dX7_meetOthers_59 (by decide) ?_
    refine lv_iand hx hb dX7_meetOthers_60 ?_
    refine lv_aload_n hx hb dX7_meetOthers_61 rfl (lv_at hl 0 rfl) ?_
    refine gt_7_5 hx hb hts hown hC hP ht0 q17_14 dX7_meetOthers_62 ?_
    refine lv_iconst (v := 0) hx hb dX7_meetOthers_65 (by decide) ?_
    obtain ⟨X_32, hc_33, hf⟩ := g_bindE hf
    refine x_callv (v := (X_32, M, τ)) (va_runV (As := [.int x3, .int (r_30 &&& 1), .int (X 7 t0 5), .int 0]) (rest := []) ⟨hx, hb, hml, hown, hts⟩ (ct_X8_write l G X M τ t0 ht0 x3 (r_30 &&& 1) (X 7 t0 5) 0 hc_33) (cwV 4 hts gd_X7_135 rfl rfl rfl hd_X8_write ⟨Nat.le_of_ble_eq_true rfl, Nat.le_of_ble_eq_true rfl⟩) (x_preV (u := (X, M, τ)) (k := 8) (ci := 8) hC hS hP ht0 rfl rfl) rfl rfl hl.1 rfl (lv_room (Nat.le_of_ble_eq_true rfl)) dX7_meetOthers_66 ⟨Nat.zero_le _, Nat.zero_le _⟩) hS (fun H locs hP hS => ?_)
    refine lv_goto (tgt := 194) hx hb dX7_meetOthers_69 (by decide) ?_
    cases hf
    exact x_vret hx hb hlocks hC hP hS hr dX7_meetOthers_194
  · have hf := g_neg hf hs1_10
    by_cases hs1_11 : x2 = 11
    · have hf := g_pos hf hs1_11
      refine lv_tableIn (off := 71) (tgt := 72) hx hb dX7_meetOthers_1 (by rw [hs1_11]; decide) (by rw [hs1_11]; decide) (by rw [hs1_11]; rfl) (by decide) ?_
      refine lv_aload_n hx hb dX7_meetOthers_72 rfl (lv_at hl 0 rfl) ?_
      refine lv_aload_n hx hb dX7_meetOthers_73 rfl (lv_at hl 1 rfl) ?_
      refine lv_iload_n hx hb dX7_meetOthers_74 rfl (lv_at hl 3 rfl) ?_
      refine lv_aload_n hx hb dX7_meetOthers_75 rfl (lv_at hl 1 rfl) ?_
      refine lv_iload hx hb dX7_meetOthers_76 (lv_at hl 4 rfl) ?_
      obtain ⟨r_24, hc_25, hf⟩ := g_bindE hf
      refine x_calli (v := (X, M, τ)) (va_runV (As := [.int x4]) (rest := [.int x3, .ref (G.2.1 9 t1), .ref (G.2.1 7 t0)]) ⟨hx, hb, hml, hown, hts⟩ (ct_X9_read l G X M τ t1 ht1 x4 hc_25) (cwV 1 hts gd_X7_207 rfl rfl rfl hd_X9_read ⟨Nat.le_of_ble_eq_true rfl, Nat.le_of_ble_eq_true rfl⟩) (x_preV (u := (X, M, τ)) (k := 9) (ci := 9) hC hS hP ht1 rfl rfl) rfl rfl hl.1 rfl (lv_room (Nat.le_of_ble_eq_true rfl)) dX7_meetOthers_78 ⟨Nat.zero_le _, Nat.zero_le _⟩) hS (fun H locs hP hS => ?_)
      refine lv_iconst (v := 1) hx hb dX7_meetOthers_81 (by decide) ?_
      refine lv_iand hx hb dX7_meetOthers_82 ?_
      refine lv_aload_n hx hb dX7_meetOthers_83 rfl (lv_at hl 1 rfl) ?_
      refine lv_iload hx hb dX7_meetOthers_84 (lv_at hl 5 rfl) ?_
      obtain ⟨r_26, hc_27, hf⟩ := g_bindE hf
      refine x_calli (v := (X, M, τ)) (va_runV (As := [.int x5]) (rest := [.int (r_24 &&& 1), .int x3, .ref (G.2.1 9 t1), .ref (G.2.1 7 t0)]) ⟨hx, hb, hml, hown, hts⟩ (ct_X9_read l G X M τ t1 ht1 x5 hc_27) (cwV 1 hts gd_X7_207 rfl rfl rfl hd_X9_read ⟨Nat.le_of_ble_eq_true rfl, Nat.le_of_ble_eq_true rfl⟩) (x_preV (u := (X, M, τ)) (k := 9) (ci := 9) hC hS hP ht1 rfl rfl) rfl rfl hl.1 rfl (lv_room (Nat.le_of_ble_eq_true rfl)) dX7_meetOthers_86 ⟨Nat.zero_le _, Nat.zero_le _⟩) hS (fun H locs hP hS => ?_)
      obtain ⟨X_28, hc_29, hf⟩ := g_bindE hf
      refine x_callv (v := (X_28, M, τ)) (va_runV (As := [.ref (G.2.1 9 t1), .int x3, .int (r_24 &&& 1), .int r_26]) (rest := []) ⟨hx, hb, hml, hown, hts⟩ (ct_X7_writeAt l G X M τ t0 ht0 t1 ht1 x3 (r_24 &&& 1) r_26 hc_29) (cwV 4 hts gd_X7_219 rfl rfl rfl hd_X7_writeAt ⟨Nat.le_of_ble_eq_true rfl, Nat.le_of_ble_eq_true rfl⟩) (x_preV (u := (X, M, τ)) (k := 7) (ci := 7) hC hS hP ht0 rfl rfl) rfl rfl hl.1 rfl (lv_room (Nat.le_of_ble_eq_true rfl)) dX7_meetOthers_89 ⟨Nat.zero_le _, Nat.zero_le _⟩) hS (fun H locs hP hS => ?_)
      refine lv_goto (tgt := 194) hx hb dX7_meetOthers_92 (by decide) ?_
      cases hf
      exact x_vret hx hb hlocks hC hP hS hr dX7_meetOthers_194
    · have hf := g_neg hf hs1_11
      by_cases hs1_12 : x2 = 12
      · have hf := g_pos hf hs1_12
        refine lv_tableIn (off := 94) (tgt := 95) hx hb dX7_meetOthers_1 (by rw [hs1_12]; decide) (by rw [hs1_12]; decide) (by rw [hs1_12]; rfl) (by decide) ?_
        refine lv_aload_n hx hb dX7_meetOthers_95 rfl (lv_at hl 1 rfl) ?_
        refine lv_iload hx hb dX7_meetOthers_96 (lv_at hl 4 rfl) ?_
        refine lv_aload_n hx hb dX7_meetOthers_98 rfl (lv_at hl 0 rfl) ?_
        refine gt_7_1 hx hb hts hown hC hP ht0 q3_14 dX7_meetOthers_99 ?_
        refine lv_iload_n hx hb dX7_meetOthers_102 rfl (lv_at hl 3 rfl) ?_
        obtain ⟨r_20, hc_21, hf⟩ := g_bindE hf
        refine x_calli (v := (X, M, τ)) (va_runV (As := [.int x3]) (rest := [.int x4, .ref (G.2.1 9 t1)]) ⟨hx, hb, hml, hown, hts⟩ (ct_X8_levelOf l G X M τ t0 ht0 x3 hc_21) (cwV 1 hts gd_X7_142 rfl rfl rfl hd_X8_levelOf ⟨Nat.le_of_ble_eq_true rfl, Nat.le_of_ble_eq_true rfl⟩) (x_preV (u := (X, M, τ)) (k := 8) (ci := 8) hC hS hP ht0 rfl rfl) rfl rfl hl.1 rfl (lv_room (Nat.le_of_ble_eq_true rfl)) dX7_meetOthers_103 ⟨Nat.zero_le _, Nat.zero_le _⟩) hS (fun H locs hP hS => ?_)
        obtain ⟨X_22, hc_23, hf⟩ := g_bindE hf
        refine x_callv (v := (X_22, M, τ)) (va_runV (As := [.int x4, .int r_20]) (rest := []) ⟨hx, hb, hml, hown, hts⟩ (ct_X9_write l G X M τ t1 ht1 x4 r_20 hc_23) (cwV 2 hts gd_X7_146 rfl rfl rfl hd_X9_write ⟨Nat.le_of_ble_eq_true rfl, Nat.le_of_ble_eq_true rfl⟩) (x_preV (u := (X, M, τ)) (k := 9) (ci := 9) hC hS hP ht1 rfl rfl) rfl rfl hl.1 rfl (lv_room (Nat.le_of_ble_eq_true rfl)) dX7_meetOthers_106 ⟨Nat.zero_le _, Nat.zero_le _⟩) hS (fun H locs hP hS => ?_)
        refine lv_goto (tgt := 194) hx hb dX7_meetOthers_109 (by decide) ?_
        cases hf
        exact x_vret hx hb hlocks hC hP hS hr dX7_meetOthers_194
      · have hf := g_neg hf hs1_12
        by_cases hs1_13 : x2 = 13
        · have hf := g_pos hf hs1_13
          refine lv_tableIn (off := 111) (tgt := 112) hx hb dX7_meetOthers_1 (by rw [hs1_13]; decide) (by rw [hs1_13]; decide) (by rw [hs1_13]; rfl) (by decide) ?_
          refine lv_aload_n hx hb dX7_meetOthers_112 rfl (lv_at hl 0 rfl) ?_
          refine lv_aload_n hx hb dX7_meetOthers_113 rfl (lv_at hl 1 rfl) ?_
          refine lv_iload_n hx hb dX7_meetOthers_114 rfl (lv_at hl 3 rfl) ?_
          refine lv_iload hx hb dX7_meetOthers_115 (lv_at hl 4 rfl) ?_
          refine lv_aload_n hx hb dX7_meetOthers_117 rfl (lv_at hl 1 rfl) ?_
          refine lv_iload hx hb dX7_meetOthers_118 (lv_at hl 5 rfl) ?_
          obtain ⟨r_16, hc_17, hf⟩ := g_bindE hf
          refine x_calli (v := (X, M, τ)) (va_runV (As := [.int x5]) (rest := [.int x4, .int x3, .ref (G.2.1 9 t1), .ref (G.2.1 7 t0)]) ⟨hx, hb, hml, hown, hts⟩ (ct_X9_read l G X M τ t1 ht1 x5 hc_17) (cwV 1 hts gd_X7_207 rfl rfl rfl hd_X9_read ⟨Nat.le_of_ble_eq_true rfl, Nat.le_of_ble_eq_true rfl⟩) (x_preV (u := (X, M, τ)) (k := 9) (ci := 9) hC hS hP ht1 rfl rfl) rfl rfl hl.1 rfl (lv_room (Nat.le_of_ble_eq_true rfl)) dX7_meetOthers_120 ⟨Nat.zero_le _, Nat.zero_le _⟩) hS (fun H locs hP hS => ?_)
          obtain ⟨X_18, hc_19, hf⟩ := g_bindE hf
          refine x_callv (v := (X_18, M, τ)) (va_runV (As := [.ref (G.2.1 9 t1), .int x3, .int x4, .int r_16]) (rest := []) ⟨hx, hb, hml, hown, hts⟩ (ct_X7_readAt l G X M τ t0 ht0 t1 ht1 x3 x4 r_16 hc_19) (cwV 4 hts gd_X7_223 rfl rfl rfl hd_X7_readAt ⟨Nat.le_of_ble_eq_true rfl, Nat.le_of_ble_eq_true rfl⟩) (x_preV (u := (X, M, τ)) (k := 7) (ci := 7) hC hS hP ht0 rfl rfl) rfl rfl hl.1 rfl (lv_room (Nat.le_of_ble_eq_true rfl)) dX7_meetOthers_123 ⟨Nat.zero_le _, Nat.zero_le _⟩) hS (fun H locs hP hS => ?_)
          refine lv_goto (tgt := 194) hx hb dX7_meetOthers_126 (by decide) ?_
          cases hf
          exact x_vret hx hb hlocks hC hP hS hr dX7_meetOthers_194
        · have hf := g_neg hf hs1_13
          by_cases hs1_14 : x2 = 14
          · have hf := g_pos hf hs1_14
            refine lv_tableIn (off := 128) (tgt := 129) hx hb dX7_meetOthers_1 (by rw [hs1_14]; decide) (by rw [hs1_14]; decide) (by rw [hs1_14]; rfl) (by decide) ?_
            refine lv_aload_n hx hb dX7_meetOthers_129 rfl (lv_at hl 1 rfl) ?_
            refine lv_iload_n hx hb dX7_meetOthers_130 rfl (lv_at hl 3 rfl) ?_
            obtain ⟨r_9, hc_10, hf⟩ := g_bindE hf
            refine x_calli (v := (X, M, τ)) (va_runV (As := [.int x3]) (rest := []) ⟨hx, hb, hml, hown, hts⟩ (ct_X9_read l G X M τ t1 ht1 x3 hc_10) (cwV 1 hts gd_X7_207 rfl rfl rfl hd_X9_read ⟨Nat.le_of_ble_eq_true rfl, Nat.le_of_ble_eq_true rfl⟩) (x_preV (u := (X, M, τ)) (k := 9) (ci := 9) hC hS hP ht1 rfl rfl) rfl rfl hl.1 rfl (lv_room (Nat.le_of_ble_eq_true rfl)) dX7_meetOthers_131 ⟨Nat.zero_le _, Nat.zero_le _⟩) hS (fun H locs hP hS => ?_)
            refine lv_aload_n hx hb dX7_meetOthers_134 rfl (lv_at hl 0 rfl) ?_
            refine gt_7_5 hx hb hts hown hC hP ht0 q17_14 dX7_meetOthers_135 ?_
            refine lv_icmp_le (tgt := 194) hx hb dX7_meetOthers_138 (by decide) (fun hc_11 => ?_) (fun hc_11 => ?_)
            · have hf := g_pos hf hc_11
              cases hf
              exact x_vret hx hb hlocks hC hP hS hr dX7_meetOthers_194
            · have hf := g_neg hf hc_11
              refine lv_aload_n hx hb dX7_meetOthers_141 rfl (lv_at hl 0 rfl) ?_
              refine lv_aload_n hx hb dX7_meetOthers_142 rfl (lv_at hl 1 rfl) ?_
              refine lv_bipush (v := 14) hx hb dX7_meetOthers_143 (by decide) ?_
              refine lv_aload_n hx hb dX7_meetOthers_145 rfl (lv_at hl 1 rfl) ?_
              refine lv_iload_n hx hb dX7_meetOthers_146 rfl (lv_at hl 3 rfl) ?_
              obtain ⟨r_12, hc_13, hf⟩ := g_bindE hf
              refine x_calli (v := (X, M, τ)) (va_runV (As := [.int x3]) (rest := [.int 14, .ref (G.2.1 9 t1), .ref (G.2.1 7 t0)]) ⟨hx, hb, hml, hown, hts⟩ (ct_X9_read l G X M τ t1 ht1 x3 hc_13) (cwV 1 hts gd_X7_207 rfl rfl rfl hd_X9_read ⟨Nat.le_of_ble_eq_true rfl, Nat.le_of_ble_eq_true rfl⟩) (x_preV (u := (X, M, τ)) (k := 9) (ci := 9) hC hS hP ht1 rfl rfl) rfl rfl hl.1 rfl (lv_room (Nat.le_of_ble_eq_true rfl)) dX7_meetOthers_147 ⟨Nat.zero_le _, Nat.zero_le _⟩) hS (fun H locs hP hS => ?_)
              obtain ⟨X_14, hc_15, hf⟩ := g_letE hf
              refine x_callv (v := (X_14, M, τ)) (va_runV (As := [.ref (G.2.1 9 t1), .int 14, .int r_12]) (rest := []) ⟨hx, hb, hml, hown, hts⟩ (ct_X7_waitTill l G X M τ t0 ht0 t1 ht1 14 r_12 hc_15) (cwV 3 hts gd_X7_226 rfl rfl rfl hd_X7_waitTill ⟨Nat.le_of_ble_eq_true rfl, Nat.le_of_ble_eq_true rfl⟩) (x_preV (u := (X, M, τ)) (k := 7) (ci := 7) hC hS hP ht0 rfl rfl) rfl rfl hl.1 rfl (lv_room (Nat.le_of_ble_eq_true rfl)) dX7_meetOthers_150 ⟨Nat.zero_le _, Nat.zero_le _⟩) hS (fun H locs hP hS => ?_)
              refine lv_goto (tgt := 194) hx hb dX7_meetOthers_153 (by decide) ?_
              cases hf
              exact x_vret hx hb hlocks hC hP hS hr dX7_meetOthers_194
          · have hf := g_neg hf hs1_14
            by_cases hs1_15 : x2 = 15
            · have hf := g_pos hf hs1_15
              refine lv_tableIn (off := 155) (tgt := 156) hx hb dX7_meetOthers_1 (by rw [hs1_15]; decide) (by rw [hs1_15]; decide) (by rw [hs1_15]; rfl) (by decide) ?_
              refine lv_aload_n hx hb dX7_meetOthers_156 rfl (lv_at hl 1 rfl) ?_
              refine lv_iload_n hx hb dX7_meetOthers_157 rfl (lv_at hl 3 rfl) ?_
              refine lv_aload_n hx hb dX7_meetOthers_158 rfl (lv_at hl 0 rfl) ?_
              refine gt_7_5 hx hb hts hown hC hP ht0 q17_14 dX7_meetOthers_159 ?_
              obtain ⟨X_7, hc_8, hf⟩ := g_bindE hf
              refine x_callv (v := (X_7, M, τ)) (va_runV (As := [.int x3, .int (X 7 t0 5)]) (rest := []) ⟨hx, hb, hml, hown, hts⟩ (ct_X9_write l G X M τ t1 ht1 x3 (X 7 t0 5) hc_8) (cwV 2 hts gd_X7_146 rfl rfl rfl hd_X9_write ⟨Nat.le_of_ble_eq_true rfl, Nat.le_of_ble_eq_true rfl⟩) (x_preV (u := (X, M, τ)) (k := 9) (ci := 9) hC hS hP ht1 rfl rfl) rfl rfl hl.1 rfl (lv_room (Nat.le_of_ble_eq_true rfl)) dX7_meetOthers_162 ⟨Nat.zero_le _, Nat.zero_le _⟩) hS (fun H locs hP hS => ?_)
              refine lv_goto (tgt := 194) hx hb dX7_meetOthers_165 (by decide) ?_
              cases hf
              exact x_vret hx hb hlocks hC hP hS hr dX7_meetOthers_194
            · have hf := g_neg hf hs1_15
              by_cases hs1_16 : x2 = 16
              · have hf := g_pos hf hs1_16
                refine lv_tableIn (off := 167) (tgt := 168) hx hb dX7_meetOthers_1 (by rw [hs1_16]; decide) (by rw [hs1_16]; decide) (by rw [hs1_16]; rfl) (by decide) ?_
                refine lv_aload_n hx hb dX7_meetOthers_168 rfl (lv_at hl 0 rfl) ?_
                refine lv_aload_n hx hb dX7_meetOthers_169 rfl (lv_at hl 1 rfl) ?_
                refine lv_iload_n hx hb dX7_meetOthers_170 rfl (lv_at hl 3 rfl) ?_
                refine lv_aload_n hx hb dX7_meetOthers_171 rfl (lv_at hl 1 rfl) ?_
                refine lv_iload hx hb dX7_meetOthers_172 (lv_at hl 4 rfl) ?_
                obtain ⟨r_3, hc_4, hf⟩ := g_bindE hf
                refine x_calli (v := (X, M, τ)) (va_runV (As := [.int x4]) (rest := [.int x3, .ref (G.2.1 9 t1), .ref (G.2.1 7 t0)]) ⟨hx, hb, hml, hown, hts⟩ (ct_X9_read l G X M τ t1 ht1 x4 hc_4) (cwV 1 hts gd_X7_207 rfl rfl rfl hd_X9_read ⟨Nat.le_of_ble_eq_true rfl, Nat.le_of_ble_eq_true rfl⟩) (x_preV (u := (X, M, τ)) (k := 9) (ci := 9) hC hS hP ht1 rfl rfl) rfl rfl hl.1 rfl (lv_room (Nat.le_of_ble_eq_true rfl)) dX7_meetOthers_174 ⟨Nat.zero_le _, Nat.zero_le _⟩) hS (fun H locs hP hS => ?_)
                obtain ⟨X_5, hc_6, hf⟩ := g_bindE hf
                refine x_callv (v := (X_5, M, τ)) (va_runV (As := [.ref (G.2.1 9 t1), .int x3, .int r_3]) (rest := []) ⟨hx, hb, hml, hown, hts⟩ (ct_X7_send l G X M τ t0 ht0 t1 ht1 x3 r_3 hc_6) (cwV 3 hts gd_X7_230 rfl rfl rfl hd_X7_send ⟨Nat.le_of_ble_eq_true rfl, Nat.le_of_ble_eq_true rfl⟩) (x_preV (u := (X, M, τ)) (k := 7) (ci := 7) hC hS hP ht0 rfl rfl) rfl rfl hl.1 rfl (lv_room (Nat.le_of_ble_eq_true rfl)) dX7_meetOthers_177 ⟨Nat.zero_le _, Nat.zero_le _⟩) hS (fun H locs hP hS => ?_)
                refine lv_goto (tgt := 194) hx hb dX7_meetOthers_180 (by decide) ?_
                cases hf
                exact x_vret hx hb hlocks hC hP hS hr dX7_meetOthers_194
              · have hf := g_neg hf hs1_16
                by_cases hs1_17 : x2 = 17
                · have hf := g_pos hf hs1_17
                  refine lv_tableIn (off := 182) (tgt := 183) hx hb dX7_meetOthers_1 (by rw [hs1_17]; decide) (by rw [hs1_17]; decide) (by rw [hs1_17]; rfl) (by decide) ?_
                  refine lv_aload_n hx hb dX7_meetOthers_183 rfl (lv_at hl 0 rfl) ?_
                  refine lv_aload_n hx hb dX7_meetOthers_184 rfl (lv_at hl 1 rfl) ?_
                  refine lv_iload_n hx hb dX7_meetOthers_185 rfl (lv_at hl 3 rfl) ?_
                  refine lv_iload hx hb dX7_meetOthers_186 (lv_at hl 4 rfl) ?_
                  obtain ⟨X_1, hc_2, hf⟩ := g_bindE hf
                  refine x_callv (v := (X_1, M, τ)) (va_runV (As := [.ref (G.2.1 9 t1), .int x3, .int x4]) (rest := []) ⟨hx, hb, hml, hown, hts⟩ (ct_X7_take l G X M τ t0 ht0 t1 ht1 x3 x4 hc_2) (cwV 3 hts gd_X7_233 rfl rfl rfl hd_X7_take ⟨Nat.le_of_ble_eq_true rfl, Nat.le_of_ble_eq_true rfl⟩) (x_preV (u := (X, M, τ)) (k := 7) (ci := 7) hC hS hP ht0 rfl rfl) rfl rfl hl.1 rfl (lv_room (Nat.le_of_ble_eq_true rfl)) dX7_meetOthers_188 ⟨Nat.zero_le _, Nat.zero_le _⟩) hS (fun H locs hP hS => ?_)
                  refine lv_goto (tgt := 194) hx hb dX7_meetOthers_191 (by decide) ?_
                  cases hf
                  exact x_vret hx hb hlocks hC hP hS hr dX7_meetOthers_194
                · have hf := g_neg hf hs1_17
                  have nhs1_10 : x2.toInt ≠ 10 := fun h => hs1_10 (Int32.toInt_inj.mp (by rw [h]; rfl))
                  have nhs1_11 : x2.toInt ≠ 11 := fun h => hs1_11 (Int32.toInt_inj.mp (by rw [h]; rfl))
                  have nhs1_12 : x2.toInt ≠ 12 := fun h => hs1_12 (Int32.toInt_inj.mp (by rw [h]; rfl))
                  have nhs1_13 : x2.toInt ≠ 13 := fun h => hs1_13 (Int32.toInt_inj.mp (by rw [h]; rfl))
                  have nhs1_14 : x2.toInt ≠ 14 := fun h => hs1_14 (Int32.toInt_inj.mp (by rw [h]; rfl))
                  have nhs1_15 : x2.toInt ≠ 15 := fun h => hs1_15 (Int32.toInt_inj.mp (by rw [h]; rfl))
                  have nhs1_16 : x2.toInt ≠ 16 := fun h => hs1_16 (Int32.toInt_inj.mp (by rw [h]; rfl))
                  have nhs1_17 : x2.toInt ≠ 17 := fun h => hs1_17 (Int32.toInt_inj.mp (by rw [h]; rfl))
                  refine lv_tableOut (tgt := 194) hx hb dX7_meetOthers_1 (by omega) (by decide) ?_
                  cases hf
                  exact x_vret hx hb hlocks hC hP hS hr dX7_meetOthers_194
set_option maxRecDepth 100000 in
set_option maxHeartbeats 4000000 in
theorem ct_X7_meetOthers (l : Launch) (G : GP) (X M : SM) (τ : SL) (t0 : Nat) (ht0 : t0 < 2) (t1 : Nat) (ht1 : t1 < 12) (x2 : Int32) (x3 : Int32) (x4 : Int32) (x5 : Int32) {X0 : SM} (hf : fn_X7_meetOthers t0 t1 x2 x3 x4 x5 X = some X0) : Met l yX7_meetOthers (wz yX7_meetOthers cX7_meetOthers 6 none) rm_X7_meetOthers (va_Pc [.ref (G.2.1 7 t0), .ref (G.2.1 9 t1), .int x2, .int x3, .int x4, .int x5] (g_pw G (X, M, τ))) (va_Qv (fun u => u = (X0, M, τ)) (g_pw G) (g_A G)) 0 0 (g_A G) := by
  refine Met.ofW (cc := cX7_meetOthers) (maxL := 6) (ret := none) (by decide +kernel) rfl ?_
  intro p e s m args below meth c s₁ B hml hv
  obtain ⟨rfl, hC, hP⟩ := hv
  have C0 : g_mc p s m _ meth c RX7 cX7_meetOthers none 6 G := ⟨B.exec, B.bytes, B.returns, hml, findClass_of_methodNamed B.named, fun w h => atoms_spec (ws := wz yX7_meetOthers cX7_meetOthers 6 none) B.pre w (List.mem_cons_of_mem _ h), B.notSynchronized, hC⟩
  have hl := lv_entry ([.ref (G.2.1 7 t0), .ref (G.2.1 9 t1), .int x2, .int x3, .int x4, .int x5]) (n := 6) (Nat.le_of_ble_eq_true rfl)
  rw [lg_entry_eq]
  generalize (lg_sl ([.ref (G.2.1 7 t0), .ref (G.2.1 9 t1), .int x2, .int x3, .int x4, .int x5]) ++ List.replicate (6 - (lg_sl ([.ref (G.2.1 7 t0), .ref (G.2.1 9 t1), .int x2, .int x3, .int x4, .int x5])).length) Slot.unset).toArray = ls at hl ⊢
  exact wk_X7_meetOthers C0  t0 ht0 t1 ht1 x2 x3 x4 x5 X hf hP va_S.rf hl
abbrev rm_X9_load : Room := { frames := 2, cells := 0, slots := 0, locals := 42 }
def fn_X9_load (t0 : Nat) (x1 : Int32) (x2 : Int32) (X : SM) : Option (SM) :=
  g_let (fn_X9_hasCell t0 x2 X) fun r_1 =>
  if r_1 = 0 then
  (some X)
  else
  (if g_in x2 16 then
    (fn_X9_write t0 x1 (X 32 t0 (x2.toNatClampNeg)) X).bind fun X_5 =>
    some X_5
    else none)
set_option maxRecDepth 100000 in
set_option maxHeartbeats 4000000 in
theorem wk_X9_load {p : Program} {l : Launch} {e : Env} {s : State} {m : MethodId} {args : Array Value} {below : List Frame} {meth : Method} {c : Code} {G : GP} {M : SM} {τ : SL} (C0 : g_mc p s m args meth c RX9 cX9_load none 3 G) {X0 : SM} (t0 : Nat) (ht0 : t0 < 12) (x1 : Int32) (x2 : Int32) (X : SM) (hf : fn_X9_load t0 x1 x2 X = some X0) {H : Heap} {locs : List Loc} (hP : va_P G.1 g_cl (wd G (cb X M) τ) H) (hS : va_S (g_A G) s.heap H locs) {ls : Array Slot} (hl : lv_has ls 3 [(0, .ref (G.2.1 9 t0)), (1, .int x1), (2, .int x2)]) : W p l e rm_X9_load s m args below meth c H locs 0 0 (MQ below (va_Qv (fun u => u = (X0, M, τ)) (g_pw G) (g_A G)) args s 0 0 (g_A G)) (F0 m 0 ls []) := by
  obtain ⟨hx, hb, hr, hml, hown, hts, hlocks, hC⟩ := id C0
  unfold fn_X9_load at hf
  refine lv_aload_n hx hb dX9_load_0 rfl (lv_at hl 0 rfl) ?_
  refine lv_iload_n hx hb dX9_load_1 rfl (lv_at hl 2 rfl) ?_
  obtain ⟨r_1, hc_2, hf⟩ := g_letE hf
  refine x_calli (v := (X, M, τ)) (va_runV (As := [.int x2]) (rest := []) ⟨hx, hb, hml, hown, hts⟩ (ct_X9_hasCell l G X M τ t0 ht0 x2 hc_2) (cwV 1 hts gd_X9_92 rfl rfl rfl hd_X9_hasCell ⟨Nat.le_of_ble_eq_true rfl, Nat.le_of_ble_eq_true rfl⟩) (x_preV (u := (X, M, τ)) (k := 9) (ci := 9) hC hS hP ht0 rfl rfl) rfl rfl hl.1 rfl (lv_room (Nat.le_of_ble_eq_true rfl)) dX9_load_2 ⟨Nat.zero_le _, Nat.zero_le _⟩) hS (fun H locs hP hS => ?_)
  refine lv_if_eq (tgt := 19) hx hb dX9_load_5 (by decide) (fun hc_3 => ?_) (fun hc_3 => ?_)
  · have hf := g_pos hf hc_3
    cases hf
    exact x_vret hx hb hlocks hC hP hS hr dX9_load_19
  · have hf := g_neg hf hc_3
    refine lv_aload_n hx hb dX9_load_8 rfl (lv_at hl 0 rfl) ?_
    refine lv_iload_n hx hb dX9_load_9 rfl (lv_at hl 1 rfl) ?_
    refine lv_aload_n hx hb dX9_load_10 rfl (lv_at hl 0 rfl) ?_
    refine gt_9_4 hx hb hts hown hC hP ht0 q5_10 dX9_load_11 ?_
    refine lv_iload_n hx hb dX9_load_14 rfl (lv_at hl 2 rfl) ?_
    obtain ⟨hg_4, hf⟩ := g_gd hf
    refine xildX (k := 32) (n := 16) hx hb hC hP (fun _ _ => rfl) rfl ht0 hg_4 dX9_load_15 ?_
    obtain ⟨X_5, hc_6, hf⟩ := g_bindE hf
    refine x_callv (v := (X_5, M, τ)) (va_runV (As := [.int x1, .int (X 32 t0 (x2.toNatClampNeg))]) (rest := []) ⟨hx, hb, hml, hown, hts⟩ (ct_X9_write l G X M τ t0 ht0 x1 (X 32 t0 (x2.toNatClampNeg)) hc_6) (cwV 2 hts gd_X9_75 rfl rfl rfl hd_X9_write ⟨Nat.le_of_ble_eq_true rfl, Nat.le_of_ble_eq_true rfl⟩) (x_preV (u := (X, M, τ)) (k := 9) (ci := 9) hC hS hP ht0 rfl rfl) rfl rfl hl.1 rfl (lv_room (Nat.le_of_ble_eq_true rfl)) dX9_load_16 ⟨Nat.zero_le _, Nat.zero_le _⟩) hS (fun H locs hP hS => ?_)
    cases hf
    exact x_vret hx hb hlocks hC hP hS hr dX9_load_19
set_option maxRecDepth 100000 in
set_option maxHeartbeats 4000000 in
theorem ct_X9_load (l : Launch) (G : GP) (X M : SM) (τ : SL) (t0 : Nat) (ht0 : t0 < 12) (x1 : Int32) (x2 : Int32) {X0 : SM} (hf : fn_X9_load t0 x1 x2 X = some X0) : Met l yX9_load (wz yX9_load cX9_load 3 none) rm_X9_load (va_Pc [.ref (G.2.1 9 t0), .int x1, .int x2] (g_pw G (X, M, τ))) (va_Qv (fun u => u = (X0, M, τ)) (g_pw G) (g_A G)) 0 0 (g_A G) := by
  refine Met.ofW (cc := cX9_load) (maxL := 3) (ret := none) (by decide +kernel) rfl ?_
  intro p e s m args below meth c s₁ B hml hv
  obtain ⟨rfl, hC, hP⟩ := hv
  have C0 : g_mc p s m _ meth c RX9 cX9_load none 3 G := ⟨B.exec, B.bytes, B.returns, hml, findClass_of_methodNamed B.named, fun w h => atoms_spec (ws := wz yX9_load cX9_load 3 none) B.pre w (List.mem_cons_of_mem _ h), B.notSynchronized, hC⟩
  have hl := lv_entry ([.ref (G.2.1 9 t0), .int x1, .int x2]) (n := 3) (Nat.le_of_ble_eq_true rfl)
  rw [lg_entry_eq]
  generalize (lg_sl ([.ref (G.2.1 9 t0), .int x1, .int x2]) ++ List.replicate (3 - (lg_sl ([.ref (G.2.1 9 t0), .int x1, .int x2])).length) Slot.unset).toArray = ls at hl ⊢
  exact wk_X9_load C0  t0 ht0 x1 x2 X hf hP va_S.rf hl
