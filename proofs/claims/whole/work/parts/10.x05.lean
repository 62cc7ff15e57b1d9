abbrev rm_X9_store : Room := { frames := 1, cells := 0, slots := 0, locals := 21 }
def fn_X9_store (t0 : Nat) (x1 : Int32) (x2 : Int32) (X : SM) : Option (SM) :=
  g_let (fn_X9_hasCell t0 x1 X) fun r_1 =>
  if r_1 = 0 then
  (some X)
  else
  (if g_in x1 16 then
    g_let (u1 X 32 t0 (x1.toNatClampNeg) x2) fun X_5 =>
    some X_5
    else none)
set_option maxRecDepth 100000 in
set_option maxHeartbeats 4000000 in
theorem wk_X9_store {p : Program} {l : Launch} {e : Env} {s : State} {m : MethodId} {args : Array Value} {below : List Frame} {meth : Method} {c : Code} {G : GP} {M : SM} {τ : SL} (C0 : g_mc p s m args meth c RX9 cX9_store none 3 G) {X0 : SM} (t0 : Nat) (ht0 : t0 < 12) (x1 : Int32) (x2 : Int32) (X : SM) (hf : fn_X9_store t0 x1 x2 X = some X0) {H : Heap} {locs : List Loc} (hP : va_P G.1 g_cl (wd G (cb X M) τ) H) (hS : va_S (g_A G) s.heap H locs) {ls : Array Slot} (hl : lv_has ls 3 [(0, .ref (G.2.1 9 t0)), (1, .int x1), (2, .int x2)]) : W p l e rm_X9_store s m args below meth c H locs 0 0 (MQ below (va_Qv (fun u => u = (X0, M, τ)) (g_pw G) (g_A G)) args s 0 0 (g_A G)) (F0 m 0 ls []) := by
  obtain ⟨hx, hb, hr, hml, hown, hts, hlocks, hC⟩ := id C0
  unfold fn_X9_store at hf
  refine lv_aload_n hx hb dX9_store_0 rfl (lv_at hl 0 rfl) ?_
  refine lv_iload_n hx hb dX9_store_1 rfl (lv_at hl 1 rfl) ?_
  obtain ⟨r_1, hc_2, hf⟩ := g_letE hf
  refine x_calli (v := (X, M, τ)) (va_runV (As := [.int x1]) (rest := []) ⟨hx, hb, hml, hown, hts⟩ (ct_X9_hasCell l G X M τ t0 ht0 x1 hc_2) (cwV 1 hts gd_X9_92 rfl rfl rfl hd_X9_hasCell ⟨Nat.le_of_ble_eq_true rfl, Nat.le_of_ble_eq_true rfl⟩) (x_preV (u := (X, M, τ)) (k := 9) (ci := 9) hC hS hP ht0 rfl rfl) rfl rfl hl.1 rfl (lv_room (Nat.le_of_ble_eq_true rfl)) dX9_store_2 ⟨Nat.zero_le _, Nat.zero_le _⟩) hS (fun H locs hP hS => ?_)
  refine lv_if_eq (tgt := 15) hx hb dX9_store_5 (by decide) (fun hc_3 => ?_) (fun hc_3 => ?_)
  · have hf := g_pos hf hc_3
    cases hf
    exact x_vret hx hb hlocks hC hP hS hr dX9_store_15
  · have hf := g_neg hf hc_3
    refine lv_aload_n hx hb dX9_store_8 rfl (lv_at hl 0 rfl) ?_
    refine gt_9_4 hx hb hts hown hC hP ht0 q5_10 dX9_store_9 ?_
    refine lv_iload_n hx hb dX9_store_12 rfl (lv_at hl 1 rfl) ?_
    refine lv_iload_n hx hb dX9_store_13 rfl (lv_at hl 2 rfl) ?_
    obtain ⟨hg_4, hf⟩ := g_gd hf
    obtain ⟨X_5, eX_5, hf⟩ := g_letE hf
    refine xistX (k := 32) (n := 16) hx hb hC hP hS (fun _ _ => rfl) rfl ht0 hg_4 dX9_store_14 (fun H locs hP hS => ?_)
    rw [eX_5] at hP
    cases hf
    exact x_vret hx hb hlocks hC hP hS hr dX9_store_15
set_option maxRecDepth 100000 in
set_option maxHeartbeats 4000000 in
theorem ct_X9_store (l : Launch) (G : GP) (X M : SM) (τ : SL) (t0 : Nat) (ht0 : t0 < 12) (x1 : Int32) (x2 : Int32) {X0 : SM} (hf : fn_X9_store t0 x1 x2 X = some X0) : Met l yX9_store (wz yX9_store cX9_store 3 none) rm_X9_store (va_Pc [.ref (G.2.1 9 t0), .int x1, .int x2] (g_pw G (X, M, τ))) (va_Qv (fun u => u = (X0, M, τ)) (g_pw G) (g_A G)) 0 0 (g_A G) := by
  refine Met.ofW (cc := cX9_store) (maxL := 3) (ret := none) (by decide +kernel) rfl ?_
  intro p e s m args below meth c s₁ B hml hv
  obtain ⟨rfl, hC, hP⟩ := hv
  have C0 : g_mc p s m _ meth c RX9 cX9_store none 3 G := ⟨B.exec, B.bytes, B.returns, hml, findClass_of_methodNamed B.named, fun w h => atoms_spec (ws := wz yX9_store cX9_store 3 none) B.pre w (List.mem_cons_of_mem _ h), B.notSynchronized, hC⟩
  have hl := lv_entry ([.ref (G.2.1 9 t0), .int x1, .int x2]) (n := 3) (Nat.le_of_ble_eq_true rfl)
  rw [lg_entry_eq]
  generalize (lg_sl ([.ref (G.2.1 9 t0), .int x1, .int x2]) ++ List.replicate (3 - (lg_sl ([.ref (G.2.1 9 t0), .int x1, .int x2])).length) Slot.unset).toArray = ls at hl ⊢
  exact wk_X9_store C0  t0 ht0 x1 x2 X hf hP va_S.rf hl
abbrev rm_X11_bitsOf : Room := { frames := 0, cells := 0, slots := 0, locals := 0 }
def wb_X11_bitsOf_48 (k48 : UInt32 → UInt32 → Int32 → Int32 → Option (Int32)) (x0 : UInt32) (x1 : UInt32) (x2 : Int32) (x3 : Int32) : Option (Int32) :=
  if 64 ≤ x3 then
  (g_let (((x2 <<< (23 &&& 31)) ||| ((FP.f2i x1) &&& 8388607))) fun x3_10 =>
    if 0 ≤ (Op.cmpValue (FP.fcmp x0 0) CmpOp.g) then
    (some x3_10)
    else
    (some (x3_10 ||| (-2147483648))))
  else
  (if 0 ≤ (Op.cmpValue (FP.fcmp x1 1258291200) CmpOp.g) then
    (g_let (((x2 <<< (23 &&& 31)) ||| ((FP.f2i x1) &&& 8388607))) fun x3_13 =>
      if 0 ≤ (Op.cmpValue (FP.fcmp x0 0) CmpOp.g) then
      (some x3_13)
      else
      (some (x3_13 ||| (-2147483648))))
    else
    (if g_n32 (FP.fmul x1 1073741824) then
      g_let ((FP.fmul x1 1073741824)) fun x1_16 =>
      g_let (x2 + (-1)) fun x2_17 =>
      g_let (x3 + 1) fun x3_18 =>
      k48 x0 x1_16 x2_17 x3_18
      else none))
set_option maxRecDepth 100000 in
set_option maxHeartbeats 4000000 in
theorem bk_X11_bitsOf_48 {p : Program} {l : Launch} {e : Env} {s : State} {m : MethodId} {args : Array Value} {below : List Frame} {meth : Method} {c : Code} {G : GP} {X : SM} {M : SM} {τ : SL} (C0 : g_mc p s m args meth c RX11 cX11_bitsOf (some .int) 4 G) {r0 : Int32} (k48 : UInt32 → UInt32 → Int32 → Int32 → Option (Int32)) (hk48 : ∀ (x0 : UInt32) (x1 : UInt32) (x2 : Int32) (x3 : Int32), k48 x0 x1 x2 x3 = some r0 → ∀ {H : Heap} {locs : List Loc}, va_P G.1 g_cl (wd G (cb X M) τ) H → va_S (g_A G) s.heap H locs → ∀ {ls : Array Slot}, lv_has ls 4 [(0, .float x0), (1, .float x1), (2, .int x2), (3, .int x3)] → W p l e rm_X11_bitsOf s m args below meth c H locs 0 0 (MQ below (va_Qi (fun r u => r = r0 ∧ u = (X, M, τ)) (g_pw G) (g_A G)) args s 0 0 (g_A G)) (F0 m 48 ls [])) (x0 : UInt32) (x1 : UInt32) (x2 : Int32) (x3 : Int32) (hf : wb_X11_bitsOf_48 k48 x0 x1 x2 x3 = some r0) {H : Heap} {locs : List Loc} (hP : va_P G.1 g_cl (wd G (cb X M) τ) H) (hS : va_S (g_A G) s.heap H locs) {ls : Array Slot} (hl : lv_has ls 4 [(0, .float x0), (1, .float x1), (2, .int x2), (3, .int x3)]) : W p l e rm_X11_bitsOf s m args below meth c H locs 0 0 (MQ below (va_Qi (fun r u => r = r0 ∧ u = (X, M, τ)) (g_pw G) (g_A G)) args s 0 0 (g_A G)) (F0 m 48 ls []) := by
  obtain ⟨hx, hb, hr, hml, hown, hts, hlocks, hC⟩ := id C0
  unfold wb_X11_bitsOf_48 at hf
  refine lv_iload_n hx hb dX11_bitsOf_48 rfl (lv_at hl 3 rfl) ?_
  refine lv_bipush (v := 64) hx hb dX11_bitsOf_49 (by decide) ?_
  refine lv_icmp_ge (tgt := 75) hx hb dX11_bitsOf_51 (by decide) (fun hc_9 => ?_) (fun hc_9 => ?_)
  · have hf := g_pos hf hc_9
    refine lv_iload_n hx hb dX11_bitsOf_75 rfl (lv_at hl 2 rfl) ?_
    refine lv_bipush (v := 23) hx hb dX11_bitsOf_76 (by decide) ?_
    refine lv_ishl hx hb dX11_bitsOf_78 ?_
    refine lv_fload_n hx hb dX11_bitsOf_79 rfl (lv_at hl 1 rfl) ?_
    refine lv_f2i hx hb dX11_bitsOf_80 ?_
    refine lv_ldcw (v := 8388607) hx hb hown (hts _ q26_9) dX11_bitsOf_81 ?_
    refine lv_iand hx hb dX11_bitsOf_84 ?_
    refine lv_ior hx hb dX11_bitsOf_85 ?_
    obtain ⟨x3_10, ex3_10, hf⟩ := g_letE hf
    refine lv_topE ex3_10 ?_
    refine lv_istore_n (lv' := [(3, .int x3_10), (0, .float x0), (1, .float x1), (2, .int x2)]) hx hb dX11_bitsOf_86 rfl hl (by decide) rfl (fun ls hl => ?_)
    refine lv_fload_n hx hb dX11_bitsOf_87 rfl (lv_at hl 1 rfl) ?_
    refine lv_fconst0 hx hb dX11_bitsOf_88 ?_
    refine lv_fcmp hx hb dX11_bitsOf_89 ?_
    refine lv_if_ge (tgt := 101) hx hb dX11_bitsOf_90 (by decide) (fun hc_11 => ?_) (fun hc_11 => ?_)
    · have hf := g_pos hf hc_11
      refine lv_iload_n hx hb dX11_bitsOf_101 rfl (lv_at hl 0 rfl) ?_
      cases hf
      exact x_iret hx hb hlocks hC hP hS hr dX11_bitsOf_102
    · have hf := g_neg hf hc_11
      refine lv_iload_n hx hb dX11_bitsOf_93 rfl (lv_at hl 0 rfl) ?_
      refine lv_ldcw (v := (-2147483648)) hx hb hown (hts _ q26_3) dX11_bitsOf_94 ?_
      refine lv_ior hx hb dX11_bitsOf_97 ?_
      refine lv_goto (tgt := 102) hx hb dX11_bitsOf_98 (by decide) ?_
      cases hf
      exact x_iret hx hb hlocks hC hP hS hr dX11_bitsOf_102
  · have hf := g_neg hf hc_9
    refine lv_fload_n hx hb dX11_bitsOf_54 rfl (lv_at hl 1 rfl) ?_
    refine lv_ldcwf (v := 1258291200) hx hb hown (hts _ q26_8) dX11_bitsOf_55 ?_
    refine lv_fcmp hx hb dX11_bitsOf_58 ?_
    refine lv_if_ge (tgt := 75) hx hb dX11_bitsOf_59 (by decide) (fun hc_12 => ?_) (fun hc_12 => ?_)
    · have hf := g_pos hf hc_12
      refine lv_iload_n hx hb dX11_bitsOf_75 rfl (lv_at hl 2 rfl) ?_
      refine lv_bipush (v := 23) hx hb dX11_bitsOf_76 (by decide) ?_
      refine lv_ishl hx hb dX11_bitsOf_78 ?_
      refine lv_fload_n hx hb dX11_bitsOf_79 rfl (lv_at hl 1 rfl) ?_
      refine lv_f2i hx hb dX11_bitsOf_80 ?_
      refine lv_ldcw (v := 8388607) hx hb hown (hts _ q26_9) dX11_bitsOf_81 ?_
      refine lv_iand hx hb dX11_bitsOf_84 ?_
      refine lv_ior hx hb dX11_bitsOf_85 ?_
      obtain ⟨x3_13, ex3_13, hf⟩ := g_letE hf
      refine lv_topE ex3_13 ?_
      refine lv_istore_n (lv' := [(3, .int x3_13), (0, .float x0), (1, .float x1), (2, .int x2)]) hx hb dX11_bitsOf_86 rfl hl (by decide) rfl (fun ls hl => ?_)
      refine lv_fload_n hx hb dX11_bitsOf_87 rfl (lv_at hl 1 rfl) ?_
      refine lv_fconst0 hx hb dX11_bitsOf_88 ?_
      refine lv_fcmp hx hb dX11_bitsOf_89 ?_
      refine lv_if_ge (tgt := 101) hx hb dX11_bitsOf_90 (by decide) (fun hc_14 => ?_) (fun hc_14 => ?_)
      · have hf := g_pos hf hc_14
        refine lv_iload_n hx hb dX11_bitsOf_101 rfl (lv_at hl 0 rfl) ?_
        cases hf
        exact x_iret hx hb hlocks hC hP hS hr dX11_bitsOf_102
      · have hf := g_neg hf hc_14
        refine lv_iload_n hx hb dX11_bitsOf_93 rfl (lv_at hl 0 rfl) ?_
        refine lv_ldcw (v := (-2147483648)) hx hb hown (hts _ q26_3) dX11_bitsOf_94 ?_
        refine lv_ior hx hb dX11_bitsOf_97 ?_
        refine lv_goto (tgt := 102) hx hb dX11_bitsOf_98 (by decide) ?_
        cases hf
        exact x_iret hx hb hlocks hC hP hS hr dX11_bitsOf_102
    · have hf := g_neg hf hc_12
      refine lv_fload_n hx hb dX11_bitsOf_62 rfl (lv_at hl 1 rfl) ?_
      refine lv_fconst2 hx hb dX11_bitsOf_63 ?_
      obtain ⟨hg_15, hf⟩ := g_gd hf
      refine lv_fmul hx hb dX11_bitsOf_64 hg_15 ?_
      obtain ⟨x1_16, ex1_16, hf⟩ := g_letE hf
      refine lv_topfE ex1_16 ?_
      refine lv_fstore_n (lv' := [(1, .float x1_16), (0, .float x0), (2, .int x2), (3, .int x3)]) hx hb dX11_bitsOf_65 rfl hl (by decide) rfl (fun ls hl => ?_)
      obtain ⟨x2_17, ex2_17, hf⟩ := g_letE hf
      refine lv_iinc (v := x2_17) (lv' := [(2, .int x2_17), (1, .float x1_16), (0, .float x0), (3, .int x3)]) hx hb dX11_bitsOf_66 hl (k := 2) rfl (by rw [← ex2_17]; rfl) (by decide) rfl (fun ls hl => ?_)
      obtain ⟨x3_18, ex3_18, hf⟩ := g_letE hf
      refine lv_iinc (v := x3_18) (lv' := [(3, .int x3_18), (2, .int x2_17), (1, .float x1_16), (0, .float x0)]) hx hb dX11_bitsOf_69 hl (k := 3) rfl (by rw [← ex3_18]; rfl) (by decide) rfl (fun ls hl => ?_)
      refine lv_goto (tgt := 48) hx hb dX11_bitsOf_72 (by decide) ?_
      exact hk48 x0 x1_16 x2_17 x3_18 hf hP hS (lv_sub hl [3, 2, 1, 0] rfl)
def wl_X11_bitsOf_48 (n : Nat) (x0 : UInt32) (x1 : UInt32) (x2 : Int32) (x3 : Int32) : Option (Int32) := g_loop (α := UInt32 × UInt32 × Int32 × Int32) (fun k a => wb_X11_bitsOf_48 (fun x0 x1 x2 x3 => k (x0, x1, x2, x3)) a.1 a.2.1 a.2.2.1 a.2.2.2) n (x0, x1, x2, x3)
set_option maxRecDepth 100000 in
set_option maxHeartbeats 4000000 in
theorem lp_X11_bitsOf_48 {p : Program} {l : Launch} {e : Env} {s : State} {m : MethodId} {args : Array Value} {below : List Frame} {meth : Method} {c : Code} {G : GP} {X : SM} {M : SM} {τ : SL} (C0 : g_mc p s m args meth c RX11 cX11_bitsOf (some .int) 4 G) {r0 : Int32} (n : Nat) : ∀ (x0 : UInt32) (x1 : UInt32) (x2 : Int32) (x3 : Int32), wl_X11_bitsOf_48 n x0 x1 x2 x3 = some r0 → ∀ {H : Heap} {locs : List Loc}, va_P G.1 g_cl (wd G (cb X M) τ) H → va_S (g_A G) s.heap H locs → ∀ {ls : Array Slot}, lv_has ls 4 [(0, .float x0), (1, .float x1), (2, .int x2), (3, .int x3)] → W p l e rm_X11_bitsOf s m args below meth c H locs 0 0 (MQ below (va_Qi (fun r u => r = r0 ∧ u = (X, M, τ)) (g_pw G) (g_A G)) args s 0 0 (g_A G)) (F0 m 48 ls []) := by
  induction n with
  | zero =>
    intro x0 x1 x2 x3 hf
    have hf : (none : Option (Int32)) = _ := hf
    cases hf
  | succ n ih =>
    intro x0 x1 x2 x3 hf H locs hP hS ls hl
    exact bk_X11_bitsOf_48 C0   (fun x0 x1 x2 x3 => wl_X11_bitsOf_48   n x0 x1 x2 x3) ih x0 x1 x2 x3 hf hP hS hl
def wb_X11_bitsOf_19 (k19 : UInt32 → UInt32 → Int32 → Int32 → Option (Int32)) (x0 : UInt32) (x1 : UInt32) (x2 : Int32) (x3 : Int32) : Option (Int32) :=
  if 64 ≤ x3 then
  (wl_X11_bitsOf_48 1000 x0 x1 x2 0)
  else
  (if (Op.cmpValue (FP.fcmp x1 1266679808) CmpOp.l) < 0 then
    (wl_X11_bitsOf_48 1000 x0 x1 x2 0)
    else
    (if g_n32 (FP.fdiv x1 1073741824) then
      g_let ((FP.fdiv x1 1073741824)) fun x1_6 =>
      g_let (x2 + 1) fun x2_7 =>
      g_let (x3 + 1) fun x3_8 =>
      k19 x0 x1_6 x2_7 x3_8
      else none))
set_option maxRecDepth 100000 in
set_option maxHeartbeats 4000000 in
theorem bk_X11_bitsOf_19 {p : Program} {l : Launch} {e : Env} {s : State} {m : MethodId} {args : Array Value} {below : List Frame} {meth : Method} {c : Code} {G : GP} {X : SM} {M : SM} {τ : SL} (C0 : g_mc p s m args meth c RX11 cX11_bitsOf (some .int) 4 G) {r0 : Int32} (k19 : UInt32 → UInt32 → Int32 → Int32 → Option (Int32)) (hk19 : ∀ (x0 : UInt32) (x1 : UInt32) (x2 : Int32) (x3 : Int32), k19 x0 x1 x2 x3 = some r0 → ∀ {H : Heap} {locs : List Loc}, va_P G.1 g_cl (wd G (cb X M) τ) H → va_S (g_A G) s.heap H locs → ∀ {ls : Array Slot}, lv_has ls 4 [(0, .float x0), (1, .float x1), (2, .int x2), (3, .int x3)] → W p l e rm_X11_bitsOf s m args below meth c H locs 0 0 (MQ below (va_Qi (fun r u => r = r0 ∧ u = (X, M, τ)) (g_pw G) (g_A G)) args s 0 0 (g_A G)) (F0 m 19 ls [])) (x0 : UInt32) (x1 : UInt32) (x2 : Int32) (x3 : Int32) (hf : wb_X11_bitsOf_19 k19 x0 x1 x2 x3 = some r0) {H : Heap} {locs : List Loc} (hP : va_P G.1 g_cl (wd G (cb X M) τ) H) (hS : va_S (g_A G) s.heap H locs) {ls : Array Slot} (hl : lv_has ls 4 [(0, .float x0), (1, .float x1), (2, .int x2), (3, .int x3)]) : W p l e rm_X11_bitsOf s m args below meth c H locs 0 0 (MQ below (va_Qi (fun r u => r = r0 ∧ u = (X, M, τ)) (g_pw G) (g_A G)) args s 0 0 (g_A G)) (F0 m 19 ls []) := by
  obtain ⟨hx, hb, hr, hml, hown, hts, hlocks, hC⟩ := id C0
  unfold wb_X11_bitsOf_19 at hf
  refine lv_iload_n hx hb dX11_bitsOf_19 rfl (lv_at hl 3 rfl) ?_
  refine lv_bipush (v := 64) hx hb dX11_bitsOf_20 (by decide) ?_
  refine lv_icmp_ge (tgt := 46) hx hb dX11_bitsOf_22 (by decide) (fun hc_3 => ?_) (fun hc_3 => ?_)
  · have hf := g_pos hf hc_3
    refine lv_iconst (v := 0) hx hb dX11_bitsOf_46 (by decide) ?_
    refine lv_istore_n (lv' := [(3, .int 0), (0, .float x0), (1, .float x1), (2, .int x2)]) hx hb dX11_bitsOf_47 rfl hl (by decide) rfl (fun ls hl => ?_)
    exact lp_X11_bitsOf_48 C0 1000 x0 x1 x2 0 hf hP hS (lv_sub hl [1, 2, 3, 0] rfl)
  · have hf := g_neg hf hc_3
    refine lv_fload_n hx hb dX11_bitsOf_25 rfl (lv_at hl 1 rfl) ?_
    refine lv_ldcwf (v := 1266679808) hx hb hown (hts _ q26_7) dX11_bitsOf_26 ?_
    refine lv_fcmp hx hb dX11_bitsOf_29 ?_
    refine lv_if_lt (tgt := 46) hx hb dX11_bitsOf_30 (by decide) (fun hc_4 => ?_) (fun hc_4 => ?_)
    · have hf := g_pos hf hc_4
      refine lv_iconst (v := 0) hx hb dX11_bitsOf_46 (by decide) ?_
      refine lv_istore_n (lv' := [(3, .int 0), (0, .float x0), (1, .float x1), (2, .int x2)]) hx hb dX11_bitsOf_47 rfl hl (by decide) rfl (fun ls hl => ?_)
      exact lp_X11_bitsOf_48 C0 1000 x0 x1 x2 0 hf hP hS (lv_sub hl [1, 2, 3, 0] rfl)
    · have hf := g_neg hf hc_4
      refine lv_fload_n hx hb dX11_bitsOf_33 rfl (lv_at hl 1 rfl) ?_
      refine lv_fconst2 hx hb dX11_bitsOf_34 ?_
      obtain ⟨hg_5, hf⟩ := g_gd hf
      refine lv_fdiv hx hb dX11_bitsOf_35 hg_5 ?_
      obtain ⟨x1_6, ex1_6, hf⟩ := g_letE hf
      refine lv_topfE ex1_6 ?_
      refine lv_fstore_n (lv' := [(1, .float x1_6), (0, .float x0), (2, .int x2), (3, .int x3)]) hx hb dX11_bitsOf_36 rfl hl (by decide) rfl (fun ls hl => ?_)
      obtain ⟨x2_7, ex2_7, hf⟩ := g_letE hf
      refine lv_iinc (v := x2_7) (lv' := [(2, .int x2_7), (1, .float x1_6), (0, .float x0), (3, .int x3)]) hx hb dX11_bitsOf_37 hl (k := 2) rfl (by rw [← ex2_7]; rfl) (by decide) rfl (fun ls hl => ?_)
      obtain ⟨x3_8, ex3_8, hf⟩ := g_letE hf
      refine lv_iinc (v := x3_8) (lv' := [(3, .int x3_8), (2, .int x2_7), (1, .float x1_6), (0, .float x0)]) hx hb dX11_bitsOf_40 hl (k := 3) rfl (by rw [← ex3_8]; rfl) (by decide) rfl (fun ls hl => ?_)
      refine lv_goto (tgt := 19) hx hb dX11_bitsOf_43 (by decide) ?_
      exact hk19 x0 x1_6 x2_7 x3_8 hf hP hS (lv_sub hl [3, 2, 1, 0] rfl)
def wl_X11_bitsOf_19 (n : Nat) (x0 : UInt32) (x1 : UInt32) (x2 : Int32) (x3 : Int32) : Option (Int32) := g_loop (α := UInt32 × UInt32 × Int32 × Int32) (fun k a => wb_X11_bitsOf_19 (fun x0 x1 x2 x3 => k (x0, x1, x2, x3)) a.1 a.2.1 a.2.2.1 a.2.2.2) n (x0, x1, x2, x3)
set_option maxRecDepth 100000 in
set_option maxHeartbeats 4000000 in
theorem lp_X11_bitsOf_19 {p : Program} {l : Launch} {e : Env} {s : State} {m : MethodId} {args : Array Value} {below : List Frame} {meth : Method} {c : Code} {G : GP} {X : SM} {M : SM} {τ : SL} (C0 : g_mc p s m args meth c RX11 cX11_bitsOf (some .int) 4 G) {r0 : Int32} (n : Nat) : ∀ (x0 : UInt32) (x1 : UInt32) (x2 : Int32) (x3 : Int32), wl_X11_bitsOf_19 n x0 x1 x2 x3 = some r0 → ∀ {H : Heap} {locs : List Loc}, va_P G.1 g_cl (wd G (cb X M) τ) H → va_S (g_A G) s.heap H locs → ∀ {ls : Array Slot}, lv_has ls 4 [(0, .float x0), (1, .float x1), (2, .int x2), (3, .int x3)] → W p l e rm_X11_bitsOf s m args below meth c H locs 0 0 (MQ below (va_Qi (fun r u => r = r0 ∧ u = (X, M, τ)) (g_pw G) (g_A G)) args s 0 0 (g_A G)) (F0 m 19 ls []) := by
  induction n with
  | zero =>
    intro x0 x1 x2 x3 hf
    have hf : (none : Option (Int32)) = _ := hf
    cases hf
  | succ n ih =>
    intro x0 x1 x2 x3 hf H locs hP hS ls hl
    exact bk_X11_bitsOf_19 C0   (fun x0 x1 x2 x3 => wl_X11_bitsOf_19   n x0 x1 x2 x3) ih x0 x1 x2 x3 hf hP hS hl
def fn_X11_bitsOf (x0 : UInt32) : Option (Int32) :=
  if 0 ≤ (Op.cmpValue (FP.fcmp x0 0) CmpOp.g) then
  (wl_X11_bitsOf_19 1000 x0 x0 150 0)
  else
  (g_let ((FP.fneg x0)) fun x1_2 =>
    wl_X11_bitsOf_19 1000 x0 x1_2 150 0)
set_option maxRecDepth 100000 in
set_option maxHeartbeats 4000000 in
theorem wk_X11_bitsOf {p : Program} {l : Launch} {e : Env} {s : State} {m : MethodId} {args : Array Value} {below : List Frame} {meth : Method} {c : Code} {G : GP} {X : SM} {M : SM} {τ : SL} (C0 : g_mc p s m args meth c RX11 cX11_bitsOf (some .int) 4 G) {r0 : Int32} (x0 : UInt32) (hf : fn_X11_bitsOf x0 = some r0) {H : Heap} {locs : List Loc} (hP : va_P G.1 g_cl (wd G (cb X M) τ) H) (hS : va_S (g_A G) s.heap H locs) {ls : Array Slot} (hl : lv_has ls 4 [(0, .float x0)]) : W p l e rm_X11_bitsOf s m args below meth c H locs 0 0 (MQ below (va_Qi (fun r u => r = r0 ∧ u = (X, M, τ)) (g_pw G) (g_A G)) args s 0 0 (g_A G)) (F0 m 0 ls []) := by
  obtain ⟨hx, hb, hr, hml, hown, hts, hlocks, hC⟩ := id C0
  unfold fn_X11_bitsOf at hf
  refine lv_fload_n hx hb dX11_bitsOf_0 rfl (lv_at hl 0 rfl) ?_
  refine lv_fconst0 hx hb dX11_bitsOf_1 ?_
  refine lv_fcmp hx hb dX11_bitsOf_2 ?_
  refine lv_if_ge (tgt := 11) hx hb dX11_bitsOf_3 (by decide) (fun hc_1 => ?_) (fun hc_1 => ?_)
  · have hf := g_pos hf hc_1
    refine lv_fload_n hx hb dX11_bitsOf_11 rfl (lv_at hl 0 rfl) ?_
    refine lv_fstore_n (lv' := [(1, .float x0), (0, .float x0)]) hx hb dX11_bitsOf_12 rfl hl (by decide) rfl (fun ls hl => ?_)
    refine lv_sipush (v := 150) hx hb dX11_bitsOf_13 (by decide) ?_
    refine lv_istore_n (lv' := [(2, .int 150), (1, .float x0), (0, .float x0)]) hx hb dX11_bitsOf_16 rfl hl (by decide) rfl (fun ls hl => ?_)
    refine lv_iconst (v := 0) hx hb dX11_bitsOf_17 (by decide) ?_
    refine lv_istore_n (lv' := [(3, .int 0), (2, .int 150), (1, .float x0), (0, .float x0)]) hx hb dX11_bitsOf_18 rfl hl (by decide) rfl (fun ls hl => ?_)
    exact lp_X11_bitsOf_19 C0 1000 x0 x0 150 0 hf hP hS (lv_sub hl [3, 2, 1, 0] rfl)
  · have hf := g_neg hf hc_1
    refine lv_fload_n hx hb dX11_bitsOf_6 rfl (lv_at hl 0 rfl) ?_
    refine lv_fneg hx hb dX11_bitsOf_7 ?_
    refine lv_goto (tgt := 12) hx hb dX11_bitsOf_8 (by decide) ?_
    obtain ⟨x1_2, ex1_2, hf⟩ := g_letE hf
    refine lv_topfE ex1_2 ?_
    refine lv_fstore_n (lv' := [(1, .float x1_2), (0, .float x0)]) hx hb dX11_bitsOf_12 rfl hl (by decide) rfl (fun ls hl => ?_)
    refine lv_sipush (v := 150) hx hb dX11_bitsOf_13 (by decide) ?_
    refine lv_istore_n (lv' := [(2, .int 150), (1, .float x1_2), (0, .float x0)]) hx hb dX11_bitsOf_16 rfl hl (by decide) rfl (fun ls hl => ?_)
    refine lv_iconst (v := 0) hx hb dX11_bitsOf_17 (by decide) ?_
    refine lv_istore_n (lv' := [(3, .int 0), (2, .int 150), (1, .float x1_2), (0, .float x0)]) hx hb dX11_bitsOf_18 rfl hl (by decide) rfl (fun ls hl => ?_)
    exact lp_X11_bitsOf_19 C0 1000 x0 x1_2 150 0 hf hP hS (lv_sub hl [3, 2, 1, 0] rfl)
set_option maxRecDepth 100000 in
set_option maxHeartbeats 4000000 in
theorem ct_X11_bitsOf (l : Launch) (G : GP) (X M : SM) (τ : SL) (x0 : UInt32) {r0 : Int32} (hf : fn_X11_bitsOf x0 = some r0) : Met l yX11_bitsOf (wz yX11_bitsOf cX11_bitsOf 4 (some .int)) rm_X11_bitsOf (va_Pc [.float x0] (g_pw G (X, M, τ))) (va_Qi (fun r u => r = r0 ∧ u = (X, M, τ)) (g_pw G) (g_A G)) 0 0 (g_A G) := by
  refine Met.ofW (cc := cX11_bitsOf) (maxL := 4) (ret := (some .int)) (by decide +kernel) rfl ?_
  intro p e s m args below meth c s₁ B hml hv
  obtain ⟨rfl, hC, hP⟩ := hv
  have C0 : g_mc p s m _ meth c RX11 cX11_bitsOf (some .int) 4 G := ⟨B.exec, B.bytes, B.returns, hml, findClass_of_methodNamed B.named, fun w h => atoms_spec (ws := wz yX11_bitsOf cX11_bitsOf 4 (some .int)) B.pre w (List.mem_cons_of_mem _ h), B.notSynchronized, hC⟩
  have hl := lv_entry ([.float x0]) (n := 4) (Nat.le_of_ble_eq_true rfl)
  rw [lg_entry_eq]
  generalize (lg_sl ([.float x0]) ++ List.replicate (4 - (lg_sl ([.float x0])).length) Slot.unset).toArray = ls at hl ⊢
  exact wk_X11_bitsOf C0  x0 hf hP va_S.rf hl
abbrev rm_X11_ratioBits : Room := { frames := 1, cells := 0, slots := 0, locals := 23 }
def fn_X11_ratioBits (x0 : Int32) (x1 : Int32) : Option (Int32) :=
  if x1 = 0 then
  (if x0 = 0 then
    (some 2143289344)
    else
    (if 0 ≤ x0 then
      (some 2139095040)
      else
      (some (-8388608))))
  else
  (if x0 = 0 then
    (if 0 ≤ x1 then
      (some 0)
      else
      (some (-2147483648)))
    else
    (if g_n32 (FP.fdiv (FP.i2f x0) (FP.i2f x1)) then
      (fn_X11_bitsOf (FP.fdiv (FP.i2f x0) (FP.i2f x1))).bind fun r_4 =>
      some r_4
      else none))
set_option maxRecDepth 100000 in
set_option maxHeartbeats 4000000 in
theorem wk_X11_ratioBits {p : Program} {l : Launch} {e : Env} {s : State} {m : MethodId} {args : Array Value} {below : List Frame} {meth : Method} {c : Code} {G : GP} {X : SM} {M : SM} {τ : SL} (C0 : g_mc p s m args meth c RX11 cX11_ratioBits (some .int) 2 G) {r0 : Int32} (x0 : Int32) (x1 : Int32) (hf : fn_X11_ratioBits x0 x1 = some r0) {H : Heap} {locs : List Loc} (hP : va_P G.1 g_cl (wd G (cb X M) τ) H) (hS : va_S (g_A G) s.heap H locs) {ls : Array Slot} (hl : lv_has ls 2 [(0, .int x0), (1, .int x1)]) : W p l e rm_X11_ratioBits s m args below meth c H locs 0 0 (MQ below (va_Qi (fun r u => r = r0 ∧ u = (X, M, τ)) (g_pw G) (g_A G)) args s 0 0 (g_A G)) (F0 m 0 ls []) := by
  obtain ⟨hx, hb, hr, hml, hown, hts, hlocks, hC⟩ := id C0
  unfold fn_X11_ratioBits at hf
  refine lv_iload_n hx hb dX11_ratioBits_0 rfl (lv_at hl 1 rfl) ?_
  refine lv_if_ne (tgt := 26) hx hb dX11_ratioBits_1 (by decide) (fun hc_1 => ?_) (fun hc_1 => ?_)
  · have hf := g_neg hf hc_1
    refine lv_iload_n hx hb dX11_ratioBits_26 rfl (lv_at hl 0 rfl) ?_
    refine lv_if_ne (tgt := 42) hx hb dX11_ratioBits_27 (by decide) (fun hc_2 => ?_) (fun hc_2 => ?_)
    · have hf := g_neg hf hc_2
      refine lv_iload_n hx hb dX11_ratioBits_42 rfl (lv_at hl 0 rfl) ?_
      refine lv_i2f hx hb dX11_ratioBits_43 ?_
      refine lv_iload_n hx hb dX11_ratioBits_44 rfl (lv_at hl 1 rfl) ?_
      refine lv_i2f hx hb dX11_ratioBits_45 ?_
      obtain ⟨hg_3, hf⟩ := g_gd hf
      refine lv_fdiv hx hb dX11_ratioBits_46 hg_3 ?_
      obtain ⟨r_4, hc_5, hf⟩ := g_bindE hf
      refine x_calli (v := (X, M, τ)) (va_runS (As := [.float (FP.fdiv (FP.i2f x0) (FP.i2f x1))]) (rest := []) ⟨hx, hb, hml, hown, hts⟩ (ct_X11_bitsOf l G X M τ (FP.fdiv (FP.i2f x0) (FP.i2f x1)) hc_5) (cwS 1 hts gd_X11_290 rfl rfl rfl hd_X11_bitsOf ⟨Nat.le_of_ble_eq_true rfl, Nat.le_of_ble_eq_true rfl⟩) (x_pre (u := (X, M, τ)) hC hS hP) rfl rfl hl.1 rfl (lv_room (Nat.le_of_ble_eq_true rfl)) dX11_ratioBits_47 ⟨Nat.zero_le _, Nat.zero_le _⟩) hS (fun H locs hP hS => ?_)
      cases hf
      exact x_iret hx hb hlocks hC hP hS hr dX11_ratioBits_50
    · have hf := g_pos hf hc_2
      refine lv_iload_n hx hb dX11_ratioBits_30 rfl (lv_at hl 1 rfl) ?_
      refine lv_if_ge (tgt := 40) hx hb dX11_ratioBits_31 (by decide) (fun hc_6 => ?_) (fun hc_6 => ?_)
      · have hf := g_pos hf hc_6
        refine lv_iconst (v := 0) hx hb dX11_ratioBits_40 (by decide) ?_
        cases hf
        exact x_iret hx hb hlocks hC hP hS hr dX11_ratioBits_41
      · have hf := g_neg hf hc_6
        refine lv_ldcw (v := (-2147483648)) hx hb hown (hts _ q26_3) dX11_ratioBits_34 ?_
        refine lv_goto (tgt := 41) hx hb dX11_ratioBits_37 (by decide) ?_
        cases hf
        exact x_iret hx hb hlocks hC hP hS hr dX11_ratioBits_41
  · have hf := g_pos hf hc_1
    refine lv_iload_n hx hb dX11_ratioBits_4 rfl (lv_at hl 0 rfl) ?_
    refine lv_if_ne (tgt := 12) hx hb dX11_ratioBits_5 (by decide) (fun hc_7 => ?_) (fun hc_7 => ?_)
    · have hf := g_neg hf hc_7
      refine lv_iload_n hx hb dX11_ratioBits_12 rfl (lv_at hl 0 rfl) ?_
      refine lv_if_ge (tgt := 22) hx hb dX11_ratioBits_13 (by decide) (fun hc_8 => ?_) (fun hc_8 => ?_)
      · have hf := g_pos hf hc_8
        refine lv_ldcw (v := 2139095040) hx hb hown (hts _ q26_2) dX11_ratioBits_22 ?_
        cases hf
        exact x_iret hx hb hlocks hC hP hS hr dX11_ratioBits_25
      · have hf := g_neg hf hc_8
        refine lv_ldcw (v := (-8388608)) hx hb hown (hts _ q26_1) dX11_ratioBits_16 ?_
        refine lv_goto (tgt := 25) hx hb dX11_ratioBits_19 (by decide) ?_
        cases hf
        exact x_iret hx hb hlocks hC hP hS hr dX11_ratioBits_25
    · have hf := g_pos hf hc_7
      refine lv_ldcw (v := 2143289344) hx hb hown (hts _ q26_0) dX11_ratioBits_8 ?_
      cases hf
      exact x_iret hx hb hlocks hC hP hS hr dX11_ratioBits_11
set_option maxRecDepth 100000 in
set_option maxHeartbeats 4000000 in
theorem ct_X11_ratioBits (l : Launch) (G : GP) (X M : SM) (τ : SL) (x0 : Int32) (x1 : Int32) {r0 : Int32} (hf : fn_X11_ratioBits x0 x1 = some r0) : Met l yX11_ratioBits (wz yX11_ratioBits cX11_ratioBits 2 (some .int)) rm_X11_ratioBits (va_Pc [.int x0, .int x1] (g_pw G (X, M, τ))) (va_Qi (fun r u => r = r0 ∧ u = (X, M, τ)) (g_pw G) (g_A G)) 0 0 (g_A G) := by
  refine Met.ofW (cc := cX11_ratioBits) (maxL := 2) (ret := (some .int)) (by decide +kernel) rfl ?_
  intro p e s m args below meth c s₁ B hml hv
  obtain ⟨rfl, hC, hP⟩ := hv
  have C0 : g_mc p s m _ meth c RX11 cX11_ratioBits (some .int) 2 G := ⟨B.exec, B.bytes, B.returns, hml, findClass_of_methodNamed B.named, fun w h => atoms_spec (ws := wz yX11_ratioBits cX11_ratioBits 2 (some .int)) B.pre w (List.mem_cons_of_mem _ h), B.notSynchronized, hC⟩
  have hl := lv_entry ([.int x0, .int x1]) (n := 2) (Nat.le_of_ble_eq_true rfl)
  rw [lg_entry_eq]
  generalize (lg_sl ([.int x0, .int x1]) ++ List.replicate (2 - (lg_sl ([.int x0, .int x1])).length) Slot.unset).toArray = ls at hl ⊢
  exact wk_X11_ratioBits C0  x0 x1 hf hP va_S.rf hl
abbrev rm_X11_part : Room := { frames := 0, cells := 0, slots := 0, locals := 0 }
def fn_X11_part (x0 : Int32) (x1 : Int32) : Option (Int32) :=
  if g_n32 (FP.fmul (FP.i2f x0) (FP.i2f x1)) then
  if g_n32 (FP.fdiv (FP.fmul (FP.i2f x0) (FP.i2f x1)) 1149239296) then
  some (FP.f2i (FP.fdiv (FP.fmul (FP.i2f x0) (FP.i2f x1)) 1149239296))
  else none
  else none
set_option maxRecDepth 100000 in
set_option maxHeartbeats 4000000 in
theorem wk_X11_part {p : Program} {l : Launch} {e : Env} {s : State} {m : MethodId} {args : Array Value} {below : List Frame} {meth : Method} {c : Code} {G : GP} {X : SM} {M : SM} {τ : SL} (C0 : g_mc p s m args meth c RX11 cX11_part (some .int) 2 G) {r0 : Int32} (x0 : Int32) (x1 : Int32) (hf : fn_X11_part x0 x1 = some r0) {H : Heap} {locs : List Loc} (hP : va_P G.1 g_cl (wd G (cb X M) τ) H) (hS : va_S (g_A G) s.heap H locs) {ls : Array Slot} (hl : lv_has ls 2 [(0, .int x0), (1, .int x1)]) : W p l e rm_X11_part s m args below meth c H locs 0 0 (MQ below (va_Qi (fun r u => r = r0 ∧ u = (X, M, τ)) (g_pw G) (g_A G)) args s 0 0 (g_A G)) (F0 m 0 ls []) := by
  obtain ⟨hx, hb, hr, hml, hown, hts, hlocks, hC⟩ := id C0
  unfold fn_X11_part at hf
  refine lv_iload_n hx hb dX11_part_0 rfl (lv_at hl 0 rfl) ?_
  refine lv_i2f hx hb dX11_part_1 ?_
  refine lv_iload_n hx hb dX11_part_2 rfl (lv_at hl 1 rfl) ?_
  refine lv_i2f hx hb dX11_part_3 ?_
  obtain ⟨hg_1, hf⟩ := g_gd hf
  refine lv_fmul hx hb dX11_part_4 hg_1 ?_
  refine lv_ldcwf (v := 1149239296) hx hb hown (hts _ q26_12) dX11_part_5 ?_
  obtain ⟨hg_2, hf⟩ := g_gd hf
  refine lv_fdiv hx hb dX11_part_8 hg_2 ?_
  refine lv_f2i hx hb dX11_part_9 ?_
  cases hf
  exact x_iret hx hb hlocks hC hP hS hr dX11_part_10
set_option maxRecDepth 100000 in
set_option maxHeartbeats 4000000 in
theorem ct_X11_part (l : Launch) (G : GP) (X M : SM) (τ : SL) (x0 : Int32) (x1 : Int32) {r0 : Int32} (hf : fn_X11_part x0 x1 = some r0) : Met l yX11_part (wz yX11_part cX11_part 2 (some .int)) rm_X11_part (va_Pc [.int x0, .int x1] (g_pw G (X, M, τ))) (va_Qi (fun r u => r = r0 ∧ u = (X, M, τ)) (g_pw G) (g_A G)) 0 0 (g_A G) := by
  refine Met.ofW (cc := cX11_part) (maxL := 2) (ret := (some .int)) (by decide +kernel) rfl ?_
  intro p e s m args below meth c s₁ B hml hv
  obtain ⟨rfl, hC, hP⟩ := hv
  have C0 : g_mc p s m _ meth c RX11 cX11_part (some .int) 2 G := ⟨B.exec, B.bytes, B.returns, hml, findClass_of_methodNamed B.named, fun w h => atoms_spec (ws := wz yX11_part cX11_part 2 (some .int)) B.pre w (List.mem_cons_of_mem _ h), B.notSynchronized, hC⟩
  have hl := lv_entry ([.int x0, .int x1]) (n := 2) (Nat.le_of_ble_eq_true rfl)
  rw [lg_entry_eq]
  generalize (lg_sl ([.int x0, .int x1]) ++ List.replicate (2 - (lg_sl ([.int x0, .int x1])).length) Slot.unset).toArray = ls at hl ⊢
  exact wk_X11_part C0  x0 x1 hf hP va_S.rf hl
abbrev rm_X9_compute : Room := { frames := 3, cells := 0, slots := 0, locals := 64 }
def fn_X9_compute (t0 : Nat) (x1 : Int32) (x2 : Int32) (x3 : Int32) (x4 : Int32) (X : SM) : Option (SM) :=
  if x1 = 0 then
  ((fn_X9_write t0 x2 x3 X).bind fun X_55 =>
    some X_55)
  else
  (if x1 = 1 then
    ((fn_X9_read t0 x3 X).bind fun r_49 =>
      (fn_X9_read t0 x4 X).bind fun r_51 =>
      (fn_X9_write t0 x2 (r_49 + r_51) X).bind fun X_53 =>
      some X_53)
    else
    (if x1 = 2 then
      ((fn_X9_read t0 x3 X).bind fun r_43 =>
        (fn_X9_read t0 x4 X).bind fun r_45 =>
        (fn_X9_write t0 x2 (r_43 - r_45) X).bind fun X_47 =>
        some X_47)
      else
      (if x1 = 3 then
        ((fn_X9_read t0 x3 X).bind fun r_37 =>
          (fn_X9_read t0 x4 X).bind fun r_39 =>
          (fn_X9_write t0 x2 (r_37 * r_39) X).bind fun X_41 =>
          some X_41)
        else
        (if x1 = 4 then
          ((fn_X9_read t0 x3 X).bind fun r_28 =>
            (fn_X9_read t0 x4 X).bind fun r_30 =>
            if r_30 ≤ r_28 then
            ((fn_X9_write t0 x2 0 X).bind fun X_33 =>
              some X_33)
            else
            ((fn_X9_write t0 x2 1 X).bind fun X_35 =>
              some X_35))
          else
          (if x1 = 5 then
            ((fn_X9_read t0 x3 X).bind fun r_24 =>
              (fn_X9_load t0 x2 r_24 X).bind fun X_26 =>
              some X_26)
            else
            (if x1 = 6 then
              ((fn_X9_read t0 x3 X).bind fun r_18 =>
                (fn_X9_read t0 x2 X).bind fun r_20 =>
                (fn_X9_store t0 r_18 r_20 X).bind fun X_22 =>
                some X_22)
              else
              (if x1 = 18 then
                (g_let (u1 X 9 t0 9 4) fun X_17 =>
                  some X_17)
                else
                (if x1 = 19 then
                  ((fn_X9_read t0 x3 X).bind fun r_9 =>
                    (fn_X9_read t0 x4 X).bind fun r_11 =>
                    (fn_X11_ratioBits r_9 r_11).bind fun r_13 =>
                    (fn_X9_write t0 x2 r_13 X).bind fun X_15 =>
                    some X_15)
                  else
                  (if x1 = 20 then
                    ((fn_X9_read t0 x3 X).bind fun r_1 =>
                      (fn_X9_read t0 x4 X).bind fun r_3 =>
                      (fn_X11_part r_1 r_3).bind fun r_5 =>
                      (fn_X9_write t0 x2 r_5 X).bind fun X_7 =>
                      some X_7)
                    else
                    (some X))))))))))
set_option maxRecDepth 100000 in
set_option maxHeartbeats 4000000 in
theorem wk_X9_compute {p : Program} {l : Launch} {e : Env} {s : State} {m : MethodId} {args : Array Value} {below : List Frame} {meth : Method} {c : Code} {G : GP} {M : SM} {τ : SL} (C0 : g_mc p s m args meth c RX9 cX9_compute none 5 G) {X0 : SM} (t0 : Nat) (ht0 : t0 < 12) (x1 : Int32) (x2 : Int32) (x3 : Int32) (x4 : Int32) (X : SM) (hf : fn_X9_compute t0 x1 x2 x3 x4 X = some X0) {H : Heap} {locs : List Loc} (hP : va_P G.1 g_cl (wd G (cb X M) τ) H) (hS : va_S (g_A G) s.heap H locs) {ls : Array Slot} (hl : lv_has ls 5 [(0, .ref (G.2.1 9 t0)), (1, .int x1), (2, .int x2), (3, .int x3), (4, .int x4)]) : W p l e rm_X9_compute s m args below meth c H locs 0 0 (MQ below (va_Qv (fun u => u = (X0, M, τ)) (g_pw G) (g_A G)) args s 0 0 (g_A G)) (F0 m 0 ls []) := by
  obtain ⟨hx, hb, hr, hml, hown, hts, hlocks, hC⟩ := id C0
  unfold fn_X9_compute at hf
  refine lv_iload_n hx hb dX9_compute_0 rfl (lv_at hl 1 rfl) ?_
  by_cases hs1_0 : x1 = 0
  · have hf := g_pos hf hs1_0
    refine lv_tableIn (off := 99) (tgt := 100) hx hb dX9_compute_1 (by rw [hs1_0]; decide) (by rw [hs1_0]; decide) (by rw [hs1_0]; rfl) (by decide) ?_
    refine lv_aload_n hx hb dX9_compute_100 rfl (lv_at hl 0 rfl) ?_
    refine lv_iload_n hx hb dX9_compute_101 rfl (lv_at hl 2 rfl) ?_
    refine lv_iload_n hx hb dX9_compute_102 rfl (lv_at hl 3 rfl) ?_
    obtain ⟨X_55, hc_56, hf⟩ := g_bindE hf
    refine x_callv (v := (X_55, M, τ)) (va_runV (As := [.int x2, .int x3]) (rest := []) ⟨hx, hb, hml, hown, hts⟩ (ct_X9_write l G X M τ t0 ht0 x2 x3 hc_56) (cwV 2 hts gd_X9_75 rfl rfl rfl hd_X9_write ⟨Nat.le_of_ble_eq_true rfl, Nat.le_of_ble_eq_true rfl⟩) (x_preV (u := (X, M, τ)) (k := 9) (ci := 9) hC hS hP ht0 rfl rfl) rfl rfl hl.1 rfl (lv_room (Nat.le_of_ble_eq_true rfl)) dX9_compute_103 ⟨Nat.zero_le _, Nat.zero_le _⟩) hS (fun H locs hP hS => ?_)
    refine lv_goto (tgt := 278) hx hb dX9_compute_106 (by decide) ?_
    cases hf
    exact x_vret hx hb hlocks hC hP hS hr dX9_compute_278
  · have hf := g_neg hf hs1_0
    by_cases hs1_1 : x1 = 1
    · have hf := g_pos hf hs1_1
      refine lv_tableIn (off := 108) (tgt := 109) hx hb dX9_compute_1 (by rw [hs1_1]; decide) (by rw [hs1_1]; decide) (by rw [hs1_1]; rfl) (by decide) ?_
      refine lv_aload_n hx hb dX9_compute_109 rfl (lv_at hl 0 rfl) ?_
      refine lv_iload_n hx hb dX9_compute_110 rfl (lv_at hl 2 rfl) ?_
      refine lv_aload_n hx hb dX9_compute_111 rfl (lv_at hl 0 rfl) ?_
      refine lv_iload_n hx hb dX9_compute_112 rfl (lv_at hl 3 rfl) ?_
      obtain ⟨r_49, hc_50, hf⟩ := g_bindE hf
      refine x_calli (v := (X, M, τ)) (va_runV (As := [.int x3]) (rest := [.int x2, .ref (G.2.1 9 t0)]) ⟨hx, hb, hml, hown, hts⟩ (ct_X9_read l G X M τ t0 ht0 x3 hc_50) (cwV 1 hts gd_X9_71 rfl rfl rfl hd_X9_read ⟨Nat.le_of_ble_eq_true rfl, Nat.le_of_ble_eq_true rfl⟩) (x_preV (u := (X, M, τ)) (k := 9) (ci := 9) hC hS hP ht0 rfl rfl) rfl rfl hl.1 rfl (lv_room (Nat.le_of_ble_eq_true rfl)) dX9_compute_113 ⟨Nat.zero_le _, Nat.zero_le _⟩) hS (fun H locs hP hS => ?_)
      refine lv_aload_n hx hb dX9_compute_116 rfl (lv_at hl 0 rfl) ?_
      refine lv_iload hx hb dX9_compute_117 (lv_at hl 4 rfl) ?_
      obtain ⟨r_51, hc_52, hf⟩ := g_bindE hf
      refine x_calli (v := (X, M, τ)) (va_runV (As := [.int x4]) (rest := [.int r_49, .int x2, .ref (G.2.1 9 t0)]) ⟨hx, hb, hml, hown, hts⟩ (ct_X9_read l G X M τ t0 ht0 x4 hc_52) (cwV 1 hts gd_X9_71 rfl rfl rfl hd_X9_read ⟨Nat.le_of_ble_eq_true rfl, Nat.le_of_ble_eq_true rfl⟩) (x_preV (u := (X, M, τ)) (k := 9) (ci := 9) hC hS hP ht0 rfl rfl) rfl rfl hl.1 rfl (lv_room (Nat.le_of_ble_eq_true rfl)) dX9_compute_119 ⟨Nat.zero_le _, Nat.zero_le _⟩) hS (fun H locs hP hS => ?_)
      refine lv_iadd hx hb dX9_compute_122 ?_
      obtain ⟨X_53, hc_54, hf⟩ := g_bindE hf
      refine x_callv (v := (X_53, M, τ)) (va_runV (As := [.int x2, .int (r_49 + r_51)]) (rest := []) ⟨hx, hb, hml, hown, hts⟩ (ct_X9_write l G X M τ t0 ht0 x2 (r_49 + r_51) hc_54) (cwV 2 hts gd_X9_75 rfl rfl rfl hd_X9_write ⟨Nat.le_of_ble_eq_true rfl, Nat.le_of_ble_eq_true rfl⟩) (x_preV (u := (X, M, τ)) (k := 9) (ci := 9) hC hS hP ht0 rfl rfl) rfl rfl hl.1 rfl (lv_room (Nat.le_of_ble_eq_true rfl)) dX9_compute_123 ⟨Nat.zero_le _, Nat.zero_le _⟩) hS (fun H locs hP hS => ?_)
      refine lv_goto (tgt := 278) hx hb dX9_compute_126 (by decide) ?_
      cases hf
      exact x_vret hx hb hlocks hC hP hS hr dX9_compute_278
    · have hf := g_neg hf hs1_1
      by_cases hs1_2 : x1 = 2
      · have hf := g_pos hf hs1_2
        refine lv_tableIn (off := 128) (tgt := 129) hx hb dX9_compute_1 (by rw [hs1_2]; decide) (by rw [hs1_2]; decide) (by rw [hs1_2]; rfl) (by decide) ?_
        refine lv_aload_n hx hb dX9_compute_129 rfl (lv_at hl 0 rfl) ?_
        refine lv_iload_n hx hb dX9_compute_130 rfl (lv_at hl 2 rfl) ?_
        refine lv_aload_n hx hb dX9_compute_131 rfl (lv_at hl 0 rfl) ?_
        refine lv_iload_n hx hb dX9_compute_132 rfl (lv_at hl 3 rfl) ?_
        obtain ⟨r_43, hc_44, hf⟩ := g_bindE hf
        refine x_calli (v := (X, M, τ)) (va_runV (As := [.int x3]) (rest := [.int x2, .ref (G.2.1 9 t0)]) ⟨hx, hb, hml, hown, hts⟩ (ct_X9_read l G X M τ t0 ht0 x3 hc_44) (cwV 1 hts gd_X9_71 rfl rfl rfl hd_X9_read ⟨Nat.le_of_ble_eq_true rfl, Nat.le_of_ble_eq_true rfl⟩) (x_preV (u := (X, M, τ)) (k := 9) (ci := 9) hC hS hP ht0 rfl rfl) rfl rfl hl.1 rfl (lv_room (Nat.le_of_ble_eq_true rfl)) dX9_compute_133 ⟨Nat.zero_le _, Nat.zero_le _⟩) hS (fun H locs hP hS => ?_)
        refine lv_aload_n hx hb dX9_compute_136 rfl (lv_at hl 0 rfl) ?_
        refine lv_iload hx hb dX9_compute_137 (lv_at hl 4 rfl) ?_
        obtain ⟨r_45, hc_46, hf⟩ := g_bindE hf
        refine x_calli (v := (X, M, τ)) (va_runV (As := [.int x4]) (rest := [.int r_43, .int x2, .ref (G.2.1 9 t0)]) ⟨hx, hb, hml, hown, hts⟩ (ct_X9_read l G X M τ t0 ht0 x4 hc_46) (cwV 1 hts gd_X9_71 rfl rfl rfl hd_X9_read ⟨Nat.le_of_ble_eq_true rfl, Nat.le_of_ble_eq_true rfl⟩) (x_preV (u := (X, M, τ)) (k := 9) (ci := 9) hC hS hP ht0 rfl rfl) rfl rfl hl.1 rfl (lv_room (Nat.le_of_ble_eq_true rfl)) dX9_compute_139 ⟨Nat.zero_le _, Nat.zero_le _⟩) hS (fun H locs hP hS => ?_)
        refine lv_isub hx hb dX9_compute_142 ?_
        obtain ⟨X_47, hc_48, hf⟩ := g_bindE hf
        refine x_callv (v := (X_47, M, τ)) (va_runV (As := [.int x2, .int (r_43 - r_45)]) (rest := []) ⟨hx, hb, hml, hown, hts⟩ (ct_X9_write l G X M τ t0 ht0 x2 (r_43 - r_45) hc_48) (cwV 2 hts gd_X9_75 rfl rfl rfl hd_X9_write ⟨Nat.le_of_ble_eq_true rfl, Nat.le_of_ble_eq_true rfl⟩) (x_preV (u := (X, M, τ)) (k := 9) (ci := 9) hC hS hP ht0 rfl rfl) rfl rfl hl.1 rfl (lv_room (Nat.le_of_ble_eq_true rfl)) dX9_compute_143 ⟨Nat.zero_le _, Nat.zero_le _⟩) hS (fun H locs hP hS => ?_)
        refine lv_goto (tgt := 278) hx hb dX9_compute_146 (by decide) ?_
        cases hf
        exact x_vret hx hb hlocks hC hP hS hr dX9_compute_278
      · have hf := g_neg hf hs1_2
        by_cases hs1_3 : x1 = 3
        · have hf := g_pos hf hs1_3
          refine lv_tableIn (off := 148) (tgt := 149) hx hb dX9_compute_1 (by rw [hs1_3]; decide) (by rw [hs1_3]; decide) (by rw [hs1_3]; rfl) (by decide) ?_
          refine lv_aload_n hx hb dX9_compute_149 rfl (lv_at hl 0 rfl) ?_
          refine lv_iload_n hx hb dX9_compute_150 rfl (lv_at hl 2 rfl) ?_
          refine lv_aload_n hx hb dX9_compute_151 rfl (lv_at hl 0 rfl) ?_
          refine lv_iload_n hx hb dX9_compute_152 rfl (lv_at hl 3 rfl) ?_
          obtain ⟨r_37, hc_38, hf⟩ := g_bindE hf
          refine x_calli (v := (X, M, τ)) (va_runV (As := [.int x3]) (rest := [.int x2, .ref (G.2.1 9 t0)]) ⟨hx, hb, hml, hown, hts⟩ (ct_X9_read l G X M τ t0 ht0 x3 hc_38) (cwV 1 hts gd_X9_71 rfl rfl rfl hd_X9_read ⟨Nat.le_of_ble_eq_true rfl, Nat.le_of_ble_eq_true rfl⟩) (x_preV (u := (X, M, τ)) (k := 9) (ci := 9) hC hS hP ht0 rfl rfl) rfl rfl hl.1 rfl (lv_room (Nat.le_of_ble_eq_true rfl)) dX9_compute_153 ⟨Nat.zero_le _, Nat.zero_le _⟩) hS (fun H locs hP hS => ?_)
          refine lv_aload_n hx hb dX9_compute_156 rfl (lv_at hl 0 rfl) ?_
          refine lv_iload hx hb dX9_compute_157 (lv_at hl 4 rfl) ?_
          obtain ⟨r_39, hc_40, hf⟩ := g_bindE hf
          refine x_calli (v := (X, M, τ)) (va_runV (As := [.int x4]) (rest := [.int r_37, .int x2, .ref (G.2.1 9 t0)]) ⟨hx, hb, hml, hown, hts⟩ (ct_X9_read l G X M τ t0 ht0 x4 hc_40) (cwV 1 hts gd_X9_71 rfl rfl rfl hd_X9_read ⟨Nat.le_of_ble_eq_true rfl, Nat.le_of_ble_eq_true rfl⟩) (x_preV (u := (X, M, τ)) (k := 9) (ci := 9) hC hS hP ht0 rfl rfl) rfl rfl hl.1 rfl (lv_room (Nat.le_of_ble_eq_true rfl)) dX9_compute_159 ⟨Nat.zero_le _, Nat.zero_le _⟩) hS (fun H locs hP hS => ?_)
          refine lv_imul hx hb dX9_compute_162 ?_
          obtain ⟨X_41, hc_42, hf⟩ := g_bindE hf
          refine x_callv (v := (X_41, M, τ)) (va_runV (As := [.int x2, .int (r_37 * r_39)]) (rest := []) ⟨hx, hb, hml, hown, hts⟩ (ct_X9_write l G X M τ t0 ht0 x2 (r_37 * r_39) hc_42) (cwV 2 hts gd_X9_75 rfl rfl rfl hd_X9_write ⟨Nat.le_of_ble_eq_true rfl, Nat.le_of_ble_eq_true rfl⟩) (x_preV (u := (X, M, τ)) (k := 9) (ci := 9) hC hS hP ht0 rfl rfl) rfl rfl hl.1 rfl (lv_room (Nat.le_of_ble_eq_true rfl)) dX9_compute_163 ⟨Nat.zero_le _, Nat.zero_le _⟩) hS (fun H locs hP hS => ?_)
          refine lv_goto (tgt := 278) hx hb dX9_compute_166 (by decide) ?_
          cases hf
          exact x_vret hx hb hlocks hC hP hS hr dX9_compute_278
        · have hf := g_neg hf hs1_3
          by_cases hs1_4 : x1 = 4
          · have hf := g_pos hf hs1_4
            refine lv_tableIn (off := 168) (tgt := 169) hx hb dX9_compute_1 (by rw [hs1_4]; decide) (by rw [hs1_4]; decide) (by rw [hs1_4]; rfl) (by decide) ?_
            refine lv_aload_n hx hb dX9_compute_169 rfl (lv_at hl 0 rfl) ?_
            refine lv_iload_n hx hb dX9_compute_170 rfl (lv_at hl 2 rfl) ?_
            refine lv_aload_n hx hb dX9_compute_171 rfl (lv_at hl 0 rfl) ?_
            refine lv_iload_n hx hb dX9_compute_172 rfl (lv_at hl 3 rfl) ?_
            obtain ⟨r_28, hc_29, hf⟩ := g_bindE hf
            refine x_calli (v := (X, M, τ)) (va_runV (As := [.int x3]) (rest := [.int x2, .ref (G.2.1 9 t0)]) ⟨hx, hb, hml, hown, hts⟩ (ct_X9_read l G X M τ t0 ht0 x3 hc_29) (cwV 1 hts gd_X9_71 rfl rfl rfl hd_X9_read ⟨Nat.le_of_ble_eq_true rfl, Nat.le_of_ble_eq_true rfl⟩) (x_preV (u := (X, M, τ)) (k := 9) (ci := 9) hC hS hP ht0 rfl rfl) rfl rfl hl.1 rfl (lv_room (Nat.le_of_ble_eq_true rfl)) dX9_compute_173 ⟨Nat.zero_le _, Nat.zero_le _⟩) hS (fun H locs hP hS => ?_)
            refine lv_aload_n hx hb dX9_compute_176 rfl (lv_at hl 0 rfl) ?_
            refine lv_iload hx hb dX9_compute_177 (lv_at hl 4 rfl) ?_
            obtain ⟨r_30, hc_31, hf⟩ := g_bindE hf
            refine x_calli (v := (X, M, τ)) (va_runV (As := [.int x4]) (rest := [.int r_28, .int x2, .ref (G.2.1 9 t0)]) ⟨hx, hb, hml, hown, hts⟩ (ct_X9_read l G X M τ t0 ht0 x4 hc_31) (cwV 1 hts gd_X9_71 rfl rfl rfl hd_X9_read ⟨Nat.le_of_ble_eq_true rfl, Nat.le_of_ble_eq_true rfl⟩) (x_preV (u := (X, M, τ)) (k := 9) (ci := 9) hC hS hP ht0 rfl rfl) rfl rfl hl.1 rfl (lv_room (Nat.le_of_ble_eq_true rfl)) dX9_compute_179 ⟨Nat.zero_le _, Nat.zero_le _⟩) hS (fun H locs hP hS => ?_)
            refine lv_icmp_ge (tgt := 189) hx hb dX9_compute_182 (by decide) (fun hc_32 => ?_) (fun hc_32 => ?_)
            · have hf := g_pos hf hc_32
              refine lv_iconst (v := 0) hx hb dX9_compute_189 (by decide) ?_
              obtain ⟨X_33, hc_34, hf⟩ := g_bindE hf
              refine x_callv (v := (X_33, M, τ)) (va_runV (As := [.int x2, .int 0]) (rest := []) ⟨hx, hb, hml, hown, hts⟩ (ct_X9_write l G X M τ t0 ht0 x2 0 hc_34) (cwV 2 hts gd_X9_75 rfl rfl rfl hd_X9_write ⟨Nat.le_of_ble_eq_true rfl, Nat.le_of_ble_eq_true rfl⟩) (x_preV (u := (X, M, τ)) (k := 9) (ci := 9) hC hS hP ht0 rfl rfl) rfl rfl hl.1 rfl (lv_room (Nat.le_of_ble_eq_true rfl)) dX9_compute_190 ⟨Nat.zero_le _, Nat.zero_le _⟩) hS (fun H locs hP hS => ?_)
              refine lv_goto (tgt := 278) hx hb dX9_compute_193 (by decide) ?_
              cases hf
              exact x_vret hx hb hlocks hC hP hS hr dX9_compute_278
            · have hf := g_neg hf hc_32
              refine lv_iconst (v := 1) hx hb dX9_compute_185 (by decide) ?_
              refine lv_goto (tgt := 190) hx hb dX9_compute_186 (by decide) ?_
              obtain ⟨X_35, hc_36, hf⟩ := g_bindE hf
              refine x_callv (v := (X_35, M, τ)) (va_runV (As := [.int x2, .int 1]) (rest := []) ⟨hx, hb, hml, hown, hts⟩ (ct_X9_write l G X M τ t0 ht0 x2 1 hc_36) (cwV 2 hts gd_X9_75 rfl rfl rfl hd_X9_write ⟨Nat.le_of_ble_eq_true rfl, Nat.le_of_ble_eq_true rfl⟩) (x_preV (u := (X, M, τ)) (k := 9) (ci := 9) hC hS hP ht0 rfl rfl) rfl rfl hl.1 rfl (lv_room (Nat.le_of_ble_eq_true rfl)) dX9_compute_190 ⟨Nat.zero_le _, Nat.zero_le _⟩) hS (fun H locs hP hS => ?_)
              refine lv_goto (tgt := 278) hx hb dX9_compute_193 (by decide) ?_
              cases hf
              exact x_vret hx hb hlocks hC hP hS hr dX9_compute_278
          · have hf := g_neg hf hs1_4
            by_cases hs1_5 : x1 = 5
            · have hf := g_pos hf hs1_5
              refine lv_tableIn (off := 195) (tgt := 196) hx hb dX9_compute_1 (by rw [hs1_5]; decide) (by rw [hs1_5]; decide) (by rw [hs1_5]; rfl) (by decide) ?_
              refine lv_aload_n hx hb dX9_compute_196 rfl (lv_at hl 0 rfl) ?_
              refine lv_iload_n hx hb dX9_compute_197 rfl (lv_at hl 2 rfl) ?_
              refine lv_aload_n hx hb dX9_compute_198 rfl (lv_at hl 0 rfl) ?_
              refine lv_iload_n hx hb dX9_compute_199 rfl (lv_at hl 3 rfl) ?_
              obtain ⟨r_24, hc_25, hf⟩ := g_bindE hf
              refine x_calli (v := (X, M, τ)) (va_runV (As := [.int x3]) (rest := [.int x2, .ref (G.2.1 9 t0)]) ⟨hx, hb, hml, hown, hts⟩ (ct_X9_read l G X M τ t0 ht0 x3 hc_25) (cwV 1 hts gd_X9_71 rfl rfl rfl hd_X9_read ⟨Nat.le_of_ble_eq_true rfl, Nat.le_of_ble_eq_true rfl⟩) (x_preV (u := (X, M, τ)) (k := 9) (ci := 9) hC hS hP ht0 rfl rfl) rfl rfl hl.1 rfl (lv_room (Nat.le_of_ble_eq_true rfl)) dX9_compute_200 ⟨Nat.zero_le _, Nat.zero_le _⟩) hS (fun H locs hP hS => ?_)
              obtain ⟨X_26, hc_27, hf⟩ := g_bindE hf
              refine x_callv (v := (X_26, M, τ)) (va_runV (As := [.int x2, .int r_24]) (rest := []) ⟨hx, hb, hml, hown, hts⟩ (ct_X9_load l G X M τ t0 ht0 x2 r_24 hc_27) (cwV 2 hts gd_X9_79 rfl rfl rfl hd_X9_load ⟨Nat.le_of_ble_eq_true rfl, Nat.le_of_ble_eq_true rfl⟩) (x_preV (u := (X, M, τ)) (k := 9) (ci := 9) hC hS hP ht0 rfl rfl) rfl rfl hl.1 rfl (lv_room (Nat.le_of_ble_eq_true rfl)) dX9_compute_203 ⟨Nat.zero_le _, Nat.zero_le _⟩) hS (fun H locs hP hS => ?_)
              refine lv_goto (tgt := 278) hx hb dX9_compute_206 (by decide) ?_
              cases hf
              exact x_vret hx hb hlocks hC hP hS hr dX9_compute_278
            · have hf := g_neg hf hs1_5
              by_cases hs1_6 : x1 = 6
              · have hf := g_pos hf hs1_6
                refine lv_tableIn (off := 208) (tgt := 209) hx hb dX9_compute_1 (by rw [hs1_6]; decide) (by rw [hs1_6]; decide) (by rw [hs1_6]; rfl) (by decide) ?_
                refine lv_aload_n hx hb dX9_compute_209 rfl (lv_at hl 0 rfl) ?_
                refine lv_aload_n hx hb dX9_compute_210 rfl (lv_at hl 0 rfl) ?_
                refine lv_iload_n hx hb dX9_compute_211 rfl (lv_at hl 3 rfl) ?_
                obtain ⟨r_18, hc_19, hf⟩ := g_bindE hf
                refine x_calli (v := (X, M, τ)) (va_runV (As := [.int x3]) (rest := [.ref (G.2.1 9 t0)]) ⟨hx, hb, hml, hown, hts⟩ (ct_X9_read l G X M τ t0 ht0 x3 hc_19) (cwV 1 hts gd_X9_71 rfl rfl rfl hd_X9_read ⟨Nat.le_of_ble_eq_true rfl, Nat.le_of_ble_eq_true rfl⟩) (x_preV (u := (X, M, τ)) (k := 9) (ci := 9) hC hS hP ht0 rfl rfl) rfl rfl hl.1 rfl (lv_room (Nat.le_of_ble_eq_true rfl)) dX9_compute_212 ⟨Nat.zero_le _, Nat.zero_le _⟩) hS (fun H locs hP hS => ?_)
                refine lv_aload_n hx hb dX9_compute_215 rfl (lv_at hl 0 rfl) ?_
                refine lv_iload_n hx hb dX9_compute_216 rfl (lv_at hl 2 rfl) ?_
                obtain ⟨r_20, hc_21, hf⟩ := g_bindE hf
                refine x_calli (v := (X, M, τ)) (va_runV (As := [.int x2]) (rest := [.int r_18, .ref (G.2.1 9 t0)]) ⟨hx, hb, hml, hown, hts⟩ (ct_X9_read l G X M τ t0 ht0 x2 hc_21) (cwV 1 hts gd_X9_71 rfl rfl rfl hd_X9_read ⟨Nat.le_of_ble_eq_true rfl, Nat.le_of_ble_eq_true rfl⟩) (x_preV (u := (X, M, τ)) (k := 9) (ci := 9) hC hS hP ht0 rfl rfl) rfl rfl hl.1 rfl (lv_room (Nat.le_of_ble_eq_true rfl)) dX9_compute_217 ⟨Nat.zero_le _, Nat.zero_le _⟩) hS (fun H locs hP hS => ?_)
                obtain ⟨X_22, hc_23, hf⟩ := g_bindE hf
                refine x_callv (v := (X_22, M, τ)) (va_runV (As := [.int r_18, .int r_20]) (rest := []) ⟨hx, hb, hml, hown, hts⟩ (ct_X9_store l G X M τ t0 ht0 r_18 r_20 hc_23) (cwV 2 hts gd_X9_82 rfl rfl rfl hd_X9_store ⟨Nat.le_of_ble_eq_true rfl, Nat.le_of_ble_eq_true rfl⟩) (x_preV (u := (X, M, τ)) (k := 9) (ci := 9) hC hS hP ht0 rfl rfl) rfl rfl hl.1 rfl (lv_room (Nat.le_of_ble_eq_true rfl)) dX9_compute_220 ⟨Nat.zero_le _, Nat.zero_le _⟩) hS (fun H locs hP hS => ?_)
                refine lv_goto (tgt := 278) hx hb dX9_compute_223 (by decide) ?_
                cases hf
                exact x_vret hx hb hlocks hC hP hS hr dX9_compute_278
              · have hf := g_neg hf hs1_6
                by_cases hs1_7 : x1 = 7
                · refine lv_tableIn (off := 277) (tgt := 278) hx hb dX9_compute_1 (by rw [hs1_7]; decide) (by rw [hs1_7]; decide) (by rw [hs1_7]; rfl) (by decide) ?_
                  have hf := g_neg hf (by rw [hs1_7]; decide)
                  have hf := g_neg hf (by rw [hs1_7]; decide)
                  have hf := g_neg hf (by rw [hs1_7]; decide)
                  cases hf
                  exact x_vret hx hb hlocks hC hP hS hr dX9_compute_278
                · by_cases hs1_8 : x1 = 8
                  · refine lv_tableIn (off := 277) (tgt := 278) hx hb dX9_compute_1 (by rw [hs1_8]; decide) (by rw [hs1_8]; decide) (by rw [hs1_8]; rfl) (by decide) ?_
                    have hf := g_neg hf (by rw [hs1_8]; decide)
                    have hf := g_neg hf (by rw [hs1_8]; decide)
                    have hf := g_neg hf (by rw [hs1_8]; decide)
                    cases hf
                    exact x_vret hx hb hlocks hC hP hS hr dX9_compute_278
                  · by_cases hs1_9 : x1 = 9
                    · refine lv_tableIn (off := 277) (tgt := 278) hx hb dX9_compute_1 (by rw [hs1_9]; decide) (by rw [hs1_9]; decide) (by rw [hs1_9]; rfl) (by decide) ?_
                      have hf := g_neg hf (by rw [hs1_9]; decide)
                      have hf := g_neg hf (by rw [hs1_9]; decide)
                      have hf := g_neg hf (by rw [hs1_9]; decide)
                      cases hf
                      exact x_vret hx hb hlocks hC hP hS hr dX9_compute_278
                    · by_cases hs1_10 : x1 = 10
                      · refine lv_tableIn (off := 277) (tgt := 278) hx hb dX9_compute_1 (by rw [hs1_10]; decide) (by rw [hs1_10]; decide) (by rw [hs1_10]; rfl) (by decide) ?_
                        have hf := g_neg hf (by rw [hs1_10]; decide)
                        have hf := g_neg hf (by rw [hs1_10]; decide)
                        have hf := g_neg hf (by rw [hs1_10]; decide)
                        cases hf
                        exact x_vret hx hb hlocks hC hP hS hr dX9_compute_278
                      · by_cases hs1_11 : x1 = 11
                        · refine lv_tableIn (off := 277) (tgt := 278) hx hb dX9_compute_1 (by rw [hs1_11]; decide) (by rw [hs1_11]; decide) (by rw [hs1_11]; rfl) (by decide) ?_
                          have hf := g_neg hf (by rw [hs1_11]; decide)
                          have hf := g_neg hf (by rw [hs1_11]; decide)
                          have hf := g_neg hf (by rw [hs1_11]; decide)
                          cases hf
                          exact x_vret hx hb hlocks hC hP hS hr dX9_compute_278
                        · by_cases hs1_12 : x1 = 12
                          · refine lv_tableIn (off := 277) (tgt := 278) hx hb dX9_compute_1 (by rw [hs1_12]; decide) (by rw [hs1_12]; decide) (by rw [hs1_12]; rfl) (by decide) ?_
                            have hf := g_neg hf (by rw [hs1_12]; decide)
                            have hf := g_neg hf (by rw [hs1_12]; decide)
                            have hf := g_neg hf (by rw [hs1_12]; decide)
                            cases hf
                            exact x_vret hx hb hlocks hC hP hS hr dX9_compute_278
                          · by_cases hs1_13 : x1 = 13
                            · refine lv_tableIn (off := 277) (tgt := 278) hx hb dX9_compute_1 (by rw [hs1_13]; decide) (by rw [hs1_13]; decide) (by rw [hs1_13]; rfl) (by decide) ?_
                              have hf := g_neg hf (by rw [hs1_13]; decide)
                              have hf := g_neg hf (by rw [hs1_13]; decide)
                              have hf := g_neg hf (by rw [hs1_13]; decide)
                              cases hf
                              exact x_vret hx hb hlocks hC hP hS hr dX9_compute_278
                            · by_cases hs1_14 : x1 = 14
                              · refine lv_tableIn (off := 277) (tgt := 278) hx hb dX9_compute_1 (by rw [hs1_14]; decide) (by rw [hs1_14]; decide) (by rw [hs1_14]; rfl) (by decide) ?_
                                have hf := g_neg hf (by rw [hs1_14]; decide)
                                have hf := g_neg hf (by rw [hs1_14]; decide)
                                have hf := g_neg hf (by rw [hs1_14]; decide)
                                cases hf
                                exact x_vret hx hb hlocks hC hP hS hr dX9_compute_278
                              · by_cases hs1_15 : x1 = 15
                                · refine lv_tableIn (off := 277) (tgt := 278) hx hb dX9_compute_1 (by rw [hs1_15]; decide) (by rw [hs1_15]; decide) (by rw [hs1_15]; rfl) (by decide) ?_
                                  have hf := g_neg hf (by rw [hs1_15]; decide)
                                  have hf := g_neg hf (by rw [hs1_15]; decide)
                                  have hf := g_neg hf (by rw [hs1_15]; decide)
                                  cases hf
                                  exact x_vret hx hb hlocks hC hP hS hr dX9_compute_278
                                · by_cases hs1_16 : x1 = 16
                                  · refine lv_tableIn (off := 277) (tgt := 278) hx hb dX9_compute_1 (by rw [hs1_16]; decide) (by rw [hs1_16]; decide) (by rw [hs1_16]; rfl) (by decide) ?_
                                    have hf := g_neg hf (by rw [hs1_16]; decide)
                                    have hf := g_neg hf (by rw [hs1_16]; decide)
                                    have hf := g_neg hf (by rw [hs1_16]; decide)
                                    cases hf
                                    exact x_vret hx hb hlocks hC hP hS hr dX9_compute_278
                                  · by_cases hs1_17 : x1 = 17
                                    · refine lv_tableIn (off := 277) (tgt := 278) hx hb dX9_compute_1 (by rw [hs1_17]; decide) (by rw [hs1_17]; decide) (by rw [hs1_17]; rfl) (by decide) ?_
                                      have hf := g_neg hf (by rw [hs1_17]; decide)
                                      have hf := g_neg hf (by rw [hs1_17]; decide)
                                      have hf := g_neg hf (by rw [hs1_17]; decide)
                                      cases hf
                                      exact x_vret hx hb hlocks hC hP hS hr dX9_compute_278
                                    · by_cases hs1_18 : x1 = 18
                                      · have hf := g_pos hf hs1_18
                                        refine lv_tableIn (off := 225) (tgt := 226) hx hb dX9_compute_1 (by rw [hs1_18]; decide) (by rw [hs1_18]; decide) (by rw [hs1_18]; rfl) (by decide) ?_
                                        refine lv_aload_n hx hb dX9_compute_226 rfl (lv_at hl 0 rfl) ?_
                                        refine lv_iconst (v := 4) hx hb dX9_compute_227 (by decide) ?_
                                        obtain ⟨X_17, eX_17, hf⟩ := g_letE hf
                                        refine pt_9_9 hx hb hts hown hC hP hS ht0 q5_14 dX9_compute_228 (fun H locs hP hS => ?_)
                                        rw [eX_17] at hP
                                        refine lv_goto (tgt := 278) hx hb dX9_compute_231 (by decide) ?_
                                        cases hf
                                        exact x_vret hx hb hlocks hC hP hS hr dX9_compute_278
                                      · have hf := g_neg hf hs1_18
                                        by_cases hs1_19 : x1 = 19
                                        · have hf := g_pos hf hs1_19
                                          refine lv_tableIn (off := 233) (tgt := 234) hx hb dX9_compute_1 (by rw [hs1_19]; decide) (by rw [hs1_19]; decide) (by rw [hs1_19]; rfl) (by decide) ?_
                                          refine lv_aload_n hx hb dX9_compute_234 rfl (lv_at hl 0 rfl) ?_
                                          refine lv_iload_n hx hb dX9_compute_235 rfl (lv_at hl 2 rfl) ?_
                                          refine lv_aload_n hx hb dX9_compute_236 rfl (lv_at hl 0 rfl) ?_
                                          refine lv_iload_n hx hb dX9_compute_237 rfl (lv_at hl 3 rfl) ?_
                                          obtain ⟨r_9, hc_10, hf⟩ := g_bindE hf
                                          refine x_calli (v := (X, M, τ)) (va_runV (As := [.int x3]) (rest := [.int x2, .ref (G.2.1 9 t0)]) ⟨hx, hb, hml, hown, hts⟩ (ct_X9_read l G X M τ t0 ht0 x3 hc_10) (cwV 1 hts gd_X9_71 rfl rfl rfl hd_X9_read ⟨Nat.le_of_ble_eq_true rfl, Nat.le_of_ble_eq_true rfl⟩) (x_preV (u := (X, M, τ)) (k := 9) (ci := 9) hC hS hP ht0 rfl rfl) rfl rfl hl.1 rfl (lv_room (Nat.le_of_ble_eq_true rfl)) dX9_compute_238 ⟨Nat.zero_le _, Nat.zero_le _⟩) hS (fun H locs hP hS => ?_)
                                          refine lv_aload_n hx hb dX9_compute_241 rfl (lv_at hl 0 rfl) ?_
                                          refine lv_iload hx hb dX9_compute_242 (lv_at hl 4 rfl) ?_
                                          obtain ⟨r_11, hc_12, hf⟩ := g_bindE hf
                                          refine x_calli (v := (X, M, τ)) (va_runV (As := [.int x4]) (rest := [.int r_9, .int x2, .ref (G.2.1 9 t0)]) ⟨hx, hb, hml, hown, hts⟩ (ct_X9_read l G X M τ t0 ht0 x4 hc_12) (cwV 1 hts gd_X9_71 rfl rfl rfl hd_X9_read ⟨Nat.le_of_ble_eq_true rfl, Nat.le_of_ble_eq_true rfl⟩) (x_preV (u := (X, M, τ)) (k := 9) (ci := 9) hC hS hP ht0 rfl rfl) rfl rfl hl.1 rfl (lv_room (Nat.le_of_ble_eq_true rfl)) dX9_compute_244 ⟨Nat.zero_le _, Nat.zero_le _⟩) hS (fun H locs hP hS => ?_)
                                          obtain ⟨r_13, hc_14, hf⟩ := g_bindE hf
                                          refine x_calli (v := (X, M, τ)) (va_runSN (As := [.int r_9, .int r_11]) (rest := [.int x2, .ref (G.2.1 9 t0)]) ⟨hx, hb, hml, hown, hts⟩ (ct_X11_ratioBits l G X M τ r_9 r_11 hc_14) ⟨va_cnB 2 hts (wz_N q25_23) rfl rfl rfl hC.2.1.2.2.2.2.1 (hts _ q1_2) hd_X11_ratioBits.2 ⟨Nat.le_of_ble_eq_true rfl, Nat.le_of_ble_eq_true rfl⟩, hts _ q25_22, trivial⟩ (x_pre (u := (X, M, τ)) hC hS hP) rfl rfl hl.1 rfl (lv_room (Nat.le_of_ble_eq_true rfl)) dX9_compute_247 ⟨Nat.zero_le _, Nat.zero_le _⟩) hS (fun H locs hP hS => ?_)
                                          obtain ⟨X_15, hc_16, hf⟩ := g_bindE hf
                                          refine x_callv (v := (X_15, M, τ)) (va_runV (As := [.int x2, .int r_13]) (rest := []) ⟨hx, hb, hml, hown, hts⟩ (ct_X9_write l G X M τ t0 ht0 x2 r_13 hc_16) (cwV 2 hts gd_X9_75 rfl rfl rfl hd_X9_write ⟨Nat.le_of_ble_eq_true rfl, Nat.le_of_ble_eq_true rfl⟩) (x_preV (u := (X, M, τ)) (k := 9) (ci := 9) hC hS hP ht0 rfl rfl) rfl rfl hl.1 rfl (lv_room (Nat.le_of_ble_eq_true rfl)) dX9_compute_250 ⟨Nat.zero_le _, Nat.zero_le _⟩) hS (fun H locs hP hS => ?_)
                                          refine lv_goto (tgt := 278) hx hb dX9_compute_253 (by decide) ?_
                                          cases hf
                                          exact x_vret hx hb hlocks hC hP hS hr dX9_compute_278
                                        · have hf := g_neg hf hs1_19
                                          by_cases hs1_20 : x1 = 20
                                          · have hf := g_pos hf hs1_20
                                            refine lv_tableIn (off := 255) (tgt := 256) hx hb dX9_compute_1 (by rw [hs1_20]; decide) (by rw [hs1_20]; decide) (by rw [hs1_20]; rfl) (by decide) ?_
                                            refine lv_aload_n hx hb dX9_compute_256 rfl (lv_at hl 0 rfl) ?_
                                            refine lv_iload_n hx hb dX9_compute_257 rfl (lv_at hl 2 rfl) ?_
                                            refine lv_aload_n hx hb dX9_compute_258 rfl (lv_at hl 0 rfl) ?_
                                            refine lv_iload_n hx hb dX9_compute_259 rfl (lv_at hl 3 rfl) ?_
                                            obtain ⟨r_1, hc_2, hf⟩ := g_bindE hf
                                            refine x_calli (v := (X, M, τ)) (va_runV (As := [.int x3]) (rest := [.int x2, .ref (G.2.1 9 t0)]) ⟨hx, hb, hml, hown, hts⟩ (ct_X9_read l G X M τ t0 ht0 x3 hc_2) (cwV 1 hts gd_X9_71 rfl rfl rfl hd_X9_read ⟨Nat.le_of_ble_eq_true rfl, Nat.le_of_ble_eq_true rfl⟩) (x_preV (u := (X, M, τ)) (k := 9) (ci := 9) hC hS hP ht0 rfl rfl) rfl rfl hl.1 rfl (lv_room (Nat.le_of_ble_eq_true rfl)) dX9_compute_260 ⟨Nat.zero_le _, Nat.zero_le _⟩) hS (fun H locs hP hS => ?_)
                                            refine lv_aload_n hx hb dX9_compute_263 rfl (lv_at hl 0 rfl) ?_
                                            refine lv_iload hx hb dX9_compute_264 (lv_at hl 4 rfl) ?_
                                            obtain ⟨r_3, hc_4, hf⟩ := g_bindE hf
                                            refine x_calli (v := (X, M, τ)) (va_runV (As := [.int x4]) (rest := [.int r_1, .int x2, .ref (G.2.1 9 t0)]) ⟨hx, hb, hml, hown, hts⟩ (ct_X9_read l G X M τ t0 ht0 x4 hc_4) (cwV 1 hts gd_X9_71 rfl rfl rfl hd_X9_read ⟨Nat.le_of_ble_eq_true rfl, Nat.le_of_ble_eq_true rfl⟩) (x_preV (u := (X, M, τ)) (k := 9) (ci := 9) hC hS hP ht0 rfl rfl) rfl rfl hl.1 rfl (lv_room (Nat.le_of_ble_eq_true rfl)) dX9_compute_266 ⟨Nat.zero_le _, Nat.zero_le _⟩) hS (fun H locs hP hS => ?_)
                                            obtain ⟨r_5, hc_6, hf⟩ := g_bindE hf
                                            refine x_calli (v := (X, M, τ)) (va_runSN (As := [.int r_1, .int r_3]) (rest := [.int x2, .ref (G.2.1 9 t0)]) ⟨hx, hb, hml, hown, hts⟩ (ct_X11_part l G X M τ r_1 r_3 hc_6) ⟨va_cnB 2 hts (wz_N q26_11) rfl rfl rfl hC.2.1.2.2.2.2.2.1 (hts _ q1_2) hd_X11_part.2 ⟨Nat.le_of_ble_eq_true rfl, Nat.le_of_ble_eq_true rfl⟩, hts _ q26_10, trivial⟩ (x_pre (u := (X, M, τ)) hC hS hP) rfl rfl hl.1 rfl (lv_room (Nat.le_of_ble_eq_true rfl)) dX9_compute_269 ⟨Nat.zero_le _, Nat.zero_le _⟩) hS (fun H locs hP hS => ?_)
                                            obtain ⟨X_7, hc_8, hf⟩ := g_bindE hf
                                            refine x_callv (v := (X_7, M, τ)) (va_runV (As := [.int x2, .int r_5]) (rest := []) ⟨hx, hb, hml, hown, hts⟩ (ct_X9_write l G X M τ t0 ht0 x2 r_5 hc_8) (cwV 2 hts gd_X9_75 rfl rfl rfl hd_X9_write ⟨Nat.le_of_ble_eq_true rfl, Nat.le_of_ble_eq_true rfl⟩) (x_preV (u := (X, M, τ)) (k := 9) (ci := 9) hC hS hP ht0 rfl rfl) rfl rfl hl.1 rfl (lv_room (Nat.le_of_ble_eq_true rfl)) dX9_compute_272 ⟨Nat.zero_le _, Nat.zero_le _⟩) hS (fun H locs hP hS => ?_)
                                            refine lv_goto (tgt := 278) hx hb dX9_compute_275 (by decide) ?_
                                            cases hf
                                            exact x_vret hx hb hlocks hC hP hS hr dX9_compute_278
                                          · have hf := g_neg hf hs1_20
                                            have nhs1_0 : x1.toInt ≠ 0 := fun h => hs1_0 (Int32.toInt_inj.mp (by rw [h]; rfl))
                                            have nhs1_1 : x1.toInt ≠ 1 := fun h => hs1_1 (Int32.toInt_inj.mp (by rw [h]; rfl))
                                            have nhs1_2 : x1.toInt ≠ 2 := fun h => hs1_2 (Int32.toInt_inj.mp (by rw [h]; rfl))
                                            have nhs1_3 : x1.toInt ≠ 3 := fun h => hs1_3 (Int32.toInt_inj.mp (by rw [h]; rfl))
                                            have nhs1_4 : x1.toInt ≠ 4 := fun h => hs1_4 (Int32.toInt_inj.mp (by rw [h]; rfl))
                                            have nhs1_5 : x1.toInt ≠ 5 := fun h => hs1_5 (Int32.toInt_inj.mp (by rw [h]; rfl))
                                            have nhs1_6 : x1.toInt ≠ 6 := fun h => hs1_6 (Int32.toInt_inj.mp (by rw [h]; rfl))
                                            have nhs1_7 : x1.toInt ≠ 7 := fun h => hs1_7 (Int32.toInt_inj.mp (by rw [h]; rfl))
                                            have nhs1_8 : x1.toInt ≠ 8 := fun h => hs1_8 (Int32.toInt_inj.mp (by rw [h]; rfl))
                                            have nhs1_9 : x1.toInt ≠ 9 := fun h => hs1_9 (Int32.toInt_inj.mp (by rw [h]; rfl))
                                            have nhs1_10 : x1.toInt ≠ 10 := fun h => hs1_10 (Int32.toInt_inj.mp (by rw [h]; rfl))
                                            have nhs1_11 : x1.toInt ≠ 11 := fun h => hs1_11 (Int32.toInt_inj.mp (by rw [h]; rfl))
                                            have nhs1_12 : x1.toInt ≠ 12 := fun h => hs1_12 (Int32.toInt_inj.mp (by rw [h]; rfl))
                                            have nhs1_13 : x1.toInt ≠ 13 := fun h => hs1_13 (Int32.toInt_inj.mp (by rw [h]; rfl))
                                            have nhs1_14 : x1.toInt ≠ 14 := fun h => hs1_14 (Int32.toInt_inj.mp (by rw [h]; rfl))
                                            have nhs1_15 : x1.toInt ≠ 15 := fun h => hs1_15 (Int32.toInt_inj.mp (by rw [h]; rfl))
                                            have nhs1_16 : x1.toInt ≠ 16 := fun h => hs1_16 (Int32.toInt_inj.mp (by rw [h]; rfl))
                                            have nhs1_17 : x1.toInt ≠ 17 := fun h => hs1_17 (Int32.toInt_inj.mp (by rw [h]; rfl))
                                            have nhs1_18 : x1.toInt ≠ 18 := fun h => hs1_18 (Int32.toInt_inj.mp (by rw [h]; rfl))
                                            have nhs1_19 : x1.toInt ≠ 19 := fun h => hs1_19 (Int32.toInt_inj.mp (by rw [h]; rfl))
                                            have nhs1_20 : x1.toInt ≠ 20 := fun h => hs1_20 (Int32.toInt_inj.mp (by rw [h]; rfl))
                                            refine lv_tableOut (tgt := 278) hx hb dX9_compute_1 (by omega) (by decide) ?_
                                            cases hf
                                            exact x_vret hx hb hlocks hC hP hS hr dX9_compute_278
set_option maxRecDepth 100000 in
set_option maxHeartbeats 4000000 in
theorem ct_X9_compute (l : Launch) (G : GP) (X M : SM) (τ : SL) (t0 : Nat) (ht0 : t0 < 12) (x1 : Int32) (x2 : Int32) (x3 : Int32) (x4 : Int32) {X0 : SM} (hf : fn_X9_compute t0 x1 x2 x3 x4 X = some X0) : Met l yX9_compute (wz yX9_compute cX9_compute 5 none) rm_X9_compute (va_Pc [.ref (G.2.1 9 t0), .int x1, .int x2, .int x3, .int x4] (g_pw G (X, M, τ))) (va_Qv (fun u => u = (X0, M, τ)) (g_pw G) (g_A G)) 0 0 (g_A G) := by
  refine Met.ofW (cc := cX9_compute) (maxL := 5) (ret := none) (by decide +kernel) rfl ?_
  intro p e s m args below meth c s₁ B hml hv
  obtain ⟨rfl, hC, hP⟩ := hv
  have C0 : g_mc p s m _ meth c RX9 cX9_compute none 5 G := ⟨B.exec, B.bytes, B.returns, hml, findClass_of_methodNamed B.named, fun w h => atoms_spec (ws := wz yX9_compute cX9_compute 5 none) B.pre w (List.mem_cons_of_mem _ h), B.notSynchronized, hC⟩
  have hl := lv_entry ([.ref (G.2.1 9 t0), .int x1, .int x2, .int x3, .int x4]) (n := 5) (Nat.le_of_ble_eq_true rfl)
  rw [lg_entry_eq]
  generalize (lg_sl ([.ref (G.2.1 9 t0), .int x1, .int x2, .int x3, .int x4]) ++ List.replicate (5 - (lg_sl ([.ref (G.2.1 9 t0), .int x1, .int x2, .int x3, .int x4])).length) Slot.unset).toArray = ls at hl ⊢
  exact wk_X9_compute C0  t0 ht0 x1 x2 x3 x4 X hf hP va_S.rf hl
abbrev rm_X7_perform : Room := { frames := 4, cells := 0, slots := 0, locals := 98 }
def fn_X7_perform (t0 : Nat) (t1 : Nat) (X : SM) : Option (SM) :=
  g_let ((X 9 t1 8)) fun x3_1 =>
  g_let (fn_X1_has t1 x3_1 X) fun r_2 =>
  if r_2 = 0 then
  (some X)
  else
  (if g_in x3_1 24 then
    g_let ((X 16 t1 (x3_1.toNatClampNeg))) fun x4_6 =>
    if g_in x3_1 24 then
    g_let ((X 17 t1 (x3_1.toNatClampNeg))) fun x5_8 =>
    if g_in x3_1 24 then
    g_let ((X 18 t1 (x3_1.toNatClampNeg))) fun x6_10 =>
    if g_in x3_1 24 then
    g_let ((X 19 t1 (x3_1.toNatClampNeg))) fun x7_12 =>
    g_let (u1 X 9 t1 11 ((X 9 t1 11) + 1)) fun X_13 =>
    g_let (u1 X_13 7 t0 8 ((X_13 7 t0 8) + 1)) fun X_14 =>
    (fn_X7_trapOf t0 t1 x4_6 x5_8 x6_10 X_14).bind fun r_15 =>
    if r_15 = 0 then
    ((fn_X9_next t1 x4_6 x5_8 x6_10 X_14).bind fun (r_18, X_19) =>
      g_let (fn_X9_goTo t1 r_18 X_19) fun X_21 =>
      if x4_6 < 10 then
      ((fn_X9_compute t1 x4_6 x5_8 x6_10 x7_12 X_21).bind fun X_24 =>
        some X_24)
      else
      (if 17 < x4_6 then
        ((fn_X9_compute t1 x4_6 x5_8 x6_10 x7_12 X_21).bind fun X_27 =>
          some X_27)
        else
        ((fn_X7_meetOthers t0 t1 x4_6 x5_8 x6_10 x7_12 X_21).bind fun X_29 =>
          some X_29)))
    else
    (g_let (fn_X9_stopBy t1 r_15 X_14) fun X_31 =>
      some X_31)
    else none
    else none
    else none
    else none)
set_option maxRecDepth 100000 in
set_option maxHeartbeats 4000000 in
theorem wk_X7_perform {p : Program} {l : Launch} {e : Env} {s : State} {m : MethodId} {args : Array Value} {below : List Frame} {meth : Method} {c : Code} {G : GP} {M : SM} {τ : SL} (C0 : g_mc p s m args meth c RX7 cX7_perform none 9 G) {X0 : SM} (t0 : Nat) (ht0 : t0 < 2) (t1 : Nat) (ht1 : t1 < 12) (X : SM) (hf : fn_X7_perform t0 t1 X = some X0) {H : Heap} {locs : List Loc} (hP : va_P G.1 g_cl (wd G (cb X M) τ) H) (hS : va_S (g_A G) s.heap H locs) {ls : Array Slot} (hl : lv_has ls 9 [(0, .ref (G.2.1 7 t0)), (1, .ref (G.2.1 9 t1))]) : W p l e rm_X7_perform s m args below meth c H locs 0 0 (MQ below (va_Qv (fun u => u = (X0, M, τ)) (g_pw G) (g_A G)) args s 0 0 (g_A G)) (F0 m 0 ls []) := by
  obtain ⟨hx, hb, hr, hml, hown, hts, hlocks, hC⟩ := id C0
  unfold fn_X7_perform at hf
  refine lv_aload_n hx hb dX7_perform_0 rfl (lv_at hl 1 rfl) ?_
  refine gt_9_1 hx hb hts hown hC hP ht1 q9_12 dX7_perform_1 ?_
  refine lv_astore_n (lv' := [(2, .ref (G.2.1 1 t1)), (0, .ref (G.2.1 7 t0)), (1, .ref (G.2.1 9 t1))]) hx hb dX7_perform_4 rfl hl (by decide) rfl (fun ls hl => ?_)
  refine lv_aload_n hx hb dX7_perform_5 rfl (lv_at hl 2 rfl) ?_
  refine gt_9_8 hx hb hts hown hC hP ht1 q21_19 dX7_perform_6 ?_
  obtain ⟨x3_1, ex3_1, hf⟩ := g_letE hf
  refine lv_topE ex3_1 ?_
  refine lv_istore_n (lv' := [(3, .int x3_1), (2, .ref (G.2.1 1 t1)), (0, .ref (G.2.1 7 t0)), (1, .ref (G.2.1 9 t1))]) hx hb dX7_perform_9 rfl hl (by decide) rfl (fun ls hl => ?_)
  refine lv_aload_n hx hb dX7_perform_10 rfl (lv_at hl 1 rfl) ?_
  refine lv_iload_n hx hb dX7_perform_11 rfl (lv_at hl 0 rfl) ?_
  obtain ⟨r_2, hc_3, hf⟩ := g_letE hf
  refine x_calli (v := (X, M, τ)) (va_runV (As := [.int x3_1]) (rest := []) ⟨hx, hb, hml, hown, hts⟩ (ct_X1_has l G X M τ t1 ht1 x3_1 hc_3) (cwV 1 hts gd_X7_166 rfl rfl rfl hd_X1_has ⟨Nat.le_of_ble_eq_true rfl, Nat.le_of_ble_eq_true rfl⟩) (x_preV (u := (X, M, τ)) (k := 1) (ci := 1) hC hS hP ht1 rfl rfl) rfl rfl hl.1 rfl (lv_room (Nat.le_of_ble_eq_true rfl)) dX7_perform_12 ⟨Nat.zero_le _, Nat.zero_le _⟩) hS (fun H locs hP hS => ?_)
  refine lv_if_ne (tgt := 19) hx hb dX7_perform_15 (by decide) (fun hc_4 => ?_) (fun hc_4 => ?_)
  · have hf := g_neg hf hc_4
    refine lv_aload_n hx hb dX7_perform_19 rfl (lv_at hl 1 rfl) ?_
    refine gt_1_0 hx hb hts hown hC hP ht1 q21_20 dX7_perform_20 ?_
    refine lv_iload_n hx hb dX7_perform_23 rfl (lv_at hl 0 rfl) ?_
    obtain ⟨hg_5, hf⟩ := g_gd hf
    refine xildX (k := 16) (n := 24) hx hb hC hP (fun _ _ => rfl) rfl ht1 hg_5 dX7_perform_24 ?_
    obtain ⟨x4_6, ex4_6, hf⟩ := g_letE hf
    refine lv_topE ex4_6 ?_
    refine lv_istore (lv' := [(4, .int x4_6), (3, .int x3_1), (2, .ref (G.2.1 1 t1)), (0, .ref (G.2.1 7 t0)), (1, .ref (G.2.1 9 t1))]) hx hb dX7_perform_25 hl (by decide) rfl (fun ls hl => ?_)
    refine lv_aload_n hx hb dX7_perform_27 rfl (lv_at hl 2 rfl) ?_
    refine gt_1_1 hx hb hts hown hC hP ht1 q21_21 dX7_perform_28 ?_
    refine lv_iload_n hx hb dX7_perform_31 rfl (lv_at hl 1 rfl) ?_
    obtain ⟨hg_7, hf⟩ := g_gd hf
    refine xildX (k := 17) (n := 24) hx hb hC hP (fun _ _ => rfl) rfl ht1 hg_7 dX7_perform_32 ?_
    obtain ⟨x5_8, ex5_8, hf⟩ := g_letE hf
    refine lv_topE ex5_8 ?_
    refine lv_istore (lv' := [(5, .int x5_8), (4, .int x4_6), (3, .int x3_1), (2, .ref (G.2.1 1 t1)), (0, .ref (G.2.1 7 t0)), (1, .ref (G.2.1 9 t1))]) hx hb dX7_perform_33 hl (by decide) rfl (fun ls hl => ?_)
    refine lv_aload_n hx hb dX7_perform_35 rfl (lv_at hl 3 rfl) ?_
    refine gt_1_2 hx hb hts hown hC hP ht1 q21_22 dX7_perform_36 ?_
    refine lv_iload_n hx hb dX7_perform_39 rfl (lv_at hl 2 rfl) ?_
    obtain ⟨hg_9, hf⟩ := g_gd hf
    refine xildX (k := 18) (n := 24) hx hb hC hP (fun _ _ => rfl) rfl ht1 hg_9 dX7_perform_40 ?_
    obtain ⟨x6_10, ex6_10, hf⟩ := g_letE hf
    refine lv_topE ex6_10 ?_
    refine lv_istore (lv' := [(6, .int x6_10), (5, .int x5_8), (4, .int x4_6), (3, .int x3_1), (2, .ref (G.2.1 1 t1)), (0, .ref (G.2.1 7 t0)), (1, .ref (G.2.1 9 t1))]) hx hb dX7_perform_41 hl (by decide) rfl (fun ls hl => ?_)
    refine lv_aload_n hx hb dX7_perform_43 rfl (lv_at hl 4 rfl) ?_
    refine gt_1_3 hx hb hts hown hC hP ht1 q21_23 dX7_perform_44 ?_
    refine lv_iload_n hx hb dX7_perform_47 rfl (lv_at hl 3 rfl) ?_
    obtain ⟨hg_11, hf⟩ := g_gd hf
    refine xildX (k := 19) (n := 24) hx hb hC hP (fun _ _ => rfl) rfl ht1 hg_11 dX7_perform_48 ?_
    obtain ⟨x7_12, ex7_12, hf⟩ := g_letE hf
    refine lv_topE ex7_12 ?_
    refine lv_istore (lv' := [(7, .int x7_12), (6, .int x6_10), (5, .int x5_8), (4, .int x4_6), (3, .int x3_1), (2, .ref (G.2.1 1 t1)), (0, .ref (G.2.1 7 t0)), (1, .ref (G.2.1 9 t1))]) hx hb dX7_perform_49 hl (by decide) rfl (fun ls hl => ?_)
    refine lv_aload_n hx hb dX7_perform_51 rfl (lv_at hl 7 rfl) ?_
    refine lv_dup hx hb dX7_perform_52 rfl ?_
    refine gt_9_11 hx hb hts hown hC hP ht1 q22_0 dX7_perform_53 ?_
    refine lv_iconst (v := 1) hx hb dX7_perform_56 (by decide) ?_
    refine lv_iadd hx hb dX7_perform_57 ?_
    obtain ⟨X_13, eX_13, hf⟩ := g_letE hf
    refine pt_9_11 hx hb hts hown hC hP hS ht1 q22_0 dX7_perform_58 (fun H locs hP hS => ?_)
    rw [eX_13] at hP
    refine lv_aload_n hx hb dX7_perform_61 rfl (lv_at hl 6 rfl) ?_
    refine lv_dup hx hb dX7_perform_62 rfl ?_
    refine gt_7_8 hx hb hts hown hC hP ht0 q17_17 dX7_perform_63 ?_
    refine lv_iconst (v := 1) hx hb dX7_perform_66 (by decide) ?_
    refine lv_iadd hx hb dX7_perform_67 ?_
    obtain ⟨X_14, eX_14, hf⟩ := g_letE hf
    refine pt_7_8 hx hb hts hown hC hP hS ht0 q17_17 dX7_perform_68 (fun H locs hP hS => ?_)
    rw [eX_14] at hP
    refine lv_aload_n hx hb dX7_perform_71 rfl (lv_at hl 6 rfl) ?_
    refine lv_aload_n hx hb dX7_perform_72 rfl (lv_at hl 7 rfl) ?_
    refine lv_iload hx hb dX7_perform_73 (lv_at hl 3 rfl) ?_
    refine lv_iload hx hb dX7_perform_75 (lv_at hl 2 rfl) ?_
    refine lv_iload hx hb dX7_perform_77 (lv_at hl 1 rfl) ?_
    obtain ⟨r_15, hc_16, hf⟩ := g_bindE hf
    refine x_calli (v := (X_14, M, τ)) (va_runV (As := [.ref (G.2.1 9 t1), .int x4_6, .int x5_8, .int x6_10]) (rest := []) ⟨hx, hb, hml, hown, hts⟩ (ct_X7_trapOf l G X_14 M τ t0 ht0 t1 ht1 x4_6 x5_8 x6_10 hc_16) (cwV 4 hts gd_X7_183 rfl rfl rfl hd_X7_trapOf ⟨Nat.le_of_ble_eq_true rfl, Nat.le_of_ble_eq_true rfl⟩) (x_preV (u := (X_14, M, τ)) (k := 7) (ci := 7) hC hS hP ht0 rfl rfl) rfl rfl hl.1 rfl (lv_room (Nat.le_of_ble_eq_true rfl)) dX7_perform_79 ⟨Nat.zero_le _, Nat.zero_le _⟩) hS (fun H locs hP hS => ?_)
    refine lv_istore (lv' := [(8, .int r_15), (7, .int x7_12), (6, .int x6_10), (5, .int x5_8), (4, .int x4_6), (3, .int x3_1), (2, .ref (G.2.1 1 t1)), (0, .ref (G.2.1 7 t0)), (1, .ref (G.2.1 9 t1))]) hx hb dX7_perform_82 hl (by decide) rfl (fun ls hl => ?_)
    refine lv_iload hx hb dX7_perform_84 (lv_at hl 0 rfl) ?_
    refine lv_if_eq (tgt := 96) hx hb dX7_perform_86 (by decide) (fun hc_17 => ?_) (fun hc_17 => ?_)
    · have hf := g_pos hf hc_17
      refine lv_aload_n hx hb dX7_perform_96 rfl (lv_at hl 8 rfl) ?_
      refine lv_aload_n hx hb dX7_perform_97 rfl (lv_at hl 8 rfl) ?_
      refine lv_iload hx hb dX7_perform_98 (lv_at hl 4 rfl) ?_
      refine lv_iload hx hb dX7_perform_100 (lv_at hl 3 rfl) ?_
      refine lv_iload hx hb dX7_perform_102 (lv_at hl 2 rfl) ?_
      obtain ⟨⟨r_18, X_19⟩, hc_20, hf⟩ := g_bindE hf
      refine x_calli (v := (X_19, M, τ)) (va_runV (As := [.int x4_6, .int x5_8, .int x6_10]) (rest := [.ref (G.2.1 9 t1)]) ⟨hx, hb, hml, hown, hts⟩ (ct_X9_next l G X_14 M τ t1 ht1 x4_6 x5_8 x6_10 hc_20) (cwV 3 hts gd_X7_190 rfl rfl rfl hd_X9_next ⟨Nat.le_of_ble_eq_true rfl, Nat.le_of_ble_eq_true rfl⟩) (x_preV (u := (X_14, M, τ)) (k := 9) (ci := 9) hC hS hP ht1 rfl rfl) rfl rfl hl.1 rfl (lv_room (Nat.le_of_ble_eq_true rfl)) dX7_perform_104 ⟨Nat.zero_le _, Nat.zero_le _⟩) hS (fun H locs hP hS => ?_)
      obtain ⟨X_21, hc_22, hf⟩ := g_letE hf
      refine x_callv (v := (X_21, M, τ)) (va_runV (As := [.int r_18]) (rest := []) ⟨hx, hb, hml, hown, hts⟩ (ct_X9_goTo l G X_19 M τ t1 ht1 r_18 hc_22) (cwV 1 hts gd_X7_194 rfl rfl rfl hd_X9_goTo ⟨Nat.le_of_ble_eq_true rfl, Nat.le_of_ble_eq_true rfl⟩) (x_preV (u := (X_19, M, τ)) (k := 9) (ci := 9) hC hS hP ht1 rfl rfl) rfl rfl hl.1 rfl (lv_room (Nat.le_of_ble_eq_true rfl)) dX7_perform_107 ⟨Nat.zero_le _, Nat.zero_le _⟩) hS (fun H locs hP hS => ?_)
      refine lv_iload hx hb dX7_perform_110 (lv_at hl 4 rfl) ?_
      refine lv_bipush (v := 10) hx hb dX7_perform_112 (by decide) ?_
      refine lv_icmp_lt (tgt := 140) hx hb dX7_perform_114 (by decide) (fun hc_23 => ?_) (fun hc_23 => ?_)
      · have hf := g_pos hf hc_23
        refine lv_aload_n hx hb dX7_perform_140 rfl (lv_at hl 8 rfl) ?_
        refine lv_iload hx hb dX7_perform_141 (lv_at hl 4 rfl) ?_
        refine lv_iload hx hb dX7_perform_143 (lv_at hl 3 rfl) ?_
        refine lv_iload hx hb dX7_perform_145 (lv_at hl 2 rfl) ?_
        refine lv_iload hx hb dX7_perform_147 (lv_at hl 1 rfl) ?_
        obtain ⟨X_24, hc_25, hf⟩ := g_bindE hf
        refine x_callv (v := (X_24, M, τ)) (va_runV (As := [.int x4_6, .int x5_8, .int x6_10, .int x7_12]) (rest := []) ⟨hx, hb, hml, hown, hts⟩ (ct_X9_compute l G X_21 M τ t1 ht1 x4_6 x5_8 x6_10 x7_12 hc_25) (cwV 4 hts gd_X7_201 rfl rfl rfl hd_X9_compute ⟨Nat.le_of_ble_eq_true rfl, Nat.le_of_ble_eq_true rfl⟩) (x_preV (u := (X_21, M, τ)) (k := 9) (ci := 9) hC hS hP ht1 rfl rfl) rfl rfl hl.1 rfl (lv_room (Nat.le_of_ble_eq_true rfl)) dX7_perform_149 ⟨Nat.zero_le _, Nat.zero_le _⟩) hS (fun H locs hP hS => ?_)
        cases hf
        exact x_vret hx hb hlocks hC hP hS hr dX7_perform_152
      · have hf := g_neg hf hc_23
        refine lv_iload hx hb dX7_perform_117 (lv_at hl 4 rfl) ?_
        refine lv_bipush (v := 17) hx hb dX7_perform_119 (by decide) ?_
        refine lv_icmp_gt (tgt := 140) hx hb dX7_perform_121 (by decide) (fun hc_26 => ?_) (fun hc_26 => ?_)
        · have hf := g_pos hf hc_26
          refine lv_aload_n hx hb dX7_perform_140 rfl (lv_at hl 8 rfl) ?_
          refine lv_iload hx hb dX7_perform_141 (lv_at hl 4 rfl) ?_
          refine lv_iload hx hb dX7_perform_143 (lv_at hl 3 rfl) ?_
          refine lv_iload hx hb dX7_perform_145 (lv_at hl 2 rfl) ?_
          refine lv_iload hx hb dX7_perform_147 (lv_at hl 1 rfl) ?_
          obtain ⟨X_27, hc_28, hf⟩ := g_bindE hf
          refine x_callv (v := (X_27, M, τ)) (va_runV (As := [.int x4_6, .int x5_8, .int x6_10, .int x7_12]) (rest := []) ⟨hx, hb, hml, hown, hts⟩ (ct_X9_compute l G X_21 M τ t1 ht1 x4_6 x5_8 x6_10 x7_12 hc_28) (cwV 4 hts gd_X7_201 rfl rfl rfl hd_X9_compute ⟨Nat.le_of_ble_eq_true rfl, Nat.le_of_ble_eq_true rfl⟩) (x_preV (u := (X_21, M, τ)) (k := 9) (ci := 9) hC hS hP ht1 rfl rfl) rfl rfl hl.1 rfl (lv_room (Nat.le_of_ble_eq_true rfl)) dX7_perform_149 ⟨Nat.zero_le _, Nat.zero_le _⟩) hS (fun H locs hP hS => ?_)
          cases hf
          exact x_vret hx hb hlocks hC hP hS hr dX7_perform_152
        · have hf := g_neg hf hc_26
          refine lv_aload_n hx hb dX7_perform_124 rfl (lv_at hl 7 rfl) ?_
          refine lv_aload_n hx hb dX7_perform_125 rfl (lv_at hl 8 rfl) ?_
          refine lv_iload hx hb dX7_perform_126 (lv_at hl 4 rfl) ?_
          refine lv_iload hx hb dX7_perform_128 (lv_at hl 3 rfl) ?_
          refine lv_iload hx hb dX7_perform_130 (lv_at hl 2 rfl) ?_
          refine lv_iload hx hb dX7_perform_132 (lv_at hl 1 rfl) ?_
          obtain ⟨X_29, hc_30, hf⟩ := g_bindE hf
          refine x_callv (v := (X_29, M, τ)) (va_runV (As := [.ref (G.2.1 9 t1), .int x4_6, .int x5_8, .int x6_10, .int x7_12]) (rest := []) ⟨hx, hb, hml, hown, hts⟩ (ct_X7_meetOthers l G X_21 M τ t0 ht0 t1 ht1 x4_6 x5_8 x6_10 x7_12 hc_30) (cwV 5 hts gd_X7_197 rfl rfl rfl hd_X7_meetOthers ⟨Nat.le_of_ble_eq_true rfl, Nat.le_of_ble_eq_true rfl⟩) (x_preV (u := (X_21, M, τ)) (k := 7) (ci := 7) hC hS hP ht0 rfl rfl) rfl rfl hl.1 rfl (lv_room (Nat.le_of_ble_eq_true rfl)) dX7_perform_134 ⟨Nat.zero_le _, Nat.zero_le _⟩) hS (fun H locs hP hS => ?_)
          refine lv_goto (tgt := 152) hx hb dX7_perform_137 (by decide) ?_
          cases hf
          exact x_vret hx hb hlocks hC hP hS hr dX7_perform_152
    · have hf := g_neg hf hc_17
      refine lv_aload_n hx hb dX7_perform_89 rfl (lv_at hl 8 rfl) ?_
      refine lv_iload hx hb dX7_perform_90 (lv_at hl 0 rfl) ?_
      obtain ⟨X_31, hc_32, hf⟩ := g_letE hf
      refine x_callv (v := (X_31, M, τ)) (va_runV (As := [.int r_15]) (rest := []) ⟨hx, hb, hml, hown, hts⟩ (ct_X9_stopBy l G X_14 M τ t1 ht1 r_15 hc_32) (cwV 1 hts gd_X7_187 rfl rfl rfl hd_X9_stopBy ⟨Nat.le_of_ble_eq_true rfl, Nat.le_of_ble_eq_true rfl⟩) (x_preV (u := (X_14, M, τ)) (k := 9) (ci := 9) hC hS hP ht1 rfl rfl) rfl rfl hl.1 rfl (lv_room (Nat.le_of_ble_eq_true rfl)) dX7_perform_92 ⟨Nat.zero_le _, Nat.zero_le _⟩) hS (fun H locs hP hS => ?_)
      cases hf
      exact x_vret hx hb hlocks hC hP hS hr dX7_perform_95
  · have hf := g_pos hf hc_4
    cases hf
    exact x_vret hx hb hlocks hC hP hS hr dX7_perform_18
set_option maxRecDepth 100000 in
set_option maxHeartbeats 4000000 in
theorem ct_X7_perform (l : Launch) (G : GP) (X M : SM) (τ : SL) (t0 : Nat) (ht0 : t0 < 2) (t1 : Nat) (ht1 : t1 < 12) {X0 : SM} (hf : fn_X7_perform t0 t1 X = some X0) : Met l yX7_perform (wz yX7_perform cX7_perform 9 none) rm_X7_perform (va_Pc [.ref (G.2.1 7 t0), .ref (G.2.1 9 t1)] (g_pw G (X, M, τ))) (va_Qv (fun u => u = (X0, M, τ)) (g_pw G) (g_A G)) 0 0 (g_A G) := by
  refine Met.ofW (cc := cX7_perform) (maxL := 9) (ret := none) (by decide +kernel) rfl ?_
  intro p e s m args below meth c s₁ B hml hv
  obtain ⟨rfl, hC, hP⟩ := hv
  have C0 : g_mc p s m _ meth c RX7 cX7_perform none 9 G := ⟨B.exec, B.bytes, B.returns, hml, findClass_of_methodNamed B.named, fun w h => atoms_spec (ws := wz yX7_perform cX7_perform 9 none) B.pre w (List.mem_cons_of_mem _ h), B.notSynchronized, hC⟩
  have hl := lv_entry ([.ref (G.2.1 7 t0), .ref (G.2.1 9 t1)]) (n := 9) (Nat.le_of_ble_eq_true rfl)
  rw [lg_entry_eq]
  generalize (lg_sl ([.ref (G.2.1 7 t0), .ref (G.2.1 9 t1)]) ++ List.replicate (9 - (lg_sl ([.ref (G.2.1 7 t0), .ref (G.2.1 9 t1)])).length) Slot.unset).toArray = ls at hl ⊢
  exact wk_X7_perform C0  t0 ht0 t1 ht1 X hf hP va_S.rf hl
abbrev rm_X7_tick : Room := { frames := 5, cells := 0, slots := 0, locals := 126 }
def wb_X7_tick_17 (k17 : Nat → Int32 → SM → Option (Int32 × SM)) (t0 : Nat) (x1 : Int32) (X : SM) : Option (Int32 × SM) :=
  if 6 ≤ x1 then
  ((fn_X7_whoseTurn t0 X).bind fun (r_4, X_5) =>
    g_let (fn_X11_isThread r_4) fun r_7 =>
    if r_7 = 0 then
    (g_let (u1 X_5 7 t0 5 ((X_5 7 t0 5) + 1)) fun X_10 =>
      some (r_4, X_10))
    else
    (if g_in r_4 6 then
      (fn_X7_perform t0 (6 * t0 + (r_4.toNatClampNeg)) X_5).bind fun X_13 =>
      g_let (u1 X_13 7 t0 5 ((X_13 7 t0 5) + 1)) fun X_15 =>
      some (r_4, X_15)
      else none))
  else
  (if g_in x1 6 then
    g_let ((6 * t0 + (x1.toNatClampNeg))) fun t2_18 =>
    if (X 9 t2_18 9) = 1 then
    (if (X 4 t2_18 4) = (X 7 t0 5) then
      ((fn_X7_wake t0 t2_18 X).bind fun X_23 =>
        g_let (x1 + 1) fun x1_25 =>
        k17 t0 x1_25 X_23)
      else
      (g_let (x1 + 1) fun x1_22 =>
        k17 t0 x1_22 X))
    else
    (g_let (x1 + 1) fun x1_20 =>
      k17 t0 x1_20 X)
    else none)
set_option maxRecDepth 100000 in
set_option maxHeartbeats 4000000 in
theorem bk_X7_tick_17 {p : Program} {l : Launch} {e : Env} {s : State} {m : MethodId} {args : Array Value} {below : List Frame} {meth : Method} {c : Code} {G : GP} {M : SM} {τ : SL} (C0 : g_mc p s m args meth c RX7 cX7_tick (some .int) 3 G) {r0 : Int32} {X0 : SM} (k17 : Nat → Int32 → SM → Option (Int32 × SM)) (hk17 : ∀ (t0 : Nat) (ht0 : t0 < 2) (x1 : Int32) (X : SM), k17 t0 x1 X = some (r0, X0) → ∀ {H : Heap} {locs : List Loc}, va_P G.1 g_cl (wd G (cb X M) τ) H → va_S (g_A G) s.heap H locs → ∀ {ls : Array Slot}, lv_has ls 3 [(0, .ref (G.2.1 7 t0)), (1, .int x1)] → W p l e rm_X7_tick s m args below meth c H locs 0 0 (MQ below (va_Qi (fun r u => r = r0 ∧ u = (X0, M, τ)) (g_pw G) (g_A G)) args s 0 0 (g_A G)) (F0 m 17 ls [])) (t0 : Nat) (ht0 : t0 < 2) (x1 : Int32) (X : SM) (hf : wb_X7_tick_17 k17 t0 x1 X = some (r0, X0)) {H : Heap} {locs : List Loc} (hP : va_P G.1 g_cl (wd G (cb X M) τ) H) (hS : va_S (g_A G) s.heap H locs) {ls : Array Slot} (hl : lv_has ls 3 [(0, .ref (G.2.1 7 t0)), (1, .int x1)]) : W p l e rm_X7_tick s m args below meth c H locs 0 0 (MQ below (va_Qi (fun r u => r = r0 ∧ u = (X0, M, τ)) (g_pw G) (g_A G)) args s 0 0 (g_A G)) (F0 m 17 ls []) := by
  obtain ⟨hx, hb, hr, hml, hown, hts, hlocks, hC⟩ := id C0
  unfold wb_X7_tick_17 at hf
  refine lv_iload_n hx hb dX7_tick_17 rfl (lv_at hl 1 rfl) ?_
  refine lv_bipush (v := 6) hx hb dX7_tick_18 (by decide) ?_
  refine lv_icmp_ge (tgt := 63) hx hb dX7_tick_20 (by decide) (fun hc_3 => ?_) (fun hc_3 => ?_)
  · have hf := g_pos hf hc_3
    refine lv_aload_n hx hb dX7_tick_63 rfl (lv_at hl 0 rfl) ?_
    obtain ⟨⟨r_4, X_5⟩, hc_6, hf⟩ := g_bindE hf
    refine x_calli (v := (X_5, M, τ)) (va_runV (As := []) (rest := []) ⟨hx, hb, hml, hown, hts⟩ (ct_X7_whoseTurn l G X M τ t0 ht0 hc_6) (cwV 0 hts gd_X7_119 rfl rfl rfl hd_X7_whoseTurn ⟨Nat.le_of_ble_eq_true rfl, Nat.le_of_ble_eq_true rfl⟩) (x_preV (u := (X, M, τ)) (k := 7) (ci := 7) hC hS hP ht0 rfl rfl) rfl rfl hl.1 rfl (lv_room (Nat.le_of_ble_eq_true rfl)) dX7_tick_64 ⟨Nat.zero_le _, Nat.zero_le _⟩) hS (fun H locs hP hS => ?_)
    refine lv_istore_n (lv' := [(1, .int r_4), (0, .ref (G.2.1 7 t0))]) hx hb dX7_tick_67 rfl hl (by decide) rfl (fun ls hl => ?_)
    refine lv_iload_n hx hb dX7_tick_68 rfl (lv_at hl 0 rfl) ?_
    obtain ⟨r_7, hc_8, hf⟩ := g_letE hf
    refine x_calli (v := (X_5, M, τ)) (va_runSN (As := [.int r_4]) (rest := []) ⟨hx, hb, hml, hown, hts⟩ (ct_X11_isThread l G X_5 M τ r_4 hc_8) ⟨va_cnB 1 hts (wz_N q8_1) rfl rfl rfl hC.2.1.1 (hts _ q1_2) hd_X11_isThread.2 ⟨Nat.le_of_ble_eq_true rfl, Nat.le_of_ble_eq_true rfl⟩, hts _ q8_0, trivial⟩ (x_pre (u := (X_5, M, τ)) hC hS hP) rfl rfl hl.1 rfl (lv_room (Nat.le_of_ble_eq_true rfl)) dX7_tick_69 ⟨Nat.zero_le _, Nat.zero_le _⟩) hS (fun H locs hP hS => ?_)
    refine lv_if_eq (tgt := 85) hx hb dX7_tick_72 (by decide) (fun hc_9 => ?_) (fun hc_9 => ?_)
    · have hf := g_pos hf hc_9
      refine lv_aload_n hx hb dX7_tick_85 rfl (lv_at hl 1 rfl) ?_
      refine lv_dup hx hb dX7_tick_86 rfl ?_
      refine gt_7_5 hx hb hts hown hC hP ht0 q17_14 dX7_tick_87 ?_
      refine lv_iconst (v := 1) hx hb dX7_tick_90 (by decide) ?_
      refine lv_iadd hx hb dX7_tick_91 ?_
      obtain ⟨X_10, eX_10, hf⟩ := g_letE hf
      refine pt_7_5 hx hb hts hown hC hP hS ht0 q17_14 dX7_tick_92 (fun H locs hP hS => ?_)
      rw [eX_10] at hP
      refine lv_iload_n hx hb dX7_tick_95 rfl (lv_at hl 0 rfl) ?_
      cases hf
      exact x_iret hx hb hlocks hC hP hS hr dX7_tick_96
    · have hf := g_neg hf hc_9
      refine lv_aload_n hx hb dX7_tick_75 rfl (lv_at hl 1 rfl) ?_
      refine lv_aload_n hx hb dX7_tick_76 rfl (lv_at hl 1 rfl) ?_
      refine gt_7_0 hx hb hts hown hC hP ht0 q3_10 dX7_tick_77 ?_
      refine lv_iload_n hx hb dX7_tick_80 rfl (lv_at hl 0 rfl) ?_
      obtain ⟨hg_11, hf⟩ := g_gd hf
      have hq_12 : 6 * t0 + (r_4.toNatClampNeg) < 12 := by have h8 := g_in_lt (n := 6) hg_11; have h9 : t0 < 2 := ht0; omega
      refine xaldS hx hb hC hP ht0 hg_11 dX7_tick_81 ?_
      obtain ⟨X_13, hc_14, hf⟩ := g_bindE hf
      refine x_callv (v := (X_13, M, τ)) (va_runV (As := [.ref (G.2.1 9 (6 * t0 + (r_4.toNatClampNeg)))]) (rest := []) ⟨hx, hb, hml, hown, hts⟩ (ct_X7_perform l G X_5 M τ t0 ht0 (6 * t0 + (r_4.toNatClampNeg)) hq_12 hc_14) (cwV 1 hts gd_X7_123 rfl rfl rfl hd_X7_perform ⟨Nat.le_of_ble_eq_true rfl, Nat.le_of_ble_eq_true rfl⟩) (x_preV (u := (X_5, M, τ)) (k := 7) (ci := 7) hC hS hP ht0 rfl rfl) rfl rfl hl.1 rfl (lv_room (Nat.le_of_ble_eq_true rfl)) dX7_tick_82 ⟨Nat.zero_le _, Nat.zero_le _⟩) hS (fun H locs hP hS => ?_)
      refine lv_aload_n hx hb dX7_tick_85 rfl (lv_at hl 1 rfl) ?_
      refine lv_dup hx hb dX7_tick_86 rfl ?_
      refine gt_7_5 hx hb hts hown hC hP ht0 q17_14 dX7_tick_87 ?_
      refine lv_iconst (v := 1) hx hb dX7_tick_90 (by decide) ?_
      refine lv_iadd hx hb dX7_tick_91 ?_
      obtain ⟨X_15, eX_15, hf⟩ := g_letE hf
      refine pt_7_5 hx hb hts hown hC hP hS ht0 q17_14 dX7_tick_92 (fun H locs hP hS => ?_)
      rw [eX_15] at hP
      refine lv_iload_n hx hb dX7_tick_95 rfl (lv_at hl 0 rfl) ?_
      cases hf
      exact x_iret hx hb hlocks hC hP hS hr dX7_tick_96
  · have hf := g_neg hf hc_3
    refine lv_aload_n hx hb dX7_tick_23 rfl (lv_at hl 0 rfl) ?_
    refine gt_7_0 hx hb hts hown hC hP ht0 q3_10 dX7_tick_24 ?_
    refine lv_iload_n hx hb dX7_tick_27 rfl (lv_at hl 1 rfl) ?_
    obtain ⟨hg_16, hf⟩ := g_gd hf
    have hq_17 : 6 * t0 + (x1.toNatClampNeg) < 12 := by have h8 := g_in_lt (n := 6) hg_16; have h9 : t0 < 2 := ht0; omega
    refine xaldS hx hb hC hP ht0 hg_16 dX7_tick_28 ?_
    obtain ⟨t2_18, et2_18, hf⟩ := g_letE hf
    refine lv_toprE et2_18 ?_
    have ht2_18 : t2_18 < 12 := by rw [← et2_18]; exact hq_17
    refine lv_astore_n (lv' := [(2, .ref (G.2.1 9 t2_18)), (0, .ref (G.2.1 7 t0)), (1, .int x1)]) hx hb dX7_tick_29 rfl hl (by decide) rfl (fun ls hl => ?_)
    refine lv_aload_n hx hb dX7_tick_30 rfl (lv_at hl 0 rfl) ?_
    refine gt_9_9 hx hb hts hown hC hP ht2_18 q19_7 dX7_tick_31 ?_
    refine lv_iconst (v := 1) hx hb dX7_tick_34 (by decide) ?_
    refine lv_icmp_ne (tgt := 57) hx hb dX7_tick_35 (by decide) (fun hc_19 => ?_) (fun hc_19 => ?_)
    · have hf := g_neg hf hc_19
      obtain ⟨x1_20, ex1_20, hf⟩ := g_letE hf
      refine lv_iinc (v := x1_20) (lv' := [(1, .int x1_20), (2, .ref (G.2.1 9 t2_18)), (0, .ref (G.2.1 7 t0))]) hx hb dX7_tick_57 hl (k := 2) rfl (by rw [← ex1_20]; rfl) (by decide) rfl (fun ls hl => ?_)
      refine lv_goto (tgt := 17) hx hb dX7_tick_60 (by decide) ?_
      exact hk17 t0 ht0 x1_20 X hf hP hS (lv_sub hl [2, 0] rfl)
    · have hf := g_pos hf hc_19
      refine lv_aload_n hx hb dX7_tick_38 rfl (lv_at hl 0 rfl) ?_
      refine gt_9_2 hx hb hts hown hC hP ht2_18 q19_8 dX7_tick_39 ?_
      refine gt_4_4 hx hb hts hown hC hP ht2_18 q19_9 dX7_tick_42 ?_
      refine lv_aload_n hx hb dX7_tick_45 rfl (lv_at hl 1 rfl) ?_
      refine gt_7_5 hx hb hts hown hC hP ht0 q17_14 dX7_tick_46 ?_
      refine lv_icmp_ne (tgt := 57) hx hb dX7_tick_49 (by decide) (fun hc_21 => ?_) (fun hc_21 => ?_)
      · have hf := g_neg hf hc_21
        obtain ⟨x1_22, ex1_22, hf⟩ := g_letE hf
        refine lv_iinc (v := x1_22) (lv' := [(1, .int x1_22), (2, .ref (G.2.1 9 t2_18)), (0, .ref (G.2.1 7 t0))]) hx hb dX7_tick_57 hl (k := 2) rfl (by rw [← ex1_22]; rfl) (by decide) rfl (fun ls hl => ?_)
        refine lv_goto (tgt := 17) hx hb dX7_tick_60 (by decide) ?_
        exact hk17 t0 ht0 x1_22 X hf hP hS (lv_sub hl [2, 0] rfl)
      · have hf := g_pos hf hc_21
        refine lv_aload_n hx hb dX7_tick_52 rfl (lv_at hl 1 rfl) ?_
        refine lv_aload_n hx hb dX7_tick_53 rfl (lv_at hl 0 rfl) ?_
        obtain ⟨X_23, hc_24, hf⟩ := g_bindE hf
        refine x_callv (v := (X_23, M, τ)) (va_runV (As := [.ref (G.2.1 9 t2_18)]) (rest := []) ⟨hx, hb, hml, hown, hts⟩ (ct_X7_wake l G X M τ t0 ht0 t2_18 ht2_18 hc_24) (cwV 1 hts gd_X7_116 rfl rfl rfl hd_X7_wake ⟨Nat.le_of_ble_eq_true rfl, Nat.le_of_ble_eq_true rfl⟩) (x_preV (u := (X, M, τ)) (k := 7) (ci := 7) hC hS hP ht0 rfl rfl) rfl rfl hl.1 rfl (lv_room (Nat.le_of_ble_eq_true rfl)) dX7_tick_54 ⟨Nat.zero_le _, Nat.zero_le _⟩) hS (fun H locs hP hS => ?_)
        obtain ⟨x1_25, ex1_25, hf⟩ := g_letE hf
        refine lv_iinc (v := x1_25) (lv' := [(1, .int x1_25), (2, .ref (G.2.1 9 t2_18)), (0, .ref (G.2.1 7 t0))]) hx hb dX7_tick_57 hl (k := 2) rfl (by rw [← ex1_25]; rfl) (by decide) rfl (fun ls hl => ?_)
        refine lv_goto (tgt := 17) hx hb dX7_tick_60 (by decide) ?_
        exact hk17 t0 ht0 x1_25 X_23 hf hP hS (lv_sub hl [2, 0] rfl)
def wl_X7_tick_17 (n : Nat) (t0 : Nat) (x1 : Int32) (X : SM) : Option (Int32 × SM) := g_loop (α := Nat × Int32 × SM) (fun k a => wb_X7_tick_17 (fun t0 x1 X => k (t0, x1, X)) a.1 a.2.1 a.2.2) n (t0, x1, X)
set_option maxRecDepth 100000 in
set_option maxHeartbeats 4000000 in
theorem lp_X7_tick_17 {p : Program} {l : Launch} {e : Env} {s : State} {m : MethodId} {args : Array Value} {below : List Frame} {meth : Method} {c : Code} {G : GP} {M : SM} {τ : SL} (C0 : g_mc p s m args meth c RX7 cX7_tick (some .int) 3 G) {r0 : Int32} {X0 : SM} (n : Nat) : ∀ (t0 : Nat) (ht0 : t0 < 2) (x1 : Int32) (X : SM), wl_X7_tick_17 n t0 x1 X = some (r0, X0) → ∀ {H : Heap} {locs : List Loc}, va_P G.1 g_cl (wd G (cb X M) τ) H → va_S (g_A G) s.heap H locs → ∀ {ls : Array Slot}, lv_has ls 3 [(0, .ref (G.2.1 7 t0)), (1, .int x1)] → W p l e rm_X7_tick s m args below meth c H locs 0 0 (MQ below (va_Qi (fun r u => r = r0 ∧ u = (X0, M, τ)) (g_pw G) (g_A G)) args s 0 0 (g_A G)) (F0 m 17 ls []) := by
  induction n with
  | zero =>
    intro t0 ht0 x1 X hf
    have hf : (none : Option (Int32 × SM)) = _ := hf
    cases hf
  | succ n ih =>
    intro t0 ht0 x1 X hf H locs hP hS ls hl
    exact bk_X7_tick_17 C0   (fun t0 x1 X => wl_X7_tick_17   n t0 x1 X) ih t0 ht0 x1 X hf hP hS hl
def fn_X7_tick (t0 : Nat) (X : SM) : Option (Int32 × SM) :=
  (fn_X5_comeTo t0 (X 7 t0 5) X).bind fun X_1 =>
  wl_X7_tick_17 1000 t0 0 X_1
set_option maxRecDepth 100000 in
set_option maxHeartbeats 4000000 in
theorem wk_X7_tick {p : Program} {l : Launch} {e : Env} {s : State} {m : MethodId} {args : Array Value} {below : List Frame} {meth : Method} {c : Code} {G : GP} {M : SM} {τ : SL} (C0 : g_mc p s m args meth c RX7 cX7_tick (some .int) 3 G) {r0 : Int32} {X0 : SM} (t0 : Nat) (ht0 : t0 < 2) (X : SM) (hf : fn_X7_tick t0 X = some (r0, X0)) {H : Heap} {locs : List Loc} (hP : va_P G.1 g_cl (wd G (cb X M) τ) H) (hS : va_S (g_A G) s.heap H locs) {ls : Array Slot} (hl : lv_has ls 3 [(0, .ref (G.2.1 7 t0))]) : W p l e rm_X7_tick s m args below meth c H locs 0 0 (MQ below (va_Qi (fun r u => r = r0 ∧ u = (X0, M, τ)) (g_pw G) (g_A G)) args s 0 0 (g_A G)) (F0 m 0 ls []) := by
  obtain ⟨hx, hb, hr, hml, hown, hts, hlocks, hC⟩ := id C0
  unfold fn_X7_tick at hf
  refine lv_aload_n hx hb dX7_tick_0 rfl (lv_at hl 0 rfl) ?_
  refine gt_7_4 hx hb hts hown hC hP ht0 q3_21 dX7_tick_1 ?_
  refine lv_aload_n hx hb dX7_tick_4 rfl (lv_at hl 0 rfl) ?_
  refine gt_7_1 hx hb hts hown hC hP ht0 q3_14 dX7_tick_5 ?_
  refine lv_aload_n hx hb dX7_tick_8 rfl (lv_at hl 0 rfl) ?_
  refine gt_7_5 hx hb hts hown hC hP ht0 q17_14 dX7_tick_9 ?_
  obtain ⟨X_1, hc_2, hf⟩ := g_bindE hf
  refine x_callv (v := (X_1, M, τ)) (va_runV (As := [.ref (G.2.1 8 t0), .int (X 7 t0 5)]) (rest := []) ⟨hx, hb, hml, hown, hts⟩ (ct_X5_comeTo l G X M τ t0 ht0 (X 7 t0 5) hc_2) (cwV 2 hts gd_X7_98 rfl rfl rfl hd_X5_comeTo ⟨Nat.le_of_ble_eq_true rfl, Nat.le_of_ble_eq_true rfl⟩) (x_preV (u := (X, M, τ)) (k := 5) (ci := 5) hC hS hP Nat.zero_lt_one rfl rfl) rfl rfl hl.1 rfl (lv_room (Nat.le_of_ble_eq_true rfl)) dX7_tick_12 ⟨Nat.zero_le _, Nat.zero_le _⟩) hS (fun H locs hP hS => ?_)
  refine lv_iconst (v := 0) hx hb dX7_tick_15 (by decide) ?_
  refine lv_istore_n (lv' := [(1, .int 0), (0, .ref (G.2.1 7 t0))]) hx hb dX7_tick_16 rfl hl (by decide) rfl (fun ls hl => ?_)
  exact lp_X7_tick_17 C0 1000 t0 ht0 0 X_1 hf hP hS (lv_sub hl [1, 0] rfl)
set_option maxRecDepth 100000 in
set_option maxHeartbeats 4000000 in
theorem ct_X7_tick (l : Launch) (G : GP) (X M : SM) (τ : SL) (t0 : Nat) (ht0 : t0 < 2) {r0 : Int32} {X0 : SM} (hf : fn_X7_tick t0 X = some (r0, X0)) : Met l yX7_tick (wz yX7_tick cX7_tick 3 (some .int)) rm_X7_tick (va_Pc [.ref (G.2.1 7 t0)] (g_pw G (X, M, τ))) (va_Qi (fun r u => r = r0 ∧ u = (X0, M, τ)) (g_pw G) (g_A G)) 0 0 (g_A G) := by
  refine Met.ofW (cc := cX7_tick) (maxL := 3) (ret := (some .int)) (by decide +kernel) rfl ?_
  intro p e s m args below meth c s₁ B hml hv
  obtain ⟨rfl, hC, hP⟩ := hv
  have C0 : g_mc p s m _ meth c RX7 cX7_tick (some .int) 3 G := ⟨B.exec, B.bytes, B.returns, hml, findClass_of_methodNamed B.named, fun w h => atoms_spec (ws := wz yX7_tick cX7_tick 3 (some .int)) B.pre w (List.mem_cons_of_mem _ h), B.notSynchronized, hC⟩
  have hl := lv_entry ([.ref (G.2.1 7 t0)]) (n := 3) (Nat.le_of_ble_eq_true rfl)
  rw [lg_entry_eq]
  generalize (lg_sl ([.ref (G.2.1 7 t0)]) ++ List.replicate (3 - (lg_sl ([.ref (G.2.1 7 t0)])).length) Slot.unset).toArray = ls at hl ⊢
  exact wk_X7_tick C0  t0 ht0 X hf hP va_S.rf hl
