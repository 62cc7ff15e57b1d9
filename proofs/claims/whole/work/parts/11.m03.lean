abbrev rm_X12_comesBack : Room := { frames := 0, cells := 0, slots := 0, locals := 0 }
def wb_X12_comesBack_2 (k2 : Int32 → SM → Option (SM)) (x1 : Int32) (M : SM) : Option (SM) :=
  if 693 ≤ x1 then
  (some M)
  else
  (if g_in x1 693 then
    if g_in x1 693 then
    g_let (u1 M 40 0 (x1.toNatClampNeg) (M 41 0 (x1.toNatClampNeg))) fun M_4 =>
    g_let (x1 + 1) fun x1_5 =>
    k2 x1_5 M_4
    else none
    else none)
set_option maxRecDepth 100000 in
set_option maxHeartbeats 4000000 in
theorem bk_X12_comesBack_2 {p : Program} {l : Launch} {e : Env} {s : State} {m : MethodId} {args : Array Value} {below : List Frame} {meth : Method} {c : Code} {G : GP} {X : SM} {τ : SL} (C0 : g_mc p s m args meth c RX12 cX12_comesBack none 2 G) {M0 : SM} (k2 : Int32 → SM → Option (SM)) (hk2 : ∀ (x1 : Int32) (M : SM), k2 x1 M = some M0 → ∀ {H : Heap} {locs : List Loc}, va_P G.1 g_cl (wd G (cb X M) τ) H → va_S (g_A G) s.heap H locs → ∀ {ls : Array Slot}, lv_has ls 2 [(0, .ref (G.2.1 39 0)), (1, .int x1)] → W p l e rm_X12_comesBack s m args below meth c H locs 0 0 (MQ below (va_Qv (fun u => u = (X, M0, τ)) (g_pw G) (g_A G)) args s 0 0 (g_A G)) (F0 m 2 ls [])) (x1 : Int32) (M : SM) (hf : wb_X12_comesBack_2 k2 x1 M = some M0) {H : Heap} {locs : List Loc} (hP : va_P G.1 g_cl (wd G (cb X M) τ) H) (hS : va_S (g_A G) s.heap H locs) {ls : Array Slot} (hl : lv_has ls 2 [(0, .ref (G.2.1 39 0)), (1, .int x1)]) : W p l e rm_X12_comesBack s m args below meth c H locs 0 0 (MQ below (va_Qv (fun u => u = (X, M0, τ)) (g_pw G) (g_A G)) args s 0 0 (g_A G)) (F0 m 2 ls []) := by
  obtain ⟨hx, hb, hr, hml, hown, hts, hlocks, hC⟩ := id C0
  unfold wb_X12_comesBack_2 at hf
  refine lv_iload_n hx hb dX12_comesBack_2 rfl (lv_at hl 1 rfl) ?_
  refine lv_sipush (v := 693) hx hb dX12_comesBack_3 (by decide) ?_
  refine lv_icmp_ge (tgt := 27) hx hb dX12_comesBack_6 (by decide) (fun hc_1 => ?_) (fun hc_1 => ?_)
  · have hf := g_pos hf hc_1
    cases hf
    exact x_vret hx hb hlocks hC hP hS hr dX12_comesBack_27
  · have hf := g_neg hf hc_1
    refine lv_aload_n hx hb dX12_comesBack_9 rfl (lv_at hl 0 rfl) ?_
    refine gt_39_0 hx hb hts hown hC hP Nat.zero_lt_one q6_17 dX12_comesBack_10 ?_
    refine lv_iload_n hx hb dX12_comesBack_13 rfl (lv_at hl 1 rfl) ?_
    refine lv_aload_n hx hb dX12_comesBack_14 rfl (lv_at hl 0 rfl) ?_
    refine gt_39_1 hx hb hts hown hC hP Nat.zero_lt_one q6_18 dX12_comesBack_15 ?_
    refine lv_iload_n hx hb dX12_comesBack_18 rfl (lv_at hl 1 rfl) ?_
    obtain ⟨hg_2, hf⟩ := g_gd hf
    refine xildM (k := 41) (n := 693) hx hb hC hP (fun _ _ => rfl) rfl Nat.zero_lt_one hg_2 dX12_comesBack_19 ?_
    obtain ⟨hg_3, hf⟩ := g_gd hf
    obtain ⟨M_4, eM_4, hf⟩ := g_letE hf
    refine xistM (k := 40) (n := 693) hx hb hC hP hS (fun _ _ => rfl) rfl Nat.zero_lt_one hg_3 dX12_comesBack_20 (fun H locs hP hS => ?_)
    rw [eM_4] at hP
    obtain ⟨x1_5, ex1_5, hf⟩ := g_letE hf
    refine lv_iinc (v := x1_5) (lv' := [(1, .int x1_5), (0, .ref (G.2.1 39 0))]) hx hb dX12_comesBack_21 hl (k := 1) rfl (by rw [← ex1_5]; rfl) (by decide) rfl (fun ls hl => ?_)
    refine lv_goto (tgt := 2) hx hb dX12_comesBack_24 (by decide) ?_
    exact hk2 x1_5 M_4 hf hP hS (lv_sub hl [1, 0] rfl)
def wl_X12_comesBack_2 (n : Nat) (x1 : Int32) (M : SM) : Option (SM) := g_loop (α := Int32 × SM) (fun k a => wb_X12_comesBack_2 (fun x1 M => k (x1, M)) a.1 a.2) n (x1, M)
set_option maxRecDepth 100000 in
set_option maxHeartbeats 4000000 in
theorem lp_X12_comesBack_2 {p : Program} {l : Launch} {e : Env} {s : State} {m : MethodId} {args : Array Value} {below : List Frame} {meth : Method} {c : Code} {G : GP} {X : SM} {τ : SL} (C0 : g_mc p s m args meth c RX12 cX12_comesBack none 2 G) {M0 : SM} (n : Nat) : ∀ (x1 : Int32) (M : SM), wl_X12_comesBack_2 n x1 M = some M0 → ∀ {H : Heap} {locs : List Loc}, va_P G.1 g_cl (wd G (cb X M) τ) H → va_S (g_A G) s.heap H locs → ∀ {ls : Array Slot}, lv_has ls 2 [(0, .ref (G.2.1 39 0)), (1, .int x1)] → W p l e rm_X12_comesBack s m args below meth c H locs 0 0 (MQ below (va_Qv (fun u => u = (X, M0, τ)) (g_pw G) (g_A G)) args s 0 0 (g_A G)) (F0 m 2 ls []) := by
  induction n with
  | zero =>
    intro x1 M hf
    have hf : (none : Option (SM)) = _ := hf
    cases hf
  | succ n ih =>
    intro x1 M hf H locs hP hS ls hl
    exact bk_X12_comesBack_2 C0  (fun x1 M => wl_X12_comesBack_2  n x1 M) ih x1 M hf hP hS hl
def fn_X12_comesBack (M : SM) : Option (SM) :=
  wl_X12_comesBack_2 1000 0 M
set_option maxRecDepth 100000 in
set_option maxHeartbeats 4000000 in
theorem wk_X12_comesBack {p : Program} {l : Launch} {e : Env} {s : State} {m : MethodId} {args : Array Value} {below : List Frame} {meth : Method} {c : Code} {G : GP} {X : SM} {τ : SL} (C0 : g_mc p s m args meth c RX12 cX12_comesBack none 2 G) {M0 : SM} (M : SM) (hf : fn_X12_comesBack M = some M0) {H : Heap} {locs : List Loc} (hP : va_P G.1 g_cl (wd G (cb X M) τ) H) (hS : va_S (g_A G) s.heap H locs) {ls : Array Slot} (hl : lv_has ls 2 [(0, .ref (G.2.1 39 0))]) : W p l e rm_X12_comesBack s m args below meth c H locs 0 0 (MQ below (va_Qv (fun u => u = (X, M0, τ)) (g_pw G) (g_A G)) args s 0 0 (g_A G)) (F0 m 0 ls []) := by
  obtain ⟨hx, hb, hr, hml, hown, hts, hlocks, hC⟩ := id C0
  unfold fn_X12_comesBack at hf
  refine lv_iconst (v := 0) hx hb dX12_comesBack_0 (by decide) ?_
  refine lv_istore_n (lv' := [(1, .int 0), (0, .ref (G.2.1 39 0))]) hx hb dX12_comesBack_1 rfl hl (by decide) rfl (fun ls hl => ?_)
  exact lp_X12_comesBack_2 C0 1000 0 M hf hP hS (lv_sub hl [1, 0] rfl)
set_option maxRecDepth 100000 in
set_option maxHeartbeats 4000000 in
theorem ct_X12_comesBack (l : Launch) (G : GP) (X M : SM) (τ : SL) {M0 : SM} (hf : fn_X12_comesBack M = some M0) : Met l yX12_comesBack (wz yX12_comesBack cX12_comesBack 2 none) rm_X12_comesBack (va_Pc [.ref (G.2.1 39 0)] (g_pw G (X, M, τ))) (va_Qv (fun u => u = (X, M0, τ)) (g_pw G) (g_A G)) 0 0 (g_A G) := by
  refine Met.ofW (cc := cX12_comesBack) (maxL := 2) (ret := none) (by decide) rfl ?_
  intro p e s m args below meth c s₁ B hml hv
  obtain ⟨rfl, hC, hP⟩ := hv
  have C0 : g_mc p s m _ meth c RX12 cX12_comesBack none 2 G := ⟨B.exec, B.bytes, B.returns, hml, findClass_of_methodNamed B.named, fun w h => atoms_spec (ws := wz yX12_comesBack cX12_comesBack 2 none) B.pre w (List.mem_cons_of_mem _ h), B.notSynchronized, hC⟩
  have hl := lv_entry ([.ref (G.2.1 39 0)]) (n := 2) (Nat.le_of_ble_eq_true rfl)
  rw [lg_entry_eq]
  generalize (lg_sl ([.ref (G.2.1 39 0)]) ++ List.replicate (2 - (lg_sl ([.ref (G.2.1 39 0)])).length) Slot.unset).toArray = ls at hl ⊢
  exact wk_X12_comesBack C0 M hf hP va_S.rf hl
abbrev rm_X12_allOf : Room := { frames := 0, cells := 0, slots := 0, locals := 0 }
def wb_X12_allOf_4 (k4 : Int32 → Int32 → Int32 → SM → Option (Int32)) (x1 : Int32) (x2 : Int32) (x3 : Int32) (M : SM) : Option (Int32) :=
  if 6 ≤ x3 then
  (some x2)
  else
  (if g_in (x1 + x3) 693 then
    g_let ((x2 + (M 40 0 ((x1 + x3).toNatClampNeg)))) fun x2_3 =>
    g_let (x3 + 1) fun x3_4 =>
    k4 x1 x2_3 x3_4 M
    else none)
set_option maxRecDepth 100000 in
set_option maxHeartbeats 4000000 in
theorem bk_X12_allOf_4 {p : Program} {l : Launch} {e : Env} {s : State} {m : MethodId} {args : Array Value} {below : List Frame} {meth : Method} {c : Code} {G : GP} {X : SM} {τ : SL} (C0 : g_mc p s m args meth c RX12 cX12_allOf (some .int) 4 G) {r0 : Int32} (k4 : Int32 → Int32 → Int32 → SM → Option (Int32)) (hk4 : ∀ (x1 : Int32) (x2 : Int32) (x3 : Int32) (M : SM), k4 x1 x2 x3 M = some r0 → ∀ {H : Heap} {locs : List Loc}, va_P G.1 g_cl (wd G (cb X M) τ) H → va_S (g_A G) s.heap H locs → ∀ {ls : Array Slot}, lv_has ls 4 [(0, .ref (G.2.1 39 0)), (1, .int x1), (2, .int x2), (3, .int x3)] → W p l e rm_X12_allOf s m args below meth c H locs 0 0 (MQ below (va_Qi (fun r u => r = r0 ∧ u = (X, M, τ)) (g_pw G) (g_A G)) args s 0 0 (g_A G)) (F0 m 4 ls [])) (x1 : Int32) (x2 : Int32) (x3 : Int32) (M : SM) (hf : wb_X12_allOf_4 k4 x1 x2 x3 M = some r0) {H : Heap} {locs : List Loc} (hP : va_P G.1 g_cl (wd G (cb X M) τ) H) (hS : va_S (g_A G) s.heap H locs) {ls : Array Slot} (hl : lv_has ls 4 [(0, .ref (G.2.1 39 0)), (1, .int x1), (2, .int x2), (3, .int x3)]) : W p l e rm_X12_allOf s m args below meth c H locs 0 0 (MQ below (va_Qi (fun r u => r = r0 ∧ u = (X, M, τ)) (g_pw G) (g_A G)) args s 0 0 (g_A G)) (F0 m 4 ls []) := by
  obtain ⟨hx, hb, hr, hml, hown, hts, hlocks, hC⟩ := id C0
  unfold wb_X12_allOf_4 at hf
  refine lv_iload_n hx hb dX12_allOf_4 rfl (lv_at hl 3 rfl) ?_
  refine lv_bipush (v := 6) hx hb dX12_allOf_5 (by decide) ?_
  refine lv_icmp_ge (tgt := 27) hx hb dX12_allOf_7 (by decide) (fun hc_1 => ?_) (fun hc_1 => ?_)
  · have hf := g_pos hf hc_1
    refine lv_iload_n hx hb dX12_allOf_27 rfl (lv_at hl 2 rfl) ?_
    cases hf
    exact x_iret hx hb hlocks hC hP hS hr dX12_allOf_28
  · have hf := g_neg hf hc_1
    refine lv_iload_n hx hb dX12_allOf_10 rfl (lv_at hl 2 rfl) ?_
    refine lv_aload_n hx hb dX12_allOf_11 rfl (lv_at hl 0 rfl) ?_
    refine gt_39_0 hx hb hts hown hC hP Nat.zero_lt_one q6_17 dX12_allOf_12 ?_
    refine lv_iload_n hx hb dX12_allOf_15 rfl (lv_at hl 1 rfl) ?_
    refine lv_iload_n hx hb dX12_allOf_16 rfl (lv_at hl 3 rfl) ?_
    refine lv_iadd hx hb dX12_allOf_17 ?_
    obtain ⟨hg_2, hf⟩ := g_gd hf
    refine xildM (k := 40) (n := 693) hx hb hC hP (fun _ _ => rfl) rfl Nat.zero_lt_one hg_2 dX12_allOf_18 ?_
    refine lv_iadd hx hb dX12_allOf_19 ?_
    obtain ⟨x2_3, ex2_3, hf⟩ := g_letE hf
    refine lv_topE ex2_3 ?_
    refine lv_istore_n (lv' := [(2, .int x2_3), (0, .ref (G.2.1 39 0)), (1, .int x1), (3, .int x3)]) hx hb dX12_allOf_20 rfl hl (by decide) rfl (fun ls hl => ?_)
    obtain ⟨x3_4, ex3_4, hf⟩ := g_letE hf
    refine lv_iinc (v := x3_4) (lv' := [(3, .int x3_4), (2, .int x2_3), (0, .ref (G.2.1 39 0)), (1, .int x1)]) hx hb dX12_allOf_21 hl (k := 3) rfl (by rw [← ex3_4]; rfl) (by decide) rfl (fun ls hl => ?_)
    refine lv_goto (tgt := 4) hx hb dX12_allOf_24 (by decide) ?_
    exact hk4 x1 x2_3 x3_4 M hf hP hS (lv_sub hl [2, 3, 1, 0] rfl)
def wl_X12_allOf_4 (n : Nat) (x1 : Int32) (x2 : Int32) (x3 : Int32) (M : SM) : Option (Int32) := g_loop (α := Int32 × Int32 × Int32 × SM) (fun k a => wb_X12_allOf_4 (fun x1 x2 x3 M => k (x1, x2, x3, M)) a.1 a.2.1 a.2.2.1 a.2.2.2) n (x1, x2, x3, M)
set_option maxRecDepth 100000 in
set_option maxHeartbeats 4000000 in
theorem lp_X12_allOf_4 {p : Program} {l : Launch} {e : Env} {s : State} {m : MethodId} {args : Array Value} {below : List Frame} {meth : Method} {c : Code} {G : GP} {X : SM} {τ : SL} (C0 : g_mc p s m args meth c RX12 cX12_allOf (some .int) 4 G) {r0 : Int32} (n : Nat) : ∀ (x1 : Int32) (x2 : Int32) (x3 : Int32) (M : SM), wl_X12_allOf_4 n x1 x2 x3 M = some r0 → ∀ {H : Heap} {locs : List Loc}, va_P G.1 g_cl (wd G (cb X M) τ) H → va_S (g_A G) s.heap H locs → ∀ {ls : Array Slot}, lv_has ls 4 [(0, .ref (G.2.1 39 0)), (1, .int x1), (2, .int x2), (3, .int x3)] → W p l e rm_X12_allOf s m args below meth c H locs 0 0 (MQ below (va_Qi (fun r u => r = r0 ∧ u = (X, M, τ)) (g_pw G) (g_A G)) args s 0 0 (g_A G)) (F0 m 4 ls []) := by
  induction n with
  | zero =>
    intro x1 x2 x3 M hf
    have hf : (none : Option (Int32)) = _ := hf
    cases hf
  | succ n ih =>
    intro x1 x2 x3 M hf H locs hP hS ls hl
    exact bk_X12_allOf_4 C0  (fun x1 x2 x3 M => wl_X12_allOf_4  n x1 x2 x3 M) ih x1 x2 x3 M hf hP hS hl
def fn_X12_allOf (x1 : Int32) (M : SM) : Option (Int32) :=
  wl_X12_allOf_4 1000 x1 0 0 M
set_option maxRecDepth 100000 in
set_option maxHeartbeats 4000000 in
theorem wk_X12_allOf {p : Program} {l : Launch} {e : Env} {s : State} {m : MethodId} {args : Array Value} {below : List Frame} {meth : Method} {c : Code} {G : GP} {X : SM} {τ : SL} (C0 : g_mc p s m args meth c RX12 cX12_allOf (some .int) 4 G) {r0 : Int32} (x1 : Int32) (M : SM) (hf : fn_X12_allOf x1 M = some r0) {H : Heap} {locs : List Loc} (hP : va_P G.1 g_cl (wd G (cb X M) τ) H) (hS : va_S (g_A G) s.heap H locs) {ls : Array Slot} (hl : lv_has ls 4 [(0, .ref (G.2.1 39 0)), (1, .int x1)]) : W p l e rm_X12_allOf s m args below meth c H locs 0 0 (MQ below (va_Qi (fun r u => r = r0 ∧ u = (X, M, τ)) (g_pw G) (g_A G)) args s 0 0 (g_A G)) (F0 m 0 ls []) := by
  obtain ⟨hx, hb, hr, hml, hown, hts, hlocks, hC⟩ := id C0
  unfold fn_X12_allOf at hf
  refine lv_iconst (v := 0) hx hb dX12_allOf_0 (by decide) ?_
  refine lv_istore_n (lv' := [(2, .int 0), (0, .ref (G.2.1 39 0)), (1, .int x1)]) hx hb dX12_allOf_1 rfl hl (by decide) rfl (fun ls hl => ?_)
  refine lv_iconst (v := 0) hx hb dX12_allOf_2 (by decide) ?_
  refine lv_istore_n (lv' := [(3, .int 0), (2, .int 0), (0, .ref (G.2.1 39 0)), (1, .int x1)]) hx hb dX12_allOf_3 rfl hl (by decide) rfl (fun ls hl => ?_)
  exact lp_X12_allOf_4 C0 1000 x1 0 0 M hf hP hS (lv_sub hl [2, 3, 1, 0] rfl)
set_option maxRecDepth 100000 in
set_option maxHeartbeats 4000000 in
theorem ct_X12_allOf (l : Launch) (G : GP) (X M : SM) (τ : SL) (x1 : Int32) {r0 : Int32} (hf : fn_X12_allOf x1 M = some r0) : Met l yX12_allOf (wz yX12_allOf cX12_allOf 4 (some .int)) rm_X12_allOf (va_Pc [.ref (G.2.1 39 0), .int x1] (g_pw G (X, M, τ))) (va_Qi (fun r u => r = r0 ∧ u = (X, M, τ)) (g_pw G) (g_A G)) 0 0 (g_A G) := by
  refine Met.ofW (cc := cX12_allOf) (maxL := 4) (ret := (some .int)) (by decide) rfl ?_
  intro p e s m args below meth c s₁ B hml hv
  obtain ⟨rfl, hC, hP⟩ := hv
  have C0 : g_mc p s m _ meth c RX12 cX12_allOf (some .int) 4 G := ⟨B.exec, B.bytes, B.returns, hml, findClass_of_methodNamed B.named, fun w h => atoms_spec (ws := wz yX12_allOf cX12_allOf 4 (some .int)) B.pre w (List.mem_cons_of_mem _ h), B.notSynchronized, hC⟩
  have hl := lv_entry ([.ref (G.2.1 39 0), .int x1]) (n := 4) (Nat.le_of_ble_eq_true rfl)
  rw [lg_entry_eq]
  generalize (lg_sl ([.ref (G.2.1 39 0), .int x1]) ++ List.replicate (4 - (lg_sl ([.ref (G.2.1 39 0), .int x1])).length) Slot.unset).toArray = ls at hl ⊢
  exact wk_X12_allOf C0 x1 M hf hP va_S.rf hl
abbrev rm_X12_wipes : Room := { frames := 1, cells := 0, slots := 0, locals := 24 }
def wb_X12_wipes_51 (k51 : Int32 → Int32 → SM → Option (SM)) (x1 : Int32) (x2 : Int32) (M : SM) : Option (SM) :=
  if 24 ≤ x2 then
  (if g_in x1 6 then
    g_let (u1 M 43 0 (x1.toNatClampNeg) 0) fun M_13 =>
    some M_13
    else none)
  else
  (if g_in ((144 + (24 * x1)) + x2) 693 then
    g_let (u1 M 40 0 (((144 + (24 * x1)) + x2).toNatClampNeg) 0) fun M_15 =>
    if g_in ((288 + (24 * x1)) + x2) 693 then
    g_let (u1 M_15 40 0 (((288 + (24 * x1)) + x2).toNatClampNeg) 0) fun M_17 =>
    g_let (x2 + 1) fun x2_18 =>
    k51 x1 x2_18 M_17
    else none
    else none)
set_option maxRecDepth 100000 in
set_option maxHeartbeats 4000000 in
theorem bk_X12_wipes_51 {p : Program} {l : Launch} {e : Env} {s : State} {m : MethodId} {args : Array Value} {below : List Frame} {meth : Method} {c : Code} {G : GP} {X : SM} {τ : SL} (C0 : g_mc p s m args meth c RX12 cX12_wipes none 3 G) {M0 : SM} (k51 : Int32 → Int32 → SM → Option (SM)) (hk51 : ∀ (x1 : Int32) (x2 : Int32) (M : SM), k51 x1 x2 M = some M0 → ∀ {H : Heap} {locs : List Loc}, va_P G.1 g_cl (wd G (cb X M) τ) H → va_S (g_A G) s.heap H locs → ∀ {ls : Array Slot}, lv_has ls 3 [(0, .ref (G.2.1 39 0)), (1, .int x1), (2, .int x2)] → W p l e rm_X12_wipes s m args below meth c H locs 0 0 (MQ below (va_Qv (fun u => u = (X, M0, τ)) (g_pw G) (g_A G)) args s 0 0 (g_A G)) (F0 m 51 ls [])) (x1 : Int32) (x2 : Int32) (M : SM) (hf : wb_X12_wipes_51 k51 x1 x2 M = some M0) {H : Heap} {locs : List Loc} (hP : va_P G.1 g_cl (wd G (cb X M) τ) H) (hS : va_S (g_A G) s.heap H locs) {ls : Array Slot} (hl : lv_has ls 3 [(0, .ref (G.2.1 39 0)), (1, .int x1), (2, .int x2)]) : W p l e rm_X12_wipes s m args below meth c H locs 0 0 (MQ below (va_Qv (fun u => u = (X, M0, τ)) (g_pw G) (g_A G)) args s 0 0 (g_A G)) (F0 m 51 ls []) := by
  obtain ⟨hx, hb, hr, hml, hown, hts, hlocks, hC⟩ := id C0
  unfold wb_X12_wipes_51 at hf
  refine lv_iload_n hx hb dX12_wipes_51 rfl (lv_at hl 2 rfl) ?_
  refine lv_bipush (v := 24) hx hb dX12_wipes_52 (by decide) ?_
  refine lv_icmp_ge (tgt := 95) hx hb dX12_wipes_54 (by decide) (fun hc_11 => ?_) (fun hc_11 => ?_)
  · have hf := g_pos hf hc_11
    refine lv_aload_n hx hb dX12_wipes_95 rfl (lv_at hl 0 rfl) ?_
    refine gt_39_3 hx hb hts hown hC hP Nat.zero_lt_one q6_20 dX12_wipes_96 ?_
    refine lv_iload_n hx hb dX12_wipes_99 rfl (lv_at hl 1 rfl) ?_
    refine lv_iconst (v := 0) hx hb dX12_wipes_100 (by decide) ?_
    obtain ⟨hg_12, hf⟩ := g_gd hf
    obtain ⟨M_13, eM_13, hf⟩ := g_letE hf
    refine xistM (k := 43) (n := 6) hx hb hC hP hS (fun _ _ => rfl) rfl Nat.zero_lt_one hg_12 dX12_wipes_101 (fun H locs hP hS => ?_)
    rw [eM_13] at hP
    cases hf
    exact x_vret hx hb hlocks hC hP hS hr dX12_wipes_102
  · have hf := g_neg hf hc_11
    refine lv_aload_n hx hb dX12_wipes_57 rfl (lv_at hl 0 rfl) ?_
    refine gt_39_0 hx hb hts hown hC hP Nat.zero_lt_one q6_17 dX12_wipes_58 ?_
    refine lv_sipush (v := 144) hx hb dX12_wipes_61 (by decide) ?_
    refine lv_bipush (v := 24) hx hb dX12_wipes_64 (by decide) ?_
    refine lv_iload_n hx hb dX12_wipes_66 rfl (lv_at hl 1 rfl) ?_
    refine lv_imul hx hb dX12_wipes_67 ?_
    refine lv_iadd hx hb dX12_wipes_68 ?_
    refine lv_iload_n hx hb dX12_wipes_69 rfl (lv_at hl 2 rfl) ?_
    refine lv_iadd hx hb dX12_wipes_70 ?_
    refine lv_iconst (v := 0) hx hb dX12_wipes_71 (by decide) ?_
    obtain ⟨hg_14, hf⟩ := g_gd hf
    obtain ⟨M_15, eM_15, hf⟩ := g_letE hf
    refine xistM (k := 40) (n := 693) hx hb hC hP hS (fun _ _ => rfl) rfl Nat.zero_lt_one hg_14 dX12_wipes_72 (fun H locs hP hS => ?_)
    rw [eM_15] at hP
    refine lv_aload_n hx hb dX12_wipes_73 rfl (lv_at hl 0 rfl) ?_
    refine gt_39_0 hx hb hts hown hC hP Nat.zero_lt_one q6_17 dX12_wipes_74 ?_
    refine lv_sipush (v := 288) hx hb dX12_wipes_77 (by decide) ?_
    refine lv_bipush (v := 24) hx hb dX12_wipes_80 (by decide) ?_
    refine lv_iload_n hx hb dX12_wipes_82 rfl (lv_at hl 1 rfl) ?_
    refine lv_imul hx hb dX12_wipes_83 ?_
    refine lv_iadd hx hb dX12_wipes_84 ?_
    refine lv_iload_n hx hb dX12_wipes_85 rfl (lv_at hl 2 rfl) ?_
    refine lv_iadd hx hb dX12_wipes_86 ?_
    refine lv_iconst (v := 0) hx hb dX12_wipes_87 (by decide) ?_
    obtain ⟨hg_16, hf⟩ := g_gd hf
    obtain ⟨M_17, eM_17, hf⟩ := g_letE hf
    refine xistM (k := 40) (n := 693) hx hb hC hP hS (fun _ _ => rfl) rfl Nat.zero_lt_one hg_16 dX12_wipes_88 (fun H locs hP hS => ?_)
    rw [eM_17] at hP
    obtain ⟨x2_18, ex2_18, hf⟩ := g_letE hf
    refine lv_iinc (v := x2_18) (lv' := [(2, .int x2_18), (0, .ref (G.2.1 39 0)), (1, .int x1)]) hx hb dX12_wipes_89 hl (k := 2) rfl (by rw [← ex2_18]; rfl) (by decide) rfl (fun ls hl => ?_)
    refine lv_goto (tgt := 51) hx hb dX12_wipes_92 (by decide) ?_
    exact hk51 x1 x2_18 M_17 hf hP hS (lv_sub hl [1, 2, 0] rfl)
def wl_X12_wipes_51 (n : Nat) (x1 : Int32) (x2 : Int32) (M : SM) : Option (SM) := g_loop (α := Int32 × Int32 × SM) (fun k a => wb_X12_wipes_51 (fun x1 x2 M => k (x1, x2, M)) a.1 a.2.1 a.2.2) n (x1, x2, M)
set_option maxRecDepth 100000 in
set_option maxHeartbeats 4000000 in
theorem lp_X12_wipes_51 {p : Program} {l : Launch} {e : Env} {s : State} {m : MethodId} {args : Array Value} {below : List Frame} {meth : Method} {c : Code} {G : GP} {X : SM} {τ : SL} (C0 : g_mc p s m args meth c RX12 cX12_wipes none 3 G) {M0 : SM} (n : Nat) : ∀ (x1 : Int32) (x2 : Int32) (M : SM), wl_X12_wipes_51 n x1 x2 M = some M0 → ∀ {H : Heap} {locs : List Loc}, va_P G.1 g_cl (wd G (cb X M) τ) H → va_S (g_A G) s.heap H locs → ∀ {ls : Array Slot}, lv_has ls 3 [(0, .ref (G.2.1 39 0)), (1, .int x1), (2, .int x2)] → W p l e rm_X12_wipes s m args below meth c H locs 0 0 (MQ below (va_Qv (fun u => u = (X, M0, τ)) (g_pw G) (g_A G)) args s 0 0 (g_A G)) (F0 m 51 ls []) := by
  induction n with
  | zero =>
    intro x1 x2 M hf
    have hf : (none : Option (SM)) = _ := hf
    cases hf
  | succ n ih =>
    intro x1 x2 M hf H locs hP hS ls hl
    exact bk_X12_wipes_51 C0  (fun x1 x2 M => wl_X12_wipes_51  n x1 x2 M) ih x1 x2 M hf hP hS hl
def fn_X12_wipes (x1 : Int32) (M : SM) : Option (SM) :=
  (fn_X12_leaves x1 M).bind fun M_1 =>
  if g_in (438 + x1) 693 then
  g_let (u1 M_1 40 0 ((438 + x1).toNatClampNeg) 0) fun M_4 =>
  if g_in (444 + x1) 693 then
  g_let (u1 M_4 40 0 ((444 + x1).toNatClampNeg) 0) fun M_6 =>
  if g_in (432 + x1) 693 then
  g_let (u1 M_6 40 0 ((432 + x1).toNatClampNeg) 0) fun M_8 =>
  if g_in (468 + x1) 693 then
  g_let (u1 M_8 40 0 ((468 + x1).toNatClampNeg) (-1)) fun M_10 =>
  wl_X12_wipes_51 1000 x1 0 M_10
  else none
  else none
  else none
  else none
set_option maxRecDepth 100000 in
set_option maxHeartbeats 4000000 in
theorem wk_X12_wipes {p : Program} {l : Launch} {e : Env} {s : State} {m : MethodId} {args : Array Value} {below : List Frame} {meth : Method} {c : Code} {G : GP} {X : SM} {τ : SL} (C0 : g_mc p s m args meth c RX12 cX12_wipes none 3 G) {M0 : SM} (x1 : Int32) (M : SM) (hf : fn_X12_wipes x1 M = some M0) {H : Heap} {locs : List Loc} (hP : va_P G.1 g_cl (wd G (cb X M) τ) H) (hS : va_S (g_A G) s.heap H locs) {ls : Array Slot} (hl : lv_has ls 3 [(0, .ref (G.2.1 39 0)), (1, .int x1)]) : W p l e rm_X12_wipes s m args below meth c H locs 0 0 (MQ below (va_Qv (fun u => u = (X, M0, τ)) (g_pw G) (g_A G)) args s 0 0 (g_A G)) (F0 m 0 ls []) := by
  obtain ⟨hx, hb, hr, hml, hown, hts, hlocks, hC⟩ := id C0
  unfold fn_X12_wipes at hf
  refine lv_aload_n hx hb dX12_wipes_0 rfl (lv_at hl 0 rfl) ?_
  refine lv_iload_n hx hb dX12_wipes_1 rfl (lv_at hl 1 rfl) ?_
  obtain ⟨M_1, hc_2, hf⟩ := g_bindE hf
  refine x_callv (v := (X, M_1, τ)) (va_runV (As := [.int x1]) (rest := []) ⟨hx, hb, hml, hown, hts⟩ (ct_X12_leaves l G X M τ x1 hc_2) (cwV 1 hts gd_X12_88 rfl rfl rfl hd_X12_leaves ⟨Nat.le_of_ble_eq_true rfl, Nat.le_of_ble_eq_true rfl⟩) (x_preV (u := (X, M, τ)) (k := 39) (ci := 12) hC hS hP Nat.zero_lt_one rfl rfl) rfl rfl hl.1 rfl (lv_room (Nat.le_of_ble_eq_true rfl)) dX12_wipes_2 ⟨Nat.le_refl _, Nat.le_refl _⟩) hS (fun H locs hP hS => ?_)
  refine lv_aload_n hx hb dX12_wipes_5 rfl (lv_at hl 0 rfl) ?_
  refine gt_39_0 hx hb hts hown hC hP Nat.zero_lt_one q6_17 dX12_wipes_6 ?_
  refine lv_sipush (v := 438) hx hb dX12_wipes_9 (by decide) ?_
  refine lv_iload_n hx hb dX12_wipes_12 rfl (lv_at hl 1 rfl) ?_
  refine lv_iadd hx hb dX12_wipes_13 ?_
  refine lv_iconst (v := 0) hx hb dX12_wipes_14 (by decide) ?_
  obtain ⟨hg_3, hf⟩ := g_gd hf
  obtain ⟨M_4, eM_4, hf⟩ := g_letE hf
  refine xistM (k := 40) (n := 693) hx hb hC hP hS (fun _ _ => rfl) rfl Nat.zero_lt_one hg_3 dX12_wipes_15 (fun H locs hP hS => ?_)
  rw [eM_4] at hP
  refine lv_aload_n hx hb dX12_wipes_16 rfl (lv_at hl 0 rfl) ?_
  refine gt_39_0 hx hb hts hown hC hP Nat.zero_lt_one q6_17 dX12_wipes_17 ?_
  refine lv_sipush (v := 444) hx hb dX12_wipes_20 (by decide) ?_
  refine lv_iload_n hx hb dX12_wipes_23 rfl (lv_at hl 1 rfl) ?_
  refine lv_iadd hx hb dX12_wipes_24 ?_
  refine lv_iconst (v := 0) hx hb dX12_wipes_25 (by decide) ?_
  obtain ⟨hg_5, hf⟩ := g_gd hf
  obtain ⟨M_6, eM_6, hf⟩ := g_letE hf
  refine xistM (k := 40) (n := 693) hx hb hC hP hS (fun _ _ => rfl) rfl Nat.zero_lt_one hg_5 dX12_wipes_26 (fun H locs hP hS => ?_)
  rw [eM_6] at hP
  refine lv_aload_n hx hb dX12_wipes_27 rfl (lv_at hl 0 rfl) ?_
  refine gt_39_0 hx hb hts hown hC hP Nat.zero_lt_one q6_17 dX12_wipes_28 ?_
  refine lv_sipush (v := 432) hx hb dX12_wipes_31 (by decide) ?_
  refine lv_iload_n hx hb dX12_wipes_34 rfl (lv_at hl 1 rfl) ?_
  refine lv_iadd hx hb dX12_wipes_35 ?_
  refine lv_iconst (v := 0) hx hb dX12_wipes_36 (by decide) ?_
  obtain ⟨hg_7, hf⟩ := g_gd hf
  obtain ⟨M_8, eM_8, hf⟩ := g_letE hf
  refine xistM (k := 40) (n := 693) hx hb hC hP hS (fun _ _ => rfl) rfl Nat.zero_lt_one hg_7 dX12_wipes_37 (fun H locs hP hS => ?_)
  rw [eM_8] at hP
  refine lv_aload_n hx hb dX12_wipes_38 rfl (lv_at hl 0 rfl) ?_
  refine gt_39_0 hx hb hts hown hC hP Nat.zero_lt_one q6_17 dX12_wipes_39 ?_
  refine lv_sipush (v := 468) hx hb dX12_wipes_42 (by decide) ?_
  refine lv_iload_n hx hb dX12_wipes_45 rfl (lv_at hl 1 rfl) ?_
  refine lv_iadd hx hb dX12_wipes_46 ?_
  refine lv_iconst (v := (-1)) hx hb dX12_wipes_47 (by decide) ?_
  obtain ⟨hg_9, hf⟩ := g_gd hf
  obtain ⟨M_10, eM_10, hf⟩ := g_letE hf
  refine xistM (k := 40) (n := 693) hx hb hC hP hS (fun _ _ => rfl) rfl Nat.zero_lt_one hg_9 dX12_wipes_48 (fun H locs hP hS => ?_)
  rw [eM_10] at hP
  refine lv_iconst (v := 0) hx hb dX12_wipes_49 (by decide) ?_
  refine lv_istore_n (lv' := [(2, .int 0), (0, .ref (G.2.1 39 0)), (1, .int x1)]) hx hb dX12_wipes_50 rfl hl (by decide) rfl (fun ls hl => ?_)
  exact lp_X12_wipes_51 C0 1000 x1 0 M_10 hf hP hS (lv_sub hl [1, 2, 0] rfl)
set_option maxRecDepth 100000 in
set_option maxHeartbeats 4000000 in
theorem ct_X12_wipes (l : Launch) (G : GP) (X M : SM) (τ : SL) (x1 : Int32) {M0 : SM} (hf : fn_X12_wipes x1 M = some M0) : Met l yX12_wipes (wz yX12_wipes cX12_wipes 3 none) rm_X12_wipes (va_Pc [.ref (G.2.1 39 0), .int x1] (g_pw G (X, M, τ))) (va_Qv (fun u => u = (X, M0, τ)) (g_pw G) (g_A G)) 0 0 (g_A G) := by
  refine Met.ofW (cc := cX12_wipes) (maxL := 3) (ret := none) (by decide) rfl ?_
  intro p e s m args below meth c s₁ B hml hv
  obtain ⟨rfl, hC, hP⟩ := hv
  have C0 : g_mc p s m _ meth c RX12 cX12_wipes none 3 G := ⟨B.exec, B.bytes, B.returns, hml, findClass_of_methodNamed B.named, fun w h => atoms_spec (ws := wz yX12_wipes cX12_wipes 3 none) B.pre w (List.mem_cons_of_mem _ h), B.notSynchronized, hC⟩
  have hl := lv_entry ([.ref (G.2.1 39 0), .int x1]) (n := 3) (Nat.le_of_ble_eq_true rfl)
  rw [lg_entry_eq]
  generalize (lg_sl ([.ref (G.2.1 39 0), .int x1]) ++ List.replicate (3 - (lg_sl ([.ref (G.2.1 39 0), .int x1])).length) Slot.unset).toArray = ls at hl ⊢
  exact wk_X12_wipes C0 x1 M hf hP va_S.rf hl
abbrev rm_X12_asks : Room := { frames := 2, cells := 0, slots := 0, locals := 42 }
def fn_X12_asks (x1 : Int32) (x2 : Int32) (M : SM) : Option (Int32 × SM) :=
  g_let (u1 M 39 0 15 0) fun M_1 =>
  (fn_X12_isThread x1).bind fun r_2 =>
  if r_2 = 0 then
  (some ((-1), M_1))
  else
  (g_let (fn_X12_within x2 0 16) fun r_5 =>
    if r_5 = 0 then
    (some ((-1), M_1))
    else
    (if g_in x1 6 then
      g_let ((M_1 52 0 (x1.toNatClampNeg))) fun x3_9 =>
      if g_in x1 6 then
      g_let (u1 M_1 52 0 (x1.toNatClampNeg) x2) fun M_11 =>
      some (x3_9, M_11)
      else none
      else none))
set_option maxRecDepth 100000 in
set_option maxHeartbeats 4000000 in
theorem wk_X12_asks {p : Program} {l : Launch} {e : Env} {s : State} {m : MethodId} {args : Array Value} {below : List Frame} {meth : Method} {c : Code} {G : GP} {X : SM} {τ : SL} (C0 : g_mc p s m args meth c RX12 cX12_asks (some .int) 4 G) {r0 : Int32} {M0 : SM} (x1 : Int32) (x2 : Int32) (M : SM) (hf : fn_X12_asks x1 x2 M = some (r0, M0)) {H : Heap} {locs : List Loc} (hP : va_P G.1 g_cl (wd G (cb X M) τ) H) (hS : va_S (g_A G) s.heap H locs) {ls : Array Slot} (hl : lv_has ls 4 [(0, .ref (G.2.1 39 0)), (1, .int x1), (2, .int x2)]) : W p l e rm_X12_asks s m args below meth c H locs 0 0 (MQ below (va_Qi (fun r u => r = r0 ∧ u = (X, M0, τ)) (g_pw G) (g_A G)) args s 0 0 (g_A G)) (F0 m 0 ls []) := by
  obtain ⟨hx, hb, hr, hml, hown, hts, hlocks, hC⟩ := id C0
  unfold fn_X12_asks at hf
  refine lv_aload_n hx hb dX12_asks_0 rfl (lv_at hl 0 rfl) ?_
  refine lv_iconst (v := 0) hx hb dX12_asks_1 (by decide) ?_
  obtain ⟨M_1, eM_1, hf⟩ := g_letE hf
  refine pt_39_15 hx hb hts hown hC hP hS Nat.zero_lt_one q8_18 dX12_asks_2 (fun H locs hP hS => ?_)
  rw [eM_1] at hP
  refine lv_iload_n hx hb dX12_asks_5 rfl (lv_at hl 1 rfl) ?_
  obtain ⟨r_2, hc_3, hf⟩ := g_bindE hf
  refine x_calli (v := (X, M_1, τ)) (va_runS (As := [.int x1]) (rest := []) ⟨hx, hb, hml, hown, hts⟩ (ct_X12_isThread l G X M_1 τ x1 hc_3) (cwS 1 hts gd_X12_80 rfl rfl rfl hd_X12_isThread ⟨Nat.le_of_ble_eq_true rfl, Nat.le_of_ble_eq_true rfl⟩) (x_pre (u := (X, M_1, τ)) hC hS hP) rfl rfl hl.1 rfl (lv_room (Nat.le_of_ble_eq_true rfl)) dX12_asks_6 ⟨Nat.le_refl _, Nat.le_refl _⟩) hS (fun H locs hP hS => ?_)
  refine lv_if_eq (tgt := 22) hx hb dX12_asks_9 (by decide) (fun hc_4 => ?_) (fun hc_4 => ?_)
  · have hf := g_pos hf hc_4
    refine lv_iconst (v := (-1)) hx hb dX12_asks_22 (by decide) ?_
    cases hf
    exact x_iret hx hb hlocks hC hP hS hr dX12_asks_23
  · have hf := g_neg hf hc_4
    refine lv_iload_n hx hb dX12_asks_12 rfl (lv_at hl 2 rfl) ?_
    refine lv_iconst (v := 0) hx hb dX12_asks_13 (by decide) ?_
    refine lv_bipush (v := 16) hx hb dX12_asks_14 (by decide) ?_
    obtain ⟨r_5, hc_6, hf⟩ := g_letE hf
    refine x_calli (v := (X, M_1, τ)) (va_runS (As := [.int x2, .int 0, .int 16]) (rest := []) ⟨hx, hb, hml, hown, hts⟩ (ct_X12_within l G X M_1 τ x2 0 16 hc_6) (cwS 3 hts gd_X12_76 rfl rfl rfl hd_X12_within ⟨Nat.le_of_ble_eq_true rfl, Nat.le_of_ble_eq_true rfl⟩) (x_pre (u := (X, M_1, τ)) hC hS hP) rfl rfl hl.1 rfl (lv_room (Nat.le_of_ble_eq_true rfl)) dX12_asks_16 ⟨Nat.le_refl _, Nat.le_refl _⟩) hS (fun H locs hP hS => ?_)
    refine lv_if_ne (tgt := 24) hx hb dX12_asks_19 (by decide) (fun hc_7 => ?_) (fun hc_7 => ?_)
    · have hf := g_neg hf hc_7
      refine lv_aload_n hx hb dX12_asks_24 rfl (lv_at hl 0 rfl) ?_
      refine gt_39_14 hx hb hts hown hC hP Nat.zero_lt_one q7_7 dX12_asks_25 ?_
      refine lv_iload_n hx hb dX12_asks_28 rfl (lv_at hl 1 rfl) ?_
      obtain ⟨hg_8, hf⟩ := g_gd hf
      refine xildM (k := 52) (n := 6) hx hb hC hP (fun _ _ => rfl) rfl Nat.zero_lt_one hg_8 dX12_asks_29 ?_
      obtain ⟨x3_9, ex3_9, hf⟩ := g_letE hf
      refine lv_topE ex3_9 ?_
      refine lv_istore_n (lv' := [(3, .int x3_9), (0, .ref (G.2.1 39 0)), (1, .int x1), (2, .int x2)]) hx hb dX12_asks_30 rfl hl (by decide) rfl (fun ls hl => ?_)
      refine lv_aload_n hx hb dX12_asks_31 rfl (lv_at hl 1 rfl) ?_
      refine gt_39_14 hx hb hts hown hC hP Nat.zero_lt_one q7_7 dX12_asks_32 ?_
      refine lv_iload_n hx hb dX12_asks_35 rfl (lv_at hl 2 rfl) ?_
      refine lv_iload_n hx hb dX12_asks_36 rfl (lv_at hl 3 rfl) ?_
      obtain ⟨hg_10, hf⟩ := g_gd hf
      obtain ⟨M_11, eM_11, hf⟩ := g_letE hf
      refine xistM (k := 52) (n := 6) hx hb hC hP hS (fun _ _ => rfl) rfl Nat.zero_lt_one hg_10 dX12_asks_37 (fun H locs hP hS => ?_)
      rw [eM_11] at hP
      refine lv_iload_n hx hb dX12_asks_38 rfl (lv_at hl 0 rfl) ?_
      cases hf
      exact x_iret hx hb hlocks hC hP hS hr dX12_asks_39
    · have hf := g_pos hf hc_7
      refine lv_iconst (v := (-1)) hx hb dX12_asks_22 (by decide) ?_
      cases hf
      exact x_iret hx hb hlocks hC hP hS hr dX12_asks_23
set_option maxRecDepth 100000 in
set_option maxHeartbeats 4000000 in
theorem ct_X12_asks (l : Launch) (G : GP) (X M : SM) (τ : SL) (x1 : Int32) (x2 : Int32) {r0 : Int32} {M0 : SM} (hf : fn_X12_asks x1 x2 M = some (r0, M0)) : Met l yX12_asks (wz yX12_asks cX12_asks 4 (some .int)) rm_X12_asks (va_Pc [.ref (G.2.1 39 0), .int x1, .int x2] (g_pw G (X, M, τ))) (va_Qi (fun r u => r = r0 ∧ u = (X, M0, τ)) (g_pw G) (g_A G)) 0 0 (g_A G) := by
  refine Met.ofW (cc := cX12_asks) (maxL := 4) (ret := (some .int)) (by decide) rfl ?_
  intro p e s m args below meth c s₁ B hml hv
  obtain ⟨rfl, hC, hP⟩ := hv
  have C0 : g_mc p s m _ meth c RX12 cX12_asks (some .int) 4 G := ⟨B.exec, B.bytes, B.returns, hml, findClass_of_methodNamed B.named, fun w h => atoms_spec (ws := wz yX12_asks cX12_asks 4 (some .int)) B.pre w (List.mem_cons_of_mem _ h), B.notSynchronized, hC⟩
  have hl := lv_entry ([.ref (G.2.1 39 0), .int x1, .int x2]) (n := 4) (Nat.le_of_ble_eq_true rfl)
  rw [lg_entry_eq]
  generalize (lg_sl ([.ref (G.2.1 39 0), .int x1, .int x2]) ++ List.replicate (4 - (lg_sl ([.ref (G.2.1 39 0), .int x1, .int x2])).length) Slot.unset).toArray = ls at hl ⊢
  exact wk_X12_asks C0 x1 x2 M hf hP va_S.rf hl
abbrev rm_X12_begins : Room := { frames := 0, cells := 0, slots := 0, locals := 0 }
def wb_X12_begins_24 (k24 : Int32 → SM → Option (SM)) (x1 : Int32) (M : SM) : Option (SM) :=
  if 6 ≤ x1 then
  (g_let (u1 M 40 0 (Int32.toNatClampNeg 684) (-1)) fun M_6 =>
    some M_6)
  else
  (if g_in (468 + x1) 693 then
    g_let (u1 M 40 0 ((468 + x1).toNatClampNeg) (-1)) fun M_8 =>
    g_let (x1 + 1) fun x1_9 =>
    k24 x1_9 M_8
    else none)
set_option maxRecDepth 100000 in
set_option maxHeartbeats 4000000 in
theorem bk_X12_begins_24 {p : Program} {l : Launch} {e : Env} {s : State} {m : MethodId} {args : Array Value} {below : List Frame} {meth : Method} {c : Code} {G : GP} {X : SM} {τ : SL} (C0 : g_mc p s m args meth c RX12 cX12_begins none 2 G) {M0 : SM} (k24 : Int32 → SM → Option (SM)) (hk24 : ∀ (x1 : Int32) (M : SM), k24 x1 M = some M0 → ∀ {H : Heap} {locs : List Loc}, va_P G.1 g_cl (wd G (cb X M) τ) H → va_S (g_A G) s.heap H locs → ∀ {ls : Array Slot}, lv_has ls 2 [(0, .ref (G.2.1 39 0)), (1, .int x1)] → W p l e rm_X12_begins s m args below meth c H locs 0 0 (MQ below (va_Qv (fun u => u = (X, M0, τ)) (g_pw G) (g_A G)) args s 0 0 (g_A G)) (F0 m 24 ls [])) (x1 : Int32) (M : SM) (hf : wb_X12_begins_24 k24 x1 M = some M0) {H : Heap} {locs : List Loc} (hP : va_P G.1 g_cl (wd G (cb X M) τ) H) (hS : va_S (g_A G) s.heap H locs) {ls : Array Slot} (hl : lv_has ls 2 [(0, .ref (G.2.1 39 0)), (1, .int x1)]) : W p l e rm_X12_begins s m args below meth c H locs 0 0 (MQ below (va_Qv (fun u => u = (X, M0, τ)) (g_pw G) (g_A G)) args s 0 0 (g_A G)) (F0 m 24 ls []) := by
  obtain ⟨hx, hb, hr, hml, hown, hts, hlocks, hC⟩ := id C0
  unfold wb_X12_begins_24 at hf
  refine lv_iload_n hx hb dX12_begins_24 rfl (lv_at hl 1 rfl) ?_
  refine lv_bipush (v := 6) hx hb dX12_begins_25 (by decide) ?_
  refine lv_icmp_ge (tgt := 47) hx hb dX12_begins_27 (by decide) (fun hc_5 => ?_) (fun hc_5 => ?_)
  · have hf := g_pos hf hc_5
    refine lv_aload_n hx hb dX12_begins_47 rfl (lv_at hl 0 rfl) ?_
    refine gt_39_0 hx hb hts hown hC hP Nat.zero_lt_one q6_17 dX12_begins_48 ?_
    refine lv_sipush (v := 684) hx hb dX12_begins_51 (by decide) ?_
    refine lv_iconst (v := (-1)) hx hb dX12_begins_54 (by decide) ?_
    obtain ⟨M_6, eM_6, hf⟩ := g_letE hf
    refine xistM (k := 40) (n := 693) hx hb hC hP hS (fun _ _ => rfl) rfl Nat.zero_lt_one (by decide) dX12_begins_55 (fun H locs hP hS => ?_)
    rw [eM_6] at hP
    cases hf
    exact x_vret hx hb hlocks hC hP hS hr dX12_begins_56
  · have hf := g_neg hf hc_5
    refine lv_aload_n hx hb dX12_begins_30 rfl (lv_at hl 0 rfl) ?_
    refine gt_39_0 hx hb hts hown hC hP Nat.zero_lt_one q6_17 dX12_begins_31 ?_
    refine lv_sipush (v := 468) hx hb dX12_begins_34 (by decide) ?_
    refine lv_iload_n hx hb dX12_begins_37 rfl (lv_at hl 1 rfl) ?_
    refine lv_iadd hx hb dX12_begins_38 ?_
    refine lv_iconst (v := (-1)) hx hb dX12_begins_39 (by decide) ?_
    obtain ⟨hg_7, hf⟩ := g_gd hf
    obtain ⟨M_8, eM_8, hf⟩ := g_letE hf
    refine xistM (k := 40) (n := 693) hx hb hC hP hS (fun _ _ => rfl) rfl Nat.zero_lt_one hg_7 dX12_begins_40 (fun H locs hP hS => ?_)
    rw [eM_8] at hP
    obtain ⟨x1_9, ex1_9, hf⟩ := g_letE hf
    refine lv_iinc (v := x1_9) (lv' := [(1, .int x1_9), (0, .ref (G.2.1 39 0))]) hx hb dX12_begins_41 hl (k := 1) rfl (by rw [← ex1_9]; rfl) (by decide) rfl (fun ls hl => ?_)
    refine lv_goto (tgt := 24) hx hb dX12_begins_44 (by decide) ?_
    exact hk24 x1_9 M_8 hf hP hS (lv_sub hl [1, 0] rfl)
def wl_X12_begins_24 (n : Nat) (x1 : Int32) (M : SM) : Option (SM) := g_loop (α := Int32 × SM) (fun k a => wb_X12_begins_24 (fun x1 M => k (x1, M)) a.1 a.2) n (x1, M)
set_option maxRecDepth 100000 in
set_option maxHeartbeats 4000000 in
theorem lp_X12_begins_24 {p : Program} {l : Launch} {e : Env} {s : State} {m : MethodId} {args : Array Value} {below : List Frame} {meth : Method} {c : Code} {G : GP} {X : SM} {τ : SL} (C0 : g_mc p s m args meth c RX12 cX12_begins none 2 G) {M0 : SM} (n : Nat) : ∀ (x1 : Int32) (M : SM), wl_X12_begins_24 n x1 M = some M0 → ∀ {H : Heap} {locs : List Loc}, va_P G.1 g_cl (wd G (cb X M) τ) H → va_S (g_A G) s.heap H locs → ∀ {ls : Array Slot}, lv_has ls 2 [(0, .ref (G.2.1 39 0)), (1, .int x1)] → W p l e rm_X12_begins s m args below meth c H locs 0 0 (MQ below (va_Qv (fun u => u = (X, M0, τ)) (g_pw G) (g_A G)) args s 0 0 (g_A G)) (F0 m 24 ls []) := by
  induction n with
  | zero =>
    intro x1 M hf
    have hf : (none : Option (SM)) = _ := hf
    cases hf
  | succ n ih =>
    intro x1 M hf H locs hP hS ls hl
    exact bk_X12_begins_24 C0  (fun x1 M => wl_X12_begins_24  n x1 M) ih x1 M hf hP hS hl
def wb_X12_begins_2 (k2 : Int32 → SM → Option (SM)) (x1 : Int32) (M : SM) : Option (SM) :=
  if 693 ≤ x1 then
  (wl_X12_begins_24 1000 0 M)
  else
  (if g_in x1 693 then
    g_let (u1 M 40 0 (x1.toNatClampNeg) 0) fun M_3 =>
    g_let (x1 + 1) fun x1_4 =>
    k2 x1_4 M_3
    else none)
set_option maxRecDepth 100000 in
set_option maxHeartbeats 4000000 in
theorem bk_X12_begins_2 {p : Program} {l : Launch} {e : Env} {s : State} {m : MethodId} {args : Array Value} {below : List Frame} {meth : Method} {c : Code} {G : GP} {X : SM} {τ : SL} (C0 : g_mc p s m args meth c RX12 cX12_begins none 2 G) {M0 : SM} (k2 : Int32 → SM → Option (SM)) (hk2 : ∀ (x1 : Int32) (M : SM), k2 x1 M = some M0 → ∀ {H : Heap} {locs : List Loc}, va_P G.1 g_cl (wd G (cb X M) τ) H → va_S (g_A G) s.heap H locs → ∀ {ls : Array Slot}, lv_has ls 2 [(0, .ref (G.2.1 39 0)), (1, .int x1)] → W p l e rm_X12_begins s m args below meth c H locs 0 0 (MQ below (va_Qv (fun u => u = (X, M0, τ)) (g_pw G) (g_A G)) args s 0 0 (g_A G)) (F0 m 2 ls [])) (x1 : Int32) (M : SM) (hf : wb_X12_begins_2 k2 x1 M = some M0) {H : Heap} {locs : List Loc} (hP : va_P G.1 g_cl (wd G (cb X M) τ) H) (hS : va_S (g_A G) s.heap H locs) {ls : Array Slot} (hl : lv_has ls 2 [(0, .ref (G.2.1 39 0)), (1, .int x1)]) : W p l e rm_X12_begins s m args below meth c H locs 0 0 (MQ below (va_Qv (fun u => u = (X, M0, τ)) (g_pw G) (g_A G)) args s 0 0 (g_A G)) (F0 m 2 ls []) := by
  obtain ⟨hx, hb, hr, hml, hown, hts, hlocks, hC⟩ := id C0
  unfold wb_X12_begins_2 at hf
  refine lv_iload_n hx hb dX12_begins_2 rfl (lv_at hl 1 rfl) ?_
  refine lv_sipush (v := 693) hx hb dX12_begins_3 (by decide) ?_
  refine lv_icmp_ge (tgt := 22) hx hb dX12_begins_6 (by decide) (fun hc_1 => ?_) (fun hc_1 => ?_)
  · have hf := g_pos hf hc_1
    refine lv_iconst (v := 0) hx hb dX12_begins_22 (by decide) ?_
    refine lv_istore_n (lv' := [(1, .int 0), (0, .ref (G.2.1 39 0))]) hx hb dX12_begins_23 rfl hl (by decide) rfl (fun ls hl => ?_)
    exact lp_X12_begins_24 C0 1000 0 M hf hP hS (lv_sub hl [1, 0] rfl)
  · have hf := g_neg hf hc_1
    refine lv_aload_n hx hb dX12_begins_9 rfl (lv_at hl 0 rfl) ?_
    refine gt_39_0 hx hb hts hown hC hP Nat.zero_lt_one q6_17 dX12_begins_10 ?_
    refine lv_iload_n hx hb dX12_begins_13 rfl (lv_at hl 1 rfl) ?_
    refine lv_iconst (v := 0) hx hb dX12_begins_14 (by decide) ?_
    obtain ⟨hg_2, hf⟩ := g_gd hf
    obtain ⟨M_3, eM_3, hf⟩ := g_letE hf
    refine xistM (k := 40) (n := 693) hx hb hC hP hS (fun _ _ => rfl) rfl Nat.zero_lt_one hg_2 dX12_begins_15 (fun H locs hP hS => ?_)
    rw [eM_3] at hP
    obtain ⟨x1_4, ex1_4, hf⟩ := g_letE hf
    refine lv_iinc (v := x1_4) (lv' := [(1, .int x1_4), (0, .ref (G.2.1 39 0))]) hx hb dX12_begins_16 hl (k := 1) rfl (by rw [← ex1_4]; rfl) (by decide) rfl (fun ls hl => ?_)
    refine lv_goto (tgt := 2) hx hb dX12_begins_19 (by decide) ?_
    exact hk2 x1_4 M_3 hf hP hS (lv_sub hl [1, 0] rfl)
def wl_X12_begins_2 (n : Nat) (x1 : Int32) (M : SM) : Option (SM) := g_loop (α := Int32 × SM) (fun k a => wb_X12_begins_2 (fun x1 M => k (x1, M)) a.1 a.2) n (x1, M)
set_option maxRecDepth 100000 in
set_option maxHeartbeats 4000000 in
theorem lp_X12_begins_2 {p : Program} {l : Launch} {e : Env} {s : State} {m : MethodId} {args : Array Value} {below : List Frame} {meth : Method} {c : Code} {G : GP} {X : SM} {τ : SL} (C0 : g_mc p s m args meth c RX12 cX12_begins none 2 G) {M0 : SM} (n : Nat) : ∀ (x1 : Int32) (M : SM), wl_X12_begins_2 n x1 M = some M0 → ∀ {H : Heap} {locs : List Loc}, va_P G.1 g_cl (wd G (cb X M) τ) H → va_S (g_A G) s.heap H locs → ∀ {ls : Array Slot}, lv_has ls 2 [(0, .ref (G.2.1 39 0)), (1, .int x1)] → W p l e rm_X12_begins s m args below meth c H locs 0 0 (MQ below (va_Qv (fun u => u = (X, M0, τ)) (g_pw G) (g_A G)) args s 0 0 (g_A G)) (F0 m 2 ls []) := by
  induction n with
  | zero =>
    intro x1 M hf
    have hf : (none : Option (SM)) = _ := hf
    cases hf
  | succ n ih =>
    intro x1 M hf H locs hP hS ls hl
    exact bk_X12_begins_2 C0  (fun x1 M => wl_X12_begins_2  n x1 M) ih x1 M hf hP hS hl
def fn_X12_begins (M : SM) : Option (SM) :=
  wl_X12_begins_2 1000 0 M
set_option maxRecDepth 100000 in
set_option maxHeartbeats 4000000 in
theorem wk_X12_begins {p : Program} {l : Launch} {e : Env} {s : State} {m : MethodId} {args : Array Value} {below : List Frame} {meth : Method} {c : Code} {G : GP} {X : SM} {τ : SL} (C0 : g_mc p s m args meth c RX12 cX12_begins none 2 G) {M0 : SM} (M : SM) (hf : fn_X12_begins M = some M0) {H : Heap} {locs : List Loc} (hP : va_P G.1 g_cl (wd G (cb X M) τ) H) (hS : va_S (g_A G) s.heap H locs) {ls : Array Slot} (hl : lv_has ls 2 [(0, .ref (G.2.1 39 0))]) : W p l e rm_X12_begins s m args below meth c H locs 0 0 (MQ below (va_Qv (fun u => u = (X, M0, τ)) (g_pw G) (g_A G)) args s 0 0 (g_A G)) (F0 m 0 ls []) := by
  obtain ⟨hx, hb, hr, hml, hown, hts, hlocks, hC⟩ := id C0
  unfold fn_X12_begins at hf
  refine lv_iconst (v := 0) hx hb dX12_begins_0 (by decide) ?_
  refine lv_istore_n (lv' := [(1, .int 0), (0, .ref (G.2.1 39 0))]) hx hb dX12_begins_1 rfl hl (by decide) rfl (fun ls hl => ?_)
  exact lp_X12_begins_2 C0 1000 0 M hf hP hS (lv_sub hl [1, 0] rfl)
set_option maxRecDepth 100000 in
set_option maxHeartbeats 4000000 in
theorem ct_X12_begins (l : Launch) (G : GP) (X M : SM) (τ : SL) {M0 : SM} (hf : fn_X12_begins M = some M0) : Met l yX12_begins (wz yX12_begins cX12_begins 2 none) rm_X12_begins (va_Pc [.ref (G.2.1 39 0)] (g_pw G (X, M, τ))) (va_Qv (fun u => u = (X, M0, τ)) (g_pw G) (g_A G)) 0 0 (g_A G) := by
  refine Met.ofW (cc := cX12_begins) (maxL := 2) (ret := none) (by decide) rfl ?_
  intro p e s m args below meth c s₁ B hml hv
  obtain ⟨rfl, hC, hP⟩ := hv
  have C0 : g_mc p s m _ meth c RX12 cX12_begins none 2 G := ⟨B.exec, B.bytes, B.returns, hml, findClass_of_methodNamed B.named, fun w h => atoms_spec (ws := wz yX12_begins cX12_begins 2 none) B.pre w (List.mem_cons_of_mem _ h), B.notSynchronized, hC⟩
  have hl := lv_entry ([.ref (G.2.1 39 0)]) (n := 2) (Nat.le_of_ble_eq_true rfl)
  rw [lg_entry_eq]
  generalize (lg_sl ([.ref (G.2.1 39 0)]) ++ List.replicate (2 - (lg_sl ([.ref (G.2.1 39 0)])).length) Slot.unset).toArray = ls at hl ⊢
  exact wk_X12_begins C0 M hf hP va_S.rf hl
abbrev rm_X12_hasSlot : Room := { frames := 0, cells := 0, slots := 0, locals := 0 }
def wb_X12_hasSlot_2 (k2 : Int32 → Int32 → SM → Option (Int32)) (x1 : Int32) (x2 : Int32) (M : SM) : Option (Int32) :=
  if (M 39 0 12) ≤ x2 then
  (some 0)
  else
  (if g_in x2 16 then
    if (M 50 0 (x2.toNatClampNeg)) = x1 then
    (some 1)
    else
    (g_let (x2 + 1) fun x2_4 =>
      k2 x1 x2_4 M)
    else none)
set_option maxRecDepth 100000 in
set_option maxHeartbeats 4000000 in
theorem bk_X12_hasSlot_2 {p : Program} {l : Launch} {e : Env} {s : State} {m : MethodId} {args : Array Value} {below : List Frame} {meth : Method} {c : Code} {G : GP} {X : SM} {τ : SL} (C0 : g_mc p s m args meth c RX12 cX12_hasSlot (some .boolean) 3 G) {r0 : Int32} (k2 : Int32 → Int32 → SM → Option (Int32)) (hk2 : ∀ (x1 : Int32) (x2 : Int32) (M : SM), k2 x1 x2 M = some r0 → ∀ {H : Heap} {locs : List Loc}, va_P G.1 g_cl (wd G (cb X M) τ) H → va_S (g_A G) s.heap H locs → ∀ {ls : Array Slot}, lv_has ls 3 [(0, .ref (G.2.1 39 0)), (1, .int x1), (2, .int x2)] → W p l e rm_X12_hasSlot s m args below meth c H locs 0 0 (MQ below (va_Qi (fun r u => r = r0 ∧ u = (X, M, τ)) (g_pw G) (g_A G)) args s 0 0 (g_A G)) (F0 m 2 ls [])) (x1 : Int32) (x2 : Int32) (M : SM) (hf : wb_X12_hasSlot_2 k2 x1 x2 M = some r0) {H : Heap} {locs : List Loc} (hP : va_P G.1 g_cl (wd G (cb X M) τ) H) (hS : va_S (g_A G) s.heap H locs) {ls : Array Slot} (hl : lv_has ls 3 [(0, .ref (G.2.1 39 0)), (1, .int x1), (2, .int x2)]) : W p l e rm_X12_hasSlot s m args below meth c H locs 0 0 (MQ below (va_Qi (fun r u => r = r0 ∧ u = (X, M, τ)) (g_pw G) (g_A G)) args s 0 0 (g_A G)) (F0 m 2 ls []) := by
  obtain ⟨hx, hb, hr, hml, hown, hts, hlocks, hC⟩ := id C0
  unfold wb_X12_hasSlot_2 at hf
  refine lv_iload_n hx hb dX12_hasSlot_2 rfl (lv_at hl 2 rfl) ?_
  refine lv_aload_n hx hb dX12_hasSlot_3 rfl (lv_at hl 0 rfl) ?_
  refine gt_39_12 hx hb hts hown hC hP Nat.zero_lt_one q7_5 dX12_hasSlot_4 ?_
  refine lv_icmp_ge (tgt := 28) hx hb dX12_hasSlot_7 (by decide) (fun hc_1 => ?_) (fun hc_1 => ?_)
  · have hf := g_pos hf hc_1
    refine lv_iconst (v := 0) hx hb dX12_hasSlot_28 (by decide) ?_
    cases hf
    exact x_zret hx hb hlocks hC hP hS hr (Or.inl rfl) dX12_hasSlot_29
  · have hf := g_neg hf hc_1
    refine lv_aload_n hx hb dX12_hasSlot_10 rfl (lv_at hl 0 rfl) ?_
    refine gt_39_11 hx hb hts hown hC hP Nat.zero_lt_one q7_4 dX12_hasSlot_11 ?_
    refine lv_iload_n hx hb dX12_hasSlot_14 rfl (lv_at hl 2 rfl) ?_
    obtain ⟨hg_2, hf⟩ := g_gd hf
    refine xildM (k := 50) (n := 16) hx hb hC hP (fun _ _ => rfl) rfl Nat.zero_lt_one hg_2 dX12_hasSlot_15 ?_
    refine lv_iload_n hx hb dX12_hasSlot_16 rfl (lv_at hl 1 rfl) ?_
    refine lv_icmp_ne (tgt := 22) hx hb dX12_hasSlot_17 (by decide) (fun hc_3 => ?_) (fun hc_3 => ?_)
    · have hf := g_neg hf hc_3
      obtain ⟨x2_4, ex2_4, hf⟩ := g_letE hf
      refine lv_iinc (v := x2_4) (lv' := [(2, .int x2_4), (0, .ref (G.2.1 39 0)), (1, .int x1)]) hx hb dX12_hasSlot_22 hl (k := 2) rfl (by rw [← ex2_4]; rfl) (by decide) rfl (fun ls hl => ?_)
      refine lv_goto (tgt := 2) hx hb dX12_hasSlot_25 (by decide) ?_
      exact hk2 x1 x2_4 M hf hP hS (lv_sub hl [1, 2, 0] rfl)
    · have hf := g_pos hf hc_3
      refine lv_iconst (v := 1) hx hb dX12_hasSlot_20 (by decide) ?_
      cases hf
      exact x_zret hx hb hlocks hC hP hS hr (Or.inr rfl) dX12_hasSlot_21
def wl_X12_hasSlot_2 (n : Nat) (x1 : Int32) (x2 : Int32) (M : SM) : Option (Int32) := g_loop (α := Int32 × Int32 × SM) (fun k a => wb_X12_hasSlot_2 (fun x1 x2 M => k (x1, x2, M)) a.1 a.2.1 a.2.2) n (x1, x2, M)
set_option maxRecDepth 100000 in
set_option maxHeartbeats 4000000 in
theorem lp_X12_hasSlot_2 {p : Program} {l : Launch} {e : Env} {s : State} {m : MethodId} {args : Array Value} {below : List Frame} {meth : Method} {c : Code} {G : GP} {X : SM} {τ : SL} (C0 : g_mc p s m args meth c RX12 cX12_hasSlot (some .boolean) 3 G) {r0 : Int32} (n : Nat) : ∀ (x1 : Int32) (x2 : Int32) (M : SM), wl_X12_hasSlot_2 n x1 x2 M = some r0 → ∀ {H : Heap} {locs : List Loc}, va_P G.1 g_cl (wd G (cb X M) τ) H → va_S (g_A G) s.heap H locs → ∀ {ls : Array Slot}, lv_has ls 3 [(0, .ref (G.2.1 39 0)), (1, .int x1), (2, .int x2)] → W p l e rm_X12_hasSlot s m args below meth c H locs 0 0 (MQ below (va_Qi (fun r u => r = r0 ∧ u = (X, M, τ)) (g_pw G) (g_A G)) args s 0 0 (g_A G)) (F0 m 2 ls []) := by
  induction n with
  | zero =>
    intro x1 x2 M hf
    have hf : (none : Option (Int32)) = _ := hf
    cases hf
  | succ n ih =>
    intro x1 x2 M hf H locs hP hS ls hl
    exact bk_X12_hasSlot_2 C0  (fun x1 x2 M => wl_X12_hasSlot_2  n x1 x2 M) ih x1 x2 M hf hP hS hl
def fn_X12_hasSlot (x1 : Int32) (M : SM) : Option (Int32) :=
  wl_X12_hasSlot_2 1000 x1 0 M
set_option maxRecDepth 100000 in
set_option maxHeartbeats 4000000 in
theorem wk_X12_hasSlot {p : Program} {l : Launch} {e : Env} {s : State} {m : MethodId} {args : Array Value} {below : List Frame} {meth : Method} {c : Code} {G : GP} {X : SM} {τ : SL} (C0 : g_mc p s m args meth c RX12 cX12_hasSlot (some .boolean) 3 G) {r0 : Int32} (x1 : Int32) (M : SM) (hf : fn_X12_hasSlot x1 M = some r0) {H : Heap} {locs : List Loc} (hP : va_P G.1 g_cl (wd G (cb X M) τ) H) (hS : va_S (g_A G) s.heap H locs) {ls : Array Slot} (hl : lv_has ls 3 [(0, .ref (G.2.1 39 0)), (1, .int x1)]) : W p l e rm_X12_hasSlot s m args below meth c H locs 0 0 (MQ below (va_Qi (fun r u => r = r0 ∧ u = (X, M, τ)) (g_pw G) (g_A G)) args s 0 0 (g_A G)) (F0 m 0 ls []) := by
  obtain ⟨hx, hb, hr, hml, hown, hts, hlocks, hC⟩ := id C0
  unfold fn_X12_hasSlot at hf
  refine lv_iconst (v := 0) hx hb dX12_hasSlot_0 (by decide) ?_
  refine lv_istore_n (lv' := [(2, .int 0), (0, .ref (G.2.1 39 0)), (1, .int x1)]) hx hb dX12_hasSlot_1 rfl hl (by decide) rfl (fun ls hl => ?_)
  exact lp_X12_hasSlot_2 C0 1000 x1 0 M hf hP hS (lv_sub hl [1, 2, 0] rfl)
set_option maxRecDepth 100000 in
set_option maxHeartbeats 4000000 in
theorem ct_X12_hasSlot (l : Launch) (G : GP) (X M : SM) (τ : SL) (x1 : Int32) {r0 : Int32} (hf : fn_X12_hasSlot x1 M = some r0) : Met l yX12_hasSlot (wz yX12_hasSlot cX12_hasSlot 3 (some .boolean)) rm_X12_hasSlot (va_Pc [.ref (G.2.1 39 0), .int x1] (g_pw G (X, M, τ))) (va_Qi (fun r u => r = r0 ∧ u = (X, M, τ)) (g_pw G) (g_A G)) 0 0 (g_A G) := by
  refine Met.ofW (cc := cX12_hasSlot) (maxL := 3) (ret := (some .boolean)) (by decide) rfl ?_
  intro p e s m args below meth c s₁ B hml hv
  obtain ⟨rfl, hC, hP⟩ := hv
  have C0 : g_mc p s m _ meth c RX12 cX12_hasSlot (some .boolean) 3 G := ⟨B.exec, B.bytes, B.returns, hml, findClass_of_methodNamed B.named, fun w h => atoms_spec (ws := wz yX12_hasSlot cX12_hasSlot 3 (some .boolean)) B.pre w (List.mem_cons_of_mem _ h), B.notSynchronized, hC⟩
  have hl := lv_entry ([.ref (G.2.1 39 0), .int x1]) (n := 3) (Nat.le_of_ble_eq_true rfl)
  rw [lg_entry_eq]
  generalize (lg_sl ([.ref (G.2.1 39 0), .int x1]) ++ List.replicate (3 - (lg_sl ([.ref (G.2.1 39 0), .int x1])).length) Slot.unset).toArray = ls at hl ⊢
  exact wk_X12_hasSlot C0 x1 M hf hP va_S.rf hl
abbrev rm_X12_isInLoop : Room := { frames := 1, cells := 0, slots := 0, locals := 23 }
def fn_X12_isInLoop (x1 : Int32) (x2 : Int32) (x3 : Int32) (M : SM) : Option (Int32) :=
  (fn_X12_part x1 x2 2 M).bind fun r_1 =>
  if x3 < r_1 then
  (some 0)
  else
  (if x2 < x3 then
    (some 0)
    else
    (some 1))
set_option maxRecDepth 100000 in
set_option maxHeartbeats 4000000 in
theorem wk_X12_isInLoop {p : Program} {l : Launch} {e : Env} {s : State} {m : MethodId} {args : Array Value} {below : List Frame} {meth : Method} {c : Code} {G : GP} {X : SM} {τ : SL} (C0 : g_mc p s m args meth c RX12 cX12_isInLoop (some .boolean) 4 G) {r0 : Int32} (x1 : Int32) (x2 : Int32) (x3 : Int32) (M : SM) (hf : fn_X12_isInLoop x1 x2 x3 M = some r0) {H : Heap} {locs : List Loc} (hP : va_P G.1 g_cl (wd G (cb X M) τ) H) (hS : va_S (g_A G) s.heap H locs) {ls : Array Slot} (hl : lv_has ls 4 [(0, .ref (G.2.1 39 0)), (1, .int x1), (2, .int x2), (3, .int x3)]) : W p l e rm_X12_isInLoop s m args below meth c H locs 0 0 (MQ below (va_Qi (fun r u => r = r0 ∧ u = (X, M, τ)) (g_pw G) (g_A G)) args s 0 0 (g_A G)) (F0 m 0 ls []) := by
  obtain ⟨hx, hb, hr, hml, hown, hts, hlocks, hC⟩ := id C0
  unfold fn_X12_isInLoop at hf
  refine lv_iload_n hx hb dX12_isInLoop_0 rfl (lv_at hl 3 rfl) ?_
  refine lv_aload_n hx hb dX12_isInLoop_1 rfl (lv_at hl 0 rfl) ?_
  refine lv_iload_n hx hb dX12_isInLoop_2 rfl (lv_at hl 1 rfl) ?_
  refine lv_iload_n hx hb dX12_isInLoop_3 rfl (lv_at hl 2 rfl) ?_
  refine lv_iconst (v := 2) hx hb dX12_isInLoop_4 (by decide) ?_
  obtain ⟨r_1, hc_2, hf⟩ := g_bindE hf
  refine x_calli (v := (X, M, τ)) (va_runV (As := [.int x1, .int x2, .int 2]) (rest := [.int x3]) ⟨hx, hb, hml, hown, hts⟩ (ct_X12_part l G X M τ x1 x2 2 hc_2) (cwV 3 hts gd_X12_115 rfl rfl rfl hd_X12_part ⟨Nat.le_of_ble_eq_true rfl, Nat.le_of_ble_eq_true rfl⟩) (x_preV (u := (X, M, τ)) (k := 39) (ci := 12) hC hS hP Nat.zero_lt_one rfl rfl) rfl rfl hl.1 rfl (lv_room (Nat.le_of_ble_eq_true rfl)) dX12_isInLoop_5 ⟨Nat.le_refl _, Nat.le_refl _⟩) hS (fun H locs hP hS => ?_)
  refine lv_icmp_lt (tgt := 20) hx hb dX12_isInLoop_8 (by decide) (fun hc_3 => ?_) (fun hc_3 => ?_)
  · have hf := g_pos hf hc_3
    refine lv_iconst (v := 0) hx hb dX12_isInLoop_20 (by decide) ?_
    cases hf
    exact x_zret hx hb hlocks hC hP hS hr (Or.inl rfl) dX12_isInLoop_21
  · have hf := g_neg hf hc_3
    refine lv_iload_n hx hb dX12_isInLoop_11 rfl (lv_at hl 3 rfl) ?_
    refine lv_iload_n hx hb dX12_isInLoop_12 rfl (lv_at hl 2 rfl) ?_
    refine lv_icmp_gt (tgt := 20) hx hb dX12_isInLoop_13 (by decide) (fun hc_4 => ?_) (fun hc_4 => ?_)
    · have hf := g_pos hf hc_4
      refine lv_iconst (v := 0) hx hb dX12_isInLoop_20 (by decide) ?_
      cases hf
      exact x_zret hx hb hlocks hC hP hS hr (Or.inl rfl) dX12_isInLoop_21
    · have hf := g_neg hf hc_4
      refine lv_iconst (v := 1) hx hb dX12_isInLoop_16 (by decide) ?_
      refine lv_goto (tgt := 21) hx hb dX12_isInLoop_17 (by decide) ?_
      cases hf
      exact x_zret hx hb hlocks hC hP hS hr (Or.inr rfl) dX12_isInLoop_21
set_option maxRecDepth 100000 in
set_option maxHeartbeats 4000000 in
theorem ct_X12_isInLoop (l : Launch) (G : GP) (X M : SM) (τ : SL) (x1 : Int32) (x2 : Int32) (x3 : Int32) {r0 : Int32} (hf : fn_X12_isInLoop x1 x2 x3 M = some r0) : Met l yX12_isInLoop (wz yX12_isInLoop cX12_isInLoop 4 (some .boolean)) rm_X12_isInLoop (va_Pc [.ref (G.2.1 39 0), .int x1, .int x2, .int x3] (g_pw G (X, M, τ))) (va_Qi (fun r u => r = r0 ∧ u = (X, M, τ)) (g_pw G) (g_A G)) 0 0 (g_A G) := by
  refine Met.ofW (cc := cX12_isInLoop) (maxL := 4) (ret := (some .boolean)) (by decide) rfl ?_
  intro p e s m args below meth c s₁ B hml hv
  obtain ⟨rfl, hC, hP⟩ := hv
  have C0 : g_mc p s m _ meth c RX12 cX12_isInLoop (some .boolean) 4 G := ⟨B.exec, B.bytes, B.returns, hml, findClass_of_methodNamed B.named, fun w h => atoms_spec (ws := wz yX12_isInLoop cX12_isInLoop 4 (some .boolean)) B.pre w (List.mem_cons_of_mem _ h), B.notSynchronized, hC⟩
  have hl := lv_entry ([.ref (G.2.1 39 0), .int x1, .int x2, .int x3]) (n := 4) (Nat.le_of_ble_eq_true rfl)
  rw [lg_entry_eq]
  generalize (lg_sl ([.ref (G.2.1 39 0), .int x1, .int x2, .int x3]) ++ List.replicate (4 - (lg_sl ([.ref (G.2.1 39 0), .int x1, .int x2, .int x3])).length) Slot.unset).toArray = ls at hl ⊢
  exact wk_X12_isInLoop C0 x1 x2 x3 M hf hP va_S.rf hl
abbrev rm_X12_isFine : Room := { frames := 2, cells := 0, slots := 0, locals := 46 }
def fn_X12_isFine (x1 : Int32) (x2 : Int32) (x3 : Int32) (x4 : Int32) (M : SM) : Option (Int32) :=
  (fn_X12_isInLoop x1 x4 x2 M).bind fun r_1 =>
  if r_1 = 0 then
  ((fn_X12_isInLoop x1 x4 x3 M).bind fun r_4 =>
    if r_4 = 0 then
    (some 1)
    else
    ((fn_X12_part x1 x4 2 M).bind fun r_7 =>
      if x3 = r_7 then
      (some 1)
      else
      (some 0)))
  else
  (if x4 < x3 then
    (some 0)
    else
    (some 1))
set_option maxRecDepth 100000 in
set_option maxHeartbeats 4000000 in
theorem wk_X12_isFine {p : Program} {l : Launch} {e : Env} {s : State} {m : MethodId} {args : Array Value} {below : List Frame} {meth : Method} {c : Code} {G : GP} {X : SM} {τ : SL} (C0 : g_mc p s m args meth c RX12 cX12_isFine (some .boolean) 5 G) {r0 : Int32} (x1 : Int32) (x2 : Int32) (x3 : Int32) (x4 : Int32) (M : SM) (hf : fn_X12_isFine x1 x2 x3 x4 M = some r0) {H : Heap} {locs : List Loc} (hP : va_P G.1 g_cl (wd G (cb X M) τ) H) (hS : va_S (g_A G) s.heap H locs) {ls : Array Slot} (hl : lv_has ls 5 [(0, .ref (G.2.1 39 0)), (1, .int x1), (2, .int x2), (3, .int x3), (4, .int x4)]) : W p l e rm_X12_isFine s m args below meth c H locs 0 0 (MQ below (va_Qi (fun r u => r = r0 ∧ u = (X, M, τ)) (g_pw G) (g_A G)) args s 0 0 (g_A G)) (F0 m 0 ls []) := by
  obtain ⟨hx, hb, hr, hml, hown, hts, hlocks, hC⟩ := id C0
  unfold fn_X12_isFine at hf
  refine lv_aload_n hx hb dX12_isFine_0 rfl (lv_at hl 0 rfl) ?_
  refine lv_iload_n hx hb dX12_isFine_1 rfl (lv_at hl 1 rfl) ?_
  refine lv_iload hx hb dX12_isFine_2 (lv_at hl 4 rfl) ?_
  refine lv_iload_n hx hb dX12_isFine_4 rfl (lv_at hl 2 rfl) ?_
  obtain ⟨r_1, hc_2, hf⟩ := g_bindE hf
  refine x_calli (v := (X, M, τ)) (va_runV (As := [.int x1, .int x4, .int x2]) (rest := []) ⟨hx, hb, hml, hown, hts⟩ (ct_X12_isInLoop l G X M τ x1 x4 x2 hc_2) (cwV 3 hts gd_X12_179 rfl rfl rfl hd_X12_isInLoop ⟨Nat.le_of_ble_eq_true rfl, Nat.le_of_ble_eq_true rfl⟩) (x_preV (u := (X, M, τ)) (k := 39) (ci := 12) hC hS hP Nat.zero_lt_one rfl rfl) rfl rfl hl.1 rfl (lv_room (Nat.le_of_ble_eq_true rfl)) dX12_isFine_5 ⟨Nat.le_refl _, Nat.le_refl _⟩) hS (fun H locs hP hS => ?_)
  refine lv_if_eq (tgt := 23) hx hb dX12_isFine_8 (by decide) (fun hc_3 => ?_) (fun hc_3 => ?_)
  · have hf := g_pos hf hc_3
    refine lv_aload_n hx hb dX12_isFine_23 rfl (lv_at hl 0 rfl) ?_
    refine lv_iload_n hx hb dX12_isFine_24 rfl (lv_at hl 1 rfl) ?_
    refine lv_iload hx hb dX12_isFine_25 (lv_at hl 4 rfl) ?_
    refine lv_iload_n hx hb dX12_isFine_27 rfl (lv_at hl 3 rfl) ?_
    obtain ⟨r_4, hc_5, hf⟩ := g_bindE hf
    refine x_calli (v := (X, M, τ)) (va_runV (As := [.int x1, .int x4, .int x3]) (rest := []) ⟨hx, hb, hml, hown, hts⟩ (ct_X12_isInLoop l G X M τ x1 x4 x3 hc_5) (cwV 3 hts gd_X12_179 rfl rfl rfl hd_X12_isInLoop ⟨Nat.le_of_ble_eq_true rfl, Nat.le_of_ble_eq_true rfl⟩) (x_preV (u := (X, M, τ)) (k := 39) (ci := 12) hC hS hP Nat.zero_lt_one rfl rfl) rfl rfl hl.1 rfl (lv_room (Nat.le_of_ble_eq_true rfl)) dX12_isFine_28 ⟨Nat.le_refl _, Nat.le_refl _⟩) hS (fun H locs hP hS => ?_)
    refine lv_if_eq (tgt := 46) hx hb dX12_isFine_31 (by decide) (fun hc_6 => ?_) (fun hc_6 => ?_)
    · have hf := g_pos hf hc_6
      refine lv_iconst (v := 1) hx hb dX12_isFine_46 (by decide) ?_
      refine lv_goto (tgt := 51) hx hb dX12_isFine_47 (by decide) ?_
      cases hf
      exact x_zret hx hb hlocks hC hP hS hr (Or.inr rfl) dX12_isFine_51
    · have hf := g_neg hf hc_6
      refine lv_iload_n hx hb dX12_isFine_34 rfl (lv_at hl 3 rfl) ?_
      refine lv_aload_n hx hb dX12_isFine_35 rfl (lv_at hl 0 rfl) ?_
      refine lv_iload_n hx hb dX12_isFine_36 rfl (lv_at hl 1 rfl) ?_
      refine lv_iload hx hb dX12_isFine_37 (lv_at hl 4 rfl) ?_
      refine lv_iconst (v := 2) hx hb dX12_isFine_39 (by decide) ?_
      obtain ⟨r_7, hc_8, hf⟩ := g_bindE hf
      refine x_calli (v := (X, M, τ)) (va_runV (As := [.int x1, .int x4, .int 2]) (rest := [.int x3]) ⟨hx, hb, hml, hown, hts⟩ (ct_X12_part l G X M τ x1 x4 2 hc_8) (cwV 3 hts gd_X12_115 rfl rfl rfl hd_X12_part ⟨Nat.le_of_ble_eq_true rfl, Nat.le_of_ble_eq_true rfl⟩) (x_preV (u := (X, M, τ)) (k := 39) (ci := 12) hC hS hP Nat.zero_lt_one rfl rfl) rfl rfl hl.1 rfl (lv_room (Nat.le_of_ble_eq_true rfl)) dX12_isFine_40 ⟨Nat.le_refl _, Nat.le_refl _⟩) hS (fun H locs hP hS => ?_)
      refine lv_icmp_ne (tgt := 50) hx hb dX12_isFine_43 (by decide) (fun hc_9 => ?_) (fun hc_9 => ?_)
      · have hf := g_neg hf hc_9
        refine lv_iconst (v := 0) hx hb dX12_isFine_50 (by decide) ?_
        cases hf
        exact x_zret hx hb hlocks hC hP hS hr (Or.inl rfl) dX12_isFine_51
      · have hf := g_pos hf hc_9
        refine lv_iconst (v := 1) hx hb dX12_isFine_46 (by decide) ?_
        refine lv_goto (tgt := 51) hx hb dX12_isFine_47 (by decide) ?_
        cases hf
        exact x_zret hx hb hlocks hC hP hS hr (Or.inr rfl) dX12_isFine_51
  · have hf := g_neg hf hc_3
    refine lv_iload_n hx hb dX12_isFine_11 rfl (lv_at hl 3 rfl) ?_
    refine lv_iload hx hb dX12_isFine_12 (lv_at hl 4 rfl) ?_
    refine lv_icmp_gt (tgt := 21) hx hb dX12_isFine_14 (by decide) (fun hc_10 => ?_) (fun hc_10 => ?_)
    · have hf := g_pos hf hc_10
      refine lv_iconst (v := 0) hx hb dX12_isFine_21 (by decide) ?_
      cases hf
      exact x_zret hx hb hlocks hC hP hS hr (Or.inl rfl) dX12_isFine_22
    · have hf := g_neg hf hc_10
      refine lv_iconst (v := 1) hx hb dX12_isFine_17 (by decide) ?_
      refine lv_goto (tgt := 22) hx hb dX12_isFine_18 (by decide) ?_
      cases hf
      exact x_zret hx hb hlocks hC hP hS hr (Or.inr rfl) dX12_isFine_22
set_option maxRecDepth 100000 in
set_option maxHeartbeats 4000000 in
theorem ct_X12_isFine (l : Launch) (G : GP) (X M : SM) (τ : SL) (x1 : Int32) (x2 : Int32) (x3 : Int32) (x4 : Int32) {r0 : Int32} (hf : fn_X12_isFine x1 x2 x3 x4 M = some r0) : Met l yX12_isFine (wz yX12_isFine cX12_isFine 5 (some .boolean)) rm_X12_isFine (va_Pc [.ref (G.2.1 39 0), .int x1, .int x2, .int x3, .int x4] (g_pw G (X, M, τ))) (va_Qi (fun r u => r = r0 ∧ u = (X, M, τ)) (g_pw G) (g_A G)) 0 0 (g_A G) := by
  refine Met.ofW (cc := cX12_isFine) (maxL := 5) (ret := (some .boolean)) (by decide) rfl ?_
  intro p e s m args below meth c s₁ B hml hv
  obtain ⟨rfl, hC, hP⟩ := hv
  have C0 : g_mc p s m _ meth c RX12 cX12_isFine (some .boolean) 5 G := ⟨B.exec, B.bytes, B.returns, hml, findClass_of_methodNamed B.named, fun w h => atoms_spec (ws := wz yX12_isFine cX12_isFine 5 (some .boolean)) B.pre w (List.mem_cons_of_mem _ h), B.notSynchronized, hC⟩
  have hl := lv_entry ([.ref (G.2.1 39 0), .int x1, .int x2, .int x3, .int x4]) (n := 5) (Nat.le_of_ble_eq_true rfl)
  rw [lg_entry_eq]
  generalize (lg_sl ([.ref (G.2.1 39 0), .int x1, .int x2, .int x3, .int x4]) ++ List.replicate (5 - (lg_sl ([.ref (G.2.1 39 0), .int x1, .int x2, .int x3, .int x4])).length) Slot.unset).toArray = ls at hl ⊢
  exact wk_X12_isFine C0 x1 x2 x3 x4 M hf hP va_S.rf hl
abbrev rm_X12_isPlain : Room := { frames := 3, cells := 0, slots := 0, locals := 70 }
def wb_X12_isPlain_96 (k2 : Int32 → Int32 → SM → Option (Int32)) (k96 : Int32 → Int32 → Int32 → Int32 → Int32 → Int32 → SM → Option (Int32)) (x1 : Int32) (x2 : Int32) (x3 : Int32) (x4 : Int32) (x5 : Int32) (x6 : Int32) (M : SM) : Option (Int32) :=
  if g_in x1 6 then
  if (M 43 0 (x1.toNatClampNeg)) ≤ x6 then
  (g_let (x2 + 1) fun x2_23 =>
    k2 x1 x2_23 M)
  else
  ((fn_X12_part x1 x6 0 M).bind fun r_24 =>
    if r_24 = 9 then
    (if x5 = 0 then
      (if x3 = 9 then
        (if x2 ≤ x6 then
          (g_let (x6 + 1) fun x6_31 =>
            k96 x1 x2 x3 x4 x5 x6_31 M)
          else
          ((fn_X12_part x1 x6 2 M).bind fun r_32 =>
            if x4 ≤ r_32 then
            (g_let (x6 + 1) fun x6_35 =>
              k96 x1 x2 x3 x4 x5 x6_35 M)
            else
            (if x6 < x4 then
              (g_let (x6 + 1) fun x6_37 =>
                k96 x1 x2 x3 x4 x5 x6_37 M)
              else
              (some 0))))
        else
        (g_let (x6 + 1) fun x6_29 =>
          k96 x1 x2 x3 x4 x5 x6_29 M))
      else
      ((fn_X12_isFine x1 x2 x4 x6 M).bind fun r_38 =>
        if r_38 = 0 then
        (some 0)
        else
        (if x3 = 9 then
          (if x2 ≤ x6 then
            (g_let (x6 + 1) fun x6_44 =>
              k96 x1 x2 x3 x4 x5 x6_44 M)
            else
            ((fn_X12_part x1 x6 2 M).bind fun r_45 =>
              if x4 ≤ r_45 then
              (g_let (x6 + 1) fun x6_48 =>
                k96 x1 x2 x3 x4 x5 x6_48 M)
              else
              (if x6 < x4 then
                (g_let (x6 + 1) fun x6_50 =>
                  k96 x1 x2 x3 x4 x5 x6_50 M)
                else
                (some 0))))
          else
          (g_let (x6 + 1) fun x6_42 =>
            k96 x1 x2 x3 x4 x5 x6_42 M))))
    else
    (g_let (x6 + 1) fun x6_51 =>
      k96 x1 x2 x3 x4 x5 x6_51 M))
  else none
set_option maxRecDepth 100000 in
set_option maxHeartbeats 4000000 in
theorem bk_X12_isPlain_96 {p : Program} {l : Launch} {e : Env} {s : State} {m : MethodId} {args : Array Value} {below : List Frame} {meth : Method} {c : Code} {G : GP} {X : SM} {τ : SL} (C0 : g_mc p s m args meth c RX12 cX12_isPlain (some .boolean) 7 G) {r0 : Int32} (k2 : Int32 → Int32 → SM → Option (Int32)) (hk2 : ∀ (x1 : Int32) (x2 : Int32) (M : SM), k2 x1 x2 M = some r0 → ∀ {H : Heap} {locs : List Loc}, va_P G.1 g_cl (wd G (cb X M) τ) H → va_S (g_A G) s.heap H locs → ∀ {ls : Array Slot}, lv_has ls 7 [(0, .ref (G.2.1 39 0)), (1, .int x1), (2, .int x2)] → W p l e rm_X12_isPlain s m args below meth c H locs 0 0 (MQ below (va_Qi (fun r u => r = r0 ∧ u = (X, M, τ)) (g_pw G) (g_A G)) args s 0 0 (g_A G)) (F0 m 2 ls [])) (k96 : Int32 → Int32 → Int32 → Int32 → Int32 → Int32 → SM → Option (Int32)) (hk96 : ∀ (x1 : Int32) (x2 : Int32) (x3 : Int32) (x4 : Int32) (x5 : Int32) (x6 : Int32) (M : SM), k96 x1 x2 x3 x4 x5 x6 M = some r0 → ∀ {H : Heap} {locs : List Loc}, va_P G.1 g_cl (wd G (cb X M) τ) H → va_S (g_A G) s.heap H locs → ∀ {ls : Array Slot}, lv_has ls 7 [(0, .ref (G.2.1 39 0)), (1, .int x1), (2, .int x2), (3, .int x3), (4, .int x4), (5, .int x5), (6, .int x6)] → W p l e rm_X12_isPlain s m args below meth c H locs 0 0 (MQ below (va_Qi (fun r u => r = r0 ∧ u = (X, M, τ)) (g_pw G) (g_A G)) args s 0 0 (g_A G)) (F0 m 96 ls [])) (x1 : Int32) (x2 : Int32) (x3 : Int32) (x4 : Int32) (x5 : Int32) (x6 : Int32) (M : SM) (hf : wb_X12_isPlain_96 k2 k96 x1 x2 x3 x4 x5 x6 M = some r0) {H : Heap} {locs : List Loc} (hP : va_P G.1 g_cl (wd G (cb X M) τ) H) (hS : va_S (g_A G) s.heap H locs) {ls : Array Slot} (hl : lv_has ls 7 [(0, .ref (G.2.1 39 0)), (1, .int x1), (2, .int x2), (3, .int x3), (4, .int x4), (5, .int x5), (6, .int x6)]) : W p l e rm_X12_isPlain s m args below meth c H locs 0 0 (MQ below (va_Qi (fun r u => r = r0 ∧ u = (X, M, τ)) (g_pw G) (g_A G)) args s 0 0 (g_A G)) (F0 m 96 ls []) := by
  obtain ⟨hx, hb, hr, hml, hown, hts, hlocks, hC⟩ := id C0
  unfold wb_X12_isPlain_96 at hf
  refine lv_iload hx hb dX12_isPlain_96 (lv_at hl 6 rfl) ?_
  refine lv_aload_n hx hb dX12_isPlain_98 rfl (lv_at hl 0 rfl) ?_
  refine gt_39_3 hx hb hts hown hC hP Nat.zero_lt_one q6_20 dX12_isPlain_99 ?_
  refine lv_iload_n hx hb dX12_isPlain_102 rfl (lv_at hl 1 rfl) ?_
  obtain ⟨hg_21, hf⟩ := g_gd hf
  refine xildM (k := 43) (n := 6) hx hb hC hP (fun _ _ => rfl) rfl Nat.zero_lt_one hg_21 dX12_isPlain_103 ?_
  refine lv_icmp_ge (tgt := 183) hx hb dX12_isPlain_104 (by decide) (fun hc_22 => ?_) (fun hc_22 => ?_)
  · have hf := g_pos hf hc_22
    obtain ⟨x2_23, ex2_23, hf⟩ := g_letE hf
    refine lv_iinc (v := x2_23) (lv' := [(2, .int x2_23), (0, .ref (G.2.1 39 0)), (1, .int x1), (3, .int x3), (4, .int x4), (5, .int x5), (6, .int x6)]) hx hb dX12_isPlain_183 hl (k := 2) rfl (by rw [← ex2_23]; rfl) (by decide) rfl (fun ls hl => ?_)
    refine lv_goto (tgt := 2) hx hb dX12_isPlain_186 (by decide) ?_
    exact hk2 x1 x2_23 M hf hP hS (lv_sub hl [1, 2, 0] rfl)
  · have hf := g_neg hf hc_22
    refine lv_aload_n hx hb dX12_isPlain_107 rfl (lv_at hl 0 rfl) ?_
    refine lv_iload_n hx hb dX12_isPlain_108 rfl (lv_at hl 1 rfl) ?_
    refine lv_iload hx hb dX12_isPlain_109 (lv_at hl 6 rfl) ?_
    refine lv_iconst (v := 0) hx hb dX12_isPlain_111 (by decide) ?_
    obtain ⟨r_24, hc_25, hf⟩ := g_bindE hf
    refine x_calli (v := (X, M, τ)) (va_runV (As := [.int x1, .int x6, .int 0]) (rest := []) ⟨hx, hb, hml, hown, hts⟩ (ct_X12_part l G X M τ x1 x6 0 hc_25) (cwV 3 hts gd_X12_115 rfl rfl rfl hd_X12_part ⟨Nat.le_of_ble_eq_true rfl, Nat.le_of_ble_eq_true rfl⟩) (x_preV (u := (X, M, τ)) (k := 39) (ci := 12) hC hS hP Nat.zero_lt_one rfl rfl) rfl rfl hl.1 rfl (lv_room (Nat.le_of_ble_eq_true rfl)) dX12_isPlain_112 ⟨Nat.le_refl _, Nat.le_refl _⟩) hS (fun H locs hP hS => ?_)
    refine lv_bipush (v := 9) hx hb dX12_isPlain_115 (by decide) ?_
    refine lv_icmp_eq (tgt := 123) hx hb dX12_isPlain_117 (by decide) (fun hc_26 => ?_) (fun hc_26 => ?_)
    · have hf := g_pos hf hc_26
      refine lv_iload hx hb dX12_isPlain_123 (lv_at hl 5 rfl) ?_
      refine lv_if_eq (tgt := 143) hx hb dX12_isPlain_125 (by decide) (fun hc_27 => ?_) (fun hc_27 => ?_)
      · have hf := g_pos hf hc_27
        refine lv_iload_n hx hb dX12_isPlain_143 rfl (lv_at hl 3 rfl) ?_
        refine lv_bipush (v := 9) hx hb dX12_isPlain_144 (by decide) ?_
        refine lv_icmp_ne (tgt := 177) hx hb dX12_isPlain_146 (by decide) (fun hc_28 => ?_) (fun hc_28 => ?_)
        · have hf := g_neg hf hc_28
          obtain ⟨x6_29, ex6_29, hf⟩ := g_letE hf
          refine lv_iinc (v := x6_29) (lv' := [(6, .int x6_29), (0, .ref (G.2.1 39 0)), (1, .int x1), (2, .int x2), (3, .int x3), (4, .int x4), (5, .int x5)]) hx hb dX12_isPlain_177 hl (k := 6) rfl (by rw [← ex6_29]; rfl) (by decide) rfl (fun ls hl => ?_)
          refine lv_goto (tgt := 96) hx hb dX12_isPlain_180 (by decide) ?_
          exact hk96 x1 x2 x3 x4 x5 x6_29 M hf hP hS (lv_sub hl [1, 2, 3, 4, 5, 6, 0] rfl)
        · have hf := g_pos hf hc_28
          refine lv_iload hx hb dX12_isPlain_149 (lv_at hl 6 rfl) ?_
          refine lv_iload_n hx hb dX12_isPlain_151 rfl (lv_at hl 2 rfl) ?_
          refine lv_icmp_ge (tgt := 177) hx hb dX12_isPlain_152 (by decide) (fun hc_30 => ?_) (fun hc_30 => ?_)
          · have hf := g_pos hf hc_30
            obtain ⟨x6_31, ex6_31, hf⟩ := g_letE hf
            refine lv_iinc (v := x6_31) (lv' := [(6, .int x6_31), (0, .ref (G.2.1 39 0)), (1, .int x1), (2, .int x2), (3, .int x3), (4, .int x4), (5, .int x5)]) hx hb dX12_isPlain_177 hl (k := 6) rfl (by rw [← ex6_31]; rfl) (by decide) rfl (fun ls hl => ?_)
            refine lv_goto (tgt := 96) hx hb dX12_isPlain_180 (by decide) ?_
            exact hk96 x1 x2 x3 x4 x5 x6_31 M hf hP hS (lv_sub hl [1, 2, 3, 4, 5, 6, 0] rfl)
          · have hf := g_neg hf hc_30
            refine lv_iload hx hb dX12_isPlain_155 (lv_at hl 4 rfl) ?_
            refine lv_aload_n hx hb dX12_isPlain_157 rfl (lv_at hl 0 rfl) ?_
            refine lv_iload_n hx hb dX12_isPlain_158 rfl (lv_at hl 1 rfl) ?_
            refine lv_iload hx hb dX12_isPlain_159 (lv_at hl 6 rfl) ?_
            refine lv_iconst (v := 2) hx hb dX12_isPlain_161 (by decide) ?_
            obtain ⟨r_32, hc_33, hf⟩ := g_bindE hf
            refine x_calli (v := (X, M, τ)) (va_runV (As := [.int x1, .int x6, .int 2]) (rest := [.int x4]) ⟨hx, hb, hml, hown, hts⟩ (ct_X12_part l G X M τ x1 x6 2 hc_33) (cwV 3 hts gd_X12_115 rfl rfl rfl hd_X12_part ⟨Nat.le_of_ble_eq_true rfl, Nat.le_of_ble_eq_true rfl⟩) (x_preV (u := (X, M, τ)) (k := 39) (ci := 12) hC hS hP Nat.zero_lt_one rfl rfl) rfl rfl hl.1 rfl (lv_room (Nat.le_of_ble_eq_true rfl)) dX12_isPlain_162 ⟨Nat.le_refl _, Nat.le_refl _⟩) hS (fun H locs hP hS => ?_)
            refine lv_icmp_le (tgt := 177) hx hb dX12_isPlain_165 (by decide) (fun hc_34 => ?_) (fun hc_34 => ?_)
            · have hf := g_pos hf hc_34
              obtain ⟨x6_35, ex6_35, hf⟩ := g_letE hf
              refine lv_iinc (v := x6_35) (lv' := [(6, .int x6_35), (0, .ref (G.2.1 39 0)), (1, .int x1), (2, .int x2), (3, .int x3), (4, .int x4), (5, .int x5)]) hx hb dX12_isPlain_177 hl (k := 6) rfl (by rw [← ex6_35]; rfl) (by decide) rfl (fun ls hl => ?_)
              refine lv_goto (tgt := 96) hx hb dX12_isPlain_180 (by decide) ?_
              exact hk96 x1 x2 x3 x4 x5 x6_35 M hf hP hS (lv_sub hl [1, 2, 3, 4, 5, 6, 0] rfl)
            · have hf := g_neg hf hc_34
              refine lv_iload hx hb dX12_isPlain_168 (lv_at hl 4 rfl) ?_
              refine lv_iload hx hb dX12_isPlain_170 (lv_at hl 6 rfl) ?_
              refine lv_icmp_gt (tgt := 177) hx hb dX12_isPlain_172 (by decide) (fun hc_36 => ?_) (fun hc_36 => ?_)
              · have hf := g_pos hf hc_36
                obtain ⟨x6_37, ex6_37, hf⟩ := g_letE hf
                refine lv_iinc (v := x6_37) (lv' := [(6, .int x6_37), (0, .ref (G.2.1 39 0)), (1, .int x1), (2, .int x2), (3, .int x3), (4, .int x4), (5, .int x5)]) hx hb dX12_isPlain_177 hl (k := 6) rfl (by rw [← ex6_37]; rfl) (by decide) rfl (fun ls hl => ?_)
                refine lv_goto (tgt := 96) hx hb dX12_isPlain_180 (by decide) ?_
                exact hk96 x1 x2 x3 x4 x5 x6_37 M hf hP hS (lv_sub hl [1, 2, 3, 4, 5, 6, 0] rfl)
              · have hf := g_neg hf hc_36
                refine lv_iconst (v := 0) hx hb dX12_isPlain_175 (by decide) ?_
                cases hf
                exact x_zret hx hb hlocks hC hP hS hr (Or.inl rfl) dX12_isPlain_176
      · have hf := g_neg hf hc_27
        refine lv_aload_n hx hb dX12_isPlain_128 rfl (lv_at hl 0 rfl) ?_
        refine lv_iload_n hx hb dX12_isPlain_129 rfl (lv_at hl 1 rfl) ?_
        refine lv_iload_n hx hb dX12_isPlain_130 rfl (lv_at hl 2 rfl) ?_
        refine lv_iload hx hb dX12_isPlain_131 (lv_at hl 4 rfl) ?_
        refine lv_iload hx hb dX12_isPlain_133 (lv_at hl 6 rfl) ?_
        obtain ⟨r_38, hc_39, hf⟩ := g_bindE hf
        refine x_calli (v := (X, M, τ)) (va_runV (As := [.int x1, .int x2, .int x4, .int x6]) (rest := []) ⟨hx, hb, hml, hown, hts⟩ (ct_X12_isFine l G X M τ x1 x2 x4 x6 hc_39) (cwV 4 hts gd_X12_182 rfl rfl rfl hd_X12_isFine ⟨Nat.le_of_ble_eq_true rfl, Nat.le_of_ble_eq_true rfl⟩) (x_preV (u := (X, M, τ)) (k := 39) (ci := 12) hC hS hP Nat.zero_lt_one rfl rfl) rfl rfl hl.1 rfl (lv_room (Nat.le_of_ble_eq_true rfl)) dX12_isPlain_135 ⟨Nat.le_refl _, Nat.le_refl _⟩) hS (fun H locs hP hS => ?_)
        refine lv_if_ne (tgt := 143) hx hb dX12_isPlain_138 (by decide) (fun hc_40 => ?_) (fun hc_40 => ?_)
        · have hf := g_neg hf hc_40
          refine lv_iload_n hx hb dX12_isPlain_143 rfl (lv_at hl 3 rfl) ?_
          refine lv_bipush (v := 9) hx hb dX12_isPlain_144 (by decide) ?_
          refine lv_icmp_ne (tgt := 177) hx hb dX12_isPlain_146 (by decide) (fun hc_41 => ?_) (fun hc_41 => ?_)
          · have hf := g_neg hf hc_41
            obtain ⟨x6_42, ex6_42, hf⟩ := g_letE hf
            refine lv_iinc (v := x6_42) (lv' := [(6, .int x6_42), (0, .ref (G.2.1 39 0)), (1, .int x1), (2, .int x2), (3, .int x3), (4, .int x4), (5, .int x5)]) hx hb dX12_isPlain_177 hl (k := 6) rfl (by rw [← ex6_42]; rfl) (by decide) rfl (fun ls hl => ?_)
            refine lv_goto (tgt := 96) hx hb dX12_isPlain_180 (by decide) ?_
            exact hk96 x1 x2 x3 x4 x5 x6_42 M hf hP hS (lv_sub hl [1, 2, 3, 4, 5, 6, 0] rfl)
          · have hf := g_pos hf hc_41
            refine lv_iload hx hb dX12_isPlain_149 (lv_at hl 6 rfl) ?_
            refine lv_iload_n hx hb dX12_isPlain_151 rfl (lv_at hl 2 rfl) ?_
            refine lv_icmp_ge (tgt := 177) hx hb dX12_isPlain_152 (by decide) (fun hc_43 => ?_) (fun hc_43 => ?_)
            · have hf := g_pos hf hc_43
              obtain ⟨x6_44, ex6_44, hf⟩ := g_letE hf
              refine lv_iinc (v := x6_44) (lv' := [(6, .int x6_44), (0, .ref (G.2.1 39 0)), (1, .int x1), (2, .int x2), (3, .int x3), (4, .int x4), (5, .int x5)]) hx hb dX12_isPlain_177 hl (k := 6) rfl (by rw [← ex6_44]; rfl) (by decide) rfl (fun ls hl => ?_)
              refine lv_goto (tgt := 96) hx hb dX12_isPlain_180 (by decide) ?_
              exact hk96 x1 x2 x3 x4 x5 x6_44 M hf hP hS (lv_sub hl [1, 2, 3, 4, 5, 6, 0] rfl)
            · have hf := g_neg hf hc_43
              refine lv_iload hx hb dX12_isPlain_155 (lv_at hl 4 rfl) ?_
              refine lv_aload_n hx hb dX12_isPlain_157 rfl (lv_at hl 0 rfl) ?_
              refine lv_iload_n hx hb dX12_isPlain_158 rfl (lv_at hl 1 rfl) ?_
              refine lv_iload hx hb dX12_isPlain_159 (lv_at hl 6 rfl) ?_
              refine lv_iconst (v := 2) hx hb dX12_isPlain_161 (by decide) ?_
              obtain ⟨r_45, hc_46, hf⟩ := g_bindE hf
              refine x_calli (v := (X, M, τ)) (va_runV (As := [.int x1, .int x6, .int 2]) (rest := [.int x4]) ⟨hx, hb, hml, hown, hts⟩ (ct_X12_part l G X M τ x1 x6 2 hc_46) (cwV 3 hts gd_X12_115 rfl rfl rfl hd_X12_part ⟨Nat.le_of_ble_eq_true rfl, Nat.le_of_ble_eq_true rfl⟩) (x_preV (u := (X, M, τ)) (k := 39) (ci := 12) hC hS hP Nat.zero_lt_one rfl rfl) rfl rfl hl.1 rfl (lv_room (Nat.le_of_ble_eq_true rfl)) dX12_isPlain_162 ⟨Nat.le_refl _, Nat.le_refl _⟩) hS (fun H locs hP hS => ?_)
              refine lv_icmp_le (tgt := 177) hx hb dX12_isPlain_165 (by decide) (fun hc_47 => ?_) (fun hc_47 => ?_)
              · have hf := g_pos hf hc_47
                obtain ⟨x6_48, ex6_48, hf⟩ := g_letE hf
                refine lv_iinc (v := x6_48) (lv' := [(6, .int x6_48), (0, .ref (G.2.1 39 0)), (1, .int x1), (2, .int x2), (3, .int x3), (4, .int x4), (5, .int x5)]) hx hb dX12_isPlain_177 hl (k := 6) rfl (by rw [← ex6_48]; rfl) (by decide) rfl (fun ls hl => ?_)
                refine lv_goto (tgt := 96) hx hb dX12_isPlain_180 (by decide) ?_
                exact hk96 x1 x2 x3 x4 x5 x6_48 M hf hP hS (lv_sub hl [1, 2, 3, 4, 5, 6, 0] rfl)
              · have hf := g_neg hf hc_47
                refine lv_iload hx hb dX12_isPlain_168 (lv_at hl 4 rfl) ?_
                refine lv_iload hx hb dX12_isPlain_170 (lv_at hl 6 rfl) ?_
                refine lv_icmp_gt (tgt := 177) hx hb dX12_isPlain_172 (by decide) (fun hc_49 => ?_) (fun hc_49 => ?_)
                · have hf := g_pos hf hc_49
                  obtain ⟨x6_50, ex6_50, hf⟩ := g_letE hf
                  refine lv_iinc (v := x6_50) (lv' := [(6, .int x6_50), (0, .ref (G.2.1 39 0)), (1, .int x1), (2, .int x2), (3, .int x3), (4, .int x4), (5, .int x5)]) hx hb dX12_isPlain_177 hl (k := 6) rfl (by rw [← ex6_50]; rfl) (by decide) rfl (fun ls hl => ?_)
                  refine lv_goto (tgt := 96) hx hb dX12_isPlain_180 (by decide) ?_
                  exact hk96 x1 x2 x3 x4 x5 x6_50 M hf hP hS (lv_sub hl [1, 2, 3, 4, 5, 6, 0] rfl)
                · have hf := g_neg hf hc_49
                  refine lv_iconst (v := 0) hx hb dX12_isPlain_175 (by decide) ?_
                  cases hf
                  exact x_zret hx hb hlocks hC hP hS hr (Or.inl rfl) dX12_isPlain_176
        · have hf := g_pos hf hc_40
          refine lv_iconst (v := 0) hx hb dX12_isPlain_141 (by decide) ?_
          cases hf
          exact x_zret hx hb hlocks hC hP hS hr (Or.inl rfl) dX12_isPlain_142
    · have hf := g_neg hf hc_26
      refine lv_goto (tgt := 177) hx hb dX12_isPlain_120 (by decide) ?_
      obtain ⟨x6_51, ex6_51, hf⟩ := g_letE hf
      refine lv_iinc (v := x6_51) (lv' := [(6, .int x6_51), (0, .ref (G.2.1 39 0)), (1, .int x1), (2, .int x2), (3, .int x3), (4, .int x4), (5, .int x5)]) hx hb dX12_isPlain_177 hl (k := 6) rfl (by rw [← ex6_51]; rfl) (by decide) rfl (fun ls hl => ?_)
      refine lv_goto (tgt := 96) hx hb dX12_isPlain_180 (by decide) ?_
      exact hk96 x1 x2 x3 x4 x5 x6_51 M hf hP hS (lv_sub hl [1, 2, 3, 4, 5, 6, 0] rfl)
def wl_X12_isPlain_96 (k2 : Int32 → Int32 → SM → Option (Int32)) (n : Nat) (x1 : Int32) (x2 : Int32) (x3 : Int32) (x4 : Int32) (x5 : Int32) (x6 : Int32) (M : SM) : Option (Int32) := g_loop (α := Int32 × Int32 × Int32 × Int32 × Int32 × Int32 × SM) (fun k a => wb_X12_isPlain_96 k2 (fun x1 x2 x3 x4 x5 x6 M => k (x1, x2, x3, x4, x5, x6, M)) a.1 a.2.1 a.2.2.1 a.2.2.2.1 a.2.2.2.2.1 a.2.2.2.2.2.1 a.2.2.2.2.2.2) n (x1, x2, x3, x4, x5, x6, M)
set_option maxRecDepth 100000 in
set_option maxHeartbeats 4000000 in
theorem lp_X12_isPlain_96 {p : Program} {l : Launch} {e : Env} {s : State} {m : MethodId} {args : Array Value} {below : List Frame} {meth : Method} {c : Code} {G : GP} {X : SM} {τ : SL} (C0 : g_mc p s m args meth c RX12 cX12_isPlain (some .boolean) 7 G) {r0 : Int32} (k2 : Int32 → Int32 → SM → Option (Int32)) (hk2 : ∀ (x1 : Int32) (x2 : Int32) (M : SM), k2 x1 x2 M = some r0 → ∀ {H : Heap} {locs : List Loc}, va_P G.1 g_cl (wd G (cb X M) τ) H → va_S (g_A G) s.heap H locs → ∀ {ls : Array Slot}, lv_has ls 7 [(0, .ref (G.2.1 39 0)), (1, .int x1), (2, .int x2)] → W p l e rm_X12_isPlain s m args below meth c H locs 0 0 (MQ below (va_Qi (fun r u => r = r0 ∧ u = (X, M, τ)) (g_pw G) (g_A G)) args s 0 0 (g_A G)) (F0 m 2 ls [])) (n : Nat) : ∀ (x1 : Int32) (x2 : Int32) (x3 : Int32) (x4 : Int32) (x5 : Int32) (x6 : Int32) (M : SM), wl_X12_isPlain_96 k2 n x1 x2 x3 x4 x5 x6 M = some r0 → ∀ {H : Heap} {locs : List Loc}, va_P G.1 g_cl (wd G (cb X M) τ) H → va_S (g_A G) s.heap H locs → ∀ {ls : Array Slot}, lv_has ls 7 [(0, .ref (G.2.1 39 0)), (1, .int x1), (2, .int x2), (3, .int x3), (4, .int x4), (5, .int x5), (6, .int x6)] → W p l e rm_X12_isPlain s m args below meth c H locs 0 0 (MQ below (va_Qi (fun r u => r = r0 ∧ u = (X, M, τ)) (g_pw G) (g_A G)) args s 0 0 (g_A G)) (F0 m 96 ls []) := by
  induction n with
  | zero =>
    intro x1 x2 x3 x4 x5 x6 M hf
    have hf : (none : Option (Int32)) = _ := hf
    cases hf
  | succ n ih =>
    intro x1 x2 x3 x4 x5 x6 M hf H locs hP hS ls hl
    exact bk_X12_isPlain_96 C0 k2 hk2 (fun x1 x2 x3 x4 x5 x6 M => wl_X12_isPlain_96 k2 n x1 x2 x3 x4 x5 x6 M) ih x1 x2 x3 x4 x5 x6 M hf hP hS hl
def wb_X12_isPlain_61 (k2 : Int32 → Int32 → SM → Option (Int32)) (x1 : Int32) (x2 : Int32) (x3 : Int32) (x4 : Int32) (M : SM) : Option (Int32) :=
  if x3 = 7 then
  (if x2 < x4 then
    (wl_X12_isPlain_96 k2 1000 x1 x2 x3 x4 1 0 M)
    else
    (some 0))
  else
  (if x3 = 8 then
    (if x2 < x4 then
      (wl_X12_isPlain_96 k2 1000 x1 x2 x3 x4 1 0 M)
      else
      (some 0))
    else
    (wl_X12_isPlain_96 k2 1000 x1 x2 x3 x4 0 0 M))
set_option maxRecDepth 100000 in
set_option maxHeartbeats 4000000 in
theorem bk_X12_isPlain_61 {p : Program} {l : Launch} {e : Env} {s : State} {m : MethodId} {args : Array Value} {below : List Frame} {meth : Method} {c : Code} {G : GP} {X : SM} {τ : SL} (C0 : g_mc p s m args meth c RX12 cX12_isPlain (some .boolean) 7 G) {r0 : Int32} (k2 : Int32 → Int32 → SM → Option (Int32)) (hk2 : ∀ (x1 : Int32) (x2 : Int32) (M : SM), k2 x1 x2 M = some r0 → ∀ {H : Heap} {locs : List Loc}, va_P G.1 g_cl (wd G (cb X M) τ) H → va_S (g_A G) s.heap H locs → ∀ {ls : Array Slot}, lv_has ls 7 [(0, .ref (G.2.1 39 0)), (1, .int x1), (2, .int x2)] → W p l e rm_X12_isPlain s m args below meth c H locs 0 0 (MQ below (va_Qi (fun r u => r = r0 ∧ u = (X, M, τ)) (g_pw G) (g_A G)) args s 0 0 (g_A G)) (F0 m 2 ls [])) (x1 : Int32) (x2 : Int32) (x3 : Int32) (x4 : Int32) (M : SM) (hf : wb_X12_isPlain_61 k2 x1 x2 x3 x4 M = some r0) {H : Heap} {locs : List Loc} (hP : va_P G.1 g_cl (wd G (cb X M) τ) H) (hS : va_S (g_A G) s.heap H locs) {ls : Array Slot} (hl : lv_has ls 7 [(0, .ref (G.2.1 39 0)), (1, .int x1), (2, .int x2), (3, .int x3), (4, .int x4)]) : W p l e rm_X12_isPlain s m args below meth c H locs 0 0 (MQ below (va_Qi (fun r u => r = r0 ∧ u = (X, M, τ)) (g_pw G) (g_A G)) args s 0 0 (g_A G)) (F0 m 61 ls []) := by
  obtain ⟨hx, hb, hr, hml, hown, hts, hlocks, hC⟩ := id C0
  unfold wb_X12_isPlain_61 at hf
  refine lv_iload_n hx hb dX12_isPlain_61 rfl (lv_at hl 3 rfl) ?_
  refine lv_bipush (v := 7) hx hb dX12_isPlain_62 (by decide) ?_
  refine lv_icmp_eq (tgt := 73) hx hb dX12_isPlain_64 (by decide) (fun hc_14 => ?_) (fun hc_14 => ?_)
  · have hf := g_pos hf hc_14
    refine lv_iconst (v := 1) hx hb dX12_isPlain_73 (by decide) ?_
    refine lv_goto (tgt := 78) hx hb dX12_isPlain_74 (by decide) ?_
    refine lv_istore (lv' := [(5, .int 1), (0, .ref (G.2.1 39 0)), (1, .int x1), (2, .int x2), (3, .int x3), (4, .int x4)]) hx hb dX12_isPlain_78 hl (by decide) rfl (fun ls hl => ?_)
    refine lv_iload hx hb dX12_isPlain_80 (lv_at hl 0 rfl) ?_
    refine lv_if_eq (tgt := 93) hx hb dX12_isPlain_82 (by decide) (fun h => absurd h (by decide)) (fun _ => ?_)
    refine lv_iload hx hb dX12_isPlain_85 (lv_at hl 5 rfl) ?_
    refine lv_iload_n hx hb dX12_isPlain_87 rfl (lv_at hl 3 rfl) ?_
    refine lv_icmp_gt (tgt := 93) hx hb dX12_isPlain_88 (by decide) (fun hc_16 => ?_) (fun hc_16 => ?_)
    · have hf := g_pos hf hc_16
      refine lv_iconst (v := 0) hx hb dX12_isPlain_93 (by decide) ?_
      refine lv_istore (lv' := [(6, .int 0), (5, .int 1), (0, .ref (G.2.1 39 0)), (1, .int x1), (2, .int x2), (3, .int x3), (4, .int x4)]) hx hb dX12_isPlain_94 hl (by decide) rfl (fun ls hl => ?_)
      exact lp_X12_isPlain_96 C0 k2 hk2 1000 x1 x2 x3 x4 1 0 M hf hP hS (lv_sub hl [2, 3, 4, 5, 6, 1, 0] rfl)
    · have hf := g_neg hf hc_16
      refine lv_iconst (v := 0) hx hb dX12_isPlain_91 (by decide) ?_
      cases hf
      exact x_zret hx hb hlocks hC hP hS hr (Or.inl rfl) dX12_isPlain_92
  · have hf := g_neg hf hc_14
    refine lv_iload_n hx hb dX12_isPlain_67 rfl (lv_at hl 3 rfl) ?_
    refine lv_bipush (v := 8) hx hb dX12_isPlain_68 (by decide) ?_
    refine lv_icmp_ne (tgt := 77) hx hb dX12_isPlain_70 (by decide) (fun hc_17 => ?_) (fun hc_17 => ?_)
    · have hf := g_neg hf hc_17
      refine lv_iconst (v := 0) hx hb dX12_isPlain_77 (by decide) ?_
      refine lv_istore (lv' := [(5, .int 0), (0, .ref (G.2.1 39 0)), (1, .int x1), (2, .int x2), (3, .int x3), (4, .int x4)]) hx hb dX12_isPlain_78 hl (by decide) rfl (fun ls hl => ?_)
      refine lv_iload hx hb dX12_isPlain_80 (lv_at hl 0 rfl) ?_
      refine lv_if_eq (tgt := 93) hx hb dX12_isPlain_82 (by decide) (fun _ => ?_) (fun h => absurd h (by decide))
      refine lv_iconst (v := 0) hx hb dX12_isPlain_93 (by decide) ?_
      refine lv_istore (lv' := [(6, .int 0), (5, .int 0), (0, .ref (G.2.1 39 0)), (1, .int x1), (2, .int x2), (3, .int x3), (4, .int x4)]) hx hb dX12_isPlain_94 hl (by decide) rfl (fun ls hl => ?_)
      exact lp_X12_isPlain_96 C0 k2 hk2 1000 x1 x2 x3 x4 0 0 M hf hP hS (lv_sub hl [2, 3, 4, 5, 6, 1, 0] rfl)
    · have hf := g_pos hf hc_17
      refine lv_iconst (v := 1) hx hb dX12_isPlain_73 (by decide) ?_
      refine lv_goto (tgt := 78) hx hb dX12_isPlain_74 (by decide) ?_
      refine lv_istore (lv' := [(5, .int 1), (0, .ref (G.2.1 39 0)), (1, .int x1), (2, .int x2), (3, .int x3), (4, .int x4)]) hx hb dX12_isPlain_78 hl (by decide) rfl (fun ls hl => ?_)
      refine lv_iload hx hb dX12_isPlain_80 (lv_at hl 0 rfl) ?_
      refine lv_if_eq (tgt := 93) hx hb dX12_isPlain_82 (by decide) (fun h => absurd h (by decide)) (fun _ => ?_)
      refine lv_iload hx hb dX12_isPlain_85 (lv_at hl 5 rfl) ?_
      refine lv_iload_n hx hb dX12_isPlain_87 rfl (lv_at hl 3 rfl) ?_
      refine lv_icmp_gt (tgt := 93) hx hb dX12_isPlain_88 (by decide) (fun hc_20 => ?_) (fun hc_20 => ?_)
      · have hf := g_pos hf hc_20
        refine lv_iconst (v := 0) hx hb dX12_isPlain_93 (by decide) ?_
        refine lv_istore (lv' := [(6, .int 0), (5, .int 1), (0, .ref (G.2.1 39 0)), (1, .int x1), (2, .int x2), (3, .int x3), (4, .int x4)]) hx hb dX12_isPlain_94 hl (by decide) rfl (fun ls hl => ?_)
        exact lp_X12_isPlain_96 C0 k2 hk2 1000 x1 x2 x3 x4 1 0 M hf hP hS (lv_sub hl [2, 3, 4, 5, 6, 1, 0] rfl)
      · have hf := g_neg hf hc_20
        refine lv_iconst (v := 0) hx hb dX12_isPlain_91 (by decide) ?_
        cases hf
        exact x_zret hx hb hlocks hC hP hS hr (Or.inl rfl) dX12_isPlain_92
def wb_X12_isPlain_2 (k2 : Int32 → Int32 → SM → Option (Int32)) (x1 : Int32) (x2 : Int32) (M : SM) : Option (Int32) :=
  if g_in x1 6 then
  if (M 43 0 (x1.toNatClampNeg)) ≤ x2 then
  (if g_in x1 6 then
    if (M 43 0 (x1.toNatClampNeg)) ≤ 0 then
    (some 0)
    else
    (some 1)
    else none)
  else
  ((fn_X12_part x1 x2 0 M).bind fun r_5 =>
    (fn_X12_part x1 x2 2 M).bind fun r_7 =>
    if r_5 = 11 then
    (some 0)
    else
    (if r_5 = 13 then
      (some 0)
      else
      (if r_5 = 14 then
        (some 0)
        else
        (if r_5 < 16 then
          (wb_X12_isPlain_61 k2 x1 x2 r_5 r_7 M)
          else
          (if 18 < r_5 then
            (wb_X12_isPlain_61 k2 x1 x2 r_5 r_7 M)
            else
            (some 0))))))
  else none
set_option maxRecDepth 100000 in
set_option maxHeartbeats 4000000 in
theorem bk_X12_isPlain_2 {p : Program} {l : Launch} {e : Env} {s : State} {m : MethodId} {args : Array Value} {below : List Frame} {meth : Method} {c : Code} {G : GP} {X : SM} {τ : SL} (C0 : g_mc p s m args meth c RX12 cX12_isPlain (some .boolean) 7 G) {r0 : Int32} (k2 : Int32 → Int32 → SM → Option (Int32)) (hk2 : ∀ (x1 : Int32) (x2 : Int32) (M : SM), k2 x1 x2 M = some r0 → ∀ {H : Heap} {locs : List Loc}, va_P G.1 g_cl (wd G (cb X M) τ) H → va_S (g_A G) s.heap H locs → ∀ {ls : Array Slot}, lv_has ls 7 [(0, .ref (G.2.1 39 0)), (1, .int x1), (2, .int x2)] → W p l e rm_X12_isPlain s m args below meth c H locs 0 0 (MQ below (va_Qi (fun r u => r = r0 ∧ u = (X, M, τ)) (g_pw G) (g_A G)) args s 0 0 (g_A G)) (F0 m 2 ls [])) (x1 : Int32) (x2 : Int32) (M : SM) (hf : wb_X12_isPlain_2 k2 x1 x2 M = some r0) {H : Heap} {locs : List Loc} (hP : va_P G.1 g_cl (wd G (cb X M) τ) H) (hS : va_S (g_A G) s.heap H locs) {ls : Array Slot} (hl : lv_has ls 7 [(0, .ref (G.2.1 39 0)), (1, .int x1), (2, .int x2)]) : W p l e rm_X12_isPlain s m args below meth c H locs 0 0 (MQ below (va_Qi (fun r u => r = r0 ∧ u = (X, M, τ)) (g_pw G) (g_A G)) args s 0 0 (g_A G)) (F0 m 2 ls []) := by
  obtain ⟨hx, hb, hr, hml, hown, hts, hlocks, hC⟩ := id C0
  unfold wb_X12_isPlain_2 at hf
  refine lv_iload_n hx hb dX12_isPlain_2 rfl (lv_at hl 2 rfl) ?_
  refine lv_aload_n hx hb dX12_isPlain_3 rfl (lv_at hl 0 rfl) ?_
  refine gt_39_3 hx hb hts hown hC hP Nat.zero_lt_one q6_20 dX12_isPlain_4 ?_
  refine lv_iload_n hx hb dX12_isPlain_7 rfl (lv_at hl 1 rfl) ?_
  obtain ⟨hg_1, hf⟩ := g_gd hf
  refine xildM (k := 43) (n := 6) hx hb hC hP (fun _ _ => rfl) rfl Nat.zero_lt_one hg_1 dX12_isPlain_8 ?_
  refine lv_icmp_ge (tgt := 189) hx hb dX12_isPlain_9 (by decide) (fun hc_2 => ?_) (fun hc_2 => ?_)
  · have hf := g_pos hf hc_2
    refine lv_aload_n hx hb dX12_isPlain_189 rfl (lv_at hl 0 rfl) ?_
    refine gt_39_3 hx hb hts hown hC hP Nat.zero_lt_one q6_20 dX12_isPlain_190 ?_
    refine lv_iload_n hx hb dX12_isPlain_193 rfl (lv_at hl 1 rfl) ?_
    obtain ⟨hg_3, hf⟩ := g_gd hf
    refine xildM (k := 43) (n := 6) hx hb hC hP (fun _ _ => rfl) rfl Nat.zero_lt_one hg_3 dX12_isPlain_194 ?_
    refine lv_if_le (tgt := 202) hx hb dX12_isPlain_195 (by decide) (fun hc_4 => ?_) (fun hc_4 => ?_)
    · have hf := g_pos hf hc_4
      refine lv_iconst (v := 0) hx hb dX12_isPlain_202 (by decide) ?_
      cases hf
      exact x_zret hx hb hlocks hC hP hS hr (Or.inl rfl) dX12_isPlain_203
    · have hf := g_neg hf hc_4
      refine lv_iconst (v := 1) hx hb dX12_isPlain_198 (by decide) ?_
      refine lv_goto (tgt := 203) hx hb dX12_isPlain_199 (by decide) ?_
      cases hf
      exact x_zret hx hb hlocks hC hP hS hr (Or.inr rfl) dX12_isPlain_203
  · have hf := g_neg hf hc_2
    refine lv_aload_n hx hb dX12_isPlain_12 rfl (lv_at hl 0 rfl) ?_
    refine lv_iload_n hx hb dX12_isPlain_13 rfl (lv_at hl 1 rfl) ?_
    refine lv_iload_n hx hb dX12_isPlain_14 rfl (lv_at hl 2 rfl) ?_
    refine lv_iconst (v := 0) hx hb dX12_isPlain_15 (by decide) ?_
    obtain ⟨r_5, hc_6, hf⟩ := g_bindE hf
    refine x_calli (v := (X, M, τ)) (va_runV (As := [.int x1, .int x2, .int 0]) (rest := []) ⟨hx, hb, hml, hown, hts⟩ (ct_X12_part l G X M τ x1 x2 0 hc_6) (cwV 3 hts gd_X12_115 rfl rfl rfl hd_X12_part ⟨Nat.le_of_ble_eq_true rfl, Nat.le_of_ble_eq_true rfl⟩) (x_preV (u := (X, M, τ)) (k := 39) (ci := 12) hC hS hP Nat.zero_lt_one rfl rfl) rfl rfl hl.1 rfl (lv_room (Nat.le_of_ble_eq_true rfl)) dX12_isPlain_16 ⟨Nat.le_refl _, Nat.le_refl _⟩) hS (fun H locs hP hS => ?_)
    refine lv_istore_n (lv' := [(3, .int r_5), (0, .ref (G.2.1 39 0)), (1, .int x1), (2, .int x2)]) hx hb dX12_isPlain_19 rfl hl (by decide) rfl (fun ls hl => ?_)
    refine lv_aload_n hx hb dX12_isPlain_20 rfl (lv_at hl 1 rfl) ?_
    refine lv_iload_n hx hb dX12_isPlain_21 rfl (lv_at hl 2 rfl) ?_
    refine lv_iload_n hx hb dX12_isPlain_22 rfl (lv_at hl 3 rfl) ?_
    refine lv_iconst (v := 2) hx hb dX12_isPlain_23 (by decide) ?_
    obtain ⟨r_7, hc_8, hf⟩ := g_bindE hf
    refine x_calli (v := (X, M, τ)) (va_runV (As := [.int x1, .int x2, .int 2]) (rest := []) ⟨hx, hb, hml, hown, hts⟩ (ct_X12_part l G X M τ x1 x2 2 hc_8) (cwV 3 hts gd_X12_115 rfl rfl rfl hd_X12_part ⟨Nat.le_of_ble_eq_true rfl, Nat.le_of_ble_eq_true rfl⟩) (x_preV (u := (X, M, τ)) (k := 39) (ci := 12) hC hS hP Nat.zero_lt_one rfl rfl) rfl rfl hl.1 rfl (lv_room (Nat.le_of_ble_eq_true rfl)) dX12_isPlain_24 ⟨Nat.le_refl _, Nat.le_refl _⟩) hS (fun H locs hP hS => ?_)
    refine lv_istore (lv' := [(4, .int r_7), (3, .int r_5), (0, .ref (G.2.1 39 0)), (1, .int x1), (2, .int x2)]) hx hb dX12_isPlain_27 hl (by decide) rfl (fun ls hl => ?_)
    refine lv_iload_n hx hb dX12_isPlain_29 rfl (lv_at hl 1 rfl) ?_
    refine lv_bipush (v := 11) hx hb dX12_isPlain_30 (by decide) ?_
    refine lv_icmp_eq (tgt := 59) hx hb dX12_isPlain_32 (by decide) (fun hc_9 => ?_) (fun hc_9 => ?_)
    · have hf := g_pos hf hc_9
      refine lv_iconst (v := 0) hx hb dX12_isPlain_59 (by decide) ?_
      cases hf
      exact x_zret hx hb hlocks hC hP hS hr (Or.inl rfl) dX12_isPlain_60
    · have hf := g_neg hf hc_9
      refine lv_iload_n hx hb dX12_isPlain_35 rfl (lv_at hl 1 rfl) ?_
      refine lv_bipush (v := 13) hx hb dX12_isPlain_36 (by decide) ?_
      refine lv_icmp_eq (tgt := 59) hx hb dX12_isPlain_38 (by decide) (fun hc_10 => ?_) (fun hc_10 => ?_)
      · have hf := g_pos hf hc_10
        refine lv_iconst (v := 0) hx hb dX12_isPlain_59 (by decide) ?_
        cases hf
        exact x_zret hx hb hlocks hC hP hS hr (Or.inl rfl) dX12_isPlain_60
      · have hf := g_neg hf hc_10
        refine lv_iload_n hx hb dX12_isPlain_41 rfl (lv_at hl 1 rfl) ?_
        refine lv_bipush (v := 14) hx hb dX12_isPlain_42 (by decide) ?_
        refine lv_icmp_eq (tgt := 59) hx hb dX12_isPlain_44 (by decide) (fun hc_11 => ?_) (fun hc_11 => ?_)
        · have hf := g_pos hf hc_11
          refine lv_iconst (v := 0) hx hb dX12_isPlain_59 (by decide) ?_
          cases hf
          exact x_zret hx hb hlocks hC hP hS hr (Or.inl rfl) dX12_isPlain_60
        · have hf := g_neg hf hc_11
          refine lv_iload_n hx hb dX12_isPlain_47 rfl (lv_at hl 1 rfl) ?_
          refine lv_bipush (v := 16) hx hb dX12_isPlain_48 (by decide) ?_
          refine lv_icmp_lt (tgt := 61) hx hb dX12_isPlain_50 (by decide) (fun hc_12 => ?_) (fun hc_12 => ?_)
          · have hf := g_pos hf hc_12
            exact bk_X12_isPlain_61 C0 k2 hk2 x1 x2 r_5 r_7 M hf hP hS (lv_sub hl [2, 3, 4, 1, 0] rfl)
          · have hf := g_neg hf hc_12
            refine lv_iload_n hx hb dX12_isPlain_53 rfl (lv_at hl 1 rfl) ?_
            refine lv_bipush (v := 18) hx hb dX12_isPlain_54 (by decide) ?_
            refine lv_icmp_gt (tgt := 61) hx hb dX12_isPlain_56 (by decide) (fun hc_13 => ?_) (fun hc_13 => ?_)
            · have hf := g_pos hf hc_13
              exact bk_X12_isPlain_61 C0 k2 hk2 x1 x2 r_5 r_7 M hf hP hS (lv_sub hl [2, 3, 4, 1, 0] rfl)
            · have hf := g_neg hf hc_13
              refine lv_iconst (v := 0) hx hb dX12_isPlain_59 (by decide) ?_
              cases hf
              exact x_zret hx hb hlocks hC hP hS hr (Or.inl rfl) dX12_isPlain_60
def wl_X12_isPlain_2 (n : Nat) (x1 : Int32) (x2 : Int32) (M : SM) : Option (Int32) := g_loop (α := Int32 × Int32 × SM) (fun k a => wb_X12_isPlain_2 (fun x1 x2 M => k (x1, x2, M)) a.1 a.2.1 a.2.2) n (x1, x2, M)
set_option maxRecDepth 100000 in
set_option maxHeartbeats 4000000 in
theorem lp_X12_isPlain_2 {p : Program} {l : Launch} {e : Env} {s : State} {m : MethodId} {args : Array Value} {below : List Frame} {meth : Method} {c : Code} {G : GP} {X : SM} {τ : SL} (C0 : g_mc p s m args meth c RX12 cX12_isPlain (some .boolean) 7 G) {r0 : Int32} (n : Nat) : ∀ (x1 : Int32) (x2 : Int32) (M : SM), wl_X12_isPlain_2 n x1 x2 M = some r0 → ∀ {H : Heap} {locs : List Loc}, va_P G.1 g_cl (wd G (cb X M) τ) H → va_S (g_A G) s.heap H locs → ∀ {ls : Array Slot}, lv_has ls 7 [(0, .ref (G.2.1 39 0)), (1, .int x1), (2, .int x2)] → W p l e rm_X12_isPlain s m args below meth c H locs 0 0 (MQ below (va_Qi (fun r u => r = r0 ∧ u = (X, M, τ)) (g_pw G) (g_A G)) args s 0 0 (g_A G)) (F0 m 2 ls []) := by
  induction n with
  | zero =>
    intro x1 x2 M hf
    have hf : (none : Option (Int32)) = _ := hf
    cases hf
  | succ n ih =>
    intro x1 x2 M hf H locs hP hS ls hl
    exact bk_X12_isPlain_2 C0  (fun x1 x2 M => wl_X12_isPlain_2  n x1 x2 M) ih x1 x2 M hf hP hS hl
def fn_X12_isPlain (x1 : Int32) (M : SM) : Option (Int32) :=
  wl_X12_isPlain_2 1000 x1 0 M
set_option maxRecDepth 100000 in
set_option maxHeartbeats 4000000 in
theorem wk_X12_isPlain {p : Program} {l : Launch} {e : Env} {s : State} {m : MethodId} {args : Array Value} {below : List Frame} {meth : Method} {c : Code} {G : GP} {X : SM} {τ : SL} (C0 : g_mc p s m args meth c RX12 cX12_isPlain (some .boolean) 7 G) {r0 : Int32} (x1 : Int32) (M : SM) (hf : fn_X12_isPlain x1 M = some r0) {H : Heap} {locs : List Loc} (hP : va_P G.1 g_cl (wd G (cb X M) τ) H) (hS : va_S (g_A G) s.heap H locs) {ls : Array Slot} (hl : lv_has ls 7 [(0, .ref (G.2.1 39 0)), (1, .int x1)]) : W p l e rm_X12_isPlain s m args below meth c H locs 0 0 (MQ below (va_Qi (fun r u => r = r0 ∧ u = (X, M, τ)) (g_pw G) (g_A G)) args s 0 0 (g_A G)) (F0 m 0 ls []) := by
  obtain ⟨hx, hb, hr, hml, hown, hts, hlocks, hC⟩ := id C0
  unfold fn_X12_isPlain at hf
  refine lv_iconst (v := 0) hx hb dX12_isPlain_0 (by decide) ?_
  refine lv_istore_n (lv' := [(2, .int 0), (0, .ref (G.2.1 39 0)), (1, .int x1)]) hx hb dX12_isPlain_1 rfl hl (by decide) rfl (fun ls hl => ?_)
  exact lp_X12_isPlain_2 C0 1000 x1 0 M hf hP hS (lv_sub hl [1, 2, 0] rfl)
set_option maxRecDepth 100000 in
set_option maxHeartbeats 4000000 in
theorem ct_X12_isPlain (l : Launch) (G : GP) (X M : SM) (τ : SL) (x1 : Int32) {r0 : Int32} (hf : fn_X12_isPlain x1 M = some r0) : Met l yX12_isPlain (wz yX12_isPlain cX12_isPlain 7 (some .boolean)) rm_X12_isPlain (va_Pc [.ref (G.2.1 39 0), .int x1] (g_pw G (X, M, τ))) (va_Qi (fun r u => r = r0 ∧ u = (X, M, τ)) (g_pw G) (g_A G)) 0 0 (g_A G) := by
  refine Met.ofW (cc := cX12_isPlain) (maxL := 7) (ret := (some .boolean)) (by decide) rfl ?_
  intro p e s m args below meth c s₁ B hml hv
  obtain ⟨rfl, hC, hP⟩ := hv
  have C0 : g_mc p s m _ meth c RX12 cX12_isPlain (some .boolean) 7 G := ⟨B.exec, B.bytes, B.returns, hml, findClass_of_methodNamed B.named, fun w h => atoms_spec (ws := wz yX12_isPlain cX12_isPlain 7 (some .boolean)) B.pre w (List.mem_cons_of_mem _ h), B.notSynchronized, hC⟩
  have hl := lv_entry ([.ref (G.2.1 39 0), .int x1]) (n := 7) (Nat.le_of_ble_eq_true rfl)
  rw [lg_entry_eq]
  generalize (lg_sl ([.ref (G.2.1 39 0), .int x1]) ++ List.replicate (7 - (lg_sl ([.ref (G.2.1 39 0), .int x1])).length) Slot.unset).toArray = ls at hl ⊢
  exact wk_X12_isPlain C0 x1 M hf hP va_S.rf hl
