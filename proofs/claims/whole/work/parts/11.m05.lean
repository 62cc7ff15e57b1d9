abbrev rm_X12_asks : Room := { frames := 2, cells := 0, slots := 0, locals := 42 }
def fn_X12_asks (x1 : Int32) (x2 : Int32) (M : SM) : Option (Int32 × SM) :=
  g_let (u1 M 39 0 15 0) fun M_1 =>
  (fn_X12_isThread x1).bind fun r_2 =>
  if r_2 = 0 then
  (some ((-1), M_1))
  else
  (g_let (fn_X12_within x2 0 16) fun r_5 =>
    if r_5 = 0 then
    (some ((-1), M_1))
    else
    (if g_in x1 6 then
      g_let ((M_1 52 0 (x1.toNatClampNeg))) fun x3_9 =>
      if g_in x1 6 then
      g_let (u1 M_1 52 0 (x1.toNatClampNeg) x2) fun M_11 =>
      some (x3_9, M_11)
      else none
      else none))
set_option maxRecDepth 100000 in
set_option maxHeartbeats 4000000 in
theorem wk_X12_asks {p : Program} {l : Launch} {e : Env} {s : State} {m : MethodId} {args : Array Value} {below : List Frame} {meth : Method} {c : Code} {G : GP} {X : SM} {τ : SL} (C0 : g_mc p s m args meth c RX12 cX12_asks (some .int) 4 G) {r0 : Int32} {M0 : SM} (x1 : Int32) (x2 : Int32) (M : SM) (hf : fn_X12_asks x1 x2 M = some (r0, M0)) {H : Heap} {locs : List Loc} (hP : va_P G.1 g_cl (wd G (cb X M) τ) H) (hS : va_S (g_A G) s.heap H locs) {ls : Array Slot} (hl : lv_has ls 4 [(0, .ref (G.2.1 39 0)), (1, .int x1), (2, .int x2)]) : W p l e rm_X12_asks s m args below meth c H locs 0 0 (MQ below (va_Qi (fun r u => r = r0 ∧ u = (X, M0, τ)) (g_pw G) (g_A G)) args s 0 0 (g_A G)) (F0 m 0 ls []) := by
  obtain ⟨hx, hb, hr, hml, hown, hts, hlocks, hC⟩ := id C0
  unfold fn_X12_asks at hf
  refine lv_aload_n hx hb dX12_asks_0 rfl (lv_at hl 0 rfl) ?_
  refine lv_iconst (v := 0) hx hb dX12_asks_1 (by decide) ?_
  obtain ⟨M_1, eM_1, hf⟩ := g_letE hf
  refine pt_39_15 hx hb hts hown hC hP hS Nat.zero_lt_one q8_18 dX12_asks_2 (fun H locs hP hS => ?_)
  rw [eM_1] at hP
  refine lv_iload_n hx hb dX12_asks_5 rfl (lv_at hl 1 rfl) ?_
  obtain ⟨r_2, hc_3, hf⟩ := g_bindE hf
  refine x_calli (v := (X, M_1, τ)) (va_runS (As := [.int x1]) (rest := []) ⟨hx, hb, hml, hown, hts⟩ (ct_X12_isThread l G X M_1 τ x1 hc_3) (cwS 1 hts gd_X12_80 rfl rfl rfl hd_X12_isThread ⟨Nat.le_of_ble_eq_true rfl, Nat.le_of_ble_eq_true rfl⟩) (x_pre (u := (X, M_1, τ)) hC hS hP) rfl rfl hl.1 rfl (lv_room (Nat.le_of_ble_eq_true rfl)) dX12_asks_6 ⟨Nat.zero_le _, Nat.zero_le _⟩) hS (fun H locs hP hS => ?_)
  refine lv_if_eq (tgt := 22) hx hb dX12_asks_9 (by decide) (fun hc_4 => ?_) (fun hc_4 => ?_)
  · have hf := g_pos hf hc_4
    refine lv_iconst (v := (-1)) hx hb dX12_asks_22 (by decide) ?_
    cases hf
    exact x_iret hx hb hlocks hC hP hS hr dX12_asks_23
  · have hf := g_neg hf hc_4
    refine lv_iload_n hx hb dX12_asks_12 rfl (lv_at hl 2 rfl) ?_
    refine lv_iconst (v := 0) hx hb dX12_asks_13 (by decide) ?_
    refine lv_bipush (v := 16) hx hb dX12_asks_14 (by decide) ?_
    obtain ⟨r_5, hc_6, hf⟩ := g_letE hf
    refine x_calli (v := (X, M_1, τ)) (va_runS (As := [.int x2, .int 0, .int 16]) (rest := []) ⟨hx, hb, hml, hown, hts⟩ (ct_X12_within l G X M_1 τ x2 0 16 hc_6) (cwS 3 hts gd_X12_76 rfl rfl rfl hd_X12_within ⟨Nat.le_of_ble_eq_true rfl, Nat.le_of_ble_eq_true rfl⟩) (x_pre (u := (X, M_1, τ)) hC hS hP) rfl rfl hl.1 rfl (lv_room (Nat.le_of_ble_eq_true rfl)) dX12_asks_16 ⟨Nat.zero_le _, Nat.zero_le _⟩) hS (fun H locs hP hS => ?_)
    refine lv_if_ne (tgt := 24) hx hb dX12_asks_19 (by decide) (fun hc_7 => ?_) (fun hc_7 => ?_)
    · have hf := g_neg hf hc_7
      refine lv_aload_n hx hb dX12_asks_24 rfl (lv_at hl 0 rfl) ?_
      refine gt_39_14 hx hb hts hown hC hP Nat.zero_lt_one q7_7 dX12_asks_25 ?_
      refine lv_iload_n hx hb dX12_asks_28 rfl (lv_at hl 1 rfl) ?_
      obtain ⟨hg_8, hf⟩ := g_gd hf
      refine xildM (k := 52) (n := 6) hx hb hC hP (fun _ _ => rfl) rfl Nat.zero_lt_one hg_8 dX12_asks_29 ?_
      obtain ⟨x3_9, ex3_9, hf⟩ := g_letE hf
      refine lv_topE ex3_9 ?_
      refine lv_istore_n (lv' := [(3, .int x3_9), (0, .ref (G.2.1 39 0)), (1, .int x1), (2, .int x2)]) hx hb dX12_asks_30 rfl hl (by decide) rfl (fun ls hl => ?_)
      refine lv_aload_n hx hb dX12_asks_31 rfl (lv_at hl 1 rfl) ?_
      refine gt_39_14 hx hb hts hown hC hP Nat.zero_lt_one q7_7 dX12_asks_32 ?_
      refine lv_iload_n hx hb dX12_asks_35 rfl (lv_at hl 2 rfl) ?_
      refine lv_iload_n hx hb dX12_asks_36 rfl (lv_at hl 3 rfl) ?_
      obtain ⟨hg_10, hf⟩ := g_gd hf
      obtain ⟨M_11, eM_11, hf⟩ := g_letE hf
      refine xistM (k := 52) (n := 6) hx hb hC hP hS (fun _ _ => rfl) rfl Nat.zero_lt_one hg_10 dX12_asks_37 (fun H locs hP hS => ?_)
      rw [eM_11] at hP
      refine lv_iload_n hx hb dX12_asks_38 rfl (lv_at hl 0 rfl) ?_
      cases hf
      exact x_iret hx hb hlocks hC hP hS hr dX12_asks_39
    · have hf := g_pos hf hc_7
      refine lv_iconst (v := (-1)) hx hb dX12_asks_22 (by decide) ?_
      cases hf
      exact x_iret hx hb hlocks hC hP hS hr dX12_asks_23
set_option maxRecDepth 100000 in
set_option maxHeartbeats 4000000 in
theorem ct_X12_asks (l : Launch) (G : GP) (X M : SM) (τ : SL) (x1 : Int32) (x2 : Int32) {r0 : Int32} {M0 : SM} (hf : fn_X12_asks x1 x2 M = some (r0, M0)) : Met l yX12_asks (wz yX12_asks cX12_asks 4 (some .int)) rm_X12_asks (va_Pc [.ref (G.2.1 39 0), .int x1, .int x2] (g_pw G (X, M, τ))) (va_Qi (fun r u => r = r0 ∧ u = (X, M0, τ)) (g_pw G) (g_A G)) 0 0 (g_A G) := by
  refine Met.ofW (cc := cX12_asks) (maxL := 4) (ret := (some .int)) (by decide +kernel) rfl ?_
  intro p e s m args below meth c s₁ B hml hv
  obtain ⟨rfl, hC, hP⟩ := hv
  have C0 : g_mc p s m _ meth c RX12 cX12_asks (some .int) 4 G := ⟨B.exec, B.bytes, B.returns, hml, findClass_of_methodNamed B.named, fun w h => atoms_spec (ws := wz yX12_asks cX12_asks 4 (some .int)) B.pre w (List.mem_cons_of_mem _ h), B.notSynchronized, hC⟩
  have hl := lv_entry ([.ref (G.2.1 39 0), .int x1, .int x2]) (n := 4) (Nat.le_of_ble_eq_true rfl)
  rw [lg_entry_eq]
  generalize (lg_sl ([.ref (G.2.1 39 0), .int x1, .int x2]) ++ List.replicate (4 - (lg_sl ([.ref (G.2.1 39 0), .int x1, .int x2])).length) Slot.unset).toArray = ls at hl ⊢
  exact wk_X12_asks C0  x1 x2 M hf hP va_S.rf hl
abbrev rm_X12_begins : Room := { frames := 0, cells := 0, slots := 0, locals := 0 }
def wb_X12_begins_24 (k24 : Int32 → SM → Option (SM)) (x1 : Int32) (M : SM) : Option (SM) :=
  if 6 ≤ x1 then
  (g_let (u1 M 40 0 (Int32.toNatClampNeg 684) (-1)) fun M_6 =>
    some M_6)
  else
  (if g_in (468 + x1) 693 then
    g_let (u1 M 40 0 ((468 + x1).toNatClampNeg) (-1)) fun M_8 =>
    g_let (x1 + 1) fun x1_9 =>
    k24 x1_9 M_8
    else none)
set_option maxRecDepth 100000 in
set_option maxHeartbeats 4000000 in
theorem bk_X12_begins_24 {p : Program} {l : Launch} {e : Env} {s : State} {m : MethodId} {args : Array Value} {below : List Frame} {meth : Method} {c : Code} {G : GP} {X : SM} {τ : SL} (C0 : g_mc p s m args meth c RX12 cX12_begins none 2 G) {M0 : SM} (k24 : Int32 → SM → Option (SM)) (hk24 : ∀ (x1 : Int32) (M : SM), k24 x1 M = some M0 → ∀ {H : Heap} {locs : List Loc}, va_P G.1 g_cl (wd G (cb X M) τ) H → va_S (g_A G) s.heap H locs → ∀ {ls : Array Slot}, lv_has ls 2 [(0, .ref (G.2.1 39 0)), (1, .int x1)] → W p l e rm_X12_begins s m args below meth c H locs 0 0 (MQ below (va_Qv (fun u => u = (X, M0, τ)) (g_pw G) (g_A G)) args s 0 0 (g_A G)) (F0 m 24 ls [])) (x1 : Int32) (M : SM) (hf : wb_X12_begins_24 k24 x1 M = some M0) {H : Heap} {locs : List Loc} (hP : va_P G.1 g_cl (wd G (cb X M) τ) H) (hS : va_S (g_A G) s.heap H locs) {ls : Array Slot} (hl : lv_has ls 2 [(0, .ref (G.2.1 39 0)), (1, .int x1)]) : W p l e rm_X12_begins s m args below meth c H locs 0 0 (MQ below (va_Qv (fun u => u = (X, M0, τ)) (g_pw G) (g_A G)) args s 0 0 (g_A G)) (F0 m 24 ls []) := by
  obtain ⟨hx, hb, hr, hml, hown, hts, hlocks, hC⟩ := id C0
  unfold wb_X12_begins_24 at hf
  refine lv_iload_n hx hb dX12_begins_24 rfl (lv_at hl 1 rfl) ?_
  refine lv_bipush (v := 6) hx hb dX12_begins_25 (by decide) ?_
  refine lv_icmp_ge (tgt := 47) hx hb dX12_begins_27 (by decide) (fun hc_5 => ?_) (fun hc_5 => ?_)
  · have hf := g_pos hf hc_5
    refine lv_aload_n hx hb dX12_begins_47 rfl (lv_at hl 0 rfl) ?_
    refine gt_39_0 hx hb hts hown hC hP Nat.zero_lt_one q6_17 dX12_begins_48 ?_
    refine lv_sipush (v := 684) hx hb dX12_begins_51 (by decide) ?_
    refine lv_iconst (v := (-1)) hx hb dX12_begins_54 (by decide) ?_
    obtain ⟨M_6, eM_6, hf⟩ := g_letE hf
    refine xistM (k := 40) (n := 693) hx hb hC hP hS (fun _ _ => rfl) rfl Nat.zero_lt_one (by decide) dX12_begins_55 (fun H locs hP hS => ?_)
    rw [eM_6] at hP
    cases hf
    exact x_vret hx hb hlocks hC hP hS hr dX12_begins_56
  · have hf := g_neg hf hc_5
    refine lv_aload_n hx hb dX12_begins_30 rfl (lv_at hl 0 rfl) ?_
    refine gt_39_0 hx hb hts hown hC hP Nat.zero_lt_one q6_17 dX12_begins_31 ?_
    refine lv_sipush (v := 468) hx hb dX12_begins_34 (by decide) ?_
    refine lv_iload_n hx hb dX12_begins_37 rfl (lv_at hl 1 rfl) ?_
    refine lv_iadd hx hb dX12_begins_38 ?_
    refine lv_iconst (v := (-1)) hx hb dX12_begins_39 (by decide) ?_
    obtain ⟨hg_7, hf⟩ := g_gd hf
    obtain ⟨M_8, eM_8, hf⟩ := g_letE hf
    refine xistM (k := 40) (n := 693) hx hb hC hP hS (fun _ _ => rfl) rfl Nat.zero_lt_one hg_7 dX12_begins_40 (fun H locs hP hS => ?_)
    rw [eM_8] at hP
    obtain ⟨x1_9, ex1_9, hf⟩ := g_letE hf
    refine lv_iinc (v := x1_9) (lv' := [(1, .int x1_9), (0, .ref (G.2.1 39 0))]) hx hb dX12_begins_41 hl (k := 1) rfl (by rw [← ex1_9]; rfl) (by decide) rfl (fun ls hl => ?_)
    refine lv_goto (tgt := 24) hx hb dX12_begins_44 (by decide) ?_
    exact hk24 x1_9 M_8 hf hP hS (lv_sub hl [1, 0] rfl)
def wl_X12_begins_24 (n : Nat) (x1 : Int32) (M : SM) : Option (SM) := g_loop (α := Int32 × SM) (fun k a => wb_X12_begins_24 (fun x1 M => k (x1, M)) a.1 a.2) n (x1, M)
set_option maxRecDepth 100000 in
set_option maxHeartbeats 4000000 in
theorem lp_X12_begins_24 {p : Program} {l : Launch} {e : Env} {s : State} {m : MethodId} {args : Array Value} {below : List Frame} {meth : Method} {c : Code} {G : GP} {X : SM} {τ : SL} (C0 : g_mc p s m args meth c RX12 cX12_begins none 2 G) {M0 : SM} (n : Nat) : ∀ (x1 : Int32) (M : SM), wl_X12_begins_24 n x1 M = some M0 → ∀ {H : Heap} {locs : List Loc}, va_P G.1 g_cl (wd G (cb X M) τ) H → va_S (g_A G) s.heap H locs → ∀ {ls : Array Slot}, lv_has ls 2 [(0, .ref (G.2.1 39 0)), (1, .int x1)] → W p l e rm_X12_begins s m args below meth c H locs 0 0 (MQ below (va_Qv (fun u => u = (X, M0, τ)) (g_pw G) (g_A G)) args s 0 0 (g_A G)) (F0 m 24 ls []) := by
  induction n with
  | zero =>
    intro x1 M hf
    have hf : (none : Option (SM)) = _ := hf
    cases hf
  | succ n ih =>
    intro x1 M hf H locs hP hS ls hl
    exact bk_X12_begins_24 C0   (fun x1 M => wl_X12_begins_24   n x1 M) ih x1 M hf hP hS hl
def wb_X12_begins_2 (k2 : Int32 → SM → Option (SM)) (x1 : Int32) (M : SM) : Option (SM) :=
  if 693 ≤ x1 then
  (wl_X12_begins_24 1000 0 M)
  else
  (if g_in x1 693 then
    g_let (u1 M 40 0 (x1.toNatClampNeg) 0) fun M_3 =>
    g_let (x1 + 1) fun x1_4 =>
    k2 x1_4 M_3
    else none)
set_option maxRecDepth 100000 in
set_option maxHeartbeats 4000000 in
theorem bk_X12_begins_2 {p : Program} {l : Launch} {e : Env} {s : State} {m : MethodId} {args : Array Value} {below : List Frame} {meth : Method} {c : Code} {G : GP} {X : SM} {τ : SL} (C0 : g_mc p s m args meth c RX12 cX12_begins none 2 G) {M0 : SM} (k2 : Int32 → SM → Option (SM)) (hk2 : ∀ (x1 : Int32) (M : SM), k2 x1 M = some M0 → ∀ {H : Heap} {locs : List Loc}, va_P G.1 g_cl (wd G (cb X M) τ) H → va_S (g_A G) s.heap H locs → ∀ {ls : Array Slot}, lv_has ls 2 [(0, .ref (G.2.1 39 0)), (1, .int x1)] → W p l e rm_X12_begins s m args below meth c H locs 0 0 (MQ below (va_Qv (fun u => u = (X, M0, τ)) (g_pw G) (g_A G)) args s 0 0 (g_A G)) (F0 m 2 ls [])) (x1 : Int32) (M : SM) (hf : wb_X12_begins_2 k2 x1 M = some M0) {H : Heap} {locs : List Loc} (hP : va_P G.1 g_cl (wd G (cb X M) τ) H) (hS : va_S (g_A G) s.heap H locs) {ls : Array Slot} (hl : lv_has ls 2 [(0, .ref (G.2.1 39 0)), (1, .int x1)]) : W p l e rm_X12_begins s m args below meth c H locs 0 0 (MQ below (va_Qv (fun u => u = (X, M0, τ)) (g_pw G) (g_A G)) args s 0 0 (g_A G)) (F0 m 2 ls []) := by
  obtain ⟨hx, hb, hr, hml, hown, hts, hlocks, hC⟩ := id C0
  unfold wb_X12_begins_2 at hf
  refine lv_iload_n hx hb dX12_begins_2 rfl (lv_at hl 1 rfl) ?_
  refine lv_sipush (v := 693) hx hb dX12_begins_3 (by decide) ?_
  refine lv_icmp_ge (tgt := 22) hx hb dX12_begins_6 (by decide) (fun hc_1 => ?_) (fun hc_1 => ?_)
  · have hf := g_pos hf hc_1
    refine lv_iconst (v := 0) hx hb dX12_begins_22 (by decide) ?_
    refine lv_istore_n (lv' := [(1, .int 0), (0, .ref (G.2.1 39 0))]) hx hb dX12_begins_23 rfl hl (by decide) rfl (fun ls hl => ?_)
    exact lp_X12_begins_24 C0 1000 0 M hf hP hS (lv_sub hl [1, 0] rfl)
  · have hf := g_neg hf hc_1
    refine lv_aload_n hx hb dX12_begins_9 rfl (lv_at hl 0 rfl) ?_
    refine gt_39_0 hx hb hts hown hC hP Nat.zero_lt_one q6_17 dX12_begins_10 ?_
    refine lv_iload_n hx hb dX12_begins_13 rfl (lv_at hl 1 rfl) ?_
    refine lv_iconst (v := 0) hx hb dX12_begins_14 (by decide) ?_
    obtain ⟨hg_2, hf⟩ := g_gd hf
    obtain ⟨M_3, eM_3, hf⟩ := g_letE hf
    refine xistM (k := 40) (n := 693) hx hb hC hP hS (fun _ _ => rfl) rfl Nat.zero_lt_one hg_2 dX12_begins_15 (fun H locs hP hS => ?_)
    rw [eM_3] at hP
    obtain ⟨x1_4, ex1_4, hf⟩ := g_letE hf
    refine lv_iinc (v := x1_4) (lv' := [(1, .int x1_4), (0, .ref (G.2.1 39 0))]) hx hb dX12_begins_16 hl (k := 1) rfl (by rw [← ex1_4]; rfl) (by decide) rfl (fun ls hl => ?_)
    refine lv_goto (tgt := 2) hx hb dX12_begins_19 (by decide) ?_
    exact hk2 x1_4 M_3 hf hP hS (lv_sub hl [1, 0] rfl)
def wl_X12_begins_2 (n : Nat) (x1 : Int32) (M : SM) : Option (SM) := g_loop (α := Int32 × SM) (fun k a => wb_X12_begins_2 (fun x1 M => k (x1, M)) a.1 a.2) n (x1, M)
set_option maxRecDepth 100000 in
set_option maxHeartbeats 4000000 in
theorem lp_X12_begins_2 {p : Program} {l : Launch} {e : Env} {s : State} {m : MethodId} {args : Array Value} {below : List Frame} {meth : Method} {c : Code} {G : GP} {X : SM} {τ : SL} (C0 : g_mc p s m args meth c RX12 cX12_begins none 2 G) {M0 : SM} (n : Nat) : ∀ (x1 : Int32) (M : SM), wl_X12_begins_2 n x1 M = some M0 → ∀ {H : Heap} {locs : List Loc}, va_P G.1 g_cl (wd G (cb X M) τ) H → va_S (g_A G) s.heap H locs → ∀ {ls : Array Slot}, lv_has ls 2 [(0, .ref (G.2.1 39 0)), (1, .int x1)] → W p l e rm_X12_begins s m args below meth c H locs 0 0 (MQ below (va_Qv (fun u => u = (X, M0, τ)) (g_pw G) (g_A G)) args s 0 0 (g_A G)) (F0 m 2 ls []) := by
  induction n with
  | zero =>
    intro x1 M hf
    have hf : (none : Option (SM)) = _ := hf
    cases hf
  | succ n ih =>
    intro x1 M hf H locs hP hS ls hl
    exact bk_X12_begins_2 C0   (fun x1 M => wl_X12_begins_2   n x1 M) ih x1 M hf hP hS hl
def fn_X12_begins (M : SM) : Option (SM) :=
  wl_X12_begins_2 1000 0 M
set_option maxRecDepth 100000 in
set_option maxHeartbeats 4000000 in
theorem wk_X12_begins {p : Program} {l : Launch} {e : Env} {s : State} {m : MethodId} {args : Array Value} {below : List Frame} {meth : Method} {c : Code} {G : GP} {X : SM} {τ : SL} (C0 : g_mc p s m args meth c RX12 cX12_begins none 2 G) {M0 : SM} (M : SM) (hf : fn_X12_begins M = some M0) {H : Heap} {locs : List Loc} (hP : va_P G.1 g_cl (wd G (cb X M) τ) H) (hS : va_S (g_A G) s.heap H locs) {ls : Array Slot} (hl : lv_has ls 2 [(0, .ref (G.2.1 39 0))]) : W p l e rm_X12_begins s m args below meth c H locs 0 0 (MQ below (va_Qv (fun u => u = (X, M0, τ)) (g_pw G) (g_A G)) args s 0 0 (g_A G)) (F0 m 0 ls []) := by
  obtain ⟨hx, hb, hr, hml, hown, hts, hlocks, hC⟩ := id C0
  unfold fn_X12_begins at hf
  refine lv_iconst (v := 0) hx hb dX12_begins_0 (by decide) ?_
  refine lv_istore_n (lv' := [(1, .int 0), (0, .ref (G.2.1 39 0))]) hx hb dX12_begins_1 rfl hl (by decide) rfl (fun ls hl => ?_)
  exact lp_X12_begins_2 C0 1000 0 M hf hP hS (lv_sub hl [1, 0] rfl)
set_option maxRecDepth 100000 in
set_option maxHeartbeats 4000000 in
theorem ct_X12_begins (l : Launch) (G : GP) (X M : SM) (τ : SL) {M0 : SM} (hf : fn_X12_begins M = some M0) : Met l yX12_begins (wz yX12_begins cX12_begins 2 none) rm_X12_begins (va_Pc [.ref (G.2.1 39 0)] (g_pw G (X, M, τ))) (va_Qv (fun u => u = (X, M0, τ)) (g_pw G) (g_A G)) 0 0 (g_A G) := by
  refine Met.ofW (cc := cX12_begins) (maxL := 2) (ret := none) (by decide +kernel) rfl ?_
  intro p e s m args below meth c s₁ B hml hv
  obtain ⟨rfl, hC, hP⟩ := hv
  have C0 : g_mc p s m _ meth c RX12 cX12_begins none 2 G := ⟨B.exec, B.bytes, B.returns, hml, findClass_of_methodNamed B.named, fun w h => atoms_spec (ws := wz yX12_begins cX12_begins 2 none) B.pre w (List.mem_cons_of_mem _ h), B.notSynchronized, hC⟩
  have hl := lv_entry ([.ref (G.2.1 39 0)]) (n := 2) (Nat.le_of_ble_eq_true rfl)
  rw [lg_entry_eq]
  generalize (lg_sl ([.ref (G.2.1 39 0)]) ++ List.replicate (2 - (lg_sl ([.ref (G.2.1 39 0)])).length) Slot.unset).toArray = ls at hl ⊢
  exact wk_X12_begins C0  M hf hP va_S.rf hl
abbrev rm_X12_hasSlot : Room := { frames := 0, cells := 0, slots := 0, locals := 0 }
def wb_X12_hasSlot_2 (k2 : Int32 → Int32 → SM → Option (Int32)) (x1 : Int32) (x2 : Int32) (M : SM) : Option (Int32) :=
  if (M 39 0 12) ≤ x2 then
  (some 0)
  else
  (if g_in x2 16 then
    if (M 50 0 (x2.toNatClampNeg)) = x1 then
    (some 1)
    else
    (g_let (x2 + 1) fun x2_4 =>
      k2 x1 x2_4 M)
    else none)
set_option maxRecDepth 100000 in
set_option maxHeartbeats 4000000 in
theorem bk_X12_hasSlot_2 {p : Program} {l : Launch} {e : Env} {s : State} {m : MethodId} {args : Array Value} {below : List Frame} {meth : Method} {c : Code} {G : GP} {X : SM} {τ : SL} (C0 : g_mc p s m args meth c RX12 cX12_hasSlot (some .boolean) 3 G) {r0 : Int32} (k2 : Int32 → Int32 → SM → Option (Int32)) (hk2 : ∀ (x1 : Int32) (x2 : Int32) (M : SM), k2 x1 x2 M = some r0 → ∀ {H : Heap} {locs : List Loc}, va_P G.1 g_cl (wd G (cb X M) τ) H → va_S (g_A G) s.heap H locs → ∀ {ls : Array Slot}, lv_has ls 3 [(0, .ref (G.2.1 39 0)), (1, .int x1), (2, .int x2)] → W p l e rm_X12_hasSlot s m args below meth c H locs 0 0 (MQ below (va_Qi (fun r u => r = r0 ∧ u = (X, M, τ)) (g_pw G) (g_A G)) args s 0 0 (g_A G)) (F0 m 2 ls [])) (x1 : Int32) (x2 : Int32) (M : SM) (hf : wb_X12_hasSlot_2 k2 x1 x2 M = some r0) {H : Heap} {locs : List Loc} (hP : va_P G.1 g_cl (wd G (cb X M) τ) H) (hS : va_S (g_A G) s.heap H locs) {ls : Array Slot} (hl : lv_has ls 3 [(0, .ref (G.2.1 39 0)), (1, .int x1), (2, .int x2)]) : W p l e rm_X12_hasSlot s m args below meth c H locs 0 0 (MQ below (va_Qi (fun r u => r = r0 ∧ u = (X, M, τ)) (g_pw G) (g_A G)) args s 0 0 (g_A G)) (F0 m 2 ls []) := by
  obtain ⟨hx, hb, hr, hml, hown, hts, hlocks, hC⟩ := id C0
  unfold wb_X12_hasSlot_2 at hf
  refine lv_iload_n hx hb dX12_hasSlot_2 rfl (lv_at hl 2 rfl) ?_
  refine lv_aload_n hx hb dX12_hasSlot_3 rfl (lv_at hl 0 rfl) ?_
  refine gt_39_12 hx hb hts hown hC hP Nat.zero_lt_one q7_5 dX12_hasSlot_4 ?_
  refine lv_icmp_ge (tgt := 28) hx hb dX12_hasSlot_7 (by decide) (fun hc_1 => ?_) (fun hc_1 => ?_)
  · have hf := g_pos hf hc_1
    refine lv_iconst (v := 0) hx hb dX12_hasSlot_28 (by decide) ?_
    cases hf
    exact x_zret hx hb hlocks hC hP hS hr (Or.inl rfl) dX12_hasSlot_29
  · have hf := g_neg hf hc_1
    refine lv_aload_n hx hb dX12_hasSlot_10 rfl (lv_at hl 0 rfl) ?_
    refine gt_39_11 hx hb hts hown hC hP Nat.zero_lt_one q7_4 dX12_hasSlot_11 ?_
    refine lv_iload_n hx hb dX12_hasSlot_14 rfl (lv_at hl 2 rfl) ?_
    obtain ⟨hg_2, hf⟩ := g_gd hf
    refine xildM (k := 50) (n := 16) hx hb hC hP (fun _ _ => rfl) rfl Nat.zero_lt_one hg_2 dX12_hasSlot_15 ?_
    refine lv_iload_n hx hb dX12_hasSlot_16 rfl (lv_at hl 1 rfl) ?_
    refine lv_icmp_ne (tgt := 22) hx hb dX12_hasSlot_17 (by decide) (fun hc_3 => ?_) (fun hc_3 => ?_)
    · have hf := g_neg hf hc_3
      obtain ⟨x2_4, ex2_4, hf⟩ := g_letE hf
      refine lv_iinc (v := x2_4) (lv' := [(2, .int x2_4), (0, .ref (G.2.1 39 0)), (1, .int x1)]) hx hb dX12_hasSlot_22 hl (k := 2) rfl (by rw [← ex2_4]; rfl) (by decide) rfl (fun ls hl => ?_)
      refine lv_goto (tgt := 2) hx hb dX12_hasSlot_25 (by decide) ?_
      exact hk2 x1 x2_4 M hf hP hS (lv_sub hl [1, 2, 0] rfl)
    · have hf := g_pos hf hc_3
      refine lv_iconst (v := 1) hx hb dX12_hasSlot_20 (by decide) ?_
      cases hf
      exact x_zret hx hb hlocks hC hP hS hr (Or.inr rfl) dX12_hasSlot_21
def wl_X12_hasSlot_2 (n : Nat) (x1 : Int32) (x2 : Int32) (M : SM) : Option (Int32) := g_loop (α := Int32 × Int32 × SM) (fun k a => wb_X12_hasSlot_2 (fun x1 x2 M => k (x1, x2, M)) a.1 a.2.1 a.2.2) n (x1, x2, M)
set_option maxRecDepth 100000 in
set_option maxHeartbeats 4000000 in
theorem lp_X12_hasSlot_2 {p : Program} {l : Launch} {e : Env} {s : State} {m : MethodId} {args : Array Value} {below : List Frame} {meth : Method} {c : Code} {G : GP} {X : SM} {τ : SL} (C0 : g_mc p s m args meth c RX12 cX12_hasSlot (some .boolean) 3 G) {r0 : Int32} (n : Nat) : ∀ (x1 : Int32) (x2 : Int32) (M : SM), wl_X12_hasSlot_2 n x1 x2 M = some r0 → ∀ {H : Heap} {locs : List Loc}, va_P G.1 g_cl (wd G (cb X M) τ) H → va_S (g_A G) s.heap H locs → ∀ {ls : Array Slot}, lv_has ls 3 [(0, .ref (G.2.1 39 0)), (1, .int x1), (2, .int x2)] → W p l e rm_X12_hasSlot s m args below meth c H locs 0 0 (MQ below (va_Qi (fun r u => r = r0 ∧ u = (X, M, τ)) (g_pw G) (g_A G)) args s 0 0 (g_A G)) (F0 m 2 ls []) := by
  induction n with
  | zero =>
    intro x1 x2 M hf
    have hf : (none : Option (Int32)) = _ := hf
    cases hf
  | succ n ih =>
    intro x1 x2 M hf H locs hP hS ls hl
    exact bk_X12_hasSlot_2 C0   (fun x1 x2 M => wl_X12_hasSlot_2   n x1 x2 M) ih x1 x2 M hf hP hS hl
def fn_X12_hasSlot (x1 : Int32) (M : SM) : Option (Int32) :=
  wl_X12_hasSlot_2 1000 x1 0 M
set_option maxRecDepth 100000 in
set_option maxHeartbeats 4000000 in
theorem wk_X12_hasSlot {p : Program} {l : Launch} {e : Env} {s : State} {m : MethodId} {args : Array Value} {below : List Frame} {meth : Method} {c : Code} {G : GP} {X : SM} {τ : SL} (C0 : g_mc p s m args meth c RX12 cX12_hasSlot (some .boolean) 3 G) {r0 : Int32} (x1 : Int32) (M : SM) (hf : fn_X12_hasSlot x1 M = some r0) {H : Heap} {locs : List Loc} (hP : va_P G.1 g_cl (wd G (cb X M) τ) H) (hS : va_S (g_A G) s.heap H locs) {ls : Array Slot} (hl : lv_has ls 3 [(0, .ref (G.2.1 39 0)), (1, .int x1)]) : W p l e rm_X12_hasSlot s m args below meth c H locs 0 0 (MQ below (va_Qi (fun r u => r = r0 ∧ u = (X, M, τ)) (g_pw G) (g_A G)) args s 0 0 (g_A G)) (F0 m 0 ls []) := by
  obtain ⟨hx, hb, hr, hml, hown, hts, hlocks, hC⟩ := id C0
  unfold fn_X12_hasSlot at hf
  refine lv_iconst (v := 0) hx hb dX12_hasSlot_0 (by decide) ?_
  refine lv_istore_n (lv' := [(2, .int 0), (0, .ref (G.2.1 39 0)), (1, .int x1)]) hx hb dX12_hasSlot_1 rfl hl (by decide) rfl (fun ls hl => ?_)
  exact lp_X12_hasSlot_2 C0 1000 x1 0 M hf hP hS (lv_sub hl [1, 2, 0] rfl)
set_option maxRecDepth 100000 in
set_option maxHeartbeats 4000000 in
theorem ct_X12_hasSlot (l : Launch) (G : GP) (X M : SM) (τ : SL) (x1 : Int32) {r0 : Int32} (hf : fn_X12_hasSlot x1 M = some r0) : Met l yX12_hasSlot (wz yX12_hasSlot cX12_hasSlot 3 (some .boolean)) rm_X12_hasSlot (va_Pc [.ref (G.2.1 39 0), .int x1] (g_pw G (X, M, τ))) (va_Qi (fun r u => r = r0 ∧ u = (X, M, τ)) (g_pw G) (g_A G)) 0 0 (g_A G) := by
  refine Met.ofW (cc := cX12_hasSlot) (maxL := 3) (ret := (some .boolean)) (by decide +kernel) rfl ?_
  intro p e s m args below meth c s₁ B hml hv
  obtain ⟨rfl, hC, hP⟩ := hv
  have C0 : g_mc p s m _ meth c RX12 cX12_hasSlot (some .boolean) 3 G := ⟨B.exec, B.bytes, B.returns, hml, findClass_of_methodNamed B.named, fun w h => atoms_spec (ws := wz yX12_hasSlot cX12_hasSlot 3 (some .boolean)) B.pre w (List.mem_cons_of_mem _ h), B.notSynchronized, hC⟩
  have hl := lv_entry ([.ref (G.2.1 39 0), .int x1]) (n := 3) (Nat.le_of_ble_eq_true rfl)
  rw [lg_entry_eq]
  generalize (lg_sl ([.ref (G.2.1 39 0), .int x1]) ++ List.replicate (3 - (lg_sl ([.ref (G.2.1 39 0), .int x1])).length) Slot.unset).toArray = ls at hl ⊢
  exact wk_X12_hasSlot C0  x1 M hf hP va_S.rf hl
abbrev rm_X12_isInLoop : Room := { frames := 1, cells := 0, slots := 0, locals := 23 }
def fn_X12_isInLoop (x1 : Int32) (x2 : Int32) (x3 : Int32) (M : SM) : Option (Int32) :=
  (fn_X12_part x1 x2 2 M).bind fun r_1 =>
  if x3 < r_1 then
  (some 0)
  else
  (if x2 < x3 then
    (some 0)
    else
    (some 1))
set_option maxRecDepth 100000 in
set_option maxHeartbeats 4000000 in
theorem wk_X12_isInLoop {p : Program} {l : Launch} {e : Env} {s : State} {m : MethodId} {args : Array Value} {below : List Frame} {meth : Method} {c : Code} {G : GP} {X : SM} {τ : SL} (C0 : g_mc p s m args meth c RX12 cX12_isInLoop (some .boolean) 4 G) {r0 : Int32} (x1 : Int32) (x2 : Int32) (x3 : Int32) (M : SM) (hf : fn_X12_isInLoop x1 x2 x3 M = some r0) {H : Heap} {locs : List Loc} (hP : va_P G.1 g_cl (wd G (cb X M) τ) H) (hS : va_S (g_A G) s.heap H locs) {ls : Array Slot} (hl : lv_has ls 4 [(0, .ref (G.2.1 39 0)), (1, .int x1), (2, .int x2), (3, .int x3)]) : W p l e rm_X12_isInLoop s m args below meth c H locs 0 0 (MQ below (va_Qi (fun r u => r = r0 ∧ u = (X, M, τ)) (g_pw G) (g_A G)) args s 0 0 (g_A G)) (F0 m 0 ls []) := by
  obtain ⟨hx, hb, hr, hml, hown, hts, hlocks, hC⟩ := id C0
  unfold fn_X12_isInLoop at hf
  refine lv_iload_n hx hb dX12_isInLoop_0 rfl (lv_at hl 3 rfl) ?_
  refine lv_aload_n hx hb dX12_isInLoop_1 rfl (lv_at hl 0 rfl) ?_
  refine lv_iload_n hx hb dX12_isInLoop_2 rfl (lv_at hl 1 rfl) ?_
  refine lv_iload_n hx hb dX12_isInLoop_3 rfl (lv_at hl 2 rfl) ?_
  refine lv_iconst (v := 2) hx hb dX12_isInLoop_4 (by decide) ?_
  obtain ⟨r_1, hc_2, hf⟩ := g_bindE hf
  refine x_calli (v := (X, M, τ)) (va_runV (As := [.int x1, .int x2, .int 2]) (rest := [.int x3]) ⟨hx, hb, hml, hown, hts⟩ (ct_X12_part l G X M τ x1 x2 2 hc_2) (cwV 3 hts gd_X12_115 rfl rfl rfl hd_X12_part ⟨Nat.le_of_ble_eq_true rfl, Nat.le_of_ble_eq_true rfl⟩) (x_preV (u := (X, M, τ)) (k := 39) (ci := 12) hC hS hP Nat.zero_lt_one rfl rfl) rfl rfl hl.1 rfl (lv_room (Nat.le_of_ble_eq_true rfl)) dX12_isInLoop_5 ⟨Nat.zero_le _, Nat.zero_le _⟩) hS (fun H locs hP hS => ?_)
  refine lv_icmp_lt (tgt := 20) hx hb dX12_isInLoop_8 (by decide) (fun hc_3 => ?_) (fun hc_3 => ?_)
  · have hf := g_pos hf hc_3
    refine lv_iconst (v := 0) hx hb dX12_isInLoop_20 (by decide) ?_
    cases hf
    exact x_zret hx hb hlocks hC hP hS hr (Or.inl rfl) dX12_isInLoop_21
  · have hf := g_neg hf hc_3
    refine lv_iload_n hx hb dX12_isInLoop_11 rfl (lv_at hl 3 rfl) ?_
    refine lv_iload_n hx hb dX12_isInLoop_12 rfl (lv_at hl 2 rfl) ?_
    refine lv_icmp_gt (tgt := 20) hx hb dX12_isInLoop_13 (by decide) (fun hc_4 => ?_) (fun hc_4 => ?_)
    · have hf := g_pos hf hc_4
      refine lv_iconst (v := 0) hx hb dX12_isInLoop_20 (by decide) ?_
      cases hf
      exact x_zret hx hb hlocks hC hP hS hr (Or.inl rfl) dX12_isInLoop_21
    · have hf := g_neg hf hc_4
      refine lv_iconst (v := 1) hx hb dX12_isInLoop_16 (by decide) ?_
      refine lv_goto (tgt := 21) hx hb dX12_isInLoop_17 (by decide) ?_
      cases hf
      exact x_zret hx hb hlocks hC hP hS hr (Or.inr rfl) dX12_isInLoop_21
set_option maxRecDepth 100000 in
set_option maxHeartbeats 4000000 in
theorem ct_X12_isInLoop (l : Launch) (G : GP) (X M : SM) (τ : SL) (x1 : Int32) (x2 : Int32) (x3 : Int32) {r0 : Int32} (hf : fn_X12_isInLoop x1 x2 x3 M = some r0) : Met l yX12_isInLoop (wz yX12_isInLoop cX12_isInLoop 4 (some .boolean)) rm_X12_isInLoop (va_Pc [.ref (G.2.1 39 0), .int x1, .int x2, .int x3] (g_pw G (X, M, τ))) (va_Qi (fun r u => r = r0 ∧ u = (X, M, τ)) (g_pw G) (g_A G)) 0 0 (g_A G) := by
  refine Met.ofW (cc := cX12_isInLoop) (maxL := 4) (ret := (some .boolean)) (by decide +kernel) rfl ?_
  intro p e s m args below meth c s₁ B hml hv
  obtain ⟨rfl, hC, hP⟩ := hv
  have C0 : g_mc p s m _ meth c RX12 cX12_isInLoop (some .boolean) 4 G := ⟨B.exec, B.bytes, B.returns, hml, findClass_of_methodNamed B.named, fun w h => atoms_spec (ws := wz yX12_isInLoop cX12_isInLoop 4 (some .boolean)) B.pre w (List.mem_cons_of_mem _ h), B.notSynchronized, hC⟩
  have hl := lv_entry ([.ref (G.2.1 39 0), .int x1, .int x2, .int x3]) (n := 4) (Nat.le_of_ble_eq_true rfl)
  rw [lg_entry_eq]
  generalize (lg_sl ([.ref (G.2.1 39 0), .int x1, .int x2, .int x3]) ++ List.replicate (4 - (lg_sl ([.ref (G.2.1 39 0), .int x1, .int x2, .int x3])).length) Slot.unset).toArray = ls at hl ⊢
  exact wk_X12_isInLoop C0  x1 x2 x3 M hf hP va_S.rf hl
abbrev rm_X12_isFine : Room := { frames := 2, cells := 0, slots := 0, locals := 46 }
def fn_X12_isFine (x1 : Int32) (x2 : Int32) (x3 : Int32) (x4 : Int32) (M : SM) : Option (Int32) :=
  (fn_X12_isInLoop x1 x4 x2 M).bind fun r_1 =>
  if r_1 = 0 then
  ((fn_X12_isInLoop x1 x4 x3 M).bind fun r_4 =>
    if r_4 = 0 then
    (some 1)
    else
    ((fn_X12_part x1 x4 2 M).bind fun r_7 =>
      if x3 = r_7 then
      (some 1)
      else
      (some 0)))
  else
  (if x4 < x3 then
    (some 0)
    else
    (some 1))
set_option maxRecDepth 100000 in
set_option maxHeartbeats 4000000 in
theorem wk_X12_isFine {p : Program} {l : Launch} {e : Env} {s : State} {m : MethodId} {args : Array Value} {below : List Frame} {meth : Method} {c : Code} {G : GP} {X : SM} {τ : SL} (C0 : g_mc p s m args meth c RX12 cX12_isFine (some .boolean) 5 G) {r0 : Int32} (x1 : Int32) (x2 : Int32) (x3 : Int32) (x4 : Int32) (M : SM) (hf : fn_X12_isFine x1 x2 x3 x4 M = some r0) {H : Heap} {locs : List Loc} (hP : va_P G.1 g_cl (wd G (cb X M) τ) H) (hS : va_S (g_A G) s.heap H locs) {ls : Array Slot} (hl : lv_has ls 5 [(0, .ref (G.2.1 39 0)), (1, .int x1), (2, .int x2), (3, .int x3), (4, .int x4)]) : W p l e rm_X12_isFine s m args below meth c H locs 0 0 (MQ below (va_Qi (fun r u => r = r0 ∧ u = (X, M, τ)) (g_pw G) (g_A G)) args s 0 0 (g_A G)) (F0 m 0 ls []) := by
  obtain ⟨hx, hb, hr, hml, hown, hts, hlocks, hC⟩ := id C0
  unfold fn_X12_isFine at hf
  refine lv_aload_n hx hb dX12_isFine_0 rfl (lv_at hl 0 rfl) ?_
  refine lv_iload_n hx hb dX12_isFine_1 rfl (lv_at hl 1 rfl) ?_
  refine lv_iload hx hb dX12_isFine_2 (lv_at hl 4 rfl) ?_
  refine lv_iload_n hx hb dX12_isFine_4 rfl (lv_at hl 2 rfl) ?_
  obtain ⟨r_1, hc_2, hf⟩ := g_bindE hf
  refine x_calli (v := (X, M, τ)) (va_runV (As := [.int x1, .int x4, .int x2]) (rest := []) ⟨hx, hb, hml, hown, hts⟩ (ct_X12_isInLoop l G X M τ x1 x4 x2 hc_2) (cwV 3 hts gd_X12_179 rfl rfl rfl hd_X12_isInLoop ⟨Nat.le_of_ble_eq_true rfl, Nat.le_of_ble_eq_true rfl⟩) (x_preV (u := (X, M, τ)) (k := 39) (ci := 12) hC hS hP Nat.zero_lt_one rfl rfl) rfl rfl hl.1 rfl (lv_room (Nat.le_of_ble_eq_true rfl)) dX12_isFine_5 ⟨Nat.zero_le _, Nat.zero_le _⟩) hS (fun H locs hP hS => ?_)
  refine lv_if_eq (tgt := 23) hx hb dX12_isFine_8 (by decide) (fun hc_3 => ?_) (fun hc_3 => ?_)
  · have hf := g_pos hf hc_3
    refine lv_aload_n hx hb dX12_isFine_23 rfl (lv_at hl 0 rfl) ?_
    refine lv_iload_n hx hb dX12_isFine_24 rfl (lv_at hl 1 rfl) ?_
    refine lv_iload hx hb dX12_isFine_25 (lv_at hl 4 rfl) ?_
    refine lv_iload_n hx hb dX12_isFine_27 rfl (lv_at hl 3 rfl) ?_
    obtain ⟨r_4, hc_5, hf⟩ := g_bindE hf
    refine x_calli (v := (X, M, τ)) (va_runV (As := [.int x1, .int x4, .int x3]) (rest := []) ⟨hx, hb, hml, hown, hts⟩ (ct_X12_isInLoop l G X M τ x1 x4 x3 hc_5) (cwV 3 hts gd_X12_179 rfl rfl rfl hd_X12_isInLoop ⟨Nat.le_of_ble_eq_true rfl, Nat.le_of_ble_eq_true rfl⟩) (x_preV (u := (X, M, τ)) (k := 39) (ci := 12) hC hS hP Nat.zero_lt_one rfl rfl) rfl rfl hl.1 rfl (lv_room (Nat.le_of_ble_eq_true rfl)) dX12_isFine_28 ⟨Nat.zero_le _, Nat.zero_le _⟩) hS (fun H locs hP hS => ?_)
    refine lv_if_eq (tgt := 46) hx hb dX12_isFine_31 (by decide) (fun hc_6 => ?_) (fun hc_6 => ?_)
    · have hf := g_pos hf hc_6
      refine lv_iconst (v := 1) hx hb dX12_isFine_46 (by decide) ?_
      refine lv_goto (tgt := 51) hx hb dX12_isFine_47 (by decide) ?_
      cases hf
      exact x_zret hx hb hlocks hC hP hS hr (Or.inr rfl) dX12_isFine_51
    · have hf := g_neg hf hc_6
      refine lv_iload_n hx hb dX12_isFine_34 rfl (lv_at hl 3 rfl) ?_
      refine lv_aload_n hx hb dX12_isFine_35 rfl (lv_at hl 0 rfl) ?_
      refine lv_iload_n hx hb dX12_isFine_36 rfl (lv_at hl 1 rfl) ?_
      refine lv_iload hx hb dX12_isFine_37 (lv_at hl 4 rfl) ?_
      refine lv_iconst (v := 2) hx hb dX12_isFine_39 (by decide) ?_
      obtain ⟨r_7, hc_8, hf⟩ := g_bindE hf
      refine x_calli (v := (X, M, τ)) (va_runV (As := [.int x1, .int x4, .int 2]) (rest := [.int x3]) ⟨hx, hb, hml, hown, hts⟩ (ct_X12_part l G X M τ x1 x4 2 hc_8) (cwV 3 hts gd_X12_115 rfl rfl rfl hd_X12_part ⟨Nat.le_of_ble_eq_true rfl, Nat.le_of_ble_eq_true rfl⟩) (x_preV (u := (X, M, τ)) (k := 39) (ci := 12) hC hS hP Nat.zero_lt_one rfl rfl) rfl rfl hl.1 rfl (lv_room (Nat.le_of_ble_eq_true rfl)) dX12_isFine_40 ⟨Nat.zero_le _, Nat.zero_le _⟩) hS (fun H locs hP hS => ?_)
      refine lv_icmp_ne (tgt := 50) hx hb dX12_isFine_43 (by decide) (fun hc_9 => ?_) (fun hc_9 => ?_)
      · have hf := g_neg hf hc_9
        refine lv_iconst (v := 0) hx hb dX12_isFine_50 (by decide) ?_
        cases hf
        exact x_zret hx hb hlocks hC hP hS hr (Or.inl rfl) dX12_isFine_51
      · have hf := g_pos hf hc_9
        refine lv_iconst (v := 1) hx hb dX12_isFine_46 (by decide) ?_
        refine lv_goto (tgt := 51) hx hb dX12_isFine_47 (by decide) ?_
        cases hf
        exact x_zret hx hb hlocks hC hP hS hr (Or.inr rfl) dX12_isFine_51
  · have hf := g_neg hf hc_3
    refine lv_iload_n hx hb dX12_isFine_11 rfl (lv_at hl 3 rfl) ?_
    refine lv_iload hx hb dX12_isFine_12 (lv_at hl 4 rfl) ?_
    refine lv_icmp_gt (tgt := 21) hx hb dX12_isFine_14 (by decide) (fun hc_10 => ?_) (fun hc_10 => ?_)
    · have hf := g_pos hf hc_10
      refine lv_iconst (v := 0) hx hb dX12_isFine_21 (by decide) ?_
      cases hf
      exact x_zret hx hb hlocks hC hP hS hr (Or.inl rfl) dX12_isFine_22
    · have hf := g_neg hf hc_10
      refine lv_iconst (v := 1) hx hb dX12_isFine_17 (by decide) ?_
      refine lv_goto (tgt := 22) hx hb dX12_isFine_18 (by decide) ?_
      cases hf
      exact x_zret hx hb hlocks hC hP hS hr (Or.inr rfl) dX12_isFine_22
set_option maxRecDepth 100000 in
set_option maxHeartbeats 4000000 in
theorem ct_X12_isFine (l : Launch) (G : GP) (X M : SM) (τ : SL) (x1 : Int32) (x2 : Int32) (x3 : Int32) (x4 : Int32) {r0 : Int32} (hf : fn_X12_isFine x1 x2 x3 x4 M = some r0) : Met l yX12_isFine (wz yX12_isFine cX12_isFine 5 (some .boolean)) rm_X12_isFine (va_Pc [.ref (G.2.1 39 0), .int x1, .int x2, .int x3, .int x4] (g_pw G (X, M, τ))) (va_Qi (fun r u => r = r0 ∧ u = (X, M, τ)) (g_pw G) (g_A G)) 0 0 (g_A G) := by
  refine Met.ofW (cc := cX12_isFine) (maxL := 5) (ret := (some .boolean)) (by decide +kernel) rfl ?_
  intro p e s m args below meth c s₁ B hml hv
  obtain ⟨rfl, hC, hP⟩ := hv
  have C0 : g_mc p s m _ meth c RX12 cX12_isFine (some .boolean) 5 G := ⟨B.exec, B.bytes, B.returns, hml, findClass_of_methodNamed B.named, fun w h => atoms_spec (ws := wz yX12_isFine cX12_isFine 5 (some .boolean)) B.pre w (List.mem_cons_of_mem _ h), B.notSynchronized, hC⟩
  have hl := lv_entry ([.ref (G.2.1 39 0), .int x1, .int x2, .int x3, .int x4]) (n := 5) (Nat.le_of_ble_eq_true rfl)
  rw [lg_entry_eq]
  generalize (lg_sl ([.ref (G.2.1 39 0), .int x1, .int x2, .int x3, .int x4]) ++ List.replicate (5 - (lg_sl ([.ref (G.2.1 39 0), .int x1, .int x2, .int x3, .int x4])).length) Slot.unset).toArray = ls at hl ⊢
  exact wk_X12_isFine C0  x1 x2 x3 x4 M hf hP va_S.rf hl
abbrev rm_X12_isPlain : Room := { frames := 3, cells := 0, slots := 0, locals := 70 }
def wb_X12_isPlain_96 (k2 : Int32 → Int32 → SM → Option (Int32)) (k96 : Int32 → Int32 → Int32 → Int32 → Int32 → Int32 → SM → Option (Int32)) (x1 : Int32) (x2 : Int32) (x3 : Int32) (x4 : Int32) (x5 : Int32) (x6 : Int32) (M : SM) : Option (Int32) :=
  if g_in x1 6 then
  if (M 43 0 (x1.toNatClampNeg)) ≤ x6 then
  (g_let (x2 + 1) fun x2_23 =>
    k2 x1 x2_23 M)
  else
  ((fn_X12_part x1 x6 0 M).bind fun r_24 =>
    if r_24 = 9 then
    (if x5 = 0 then
      (if x3 = 9 then
        (if x2 ≤ x6 then
          (g_let (x6 + 1) fun x6_31 =>
            k96 x1 x2 x3 x4 x5 x6_31 M)
          else
          ((fn_X12_part x1 x6 2 M).bind fun r_32 =>
            if x4 ≤ r_32 then
            (g_let (x6 + 1) fun x6_35 =>
              k96 x1 x2 x3 x4 x5 x6_35 M)
            else
            (if x6 < x4 then
              (g_let (x6 + 1) fun x6_37 =>
                k96 x1 x2 x3 x4 x5 x6_37 M)
              else
              (some 0))))
        else
        (g_let (x6 + 1) fun x6_29 =>
          k96 x1 x2 x3 x4 x5 x6_29 M))
      else
      ((fn_X12_isFine x1 x2 x4 x6 M).bind fun r_38 =>
        if r_38 = 0 then
        (some 0)
        else
        (if x3 = 9 then
          (if x2 ≤ x6 then
            (g_let (x6 + 1) fun x6_44 =>
              k96 x1 x2 x3 x4 x5 x6_44 M)
            else
            ((fn_X12_part x1 x6 2 M).bind fun r_45 =>
              if x4 ≤ r_45 then
              (g_let (x6 + 1) fun x6_48 =>
                k96 x1 x2 x3 x4 x5 x6_48 M)
              else
              (if x6 < x4 then
                (g_let (x6 + 1) fun x6_50 =>
                  k96 x1 x2 x3 x4 x5 x6_50 M)
                else
                (some 0))))
          else
          (g_let (x6 + 1) fun x6_42 =>
            k96 x1 x2 x3 x4 x5 x6_42 M))))
    else
    (g_let (x6 + 1) fun x6_51 =>
      k96 x1 x2 x3 x4 x5 x6_51 M))
  else none
set_option maxRecDepth 100000 in
set_option maxHeartbeats 4000000 in
theorem bk_X12_isPlain_96 {p : Program} {l : Launch} {e : Env} {s : State} {m : MethodId} {args : Array Value} {below : List Frame} {meth : Method} {c : Code} {G : GP} {X : SM} {τ : SL} (C0 : g_mc p s m args meth c RX12 cX12_isPlain (some .boolean) 7 G) {r0 : Int32} (k2 : Int32 → Int32 → SM → Option (Int32)) (hk2 : ∀ (x1 : Int32) (x2 : Int32) (M : SM), k2 x1 x2 M = some r0 → ∀ {H : Heap} {locs : List Loc}, va_P G.1 g_cl (wd G (cb X M) τ) H → va_S (g_A G) s.heap H locs → ∀ {ls : Array Slot}, lv_has ls 7 [(0, .ref (G.2.1 39 0)), (1, .int x1), (2, .int x2)] → W p l e rm_X12_isPlain s m args below meth c H locs 0 0 (MQ below (va_Qi (fun r u => r = r0 ∧ u = (X, M, τ)) (g_pw G) (g_A G)) args s 0 0 (g_A G)) (F0 m 2 ls [])) (k96 : Int32 → Int32 → Int32 → Int32 → Int32 → Int32 → SM → Option (Int32)) (hk96 : ∀ (x1 : Int32) (x2 : Int32) (x3 : Int32) (x4 : Int32) (x5 : Int32) (x6 : Int32) (M : SM), k96 x1 x2 x3 x4 x5 x6 M = some r0 → ∀ {H : Heap} {locs : List Loc}, va_P G.1 g_cl (wd G (cb X M) τ) H → va_S (g_A G) s.heap H locs → ∀ {ls : Array Slot}, lv_has ls 7 [(0, .ref (G.2.1 39 0)), (1, .int x1), (2, .int x2), (3, .int x3), (4, .int x4), (5, .int x5), (6, .int x6)] → W p l e rm_X12_isPlain s m args below meth c H locs 0 0 (MQ below (va_Qi (fun r u => r = r0 ∧ u = (X, M, τ)) (g_pw G) (g_A G)) args s 0 0 (g_A G)) (F0 m 96 ls [])) (x1 : Int32) (x2 : Int32) (x3 : Int32) (x4 : Int32) (x5 : Int32) (x6 : Int32) (M : SM) (hf : wb_X12_isPlain_96 k2 k96 x1 x2 x3 x4 x5 x6 M = some r0) {H : Heap} {locs : List Loc} (hP : va_P G.1 g_cl (wd G (cb X M) τ) H) (hS : va_S (g_A G) s.heap H locs) {ls : Array Slot} (hl : lv_has ls 7 [(0, .ref (G.2.1 39 0)), (1, .int x1), (2, .int x2), (3, .int x3), (4, .int x4), (5, .int x5), (6, .int x6)]) : W p l e rm_X12_isPlain s m args below meth c H locs 0 0 (MQ below (va_Qi (fun r u => r = r0 ∧ u = (X, M, τ)) (g_pw G) (g_A G)) args s 0 0 (g_A G)) (F0 m 96 ls []) := by
  obtain ⟨hx, hb, hr, hml, hown, hts, hlocks, hC⟩ := id C0
  unfold wb_X12_isPlain_96 at hf
  refine lv_iload hx hb dX12_isPlain_96 (lv_at hl 6 rfl) ?_
  refine lv_aload_n hx hb dX12_isPlain_98 rfl (lv_at hl 0 rfl) ?_
  refine gt_39_3 hx hb hts hown hC hP Nat.zero_lt_one q6_20 dX12_isPlain_99 ?_
  refine lv_iload_n hx hb dX12_isPlain_102 rfl (lv_at hl 1 rfl) ?_
  obtain ⟨hg_21, hf⟩ := g_gd hf
  refine xildM (k := 43) (n := 6) hx hb hC hP (fun _ _ => rfl) rfl Nat.zero_lt_one hg_21 dX12_isPlain_103 ?_
  refine lv_icmp_ge (tgt := 183) hx hb dX12_isPlain_104 (by decide) (fun hc_22 => ?_) (fun hc_22 => ?_)
  · have hf := g_pos hf hc_22
    obtain ⟨x2_23, ex2_23, hf⟩ := g_letE hf
    refine lv_iinc (v := x2_23) (lv' := [(2, .int x2_23), (0, .ref (G.2.1 39 0)), (1, .int x1), (3, .int x3), (4, .int x4), (5, .int x5), (6, .int x6)]) hx hb dX12_isPlain_183 hl (k := 2) rfl (by rw [← ex2_23]; rfl) (by decide) rfl (fun ls hl => ?_)
    refine lv_goto (tgt := 2) hx hb dX12_isPlain_186 (by decide) ?_
    exact hk2 x1 x2_23 M hf hP hS (lv_sub hl [1, 2, 0] rfl)
  · have hf := g_neg hf hc_22
    refine lv_aload_n hx hb dX12_isPlain_107 rfl (lv_at hl 0 rfl) ?_
    refine lv_iload_n hx hb dX12_isPlain_108 rfl (lv_at hl 1 rfl) ?_
    refine lv_iload hx hb dX12_isPlain_109 (lv_at hl 6 rfl) ?_
    refine lv_iconst (v := 0) hx hb dX12_isPlain_111 (by decide) ?_
    obtain ⟨r_24, hc_25, hf⟩ := g_bindE hf
    refine x_calli (v := (X, M, τ)) (va_runV (As := [.int x1, .int x6, .int 0]) (rest := []) ⟨hx, hb, hml, hown, hts⟩ (ct_X12_part l G X M τ x1 x6 0 hc_25) (cwV 3 hts gd_X12_115 rfl rfl rfl hd_X12_part ⟨Nat.le_of_ble_eq_true rfl, Nat.le_of_ble_eq_true rfl⟩) (x_preV (u := (X, M, τ)) (k := 39) (ci := 12) hC hS hP Nat.zero_lt_one rfl rfl) rfl rfl hl.1 rfl (lv_room (Nat.le_of_ble_eq_true rfl)) dX12_isPlain_112 ⟨Nat.zero_le _, Nat.zero_le _⟩) hS (fun H locs hP hS => ?_)
    refine lv_bipush (v := 9) hx hb dX12_isPlain_115 (by decide) ?_
    refine lv_icmp_eq (tgt := 123) hx hb dX12_isPlain_117 (by decide) (fun hc_26 => ?_) (fun hc_26 => ?_)
    · have hf := g_pos hf hc_26
      refine lv_iload hx hb dX12_isPlain_123 (lv_at hl 5 rfl) ?_
      refine lv_if_eq (tgt := 143) hx hb dX12_isPlain_125 (by decide) (fun hc_27 => ?_) (fun hc_27 => ?_)
      · have hf := g_pos hf hc_27
        refine lv_iload_n hx hb dX12_isPlain_143 rfl (lv_at hl 3 rfl) ?_
        refine lv_bipush (v := 9) hx hb dX12_isPlain_144 (by decide) ?_
        refine lv_icmp_ne (tgt := 177) hx hb dX12_isPlain_146 (by decide) (fun hc_28 => ?_) (fun hc_28 => ?_)
        · have hf := g_neg hf hc_28
          obtain ⟨x6_29, ex6_29, hf⟩ := g_letE hf
          refine lv_iinc (v := x6_29) (lv' := [(6, .int x6_29), (0, .ref (G.2.1 39 0)), (1, .int x1), (2, .int x2), (3, .int x3), (4, .int x4), (5, .int x5)]) hx hb dX12_isPlain_177 hl (k := 6) rfl (by rw [← ex6_29]; rfl) (by decide) rfl (fun ls hl => ?_)
          refine lv_goto (tgt := 96) hx hb dX12_isPlain_180 (by decide) ?_
          exact hk96 x1 x2 x3 x4 x5 x6_29 M hf hP hS (lv_sub hl [1, 2, 3, 4, 5, 6, 0] rfl)
        · have hf := g_pos hf hc_28
          refine lv_iload hx hb dX12_isPlain_149 (lv_at hl 6 rfl) ?_
          refine lv_iload_n hx hb dX12_isPlain_151 rfl (lv_at hl 2 rfl) ?_
          refine lv_icmp_ge (tgt := 177) hx hb dX12_isPlain_152 (by decide) (fun hc_30 => ?_) (fun hc_30 => ?_)
          · have hf := g_pos hf hc_30
            obtain ⟨x6_31, ex6_31, hf⟩ := g_letE hf
            refine lv_iinc (v := x6_31) (lv' := [(6, .int x6_31), (0, .ref (G.2.1 39 0)), (1, .int x1), (2, .int x2), (3, .int x3), (4, .int x4), (5, .int x5)]) hx hb dX12_isPlain_177 hl (k := 6) rfl (by rw [← ex6_31]; rfl) (by decide) rfl (fun ls hl => ?_)
            refine lv_goto (tgt := 96) hx hb dX12_isPlain_180 (by decide) ?_
            exact hk96 x1 x2 x3 x4 x5 x6_31 M hf hP hS (lv_sub hl [1, 2, 3, 4, 5, 6, 0] rfl)
          · have hf := g_neg hf hc_30
            refine lv_iload hx hb dX12_isPlain_155 (lv_at hl 4 rfl) ?_
            refine lv_aload_n hx hb dX12_isPlain_157 rfl (lv_at hl 0 rfl) ?_
            refine lv_iload_n hx hb dX12_isPlain_158 rfl (lv_at hl 1 rfl) ?_
            refine lv_iload hx hb dX12_isPlain_159 (lv_at hl 6 rfl) ?_
            refine lv_iconst (v := 2) hx hb dX12_isPlain_161 (by decide) ?_
            obtain ⟨r_32, hc_33, hf⟩ := g_bindE hf
            refine x_calli (v := (X, M, τ)) (va_runV (As := [.int x1, .int x6, .int 2]) (rest := [.int x4]) ⟨hx, hb, hml, hown, hts⟩ (ct_X12_part l G X M τ x1 x6 2 hc_33) (cwV 3 hts gd_X12_115 rfl rfl rfl hd_X12_part ⟨Nat.le_of_ble_eq_true rfl, Nat.le_of_ble_eq_true rfl⟩) (x_preV (u := (X, M, τ)) (k := 39) (ci := 12) hC hS hP Nat.zero_lt_one rfl rfl) rfl rfl hl.1 rfl (lv_room (Nat.le_of_ble_eq_true rfl)) dX12_isPlain_162 ⟨Nat.zero_le _, Nat.zero_le _⟩) hS (fun H locs hP hS => ?_)
            refine lv_icmp_le (tgt := 177) hx hb dX12_isPlain_165 (by decide) (fun hc_34 => ?_) (fun hc_34 => ?_)
            · have hf := g_pos hf hc_34
              obtain ⟨x6_35, ex6_35, hf⟩ := g_letE hf
              refine lv_iinc (v := x6_35) (lv' := [(6, .int x6_35), (0, .ref (G.2.1 39 0)), (1, .int x1), (2, .int x2), (3, .int x3), (4, .int x4), (5, .int x5)]) hx hb dX12_isPlain_177 hl (k := 6) rfl (by rw [← ex6_35]; rfl) (by decide) rfl (fun ls hl => ?_)
              refine lv_goto (tgt := 96) hx hb dX12_isPlain_180 (by decide) ?_
              exact hk96 x1 x2 x3 x4 x5 x6_35 M hf hP hS (lv_sub hl [1, 2, 3, 4, 5, 6, 0] rfl)
            · have hf := g_neg hf hc_34
              refine lv_iload hx hb dX12_isPlain_168 (lv_at hl 4 rfl) ?_
              refine lv_iload hx hb dX12_isPlain_170 (lv_at hl 6 rfl) ?_
              refine lv_icmp_gt (tgt := 177) hx hb dX12_isPlain_172 (by decide) (fun hc_36 => ?_) (fun hc_36 => ?_)
              · have hf := g_pos hf hc_36
                obtain ⟨x6_37, ex6_37, hf⟩ := g_letE hf
                refine lv_iinc (v := x6_37) (lv' := [(6, .int x6_37), (0, .ref (G.2.1 39 0)), (1, .int x1), (2, .int x2), (3, .int x3), (4, .int x4), (5, .int x5)]) hx hb dX12_isPlain_177 hl (k := 6) rfl (by rw [← ex6_37]; rfl) (by decide) rfl (fun ls hl => ?_)
                refine lv_goto (tgt := 96) hx hb dX12_isPlain_180 (by decide) ?_
                exact hk96 x1 x2 x3 x4 x5 x6_37 M hf hP hS (lv_sub hl [1, 2, 3, 4, 5, 6, 0] rfl)
              · have hf := g_neg hf hc_36
                refine lv_iconst (v := 0) hx hb dX12_isPlain_175 (by decide) ?_
                cases hf
                exact x_zret hx hb hlocks hC hP hS hr (Or.inl rfl) dX12_isPlain_176
      · have hf := g_neg hf hc_27
        refine lv_aload_n hx hb dX12_isPlain_128 rfl (lv_at hl 0 rfl) ?_
        refine lv_iload_n hx hb dX12_isPlain_129 rfl (lv_at hl 1 rfl) ?_
        refine lv_iload_n hx hb dX12_isPlain_130 rfl (lv_at hl 2 rfl) ?_
        refine lv_iload hx hb dX12_isPlain_131 (lv_at hl 4 rfl) ?_
        refine lv_iload hx hb dX12_isPlain_133 (lv_at hl 6 rfl) ?_
        obtain ⟨r_38, hc_39, hf⟩ := g_bindE hf
        refine x_calli (v := (X, M, τ)) (va_runV (As := [.int x1, .int x2, .int x4, .int x6]) (rest := []) ⟨hx, hb, hml, hown, hts⟩ (ct_X12_isFine l G X M τ x1 x2 x4 x6 hc_39) (cwV 4 hts gd_X12_182 rfl rfl rfl hd_X12_isFine ⟨Nat.le_of_ble_eq_true rfl, Nat.le_of_ble_eq_true rfl⟩) (x_preV (u := (X, M, τ)) (k := 39) (ci := 12) hC hS hP Nat.zero_lt_one rfl rfl) rfl rfl hl.1 rfl (lv_room (Nat.le_of_ble_eq_true rfl)) dX12_isPlain_135 ⟨Nat.zero_le _, Nat.zero_le _⟩) hS (fun H locs hP hS => ?_)
        refine lv_if_ne (tgt := 143) hx hb dX12_isPlain_138 (by decide) (fun hc_40 => ?_) (fun hc_40 => ?_)
        · have hf := g_neg hf hc_40
          refine lv_iload_n hx hb dX12_isPlain_143 rfl (lv_at hl 3 rfl) ?_
          refine lv_bipush (v := 9) hx hb dX12_isPlain_144 (by decide) ?_
          refine lv_icmp_ne (tgt := 177) hx hb dX12_isPlain_146 (by decide) (fun hc_41 => ?_) (fun hc_41 => ?_)
          · have hf := g_neg hf hc_41
            obtain ⟨x6_42, ex6_42, hf⟩ := g_letE hf
            refine lv_iinc (v := x6_42) (lv' := [(6, .int x6_42), (0, .ref (G.2.1 39 0)), (1, .int x1), (2, .int x2), (3, .int x3), (4, .int x4), (5, .int x5)]) hx hb dX12_isPlain_177 hl (k := 6) rfl (by rw [← ex6_42]; rfl) (by decide) rfl (fun ls hl => ?_)
            refine lv_goto (tgt := 96) hx hb dX12_isPlain_180 (by decide) ?_
            exact hk96 x1 x2 x3 x4 x5 x6_42 M hf hP hS (lv_sub hl [1, 2, 3, 4, 5, 6, 0] rfl)
          · have hf := g_pos hf hc_41
            refine lv_iload hx hb dX12_isPlain_149 (lv_at hl 6 rfl) ?_
            refine lv_iload_n hx hb dX12_isPlain_151 rfl (lv_at hl 2 rfl) ?_
            refine lv_icmp_ge (tgt := 177) hx hb dX12_isPlain_152 (by decide) (fun hc_43 => ?_) (fun hc_43 => ?_)
            · have hf := g_pos hf hc_43
              obtain ⟨x6_44, ex6_44, hf⟩ := g_letE hf
              refine lv_iinc (v := x6_44) (lv' := [(6, .int x6_44), (0, .ref (G.2.1 39 0)), (1, .int x1), (2, .int x2), (3, .int x3), (4, .int x4), (5, .int x5)]) hx hb dX12_isPlain_177 hl (k := 6) rfl (by rw [← ex6_44]; rfl) (by decide) rfl (fun ls hl => ?_)
              refine lv_goto (tgt := 96) hx hb dX12_isPlain_180 (by decide) ?_
              exact hk96 x1 x2 x3 x4 x5 x6_44 M hf hP hS (lv_sub hl [1, 2, 3, 4, 5, 6, 0] rfl)
            · have hf := g_neg hf hc_43
              refine lv_iload hx hb dX12_isPlain_155 (lv_at hl 4 rfl) ?_
              refine lv_aload_n hx hb dX12_isPlain_157 rfl (lv_at hl 0 rfl) ?_
              refine lv_iload_n hx hb dX12_isPlain_158 rfl (lv_at hl 1 rfl) ?_
              refine lv_iload hx hb dX12_isPlain_159 (lv_at hl 6 rfl) ?_
              refine lv_iconst (v := 2) hx hb dX12_isPlain_161 (by decide) ?_
              obtain ⟨r_45, hc_46, hf⟩ := g_bindE hf
              refine x_calli (v := (X, M, τ)) (va_runV (As := [.int x1, .int x6, .int 2]) (rest := [.int x4]) ⟨hx, hb, hml, hown, hts⟩ (ct_X12_part l G X M τ x1 x6 2 hc_46) (cwV 3 hts gd_X12_115 rfl rfl rfl hd_X12_part ⟨Nat.le_of_ble_eq_true rfl, Nat.le_of_ble_eq_true rfl⟩) (x_preV (u := (X, M, τ)) (k := 39) (ci := 12) hC hS hP Nat.zero_lt_one rfl rfl) rfl rfl hl.1 rfl (lv_room (Nat.le_of_ble_eq_true rfl)) dX12_isPlain_162 ⟨Nat.zero_le _, Nat.zero_le _⟩) hS (fun H locs hP hS => ?_)
              refine lv_icmp_le (tgt := 177) hx hb dX12_isPlain_165 (by decide) (fun hc_47 => ?_) (fun hc_47 => ?_)
              · have hf := g_pos hf hc_47
                obtain ⟨x6_48, ex6_48, hf⟩ := g_letE hf
                refine lv_iinc (v := x6_48) (lv' := [(6, .int x6_48), (0, .ref (G.2.1 39 0)), (1, .int x1), (2, .int x2), (3, .int x3), (4, .int x4), (5, .int x5)]) hx hb dX12_isPlain_177 hl (k := 6) rfl (by rw [← ex6_48]; rfl) (by decide) rfl (fun ls hl => ?_)
                refine lv_goto (tgt := 96) hx hb dX12_isPlain_180 (by decide) ?_
                exact hk96 x1 x2 x3 x4 x5 x6_48 M hf hP hS (lv_sub hl [1, 2, 3, 4, 5, 6, 0] rfl)
              · have hf := g_neg hf hc_47
                refine lv_iload hx hb dX12_isPlain_168 (lv_at hl 4 rfl) ?_
                refine lv_iload hx hb dX12_isPlain_170 (lv_at hl 6 rfl) ?_
                refine lv_icmp_gt (tgt := 177) hx hb dX12_isPlain_172 (by decide) (fun hc_49 => ?_) (fun hc_49 => ?_)
                · have hf := g_pos hf hc_49
                  obtain ⟨x6_50, ex6_50, hf⟩ := g_letE hf
                  refine lv_iinc (v := x6_50) (lv' := [(6, .int x6_50), (0, .ref (G.2.1 39 0)), (1, .int x1), (2, .int x2), (3, .int x3), (4, .int x4), (5, .int x5)]) hx hb dX12_isPlain_177 hl (k := 6) rfl (by rw [← ex6_50]; rfl) (by decide) rfl (fun ls hl => ?_)
                  refine lv_goto (tgt := 96) hx hb dX12_isPlain_180 (by decide) ?_
                  exact hk96 x1 x2 x3 x4 x5 x6_50 M hf hP hS (lv_sub hl [1, 2, 3, 4, 5, 6, 0] rfl)
                · have hf := g_neg hf hc_49
                  refine lv_iconst (v := 0) hx hb dX12_isPlain_175 (by decide) ?_
                  cases hf
                  exact x_zret hx hb hlocks hC hP hS hr (Or.inl rfl) dX12_isPlain_176
        · have hf := g_pos hf hc_40
          refine lv_iconst (v := 0) hx hb dX12_isPlain_141 (by decide) ?_
          cases hf
          exact x_zret hx hb hlocks hC hP hS hr (Or.inl rfl) dX12_isPlain_142
    · have hf := g_neg hf hc_26
      refine lv_goto (tgt := 177) hx hb dX12_isPlain_120 (by decide) ?_
      obtain ⟨x6_51, ex6_51, hf⟩ := g_letE hf
      refine lv_iinc (v := x6_51) (lv' := [(6, .int x6_51), (0, .ref (G.2.1 39 0)), (1, .int x1), (2, .int x2), (3, .int x3), (4, .int x4), (5, .int x5)]) hx hb dX12_isPlain_177 hl (k := 6) rfl (by rw [← ex6_51]; rfl) (by decide) rfl (fun ls hl => ?_)
      refine lv_goto (tgt := 96) hx hb dX12_isPlain_180 (by decide) ?_
      exact hk96 x1 x2 x3 x4 x5 x6_51 M hf hP hS (lv_sub hl [1, 2, 3, 4, 5, 6, 0] rfl)
def wl_X12_isPlain_96 (k2 : Int32 → Int32 → SM → Option (Int32)) (n : Nat) (x1 : Int32) (x2 : Int32) (x3 : Int32) (x4 : Int32) (x5 : Int32) (x6 : Int32) (M : SM) : Option (Int32) := g_loop (α := Int32 × Int32 × Int32 × Int32 × Int32 × Int32 × SM) (fun k a => wb_X12_isPlain_96 k2 (fun x1 x2 x3 x4 x5 x6 M => k (x1, x2, x3, x4, x5, x6, M)) a.1 a.2.1 a.2.2.1 a.2.2.2.1 a.2.2.2.2.1 a.2.2.2.2.2.1 a.2.2.2.2.2.2) n (x1, x2, x3, x4, x5, x6, M)
set_option maxRecDepth 100000 in
set_option maxHeartbeats 4000000 in
theorem lp_X12_isPlain_96 {p : Program} {l : Launch} {e : Env} {s : State} {m : MethodId} {args : Array Value} {below : List Frame} {meth : Method} {c : Code} {G : GP} {X : SM} {τ : SL} (C0 : g_mc p s m args meth c RX12 cX12_isPlain (some .boolean) 7 G) {r0 : Int32} (k2 : Int32 → Int32 → SM → Option (Int32)) (hk2 : ∀ (x1 : Int32) (x2 : Int32) (M : SM), k2 x1 x2 M = some r0 → ∀ {H : Heap} {locs : List Loc}, va_P G.1 g_cl (wd G (cb X M) τ) H → va_S (g_A G) s.heap H locs → ∀ {ls : Array Slot}, lv_has ls 7 [(0, .ref (G.2.1 39 0)), (1, .int x1), (2, .int x2)] → W p l e rm_X12_isPlain s m args below meth c H locs 0 0 (MQ below (va_Qi (fun r u => r = r0 ∧ u = (X, M, τ)) (g_pw G) (g_A G)) args s 0 0 (g_A G)) (F0 m 2 ls [])) (n : Nat) : ∀ (x1 : Int32) (x2 : Int32) (x3 : Int32) (x4 : Int32) (x5 : Int32) (x6 : Int32) (M : SM), wl_X12_isPlain_96 k2 n x1 x2 x3 x4 x5 x6 M = some r0 → ∀ {H : Heap} {locs : List Loc}, va_P G.1 g_cl (wd G (cb X M) τ) H → va_S (g_A G) s.heap H locs → ∀ {ls : Array Slot}, lv_has ls 7 [(0, .ref (G.2.1 39 0)), (1, .int x1), (2, .int x2), (3, .int x3), (4, .int x4), (5, .int x5), (6, .int x6)] → W p l e rm_X12_isPlain s m args below meth c H locs 0 0 (MQ below (va_Qi (fun r u => r = r0 ∧ u = (X, M, τ)) (g_pw G) (g_A G)) args s 0 0 (g_A G)) (F0 m 96 ls []) := by
  induction n with
  | zero =>
    intro x1 x2 x3 x4 x5 x6 M hf
    have hf : (none : Option (Int32)) = _ := hf
    cases hf
  | succ n ih =>
    intro x1 x2 x3 x4 x5 x6 M hf H locs hP hS ls hl
    exact bk_X12_isPlain_96 C0  k2 hk2 (fun x1 x2 x3 x4 x5 x6 M => wl_X12_isPlain_96  k2 n x1 x2 x3 x4 x5 x6 M) ih x1 x2 x3 x4 x5 x6 M hf hP hS hl
def wb_X12_isPlain_61 (k2 : Int32 → Int32 → SM → Option (Int32)) (x1 : Int32) (x2 : Int32) (x3 : Int32) (x4 : Int32) (M : SM) : Option (Int32) :=
  if x3 = 7 then
  (if x2 < x4 then
    (wl_X12_isPlain_96 k2 1000 x1 x2 x3 x4 1 0 M)
    else
    (some 0))
  else
  (if x3 = 8 then
    (if x2 < x4 then
      (wl_X12_isPlain_96 k2 1000 x1 x2 x3 x4 1 0 M)
      else
      (some 0))
    else
    (wl_X12_isPlain_96 k2 1000 x1 x2 x3 x4 0 0 M))
set_option maxRecDepth 100000 in
set_option maxHeartbeats 4000000 in
theorem bk_X12_isPlain_61 {p : Program} {l : Launch} {e : Env} {s : State} {m : MethodId} {args : Array Value} {below : List Frame} {meth : Method} {c : Code} {G : GP} {X : SM} {τ : SL} (C0 : g_mc p s m args meth c RX12 cX12_isPlain (some .boolean) 7 G) {r0 : Int32} (k2 : Int32 → Int32 → SM → Option (Int32)) (hk2 : ∀ (x1 : Int32) (x2 : Int32) (M : SM), k2 x1 x2 M = some r0 → ∀ {H : Heap} {locs : List Loc}, va_P G.1 g_cl (wd G (cb X M) τ) H → va_S (g_A G) s.heap H locs → ∀ {ls : Array Slot}, lv_has ls 7 [(0, .ref (G.2.1 39 0)), (1, .int x1), (2, .int x2)] → W p l e rm_X12_isPlain s m args below meth c H locs 0 0 (MQ below (va_Qi (fun r u => r = r0 ∧ u = (X, M, τ)) (g_pw G) (g_A G)) args s 0 0 (g_A G)) (F0 m 2 ls [])) (x1 : Int32) (x2 : Int32) (x3 : Int32) (x4 : Int32) (M : SM) (hf : wb_X12_isPlain_61 k2 x1 x2 x3 x4 M = some r0) {H : Heap} {locs : List Loc} (hP : va_P G.1 g_cl (wd G (cb X M) τ) H) (hS : va_S (g_A G) s.heap H locs) {ls : Array Slot} (hl : lv_has ls 7 [(0, .ref (G.2.1 39 0)), (1, .int x1), (2, .int x2), (3, .int x3), (4, .int x4)]) : W p l e rm_X12_isPlain s m args below meth c H locs 0 0 (MQ below (va_Qi (fun r u => r = r0 ∧ u = (X, M, τ)) (g_pw G) (g_A G)) args s 0 0 (g_A G)) (F0 m 61 ls []) := by
  obtain ⟨hx, hb, hr, hml, hown, hts, hlocks, hC⟩ := id C0
  unfold wb_X12_isPlain_61 at hf
  refine lv_iload_n hx hb dX12_isPlain_61 rfl (lv_at hl 3 rfl) ?_
  refine lv_bipush (v := 7) hx hb dX12_isPlain_62 (by decide) ?_
  refine lv_icmp_eq (tgt := 73) hx hb dX12_isPlain_64 (by decide) (fun hc_14 => ?_) (fun hc_14 => ?_)
  · have hf := g_pos hf hc_14
    refine lv_iconst (v := 1) hx hb dX12_isPlain_73 (by decide) ?_
    refine lv_goto (tgt := 78) hx hb dX12_isPlain_74 (by decide) ?_
    refine lv_istore (lv' := [(5, .int 1), (0, .ref (G.2.1 39 0)), (1, .int x1), (2, .int x2), (3, .int x3), (4, .int x4)]) hx hb dX12_isPlain_78 hl (by decide) rfl (fun ls hl => ?_)
    refine lv_iload hx hb dX12_isPlain_80 (lv_at hl 0 rfl) ?_
    refine lv_if_eq (tgt := 93) hx hb dX12_isPlain_82 (by decide) (fun h => absurd h (by decide)) (fun _ => ?_)
    refine lv_iload hx hb dX12_isPlain_85 (lv_at hl 5 rfl) ?_
    refine lv_iload_n hx hb dX12_isPlain_87 rfl (lv_at hl 3 rfl) ?_
    refine lv_icmp_gt (tgt := 93) hx hb dX12_isPlain_88 (by decide) (fun hc_16 => ?_) (fun hc_16 => ?_)
    · have hf := g_pos hf hc_16
      refine lv_iconst (v := 0) hx hb dX12_isPlain_93 (by decide) ?_
      refine lv_istore (lv' := [(6, .int 0), (5, .int 1), (0, .ref (G.2.1 39 0)), (1, .int x1), (2, .int x2), (3, .int x3), (4, .int x4)]) hx hb dX12_isPlain_94 hl (by decide) rfl (fun ls hl => ?_)
      exact lp_X12_isPlain_96 C0 k2 hk2 1000 x1 x2 x3 x4 1 0 M hf hP hS (lv_sub hl [2, 3, 4, 5, 6, 1, 0] rfl)
    · have hf := g_neg hf hc_16
      refine lv_iconst (v := 0) hx hb dX12_isPlain_91 (by decide) ?_
      cases hf
      exact x_zret hx hb hlocks hC hP hS hr (Or.inl rfl) dX12_isPlain_92
  · have hf := g_neg hf hc_14
    refine lv_iload_n hx hb dX12_isPlain_67 rfl (lv_at hl 3 rfl) ?_
    refine lv_bipush (v := 8) hx hb dX12_isPlain_68 (by decide) ?_
    refine lv_icmp_ne (tgt := 77) hx hb dX12_isPlain_70 (by decide) (fun hc_17 => ?_) (fun hc_17 => ?_)
    · have hf := g_neg hf hc_17
      refine lv_iconst (v := 0) hx hb dX12_isPlain_77 (by decide) ?_
      refine lv_istore (lv' := [(5, .int 0), (0, .ref (G.2.1 39 0)), (1, .int x1), (2, .int x2), (3, .int x3), (4, .int x4)]) hx hb dX12_isPlain_78 hl (by decide) rfl (fun ls hl => ?_)
      refine lv_iload hx hb dX12_isPlain_80 (lv_at hl 0 rfl) ?_
      refine lv_if_eq (tgt := 93) hx hb dX12_isPlain_82 (by decide) (fun _ => ?_) (fun h => absurd h (by decide))
      refine lv_iconst (v := 0) hx hb dX12_isPlain_93 (by decide) ?_
      refine lv_istore (lv' := [(6, .int 0), (5, .int 0), (0, .ref (G.2.1 39 0)), (1, .int x1), (2, .int x2), (3, .int x3), (4, .int x4)]) hx hb dX12_isPlain_94 hl (by decide) rfl (fun ls hl => ?_)
      exact lp_X12_isPlain_96 C0 k2 hk2 1000 x1 x2 x3 x4 0 0 M hf hP hS (lv_sub hl [2, 3, 4, 5, 6, 1, 0] rfl)
    · have hf := g_pos hf hc_17
      refine lv_iconst (v := 1) hx hb dX12_isPlain_73 (by decide) ?_
      refine lv_goto (tgt := 78) hx hb dX12_isPlain_74 (by decide) ?_
      refine lv_istore (lv' := [(5, .int 1), (0, .ref (G.2.1 39 0)), (1, .int x1), (2, .int x2), (3, .int x3), (4, .int x4)]) hx hb dX12_isPlain_78 hl (by decide) rfl (fun ls hl => ?_)
      refine lv_iload hx hb dX12_isPlain_80 (lv_at hl 0 rfl) ?_
      refine lv_if_eq (tgt := 93) hx hb dX12_isPlain_82 (by decide) (fun h => absurd h (by decide)) (fun _ => ?_)
      refine lv_iload hx hb dX12_isPlain_85 (lv_at hl 5 rfl) ?_
      refine lv_iload_n hx hb dX12_isPlain_87 rfl (lv_at hl 3 rfl) ?_
      refine lv_icmp_gt (tgt := 93) hx hb dX12_isPlain_88 (by decide) (fun hc_20 => ?_) (fun hc_20 => ?_)
      · have hf := g_pos hf hc_20
        refine lv_iconst (v := 0) hx hb dX12_isPlain_93 (by decide) ?_
        refine lv_istore (lv' := [(6, .int 0), (5, .int 1), (0, .ref (G.2.1 39 0)), (1, .int x1), (2, .int x2), (3, .int x3), (4, .int x4)]) hx hb dX12_isPlain_94 hl (by decide) rfl (fun ls hl => ?_)
        exact lp_X12_isPlain_96 C0 k2 hk2 1000 x1 x2 x3 x4 1 0 M hf hP hS (lv_sub hl [2, 3, 4, 5, 6, 1, 0] rfl)
      · have hf := g_neg hf hc_20
        refine lv_iconst (v := 0) hx hb dX12_isPlain_91 (by decide) ?_
        cases hf
        exact x_zret hx hb hlocks hC hP hS hr (Or.inl rfl) dX12_isPlain_92
def wb_X12_isPlain_2 (k2 : Int32 → Int32 → SM → Option (Int32)) (x1 : Int32) (x2 : Int32) (M : SM) : Option (Int32) :=
  if g_in x1 6 then
  if (M 43 0 (x1.toNatClampNeg)) ≤ x2 then
  (if g_in x1 6 then
    if (M 43 0 (x1.toNatClampNeg)) ≤ 0 then
    (some 0)
    else
    (some 1)
    else none)
  else
  ((fn_X12_part x1 x2 0 M).bind fun r_5 =>
    (fn_X12_part x1 x2 2 M).bind fun r_7 =>
    if r_5 = 11 then
    (some 0)
    else
    (if r_5 = 13 then
      (some 0)
      else
      (if r_5 = 14 then
        (some 0)
        else
        (if r_5 < 16 then
          (wb_X12_isPlain_61 k2 x1 x2 r_5 r_7 M)
          else
          (if 18 < r_5 then
            (wb_X12_isPlain_61 k2 x1 x2 r_5 r_7 M)
            else
            (some 0))))))
  else none
set_option maxRecDepth 100000 in
set_option maxHeartbeats 4000000 in
theorem bk_X12_isPlain_2 {p : Program} {l : Launch} {e : Env} {s : State} {m : MethodId} {args : Array Value} {below : List Frame} {meth : Method} {c : Code} {G : GP} {X : SM} {τ : SL} (C0 : g_mc p s m args meth c RX12 cX12_isPlain (some .boolean) 7 G) {r0 : Int32} (k2 : Int32 → Int32 → SM → Option (Int32)) (hk2 : ∀ (x1 : Int32) (x2 : Int32) (M : SM), k2 x1 x2 M = some r0 → ∀ {H : Heap} {locs : List Loc}, va_P G.1 g_cl (wd G (cb X M) τ) H → va_S (g_A G) s.heap H locs → ∀ {ls : Array Slot}, lv_has ls 7 [(0, .ref (G.2.1 39 0)), (1, .int x1), (2, .int x2)] → W p l e rm_X12_isPlain s m args below meth c H locs 0 0 (MQ below (va_Qi (fun r u => r = r0 ∧ u = (X, M, τ)) (g_pw G) (g_A G)) args s 0 0 (g_A G)) (F0 m 2 ls [])) (x1 : Int32) (x2 : Int32) (M : SM) (hf : wb_X12_isPlain_2 k2 x1 x2 M = some r0) {H : Heap} {locs : List Loc} (hP : va_P G.1 g_cl (wd G (cb X M) τ) H) (hS : va_S (g_A G) s.heap H locs) {ls : Array Slot} (hl : lv_has ls 7 [(0, .ref (G.2.1 39 0)), (1, .int x1), (2, .int x2)]) : W p l e rm_X12_isPlain s m args below meth c H locs 0 0 (MQ below (va_Qi (fun r u => r = r0 ∧ u = (X, M, τ)) (g_pw G) (g_A G)) args s 0 0 (g_A G)) (F0 m 2 ls []) := by
  obtain ⟨hx, hb, hr, hml, hown, hts, hlocks, hC⟩ := id C0
  unfold wb_X12_isPlain_2 at hf
  refine lv_iload_n hx hb dX12_isPlain_2 rfl (lv_at hl 2 rfl) ?_
  refine lv_aload_n hx hb dX12_isPlain_3 rfl (lv_at hl 0 rfl) ?_
  refine gt_39_3 hx hb hts hown hC hP Nat.zero_lt_one q6_20 dX12_isPlain_4 ?_
  refine lv_iload_n hx hb dX12_isPlain_7 rfl (lv_at hl 1 rfl) ?_
  obtain ⟨hg_1, hf⟩ := g_gd hf
  refine xildM (k := 43) (n := 6) hx hb hC hP (fun _ _ => rfl) rfl Nat.zero_lt_one hg_1 dX12_isPlain_8 ?_
  refine lv_icmp_ge (tgt := 189) hx hb dX12_isPlain_9 (by decide) (fun hc_2 => ?_) (fun hc_2 => ?_)
  · have hf := g_pos hf hc_2
    refine lv_aload_n hx hb dX12_isPlain_189 rfl (lv_at hl 0 rfl) ?_
    refine gt_39_3 hx hb hts hown hC hP Nat.zero_lt_one q6_20 dX12_isPlain_190 ?_
    refine lv_iload_n hx hb dX12_isPlain_193 rfl (lv_at hl 1 rfl) ?_
    obtain ⟨hg_3, hf⟩ := g_gd hf
    refine xildM (k := 43) (n := 6) hx hb hC hP (fun _ _ => rfl) rfl Nat.zero_lt_one hg_3 dX12_isPlain_194 ?_
    refine lv_if_le (tgt := 202) hx hb dX12_isPlain_195 (by decide) (fun hc_4 => ?_) (fun hc_4 => ?_)
    · have hf := g_pos hf hc_4
      refine lv_iconst (v := 0) hx hb dX12_isPlain_202 (by decide) ?_
      cases hf
      exact x_zret hx hb hlocks hC hP hS hr (Or.inl rfl) dX12_isPlain_203
    · have hf := g_neg hf hc_4
      refine lv_iconst (v := 1) hx hb dX12_isPlain_198 (by decide) ?_
      refine lv_goto (tgt := 203) hx hb dX12_isPlain_199 (by decide) ?_
      cases hf
      exact x_zret hx hb hlocks hC hP hS hr (Or.inr rfl) dX12_isPlain_203
  · have hf := g_neg hf hc_2
    refine lv_aload_n hx hb dX12_isPlain_12 rfl (lv_at hl 0 rfl) ?_
    refine lv_iload_n hx hb dX12_isPlain_13 rfl (lv_at hl 1 rfl) ?_
    refine lv_iload_n hx hb dX12_isPlain_14 rfl (lv_at hl 2 rfl) ?_
    refine lv_iconst (v := 0) hx hb dX12_isPlain_15 (by decide) ?_
    obtain ⟨r_5, hc_6, hf⟩ := g_bindE hf
    refine x_calli (v := (X, M, τ)) (va_runV (As := [.int x1, .int x2, .int 0]) (rest := []) ⟨hx, hb, hml, hown, hts⟩ (ct_X12_part l G X M τ x1 x2 0 hc_6) (cwV 3 hts gd_X12_115 rfl rfl rfl hd_X12_part ⟨Nat.le_of_ble_eq_true rfl, Nat.le_of_ble_eq_true rfl⟩) (x_preV (u := (X, M, τ)) (k := 39) (ci := 12) hC hS hP Nat.zero_lt_one rfl rfl) rfl rfl hl.1 rfl (lv_room (Nat.le_of_ble_eq_true rfl)) dX12_isPlain_16 ⟨Nat.zero_le _, Nat.zero_le _⟩) hS (fun H locs hP hS => ?_)
    refine lv_istore_n (lv' := [(3, .int r_5), (0, .ref (G.2.1 39 0)), (1, .int x1), (2, .int x2)]) hx hb dX12_isPlain_19 rfl hl (by decide) rfl (fun ls hl => ?_)
    refine lv_aload_n hx hb dX12_isPlain_20 rfl (lv_at hl 1 rfl) ?_
    refine lv_iload_n hx hb dX12_isPlain_21 rfl (lv_at hl 2 rfl) ?_
    refine lv_iload_n hx hb dX12_isPlain_22 rfl (lv_at hl 3 rfl) ?_
    refine lv_iconst (v := 2) hx hb dX12_isPlain_23 (by decide) ?_
    obtain ⟨r_7, hc_8, hf⟩ := g_bindE hf
    refine x_calli (v := (X, M, τ)) (va_runV (As := [.int x1, .int x2, .int 2]) (rest := []) ⟨hx, hb, hml, hown, hts⟩ (ct_X12_part l G X M τ x1 x2 2 hc_8) (cwV 3 hts gd_X12_115 rfl rfl rfl hd_X12_part ⟨Nat.le_of_ble_eq_true rfl, Nat.le_of_ble_eq_true rfl⟩) (x_preV (u := (X, M, τ)) (k := 39) (ci := 12) hC hS hP Nat.zero_lt_one rfl rfl) rfl rfl hl.1 rfl (lv_room (Nat.le_of_ble_eq_true rfl)) dX12_isPlain_24 ⟨Nat.zero_le _, Nat.zero_le _⟩) hS (fun H locs hP hS => ?_)
    refine lv_istore (lv' := [(4, .int r_7), (3, .int r_5), (0, .ref (G.2.1 39 0)), (1, .int x1), (2, .int x2)]) hx hb dX12_isPlain_27 hl (by decide) rfl (fun ls hl => ?_)
    refine lv_iload_n hx hb dX12_isPlain_29 rfl (lv_at hl 1 rfl) ?_
    refine lv_bipush (v := 11) hx hb dX12_isPlain_30 (by decide) ?_
    refine lv_icmp_eq (tgt := 59) hx hb dX12_isPlain_32 (by decide) (fun hc_9 => ?_) (fun hc_9 => ?_)
    · have hf := g_pos hf hc_9
      refine lv_iconst (v := 0) hx hb dX12_isPlain_59 (by decide) ?_
      cases hf
      exact x_zret hx hb hlocks hC hP hS hr (Or.inl rfl) dX12_isPlain_60
    · have hf := g_neg hf hc_9
      refine lv_iload_n hx hb dX12_isPlain_35 rfl (lv_at hl 1 rfl) ?_
      refine lv_bipush (v := 13) hx hb dX12_isPlain_36 (by decide) ?_
      refine lv_icmp_eq (tgt := 59) hx hb dX12_isPlain_38 (by decide) (fun hc_10 => ?_) (fun hc_10 => ?_)
      · have hf := g_pos hf hc_10
        refine lv_iconst (v := 0) hx hb dX12_isPlain_59 (by decide) ?_
        cases hf
        exact x_zret hx hb hlocks hC hP hS hr (Or.inl rfl) dX12_isPlain_60
      · have hf := g_neg hf hc_10
        refine lv_iload_n hx hb dX12_isPlain_41 rfl (lv_at hl 1 rfl) ?_
        refine lv_bipush (v := 14) hx hb dX12_isPlain_42 (by decide) ?_
        refine lv_icmp_eq (tgt := 59) hx hb dX12_isPlain_44 (by decide) (fun hc_11 => ?_) (fun hc_11 => ?_)
        · have hf := g_pos hf hc_11
          refine lv_iconst (v := 0) hx hb dX12_isPlain_59 (by decide) ?_
          cases hf
          exact x_zret hx hb hlocks hC hP hS hr (Or.inl rfl) dX12_isPlain_60
        · have hf := g_neg hf hc_11
          refine lv_iload_n hx hb dX12_isPlain_47 rfl (lv_at hl 1 rfl) ?_
          refine lv_bipush (v := 16) hx hb dX12_isPlain_48 (by decide) ?_
          refine lv_icmp_lt (tgt := 61) hx hb dX12_isPlain_50 (by decide) (fun hc_12 => ?_) (fun hc_12 => ?_)
          · have hf := g_pos hf hc_12
            exact bk_X12_isPlain_61 C0 k2 hk2 x1 x2 r_5 r_7 M hf hP hS (lv_sub hl [2, 3, 4, 1, 0] rfl)
          · have hf := g_neg hf hc_12
            refine lv_iload_n hx hb dX12_isPlain_53 rfl (lv_at hl 1 rfl) ?_
            refine lv_bipush (v := 18) hx hb dX12_isPlain_54 (by decide) ?_
            refine lv_icmp_gt (tgt := 61) hx hb dX12_isPlain_56 (by decide) (fun hc_13 => ?_) (fun hc_13 => ?_)
            · have hf := g_pos hf hc_13
              exact bk_X12_isPlain_61 C0 k2 hk2 x1 x2 r_5 r_7 M hf hP hS (lv_sub hl [2, 3, 4, 1, 0] rfl)
            · have hf := g_neg hf hc_13
              refine lv_iconst (v := 0) hx hb dX12_isPlain_59 (by decide) ?_
              cases hf
              exact x_zret hx hb hlocks hC hP hS hr (Or.inl rfl) dX12_isPlain_60
def wl_X12_isPlain_2 (n : Nat) (x1 : Int32) (x2 : Int32) (M : SM) : Option (Int32) := g_loop (α := Int32 × Int32 × SM) (fun k a => wb_X12_isPlain_2 (fun x1 x2 M => k (x1, x2, M)) a.1 a.2.1 a.2.2) n (x1, x2, M)
set_option maxRecDepth 100000 in
set_option maxHeartbeats 4000000 in
theorem lp_X12_isPlain_2 {p : Program} {l : Launch} {e : Env} {s : State} {m : MethodId} {args : Array Value} {below : List Frame} {meth : Method} {c : Code} {G : GP} {X : SM} {τ : SL} (C0 : g_mc p s m args meth c RX12 cX12_isPlain (some .boolean) 7 G) {r0 : Int32} (n : Nat) : ∀ (x1 : Int32) (x2 : Int32) (M : SM), wl_X12_isPlain_2 n x1 x2 M = some r0 → ∀ {H : Heap} {locs : List Loc}, va_P G.1 g_cl (wd G (cb X M) τ) H → va_S (g_A G) s.heap H locs → ∀ {ls : Array Slot}, lv_has ls 7 [(0, .ref (G.2.1 39 0)), (1, .int x1), (2, .int x2)] → W p l e rm_X12_isPlain s m args below meth c H locs 0 0 (MQ below (va_Qi (fun r u => r = r0 ∧ u = (X, M, τ)) (g_pw G) (g_A G)) args s 0 0 (g_A G)) (F0 m 2 ls []) := by
  induction n with
  | zero =>
    intro x1 x2 M hf
    have hf : (none : Option (Int32)) = _ := hf
    cases hf
  | succ n ih =>
    intro x1 x2 M hf H locs hP hS ls hl
    exact bk_X12_isPlain_2 C0   (fun x1 x2 M => wl_X12_isPlain_2   n x1 x2 M) ih x1 x2 M hf hP hS hl
def fn_X12_isPlain (x1 : Int32) (M : SM) : Option (Int32) :=
  wl_X12_isPlain_2 1000 x1 0 M
set_option maxRecDepth 100000 in
set_option maxHeartbeats 4000000 in
theorem wk_X12_isPlain {p : Program} {l : Launch} {e : Env} {s : State} {m : MethodId} {args : Array Value} {below : List Frame} {meth : Method} {c : Code} {G : GP} {X : SM} {τ : SL} (C0 : g_mc p s m args meth c RX12 cX12_isPlain (some .boolean) 7 G) {r0 : Int32} (x1 : Int32) (M : SM) (hf : fn_X12_isPlain x1 M = some r0) {H : Heap} {locs : List Loc} (hP : va_P G.1 g_cl (wd G (cb X M) τ) H) (hS : va_S (g_A G) s.heap H locs) {ls : Array Slot} (hl : lv_has ls 7 [(0, .ref (G.2.1 39 0)), (1, .int x1)]) : W p l e rm_X12_isPlain s m args below meth c H locs 0 0 (MQ below (va_Qi (fun r u => r = r0 ∧ u = (X, M, τ)) (g_pw G) (g_A G)) args s 0 0 (g_A G)) (F0 m 0 ls []) := by
  obtain ⟨hx, hb, hr, hml, hown, hts, hlocks, hC⟩ := id C0
  unfold fn_X12_isPlain at hf
  refine lv_iconst (v := 0) hx hb dX12_isPlain_0 (by decide) ?_
  refine lv_istore_n (lv' := [(2, .int 0), (0, .ref (G.2.1 39 0)), (1, .int x1)]) hx hb dX12_isPlain_1 rfl hl (by decide) rfl (fun ls hl => ?_)
  exact lp_X12_isPlain_2 C0 1000 x1 0 M hf hP hS (lv_sub hl [1, 2, 0] rfl)
set_option maxRecDepth 100000 in
set_option maxHeartbeats 4000000 in
theorem ct_X12_isPlain (l : Launch) (G : GP) (X M : SM) (τ : SL) (x1 : Int32) {r0 : Int32} (hf : fn_X12_isPlain x1 M = some r0) : Met l yX12_isPlain (wz yX12_isPlain cX12_isPlain 7 (some .boolean)) rm_X12_isPlain (va_Pc [.ref (G.2.1 39 0), .int x1] (g_pw G (X, M, τ))) (va_Qi (fun r u => r = r0 ∧ u = (X, M, τ)) (g_pw G) (g_A G)) 0 0 (g_A G) := by
  refine Met.ofW (cc := cX12_isPlain) (maxL := 7) (ret := (some .boolean)) (by decide +kernel) rfl ?_
  intro p e s m args below meth c s₁ B hml hv
  obtain ⟨rfl, hC, hP⟩ := hv
  have C0 : g_mc p s m _ meth c RX12 cX12_isPlain (some .boolean) 7 G := ⟨B.exec, B.bytes, B.returns, hml, findClass_of_methodNamed B.named, fun w h => atoms_spec (ws := wz yX12_isPlain cX12_isPlain 7 (some .boolean)) B.pre w (List.mem_cons_of_mem _ h), B.notSynchronized, hC⟩
  have hl := lv_entry ([.ref (G.2.1 39 0), .int x1]) (n := 7) (Nat.le_of_ble_eq_true rfl)
  rw [lg_entry_eq]
  generalize (lg_sl ([.ref (G.2.1 39 0), .int x1]) ++ List.replicate (7 - (lg_sl ([.ref (G.2.1 39 0), .int x1])).length) Slot.unset).toArray = ls at hl ⊢
  exact wk_X12_isPlain C0  x1 M hf hP va_S.rf hl
abbrev rm_X12_held : Room := { frames := 0, cells := 0, slots := 0, locals := 0 }
def fn_X12_held (x0 : Int64) : Int64 :=
  if (lg_cmp x0 999999) ≤ 0 then
  (x0)
  else
  (999999)
set_option maxRecDepth 100000 in
set_option maxHeartbeats 4000000 in
theorem wk_X12_held {p : Program} {l : Launch} {e : Env} {s : State} {m : MethodId} {args : Array Value} {below : List Frame} {meth : Method} {c : Code} {G : GP} {X : SM} {M : SM} {τ : SL} (C0 : g_mc p s m args meth c RX12 cX12_held (some .long) 2 G) {r0 : Int64} (x0 : Int64) (hf : fn_X12_held x0 = r0) {H : Heap} {locs : List Loc} (hP : va_P G.1 g_cl (wd G (cb X M) τ) H) (hS : va_S (g_A G) s.heap H locs) {ls : Array Slot} (hl : lv_has ls 2 [(0, .long x0)]) : W p l e rm_X12_held s m args below meth c H locs 0 0 (MQ below (va_Ql (fun r u => r = r0 ∧ u = (X, M, τ)) (g_pw G) (g_A G)) args s 0 0 (g_A G)) (F0 m 0 ls []) := by
  obtain ⟨hx, hb, hr, hml, hown, hts, hlocks, hC⟩ := id C0
  unfold fn_X12_held at hf
  refine lv_lload_n hx hb dX12_held_0 rfl (lv_at hl 0 rfl) ?_
  refine lv_ldc2 (v := 999999) hx hb hown (hts _ q39_19) dX12_held_1 ?_
  refine W.lcmp hx hb dX12_held_4 ?_
  refine lv_if_le (tgt := 14) hx hb dX12_held_5 (by decide) (fun hc_1 => ?_) (fun hc_1 => ?_)
  · have hf := g_pos hf hc_1
    refine lv_lload_n hx hb dX12_held_14 rfl (lv_at hl 0 rfl) ?_
    cases hf
    exact x_lret hx hb hlocks hC hP hS hr dX12_held_15
  · have hf := g_neg hf hc_1
    refine lv_ldc2 (v := 999999) hx hb hown (hts _ q39_19) dX12_held_8 ?_
    refine lv_goto (tgt := 15) hx hb dX12_held_11 (by decide) ?_
    cases hf
    exact x_lret hx hb hlocks hC hP hS hr dX12_held_15
set_option maxRecDepth 100000 in
set_option maxHeartbeats 4000000 in
theorem ct_X12_held (l : Launch) (G : GP) (X M : SM) (τ : SL) (x0 : Int64) {r0 : Int64} (hf : fn_X12_held x0 = r0) : Met l yX12_held (wz yX12_held cX12_held 2 (some .long)) rm_X12_held (va_Pc [.long x0] (g_pw G (X, M, τ))) (va_Ql (fun r u => r = r0 ∧ u = (X, M, τ)) (g_pw G) (g_A G)) 0 0 (g_A G) := by
  refine Met.ofW (cc := cX12_held) (maxL := 2) (ret := (some .long)) (by decide +kernel) rfl ?_
  intro p e s m args below meth c s₁ B hml hv
  obtain ⟨rfl, hC, hP⟩ := hv
  have C0 : g_mc p s m _ meth c RX12 cX12_held (some .long) 2 G := ⟨B.exec, B.bytes, B.returns, hml, findClass_of_methodNamed B.named, fun w h => atoms_spec (ws := wz yX12_held cX12_held 2 (some .long)) B.pre w (List.mem_cons_of_mem _ h), B.notSynchronized, hC⟩
  have hl := lv_entry ([.long x0]) (n := 2) (Nat.le_of_ble_eq_true rfl)
  rw [lg_entry_eq]
  generalize (lg_sl ([.long x0]) ++ List.replicate (2 - (lg_sl ([.long x0])).length) Slot.unset).toArray = ls at hl ⊢
  exact wk_X12_held C0  x0 hf hP va_S.rf hl
abbrev rm_X12_takesFrom (dp : Nat) : Room := { frames := dp + 1, cells := 0, slots := 0, locals := 32 * dp + 23 }
def wb_X12_takesFrom_247 (rc : Int32 → Int32 → Int32 → SM → SL → Option (Int64 × SL)) (x4 : Int32) (x7 : Int64) (M : SM) (τ : SL) : Option (Int64 × SL) :=
  g_let (fn_X12_held x7) fun r_59 =>
  if g_in x4 625 then
  g_let (ul1 τ 56 0 (x4.toNatClampNeg) r_59) fun τ_62 =>
  if g_in x4 625 then
  some ((τ_62 56 0 (x4.toNatClampNeg)), τ_62)
  else none
  else none
set_option maxRecDepth 100000 in
set_option maxHeartbeats 4000000 in
theorem bk_X12_takesFrom_247 {p : Program} {l : Launch} {e : Env} {s : State} {m : MethodId} {args : Array Value} {below : List Frame} {meth : Method} {c : Code} {G : GP} {X : SM} (C0 : g_mc p s m args meth c RX12 cX12_takesFrom (some .long) 13 G) {dp : Nat} (rc : Int32 → Int32 → Int32 → SM → SL → Option (Int64 × SL)) (hrc : ∀ (X M : SM) (τ : SL) (x1 : Int32) (x2 : Int32) (x3 : Int32) {r0 : Int64} {τ0 : SL}, rc x1 x2 x3 M τ = some (r0, τ0) → Met l yX12_takesFrom (wz yX12_takesFrom cX12_takesFrom 13 (some .long)) (rm_X12_takesFrom dp) (va_Pc [.ref (G.2.1 39 0), .int x1, .int x2, .int x3] (g_pw G (X, M, τ))) (va_Ql (fun r u => r = r0 ∧ u = (X, M, τ0)) (g_pw G) (g_A G)) 0 0 (g_A G)) {r0 : Int64} {τ0 : SL} (x4 : Int32) (x7 : Int64) (M : SM) (τ : SL) (hf : wb_X12_takesFrom_247 rc x4 x7 M τ = some (r0, τ0)) {H : Heap} {locs : List Loc} (hP : va_P G.1 g_cl (wd G (cb X M) τ) H) (hS : va_S (g_A G) s.heap H locs) {ls : Array Slot} (hl : lv_has ls 13 [(0, .ref (G.2.1 39 0)), (4, .int x4), (7, .long x7)]) : W p l e (rm_X12_takesFrom (dp + 1)) s m args below meth c H locs 0 0 (MQ below (va_Ql (fun r u => r = r0 ∧ u = (X, M, τ0)) (g_pw G) (g_A G)) args s 0 0 (g_A G)) (F0 m 247 ls []) := by
  obtain ⟨hx, hb, hr, hml, hown, hts, hlocks, hC⟩ := id C0
  unfold wb_X12_takesFrom_247 at hf
  refine lv_aload_n hx hb dX12_takesFrom_247 rfl (lv_at hl 0 rfl) ?_
  refine gt_39_19 hx hb hts hown hC hP Nat.zero_lt_one q7_11 dX12_takesFrom_248 ?_
  refine lv_iload hx hb dX12_takesFrom_251 (lv_at hl 1 rfl) ?_
  refine lv_lload hx hb dX12_takesFrom_253 (lv_at hl 2 rfl) ?_
  obtain ⟨r_59, hc_60, hf⟩ := g_letE hf
  refine x_calll (v := (X, M, τ)) (va_runS (As := [.long x7]) (rest := [.int x4, .ref (G.2.1 56 0)]) ⟨hx, hb, hml, hown, hts⟩ (ct_X12_held l G X M τ x7 hc_60) (cwS 1 hts gd_X12_192 rfl rfl rfl hd_X12_held ⟨by show 0 + 1 ≤ dp + 1 + 1; omega, by show 8 + (2 + 11) + 0 ≤ 32 * (dp + 1) + 23; omega⟩) (x_pre (u := (X, M, τ)) hC hS hP) rfl rfl hl.1 rfl (lv_room (Nat.le_of_ble_eq_true rfl)) dX12_takesFrom_255 ⟨Nat.zero_le _, Nat.zero_le _⟩) hS (fun H locs hP hS => ?_)
  obtain ⟨hg_61, hf⟩ := g_gd hf
  obtain ⟨τ_62, eτ_62, hf⟩ := g_letE hf
  refine xlst (k := 56) (n := 625) hx hb hC hP hS (fun _ _ => rfl) Nat.zero_lt_one hg_61 dX12_takesFrom_258 (fun H locs hP hS => ?_)
  rw [eτ_62] at hP
  refine lv_aload_n hx hb dX12_takesFrom_259 rfl (lv_at hl 0 rfl) ?_
  refine gt_39_19 hx hb hts hown hC hP Nat.zero_lt_one q7_11 dX12_takesFrom_260 ?_
  refine lv_iload hx hb dX12_takesFrom_263 (lv_at hl 1 rfl) ?_
  obtain ⟨hg_63, hf⟩ := g_gd hf
  refine xlld (k := 56) (n := 625) hx hb hC hP (fun _ _ => rfl) Nat.zero_lt_one hg_63 dX12_takesFrom_265 ?_
  cases hf
  exact x_lret hx hb hlocks hC hP hS hr dX12_takesFrom_266
def wb_X12_takesFrom_41 (rc : Int32 → Int32 → Int32 → SM → SL → Option (Int64 × SL)) (k41 : Int32 → Int32 → Int32 → Int32 → Int32 → Int32 → SM → SL → Option (Int64 × SL)) (x1 : Int32) (x2 : Int32) (x3 : Int32) (x4 : Int32) (x5 : Int32) (x6 : Int32) (M : SM) (τ : SL) : Option (Int64 × SL) :=
  if x3 ≤ x6 then
  ((fn_X12_part x1 x2 0 M).bind fun r_7 =>
    if x5 < 0 then
    (if r_7 = 7 then
      ((fn_X12_part x1 x2 2 M).bind fun r_31 =>
        (rc x1 r_31 x3 M τ).bind fun (r_33, τ_34) =>
        g_let ((1 + r_33)) fun x7_36 =>
        wb_X12_takesFrom_247 rc x4 x7_36 M τ_34)
      else
      (if r_7 = 8 then
        ((fn_X12_part x1 x2 2 M).bind fun r_16 =>
          (rc x1 r_16 x3 M τ).bind fun (r_18, τ_19) =>
          (rc x1 (x2 + 1) x3 M τ_19).bind fun (r_21, τ_22) =>
          if (lg_cmp r_18 r_21) ≤ 0 then
          (if 0 = (M 39 0 20) then
            (g_let ((1 + r_18)) fun x7_27 =>
              wb_X12_takesFrom_247 rc x4 x7_27 M τ_22)
            else
            (g_let ((1 + r_21)) fun x7_26 =>
              wb_X12_takesFrom_247 rc x4 x7_26 M τ_22))
          else
          (if 1 = (M 39 0 20) then
            (g_let ((1 + r_18)) fun x7_30 =>
              wb_X12_takesFrom_247 rc x4 x7_30 M τ_22)
            else
            (g_let ((1 + r_21)) fun x7_29 =>
              wb_X12_takesFrom_247 rc x4 x7_29 M τ_22)))
        else
        ((rc x1 (x2 + 1) x3 M τ).bind fun (r_12, τ_13) =>
          g_let ((1 + r_12)) fun x7_15 =>
          wb_X12_takesFrom_247 rc x4 x7_15 M τ_13)))
    else
    ((fn_X12_part x1 x5 1 M).bind fun r_37 =>
      (rc x1 x2 x5 M τ).bind fun (r_39, τ_40) =>
      g_let (fn_X12_held (r_39 + 1)) fun r_42 =>
      g_let (fn_X12_held ((Int32.toInt64 (r_37 + 1)) * r_42)) fun r_44 =>
      (rc x1 (x5 + 1) x3 M τ_40).bind fun (r_46, τ_47) =>
      g_let ((r_44 + r_46)) fun x7_49 =>
      wb_X12_takesFrom_247 rc x4 x7_49 M τ_47))
  else
  ((fn_X12_part x1 x6 0 M).bind fun r_50 =>
    if r_50 = 9 then
    ((fn_X12_part x1 x6 2 M).bind fun r_54 =>
      if r_54 = x2 then
      (g_let (x6 + 1) fun x6_58 =>
        k41 x1 x2 x3 x4 x6 x6_58 M τ)
      else
      (g_let (x6 + 1) fun x6_57 =>
        k41 x1 x2 x3 x4 x5 x6_57 M τ))
    else
    (g_let (x6 + 1) fun x6_53 =>
      k41 x1 x2 x3 x4 x5 x6_53 M τ))
set_option maxRecDepth 100000 in
set_option maxHeartbeats 4000000 in
theorem bk_X12_takesFrom_41 {p : Program} {l : Launch} {e : Env} {s : State} {m : MethodId} {args : Array Value} {below : List Frame} {meth : Method} {c : Code} {G : GP} {X : SM} (C0 : g_mc p s m args meth c RX12 cX12_takesFrom (some .long) 13 G) {dp : Nat} (rc : Int32 → Int32 → Int32 → SM → SL → Option (Int64 × SL)) (hrc : ∀ (X M : SM) (τ : SL) (x1 : Int32) (x2 : Int32) (x3 : Int32) {r0 : Int64} {τ0 : SL}, rc x1 x2 x3 M τ = some (r0, τ0) → Met l yX12_takesFrom (wz yX12_takesFrom cX12_takesFrom 13 (some .long)) (rm_X12_takesFrom dp) (va_Pc [.ref (G.2.1 39 0), .int x1, .int x2, .int x3] (g_pw G (X, M, τ))) (va_Ql (fun r u => r = r0 ∧ u = (X, M, τ0)) (g_pw G) (g_A G)) 0 0 (g_A G)) {r0 : Int64} {τ0 : SL} (k41 : Int32 → Int32 → Int32 → Int32 → Int32 → Int32 → SM → SL → Option (Int64 × SL)) (hk41 : ∀ (x1 : Int32) (x2 : Int32) (x3 : Int32) (x4 : Int32) (x5 : Int32) (x6 : Int32) (M : SM) (τ : SL), k41 x1 x2 x3 x4 x5 x6 M τ = some (r0, τ0) → ∀ {H : Heap} {locs : List Loc}, va_P G.1 g_cl (wd G (cb X M) τ) H → va_S (g_A G) s.heap H locs → ∀ {ls : Array Slot}, lv_has ls 13 [(0, .ref (G.2.1 39 0)), (1, .int x1), (2, .int x2), (3, .int x3), (4, .int x4), (5, .int x5), (6, .int x6)] → W p l e (rm_X12_takesFrom (dp + 1)) s m args below meth c H locs 0 0 (MQ below (va_Ql (fun r u => r = r0 ∧ u = (X, M, τ0)) (g_pw G) (g_A G)) args s 0 0 (g_A G)) (F0 m 41 ls [])) (x1 : Int32) (x2 : Int32) (x3 : Int32) (x4 : Int32) (x5 : Int32) (x6 : Int32) (M : SM) (τ : SL) (hf : wb_X12_takesFrom_41 rc k41 x1 x2 x3 x4 x5 x6 M τ = some (r0, τ0)) {H : Heap} {locs : List Loc} (hP : va_P G.1 g_cl (wd G (cb X M) τ) H) (hS : va_S (g_A G) s.heap H locs) {ls : Array Slot} (hl : lv_has ls 13 [(0, .ref (G.2.1 39 0)), (1, .int x1), (2, .int x2), (3, .int x3), (4, .int x4), (5, .int x5), (6, .int x6)]) : W p l e (rm_X12_takesFrom (dp + 1)) s m args below meth c H locs 0 0 (MQ below (va_Ql (fun r u => r = r0 ∧ u = (X, M, τ0)) (g_pw G) (g_A G)) args s 0 0 (g_A G)) (F0 m 41 ls []) := by
  obtain ⟨hx, hb, hr, hml, hown, hts, hlocks, hC⟩ := id C0
  unfold wb_X12_takesFrom_41 at hf
  refine lv_iload hx hb dX12_takesFrom_41 (lv_at hl 6 rfl) ?_
  refine lv_iload_n hx hb dX12_takesFrom_43 rfl (lv_at hl 3 rfl) ?_
  refine lv_icmp_ge (tgt := 82) hx hb dX12_takesFrom_44 (by decide) (fun hc_6 => ?_) (fun hc_6 => ?_)
  · have hf := g_pos hf hc_6
    refine lv_aload_n hx hb dX12_takesFrom_82 rfl (lv_at hl 0 rfl) ?_
    refine lv_iload_n hx hb dX12_takesFrom_83 rfl (lv_at hl 1 rfl) ?_
    refine lv_iload_n hx hb dX12_takesFrom_84 rfl (lv_at hl 2 rfl) ?_
    refine lv_iconst (v := 0) hx hb dX12_takesFrom_85 (by decide) ?_
    obtain ⟨r_7, hc_8, hf⟩ := g_bindE hf
    refine x_calli (v := (X, M, τ)) (va_runV (As := [.int x1, .int x2, .int 0]) (rest := []) ⟨hx, hb, hml, hown, hts⟩ (ct_X12_part l G X M τ x1 x2 0 hc_8) (cwV 3 hts gd_X12_115 rfl rfl rfl hd_X12_part ⟨by show 0 + 1 ≤ dp + 1 + 1; omega, by show 8 + (4 + 11) + 0 ≤ 32 * (dp + 1) + 23; omega⟩) (x_preV (u := (X, M, τ)) (k := 39) (ci := 12) hC hS hP Nat.zero_lt_one rfl rfl) rfl rfl hl.1 rfl (lv_room (Nat.le_of_ble_eq_true rfl)) dX12_takesFrom_86 ⟨Nat.zero_le _, Nat.zero_le _⟩) hS (fun H locs hP hS => ?_)
    refine lv_istore (lv' := [(6, .int r_7), (0, .ref (G.2.1 39 0)), (1, .int x1), (2, .int x2), (3, .int x3), (4, .int x4), (5, .int x5)]) hx hb dX12_takesFrom_89 hl (by decide) rfl (fun ls hl => ?_)
    refine lv_iload hx hb dX12_takesFrom_91 (lv_at hl 6 rfl) ?_
    refine lv_if_lt (tgt := 140) hx hb dX12_takesFrom_93 (by decide) (fun hc_9 => ?_) (fun hc_9 => ?_)
    · have hf := g_pos hf hc_9
      refine lv_iload hx hb dX12_takesFrom_140 (lv_at hl 0 rfl) ?_
      refine lv_bipush (v := 7) hx hb dX12_takesFrom_142 (by decide) ?_
      refine lv_icmp_ne (tgt := 167) hx hb dX12_takesFrom_144 (by decide) (fun hc_10 => ?_) (fun hc_10 => ?_)
      · have hf := g_neg hf hc_10
        refine lv_iload hx hb dX12_takesFrom_167 (lv_at hl 0 rfl) ?_
        refine lv_bipush (v := 8) hx hb dX12_takesFrom_169 (by decide) ?_
        refine lv_icmp_ne (tgt := 234) hx hb dX12_takesFrom_171 (by decide) (fun hc_11 => ?_) (fun hc_11 => ?_)
        · have hf := g_neg hf hc_11
          refine lv_lconst (v := 1) hx hb dX12_takesFrom_234 rfl ?_
          refine lv_aload_n hx hb dX12_takesFrom_235 rfl (lv_at hl 1 rfl) ?_
          refine lv_iload_n hx hb dX12_takesFrom_236 rfl (lv_at hl 2 rfl) ?_
          refine lv_iload_n hx hb dX12_takesFrom_237 rfl (lv_at hl 3 rfl) ?_
          refine lv_iconst (v := 1) hx hb dX12_takesFrom_238 (by decide) ?_
          refine lv_iadd hx hb dX12_takesFrom_239 ?_
          refine lv_iload_n hx hb dX12_takesFrom_240 rfl (lv_at hl 4 rfl) ?_
          obtain ⟨⟨r_12, τ_13⟩, hc_14, hf⟩ := g_bindE hf
          refine x_calll (v := (X, M, τ_13)) (va_runV (As := [.int x1, .int (x2 + 1), .int x3]) (rest := [.long 1]) ⟨hx, hb, hml, hown, hts⟩ (hrc X M τ x1 (x2 + 1) x3 hc_14) (cwV 3 hts gd_X12_188 rfl rfl rfl hd_X12_takesFrom ⟨by show dp + 1 + 1 ≤ dp + 1 + 1; omega, by show 8 + (13 + 11) + (32 * dp + 23) ≤ 32 * (dp + 1) + 23; omega⟩) (x_preV (u := (X, M, τ)) (k := 39) (ci := 12) hC hS hP Nat.zero_lt_one rfl rfl) rfl rfl hl.1 rfl (lv_room (Nat.le_of_ble_eq_true rfl)) dX12_takesFrom_241 ⟨Nat.zero_le _, Nat.zero_le _⟩) hS (fun H locs hP hS => ?_)
          refine lv_ladd hx hb dX12_takesFrom_244 ?_
          obtain ⟨x7_15, ex7_15, hf⟩ := g_letE hf
          refine lv_toplE ex7_15 ?_
          refine lv_lstore (lv' := [(7, .long x7_15), (6, .int r_7), (0, .ref (G.2.1 39 0)), (1, .int x1), (2, .int x2), (3, .int x3), (4, .int x4), (5, .int x5)]) hx hb dX12_takesFrom_245 hl (by decide) rfl (fun ls hl => ?_)
          exact bk_X12_takesFrom_247 C0 rc hrc x4 x7_15 M τ_13 hf hP hS (lv_sub hl [2, 6, 0] rfl)
        · have hf := g_pos hf hc_11
          refine lv_aload_n hx hb dX12_takesFrom_174 rfl (lv_at hl 1 rfl) ?_
          refine lv_iload_n hx hb dX12_takesFrom_175 rfl (lv_at hl 2 rfl) ?_
          refine lv_aload_n hx hb dX12_takesFrom_176 rfl (lv_at hl 1 rfl) ?_
          refine lv_iload_n hx hb dX12_takesFrom_177 rfl (lv_at hl 2 rfl) ?_
          refine lv_iload_n hx hb dX12_takesFrom_178 rfl (lv_at hl 3 rfl) ?_
          refine lv_iconst (v := 2) hx hb dX12_takesFrom_179 (by decide) ?_
          obtain ⟨r_16, hc_17, hf⟩ := g_bindE hf
          refine x_calli (v := (X, M, τ)) (va_runV (As := [.int x1, .int x2, .int 2]) (rest := [.int x1, .ref (G.2.1 39 0)]) ⟨hx, hb, hml, hown, hts⟩ (ct_X12_part l G X M τ x1 x2 2 hc_17) (cwV 3 hts gd_X12_115 rfl rfl rfl hd_X12_part ⟨by show 0 + 1 ≤ dp + 1 + 1; omega, by show 8 + (4 + 11) + 0 ≤ 32 * (dp + 1) + 23; omega⟩) (x_preV (u := (X, M, τ)) (k := 39) (ci := 12) hC hS hP Nat.zero_lt_one rfl rfl) rfl rfl hl.1 rfl (lv_room (Nat.le_of_ble_eq_true rfl)) dX12_takesFrom_180 ⟨Nat.zero_le _, Nat.zero_le _⟩) hS (fun H locs hP hS => ?_)
          refine lv_iload_n hx hb dX12_takesFrom_183 rfl (lv_at hl 4 rfl) ?_
          obtain ⟨⟨r_18, τ_19⟩, hc_20, hf⟩ := g_bindE hf
          refine x_calll (v := (X, M, τ_19)) (va_runV (As := [.int x1, .int r_16, .int x3]) (rest := []) ⟨hx, hb, hml, hown, hts⟩ (hrc X M τ x1 r_16 x3 hc_20) (cwV 3 hts gd_X12_188 rfl rfl rfl hd_X12_takesFrom ⟨by show dp + 1 + 1 ≤ dp + 1 + 1; omega, by show 8 + (13 + 11) + (32 * dp + 23) ≤ 32 * (dp + 1) + 23; omega⟩) (x_preV (u := (X, M, τ)) (k := 39) (ci := 12) hC hS hP Nat.zero_lt_one rfl rfl) rfl rfl hl.1 rfl (lv_room (Nat.le_of_ble_eq_true rfl)) dX12_takesFrom_184 ⟨Nat.zero_le _, Nat.zero_le _⟩) hS (fun H locs hP hS => ?_)
          refine lv_lstore (lv' := [(9, .long r_18), (6, .int r_7), (0, .ref (G.2.1 39 0)), (1, .int x1), (2, .int x2), (3, .int x3), (4, .int x4), (5, .int x5)]) hx hb dX12_takesFrom_187 hl (by decide) rfl (fun ls hl => ?_)
          refine lv_aload_n hx hb dX12_takesFrom_189 rfl (lv_at hl 2 rfl) ?_
          refine lv_iload_n hx hb dX12_takesFrom_190 rfl (lv_at hl 3 rfl) ?_
          refine lv_iload_n hx hb dX12_takesFrom_191 rfl (lv_at hl 4 rfl) ?_
          refine lv_iconst (v := 1) hx hb dX12_takesFrom_192 (by decide) ?_
          refine lv_iadd hx hb dX12_takesFrom_193 ?_
          refine lv_iload_n hx hb dX12_takesFrom_194 rfl (lv_at hl 5 rfl) ?_
          obtain ⟨⟨r_21, τ_22⟩, hc_23, hf⟩ := g_bindE hf
          refine x_calll (v := (X, M, τ_22)) (va_runV (As := [.int x1, .int (x2 + 1), .int x3]) (rest := []) ⟨hx, hb, hml, hown, hts⟩ (hrc X M τ_19 x1 (x2 + 1) x3 hc_23) (cwV 3 hts gd_X12_188 rfl rfl rfl hd_X12_takesFrom ⟨by show dp + 1 + 1 ≤ dp + 1 + 1; omega, by show 8 + (13 + 11) + (32 * dp + 23) ≤ 32 * (dp + 1) + 23; omega⟩) (x_preV (u := (X, M, τ_19)) (k := 39) (ci := 12) hC hS hP Nat.zero_lt_one rfl rfl) rfl rfl hl.1 rfl (lv_room (Nat.le_of_ble_eq_true rfl)) dX12_takesFrom_195 ⟨Nat.zero_le _, Nat.zero_le _⟩) hS (fun H locs hP hS => ?_)
          refine lv_lstore (lv' := [(11, .long r_21), (9, .long r_18), (6, .int r_7), (0, .ref (G.2.1 39 0)), (1, .int x1), (2, .int x2), (3, .int x3), (4, .int x4), (5, .int x5)]) hx hb dX12_takesFrom_198 hl (by decide) rfl (fun ls hl => ?_)
          refine lv_lconst (v := 1) hx hb dX12_takesFrom_200 rfl ?_
          refine lv_lload hx hb dX12_takesFrom_201 (lv_at hl 1 rfl) ?_
          refine lv_lload hx hb dX12_takesFrom_203 (lv_at hl 0 rfl) ?_
          refine W.lcmp hx hb dX12_takesFrom_205 ?_
          refine lv_if_le (tgt := 213) hx hb dX12_takesFrom_206 (by decide) (fun hc_24 => ?_) (fun hc_24 => ?_)
          · have hf := g_pos hf hc_24
            refine lv_iconst (v := 0) hx hb dX12_takesFrom_213 (by decide) ?_
            refine lv_aload_n hx hb dX12_takesFrom_214 rfl (lv_at hl 3 rfl) ?_
            refine gt_39_20 hx hb hts hown hC hP Nat.zero_lt_one q39_11 dX12_takesFrom_215 ?_
            refine lv_icmp_ne (tgt := 226) hx hb dX12_takesFrom_218 (by decide) (fun hc_25 => ?_) (fun hc_25 => ?_)
            · have hf := g_neg hf hc_25
              refine lv_lload hx hb dX12_takesFrom_226 (lv_at hl 0 rfl) ?_
              refine lv_ladd hx hb dX12_takesFrom_228 ?_
              obtain ⟨x7_26, ex7_26, hf⟩ := g_letE hf
              refine lv_toplE ex7_26 ?_
              refine lv_lstore (lv' := [(7, .long x7_26), (11, .long r_21), (9, .long r_18), (6, .int r_7), (0, .ref (G.2.1 39 0)), (1, .int x1), (2, .int x2), (3, .int x3), (4, .int x4), (5, .int x5)]) hx hb dX12_takesFrom_229 hl (by decide) rfl (fun ls hl => ?_)
              refine lv_goto (tgt := 247) hx hb dX12_takesFrom_231 (by decide) ?_
              exact bk_X12_takesFrom_247 C0 rc hrc x4 x7_26 M τ_22 hf hP hS (lv_sub hl [4, 8, 0] rfl)
            · have hf := g_pos hf hc_25
              refine lv_lload hx hb dX12_takesFrom_221 (lv_at hl 1 rfl) ?_
              refine lv_goto (tgt := 228) hx hb dX12_takesFrom_223 (by decide) ?_
              refine lv_ladd hx hb dX12_takesFrom_228 ?_
              obtain ⟨x7_27, ex7_27, hf⟩ := g_letE hf
              refine lv_toplE ex7_27 ?_
              refine lv_lstore (lv' := [(7, .long x7_27), (11, .long r_21), (9, .long r_18), (6, .int r_7), (0, .ref (G.2.1 39 0)), (1, .int x1), (2, .int x2), (3, .int x3), (4, .int x4), (5, .int x5)]) hx hb dX12_takesFrom_229 hl (by decide) rfl (fun ls hl => ?_)
              refine lv_goto (tgt := 247) hx hb dX12_takesFrom_231 (by decide) ?_
              exact bk_X12_takesFrom_247 C0 rc hrc x4 x7_27 M τ_22 hf hP hS (lv_sub hl [4, 8, 0] rfl)
          · have hf := g_neg hf hc_24
            refine lv_iconst (v := 1) hx hb dX12_takesFrom_209 (by decide) ?_
            refine lv_goto (tgt := 214) hx hb dX12_takesFrom_210 (by decide) ?_
            refine lv_aload_n hx hb dX12_takesFrom_214 rfl (lv_at hl 3 rfl) ?_
            refine gt_39_20 hx hb hts hown hC hP Nat.zero_lt_one q39_11 dX12_takesFrom_215 ?_
            refine lv_icmp_ne (tgt := 226) hx hb dX12_takesFrom_218 (by decide) (fun hc_28 => ?_) (fun hc_28 => ?_)
            · have hf := g_neg hf hc_28
              refine lv_lload hx hb dX12_takesFrom_226 (lv_at hl 0 rfl) ?_
              refine lv_ladd hx hb dX12_takesFrom_228 ?_
              obtain ⟨x7_29, ex7_29, hf⟩ := g_letE hf
              refine lv_toplE ex7_29 ?_
              refine lv_lstore (lv' := [(7, .long x7_29), (11, .long r_21), (9, .long r_18), (6, .int r_7), (0, .ref (G.2.1 39 0)), (1, .int x1), (2, .int x2), (3, .int x3), (4, .int x4), (5, .int x5)]) hx hb dX12_takesFrom_229 hl (by decide) rfl (fun ls hl => ?_)
              refine lv_goto (tgt := 247) hx hb dX12_takesFrom_231 (by decide) ?_
              exact bk_X12_takesFrom_247 C0 rc hrc x4 x7_29 M τ_22 hf hP hS (lv_sub hl [4, 8, 0] rfl)
            · have hf := g_pos hf hc_28
              refine lv_lload hx hb dX12_takesFrom_221 (lv_at hl 1 rfl) ?_
              refine lv_goto (tgt := 228) hx hb dX12_takesFrom_223 (by decide) ?_
              refine lv_ladd hx hb dX12_takesFrom_228 ?_
              obtain ⟨x7_30, ex7_30, hf⟩ := g_letE hf
              refine lv_toplE ex7_30 ?_
              refine lv_lstore (lv' := [(7, .long x7_30), (11, .long r_21), (9, .long r_18), (6, .int r_7), (0, .ref (G.2.1 39 0)), (1, .int x1), (2, .int x2), (3, .int x3), (4, .int x4), (5, .int x5)]) hx hb dX12_takesFrom_229 hl (by decide) rfl (fun ls hl => ?_)
              refine lv_goto (tgt := 247) hx hb dX12_takesFrom_231 (by decide) ?_
              exact bk_X12_takesFrom_247 C0 rc hrc x4 x7_30 M τ_22 hf hP hS (lv_sub hl [4, 8, 0] rfl)
      · have hf := g_pos hf hc_10
        refine lv_lconst (v := 1) hx hb dX12_takesFrom_147 rfl ?_
        refine lv_aload_n hx hb dX12_takesFrom_148 rfl (lv_at hl 1 rfl) ?_
        refine lv_iload_n hx hb dX12_takesFrom_149 rfl (lv_at hl 2 rfl) ?_
        refine lv_aload_n hx hb dX12_takesFrom_150 rfl (lv_at hl 1 rfl) ?_
        refine lv_iload_n hx hb dX12_takesFrom_151 rfl (lv_at hl 2 rfl) ?_
        refine lv_iload_n hx hb dX12_takesFrom_152 rfl (lv_at hl 3 rfl) ?_
        refine lv_iconst (v := 2) hx hb dX12_takesFrom_153 (by decide) ?_
        obtain ⟨r_31, hc_32, hf⟩ := g_bindE hf
        refine x_calli (v := (X, M, τ)) (va_runV (As := [.int x1, .int x2, .int 2]) (rest := [.int x1, .ref (G.2.1 39 0), .long 1]) ⟨hx, hb, hml, hown, hts⟩ (ct_X12_part l G X M τ x1 x2 2 hc_32) (cwV 3 hts gd_X12_115 rfl rfl rfl hd_X12_part ⟨by show 0 + 1 ≤ dp + 1 + 1; omega, by show 8 + (4 + 11) + 0 ≤ 32 * (dp + 1) + 23; omega⟩) (x_preV (u := (X, M, τ)) (k := 39) (ci := 12) hC hS hP Nat.zero_lt_one rfl rfl) rfl rfl hl.1 rfl (lv_room (Nat.le_of_ble_eq_true rfl)) dX12_takesFrom_154 ⟨Nat.zero_le _, Nat.zero_le _⟩) hS (fun H locs hP hS => ?_)
        refine lv_iload_n hx hb dX12_takesFrom_157 rfl (lv_at hl 4 rfl) ?_
        obtain ⟨⟨r_33, τ_34⟩, hc_35, hf⟩ := g_bindE hf
        refine x_calll (v := (X, M, τ_34)) (va_runV (As := [.int x1, .int r_31, .int x3]) (rest := [.long 1]) ⟨hx, hb, hml, hown, hts⟩ (hrc X M τ x1 r_31 x3 hc_35) (cwV 3 hts gd_X12_188 rfl rfl rfl hd_X12_takesFrom ⟨by show dp + 1 + 1 ≤ dp + 1 + 1; omega, by show 8 + (13 + 11) + (32 * dp + 23) ≤ 32 * (dp + 1) + 23; omega⟩) (x_preV (u := (X, M, τ)) (k := 39) (ci := 12) hC hS hP Nat.zero_lt_one rfl rfl) rfl rfl hl.1 rfl (lv_room (Nat.le_of_ble_eq_true rfl)) dX12_takesFrom_158 ⟨Nat.zero_le _, Nat.zero_le _⟩) hS (fun H locs hP hS => ?_)
        refine lv_ladd hx hb dX12_takesFrom_161 ?_
        obtain ⟨x7_36, ex7_36, hf⟩ := g_letE hf
        refine lv_toplE ex7_36 ?_
        refine lv_lstore (lv' := [(7, .long x7_36), (6, .int r_7), (0, .ref (G.2.1 39 0)), (1, .int x1), (2, .int x2), (3, .int x3), (4, .int x4), (5, .int x5)]) hx hb dX12_takesFrom_162 hl (by decide) rfl (fun ls hl => ?_)
        refine lv_goto (tgt := 247) hx hb dX12_takesFrom_164 (by decide) ?_
        exact bk_X12_takesFrom_247 C0 rc hrc x4 x7_36 M τ_34 hf hP hS (lv_sub hl [2, 6, 0] rfl)
    · have hf := g_neg hf hc_9
      refine lv_aload_n hx hb dX12_takesFrom_96 rfl (lv_at hl 1 rfl) ?_
      refine lv_iload_n hx hb dX12_takesFrom_97 rfl (lv_at hl 2 rfl) ?_
      refine lv_iload hx hb dX12_takesFrom_98 (lv_at hl 6 rfl) ?_
      refine lv_iconst (v := 1) hx hb dX12_takesFrom_100 (by decide) ?_
      obtain ⟨r_37, hc_38, hf⟩ := g_bindE hf
      refine x_calli (v := (X, M, τ)) (va_runV (As := [.int x1, .int x5, .int 1]) (rest := []) ⟨hx, hb, hml, hown, hts⟩ (ct_X12_part l G X M τ x1 x5 1 hc_38) (cwV 3 hts gd_X12_115 rfl rfl rfl hd_X12_part ⟨by show 0 + 1 ≤ dp + 1 + 1; omega, by show 8 + (4 + 11) + 0 ≤ 32 * (dp + 1) + 23; omega⟩) (x_preV (u := (X, M, τ)) (k := 39) (ci := 12) hC hS hP Nat.zero_lt_one rfl rfl) rfl rfl hl.1 rfl (lv_room (Nat.le_of_ble_eq_true rfl)) dX12_takesFrom_101 ⟨Nat.zero_le _, Nat.zero_le _⟩) hS (fun H locs hP hS => ?_)
      refine lv_iconst (v := 1) hx hb dX12_takesFrom_104 (by decide) ?_
      refine lv_iadd hx hb dX12_takesFrom_105 ?_
      refine lv_i2l hx hb dX12_takesFrom_106 rfl ?_
      refine lv_aload_n hx hb dX12_takesFrom_107 rfl (lv_at hl 1 rfl) ?_
      refine lv_iload_n hx hb dX12_takesFrom_108 rfl (lv_at hl 2 rfl) ?_
      refine lv_iload_n hx hb dX12_takesFrom_109 rfl (lv_at hl 3 rfl) ?_
      refine lv_iload hx hb dX12_takesFrom_110 (lv_at hl 6 rfl) ?_
      obtain ⟨⟨r_39, τ_40⟩, hc_41, hf⟩ := g_bindE hf
      refine x_calll (v := (X, M, τ_40)) (va_runV (As := [.int x1, .int x2, .int x5]) (rest := [.long (Int32.toInt64 (r_37 + 1))]) ⟨hx, hb, hml, hown, hts⟩ (hrc X M τ x1 x2 x5 hc_41) (cwV 3 hts gd_X12_188 rfl rfl rfl hd_X12_takesFrom ⟨by show dp + 1 + 1 ≤ dp + 1 + 1; omega, by show 8 + (13 + 11) + (32 * dp + 23) ≤ 32 * (dp + 1) + 23; omega⟩) (x_preV (u := (X, M, τ)) (k := 39) (ci := 12) hC hS hP Nat.zero_lt_one rfl rfl) rfl rfl hl.1 rfl (lv_room (Nat.le_of_ble_eq_true rfl)) dX12_takesFrom_112 ⟨Nat.zero_le _, Nat.zero_le _⟩) hS (fun H locs hP hS => ?_)
      refine lv_lconst (v := 1) hx hb dX12_takesFrom_115 rfl ?_
      refine lv_ladd hx hb dX12_takesFrom_116 ?_
      obtain ⟨r_42, hc_43, hf⟩ := g_letE hf
      refine x_calll (v := (X, M, τ_40)) (va_runS (As := [.long (r_39 + 1)]) (rest := [.long (Int32.toInt64 (r_37 + 1))]) ⟨hx, hb, hml, hown, hts⟩ (ct_X12_held l G X M τ_40 (r_39 + 1) hc_43) (cwS 1 hts gd_X12_192 rfl rfl rfl hd_X12_held ⟨by show 0 + 1 ≤ dp + 1 + 1; omega, by show 8 + (2 + 11) + 0 ≤ 32 * (dp + 1) + 23; omega⟩) (x_pre (u := (X, M, τ_40)) hC hS hP) rfl rfl hl.1 rfl (lv_room (Nat.le_of_ble_eq_true rfl)) dX12_takesFrom_117 ⟨Nat.zero_le _, Nat.zero_le _⟩) hS (fun H locs hP hS => ?_)
      refine lv_lmul hx hb dX12_takesFrom_120 ?_
      obtain ⟨r_44, hc_45, hf⟩ := g_letE hf
      refine x_calll (v := (X, M, τ_40)) (va_runS (As := [.long ((Int32.toInt64 (r_37 + 1)) * r_42)]) (rest := []) ⟨hx, hb, hml, hown, hts⟩ (ct_X12_held l G X M τ_40 ((Int32.toInt64 (r_37 + 1)) * r_42) hc_45) (cwS 1 hts gd_X12_192 rfl rfl rfl hd_X12_held ⟨by show 0 + 1 ≤ dp + 1 + 1; omega, by show 8 + (2 + 11) + 0 ≤ 32 * (dp + 1) + 23; omega⟩) (x_pre (u := (X, M, τ_40)) hC hS hP) rfl rfl hl.1 rfl (lv_room (Nat.le_of_ble_eq_true rfl)) dX12_takesFrom_121 ⟨Nat.zero_le _, Nat.zero_le _⟩) hS (fun H locs hP hS => ?_)
      refine lv_aload_n hx hb dX12_takesFrom_124 rfl (lv_at hl 1 rfl) ?_
      refine lv_iload_n hx hb dX12_takesFrom_125 rfl (lv_at hl 2 rfl) ?_
      refine lv_iload hx hb dX12_takesFrom_126 (lv_at hl 6 rfl) ?_
      refine lv_iconst (v := 1) hx hb dX12_takesFrom_128 (by decide) ?_
      refine lv_iadd hx hb dX12_takesFrom_129 ?_
      refine lv_iload_n hx hb dX12_takesFrom_130 rfl (lv_at hl 4 rfl) ?_
      obtain ⟨⟨r_46, τ_47⟩, hc_48, hf⟩ := g_bindE hf
      refine x_calll (v := (X, M, τ_47)) (va_runV (As := [.int x1, .int (x5 + 1), .int x3]) (rest := [.long r_44]) ⟨hx, hb, hml, hown, hts⟩ (hrc X M τ_40 x1 (x5 + 1) x3 hc_48) (cwV 3 hts gd_X12_188 rfl rfl rfl hd_X12_takesFrom ⟨by show dp + 1 + 1 ≤ dp + 1 + 1; omega, by show 8 + (13 + 11) + (32 * dp + 23) ≤ 32 * (dp + 1) + 23; omega⟩) (x_preV (u := (X, M, τ_40)) (k := 39) (ci := 12) hC hS hP Nat.zero_lt_one rfl rfl) rfl rfl hl.1 rfl (lv_room (Nat.le_of_ble_eq_true rfl)) dX12_takesFrom_131 ⟨Nat.zero_le _, Nat.zero_le _⟩) hS (fun H locs hP hS => ?_)
      refine lv_ladd hx hb dX12_takesFrom_134 ?_
      obtain ⟨x7_49, ex7_49, hf⟩ := g_letE hf
      refine lv_toplE ex7_49 ?_
      refine lv_lstore (lv' := [(7, .long x7_49), (6, .int r_7), (0, .ref (G.2.1 39 0)), (1, .int x1), (2, .int x2), (3, .int x3), (4, .int x4), (5, .int x5)]) hx hb dX12_takesFrom_135 hl (by decide) rfl (fun ls hl => ?_)
      refine lv_goto (tgt := 247) hx hb dX12_takesFrom_137 (by decide) ?_
      exact bk_X12_takesFrom_247 C0 rc hrc x4 x7_49 M τ_47 hf hP hS (lv_sub hl [2, 6, 0] rfl)
  · have hf := g_neg hf hc_6
    refine lv_aload_n hx hb dX12_takesFrom_47 rfl (lv_at hl 0 rfl) ?_
    refine lv_iload_n hx hb dX12_takesFrom_48 rfl (lv_at hl 1 rfl) ?_
    refine lv_iload hx hb dX12_takesFrom_49 (lv_at hl 6 rfl) ?_
    refine lv_iconst (v := 0) hx hb dX12_takesFrom_51 (by decide) ?_
    obtain ⟨r_50, hc_51, hf⟩ := g_bindE hf
    refine x_calli (v := (X, M, τ)) (va_runV (As := [.int x1, .int x6, .int 0]) (rest := []) ⟨hx, hb, hml, hown, hts⟩ (ct_X12_part l G X M τ x1 x6 0 hc_51) (cwV 3 hts gd_X12_115 rfl rfl rfl hd_X12_part ⟨by show 0 + 1 ≤ dp + 1 + 1; omega, by show 8 + (4 + 11) + 0 ≤ 32 * (dp + 1) + 23; omega⟩) (x_preV (u := (X, M, τ)) (k := 39) (ci := 12) hC hS hP Nat.zero_lt_one rfl rfl) rfl rfl hl.1 rfl (lv_room (Nat.le_of_ble_eq_true rfl)) dX12_takesFrom_52 ⟨Nat.zero_le _, Nat.zero_le _⟩) hS (fun H locs hP hS => ?_)
    refine lv_bipush (v := 9) hx hb dX12_takesFrom_55 (by decide) ?_
    refine lv_icmp_ne (tgt := 76) hx hb dX12_takesFrom_57 (by decide) (fun hc_52 => ?_) (fun hc_52 => ?_)
    · have hf := g_neg hf hc_52
      obtain ⟨x6_53, ex6_53, hf⟩ := g_letE hf
      refine lv_iinc (v := x6_53) (lv' := [(6, .int x6_53), (0, .ref (G.2.1 39 0)), (1, .int x1), (2, .int x2), (3, .int x3), (4, .int x4), (5, .int x5)]) hx hb dX12_takesFrom_76 hl (k := 6) rfl (by rw [← ex6_53]; rfl) (by decide) rfl (fun ls hl => ?_)
      refine lv_goto (tgt := 41) hx hb dX12_takesFrom_79 (by decide) ?_
      exact hk41 x1 x2 x3 x4 x5 x6_53 M τ hf hP hS (lv_sub hl [1, 2, 3, 4, 5, 6, 0] rfl)
    · have hf := g_pos hf hc_52
      refine lv_aload_n hx hb dX12_takesFrom_60 rfl (lv_at hl 0 rfl) ?_
      refine lv_iload_n hx hb dX12_takesFrom_61 rfl (lv_at hl 1 rfl) ?_
      refine lv_iload hx hb dX12_takesFrom_62 (lv_at hl 6 rfl) ?_
      refine lv_iconst (v := 2) hx hb dX12_takesFrom_64 (by decide) ?_
      obtain ⟨r_54, hc_55, hf⟩ := g_bindE hf
      refine x_calli (v := (X, M, τ)) (va_runV (As := [.int x1, .int x6, .int 2]) (rest := []) ⟨hx, hb, hml, hown, hts⟩ (ct_X12_part l G X M τ x1 x6 2 hc_55) (cwV 3 hts gd_X12_115 rfl rfl rfl hd_X12_part ⟨by show 0 + 1 ≤ dp + 1 + 1; omega, by show 8 + (4 + 11) + 0 ≤ 32 * (dp + 1) + 23; omega⟩) (x_preV (u := (X, M, τ)) (k := 39) (ci := 12) hC hS hP Nat.zero_lt_one rfl rfl) rfl rfl hl.1 rfl (lv_room (Nat.le_of_ble_eq_true rfl)) dX12_takesFrom_65 ⟨Nat.zero_le _, Nat.zero_le _⟩) hS (fun H locs hP hS => ?_)
      refine lv_iload_n hx hb dX12_takesFrom_68 rfl (lv_at hl 2 rfl) ?_
      refine lv_icmp_ne (tgt := 76) hx hb dX12_takesFrom_69 (by decide) (fun hc_56 => ?_) (fun hc_56 => ?_)
      · have hf := g_neg hf hc_56
        obtain ⟨x6_57, ex6_57, hf⟩ := g_letE hf
        refine lv_iinc (v := x6_57) (lv' := [(6, .int x6_57), (0, .ref (G.2.1 39 0)), (1, .int x1), (2, .int x2), (3, .int x3), (4, .int x4), (5, .int x5)]) hx hb dX12_takesFrom_76 hl (k := 6) rfl (by rw [← ex6_57]; rfl) (by decide) rfl (fun ls hl => ?_)
        refine lv_goto (tgt := 41) hx hb dX12_takesFrom_79 (by decide) ?_
        exact hk41 x1 x2 x3 x4 x5 x6_57 M τ hf hP hS (lv_sub hl [1, 2, 3, 4, 5, 6, 0] rfl)
      · have hf := g_pos hf hc_56
        refine lv_iload hx hb dX12_takesFrom_72 (lv_at hl 6 rfl) ?_
        refine lv_istore (lv' := [(5, .int x6), (0, .ref (G.2.1 39 0)), (1, .int x1), (2, .int x2), (3, .int x3), (4, .int x4), (6, .int x6)]) hx hb dX12_takesFrom_74 hl (by decide) rfl (fun ls hl => ?_)
        obtain ⟨x6_58, ex6_58, hf⟩ := g_letE hf
        refine lv_iinc (v := x6_58) (lv' := [(6, .int x6_58), (5, .int x6), (0, .ref (G.2.1 39 0)), (1, .int x1), (2, .int x2), (3, .int x3), (4, .int x4)]) hx hb dX12_takesFrom_76 hl (k := 6) rfl (by rw [← ex6_58]; rfl) (by decide) rfl (fun ls hl => ?_)
        refine lv_goto (tgt := 41) hx hb dX12_takesFrom_79 (by decide) ?_
        exact hk41 x1 x2 x3 x4 x6 x6_58 M τ hf hP hS (lv_sub hl [2, 3, 4, 5, 6, 1, 0] rfl)
def wl_X12_takesFrom_41 (rc : Int32 → Int32 → Int32 → SM → SL → Option (Int64 × SL)) (n : Nat) (x1 : Int32) (x2 : Int32) (x3 : Int32) (x4 : Int32) (x5 : Int32) (x6 : Int32) (M : SM) (τ : SL) : Option (Int64 × SL) := g_loop (α := Int32 × Int32 × Int32 × Int32 × Int32 × Int32 × SM × SL) (fun k a => wb_X12_takesFrom_41 rc (fun x1 x2 x3 x4 x5 x6 M τ => k (x1, x2, x3, x4, x5, x6, M, τ)) a.1 a.2.1 a.2.2.1 a.2.2.2.1 a.2.2.2.2.1 a.2.2.2.2.2.1 a.2.2.2.2.2.2.1 a.2.2.2.2.2.2.2) n (x1, x2, x3, x4, x5, x6, M, τ)
set_option maxRecDepth 100000 in
set_option maxHeartbeats 4000000 in
theorem lp_X12_takesFrom_41 {p : Program} {l : Launch} {e : Env} {s : State} {m : MethodId} {args : Array Value} {below : List Frame} {meth : Method} {c : Code} {G : GP} {X : SM} (C0 : g_mc p s m args meth c RX12 cX12_takesFrom (some .long) 13 G) {dp : Nat} (rc : Int32 → Int32 → Int32 → SM → SL → Option (Int64 × SL)) (hrc : ∀ (X M : SM) (τ : SL) (x1 : Int32) (x2 : Int32) (x3 : Int32) {r0 : Int64} {τ0 : SL}, rc x1 x2 x3 M τ = some (r0, τ0) → Met l yX12_takesFrom (wz yX12_takesFrom cX12_takesFrom 13 (some .long)) (rm_X12_takesFrom dp) (va_Pc [.ref (G.2.1 39 0), .int x1, .int x2, .int x3] (g_pw G (X, M, τ))) (va_Ql (fun r u => r = r0 ∧ u = (X, M, τ0)) (g_pw G) (g_A G)) 0 0 (g_A G)) {r0 : Int64} {τ0 : SL} (n : Nat) : ∀ (x1 : Int32) (x2 : Int32) (x3 : Int32) (x4 : Int32) (x5 : Int32) (x6 : Int32) (M : SM) (τ : SL), wl_X12_takesFrom_41 rc n x1 x2 x3 x4 x5 x6 M τ = some (r0, τ0) → ∀ {H : Heap} {locs : List Loc}, va_P G.1 g_cl (wd G (cb X M) τ) H → va_S (g_A G) s.heap H locs → ∀ {ls : Array Slot}, lv_has ls 13 [(0, .ref (G.2.1 39 0)), (1, .int x1), (2, .int x2), (3, .int x3), (4, .int x4), (5, .int x5), (6, .int x6)] → W p l e (rm_X12_takesFrom (dp + 1)) s m args below meth c H locs 0 0 (MQ below (va_Ql (fun r u => r = r0 ∧ u = (X, M, τ0)) (g_pw G) (g_A G)) args s 0 0 (g_A G)) (F0 m 41 ls []) := by
  induction n with
  | zero =>
    intro x1 x2 x3 x4 x5 x6 M τ hf
    have hf : (none : Option (Int64 × SL)) = _ := hf
    cases hf
  | succ n ih =>
    intro x1 x2 x3 x4 x5 x6 M τ hf H locs hP hS ls hl
    exact bk_X12_takesFrom_41 C0  rc hrc  (fun x1 x2 x3 x4 x5 x6 M τ => wl_X12_takesFrom_41 rc  n x1 x2 x3 x4 x5 x6 M τ) ih x1 x2 x3 x4 x5 x6 M τ hf hP hS hl
def fn_X12_takesFrom (rc : Int32 → Int32 → Int32 → SM → SL → Option (Int64 × SL)) (x1 : Int32) (x2 : Int32) (x3 : Int32) (M : SM) (τ : SL) : Option (Int64 × SL) :=
  if x2 < x3 then
  (g_let (((25 * x2) + x3)) fun x4_2 =>
    if g_in x4_2 625 then
    if (lg_cmp (τ 56 0 (x4_2.toNatClampNeg)) 0) < 0 then
    (wl_X12_takesFrom_41 rc 1000 x1 x2 x3 x4_2 (-1) x2 M τ)
    else
    (if g_in x4_2 625 then
      some ((τ 56 0 (x4_2.toNatClampNeg)), τ)
      else none)
    else none)
  else
  (some (0, τ))
set_option maxRecDepth 100000 in
set_option maxHeartbeats 4000000 in
theorem wk_X12_takesFrom {p : Program} {l : Launch} {e : Env} {s : State} {m : MethodId} {args : Array Value} {below : List Frame} {meth : Method} {c : Code} {G : GP} {X : SM} (C0 : g_mc p s m args meth c RX12 cX12_takesFrom (some .long) 13 G) {dp : Nat} (rc : Int32 → Int32 → Int32 → SM → SL → Option (Int64 × SL)) (hrc : ∀ (X M : SM) (τ : SL) (x1 : Int32) (x2 : Int32) (x3 : Int32) {r0 : Int64} {τ0 : SL}, rc x1 x2 x3 M τ = some (r0, τ0) → Met l yX12_takesFrom (wz yX12_takesFrom cX12_takesFrom 13 (some .long)) (rm_X12_takesFrom dp) (va_Pc [.ref (G.2.1 39 0), .int x1, .int x2, .int x3] (g_pw G (X, M, τ))) (va_Ql (fun r u => r = r0 ∧ u = (X, M, τ0)) (g_pw G) (g_A G)) 0 0 (g_A G)) {r0 : Int64} {τ0 : SL} (x1 : Int32) (x2 : Int32) (x3 : Int32) (M : SM) (τ : SL) (hf : fn_X12_takesFrom rc x1 x2 x3 M τ = some (r0, τ0)) {H : Heap} {locs : List Loc} (hP : va_P G.1 g_cl (wd G (cb X M) τ) H) (hS : va_S (g_A G) s.heap H locs) {ls : Array Slot} (hl : lv_has ls 13 [(0, .ref (G.2.1 39 0)), (1, .int x1), (2, .int x2), (3, .int x3)]) : W p l e (rm_X12_takesFrom (dp + 1)) s m args below meth c H locs 0 0 (MQ below (va_Ql (fun r u => r = r0 ∧ u = (X, M, τ0)) (g_pw G) (g_A G)) args s 0 0 (g_A G)) (F0 m 0 ls []) := by
  obtain ⟨hx, hb, hr, hml, hown, hts, hlocks, hC⟩ := id C0
  unfold fn_X12_takesFrom at hf
  refine lv_iload_n hx hb dX12_takesFrom_0 rfl (lv_at hl 2 rfl) ?_
  refine lv_iload_n hx hb dX12_takesFrom_1 rfl (lv_at hl 3 rfl) ?_
  refine lv_icmp_lt (tgt := 7) hx hb dX12_takesFrom_2 (by decide) (fun hc_1 => ?_) (fun hc_1 => ?_)
  · have hf := g_pos hf hc_1
    refine lv_bipush (v := 25) hx hb dX12_takesFrom_7 (by decide) ?_
    refine lv_iload_n hx hb dX12_takesFrom_9 rfl (lv_at hl 2 rfl) ?_
    refine lv_imul hx hb dX12_takesFrom_10 ?_
    refine lv_iload_n hx hb dX12_takesFrom_11 rfl (lv_at hl 3 rfl) ?_
    refine lv_iadd hx hb dX12_takesFrom_12 ?_
    obtain ⟨x4_2, ex4_2, hf⟩ := g_letE hf
    refine lv_topE ex4_2 ?_
    refine lv_istore (lv' := [(4, .int x4_2), (0, .ref (G.2.1 39 0)), (1, .int x1), (2, .int x2), (3, .int x3)]) hx hb dX12_takesFrom_13 hl (by decide) rfl (fun ls hl => ?_)
    refine lv_aload_n hx hb dX12_takesFrom_15 rfl (lv_at hl 1 rfl) ?_
    refine gt_39_19 hx hb hts hown hC hP Nat.zero_lt_one q7_11 dX12_takesFrom_16 ?_
    refine lv_iload hx hb dX12_takesFrom_19 (lv_at hl 0 rfl) ?_
    obtain ⟨hg_3, hf⟩ := g_gd hf
    refine xlld (k := 56) (n := 625) hx hb hC hP (fun _ _ => rfl) Nat.zero_lt_one hg_3 dX12_takesFrom_21 ?_
    refine lv_lconst (v := 0) hx hb dX12_takesFrom_22 rfl ?_
    refine W.lcmp hx hb dX12_takesFrom_23 ?_
    refine lv_if_lt (tgt := 35) hx hb dX12_takesFrom_24 (by decide) (fun hc_4 => ?_) (fun hc_4 => ?_)
    · have hf := g_pos hf hc_4
      refine lv_iconst (v := (-1)) hx hb dX12_takesFrom_35 (by decide) ?_
      refine lv_istore (lv' := [(5, .int (-1)), (4, .int x4_2), (0, .ref (G.2.1 39 0)), (1, .int x1), (2, .int x2), (3, .int x3)]) hx hb dX12_takesFrom_36 hl (by decide) rfl (fun ls hl => ?_)
      refine lv_iload_n hx hb dX12_takesFrom_38 rfl (lv_at hl 4 rfl) ?_
      refine lv_istore (lv' := [(6, .int x2), (5, .int (-1)), (4, .int x4_2), (0, .ref (G.2.1 39 0)), (1, .int x1), (2, .int x2), (3, .int x3)]) hx hb dX12_takesFrom_39 hl (by decide) rfl (fun ls hl => ?_)
      exact lp_X12_takesFrom_41 C0 rc hrc 1000 x1 x2 x3 x4_2 (-1) x2 M τ hf hP hS (lv_sub hl [3, 4, 5, 6, 2, 1, 0] rfl)
    · have hf := g_neg hf hc_4
      refine lv_aload_n hx hb dX12_takesFrom_27 rfl (lv_at hl 1 rfl) ?_
      refine gt_39_19 hx hb hts hown hC hP Nat.zero_lt_one q7_11 dX12_takesFrom_28 ?_
      refine lv_iload hx hb dX12_takesFrom_31 (lv_at hl 0 rfl) ?_
      obtain ⟨hg_5, hf⟩ := g_gd hf
      refine xlld (k := 56) (n := 625) hx hb hC hP (fun _ _ => rfl) Nat.zero_lt_one hg_5 dX12_takesFrom_33 ?_
      cases hf
      exact x_lret hx hb hlocks hC hP hS hr dX12_takesFrom_34
  · have hf := g_neg hf hc_1
    refine lv_lconst (v := 0) hx hb dX12_takesFrom_5 rfl ?_
    cases hf
    exact x_lret hx hb hlocks hC hP hS hr dX12_takesFrom_6
def fr_X12_takesFrom (dp : Nat) (x1 : Int32) (x2 : Int32) (x3 : Int32) (M : SM) (τ : SL) : Option (Int64 × SL) := g_loop (α := Int32 × Int32 × Int32 × SM × SL) (fun k a => fn_X12_takesFrom (fun x1 x2 x3 M τ => k (x1, x2, x3, M, τ)) a.1 a.2.1 a.2.2.1 a.2.2.2.1 a.2.2.2.2) dp (x1, x2, x3, M, τ)
set_option maxRecDepth 100000 in
set_option maxHeartbeats 4000000 in
theorem ct_X12_takesFrom (l : Launch) (G : GP) (dp : Nat) : ∀ (X M : SM) (τ : SL) (x1 : Int32) (x2 : Int32) (x3 : Int32) {r0 : Int64} {τ0 : SL}, fr_X12_takesFrom dp x1 x2 x3 M τ = some (r0, τ0) → Met l yX12_takesFrom (wz yX12_takesFrom cX12_takesFrom 13 (some .long)) (rm_X12_takesFrom dp) (va_Pc [.ref (G.2.1 39 0), .int x1, .int x2, .int x3] (g_pw G (X, M, τ))) (va_Ql (fun r u => r = r0 ∧ u = (X, M, τ0)) (g_pw G) (g_A G)) 0 0 (g_A G) := by
  induction dp with
  | zero =>
    intro X M τ x1 x2 x3 r0 τ0 hf
    have hf : (none : Option (Int64 × SL)) = _ := hf
    cases hf
  | succ dp ih =>
    intro X M τ x1 x2 x3 r0 τ0 hf
    refine Met.ofW (cc := cX12_takesFrom) (maxL := 13) (ret := (some .long)) (by decide +kernel) rfl ?_
    intro p e s m args below meth c s₁ B hml hv
    obtain ⟨rfl, hC, hP⟩ := hv
    have C0 : g_mc p s m _ meth c RX12 cX12_takesFrom (some .long) 13 G := ⟨B.exec, B.bytes, B.returns, hml, findClass_of_methodNamed B.named, fun w h => atoms_spec (ws := wz yX12_takesFrom cX12_takesFrom 13 (some .long)) B.pre w (List.mem_cons_of_mem _ h), B.notSynchronized, hC⟩
    have hl := lv_entry ([.ref (G.2.1 39 0), .int x1, .int x2, .int x3]) (n := 13) (Nat.le_of_ble_eq_true rfl)
    rw [lg_entry_eq]
    generalize (lg_sl ([.ref (G.2.1 39 0), .int x1, .int x2, .int x3]) ++ List.replicate (13 - (lg_sl ([.ref (G.2.1 39 0), .int x1, .int x2, .int x3])).length) Slot.unset).toArray = ls at hl ⊢
    exact wk_X12_takesFrom C0 (fun x1 x2 x3 M τ => fr_X12_takesFrom dp x1 x2 x3 M τ) (fun X M τ x1 x2 x3 r0 τ0 hf => ih X M τ x1 x2 x3 hf) x1 x2 x3 M τ hf hP va_S.rf hl
