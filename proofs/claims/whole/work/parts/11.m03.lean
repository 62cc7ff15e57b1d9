abbrev rm_X12_leaves : Room := { frames := 0, cells := 0, slots := 0, locals := 0 }
def wb_X12_leaves_12 (k2 : Int32 → Int32 → SM → Option (SM)) (k12 : Int32 → Int32 → Int32 → Int32 → SM → Option (SM)) (x1 : Int32) (x2 : Int32) (x3 : Int32) (x4 : Int32) (M : SM) : Option (SM) :=
  if g_in (518 + x2) 693 then
  if (M 40 0 ((518 + x2).toNatClampNeg)) ≤ x4 then
  (if g_in (518 + x2) 693 then
    g_let (u1 M 40 0 ((518 + x2).toNatClampNeg) x3) fun M_5 =>
    g_let (x2 + 1) fun x2_6 =>
    k2 x1 x2_6 M_5
    else none)
  else
  (if g_in ((494 + (6 * x2)) + x4) 693 then
    if (M 40 0 (((494 + (6 * x2)) + x4).toNatClampNeg)) = x1 then
    (g_let (x4 + 1) fun x4_14 =>
      k12 x1 x2 x3 x4_14 M)
    else
    (if g_in ((494 + (6 * x2)) + x4) 693 then
      if g_in ((494 + (6 * x2)) + x3) 693 then
      g_let (u1 M 40 0 (((494 + (6 * x2)) + x3).toNatClampNeg) (M 40 0 (((494 + (6 * x2)) + x4).toNatClampNeg))) fun M_11 =>
      g_let (x3 + 1) fun x3_12 =>
      g_let (x4 + 1) fun x4_13 =>
      k12 x1 x2 x3_12 x4_13 M_11
      else none
      else none)
    else none)
  else none
set_option maxRecDepth 100000 in
set_option maxHeartbeats 4000000 in
theorem bk_X12_leaves_12 {p : Program} {l : Launch} {e : Env} {s : State} {m : MethodId} {args : Array Value} {below : List Frame} {meth : Method} {c : Code} {G : GP} {X : SM} {τ : SL} (C0 : g_mc p s m args meth c RX12 cX12_leaves none 5 G) {M0 : SM} (k2 : Int32 → Int32 → SM → Option (SM)) (hk2 : ∀ (x1 : Int32) (x2 : Int32) (M : SM), k2 x1 x2 M = some M0 → ∀ {H : Heap} {locs : List Loc}, va_P G.1 g_cl (wd G (cb X M) τ) H → va_S (g_A G) s.heap H locs → ∀ {ls : Array Slot}, lv_has ls 5 [(0, .ref (G.2.1 39 0)), (1, .int x1), (2, .int x2)] → W p l e rm_X12_leaves s m args below meth c H locs 0 0 (MQ below (va_Qv (fun u => u = (X, M0, τ)) (g_pw G) (g_A G)) args s 0 0 (g_A G)) (F0 m 2 ls [])) (k12 : Int32 → Int32 → Int32 → Int32 → SM → Option (SM)) (hk12 : ∀ (x1 : Int32) (x2 : Int32) (x3 : Int32) (x4 : Int32) (M : SM), k12 x1 x2 x3 x4 M = some M0 → ∀ {H : Heap} {locs : List Loc}, va_P G.1 g_cl (wd G (cb X M) τ) H → va_S (g_A G) s.heap H locs → ∀ {ls : Array Slot}, lv_has ls 5 [(0, .ref (G.2.1 39 0)), (1, .int x1), (2, .int x2), (3, .int x3), (4, .int x4)] → W p l e rm_X12_leaves s m args below meth c H locs 0 0 (MQ below (va_Qv (fun u => u = (X, M0, τ)) (g_pw G) (g_A G)) args s 0 0 (g_A G)) (F0 m 12 ls [])) (x1 : Int32) (x2 : Int32) (x3 : Int32) (x4 : Int32) (M : SM) (hf : wb_X12_leaves_12 k2 k12 x1 x2 x3 x4 M = some M0) {H : Heap} {locs : List Loc} (hP : va_P G.1 g_cl (wd G (cb X M) τ) H) (hS : va_S (g_A G) s.heap H locs) {ls : Array Slot} (hl : lv_has ls 5 [(0, .ref (G.2.1 39 0)), (1, .int x1), (2, .int x2), (3, .int x3), (4, .int x4)]) : W p l e rm_X12_leaves s m args below meth c H locs 0 0 (MQ below (va_Qv (fun u => u = (X, M0, τ)) (g_pw G) (g_A G)) args s 0 0 (g_A G)) (F0 m 12 ls []) := by
  obtain ⟨hx, hb, hr, hml, hown, hts, hlocks, hC⟩ := id C0
  unfold wb_X12_leaves_12 at hf
  refine lv_iload hx hb dX12_leaves_12 (lv_at hl 4 rfl) ?_
  refine lv_aload_n hx hb dX12_leaves_14 rfl (lv_at hl 0 rfl) ?_
  refine gt_39_0 hx hb hts hown hC hP Nat.zero_lt_one q6_17 dX12_leaves_15 ?_
  refine lv_sipush (v := 518) hx hb dX12_leaves_18 (by decide) ?_
  refine lv_iload_n hx hb dX12_leaves_21 rfl (lv_at hl 2 rfl) ?_
  refine lv_iadd hx hb dX12_leaves_22 ?_
  obtain ⟨hg_2, hf⟩ := g_gd hf
  refine xildM (k := 40) (n := 693) hx hb hC hP (fun _ _ => rfl) rfl Nat.zero_lt_one hg_2 dX12_leaves_23 ?_
  refine lv_icmp_ge (tgt := 90) hx hb dX12_leaves_24 (by decide) (fun hc_3 => ?_) (fun hc_3 => ?_)
  · have hf := g_pos hf hc_3
    refine lv_aload_n hx hb dX12_leaves_90 rfl (lv_at hl 0 rfl) ?_
    refine gt_39_0 hx hb hts hown hC hP Nat.zero_lt_one q6_17 dX12_leaves_91 ?_
    refine lv_sipush (v := 518) hx hb dX12_leaves_94 (by decide) ?_
    refine lv_iload_n hx hb dX12_leaves_97 rfl (lv_at hl 2 rfl) ?_
    refine lv_iadd hx hb dX12_leaves_98 ?_
    refine lv_iload_n hx hb dX12_leaves_99 rfl (lv_at hl 3 rfl) ?_
    obtain ⟨hg_4, hf⟩ := g_gd hf
    obtain ⟨M_5, eM_5, hf⟩ := g_letE hf
    refine xistM (k := 40) (n := 693) hx hb hC hP hS (fun _ _ => rfl) rfl Nat.zero_lt_one hg_4 dX12_leaves_100 (fun H locs hP hS => ?_)
    rw [eM_5] at hP
    obtain ⟨x2_6, ex2_6, hf⟩ := g_letE hf
    refine lv_iinc (v := x2_6) (lv' := [(2, .int x2_6), (0, .ref (G.2.1 39 0)), (1, .int x1), (3, .int x3), (4, .int x4)]) hx hb dX12_leaves_101 hl (k := 2) rfl (by rw [← ex2_6]; rfl) (by decide) rfl (fun ls hl => ?_)
    refine lv_goto (tgt := 2) hx hb dX12_leaves_104 (by decide) ?_
    exact hk2 x1 x2_6 M_5 hf hP hS (lv_sub hl [1, 2, 0] rfl)
  · have hf := g_neg hf hc_3
    refine lv_aload_n hx hb dX12_leaves_27 rfl (lv_at hl 0 rfl) ?_
    refine gt_39_0 hx hb hts hown hC hP Nat.zero_lt_one q6_17 dX12_leaves_28 ?_
    refine lv_sipush (v := 494) hx hb dX12_leaves_31 (by decide) ?_
    refine lv_bipush (v := 6) hx hb dX12_leaves_34 (by decide) ?_
    refine lv_iload_n hx hb dX12_leaves_36 rfl (lv_at hl 2 rfl) ?_
    refine lv_imul hx hb dX12_leaves_37 ?_
    refine lv_iadd hx hb dX12_leaves_38 ?_
    refine lv_iload hx hb dX12_leaves_39 (lv_at hl 4 rfl) ?_
    refine lv_iadd hx hb dX12_leaves_41 ?_
    obtain ⟨hg_7, hf⟩ := g_gd hf
    refine xildM (k := 40) (n := 693) hx hb hC hP (fun _ _ => rfl) rfl Nat.zero_lt_one hg_7 dX12_leaves_42 ?_
    refine lv_iload_n hx hb dX12_leaves_43 rfl (lv_at hl 1 rfl) ?_
    refine lv_icmp_ne (tgt := 50) hx hb dX12_leaves_44 (by decide) (fun hc_8 => ?_) (fun hc_8 => ?_)
    · have hf := g_neg hf hc_8
      refine lv_aload_n hx hb dX12_leaves_50 rfl (lv_at hl 0 rfl) ?_
      refine gt_39_0 hx hb hts hown hC hP Nat.zero_lt_one q6_17 dX12_leaves_51 ?_
      refine lv_sipush (v := 494) hx hb dX12_leaves_54 (by decide) ?_
      refine lv_bipush (v := 6) hx hb dX12_leaves_57 (by decide) ?_
      refine lv_iload_n hx hb dX12_leaves_59 rfl (lv_at hl 2 rfl) ?_
      refine lv_imul hx hb dX12_leaves_60 ?_
      refine lv_iadd hx hb dX12_leaves_61 ?_
      refine lv_iload_n hx hb dX12_leaves_62 rfl (lv_at hl 3 rfl) ?_
      refine lv_iadd hx hb dX12_leaves_63 ?_
      refine lv_aload_n hx hb dX12_leaves_64 rfl (lv_at hl 0 rfl) ?_
      refine gt_39_0 hx hb hts hown hC hP Nat.zero_lt_one q6_17 dX12_leaves_65 ?_
      refine lv_sipush (v := 494) hx hb dX12_leaves_68 (by decide) ?_
      refine lv_bipush (v := 6) hx hb dX12_leaves_71 (by decide) ?_
      refine lv_iload_n hx hb dX12_leaves_73 rfl (lv_at hl 2 rfl) ?_
      refine lv_imul hx hb dX12_leaves_74 ?_
      refine lv_iadd hx hb dX12_leaves_75 ?_
      refine lv_iload hx hb dX12_leaves_76 (lv_at hl 4 rfl) ?_
      refine lv_iadd hx hb dX12_leaves_78 ?_
      obtain ⟨hg_9, hf⟩ := g_gd hf
      refine xildM (k := 40) (n := 693) hx hb hC hP (fun _ _ => rfl) rfl Nat.zero_lt_one hg_9 dX12_leaves_79 ?_
      obtain ⟨hg_10, hf⟩ := g_gd hf
      obtain ⟨M_11, eM_11, hf⟩ := g_letE hf
      refine xistM (k := 40) (n := 693) hx hb hC hP hS (fun _ _ => rfl) rfl Nat.zero_lt_one hg_10 dX12_leaves_80 (fun H locs hP hS => ?_)
      rw [eM_11] at hP
      obtain ⟨x3_12, ex3_12, hf⟩ := g_letE hf
      refine lv_iinc (v := x3_12) (lv' := [(3, .int x3_12), (0, .ref (G.2.1 39 0)), (1, .int x1), (2, .int x2), (4, .int x4)]) hx hb dX12_leaves_81 hl (k := 3) rfl (by rw [← ex3_12]; rfl) (by decide) rfl (fun ls hl => ?_)
      obtain ⟨x4_13, ex4_13, hf⟩ := g_letE hf
      refine lv_iinc (v := x4_13) (lv' := [(4, .int x4_13), (3, .int x3_12), (0, .ref (G.2.1 39 0)), (1, .int x1), (2, .int x2)]) hx hb dX12_leaves_84 hl (k := 4) rfl (by rw [← ex4_13]; rfl) (by decide) rfl (fun ls hl => ?_)
      refine lv_goto (tgt := 12) hx hb dX12_leaves_87 (by decide) ?_
      exact hk12 x1 x2 x3_12 x4_13 M_11 hf hP hS (lv_sub hl [2, 3, 4, 1, 0] rfl)
    · have hf := g_pos hf hc_8
      refine lv_goto (tgt := 84) hx hb dX12_leaves_47 (by decide) ?_
      obtain ⟨x4_14, ex4_14, hf⟩ := g_letE hf
      refine lv_iinc (v := x4_14) (lv' := [(4, .int x4_14), (0, .ref (G.2.1 39 0)), (1, .int x1), (2, .int x2), (3, .int x3)]) hx hb dX12_leaves_84 hl (k := 4) rfl (by rw [← ex4_14]; rfl) (by decide) rfl (fun ls hl => ?_)
      refine lv_goto (tgt := 12) hx hb dX12_leaves_87 (by decide) ?_
      exact hk12 x1 x2 x3 x4_14 M hf hP hS (lv_sub hl [1, 2, 3, 4, 0] rfl)
def wl_X12_leaves_12 (k2 : Int32 → Int32 → SM → Option (SM)) (n : Nat) (x1 : Int32) (x2 : Int32) (x3 : Int32) (x4 : Int32) (M : SM) : Option (SM) := g_loop (α := Int32 × Int32 × Int32 × Int32 × SM) (fun k a => wb_X12_leaves_12 k2 (fun x1 x2 x3 x4 M => k (x1, x2, x3, x4, M)) a.1 a.2.1 a.2.2.1 a.2.2.2.1 a.2.2.2.2) n (x1, x2, x3, x4, M)
set_option maxRecDepth 100000 in
set_option maxHeartbeats 4000000 in
theorem lp_X12_leaves_12 {p : Program} {l : Launch} {e : Env} {s : State} {m : MethodId} {args : Array Value} {below : List Frame} {meth : Method} {c : Code} {G : GP} {X : SM} {τ : SL} (C0 : g_mc p s m args meth c RX12 cX12_leaves none 5 G) {M0 : SM} (k2 : Int32 → Int32 → SM → Option (SM)) (hk2 : ∀ (x1 : Int32) (x2 : Int32) (M : SM), k2 x1 x2 M = some M0 → ∀ {H : Heap} {locs : List Loc}, va_P G.1 g_cl (wd G (cb X M) τ) H → va_S (g_A G) s.heap H locs → ∀ {ls : Array Slot}, lv_has ls 5 [(0, .ref (G.2.1 39 0)), (1, .int x1), (2, .int x2)] → W p l e rm_X12_leaves s m args below meth c H locs 0 0 (MQ below (va_Qv (fun u => u = (X, M0, τ)) (g_pw G) (g_A G)) args s 0 0 (g_A G)) (F0 m 2 ls [])) (n : Nat) : ∀ (x1 : Int32) (x2 : Int32) (x3 : Int32) (x4 : Int32) (M : SM), wl_X12_leaves_12 k2 n x1 x2 x3 x4 M = some M0 → ∀ {H : Heap} {locs : List Loc}, va_P G.1 g_cl (wd G (cb X M) τ) H → va_S (g_A G) s.heap H locs → ∀ {ls : Array Slot}, lv_has ls 5 [(0, .ref (G.2.1 39 0)), (1, .int x1), (2, .int x2), (3, .int x3), (4, .int x4)] → W p l e rm_X12_leaves s m args below meth c H locs 0 0 (MQ below (va_Qv (fun u => u = (X, M0, τ)) (g_pw G) (g_A G)) args s 0 0 (g_A G)) (F0 m 12 ls []) := by
  induction n with
  | zero =>
    intro x1 x2 x3 x4 M hf
    have hf : (none : Option (SM)) = _ := hf
    cases hf
  | succ n ih =>
    intro x1 x2 x3 x4 M hf H locs hP hS ls hl
    exact bk_X12_leaves_12 C0  k2 hk2 (fun x1 x2 x3 x4 M => wl_X12_leaves_12  k2 n x1 x2 x3 x4 M) ih x1 x2 x3 x4 M hf hP hS hl
def wb_X12_leaves_2 (k2 : Int32 → Int32 → SM → Option (SM)) (x1 : Int32) (x2 : Int32) (M : SM) : Option (SM) :=
  if 4 ≤ x2 then
  (some M)
  else
  (wl_X12_leaves_12 k2 1000 x1 x2 0 0 M)
set_option maxRecDepth 100000 in
set_option maxHeartbeats 4000000 in
theorem bk_X12_leaves_2 {p : Program} {l : Launch} {e : Env} {s : State} {m : MethodId} {args : Array Value} {below : List Frame} {meth : Method} {c : Code} {G : GP} {X : SM} {τ : SL} (C0 : g_mc p s m args meth c RX12 cX12_leaves none 5 G) {M0 : SM} (k2 : Int32 → Int32 → SM → Option (SM)) (hk2 : ∀ (x1 : Int32) (x2 : Int32) (M : SM), k2 x1 x2 M = some M0 → ∀ {H : Heap} {locs : List Loc}, va_P G.1 g_cl (wd G (cb X M) τ) H → va_S (g_A G) s.heap H locs → ∀ {ls : Array Slot}, lv_has ls 5 [(0, .ref (G.2.1 39 0)), (1, .int x1), (2, .int x2)] → W p l e rm_X12_leaves s m args below meth c H locs 0 0 (MQ below (va_Qv (fun u => u = (X, M0, τ)) (g_pw G) (g_A G)) args s 0 0 (g_A G)) (F0 m 2 ls [])) (x1 : Int32) (x2 : Int32) (M : SM) (hf : wb_X12_leaves_2 k2 x1 x2 M = some M0) {H : Heap} {locs : List Loc} (hP : va_P G.1 g_cl (wd G (cb X M) τ) H) (hS : va_S (g_A G) s.heap H locs) {ls : Array Slot} (hl : lv_has ls 5 [(0, .ref (G.2.1 39 0)), (1, .int x1), (2, .int x2)]) : W p l e rm_X12_leaves s m args below meth c H locs 0 0 (MQ below (va_Qv (fun u => u = (X, M0, τ)) (g_pw G) (g_A G)) args s 0 0 (g_A G)) (F0 m 2 ls []) := by
  obtain ⟨hx, hb, hr, hml, hown, hts, hlocks, hC⟩ := id C0
  unfold wb_X12_leaves_2 at hf
  refine lv_iload_n hx hb dX12_leaves_2 rfl (lv_at hl 2 rfl) ?_
  refine lv_iconst (v := 4) hx hb dX12_leaves_3 (by decide) ?_
  refine lv_icmp_ge (tgt := 107) hx hb dX12_leaves_4 (by decide) (fun hc_1 => ?_) (fun hc_1 => ?_)
  · have hf := g_pos hf hc_1
    cases hf
    exact x_vret hx hb hlocks hC hP hS hr dX12_leaves_107
  · have hf := g_neg hf hc_1
    refine lv_iconst (v := 0) hx hb dX12_leaves_7 (by decide) ?_
    refine lv_istore_n (lv' := [(3, .int 0), (0, .ref (G.2.1 39 0)), (1, .int x1), (2, .int x2)]) hx hb dX12_leaves_8 rfl hl (by decide) rfl (fun ls hl => ?_)
    refine lv_iconst (v := 0) hx hb dX12_leaves_9 (by decide) ?_
    refine lv_istore (lv' := [(4, .int 0), (3, .int 0), (0, .ref (G.2.1 39 0)), (1, .int x1), (2, .int x2)]) hx hb dX12_leaves_10 hl (by decide) rfl (fun ls hl => ?_)
    exact lp_X12_leaves_12 C0 k2 hk2 1000 x1 x2 0 0 M hf hP hS (lv_sub hl [2, 3, 4, 1, 0] rfl)
def wl_X12_leaves_2 (n : Nat) (x1 : Int32) (x2 : Int32) (M : SM) : Option (SM) := g_loop (α := Int32 × Int32 × SM) (fun k a => wb_X12_leaves_2 (fun x1 x2 M => k (x1, x2, M)) a.1 a.2.1 a.2.2) n (x1, x2, M)
set_option maxRecDepth 100000 in
set_option maxHeartbeats 4000000 in
theorem lp_X12_leaves_2 {p : Program} {l : Launch} {e : Env} {s : State} {m : MethodId} {args : Array Value} {below : List Frame} {meth : Method} {c : Code} {G : GP} {X : SM} {τ : SL} (C0 : g_mc p s m args meth c RX12 cX12_leaves none 5 G) {M0 : SM} (n : Nat) : ∀ (x1 : Int32) (x2 : Int32) (M : SM), wl_X12_leaves_2 n x1 x2 M = some M0 → ∀ {H : Heap} {locs : List Loc}, va_P G.1 g_cl (wd G (cb X M) τ) H → va_S (g_A G) s.heap H locs → ∀ {ls : Array Slot}, lv_has ls 5 [(0, .ref (G.2.1 39 0)), (1, .int x1), (2, .int x2)] → W p l e rm_X12_leaves s m args below meth c H locs 0 0 (MQ below (va_Qv (fun u => u = (X, M0, τ)) (g_pw G) (g_A G)) args s 0 0 (g_A G)) (F0 m 2 ls []) := by
  induction n with
  | zero =>
    intro x1 x2 M hf
    have hf : (none : Option (SM)) = _ := hf
    cases hf
  | succ n ih =>
    intro x1 x2 M hf H locs hP hS ls hl
    exact bk_X12_leaves_2 C0   (fun x1 x2 M => wl_X12_leaves_2   n x1 x2 M) ih x1 x2 M hf hP hS hl
def fn_X12_leaves (x1 : Int32) (M : SM) : Option (SM) :=
  wl_X12_leaves_2 1000 x1 0 M
set_option maxRecDepth 100000 in
set_option maxHeartbeats 4000000 in
theorem wk_X12_leaves {p : Program} {l : Launch} {e : Env} {s : State} {m : MethodId} {args : Array Value} {below : List Frame} {meth : Method} {c : Code} {G : GP} {X : SM} {τ : SL} (C0 : g_mc p s m args meth c RX12 cX12_leaves none 5 G) {M0 : SM} (x1 : Int32) (M : SM) (hf : fn_X12_leaves x1 M = some M0) {H : Heap} {locs : List Loc} (hP : va_P G.1 g_cl (wd G (cb X M) τ) H) (hS : va_S (g_A G) s.heap H locs) {ls : Array Slot} (hl : lv_has ls 5 [(0, .ref (G.2.1 39 0)), (1, .int x1)]) : W p l e rm_X12_leaves s m args below meth c H locs 0 0 (MQ below (va_Qv (fun u => u = (X, M0, τ)) (g_pw G) (g_A G)) args s 0 0 (g_A G)) (F0 m 0 ls []) := by
  obtain ⟨hx, hb, hr, hml, hown, hts, hlocks, hC⟩ := id C0
  unfold fn_X12_leaves at hf
  refine lv_iconst (v := 0) hx hb dX12_leaves_0 (by decide) ?_
  refine lv_istore_n (lv' := [(2, .int 0), (0, .ref (G.2.1 39 0)), (1, .int x1)]) hx hb dX12_leaves_1 rfl hl (by decide) rfl (fun ls hl => ?_)
  exact lp_X12_leaves_2 C0 1000 x1 0 M hf hP hS (lv_sub hl [1, 2, 0] rfl)
set_option maxRecDepth 100000 in
set_option maxHeartbeats 4000000 in
theorem ct_X12_leaves (l : Launch) (G : GP) (X M : SM) (τ : SL) (x1 : Int32) {M0 : SM} (hf : fn_X12_leaves x1 M = some M0) : Met l yX12_leaves (wz yX12_leaves cX12_leaves 5 none) rm_X12_leaves (va_Pc [.ref (G.2.1 39 0), .int x1] (g_pw G (X, M, τ))) (va_Qv (fun u => u = (X, M0, τ)) (g_pw G) (g_A G)) 0 0 (g_A G) := by
  refine Met.ofW (cc := cX12_leaves) (maxL := 5) (ret := none) (by decide +kernel) rfl ?_
  intro p e s m args below meth c s₁ B hml hv
  obtain ⟨rfl, hC, hP⟩ := hv
  have C0 : g_mc p s m _ meth c RX12 cX12_leaves none 5 G := ⟨B.exec, B.bytes, B.returns, hml, findClass_of_methodNamed B.named, fun w h => atoms_spec (ws := wz yX12_leaves cX12_leaves 5 none) B.pre w (List.mem_cons_of_mem _ h), B.notSynchronized, hC⟩
  have hl := lv_entry ([.ref (G.2.1 39 0), .int x1]) (n := 5) (Nat.le_of_ble_eq_true rfl)
  rw [lg_entry_eq]
  generalize (lg_sl ([.ref (G.2.1 39 0), .int x1]) ++ List.replicate (5 - (lg_sl ([.ref (G.2.1 39 0), .int x1])).length) Slot.unset).toArray = ls at hl ⊢
  exact wk_X12_leaves C0  x1 M hf hP va_S.rf hl
abbrev rm_X12_meets : Room := { frames := 1, cells := 0, slots := 0, locals := 24 }
def wb_X12_meets_86 (x1 : Int32) (x3 : Int32) (x4 : Int32) (x5 : Int32) (xs0 : Int32) (xs1 : Int32) (M : SM) : Option (SM) :=
  if g_in xs1 693 then
  g_let (u1 M 40 0 (xs1.toNatClampNeg) xs0) fun M_34 =>
  if g_in (480 + x1) 693 then
  g_let (u1 M_34 40 0 ((480 + x1).toNatClampNeg) x5) fun M_36 =>
  (fn_X12_reg x1 x4 M_36).bind fun r_37 =>
  if g_in (687 + x1) 693 then
  g_let (u1 M_36 40 0 ((687 + x1).toNatClampNeg) r_37) fun M_40 =>
  if g_in (518 + x3) 693 then
  if g_in ((494 + (6 * x3)) + (M_40 40 0 ((518 + x3).toNatClampNeg))) 693 then
  g_let (u1 M_40 40 0 (((494 + (6 * x3)) + (M_40 40 0 ((518 + x3).toNatClampNeg))).toNatClampNeg) x1) fun M_43 =>
  if g_in (518 + x3) 693 then
  if g_in (518 + x3) 693 then
  g_let (u1 M_43 40 0 ((518 + x3).toNatClampNeg) ((M_43 40 0 ((518 + x3).toNatClampNeg)) + 1)) fun M_46 =>
  some M_46
  else none
  else none
  else none
  else none
  else none
  else none
  else none
set_option maxRecDepth 100000 in
set_option maxHeartbeats 4000000 in
theorem bk_X12_meets_86 {p : Program} {l : Launch} {e : Env} {s : State} {m : MethodId} {args : Array Value} {below : List Frame} {meth : Method} {c : Code} {G : GP} {X : SM} {τ : SL} (C0 : g_mc p s m args meth c RX12 cX12_meets none 9 G) {M0 : SM} (x1 : Int32) (x3 : Int32) (x4 : Int32) (x5 : Int32) (xs0 : Int32) (xs1 : Int32) (M : SM) (hf : wb_X12_meets_86 x1 x3 x4 x5 xs0 xs1 M = some M0) {H : Heap} {locs : List Loc} (hP : va_P G.1 g_cl (wd G (cb X M) τ) H) (hS : va_S (g_A G) s.heap H locs) {ls : Array Slot} (hl : lv_has ls 9 [(0, .ref (G.2.1 39 0)), (1, .int x1), (3, .int x3), (4, .int x4), (5, .int x5)]) : W p l e rm_X12_meets s m args below meth c H locs 0 0 (MQ below (va_Qv (fun u => u = (X, M0, τ)) (g_pw G) (g_A G)) args s 0 0 (g_A G)) (F0 m 86 ls [.int xs0, .int xs1, .ref (G.2.1 40 0)]) := by
  obtain ⟨hx, hb, hr, hml, hown, hts, hlocks, hC⟩ := id C0
  unfold wb_X12_meets_86 at hf
  obtain ⟨hg_33, hf⟩ := g_gd hf
  obtain ⟨M_34, eM_34, hf⟩ := g_letE hf
  refine xistM (k := 40) (n := 693) hx hb hC hP hS (fun _ _ => rfl) rfl Nat.zero_lt_one hg_33 dX12_meets_86 (fun H locs hP hS => ?_)
  rw [eM_34] at hP
  refine lv_aload_n hx hb dX12_meets_87 rfl (lv_at hl 0 rfl) ?_
  refine gt_39_0 hx hb hts hown hC hP Nat.zero_lt_one q6_17 dX12_meets_88 ?_
  refine lv_sipush (v := 480) hx hb dX12_meets_91 (by decide) ?_
  refine lv_iload_n hx hb dX12_meets_94 rfl (lv_at hl 1 rfl) ?_
  refine lv_iadd hx hb dX12_meets_95 ?_
  refine lv_iload hx hb dX12_meets_96 (lv_at hl 4 rfl) ?_
  obtain ⟨hg_35, hf⟩ := g_gd hf
  obtain ⟨M_36, eM_36, hf⟩ := g_letE hf
  refine xistM (k := 40) (n := 693) hx hb hC hP hS (fun _ _ => rfl) rfl Nat.zero_lt_one hg_35 dX12_meets_98 (fun H locs hP hS => ?_)
  rw [eM_36] at hP
  refine lv_aload_n hx hb dX12_meets_99 rfl (lv_at hl 0 rfl) ?_
  refine gt_39_0 hx hb hts hown hC hP Nat.zero_lt_one q6_17 dX12_meets_100 ?_
  refine lv_sipush (v := 687) hx hb dX12_meets_103 (by decide) ?_
  refine lv_iload_n hx hb dX12_meets_106 rfl (lv_at hl 1 rfl) ?_
  refine lv_iadd hx hb dX12_meets_107 ?_
  refine lv_aload_n hx hb dX12_meets_108 rfl (lv_at hl 0 rfl) ?_
  refine lv_iload_n hx hb dX12_meets_109 rfl (lv_at hl 1 rfl) ?_
  refine lv_iload hx hb dX12_meets_110 (lv_at hl 3 rfl) ?_
  obtain ⟨r_37, hc_38, hf⟩ := g_bindE hf
  refine x_calli (v := (X, M_36, τ)) (va_runV (As := [.int x1, .int x4]) (rest := [.int (687 + x1), .ref (G.2.1 40 0)]) ⟨hx, hb, hml, hown, hts⟩ (ct_X12_reg l G X M_36 τ x1 x4 hc_38) (cwV 2 hts gd_X12_139 rfl rfl rfl hd_X12_reg ⟨Nat.le_of_ble_eq_true rfl, Nat.le_of_ble_eq_true rfl⟩) (x_preV (u := (X, M_36, τ)) (k := 39) (ci := 12) hC hS hP Nat.zero_lt_one rfl rfl) rfl rfl hl.1 rfl (lv_room (Nat.le_of_ble_eq_true rfl)) dX12_meets_112 ⟨Nat.zero_le _, Nat.zero_le _⟩) hS (fun H locs hP hS => ?_)
  obtain ⟨hg_39, hf⟩ := g_gd hf
  obtain ⟨M_40, eM_40, hf⟩ := g_letE hf
  refine xistM (k := 40) (n := 693) hx hb hC hP hS (fun _ _ => rfl) rfl Nat.zero_lt_one hg_39 dX12_meets_115 (fun H locs hP hS => ?_)
  rw [eM_40] at hP
  refine lv_aload_n hx hb dX12_meets_116 rfl (lv_at hl 0 rfl) ?_
  refine gt_39_0 hx hb hts hown hC hP Nat.zero_lt_one q6_17 dX12_meets_117 ?_
  refine lv_sipush (v := 494) hx hb dX12_meets_120 (by decide) ?_
  refine lv_bipush (v := 6) hx hb dX12_meets_123 (by decide) ?_
  refine lv_iload_n hx hb dX12_meets_125 rfl (lv_at hl 2 rfl) ?_
  refine lv_imul hx hb dX12_meets_126 ?_
  refine lv_iadd hx hb dX12_meets_127 ?_
  refine lv_aload_n hx hb dX12_meets_128 rfl (lv_at hl 0 rfl) ?_
  refine gt_39_0 hx hb hts hown hC hP Nat.zero_lt_one q6_17 dX12_meets_129 ?_
  refine lv_sipush (v := 518) hx hb dX12_meets_132 (by decide) ?_
  refine lv_iload_n hx hb dX12_meets_135 rfl (lv_at hl 2 rfl) ?_
  refine lv_iadd hx hb dX12_meets_136 ?_
  obtain ⟨hg_41, hf⟩ := g_gd hf
  refine xildM (k := 40) (n := 693) hx hb hC hP (fun _ _ => rfl) rfl Nat.zero_lt_one hg_41 dX12_meets_137 ?_
  refine lv_iadd hx hb dX12_meets_138 ?_
  refine lv_iload_n hx hb dX12_meets_139 rfl (lv_at hl 1 rfl) ?_
  obtain ⟨hg_42, hf⟩ := g_gd hf
  obtain ⟨M_43, eM_43, hf⟩ := g_letE hf
  refine xistM (k := 40) (n := 693) hx hb hC hP hS (fun _ _ => rfl) rfl Nat.zero_lt_one hg_42 dX12_meets_140 (fun H locs hP hS => ?_)
  rw [eM_43] at hP
  refine lv_aload_n hx hb dX12_meets_141 rfl (lv_at hl 0 rfl) ?_
  refine gt_39_0 hx hb hts hown hC hP Nat.zero_lt_one q6_17 dX12_meets_142 ?_
  refine lv_sipush (v := 518) hx hb dX12_meets_145 (by decide) ?_
  refine lv_iload_n hx hb dX12_meets_148 rfl (lv_at hl 2 rfl) ?_
  refine lv_iadd hx hb dX12_meets_149 ?_
  refine lv_dup2_11 hx hb dX12_meets_150 rfl rfl ?_
  obtain ⟨hg_44, hf⟩ := g_gd hf
  refine xildM (k := 40) (n := 693) hx hb hC hP (fun _ _ => rfl) rfl Nat.zero_lt_one hg_44 dX12_meets_151 ?_
  refine lv_iconst (v := 1) hx hb dX12_meets_152 (by decide) ?_
  refine lv_iadd hx hb dX12_meets_153 ?_
  obtain ⟨hg_45, hf⟩ := g_gd hf
  obtain ⟨M_46, eM_46, hf⟩ := g_letE hf
  refine xistM (k := 40) (n := 693) hx hb hC hP hS (fun _ _ => rfl) rfl Nat.zero_lt_one hg_45 dX12_meets_154 (fun H locs hP hS => ?_)
  rw [eM_46] at hP
  cases hf
  exact x_vret hx hb hlocks hC hP hS hr dX12_meets_155
def wb_X12_meets_43 (x1 : Int32) (x2 : Int32) (x3 : Int32) (x4 : Int32) (x5 : Int32) (x6 : Int32) (xs0 : Int32) (M : SM) : Option (SM) :=
  if x6 < 0 then
  (if x2 = 16 then
    (wb_X12_meets_86 x1 x3 x4 x5 2 (438 + x1) M)
    else
    (wb_X12_meets_86 x1 x3 x4 x5 3 (438 + x1) M))
  else
  (if g_in (438 + x6) 693 then
    if (M 40 0 ((438 + x6).toNatClampNeg)) = xs0 then
    (if g_in (480 + x6) 693 then
      (fn_X12_part x6 (M 40 0 ((480 + x6).toNatClampNeg)) 2 M).bind fun r_12 =>
      if x2 = 16 then
      ((fn_X12_reg x1 x4 M).bind fun r_23 =>
        (fn_X12_gets x6 r_12 r_23 M).bind fun M_25 =>
        if g_in (438 + x6) 693 then
        g_let (u1 M_25 40 0 ((438 + x6).toNatClampNeg) 0) fun M_28 =>
        (fn_X12_leaves x6 M_28).bind fun M_29 =>
        g_let (u1 M_29 40 0 (Int32.toNatClampNeg 686) ((M_29 40 0 686) + 1)) fun M_31 =>
        some M_31
        else none)
      else
      (if g_in (687 + x6) 693 then
        (fn_X12_gets x1 x4 (M 40 0 ((687 + x6).toNatClampNeg)) M).bind fun M_16 =>
        if g_in (438 + x6) 693 then
        g_let (u1 M_16 40 0 ((438 + x6).toNatClampNeg) 0) fun M_19 =>
        (fn_X12_leaves x6 M_19).bind fun M_20 =>
        g_let (u1 M_20 40 0 (Int32.toNatClampNeg 686) ((M_20 40 0 686) + 1)) fun M_22 =>
        some M_22
        else none
        else none)
      else none)
    else
    (if x2 = 16 then
      (wb_X12_meets_86 x1 x3 x4 x5 2 (438 + x1) M)
      else
      (wb_X12_meets_86 x1 x3 x4 x5 3 (438 + x1) M))
    else none)
set_option maxRecDepth 100000 in
set_option maxHeartbeats 4000000 in
theorem bk_X12_meets_43 {p : Program} {l : Launch} {e : Env} {s : State} {m : MethodId} {args : Array Value} {below : List Frame} {meth : Method} {c : Code} {G : GP} {X : SM} {τ : SL} (C0 : g_mc p s m args meth c RX12 cX12_meets none 9 G) {M0 : SM} (x1 : Int32) (x2 : Int32) (x3 : Int32) (x4 : Int32) (x5 : Int32) (x6 : Int32) (xs0 : Int32) (M : SM) (hf : wb_X12_meets_43 x1 x2 x3 x4 x5 x6 xs0 M = some M0) {H : Heap} {locs : List Loc} (hP : va_P G.1 g_cl (wd G (cb X M) τ) H) (hS : va_S (g_A G) s.heap H locs) {ls : Array Slot} (hl : lv_has ls 9 [(0, .ref (G.2.1 39 0)), (1, .int x1), (2, .int x2), (3, .int x3), (4, .int x4), (5, .int x5), (6, .int x6)]) : W p l e rm_X12_meets s m args below meth c H locs 0 0 (MQ below (va_Qv (fun u => u = (X, M0, τ)) (g_pw G) (g_A G)) args s 0 0 (g_A G)) (F0 m 43 ls [.int xs0]) := by
  obtain ⟨hx, hb, hr, hml, hown, hts, hlocks, hC⟩ := id C0
  unfold wb_X12_meets_43 at hf
  refine lv_istore (lv' := [(7, .int xs0), (0, .ref (G.2.1 39 0)), (1, .int x1), (2, .int x2), (3, .int x3), (4, .int x4), (5, .int x5), (6, .int x6)]) hx hb dX12_meets_43 hl (by decide) rfl (fun ls hl => ?_)
  refine lv_iload hx hb dX12_meets_45 (lv_at hl 7 rfl) ?_
  refine lv_if_lt (tgt := 66) hx hb dX12_meets_47 (by decide) (fun hc_7 => ?_) (fun hc_7 => ?_)
  · have hf := g_pos hf hc_7
    refine lv_aload_n hx hb dX12_meets_66 rfl (lv_at hl 1 rfl) ?_
    refine gt_39_0 hx hb hts hown hC hP Nat.zero_lt_one q6_17 dX12_meets_67 ?_
    refine lv_sipush (v := 438) hx hb dX12_meets_70 (by decide) ?_
    refine lv_iload_n hx hb dX12_meets_73 rfl (lv_at hl 2 rfl) ?_
    refine lv_iadd hx hb dX12_meets_74 ?_
    refine lv_iload_n hx hb dX12_meets_75 rfl (lv_at hl 3 rfl) ?_
    refine lv_bipush (v := 16) hx hb dX12_meets_76 (by decide) ?_
    refine lv_icmp_ne (tgt := 85) hx hb dX12_meets_78 (by decide) (fun hc_8 => ?_) (fun hc_8 => ?_)
    · have hf := g_neg hf hc_8
      refine lv_iconst (v := 3) hx hb dX12_meets_85 (by decide) ?_
      exact bk_X12_meets_86 C0 x1 x3 x4 x5 3 (438 + x1) M hf hP hS (lv_sub hl [1, 2, 4, 5, 6] rfl)
    · have hf := g_pos hf hc_8
      refine lv_iconst (v := 2) hx hb dX12_meets_81 (by decide) ?_
      refine lv_goto (tgt := 86) hx hb dX12_meets_82 (by decide) ?_
      exact bk_X12_meets_86 C0 x1 x3 x4 x5 2 (438 + x1) M hf hP hS (lv_sub hl [1, 2, 4, 5, 6] rfl)
  · have hf := g_neg hf hc_7
    refine lv_aload_n hx hb dX12_meets_50 rfl (lv_at hl 1 rfl) ?_
    refine gt_39_0 hx hb hts hown hC hP Nat.zero_lt_one q6_17 dX12_meets_51 ?_
    refine lv_sipush (v := 438) hx hb dX12_meets_54 (by decide) ?_
    refine lv_iload hx hb dX12_meets_57 (lv_at hl 7 rfl) ?_
    refine lv_iadd hx hb dX12_meets_59 ?_
    obtain ⟨hg_9, hf⟩ := g_gd hf
    refine xildM (k := 40) (n := 693) hx hb hC hP (fun _ _ => rfl) rfl Nat.zero_lt_one hg_9 dX12_meets_60 ?_
    refine lv_iload hx hb dX12_meets_61 (lv_at hl 0 rfl) ?_
    refine lv_icmp_eq (tgt := 156) hx hb dX12_meets_63 (by decide) (fun hc_10 => ?_) (fun hc_10 => ?_)
    · have hf := g_pos hf hc_10
      refine lv_aload_n hx hb dX12_meets_156 rfl (lv_at hl 1 rfl) ?_
      refine lv_iload hx hb dX12_meets_157 (lv_at hl 7 rfl) ?_
      refine lv_aload_n hx hb dX12_meets_159 rfl (lv_at hl 1 rfl) ?_
      refine gt_39_0 hx hb hts hown hC hP Nat.zero_lt_one q6_17 dX12_meets_160 ?_
      refine lv_sipush (v := 480) hx hb dX12_meets_163 (by decide) ?_
      refine lv_iload hx hb dX12_meets_166 (lv_at hl 7 rfl) ?_
      refine lv_iadd hx hb dX12_meets_168 ?_
      obtain ⟨hg_11, hf⟩ := g_gd hf
      refine xildM (k := 40) (n := 693) hx hb hC hP (fun _ _ => rfl) rfl Nat.zero_lt_one hg_11 dX12_meets_169 ?_
      refine lv_iconst (v := 2) hx hb dX12_meets_170 (by decide) ?_
      obtain ⟨r_12, hc_13, hf⟩ := g_bindE hf
      refine x_calli (v := (X, M, τ)) (va_runV (As := [.int x6, .int (M 40 0 ((480 + x6).toNatClampNeg)), .int 2]) (rest := []) ⟨hx, hb, hml, hown, hts⟩ (ct_X12_part l G X M τ x6 (M 40 0 ((480 + x6).toNatClampNeg)) 2 hc_13) (cwV 3 hts gd_X12_115 rfl rfl rfl hd_X12_part ⟨Nat.le_of_ble_eq_true rfl, Nat.le_of_ble_eq_true rfl⟩) (x_preV (u := (X, M, τ)) (k := 39) (ci := 12) hC hS hP Nat.zero_lt_one rfl rfl) rfl rfl hl.1 rfl (lv_room (Nat.le_of_ble_eq_true rfl)) dX12_meets_171 ⟨Nat.zero_le _, Nat.zero_le _⟩) hS (fun H locs hP hS => ?_)
      refine lv_istore (lv' := [(8, .int r_12), (7, .int xs0), (0, .ref (G.2.1 39 0)), (1, .int x1), (2, .int x2), (3, .int x3), (4, .int x4), (5, .int x5), (6, .int x6)]) hx hb dX12_meets_174 hl (by decide) rfl (fun ls hl => ?_)
      refine lv_iload_n hx hb dX12_meets_176 rfl (lv_at hl 4 rfl) ?_
      refine lv_bipush (v := 16) hx hb dX12_meets_177 (by decide) ?_
      refine lv_icmp_ne (tgt := 200) hx hb dX12_meets_179 (by decide) (fun hc_14 => ?_) (fun hc_14 => ?_)
      · have hf := g_neg hf hc_14
        refine lv_aload_n hx hb dX12_meets_200 rfl (lv_at hl 2 rfl) ?_
        refine lv_iload_n hx hb dX12_meets_201 rfl (lv_at hl 3 rfl) ?_
        refine lv_iload hx hb dX12_meets_202 (lv_at hl 6 rfl) ?_
        refine lv_aload_n hx hb dX12_meets_204 rfl (lv_at hl 2 rfl) ?_
        refine gt_39_0 hx hb hts hown hC hP Nat.zero_lt_one q6_17 dX12_meets_205 ?_
        refine lv_sipush (v := 687) hx hb dX12_meets_208 (by decide) ?_
        refine lv_iload hx hb dX12_meets_211 (lv_at hl 8 rfl) ?_
        refine lv_iadd hx hb dX12_meets_213 ?_
        obtain ⟨hg_15, hf⟩ := g_gd hf
        refine xildM (k := 40) (n := 693) hx hb hC hP (fun _ _ => rfl) rfl Nat.zero_lt_one hg_15 dX12_meets_214 ?_
        obtain ⟨M_16, hc_17, hf⟩ := g_bindE hf
        refine x_callv (v := (X, M_16, τ)) (va_runV (As := [.int x1, .int x4, .int (M 40 0 ((687 + x6).toNatClampNeg))]) (rest := []) ⟨hx, hb, hml, hown, hts⟩ (ct_X12_gets l G X M τ x1 x4 (M 40 0 ((687 + x6).toNatClampNeg)) hc_17) (cwV 3 hts gd_X12_123 rfl rfl rfl hd_X12_gets ⟨Nat.le_of_ble_eq_true rfl, Nat.le_of_ble_eq_true rfl⟩) (x_preV (u := (X, M, τ)) (k := 39) (ci := 12) hC hS hP Nat.zero_lt_one rfl rfl) rfl rfl hl.1 rfl (lv_room (Nat.le_of_ble_eq_true rfl)) dX12_meets_215 ⟨Nat.zero_le _, Nat.zero_le _⟩) hS (fun H locs hP hS => ?_)
        refine lv_aload_n hx hb dX12_meets_218 rfl (lv_at hl 2 rfl) ?_
        refine gt_39_0 hx hb hts hown hC hP Nat.zero_lt_one q6_17 dX12_meets_219 ?_
        refine lv_sipush (v := 438) hx hb dX12_meets_222 (by decide) ?_
        refine lv_iload hx hb dX12_meets_225 (lv_at hl 8 rfl) ?_
        refine lv_iadd hx hb dX12_meets_227 ?_
        refine lv_iconst (v := 0) hx hb dX12_meets_228 (by decide) ?_
        obtain ⟨hg_18, hf⟩ := g_gd hf
        obtain ⟨M_19, eM_19, hf⟩ := g_letE hf
        refine xistM (k := 40) (n := 693) hx hb hC hP hS (fun _ _ => rfl) rfl Nat.zero_lt_one hg_18 dX12_meets_229 (fun H locs hP hS => ?_)
        rw [eM_19] at hP
        refine lv_aload_n hx hb dX12_meets_230 rfl (lv_at hl 2 rfl) ?_
        refine lv_iload hx hb dX12_meets_231 (lv_at hl 8 rfl) ?_
        obtain ⟨M_20, hc_21, hf⟩ := g_bindE hf
        refine x_callv (v := (X, M_20, τ)) (va_runV (As := [.int x6]) (rest := []) ⟨hx, hb, hml, hown, hts⟩ (ct_X12_leaves l G X M_19 τ x6 hc_21) (cwV 1 hts gd_X12_88 rfl rfl rfl hd_X12_leaves ⟨Nat.le_of_ble_eq_true rfl, Nat.le_of_ble_eq_true rfl⟩) (x_preV (u := (X, M_19, τ)) (k := 39) (ci := 12) hC hS hP Nat.zero_lt_one rfl rfl) rfl rfl hl.1 rfl (lv_room (Nat.le_of_ble_eq_true rfl)) dX12_meets_233 ⟨Nat.zero_le _, Nat.zero_le _⟩) hS (fun H locs hP hS => ?_)
        refine lv_aload_n hx hb dX12_meets_236 rfl (lv_at hl 2 rfl) ?_
        refine gt_39_0 hx hb hts hown hC hP Nat.zero_lt_one q6_17 dX12_meets_237 ?_
        refine lv_sipush (v := 686) hx hb dX12_meets_240 (by decide) ?_
        refine lv_dup2_11 hx hb dX12_meets_243 rfl rfl ?_
        refine xildM (k := 40) (n := 693) hx hb hC hP (fun _ _ => rfl) rfl Nat.zero_lt_one (by decide) dX12_meets_244 ?_
        refine lv_topE (show M_20 40 0 (Int32.toNatClampNeg 686) = M_20 40 0 686 from rfl) ?_
        refine lv_iconst (v := 1) hx hb dX12_meets_245 (by decide) ?_
        refine lv_iadd hx hb dX12_meets_246 ?_
        obtain ⟨M_22, eM_22, hf⟩ := g_letE hf
        refine xistM (k := 40) (n := 693) hx hb hC hP hS (fun _ _ => rfl) rfl Nat.zero_lt_one (by decide) dX12_meets_247 (fun H locs hP hS => ?_)
        rw [eM_22] at hP
        cases hf
        exact x_vret hx hb hlocks hC hP hS hr dX12_meets_248
      · have hf := g_pos hf hc_14
        refine lv_aload_n hx hb dX12_meets_182 rfl (lv_at hl 2 rfl) ?_
        refine lv_iload hx hb dX12_meets_183 (lv_at hl 8 rfl) ?_
        refine lv_iload hx hb dX12_meets_185 (lv_at hl 0 rfl) ?_
        refine lv_aload_n hx hb dX12_meets_187 rfl (lv_at hl 2 rfl) ?_
        refine lv_iload_n hx hb dX12_meets_188 rfl (lv_at hl 3 rfl) ?_
        refine lv_iload hx hb dX12_meets_189 (lv_at hl 6 rfl) ?_
        obtain ⟨r_23, hc_24, hf⟩ := g_bindE hf
        refine x_calli (v := (X, M, τ)) (va_runV (As := [.int x1, .int x4]) (rest := [.int r_12, .int x6, .ref (G.2.1 39 0)]) ⟨hx, hb, hml, hown, hts⟩ (ct_X12_reg l G X M τ x1 x4 hc_24) (cwV 2 hts gd_X12_139 rfl rfl rfl hd_X12_reg ⟨Nat.le_of_ble_eq_true rfl, Nat.le_of_ble_eq_true rfl⟩) (x_preV (u := (X, M, τ)) (k := 39) (ci := 12) hC hS hP Nat.zero_lt_one rfl rfl) rfl rfl hl.1 rfl (lv_room (Nat.le_of_ble_eq_true rfl)) dX12_meets_191 ⟨Nat.zero_le _, Nat.zero_le _⟩) hS (fun H locs hP hS => ?_)
        obtain ⟨M_25, hc_26, hf⟩ := g_bindE hf
        refine x_callv (v := (X, M_25, τ)) (va_runV (As := [.int x6, .int r_12, .int r_23]) (rest := []) ⟨hx, hb, hml, hown, hts⟩ (ct_X12_gets l G X M τ x6 r_12 r_23 hc_26) (cwV 3 hts gd_X12_123 rfl rfl rfl hd_X12_gets ⟨Nat.le_of_ble_eq_true rfl, Nat.le_of_ble_eq_true rfl⟩) (x_preV (u := (X, M, τ)) (k := 39) (ci := 12) hC hS hP Nat.zero_lt_one rfl rfl) rfl rfl hl.1 rfl (lv_room (Nat.le_of_ble_eq_true rfl)) dX12_meets_194 ⟨Nat.zero_le _, Nat.zero_le _⟩) hS (fun H locs hP hS => ?_)
        refine lv_goto (tgt := 218) hx hb dX12_meets_197 (by decide) ?_
        refine lv_aload_n hx hb dX12_meets_218 rfl (lv_at hl 2 rfl) ?_
        refine gt_39_0 hx hb hts hown hC hP Nat.zero_lt_one q6_17 dX12_meets_219 ?_
        refine lv_sipush (v := 438) hx hb dX12_meets_222 (by decide) ?_
        refine lv_iload hx hb dX12_meets_225 (lv_at hl 8 rfl) ?_
        refine lv_iadd hx hb dX12_meets_227 ?_
        refine lv_iconst (v := 0) hx hb dX12_meets_228 (by decide) ?_
        obtain ⟨hg_27, hf⟩ := g_gd hf
        obtain ⟨M_28, eM_28, hf⟩ := g_letE hf
        refine xistM (k := 40) (n := 693) hx hb hC hP hS (fun _ _ => rfl) rfl Nat.zero_lt_one hg_27 dX12_meets_229 (fun H locs hP hS => ?_)
        rw [eM_28] at hP
        refine lv_aload_n hx hb dX12_meets_230 rfl (lv_at hl 2 rfl) ?_
        refine lv_iload hx hb dX12_meets_231 (lv_at hl 8 rfl) ?_
        obtain ⟨M_29, hc_30, hf⟩ := g_bindE hf
        refine x_callv (v := (X, M_29, τ)) (va_runV (As := [.int x6]) (rest := []) ⟨hx, hb, hml, hown, hts⟩ (ct_X12_leaves l G X M_28 τ x6 hc_30) (cwV 1 hts gd_X12_88 rfl rfl rfl hd_X12_leaves ⟨Nat.le_of_ble_eq_true rfl, Nat.le_of_ble_eq_true rfl⟩) (x_preV (u := (X, M_28, τ)) (k := 39) (ci := 12) hC hS hP Nat.zero_lt_one rfl rfl) rfl rfl hl.1 rfl (lv_room (Nat.le_of_ble_eq_true rfl)) dX12_meets_233 ⟨Nat.zero_le _, Nat.zero_le _⟩) hS (fun H locs hP hS => ?_)
        refine lv_aload_n hx hb dX12_meets_236 rfl (lv_at hl 2 rfl) ?_
        refine gt_39_0 hx hb hts hown hC hP Nat.zero_lt_one q6_17 dX12_meets_237 ?_
        refine lv_sipush (v := 686) hx hb dX12_meets_240 (by decide) ?_
        refine lv_dup2_11 hx hb dX12_meets_243 rfl rfl ?_
        refine xildM (k := 40) (n := 693) hx hb hC hP (fun _ _ => rfl) rfl Nat.zero_lt_one (by decide) dX12_meets_244 ?_
        refine lv_topE (show M_29 40 0 (Int32.toNatClampNeg 686) = M_29 40 0 686 from rfl) ?_
        refine lv_iconst (v := 1) hx hb dX12_meets_245 (by decide) ?_
        refine lv_iadd hx hb dX12_meets_246 ?_
        obtain ⟨M_31, eM_31, hf⟩ := g_letE hf
        refine xistM (k := 40) (n := 693) hx hb hC hP hS (fun _ _ => rfl) rfl Nat.zero_lt_one (by decide) dX12_meets_247 (fun H locs hP hS => ?_)
        rw [eM_31] at hP
        cases hf
        exact x_vret hx hb hlocks hC hP hS hr dX12_meets_248
    · have hf := g_neg hf hc_10
      refine lv_aload_n hx hb dX12_meets_66 rfl (lv_at hl 1 rfl) ?_
      refine gt_39_0 hx hb hts hown hC hP Nat.zero_lt_one q6_17 dX12_meets_67 ?_
      refine lv_sipush (v := 438) hx hb dX12_meets_70 (by decide) ?_
      refine lv_iload_n hx hb dX12_meets_73 rfl (lv_at hl 2 rfl) ?_
      refine lv_iadd hx hb dX12_meets_74 ?_
      refine lv_iload_n hx hb dX12_meets_75 rfl (lv_at hl 3 rfl) ?_
      refine lv_bipush (v := 16) hx hb dX12_meets_76 (by decide) ?_
      refine lv_icmp_ne (tgt := 85) hx hb dX12_meets_78 (by decide) (fun hc_32 => ?_) (fun hc_32 => ?_)
      · have hf := g_neg hf hc_32
        refine lv_iconst (v := 3) hx hb dX12_meets_85 (by decide) ?_
        exact bk_X12_meets_86 C0 x1 x3 x4 x5 3 (438 + x1) M hf hP hS (lv_sub hl [1, 2, 4, 5, 6] rfl)
      · have hf := g_pos hf hc_32
        refine lv_iconst (v := 2) hx hb dX12_meets_81 (by decide) ?_
        refine lv_goto (tgt := 86) hx hb dX12_meets_82 (by decide) ?_
        exact bk_X12_meets_86 C0 x1 x3 x4 x5 2 (438 + x1) M hf hP hS (lv_sub hl [1, 2, 4, 5, 6] rfl)
def fn_X12_meets (x1 : Int32) (x2 : Int32) (x3 : Int32) (x4 : Int32) (x5 : Int32) (M : SM) : Option (SM) :=
  if g_in (518 + x3) 693 then
  if (M 40 0 ((518 + x3).toNatClampNeg)) ≤ 0 then
  (if x2 = 16 then
    (wb_X12_meets_43 x1 x2 x3 x4 x5 (-1) 3 M)
    else
    (wb_X12_meets_43 x1 x2 x3 x4 x5 (-1) 2 M))
  else
  (if g_in (494 + (6 * x3)) 693 then
    g_let ((M 40 0 ((494 + (6 * x3)).toNatClampNeg))) fun x6_5 =>
    if x2 = 16 then
    (wb_X12_meets_43 x1 x2 x3 x4 x5 x6_5 3 M)
    else
    (wb_X12_meets_43 x1 x2 x3 x4 x5 x6_5 2 M)
    else none)
  else none
set_option maxRecDepth 100000 in
set_option maxHeartbeats 4000000 in
theorem wk_X12_meets {p : Program} {l : Launch} {e : Env} {s : State} {m : MethodId} {args : Array Value} {below : List Frame} {meth : Method} {c : Code} {G : GP} {X : SM} {τ : SL} (C0 : g_mc p s m args meth c RX12 cX12_meets none 9 G) {M0 : SM} (x1 : Int32) (x2 : Int32) (x3 : Int32) (x4 : Int32) (x5 : Int32) (M : SM) (hf : fn_X12_meets x1 x2 x3 x4 x5 M = some M0) {H : Heap} {locs : List Loc} (hP : va_P G.1 g_cl (wd G (cb X M) τ) H) (hS : va_S (g_A G) s.heap H locs) {ls : Array Slot} (hl : lv_has ls 9 [(0, .ref (G.2.1 39 0)), (1, .int x1), (2, .int x2), (3, .int x3), (4, .int x4), (5, .int x5)]) : W p l e rm_X12_meets s m args below meth c H locs 0 0 (MQ below (va_Qv (fun u => u = (X, M0, τ)) (g_pw G) (g_A G)) args s 0 0 (g_A G)) (F0 m 0 ls []) := by
  obtain ⟨hx, hb, hr, hml, hown, hts, hlocks, hC⟩ := id C0
  unfold fn_X12_meets at hf
  refine lv_aload_n hx hb dX12_meets_0 rfl (lv_at hl 0 rfl) ?_
  refine gt_39_0 hx hb hts hown hC hP Nat.zero_lt_one q6_17 dX12_meets_1 ?_
  refine lv_sipush (v := 518) hx hb dX12_meets_4 (by decide) ?_
  refine lv_iload_n hx hb dX12_meets_7 rfl (lv_at hl 3 rfl) ?_
  refine lv_iadd hx hb dX12_meets_8 ?_
  obtain ⟨hg_1, hf⟩ := g_gd hf
  refine xildM (k := 40) (n := 693) hx hb hC hP (fun _ _ => rfl) rfl Nat.zero_lt_one hg_1 dX12_meets_9 ?_
  refine lv_if_le (tgt := 29) hx hb dX12_meets_10 (by decide) (fun hc_2 => ?_) (fun hc_2 => ?_)
  · have hf := g_pos hf hc_2
    refine lv_iconst (v := (-1)) hx hb dX12_meets_29 (by decide) ?_
    refine lv_istore (lv' := [(6, .int (-1)), (0, .ref (G.2.1 39 0)), (1, .int x1), (2, .int x2), (3, .int x3), (4, .int x4), (5, .int x5)]) hx hb dX12_meets_30 hl (by decide) rfl (fun ls hl => ?_)
    refine lv_iload_n hx hb dX12_meets_32 rfl (lv_at hl 3 rfl) ?_
    refine lv_bipush (v := 16) hx hb dX12_meets_33 (by decide) ?_
    refine lv_icmp_ne (tgt := 42) hx hb dX12_meets_35 (by decide) (fun hc_3 => ?_) (fun hc_3 => ?_)
    · have hf := g_neg hf hc_3
      refine lv_iconst (v := 2) hx hb dX12_meets_42 (by decide) ?_
      exact bk_X12_meets_43 C0 x1 x2 x3 x4 x5 (-1) 2 M hf hP hS (lv_sub hl [1, 2, 3, 4, 5, 6, 0] rfl)
    · have hf := g_pos hf hc_3
      refine lv_iconst (v := 3) hx hb dX12_meets_38 (by decide) ?_
      refine lv_goto (tgt := 43) hx hb dX12_meets_39 (by decide) ?_
      exact bk_X12_meets_43 C0 x1 x2 x3 x4 x5 (-1) 3 M hf hP hS (lv_sub hl [1, 2, 3, 4, 5, 6, 0] rfl)
  · have hf := g_neg hf hc_2
    refine lv_aload_n hx hb dX12_meets_13 rfl (lv_at hl 0 rfl) ?_
    refine gt_39_0 hx hb hts hown hC hP Nat.zero_lt_one q6_17 dX12_meets_14 ?_
    refine lv_sipush (v := 494) hx hb dX12_meets_17 (by decide) ?_
    refine lv_bipush (v := 6) hx hb dX12_meets_20 (by decide) ?_
    refine lv_iload_n hx hb dX12_meets_22 rfl (lv_at hl 3 rfl) ?_
    refine lv_imul hx hb dX12_meets_23 ?_
    refine lv_iadd hx hb dX12_meets_24 ?_
    obtain ⟨hg_4, hf⟩ := g_gd hf
    refine xildM (k := 40) (n := 693) hx hb hC hP (fun _ _ => rfl) rfl Nat.zero_lt_one hg_4 dX12_meets_25 ?_
    refine lv_goto (tgt := 30) hx hb dX12_meets_26 (by decide) ?_
    obtain ⟨x6_5, ex6_5, hf⟩ := g_letE hf
    refine lv_topE ex6_5 ?_
    refine lv_istore (lv' := [(6, .int x6_5), (0, .ref (G.2.1 39 0)), (1, .int x1), (2, .int x2), (3, .int x3), (4, .int x4), (5, .int x5)]) hx hb dX12_meets_30 hl (by decide) rfl (fun ls hl => ?_)
    refine lv_iload_n hx hb dX12_meets_32 rfl (lv_at hl 3 rfl) ?_
    refine lv_bipush (v := 16) hx hb dX12_meets_33 (by decide) ?_
    refine lv_icmp_ne (tgt := 42) hx hb dX12_meets_35 (by decide) (fun hc_6 => ?_) (fun hc_6 => ?_)
    · have hf := g_neg hf hc_6
      refine lv_iconst (v := 2) hx hb dX12_meets_42 (by decide) ?_
      exact bk_X12_meets_43 C0 x1 x2 x3 x4 x5 x6_5 2 M hf hP hS (lv_sub hl [1, 2, 3, 4, 5, 6, 0] rfl)
    · have hf := g_pos hf hc_6
      refine lv_iconst (v := 3) hx hb dX12_meets_38 (by decide) ?_
      refine lv_goto (tgt := 43) hx hb dX12_meets_39 (by decide) ?_
      exact bk_X12_meets_43 C0 x1 x2 x3 x4 x5 x6_5 3 M hf hP hS (lv_sub hl [1, 2, 3, 4, 5, 6, 0] rfl)
set_option maxRecDepth 100000 in
set_option maxHeartbeats 4000000 in
theorem ct_X12_meets (l : Launch) (G : GP) (X M : SM) (τ : SL) (x1 : Int32) (x2 : Int32) (x3 : Int32) (x4 : Int32) (x5 : Int32) {M0 : SM} (hf : fn_X12_meets x1 x2 x3 x4 x5 M = some M0) : Met l yX12_meets (wz yX12_meets cX12_meets 9 none) rm_X12_meets (va_Pc [.ref (G.2.1 39 0), .int x1, .int x2, .int x3, .int x4, .int x5] (g_pw G (X, M, τ))) (va_Qv (fun u => u = (X, M0, τ)) (g_pw G) (g_A G)) 0 0 (g_A G) := by
  refine Met.ofW (cc := cX12_meets) (maxL := 9) (ret := none) (by decide +kernel) rfl ?_
  intro p e s m args below meth c s₁ B hml hv
  obtain ⟨rfl, hC, hP⟩ := hv
  have C0 : g_mc p s m _ meth c RX12 cX12_meets none 9 G := ⟨B.exec, B.bytes, B.returns, hml, findClass_of_methodNamed B.named, fun w h => atoms_spec (ws := wz yX12_meets cX12_meets 9 none) B.pre w (List.mem_cons_of_mem _ h), B.notSynchronized, hC⟩
  have hl := lv_entry ([.ref (G.2.1 39 0), .int x1, .int x2, .int x3, .int x4, .int x5]) (n := 9) (Nat.le_of_ble_eq_true rfl)
  rw [lg_entry_eq]
  generalize (lg_sl ([.ref (G.2.1 39 0), .int x1, .int x2, .int x3, .int x4, .int x5]) ++ List.replicate (9 - (lg_sl ([.ref (G.2.1 39 0), .int x1, .int x2, .int x3, .int x4, .int x5])).length) Slot.unset).toArray = ls at hl ⊢
  exact wk_X12_meets C0  x1 x2 x3 x4 x5 M hf hP va_S.rf hl
abbrev rm_X12_does : Room := { frames := 3, cells := 0, slots := 0, locals := 68 }
def wb_X12_does_157 (x1 : Int32) (x2 : Int32) (x3 : Int32) (x4 : Int32) (x5 : Int32) (x6 : Int32) (x8 : Int32) (M : SM) : Option (SM) :=
  (fn_X12_goesTo x1 x8 M).bind fun M_32 =>
  if x3 < 7 then
  ((fn_X12_reckons x1 x3 x4 x5 x6 M_32).bind fun M_35 =>
    some M_35)
  else
  (if x3 = 15 then
    ((fn_X12_reckons x1 x3 x4 x5 x6 M_32).bind fun M_38 =>
      some M_38)
    else
    (if x3 ≤ 18 then
      (if x3 = 10 then
        ((fn_X12_reg x1 x5 M_32).bind fun r_64 =>
          (fn_X12_writes x4 r_64 0 M_32).bind fun M_66 =>
          some M_66)
        else
        (if x3 = 12 then
          (if g_in (486 + x4) 693 then
            (fn_X12_gets x1 x5 (M_32 40 0 ((486 + x4).toNatClampNeg)) M_32).bind fun M_62 =>
            some M_62
            else none)
          else
          (if x3 = 11 then
            ((fn_X12_waits x1 x2 x3 x4 x5 x6 M_32).bind fun M_44 =>
              some M_44)
            else
            (if x3 = 13 then
              ((fn_X12_waits x1 x2 x3 x4 x5 x6 M_32).bind fun M_47 =>
                some M_47)
              else
              (if x3 = 14 then
                ((fn_X12_waits x1 x2 x3 x4 x5 x6 M_32).bind fun M_59 =>
                  some M_59)
                else
                (if x3 = 16 then
                  ((fn_X12_meets x1 x3 x4 x5 x2 M_32).bind fun M_51 =>
                    some M_51)
                  else
                  (if x3 = 17 then
                    ((fn_X12_meets x1 x3 x4 x5 x2 M_32).bind fun M_57 =>
                      some M_57)
                    else
                    (if x3 = 18 then
                      (if g_in (438 + x1) 693 then
                        g_let (u1 M_32 40 0 ((438 + x1).toNatClampNeg) 4) fun M_56 =>
                        some M_56
                        else none)
                      else
                      (some M_32)))))))))
      else
      ((fn_X12_reckons x1 x3 x4 x5 x6 M_32).bind fun M_68 =>
        some M_68)))
set_option maxRecDepth 100000 in
set_option maxHeartbeats 4000000 in
theorem bk_X12_does_157 {p : Program} {l : Launch} {e : Env} {s : State} {m : MethodId} {args : Array Value} {below : List Frame} {meth : Method} {c : Code} {G : GP} {X : SM} {τ : SL} (C0 : g_mc p s m args meth c RX12 cX12_does none 9 G) {M0 : SM} (x1 : Int32) (x2 : Int32) (x3 : Int32) (x4 : Int32) (x5 : Int32) (x6 : Int32) (x8 : Int32) (M : SM) (hf : wb_X12_does_157 x1 x2 x3 x4 x5 x6 x8 M = some M0) {d : Drawn} (hd : s.drawn.sameBut d lw_cs) {H : Heap} {locs : List Loc} (hP : va_P G.1 g_cl (wd G (cb X M) τ) H) (hS : va_S (g_A G) s.heap H locs) {ls : Array Slot} (hl : lv_has ls 9 [(0, .ref (G.2.1 39 0)), (1, .int x1), (2, .int x2), (3, .int x3), (4, .int x4), (5, .int x5), (6, .int x6), (8, .int x8)]) : W p l e rm_X12_does (s.setDrawn d) m args below meth c H locs 0 0 (MQD lw_cs below (va_Qv (fun u => u = (X, M0, τ)) (g_pw G) (g_A G)) args s 0 0 (g_A G)) (F0 m 157 ls []) := by
  obtain ⟨hx, hb, hr, hml, hown, hts0, hlocks, hC0⟩ := id C0
  have hts := dr_words hts0 d
  have hC := hC0.dr d
  unfold wb_X12_does_157 at hf
  refine lv_aload_n hx hb dX12_does_157 rfl (lv_at hl 0 rfl) ?_
  refine lv_iload_n hx hb dX12_does_158 rfl (lv_at hl 1 rfl) ?_
  refine lv_iload hx hb dX12_does_159 (lv_at hl 7 rfl) ?_
  obtain ⟨M_32, hc_33, hf⟩ := g_bindE hf
  refine x_callv (v := (X, M_32, τ)) (va_runV (As := [.int x1, .int x8]) (rest := []) ⟨hx, hb, hml, hown, hts⟩ (ct_X12_goesTo l G X M τ x1 x8 hc_33) (cwV 2 hts gd_X12_150 rfl rfl rfl hd_X12_goesTo ⟨Nat.le_of_ble_eq_true rfl, Nat.le_of_ble_eq_true rfl⟩) (x_preV (u := (X, M, τ)) (k := 39) (ci := 12) hC hS hP Nat.zero_lt_one rfl rfl) rfl rfl hl.1 rfl (lv_room (Nat.le_of_ble_eq_true rfl)) dX12_does_161 ⟨Nat.zero_le _, Nat.zero_le _⟩) hS (fun H locs hP hS => ?_)
  refine lv_iload_n hx hb dX12_does_164 rfl (lv_at hl 3 rfl) ?_
  refine lv_bipush (v := 7) hx hb dX12_does_165 (by decide) ?_
  refine lv_icmp_lt (tgt := 182) hx hb dX12_does_167 (by decide) (fun hc_34 => ?_) (fun hc_34 => ?_)
  · have hf := g_pos hf hc_34
    refine lv_aload_n hx hb dX12_does_182 rfl (lv_at hl 0 rfl) ?_
    refine lv_iload_n hx hb dX12_does_183 rfl (lv_at hl 1 rfl) ?_
    refine lv_iload_n hx hb dX12_does_184 rfl (lv_at hl 3 rfl) ?_
    refine lv_iload hx hb dX12_does_185 (lv_at hl 4 rfl) ?_
    refine lv_iload hx hb dX12_does_187 (lv_at hl 5 rfl) ?_
    refine lv_iload hx hb dX12_does_189 (lv_at hl 6 rfl) ?_
    obtain ⟨M_35, hc_36, hf⟩ := g_bindE hf
    refine x_callvD (v := (X, M_35, τ)) hd (va_runV_D (As := [.int x1, .int x3, .int x4, .int x5, .int x6]) (rest := []) ⟨hx, hb, hml, hown, hts⟩ (ct_X12_reckons l G X M_32 τ x1 x3 x4 x5 x6 hc_36) (cwV 5 hts gd_X12_154 rfl rfl rfl hd_X12_reckons ⟨Nat.le_of_ble_eq_true rfl, Nat.le_of_ble_eq_true rfl⟩) (x_preV (u := (X, M_32, τ)) (k := 39) (ci := 12) hC hS hP Nat.zero_lt_one rfl rfl) rfl rfl hl.1 rfl (lv_room (Nat.le_of_ble_eq_true rfl)) dX12_does_191 ⟨Nat.zero_le _, Nat.zero_le _⟩) hS (fun H locs hP hS d hd => ?_)
    have hts := dr_words hts0 d
    have hC := hC0.dr d
    refine lv_goto (tgt := 324) hx hb dX12_does_194 (by decide) ?_
    cases hf
    refine W.endD hd ?_
    exact x_vret hx hb hlocks hC hP hS hr dX12_does_324
  · have hf := g_neg hf hc_34
    refine lv_iload_n hx hb dX12_does_170 rfl (lv_at hl 3 rfl) ?_
    refine lv_bipush (v := 15) hx hb dX12_does_171 (by decide) ?_
    refine lv_icmp_eq (tgt := 182) hx hb dX12_does_173 (by decide) (fun hc_37 => ?_) (fun hc_37 => ?_)
    · have hf := g_pos hf hc_37
      refine lv_aload_n hx hb dX12_does_182 rfl (lv_at hl 0 rfl) ?_
      refine lv_iload_n hx hb dX12_does_183 rfl (lv_at hl 1 rfl) ?_
      refine lv_iload_n hx hb dX12_does_184 rfl (lv_at hl 3 rfl) ?_
      refine lv_iload hx hb dX12_does_185 (lv_at hl 4 rfl) ?_
      refine lv_iload hx hb dX12_does_187 (lv_at hl 5 rfl) ?_
      refine lv_iload hx hb dX12_does_189 (lv_at hl 6 rfl) ?_
      obtain ⟨M_38, hc_39, hf⟩ := g_bindE hf
      refine x_callvD (v := (X, M_38, τ)) hd (va_runV_D (As := [.int x1, .int x3, .int x4, .int x5, .int x6]) (rest := []) ⟨hx, hb, hml, hown, hts⟩ (ct_X12_reckons l G X M_32 τ x1 x3 x4 x5 x6 hc_39) (cwV 5 hts gd_X12_154 rfl rfl rfl hd_X12_reckons ⟨Nat.le_of_ble_eq_true rfl, Nat.le_of_ble_eq_true rfl⟩) (x_preV (u := (X, M_32, τ)) (k := 39) (ci := 12) hC hS hP Nat.zero_lt_one rfl rfl) rfl rfl hl.1 rfl (lv_room (Nat.le_of_ble_eq_true rfl)) dX12_does_191 ⟨Nat.zero_le _, Nat.zero_le _⟩) hS (fun H locs hP hS d hd => ?_)
      have hts := dr_words hts0 d
      have hC := hC0.dr d
      refine lv_goto (tgt := 324) hx hb dX12_does_194 (by decide) ?_
      cases hf
      refine W.endD hd ?_
      exact x_vret hx hb hlocks hC hP hS hr dX12_does_324
    · have hf := g_neg hf hc_37
      refine lv_iload_n hx hb dX12_does_176 rfl (lv_at hl 3 rfl) ?_
      refine lv_bipush (v := 18) hx hb dX12_does_177 (by decide) ?_
      refine lv_icmp_le (tgt := 197) hx hb dX12_does_179 (by decide) (fun hc_40 => ?_) (fun hc_40 => ?_)
      · have hf := g_pos hf hc_40
        refine lv_iload_n hx hb dX12_does_197 rfl (lv_at hl 3 rfl) ?_
        refine lv_bipush (v := 10) hx hb dX12_does_198 (by decide) ?_
        refine lv_icmp_ne (tgt := 220) hx hb dX12_does_200 (by decide) (fun hc_41 => ?_) (fun hc_41 => ?_)
        · have hf := g_neg hf hc_41
          refine lv_iload_n hx hb dX12_does_220 rfl (lv_at hl 3 rfl) ?_
          refine lv_bipush (v := 12) hx hb dX12_does_221 (by decide) ?_
          refine lv_icmp_ne (tgt := 247) hx hb dX12_does_223 (by decide) (fun hc_42 => ?_) (fun hc_42 => ?_)
          · have hf := g_neg hf hc_42
            refine lv_iload_n hx hb dX12_does_247 rfl (lv_at hl 3 rfl) ?_
            refine lv_bipush (v := 11) hx hb dX12_does_248 (by decide) ?_
            refine lv_icmp_eq (tgt := 265) hx hb dX12_does_250 (by decide) (fun hc_43 => ?_) (fun hc_43 => ?_)
            · have hf := g_pos hf hc_43
              refine lv_aload_n hx hb dX12_does_265 rfl (lv_at hl 0 rfl) ?_
              refine lv_iload_n hx hb dX12_does_266 rfl (lv_at hl 1 rfl) ?_
              refine lv_iload_n hx hb dX12_does_267 rfl (lv_at hl 2 rfl) ?_
              refine lv_iload_n hx hb dX12_does_268 rfl (lv_at hl 3 rfl) ?_
              refine lv_iload hx hb dX12_does_269 (lv_at hl 4 rfl) ?_
              refine lv_iload hx hb dX12_does_271 (lv_at hl 5 rfl) ?_
              refine lv_iload hx hb dX12_does_273 (lv_at hl 6 rfl) ?_
              obtain ⟨M_44, hc_45, hf⟩ := g_bindE hf
              refine x_callv (v := (X, M_44, τ)) (va_runV (As := [.int x1, .int x2, .int x3, .int x4, .int x5, .int x6]) (rest := []) ⟨hx, hb, hml, hown, hts⟩ (ct_X12_waits l G X M_32 τ x1 x2 x3 x4 x5 x6 hc_45) (cwV 6 hts gd_X12_158 rfl rfl rfl hd_X12_waits ⟨Nat.le_of_ble_eq_true rfl, Nat.le_of_ble_eq_true rfl⟩) (x_preV (u := (X, M_32, τ)) (k := 39) (ci := 12) hC hS hP Nat.zero_lt_one rfl rfl) rfl rfl hl.1 rfl (lv_room (Nat.le_of_ble_eq_true rfl)) dX12_does_275 ⟨Nat.zero_le _, Nat.zero_le _⟩) hS (fun H locs hP hS => ?_)
              refine lv_goto (tgt := 324) hx hb dX12_does_278 (by decide) ?_
              cases hf
              refine W.endD hd ?_
              exact x_vret hx hb hlocks hC hP hS hr dX12_does_324
            · have hf := g_neg hf hc_43
              refine lv_iload_n hx hb dX12_does_253 rfl (lv_at hl 3 rfl) ?_
              refine lv_bipush (v := 13) hx hb dX12_does_254 (by decide) ?_
              refine lv_icmp_eq (tgt := 265) hx hb dX12_does_256 (by decide) (fun hc_46 => ?_) (fun hc_46 => ?_)
              · have hf := g_pos hf hc_46
                refine lv_aload_n hx hb dX12_does_265 rfl (lv_at hl 0 rfl) ?_
                refine lv_iload_n hx hb dX12_does_266 rfl (lv_at hl 1 rfl) ?_
                refine lv_iload_n hx hb dX12_does_267 rfl (lv_at hl 2 rfl) ?_
                refine lv_iload_n hx hb dX12_does_268 rfl (lv_at hl 3 rfl) ?_
                refine lv_iload hx hb dX12_does_269 (lv_at hl 4 rfl) ?_
                refine lv_iload hx hb dX12_does_271 (lv_at hl 5 rfl) ?_
                refine lv_iload hx hb dX12_does_273 (lv_at hl 6 rfl) ?_
                obtain ⟨M_47, hc_48, hf⟩ := g_bindE hf
                refine x_callv (v := (X, M_47, τ)) (va_runV (As := [.int x1, .int x2, .int x3, .int x4, .int x5, .int x6]) (rest := []) ⟨hx, hb, hml, hown, hts⟩ (ct_X12_waits l G X M_32 τ x1 x2 x3 x4 x5 x6 hc_48) (cwV 6 hts gd_X12_158 rfl rfl rfl hd_X12_waits ⟨Nat.le_of_ble_eq_true rfl, Nat.le_of_ble_eq_true rfl⟩) (x_preV (u := (X, M_32, τ)) (k := 39) (ci := 12) hC hS hP Nat.zero_lt_one rfl rfl) rfl rfl hl.1 rfl (lv_room (Nat.le_of_ble_eq_true rfl)) dX12_does_275 ⟨Nat.zero_le _, Nat.zero_le _⟩) hS (fun H locs hP hS => ?_)
                refine lv_goto (tgt := 324) hx hb dX12_does_278 (by decide) ?_
                cases hf
                refine W.endD hd ?_
                exact x_vret hx hb hlocks hC hP hS hr dX12_does_324
              · have hf := g_neg hf hc_46
                refine lv_iload_n hx hb dX12_does_259 rfl (lv_at hl 3 rfl) ?_
                refine lv_bipush (v := 14) hx hb dX12_does_260 (by decide) ?_
                refine lv_icmp_ne (tgt := 281) hx hb dX12_does_262 (by decide) (fun hc_49 => ?_) (fun hc_49 => ?_)
                · have hf := g_neg hf hc_49
                  refine lv_iload_n hx hb dX12_does_281 rfl (lv_at hl 3 rfl) ?_
                  refine lv_bipush (v := 16) hx hb dX12_does_282 (by decide) ?_
                  refine lv_icmp_eq (tgt := 293) hx hb dX12_does_284 (by decide) (fun hc_50 => ?_) (fun hc_50 => ?_)
                  · have hf := g_pos hf hc_50
                    refine lv_aload_n hx hb dX12_does_293 rfl (lv_at hl 0 rfl) ?_
                    refine lv_iload_n hx hb dX12_does_294 rfl (lv_at hl 1 rfl) ?_
                    refine lv_iload_n hx hb dX12_does_295 rfl (lv_at hl 3 rfl) ?_
                    refine lv_iload hx hb dX12_does_296 (lv_at hl 4 rfl) ?_
                    refine lv_iload hx hb dX12_does_298 (lv_at hl 5 rfl) ?_
                    refine lv_iload_n hx hb dX12_does_300 rfl (lv_at hl 2 rfl) ?_
                    obtain ⟨M_51, hc_52, hf⟩ := g_bindE hf
                    refine x_callv (v := (X, M_51, τ)) (va_runV (As := [.int x1, .int x3, .int x4, .int x5, .int x2]) (rest := []) ⟨hx, hb, hml, hown, hts⟩ (ct_X12_meets l G X M_32 τ x1 x3 x4 x5 x2 hc_52) (cwV 5 hts gd_X12_162 rfl rfl rfl hd_X12_meets ⟨Nat.le_of_ble_eq_true rfl, Nat.le_of_ble_eq_true rfl⟩) (x_preV (u := (X, M_32, τ)) (k := 39) (ci := 12) hC hS hP Nat.zero_lt_one rfl rfl) rfl rfl hl.1 rfl (lv_room (Nat.le_of_ble_eq_true rfl)) dX12_does_301 ⟨Nat.zero_le _, Nat.zero_le _⟩) hS (fun H locs hP hS => ?_)
                    refine lv_goto (tgt := 324) hx hb dX12_does_304 (by decide) ?_
                    cases hf
                    refine W.endD hd ?_
                    exact x_vret hx hb hlocks hC hP hS hr dX12_does_324
                  · have hf := g_neg hf hc_50
                    refine lv_iload_n hx hb dX12_does_287 rfl (lv_at hl 3 rfl) ?_
                    refine lv_bipush (v := 17) hx hb dX12_does_288 (by decide) ?_
                    refine lv_icmp_ne (tgt := 307) hx hb dX12_does_290 (by decide) (fun hc_53 => ?_) (fun hc_53 => ?_)
                    · have hf := g_neg hf hc_53
                      refine lv_iload_n hx hb dX12_does_307 rfl (lv_at hl 3 rfl) ?_
                      refine lv_bipush (v := 18) hx hb dX12_does_308 (by decide) ?_
                      refine lv_icmp_ne (tgt := 324) hx hb dX12_does_310 (by decide) (fun hc_54 => ?_) (fun hc_54 => ?_)
                      · have hf := g_neg hf hc_54
                        cases hf
                        refine W.endD hd ?_
                        exact x_vret hx hb hlocks hC hP hS hr dX12_does_324
                      · have hf := g_pos hf hc_54
                        refine lv_aload_n hx hb dX12_does_313 rfl (lv_at hl 0 rfl) ?_
                        refine gt_39_0 hx hb hts hown hC hP Nat.zero_lt_one q6_17 dX12_does_314 ?_
                        refine lv_sipush (v := 438) hx hb dX12_does_317 (by decide) ?_
                        refine lv_iload_n hx hb dX12_does_320 rfl (lv_at hl 1 rfl) ?_
                        refine lv_iadd hx hb dX12_does_321 ?_
                        refine lv_iconst (v := 4) hx hb dX12_does_322 (by decide) ?_
                        obtain ⟨hg_55, hf⟩ := g_gd hf
                        obtain ⟨M_56, eM_56, hf⟩ := g_letE hf
                        refine xistM (k := 40) (n := 693) hx hb hC hP hS (fun _ _ => rfl) rfl Nat.zero_lt_one hg_55 dX12_does_323 (fun H locs hP hS => ?_)
                        rw [eM_56] at hP
                        cases hf
                        refine W.endD hd ?_
                        exact x_vret hx hb hlocks hC hP hS hr dX12_does_324
                    · have hf := g_pos hf hc_53
                      refine lv_aload_n hx hb dX12_does_293 rfl (lv_at hl 0 rfl) ?_
                      refine lv_iload_n hx hb dX12_does_294 rfl (lv_at hl 1 rfl) ?_
                      refine lv_iload_n hx hb dX12_does_295 rfl (lv_at hl 3 rfl) ?_
                      refine lv_iload hx hb dX12_does_296 (lv_at hl 4 rfl) ?_
                      refine lv_iload hx hb dX12_does_298 (lv_at hl 5 rfl) ?_
                      refine lv_iload_n hx hb dX12_does_300 rfl (lv_at hl 2 rfl) ?_
                      obtain ⟨M_57, hc_58, hf⟩ := g_bindE hf
                      refine x_callv (v := (X, M_57, τ)) (va_runV (As := [.int x1, .int x3, .int x4, .int x5, .int x2]) (rest := []) ⟨hx, hb, hml, hown, hts⟩ (ct_X12_meets l G X M_32 τ x1 x3 x4 x5 x2 hc_58) (cwV 5 hts gd_X12_162 rfl rfl rfl hd_X12_meets ⟨Nat.le_of_ble_eq_true rfl, Nat.le_of_ble_eq_true rfl⟩) (x_preV (u := (X, M_32, τ)) (k := 39) (ci := 12) hC hS hP Nat.zero_lt_one rfl rfl) rfl rfl hl.1 rfl (lv_room (Nat.le_of_ble_eq_true rfl)) dX12_does_301 ⟨Nat.zero_le _, Nat.zero_le _⟩) hS (fun H locs hP hS => ?_)
                      refine lv_goto (tgt := 324) hx hb dX12_does_304 (by decide) ?_
                      cases hf
                      refine W.endD hd ?_
                      exact x_vret hx hb hlocks hC hP hS hr dX12_does_324
                · have hf := g_pos hf hc_49
                  refine lv_aload_n hx hb dX12_does_265 rfl (lv_at hl 0 rfl) ?_
                  refine lv_iload_n hx hb dX12_does_266 rfl (lv_at hl 1 rfl) ?_
                  refine lv_iload_n hx hb dX12_does_267 rfl (lv_at hl 2 rfl) ?_
                  refine lv_iload_n hx hb dX12_does_268 rfl (lv_at hl 3 rfl) ?_
                  refine lv_iload hx hb dX12_does_269 (lv_at hl 4 rfl) ?_
                  refine lv_iload hx hb dX12_does_271 (lv_at hl 5 rfl) ?_
                  refine lv_iload hx hb dX12_does_273 (lv_at hl 6 rfl) ?_
                  obtain ⟨M_59, hc_60, hf⟩ := g_bindE hf
                  refine x_callv (v := (X, M_59, τ)) (va_runV (As := [.int x1, .int x2, .int x3, .int x4, .int x5, .int x6]) (rest := []) ⟨hx, hb, hml, hown, hts⟩ (ct_X12_waits l G X M_32 τ x1 x2 x3 x4 x5 x6 hc_60) (cwV 6 hts gd_X12_158 rfl rfl rfl hd_X12_waits ⟨Nat.le_of_ble_eq_true rfl, Nat.le_of_ble_eq_true rfl⟩) (x_preV (u := (X, M_32, τ)) (k := 39) (ci := 12) hC hS hP Nat.zero_lt_one rfl rfl) rfl rfl hl.1 rfl (lv_room (Nat.le_of_ble_eq_true rfl)) dX12_does_275 ⟨Nat.zero_le _, Nat.zero_le _⟩) hS (fun H locs hP hS => ?_)
                  refine lv_goto (tgt := 324) hx hb dX12_does_278 (by decide) ?_
                  cases hf
                  refine W.endD hd ?_
                  exact x_vret hx hb hlocks hC hP hS hr dX12_does_324
          · have hf := g_pos hf hc_42
            refine lv_aload_n hx hb dX12_does_226 rfl (lv_at hl 0 rfl) ?_
            refine lv_iload_n hx hb dX12_does_227 rfl (lv_at hl 1 rfl) ?_
            refine lv_iload hx hb dX12_does_228 (lv_at hl 5 rfl) ?_
            refine lv_aload_n hx hb dX12_does_230 rfl (lv_at hl 0 rfl) ?_
            refine gt_39_0 hx hb hts hown hC hP Nat.zero_lt_one q6_17 dX12_does_231 ?_
            refine lv_sipush (v := 486) hx hb dX12_does_234 (by decide) ?_
            refine lv_iload hx hb dX12_does_237 (lv_at hl 4 rfl) ?_
            refine lv_iadd hx hb dX12_does_239 ?_
            obtain ⟨hg_61, hf⟩ := g_gd hf
            refine xildM (k := 40) (n := 693) hx hb hC hP (fun _ _ => rfl) rfl Nat.zero_lt_one hg_61 dX12_does_240 ?_
            obtain ⟨M_62, hc_63, hf⟩ := g_bindE hf
            refine x_callv (v := (X, M_62, τ)) (va_runV (As := [.int x1, .int x5, .int (M_32 40 0 ((486 + x4).toNatClampNeg))]) (rest := []) ⟨hx, hb, hml, hown, hts⟩ (ct_X12_gets l G X M_32 τ x1 x5 (M_32 40 0 ((486 + x4).toNatClampNeg)) hc_63) (cwV 3 hts gd_X12_123 rfl rfl rfl hd_X12_gets ⟨Nat.le_of_ble_eq_true rfl, Nat.le_of_ble_eq_true rfl⟩) (x_preV (u := (X, M_32, τ)) (k := 39) (ci := 12) hC hS hP Nat.zero_lt_one rfl rfl) rfl rfl hl.1 rfl (lv_room (Nat.le_of_ble_eq_true rfl)) dX12_does_241 ⟨Nat.zero_le _, Nat.zero_le _⟩) hS (fun H locs hP hS => ?_)
            refine lv_goto (tgt := 324) hx hb dX12_does_244 (by decide) ?_
            cases hf
            refine W.endD hd ?_
            exact x_vret hx hb hlocks hC hP hS hr dX12_does_324
        · have hf := g_pos hf hc_41
          refine lv_aload_n hx hb dX12_does_203 rfl (lv_at hl 0 rfl) ?_
          refine lv_iload hx hb dX12_does_204 (lv_at hl 4 rfl) ?_
          refine lv_aload_n hx hb dX12_does_206 rfl (lv_at hl 0 rfl) ?_
          refine lv_iload_n hx hb dX12_does_207 rfl (lv_at hl 1 rfl) ?_
          refine lv_iload hx hb dX12_does_208 (lv_at hl 5 rfl) ?_
          obtain ⟨r_64, hc_65, hf⟩ := g_bindE hf
          refine x_calli (v := (X, M_32, τ)) (va_runV (As := [.int x1, .int x5]) (rest := [.int x4, .ref (G.2.1 39 0)]) ⟨hx, hb, hml, hown, hts⟩ (ct_X12_reg l G X M_32 τ x1 x5 hc_65) (cwV 2 hts gd_X12_139 rfl rfl rfl hd_X12_reg ⟨Nat.le_of_ble_eq_true rfl, Nat.le_of_ble_eq_true rfl⟩) (x_preV (u := (X, M_32, τ)) (k := 39) (ci := 12) hC hS hP Nat.zero_lt_one rfl rfl) rfl rfl hl.1 rfl (lv_room (Nat.le_of_ble_eq_true rfl)) dX12_does_210 ⟨Nat.zero_le _, Nat.zero_le _⟩) hS (fun H locs hP hS => ?_)
          refine lv_iconst (v := 0) hx hb dX12_does_213 (by decide) ?_
          obtain ⟨M_66, hc_67, hf⟩ := g_bindE hf
          refine x_callv (v := (X, M_66, τ)) (va_runV (As := [.int x4, .int r_64, .int 0]) (rest := []) ⟨hx, hb, hml, hown, hts⟩ (ct_X12_writes l G X M_32 τ x4 r_64 0 hc_67) (cwV 3 hts gd_X12_119 rfl rfl rfl hd_X12_writes ⟨Nat.le_of_ble_eq_true rfl, Nat.le_of_ble_eq_true rfl⟩) (x_preV (u := (X, M_32, τ)) (k := 39) (ci := 12) hC hS hP Nat.zero_lt_one rfl rfl) rfl rfl hl.1 rfl (lv_room (Nat.le_of_ble_eq_true rfl)) dX12_does_214 ⟨Nat.zero_le _, Nat.zero_le _⟩) hS (fun H locs hP hS => ?_)
          refine lv_goto (tgt := 324) hx hb dX12_does_217 (by decide) ?_
          cases hf
          refine W.endD hd ?_
          exact x_vret hx hb hlocks hC hP hS hr dX12_does_324
      · have hf := g_neg hf hc_40
        refine lv_aload_n hx hb dX12_does_182 rfl (lv_at hl 0 rfl) ?_
        refine lv_iload_n hx hb dX12_does_183 rfl (lv_at hl 1 rfl) ?_
        refine lv_iload_n hx hb dX12_does_184 rfl (lv_at hl 3 rfl) ?_
        refine lv_iload hx hb dX12_does_185 (lv_at hl 4 rfl) ?_
        refine lv_iload hx hb dX12_does_187 (lv_at hl 5 rfl) ?_
        refine lv_iload hx hb dX12_does_189 (lv_at hl 6 rfl) ?_
        obtain ⟨M_68, hc_69, hf⟩ := g_bindE hf
        refine x_callvD (v := (X, M_68, τ)) hd (va_runV_D (As := [.int x1, .int x3, .int x4, .int x5, .int x6]) (rest := []) ⟨hx, hb, hml, hown, hts⟩ (ct_X12_reckons l G X M_32 τ x1 x3 x4 x5 x6 hc_69) (cwV 5 hts gd_X12_154 rfl rfl rfl hd_X12_reckons ⟨Nat.le_of_ble_eq_true rfl, Nat.le_of_ble_eq_true rfl⟩) (x_preV (u := (X, M_32, τ)) (k := 39) (ci := 12) hC hS hP Nat.zero_lt_one rfl rfl) rfl rfl hl.1 rfl (lv_room (Nat.le_of_ble_eq_true rfl)) dX12_does_191 ⟨Nat.zero_le _, Nat.zero_le _⟩) hS (fun H locs hP hS d hd => ?_)
        have hts := dr_words hts0 d
        have hC := hC0.dr d
        refine lv_goto (tgt := 324) hx hb dX12_does_194 (by decide) ?_
        cases hf
        refine W.endD hd ?_
        exact x_vret hx hb hlocks hC hP hS hr dX12_does_324
def wb_X12_does_132 (x1 : Int32) (x2 : Int32) (x3 : Int32) (x4 : Int32) (x5 : Int32) (x6 : Int32) (x8 : Int32) (M : SM) : Option (SM) :=
  if x3 = 9 then
  ((fn_X12_isBack ((24 * x1) + x2) x4 M).bind fun (r_28, M_29) =>
    if r_28 = 0 then
    (wb_X12_does_157 x1 x2 x3 x4 x5 x6 x8 M_29)
    else
    (wb_X12_does_157 x1 x2 x3 x4 x5 x6 x5 M_29))
  else
  (wb_X12_does_157 x1 x2 x3 x4 x5 x6 x8 M)
set_option maxRecDepth 100000 in
set_option maxHeartbeats 4000000 in
theorem bk_X12_does_132 {p : Program} {l : Launch} {e : Env} {s : State} {m : MethodId} {args : Array Value} {below : List Frame} {meth : Method} {c : Code} {G : GP} {X : SM} {τ : SL} (C0 : g_mc p s m args meth c RX12 cX12_does none 9 G) {M0 : SM} (x1 : Int32) (x2 : Int32) (x3 : Int32) (x4 : Int32) (x5 : Int32) (x6 : Int32) (x8 : Int32) (M : SM) (hf : wb_X12_does_132 x1 x2 x3 x4 x5 x6 x8 M = some M0) {d : Drawn} (hd : s.drawn.sameBut d lw_cs) {H : Heap} {locs : List Loc} (hP : va_P G.1 g_cl (wd G (cb X M) τ) H) (hS : va_S (g_A G) s.heap H locs) {ls : Array Slot} (hl : lv_has ls 9 [(0, .ref (G.2.1 39 0)), (1, .int x1), (2, .int x2), (3, .int x3), (4, .int x4), (5, .int x5), (6, .int x6), (8, .int x8)]) : W p l e rm_X12_does (s.setDrawn d) m args below meth c H locs 0 0 (MQD lw_cs below (va_Qv (fun u => u = (X, M0, τ)) (g_pw G) (g_A G)) args s 0 0 (g_A G)) (F0 m 132 ls []) := by
  obtain ⟨hx, hb, hr, hml, hown, hts0, hlocks, hC0⟩ := id C0
  have hts := dr_words hts0 d
  have hC := hC0.dr d
  unfold wb_X12_does_132 at hf
  refine lv_iload_n hx hb dX12_does_132 rfl (lv_at hl 3 rfl) ?_
  refine lv_bipush (v := 9) hx hb dX12_does_133 (by decide) ?_
  refine lv_icmp_ne (tgt := 157) hx hb dX12_does_135 (by decide) (fun hc_27 => ?_) (fun hc_27 => ?_)
  · have hf := g_neg hf hc_27
    exact bk_X12_does_157 C0 x1 x2 x3 x4 x5 x6 x8 M hf hd hP hS (lv_sub hl [0, 1, 2, 3, 4, 5, 6, 7] rfl)
  · have hf := g_pos hf hc_27
    refine lv_aload_n hx hb dX12_does_138 rfl (lv_at hl 0 rfl) ?_
    refine lv_bipush (v := 24) hx hb dX12_does_139 (by decide) ?_
    refine lv_iload_n hx hb dX12_does_141 rfl (lv_at hl 1 rfl) ?_
    refine lv_imul hx hb dX12_does_142 ?_
    refine lv_iload_n hx hb dX12_does_143 rfl (lv_at hl 2 rfl) ?_
    refine lv_iadd hx hb dX12_does_144 ?_
    refine lv_iload hx hb dX12_does_145 (lv_at hl 4 rfl) ?_
    obtain ⟨⟨r_28, M_29⟩, hc_30, hf⟩ := g_bindE hf
    refine x_calli (v := (X, M_29, τ)) (va_runV (As := [.int ((24 * x1) + x2), .int x4]) (rest := []) ⟨hx, hb, hml, hown, hts⟩ (ct_X12_isBack l G X M τ ((24 * x1) + x2) x4 hc_30) (cwV 2 hts gd_X12_147 rfl rfl rfl hd_X12_isBack ⟨Nat.le_of_ble_eq_true rfl, Nat.le_of_ble_eq_true rfl⟩) (x_preV (u := (X, M, τ)) (k := 39) (ci := 12) hC hS hP Nat.zero_lt_one rfl rfl) rfl rfl hl.1 rfl (lv_room (Nat.le_of_ble_eq_true rfl)) dX12_does_147 ⟨Nat.zero_le _, Nat.zero_le _⟩) hS (fun H locs hP hS => ?_)
    refine lv_if_eq (tgt := 157) hx hb dX12_does_150 (by decide) (fun hc_31 => ?_) (fun hc_31 => ?_)
    · have hf := g_pos hf hc_31
      exact bk_X12_does_157 C0 x1 x2 x3 x4 x5 x6 x8 M_29 hf hd hP hS (lv_sub hl [0, 1, 2, 3, 4, 5, 6, 7] rfl)
    · have hf := g_neg hf hc_31
      refine lv_iload hx hb dX12_does_153 (lv_at hl 5 rfl) ?_
      refine lv_istore (lv' := [(8, .int x5), (0, .ref (G.2.1 39 0)), (1, .int x1), (2, .int x2), (3, .int x3), (4, .int x4), (5, .int x5), (6, .int x6)]) hx hb dX12_does_155 hl (by decide) rfl (fun ls hl => ?_)
      exact bk_X12_does_157 C0 x1 x2 x3 x4 x5 x6 x5 M_29 hf hd hP hS (lv_sub hl [1, 2, 3, 4, 5, 6, 7, 0] rfl)
def fn_X12_does (x1 : Int32) (M : SM) : Option (SM) :=
  if g_in (432 + x1) 693 then
  g_let ((M 40 0 ((432 + x1).toNatClampNeg))) fun x2_2 =>
  (fn_X12_part x1 x2_2 0 M).bind fun r_3 =>
  (fn_X12_part x1 x2_2 1 M).bind fun r_5 =>
  (fn_X12_part x1 x2_2 2 M).bind fun r_7 =>
  (fn_X12_part x1 x2_2 3 M).bind fun r_9 =>
  if g_in (450 + x1) 693 then
  if g_in (450 + x1) 693 then
  g_let (u1 M 40 0 ((450 + x1).toNatClampNeg) ((M 40 0 ((450 + x1).toNatClampNeg)) + 1)) fun M_13 =>
  (fn_X12_trapOf x1 r_3 r_5 r_7 M_13).bind fun r_14 =>
  if r_14 ≤ 0 then
  (g_let ((x2_2 + 1)) fun x8_17 =>
    if r_3 = 7 then
    (wb_X12_does_132 x1 x2_2 r_3 r_5 r_7 r_9 r_7 M_13)
    else
    (if r_3 = 8 then
      ((fn_X12_reg x1 r_5 M_13).bind fun r_20 =>
        if r_20 = 0 then
        (wb_X12_does_132 x1 x2_2 r_3 r_5 r_7 r_9 x8_17 M_13)
        else
        (wb_X12_does_132 x1 x2_2 r_3 r_5 r_7 r_9 r_7 M_13))
      else
      (wb_X12_does_132 x1 x2_2 r_3 r_5 r_7 r_9 x8_17 M_13)))
  else
  (if g_in (438 + x1) 693 then
    g_let (u1 M_13 40 0 ((438 + x1).toNatClampNeg) 5) fun M_24 =>
    if g_in (444 + x1) 693 then
    g_let (u1 M_24 40 0 ((444 + x1).toNatClampNeg) r_14) fun M_26 =>
    some M_26
    else none
    else none)
  else none
  else none
  else none
set_option maxRecDepth 100000 in
set_option maxHeartbeats 4000000 in
theorem wk_X12_does {p : Program} {l : Launch} {e : Env} {s : State} {m : MethodId} {args : Array Value} {below : List Frame} {meth : Method} {c : Code} {G : GP} {X : SM} {τ : SL} (C0 : g_mc p s m args meth c RX12 cX12_does none 9 G) {M0 : SM} (x1 : Int32) (M : SM) (hf : fn_X12_does x1 M = some M0) {d : Drawn} (hd : s.drawn.sameBut d lw_cs) {H : Heap} {locs : List Loc} (hP : va_P G.1 g_cl (wd G (cb X M) τ) H) (hS : va_S (g_A G) s.heap H locs) {ls : Array Slot} (hl : lv_has ls 9 [(0, .ref (G.2.1 39 0)), (1, .int x1)]) : W p l e rm_X12_does (s.setDrawn d) m args below meth c H locs 0 0 (MQD lw_cs below (va_Qv (fun u => u = (X, M0, τ)) (g_pw G) (g_A G)) args s 0 0 (g_A G)) (F0 m 0 ls []) := by
  obtain ⟨hx, hb, hr, hml, hown, hts0, hlocks, hC0⟩ := id C0
  have hts := dr_words hts0 d
  have hC := hC0.dr d
  unfold fn_X12_does at hf
  refine lv_aload_n hx hb dX12_does_0 rfl (lv_at hl 0 rfl) ?_
  refine gt_39_0 hx hb hts hown hC hP Nat.zero_lt_one q6_17 dX12_does_1 ?_
  refine lv_sipush (v := 432) hx hb dX12_does_4 (by decide) ?_
  refine lv_iload_n hx hb dX12_does_7 rfl (lv_at hl 1 rfl) ?_
  refine lv_iadd hx hb dX12_does_8 ?_
  obtain ⟨hg_1, hf⟩ := g_gd hf
  refine xildM (k := 40) (n := 693) hx hb hC hP (fun _ _ => rfl) rfl Nat.zero_lt_one hg_1 dX12_does_9 ?_
  obtain ⟨x2_2, ex2_2, hf⟩ := g_letE hf
  refine lv_topE ex2_2 ?_
  refine lv_istore_n (lv' := [(2, .int x2_2), (0, .ref (G.2.1 39 0)), (1, .int x1)]) hx hb dX12_does_10 rfl hl (by decide) rfl (fun ls hl => ?_)
  refine lv_aload_n hx hb dX12_does_11 rfl (lv_at hl 1 rfl) ?_
  refine lv_iload_n hx hb dX12_does_12 rfl (lv_at hl 2 rfl) ?_
  refine lv_iload_n hx hb dX12_does_13 rfl (lv_at hl 0 rfl) ?_
  refine lv_iconst (v := 0) hx hb dX12_does_14 (by decide) ?_
  obtain ⟨r_3, hc_4, hf⟩ := g_bindE hf
  refine x_calli (v := (X, M, τ)) (va_runV (As := [.int x1, .int x2_2, .int 0]) (rest := []) ⟨hx, hb, hml, hown, hts⟩ (ct_X12_part l G X M τ x1 x2_2 0 hc_4) (cwV 3 hts gd_X12_115 rfl rfl rfl hd_X12_part ⟨Nat.le_of_ble_eq_true rfl, Nat.le_of_ble_eq_true rfl⟩) (x_preV (u := (X, M, τ)) (k := 39) (ci := 12) hC hS hP Nat.zero_lt_one rfl rfl) rfl rfl hl.1 rfl (lv_room (Nat.le_of_ble_eq_true rfl)) dX12_does_15 ⟨Nat.zero_le _, Nat.zero_le _⟩) hS (fun H locs hP hS => ?_)
  refine lv_istore_n (lv' := [(3, .int r_3), (2, .int x2_2), (0, .ref (G.2.1 39 0)), (1, .int x1)]) hx hb dX12_does_18 rfl hl (by decide) rfl (fun ls hl => ?_)
  refine lv_aload_n hx hb dX12_does_19 rfl (lv_at hl 2 rfl) ?_
  refine lv_iload_n hx hb dX12_does_20 rfl (lv_at hl 3 rfl) ?_
  refine lv_iload_n hx hb dX12_does_21 rfl (lv_at hl 1 rfl) ?_
  refine lv_iconst (v := 1) hx hb dX12_does_22 (by decide) ?_
  obtain ⟨r_5, hc_6, hf⟩ := g_bindE hf
  refine x_calli (v := (X, M, τ)) (va_runV (As := [.int x1, .int x2_2, .int 1]) (rest := []) ⟨hx, hb, hml, hown, hts⟩ (ct_X12_part l G X M τ x1 x2_2 1 hc_6) (cwV 3 hts gd_X12_115 rfl rfl rfl hd_X12_part ⟨Nat.le_of_ble_eq_true rfl, Nat.le_of_ble_eq_true rfl⟩) (x_preV (u := (X, M, τ)) (k := 39) (ci := 12) hC hS hP Nat.zero_lt_one rfl rfl) rfl rfl hl.1 rfl (lv_room (Nat.le_of_ble_eq_true rfl)) dX12_does_23 ⟨Nat.zero_le _, Nat.zero_le _⟩) hS (fun H locs hP hS => ?_)
  refine lv_istore (lv' := [(4, .int r_5), (3, .int r_3), (2, .int x2_2), (0, .ref (G.2.1 39 0)), (1, .int x1)]) hx hb dX12_does_26 hl (by decide) rfl (fun ls hl => ?_)
  refine lv_aload_n hx hb dX12_does_28 rfl (lv_at hl 3 rfl) ?_
  refine lv_iload_n hx hb dX12_does_29 rfl (lv_at hl 4 rfl) ?_
  refine lv_iload_n hx hb dX12_does_30 rfl (lv_at hl 2 rfl) ?_
  refine lv_iconst (v := 2) hx hb dX12_does_31 (by decide) ?_
  obtain ⟨r_7, hc_8, hf⟩ := g_bindE hf
  refine x_calli (v := (X, M, τ)) (va_runV (As := [.int x1, .int x2_2, .int 2]) (rest := []) ⟨hx, hb, hml, hown, hts⟩ (ct_X12_part l G X M τ x1 x2_2 2 hc_8) (cwV 3 hts gd_X12_115 rfl rfl rfl hd_X12_part ⟨Nat.le_of_ble_eq_true rfl, Nat.le_of_ble_eq_true rfl⟩) (x_preV (u := (X, M, τ)) (k := 39) (ci := 12) hC hS hP Nat.zero_lt_one rfl rfl) rfl rfl hl.1 rfl (lv_room (Nat.le_of_ble_eq_true rfl)) dX12_does_32 ⟨Nat.zero_le _, Nat.zero_le _⟩) hS (fun H locs hP hS => ?_)
  refine lv_istore (lv' := [(5, .int r_7), (4, .int r_5), (3, .int r_3), (2, .int x2_2), (0, .ref (G.2.1 39 0)), (1, .int x1)]) hx hb dX12_does_35 hl (by decide) rfl (fun ls hl => ?_)
  refine lv_aload_n hx hb dX12_does_37 rfl (lv_at hl 4 rfl) ?_
  refine lv_iload_n hx hb dX12_does_38 rfl (lv_at hl 5 rfl) ?_
  refine lv_iload_n hx hb dX12_does_39 rfl (lv_at hl 3 rfl) ?_
  refine lv_iconst (v := 3) hx hb dX12_does_40 (by decide) ?_
  obtain ⟨r_9, hc_10, hf⟩ := g_bindE hf
  refine x_calli (v := (X, M, τ)) (va_runV (As := [.int x1, .int x2_2, .int 3]) (rest := []) ⟨hx, hb, hml, hown, hts⟩ (ct_X12_part l G X M τ x1 x2_2 3 hc_10) (cwV 3 hts gd_X12_115 rfl rfl rfl hd_X12_part ⟨Nat.le_of_ble_eq_true rfl, Nat.le_of_ble_eq_true rfl⟩) (x_preV (u := (X, M, τ)) (k := 39) (ci := 12) hC hS hP Nat.zero_lt_one rfl rfl) rfl rfl hl.1 rfl (lv_room (Nat.le_of_ble_eq_true rfl)) dX12_does_41 ⟨Nat.zero_le _, Nat.zero_le _⟩) hS (fun H locs hP hS => ?_)
  refine lv_istore (lv' := [(6, .int r_9), (5, .int r_7), (4, .int r_5), (3, .int r_3), (2, .int x2_2), (0, .ref (G.2.1 39 0)), (1, .int x1)]) hx hb dX12_does_44 hl (by decide) rfl (fun ls hl => ?_)
  refine lv_aload_n hx hb dX12_does_46 rfl (lv_at hl 5 rfl) ?_
  refine gt_39_0 hx hb hts hown hC hP Nat.zero_lt_one q6_17 dX12_does_47 ?_
  refine lv_sipush (v := 450) hx hb dX12_does_50 (by decide) ?_
  refine lv_iload_n hx hb dX12_does_53 rfl (lv_at hl 6 rfl) ?_
  refine lv_iadd hx hb dX12_does_54 ?_
  refine lv_dup2_11 hx hb dX12_does_55 rfl rfl ?_
  obtain ⟨hg_11, hf⟩ := g_gd hf
  refine xildM (k := 40) (n := 693) hx hb hC hP (fun _ _ => rfl) rfl Nat.zero_lt_one hg_11 dX12_does_56 ?_
  refine lv_iconst (v := 1) hx hb dX12_does_57 (by decide) ?_
  refine lv_iadd hx hb dX12_does_58 ?_
  obtain ⟨hg_12, hf⟩ := g_gd hf
  obtain ⟨M_13, eM_13, hf⟩ := g_letE hf
  refine xistM (k := 40) (n := 693) hx hb hC hP hS (fun _ _ => rfl) rfl Nat.zero_lt_one hg_12 dX12_does_59 (fun H locs hP hS => ?_)
  rw [eM_13] at hP
  refine lv_aload_n hx hb dX12_does_60 rfl (lv_at hl 5 rfl) ?_
  refine lv_iload_n hx hb dX12_does_61 rfl (lv_at hl 6 rfl) ?_
  refine lv_iload_n hx hb dX12_does_62 rfl (lv_at hl 3 rfl) ?_
  refine lv_iload hx hb dX12_does_63 (lv_at hl 2 rfl) ?_
  refine lv_iload hx hb dX12_does_65 (lv_at hl 1 rfl) ?_
  obtain ⟨r_14, hc_15, hf⟩ := g_bindE hf
  refine x_calli (v := (X, M_13, τ)) (va_runV (As := [.int x1, .int r_3, .int r_5, .int r_7]) (rest := []) ⟨hx, hb, hml, hown, hts⟩ (ct_X12_trapOf l G X M_13 τ x1 r_3 r_5 r_7 hc_15) (cwV 4 hts gd_X12_143 rfl rfl rfl hd_X12_trapOf ⟨Nat.le_of_ble_eq_true rfl, Nat.le_of_ble_eq_true rfl⟩) (x_preV (u := (X, M_13, τ)) (k := 39) (ci := 12) hC hS hP Nat.zero_lt_one rfl rfl) rfl rfl hl.1 rfl (lv_room (Nat.le_of_ble_eq_true rfl)) dX12_does_67 ⟨Nat.zero_le _, Nat.zero_le _⟩) hS (fun H locs hP hS => ?_)
  refine lv_istore (lv' := [(7, .int r_14), (6, .int r_9), (5, .int r_7), (4, .int r_5), (3, .int r_3), (2, .int x2_2), (0, .ref (G.2.1 39 0)), (1, .int x1)]) hx hb dX12_does_70 hl (by decide) rfl (fun ls hl => ?_)
  refine lv_iload hx hb dX12_does_72 (lv_at hl 0 rfl) ?_
  refine lv_if_le (tgt := 101) hx hb dX12_does_74 (by decide) (fun hc_16 => ?_) (fun hc_16 => ?_)
  · have hf := g_pos hf hc_16
    refine lv_iload_n hx hb dX12_does_101 rfl (lv_at hl 5 rfl) ?_
    refine lv_iconst (v := 1) hx hb dX12_does_102 (by decide) ?_
    refine lv_iadd hx hb dX12_does_103 ?_
    obtain ⟨x8_17, ex8_17, hf⟩ := g_letE hf
    refine lv_topE ex8_17 ?_
    refine lv_istore (lv' := [(8, .int x8_17), (7, .int r_14), (6, .int r_9), (5, .int r_7), (4, .int r_5), (3, .int r_3), (2, .int x2_2), (0, .ref (G.2.1 39 0)), (1, .int x1)]) hx hb dX12_does_104 hl (by decide) rfl (fun ls hl => ?_)
    refine lv_iload_n hx hb dX12_does_106 rfl (lv_at hl 5 rfl) ?_
    refine lv_bipush (v := 7) hx hb dX12_does_107 (by decide) ?_
    refine lv_icmp_eq (tgt := 128) hx hb dX12_does_109 (by decide) (fun hc_18 => ?_) (fun hc_18 => ?_)
    · have hf := g_pos hf hc_18
      refine lv_iload hx hb dX12_does_128 (lv_at hl 3 rfl) ?_
      refine lv_istore (lv' := [(8, .int r_7), (7, .int r_14), (6, .int r_9), (5, .int r_7), (4, .int r_5), (3, .int r_3), (2, .int x2_2), (0, .ref (G.2.1 39 0)), (1, .int x1)]) hx hb dX12_does_130 hl (by decide) rfl (fun ls hl => ?_)
      exact bk_X12_does_132 C0 x1 x2_2 r_3 r_5 r_7 r_9 r_7 M_13 hf hd hP hS (lv_sub hl [7, 8, 6, 5, 4, 3, 2, 0] rfl)
    · have hf := g_neg hf hc_18
      refine lv_iload_n hx hb dX12_does_112 rfl (lv_at hl 5 rfl) ?_
      refine lv_bipush (v := 8) hx hb dX12_does_113 (by decide) ?_
      refine lv_icmp_ne (tgt := 132) hx hb dX12_does_115 (by decide) (fun hc_19 => ?_) (fun hc_19 => ?_)
      · have hf := g_neg hf hc_19
        exact bk_X12_does_132 C0 x1 x2_2 r_3 r_5 r_7 r_9 x8_17 M_13 hf hd hP hS (lv_sub hl [7, 8, 6, 5, 4, 3, 2, 0] rfl)
      · have hf := g_pos hf hc_19
        refine lv_aload_n hx hb dX12_does_118 rfl (lv_at hl 7 rfl) ?_
        refine lv_iload_n hx hb dX12_does_119 rfl (lv_at hl 8 rfl) ?_
        refine lv_iload hx hb dX12_does_120 (lv_at hl 4 rfl) ?_
        obtain ⟨r_20, hc_21, hf⟩ := g_bindE hf
        refine x_calli (v := (X, M_13, τ)) (va_runV (As := [.int x1, .int r_5]) (rest := []) ⟨hx, hb, hml, hown, hts⟩ (ct_X12_reg l G X M_13 τ x1 r_5 hc_21) (cwV 2 hts gd_X12_139 rfl rfl rfl hd_X12_reg ⟨Nat.le_of_ble_eq_true rfl, Nat.le_of_ble_eq_true rfl⟩) (x_preV (u := (X, M_13, τ)) (k := 39) (ci := 12) hC hS hP Nat.zero_lt_one rfl rfl) rfl rfl hl.1 rfl (lv_room (Nat.le_of_ble_eq_true rfl)) dX12_does_122 ⟨Nat.zero_le _, Nat.zero_le _⟩) hS (fun H locs hP hS => ?_)
        refine lv_if_eq (tgt := 132) hx hb dX12_does_125 (by decide) (fun hc_22 => ?_) (fun hc_22 => ?_)
        · have hf := g_pos hf hc_22
          exact bk_X12_does_132 C0 x1 x2_2 r_3 r_5 r_7 r_9 x8_17 M_13 hf hd hP hS (lv_sub hl [7, 8, 6, 5, 4, 3, 2, 0] rfl)
        · have hf := g_neg hf hc_22
          refine lv_iload hx hb dX12_does_128 (lv_at hl 3 rfl) ?_
          refine lv_istore (lv' := [(8, .int r_7), (7, .int r_14), (6, .int r_9), (5, .int r_7), (4, .int r_5), (3, .int r_3), (2, .int x2_2), (0, .ref (G.2.1 39 0)), (1, .int x1)]) hx hb dX12_does_130 hl (by decide) rfl (fun ls hl => ?_)
          exact bk_X12_does_132 C0 x1 x2_2 r_3 r_5 r_7 r_9 r_7 M_13 hf hd hP hS (lv_sub hl [7, 8, 6, 5, 4, 3, 2, 0] rfl)
  · have hf := g_neg hf hc_16
    refine lv_aload_n hx hb dX12_does_77 rfl (lv_at hl 6 rfl) ?_
    refine gt_39_0 hx hb hts hown hC hP Nat.zero_lt_one q6_17 dX12_does_78 ?_
    refine lv_sipush (v := 438) hx hb dX12_does_81 (by decide) ?_
    refine lv_iload_n hx hb dX12_does_84 rfl (lv_at hl 7 rfl) ?_
    refine lv_iadd hx hb dX12_does_85 ?_
    refine lv_iconst (v := 5) hx hb dX12_does_86 (by decide) ?_
    obtain ⟨hg_23, hf⟩ := g_gd hf
    obtain ⟨M_24, eM_24, hf⟩ := g_letE hf
    refine xistM (k := 40) (n := 693) hx hb hC hP hS (fun _ _ => rfl) rfl Nat.zero_lt_one hg_23 dX12_does_87 (fun H locs hP hS => ?_)
    rw [eM_24] at hP
    refine lv_aload_n hx hb dX12_does_88 rfl (lv_at hl 6 rfl) ?_
    refine gt_39_0 hx hb hts hown hC hP Nat.zero_lt_one q6_17 dX12_does_89 ?_
    refine lv_sipush (v := 444) hx hb dX12_does_92 (by decide) ?_
    refine lv_iload_n hx hb dX12_does_95 rfl (lv_at hl 7 rfl) ?_
    refine lv_iadd hx hb dX12_does_96 ?_
    refine lv_iload hx hb dX12_does_97 (lv_at hl 0 rfl) ?_
    obtain ⟨hg_25, hf⟩ := g_gd hf
    obtain ⟨M_26, eM_26, hf⟩ := g_letE hf
    refine xistM (k := 40) (n := 693) hx hb hC hP hS (fun _ _ => rfl) rfl Nat.zero_lt_one hg_25 dX12_does_99 (fun H locs hP hS => ?_)
    rw [eM_26] at hP
    cases hf
    refine W.endD hd ?_
    exact x_vret hx hb hlocks hC hP hS hr dX12_does_100
set_option maxRecDepth 100000 in
set_option maxHeartbeats 4000000 in
theorem ct_X12_does (l : Launch) (G : GP) (X M : SM) (τ : SL) (x1 : Int32) {M0 : SM} (hf : fn_X12_does x1 M = some M0) : MetD lw_cs l yX12_does (wz yX12_does cX12_does 9 none) rm_X12_does (va_Pc [.ref (G.2.1 39 0), .int x1] (g_pw G (X, M, τ))) (va_Qv (fun u => u = (X, M0, τ)) (g_pw G) (g_A G)) 0 0 (g_A G) := by
  refine MetD.ofW (cc := cX12_does) (maxL := 9) (ret := none) (by decide +kernel) rfl ?_
  intro p e s m args below meth c s₁ B hml hv hd
  obtain ⟨rfl, hC, hP⟩ := hv
  have C0 : g_mc p s m _ meth c RX12 cX12_does none 9 G := ⟨B.exec, B.bytes, B.returns, hml, findClass_of_methodNamed B.named, fun w h => atoms_spec (ws := wz yX12_does cX12_does 9 none) B.pre w (List.mem_cons_of_mem _ h), B.notSynchronized, hC⟩
  have hl := lv_entry ([.ref (G.2.1 39 0), .int x1]) (n := 9) (Nat.le_of_ble_eq_true rfl)
  rw [lg_entry_eq]
  generalize (lg_sl ([.ref (G.2.1 39 0), .int x1]) ++ List.replicate (9 - (lg_sl ([.ref (G.2.1 39 0), .int x1])).length) Slot.unset).toArray = ls at hl ⊢
  exact wk_X12_does C0  x1 M hf hd hP va_S.rf hl
