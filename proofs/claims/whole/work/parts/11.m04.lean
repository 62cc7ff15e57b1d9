abbrev rm_X12_ticks : Room := { frames := 4, cells := 0, slots := 0, locals := 96 }
def wb_X12_ticks_58 (k58 : Int32 → Int32 → SM → Option (Int32 × SM)) (x1 : Int32) (x2 : Int32) (M : SM) : Option (Int32 × SM) :=
  if 6 ≤ x2 then
  ((fn_X12_turnOf M).bind fun (r_12, M_13) =>
    if r_12 < 0 then
    (g_let (u1 M_13 40 0 (Int32.toNatClampNeg 683) ((M_13 40 0 683) + 1)) fun M_16 =>
      some (r_12, M_16))
    else
    ((fn_X12_does r_12 M_13).bind fun M_17 =>
      g_let (u1 M_17 40 0 (Int32.toNatClampNeg 683) ((M_17 40 0 683) + 1)) fun M_19 =>
      some (r_12, M_19)))
  else
  (if g_in (438 + x2) 693 then
    if (M 40 0 ((438 + x2).toNatClampNeg)) = 1 then
    (if g_in (468 + x2) 693 then
      if (M 40 0 ((468 + x2).toNatClampNeg)) = x1 then
      ((fn_X12_comes x2 M).bind fun M_26 =>
        g_let (x2 + 1) fun x2_28 =>
        k58 x1 x2_28 M_26)
      else
      (g_let (x2 + 1) fun x2_25 =>
        k58 x1 x2_25 M)
      else none)
    else
    (g_let (x2 + 1) fun x2_22 =>
      k58 x1 x2_22 M)
    else none)
set_option maxRecDepth 100000 in
set_option maxHeartbeats 4000000 in
theorem bk_X12_ticks_58 {p : Program} {l : Launch} {e : Env} {s : State} {m : MethodId} {args : Array Value} {below : List Frame} {meth : Method} {c : Code} {G : GP} {X : SM} {τ : SL} (C0 : g_mc p s m args meth c RX12 cX12_ticks (some .int) 3 G) {r0 : Int32} {M0 : SM} (k58 : Int32 → Int32 → SM → Option (Int32 × SM)) (hk58 : ∀ (x1 : Int32) (x2 : Int32) (M : SM), k58 x1 x2 M = some (r0, M0) → ∀ {d : Drawn} (_ : s.drawn.sameBut d lw_cs) {H : Heap} {locs : List Loc}, va_P G.1 g_cl (wd G (cb X M) τ) H → va_S (g_A G) s.heap H locs → ∀ {ls : Array Slot}, lv_has ls 3 [(0, .ref (G.2.1 39 0)), (1, .int x1), (2, .int x2)] → W p l e rm_X12_ticks (s.setDrawn d) m args below meth c H locs 0 0 (MQD lw_cs below (va_Qi (fun r u => r = r0 ∧ u = (X, M0, τ)) (g_pw G) (g_A G)) args s 0 0 (g_A G)) (F0 m 58 ls [])) (x1 : Int32) (x2 : Int32) (M : SM) (hf : wb_X12_ticks_58 k58 x1 x2 M = some (r0, M0)) {d : Drawn} (hd : s.drawn.sameBut d lw_cs) {H : Heap} {locs : List Loc} (hP : va_P G.1 g_cl (wd G (cb X M) τ) H) (hS : va_S (g_A G) s.heap H locs) {ls : Array Slot} (hl : lv_has ls 3 [(0, .ref (G.2.1 39 0)), (1, .int x1), (2, .int x2)]) : W p l e rm_X12_ticks (s.setDrawn d) m args below meth c H locs 0 0 (MQD lw_cs below (va_Qi (fun r u => r = r0 ∧ u = (X, M0, τ)) (g_pw G) (g_A G)) args s 0 0 (g_A G)) (F0 m 58 ls []) := by
  obtain ⟨hx, hb, hr, hml, hown, hts0, hlocks, hC0⟩ := id C0
  have hts := dr_words hts0 d
  have hC := hC0.dr d
  unfold wb_X12_ticks_58 at hf
  refine lv_iload_n hx hb dX12_ticks_58 rfl (lv_at hl 2 rfl) ?_
  refine lv_bipush (v := 6) hx hb dX12_ticks_59 (by decide) ?_
  refine lv_icmp_ge (tgt := 103) hx hb dX12_ticks_61 (by decide) (fun hc_11 => ?_) (fun hc_11 => ?_)
  · have hf := g_pos hf hc_11
    refine lv_aload_n hx hb dX12_ticks_103 rfl (lv_at hl 0 rfl) ?_
    obtain ⟨⟨r_12, M_13⟩, hc_14, hf⟩ := g_bindE hf
    refine x_calli (v := (X, M_13, τ)) (va_runV (As := []) (rest := []) ⟨hx, hb, hml, hown, hts⟩ (ct_X12_turnOf l G X M τ  hc_14) (cwV 0 hts gd_X12_133 rfl rfl rfl hd_X12_turnOf ⟨Nat.le_of_ble_eq_true rfl, Nat.le_of_ble_eq_true rfl⟩) (x_preV (u := (X, M, τ)) (k := 39) (ci := 12) hC hS hP Nat.zero_lt_one rfl rfl) rfl rfl hl.1 rfl (lv_room (Nat.le_of_ble_eq_true rfl)) dX12_ticks_104 ⟨Nat.zero_le _, Nat.zero_le _⟩) hS (fun H locs hP hS => ?_)
    refine lv_istore_n (lv' := [(2, .int r_12), (0, .ref (G.2.1 39 0)), (1, .int x1)]) hx hb dX12_ticks_107 rfl hl (by decide) rfl (fun ls hl => ?_)
    refine lv_iload_n hx hb dX12_ticks_108 rfl (lv_at hl 0 rfl) ?_
    refine lv_if_lt (tgt := 117) hx hb dX12_ticks_109 (by decide) (fun hc_15 => ?_) (fun hc_15 => ?_)
    · have hf := g_pos hf hc_15
      refine lv_aload_n hx hb dX12_ticks_117 rfl (lv_at hl 1 rfl) ?_
      refine gt_39_0 hx hb hts hown hC hP Nat.zero_lt_one q6_17 dX12_ticks_118 ?_
      refine lv_sipush (v := 683) hx hb dX12_ticks_121 (by decide) ?_
      refine lv_dup2_11 hx hb dX12_ticks_124 rfl rfl ?_
      refine xildM (k := 40) (n := 693) hx hb hC hP (fun _ _ => rfl) rfl Nat.zero_lt_one (by decide) dX12_ticks_125 ?_
      refine lv_topE (show M_13 40 0 (Int32.toNatClampNeg 683) = M_13 40 0 683 from rfl) ?_
      refine lv_iconst (v := 1) hx hb dX12_ticks_126 (by decide) ?_
      refine lv_iadd hx hb dX12_ticks_127 ?_
      obtain ⟨M_16, eM_16, hf⟩ := g_letE hf
      refine xistM (k := 40) (n := 693) hx hb hC hP hS (fun _ _ => rfl) rfl Nat.zero_lt_one (by decide) dX12_ticks_128 (fun H locs hP hS => ?_)
      rw [eM_16] at hP
      refine lv_iload_n hx hb dX12_ticks_129 rfl (lv_at hl 0 rfl) ?_
      cases hf
      refine W.endD hd ?_
      exact x_iret hx hb hlocks hC hP hS hr dX12_ticks_130
    · have hf := g_neg hf hc_15
      refine lv_aload_n hx hb dX12_ticks_112 rfl (lv_at hl 1 rfl) ?_
      refine lv_iload_n hx hb dX12_ticks_113 rfl (lv_at hl 0 rfl) ?_
      obtain ⟨M_17, hc_18, hf⟩ := g_bindE hf
      refine x_callvD (v := (X, M_17, τ)) hd (va_runV_D (As := [.int r_12]) (rest := []) ⟨hx, hb, hml, hown, hts⟩ (ct_X12_does l G X M_13 τ r_12 hc_18) (cwV 1 hts gd_X12_136 rfl rfl rfl hd_X12_does ⟨Nat.le_of_ble_eq_true rfl, Nat.le_of_ble_eq_true rfl⟩) (x_preV (u := (X, M_13, τ)) (k := 39) (ci := 12) hC hS hP Nat.zero_lt_one rfl rfl) rfl rfl hl.1 rfl (lv_room (Nat.le_of_ble_eq_true rfl)) dX12_ticks_114 ⟨Nat.zero_le _, Nat.zero_le _⟩) hS (fun H locs hP hS d hd => ?_)
      have hts := dr_words hts0 d
      have hC := hC0.dr d
      refine lv_aload_n hx hb dX12_ticks_117 rfl (lv_at hl 1 rfl) ?_
      refine gt_39_0 hx hb hts hown hC hP Nat.zero_lt_one q6_17 dX12_ticks_118 ?_
      refine lv_sipush (v := 683) hx hb dX12_ticks_121 (by decide) ?_
      refine lv_dup2_11 hx hb dX12_ticks_124 rfl rfl ?_
      refine xildM (k := 40) (n := 693) hx hb hC hP (fun _ _ => rfl) rfl Nat.zero_lt_one (by decide) dX12_ticks_125 ?_
      refine lv_topE (show M_17 40 0 (Int32.toNatClampNeg 683) = M_17 40 0 683 from rfl) ?_
      refine lv_iconst (v := 1) hx hb dX12_ticks_126 (by decide) ?_
      refine lv_iadd hx hb dX12_ticks_127 ?_
      obtain ⟨M_19, eM_19, hf⟩ := g_letE hf
      refine xistM (k := 40) (n := 693) hx hb hC hP hS (fun _ _ => rfl) rfl Nat.zero_lt_one (by decide) dX12_ticks_128 (fun H locs hP hS => ?_)
      rw [eM_19] at hP
      refine lv_iload_n hx hb dX12_ticks_129 rfl (lv_at hl 0 rfl) ?_
      cases hf
      refine W.endD hd ?_
      exact x_iret hx hb hlocks hC hP hS hr dX12_ticks_130
  · have hf := g_neg hf hc_11
    refine lv_aload_n hx hb dX12_ticks_64 rfl (lv_at hl 0 rfl) ?_
    refine gt_39_0 hx hb hts hown hC hP Nat.zero_lt_one q6_17 dX12_ticks_65 ?_
    refine lv_sipush (v := 438) hx hb dX12_ticks_68 (by decide) ?_
    refine lv_iload_n hx hb dX12_ticks_71 rfl (lv_at hl 2 rfl) ?_
    refine lv_iadd hx hb dX12_ticks_72 ?_
    obtain ⟨hg_20, hf⟩ := g_gd hf
    refine xildM (k := 40) (n := 693) hx hb hC hP (fun _ _ => rfl) rfl Nat.zero_lt_one hg_20 dX12_ticks_73 ?_
    refine lv_iconst (v := 1) hx hb dX12_ticks_74 (by decide) ?_
    refine lv_icmp_ne (tgt := 97) hx hb dX12_ticks_75 (by decide) (fun hc_21 => ?_) (fun hc_21 => ?_)
    · have hf := g_neg hf hc_21
      obtain ⟨x2_22, ex2_22, hf⟩ := g_letE hf
      refine lv_iinc (v := x2_22) (lv' := [(2, .int x2_22), (0, .ref (G.2.1 39 0)), (1, .int x1)]) hx hb dX12_ticks_97 hl (k := 2) rfl (by rw [← ex2_22]; rfl) (by decide) rfl (fun ls hl => ?_)
      refine lv_goto (tgt := 58) hx hb dX12_ticks_100 (by decide) ?_
      exact hk58 x1 x2_22 M hf hd hP hS (lv_sub hl [1, 2, 0] rfl)
    · have hf := g_pos hf hc_21
      refine lv_aload_n hx hb dX12_ticks_78 rfl (lv_at hl 0 rfl) ?_
      refine gt_39_0 hx hb hts hown hC hP Nat.zero_lt_one q6_17 dX12_ticks_79 ?_
      refine lv_sipush (v := 468) hx hb dX12_ticks_82 (by decide) ?_
      refine lv_iload_n hx hb dX12_ticks_85 rfl (lv_at hl 2 rfl) ?_
      refine lv_iadd hx hb dX12_ticks_86 ?_
      obtain ⟨hg_23, hf⟩ := g_gd hf
      refine xildM (k := 40) (n := 693) hx hb hC hP (fun _ _ => rfl) rfl Nat.zero_lt_one hg_23 dX12_ticks_87 ?_
      refine lv_iload_n hx hb dX12_ticks_88 rfl (lv_at hl 1 rfl) ?_
      refine lv_icmp_ne (tgt := 97) hx hb dX12_ticks_89 (by decide) (fun hc_24 => ?_) (fun hc_24 => ?_)
      · have hf := g_neg hf hc_24
        obtain ⟨x2_25, ex2_25, hf⟩ := g_letE hf
        refine lv_iinc (v := x2_25) (lv' := [(2, .int x2_25), (0, .ref (G.2.1 39 0)), (1, .int x1)]) hx hb dX12_ticks_97 hl (k := 2) rfl (by rw [← ex2_25]; rfl) (by decide) rfl (fun ls hl => ?_)
        refine lv_goto (tgt := 58) hx hb dX12_ticks_100 (by decide) ?_
        exact hk58 x1 x2_25 M hf hd hP hS (lv_sub hl [1, 2, 0] rfl)
      · have hf := g_pos hf hc_24
        refine lv_aload_n hx hb dX12_ticks_92 rfl (lv_at hl 0 rfl) ?_
        refine lv_iload_n hx hb dX12_ticks_93 rfl (lv_at hl 2 rfl) ?_
        obtain ⟨M_26, hc_27, hf⟩ := g_bindE hf
        refine x_callv (v := (X, M_26, τ)) (va_runV (As := [.int x2]) (rest := []) ⟨hx, hb, hml, hown, hts⟩ (ct_X12_comes l G X M τ x2 hc_27) (cwV 1 hts gd_X12_130 rfl rfl rfl hd_X12_comes ⟨Nat.le_of_ble_eq_true rfl, Nat.le_of_ble_eq_true rfl⟩) (x_preV (u := (X, M, τ)) (k := 39) (ci := 12) hC hS hP Nat.zero_lt_one rfl rfl) rfl rfl hl.1 rfl (lv_room (Nat.le_of_ble_eq_true rfl)) dX12_ticks_94 ⟨Nat.zero_le _, Nat.zero_le _⟩) hS (fun H locs hP hS => ?_)
        obtain ⟨x2_28, ex2_28, hf⟩ := g_letE hf
        refine lv_iinc (v := x2_28) (lv' := [(2, .int x2_28), (0, .ref (G.2.1 39 0)), (1, .int x1)]) hx hb dX12_ticks_97 hl (k := 2) rfl (by rw [← ex2_28]; rfl) (by decide) rfl (fun ls hl => ?_)
        refine lv_goto (tgt := 58) hx hb dX12_ticks_100 (by decide) ?_
        exact hk58 x1 x2_28 M_26 hf hd hP hS (lv_sub hl [1, 2, 0] rfl)
def wl_X12_ticks_58 (n : Nat) (x1 : Int32) (x2 : Int32) (M : SM) : Option (Int32 × SM) := g_loop (α := Int32 × Int32 × SM) (fun k a => wb_X12_ticks_58 (fun x1 x2 M => k (x1, x2, M)) a.1 a.2.1 a.2.2) n (x1, x2, M)
set_option maxRecDepth 100000 in
set_option maxHeartbeats 4000000 in
theorem lp_X12_ticks_58 {p : Program} {l : Launch} {e : Env} {s : State} {m : MethodId} {args : Array Value} {below : List Frame} {meth : Method} {c : Code} {G : GP} {X : SM} {τ : SL} (C0 : g_mc p s m args meth c RX12 cX12_ticks (some .int) 3 G) {r0 : Int32} {M0 : SM} (n : Nat) : ∀ (x1 : Int32) (x2 : Int32) (M : SM), wl_X12_ticks_58 n x1 x2 M = some (r0, M0) → ∀ {d : Drawn} (_ : s.drawn.sameBut d lw_cs) {H : Heap} {locs : List Loc}, va_P G.1 g_cl (wd G (cb X M) τ) H → va_S (g_A G) s.heap H locs → ∀ {ls : Array Slot}, lv_has ls 3 [(0, .ref (G.2.1 39 0)), (1, .int x1), (2, .int x2)] → W p l e rm_X12_ticks (s.setDrawn d) m args below meth c H locs 0 0 (MQD lw_cs below (va_Qi (fun r u => r = r0 ∧ u = (X, M0, τ)) (g_pw G) (g_A G)) args s 0 0 (g_A G)) (F0 m 58 ls []) := by
  induction n with
  | zero =>
    intro x1 x2 M hf
    have hf : (none : Option (Int32 × SM)) = _ := hf
    cases hf
  | succ n ih =>
    intro x1 x2 M hf d hd H locs hP hS ls hl
    exact bk_X12_ticks_58 C0   (fun x1 x2 M => wl_X12_ticks_58   n x1 x2 M) ih x1 x2 M hf hd hP hS hl
def wb_X12_ticks_11 (k11 : Int32 → Int32 → SM → Option (Int32 × SM)) (x1 : Int32) (x2 : Int32) (M : SM) : Option (Int32 × SM) :=
  if (M 39 0 10) ≤ x2 then
  (wl_X12_ticks_58 1000 x1 0 M)
  else
  (if g_in x2 32 then
    if (M 47 0 (x2.toNatClampNeg)) = x1 then
    (if g_in x2 32 then
      if g_in x2 32 then
      if g_in (486 + (M 48 0 (x2.toNatClampNeg))) 693 then
      g_let (u1 M 40 0 ((486 + (M 48 0 (x2.toNatClampNeg))).toNatClampNeg) (M 49 0 (x2.toNatClampNeg))) fun M_9 =>
      g_let (x2 + 1) fun x2_10 =>
      k11 x1 x2_10 M_9
      else none
      else none
      else none)
    else
    (g_let (x2 + 1) fun x2_5 =>
      k11 x1 x2_5 M)
    else none)
set_option maxRecDepth 100000 in
set_option maxHeartbeats 4000000 in
theorem bk_X12_ticks_11 {p : Program} {l : Launch} {e : Env} {s : State} {m : MethodId} {args : Array Value} {below : List Frame} {meth : Method} {c : Code} {G : GP} {X : SM} {τ : SL} (C0 : g_mc p s m args meth c RX12 cX12_ticks (some .int) 3 G) {r0 : Int32} {M0 : SM} (k11 : Int32 → Int32 → SM → Option (Int32 × SM)) (hk11 : ∀ (x1 : Int32) (x2 : Int32) (M : SM), k11 x1 x2 M = some (r0, M0) → ∀ {d : Drawn} (_ : s.drawn.sameBut d lw_cs) {H : Heap} {locs : List Loc}, va_P G.1 g_cl (wd G (cb X M) τ) H → va_S (g_A G) s.heap H locs → ∀ {ls : Array Slot}, lv_has ls 3 [(0, .ref (G.2.1 39 0)), (1, .int x1), (2, .int x2)] → W p l e rm_X12_ticks (s.setDrawn d) m args below meth c H locs 0 0 (MQD lw_cs below (va_Qi (fun r u => r = r0 ∧ u = (X, M0, τ)) (g_pw G) (g_A G)) args s 0 0 (g_A G)) (F0 m 11 ls [])) (x1 : Int32) (x2 : Int32) (M : SM) (hf : wb_X12_ticks_11 k11 x1 x2 M = some (r0, M0)) {d : Drawn} (hd : s.drawn.sameBut d lw_cs) {H : Heap} {locs : List Loc} (hP : va_P G.1 g_cl (wd G (cb X M) τ) H) (hS : va_S (g_A G) s.heap H locs) {ls : Array Slot} (hl : lv_has ls 3 [(0, .ref (G.2.1 39 0)), (1, .int x1), (2, .int x2)]) : W p l e rm_X12_ticks (s.setDrawn d) m args below meth c H locs 0 0 (MQD lw_cs below (va_Qi (fun r u => r = r0 ∧ u = (X, M0, τ)) (g_pw G) (g_A G)) args s 0 0 (g_A G)) (F0 m 11 ls []) := by
  obtain ⟨hx, hb, hr, hml, hown, hts0, hlocks, hC0⟩ := id C0
  have hts := dr_words hts0 d
  have hC := hC0.dr d
  unfold wb_X12_ticks_11 at hf
  refine lv_iload_n hx hb dX12_ticks_11 rfl (lv_at hl 2 rfl) ?_
  refine lv_aload_n hx hb dX12_ticks_12 rfl (lv_at hl 0 rfl) ?_
  refine gt_39_10 hx hb hts hown hC hP Nat.zero_lt_one q13_4 dX12_ticks_13 ?_
  refine lv_icmp_ge (tgt := 56) hx hb dX12_ticks_16 (by decide) (fun hc_2 => ?_) (fun hc_2 => ?_)
  · have hf := g_pos hf hc_2
    refine lv_iconst (v := 0) hx hb dX12_ticks_56 (by decide) ?_
    refine lv_istore_n (lv' := [(2, .int 0), (0, .ref (G.2.1 39 0)), (1, .int x1)]) hx hb dX12_ticks_57 rfl hl (by decide) rfl (fun ls hl => ?_)
    exact lp_X12_ticks_58 C0 1000 x1 0 M hf hd hP hS (lv_sub hl [1, 2, 0] rfl)
  · have hf := g_neg hf hc_2
    refine lv_aload_n hx hb dX12_ticks_19 rfl (lv_at hl 0 rfl) ?_
    refine gt_39_7 hx hb hts hown hC hP Nat.zero_lt_one q7_1 dX12_ticks_20 ?_
    refine lv_iload_n hx hb dX12_ticks_23 rfl (lv_at hl 2 rfl) ?_
    obtain ⟨hg_3, hf⟩ := g_gd hf
    refine xildM (k := 47) (n := 32) hx hb hC hP (fun _ _ => rfl) rfl Nat.zero_lt_one hg_3 dX12_ticks_24 ?_
    refine lv_iload_n hx hb dX12_ticks_25 rfl (lv_at hl 1 rfl) ?_
    refine lv_icmp_ne (tgt := 50) hx hb dX12_ticks_26 (by decide) (fun hc_4 => ?_) (fun hc_4 => ?_)
    · have hf := g_neg hf hc_4
      obtain ⟨x2_5, ex2_5, hf⟩ := g_letE hf
      refine lv_iinc (v := x2_5) (lv' := [(2, .int x2_5), (0, .ref (G.2.1 39 0)), (1, .int x1)]) hx hb dX12_ticks_50 hl (k := 2) rfl (by rw [← ex2_5]; rfl) (by decide) rfl (fun ls hl => ?_)
      refine lv_goto (tgt := 11) hx hb dX12_ticks_53 (by decide) ?_
      exact hk11 x1 x2_5 M hf hd hP hS (lv_sub hl [1, 2, 0] rfl)
    · have hf := g_pos hf hc_4
      refine lv_aload_n hx hb dX12_ticks_29 rfl (lv_at hl 0 rfl) ?_
      refine gt_39_0 hx hb hts hown hC hP Nat.zero_lt_one q6_17 dX12_ticks_30 ?_
      refine lv_sipush (v := 486) hx hb dX12_ticks_33 (by decide) ?_
      refine lv_aload_n hx hb dX12_ticks_36 rfl (lv_at hl 0 rfl) ?_
      refine gt_39_8 hx hb hts hown hC hP Nat.zero_lt_one q7_2 dX12_ticks_37 ?_
      refine lv_iload_n hx hb dX12_ticks_40 rfl (lv_at hl 2 rfl) ?_
      obtain ⟨hg_6, hf⟩ := g_gd hf
      refine xildM (k := 48) (n := 32) hx hb hC hP (fun _ _ => rfl) rfl Nat.zero_lt_one hg_6 dX12_ticks_41 ?_
      refine lv_iadd hx hb dX12_ticks_42 ?_
      refine lv_aload_n hx hb dX12_ticks_43 rfl (lv_at hl 0 rfl) ?_
      refine gt_39_9 hx hb hts hown hC hP Nat.zero_lt_one q7_3 dX12_ticks_44 ?_
      refine lv_iload_n hx hb dX12_ticks_47 rfl (lv_at hl 2 rfl) ?_
      obtain ⟨hg_7, hf⟩ := g_gd hf
      refine xildM (k := 49) (n := 32) hx hb hC hP (fun _ _ => rfl) rfl Nat.zero_lt_one hg_7 dX12_ticks_48 ?_
      obtain ⟨hg_8, hf⟩ := g_gd hf
      obtain ⟨M_9, eM_9, hf⟩ := g_letE hf
      refine xistM (k := 40) (n := 693) hx hb hC hP hS (fun _ _ => rfl) rfl Nat.zero_lt_one hg_8 dX12_ticks_49 (fun H locs hP hS => ?_)
      rw [eM_9] at hP
      obtain ⟨x2_10, ex2_10, hf⟩ := g_letE hf
      refine lv_iinc (v := x2_10) (lv' := [(2, .int x2_10), (0, .ref (G.2.1 39 0)), (1, .int x1)]) hx hb dX12_ticks_50 hl (k := 2) rfl (by rw [← ex2_10]; rfl) (by decide) rfl (fun ls hl => ?_)
      refine lv_goto (tgt := 11) hx hb dX12_ticks_53 (by decide) ?_
      exact hk11 x1 x2_10 M_9 hf hd hP hS (lv_sub hl [1, 2, 0] rfl)
def wl_X12_ticks_11 (n : Nat) (x1 : Int32) (x2 : Int32) (M : SM) : Option (Int32 × SM) := g_loop (α := Int32 × Int32 × SM) (fun k a => wb_X12_ticks_11 (fun x1 x2 M => k (x1, x2, M)) a.1 a.2.1 a.2.2) n (x1, x2, M)
set_option maxRecDepth 100000 in
set_option maxHeartbeats 4000000 in
theorem lp_X12_ticks_11 {p : Program} {l : Launch} {e : Env} {s : State} {m : MethodId} {args : Array Value} {below : List Frame} {meth : Method} {c : Code} {G : GP} {X : SM} {τ : SL} (C0 : g_mc p s m args meth c RX12 cX12_ticks (some .int) 3 G) {r0 : Int32} {M0 : SM} (n : Nat) : ∀ (x1 : Int32) (x2 : Int32) (M : SM), wl_X12_ticks_11 n x1 x2 M = some (r0, M0) → ∀ {d : Drawn} (_ : s.drawn.sameBut d lw_cs) {H : Heap} {locs : List Loc}, va_P G.1 g_cl (wd G (cb X M) τ) H → va_S (g_A G) s.heap H locs → ∀ {ls : Array Slot}, lv_has ls 3 [(0, .ref (G.2.1 39 0)), (1, .int x1), (2, .int x2)] → W p l e rm_X12_ticks (s.setDrawn d) m args below meth c H locs 0 0 (MQD lw_cs below (va_Qi (fun r u => r = r0 ∧ u = (X, M0, τ)) (g_pw G) (g_A G)) args s 0 0 (g_A G)) (F0 m 11 ls []) := by
  induction n with
  | zero =>
    intro x1 x2 M hf
    have hf : (none : Option (Int32 × SM)) = _ := hf
    cases hf
  | succ n ih =>
    intro x1 x2 M hf d hd H locs hP hS ls hl
    exact bk_X12_ticks_11 C0   (fun x1 x2 M => wl_X12_ticks_11   n x1 x2 M) ih x1 x2 M hf hd hP hS hl
def fn_X12_ticks (M : SM) : Option (Int32 × SM) :=
  g_let ((M 40 0 683)) fun x1_1 =>
  wl_X12_ticks_11 1000 x1_1 0 M
set_option maxRecDepth 100000 in
set_option maxHeartbeats 4000000 in
theorem wk_X12_ticks {p : Program} {l : Launch} {e : Env} {s : State} {m : MethodId} {args : Array Value} {below : List Frame} {meth : Method} {c : Code} {G : GP} {X : SM} {τ : SL} (C0 : g_mc p s m args meth c RX12 cX12_ticks (some .int) 3 G) {r0 : Int32} {M0 : SM} (M : SM) (hf : fn_X12_ticks M = some (r0, M0)) {d : Drawn} (hd : s.drawn.sameBut d lw_cs) {H : Heap} {locs : List Loc} (hP : va_P G.1 g_cl (wd G (cb X M) τ) H) (hS : va_S (g_A G) s.heap H locs) {ls : Array Slot} (hl : lv_has ls 3 [(0, .ref (G.2.1 39 0))]) : W p l e rm_X12_ticks (s.setDrawn d) m args below meth c H locs 0 0 (MQD lw_cs below (va_Qi (fun r u => r = r0 ∧ u = (X, M0, τ)) (g_pw G) (g_A G)) args s 0 0 (g_A G)) (F0 m 0 ls []) := by
  obtain ⟨hx, hb, hr, hml, hown, hts0, hlocks, hC0⟩ := id C0
  have hts := dr_words hts0 d
  have hC := hC0.dr d
  unfold fn_X12_ticks at hf
  refine lv_aload_n hx hb dX12_ticks_0 rfl (lv_at hl 0 rfl) ?_
  refine gt_39_0 hx hb hts hown hC hP Nat.zero_lt_one q6_17 dX12_ticks_1 ?_
  refine lv_sipush (v := 683) hx hb dX12_ticks_4 (by decide) ?_
  refine xildM (k := 40) (n := 693) hx hb hC hP (fun _ _ => rfl) rfl Nat.zero_lt_one (by decide) dX12_ticks_7 ?_
  refine lv_topE (show M 40 0 (Int32.toNatClampNeg 683) = M 40 0 683 from rfl) ?_
  obtain ⟨x1_1, ex1_1, hf⟩ := g_letE hf
  refine lv_topE ex1_1 ?_
  refine lv_istore_n (lv' := [(1, .int x1_1), (0, .ref (G.2.1 39 0))]) hx hb dX12_ticks_8 rfl hl (by decide) rfl (fun ls hl => ?_)
  refine lv_iconst (v := 0) hx hb dX12_ticks_9 (by decide) ?_
  refine lv_istore_n (lv' := [(2, .int 0), (1, .int x1_1), (0, .ref (G.2.1 39 0))]) hx hb dX12_ticks_10 rfl hl (by decide) rfl (fun ls hl => ?_)
  exact lp_X12_ticks_11 C0 1000 x1_1 0 M hf hd hP hS (lv_sub hl [2, 1, 0] rfl)
set_option maxRecDepth 100000 in
set_option maxHeartbeats 4000000 in
theorem ct_X12_ticks (l : Launch) (G : GP) (X M : SM) (τ : SL) {r0 : Int32} {M0 : SM} (hf : fn_X12_ticks M = some (r0, M0)) : MetD lw_cs l yX12_ticks (wz yX12_ticks cX12_ticks 3 (some .int)) rm_X12_ticks (va_Pc [.ref (G.2.1 39 0)] (g_pw G (X, M, τ))) (va_Qi (fun r u => r = r0 ∧ u = (X, M0, τ)) (g_pw G) (g_A G)) 0 0 (g_A G) := by
  refine MetD.ofW (cc := cX12_ticks) (maxL := 3) (ret := (some .int)) (by decide +kernel) rfl ?_
  intro p e s m args below meth c s₁ B hml hv hd
  obtain ⟨rfl, hC, hP⟩ := hv
  have C0 : g_mc p s m _ meth c RX12 cX12_ticks (some .int) 3 G := ⟨B.exec, B.bytes, B.returns, hml, findClass_of_methodNamed B.named, fun w h => atoms_spec (ws := wz yX12_ticks cX12_ticks 3 (some .int)) B.pre w (List.mem_cons_of_mem _ h), B.notSynchronized, hC⟩
  have hl := lv_entry ([.ref (G.2.1 39 0)]) (n := 3) (Nat.le_of_ble_eq_true rfl)
  rw [lg_entry_eq]
  generalize (lg_sl ([.ref (G.2.1 39 0)]) ++ List.replicate (3 - (lg_sl ([.ref (G.2.1 39 0)])).length) Slot.unset).toArray = ls at hl ⊢
  exact wk_X12_ticks C0  M hf hd hP va_S.rf hl
abbrev rm_X12_comesBack : Room := { frames := 0, cells := 0, slots := 0, locals := 0 }
def wb_X12_comesBack_2 (k2 : Int32 → SM → Option (SM)) (x1 : Int32) (M : SM) : Option (SM) :=
  if 693 ≤ x1 then
  (some M)
  else
  (if g_in x1 693 then
    if g_in x1 693 then
    g_let (u1 M 40 0 (x1.toNatClampNeg) (M 41 0 (x1.toNatClampNeg))) fun M_4 =>
    g_let (x1 + 1) fun x1_5 =>
    k2 x1_5 M_4
    else none
    else none)
set_option maxRecDepth 100000 in
set_option maxHeartbeats 4000000 in
theorem bk_X12_comesBack_2 {p : Program} {l : Launch} {e : Env} {s : State} {m : MethodId} {args : Array Value} {below : List Frame} {meth : Method} {c : Code} {G : GP} {X : SM} {τ : SL} (C0 : g_mc p s m args meth c RX12 cX12_comesBack none 2 G) {M0 : SM} (k2 : Int32 → SM → Option (SM)) (hk2 : ∀ (x1 : Int32) (M : SM), k2 x1 M = some M0 → ∀ {H : Heap} {locs : List Loc}, va_P G.1 g_cl (wd G (cb X M) τ) H → va_S (g_A G) s.heap H locs → ∀ {ls : Array Slot}, lv_has ls 2 [(0, .ref (G.2.1 39 0)), (1, .int x1)] → W p l e rm_X12_comesBack s m args below meth c H locs 0 0 (MQ below (va_Qv (fun u => u = (X, M0, τ)) (g_pw G) (g_A G)) args s 0 0 (g_A G)) (F0 m 2 ls [])) (x1 : Int32) (M : SM) (hf : wb_X12_comesBack_2 k2 x1 M = some M0) {H : Heap} {locs : List Loc} (hP : va_P G.1 g_cl (wd G (cb X M) τ) H) (hS : va_S (g_A G) s.heap H locs) {ls : Array Slot} (hl : lv_has ls 2 [(0, .ref (G.2.1 39 0)), (1, .int x1)]) : W p l e rm_X12_comesBack s m args below meth c H locs 0 0 (MQ below (va_Qv (fun u => u = (X, M0, τ)) (g_pw G) (g_A G)) args s 0 0 (g_A G)) (F0 m 2 ls []) := by
  obtain ⟨hx, hb, hr, hml, hown, hts, hlocks, hC⟩ := id C0
  unfold wb_X12_comesBack_2 at hf
  refine lv_iload_n hx hb dX12_comesBack_2 rfl (lv_at hl 1 rfl) ?_
  refine lv_sipush (v := 693) hx hb dX12_comesBack_3 (by decide) ?_
  refine lv_icmp_ge (tgt := 27) hx hb dX12_comesBack_6 (by decide) (fun hc_1 => ?_) (fun hc_1 => ?_)
  · have hf := g_pos hf hc_1
    cases hf
    exact x_vret hx hb hlocks hC hP hS hr dX12_comesBack_27
  · have hf := g_neg hf hc_1
    refine lv_aload_n hx hb dX12_comesBack_9 rfl (lv_at hl 0 rfl) ?_
    refine gt_39_0 hx hb hts hown hC hP Nat.zero_lt_one q6_17 dX12_comesBack_10 ?_
    refine lv_iload_n hx hb dX12_comesBack_13 rfl (lv_at hl 1 rfl) ?_
    refine lv_aload_n hx hb dX12_comesBack_14 rfl (lv_at hl 0 rfl) ?_
    refine gt_39_1 hx hb hts hown hC hP Nat.zero_lt_one q6_18 dX12_comesBack_15 ?_
    refine lv_iload_n hx hb dX12_comesBack_18 rfl (lv_at hl 1 rfl) ?_
    obtain ⟨hg_2, hf⟩ := g_gd hf
    refine xildM (k := 41) (n := 693) hx hb hC hP (fun _ _ => rfl) rfl Nat.zero_lt_one hg_2 dX12_comesBack_19 ?_
    obtain ⟨hg_3, hf⟩ := g_gd hf
    obtain ⟨M_4, eM_4, hf⟩ := g_letE hf
    refine xistM (k := 40) (n := 693) hx hb hC hP hS (fun _ _ => rfl) rfl Nat.zero_lt_one hg_3 dX12_comesBack_20 (fun H locs hP hS => ?_)
    rw [eM_4] at hP
    obtain ⟨x1_5, ex1_5, hf⟩ := g_letE hf
    refine lv_iinc (v := x1_5) (lv' := [(1, .int x1_5), (0, .ref (G.2.1 39 0))]) hx hb dX12_comesBack_21 hl (k := 1) rfl (by rw [← ex1_5]; rfl) (by decide) rfl (fun ls hl => ?_)
    refine lv_goto (tgt := 2) hx hb dX12_comesBack_24 (by decide) ?_
    exact hk2 x1_5 M_4 hf hP hS (lv_sub hl [1, 0] rfl)
def wl_X12_comesBack_2 (n : Nat) (x1 : Int32) (M : SM) : Option (SM) := g_loop (α := Int32 × SM) (fun k a => wb_X12_comesBack_2 (fun x1 M => k (x1, M)) a.1 a.2) n (x1, M)
set_option maxRecDepth 100000 in
set_option maxHeartbeats 4000000 in
theorem lp_X12_comesBack_2 {p : Program} {l : Launch} {e : Env} {s : State} {m : MethodId} {args : Array Value} {below : List Frame} {meth : Method} {c : Code} {G : GP} {X : SM} {τ : SL} (C0 : g_mc p s m args meth c RX12 cX12_comesBack none 2 G) {M0 : SM} (n : Nat) : ∀ (x1 : Int32) (M : SM), wl_X12_comesBack_2 n x1 M = some M0 → ∀ {H : Heap} {locs : List Loc}, va_P G.1 g_cl (wd G (cb X M) τ) H → va_S (g_A G) s.heap H locs → ∀ {ls : Array Slot}, lv_has ls 2 [(0, .ref (G.2.1 39 0)), (1, .int x1)] → W p l e rm_X12_comesBack s m args below meth c H locs 0 0 (MQ below (va_Qv (fun u => u = (X, M0, τ)) (g_pw G) (g_A G)) args s 0 0 (g_A G)) (F0 m 2 ls []) := by
  induction n with
  | zero =>
    intro x1 M hf
    have hf : (none : Option (SM)) = _ := hf
    cases hf
  | succ n ih =>
    intro x1 M hf H locs hP hS ls hl
    exact bk_X12_comesBack_2 C0   (fun x1 M => wl_X12_comesBack_2   n x1 M) ih x1 M hf hP hS hl
def fn_X12_comesBack (M : SM) : Option (SM) :=
  wl_X12_comesBack_2 1000 0 M
set_option maxRecDepth 100000 in
set_option maxHeartbeats 4000000 in
theorem wk_X12_comesBack {p : Program} {l : Launch} {e : Env} {s : State} {m : MethodId} {args : Array Value} {below : List Frame} {meth : Method} {c : Code} {G : GP} {X : SM} {τ : SL} (C0 : g_mc p s m args meth c RX12 cX12_comesBack none 2 G) {M0 : SM} (M : SM) (hf : fn_X12_comesBack M = some M0) {H : Heap} {locs : List Loc} (hP : va_P G.1 g_cl (wd G (cb X M) τ) H) (hS : va_S (g_A G) s.heap H locs) {ls : Array Slot} (hl : lv_has ls 2 [(0, .ref (G.2.1 39 0))]) : W p l e rm_X12_comesBack s m args below meth c H locs 0 0 (MQ below (va_Qv (fun u => u = (X, M0, τ)) (g_pw G) (g_A G)) args s 0 0 (g_A G)) (F0 m 0 ls []) := by
  obtain ⟨hx, hb, hr, hml, hown, hts, hlocks, hC⟩ := id C0
  unfold fn_X12_comesBack at hf
  refine lv_iconst (v := 0) hx hb dX12_comesBack_0 (by decide) ?_
  refine lv_istore_n (lv' := [(1, .int 0), (0, .ref (G.2.1 39 0))]) hx hb dX12_comesBack_1 rfl hl (by decide) rfl (fun ls hl => ?_)
  exact lp_X12_comesBack_2 C0 1000 0 M hf hP hS (lv_sub hl [1, 0] rfl)
set_option maxRecDepth 100000 in
set_option maxHeartbeats 4000000 in
theorem ct_X12_comesBack (l : Launch) (G : GP) (X M : SM) (τ : SL) {M0 : SM} (hf : fn_X12_comesBack M = some M0) : Met l yX12_comesBack (wz yX12_comesBack cX12_comesBack 2 none) rm_X12_comesBack (va_Pc [.ref (G.2.1 39 0)] (g_pw G (X, M, τ))) (va_Qv (fun u => u = (X, M0, τ)) (g_pw G) (g_A G)) 0 0 (g_A G) := by
  refine Met.ofW (cc := cX12_comesBack) (maxL := 2) (ret := none) (by decide +kernel) rfl ?_
  intro p e s m args below meth c s₁ B hml hv
  obtain ⟨rfl, hC, hP⟩ := hv
  have C0 : g_mc p s m _ meth c RX12 cX12_comesBack none 2 G := ⟨B.exec, B.bytes, B.returns, hml, findClass_of_methodNamed B.named, fun w h => atoms_spec (ws := wz yX12_comesBack cX12_comesBack 2 none) B.pre w (List.mem_cons_of_mem _ h), B.notSynchronized, hC⟩
  have hl := lv_entry ([.ref (G.2.1 39 0)]) (n := 2) (Nat.le_of_ble_eq_true rfl)
  rw [lg_entry_eq]
  generalize (lg_sl ([.ref (G.2.1 39 0)]) ++ List.replicate (2 - (lg_sl ([.ref (G.2.1 39 0)])).length) Slot.unset).toArray = ls at hl ⊢
  exact wk_X12_comesBack C0  M hf hP va_S.rf hl
abbrev rm_X12_ahead : Room := { frames := 5, cells := 0, slots := 0, locals := 118 }
def wb_X12_ahead_49 (k49 : Int32 → Int32 → Int32 → Int32 → SM → Option (Int32 × SM)) (x1 : Int32) (x2 : Int32) (x3 : Int32) (x4 : Int32) (M : SM) : Option (Int32 × SM) :=
  if x3 ≤ x4 then
  ((fn_X12_reg x1 x2 M).bind fun r_35 =>
    (fn_X12_comesBack M).bind fun M_37 =>
    some (r_35, M_37))
  else
  ((fn_X12_ticks M).bind fun (r_39, M_40) =>
    g_let (x4 + 1) fun x4_42 =>
    k49 x1 x2 x3 x4_42 M_40)
set_option maxRecDepth 100000 in
set_option maxHeartbeats 4000000 in
theorem bk_X12_ahead_49 {p : Program} {l : Launch} {e : Env} {s : State} {m : MethodId} {args : Array Value} {below : List Frame} {meth : Method} {c : Code} {G : GP} {X : SM} {τ : SL} (C0 : g_mc p s m args meth c RX12 cX12_ahead (some .int) 5 G) {r0 : Int32} {M0 : SM} (k49 : Int32 → Int32 → Int32 → Int32 → SM → Option (Int32 × SM)) (hk49 : ∀ (x1 : Int32) (x2 : Int32) (x3 : Int32) (x4 : Int32) (M : SM), k49 x1 x2 x3 x4 M = some (r0, M0) → ∀ {d : Drawn} (_ : s.drawn.sameBut d lw_cs) {H : Heap} {locs : List Loc}, va_P G.1 g_cl (wd G (cb X M) τ) H → va_S (g_A G) s.heap H locs → ∀ {ls : Array Slot}, lv_has ls 5 [(0, .ref (G.2.1 39 0)), (1, .int x1), (2, .int x2), (3, .int x3), (4, .int x4)] → W p l e rm_X12_ahead (s.setDrawn d) m args below meth c H locs 0 0 (MQD lw_cs below (va_Qi (fun r u => r = r0 ∧ u = (X, M0, τ)) (g_pw G) (g_A G)) args s 0 0 (g_A G)) (F0 m 49 ls [])) (x1 : Int32) (x2 : Int32) (x3 : Int32) (x4 : Int32) (M : SM) (hf : wb_X12_ahead_49 k49 x1 x2 x3 x4 M = some (r0, M0)) {d : Drawn} (hd : s.drawn.sameBut d lw_cs) {H : Heap} {locs : List Loc} (hP : va_P G.1 g_cl (wd G (cb X M) τ) H) (hS : va_S (g_A G) s.heap H locs) {ls : Array Slot} (hl : lv_has ls 5 [(0, .ref (G.2.1 39 0)), (1, .int x1), (2, .int x2), (3, .int x3), (4, .int x4)]) : W p l e rm_X12_ahead (s.setDrawn d) m args below meth c H locs 0 0 (MQD lw_cs below (va_Qi (fun r u => r = r0 ∧ u = (X, M0, τ)) (g_pw G) (g_A G)) args s 0 0 (g_A G)) (F0 m 49 ls []) := by
  obtain ⟨hx, hb, hr, hml, hown, hts0, hlocks, hC0⟩ := id C0
  have hts := dr_words hts0 d
  have hC := hC0.dr d
  unfold wb_X12_ahead_49 at hf
  refine lv_iload hx hb dX12_ahead_49 (lv_at hl 4 rfl) ?_
  refine lv_iload_n hx hb dX12_ahead_51 rfl (lv_at hl 3 rfl) ?_
  refine lv_icmp_ge (tgt := 66) hx hb dX12_ahead_52 (by decide) (fun hc_34 => ?_) (fun hc_34 => ?_)
  · have hf := g_pos hf hc_34
    refine lv_aload_n hx hb dX12_ahead_66 rfl (lv_at hl 0 rfl) ?_
    refine lv_iload_n hx hb dX12_ahead_67 rfl (lv_at hl 1 rfl) ?_
    refine lv_iload_n hx hb dX12_ahead_68 rfl (lv_at hl 2 rfl) ?_
    obtain ⟨r_35, hc_36, hf⟩ := g_bindE hf
    refine x_calli (v := (X, M, τ)) (va_runV (As := [.int x1, .int x2]) (rest := []) ⟨hx, hb, hml, hown, hts⟩ (ct_X12_reg l G X M τ x1 x2 hc_36) (cwV 2 hts gd_X12_139 rfl rfl rfl hd_X12_reg ⟨Nat.le_of_ble_eq_true rfl, Nat.le_of_ble_eq_true rfl⟩) (x_preV (u := (X, M, τ)) (k := 39) (ci := 12) hC hS hP Nat.zero_lt_one rfl rfl) rfl rfl hl.1 rfl (lv_room (Nat.le_of_ble_eq_true rfl)) dX12_ahead_69 ⟨Nat.zero_le _, Nat.zero_le _⟩) hS (fun H locs hP hS => ?_)
    refine lv_istore (lv' := [(4, .int r_35), (0, .ref (G.2.1 39 0)), (1, .int x1), (2, .int x2), (3, .int x3)]) hx hb dX12_ahead_72 hl (by decide) rfl (fun ls hl => ?_)
    refine lv_aload_n hx hb dX12_ahead_74 rfl (lv_at hl 1 rfl) ?_
    obtain ⟨M_37, hc_38, hf⟩ := g_bindE hf
    refine x_callv (v := (X, M_37, τ)) (va_runV (As := []) (rest := []) ⟨hx, hb, hml, hown, hts⟩ (ct_X12_comesBack l G X M τ  hc_38) (cwV 0 hts gd_X12_233 rfl rfl rfl hd_X12_comesBack ⟨Nat.le_of_ble_eq_true rfl, Nat.le_of_ble_eq_true rfl⟩) (x_preV (u := (X, M, τ)) (k := 39) (ci := 12) hC hS hP Nat.zero_lt_one rfl rfl) rfl rfl hl.1 rfl (lv_room (Nat.le_of_ble_eq_true rfl)) dX12_ahead_75 ⟨Nat.zero_le _, Nat.zero_le _⟩) hS (fun H locs hP hS => ?_)
    refine lv_iload hx hb dX12_ahead_78 (lv_at hl 0 rfl) ?_
    cases hf
    refine W.endD hd ?_
    exact x_iret hx hb hlocks hC hP hS hr dX12_ahead_80
  · have hf := g_neg hf hc_34
    refine lv_aload_n hx hb dX12_ahead_55 rfl (lv_at hl 0 rfl) ?_
    obtain ⟨⟨r_39, M_40⟩, hc_41, hf⟩ := g_bindE hf
    refine x_calliD (v := (X, M_40, τ)) hd (va_runV_D (As := []) (rest := []) ⟨hx, hb, hml, hown, hts⟩ (ct_X12_ticks l G X M τ  hc_41) (cwV 0 hts gd_X12_172 rfl rfl rfl hd_X12_ticks ⟨Nat.le_of_ble_eq_true rfl, Nat.le_of_ble_eq_true rfl⟩) (x_preV (u := (X, M, τ)) (k := 39) (ci := 12) hC hS hP Nat.zero_lt_one rfl rfl) rfl rfl hl.1 rfl (lv_room (Nat.le_of_ble_eq_true rfl)) dX12_ahead_56 ⟨Nat.zero_le _, Nat.zero_le _⟩) hS (fun H locs hP hS d hd => ?_)
    have hts := dr_words hts0 d
    have hC := hC0.dr d
    refine lv_pop hx hb dX12_ahead_59 rfl ?_
    obtain ⟨x4_42, ex4_42, hf⟩ := g_letE hf
    refine lv_iinc (v := x4_42) (lv' := [(4, .int x4_42), (0, .ref (G.2.1 39 0)), (1, .int x1), (2, .int x2), (3, .int x3)]) hx hb dX12_ahead_60 hl (k := 4) rfl (by rw [← ex4_42]; rfl) (by decide) rfl (fun ls hl => ?_)
    refine lv_goto (tgt := 49) hx hb dX12_ahead_63 (by decide) ?_
    exact hk49 x1 x2 x3 x4_42 M_40 hf hd hP hS (lv_sub hl [1, 2, 3, 4, 0] rfl)
def wl_X12_ahead_49 (n : Nat) (x1 : Int32) (x2 : Int32) (x3 : Int32) (x4 : Int32) (M : SM) : Option (Int32 × SM) := g_loop (α := Int32 × Int32 × Int32 × Int32 × SM) (fun k a => wb_X12_ahead_49 (fun x1 x2 x3 x4 M => k (x1, x2, x3, x4, M)) a.1 a.2.1 a.2.2.1 a.2.2.2.1 a.2.2.2.2) n (x1, x2, x3, x4, M)
set_option maxRecDepth 100000 in
set_option maxHeartbeats 4000000 in
theorem lp_X12_ahead_49 {p : Program} {l : Launch} {e : Env} {s : State} {m : MethodId} {args : Array Value} {below : List Frame} {meth : Method} {c : Code} {G : GP} {X : SM} {τ : SL} (C0 : g_mc p s m args meth c RX12 cX12_ahead (some .int) 5 G) {r0 : Int32} {M0 : SM} (n : Nat) : ∀ (x1 : Int32) (x2 : Int32) (x3 : Int32) (x4 : Int32) (M : SM), wl_X12_ahead_49 n x1 x2 x3 x4 M = some (r0, M0) → ∀ {d : Drawn} (_ : s.drawn.sameBut d lw_cs) {H : Heap} {locs : List Loc}, va_P G.1 g_cl (wd G (cb X M) τ) H → va_S (g_A G) s.heap H locs → ∀ {ls : Array Slot}, lv_has ls 5 [(0, .ref (G.2.1 39 0)), (1, .int x1), (2, .int x2), (3, .int x3), (4, .int x4)] → W p l e rm_X12_ahead (s.setDrawn d) m args below meth c H locs 0 0 (MQD lw_cs below (va_Qi (fun r u => r = r0 ∧ u = (X, M0, τ)) (g_pw G) (g_A G)) args s 0 0 (g_A G)) (F0 m 49 ls []) := by
  induction n with
  | zero =>
    intro x1 x2 x3 x4 M hf
    have hf : (none : Option (Int32 × SM)) = _ := hf
    cases hf
  | succ n ih =>
    intro x1 x2 x3 x4 M hf d hd H locs hP hS ls hl
    exact bk_X12_ahead_49 C0   (fun x1 x2 x3 x4 M => wl_X12_ahead_49   n x1 x2 x3 x4 M) ih x1 x2 x3 x4 M hf hd hP hS hl
def fn_X12_ahead (x1 : Int32) (x2 : Int32) (x3 : Int32) (M : SM) : Option (Int32 × SM) :=
  (fn_X12_isThread x1).bind fun r_1 =>
  if r_1 = 0 then
  (g_let (fn_X12_throwing 0 M) fun (r_4, M_5) =>
    if r_4 = 0 then
    ((fn_X12_keeps M_5).bind fun M_8 =>
      wl_X12_ahead_49 1000 x1 x2 x3 0 M_8)
    else
    (some (0, M_5)))
  else
  (g_let (fn_X12_within x2 0 7) fun r_10 =>
    if r_10 = 0 then
    (g_let (fn_X12_throwing 0 M) fun (r_13, M_14) =>
      if r_13 = 0 then
      ((fn_X12_keeps M_14).bind fun M_17 =>
        wl_X12_ahead_49 1000 x1 x2 x3 0 M_17)
      else
      (some (0, M_14)))
    else
    (g_let (fn_X12_within x3 1 300) fun r_19 =>
      if r_19 = 0 then
      (g_let (fn_X12_throwing 0 M) fun (r_22, M_23) =>
        if r_22 = 0 then
        ((fn_X12_keeps M_23).bind fun M_26 =>
          wl_X12_ahead_49 1000 x1 x2 x3 0 M_26)
        else
        (some (0, M_23)))
      else
      (g_let (fn_X12_throwing 1 M) fun (r_28, M_29) =>
        if r_28 = 0 then
        ((fn_X12_keeps M_29).bind fun M_32 =>
          wl_X12_ahead_49 1000 x1 x2 x3 0 M_32)
        else
        (some (0, M_29)))))
set_option maxRecDepth 100000 in
set_option maxHeartbeats 4000000 in
theorem wk_X12_ahead {p : Program} {l : Launch} {e : Env} {s : State} {m : MethodId} {args : Array Value} {below : List Frame} {meth : Method} {c : Code} {G : GP} {X : SM} {τ : SL} (C0 : g_mc p s m args meth c RX12 cX12_ahead (some .int) 5 G) {r0 : Int32} {M0 : SM} (x1 : Int32) (x2 : Int32) (x3 : Int32) (M : SM) (hf : fn_X12_ahead x1 x2 x3 M = some (r0, M0)) {d : Drawn} (hd : s.drawn.sameBut d lw_cs) {H : Heap} {locs : List Loc} (hP : va_P G.1 g_cl (wd G (cb X M) τ) H) (hS : va_S (g_A G) s.heap H locs) {ls : Array Slot} (hl : lv_has ls 5 [(0, .ref (G.2.1 39 0)), (1, .int x1), (2, .int x2), (3, .int x3)]) : W p l e rm_X12_ahead (s.setDrawn d) m args below meth c H locs 0 0 (MQD lw_cs below (va_Qi (fun r u => r = r0 ∧ u = (X, M0, τ)) (g_pw G) (g_A G)) args s 0 0 (g_A G)) (F0 m 0 ls []) := by
  obtain ⟨hx, hb, hr, hml, hown, hts0, hlocks, hC0⟩ := id C0
  have hts := dr_words hts0 d
  have hC := hC0.dr d
  unfold fn_X12_ahead at hf
  refine lv_aload_n hx hb dX12_ahead_0 rfl (lv_at hl 0 rfl) ?_
  refine lv_iload_n hx hb dX12_ahead_1 rfl (lv_at hl 1 rfl) ?_
  obtain ⟨r_1, hc_2, hf⟩ := g_bindE hf
  refine x_calli (v := (X, M, τ)) (va_runS (As := [.int x1]) (rest := [.ref (G.2.1 39 0)]) ⟨hx, hb, hml, hown, hts⟩ (ct_X12_isThread l G X M τ x1 hc_2) (cwS 1 hts gd_X12_80 rfl rfl rfl hd_X12_isThread ⟨Nat.le_of_ble_eq_true rfl, Nat.le_of_ble_eq_true rfl⟩) (x_pre (u := (X, M, τ)) hC hS hP) rfl rfl hl.1 rfl (lv_room (Nat.le_of_ble_eq_true rfl)) dX12_ahead_2 ⟨Nat.zero_le _, Nat.zero_le _⟩) hS (fun H locs hP hS => ?_)
  refine lv_if_eq (tgt := 33) hx hb dX12_ahead_5 (by decide) (fun hc_3 => ?_) (fun hc_3 => ?_)
  · have hf := g_pos hf hc_3
    refine lv_iconst (v := 0) hx hb dX12_ahead_33 (by decide) ?_
    obtain ⟨⟨r_4, M_5⟩, hc_6, hf⟩ := g_letE hf
    refine x_calli (v := (X, M_5, τ)) (va_runV (As := [.int 0]) (rest := []) ⟨hx, hb, hml, hown, hts⟩ (ct_X12_throwing l G X M τ 0 hc_6) (cwV 1 hts gd_X12_175 rfl rfl rfl hd_X12_throwing ⟨Nat.le_of_ble_eq_true rfl, Nat.le_of_ble_eq_true rfl⟩) (x_preV (u := (X, M, τ)) (k := 39) (ci := 12) hC hS hP Nat.zero_lt_one rfl rfl) rfl rfl hl.1 rfl (lv_room (Nat.le_of_ble_eq_true rfl)) dX12_ahead_34 ⟨Nat.zero_le _, Nat.zero_le _⟩) hS (fun H locs hP hS => ?_)
    refine lv_if_eq (tgt := 42) hx hb dX12_ahead_37 (by decide) (fun hc_7 => ?_) (fun hc_7 => ?_)
    · have hf := g_pos hf hc_7
      refine lv_aload_n hx hb dX12_ahead_42 rfl (lv_at hl 0 rfl) ?_
      obtain ⟨M_8, hc_9, hf⟩ := g_bindE hf
      refine x_callv (v := (X, M_8, τ)) (va_runV (As := []) (rest := []) ⟨hx, hb, hml, hown, hts⟩ (ct_X12_keeps l G X M_5 τ  hc_9) (cwV 0 hts gd_X12_227 rfl rfl rfl hd_X12_keeps ⟨Nat.le_of_ble_eq_true rfl, Nat.le_of_ble_eq_true rfl⟩) (x_preV (u := (X, M_5, τ)) (k := 39) (ci := 12) hC hS hP Nat.zero_lt_one rfl rfl) rfl rfl hl.1 rfl (lv_room (Nat.le_of_ble_eq_true rfl)) dX12_ahead_43 ⟨Nat.zero_le _, Nat.zero_le _⟩) hS (fun H locs hP hS => ?_)
      refine lv_iconst (v := 0) hx hb dX12_ahead_46 (by decide) ?_
      refine lv_istore (lv' := [(4, .int 0), (0, .ref (G.2.1 39 0)), (1, .int x1), (2, .int x2), (3, .int x3)]) hx hb dX12_ahead_47 hl (by decide) rfl (fun ls hl => ?_)
      exact lp_X12_ahead_49 C0 1000 x1 x2 x3 0 M_8 hf hd hP hS (lv_sub hl [1, 2, 3, 4, 0] rfl)
    · have hf := g_neg hf hc_7
      refine lv_iconst (v := 0) hx hb dX12_ahead_40 (by decide) ?_
      cases hf
      refine W.endD hd ?_
      exact x_iret hx hb hlocks hC hP hS hr dX12_ahead_41
  · have hf := g_neg hf hc_3
    refine lv_iload_n hx hb dX12_ahead_8 rfl (lv_at hl 2 rfl) ?_
    refine lv_iconst (v := 0) hx hb dX12_ahead_9 (by decide) ?_
    refine lv_bipush (v := 7) hx hb dX12_ahead_10 (by decide) ?_
    obtain ⟨r_10, hc_11, hf⟩ := g_letE hf
    refine x_calli (v := (X, M, τ)) (va_runS (As := [.int x2, .int 0, .int 7]) (rest := [.ref (G.2.1 39 0)]) ⟨hx, hb, hml, hown, hts⟩ (ct_X12_within l G X M τ x2 0 7 hc_11) (cwS 3 hts gd_X12_76 rfl rfl rfl hd_X12_within ⟨Nat.le_of_ble_eq_true rfl, Nat.le_of_ble_eq_true rfl⟩) (x_pre (u := (X, M, τ)) hC hS hP) rfl rfl hl.1 rfl (lv_room (Nat.le_of_ble_eq_true rfl)) dX12_ahead_12 ⟨Nat.zero_le _, Nat.zero_le _⟩) hS (fun H locs hP hS => ?_)
    refine lv_if_eq (tgt := 33) hx hb dX12_ahead_15 (by decide) (fun hc_12 => ?_) (fun hc_12 => ?_)
    · have hf := g_pos hf hc_12
      refine lv_iconst (v := 0) hx hb dX12_ahead_33 (by decide) ?_
      obtain ⟨⟨r_13, M_14⟩, hc_15, hf⟩ := g_letE hf
      refine x_calli (v := (X, M_14, τ)) (va_runV (As := [.int 0]) (rest := []) ⟨hx, hb, hml, hown, hts⟩ (ct_X12_throwing l G X M τ 0 hc_15) (cwV 1 hts gd_X12_175 rfl rfl rfl hd_X12_throwing ⟨Nat.le_of_ble_eq_true rfl, Nat.le_of_ble_eq_true rfl⟩) (x_preV (u := (X, M, τ)) (k := 39) (ci := 12) hC hS hP Nat.zero_lt_one rfl rfl) rfl rfl hl.1 rfl (lv_room (Nat.le_of_ble_eq_true rfl)) dX12_ahead_34 ⟨Nat.zero_le _, Nat.zero_le _⟩) hS (fun H locs hP hS => ?_)
      refine lv_if_eq (tgt := 42) hx hb dX12_ahead_37 (by decide) (fun hc_16 => ?_) (fun hc_16 => ?_)
      · have hf := g_pos hf hc_16
        refine lv_aload_n hx hb dX12_ahead_42 rfl (lv_at hl 0 rfl) ?_
        obtain ⟨M_17, hc_18, hf⟩ := g_bindE hf
        refine x_callv (v := (X, M_17, τ)) (va_runV (As := []) (rest := []) ⟨hx, hb, hml, hown, hts⟩ (ct_X12_keeps l G X M_14 τ  hc_18) (cwV 0 hts gd_X12_227 rfl rfl rfl hd_X12_keeps ⟨Nat.le_of_ble_eq_true rfl, Nat.le_of_ble_eq_true rfl⟩) (x_preV (u := (X, M_14, τ)) (k := 39) (ci := 12) hC hS hP Nat.zero_lt_one rfl rfl) rfl rfl hl.1 rfl (lv_room (Nat.le_of_ble_eq_true rfl)) dX12_ahead_43 ⟨Nat.zero_le _, Nat.zero_le _⟩) hS (fun H locs hP hS => ?_)
        refine lv_iconst (v := 0) hx hb dX12_ahead_46 (by decide) ?_
        refine lv_istore (lv' := [(4, .int 0), (0, .ref (G.2.1 39 0)), (1, .int x1), (2, .int x2), (3, .int x3)]) hx hb dX12_ahead_47 hl (by decide) rfl (fun ls hl => ?_)
        exact lp_X12_ahead_49 C0 1000 x1 x2 x3 0 M_17 hf hd hP hS (lv_sub hl [1, 2, 3, 4, 0] rfl)
      · have hf := g_neg hf hc_16
        refine lv_iconst (v := 0) hx hb dX12_ahead_40 (by decide) ?_
        cases hf
        refine W.endD hd ?_
        exact x_iret hx hb hlocks hC hP hS hr dX12_ahead_41
    · have hf := g_neg hf hc_12
      refine lv_iload_n hx hb dX12_ahead_18 rfl (lv_at hl 3 rfl) ?_
      refine lv_iconst (v := 1) hx hb dX12_ahead_19 (by decide) ?_
      refine lv_sipush (v := 300) hx hb dX12_ahead_20 (by decide) ?_
      obtain ⟨r_19, hc_20, hf⟩ := g_letE hf
      refine x_calli (v := (X, M, τ)) (va_runS (As := [.int x3, .int 1, .int 300]) (rest := [.ref (G.2.1 39 0)]) ⟨hx, hb, hml, hown, hts⟩ (ct_X12_within l G X M τ x3 1 300 hc_20) (cwS 3 hts gd_X12_76 rfl rfl rfl hd_X12_within ⟨Nat.le_of_ble_eq_true rfl, Nat.le_of_ble_eq_true rfl⟩) (x_pre (u := (X, M, τ)) hC hS hP) rfl rfl hl.1 rfl (lv_room (Nat.le_of_ble_eq_true rfl)) dX12_ahead_23 ⟨Nat.zero_le _, Nat.zero_le _⟩) hS (fun H locs hP hS => ?_)
      refine lv_if_eq (tgt := 33) hx hb dX12_ahead_26 (by decide) (fun hc_21 => ?_) (fun hc_21 => ?_)
      · have hf := g_pos hf hc_21
        refine lv_iconst (v := 0) hx hb dX12_ahead_33 (by decide) ?_
        obtain ⟨⟨r_22, M_23⟩, hc_24, hf⟩ := g_letE hf
        refine x_calli (v := (X, M_23, τ)) (va_runV (As := [.int 0]) (rest := []) ⟨hx, hb, hml, hown, hts⟩ (ct_X12_throwing l G X M τ 0 hc_24) (cwV 1 hts gd_X12_175 rfl rfl rfl hd_X12_throwing ⟨Nat.le_of_ble_eq_true rfl, Nat.le_of_ble_eq_true rfl⟩) (x_preV (u := (X, M, τ)) (k := 39) (ci := 12) hC hS hP Nat.zero_lt_one rfl rfl) rfl rfl hl.1 rfl (lv_room (Nat.le_of_ble_eq_true rfl)) dX12_ahead_34 ⟨Nat.zero_le _, Nat.zero_le _⟩) hS (fun H locs hP hS => ?_)
        refine lv_if_eq (tgt := 42) hx hb dX12_ahead_37 (by decide) (fun hc_25 => ?_) (fun hc_25 => ?_)
        · have hf := g_pos hf hc_25
          refine lv_aload_n hx hb dX12_ahead_42 rfl (lv_at hl 0 rfl) ?_
          obtain ⟨M_26, hc_27, hf⟩ := g_bindE hf
          refine x_callv (v := (X, M_26, τ)) (va_runV (As := []) (rest := []) ⟨hx, hb, hml, hown, hts⟩ (ct_X12_keeps l G X M_23 τ  hc_27) (cwV 0 hts gd_X12_227 rfl rfl rfl hd_X12_keeps ⟨Nat.le_of_ble_eq_true rfl, Nat.le_of_ble_eq_true rfl⟩) (x_preV (u := (X, M_23, τ)) (k := 39) (ci := 12) hC hS hP Nat.zero_lt_one rfl rfl) rfl rfl hl.1 rfl (lv_room (Nat.le_of_ble_eq_true rfl)) dX12_ahead_43 ⟨Nat.zero_le _, Nat.zero_le _⟩) hS (fun H locs hP hS => ?_)
          refine lv_iconst (v := 0) hx hb dX12_ahead_46 (by decide) ?_
          refine lv_istore (lv' := [(4, .int 0), (0, .ref (G.2.1 39 0)), (1, .int x1), (2, .int x2), (3, .int x3)]) hx hb dX12_ahead_47 hl (by decide) rfl (fun ls hl => ?_)
          exact lp_X12_ahead_49 C0 1000 x1 x2 x3 0 M_26 hf hd hP hS (lv_sub hl [1, 2, 3, 4, 0] rfl)
        · have hf := g_neg hf hc_25
          refine lv_iconst (v := 0) hx hb dX12_ahead_40 (by decide) ?_
          cases hf
          refine W.endD hd ?_
          exact x_iret hx hb hlocks hC hP hS hr dX12_ahead_41
      · have hf := g_neg hf hc_21
        refine lv_iconst (v := 1) hx hb dX12_ahead_29 (by decide) ?_
        refine lv_goto (tgt := 34) hx hb dX12_ahead_30 (by decide) ?_
        obtain ⟨⟨r_28, M_29⟩, hc_30, hf⟩ := g_letE hf
        refine x_calli (v := (X, M_29, τ)) (va_runV (As := [.int 1]) (rest := []) ⟨hx, hb, hml, hown, hts⟩ (ct_X12_throwing l G X M τ 1 hc_30) (cwV 1 hts gd_X12_175 rfl rfl rfl hd_X12_throwing ⟨Nat.le_of_ble_eq_true rfl, Nat.le_of_ble_eq_true rfl⟩) (x_preV (u := (X, M, τ)) (k := 39) (ci := 12) hC hS hP Nat.zero_lt_one rfl rfl) rfl rfl hl.1 rfl (lv_room (Nat.le_of_ble_eq_true rfl)) dX12_ahead_34 ⟨Nat.zero_le _, Nat.zero_le _⟩) hS (fun H locs hP hS => ?_)
        refine lv_if_eq (tgt := 42) hx hb dX12_ahead_37 (by decide) (fun hc_31 => ?_) (fun hc_31 => ?_)
        · have hf := g_pos hf hc_31
          refine lv_aload_n hx hb dX12_ahead_42 rfl (lv_at hl 0 rfl) ?_
          obtain ⟨M_32, hc_33, hf⟩ := g_bindE hf
          refine x_callv (v := (X, M_32, τ)) (va_runV (As := []) (rest := []) ⟨hx, hb, hml, hown, hts⟩ (ct_X12_keeps l G X M_29 τ  hc_33) (cwV 0 hts gd_X12_227 rfl rfl rfl hd_X12_keeps ⟨Nat.le_of_ble_eq_true rfl, Nat.le_of_ble_eq_true rfl⟩) (x_preV (u := (X, M_29, τ)) (k := 39) (ci := 12) hC hS hP Nat.zero_lt_one rfl rfl) rfl rfl hl.1 rfl (lv_room (Nat.le_of_ble_eq_true rfl)) dX12_ahead_43 ⟨Nat.zero_le _, Nat.zero_le _⟩) hS (fun H locs hP hS => ?_)
          refine lv_iconst (v := 0) hx hb dX12_ahead_46 (by decide) ?_
          refine lv_istore (lv' := [(4, .int 0), (0, .ref (G.2.1 39 0)), (1, .int x1), (2, .int x2), (3, .int x3)]) hx hb dX12_ahead_47 hl (by decide) rfl (fun ls hl => ?_)
          exact lp_X12_ahead_49 C0 1000 x1 x2 x3 0 M_32 hf hd hP hS (lv_sub hl [1, 2, 3, 4, 0] rfl)
        · have hf := g_neg hf hc_31
          refine lv_iconst (v := 0) hx hb dX12_ahead_40 (by decide) ?_
          cases hf
          refine W.endD hd ?_
          exact x_iret hx hb hlocks hC hP hS hr dX12_ahead_41
set_option maxRecDepth 100000 in
set_option maxHeartbeats 4000000 in
theorem ct_X12_ahead (l : Launch) (G : GP) (X M : SM) (τ : SL) (x1 : Int32) (x2 : Int32) (x3 : Int32) {r0 : Int32} {M0 : SM} (hf : fn_X12_ahead x1 x2 x3 M = some (r0, M0)) : MetD lw_cs l yX12_ahead (wz yX12_ahead cX12_ahead 5 (some .int)) rm_X12_ahead (va_Pc [.ref (G.2.1 39 0), .int x1, .int x2, .int x3] (g_pw G (X, M, τ))) (va_Qi (fun r u => r = r0 ∧ u = (X, M0, τ)) (g_pw G) (g_A G)) 0 0 (g_A G) := by
  refine MetD.ofW (cc := cX12_ahead) (maxL := 5) (ret := (some .int)) (by decide +kernel) rfl ?_
  intro p e s m args below meth c s₁ B hml hv hd
  obtain ⟨rfl, hC, hP⟩ := hv
  have C0 : g_mc p s m _ meth c RX12 cX12_ahead (some .int) 5 G := ⟨B.exec, B.bytes, B.returns, hml, findClass_of_methodNamed B.named, fun w h => atoms_spec (ws := wz yX12_ahead cX12_ahead 5 (some .int)) B.pre w (List.mem_cons_of_mem _ h), B.notSynchronized, hC⟩
  have hl := lv_entry ([.ref (G.2.1 39 0), .int x1, .int x2, .int x3]) (n := 5) (Nat.le_of_ble_eq_true rfl)
  rw [lg_entry_eq]
  generalize (lg_sl ([.ref (G.2.1 39 0), .int x1, .int x2, .int x3]) ++ List.replicate (5 - (lg_sl ([.ref (G.2.1 39 0), .int x1, .int x2, .int x3])).length) Slot.unset).toArray = ls at hl ⊢
  exact wk_X12_ahead C0  x1 x2 x3 M hf hd hP va_S.rf hl
abbrev rm_X12_allOf : Room := { frames := 0, cells := 0, slots := 0, locals := 0 }
def wb_X12_allOf_4 (k4 : Int32 → Int32 → Int32 → SM → Option (Int32)) (x1 : Int32) (x2 : Int32) (x3 : Int32) (M : SM) : Option (Int32) :=
  if 6 ≤ x3 then
  (some x2)
  else
  (if g_in (x1 + x3) 693 then
    g_let ((x2 + (M 40 0 ((x1 + x3).toNatClampNeg)))) fun x2_3 =>
    g_let (x3 + 1) fun x3_4 =>
    k4 x1 x2_3 x3_4 M
    else none)
set_option maxRecDepth 100000 in
set_option maxHeartbeats 4000000 in
theorem bk_X12_allOf_4 {p : Program} {l : Launch} {e : Env} {s : State} {m : MethodId} {args : Array Value} {below : List Frame} {meth : Method} {c : Code} {G : GP} {X : SM} {τ : SL} (C0 : g_mc p s m args meth c RX12 cX12_allOf (some .int) 4 G) {r0 : Int32} (k4 : Int32 → Int32 → Int32 → SM → Option (Int32)) (hk4 : ∀ (x1 : Int32) (x2 : Int32) (x3 : Int32) (M : SM), k4 x1 x2 x3 M = some r0 → ∀ {H : Heap} {locs : List Loc}, va_P G.1 g_cl (wd G (cb X M) τ) H → va_S (g_A G) s.heap H locs → ∀ {ls : Array Slot}, lv_has ls 4 [(0, .ref (G.2.1 39 0)), (1, .int x1), (2, .int x2), (3, .int x3)] → W p l e rm_X12_allOf s m args below meth c H locs 0 0 (MQ below (va_Qi (fun r u => r = r0 ∧ u = (X, M, τ)) (g_pw G) (g_A G)) args s 0 0 (g_A G)) (F0 m 4 ls [])) (x1 : Int32) (x2 : Int32) (x3 : Int32) (M : SM) (hf : wb_X12_allOf_4 k4 x1 x2 x3 M = some r0) {H : Heap} {locs : List Loc} (hP : va_P G.1 g_cl (wd G (cb X M) τ) H) (hS : va_S (g_A G) s.heap H locs) {ls : Array Slot} (hl : lv_has ls 4 [(0, .ref (G.2.1 39 0)), (1, .int x1), (2, .int x2), (3, .int x3)]) : W p l e rm_X12_allOf s m args below meth c H locs 0 0 (MQ below (va_Qi (fun r u => r = r0 ∧ u = (X, M, τ)) (g_pw G) (g_A G)) args s 0 0 (g_A G)) (F0 m 4 ls []) := by
  obtain ⟨hx, hb, hr, hml, hown, hts, hlocks, hC⟩ := id C0
  unfold wb_X12_allOf_4 at hf
  refine lv_iload_n hx hb dX12_allOf_4 rfl (lv_at hl 3 rfl) ?_
  refine lv_bipush (v := 6) hx hb dX12_allOf_5 (by decide) ?_
  refine lv_icmp_ge (tgt := 27) hx hb dX12_allOf_7 (by decide) (fun hc_1 => ?_) (fun hc_1 => ?_)
  · have hf := g_pos hf hc_1
    refine lv_iload_n hx hb dX12_allOf_27 rfl (lv_at hl 2 rfl) ?_
    cases hf
    exact x_iret hx hb hlocks hC hP hS hr dX12_allOf_28
  · have hf := g_neg hf hc_1
    refine lv_iload_n hx hb dX12_allOf_10 rfl (lv_at hl 2 rfl) ?_
    refine lv_aload_n hx hb dX12_allOf_11 rfl (lv_at hl 0 rfl) ?_
    refine gt_39_0 hx hb hts hown hC hP Nat.zero_lt_one q6_17 dX12_allOf_12 ?_
    refine lv_iload_n hx hb dX12_allOf_15 rfl (lv_at hl 1 rfl) ?_
    refine lv_iload_n hx hb dX12_allOf_16 rfl (lv_at hl 3 rfl) ?_
    refine lv_iadd hx hb dX12_allOf_17 ?_
    obtain ⟨hg_2, hf⟩ := g_gd hf
    refine xildM (k := 40) (n := 693) hx hb hC hP (fun _ _ => rfl) rfl Nat.zero_lt_one hg_2 dX12_allOf_18 ?_
    refine lv_iadd hx hb dX12_allOf_19 ?_
    obtain ⟨x2_3, ex2_3, hf⟩ := g_letE hf
    refine lv_topE ex2_3 ?_
    refine lv_istore_n (lv' := [(2, .int x2_3), (0, .ref (G.2.1 39 0)), (1, .int x1), (3, .int x3)]) hx hb dX12_allOf_20 rfl hl (by decide) rfl (fun ls hl => ?_)
    obtain ⟨x3_4, ex3_4, hf⟩ := g_letE hf
    refine lv_iinc (v := x3_4) (lv' := [(3, .int x3_4), (2, .int x2_3), (0, .ref (G.2.1 39 0)), (1, .int x1)]) hx hb dX12_allOf_21 hl (k := 3) rfl (by rw [← ex3_4]; rfl) (by decide) rfl (fun ls hl => ?_)
    refine lv_goto (tgt := 4) hx hb dX12_allOf_24 (by decide) ?_
    exact hk4 x1 x2_3 x3_4 M hf hP hS (lv_sub hl [2, 3, 1, 0] rfl)
def wl_X12_allOf_4 (n : Nat) (x1 : Int32) (x2 : Int32) (x3 : Int32) (M : SM) : Option (Int32) := g_loop (α := Int32 × Int32 × Int32 × SM) (fun k a => wb_X12_allOf_4 (fun x1 x2 x3 M => k (x1, x2, x3, M)) a.1 a.2.1 a.2.2.1 a.2.2.2) n (x1, x2, x3, M)
set_option maxRecDepth 100000 in
set_option maxHeartbeats 4000000 in
theorem lp_X12_allOf_4 {p : Program} {l : Launch} {e : Env} {s : State} {m : MethodId} {args : Array Value} {below : List Frame} {meth : Method} {c : Code} {G : GP} {X : SM} {τ : SL} (C0 : g_mc p s m args meth c RX12 cX12_allOf (some .int) 4 G) {r0 : Int32} (n : Nat) : ∀ (x1 : Int32) (x2 : Int32) (x3 : Int32) (M : SM), wl_X12_allOf_4 n x1 x2 x3 M = some r0 → ∀ {H : Heap} {locs : List Loc}, va_P G.1 g_cl (wd G (cb X M) τ) H → va_S (g_A G) s.heap H locs → ∀ {ls : Array Slot}, lv_has ls 4 [(0, .ref (G.2.1 39 0)), (1, .int x1), (2, .int x2), (3, .int x3)] → W p l e rm_X12_allOf s m args below meth c H locs 0 0 (MQ below (va_Qi (fun r u => r = r0 ∧ u = (X, M, τ)) (g_pw G) (g_A G)) args s 0 0 (g_A G)) (F0 m 4 ls []) := by
  induction n with
  | zero =>
    intro x1 x2 x3 M hf
    have hf : (none : Option (Int32)) = _ := hf
    cases hf
  | succ n ih =>
    intro x1 x2 x3 M hf H locs hP hS ls hl
    exact bk_X12_allOf_4 C0   (fun x1 x2 x3 M => wl_X12_allOf_4   n x1 x2 x3 M) ih x1 x2 x3 M hf hP hS hl
def fn_X12_allOf (x1 : Int32) (M : SM) : Option (Int32) :=
  wl_X12_allOf_4 1000 x1 0 0 M
set_option maxRecDepth 100000 in
set_option maxHeartbeats 4000000 in
theorem wk_X12_allOf {p : Program} {l : Launch} {e : Env} {s : State} {m : MethodId} {args : Array Value} {below : List Frame} {meth : Method} {c : Code} {G : GP} {X : SM} {τ : SL} (C0 : g_mc p s m args meth c RX12 cX12_allOf (some .int) 4 G) {r0 : Int32} (x1 : Int32) (M : SM) (hf : fn_X12_allOf x1 M = some r0) {H : Heap} {locs : List Loc} (hP : va_P G.1 g_cl (wd G (cb X M) τ) H) (hS : va_S (g_A G) s.heap H locs) {ls : Array Slot} (hl : lv_has ls 4 [(0, .ref (G.2.1 39 0)), (1, .int x1)]) : W p l e rm_X12_allOf s m args below meth c H locs 0 0 (MQ below (va_Qi (fun r u => r = r0 ∧ u = (X, M, τ)) (g_pw G) (g_A G)) args s 0 0 (g_A G)) (F0 m 0 ls []) := by
  obtain ⟨hx, hb, hr, hml, hown, hts, hlocks, hC⟩ := id C0
  unfold fn_X12_allOf at hf
  refine lv_iconst (v := 0) hx hb dX12_allOf_0 (by decide) ?_
  refine lv_istore_n (lv' := [(2, .int 0), (0, .ref (G.2.1 39 0)), (1, .int x1)]) hx hb dX12_allOf_1 rfl hl (by decide) rfl (fun ls hl => ?_)
  refine lv_iconst (v := 0) hx hb dX12_allOf_2 (by decide) ?_
  refine lv_istore_n (lv' := [(3, .int 0), (2, .int 0), (0, .ref (G.2.1 39 0)), (1, .int x1)]) hx hb dX12_allOf_3 rfl hl (by decide) rfl (fun ls hl => ?_)
  exact lp_X12_allOf_4 C0 1000 x1 0 0 M hf hP hS (lv_sub hl [2, 3, 1, 0] rfl)
set_option maxRecDepth 100000 in
set_option maxHeartbeats 4000000 in
theorem ct_X12_allOf (l : Launch) (G : GP) (X M : SM) (τ : SL) (x1 : Int32) {r0 : Int32} (hf : fn_X12_allOf x1 M = some r0) : Met l yX12_allOf (wz yX12_allOf cX12_allOf 4 (some .int)) rm_X12_allOf (va_Pc [.ref (G.2.1 39 0), .int x1] (g_pw G (X, M, τ))) (va_Qi (fun r u => r = r0 ∧ u = (X, M, τ)) (g_pw G) (g_A G)) 0 0 (g_A G) := by
  refine Met.ofW (cc := cX12_allOf) (maxL := 4) (ret := (some .int)) (by decide +kernel) rfl ?_
  intro p e s m args below meth c s₁ B hml hv
  obtain ⟨rfl, hC, hP⟩ := hv
  have C0 : g_mc p s m _ meth c RX12 cX12_allOf (some .int) 4 G := ⟨B.exec, B.bytes, B.returns, hml, findClass_of_methodNamed B.named, fun w h => atoms_spec (ws := wz yX12_allOf cX12_allOf 4 (some .int)) B.pre w (List.mem_cons_of_mem _ h), B.notSynchronized, hC⟩
  have hl := lv_entry ([.ref (G.2.1 39 0), .int x1]) (n := 4) (Nat.le_of_ble_eq_true rfl)
  rw [lg_entry_eq]
  generalize (lg_sl ([.ref (G.2.1 39 0), .int x1]) ++ List.replicate (4 - (lg_sl ([.ref (G.2.1 39 0), .int x1])).length) Slot.unset).toArray = ls at hl ⊢
  exact wk_X12_allOf C0  x1 M hf hP va_S.rf hl
abbrev rm_X12_wipes : Room := { frames := 1, cells := 0, slots := 0, locals := 24 }
def wb_X12_wipes_51 (k51 : Int32 → Int32 → SM → Option (SM)) (x1 : Int32) (x2 : Int32) (M : SM) : Option (SM) :=
  if 24 ≤ x2 then
  (if g_in x1 6 then
    g_let (u1 M 43 0 (x1.toNatClampNeg) 0) fun M_13 =>
    some M_13
    else none)
  else
  (if g_in ((144 + (24 * x1)) + x2) 693 then
    g_let (u1 M 40 0 (((144 + (24 * x1)) + x2).toNatClampNeg) 0) fun M_15 =>
    if g_in ((288 + (24 * x1)) + x2) 693 then
    g_let (u1 M_15 40 0 (((288 + (24 * x1)) + x2).toNatClampNeg) 0) fun M_17 =>
    g_let (x2 + 1) fun x2_18 =>
    k51 x1 x2_18 M_17
    else none
    else none)
set_option maxRecDepth 100000 in
set_option maxHeartbeats 4000000 in
theorem bk_X12_wipes_51 {p : Program} {l : Launch} {e : Env} {s : State} {m : MethodId} {args : Array Value} {below : List Frame} {meth : Method} {c : Code} {G : GP} {X : SM} {τ : SL} (C0 : g_mc p s m args meth c RX12 cX12_wipes none 3 G) {M0 : SM} (k51 : Int32 → Int32 → SM → Option (SM)) (hk51 : ∀ (x1 : Int32) (x2 : Int32) (M : SM), k51 x1 x2 M = some M0 → ∀ {H : Heap} {locs : List Loc}, va_P G.1 g_cl (wd G (cb X M) τ) H → va_S (g_A G) s.heap H locs → ∀ {ls : Array Slot}, lv_has ls 3 [(0, .ref (G.2.1 39 0)), (1, .int x1), (2, .int x2)] → W p l e rm_X12_wipes s m args below meth c H locs 0 0 (MQ below (va_Qv (fun u => u = (X, M0, τ)) (g_pw G) (g_A G)) args s 0 0 (g_A G)) (F0 m 51 ls [])) (x1 : Int32) (x2 : Int32) (M : SM) (hf : wb_X12_wipes_51 k51 x1 x2 M = some M0) {H : Heap} {locs : List Loc} (hP : va_P G.1 g_cl (wd G (cb X M) τ) H) (hS : va_S (g_A G) s.heap H locs) {ls : Array Slot} (hl : lv_has ls 3 [(0, .ref (G.2.1 39 0)), (1, .int x1), (2, .int x2)]) : W p l e rm_X12_wipes s m args below meth c H locs 0 0 (MQ below (va_Qv (fun u => u = (X, M0, τ)) (g_pw G) (g_A G)) args s 0 0 (g_A G)) (F0 m 51 ls []) := by
  obtain ⟨hx, hb, hr, hml, hown, hts, hlocks, hC⟩ := id C0
  unfold wb_X12_wipes_51 at hf
  refine lv_iload_n hx hb dX12_wipes_51 rfl (lv_at hl 2 rfl) ?_
  refine lv_bipush (v := 24) hx hb dX12_wipes_52 (by decide) ?_
  refine lv_icmp_ge (tgt := 95) hx hb dX12_wipes_54 (by decide) (fun hc_11 => ?_) (fun hc_11 => ?_)
  · have hf := g_pos hf hc_11
    refine lv_aload_n hx hb dX12_wipes_95 rfl (lv_at hl 0 rfl) ?_
    refine gt_39_3 hx hb hts hown hC hP Nat.zero_lt_one q6_20 dX12_wipes_96 ?_
    refine lv_iload_n hx hb dX12_wipes_99 rfl (lv_at hl 1 rfl) ?_
    refine lv_iconst (v := 0) hx hb dX12_wipes_100 (by decide) ?_
    obtain ⟨hg_12, hf⟩ := g_gd hf
    obtain ⟨M_13, eM_13, hf⟩ := g_letE hf
    refine xistM (k := 43) (n := 6) hx hb hC hP hS (fun _ _ => rfl) rfl Nat.zero_lt_one hg_12 dX12_wipes_101 (fun H locs hP hS => ?_)
    rw [eM_13] at hP
    cases hf
    exact x_vret hx hb hlocks hC hP hS hr dX12_wipes_102
  · have hf := g_neg hf hc_11
    refine lv_aload_n hx hb dX12_wipes_57 rfl (lv_at hl 0 rfl) ?_
    refine gt_39_0 hx hb hts hown hC hP Nat.zero_lt_one q6_17 dX12_wipes_58 ?_
    refine lv_sipush (v := 144) hx hb dX12_wipes_61 (by decide) ?_
    refine lv_bipush (v := 24) hx hb dX12_wipes_64 (by decide) ?_
    refine lv_iload_n hx hb dX12_wipes_66 rfl (lv_at hl 1 rfl) ?_
    refine lv_imul hx hb dX12_wipes_67 ?_
    refine lv_iadd hx hb dX12_wipes_68 ?_
    refine lv_iload_n hx hb dX12_wipes_69 rfl (lv_at hl 2 rfl) ?_
    refine lv_iadd hx hb dX12_wipes_70 ?_
    refine lv_iconst (v := 0) hx hb dX12_wipes_71 (by decide) ?_
    obtain ⟨hg_14, hf⟩ := g_gd hf
    obtain ⟨M_15, eM_15, hf⟩ := g_letE hf
    refine xistM (k := 40) (n := 693) hx hb hC hP hS (fun _ _ => rfl) rfl Nat.zero_lt_one hg_14 dX12_wipes_72 (fun H locs hP hS => ?_)
    rw [eM_15] at hP
    refine lv_aload_n hx hb dX12_wipes_73 rfl (lv_at hl 0 rfl) ?_
    refine gt_39_0 hx hb hts hown hC hP Nat.zero_lt_one q6_17 dX12_wipes_74 ?_
    refine lv_sipush (v := 288) hx hb dX12_wipes_77 (by decide) ?_
    refine lv_bipush (v := 24) hx hb dX12_wipes_80 (by decide) ?_
    refine lv_iload_n hx hb dX12_wipes_82 rfl (lv_at hl 1 rfl) ?_
    refine lv_imul hx hb dX12_wipes_83 ?_
    refine lv_iadd hx hb dX12_wipes_84 ?_
    refine lv_iload_n hx hb dX12_wipes_85 rfl (lv_at hl 2 rfl) ?_
    refine lv_iadd hx hb dX12_wipes_86 ?_
    refine lv_iconst (v := 0) hx hb dX12_wipes_87 (by decide) ?_
    obtain ⟨hg_16, hf⟩ := g_gd hf
    obtain ⟨M_17, eM_17, hf⟩ := g_letE hf
    refine xistM (k := 40) (n := 693) hx hb hC hP hS (fun _ _ => rfl) rfl Nat.zero_lt_one hg_16 dX12_wipes_88 (fun H locs hP hS => ?_)
    rw [eM_17] at hP
    obtain ⟨x2_18, ex2_18, hf⟩ := g_letE hf
    refine lv_iinc (v := x2_18) (lv' := [(2, .int x2_18), (0, .ref (G.2.1 39 0)), (1, .int x1)]) hx hb dX12_wipes_89 hl (k := 2) rfl (by rw [← ex2_18]; rfl) (by decide) rfl (fun ls hl => ?_)
    refine lv_goto (tgt := 51) hx hb dX12_wipes_92 (by decide) ?_
    exact hk51 x1 x2_18 M_17 hf hP hS (lv_sub hl [1, 2, 0] rfl)
def wl_X12_wipes_51 (n : Nat) (x1 : Int32) (x2 : Int32) (M : SM) : Option (SM) := g_loop (α := Int32 × Int32 × SM) (fun k a => wb_X12_wipes_51 (fun x1 x2 M => k (x1, x2, M)) a.1 a.2.1 a.2.2) n (x1, x2, M)
set_option maxRecDepth 100000 in
set_option maxHeartbeats 4000000 in
theorem lp_X12_wipes_51 {p : Program} {l : Launch} {e : Env} {s : State} {m : MethodId} {args : Array Value} {below : List Frame} {meth : Method} {c : Code} {G : GP} {X : SM} {τ : SL} (C0 : g_mc p s m args meth c RX12 cX12_wipes none 3 G) {M0 : SM} (n : Nat) : ∀ (x1 : Int32) (x2 : Int32) (M : SM), wl_X12_wipes_51 n x1 x2 M = some M0 → ∀ {H : Heap} {locs : List Loc}, va_P G.1 g_cl (wd G (cb X M) τ) H → va_S (g_A G) s.heap H locs → ∀ {ls : Array Slot}, lv_has ls 3 [(0, .ref (G.2.1 39 0)), (1, .int x1), (2, .int x2)] → W p l e rm_X12_wipes s m args below meth c H locs 0 0 (MQ below (va_Qv (fun u => u = (X, M0, τ)) (g_pw G) (g_A G)) args s 0 0 (g_A G)) (F0 m 51 ls []) := by
  induction n with
  | zero =>
    intro x1 x2 M hf
    have hf : (none : Option (SM)) = _ := hf
    cases hf
  | succ n ih =>
    intro x1 x2 M hf H locs hP hS ls hl
    exact bk_X12_wipes_51 C0   (fun x1 x2 M => wl_X12_wipes_51   n x1 x2 M) ih x1 x2 M hf hP hS hl
def fn_X12_wipes (x1 : Int32) (M : SM) : Option (SM) :=
  (fn_X12_leaves x1 M).bind fun M_1 =>
  if g_in (438 + x1) 693 then
  g_let (u1 M_1 40 0 ((438 + x1).toNatClampNeg) 0) fun M_4 =>
  if g_in (444 + x1) 693 then
  g_let (u1 M_4 40 0 ((444 + x1).toNatClampNeg) 0) fun M_6 =>
  if g_in (432 + x1) 693 then
  g_let (u1 M_6 40 0 ((432 + x1).toNatClampNeg) 0) fun M_8 =>
  if g_in (468 + x1) 693 then
  g_let (u1 M_8 40 0 ((468 + x1).toNatClampNeg) (-1)) fun M_10 =>
  wl_X12_wipes_51 1000 x1 0 M_10
  else none
  else none
  else none
  else none
set_option maxRecDepth 100000 in
set_option maxHeartbeats 4000000 in
theorem wk_X12_wipes {p : Program} {l : Launch} {e : Env} {s : State} {m : MethodId} {args : Array Value} {below : List Frame} {meth : Method} {c : Code} {G : GP} {X : SM} {τ : SL} (C0 : g_mc p s m args meth c RX12 cX12_wipes none 3 G) {M0 : SM} (x1 : Int32) (M : SM) (hf : fn_X12_wipes x1 M = some M0) {H : Heap} {locs : List Loc} (hP : va_P G.1 g_cl (wd G (cb X M) τ) H) (hS : va_S (g_A G) s.heap H locs) {ls : Array Slot} (hl : lv_has ls 3 [(0, .ref (G.2.1 39 0)), (1, .int x1)]) : W p l e rm_X12_wipes s m args below meth c H locs 0 0 (MQ below (va_Qv (fun u => u = (X, M0, τ)) (g_pw G) (g_A G)) args s 0 0 (g_A G)) (F0 m 0 ls []) := by
  obtain ⟨hx, hb, hr, hml, hown, hts, hlocks, hC⟩ := id C0
  unfold fn_X12_wipes at hf
  refine lv_aload_n hx hb dX12_wipes_0 rfl (lv_at hl 0 rfl) ?_
  refine lv_iload_n hx hb dX12_wipes_1 rfl (lv_at hl 1 rfl) ?_
  obtain ⟨M_1, hc_2, hf⟩ := g_bindE hf
  refine x_callv (v := (X, M_1, τ)) (va_runV (As := [.int x1]) (rest := []) ⟨hx, hb, hml, hown, hts⟩ (ct_X12_leaves l G X M τ x1 hc_2) (cwV 1 hts gd_X12_88 rfl rfl rfl hd_X12_leaves ⟨Nat.le_of_ble_eq_true rfl, Nat.le_of_ble_eq_true rfl⟩) (x_preV (u := (X, M, τ)) (k := 39) (ci := 12) hC hS hP Nat.zero_lt_one rfl rfl) rfl rfl hl.1 rfl (lv_room (Nat.le_of_ble_eq_true rfl)) dX12_wipes_2 ⟨Nat.zero_le _, Nat.zero_le _⟩) hS (fun H locs hP hS => ?_)
  refine lv_aload_n hx hb dX12_wipes_5 rfl (lv_at hl 0 rfl) ?_
  refine gt_39_0 hx hb hts hown hC hP Nat.zero_lt_one q6_17 dX12_wipes_6 ?_
  refine lv_sipush (v := 438) hx hb dX12_wipes_9 (by decide) ?_
  refine lv_iload_n hx hb dX12_wipes_12 rfl (lv_at hl 1 rfl) ?_
  refine lv_iadd hx hb dX12_wipes_13 ?_
  refine lv_iconst (v := 0) hx hb dX12_wipes_14 (by decide) ?_
  obtain ⟨hg_3, hf⟩ := g_gd hf
  obtain ⟨M_4, eM_4, hf⟩ := g_letE hf
  refine xistM (k := 40) (n := 693) hx hb hC hP hS (fun _ _ => rfl) rfl Nat.zero_lt_one hg_3 dX12_wipes_15 (fun H locs hP hS => ?_)
  rw [eM_4] at hP
  refine lv_aload_n hx hb dX12_wipes_16 rfl (lv_at hl 0 rfl) ?_
  refine gt_39_0 hx hb hts hown hC hP Nat.zero_lt_one q6_17 dX12_wipes_17 ?_
  refine lv_sipush (v := 444) hx hb dX12_wipes_20 (by decide) ?_
  refine lv_iload_n hx hb dX12_wipes_23 rfl (lv_at hl 1 rfl) ?_
  refine lv_iadd hx hb dX12_wipes_24 ?_
  refine lv_iconst (v := 0) hx hb dX12_wipes_25 (by decide) ?_
  obtain ⟨hg_5, hf⟩ := g_gd hf
  obtain ⟨M_6, eM_6, hf⟩ := g_letE hf
  refine xistM (k := 40) (n := 693) hx hb hC hP hS (fun _ _ => rfl) rfl Nat.zero_lt_one hg_5 dX12_wipes_26 (fun H locs hP hS => ?_)
  rw [eM_6] at hP
  refine lv_aload_n hx hb dX12_wipes_27 rfl (lv_at hl 0 rfl) ?_
  refine gt_39_0 hx hb hts hown hC hP Nat.zero_lt_one q6_17 dX12_wipes_28 ?_
  refine lv_sipush (v := 432) hx hb dX12_wipes_31 (by decide) ?_
  refine lv_iload_n hx hb dX12_wipes_34 rfl (lv_at hl 1 rfl) ?_
  refine lv_iadd hx hb dX12_wipes_35 ?_
  refine lv_iconst (v := 0) hx hb dX12_wipes_36 (by decide) ?_
  obtain ⟨hg_7, hf⟩ := g_gd hf
  obtain ⟨M_8, eM_8, hf⟩ := g_letE hf
  refine xistM (k := 40) (n := 693) hx hb hC hP hS (fun _ _ => rfl) rfl Nat.zero_lt_one hg_7 dX12_wipes_37 (fun H locs hP hS => ?_)
  rw [eM_8] at hP
  refine lv_aload_n hx hb dX12_wipes_38 rfl (lv_at hl 0 rfl) ?_
  refine gt_39_0 hx hb hts hown hC hP Nat.zero_lt_one q6_17 dX12_wipes_39 ?_
  refine lv_sipush (v := 468) hx hb dX12_wipes_42 (by decide) ?_
  refine lv_iload_n hx hb dX12_wipes_45 rfl (lv_at hl 1 rfl) ?_
  refine lv_iadd hx hb dX12_wipes_46 ?_
  refine lv_iconst (v := (-1)) hx hb dX12_wipes_47 (by decide) ?_
  obtain ⟨hg_9, hf⟩ := g_gd hf
  obtain ⟨M_10, eM_10, hf⟩ := g_letE hf
  refine xistM (k := 40) (n := 693) hx hb hC hP hS (fun _ _ => rfl) rfl Nat.zero_lt_one hg_9 dX12_wipes_48 (fun H locs hP hS => ?_)
  rw [eM_10] at hP
  refine lv_iconst (v := 0) hx hb dX12_wipes_49 (by decide) ?_
  refine lv_istore_n (lv' := [(2, .int 0), (0, .ref (G.2.1 39 0)), (1, .int x1)]) hx hb dX12_wipes_50 rfl hl (by decide) rfl (fun ls hl => ?_)
  exact lp_X12_wipes_51 C0 1000 x1 0 M_10 hf hP hS (lv_sub hl [1, 2, 0] rfl)
set_option maxRecDepth 100000 in
set_option maxHeartbeats 4000000 in
theorem ct_X12_wipes (l : Launch) (G : GP) (X M : SM) (τ : SL) (x1 : Int32) {M0 : SM} (hf : fn_X12_wipes x1 M = some M0) : Met l yX12_wipes (wz yX12_wipes cX12_wipes 3 none) rm_X12_wipes (va_Pc [.ref (G.2.1 39 0), .int x1] (g_pw G (X, M, τ))) (va_Qv (fun u => u = (X, M0, τ)) (g_pw G) (g_A G)) 0 0 (g_A G) := by
  refine Met.ofW (cc := cX12_wipes) (maxL := 3) (ret := none) (by decide +kernel) rfl ?_
  intro p e s m args below meth c s₁ B hml hv
  obtain ⟨rfl, hC, hP⟩ := hv
  have C0 : g_mc p s m _ meth c RX12 cX12_wipes none 3 G := ⟨B.exec, B.bytes, B.returns, hml, findClass_of_methodNamed B.named, fun w h => atoms_spec (ws := wz yX12_wipes cX12_wipes 3 none) B.pre w (List.mem_cons_of_mem _ h), B.notSynchronized, hC⟩
  have hl := lv_entry ([.ref (G.2.1 39 0), .int x1]) (n := 3) (Nat.le_of_ble_eq_true rfl)
  rw [lg_entry_eq]
  generalize (lg_sl ([.ref (G.2.1 39 0), .int x1]) ++ List.replicate (3 - (lg_sl ([.ref (G.2.1 39 0), .int x1])).length) Slot.unset).toArray = ls at hl ⊢
  exact wk_X12_wipes C0  x1 M hf hP va_S.rf hl
abbrev rm_X12_tickOf : Room := { frames := 5, cells := 0, slots := 0, locals := 118 }
def wb_X12_tickOf_5 (k5 : Int32 → Int32 → Int32 → SM → Option (Int32 × SM)) (x1 : Int32) (x3 : Int32) (x4 : Int32) (M : SM) : Option (Int32 × SM) :=
  if 300 ≤ x4 then
  (some ((-1), M))
  else
  ((fn_X12_ticks M).bind fun (r_2, M_3) =>
    if r_2 = x1 then
    (g_let (x3 + (-1)) fun x3_6 =>
      if x3_6 = 0 then
      (some (((M_3 40 0 683) - 1), M_3))
      else
      (g_let (x4 + 1) fun x4_8 =>
        k5 x1 x3_6 x4_8 M_3))
    else
    (g_let (x4 + 1) fun x4_9 =>
      k5 x1 x3 x4_9 M_3))
set_option maxRecDepth 100000 in
set_option maxHeartbeats 4000000 in
theorem bk_X12_tickOf_5 {p : Program} {l : Launch} {e : Env} {s : State} {m : MethodId} {args : Array Value} {below : List Frame} {meth : Method} {c : Code} {G : GP} {X : SM} {τ : SL} (C0 : g_mc p s m args meth c RX12 cX12_tickOf (some .int) 5 G) {r0 : Int32} {M0 : SM} (k5 : Int32 → Int32 → Int32 → SM → Option (Int32 × SM)) (hk5 : ∀ (x1 : Int32) (x3 : Int32) (x4 : Int32) (M : SM), k5 x1 x3 x4 M = some (r0, M0) → ∀ {d : Drawn} (_ : s.drawn.sameBut d lw_cs) {H : Heap} {locs : List Loc}, va_P G.1 g_cl (wd G (cb X M) τ) H → va_S (g_A G) s.heap H locs → ∀ {ls : Array Slot}, lv_has ls 5 [(0, .ref (G.2.1 39 0)), (1, .int x1), (3, .int x3), (4, .int x4)] → W p l e rm_X12_tickOf (s.setDrawn d) m args below meth c H locs 0 0 (MQD lw_cs below (va_Qi (fun r u => r = r0 ∧ u = (X, M0, τ)) (g_pw G) (g_A G)) args s 0 0 (g_A G)) (F0 m 5 ls [])) (x1 : Int32) (x3 : Int32) (x4 : Int32) (M : SM) (hf : wb_X12_tickOf_5 k5 x1 x3 x4 M = some (r0, M0)) {d : Drawn} (hd : s.drawn.sameBut d lw_cs) {H : Heap} {locs : List Loc} (hP : va_P G.1 g_cl (wd G (cb X M) τ) H) (hS : va_S (g_A G) s.heap H locs) {ls : Array Slot} (hl : lv_has ls 5 [(0, .ref (G.2.1 39 0)), (1, .int x1), (3, .int x3), (4, .int x4)]) : W p l e rm_X12_tickOf (s.setDrawn d) m args below meth c H locs 0 0 (MQD lw_cs below (va_Qi (fun r u => r = r0 ∧ u = (X, M0, τ)) (g_pw G) (g_A G)) args s 0 0 (g_A G)) (F0 m 5 ls []) := by
  obtain ⟨hx, hb, hr, hml, hown, hts0, hlocks, hC0⟩ := id C0
  have hts := dr_words hts0 d
  have hC := hC0.dr d
  unfold wb_X12_tickOf_5 at hf
  refine lv_iload hx hb dX12_tickOf_5 (lv_at hl 3 rfl) ?_
  refine lv_sipush (v := 300) hx hb dX12_tickOf_7 (by decide) ?_
  refine lv_icmp_ge (tgt := 48) hx hb dX12_tickOf_10 (by decide) (fun hc_1 => ?_) (fun hc_1 => ?_)
  · have hf := g_pos hf hc_1
    refine lv_iconst (v := (-1)) hx hb dX12_tickOf_48 (by decide) ?_
    cases hf
    refine W.endD hd ?_
    exact x_iret hx hb hlocks hC hP hS hr dX12_tickOf_49
  · have hf := g_neg hf hc_1
    refine lv_aload_n hx hb dX12_tickOf_13 rfl (lv_at hl 0 rfl) ?_
    obtain ⟨⟨r_2, M_3⟩, hc_4, hf⟩ := g_bindE hf
    refine x_calliD (v := (X, M_3, τ)) hd (va_runV_D (As := []) (rest := []) ⟨hx, hb, hml, hown, hts⟩ (ct_X12_ticks l G X M τ  hc_4) (cwV 0 hts gd_X12_172 rfl rfl rfl hd_X12_ticks ⟨Nat.le_of_ble_eq_true rfl, Nat.le_of_ble_eq_true rfl⟩) (x_preV (u := (X, M, τ)) (k := 39) (ci := 12) hC hS hP Nat.zero_lt_one rfl rfl) rfl rfl hl.1 rfl (lv_room (Nat.le_of_ble_eq_true rfl)) dX12_tickOf_14 ⟨Nat.zero_le _, Nat.zero_le _⟩) hS (fun H locs hP hS d hd => ?_)
    have hts := dr_words hts0 d
    have hC := hC0.dr d
    refine lv_iload_n hx hb dX12_tickOf_17 rfl (lv_at hl 1 rfl) ?_
    refine lv_icmp_eq (tgt := 24) hx hb dX12_tickOf_18 (by decide) (fun hc_5 => ?_) (fun hc_5 => ?_)
    · have hf := g_pos hf hc_5
      obtain ⟨x3_6, ex3_6, hf⟩ := g_letE hf
      refine lv_iinc (v := x3_6) (lv' := [(3, .int x3_6), (0, .ref (G.2.1 39 0)), (1, .int x1), (4, .int x4)]) hx hb dX12_tickOf_24 hl (k := 2) rfl (by rw [← ex3_6]; rfl) (by decide) rfl (fun ls hl => ?_)
      refine lv_iload_n hx hb dX12_tickOf_27 rfl (lv_at hl 0 rfl) ?_
      refine lv_if_ne (tgt := 42) hx hb dX12_tickOf_28 (by decide) (fun hc_7 => ?_) (fun hc_7 => ?_)
      · have hf := g_neg hf hc_7
        obtain ⟨x4_8, ex4_8, hf⟩ := g_letE hf
        refine lv_iinc (v := x4_8) (lv' := [(4, .int x4_8), (3, .int x3_6), (0, .ref (G.2.1 39 0)), (1, .int x1)]) hx hb dX12_tickOf_42 hl (k := 3) rfl (by rw [← ex4_8]; rfl) (by decide) rfl (fun ls hl => ?_)
        refine lv_goto (tgt := 5) hx hb dX12_tickOf_45 (by decide) ?_
        exact hk5 x1 x3_6 x4_8 M_3 hf hd hP hS (lv_sub hl [2, 3, 1, 0] rfl)
      · have hf := g_pos hf hc_7
        refine lv_aload_n hx hb dX12_tickOf_31 rfl (lv_at hl 1 rfl) ?_
        refine gt_39_0 hx hb hts hown hC hP Nat.zero_lt_one q6_17 dX12_tickOf_32 ?_
        refine lv_sipush (v := 683) hx hb dX12_tickOf_35 (by decide) ?_
        refine xildM (k := 40) (n := 693) hx hb hC hP (fun _ _ => rfl) rfl Nat.zero_lt_one (by decide) dX12_tickOf_38 ?_
        refine lv_topE (show M_3 40 0 (Int32.toNatClampNeg 683) = M_3 40 0 683 from rfl) ?_
        refine lv_iconst (v := 1) hx hb dX12_tickOf_39 (by decide) ?_
        refine lv_isub hx hb dX12_tickOf_40 ?_
        cases hf
        refine W.endD hd ?_
        exact x_iret hx hb hlocks hC hP hS hr dX12_tickOf_41
    · have hf := g_neg hf hc_5
      refine lv_goto (tgt := 42) hx hb dX12_tickOf_21 (by decide) ?_
      obtain ⟨x4_9, ex4_9, hf⟩ := g_letE hf
      refine lv_iinc (v := x4_9) (lv' := [(4, .int x4_9), (0, .ref (G.2.1 39 0)), (1, .int x1), (3, .int x3)]) hx hb dX12_tickOf_42 hl (k := 3) rfl (by rw [← ex4_9]; rfl) (by decide) rfl (fun ls hl => ?_)
      refine lv_goto (tgt := 5) hx hb dX12_tickOf_45 (by decide) ?_
      exact hk5 x1 x3 x4_9 M_3 hf hd hP hS (lv_sub hl [1, 2, 3, 0] rfl)
def wl_X12_tickOf_5 (n : Nat) (x1 : Int32) (x3 : Int32) (x4 : Int32) (M : SM) : Option (Int32 × SM) := g_loop (α := Int32 × Int32 × Int32 × SM) (fun k a => wb_X12_tickOf_5 (fun x1 x3 x4 M => k (x1, x3, x4, M)) a.1 a.2.1 a.2.2.1 a.2.2.2) n (x1, x3, x4, M)
set_option maxRecDepth 100000 in
set_option maxHeartbeats 4000000 in
theorem lp_X12_tickOf_5 {p : Program} {l : Launch} {e : Env} {s : State} {m : MethodId} {args : Array Value} {below : List Frame} {meth : Method} {c : Code} {G : GP} {X : SM} {τ : SL} (C0 : g_mc p s m args meth c RX12 cX12_tickOf (some .int) 5 G) {r0 : Int32} {M0 : SM} (n : Nat) : ∀ (x1 : Int32) (x3 : Int32) (x4 : Int32) (M : SM), wl_X12_tickOf_5 n x1 x3 x4 M = some (r0, M0) → ∀ {d : Drawn} (_ : s.drawn.sameBut d lw_cs) {H : Heap} {locs : List Loc}, va_P G.1 g_cl (wd G (cb X M) τ) H → va_S (g_A G) s.heap H locs → ∀ {ls : Array Slot}, lv_has ls 5 [(0, .ref (G.2.1 39 0)), (1, .int x1), (3, .int x3), (4, .int x4)] → W p l e rm_X12_tickOf (s.setDrawn d) m args below meth c H locs 0 0 (MQD lw_cs below (va_Qi (fun r u => r = r0 ∧ u = (X, M0, τ)) (g_pw G) (g_A G)) args s 0 0 (g_A G)) (F0 m 5 ls []) := by
  induction n with
  | zero =>
    intro x1 x3 x4 M hf
    have hf : (none : Option (Int32 × SM)) = _ := hf
    cases hf
  | succ n ih =>
    intro x1 x3 x4 M hf d hd H locs hP hS ls hl
    exact bk_X12_tickOf_5 C0   (fun x1 x3 x4 M => wl_X12_tickOf_5   n x1 x3 x4 M) ih x1 x3 x4 M hf hd hP hS hl
def fn_X12_tickOf (x1 : Int32) (x2 : Int32) (M : SM) : Option (Int32 × SM) :=
  wl_X12_tickOf_5 1000 x1 x2 0 M
set_option maxRecDepth 100000 in
set_option maxHeartbeats 4000000 in
theorem wk_X12_tickOf {p : Program} {l : Launch} {e : Env} {s : State} {m : MethodId} {args : Array Value} {below : List Frame} {meth : Method} {c : Code} {G : GP} {X : SM} {τ : SL} (C0 : g_mc p s m args meth c RX12 cX12_tickOf (some .int) 5 G) {r0 : Int32} {M0 : SM} (x1 : Int32) (x2 : Int32) (M : SM) (hf : fn_X12_tickOf x1 x2 M = some (r0, M0)) {d : Drawn} (hd : s.drawn.sameBut d lw_cs) {H : Heap} {locs : List Loc} (hP : va_P G.1 g_cl (wd G (cb X M) τ) H) (hS : va_S (g_A G) s.heap H locs) {ls : Array Slot} (hl : lv_has ls 5 [(0, .ref (G.2.1 39 0)), (1, .int x1), (2, .int x2)]) : W p l e rm_X12_tickOf (s.setDrawn d) m args below meth c H locs 0 0 (MQD lw_cs below (va_Qi (fun r u => r = r0 ∧ u = (X, M0, τ)) (g_pw G) (g_A G)) args s 0 0 (g_A G)) (F0 m 0 ls []) := by
  obtain ⟨hx, hb, hr, hml, hown, hts0, hlocks, hC0⟩ := id C0
  have hts := dr_words hts0 d
  have hC := hC0.dr d
  unfold fn_X12_tickOf at hf
  refine lv_iload_n hx hb dX12_tickOf_0 rfl (lv_at hl 2 rfl) ?_
  refine lv_istore_n (lv' := [(3, .int x2), (0, .ref (G.2.1 39 0)), (1, .int x1), (2, .int x2)]) hx hb dX12_tickOf_1 rfl hl (by decide) rfl (fun ls hl => ?_)
  refine lv_iconst (v := 0) hx hb dX12_tickOf_2 (by decide) ?_
  refine lv_istore (lv' := [(4, .int 0), (3, .int x2), (0, .ref (G.2.1 39 0)), (1, .int x1), (2, .int x2)]) hx hb dX12_tickOf_3 hl (by decide) rfl (fun ls hl => ?_)
  exact lp_X12_tickOf_5 C0 1000 x1 x2 0 M hf hd hP hS (lv_sub hl [2, 3, 1, 0] rfl)
set_option maxRecDepth 100000 in
set_option maxHeartbeats 4000000 in
theorem ct_X12_tickOf (l : Launch) (G : GP) (X M : SM) (τ : SL) (x1 : Int32) (x2 : Int32) {r0 : Int32} {M0 : SM} (hf : fn_X12_tickOf x1 x2 M = some (r0, M0)) : MetD lw_cs l yX12_tickOf (wz yX12_tickOf cX12_tickOf 5 (some .int)) rm_X12_tickOf (va_Pc [.ref (G.2.1 39 0), .int x1, .int x2] (g_pw G (X, M, τ))) (va_Qi (fun r u => r = r0 ∧ u = (X, M0, τ)) (g_pw G) (g_A G)) 0 0 (g_A G) := by
  refine MetD.ofW (cc := cX12_tickOf) (maxL := 5) (ret := (some .int)) (by decide +kernel) rfl ?_
  intro p e s m args below meth c s₁ B hml hv hd
  obtain ⟨rfl, hC, hP⟩ := hv
  have C0 : g_mc p s m _ meth c RX12 cX12_tickOf (some .int) 5 G := ⟨B.exec, B.bytes, B.returns, hml, findClass_of_methodNamed B.named, fun w h => atoms_spec (ws := wz yX12_tickOf cX12_tickOf 5 (some .int)) B.pre w (List.mem_cons_of_mem _ h), B.notSynchronized, hC⟩
  have hl := lv_entry ([.ref (G.2.1 39 0), .int x1, .int x2]) (n := 5) (Nat.le_of_ble_eq_true rfl)
  rw [lg_entry_eq]
  generalize (lg_sl ([.ref (G.2.1 39 0), .int x1, .int x2]) ++ List.replicate (5 - (lg_sl ([.ref (G.2.1 39 0), .int x1, .int x2])).length) Slot.unset).toArray = ls at hl ⊢
  exact wk_X12_tickOf C0  x1 x2 M hf hd hP va_S.rf hl
abbrev rm_X12_alone : Room := { frames := 6, cells := 0, slots := 0, locals := 142 }
def wb_X12_alone_74 (k74 : Int32 → Int32 → SM → Option (Int32 × SM)) (x3 : Int32) (x4 : Int32) (M : SM) : Option (Int32 × SM) :=
  if 6 ≤ x4 then
  ((fn_X12_comesBack M).bind fun M_23 =>
    some (x3, M_23))
  else
  (if g_in x4 6 then
    if g_in x4 6 then
    g_let (u1 M 43 0 (x4.toNatClampNeg) (M 57 0 (x4.toNatClampNeg))) fun M_27 =>
    g_let (x4 + 1) fun x4_28 =>
    k74 x3 x4_28 M_27
    else none
    else none)
set_option maxRecDepth 100000 in
set_option maxHeartbeats 4000000 in
theorem bk_X12_alone_74 {p : Program} {l : Launch} {e : Env} {s : State} {m : MethodId} {args : Array Value} {below : List Frame} {meth : Method} {c : Code} {G : GP} {X : SM} {τ : SL} (C0 : g_mc p s m args meth c RX12 cX12_alone (some .int) 5 G) {r0 : Int32} {M0 : SM} (k74 : Int32 → Int32 → SM → Option (Int32 × SM)) (hk74 : ∀ (x3 : Int32) (x4 : Int32) (M : SM), k74 x3 x4 M = some (r0, M0) → ∀ {d : Drawn} (_ : s.drawn.sameBut d lw_cs) {H : Heap} {locs : List Loc}, va_P G.1 g_cl (wd G (cb X M) τ) H → va_S (g_A G) s.heap H locs → ∀ {ls : Array Slot}, lv_has ls 5 [(0, .ref (G.2.1 39 0)), (3, .int x3), (4, .int x4)] → W p l e rm_X12_alone (s.setDrawn d) m args below meth c H locs 0 0 (MQD lw_cs below (va_Qi (fun r u => r = r0 ∧ u = (X, M0, τ)) (g_pw G) (g_A G)) args s 0 0 (g_A G)) (F0 m 74 ls [])) (x3 : Int32) (x4 : Int32) (M : SM) (hf : wb_X12_alone_74 k74 x3 x4 M = some (r0, M0)) {d : Drawn} (hd : s.drawn.sameBut d lw_cs) {H : Heap} {locs : List Loc} (hP : va_P G.1 g_cl (wd G (cb X M) τ) H) (hS : va_S (g_A G) s.heap H locs) {ls : Array Slot} (hl : lv_has ls 5 [(0, .ref (G.2.1 39 0)), (3, .int x3), (4, .int x4)]) : W p l e rm_X12_alone (s.setDrawn d) m args below meth c H locs 0 0 (MQD lw_cs below (va_Qi (fun r u => r = r0 ∧ u = (X, M0, τ)) (g_pw G) (g_A G)) args s 0 0 (g_A G)) (F0 m 74 ls []) := by
  obtain ⟨hx, hb, hr, hml, hown, hts0, hlocks, hC0⟩ := id C0
  have hts := dr_words hts0 d
  have hC := hC0.dr d
  unfold wb_X12_alone_74 at hf
  refine lv_iload hx hb dX12_alone_74 (lv_at hl 2 rfl) ?_
  refine lv_bipush (v := 6) hx hb dX12_alone_76 (by decide) ?_
  refine lv_icmp_ge (tgt := 101) hx hb dX12_alone_78 (by decide) (fun hc_22 => ?_) (fun hc_22 => ?_)
  · have hf := g_pos hf hc_22
    refine lv_aload_n hx hb dX12_alone_101 rfl (lv_at hl 0 rfl) ?_
    obtain ⟨M_23, hc_24, hf⟩ := g_bindE hf
    refine x_callv (v := (X, M_23, τ)) (va_runV (As := []) (rest := []) ⟨hx, hb, hml, hown, hts⟩ (ct_X12_comesBack l G X M τ  hc_24) (cwV 0 hts gd_X12_233 rfl rfl rfl hd_X12_comesBack ⟨Nat.le_of_ble_eq_true rfl, Nat.le_of_ble_eq_true rfl⟩) (x_preV (u := (X, M, τ)) (k := 39) (ci := 12) hC hS hP Nat.zero_lt_one rfl rfl) rfl rfl hl.1 rfl (lv_room (Nat.le_of_ble_eq_true rfl)) dX12_alone_102 ⟨Nat.zero_le _, Nat.zero_le _⟩) hS (fun H locs hP hS => ?_)
    refine lv_iload_n hx hb dX12_alone_105 rfl (lv_at hl 1 rfl) ?_
    cases hf
    refine W.endD hd ?_
    exact x_iret hx hb hlocks hC hP hS hr dX12_alone_106
  · have hf := g_neg hf hc_22
    refine lv_aload_n hx hb dX12_alone_81 rfl (lv_at hl 0 rfl) ?_
    refine gt_39_3 hx hb hts hown hC hP Nat.zero_lt_one q6_20 dX12_alone_82 ?_
    refine lv_iload hx hb dX12_alone_85 (lv_at hl 2 rfl) ?_
    refine lv_aload_n hx hb dX12_alone_87 rfl (lv_at hl 0 rfl) ?_
    refine gt_39_21 hx hb hts hown hC hP Nat.zero_lt_one q7_12 dX12_alone_88 ?_
    refine lv_iload hx hb dX12_alone_91 (lv_at hl 2 rfl) ?_
    obtain ⟨hg_25, hf⟩ := g_gd hf
    refine xildM (k := 57) (n := 6) hx hb hC hP (fun _ _ => rfl) rfl Nat.zero_lt_one hg_25 dX12_alone_93 ?_
    obtain ⟨hg_26, hf⟩ := g_gd hf
    obtain ⟨M_27, eM_27, hf⟩ := g_letE hf
    refine xistM (k := 43) (n := 6) hx hb hC hP hS (fun _ _ => rfl) rfl Nat.zero_lt_one hg_26 dX12_alone_94 (fun H locs hP hS => ?_)
    rw [eM_27] at hP
    obtain ⟨x4_28, ex4_28, hf⟩ := g_letE hf
    refine lv_iinc (v := x4_28) (lv' := [(4, .int x4_28), (0, .ref (G.2.1 39 0)), (3, .int x3)]) hx hb dX12_alone_95 hl (k := 2) rfl (by rw [← ex4_28]; rfl) (by decide) rfl (fun ls hl => ?_)
    refine lv_goto (tgt := 74) hx hb dX12_alone_98 (by decide) ?_
    exact hk74 x3 x4_28 M_27 hf hd hP hS (lv_sub hl [1, 2, 0] rfl)
def wl_X12_alone_74 (n : Nat) (x3 : Int32) (x4 : Int32) (M : SM) : Option (Int32 × SM) := g_loop (α := Int32 × Int32 × SM) (fun k a => wb_X12_alone_74 (fun x3 x4 M => k (x3, x4, M)) a.1 a.2.1 a.2.2) n (x3, x4, M)
set_option maxRecDepth 100000 in
set_option maxHeartbeats 4000000 in
theorem lp_X12_alone_74 {p : Program} {l : Launch} {e : Env} {s : State} {m : MethodId} {args : Array Value} {below : List Frame} {meth : Method} {c : Code} {G : GP} {X : SM} {τ : SL} (C0 : g_mc p s m args meth c RX12 cX12_alone (some .int) 5 G) {r0 : Int32} {M0 : SM} (n : Nat) : ∀ (x3 : Int32) (x4 : Int32) (M : SM), wl_X12_alone_74 n x3 x4 M = some (r0, M0) → ∀ {d : Drawn} (_ : s.drawn.sameBut d lw_cs) {H : Heap} {locs : List Loc}, va_P G.1 g_cl (wd G (cb X M) τ) H → va_S (g_A G) s.heap H locs → ∀ {ls : Array Slot}, lv_has ls 5 [(0, .ref (G.2.1 39 0)), (3, .int x3), (4, .int x4)] → W p l e rm_X12_alone (s.setDrawn d) m args below meth c H locs 0 0 (MQD lw_cs below (va_Qi (fun r u => r = r0 ∧ u = (X, M0, τ)) (g_pw G) (g_A G)) args s 0 0 (g_A G)) (F0 m 74 ls []) := by
  induction n with
  | zero =>
    intro x3 x4 M hf
    have hf : (none : Option (Int32 × SM)) = _ := hf
    cases hf
  | succ n ih =>
    intro x3 x4 M hf d hd H locs hP hS ls hl
    exact bk_X12_alone_74 C0   (fun x3 x4 M => wl_X12_alone_74   n x3 x4 M) ih x3 x4 M hf hd hP hS hl
def wb_X12_alone_30 (k30 : Int32 → Int32 → Int32 → SM → Option (Int32 × SM)) (x1 : Int32) (x2 : Int32) (x3 : Int32) (M : SM) : Option (Int32 × SM) :=
  if 6 ≤ x3 then
  ((fn_X12_tickOf x1 x2 M).bind fun (r_11, M_12) =>
    wl_X12_alone_74 1000 r_11 0 M_12)
  else
  (if g_in x3 6 then
    if g_in x3 6 then
    g_let (u1 M 57 0 (x3.toNatClampNeg) (M 43 0 (x3.toNatClampNeg))) fun M_16 =>
    if x3 = x1 then
    (g_let (x3 + 1) fun x3_18 =>
      k30 x1 x2 x3_18 M_16)
    else
    ((fn_X12_wipes x3 M_16).bind fun M_19 =>
      g_let (x3 + 1) fun x3_21 =>
      k30 x1 x2 x3_21 M_19)
    else none
    else none)
set_option maxRecDepth 100000 in
set_option maxHeartbeats 4000000 in
theorem bk_X12_alone_30 {p : Program} {l : Launch} {e : Env} {s : State} {m : MethodId} {args : Array Value} {below : List Frame} {meth : Method} {c : Code} {G : GP} {X : SM} {τ : SL} (C0 : g_mc p s m args meth c RX12 cX12_alone (some .int) 5 G) {r0 : Int32} {M0 : SM} (k30 : Int32 → Int32 → Int32 → SM → Option (Int32 × SM)) (hk30 : ∀ (x1 : Int32) (x2 : Int32) (x3 : Int32) (M : SM), k30 x1 x2 x3 M = some (r0, M0) → ∀ {d : Drawn} (_ : s.drawn.sameBut d lw_cs) {H : Heap} {locs : List Loc}, va_P G.1 g_cl (wd G (cb X M) τ) H → va_S (g_A G) s.heap H locs → ∀ {ls : Array Slot}, lv_has ls 5 [(0, .ref (G.2.1 39 0)), (1, .int x1), (2, .int x2), (3, .int x3)] → W p l e rm_X12_alone (s.setDrawn d) m args below meth c H locs 0 0 (MQD lw_cs below (va_Qi (fun r u => r = r0 ∧ u = (X, M0, τ)) (g_pw G) (g_A G)) args s 0 0 (g_A G)) (F0 m 30 ls [])) (x1 : Int32) (x2 : Int32) (x3 : Int32) (M : SM) (hf : wb_X12_alone_30 k30 x1 x2 x3 M = some (r0, M0)) {d : Drawn} (hd : s.drawn.sameBut d lw_cs) {H : Heap} {locs : List Loc} (hP : va_P G.1 g_cl (wd G (cb X M) τ) H) (hS : va_S (g_A G) s.heap H locs) {ls : Array Slot} (hl : lv_has ls 5 [(0, .ref (G.2.1 39 0)), (1, .int x1), (2, .int x2), (3, .int x3)]) : W p l e rm_X12_alone (s.setDrawn d) m args below meth c H locs 0 0 (MQD lw_cs below (va_Qi (fun r u => r = r0 ∧ u = (X, M0, τ)) (g_pw G) (g_A G)) args s 0 0 (g_A G)) (F0 m 30 ls []) := by
  obtain ⟨hx, hb, hr, hml, hown, hts0, hlocks, hC0⟩ := id C0
  have hts := dr_words hts0 d
  have hC := hC0.dr d
  unfold wb_X12_alone_30 at hf
  refine lv_iload_n hx hb dX12_alone_30 rfl (lv_at hl 3 rfl) ?_
  refine lv_bipush (v := 6) hx hb dX12_alone_31 (by decide) ?_
  refine lv_icmp_ge (tgt := 64) hx hb dX12_alone_33 (by decide) (fun hc_10 => ?_) (fun hc_10 => ?_)
  · have hf := g_pos hf hc_10
    refine lv_aload_n hx hb dX12_alone_64 rfl (lv_at hl 0 rfl) ?_
    refine lv_iload_n hx hb dX12_alone_65 rfl (lv_at hl 1 rfl) ?_
    refine lv_iload_n hx hb dX12_alone_66 rfl (lv_at hl 2 rfl) ?_
    obtain ⟨⟨r_11, M_12⟩, hc_13, hf⟩ := g_bindE hf
    refine x_calliD (v := (X, M_12, τ)) hd (va_runV_D (As := [.int x1, .int x2]) (rest := []) ⟨hx, hb, hml, hown, hts⟩ (ct_X12_tickOf l G X M τ x1 x2 hc_13) (cwV 2 hts gd_X12_230 rfl rfl rfl hd_X12_tickOf ⟨Nat.le_of_ble_eq_true rfl, Nat.le_of_ble_eq_true rfl⟩) (x_preV (u := (X, M, τ)) (k := 39) (ci := 12) hC hS hP Nat.zero_lt_one rfl rfl) rfl rfl hl.1 rfl (lv_room (Nat.le_of_ble_eq_true rfl)) dX12_alone_67 ⟨Nat.zero_le _, Nat.zero_le _⟩) hS (fun H locs hP hS d hd => ?_)
    have hts := dr_words hts0 d
    have hC := hC0.dr d
    refine lv_istore_n (lv' := [(3, .int r_11), (0, .ref (G.2.1 39 0)), (1, .int x1), (2, .int x2)]) hx hb dX12_alone_70 rfl hl (by decide) rfl (fun ls hl => ?_)
    refine lv_iconst (v := 0) hx hb dX12_alone_71 (by decide) ?_
    refine lv_istore (lv' := [(4, .int 0), (3, .int r_11), (0, .ref (G.2.1 39 0)), (1, .int x1), (2, .int x2)]) hx hb dX12_alone_72 hl (by decide) rfl (fun ls hl => ?_)
    exact lp_X12_alone_74 C0 1000 r_11 0 M_12 hf hd hP hS (lv_sub hl [2, 1, 0] rfl)
  · have hf := g_neg hf hc_10
    refine lv_aload_n hx hb dX12_alone_36 rfl (lv_at hl 0 rfl) ?_
    refine gt_39_21 hx hb hts hown hC hP Nat.zero_lt_one q7_12 dX12_alone_37 ?_
    refine lv_iload_n hx hb dX12_alone_40 rfl (lv_at hl 3 rfl) ?_
    refine lv_aload_n hx hb dX12_alone_41 rfl (lv_at hl 0 rfl) ?_
    refine gt_39_3 hx hb hts hown hC hP Nat.zero_lt_one q6_20 dX12_alone_42 ?_
    refine lv_iload_n hx hb dX12_alone_45 rfl (lv_at hl 3 rfl) ?_
    obtain ⟨hg_14, hf⟩ := g_gd hf
    refine xildM (k := 43) (n := 6) hx hb hC hP (fun _ _ => rfl) rfl Nat.zero_lt_one hg_14 dX12_alone_46 ?_
    obtain ⟨hg_15, hf⟩ := g_gd hf
    obtain ⟨M_16, eM_16, hf⟩ := g_letE hf
    refine xistM (k := 57) (n := 6) hx hb hC hP hS (fun _ _ => rfl) rfl Nat.zero_lt_one hg_15 dX12_alone_47 (fun H locs hP hS => ?_)
    rw [eM_16] at hP
    refine lv_iload_n hx hb dX12_alone_48 rfl (lv_at hl 3 rfl) ?_
    refine lv_iload_n hx hb dX12_alone_49 rfl (lv_at hl 1 rfl) ?_
    refine lv_icmp_eq (tgt := 58) hx hb dX12_alone_50 (by decide) (fun hc_17 => ?_) (fun hc_17 => ?_)
    · have hf := g_pos hf hc_17
      obtain ⟨x3_18, ex3_18, hf⟩ := g_letE hf
      refine lv_iinc (v := x3_18) (lv' := [(3, .int x3_18), (0, .ref (G.2.1 39 0)), (1, .int x1), (2, .int x2)]) hx hb dX12_alone_58 hl (k := 3) rfl (by rw [← ex3_18]; rfl) (by decide) rfl (fun ls hl => ?_)
      refine lv_goto (tgt := 30) hx hb dX12_alone_61 (by decide) ?_
      exact hk30 x1 x2 x3_18 M_16 hf hd hP hS (lv_sub hl [1, 2, 3, 0] rfl)
    · have hf := g_neg hf hc_17
      refine lv_aload_n hx hb dX12_alone_53 rfl (lv_at hl 0 rfl) ?_
      refine lv_iload_n hx hb dX12_alone_54 rfl (lv_at hl 3 rfl) ?_
      obtain ⟨M_19, hc_20, hf⟩ := g_bindE hf
      refine x_callv (v := (X, M_19, τ)) (va_runV (As := [.int x3]) (rest := []) ⟨hx, hb, hml, hown, hts⟩ (ct_X12_wipes l G X M_16 τ x3 hc_20) (cwV 1 hts gd_X12_92 rfl rfl rfl hd_X12_wipes ⟨Nat.le_of_ble_eq_true rfl, Nat.le_of_ble_eq_true rfl⟩) (x_preV (u := (X, M_16, τ)) (k := 39) (ci := 12) hC hS hP Nat.zero_lt_one rfl rfl) rfl rfl hl.1 rfl (lv_room (Nat.le_of_ble_eq_true rfl)) dX12_alone_55 ⟨Nat.zero_le _, Nat.zero_le _⟩) hS (fun H locs hP hS => ?_)
      obtain ⟨x3_21, ex3_21, hf⟩ := g_letE hf
      refine lv_iinc (v := x3_21) (lv' := [(3, .int x3_21), (0, .ref (G.2.1 39 0)), (1, .int x1), (2, .int x2)]) hx hb dX12_alone_58 hl (k := 3) rfl (by rw [← ex3_21]; rfl) (by decide) rfl (fun ls hl => ?_)
      refine lv_goto (tgt := 30) hx hb dX12_alone_61 (by decide) ?_
      exact hk30 x1 x2 x3_21 M_19 hf hd hP hS (lv_sub hl [1, 2, 3, 0] rfl)
def wl_X12_alone_30 (n : Nat) (x1 : Int32) (x2 : Int32) (x3 : Int32) (M : SM) : Option (Int32 × SM) := g_loop (α := Int32 × Int32 × Int32 × SM) (fun k a => wb_X12_alone_30 (fun x1 x2 x3 M => k (x1, x2, x3, M)) a.1 a.2.1 a.2.2.1 a.2.2.2) n (x1, x2, x3, M)
set_option maxRecDepth 100000 in
set_option maxHeartbeats 4000000 in
theorem lp_X12_alone_30 {p : Program} {l : Launch} {e : Env} {s : State} {m : MethodId} {args : Array Value} {below : List Frame} {meth : Method} {c : Code} {G : GP} {X : SM} {τ : SL} (C0 : g_mc p s m args meth c RX12 cX12_alone (some .int) 5 G) {r0 : Int32} {M0 : SM} (n : Nat) : ∀ (x1 : Int32) (x2 : Int32) (x3 : Int32) (M : SM), wl_X12_alone_30 n x1 x2 x3 M = some (r0, M0) → ∀ {d : Drawn} (_ : s.drawn.sameBut d lw_cs) {H : Heap} {locs : List Loc}, va_P G.1 g_cl (wd G (cb X M) τ) H → va_S (g_A G) s.heap H locs → ∀ {ls : Array Slot}, lv_has ls 5 [(0, .ref (G.2.1 39 0)), (1, .int x1), (2, .int x2), (3, .int x3)] → W p l e rm_X12_alone (s.setDrawn d) m args below meth c H locs 0 0 (MQD lw_cs below (va_Qi (fun r u => r = r0 ∧ u = (X, M0, τ)) (g_pw G) (g_A G)) args s 0 0 (g_A G)) (F0 m 30 ls []) := by
  induction n with
  | zero =>
    intro x1 x2 x3 M hf
    have hf : (none : Option (Int32 × SM)) = _ := hf
    cases hf
  | succ n ih =>
    intro x1 x2 x3 M hf d hd H locs hP hS ls hl
    exact bk_X12_alone_30 C0   (fun x1 x2 x3 M => wl_X12_alone_30   n x1 x2 x3 M) ih x1 x2 x3 M hf hd hP hS hl
def fn_X12_alone (x1 : Int32) (x2 : Int32) (M : SM) : Option (Int32 × SM) :=
  g_let (u1 M 39 0 15 0) fun M_1 =>
  (fn_X12_isThread x1).bind fun r_2 =>
  if r_2 = 0 then
  (some ((-1), M_1))
  else
  (g_let (fn_X12_within x2 1 60) fun r_5 =>
    if r_5 = 0 then
    (some ((-1), M_1))
    else
    ((fn_X12_keeps M_1).bind fun M_8 =>
      wl_X12_alone_30 1000 x1 x2 0 M_8))
set_option maxRecDepth 100000 in
set_option maxHeartbeats 4000000 in
theorem wk_X12_alone {p : Program} {l : Launch} {e : Env} {s : State} {m : MethodId} {args : Array Value} {below : List Frame} {meth : Method} {c : Code} {G : GP} {X : SM} {τ : SL} (C0 : g_mc p s m args meth c RX12 cX12_alone (some .int) 5 G) {r0 : Int32} {M0 : SM} (x1 : Int32) (x2 : Int32) (M : SM) (hf : fn_X12_alone x1 x2 M = some (r0, M0)) {d : Drawn} (hd : s.drawn.sameBut d lw_cs) {H : Heap} {locs : List Loc} (hP : va_P G.1 g_cl (wd G (cb X M) τ) H) (hS : va_S (g_A G) s.heap H locs) {ls : Array Slot} (hl : lv_has ls 5 [(0, .ref (G.2.1 39 0)), (1, .int x1), (2, .int x2)]) : W p l e rm_X12_alone (s.setDrawn d) m args below meth c H locs 0 0 (MQD lw_cs below (va_Qi (fun r u => r = r0 ∧ u = (X, M0, τ)) (g_pw G) (g_A G)) args s 0 0 (g_A G)) (F0 m 0 ls []) := by
  obtain ⟨hx, hb, hr, hml, hown, hts0, hlocks, hC0⟩ := id C0
  have hts := dr_words hts0 d
  have hC := hC0.dr d
  unfold fn_X12_alone at hf
  refine lv_aload_n hx hb dX12_alone_0 rfl (lv_at hl 0 rfl) ?_
  refine lv_iconst (v := 0) hx hb dX12_alone_1 (by decide) ?_
  obtain ⟨M_1, eM_1, hf⟩ := g_letE hf
  refine pt_39_15 hx hb hts hown hC hP hS Nat.zero_lt_one q8_18 dX12_alone_2 (fun H locs hP hS => ?_)
  rw [eM_1] at hP
  refine lv_iload_n hx hb dX12_alone_5 rfl (lv_at hl 1 rfl) ?_
  obtain ⟨r_2, hc_3, hf⟩ := g_bindE hf
  refine x_calli (v := (X, M_1, τ)) (va_runS (As := [.int x1]) (rest := []) ⟨hx, hb, hml, hown, hts⟩ (ct_X12_isThread l G X M_1 τ x1 hc_3) (cwS 1 hts gd_X12_80 rfl rfl rfl hd_X12_isThread ⟨Nat.le_of_ble_eq_true rfl, Nat.le_of_ble_eq_true rfl⟩) (x_pre (u := (X, M_1, τ)) hC hS hP) rfl rfl hl.1 rfl (lv_room (Nat.le_of_ble_eq_true rfl)) dX12_alone_6 ⟨Nat.zero_le _, Nat.zero_le _⟩) hS (fun H locs hP hS => ?_)
  refine lv_if_eq (tgt := 22) hx hb dX12_alone_9 (by decide) (fun hc_4 => ?_) (fun hc_4 => ?_)
  · have hf := g_pos hf hc_4
    refine lv_iconst (v := (-1)) hx hb dX12_alone_22 (by decide) ?_
    cases hf
    refine W.endD hd ?_
    exact x_iret hx hb hlocks hC hP hS hr dX12_alone_23
  · have hf := g_neg hf hc_4
    refine lv_iload_n hx hb dX12_alone_12 rfl (lv_at hl 2 rfl) ?_
    refine lv_iconst (v := 1) hx hb dX12_alone_13 (by decide) ?_
    refine lv_bipush (v := 60) hx hb dX12_alone_14 (by decide) ?_
    obtain ⟨r_5, hc_6, hf⟩ := g_letE hf
    refine x_calli (v := (X, M_1, τ)) (va_runS (As := [.int x2, .int 1, .int 60]) (rest := []) ⟨hx, hb, hml, hown, hts⟩ (ct_X12_within l G X M_1 τ x2 1 60 hc_6) (cwS 3 hts gd_X12_76 rfl rfl rfl hd_X12_within ⟨Nat.le_of_ble_eq_true rfl, Nat.le_of_ble_eq_true rfl⟩) (x_pre (u := (X, M_1, τ)) hC hS hP) rfl rfl hl.1 rfl (lv_room (Nat.le_of_ble_eq_true rfl)) dX12_alone_16 ⟨Nat.zero_le _, Nat.zero_le _⟩) hS (fun H locs hP hS => ?_)
    refine lv_if_ne (tgt := 24) hx hb dX12_alone_19 (by decide) (fun hc_7 => ?_) (fun hc_7 => ?_)
    · have hf := g_neg hf hc_7
      refine lv_aload_n hx hb dX12_alone_24 rfl (lv_at hl 0 rfl) ?_
      obtain ⟨M_8, hc_9, hf⟩ := g_bindE hf
      refine x_callv (v := (X, M_8, τ)) (va_runV (As := []) (rest := []) ⟨hx, hb, hml, hown, hts⟩ (ct_X12_keeps l G X M_1 τ  hc_9) (cwV 0 hts gd_X12_227 rfl rfl rfl hd_X12_keeps ⟨Nat.le_of_ble_eq_true rfl, Nat.le_of_ble_eq_true rfl⟩) (x_preV (u := (X, M_1, τ)) (k := 39) (ci := 12) hC hS hP Nat.zero_lt_one rfl rfl) rfl rfl hl.1 rfl (lv_room (Nat.le_of_ble_eq_true rfl)) dX12_alone_25 ⟨Nat.zero_le _, Nat.zero_le _⟩) hS (fun H locs hP hS => ?_)
      refine lv_iconst (v := 0) hx hb dX12_alone_28 (by decide) ?_
      refine lv_istore_n (lv' := [(3, .int 0), (0, .ref (G.2.1 39 0)), (1, .int x1), (2, .int x2)]) hx hb dX12_alone_29 rfl hl (by decide) rfl (fun ls hl => ?_)
      exact lp_X12_alone_30 C0 1000 x1 x2 0 M_8 hf hd hP hS (lv_sub hl [1, 2, 3, 0] rfl)
    · have hf := g_pos hf hc_7
      refine lv_iconst (v := (-1)) hx hb dX12_alone_22 (by decide) ?_
      cases hf
      refine W.endD hd ?_
      exact x_iret hx hb hlocks hC hP hS hr dX12_alone_23
set_option maxRecDepth 100000 in
set_option maxHeartbeats 4000000 in
theorem ct_X12_alone (l : Launch) (G : GP) (X M : SM) (τ : SL) (x1 : Int32) (x2 : Int32) {r0 : Int32} {M0 : SM} (hf : fn_X12_alone x1 x2 M = some (r0, M0)) : MetD lw_cs l yX12_alone (wz yX12_alone cX12_alone 5 (some .int)) rm_X12_alone (va_Pc [.ref (G.2.1 39 0), .int x1, .int x2] (g_pw G (X, M, τ))) (va_Qi (fun r u => r = r0 ∧ u = (X, M0, τ)) (g_pw G) (g_A G)) 0 0 (g_A G) := by
  refine MetD.ofW (cc := cX12_alone) (maxL := 5) (ret := (some .int)) (by decide +kernel) rfl ?_
  intro p e s m args below meth c s₁ B hml hv hd
  obtain ⟨rfl, hC, hP⟩ := hv
  have C0 : g_mc p s m _ meth c RX12 cX12_alone (some .int) 5 G := ⟨B.exec, B.bytes, B.returns, hml, findClass_of_methodNamed B.named, fun w h => atoms_spec (ws := wz yX12_alone cX12_alone 5 (some .int)) B.pre w (List.mem_cons_of_mem _ h), B.notSynchronized, hC⟩
  have hl := lv_entry ([.ref (G.2.1 39 0), .int x1, .int x2]) (n := 5) (Nat.le_of_ble_eq_true rfl)
  rw [lg_entry_eq]
  generalize (lg_sl ([.ref (G.2.1 39 0), .int x1, .int x2]) ++ List.replicate (5 - (lg_sl ([.ref (G.2.1 39 0), .int x1, .int x2])).length) Slot.unset).toArray = ls at hl ⊢
  exact wk_X12_alone C0  x1 x2 M hf hd hP va_S.rf hl
