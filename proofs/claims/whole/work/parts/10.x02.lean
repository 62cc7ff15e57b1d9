abbrev rm_X10_ticksOf : Room := { frames := 3, cells := 0, slots := 0, locals := 68 }
def wb_X10_ticksOf_56 (k56 : Int32 → Int32 → Int32 → Int32 → Int32 → Int32 → SM → Option (Int32)) (x1 : Int32) (x3 : Int32) (x5 : Int32) (x6 : Int32) (x7 : Int32) (x8 : Int32) (X : SM) : Option (Int32) :=
  if (X 10 0 1) ≤ x8 then
  (some ((x5 * (X 10 0 1)) + x7))
  else
  ((fn_X10_ticksFrom x8 x1 x6 X).bind fun r_12 =>
    if x3 = 0 then
    (g_let ((if r_12 < x7 then r_12 else x7)) fun x7_15 =>
      g_let (x8 + 1) fun x8_16 =>
      k56 x1 x3 x5 x6 x7_15 x8_16 X)
    else
    (g_let ((if x7 < r_12 then r_12 else x7)) fun x7_17 =>
      g_let (x8 + 1) fun x8_18 =>
      k56 x1 x3 x5 x6 x7_17 x8_18 X))
set_option maxRecDepth 100000 in
set_option maxHeartbeats 4000000 in
theorem bk_X10_ticksOf_56 {p : Program} {l : Launch} {e : Env} {s : State} {m : MethodId} {args : Array Value} {below : List Frame} {meth : Method} {c : Code} {G : GP} {M : SM} {τ : SL} (C0 : g_mc p s m args meth c RX10 cX10_ticksOf (some .int) 10 G) {r0 : Int32} (k56 : Int32 → Int32 → Int32 → Int32 → Int32 → Int32 → SM → Option (Int32)) (hk56 : ∀ (x1 : Int32) (x3 : Int32) (x5 : Int32) (x6 : Int32) (x7 : Int32) (x8 : Int32) (X : SM), k56 x1 x3 x5 x6 x7 x8 X = some r0 → ∀ {H : Heap} {locs : List Loc}, va_P G.1 g_cl (wd G (cb X M) τ) H → va_S (g_A G) s.heap H locs → ∀ {ls : Array Slot}, lv_has ls 10 [(0, .ref (G.2.1 10 0)), (1, .int x1), (3, .int x3), (5, .int x5), (6, .int x6), (7, .int x7), (8, .int x8)] → W p l e rm_X10_ticksOf s m args below meth c H locs 0 0 (MQ below (va_Qi (fun r u => r = r0 ∧ u = (X, M, τ)) (g_pw G) (g_A G)) args s 0 0 (g_A G)) (F0 m 56 ls [])) (x1 : Int32) (x3 : Int32) (x5 : Int32) (x6 : Int32) (x7 : Int32) (x8 : Int32) (X : SM) (hf : wb_X10_ticksOf_56 k56 x1 x3 x5 x6 x7 x8 X = some r0) {H : Heap} {locs : List Loc} (hP : va_P G.1 g_cl (wd G (cb X M) τ) H) (hS : va_S (g_A G) s.heap H locs) {ls : Array Slot} (hl : lv_has ls 10 [(0, .ref (G.2.1 10 0)), (1, .int x1), (3, .int x3), (5, .int x5), (6, .int x6), (7, .int x7), (8, .int x8)]) : W p l e rm_X10_ticksOf s m args below meth c H locs 0 0 (MQ below (va_Qi (fun r u => r = r0 ∧ u = (X, M, τ)) (g_pw G) (g_A G)) args s 0 0 (g_A G)) (F0 m 56 ls []) := by
  obtain ⟨hx, hb, hr, hml, hown, hts, hlocks, hC⟩ := id C0
  unfold wb_X10_ticksOf_56 at hf
  refine lv_iload hx hb dX10_ticksOf_56 (lv_at hl 6 rfl) ?_
  refine lv_aload_n hx hb dX10_ticksOf_58 rfl (lv_at hl 0 rfl) ?_
  refine gt_10_1 hx hb hts hown hC hP Nat.zero_lt_one q2_18 dX10_ticksOf_59 ?_
  refine lv_icmp_ge (tgt := 105) hx hb dX10_ticksOf_62 (by decide) (fun hc_11 => ?_) (fun hc_11 => ?_)
  · have hf := g_pos hf hc_11
    refine lv_iload hx hb dX10_ticksOf_105 (lv_at hl 3 rfl) ?_
    refine lv_aload_n hx hb dX10_ticksOf_107 rfl (lv_at hl 0 rfl) ?_
    refine gt_10_1 hx hb hts hown hC hP Nat.zero_lt_one q2_18 dX10_ticksOf_108 ?_
    refine lv_imul hx hb dX10_ticksOf_111 ?_
    refine lv_iload hx hb dX10_ticksOf_112 (lv_at hl 5 rfl) ?_
    refine lv_iadd hx hb dX10_ticksOf_114 ?_
    cases hf
    exact x_iret hx hb hlocks hC hP hS hr dX10_ticksOf_115
  · have hf := g_neg hf hc_11
    refine lv_aload_n hx hb dX10_ticksOf_65 rfl (lv_at hl 0 rfl) ?_
    refine lv_iload hx hb dX10_ticksOf_66 (lv_at hl 6 rfl) ?_
    refine lv_iload_n hx hb dX10_ticksOf_68 rfl (lv_at hl 1 rfl) ?_
    refine lv_iload hx hb dX10_ticksOf_69 (lv_at hl 4 rfl) ?_
    obtain ⟨r_12, hc_13, hf⟩ := g_bindE hf
    refine x_calli (v := (X, M, τ)) (va_runV (As := [.int x8, .int x1, .int x6]) (rest := []) ⟨hx, hb, hml, hown, hts⟩ (ct_X10_ticksFrom l G X M τ x8 x1 x6 hc_13) (cwV 3 hts gd_X10_34 rfl rfl rfl hd_X10_ticksFrom ⟨Nat.le_of_ble_eq_true rfl, Nat.le_of_ble_eq_true rfl⟩) (x_preV (u := (X, M, τ)) (k := 10) (ci := 10) hC hS hP Nat.zero_lt_one rfl rfl) rfl rfl hl.1 rfl (lv_room (Nat.le_of_ble_eq_true rfl)) dX10_ticksOf_71 ⟨Nat.zero_le _, Nat.zero_le _⟩) hS (fun H locs hP hS => ?_)
    refine lv_istore (lv' := [(9, .int r_12), (0, .ref (G.2.1 10 0)), (1, .int x1), (3, .int x3), (5, .int x5), (6, .int x6), (7, .int x7), (8, .int x8)]) hx hb dX10_ticksOf_74 hl (by decide) rfl (fun ls hl => ?_)
    refine lv_iload_n hx hb dX10_ticksOf_76 rfl (lv_at hl 3 rfl) ?_
    refine lv_if_eq (tgt := 90) hx hb dX10_ticksOf_77 (by decide) (fun hc_14 => ?_) (fun hc_14 => ?_)
    · have hf := g_pos hf hc_14
      refine lv_iload hx hb dX10_ticksOf_90 (lv_at hl 6 rfl) ?_
      refine lv_iload hx hb dX10_ticksOf_92 (lv_at hl 0 rfl) ?_
      refine va_mmin hx hb (by rw [hml]; exact hl.1.symm) hown (hts _ q37_15) (hts _ q36_17) (hts _ q36_18) (hts _ q36_19) (Nat.le_of_ble_eq_true rfl) (Nat.le_of_ble_eq_true rfl) (Nat.le_refl _) (Nat.le_refl _) dX10_ticksOf_94 ?_
      obtain ⟨x7_15, ex7_15, hf⟩ := g_letE hf
      refine lv_topE ex7_15 ?_
      refine lv_istore (lv' := [(7, .int x7_15), (9, .int r_12), (0, .ref (G.2.1 10 0)), (1, .int x1), (3, .int x3), (5, .int x5), (6, .int x6), (8, .int x8)]) hx hb dX10_ticksOf_97 hl (by decide) rfl (fun ls hl => ?_)
      obtain ⟨x8_16, ex8_16, hf⟩ := g_letE hf
      refine lv_iinc (v := x8_16) (lv' := [(8, .int x8_16), (7, .int x7_15), (9, .int r_12), (0, .ref (G.2.1 10 0)), (1, .int x1), (3, .int x3), (5, .int x5), (6, .int x6)]) hx hb dX10_ticksOf_99 hl (k := 7) rfl (by rw [← ex8_16]; rfl) (by decide) rfl (fun ls hl => ?_)
      refine lv_goto (tgt := 56) hx hb dX10_ticksOf_102 (by decide) ?_
      exact hk56 x1 x3 x5 x6 x7_15 x8_16 X hf hP hS (lv_sub hl [3, 4, 5, 6, 7, 1, 0] rfl)
    · have hf := g_neg hf hc_14
      refine lv_iload hx hb dX10_ticksOf_80 (lv_at hl 6 rfl) ?_
      refine lv_iload hx hb dX10_ticksOf_82 (lv_at hl 0 rfl) ?_
      refine va_mmax hx hb (by rw [hml]; exact hl.1.symm) hown (hts _ q37_12) (hts _ q37_13) (hts _ q36_18) (hts _ q37_14) (Nat.le_of_ble_eq_true rfl) (Nat.le_of_ble_eq_true rfl) (Nat.le_refl _) (Nat.le_refl _) dX10_ticksOf_84 ?_
      refine lv_goto (tgt := 97) hx hb dX10_ticksOf_87 (by decide) ?_
      obtain ⟨x7_17, ex7_17, hf⟩ := g_letE hf
      refine lv_topE ex7_17 ?_
      refine lv_istore (lv' := [(7, .int x7_17), (9, .int r_12), (0, .ref (G.2.1 10 0)), (1, .int x1), (3, .int x3), (5, .int x5), (6, .int x6), (8, .int x8)]) hx hb dX10_ticksOf_97 hl (by decide) rfl (fun ls hl => ?_)
      obtain ⟨x8_18, ex8_18, hf⟩ := g_letE hf
      refine lv_iinc (v := x8_18) (lv' := [(8, .int x8_18), (7, .int x7_17), (9, .int r_12), (0, .ref (G.2.1 10 0)), (1, .int x1), (3, .int x3), (5, .int x5), (6, .int x6)]) hx hb dX10_ticksOf_99 hl (k := 7) rfl (by rw [← ex8_18]; rfl) (by decide) rfl (fun ls hl => ?_)
      refine lv_goto (tgt := 56) hx hb dX10_ticksOf_102 (by decide) ?_
      exact hk56 x1 x3 x5 x6 x7_17 x8_18 X hf hP hS (lv_sub hl [3, 4, 5, 6, 7, 1, 0] rfl)
def wl_X10_ticksOf_56 (n : Nat) (x1 : Int32) (x3 : Int32) (x5 : Int32) (x6 : Int32) (x7 : Int32) (x8 : Int32) (X : SM) : Option (Int32) := g_loop (α := Int32 × Int32 × Int32 × Int32 × Int32 × Int32 × SM) (fun k a => wb_X10_ticksOf_56 (fun x1 x3 x5 x6 x7 x8 X => k (x1, x3, x5, x6, x7, x8, X)) a.1 a.2.1 a.2.2.1 a.2.2.2.1 a.2.2.2.2.1 a.2.2.2.2.2.1 a.2.2.2.2.2.2) n (x1, x3, x5, x6, x7, x8, X)
set_option maxRecDepth 100000 in
set_option maxHeartbeats 4000000 in
theorem lp_X10_ticksOf_56 {p : Program} {l : Launch} {e : Env} {s : State} {m : MethodId} {args : Array Value} {below : List Frame} {meth : Method} {c : Code} {G : GP} {M : SM} {τ : SL} (C0 : g_mc p s m args meth c RX10 cX10_ticksOf (some .int) 10 G) {r0 : Int32} (n : Nat) : ∀ (x1 : Int32) (x3 : Int32) (x5 : Int32) (x6 : Int32) (x7 : Int32) (x8 : Int32) (X : SM), wl_X10_ticksOf_56 n x1 x3 x5 x6 x7 x8 X = some r0 → ∀ {H : Heap} {locs : List Loc}, va_P G.1 g_cl (wd G (cb X M) τ) H → va_S (g_A G) s.heap H locs → ∀ {ls : Array Slot}, lv_has ls 10 [(0, .ref (G.2.1 10 0)), (1, .int x1), (3, .int x3), (5, .int x5), (6, .int x6), (7, .int x7), (8, .int x8)] → W p l e rm_X10_ticksOf s m args below meth c H locs 0 0 (MQ below (va_Qi (fun r u => r = r0 ∧ u = (X, M, τ)) (g_pw G) (g_A G)) args s 0 0 (g_A G)) (F0 m 56 ls []) := by
  induction n with
  | zero =>
    intro x1 x3 x5 x6 x7 x8 X hf
    have hf : (none : Option (Int32)) = _ := hf
    cases hf
  | succ n ih =>
    intro x1 x3 x5 x6 x7 x8 X hf H locs hP hS ls hl
    exact bk_X10_ticksOf_56 C0   (fun x1 x3 x5 x6 x7 x8 X => wl_X10_ticksOf_56   n x1 x3 x5 x6 x7 x8 X) ih x1 x3 x5 x6 x7 x8 X hf hP hS hl
def fn_X10_ticksOf (x1 : Int32) (x2 : Int32) (x3 : Int32) (X : SM) : Option (Int32) :=
  (fn_X10_owned x1 X).bind fun r_1 =>
  if r_1 < 1 then
  (some (-1))
  else
  (if x2 < 1 then
    (some (-1))
    else
    (if x2 ≤ 100000 then
      (if ¬ r_1 = 0 then
        g_let (((x2 - 1) / r_1)) fun x5_7 =>
        g_let ((x2 - (x5_7 * r_1))) fun x6_8 =>
        (fn_X10_ticksFrom 0 x1 x6_8 X).bind fun r_9 =>
        wl_X10_ticksOf_56 1000 x1 x3 x5_7 x6_8 r_9 1 X
        else none)
      else
      (some (-1))))
set_option maxRecDepth 100000 in
set_option maxHeartbeats 4000000 in
theorem wk_X10_ticksOf {p : Program} {l : Launch} {e : Env} {s : State} {m : MethodId} {args : Array Value} {below : List Frame} {meth : Method} {c : Code} {G : GP} {M : SM} {τ : SL} (C0 : g_mc p s m args meth c RX10 cX10_ticksOf (some .int) 10 G) {r0 : Int32} (x1 : Int32) (x2 : Int32) (x3 : Int32) (X : SM) (hf : fn_X10_ticksOf x1 x2 x3 X = some r0) {H : Heap} {locs : List Loc} (hP : va_P G.1 g_cl (wd G (cb X M) τ) H) (hS : va_S (g_A G) s.heap H locs) {ls : Array Slot} (hl : lv_has ls 10 [(0, .ref (G.2.1 10 0)), (1, .int x1), (2, .int x2), (3, .int x3)]) : W p l e rm_X10_ticksOf s m args below meth c H locs 0 0 (MQ below (va_Qi (fun r u => r = r0 ∧ u = (X, M, τ)) (g_pw G) (g_A G)) args s 0 0 (g_A G)) (F0 m 0 ls []) := by
  obtain ⟨hx, hb, hr, hml, hown, hts, hlocks, hC⟩ := id C0
  unfold fn_X10_ticksOf at hf
  refine lv_aload_n hx hb dX10_ticksOf_0 rfl (lv_at hl 0 rfl) ?_
  refine lv_iload_n hx hb dX10_ticksOf_1 rfl (lv_at hl 1 rfl) ?_
  obtain ⟨r_1, hc_2, hf⟩ := g_bindE hf
  refine x_calli (v := (X, M, τ)) (va_runV (As := [.int x1]) (rest := []) ⟨hx, hb, hml, hown, hts⟩ (ct_X10_owned l G X M τ x1 hc_2) (cwV 1 hts gd_X10_29 rfl rfl rfl hd_X10_owned ⟨Nat.le_of_ble_eq_true rfl, Nat.le_of_ble_eq_true rfl⟩) (x_preV (u := (X, M, τ)) (k := 10) (ci := 10) hC hS hP Nat.zero_lt_one rfl rfl) rfl rfl hl.1 rfl (lv_room (Nat.le_of_ble_eq_true rfl)) dX10_ticksOf_2 ⟨Nat.zero_le _, Nat.zero_le _⟩) hS (fun H locs hP hS => ?_)
  refine lv_istore (lv' := [(4, .int r_1), (0, .ref (G.2.1 10 0)), (1, .int x1), (2, .int x2), (3, .int x3)]) hx hb dX10_ticksOf_5 hl (by decide) rfl (fun ls hl => ?_)
  refine lv_iload hx hb dX10_ticksOf_7 (lv_at hl 0 rfl) ?_
  refine lv_iconst (v := 1) hx hb dX10_ticksOf_9 (by decide) ?_
  refine lv_icmp_lt (tgt := 24) hx hb dX10_ticksOf_10 (by decide) (fun hc_3 => ?_) (fun hc_3 => ?_)
  · have hf := g_pos hf hc_3
    refine lv_iconst (v := (-1)) hx hb dX10_ticksOf_24 (by decide) ?_
    cases hf
    exact x_iret hx hb hlocks hC hP hS hr dX10_ticksOf_25
  · have hf := g_neg hf hc_3
    refine lv_iload_n hx hb dX10_ticksOf_13 rfl (lv_at hl 3 rfl) ?_
    refine lv_iconst (v := 1) hx hb dX10_ticksOf_14 (by decide) ?_
    refine lv_icmp_lt (tgt := 24) hx hb dX10_ticksOf_15 (by decide) (fun hc_4 => ?_) (fun hc_4 => ?_)
    · have hf := g_pos hf hc_4
      refine lv_iconst (v := (-1)) hx hb dX10_ticksOf_24 (by decide) ?_
      cases hf
      exact x_iret hx hb hlocks hC hP hS hr dX10_ticksOf_25
    · have hf := g_neg hf hc_4
      refine lv_iload_n hx hb dX10_ticksOf_18 rfl (lv_at hl 3 rfl) ?_
      refine lv_ldc (v := 100000) hx hb hown (hts _ q37_11) dX10_ticksOf_19 ?_
      refine lv_icmp_le (tgt := 26) hx hb dX10_ticksOf_21 (by decide) (fun hc_5 => ?_) (fun hc_5 => ?_)
      · have hf := g_pos hf hc_5
        refine lv_iload_n hx hb dX10_ticksOf_26 rfl (lv_at hl 3 rfl) ?_
        refine lv_iconst (v := 1) hx hb dX10_ticksOf_27 (by decide) ?_
        refine lv_isub hx hb dX10_ticksOf_28 ?_
        refine lv_iload hx hb dX10_ticksOf_29 (lv_at hl 0 rfl) ?_
        obtain ⟨hg_6, hf⟩ := g_gd hf
        refine lv_idiv hx hb dX10_ticksOf_31 hg_6 ?_
        obtain ⟨x5_7, ex5_7, hf⟩ := g_letE hf
        refine lv_topE ex5_7 ?_
        refine lv_istore (lv' := [(5, .int x5_7), (4, .int r_1), (0, .ref (G.2.1 10 0)), (1, .int x1), (2, .int x2), (3, .int x3)]) hx hb dX10_ticksOf_32 hl (by decide) rfl (fun ls hl => ?_)
        refine lv_iload_n hx hb dX10_ticksOf_34 rfl (lv_at hl 4 rfl) ?_
        refine lv_iload hx hb dX10_ticksOf_35 (lv_at hl 0 rfl) ?_
        refine lv_iload hx hb dX10_ticksOf_37 (lv_at hl 1 rfl) ?_
        refine lv_imul hx hb dX10_ticksOf_39 ?_
        refine lv_isub hx hb dX10_ticksOf_40 ?_
        obtain ⟨x6_8, ex6_8, hf⟩ := g_letE hf
        refine lv_topE ex6_8 ?_
        refine lv_istore (lv' := [(6, .int x6_8), (5, .int x5_7), (4, .int r_1), (0, .ref (G.2.1 10 0)), (1, .int x1), (2, .int x2), (3, .int x3)]) hx hb dX10_ticksOf_41 hl (by decide) rfl (fun ls hl => ?_)
        refine lv_aload_n hx hb dX10_ticksOf_43 rfl (lv_at hl 3 rfl) ?_
        refine lv_iconst (v := 0) hx hb dX10_ticksOf_44 (by decide) ?_
        refine lv_iload_n hx hb dX10_ticksOf_45 rfl (lv_at hl 4 rfl) ?_
        refine lv_iload hx hb dX10_ticksOf_46 (lv_at hl 0 rfl) ?_
        obtain ⟨r_9, hc_10, hf⟩ := g_bindE hf
        refine x_calli (v := (X, M, τ)) (va_runV (As := [.int 0, .int x1, .int x6_8]) (rest := []) ⟨hx, hb, hml, hown, hts⟩ (ct_X10_ticksFrom l G X M τ 0 x1 x6_8 hc_10) (cwV 3 hts gd_X10_34 rfl rfl rfl hd_X10_ticksFrom ⟨Nat.le_of_ble_eq_true rfl, Nat.le_of_ble_eq_true rfl⟩) (x_preV (u := (X, M, τ)) (k := 10) (ci := 10) hC hS hP Nat.zero_lt_one rfl rfl) rfl rfl hl.1 rfl (lv_room (Nat.le_of_ble_eq_true rfl)) dX10_ticksOf_48 ⟨Nat.zero_le _, Nat.zero_le _⟩) hS (fun H locs hP hS => ?_)
        refine lv_istore (lv' := [(7, .int r_9), (6, .int x6_8), (5, .int x5_7), (4, .int r_1), (0, .ref (G.2.1 10 0)), (1, .int x1), (2, .int x2), (3, .int x3)]) hx hb dX10_ticksOf_51 hl (by decide) rfl (fun ls hl => ?_)
        refine lv_iconst (v := 1) hx hb dX10_ticksOf_53 (by decide) ?_
        refine lv_istore (lv' := [(8, .int 1), (7, .int r_9), (6, .int x6_8), (5, .int x5_7), (4, .int r_1), (0, .ref (G.2.1 10 0)), (1, .int x1), (2, .int x2), (3, .int x3)]) hx hb dX10_ticksOf_54 hl (by decide) rfl (fun ls hl => ?_)
        exact lp_X10_ticksOf_56 C0 1000 x1 x3 x5_7 x6_8 r_9 1 X hf hP hS (lv_sub hl [5, 6, 8, 3, 2, 1, 0] rfl)
      · have hf := g_neg hf hc_5
        refine lv_iconst (v := (-1)) hx hb dX10_ticksOf_24 (by decide) ?_
        cases hf
        exact x_iret hx hb hlocks hC hP hS hr dX10_ticksOf_25
set_option maxRecDepth 100000 in
set_option maxHeartbeats 4000000 in
theorem ct_X10_ticksOf (l : Launch) (G : GP) (X M : SM) (τ : SL) (x1 : Int32) (x2 : Int32) (x3 : Int32) {r0 : Int32} (hf : fn_X10_ticksOf x1 x2 x3 X = some r0) : Met l yX10_ticksOf (wz yX10_ticksOf cX10_ticksOf 10 (some .int)) rm_X10_ticksOf (va_Pc [.ref (G.2.1 10 0), .int x1, .int x2, .int x3] (g_pw G (X, M, τ))) (va_Qi (fun r u => r = r0 ∧ u = (X, M, τ)) (g_pw G) (g_A G)) 0 0 (g_A G) := by
  refine Met.ofW (cc := cX10_ticksOf) (maxL := 10) (ret := (some .int)) (by decide +kernel) rfl ?_
  intro p e s m args below meth c s₁ B hml hv
  obtain ⟨rfl, hC, hP⟩ := hv
  have C0 : g_mc p s m _ meth c RX10 cX10_ticksOf (some .int) 10 G := ⟨B.exec, B.bytes, B.returns, hml, findClass_of_methodNamed B.named, fun w h => atoms_spec (ws := wz yX10_ticksOf cX10_ticksOf 10 (some .int)) B.pre w (List.mem_cons_of_mem _ h), B.notSynchronized, hC⟩
  have hl := lv_entry ([.ref (G.2.1 10 0), .int x1, .int x2, .int x3]) (n := 10) (Nat.le_of_ble_eq_true rfl)
  rw [lg_entry_eq]
  generalize (lg_sl ([.ref (G.2.1 10 0), .int x1, .int x2, .int x3]) ++ List.replicate (10 - (lg_sl ([.ref (G.2.1 10 0), .int x1, .int x2, .int x3])).length) Slot.unset).toArray = ls at hl ⊢
  exact wk_X10_ticksOf C0  x1 x2 x3 X hf hP va_S.rf hl
abbrev rm_X11_isThread : Room := { frames := 0, cells := 0, slots := 0, locals := 0 }
def fn_X11_isThread (x0 : Int32) : Int32 :=
  if x0 < 0 then
  (0)
  else
  (if 6 ≤ x0 then
    (0)
    else
    (1))
set_option maxRecDepth 100000 in
set_option maxHeartbeats 4000000 in
theorem wk_X11_isThread {p : Program} {l : Launch} {e : Env} {s : State} {m : MethodId} {args : Array Value} {below : List Frame} {meth : Method} {c : Code} {G : GP} {X : SM} {M : SM} {τ : SL} (C0 : g_mc p s m args meth c RX11 cX11_isThread (some .boolean) 1 G) {r0 : Int32} (x0 : Int32) (hf : fn_X11_isThread x0 = r0) {H : Heap} {locs : List Loc} (hP : va_P G.1 g_cl (wd G (cb X M) τ) H) (hS : va_S (g_A G) s.heap H locs) {ls : Array Slot} (hl : lv_has ls 1 [(0, .int x0)]) : W p l e rm_X11_isThread s m args below meth c H locs 0 0 (MQ below (va_Qi (fun r u => r = r0 ∧ u = (X, M, τ)) (g_pw G) (g_A G)) args s 0 0 (g_A G)) (F0 m 0 ls []) := by
  obtain ⟨hx, hb, hr, hml, hown, hts, hlocks, hC⟩ := id C0
  unfold fn_X11_isThread at hf
  refine lv_iload_n hx hb dX11_isThread_0 rfl (lv_at hl 0 rfl) ?_
  refine lv_if_lt (tgt := 14) hx hb dX11_isThread_1 (by decide) (fun hc_1 => ?_) (fun hc_1 => ?_)
  · have hf := g_pos hf hc_1
    refine lv_iconst (v := 0) hx hb dX11_isThread_14 (by decide) ?_
    cases hf
    exact x_zret hx hb hlocks hC hP hS hr (Or.inl rfl) dX11_isThread_15
  · have hf := g_neg hf hc_1
    refine lv_iload_n hx hb dX11_isThread_4 rfl (lv_at hl 0 rfl) ?_
    refine lv_bipush (v := 6) hx hb dX11_isThread_5 (by decide) ?_
    refine lv_icmp_ge (tgt := 14) hx hb dX11_isThread_7 (by decide) (fun hc_2 => ?_) (fun hc_2 => ?_)
    · have hf := g_pos hf hc_2
      refine lv_iconst (v := 0) hx hb dX11_isThread_14 (by decide) ?_
      cases hf
      exact x_zret hx hb hlocks hC hP hS hr (Or.inl rfl) dX11_isThread_15
    · have hf := g_neg hf hc_2
      refine lv_iconst (v := 1) hx hb dX11_isThread_10 (by decide) ?_
      refine lv_goto (tgt := 15) hx hb dX11_isThread_11 (by decide) ?_
      cases hf
      exact x_zret hx hb hlocks hC hP hS hr (Or.inr rfl) dX11_isThread_15
set_option maxRecDepth 100000 in
set_option maxHeartbeats 4000000 in
theorem ct_X11_isThread (l : Launch) (G : GP) (X M : SM) (τ : SL) (x0 : Int32) {r0 : Int32} (hf : fn_X11_isThread x0 = r0) : Met l yX11_isThread (wz yX11_isThread cX11_isThread 1 (some .boolean)) rm_X11_isThread (va_Pc [.int x0] (g_pw G (X, M, τ))) (va_Qi (fun r u => r = r0 ∧ u = (X, M, τ)) (g_pw G) (g_A G)) 0 0 (g_A G) := by
  refine Met.ofW (cc := cX11_isThread) (maxL := 1) (ret := (some .boolean)) (by decide +kernel) rfl ?_
  intro p e s m args below meth c s₁ B hml hv
  obtain ⟨rfl, hC, hP⟩ := hv
  have C0 : g_mc p s m _ meth c RX11 cX11_isThread (some .boolean) 1 G := ⟨B.exec, B.bytes, B.returns, hml, findClass_of_methodNamed B.named, fun w h => atoms_spec (ws := wz yX11_isThread cX11_isThread 1 (some .boolean)) B.pre w (List.mem_cons_of_mem _ h), B.notSynchronized, hC⟩
  have hl := lv_entry ([.int x0]) (n := 1) (Nat.le_of_ble_eq_true rfl)
  rw [lg_entry_eq]
  generalize (lg_sl ([.int x0]) ++ List.replicate (1 - (lg_sl ([.int x0])).length) Slot.unset).toArray = ls at hl ⊢
  exact wk_X11_isThread C0  x0 hf hP va_S.rf hl
abbrev rm_X11_isRegister : Room := { frames := 0, cells := 0, slots := 0, locals := 0 }
def fn_X11_isRegister (x0 : Int32) : Int32 :=
  if x0 < 0 then
  (0)
  else
  (if 8 ≤ x0 then
    (0)
    else
    (1))
set_option maxRecDepth 100000 in
set_option maxHeartbeats 4000000 in
theorem wk_X11_isRegister {p : Program} {l : Launch} {e : Env} {s : State} {m : MethodId} {args : Array Value} {below : List Frame} {meth : Method} {c : Code} {G : GP} {X : SM} {M : SM} {τ : SL} (C0 : g_mc p s m args meth c RX11 cX11_isRegister (some .boolean) 1 G) {r0 : Int32} (x0 : Int32) (hf : fn_X11_isRegister x0 = r0) {H : Heap} {locs : List Loc} (hP : va_P G.1 g_cl (wd G (cb X M) τ) H) (hS : va_S (g_A G) s.heap H locs) {ls : Array Slot} (hl : lv_has ls 1 [(0, .int x0)]) : W p l e rm_X11_isRegister s m args below meth c H locs 0 0 (MQ below (va_Qi (fun r u => r = r0 ∧ u = (X, M, τ)) (g_pw G) (g_A G)) args s 0 0 (g_A G)) (F0 m 0 ls []) := by
  obtain ⟨hx, hb, hr, hml, hown, hts, hlocks, hC⟩ := id C0
  unfold fn_X11_isRegister at hf
  refine lv_iload_n hx hb dX11_isRegister_0 rfl (lv_at hl 0 rfl) ?_
  refine lv_if_lt (tgt := 14) hx hb dX11_isRegister_1 (by decide) (fun hc_1 => ?_) (fun hc_1 => ?_)
  · have hf := g_pos hf hc_1
    refine lv_iconst (v := 0) hx hb dX11_isRegister_14 (by decide) ?_
    cases hf
    exact x_zret hx hb hlocks hC hP hS hr (Or.inl rfl) dX11_isRegister_15
  · have hf := g_neg hf hc_1
    refine lv_iload_n hx hb dX11_isRegister_4 rfl (lv_at hl 0 rfl) ?_
    refine lv_bipush (v := 8) hx hb dX11_isRegister_5 (by decide) ?_
    refine lv_icmp_ge (tgt := 14) hx hb dX11_isRegister_7 (by decide) (fun hc_2 => ?_) (fun hc_2 => ?_)
    · have hf := g_pos hf hc_2
      refine lv_iconst (v := 0) hx hb dX11_isRegister_14 (by decide) ?_
      cases hf
      exact x_zret hx hb hlocks hC hP hS hr (Or.inl rfl) dX11_isRegister_15
    · have hf := g_neg hf hc_2
      refine lv_iconst (v := 1) hx hb dX11_isRegister_10 (by decide) ?_
      refine lv_goto (tgt := 15) hx hb dX11_isRegister_11 (by decide) ?_
      cases hf
      exact x_zret hx hb hlocks hC hP hS hr (Or.inr rfl) dX11_isRegister_15
set_option maxRecDepth 100000 in
set_option maxHeartbeats 4000000 in
theorem ct_X11_isRegister (l : Launch) (G : GP) (X M : SM) (τ : SL) (x0 : Int32) {r0 : Int32} (hf : fn_X11_isRegister x0 = r0) : Met l yX11_isRegister (wz yX11_isRegister cX11_isRegister 1 (some .boolean)) rm_X11_isRegister (va_Pc [.int x0] (g_pw G (X, M, τ))) (va_Qi (fun r u => r = r0 ∧ u = (X, M, τ)) (g_pw G) (g_A G)) 0 0 (g_A G) := by
  refine Met.ofW (cc := cX11_isRegister) (maxL := 1) (ret := (some .boolean)) (by decide +kernel) rfl ?_
  intro p e s m args below meth c s₁ B hml hv
  obtain ⟨rfl, hC, hP⟩ := hv
  have C0 : g_mc p s m _ meth c RX11 cX11_isRegister (some .boolean) 1 G := ⟨B.exec, B.bytes, B.returns, hml, findClass_of_methodNamed B.named, fun w h => atoms_spec (ws := wz yX11_isRegister cX11_isRegister 1 (some .boolean)) B.pre w (List.mem_cons_of_mem _ h), B.notSynchronized, hC⟩
  have hl := lv_entry ([.int x0]) (n := 1) (Nat.le_of_ble_eq_true rfl)
  rw [lg_entry_eq]
  generalize (lg_sl ([.int x0]) ++ List.replicate (1 - (lg_sl ([.int x0])).length) Slot.unset).toArray = ls at hl ⊢
  exact wk_X11_isRegister C0  x0 hf hP va_S.rf hl
abbrev rm_X1_copy : Room := { frames := 1, cells := 0, slots := 0, locals := 64 }
def fn_X1_copy (t0 : Nat) (t1 : Nat) (X : SM) : SM :=
  g_let (uc X 16 t0 16 t1 24) fun X_1 =>
  g_let (uc X_1 17 t0 17 t1 24) fun X_2 =>
  g_let (uc X_2 18 t0 18 t1 24) fun X_3 =>
  g_let (uc X_3 19 t0 19 t1 24) fun X_4 =>
  g_let (u1 X_4 1 t0 4 (X_4 1 t1 4)) fun X_5 =>
  X_5
set_option maxRecDepth 100000 in
set_option maxHeartbeats 4000000 in
theorem wk_X1_copy {p : Program} {l : Launch} {e : Env} {s : State} {m : MethodId} {args : Array Value} {below : List Frame} {meth : Method} {c : Code} {G : GP} {M : SM} {τ : SL} (C0 : g_mc p s m args meth c RX1 cX1_copy none 2 G) {X0 : SM} (t0 : Nat) (ht0 : t0 < 12) (t1 : Nat) (ht1 : t1 < 12) (X : SM) (hf : fn_X1_copy t0 t1 X = X0) {H : Heap} {locs : List Loc} (hP : va_P G.1 g_cl (wd G (cb X M) τ) H) (hS : va_S (g_A G) s.heap H locs) {ls : Array Slot} (hl : lv_has ls 2 [(0, .ref (G.2.1 1 t0)), (1, .ref (G.2.1 1 t1))]) : W p l e rm_X1_copy s m args below meth c H locs 0 0 (MQ below (va_Qv (fun u => u = (X0, M, τ)) (g_pw G) (g_A G)) args s 0 0 (g_A G)) (F0 m 0 ls []) := by
  obtain ⟨hx, hb, hr, hml, hown, hts, hlocks, hC⟩ := id C0
  unfold fn_X1_copy at hf
  refine lv_aload_n hx hb dX1_copy_0 rfl (lv_at hl 1 rfl) ?_
  refine gt_1_0 hx hb hts hown hC hP ht1 q5_20 dX1_copy_1 ?_
  refine lv_iconst (v := 0) hx hb dX1_copy_4 (by decide) ?_
  refine lv_aload_n hx hb dX1_copy_5 rfl (lv_at hl 0 rfl) ?_
  refine gt_1_0 hx hb hts hown hC hP ht0 q5_20 dX1_copy_6 ?_
  refine lv_iconst (v := 0) hx hb dX1_copy_9 (by decide) ?_
  refine lv_bipush (v := 24) hx hb dX1_copy_10 (by decide) ?_
  obtain ⟨X_1, eX_1, hf⟩ := g_letE hf
  refine x_copyX (k := 16) (k0 := 16) (n := 24) hx hb (by rw [hml]; exact hl.1.symm) hown hts hC hP hS (fun _ _ => rfl) (fun _ _ => rfl) rfl rfl ht0 ht1 q41_8 (by decide) (by decide) (by decide) (by decide) dX1_copy_12 (fun H locs hP hS => ?_)
  rw [eX_1] at hP
  refine lv_aload_n hx hb dX1_copy_15 rfl (lv_at hl 1 rfl) ?_
  refine gt_1_1 hx hb hts hown hC hP ht1 q5_21 dX1_copy_16 ?_
  refine lv_iconst (v := 0) hx hb dX1_copy_19 (by decide) ?_
  refine lv_aload_n hx hb dX1_copy_20 rfl (lv_at hl 0 rfl) ?_
  refine gt_1_1 hx hb hts hown hC hP ht0 q5_21 dX1_copy_21 ?_
  refine lv_iconst (v := 0) hx hb dX1_copy_24 (by decide) ?_
  refine lv_bipush (v := 24) hx hb dX1_copy_25 (by decide) ?_
  obtain ⟨X_2, eX_2, hf⟩ := g_letE hf
  refine x_copyX (k := 17) (k0 := 17) (n := 24) hx hb (by rw [hml]; exact hl.1.symm) hown hts hC hP hS (fun _ _ => rfl) (fun _ _ => rfl) rfl rfl ht0 ht1 q41_8 (by decide) (by decide) (by decide) (by decide) dX1_copy_27 (fun H locs hP hS => ?_)
  rw [eX_2] at hP
  refine lv_aload_n hx hb dX1_copy_30 rfl (lv_at hl 1 rfl) ?_
  refine gt_1_2 hx hb hts hown hC hP ht1 q5_22 dX1_copy_31 ?_
  refine lv_iconst (v := 0) hx hb dX1_copy_34 (by decide) ?_
  refine lv_aload_n hx hb dX1_copy_35 rfl (lv_at hl 0 rfl) ?_
  refine gt_1_2 hx hb hts hown hC hP ht0 q5_22 dX1_copy_36 ?_
  refine lv_iconst (v := 0) hx hb dX1_copy_39 (by decide) ?_
  refine lv_bipush (v := 24) hx hb dX1_copy_40 (by decide) ?_
  obtain ⟨X_3, eX_3, hf⟩ := g_letE hf
  refine x_copyX (k := 18) (k0 := 18) (n := 24) hx hb (by rw [hml]; exact hl.1.symm) hown hts hC hP hS (fun _ _ => rfl) (fun _ _ => rfl) rfl rfl ht0 ht1 q41_8 (by decide) (by decide) (by decide) (by decide) dX1_copy_42 (fun H locs hP hS => ?_)
  rw [eX_3] at hP
  refine lv_aload_n hx hb dX1_copy_45 rfl (lv_at hl 1 rfl) ?_
  refine gt_1_3 hx hb hts hown hC hP ht1 q5_23 dX1_copy_46 ?_
  refine lv_iconst (v := 0) hx hb dX1_copy_49 (by decide) ?_
  refine lv_aload_n hx hb dX1_copy_50 rfl (lv_at hl 0 rfl) ?_
  refine gt_1_3 hx hb hts hown hC hP ht0 q5_23 dX1_copy_51 ?_
  refine lv_iconst (v := 0) hx hb dX1_copy_54 (by decide) ?_
  refine lv_bipush (v := 24) hx hb dX1_copy_55 (by decide) ?_
  obtain ⟨X_4, eX_4, hf⟩ := g_letE hf
  refine x_copyX (k := 19) (k0 := 19) (n := 24) hx hb (by rw [hml]; exact hl.1.symm) hown hts hC hP hS (fun _ _ => rfl) (fun _ _ => rfl) rfl rfl ht0 ht1 q41_8 (by decide) (by decide) (by decide) (by decide) dX1_copy_57 (fun H locs hP hS => ?_)
  rw [eX_4] at hP
  refine lv_aload_n hx hb dX1_copy_60 rfl (lv_at hl 0 rfl) ?_
  refine lv_aload_n hx hb dX1_copy_61 rfl (lv_at hl 1 rfl) ?_
  refine gt_1_4 hx hb hts hown hC hP ht1 q8_6 dX1_copy_62 ?_
  obtain ⟨X_5, eX_5, hf⟩ := g_letE hf
  refine pt_1_4 hx hb hts hown hC hP hS ht0 q8_6 dX1_copy_65 (fun H locs hP hS => ?_)
  rw [eX_5] at hP
  cases hf
  exact x_vret hx hb hlocks hC hP hS hr dX1_copy_68
set_option maxRecDepth 100000 in
set_option maxHeartbeats 4000000 in
theorem ct_X1_copy (l : Launch) (G : GP) (X M : SM) (τ : SL) (t0 : Nat) (ht0 : t0 < 12) (t1 : Nat) (ht1 : t1 < 12) {X0 : SM} (hf : fn_X1_copy t0 t1 X = X0) : Met l yX1_copy (wz yX1_copy cX1_copy 2 none) rm_X1_copy (va_Pc [.ref (G.2.1 1 t0), .ref (G.2.1 1 t1)] (g_pw G (X, M, τ))) (va_Qv (fun u => u = (X0, M, τ)) (g_pw G) (g_A G)) 0 0 (g_A G) := by
  refine Met.ofW (cc := cX1_copy) (maxL := 2) (ret := none) (by decide +kernel) rfl ?_
  intro p e s m args below meth c s₁ B hml hv
  obtain ⟨rfl, hC, hP⟩ := hv
  have C0 : g_mc p s m _ meth c RX1 cX1_copy none 2 G := ⟨B.exec, B.bytes, B.returns, hml, findClass_of_methodNamed B.named, fun w h => atoms_spec (ws := wz yX1_copy cX1_copy 2 none) B.pre w (List.mem_cons_of_mem _ h), B.notSynchronized, hC⟩
  have hl := lv_entry ([.ref (G.2.1 1 t0), .ref (G.2.1 1 t1)]) (n := 2) (Nat.le_of_ble_eq_true rfl)
  rw [lg_entry_eq]
  generalize (lg_sl ([.ref (G.2.1 1 t0), .ref (G.2.1 1 t1)]) ++ List.replicate (2 - (lg_sl ([.ref (G.2.1 1 t0), .ref (G.2.1 1 t1)])).length) Slot.unset).toArray = ls at hl ⊢
  exact wk_X1_copy C0  t0 ht0 t1 ht1 X hf hP va_S.rf hl
abbrev rm_X4_copy : Room := { frames := 0, cells := 0, slots := 0, locals := 0 }
def fn_X4_copy (t0 : Nat) (t1 : Nat) (X : SM) : SM :=
  g_let (u1 X 4 t0 0 (X 4 t1 0)) fun X_1 =>
  g_let (u1 X_1 4 t0 1 (X_1 4 t1 1)) fun X_2 =>
  g_let (u1 X_2 4 t0 2 (X_2 4 t1 2)) fun X_3 =>
  g_let (u1 X_3 4 t0 3 (X_3 4 t1 3)) fun X_4 =>
  g_let (u1 X_4 4 t0 4 (X_4 4 t1 4)) fun X_5 =>
  X_5
set_option maxRecDepth 100000 in
set_option maxHeartbeats 4000000 in
theorem wk_X4_copy {p : Program} {l : Launch} {e : Env} {s : State} {m : MethodId} {args : Array Value} {below : List Frame} {meth : Method} {c : Code} {G : GP} {M : SM} {τ : SL} (C0 : g_mc p s m args meth c RX4 cX4_copy none 2 G) {X0 : SM} (t0 : Nat) (ht0 : t0 < 12) (t1 : Nat) (ht1 : t1 < 12) (X : SM) (hf : fn_X4_copy t0 t1 X = X0) {H : Heap} {locs : List Loc} (hP : va_P G.1 g_cl (wd G (cb X M) τ) H) (hS : va_S (g_A G) s.heap H locs) {ls : Array Slot} (hl : lv_has ls 2 [(0, .ref (G.2.1 4 t0)), (1, .ref (G.2.1 4 t1))]) : W p l e rm_X4_copy s m args below meth c H locs 0 0 (MQ below (va_Qv (fun u => u = (X0, M, τ)) (g_pw G) (g_A G)) args s 0 0 (g_A G)) (F0 m 0 ls []) := by
  obtain ⟨hx, hb, hr, hml, hown, hts, hlocks, hC⟩ := id C0
  unfold fn_X4_copy at hf
  refine lv_aload_n hx hb dX4_copy_0 rfl (lv_at hl 0 rfl) ?_
  refine lv_aload_n hx hb dX4_copy_1 rfl (lv_at hl 1 rfl) ?_
  refine gt_4_0 hx hb hts hown hC hP ht1 q41_13 dX4_copy_2 ?_
  obtain ⟨X_1, eX_1, hf⟩ := g_letE hf
  refine pt_4_0 hx hb hts hown hC hP hS ht0 q41_13 dX4_copy_5 (fun H locs hP hS => ?_)
  rw [eX_1] at hP
  refine lv_aload_n hx hb dX4_copy_8 rfl (lv_at hl 0 rfl) ?_
  refine lv_aload_n hx hb dX4_copy_9 rfl (lv_at hl 1 rfl) ?_
  refine gt_4_1 hx hb hts hown hC hP ht1 q41_14 dX4_copy_10 ?_
  obtain ⟨X_2, eX_2, hf⟩ := g_letE hf
  refine pt_4_1 hx hb hts hown hC hP hS ht0 q41_14 dX4_copy_13 (fun H locs hP hS => ?_)
  rw [eX_2] at hP
  refine lv_aload_n hx hb dX4_copy_16 rfl (lv_at hl 0 rfl) ?_
  refine lv_aload_n hx hb dX4_copy_17 rfl (lv_at hl 1 rfl) ?_
  refine gt_4_2 hx hb hts hown hC hP ht1 q41_15 dX4_copy_18 ?_
  obtain ⟨X_3, eX_3, hf⟩ := g_letE hf
  refine pt_4_2 hx hb hts hown hC hP hS ht0 q41_15 dX4_copy_21 (fun H locs hP hS => ?_)
  rw [eX_3] at hP
  refine lv_aload_n hx hb dX4_copy_24 rfl (lv_at hl 0 rfl) ?_
  refine lv_aload_n hx hb dX4_copy_25 rfl (lv_at hl 1 rfl) ?_
  refine gt_4_3 hx hb hts hown hC hP ht1 q41_16 dX4_copy_26 ?_
  obtain ⟨X_4, eX_4, hf⟩ := g_letE hf
  refine pt_4_3 hx hb hts hown hC hP hS ht0 q41_16 dX4_copy_29 (fun H locs hP hS => ?_)
  rw [eX_4] at hP
  refine lv_aload_n hx hb dX4_copy_32 rfl (lv_at hl 0 rfl) ?_
  refine lv_aload_n hx hb dX4_copy_33 rfl (lv_at hl 1 rfl) ?_
  refine gt_4_4 hx hb hts hown hC hP ht1 q41_17 dX4_copy_34 ?_
  obtain ⟨X_5, eX_5, hf⟩ := g_letE hf
  refine pt_4_4 hx hb hts hown hC hP hS ht0 q41_17 dX4_copy_37 (fun H locs hP hS => ?_)
  rw [eX_5] at hP
  cases hf
  exact x_vret hx hb hlocks hC hP hS hr dX4_copy_40
set_option maxRecDepth 100000 in
set_option maxHeartbeats 4000000 in
theorem ct_X4_copy (l : Launch) (G : GP) (X M : SM) (τ : SL) (t0 : Nat) (ht0 : t0 < 12) (t1 : Nat) (ht1 : t1 < 12) {X0 : SM} (hf : fn_X4_copy t0 t1 X = X0) : Met l yX4_copy (wz yX4_copy cX4_copy 2 none) rm_X4_copy (va_Pc [.ref (G.2.1 4 t0), .ref (G.2.1 4 t1)] (g_pw G (X, M, τ))) (va_Qv (fun u => u = (X0, M, τ)) (g_pw G) (g_A G)) 0 0 (g_A G) := by
  refine Met.ofW (cc := cX4_copy) (maxL := 2) (ret := none) (by decide +kernel) rfl ?_
  intro p e s m args below meth c s₁ B hml hv
  obtain ⟨rfl, hC, hP⟩ := hv
  have C0 : g_mc p s m _ meth c RX4 cX4_copy none 2 G := ⟨B.exec, B.bytes, B.returns, hml, findClass_of_methodNamed B.named, fun w h => atoms_spec (ws := wz yX4_copy cX4_copy 2 none) B.pre w (List.mem_cons_of_mem _ h), B.notSynchronized, hC⟩
  have hl := lv_entry ([.ref (G.2.1 4 t0), .ref (G.2.1 4 t1)]) (n := 2) (Nat.le_of_ble_eq_true rfl)
  rw [lg_entry_eq]
  generalize (lg_sl ([.ref (G.2.1 4 t0), .ref (G.2.1 4 t1)]) ++ List.replicate (2 - (lg_sl ([.ref (G.2.1 4 t0), .ref (G.2.1 4 t1)])).length) Slot.unset).toArray = ls at hl ⊢
  exact wk_X4_copy C0  t0 ht0 t1 ht1 X hf hP va_S.rf hl
abbrev rm_X9_copy : Room := { frames := 2, cells := 0, slots := 0, locals := 85 }
def fn_X9_copy (t0 : Nat) (t1 : Nat) (X : SM) : Option (SM) :=
  g_let (fn_X1_copy t0 t1 X) fun X_1 =>
  g_let (fn_X4_copy t0 t1 X_1) fun X_3 =>
  g_let (uc X_3 31 t0 31 t1 8) fun X_5 =>
  g_let (uc X_5 32 t0 32 t1 16) fun X_6 =>
  g_let (uc X_6 33 t0 33 t1 24) fun X_7 =>
  g_let (u1 X_7 9 t0 6 (X_7 9 t1 6)) fun X_8 =>
  if (X_8 9 t1 7) = 0 ∨ (X_8 9 t1 7) = 1 then
  g_let (u1 X_8 9 t0 7 (X_8 9 t1 7)) fun X_10 =>
  g_let (u1 X_10 9 t0 8 (X_10 9 t1 8)) fun X_11 =>
  g_let (u1 X_11 9 t0 9 (X_11 9 t1 9)) fun X_12 =>
  g_let (u1 X_12 9 t0 10 (X_12 9 t1 10)) fun X_13 =>
  g_let (u1 X_13 9 t0 11 (X_13 9 t1 11)) fun X_14 =>
  g_let (u1 X_14 9 t0 12 (X_14 9 t1 12)) fun X_15 =>
  g_let (u1 X_15 9 t0 13 (X_15 9 t1 13)) fun X_16 =>
  g_let (u1 X_16 9 t0 14 (X_16 9 t1 14)) fun X_17 =>
  some X_17
  else none
set_option maxRecDepth 100000 in
set_option maxHeartbeats 4000000 in
theorem wk_X9_copy {p : Program} {l : Launch} {e : Env} {s : State} {m : MethodId} {args : Array Value} {below : List Frame} {meth : Method} {c : Code} {G : GP} {M : SM} {τ : SL} (C0 : g_mc p s m args meth c RX9 cX9_copy none 2 G) {X0 : SM} (t0 : Nat) (ht0 : t0 < 12) (t1 : Nat) (ht1 : t1 < 12) (X : SM) (hf : fn_X9_copy t0 t1 X = some X0) {H : Heap} {locs : List Loc} (hP : va_P G.1 g_cl (wd G (cb X M) τ) H) (hS : va_S (g_A G) s.heap H locs) {ls : Array Slot} (hl : lv_has ls 2 [(0, .ref (G.2.1 9 t0)), (1, .ref (G.2.1 9 t1))]) : W p l e rm_X9_copy s m args below meth c H locs 0 0 (MQ below (va_Qv (fun u => u = (X0, M, τ)) (g_pw G) (g_A G)) args s 0 0 (g_A G)) (F0 m 0 ls []) := by
  obtain ⟨hx, hb, hr, hml, hown, hts, hlocks, hC⟩ := id C0
  unfold fn_X9_copy at hf
  refine lv_aload_n hx hb dX9_copy_0 rfl (lv_at hl 0 rfl) ?_
  refine gt_9_1 hx hb hts hown hC hP ht0 q5_4 dX9_copy_1 ?_
  refine lv_aload_n hx hb dX9_copy_4 rfl (lv_at hl 1 rfl) ?_
  refine gt_9_1 hx hb hts hown hC hP ht1 q5_4 dX9_copy_5 ?_
  obtain ⟨X_1, hc_2, hf⟩ := g_letE hf
  refine x_callv (v := (X_1, M, τ)) (va_runV (As := [.ref (G.2.1 1 t1)]) (rest := []) ⟨hx, hb, hml, hown, hts⟩ (ct_X1_copy l G X M τ t0 ht0 t1 ht1 hc_2) (cwV 1 hts gd_X9_113 rfl rfl rfl hd_X1_copy ⟨Nat.le_of_ble_eq_true rfl, Nat.le_of_ble_eq_true rfl⟩) (x_preV (u := (X, M, τ)) (k := 1) (ci := 1) hC hS hP ht0 rfl rfl) rfl rfl hl.1 rfl (lv_room (Nat.le_of_ble_eq_true rfl)) dX9_copy_8 ⟨Nat.zero_le _, Nat.zero_le _⟩) hS (fun H locs hP hS => ?_)
  refine lv_aload_n hx hb dX9_copy_11 rfl (lv_at hl 0 rfl) ?_
  refine gt_9_2 hx hb hts hown hC hP ht0 q5_8 dX9_copy_12 ?_
  refine lv_aload_n hx hb dX9_copy_15 rfl (lv_at hl 1 rfl) ?_
  refine gt_9_2 hx hb hts hown hC hP ht1 q5_8 dX9_copy_16 ?_
  obtain ⟨X_3, hc_4, hf⟩ := g_letE hf
  refine x_callv (v := (X_3, M, τ)) (va_runV (As := [.ref (G.2.1 4 t1)]) (rest := []) ⟨hx, hb, hml, hown, hts⟩ (ct_X4_copy l G X_1 M τ t0 ht0 t1 ht1 hc_4) (cwV 1 hts gd_X9_117 rfl rfl rfl hd_X4_copy ⟨Nat.le_of_ble_eq_true rfl, Nat.le_of_ble_eq_true rfl⟩) (x_preV (u := (X_1, M, τ)) (k := 4) (ci := 4) hC hS hP ht0 rfl rfl) rfl rfl hl.1 rfl (lv_room (Nat.le_of_ble_eq_true rfl)) dX9_copy_19 ⟨Nat.zero_le _, Nat.zero_le _⟩) hS (fun H locs hP hS => ?_)
  refine lv_aload_n hx hb dX9_copy_22 rfl (lv_at hl 1 rfl) ?_
  refine gt_9_3 hx hb hts hown hC hP ht1 q5_9 dX9_copy_23 ?_
  refine lv_iconst (v := 0) hx hb dX9_copy_26 (by decide) ?_
  refine lv_aload_n hx hb dX9_copy_27 rfl (lv_at hl 0 rfl) ?_
  refine gt_9_3 hx hb hts hown hC hP ht0 q5_9 dX9_copy_28 ?_
  refine lv_iconst (v := 0) hx hb dX9_copy_31 (by decide) ?_
  refine lv_bipush (v := 8) hx hb dX9_copy_32 (by decide) ?_
  obtain ⟨X_5, eX_5, hf⟩ := g_letE hf
  refine x_copyX (k := 31) (k0 := 31) (n := 8) hx hb (by rw [hml]; exact hl.1.symm) hown hts hC hP hS (fun _ _ => rfl) (fun _ _ => rfl) rfl rfl ht0 ht1 q41_0 (by decide) (by decide) (by decide) (by decide) dX9_copy_34 (fun H locs hP hS => ?_)
  rw [eX_5] at hP
  refine lv_aload_n hx hb dX9_copy_37 rfl (lv_at hl 1 rfl) ?_
  refine gt_9_4 hx hb hts hown hC hP ht1 q5_10 dX9_copy_38 ?_
  refine lv_iconst (v := 0) hx hb dX9_copy_41 (by decide) ?_
  refine lv_aload_n hx hb dX9_copy_42 rfl (lv_at hl 0 rfl) ?_
  refine gt_9_4 hx hb hts hown hC hP ht0 q5_10 dX9_copy_43 ?_
  refine lv_iconst (v := 0) hx hb dX9_copy_46 (by decide) ?_
  refine lv_bipush (v := 16) hx hb dX9_copy_47 (by decide) ?_
  obtain ⟨X_6, eX_6, hf⟩ := g_letE hf
  refine x_copyX (k := 32) (k0 := 32) (n := 16) hx hb (by rw [hml]; exact hl.1.symm) hown hts hC hP hS (fun _ _ => rfl) (fun _ _ => rfl) rfl rfl ht0 ht1 q41_0 (by decide) (by decide) (by decide) (by decide) dX9_copy_49 (fun H locs hP hS => ?_)
  rw [eX_6] at hP
  refine lv_aload_n hx hb dX9_copy_52 rfl (lv_at hl 1 rfl) ?_
  refine gt_9_5 hx hb hts hown hC hP ht1 q5_11 dX9_copy_53 ?_
  refine lv_iconst (v := 0) hx hb dX9_copy_56 (by decide) ?_
  refine lv_aload_n hx hb dX9_copy_57 rfl (lv_at hl 0 rfl) ?_
  refine gt_9_5 hx hb hts hown hC hP ht0 q5_11 dX9_copy_58 ?_
  refine lv_iconst (v := 0) hx hb dX9_copy_61 (by decide) ?_
  refine lv_bipush (v := 24) hx hb dX9_copy_62 (by decide) ?_
  obtain ⟨X_7, eX_7, hf⟩ := g_letE hf
  refine x_copyX (k := 33) (k0 := 33) (n := 24) hx hb (by rw [hml]; exact hl.1.symm) hown hts hC hP hS (fun _ _ => rfl) (fun _ _ => rfl) rfl rfl ht0 ht1 q41_0 (by decide) (by decide) (by decide) (by decide) dX9_copy_64 (fun H locs hP hS => ?_)
  rw [eX_7] at hP
  refine lv_aload_n hx hb dX9_copy_67 rfl (lv_at hl 0 rfl) ?_
  refine lv_aload_n hx hb dX9_copy_68 rfl (lv_at hl 1 rfl) ?_
  refine gt_9_6 hx hb hts hown hC hP ht1 q5_12 dX9_copy_69 ?_
  obtain ⟨X_8, eX_8, hf⟩ := g_letE hf
  refine pt_9_6 hx hb hts hown hC hP hS ht0 q5_12 dX9_copy_72 (fun H locs hP hS => ?_)
  rw [eX_8] at hP
  refine lv_aload_n hx hb dX9_copy_75 rfl (lv_at hl 0 rfl) ?_
  refine lv_aload_n hx hb dX9_copy_76 rfl (lv_at hl 1 rfl) ?_
  refine gt_9_7 hx hb hts hown hC hP ht1 q5_13 dX9_copy_77 ?_
  obtain ⟨hg_9, hf⟩ := g_gd hf
  obtain ⟨X_10, eX_10, hf⟩ := g_letE hf
  refine pt_9_7 hx hb hts hown hC hP hS ht0 q5_13 hg_9 dX9_copy_80 (fun H locs hP hS => ?_)
  rw [eX_10] at hP
  refine lv_aload_n hx hb dX9_copy_83 rfl (lv_at hl 0 rfl) ?_
  refine lv_aload_n hx hb dX9_copy_84 rfl (lv_at hl 1 rfl) ?_
  refine gt_9_8 hx hb hts hown hC hP ht1 q10_7 dX9_copy_85 ?_
  obtain ⟨X_11, eX_11, hf⟩ := g_letE hf
  refine pt_9_8 hx hb hts hown hC hP hS ht0 q10_7 dX9_copy_88 (fun H locs hP hS => ?_)
  rw [eX_11] at hP
  refine lv_aload_n hx hb dX9_copy_91 rfl (lv_at hl 0 rfl) ?_
  refine lv_aload_n hx hb dX9_copy_92 rfl (lv_at hl 1 rfl) ?_
  refine gt_9_9 hx hb hts hown hC hP ht1 q5_14 dX9_copy_93 ?_
  obtain ⟨X_12, eX_12, hf⟩ := g_letE hf
  refine pt_9_9 hx hb hts hown hC hP hS ht0 q5_14 dX9_copy_96 (fun H locs hP hS => ?_)
  rw [eX_12] at hP
  refine lv_aload_n hx hb dX9_copy_99 rfl (lv_at hl 0 rfl) ?_
  refine lv_aload_n hx hb dX9_copy_100 rfl (lv_at hl 1 rfl) ?_
  refine gt_9_10 hx hb hts hown hC hP ht1 q5_15 dX9_copy_101 ?_
  obtain ⟨X_13, eX_13, hf⟩ := g_letE hf
  refine pt_9_10 hx hb hts hown hC hP hS ht0 q5_15 dX9_copy_104 (fun H locs hP hS => ?_)
  rw [eX_13] at hP
  refine lv_aload_n hx hb dX9_copy_107 rfl (lv_at hl 0 rfl) ?_
  refine lv_aload_n hx hb dX9_copy_108 rfl (lv_at hl 1 rfl) ?_
  refine gt_9_11 hx hb hts hown hC hP ht1 q18_0 dX9_copy_109 ?_
  obtain ⟨X_14, eX_14, hf⟩ := g_letE hf
  refine pt_9_11 hx hb hts hown hC hP hS ht0 q18_0 dX9_copy_112 (fun H locs hP hS => ?_)
  rw [eX_14] at hP
  refine lv_aload_n hx hb dX9_copy_115 rfl (lv_at hl 0 rfl) ?_
  refine lv_aload_n hx hb dX9_copy_116 rfl (lv_at hl 1 rfl) ?_
  refine gt_9_12 hx hb hts hown hC hP ht1 q18_1 dX9_copy_117 ?_
  obtain ⟨X_15, eX_15, hf⟩ := g_letE hf
  refine pt_9_12 hx hb hts hown hC hP hS ht0 q18_1 dX9_copy_120 (fun H locs hP hS => ?_)
  rw [eX_15] at hP
  refine lv_aload_n hx hb dX9_copy_123 rfl (lv_at hl 0 rfl) ?_
  refine lv_aload_n hx hb dX9_copy_124 rfl (lv_at hl 1 rfl) ?_
  refine gt_9_13 hx hb hts hown hC hP ht1 q18_2 dX9_copy_125 ?_
  obtain ⟨X_16, eX_16, hf⟩ := g_letE hf
  refine pt_9_13 hx hb hts hown hC hP hS ht0 q18_2 dX9_copy_128 (fun H locs hP hS => ?_)
  rw [eX_16] at hP
  refine lv_aload_n hx hb dX9_copy_131 rfl (lv_at hl 0 rfl) ?_
  refine lv_aload_n hx hb dX9_copy_132 rfl (lv_at hl 1 rfl) ?_
  refine gt_9_14 hx hb hts hown hC hP ht1 q18_3 dX9_copy_133 ?_
  obtain ⟨X_17, eX_17, hf⟩ := g_letE hf
  refine pt_9_14 hx hb hts hown hC hP hS ht0 q18_3 dX9_copy_136 (fun H locs hP hS => ?_)
  rw [eX_17] at hP
  cases hf
  exact x_vret hx hb hlocks hC hP hS hr dX9_copy_139
set_option maxRecDepth 100000 in
set_option maxHeartbeats 4000000 in
theorem ct_X9_copy (l : Launch) (G : GP) (X M : SM) (τ : SL) (t0 : Nat) (ht0 : t0 < 12) (t1 : Nat) (ht1 : t1 < 12) {X0 : SM} (hf : fn_X9_copy t0 t1 X = some X0) : Met l yX9_copy (wz yX9_copy cX9_copy 2 none) rm_X9_copy (va_Pc [.ref (G.2.1 9 t0), .ref (G.2.1 9 t1)] (g_pw G (X, M, τ))) (va_Qv (fun u => u = (X0, M, τ)) (g_pw G) (g_A G)) 0 0 (g_A G) := by
  refine Met.ofW (cc := cX9_copy) (maxL := 2) (ret := none) (by decide +kernel) rfl ?_
  intro p e s m args below meth c s₁ B hml hv
  obtain ⟨rfl, hC, hP⟩ := hv
  have C0 : g_mc p s m _ meth c RX9 cX9_copy none 2 G := ⟨B.exec, B.bytes, B.returns, hml, findClass_of_methodNamed B.named, fun w h => atoms_spec (ws := wz yX9_copy cX9_copy 2 none) B.pre w (List.mem_cons_of_mem _ h), B.notSynchronized, hC⟩
  have hl := lv_entry ([.ref (G.2.1 9 t0), .ref (G.2.1 9 t1)]) (n := 2) (Nat.le_of_ble_eq_true rfl)
  rw [lg_entry_eq]
  generalize (lg_sl ([.ref (G.2.1 9 t0), .ref (G.2.1 9 t1)]) ++ List.replicate (2 - (lg_sl ([.ref (G.2.1 9 t0), .ref (G.2.1 9 t1)])).length) Slot.unset).toArray = ls at hl ⊢
  exact wk_X9_copy C0  t0 ht0 t1 ht1 X hf hP va_S.rf hl
abbrev rm_X8_copy : Room := { frames := 1, cells := 0, slots := 0, locals := 64 }
def fn_X8_copy (t0 : Nat) (t1 : Nat) (X : SM) : SM :=
  g_let (uc X 29 t0 29 t1 8) fun X_1 =>
  g_let (uc X_1 30 t0 30 t1 8) fun X_2 =>
  X_2
set_option maxRecDepth 100000 in
set_option maxHeartbeats 4000000 in
theorem wk_X8_copy {p : Program} {l : Launch} {e : Env} {s : State} {m : MethodId} {args : Array Value} {below : List Frame} {meth : Method} {c : Code} {G : GP} {M : SM} {τ : SL} (C0 : g_mc p s m args meth c RX8 cX8_copy none 2 G) {X0 : SM} (t0 : Nat) (ht0 : t0 < 2) (t1 : Nat) (ht1 : t1 < 2) (X : SM) (hf : fn_X8_copy t0 t1 X = X0) {H : Heap} {locs : List Loc} (hP : va_P G.1 g_cl (wd G (cb X M) τ) H) (hS : va_S (g_A G) s.heap H locs) {ls : Array Slot} (hl : lv_has ls 2 [(0, .ref (G.2.1 8 t0)), (1, .ref (G.2.1 8 t1))]) : W p l e rm_X8_copy s m args below meth c H locs 0 0 (MQ below (va_Qv (fun u => u = (X0, M, τ)) (g_pw G) (g_A G)) args s 0 0 (g_A G)) (F0 m 0 ls []) := by
  obtain ⟨hx, hb, hr, hml, hown, hts, hlocks, hC⟩ := id C0
  unfold fn_X8_copy at hf
  refine lv_aload_n hx hb dX8_copy_0 rfl (lv_at hl 1 rfl) ?_
  refine gt_8_0 hx hb hts hown hC hP ht1 q4_4 dX8_copy_1 ?_
  refine lv_iconst (v := 0) hx hb dX8_copy_4 (by decide) ?_
  refine lv_aload_n hx hb dX8_copy_5 rfl (lv_at hl 0 rfl) ?_
  refine gt_8_0 hx hb hts hown hC hP ht0 q4_4 dX8_copy_6 ?_
  refine lv_iconst (v := 0) hx hb dX8_copy_9 (by decide) ?_
  refine lv_bipush (v := 8) hx hb dX8_copy_10 (by decide) ?_
  obtain ⟨X_1, eX_1, hf⟩ := g_letE hf
  refine x_copyX (k := 29) (k0 := 29) (n := 8) hx hb (by rw [hml]; exact hl.1.symm) hown hts hC hP hS (fun _ _ => rfl) (fun _ _ => rfl) rfl rfl ht0 ht1 q41_22 (by decide) (by decide) (by decide) (by decide) dX8_copy_12 (fun H locs hP hS => ?_)
  rw [eX_1] at hP
  refine lv_aload_n hx hb dX8_copy_15 rfl (lv_at hl 1 rfl) ?_
  refine gt_8_1 hx hb hts hown hC hP ht1 q4_5 dX8_copy_16 ?_
  refine lv_iconst (v := 0) hx hb dX8_copy_19 (by decide) ?_
  refine lv_aload_n hx hb dX8_copy_20 rfl (lv_at hl 0 rfl) ?_
  refine gt_8_1 hx hb hts hown hC hP ht0 q4_5 dX8_copy_21 ?_
  refine lv_iconst (v := 0) hx hb dX8_copy_24 (by decide) ?_
  refine lv_bipush (v := 8) hx hb dX8_copy_25 (by decide) ?_
  obtain ⟨X_2, eX_2, hf⟩ := g_letE hf
  refine x_copyX (k := 30) (k0 := 30) (n := 8) hx hb (by rw [hml]; exact hl.1.symm) hown hts hC hP hS (fun _ _ => rfl) (fun _ _ => rfl) rfl rfl ht0 ht1 q41_22 (by decide) (by decide) (by decide) (by decide) dX8_copy_27 (fun H locs hP hS => ?_)
  rw [eX_2] at hP
  cases hf
  exact x_vret hx hb hlocks hC hP hS hr dX8_copy_30
set_option maxRecDepth 100000 in
set_option maxHeartbeats 4000000 in
theorem ct_X8_copy (l : Launch) (G : GP) (X M : SM) (τ : SL) (t0 : Nat) (ht0 : t0 < 2) (t1 : Nat) (ht1 : t1 < 2) {X0 : SM} (hf : fn_X8_copy t0 t1 X = X0) : Met l yX8_copy (wz yX8_copy cX8_copy 2 none) rm_X8_copy (va_Pc [.ref (G.2.1 8 t0), .ref (G.2.1 8 t1)] (g_pw G (X, M, τ))) (va_Qv (fun u => u = (X0, M, τ)) (g_pw G) (g_A G)) 0 0 (g_A G) := by
  refine Met.ofW (cc := cX8_copy) (maxL := 2) (ret := none) (by decide +kernel) rfl ?_
  intro p e s m args below meth c s₁ B hml hv
  obtain ⟨rfl, hC, hP⟩ := hv
  have C0 : g_mc p s m _ meth c RX8 cX8_copy none 2 G := ⟨B.exec, B.bytes, B.returns, hml, findClass_of_methodNamed B.named, fun w h => atoms_spec (ws := wz yX8_copy cX8_copy 2 none) B.pre w (List.mem_cons_of_mem _ h), B.notSynchronized, hC⟩
  have hl := lv_entry ([.ref (G.2.1 8 t0), .ref (G.2.1 8 t1)]) (n := 2) (Nat.le_of_ble_eq_true rfl)
  rw [lg_entry_eq]
  generalize (lg_sl ([.ref (G.2.1 8 t0), .ref (G.2.1 8 t1)]) ++ List.replicate (2 - (lg_sl ([.ref (G.2.1 8 t0), .ref (G.2.1 8 t1)])).length) Slot.unset).toArray = ls at hl ⊢
  exact wk_X8_copy C0  t0 ht0 t1 ht1 X hf hP va_S.rf hl
abbrev rm_X7_copy : Room := { frames := 3, cells := 0, slots := 0, locals := 106 }
def wb_X7_copy_2 (k2 : Nat → Nat → Int32 → SM → Option (SM)) (t0 : Nat) (t1 : Nat) (x2 : Int32) (X : SM) : Option (SM) :=
  if 6 ≤ x2 then
  (g_let (fn_X8_copy t0 t1 X) fun X_2 =>
    (fn_X0_copy t0 t1 X_2).bind fun X_4 =>
    g_let (u1 X_4 7 t0 5 (X_4 7 t1 5)) fun X_6 =>
    g_let (u1 X_6 7 t0 6 (X_6 7 t1 6)) fun X_7 =>
    g_let (u1 X_7 7 t0 7 (X_7 7 t1 7)) fun X_8 =>
    g_let (u1 X_8 7 t0 8 (X_8 7 t1 8)) fun X_9 =>
    g_let (u1 X_9 7 t0 9 (X_9 7 t1 9)) fun X_10 =>
    g_let (u1 X_10 7 t0 10 (X_10 7 t1 10)) fun X_11 =>
    g_let (u1 X_11 7 t0 11 (X_11 7 t1 11)) fun X_12 =>
    some X_12)
  else
  (if g_in x2 6 then
    if g_in x2 6 then
    (fn_X9_copy (6 * t0 + (x2.toNatClampNeg)) (6 * t1 + (x2.toNatClampNeg)) X).bind fun X_17 =>
    g_let (x2 + 1) fun x2_19 =>
    k2 t0 t1 x2_19 X_17
    else none
    else none)
set_option maxRecDepth 100000 in
set_option maxHeartbeats 4000000 in
theorem bk_X7_copy_2 {p : Program} {l : Launch} {e : Env} {s : State} {m : MethodId} {args : Array Value} {below : List Frame} {meth : Method} {c : Code} {G : GP} {M : SM} {τ : SL} (C0 : g_mc p s m args meth c RX7 cX7_copy none 3 G) {X0 : SM} (k2 : Nat → Nat → Int32 → SM → Option (SM)) (hk2 : ∀ (t0 : Nat) (ht0 : t0 < 2) (t1 : Nat) (ht1 : t1 < 2) (x2 : Int32) (X : SM), k2 t0 t1 x2 X = some X0 → ∀ {H : Heap} {locs : List Loc}, va_P G.1 g_cl (wd G (cb X M) τ) H → va_S (g_A G) s.heap H locs → ∀ {ls : Array Slot}, lv_has ls 3 [(0, .ref (G.2.1 7 t0)), (1, .ref (G.2.1 7 t1)), (2, .int x2)] → W p l e rm_X7_copy s m args below meth c H locs 0 0 (MQ below (va_Qv (fun u => u = (X0, M, τ)) (g_pw G) (g_A G)) args s 0 0 (g_A G)) (F0 m 2 ls [])) (t0 : Nat) (ht0 : t0 < 2) (t1 : Nat) (ht1 : t1 < 2) (x2 : Int32) (X : SM) (hf : wb_X7_copy_2 k2 t0 t1 x2 X = some X0) {H : Heap} {locs : List Loc} (hP : va_P G.1 g_cl (wd G (cb X M) τ) H) (hS : va_S (g_A G) s.heap H locs) {ls : Array Slot} (hl : lv_has ls 3 [(0, .ref (G.2.1 7 t0)), (1, .ref (G.2.1 7 t1)), (2, .int x2)]) : W p l e rm_X7_copy s m args below meth c H locs 0 0 (MQ below (va_Qv (fun u => u = (X0, M, τ)) (g_pw G) (g_A G)) args s 0 0 (g_A G)) (F0 m 2 ls []) := by
  obtain ⟨hx, hb, hr, hml, hown, hts, hlocks, hC⟩ := id C0
  unfold wb_X7_copy_2 at hf
  refine lv_iload_n hx hb dX7_copy_2 rfl (lv_at hl 2 rfl) ?_
  refine lv_bipush (v := 6) hx hb dX7_copy_3 (by decide) ?_
  refine lv_icmp_ge (tgt := 29) hx hb dX7_copy_5 (by decide) (fun hc_1 => ?_) (fun hc_1 => ?_)
  · have hf := g_pos hf hc_1
    refine lv_aload_n hx hb dX7_copy_29 rfl (lv_at hl 0 rfl) ?_
    refine gt_7_1 hx hb hts hown hC hP ht0 q3_14 dX7_copy_30 ?_
    refine lv_aload_n hx hb dX7_copy_33 rfl (lv_at hl 1 rfl) ?_
    refine gt_7_1 hx hb hts hown hC hP ht1 q3_14 dX7_copy_34 ?_
    obtain ⟨X_2, hc_3, hf⟩ := g_letE hf
    refine x_callv (v := (X_2, M, τ)) (va_runV (As := [.ref (G.2.1 8 t1)]) (rest := []) ⟨hx, hb, hml, hown, hts⟩ (ct_X8_copy l G X M τ t0 ht0 t1 ht1 hc_3) (cwV 1 hts gd_X7_50 rfl rfl rfl hd_X8_copy ⟨Nat.le_of_ble_eq_true rfl, Nat.le_of_ble_eq_true rfl⟩) (x_preV (u := (X, M, τ)) (k := 8) (ci := 8) hC hS hP ht0 rfl rfl) rfl rfl hl.1 rfl (lv_room (Nat.le_of_ble_eq_true rfl)) dX7_copy_37 ⟨Nat.zero_le _, Nat.zero_le _⟩) hS (fun H locs hP hS => ?_)
    refine lv_aload_n hx hb dX7_copy_40 rfl (lv_at hl 0 rfl) ?_
    refine gt_7_2 hx hb hts hown hC hP ht0 q3_18 dX7_copy_41 ?_
    refine lv_aload_n hx hb dX7_copy_44 rfl (lv_at hl 1 rfl) ?_
    refine gt_7_2 hx hb hts hown hC hP ht1 q3_18 dX7_copy_45 ?_
    obtain ⟨X_4, hc_5, hf⟩ := g_bindE hf
    refine x_callv (v := (X_4, M, τ)) (va_runV (As := [.ref (G.2.1 0 t1)]) (rest := []) ⟨hx, hb, hml, hown, hts⟩ (ct_X0_copy l G X_2 M τ t0 ht0 t1 ht1 hc_5) (cwV 1 hts gd_X7_53 rfl rfl rfl hd_X0_copy ⟨Nat.le_of_ble_eq_true rfl, Nat.le_of_ble_eq_true rfl⟩) (x_preV (u := (X_2, M, τ)) (k := 0) (ci := 0) hC hS hP ht0 rfl rfl) rfl rfl hl.1 rfl (lv_room (Nat.le_of_ble_eq_true rfl)) dX7_copy_48 ⟨Nat.zero_le _, Nat.zero_le _⟩) hS (fun H locs hP hS => ?_)
    refine lv_aload_n hx hb dX7_copy_51 rfl (lv_at hl 0 rfl) ?_
    refine lv_aload_n hx hb dX7_copy_52 rfl (lv_at hl 1 rfl) ?_
    refine gt_7_5 hx hb hts hown hC hP ht1 q17_14 dX7_copy_53 ?_
    obtain ⟨X_6, eX_6, hf⟩ := g_letE hf
    refine pt_7_5 hx hb hts hown hC hP hS ht0 q17_14 dX7_copy_56 (fun H locs hP hS => ?_)
    rw [eX_6] at hP
    refine lv_aload_n hx hb dX7_copy_59 rfl (lv_at hl 0 rfl) ?_
    refine lv_aload_n hx hb dX7_copy_60 rfl (lv_at hl 1 rfl) ?_
    refine gt_7_6 hx hb hts hown hC hP ht1 q17_15 dX7_copy_61 ?_
    obtain ⟨X_7, eX_7, hf⟩ := g_letE hf
    refine pt_7_6 hx hb hts hown hC hP hS ht0 q17_15 dX7_copy_64 (fun H locs hP hS => ?_)
    rw [eX_7] at hP
    refine lv_aload_n hx hb dX7_copy_67 rfl (lv_at hl 0 rfl) ?_
    refine lv_aload_n hx hb dX7_copy_68 rfl (lv_at hl 1 rfl) ?_
    refine gt_7_7 hx hb hts hown hC hP ht1 q17_16 dX7_copy_69 ?_
    obtain ⟨X_8, eX_8, hf⟩ := g_letE hf
    refine pt_7_7 hx hb hts hown hC hP hS ht0 q17_16 dX7_copy_72 (fun H locs hP hS => ?_)
    rw [eX_8] at hP
    refine lv_aload_n hx hb dX7_copy_75 rfl (lv_at hl 0 rfl) ?_
    refine lv_aload_n hx hb dX7_copy_76 rfl (lv_at hl 1 rfl) ?_
    refine gt_7_8 hx hb hts hown hC hP ht1 q17_17 dX7_copy_77 ?_
    obtain ⟨X_9, eX_9, hf⟩ := g_letE hf
    refine pt_7_8 hx hb hts hown hC hP hS ht0 q17_17 dX7_copy_80 (fun H locs hP hS => ?_)
    rw [eX_9] at hP
    refine lv_aload_n hx hb dX7_copy_83 rfl (lv_at hl 0 rfl) ?_
    refine lv_aload_n hx hb dX7_copy_84 rfl (lv_at hl 1 rfl) ?_
    refine gt_7_9 hx hb hts hown hC hP ht1 q17_18 dX7_copy_85 ?_
    obtain ⟨X_10, eX_10, hf⟩ := g_letE hf
    refine pt_7_9 hx hb hts hown hC hP hS ht0 q17_18 dX7_copy_88 (fun H locs hP hS => ?_)
    rw [eX_10] at hP
    refine lv_aload_n hx hb dX7_copy_91 rfl (lv_at hl 0 rfl) ?_
    refine lv_aload_n hx hb dX7_copy_92 rfl (lv_at hl 1 rfl) ?_
    refine gt_7_10 hx hb hts hown hC hP ht1 q3_19 dX7_copy_93 ?_
    obtain ⟨X_11, eX_11, hf⟩ := g_letE hf
    refine pt_7_10 hx hb hts hown hC hP hS ht0 q3_19 dX7_copy_96 (fun H locs hP hS => ?_)
    rw [eX_11] at hP
    refine lv_aload_n hx hb dX7_copy_99 rfl (lv_at hl 0 rfl) ?_
    refine lv_aload_n hx hb dX7_copy_100 rfl (lv_at hl 1 rfl) ?_
    refine gt_7_11 hx hb hts hown hC hP ht1 q17_19 dX7_copy_101 ?_
    obtain ⟨X_12, eX_12, hf⟩ := g_letE hf
    refine pt_7_11 hx hb hts hown hC hP hS ht0 q17_19 dX7_copy_104 (fun H locs hP hS => ?_)
    rw [eX_12] at hP
    cases hf
    exact x_vret hx hb hlocks hC hP hS hr dX7_copy_107
  · have hf := g_neg hf hc_1
    refine lv_aload_n hx hb dX7_copy_8 rfl (lv_at hl 0 rfl) ?_
    refine gt_7_0 hx hb hts hown hC hP ht0 q3_10 dX7_copy_9 ?_
    refine lv_iload_n hx hb dX7_copy_12 rfl (lv_at hl 2 rfl) ?_
    obtain ⟨hg_13, hf⟩ := g_gd hf
    have hq_14 : 6 * t0 + (x2.toNatClampNeg) < 12 := by have h8 := g_in_lt (n := 6) hg_13; have h9 : t0 < 2 := ht0; omega
    refine xaldS hx hb hC hP ht0 hg_13 dX7_copy_13 ?_
    refine lv_aload_n hx hb dX7_copy_14 rfl (lv_at hl 1 rfl) ?_
    refine gt_7_0 hx hb hts hown hC hP ht1 q3_10 dX7_copy_15 ?_
    refine lv_iload_n hx hb dX7_copy_18 rfl (lv_at hl 2 rfl) ?_
    obtain ⟨hg_15, hf⟩ := g_gd hf
    have hq_16 : 6 * t1 + (x2.toNatClampNeg) < 12 := by have h8 := g_in_lt (n := 6) hg_15; have h9 : t1 < 2 := ht1; omega
    refine xaldS hx hb hC hP ht1 hg_15 dX7_copy_19 ?_
    obtain ⟨X_17, hc_18, hf⟩ := g_bindE hf
    refine x_callv (v := (X_17, M, τ)) (va_runV (As := [.ref (G.2.1 9 (6 * t1 + (x2.toNatClampNeg)))]) (rest := []) ⟨hx, hb, hml, hown, hts⟩ (ct_X9_copy l G X M τ (6 * t0 + (x2.toNatClampNeg)) hq_14 (6 * t1 + (x2.toNatClampNeg)) hq_16 hc_18) (cwV 1 hts gd_X7_46 rfl rfl rfl hd_X9_copy ⟨Nat.le_of_ble_eq_true rfl, Nat.le_of_ble_eq_true rfl⟩) (x_preV (u := (X, M, τ)) (k := 9) (ci := 9) hC hS hP hq_14 rfl rfl) rfl rfl hl.1 rfl (lv_room (Nat.le_of_ble_eq_true rfl)) dX7_copy_20 ⟨Nat.zero_le _, Nat.zero_le _⟩) hS (fun H locs hP hS => ?_)
    obtain ⟨x2_19, ex2_19, hf⟩ := g_letE hf
    refine lv_iinc (v := x2_19) (lv' := [(2, .int x2_19), (0, .ref (G.2.1 7 t0)), (1, .ref (G.2.1 7 t1))]) hx hb dX7_copy_23 hl (k := 2) rfl (by rw [← ex2_19]; rfl) (by decide) rfl (fun ls hl => ?_)
    refine lv_goto (tgt := 2) hx hb dX7_copy_26 (by decide) ?_
    exact hk2 t0 ht0 t1 ht1 x2_19 X_17 hf hP hS (lv_sub hl [1, 2, 0] rfl)
def wl_X7_copy_2 (n : Nat) (t0 : Nat) (t1 : Nat) (x2 : Int32) (X : SM) : Option (SM) := g_loop (α := Nat × Nat × Int32 × SM) (fun k a => wb_X7_copy_2 (fun t0 t1 x2 X => k (t0, t1, x2, X)) a.1 a.2.1 a.2.2.1 a.2.2.2) n (t0, t1, x2, X)
set_option maxRecDepth 100000 in
set_option maxHeartbeats 4000000 in
theorem lp_X7_copy_2 {p : Program} {l : Launch} {e : Env} {s : State} {m : MethodId} {args : Array Value} {below : List Frame} {meth : Method} {c : Code} {G : GP} {M : SM} {τ : SL} (C0 : g_mc p s m args meth c RX7 cX7_copy none 3 G) {X0 : SM} (n : Nat) : ∀ (t0 : Nat) (ht0 : t0 < 2) (t1 : Nat) (ht1 : t1 < 2) (x2 : Int32) (X : SM), wl_X7_copy_2 n t0 t1 x2 X = some X0 → ∀ {H : Heap} {locs : List Loc}, va_P G.1 g_cl (wd G (cb X M) τ) H → va_S (g_A G) s.heap H locs → ∀ {ls : Array Slot}, lv_has ls 3 [(0, .ref (G.2.1 7 t0)), (1, .ref (G.2.1 7 t1)), (2, .int x2)] → W p l e rm_X7_copy s m args below meth c H locs 0 0 (MQ below (va_Qv (fun u => u = (X0, M, τ)) (g_pw G) (g_A G)) args s 0 0 (g_A G)) (F0 m 2 ls []) := by
  induction n with
  | zero =>
    intro t0 ht0 t1 ht1 x2 X hf
    have hf : (none : Option (SM)) = _ := hf
    cases hf
  | succ n ih =>
    intro t0 ht0 t1 ht1 x2 X hf H locs hP hS ls hl
    exact bk_X7_copy_2 C0   (fun t0 t1 x2 X => wl_X7_copy_2   n t0 t1 x2 X) ih t0 ht0 t1 ht1 x2 X hf hP hS hl
def fn_X7_copy (t0 : Nat) (t1 : Nat) (X : SM) : Option (SM) :=
  wl_X7_copy_2 1000 t0 t1 0 X
set_option maxRecDepth 100000 in
set_option maxHeartbeats 4000000 in
theorem wk_X7_copy {p : Program} {l : Launch} {e : Env} {s : State} {m : MethodId} {args : Array Value} {below : List Frame} {meth : Method} {c : Code} {G : GP} {M : SM} {τ : SL} (C0 : g_mc p s m args meth c RX7 cX7_copy none 3 G) {X0 : SM} (t0 : Nat) (ht0 : t0 < 2) (t1 : Nat) (ht1 : t1 < 2) (X : SM) (hf : fn_X7_copy t0 t1 X = some X0) {H : Heap} {locs : List Loc} (hP : va_P G.1 g_cl (wd G (cb X M) τ) H) (hS : va_S (g_A G) s.heap H locs) {ls : Array Slot} (hl : lv_has ls 3 [(0, .ref (G.2.1 7 t0)), (1, .ref (G.2.1 7 t1))]) : W p l e rm_X7_copy s m args below meth c H locs 0 0 (MQ below (va_Qv (fun u => u = (X0, M, τ)) (g_pw G) (g_A G)) args s 0 0 (g_A G)) (F0 m 0 ls []) := by
  obtain ⟨hx, hb, hr, hml, hown, hts, hlocks, hC⟩ := id C0
  unfold fn_X7_copy at hf
  refine lv_iconst (v := 0) hx hb dX7_copy_0 (by decide) ?_
  refine lv_istore_n (lv' := [(2, .int 0), (0, .ref (G.2.1 7 t0)), (1, .ref (G.2.1 7 t1))]) hx hb dX7_copy_1 rfl hl (by decide) rfl (fun ls hl => ?_)
  exact lp_X7_copy_2 C0 1000 t0 ht0 t1 ht1 0 X hf hP hS (lv_sub hl [1, 2, 0] rfl)
set_option maxRecDepth 100000 in
set_option maxHeartbeats 4000000 in
theorem ct_X7_copy (l : Launch) (G : GP) (X M : SM) (τ : SL) (t0 : Nat) (ht0 : t0 < 2) (t1 : Nat) (ht1 : t1 < 2) {X0 : SM} (hf : fn_X7_copy t0 t1 X = some X0) : Met l yX7_copy (wz yX7_copy cX7_copy 3 none) rm_X7_copy (va_Pc [.ref (G.2.1 7 t0), .ref (G.2.1 7 t1)] (g_pw G (X, M, τ))) (va_Qv (fun u => u = (X0, M, τ)) (g_pw G) (g_A G)) 0 0 (g_A G) := by
  refine Met.ofW (cc := cX7_copy) (maxL := 3) (ret := none) (by decide +kernel) rfl ?_
  intro p e s m args below meth c s₁ B hml hv
  obtain ⟨rfl, hC, hP⟩ := hv
  have C0 : g_mc p s m _ meth c RX7 cX7_copy none 3 G := ⟨B.exec, B.bytes, B.returns, hml, findClass_of_methodNamed B.named, fun w h => atoms_spec (ws := wz yX7_copy cX7_copy 3 none) B.pre w (List.mem_cons_of_mem _ h), B.notSynchronized, hC⟩
  have hl := lv_entry ([.ref (G.2.1 7 t0), .ref (G.2.1 7 t1)]) (n := 3) (Nat.le_of_ble_eq_true rfl)
  rw [lg_entry_eq]
  generalize (lg_sl ([.ref (G.2.1 7 t0), .ref (G.2.1 7 t1)]) ++ List.replicate (3 - (lg_sl ([.ref (G.2.1 7 t0), .ref (G.2.1 7 t1)])).length) Slot.unset).toArray = ls at hl ⊢
  exact wk_X7_copy C0  t0 ht0 t1 ht1 X hf hP va_S.rf hl
abbrev rm_X11_isPin : Room := { frames := 0, cells := 0, slots := 0, locals := 0 }
def fn_X11_isPin (x0 : Int32) : Int32 :=
  if x0 < 0 then
  (0)
  else
  (if 8 ≤ x0 then
    (0)
    else
    (1))
set_option maxRecDepth 100000 in
set_option maxHeartbeats 4000000 in
theorem wk_X11_isPin {p : Program} {l : Launch} {e : Env} {s : State} {m : MethodId} {args : Array Value} {below : List Frame} {meth : Method} {c : Code} {G : GP} {X : SM} {M : SM} {τ : SL} (C0 : g_mc p s m args meth c RX11 cX11_isPin (some .boolean) 1 G) {r0 : Int32} (x0 : Int32) (hf : fn_X11_isPin x0 = r0) {H : Heap} {locs : List Loc} (hP : va_P G.1 g_cl (wd G (cb X M) τ) H) (hS : va_S (g_A G) s.heap H locs) {ls : Array Slot} (hl : lv_has ls 1 [(0, .int x0)]) : W p l e rm_X11_isPin s m args below meth c H locs 0 0 (MQ below (va_Qi (fun r u => r = r0 ∧ u = (X, M, τ)) (g_pw G) (g_A G)) args s 0 0 (g_A G)) (F0 m 0 ls []) := by
  obtain ⟨hx, hb, hr, hml, hown, hts, hlocks, hC⟩ := id C0
  unfold fn_X11_isPin at hf
  refine lv_iload_n hx hb dX11_isPin_0 rfl (lv_at hl 0 rfl) ?_
  refine lv_if_lt (tgt := 14) hx hb dX11_isPin_1 (by decide) (fun hc_1 => ?_) (fun hc_1 => ?_)
  · have hf := g_pos hf hc_1
    refine lv_iconst (v := 0) hx hb dX11_isPin_14 (by decide) ?_
    cases hf
    exact x_zret hx hb hlocks hC hP hS hr (Or.inl rfl) dX11_isPin_15
  · have hf := g_neg hf hc_1
    refine lv_iload_n hx hb dX11_isPin_4 rfl (lv_at hl 0 rfl) ?_
    refine lv_bipush (v := 8) hx hb dX11_isPin_5 (by decide) ?_
    refine lv_icmp_ge (tgt := 14) hx hb dX11_isPin_7 (by decide) (fun hc_2 => ?_) (fun hc_2 => ?_)
    · have hf := g_pos hf hc_2
      refine lv_iconst (v := 0) hx hb dX11_isPin_14 (by decide) ?_
      cases hf
      exact x_zret hx hb hlocks hC hP hS hr (Or.inl rfl) dX11_isPin_15
    · have hf := g_neg hf hc_2
      refine lv_iconst (v := 1) hx hb dX11_isPin_10 (by decide) ?_
      refine lv_goto (tgt := 15) hx hb dX11_isPin_11 (by decide) ?_
      cases hf
      exact x_zret hx hb hlocks hC hP hS hr (Or.inr rfl) dX11_isPin_15
set_option maxRecDepth 100000 in
set_option maxHeartbeats 4000000 in
theorem ct_X11_isPin (l : Launch) (G : GP) (X M : SM) (τ : SL) (x0 : Int32) {r0 : Int32} (hf : fn_X11_isPin x0 = r0) : Met l yX11_isPin (wz yX11_isPin cX11_isPin 1 (some .boolean)) rm_X11_isPin (va_Pc [.int x0] (g_pw G (X, M, τ))) (va_Qi (fun r u => r = r0 ∧ u = (X, M, τ)) (g_pw G) (g_A G)) 0 0 (g_A G) := by
  refine Met.ofW (cc := cX11_isPin) (maxL := 1) (ret := (some .boolean)) (by decide +kernel) rfl ?_
  intro p e s m args below meth c s₁ B hml hv
  obtain ⟨rfl, hC, hP⟩ := hv
  have C0 : g_mc p s m _ meth c RX11 cX11_isPin (some .boolean) 1 G := ⟨B.exec, B.bytes, B.returns, hml, findClass_of_methodNamed B.named, fun w h => atoms_spec (ws := wz yX11_isPin cX11_isPin 1 (some .boolean)) B.pre w (List.mem_cons_of_mem _ h), B.notSynchronized, hC⟩
  have hl := lv_entry ([.int x0]) (n := 1) (Nat.le_of_ble_eq_true rfl)
  rw [lg_entry_eq]
  generalize (lg_sl ([.int x0]) ++ List.replicate (1 - (lg_sl ([.int x0])).length) Slot.unset).toArray = ls at hl ⊢
  exact wk_X11_isPin C0  x0 hf hP va_S.rf hl
abbrev rm_X8_drive : Room := { frames := 1, cells := 0, slots := 0, locals := 20 }
def fn_X8_drive (t0 : Nat) (x1 : Int32) (x2 : Int32) (X : SM) : Option (SM) :=
  g_let (fn_X11_isPin x1) fun r_1 =>
  if r_1 = 0 then
  (some X)
  else
  (if g_in x1 8 then
    g_let (u1 X 30 t0 (x1.toNatClampNeg) x2) fun X_5 =>
    some X_5
    else none)
set_option maxRecDepth 100000 in
set_option maxHeartbeats 4000000 in
theorem wk_X8_drive {p : Program} {l : Launch} {e : Env} {s : State} {m : MethodId} {args : Array Value} {below : List Frame} {meth : Method} {c : Code} {G : GP} {M : SM} {τ : SL} (C0 : g_mc p s m args meth c RX8 cX8_drive none 3 G) {X0 : SM} (t0 : Nat) (ht0 : t0 < 2) (x1 : Int32) (x2 : Int32) (X : SM) (hf : fn_X8_drive t0 x1 x2 X = some X0) {H : Heap} {locs : List Loc} (hP : va_P G.1 g_cl (wd G (cb X M) τ) H) (hS : va_S (g_A G) s.heap H locs) {ls : Array Slot} (hl : lv_has ls 3 [(0, .ref (G.2.1 8 t0)), (1, .int x1), (2, .int x2)]) : W p l e rm_X8_drive s m args below meth c H locs 0 0 (MQ below (va_Qv (fun u => u = (X0, M, τ)) (g_pw G) (g_A G)) args s 0 0 (g_A G)) (F0 m 0 ls []) := by
  obtain ⟨hx, hb, hr, hml, hown, hts, hlocks, hC⟩ := id C0
  unfold fn_X8_drive at hf
  refine lv_iload_n hx hb dX8_drive_0 rfl (lv_at hl 1 rfl) ?_
  obtain ⟨r_1, hc_2, hf⟩ := g_letE hf
  refine x_calli (v := (X, M, τ)) (va_runSN (As := [.int x1]) (rest := []) ⟨hx, hb, hml, hown, hts⟩ (ct_X11_isPin l G X M τ x1 hc_2) ⟨va_cnB 1 hts (wz_N q12_3) rfl rfl rfl hC.2.1.2.1 (hts _ q1_2) hd_X11_isPin.2 ⟨Nat.le_of_ble_eq_true rfl, Nat.le_of_ble_eq_true rfl⟩, hts _ q12_2, trivial⟩ (x_pre (u := (X, M, τ)) hC hS hP) rfl rfl hl.1 rfl (lv_room (Nat.le_of_ble_eq_true rfl)) dX8_drive_1 ⟨Nat.zero_le _, Nat.zero_le _⟩) hS (fun H locs hP hS => ?_)
  refine lv_if_eq (tgt := 14) hx hb dX8_drive_4 (by decide) (fun hc_3 => ?_) (fun hc_3 => ?_)
  · have hf := g_pos hf hc_3
    cases hf
    exact x_vret hx hb hlocks hC hP hS hr dX8_drive_14
  · have hf := g_neg hf hc_3
    refine lv_aload_n hx hb dX8_drive_7 rfl (lv_at hl 0 rfl) ?_
    refine gt_8_1 hx hb hts hown hC hP ht0 q4_5 dX8_drive_8 ?_
    refine lv_iload_n hx hb dX8_drive_11 rfl (lv_at hl 1 rfl) ?_
    refine lv_iload_n hx hb dX8_drive_12 rfl (lv_at hl 2 rfl) ?_
    obtain ⟨hg_4, hf⟩ := g_gd hf
    obtain ⟨X_5, eX_5, hf⟩ := g_letE hf
    refine xistX (k := 30) (n := 8) hx hb hC hP hS (fun _ _ => rfl) rfl ht0 hg_4 dX8_drive_13 (fun H locs hP hS => ?_)
    rw [eX_5] at hP
    cases hf
    exact x_vret hx hb hlocks hC hP hS hr dX8_drive_14
set_option maxRecDepth 100000 in
set_option maxHeartbeats 4000000 in
theorem ct_X8_drive (l : Launch) (G : GP) (X M : SM) (τ : SL) (t0 : Nat) (ht0 : t0 < 2) (x1 : Int32) (x2 : Int32) {X0 : SM} (hf : fn_X8_drive t0 x1 x2 X = some X0) : Met l yX8_drive (wz yX8_drive cX8_drive 3 none) rm_X8_drive (va_Pc [.ref (G.2.1 8 t0), .int x1, .int x2] (g_pw G (X, M, τ))) (va_Qv (fun u => u = (X0, M, τ)) (g_pw G) (g_A G)) 0 0 (g_A G) := by
  refine Met.ofW (cc := cX8_drive) (maxL := 3) (ret := none) (by decide +kernel) rfl ?_
  intro p e s m args below meth c s₁ B hml hv
  obtain ⟨rfl, hC, hP⟩ := hv
  have C0 : g_mc p s m _ meth c RX8 cX8_drive none 3 G := ⟨B.exec, B.bytes, B.returns, hml, findClass_of_methodNamed B.named, fun w h => atoms_spec (ws := wz yX8_drive cX8_drive 3 none) B.pre w (List.mem_cons_of_mem _ h), B.notSynchronized, hC⟩
  have hl := lv_entry ([.ref (G.2.1 8 t0), .int x1, .int x2]) (n := 3) (Nat.le_of_ble_eq_true rfl)
  rw [lg_entry_eq]
  generalize (lg_sl ([.ref (G.2.1 8 t0), .int x1, .int x2]) ++ List.replicate (3 - (lg_sl ([.ref (G.2.1 8 t0), .int x1, .int x2])).length) Slot.unset).toArray = ls at hl ⊢
  exact wk_X8_drive C0  t0 ht0 x1 x2 X hf hP va_S.rf hl
abbrev rm_X5_comeTo : Room := { frames := 2, cells := 0, slots := 0, locals := 42 }
def wb_X5_comeTo_2 (k2 : Nat → Int32 → Int32 → SM → Option (SM)) (t1 : Nat) (x2 : Int32) (x3 : Int32) (X : SM) : Option (SM) :=
  if (X 5 0 3) ≤ x3 then
  (some X)
  else
  (if 32 ≤ x3 then
    (some X)
    else
    (if g_in x3 32 then
      if (X 23 0 (x3.toNatClampNeg)) = x2 then
      (if g_in x3 32 then
        if g_in x3 32 then
        (fn_X8_drive t1 (X 22 0 (x3.toNatClampNeg)) (X 24 0 (x3.toNatClampNeg)) X).bind fun X_8 =>
        g_let (x3 + 1) fun x3_10 =>
        k2 t1 x2 x3_10 X_8
        else none
        else none)
      else
      (g_let (x3 + 1) fun x3_5 =>
        k2 t1 x2 x3_5 X)
      else none))
set_option maxRecDepth 100000 in
set_option maxHeartbeats 4000000 in
theorem bk_X5_comeTo_2 {p : Program} {l : Launch} {e : Env} {s : State} {m : MethodId} {args : Array Value} {below : List Frame} {meth : Method} {c : Code} {G : GP} {M : SM} {τ : SL} (C0 : g_mc p s m args meth c RX5 cX5_comeTo none 4 G) {X0 : SM} (k2 : Nat → Int32 → Int32 → SM → Option (SM)) (hk2 : ∀ (t1 : Nat) (ht1 : t1 < 2) (x2 : Int32) (x3 : Int32) (X : SM), k2 t1 x2 x3 X = some X0 → ∀ {H : Heap} {locs : List Loc}, va_P G.1 g_cl (wd G (cb X M) τ) H → va_S (g_A G) s.heap H locs → ∀ {ls : Array Slot}, lv_has ls 4 [(0, .ref (G.2.1 5 0)), (1, .ref (G.2.1 8 t1)), (2, .int x2), (3, .int x3)] → W p l e rm_X5_comeTo s m args below meth c H locs 0 0 (MQ below (va_Qv (fun u => u = (X0, M, τ)) (g_pw G) (g_A G)) args s 0 0 (g_A G)) (F0 m 2 ls [])) (t1 : Nat) (ht1 : t1 < 2) (x2 : Int32) (x3 : Int32) (X : SM) (hf : wb_X5_comeTo_2 k2 t1 x2 x3 X = some X0) {H : Heap} {locs : List Loc} (hP : va_P G.1 g_cl (wd G (cb X M) τ) H) (hS : va_S (g_A G) s.heap H locs) {ls : Array Slot} (hl : lv_has ls 4 [(0, .ref (G.2.1 5 0)), (1, .ref (G.2.1 8 t1)), (2, .int x2), (3, .int x3)]) : W p l e rm_X5_comeTo s m args below meth c H locs 0 0 (MQ below (va_Qv (fun u => u = (X0, M, τ)) (g_pw G) (g_A G)) args s 0 0 (g_A G)) (F0 m 2 ls []) := by
  obtain ⟨hx, hb, hr, hml, hown, hts, hlocks, hC⟩ := id C0
  unfold wb_X5_comeTo_2 at hf
  refine lv_iload_n hx hb dX5_comeTo_2 rfl (lv_at hl 3 rfl) ?_
  refine lv_aload_n hx hb dX5_comeTo_3 rfl (lv_at hl 0 rfl) ?_
  refine gt_5_3 hx hb hts hown hC hP Nat.zero_lt_one q12_22 dX5_comeTo_4 ?_
  refine lv_icmp_ge (tgt := 48) hx hb dX5_comeTo_7 (by decide) (fun hc_1 => ?_) (fun hc_1 => ?_)
  · have hf := g_pos hf hc_1
    cases hf
    exact x_vret hx hb hlocks hC hP hS hr dX5_comeTo_48
  · have hf := g_neg hf hc_1
    refine lv_iload_n hx hb dX5_comeTo_10 rfl (lv_at hl 3 rfl) ?_
    refine lv_bipush (v := 32) hx hb dX5_comeTo_11 (by decide) ?_
    refine lv_icmp_ge (tgt := 48) hx hb dX5_comeTo_13 (by decide) (fun hc_2 => ?_) (fun hc_2 => ?_)
    · have hf := g_pos hf hc_2
      cases hf
      exact x_vret hx hb hlocks hC hP hS hr dX5_comeTo_48
    · have hf := g_neg hf hc_2
      refine lv_aload_n hx hb dX5_comeTo_16 rfl (lv_at hl 0 rfl) ?_
      refine gt_5_1 hx hb hts hown hC hP Nat.zero_lt_one q3_3 dX5_comeTo_17 ?_
      refine lv_iload_n hx hb dX5_comeTo_20 rfl (lv_at hl 3 rfl) ?_
      obtain ⟨hg_3, hf⟩ := g_gd hf
      refine xildX (k := 23) (n := 32) hx hb hC hP (fun _ _ => rfl) rfl Nat.zero_lt_one hg_3 dX5_comeTo_21 ?_
      refine lv_iload_n hx hb dX5_comeTo_22 rfl (lv_at hl 2 rfl) ?_
      refine lv_icmp_ne (tgt := 42) hx hb dX5_comeTo_23 (by decide) (fun hc_4 => ?_) (fun hc_4 => ?_)
      · have hf := g_neg hf hc_4
        obtain ⟨x3_5, ex3_5, hf⟩ := g_letE hf
        refine lv_iinc (v := x3_5) (lv' := [(3, .int x3_5), (0, .ref (G.2.1 5 0)), (1, .ref (G.2.1 8 t1)), (2, .int x2)]) hx hb dX5_comeTo_42 hl (k := 3) rfl (by rw [← ex3_5]; rfl) (by decide) rfl (fun ls hl => ?_)
        refine lv_goto (tgt := 2) hx hb dX5_comeTo_45 (by decide) ?_
        exact hk2 t1 ht1 x2 x3_5 X hf hP hS (lv_sub hl [1, 2, 3, 0] rfl)
      · have hf := g_pos hf hc_4
        refine lv_aload_n hx hb dX5_comeTo_26 rfl (lv_at hl 1 rfl) ?_
        refine lv_aload_n hx hb dX5_comeTo_27 rfl (lv_at hl 0 rfl) ?_
        refine gt_5_0 hx hb hts hown hC hP Nat.zero_lt_one q3_2 dX5_comeTo_28 ?_
        refine lv_iload_n hx hb dX5_comeTo_31 rfl (lv_at hl 3 rfl) ?_
        obtain ⟨hg_6, hf⟩ := g_gd hf
        refine xildX (k := 22) (n := 32) hx hb hC hP (fun _ _ => rfl) rfl Nat.zero_lt_one hg_6 dX5_comeTo_32 ?_
        refine lv_aload_n hx hb dX5_comeTo_33 rfl (lv_at hl 0 rfl) ?_
        refine gt_5_2 hx hb hts hown hC hP Nat.zero_lt_one q3_4 dX5_comeTo_34 ?_
        refine lv_iload_n hx hb dX5_comeTo_37 rfl (lv_at hl 3 rfl) ?_
        obtain ⟨hg_7, hf⟩ := g_gd hf
        refine xildX (k := 24) (n := 32) hx hb hC hP (fun _ _ => rfl) rfl Nat.zero_lt_one hg_7 dX5_comeTo_38 ?_
        obtain ⟨X_8, hc_9, hf⟩ := g_bindE hf
        refine x_callv (v := (X_8, M, τ)) (va_runV (As := [.int (X 22 0 (x3.toNatClampNeg)), .int (X 24 0 (x3.toNatClampNeg))]) (rest := []) ⟨hx, hb, hml, hown, hts⟩ (ct_X8_drive l G X M τ t1 ht1 (X 22 0 (x3.toNatClampNeg)) (X 24 0 (x3.toNatClampNeg)) hc_9) (cwV 2 hts gd_X5_25 rfl rfl rfl hd_X8_drive ⟨Nat.le_of_ble_eq_true rfl, Nat.le_of_ble_eq_true rfl⟩) (x_preV (u := (X, M, τ)) (k := 8) (ci := 8) hC hS hP ht1 rfl rfl) rfl rfl hl.1 rfl (lv_room (Nat.le_of_ble_eq_true rfl)) dX5_comeTo_39 ⟨Nat.zero_le _, Nat.zero_le _⟩) hS (fun H locs hP hS => ?_)
        obtain ⟨x3_10, ex3_10, hf⟩ := g_letE hf
        refine lv_iinc (v := x3_10) (lv' := [(3, .int x3_10), (0, .ref (G.2.1 5 0)), (1, .ref (G.2.1 8 t1)), (2, .int x2)]) hx hb dX5_comeTo_42 hl (k := 3) rfl (by rw [← ex3_10]; rfl) (by decide) rfl (fun ls hl => ?_)
        refine lv_goto (tgt := 2) hx hb dX5_comeTo_45 (by decide) ?_
        exact hk2 t1 ht1 x2 x3_10 X_8 hf hP hS (lv_sub hl [1, 2, 3, 0] rfl)
def wl_X5_comeTo_2 (n : Nat) (t1 : Nat) (x2 : Int32) (x3 : Int32) (X : SM) : Option (SM) := g_loop (α := Nat × Int32 × Int32 × SM) (fun k a => wb_X5_comeTo_2 (fun t1 x2 x3 X => k (t1, x2, x3, X)) a.1 a.2.1 a.2.2.1 a.2.2.2) n (t1, x2, x3, X)
set_option maxRecDepth 100000 in
set_option maxHeartbeats 4000000 in
theorem lp_X5_comeTo_2 {p : Program} {l : Launch} {e : Env} {s : State} {m : MethodId} {args : Array Value} {below : List Frame} {meth : Method} {c : Code} {G : GP} {M : SM} {τ : SL} (C0 : g_mc p s m args meth c RX5 cX5_comeTo none 4 G) {X0 : SM} (n : Nat) : ∀ (t1 : Nat) (ht1 : t1 < 2) (x2 : Int32) (x3 : Int32) (X : SM), wl_X5_comeTo_2 n t1 x2 x3 X = some X0 → ∀ {H : Heap} {locs : List Loc}, va_P G.1 g_cl (wd G (cb X M) τ) H → va_S (g_A G) s.heap H locs → ∀ {ls : Array Slot}, lv_has ls 4 [(0, .ref (G.2.1 5 0)), (1, .ref (G.2.1 8 t1)), (2, .int x2), (3, .int x3)] → W p l e rm_X5_comeTo s m args below meth c H locs 0 0 (MQ below (va_Qv (fun u => u = (X0, M, τ)) (g_pw G) (g_A G)) args s 0 0 (g_A G)) (F0 m 2 ls []) := by
  induction n with
  | zero =>
    intro t1 ht1 x2 x3 X hf
    have hf : (none : Option (SM)) = _ := hf
    cases hf
  | succ n ih =>
    intro t1 ht1 x2 x3 X hf H locs hP hS ls hl
    exact bk_X5_comeTo_2 C0   (fun t1 x2 x3 X => wl_X5_comeTo_2   n t1 x2 x3 X) ih t1 ht1 x2 x3 X hf hP hS hl
def fn_X5_comeTo (t1 : Nat) (x2 : Int32) (X : SM) : Option (SM) :=
  wl_X5_comeTo_2 1000 t1 x2 0 X
set_option maxRecDepth 100000 in
set_option maxHeartbeats 4000000 in
theorem wk_X5_comeTo {p : Program} {l : Launch} {e : Env} {s : State} {m : MethodId} {args : Array Value} {below : List Frame} {meth : Method} {c : Code} {G : GP} {M : SM} {τ : SL} (C0 : g_mc p s m args meth c RX5 cX5_comeTo none 4 G) {X0 : SM} (t1 : Nat) (ht1 : t1 < 2) (x2 : Int32) (X : SM) (hf : fn_X5_comeTo t1 x2 X = some X0) {H : Heap} {locs : List Loc} (hP : va_P G.1 g_cl (wd G (cb X M) τ) H) (hS : va_S (g_A G) s.heap H locs) {ls : Array Slot} (hl : lv_has ls 4 [(0, .ref (G.2.1 5 0)), (1, .ref (G.2.1 8 t1)), (2, .int x2)]) : W p l e rm_X5_comeTo s m args below meth c H locs 0 0 (MQ below (va_Qv (fun u => u = (X0, M, τ)) (g_pw G) (g_A G)) args s 0 0 (g_A G)) (F0 m 0 ls []) := by
  obtain ⟨hx, hb, hr, hml, hown, hts, hlocks, hC⟩ := id C0
  unfold fn_X5_comeTo at hf
  refine lv_iconst (v := 0) hx hb dX5_comeTo_0 (by decide) ?_
  refine lv_istore_n (lv' := [(3, .int 0), (0, .ref (G.2.1 5 0)), (1, .ref (G.2.1 8 t1)), (2, .int x2)]) hx hb dX5_comeTo_1 rfl hl (by decide) rfl (fun ls hl => ?_)
  exact lp_X5_comeTo_2 C0 1000 t1 ht1 x2 0 X hf hP hS (lv_sub hl [1, 2, 3, 0] rfl)
set_option maxRecDepth 100000 in
set_option maxHeartbeats 4000000 in
theorem ct_X5_comeTo (l : Launch) (G : GP) (X M : SM) (τ : SL) (t1 : Nat) (ht1 : t1 < 2) (x2 : Int32) {X0 : SM} (hf : fn_X5_comeTo t1 x2 X = some X0) : Met l yX5_comeTo (wz yX5_comeTo cX5_comeTo 4 none) rm_X5_comeTo (va_Pc [.ref (G.2.1 5 0), .ref (G.2.1 8 t1), .int x2] (g_pw G (X, M, τ))) (va_Qv (fun u => u = (X0, M, τ)) (g_pw G) (g_A G)) 0 0 (g_A G) := by
  refine Met.ofW (cc := cX5_comeTo) (maxL := 4) (ret := none) (by decide +kernel) rfl ?_
  intro p e s m args below meth c s₁ B hml hv
  obtain ⟨rfl, hC, hP⟩ := hv
  have C0 : g_mc p s m _ meth c RX5 cX5_comeTo none 4 G := ⟨B.exec, B.bytes, B.returns, hml, findClass_of_methodNamed B.named, fun w h => atoms_spec (ws := wz yX5_comeTo cX5_comeTo 4 none) B.pre w (List.mem_cons_of_mem _ h), B.notSynchronized, hC⟩
  have hl := lv_entry ([.ref (G.2.1 5 0), .ref (G.2.1 8 t1), .int x2]) (n := 4) (Nat.le_of_ble_eq_true rfl)
  rw [lg_entry_eq]
  generalize (lg_sl ([.ref (G.2.1 5 0), .ref (G.2.1 8 t1), .int x2]) ++ List.replicate (4 - (lg_sl ([.ref (G.2.1 5 0), .ref (G.2.1 8 t1), .int x2])).length) Slot.unset).toArray = ls at hl ⊢
  exact wk_X5_comeTo C0  t1 ht1 x2 X hf hP va_S.rf hl
abbrev rm_X3_append : Room := { frames := 0, cells := 0, slots := 0, locals := 0 }
def fn_X3_append (t0 : Nat) (x1 : Int32) (x2 : Int32) (x3 : Int32) (x4 : Int32) (X : SM) : Option (SM) :=
  g_let ((4 * (X 3 t0 1))) fun x5_1 =>
  if x5_1 < 0 then
  (some X)
  else
  (if (x5_1 + 3) < 160 then
    (if g_in x5_1 160 then
      g_let (u1 X 21 t0 (x5_1.toNatClampNeg) x1) fun X_5 =>
      if g_in (x5_1 + 1) 160 then
      g_let (u1 X_5 21 t0 ((x5_1 + 1).toNatClampNeg) x2) fun X_7 =>
      if g_in (x5_1 + 2) 160 then
      g_let (u1 X_7 21 t0 ((x5_1 + 2).toNatClampNeg) x3) fun X_9 =>
      if g_in (x5_1 + 3) 160 then
      g_let (u1 X_9 21 t0 ((x5_1 + 3).toNatClampNeg) x4) fun X_11 =>
      if 40 ≤ ((X_11 3 t0 1) + 1) then
      (g_let (u1 X_11 3 t0 1 0) fun X_13 =>
        if 40 ≤ (X_13 3 t0 2) then
        (some X_13)
        else
        (g_let (u1 X_13 3 t0 2 ((X_13 3 t0 2) + 1)) fun X_15 =>
          some X_15))
      else
      (g_let (u1 X_11 3 t0 1 ((X_11 3 t0 1) + 1)) fun X_16 =>
        if 40 ≤ (X_16 3 t0 2) then
        (some X_16)
        else
        (g_let (u1 X_16 3 t0 2 ((X_16 3 t0 2) + 1)) fun X_18 =>
          some X_18))
      else none
      else none
      else none
      else none)
    else
    (some X))
set_option maxRecDepth 100000 in
set_option maxHeartbeats 4000000 in
theorem wk_X3_append {p : Program} {l : Launch} {e : Env} {s : State} {m : MethodId} {args : Array Value} {below : List Frame} {meth : Method} {c : Code} {G : GP} {M : SM} {τ : SL} (C0 : g_mc p s m args meth c RX3 cX3_append none 6 G) {X0 : SM} (t0 : Nat) (ht0 : t0 < 2) (x1 : Int32) (x2 : Int32) (x3 : Int32) (x4 : Int32) (X : SM) (hf : fn_X3_append t0 x1 x2 x3 x4 X = some X0) {H : Heap} {locs : List Loc} (hP : va_P G.1 g_cl (wd G (cb X M) τ) H) (hS : va_S (g_A G) s.heap H locs) {ls : Array Slot} (hl : lv_has ls 6 [(0, .ref (G.2.1 3 t0)), (1, .int x1), (2, .int x2), (3, .int x3), (4, .int x4)]) : W p l e rm_X3_append s m args below meth c H locs 0 0 (MQ below (va_Qv (fun u => u = (X0, M, τ)) (g_pw G) (g_A G)) args s 0 0 (g_A G)) (F0 m 0 ls []) := by
  obtain ⟨hx, hb, hr, hml, hown, hts, hlocks, hC⟩ := id C0
  unfold fn_X3_append at hf
  refine lv_iconst (v := 4) hx hb dX3_append_0 (by decide) ?_
  refine lv_aload_n hx hb dX3_append_1 rfl (lv_at hl 0 rfl) ?_
  refine gt_3_1 hx hb hts hown hC hP ht0 q18_12 dX3_append_2 ?_
  refine lv_imul hx hb dX3_append_5 ?_
  obtain ⟨x5_1, ex5_1, hf⟩ := g_letE hf
  refine lv_topE ex5_1 ?_
  refine lv_istore (lv' := [(5, .int x5_1), (0, .ref (G.2.1 3 t0)), (1, .int x1), (2, .int x2), (3, .int x3), (4, .int x4)]) hx hb dX3_append_6 hl (by decide) rfl (fun ls hl => ?_)
  refine lv_iload hx hb dX3_append_8 (lv_at hl 0 rfl) ?_
  refine lv_if_lt (tgt := 25) hx hb dX3_append_10 (by decide) (fun hc_2 => ?_) (fun hc_2 => ?_)
  · have hf := g_pos hf hc_2
    cases hf
    exact x_vret hx hb hlocks hC hP hS hr dX3_append_25
  · have hf := g_neg hf hc_2
    refine lv_iload hx hb dX3_append_13 (lv_at hl 0 rfl) ?_
    refine lv_iconst (v := 3) hx hb dX3_append_15 (by decide) ?_
    refine lv_iadd hx hb dX3_append_16 ?_
    refine lv_aload_n hx hb dX3_append_17 rfl (lv_at hl 1 rfl) ?_
    refine gt_3_0 hx hb hts hown hC hP ht0 q4_13 dX3_append_18 ?_
    refine xlen (k := 21) (n := 160) (v := 160) hx hb hC hP (fun _ _ => rfl) ht0 (by decide) dX3_append_21 ?_
    refine lv_icmp_lt (tgt := 26) hx hb dX3_append_22 (by decide) (fun hc_3 => ?_) (fun hc_3 => ?_)
    · have hf := g_pos hf hc_3
      refine lv_aload_n hx hb dX3_append_26 rfl (lv_at hl 1 rfl) ?_
      refine gt_3_0 hx hb hts hown hC hP ht0 q4_13 dX3_append_27 ?_
      refine lv_iload hx hb dX3_append_30 (lv_at hl 0 rfl) ?_
      refine lv_iload_n hx hb dX3_append_32 rfl (lv_at hl 2 rfl) ?_
      obtain ⟨hg_4, hf⟩ := g_gd hf
      obtain ⟨X_5, eX_5, hf⟩ := g_letE hf
      refine xistX (k := 21) (n := 160) hx hb hC hP hS (fun _ _ => rfl) rfl ht0 hg_4 dX3_append_33 (fun H locs hP hS => ?_)
      rw [eX_5] at hP
      refine lv_aload_n hx hb dX3_append_34 rfl (lv_at hl 1 rfl) ?_
      refine gt_3_0 hx hb hts hown hC hP ht0 q4_13 dX3_append_35 ?_
      refine lv_iload hx hb dX3_append_38 (lv_at hl 0 rfl) ?_
      refine lv_iconst (v := 1) hx hb dX3_append_40 (by decide) ?_
      refine lv_iadd hx hb dX3_append_41 ?_
      refine lv_iload_n hx hb dX3_append_42 rfl (lv_at hl 3 rfl) ?_
      obtain ⟨hg_6, hf⟩ := g_gd hf
      obtain ⟨X_7, eX_7, hf⟩ := g_letE hf
      refine xistX (k := 21) (n := 160) hx hb hC hP hS (fun _ _ => rfl) rfl ht0 hg_6 dX3_append_43 (fun H locs hP hS => ?_)
      rw [eX_7] at hP
      refine lv_aload_n hx hb dX3_append_44 rfl (lv_at hl 1 rfl) ?_
      refine gt_3_0 hx hb hts hown hC hP ht0 q4_13 dX3_append_45 ?_
      refine lv_iload hx hb dX3_append_48 (lv_at hl 0 rfl) ?_
      refine lv_iconst (v := 2) hx hb dX3_append_50 (by decide) ?_
      refine lv_iadd hx hb dX3_append_51 ?_
      refine lv_iload_n hx hb dX3_append_52 rfl (lv_at hl 4 rfl) ?_
      obtain ⟨hg_8, hf⟩ := g_gd hf
      obtain ⟨X_9, eX_9, hf⟩ := g_letE hf
      refine xistX (k := 21) (n := 160) hx hb hC hP hS (fun _ _ => rfl) rfl ht0 hg_8 dX3_append_53 (fun H locs hP hS => ?_)
      rw [eX_9] at hP
      refine lv_aload_n hx hb dX3_append_54 rfl (lv_at hl 1 rfl) ?_
      refine gt_3_0 hx hb hts hown hC hP ht0 q4_13 dX3_append_55 ?_
      refine lv_iload hx hb dX3_append_58 (lv_at hl 0 rfl) ?_
      refine lv_iconst (v := 3) hx hb dX3_append_60 (by decide) ?_
      refine lv_iadd hx hb dX3_append_61 ?_
      refine lv_iload hx hb dX3_append_62 (lv_at hl 5 rfl) ?_
      obtain ⟨hg_10, hf⟩ := g_gd hf
      obtain ⟨X_11, eX_11, hf⟩ := g_letE hf
      refine xistX (k := 21) (n := 160) hx hb hC hP hS (fun _ _ => rfl) rfl ht0 hg_10 dX3_append_64 (fun H locs hP hS => ?_)
      rw [eX_11] at hP
      refine lv_aload_n hx hb dX3_append_65 rfl (lv_at hl 1 rfl) ?_
      refine lv_aload_n hx hb dX3_append_66 rfl (lv_at hl 1 rfl) ?_
      refine gt_3_1 hx hb hts hown hC hP ht0 q18_12 dX3_append_67 ?_
      refine lv_iconst (v := 1) hx hb dX3_append_70 (by decide) ?_
      refine lv_iadd hx hb dX3_append_71 ?_
      refine lv_bipush (v := 40) hx hb dX3_append_72 (by decide) ?_
      refine lv_icmp_ge (tgt := 86) hx hb dX3_append_74 (by decide) (fun hc_12 => ?_) (fun hc_12 => ?_)
      · have hf := g_pos hf hc_12
        refine lv_iconst (v := 0) hx hb dX3_append_86 (by decide) ?_
        obtain ⟨X_13, eX_13, hf⟩ := g_letE hf
        refine pt_3_1 hx hb hts hown hC hP hS ht0 q18_12 dX3_append_87 (fun H locs hP hS => ?_)
        rw [eX_13] at hP
        refine lv_aload_n hx hb dX3_append_90 rfl (lv_at hl 1 rfl) ?_
        refine gt_3_2 hx hb hts hown hC hP ht0 q18_13 dX3_append_91 ?_
        refine lv_bipush (v := 40) hx hb dX3_append_94 (by decide) ?_
        refine lv_icmp_ge (tgt := 109) hx hb dX3_append_96 (by decide) (fun hc_14 => ?_) (fun hc_14 => ?_)
        · have hf := g_pos hf hc_14
          cases hf
          exact x_vret hx hb hlocks hC hP hS hr dX3_append_109
        · have hf := g_neg hf hc_14
          refine lv_aload_n hx hb dX3_append_99 rfl (lv_at hl 1 rfl) ?_
          refine lv_dup hx hb dX3_append_100 rfl ?_
          refine gt_3_2 hx hb hts hown hC hP ht0 q18_13 dX3_append_101 ?_
          refine lv_iconst (v := 1) hx hb dX3_append_104 (by decide) ?_
          refine lv_iadd hx hb dX3_append_105 ?_
          obtain ⟨X_15, eX_15, hf⟩ := g_letE hf
          refine pt_3_2 hx hb hts hown hC hP hS ht0 q18_13 dX3_append_106 (fun H locs hP hS => ?_)
          rw [eX_15] at hP
          cases hf
          exact x_vret hx hb hlocks hC hP hS hr dX3_append_109
      · have hf := g_neg hf hc_12
        refine lv_aload_n hx hb dX3_append_77 rfl (lv_at hl 1 rfl) ?_
        refine gt_3_1 hx hb hts hown hC hP ht0 q18_12 dX3_append_78 ?_
        refine lv_iconst (v := 1) hx hb dX3_append_81 (by decide) ?_
        refine lv_iadd hx hb dX3_append_82 ?_
        refine lv_goto (tgt := 87) hx hb dX3_append_83 (by decide) ?_
        obtain ⟨X_16, eX_16, hf⟩ := g_letE hf
        refine pt_3_1 hx hb hts hown hC hP hS ht0 q18_12 dX3_append_87 (fun H locs hP hS => ?_)
        rw [eX_16] at hP
        refine lv_aload_n hx hb dX3_append_90 rfl (lv_at hl 1 rfl) ?_
        refine gt_3_2 hx hb hts hown hC hP ht0 q18_13 dX3_append_91 ?_
        refine lv_bipush (v := 40) hx hb dX3_append_94 (by decide) ?_
        refine lv_icmp_ge (tgt := 109) hx hb dX3_append_96 (by decide) (fun hc_17 => ?_) (fun hc_17 => ?_)
        · have hf := g_pos hf hc_17
          cases hf
          exact x_vret hx hb hlocks hC hP hS hr dX3_append_109
        · have hf := g_neg hf hc_17
          refine lv_aload_n hx hb dX3_append_99 rfl (lv_at hl 1 rfl) ?_
          refine lv_dup hx hb dX3_append_100 rfl ?_
          refine gt_3_2 hx hb hts hown hC hP ht0 q18_13 dX3_append_101 ?_
          refine lv_iconst (v := 1) hx hb dX3_append_104 (by decide) ?_
          refine lv_iadd hx hb dX3_append_105 ?_
          obtain ⟨X_18, eX_18, hf⟩ := g_letE hf
          refine pt_3_2 hx hb hts hown hC hP hS ht0 q18_13 dX3_append_106 (fun H locs hP hS => ?_)
          rw [eX_18] at hP
          cases hf
          exact x_vret hx hb hlocks hC hP hS hr dX3_append_109
    · have hf := g_neg hf hc_3
      cases hf
      exact x_vret hx hb hlocks hC hP hS hr dX3_append_25
set_option maxRecDepth 100000 in
set_option maxHeartbeats 4000000 in
theorem ct_X3_append (l : Launch) (G : GP) (X M : SM) (τ : SL) (t0 : Nat) (ht0 : t0 < 2) (x1 : Int32) (x2 : Int32) (x3 : Int32) (x4 : Int32) {X0 : SM} (hf : fn_X3_append t0 x1 x2 x3 x4 X = some X0) : Met l yX3_append (wz yX3_append cX3_append 6 none) rm_X3_append (va_Pc [.ref (G.2.1 3 t0), .int x1, .int x2, .int x3, .int x4] (g_pw G (X, M, τ))) (va_Qv (fun u => u = (X0, M, τ)) (g_pw G) (g_A G)) 0 0 (g_A G) := by
  refine Met.ofW (cc := cX3_append) (maxL := 6) (ret := none) (by decide +kernel) rfl ?_
  intro p e s m args below meth c s₁ B hml hv
  obtain ⟨rfl, hC, hP⟩ := hv
  have C0 : g_mc p s m _ meth c RX3 cX3_append none 6 G := ⟨B.exec, B.bytes, B.returns, hml, findClass_of_methodNamed B.named, fun w h => atoms_spec (ws := wz yX3_append cX3_append 6 none) B.pre w (List.mem_cons_of_mem _ h), B.notSynchronized, hC⟩
  have hl := lv_entry ([.ref (G.2.1 3 t0), .int x1, .int x2, .int x3, .int x4]) (n := 6) (Nat.le_of_ble_eq_true rfl)
  rw [lg_entry_eq]
  generalize (lg_sl ([.ref (G.2.1 3 t0), .int x1, .int x2, .int x3, .int x4]) ++ List.replicate (6 - (lg_sl ([.ref (G.2.1 3 t0), .int x1, .int x2, .int x3, .int x4])).length) Slot.unset).toArray = ls at hl ⊢
  exact wk_X3_append C0  t0 ht0 x1 x2 x3 x4 X hf hP va_S.rf hl
