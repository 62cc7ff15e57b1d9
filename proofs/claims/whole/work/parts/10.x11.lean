abbrev rm_X11_tell : Room := { frames := 2, cells := 0, slots := 0, locals := 46 }
def fn_X11_tell (x1 : Int32) (x2 : Int32) (x3 : Int32) (x4 : Int32) (x5 : Int32) (X : SM) : Option (Int32 × SM) :=
  g_let (fn_X11_isThread x1) fun r_1 =>
  if r_1 = 0 then
  (some ((-1), X))
  else
  (if g_in x1 6 then
    g_let ((6 * 0 + (x1.toNatClampNeg))) fun t6_6 =>
    (fn_X1_suits t6_6 x2 x3 x4 x5 X).bind fun r_7 =>
    if r_7 = 0 then
    (some ((-1), X))
    else
    ((fn_X1_append t6_6 x2 x3 x4 x5 X).bind fun (r_10, X_11) =>
      some (r_10, X_11))
    else none)
set_option maxRecDepth 100000 in
set_option maxHeartbeats 4000000 in
theorem wk_X11_tell {p : Program} {l : Launch} {e : Env} {s : State} {m : MethodId} {args : Array Value} {below : List Frame} {meth : Method} {c : Code} {G : GP} {M : SM} {τ : SL} (C0 : g_mc p s m args meth c RX11 cX11_tell (some .int) 7 G) {r0 : Int32} {X0 : SM} (x1 : Int32) (x2 : Int32) (x3 : Int32) (x4 : Int32) (x5 : Int32) (X : SM) (hf : fn_X11_tell x1 x2 x3 x4 x5 X = some (r0, X0)) {H : Heap} {locs : List Loc} (hP : va_P G.1 g_cl (wd G (cb X M) τ) H) (hS : va_S (g_A G) s.heap H locs) {ls : Array Slot} (hl : lv_has ls 7 [(0, .ref (G.2.1 11 0)), (1, .int x1), (2, .int x2), (3, .int x3), (4, .int x4), (5, .int x5)]) : W p l e rm_X11_tell s m args below meth c H locs 0 0 (MQ below (va_Qi (fun r u => r = r0 ∧ u = (X0, M, τ)) (g_pw G) (g_A G)) args s 0 0 (g_A G)) (F0 m 0 ls []) := by
  obtain ⟨hx, hb, hr, hml, hown, hts, hlocks, hC⟩ := id C0
  unfold fn_X11_tell at hf
  refine lv_iload_n hx hb dX11_tell_0 rfl (lv_at hl 1 rfl) ?_
  obtain ⟨r_1, hc_2, hf⟩ := g_letE hf
  refine x_calli (v := (X, M, τ)) (va_runS (As := [.int x1]) (rest := []) ⟨hx, hb, hml, hown, hts⟩ (ct_X11_isThread l G X M τ x1 hc_2) (cwS 1 hts gd_X11_56 rfl rfl rfl hd_X11_isThread ⟨Nat.le_of_ble_eq_true rfl, Nat.le_of_ble_eq_true rfl⟩) (x_pre (u := (X, M, τ)) hC hS hP) rfl rfl hl.1 rfl (lv_room (Nat.le_of_ble_eq_true rfl)) dX11_tell_1 ⟨Nat.le_refl _, Nat.le_refl _⟩) hS (fun H locs hP hS => ?_)
  refine lv_if_ne (tgt := 9) hx hb dX11_tell_4 (by decide) (fun hc_3 => ?_) (fun hc_3 => ?_)
  · have hf := g_neg hf hc_3
    refine lv_aload_n hx hb dX11_tell_9 rfl (lv_at hl 0 rfl) ?_
    refine gt_11_2 hx hb hts hown hC hP Nat.zero_lt_one q2_0 dX11_tell_10 ?_
    refine gt_7_0 hx hb hts hown hC hP (by decide) q7_21 dX11_tell_13 ?_
    refine lv_iload_n hx hb dX11_tell_16 rfl (lv_at hl 1 rfl) ?_
    obtain ⟨hg_4, hf⟩ := g_gd hf
    have hq_5 : 6 * 0 + (x1.toNatClampNeg) < 12 := by have h8 := g_in_lt (n := 6) hg_4; have h9 : 0 < 2 := (by decide); omega
    refine xaldS hx hb hC hP (by decide) hg_4 dX11_tell_17 ?_
    refine gt_9_1 hx hb hts hown hC hP hq_5 q7_22 dX11_tell_18 ?_
    obtain ⟨t6_6, et6_6, hf⟩ := g_letE hf
    refine lv_toprE et6_6 ?_
    have ht6_6 : t6_6 < 12 := by rw [← et6_6]; exact hq_5
    refine lv_astore (lv' := [(6, .ref (G.2.1 1 t6_6)), (0, .ref (G.2.1 11 0)), (1, .int x1), (2, .int x2), (3, .int x3), (4, .int x4), (5, .int x5)]) hx hb dX11_tell_21 hl (by decide) rfl (fun ls hl => ?_)
    refine lv_aload hx hb dX11_tell_23 (lv_at hl 0 rfl) ?_
    refine lv_iload_n hx hb dX11_tell_25 rfl (lv_at hl 3 rfl) ?_
    refine lv_iload_n hx hb dX11_tell_26 rfl (lv_at hl 4 rfl) ?_
    refine lv_iload hx hb dX11_tell_27 (lv_at hl 5 rfl) ?_
    refine lv_iload hx hb dX11_tell_29 (lv_at hl 6 rfl) ?_
    obtain ⟨r_7, hc_8, hf⟩ := g_bindE hf
    refine x_calli (v := (X, M, τ)) (va_runV (As := [.int x2, .int x3, .int x4, .int x5]) (rest := []) ⟨hx, hb, hml, hown, hts⟩ (ct_X1_suits l G X M τ t6_6 ht6_6 x2 x3 x4 x5 hc_8) (cwV 4 hts gd_X11_70 rfl rfl rfl hd_X1_suits ⟨Nat.le_of_ble_eq_true rfl, Nat.le_of_ble_eq_true rfl⟩) (x_preV (u := (X, M, τ)) (k := 1) (ci := 1) hC hS hP ht6_6 rfl rfl) rfl rfl hl.1 rfl (lv_room (Nat.le_of_ble_eq_true rfl)) dX11_tell_31 ⟨Nat.le_refl _, Nat.le_refl _⟩) hS (fun H locs hP hS => ?_)
    refine lv_if_eq (tgt := 51) hx hb dX11_tell_34 (by decide) (fun hc_9 => ?_) (fun hc_9 => ?_)
    · have hf := g_pos hf hc_9
      refine lv_iconst (v := (-1)) hx hb dX11_tell_51 (by decide) ?_
      cases hf
      exact x_iret hx hb hlocks hC hP hS hr dX11_tell_52
    · have hf := g_neg hf hc_9
      refine lv_aload hx hb dX11_tell_37 (lv_at hl 0 rfl) ?_
      refine lv_iload_n hx hb dX11_tell_39 rfl (lv_at hl 3 rfl) ?_
      refine lv_iload_n hx hb dX11_tell_40 rfl (lv_at hl 4 rfl) ?_
      refine lv_iload hx hb dX11_tell_41 (lv_at hl 5 rfl) ?_
      refine lv_iload hx hb dX11_tell_43 (lv_at hl 6 rfl) ?_
      obtain ⟨⟨r_10, X_11⟩, hc_12, hf⟩ := g_bindE hf
      refine x_calli (v := (X_11, M, τ)) (va_runV (As := [.int x2, .int x3, .int x4, .int x5]) (rest := []) ⟨hx, hb, hml, hown, hts⟩ (ct_X1_append l G X M τ t6_6 ht6_6 x2 x3 x4 x5 hc_12) (cwV 4 hts gd_X11_76 rfl rfl rfl hd_X1_append ⟨Nat.le_of_ble_eq_true rfl, Nat.le_of_ble_eq_true rfl⟩) (x_preV (u := (X, M, τ)) (k := 1) (ci := 1) hC hS hP ht6_6 rfl rfl) rfl rfl hl.1 rfl (lv_room (Nat.le_of_ble_eq_true rfl)) dX11_tell_45 ⟨Nat.le_refl _, Nat.le_refl _⟩) hS (fun H locs hP hS => ?_)
      refine lv_goto (tgt := 52) hx hb dX11_tell_48 (by decide) ?_
      cases hf
      exact x_iret hx hb hlocks hC hP hS hr dX11_tell_52
  · have hf := g_pos hf hc_3
    refine lv_iconst (v := (-1)) hx hb dX11_tell_7 (by decide) ?_
    cases hf
    exact x_iret hx hb hlocks hC hP hS hr dX11_tell_8
set_option maxRecDepth 100000 in
set_option maxHeartbeats 4000000 in
theorem ct_X11_tell (l : Launch) (G : GP) (X M : SM) (τ : SL) (x1 : Int32) (x2 : Int32) (x3 : Int32) (x4 : Int32) (x5 : Int32) {r0 : Int32} {X0 : SM} (hf : fn_X11_tell x1 x2 x3 x4 x5 X = some (r0, X0)) : Met l yX11_tell (wz yX11_tell cX11_tell 7 (some .int)) rm_X11_tell (va_Pc [.ref (G.2.1 11 0), .int x1, .int x2, .int x3, .int x4, .int x5] (g_pw G (X, M, τ))) (va_Qi (fun r u => r = r0 ∧ u = (X0, M, τ)) (g_pw G) (g_A G)) 0 0 (g_A G) := by
  refine Met.ofW (cc := cX11_tell) (maxL := 7) (ret := (some .int)) (by decide) rfl ?_
  intro p e s m args below meth c s₁ B hml hv
  obtain ⟨rfl, hC, hP⟩ := hv
  have C0 : g_mc p s m _ meth c RX11 cX11_tell (some .int) 7 G := ⟨B.exec, B.bytes, B.returns, hml, findClass_of_methodNamed B.named, fun w h => atoms_spec (ws := wz yX11_tell cX11_tell 7 (some .int)) B.pre w (List.mem_cons_of_mem _ h), B.notSynchronized, hC⟩
  have hl := lv_entry ([.ref (G.2.1 11 0), .int x1, .int x2, .int x3, .int x4, .int x5]) (n := 7) (Nat.le_of_ble_eq_true rfl)
  rw [lg_entry_eq]
  generalize (lg_sl ([.ref (G.2.1 11 0), .int x1, .int x2, .int x3, .int x4, .int x5]) ++ List.replicate (7 - (lg_sl ([.ref (G.2.1 11 0), .int x1, .int x2, .int x3, .int x4, .int x5])).length) Slot.unset).toArray = ls at hl ⊢
  exact wk_X11_tell C0 x1 x2 x3 x4 x5 X hf hP va_S.rf hl
abbrev rm_X11_thread : Room := { frames := 1, cells := 0, slots := 0, locals := 20 }
def fn_X11_thread (x1 : Int32) (x2 : Int32) (X : SM) : Option (Int32) :=
  g_let (fn_X11_isThread x1) fun r_1 =>
  if r_1 = 0 then
  (some (-2))
  else
  (if g_in x1 6 then
    g_let ((6 * 0 + (x1.toNatClampNeg))) fun t3_6 =>
    if x2 = 0 then
    (some (X 9 t3_6 9))
    else
    (if x2 = 1 then
      (some (X 9 t3_6 8))
      else
      (if x2 = 2 then
        (some (X 9 t3_6 10))
        else
        (if x2 = 3 then
          (some (X 9 t3_6 11))
          else
          (if x2 = 4 then
            (some (X 9 t3_6 12))
            else
            (if x2 = 5 then
              (some (X 9 t3_6 13))
              else
              (if x2 = 6 then
                (if (X 9 t3_6 9) = 1 then
                  (some (X 4 t3_6 4))
                  else
                  (some (-1)))
                else
                (if x2 = 7 then
                  (some (X 9 t3_6 14))
                  else
                  (if x2 = 8 then
                    (some (X 1 t3_6 4))
                    else
                    (if x2 = 9 then
                      (if (X 9 t3_6 7) = 0 then
                        (some 0)
                        else
                        (some 1))
                      else
                      (if x2 = 10 then
                        (some (X 9 t3_6 6))
                        else
                        (if x2 = 11 then
                          (if g_in x1 6 then
                            some (X 35 0 (x1.toNatClampNeg))
                            else none)
                          else
                          (if x2 = 12 then
                            (if g_in x1 6 then
                              some (X 36 0 (x1.toNatClampNeg))
                              else none)
                            else
                            (some (-2))))))))))))))
    else none)
set_option maxRecDepth 100000 in
set_option maxHeartbeats 4000000 in
theorem wk_X11_thread {p : Program} {l : Launch} {e : Env} {s : State} {m : MethodId} {args : Array Value} {below : List Frame} {meth : Method} {c : Code} {G : GP} {M : SM} {τ : SL} (C0 : g_mc p s m args meth c RX11 cX11_thread (some .int) 4 G) {r0 : Int32} (x1 : Int32) (x2 : Int32) (X : SM) (hf : fn_X11_thread x1 x2 X = some r0) {H : Heap} {locs : List Loc} (hP : va_P G.1 g_cl (wd G (cb X M) τ) H) (hS : va_S (g_A G) s.heap H locs) {ls : Array Slot} (hl : lv_has ls 4 [(0, .ref (G.2.1 11 0)), (1, .int x1), (2, .int x2)]) : W p l e rm_X11_thread s m args below meth c H locs 0 0 (MQ below (va_Qi (fun r u => r = r0 ∧ u = (X, M, τ)) (g_pw G) (g_A G)) args s 0 0 (g_A G)) (F0 m 0 ls []) := by
  obtain ⟨hx, hb, hr, hml, hown, hts, hlocks, hC⟩ := id C0
  unfold fn_X11_thread at hf
  refine lv_iload_n hx hb dX11_thread_0 rfl (lv_at hl 1 rfl) ?_
  obtain ⟨r_1, hc_2, hf⟩ := g_letE hf
  refine x_calli (v := (X, M, τ)) (va_runS (As := [.int x1]) (rest := []) ⟨hx, hb, hml, hown, hts⟩ (ct_X11_isThread l G X M τ x1 hc_2) (cwS 1 hts gd_X11_56 rfl rfl rfl hd_X11_isThread ⟨Nat.le_of_ble_eq_true rfl, Nat.le_of_ble_eq_true rfl⟩) (x_pre (u := (X, M, τ)) hC hS hP) rfl rfl hl.1 rfl (lv_room (Nat.le_of_ble_eq_true rfl)) dX11_thread_1 ⟨Nat.le_refl _, Nat.le_refl _⟩) hS (fun H locs hP hS => ?_)
  refine lv_if_ne (tgt := 10) hx hb dX11_thread_4 (by decide) (fun hc_3 => ?_) (fun hc_3 => ?_)
  · have hf := g_neg hf hc_3
    refine lv_aload_n hx hb dX11_thread_10 rfl (lv_at hl 0 rfl) ?_
    refine gt_11_2 hx hb hts hown hC hP Nat.zero_lt_one q2_0 dX11_thread_11 ?_
    refine gt_7_0 hx hb hts hown hC hP (by decide) q7_21 dX11_thread_14 ?_
    refine lv_iload_n hx hb dX11_thread_17 rfl (lv_at hl 1 rfl) ?_
    obtain ⟨hg_4, hf⟩ := g_gd hf
    have hq_5 : 6 * 0 + (x1.toNatClampNeg) < 12 := by have h8 := g_in_lt (n := 6) hg_4; have h9 : 0 < 2 := (by decide); omega
    refine xaldS hx hb hC hP (by decide) hg_4 dX11_thread_18 ?_
    obtain ⟨t3_6, et3_6, hf⟩ := g_letE hf
    refine lv_toprE et3_6 ?_
    have ht3_6 : t3_6 < 12 := by rw [← et3_6]; exact hq_5
    refine lv_astore_n (lv' := [(3, .ref (G.2.1 9 t3_6)), (0, .ref (G.2.1 11 0)), (1, .int x1), (2, .int x2)]) hx hb dX11_thread_19 rfl hl (by decide) rfl (fun ls hl => ?_)
    refine lv_iload_n hx hb dX11_thread_20 rfl (lv_at hl 3 rfl) ?_
    by_cases hs21_0 : x2 = 0
    · have hf := g_pos hf hs21_0
      refine lv_tableIn (off := 67) (tgt := 88) hx hb dX11_thread_21 (by rw [hs21_0]; decide) (by rw [hs21_0]; decide) (by rw [hs21_0]; rfl) (by decide) ?_
      refine lv_aload_n hx hb dX11_thread_88 rfl (lv_at hl 0 rfl) ?_
      refine gt_9_9 hx hb hts hown hC hP ht3_6 q32_20 dX11_thread_89 ?_
      cases hf
      exact x_iret hx hb hlocks hC hP hS hr dX11_thread_92
    · have hf := g_neg hf hs21_0
      by_cases hs21_1 : x2 = 1
      · have hf := g_pos hf hs21_1
        refine lv_tableIn (off := 72) (tgt := 93) hx hb dX11_thread_21 (by rw [hs21_1]; decide) (by rw [hs21_1]; decide) (by rw [hs21_1]; rfl) (by decide) ?_
        refine lv_aload_n hx hb dX11_thread_93 rfl (lv_at hl 0 rfl) ?_
        refine gt_9_8 hx hb hts hown hC hP ht3_6 q32_21 dX11_thread_94 ?_
        cases hf
        exact x_iret hx hb hlocks hC hP hS hr dX11_thread_97
      · have hf := g_neg hf hs21_1
        by_cases hs21_2 : x2 = 2
        · have hf := g_pos hf hs21_2
          refine lv_tableIn (off := 77) (tgt := 98) hx hb dX11_thread_21 (by rw [hs21_2]; decide) (by rw [hs21_2]; decide) (by rw [hs21_2]; rfl) (by decide) ?_
          refine lv_aload_n hx hb dX11_thread_98 rfl (lv_at hl 0 rfl) ?_
          refine gt_9_10 hx hb hts hown hC hP ht3_6 q32_22 dX11_thread_99 ?_
          cases hf
          exact x_iret hx hb hlocks hC hP hS hr dX11_thread_102
        · have hf := g_neg hf hs21_2
          by_cases hs21_3 : x2 = 3
          · have hf := g_pos hf hs21_3
            refine lv_tableIn (off := 82) (tgt := 103) hx hb dX11_thread_21 (by rw [hs21_3]; decide) (by rw [hs21_3]; decide) (by rw [hs21_3]; rfl) (by decide) ?_
            refine lv_aload_n hx hb dX11_thread_103 rfl (lv_at hl 0 rfl) ?_
            refine gt_9_11 hx hb hts hown hC hP ht3_6 q32_23 dX11_thread_104 ?_
            cases hf
            exact x_iret hx hb hlocks hC hP hS hr dX11_thread_107
          · have hf := g_neg hf hs21_3
            by_cases hs21_4 : x2 = 4
            · have hf := g_pos hf hs21_4
              refine lv_tableIn (off := 87) (tgt := 108) hx hb dX11_thread_21 (by rw [hs21_4]; decide) (by rw [hs21_4]; decide) (by rw [hs21_4]; rfl) (by decide) ?_
              refine lv_aload_n hx hb dX11_thread_108 rfl (lv_at hl 0 rfl) ?_
              refine gt_9_12 hx hb hts hown hC hP ht3_6 q33_0 dX11_thread_109 ?_
              cases hf
              exact x_iret hx hb hlocks hC hP hS hr dX11_thread_112
            · have hf := g_neg hf hs21_4
              by_cases hs21_5 : x2 = 5
              · have hf := g_pos hf hs21_5
                refine lv_tableIn (off := 92) (tgt := 113) hx hb dX11_thread_21 (by rw [hs21_5]; decide) (by rw [hs21_5]; decide) (by rw [hs21_5]; rfl) (by decide) ?_
                refine lv_aload_n hx hb dX11_thread_113 rfl (lv_at hl 0 rfl) ?_
                refine gt_9_13 hx hb hts hown hC hP ht3_6 q33_1 dX11_thread_114 ?_
                cases hf
                exact x_iret hx hb hlocks hC hP hS hr dX11_thread_117
              · have hf := g_neg hf hs21_5
                by_cases hs21_6 : x2 = 6
                · have hf := g_pos hf hs21_6
                  refine lv_tableIn (off := 97) (tgt := 118) hx hb dX11_thread_21 (by rw [hs21_6]; decide) (by rw [hs21_6]; decide) (by rw [hs21_6]; rfl) (by decide) ?_
                  refine lv_aload_n hx hb dX11_thread_118 rfl (lv_at hl 0 rfl) ?_
                  refine gt_9_9 hx hb hts hown hC hP ht3_6 q32_20 dX11_thread_119 ?_
                  refine lv_iconst (v := 1) hx hb dX11_thread_122 (by decide) ?_
                  refine lv_icmp_ne (tgt := 136) hx hb dX11_thread_123 (by decide) (fun hc_10 => ?_) (fun hc_10 => ?_)
                  · have hf := g_neg hf hc_10
                    refine lv_iconst (v := (-1)) hx hb dX11_thread_136 (by decide) ?_
                    cases hf
                    exact x_iret hx hb hlocks hC hP hS hr dX11_thread_137
                  · have hf := g_pos hf hc_10
                    refine lv_aload_n hx hb dX11_thread_126 rfl (lv_at hl 0 rfl) ?_
                    refine gt_9_2 hx hb hts hown hC hP ht3_6 q33_2 dX11_thread_127 ?_
                    refine gt_4_4 hx hb hts hown hC hP ht3_6 q33_3 dX11_thread_130 ?_
                    refine lv_goto (tgt := 137) hx hb dX11_thread_133 (by decide) ?_
                    cases hf
                    exact x_iret hx hb hlocks hC hP hS hr dX11_thread_137
                · have hf := g_neg hf hs21_6
                  by_cases hs21_7 : x2 = 7
                  · have hf := g_pos hf hs21_7
                    refine lv_tableIn (off := 117) (tgt := 138) hx hb dX11_thread_21 (by rw [hs21_7]; decide) (by rw [hs21_7]; decide) (by rw [hs21_7]; rfl) (by decide) ?_
                    refine lv_aload_n hx hb dX11_thread_138 rfl (lv_at hl 0 rfl) ?_
                    refine gt_9_14 hx hb hts hown hC hP ht3_6 q33_4 dX11_thread_139 ?_
                    cases hf
                    exact x_iret hx hb hlocks hC hP hS hr dX11_thread_142
                  · have hf := g_neg hf hs21_7
                    by_cases hs21_8 : x2 = 8
                    · have hf := g_pos hf hs21_8
                      refine lv_tableIn (off := 122) (tgt := 143) hx hb dX11_thread_21 (by rw [hs21_8]; decide) (by rw [hs21_8]; decide) (by rw [hs21_8]; rfl) (by decide) ?_
                      refine lv_aload_n hx hb dX11_thread_143 rfl (lv_at hl 0 rfl) ?_
                      refine gt_9_1 hx hb hts hown hC hP ht3_6 q7_22 dX11_thread_144 ?_
                      refine gt_1_4 hx hb hts hown hC hP ht3_6 q33_5 dX11_thread_147 ?_
                      cases hf
                      exact x_iret hx hb hlocks hC hP hS hr dX11_thread_150
                    · have hf := g_neg hf hs21_8
                      by_cases hs21_9 : x2 = 9
                      · have hf := g_pos hf hs21_9
                        refine lv_tableIn (off := 130) (tgt := 151) hx hb dX11_thread_21 (by rw [hs21_9]; decide) (by rw [hs21_9]; decide) (by rw [hs21_9]; rfl) (by decide) ?_
                        refine lv_aload_n hx hb dX11_thread_151 rfl (lv_at hl 0 rfl) ?_
                        refine gt_9_7 hx hb hts hown hC hP ht3_6 q11_12 dX11_thread_152 ?_
                        refine lv_if_eq (tgt := 162) hx hb dX11_thread_155 (by decide) (fun hc_9 => ?_) (fun hc_9 => ?_)
                        · have hf := g_pos hf hc_9
                          refine lv_iconst (v := 0) hx hb dX11_thread_162 (by decide) ?_
                          cases hf
                          exact x_iret hx hb hlocks hC hP hS hr dX11_thread_163
                        · have hf := g_neg hf hc_9
                          refine lv_iconst (v := 1) hx hb dX11_thread_158 (by decide) ?_
                          refine lv_goto (tgt := 163) hx hb dX11_thread_159 (by decide) ?_
                          cases hf
                          exact x_iret hx hb hlocks hC hP hS hr dX11_thread_163
                      · have hf := g_neg hf hs21_9
                        by_cases hs21_10 : x2 = 10
                        · have hf := g_pos hf hs21_10
                          refine lv_tableIn (off := 143) (tgt := 164) hx hb dX11_thread_21 (by rw [hs21_10]; decide) (by rw [hs21_10]; decide) (by rw [hs21_10]; rfl) (by decide) ?_
                          refine lv_aload_n hx hb dX11_thread_164 rfl (lv_at hl 0 rfl) ?_
                          refine gt_9_6 hx hb hts hown hC hP ht3_6 q11_1 dX11_thread_165 ?_
                          cases hf
                          exact x_iret hx hb hlocks hC hP hS hr dX11_thread_168
                        · have hf := g_neg hf hs21_10
                          by_cases hs21_11 : x2 = 11
                          · have hf := g_pos hf hs21_11
                            refine lv_tableIn (off := 148) (tgt := 169) hx hb dX11_thread_21 (by rw [hs21_11]; decide) (by rw [hs21_11]; decide) (by rw [hs21_11]; rfl) (by decide) ?_
                            refine lv_aload_n hx hb dX11_thread_169 rfl (lv_at hl 1 rfl) ?_
                            refine gt_11_6 hx hb hts hown hC hP Nat.zero_lt_one q2_11 dX11_thread_170 ?_
                            refine lv_iload_n hx hb dX11_thread_173 rfl (lv_at hl 2 rfl) ?_
                            obtain ⟨hg_8, hf⟩ := g_gd hf
                            refine xildX (k := 35) (n := 6) hx hb hC hP (fun _ _ => rfl) rfl Nat.zero_lt_one hg_8 dX11_thread_174 ?_
                            cases hf
                            exact x_iret hx hb hlocks hC hP hS hr dX11_thread_175
                          · have hf := g_neg hf hs21_11
                            by_cases hs21_12 : x2 = 12
                            · have hf := g_pos hf hs21_12
                              refine lv_tableIn (off := 155) (tgt := 176) hx hb dX11_thread_21 (by rw [hs21_12]; decide) (by rw [hs21_12]; decide) (by rw [hs21_12]; rfl) (by decide) ?_
                              refine lv_aload_n hx hb dX11_thread_176 rfl (lv_at hl 1 rfl) ?_
                              refine gt_11_7 hx hb hts hown hC hP Nat.zero_lt_one q2_12 dX11_thread_177 ?_
                              refine lv_iload_n hx hb dX11_thread_180 rfl (lv_at hl 2 rfl) ?_
                              obtain ⟨hg_7, hf⟩ := g_gd hf
                              refine xildX (k := 36) (n := 6) hx hb hC hP (fun _ _ => rfl) rfl Nat.zero_lt_one hg_7 dX11_thread_181 ?_
                              cases hf
                              exact x_iret hx hb hlocks hC hP hS hr dX11_thread_182
                            · have hf := g_neg hf hs21_12
                              have nhs21_0 : x2.toInt ≠ 0 := fun h => hs21_0 (Int32.toInt_inj.mp (by rw [h]; rfl))
                              have nhs21_1 : x2.toInt ≠ 1 := fun h => hs21_1 (Int32.toInt_inj.mp (by rw [h]; rfl))
                              have nhs21_2 : x2.toInt ≠ 2 := fun h => hs21_2 (Int32.toInt_inj.mp (by rw [h]; rfl))
                              have nhs21_3 : x2.toInt ≠ 3 := fun h => hs21_3 (Int32.toInt_inj.mp (by rw [h]; rfl))
                              have nhs21_4 : x2.toInt ≠ 4 := fun h => hs21_4 (Int32.toInt_inj.mp (by rw [h]; rfl))
                              have nhs21_5 : x2.toInt ≠ 5 := fun h => hs21_5 (Int32.toInt_inj.mp (by rw [h]; rfl))
                              have nhs21_6 : x2.toInt ≠ 6 := fun h => hs21_6 (Int32.toInt_inj.mp (by rw [h]; rfl))
                              have nhs21_7 : x2.toInt ≠ 7 := fun h => hs21_7 (Int32.toInt_inj.mp (by rw [h]; rfl))
                              have nhs21_8 : x2.toInt ≠ 8 := fun h => hs21_8 (Int32.toInt_inj.mp (by rw [h]; rfl))
                              have nhs21_9 : x2.toInt ≠ 9 := fun h => hs21_9 (Int32.toInt_inj.mp (by rw [h]; rfl))
                              have nhs21_10 : x2.toInt ≠ 10 := fun h => hs21_10 (Int32.toInt_inj.mp (by rw [h]; rfl))
                              have nhs21_11 : x2.toInt ≠ 11 := fun h => hs21_11 (Int32.toInt_inj.mp (by rw [h]; rfl))
                              have nhs21_12 : x2.toInt ≠ 12 := fun h => hs21_12 (Int32.toInt_inj.mp (by rw [h]; rfl))
                              refine lv_tableOut (tgt := 183) hx hb dX11_thread_21 (by omega) (by decide) ?_
                              refine lv_bipush (v := (-2)) hx hb dX11_thread_183 (by decide) ?_
                              cases hf
                              exact x_iret hx hb hlocks hC hP hS hr dX11_thread_185
  · have hf := g_pos hf hc_3
    refine lv_bipush (v := (-2)) hx hb dX11_thread_7 (by decide) ?_
    cases hf
    exact x_iret hx hb hlocks hC hP hS hr dX11_thread_9
set_option maxRecDepth 100000 in
set_option maxHeartbeats 4000000 in
theorem ct_X11_thread (l : Launch) (G : GP) (X M : SM) (τ : SL) (x1 : Int32) (x2 : Int32) {r0 : Int32} (hf : fn_X11_thread x1 x2 X = some r0) : Met l yX11_thread (wz yX11_thread cX11_thread 4 (some .int)) rm_X11_thread (va_Pc [.ref (G.2.1 11 0), .int x1, .int x2] (g_pw G (X, M, τ))) (va_Qi (fun r u => r = r0 ∧ u = (X, M, τ)) (g_pw G) (g_A G)) 0 0 (g_A G) := by
  refine Met.ofW (cc := cX11_thread) (maxL := 4) (ret := (some .int)) (by decide) rfl ?_
  intro p e s m args below meth c s₁ B hml hv
  obtain ⟨rfl, hC, hP⟩ := hv
  have C0 : g_mc p s m _ meth c RX11 cX11_thread (some .int) 4 G := ⟨B.exec, B.bytes, B.returns, hml, findClass_of_methodNamed B.named, fun w h => atoms_spec (ws := wz yX11_thread cX11_thread 4 (some .int)) B.pre w (List.mem_cons_of_mem _ h), B.notSynchronized, hC⟩
  have hl := lv_entry ([.ref (G.2.1 11 0), .int x1, .int x2]) (n := 4) (Nat.le_of_ble_eq_true rfl)
  rw [lg_entry_eq]
  generalize (lg_sl ([.ref (G.2.1 11 0), .int x1, .int x2]) ++ List.replicate (4 - (lg_sl ([.ref (G.2.1 11 0), .int x1, .int x2])).length) Slot.unset).toArray = ls at hl ⊢
  exact wk_X11_thread C0 x1 x2 X hf hP va_S.rf hl
abbrev rm_X11_will : Room := { frames := 7, cells := 0, slots := 0, locals := 173 }
def fn_X11_will (x1 : Int32) (x2 : Int32) (X : SM) : Option (Int32 × SM) :=
  g_let (fn_X11_isThread x1) fun r_1 =>
  if r_1 = 0 then
  (some ((-1), X))
  else
  (if x2 < 1 then
    (some ((-1), X))
    else
    (if x2 ≤ 60 then
      ((fn_X7_copy 1 0 X).bind fun X_6 =>
        (fn_X11_tickOfInstruction 1 x1 x2 X_6).bind fun (r_8, X_9) =>
        some (r_8, X_9))
      else
      (some ((-1), X))))
set_option maxRecDepth 100000 in
set_option maxHeartbeats 4000000 in
theorem wk_X11_will {p : Program} {l : Launch} {e : Env} {s : State} {m : MethodId} {args : Array Value} {below : List Frame} {meth : Method} {c : Code} {G : GP} {M : SM} {τ : SL} (C0 : g_mc p s m args meth c RX11 cX11_will (some .int) 3 G) {r0 : Int32} {X0 : SM} (x1 : Int32) (x2 : Int32) (X : SM) (hf : fn_X11_will x1 x2 X = some (r0, X0)) {H : Heap} {locs : List Loc} (hP : va_P G.1 g_cl (wd G (cb X M) τ) H) (hS : va_S (g_A G) s.heap H locs) {ls : Array Slot} (hl : lv_has ls 3 [(0, .ref (G.2.1 11 0)), (1, .int x1), (2, .int x2)]) : W p l e rm_X11_will s m args below meth c H locs 0 0 (MQ below (va_Qi (fun r u => r = r0 ∧ u = (X0, M, τ)) (g_pw G) (g_A G)) args s 0 0 (g_A G)) (F0 m 0 ls []) := by
  obtain ⟨hx, hb, hr, hml, hown, hts, hlocks, hC⟩ := id C0
  unfold fn_X11_will at hf
  refine lv_iload_n hx hb dX11_will_0 rfl (lv_at hl 1 rfl) ?_
  obtain ⟨r_1, hc_2, hf⟩ := g_letE hf
  refine x_calli (v := (X, M, τ)) (va_runS (As := [.int x1]) (rest := []) ⟨hx, hb, hml, hown, hts⟩ (ct_X11_isThread l G X M τ x1 hc_2) (cwS 1 hts gd_X11_56 rfl rfl rfl hd_X11_isThread ⟨Nat.le_of_ble_eq_true rfl, Nat.le_of_ble_eq_true rfl⟩) (x_pre (u := (X, M, τ)) hC hS hP) rfl rfl hl.1 rfl (lv_room (Nat.le_of_ble_eq_true rfl)) dX11_will_1 ⟨Nat.le_refl _, Nat.le_refl _⟩) hS (fun H locs hP hS => ?_)
  refine lv_if_eq (tgt := 18) hx hb dX11_will_4 (by decide) (fun hc_3 => ?_) (fun hc_3 => ?_)
  · have hf := g_pos hf hc_3
    refine lv_iconst (v := (-1)) hx hb dX11_will_18 (by decide) ?_
    cases hf
    exact x_iret hx hb hlocks hC hP hS hr dX11_will_19
  · have hf := g_neg hf hc_3
    refine lv_iload_n hx hb dX11_will_7 rfl (lv_at hl 2 rfl) ?_
    refine lv_iconst (v := 1) hx hb dX11_will_8 (by decide) ?_
    refine lv_icmp_lt (tgt := 18) hx hb dX11_will_9 (by decide) (fun hc_4 => ?_) (fun hc_4 => ?_)
    · have hf := g_pos hf hc_4
      refine lv_iconst (v := (-1)) hx hb dX11_will_18 (by decide) ?_
      cases hf
      exact x_iret hx hb hlocks hC hP hS hr dX11_will_19
    · have hf := g_neg hf hc_4
      refine lv_iload_n hx hb dX11_will_12 rfl (lv_at hl 2 rfl) ?_
      refine lv_bipush (v := 60) hx hb dX11_will_13 (by decide) ?_
      refine lv_icmp_le (tgt := 20) hx hb dX11_will_15 (by decide) (fun hc_5 => ?_) (fun hc_5 => ?_)
      · have hf := g_pos hf hc_5
        refine lv_aload_n hx hb dX11_will_20 rfl (lv_at hl 0 rfl) ?_
        refine gt_11_3 hx hb hts hown hC hP Nat.zero_lt_one q2_1 dX11_will_21 ?_
        refine lv_aload_n hx hb dX11_will_24 rfl (lv_at hl 0 rfl) ?_
        refine gt_11_2 hx hb hts hown hC hP Nat.zero_lt_one q2_0 dX11_will_25 ?_
        obtain ⟨X_6, hc_7, hf⟩ := g_bindE hf
        refine x_callv (v := (X_6, M, τ)) (va_runV (As := [.ref (G.2.1 7 0)]) (rest := []) ⟨hx, hb, hml, hown, hts⟩ (ct_X7_copy l G X M τ 1 (by decide) 0 (by decide) hc_7) (cwV 1 hts gd_X11_249 rfl rfl rfl hd_X7_copy ⟨Nat.le_of_ble_eq_true rfl, Nat.le_of_ble_eq_true rfl⟩) (x_preV (u := (X, M, τ)) (k := 7) (ci := 7) hC hS hP (by decide) rfl rfl) rfl rfl hl.1 rfl (lv_room (Nat.le_of_ble_eq_true rfl)) dX11_will_28 ⟨Nat.le_refl _, Nat.le_refl _⟩) hS (fun H locs hP hS => ?_)
        refine lv_aload_n hx hb dX11_will_31 rfl (lv_at hl 0 rfl) ?_
        refine gt_11_3 hx hb hts hown hC hP Nat.zero_lt_one q2_1 dX11_will_32 ?_
        refine lv_iload_n hx hb dX11_will_35 rfl (lv_at hl 1 rfl) ?_
        refine lv_iload_n hx hb dX11_will_36 rfl (lv_at hl 2 rfl) ?_
        obtain ⟨⟨r_8, X_9⟩, hc_10, hf⟩ := g_bindE hf
        refine x_calli (v := (X_9, M, τ)) (va_runS (As := [.ref (G.2.1 7 1), .int x1, .int x2]) (rest := []) ⟨hx, hb, hml, hown, hts⟩ (ct_X11_tickOfInstruction l G X_6 M τ 1 (by decide) x1 x2 hc_10) (cwS 3 hts gd_X11_253 rfl rfl rfl hd_X11_tickOfInstruction ⟨Nat.le_of_ble_eq_true rfl, Nat.le_of_ble_eq_true rfl⟩) (x_pre (u := (X_6, M, τ)) hC hS hP) rfl rfl hl.1 rfl (lv_room (Nat.le_of_ble_eq_true rfl)) dX11_will_37 ⟨Nat.le_refl _, Nat.le_refl _⟩) hS (fun H locs hP hS => ?_)
        cases hf
        exact x_iret hx hb hlocks hC hP hS hr dX11_will_40
      · have hf := g_neg hf hc_5
        refine lv_iconst (v := (-1)) hx hb dX11_will_18 (by decide) ?_
        cases hf
        exact x_iret hx hb hlocks hC hP hS hr dX11_will_19
set_option maxRecDepth 100000 in
set_option maxHeartbeats 4000000 in
theorem ct_X11_will (l : Launch) (G : GP) (X M : SM) (τ : SL) (x1 : Int32) (x2 : Int32) {r0 : Int32} {X0 : SM} (hf : fn_X11_will x1 x2 X = some (r0, X0)) : Met l yX11_will (wz yX11_will cX11_will 3 (some .int)) rm_X11_will (va_Pc [.ref (G.2.1 11 0), .int x1, .int x2] (g_pw G (X, M, τ))) (va_Qi (fun r u => r = r0 ∧ u = (X0, M, τ)) (g_pw G) (g_A G)) 0 0 (g_A G) := by
  refine Met.ofW (cc := cX11_will) (maxL := 3) (ret := (some .int)) (by decide) rfl ?_
  intro p e s m args below meth c s₁ B hml hv
  obtain ⟨rfl, hC, hP⟩ := hv
  have C0 : g_mc p s m _ meth c RX11 cX11_will (some .int) 3 G := ⟨B.exec, B.bytes, B.returns, hml, findClass_of_methodNamed B.named, fun w h => atoms_spec (ws := wz yX11_will cX11_will 3 (some .int)) B.pre w (List.mem_cons_of_mem _ h), B.notSynchronized, hC⟩
  have hl := lv_entry ([.ref (G.2.1 11 0), .int x1, .int x2]) (n := 3) (Nat.le_of_ble_eq_true rfl)
  rw [lg_entry_eq]
  generalize (lg_sl ([.ref (G.2.1 11 0), .int x1, .int x2]) ++ List.replicate (3 - (lg_sl ([.ref (G.2.1 11 0), .int x1, .int x2])).length) Slot.unset).toArray = ls at hl ⊢
  exact wk_X11_will C0 x1 x2 X hf hP va_S.rf hl
abbrev rm_X11_wipe : Room := { frames := 4, cells := 0, slots := 0, locals := 85 }
def fn_X11_wipe (x1 : Int32) (X : SM) : Option (Int32 × SM) :=
  g_let (fn_X11_isThread x1) fun r_1 =>
  if r_1 = 0 then
  (some ((-1), X))
  else
  ((fn_X7_empty 0 x1 X).bind fun (r_4, X_5) =>
    some (r_4, X_5))
set_option maxRecDepth 100000 in
set_option maxHeartbeats 4000000 in
theorem wk_X11_wipe {p : Program} {l : Launch} {e : Env} {s : State} {m : MethodId} {args : Array Value} {below : List Frame} {meth : Method} {c : Code} {G : GP} {M : SM} {τ : SL} (C0 : g_mc p s m args meth c RX11 cX11_wipe (some .int) 2 G) {r0 : Int32} {X0 : SM} (x1 : Int32) (X : SM) (hf : fn_X11_wipe x1 X = some (r0, X0)) {H : Heap} {locs : List Loc} (hP : va_P G.1 g_cl (wd G (cb X M) τ) H) (hS : va_S (g_A G) s.heap H locs) {ls : Array Slot} (hl : lv_has ls 2 [(0, .ref (G.2.1 11 0)), (1, .int x1)]) : W p l e rm_X11_wipe s m args below meth c H locs 0 0 (MQ below (va_Qi (fun r u => r = r0 ∧ u = (X0, M, τ)) (g_pw G) (g_A G)) args s 0 0 (g_A G)) (F0 m 0 ls []) := by
  obtain ⟨hx, hb, hr, hml, hown, hts, hlocks, hC⟩ := id C0
  unfold fn_X11_wipe at hf
  refine lv_iload_n hx hb dX11_wipe_0 rfl (lv_at hl 1 rfl) ?_
  obtain ⟨r_1, hc_2, hf⟩ := g_letE hf
  refine x_calli (v := (X, M, τ)) (va_runS (As := [.int x1]) (rest := []) ⟨hx, hb, hml, hown, hts⟩ (ct_X11_isThread l G X M τ x1 hc_2) (cwS 1 hts gd_X11_56 rfl rfl rfl hd_X11_isThread ⟨Nat.le_of_ble_eq_true rfl, Nat.le_of_ble_eq_true rfl⟩) (x_pre (u := (X, M, τ)) hC hS hP) rfl rfl hl.1 rfl (lv_room (Nat.le_of_ble_eq_true rfl)) dX11_wipe_1 ⟨Nat.le_refl _, Nat.le_refl _⟩) hS (fun H locs hP hS => ?_)
  refine lv_if_eq (tgt := 18) hx hb dX11_wipe_4 (by decide) (fun hc_3 => ?_) (fun hc_3 => ?_)
  · have hf := g_pos hf hc_3
    refine lv_iconst (v := (-1)) hx hb dX11_wipe_18 (by decide) ?_
    cases hf
    exact x_iret hx hb hlocks hC hP hS hr dX11_wipe_19
  · have hf := g_neg hf hc_3
    refine lv_aload_n hx hb dX11_wipe_7 rfl (lv_at hl 0 rfl) ?_
    refine gt_11_2 hx hb hts hown hC hP Nat.zero_lt_one q2_0 dX11_wipe_8 ?_
    refine lv_iload_n hx hb dX11_wipe_11 rfl (lv_at hl 1 rfl) ?_
    obtain ⟨⟨r_4, X_5⟩, hc_6, hf⟩ := g_bindE hf
    refine x_calli (v := (X_5, M, τ)) (va_runV (As := [.int x1]) (rest := []) ⟨hx, hb, hml, hown, hts⟩ (ct_X7_empty l G X M τ 0 (by decide) x1 hc_6) (cwV 1 hts gd_X11_80 rfl rfl rfl hd_X7_empty ⟨Nat.le_of_ble_eq_true rfl, Nat.le_of_ble_eq_true rfl⟩) (x_preV (u := (X, M, τ)) (k := 7) (ci := 7) hC hS hP (by decide) rfl rfl) rfl rfl hl.1 rfl (lv_room (Nat.le_of_ble_eq_true rfl)) dX11_wipe_12 ⟨Nat.le_refl _, Nat.le_refl _⟩) hS (fun H locs hP hS => ?_)
    refine lv_goto (tgt := 19) hx hb dX11_wipe_15 (by decide) ?_
    cases hf
    exact x_iret hx hb hlocks hC hP hS hr dX11_wipe_19
set_option maxRecDepth 100000 in
set_option maxHeartbeats 4000000 in
theorem ct_X11_wipe (l : Launch) (G : GP) (X M : SM) (τ : SL) (x1 : Int32) {r0 : Int32} {X0 : SM} (hf : fn_X11_wipe x1 X = some (r0, X0)) : Met l yX11_wipe (wz yX11_wipe cX11_wipe 2 (some .int)) rm_X11_wipe (va_Pc [.ref (G.2.1 11 0), .int x1] (g_pw G (X, M, τ))) (va_Qi (fun r u => r = r0 ∧ u = (X0, M, τ)) (g_pw G) (g_A G)) 0 0 (g_A G) := by
  refine Met.ofW (cc := cX11_wipe) (maxL := 2) (ret := (some .int)) (by decide) rfl ?_
  intro p e s m args below meth c s₁ B hml hv
  obtain ⟨rfl, hC, hP⟩ := hv
  have C0 : g_mc p s m _ meth c RX11 cX11_wipe (some .int) 2 G := ⟨B.exec, B.bytes, B.returns, hml, findClass_of_methodNamed B.named, fun w h => atoms_spec (ws := wz yX11_wipe cX11_wipe 2 (some .int)) B.pre w (List.mem_cons_of_mem _ h), B.notSynchronized, hC⟩
  have hl := lv_entry ([.ref (G.2.1 11 0), .int x1]) (n := 2) (Nat.le_of_ble_eq_true rfl)
  rw [lg_entry_eq]
  generalize (lg_sl ([.ref (G.2.1 11 0), .int x1]) ++ List.replicate (2 - (lg_sl ([.ref (G.2.1 11 0), .int x1])).length) Slot.unset).toArray = ls at hl ⊢
  exact wk_X11_wipe C0 x1 X hf hP va_S.rf hl
abbrev rm_X9_stillToGoBack : Room := { frames := 1, cells := 0, slots := 0, locals := 21 }
def fn_X9_stillToGoBack (t0 : Nat) (x1 : Int32) (X : SM) : Option (Int32) :=
  g_let (fn_X1_has t0 x1 X) fun r_1 =>
  if r_1 = 0 then
  (some 0)
  else
  (if g_in x1 24 then
    if (X 33 t0 (x1.toNatClampNeg)) = 0 then
    (some 0)
    else
    (if g_in x1 24 then
      if g_in x1 24 then
      some ((X 17 t0 (x1.toNatClampNeg)) - (X 33 t0 (x1.toNatClampNeg)))
      else none
      else none)
    else none)
set_option maxRecDepth 100000 in
set_option maxHeartbeats 4000000 in
theorem wk_X9_stillToGoBack {p : Program} {l : Launch} {e : Env} {s : State} {m : MethodId} {args : Array Value} {below : List Frame} {meth : Method} {c : Code} {G : GP} {M : SM} {τ : SL} (C0 : g_mc p s m args meth c RX9 cX9_stillToGoBack (some .int) 2 G) {r0 : Int32} (t0 : Nat) (ht0 : t0 < 12) (x1 : Int32) (X : SM) (hf : fn_X9_stillToGoBack t0 x1 X = some r0) {H : Heap} {locs : List Loc} (hP : va_P G.1 g_cl (wd G (cb X M) τ) H) (hS : va_S (g_A G) s.heap H locs) {ls : Array Slot} (hl : lv_has ls 2 [(0, .ref (G.2.1 9 t0)), (1, .int x1)]) : W p l e rm_X9_stillToGoBack s m args below meth c H locs 0 0 (MQ below (va_Qi (fun r u => r = r0 ∧ u = (X, M, τ)) (g_pw G) (g_A G)) args s 0 0 (g_A G)) (F0 m 0 ls []) := by
  obtain ⟨hx, hb, hr, hml, hown, hts, hlocks, hC⟩ := id C0
  unfold fn_X9_stillToGoBack at hf
  refine lv_aload_n hx hb dX9_stillToGoBack_0 rfl (lv_at hl 0 rfl) ?_
  refine gt_9_1 hx hb hts hown hC hP ht0 q5_4 dX9_stillToGoBack_1 ?_
  refine lv_iload_n hx hb dX9_stillToGoBack_4 rfl (lv_at hl 1 rfl) ?_
  obtain ⟨r_1, hc_2, hf⟩ := g_letE hf
  refine x_calli (v := (X, M, τ)) (va_runV (As := [.int x1]) (rest := []) ⟨hx, hb, hml, hown, hts⟩ (ct_X1_has l G X M τ t0 ht0 x1 hc_2) (cwV 1 hts gd_X9_55 rfl rfl rfl hd_X1_has ⟨Nat.le_of_ble_eq_true rfl, Nat.le_of_ble_eq_true rfl⟩) (x_preV (u := (X, M, τ)) (k := 1) (ci := 1) hC hS hP ht0 rfl rfl) rfl rfl hl.1 rfl (lv_room (Nat.le_of_ble_eq_true rfl)) dX9_stillToGoBack_5 ⟨Nat.le_refl _, Nat.le_refl _⟩) hS (fun H locs hP hS => ?_)
  refine lv_if_eq (tgt := 20) hx hb dX9_stillToGoBack_8 (by decide) (fun hc_3 => ?_) (fun hc_3 => ?_)
  · have hf := g_pos hf hc_3
    refine lv_iconst (v := 0) hx hb dX9_stillToGoBack_20 (by decide) ?_
    cases hf
    exact x_iret hx hb hlocks hC hP hS hr dX9_stillToGoBack_21
  · have hf := g_neg hf hc_3
    refine lv_aload_n hx hb dX9_stillToGoBack_11 rfl (lv_at hl 0 rfl) ?_
    refine gt_9_5 hx hb hts hown hC hP ht0 q5_11 dX9_stillToGoBack_12 ?_
    refine lv_iload_n hx hb dX9_stillToGoBack_15 rfl (lv_at hl 1 rfl) ?_
    obtain ⟨hg_4, hf⟩ := g_gd hf
    refine xildX (k := 33) (n := 24) hx hb hC hP (fun _ _ => rfl) rfl ht0 hg_4 dX9_stillToGoBack_16 ?_
    refine lv_if_ne (tgt := 22) hx hb dX9_stillToGoBack_17 (by decide) (fun hc_5 => ?_) (fun hc_5 => ?_)
    · have hf := g_neg hf hc_5
      refine lv_aload_n hx hb dX9_stillToGoBack_22 rfl (lv_at hl 0 rfl) ?_
      refine gt_9_1 hx hb hts hown hC hP ht0 q5_4 dX9_stillToGoBack_23 ?_
      refine gt_1_1 hx hb hts hown hC hP ht0 q32_11 dX9_stillToGoBack_26 ?_
      refine lv_iload_n hx hb dX9_stillToGoBack_29 rfl (lv_at hl 1 rfl) ?_
      obtain ⟨hg_6, hf⟩ := g_gd hf
      refine xildX (k := 17) (n := 24) hx hb hC hP (fun _ _ => rfl) rfl ht0 hg_6 dX9_stillToGoBack_30 ?_
      refine lv_aload_n hx hb dX9_stillToGoBack_31 rfl (lv_at hl 0 rfl) ?_
      refine gt_9_5 hx hb hts hown hC hP ht0 q5_11 dX9_stillToGoBack_32 ?_
      refine lv_iload_n hx hb dX9_stillToGoBack_35 rfl (lv_at hl 1 rfl) ?_
      obtain ⟨hg_7, hf⟩ := g_gd hf
      refine xildX (k := 33) (n := 24) hx hb hC hP (fun _ _ => rfl) rfl ht0 hg_7 dX9_stillToGoBack_36 ?_
      refine lv_isub hx hb dX9_stillToGoBack_37 ?_
      cases hf
      exact x_iret hx hb hlocks hC hP hS hr dX9_stillToGoBack_38
    · have hf := g_pos hf hc_5
      refine lv_iconst (v := 0) hx hb dX9_stillToGoBack_20 (by decide) ?_
      cases hf
      exact x_iret hx hb hlocks hC hP hS hr dX9_stillToGoBack_21
set_option maxRecDepth 100000 in
set_option maxHeartbeats 4000000 in
theorem ct_X9_stillToGoBack (l : Launch) (G : GP) (X M : SM) (τ : SL) (t0 : Nat) (ht0 : t0 < 12) (x1 : Int32) {r0 : Int32} (hf : fn_X9_stillToGoBack t0 x1 X = some r0) : Met l yX9_stillToGoBack (wz yX9_stillToGoBack cX9_stillToGoBack 2 (some .int)) rm_X9_stillToGoBack (va_Pc [.ref (G.2.1 9 t0), .int x1] (g_pw G (X, M, τ))) (va_Qi (fun r u => r = r0 ∧ u = (X, M, τ)) (g_pw G) (g_A G)) 0 0 (g_A G) := by
  refine Met.ofW (cc := cX9_stillToGoBack) (maxL := 2) (ret := (some .int)) (by decide) rfl ?_
  intro p e s m args below meth c s₁ B hml hv
  obtain ⟨rfl, hC, hP⟩ := hv
  have C0 : g_mc p s m _ meth c RX9 cX9_stillToGoBack (some .int) 2 G := ⟨B.exec, B.bytes, B.returns, hml, findClass_of_methodNamed B.named, fun w h => atoms_spec (ws := wz yX9_stillToGoBack cX9_stillToGoBack 2 (some .int)) B.pre w (List.mem_cons_of_mem _ h), B.notSynchronized, hC⟩
  have hl := lv_entry ([.ref (G.2.1 9 t0), .int x1]) (n := 2) (Nat.le_of_ble_eq_true rfl)
  rw [lg_entry_eq]
  generalize (lg_sl ([.ref (G.2.1 9 t0), .int x1]) ++ List.replicate (2 - (lg_sl ([.ref (G.2.1 9 t0), .int x1])).length) Slot.unset).toArray = ls at hl ⊢
  exact wk_X9_stillToGoBack C0 t0 ht0 x1 X hf hP va_S.rf hl
