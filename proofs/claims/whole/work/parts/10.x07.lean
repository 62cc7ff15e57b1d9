abbrev rm_X2_isPlain : Room := { frames := 2, cells := 0, slots := 0, locals := 46 }
def wb_X2_isPlain_2 (k2 : Nat → Int32 → SM → Option (Int32)) (t1 : Nat) (x2 : Int32) (X : SM) : Option (Int32) :=
  if 24 ≤ x2 then
  (if (X 1 t1 4) ≤ 0 then
    (some 0)
    else
    (some 1))
  else
  (g_let (fn_X1_has t1 x2 X) fun r_3 =>
    if r_3 = 0 then
    (if (X 1 t1 4) ≤ 0 then
      (some 0)
      else
      (some 1))
    else
    (if g_in x2 24 then
      g_let ((X 16 t1 (x2.toNatClampNeg))) fun x3_8 =>
      g_let (fn_X2_isPlainKind x3_8) fun r_9 =>
      if r_9 = 0 then
      (some 0)
      else
      (if x3_8 = 7 then
        ((fn_X2_leapsWell t1 x2 X).bind fun r_13 =>
          if r_13 = 0 then
          (some 0)
          else
          (if x3_8 = 9 then
            ((fn_X2_nestsWell t1 x2 X).bind fun r_18 =>
              if r_18 = 0 then
              (some 0)
              else
              (g_let (x2 + 1) fun x2_21 =>
                k2 t1 x2_21 X))
            else
            (g_let (x2 + 1) fun x2_17 =>
              k2 t1 x2_17 X)))
        else
        (if x3_8 = 8 then
          ((fn_X2_leapsWell t1 x2 X).bind fun r_29 =>
            if r_29 = 0 then
            (some 0)
            else
            (if x3_8 = 9 then
              ((fn_X2_nestsWell t1 x2 X).bind fun r_34 =>
                if r_34 = 0 then
                (some 0)
                else
                (g_let (x2 + 1) fun x2_37 =>
                  k2 t1 x2_37 X))
              else
              (g_let (x2 + 1) fun x2_33 =>
                k2 t1 x2_33 X)))
          else
          (if x3_8 = 9 then
            ((fn_X2_nestsWell t1 x2 X).bind fun r_25 =>
              if r_25 = 0 then
              (some 0)
              else
              (g_let (x2 + 1) fun x2_28 =>
                k2 t1 x2_28 X))
            else
            (g_let (x2 + 1) fun x2_24 =>
              k2 t1 x2_24 X))))
      else none))
set_option maxRecDepth 100000 in
set_option maxHeartbeats 4000000 in
theorem bk_X2_isPlain_2 {p : Program} {l : Launch} {e : Env} {s : State} {m : MethodId} {args : Array Value} {below : List Frame} {meth : Method} {c : Code} {G : GP} {M : SM} {τ : SL} (C0 : g_mc p s m args meth c RX2 cX2_isPlain (some .boolean) 4 G) {r0 : Int32} (k2 : Nat → Int32 → SM → Option (Int32)) (hk2 : ∀ (t1 : Nat) (ht1 : t1 < 12) (x2 : Int32) (X : SM), k2 t1 x2 X = some r0 → ∀ {H : Heap} {locs : List Loc}, va_P G.1 g_cl (wd G (cb X M) τ) H → va_S (g_A G) s.heap H locs → ∀ {ls : Array Slot}, lv_has ls 4 [(1, .ref (G.2.1 1 t1)), (2, .int x2)] → W p l e rm_X2_isPlain s m args below meth c H locs 0 0 (MQ below (va_Qi (fun r u => r = r0 ∧ u = (X, M, τ)) (g_pw G) (g_A G)) args s 0 0 (g_A G)) (F0 m 2 ls [])) (t1 : Nat) (ht1 : t1 < 12) (x2 : Int32) (X : SM) (hf : wb_X2_isPlain_2 k2 t1 x2 X = some r0) {H : Heap} {locs : List Loc} (hP : va_P G.1 g_cl (wd G (cb X M) τ) H) (hS : va_S (g_A G) s.heap H locs) {ls : Array Slot} (hl : lv_has ls 4 [(1, .ref (G.2.1 1 t1)), (2, .int x2)]) : W p l e rm_X2_isPlain s m args below meth c H locs 0 0 (MQ below (va_Qi (fun r u => r = r0 ∧ u = (X, M, τ)) (g_pw G) (g_A G)) args s 0 0 (g_A G)) (F0 m 2 ls []) := by
  obtain ⟨hx, hb, hr, hml, hown, hts, hlocks, hC⟩ := id C0
  unfold wb_X2_isPlain_2 at hf
  refine lv_iload_n hx hb dX2_isPlain_2 rfl (lv_at hl 1 rfl) ?_
  refine lv_bipush (v := 24) hx hb dX2_isPlain_3 (by decide) ?_
  refine lv_icmp_ge (tgt := 76) hx hb dX2_isPlain_5 (by decide) (fun hc_1 => ?_) (fun hc_1 => ?_)
  · have hf := g_pos hf hc_1
    refine lv_aload_n hx hb dX2_isPlain_76 rfl (lv_at hl 0 rfl) ?_
    refine gt_1_4 hx hb hts hown hC hP ht1 q36_0 dX2_isPlain_77 ?_
    refine lv_if_le (tgt := 87) hx hb dX2_isPlain_80 (by decide) (fun hc_2 => ?_) (fun hc_2 => ?_)
    · have hf := g_pos hf hc_2
      refine lv_iconst (v := 0) hx hb dX2_isPlain_87 (by decide) ?_
      cases hf
      exact x_zret hx hb hlocks hC hP hS hr (Or.inl rfl) dX2_isPlain_88
    · have hf := g_neg hf hc_2
      refine lv_iconst (v := 1) hx hb dX2_isPlain_83 (by decide) ?_
      refine lv_goto (tgt := 88) hx hb dX2_isPlain_84 (by decide) ?_
      cases hf
      exact x_zret hx hb hlocks hC hP hS hr (Or.inr rfl) dX2_isPlain_88
  · have hf := g_neg hf hc_1
    refine lv_aload_n hx hb dX2_isPlain_8 rfl (lv_at hl 0 rfl) ?_
    refine lv_iload_n hx hb dX2_isPlain_9 rfl (lv_at hl 1 rfl) ?_
    obtain ⟨r_3, hc_4, hf⟩ := g_letE hf
    refine x_calli (v := (X, M, τ)) (va_runV (As := [.int x2]) (rest := []) ⟨hx, hb, hml, hown, hts⟩ (ct_X1_has l G X M τ t1 ht1 x2 hc_4) (cwV 1 hts gd_X2_15 rfl rfl rfl hd_X1_has ⟨Nat.le_of_ble_eq_true rfl, Nat.le_of_ble_eq_true rfl⟩) (x_preV (u := (X, M, τ)) (k := 1) (ci := 1) hC hS hP ht1 rfl rfl) rfl rfl hl.1 rfl (lv_room (Nat.le_of_ble_eq_true rfl)) dX2_isPlain_10 ⟨Nat.zero_le _, Nat.zero_le _⟩) hS (fun H locs hP hS => ?_)
    refine lv_if_eq (tgt := 76) hx hb dX2_isPlain_13 (by decide) (fun hc_5 => ?_) (fun hc_5 => ?_)
    · have hf := g_pos hf hc_5
      refine lv_aload_n hx hb dX2_isPlain_76 rfl (lv_at hl 0 rfl) ?_
      refine gt_1_4 hx hb hts hown hC hP ht1 q36_0 dX2_isPlain_77 ?_
      refine lv_if_le (tgt := 87) hx hb dX2_isPlain_80 (by decide) (fun hc_6 => ?_) (fun hc_6 => ?_)
      · have hf := g_pos hf hc_6
        refine lv_iconst (v := 0) hx hb dX2_isPlain_87 (by decide) ?_
        cases hf
        exact x_zret hx hb hlocks hC hP hS hr (Or.inl rfl) dX2_isPlain_88
      · have hf := g_neg hf hc_6
        refine lv_iconst (v := 1) hx hb dX2_isPlain_83 (by decide) ?_
        refine lv_goto (tgt := 88) hx hb dX2_isPlain_84 (by decide) ?_
        cases hf
        exact x_zret hx hb hlocks hC hP hS hr (Or.inr rfl) dX2_isPlain_88
    · have hf := g_neg hf hc_5
      refine lv_aload_n hx hb dX2_isPlain_16 rfl (lv_at hl 0 rfl) ?_
      refine gt_1_0 hx hb hts hown hC hP ht1 q35_23 dX2_isPlain_17 ?_
      refine lv_iload_n hx hb dX2_isPlain_20 rfl (lv_at hl 1 rfl) ?_
      obtain ⟨hg_7, hf⟩ := g_gd hf
      refine xildX (k := 16) (n := 24) hx hb hC hP (fun _ _ => rfl) rfl ht1 hg_7 dX2_isPlain_21 ?_
      obtain ⟨x3_8, ex3_8, hf⟩ := g_letE hf
      refine lv_topE ex3_8 ?_
      refine lv_istore_n (lv' := [(3, .int x3_8), (1, .ref (G.2.1 1 t1)), (2, .int x2)]) hx hb dX2_isPlain_22 rfl hl (by decide) rfl (fun ls hl => ?_)
      refine lv_iload_n hx hb dX2_isPlain_23 rfl (lv_at hl 0 rfl) ?_
      obtain ⟨r_9, hc_10, hf⟩ := g_letE hf
      refine x_calli (v := (X, M, τ)) (va_runS (As := [.int x3_8]) (rest := []) ⟨hx, hb, hml, hown, hts⟩ (ct_X2_isPlainKind l G X M τ x3_8 hc_10) (cwS 1 hts gd_X2_24 rfl rfl rfl hd_X2_isPlainKind ⟨Nat.le_of_ble_eq_true rfl, Nat.le_of_ble_eq_true rfl⟩) (x_pre (u := (X, M, τ)) hC hS hP) rfl rfl hl.1 rfl (lv_room (Nat.le_of_ble_eq_true rfl)) dX2_isPlain_24 ⟨Nat.zero_le _, Nat.zero_le _⟩) hS (fun H locs hP hS => ?_)
      refine lv_if_ne (tgt := 32) hx hb dX2_isPlain_27 (by decide) (fun hc_11 => ?_) (fun hc_11 => ?_)
      · have hf := g_neg hf hc_11
        refine lv_iload_n hx hb dX2_isPlain_32 rfl (lv_at hl 0 rfl) ?_
        refine lv_bipush (v := 7) hx hb dX2_isPlain_33 (by decide) ?_
        refine lv_icmp_eq (tgt := 44) hx hb dX2_isPlain_35 (by decide) (fun hc_12 => ?_) (fun hc_12 => ?_)
        · have hf := g_pos hf hc_12
          refine lv_aload_n hx hb dX2_isPlain_44 rfl (lv_at hl 1 rfl) ?_
          refine lv_iload_n hx hb dX2_isPlain_45 rfl (lv_at hl 2 rfl) ?_
          obtain ⟨r_13, hc_14, hf⟩ := g_bindE hf
          refine x_calli (v := (X, M, τ)) (va_runS (As := [.ref (G.2.1 1 t1), .int x2]) (rest := []) ⟨hx, hb, hml, hown, hts⟩ (ct_X2_leapsWell l G X M τ t1 ht1 x2 hc_14) (cwS 2 hts gd_X2_27 rfl rfl rfl hd_X2_leapsWell ⟨Nat.le_of_ble_eq_true rfl, Nat.le_of_ble_eq_true rfl⟩) (x_pre (u := (X, M, τ)) hC hS hP) rfl rfl hl.1 rfl (lv_room (Nat.le_of_ble_eq_true rfl)) dX2_isPlain_46 ⟨Nat.zero_le _, Nat.zero_le _⟩) hS (fun H locs hP hS => ?_)
          refine lv_if_ne (tgt := 54) hx hb dX2_isPlain_49 (by decide) (fun hc_15 => ?_) (fun hc_15 => ?_)
          · have hf := g_neg hf hc_15
            refine lv_iload_n hx hb dX2_isPlain_54 rfl (lv_at hl 0 rfl) ?_
            refine lv_bipush (v := 9) hx hb dX2_isPlain_55 (by decide) ?_
            refine lv_icmp_ne (tgt := 70) hx hb dX2_isPlain_57 (by decide) (fun hc_16 => ?_) (fun hc_16 => ?_)
            · have hf := g_neg hf hc_16
              obtain ⟨x2_17, ex2_17, hf⟩ := g_letE hf
              refine lv_iinc (v := x2_17) (lv' := [(2, .int x2_17), (3, .int x3_8), (1, .ref (G.2.1 1 t1))]) hx hb dX2_isPlain_70 hl (k := 2) rfl (by rw [← ex2_17]; rfl) (by decide) rfl (fun ls hl => ?_)
              refine lv_goto (tgt := 2) hx hb dX2_isPlain_73 (by decide) ?_
              exact hk2 t1 ht1 x2_17 X hf hP hS (lv_sub hl [2, 0] rfl)
            · have hf := g_pos hf hc_16
              refine lv_aload_n hx hb dX2_isPlain_60 rfl (lv_at hl 1 rfl) ?_
              refine lv_iload_n hx hb dX2_isPlain_61 rfl (lv_at hl 2 rfl) ?_
              obtain ⟨r_18, hc_19, hf⟩ := g_bindE hf
              refine x_calli (v := (X, M, τ)) (va_runS (As := [.ref (G.2.1 1 t1), .int x2]) (rest := []) ⟨hx, hb, hml, hown, hts⟩ (ct_X2_nestsWell l G X M τ t1 ht1 x2 hc_19) (cwS 2 hts gd_X2_31 rfl rfl rfl hd_X2_nestsWell ⟨Nat.le_of_ble_eq_true rfl, Nat.le_of_ble_eq_true rfl⟩) (x_pre (u := (X, M, τ)) hC hS hP) rfl rfl hl.1 rfl (lv_room (Nat.le_of_ble_eq_true rfl)) dX2_isPlain_62 ⟨Nat.zero_le _, Nat.zero_le _⟩) hS (fun H locs hP hS => ?_)
              refine lv_if_ne (tgt := 70) hx hb dX2_isPlain_65 (by decide) (fun hc_20 => ?_) (fun hc_20 => ?_)
              · have hf := g_neg hf hc_20
                obtain ⟨x2_21, ex2_21, hf⟩ := g_letE hf
                refine lv_iinc (v := x2_21) (lv' := [(2, .int x2_21), (3, .int x3_8), (1, .ref (G.2.1 1 t1))]) hx hb dX2_isPlain_70 hl (k := 2) rfl (by rw [← ex2_21]; rfl) (by decide) rfl (fun ls hl => ?_)
                refine lv_goto (tgt := 2) hx hb dX2_isPlain_73 (by decide) ?_
                exact hk2 t1 ht1 x2_21 X hf hP hS (lv_sub hl [2, 0] rfl)
              · have hf := g_pos hf hc_20
                refine lv_iconst (v := 0) hx hb dX2_isPlain_68 (by decide) ?_
                cases hf
                exact x_zret hx hb hlocks hC hP hS hr (Or.inl rfl) dX2_isPlain_69
          · have hf := g_pos hf hc_15
            refine lv_iconst (v := 0) hx hb dX2_isPlain_52 (by decide) ?_
            cases hf
            exact x_zret hx hb hlocks hC hP hS hr (Or.inl rfl) dX2_isPlain_53
        · have hf := g_neg hf hc_12
          refine lv_iload_n hx hb dX2_isPlain_38 rfl (lv_at hl 0 rfl) ?_
          refine lv_bipush (v := 8) hx hb dX2_isPlain_39 (by decide) ?_
          refine lv_icmp_ne (tgt := 54) hx hb dX2_isPlain_41 (by decide) (fun hc_22 => ?_) (fun hc_22 => ?_)
          · have hf := g_neg hf hc_22
            refine lv_iload_n hx hb dX2_isPlain_54 rfl (lv_at hl 0 rfl) ?_
            refine lv_bipush (v := 9) hx hb dX2_isPlain_55 (by decide) ?_
            refine lv_icmp_ne (tgt := 70) hx hb dX2_isPlain_57 (by decide) (fun hc_23 => ?_) (fun hc_23 => ?_)
            · have hf := g_neg hf hc_23
              obtain ⟨x2_24, ex2_24, hf⟩ := g_letE hf
              refine lv_iinc (v := x2_24) (lv' := [(2, .int x2_24), (3, .int x3_8), (1, .ref (G.2.1 1 t1))]) hx hb dX2_isPlain_70 hl (k := 2) rfl (by rw [← ex2_24]; rfl) (by decide) rfl (fun ls hl => ?_)
              refine lv_goto (tgt := 2) hx hb dX2_isPlain_73 (by decide) ?_
              exact hk2 t1 ht1 x2_24 X hf hP hS (lv_sub hl [2, 0] rfl)
            · have hf := g_pos hf hc_23
              refine lv_aload_n hx hb dX2_isPlain_60 rfl (lv_at hl 1 rfl) ?_
              refine lv_iload_n hx hb dX2_isPlain_61 rfl (lv_at hl 2 rfl) ?_
              obtain ⟨r_25, hc_26, hf⟩ := g_bindE hf
              refine x_calli (v := (X, M, τ)) (va_runS (As := [.ref (G.2.1 1 t1), .int x2]) (rest := []) ⟨hx, hb, hml, hown, hts⟩ (ct_X2_nestsWell l G X M τ t1 ht1 x2 hc_26) (cwS 2 hts gd_X2_31 rfl rfl rfl hd_X2_nestsWell ⟨Nat.le_of_ble_eq_true rfl, Nat.le_of_ble_eq_true rfl⟩) (x_pre (u := (X, M, τ)) hC hS hP) rfl rfl hl.1 rfl (lv_room (Nat.le_of_ble_eq_true rfl)) dX2_isPlain_62 ⟨Nat.zero_le _, Nat.zero_le _⟩) hS (fun H locs hP hS => ?_)
              refine lv_if_ne (tgt := 70) hx hb dX2_isPlain_65 (by decide) (fun hc_27 => ?_) (fun hc_27 => ?_)
              · have hf := g_neg hf hc_27
                obtain ⟨x2_28, ex2_28, hf⟩ := g_letE hf
                refine lv_iinc (v := x2_28) (lv' := [(2, .int x2_28), (3, .int x3_8), (1, .ref (G.2.1 1 t1))]) hx hb dX2_isPlain_70 hl (k := 2) rfl (by rw [← ex2_28]; rfl) (by decide) rfl (fun ls hl => ?_)
                refine lv_goto (tgt := 2) hx hb dX2_isPlain_73 (by decide) ?_
                exact hk2 t1 ht1 x2_28 X hf hP hS (lv_sub hl [2, 0] rfl)
              · have hf := g_pos hf hc_27
                refine lv_iconst (v := 0) hx hb dX2_isPlain_68 (by decide) ?_
                cases hf
                exact x_zret hx hb hlocks hC hP hS hr (Or.inl rfl) dX2_isPlain_69
          · have hf := g_pos hf hc_22
            refine lv_aload_n hx hb dX2_isPlain_44 rfl (lv_at hl 1 rfl) ?_
            refine lv_iload_n hx hb dX2_isPlain_45 rfl (lv_at hl 2 rfl) ?_
            obtain ⟨r_29, hc_30, hf⟩ := g_bindE hf
            refine x_calli (v := (X, M, τ)) (va_runS (As := [.ref (G.2.1 1 t1), .int x2]) (rest := []) ⟨hx, hb, hml, hown, hts⟩ (ct_X2_leapsWell l G X M τ t1 ht1 x2 hc_30) (cwS 2 hts gd_X2_27 rfl rfl rfl hd_X2_leapsWell ⟨Nat.le_of_ble_eq_true rfl, Nat.le_of_ble_eq_true rfl⟩) (x_pre (u := (X, M, τ)) hC hS hP) rfl rfl hl.1 rfl (lv_room (Nat.le_of_ble_eq_true rfl)) dX2_isPlain_46 ⟨Nat.zero_le _, Nat.zero_le _⟩) hS (fun H locs hP hS => ?_)
            refine lv_if_ne (tgt := 54) hx hb dX2_isPlain_49 (by decide) (fun hc_31 => ?_) (fun hc_31 => ?_)
            · have hf := g_neg hf hc_31
              refine lv_iload_n hx hb dX2_isPlain_54 rfl (lv_at hl 0 rfl) ?_
              refine lv_bipush (v := 9) hx hb dX2_isPlain_55 (by decide) ?_
              refine lv_icmp_ne (tgt := 70) hx hb dX2_isPlain_57 (by decide) (fun hc_32 => ?_) (fun hc_32 => ?_)
              · have hf := g_neg hf hc_32
                obtain ⟨x2_33, ex2_33, hf⟩ := g_letE hf
                refine lv_iinc (v := x2_33) (lv' := [(2, .int x2_33), (3, .int x3_8), (1, .ref (G.2.1 1 t1))]) hx hb dX2_isPlain_70 hl (k := 2) rfl (by rw [← ex2_33]; rfl) (by decide) rfl (fun ls hl => ?_)
                refine lv_goto (tgt := 2) hx hb dX2_isPlain_73 (by decide) ?_
                exact hk2 t1 ht1 x2_33 X hf hP hS (lv_sub hl [2, 0] rfl)
              · have hf := g_pos hf hc_32
                refine lv_aload_n hx hb dX2_isPlain_60 rfl (lv_at hl 1 rfl) ?_
                refine lv_iload_n hx hb dX2_isPlain_61 rfl (lv_at hl 2 rfl) ?_
                obtain ⟨r_34, hc_35, hf⟩ := g_bindE hf
                refine x_calli (v := (X, M, τ)) (va_runS (As := [.ref (G.2.1 1 t1), .int x2]) (rest := []) ⟨hx, hb, hml, hown, hts⟩ (ct_X2_nestsWell l G X M τ t1 ht1 x2 hc_35) (cwS 2 hts gd_X2_31 rfl rfl rfl hd_X2_nestsWell ⟨Nat.le_of_ble_eq_true rfl, Nat.le_of_ble_eq_true rfl⟩) (x_pre (u := (X, M, τ)) hC hS hP) rfl rfl hl.1 rfl (lv_room (Nat.le_of_ble_eq_true rfl)) dX2_isPlain_62 ⟨Nat.zero_le _, Nat.zero_le _⟩) hS (fun H locs hP hS => ?_)
                refine lv_if_ne (tgt := 70) hx hb dX2_isPlain_65 (by decide) (fun hc_36 => ?_) (fun hc_36 => ?_)
                · have hf := g_neg hf hc_36
                  obtain ⟨x2_37, ex2_37, hf⟩ := g_letE hf
                  refine lv_iinc (v := x2_37) (lv' := [(2, .int x2_37), (3, .int x3_8), (1, .ref (G.2.1 1 t1))]) hx hb dX2_isPlain_70 hl (k := 2) rfl (by rw [← ex2_37]; rfl) (by decide) rfl (fun ls hl => ?_)
                  refine lv_goto (tgt := 2) hx hb dX2_isPlain_73 (by decide) ?_
                  exact hk2 t1 ht1 x2_37 X hf hP hS (lv_sub hl [2, 0] rfl)
                · have hf := g_pos hf hc_36
                  refine lv_iconst (v := 0) hx hb dX2_isPlain_68 (by decide) ?_
                  cases hf
                  exact x_zret hx hb hlocks hC hP hS hr (Or.inl rfl) dX2_isPlain_69
            · have hf := g_pos hf hc_31
              refine lv_iconst (v := 0) hx hb dX2_isPlain_52 (by decide) ?_
              cases hf
              exact x_zret hx hb hlocks hC hP hS hr (Or.inl rfl) dX2_isPlain_53
      · have hf := g_pos hf hc_11
        refine lv_iconst (v := 0) hx hb dX2_isPlain_30 (by decide) ?_
        cases hf
        exact x_zret hx hb hlocks hC hP hS hr (Or.inl rfl) dX2_isPlain_31
def wl_X2_isPlain_2 (n : Nat) (t1 : Nat) (x2 : Int32) (X : SM) : Option (Int32) := g_loop (α := Nat × Int32 × SM) (fun k a => wb_X2_isPlain_2 (fun t1 x2 X => k (t1, x2, X)) a.1 a.2.1 a.2.2) n (t1, x2, X)
set_option maxRecDepth 100000 in
set_option maxHeartbeats 4000000 in
theorem lp_X2_isPlain_2 {p : Program} {l : Launch} {e : Env} {s : State} {m : MethodId} {args : Array Value} {below : List Frame} {meth : Method} {c : Code} {G : GP} {M : SM} {τ : SL} (C0 : g_mc p s m args meth c RX2 cX2_isPlain (some .boolean) 4 G) {r0 : Int32} (n : Nat) : ∀ (t1 : Nat) (ht1 : t1 < 12) (x2 : Int32) (X : SM), wl_X2_isPlain_2 n t1 x2 X = some r0 → ∀ {H : Heap} {locs : List Loc}, va_P G.1 g_cl (wd G (cb X M) τ) H → va_S (g_A G) s.heap H locs → ∀ {ls : Array Slot}, lv_has ls 4 [(1, .ref (G.2.1 1 t1)), (2, .int x2)] → W p l e rm_X2_isPlain s m args below meth c H locs 0 0 (MQ below (va_Qi (fun r u => r = r0 ∧ u = (X, M, τ)) (g_pw G) (g_A G)) args s 0 0 (g_A G)) (F0 m 2 ls []) := by
  induction n with
  | zero =>
    intro t1 ht1 x2 X hf
    have hf : (none : Option (Int32)) = _ := hf
    cases hf
  | succ n ih =>
    intro t1 ht1 x2 X hf H locs hP hS ls hl
    exact bk_X2_isPlain_2 C0   (fun t1 x2 X => wl_X2_isPlain_2   n t1 x2 X) ih t1 ht1 x2 X hf hP hS hl
def fn_X2_isPlain (t1 : Nat) (X : SM) : Option (Int32) :=
  wl_X2_isPlain_2 1000 t1 0 X
set_option maxRecDepth 100000 in
set_option maxHeartbeats 4000000 in
theorem wk_X2_isPlain {p : Program} {l : Launch} {e : Env} {s : State} {m : MethodId} {args : Array Value} {below : List Frame} {meth : Method} {c : Code} {G : GP} {M : SM} {τ : SL} (C0 : g_mc p s m args meth c RX2 cX2_isPlain (some .boolean) 4 G) {r0 : Int32} (t1 : Nat) (ht1 : t1 < 12) (X : SM) (hf : fn_X2_isPlain t1 X = some r0) {H : Heap} {locs : List Loc} (hP : va_P G.1 g_cl (wd G (cb X M) τ) H) (hS : va_S (g_A G) s.heap H locs) {ls : Array Slot} (hl : lv_has ls 4 [(0, .ref (G.2.1 2 0)), (1, .ref (G.2.1 1 t1))]) : W p l e rm_X2_isPlain s m args below meth c H locs 0 0 (MQ below (va_Qi (fun r u => r = r0 ∧ u = (X, M, τ)) (g_pw G) (g_A G)) args s 0 0 (g_A G)) (F0 m 0 ls []) := by
  obtain ⟨hx, hb, hr, hml, hown, hts, hlocks, hC⟩ := id C0
  unfold fn_X2_isPlain at hf
  refine lv_iconst (v := 0) hx hb dX2_isPlain_0 (by decide) ?_
  refine lv_istore_n (lv' := [(2, .int 0), (0, .ref (G.2.1 2 0)), (1, .ref (G.2.1 1 t1))]) hx hb dX2_isPlain_1 rfl hl (by decide) rfl (fun ls hl => ?_)
  exact lp_X2_isPlain_2 C0 1000 t1 ht1 0 X hf hP hS (lv_sub hl [2, 0] rfl)
set_option maxRecDepth 100000 in
set_option maxHeartbeats 4000000 in
theorem ct_X2_isPlain (l : Launch) (G : GP) (X M : SM) (τ : SL) (t1 : Nat) (ht1 : t1 < 12) {r0 : Int32} (hf : fn_X2_isPlain t1 X = some r0) : Met l yX2_isPlain (wz yX2_isPlain cX2_isPlain 4 (some .boolean)) rm_X2_isPlain (va_Pc [.ref (G.2.1 2 0), .ref (G.2.1 1 t1)] (g_pw G (X, M, τ))) (va_Qi (fun r u => r = r0 ∧ u = (X, M, τ)) (g_pw G) (g_A G)) 0 0 (g_A G) := by
  refine Met.ofW (cc := cX2_isPlain) (maxL := 4) (ret := (some .boolean)) (by decide +kernel) rfl ?_
  intro p e s m args below meth c s₁ B hml hv
  obtain ⟨rfl, hC, hP⟩ := hv
  have C0 : g_mc p s m _ meth c RX2 cX2_isPlain (some .boolean) 4 G := ⟨B.exec, B.bytes, B.returns, hml, findClass_of_methodNamed B.named, fun w h => atoms_spec (ws := wz yX2_isPlain cX2_isPlain 4 (some .boolean)) B.pre w (List.mem_cons_of_mem _ h), B.notSynchronized, hC⟩
  have hl := lv_entry ([.ref (G.2.1 2 0), .ref (G.2.1 1 t1)]) (n := 4) (Nat.le_of_ble_eq_true rfl)
  rw [lg_entry_eq]
  generalize (lg_sl ([.ref (G.2.1 2 0), .ref (G.2.1 1 t1)]) ++ List.replicate (4 - (lg_sl ([.ref (G.2.1 2 0), .ref (G.2.1 1 t1)])).length) Slot.unset).toArray = ls at hl ⊢
  exact wk_X2_isPlain C0  t1 ht1 X hf hP va_S.rf hl
abbrev rm_X2_behindLoop : Room := { frames := 0, cells := 0, slots := 0, locals := 0 }
def fn_X2_behindLoop (t1 : Nat) (x2 : Int32) (X : SM) : Option (Int32) :=
  if g_in x2 24 then
  g_let ((X 18 t1 (x2.toNatClampNeg))) fun x3_2 =>
  if x3_2 < 0 then
  (if g_in x2 25 then
    some ((X 20 0 (x2.toNatClampNeg)) + 1)
    else none)
  else
  (if x3_2 ≤ x2 then
    (if g_in x2 25 then
      if g_in x3_2 25 then
      g_let ((((X 20 0 (x2.toNatClampNeg)) - (X 20 0 (x3_2.toNatClampNeg))) + 1)) fun x4_8 =>
      if g_in x3_2 25 then
      if g_in x2 24 then
      some ((X 20 0 (x3_2.toNatClampNeg)) + (((X 17 t1 (x2.toNatClampNeg)) + 1) * x4_8))
      else none
      else none
      else none
      else none)
    else
    (if g_in x2 25 then
      some ((X 20 0 (x2.toNatClampNeg)) + 1)
      else none))
  else none
set_option maxRecDepth 100000 in
set_option maxHeartbeats 4000000 in
theorem wk_X2_behindLoop {p : Program} {l : Launch} {e : Env} {s : State} {m : MethodId} {args : Array Value} {below : List Frame} {meth : Method} {c : Code} {G : GP} {M : SM} {τ : SL} (C0 : g_mc p s m args meth c RX2 cX2_behindLoop (some .int) 5 G) {r0 : Int32} (t1 : Nat) (ht1 : t1 < 12) (x2 : Int32) (X : SM) (hf : fn_X2_behindLoop t1 x2 X = some r0) {H : Heap} {locs : List Loc} (hP : va_P G.1 g_cl (wd G (cb X M) τ) H) (hS : va_S (g_A G) s.heap H locs) {ls : Array Slot} (hl : lv_has ls 5 [(0, .ref (G.2.1 2 0)), (1, .ref (G.2.1 1 t1)), (2, .int x2)]) : W p l e rm_X2_behindLoop s m args below meth c H locs 0 0 (MQ below (va_Qi (fun r u => r = r0 ∧ u = (X, M, τ)) (g_pw G) (g_A G)) args s 0 0 (g_A G)) (F0 m 0 ls []) := by
  obtain ⟨hx, hb, hr, hml, hown, hts, hlocks, hC⟩ := id C0
  unfold fn_X2_behindLoop at hf
  refine lv_aload_n hx hb dX2_behindLoop_0 rfl (lv_at hl 1 rfl) ?_
  refine gt_1_2 hx hb hts hown hC hP ht1 q36_8 dX2_behindLoop_1 ?_
  refine lv_iload_n hx hb dX2_behindLoop_4 rfl (lv_at hl 2 rfl) ?_
  obtain ⟨hg_1, hf⟩ := g_gd hf
  refine xildX (k := 18) (n := 24) hx hb hC hP (fun _ _ => rfl) rfl ht1 hg_1 dX2_behindLoop_5 ?_
  obtain ⟨x3_2, ex3_2, hf⟩ := g_letE hf
  refine lv_topE ex3_2 ?_
  refine lv_istore_n (lv' := [(3, .int x3_2), (0, .ref (G.2.1 2 0)), (1, .ref (G.2.1 1 t1)), (2, .int x2)]) hx hb dX2_behindLoop_6 rfl hl (by decide) rfl (fun ls hl => ?_)
  refine lv_iload_n hx hb dX2_behindLoop_7 rfl (lv_at hl 0 rfl) ?_
  refine lv_if_lt (tgt := 16) hx hb dX2_behindLoop_8 (by decide) (fun hc_3 => ?_) (fun hc_3 => ?_)
  · have hf := g_pos hf hc_3
    refine lv_aload_n hx hb dX2_behindLoop_16 rfl (lv_at hl 1 rfl) ?_
    refine gt_2_0 hx hb hts hown hC hP Nat.zero_lt_one q6_6 dX2_behindLoop_17 ?_
    refine lv_iload_n hx hb dX2_behindLoop_20 rfl (lv_at hl 3 rfl) ?_
    obtain ⟨hg_4, hf⟩ := g_gd hf
    refine xildX (k := 20) (n := 25) hx hb hC hP (fun _ _ => rfl) rfl Nat.zero_lt_one hg_4 dX2_behindLoop_21 ?_
    refine lv_iconst (v := 1) hx hb dX2_behindLoop_22 (by decide) ?_
    refine lv_iadd hx hb dX2_behindLoop_23 ?_
    cases hf
    exact x_iret hx hb hlocks hC hP hS hr dX2_behindLoop_24
  · have hf := g_neg hf hc_3
    refine lv_iload_n hx hb dX2_behindLoop_11 rfl (lv_at hl 0 rfl) ?_
    refine lv_iload_n hx hb dX2_behindLoop_12 rfl (lv_at hl 3 rfl) ?_
    refine lv_icmp_le (tgt := 25) hx hb dX2_behindLoop_13 (by decide) (fun hc_5 => ?_) (fun hc_5 => ?_)
    · have hf := g_pos hf hc_5
      refine lv_aload_n hx hb dX2_behindLoop_25 rfl (lv_at hl 1 rfl) ?_
      refine gt_2_0 hx hb hts hown hC hP Nat.zero_lt_one q6_6 dX2_behindLoop_26 ?_
      refine lv_iload_n hx hb dX2_behindLoop_29 rfl (lv_at hl 3 rfl) ?_
      obtain ⟨hg_6, hf⟩ := g_gd hf
      refine xildX (k := 20) (n := 25) hx hb hC hP (fun _ _ => rfl) rfl Nat.zero_lt_one hg_6 dX2_behindLoop_30 ?_
      refine lv_aload_n hx hb dX2_behindLoop_31 rfl (lv_at hl 1 rfl) ?_
      refine gt_2_0 hx hb hts hown hC hP Nat.zero_lt_one q6_6 dX2_behindLoop_32 ?_
      refine lv_iload_n hx hb dX2_behindLoop_35 rfl (lv_at hl 0 rfl) ?_
      obtain ⟨hg_7, hf⟩ := g_gd hf
      refine xildX (k := 20) (n := 25) hx hb hC hP (fun _ _ => rfl) rfl Nat.zero_lt_one hg_7 dX2_behindLoop_36 ?_
      refine lv_isub hx hb dX2_behindLoop_37 ?_
      refine lv_iconst (v := 1) hx hb dX2_behindLoop_38 (by decide) ?_
      refine lv_iadd hx hb dX2_behindLoop_39 ?_
      obtain ⟨x4_8, ex4_8, hf⟩ := g_letE hf
      refine lv_topE ex4_8 ?_
      refine lv_istore (lv' := [(4, .int x4_8), (3, .int x3_2), (0, .ref (G.2.1 2 0)), (1, .ref (G.2.1 1 t1)), (2, .int x2)]) hx hb dX2_behindLoop_40 hl (by decide) rfl (fun ls hl => ?_)
      refine lv_aload_n hx hb dX2_behindLoop_42 rfl (lv_at hl 2 rfl) ?_
      refine gt_2_0 hx hb hts hown hC hP Nat.zero_lt_one q6_6 dX2_behindLoop_43 ?_
      refine lv_iload_n hx hb dX2_behindLoop_46 rfl (lv_at hl 1 rfl) ?_
      obtain ⟨hg_9, hf⟩ := g_gd hf
      refine xildX (k := 20) (n := 25) hx hb hC hP (fun _ _ => rfl) rfl Nat.zero_lt_one hg_9 dX2_behindLoop_47 ?_
      refine lv_aload_n hx hb dX2_behindLoop_48 rfl (lv_at hl 3 rfl) ?_
      refine gt_1_1 hx hb hts hown hC hP ht1 q37_1 dX2_behindLoop_49 ?_
      refine lv_iload_n hx hb dX2_behindLoop_52 rfl (lv_at hl 4 rfl) ?_
      obtain ⟨hg_10, hf⟩ := g_gd hf
      refine xildX (k := 17) (n := 24) hx hb hC hP (fun _ _ => rfl) rfl ht1 hg_10 dX2_behindLoop_53 ?_
      refine lv_iconst (v := 1) hx hb dX2_behindLoop_54 (by decide) ?_
      refine lv_iadd hx hb dX2_behindLoop_55 ?_
      refine lv_iload hx hb dX2_behindLoop_56 (lv_at hl 0 rfl) ?_
      refine lv_imul hx hb dX2_behindLoop_58 ?_
      refine lv_iadd hx hb dX2_behindLoop_59 ?_
      cases hf
      exact x_iret hx hb hlocks hC hP hS hr dX2_behindLoop_60
    · have hf := g_neg hf hc_5
      refine lv_aload_n hx hb dX2_behindLoop_16 rfl (lv_at hl 1 rfl) ?_
      refine gt_2_0 hx hb hts hown hC hP Nat.zero_lt_one q6_6 dX2_behindLoop_17 ?_
      refine lv_iload_n hx hb dX2_behindLoop_20 rfl (lv_at hl 3 rfl) ?_
      obtain ⟨hg_11, hf⟩ := g_gd hf
      refine xildX (k := 20) (n := 25) hx hb hC hP (fun _ _ => rfl) rfl Nat.zero_lt_one hg_11 dX2_behindLoop_21 ?_
      refine lv_iconst (v := 1) hx hb dX2_behindLoop_22 (by decide) ?_
      refine lv_iadd hx hb dX2_behindLoop_23 ?_
      cases hf
      exact x_iret hx hb hlocks hC hP hS hr dX2_behindLoop_24
set_option maxRecDepth 100000 in
set_option maxHeartbeats 4000000 in
theorem ct_X2_behindLoop (l : Launch) (G : GP) (X M : SM) (τ : SL) (t1 : Nat) (ht1 : t1 < 12) (x2 : Int32) {r0 : Int32} (hf : fn_X2_behindLoop t1 x2 X = some r0) : Met l yX2_behindLoop (wz yX2_behindLoop cX2_behindLoop 5 (some .int)) rm_X2_behindLoop (va_Pc [.ref (G.2.1 2 0), .ref (G.2.1 1 t1), .int x2] (g_pw G (X, M, τ))) (va_Qi (fun r u => r = r0 ∧ u = (X, M, τ)) (g_pw G) (g_A G)) 0 0 (g_A G) := by
  refine Met.ofW (cc := cX2_behindLoop) (maxL := 5) (ret := (some .int)) (by decide +kernel) rfl ?_
  intro p e s m args below meth c s₁ B hml hv
  obtain ⟨rfl, hC, hP⟩ := hv
  have C0 : g_mc p s m _ meth c RX2 cX2_behindLoop (some .int) 5 G := ⟨B.exec, B.bytes, B.returns, hml, findClass_of_methodNamed B.named, fun w h => atoms_spec (ws := wz yX2_behindLoop cX2_behindLoop 5 (some .int)) B.pre w (List.mem_cons_of_mem _ h), B.notSynchronized, hC⟩
  have hl := lv_entry ([.ref (G.2.1 2 0), .ref (G.2.1 1 t1), .int x2]) (n := 5) (Nat.le_of_ble_eq_true rfl)
  rw [lg_entry_eq]
  generalize (lg_sl ([.ref (G.2.1 2 0), .ref (G.2.1 1 t1), .int x2]) ++ List.replicate (5 - (lg_sl ([.ref (G.2.1 2 0), .ref (G.2.1 1 t1), .int x2])).length) Slot.unset).toArray = ls at hl ⊢
  exact wk_X2_behindLoop C0  t1 ht1 x2 X hf hP va_S.rf hl
abbrev rm_X2_comeTo : Room := { frames := 1, cells := 0, slots := 0, locals := 23 }
def fn_X2_comeTo (x1 : Int32) (x2 : Int32) (x3 : Int32) (X : SM) : Option (SM) :=
  if x1 < 0 then
  (some X)
  else
  (if x1 ≤ 24 then
    (g_let ((if 999999 < x2 then 999999 else x2)) fun x4_3 =>
      if g_in x1 25 then
      g_let ((X 20 0 (x1.toNatClampNeg))) fun x5_5 =>
      if x5_5 = (-1) then
      (if g_in x1 25 then
        g_let (u1 X 20 0 (x1.toNatClampNeg) x4_3) fun X_8 =>
        some X_8
        else none)
      else
      (if x3 = 0 then
        (if x5_5 ≤ x4_3 then
          (some X)
          else
          (if g_in x1 25 then
            g_let (u1 X 20 0 (x1.toNatClampNeg) x4_3) fun X_12 =>
            some X_12
            else none))
        else
        (if x4_3 ≤ x5_5 then
          (some X)
          else
          (if g_in x1 25 then
            g_let (u1 X 20 0 (x1.toNatClampNeg) x4_3) fun X_15 =>
            some X_15
            else none)))
      else none)
    else
    (some X))
set_option maxRecDepth 100000 in
set_option maxHeartbeats 4000000 in
theorem wk_X2_comeTo {p : Program} {l : Launch} {e : Env} {s : State} {m : MethodId} {args : Array Value} {below : List Frame} {meth : Method} {c : Code} {G : GP} {M : SM} {τ : SL} (C0 : g_mc p s m args meth c RX2 cX2_comeTo none 6 G) {X0 : SM} (x1 : Int32) (x2 : Int32) (x3 : Int32) (X : SM) (hf : fn_X2_comeTo x1 x2 x3 X = some X0) {H : Heap} {locs : List Loc} (hP : va_P G.1 g_cl (wd G (cb X M) τ) H) (hS : va_S (g_A G) s.heap H locs) {ls : Array Slot} (hl : lv_has ls 6 [(0, .ref (G.2.1 2 0)), (1, .int x1), (2, .int x2), (3, .int x3)]) : W p l e rm_X2_comeTo s m args below meth c H locs 0 0 (MQ below (va_Qv (fun u => u = (X0, M, τ)) (g_pw G) (g_A G)) args s 0 0 (g_A G)) (F0 m 0 ls []) := by
  obtain ⟨hx, hb, hr, hml, hown, hts, hlocks, hC⟩ := id C0
  unfold fn_X2_comeTo at hf
  refine lv_iload_n hx hb dX2_comeTo_0 rfl (lv_at hl 1 rfl) ?_
  refine lv_if_lt (tgt := 10) hx hb dX2_comeTo_1 (by decide) (fun hc_1 => ?_) (fun hc_1 => ?_)
  · have hf := g_pos hf hc_1
    cases hf
    exact x_vret hx hb hlocks hC hP hS hr dX2_comeTo_10
  · have hf := g_neg hf hc_1
    refine lv_iload_n hx hb dX2_comeTo_4 rfl (lv_at hl 1 rfl) ?_
    refine lv_bipush (v := 24) hx hb dX2_comeTo_5 (by decide) ?_
    refine lv_icmp_le (tgt := 11) hx hb dX2_comeTo_7 (by decide) (fun hc_2 => ?_) (fun hc_2 => ?_)
    · have hf := g_pos hf hc_2
      refine lv_iload_n hx hb dX2_comeTo_11 rfl (lv_at hl 2 rfl) ?_
      refine lv_ldc (v := 999999) hx hb hown (hts _ q37_6) dX2_comeTo_12 ?_
      refine va_mmin hx hb (by rw [hml]; exact hl.1.symm) hown (hts _ q36_16) (hts _ q36_17) (hts _ q36_18) (hts _ q36_19) (Nat.le_of_ble_eq_true rfl) (Nat.le_of_ble_eq_true rfl) (Nat.le_refl _) (Nat.le_refl _) dX2_comeTo_14 ?_
      obtain ⟨x4_3, ex4_3, hf⟩ := g_letE hf
      refine lv_topE ex4_3 ?_
      refine lv_istore (lv' := [(4, .int x4_3), (0, .ref (G.2.1 2 0)), (1, .int x1), (2, .int x2), (3, .int x3)]) hx hb dX2_comeTo_17 hl (by decide) rfl (fun ls hl => ?_)
      refine lv_aload_n hx hb dX2_comeTo_19 rfl (lv_at hl 1 rfl) ?_
      refine gt_2_0 hx hb hts hown hC hP Nat.zero_lt_one q6_6 dX2_comeTo_20 ?_
      refine lv_iload_n hx hb dX2_comeTo_23 rfl (lv_at hl 2 rfl) ?_
      obtain ⟨hg_4, hf⟩ := g_gd hf
      refine xildX (k := 20) (n := 25) hx hb hC hP (fun _ _ => rfl) rfl Nat.zero_lt_one hg_4 dX2_comeTo_24 ?_
      obtain ⟨x5_5, ex5_5, hf⟩ := g_letE hf
      refine lv_topE ex5_5 ?_
      refine lv_istore (lv' := [(5, .int x5_5), (4, .int x4_3), (0, .ref (G.2.1 2 0)), (1, .int x1), (2, .int x2), (3, .int x3)]) hx hb dX2_comeTo_25 hl (by decide) rfl (fun ls hl => ?_)
      refine lv_iload hx hb dX2_comeTo_27 (lv_at hl 0 rfl) ?_
      refine lv_iconst (v := (-1)) hx hb dX2_comeTo_29 (by decide) ?_
      refine lv_icmp_eq (tgt := 54) hx hb dX2_comeTo_30 (by decide) (fun hc_6 => ?_) (fun hc_6 => ?_)
      · have hf := g_pos hf hc_6
        refine lv_aload_n hx hb dX2_comeTo_54 rfl (lv_at hl 2 rfl) ?_
        refine gt_2_0 hx hb hts hown hC hP Nat.zero_lt_one q6_6 dX2_comeTo_55 ?_
        refine lv_iload_n hx hb dX2_comeTo_58 rfl (lv_at hl 3 rfl) ?_
        refine lv_iload hx hb dX2_comeTo_59 (lv_at hl 1 rfl) ?_
        obtain ⟨hg_7, hf⟩ := g_gd hf
        obtain ⟨X_8, eX_8, hf⟩ := g_letE hf
        refine xistX (k := 20) (n := 25) hx hb hC hP hS (fun _ _ => rfl) rfl Nat.zero_lt_one hg_7 dX2_comeTo_61 (fun H locs hP hS => ?_)
        rw [eX_8] at hP
        cases hf
        exact x_vret hx hb hlocks hC hP hS hr dX2_comeTo_62
      · have hf := g_neg hf hc_6
        refine lv_iload_n hx hb dX2_comeTo_33 rfl (lv_at hl 5 rfl) ?_
        refine lv_if_eq (tgt := 47) hx hb dX2_comeTo_34 (by decide) (fun hc_9 => ?_) (fun hc_9 => ?_)
        · have hf := g_pos hf hc_9
          refine lv_iload hx hb dX2_comeTo_47 (lv_at hl 1 rfl) ?_
          refine lv_iload hx hb dX2_comeTo_49 (lv_at hl 0 rfl) ?_
          refine lv_icmp_ge (tgt := 62) hx hb dX2_comeTo_51 (by decide) (fun hc_10 => ?_) (fun hc_10 => ?_)
          · have hf := g_pos hf hc_10
            cases hf
            exact x_vret hx hb hlocks hC hP hS hr dX2_comeTo_62
          · have hf := g_neg hf hc_10
            refine lv_aload_n hx hb dX2_comeTo_54 rfl (lv_at hl 2 rfl) ?_
            refine gt_2_0 hx hb hts hown hC hP Nat.zero_lt_one q6_6 dX2_comeTo_55 ?_
            refine lv_iload_n hx hb dX2_comeTo_58 rfl (lv_at hl 3 rfl) ?_
            refine lv_iload hx hb dX2_comeTo_59 (lv_at hl 1 rfl) ?_
            obtain ⟨hg_11, hf⟩ := g_gd hf
            obtain ⟨X_12, eX_12, hf⟩ := g_letE hf
            refine xistX (k := 20) (n := 25) hx hb hC hP hS (fun _ _ => rfl) rfl Nat.zero_lt_one hg_11 dX2_comeTo_61 (fun H locs hP hS => ?_)
            rw [eX_12] at hP
            cases hf
            exact x_vret hx hb hlocks hC hP hS hr dX2_comeTo_62
        · have hf := g_neg hf hc_9
          refine lv_iload hx hb dX2_comeTo_37 (lv_at hl 1 rfl) ?_
          refine lv_iload hx hb dX2_comeTo_39 (lv_at hl 0 rfl) ?_
          refine lv_icmp_le (tgt := 62) hx hb dX2_comeTo_41 (by decide) (fun hc_13 => ?_) (fun hc_13 => ?_)
          · have hf := g_pos hf hc_13
            cases hf
            exact x_vret hx hb hlocks hC hP hS hr dX2_comeTo_62
          · have hf := g_neg hf hc_13
            refine lv_goto (tgt := 54) hx hb dX2_comeTo_44 (by decide) ?_
            refine lv_aload_n hx hb dX2_comeTo_54 rfl (lv_at hl 2 rfl) ?_
            refine gt_2_0 hx hb hts hown hC hP Nat.zero_lt_one q6_6 dX2_comeTo_55 ?_
            refine lv_iload_n hx hb dX2_comeTo_58 rfl (lv_at hl 3 rfl) ?_
            refine lv_iload hx hb dX2_comeTo_59 (lv_at hl 1 rfl) ?_
            obtain ⟨hg_14, hf⟩ := g_gd hf
            obtain ⟨X_15, eX_15, hf⟩ := g_letE hf
            refine xistX (k := 20) (n := 25) hx hb hC hP hS (fun _ _ => rfl) rfl Nat.zero_lt_one hg_14 dX2_comeTo_61 (fun H locs hP hS => ?_)
            rw [eX_15] at hP
            cases hf
            exact x_vret hx hb hlocks hC hP hS hr dX2_comeTo_62
    · have hf := g_neg hf hc_2
      cases hf
      exact x_vret hx hb hlocks hC hP hS hr dX2_comeTo_10
set_option maxRecDepth 100000 in
set_option maxHeartbeats 4000000 in
theorem ct_X2_comeTo (l : Launch) (G : GP) (X M : SM) (τ : SL) (x1 : Int32) (x2 : Int32) (x3 : Int32) {X0 : SM} (hf : fn_X2_comeTo x1 x2 x3 X = some X0) : Met l yX2_comeTo (wz yX2_comeTo cX2_comeTo 6 none) rm_X2_comeTo (va_Pc [.ref (G.2.1 2 0), .int x1, .int x2, .int x3] (g_pw G (X, M, τ))) (va_Qv (fun u => u = (X0, M, τ)) (g_pw G) (g_A G)) 0 0 (g_A G) := by
  refine Met.ofW (cc := cX2_comeTo) (maxL := 6) (ret := none) (by decide +kernel) rfl ?_
  intro p e s m args below meth c s₁ B hml hv
  obtain ⟨rfl, hC, hP⟩ := hv
  have C0 : g_mc p s m _ meth c RX2 cX2_comeTo none 6 G := ⟨B.exec, B.bytes, B.returns, hml, findClass_of_methodNamed B.named, fun w h => atoms_spec (ws := wz yX2_comeTo cX2_comeTo 6 none) B.pre w (List.mem_cons_of_mem _ h), B.notSynchronized, hC⟩
  have hl := lv_entry ([.ref (G.2.1 2 0), .int x1, .int x2, .int x3]) (n := 6) (Nat.le_of_ble_eq_true rfl)
  rw [lg_entry_eq]
  generalize (lg_sl ([.ref (G.2.1 2 0), .int x1, .int x2, .int x3]) ++ List.replicate (6 - (lg_sl ([.ref (G.2.1 2 0), .int x1, .int x2, .int x3])).length) Slot.unset).toArray = ls at hl ⊢
  exact wk_X2_comeTo C0  x1 x2 x3 X hf hP va_S.rf hl
abbrev rm_X2_ofRound : Room := { frames := 2, cells := 0, slots := 0, locals := 48 }
def wb_X2_ofRound_95 (k17 : Nat → Int32 → Int32 → SM → Option (Int32 × SM)) (t1 : Nat) (x2 : Int32) (x3 : Int32) (x4 : Int32) (x5 : Int32) (X : SM) : Option (Int32 × SM) :=
  if x4 = 7 then
  (if g_in x3 24 then
    (fn_X2_comeTo (if (X 1 t1 4) < (X 18 t1 (x3.toNatClampNeg)) then (X 1 t1 4) else (X 18 t1 (x3.toNatClampNeg))) x5 x2 X).bind fun X_31 =>
    g_let (x3 + 1) fun x3_33 =>
    k17 t1 x2 x3_33 X_31
    else none)
  else
  (if x4 = 8 then
    (if g_in x3 24 then
      (fn_X2_comeTo (if (X 1 t1 4) < (X 18 t1 (x3.toNatClampNeg)) then (X 1 t1 4) else (X 18 t1 (x3.toNatClampNeg))) x5 x2 X).bind fun X_37 =>
      g_let (x3 + 1) fun x3_39 =>
      k17 t1 x2 x3_39 X_37
      else none)
    else
    (g_let (x3 + 1) fun x3_35 =>
      k17 t1 x2 x3_35 X))
set_option maxRecDepth 100000 in
set_option maxHeartbeats 4000000 in
theorem bk_X2_ofRound_95 {p : Program} {l : Launch} {e : Env} {s : State} {m : MethodId} {args : Array Value} {below : List Frame} {meth : Method} {c : Code} {G : GP} {M : SM} {τ : SL} (C0 : g_mc p s m args meth c RX2 cX2_ofRound (some .int) 6 G) {r0 : Int32} {X0 : SM} (k17 : Nat → Int32 → Int32 → SM → Option (Int32 × SM)) (hk17 : ∀ (t1 : Nat) (ht1 : t1 < 12) (x2 : Int32) (x3 : Int32) (X : SM), k17 t1 x2 x3 X = some (r0, X0) → ∀ {H : Heap} {locs : List Loc}, va_P G.1 g_cl (wd G (cb X M) τ) H → va_S (g_A G) s.heap H locs → ∀ {ls : Array Slot}, lv_has ls 6 [(0, .ref (G.2.1 2 0)), (1, .ref (G.2.1 1 t1)), (2, .int x2), (3, .int x3)] → W p l e rm_X2_ofRound s m args below meth c H locs 0 0 (MQ below (va_Qi (fun r u => r = r0 ∧ u = (X0, M, τ)) (g_pw G) (g_A G)) args s 0 0 (g_A G)) (F0 m 17 ls [])) (t1 : Nat) (ht1 : t1 < 12) (x2 : Int32) (x3 : Int32) (x4 : Int32) (x5 : Int32) (X : SM) (hf : wb_X2_ofRound_95 k17 t1 x2 x3 x4 x5 X = some (r0, X0)) {H : Heap} {locs : List Loc} (hP : va_P G.1 g_cl (wd G (cb X M) τ) H) (hS : va_S (g_A G) s.heap H locs) {ls : Array Slot} (hl : lv_has ls 6 [(0, .ref (G.2.1 2 0)), (1, .ref (G.2.1 1 t1)), (2, .int x2), (3, .int x3), (4, .int x4), (5, .int x5)]) : W p l e rm_X2_ofRound s m args below meth c H locs 0 0 (MQ below (va_Qi (fun r u => r = r0 ∧ u = (X0, M, τ)) (g_pw G) (g_A G)) args s 0 0 (g_A G)) (F0 m 95 ls []) := by
  obtain ⟨hx, hb, hr, hml, hown, hts, hlocks, hC⟩ := id C0
  unfold wb_X2_ofRound_95 at hf
  refine lv_iload hx hb dX2_ofRound_95 (lv_at hl 4 rfl) ?_
  refine lv_bipush (v := 7) hx hb dX2_ofRound_97 (by decide) ?_
  refine lv_icmp_eq (tgt := 109) hx hb dX2_ofRound_99 (by decide) (fun hc_29 => ?_) (fun hc_29 => ?_)
  · have hf := g_pos hf hc_29
    refine lv_aload_n hx hb dX2_ofRound_109 rfl (lv_at hl 0 rfl) ?_
    refine lv_aload_n hx hb dX2_ofRound_110 rfl (lv_at hl 1 rfl) ?_
    refine gt_1_2 hx hb hts hown hC hP ht1 q36_8 dX2_ofRound_111 ?_
    refine lv_iload_n hx hb dX2_ofRound_114 rfl (lv_at hl 3 rfl) ?_
    obtain ⟨hg_30, hf⟩ := g_gd hf
    refine xildX (k := 18) (n := 24) hx hb hC hP (fun _ _ => rfl) rfl ht1 hg_30 dX2_ofRound_115 ?_
    refine lv_aload_n hx hb dX2_ofRound_116 rfl (lv_at hl 1 rfl) ?_
    refine gt_1_4 hx hb hts hown hC hP ht1 q36_0 dX2_ofRound_117 ?_
    refine va_mmin hx hb (by rw [hml]; exact hl.1.symm) hown (hts _ q36_16) (hts _ q36_17) (hts _ q36_18) (hts _ q36_19) (Nat.le_of_ble_eq_true rfl) (Nat.le_of_ble_eq_true rfl) (Nat.le_refl _) (Nat.le_refl _) dX2_ofRound_120 ?_
    refine lv_iload hx hb dX2_ofRound_123 (lv_at hl 5 rfl) ?_
    refine lv_iload_n hx hb dX2_ofRound_125 rfl (lv_at hl 2 rfl) ?_
    obtain ⟨X_31, hc_32, hf⟩ := g_bindE hf
    refine x_callv (v := (X_31, M, τ)) (va_runV (As := [.int (if (X 1 t1 4) < (X 18 t1 (x3.toNatClampNeg)) then (X 1 t1 4) else (X 18 t1 (x3.toNatClampNeg))), .int x5, .int x2]) (rest := []) ⟨hx, hb, hml, hown, hts⟩ (ct_X2_comeTo l G X M τ (if (X 1 t1 4) < (X 18 t1 (x3.toNatClampNeg)) then (X 1 t1 4) else (X 18 t1 (x3.toNatClampNeg))) x5 x2 hc_32) (cwV 3 hts gd_X2_51 rfl rfl rfl hd_X2_comeTo ⟨Nat.le_of_ble_eq_true rfl, Nat.le_of_ble_eq_true rfl⟩) (x_preV (u := (X, M, τ)) (k := 2) (ci := 2) hC hS hP Nat.zero_lt_one rfl rfl) rfl rfl hl.1 rfl (lv_room (Nat.le_of_ble_eq_true rfl)) dX2_ofRound_126 ⟨Nat.zero_le _, Nat.zero_le _⟩) hS (fun H locs hP hS => ?_)
    obtain ⟨x3_33, ex3_33, hf⟩ := g_letE hf
    refine lv_iinc (v := x3_33) (lv' := [(3, .int x3_33), (0, .ref (G.2.1 2 0)), (1, .ref (G.2.1 1 t1)), (2, .int x2), (4, .int x4), (5, .int x5)]) hx hb dX2_ofRound_129 hl (k := 3) rfl (by rw [← ex3_33]; rfl) (by decide) rfl (fun ls hl => ?_)
    refine lv_goto (tgt := 17) hx hb dX2_ofRound_132 (by decide) ?_
    exact hk17 t1 ht1 x2 x3_33 X_31 hf hP hS (lv_sub hl [1, 2, 3, 0] rfl)
  · have hf := g_neg hf hc_29
    refine lv_iload hx hb dX2_ofRound_102 (lv_at hl 4 rfl) ?_
    refine lv_bipush (v := 8) hx hb dX2_ofRound_104 (by decide) ?_
    refine lv_icmp_ne (tgt := 129) hx hb dX2_ofRound_106 (by decide) (fun hc_34 => ?_) (fun hc_34 => ?_)
    · have hf := g_neg hf hc_34
      obtain ⟨x3_35, ex3_35, hf⟩ := g_letE hf
      refine lv_iinc (v := x3_35) (lv' := [(3, .int x3_35), (0, .ref (G.2.1 2 0)), (1, .ref (G.2.1 1 t1)), (2, .int x2), (4, .int x4), (5, .int x5)]) hx hb dX2_ofRound_129 hl (k := 3) rfl (by rw [← ex3_35]; rfl) (by decide) rfl (fun ls hl => ?_)
      refine lv_goto (tgt := 17) hx hb dX2_ofRound_132 (by decide) ?_
      exact hk17 t1 ht1 x2 x3_35 X hf hP hS (lv_sub hl [1, 2, 3, 0] rfl)
    · have hf := g_pos hf hc_34
      refine lv_aload_n hx hb dX2_ofRound_109 rfl (lv_at hl 0 rfl) ?_
      refine lv_aload_n hx hb dX2_ofRound_110 rfl (lv_at hl 1 rfl) ?_
      refine gt_1_2 hx hb hts hown hC hP ht1 q36_8 dX2_ofRound_111 ?_
      refine lv_iload_n hx hb dX2_ofRound_114 rfl (lv_at hl 3 rfl) ?_
      obtain ⟨hg_36, hf⟩ := g_gd hf
      refine xildX (k := 18) (n := 24) hx hb hC hP (fun _ _ => rfl) rfl ht1 hg_36 dX2_ofRound_115 ?_
      refine lv_aload_n hx hb dX2_ofRound_116 rfl (lv_at hl 1 rfl) ?_
      refine gt_1_4 hx hb hts hown hC hP ht1 q36_0 dX2_ofRound_117 ?_
      refine va_mmin hx hb (by rw [hml]; exact hl.1.symm) hown (hts _ q36_16) (hts _ q36_17) (hts _ q36_18) (hts _ q36_19) (Nat.le_of_ble_eq_true rfl) (Nat.le_of_ble_eq_true rfl) (Nat.le_refl _) (Nat.le_refl _) dX2_ofRound_120 ?_
      refine lv_iload hx hb dX2_ofRound_123 (lv_at hl 5 rfl) ?_
      refine lv_iload_n hx hb dX2_ofRound_125 rfl (lv_at hl 2 rfl) ?_
      obtain ⟨X_37, hc_38, hf⟩ := g_bindE hf
      refine x_callv (v := (X_37, M, τ)) (va_runV (As := [.int (if (X 1 t1 4) < (X 18 t1 (x3.toNatClampNeg)) then (X 1 t1 4) else (X 18 t1 (x3.toNatClampNeg))), .int x5, .int x2]) (rest := []) ⟨hx, hb, hml, hown, hts⟩ (ct_X2_comeTo l G X M τ (if (X 1 t1 4) < (X 18 t1 (x3.toNatClampNeg)) then (X 1 t1 4) else (X 18 t1 (x3.toNatClampNeg))) x5 x2 hc_38) (cwV 3 hts gd_X2_51 rfl rfl rfl hd_X2_comeTo ⟨Nat.le_of_ble_eq_true rfl, Nat.le_of_ble_eq_true rfl⟩) (x_preV (u := (X, M, τ)) (k := 2) (ci := 2) hC hS hP Nat.zero_lt_one rfl rfl) rfl rfl hl.1 rfl (lv_room (Nat.le_of_ble_eq_true rfl)) dX2_ofRound_126 ⟨Nat.zero_le _, Nat.zero_le _⟩) hS (fun H locs hP hS => ?_)
      obtain ⟨x3_39, ex3_39, hf⟩ := g_letE hf
      refine lv_iinc (v := x3_39) (lv' := [(3, .int x3_39), (0, .ref (G.2.1 2 0)), (1, .ref (G.2.1 1 t1)), (2, .int x2), (4, .int x4), (5, .int x5)]) hx hb dX2_ofRound_129 hl (k := 3) rfl (by rw [← ex3_39]; rfl) (by decide) rfl (fun ls hl => ?_)
      refine lv_goto (tgt := 17) hx hb dX2_ofRound_132 (by decide) ?_
      exact hk17 t1 ht1 x2 x3_39 X_37 hf hP hS (lv_sub hl [1, 2, 3, 0] rfl)
def wb_X2_ofRound_17 (k17 : Nat → Int32 → Int32 → SM → Option (Int32 × SM)) (t1 : Nat) (x2 : Int32) (x3 : Int32) (X : SM) : Option (Int32 × SM) :=
  if 24 ≤ x3 then
  (if (X 1 t1 4) < 0 then
    (some ((-1), X))
    else
    (if 24 < (X 1 t1 4) then
      (some ((-1), X))
      else
      (if g_in (X 1 t1 4) 25 then
        some ((X 20 0 ((X 1 t1 4).toNatClampNeg)), X)
        else none)))
  else
  (g_let (fn_X1_has t1 x3 X) fun r_7 =>
    if r_7 = 0 then
    (if (X 1 t1 4) < 0 then
      (some ((-1), X))
      else
      (if 24 < (X 1 t1 4) then
        (some ((-1), X))
        else
        (if g_in (X 1 t1 4) 25 then
          some ((X 20 0 ((X 1 t1 4).toNatClampNeg)), X)
          else none)))
    else
    (if g_in x3 25 then
      if (X 20 0 (x3.toNatClampNeg)) = (-1) then
      (g_let (x3 + 1) fun x3_28 =>
        k17 t1 x2 x3_28 X)
      else
      (if g_in x3 24 then
        g_let ((X 16 t1 (x3.toNatClampNeg))) fun x4_16 =>
        if x4_16 = 9 then
        ((fn_X2_behindLoop t1 x3 X).bind fun r_23 =>
          if x4_16 = 7 then
          (wb_X2_ofRound_95 k17 t1 x2 x3 x4_16 r_23 X)
          else
          ((fn_X2_comeTo (x3 + 1) r_23 x2 X).bind fun X_26 =>
            wb_X2_ofRound_95 k17 t1 x2 x3 x4_16 r_23 X_26))
        else
        (if g_in x3 25 then
          g_let (((X 20 0 (x3.toNatClampNeg)) + 1)) fun x5_19 =>
          if x4_16 = 7 then
          (wb_X2_ofRound_95 k17 t1 x2 x3 x4_16 x5_19 X)
          else
          ((fn_X2_comeTo (x3 + 1) x5_19 x2 X).bind fun X_21 =>
            wb_X2_ofRound_95 k17 t1 x2 x3 x4_16 x5_19 X_21)
          else none)
        else none)
      else none))
set_option maxRecDepth 100000 in
set_option maxHeartbeats 4000000 in
theorem bk_X2_ofRound_17 {p : Program} {l : Launch} {e : Env} {s : State} {m : MethodId} {args : Array Value} {below : List Frame} {meth : Method} {c : Code} {G : GP} {M : SM} {τ : SL} (C0 : g_mc p s m args meth c RX2 cX2_ofRound (some .int) 6 G) {r0 : Int32} {X0 : SM} (k17 : Nat → Int32 → Int32 → SM → Option (Int32 × SM)) (hk17 : ∀ (t1 : Nat) (ht1 : t1 < 12) (x2 : Int32) (x3 : Int32) (X : SM), k17 t1 x2 x3 X = some (r0, X0) → ∀ {H : Heap} {locs : List Loc}, va_P G.1 g_cl (wd G (cb X M) τ) H → va_S (g_A G) s.heap H locs → ∀ {ls : Array Slot}, lv_has ls 6 [(0, .ref (G.2.1 2 0)), (1, .ref (G.2.1 1 t1)), (2, .int x2), (3, .int x3)] → W p l e rm_X2_ofRound s m args below meth c H locs 0 0 (MQ below (va_Qi (fun r u => r = r0 ∧ u = (X0, M, τ)) (g_pw G) (g_A G)) args s 0 0 (g_A G)) (F0 m 17 ls [])) (t1 : Nat) (ht1 : t1 < 12) (x2 : Int32) (x3 : Int32) (X : SM) (hf : wb_X2_ofRound_17 k17 t1 x2 x3 X = some (r0, X0)) {H : Heap} {locs : List Loc} (hP : va_P G.1 g_cl (wd G (cb X M) τ) H) (hS : va_S (g_A G) s.heap H locs) {ls : Array Slot} (hl : lv_has ls 6 [(0, .ref (G.2.1 2 0)), (1, .ref (G.2.1 1 t1)), (2, .int x2), (3, .int x3)]) : W p l e rm_X2_ofRound s m args below meth c H locs 0 0 (MQ below (va_Qi (fun r u => r = r0 ∧ u = (X0, M, τ)) (g_pw G) (g_A G)) args s 0 0 (g_A G)) (F0 m 17 ls []) := by
  obtain ⟨hx, hb, hr, hml, hown, hts, hlocks, hC⟩ := id C0
  unfold wb_X2_ofRound_17 at hf
  refine lv_iload_n hx hb dX2_ofRound_17 rfl (lv_at hl 3 rfl) ?_
  refine lv_bipush (v := 24) hx hb dX2_ofRound_18 (by decide) ?_
  refine lv_icmp_ge (tgt := 135) hx hb dX2_ofRound_20 (by decide) (fun hc_3 => ?_) (fun hc_3 => ?_)
  · have hf := g_pos hf hc_3
    refine lv_aload_n hx hb dX2_ofRound_135 rfl (lv_at hl 1 rfl) ?_
    refine gt_1_4 hx hb hts hown hC hP ht1 q36_0 dX2_ofRound_136 ?_
    refine lv_if_lt (tgt := 163) hx hb dX2_ofRound_139 (by decide) (fun hc_4 => ?_) (fun hc_4 => ?_)
    · have hf := g_pos hf hc_4
      refine lv_iconst (v := (-1)) hx hb dX2_ofRound_163 (by decide) ?_
      cases hf
      exact x_iret hx hb hlocks hC hP hS hr dX2_ofRound_164
    · have hf := g_neg hf hc_4
      refine lv_aload_n hx hb dX2_ofRound_142 rfl (lv_at hl 1 rfl) ?_
      refine gt_1_4 hx hb hts hown hC hP ht1 q36_0 dX2_ofRound_143 ?_
      refine lv_bipush (v := 24) hx hb dX2_ofRound_146 (by decide) ?_
      refine lv_icmp_gt (tgt := 163) hx hb dX2_ofRound_148 (by decide) (fun hc_5 => ?_) (fun hc_5 => ?_)
      · have hf := g_pos hf hc_5
        refine lv_iconst (v := (-1)) hx hb dX2_ofRound_163 (by decide) ?_
        cases hf
        exact x_iret hx hb hlocks hC hP hS hr dX2_ofRound_164
      · have hf := g_neg hf hc_5
        refine lv_aload_n hx hb dX2_ofRound_151 rfl (lv_at hl 0 rfl) ?_
        refine gt_2_0 hx hb hts hown hC hP Nat.zero_lt_one q6_6 dX2_ofRound_152 ?_
        refine lv_aload_n hx hb dX2_ofRound_155 rfl (lv_at hl 1 rfl) ?_
        refine gt_1_4 hx hb hts hown hC hP ht1 q36_0 dX2_ofRound_156 ?_
        obtain ⟨hg_6, hf⟩ := g_gd hf
        refine xildX (k := 20) (n := 25) hx hb hC hP (fun _ _ => rfl) rfl Nat.zero_lt_one hg_6 dX2_ofRound_159 ?_
        refine lv_goto (tgt := 164) hx hb dX2_ofRound_160 (by decide) ?_
        cases hf
        exact x_iret hx hb hlocks hC hP hS hr dX2_ofRound_164
  · have hf := g_neg hf hc_3
    refine lv_aload_n hx hb dX2_ofRound_23 rfl (lv_at hl 1 rfl) ?_
    refine lv_iload_n hx hb dX2_ofRound_24 rfl (lv_at hl 3 rfl) ?_
    obtain ⟨r_7, hc_8, hf⟩ := g_letE hf
    refine x_calli (v := (X, M, τ)) (va_runV (As := [.int x3]) (rest := []) ⟨hx, hb, hml, hown, hts⟩ (ct_X1_has l G X M τ t1 ht1 x3 hc_8) (cwV 1 hts gd_X2_15 rfl rfl rfl hd_X1_has ⟨Nat.le_of_ble_eq_true rfl, Nat.le_of_ble_eq_true rfl⟩) (x_preV (u := (X, M, τ)) (k := 1) (ci := 1) hC hS hP ht1 rfl rfl) rfl rfl hl.1 rfl (lv_room (Nat.le_of_ble_eq_true rfl)) dX2_ofRound_25 ⟨Nat.zero_le _, Nat.zero_le _⟩) hS (fun H locs hP hS => ?_)
    refine lv_if_eq (tgt := 135) hx hb dX2_ofRound_28 (by decide) (fun hc_9 => ?_) (fun hc_9 => ?_)
    · have hf := g_pos hf hc_9
      refine lv_aload_n hx hb dX2_ofRound_135 rfl (lv_at hl 1 rfl) ?_
      refine gt_1_4 hx hb hts hown hC hP ht1 q36_0 dX2_ofRound_136 ?_
      refine lv_if_lt (tgt := 163) hx hb dX2_ofRound_139 (by decide) (fun hc_10 => ?_) (fun hc_10 => ?_)
      · have hf := g_pos hf hc_10
        refine lv_iconst (v := (-1)) hx hb dX2_ofRound_163 (by decide) ?_
        cases hf
        exact x_iret hx hb hlocks hC hP hS hr dX2_ofRound_164
      · have hf := g_neg hf hc_10
        refine lv_aload_n hx hb dX2_ofRound_142 rfl (lv_at hl 1 rfl) ?_
        refine gt_1_4 hx hb hts hown hC hP ht1 q36_0 dX2_ofRound_143 ?_
        refine lv_bipush (v := 24) hx hb dX2_ofRound_146 (by decide) ?_
        refine lv_icmp_gt (tgt := 163) hx hb dX2_ofRound_148 (by decide) (fun hc_11 => ?_) (fun hc_11 => ?_)
        · have hf := g_pos hf hc_11
          refine lv_iconst (v := (-1)) hx hb dX2_ofRound_163 (by decide) ?_
          cases hf
          exact x_iret hx hb hlocks hC hP hS hr dX2_ofRound_164
        · have hf := g_neg hf hc_11
          refine lv_aload_n hx hb dX2_ofRound_151 rfl (lv_at hl 0 rfl) ?_
          refine gt_2_0 hx hb hts hown hC hP Nat.zero_lt_one q6_6 dX2_ofRound_152 ?_
          refine lv_aload_n hx hb dX2_ofRound_155 rfl (lv_at hl 1 rfl) ?_
          refine gt_1_4 hx hb hts hown hC hP ht1 q36_0 dX2_ofRound_156 ?_
          obtain ⟨hg_12, hf⟩ := g_gd hf
          refine xildX (k := 20) (n := 25) hx hb hC hP (fun _ _ => rfl) rfl Nat.zero_lt_one hg_12 dX2_ofRound_159 ?_
          refine lv_goto (tgt := 164) hx hb dX2_ofRound_160 (by decide) ?_
          cases hf
          exact x_iret hx hb hlocks hC hP hS hr dX2_ofRound_164
    · have hf := g_neg hf hc_9
      refine lv_aload_n hx hb dX2_ofRound_31 rfl (lv_at hl 0 rfl) ?_
      refine gt_2_0 hx hb hts hown hC hP Nat.zero_lt_one q6_6 dX2_ofRound_32 ?_
      refine lv_iload_n hx hb dX2_ofRound_35 rfl (lv_at hl 3 rfl) ?_
      obtain ⟨hg_13, hf⟩ := g_gd hf
      refine xildX (k := 20) (n := 25) hx hb hC hP (fun _ _ => rfl) rfl Nat.zero_lt_one hg_13 dX2_ofRound_36 ?_
      refine lv_iconst (v := (-1)) hx hb dX2_ofRound_37 (by decide) ?_
      refine lv_icmp_ne (tgt := 44) hx hb dX2_ofRound_38 (by decide) (fun hc_14 => ?_) (fun hc_14 => ?_)
      · have hf := g_neg hf hc_14
        refine lv_aload_n hx hb dX2_ofRound_44 rfl (lv_at hl 1 rfl) ?_
        refine gt_1_0 hx hb hts hown hC hP ht1 q35_23 dX2_ofRound_45 ?_
        refine lv_iload_n hx hb dX2_ofRound_48 rfl (lv_at hl 3 rfl) ?_
        obtain ⟨hg_15, hf⟩ := g_gd hf
        refine xildX (k := 16) (n := 24) hx hb hC hP (fun _ _ => rfl) rfl ht1 hg_15 dX2_ofRound_49 ?_
        obtain ⟨x4_16, ex4_16, hf⟩ := g_letE hf
        refine lv_topE ex4_16 ?_
        refine lv_istore (lv' := [(4, .int x4_16), (0, .ref (G.2.1 2 0)), (1, .ref (G.2.1 1 t1)), (2, .int x2), (3, .int x3)]) hx hb dX2_ofRound_50 hl (by decide) rfl (fun ls hl => ?_)
        refine lv_iload hx hb dX2_ofRound_52 (lv_at hl 0 rfl) ?_
        refine lv_bipush (v := 9) hx hb dX2_ofRound_54 (by decide) ?_
        refine lv_icmp_ne (tgt := 68) hx hb dX2_ofRound_56 (by decide) (fun hc_17 => ?_) (fun hc_17 => ?_)
        · have hf := g_neg hf hc_17
          refine lv_aload_n hx hb dX2_ofRound_68 rfl (lv_at hl 1 rfl) ?_
          refine gt_2_0 hx hb hts hown hC hP Nat.zero_lt_one q6_6 dX2_ofRound_69 ?_
          refine lv_iload_n hx hb dX2_ofRound_72 rfl (lv_at hl 4 rfl) ?_
          obtain ⟨hg_18, hf⟩ := g_gd hf
          refine xildX (k := 20) (n := 25) hx hb hC hP (fun _ _ => rfl) rfl Nat.zero_lt_one hg_18 dX2_ofRound_73 ?_
          refine lv_iconst (v := 1) hx hb dX2_ofRound_74 (by decide) ?_
          refine lv_iadd hx hb dX2_ofRound_75 ?_
          obtain ⟨x5_19, ex5_19, hf⟩ := g_letE hf
          refine lv_topE ex5_19 ?_
          refine lv_istore (lv' := [(5, .int x5_19), (4, .int x4_16), (0, .ref (G.2.1 2 0)), (1, .ref (G.2.1 1 t1)), (2, .int x2), (3, .int x3)]) hx hb dX2_ofRound_76 hl (by decide) rfl (fun ls hl => ?_)
          refine lv_iload hx hb dX2_ofRound_78 (lv_at hl 1 rfl) ?_
          refine lv_bipush (v := 7) hx hb dX2_ofRound_80 (by decide) ?_
          refine lv_icmp_eq (tgt := 95) hx hb dX2_ofRound_82 (by decide) (fun hc_20 => ?_) (fun hc_20 => ?_)
          · have hf := g_pos hf hc_20
            exact bk_X2_ofRound_95 C0 k17 hk17 t1 ht1 x2 x3 x4_16 x5_19 X hf hP hS (lv_sub hl [2, 3, 4, 5, 1, 0] rfl)
          · have hf := g_neg hf hc_20
            refine lv_aload_n hx hb dX2_ofRound_85 rfl (lv_at hl 2 rfl) ?_
            refine lv_iload_n hx hb dX2_ofRound_86 rfl (lv_at hl 5 rfl) ?_
            refine lv_iconst (v := 1) hx hb dX2_ofRound_87 (by decide) ?_
            refine lv_iadd hx hb dX2_ofRound_88 ?_
            refine lv_iload hx hb dX2_ofRound_89 (lv_at hl 0 rfl) ?_
            refine lv_iload_n hx hb dX2_ofRound_91 rfl (lv_at hl 4 rfl) ?_
            obtain ⟨X_21, hc_22, hf⟩ := g_bindE hf
            refine x_callv (v := (X_21, M, τ)) (va_runV (As := [.int (x3 + 1), .int x5_19, .int x2]) (rest := []) ⟨hx, hb, hml, hown, hts⟩ (ct_X2_comeTo l G X M τ (x3 + 1) x5_19 x2 hc_22) (cwV 3 hts gd_X2_51 rfl rfl rfl hd_X2_comeTo ⟨Nat.le_of_ble_eq_true rfl, Nat.le_of_ble_eq_true rfl⟩) (x_preV (u := (X, M, τ)) (k := 2) (ci := 2) hC hS hP Nat.zero_lt_one rfl rfl) rfl rfl hl.1 rfl (lv_room (Nat.le_of_ble_eq_true rfl)) dX2_ofRound_92 ⟨Nat.zero_le _, Nat.zero_le _⟩) hS (fun H locs hP hS => ?_)
            exact bk_X2_ofRound_95 C0 k17 hk17 t1 ht1 x2 x3 x4_16 x5_19 X_21 hf hP hS (lv_sub hl [2, 3, 4, 5, 1, 0] rfl)
        · have hf := g_pos hf hc_17
          refine lv_aload_n hx hb dX2_ofRound_59 rfl (lv_at hl 1 rfl) ?_
          refine lv_aload_n hx hb dX2_ofRound_60 rfl (lv_at hl 2 rfl) ?_
          refine lv_iload_n hx hb dX2_ofRound_61 rfl (lv_at hl 4 rfl) ?_
          obtain ⟨r_23, hc_24, hf⟩ := g_bindE hf
          refine x_calli (v := (X, M, τ)) (va_runV (As := [.ref (G.2.1 1 t1), .int x3]) (rest := []) ⟨hx, hb, hml, hown, hts⟩ (ct_X2_behindLoop l G X M τ t1 ht1 x3 hc_24) (cwV 2 hts gd_X2_47 rfl rfl rfl hd_X2_behindLoop ⟨Nat.le_of_ble_eq_true rfl, Nat.le_of_ble_eq_true rfl⟩) (x_preV (u := (X, M, τ)) (k := 2) (ci := 2) hC hS hP Nat.zero_lt_one rfl rfl) rfl rfl hl.1 rfl (lv_room (Nat.le_of_ble_eq_true rfl)) dX2_ofRound_62 ⟨Nat.zero_le _, Nat.zero_le _⟩) hS (fun H locs hP hS => ?_)
          refine lv_goto (tgt := 76) hx hb dX2_ofRound_65 (by decide) ?_
          refine lv_istore (lv' := [(5, .int r_23), (4, .int x4_16), (0, .ref (G.2.1 2 0)), (1, .ref (G.2.1 1 t1)), (2, .int x2), (3, .int x3)]) hx hb dX2_ofRound_76 hl (by decide) rfl (fun ls hl => ?_)
          refine lv_iload hx hb dX2_ofRound_78 (lv_at hl 1 rfl) ?_
          refine lv_bipush (v := 7) hx hb dX2_ofRound_80 (by decide) ?_
          refine lv_icmp_eq (tgt := 95) hx hb dX2_ofRound_82 (by decide) (fun hc_25 => ?_) (fun hc_25 => ?_)
          · have hf := g_pos hf hc_25
            exact bk_X2_ofRound_95 C0 k17 hk17 t1 ht1 x2 x3 x4_16 r_23 X hf hP hS (lv_sub hl [2, 3, 4, 5, 1, 0] rfl)
          · have hf := g_neg hf hc_25
            refine lv_aload_n hx hb dX2_ofRound_85 rfl (lv_at hl 2 rfl) ?_
            refine lv_iload_n hx hb dX2_ofRound_86 rfl (lv_at hl 5 rfl) ?_
            refine lv_iconst (v := 1) hx hb dX2_ofRound_87 (by decide) ?_
            refine lv_iadd hx hb dX2_ofRound_88 ?_
            refine lv_iload hx hb dX2_ofRound_89 (lv_at hl 0 rfl) ?_
            refine lv_iload_n hx hb dX2_ofRound_91 rfl (lv_at hl 4 rfl) ?_
            obtain ⟨X_26, hc_27, hf⟩ := g_bindE hf
            refine x_callv (v := (X_26, M, τ)) (va_runV (As := [.int (x3 + 1), .int r_23, .int x2]) (rest := []) ⟨hx, hb, hml, hown, hts⟩ (ct_X2_comeTo l G X M τ (x3 + 1) r_23 x2 hc_27) (cwV 3 hts gd_X2_51 rfl rfl rfl hd_X2_comeTo ⟨Nat.le_of_ble_eq_true rfl, Nat.le_of_ble_eq_true rfl⟩) (x_preV (u := (X, M, τ)) (k := 2) (ci := 2) hC hS hP Nat.zero_lt_one rfl rfl) rfl rfl hl.1 rfl (lv_room (Nat.le_of_ble_eq_true rfl)) dX2_ofRound_92 ⟨Nat.zero_le _, Nat.zero_le _⟩) hS (fun H locs hP hS => ?_)
            exact bk_X2_ofRound_95 C0 k17 hk17 t1 ht1 x2 x3 x4_16 r_23 X_26 hf hP hS (lv_sub hl [2, 3, 4, 5, 1, 0] rfl)
      · have hf := g_pos hf hc_14
        refine lv_goto (tgt := 129) hx hb dX2_ofRound_41 (by decide) ?_
        obtain ⟨x3_28, ex3_28, hf⟩ := g_letE hf
        refine lv_iinc (v := x3_28) (lv' := [(3, .int x3_28), (0, .ref (G.2.1 2 0)), (1, .ref (G.2.1 1 t1)), (2, .int x2)]) hx hb dX2_ofRound_129 hl (k := 3) rfl (by rw [← ex3_28]; rfl) (by decide) rfl (fun ls hl => ?_)
        refine lv_goto (tgt := 17) hx hb dX2_ofRound_132 (by decide) ?_
        exact hk17 t1 ht1 x2 x3_28 X hf hP hS (lv_sub hl [1, 2, 3, 0] rfl)
def wl_X2_ofRound_17 (n : Nat) (t1 : Nat) (x2 : Int32) (x3 : Int32) (X : SM) : Option (Int32 × SM) := g_loop (α := Nat × Int32 × Int32 × SM) (fun k a => wb_X2_ofRound_17 (fun t1 x2 x3 X => k (t1, x2, x3, X)) a.1 a.2.1 a.2.2.1 a.2.2.2) n (t1, x2, x3, X)
set_option maxRecDepth 100000 in
set_option maxHeartbeats 4000000 in
theorem lp_X2_ofRound_17 {p : Program} {l : Launch} {e : Env} {s : State} {m : MethodId} {args : Array Value} {below : List Frame} {meth : Method} {c : Code} {G : GP} {M : SM} {τ : SL} (C0 : g_mc p s m args meth c RX2 cX2_ofRound (some .int) 6 G) {r0 : Int32} {X0 : SM} (n : Nat) : ∀ (t1 : Nat) (ht1 : t1 < 12) (x2 : Int32) (x3 : Int32) (X : SM), wl_X2_ofRound_17 n t1 x2 x3 X = some (r0, X0) → ∀ {H : Heap} {locs : List Loc}, va_P G.1 g_cl (wd G (cb X M) τ) H → va_S (g_A G) s.heap H locs → ∀ {ls : Array Slot}, lv_has ls 6 [(0, .ref (G.2.1 2 0)), (1, .ref (G.2.1 1 t1)), (2, .int x2), (3, .int x3)] → W p l e rm_X2_ofRound s m args below meth c H locs 0 0 (MQ below (va_Qi (fun r u => r = r0 ∧ u = (X0, M, τ)) (g_pw G) (g_A G)) args s 0 0 (g_A G)) (F0 m 17 ls []) := by
  induction n with
  | zero =>
    intro t1 ht1 x2 x3 X hf
    have hf : (none : Option (Int32 × SM)) = _ := hf
    cases hf
  | succ n ih =>
    intro t1 ht1 x2 x3 X hf H locs hP hS ls hl
    exact bk_X2_ofRound_17 C0   (fun t1 x2 x3 X => wl_X2_ofRound_17   n t1 x2 x3 X) ih t1 ht1 x2 x3 X hf hP hS hl
def fn_X2_ofRound (t1 : Nat) (x2 : Int32) (X : SM) : Option (Int32 × SM) :=
  g_let (uf X 20 0 25 (-1)) fun X_1 =>
  g_let (u1 X_1 20 0 (Int32.toNatClampNeg 0) 0) fun X_2 =>
  wl_X2_ofRound_17 1000 t1 x2 0 X_2
set_option maxRecDepth 100000 in
set_option maxHeartbeats 4000000 in
theorem wk_X2_ofRound {p : Program} {l : Launch} {e : Env} {s : State} {m : MethodId} {args : Array Value} {below : List Frame} {meth : Method} {c : Code} {G : GP} {M : SM} {τ : SL} (C0 : g_mc p s m args meth c RX2 cX2_ofRound (some .int) 6 G) {r0 : Int32} {X0 : SM} (t1 : Nat) (ht1 : t1 < 12) (x2 : Int32) (X : SM) (hf : fn_X2_ofRound t1 x2 X = some (r0, X0)) {H : Heap} {locs : List Loc} (hP : va_P G.1 g_cl (wd G (cb X M) τ) H) (hS : va_S (g_A G) s.heap H locs) {ls : Array Slot} (hl : lv_has ls 6 [(0, .ref (G.2.1 2 0)), (1, .ref (G.2.1 1 t1)), (2, .int x2)]) : W p l e rm_X2_ofRound s m args below meth c H locs 0 0 (MQ below (va_Qi (fun r u => r = r0 ∧ u = (X0, M, τ)) (g_pw G) (g_A G)) args s 0 0 (g_A G)) (F0 m 0 ls []) := by
  obtain ⟨hx, hb, hr, hml, hown, hts, hlocks, hC⟩ := id C0
  unfold fn_X2_ofRound at hf
  refine lv_aload_n hx hb dX2_ofRound_0 rfl (lv_at hl 0 rfl) ?_
  refine gt_2_0 hx hb hts hown hC hP Nat.zero_lt_one q6_6 dX2_ofRound_1 ?_
  refine lv_iconst (v := (-1)) hx hb dX2_ofRound_4 (by decide) ?_
  obtain ⟨X_1, eX_1, hf⟩ := g_letE hf
  refine x_fillX (k := 20) (n := 25) (rest := []) hx hb hml hown hts hC hP hS (fun _ _ => rfl) rfl (by decide) Nat.zero_lt_one q36_20 hl.1 (lv_room (Nat.le_of_ble_eq_true rfl)) dX2_ofRound_5 ⟨Nat.le_of_ble_eq_true rfl, Nat.le_of_ble_eq_true rfl⟩ ⟨Nat.zero_le _, Nat.zero_le _⟩ (fun H locs hP hS => ?_)
  rw [eX_1] at hP
  refine lv_aload_n hx hb dX2_ofRound_8 rfl (lv_at hl 0 rfl) ?_
  refine gt_2_0 hx hb hts hown hC hP Nat.zero_lt_one q6_6 dX2_ofRound_9 ?_
  refine lv_iconst (v := 0) hx hb dX2_ofRound_12 (by decide) ?_
  refine lv_iconst (v := 0) hx hb dX2_ofRound_13 (by decide) ?_
  obtain ⟨X_2, eX_2, hf⟩ := g_letE hf
  refine xistX (k := 20) (n := 25) hx hb hC hP hS (fun _ _ => rfl) rfl Nat.zero_lt_one (by decide) dX2_ofRound_14 (fun H locs hP hS => ?_)
  rw [eX_2] at hP
  refine lv_iconst (v := 0) hx hb dX2_ofRound_15 (by decide) ?_
  refine lv_istore_n (lv' := [(3, .int 0), (0, .ref (G.2.1 2 0)), (1, .ref (G.2.1 1 t1)), (2, .int x2)]) hx hb dX2_ofRound_16 rfl hl (by decide) rfl (fun ls hl => ?_)
  exact lp_X2_ofRound_17 C0 1000 t1 ht1 x2 0 X_2 hf hP hS (lv_sub hl [1, 2, 3, 0] rfl)
set_option maxRecDepth 100000 in
set_option maxHeartbeats 4000000 in
theorem ct_X2_ofRound (l : Launch) (G : GP) (X M : SM) (τ : SL) (t1 : Nat) (ht1 : t1 < 12) (x2 : Int32) {r0 : Int32} {X0 : SM} (hf : fn_X2_ofRound t1 x2 X = some (r0, X0)) : Met l yX2_ofRound (wz yX2_ofRound cX2_ofRound 6 (some .int)) rm_X2_ofRound (va_Pc [.ref (G.2.1 2 0), .ref (G.2.1 1 t1), .int x2] (g_pw G (X, M, τ))) (va_Qi (fun r u => r = r0 ∧ u = (X0, M, τ)) (g_pw G) (g_A G)) 0 0 (g_A G) := by
  refine Met.ofW (cc := cX2_ofRound) (maxL := 6) (ret := (some .int)) (by decide +kernel) rfl ?_
  intro p e s m args below meth c s₁ B hml hv
  obtain ⟨rfl, hC, hP⟩ := hv
  have C0 : g_mc p s m _ meth c RX2 cX2_ofRound (some .int) 6 G := ⟨B.exec, B.bytes, B.returns, hml, findClass_of_methodNamed B.named, fun w h => atoms_spec (ws := wz yX2_ofRound cX2_ofRound 6 (some .int)) B.pre w (List.mem_cons_of_mem _ h), B.notSynchronized, hC⟩
  have hl := lv_entry ([.ref (G.2.1 2 0), .ref (G.2.1 1 t1), .int x2]) (n := 6) (Nat.le_of_ble_eq_true rfl)
  rw [lg_entry_eq]
  generalize (lg_sl ([.ref (G.2.1 2 0), .ref (G.2.1 1 t1), .int x2]) ++ List.replicate (6 - (lg_sl ([.ref (G.2.1 2 0), .ref (G.2.1 1 t1), .int x2])).length) Slot.unset).toArray = ls at hl ⊢
  exact wk_X2_ofRound C0  t1 ht1 x2 X hf hP va_S.rf hl
abbrev rm_X11_isSafe : Room := { frames := 4, cells := 0, slots := 0, locals := 97 }
def fn_X11_isSafe (x1 : Int32) (X : SM) : Option (Int32 × SM) :=
  if g_in x1 6 then
  g_let ((6 * 0 + (x1.toNatClampNeg))) fun t2_3 =>
  if (X 9 t2_3 7) = 0 then
  (some (0, X))
  else
  (if g_in x1 6 then
    if (X 35 0 (x1.toNatClampNeg)) = 0 then
    (some (0, X))
    else
    ((fn_X2_isPlain t2_3 X).bind fun r_7 =>
      if r_7 = 0 then
      (some (0, X))
      else
      ((fn_X2_ofRound t2_3 1 X).bind fun (r_10, X_11) =>
        (fn_X10_ticksOf x1 r_10 1 X_11).bind fun r_13 =>
        if r_13 = (-1) then
        (some (0, X_11))
        else
        (if g_in x1 6 then
          if (X_11 35 0 (x1.toNatClampNeg)) < r_13 then
          (some (0, X_11))
          else
          (some (1, X_11))
          else none)))
    else none)
  else none
set_option maxRecDepth 100000 in
set_option maxHeartbeats 4000000 in
theorem wk_X11_isSafe {p : Program} {l : Launch} {e : Env} {s : State} {m : MethodId} {args : Array Value} {below : List Frame} {meth : Method} {c : Code} {G : GP} {M : SM} {τ : SL} (C0 : g_mc p s m args meth c RX11 cX11_isSafe (some .boolean) 4 G) {r0 : Int32} {X0 : SM} (x1 : Int32) (X : SM) (hf : fn_X11_isSafe x1 X = some (r0, X0)) {H : Heap} {locs : List Loc} (hP : va_P G.1 g_cl (wd G (cb X M) τ) H) (hS : va_S (g_A G) s.heap H locs) {ls : Array Slot} (hl : lv_has ls 4 [(0, .ref (G.2.1 11 0)), (1, .int x1)]) : W p l e rm_X11_isSafe s m args below meth c H locs 0 0 (MQ below (va_Qi (fun r u => r = r0 ∧ u = (X0, M, τ)) (g_pw G) (g_A G)) args s 0 0 (g_A G)) (F0 m 0 ls []) := by
  obtain ⟨hx, hb, hr, hml, hown, hts, hlocks, hC⟩ := id C0
  unfold fn_X11_isSafe at hf
  refine lv_aload_n hx hb dX11_isSafe_0 rfl (lv_at hl 0 rfl) ?_
  refine gt_11_2 hx hb hts hown hC hP Nat.zero_lt_one q2_0 dX11_isSafe_1 ?_
  refine gt_7_0 hx hb hts hown hC hP (by decide) q7_21 dX11_isSafe_4 ?_
  refine lv_iload_n hx hb dX11_isSafe_7 rfl (lv_at hl 1 rfl) ?_
  obtain ⟨hg_1, hf⟩ := g_gd hf
  have hq_2 : 6 * 0 + (x1.toNatClampNeg) < 12 := by have h8 := g_in_lt (n := 6) hg_1; have h9 : 0 < 2 := (by decide); omega
  refine xaldS hx hb hC hP (by decide) hg_1 dX11_isSafe_8 ?_
  obtain ⟨t2_3, et2_3, hf⟩ := g_letE hf
  refine lv_toprE et2_3 ?_
  have ht2_3 : t2_3 < 12 := by rw [← et2_3]; exact hq_2
  refine lv_astore_n (lv' := [(2, .ref (G.2.1 9 t2_3)), (0, .ref (G.2.1 11 0)), (1, .int x1)]) hx hb dX11_isSafe_9 rfl hl (by decide) rfl (fun ls hl => ?_)
  refine lv_aload_n hx hb dX11_isSafe_10 rfl (lv_at hl 0 rfl) ?_
  refine gt_9_7 hx hb hts hown hC hP ht2_3 q11_12 dX11_isSafe_11 ?_
  refine lv_if_eq (tgt := 40) hx hb dX11_isSafe_14 (by decide) (fun hc_4 => ?_) (fun hc_4 => ?_)
  · have hf := g_pos hf hc_4
    refine lv_iconst (v := 0) hx hb dX11_isSafe_40 (by decide) ?_
    cases hf
    exact x_zret hx hb hlocks hC hP hS hr (Or.inl rfl) dX11_isSafe_41
  · have hf := g_neg hf hc_4
    refine lv_aload_n hx hb dX11_isSafe_17 rfl (lv_at hl 1 rfl) ?_
    refine gt_11_6 hx hb hts hown hC hP Nat.zero_lt_one q2_11 dX11_isSafe_18 ?_
    refine lv_iload_n hx hb dX11_isSafe_21 rfl (lv_at hl 2 rfl) ?_
    obtain ⟨hg_5, hf⟩ := g_gd hf
    refine xildX (k := 35) (n := 6) hx hb hC hP (fun _ _ => rfl) rfl Nat.zero_lt_one hg_5 dX11_isSafe_22 ?_
    refine lv_if_eq (tgt := 40) hx hb dX11_isSafe_23 (by decide) (fun hc_6 => ?_) (fun hc_6 => ?_)
    · have hf := g_pos hf hc_6
      refine lv_iconst (v := 0) hx hb dX11_isSafe_40 (by decide) ?_
      cases hf
      exact x_zret hx hb hlocks hC hP hS hr (Or.inl rfl) dX11_isSafe_41
    · have hf := g_neg hf hc_6
      refine lv_aload_n hx hb dX11_isSafe_26 rfl (lv_at hl 1 rfl) ?_
      refine gt_11_4 hx hb hts hown hC hP Nat.zero_lt_one q2_5 dX11_isSafe_27 ?_
      refine lv_aload_n hx hb dX11_isSafe_30 rfl (lv_at hl 0 rfl) ?_
      refine gt_9_1 hx hb hts hown hC hP ht2_3 q7_22 dX11_isSafe_31 ?_
      obtain ⟨r_7, hc_8, hf⟩ := g_bindE hf
      refine x_calli (v := (X, M, τ)) (va_runV (As := [.ref (G.2.1 1 t2_3)]) (rest := []) ⟨hx, hb, hml, hown, hts⟩ (ct_X2_isPlain l G X M τ t2_3 ht2_3 hc_8) (cwV 1 hts gd_X11_237 rfl rfl rfl hd_X2_isPlain ⟨Nat.le_of_ble_eq_true rfl, Nat.le_of_ble_eq_true rfl⟩) (x_preV (u := (X, M, τ)) (k := 2) (ci := 2) hC hS hP Nat.zero_lt_one rfl rfl) rfl rfl hl.1 rfl (lv_room (Nat.le_of_ble_eq_true rfl)) dX11_isSafe_34 ⟨Nat.zero_le _, Nat.zero_le _⟩) hS (fun H locs hP hS => ?_)
      refine lv_if_ne (tgt := 42) hx hb dX11_isSafe_37 (by decide) (fun hc_9 => ?_) (fun hc_9 => ?_)
      · have hf := g_neg hf hc_9
        refine lv_aload_n hx hb dX11_isSafe_42 rfl (lv_at hl 1 rfl) ?_
        refine gt_11_0 hx hb hts hown hC hP Nat.zero_lt_one q1_16 dX11_isSafe_43 ?_
        refine lv_iload_n hx hb dX11_isSafe_46 rfl (lv_at hl 2 rfl) ?_
        refine lv_aload_n hx hb dX11_isSafe_47 rfl (lv_at hl 1 rfl) ?_
        refine gt_11_4 hx hb hts hown hC hP Nat.zero_lt_one q2_5 dX11_isSafe_48 ?_
        refine lv_aload_n hx hb dX11_isSafe_51 rfl (lv_at hl 0 rfl) ?_
        refine gt_9_1 hx hb hts hown hC hP ht2_3 q7_22 dX11_isSafe_52 ?_
        refine lv_iconst (v := 1) hx hb dX11_isSafe_55 (by decide) ?_
        obtain ⟨⟨r_10, X_11⟩, hc_12, hf⟩ := g_bindE hf
        refine x_calli (v := (X_11, M, τ)) (va_runV (As := [.ref (G.2.1 1 t2_3), .int 1]) (rest := [.int x1, .ref (G.2.1 10 0)]) ⟨hx, hb, hml, hown, hts⟩ (ct_X2_ofRound l G X M τ t2_3 ht2_3 1 hc_12) (cwV 2 hts gd_X11_241 rfl rfl rfl hd_X2_ofRound ⟨Nat.le_of_ble_eq_true rfl, Nat.le_of_ble_eq_true rfl⟩) (x_preV (u := (X, M, τ)) (k := 2) (ci := 2) hC hS hP Nat.zero_lt_one rfl rfl) rfl rfl hl.1 rfl (lv_room (Nat.le_of_ble_eq_true rfl)) dX11_isSafe_56 ⟨Nat.zero_le _, Nat.zero_le _⟩) hS (fun H locs hP hS => ?_)
        refine lv_iconst (v := 1) hx hb dX11_isSafe_59 (by decide) ?_
        obtain ⟨r_13, hc_14, hf⟩ := g_bindE hf
        refine x_calli (v := (X_11, M, τ)) (va_runV (As := [.int x1, .int r_10, .int 1]) (rest := []) ⟨hx, hb, hml, hown, hts⟩ (ct_X10_ticksOf l G X_11 M τ x1 r_10 1 hc_14) (cwV 3 hts gd_X11_245 rfl rfl rfl hd_X10_ticksOf ⟨Nat.le_of_ble_eq_true rfl, Nat.le_of_ble_eq_true rfl⟩) (x_preV (u := (X_11, M, τ)) (k := 10) (ci := 10) hC hS hP Nat.zero_lt_one rfl rfl) rfl rfl hl.1 rfl (lv_room (Nat.le_of_ble_eq_true rfl)) dX11_isSafe_60 ⟨Nat.zero_le _, Nat.zero_le _⟩) hS (fun H locs hP hS => ?_)
        refine lv_istore_n (lv' := [(3, .int r_13), (2, .ref (G.2.1 9 t2_3)), (0, .ref (G.2.1 11 0)), (1, .int x1)]) hx hb dX11_isSafe_63 rfl hl (by decide) rfl (fun ls hl => ?_)
        refine lv_iload_n hx hb dX11_isSafe_64 rfl (lv_at hl 0 rfl) ?_
        refine lv_iconst (v := (-1)) hx hb dX11_isSafe_65 (by decide) ?_
        refine lv_icmp_eq (tgt := 83) hx hb dX11_isSafe_66 (by decide) (fun hc_15 => ?_) (fun hc_15 => ?_)
        · have hf := g_pos hf hc_15
          refine lv_iconst (v := 0) hx hb dX11_isSafe_83 (by decide) ?_
          cases hf
          exact x_zret hx hb hlocks hC hP hS hr (Or.inl rfl) dX11_isSafe_84
        · have hf := g_neg hf hc_15
          refine lv_aload_n hx hb dX11_isSafe_69 rfl (lv_at hl 2 rfl) ?_
          refine gt_11_6 hx hb hts hown hC hP Nat.zero_lt_one q2_11 dX11_isSafe_70 ?_
          refine lv_iload_n hx hb dX11_isSafe_73 rfl (lv_at hl 3 rfl) ?_
          obtain ⟨hg_16, hf⟩ := g_gd hf
          refine xildX (k := 35) (n := 6) hx hb hC hP (fun _ _ => rfl) rfl Nat.zero_lt_one hg_16 dX11_isSafe_74 ?_
          refine lv_iload_n hx hb dX11_isSafe_75 rfl (lv_at hl 0 rfl) ?_
          refine lv_icmp_lt (tgt := 83) hx hb dX11_isSafe_76 (by decide) (fun hc_17 => ?_) (fun hc_17 => ?_)
          · have hf := g_pos hf hc_17
            refine lv_iconst (v := 0) hx hb dX11_isSafe_83 (by decide) ?_
            cases hf
            exact x_zret hx hb hlocks hC hP hS hr (Or.inl rfl) dX11_isSafe_84
          · have hf := g_neg hf hc_17
            refine lv_iconst (v := 1) hx hb dX11_isSafe_79 (by decide) ?_
            refine lv_goto (tgt := 84) hx hb dX11_isSafe_80 (by decide) ?_
            cases hf
            exact x_zret hx hb hlocks hC hP hS hr (Or.inr rfl) dX11_isSafe_84
      · have hf := g_pos hf hc_9
        refine lv_iconst (v := 0) hx hb dX11_isSafe_40 (by decide) ?_
        cases hf
        exact x_zret hx hb hlocks hC hP hS hr (Or.inl rfl) dX11_isSafe_41
set_option maxRecDepth 100000 in
set_option maxHeartbeats 4000000 in
theorem ct_X11_isSafe (l : Launch) (G : GP) (X M : SM) (τ : SL) (x1 : Int32) {r0 : Int32} {X0 : SM} (hf : fn_X11_isSafe x1 X = some (r0, X0)) : Met l yX11_isSafe (wz yX11_isSafe cX11_isSafe 4 (some .boolean)) rm_X11_isSafe (va_Pc [.ref (G.2.1 11 0), .int x1] (g_pw G (X, M, τ))) (va_Qi (fun r u => r = r0 ∧ u = (X0, M, τ)) (g_pw G) (g_A G)) 0 0 (g_A G) := by
  refine Met.ofW (cc := cX11_isSafe) (maxL := 4) (ret := (some .boolean)) (by decide +kernel) rfl ?_
  intro p e s m args below meth c s₁ B hml hv
  obtain ⟨rfl, hC, hP⟩ := hv
  have C0 : g_mc p s m _ meth c RX11 cX11_isSafe (some .boolean) 4 G := ⟨B.exec, B.bytes, B.returns, hml, findClass_of_methodNamed B.named, fun w h => atoms_spec (ws := wz yX11_isSafe cX11_isSafe 4 (some .boolean)) B.pre w (List.mem_cons_of_mem _ h), B.notSynchronized, hC⟩
  have hl := lv_entry ([.ref (G.2.1 11 0), .int x1]) (n := 4) (Nat.le_of_ble_eq_true rfl)
  rw [lg_entry_eq]
  generalize (lg_sl ([.ref (G.2.1 11 0), .int x1]) ++ List.replicate (4 - (lg_sl ([.ref (G.2.1 11 0), .int x1])).length) Slot.unset).toArray = ls at hl ⊢
  exact wk_X11_isSafe C0  x1 X hf hP va_S.rf hl
abbrev rm_X11_bound : Room := { frames := 5, cells := 0, slots := 0, locals := 120 }
def fn_X11_bound (x1 : Int32) (x2 : Int32) (X : SM) : Option (Int32 × SM) :=
  g_let (fn_X11_isThread x1) fun r_1 =>
  if r_1 = 0 then
  (some ((-1), X))
  else
  (if x2 < 0 then
    (some ((-1), X))
    else
    (if x2 ≤ 5 then
      (if x2 = 5 then
        ((fn_X11_isSafe x1 X).bind fun (r_35, X_36) =>
          if r_35 = 0 then
          (some (0, X_36))
          else
          (some (1, X_36)))
        else
        (if g_in x1 6 then
          g_let ((6 * 0 + (x1.toNatClampNeg))) fun t3_9 =>
          (fn_X2_isPlain t3_9 X).bind fun r_10 =>
          if x2 = 0 then
          (if r_10 = 0 then
            (some (0, X))
            else
            (some (1, X)))
          else
          (if r_10 = 0 then
            (some ((-1), X))
            else
            (if x2 = 2 then
              ((fn_X2_ofRound t3_9 1 X).bind fun (r_15, X_16) =>
                if 2 < x2 then
                ((fn_X10_ticksOf x1 r_15 1 X_16).bind fun r_19 =>
                  some (r_19, X_16))
                else
                (some (r_15, X_16)))
              else
              (if x2 = 4 then
                ((fn_X2_ofRound t3_9 1 X).bind fun (r_28, X_29) =>
                  if 2 < x2 then
                  ((fn_X10_ticksOf x1 r_28 1 X_29).bind fun r_32 =>
                    some (r_32, X_29))
                  else
                  (some (r_28, X_29)))
                else
                ((fn_X2_ofRound t3_9 0 X).bind fun (r_22, X_23) =>
                  if 2 < x2 then
                  ((fn_X10_ticksOf x1 r_22 0 X_23).bind fun r_26 =>
                    some (r_26, X_23))
                  else
                  (some (r_22, X_23))))))
          else none))
      else
      (some ((-1), X))))
set_option maxRecDepth 100000 in
set_option maxHeartbeats 4000000 in
theorem wk_X11_bound {p : Program} {l : Launch} {e : Env} {s : State} {m : MethodId} {args : Array Value} {below : List Frame} {meth : Method} {c : Code} {G : GP} {M : SM} {τ : SL} (C0 : g_mc p s m args meth c RX11 cX11_bound (some .int) 7 G) {r0 : Int32} {X0 : SM} (x1 : Int32) (x2 : Int32) (X : SM) (hf : fn_X11_bound x1 x2 X = some (r0, X0)) {H : Heap} {locs : List Loc} (hP : va_P G.1 g_cl (wd G (cb X M) τ) H) (hS : va_S (g_A G) s.heap H locs) {ls : Array Slot} (hl : lv_has ls 7 [(0, .ref (G.2.1 11 0)), (1, .int x1), (2, .int x2)]) : W p l e rm_X11_bound s m args below meth c H locs 0 0 (MQ below (va_Qi (fun r u => r = r0 ∧ u = (X0, M, τ)) (g_pw G) (g_A G)) args s 0 0 (g_A G)) (F0 m 0 ls []) := by
  obtain ⟨hx, hb, hr, hml, hown, hts, hlocks, hC⟩ := id C0
  unfold fn_X11_bound at hf
  refine lv_iload_n hx hb dX11_bound_0 rfl (lv_at hl 1 rfl) ?_
  obtain ⟨r_1, hc_2, hf⟩ := g_letE hf
  refine x_calli (v := (X, M, τ)) (va_runS (As := [.int x1]) (rest := []) ⟨hx, hb, hml, hown, hts⟩ (ct_X11_isThread l G X M τ x1 hc_2) (cwS 1 hts gd_X11_56 rfl rfl rfl hd_X11_isThread ⟨Nat.le_of_ble_eq_true rfl, Nat.le_of_ble_eq_true rfl⟩) (x_pre (u := (X, M, τ)) hC hS hP) rfl rfl hl.1 rfl (lv_room (Nat.le_of_ble_eq_true rfl)) dX11_bound_1 ⟨Nat.zero_le _, Nat.zero_le _⟩) hS (fun H locs hP hS => ?_)
  refine lv_if_eq (tgt := 16) hx hb dX11_bound_4 (by decide) (fun hc_3 => ?_) (fun hc_3 => ?_)
  · have hf := g_pos hf hc_3
    refine lv_iconst (v := (-1)) hx hb dX11_bound_16 (by decide) ?_
    cases hf
    exact x_iret hx hb hlocks hC hP hS hr dX11_bound_17
  · have hf := g_neg hf hc_3
    refine lv_iload_n hx hb dX11_bound_7 rfl (lv_at hl 2 rfl) ?_
    refine lv_if_lt (tgt := 16) hx hb dX11_bound_8 (by decide) (fun hc_4 => ?_) (fun hc_4 => ?_)
    · have hf := g_pos hf hc_4
      refine lv_iconst (v := (-1)) hx hb dX11_bound_16 (by decide) ?_
      cases hf
      exact x_iret hx hb hlocks hC hP hS hr dX11_bound_17
    · have hf := g_neg hf hc_4
      refine lv_iload_n hx hb dX11_bound_11 rfl (lv_at hl 2 rfl) ?_
      refine lv_iconst (v := 5) hx hb dX11_bound_12 (by decide) ?_
      refine lv_icmp_le (tgt := 18) hx hb dX11_bound_13 (by decide) (fun hc_5 => ?_) (fun hc_5 => ?_)
      · have hf := g_pos hf hc_5
        refine lv_iload_n hx hb dX11_bound_18 rfl (lv_at hl 2 rfl) ?_
        refine lv_iconst (v := 5) hx hb dX11_bound_19 (by decide) ?_
        refine lv_icmp_ne (tgt := 37) hx hb dX11_bound_20 (by decide) (fun hc_6 => ?_) (fun hc_6 => ?_)
        · have hf := g_neg hf hc_6
          refine lv_aload_n hx hb dX11_bound_37 rfl (lv_at hl 0 rfl) ?_
          refine gt_11_2 hx hb hts hown hC hP Nat.zero_lt_one q2_0 dX11_bound_38 ?_
          refine gt_7_0 hx hb hts hown hC hP (by decide) q7_21 dX11_bound_41 ?_
          refine lv_iload_n hx hb dX11_bound_44 rfl (lv_at hl 1 rfl) ?_
          obtain ⟨hg_7, hf⟩ := g_gd hf
          have hq_8 : 6 * 0 + (x1.toNatClampNeg) < 12 := by have h8 := g_in_lt (n := 6) hg_7; have h9 : 0 < 2 := (by decide); omega
          refine xaldS hx hb hC hP (by decide) hg_7 dX11_bound_45 ?_
          refine gt_9_1 hx hb hts hown hC hP hq_8 q7_22 dX11_bound_46 ?_
          obtain ⟨t3_9, et3_9, hf⟩ := g_letE hf
          refine lv_toprE et3_9 ?_
          have ht3_9 : t3_9 < 12 := by rw [← et3_9]; exact hq_8
          refine lv_astore_n (lv' := [(3, .ref (G.2.1 1 t3_9)), (0, .ref (G.2.1 11 0)), (1, .int x1), (2, .int x2)]) hx hb dX11_bound_49 rfl hl (by decide) rfl (fun ls hl => ?_)
          refine lv_aload_n hx hb dX11_bound_50 rfl (lv_at hl 1 rfl) ?_
          refine gt_11_4 hx hb hts hown hC hP Nat.zero_lt_one q2_5 dX11_bound_51 ?_
          refine lv_aload_n hx hb dX11_bound_54 rfl (lv_at hl 0 rfl) ?_
          obtain ⟨r_10, hc_11, hf⟩ := g_bindE hf
          refine x_calli (v := (X, M, τ)) (va_runV (As := [.ref (G.2.1 1 t3_9)]) (rest := []) ⟨hx, hb, hml, hown, hts⟩ (ct_X2_isPlain l G X M τ t3_9 ht3_9 hc_11) (cwV 1 hts gd_X11_237 rfl rfl rfl hd_X2_isPlain ⟨Nat.le_of_ble_eq_true rfl, Nat.le_of_ble_eq_true rfl⟩) (x_preV (u := (X, M, τ)) (k := 2) (ci := 2) hC hS hP Nat.zero_lt_one rfl rfl) rfl rfl hl.1 rfl (lv_room (Nat.le_of_ble_eq_true rfl)) dX11_bound_55 ⟨Nat.zero_le _, Nat.zero_le _⟩) hS (fun H locs hP hS => ?_)
          refine lv_istore (lv' := [(4, .int r_10), (3, .ref (G.2.1 1 t3_9)), (0, .ref (G.2.1 11 0)), (1, .int x1), (2, .int x2)]) hx hb dX11_bound_58 hl (by decide) rfl (fun ls hl => ?_)
          refine lv_iload_n hx hb dX11_bound_60 rfl (lv_at hl 4 rfl) ?_
          refine lv_if_ne (tgt := 75) hx hb dX11_bound_61 (by decide) (fun hc_12 => ?_) (fun hc_12 => ?_)
          · have hf := g_neg hf hc_12
            refine lv_iload hx hb dX11_bound_75 (lv_at hl 0 rfl) ?_
            refine lv_if_ne (tgt := 82) hx hb dX11_bound_77 (by decide) (fun hc_13 => ?_) (fun hc_13 => ?_)
            · have hf := g_neg hf hc_13
              refine lv_iload_n hx hb dX11_bound_82 rfl (lv_at hl 4 rfl) ?_
              refine lv_iconst (v := 2) hx hb dX11_bound_83 (by decide) ?_
              refine lv_icmp_eq (tgt := 92) hx hb dX11_bound_84 (by decide) (fun hc_14 => ?_) (fun hc_14 => ?_)
              · have hf := g_pos hf hc_14
                refine lv_iconst (v := 1) hx hb dX11_bound_92 (by decide) ?_
                refine lv_goto (tgt := 97) hx hb dX11_bound_93 (by decide) ?_
                refine lv_istore (lv' := [(5, .int 1), (4, .int r_10), (3, .ref (G.2.1 1 t3_9)), (0, .ref (G.2.1 11 0)), (1, .int x1), (2, .int x2)]) hx hb dX11_bound_97 hl (by decide) rfl (fun ls hl => ?_)
                refine lv_aload_n hx hb dX11_bound_99 rfl (lv_at hl 3 rfl) ?_
                refine gt_11_4 hx hb hts hown hC hP Nat.zero_lt_one q2_5 dX11_bound_100 ?_
                refine lv_aload_n hx hb dX11_bound_103 rfl (lv_at hl 2 rfl) ?_
                refine lv_iload hx hb dX11_bound_104 (lv_at hl 0 rfl) ?_
                obtain ⟨⟨r_15, X_16⟩, hc_17, hf⟩ := g_bindE hf
                refine x_calli (v := (X_16, M, τ)) (va_runV (As := [.ref (G.2.1 1 t3_9), .int 1]) (rest := []) ⟨hx, hb, hml, hown, hts⟩ (ct_X2_ofRound l G X M τ t3_9 ht3_9 1 hc_17) (cwV 2 hts gd_X11_241 rfl rfl rfl hd_X2_ofRound ⟨Nat.le_of_ble_eq_true rfl, Nat.le_of_ble_eq_true rfl⟩) (x_preV (u := (X, M, τ)) (k := 2) (ci := 2) hC hS hP Nat.zero_lt_one rfl rfl) rfl rfl hl.1 rfl (lv_room (Nat.le_of_ble_eq_true rfl)) dX11_bound_106 ⟨Nat.zero_le _, Nat.zero_le _⟩) hS (fun H locs hP hS => ?_)
                refine lv_istore (lv' := [(6, .int r_15), (5, .int 1), (4, .int r_10), (3, .ref (G.2.1 1 t3_9)), (0, .ref (G.2.1 11 0)), (1, .int x1), (2, .int x2)]) hx hb dX11_bound_109 hl (by decide) rfl (fun ls hl => ?_)
                refine lv_iload_n hx hb dX11_bound_111 rfl (lv_at hl 6 rfl) ?_
                refine lv_iconst (v := 2) hx hb dX11_bound_112 (by decide) ?_
                refine lv_icmp_gt (tgt := 121) hx hb dX11_bound_113 (by decide) (fun hc_18 => ?_) (fun hc_18 => ?_)
                · have hf := g_pos hf hc_18
                  refine lv_aload_n hx hb dX11_bound_121 rfl (lv_at hl 4 rfl) ?_
                  refine gt_11_0 hx hb hts hown hC hP Nat.zero_lt_one q1_16 dX11_bound_122 ?_
                  refine lv_iload_n hx hb dX11_bound_125 rfl (lv_at hl 5 rfl) ?_
                  refine lv_iload hx hb dX11_bound_126 (lv_at hl 0 rfl) ?_
                  refine lv_iload hx hb dX11_bound_128 (lv_at hl 1 rfl) ?_
                  obtain ⟨r_19, hc_20, hf⟩ := g_bindE hf
                  refine x_calli (v := (X_16, M, τ)) (va_runV (As := [.int x1, .int r_15, .int 1]) (rest := []) ⟨hx, hb, hml, hown, hts⟩ (ct_X10_ticksOf l G X_16 M τ x1 r_15 1 hc_20) (cwV 3 hts gd_X11_245 rfl rfl rfl hd_X10_ticksOf ⟨Nat.le_of_ble_eq_true rfl, Nat.le_of_ble_eq_true rfl⟩) (x_preV (u := (X_16, M, τ)) (k := 10) (ci := 10) hC hS hP Nat.zero_lt_one rfl rfl) rfl rfl hl.1 rfl (lv_room (Nat.le_of_ble_eq_true rfl)) dX11_bound_130 ⟨Nat.zero_le _, Nat.zero_le _⟩) hS (fun H locs hP hS => ?_)
                  cases hf
                  exact x_iret hx hb hlocks hC hP hS hr dX11_bound_133
                · have hf := g_neg hf hc_18
                  refine lv_iload hx hb dX11_bound_116 (lv_at hl 0 rfl) ?_
                  refine lv_goto (tgt := 133) hx hb dX11_bound_118 (by decide) ?_
                  cases hf
                  exact x_iret hx hb hlocks hC hP hS hr dX11_bound_133
              · have hf := g_neg hf hc_14
                refine lv_iload_n hx hb dX11_bound_87 rfl (lv_at hl 4 rfl) ?_
                refine lv_iconst (v := 4) hx hb dX11_bound_88 (by decide) ?_
                refine lv_icmp_ne (tgt := 96) hx hb dX11_bound_89 (by decide) (fun hc_21 => ?_) (fun hc_21 => ?_)
                · have hf := g_neg hf hc_21
                  refine lv_iconst (v := 0) hx hb dX11_bound_96 (by decide) ?_
                  refine lv_istore (lv' := [(5, .int 0), (4, .int r_10), (3, .ref (G.2.1 1 t3_9)), (0, .ref (G.2.1 11 0)), (1, .int x1), (2, .int x2)]) hx hb dX11_bound_97 hl (by decide) rfl (fun ls hl => ?_)
                  refine lv_aload_n hx hb dX11_bound_99 rfl (lv_at hl 3 rfl) ?_
                  refine gt_11_4 hx hb hts hown hC hP Nat.zero_lt_one q2_5 dX11_bound_100 ?_
                  refine lv_aload_n hx hb dX11_bound_103 rfl (lv_at hl 2 rfl) ?_
                  refine lv_iload hx hb dX11_bound_104 (lv_at hl 0 rfl) ?_
                  obtain ⟨⟨r_22, X_23⟩, hc_24, hf⟩ := g_bindE hf
                  refine x_calli (v := (X_23, M, τ)) (va_runV (As := [.ref (G.2.1 1 t3_9), .int 0]) (rest := []) ⟨hx, hb, hml, hown, hts⟩ (ct_X2_ofRound l G X M τ t3_9 ht3_9 0 hc_24) (cwV 2 hts gd_X11_241 rfl rfl rfl hd_X2_ofRound ⟨Nat.le_of_ble_eq_true rfl, Nat.le_of_ble_eq_true rfl⟩) (x_preV (u := (X, M, τ)) (k := 2) (ci := 2) hC hS hP Nat.zero_lt_one rfl rfl) rfl rfl hl.1 rfl (lv_room (Nat.le_of_ble_eq_true rfl)) dX11_bound_106 ⟨Nat.zero_le _, Nat.zero_le _⟩) hS (fun H locs hP hS => ?_)
                  refine lv_istore (lv' := [(6, .int r_22), (5, .int 0), (4, .int r_10), (3, .ref (G.2.1 1 t3_9)), (0, .ref (G.2.1 11 0)), (1, .int x1), (2, .int x2)]) hx hb dX11_bound_109 hl (by decide) rfl (fun ls hl => ?_)
                  refine lv_iload_n hx hb dX11_bound_111 rfl (lv_at hl 6 rfl) ?_
                  refine lv_iconst (v := 2) hx hb dX11_bound_112 (by decide) ?_
                  refine lv_icmp_gt (tgt := 121) hx hb dX11_bound_113 (by decide) (fun hc_25 => ?_) (fun hc_25 => ?_)
                  · have hf := g_pos hf hc_25
                    refine lv_aload_n hx hb dX11_bound_121 rfl (lv_at hl 4 rfl) ?_
                    refine gt_11_0 hx hb hts hown hC hP Nat.zero_lt_one q1_16 dX11_bound_122 ?_
                    refine lv_iload_n hx hb dX11_bound_125 rfl (lv_at hl 5 rfl) ?_
                    refine lv_iload hx hb dX11_bound_126 (lv_at hl 0 rfl) ?_
                    refine lv_iload hx hb dX11_bound_128 (lv_at hl 1 rfl) ?_
                    obtain ⟨r_26, hc_27, hf⟩ := g_bindE hf
                    refine x_calli (v := (X_23, M, τ)) (va_runV (As := [.int x1, .int r_22, .int 0]) (rest := []) ⟨hx, hb, hml, hown, hts⟩ (ct_X10_ticksOf l G X_23 M τ x1 r_22 0 hc_27) (cwV 3 hts gd_X11_245 rfl rfl rfl hd_X10_ticksOf ⟨Nat.le_of_ble_eq_true rfl, Nat.le_of_ble_eq_true rfl⟩) (x_preV (u := (X_23, M, τ)) (k := 10) (ci := 10) hC hS hP Nat.zero_lt_one rfl rfl) rfl rfl hl.1 rfl (lv_room (Nat.le_of_ble_eq_true rfl)) dX11_bound_130 ⟨Nat.zero_le _, Nat.zero_le _⟩) hS (fun H locs hP hS => ?_)
                    cases hf
                    exact x_iret hx hb hlocks hC hP hS hr dX11_bound_133
                  · have hf := g_neg hf hc_25
                    refine lv_iload hx hb dX11_bound_116 (lv_at hl 0 rfl) ?_
                    refine lv_goto (tgt := 133) hx hb dX11_bound_118 (by decide) ?_
                    cases hf
                    exact x_iret hx hb hlocks hC hP hS hr dX11_bound_133
                · have hf := g_pos hf hc_21
                  refine lv_iconst (v := 1) hx hb dX11_bound_92 (by decide) ?_
                  refine lv_goto (tgt := 97) hx hb dX11_bound_93 (by decide) ?_
                  refine lv_istore (lv' := [(5, .int 1), (4, .int r_10), (3, .ref (G.2.1 1 t3_9)), (0, .ref (G.2.1 11 0)), (1, .int x1), (2, .int x2)]) hx hb dX11_bound_97 hl (by decide) rfl (fun ls hl => ?_)
                  refine lv_aload_n hx hb dX11_bound_99 rfl (lv_at hl 3 rfl) ?_
                  refine gt_11_4 hx hb hts hown hC hP Nat.zero_lt_one q2_5 dX11_bound_100 ?_
                  refine lv_aload_n hx hb dX11_bound_103 rfl (lv_at hl 2 rfl) ?_
                  refine lv_iload hx hb dX11_bound_104 (lv_at hl 0 rfl) ?_
                  obtain ⟨⟨r_28, X_29⟩, hc_30, hf⟩ := g_bindE hf
                  refine x_calli (v := (X_29, M, τ)) (va_runV (As := [.ref (G.2.1 1 t3_9), .int 1]) (rest := []) ⟨hx, hb, hml, hown, hts⟩ (ct_X2_ofRound l G X M τ t3_9 ht3_9 1 hc_30) (cwV 2 hts gd_X11_241 rfl rfl rfl hd_X2_ofRound ⟨Nat.le_of_ble_eq_true rfl, Nat.le_of_ble_eq_true rfl⟩) (x_preV (u := (X, M, τ)) (k := 2) (ci := 2) hC hS hP Nat.zero_lt_one rfl rfl) rfl rfl hl.1 rfl (lv_room (Nat.le_of_ble_eq_true rfl)) dX11_bound_106 ⟨Nat.zero_le _, Nat.zero_le _⟩) hS (fun H locs hP hS => ?_)
                  refine lv_istore (lv' := [(6, .int r_28), (5, .int 1), (4, .int r_10), (3, .ref (G.2.1 1 t3_9)), (0, .ref (G.2.1 11 0)), (1, .int x1), (2, .int x2)]) hx hb dX11_bound_109 hl (by decide) rfl (fun ls hl => ?_)
                  refine lv_iload_n hx hb dX11_bound_111 rfl (lv_at hl 6 rfl) ?_
                  refine lv_iconst (v := 2) hx hb dX11_bound_112 (by decide) ?_
                  refine lv_icmp_gt (tgt := 121) hx hb dX11_bound_113 (by decide) (fun hc_31 => ?_) (fun hc_31 => ?_)
                  · have hf := g_pos hf hc_31
                    refine lv_aload_n hx hb dX11_bound_121 rfl (lv_at hl 4 rfl) ?_
                    refine gt_11_0 hx hb hts hown hC hP Nat.zero_lt_one q1_16 dX11_bound_122 ?_
                    refine lv_iload_n hx hb dX11_bound_125 rfl (lv_at hl 5 rfl) ?_
                    refine lv_iload hx hb dX11_bound_126 (lv_at hl 0 rfl) ?_
                    refine lv_iload hx hb dX11_bound_128 (lv_at hl 1 rfl) ?_
                    obtain ⟨r_32, hc_33, hf⟩ := g_bindE hf
                    refine x_calli (v := (X_29, M, τ)) (va_runV (As := [.int x1, .int r_28, .int 1]) (rest := []) ⟨hx, hb, hml, hown, hts⟩ (ct_X10_ticksOf l G X_29 M τ x1 r_28 1 hc_33) (cwV 3 hts gd_X11_245 rfl rfl rfl hd_X10_ticksOf ⟨Nat.le_of_ble_eq_true rfl, Nat.le_of_ble_eq_true rfl⟩) (x_preV (u := (X_29, M, τ)) (k := 10) (ci := 10) hC hS hP Nat.zero_lt_one rfl rfl) rfl rfl hl.1 rfl (lv_room (Nat.le_of_ble_eq_true rfl)) dX11_bound_130 ⟨Nat.zero_le _, Nat.zero_le _⟩) hS (fun H locs hP hS => ?_)
                    cases hf
                    exact x_iret hx hb hlocks hC hP hS hr dX11_bound_133
                  · have hf := g_neg hf hc_31
                    refine lv_iload hx hb dX11_bound_116 (lv_at hl 0 rfl) ?_
                    refine lv_goto (tgt := 133) hx hb dX11_bound_118 (by decide) ?_
                    cases hf
                    exact x_iret hx hb hlocks hC hP hS hr dX11_bound_133
            · have hf := g_pos hf hc_13
              refine lv_iconst (v := (-1)) hx hb dX11_bound_80 (by decide) ?_
              cases hf
              exact x_iret hx hb hlocks hC hP hS hr dX11_bound_81
          · have hf := g_pos hf hc_12
            refine lv_iload hx hb dX11_bound_64 (lv_at hl 0 rfl) ?_
            refine lv_if_eq (tgt := 73) hx hb dX11_bound_66 (by decide) (fun hc_34 => ?_) (fun hc_34 => ?_)
            · have hf := g_pos hf hc_34
              refine lv_iconst (v := 0) hx hb dX11_bound_73 (by decide) ?_
              cases hf
              exact x_iret hx hb hlocks hC hP hS hr dX11_bound_74
            · have hf := g_neg hf hc_34
              refine lv_iconst (v := 1) hx hb dX11_bound_69 (by decide) ?_
              refine lv_goto (tgt := 74) hx hb dX11_bound_70 (by decide) ?_
              cases hf
              exact x_iret hx hb hlocks hC hP hS hr dX11_bound_74
        · have hf := g_pos hf hc_6
          refine lv_aload_n hx hb dX11_bound_23 rfl (lv_at hl 0 rfl) ?_
          refine lv_iload_n hx hb dX11_bound_24 rfl (lv_at hl 1 rfl) ?_
          obtain ⟨⟨r_35, X_36⟩, hc_37, hf⟩ := g_bindE hf
          refine x_calli (v := (X_36, M, τ)) (va_runV (As := [.int x1]) (rest := []) ⟨hx, hb, hml, hown, hts⟩ (ct_X11_isSafe l G X M τ x1 hc_37) (cwV 1 hts gd_X11_234 rfl rfl rfl hd_X11_isSafe ⟨Nat.le_of_ble_eq_true rfl, Nat.le_of_ble_eq_true rfl⟩) (x_preV (u := (X, M, τ)) (k := 11) (ci := 11) hC hS hP Nat.zero_lt_one rfl rfl) rfl rfl hl.1 rfl (lv_room (Nat.le_of_ble_eq_true rfl)) dX11_bound_25 ⟨Nat.zero_le _, Nat.zero_le _⟩) hS (fun H locs hP hS => ?_)
          refine lv_if_eq (tgt := 35) hx hb dX11_bound_28 (by decide) (fun hc_38 => ?_) (fun hc_38 => ?_)
          · have hf := g_pos hf hc_38
            refine lv_iconst (v := 0) hx hb dX11_bound_35 (by decide) ?_
            cases hf
            exact x_iret hx hb hlocks hC hP hS hr dX11_bound_36
          · have hf := g_neg hf hc_38
            refine lv_iconst (v := 1) hx hb dX11_bound_31 (by decide) ?_
            refine lv_goto (tgt := 36) hx hb dX11_bound_32 (by decide) ?_
            cases hf
            exact x_iret hx hb hlocks hC hP hS hr dX11_bound_36
      · have hf := g_neg hf hc_5
        refine lv_iconst (v := (-1)) hx hb dX11_bound_16 (by decide) ?_
        cases hf
        exact x_iret hx hb hlocks hC hP hS hr dX11_bound_17
set_option maxRecDepth 100000 in
set_option maxHeartbeats 4000000 in
theorem ct_X11_bound (l : Launch) (G : GP) (X M : SM) (τ : SL) (x1 : Int32) (x2 : Int32) {r0 : Int32} {X0 : SM} (hf : fn_X11_bound x1 x2 X = some (r0, X0)) : Met l yX11_bound (wz yX11_bound cX11_bound 7 (some .int)) rm_X11_bound (va_Pc [.ref (G.2.1 11 0), .int x1, .int x2] (g_pw G (X, M, τ))) (va_Qi (fun r u => r = r0 ∧ u = (X0, M, τ)) (g_pw G) (g_A G)) 0 0 (g_A G) := by
  refine Met.ofW (cc := cX11_bound) (maxL := 7) (ret := (some .int)) (by decide +kernel) rfl ?_
  intro p e s m args below meth c s₁ B hml hv
  obtain ⟨rfl, hC, hP⟩ := hv
  have C0 : g_mc p s m _ meth c RX11 cX11_bound (some .int) 7 G := ⟨B.exec, B.bytes, B.returns, hml, findClass_of_methodNamed B.named, fun w h => atoms_spec (ws := wz yX11_bound cX11_bound 7 (some .int)) B.pre w (List.mem_cons_of_mem _ h), B.notSynchronized, hC⟩
  have hl := lv_entry ([.ref (G.2.1 11 0), .int x1, .int x2]) (n := 7) (Nat.le_of_ble_eq_true rfl)
  rw [lg_entry_eq]
  generalize (lg_sl ([.ref (G.2.1 11 0), .int x1, .int x2]) ++ List.replicate (7 - (lg_sl ([.ref (G.2.1 11 0), .int x1, .int x2])).length) Slot.unset).toArray = ls at hl ⊢
  exact wk_X11_bound C0  x1 x2 X hf hP va_S.rf hl
