abbrev rm_X11_ahead : Room := { frames := 8, cells := 1, slots := 6, locals := 148 }
def wb_X11_ahead_48 (k48 : Int32 → Int32 → Int32 → Int32 → SM → Option (Option Int32 × SM)) (x1 : Int32) (x2 : Int32) (x3 : Int32) (x4 : Int32) (X : SM) : Option (Option Int32 × SM) :=
  if x3 ≤ x4 then
  (if g_in x1 6 then
    (fn_X9_read (6 * 1 + (x1.toNatClampNeg)) x2 X).bind fun r_14 =>
    some ((some r_14), X)
    else none)
  else
  ((fn_X7_tick 1 X).bind fun (r_16, X_17) =>
    g_let (x4 + 1) fun x4_19 =>
    k48 x1 x2 x3 x4_19 X_17)
set_option maxRecDepth 100000 in
set_option maxHeartbeats 4000000 in
theorem bk_X11_ahead_48 {p : Program} {l : Launch} {e : Env} {s : State} {m : MethodId} {args : Array Value} {below : List Frame} {meth : Method} {c : Code} {G : GP} {M : SM} {τ : SL} (C0 : g_mc p s m args meth c RX11 cX11_ahead (some .int) 5 G) (hno : ∀ x ∈ c.exceptionTable.toList, False) (hlt : l.stackTraces = false) {r0 : Option Int32} {X0 : SM} (k48 : Int32 → Int32 → Int32 → Int32 → SM → Option (Option Int32 × SM)) (hk48 : ∀ (x1 : Int32) (x2 : Int32) (x3 : Int32) (x4 : Int32) (X : SM), k48 x1 x2 x3 x4 X = some (r0, X0) → ∀ {H : Heap} {locs : List Loc}, va_P G.1 g_cl (wd G (cb X M) τ) H → va_S (g_A G) s.heap H locs → ∀ {ls : Array Slot}, lv_has ls 5 [(0, .ref (G.2.1 11 0)), (1, .int x1), (2, .int x2), (3, .int x3), (4, .int x4)] → W p l e rm_X11_ahead s m args below meth c H locs 0 0 (vx_MQ below (va_Qi (fun r u => r0 = some r ∧ u = (X0, M, τ)) (g_pw G) (g_A G)) (vx_X (fun u => r0 = none ∧ u = (X0, M, τ)) (fun E u t => E = "java/util/NoSuchElementException" ∧ va_P G.1 g_cl (wd G (cb u.1 u.2.1) u.2.2) t.heap) (g_A G)) args s 1 6 (g_A G)) (F0 m 48 ls [])) (x1 : Int32) (x2 : Int32) (x3 : Int32) (x4 : Int32) (X : SM) (hf : wb_X11_ahead_48 k48 x1 x2 x3 x4 X = some (r0, X0)) {H : Heap} {locs : List Loc} (hP : va_P G.1 g_cl (wd G (cb X M) τ) H) (hS : va_S (g_A G) s.heap H locs) {ls : Array Slot} (hl : lv_has ls 5 [(0, .ref (G.2.1 11 0)), (1, .int x1), (2, .int x2), (3, .int x3), (4, .int x4)]) : W p l e rm_X11_ahead s m args below meth c H locs 0 0 (vx_MQ below (va_Qi (fun r u => r0 = some r ∧ u = (X0, M, τ)) (g_pw G) (g_A G)) (vx_X (fun u => r0 = none ∧ u = (X0, M, τ)) (fun E u t => E = "java/util/NoSuchElementException" ∧ va_P G.1 g_cl (wd G (cb u.1 u.2.1) u.2.2) t.heap) (g_A G)) args s 1 6 (g_A G)) (F0 m 48 ls []) := by
  obtain ⟨hx, hb, hr, hml, hown, hts, hlocks, hC⟩ := id C0
  unfold wb_X11_ahead_48 at hf
  refine lv_iload hx hb dX11_ahead_48 (lv_at hl 4 rfl) ?_
  refine lv_iload_n hx hb dX11_ahead_50 rfl (lv_at hl 3 rfl) ?_
  refine lv_icmp_ge (tgt := 68) hx hb dX11_ahead_51 (by decide) (fun hc_11 => ?_) (fun hc_11 => ?_)
  · have hf := g_pos hf hc_11
    refine lv_aload_n hx hb dX11_ahead_68 rfl (lv_at hl 0 rfl) ?_
    refine gt_11_3 hx hb hts hown hC hP Nat.zero_lt_one q2_1 dX11_ahead_69 ?_
    refine gt_7_0 hx hb hts hown hC hP (by decide) q7_21 dX11_ahead_72 ?_
    refine lv_iload_n hx hb dX11_ahead_75 rfl (lv_at hl 1 rfl) ?_
    obtain ⟨hg_12, hf⟩ := g_gd hf
    have hq_13 : 6 * 1 + (x1.toNatClampNeg) < 12 := by have h8 := g_in_lt (n := 6) hg_12; have h9 : 1 < 2 := (by decide); omega
    refine xaldS hx hb hC hP (by decide) hg_12 dX11_ahead_76 ?_
    refine lv_iload_n hx hb dX11_ahead_77 rfl (lv_at hl 2 rfl) ?_
    obtain ⟨r_14, hc_15, hf⟩ := g_bindE hf
    refine x_calli (v := (X, M, τ)) (va_runV (As := [.int x2]) (rest := []) ⟨hx, hb, hml, hown, hts⟩ (ct_X9_read l G X M τ (6 * 1 + (x1.toNatClampNeg)) hq_13 x2 hc_15) (cwV 1 hts gd_X11_147 rfl rfl rfl hd_X9_read ⟨Nat.le_of_ble_eq_true rfl, Nat.le_of_ble_eq_true rfl⟩) (x_preV (u := (X, M, τ)) (k := 9) (ci := 9) hC hS hP hq_13 rfl rfl) rfl rfl hl.1 rfl (lv_room (Nat.le_of_ble_eq_true rfl)) dX11_ahead_78 ⟨Nat.zero_le _, Nat.zero_le _⟩) hS (fun H locs hP hS => ?_)
    cases hf
    refine W.widen (k := 1) (n := 6) (Nat.zero_le _) (Nat.zero_le _) ?_
    refine vx_ret ?_
    exact x_tret hx hb hlocks hC hP hS hr dX11_ahead_81
  · have hf := g_neg hf hc_11
    refine lv_aload_n hx hb dX11_ahead_54 rfl (lv_at hl 0 rfl) ?_
    refine gt_11_3 hx hb hts hown hC hP Nat.zero_lt_one q2_1 dX11_ahead_55 ?_
    obtain ⟨⟨r_16, X_17⟩, hc_18, hf⟩ := g_bindE hf
    refine x_calli (v := (X_17, M, τ)) (va_runV (As := []) (rest := []) ⟨hx, hb, hml, hown, hts⟩ (ct_X7_tick l G X M τ 1 (by decide) hc_18) (cwV 0 hts gd_X11_137 rfl rfl rfl hd_X7_tick ⟨Nat.le_of_ble_eq_true rfl, Nat.le_of_ble_eq_true rfl⟩) (x_preV (u := (X, M, τ)) (k := 7) (ci := 7) hC hS hP (by decide) rfl rfl) rfl rfl hl.1 rfl (lv_room (Nat.le_of_ble_eq_true rfl)) dX11_ahead_58 ⟨Nat.zero_le _, Nat.zero_le _⟩) hS (fun H locs hP hS => ?_)
    refine lv_pop hx hb dX11_ahead_61 rfl ?_
    obtain ⟨x4_19, ex4_19, hf⟩ := g_letE hf
    refine lv_iinc (v := x4_19) (lv' := [(4, .int x4_19), (0, .ref (G.2.1 11 0)), (1, .int x1), (2, .int x2), (3, .int x3)]) hx hb dX11_ahead_62 hl (k := 4) rfl (by rw [← ex4_19]; rfl) (by decide) rfl (fun ls hl => ?_)
    refine lv_goto (tgt := 48) hx hb dX11_ahead_65 (by decide) ?_
    exact hk48 x1 x2 x3 x4_19 X_17 hf hP hS (lv_sub hl [1, 2, 3, 4, 0] rfl)
def wl_X11_ahead_48 (n : Nat) (x1 : Int32) (x2 : Int32) (x3 : Int32) (x4 : Int32) (X : SM) : Option (Option Int32 × SM) := g_loop (α := Int32 × Int32 × Int32 × Int32 × SM) (fun k a => wb_X11_ahead_48 (fun x1 x2 x3 x4 X => k (x1, x2, x3, x4, X)) a.1 a.2.1 a.2.2.1 a.2.2.2.1 a.2.2.2.2) n (x1, x2, x3, x4, X)
set_option maxRecDepth 100000 in
set_option maxHeartbeats 4000000 in
theorem lp_X11_ahead_48 {p : Program} {l : Launch} {e : Env} {s : State} {m : MethodId} {args : Array Value} {below : List Frame} {meth : Method} {c : Code} {G : GP} {M : SM} {τ : SL} (C0 : g_mc p s m args meth c RX11 cX11_ahead (some .int) 5 G) (hno : ∀ x ∈ c.exceptionTable.toList, False) (hlt : l.stackTraces = false) {r0 : Option Int32} {X0 : SM} (n : Nat) : ∀ (x1 : Int32) (x2 : Int32) (x3 : Int32) (x4 : Int32) (X : SM), wl_X11_ahead_48 n x1 x2 x3 x4 X = some (r0, X0) → ∀ {H : Heap} {locs : List Loc}, va_P G.1 g_cl (wd G (cb X M) τ) H → va_S (g_A G) s.heap H locs → ∀ {ls : Array Slot}, lv_has ls 5 [(0, .ref (G.2.1 11 0)), (1, .int x1), (2, .int x2), (3, .int x3), (4, .int x4)] → W p l e rm_X11_ahead s m args below meth c H locs 0 0 (vx_MQ below (va_Qi (fun r u => r0 = some r ∧ u = (X0, M, τ)) (g_pw G) (g_A G)) (vx_X (fun u => r0 = none ∧ u = (X0, M, τ)) (fun E u t => E = "java/util/NoSuchElementException" ∧ va_P G.1 g_cl (wd G (cb u.1 u.2.1) u.2.2) t.heap) (g_A G)) args s 1 6 (g_A G)) (F0 m 48 ls []) := by
  induction n with
  | zero =>
    intro x1 x2 x3 x4 X hf
    have hf : (none : Option (Option Int32 × SM)) = _ := hf
    cases hf
  | succ n ih =>
    intro x1 x2 x3 x4 X hf H locs hP hS ls hl
    exact bk_X11_ahead_48 C0 hno hlt  (fun x1 x2 x3 x4 X => wl_X11_ahead_48   n x1 x2 x3 x4 X) ih x1 x2 x3 x4 X hf hP hS hl
def fn_X11_ahead (x1 : Int32) (x2 : Int32) (x3 : Int32) (X : SM) : Option (Option Int32 × SM) :=
  g_let (fn_X11_isThread x1) fun r_1 =>
  if r_1 = 0 then
  (some (none, X))
  else
  (g_let (fn_X11_isRegister x2) fun r_4 =>
    if r_4 = 0 then
    (some (none, X))
    else
    (if x3 < 1 then
      (some (none, X))
      else
      (if x3 ≤ 300 then
        ((fn_X7_copy 1 0 X).bind fun X_9 =>
          wl_X11_ahead_48 1000 x1 x2 x3 0 X_9)
        else
        (some (none, X)))))
set_option maxRecDepth 100000 in
set_option maxHeartbeats 4000000 in
theorem wk_X11_ahead {p : Program} {l : Launch} {e : Env} {s : State} {m : MethodId} {args : Array Value} {below : List Frame} {meth : Method} {c : Code} {G : GP} {M : SM} {τ : SL} (C0 : g_mc p s m args meth c RX11 cX11_ahead (some .int) 5 G) (hno : ∀ x ∈ c.exceptionTable.toList, False) (hlt : l.stackTraces = false) {r0 : Option Int32} {X0 : SM} (x1 : Int32) (x2 : Int32) (x3 : Int32) (X : SM) (hf : fn_X11_ahead x1 x2 x3 X = some (r0, X0)) {H : Heap} {locs : List Loc} (hP : va_P G.1 g_cl (wd G (cb X M) τ) H) (hS : va_S (g_A G) s.heap H locs) {ls : Array Slot} (hl : lv_has ls 5 [(0, .ref (G.2.1 11 0)), (1, .int x1), (2, .int x2), (3, .int x3)]) : W p l e rm_X11_ahead s m args below meth c H locs 0 0 (vx_MQ below (va_Qi (fun r u => r0 = some r ∧ u = (X0, M, τ)) (g_pw G) (g_A G)) (vx_X (fun u => r0 = none ∧ u = (X0, M, τ)) (fun E u t => E = "java/util/NoSuchElementException" ∧ va_P G.1 g_cl (wd G (cb u.1 u.2.1) u.2.2) t.heap) (g_A G)) args s 1 6 (g_A G)) (F0 m 0 ls []) := by
  obtain ⟨hx, hb, hr, hml, hown, hts, hlocks, hC⟩ := id C0
  unfold fn_X11_ahead at hf
  refine lv_iload_n hx hb dX11_ahead_0 rfl (lv_at hl 1 rfl) ?_
  obtain ⟨r_1, hc_2, hf⟩ := g_letE hf
  refine x_calli (v := (X, M, τ)) (va_runS (As := [.int x1]) (rest := []) ⟨hx, hb, hml, hown, hts⟩ (ct_X11_isThread l G X M τ x1 hc_2) (cwS 1 hts gd_X11_56 rfl rfl rfl hd_X11_isThread ⟨Nat.le_of_ble_eq_true rfl, Nat.le_of_ble_eq_true rfl⟩) (x_pre (u := (X, M, τ)) hC hS hP) rfl rfl hl.1 rfl (lv_room (Nat.le_of_ble_eq_true rfl)) dX11_ahead_1 ⟨Nat.zero_le _, Nat.zero_le _⟩) hS (fun H locs hP hS => ?_)
  refine lv_if_eq (tgt := 26) hx hb dX11_ahead_4 (by decide) (fun hc_3 => ?_) (fun hc_3 => ?_)
  · have hf := g_pos hf hc_3
    cases hf
    exact x_throw hx hb hlt hown hts hC hP hS (hl.1.trans hml.symm) dX11_ahead_26 dX11_ahead_29 dX11_ahead_30 dX11_ahead_33 hno (Nat.le_of_ble_eq_true rfl) (Nat.le_of_ble_eq_true rfl) hlocks
  · have hf := g_neg hf hc_3
    refine lv_iload_n hx hb dX11_ahead_7 rfl (lv_at hl 2 rfl) ?_
    obtain ⟨r_4, hc_5, hf⟩ := g_letE hf
    refine x_calli (v := (X, M, τ)) (va_runS (As := [.int x2]) (rest := []) ⟨hx, hb, hml, hown, hts⟩ (ct_X11_isRegister l G X M τ x2 hc_5) (cwS 1 hts gd_X11_141 rfl rfl rfl hd_X11_isRegister ⟨Nat.le_of_ble_eq_true rfl, Nat.le_of_ble_eq_true rfl⟩) (x_pre (u := (X, M, τ)) hC hS hP) rfl rfl hl.1 rfl (lv_room (Nat.le_of_ble_eq_true rfl)) dX11_ahead_8 ⟨Nat.zero_le _, Nat.zero_le _⟩) hS (fun H locs hP hS => ?_)
    refine lv_if_eq (tgt := 26) hx hb dX11_ahead_11 (by decide) (fun hc_6 => ?_) (fun hc_6 => ?_)
    · have hf := g_pos hf hc_6
      cases hf
      exact x_throw hx hb hlt hown hts hC hP hS (hl.1.trans hml.symm) dX11_ahead_26 dX11_ahead_29 dX11_ahead_30 dX11_ahead_33 hno (Nat.le_of_ble_eq_true rfl) (Nat.le_of_ble_eq_true rfl) hlocks
    · have hf := g_neg hf hc_6
      refine lv_iload_n hx hb dX11_ahead_14 rfl (lv_at hl 3 rfl) ?_
      refine lv_iconst (v := 1) hx hb dX11_ahead_15 (by decide) ?_
      refine lv_icmp_lt (tgt := 26) hx hb dX11_ahead_16 (by decide) (fun hc_7 => ?_) (fun hc_7 => ?_)
      · have hf := g_pos hf hc_7
        cases hf
        exact x_throw hx hb hlt hown hts hC hP hS (hl.1.trans hml.symm) dX11_ahead_26 dX11_ahead_29 dX11_ahead_30 dX11_ahead_33 hno (Nat.le_of_ble_eq_true rfl) (Nat.le_of_ble_eq_true rfl) hlocks
      · have hf := g_neg hf hc_7
        refine lv_iload_n hx hb dX11_ahead_19 rfl (lv_at hl 3 rfl) ?_
        refine lv_sipush (v := 300) hx hb dX11_ahead_20 (by decide) ?_
        refine lv_icmp_le (tgt := 34) hx hb dX11_ahead_23 (by decide) (fun hc_8 => ?_) (fun hc_8 => ?_)
        · have hf := g_pos hf hc_8
          refine lv_aload_n hx hb dX11_ahead_34 rfl (lv_at hl 0 rfl) ?_
          refine gt_11_3 hx hb hts hown hC hP Nat.zero_lt_one q2_1 dX11_ahead_35 ?_
          refine lv_aload_n hx hb dX11_ahead_38 rfl (lv_at hl 0 rfl) ?_
          refine gt_11_2 hx hb hts hown hC hP Nat.zero_lt_one q2_0 dX11_ahead_39 ?_
          obtain ⟨X_9, hc_10, hf⟩ := g_bindE hf
          refine x_callv (v := (X_9, M, τ)) (va_runV (As := [.ref (G.2.1 7 0)]) (rest := []) ⟨hx, hb, hml, hown, hts⟩ (ct_X7_copy l G X M τ 1 (by decide) 0 (by decide) hc_10) (cwV 1 hts gd_X11_249 rfl rfl rfl hd_X7_copy ⟨Nat.le_of_ble_eq_true rfl, Nat.le_of_ble_eq_true rfl⟩) (x_preV (u := (X, M, τ)) (k := 7) (ci := 7) hC hS hP (by decide) rfl rfl) rfl rfl hl.1 rfl (lv_room (Nat.le_of_ble_eq_true rfl)) dX11_ahead_42 ⟨Nat.zero_le _, Nat.zero_le _⟩) hS (fun H locs hP hS => ?_)
          refine lv_iconst (v := 0) hx hb dX11_ahead_45 (by decide) ?_
          refine lv_istore (lv' := [(4, .int 0), (0, .ref (G.2.1 11 0)), (1, .int x1), (2, .int x2), (3, .int x3)]) hx hb dX11_ahead_46 hl (by decide) rfl (fun ls hl => ?_)
          exact lp_X11_ahead_48 C0 hno hlt 1000 x1 x2 x3 0 X_9 hf hP hS (lv_sub hl [1, 2, 3, 4, 0] rfl)
        · have hf := g_neg hf hc_8
          cases hf
          exact x_throw hx hb hlt hown hts hC hP hS (hl.1.trans hml.symm) dX11_ahead_26 dX11_ahead_29 dX11_ahead_30 dX11_ahead_33 hno (Nat.le_of_ble_eq_true rfl) (Nat.le_of_ble_eq_true rfl) hlocks
set_option maxRecDepth 100000 in
set_option maxHeartbeats 4000000 in
theorem ct_X11_ahead (l : Launch) (hlt : l.stackTraces = false) (G : GP) (X M : SM) (τ : SL) (x1 : Int32) (x2 : Int32) (x3 : Int32) {r0 : Option Int32} {X0 : SM} (hf : fn_X11_ahead x1 x2 x3 X = some (r0, X0)) : vx_Met l yX11_ahead (wz yX11_ahead cX11_ahead 5 (some .int)) rm_X11_ahead (va_Pc [.ref (G.2.1 11 0), .int x1, .int x2, .int x3] (g_pw G (X, M, τ))) (va_Qi (fun r u => r0 = some r ∧ u = (X0, M, τ)) (g_pw G) (g_A G)) (vx_X (fun u => r0 = none ∧ u = (X0, M, τ)) (fun E u t => E = "java/util/NoSuchElementException" ∧ va_P G.1 g_cl (wd G (cb u.1 u.2.1) u.2.2) t.heap) (g_A G)) 1 6 (g_A G) := by
  refine vx_ofW (cc := cX11_ahead) (maxL := 5) (ret := (some .int)) (by decide +kernel) rfl ?_
  intro p e s m args below meth c s₁ B hml hno hv
  obtain ⟨rfl, hC, hP⟩ := hv
  have C0 : g_mc p s m _ meth c RX11 cX11_ahead (some .int) 5 G := ⟨B.exec, B.bytes, B.returns, hml, findClass_of_methodNamed B.named, fun w h => atoms_spec (ws := wz yX11_ahead cX11_ahead 5 (some .int)) B.pre w (List.mem_cons_of_mem _ h), B.notSynchronized, hC⟩
  have hl := lv_entry ([.ref (G.2.1 11 0), .int x1, .int x2, .int x3]) (n := 5) (Nat.le_of_ble_eq_true rfl)
  rw [lg_entry_eq]
  generalize (lg_sl ([.ref (G.2.1 11 0), .int x1, .int x2, .int x3]) ++ List.replicate (5 - (lg_sl ([.ref (G.2.1 11 0), .int x1, .int x2, .int x3])).length) Slot.unset).toArray = ls at hl ⊢
  exact wk_X11_ahead C0 hno hlt x1 x2 x3 X hf hP va_S.rf hl
abbrev rm_X9_rewind : Room := { frames := 1, cells := 0, slots := 0, locals := 23 }
def fn_X9_rewind (t0 : Nat) (X : SM) : SM :=
  g_let (uf X 33 t0 24 0) fun X_1 =>
  g_let (u1 X_1 9 t0 8 0) fun X_2 =>
  g_let (u1 X_2 9 t0 9 0) fun X_3 =>
  g_let (u1 X_3 9 t0 10 0) fun X_4 =>
  X_4
set_option maxRecDepth 100000 in
set_option maxHeartbeats 4000000 in
theorem wk_X9_rewind {p : Program} {l : Launch} {e : Env} {s : State} {m : MethodId} {args : Array Value} {below : List Frame} {meth : Method} {c : Code} {G : GP} {M : SM} {τ : SL} (C0 : g_mc p s m args meth c RX9 cX9_rewind none 1 G) {X0 : SM} (t0 : Nat) (ht0 : t0 < 12) (X : SM) (hf : fn_X9_rewind t0 X = X0) {H : Heap} {locs : List Loc} (hP : va_P G.1 g_cl (wd G (cb X M) τ) H) (hS : va_S (g_A G) s.heap H locs) {ls : Array Slot} (hl : lv_has ls 1 [(0, .ref (G.2.1 9 t0))]) : W p l e rm_X9_rewind s m args below meth c H locs 0 0 (MQ below (va_Qv (fun u => u = (X0, M, τ)) (g_pw G) (g_A G)) args s 0 0 (g_A G)) (F0 m 0 ls []) := by
  obtain ⟨hx, hb, hr, hml, hown, hts, hlocks, hC⟩ := id C0
  unfold fn_X9_rewind at hf
  refine lv_aload_n hx hb dX9_rewind_0 rfl (lv_at hl 0 rfl) ?_
  refine gt_9_5 hx hb hts hown hC hP ht0 q5_11 dX9_rewind_1 ?_
  refine lv_iconst (v := 0) hx hb dX9_rewind_4 (by decide) ?_
  obtain ⟨X_1, eX_1, hf⟩ := g_letE hf
  refine x_fillX (k := 33) (n := 24) (rest := []) hx hb hml hown hts hC hP hS (fun _ _ => rfl) rfl (by decide) ht0 q10_8 hl.1 (lv_room (Nat.le_of_ble_eq_true rfl)) dX9_rewind_5 ⟨Nat.le_of_ble_eq_true rfl, Nat.le_of_ble_eq_true rfl⟩ ⟨Nat.zero_le _, Nat.zero_le _⟩ (fun H locs hP hS => ?_)
  rw [eX_1] at hP
  refine lv_aload_n hx hb dX9_rewind_8 rfl (lv_at hl 0 rfl) ?_
  refine lv_iconst (v := 0) hx hb dX9_rewind_9 (by decide) ?_
  obtain ⟨X_2, eX_2, hf⟩ := g_letE hf
  refine pt_9_8 hx hb hts hown hC hP hS ht0 q10_7 dX9_rewind_10 (fun H locs hP hS => ?_)
  rw [eX_2] at hP
  refine lv_aload_n hx hb dX9_rewind_13 rfl (lv_at hl 0 rfl) ?_
  refine lv_iconst (v := 0) hx hb dX9_rewind_14 (by decide) ?_
  obtain ⟨X_3, eX_3, hf⟩ := g_letE hf
  refine pt_9_9 hx hb hts hown hC hP hS ht0 q5_14 dX9_rewind_15 (fun H locs hP hS => ?_)
  rw [eX_3] at hP
  refine lv_aload_n hx hb dX9_rewind_18 rfl (lv_at hl 0 rfl) ?_
  refine lv_iconst (v := 0) hx hb dX9_rewind_19 (by decide) ?_
  obtain ⟨X_4, eX_4, hf⟩ := g_letE hf
  refine pt_9_10 hx hb hts hown hC hP hS ht0 q5_15 dX9_rewind_20 (fun H locs hP hS => ?_)
  rw [eX_4] at hP
  cases hf
  exact x_vret hx hb hlocks hC hP hS hr dX9_rewind_23
set_option maxRecDepth 100000 in
set_option maxHeartbeats 4000000 in
theorem ct_X9_rewind (l : Launch) (G : GP) (X M : SM) (τ : SL) (t0 : Nat) (ht0 : t0 < 12) {X0 : SM} (hf : fn_X9_rewind t0 X = X0) : Met l yX9_rewind (wz yX9_rewind cX9_rewind 1 none) rm_X9_rewind (va_Pc [.ref (G.2.1 9 t0)] (g_pw G (X, M, τ))) (va_Qv (fun u => u = (X0, M, τ)) (g_pw G) (g_A G)) 0 0 (g_A G) := by
  refine Met.ofW (cc := cX9_rewind) (maxL := 1) (ret := none) (by decide +kernel) rfl ?_
  intro p e s m args below meth c s₁ B hml hv
  obtain ⟨rfl, hC, hP⟩ := hv
  have C0 : g_mc p s m _ meth c RX9 cX9_rewind none 1 G := ⟨B.exec, B.bytes, B.returns, hml, findClass_of_methodNamed B.named, fun w h => atoms_spec (ws := wz yX9_rewind cX9_rewind 1 none) B.pre w (List.mem_cons_of_mem _ h), B.notSynchronized, hC⟩
  have hl := lv_entry ([.ref (G.2.1 9 t0)]) (n := 1) (Nat.le_of_ble_eq_true rfl)
  rw [lg_entry_eq]
  generalize (lg_sl ([.ref (G.2.1 9 t0)]) ++ List.replicate (1 - (lg_sl ([.ref (G.2.1 9 t0)])).length) Slot.unset).toArray = ls at hl ⊢
  exact wk_X9_rewind C0  t0 ht0 X hf hP va_S.rf hl
abbrev rm_X9_empty : Room := { frames := 2, cells := 0, slots := 0, locals := 43 }
def fn_X9_empty (t0 : Nat) (X : SM) : SM :=
  g_let (u1 X 1 t0 4 0) fun X_1 =>
  g_let (fn_X9_rewind t0 X_1) fun X_2 =>
  X_2
set_option maxRecDepth 100000 in
set_option maxHeartbeats 4000000 in
theorem wk_X9_empty {p : Program} {l : Launch} {e : Env} {s : State} {m : MethodId} {args : Array Value} {below : List Frame} {meth : Method} {c : Code} {G : GP} {M : SM} {τ : SL} (C0 : g_mc p s m args meth c RX9 cX9_empty none 1 G) {X0 : SM} (t0 : Nat) (ht0 : t0 < 12) (X : SM) (hf : fn_X9_empty t0 X = X0) {H : Heap} {locs : List Loc} (hP : va_P G.1 g_cl (wd G (cb X M) τ) H) (hS : va_S (g_A G) s.heap H locs) {ls : Array Slot} (hl : lv_has ls 1 [(0, .ref (G.2.1 9 t0))]) : W p l e rm_X9_empty s m args below meth c H locs 0 0 (MQ below (va_Qv (fun u => u = (X0, M, τ)) (g_pw G) (g_A G)) args s 0 0 (g_A G)) (F0 m 0 ls []) := by
  obtain ⟨hx, hb, hr, hml, hown, hts, hlocks, hC⟩ := id C0
  unfold fn_X9_empty at hf
  refine lv_aload_n hx hb dX9_empty_0 rfl (lv_at hl 0 rfl) ?_
  refine gt_9_1 hx hb hts hown hC hP ht0 q5_4 dX9_empty_1 ?_
  refine lv_iconst (v := 0) hx hb dX9_empty_4 (by decide) ?_
  obtain ⟨X_1, eX_1, hf⟩ := g_letE hf
  refine pt_1_4 hx hb hts hown hC hP hS ht0 q10_2 dX9_empty_5 (fun H locs hP hS => ?_)
  rw [eX_1] at hP
  refine lv_aload_n hx hb dX9_empty_8 rfl (lv_at hl 0 rfl) ?_
  obtain ⟨X_2, hc_3, hf⟩ := g_letE hf
  refine x_callv (v := (X_2, M, τ)) (va_runV (As := []) (rest := []) ⟨hx, hb, hml, hown, hts⟩ (ct_X9_rewind l G X_1 M τ t0 ht0 hc_3) (cwV 0 hts gd_X9_95 rfl rfl rfl hd_X9_rewind ⟨Nat.le_of_ble_eq_true rfl, Nat.le_of_ble_eq_true rfl⟩) (x_preV (u := (X_1, M, τ)) (k := 9) (ci := 9) hC hS hP ht0 rfl rfl) rfl rfl hl.1 rfl (lv_room (Nat.le_of_ble_eq_true rfl)) dX9_empty_9 ⟨Nat.zero_le _, Nat.zero_le _⟩) hS (fun H locs hP hS => ?_)
  cases hf
  exact x_vret hx hb hlocks hC hP hS hr dX9_empty_12
set_option maxRecDepth 100000 in
set_option maxHeartbeats 4000000 in
theorem ct_X9_empty (l : Launch) (G : GP) (X M : SM) (τ : SL) (t0 : Nat) (ht0 : t0 < 12) {X0 : SM} (hf : fn_X9_empty t0 X = X0) : Met l yX9_empty (wz yX9_empty cX9_empty 1 none) rm_X9_empty (va_Pc [.ref (G.2.1 9 t0)] (g_pw G (X, M, τ))) (va_Qv (fun u => u = (X0, M, τ)) (g_pw G) (g_A G)) 0 0 (g_A G) := by
  refine Met.ofW (cc := cX9_empty) (maxL := 1) (ret := none) (by decide +kernel) rfl ?_
  intro p e s m args below meth c s₁ B hml hv
  obtain ⟨rfl, hC, hP⟩ := hv
  have C0 : g_mc p s m _ meth c RX9 cX9_empty none 1 G := ⟨B.exec, B.bytes, B.returns, hml, findClass_of_methodNamed B.named, fun w h => atoms_spec (ws := wz yX9_empty cX9_empty 1 none) B.pre w (List.mem_cons_of_mem _ h), B.notSynchronized, hC⟩
  have hl := lv_entry ([.ref (G.2.1 9 t0)]) (n := 1) (Nat.le_of_ble_eq_true rfl)
  rw [lg_entry_eq]
  generalize (lg_sl ([.ref (G.2.1 9 t0)]) ++ List.replicate (1 - (lg_sl ([.ref (G.2.1 9 t0)])).length) Slot.unset).toArray = ls at hl ⊢
  exact wk_X9_empty C0  t0 ht0 X hf hP va_S.rf hl
abbrev rm_X7_empty : Room := { frames := 3, cells := 0, slots := 0, locals := 63 }
def fn_X7_empty (t0 : Nat) (x1 : Int32) (X : SM) : Option (Int32 × SM) :=
  g_let (fn_X11_isThread x1) fun r_1 =>
  if r_1 = 0 then
  (some ((-1), X))
  else
  (if g_in x1 6 then
    g_let ((X 1 (6 * t0 + (x1.toNatClampNeg)) 4)) fun x2_6 =>
    (fn_X0_leaveAll t0 x1 X).bind fun X_7 =>
    if g_in x1 6 then
    g_let (fn_X9_empty (6 * t0 + (x1.toNatClampNeg)) X_7) fun X_11 =>
    some (x2_6, X_11)
    else none
    else none)
set_option maxRecDepth 100000 in
set_option maxHeartbeats 4000000 in
theorem wk_X7_empty {p : Program} {l : Launch} {e : Env} {s : State} {m : MethodId} {args : Array Value} {below : List Frame} {meth : Method} {c : Code} {G : GP} {M : SM} {τ : SL} (C0 : g_mc p s m args meth c RX7 cX7_empty (some .int) 3 G) {r0 : Int32} {X0 : SM} (t0 : Nat) (ht0 : t0 < 2) (x1 : Int32) (X : SM) (hf : fn_X7_empty t0 x1 X = some (r0, X0)) {H : Heap} {locs : List Loc} (hP : va_P G.1 g_cl (wd G (cb X M) τ) H) (hS : va_S (g_A G) s.heap H locs) {ls : Array Slot} (hl : lv_has ls 3 [(0, .ref (G.2.1 7 t0)), (1, .int x1)]) : W p l e rm_X7_empty s m args below meth c H locs 0 0 (MQ below (va_Qi (fun r u => r = r0 ∧ u = (X0, M, τ)) (g_pw G) (g_A G)) args s 0 0 (g_A G)) (F0 m 0 ls []) := by
  obtain ⟨hx, hb, hr, hml, hown, hts, hlocks, hC⟩ := id C0
  unfold fn_X7_empty at hf
  refine lv_iload_n hx hb dX7_empty_0 rfl (lv_at hl 1 rfl) ?_
  obtain ⟨r_1, hc_2, hf⟩ := g_letE hf
  refine x_calli (v := (X, M, τ)) (va_runSN (As := [.int x1]) (rest := []) ⟨hx, hb, hml, hown, hts⟩ (ct_X11_isThread l G X M τ x1 hc_2) ⟨va_cnB 1 hts (wz_N q8_1) rfl rfl rfl hC.2.1.1 (hts _ q1_2) hd_X11_isThread.2 ⟨Nat.le_of_ble_eq_true rfl, Nat.le_of_ble_eq_true rfl⟩, hts _ q8_0, trivial⟩ (x_pre (u := (X, M, τ)) hC hS hP) rfl rfl hl.1 rfl (lv_room (Nat.le_of_ble_eq_true rfl)) dX7_empty_1 ⟨Nat.zero_le _, Nat.zero_le _⟩) hS (fun H locs hP hS => ?_)
  refine lv_if_ne (tgt := 9) hx hb dX7_empty_4 (by decide) (fun hc_3 => ?_) (fun hc_3 => ?_)
  · have hf := g_neg hf hc_3
    refine lv_aload_n hx hb dX7_empty_9 rfl (lv_at hl 0 rfl) ?_
    refine gt_7_0 hx hb hts hown hC hP ht0 q3_10 dX7_empty_10 ?_
    refine lv_iload_n hx hb dX7_empty_13 rfl (lv_at hl 1 rfl) ?_
    obtain ⟨hg_4, hf⟩ := g_gd hf
    have hq_5 : 6 * t0 + (x1.toNatClampNeg) < 12 := by have h8 := g_in_lt (n := 6) hg_4; have h9 : t0 < 2 := ht0; omega
    refine xaldS hx hb hC hP ht0 hg_4 dX7_empty_14 ?_
    refine gt_9_1 hx hb hts hown hC hP hq_5 q9_12 dX7_empty_15 ?_
    refine gt_1_4 hx hb hts hown hC hP hq_5 q9_13 dX7_empty_18 ?_
    obtain ⟨x2_6, ex2_6, hf⟩ := g_letE hf
    refine lv_topE ex2_6 ?_
    refine lv_istore_n (lv' := [(2, .int x2_6), (0, .ref (G.2.1 7 t0)), (1, .int x1)]) hx hb dX7_empty_21 rfl hl (by decide) rfl (fun ls hl => ?_)
    refine lv_aload_n hx hb dX7_empty_22 rfl (lv_at hl 1 rfl) ?_
    refine gt_7_2 hx hb hts hown hC hP ht0 q3_18 dX7_empty_23 ?_
    refine lv_iload_n hx hb dX7_empty_26 rfl (lv_at hl 2 rfl) ?_
    obtain ⟨X_7, hc_8, hf⟩ := g_bindE hf
    refine x_callv (v := (X_7, M, τ)) (va_runV (As := [.int x1]) (rest := []) ⟨hx, hb, hml, hown, hts⟩ (ct_X0_leaveAll l G X M τ t0 ht0 x1 hc_8) (cwV 1 hts gd_X7_92 rfl rfl rfl hd_X0_leaveAll ⟨Nat.le_of_ble_eq_true rfl, Nat.le_of_ble_eq_true rfl⟩) (x_preV (u := (X, M, τ)) (k := 0) (ci := 0) hC hS hP ht0 rfl rfl) rfl rfl hl.1 rfl (lv_room (Nat.le_of_ble_eq_true rfl)) dX7_empty_27 ⟨Nat.zero_le _, Nat.zero_le _⟩) hS (fun H locs hP hS => ?_)
    refine lv_aload_n hx hb dX7_empty_30 rfl (lv_at hl 1 rfl) ?_
    refine gt_7_0 hx hb hts hown hC hP ht0 q3_10 dX7_empty_31 ?_
    refine lv_iload_n hx hb dX7_empty_34 rfl (lv_at hl 2 rfl) ?_
    obtain ⟨hg_9, hf⟩ := g_gd hf
    have hq_10 : 6 * t0 + (x1.toNatClampNeg) < 12 := by have h8 := g_in_lt (n := 6) hg_9; have h9 : t0 < 2 := ht0; omega
    refine xaldS hx hb hC hP ht0 hg_9 dX7_empty_35 ?_
    obtain ⟨X_11, hc_12, hf⟩ := g_letE hf
    refine x_callv (v := (X_11, M, τ)) (va_runV (As := []) (rest := []) ⟨hx, hb, hml, hown, hts⟩ (ct_X9_empty l G X_7 M τ (6 * t0 + (x1.toNatClampNeg)) hq_10 hc_12) (cwV 0 hts gd_X7_95 rfl rfl rfl hd_X9_empty ⟨Nat.le_of_ble_eq_true rfl, Nat.le_of_ble_eq_true rfl⟩) (x_preV (u := (X_7, M, τ)) (k := 9) (ci := 9) hC hS hP hq_10 rfl rfl) rfl rfl hl.1 rfl (lv_room (Nat.le_of_ble_eq_true rfl)) dX7_empty_36 ⟨Nat.zero_le _, Nat.zero_le _⟩) hS (fun H locs hP hS => ?_)
    refine lv_iload_n hx hb dX7_empty_39 rfl (lv_at hl 0 rfl) ?_
    cases hf
    exact x_iret hx hb hlocks hC hP hS hr dX7_empty_40
  · have hf := g_pos hf hc_3
    refine lv_iconst (v := (-1)) hx hb dX7_empty_7 (by decide) ?_
    cases hf
    exact x_iret hx hb hlocks hC hP hS hr dX7_empty_8
set_option maxRecDepth 100000 in
set_option maxHeartbeats 4000000 in
theorem ct_X7_empty (l : Launch) (G : GP) (X M : SM) (τ : SL) (t0 : Nat) (ht0 : t0 < 2) (x1 : Int32) {r0 : Int32} {X0 : SM} (hf : fn_X7_empty t0 x1 X = some (r0, X0)) : Met l yX7_empty (wz yX7_empty cX7_empty 3 (some .int)) rm_X7_empty (va_Pc [.ref (G.2.1 7 t0), .int x1] (g_pw G (X, M, τ))) (va_Qi (fun r u => r = r0 ∧ u = (X0, M, τ)) (g_pw G) (g_A G)) 0 0 (g_A G) := by
  refine Met.ofW (cc := cX7_empty) (maxL := 3) (ret := (some .int)) (by decide +kernel) rfl ?_
  intro p e s m args below meth c s₁ B hml hv
  obtain ⟨rfl, hC, hP⟩ := hv
  have C0 : g_mc p s m _ meth c RX7 cX7_empty (some .int) 3 G := ⟨B.exec, B.bytes, B.returns, hml, findClass_of_methodNamed B.named, fun w h => atoms_spec (ws := wz yX7_empty cX7_empty 3 (some .int)) B.pre w (List.mem_cons_of_mem _ h), B.notSynchronized, hC⟩
  have hl := lv_entry ([.ref (G.2.1 7 t0), .int x1]) (n := 3) (Nat.le_of_ble_eq_true rfl)
  rw [lg_entry_eq]
  generalize (lg_sl ([.ref (G.2.1 7 t0), .int x1]) ++ List.replicate (3 - (lg_sl ([.ref (G.2.1 7 t0), .int x1])).length) Slot.unset).toArray = ls at hl ⊢
  exact wk_X7_empty C0  t0 ht0 x1 X hf hP va_S.rf hl
abbrev rm_X11_tickOfInstruction : Room := { frames := 6, cells := 0, slots := 0, locals := 148 }
def wb_X11_tickOfInstruction_5 (k5 : Nat → Int32 → Int32 → Int32 → Int32 → SM → Option (Int32 × SM)) (t0 : Nat) (x1 : Int32) (x2 : Int32) (x3 : Int32) (x4 : Int32) (X : SM) : Option (Int32 × SM) :=
  if 300 ≤ x4 then
  (some ((-1), X))
  else
  (g_let ((X 7 t0 5)) fun x5_2 =>
    (fn_X7_tick t0 X).bind fun (r_3, X_4) =>
    if r_3 = x1 then
    (g_let (x3 + 1) fun x3_9 =>
      if x3_9 = x2 then
      (some (x5_2, X_4))
      else
      (g_let (x4 + 1) fun x4_11 =>
        k5 t0 x1 x2 x3_9 x4_11 X_4))
    else
    (if x3 = x2 then
      (some (x5_2, X_4))
      else
      (g_let (x4 + 1) fun x4_8 =>
        k5 t0 x1 x2 x3 x4_8 X_4)))
set_option maxRecDepth 100000 in
set_option maxHeartbeats 4000000 in
theorem bk_X11_tickOfInstruction_5 {p : Program} {l : Launch} {e : Env} {s : State} {m : MethodId} {args : Array Value} {below : List Frame} {meth : Method} {c : Code} {G : GP} {M : SM} {τ : SL} (C0 : g_mc p s m args meth c RX11 cX11_tickOfInstruction (some .int) 6 G) {r0 : Int32} {X0 : SM} (k5 : Nat → Int32 → Int32 → Int32 → Int32 → SM → Option (Int32 × SM)) (hk5 : ∀ (t0 : Nat) (ht0 : t0 < 2) (x1 : Int32) (x2 : Int32) (x3 : Int32) (x4 : Int32) (X : SM), k5 t0 x1 x2 x3 x4 X = some (r0, X0) → ∀ {H : Heap} {locs : List Loc}, va_P G.1 g_cl (wd G (cb X M) τ) H → va_S (g_A G) s.heap H locs → ∀ {ls : Array Slot}, lv_has ls 6 [(0, .ref (G.2.1 7 t0)), (1, .int x1), (2, .int x2), (3, .int x3), (4, .int x4)] → W p l e rm_X11_tickOfInstruction s m args below meth c H locs 0 0 (MQ below (va_Qi (fun r u => r = r0 ∧ u = (X0, M, τ)) (g_pw G) (g_A G)) args s 0 0 (g_A G)) (F0 m 5 ls [])) (t0 : Nat) (ht0 : t0 < 2) (x1 : Int32) (x2 : Int32) (x3 : Int32) (x4 : Int32) (X : SM) (hf : wb_X11_tickOfInstruction_5 k5 t0 x1 x2 x3 x4 X = some (r0, X0)) {H : Heap} {locs : List Loc} (hP : va_P G.1 g_cl (wd G (cb X M) τ) H) (hS : va_S (g_A G) s.heap H locs) {ls : Array Slot} (hl : lv_has ls 6 [(0, .ref (G.2.1 7 t0)), (1, .int x1), (2, .int x2), (3, .int x3), (4, .int x4)]) : W p l e rm_X11_tickOfInstruction s m args below meth c H locs 0 0 (MQ below (va_Qi (fun r u => r = r0 ∧ u = (X0, M, τ)) (g_pw G) (g_A G)) args s 0 0 (g_A G)) (F0 m 5 ls []) := by
  obtain ⟨hx, hb, hr, hml, hown, hts, hlocks, hC⟩ := id C0
  unfold wb_X11_tickOfInstruction_5 at hf
  refine lv_iload hx hb dX11_tickOfInstruction_5 (lv_at hl 4 rfl) ?_
  refine lv_sipush (v := 300) hx hb dX11_tickOfInstruction_7 (by decide) ?_
  refine lv_icmp_ge (tgt := 44) hx hb dX11_tickOfInstruction_10 (by decide) (fun hc_1 => ?_) (fun hc_1 => ?_)
  · have hf := g_pos hf hc_1
    refine lv_iconst (v := (-1)) hx hb dX11_tickOfInstruction_44 (by decide) ?_
    cases hf
    exact x_iret hx hb hlocks hC hP hS hr dX11_tickOfInstruction_45
  · have hf := g_neg hf hc_1
    refine lv_aload_n hx hb dX11_tickOfInstruction_13 rfl (lv_at hl 0 rfl) ?_
    refine gt_7_5 hx hb hts hown hC hP ht0 q12_12 dX11_tickOfInstruction_14 ?_
    obtain ⟨x5_2, ex5_2, hf⟩ := g_letE hf
    refine lv_topE ex5_2 ?_
    refine lv_istore (lv' := [(5, .int x5_2), (0, .ref (G.2.1 7 t0)), (1, .int x1), (2, .int x2), (3, .int x3), (4, .int x4)]) hx hb dX11_tickOfInstruction_17 hl (by decide) rfl (fun ls hl => ?_)
    refine lv_aload_n hx hb dX11_tickOfInstruction_19 rfl (lv_at hl 1 rfl) ?_
    obtain ⟨⟨r_3, X_4⟩, hc_5, hf⟩ := g_bindE hf
    refine x_calli (v := (X_4, M, τ)) (va_runV (As := []) (rest := []) ⟨hx, hb, hml, hown, hts⟩ (ct_X7_tick l G X M τ t0 ht0 hc_5) (cwV 0 hts gd_X11_137 rfl rfl rfl hd_X7_tick ⟨Nat.le_of_ble_eq_true rfl, Nat.le_of_ble_eq_true rfl⟩) (x_preV (u := (X, M, τ)) (k := 7) (ci := 7) hC hS hP ht0 rfl rfl) rfl rfl hl.1 rfl (lv_room (Nat.le_of_ble_eq_true rfl)) dX11_tickOfInstruction_20 ⟨Nat.zero_le _, Nat.zero_le _⟩) hS (fun H locs hP hS => ?_)
    refine lv_iload_n hx hb dX11_tickOfInstruction_23 rfl (lv_at hl 2 rfl) ?_
    refine lv_icmp_ne (tgt := 30) hx hb dX11_tickOfInstruction_24 (by decide) (fun hc_6 => ?_) (fun hc_6 => ?_)
    · have hf := g_neg hf hc_6
      refine lv_iload_n hx hb dX11_tickOfInstruction_30 rfl (lv_at hl 4 rfl) ?_
      refine lv_iload_n hx hb dX11_tickOfInstruction_31 rfl (lv_at hl 3 rfl) ?_
      refine lv_icmp_ne (tgt := 38) hx hb dX11_tickOfInstruction_32 (by decide) (fun hc_7 => ?_) (fun hc_7 => ?_)
      · have hf := g_neg hf hc_7
        obtain ⟨x4_8, ex4_8, hf⟩ := g_letE hf
        refine lv_iinc (v := x4_8) (lv' := [(4, .int x4_8), (5, .int x5_2), (0, .ref (G.2.1 7 t0)), (1, .int x1), (2, .int x2), (3, .int x3)]) hx hb dX11_tickOfInstruction_38 hl (k := 5) rfl (by rw [← ex4_8]; rfl) (by decide) rfl (fun ls hl => ?_)
        refine lv_goto (tgt := 5) hx hb dX11_tickOfInstruction_41 (by decide) ?_
        exact hk5 t0 ht0 x1 x2 x3 x4_8 X_4 hf hP hS (lv_sub hl [2, 3, 4, 5, 0] rfl)
      · have hf := g_pos hf hc_7
        refine lv_iload hx hb dX11_tickOfInstruction_35 (lv_at hl 0 rfl) ?_
        cases hf
        exact x_iret hx hb hlocks hC hP hS hr dX11_tickOfInstruction_37
    · have hf := g_pos hf hc_6
      obtain ⟨x3_9, ex3_9, hf⟩ := g_letE hf
      refine lv_iinc (v := x3_9) (lv' := [(3, .int x3_9), (5, .int x5_2), (0, .ref (G.2.1 7 t0)), (1, .int x1), (2, .int x2), (4, .int x4)]) hx hb dX11_tickOfInstruction_27 hl (k := 4) rfl (by rw [← ex3_9]; rfl) (by decide) rfl (fun ls hl => ?_)
      refine lv_iload_n hx hb dX11_tickOfInstruction_30 rfl (lv_at hl 0 rfl) ?_
      refine lv_iload_n hx hb dX11_tickOfInstruction_31 rfl (lv_at hl 4 rfl) ?_
      refine lv_icmp_ne (tgt := 38) hx hb dX11_tickOfInstruction_32 (by decide) (fun hc_10 => ?_) (fun hc_10 => ?_)
      · have hf := g_neg hf hc_10
        obtain ⟨x4_11, ex4_11, hf⟩ := g_letE hf
        refine lv_iinc (v := x4_11) (lv' := [(4, .int x4_11), (3, .int x3_9), (5, .int x5_2), (0, .ref (G.2.1 7 t0)), (1, .int x1), (2, .int x2)]) hx hb dX11_tickOfInstruction_38 hl (k := 5) rfl (by rw [← ex4_11]; rfl) (by decide) rfl (fun ls hl => ?_)
        refine lv_goto (tgt := 5) hx hb dX11_tickOfInstruction_41 (by decide) ?_
        exact hk5 t0 ht0 x1 x2 x3_9 x4_11 X_4 hf hP hS (lv_sub hl [3, 4, 5, 1, 0] rfl)
      · have hf := g_pos hf hc_10
        refine lv_iload hx hb dX11_tickOfInstruction_35 (lv_at hl 1 rfl) ?_
        cases hf
        exact x_iret hx hb hlocks hC hP hS hr dX11_tickOfInstruction_37
def wl_X11_tickOfInstruction_5 (n : Nat) (t0 : Nat) (x1 : Int32) (x2 : Int32) (x3 : Int32) (x4 : Int32) (X : SM) : Option (Int32 × SM) := g_loop (α := Nat × Int32 × Int32 × Int32 × Int32 × SM) (fun k a => wb_X11_tickOfInstruction_5 (fun t0 x1 x2 x3 x4 X => k (t0, x1, x2, x3, x4, X)) a.1 a.2.1 a.2.2.1 a.2.2.2.1 a.2.2.2.2.1 a.2.2.2.2.2) n (t0, x1, x2, x3, x4, X)
set_option maxRecDepth 100000 in
set_option maxHeartbeats 4000000 in
theorem lp_X11_tickOfInstruction_5 {p : Program} {l : Launch} {e : Env} {s : State} {m : MethodId} {args : Array Value} {below : List Frame} {meth : Method} {c : Code} {G : GP} {M : SM} {τ : SL} (C0 : g_mc p s m args meth c RX11 cX11_tickOfInstruction (some .int) 6 G) {r0 : Int32} {X0 : SM} (n : Nat) : ∀ (t0 : Nat) (ht0 : t0 < 2) (x1 : Int32) (x2 : Int32) (x3 : Int32) (x4 : Int32) (X : SM), wl_X11_tickOfInstruction_5 n t0 x1 x2 x3 x4 X = some (r0, X0) → ∀ {H : Heap} {locs : List Loc}, va_P G.1 g_cl (wd G (cb X M) τ) H → va_S (g_A G) s.heap H locs → ∀ {ls : Array Slot}, lv_has ls 6 [(0, .ref (G.2.1 7 t0)), (1, .int x1), (2, .int x2), (3, .int x3), (4, .int x4)] → W p l e rm_X11_tickOfInstruction s m args below meth c H locs 0 0 (MQ below (va_Qi (fun r u => r = r0 ∧ u = (X0, M, τ)) (g_pw G) (g_A G)) args s 0 0 (g_A G)) (F0 m 5 ls []) := by
  induction n with
  | zero =>
    intro t0 ht0 x1 x2 x3 x4 X hf
    have hf : (none : Option (Int32 × SM)) = _ := hf
    cases hf
  | succ n ih =>
    intro t0 ht0 x1 x2 x3 x4 X hf H locs hP hS ls hl
    exact bk_X11_tickOfInstruction_5 C0   (fun t0 x1 x2 x3 x4 X => wl_X11_tickOfInstruction_5   n t0 x1 x2 x3 x4 X) ih t0 ht0 x1 x2 x3 x4 X hf hP hS hl
def fn_X11_tickOfInstruction (t0 : Nat) (x1 : Int32) (x2 : Int32) (X : SM) : Option (Int32 × SM) :=
  wl_X11_tickOfInstruction_5 1000 t0 x1 x2 0 0 X
set_option maxRecDepth 100000 in
set_option maxHeartbeats 4000000 in
theorem wk_X11_tickOfInstruction {p : Program} {l : Launch} {e : Env} {s : State} {m : MethodId} {args : Array Value} {below : List Frame} {meth : Method} {c : Code} {G : GP} {M : SM} {τ : SL} (C0 : g_mc p s m args meth c RX11 cX11_tickOfInstruction (some .int) 6 G) {r0 : Int32} {X0 : SM} (t0 : Nat) (ht0 : t0 < 2) (x1 : Int32) (x2 : Int32) (X : SM) (hf : fn_X11_tickOfInstruction t0 x1 x2 X = some (r0, X0)) {H : Heap} {locs : List Loc} (hP : va_P G.1 g_cl (wd G (cb X M) τ) H) (hS : va_S (g_A G) s.heap H locs) {ls : Array Slot} (hl : lv_has ls 6 [(0, .ref (G.2.1 7 t0)), (1, .int x1), (2, .int x2)]) : W p l e rm_X11_tickOfInstruction s m args below meth c H locs 0 0 (MQ below (va_Qi (fun r u => r = r0 ∧ u = (X0, M, τ)) (g_pw G) (g_A G)) args s 0 0 (g_A G)) (F0 m 0 ls []) := by
  obtain ⟨hx, hb, hr, hml, hown, hts, hlocks, hC⟩ := id C0
  unfold fn_X11_tickOfInstruction at hf
  refine lv_iconst (v := 0) hx hb dX11_tickOfInstruction_0 (by decide) ?_
  refine lv_istore_n (lv' := [(3, .int 0), (0, .ref (G.2.1 7 t0)), (1, .int x1), (2, .int x2)]) hx hb dX11_tickOfInstruction_1 rfl hl (by decide) rfl (fun ls hl => ?_)
  refine lv_iconst (v := 0) hx hb dX11_tickOfInstruction_2 (by decide) ?_
  refine lv_istore (lv' := [(4, .int 0), (3, .int 0), (0, .ref (G.2.1 7 t0)), (1, .int x1), (2, .int x2)]) hx hb dX11_tickOfInstruction_3 hl (by decide) rfl (fun ls hl => ?_)
  exact lp_X11_tickOfInstruction_5 C0 1000 t0 ht0 x1 x2 0 0 X hf hP hS (lv_sub hl [2, 3, 4, 1, 0] rfl)
set_option maxRecDepth 100000 in
set_option maxHeartbeats 4000000 in
theorem ct_X11_tickOfInstruction (l : Launch) (G : GP) (X M : SM) (τ : SL) (t0 : Nat) (ht0 : t0 < 2) (x1 : Int32) (x2 : Int32) {r0 : Int32} {X0 : SM} (hf : fn_X11_tickOfInstruction t0 x1 x2 X = some (r0, X0)) : Met l yX11_tickOfInstruction (wz yX11_tickOfInstruction cX11_tickOfInstruction 6 (some .int)) rm_X11_tickOfInstruction (va_Pc [.ref (G.2.1 7 t0), .int x1, .int x2] (g_pw G (X, M, τ))) (va_Qi (fun r u => r = r0 ∧ u = (X0, M, τ)) (g_pw G) (g_A G)) 0 0 (g_A G) := by
  refine Met.ofW (cc := cX11_tickOfInstruction) (maxL := 6) (ret := (some .int)) (by decide +kernel) rfl ?_
  intro p e s m args below meth c s₁ B hml hv
  obtain ⟨rfl, hC, hP⟩ := hv
  have C0 : g_mc p s m _ meth c RX11 cX11_tickOfInstruction (some .int) 6 G := ⟨B.exec, B.bytes, B.returns, hml, findClass_of_methodNamed B.named, fun w h => atoms_spec (ws := wz yX11_tickOfInstruction cX11_tickOfInstruction 6 (some .int)) B.pre w (List.mem_cons_of_mem _ h), B.notSynchronized, hC⟩
  have hl := lv_entry ([.ref (G.2.1 7 t0), .int x1, .int x2]) (n := 6) (Nat.le_of_ble_eq_true rfl)
  rw [lg_entry_eq]
  generalize (lg_sl ([.ref (G.2.1 7 t0), .int x1, .int x2]) ++ List.replicate (6 - (lg_sl ([.ref (G.2.1 7 t0), .int x1, .int x2])).length) Slot.unset).toArray = ls at hl ⊢
  exact wk_X11_tickOfInstruction C0  t0 ht0 x1 x2 X hf hP va_S.rf hl
abbrev rm_X11_alone : Room := { frames := 7, cells := 0, slots := 0, locals := 173 }
def wb_X11_alone_33 (k33 : Int32 → Int32 → Int32 → SM → Option (Int32 × SM)) (x1 : Int32) (x2 : Int32) (x3 : Int32) (X : SM) : Option (Int32 × SM) :=
  if 6 ≤ x3 then
  ((fn_X11_tickOfInstruction 1 x1 x2 X).bind fun (r_9, X_10) =>
    some (r_9, X_10))
  else
  (if x3 = x1 then
    (g_let (x3 + 1) fun x3_13 =>
      k33 x1 x2 x3_13 X)
    else
    ((fn_X7_empty 1 x3 X).bind fun (r_14, X_15) =>
      g_let (x3 + 1) fun x3_17 =>
      k33 x1 x2 x3_17 X_15))
set_option maxRecDepth 100000 in
set_option maxHeartbeats 4000000 in
theorem bk_X11_alone_33 {p : Program} {l : Launch} {e : Env} {s : State} {m : MethodId} {args : Array Value} {below : List Frame} {meth : Method} {c : Code} {G : GP} {M : SM} {τ : SL} (C0 : g_mc p s m args meth c RX11 cX11_alone (some .int) 4 G) {r0 : Int32} {X0 : SM} (k33 : Int32 → Int32 → Int32 → SM → Option (Int32 × SM)) (hk33 : ∀ (x1 : Int32) (x2 : Int32) (x3 : Int32) (X : SM), k33 x1 x2 x3 X = some (r0, X0) → ∀ {H : Heap} {locs : List Loc}, va_P G.1 g_cl (wd G (cb X M) τ) H → va_S (g_A G) s.heap H locs → ∀ {ls : Array Slot}, lv_has ls 4 [(0, .ref (G.2.1 11 0)), (1, .int x1), (2, .int x2), (3, .int x3)] → W p l e rm_X11_alone s m args below meth c H locs 0 0 (MQ below (va_Qi (fun r u => r = r0 ∧ u = (X0, M, τ)) (g_pw G) (g_A G)) args s 0 0 (g_A G)) (F0 m 33 ls [])) (x1 : Int32) (x2 : Int32) (x3 : Int32) (X : SM) (hf : wb_X11_alone_33 k33 x1 x2 x3 X = some (r0, X0)) {H : Heap} {locs : List Loc} (hP : va_P G.1 g_cl (wd G (cb X M) τ) H) (hS : va_S (g_A G) s.heap H locs) {ls : Array Slot} (hl : lv_has ls 4 [(0, .ref (G.2.1 11 0)), (1, .int x1), (2, .int x2), (3, .int x3)]) : W p l e rm_X11_alone s m args below meth c H locs 0 0 (MQ below (va_Qi (fun r u => r = r0 ∧ u = (X0, M, τ)) (g_pw G) (g_A G)) args s 0 0 (g_A G)) (F0 m 33 ls []) := by
  obtain ⟨hx, hb, hr, hml, hown, hts, hlocks, hC⟩ := id C0
  unfold wb_X11_alone_33 at hf
  refine lv_iload_n hx hb dX11_alone_33 rfl (lv_at hl 3 rfl) ?_
  refine lv_bipush (v := 6) hx hb dX11_alone_34 (by decide) ?_
  refine lv_icmp_ge (tgt := 59) hx hb dX11_alone_36 (by decide) (fun hc_8 => ?_) (fun hc_8 => ?_)
  · have hf := g_pos hf hc_8
    refine lv_aload_n hx hb dX11_alone_59 rfl (lv_at hl 0 rfl) ?_
    refine gt_11_3 hx hb hts hown hC hP Nat.zero_lt_one q2_1 dX11_alone_60 ?_
    refine lv_iload_n hx hb dX11_alone_63 rfl (lv_at hl 1 rfl) ?_
    refine lv_iload_n hx hb dX11_alone_64 rfl (lv_at hl 2 rfl) ?_
    obtain ⟨⟨r_9, X_10⟩, hc_11, hf⟩ := g_bindE hf
    refine x_calli (v := (X_10, M, τ)) (va_runS (As := [.ref (G.2.1 7 1), .int x1, .int x2]) (rest := []) ⟨hx, hb, hml, hown, hts⟩ (ct_X11_tickOfInstruction l G X M τ 1 (by decide) x1 x2 hc_11) (cwS 3 hts gd_X11_253 rfl rfl rfl hd_X11_tickOfInstruction ⟨Nat.le_of_ble_eq_true rfl, Nat.le_of_ble_eq_true rfl⟩) (x_pre (u := (X, M, τ)) hC hS hP) rfl rfl hl.1 rfl (lv_room (Nat.le_of_ble_eq_true rfl)) dX11_alone_65 ⟨Nat.zero_le _, Nat.zero_le _⟩) hS (fun H locs hP hS => ?_)
    cases hf
    exact x_iret hx hb hlocks hC hP hS hr dX11_alone_68
  · have hf := g_neg hf hc_8
    refine lv_iload_n hx hb dX11_alone_39 rfl (lv_at hl 3 rfl) ?_
    refine lv_iload_n hx hb dX11_alone_40 rfl (lv_at hl 1 rfl) ?_
    refine lv_icmp_eq (tgt := 53) hx hb dX11_alone_41 (by decide) (fun hc_12 => ?_) (fun hc_12 => ?_)
    · have hf := g_pos hf hc_12
      obtain ⟨x3_13, ex3_13, hf⟩ := g_letE hf
      refine lv_iinc (v := x3_13) (lv' := [(3, .int x3_13), (0, .ref (G.2.1 11 0)), (1, .int x1), (2, .int x2)]) hx hb dX11_alone_53 hl (k := 3) rfl (by rw [← ex3_13]; rfl) (by decide) rfl (fun ls hl => ?_)
      refine lv_goto (tgt := 33) hx hb dX11_alone_56 (by decide) ?_
      exact hk33 x1 x2 x3_13 X hf hP hS (lv_sub hl [1, 2, 3, 0] rfl)
    · have hf := g_neg hf hc_12
      refine lv_aload_n hx hb dX11_alone_44 rfl (lv_at hl 0 rfl) ?_
      refine gt_11_3 hx hb hts hown hC hP Nat.zero_lt_one q2_1 dX11_alone_45 ?_
      refine lv_iload_n hx hb dX11_alone_48 rfl (lv_at hl 3 rfl) ?_
      obtain ⟨⟨r_14, X_15⟩, hc_16, hf⟩ := g_bindE hf
      refine x_calli (v := (X_15, M, τ)) (va_runV (As := [.int x3]) (rest := []) ⟨hx, hb, hml, hown, hts⟩ (ct_X7_empty l G X M τ 1 (by decide) x3 hc_16) (cwV 1 hts gd_X11_80 rfl rfl rfl hd_X7_empty ⟨Nat.le_of_ble_eq_true rfl, Nat.le_of_ble_eq_true rfl⟩) (x_preV (u := (X, M, τ)) (k := 7) (ci := 7) hC hS hP (by decide) rfl rfl) rfl rfl hl.1 rfl (lv_room (Nat.le_of_ble_eq_true rfl)) dX11_alone_49 ⟨Nat.zero_le _, Nat.zero_le _⟩) hS (fun H locs hP hS => ?_)
      refine lv_pop hx hb dX11_alone_52 rfl ?_
      obtain ⟨x3_17, ex3_17, hf⟩ := g_letE hf
      refine lv_iinc (v := x3_17) (lv' := [(3, .int x3_17), (0, .ref (G.2.1 11 0)), (1, .int x1), (2, .int x2)]) hx hb dX11_alone_53 hl (k := 3) rfl (by rw [← ex3_17]; rfl) (by decide) rfl (fun ls hl => ?_)
      refine lv_goto (tgt := 33) hx hb dX11_alone_56 (by decide) ?_
      exact hk33 x1 x2 x3_17 X_15 hf hP hS (lv_sub hl [1, 2, 3, 0] rfl)
def wl_X11_alone_33 (n : Nat) (x1 : Int32) (x2 : Int32) (x3 : Int32) (X : SM) : Option (Int32 × SM) := g_loop (α := Int32 × Int32 × Int32 × SM) (fun k a => wb_X11_alone_33 (fun x1 x2 x3 X => k (x1, x2, x3, X)) a.1 a.2.1 a.2.2.1 a.2.2.2) n (x1, x2, x3, X)
set_option maxRecDepth 100000 in
set_option maxHeartbeats 4000000 in
theorem lp_X11_alone_33 {p : Program} {l : Launch} {e : Env} {s : State} {m : MethodId} {args : Array Value} {below : List Frame} {meth : Method} {c : Code} {G : GP} {M : SM} {τ : SL} (C0 : g_mc p s m args meth c RX11 cX11_alone (some .int) 4 G) {r0 : Int32} {X0 : SM} (n : Nat) : ∀ (x1 : Int32) (x2 : Int32) (x3 : Int32) (X : SM), wl_X11_alone_33 n x1 x2 x3 X = some (r0, X0) → ∀ {H : Heap} {locs : List Loc}, va_P G.1 g_cl (wd G (cb X M) τ) H → va_S (g_A G) s.heap H locs → ∀ {ls : Array Slot}, lv_has ls 4 [(0, .ref (G.2.1 11 0)), (1, .int x1), (2, .int x2), (3, .int x3)] → W p l e rm_X11_alone s m args below meth c H locs 0 0 (MQ below (va_Qi (fun r u => r = r0 ∧ u = (X0, M, τ)) (g_pw G) (g_A G)) args s 0 0 (g_A G)) (F0 m 33 ls []) := by
  induction n with
  | zero =>
    intro x1 x2 x3 X hf
    have hf : (none : Option (Int32 × SM)) = _ := hf
    cases hf
  | succ n ih =>
    intro x1 x2 x3 X hf H locs hP hS ls hl
    exact bk_X11_alone_33 C0   (fun x1 x2 x3 X => wl_X11_alone_33   n x1 x2 x3 X) ih x1 x2 x3 X hf hP hS hl
def fn_X11_alone (x1 : Int32) (x2 : Int32) (X : SM) : Option (Int32 × SM) :=
  g_let (fn_X11_isThread x1) fun r_1 =>
  if r_1 = 0 then
  (some ((-1), X))
  else
  (if x2 < 1 then
    (some ((-1), X))
    else
    (if x2 ≤ 60 then
      ((fn_X7_copy 1 0 X).bind fun X_6 =>
        wl_X11_alone_33 1000 x1 x2 0 X_6)
      else
      (some ((-1), X))))
set_option maxRecDepth 100000 in
set_option maxHeartbeats 4000000 in
theorem wk_X11_alone {p : Program} {l : Launch} {e : Env} {s : State} {m : MethodId} {args : Array Value} {below : List Frame} {meth : Method} {c : Code} {G : GP} {M : SM} {τ : SL} (C0 : g_mc p s m args meth c RX11 cX11_alone (some .int) 4 G) {r0 : Int32} {X0 : SM} (x1 : Int32) (x2 : Int32) (X : SM) (hf : fn_X11_alone x1 x2 X = some (r0, X0)) {H : Heap} {locs : List Loc} (hP : va_P G.1 g_cl (wd G (cb X M) τ) H) (hS : va_S (g_A G) s.heap H locs) {ls : Array Slot} (hl : lv_has ls 4 [(0, .ref (G.2.1 11 0)), (1, .int x1), (2, .int x2)]) : W p l e rm_X11_alone s m args below meth c H locs 0 0 (MQ below (va_Qi (fun r u => r = r0 ∧ u = (X0, M, τ)) (g_pw G) (g_A G)) args s 0 0 (g_A G)) (F0 m 0 ls []) := by
  obtain ⟨hx, hb, hr, hml, hown, hts, hlocks, hC⟩ := id C0
  unfold fn_X11_alone at hf
  refine lv_iload_n hx hb dX11_alone_0 rfl (lv_at hl 1 rfl) ?_
  obtain ⟨r_1, hc_2, hf⟩ := g_letE hf
  refine x_calli (v := (X, M, τ)) (va_runS (As := [.int x1]) (rest := []) ⟨hx, hb, hml, hown, hts⟩ (ct_X11_isThread l G X M τ x1 hc_2) (cwS 1 hts gd_X11_56 rfl rfl rfl hd_X11_isThread ⟨Nat.le_of_ble_eq_true rfl, Nat.le_of_ble_eq_true rfl⟩) (x_pre (u := (X, M, τ)) hC hS hP) rfl rfl hl.1 rfl (lv_room (Nat.le_of_ble_eq_true rfl)) dX11_alone_1 ⟨Nat.zero_le _, Nat.zero_le _⟩) hS (fun H locs hP hS => ?_)
  refine lv_if_eq (tgt := 18) hx hb dX11_alone_4 (by decide) (fun hc_3 => ?_) (fun hc_3 => ?_)
  · have hf := g_pos hf hc_3
    refine lv_iconst (v := (-1)) hx hb dX11_alone_18 (by decide) ?_
    cases hf
    exact x_iret hx hb hlocks hC hP hS hr dX11_alone_19
  · have hf := g_neg hf hc_3
    refine lv_iload_n hx hb dX11_alone_7 rfl (lv_at hl 2 rfl) ?_
    refine lv_iconst (v := 1) hx hb dX11_alone_8 (by decide) ?_
    refine lv_icmp_lt (tgt := 18) hx hb dX11_alone_9 (by decide) (fun hc_4 => ?_) (fun hc_4 => ?_)
    · have hf := g_pos hf hc_4
      refine lv_iconst (v := (-1)) hx hb dX11_alone_18 (by decide) ?_
      cases hf
      exact x_iret hx hb hlocks hC hP hS hr dX11_alone_19
    · have hf := g_neg hf hc_4
      refine lv_iload_n hx hb dX11_alone_12 rfl (lv_at hl 2 rfl) ?_
      refine lv_bipush (v := 60) hx hb dX11_alone_13 (by decide) ?_
      refine lv_icmp_le (tgt := 20) hx hb dX11_alone_15 (by decide) (fun hc_5 => ?_) (fun hc_5 => ?_)
      · have hf := g_pos hf hc_5
        refine lv_aload_n hx hb dX11_alone_20 rfl (lv_at hl 0 rfl) ?_
        refine gt_11_3 hx hb hts hown hC hP Nat.zero_lt_one q2_1 dX11_alone_21 ?_
        refine lv_aload_n hx hb dX11_alone_24 rfl (lv_at hl 0 rfl) ?_
        refine gt_11_2 hx hb hts hown hC hP Nat.zero_lt_one q2_0 dX11_alone_25 ?_
        obtain ⟨X_6, hc_7, hf⟩ := g_bindE hf
        refine x_callv (v := (X_6, M, τ)) (va_runV (As := [.ref (G.2.1 7 0)]) (rest := []) ⟨hx, hb, hml, hown, hts⟩ (ct_X7_copy l G X M τ 1 (by decide) 0 (by decide) hc_7) (cwV 1 hts gd_X11_249 rfl rfl rfl hd_X7_copy ⟨Nat.le_of_ble_eq_true rfl, Nat.le_of_ble_eq_true rfl⟩) (x_preV (u := (X, M, τ)) (k := 7) (ci := 7) hC hS hP (by decide) rfl rfl) rfl rfl hl.1 rfl (lv_room (Nat.le_of_ble_eq_true rfl)) dX11_alone_28 ⟨Nat.zero_le _, Nat.zero_le _⟩) hS (fun H locs hP hS => ?_)
        refine lv_iconst (v := 0) hx hb dX11_alone_31 (by decide) ?_
        refine lv_istore_n (lv' := [(3, .int 0), (0, .ref (G.2.1 11 0)), (1, .int x1), (2, .int x2)]) hx hb dX11_alone_32 rfl hl (by decide) rfl (fun ls hl => ?_)
        exact lp_X11_alone_33 C0 1000 x1 x2 0 X_6 hf hP hS (lv_sub hl [1, 2, 3, 0] rfl)
      · have hf := g_neg hf hc_5
        refine lv_iconst (v := (-1)) hx hb dX11_alone_18 (by decide) ?_
        cases hf
        exact x_iret hx hb hlocks hC hP hS hr dX11_alone_19
set_option maxRecDepth 100000 in
set_option maxHeartbeats 4000000 in
theorem ct_X11_alone (l : Launch) (G : GP) (X M : SM) (τ : SL) (x1 : Int32) (x2 : Int32) {r0 : Int32} {X0 : SM} (hf : fn_X11_alone x1 x2 X = some (r0, X0)) : Met l yX11_alone (wz yX11_alone cX11_alone 4 (some .int)) rm_X11_alone (va_Pc [.ref (G.2.1 11 0), .int x1, .int x2] (g_pw G (X, M, τ))) (va_Qi (fun r u => r = r0 ∧ u = (X0, M, τ)) (g_pw G) (g_A G)) 0 0 (g_A G) := by
  refine Met.ofW (cc := cX11_alone) (maxL := 4) (ret := (some .int)) (by decide +kernel) rfl ?_
  intro p e s m args below meth c s₁ B hml hv
  obtain ⟨rfl, hC, hP⟩ := hv
  have C0 : g_mc p s m _ meth c RX11 cX11_alone (some .int) 4 G := ⟨B.exec, B.bytes, B.returns, hml, findClass_of_methodNamed B.named, fun w h => atoms_spec (ws := wz yX11_alone cX11_alone 4 (some .int)) B.pre w (List.mem_cons_of_mem _ h), B.notSynchronized, hC⟩
  have hl := lv_entry ([.ref (G.2.1 11 0), .int x1, .int x2]) (n := 4) (Nat.le_of_ble_eq_true rfl)
  rw [lg_entry_eq]
  generalize (lg_sl ([.ref (G.2.1 11 0), .int x1, .int x2]) ++ List.replicate (4 - (lg_sl ([.ref (G.2.1 11 0), .int x1, .int x2])).length) Slot.unset).toArray = ls at hl ⊢
  exact wk_X11_alone C0  x1 x2 X hf hP va_S.rf hl
abbrev rm_X11_asks : Room := { frames := 1, cells := 0, slots := 0, locals := 20 }
def fn_X11_asks (x1 : Int32) (x2 : Int32) (X : SM) : Option (Int32 × SM) :=
  g_let (fn_X11_isThread x1) fun r_1 =>
  if r_1 = 0 then
  (some ((-1), X))
  else
  (if x2 < 0 then
    (some ((-1), X))
    else
    (if x2 ≤ 16 then
      (if g_in x1 6 then
        g_let ((X 36 0 (x1.toNatClampNeg))) fun x3_7 =>
        if g_in x1 6 then
        g_let (u1 X 36 0 (x1.toNatClampNeg) x2) fun X_9 =>
        some (x3_7, X_9)
        else none
        else none)
      else
      (some ((-1), X))))
set_option maxRecDepth 100000 in
set_option maxHeartbeats 4000000 in
theorem wk_X11_asks {p : Program} {l : Launch} {e : Env} {s : State} {m : MethodId} {args : Array Value} {below : List Frame} {meth : Method} {c : Code} {G : GP} {M : SM} {τ : SL} (C0 : g_mc p s m args meth c RX11 cX11_asks (some .int) 4 G) {r0 : Int32} {X0 : SM} (x1 : Int32) (x2 : Int32) (X : SM) (hf : fn_X11_asks x1 x2 X = some (r0, X0)) {H : Heap} {locs : List Loc} (hP : va_P G.1 g_cl (wd G (cb X M) τ) H) (hS : va_S (g_A G) s.heap H locs) {ls : Array Slot} (hl : lv_has ls 4 [(0, .ref (G.2.1 11 0)), (1, .int x1), (2, .int x2)]) : W p l e rm_X11_asks s m args below meth c H locs 0 0 (MQ below (va_Qi (fun r u => r = r0 ∧ u = (X0, M, τ)) (g_pw G) (g_A G)) args s 0 0 (g_A G)) (F0 m 0 ls []) := by
  obtain ⟨hx, hb, hr, hml, hown, hts, hlocks, hC⟩ := id C0
  unfold fn_X11_asks at hf
  refine lv_iload_n hx hb dX11_asks_0 rfl (lv_at hl 1 rfl) ?_
  obtain ⟨r_1, hc_2, hf⟩ := g_letE hf
  refine x_calli (v := (X, M, τ)) (va_runS (As := [.int x1]) (rest := []) ⟨hx, hb, hml, hown, hts⟩ (ct_X11_isThread l G X M τ x1 hc_2) (cwS 1 hts gd_X11_56 rfl rfl rfl hd_X11_isThread ⟨Nat.le_of_ble_eq_true rfl, Nat.le_of_ble_eq_true rfl⟩) (x_pre (u := (X, M, τ)) hC hS hP) rfl rfl hl.1 rfl (lv_room (Nat.le_of_ble_eq_true rfl)) dX11_asks_1 ⟨Nat.zero_le _, Nat.zero_le _⟩) hS (fun H locs hP hS => ?_)
  refine lv_if_eq (tgt := 17) hx hb dX11_asks_4 (by decide) (fun hc_3 => ?_) (fun hc_3 => ?_)
  · have hf := g_pos hf hc_3
    refine lv_iconst (v := (-1)) hx hb dX11_asks_17 (by decide) ?_
    cases hf
    exact x_iret hx hb hlocks hC hP hS hr dX11_asks_18
  · have hf := g_neg hf hc_3
    refine lv_iload_n hx hb dX11_asks_7 rfl (lv_at hl 2 rfl) ?_
    refine lv_if_lt (tgt := 17) hx hb dX11_asks_8 (by decide) (fun hc_4 => ?_) (fun hc_4 => ?_)
    · have hf := g_pos hf hc_4
      refine lv_iconst (v := (-1)) hx hb dX11_asks_17 (by decide) ?_
      cases hf
      exact x_iret hx hb hlocks hC hP hS hr dX11_asks_18
    · have hf := g_neg hf hc_4
      refine lv_iload_n hx hb dX11_asks_11 rfl (lv_at hl 2 rfl) ?_
      refine lv_bipush (v := 16) hx hb dX11_asks_12 (by decide) ?_
      refine lv_icmp_le (tgt := 19) hx hb dX11_asks_14 (by decide) (fun hc_5 => ?_) (fun hc_5 => ?_)
      · have hf := g_pos hf hc_5
        refine lv_aload_n hx hb dX11_asks_19 rfl (lv_at hl 0 rfl) ?_
        refine gt_11_7 hx hb hts hown hC hP Nat.zero_lt_one q2_12 dX11_asks_20 ?_
        refine lv_iload_n hx hb dX11_asks_23 rfl (lv_at hl 1 rfl) ?_
        obtain ⟨hg_6, hf⟩ := g_gd hf
        refine xildX (k := 36) (n := 6) hx hb hC hP (fun _ _ => rfl) rfl Nat.zero_lt_one hg_6 dX11_asks_24 ?_
        obtain ⟨x3_7, ex3_7, hf⟩ := g_letE hf
        refine lv_topE ex3_7 ?_
        refine lv_istore_n (lv' := [(3, .int x3_7), (0, .ref (G.2.1 11 0)), (1, .int x1), (2, .int x2)]) hx hb dX11_asks_25 rfl hl (by decide) rfl (fun ls hl => ?_)
        refine lv_aload_n hx hb dX11_asks_26 rfl (lv_at hl 1 rfl) ?_
        refine gt_11_7 hx hb hts hown hC hP Nat.zero_lt_one q2_12 dX11_asks_27 ?_
        refine lv_iload_n hx hb dX11_asks_30 rfl (lv_at hl 2 rfl) ?_
        refine lv_iload_n hx hb dX11_asks_31 rfl (lv_at hl 3 rfl) ?_
        obtain ⟨hg_8, hf⟩ := g_gd hf
        obtain ⟨X_9, eX_9, hf⟩ := g_letE hf
        refine xistX (k := 36) (n := 6) hx hb hC hP hS (fun _ _ => rfl) rfl Nat.zero_lt_one hg_8 dX11_asks_32 (fun H locs hP hS => ?_)
        rw [eX_9] at hP
        refine lv_iload_n hx hb dX11_asks_33 rfl (lv_at hl 0 rfl) ?_
        cases hf
        exact x_iret hx hb hlocks hC hP hS hr dX11_asks_34
      · have hf := g_neg hf hc_5
        refine lv_iconst (v := (-1)) hx hb dX11_asks_17 (by decide) ?_
        cases hf
        exact x_iret hx hb hlocks hC hP hS hr dX11_asks_18
set_option maxRecDepth 100000 in
set_option maxHeartbeats 4000000 in
theorem ct_X11_asks (l : Launch) (G : GP) (X M : SM) (τ : SL) (x1 : Int32) (x2 : Int32) {r0 : Int32} {X0 : SM} (hf : fn_X11_asks x1 x2 X = some (r0, X0)) : Met l yX11_asks (wz yX11_asks cX11_asks 4 (some .int)) rm_X11_asks (va_Pc [.ref (G.2.1 11 0), .int x1, .int x2] (g_pw G (X, M, τ))) (va_Qi (fun r u => r = r0 ∧ u = (X0, M, τ)) (g_pw G) (g_A G)) 0 0 (g_A G) := by
  refine Met.ofW (cc := cX11_asks) (maxL := 4) (ret := (some .int)) (by decide +kernel) rfl ?_
  intro p e s m args below meth c s₁ B hml hv
  obtain ⟨rfl, hC, hP⟩ := hv
  have C0 : g_mc p s m _ meth c RX11 cX11_asks (some .int) 4 G := ⟨B.exec, B.bytes, B.returns, hml, findClass_of_methodNamed B.named, fun w h => atoms_spec (ws := wz yX11_asks cX11_asks 4 (some .int)) B.pre w (List.mem_cons_of_mem _ h), B.notSynchronized, hC⟩
  have hl := lv_entry ([.ref (G.2.1 11 0), .int x1, .int x2]) (n := 4) (Nat.le_of_ble_eq_true rfl)
  rw [lg_entry_eq]
  generalize (lg_sl ([.ref (G.2.1 11 0), .int x1, .int x2]) ++ List.replicate (4 - (lg_sl ([.ref (G.2.1 11 0), .int x1, .int x2])).length) Slot.unset).toArray = ls at hl ⊢
  exact wk_X11_asks C0  x1 x2 X hf hP va_S.rf hl
abbrev rm_X2_isPlainKind : Room := { frames := 0, cells := 0, slots := 0, locals := 0 }
def fn_X2_isPlainKind (x0 : Int32) : Int32 :=
  if x0 ≤ 10 then
  (1)
  else
  (if x0 = 12 then
    (1)
    else
    (if x0 = 15 then
      (1)
      else
      (if x0 = 19 then
        (1)
        else
        (if x0 = 20 then
          (1)
          else
          (0)))))
set_option maxRecDepth 100000 in
set_option maxHeartbeats 4000000 in
theorem wk_X2_isPlainKind {p : Program} {l : Launch} {e : Env} {s : State} {m : MethodId} {args : Array Value} {below : List Frame} {meth : Method} {c : Code} {G : GP} {X : SM} {M : SM} {τ : SL} (C0 : g_mc p s m args meth c RX2 cX2_isPlainKind (some .boolean) 1 G) {r0 : Int32} (x0 : Int32) (hf : fn_X2_isPlainKind x0 = r0) {H : Heap} {locs : List Loc} (hP : va_P G.1 g_cl (wd G (cb X M) τ) H) (hS : va_S (g_A G) s.heap H locs) {ls : Array Slot} (hl : lv_has ls 1 [(0, .int x0)]) : W p l e rm_X2_isPlainKind s m args below meth c H locs 0 0 (MQ below (va_Qi (fun r u => r = r0 ∧ u = (X, M, τ)) (g_pw G) (g_A G)) args s 0 0 (g_A G)) (F0 m 0 ls []) := by
  obtain ⟨hx, hb, hr, hml, hown, hts, hlocks, hC⟩ := id C0
  unfold fn_X2_isPlainKind at hf
  refine lv_iload_n hx hb dX2_isPlainKind_0 rfl (lv_at hl 0 rfl) ?_
  refine lv_bipush (v := 10) hx hb dX2_isPlainKind_1 (by decide) ?_
  refine lv_icmp_le (tgt := 30) hx hb dX2_isPlainKind_3 (by decide) (fun hc_1 => ?_) (fun hc_1 => ?_)
  · have hf := g_pos hf hc_1
    refine lv_iconst (v := 1) hx hb dX2_isPlainKind_30 (by decide) ?_
    refine lv_goto (tgt := 35) hx hb dX2_isPlainKind_31 (by decide) ?_
    cases hf
    exact x_zret hx hb hlocks hC hP hS hr (Or.inr rfl) dX2_isPlainKind_35
  · have hf := g_neg hf hc_1
    refine lv_iload_n hx hb dX2_isPlainKind_6 rfl (lv_at hl 0 rfl) ?_
    refine lv_bipush (v := 12) hx hb dX2_isPlainKind_7 (by decide) ?_
    refine lv_icmp_eq (tgt := 30) hx hb dX2_isPlainKind_9 (by decide) (fun hc_2 => ?_) (fun hc_2 => ?_)
    · have hf := g_pos hf hc_2
      refine lv_iconst (v := 1) hx hb dX2_isPlainKind_30 (by decide) ?_
      refine lv_goto (tgt := 35) hx hb dX2_isPlainKind_31 (by decide) ?_
      cases hf
      exact x_zret hx hb hlocks hC hP hS hr (Or.inr rfl) dX2_isPlainKind_35
    · have hf := g_neg hf hc_2
      refine lv_iload_n hx hb dX2_isPlainKind_12 rfl (lv_at hl 0 rfl) ?_
      refine lv_bipush (v := 15) hx hb dX2_isPlainKind_13 (by decide) ?_
      refine lv_icmp_eq (tgt := 30) hx hb dX2_isPlainKind_15 (by decide) (fun hc_3 => ?_) (fun hc_3 => ?_)
      · have hf := g_pos hf hc_3
        refine lv_iconst (v := 1) hx hb dX2_isPlainKind_30 (by decide) ?_
        refine lv_goto (tgt := 35) hx hb dX2_isPlainKind_31 (by decide) ?_
        cases hf
        exact x_zret hx hb hlocks hC hP hS hr (Or.inr rfl) dX2_isPlainKind_35
      · have hf := g_neg hf hc_3
        refine lv_iload_n hx hb dX2_isPlainKind_18 rfl (lv_at hl 0 rfl) ?_
        refine lv_bipush (v := 19) hx hb dX2_isPlainKind_19 (by decide) ?_
        refine lv_icmp_eq (tgt := 30) hx hb dX2_isPlainKind_21 (by decide) (fun hc_4 => ?_) (fun hc_4 => ?_)
        · have hf := g_pos hf hc_4
          refine lv_iconst (v := 1) hx hb dX2_isPlainKind_30 (by decide) ?_
          refine lv_goto (tgt := 35) hx hb dX2_isPlainKind_31 (by decide) ?_
          cases hf
          exact x_zret hx hb hlocks hC hP hS hr (Or.inr rfl) dX2_isPlainKind_35
        · have hf := g_neg hf hc_4
          refine lv_iload_n hx hb dX2_isPlainKind_24 rfl (lv_at hl 0 rfl) ?_
          refine lv_bipush (v := 20) hx hb dX2_isPlainKind_25 (by decide) ?_
          refine lv_icmp_ne (tgt := 34) hx hb dX2_isPlainKind_27 (by decide) (fun hc_5 => ?_) (fun hc_5 => ?_)
          · have hf := g_neg hf hc_5
            refine lv_iconst (v := 0) hx hb dX2_isPlainKind_34 (by decide) ?_
            cases hf
            exact x_zret hx hb hlocks hC hP hS hr (Or.inl rfl) dX2_isPlainKind_35
          · have hf := g_pos hf hc_5
            refine lv_iconst (v := 1) hx hb dX2_isPlainKind_30 (by decide) ?_
            refine lv_goto (tgt := 35) hx hb dX2_isPlainKind_31 (by decide) ?_
            cases hf
            exact x_zret hx hb hlocks hC hP hS hr (Or.inr rfl) dX2_isPlainKind_35
set_option maxRecDepth 100000 in
set_option maxHeartbeats 4000000 in
theorem ct_X2_isPlainKind (l : Launch) (G : GP) (X M : SM) (τ : SL) (x0 : Int32) {r0 : Int32} (hf : fn_X2_isPlainKind x0 = r0) : Met l yX2_isPlainKind (wz yX2_isPlainKind cX2_isPlainKind 1 (some .boolean)) rm_X2_isPlainKind (va_Pc [.int x0] (g_pw G (X, M, τ))) (va_Qi (fun r u => r = r0 ∧ u = (X, M, τ)) (g_pw G) (g_A G)) 0 0 (g_A G) := by
  refine Met.ofW (cc := cX2_isPlainKind) (maxL := 1) (ret := (some .boolean)) (by decide +kernel) rfl ?_
  intro p e s m args below meth c s₁ B hml hv
  obtain ⟨rfl, hC, hP⟩ := hv
  have C0 : g_mc p s m _ meth c RX2 cX2_isPlainKind (some .boolean) 1 G := ⟨B.exec, B.bytes, B.returns, hml, findClass_of_methodNamed B.named, fun w h => atoms_spec (ws := wz yX2_isPlainKind cX2_isPlainKind 1 (some .boolean)) B.pre w (List.mem_cons_of_mem _ h), B.notSynchronized, hC⟩
  have hl := lv_entry ([.int x0]) (n := 1) (Nat.le_of_ble_eq_true rfl)
  rw [lg_entry_eq]
  generalize (lg_sl ([.int x0]) ++ List.replicate (1 - (lg_sl ([.int x0])).length) Slot.unset).toArray = ls at hl ⊢
  exact wk_X2_isPlainKind C0  x0 hf hP va_S.rf hl
abbrev rm_X2_leapsWell : Room := { frames := 1, cells := 0, slots := 0, locals := 21 }
def wb_X2_leapsWell_9 (k9 : Nat → Int32 → Int32 → Int32 → SM → Option (Int32)) (t0 : Nat) (x1 : Int32) (x2 : Int32) (x3 : Int32) (X : SM) : Option (Int32) :=
  if 24 ≤ x3 then
  (if x2 ≤ x1 then
    (some 0)
    else
    (some 1))
  else
  (g_let (fn_X1_has t0 x3 X) fun r_5 =>
    if r_5 = 0 then
    (if x2 ≤ x1 then
      (some 0)
      else
      (some 1))
    else
    (if g_in x3 24 then
      if (X 16 t0 (x3.toNatClampNeg)) = 9 then
      (if g_in x3 24 then
        g_let ((X 18 t0 (x3.toNatClampNeg))) fun x4_12 =>
        if x1 < x4_12 then
        (if x2 ≤ x4_12 then
          (g_let (x3 + 1) fun x3_16 =>
            k9 t0 x1 x2 x3_16 X)
          else
          (if x3 < x2 then
            (g_let (x3 + 1) fun x3_18 =>
              k9 t0 x1 x2 x3_18 X)
            else
            (some 0)))
        else
        (if x3 < x1 then
          (if x2 ≤ x4_12 then
            (g_let (x3 + 1) fun x3_22 =>
              k9 t0 x1 x2 x3_22 X)
            else
            (if x3 < x2 then
              (g_let (x3 + 1) fun x3_24 =>
                k9 t0 x1 x2 x3_24 X)
              else
              (some 0)))
          else
          (if x2 ≤ x3 then
            (g_let (x3 + 1) fun x3_27 =>
              k9 t0 x1 x2 x3_27 X)
            else
            (some 0)))
        else none)
      else
      (g_let (x3 + 1) fun x3_28 =>
        k9 t0 x1 x2 x3_28 X)
      else none))
set_option maxRecDepth 100000 in
set_option maxHeartbeats 4000000 in
theorem bk_X2_leapsWell_9 {p : Program} {l : Launch} {e : Env} {s : State} {m : MethodId} {args : Array Value} {below : List Frame} {meth : Method} {c : Code} {G : GP} {M : SM} {τ : SL} (C0 : g_mc p s m args meth c RX2 cX2_leapsWell (some .boolean) 6 G) {r0 : Int32} (k9 : Nat → Int32 → Int32 → Int32 → SM → Option (Int32)) (hk9 : ∀ (t0 : Nat) (ht0 : t0 < 12) (x1 : Int32) (x2 : Int32) (x3 : Int32) (X : SM), k9 t0 x1 x2 x3 X = some r0 → ∀ {H : Heap} {locs : List Loc}, va_P G.1 g_cl (wd G (cb X M) τ) H → va_S (g_A G) s.heap H locs → ∀ {ls : Array Slot}, lv_has ls 6 [(0, .ref (G.2.1 1 t0)), (1, .int x1), (2, .int x2), (3, .int x3)] → W p l e rm_X2_leapsWell s m args below meth c H locs 0 0 (MQ below (va_Qi (fun r u => r = r0 ∧ u = (X, M, τ)) (g_pw G) (g_A G)) args s 0 0 (g_A G)) (F0 m 9 ls [])) (t0 : Nat) (ht0 : t0 < 12) (x1 : Int32) (x2 : Int32) (x3 : Int32) (X : SM) (hf : wb_X2_leapsWell_9 k9 t0 x1 x2 x3 X = some r0) {H : Heap} {locs : List Loc} (hP : va_P G.1 g_cl (wd G (cb X M) τ) H) (hS : va_S (g_A G) s.heap H locs) {ls : Array Slot} (hl : lv_has ls 6 [(0, .ref (G.2.1 1 t0)), (1, .int x1), (2, .int x2), (3, .int x3)]) : W p l e rm_X2_leapsWell s m args below meth c H locs 0 0 (MQ below (va_Qi (fun r u => r = r0 ∧ u = (X, M, τ)) (g_pw G) (g_A G)) args s 0 0 (g_A G)) (F0 m 9 ls []) := by
  obtain ⟨hx, hb, hr, hml, hown, hts, hlocks, hC⟩ := id C0
  unfold wb_X2_leapsWell_9 at hf
  refine lv_iload_n hx hb dX2_leapsWell_9 rfl (lv_at hl 3 rfl) ?_
  refine lv_bipush (v := 24) hx hb dX2_leapsWell_10 (by decide) ?_
  refine lv_icmp_ge (tgt := 95) hx hb dX2_leapsWell_12 (by decide) (fun hc_3 => ?_) (fun hc_3 => ?_)
  · have hf := g_pos hf hc_3
    refine lv_iload_n hx hb dX2_leapsWell_95 rfl (lv_at hl 2 rfl) ?_
    refine lv_iload_n hx hb dX2_leapsWell_96 rfl (lv_at hl 1 rfl) ?_
    refine lv_icmp_le (tgt := 104) hx hb dX2_leapsWell_97 (by decide) (fun hc_4 => ?_) (fun hc_4 => ?_)
    · have hf := g_pos hf hc_4
      refine lv_iconst (v := 0) hx hb dX2_leapsWell_104 (by decide) ?_
      cases hf
      exact x_zret hx hb hlocks hC hP hS hr (Or.inl rfl) dX2_leapsWell_105
    · have hf := g_neg hf hc_4
      refine lv_iconst (v := 1) hx hb dX2_leapsWell_100 (by decide) ?_
      refine lv_goto (tgt := 105) hx hb dX2_leapsWell_101 (by decide) ?_
      cases hf
      exact x_zret hx hb hlocks hC hP hS hr (Or.inr rfl) dX2_leapsWell_105
  · have hf := g_neg hf hc_3
    refine lv_aload_n hx hb dX2_leapsWell_15 rfl (lv_at hl 0 rfl) ?_
    refine lv_iload_n hx hb dX2_leapsWell_16 rfl (lv_at hl 3 rfl) ?_
    obtain ⟨r_5, hc_6, hf⟩ := g_letE hf
    refine x_calli (v := (X, M, τ)) (va_runV (As := [.int x3]) (rest := []) ⟨hx, hb, hml, hown, hts⟩ (ct_X1_has l G X M τ t0 ht0 x3 hc_6) (cwV 1 hts gd_X2_15 rfl rfl rfl hd_X1_has ⟨Nat.le_of_ble_eq_true rfl, Nat.le_of_ble_eq_true rfl⟩) (x_preV (u := (X, M, τ)) (k := 1) (ci := 1) hC hS hP ht0 rfl rfl) rfl rfl hl.1 rfl (lv_room (Nat.le_of_ble_eq_true rfl)) dX2_leapsWell_17 ⟨Nat.zero_le _, Nat.zero_le _⟩) hS (fun H locs hP hS => ?_)
    refine lv_if_eq (tgt := 95) hx hb dX2_leapsWell_20 (by decide) (fun hc_7 => ?_) (fun hc_7 => ?_)
    · have hf := g_pos hf hc_7
      refine lv_iload_n hx hb dX2_leapsWell_95 rfl (lv_at hl 2 rfl) ?_
      refine lv_iload_n hx hb dX2_leapsWell_96 rfl (lv_at hl 1 rfl) ?_
      refine lv_icmp_le (tgt := 104) hx hb dX2_leapsWell_97 (by decide) (fun hc_8 => ?_) (fun hc_8 => ?_)
      · have hf := g_pos hf hc_8
        refine lv_iconst (v := 0) hx hb dX2_leapsWell_104 (by decide) ?_
        cases hf
        exact x_zret hx hb hlocks hC hP hS hr (Or.inl rfl) dX2_leapsWell_105
      · have hf := g_neg hf hc_8
        refine lv_iconst (v := 1) hx hb dX2_leapsWell_100 (by decide) ?_
        refine lv_goto (tgt := 105) hx hb dX2_leapsWell_101 (by decide) ?_
        cases hf
        exact x_zret hx hb hlocks hC hP hS hr (Or.inr rfl) dX2_leapsWell_105
    · have hf := g_neg hf hc_7
      refine lv_aload_n hx hb dX2_leapsWell_23 rfl (lv_at hl 0 rfl) ?_
      refine gt_1_0 hx hb hts hown hC hP ht0 q35_23 dX2_leapsWell_24 ?_
      refine lv_iload_n hx hb dX2_leapsWell_27 rfl (lv_at hl 3 rfl) ?_
      obtain ⟨hg_9, hf⟩ := g_gd hf
      refine xildX (k := 16) (n := 24) hx hb hC hP (fun _ _ => rfl) rfl ht0 hg_9 dX2_leapsWell_28 ?_
      refine lv_bipush (v := 9) hx hb dX2_leapsWell_29 (by decide) ?_
      refine lv_icmp_eq (tgt := 37) hx hb dX2_leapsWell_31 (by decide) (fun hc_10 => ?_) (fun hc_10 => ?_)
      · have hf := g_pos hf hc_10
        refine lv_aload_n hx hb dX2_leapsWell_37 rfl (lv_at hl 0 rfl) ?_
        refine gt_1_2 hx hb hts hown hC hP ht0 q36_8 dX2_leapsWell_38 ?_
        refine lv_iload_n hx hb dX2_leapsWell_41 rfl (lv_at hl 3 rfl) ?_
        obtain ⟨hg_11, hf⟩ := g_gd hf
        refine xildX (k := 18) (n := 24) hx hb hC hP (fun _ _ => rfl) rfl ht0 hg_11 dX2_leapsWell_42 ?_
        obtain ⟨x4_12, ex4_12, hf⟩ := g_letE hf
        refine lv_topE ex4_12 ?_
        refine lv_istore (lv' := [(4, .int x4_12), (0, .ref (G.2.1 1 t0)), (1, .int x1), (2, .int x2), (3, .int x3)]) hx hb dX2_leapsWell_43 hl (by decide) rfl (fun ls hl => ?_)
        refine lv_iload_n hx hb dX2_leapsWell_45 rfl (lv_at hl 2 rfl) ?_
        refine lv_iload hx hb dX2_leapsWell_46 (lv_at hl 0 rfl) ?_
        refine lv_icmp_lt (tgt := 60) hx hb dX2_leapsWell_48 (by decide) (fun hc_13 => ?_) (fun hc_13 => ?_)
        · have hf := g_pos hf hc_13
          refine lv_iconst (v := 0) hx hb dX2_leapsWell_60 (by decide) ?_
          refine lv_istore (lv' := [(5, .int 0), (4, .int x4_12), (0, .ref (G.2.1 1 t0)), (1, .int x1), (2, .int x2), (3, .int x3)]) hx hb dX2_leapsWell_61 hl (by decide) rfl (fun ls hl => ?_)
          refine lv_iload hx hb dX2_leapsWell_63 (lv_at hl 0 rfl) ?_
          refine lv_if_eq (tgt := 76) hx hb dX2_leapsWell_65 (by decide) (fun _ => ?_) (fun h => absurd h (by decide))
          refine lv_iload_n hx hb dX2_leapsWell_76 rfl (lv_at hl 4 rfl) ?_
          refine lv_iload hx hb dX2_leapsWell_77 (lv_at hl 1 rfl) ?_
          refine lv_icmp_le (tgt := 89) hx hb dX2_leapsWell_79 (by decide) (fun hc_15 => ?_) (fun hc_15 => ?_)
          · have hf := g_pos hf hc_15
            obtain ⟨x3_16, ex3_16, hf⟩ := g_letE hf
            refine lv_iinc (v := x3_16) (lv' := [(3, .int x3_16), (5, .int 0), (4, .int x4_12), (0, .ref (G.2.1 1 t0)), (1, .int x1), (2, .int x2)]) hx hb dX2_leapsWell_89 hl (k := 5) rfl (by rw [← ex3_16]; rfl) (by decide) rfl (fun ls hl => ?_)
            refine lv_goto (tgt := 9) hx hb dX2_leapsWell_92 (by decide) ?_
            exact hk9 t0 ht0 x1 x2 x3_16 X hf hP hS (lv_sub hl [3, 4, 5, 0] rfl)
          · have hf := g_neg hf hc_15
            refine lv_iload_n hx hb dX2_leapsWell_82 rfl (lv_at hl 4 rfl) ?_
            refine lv_iload_n hx hb dX2_leapsWell_83 rfl (lv_at hl 5 rfl) ?_
            refine lv_icmp_gt (tgt := 89) hx hb dX2_leapsWell_84 (by decide) (fun hc_17 => ?_) (fun hc_17 => ?_)
            · have hf := g_pos hf hc_17
              obtain ⟨x3_18, ex3_18, hf⟩ := g_letE hf
              refine lv_iinc (v := x3_18) (lv' := [(3, .int x3_18), (5, .int 0), (4, .int x4_12), (0, .ref (G.2.1 1 t0)), (1, .int x1), (2, .int x2)]) hx hb dX2_leapsWell_89 hl (k := 5) rfl (by rw [← ex3_18]; rfl) (by decide) rfl (fun ls hl => ?_)
              refine lv_goto (tgt := 9) hx hb dX2_leapsWell_92 (by decide) ?_
              exact hk9 t0 ht0 x1 x2 x3_18 X hf hP hS (lv_sub hl [3, 4, 5, 0] rfl)
            · have hf := g_neg hf hc_17
              refine lv_iconst (v := 0) hx hb dX2_leapsWell_87 (by decide) ?_
              cases hf
              exact x_zret hx hb hlocks hC hP hS hr (Or.inl rfl) dX2_leapsWell_88
        · have hf := g_neg hf hc_13
          refine lv_iload_n hx hb dX2_leapsWell_51 rfl (lv_at hl 2 rfl) ?_
          refine lv_iload_n hx hb dX2_leapsWell_52 rfl (lv_at hl 4 rfl) ?_
          refine lv_icmp_gt (tgt := 60) hx hb dX2_leapsWell_53 (by decide) (fun hc_19 => ?_) (fun hc_19 => ?_)
          · have hf := g_pos hf hc_19
            refine lv_iconst (v := 0) hx hb dX2_leapsWell_60 (by decide) ?_
            refine lv_istore (lv' := [(5, .int 0), (4, .int x4_12), (0, .ref (G.2.1 1 t0)), (1, .int x1), (2, .int x2), (3, .int x3)]) hx hb dX2_leapsWell_61 hl (by decide) rfl (fun ls hl => ?_)
            refine lv_iload hx hb dX2_leapsWell_63 (lv_at hl 0 rfl) ?_
            refine lv_if_eq (tgt := 76) hx hb dX2_leapsWell_65 (by decide) (fun _ => ?_) (fun h => absurd h (by decide))
            refine lv_iload_n hx hb dX2_leapsWell_76 rfl (lv_at hl 4 rfl) ?_
            refine lv_iload hx hb dX2_leapsWell_77 (lv_at hl 1 rfl) ?_
            refine lv_icmp_le (tgt := 89) hx hb dX2_leapsWell_79 (by decide) (fun hc_21 => ?_) (fun hc_21 => ?_)
            · have hf := g_pos hf hc_21
              obtain ⟨x3_22, ex3_22, hf⟩ := g_letE hf
              refine lv_iinc (v := x3_22) (lv' := [(3, .int x3_22), (5, .int 0), (4, .int x4_12), (0, .ref (G.2.1 1 t0)), (1, .int x1), (2, .int x2)]) hx hb dX2_leapsWell_89 hl (k := 5) rfl (by rw [← ex3_22]; rfl) (by decide) rfl (fun ls hl => ?_)
              refine lv_goto (tgt := 9) hx hb dX2_leapsWell_92 (by decide) ?_
              exact hk9 t0 ht0 x1 x2 x3_22 X hf hP hS (lv_sub hl [3, 4, 5, 0] rfl)
            · have hf := g_neg hf hc_21
              refine lv_iload_n hx hb dX2_leapsWell_82 rfl (lv_at hl 4 rfl) ?_
              refine lv_iload_n hx hb dX2_leapsWell_83 rfl (lv_at hl 5 rfl) ?_
              refine lv_icmp_gt (tgt := 89) hx hb dX2_leapsWell_84 (by decide) (fun hc_23 => ?_) (fun hc_23 => ?_)
              · have hf := g_pos hf hc_23
                obtain ⟨x3_24, ex3_24, hf⟩ := g_letE hf
                refine lv_iinc (v := x3_24) (lv' := [(3, .int x3_24), (5, .int 0), (4, .int x4_12), (0, .ref (G.2.1 1 t0)), (1, .int x1), (2, .int x2)]) hx hb dX2_leapsWell_89 hl (k := 5) rfl (by rw [← ex3_24]; rfl) (by decide) rfl (fun ls hl => ?_)
                refine lv_goto (tgt := 9) hx hb dX2_leapsWell_92 (by decide) ?_
                exact hk9 t0 ht0 x1 x2 x3_24 X hf hP hS (lv_sub hl [3, 4, 5, 0] rfl)
              · have hf := g_neg hf hc_23
                refine lv_iconst (v := 0) hx hb dX2_leapsWell_87 (by decide) ?_
                cases hf
                exact x_zret hx hb hlocks hC hP hS hr (Or.inl rfl) dX2_leapsWell_88
          · have hf := g_neg hf hc_19
            refine lv_iconst (v := 1) hx hb dX2_leapsWell_56 (by decide) ?_
            refine lv_goto (tgt := 61) hx hb dX2_leapsWell_57 (by decide) ?_
            refine lv_istore (lv' := [(5, .int 1), (4, .int x4_12), (0, .ref (G.2.1 1 t0)), (1, .int x1), (2, .int x2), (3, .int x3)]) hx hb dX2_leapsWell_61 hl (by decide) rfl (fun ls hl => ?_)
            refine lv_iload hx hb dX2_leapsWell_63 (lv_at hl 0 rfl) ?_
            refine lv_if_eq (tgt := 76) hx hb dX2_leapsWell_65 (by decide) (fun h => absurd h (by decide)) (fun _ => ?_)
            refine lv_iload_n hx hb dX2_leapsWell_68 rfl (lv_at hl 4 rfl) ?_
            refine lv_iload_n hx hb dX2_leapsWell_69 rfl (lv_at hl 5 rfl) ?_
            refine lv_icmp_le (tgt := 89) hx hb dX2_leapsWell_70 (by decide) (fun hc_26 => ?_) (fun hc_26 => ?_)
            · have hf := g_pos hf hc_26
              obtain ⟨x3_27, ex3_27, hf⟩ := g_letE hf
              refine lv_iinc (v := x3_27) (lv' := [(3, .int x3_27), (5, .int 1), (4, .int x4_12), (0, .ref (G.2.1 1 t0)), (1, .int x1), (2, .int x2)]) hx hb dX2_leapsWell_89 hl (k := 5) rfl (by rw [← ex3_27]; rfl) (by decide) rfl (fun ls hl => ?_)
              refine lv_goto (tgt := 9) hx hb dX2_leapsWell_92 (by decide) ?_
              exact hk9 t0 ht0 x1 x2 x3_27 X hf hP hS (lv_sub hl [3, 4, 5, 0] rfl)
            · have hf := g_neg hf hc_26
              refine lv_goto (tgt := 87) hx hb dX2_leapsWell_73 (by decide) ?_
              refine lv_iconst (v := 0) hx hb dX2_leapsWell_87 (by decide) ?_
              cases hf
              exact x_zret hx hb hlocks hC hP hS hr (Or.inl rfl) dX2_leapsWell_88
      · have hf := g_neg hf hc_10
        refine lv_goto (tgt := 89) hx hb dX2_leapsWell_34 (by decide) ?_
        obtain ⟨x3_28, ex3_28, hf⟩ := g_letE hf
        refine lv_iinc (v := x3_28) (lv' := [(3, .int x3_28), (0, .ref (G.2.1 1 t0)), (1, .int x1), (2, .int x2)]) hx hb dX2_leapsWell_89 hl (k := 3) rfl (by rw [← ex3_28]; rfl) (by decide) rfl (fun ls hl => ?_)
        refine lv_goto (tgt := 9) hx hb dX2_leapsWell_92 (by decide) ?_
        exact hk9 t0 ht0 x1 x2 x3_28 X hf hP hS (lv_sub hl [1, 2, 3, 0] rfl)
def wl_X2_leapsWell_9 (n : Nat) (t0 : Nat) (x1 : Int32) (x2 : Int32) (x3 : Int32) (X : SM) : Option (Int32) := g_loop (α := Nat × Int32 × Int32 × Int32 × SM) (fun k a => wb_X2_leapsWell_9 (fun t0 x1 x2 x3 X => k (t0, x1, x2, x3, X)) a.1 a.2.1 a.2.2.1 a.2.2.2.1 a.2.2.2.2) n (t0, x1, x2, x3, X)
set_option maxRecDepth 100000 in
set_option maxHeartbeats 4000000 in
theorem lp_X2_leapsWell_9 {p : Program} {l : Launch} {e : Env} {s : State} {m : MethodId} {args : Array Value} {below : List Frame} {meth : Method} {c : Code} {G : GP} {M : SM} {τ : SL} (C0 : g_mc p s m args meth c RX2 cX2_leapsWell (some .boolean) 6 G) {r0 : Int32} (n : Nat) : ∀ (t0 : Nat) (ht0 : t0 < 12) (x1 : Int32) (x2 : Int32) (x3 : Int32) (X : SM), wl_X2_leapsWell_9 n t0 x1 x2 x3 X = some r0 → ∀ {H : Heap} {locs : List Loc}, va_P G.1 g_cl (wd G (cb X M) τ) H → va_S (g_A G) s.heap H locs → ∀ {ls : Array Slot}, lv_has ls 6 [(0, .ref (G.2.1 1 t0)), (1, .int x1), (2, .int x2), (3, .int x3)] → W p l e rm_X2_leapsWell s m args below meth c H locs 0 0 (MQ below (va_Qi (fun r u => r = r0 ∧ u = (X, M, τ)) (g_pw G) (g_A G)) args s 0 0 (g_A G)) (F0 m 9 ls []) := by
  induction n with
  | zero =>
    intro t0 ht0 x1 x2 x3 X hf
    have hf : (none : Option (Int32)) = _ := hf
    cases hf
  | succ n ih =>
    intro t0 ht0 x1 x2 x3 X hf H locs hP hS ls hl
    exact bk_X2_leapsWell_9 C0   (fun t0 x1 x2 x3 X => wl_X2_leapsWell_9   n t0 x1 x2 x3 X) ih t0 ht0 x1 x2 x3 X hf hP hS hl
def fn_X2_leapsWell (t0 : Nat) (x1 : Int32) (X : SM) : Option (Int32) :=
  if g_in x1 24 then
  g_let ((X 18 t0 (x1.toNatClampNeg))) fun x2_2 =>
  wl_X2_leapsWell_9 1000 t0 x1 x2_2 0 X
  else none
set_option maxRecDepth 100000 in
set_option maxHeartbeats 4000000 in
theorem wk_X2_leapsWell {p : Program} {l : Launch} {e : Env} {s : State} {m : MethodId} {args : Array Value} {below : List Frame} {meth : Method} {c : Code} {G : GP} {M : SM} {τ : SL} (C0 : g_mc p s m args meth c RX2 cX2_leapsWell (some .boolean) 6 G) {r0 : Int32} (t0 : Nat) (ht0 : t0 < 12) (x1 : Int32) (X : SM) (hf : fn_X2_leapsWell t0 x1 X = some r0) {H : Heap} {locs : List Loc} (hP : va_P G.1 g_cl (wd G (cb X M) τ) H) (hS : va_S (g_A G) s.heap H locs) {ls : Array Slot} (hl : lv_has ls 6 [(0, .ref (G.2.1 1 t0)), (1, .int x1)]) : W p l e rm_X2_leapsWell s m args below meth c H locs 0 0 (MQ below (va_Qi (fun r u => r = r0 ∧ u = (X, M, τ)) (g_pw G) (g_A G)) args s 0 0 (g_A G)) (F0 m 0 ls []) := by
  obtain ⟨hx, hb, hr, hml, hown, hts, hlocks, hC⟩ := id C0
  unfold fn_X2_leapsWell at hf
  refine lv_aload_n hx hb dX2_leapsWell_0 rfl (lv_at hl 0 rfl) ?_
  refine gt_1_2 hx hb hts hown hC hP ht0 q36_8 dX2_leapsWell_1 ?_
  refine lv_iload_n hx hb dX2_leapsWell_4 rfl (lv_at hl 1 rfl) ?_
  obtain ⟨hg_1, hf⟩ := g_gd hf
  refine xildX (k := 18) (n := 24) hx hb hC hP (fun _ _ => rfl) rfl ht0 hg_1 dX2_leapsWell_5 ?_
  obtain ⟨x2_2, ex2_2, hf⟩ := g_letE hf
  refine lv_topE ex2_2 ?_
  refine lv_istore_n (lv' := [(2, .int x2_2), (0, .ref (G.2.1 1 t0)), (1, .int x1)]) hx hb dX2_leapsWell_6 rfl hl (by decide) rfl (fun ls hl => ?_)
  refine lv_iconst (v := 0) hx hb dX2_leapsWell_7 (by decide) ?_
  refine lv_istore_n (lv' := [(3, .int 0), (2, .int x2_2), (0, .ref (G.2.1 1 t0)), (1, .int x1)]) hx hb dX2_leapsWell_8 rfl hl (by decide) rfl (fun ls hl => ?_)
  exact lp_X2_leapsWell_9 C0 1000 t0 ht0 x1 x2_2 0 X hf hP hS (lv_sub hl [2, 3, 1, 0] rfl)
set_option maxRecDepth 100000 in
set_option maxHeartbeats 4000000 in
theorem ct_X2_leapsWell (l : Launch) (G : GP) (X M : SM) (τ : SL) (t0 : Nat) (ht0 : t0 < 12) (x1 : Int32) {r0 : Int32} (hf : fn_X2_leapsWell t0 x1 X = some r0) : Met l yX2_leapsWell (wz yX2_leapsWell cX2_leapsWell 6 (some .boolean)) rm_X2_leapsWell (va_Pc [.ref (G.2.1 1 t0), .int x1] (g_pw G (X, M, τ))) (va_Qi (fun r u => r = r0 ∧ u = (X, M, τ)) (g_pw G) (g_A G)) 0 0 (g_A G) := by
  refine Met.ofW (cc := cX2_leapsWell) (maxL := 6) (ret := (some .boolean)) (by decide +kernel) rfl ?_
  intro p e s m args below meth c s₁ B hml hv
  obtain ⟨rfl, hC, hP⟩ := hv
  have C0 : g_mc p s m _ meth c RX2 cX2_leapsWell (some .boolean) 6 G := ⟨B.exec, B.bytes, B.returns, hml, findClass_of_methodNamed B.named, fun w h => atoms_spec (ws := wz yX2_leapsWell cX2_leapsWell 6 (some .boolean)) B.pre w (List.mem_cons_of_mem _ h), B.notSynchronized, hC⟩
  have hl := lv_entry ([.ref (G.2.1 1 t0), .int x1]) (n := 6) (Nat.le_of_ble_eq_true rfl)
  rw [lg_entry_eq]
  generalize (lg_sl ([.ref (G.2.1 1 t0), .int x1]) ++ List.replicate (6 - (lg_sl ([.ref (G.2.1 1 t0), .int x1])).length) Slot.unset).toArray = ls at hl ⊢
  exact wk_X2_leapsWell C0  t0 ht0 x1 X hf hP va_S.rf hl
abbrev rm_X2_nestsWell : Room := { frames := 1, cells := 0, slots := 0, locals := 21 }
def wb_X2_nestsWell_9 (k9 : Nat → Int32 → Int32 → Int32 → SM → Option (Int32)) (t0 : Nat) (x1 : Int32) (x2 : Int32) (x3 : Int32) (X : SM) : Option (Int32) :=
  if x1 ≤ x3 then
  (some 1)
  else
  (g_let (fn_X1_has t0 x3 X) fun r_4 =>
    if r_4 = 0 then
    (some 1)
    else
    (if g_in x3 24 then
      if x2 ≤ (X 18 t0 (x3.toNatClampNeg)) then
      (if g_in x3 24 then
        if (X 16 t0 (x3.toNatClampNeg)) = 9 then
        (g_let (x3 + 1) fun x3_13 =>
          k9 t0 x1 x2 x3_13 X)
        else
        (g_let (x3 + 1) fun x3_11 =>
          k9 t0 x1 x2 x3_11 X)
        else none)
      else
      (if x3 < x2 then
        (if g_in x3 24 then
          if (X 16 t0 (x3.toNatClampNeg)) = 9 then
          (g_let (x3 + 1) fun x3_19 =>
            k9 t0 x1 x2 x3_19 X)
          else
          (g_let (x3 + 1) fun x3_17 =>
            k9 t0 x1 x2 x3_17 X)
          else none)
        else
        (if g_in x3 24 then
          if (X 16 t0 (x3.toNatClampNeg)) = 9 then
          (some 0)
          else
          (g_let (x3 + 1) fun x3_22 =>
            k9 t0 x1 x2 x3_22 X)
          else none))
      else none))
set_option maxRecDepth 100000 in
set_option maxHeartbeats 4000000 in
theorem bk_X2_nestsWell_9 {p : Program} {l : Launch} {e : Env} {s : State} {m : MethodId} {args : Array Value} {below : List Frame} {meth : Method} {c : Code} {G : GP} {M : SM} {τ : SL} (C0 : g_mc p s m args meth c RX2 cX2_nestsWell (some .boolean) 5 G) {r0 : Int32} (k9 : Nat → Int32 → Int32 → Int32 → SM → Option (Int32)) (hk9 : ∀ (t0 : Nat) (ht0 : t0 < 12) (x1 : Int32) (x2 : Int32) (x3 : Int32) (X : SM), k9 t0 x1 x2 x3 X = some r0 → ∀ {H : Heap} {locs : List Loc}, va_P G.1 g_cl (wd G (cb X M) τ) H → va_S (g_A G) s.heap H locs → ∀ {ls : Array Slot}, lv_has ls 5 [(0, .ref (G.2.1 1 t0)), (1, .int x1), (2, .int x2), (3, .int x3)] → W p l e rm_X2_nestsWell s m args below meth c H locs 0 0 (MQ below (va_Qi (fun r u => r = r0 ∧ u = (X, M, τ)) (g_pw G) (g_A G)) args s 0 0 (g_A G)) (F0 m 9 ls [])) (t0 : Nat) (ht0 : t0 < 12) (x1 : Int32) (x2 : Int32) (x3 : Int32) (X : SM) (hf : wb_X2_nestsWell_9 k9 t0 x1 x2 x3 X = some r0) {H : Heap} {locs : List Loc} (hP : va_P G.1 g_cl (wd G (cb X M) τ) H) (hS : va_S (g_A G) s.heap H locs) {ls : Array Slot} (hl : lv_has ls 5 [(0, .ref (G.2.1 1 t0)), (1, .int x1), (2, .int x2), (3, .int x3)]) : W p l e rm_X2_nestsWell s m args below meth c H locs 0 0 (MQ below (va_Qi (fun r u => r = r0 ∧ u = (X, M, τ)) (g_pw G) (g_A G)) args s 0 0 (g_A G)) (F0 m 9 ls []) := by
  obtain ⟨hx, hb, hr, hml, hown, hts, hlocks, hC⟩ := id C0
  unfold wb_X2_nestsWell_9 at hf
  refine lv_iload_n hx hb dX2_nestsWell_9 rfl (lv_at hl 3 rfl) ?_
  refine lv_iload_n hx hb dX2_nestsWell_10 rfl (lv_at hl 1 rfl) ?_
  refine lv_icmp_ge (tgt := 68) hx hb dX2_nestsWell_11 (by decide) (fun hc_3 => ?_) (fun hc_3 => ?_)
  · have hf := g_pos hf hc_3
    refine lv_iconst (v := 1) hx hb dX2_nestsWell_68 (by decide) ?_
    cases hf
    exact x_zret hx hb hlocks hC hP hS hr (Or.inr rfl) dX2_nestsWell_69
  · have hf := g_neg hf hc_3
    refine lv_aload_n hx hb dX2_nestsWell_14 rfl (lv_at hl 0 rfl) ?_
    refine lv_iload_n hx hb dX2_nestsWell_15 rfl (lv_at hl 3 rfl) ?_
    obtain ⟨r_4, hc_5, hf⟩ := g_letE hf
    refine x_calli (v := (X, M, τ)) (va_runV (As := [.int x3]) (rest := []) ⟨hx, hb, hml, hown, hts⟩ (ct_X1_has l G X M τ t0 ht0 x3 hc_5) (cwV 1 hts gd_X2_15 rfl rfl rfl hd_X1_has ⟨Nat.le_of_ble_eq_true rfl, Nat.le_of_ble_eq_true rfl⟩) (x_preV (u := (X, M, τ)) (k := 1) (ci := 1) hC hS hP ht0 rfl rfl) rfl rfl hl.1 rfl (lv_room (Nat.le_of_ble_eq_true rfl)) dX2_nestsWell_16 ⟨Nat.zero_le _, Nat.zero_le _⟩) hS (fun H locs hP hS => ?_)
    refine lv_if_eq (tgt := 68) hx hb dX2_nestsWell_19 (by decide) (fun hc_6 => ?_) (fun hc_6 => ?_)
    · have hf := g_pos hf hc_6
      refine lv_iconst (v := 1) hx hb dX2_nestsWell_68 (by decide) ?_
      cases hf
      exact x_zret hx hb hlocks hC hP hS hr (Or.inr rfl) dX2_nestsWell_69
    · have hf := g_neg hf hc_6
      refine lv_iload_n hx hb dX2_nestsWell_22 rfl (lv_at hl 2 rfl) ?_
      refine lv_aload_n hx hb dX2_nestsWell_23 rfl (lv_at hl 0 rfl) ?_
      refine gt_1_2 hx hb hts hown hC hP ht0 q36_8 dX2_nestsWell_24 ?_
      refine lv_iload_n hx hb dX2_nestsWell_27 rfl (lv_at hl 3 rfl) ?_
      obtain ⟨hg_7, hf⟩ := g_gd hf
      refine xildX (k := 18) (n := 24) hx hb hC hP (fun _ _ => rfl) rfl ht0 hg_7 dX2_nestsWell_28 ?_
      refine lv_icmp_le (tgt := 41) hx hb dX2_nestsWell_29 (by decide) (fun hc_8 => ?_) (fun hc_8 => ?_)
      · have hf := g_pos hf hc_8
        refine lv_iconst (v := 0) hx hb dX2_nestsWell_41 (by decide) ?_
        refine lv_istore (lv' := [(4, .int 0), (0, .ref (G.2.1 1 t0)), (1, .int x1), (2, .int x2), (3, .int x3)]) hx hb dX2_nestsWell_42 hl (by decide) rfl (fun ls hl => ?_)
        refine lv_aload_n hx hb dX2_nestsWell_44 rfl (lv_at hl 1 rfl) ?_
        refine gt_1_0 hx hb hts hown hC hP ht0 q35_23 dX2_nestsWell_45 ?_
        refine lv_iload_n hx hb dX2_nestsWell_48 rfl (lv_at hl 4 rfl) ?_
        obtain ⟨hg_9, hf⟩ := g_gd hf
        refine xildX (k := 16) (n := 24) hx hb hC hP (fun _ _ => rfl) rfl ht0 hg_9 dX2_nestsWell_49 ?_
        refine lv_bipush (v := 9) hx hb dX2_nestsWell_50 (by decide) ?_
        refine lv_icmp_ne (tgt := 62) hx hb dX2_nestsWell_52 (by decide) (fun hc_10 => ?_) (fun hc_10 => ?_)
        · have hf := g_neg hf hc_10
          obtain ⟨x3_11, ex3_11, hf⟩ := g_letE hf
          refine lv_iinc (v := x3_11) (lv' := [(3, .int x3_11), (4, .int 0), (0, .ref (G.2.1 1 t0)), (1, .int x1), (2, .int x2)]) hx hb dX2_nestsWell_62 hl (k := 4) rfl (by rw [← ex3_11]; rfl) (by decide) rfl (fun ls hl => ?_)
          refine lv_goto (tgt := 9) hx hb dX2_nestsWell_65 (by decide) ?_
          exact hk9 t0 ht0 x1 x2 x3_11 X hf hP hS (lv_sub hl [2, 3, 4, 0] rfl)
        · have hf := g_pos hf hc_10
          refine lv_iload hx hb dX2_nestsWell_55 (lv_at hl 0 rfl) ?_
          refine lv_if_eq (tgt := 62) hx hb dX2_nestsWell_57 (by decide) (fun _ => ?_) (fun h => absurd h (by decide))
          obtain ⟨x3_13, ex3_13, hf⟩ := g_letE hf
          refine lv_iinc (v := x3_13) (lv' := [(3, .int x3_13), (4, .int 0), (0, .ref (G.2.1 1 t0)), (1, .int x1), (2, .int x2)]) hx hb dX2_nestsWell_62 hl (k := 4) rfl (by rw [← ex3_13]; rfl) (by decide) rfl (fun ls hl => ?_)
          refine lv_goto (tgt := 9) hx hb dX2_nestsWell_65 (by decide) ?_
          exact hk9 t0 ht0 x1 x2 x3_13 X hf hP hS (lv_sub hl [2, 3, 4, 0] rfl)
      · have hf := g_neg hf hc_8
        refine lv_iload_n hx hb dX2_nestsWell_32 rfl (lv_at hl 2 rfl) ?_
        refine lv_iload_n hx hb dX2_nestsWell_33 rfl (lv_at hl 3 rfl) ?_
        refine lv_icmp_gt (tgt := 41) hx hb dX2_nestsWell_34 (by decide) (fun hc_14 => ?_) (fun hc_14 => ?_)
        · have hf := g_pos hf hc_14
          refine lv_iconst (v := 0) hx hb dX2_nestsWell_41 (by decide) ?_
          refine lv_istore (lv' := [(4, .int 0), (0, .ref (G.2.1 1 t0)), (1, .int x1), (2, .int x2), (3, .int x3)]) hx hb dX2_nestsWell_42 hl (by decide) rfl (fun ls hl => ?_)
          refine lv_aload_n hx hb dX2_nestsWell_44 rfl (lv_at hl 1 rfl) ?_
          refine gt_1_0 hx hb hts hown hC hP ht0 q35_23 dX2_nestsWell_45 ?_
          refine lv_iload_n hx hb dX2_nestsWell_48 rfl (lv_at hl 4 rfl) ?_
          obtain ⟨hg_15, hf⟩ := g_gd hf
          refine xildX (k := 16) (n := 24) hx hb hC hP (fun _ _ => rfl) rfl ht0 hg_15 dX2_nestsWell_49 ?_
          refine lv_bipush (v := 9) hx hb dX2_nestsWell_50 (by decide) ?_
          refine lv_icmp_ne (tgt := 62) hx hb dX2_nestsWell_52 (by decide) (fun hc_16 => ?_) (fun hc_16 => ?_)
          · have hf := g_neg hf hc_16
            obtain ⟨x3_17, ex3_17, hf⟩ := g_letE hf
            refine lv_iinc (v := x3_17) (lv' := [(3, .int x3_17), (4, .int 0), (0, .ref (G.2.1 1 t0)), (1, .int x1), (2, .int x2)]) hx hb dX2_nestsWell_62 hl (k := 4) rfl (by rw [← ex3_17]; rfl) (by decide) rfl (fun ls hl => ?_)
            refine lv_goto (tgt := 9) hx hb dX2_nestsWell_65 (by decide) ?_
            exact hk9 t0 ht0 x1 x2 x3_17 X hf hP hS (lv_sub hl [2, 3, 4, 0] rfl)
          · have hf := g_pos hf hc_16
            refine lv_iload hx hb dX2_nestsWell_55 (lv_at hl 0 rfl) ?_
            refine lv_if_eq (tgt := 62) hx hb dX2_nestsWell_57 (by decide) (fun _ => ?_) (fun h => absurd h (by decide))
            obtain ⟨x3_19, ex3_19, hf⟩ := g_letE hf
            refine lv_iinc (v := x3_19) (lv' := [(3, .int x3_19), (4, .int 0), (0, .ref (G.2.1 1 t0)), (1, .int x1), (2, .int x2)]) hx hb dX2_nestsWell_62 hl (k := 4) rfl (by rw [← ex3_19]; rfl) (by decide) rfl (fun ls hl => ?_)
            refine lv_goto (tgt := 9) hx hb dX2_nestsWell_65 (by decide) ?_
            exact hk9 t0 ht0 x1 x2 x3_19 X hf hP hS (lv_sub hl [2, 3, 4, 0] rfl)
        · have hf := g_neg hf hc_14
          refine lv_iconst (v := 1) hx hb dX2_nestsWell_37 (by decide) ?_
          refine lv_goto (tgt := 42) hx hb dX2_nestsWell_38 (by decide) ?_
          refine lv_istore (lv' := [(4, .int 1), (0, .ref (G.2.1 1 t0)), (1, .int x1), (2, .int x2), (3, .int x3)]) hx hb dX2_nestsWell_42 hl (by decide) rfl (fun ls hl => ?_)
          refine lv_aload_n hx hb dX2_nestsWell_44 rfl (lv_at hl 1 rfl) ?_
          refine gt_1_0 hx hb hts hown hC hP ht0 q35_23 dX2_nestsWell_45 ?_
          refine lv_iload_n hx hb dX2_nestsWell_48 rfl (lv_at hl 4 rfl) ?_
          obtain ⟨hg_20, hf⟩ := g_gd hf
          refine xildX (k := 16) (n := 24) hx hb hC hP (fun _ _ => rfl) rfl ht0 hg_20 dX2_nestsWell_49 ?_
          refine lv_bipush (v := 9) hx hb dX2_nestsWell_50 (by decide) ?_
          refine lv_icmp_ne (tgt := 62) hx hb dX2_nestsWell_52 (by decide) (fun hc_21 => ?_) (fun hc_21 => ?_)
          · have hf := g_neg hf hc_21
            obtain ⟨x3_22, ex3_22, hf⟩ := g_letE hf
            refine lv_iinc (v := x3_22) (lv' := [(3, .int x3_22), (4, .int 1), (0, .ref (G.2.1 1 t0)), (1, .int x1), (2, .int x2)]) hx hb dX2_nestsWell_62 hl (k := 4) rfl (by rw [← ex3_22]; rfl) (by decide) rfl (fun ls hl => ?_)
            refine lv_goto (tgt := 9) hx hb dX2_nestsWell_65 (by decide) ?_
            exact hk9 t0 ht0 x1 x2 x3_22 X hf hP hS (lv_sub hl [2, 3, 4, 0] rfl)
          · have hf := g_pos hf hc_21
            refine lv_iload hx hb dX2_nestsWell_55 (lv_at hl 0 rfl) ?_
            refine lv_if_eq (tgt := 62) hx hb dX2_nestsWell_57 (by decide) (fun h => absurd h (by decide)) (fun _ => ?_)
            refine lv_iconst (v := 0) hx hb dX2_nestsWell_60 (by decide) ?_
            cases hf
            exact x_zret hx hb hlocks hC hP hS hr (Or.inl rfl) dX2_nestsWell_61
def wl_X2_nestsWell_9 (n : Nat) (t0 : Nat) (x1 : Int32) (x2 : Int32) (x3 : Int32) (X : SM) : Option (Int32) := g_loop (α := Nat × Int32 × Int32 × Int32 × SM) (fun k a => wb_X2_nestsWell_9 (fun t0 x1 x2 x3 X => k (t0, x1, x2, x3, X)) a.1 a.2.1 a.2.2.1 a.2.2.2.1 a.2.2.2.2) n (t0, x1, x2, x3, X)
set_option maxRecDepth 100000 in
set_option maxHeartbeats 4000000 in
theorem lp_X2_nestsWell_9 {p : Program} {l : Launch} {e : Env} {s : State} {m : MethodId} {args : Array Value} {below : List Frame} {meth : Method} {c : Code} {G : GP} {M : SM} {τ : SL} (C0 : g_mc p s m args meth c RX2 cX2_nestsWell (some .boolean) 5 G) {r0 : Int32} (n : Nat) : ∀ (t0 : Nat) (ht0 : t0 < 12) (x1 : Int32) (x2 : Int32) (x3 : Int32) (X : SM), wl_X2_nestsWell_9 n t0 x1 x2 x3 X = some r0 → ∀ {H : Heap} {locs : List Loc}, va_P G.1 g_cl (wd G (cb X M) τ) H → va_S (g_A G) s.heap H locs → ∀ {ls : Array Slot}, lv_has ls 5 [(0, .ref (G.2.1 1 t0)), (1, .int x1), (2, .int x2), (3, .int x3)] → W p l e rm_X2_nestsWell s m args below meth c H locs 0 0 (MQ below (va_Qi (fun r u => r = r0 ∧ u = (X, M, τ)) (g_pw G) (g_A G)) args s 0 0 (g_A G)) (F0 m 9 ls []) := by
  induction n with
  | zero =>
    intro t0 ht0 x1 x2 x3 X hf
    have hf : (none : Option (Int32)) = _ := hf
    cases hf
  | succ n ih =>
    intro t0 ht0 x1 x2 x3 X hf H locs hP hS ls hl
    exact bk_X2_nestsWell_9 C0   (fun t0 x1 x2 x3 X => wl_X2_nestsWell_9   n t0 x1 x2 x3 X) ih t0 ht0 x1 x2 x3 X hf hP hS hl
def fn_X2_nestsWell (t0 : Nat) (x1 : Int32) (X : SM) : Option (Int32) :=
  if g_in x1 24 then
  g_let ((X 18 t0 (x1.toNatClampNeg))) fun x2_2 =>
  wl_X2_nestsWell_9 1000 t0 x1 x2_2 0 X
  else none
set_option maxRecDepth 100000 in
set_option maxHeartbeats 4000000 in
theorem wk_X2_nestsWell {p : Program} {l : Launch} {e : Env} {s : State} {m : MethodId} {args : Array Value} {below : List Frame} {meth : Method} {c : Code} {G : GP} {M : SM} {τ : SL} (C0 : g_mc p s m args meth c RX2 cX2_nestsWell (some .boolean) 5 G) {r0 : Int32} (t0 : Nat) (ht0 : t0 < 12) (x1 : Int32) (X : SM) (hf : fn_X2_nestsWell t0 x1 X = some r0) {H : Heap} {locs : List Loc} (hP : va_P G.1 g_cl (wd G (cb X M) τ) H) (hS : va_S (g_A G) s.heap H locs) {ls : Array Slot} (hl : lv_has ls 5 [(0, .ref (G.2.1 1 t0)), (1, .int x1)]) : W p l e rm_X2_nestsWell s m args below meth c H locs 0 0 (MQ below (va_Qi (fun r u => r = r0 ∧ u = (X, M, τ)) (g_pw G) (g_A G)) args s 0 0 (g_A G)) (F0 m 0 ls []) := by
  obtain ⟨hx, hb, hr, hml, hown, hts, hlocks, hC⟩ := id C0
  unfold fn_X2_nestsWell at hf
  refine lv_aload_n hx hb dX2_nestsWell_0 rfl (lv_at hl 0 rfl) ?_
  refine gt_1_2 hx hb hts hown hC hP ht0 q36_8 dX2_nestsWell_1 ?_
  refine lv_iload_n hx hb dX2_nestsWell_4 rfl (lv_at hl 1 rfl) ?_
  obtain ⟨hg_1, hf⟩ := g_gd hf
  refine xildX (k := 18) (n := 24) hx hb hC hP (fun _ _ => rfl) rfl ht0 hg_1 dX2_nestsWell_5 ?_
  obtain ⟨x2_2, ex2_2, hf⟩ := g_letE hf
  refine lv_topE ex2_2 ?_
  refine lv_istore_n (lv' := [(2, .int x2_2), (0, .ref (G.2.1 1 t0)), (1, .int x1)]) hx hb dX2_nestsWell_6 rfl hl (by decide) rfl (fun ls hl => ?_)
  refine lv_iconst (v := 0) hx hb dX2_nestsWell_7 (by decide) ?_
  refine lv_istore_n (lv' := [(3, .int 0), (2, .int x2_2), (0, .ref (G.2.1 1 t0)), (1, .int x1)]) hx hb dX2_nestsWell_8 rfl hl (by decide) rfl (fun ls hl => ?_)
  exact lp_X2_nestsWell_9 C0 1000 t0 ht0 x1 x2_2 0 X hf hP hS (lv_sub hl [2, 3, 1, 0] rfl)
set_option maxRecDepth 100000 in
set_option maxHeartbeats 4000000 in
theorem ct_X2_nestsWell (l : Launch) (G : GP) (X M : SM) (τ : SL) (t0 : Nat) (ht0 : t0 < 12) (x1 : Int32) {r0 : Int32} (hf : fn_X2_nestsWell t0 x1 X = some r0) : Met l yX2_nestsWell (wz yX2_nestsWell cX2_nestsWell 5 (some .boolean)) rm_X2_nestsWell (va_Pc [.ref (G.2.1 1 t0), .int x1] (g_pw G (X, M, τ))) (va_Qi (fun r u => r = r0 ∧ u = (X, M, τ)) (g_pw G) (g_A G)) 0 0 (g_A G) := by
  refine Met.ofW (cc := cX2_nestsWell) (maxL := 5) (ret := (some .boolean)) (by decide +kernel) rfl ?_
  intro p e s m args below meth c s₁ B hml hv
  obtain ⟨rfl, hC, hP⟩ := hv
  have C0 : g_mc p s m _ meth c RX2 cX2_nestsWell (some .boolean) 5 G := ⟨B.exec, B.bytes, B.returns, hml, findClass_of_methodNamed B.named, fun w h => atoms_spec (ws := wz yX2_nestsWell cX2_nestsWell 5 (some .boolean)) B.pre w (List.mem_cons_of_mem _ h), B.notSynchronized, hC⟩
  have hl := lv_entry ([.ref (G.2.1 1 t0), .int x1]) (n := 5) (Nat.le_of_ble_eq_true rfl)
  rw [lg_entry_eq]
  generalize (lg_sl ([.ref (G.2.1 1 t0), .int x1]) ++ List.replicate (5 - (lg_sl ([.ref (G.2.1 1 t0), .int x1])).length) Slot.unset).toArray = ls at hl ⊢
  exact wk_X2_nestsWell C0  t0 ht0 x1 X hf hP va_S.rf hl
