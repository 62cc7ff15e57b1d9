abbrev rm_X11_pin : Room := { frames := 2, cells := 0, slots := 0, locals := 44 }
def fn_X11_pin (x1 : Int32) (x2 : Int32) (X : SM) : Option (Int32 × SM) :=
  if x2 = 0 then
  ((fn_X8_name 0 x1 0 X).bind fun (r_2, X_3) =>
    if r_2 = 0 ∨ r_2 = 1 then
    some (r_2, X_3)
    else none)
  else
  ((fn_X8_name 0 x1 1 X).bind fun (r_6, X_7) =>
    if r_6 = 0 ∨ r_6 = 1 then
    some (r_6, X_7)
    else none)
set_option maxRecDepth 100000 in
set_option maxHeartbeats 4000000 in
theorem wk_X11_pin {p : Program} {l : Launch} {e : Env} {s : State} {m : MethodId} {args : Array Value} {below : List Frame} {meth : Method} {c : Code} {G : GP} {M : SM} {τ : SL} (C0 : g_mc p s m args meth c RX11 cX11_pin (some .boolean) 3 G) {r0 : Int32} {X0 : SM} (x1 : Int32) (x2 : Int32) (X : SM) (hf : fn_X11_pin x1 x2 X = some (r0, X0)) {H : Heap} {locs : List Loc} (hP : va_P G.1 g_cl (wd G (cb X M) τ) H) (hS : va_S (g_A G) s.heap H locs) {ls : Array Slot} (hl : lv_has ls 3 [(0, .ref (G.2.1 11 0)), (1, .int x1), (2, .int x2)]) : W p l e rm_X11_pin s m args below meth c H locs 0 0 (MQ below (va_Qi (fun r u => r = r0 ∧ u = (X0, M, τ)) (g_pw G) (g_A G)) args s 0 0 (g_A G)) (F0 m 0 ls []) := by
  obtain ⟨hx, hb, hr, hml, hown, hts, hlocks, hC⟩ := id C0
  unfold fn_X11_pin at hf
  refine lv_aload_n hx hb dX11_pin_0 rfl (lv_at hl 0 rfl) ?_
  refine gt_11_2 hx hb hts hown hC hP Nat.zero_lt_one q2_0 dX11_pin_1 ?_
  refine gt_7_1 hx hb hts hown hC hP (by decide) q11_21 dX11_pin_4 ?_
  refine lv_iload_n hx hb dX11_pin_7 rfl (lv_at hl 1 rfl) ?_
  refine lv_iload_n hx hb dX11_pin_8 rfl (lv_at hl 2 rfl) ?_
  refine lv_if_eq (tgt := 16) hx hb dX11_pin_9 (by decide) (fun hc_1 => ?_) (fun hc_1 => ?_)
  · have hf := g_pos hf hc_1
    refine lv_iconst (v := 0) hx hb dX11_pin_16 (by decide) ?_
    obtain ⟨⟨r_2, X_3⟩, hc_4, hf⟩ := g_bindE hf
    refine x_calli (v := (X_3, M, τ)) (va_runV (As := [.int x1, .int 0]) (rest := []) ⟨hx, hb, hml, hown, hts⟩ (ct_X8_name l G X M τ 0 (by decide) x1 0 hc_4) (cwV 2 hts gd_X11_105 rfl rfl rfl hd_X8_name ⟨Nat.le_of_ble_eq_true rfl, Nat.le_of_ble_eq_true rfl⟩) (x_preV (u := (X, M, τ)) (k := 8) (ci := 8) hC hS hP (by decide) rfl rfl) rfl rfl hl.1 rfl (lv_room (Nat.le_of_ble_eq_true rfl)) dX11_pin_17 ⟨Nat.le_refl _, Nat.le_refl _⟩) hS (fun H locs hP hS => ?_)
    obtain ⟨hg_5, hf⟩ := g_gd hf
    cases hf
    exact x_zret hx hb hlocks hC hP hS hr hg_5 dX11_pin_20
  · have hf := g_neg hf hc_1
    refine lv_iconst (v := 1) hx hb dX11_pin_12 (by decide) ?_
    refine lv_goto (tgt := 17) hx hb dX11_pin_13 (by decide) ?_
    obtain ⟨⟨r_6, X_7⟩, hc_8, hf⟩ := g_bindE hf
    refine x_calli (v := (X_7, M, τ)) (va_runV (As := [.int x1, .int 1]) (rest := []) ⟨hx, hb, hml, hown, hts⟩ (ct_X8_name l G X M τ 0 (by decide) x1 1 hc_8) (cwV 2 hts gd_X11_105 rfl rfl rfl hd_X8_name ⟨Nat.le_of_ble_eq_true rfl, Nat.le_of_ble_eq_true rfl⟩) (x_preV (u := (X, M, τ)) (k := 8) (ci := 8) hC hS hP (by decide) rfl rfl) rfl rfl hl.1 rfl (lv_room (Nat.le_of_ble_eq_true rfl)) dX11_pin_17 ⟨Nat.le_refl _, Nat.le_refl _⟩) hS (fun H locs hP hS => ?_)
    obtain ⟨hg_9, hf⟩ := g_gd hf
    cases hf
    exact x_zret hx hb hlocks hC hP hS hr hg_9 dX11_pin_20
set_option maxRecDepth 100000 in
set_option maxHeartbeats 4000000 in
theorem ct_X11_pin (l : Launch) (G : GP) (X M : SM) (τ : SL) (x1 : Int32) (x2 : Int32) {r0 : Int32} {X0 : SM} (hf : fn_X11_pin x1 x2 X = some (r0, X0)) : Met l yX11_pin (wz yX11_pin cX11_pin 3 (some .boolean)) rm_X11_pin (va_Pc [.ref (G.2.1 11 0), .int x1, .int x2] (g_pw G (X, M, τ))) (va_Qi (fun r u => r = r0 ∧ u = (X0, M, τ)) (g_pw G) (g_A G)) 0 0 (g_A G) := by
  refine Met.ofW (cc := cX11_pin) (maxL := 3) (ret := (some .boolean)) (by decide) rfl ?_
  intro p e s m args below meth c s₁ B hml hv
  obtain ⟨rfl, hC, hP⟩ := hv
  have C0 : g_mc p s m _ meth c RX11 cX11_pin (some .boolean) 3 G := ⟨B.exec, B.bytes, B.returns, hml, findClass_of_methodNamed B.named, fun w h => atoms_spec (ws := wz yX11_pin cX11_pin 3 (some .boolean)) B.pre w (List.mem_cons_of_mem _ h), B.notSynchronized, hC⟩
  have hl := lv_entry ([.ref (G.2.1 11 0), .int x1, .int x2]) (n := 3) (Nat.le_of_ble_eq_true rfl)
  rw [lg_entry_eq]
  generalize (lg_sl ([.ref (G.2.1 11 0), .int x1, .int x2]) ++ List.replicate (3 - (lg_sl ([.ref (G.2.1 11 0), .int x1, .int x2])).length) Slot.unset).toArray = ls at hl ⊢
  exact wk_X11_pin C0 x1 x2 X hf hP va_S.rf hl
abbrev rm_X11_run : Room := { frames := 6, cells := 0, slots := 0, locals := 148 }
def wb_X11_run_18 (k18 : Int32 → Int32 → Int32 → SM → Option (Int32 × SM)) (x1 : Int32) (x2 : Int32) (x3 : Int32) (X : SM) : Option (Int32 × SM) :=
  if x1 ≤ x3 then
  (some (x2, X))
  else
  ((fn_X7_tick 0 X).bind fun (r_4, X_5) =>
    if r_4 = (-1) then
    (g_let (x3 + 1) fun x3_8 =>
      k18 x1 x2 x3_8 X_5)
    else
    (g_let (x2 + 1) fun x2_9 =>
      g_let (x3 + 1) fun x3_10 =>
      k18 x1 x2_9 x3_10 X_5))
set_option maxRecDepth 100000 in
set_option maxHeartbeats 4000000 in
theorem bk_X11_run_18 {p : Program} {l : Launch} {e : Env} {s : State} {m : MethodId} {args : Array Value} {below : List Frame} {meth : Method} {c : Code} {G : GP} {M : SM} {τ : SL} (C0 : g_mc p s m args meth c RX11 cX11_run (some .int) 4 G) {r0 : Int32} {X0 : SM} (k18 : Int32 → Int32 → Int32 → SM → Option (Int32 × SM)) (hk18 : ∀ (x1 : Int32) (x2 : Int32) (x3 : Int32) (X : SM), k18 x1 x2 x3 X = some (r0, X0) → ∀ {H : Heap} {locs : List Loc}, va_P G.1 g_cl (wd G (cb X M) τ) H → va_S (g_A G) s.heap H locs → ∀ {ls : Array Slot}, lv_has ls 4 [(0, .ref (G.2.1 11 0)), (1, .int x1), (2, .int x2), (3, .int x3)] → W p l e rm_X11_run s m args below meth c H locs 0 0 (MQ below (va_Qi (fun r u => r = r0 ∧ u = (X0, M, τ)) (g_pw G) (g_A G)) args s 0 0 (g_A G)) (F0 m 18 ls [])) (x1 : Int32) (x2 : Int32) (x3 : Int32) (X : SM) (hf : wb_X11_run_18 k18 x1 x2 x3 X = some (r0, X0)) {H : Heap} {locs : List Loc} (hP : va_P G.1 g_cl (wd G (cb X M) τ) H) (hS : va_S (g_A G) s.heap H locs) {ls : Array Slot} (hl : lv_has ls 4 [(0, .ref (G.2.1 11 0)), (1, .int x1), (2, .int x2), (3, .int x3)]) : W p l e rm_X11_run s m args below meth c H locs 0 0 (MQ below (va_Qi (fun r u => r = r0 ∧ u = (X0, M, τ)) (g_pw G) (g_A G)) args s 0 0 (g_A G)) (F0 m 18 ls []) := by
  obtain ⟨hx, hb, hr, hml, hown, hts, hlocks, hC⟩ := id C0
  unfold wb_X11_run_18 at hf
  refine lv_iload_n hx hb dX11_run_18 rfl (lv_at hl 3 rfl) ?_
  refine lv_iload_n hx hb dX11_run_19 rfl (lv_at hl 1 rfl) ?_
  refine lv_icmp_ge (tgt := 43) hx hb dX11_run_20 (by decide) (fun hc_3 => ?_) (fun hc_3 => ?_)
  · have hf := g_pos hf hc_3
    refine lv_iload_n hx hb dX11_run_43 rfl (lv_at hl 2 rfl) ?_
    cases hf
    exact x_iret hx hb hlocks hC hP hS hr dX11_run_44
  · have hf := g_neg hf hc_3
    refine lv_aload_n hx hb dX11_run_23 rfl (lv_at hl 0 rfl) ?_
    refine gt_11_2 hx hb hts hown hC hP Nat.zero_lt_one q2_0 dX11_run_24 ?_
    obtain ⟨⟨r_4, X_5⟩, hc_6, hf⟩ := g_bindE hf
    refine x_calli (v := (X_5, M, τ)) (va_runV (As := []) (rest := []) ⟨hx, hb, hml, hown, hts⟩ (ct_X7_tick l G X M τ 0 (by decide) hc_6) (cwV 0 hts gd_X11_137 rfl rfl rfl hd_X7_tick ⟨Nat.le_of_ble_eq_true rfl, Nat.le_of_ble_eq_true rfl⟩) (x_preV (u := (X, M, τ)) (k := 7) (ci := 7) hC hS hP (by decide) rfl rfl) rfl rfl hl.1 rfl (lv_room (Nat.le_of_ble_eq_true rfl)) dX11_run_27 ⟨Nat.le_refl _, Nat.le_refl _⟩) hS (fun H locs hP hS => ?_)
    refine lv_iconst (v := (-1)) hx hb dX11_run_30 (by decide) ?_
    refine lv_icmp_eq (tgt := 37) hx hb dX11_run_31 (by decide) (fun hc_7 => ?_) (fun hc_7 => ?_)
    · have hf := g_pos hf hc_7
      obtain ⟨x3_8, ex3_8, hf⟩ := g_letE hf
      refine lv_iinc (v := x3_8) (lv' := [(3, .int x3_8), (0, .ref (G.2.1 11 0)), (1, .int x1), (2, .int x2)]) hx hb dX11_run_37 hl (k := 3) rfl (by rw [← ex3_8]; rfl) (by decide) rfl (fun ls hl => ?_)
      refine lv_goto (tgt := 18) hx hb dX11_run_40 (by decide) ?_
      exact hk18 x1 x2 x3_8 X_5 hf hP hS (lv_sub hl [1, 2, 3, 0] rfl)
    · have hf := g_neg hf hc_7
      obtain ⟨x2_9, ex2_9, hf⟩ := g_letE hf
      refine lv_iinc (v := x2_9) (lv' := [(2, .int x2_9), (0, .ref (G.2.1 11 0)), (1, .int x1), (3, .int x3)]) hx hb dX11_run_34 hl (k := 2) rfl (by rw [← ex2_9]; rfl) (by decide) rfl (fun ls hl => ?_)
      obtain ⟨x3_10, ex3_10, hf⟩ := g_letE hf
      refine lv_iinc (v := x3_10) (lv' := [(3, .int x3_10), (2, .int x2_9), (0, .ref (G.2.1 11 0)), (1, .int x1)]) hx hb dX11_run_37 hl (k := 3) rfl (by rw [← ex3_10]; rfl) (by decide) rfl (fun ls hl => ?_)
      refine lv_goto (tgt := 18) hx hb dX11_run_40 (by decide) ?_
      exact hk18 x1 x2_9 x3_10 X_5 hf hP hS (lv_sub hl [2, 3, 1, 0] rfl)
def wl_X11_run_18 (n : Nat) (x1 : Int32) (x2 : Int32) (x3 : Int32) (X : SM) : Option (Int32 × SM) := g_loop (α := Int32 × Int32 × Int32 × SM) (fun k a => wb_X11_run_18 (fun x1 x2 x3 X => k (x1, x2, x3, X)) a.1 a.2.1 a.2.2.1 a.2.2.2) n (x1, x2, x3, X)
set_option maxRecDepth 100000 in
set_option maxHeartbeats 4000000 in
theorem lp_X11_run_18 {p : Program} {l : Launch} {e : Env} {s : State} {m : MethodId} {args : Array Value} {below : List Frame} {meth : Method} {c : Code} {G : GP} {M : SM} {τ : SL} (C0 : g_mc p s m args meth c RX11 cX11_run (some .int) 4 G) {r0 : Int32} {X0 : SM} (n : Nat) : ∀ (x1 : Int32) (x2 : Int32) (x3 : Int32) (X : SM), wl_X11_run_18 n x1 x2 x3 X = some (r0, X0) → ∀ {H : Heap} {locs : List Loc}, va_P G.1 g_cl (wd G (cb X M) τ) H → va_S (g_A G) s.heap H locs → ∀ {ls : Array Slot}, lv_has ls 4 [(0, .ref (G.2.1 11 0)), (1, .int x1), (2, .int x2), (3, .int x3)] → W p l e rm_X11_run s m args below meth c H locs 0 0 (MQ below (va_Qi (fun r u => r = r0 ∧ u = (X0, M, τ)) (g_pw G) (g_A G)) args s 0 0 (g_A G)) (F0 m 18 ls []) := by
  induction n with
  | zero =>
    intro x1 x2 x3 X hf
    have hf : (none : Option (Int32 × SM)) = _ := hf
    cases hf
  | succ n ih =>
    intro x1 x2 x3 X hf H locs hP hS ls hl
    exact bk_X11_run_18 C0  (fun x1 x2 x3 X => wl_X11_run_18  n x1 x2 x3 X) ih x1 x2 x3 X hf hP hS hl
def fn_X11_run (x1 : Int32) (X : SM) : Option (Int32 × SM) :=
  if x1 < 1 then
  (some ((-1), X))
  else
  (if x1 ≤ 200 then
    (wl_X11_run_18 1000 x1 0 0 X)
    else
    (some ((-1), X)))
set_option maxRecDepth 100000 in
set_option maxHeartbeats 4000000 in
theorem wk_X11_run {p : Program} {l : Launch} {e : Env} {s : State} {m : MethodId} {args : Array Value} {below : List Frame} {meth : Method} {c : Code} {G : GP} {M : SM} {τ : SL} (C0 : g_mc p s m args meth c RX11 cX11_run (some .int) 4 G) {r0 : Int32} {X0 : SM} (x1 : Int32) (X : SM) (hf : fn_X11_run x1 X = some (r0, X0)) {H : Heap} {locs : List Loc} (hP : va_P G.1 g_cl (wd G (cb X M) τ) H) (hS : va_S (g_A G) s.heap H locs) {ls : Array Slot} (hl : lv_has ls 4 [(0, .ref (G.2.1 11 0)), (1, .int x1)]) : W p l e rm_X11_run s m args below meth c H locs 0 0 (MQ below (va_Qi (fun r u => r = r0 ∧ u = (X0, M, τ)) (g_pw G) (g_A G)) args s 0 0 (g_A G)) (F0 m 0 ls []) := by
  obtain ⟨hx, hb, hr, hml, hown, hts, hlocks, hC⟩ := id C0
  unfold fn_X11_run at hf
  refine lv_iload_n hx hb dX11_run_0 rfl (lv_at hl 1 rfl) ?_
  refine lv_iconst (v := 1) hx hb dX11_run_1 (by decide) ?_
  refine lv_icmp_lt (tgt := 12) hx hb dX11_run_2 (by decide) (fun hc_1 => ?_) (fun hc_1 => ?_)
  · have hf := g_pos hf hc_1
    refine lv_iconst (v := (-1)) hx hb dX11_run_12 (by decide) ?_
    cases hf
    exact x_iret hx hb hlocks hC hP hS hr dX11_run_13
  · have hf := g_neg hf hc_1
    refine lv_iload_n hx hb dX11_run_5 rfl (lv_at hl 1 rfl) ?_
    refine lv_sipush (v := 200) hx hb dX11_run_6 (by decide) ?_
    refine lv_icmp_le (tgt := 14) hx hb dX11_run_9 (by decide) (fun hc_2 => ?_) (fun hc_2 => ?_)
    · have hf := g_pos hf hc_2
      refine lv_iconst (v := 0) hx hb dX11_run_14 (by decide) ?_
      refine lv_istore_n (lv' := [(2, .int 0), (0, .ref (G.2.1 11 0)), (1, .int x1)]) hx hb dX11_run_15 rfl hl (by decide) rfl (fun ls hl => ?_)
      refine lv_iconst (v := 0) hx hb dX11_run_16 (by decide) ?_
      refine lv_istore_n (lv' := [(3, .int 0), (2, .int 0), (0, .ref (G.2.1 11 0)), (1, .int x1)]) hx hb dX11_run_17 rfl hl (by decide) rfl (fun ls hl => ?_)
      exact lp_X11_run_18 C0 1000 x1 0 0 X hf hP hS (lv_sub hl [2, 3, 1, 0] rfl)
    · have hf := g_neg hf hc_2
      refine lv_iconst (v := (-1)) hx hb dX11_run_12 (by decide) ?_
      cases hf
      exact x_iret hx hb hlocks hC hP hS hr dX11_run_13
set_option maxRecDepth 100000 in
set_option maxHeartbeats 4000000 in
theorem ct_X11_run (l : Launch) (G : GP) (X M : SM) (τ : SL) (x1 : Int32) {r0 : Int32} {X0 : SM} (hf : fn_X11_run x1 X = some (r0, X0)) : Met l yX11_run (wz yX11_run cX11_run 4 (some .int)) rm_X11_run (va_Pc [.ref (G.2.1 11 0), .int x1] (g_pw G (X, M, τ))) (va_Qi (fun r u => r = r0 ∧ u = (X0, M, τ)) (g_pw G) (g_A G)) 0 0 (g_A G) := by
  refine Met.ofW (cc := cX11_run) (maxL := 4) (ret := (some .int)) (by decide) rfl ?_
  intro p e s m args below meth c s₁ B hml hv
  obtain ⟨rfl, hC, hP⟩ := hv
  have C0 : g_mc p s m _ meth c RX11 cX11_run (some .int) 4 G := ⟨B.exec, B.bytes, B.returns, hml, findClass_of_methodNamed B.named, fun w h => atoms_spec (ws := wz yX11_run cX11_run 4 (some .int)) B.pre w (List.mem_cons_of_mem _ h), B.notSynchronized, hC⟩
  have hl := lv_entry ([.ref (G.2.1 11 0), .int x1]) (n := 4) (Nat.le_of_ble_eq_true rfl)
  rw [lg_entry_eq]
  generalize (lg_sl ([.ref (G.2.1 11 0), .int x1]) ++ List.replicate (4 - (lg_sl ([.ref (G.2.1 11 0), .int x1])).length) Slot.unset).toArray = ls at hl ⊢
  exact wk_X11_run C0 x1 X hf hP va_S.rf hl
abbrev rm_X11_share : Room := { frames := 2, cells := 0, slots := 0, locals := 44 }
def fn_X11_share (x1 : Int32) (X : SM) : Option (Int32) :=
  g_let (fn_X11_isThread x1) fun r_1 =>
  if r_1 = 0 then
  (some (-1))
  else
  (if (X 7 0 5) = 0 then
    (some (-1))
    else
    (if g_in x1 6 then
      (fn_X11_ratioBits (X 9 (6 * 0 + (x1.toNatClampNeg)) 11) (X 7 0 5)).bind fun r_7 =>
      some r_7
      else none))
set_option maxRecDepth 100000 in
set_option maxHeartbeats 4000000 in
theorem wk_X11_share {p : Program} {l : Launch} {e : Env} {s : State} {m : MethodId} {args : Array Value} {below : List Frame} {meth : Method} {c : Code} {G : GP} {M : SM} {τ : SL} (C0 : g_mc p s m args meth c RX11 cX11_share (some .int) 2 G) {r0 : Int32} (x1 : Int32) (X : SM) (hf : fn_X11_share x1 X = some r0) {H : Heap} {locs : List Loc} (hP : va_P G.1 g_cl (wd G (cb X M) τ) H) (hS : va_S (g_A G) s.heap H locs) {ls : Array Slot} (hl : lv_has ls 2 [(0, .ref (G.2.1 11 0)), (1, .int x1)]) : W p l e rm_X11_share s m args below meth c H locs 0 0 (MQ below (va_Qi (fun r u => r = r0 ∧ u = (X, M, τ)) (g_pw G) (g_A G)) args s 0 0 (g_A G)) (F0 m 0 ls []) := by
  obtain ⟨hx, hb, hr, hml, hown, hts, hlocks, hC⟩ := id C0
  unfold fn_X11_share at hf
  refine lv_iload_n hx hb dX11_share_0 rfl (lv_at hl 1 rfl) ?_
  obtain ⟨r_1, hc_2, hf⟩ := g_letE hf
  refine x_calli (v := (X, M, τ)) (va_runS (As := [.int x1]) (rest := []) ⟨hx, hb, hml, hown, hts⟩ (ct_X11_isThread l G X M τ x1 hc_2) (cwS 1 hts gd_X11_56 rfl rfl rfl hd_X11_isThread ⟨Nat.le_of_ble_eq_true rfl, Nat.le_of_ble_eq_true rfl⟩) (x_pre (u := (X, M, τ)) hC hS hP) rfl rfl hl.1 rfl (lv_room (Nat.le_of_ble_eq_true rfl)) dX11_share_1 ⟨Nat.le_refl _, Nat.le_refl _⟩) hS (fun H locs hP hS => ?_)
  refine lv_if_eq (tgt := 17) hx hb dX11_share_4 (by decide) (fun hc_3 => ?_) (fun hc_3 => ?_)
  · have hf := g_pos hf hc_3
    refine lv_iconst (v := (-1)) hx hb dX11_share_17 (by decide) ?_
    cases hf
    exact x_iret hx hb hlocks hC hP hS hr dX11_share_18
  · have hf := g_neg hf hc_3
    refine lv_aload_n hx hb dX11_share_7 rfl (lv_at hl 0 rfl) ?_
    refine gt_11_2 hx hb hts hown hC hP Nat.zero_lt_one q2_0 dX11_share_8 ?_
    refine gt_7_5 hx hb hts hown hC hP (by decide) q12_12 dX11_share_11 ?_
    refine lv_if_ne (tgt := 19) hx hb dX11_share_14 (by decide) (fun hc_4 => ?_) (fun hc_4 => ?_)
    · have hf := g_neg hf hc_4
      refine lv_aload_n hx hb dX11_share_19 rfl (lv_at hl 0 rfl) ?_
      refine gt_11_2 hx hb hts hown hC hP Nat.zero_lt_one q2_0 dX11_share_20 ?_
      refine gt_7_0 hx hb hts hown hC hP (by decide) q7_21 dX11_share_23 ?_
      refine lv_iload_n hx hb dX11_share_26 rfl (lv_at hl 1 rfl) ?_
      obtain ⟨hg_5, hf⟩ := g_gd hf
      have hq_6 : 6 * 0 + (x1.toNatClampNeg) < 12 := by have h8 := g_in_lt (n := 6) hg_5; have h9 : 0 < 2 := (by decide); omega
      refine xaldS hx hb hC hP (by decide) hg_5 dX11_share_27 ?_
      refine gt_9_11 hx hb hts hown hC hP hq_6 q32_23 dX11_share_28 ?_
      refine lv_aload_n hx hb dX11_share_31 rfl (lv_at hl 0 rfl) ?_
      refine gt_11_2 hx hb hts hown hC hP Nat.zero_lt_one q2_0 dX11_share_32 ?_
      refine gt_7_5 hx hb hts hown hC hP (by decide) q12_12 dX11_share_35 ?_
      obtain ⟨r_7, hc_8, hf⟩ := g_bindE hf
      refine x_calli (v := (X, M, τ)) (va_runS (As := [.int (X 9 (6 * 0 + (x1.toNatClampNeg)) 11), .int (X 7 0 5)]) (rest := []) ⟨hx, hb, hml, hown, hts⟩ (ct_X11_ratioBits l G X M τ (X 9 (6 * 0 + (x1.toNatClampNeg)) 11) (X 7 0 5) hc_8) (cwS 2 hts gd_X11_257 rfl rfl rfl hd_X11_ratioBits ⟨Nat.le_of_ble_eq_true rfl, Nat.le_of_ble_eq_true rfl⟩) (x_pre (u := (X, M, τ)) hC hS hP) rfl rfl hl.1 rfl (lv_room (Nat.le_of_ble_eq_true rfl)) dX11_share_38 ⟨Nat.le_refl _, Nat.le_refl _⟩) hS (fun H locs hP hS => ?_)
      cases hf
      exact x_iret hx hb hlocks hC hP hS hr dX11_share_41
    · have hf := g_pos hf hc_4
      refine lv_iconst (v := (-1)) hx hb dX11_share_17 (by decide) ?_
      cases hf
      exact x_iret hx hb hlocks hC hP hS hr dX11_share_18
set_option maxRecDepth 100000 in
set_option maxHeartbeats 4000000 in
theorem ct_X11_share (l : Launch) (G : GP) (X M : SM) (τ : SL) (x1 : Int32) {r0 : Int32} (hf : fn_X11_share x1 X = some r0) : Met l yX11_share (wz yX11_share cX11_share 2 (some .int)) rm_X11_share (va_Pc [.ref (G.2.1 11 0), .int x1] (g_pw G (X, M, τ))) (va_Qi (fun r u => r = r0 ∧ u = (X, M, τ)) (g_pw G) (g_A G)) 0 0 (g_A G) := by
  refine Met.ofW (cc := cX11_share) (maxL := 2) (ret := (some .int)) (by decide) rfl ?_
  intro p e s m args below meth c s₁ B hml hv
  obtain ⟨rfl, hC, hP⟩ := hv
  have C0 : g_mc p s m _ meth c RX11 cX11_share (some .int) 2 G := ⟨B.exec, B.bytes, B.returns, hml, findClass_of_methodNamed B.named, fun w h => atoms_spec (ws := wz yX11_share cX11_share 2 (some .int)) B.pre w (List.mem_cons_of_mem _ h), B.notSynchronized, hC⟩
  have hl := lv_entry ([.ref (G.2.1 11 0), .int x1]) (n := 2) (Nat.le_of_ble_eq_true rfl)
  rw [lg_entry_eq]
  generalize (lg_sl ([.ref (G.2.1 11 0), .int x1]) ++ List.replicate (2 - (lg_sl ([.ref (G.2.1 11 0), .int x1])).length) Slot.unset).toArray = ls at hl ⊢
  exact wk_X11_share C0 x1 X hf hP va_S.rf hl
abbrev rm_X11_slot : Room := { frames := 1, cells := 0, slots := 0, locals := 21 }
def fn_X11_slot (x1 : Int32) (x2 : Int32) (X : SM) : Option (Int32 × SM) :=
  g_let (fn_X10_has x1 X) fun r_1 =>
  if r_1 = 0 then
  (some (0, X))
  else
  (if x2 = (-1) then
    (if g_in x1 16 then
      g_let (u1 X 34 0 (x1.toNatClampNeg) x2) fun X_6 =>
      some (1, X_6)
      else none)
    else
    (g_let (fn_X11_isThread x2) fun r_7 =>
      if r_7 = 0 then
      (some (0, X))
      else
      (if g_in x1 16 then
        g_let (u1 X 34 0 (x1.toNatClampNeg) x2) fun X_11 =>
        some (1, X_11)
        else none)))
set_option maxRecDepth 100000 in
set_option maxHeartbeats 4000000 in
theorem wk_X11_slot {p : Program} {l : Launch} {e : Env} {s : State} {m : MethodId} {args : Array Value} {below : List Frame} {meth : Method} {c : Code} {G : GP} {M : SM} {τ : SL} (C0 : g_mc p s m args meth c RX11 cX11_slot (some .boolean) 3 G) {r0 : Int32} {X0 : SM} (x1 : Int32) (x2 : Int32) (X : SM) (hf : fn_X11_slot x1 x2 X = some (r0, X0)) {H : Heap} {locs : List Loc} (hP : va_P G.1 g_cl (wd G (cb X M) τ) H) (hS : va_S (g_A G) s.heap H locs) {ls : Array Slot} (hl : lv_has ls 3 [(0, .ref (G.2.1 11 0)), (1, .int x1), (2, .int x2)]) : W p l e rm_X11_slot s m args below meth c H locs 0 0 (MQ below (va_Qi (fun r u => r = r0 ∧ u = (X0, M, τ)) (g_pw G) (g_A G)) args s 0 0 (g_A G)) (F0 m 0 ls []) := by
  obtain ⟨hx, hb, hr, hml, hown, hts, hlocks, hC⟩ := id C0
  unfold fn_X11_slot at hf
  refine lv_aload_n hx hb dX11_slot_0 rfl (lv_at hl 0 rfl) ?_
  refine gt_11_0 hx hb hts hown hC hP Nat.zero_lt_one q1_16 dX11_slot_1 ?_
  refine lv_iload_n hx hb dX11_slot_4 rfl (lv_at hl 1 rfl) ?_
  obtain ⟨r_1, hc_2, hf⟩ := g_letE hf
  refine x_calli (v := (X, M, τ)) (va_runV (As := [.int x1]) (rest := []) ⟨hx, hb, hml, hown, hts⟩ (ct_X10_has l G X M τ x1 hc_2) (cwV 1 hts gd_X11_124 rfl rfl rfl hd_X10_has ⟨Nat.le_of_ble_eq_true rfl, Nat.le_of_ble_eq_true rfl⟩) (x_preV (u := (X, M, τ)) (k := 10) (ci := 10) hC hS hP Nat.zero_lt_one rfl rfl) rfl rfl hl.1 rfl (lv_room (Nat.le_of_ble_eq_true rfl)) dX11_slot_5 ⟨Nat.le_refl _, Nat.le_refl _⟩) hS (fun H locs hP hS => ?_)
  refine lv_if_eq (tgt := 23) hx hb dX11_slot_8 (by decide) (fun hc_3 => ?_) (fun hc_3 => ?_)
  · have hf := g_pos hf hc_3
    refine lv_iconst (v := 0) hx hb dX11_slot_23 (by decide) ?_
    cases hf
    exact x_zret hx hb hlocks hC hP hS hr (Or.inl rfl) dX11_slot_24
  · have hf := g_neg hf hc_3
    refine lv_iload_n hx hb dX11_slot_11 rfl (lv_at hl 2 rfl) ?_
    refine lv_iconst (v := (-1)) hx hb dX11_slot_12 (by decide) ?_
    refine lv_icmp_eq (tgt := 25) hx hb dX11_slot_13 (by decide) (fun hc_4 => ?_) (fun hc_4 => ?_)
    · have hf := g_pos hf hc_4
      refine lv_aload_n hx hb dX11_slot_25 rfl (lv_at hl 0 rfl) ?_
      refine gt_11_0 hx hb hts hown hC hP Nat.zero_lt_one q1_16 dX11_slot_26 ?_
      refine gt_10_0 hx hb hts hown hC hP Nat.zero_lt_one q13_21 dX11_slot_29 ?_
      refine lv_iload_n hx hb dX11_slot_32 rfl (lv_at hl 1 rfl) ?_
      refine lv_iload_n hx hb dX11_slot_33 rfl (lv_at hl 2 rfl) ?_
      obtain ⟨hg_5, hf⟩ := g_gd hf
      obtain ⟨X_6, eX_6, hf⟩ := g_letE hf
      refine xistX (k := 34) (n := 16) hx hb hC hP hS (fun _ _ => rfl) rfl Nat.zero_lt_one hg_5 dX11_slot_34 (fun H locs hP hS => ?_)
      rw [eX_6] at hP
      refine lv_iconst (v := 1) hx hb dX11_slot_35 (by decide) ?_
      cases hf
      exact x_zret hx hb hlocks hC hP hS hr (Or.inr rfl) dX11_slot_36
    · have hf := g_neg hf hc_4
      refine lv_iload_n hx hb dX11_slot_16 rfl (lv_at hl 2 rfl) ?_
      obtain ⟨r_7, hc_8, hf⟩ := g_letE hf
      refine x_calli (v := (X, M, τ)) (va_runS (As := [.int x2]) (rest := []) ⟨hx, hb, hml, hown, hts⟩ (ct_X11_isThread l G X M τ x2 hc_8) (cwS 1 hts gd_X11_56 rfl rfl rfl hd_X11_isThread ⟨Nat.le_of_ble_eq_true rfl, Nat.le_of_ble_eq_true rfl⟩) (x_pre (u := (X, M, τ)) hC hS hP) rfl rfl hl.1 rfl (lv_room (Nat.le_of_ble_eq_true rfl)) dX11_slot_17 ⟨Nat.le_refl _, Nat.le_refl _⟩) hS (fun H locs hP hS => ?_)
      refine lv_if_ne (tgt := 25) hx hb dX11_slot_20 (by decide) (fun hc_9 => ?_) (fun hc_9 => ?_)
      · have hf := g_neg hf hc_9
        refine lv_aload_n hx hb dX11_slot_25 rfl (lv_at hl 0 rfl) ?_
        refine gt_11_0 hx hb hts hown hC hP Nat.zero_lt_one q1_16 dX11_slot_26 ?_
        refine gt_10_0 hx hb hts hown hC hP Nat.zero_lt_one q13_21 dX11_slot_29 ?_
        refine lv_iload_n hx hb dX11_slot_32 rfl (lv_at hl 1 rfl) ?_
        refine lv_iload_n hx hb dX11_slot_33 rfl (lv_at hl 2 rfl) ?_
        obtain ⟨hg_10, hf⟩ := g_gd hf
        obtain ⟨X_11, eX_11, hf⟩ := g_letE hf
        refine xistX (k := 34) (n := 16) hx hb hC hP hS (fun _ _ => rfl) rfl Nat.zero_lt_one hg_10 dX11_slot_34 (fun H locs hP hS => ?_)
        rw [eX_11] at hP
        refine lv_iconst (v := 1) hx hb dX11_slot_35 (by decide) ?_
        cases hf
        exact x_zret hx hb hlocks hC hP hS hr (Or.inr rfl) dX11_slot_36
      · have hf := g_pos hf hc_9
        refine lv_iconst (v := 0) hx hb dX11_slot_23 (by decide) ?_
        cases hf
        exact x_zret hx hb hlocks hC hP hS hr (Or.inl rfl) dX11_slot_24
set_option maxRecDepth 100000 in
set_option maxHeartbeats 4000000 in
theorem ct_X11_slot (l : Launch) (G : GP) (X M : SM) (τ : SL) (x1 : Int32) (x2 : Int32) {r0 : Int32} {X0 : SM} (hf : fn_X11_slot x1 x2 X = some (r0, X0)) : Met l yX11_slot (wz yX11_slot cX11_slot 3 (some .boolean)) rm_X11_slot (va_Pc [.ref (G.2.1 11 0), .int x1, .int x2] (g_pw G (X, M, τ))) (va_Qi (fun r u => r = r0 ∧ u = (X0, M, τ)) (g_pw G) (g_A G)) 0 0 (g_A G) := by
  refine Met.ofW (cc := cX11_slot) (maxL := 3) (ret := (some .boolean)) (by decide) rfl ?_
  intro p e s m args below meth c s₁ B hml hv
  obtain ⟨rfl, hC, hP⟩ := hv
  have C0 : g_mc p s m _ meth c RX11 cX11_slot (some .boolean) 3 G := ⟨B.exec, B.bytes, B.returns, hml, findClass_of_methodNamed B.named, fun w h => atoms_spec (ws := wz yX11_slot cX11_slot 3 (some .boolean)) B.pre w (List.mem_cons_of_mem _ h), B.notSynchronized, hC⟩
  have hl := lv_entry ([.ref (G.2.1 11 0), .int x1, .int x2]) (n := 3) (Nat.le_of_ble_eq_true rfl)
  rw [lg_entry_eq]
  generalize (lg_sl ([.ref (G.2.1 11 0), .int x1, .int x2]) ++ List.replicate (3 - (lg_sl ([.ref (G.2.1 11 0), .int x1, .int x2])).length) Slot.unset).toArray = ls at hl ⊢
  exact wk_X11_slot C0 x1 x2 X hf hP va_S.rf hl
abbrev rm_X11_slots : Room := { frames := 1, cells := 0, slots := 0, locals := 23 }
def fn_X11_slots (x1 : Int32) (X : SM) : Option (Int32 × SM) :=
  if x1 < 1 then
  (some ((-1), X))
  else
  (if x1 ≤ 16 then
    ((fn_X10_resize x1 X).bind fun (r_3, X_4) =>
      some (r_3, X_4))
    else
    (some ((-1), X)))
set_option maxRecDepth 100000 in
set_option maxHeartbeats 4000000 in
theorem wk_X11_slots {p : Program} {l : Launch} {e : Env} {s : State} {m : MethodId} {args : Array Value} {below : List Frame} {meth : Method} {c : Code} {G : GP} {M : SM} {τ : SL} (C0 : g_mc p s m args meth c RX11 cX11_slots (some .int) 2 G) {r0 : Int32} {X0 : SM} (x1 : Int32) (X : SM) (hf : fn_X11_slots x1 X = some (r0, X0)) {H : Heap} {locs : List Loc} (hP : va_P G.1 g_cl (wd G (cb X M) τ) H) (hS : va_S (g_A G) s.heap H locs) {ls : Array Slot} (hl : lv_has ls 2 [(0, .ref (G.2.1 11 0)), (1, .int x1)]) : W p l e rm_X11_slots s m args below meth c H locs 0 0 (MQ below (va_Qi (fun r u => r = r0 ∧ u = (X0, M, τ)) (g_pw G) (g_A G)) args s 0 0 (g_A G)) (F0 m 0 ls []) := by
  obtain ⟨hx, hb, hr, hml, hown, hts, hlocks, hC⟩ := id C0
  unfold fn_X11_slots at hf
  refine lv_iload_n hx hb dX11_slots_0 rfl (lv_at hl 1 rfl) ?_
  refine lv_iconst (v := 1) hx hb dX11_slots_1 (by decide) ?_
  refine lv_icmp_lt (tgt := 11) hx hb dX11_slots_2 (by decide) (fun hc_1 => ?_) (fun hc_1 => ?_)
  · have hf := g_pos hf hc_1
    refine lv_iconst (v := (-1)) hx hb dX11_slots_11 (by decide) ?_
    refine lv_goto (tgt := 23) hx hb dX11_slots_12 (by decide) ?_
    cases hf
    exact x_iret hx hb hlocks hC hP hS hr dX11_slots_23
  · have hf := g_neg hf hc_1
    refine lv_iload_n hx hb dX11_slots_5 rfl (lv_at hl 1 rfl) ?_
    refine lv_bipush (v := 16) hx hb dX11_slots_6 (by decide) ?_
    refine lv_icmp_le (tgt := 15) hx hb dX11_slots_8 (by decide) (fun hc_2 => ?_) (fun hc_2 => ?_)
    · have hf := g_pos hf hc_2
      refine lv_aload_n hx hb dX11_slots_15 rfl (lv_at hl 0 rfl) ?_
      refine gt_11_0 hx hb hts hown hC hP Nat.zero_lt_one q1_16 dX11_slots_16 ?_
      refine lv_iload_n hx hb dX11_slots_19 rfl (lv_at hl 1 rfl) ?_
      obtain ⟨⟨r_3, X_4⟩, hc_5, hf⟩ := g_bindE hf
      refine x_calli (v := (X_4, M, τ)) (va_runV (As := [.int x1]) (rest := []) ⟨hx, hb, hml, hown, hts⟩ (ct_X10_resize l G X M τ x1 hc_5) (cwV 1 hts gd_X11_121 rfl rfl rfl hd_X10_resize ⟨Nat.le_of_ble_eq_true rfl, Nat.le_of_ble_eq_true rfl⟩) (x_preV (u := (X, M, τ)) (k := 10) (ci := 10) hC hS hP Nat.zero_lt_one rfl rfl) rfl rfl hl.1 rfl (lv_room (Nat.le_of_ble_eq_true rfl)) dX11_slots_20 ⟨Nat.le_refl _, Nat.le_refl _⟩) hS (fun H locs hP hS => ?_)
      cases hf
      exact x_iret hx hb hlocks hC hP hS hr dX11_slots_23
    · have hf := g_neg hf hc_2
      refine lv_iconst (v := (-1)) hx hb dX11_slots_11 (by decide) ?_
      refine lv_goto (tgt := 23) hx hb dX11_slots_12 (by decide) ?_
      cases hf
      exact x_iret hx hb hlocks hC hP hS hr dX11_slots_23
set_option maxRecDepth 100000 in
set_option maxHeartbeats 4000000 in
theorem ct_X11_slots (l : Launch) (G : GP) (X M : SM) (τ : SL) (x1 : Int32) {r0 : Int32} {X0 : SM} (hf : fn_X11_slots x1 X = some (r0, X0)) : Met l yX11_slots (wz yX11_slots cX11_slots 2 (some .int)) rm_X11_slots (va_Pc [.ref (G.2.1 11 0), .int x1] (g_pw G (X, M, τ))) (va_Qi (fun r u => r = r0 ∧ u = (X0, M, τ)) (g_pw G) (g_A G)) 0 0 (g_A G) := by
  refine Met.ofW (cc := cX11_slots) (maxL := 2) (ret := (some .int)) (by decide) rfl ?_
  intro p e s m args below meth c s₁ B hml hv
  obtain ⟨rfl, hC, hP⟩ := hv
  have C0 : g_mc p s m _ meth c RX11 cX11_slots (some .int) 2 G := ⟨B.exec, B.bytes, B.returns, hml, findClass_of_methodNamed B.named, fun w h => atoms_spec (ws := wz yX11_slots cX11_slots 2 (some .int)) B.pre w (List.mem_cons_of_mem _ h), B.notSynchronized, hC⟩
  have hl := lv_entry ([.ref (G.2.1 11 0), .int x1]) (n := 2) (Nat.le_of_ble_eq_true rfl)
  rw [lg_entry_eq]
  generalize (lg_sl ([.ref (G.2.1 11 0), .int x1]) ++ List.replicate (2 - (lg_sl ([.ref (G.2.1 11 0), .int x1])).length) Slot.unset).toArray = ls at hl ⊢
  exact wk_X11_slots C0 x1 X hf hP va_S.rf hl
abbrev rm_X11_span : Room := { frames := 4, cells := 0, slots := 0, locals := 97 }
def fn_X11_span (x1 : Int32) (x2 : Int32) (x3 : Int32) (X : SM) : Option (Int32) :=
  g_let (fn_X11_isThread x1) fun r_1 =>
  if r_1 = 0 then
  (some (-1))
  else
  (if x3 < 0 then
    (some (-1))
    else
    (if x3 ≤ 1 then
      (if x3 = 1 then
        ((fn_X10_ticksOf x1 x2 1 X).bind fun r_9 =>
          some r_9)
        else
        ((fn_X10_ticksOf x1 x2 0 X).bind fun r_7 =>
          some r_7))
      else
      (some (-1))))
set_option maxRecDepth 100000 in
set_option maxHeartbeats 4000000 in
theorem wk_X11_span {p : Program} {l : Launch} {e : Env} {s : State} {m : MethodId} {args : Array Value} {below : List Frame} {meth : Method} {c : Code} {G : GP} {M : SM} {τ : SL} (C0 : g_mc p s m args meth c RX11 cX11_span (some .int) 4 G) {r0 : Int32} (x1 : Int32) (x2 : Int32) (x3 : Int32) (X : SM) (hf : fn_X11_span x1 x2 x3 X = some r0) {H : Heap} {locs : List Loc} (hP : va_P G.1 g_cl (wd G (cb X M) τ) H) (hS : va_S (g_A G) s.heap H locs) {ls : Array Slot} (hl : lv_has ls 4 [(0, .ref (G.2.1 11 0)), (1, .int x1), (2, .int x2), (3, .int x3)]) : W p l e rm_X11_span s m args below meth c H locs 0 0 (MQ below (va_Qi (fun r u => r = r0 ∧ u = (X, M, τ)) (g_pw G) (g_A G)) args s 0 0 (g_A G)) (F0 m 0 ls []) := by
  obtain ⟨hx, hb, hr, hml, hown, hts, hlocks, hC⟩ := id C0
  unfold fn_X11_span at hf
  refine lv_iload_n hx hb dX11_span_0 rfl (lv_at hl 1 rfl) ?_
  obtain ⟨r_1, hc_2, hf⟩ := g_letE hf
  refine x_calli (v := (X, M, τ)) (va_runS (As := [.int x1]) (rest := []) ⟨hx, hb, hml, hown, hts⟩ (ct_X11_isThread l G X M τ x1 hc_2) (cwS 1 hts gd_X11_56 rfl rfl rfl hd_X11_isThread ⟨Nat.le_of_ble_eq_true rfl, Nat.le_of_ble_eq_true rfl⟩) (x_pre (u := (X, M, τ)) hC hS hP) rfl rfl hl.1 rfl (lv_room (Nat.le_of_ble_eq_true rfl)) dX11_span_1 ⟨Nat.le_refl _, Nat.le_refl _⟩) hS (fun H locs hP hS => ?_)
  refine lv_if_eq (tgt := 16) hx hb dX11_span_4 (by decide) (fun hc_3 => ?_) (fun hc_3 => ?_)
  · have hf := g_pos hf hc_3
    refine lv_iconst (v := (-1)) hx hb dX11_span_16 (by decide) ?_
    cases hf
    exact x_iret hx hb hlocks hC hP hS hr dX11_span_17
  · have hf := g_neg hf hc_3
    refine lv_iload_n hx hb dX11_span_7 rfl (lv_at hl 3 rfl) ?_
    refine lv_if_lt (tgt := 16) hx hb dX11_span_8 (by decide) (fun hc_4 => ?_) (fun hc_4 => ?_)
    · have hf := g_pos hf hc_4
      refine lv_iconst (v := (-1)) hx hb dX11_span_16 (by decide) ?_
      cases hf
      exact x_iret hx hb hlocks hC hP hS hr dX11_span_17
    · have hf := g_neg hf hc_4
      refine lv_iload_n hx hb dX11_span_11 rfl (lv_at hl 3 rfl) ?_
      refine lv_iconst (v := 1) hx hb dX11_span_12 (by decide) ?_
      refine lv_icmp_le (tgt := 18) hx hb dX11_span_13 (by decide) (fun hc_5 => ?_) (fun hc_5 => ?_)
      · have hf := g_pos hf hc_5
        refine lv_aload_n hx hb dX11_span_18 rfl (lv_at hl 0 rfl) ?_
        refine gt_11_0 hx hb hts hown hC hP Nat.zero_lt_one q1_16 dX11_span_19 ?_
        refine lv_iload_n hx hb dX11_span_22 rfl (lv_at hl 1 rfl) ?_
        refine lv_iload_n hx hb dX11_span_23 rfl (lv_at hl 2 rfl) ?_
        refine lv_iload_n hx hb dX11_span_24 rfl (lv_at hl 3 rfl) ?_
        refine lv_iconst (v := 1) hx hb dX11_span_25 (by decide) ?_
        refine lv_icmp_ne (tgt := 33) hx hb dX11_span_26 (by decide) (fun hc_6 => ?_) (fun hc_6 => ?_)
        · have hf := g_neg hf hc_6
          refine lv_iconst (v := 0) hx hb dX11_span_33 (by decide) ?_
          obtain ⟨r_7, hc_8, hf⟩ := g_bindE hf
          refine x_calli (v := (X, M, τ)) (va_runV (As := [.int x1, .int x2, .int 0]) (rest := []) ⟨hx, hb, hml, hown, hts⟩ (ct_X10_ticksOf l G X M τ x1 x2 0 hc_8) (cwV 3 hts gd_X11_245 rfl rfl rfl hd_X10_ticksOf ⟨Nat.le_of_ble_eq_true rfl, Nat.le_of_ble_eq_true rfl⟩) (x_preV (u := (X, M, τ)) (k := 10) (ci := 10) hC hS hP Nat.zero_lt_one rfl rfl) rfl rfl hl.1 rfl (lv_room (Nat.le_of_ble_eq_true rfl)) dX11_span_34 ⟨Nat.le_refl _, Nat.le_refl _⟩) hS (fun H locs hP hS => ?_)
          cases hf
          exact x_iret hx hb hlocks hC hP hS hr dX11_span_37
        · have hf := g_pos hf hc_6
          refine lv_iconst (v := 1) hx hb dX11_span_29 (by decide) ?_
          refine lv_goto (tgt := 34) hx hb dX11_span_30 (by decide) ?_
          obtain ⟨r_9, hc_10, hf⟩ := g_bindE hf
          refine x_calli (v := (X, M, τ)) (va_runV (As := [.int x1, .int x2, .int 1]) (rest := []) ⟨hx, hb, hml, hown, hts⟩ (ct_X10_ticksOf l G X M τ x1 x2 1 hc_10) (cwV 3 hts gd_X11_245 rfl rfl rfl hd_X10_ticksOf ⟨Nat.le_of_ble_eq_true rfl, Nat.le_of_ble_eq_true rfl⟩) (x_preV (u := (X, M, τ)) (k := 10) (ci := 10) hC hS hP Nat.zero_lt_one rfl rfl) rfl rfl hl.1 rfl (lv_room (Nat.le_of_ble_eq_true rfl)) dX11_span_34 ⟨Nat.le_refl _, Nat.le_refl _⟩) hS (fun H locs hP hS => ?_)
          cases hf
          exact x_iret hx hb hlocks hC hP hS hr dX11_span_37
      · have hf := g_neg hf hc_5
        refine lv_iconst (v := (-1)) hx hb dX11_span_16 (by decide) ?_
        cases hf
        exact x_iret hx hb hlocks hC hP hS hr dX11_span_17
set_option maxRecDepth 100000 in
set_option maxHeartbeats 4000000 in
theorem ct_X11_span (l : Launch) (G : GP) (X M : SM) (τ : SL) (x1 : Int32) (x2 : Int32) (x3 : Int32) {r0 : Int32} (hf : fn_X11_span x1 x2 x3 X = some r0) : Met l yX11_span (wz yX11_span cX11_span 4 (some .int)) rm_X11_span (va_Pc [.ref (G.2.1 11 0), .int x1, .int x2, .int x3] (g_pw G (X, M, τ))) (va_Qi (fun r u => r = r0 ∧ u = (X, M, τ)) (g_pw G) (g_A G)) 0 0 (g_A G) := by
  refine Met.ofW (cc := cX11_span) (maxL := 4) (ret := (some .int)) (by decide) rfl ?_
  intro p e s m args below meth c s₁ B hml hv
  obtain ⟨rfl, hC, hP⟩ := hv
  have C0 : g_mc p s m _ meth c RX11 cX11_span (some .int) 4 G := ⟨B.exec, B.bytes, B.returns, hml, findClass_of_methodNamed B.named, fun w h => atoms_spec (ws := wz yX11_span cX11_span 4 (some .int)) B.pre w (List.mem_cons_of_mem _ h), B.notSynchronized, hC⟩
  have hl := lv_entry ([.ref (G.2.1 11 0), .int x1, .int x2, .int x3]) (n := 4) (Nat.le_of_ble_eq_true rfl)
  rw [lg_entry_eq]
  generalize (lg_sl ([.ref (G.2.1 11 0), .int x1, .int x2, .int x3]) ++ List.replicate (4 - (lg_sl ([.ref (G.2.1 11 0), .int x1, .int x2, .int x3])).length) Slot.unset).toArray = ls at hl ⊢
  exact wk_X11_span C0 x1 x2 x3 X hf hP va_S.rf hl
abbrev rm_X9_reset : Room := { frames := 2, cells := 0, slots := 0, locals := 43 }
def fn_X9_reset (t0 : Nat) (X : SM) : SM :=
  g_let (uf X 31 t0 8 0) fun X_1 =>
  g_let (uf X_1 32 t0 16 0) fun X_2 =>
  g_let (fn_X9_rewind t0 X_2) fun X_3 =>
  g_let (u1 X_3 9 t0 11 0) fun X_5 =>
  g_let (u1 X_5 9 t0 12 0) fun X_6 =>
  g_let (u1 X_6 9 t0 13 0) fun X_7 =>
  g_let (u1 X_7 9 t0 14 0) fun X_8 =>
  X_8
set_option maxRecDepth 100000 in
set_option maxHeartbeats 4000000 in
theorem wk_X9_reset {p : Program} {l : Launch} {e : Env} {s : State} {m : MethodId} {args : Array Value} {below : List Frame} {meth : Method} {c : Code} {G : GP} {M : SM} {τ : SL} (C0 : g_mc p s m args meth c RX9 cX9_reset none 1 G) {X0 : SM} (t0 : Nat) (ht0 : t0 < 12) (X : SM) (hf : fn_X9_reset t0 X = X0) {H : Heap} {locs : List Loc} (hP : va_P G.1 g_cl (wd G (cb X M) τ) H) (hS : va_S (g_A G) s.heap H locs) {ls : Array Slot} (hl : lv_has ls 1 [(0, .ref (G.2.1 9 t0))]) : W p l e rm_X9_reset s m args below meth c H locs 0 0 (MQ below (va_Qv (fun u => u = (X0, M, τ)) (g_pw G) (g_A G)) args s 0 0 (g_A G)) (F0 m 0 ls []) := by
  obtain ⟨hx, hb, hr, hml, hown, hts, hlocks, hC⟩ := id C0
  unfold fn_X9_reset at hf
  refine lv_aload_n hx hb dX9_reset_0 rfl (lv_at hl 0 rfl) ?_
  refine gt_9_3 hx hb hts hown hC hP ht0 q5_9 dX9_reset_1 ?_
  refine lv_iconst (v := 0) hx hb dX9_reset_4 (by decide) ?_
  obtain ⟨X_1, eX_1, hf⟩ := g_letE hf
  refine x_fillX (k := 31) (n := 8) (rest := []) hx hb hml hown hts hC hP hS (fun _ _ => rfl) rfl (by decide) ht0 q10_8 hl.1 (lv_room (Nat.le_of_ble_eq_true rfl)) dX9_reset_5 ⟨Nat.le_of_ble_eq_true rfl, Nat.le_of_ble_eq_true rfl⟩ (fun H locs hP hS => ?_)
  rw [eX_1] at hP
  refine lv_aload_n hx hb dX9_reset_8 rfl (lv_at hl 0 rfl) ?_
  refine gt_9_4 hx hb hts hown hC hP ht0 q5_10 dX9_reset_9 ?_
  refine lv_iconst (v := 0) hx hb dX9_reset_12 (by decide) ?_
  obtain ⟨X_2, eX_2, hf⟩ := g_letE hf
  refine x_fillX (k := 32) (n := 16) (rest := []) hx hb hml hown hts hC hP hS (fun _ _ => rfl) rfl (by decide) ht0 q10_8 hl.1 (lv_room (Nat.le_of_ble_eq_true rfl)) dX9_reset_13 ⟨Nat.le_of_ble_eq_true rfl, Nat.le_of_ble_eq_true rfl⟩ (fun H locs hP hS => ?_)
  rw [eX_2] at hP
  refine lv_aload_n hx hb dX9_reset_16 rfl (lv_at hl 0 rfl) ?_
  obtain ⟨X_3, hc_4, hf⟩ := g_letE hf
  refine x_callv (v := (X_3, M, τ)) (va_runV (As := []) (rest := []) ⟨hx, hb, hml, hown, hts⟩ (ct_X9_rewind l G X_2 M τ t0 ht0 hc_4) (cwV 0 hts gd_X9_95 rfl rfl rfl hd_X9_rewind ⟨Nat.le_of_ble_eq_true rfl, Nat.le_of_ble_eq_true rfl⟩) (x_preV (u := (X_2, M, τ)) (k := 9) (ci := 9) hC hS hP ht0 rfl rfl) rfl rfl hl.1 rfl (lv_room (Nat.le_of_ble_eq_true rfl)) dX9_reset_17 ⟨Nat.le_refl _, Nat.le_refl _⟩) hS (fun H locs hP hS => ?_)
  refine lv_aload_n hx hb dX9_reset_20 rfl (lv_at hl 0 rfl) ?_
  refine lv_iconst (v := 0) hx hb dX9_reset_21 (by decide) ?_
  obtain ⟨X_5, eX_5, hf⟩ := g_letE hf
  refine pt_9_11 hx hb hts hown hC hP hS ht0 q18_0 dX9_reset_22 (fun H locs hP hS => ?_)
  rw [eX_5] at hP
  refine lv_aload_n hx hb dX9_reset_25 rfl (lv_at hl 0 rfl) ?_
  refine lv_iconst (v := 0) hx hb dX9_reset_26 (by decide) ?_
  obtain ⟨X_6, eX_6, hf⟩ := g_letE hf
  refine pt_9_12 hx hb hts hown hC hP hS ht0 q18_1 dX9_reset_27 (fun H locs hP hS => ?_)
  rw [eX_6] at hP
  refine lv_aload_n hx hb dX9_reset_30 rfl (lv_at hl 0 rfl) ?_
  refine lv_iconst (v := 0) hx hb dX9_reset_31 (by decide) ?_
  obtain ⟨X_7, eX_7, hf⟩ := g_letE hf
  refine pt_9_13 hx hb hts hown hC hP hS ht0 q18_2 dX9_reset_32 (fun H locs hP hS => ?_)
  rw [eX_7] at hP
  refine lv_aload_n hx hb dX9_reset_35 rfl (lv_at hl 0 rfl) ?_
  refine lv_iconst (v := 0) hx hb dX9_reset_36 (by decide) ?_
  obtain ⟨X_8, eX_8, hf⟩ := g_letE hf
  refine pt_9_14 hx hb hts hown hC hP hS ht0 q18_3 dX9_reset_37 (fun H locs hP hS => ?_)
  rw [eX_8] at hP
  cases hf
  exact x_vret hx hb hlocks hC hP hS hr dX9_reset_40
set_option maxRecDepth 100000 in
set_option maxHeartbeats 4000000 in
theorem ct_X9_reset (l : Launch) (G : GP) (X M : SM) (τ : SL) (t0 : Nat) (ht0 : t0 < 12) {X0 : SM} (hf : fn_X9_reset t0 X = X0) : Met l yX9_reset (wz yX9_reset cX9_reset 1 none) rm_X9_reset (va_Pc [.ref (G.2.1 9 t0)] (g_pw G (X, M, τ))) (va_Qv (fun u => u = (X0, M, τ)) (g_pw G) (g_A G)) 0 0 (g_A G) := by
  refine Met.ofW (cc := cX9_reset) (maxL := 1) (ret := none) (by decide) rfl ?_
  intro p e s m args below meth c s₁ B hml hv
  obtain ⟨rfl, hC, hP⟩ := hv
  have C0 : g_mc p s m _ meth c RX9 cX9_reset none 1 G := ⟨B.exec, B.bytes, B.returns, hml, findClass_of_methodNamed B.named, fun w h => atoms_spec (ws := wz yX9_reset cX9_reset 1 none) B.pre w (List.mem_cons_of_mem _ h), B.notSynchronized, hC⟩
  have hl := lv_entry ([.ref (G.2.1 9 t0)]) (n := 1) (Nat.le_of_ble_eq_true rfl)
  rw [lg_entry_eq]
  generalize (lg_sl ([.ref (G.2.1 9 t0)]) ++ List.replicate (1 - (lg_sl ([.ref (G.2.1 9 t0)])).length) Slot.unset).toArray = ls at hl ⊢
  exact wk_X9_reset C0 t0 ht0 X hf hP va_S.rf hl
abbrev rm_X3_clear : Room := { frames := 0, cells := 0, slots := 0, locals := 0 }
def fn_X3_clear (t0 : Nat) (X : SM) : SM :=
  g_let (u1 X 3 t0 1 0) fun X_1 =>
  g_let (u1 X_1 3 t0 2 0) fun X_2 =>
  X_2
set_option maxRecDepth 100000 in
set_option maxHeartbeats 4000000 in
theorem wk_X3_clear {p : Program} {l : Launch} {e : Env} {s : State} {m : MethodId} {args : Array Value} {below : List Frame} {meth : Method} {c : Code} {G : GP} {M : SM} {τ : SL} (C0 : g_mc p s m args meth c RX3 cX3_clear none 1 G) {X0 : SM} (t0 : Nat) (ht0 : t0 < 2) (X : SM) (hf : fn_X3_clear t0 X = X0) {H : Heap} {locs : List Loc} (hP : va_P G.1 g_cl (wd G (cb X M) τ) H) (hS : va_S (g_A G) s.heap H locs) {ls : Array Slot} (hl : lv_has ls 1 [(0, .ref (G.2.1 3 t0))]) : W p l e rm_X3_clear s m args below meth c H locs 0 0 (MQ below (va_Qv (fun u => u = (X0, M, τ)) (g_pw G) (g_A G)) args s 0 0 (g_A G)) (F0 m 0 ls []) := by
  obtain ⟨hx, hb, hr, hml, hown, hts, hlocks, hC⟩ := id C0
  unfold fn_X3_clear at hf
  refine lv_aload_n hx hb dX3_clear_0 rfl (lv_at hl 0 rfl) ?_
  refine lv_iconst (v := 0) hx hb dX3_clear_1 (by decide) ?_
  obtain ⟨X_1, eX_1, hf⟩ := g_letE hf
  refine pt_3_1 hx hb hts hown hC hP hS ht0 q18_12 dX3_clear_2 (fun H locs hP hS => ?_)
  rw [eX_1] at hP
  refine lv_aload_n hx hb dX3_clear_5 rfl (lv_at hl 0 rfl) ?_
  refine lv_iconst (v := 0) hx hb dX3_clear_6 (by decide) ?_
  obtain ⟨X_2, eX_2, hf⟩ := g_letE hf
  refine pt_3_2 hx hb hts hown hC hP hS ht0 q18_13 dX3_clear_7 (fun H locs hP hS => ?_)
  rw [eX_2] at hP
  cases hf
  exact x_vret hx hb hlocks hC hP hS hr dX3_clear_10
set_option maxRecDepth 100000 in
set_option maxHeartbeats 4000000 in
theorem ct_X3_clear (l : Launch) (G : GP) (X M : SM) (τ : SL) (t0 : Nat) (ht0 : t0 < 2) {X0 : SM} (hf : fn_X3_clear t0 X = X0) : Met l yX3_clear (wz yX3_clear cX3_clear 1 none) rm_X3_clear (va_Pc [.ref (G.2.1 3 t0)] (g_pw G (X, M, τ))) (va_Qv (fun u => u = (X0, M, τ)) (g_pw G) (g_A G)) 0 0 (g_A G) := by
  refine Met.ofW (cc := cX3_clear) (maxL := 1) (ret := none) (by decide) rfl ?_
  intro p e s m args below meth c s₁ B hml hv
  obtain ⟨rfl, hC, hP⟩ := hv
  have C0 : g_mc p s m _ meth c RX3 cX3_clear none 1 G := ⟨B.exec, B.bytes, B.returns, hml, findClass_of_methodNamed B.named, fun w h => atoms_spec (ws := wz yX3_clear cX3_clear 1 none) B.pre w (List.mem_cons_of_mem _ h), B.notSynchronized, hC⟩
  have hl := lv_entry ([.ref (G.2.1 3 t0)]) (n := 1) (Nat.le_of_ble_eq_true rfl)
  rw [lg_entry_eq]
  generalize (lg_sl ([.ref (G.2.1 3 t0)]) ++ List.replicate (1 - (lg_sl ([.ref (G.2.1 3 t0)])).length) Slot.unset).toArray = ls at hl ⊢
  exact wk_X3_clear C0 t0 ht0 X hf hP va_S.rf hl
abbrev rm_X8_reset : Room := { frames := 1, cells := 0, slots := 0, locals := 23 }
def fn_X8_reset (t0 : Nat) (X : SM) : SM :=
  g_let (uf X 30 t0 8 0) fun X_1 =>
  g_let (fn_X3_clear t0 X_1) fun X_2 =>
  X_2
set_option maxRecDepth 100000 in
set_option maxHeartbeats 4000000 in
theorem wk_X8_reset {p : Program} {l : Launch} {e : Env} {s : State} {m : MethodId} {args : Array Value} {below : List Frame} {meth : Method} {c : Code} {G : GP} {M : SM} {τ : SL} (C0 : g_mc p s m args meth c RX8 cX8_reset none 1 G) {X0 : SM} (t0 : Nat) (ht0 : t0 < 2) (X : SM) (hf : fn_X8_reset t0 X = X0) {H : Heap} {locs : List Loc} (hP : va_P G.1 g_cl (wd G (cb X M) τ) H) (hS : va_S (g_A G) s.heap H locs) {ls : Array Slot} (hl : lv_has ls 1 [(0, .ref (G.2.1 8 t0))]) : W p l e rm_X8_reset s m args below meth c H locs 0 0 (MQ below (va_Qv (fun u => u = (X0, M, τ)) (g_pw G) (g_A G)) args s 0 0 (g_A G)) (F0 m 0 ls []) := by
  obtain ⟨hx, hb, hr, hml, hown, hts, hlocks, hC⟩ := id C0
  unfold fn_X8_reset at hf
  refine lv_aload_n hx hb dX8_reset_0 rfl (lv_at hl 0 rfl) ?_
  refine gt_8_1 hx hb hts hown hC hP ht0 q4_5 dX8_reset_1 ?_
  refine lv_iconst (v := 0) hx hb dX8_reset_4 (by decide) ?_
  obtain ⟨X_1, eX_1, hf⟩ := g_letE hf
  refine x_fillX (k := 30) (n := 8) (rest := []) hx hb hml hown hts hC hP hS (fun _ _ => rfl) rfl (by decide) ht0 q4_14 hl.1 (lv_room (Nat.le_of_ble_eq_true rfl)) dX8_reset_5 ⟨Nat.le_of_ble_eq_true rfl, Nat.le_of_ble_eq_true rfl⟩ (fun H locs hP hS => ?_)
  rw [eX_1] at hP
  refine lv_aload_n hx hb dX8_reset_8 rfl (lv_at hl 0 rfl) ?_
  refine gt_8_2 hx hb hts hown hC hP ht0 q4_9 dX8_reset_9 ?_
  obtain ⟨X_2, hc_3, hf⟩ := g_letE hf
  refine x_callv (v := (X_2, M, τ)) (va_runV (As := []) (rest := []) ⟨hx, hb, hml, hown, hts⟩ (ct_X3_clear l G X_1 M τ t0 ht0 hc_3) (cwV 0 hts gd_X8_39 rfl rfl rfl hd_X3_clear ⟨Nat.le_of_ble_eq_true rfl, Nat.le_of_ble_eq_true rfl⟩) (x_preV (u := (X_1, M, τ)) (k := 3) (ci := 3) hC hS hP ht0 rfl rfl) rfl rfl hl.1 rfl (lv_room (Nat.le_of_ble_eq_true rfl)) dX8_reset_12 ⟨Nat.le_refl _, Nat.le_refl _⟩) hS (fun H locs hP hS => ?_)
  cases hf
  exact x_vret hx hb hlocks hC hP hS hr dX8_reset_15
set_option maxRecDepth 100000 in
set_option maxHeartbeats 4000000 in
theorem ct_X8_reset (l : Launch) (G : GP) (X M : SM) (τ : SL) (t0 : Nat) (ht0 : t0 < 2) {X0 : SM} (hf : fn_X8_reset t0 X = X0) : Met l yX8_reset (wz yX8_reset cX8_reset 1 none) rm_X8_reset (va_Pc [.ref (G.2.1 8 t0)] (g_pw G (X, M, τ))) (va_Qv (fun u => u = (X0, M, τ)) (g_pw G) (g_A G)) 0 0 (g_A G) := by
  refine Met.ofW (cc := cX8_reset) (maxL := 1) (ret := none) (by decide) rfl ?_
  intro p e s m args below meth c s₁ B hml hv
  obtain ⟨rfl, hC, hP⟩ := hv
  have C0 : g_mc p s m _ meth c RX8 cX8_reset none 1 G := ⟨B.exec, B.bytes, B.returns, hml, findClass_of_methodNamed B.named, fun w h => atoms_spec (ws := wz yX8_reset cX8_reset 1 none) B.pre w (List.mem_cons_of_mem _ h), B.notSynchronized, hC⟩
  have hl := lv_entry ([.ref (G.2.1 8 t0)]) (n := 1) (Nat.le_of_ble_eq_true rfl)
  rw [lg_entry_eq]
  generalize (lg_sl ([.ref (G.2.1 8 t0)]) ++ List.replicate (1 - (lg_sl ([.ref (G.2.1 8 t0)])).length) Slot.unset).toArray = ls at hl ⊢
  exact wk_X8_reset C0 t0 ht0 X hf hP va_S.rf hl
abbrev rm_X7_reset : Room := { frames := 3, cells := 0, slots := 0, locals := 63 }
def wb_X7_reset_2 (k2 : Nat → Int32 → SM → Option (SM)) (t0 : Nat) (x1 : Int32) (X : SM) : Option (SM) :=
  if 6 ≤ x1 then
  (g_let (fn_X8_reset t0 X) fun X_2 =>
    g_let (fn_X0_reset t0 X_2) fun X_4 =>
    g_let (u1 X_4 7 t0 5 0) fun X_6 =>
    g_let (u1 X_6 7 t0 6 0) fun X_7 =>
    g_let (u1 X_7 7 t0 7 0) fun X_8 =>
    g_let (u1 X_8 7 t0 8 0) fun X_9 =>
    g_let (u1 X_9 7 t0 9 0) fun X_10 =>
    g_let (u1 X_10 7 t0 10 (-1)) fun X_11 =>
    g_let (u1 X_11 7 t0 11 0) fun X_12 =>
    some X_12)
  else
  (if g_in x1 6 then
    g_let (fn_X9_reset (6 * t0 + (x1.toNatClampNeg)) X) fun X_15 =>
    g_let (x1 + 1) fun x1_17 =>
    k2 t0 x1_17 X_15
    else none)
set_option maxRecDepth 100000 in
set_option maxHeartbeats 4000000 in
theorem bk_X7_reset_2 {p : Program} {l : Launch} {e : Env} {s : State} {m : MethodId} {args : Array Value} {below : List Frame} {meth : Method} {c : Code} {G : GP} {M : SM} {τ : SL} (C0 : g_mc p s m args meth c RX7 cX7_reset none 2 G) {X0 : SM} (k2 : Nat → Int32 → SM → Option (SM)) (hk2 : ∀ (t0 : Nat) (ht0 : t0 < 2) (x1 : Int32) (X : SM), k2 t0 x1 X = some X0 → ∀ {H : Heap} {locs : List Loc}, va_P G.1 g_cl (wd G (cb X M) τ) H → va_S (g_A G) s.heap H locs → ∀ {ls : Array Slot}, lv_has ls 2 [(0, .ref (G.2.1 7 t0)), (1, .int x1)] → W p l e rm_X7_reset s m args below meth c H locs 0 0 (MQ below (va_Qv (fun u => u = (X0, M, τ)) (g_pw G) (g_A G)) args s 0 0 (g_A G)) (F0 m 2 ls [])) (t0 : Nat) (ht0 : t0 < 2) (x1 : Int32) (X : SM) (hf : wb_X7_reset_2 k2 t0 x1 X = some X0) {H : Heap} {locs : List Loc} (hP : va_P G.1 g_cl (wd G (cb X M) τ) H) (hS : va_S (g_A G) s.heap H locs) {ls : Array Slot} (hl : lv_has ls 2 [(0, .ref (G.2.1 7 t0)), (1, .int x1)]) : W p l e rm_X7_reset s m args below meth c H locs 0 0 (MQ below (va_Qv (fun u => u = (X0, M, τ)) (g_pw G) (g_A G)) args s 0 0 (g_A G)) (F0 m 2 ls []) := by
  obtain ⟨hx, hb, hr, hml, hown, hts, hlocks, hC⟩ := id C0
  unfold wb_X7_reset_2 at hf
  refine lv_iload_n hx hb dX7_reset_2 rfl (lv_at hl 1 rfl) ?_
  refine lv_bipush (v := 6) hx hb dX7_reset_3 (by decide) ?_
  refine lv_icmp_ge (tgt := 23) hx hb dX7_reset_5 (by decide) (fun hc_1 => ?_) (fun hc_1 => ?_)
  · have hf := g_pos hf hc_1
    refine lv_aload_n hx hb dX7_reset_23 rfl (lv_at hl 0 rfl) ?_
    refine gt_7_1 hx hb hts hown hC hP ht0 q3_14 dX7_reset_24 ?_
    obtain ⟨X_2, hc_3, hf⟩ := g_letE hf
    refine x_callv (v := (X_2, M, τ)) (va_runV (As := []) (rest := []) ⟨hx, hb, hml, hown, hts⟩ (ct_X8_reset l G X M τ t0 ht0 hc_3) (cwV 0 hts gd_X7_77 rfl rfl rfl hd_X8_reset ⟨Nat.le_of_ble_eq_true rfl, Nat.le_of_ble_eq_true rfl⟩) (x_preV (u := (X, M, τ)) (k := 8) (ci := 8) hC hS hP ht0 rfl rfl) rfl rfl hl.1 rfl (lv_room (Nat.le_of_ble_eq_true rfl)) dX7_reset_27 ⟨Nat.le_refl _, Nat.le_refl _⟩) hS (fun H locs hP hS => ?_)
    refine lv_aload_n hx hb dX7_reset_30 rfl (lv_at hl 0 rfl) ?_
    refine gt_7_2 hx hb hts hown hC hP ht0 q3_18 dX7_reset_31 ?_
    obtain ⟨X_4, hc_5, hf⟩ := g_letE hf
    refine x_callv (v := (X_4, M, τ)) (va_runV (As := []) (rest := []) ⟨hx, hb, hml, hown, hts⟩ (ct_X0_reset l G X_2 M τ t0 ht0 hc_5) (cwV 0 hts gd_X7_78 rfl rfl rfl hd_X0_reset ⟨Nat.le_of_ble_eq_true rfl, Nat.le_of_ble_eq_true rfl⟩) (x_preV (u := (X_2, M, τ)) (k := 0) (ci := 0) hC hS hP ht0 rfl rfl) rfl rfl hl.1 rfl (lv_room (Nat.le_of_ble_eq_true rfl)) dX7_reset_34 ⟨Nat.le_refl _, Nat.le_refl _⟩) hS (fun H locs hP hS => ?_)
    refine lv_aload_n hx hb dX7_reset_37 rfl (lv_at hl 0 rfl) ?_
    refine lv_iconst (v := 0) hx hb dX7_reset_38 (by decide) ?_
    obtain ⟨X_6, eX_6, hf⟩ := g_letE hf
    refine pt_7_5 hx hb hts hown hC hP hS ht0 q17_14 dX7_reset_39 (fun H locs hP hS => ?_)
    rw [eX_6] at hP
    refine lv_aload_n hx hb dX7_reset_42 rfl (lv_at hl 0 rfl) ?_
    refine lv_iconst (v := 0) hx hb dX7_reset_43 (by decide) ?_
    obtain ⟨X_7, eX_7, hf⟩ := g_letE hf
    refine pt_7_6 hx hb hts hown hC hP hS ht0 q17_15 dX7_reset_44 (fun H locs hP hS => ?_)
    rw [eX_7] at hP
    refine lv_aload_n hx hb dX7_reset_47 rfl (lv_at hl 0 rfl) ?_
    refine lv_iconst (v := 0) hx hb dX7_reset_48 (by decide) ?_
    obtain ⟨X_8, eX_8, hf⟩ := g_letE hf
    refine pt_7_7 hx hb hts hown hC hP hS ht0 q17_16 dX7_reset_49 (fun H locs hP hS => ?_)
    rw [eX_8] at hP
    refine lv_aload_n hx hb dX7_reset_52 rfl (lv_at hl 0 rfl) ?_
    refine lv_iconst (v := 0) hx hb dX7_reset_53 (by decide) ?_
    obtain ⟨X_9, eX_9, hf⟩ := g_letE hf
    refine pt_7_8 hx hb hts hown hC hP hS ht0 q17_17 dX7_reset_54 (fun H locs hP hS => ?_)
    rw [eX_9] at hP
    refine lv_aload_n hx hb dX7_reset_57 rfl (lv_at hl 0 rfl) ?_
    refine lv_iconst (v := 0) hx hb dX7_reset_58 (by decide) ?_
    obtain ⟨X_10, eX_10, hf⟩ := g_letE hf
    refine pt_7_9 hx hb hts hown hC hP hS ht0 q17_18 dX7_reset_59 (fun H locs hP hS => ?_)
    rw [eX_10] at hP
    refine lv_aload_n hx hb dX7_reset_62 rfl (lv_at hl 0 rfl) ?_
    refine lv_iconst (v := (-1)) hx hb dX7_reset_63 (by decide) ?_
    obtain ⟨X_11, eX_11, hf⟩ := g_letE hf
    refine pt_7_10 hx hb hts hown hC hP hS ht0 q3_19 dX7_reset_64 (fun H locs hP hS => ?_)
    rw [eX_11] at hP
    refine lv_aload_n hx hb dX7_reset_67 rfl (lv_at hl 0 rfl) ?_
    refine lv_iconst (v := 0) hx hb dX7_reset_68 (by decide) ?_
    obtain ⟨X_12, eX_12, hf⟩ := g_letE hf
    refine pt_7_11 hx hb hts hown hC hP hS ht0 q17_19 dX7_reset_69 (fun H locs hP hS => ?_)
    rw [eX_12] at hP
    cases hf
    exact x_vret hx hb hlocks hC hP hS hr dX7_reset_72
  · have hf := g_neg hf hc_1
    refine lv_aload_n hx hb dX7_reset_8 rfl (lv_at hl 0 rfl) ?_
    refine gt_7_0 hx hb hts hown hC hP ht0 q3_10 dX7_reset_9 ?_
    refine lv_iload_n hx hb dX7_reset_12 rfl (lv_at hl 1 rfl) ?_
    obtain ⟨hg_13, hf⟩ := g_gd hf
    have hq_14 : 6 * t0 + (x1.toNatClampNeg) < 12 := by have h8 := g_in_lt (n := 6) hg_13; have h9 : t0 < 2 := ht0; omega
    refine xaldS hx hb hC hP ht0 hg_13 dX7_reset_13 ?_
    obtain ⟨X_15, hc_16, hf⟩ := g_letE hf
    refine x_callv (v := (X_15, M, τ)) (va_runV (As := []) (rest := []) ⟨hx, hb, hml, hown, hts⟩ (ct_X9_reset l G X M τ (6 * t0 + (x1.toNatClampNeg)) hq_14 hc_16) (cwV 0 hts gd_X7_74 rfl rfl rfl hd_X9_reset ⟨Nat.le_of_ble_eq_true rfl, Nat.le_of_ble_eq_true rfl⟩) (x_preV (u := (X, M, τ)) (k := 9) (ci := 9) hC hS hP hq_14 rfl rfl) rfl rfl hl.1 rfl (lv_room (Nat.le_of_ble_eq_true rfl)) dX7_reset_14 ⟨Nat.le_refl _, Nat.le_refl _⟩) hS (fun H locs hP hS => ?_)
    obtain ⟨x1_17, ex1_17, hf⟩ := g_letE hf
    refine lv_iinc (v := x1_17) (lv' := [(1, .int x1_17), (0, .ref (G.2.1 7 t0))]) hx hb dX7_reset_17 hl (k := 1) rfl (by rw [← ex1_17]; rfl) (by decide) rfl (fun ls hl => ?_)
    refine lv_goto (tgt := 2) hx hb dX7_reset_20 (by decide) ?_
    exact hk2 t0 ht0 x1_17 X_15 hf hP hS (lv_sub hl [1, 0] rfl)
def wl_X7_reset_2 (n : Nat) (t0 : Nat) (x1 : Int32) (X : SM) : Option (SM) := g_loop (α := Nat × Int32 × SM) (fun k a => wb_X7_reset_2 (fun t0 x1 X => k (t0, x1, X)) a.1 a.2.1 a.2.2) n (t0, x1, X)
set_option maxRecDepth 100000 in
set_option maxHeartbeats 4000000 in
theorem lp_X7_reset_2 {p : Program} {l : Launch} {e : Env} {s : State} {m : MethodId} {args : Array Value} {below : List Frame} {meth : Method} {c : Code} {G : GP} {M : SM} {τ : SL} (C0 : g_mc p s m args meth c RX7 cX7_reset none 2 G) {X0 : SM} (n : Nat) : ∀ (t0 : Nat) (ht0 : t0 < 2) (x1 : Int32) (X : SM), wl_X7_reset_2 n t0 x1 X = some X0 → ∀ {H : Heap} {locs : List Loc}, va_P G.1 g_cl (wd G (cb X M) τ) H → va_S (g_A G) s.heap H locs → ∀ {ls : Array Slot}, lv_has ls 2 [(0, .ref (G.2.1 7 t0)), (1, .int x1)] → W p l e rm_X7_reset s m args below meth c H locs 0 0 (MQ below (va_Qv (fun u => u = (X0, M, τ)) (g_pw G) (g_A G)) args s 0 0 (g_A G)) (F0 m 2 ls []) := by
  induction n with
  | zero =>
    intro t0 ht0 x1 X hf
    have hf : (none : Option (SM)) = _ := hf
    cases hf
  | succ n ih =>
    intro t0 ht0 x1 X hf H locs hP hS ls hl
    exact bk_X7_reset_2 C0  (fun t0 x1 X => wl_X7_reset_2  n t0 x1 X) ih t0 ht0 x1 X hf hP hS hl
def fn_X7_reset (t0 : Nat) (X : SM) : Option (SM) :=
  wl_X7_reset_2 1000 t0 0 X
set_option maxRecDepth 100000 in
set_option maxHeartbeats 4000000 in
theorem wk_X7_reset {p : Program} {l : Launch} {e : Env} {s : State} {m : MethodId} {args : Array Value} {below : List Frame} {meth : Method} {c : Code} {G : GP} {M : SM} {τ : SL} (C0 : g_mc p s m args meth c RX7 cX7_reset none 2 G) {X0 : SM} (t0 : Nat) (ht0 : t0 < 2) (X : SM) (hf : fn_X7_reset t0 X = some X0) {H : Heap} {locs : List Loc} (hP : va_P G.1 g_cl (wd G (cb X M) τ) H) (hS : va_S (g_A G) s.heap H locs) {ls : Array Slot} (hl : lv_has ls 2 [(0, .ref (G.2.1 7 t0))]) : W p l e rm_X7_reset s m args below meth c H locs 0 0 (MQ below (va_Qv (fun u => u = (X0, M, τ)) (g_pw G) (g_A G)) args s 0 0 (g_A G)) (F0 m 0 ls []) := by
  obtain ⟨hx, hb, hr, hml, hown, hts, hlocks, hC⟩ := id C0
  unfold fn_X7_reset at hf
  refine lv_iconst (v := 0) hx hb dX7_reset_0 (by decide) ?_
  refine lv_istore_n (lv' := [(1, .int 0), (0, .ref (G.2.1 7 t0))]) hx hb dX7_reset_1 rfl hl (by decide) rfl (fun ls hl => ?_)
  exact lp_X7_reset_2 C0 1000 t0 ht0 0 X hf hP hS (lv_sub hl [1, 0] rfl)
set_option maxRecDepth 100000 in
set_option maxHeartbeats 4000000 in
theorem ct_X7_reset (l : Launch) (G : GP) (X M : SM) (τ : SL) (t0 : Nat) (ht0 : t0 < 2) {X0 : SM} (hf : fn_X7_reset t0 X = some X0) : Met l yX7_reset (wz yX7_reset cX7_reset 2 none) rm_X7_reset (va_Pc [.ref (G.2.1 7 t0)] (g_pw G (X, M, τ))) (va_Qv (fun u => u = (X0, M, τ)) (g_pw G) (g_A G)) 0 0 (g_A G) := by
  refine Met.ofW (cc := cX7_reset) (maxL := 2) (ret := none) (by decide) rfl ?_
  intro p e s m args below meth c s₁ B hml hv
  obtain ⟨rfl, hC, hP⟩ := hv
  have C0 : g_mc p s m _ meth c RX7 cX7_reset none 2 G := ⟨B.exec, B.bytes, B.returns, hml, findClass_of_methodNamed B.named, fun w h => atoms_spec (ws := wz yX7_reset cX7_reset 2 none) B.pre w (List.mem_cons_of_mem _ h), B.notSynchronized, hC⟩
  have hl := lv_entry ([.ref (G.2.1 7 t0)]) (n := 2) (Nat.le_of_ble_eq_true rfl)
  rw [lg_entry_eq]
  generalize (lg_sl ([.ref (G.2.1 7 t0)]) ++ List.replicate (2 - (lg_sl ([.ref (G.2.1 7 t0)])).length) Slot.unset).toArray = ls at hl ⊢
  exact wk_X7_reset C0 t0 ht0 X hf hP va_S.rf hl
abbrev rm_X11_start : Room := { frames := 4, cells := 0, slots := 0, locals := 84 }
def fn_X11_start (X : SM) : Option (Int32 × SM) :=
  g_let ((X 7 0 5)) fun x1_1 =>
  (fn_X7_reset 0 X).bind fun X_2 =>
  some (x1_1, X_2)
set_option maxRecDepth 100000 in
set_option maxHeartbeats 4000000 in
theorem wk_X11_start {p : Program} {l : Launch} {e : Env} {s : State} {m : MethodId} {args : Array Value} {below : List Frame} {meth : Method} {c : Code} {G : GP} {M : SM} {τ : SL} (C0 : g_mc p s m args meth c RX11 cX11_start (some .int) 2 G) {r0 : Int32} {X0 : SM} (X : SM) (hf : fn_X11_start X = some (r0, X0)) {H : Heap} {locs : List Loc} (hP : va_P G.1 g_cl (wd G (cb X M) τ) H) (hS : va_S (g_A G) s.heap H locs) {ls : Array Slot} (hl : lv_has ls 2 [(0, .ref (G.2.1 11 0))]) : W p l e rm_X11_start s m args below meth c H locs 0 0 (MQ below (va_Qi (fun r u => r = r0 ∧ u = (X0, M, τ)) (g_pw G) (g_A G)) args s 0 0 (g_A G)) (F0 m 0 ls []) := by
  obtain ⟨hx, hb, hr, hml, hown, hts, hlocks, hC⟩ := id C0
  unfold fn_X11_start at hf
  refine lv_aload_n hx hb dX11_start_0 rfl (lv_at hl 0 rfl) ?_
  refine gt_11_2 hx hb hts hown hC hP Nat.zero_lt_one q2_0 dX11_start_1 ?_
  refine gt_7_5 hx hb hts hown hC hP (by decide) q12_12 dX11_start_4 ?_
  obtain ⟨x1_1, ex1_1, hf⟩ := g_letE hf
  refine lv_topE ex1_1 ?_
  refine lv_istore_n (lv' := [(1, .int x1_1), (0, .ref (G.2.1 11 0))]) hx hb dX11_start_7 rfl hl (by decide) rfl (fun ls hl => ?_)
  refine lv_aload_n hx hb dX11_start_8 rfl (lv_at hl 1 rfl) ?_
  refine gt_11_2 hx hb hts hown hC hP Nat.zero_lt_one q2_0 dX11_start_9 ?_
  obtain ⟨X_2, hc_3, hf⟩ := g_bindE hf
  refine x_callv (v := (X_2, M, τ)) (va_runV (As := []) (rest := []) ⟨hx, hb, hml, hown, hts⟩ (ct_X7_reset l G X M τ 0 (by decide) hc_3) (cwV 0 hts gd_X11_134 rfl rfl rfl hd_X7_reset ⟨Nat.le_of_ble_eq_true rfl, Nat.le_of_ble_eq_true rfl⟩) (x_preV (u := (X, M, τ)) (k := 7) (ci := 7) hC hS hP (by decide) rfl rfl) rfl rfl hl.1 rfl (lv_room (Nat.le_of_ble_eq_true rfl)) dX11_start_12 ⟨Nat.le_refl _, Nat.le_refl _⟩) hS (fun H locs hP hS => ?_)
  refine lv_iload_n hx hb dX11_start_15 rfl (lv_at hl 0 rfl) ?_
  cases hf
  exact x_iret hx hb hlocks hC hP hS hr dX11_start_16
set_option maxRecDepth 100000 in
set_option maxHeartbeats 4000000 in
theorem ct_X11_start (l : Launch) (G : GP) (X M : SM) (τ : SL) {r0 : Int32} {X0 : SM} (hf : fn_X11_start X = some (r0, X0)) : Met l yX11_start (wz yX11_start cX11_start 2 (some .int)) rm_X11_start (va_Pc [.ref (G.2.1 11 0)] (g_pw G (X, M, τ))) (va_Qi (fun r u => r = r0 ∧ u = (X0, M, τ)) (g_pw G) (g_A G)) 0 0 (g_A G) := by
  refine Met.ofW (cc := cX11_start) (maxL := 2) (ret := (some .int)) (by decide) rfl ?_
  intro p e s m args below meth c s₁ B hml hv
  obtain ⟨rfl, hC, hP⟩ := hv
  have C0 : g_mc p s m _ meth c RX11 cX11_start (some .int) 2 G := ⟨B.exec, B.bytes, B.returns, hml, findClass_of_methodNamed B.named, fun w h => atoms_spec (ws := wz yX11_start cX11_start 2 (some .int)) B.pre w (List.mem_cons_of_mem _ h), B.notSynchronized, hC⟩
  have hl := lv_entry ([.ref (G.2.1 11 0)]) (n := 2) (Nat.le_of_ble_eq_true rfl)
  rw [lg_entry_eq]
  generalize (lg_sl ([.ref (G.2.1 11 0)]) ++ List.replicate (2 - (lg_sl ([.ref (G.2.1 11 0)])).length) Slot.unset).toArray = ls at hl ⊢
  exact wk_X11_start C0 X hf hP va_S.rf hl
abbrev rm_X11_table : Room := { frames := 1, cells := 0, slots := 0, locals := 21 }
def fn_X11_table (x1 : Int32) (X : SM) : Option (Int32) :=
  g_let (fn_X10_has x1 X) fun r_1 =>
  if r_1 = 0 then
  (some (-2))
  else
  (if g_in x1 16 then
    some (X 34 0 (x1.toNatClampNeg))
    else none)
set_option maxRecDepth 100000 in
set_option maxHeartbeats 4000000 in
theorem wk_X11_table {p : Program} {l : Launch} {e : Env} {s : State} {m : MethodId} {args : Array Value} {below : List Frame} {meth : Method} {c : Code} {G : GP} {M : SM} {τ : SL} (C0 : g_mc p s m args meth c RX11 cX11_table (some .int) 2 G) {r0 : Int32} (x1 : Int32) (X : SM) (hf : fn_X11_table x1 X = some r0) {H : Heap} {locs : List Loc} (hP : va_P G.1 g_cl (wd G (cb X M) τ) H) (hS : va_S (g_A G) s.heap H locs) {ls : Array Slot} (hl : lv_has ls 2 [(0, .ref (G.2.1 11 0)), (1, .int x1)]) : W p l e rm_X11_table s m args below meth c H locs 0 0 (MQ below (va_Qi (fun r u => r = r0 ∧ u = (X, M, τ)) (g_pw G) (g_A G)) args s 0 0 (g_A G)) (F0 m 0 ls []) := by
  obtain ⟨hx, hb, hr, hml, hown, hts, hlocks, hC⟩ := id C0
  unfold fn_X11_table at hf
  refine lv_aload_n hx hb dX11_table_0 rfl (lv_at hl 0 rfl) ?_
  refine gt_11_0 hx hb hts hown hC hP Nat.zero_lt_one q1_16 dX11_table_1 ?_
  refine lv_iload_n hx hb dX11_table_4 rfl (lv_at hl 1 rfl) ?_
  obtain ⟨r_1, hc_2, hf⟩ := g_letE hf
  refine x_calli (v := (X, M, τ)) (va_runV (As := [.int x1]) (rest := []) ⟨hx, hb, hml, hown, hts⟩ (ct_X10_has l G X M τ x1 hc_2) (cwV 1 hts gd_X11_124 rfl rfl rfl hd_X10_has ⟨Nat.le_of_ble_eq_true rfl, Nat.le_of_ble_eq_true rfl⟩) (x_preV (u := (X, M, τ)) (k := 10) (ci := 10) hC hS hP Nat.zero_lt_one rfl rfl) rfl rfl hl.1 rfl (lv_room (Nat.le_of_ble_eq_true rfl)) dX11_table_5 ⟨Nat.le_refl _, Nat.le_refl _⟩) hS (fun H locs hP hS => ?_)
  refine lv_if_eq (tgt := 23) hx hb dX11_table_8 (by decide) (fun hc_3 => ?_) (fun hc_3 => ?_)
  · have hf := g_pos hf hc_3
    refine lv_bipush (v := (-2)) hx hb dX11_table_23 (by decide) ?_
    cases hf
    exact x_iret hx hb hlocks hC hP hS hr dX11_table_25
  · have hf := g_neg hf hc_3
    refine lv_aload_n hx hb dX11_table_11 rfl (lv_at hl 0 rfl) ?_
    refine gt_11_0 hx hb hts hown hC hP Nat.zero_lt_one q1_16 dX11_table_12 ?_
    refine gt_10_0 hx hb hts hown hC hP Nat.zero_lt_one q13_21 dX11_table_15 ?_
    refine lv_iload_n hx hb dX11_table_18 rfl (lv_at hl 1 rfl) ?_
    obtain ⟨hg_4, hf⟩ := g_gd hf
    refine xildX (k := 34) (n := 16) hx hb hC hP (fun _ _ => rfl) rfl Nat.zero_lt_one hg_4 dX11_table_19 ?_
    refine lv_goto (tgt := 25) hx hb dX11_table_20 (by decide) ?_
    cases hf
    exact x_iret hx hb hlocks hC hP hS hr dX11_table_25
set_option maxRecDepth 100000 in
set_option maxHeartbeats 4000000 in
theorem ct_X11_table (l : Launch) (G : GP) (X M : SM) (τ : SL) (x1 : Int32) {r0 : Int32} (hf : fn_X11_table x1 X = some r0) : Met l yX11_table (wz yX11_table cX11_table 2 (some .int)) rm_X11_table (va_Pc [.ref (G.2.1 11 0), .int x1] (g_pw G (X, M, τ))) (va_Qi (fun r u => r = r0 ∧ u = (X, M, τ)) (g_pw G) (g_A G)) 0 0 (g_A G) := by
  refine Met.ofW (cc := cX11_table) (maxL := 2) (ret := (some .int)) (by decide) rfl ?_
  intro p e s m args below meth c s₁ B hml hv
  obtain ⟨rfl, hC, hP⟩ := hv
  have C0 : g_mc p s m _ meth c RX11 cX11_table (some .int) 2 G := ⟨B.exec, B.bytes, B.returns, hml, findClass_of_methodNamed B.named, fun w h => atoms_spec (ws := wz yX11_table cX11_table 2 (some .int)) B.pre w (List.mem_cons_of_mem _ h), B.notSynchronized, hC⟩
  have hl := lv_entry ([.ref (G.2.1 11 0), .int x1]) (n := 2) (Nat.le_of_ble_eq_true rfl)
  rw [lg_entry_eq]
  generalize (lg_sl ([.ref (G.2.1 11 0), .int x1]) ++ List.replicate (2 - (lg_sl ([.ref (G.2.1 11 0), .int x1])).length) Slot.unset).toArray = ls at hl ⊢
  exact wk_X11_table C0 x1 X hf hP va_S.rf hl
abbrev rm_X1_upTo : Room := { frames := 0, cells := 0, slots := 0, locals := 0 }
def fn_X1_upTo (x0 : Int32) (x1 : Int32) : Int32 :=
  if x1 < 0 then
  (1)
  else
  (if x0 < 0 then
    (0)
    else
    (if x1 < x0 then
      (0)
      else
      (1)))
set_option maxRecDepth 100000 in
set_option maxHeartbeats 4000000 in
theorem wk_X1_upTo {p : Program} {l : Launch} {e : Env} {s : State} {m : MethodId} {args : Array Value} {below : List Frame} {meth : Method} {c : Code} {G : GP} {X : SM} {M : SM} {τ : SL} (C0 : g_mc p s m args meth c RX1 cX1_upTo (some .boolean) 2 G) {r0 : Int32} (x0 : Int32) (x1 : Int32) (hf : fn_X1_upTo x0 x1 = r0) {H : Heap} {locs : List Loc} (hP : va_P G.1 g_cl (wd G (cb X M) τ) H) (hS : va_S (g_A G) s.heap H locs) {ls : Array Slot} (hl : lv_has ls 2 [(0, .int x0), (1, .int x1)]) : W p l e rm_X1_upTo s m args below meth c H locs 0 0 (MQ below (va_Qi (fun r u => r = r0 ∧ u = (X, M, τ)) (g_pw G) (g_A G)) args s 0 0 (g_A G)) (F0 m 0 ls []) := by
  obtain ⟨hx, hb, hr, hml, hown, hts, hlocks, hC⟩ := id C0
  unfold fn_X1_upTo at hf
  refine lv_iload_n hx hb dX1_upTo_0 rfl (lv_at hl 1 rfl) ?_
  refine lv_if_lt (tgt := 13) hx hb dX1_upTo_1 (by decide) (fun hc_1 => ?_) (fun hc_1 => ?_)
  · have hf := g_pos hf hc_1
    refine lv_iconst (v := 1) hx hb dX1_upTo_13 (by decide) ?_
    refine lv_goto (tgt := 18) hx hb dX1_upTo_14 (by decide) ?_
    cases hf
    exact x_zret hx hb hlocks hC hP hS hr (Or.inr rfl) dX1_upTo_18
  · have hf := g_neg hf hc_1
    refine lv_iload_n hx hb dX1_upTo_4 rfl (lv_at hl 0 rfl) ?_
    refine lv_if_lt (tgt := 17) hx hb dX1_upTo_5 (by decide) (fun hc_2 => ?_) (fun hc_2 => ?_)
    · have hf := g_pos hf hc_2
      refine lv_iconst (v := 0) hx hb dX1_upTo_17 (by decide) ?_
      cases hf
      exact x_zret hx hb hlocks hC hP hS hr (Or.inl rfl) dX1_upTo_18
    · have hf := g_neg hf hc_2
      refine lv_iload_n hx hb dX1_upTo_8 rfl (lv_at hl 0 rfl) ?_
      refine lv_iload_n hx hb dX1_upTo_9 rfl (lv_at hl 1 rfl) ?_
      refine lv_icmp_gt (tgt := 17) hx hb dX1_upTo_10 (by decide) (fun hc_3 => ?_) (fun hc_3 => ?_)
      · have hf := g_pos hf hc_3
        refine lv_iconst (v := 0) hx hb dX1_upTo_17 (by decide) ?_
        cases hf
        exact x_zret hx hb hlocks hC hP hS hr (Or.inl rfl) dX1_upTo_18
      · have hf := g_neg hf hc_3
        refine lv_iconst (v := 1) hx hb dX1_upTo_13 (by decide) ?_
        refine lv_goto (tgt := 18) hx hb dX1_upTo_14 (by decide) ?_
        cases hf
        exact x_zret hx hb hlocks hC hP hS hr (Or.inr rfl) dX1_upTo_18
set_option maxRecDepth 100000 in
set_option maxHeartbeats 4000000 in
theorem ct_X1_upTo (l : Launch) (G : GP) (X M : SM) (τ : SL) (x0 : Int32) (x1 : Int32) {r0 : Int32} (hf : fn_X1_upTo x0 x1 = r0) : Met l yX1_upTo (wz yX1_upTo cX1_upTo 2 (some .boolean)) rm_X1_upTo (va_Pc [.int x0, .int x1] (g_pw G (X, M, τ))) (va_Qi (fun r u => r = r0 ∧ u = (X, M, τ)) (g_pw G) (g_A G)) 0 0 (g_A G) := by
  refine Met.ofW (cc := cX1_upTo) (maxL := 2) (ret := (some .boolean)) (by decide) rfl ?_
  intro p e s m args below meth c s₁ B hml hv
  obtain ⟨rfl, hC, hP⟩ := hv
  have C0 : g_mc p s m _ meth c RX1 cX1_upTo (some .boolean) 2 G := ⟨B.exec, B.bytes, B.returns, hml, findClass_of_methodNamed B.named, fun w h => atoms_spec (ws := wz yX1_upTo cX1_upTo 2 (some .boolean)) B.pre w (List.mem_cons_of_mem _ h), B.notSynchronized, hC⟩
  have hl := lv_entry ([.int x0, .int x1]) (n := 2) (Nat.le_of_ble_eq_true rfl)
  rw [lg_entry_eq]
  generalize (lg_sl ([.int x0, .int x1]) ++ List.replicate (2 - (lg_sl ([.int x0, .int x1])).length) Slot.unset).toArray = ls at hl ⊢
  exact wk_X1_upTo C0 x0 x1 hf hP va_S.rf hl
abbrev rm_X1_suits : Room := { frames := 1, cells := 0, slots := 0, locals := 21 }
def fn_X1_suits (t0 : Nat) (x1 : Int32) (x2 : Int32) (x3 : Int32) (x4 : Int32) (X : SM) : Option (Int32) :=
  if x1 < 0 then
  (some 0)
  else
  (if x1 < 21 then
    (g_let ((3 * x1)) fun x5_3 =>
      if g_in x5_3 63 then
      g_let (fn_X1_upTo x2 (g_tab (x5_3.toNatClampNeg))) fun r_5 =>
      if r_5 = 0 then
      (some 0)
      else
      (if g_in (x5_3 + 1) 63 then
        g_let (fn_X1_upTo x3 (g_tab ((x5_3 + 1).toNatClampNeg))) fun r_9 =>
        if r_9 = 0 then
        (some 0)
        else
        (if g_in (x5_3 + 2) 63 then
          g_let (fn_X1_upTo x4 (g_tab ((x5_3 + 2).toNatClampNeg))) fun r_13 =>
          if r_13 = 0 then
          (some 0)
          else
          (if x1 = 9 then
            (if (X 1 t0 4) < x3 then
              (some 0)
              else
              (some 1))
            else
            (some 1))
          else none)
        else none)
      else none)
    else
    (some 0))
set_option maxRecDepth 100000 in
set_option maxHeartbeats 4000000 in
theorem wk_X1_suits {p : Program} {l : Launch} {e : Env} {s : State} {m : MethodId} {args : Array Value} {below : List Frame} {meth : Method} {c : Code} {G : GP} {M : SM} {τ : SL} (C0 : g_mc p s m args meth c RX1 cX1_suits (some .boolean) 6 G) {r0 : Int32} (t0 : Nat) (ht0 : t0 < 12) (x1 : Int32) (x2 : Int32) (x3 : Int32) (x4 : Int32) (X : SM) (hf : fn_X1_suits t0 x1 x2 x3 x4 X = some r0) {H : Heap} {locs : List Loc} (hP : va_P G.1 g_cl (wd G (cb X M) τ) H) (hS : va_S (g_A G) s.heap H locs) {ls : Array Slot} (hl : lv_has ls 6 [(0, .ref (G.2.1 1 t0)), (1, .int x1), (2, .int x2), (3, .int x3), (4, .int x4)]) : W p l e rm_X1_suits s m args below meth c H locs 0 0 (MQ below (va_Qi (fun r u => r = r0 ∧ u = (X, M, τ)) (g_pw G) (g_A G)) args s 0 0 (g_A G)) (F0 m 0 ls []) := by
  obtain ⟨hx, hb, hr, hml, hown, hts, hlocks, hC⟩ := id C0
  unfold fn_X1_suits at hf
  refine lv_iload_n hx hb dX1_suits_0 rfl (lv_at hl 1 rfl) ?_
  refine lv_if_lt (tgt := 10) hx hb dX1_suits_1 (by decide) (fun hc_1 => ?_) (fun hc_1 => ?_)
  · have hf := g_pos hf hc_1
    refine lv_iconst (v := 0) hx hb dX1_suits_10 (by decide) ?_
    cases hf
    exact x_zret hx hb hlocks hC hP hS hr (Or.inl rfl) dX1_suits_11
  · have hf := g_neg hf hc_1
    refine lv_iload_n hx hb dX1_suits_4 rfl (lv_at hl 1 rfl) ?_
    refine lv_bipush (v := 21) hx hb dX1_suits_5 (by decide) ?_
    refine lv_icmp_lt (tgt := 12) hx hb dX1_suits_7 (by decide) (fun hc_2 => ?_) (fun hc_2 => ?_)
    · have hf := g_pos hf hc_2
      refine lv_iconst (v := 3) hx hb dX1_suits_12 (by decide) ?_
      refine lv_iload_n hx hb dX1_suits_13 rfl (lv_at hl 1 rfl) ?_
      refine lv_imul hx hb dX1_suits_14 ?_
      obtain ⟨x5_3, ex5_3, hf⟩ := g_letE hf
      refine lv_topE ex5_3 ?_
      refine lv_istore (lv' := [(5, .int x5_3), (0, .ref (G.2.1 1 t0)), (1, .int x1), (2, .int x2), (3, .int x3), (4, .int x4)]) hx hb dX1_suits_15 hl (by decide) rfl (fun ls hl => ?_)
      refine lv_iload_n hx hb dX1_suits_17 rfl (lv_at hl 3 rfl) ?_
      refine va_getsN (A := g_A G) hx hb hC.2.2.1.1 hS hown (va_Nw.use rfl hC.2.1.2.2.2.2.2.2) (fun _ h => h) dX1_suits_18 ?_
      refine lv_iload hx hb dX1_suits_21 (lv_at hl 0 rfl) ?_
      obtain ⟨hg_4, hf⟩ := g_gd hf
      refine va_sld (A := g_A G) hx hb hC.2.2.1.2.1 hC.2.2.1.2.2.1 hC.2.2.1.2.2.2.1 hS hg_4 dX1_suits_23 ?_
      obtain ⟨r_5, hc_6, hf⟩ := g_letE hf
      refine x_calli (v := (X, M, τ)) (va_runS (As := [.int x2, .int (g_tab (x5_3.toNatClampNeg))]) (rest := []) ⟨hx, hb, hml, hown, hts⟩ (ct_X1_upTo l G X M τ x2 (g_tab (x5_3.toNatClampNeg)) hc_6) (cwS 2 hts gd_X1_31 rfl rfl rfl hd_X1_upTo ⟨Nat.le_of_ble_eq_true rfl, Nat.le_of_ble_eq_true rfl⟩) (x_pre (u := (X, M, τ)) hC hS hP) rfl rfl hl.1 rfl (lv_room (Nat.le_of_ble_eq_true rfl)) dX1_suits_24 ⟨Nat.le_refl _, Nat.le_refl _⟩) hS (fun H locs hP hS => ?_)
      refine lv_if_eq (tgt := 79) hx hb dX1_suits_27 (by decide) (fun hc_7 => ?_) (fun hc_7 => ?_)
      · have hf := g_pos hf hc_7
        refine lv_iconst (v := 0) hx hb dX1_suits_79 (by decide) ?_
        cases hf
        exact x_zret hx hb hlocks hC hP hS hr (Or.inl rfl) dX1_suits_80
      · have hf := g_neg hf hc_7
        refine lv_iload_n hx hb dX1_suits_30 rfl (lv_at hl 4 rfl) ?_
        refine va_getsN (A := g_A G) hx hb hC.2.2.1.1 hS hown (va_Nw.use rfl hC.2.1.2.2.2.2.2.2) (fun _ h => h) dX1_suits_31 ?_
        refine lv_iload hx hb dX1_suits_34 (lv_at hl 0 rfl) ?_
        refine lv_iconst (v := 1) hx hb dX1_suits_36 (by decide) ?_
        refine lv_iadd hx hb dX1_suits_37 ?_
        obtain ⟨hg_8, hf⟩ := g_gd hf
        refine va_sld (A := g_A G) hx hb hC.2.2.1.2.1 hC.2.2.1.2.2.1 hC.2.2.1.2.2.2.1 hS hg_8 dX1_suits_38 ?_
        obtain ⟨r_9, hc_10, hf⟩ := g_letE hf
        refine x_calli (v := (X, M, τ)) (va_runS (As := [.int x3, .int (g_tab ((x5_3 + 1).toNatClampNeg))]) (rest := []) ⟨hx, hb, hml, hown, hts⟩ (ct_X1_upTo l G X M τ x3 (g_tab ((x5_3 + 1).toNatClampNeg)) hc_10) (cwS 2 hts gd_X1_31 rfl rfl rfl hd_X1_upTo ⟨Nat.le_of_ble_eq_true rfl, Nat.le_of_ble_eq_true rfl⟩) (x_pre (u := (X, M, τ)) hC hS hP) rfl rfl hl.1 rfl (lv_room (Nat.le_of_ble_eq_true rfl)) dX1_suits_39 ⟨Nat.le_refl _, Nat.le_refl _⟩) hS (fun H locs hP hS => ?_)
        refine lv_if_eq (tgt := 79) hx hb dX1_suits_42 (by decide) (fun hc_11 => ?_) (fun hc_11 => ?_)
        · have hf := g_pos hf hc_11
          refine lv_iconst (v := 0) hx hb dX1_suits_79 (by decide) ?_
          cases hf
          exact x_zret hx hb hlocks hC hP hS hr (Or.inl rfl) dX1_suits_80
        · have hf := g_neg hf hc_11
          refine lv_iload hx hb dX1_suits_45 (lv_at hl 5 rfl) ?_
          refine va_getsN (A := g_A G) hx hb hC.2.2.1.1 hS hown (va_Nw.use rfl hC.2.1.2.2.2.2.2.2) (fun _ h => h) dX1_suits_47 ?_
          refine lv_iload hx hb dX1_suits_50 (lv_at hl 0 rfl) ?_
          refine lv_iconst (v := 2) hx hb dX1_suits_52 (by decide) ?_
          refine lv_iadd hx hb dX1_suits_53 ?_
          obtain ⟨hg_12, hf⟩ := g_gd hf
          refine va_sld (A := g_A G) hx hb hC.2.2.1.2.1 hC.2.2.1.2.2.1 hC.2.2.1.2.2.2.1 hS hg_12 dX1_suits_54 ?_
          obtain ⟨r_13, hc_14, hf⟩ := g_letE hf
          refine x_calli (v := (X, M, τ)) (va_runS (As := [.int x4, .int (g_tab ((x5_3 + 2).toNatClampNeg))]) (rest := []) ⟨hx, hb, hml, hown, hts⟩ (ct_X1_upTo l G X M τ x4 (g_tab ((x5_3 + 2).toNatClampNeg)) hc_14) (cwS 2 hts gd_X1_31 rfl rfl rfl hd_X1_upTo ⟨Nat.le_of_ble_eq_true rfl, Nat.le_of_ble_eq_true rfl⟩) (x_pre (u := (X, M, τ)) hC hS hP) rfl rfl hl.1 rfl (lv_room (Nat.le_of_ble_eq_true rfl)) dX1_suits_55 ⟨Nat.le_refl _, Nat.le_refl _⟩) hS (fun H locs hP hS => ?_)
          refine lv_if_eq (tgt := 79) hx hb dX1_suits_58 (by decide) (fun hc_15 => ?_) (fun hc_15 => ?_)
          · have hf := g_pos hf hc_15
            refine lv_iconst (v := 0) hx hb dX1_suits_79 (by decide) ?_
            cases hf
            exact x_zret hx hb hlocks hC hP hS hr (Or.inl rfl) dX1_suits_80
          · have hf := g_neg hf hc_15
            refine lv_iload_n hx hb dX1_suits_61 rfl (lv_at hl 2 rfl) ?_
            refine lv_bipush (v := 9) hx hb dX1_suits_62 (by decide) ?_
            refine lv_icmp_ne (tgt := 75) hx hb dX1_suits_64 (by decide) (fun hc_16 => ?_) (fun hc_16 => ?_)
            · have hf := g_neg hf hc_16
              refine lv_iconst (v := 1) hx hb dX1_suits_75 (by decide) ?_
              refine lv_goto (tgt := 80) hx hb dX1_suits_76 (by decide) ?_
              cases hf
              exact x_zret hx hb hlocks hC hP hS hr (Or.inr rfl) dX1_suits_80
            · have hf := g_pos hf hc_16
              refine lv_iload_n hx hb dX1_suits_67 rfl (lv_at hl 4 rfl) ?_
              refine lv_aload_n hx hb dX1_suits_68 rfl (lv_at hl 1 rfl) ?_
              refine gt_1_4 hx hb hts hown hC hP ht0 q8_6 dX1_suits_69 ?_
              refine lv_icmp_gt (tgt := 79) hx hb dX1_suits_72 (by decide) (fun hc_17 => ?_) (fun hc_17 => ?_)
              · have hf := g_pos hf hc_17
                refine lv_iconst (v := 0) hx hb dX1_suits_79 (by decide) ?_
                cases hf
                exact x_zret hx hb hlocks hC hP hS hr (Or.inl rfl) dX1_suits_80
              · have hf := g_neg hf hc_17
                refine lv_iconst (v := 1) hx hb dX1_suits_75 (by decide) ?_
                refine lv_goto (tgt := 80) hx hb dX1_suits_76 (by decide) ?_
                cases hf
                exact x_zret hx hb hlocks hC hP hS hr (Or.inr rfl) dX1_suits_80
    · have hf := g_neg hf hc_2
      refine lv_iconst (v := 0) hx hb dX1_suits_10 (by decide) ?_
      cases hf
      exact x_zret hx hb hlocks hC hP hS hr (Or.inl rfl) dX1_suits_11
set_option maxRecDepth 100000 in
set_option maxHeartbeats 4000000 in
theorem ct_X1_suits (l : Launch) (G : GP) (X M : SM) (τ : SL) (t0 : Nat) (ht0 : t0 < 12) (x1 : Int32) (x2 : Int32) (x3 : Int32) (x4 : Int32) {r0 : Int32} (hf : fn_X1_suits t0 x1 x2 x3 x4 X = some r0) : Met l yX1_suits (wz yX1_suits cX1_suits 6 (some .boolean)) rm_X1_suits (va_Pc [.ref (G.2.1 1 t0), .int x1, .int x2, .int x3, .int x4] (g_pw G (X, M, τ))) (va_Qi (fun r u => r = r0 ∧ u = (X, M, τ)) (g_pw G) (g_A G)) 0 0 (g_A G) := by
  refine Met.ofW (cc := cX1_suits) (maxL := 6) (ret := (some .boolean)) (by decide) rfl ?_
  intro p e s m args below meth c s₁ B hml hv
  obtain ⟨rfl, hC, hP⟩ := hv
  have C0 : g_mc p s m _ meth c RX1 cX1_suits (some .boolean) 6 G := ⟨B.exec, B.bytes, B.returns, hml, findClass_of_methodNamed B.named, fun w h => atoms_spec (ws := wz yX1_suits cX1_suits 6 (some .boolean)) B.pre w (List.mem_cons_of_mem _ h), B.notSynchronized, hC⟩
  have hl := lv_entry ([.ref (G.2.1 1 t0), .int x1, .int x2, .int x3, .int x4]) (n := 6) (Nat.le_of_ble_eq_true rfl)
  rw [lg_entry_eq]
  generalize (lg_sl ([.ref (G.2.1 1 t0), .int x1, .int x2, .int x3, .int x4]) ++ List.replicate (6 - (lg_sl ([.ref (G.2.1 1 t0), .int x1, .int x2, .int x3, .int x4])).length) Slot.unset).toArray = ls at hl ⊢
  exact wk_X1_suits C0 t0 ht0 x1 x2 x3 x4 X hf hP va_S.rf hl
abbrev rm_X1_append : Room := { frames := 0, cells := 0, slots := 0, locals := 0 }
def fn_X1_append (t0 : Nat) (x1 : Int32) (x2 : Int32) (x3 : Int32) (x4 : Int32) (X : SM) : Option (Int32 × SM) :=
  g_let ((X 1 t0 4)) fun x5_1 =>
  if x5_1 < 0 then
  (some ((-1), X))
  else
  (if x5_1 < 24 then
    (if g_in x5_1 24 then
      g_let (u1 X 16 t0 (x5_1.toNatClampNeg) x1) fun X_5 =>
      if g_in x5_1 24 then
      g_let (u1 X_5 17 t0 (x5_1.toNatClampNeg) x2) fun X_7 =>
      if g_in x5_1 24 then
      g_let (u1 X_7 18 t0 (x5_1.toNatClampNeg) x3) fun X_9 =>
      if g_in x5_1 24 then
      g_let (u1 X_9 19 t0 (x5_1.toNatClampNeg) x4) fun X_11 =>
      g_let (u1 X_11 1 t0 4 ((X_11 1 t0 4) + 1)) fun X_12 =>
      some (x5_1, X_12)
      else none
      else none
      else none
      else none)
    else
    (some ((-1), X)))
set_option maxRecDepth 100000 in
set_option maxHeartbeats 4000000 in
theorem wk_X1_append {p : Program} {l : Launch} {e : Env} {s : State} {m : MethodId} {args : Array Value} {below : List Frame} {meth : Method} {c : Code} {G : GP} {M : SM} {τ : SL} (C0 : g_mc p s m args meth c RX1 cX1_append (some .int) 6 G) {r0 : Int32} {X0 : SM} (t0 : Nat) (ht0 : t0 < 12) (x1 : Int32) (x2 : Int32) (x3 : Int32) (x4 : Int32) (X : SM) (hf : fn_X1_append t0 x1 x2 x3 x4 X = some (r0, X0)) {H : Heap} {locs : List Loc} (hP : va_P G.1 g_cl (wd G (cb X M) τ) H) (hS : va_S (g_A G) s.heap H locs) {ls : Array Slot} (hl : lv_has ls 6 [(0, .ref (G.2.1 1 t0)), (1, .int x1), (2, .int x2), (3, .int x3), (4, .int x4)]) : W p l e rm_X1_append s m args below meth c H locs 0 0 (MQ below (va_Qi (fun r u => r = r0 ∧ u = (X0, M, τ)) (g_pw G) (g_A G)) args s 0 0 (g_A G)) (F0 m 0 ls []) := by
  obtain ⟨hx, hb, hr, hml, hown, hts, hlocks, hC⟩ := id C0
  unfold fn_X1_append at hf
  refine lv_aload_n hx hb dX1_append_0 rfl (lv_at hl 0 rfl) ?_
  refine gt_1_4 hx hb hts hown hC hP ht0 q8_6 dX1_append_1 ?_
  obtain ⟨x5_1, ex5_1, hf⟩ := g_letE hf
  refine lv_topE ex5_1 ?_
  refine lv_istore (lv' := [(5, .int x5_1), (0, .ref (G.2.1 1 t0)), (1, .int x1), (2, .int x2), (3, .int x3), (4, .int x4)]) hx hb dX1_append_4 hl (by decide) rfl (fun ls hl => ?_)
  refine lv_iload hx hb dX1_append_6 (lv_at hl 0 rfl) ?_
  refine lv_if_lt (tgt := 18) hx hb dX1_append_8 (by decide) (fun hc_2 => ?_) (fun hc_2 => ?_)
  · have hf := g_pos hf hc_2
    refine lv_iconst (v := (-1)) hx hb dX1_append_18 (by decide) ?_
    cases hf
    exact x_iret hx hb hlocks hC hP hS hr dX1_append_19
  · have hf := g_neg hf hc_2
    refine lv_iload hx hb dX1_append_11 (lv_at hl 0 rfl) ?_
    refine lv_bipush (v := 24) hx hb dX1_append_13 (by decide) ?_
    refine lv_icmp_lt (tgt := 20) hx hb dX1_append_15 (by decide) (fun hc_3 => ?_) (fun hc_3 => ?_)
    · have hf := g_pos hf hc_3
      refine lv_aload_n hx hb dX1_append_20 rfl (lv_at hl 1 rfl) ?_
      refine gt_1_0 hx hb hts hown hC hP ht0 q5_20 dX1_append_21 ?_
      refine lv_iload hx hb dX1_append_24 (lv_at hl 0 rfl) ?_
      refine lv_iload_n hx hb dX1_append_26 rfl (lv_at hl 2 rfl) ?_
      obtain ⟨hg_4, hf⟩ := g_gd hf
      obtain ⟨X_5, eX_5, hf⟩ := g_letE hf
      refine xistX (k := 16) (n := 24) hx hb hC hP hS (fun _ _ => rfl) rfl ht0 hg_4 dX1_append_27 (fun H locs hP hS => ?_)
      rw [eX_5] at hP
      refine lv_aload_n hx hb dX1_append_28 rfl (lv_at hl 1 rfl) ?_
      refine gt_1_1 hx hb hts hown hC hP ht0 q5_21 dX1_append_29 ?_
      refine lv_iload hx hb dX1_append_32 (lv_at hl 0 rfl) ?_
      refine lv_iload_n hx hb dX1_append_34 rfl (lv_at hl 3 rfl) ?_
      obtain ⟨hg_6, hf⟩ := g_gd hf
      obtain ⟨X_7, eX_7, hf⟩ := g_letE hf
      refine xistX (k := 17) (n := 24) hx hb hC hP hS (fun _ _ => rfl) rfl ht0 hg_6 dX1_append_35 (fun H locs hP hS => ?_)
      rw [eX_7] at hP
      refine lv_aload_n hx hb dX1_append_36 rfl (lv_at hl 1 rfl) ?_
      refine gt_1_2 hx hb hts hown hC hP ht0 q5_22 dX1_append_37 ?_
      refine lv_iload hx hb dX1_append_40 (lv_at hl 0 rfl) ?_
      refine lv_iload_n hx hb dX1_append_42 rfl (lv_at hl 4 rfl) ?_
      obtain ⟨hg_8, hf⟩ := g_gd hf
      obtain ⟨X_9, eX_9, hf⟩ := g_letE hf
      refine xistX (k := 18) (n := 24) hx hb hC hP hS (fun _ _ => rfl) rfl ht0 hg_8 dX1_append_43 (fun H locs hP hS => ?_)
      rw [eX_9] at hP
      refine lv_aload_n hx hb dX1_append_44 rfl (lv_at hl 1 rfl) ?_
      refine gt_1_3 hx hb hts hown hC hP ht0 q5_23 dX1_append_45 ?_
      refine lv_iload hx hb dX1_append_48 (lv_at hl 0 rfl) ?_
      refine lv_iload hx hb dX1_append_50 (lv_at hl 5 rfl) ?_
      obtain ⟨hg_10, hf⟩ := g_gd hf
      obtain ⟨X_11, eX_11, hf⟩ := g_letE hf
      refine xistX (k := 19) (n := 24) hx hb hC hP hS (fun _ _ => rfl) rfl ht0 hg_10 dX1_append_52 (fun H locs hP hS => ?_)
      rw [eX_11] at hP
      refine lv_aload_n hx hb dX1_append_53 rfl (lv_at hl 1 rfl) ?_
      refine lv_dup hx hb dX1_append_54 rfl ?_
      refine gt_1_4 hx hb hts hown hC hP ht0 q8_6 dX1_append_55 ?_
      refine lv_iconst (v := 1) hx hb dX1_append_58 (by decide) ?_
      refine lv_iadd hx hb dX1_append_59 ?_
      obtain ⟨X_12, eX_12, hf⟩ := g_letE hf
      refine pt_1_4 hx hb hts hown hC hP hS ht0 q8_6 dX1_append_60 (fun H locs hP hS => ?_)
      rw [eX_12] at hP
      refine lv_iload hx hb dX1_append_63 (lv_at hl 0 rfl) ?_
      cases hf
      exact x_iret hx hb hlocks hC hP hS hr dX1_append_65
    · have hf := g_neg hf hc_3
      refine lv_iconst (v := (-1)) hx hb dX1_append_18 (by decide) ?_
      cases hf
      exact x_iret hx hb hlocks hC hP hS hr dX1_append_19
set_option maxRecDepth 100000 in
set_option maxHeartbeats 4000000 in
theorem ct_X1_append (l : Launch) (G : GP) (X M : SM) (τ : SL) (t0 : Nat) (ht0 : t0 < 12) (x1 : Int32) (x2 : Int32) (x3 : Int32) (x4 : Int32) {r0 : Int32} {X0 : SM} (hf : fn_X1_append t0 x1 x2 x3 x4 X = some (r0, X0)) : Met l yX1_append (wz yX1_append cX1_append 6 (some .int)) rm_X1_append (va_Pc [.ref (G.2.1 1 t0), .int x1, .int x2, .int x3, .int x4] (g_pw G (X, M, τ))) (va_Qi (fun r u => r = r0 ∧ u = (X0, M, τ)) (g_pw G) (g_A G)) 0 0 (g_A G) := by
  refine Met.ofW (cc := cX1_append) (maxL := 6) (ret := (some .int)) (by decide) rfl ?_
  intro p e s m args below meth c s₁ B hml hv
  obtain ⟨rfl, hC, hP⟩ := hv
  have C0 : g_mc p s m _ meth c RX1 cX1_append (some .int) 6 G := ⟨B.exec, B.bytes, B.returns, hml, findClass_of_methodNamed B.named, fun w h => atoms_spec (ws := wz yX1_append cX1_append 6 (some .int)) B.pre w (List.mem_cons_of_mem _ h), B.notSynchronized, hC⟩
  have hl := lv_entry ([.ref (G.2.1 1 t0), .int x1, .int x2, .int x3, .int x4]) (n := 6) (Nat.le_of_ble_eq_true rfl)
  rw [lg_entry_eq]
  generalize (lg_sl ([.ref (G.2.1 1 t0), .int x1, .int x2, .int x3, .int x4]) ++ List.replicate (6 - (lg_sl ([.ref (G.2.1 1 t0), .int x1, .int x2, .int x3, .int x4])).length) Slot.unset).toArray = ls at hl ⊢
  exact wk_X1_append C0 t0 ht0 x1 x2 x3 x4 X hf hP va_S.rf hl
