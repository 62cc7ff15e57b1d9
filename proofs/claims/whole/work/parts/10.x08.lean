abbrev rm_X7_trapped : Room := { frames := 0, cells := 0, slots := 0, locals := 0 }
def wb_X7_trapped_4 (k4 : Nat → Int32 → Int32 → SM → Option (Int32)) (t0 : Nat) (x1 : Int32) (x2 : Int32) (X : SM) : Option (Int32) :=
  if 6 ≤ x2 then
  (some x1)
  else
  (if g_in x2 6 then
    if (X 9 (6 * t0 + (x2.toNatClampNeg)) 9) = 5 then
    (g_let ((x1 ||| (1 <<< (x2 &&& 31)))) fun x1_6 =>
      g_let (x2 + 1) fun x2_7 =>
      k4 t0 x1_6 x2_7 X)
    else
    (g_let (x2 + 1) fun x2_5 =>
      k4 t0 x1 x2_5 X)
    else none)
set_option maxRecDepth 100000 in
set_option maxHeartbeats 4000000 in
theorem bk_X7_trapped_4 {p : Program} {l : Launch} {e : Env} {s : State} {m : MethodId} {args : Array Value} {below : List Frame} {meth : Method} {c : Code} {G : GP} {M : SM} {τ : SL} (C0 : g_mc p s m args meth c RX7 cX7_trapped (some .int) 3 G) {r0 : Int32} (k4 : Nat → Int32 → Int32 → SM → Option (Int32)) (hk4 : ∀ (t0 : Nat) (ht0 : t0 < 2) (x1 : Int32) (x2 : Int32) (X : SM), k4 t0 x1 x2 X = some r0 → ∀ {H : Heap} {locs : List Loc}, va_P G.1 g_cl (wd G (cb X M) τ) H → va_S (g_A G) s.heap H locs → ∀ {ls : Array Slot}, lv_has ls 3 [(0, .ref (G.2.1 7 t0)), (1, .int x1), (2, .int x2)] → W p l e rm_X7_trapped s m args below meth c H locs 0 0 (MQ below (va_Qi (fun r u => r = r0 ∧ u = (X, M, τ)) (g_pw G) (g_A G)) args s 0 0 (g_A G)) (F0 m 4 ls [])) (t0 : Nat) (ht0 : t0 < 2) (x1 : Int32) (x2 : Int32) (X : SM) (hf : wb_X7_trapped_4 k4 t0 x1 x2 X = some r0) {H : Heap} {locs : List Loc} (hP : va_P G.1 g_cl (wd G (cb X M) τ) H) (hS : va_S (g_A G) s.heap H locs) {ls : Array Slot} (hl : lv_has ls 3 [(0, .ref (G.2.1 7 t0)), (1, .int x1), (2, .int x2)]) : W p l e rm_X7_trapped s m args below meth c H locs 0 0 (MQ below (va_Qi (fun r u => r = r0 ∧ u = (X, M, τ)) (g_pw G) (g_A G)) args s 0 0 (g_A G)) (F0 m 4 ls []) := by
  obtain ⟨hx, hb, hr, hml, hown, hts, hlocks, hC⟩ := id C0
  unfold wb_X7_trapped_4 at hf
  refine lv_iload_n hx hb dX7_trapped_4 rfl (lv_at hl 2 rfl) ?_
  refine lv_bipush (v := 6) hx hb dX7_trapped_5 (by decide) ?_
  refine lv_icmp_ge (tgt := 35) hx hb dX7_trapped_7 (by decide) (fun hc_1 => ?_) (fun hc_1 => ?_)
  · have hf := g_pos hf hc_1
    refine lv_iload_n hx hb dX7_trapped_35 rfl (lv_at hl 1 rfl) ?_
    cases hf
    exact x_iret hx hb hlocks hC hP hS hr dX7_trapped_36
  · have hf := g_neg hf hc_1
    refine lv_aload_n hx hb dX7_trapped_10 rfl (lv_at hl 0 rfl) ?_
    refine gt_7_0 hx hb hts hown hC hP ht0 q3_10 dX7_trapped_11 ?_
    refine lv_iload_n hx hb dX7_trapped_14 rfl (lv_at hl 2 rfl) ?_
    obtain ⟨hg_2, hf⟩ := g_gd hf
    have hq_3 : 6 * t0 + (x2.toNatClampNeg) < 12 := by have h8 := g_in_lt (n := 6) hg_2; have h9 : t0 < 2 := ht0; omega
    refine xaldS hx hb hC hP ht0 hg_2 dX7_trapped_15 ?_
    refine gt_9_9 hx hb hts hown hC hP hq_3 q19_7 dX7_trapped_16 ?_
    refine lv_iconst (v := 5) hx hb dX7_trapped_19 (by decide) ?_
    refine lv_icmp_ne (tgt := 29) hx hb dX7_trapped_20 (by decide) (fun hc_4 => ?_) (fun hc_4 => ?_)
    · have hf := g_neg hf hc_4
      obtain ⟨x2_5, ex2_5, hf⟩ := g_letE hf
      refine lv_iinc (v := x2_5) (lv' := [(2, .int x2_5), (0, .ref (G.2.1 7 t0)), (1, .int x1)]) hx hb dX7_trapped_29 hl (k := 2) rfl (by rw [← ex2_5]; rfl) (by decide) rfl (fun ls hl => ?_)
      refine lv_goto (tgt := 4) hx hb dX7_trapped_32 (by decide) ?_
      exact hk4 t0 ht0 x1 x2_5 X hf hP hS (lv_sub hl [1, 2, 0] rfl)
    · have hf := g_pos hf hc_4
      refine lv_iload_n hx hb dX7_trapped_23 rfl (lv_at hl 1 rfl) ?_
      refine lv_iconst (v := 1) hx hb dX7_trapped_24 (by decide) ?_
      refine lv_iload_n hx hb dX7_trapped_25 rfl (lv_at hl 2 rfl) ?_
      refine lv_ishl hx hb dX7_trapped_26 ?_
      refine lv_ior hx hb dX7_trapped_27 ?_
      obtain ⟨x1_6, ex1_6, hf⟩ := g_letE hf
      refine lv_topE ex1_6 ?_
      refine lv_istore_n (lv' := [(1, .int x1_6), (0, .ref (G.2.1 7 t0)), (2, .int x2)]) hx hb dX7_trapped_28 rfl hl (by decide) rfl (fun ls hl => ?_)
      obtain ⟨x2_7, ex2_7, hf⟩ := g_letE hf
      refine lv_iinc (v := x2_7) (lv' := [(2, .int x2_7), (1, .int x1_6), (0, .ref (G.2.1 7 t0))]) hx hb dX7_trapped_29 hl (k := 2) rfl (by rw [← ex2_7]; rfl) (by decide) rfl (fun ls hl => ?_)
      refine lv_goto (tgt := 4) hx hb dX7_trapped_32 (by decide) ?_
      exact hk4 t0 ht0 x1_6 x2_7 X hf hP hS (lv_sub hl [2, 1, 0] rfl)
def wl_X7_trapped_4 (n : Nat) (t0 : Nat) (x1 : Int32) (x2 : Int32) (X : SM) : Option (Int32) := g_loop (α := Nat × Int32 × Int32 × SM) (fun k a => wb_X7_trapped_4 (fun t0 x1 x2 X => k (t0, x1, x2, X)) a.1 a.2.1 a.2.2.1 a.2.2.2) n (t0, x1, x2, X)
set_option maxRecDepth 100000 in
set_option maxHeartbeats 4000000 in
theorem lp_X7_trapped_4 {p : Program} {l : Launch} {e : Env} {s : State} {m : MethodId} {args : Array Value} {below : List Frame} {meth : Method} {c : Code} {G : GP} {M : SM} {τ : SL} (C0 : g_mc p s m args meth c RX7 cX7_trapped (some .int) 3 G) {r0 : Int32} (n : Nat) : ∀ (t0 : Nat) (ht0 : t0 < 2) (x1 : Int32) (x2 : Int32) (X : SM), wl_X7_trapped_4 n t0 x1 x2 X = some r0 → ∀ {H : Heap} {locs : List Loc}, va_P G.1 g_cl (wd G (cb X M) τ) H → va_S (g_A G) s.heap H locs → ∀ {ls : Array Slot}, lv_has ls 3 [(0, .ref (G.2.1 7 t0)), (1, .int x1), (2, .int x2)] → W p l e rm_X7_trapped s m args below meth c H locs 0 0 (MQ below (va_Qi (fun r u => r = r0 ∧ u = (X, M, τ)) (g_pw G) (g_A G)) args s 0 0 (g_A G)) (F0 m 4 ls []) := by
  induction n with
  | zero =>
    intro t0 ht0 x1 x2 X hf
    have hf : (none : Option (Int32)) = _ := hf
    cases hf
  | succ n ih =>
    intro t0 ht0 x1 x2 X hf H locs hP hS ls hl
    exact bk_X7_trapped_4 C0  (fun t0 x1 x2 X => wl_X7_trapped_4  n t0 x1 x2 X) ih t0 ht0 x1 x2 X hf hP hS hl
def fn_X7_trapped (t0 : Nat) (X : SM) : Option (Int32) :=
  wl_X7_trapped_4 1000 t0 0 0 X
set_option maxRecDepth 100000 in
set_option maxHeartbeats 4000000 in
theorem wk_X7_trapped {p : Program} {l : Launch} {e : Env} {s : State} {m : MethodId} {args : Array Value} {below : List Frame} {meth : Method} {c : Code} {G : GP} {M : SM} {τ : SL} (C0 : g_mc p s m args meth c RX7 cX7_trapped (some .int) 3 G) {r0 : Int32} (t0 : Nat) (ht0 : t0 < 2) (X : SM) (hf : fn_X7_trapped t0 X = some r0) {H : Heap} {locs : List Loc} (hP : va_P G.1 g_cl (wd G (cb X M) τ) H) (hS : va_S (g_A G) s.heap H locs) {ls : Array Slot} (hl : lv_has ls 3 [(0, .ref (G.2.1 7 t0))]) : W p l e rm_X7_trapped s m args below meth c H locs 0 0 (MQ below (va_Qi (fun r u => r = r0 ∧ u = (X, M, τ)) (g_pw G) (g_A G)) args s 0 0 (g_A G)) (F0 m 0 ls []) := by
  obtain ⟨hx, hb, hr, hml, hown, hts, hlocks, hC⟩ := id C0
  unfold fn_X7_trapped at hf
  refine lv_iconst (v := 0) hx hb dX7_trapped_0 (by decide) ?_
  refine lv_istore_n (lv' := [(1, .int 0), (0, .ref (G.2.1 7 t0))]) hx hb dX7_trapped_1 rfl hl (by decide) rfl (fun ls hl => ?_)
  refine lv_iconst (v := 0) hx hb dX7_trapped_2 (by decide) ?_
  refine lv_istore_n (lv' := [(2, .int 0), (1, .int 0), (0, .ref (G.2.1 7 t0))]) hx hb dX7_trapped_3 rfl hl (by decide) rfl (fun ls hl => ?_)
  exact lp_X7_trapped_4 C0 1000 t0 ht0 0 0 X hf hP hS (lv_sub hl [2, 1, 0] rfl)
set_option maxRecDepth 100000 in
set_option maxHeartbeats 4000000 in
theorem ct_X7_trapped (l : Launch) (G : GP) (X M : SM) (τ : SL) (t0 : Nat) (ht0 : t0 < 2) {r0 : Int32} (hf : fn_X7_trapped t0 X = some r0) : Met l yX7_trapped (wz yX7_trapped cX7_trapped 3 (some .int)) rm_X7_trapped (va_Pc [.ref (G.2.1 7 t0)] (g_pw G (X, M, τ))) (va_Qi (fun r u => r = r0 ∧ u = (X, M, τ)) (g_pw G) (g_A G)) 0 0 (g_A G) := by
  refine Met.ofW (cc := cX7_trapped) (maxL := 3) (ret := (some .int)) (by decide) rfl ?_
  intro p e s m args below meth c s₁ B hml hv
  obtain ⟨rfl, hC, hP⟩ := hv
  have C0 : g_mc p s m _ meth c RX7 cX7_trapped (some .int) 3 G := ⟨B.exec, B.bytes, B.returns, hml, findClass_of_methodNamed B.named, fun w h => atoms_spec (ws := wz yX7_trapped cX7_trapped 3 (some .int)) B.pre w (List.mem_cons_of_mem _ h), B.notSynchronized, hC⟩
  have hl := lv_entry ([.ref (G.2.1 7 t0)]) (n := 3) (Nat.le_of_ble_eq_true rfl)
  rw [lg_entry_eq]
  generalize (lg_sl ([.ref (G.2.1 7 t0)]) ++ List.replicate (3 - (lg_sl ([.ref (G.2.1 7 t0)])).length) Slot.unset).toArray = ls at hl ⊢
  exact wk_X7_trapped C0 t0 ht0 X hf hP va_S.rf hl
abbrev rm_X11_safeOnes : Room := { frames := 5, cells := 0, slots := 0, locals := 120 }
def wb_X11_safeOnes_4 (k4 : Int32 → Int32 → SM → Option (Int32 × SM)) (x1 : Int32) (x2 : Int32) (X : SM) : Option (Int32 × SM) :=
  if 6 ≤ x2 then
  (some (x1, X))
  else
  ((fn_X11_isSafe x2 X).bind fun (r_2, X_3) =>
    if r_2 = 0 then
    (g_let (x2 + 1) fun x2_6 =>
      k4 x1 x2_6 X_3)
    else
    (g_let ((x1 ||| (1 <<< (x2 &&& 31)))) fun x1_7 =>
      g_let (x2 + 1) fun x2_8 =>
      k4 x1_7 x2_8 X_3))
set_option maxRecDepth 100000 in
set_option maxHeartbeats 4000000 in
theorem bk_X11_safeOnes_4 {p : Program} {l : Launch} {e : Env} {s : State} {m : MethodId} {args : Array Value} {below : List Frame} {meth : Method} {c : Code} {G : GP} {M : SM} {τ : SL} (C0 : g_mc p s m args meth c RX11 cX11_safeOnes (some .int) 3 G) {r0 : Int32} {X0 : SM} (k4 : Int32 → Int32 → SM → Option (Int32 × SM)) (hk4 : ∀ (x1 : Int32) (x2 : Int32) (X : SM), k4 x1 x2 X = some (r0, X0) → ∀ {H : Heap} {locs : List Loc}, va_P G.1 g_cl (wd G (cb X M) τ) H → va_S (g_A G) s.heap H locs → ∀ {ls : Array Slot}, lv_has ls 3 [(0, .ref (G.2.1 11 0)), (1, .int x1), (2, .int x2)] → W p l e rm_X11_safeOnes s m args below meth c H locs 0 0 (MQ below (va_Qi (fun r u => r = r0 ∧ u = (X0, M, τ)) (g_pw G) (g_A G)) args s 0 0 (g_A G)) (F0 m 4 ls [])) (x1 : Int32) (x2 : Int32) (X : SM) (hf : wb_X11_safeOnes_4 k4 x1 x2 X = some (r0, X0)) {H : Heap} {locs : List Loc} (hP : va_P G.1 g_cl (wd G (cb X M) τ) H) (hS : va_S (g_A G) s.heap H locs) {ls : Array Slot} (hl : lv_has ls 3 [(0, .ref (G.2.1 11 0)), (1, .int x1), (2, .int x2)]) : W p l e rm_X11_safeOnes s m args below meth c H locs 0 0 (MQ below (va_Qi (fun r u => r = r0 ∧ u = (X0, M, τ)) (g_pw G) (g_A G)) args s 0 0 (g_A G)) (F0 m 4 ls []) := by
  obtain ⟨hx, hb, hr, hml, hown, hts, hlocks, hC⟩ := id C0
  unfold wb_X11_safeOnes_4 at hf
  refine lv_iload_n hx hb dX11_safeOnes_4 rfl (lv_at hl 2 rfl) ?_
  refine lv_bipush (v := 6) hx hb dX11_safeOnes_5 (by decide) ?_
  refine lv_icmp_ge (tgt := 30) hx hb dX11_safeOnes_7 (by decide) (fun hc_1 => ?_) (fun hc_1 => ?_)
  · have hf := g_pos hf hc_1
    refine lv_iload_n hx hb dX11_safeOnes_30 rfl (lv_at hl 1 rfl) ?_
    cases hf
    exact x_iret hx hb hlocks hC hP hS hr dX11_safeOnes_31
  · have hf := g_neg hf hc_1
    refine lv_aload_n hx hb dX11_safeOnes_10 rfl (lv_at hl 0 rfl) ?_
    refine lv_iload_n hx hb dX11_safeOnes_11 rfl (lv_at hl 2 rfl) ?_
    obtain ⟨⟨r_2, X_3⟩, hc_4, hf⟩ := g_bindE hf
    refine x_calli (v := (X_3, M, τ)) (va_runV (As := [.int x2]) (rest := []) ⟨hx, hb, hml, hown, hts⟩ (ct_X11_isSafe l G X M τ x2 hc_4) (cwV 1 hts gd_X11_234 rfl rfl rfl hd_X11_isSafe ⟨Nat.le_of_ble_eq_true rfl, Nat.le_of_ble_eq_true rfl⟩) (x_preV (u := (X, M, τ)) (k := 11) (ci := 11) hC hS hP Nat.zero_lt_one rfl rfl) rfl rfl hl.1 rfl (lv_room (Nat.le_of_ble_eq_true rfl)) dX11_safeOnes_12 ⟨Nat.le_refl _, Nat.le_refl _⟩) hS (fun H locs hP hS => ?_)
    refine lv_if_eq (tgt := 24) hx hb dX11_safeOnes_15 (by decide) (fun hc_5 => ?_) (fun hc_5 => ?_)
    · have hf := g_pos hf hc_5
      obtain ⟨x2_6, ex2_6, hf⟩ := g_letE hf
      refine lv_iinc (v := x2_6) (lv' := [(2, .int x2_6), (0, .ref (G.2.1 11 0)), (1, .int x1)]) hx hb dX11_safeOnes_24 hl (k := 2) rfl (by rw [← ex2_6]; rfl) (by decide) rfl (fun ls hl => ?_)
      refine lv_goto (tgt := 4) hx hb dX11_safeOnes_27 (by decide) ?_
      exact hk4 x1 x2_6 X_3 hf hP hS (lv_sub hl [1, 2, 0] rfl)
    · have hf := g_neg hf hc_5
      refine lv_iload_n hx hb dX11_safeOnes_18 rfl (lv_at hl 1 rfl) ?_
      refine lv_iconst (v := 1) hx hb dX11_safeOnes_19 (by decide) ?_
      refine lv_iload_n hx hb dX11_safeOnes_20 rfl (lv_at hl 2 rfl) ?_
      refine lv_ishl hx hb dX11_safeOnes_21 ?_
      refine lv_ior hx hb dX11_safeOnes_22 ?_
      obtain ⟨x1_7, ex1_7, hf⟩ := g_letE hf
      refine lv_topE ex1_7 ?_
      refine lv_istore_n (lv' := [(1, .int x1_7), (0, .ref (G.2.1 11 0)), (2, .int x2)]) hx hb dX11_safeOnes_23 rfl hl (by decide) rfl (fun ls hl => ?_)
      obtain ⟨x2_8, ex2_8, hf⟩ := g_letE hf
      refine lv_iinc (v := x2_8) (lv' := [(2, .int x2_8), (1, .int x1_7), (0, .ref (G.2.1 11 0))]) hx hb dX11_safeOnes_24 hl (k := 2) rfl (by rw [← ex2_8]; rfl) (by decide) rfl (fun ls hl => ?_)
      refine lv_goto (tgt := 4) hx hb dX11_safeOnes_27 (by decide) ?_
      exact hk4 x1_7 x2_8 X_3 hf hP hS (lv_sub hl [2, 1, 0] rfl)
def wl_X11_safeOnes_4 (n : Nat) (x1 : Int32) (x2 : Int32) (X : SM) : Option (Int32 × SM) := g_loop (α := Int32 × Int32 × SM) (fun k a => wb_X11_safeOnes_4 (fun x1 x2 X => k (x1, x2, X)) a.1 a.2.1 a.2.2) n (x1, x2, X)
set_option maxRecDepth 100000 in
set_option maxHeartbeats 4000000 in
theorem lp_X11_safeOnes_4 {p : Program} {l : Launch} {e : Env} {s : State} {m : MethodId} {args : Array Value} {below : List Frame} {meth : Method} {c : Code} {G : GP} {M : SM} {τ : SL} (C0 : g_mc p s m args meth c RX11 cX11_safeOnes (some .int) 3 G) {r0 : Int32} {X0 : SM} (n : Nat) : ∀ (x1 : Int32) (x2 : Int32) (X : SM), wl_X11_safeOnes_4 n x1 x2 X = some (r0, X0) → ∀ {H : Heap} {locs : List Loc}, va_P G.1 g_cl (wd G (cb X M) τ) H → va_S (g_A G) s.heap H locs → ∀ {ls : Array Slot}, lv_has ls 3 [(0, .ref (G.2.1 11 0)), (1, .int x1), (2, .int x2)] → W p l e rm_X11_safeOnes s m args below meth c H locs 0 0 (MQ below (va_Qi (fun r u => r = r0 ∧ u = (X0, M, τ)) (g_pw G) (g_A G)) args s 0 0 (g_A G)) (F0 m 4 ls []) := by
  induction n with
  | zero =>
    intro x1 x2 X hf
    have hf : (none : Option (Int32 × SM)) = _ := hf
    cases hf
  | succ n ih =>
    intro x1 x2 X hf H locs hP hS ls hl
    exact bk_X11_safeOnes_4 C0  (fun x1 x2 X => wl_X11_safeOnes_4  n x1 x2 X) ih x1 x2 X hf hP hS hl
def fn_X11_safeOnes (X : SM) : Option (Int32 × SM) :=
  wl_X11_safeOnes_4 1000 0 0 X
set_option maxRecDepth 100000 in
set_option maxHeartbeats 4000000 in
theorem wk_X11_safeOnes {p : Program} {l : Launch} {e : Env} {s : State} {m : MethodId} {args : Array Value} {below : List Frame} {meth : Method} {c : Code} {G : GP} {M : SM} {τ : SL} (C0 : g_mc p s m args meth c RX11 cX11_safeOnes (some .int) 3 G) {r0 : Int32} {X0 : SM} (X : SM) (hf : fn_X11_safeOnes X = some (r0, X0)) {H : Heap} {locs : List Loc} (hP : va_P G.1 g_cl (wd G (cb X M) τ) H) (hS : va_S (g_A G) s.heap H locs) {ls : Array Slot} (hl : lv_has ls 3 [(0, .ref (G.2.1 11 0))]) : W p l e rm_X11_safeOnes s m args below meth c H locs 0 0 (MQ below (va_Qi (fun r u => r = r0 ∧ u = (X0, M, τ)) (g_pw G) (g_A G)) args s 0 0 (g_A G)) (F0 m 0 ls []) := by
  obtain ⟨hx, hb, hr, hml, hown, hts, hlocks, hC⟩ := id C0
  unfold fn_X11_safeOnes at hf
  refine lv_iconst (v := 0) hx hb dX11_safeOnes_0 (by decide) ?_
  refine lv_istore_n (lv' := [(1, .int 0), (0, .ref (G.2.1 11 0))]) hx hb dX11_safeOnes_1 rfl hl (by decide) rfl (fun ls hl => ?_)
  refine lv_iconst (v := 0) hx hb dX11_safeOnes_2 (by decide) ?_
  refine lv_istore_n (lv' := [(2, .int 0), (1, .int 0), (0, .ref (G.2.1 11 0))]) hx hb dX11_safeOnes_3 rfl hl (by decide) rfl (fun ls hl => ?_)
  exact lp_X11_safeOnes_4 C0 1000 0 0 X hf hP hS (lv_sub hl [2, 1, 0] rfl)
set_option maxRecDepth 100000 in
set_option maxHeartbeats 4000000 in
theorem ct_X11_safeOnes (l : Launch) (G : GP) (X M : SM) (τ : SL) {r0 : Int32} {X0 : SM} (hf : fn_X11_safeOnes X = some (r0, X0)) : Met l yX11_safeOnes (wz yX11_safeOnes cX11_safeOnes 3 (some .int)) rm_X11_safeOnes (va_Pc [.ref (G.2.1 11 0)] (g_pw G (X, M, τ))) (va_Qi (fun r u => r = r0 ∧ u = (X0, M, τ)) (g_pw G) (g_A G)) 0 0 (g_A G) := by
  refine Met.ofW (cc := cX11_safeOnes) (maxL := 3) (ret := (some .int)) (by decide) rfl ?_
  intro p e s m args below meth c s₁ B hml hv
  obtain ⟨rfl, hC, hP⟩ := hv
  have C0 : g_mc p s m _ meth c RX11 cX11_safeOnes (some .int) 3 G := ⟨B.exec, B.bytes, B.returns, hml, findClass_of_methodNamed B.named, fun w h => atoms_spec (ws := wz yX11_safeOnes cX11_safeOnes 3 (some .int)) B.pre w (List.mem_cons_of_mem _ h), B.notSynchronized, hC⟩
  have hl := lv_entry ([.ref (G.2.1 11 0)]) (n := 3) (Nat.le_of_ble_eq_true rfl)
  rw [lg_entry_eq]
  generalize (lg_sl ([.ref (G.2.1 11 0)]) ++ List.replicate (3 - (lg_sl ([.ref (G.2.1 11 0)])).length) Slot.unset).toArray = ls at hl ⊢
  exact wk_X11_safeOnes C0 X hf hP va_S.rf hl
abbrev rm_X11_count : Room := { frames := 6, cells := 0, slots := 0, locals := 142 }
def fn_X11_count (x1 : Int32) (X : SM) : Option (Int32 × SM) :=
  if x1 = 0 then
  (some ((X 7 0 5), X))
  else
  (if x1 = 1 then
    (some ((X 10 0 1), X))
    else
    (if x1 = 2 then
      ((fn_X10_owned (-1) X).bind fun r_6 =>
        some (r_6, X))
      else
      (if x1 = 3 then
        (some ((X 7 0 7), X))
        else
        (if x1 = 4 then
          (some ((X 7 0 6), X))
          else
          (if x1 = 5 then
            (some ((X 7 0 8), X))
            else
            (if x1 = 6 then
              (some ((X 3 0 2), X))
              else
              (if x1 = 7 then
                (some ((X 5 0 3), X))
                else
                (if x1 = 8 then
                  (some ((X 7 0 9), X))
                  else
                  (if x1 = 9 then
                    (some ((X 7 0 10), X))
                    else
                    (if x1 = 10 then
                      ((fn_X7_trapped 0 X).bind fun r_4 =>
                        some (r_4, X))
                      else
                      (if x1 = 11 then
                        ((fn_X11_safeOnes X).bind fun (r_1, X_2) =>
                          some (r_1, X_2))
                        else
                        (if x1 = 12 then
                          (some ((X 7 0 11), X))
                          else
                          (some ((-1), X))))))))))))))
set_option maxRecDepth 100000 in
set_option maxHeartbeats 4000000 in
theorem wk_X11_count {p : Program} {l : Launch} {e : Env} {s : State} {m : MethodId} {args : Array Value} {below : List Frame} {meth : Method} {c : Code} {G : GP} {M : SM} {τ : SL} (C0 : g_mc p s m args meth c RX11 cX11_count (some .int) 2 G) {r0 : Int32} {X0 : SM} (x1 : Int32) (X : SM) (hf : fn_X11_count x1 X = some (r0, X0)) {H : Heap} {locs : List Loc} (hP : va_P G.1 g_cl (wd G (cb X M) τ) H) (hS : va_S (g_A G) s.heap H locs) {ls : Array Slot} (hl : lv_has ls 2 [(0, .ref (G.2.1 11 0)), (1, .int x1)]) : W p l e rm_X11_count s m args below meth c H locs 0 0 (MQ below (va_Qi (fun r u => r = r0 ∧ u = (X0, M, τ)) (g_pw G) (g_A G)) args s 0 0 (g_A G)) (F0 m 0 ls []) := by
  obtain ⟨hx, hb, hr, hml, hown, hts, hlocks, hC⟩ := id C0
  unfold fn_X11_count at hf
  refine lv_iload_n hx hb dX11_count_0 rfl (lv_at hl 1 rfl) ?_
  by_cases hs1_0 : x1 = 0
  · have hf := g_pos hf hs1_0
    refine lv_tableIn (off := 67) (tgt := 68) hx hb dX11_count_1 (by rw [hs1_0]; decide) (by rw [hs1_0]; decide) (by rw [hs1_0]; rfl) (by decide) ?_
    refine lv_aload_n hx hb dX11_count_68 rfl (lv_at hl 0 rfl) ?_
    refine gt_11_2 hx hb hts hown hC hP Nat.zero_lt_one q2_0 dX11_count_69 ?_
    refine gt_7_5 hx hb hts hown hC hP (by decide) q12_12 dX11_count_72 ?_
    cases hf
    exact x_iret hx hb hlocks hC hP hS hr dX11_count_75
  · have hf := g_neg hf hs1_0
    by_cases hs1_1 : x1 = 1
    · have hf := g_pos hf hs1_1
      refine lv_tableIn (off := 75) (tgt := 76) hx hb dX11_count_1 (by rw [hs1_1]; decide) (by rw [hs1_1]; decide) (by rw [hs1_1]; rfl) (by decide) ?_
      refine lv_aload_n hx hb dX11_count_76 rfl (lv_at hl 0 rfl) ?_
      refine gt_11_0 hx hb hts hown hC hP Nat.zero_lt_one q1_16 dX11_count_77 ?_
      refine gt_10_1 hx hb hts hown hC hP Nat.zero_lt_one q44_7 dX11_count_80 ?_
      cases hf
      exact x_iret hx hb hlocks hC hP hS hr dX11_count_83
    · have hf := g_neg hf hs1_1
      by_cases hs1_2 : x1 = 2
      · have hf := g_pos hf hs1_2
        refine lv_tableIn (off := 83) (tgt := 84) hx hb dX11_count_1 (by rw [hs1_2]; decide) (by rw [hs1_2]; decide) (by rw [hs1_2]; rfl) (by decide) ?_
        refine lv_aload_n hx hb dX11_count_84 rfl (lv_at hl 0 rfl) ?_
        refine gt_11_0 hx hb hts hown hC hP Nat.zero_lt_one q1_16 dX11_count_85 ?_
        refine lv_iconst (v := (-1)) hx hb dX11_count_88 (by decide) ?_
        obtain ⟨r_6, hc_7, hf⟩ := g_bindE hf
        refine x_calli (v := (X, M, τ)) (va_runV (As := [.int (-1)]) (rest := []) ⟨hx, hb, hml, hown, hts⟩ (ct_X10_owned l G X M τ (-1) hc_7) (cwV 1 hts gd_X11_261 rfl rfl rfl hd_X10_owned ⟨Nat.le_of_ble_eq_true rfl, Nat.le_of_ble_eq_true rfl⟩) (x_preV (u := (X, M, τ)) (k := 10) (ci := 10) hC hS hP Nat.zero_lt_one rfl rfl) rfl rfl hl.1 rfl (lv_room (Nat.le_of_ble_eq_true rfl)) dX11_count_89 ⟨Nat.le_refl _, Nat.le_refl _⟩) hS (fun H locs hP hS => ?_)
        cases hf
        exact x_iret hx hb hlocks hC hP hS hr dX11_count_92
      · have hf := g_neg hf hs1_2
        by_cases hs1_3 : x1 = 3
        · have hf := g_pos hf hs1_3
          refine lv_tableIn (off := 92) (tgt := 93) hx hb dX11_count_1 (by rw [hs1_3]; decide) (by rw [hs1_3]; decide) (by rw [hs1_3]; rfl) (by decide) ?_
          refine lv_aload_n hx hb dX11_count_93 rfl (lv_at hl 0 rfl) ?_
          refine gt_11_2 hx hb hts hown hC hP Nat.zero_lt_one q2_0 dX11_count_94 ?_
          refine gt_7_7 hx hb hts hown hC hP (by decide) q44_8 dX11_count_97 ?_
          cases hf
          exact x_iret hx hb hlocks hC hP hS hr dX11_count_100
        · have hf := g_neg hf hs1_3
          by_cases hs1_4 : x1 = 4
          · have hf := g_pos hf hs1_4
            refine lv_tableIn (off := 100) (tgt := 101) hx hb dX11_count_1 (by rw [hs1_4]; decide) (by rw [hs1_4]; decide) (by rw [hs1_4]; rfl) (by decide) ?_
            refine lv_aload_n hx hb dX11_count_101 rfl (lv_at hl 0 rfl) ?_
            refine gt_11_2 hx hb hts hown hC hP Nat.zero_lt_one q2_0 dX11_count_102 ?_
            refine gt_7_6 hx hb hts hown hC hP (by decide) q44_9 dX11_count_105 ?_
            cases hf
            exact x_iret hx hb hlocks hC hP hS hr dX11_count_108
          · have hf := g_neg hf hs1_4
            by_cases hs1_5 : x1 = 5
            · have hf := g_pos hf hs1_5
              refine lv_tableIn (off := 108) (tgt := 109) hx hb dX11_count_1 (by rw [hs1_5]; decide) (by rw [hs1_5]; decide) (by rw [hs1_5]; rfl) (by decide) ?_
              refine lv_aload_n hx hb dX11_count_109 rfl (lv_at hl 0 rfl) ?_
              refine gt_11_2 hx hb hts hown hC hP Nat.zero_lt_one q2_0 dX11_count_110 ?_
              refine gt_7_8 hx hb hts hown hC hP (by decide) q44_10 dX11_count_113 ?_
              cases hf
              exact x_iret hx hb hlocks hC hP hS hr dX11_count_116
            · have hf := g_neg hf hs1_5
              by_cases hs1_6 : x1 = 6
              · have hf := g_pos hf hs1_6
                refine lv_tableIn (off := 116) (tgt := 117) hx hb dX11_count_1 (by rw [hs1_6]; decide) (by rw [hs1_6]; decide) (by rw [hs1_6]; rfl) (by decide) ?_
                refine lv_aload_n hx hb dX11_count_117 rfl (lv_at hl 0 rfl) ?_
                refine gt_11_2 hx hb hts hown hC hP Nat.zero_lt_one q2_0 dX11_count_118 ?_
                refine gt_7_1 hx hb hts hown hC hP (by decide) q11_21 dX11_count_121 ?_
                refine gt_8_2 hx hb hts hown hC hP (by decide) q34_0 dX11_count_124 ?_
                refine gt_3_2 hx hb hts hown hC hP (by decide) q44_11 dX11_count_127 ?_
                cases hf
                exact x_iret hx hb hlocks hC hP hS hr dX11_count_130
              · have hf := g_neg hf hs1_6
                by_cases hs1_7 : x1 = 7
                · have hf := g_pos hf hs1_7
                  refine lv_tableIn (off := 130) (tgt := 131) hx hb dX11_count_1 (by rw [hs1_7]; decide) (by rw [hs1_7]; decide) (by rw [hs1_7]; rfl) (by decide) ?_
                  refine lv_aload_n hx hb dX11_count_131 rfl (lv_at hl 0 rfl) ?_
                  refine gt_11_1 hx hb hts hown hC hP Nat.zero_lt_one q1_20 dX11_count_132 ?_
                  refine gt_5_3 hx hb hts hown hC hP Nat.zero_lt_one q44_12 dX11_count_135 ?_
                  cases hf
                  exact x_iret hx hb hlocks hC hP hS hr dX11_count_138
                · have hf := g_neg hf hs1_7
                  by_cases hs1_8 : x1 = 8
                  · have hf := g_pos hf hs1_8
                    refine lv_tableIn (off := 138) (tgt := 139) hx hb dX11_count_1 (by rw [hs1_8]; decide) (by rw [hs1_8]; decide) (by rw [hs1_8]; rfl) (by decide) ?_
                    refine lv_aload_n hx hb dX11_count_139 rfl (lv_at hl 0 rfl) ?_
                    refine gt_11_2 hx hb hts hown hC hP Nat.zero_lt_one q2_0 dX11_count_140 ?_
                    refine gt_7_9 hx hb hts hown hC hP (by decide) q44_13 dX11_count_143 ?_
                    cases hf
                    exact x_iret hx hb hlocks hC hP hS hr dX11_count_146
                  · have hf := g_neg hf hs1_8
                    by_cases hs1_9 : x1 = 9
                    · have hf := g_pos hf hs1_9
                      refine lv_tableIn (off := 146) (tgt := 147) hx hb dX11_count_1 (by rw [hs1_9]; decide) (by rw [hs1_9]; decide) (by rw [hs1_9]; rfl) (by decide) ?_
                      refine lv_aload_n hx hb dX11_count_147 rfl (lv_at hl 0 rfl) ?_
                      refine gt_11_2 hx hb hts hown hC hP Nat.zero_lt_one q2_0 dX11_count_148 ?_
                      refine gt_7_10 hx hb hts hown hC hP (by decide) q44_14 dX11_count_151 ?_
                      cases hf
                      exact x_iret hx hb hlocks hC hP hS hr dX11_count_154
                    · have hf := g_neg hf hs1_9
                      by_cases hs1_10 : x1 = 10
                      · have hf := g_pos hf hs1_10
                        refine lv_tableIn (off := 154) (tgt := 155) hx hb dX11_count_1 (by rw [hs1_10]; decide) (by rw [hs1_10]; decide) (by rw [hs1_10]; rfl) (by decide) ?_
                        refine lv_aload_n hx hb dX11_count_155 rfl (lv_at hl 0 rfl) ?_
                        refine gt_11_2 hx hb hts hown hC hP Nat.zero_lt_one q2_0 dX11_count_156 ?_
                        obtain ⟨r_4, hc_5, hf⟩ := g_bindE hf
                        refine x_calli (v := (X, M, τ)) (va_runV (As := []) (rest := []) ⟨hx, hb, hml, hown, hts⟩ (ct_X7_trapped l G X M τ 0 (by decide) hc_5) (cwV 0 hts gd_X11_277 rfl rfl rfl hd_X7_trapped ⟨Nat.le_of_ble_eq_true rfl, Nat.le_of_ble_eq_true rfl⟩) (x_preV (u := (X, M, τ)) (k := 7) (ci := 7) hC hS hP (by decide) rfl rfl) rfl rfl hl.1 rfl (lv_room (Nat.le_of_ble_eq_true rfl)) dX11_count_159 ⟨Nat.le_refl _, Nat.le_refl _⟩) hS (fun H locs hP hS => ?_)
                        cases hf
                        exact x_iret hx hb hlocks hC hP hS hr dX11_count_162
                      · have hf := g_neg hf hs1_10
                        by_cases hs1_11 : x1 = 11
                        · have hf := g_pos hf hs1_11
                          refine lv_tableIn (off := 162) (tgt := 163) hx hb dX11_count_1 (by rw [hs1_11]; decide) (by rw [hs1_11]; decide) (by rw [hs1_11]; rfl) (by decide) ?_
                          refine lv_aload_n hx hb dX11_count_163 rfl (lv_at hl 0 rfl) ?_
                          obtain ⟨⟨r_1, X_2⟩, hc_3, hf⟩ := g_bindE hf
                          refine x_calli (v := (X_2, M, τ)) (va_runV (As := []) (rest := []) ⟨hx, hb, hml, hown, hts⟩ (ct_X11_safeOnes l G X M τ  hc_3) (cwV 0 hts gd_X11_280 rfl rfl rfl hd_X11_safeOnes ⟨Nat.le_of_ble_eq_true rfl, Nat.le_of_ble_eq_true rfl⟩) (x_preV (u := (X, M, τ)) (k := 11) (ci := 11) hC hS hP Nat.zero_lt_one rfl rfl) rfl rfl hl.1 rfl (lv_room (Nat.le_of_ble_eq_true rfl)) dX11_count_164 ⟨Nat.le_refl _, Nat.le_refl _⟩) hS (fun H locs hP hS => ?_)
                          cases hf
                          exact x_iret hx hb hlocks hC hP hS hr dX11_count_167
                        · have hf := g_neg hf hs1_11
                          by_cases hs1_12 : x1 = 12
                          · have hf := g_pos hf hs1_12
                            refine lv_tableIn (off := 167) (tgt := 168) hx hb dX11_count_1 (by rw [hs1_12]; decide) (by rw [hs1_12]; decide) (by rw [hs1_12]; rfl) (by decide) ?_
                            refine lv_aload_n hx hb dX11_count_168 rfl (lv_at hl 0 rfl) ?_
                            refine gt_11_2 hx hb hts hown hC hP Nat.zero_lt_one q2_0 dX11_count_169 ?_
                            refine gt_7_11 hx hb hts hown hC hP (by decide) q44_15 dX11_count_172 ?_
                            cases hf
                            exact x_iret hx hb hlocks hC hP hS hr dX11_count_175
                          · have hf := g_neg hf hs1_12
                            have nhs1_0 : x1.toInt ≠ 0 := fun h => hs1_0 (Int32.toInt_inj.mp (by rw [h]; rfl))
                            have nhs1_1 : x1.toInt ≠ 1 := fun h => hs1_1 (Int32.toInt_inj.mp (by rw [h]; rfl))
                            have nhs1_2 : x1.toInt ≠ 2 := fun h => hs1_2 (Int32.toInt_inj.mp (by rw [h]; rfl))
                            have nhs1_3 : x1.toInt ≠ 3 := fun h => hs1_3 (Int32.toInt_inj.mp (by rw [h]; rfl))
                            have nhs1_4 : x1.toInt ≠ 4 := fun h => hs1_4 (Int32.toInt_inj.mp (by rw [h]; rfl))
                            have nhs1_5 : x1.toInt ≠ 5 := fun h => hs1_5 (Int32.toInt_inj.mp (by rw [h]; rfl))
                            have nhs1_6 : x1.toInt ≠ 6 := fun h => hs1_6 (Int32.toInt_inj.mp (by rw [h]; rfl))
                            have nhs1_7 : x1.toInt ≠ 7 := fun h => hs1_7 (Int32.toInt_inj.mp (by rw [h]; rfl))
                            have nhs1_8 : x1.toInt ≠ 8 := fun h => hs1_8 (Int32.toInt_inj.mp (by rw [h]; rfl))
                            have nhs1_9 : x1.toInt ≠ 9 := fun h => hs1_9 (Int32.toInt_inj.mp (by rw [h]; rfl))
                            have nhs1_10 : x1.toInt ≠ 10 := fun h => hs1_10 (Int32.toInt_inj.mp (by rw [h]; rfl))
                            have nhs1_11 : x1.toInt ≠ 11 := fun h => hs1_11 (Int32.toInt_inj.mp (by rw [h]; rfl))
                            have nhs1_12 : x1.toInt ≠ 12 := fun h => hs1_12 (Int32.toInt_inj.mp (by rw [h]; rfl))
                            refine lv_tableOut (tgt := 176) hx hb dX11_count_1 (by omega) (by decide) ?_
                            refine lv_iconst (v := (-1)) hx hb dX11_count_176 (by decide) ?_
                            cases hf
                            exact x_iret hx hb hlocks hC hP hS hr dX11_count_177
set_option maxRecDepth 100000 in
set_option maxHeartbeats 4000000 in
theorem ct_X11_count (l : Launch) (G : GP) (X M : SM) (τ : SL) (x1 : Int32) {r0 : Int32} {X0 : SM} (hf : fn_X11_count x1 X = some (r0, X0)) : Met l yX11_count (wz yX11_count cX11_count 2 (some .int)) rm_X11_count (va_Pc [.ref (G.2.1 11 0), .int x1] (g_pw G (X, M, τ))) (va_Qi (fun r u => r = r0 ∧ u = (X0, M, τ)) (g_pw G) (g_A G)) 0 0 (g_A G) := by
  refine Met.ofW (cc := cX11_count) (maxL := 2) (ret := (some .int)) (by decide) rfl ?_
  intro p e s m args below meth c s₁ B hml hv
  obtain ⟨rfl, hC, hP⟩ := hv
  have C0 : g_mc p s m _ meth c RX11 cX11_count (some .int) 2 G := ⟨B.exec, B.bytes, B.returns, hml, findClass_of_methodNamed B.named, fun w h => atoms_spec (ws := wz yX11_count cX11_count 2 (some .int)) B.pre w (List.mem_cons_of_mem _ h), B.notSynchronized, hC⟩
  have hl := lv_entry ([.ref (G.2.1 11 0), .int x1]) (n := 2) (Nat.le_of_ble_eq_true rfl)
  rw [lg_entry_eq]
  generalize (lg_sl ([.ref (G.2.1 11 0), .int x1]) ++ List.replicate (2 - (lg_sl ([.ref (G.2.1 11 0), .int x1])).length) Slot.unset).toArray = ls at hl ⊢
  exact wk_X11_count C0 x1 X hf hP va_S.rf hl
abbrev rm_X11_due : Room := { frames := 1, cells := 0, slots := 0, locals := 20 }
def fn_X11_due (x1 : Int32) (x2 : Int32) (X : SM) : Option (Int32 × SM) :=
  g_let (fn_X11_isThread x1) fun r_1 =>
  if r_1 = 0 then
  (some ((-1), X))
  else
  (if x2 < 0 then
    (some ((-1), X))
    else
    (if x2 ≤ 9999 then
      (if g_in x1 6 then
        g_let ((X 35 0 (x1.toNatClampNeg))) fun x3_7 =>
        if g_in x1 6 then
        g_let (u1 X 35 0 (x1.toNatClampNeg) x2) fun X_9 =>
        some (x3_7, X_9)
        else none
        else none)
      else
      (some ((-1), X))))
set_option maxRecDepth 100000 in
set_option maxHeartbeats 4000000 in
theorem wk_X11_due {p : Program} {l : Launch} {e : Env} {s : State} {m : MethodId} {args : Array Value} {below : List Frame} {meth : Method} {c : Code} {G : GP} {M : SM} {τ : SL} (C0 : g_mc p s m args meth c RX11 cX11_due (some .int) 4 G) {r0 : Int32} {X0 : SM} (x1 : Int32) (x2 : Int32) (X : SM) (hf : fn_X11_due x1 x2 X = some (r0, X0)) {H : Heap} {locs : List Loc} (hP : va_P G.1 g_cl (wd G (cb X M) τ) H) (hS : va_S (g_A G) s.heap H locs) {ls : Array Slot} (hl : lv_has ls 4 [(0, .ref (G.2.1 11 0)), (1, .int x1), (2, .int x2)]) : W p l e rm_X11_due s m args below meth c H locs 0 0 (MQ below (va_Qi (fun r u => r = r0 ∧ u = (X0, M, τ)) (g_pw G) (g_A G)) args s 0 0 (g_A G)) (F0 m 0 ls []) := by
  obtain ⟨hx, hb, hr, hml, hown, hts, hlocks, hC⟩ := id C0
  unfold fn_X11_due at hf
  refine lv_iload_n hx hb dX11_due_0 rfl (lv_at hl 1 rfl) ?_
  obtain ⟨r_1, hc_2, hf⟩ := g_letE hf
  refine x_calli (v := (X, M, τ)) (va_runS (As := [.int x1]) (rest := []) ⟨hx, hb, hml, hown, hts⟩ (ct_X11_isThread l G X M τ x1 hc_2) (cwS 1 hts gd_X11_56 rfl rfl rfl hd_X11_isThread ⟨Nat.le_of_ble_eq_true rfl, Nat.le_of_ble_eq_true rfl⟩) (x_pre (u := (X, M, τ)) hC hS hP) rfl rfl hl.1 rfl (lv_room (Nat.le_of_ble_eq_true rfl)) dX11_due_1 ⟨Nat.le_refl _, Nat.le_refl _⟩) hS (fun H locs hP hS => ?_)
  refine lv_if_eq (tgt := 18) hx hb dX11_due_4 (by decide) (fun hc_3 => ?_) (fun hc_3 => ?_)
  · have hf := g_pos hf hc_3
    refine lv_iconst (v := (-1)) hx hb dX11_due_18 (by decide) ?_
    cases hf
    exact x_iret hx hb hlocks hC hP hS hr dX11_due_19
  · have hf := g_neg hf hc_3
    refine lv_iload_n hx hb dX11_due_7 rfl (lv_at hl 2 rfl) ?_
    refine lv_if_lt (tgt := 18) hx hb dX11_due_8 (by decide) (fun hc_4 => ?_) (fun hc_4 => ?_)
    · have hf := g_pos hf hc_4
      refine lv_iconst (v := (-1)) hx hb dX11_due_18 (by decide) ?_
      cases hf
      exact x_iret hx hb hlocks hC hP hS hr dX11_due_19
    · have hf := g_neg hf hc_4
      refine lv_iload_n hx hb dX11_due_11 rfl (lv_at hl 2 rfl) ?_
      refine lv_sipush (v := 9999) hx hb dX11_due_12 (by decide) ?_
      refine lv_icmp_le (tgt := 20) hx hb dX11_due_15 (by decide) (fun hc_5 => ?_) (fun hc_5 => ?_)
      · have hf := g_pos hf hc_5
        refine lv_aload_n hx hb dX11_due_20 rfl (lv_at hl 0 rfl) ?_
        refine gt_11_6 hx hb hts hown hC hP Nat.zero_lt_one q2_11 dX11_due_21 ?_
        refine lv_iload_n hx hb dX11_due_24 rfl (lv_at hl 1 rfl) ?_
        obtain ⟨hg_6, hf⟩ := g_gd hf
        refine xildX (k := 35) (n := 6) hx hb hC hP (fun _ _ => rfl) rfl Nat.zero_lt_one hg_6 dX11_due_25 ?_
        obtain ⟨x3_7, ex3_7, hf⟩ := g_letE hf
        refine lv_topE ex3_7 ?_
        refine lv_istore_n (lv' := [(3, .int x3_7), (0, .ref (G.2.1 11 0)), (1, .int x1), (2, .int x2)]) hx hb dX11_due_26 rfl hl (by decide) rfl (fun ls hl => ?_)
        refine lv_aload_n hx hb dX11_due_27 rfl (lv_at hl 1 rfl) ?_
        refine gt_11_6 hx hb hts hown hC hP Nat.zero_lt_one q2_11 dX11_due_28 ?_
        refine lv_iload_n hx hb dX11_due_31 rfl (lv_at hl 2 rfl) ?_
        refine lv_iload_n hx hb dX11_due_32 rfl (lv_at hl 3 rfl) ?_
        obtain ⟨hg_8, hf⟩ := g_gd hf
        obtain ⟨X_9, eX_9, hf⟩ := g_letE hf
        refine xistX (k := 35) (n := 6) hx hb hC hP hS (fun _ _ => rfl) rfl Nat.zero_lt_one hg_8 dX11_due_33 (fun H locs hP hS => ?_)
        rw [eX_9] at hP
        refine lv_iload_n hx hb dX11_due_34 rfl (lv_at hl 0 rfl) ?_
        cases hf
        exact x_iret hx hb hlocks hC hP hS hr dX11_due_35
      · have hf := g_neg hf hc_5
        refine lv_iconst (v := (-1)) hx hb dX11_due_18 (by decide) ?_
        cases hf
        exact x_iret hx hb hlocks hC hP hS hr dX11_due_19
set_option maxRecDepth 100000 in
set_option maxHeartbeats 4000000 in
theorem ct_X11_due (l : Launch) (G : GP) (X M : SM) (τ : SL) (x1 : Int32) (x2 : Int32) {r0 : Int32} {X0 : SM} (hf : fn_X11_due x1 x2 X = some (r0, X0)) : Met l yX11_due (wz yX11_due cX11_due 4 (some .int)) rm_X11_due (va_Pc [.ref (G.2.1 11 0), .int x1, .int x2] (g_pw G (X, M, τ))) (va_Qi (fun r u => r = r0 ∧ u = (X0, M, τ)) (g_pw G) (g_A G)) 0 0 (g_A G) := by
  refine Met.ofW (cc := cX11_due) (maxL := 4) (ret := (some .int)) (by decide) rfl ?_
  intro p e s m args below meth c s₁ B hml hv
  obtain ⟨rfl, hC, hP⟩ := hv
  have C0 : g_mc p s m _ meth c RX11 cX11_due (some .int) 4 G := ⟨B.exec, B.bytes, B.returns, hml, findClass_of_methodNamed B.named, fun w h => atoms_spec (ws := wz yX11_due cX11_due 4 (some .int)) B.pre w (List.mem_cons_of_mem _ h), B.notSynchronized, hC⟩
  have hl := lv_entry ([.ref (G.2.1 11 0), .int x1, .int x2]) (n := 4) (Nat.le_of_ble_eq_true rfl)
  rw [lg_entry_eq]
  generalize (lg_sl ([.ref (G.2.1 11 0), .int x1, .int x2]) ++ List.replicate (4 - (lg_sl ([.ref (G.2.1 11 0), .int x1, .int x2])).length) Slot.unset).toArray = ls at hl ⊢
  exact wk_X11_due C0 x1 x2 X hf hP va_S.rf hl
abbrev rm_X3_look : Room := { frames := 0, cells := 0, slots := 0, locals := 0 }
def fn_X3_look (t0 : Nat) (x1 : Int32) (x2 : Int32) (X : SM) : Option (Int32) :=
  if x1 < 0 then
  (some (-1))
  else
  (if (X 3 t0 2) ≤ x1 then
    (some (-1))
    else
    (if x2 < 0 then
      (some (-1))
      else
      (if x2 ≤ 3 then
        (g_let ((((X 3 t0 1) - 1) - x1)) fun x3_5 =>
          if 0 ≤ x3_5 then
          (g_let (((4 * x3_5) + x2)) fun x4_7 =>
            if x4_7 < 0 then
            (some (-1))
            else
            (if 160 ≤ x4_7 then
              (some (-1))
              else
              (if g_in x4_7 160 then
                some (X 21 t0 (x4_7.toNatClampNeg))
                else none)))
          else
          (g_let (((4 * (x3_5 + 40)) + x2)) fun x4_11 =>
            if x4_11 < 0 then
            (some (-1))
            else
            (if 160 ≤ x4_11 then
              (some (-1))
              else
              (if g_in x4_11 160 then
                some (X 21 t0 (x4_11.toNatClampNeg))
                else none))))
        else
        (some (-1)))))
set_option maxRecDepth 100000 in
set_option maxHeartbeats 4000000 in
theorem wk_X3_look {p : Program} {l : Launch} {e : Env} {s : State} {m : MethodId} {args : Array Value} {below : List Frame} {meth : Method} {c : Code} {G : GP} {M : SM} {τ : SL} (C0 : g_mc p s m args meth c RX3 cX3_look (some .int) 5 G) {r0 : Int32} (t0 : Nat) (ht0 : t0 < 2) (x1 : Int32) (x2 : Int32) (X : SM) (hf : fn_X3_look t0 x1 x2 X = some r0) {H : Heap} {locs : List Loc} (hP : va_P G.1 g_cl (wd G (cb X M) τ) H) (hS : va_S (g_A G) s.heap H locs) {ls : Array Slot} (hl : lv_has ls 5 [(0, .ref (G.2.1 3 t0)), (1, .int x1), (2, .int x2)]) : W p l e rm_X3_look s m args below meth c H locs 0 0 (MQ below (va_Qi (fun r u => r = r0 ∧ u = (X, M, τ)) (g_pw G) (g_A G)) args s 0 0 (g_A G)) (F0 m 0 ls []) := by
  obtain ⟨hx, hb, hr, hml, hown, hts, hlocks, hC⟩ := id C0
  unfold fn_X3_look at hf
  refine lv_iload_n hx hb dX3_look_0 rfl (lv_at hl 1 rfl) ?_
  refine lv_if_lt (tgt := 21) hx hb dX3_look_1 (by decide) (fun hc_1 => ?_) (fun hc_1 => ?_)
  · have hf := g_pos hf hc_1
    refine lv_iconst (v := (-1)) hx hb dX3_look_21 (by decide) ?_
    cases hf
    exact x_iret hx hb hlocks hC hP hS hr dX3_look_22
  · have hf := g_neg hf hc_1
    refine lv_iload_n hx hb dX3_look_4 rfl (lv_at hl 1 rfl) ?_
    refine lv_aload_n hx hb dX3_look_5 rfl (lv_at hl 0 rfl) ?_
    refine gt_3_2 hx hb hts hown hC hP ht0 q18_13 dX3_look_6 ?_
    refine lv_icmp_ge (tgt := 21) hx hb dX3_look_9 (by decide) (fun hc_2 => ?_) (fun hc_2 => ?_)
    · have hf := g_pos hf hc_2
      refine lv_iconst (v := (-1)) hx hb dX3_look_21 (by decide) ?_
      cases hf
      exact x_iret hx hb hlocks hC hP hS hr dX3_look_22
    · have hf := g_neg hf hc_2
      refine lv_iload_n hx hb dX3_look_12 rfl (lv_at hl 2 rfl) ?_
      refine lv_if_lt (tgt := 21) hx hb dX3_look_13 (by decide) (fun hc_3 => ?_) (fun hc_3 => ?_)
      · have hf := g_pos hf hc_3
        refine lv_iconst (v := (-1)) hx hb dX3_look_21 (by decide) ?_
        cases hf
        exact x_iret hx hb hlocks hC hP hS hr dX3_look_22
      · have hf := g_neg hf hc_3
        refine lv_iload_n hx hb dX3_look_16 rfl (lv_at hl 2 rfl) ?_
        refine lv_iconst (v := 3) hx hb dX3_look_17 (by decide) ?_
        refine lv_icmp_le (tgt := 23) hx hb dX3_look_18 (by decide) (fun hc_4 => ?_) (fun hc_4 => ?_)
        · have hf := g_pos hf hc_4
          refine lv_aload_n hx hb dX3_look_23 rfl (lv_at hl 0 rfl) ?_
          refine gt_3_1 hx hb hts hown hC hP ht0 q18_12 dX3_look_24 ?_
          refine lv_iconst (v := 1) hx hb dX3_look_27 (by decide) ?_
          refine lv_isub hx hb dX3_look_28 ?_
          refine lv_iload_n hx hb dX3_look_29 rfl (lv_at hl 1 rfl) ?_
          refine lv_isub hx hb dX3_look_30 ?_
          obtain ⟨x3_5, ex3_5, hf⟩ := g_letE hf
          refine lv_topE ex3_5 ?_
          refine lv_istore_n (lv' := [(3, .int x3_5), (0, .ref (G.2.1 3 t0)), (1, .int x1), (2, .int x2)]) hx hb dX3_look_31 rfl hl (by decide) rfl (fun ls hl => ?_)
          refine lv_iconst (v := 4) hx hb dX3_look_32 (by decide) ?_
          refine lv_iload_n hx hb dX3_look_33 rfl (lv_at hl 0 rfl) ?_
          refine lv_if_ge (tgt := 44) hx hb dX3_look_34 (by decide) (fun hc_6 => ?_) (fun hc_6 => ?_)
          · have hf := g_pos hf hc_6
            refine lv_iload_n hx hb dX3_look_44 rfl (lv_at hl 0 rfl) ?_
            refine lv_imul hx hb dX3_look_45 ?_
            refine lv_iload_n hx hb dX3_look_46 rfl (lv_at hl 3 rfl) ?_
            refine lv_iadd hx hb dX3_look_47 ?_
            obtain ⟨x4_7, ex4_7, hf⟩ := g_letE hf
            refine lv_topE ex4_7 ?_
            refine lv_istore (lv' := [(4, .int x4_7), (3, .int x3_5), (0, .ref (G.2.1 3 t0)), (1, .int x1), (2, .int x2)]) hx hb dX3_look_48 hl (by decide) rfl (fun ls hl => ?_)
            refine lv_iload hx hb dX3_look_50 (lv_at hl 0 rfl) ?_
            refine lv_if_lt (tgt := 75) hx hb dX3_look_52 (by decide) (fun hc_8 => ?_) (fun hc_8 => ?_)
            · have hf := g_pos hf hc_8
              refine lv_iconst (v := (-1)) hx hb dX3_look_75 (by decide) ?_
              cases hf
              exact x_iret hx hb hlocks hC hP hS hr dX3_look_76
            · have hf := g_neg hf hc_8
              refine lv_iload hx hb dX3_look_55 (lv_at hl 0 rfl) ?_
              refine lv_aload_n hx hb dX3_look_57 rfl (lv_at hl 2 rfl) ?_
              refine gt_3_0 hx hb hts hown hC hP ht0 q4_13 dX3_look_58 ?_
              refine xlen (k := 21) (n := 160) (v := 160) hx hb hC hP (fun _ _ => rfl) ht0 (by decide) dX3_look_61 ?_
              refine lv_icmp_ge (tgt := 75) hx hb dX3_look_62 (by decide) (fun hc_9 => ?_) (fun hc_9 => ?_)
              · have hf := g_pos hf hc_9
                refine lv_iconst (v := (-1)) hx hb dX3_look_75 (by decide) ?_
                cases hf
                exact x_iret hx hb hlocks hC hP hS hr dX3_look_76
              · have hf := g_neg hf hc_9
                refine lv_aload_n hx hb dX3_look_65 rfl (lv_at hl 2 rfl) ?_
                refine gt_3_0 hx hb hts hown hC hP ht0 q4_13 dX3_look_66 ?_
                refine lv_iload hx hb dX3_look_69 (lv_at hl 0 rfl) ?_
                obtain ⟨hg_10, hf⟩ := g_gd hf
                refine xildX (k := 21) (n := 160) hx hb hC hP (fun _ _ => rfl) rfl ht0 hg_10 dX3_look_71 ?_
                refine lv_goto (tgt := 76) hx hb dX3_look_72 (by decide) ?_
                cases hf
                exact x_iret hx hb hlocks hC hP hS hr dX3_look_76
          · have hf := g_neg hf hc_6
            refine lv_iload_n hx hb dX3_look_37 rfl (lv_at hl 0 rfl) ?_
            refine lv_bipush (v := 40) hx hb dX3_look_38 (by decide) ?_
            refine lv_iadd hx hb dX3_look_40 ?_
            refine lv_goto (tgt := 45) hx hb dX3_look_41 (by decide) ?_
            refine lv_imul hx hb dX3_look_45 ?_
            refine lv_iload_n hx hb dX3_look_46 rfl (lv_at hl 3 rfl) ?_
            refine lv_iadd hx hb dX3_look_47 ?_
            obtain ⟨x4_11, ex4_11, hf⟩ := g_letE hf
            refine lv_topE ex4_11 ?_
            refine lv_istore (lv' := [(4, .int x4_11), (3, .int x3_5), (0, .ref (G.2.1 3 t0)), (1, .int x1), (2, .int x2)]) hx hb dX3_look_48 hl (by decide) rfl (fun ls hl => ?_)
            refine lv_iload hx hb dX3_look_50 (lv_at hl 0 rfl) ?_
            refine lv_if_lt (tgt := 75) hx hb dX3_look_52 (by decide) (fun hc_12 => ?_) (fun hc_12 => ?_)
            · have hf := g_pos hf hc_12
              refine lv_iconst (v := (-1)) hx hb dX3_look_75 (by decide) ?_
              cases hf
              exact x_iret hx hb hlocks hC hP hS hr dX3_look_76
            · have hf := g_neg hf hc_12
              refine lv_iload hx hb dX3_look_55 (lv_at hl 0 rfl) ?_
              refine lv_aload_n hx hb dX3_look_57 rfl (lv_at hl 2 rfl) ?_
              refine gt_3_0 hx hb hts hown hC hP ht0 q4_13 dX3_look_58 ?_
              refine xlen (k := 21) (n := 160) (v := 160) hx hb hC hP (fun _ _ => rfl) ht0 (by decide) dX3_look_61 ?_
              refine lv_icmp_ge (tgt := 75) hx hb dX3_look_62 (by decide) (fun hc_13 => ?_) (fun hc_13 => ?_)
              · have hf := g_pos hf hc_13
                refine lv_iconst (v := (-1)) hx hb dX3_look_75 (by decide) ?_
                cases hf
                exact x_iret hx hb hlocks hC hP hS hr dX3_look_76
              · have hf := g_neg hf hc_13
                refine lv_aload_n hx hb dX3_look_65 rfl (lv_at hl 2 rfl) ?_
                refine gt_3_0 hx hb hts hown hC hP ht0 q4_13 dX3_look_66 ?_
                refine lv_iload hx hb dX3_look_69 (lv_at hl 0 rfl) ?_
                obtain ⟨hg_14, hf⟩ := g_gd hf
                refine xildX (k := 21) (n := 160) hx hb hC hP (fun _ _ => rfl) rfl ht0 hg_14 dX3_look_71 ?_
                refine lv_goto (tgt := 76) hx hb dX3_look_72 (by decide) ?_
                cases hf
                exact x_iret hx hb hlocks hC hP hS hr dX3_look_76
        · have hf := g_neg hf hc_4
          refine lv_iconst (v := (-1)) hx hb dX3_look_21 (by decide) ?_
          cases hf
          exact x_iret hx hb hlocks hC hP hS hr dX3_look_22
set_option maxRecDepth 100000 in
set_option maxHeartbeats 4000000 in
theorem ct_X3_look (l : Launch) (G : GP) (X M : SM) (τ : SL) (t0 : Nat) (ht0 : t0 < 2) (x1 : Int32) (x2 : Int32) {r0 : Int32} (hf : fn_X3_look t0 x1 x2 X = some r0) : Met l yX3_look (wz yX3_look cX3_look 5 (some .int)) rm_X3_look (va_Pc [.ref (G.2.1 3 t0), .int x1, .int x2] (g_pw G (X, M, τ))) (va_Qi (fun r u => r = r0 ∧ u = (X, M, τ)) (g_pw G) (g_A G)) 0 0 (g_A G) := by
  refine Met.ofW (cc := cX3_look) (maxL := 5) (ret := (some .int)) (by decide) rfl ?_
  intro p e s m args below meth c s₁ B hml hv
  obtain ⟨rfl, hC, hP⟩ := hv
  have C0 : g_mc p s m _ meth c RX3 cX3_look (some .int) 5 G := ⟨B.exec, B.bytes, B.returns, hml, findClass_of_methodNamed B.named, fun w h => atoms_spec (ws := wz yX3_look cX3_look 5 (some .int)) B.pre w (List.mem_cons_of_mem _ h), B.notSynchronized, hC⟩
  have hl := lv_entry ([.ref (G.2.1 3 t0), .int x1, .int x2]) (n := 5) (Nat.le_of_ble_eq_true rfl)
  rw [lg_entry_eq]
  generalize (lg_sl ([.ref (G.2.1 3 t0), .int x1, .int x2]) ++ List.replicate (5 - (lg_sl ([.ref (G.2.1 3 t0), .int x1, .int x2])).length) Slot.unset).toArray = ls at hl ⊢
  exact wk_X3_look C0 t0 ht0 x1 x2 X hf hP va_S.rf hl
abbrev rm_X11_edge : Room := { frames := 1, cells := 0, slots := 0, locals := 24 }
def fn_X11_edge (x1 : Int32) (x2 : Int32) (X : SM) : Option (Int32) :=
  (fn_X3_look 0 x1 x2 X).bind fun r_1 =>
  some r_1
set_option maxRecDepth 100000 in
set_option maxHeartbeats 4000000 in
theorem wk_X11_edge {p : Program} {l : Launch} {e : Env} {s : State} {m : MethodId} {args : Array Value} {below : List Frame} {meth : Method} {c : Code} {G : GP} {M : SM} {τ : SL} (C0 : g_mc p s m args meth c RX11 cX11_edge (some .int) 3 G) {r0 : Int32} (x1 : Int32) (x2 : Int32) (X : SM) (hf : fn_X11_edge x1 x2 X = some r0) {H : Heap} {locs : List Loc} (hP : va_P G.1 g_cl (wd G (cb X M) τ) H) (hS : va_S (g_A G) s.heap H locs) {ls : Array Slot} (hl : lv_has ls 3 [(0, .ref (G.2.1 11 0)), (1, .int x1), (2, .int x2)]) : W p l e rm_X11_edge s m args below meth c H locs 0 0 (MQ below (va_Qi (fun r u => r = r0 ∧ u = (X, M, τ)) (g_pw G) (g_A G)) args s 0 0 (g_A G)) (F0 m 0 ls []) := by
  obtain ⟨hx, hb, hr, hml, hown, hts, hlocks, hC⟩ := id C0
  unfold fn_X11_edge at hf
  refine lv_aload_n hx hb dX11_edge_0 rfl (lv_at hl 0 rfl) ?_
  refine gt_11_2 hx hb hts hown hC hP Nat.zero_lt_one q2_0 dX11_edge_1 ?_
  refine gt_7_1 hx hb hts hown hC hP (by decide) q11_21 dX11_edge_4 ?_
  refine gt_8_2 hx hb hts hown hC hP (by decide) q34_0 dX11_edge_7 ?_
  refine lv_iload_n hx hb dX11_edge_10 rfl (lv_at hl 1 rfl) ?_
  refine lv_iload_n hx hb dX11_edge_11 rfl (lv_at hl 2 rfl) ?_
  obtain ⟨r_1, hc_2, hf⟩ := g_bindE hf
  refine x_calli (v := (X, M, τ)) (va_runV (As := [.int x1, .int x2]) (rest := []) ⟨hx, hb, hml, hown, hts⟩ (ct_X3_look l G X M τ 0 (by decide) x1 x2 hc_2) (cwV 2 hts gd_X11_216 rfl rfl rfl hd_X3_look ⟨Nat.le_of_ble_eq_true rfl, Nat.le_of_ble_eq_true rfl⟩) (x_preV (u := (X, M, τ)) (k := 3) (ci := 3) hC hS hP (by decide) rfl rfl) rfl rfl hl.1 rfl (lv_room (Nat.le_of_ble_eq_true rfl)) dX11_edge_12 ⟨Nat.le_refl _, Nat.le_refl _⟩) hS (fun H locs hP hS => ?_)
  cases hf
  exact x_iret hx hb hlocks hC hP hS hr dX11_edge_15
set_option maxRecDepth 100000 in
set_option maxHeartbeats 4000000 in
theorem ct_X11_edge (l : Launch) (G : GP) (X M : SM) (τ : SL) (x1 : Int32) (x2 : Int32) {r0 : Int32} (hf : fn_X11_edge x1 x2 X = some r0) : Met l yX11_edge (wz yX11_edge cX11_edge 3 (some .int)) rm_X11_edge (va_Pc [.ref (G.2.1 11 0), .int x1, .int x2] (g_pw G (X, M, τ))) (va_Qi (fun r u => r = r0 ∧ u = (X, M, τ)) (g_pw G) (g_A G)) 0 0 (g_A G) := by
  refine Met.ofW (cc := cX11_edge) (maxL := 3) (ret := (some .int)) (by decide) rfl ?_
  intro p e s m args below meth c s₁ B hml hv
  obtain ⟨rfl, hC, hP⟩ := hv
  have C0 : g_mc p s m _ meth c RX11 cX11_edge (some .int) 3 G := ⟨B.exec, B.bytes, B.returns, hml, findClass_of_methodNamed B.named, fun w h => atoms_spec (ws := wz yX11_edge cX11_edge 3 (some .int)) B.pre w (List.mem_cons_of_mem _ h), B.notSynchronized, hC⟩
  have hl := lv_entry ([.ref (G.2.1 11 0), .int x1, .int x2]) (n := 3) (Nat.le_of_ble_eq_true rfl)
  rw [lg_entry_eq]
  generalize (lg_sl ([.ref (G.2.1 11 0), .int x1, .int x2]) ++ List.replicate (3 - (lg_sl ([.ref (G.2.1 11 0), .int x1, .int x2])).length) Slot.unset).toArray = ls at hl ⊢
  exact wk_X11_edge C0 x1 x2 X hf hP va_S.rf hl
abbrev rm_X5_append : Room := { frames := 0, cells := 0, slots := 0, locals := 0 }
def fn_X5_append (x1 : Int32) (x2 : Int32) (x3 : Int32) (X : SM) : Option (Int32 × SM) :=
  if (X 5 0 3) < 0 then
  (some ((-1), X))
  else
  (if (X 5 0 3) < 32 then
    (if g_in (X 5 0 3) 32 then
      g_let (u1 X 22 0 ((X 5 0 3).toNatClampNeg) x1) fun X_4 =>
      if g_in (X_4 5 0 3) 32 then
      g_let (u1 X_4 23 0 ((X_4 5 0 3).toNatClampNeg) x2) fun X_6 =>
      if g_in (X_6 5 0 3) 32 then
      g_let (u1 X_6 24 0 ((X_6 5 0 3).toNatClampNeg) x3) fun X_8 =>
      g_let (u1 X_8 5 0 3 ((X_8 5 0 3) + 1)) fun X_9 =>
      some ((X_9 5 0 3), X_9)
      else none
      else none
      else none)
    else
    (some ((-1), X)))
set_option maxRecDepth 100000 in
set_option maxHeartbeats 4000000 in
theorem wk_X5_append {p : Program} {l : Launch} {e : Env} {s : State} {m : MethodId} {args : Array Value} {below : List Frame} {meth : Method} {c : Code} {G : GP} {M : SM} {τ : SL} (C0 : g_mc p s m args meth c RX5 cX5_append (some .int) 4 G) {r0 : Int32} {X0 : SM} (x1 : Int32) (x2 : Int32) (x3 : Int32) (X : SM) (hf : fn_X5_append x1 x2 x3 X = some (r0, X0)) {H : Heap} {locs : List Loc} (hP : va_P G.1 g_cl (wd G (cb X M) τ) H) (hS : va_S (g_A G) s.heap H locs) {ls : Array Slot} (hl : lv_has ls 4 [(0, .ref (G.2.1 5 0)), (1, .int x1), (2, .int x2), (3, .int x3)]) : W p l e rm_X5_append s m args below meth c H locs 0 0 (MQ below (va_Qi (fun r u => r = r0 ∧ u = (X0, M, τ)) (g_pw G) (g_A G)) args s 0 0 (g_A G)) (F0 m 0 ls []) := by
  obtain ⟨hx, hb, hr, hml, hown, hts, hlocks, hC⟩ := id C0
  unfold fn_X5_append at hf
  refine lv_aload_n hx hb dX5_append_0 rfl (lv_at hl 0 rfl) ?_
  refine gt_5_3 hx hb hts hown hC hP Nat.zero_lt_one q12_22 dX5_append_1 ?_
  refine lv_if_lt (tgt := 16) hx hb dX5_append_4 (by decide) (fun hc_1 => ?_) (fun hc_1 => ?_)
  · have hf := g_pos hf hc_1
    refine lv_iconst (v := (-1)) hx hb dX5_append_16 (by decide) ?_
    cases hf
    exact x_iret hx hb hlocks hC hP hS hr dX5_append_17
  · have hf := g_neg hf hc_1
    refine lv_aload_n hx hb dX5_append_7 rfl (lv_at hl 0 rfl) ?_
    refine gt_5_3 hx hb hts hown hC hP Nat.zero_lt_one q12_22 dX5_append_8 ?_
    refine lv_bipush (v := 32) hx hb dX5_append_11 (by decide) ?_
    refine lv_icmp_lt (tgt := 18) hx hb dX5_append_13 (by decide) (fun hc_2 => ?_) (fun hc_2 => ?_)
    · have hf := g_pos hf hc_2
      refine lv_aload_n hx hb dX5_append_18 rfl (lv_at hl 0 rfl) ?_
      refine gt_5_0 hx hb hts hown hC hP Nat.zero_lt_one q3_2 dX5_append_19 ?_
      refine lv_aload_n hx hb dX5_append_22 rfl (lv_at hl 0 rfl) ?_
      refine gt_5_3 hx hb hts hown hC hP Nat.zero_lt_one q12_22 dX5_append_23 ?_
      refine lv_iload_n hx hb dX5_append_26 rfl (lv_at hl 1 rfl) ?_
      obtain ⟨hg_3, hf⟩ := g_gd hf
      obtain ⟨X_4, eX_4, hf⟩ := g_letE hf
      refine xistX (k := 22) (n := 32) hx hb hC hP hS (fun _ _ => rfl) rfl Nat.zero_lt_one hg_3 dX5_append_27 (fun H locs hP hS => ?_)
      rw [eX_4] at hP
      refine lv_aload_n hx hb dX5_append_28 rfl (lv_at hl 0 rfl) ?_
      refine gt_5_1 hx hb hts hown hC hP Nat.zero_lt_one q3_3 dX5_append_29 ?_
      refine lv_aload_n hx hb dX5_append_32 rfl (lv_at hl 0 rfl) ?_
      refine gt_5_3 hx hb hts hown hC hP Nat.zero_lt_one q12_22 dX5_append_33 ?_
      refine lv_iload_n hx hb dX5_append_36 rfl (lv_at hl 2 rfl) ?_
      obtain ⟨hg_5, hf⟩ := g_gd hf
      obtain ⟨X_6, eX_6, hf⟩ := g_letE hf
      refine xistX (k := 23) (n := 32) hx hb hC hP hS (fun _ _ => rfl) rfl Nat.zero_lt_one hg_5 dX5_append_37 (fun H locs hP hS => ?_)
      rw [eX_6] at hP
      refine lv_aload_n hx hb dX5_append_38 rfl (lv_at hl 0 rfl) ?_
      refine gt_5_2 hx hb hts hown hC hP Nat.zero_lt_one q3_4 dX5_append_39 ?_
      refine lv_aload_n hx hb dX5_append_42 rfl (lv_at hl 0 rfl) ?_
      refine gt_5_3 hx hb hts hown hC hP Nat.zero_lt_one q12_22 dX5_append_43 ?_
      refine lv_iload_n hx hb dX5_append_46 rfl (lv_at hl 3 rfl) ?_
      obtain ⟨hg_7, hf⟩ := g_gd hf
      obtain ⟨X_8, eX_8, hf⟩ := g_letE hf
      refine xistX (k := 24) (n := 32) hx hb hC hP hS (fun _ _ => rfl) rfl Nat.zero_lt_one hg_7 dX5_append_47 (fun H locs hP hS => ?_)
      rw [eX_8] at hP
      refine lv_aload_n hx hb dX5_append_48 rfl (lv_at hl 0 rfl) ?_
      refine lv_dup hx hb dX5_append_49 rfl ?_
      refine gt_5_3 hx hb hts hown hC hP Nat.zero_lt_one q12_22 dX5_append_50 ?_
      refine lv_iconst (v := 1) hx hb dX5_append_53 (by decide) ?_
      refine lv_iadd hx hb dX5_append_54 ?_
      obtain ⟨X_9, eX_9, hf⟩ := g_letE hf
      refine pt_5_3 hx hb hts hown hC hP hS Nat.zero_lt_one q12_22 dX5_append_55 (fun H locs hP hS => ?_)
      rw [eX_9] at hP
      refine lv_aload_n hx hb dX5_append_58 rfl (lv_at hl 0 rfl) ?_
      refine gt_5_3 hx hb hts hown hC hP Nat.zero_lt_one q12_22 dX5_append_59 ?_
      cases hf
      exact x_iret hx hb hlocks hC hP hS hr dX5_append_62
    · have hf := g_neg hf hc_2
      refine lv_iconst (v := (-1)) hx hb dX5_append_16 (by decide) ?_
      cases hf
      exact x_iret hx hb hlocks hC hP hS hr dX5_append_17
set_option maxRecDepth 100000 in
set_option maxHeartbeats 4000000 in
theorem ct_X5_append (l : Launch) (G : GP) (X M : SM) (τ : SL) (x1 : Int32) (x2 : Int32) (x3 : Int32) {r0 : Int32} {X0 : SM} (hf : fn_X5_append x1 x2 x3 X = some (r0, X0)) : Met l yX5_append (wz yX5_append cX5_append 4 (some .int)) rm_X5_append (va_Pc [.ref (G.2.1 5 0), .int x1, .int x2, .int x3] (g_pw G (X, M, τ))) (va_Qi (fun r u => r = r0 ∧ u = (X0, M, τ)) (g_pw G) (g_A G)) 0 0 (g_A G) := by
  refine Met.ofW (cc := cX5_append) (maxL := 4) (ret := (some .int)) (by decide) rfl ?_
  intro p e s m args below meth c s₁ B hml hv
  obtain ⟨rfl, hC, hP⟩ := hv
  have C0 : g_mc p s m _ meth c RX5 cX5_append (some .int) 4 G := ⟨B.exec, B.bytes, B.returns, hml, findClass_of_methodNamed B.named, fun w h => atoms_spec (ws := wz yX5_append cX5_append 4 (some .int)) B.pre w (List.mem_cons_of_mem _ h), B.notSynchronized, hC⟩
  have hl := lv_entry ([.ref (G.2.1 5 0), .int x1, .int x2, .int x3]) (n := 4) (Nat.le_of_ble_eq_true rfl)
  rw [lg_entry_eq]
  generalize (lg_sl ([.ref (G.2.1 5 0), .int x1, .int x2, .int x3]) ++ List.replicate (4 - (lg_sl ([.ref (G.2.1 5 0), .int x1, .int x2, .int x3])).length) Slot.unset).toArray = ls at hl ⊢
  exact wk_X5_append C0 x1 x2 x3 X hf hP va_S.rf hl
abbrev rm_X11_event : Room := { frames := 2, cells := 0, slots := 0, locals := 41 }
def fn_X11_event (x1 : Int32) (x2 : Int32) (x3 : Int32) (X : SM) : Option (Int32 × SM) :=
  (fn_X8_kindOf 0 x1 X).bind fun r_1 =>
  if r_1 = 0 then
  (if x2 < (X 7 0 5) then
    (some ((-1), X))
    else
    (if x2 ≤ 99999 then
      (if x3 = 0 then
        ((fn_X5_append x1 x2 0 X).bind fun (r_7, X_8) =>
          some (r_7, X_8))
        else
        ((fn_X5_append x1 x2 1 X).bind fun (r_10, X_11) =>
          some (r_10, X_11)))
      else
      (some ((-1), X))))
  else
  (some ((-1), X))
set_option maxRecDepth 100000 in
set_option maxHeartbeats 4000000 in
theorem wk_X11_event {p : Program} {l : Launch} {e : Env} {s : State} {m : MethodId} {args : Array Value} {below : List Frame} {meth : Method} {c : Code} {G : GP} {M : SM} {τ : SL} (C0 : g_mc p s m args meth c RX11 cX11_event (some .int) 4 G) {r0 : Int32} {X0 : SM} (x1 : Int32) (x2 : Int32) (x3 : Int32) (X : SM) (hf : fn_X11_event x1 x2 x3 X = some (r0, X0)) {H : Heap} {locs : List Loc} (hP : va_P G.1 g_cl (wd G (cb X M) τ) H) (hS : va_S (g_A G) s.heap H locs) {ls : Array Slot} (hl : lv_has ls 4 [(0, .ref (G.2.1 11 0)), (1, .int x1), (2, .int x2), (3, .int x3)]) : W p l e rm_X11_event s m args below meth c H locs 0 0 (MQ below (va_Qi (fun r u => r = r0 ∧ u = (X0, M, τ)) (g_pw G) (g_A G)) args s 0 0 (g_A G)) (F0 m 0 ls []) := by
  obtain ⟨hx, hb, hr, hml, hown, hts, hlocks, hC⟩ := id C0
  unfold fn_X11_event at hf
  refine lv_aload_n hx hb dX11_event_0 rfl (lv_at hl 0 rfl) ?_
  refine gt_11_2 hx hb hts hown hC hP Nat.zero_lt_one q2_0 dX11_event_1 ?_
  refine gt_7_1 hx hb hts hown hC hP (by decide) q11_21 dX11_event_4 ?_
  refine lv_iload_n hx hb dX11_event_7 rfl (lv_at hl 1 rfl) ?_
  obtain ⟨r_1, hc_2, hf⟩ := g_bindE hf
  refine x_calli (v := (X, M, τ)) (va_runV (As := [.int x1]) (rest := []) ⟨hx, hb, hml, hown, hts⟩ (ct_X8_kindOf l G X M τ 0 (by decide) x1 hc_2) (cwV 1 hts gd_X11_111 rfl rfl rfl hd_X8_kindOf ⟨Nat.le_of_ble_eq_true rfl, Nat.le_of_ble_eq_true rfl⟩) (x_preV (u := (X, M, τ)) (k := 8) (ci := 8) hC hS hP (by decide) rfl rfl) rfl rfl hl.1 rfl (lv_room (Nat.le_of_ble_eq_true rfl)) dX11_event_8 ⟨Nat.le_refl _, Nat.le_refl _⟩) hS (fun H locs hP hS => ?_)
  refine lv_if_ne (tgt := 31) hx hb dX11_event_11 (by decide) (fun hc_3 => ?_) (fun hc_3 => ?_)
  · have hf := g_neg hf hc_3
    refine lv_iconst (v := (-1)) hx hb dX11_event_31 (by decide) ?_
    cases hf
    exact x_iret hx hb hlocks hC hP hS hr dX11_event_32
  · have hf := g_pos hf hc_3
    refine lv_iload_n hx hb dX11_event_14 rfl (lv_at hl 2 rfl) ?_
    refine lv_aload_n hx hb dX11_event_15 rfl (lv_at hl 0 rfl) ?_
    refine gt_11_2 hx hb hts hown hC hP Nat.zero_lt_one q2_0 dX11_event_16 ?_
    refine gt_7_5 hx hb hts hown hC hP (by decide) q12_12 dX11_event_19 ?_
    refine lv_icmp_lt (tgt := 31) hx hb dX11_event_22 (by decide) (fun hc_4 => ?_) (fun hc_4 => ?_)
    · have hf := g_pos hf hc_4
      refine lv_iconst (v := (-1)) hx hb dX11_event_31 (by decide) ?_
      cases hf
      exact x_iret hx hb hlocks hC hP hS hr dX11_event_32
    · have hf := g_neg hf hc_4
      refine lv_iload_n hx hb dX11_event_25 rfl (lv_at hl 2 rfl) ?_
      refine lv_ldc (v := 99999) hx hb hown (hts _ q12_13) dX11_event_26 ?_
      refine lv_icmp_le (tgt := 33) hx hb dX11_event_28 (by decide) (fun hc_5 => ?_) (fun hc_5 => ?_)
      · have hf := g_pos hf hc_5
        refine lv_aload_n hx hb dX11_event_33 rfl (lv_at hl 0 rfl) ?_
        refine gt_11_1 hx hb hts hown hC hP Nat.zero_lt_one q1_20 dX11_event_34 ?_
        refine lv_iload_n hx hb dX11_event_37 rfl (lv_at hl 1 rfl) ?_
        refine lv_iload_n hx hb dX11_event_38 rfl (lv_at hl 2 rfl) ?_
        refine lv_iload_n hx hb dX11_event_39 rfl (lv_at hl 3 rfl) ?_
        refine lv_if_eq (tgt := 47) hx hb dX11_event_40 (by decide) (fun hc_6 => ?_) (fun hc_6 => ?_)
        · have hf := g_pos hf hc_6
          refine lv_iconst (v := 0) hx hb dX11_event_47 (by decide) ?_
          obtain ⟨⟨r_7, X_8⟩, hc_9, hf⟩ := g_bindE hf
          refine x_calli (v := (X_8, M, τ)) (va_runV (As := [.int x1, .int x2, .int 0]) (rest := []) ⟨hx, hb, hml, hown, hts⟩ (ct_X5_append l G X M τ x1 x2 0 hc_9) (cwV 3 hts gd_X11_118 rfl rfl rfl hd_X5_append ⟨Nat.le_of_ble_eq_true rfl, Nat.le_of_ble_eq_true rfl⟩) (x_preV (u := (X, M, τ)) (k := 5) (ci := 5) hC hS hP Nat.zero_lt_one rfl rfl) rfl rfl hl.1 rfl (lv_room (Nat.le_of_ble_eq_true rfl)) dX11_event_48 ⟨Nat.le_refl _, Nat.le_refl _⟩) hS (fun H locs hP hS => ?_)
          cases hf
          exact x_iret hx hb hlocks hC hP hS hr dX11_event_51
        · have hf := g_neg hf hc_6
          refine lv_iconst (v := 1) hx hb dX11_event_43 (by decide) ?_
          refine lv_goto (tgt := 48) hx hb dX11_event_44 (by decide) ?_
          obtain ⟨⟨r_10, X_11⟩, hc_12, hf⟩ := g_bindE hf
          refine x_calli (v := (X_11, M, τ)) (va_runV (As := [.int x1, .int x2, .int 1]) (rest := []) ⟨hx, hb, hml, hown, hts⟩ (ct_X5_append l G X M τ x1 x2 1 hc_12) (cwV 3 hts gd_X11_118 rfl rfl rfl hd_X5_append ⟨Nat.le_of_ble_eq_true rfl, Nat.le_of_ble_eq_true rfl⟩) (x_preV (u := (X, M, τ)) (k := 5) (ci := 5) hC hS hP Nat.zero_lt_one rfl rfl) rfl rfl hl.1 rfl (lv_room (Nat.le_of_ble_eq_true rfl)) dX11_event_48 ⟨Nat.le_refl _, Nat.le_refl _⟩) hS (fun H locs hP hS => ?_)
          cases hf
          exact x_iret hx hb hlocks hC hP hS hr dX11_event_51
      · have hf := g_neg hf hc_5
        refine lv_iconst (v := (-1)) hx hb dX11_event_31 (by decide) ?_
        cases hf
        exact x_iret hx hb hlocks hC hP hS hr dX11_event_32
set_option maxRecDepth 100000 in
set_option maxHeartbeats 4000000 in
theorem ct_X11_event (l : Launch) (G : GP) (X M : SM) (τ : SL) (x1 : Int32) (x2 : Int32) (x3 : Int32) {r0 : Int32} {X0 : SM} (hf : fn_X11_event x1 x2 x3 X = some (r0, X0)) : Met l yX11_event (wz yX11_event cX11_event 4 (some .int)) rm_X11_event (va_Pc [.ref (G.2.1 11 0), .int x1, .int x2, .int x3] (g_pw G (X, M, τ))) (va_Qi (fun r u => r = r0 ∧ u = (X0, M, τ)) (g_pw G) (g_A G)) 0 0 (g_A G) := by
  refine Met.ofW (cc := cX11_event) (maxL := 4) (ret := (some .int)) (by decide) rfl ?_
  intro p e s m args below meth c s₁ B hml hv
  obtain ⟨rfl, hC, hP⟩ := hv
  have C0 : g_mc p s m _ meth c RX11 cX11_event (some .int) 4 G := ⟨B.exec, B.bytes, B.returns, hml, findClass_of_methodNamed B.named, fun w h => atoms_spec (ws := wz yX11_event cX11_event 4 (some .int)) B.pre w (List.mem_cons_of_mem _ h), B.notSynchronized, hC⟩
  have hl := lv_entry ([.ref (G.2.1 11 0), .int x1, .int x2, .int x3]) (n := 4) (Nat.le_of_ble_eq_true rfl)
  rw [lg_entry_eq]
  generalize (lg_sl ([.ref (G.2.1 11 0), .int x1, .int x2, .int x3]) ++ List.replicate (4 - (lg_sl ([.ref (G.2.1 11 0), .int x1, .int x2, .int x3])).length) Slot.unset).toArray = ls at hl ⊢
  exact wk_X11_event C0 x1 x2 x3 X hf hP va_S.rf hl
abbrev rm_X6_note : Room := { frames := 0, cells := 0, slots := 0, locals := 0 }
def wb_X6_note_2 (k2 : Int32 → Int32 → SM → Option (SM)) (x2 : Int32) (x3 : Int32) (X : SM) : Option (SM) :=
  if 6 ≤ x3 then
  (some X)
  else
  (if g_in x3 6 then
    if (X 36 0 (x3.toNatClampNeg)) ≤ 0 then
    (if g_in ((x2 * 6) + x3) 390 then
      g_let (u1 X 26 0 (((x2 * 6) + x3).toNatClampNeg) 0) fun X_5 =>
      g_let (x3 + 1) fun x3_6 =>
      k2 x2 x3_6 X_5
      else none)
    else
    (if g_in x3 6 then
      if g_in ((x2 * 6) + x3) 390 then
      g_let (u1 X 26 0 (((x2 * 6) + x3).toNatClampNeg) ((X 25 0 (x3.toNatClampNeg)) - x2)) fun X_9 =>
      g_let (x3 + 1) fun x3_10 =>
      k2 x2 x3_10 X_9
      else none
      else none)
    else none)
set_option maxRecDepth 100000 in
set_option maxHeartbeats 4000000 in
theorem bk_X6_note_2 {p : Program} {l : Launch} {e : Env} {s : State} {m : MethodId} {args : Array Value} {below : List Frame} {meth : Method} {c : Code} {G : GP} {M : SM} {τ : SL} (C0 : g_mc p s m args meth c RX6 cX6_note none 4 G) {X0 : SM} (k2 : Int32 → Int32 → SM → Option (SM)) (hk2 : ∀ (x2 : Int32) (x3 : Int32) (X : SM), k2 x2 x3 X = some X0 → ∀ {H : Heap} {locs : List Loc}, va_P G.1 g_cl (wd G (cb X M) τ) H → va_S (g_A G) s.heap H locs → ∀ {ls : Array Slot}, lv_has ls 4 [(0, .ref (G.2.1 6 0)), (1, .ref (G.2.1 36 0)), (2, .int x2), (3, .int x3)] → W p l e rm_X6_note s m args below meth c H locs 0 0 (MQ below (va_Qv (fun u => u = (X0, M, τ)) (g_pw G) (g_A G)) args s 0 0 (g_A G)) (F0 m 2 ls [])) (x2 : Int32) (x3 : Int32) (X : SM) (hf : wb_X6_note_2 k2 x2 x3 X = some X0) {H : Heap} {locs : List Loc} (hP : va_P G.1 g_cl (wd G (cb X M) τ) H) (hS : va_S (g_A G) s.heap H locs) {ls : Array Slot} (hl : lv_has ls 4 [(0, .ref (G.2.1 6 0)), (1, .ref (G.2.1 36 0)), (2, .int x2), (3, .int x3)]) : W p l e rm_X6_note s m args below meth c H locs 0 0 (MQ below (va_Qv (fun u => u = (X0, M, τ)) (g_pw G) (g_A G)) args s 0 0 (g_A G)) (F0 m 2 ls []) := by
  obtain ⟨hx, hb, hr, hml, hown, hts, hlocks, hC⟩ := id C0
  unfold wb_X6_note_2 at hf
  refine lv_iload_n hx hb dX6_note_2 rfl (lv_at hl 3 rfl) ?_
  refine lv_bipush (v := 6) hx hb dX6_note_3 (by decide) ?_
  refine lv_icmp_ge (tgt := 43) hx hb dX6_note_5 (by decide) (fun hc_1 => ?_) (fun hc_1 => ?_)
  · have hf := g_pos hf hc_1
    cases hf
    exact x_vret hx hb hlocks hC hP hS hr dX6_note_43
  · have hf := g_neg hf hc_1
    refine lv_aload_n hx hb dX6_note_8 rfl (lv_at hl 0 rfl) ?_
    refine gt_6_1 hx hb hts hown hC hP Nat.zero_lt_one q6_11 dX6_note_9 ?_
    refine lv_iload_n hx hb dX6_note_12 rfl (lv_at hl 2 rfl) ?_
    refine lv_bipush (v := 6) hx hb dX6_note_13 (by decide) ?_
    refine lv_imul hx hb dX6_note_15 ?_
    refine lv_iload_n hx hb dX6_note_16 rfl (lv_at hl 3 rfl) ?_
    refine lv_iadd hx hb dX6_note_17 ?_
    refine lv_aload_n hx hb dX6_note_18 rfl (lv_at hl 1 rfl) ?_
    refine lv_iload_n hx hb dX6_note_19 rfl (lv_at hl 3 rfl) ?_
    obtain ⟨hg_2, hf⟩ := g_gd hf
    refine xildX (k := 36) (n := 6) hx hb hC hP (fun _ _ => rfl) rfl Nat.zero_lt_one hg_2 dX6_note_20 ?_
    refine lv_if_le (tgt := 35) hx hb dX6_note_21 (by decide) (fun hc_3 => ?_) (fun hc_3 => ?_)
    · have hf := g_pos hf hc_3
      refine lv_iconst (v := 0) hx hb dX6_note_35 (by decide) ?_
      obtain ⟨hg_4, hf⟩ := g_gd hf
      obtain ⟨X_5, eX_5, hf⟩ := g_letE hf
      refine xistX (k := 26) (n := 390) hx hb hC hP hS (fun _ _ => rfl) rfl Nat.zero_lt_one hg_4 dX6_note_36 (fun H locs hP hS => ?_)
      rw [eX_5] at hP
      obtain ⟨x3_6, ex3_6, hf⟩ := g_letE hf
      refine lv_iinc (v := x3_6) (lv' := [(3, .int x3_6), (0, .ref (G.2.1 6 0)), (1, .ref (G.2.1 36 0)), (2, .int x2)]) hx hb dX6_note_37 hl (k := 3) rfl (by rw [← ex3_6]; rfl) (by decide) rfl (fun ls hl => ?_)
      refine lv_goto (tgt := 2) hx hb dX6_note_40 (by decide) ?_
      exact hk2 x2 x3_6 X_5 hf hP hS (lv_sub hl [1, 2, 3, 0] rfl)
    · have hf := g_neg hf hc_3
      refine lv_aload_n hx hb dX6_note_24 rfl (lv_at hl 0 rfl) ?_
      refine gt_6_0 hx hb hts hown hC hP Nat.zero_lt_one q6_10 dX6_note_25 ?_
      refine lv_iload_n hx hb dX6_note_28 rfl (lv_at hl 3 rfl) ?_
      obtain ⟨hg_7, hf⟩ := g_gd hf
      refine xildX (k := 25) (n := 6) hx hb hC hP (fun _ _ => rfl) rfl Nat.zero_lt_one hg_7 dX6_note_29 ?_
      refine lv_iload_n hx hb dX6_note_30 rfl (lv_at hl 2 rfl) ?_
      refine lv_isub hx hb dX6_note_31 ?_
      refine lv_goto (tgt := 36) hx hb dX6_note_32 (by decide) ?_
      obtain ⟨hg_8, hf⟩ := g_gd hf
      obtain ⟨X_9, eX_9, hf⟩ := g_letE hf
      refine xistX (k := 26) (n := 390) hx hb hC hP hS (fun _ _ => rfl) rfl Nat.zero_lt_one hg_8 dX6_note_36 (fun H locs hP hS => ?_)
      rw [eX_9] at hP
      obtain ⟨x3_10, ex3_10, hf⟩ := g_letE hf
      refine lv_iinc (v := x3_10) (lv' := [(3, .int x3_10), (0, .ref (G.2.1 6 0)), (1, .ref (G.2.1 36 0)), (2, .int x2)]) hx hb dX6_note_37 hl (k := 3) rfl (by rw [← ex3_10]; rfl) (by decide) rfl (fun ls hl => ?_)
      refine lv_goto (tgt := 2) hx hb dX6_note_40 (by decide) ?_
      exact hk2 x2 x3_10 X_9 hf hP hS (lv_sub hl [1, 2, 3, 0] rfl)
def wl_X6_note_2 (n : Nat) (x2 : Int32) (x3 : Int32) (X : SM) : Option (SM) := g_loop (α := Int32 × Int32 × SM) (fun k a => wb_X6_note_2 (fun x2 x3 X => k (x2, x3, X)) a.1 a.2.1 a.2.2) n (x2, x3, X)
set_option maxRecDepth 100000 in
set_option maxHeartbeats 4000000 in
theorem lp_X6_note_2 {p : Program} {l : Launch} {e : Env} {s : State} {m : MethodId} {args : Array Value} {below : List Frame} {meth : Method} {c : Code} {G : GP} {M : SM} {τ : SL} (C0 : g_mc p s m args meth c RX6 cX6_note none 4 G) {X0 : SM} (n : Nat) : ∀ (x2 : Int32) (x3 : Int32) (X : SM), wl_X6_note_2 n x2 x3 X = some X0 → ∀ {H : Heap} {locs : List Loc}, va_P G.1 g_cl (wd G (cb X M) τ) H → va_S (g_A G) s.heap H locs → ∀ {ls : Array Slot}, lv_has ls 4 [(0, .ref (G.2.1 6 0)), (1, .ref (G.2.1 36 0)), (2, .int x2), (3, .int x3)] → W p l e rm_X6_note s m args below meth c H locs 0 0 (MQ below (va_Qv (fun u => u = (X0, M, τ)) (g_pw G) (g_A G)) args s 0 0 (g_A G)) (F0 m 2 ls []) := by
  induction n with
  | zero =>
    intro x2 x3 X hf
    have hf : (none : Option (SM)) = _ := hf
    cases hf
  | succ n ih =>
    intro x2 x3 X hf H locs hP hS ls hl
    exact bk_X6_note_2 C0  (fun x2 x3 X => wl_X6_note_2  n x2 x3 X) ih x2 x3 X hf hP hS hl
def fn_X6_note (x2 : Int32) (X : SM) : Option (SM) :=
  wl_X6_note_2 1000 x2 0 X
set_option maxRecDepth 100000 in
set_option maxHeartbeats 4000000 in
theorem wk_X6_note {p : Program} {l : Launch} {e : Env} {s : State} {m : MethodId} {args : Array Value} {below : List Frame} {meth : Method} {c : Code} {G : GP} {M : SM} {τ : SL} (C0 : g_mc p s m args meth c RX6 cX6_note none 4 G) {X0 : SM} (x2 : Int32) (X : SM) (hf : fn_X6_note x2 X = some X0) {H : Heap} {locs : List Loc} (hP : va_P G.1 g_cl (wd G (cb X M) τ) H) (hS : va_S (g_A G) s.heap H locs) {ls : Array Slot} (hl : lv_has ls 4 [(0, .ref (G.2.1 6 0)), (1, .ref (G.2.1 36 0)), (2, .int x2)]) : W p l e rm_X6_note s m args below meth c H locs 0 0 (MQ below (va_Qv (fun u => u = (X0, M, τ)) (g_pw G) (g_A G)) args s 0 0 (g_A G)) (F0 m 0 ls []) := by
  obtain ⟨hx, hb, hr, hml, hown, hts, hlocks, hC⟩ := id C0
  unfold fn_X6_note at hf
  refine lv_iconst (v := 0) hx hb dX6_note_0 (by decide) ?_
  refine lv_istore_n (lv' := [(3, .int 0), (0, .ref (G.2.1 6 0)), (1, .ref (G.2.1 36 0)), (2, .int x2)]) hx hb dX6_note_1 rfl hl (by decide) rfl (fun ls hl => ?_)
  exact lp_X6_note_2 C0 1000 x2 0 X hf hP hS (lv_sub hl [1, 2, 3, 0] rfl)
set_option maxRecDepth 100000 in
set_option maxHeartbeats 4000000 in
theorem ct_X6_note (l : Launch) (G : GP) (X M : SM) (τ : SL) (x2 : Int32) {X0 : SM} (hf : fn_X6_note x2 X = some X0) : Met l yX6_note (wz yX6_note cX6_note 4 none) rm_X6_note (va_Pc [.ref (G.2.1 6 0), .ref (G.2.1 36 0), .int x2] (g_pw G (X, M, τ))) (va_Qv (fun u => u = (X0, M, τ)) (g_pw G) (g_A G)) 0 0 (g_A G) := by
  refine Met.ofW (cc := cX6_note) (maxL := 4) (ret := none) (by decide) rfl ?_
  intro p e s m args below meth c s₁ B hml hv
  obtain ⟨rfl, hC, hP⟩ := hv
  have C0 : g_mc p s m _ meth c RX6 cX6_note none 4 G := ⟨B.exec, B.bytes, B.returns, hml, findClass_of_methodNamed B.named, fun w h => atoms_spec (ws := wz yX6_note cX6_note 4 none) B.pre w (List.mem_cons_of_mem _ h), B.notSynchronized, hC⟩
  have hl := lv_entry ([.ref (G.2.1 6 0), .ref (G.2.1 36 0), .int x2]) (n := 4) (Nat.le_of_ble_eq_true rfl)
  rw [lg_entry_eq]
  generalize (lg_sl ([.ref (G.2.1 6 0), .ref (G.2.1 36 0), .int x2]) ++ List.replicate (4 - (lg_sl ([.ref (G.2.1 6 0), .ref (G.2.1 36 0), .int x2])).length) Slot.unset).toArray = ls at hl ⊢
  exact wk_X6_note C0 x2 X hf hP va_S.rf hl
abbrev rm_X6_isSame : Room := { frames := 0, cells := 0, slots := 0, locals := 0 }
def wb_X6_isSame_2 (k2 : Int32 → Int32 → Int32 → SM → Option (Int32)) (x1 : Int32) (x2 : Int32) (x3 : Int32) (X : SM) : Option (Int32) :=
  if 6 ≤ x3 then
  (some 1)
  else
  (if g_in ((x1 * 6) + x3) 390 then
    if g_in ((x2 * 6) + x3) 390 then
    if (X 26 0 (((x1 * 6) + x3).toNatClampNeg)) = (X 26 0 (((x2 * 6) + x3).toNatClampNeg)) then
    (g_let (x3 + 1) fun x3_5 =>
      k2 x1 x2 x3_5 X)
    else
    (some 0)
    else none
    else none)
set_option maxRecDepth 100000 in
set_option maxHeartbeats 4000000 in
theorem bk_X6_isSame_2 {p : Program} {l : Launch} {e : Env} {s : State} {m : MethodId} {args : Array Value} {below : List Frame} {meth : Method} {c : Code} {G : GP} {M : SM} {τ : SL} (C0 : g_mc p s m args meth c RX6 cX6_isSame (some .boolean) 4 G) {r0 : Int32} (k2 : Int32 → Int32 → Int32 → SM → Option (Int32)) (hk2 : ∀ (x1 : Int32) (x2 : Int32) (x3 : Int32) (X : SM), k2 x1 x2 x3 X = some r0 → ∀ {H : Heap} {locs : List Loc}, va_P G.1 g_cl (wd G (cb X M) τ) H → va_S (g_A G) s.heap H locs → ∀ {ls : Array Slot}, lv_has ls 4 [(0, .ref (G.2.1 6 0)), (1, .int x1), (2, .int x2), (3, .int x3)] → W p l e rm_X6_isSame s m args below meth c H locs 0 0 (MQ below (va_Qi (fun r u => r = r0 ∧ u = (X, M, τ)) (g_pw G) (g_A G)) args s 0 0 (g_A G)) (F0 m 2 ls [])) (x1 : Int32) (x2 : Int32) (x3 : Int32) (X : SM) (hf : wb_X6_isSame_2 k2 x1 x2 x3 X = some r0) {H : Heap} {locs : List Loc} (hP : va_P G.1 g_cl (wd G (cb X M) τ) H) (hS : va_S (g_A G) s.heap H locs) {ls : Array Slot} (hl : lv_has ls 4 [(0, .ref (G.2.1 6 0)), (1, .int x1), (2, .int x2), (3, .int x3)]) : W p l e rm_X6_isSame s m args below meth c H locs 0 0 (MQ below (va_Qi (fun r u => r = r0 ∧ u = (X, M, τ)) (g_pw G) (g_A G)) args s 0 0 (g_A G)) (F0 m 2 ls []) := by
  obtain ⟨hx, hb, hr, hml, hown, hts, hlocks, hC⟩ := id C0
  unfold wb_X6_isSame_2 at hf
  refine lv_iload_n hx hb dX6_isSame_2 rfl (lv_at hl 3 rfl) ?_
  refine lv_bipush (v := 6) hx hb dX6_isSame_3 (by decide) ?_
  refine lv_icmp_ge (tgt := 41) hx hb dX6_isSame_5 (by decide) (fun hc_1 => ?_) (fun hc_1 => ?_)
  · have hf := g_pos hf hc_1
    refine lv_iconst (v := 1) hx hb dX6_isSame_41 (by decide) ?_
    cases hf
    exact x_zret hx hb hlocks hC hP hS hr (Or.inr rfl) dX6_isSame_42
  · have hf := g_neg hf hc_1
    refine lv_aload_n hx hb dX6_isSame_8 rfl (lv_at hl 0 rfl) ?_
    refine gt_6_1 hx hb hts hown hC hP Nat.zero_lt_one q6_11 dX6_isSame_9 ?_
    refine lv_iload_n hx hb dX6_isSame_12 rfl (lv_at hl 1 rfl) ?_
    refine lv_bipush (v := 6) hx hb dX6_isSame_13 (by decide) ?_
    refine lv_imul hx hb dX6_isSame_15 ?_
    refine lv_iload_n hx hb dX6_isSame_16 rfl (lv_at hl 3 rfl) ?_
    refine lv_iadd hx hb dX6_isSame_17 ?_
    obtain ⟨hg_2, hf⟩ := g_gd hf
    refine xildX (k := 26) (n := 390) hx hb hC hP (fun _ _ => rfl) rfl Nat.zero_lt_one hg_2 dX6_isSame_18 ?_
    refine lv_aload_n hx hb dX6_isSame_19 rfl (lv_at hl 0 rfl) ?_
    refine gt_6_1 hx hb hts hown hC hP Nat.zero_lt_one q6_11 dX6_isSame_20 ?_
    refine lv_iload_n hx hb dX6_isSame_23 rfl (lv_at hl 2 rfl) ?_
    refine lv_bipush (v := 6) hx hb dX6_isSame_24 (by decide) ?_
    refine lv_imul hx hb dX6_isSame_26 ?_
    refine lv_iload_n hx hb dX6_isSame_27 rfl (lv_at hl 3 rfl) ?_
    refine lv_iadd hx hb dX6_isSame_28 ?_
    obtain ⟨hg_3, hf⟩ := g_gd hf
    refine xildX (k := 26) (n := 390) hx hb hC hP (fun _ _ => rfl) rfl Nat.zero_lt_one hg_3 dX6_isSame_29 ?_
    refine lv_icmp_eq (tgt := 35) hx hb dX6_isSame_30 (by decide) (fun hc_4 => ?_) (fun hc_4 => ?_)
    · have hf := g_pos hf hc_4
      obtain ⟨x3_5, ex3_5, hf⟩ := g_letE hf
      refine lv_iinc (v := x3_5) (lv' := [(3, .int x3_5), (0, .ref (G.2.1 6 0)), (1, .int x1), (2, .int x2)]) hx hb dX6_isSame_35 hl (k := 3) rfl (by rw [← ex3_5]; rfl) (by decide) rfl (fun ls hl => ?_)
      refine lv_goto (tgt := 2) hx hb dX6_isSame_38 (by decide) ?_
      exact hk2 x1 x2 x3_5 X hf hP hS (lv_sub hl [1, 2, 3, 0] rfl)
    · have hf := g_neg hf hc_4
      refine lv_iconst (v := 0) hx hb dX6_isSame_33 (by decide) ?_
      cases hf
      exact x_zret hx hb hlocks hC hP hS hr (Or.inl rfl) dX6_isSame_34
def wl_X6_isSame_2 (n : Nat) (x1 : Int32) (x2 : Int32) (x3 : Int32) (X : SM) : Option (Int32) := g_loop (α := Int32 × Int32 × Int32 × SM) (fun k a => wb_X6_isSame_2 (fun x1 x2 x3 X => k (x1, x2, x3, X)) a.1 a.2.1 a.2.2.1 a.2.2.2) n (x1, x2, x3, X)
set_option maxRecDepth 100000 in
set_option maxHeartbeats 4000000 in
theorem lp_X6_isSame_2 {p : Program} {l : Launch} {e : Env} {s : State} {m : MethodId} {args : Array Value} {below : List Frame} {meth : Method} {c : Code} {G : GP} {M : SM} {τ : SL} (C0 : g_mc p s m args meth c RX6 cX6_isSame (some .boolean) 4 G) {r0 : Int32} (n : Nat) : ∀ (x1 : Int32) (x2 : Int32) (x3 : Int32) (X : SM), wl_X6_isSame_2 n x1 x2 x3 X = some r0 → ∀ {H : Heap} {locs : List Loc}, va_P G.1 g_cl (wd G (cb X M) τ) H → va_S (g_A G) s.heap H locs → ∀ {ls : Array Slot}, lv_has ls 4 [(0, .ref (G.2.1 6 0)), (1, .int x1), (2, .int x2), (3, .int x3)] → W p l e rm_X6_isSame s m args below meth c H locs 0 0 (MQ below (va_Qi (fun r u => r = r0 ∧ u = (X, M, τ)) (g_pw G) (g_A G)) args s 0 0 (g_A G)) (F0 m 2 ls []) := by
  induction n with
  | zero =>
    intro x1 x2 x3 X hf
    have hf : (none : Option (Int32)) = _ := hf
    cases hf
  | succ n ih =>
    intro x1 x2 x3 X hf H locs hP hS ls hl
    exact bk_X6_isSame_2 C0  (fun x1 x2 x3 X => wl_X6_isSame_2  n x1 x2 x3 X) ih x1 x2 x3 X hf hP hS hl
def fn_X6_isSame (x1 : Int32) (x2 : Int32) (X : SM) : Option (Int32) :=
  wl_X6_isSame_2 1000 x1 x2 0 X
set_option maxRecDepth 100000 in
set_option maxHeartbeats 4000000 in
theorem wk_X6_isSame {p : Program} {l : Launch} {e : Env} {s : State} {m : MethodId} {args : Array Value} {below : List Frame} {meth : Method} {c : Code} {G : GP} {M : SM} {τ : SL} (C0 : g_mc p s m args meth c RX6 cX6_isSame (some .boolean) 4 G) {r0 : Int32} (x1 : Int32) (x2 : Int32) (X : SM) (hf : fn_X6_isSame x1 x2 X = some r0) {H : Heap} {locs : List Loc} (hP : va_P G.1 g_cl (wd G (cb X M) τ) H) (hS : va_S (g_A G) s.heap H locs) {ls : Array Slot} (hl : lv_has ls 4 [(0, .ref (G.2.1 6 0)), (1, .int x1), (2, .int x2)]) : W p l e rm_X6_isSame s m args below meth c H locs 0 0 (MQ below (va_Qi (fun r u => r = r0 ∧ u = (X, M, τ)) (g_pw G) (g_A G)) args s 0 0 (g_A G)) (F0 m 0 ls []) := by
  obtain ⟨hx, hb, hr, hml, hown, hts, hlocks, hC⟩ := id C0
  unfold fn_X6_isSame at hf
  refine lv_iconst (v := 0) hx hb dX6_isSame_0 (by decide) ?_
  refine lv_istore_n (lv' := [(3, .int 0), (0, .ref (G.2.1 6 0)), (1, .int x1), (2, .int x2)]) hx hb dX6_isSame_1 rfl hl (by decide) rfl (fun ls hl => ?_)
  exact lp_X6_isSame_2 C0 1000 x1 x2 0 X hf hP hS (lv_sub hl [1, 2, 3, 0] rfl)
set_option maxRecDepth 100000 in
set_option maxHeartbeats 4000000 in
theorem ct_X6_isSame (l : Launch) (G : GP) (X M : SM) (τ : SL) (x1 : Int32) (x2 : Int32) {r0 : Int32} (hf : fn_X6_isSame x1 x2 X = some r0) : Met l yX6_isSame (wz yX6_isSame cX6_isSame 4 (some .boolean)) rm_X6_isSame (va_Pc [.ref (G.2.1 6 0), .int x1, .int x2] (g_pw G (X, M, τ))) (va_Qi (fun r u => r = r0 ∧ u = (X, M, τ)) (g_pw G) (g_A G)) 0 0 (g_A G) := by
  refine Met.ofW (cc := cX6_isSame) (maxL := 4) (ret := (some .boolean)) (by decide) rfl ?_
  intro p e s m args below meth c s₁ B hml hv
  obtain ⟨rfl, hC, hP⟩ := hv
  have C0 : g_mc p s m _ meth c RX6 cX6_isSame (some .boolean) 4 G := ⟨B.exec, B.bytes, B.returns, hml, findClass_of_methodNamed B.named, fun w h => atoms_spec (ws := wz yX6_isSame cX6_isSame 4 (some .boolean)) B.pre w (List.mem_cons_of_mem _ h), B.notSynchronized, hC⟩
  have hl := lv_entry ([.ref (G.2.1 6 0), .int x1, .int x2]) (n := 4) (Nat.le_of_ble_eq_true rfl)
  rw [lg_entry_eq]
  generalize (lg_sl ([.ref (G.2.1 6 0), .int x1, .int x2]) ++ List.replicate (4 - (lg_sl ([.ref (G.2.1 6 0), .int x1, .int x2])).length) Slot.unset).toArray = ls at hl ⊢
  exact wk_X6_isSame C0 x1 x2 X hf hP va_S.rf hl
