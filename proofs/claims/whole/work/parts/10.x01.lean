abbrev rm_Jxf58ca_isNaN_12338 : Room := { frames := 0, cells := 0, slots := 0, locals := 0 }
def fn_Jxf58ca_isNaN_12338 (x0 : UInt32) : Int32 :=
  if (Op.cmpValue (FP.fcmp x0 x0) CmpOp.l) = 0 then
  (0)
  else
  (1)
set_option maxRecDepth 100000 in
set_option maxHeartbeats 4000000 in
theorem wk_Jxf58ca_isNaN_12338 {p : Program} {l : Launch} {e : Env} {s : State} {m : MethodId} {args : Array Value} {below : List Frame} {meth : Method} {c : Code} {G : GP} {X : SM} {M : SM} {τ : SL} (C0 : g_mc p s m args meth c RJxf58ca cJxf58ca_isNaN_12338 (some .boolean) 1 G) {r0 : Int32} (x0 : UInt32) (hf : fn_Jxf58ca_isNaN_12338 x0 = r0) {H : Heap} {locs : List Loc} (hP : va_P G.1 g_cl (wd G (cb X M) τ) H) (hS : va_S (g_A G) s.heap H locs) {ls : Array Slot} (hl : lv_has ls 1 [(0, .float x0)]) : W p l e rm_Jxf58ca_isNaN_12338 s m args below meth c H locs 0 0 (MQ below (va_Qi (fun r u => r = r0 ∧ u = (X, M, τ)) (g_pw G) (g_A G)) args s 0 0 (g_A G)) (F0 m 0 ls []) := by
  obtain ⟨hx, hb, hr, hml, hown, hts, hlocks, hC⟩ := id C0
  unfold fn_Jxf58ca_isNaN_12338 at hf
  refine lv_fload_n hx hb dJxf58ca_isNaN_12338_0 rfl (lv_at hl 0 rfl) ?_
  refine lv_fload_n hx hb dJxf58ca_isNaN_12338_1 rfl (lv_at hl 0 rfl) ?_
  refine lv_fcmp hx hb dJxf58ca_isNaN_12338_2 ?_
  refine lv_if_eq (tgt := 10) hx hb dJxf58ca_isNaN_12338_3 (by decide) (fun hc_1 => ?_) (fun hc_1 => ?_)
  · have hf := g_pos hf hc_1
    refine lv_iconst (v := 0) hx hb dJxf58ca_isNaN_12338_10 (by decide) ?_
    cases hf
    exact x_zret hx hb hlocks hC hP hS hr (Or.inl rfl) dJxf58ca_isNaN_12338_11
  · have hf := g_neg hf hc_1
    refine lv_iconst (v := 1) hx hb dJxf58ca_isNaN_12338_6 (by decide) ?_
    refine lv_goto (tgt := 11) hx hb dJxf58ca_isNaN_12338_7 (by decide) ?_
    cases hf
    exact x_zret hx hb hlocks hC hP hS hr (Or.inr rfl) dJxf58ca_isNaN_12338_11
set_option maxRecDepth 100000 in
set_option maxHeartbeats 4000000 in
theorem ct_Jxf58ca_isNaN_12338 (l : Launch) (G : GP) (X M : SM) (τ : SL) (x0 : UInt32) {r0 : Int32} (hf : fn_Jxf58ca_isNaN_12338 x0 = r0) : Met l yJxf58ca_isNaN_12338 (wz yJxf58ca_isNaN_12338 cJxf58ca_isNaN_12338 1 (some .boolean)) rm_Jxf58ca_isNaN_12338 (va_Pc [.float x0] (g_pw G (X, M, τ))) (va_Qi (fun r u => r = r0 ∧ u = (X, M, τ)) (g_pw G) (g_A G)) 0 0 (g_A G) := by
  refine x_ofWF (cc := cJxf58ca_isNaN_12338) (maxL := 1) (ret := (some .boolean)) (by decide +kernel) rfl ?_
  intro p e s m args below meth c s₁ B hml hv
  obtain ⟨rfl, hC, hP⟩ := hv
  have C0 : g_mc p s m _ meth c RJxf58ca cJxf58ca_isNaN_12338 (some .boolean) 1 G := ⟨B.exec, B.bytes, B.returns, hml, findClass_of_methodNamed B.named, fun w h => atoms_spec (ws := wz yJxf58ca_isNaN_12338 cJxf58ca_isNaN_12338 1 (some .boolean)) B.pre w (List.mem_cons_of_mem _ h), B.notSynchronized, hC⟩
  have hl := lv_entry ([.float x0]) (n := 1) (Nat.le_of_ble_eq_true rfl)
  rw [lg_entry_eq]
  generalize (lg_sl ([.float x0]) ++ List.replicate (1 - (lg_sl ([.float x0])).length) Slot.unset).toArray = ls at hl ⊢
  exact wk_Jxf58ca_isNaN_12338 C0  x0 hf hP va_S.rf hl
abbrev rm_Jxf58ca_floatToIntBits_5c35a : Room := { frames := 1, cells := 0, slots := 0, locals := 23 }
def fn_Jxf58ca_floatToIntBits_5c35a (x0 : UInt32) : Int32 :=
  g_let (fn_Jxf58ca_isNaN_12338 x0) fun r_1 =>
  if r_1 = 0 then
  ((UInt32.toInt32 x0))
  else
  (2143289344)
set_option maxRecDepth 100000 in
set_option maxHeartbeats 4000000 in
theorem wk_Jxf58ca_floatToIntBits_5c35a {p : Program} {l : Launch} {e : Env} {s : State} {m : MethodId} {args : Array Value} {below : List Frame} {meth : Method} {c : Code} {G : GP} {X : SM} {M : SM} {τ : SL} (C0 : g_mc p s m args meth c RJxf58ca cJxf58ca_floatToIntBits_5c35a (some .int) 1 G) {r0 : Int32} (x0 : UInt32) (hf : fn_Jxf58ca_floatToIntBits_5c35a x0 = r0) {H : Heap} {locs : List Loc} (hP : va_P G.1 g_cl (wd G (cb X M) τ) H) (hS : va_S (g_A G) s.heap H locs) {ls : Array Slot} (hl : lv_has ls 1 [(0, .float x0)]) : W p l e rm_Jxf58ca_floatToIntBits_5c35a s m args below meth c H locs 0 0 (MQ below (va_Qi (fun r u => r = r0 ∧ u = (X, M, τ)) (g_pw G) (g_A G)) args s 0 0 (g_A G)) (F0 m 0 ls []) := by
  obtain ⟨hx, hb, hr, hml, hown, hts, hlocks, hC⟩ := id C0
  unfold fn_Jxf58ca_floatToIntBits_5c35a at hf
  refine lv_fload_n hx hb dJxf58ca_floatToIntBits_5c35a_0 rfl (lv_at hl 0 rfl) ?_
  obtain ⟨r_1, hc_2, hf⟩ := g_letE hf
  refine x_calli (v := (X, M, τ)) (va_runS (As := [.float x0]) (rest := []) ⟨hx, hb, hml, hown, hts⟩ (ct_Jxf58ca_isNaN_12338 l G X M τ x0 hc_2) (cwS 1 hts gd_Jxf58ca_59 rfl rfl rfl hd_Jxf58ca_isNaN_12338 ⟨Nat.le_of_ble_eq_true rfl, Nat.le_of_ble_eq_true rfl⟩) (x_pre (u := (X, M, τ)) hC hS hP) rfl rfl hl.1 rfl (lv_room (Nat.le_of_ble_eq_true rfl)) dJxf58ca_floatToIntBits_5c35a_1 ⟨Nat.zero_le _, Nat.zero_le _⟩) hS (fun H locs hP hS => ?_)
  refine lv_if_ne (tgt := 12) hx hb dJxf58ca_floatToIntBits_5c35a_4 (by decide) (fun hc_3 => ?_) (fun hc_3 => ?_)
  · have hf := g_neg hf hc_3
    refine lv_ldc (v := 2143289344) hx hb hown (hts _ q29_6) dJxf58ca_floatToIntBits_5c35a_12 ?_
    cases hf
    exact x_iret hx hb hlocks hC hP hS hr dJxf58ca_floatToIntBits_5c35a_14
  · have hf := g_pos hf hc_3
    refine lv_fload_n hx hb dJxf58ca_floatToIntBits_5c35a_7 rfl (lv_at hl 0 rfl) ?_
    refine vn_f2i hx hb (by rw [hml]; exact hl.1.symm) hown (hts _ q29_2) (hts _ q29_3) (hts _ q29_4) (hts _ q29_0) (Nat.le_of_ble_eq_true rfl) (Nat.le_of_ble_eq_true rfl) dJxf58ca_floatToIntBits_5c35a_8 ?_
    cases hf
    exact x_iret hx hb hlocks hC hP hS hr dJxf58ca_floatToIntBits_5c35a_11
set_option maxRecDepth 100000 in
set_option maxHeartbeats 4000000 in
theorem ct_Jxf58ca_floatToIntBits_5c35a (l : Launch) (G : GP) (X M : SM) (τ : SL) (x0 : UInt32) {r0 : Int32} (hf : fn_Jxf58ca_floatToIntBits_5c35a x0 = r0) : Met l yJxf58ca_floatToIntBits_5c35a (wz yJxf58ca_floatToIntBits_5c35a cJxf58ca_floatToIntBits_5c35a 1 (some .int)) rm_Jxf58ca_floatToIntBits_5c35a (va_Pc [.float x0] (g_pw G (X, M, τ))) (va_Qi (fun r u => r = r0 ∧ u = (X, M, τ)) (g_pw G) (g_A G)) 0 0 (g_A G) := by
  refine x_ofWF (cc := cJxf58ca_floatToIntBits_5c35a) (maxL := 1) (ret := (some .int)) (by decide +kernel) rfl ?_
  intro p e s m args below meth c s₁ B hml hv
  obtain ⟨rfl, hC, hP⟩ := hv
  have C0 : g_mc p s m _ meth c RJxf58ca cJxf58ca_floatToIntBits_5c35a (some .int) 1 G := ⟨B.exec, B.bytes, B.returns, hml, findClass_of_methodNamed B.named, fun w h => atoms_spec (ws := wz yJxf58ca_floatToIntBits_5c35a cJxf58ca_floatToIntBits_5c35a 1 (some .int)) B.pre w (List.mem_cons_of_mem _ h), B.notSynchronized, hC⟩
  have hl := lv_entry ([.float x0]) (n := 1) (Nat.le_of_ble_eq_true rfl)
  rw [lg_entry_eq]
  generalize (lg_sl ([.float x0]) ++ List.replicate (1 - (lg_sl ([.float x0])).length) Slot.unset).toArray = ls at hl ⊢
  exact wk_Jxf58ca_floatToIntBits_5c35a C0  x0 hf hP va_S.rf hl
theorem nan_decode {r : UInt32} (h : isNaN32 r = true) : FP.Core.decode FP.Core.b32 r.toNat = .nan := by
  unfold isNaN32 at h
  have h1 : 0x7f800000 < (r &&& 0x7fffffff).toNat := by
    have := of_decide_eq_true h
    exact this
  rw [UInt32.toNat_and, show (0x7fffffff : UInt32).toNat = 2 ^ 31 - 1 from rfl, Nat.and_two_pow_sub_one_eq_mod] at h1
  unfold FP.Core.decode FP.Core.fieldE FP.Core.fieldT
  rw [show FP.Core.b32.tails = 8388608 from rfl, show FP.Core.b32.exps = 256 from rfl]
  rw [if_pos (by omega), if_neg (by omega)]
theorem nan_fb {r : UInt32} (h : isNaN32 r = true) : fn_Jxf58ca_floatToIntBits_5c35a r = 2143289344 := by
  have h0 : FP.fcmp r r = none := by
    show FP.Core.order _ _ = none
    rw [nan_decode h]
    rfl
  unfold fn_Jxf58ca_floatToIntBits_5c35a fn_Jxf58ca_isNaN_12338 g_let
  rw [h0]
  rfl
theorem fb_alike {r q : UInt32} (h : alike32 r q = true) : fn_Jxf58ca_floatToIntBits_5c35a r = fn_Jxf58ca_floatToIntBits_5c35a q := by
  unfold alike32 at h
  simp only [Bool.or_eq_true, decide_eq_true_eq, Bool.and_eq_true] at h
  rcases h with rfl | ⟨h1, h2⟩
  · rfl
  · rw [nan_fb h1, nan_fb h2]
abbrev rm_X0_copy : Room := { frames := 1, cells := 0, slots := 0, locals := 64 }
def wb_X0_copy_2 (k2 : Nat → Nat → Int32 → SM → Option (SM)) (t0 : Nat) (t1 : Nat) (x2 : Int32) (X : SM) : Option (SM) :=
  if 4 ≤ x2 then
  (g_let (uc X 15 t0 15 t1 4) fun X_2 =>
    some X_2)
  else
  (if g_in x2 4 then
    if g_in x2 4 then
    g_let (uc X 14 (4 * t0 + (x2.toNatClampNeg)) 14 (4 * t1 + (x2.toNatClampNeg)) 6) fun X_7 =>
    g_let (x2 + 1) fun x2_8 =>
    k2 t0 t1 x2_8 X_7
    else none
    else none)
set_option maxRecDepth 100000 in
set_option maxHeartbeats 4000000 in
theorem bk_X0_copy_2 {p : Program} {l : Launch} {e : Env} {s : State} {m : MethodId} {args : Array Value} {below : List Frame} {meth : Method} {c : Code} {G : GP} {M : SM} {τ : SL} (C0 : g_mc p s m args meth c RX0 cX0_copy none 3 G) {X0 : SM} (k2 : Nat → Nat → Int32 → SM → Option (SM)) (hk2 : ∀ (t0 : Nat) (ht0 : t0 < 2) (t1 : Nat) (ht1 : t1 < 2) (x2 : Int32) (X : SM), k2 t0 t1 x2 X = some X0 → ∀ {H : Heap} {locs : List Loc}, va_P G.1 g_cl (wd G (cb X M) τ) H → va_S (g_A G) s.heap H locs → ∀ {ls : Array Slot}, lv_has ls 3 [(0, .ref (G.2.1 0 t0)), (1, .ref (G.2.1 0 t1)), (2, .int x2)] → W p l e rm_X0_copy s m args below meth c H locs 0 0 (MQ below (va_Qv (fun u => u = (X0, M, τ)) (g_pw G) (g_A G)) args s 0 0 (g_A G)) (F0 m 2 ls [])) (t0 : Nat) (ht0 : t0 < 2) (t1 : Nat) (ht1 : t1 < 2) (x2 : Int32) (X : SM) (hf : wb_X0_copy_2 k2 t0 t1 x2 X = some X0) {H : Heap} {locs : List Loc} (hP : va_P G.1 g_cl (wd G (cb X M) τ) H) (hS : va_S (g_A G) s.heap H locs) {ls : Array Slot} (hl : lv_has ls 3 [(0, .ref (G.2.1 0 t0)), (1, .ref (G.2.1 0 t1)), (2, .int x2)]) : W p l e rm_X0_copy s m args below meth c H locs 0 0 (MQ below (va_Qv (fun u => u = (X0, M, τ)) (g_pw G) (g_A G)) args s 0 0 (g_A G)) (F0 m 2 ls []) := by
  obtain ⟨hx, hb, hr, hml, hown, hts, hlocks, hC⟩ := id C0
  unfold wb_X0_copy_2 at hf
  refine lv_iload_n hx hb dX0_copy_2 rfl (lv_at hl 2 rfl) ?_
  refine lv_iconst (v := 4) hx hb dX0_copy_3 (by decide) ?_
  refine lv_icmp_ge (tgt := 32) hx hb dX0_copy_4 (by decide) (fun hc_1 => ?_) (fun hc_1 => ?_)
  · have hf := g_pos hf hc_1
    refine lv_aload_n hx hb dX0_copy_32 rfl (lv_at hl 1 rfl) ?_
    refine gt_0_1 hx hb hts hown hC hP ht1 q4_20 dX0_copy_33 ?_
    refine lv_iconst (v := 0) hx hb dX0_copy_36 (by decide) ?_
    refine lv_aload_n hx hb dX0_copy_37 rfl (lv_at hl 0 rfl) ?_
    refine gt_0_1 hx hb hts hown hC hP ht0 q4_20 dX0_copy_38 ?_
    refine lv_iconst (v := 0) hx hb dX0_copy_41 (by decide) ?_
    refine lv_iconst (v := 4) hx hb dX0_copy_42 (by decide) ?_
    obtain ⟨X_2, eX_2, hf⟩ := g_letE hf
    refine x_copyX (k := 15) (k0 := 15) (n := 4) hx hb (by rw [hml]; exact hl.1.symm) hown hts hC hP hS (fun _ _ => rfl) (fun _ _ => rfl) rfl rfl ht0 ht1 q42_3 (by decide) (by decide) (by decide) (by decide) dX0_copy_43 (fun H locs hP hS => ?_)
    rw [eX_2] at hP
    cases hf
    exact x_vret hx hb hlocks hC hP hS hr dX0_copy_46
  · have hf := g_neg hf hc_1
    refine lv_aload_n hx hb dX0_copy_7 rfl (lv_at hl 1 rfl) ?_
    refine gt_0_0 hx hb hts hown hC hP ht1 q4_19 dX0_copy_8 ?_
    refine lv_iload_n hx hb dX0_copy_11 rfl (lv_at hl 2 rfl) ?_
    obtain ⟨hg_3, hf⟩ := g_gd hf
    have hq_4 : 4 * t1 + (x2.toNatClampNeg) < 8 := by have h8 := g_in_lt (n := 4) hg_3; have h9 : t1 < 2 := ht1; omega
    refine xaldQ hx hb hC hP ht1 hg_3 dX0_copy_12 ?_
    refine lv_iconst (v := 0) hx hb dX0_copy_13 (by decide) ?_
    refine lv_aload_n hx hb dX0_copy_14 rfl (lv_at hl 0 rfl) ?_
    refine gt_0_0 hx hb hts hown hC hP ht0 q4_19 dX0_copy_15 ?_
    refine lv_iload_n hx hb dX0_copy_18 rfl (lv_at hl 2 rfl) ?_
    obtain ⟨hg_5, hf⟩ := g_gd hf
    have hq_6 : 4 * t0 + (x2.toNatClampNeg) < 8 := by have h8 := g_in_lt (n := 4) hg_5; have h9 : t0 < 2 := ht0; omega
    refine xaldQ hx hb hC hP ht0 hg_5 dX0_copy_19 ?_
    refine lv_iconst (v := 0) hx hb dX0_copy_20 (by decide) ?_
    refine lv_bipush (v := 6) hx hb dX0_copy_21 (by decide) ?_
    obtain ⟨X_7, eX_7, hf⟩ := g_letE hf
    refine x_copyX (k := 14) (k0 := 14) (n := 6) hx hb (by rw [hml]; exact hl.1.symm) hown hts hC hP hS (fun _ _ => rfl) (fun _ _ => rfl) rfl rfl hq_6 hq_4 q42_3 (by decide) (by decide) (by decide) (by decide) dX0_copy_23 (fun H locs hP hS => ?_)
    rw [eX_7] at hP
    obtain ⟨x2_8, ex2_8, hf⟩ := g_letE hf
    refine lv_iinc (v := x2_8) (lv' := [(2, .int x2_8), (0, .ref (G.2.1 0 t0)), (1, .ref (G.2.1 0 t1))]) hx hb dX0_copy_26 hl (k := 2) rfl (by rw [← ex2_8]; rfl) (by decide) rfl (fun ls hl => ?_)
    refine lv_goto (tgt := 2) hx hb dX0_copy_29 (by decide) ?_
    exact hk2 t0 ht0 t1 ht1 x2_8 X_7 hf hP hS (lv_sub hl [1, 2, 0] rfl)
def wl_X0_copy_2 (n : Nat) (t0 : Nat) (t1 : Nat) (x2 : Int32) (X : SM) : Option (SM) := g_loop (α := Nat × Nat × Int32 × SM) (fun k a => wb_X0_copy_2 (fun t0 t1 x2 X => k (t0, t1, x2, X)) a.1 a.2.1 a.2.2.1 a.2.2.2) n (t0, t1, x2, X)
set_option maxRecDepth 100000 in
set_option maxHeartbeats 4000000 in
theorem lp_X0_copy_2 {p : Program} {l : Launch} {e : Env} {s : State} {m : MethodId} {args : Array Value} {below : List Frame} {meth : Method} {c : Code} {G : GP} {M : SM} {τ : SL} (C0 : g_mc p s m args meth c RX0 cX0_copy none 3 G) {X0 : SM} (n : Nat) : ∀ (t0 : Nat) (ht0 : t0 < 2) (t1 : Nat) (ht1 : t1 < 2) (x2 : Int32) (X : SM), wl_X0_copy_2 n t0 t1 x2 X = some X0 → ∀ {H : Heap} {locs : List Loc}, va_P G.1 g_cl (wd G (cb X M) τ) H → va_S (g_A G) s.heap H locs → ∀ {ls : Array Slot}, lv_has ls 3 [(0, .ref (G.2.1 0 t0)), (1, .ref (G.2.1 0 t1)), (2, .int x2)] → W p l e rm_X0_copy s m args below meth c H locs 0 0 (MQ below (va_Qv (fun u => u = (X0, M, τ)) (g_pw G) (g_A G)) args s 0 0 (g_A G)) (F0 m 2 ls []) := by
  induction n with
  | zero =>
    intro t0 ht0 t1 ht1 x2 X hf
    have hf : (none : Option (SM)) = _ := hf
    cases hf
  | succ n ih =>
    intro t0 ht0 t1 ht1 x2 X hf H locs hP hS ls hl
    exact bk_X0_copy_2 C0   (fun t0 t1 x2 X => wl_X0_copy_2   n t0 t1 x2 X) ih t0 ht0 t1 ht1 x2 X hf hP hS hl
def fn_X0_copy (t0 : Nat) (t1 : Nat) (X : SM) : Option (SM) :=
  wl_X0_copy_2 1000 t0 t1 0 X
set_option maxRecDepth 100000 in
set_option maxHeartbeats 4000000 in
theorem wk_X0_copy {p : Program} {l : Launch} {e : Env} {s : State} {m : MethodId} {args : Array Value} {below : List Frame} {meth : Method} {c : Code} {G : GP} {M : SM} {τ : SL} (C0 : g_mc p s m args meth c RX0 cX0_copy none 3 G) {X0 : SM} (t0 : Nat) (ht0 : t0 < 2) (t1 : Nat) (ht1 : t1 < 2) (X : SM) (hf : fn_X0_copy t0 t1 X = some X0) {H : Heap} {locs : List Loc} (hP : va_P G.1 g_cl (wd G (cb X M) τ) H) (hS : va_S (g_A G) s.heap H locs) {ls : Array Slot} (hl : lv_has ls 3 [(0, .ref (G.2.1 0 t0)), (1, .ref (G.2.1 0 t1))]) : W p l e rm_X0_copy s m args below meth c H locs 0 0 (MQ below (va_Qv (fun u => u = (X0, M, τ)) (g_pw G) (g_A G)) args s 0 0 (g_A G)) (F0 m 0 ls []) := by
  obtain ⟨hx, hb, hr, hml, hown, hts, hlocks, hC⟩ := id C0
  unfold fn_X0_copy at hf
  refine lv_iconst (v := 0) hx hb dX0_copy_0 (by decide) ?_
  refine lv_istore_n (lv' := [(2, .int 0), (0, .ref (G.2.1 0 t0)), (1, .ref (G.2.1 0 t1))]) hx hb dX0_copy_1 rfl hl (by decide) rfl (fun ls hl => ?_)
  exact lp_X0_copy_2 C0 1000 t0 ht0 t1 ht1 0 X hf hP hS (lv_sub hl [1, 2, 0] rfl)
set_option maxRecDepth 100000 in
set_option maxHeartbeats 4000000 in
theorem ct_X0_copy (l : Launch) (G : GP) (X M : SM) (τ : SL) (t0 : Nat) (ht0 : t0 < 2) (t1 : Nat) (ht1 : t1 < 2) {X0 : SM} (hf : fn_X0_copy t0 t1 X = some X0) : Met l yX0_copy (wz yX0_copy cX0_copy 3 none) rm_X0_copy (va_Pc [.ref (G.2.1 0 t0), .ref (G.2.1 0 t1)] (g_pw G (X, M, τ))) (va_Qv (fun u => u = (X0, M, τ)) (g_pw G) (g_A G)) 0 0 (g_A G) := by
  refine Met.ofW (cc := cX0_copy) (maxL := 3) (ret := none) (by decide +kernel) rfl ?_
  intro p e s m args below meth c s₁ B hml hv
  obtain ⟨rfl, hC, hP⟩ := hv
  have C0 : g_mc p s m _ meth c RX0 cX0_copy none 3 G := ⟨B.exec, B.bytes, B.returns, hml, findClass_of_methodNamed B.named, fun w h => atoms_spec (ws := wz yX0_copy cX0_copy 3 none) B.pre w (List.mem_cons_of_mem _ h), B.notSynchronized, hC⟩
  have hl := lv_entry ([.ref (G.2.1 0 t0), .ref (G.2.1 0 t1)]) (n := 3) (Nat.le_of_ble_eq_true rfl)
  rw [lg_entry_eq]
  generalize (lg_sl ([.ref (G.2.1 0 t0), .ref (G.2.1 0 t1)]) ++ List.replicate (3 - (lg_sl ([.ref (G.2.1 0 t0), .ref (G.2.1 0 t1)])).length) Slot.unset).toArray = ls at hl ⊢
  exact wk_X0_copy C0  t0 ht0 t1 ht1 X hf hP va_S.rf hl
abbrev rm_X0_firstAt : Room := { frames := 0, cells := 0, slots := 0, locals := 0 }
def fn_X0_firstAt (t0 : Nat) (x1 : Int32) (X : SM) : Option (Int32) :=
  if x1 < 0 then
  (some (-1))
  else
  (if 4 ≤ x1 then
    (some (-1))
    else
    (if g_in x1 4 then
      if 1 ≤ (X 15 t0 (x1.toNatClampNeg)) then
      (if g_in x1 4 then
        some (X 14 (4 * t0 + (x1.toNatClampNeg)) 0)
        else none)
      else
      (some (-1))
      else none))
set_option maxRecDepth 100000 in
set_option maxHeartbeats 4000000 in
theorem wk_X0_firstAt {p : Program} {l : Launch} {e : Env} {s : State} {m : MethodId} {args : Array Value} {below : List Frame} {meth : Method} {c : Code} {G : GP} {M : SM} {τ : SL} (C0 : g_mc p s m args meth c RX0 cX0_firstAt (some .int) 2 G) {r0 : Int32} (t0 : Nat) (ht0 : t0 < 2) (x1 : Int32) (X : SM) (hf : fn_X0_firstAt t0 x1 X = some r0) {H : Heap} {locs : List Loc} (hP : va_P G.1 g_cl (wd G (cb X M) τ) H) (hS : va_S (g_A G) s.heap H locs) {ls : Array Slot} (hl : lv_has ls 2 [(0, .ref (G.2.1 0 t0)), (1, .int x1)]) : W p l e rm_X0_firstAt s m args below meth c H locs 0 0 (MQ below (va_Qi (fun r u => r = r0 ∧ u = (X, M, τ)) (g_pw G) (g_A G)) args s 0 0 (g_A G)) (F0 m 0 ls []) := by
  obtain ⟨hx, hb, hr, hml, hown, hts, hlocks, hC⟩ := id C0
  unfold fn_X0_firstAt at hf
  refine lv_iload_n hx hb dX0_firstAt_0 rfl (lv_at hl 1 rfl) ?_
  refine lv_if_lt (tgt := 19) hx hb dX0_firstAt_1 (by decide) (fun hc_1 => ?_) (fun hc_1 => ?_)
  · have hf := g_pos hf hc_1
    refine lv_iconst (v := (-1)) hx hb dX0_firstAt_19 (by decide) ?_
    cases hf
    exact x_iret hx hb hlocks hC hP hS hr dX0_firstAt_20
  · have hf := g_neg hf hc_1
    refine lv_iload_n hx hb dX0_firstAt_4 rfl (lv_at hl 1 rfl) ?_
    refine lv_iconst (v := 4) hx hb dX0_firstAt_5 (by decide) ?_
    refine lv_icmp_ge (tgt := 19) hx hb dX0_firstAt_6 (by decide) (fun hc_2 => ?_) (fun hc_2 => ?_)
    · have hf := g_pos hf hc_2
      refine lv_iconst (v := (-1)) hx hb dX0_firstAt_19 (by decide) ?_
      cases hf
      exact x_iret hx hb hlocks hC hP hS hr dX0_firstAt_20
    · have hf := g_neg hf hc_2
      refine lv_aload_n hx hb dX0_firstAt_9 rfl (lv_at hl 0 rfl) ?_
      refine gt_0_1 hx hb hts hown hC hP ht0 q4_20 dX0_firstAt_10 ?_
      refine lv_iload_n hx hb dX0_firstAt_13 rfl (lv_at hl 1 rfl) ?_
      obtain ⟨hg_3, hf⟩ := g_gd hf
      refine xildX (k := 15) (n := 4) hx hb hC hP (fun _ _ => rfl) rfl ht0 hg_3 dX0_firstAt_14 ?_
      refine lv_iconst (v := 1) hx hb dX0_firstAt_15 (by decide) ?_
      refine lv_icmp_ge (tgt := 21) hx hb dX0_firstAt_16 (by decide) (fun hc_4 => ?_) (fun hc_4 => ?_)
      · have hf := g_pos hf hc_4
        refine lv_aload_n hx hb dX0_firstAt_21 rfl (lv_at hl 0 rfl) ?_
        refine gt_0_0 hx hb hts hown hC hP ht0 q4_19 dX0_firstAt_22 ?_
        refine lv_iload_n hx hb dX0_firstAt_25 rfl (lv_at hl 1 rfl) ?_
        obtain ⟨hg_5, hf⟩ := g_gd hf
        have hq_6 : 4 * t0 + (x1.toNatClampNeg) < 8 := by have h8 := g_in_lt (n := 4) hg_5; have h9 : t0 < 2 := ht0; omega
        refine xaldQ hx hb hC hP ht0 hg_5 dX0_firstAt_26 ?_
        refine lv_iconst (v := 0) hx hb dX0_firstAt_27 (by decide) ?_
        refine xildX (k := 14) (n := 6) hx hb hC hP (fun _ _ => rfl) rfl hq_6 (by decide) dX0_firstAt_28 ?_
        refine lv_topE (show X 14 (4 * t0 + (x1.toNatClampNeg)) (Int32.toNatClampNeg 0) = X 14 (4 * t0 + (x1.toNatClampNeg)) 0 from rfl) ?_
        cases hf
        exact x_iret hx hb hlocks hC hP hS hr dX0_firstAt_29
      · have hf := g_neg hf hc_4
        refine lv_iconst (v := (-1)) hx hb dX0_firstAt_19 (by decide) ?_
        cases hf
        exact x_iret hx hb hlocks hC hP hS hr dX0_firstAt_20
set_option maxRecDepth 100000 in
set_option maxHeartbeats 4000000 in
theorem ct_X0_firstAt (l : Launch) (G : GP) (X M : SM) (τ : SL) (t0 : Nat) (ht0 : t0 < 2) (x1 : Int32) {r0 : Int32} (hf : fn_X0_firstAt t0 x1 X = some r0) : Met l yX0_firstAt (wz yX0_firstAt cX0_firstAt 2 (some .int)) rm_X0_firstAt (va_Pc [.ref (G.2.1 0 t0), .int x1] (g_pw G (X, M, τ))) (va_Qi (fun r u => r = r0 ∧ u = (X, M, τ)) (g_pw G) (g_A G)) 0 0 (g_A G) := by
  refine Met.ofW (cc := cX0_firstAt) (maxL := 2) (ret := (some .int)) (by decide +kernel) rfl ?_
  intro p e s m args below meth c s₁ B hml hv
  obtain ⟨rfl, hC, hP⟩ := hv
  have C0 : g_mc p s m _ meth c RX0 cX0_firstAt (some .int) 2 G := ⟨B.exec, B.bytes, B.returns, hml, findClass_of_methodNamed B.named, fun w h => atoms_spec (ws := wz yX0_firstAt cX0_firstAt 2 (some .int)) B.pre w (List.mem_cons_of_mem _ h), B.notSynchronized, hC⟩
  have hl := lv_entry ([.ref (G.2.1 0 t0), .int x1]) (n := 2) (Nat.le_of_ble_eq_true rfl)
  rw [lg_entry_eq]
  generalize (lg_sl ([.ref (G.2.1 0 t0), .int x1]) ++ List.replicate (2 - (lg_sl ([.ref (G.2.1 0 t0), .int x1])).length) Slot.unset).toArray = ls at hl ⊢
  exact wk_X0_firstAt C0  t0 ht0 x1 X hf hP va_S.rf hl
abbrev rm_X0_join : Room := { frames := 0, cells := 0, slots := 0, locals := 0 }
def fn_X0_join (t0 : Nat) (x1 : Int32) (x2 : Int32) (X : SM) : Option (SM) :=
  if x1 < 0 then
  (some X)
  else
  (if x1 < 4 then
    (if g_in x1 4 then
      g_let ((X 15 t0 (x1.toNatClampNeg))) fun x3_4 =>
      if x3_4 < 0 then
      (some X)
      else
      (if 6 ≤ x3_4 then
        (some X)
        else
        (if g_in x1 4 then
          if g_in x3_4 6 then
          g_let (u1 X 14 (4 * t0 + (x1.toNatClampNeg)) (x3_4.toNatClampNeg) x2) fun X_10 =>
          if g_in x1 4 then
          g_let (u1 X_10 15 t0 (x1.toNatClampNeg) (x3_4 + 1)) fun X_12 =>
          some X_12
          else none
          else none
          else none))
      else none)
    else
    (some X))
set_option maxRecDepth 100000 in
set_option maxHeartbeats 4000000 in
theorem wk_X0_join {p : Program} {l : Launch} {e : Env} {s : State} {m : MethodId} {args : Array Value} {below : List Frame} {meth : Method} {c : Code} {G : GP} {M : SM} {τ : SL} (C0 : g_mc p s m args meth c RX0 cX0_join none 4 G) {X0 : SM} (t0 : Nat) (ht0 : t0 < 2) (x1 : Int32) (x2 : Int32) (X : SM) (hf : fn_X0_join t0 x1 x2 X = some X0) {H : Heap} {locs : List Loc} (hP : va_P G.1 g_cl (wd G (cb X M) τ) H) (hS : va_S (g_A G) s.heap H locs) {ls : Array Slot} (hl : lv_has ls 4 [(0, .ref (G.2.1 0 t0)), (1, .int x1), (2, .int x2)]) : W p l e rm_X0_join s m args below meth c H locs 0 0 (MQ below (va_Qv (fun u => u = (X0, M, τ)) (g_pw G) (g_A G)) args s 0 0 (g_A G)) (F0 m 0 ls []) := by
  obtain ⟨hx, hb, hr, hml, hown, hts, hlocks, hC⟩ := id C0
  unfold fn_X0_join at hf
  refine lv_iload_n hx hb dX0_join_0 rfl (lv_at hl 1 rfl) ?_
  refine lv_if_lt (tgt := 9) hx hb dX0_join_1 (by decide) (fun hc_1 => ?_) (fun hc_1 => ?_)
  · have hf := g_pos hf hc_1
    cases hf
    exact x_vret hx hb hlocks hC hP hS hr dX0_join_9
  · have hf := g_neg hf hc_1
    refine lv_iload_n hx hb dX0_join_4 rfl (lv_at hl 1 rfl) ?_
    refine lv_iconst (v := 4) hx hb dX0_join_5 (by decide) ?_
    refine lv_icmp_lt (tgt := 10) hx hb dX0_join_6 (by decide) (fun hc_2 => ?_) (fun hc_2 => ?_)
    · have hf := g_pos hf hc_2
      refine lv_aload_n hx hb dX0_join_10 rfl (lv_at hl 0 rfl) ?_
      refine gt_0_1 hx hb hts hown hC hP ht0 q4_20 dX0_join_11 ?_
      refine lv_iload_n hx hb dX0_join_14 rfl (lv_at hl 1 rfl) ?_
      obtain ⟨hg_3, hf⟩ := g_gd hf
      refine xildX (k := 15) (n := 4) hx hb hC hP (fun _ _ => rfl) rfl ht0 hg_3 dX0_join_15 ?_
      obtain ⟨x3_4, ex3_4, hf⟩ := g_letE hf
      refine lv_topE ex3_4 ?_
      refine lv_istore_n (lv' := [(3, .int x3_4), (0, .ref (G.2.1 0 t0)), (1, .int x1), (2, .int x2)]) hx hb dX0_join_16 rfl hl (by decide) rfl (fun ls hl => ?_)
      refine lv_iload_n hx hb dX0_join_17 rfl (lv_at hl 0 rfl) ?_
      refine lv_if_lt (tgt := 45) hx hb dX0_join_18 (by decide) (fun hc_5 => ?_) (fun hc_5 => ?_)
      · have hf := g_pos hf hc_5
        cases hf
        exact x_vret hx hb hlocks hC hP hS hr dX0_join_45
      · have hf := g_neg hf hc_5
        refine lv_iload_n hx hb dX0_join_21 rfl (lv_at hl 0 rfl) ?_
        refine lv_bipush (v := 6) hx hb dX0_join_22 (by decide) ?_
        refine lv_icmp_ge (tgt := 45) hx hb dX0_join_24 (by decide) (fun hc_6 => ?_) (fun hc_6 => ?_)
        · have hf := g_pos hf hc_6
          cases hf
          exact x_vret hx hb hlocks hC hP hS hr dX0_join_45
        · have hf := g_neg hf hc_6
          refine lv_aload_n hx hb dX0_join_27 rfl (lv_at hl 1 rfl) ?_
          refine gt_0_0 hx hb hts hown hC hP ht0 q4_19 dX0_join_28 ?_
          refine lv_iload_n hx hb dX0_join_31 rfl (lv_at hl 2 rfl) ?_
          obtain ⟨hg_7, hf⟩ := g_gd hf
          have hq_8 : 4 * t0 + (x1.toNatClampNeg) < 8 := by have h8 := g_in_lt (n := 4) hg_7; have h9 : t0 < 2 := ht0; omega
          refine xaldQ hx hb hC hP ht0 hg_7 dX0_join_32 ?_
          refine lv_iload_n hx hb dX0_join_33 rfl (lv_at hl 0 rfl) ?_
          refine lv_iload_n hx hb dX0_join_34 rfl (lv_at hl 3 rfl) ?_
          obtain ⟨hg_9, hf⟩ := g_gd hf
          obtain ⟨X_10, eX_10, hf⟩ := g_letE hf
          refine xistX (k := 14) (n := 6) hx hb hC hP hS (fun _ _ => rfl) rfl hq_8 hg_9 dX0_join_35 (fun H locs hP hS => ?_)
          rw [eX_10] at hP
          refine lv_aload_n hx hb dX0_join_36 rfl (lv_at hl 1 rfl) ?_
          refine gt_0_1 hx hb hts hown hC hP ht0 q4_20 dX0_join_37 ?_
          refine lv_iload_n hx hb dX0_join_40 rfl (lv_at hl 2 rfl) ?_
          refine lv_iload_n hx hb dX0_join_41 rfl (lv_at hl 0 rfl) ?_
          refine lv_iconst (v := 1) hx hb dX0_join_42 (by decide) ?_
          refine lv_iadd hx hb dX0_join_43 ?_
          obtain ⟨hg_11, hf⟩ := g_gd hf
          obtain ⟨X_12, eX_12, hf⟩ := g_letE hf
          refine xistX (k := 15) (n := 4) hx hb hC hP hS (fun _ _ => rfl) rfl ht0 hg_11 dX0_join_44 (fun H locs hP hS => ?_)
          rw [eX_12] at hP
          cases hf
          exact x_vret hx hb hlocks hC hP hS hr dX0_join_45
    · have hf := g_neg hf hc_2
      cases hf
      exact x_vret hx hb hlocks hC hP hS hr dX0_join_9
set_option maxRecDepth 100000 in
set_option maxHeartbeats 4000000 in
theorem ct_X0_join (l : Launch) (G : GP) (X M : SM) (τ : SL) (t0 : Nat) (ht0 : t0 < 2) (x1 : Int32) (x2 : Int32) {X0 : SM} (hf : fn_X0_join t0 x1 x2 X = some X0) : Met l yX0_join (wz yX0_join cX0_join 4 none) rm_X0_join (va_Pc [.ref (G.2.1 0 t0), .int x1, .int x2] (g_pw G (X, M, τ))) (va_Qv (fun u => u = (X0, M, τ)) (g_pw G) (g_A G)) 0 0 (g_A G) := by
  refine Met.ofW (cc := cX0_join) (maxL := 4) (ret := none) (by decide +kernel) rfl ?_
  intro p e s m args below meth c s₁ B hml hv
  obtain ⟨rfl, hC, hP⟩ := hv
  have C0 : g_mc p s m _ meth c RX0 cX0_join none 4 G := ⟨B.exec, B.bytes, B.returns, hml, findClass_of_methodNamed B.named, fun w h => atoms_spec (ws := wz yX0_join cX0_join 4 none) B.pre w (List.mem_cons_of_mem _ h), B.notSynchronized, hC⟩
  have hl := lv_entry ([.ref (G.2.1 0 t0), .int x1, .int x2]) (n := 4) (Nat.le_of_ble_eq_true rfl)
  rw [lg_entry_eq]
  generalize (lg_sl ([.ref (G.2.1 0 t0), .int x1, .int x2]) ++ List.replicate (4 - (lg_sl ([.ref (G.2.1 0 t0), .int x1, .int x2])).length) Slot.unset).toArray = ls at hl ⊢
  exact wk_X0_join C0  t0 ht0 x1 x2 X hf hP va_S.rf hl
abbrev rm_X0_leave : Room := { frames := 0, cells := 0, slots := 0, locals := 0 }
def wb_X0_leave_23 (k23 : Nat → Int32 → Int32 → Nat → Int32 → Int32 → SM → Option (SM)) (t0 : Nat) (x1 : Int32) (x2 : Int32) (t3 : Nat) (x4 : Int32) (x5 : Int32) (X : SM) : Option (SM) :=
  if g_in x1 4 then
  if (X 15 t0 (x1.toNatClampNeg)) ≤ x5 then
  (if g_in x1 4 then
    g_let (u1 X 15 t0 (x1.toNatClampNeg) x4) fun X_9 =>
    some X_9
    else none)
  else
  (if 6 ≤ x5 then
    (if g_in x1 4 then
      g_let (u1 X 15 t0 (x1.toNatClampNeg) x4) fun X_12 =>
      some X_12
      else none)
    else
    (if g_in x5 6 then
      if (X 14 t3 (x5.toNatClampNeg)) = x2 then
      (g_let (x5 + 1) fun x5_15 =>
        k23 t0 x1 x2 t3 x4 x5_15 X)
      else
      (if g_in x5 6 then
        if g_in x4 6 then
        g_let (u1 X 14 t3 (x4.toNatClampNeg) (X 14 t3 (x5.toNatClampNeg))) fun X_18 =>
        g_let (x4 + 1) fun x4_19 =>
        g_let (x5 + 1) fun x5_20 =>
        k23 t0 x1 x2 t3 x4_19 x5_20 X_18
        else none
        else none)
      else none))
  else none
set_option maxRecDepth 100000 in
set_option maxHeartbeats 4000000 in
theorem bk_X0_leave_23 {p : Program} {l : Launch} {e : Env} {s : State} {m : MethodId} {args : Array Value} {below : List Frame} {meth : Method} {c : Code} {G : GP} {M : SM} {τ : SL} (C0 : g_mc p s m args meth c RX0 cX0_leave none 6 G) {X0 : SM} (k23 : Nat → Int32 → Int32 → Nat → Int32 → Int32 → SM → Option (SM)) (hk23 : ∀ (t0 : Nat) (ht0 : t0 < 2) (x1 : Int32) (x2 : Int32) (t3 : Nat) (ht3 : t3 < 8) (x4 : Int32) (x5 : Int32) (X : SM), k23 t0 x1 x2 t3 x4 x5 X = some X0 → ∀ {H : Heap} {locs : List Loc}, va_P G.1 g_cl (wd G (cb X M) τ) H → va_S (g_A G) s.heap H locs → ∀ {ls : Array Slot}, lv_has ls 6 [(0, .ref (G.2.1 0 t0)), (1, .int x1), (2, .int x2), (3, .ref (G.2.1 14 t3)), (4, .int x4), (5, .int x5)] → W p l e rm_X0_leave s m args below meth c H locs 0 0 (MQ below (va_Qv (fun u => u = (X0, M, τ)) (g_pw G) (g_A G)) args s 0 0 (g_A G)) (F0 m 23 ls [])) (t0 : Nat) (ht0 : t0 < 2) (x1 : Int32) (x2 : Int32) (t3 : Nat) (ht3 : t3 < 8) (x4 : Int32) (x5 : Int32) (X : SM) (hf : wb_X0_leave_23 k23 t0 x1 x2 t3 x4 x5 X = some X0) {H : Heap} {locs : List Loc} (hP : va_P G.1 g_cl (wd G (cb X M) τ) H) (hS : va_S (g_A G) s.heap H locs) {ls : Array Slot} (hl : lv_has ls 6 [(0, .ref (G.2.1 0 t0)), (1, .int x1), (2, .int x2), (3, .ref (G.2.1 14 t3)), (4, .int x4), (5, .int x5)]) : W p l e rm_X0_leave s m args below meth c H locs 0 0 (MQ below (va_Qv (fun u => u = (X0, M, τ)) (g_pw G) (g_A G)) args s 0 0 (g_A G)) (F0 m 23 ls []) := by
  obtain ⟨hx, hb, hr, hml, hown, hts, hlocks, hC⟩ := id C0
  unfold wb_X0_leave_23 at hf
  refine lv_iload hx hb dX0_leave_23 (lv_at hl 5 rfl) ?_
  refine lv_aload_n hx hb dX0_leave_25 rfl (lv_at hl 0 rfl) ?_
  refine gt_0_1 hx hb hts hown hC hP ht0 q4_20 dX0_leave_26 ?_
  refine lv_iload_n hx hb dX0_leave_29 rfl (lv_at hl 1 rfl) ?_
  obtain ⟨hg_6, hf⟩ := g_gd hf
  refine xildX (k := 15) (n := 4) hx hb hC hP (fun _ _ => rfl) rfl ht0 hg_6 dX0_leave_30 ?_
  refine lv_icmp_ge (tgt := 66) hx hb dX0_leave_31 (by decide) (fun hc_7 => ?_) (fun hc_7 => ?_)
  · have hf := g_pos hf hc_7
    refine lv_aload_n hx hb dX0_leave_66 rfl (lv_at hl 0 rfl) ?_
    refine gt_0_1 hx hb hts hown hC hP ht0 q4_20 dX0_leave_67 ?_
    refine lv_iload_n hx hb dX0_leave_70 rfl (lv_at hl 1 rfl) ?_
    refine lv_iload hx hb dX0_leave_71 (lv_at hl 4 rfl) ?_
    obtain ⟨hg_8, hf⟩ := g_gd hf
    obtain ⟨X_9, eX_9, hf⟩ := g_letE hf
    refine xistX (k := 15) (n := 4) hx hb hC hP hS (fun _ _ => rfl) rfl ht0 hg_8 dX0_leave_73 (fun H locs hP hS => ?_)
    rw [eX_9] at hP
    cases hf
    exact x_vret hx hb hlocks hC hP hS hr dX0_leave_74
  · have hf := g_neg hf hc_7
    refine lv_iload hx hb dX0_leave_34 (lv_at hl 5 rfl) ?_
    refine lv_bipush (v := 6) hx hb dX0_leave_36 (by decide) ?_
    refine lv_icmp_ge (tgt := 66) hx hb dX0_leave_38 (by decide) (fun hc_10 => ?_) (fun hc_10 => ?_)
    · have hf := g_pos hf hc_10
      refine lv_aload_n hx hb dX0_leave_66 rfl (lv_at hl 0 rfl) ?_
      refine gt_0_1 hx hb hts hown hC hP ht0 q4_20 dX0_leave_67 ?_
      refine lv_iload_n hx hb dX0_leave_70 rfl (lv_at hl 1 rfl) ?_
      refine lv_iload hx hb dX0_leave_71 (lv_at hl 4 rfl) ?_
      obtain ⟨hg_11, hf⟩ := g_gd hf
      obtain ⟨X_12, eX_12, hf⟩ := g_letE hf
      refine xistX (k := 15) (n := 4) hx hb hC hP hS (fun _ _ => rfl) rfl ht0 hg_11 dX0_leave_73 (fun H locs hP hS => ?_)
      rw [eX_12] at hP
      cases hf
      exact x_vret hx hb hlocks hC hP hS hr dX0_leave_74
    · have hf := g_neg hf hc_10
      refine lv_aload_n hx hb dX0_leave_41 rfl (lv_at hl 3 rfl) ?_
      refine lv_iload hx hb dX0_leave_42 (lv_at hl 5 rfl) ?_
      obtain ⟨hg_13, hf⟩ := g_gd hf
      refine xildX (k := 14) (n := 6) hx hb hC hP (fun _ _ => rfl) rfl ht3 hg_13 dX0_leave_44 ?_
      refine lv_iload_n hx hb dX0_leave_45 rfl (lv_at hl 2 rfl) ?_
      refine lv_icmp_eq (tgt := 60) hx hb dX0_leave_46 (by decide) (fun hc_14 => ?_) (fun hc_14 => ?_)
      · have hf := g_pos hf hc_14
        obtain ⟨x5_15, ex5_15, hf⟩ := g_letE hf
        refine lv_iinc (v := x5_15) (lv' := [(5, .int x5_15), (0, .ref (G.2.1 0 t0)), (1, .int x1), (2, .int x2), (3, .ref (G.2.1 14 t3)), (4, .int x4)]) hx hb dX0_leave_60 hl (k := 5) rfl (by rw [← ex5_15]; rfl) (by decide) rfl (fun ls hl => ?_)
        refine lv_goto (tgt := 23) hx hb dX0_leave_63 (by decide) ?_
        exact hk23 t0 ht0 x1 x2 t3 ht3 x4 x5_15 X hf hP hS (lv_sub hl [1, 2, 3, 4, 5, 0] rfl)
      · have hf := g_neg hf hc_14
        refine lv_aload_n hx hb dX0_leave_49 rfl (lv_at hl 3 rfl) ?_
        refine lv_iload hx hb dX0_leave_50 (lv_at hl 4 rfl) ?_
        refine lv_aload_n hx hb dX0_leave_52 rfl (lv_at hl 3 rfl) ?_
        refine lv_iload hx hb dX0_leave_53 (lv_at hl 5 rfl) ?_
        obtain ⟨hg_16, hf⟩ := g_gd hf
        refine xildX (k := 14) (n := 6) hx hb hC hP (fun _ _ => rfl) rfl ht3 hg_16 dX0_leave_55 ?_
        obtain ⟨hg_17, hf⟩ := g_gd hf
        obtain ⟨X_18, eX_18, hf⟩ := g_letE hf
        refine xistX (k := 14) (n := 6) hx hb hC hP hS (fun _ _ => rfl) rfl ht3 hg_17 dX0_leave_56 (fun H locs hP hS => ?_)
        rw [eX_18] at hP
        obtain ⟨x4_19, ex4_19, hf⟩ := g_letE hf
        refine lv_iinc (v := x4_19) (lv' := [(4, .int x4_19), (0, .ref (G.2.1 0 t0)), (1, .int x1), (2, .int x2), (3, .ref (G.2.1 14 t3)), (5, .int x5)]) hx hb dX0_leave_57 hl (k := 4) rfl (by rw [← ex4_19]; rfl) (by decide) rfl (fun ls hl => ?_)
        obtain ⟨x5_20, ex5_20, hf⟩ := g_letE hf
        refine lv_iinc (v := x5_20) (lv' := [(5, .int x5_20), (4, .int x4_19), (0, .ref (G.2.1 0 t0)), (1, .int x1), (2, .int x2), (3, .ref (G.2.1 14 t3))]) hx hb dX0_leave_60 hl (k := 5) rfl (by rw [← ex5_20]; rfl) (by decide) rfl (fun ls hl => ?_)
        refine lv_goto (tgt := 23) hx hb dX0_leave_63 (by decide) ?_
        exact hk23 t0 ht0 x1 x2 t3 ht3 x4_19 x5_20 X_18 hf hP hS (lv_sub hl [2, 3, 4, 5, 1, 0] rfl)
def wl_X0_leave_23 (n : Nat) (t0 : Nat) (x1 : Int32) (x2 : Int32) (t3 : Nat) (x4 : Int32) (x5 : Int32) (X : SM) : Option (SM) := g_loop (α := Nat × Int32 × Int32 × Nat × Int32 × Int32 × SM) (fun k a => wb_X0_leave_23 (fun t0 x1 x2 t3 x4 x5 X => k (t0, x1, x2, t3, x4, x5, X)) a.1 a.2.1 a.2.2.1 a.2.2.2.1 a.2.2.2.2.1 a.2.2.2.2.2.1 a.2.2.2.2.2.2) n (t0, x1, x2, t3, x4, x5, X)
set_option maxRecDepth 100000 in
set_option maxHeartbeats 4000000 in
theorem lp_X0_leave_23 {p : Program} {l : Launch} {e : Env} {s : State} {m : MethodId} {args : Array Value} {below : List Frame} {meth : Method} {c : Code} {G : GP} {M : SM} {τ : SL} (C0 : g_mc p s m args meth c RX0 cX0_leave none 6 G) {X0 : SM} (n : Nat) : ∀ (t0 : Nat) (ht0 : t0 < 2) (x1 : Int32) (x2 : Int32) (t3 : Nat) (ht3 : t3 < 8) (x4 : Int32) (x5 : Int32) (X : SM), wl_X0_leave_23 n t0 x1 x2 t3 x4 x5 X = some X0 → ∀ {H : Heap} {locs : List Loc}, va_P G.1 g_cl (wd G (cb X M) τ) H → va_S (g_A G) s.heap H locs → ∀ {ls : Array Slot}, lv_has ls 6 [(0, .ref (G.2.1 0 t0)), (1, .int x1), (2, .int x2), (3, .ref (G.2.1 14 t3)), (4, .int x4), (5, .int x5)] → W p l e rm_X0_leave s m args below meth c H locs 0 0 (MQ below (va_Qv (fun u => u = (X0, M, τ)) (g_pw G) (g_A G)) args s 0 0 (g_A G)) (F0 m 23 ls []) := by
  induction n with
  | zero =>
    intro t0 ht0 x1 x2 t3 ht3 x4 x5 X hf
    have hf : (none : Option (SM)) = _ := hf
    cases hf
  | succ n ih =>
    intro t0 ht0 x1 x2 t3 ht3 x4 x5 X hf H locs hP hS ls hl
    exact bk_X0_leave_23 C0   (fun t0 x1 x2 t3 x4 x5 X => wl_X0_leave_23   n t0 x1 x2 t3 x4 x5 X) ih t0 ht0 x1 x2 t3 ht3 x4 x5 X hf hP hS hl
def fn_X0_leave (t0 : Nat) (x1 : Int32) (x2 : Int32) (X : SM) : Option (SM) :=
  if x1 < 0 then
  (some X)
  else
  (if x1 < 4 then
    (if g_in x1 4 then
      g_let ((4 * t0 + (x1.toNatClampNeg))) fun t3_5 =>
      wl_X0_leave_23 1000 t0 x1 x2 t3_5 0 0 X
      else none)
    else
    (some X))
set_option maxRecDepth 100000 in
set_option maxHeartbeats 4000000 in
theorem wk_X0_leave {p : Program} {l : Launch} {e : Env} {s : State} {m : MethodId} {args : Array Value} {below : List Frame} {meth : Method} {c : Code} {G : GP} {M : SM} {τ : SL} (C0 : g_mc p s m args meth c RX0 cX0_leave none 6 G) {X0 : SM} (t0 : Nat) (ht0 : t0 < 2) (x1 : Int32) (x2 : Int32) (X : SM) (hf : fn_X0_leave t0 x1 x2 X = some X0) {H : Heap} {locs : List Loc} (hP : va_P G.1 g_cl (wd G (cb X M) τ) H) (hS : va_S (g_A G) s.heap H locs) {ls : Array Slot} (hl : lv_has ls 6 [(0, .ref (G.2.1 0 t0)), (1, .int x1), (2, .int x2)]) : W p l e rm_X0_leave s m args below meth c H locs 0 0 (MQ below (va_Qv (fun u => u = (X0, M, τ)) (g_pw G) (g_A G)) args s 0 0 (g_A G)) (F0 m 0 ls []) := by
  obtain ⟨hx, hb, hr, hml, hown, hts, hlocks, hC⟩ := id C0
  unfold fn_X0_leave at hf
  refine lv_iload_n hx hb dX0_leave_0 rfl (lv_at hl 1 rfl) ?_
  refine lv_if_lt (tgt := 9) hx hb dX0_leave_1 (by decide) (fun hc_1 => ?_) (fun hc_1 => ?_)
  · have hf := g_pos hf hc_1
    cases hf
    exact x_vret hx hb hlocks hC hP hS hr dX0_leave_9
  · have hf := g_neg hf hc_1
    refine lv_iload_n hx hb dX0_leave_4 rfl (lv_at hl 1 rfl) ?_
    refine lv_iconst (v := 4) hx hb dX0_leave_5 (by decide) ?_
    refine lv_icmp_lt (tgt := 10) hx hb dX0_leave_6 (by decide) (fun hc_2 => ?_) (fun hc_2 => ?_)
    · have hf := g_pos hf hc_2
      refine lv_aload_n hx hb dX0_leave_10 rfl (lv_at hl 0 rfl) ?_
      refine gt_0_0 hx hb hts hown hC hP ht0 q4_19 dX0_leave_11 ?_
      refine lv_iload_n hx hb dX0_leave_14 rfl (lv_at hl 1 rfl) ?_
      obtain ⟨hg_3, hf⟩ := g_gd hf
      have hq_4 : 4 * t0 + (x1.toNatClampNeg) < 8 := by have h8 := g_in_lt (n := 4) hg_3; have h9 : t0 < 2 := ht0; omega
      refine xaldQ hx hb hC hP ht0 hg_3 dX0_leave_15 ?_
      obtain ⟨t3_5, et3_5, hf⟩ := g_letE hf
      refine lv_toprE et3_5 ?_
      have ht3_5 : t3_5 < 8 := by rw [← et3_5]; exact hq_4
      refine lv_astore_n (lv' := [(3, .ref (G.2.1 14 t3_5)), (0, .ref (G.2.1 0 t0)), (1, .int x1), (2, .int x2)]) hx hb dX0_leave_16 rfl hl (by decide) rfl (fun ls hl => ?_)
      refine lv_iconst (v := 0) hx hb dX0_leave_17 (by decide) ?_
      refine lv_istore (lv' := [(4, .int 0), (3, .ref (G.2.1 14 t3_5)), (0, .ref (G.2.1 0 t0)), (1, .int x1), (2, .int x2)]) hx hb dX0_leave_18 hl (by decide) rfl (fun ls hl => ?_)
      refine lv_iconst (v := 0) hx hb dX0_leave_20 (by decide) ?_
      refine lv_istore (lv' := [(5, .int 0), (4, .int 0), (3, .ref (G.2.1 14 t3_5)), (0, .ref (G.2.1 0 t0)), (1, .int x1), (2, .int x2)]) hx hb dX0_leave_21 hl (by decide) rfl (fun ls hl => ?_)
      exact lp_X0_leave_23 C0 1000 t0 ht0 x1 x2 t3_5 ht3_5 0 0 X hf hP hS (lv_sub hl [3, 4, 5, 2, 1, 0] rfl)
    · have hf := g_neg hf hc_2
      cases hf
      exact x_vret hx hb hlocks hC hP hS hr dX0_leave_9
set_option maxRecDepth 100000 in
set_option maxHeartbeats 4000000 in
theorem ct_X0_leave (l : Launch) (G : GP) (X M : SM) (τ : SL) (t0 : Nat) (ht0 : t0 < 2) (x1 : Int32) (x2 : Int32) {X0 : SM} (hf : fn_X0_leave t0 x1 x2 X = some X0) : Met l yX0_leave (wz yX0_leave cX0_leave 6 none) rm_X0_leave (va_Pc [.ref (G.2.1 0 t0), .int x1, .int x2] (g_pw G (X, M, τ))) (va_Qv (fun u => u = (X0, M, τ)) (g_pw G) (g_A G)) 0 0 (g_A G) := by
  refine Met.ofW (cc := cX0_leave) (maxL := 6) (ret := none) (by decide +kernel) rfl ?_
  intro p e s m args below meth c s₁ B hml hv
  obtain ⟨rfl, hC, hP⟩ := hv
  have C0 : g_mc p s m _ meth c RX0 cX0_leave none 6 G := ⟨B.exec, B.bytes, B.returns, hml, findClass_of_methodNamed B.named, fun w h => atoms_spec (ws := wz yX0_leave cX0_leave 6 none) B.pre w (List.mem_cons_of_mem _ h), B.notSynchronized, hC⟩
  have hl := lv_entry ([.ref (G.2.1 0 t0), .int x1, .int x2]) (n := 6) (Nat.le_of_ble_eq_true rfl)
  rw [lg_entry_eq]
  generalize (lg_sl ([.ref (G.2.1 0 t0), .int x1, .int x2]) ++ List.replicate (6 - (lg_sl ([.ref (G.2.1 0 t0), .int x1, .int x2])).length) Slot.unset).toArray = ls at hl ⊢
  exact wk_X0_leave C0  t0 ht0 x1 x2 X hf hP va_S.rf hl
abbrev rm_X0_leaveAll : Room := { frames := 1, cells := 0, slots := 0, locals := 25 }
def wb_X0_leaveAll_2 (k2 : Nat → Int32 → Int32 → SM → Option (SM)) (t0 : Nat) (x1 : Int32) (x2 : Int32) (X : SM) : Option (SM) :=
  if 4 ≤ x2 then
  (some X)
  else
  ((fn_X0_leave t0 x2 x1 X).bind fun X_2 =>
    g_let (x2 + 1) fun x2_4 =>
    k2 t0 x1 x2_4 X_2)
set_option maxRecDepth 100000 in
set_option maxHeartbeats 4000000 in
theorem bk_X0_leaveAll_2 {p : Program} {l : Launch} {e : Env} {s : State} {m : MethodId} {args : Array Value} {below : List Frame} {meth : Method} {c : Code} {G : GP} {M : SM} {τ : SL} (C0 : g_mc p s m args meth c RX0 cX0_leaveAll none 3 G) {X0 : SM} (k2 : Nat → Int32 → Int32 → SM → Option (SM)) (hk2 : ∀ (t0 : Nat) (ht0 : t0 < 2) (x1 : Int32) (x2 : Int32) (X : SM), k2 t0 x1 x2 X = some X0 → ∀ {H : Heap} {locs : List Loc}, va_P G.1 g_cl (wd G (cb X M) τ) H → va_S (g_A G) s.heap H locs → ∀ {ls : Array Slot}, lv_has ls 3 [(0, .ref (G.2.1 0 t0)), (1, .int x1), (2, .int x2)] → W p l e rm_X0_leaveAll s m args below meth c H locs 0 0 (MQ below (va_Qv (fun u => u = (X0, M, τ)) (g_pw G) (g_A G)) args s 0 0 (g_A G)) (F0 m 2 ls [])) (t0 : Nat) (ht0 : t0 < 2) (x1 : Int32) (x2 : Int32) (X : SM) (hf : wb_X0_leaveAll_2 k2 t0 x1 x2 X = some X0) {H : Heap} {locs : List Loc} (hP : va_P G.1 g_cl (wd G (cb X M) τ) H) (hS : va_S (g_A G) s.heap H locs) {ls : Array Slot} (hl : lv_has ls 3 [(0, .ref (G.2.1 0 t0)), (1, .int x1), (2, .int x2)]) : W p l e rm_X0_leaveAll s m args below meth c H locs 0 0 (MQ below (va_Qv (fun u => u = (X0, M, τ)) (g_pw G) (g_A G)) args s 0 0 (g_A G)) (F0 m 2 ls []) := by
  obtain ⟨hx, hb, hr, hml, hown, hts, hlocks, hC⟩ := id C0
  unfold wb_X0_leaveAll_2 at hf
  refine lv_iload_n hx hb dX0_leaveAll_2 rfl (lv_at hl 2 rfl) ?_
  refine lv_iconst (v := 4) hx hb dX0_leaveAll_3 (by decide) ?_
  refine lv_icmp_ge (tgt := 19) hx hb dX0_leaveAll_4 (by decide) (fun hc_1 => ?_) (fun hc_1 => ?_)
  · have hf := g_pos hf hc_1
    cases hf
    exact x_vret hx hb hlocks hC hP hS hr dX0_leaveAll_19
  · have hf := g_neg hf hc_1
    refine lv_aload_n hx hb dX0_leaveAll_7 rfl (lv_at hl 0 rfl) ?_
    refine lv_iload_n hx hb dX0_leaveAll_8 rfl (lv_at hl 2 rfl) ?_
    refine lv_iload_n hx hb dX0_leaveAll_9 rfl (lv_at hl 1 rfl) ?_
    obtain ⟨X_2, hc_3, hf⟩ := g_bindE hf
    refine x_callv (v := (X_2, M, τ)) (va_runV (As := [.int x2, .int x1]) (rest := []) ⟨hx, hb, hml, hown, hts⟩ (ct_X0_leave l G X M τ t0 ht0 x2 x1 hc_3) (cwV 2 hts gd_X0_20 rfl rfl rfl hd_X0_leave ⟨Nat.le_of_ble_eq_true rfl, Nat.le_of_ble_eq_true rfl⟩) (x_preV (u := (X, M, τ)) (k := 0) (ci := 0) hC hS hP ht0 rfl rfl) rfl rfl hl.1 rfl (lv_room (Nat.le_of_ble_eq_true rfl)) dX0_leaveAll_10 ⟨Nat.zero_le _, Nat.zero_le _⟩) hS (fun H locs hP hS => ?_)
    obtain ⟨x2_4, ex2_4, hf⟩ := g_letE hf
    refine lv_iinc (v := x2_4) (lv' := [(2, .int x2_4), (0, .ref (G.2.1 0 t0)), (1, .int x1)]) hx hb dX0_leaveAll_13 hl (k := 2) rfl (by rw [← ex2_4]; rfl) (by decide) rfl (fun ls hl => ?_)
    refine lv_goto (tgt := 2) hx hb dX0_leaveAll_16 (by decide) ?_
    exact hk2 t0 ht0 x1 x2_4 X_2 hf hP hS (lv_sub hl [1, 2, 0] rfl)
def wl_X0_leaveAll_2 (n : Nat) (t0 : Nat) (x1 : Int32) (x2 : Int32) (X : SM) : Option (SM) := g_loop (α := Nat × Int32 × Int32 × SM) (fun k a => wb_X0_leaveAll_2 (fun t0 x1 x2 X => k (t0, x1, x2, X)) a.1 a.2.1 a.2.2.1 a.2.2.2) n (t0, x1, x2, X)
set_option maxRecDepth 100000 in
set_option maxHeartbeats 4000000 in
theorem lp_X0_leaveAll_2 {p : Program} {l : Launch} {e : Env} {s : State} {m : MethodId} {args : Array Value} {below : List Frame} {meth : Method} {c : Code} {G : GP} {M : SM} {τ : SL} (C0 : g_mc p s m args meth c RX0 cX0_leaveAll none 3 G) {X0 : SM} (n : Nat) : ∀ (t0 : Nat) (ht0 : t0 < 2) (x1 : Int32) (x2 : Int32) (X : SM), wl_X0_leaveAll_2 n t0 x1 x2 X = some X0 → ∀ {H : Heap} {locs : List Loc}, va_P G.1 g_cl (wd G (cb X M) τ) H → va_S (g_A G) s.heap H locs → ∀ {ls : Array Slot}, lv_has ls 3 [(0, .ref (G.2.1 0 t0)), (1, .int x1), (2, .int x2)] → W p l e rm_X0_leaveAll s m args below meth c H locs 0 0 (MQ below (va_Qv (fun u => u = (X0, M, τ)) (g_pw G) (g_A G)) args s 0 0 (g_A G)) (F0 m 2 ls []) := by
  induction n with
  | zero =>
    intro t0 ht0 x1 x2 X hf
    have hf : (none : Option (SM)) = _ := hf
    cases hf
  | succ n ih =>
    intro t0 ht0 x1 x2 X hf H locs hP hS ls hl
    exact bk_X0_leaveAll_2 C0   (fun t0 x1 x2 X => wl_X0_leaveAll_2   n t0 x1 x2 X) ih t0 ht0 x1 x2 X hf hP hS hl
def fn_X0_leaveAll (t0 : Nat) (x1 : Int32) (X : SM) : Option (SM) :=
  wl_X0_leaveAll_2 1000 t0 x1 0 X
set_option maxRecDepth 100000 in
set_option maxHeartbeats 4000000 in
theorem wk_X0_leaveAll {p : Program} {l : Launch} {e : Env} {s : State} {m : MethodId} {args : Array Value} {below : List Frame} {meth : Method} {c : Code} {G : GP} {M : SM} {τ : SL} (C0 : g_mc p s m args meth c RX0 cX0_leaveAll none 3 G) {X0 : SM} (t0 : Nat) (ht0 : t0 < 2) (x1 : Int32) (X : SM) (hf : fn_X0_leaveAll t0 x1 X = some X0) {H : Heap} {locs : List Loc} (hP : va_P G.1 g_cl (wd G (cb X M) τ) H) (hS : va_S (g_A G) s.heap H locs) {ls : Array Slot} (hl : lv_has ls 3 [(0, .ref (G.2.1 0 t0)), (1, .int x1)]) : W p l e rm_X0_leaveAll s m args below meth c H locs 0 0 (MQ below (va_Qv (fun u => u = (X0, M, τ)) (g_pw G) (g_A G)) args s 0 0 (g_A G)) (F0 m 0 ls []) := by
  obtain ⟨hx, hb, hr, hml, hown, hts, hlocks, hC⟩ := id C0
  unfold fn_X0_leaveAll at hf
  refine lv_iconst (v := 0) hx hb dX0_leaveAll_0 (by decide) ?_
  refine lv_istore_n (lv' := [(2, .int 0), (0, .ref (G.2.1 0 t0)), (1, .int x1)]) hx hb dX0_leaveAll_1 rfl hl (by decide) rfl (fun ls hl => ?_)
  exact lp_X0_leaveAll_2 C0 1000 t0 ht0 x1 0 X hf hP hS (lv_sub hl [1, 2, 0] rfl)
set_option maxRecDepth 100000 in
set_option maxHeartbeats 4000000 in
theorem ct_X0_leaveAll (l : Launch) (G : GP) (X M : SM) (τ : SL) (t0 : Nat) (ht0 : t0 < 2) (x1 : Int32) {X0 : SM} (hf : fn_X0_leaveAll t0 x1 X = some X0) : Met l yX0_leaveAll (wz yX0_leaveAll cX0_leaveAll 3 none) rm_X0_leaveAll (va_Pc [.ref (G.2.1 0 t0), .int x1] (g_pw G (X, M, τ))) (va_Qv (fun u => u = (X0, M, τ)) (g_pw G) (g_A G)) 0 0 (g_A G) := by
  refine Met.ofW (cc := cX0_leaveAll) (maxL := 3) (ret := none) (by decide +kernel) rfl ?_
  intro p e s m args below meth c s₁ B hml hv
  obtain ⟨rfl, hC, hP⟩ := hv
  have C0 : g_mc p s m _ meth c RX0 cX0_leaveAll none 3 G := ⟨B.exec, B.bytes, B.returns, hml, findClass_of_methodNamed B.named, fun w h => atoms_spec (ws := wz yX0_leaveAll cX0_leaveAll 3 none) B.pre w (List.mem_cons_of_mem _ h), B.notSynchronized, hC⟩
  have hl := lv_entry ([.ref (G.2.1 0 t0), .int x1]) (n := 3) (Nat.le_of_ble_eq_true rfl)
  rw [lg_entry_eq]
  generalize (lg_sl ([.ref (G.2.1 0 t0), .int x1]) ++ List.replicate (3 - (lg_sl ([.ref (G.2.1 0 t0), .int x1])).length) Slot.unset).toArray = ls at hl ⊢
  exact wk_X0_leaveAll C0  t0 ht0 x1 X hf hP va_S.rf hl
abbrev rm_X0_lengthAt : Room := { frames := 0, cells := 0, slots := 0, locals := 0 }
def fn_X0_lengthAt (t0 : Nat) (x1 : Int32) (X : SM) : Option (Int32) :=
  if x1 < 0 then
  (some 0)
  else
  (if 4 ≤ x1 then
    (some 0)
    else
    (if g_in x1 4 then
      some (X 15 t0 (x1.toNatClampNeg))
      else none))
set_option maxRecDepth 100000 in
set_option maxHeartbeats 4000000 in
theorem wk_X0_lengthAt {p : Program} {l : Launch} {e : Env} {s : State} {m : MethodId} {args : Array Value} {below : List Frame} {meth : Method} {c : Code} {G : GP} {M : SM} {τ : SL} (C0 : g_mc p s m args meth c RX0 cX0_lengthAt (some .int) 2 G) {r0 : Int32} (t0 : Nat) (ht0 : t0 < 2) (x1 : Int32) (X : SM) (hf : fn_X0_lengthAt t0 x1 X = some r0) {H : Heap} {locs : List Loc} (hP : va_P G.1 g_cl (wd G (cb X M) τ) H) (hS : va_S (g_A G) s.heap H locs) {ls : Array Slot} (hl : lv_has ls 2 [(0, .ref (G.2.1 0 t0)), (1, .int x1)]) : W p l e rm_X0_lengthAt s m args below meth c H locs 0 0 (MQ below (va_Qi (fun r u => r = r0 ∧ u = (X, M, τ)) (g_pw G) (g_A G)) args s 0 0 (g_A G)) (F0 m 0 ls []) := by
  obtain ⟨hx, hb, hr, hml, hown, hts, hlocks, hC⟩ := id C0
  unfold fn_X0_lengthAt at hf
  refine lv_iload_n hx hb dX0_lengthAt_0 rfl (lv_at hl 1 rfl) ?_
  refine lv_if_lt (tgt := 18) hx hb dX0_lengthAt_1 (by decide) (fun hc_1 => ?_) (fun hc_1 => ?_)
  · have hf := g_pos hf hc_1
    refine lv_iconst (v := 0) hx hb dX0_lengthAt_18 (by decide) ?_
    cases hf
    exact x_iret hx hb hlocks hC hP hS hr dX0_lengthAt_19
  · have hf := g_neg hf hc_1
    refine lv_iload_n hx hb dX0_lengthAt_4 rfl (lv_at hl 1 rfl) ?_
    refine lv_iconst (v := 4) hx hb dX0_lengthAt_5 (by decide) ?_
    refine lv_icmp_ge (tgt := 18) hx hb dX0_lengthAt_6 (by decide) (fun hc_2 => ?_) (fun hc_2 => ?_)
    · have hf := g_pos hf hc_2
      refine lv_iconst (v := 0) hx hb dX0_lengthAt_18 (by decide) ?_
      cases hf
      exact x_iret hx hb hlocks hC hP hS hr dX0_lengthAt_19
    · have hf := g_neg hf hc_2
      refine lv_aload_n hx hb dX0_lengthAt_9 rfl (lv_at hl 0 rfl) ?_
      refine gt_0_1 hx hb hts hown hC hP ht0 q4_20 dX0_lengthAt_10 ?_
      refine lv_iload_n hx hb dX0_lengthAt_13 rfl (lv_at hl 1 rfl) ?_
      obtain ⟨hg_3, hf⟩ := g_gd hf
      refine xildX (k := 15) (n := 4) hx hb hC hP (fun _ _ => rfl) rfl ht0 hg_3 dX0_lengthAt_14 ?_
      refine lv_goto (tgt := 19) hx hb dX0_lengthAt_15 (by decide) ?_
      cases hf
      exact x_iret hx hb hlocks hC hP hS hr dX0_lengthAt_19
set_option maxRecDepth 100000 in
set_option maxHeartbeats 4000000 in
theorem ct_X0_lengthAt (l : Launch) (G : GP) (X M : SM) (τ : SL) (t0 : Nat) (ht0 : t0 < 2) (x1 : Int32) {r0 : Int32} (hf : fn_X0_lengthAt t0 x1 X = some r0) : Met l yX0_lengthAt (wz yX0_lengthAt cX0_lengthAt 2 (some .int)) rm_X0_lengthAt (va_Pc [.ref (G.2.1 0 t0), .int x1] (g_pw G (X, M, τ))) (va_Qi (fun r u => r = r0 ∧ u = (X, M, τ)) (g_pw G) (g_A G)) 0 0 (g_A G) := by
  refine Met.ofW (cc := cX0_lengthAt) (maxL := 2) (ret := (some .int)) (by decide +kernel) rfl ?_
  intro p e s m args below meth c s₁ B hml hv
  obtain ⟨rfl, hC, hP⟩ := hv
  have C0 : g_mc p s m _ meth c RX0 cX0_lengthAt (some .int) 2 G := ⟨B.exec, B.bytes, B.returns, hml, findClass_of_methodNamed B.named, fun w h => atoms_spec (ws := wz yX0_lengthAt cX0_lengthAt 2 (some .int)) B.pre w (List.mem_cons_of_mem _ h), B.notSynchronized, hC⟩
  have hl := lv_entry ([.ref (G.2.1 0 t0), .int x1]) (n := 2) (Nat.le_of_ble_eq_true rfl)
  rw [lg_entry_eq]
  generalize (lg_sl ([.ref (G.2.1 0 t0), .int x1]) ++ List.replicate (2 - (lg_sl ([.ref (G.2.1 0 t0), .int x1])).length) Slot.unset).toArray = ls at hl ⊢
  exact wk_X0_lengthAt C0  t0 ht0 x1 X hf hP va_S.rf hl
abbrev rm_X0_reset : Room := { frames := 1, cells := 0, slots := 0, locals := 23 }
def fn_X0_reset (t0 : Nat) (X : SM) : SM :=
  g_let (uf X 15 t0 4 0) fun X_1 =>
  X_1
set_option maxRecDepth 100000 in
set_option maxHeartbeats 4000000 in
theorem wk_X0_reset {p : Program} {l : Launch} {e : Env} {s : State} {m : MethodId} {args : Array Value} {below : List Frame} {meth : Method} {c : Code} {G : GP} {M : SM} {τ : SL} (C0 : g_mc p s m args meth c RX0 cX0_reset none 1 G) {X0 : SM} (t0 : Nat) (ht0 : t0 < 2) (X : SM) (hf : fn_X0_reset t0 X = X0) {H : Heap} {locs : List Loc} (hP : va_P G.1 g_cl (wd G (cb X M) τ) H) (hS : va_S (g_A G) s.heap H locs) {ls : Array Slot} (hl : lv_has ls 1 [(0, .ref (G.2.1 0 t0))]) : W p l e rm_X0_reset s m args below meth c H locs 0 0 (MQ below (va_Qv (fun u => u = (X0, M, τ)) (g_pw G) (g_A G)) args s 0 0 (g_A G)) (F0 m 0 ls []) := by
  obtain ⟨hx, hb, hr, hml, hown, hts, hlocks, hC⟩ := id C0
  unfold fn_X0_reset at hf
  refine lv_aload_n hx hb dX0_reset_0 rfl (lv_at hl 0 rfl) ?_
  refine gt_0_1 hx hb hts hown hC hP ht0 q4_20 dX0_reset_1 ?_
  refine lv_iconst (v := 0) hx hb dX0_reset_4 (by decide) ?_
  obtain ⟨X_1, eX_1, hf⟩ := g_letE hf
  refine x_fillX (k := 15) (n := 4) (rest := []) hx hb hml hown hts hC hP hS (fun _ _ => rfl) rfl (by decide) ht0 q18_18 hl.1 (lv_room (Nat.le_of_ble_eq_true rfl)) dX0_reset_5 ⟨Nat.le_of_ble_eq_true rfl, Nat.le_of_ble_eq_true rfl⟩ ⟨Nat.zero_le _, Nat.zero_le _⟩ (fun H locs hP hS => ?_)
  rw [eX_1] at hP
  cases hf
  exact x_vret hx hb hlocks hC hP hS hr dX0_reset_8
set_option maxRecDepth 100000 in
set_option maxHeartbeats 4000000 in
theorem ct_X0_reset (l : Launch) (G : GP) (X M : SM) (τ : SL) (t0 : Nat) (ht0 : t0 < 2) {X0 : SM} (hf : fn_X0_reset t0 X = X0) : Met l yX0_reset (wz yX0_reset cX0_reset 1 none) rm_X0_reset (va_Pc [.ref (G.2.1 0 t0)] (g_pw G (X, M, τ))) (va_Qv (fun u => u = (X0, M, τ)) (g_pw G) (g_A G)) 0 0 (g_A G) := by
  refine Met.ofW (cc := cX0_reset) (maxL := 1) (ret := none) (by decide +kernel) rfl ?_
  intro p e s m args below meth c s₁ B hml hv
  obtain ⟨rfl, hC, hP⟩ := hv
  have C0 : g_mc p s m _ meth c RX0 cX0_reset none 1 G := ⟨B.exec, B.bytes, B.returns, hml, findClass_of_methodNamed B.named, fun w h => atoms_spec (ws := wz yX0_reset cX0_reset 1 none) B.pre w (List.mem_cons_of_mem _ h), B.notSynchronized, hC⟩
  have hl := lv_entry ([.ref (G.2.1 0 t0)]) (n := 1) (Nat.le_of_ble_eq_true rfl)
  rw [lg_entry_eq]
  generalize (lg_sl ([.ref (G.2.1 0 t0)]) ++ List.replicate (1 - (lg_sl ([.ref (G.2.1 0 t0)])).length) Slot.unset).toArray = ls at hl ⊢
  exact wk_X0_reset C0  t0 ht0 X hf hP va_S.rf hl
abbrev rm_X10_has : Room := { frames := 0, cells := 0, slots := 0, locals := 0 }
def fn_X10_has (x1 : Int32) (X : SM) : Int32 :=
  if x1 < 0 then
  (0)
  else
  (if (X 10 0 1) ≤ x1 then
    (0)
    else
    (if 16 ≤ x1 then
      (0)
      else
      (1)))
set_option maxRecDepth 100000 in
set_option maxHeartbeats 4000000 in
theorem wk_X10_has {p : Program} {l : Launch} {e : Env} {s : State} {m : MethodId} {args : Array Value} {below : List Frame} {meth : Method} {c : Code} {G : GP} {M : SM} {τ : SL} (C0 : g_mc p s m args meth c RX10 cX10_has (some .boolean) 2 G) {r0 : Int32} (x1 : Int32) (X : SM) (hf : fn_X10_has x1 X = r0) {H : Heap} {locs : List Loc} (hP : va_P G.1 g_cl (wd G (cb X M) τ) H) (hS : va_S (g_A G) s.heap H locs) {ls : Array Slot} (hl : lv_has ls 2 [(0, .ref (G.2.1 10 0)), (1, .int x1)]) : W p l e rm_X10_has s m args below meth c H locs 0 0 (MQ below (va_Qi (fun r u => r = r0 ∧ u = (X, M, τ)) (g_pw G) (g_A G)) args s 0 0 (g_A G)) (F0 m 0 ls []) := by
  obtain ⟨hx, hb, hr, hml, hown, hts, hlocks, hC⟩ := id C0
  unfold fn_X10_has at hf
  refine lv_iload_n hx hb dX10_has_0 rfl (lv_at hl 1 rfl) ?_
  refine lv_if_lt (tgt := 22) hx hb dX10_has_1 (by decide) (fun hc_1 => ?_) (fun hc_1 => ?_)
  · have hf := g_pos hf hc_1
    refine lv_iconst (v := 0) hx hb dX10_has_22 (by decide) ?_
    cases hf
    exact x_zret hx hb hlocks hC hP hS hr (Or.inl rfl) dX10_has_23
  · have hf := g_neg hf hc_1
    refine lv_iload_n hx hb dX10_has_4 rfl (lv_at hl 1 rfl) ?_
    refine lv_aload_n hx hb dX10_has_5 rfl (lv_at hl 0 rfl) ?_
    refine gt_10_1 hx hb hts hown hC hP Nat.zero_lt_one q2_18 dX10_has_6 ?_
    refine lv_icmp_ge (tgt := 22) hx hb dX10_has_9 (by decide) (fun hc_2 => ?_) (fun hc_2 => ?_)
    · have hf := g_pos hf hc_2
      refine lv_iconst (v := 0) hx hb dX10_has_22 (by decide) ?_
      cases hf
      exact x_zret hx hb hlocks hC hP hS hr (Or.inl rfl) dX10_has_23
    · have hf := g_neg hf hc_2
      refine lv_iload_n hx hb dX10_has_12 rfl (lv_at hl 1 rfl) ?_
      refine lv_bipush (v := 16) hx hb dX10_has_13 (by decide) ?_
      refine lv_icmp_ge (tgt := 22) hx hb dX10_has_15 (by decide) (fun hc_3 => ?_) (fun hc_3 => ?_)
      · have hf := g_pos hf hc_3
        refine lv_iconst (v := 0) hx hb dX10_has_22 (by decide) ?_
        cases hf
        exact x_zret hx hb hlocks hC hP hS hr (Or.inl rfl) dX10_has_23
      · have hf := g_neg hf hc_3
        refine lv_iconst (v := 1) hx hb dX10_has_18 (by decide) ?_
        refine lv_goto (tgt := 23) hx hb dX10_has_19 (by decide) ?_
        cases hf
        exact x_zret hx hb hlocks hC hP hS hr (Or.inr rfl) dX10_has_23
set_option maxRecDepth 100000 in
set_option maxHeartbeats 4000000 in
theorem ct_X10_has (l : Launch) (G : GP) (X M : SM) (τ : SL) (x1 : Int32) {r0 : Int32} (hf : fn_X10_has x1 X = r0) : Met l yX10_has (wz yX10_has cX10_has 2 (some .boolean)) rm_X10_has (va_Pc [.ref (G.2.1 10 0), .int x1] (g_pw G (X, M, τ))) (va_Qi (fun r u => r = r0 ∧ u = (X, M, τ)) (g_pw G) (g_A G)) 0 0 (g_A G) := by
  refine Met.ofW (cc := cX10_has) (maxL := 2) (ret := (some .boolean)) (by decide +kernel) rfl ?_
  intro p e s m args below meth c s₁ B hml hv
  obtain ⟨rfl, hC, hP⟩ := hv
  have C0 : g_mc p s m _ meth c RX10 cX10_has (some .boolean) 2 G := ⟨B.exec, B.bytes, B.returns, hml, findClass_of_methodNamed B.named, fun w h => atoms_spec (ws := wz yX10_has cX10_has 2 (some .boolean)) B.pre w (List.mem_cons_of_mem _ h), B.notSynchronized, hC⟩
  have hl := lv_entry ([.ref (G.2.1 10 0), .int x1]) (n := 2) (Nat.le_of_ble_eq_true rfl)
  rw [lg_entry_eq]
  generalize (lg_sl ([.ref (G.2.1 10 0), .int x1]) ++ List.replicate (2 - (lg_sl ([.ref (G.2.1 10 0), .int x1])).length) Slot.unset).toArray = ls at hl ⊢
  exact wk_X10_has C0  x1 X hf hP va_S.rf hl
abbrev rm_X10_owned : Room := { frames := 1, cells := 0, slots := 0, locals := 21 }
def wb_X10_owned_4 (k4 : Int32 → Int32 → Int32 → SM → Option (Int32)) (x1 : Int32) (x2 : Int32) (x3 : Int32) (X : SM) : Option (Int32) :=
  if 16 ≤ x3 then
  (some x2)
  else
  (g_let (fn_X10_has x3 X) fun r_2 =>
    if r_2 = 0 then
    (some x2)
    else
    (if g_in x3 16 then
      if (X 34 0 (x3.toNatClampNeg)) = x1 then
      (g_let (x2 + 1) fun x2_8 =>
        g_let (x3 + 1) fun x3_9 =>
        k4 x1 x2_8 x3_9 X)
      else
      (g_let (x3 + 1) fun x3_7 =>
        k4 x1 x2 x3_7 X)
      else none))
set_option maxRecDepth 100000 in
set_option maxHeartbeats 4000000 in
theorem bk_X10_owned_4 {p : Program} {l : Launch} {e : Env} {s : State} {m : MethodId} {args : Array Value} {below : List Frame} {meth : Method} {c : Code} {G : GP} {M : SM} {τ : SL} (C0 : g_mc p s m args meth c RX10 cX10_owned (some .int) 4 G) {r0 : Int32} (k4 : Int32 → Int32 → Int32 → SM → Option (Int32)) (hk4 : ∀ (x1 : Int32) (x2 : Int32) (x3 : Int32) (X : SM), k4 x1 x2 x3 X = some r0 → ∀ {H : Heap} {locs : List Loc}, va_P G.1 g_cl (wd G (cb X M) τ) H → va_S (g_A G) s.heap H locs → ∀ {ls : Array Slot}, lv_has ls 4 [(0, .ref (G.2.1 10 0)), (1, .int x1), (2, .int x2), (3, .int x3)] → W p l e rm_X10_owned s m args below meth c H locs 0 0 (MQ below (va_Qi (fun r u => r = r0 ∧ u = (X, M, τ)) (g_pw G) (g_A G)) args s 0 0 (g_A G)) (F0 m 4 ls [])) (x1 : Int32) (x2 : Int32) (x3 : Int32) (X : SM) (hf : wb_X10_owned_4 k4 x1 x2 x3 X = some r0) {H : Heap} {locs : List Loc} (hP : va_P G.1 g_cl (wd G (cb X M) τ) H) (hS : va_S (g_A G) s.heap H locs) {ls : Array Slot} (hl : lv_has ls 4 [(0, .ref (G.2.1 10 0)), (1, .int x1), (2, .int x2), (3, .int x3)]) : W p l e rm_X10_owned s m args below meth c H locs 0 0 (MQ below (va_Qi (fun r u => r = r0 ∧ u = (X, M, τ)) (g_pw G) (g_A G)) args s 0 0 (g_A G)) (F0 m 4 ls []) := by
  obtain ⟨hx, hb, hr, hml, hown, hts, hlocks, hC⟩ := id C0
  unfold wb_X10_owned_4 at hf
  refine lv_iload_n hx hb dX10_owned_4 rfl (lv_at hl 3 rfl) ?_
  refine lv_bipush (v := 16) hx hb dX10_owned_5 (by decide) ?_
  refine lv_icmp_ge (tgt := 37) hx hb dX10_owned_7 (by decide) (fun hc_1 => ?_) (fun hc_1 => ?_)
  · have hf := g_pos hf hc_1
    refine lv_iload_n hx hb dX10_owned_37 rfl (lv_at hl 2 rfl) ?_
    cases hf
    exact x_iret hx hb hlocks hC hP hS hr dX10_owned_38
  · have hf := g_neg hf hc_1
    refine lv_aload_n hx hb dX10_owned_10 rfl (lv_at hl 0 rfl) ?_
    refine lv_iload_n hx hb dX10_owned_11 rfl (lv_at hl 3 rfl) ?_
    obtain ⟨r_2, hc_3, hf⟩ := g_letE hf
    refine x_calli (v := (X, M, τ)) (va_runV (As := [.int x3]) (rest := []) ⟨hx, hb, hml, hown, hts⟩ (ct_X10_has l G X M τ x3 hc_3) (cwV 1 hts gd_X10_25 rfl rfl rfl hd_X10_has ⟨Nat.le_of_ble_eq_true rfl, Nat.le_of_ble_eq_true rfl⟩) (x_preV (u := (X, M, τ)) (k := 10) (ci := 10) hC hS hP Nat.zero_lt_one rfl rfl) rfl rfl hl.1 rfl (lv_room (Nat.le_of_ble_eq_true rfl)) dX10_owned_12 ⟨Nat.zero_le _, Nat.zero_le _⟩) hS (fun H locs hP hS => ?_)
    refine lv_if_eq (tgt := 37) hx hb dX10_owned_15 (by decide) (fun hc_4 => ?_) (fun hc_4 => ?_)
    · have hf := g_pos hf hc_4
      refine lv_iload_n hx hb dX10_owned_37 rfl (lv_at hl 2 rfl) ?_
      cases hf
      exact x_iret hx hb hlocks hC hP hS hr dX10_owned_38
    · have hf := g_neg hf hc_4
      refine lv_aload_n hx hb dX10_owned_18 rfl (lv_at hl 0 rfl) ?_
      refine gt_10_0 hx hb hts hown hC hP Nat.zero_lt_one q2_17 dX10_owned_19 ?_
      refine lv_iload_n hx hb dX10_owned_22 rfl (lv_at hl 3 rfl) ?_
      obtain ⟨hg_5, hf⟩ := g_gd hf
      refine xildX (k := 34) (n := 16) hx hb hC hP (fun _ _ => rfl) rfl Nat.zero_lt_one hg_5 dX10_owned_23 ?_
      refine lv_iload_n hx hb dX10_owned_24 rfl (lv_at hl 1 rfl) ?_
      refine lv_icmp_ne (tgt := 31) hx hb dX10_owned_25 (by decide) (fun hc_6 => ?_) (fun hc_6 => ?_)
      · have hf := g_neg hf hc_6
        obtain ⟨x3_7, ex3_7, hf⟩ := g_letE hf
        refine lv_iinc (v := x3_7) (lv' := [(3, .int x3_7), (0, .ref (G.2.1 10 0)), (1, .int x1), (2, .int x2)]) hx hb dX10_owned_31 hl (k := 3) rfl (by rw [← ex3_7]; rfl) (by decide) rfl (fun ls hl => ?_)
        refine lv_goto (tgt := 4) hx hb dX10_owned_34 (by decide) ?_
        exact hk4 x1 x2 x3_7 X hf hP hS (lv_sub hl [1, 2, 3, 0] rfl)
      · have hf := g_pos hf hc_6
        obtain ⟨x2_8, ex2_8, hf⟩ := g_letE hf
        refine lv_iinc (v := x2_8) (lv' := [(2, .int x2_8), (0, .ref (G.2.1 10 0)), (1, .int x1), (3, .int x3)]) hx hb dX10_owned_28 hl (k := 2) rfl (by rw [← ex2_8]; rfl) (by decide) rfl (fun ls hl => ?_)
        obtain ⟨x3_9, ex3_9, hf⟩ := g_letE hf
        refine lv_iinc (v := x3_9) (lv' := [(3, .int x3_9), (2, .int x2_8), (0, .ref (G.2.1 10 0)), (1, .int x1)]) hx hb dX10_owned_31 hl (k := 3) rfl (by rw [← ex3_9]; rfl) (by decide) rfl (fun ls hl => ?_)
        refine lv_goto (tgt := 4) hx hb dX10_owned_34 (by decide) ?_
        exact hk4 x1 x2_8 x3_9 X hf hP hS (lv_sub hl [2, 3, 1, 0] rfl)
def wl_X10_owned_4 (n : Nat) (x1 : Int32) (x2 : Int32) (x3 : Int32) (X : SM) : Option (Int32) := g_loop (α := Int32 × Int32 × Int32 × SM) (fun k a => wb_X10_owned_4 (fun x1 x2 x3 X => k (x1, x2, x3, X)) a.1 a.2.1 a.2.2.1 a.2.2.2) n (x1, x2, x3, X)
set_option maxRecDepth 100000 in
set_option maxHeartbeats 4000000 in
theorem lp_X10_owned_4 {p : Program} {l : Launch} {e : Env} {s : State} {m : MethodId} {args : Array Value} {below : List Frame} {meth : Method} {c : Code} {G : GP} {M : SM} {τ : SL} (C0 : g_mc p s m args meth c RX10 cX10_owned (some .int) 4 G) {r0 : Int32} (n : Nat) : ∀ (x1 : Int32) (x2 : Int32) (x3 : Int32) (X : SM), wl_X10_owned_4 n x1 x2 x3 X = some r0 → ∀ {H : Heap} {locs : List Loc}, va_P G.1 g_cl (wd G (cb X M) τ) H → va_S (g_A G) s.heap H locs → ∀ {ls : Array Slot}, lv_has ls 4 [(0, .ref (G.2.1 10 0)), (1, .int x1), (2, .int x2), (3, .int x3)] → W p l e rm_X10_owned s m args below meth c H locs 0 0 (MQ below (va_Qi (fun r u => r = r0 ∧ u = (X, M, τ)) (g_pw G) (g_A G)) args s 0 0 (g_A G)) (F0 m 4 ls []) := by
  induction n with
  | zero =>
    intro x1 x2 x3 X hf
    have hf : (none : Option (Int32)) = _ := hf
    cases hf
  | succ n ih =>
    intro x1 x2 x3 X hf H locs hP hS ls hl
    exact bk_X10_owned_4 C0   (fun x1 x2 x3 X => wl_X10_owned_4   n x1 x2 x3 X) ih x1 x2 x3 X hf hP hS hl
def fn_X10_owned (x1 : Int32) (X : SM) : Option (Int32) :=
  wl_X10_owned_4 1000 x1 0 0 X
set_option maxRecDepth 100000 in
set_option maxHeartbeats 4000000 in
theorem wk_X10_owned {p : Program} {l : Launch} {e : Env} {s : State} {m : MethodId} {args : Array Value} {below : List Frame} {meth : Method} {c : Code} {G : GP} {M : SM} {τ : SL} (C0 : g_mc p s m args meth c RX10 cX10_owned (some .int) 4 G) {r0 : Int32} (x1 : Int32) (X : SM) (hf : fn_X10_owned x1 X = some r0) {H : Heap} {locs : List Loc} (hP : va_P G.1 g_cl (wd G (cb X M) τ) H) (hS : va_S (g_A G) s.heap H locs) {ls : Array Slot} (hl : lv_has ls 4 [(0, .ref (G.2.1 10 0)), (1, .int x1)]) : W p l e rm_X10_owned s m args below meth c H locs 0 0 (MQ below (va_Qi (fun r u => r = r0 ∧ u = (X, M, τ)) (g_pw G) (g_A G)) args s 0 0 (g_A G)) (F0 m 0 ls []) := by
  obtain ⟨hx, hb, hr, hml, hown, hts, hlocks, hC⟩ := id C0
  unfold fn_X10_owned at hf
  refine lv_iconst (v := 0) hx hb dX10_owned_0 (by decide) ?_
  refine lv_istore_n (lv' := [(2, .int 0), (0, .ref (G.2.1 10 0)), (1, .int x1)]) hx hb dX10_owned_1 rfl hl (by decide) rfl (fun ls hl => ?_)
  refine lv_iconst (v := 0) hx hb dX10_owned_2 (by decide) ?_
  refine lv_istore_n (lv' := [(3, .int 0), (2, .int 0), (0, .ref (G.2.1 10 0)), (1, .int x1)]) hx hb dX10_owned_3 rfl hl (by decide) rfl (fun ls hl => ?_)
  exact lp_X10_owned_4 C0 1000 x1 0 0 X hf hP hS (lv_sub hl [2, 3, 1, 0] rfl)
set_option maxRecDepth 100000 in
set_option maxHeartbeats 4000000 in
theorem ct_X10_owned (l : Launch) (G : GP) (X M : SM) (τ : SL) (x1 : Int32) {r0 : Int32} (hf : fn_X10_owned x1 X = some r0) : Met l yX10_owned (wz yX10_owned cX10_owned 4 (some .int)) rm_X10_owned (va_Pc [.ref (G.2.1 10 0), .int x1] (g_pw G (X, M, τ))) (va_Qi (fun r u => r = r0 ∧ u = (X, M, τ)) (g_pw G) (g_A G)) 0 0 (g_A G) := by
  refine Met.ofW (cc := cX10_owned) (maxL := 4) (ret := (some .int)) (by decide +kernel) rfl ?_
  intro p e s m args below meth c s₁ B hml hv
  obtain ⟨rfl, hC, hP⟩ := hv
  have C0 : g_mc p s m _ meth c RX10 cX10_owned (some .int) 4 G := ⟨B.exec, B.bytes, B.returns, hml, findClass_of_methodNamed B.named, fun w h => atoms_spec (ws := wz yX10_owned cX10_owned 4 (some .int)) B.pre w (List.mem_cons_of_mem _ h), B.notSynchronized, hC⟩
  have hl := lv_entry ([.ref (G.2.1 10 0), .int x1]) (n := 4) (Nat.le_of_ble_eq_true rfl)
  rw [lg_entry_eq]
  generalize (lg_sl ([.ref (G.2.1 10 0), .int x1]) ++ List.replicate (4 - (lg_sl ([.ref (G.2.1 10 0), .int x1])).length) Slot.unset).toArray = ls at hl ⊢
  exact wk_X10_owned C0  x1 X hf hP va_S.rf hl
abbrev rm_X10_ownerAt : Room := { frames := 1, cells := 0, slots := 0, locals := 21 }
def fn_X10_ownerAt (x1 : Int32) (X : SM) : Option (Int32) :=
  if 1 ≤ (X 10 0 1) then
  (if ¬ (X 10 0 1) = 0 then
    g_let ((x1 - x1 / (X 10 0 1) * (X 10 0 1))) fun x2_3 =>
    g_let (fn_X10_has x2_3 X) fun r_4 =>
    if r_4 = 0 then
    (some (-1))
    else
    (if g_in x2_3 16 then
      some (X 34 0 (x2_3.toNatClampNeg))
      else none)
    else none)
  else
  (some (-1))
set_option maxRecDepth 100000 in
set_option maxHeartbeats 4000000 in
theorem wk_X10_ownerAt {p : Program} {l : Launch} {e : Env} {s : State} {m : MethodId} {args : Array Value} {below : List Frame} {meth : Method} {c : Code} {G : GP} {M : SM} {τ : SL} (C0 : g_mc p s m args meth c RX10 cX10_ownerAt (some .int) 3 G) {r0 : Int32} (x1 : Int32) (X : SM) (hf : fn_X10_ownerAt x1 X = some r0) {H : Heap} {locs : List Loc} (hP : va_P G.1 g_cl (wd G (cb X M) τ) H) (hS : va_S (g_A G) s.heap H locs) {ls : Array Slot} (hl : lv_has ls 3 [(0, .ref (G.2.1 10 0)), (1, .int x1)]) : W p l e rm_X10_ownerAt s m args below meth c H locs 0 0 (MQ below (va_Qi (fun r u => r = r0 ∧ u = (X, M, τ)) (g_pw G) (g_A G)) args s 0 0 (g_A G)) (F0 m 0 ls []) := by
  obtain ⟨hx, hb, hr, hml, hown, hts, hlocks, hC⟩ := id C0
  unfold fn_X10_ownerAt at hf
  refine lv_aload_n hx hb dX10_ownerAt_0 rfl (lv_at hl 0 rfl) ?_
  refine gt_10_1 hx hb hts hown hC hP Nat.zero_lt_one q2_18 dX10_ownerAt_1 ?_
  refine lv_iconst (v := 1) hx hb dX10_ownerAt_4 (by decide) ?_
  refine lv_icmp_ge (tgt := 10) hx hb dX10_ownerAt_5 (by decide) (fun hc_1 => ?_) (fun hc_1 => ?_)
  · have hf := g_pos hf hc_1
    refine lv_iload_n hx hb dX10_ownerAt_10 rfl (lv_at hl 1 rfl) ?_
    refine lv_aload_n hx hb dX10_ownerAt_11 rfl (lv_at hl 0 rfl) ?_
    refine gt_10_1 hx hb hts hown hC hP Nat.zero_lt_one q2_18 dX10_ownerAt_12 ?_
    obtain ⟨hg_2, hf⟩ := g_gd hf
    refine lv_irem hx hb dX10_ownerAt_15 hg_2 ?_
    obtain ⟨x2_3, ex2_3, hf⟩ := g_letE hf
    refine lv_topE ex2_3 ?_
    refine lv_istore_n (lv' := [(2, .int x2_3), (0, .ref (G.2.1 10 0)), (1, .int x1)]) hx hb dX10_ownerAt_16 rfl hl (by decide) rfl (fun ls hl => ?_)
    refine lv_aload_n hx hb dX10_ownerAt_17 rfl (lv_at hl 1 rfl) ?_
    refine lv_iload_n hx hb dX10_ownerAt_18 rfl (lv_at hl 0 rfl) ?_
    obtain ⟨r_4, hc_5, hf⟩ := g_letE hf
    refine x_calli (v := (X, M, τ)) (va_runV (As := [.int x2_3]) (rest := []) ⟨hx, hb, hml, hown, hts⟩ (ct_X10_has l G X M τ x2_3 hc_5) (cwV 1 hts gd_X10_25 rfl rfl rfl hd_X10_has ⟨Nat.le_of_ble_eq_true rfl, Nat.le_of_ble_eq_true rfl⟩) (x_preV (u := (X, M, τ)) (k := 10) (ci := 10) hC hS hP Nat.zero_lt_one rfl rfl) rfl rfl hl.1 rfl (lv_room (Nat.le_of_ble_eq_true rfl)) dX10_ownerAt_19 ⟨Nat.zero_le _, Nat.zero_le _⟩) hS (fun H locs hP hS => ?_)
    refine lv_if_eq (tgt := 34) hx hb dX10_ownerAt_22 (by decide) (fun hc_6 => ?_) (fun hc_6 => ?_)
    · have hf := g_pos hf hc_6
      refine lv_iconst (v := (-1)) hx hb dX10_ownerAt_34 (by decide) ?_
      cases hf
      exact x_iret hx hb hlocks hC hP hS hr dX10_ownerAt_35
    · have hf := g_neg hf hc_6
      refine lv_aload_n hx hb dX10_ownerAt_25 rfl (lv_at hl 1 rfl) ?_
      refine gt_10_0 hx hb hts hown hC hP Nat.zero_lt_one q2_17 dX10_ownerAt_26 ?_
      refine lv_iload_n hx hb dX10_ownerAt_29 rfl (lv_at hl 0 rfl) ?_
      obtain ⟨hg_7, hf⟩ := g_gd hf
      refine xildX (k := 34) (n := 16) hx hb hC hP (fun _ _ => rfl) rfl Nat.zero_lt_one hg_7 dX10_ownerAt_30 ?_
      refine lv_goto (tgt := 35) hx hb dX10_ownerAt_31 (by decide) ?_
      cases hf
      exact x_iret hx hb hlocks hC hP hS hr dX10_ownerAt_35
  · have hf := g_neg hf hc_1
    refine lv_iconst (v := (-1)) hx hb dX10_ownerAt_8 (by decide) ?_
    cases hf
    exact x_iret hx hb hlocks hC hP hS hr dX10_ownerAt_9
set_option maxRecDepth 100000 in
set_option maxHeartbeats 4000000 in
theorem ct_X10_ownerAt (l : Launch) (G : GP) (X M : SM) (τ : SL) (x1 : Int32) {r0 : Int32} (hf : fn_X10_ownerAt x1 X = some r0) : Met l yX10_ownerAt (wz yX10_ownerAt cX10_ownerAt 3 (some .int)) rm_X10_ownerAt (va_Pc [.ref (G.2.1 10 0), .int x1] (g_pw G (X, M, τ))) (va_Qi (fun r u => r = r0 ∧ u = (X, M, τ)) (g_pw G) (g_A G)) 0 0 (g_A G) := by
  refine Met.ofW (cc := cX10_ownerAt) (maxL := 3) (ret := (some .int)) (by decide +kernel) rfl ?_
  intro p e s m args below meth c s₁ B hml hv
  obtain ⟨rfl, hC, hP⟩ := hv
  have C0 : g_mc p s m _ meth c RX10 cX10_ownerAt (some .int) 3 G := ⟨B.exec, B.bytes, B.returns, hml, findClass_of_methodNamed B.named, fun w h => atoms_spec (ws := wz yX10_ownerAt cX10_ownerAt 3 (some .int)) B.pre w (List.mem_cons_of_mem _ h), B.notSynchronized, hC⟩
  have hl := lv_entry ([.ref (G.2.1 10 0), .int x1]) (n := 3) (Nat.le_of_ble_eq_true rfl)
  rw [lg_entry_eq]
  generalize (lg_sl ([.ref (G.2.1 10 0), .int x1]) ++ List.replicate (3 - (lg_sl ([.ref (G.2.1 10 0), .int x1])).length) Slot.unset).toArray = ls at hl ⊢
  exact wk_X10_ownerAt C0  x1 X hf hP va_S.rf hl
abbrev rm_X10_resize : Room := { frames := 0, cells := 0, slots := 0, locals := 0 }
def wb_X10_resize_7 (k7 : Int32 → Int32 → Int32 → SM → Option (Int32 × SM)) (x1 : Int32) (x2 : Int32) (x3 : Int32) (X : SM) : Option (Int32 × SM) :=
  if x1 ≤ x3 then
  (g_let (u1 X 10 0 1 x1) fun X_3 =>
    some (x2, X_3))
  else
  (if 16 ≤ x3 then
    (g_let (u1 X 10 0 1 x1) fun X_5 =>
      some (x2, X_5))
    else
    (if g_in x3 16 then
      g_let (u1 X 34 0 (x3.toNatClampNeg) (-1)) fun X_7 =>
      g_let (x3 + 1) fun x3_8 =>
      k7 x1 x2 x3_8 X_7
      else none))
set_option maxRecDepth 100000 in
set_option maxHeartbeats 4000000 in
theorem bk_X10_resize_7 {p : Program} {l : Launch} {e : Env} {s : State} {m : MethodId} {args : Array Value} {below : List Frame} {meth : Method} {c : Code} {G : GP} {M : SM} {τ : SL} (C0 : g_mc p s m args meth c RX10 cX10_resize (some .int) 4 G) {r0 : Int32} {X0 : SM} (k7 : Int32 → Int32 → Int32 → SM → Option (Int32 × SM)) (hk7 : ∀ (x1 : Int32) (x2 : Int32) (x3 : Int32) (X : SM), k7 x1 x2 x3 X = some (r0, X0) → ∀ {H : Heap} {locs : List Loc}, va_P G.1 g_cl (wd G (cb X M) τ) H → va_S (g_A G) s.heap H locs → ∀ {ls : Array Slot}, lv_has ls 4 [(0, .ref (G.2.1 10 0)), (1, .int x1), (2, .int x2), (3, .int x3)] → W p l e rm_X10_resize s m args below meth c H locs 0 0 (MQ below (va_Qi (fun r u => r = r0 ∧ u = (X0, M, τ)) (g_pw G) (g_A G)) args s 0 0 (g_A G)) (F0 m 7 ls [])) (x1 : Int32) (x2 : Int32) (x3 : Int32) (X : SM) (hf : wb_X10_resize_7 k7 x1 x2 x3 X = some (r0, X0)) {H : Heap} {locs : List Loc} (hP : va_P G.1 g_cl (wd G (cb X M) τ) H) (hS : va_S (g_A G) s.heap H locs) {ls : Array Slot} (hl : lv_has ls 4 [(0, .ref (G.2.1 10 0)), (1, .int x1), (2, .int x2), (3, .int x3)]) : W p l e rm_X10_resize s m args below meth c H locs 0 0 (MQ below (va_Qi (fun r u => r = r0 ∧ u = (X0, M, τ)) (g_pw G) (g_A G)) args s 0 0 (g_A G)) (F0 m 7 ls []) := by
  obtain ⟨hx, hb, hr, hml, hown, hts, hlocks, hC⟩ := id C0
  unfold wb_X10_resize_7 at hf
  refine lv_iload_n hx hb dX10_resize_7 rfl (lv_at hl 3 rfl) ?_
  refine lv_iload_n hx hb dX10_resize_8 rfl (lv_at hl 1 rfl) ?_
  refine lv_icmp_ge (tgt := 31) hx hb dX10_resize_9 (by decide) (fun hc_2 => ?_) (fun hc_2 => ?_)
  · have hf := g_pos hf hc_2
    refine lv_aload_n hx hb dX10_resize_31 rfl (lv_at hl 0 rfl) ?_
    refine lv_iload_n hx hb dX10_resize_32 rfl (lv_at hl 1 rfl) ?_
    obtain ⟨X_3, eX_3, hf⟩ := g_letE hf
    refine pt_10_1 hx hb hts hown hC hP hS Nat.zero_lt_one q2_18 dX10_resize_33 (fun H locs hP hS => ?_)
    rw [eX_3] at hP
    refine lv_iload_n hx hb dX10_resize_36 rfl (lv_at hl 2 rfl) ?_
    cases hf
    exact x_iret hx hb hlocks hC hP hS hr dX10_resize_37
  · have hf := g_neg hf hc_2
    refine lv_iload_n hx hb dX10_resize_12 rfl (lv_at hl 3 rfl) ?_
    refine lv_bipush (v := 16) hx hb dX10_resize_13 (by decide) ?_
    refine lv_icmp_ge (tgt := 31) hx hb dX10_resize_15 (by decide) (fun hc_4 => ?_) (fun hc_4 => ?_)
    · have hf := g_pos hf hc_4
      refine lv_aload_n hx hb dX10_resize_31 rfl (lv_at hl 0 rfl) ?_
      refine lv_iload_n hx hb dX10_resize_32 rfl (lv_at hl 1 rfl) ?_
      obtain ⟨X_5, eX_5, hf⟩ := g_letE hf
      refine pt_10_1 hx hb hts hown hC hP hS Nat.zero_lt_one q2_18 dX10_resize_33 (fun H locs hP hS => ?_)
      rw [eX_5] at hP
      refine lv_iload_n hx hb dX10_resize_36 rfl (lv_at hl 2 rfl) ?_
      cases hf
      exact x_iret hx hb hlocks hC hP hS hr dX10_resize_37
    · have hf := g_neg hf hc_4
      refine lv_aload_n hx hb dX10_resize_18 rfl (lv_at hl 0 rfl) ?_
      refine gt_10_0 hx hb hts hown hC hP Nat.zero_lt_one q2_17 dX10_resize_19 ?_
      refine lv_iload_n hx hb dX10_resize_22 rfl (lv_at hl 3 rfl) ?_
      refine lv_iconst (v := (-1)) hx hb dX10_resize_23 (by decide) ?_
      obtain ⟨hg_6, hf⟩ := g_gd hf
      obtain ⟨X_7, eX_7, hf⟩ := g_letE hf
      refine xistX (k := 34) (n := 16) hx hb hC hP hS (fun _ _ => rfl) rfl Nat.zero_lt_one hg_6 dX10_resize_24 (fun H locs hP hS => ?_)
      rw [eX_7] at hP
      obtain ⟨x3_8, ex3_8, hf⟩ := g_letE hf
      refine lv_iinc (v := x3_8) (lv' := [(3, .int x3_8), (0, .ref (G.2.1 10 0)), (1, .int x1), (2, .int x2)]) hx hb dX10_resize_25 hl (k := 3) rfl (by rw [← ex3_8]; rfl) (by decide) rfl (fun ls hl => ?_)
      refine lv_goto (tgt := 7) hx hb dX10_resize_28 (by decide) ?_
      exact hk7 x1 x2 x3_8 X_7 hf hP hS (lv_sub hl [1, 2, 3, 0] rfl)
def wl_X10_resize_7 (n : Nat) (x1 : Int32) (x2 : Int32) (x3 : Int32) (X : SM) : Option (Int32 × SM) := g_loop (α := Int32 × Int32 × Int32 × SM) (fun k a => wb_X10_resize_7 (fun x1 x2 x3 X => k (x1, x2, x3, X)) a.1 a.2.1 a.2.2.1 a.2.2.2) n (x1, x2, x3, X)
set_option maxRecDepth 100000 in
set_option maxHeartbeats 4000000 in
theorem lp_X10_resize_7 {p : Program} {l : Launch} {e : Env} {s : State} {m : MethodId} {args : Array Value} {below : List Frame} {meth : Method} {c : Code} {G : GP} {M : SM} {τ : SL} (C0 : g_mc p s m args meth c RX10 cX10_resize (some .int) 4 G) {r0 : Int32} {X0 : SM} (n : Nat) : ∀ (x1 : Int32) (x2 : Int32) (x3 : Int32) (X : SM), wl_X10_resize_7 n x1 x2 x3 X = some (r0, X0) → ∀ {H : Heap} {locs : List Loc}, va_P G.1 g_cl (wd G (cb X M) τ) H → va_S (g_A G) s.heap H locs → ∀ {ls : Array Slot}, lv_has ls 4 [(0, .ref (G.2.1 10 0)), (1, .int x1), (2, .int x2), (3, .int x3)] → W p l e rm_X10_resize s m args below meth c H locs 0 0 (MQ below (va_Qi (fun r u => r = r0 ∧ u = (X0, M, τ)) (g_pw G) (g_A G)) args s 0 0 (g_A G)) (F0 m 7 ls []) := by
  induction n with
  | zero =>
    intro x1 x2 x3 X hf
    have hf : (none : Option (Int32 × SM)) = _ := hf
    cases hf
  | succ n ih =>
    intro x1 x2 x3 X hf H locs hP hS ls hl
    exact bk_X10_resize_7 C0   (fun x1 x2 x3 X => wl_X10_resize_7   n x1 x2 x3 X) ih x1 x2 x3 X hf hP hS hl
def fn_X10_resize (x1 : Int32) (X : SM) : Option (Int32 × SM) :=
  g_let ((X 10 0 1)) fun x2_1 =>
  wl_X10_resize_7 1000 x1 x2_1 x2_1 X
set_option maxRecDepth 100000 in
set_option maxHeartbeats 4000000 in
theorem wk_X10_resize {p : Program} {l : Launch} {e : Env} {s : State} {m : MethodId} {args : Array Value} {below : List Frame} {meth : Method} {c : Code} {G : GP} {M : SM} {τ : SL} (C0 : g_mc p s m args meth c RX10 cX10_resize (some .int) 4 G) {r0 : Int32} {X0 : SM} (x1 : Int32) (X : SM) (hf : fn_X10_resize x1 X = some (r0, X0)) {H : Heap} {locs : List Loc} (hP : va_P G.1 g_cl (wd G (cb X M) τ) H) (hS : va_S (g_A G) s.heap H locs) {ls : Array Slot} (hl : lv_has ls 4 [(0, .ref (G.2.1 10 0)), (1, .int x1)]) : W p l e rm_X10_resize s m args below meth c H locs 0 0 (MQ below (va_Qi (fun r u => r = r0 ∧ u = (X0, M, τ)) (g_pw G) (g_A G)) args s 0 0 (g_A G)) (F0 m 0 ls []) := by
  obtain ⟨hx, hb, hr, hml, hown, hts, hlocks, hC⟩ := id C0
  unfold fn_X10_resize at hf
  refine lv_aload_n hx hb dX10_resize_0 rfl (lv_at hl 0 rfl) ?_
  refine gt_10_1 hx hb hts hown hC hP Nat.zero_lt_one q2_18 dX10_resize_1 ?_
  obtain ⟨x2_1, ex2_1, hf⟩ := g_letE hf
  refine lv_topE ex2_1 ?_
  refine lv_istore_n (lv' := [(2, .int x2_1), (0, .ref (G.2.1 10 0)), (1, .int x1)]) hx hb dX10_resize_4 rfl hl (by decide) rfl (fun ls hl => ?_)
  refine lv_iload_n hx hb dX10_resize_5 rfl (lv_at hl 0 rfl) ?_
  refine lv_istore_n (lv' := [(3, .int x2_1), (2, .int x2_1), (0, .ref (G.2.1 10 0)), (1, .int x1)]) hx hb dX10_resize_6 rfl hl (by decide) rfl (fun ls hl => ?_)
  exact lp_X10_resize_7 C0 1000 x1 x2_1 x2_1 X hf hP hS (lv_sub hl [2, 3, 1, 0] rfl)
set_option maxRecDepth 100000 in
set_option maxHeartbeats 4000000 in
theorem ct_X10_resize (l : Launch) (G : GP) (X M : SM) (τ : SL) (x1 : Int32) {r0 : Int32} {X0 : SM} (hf : fn_X10_resize x1 X = some (r0, X0)) : Met l yX10_resize (wz yX10_resize cX10_resize 4 (some .int)) rm_X10_resize (va_Pc [.ref (G.2.1 10 0), .int x1] (g_pw G (X, M, τ))) (va_Qi (fun r u => r = r0 ∧ u = (X0, M, τ)) (g_pw G) (g_A G)) 0 0 (g_A G) := by
  refine Met.ofW (cc := cX10_resize) (maxL := 4) (ret := (some .int)) (by decide +kernel) rfl ?_
  intro p e s m args below meth c s₁ B hml hv
  obtain ⟨rfl, hC, hP⟩ := hv
  have C0 : g_mc p s m _ meth c RX10 cX10_resize (some .int) 4 G := ⟨B.exec, B.bytes, B.returns, hml, findClass_of_methodNamed B.named, fun w h => atoms_spec (ws := wz yX10_resize cX10_resize 4 (some .int)) B.pre w (List.mem_cons_of_mem _ h), B.notSynchronized, hC⟩
  have hl := lv_entry ([.ref (G.2.1 10 0), .int x1]) (n := 4) (Nat.le_of_ble_eq_true rfl)
  rw [lg_entry_eq]
  generalize (lg_sl ([.ref (G.2.1 10 0), .int x1]) ++ List.replicate (4 - (lg_sl ([.ref (G.2.1 10 0), .int x1])).length) Slot.unset).toArray = ls at hl ⊢
  exact wk_X10_resize C0  x1 X hf hP va_S.rf hl
abbrev rm_X10_ticksFrom : Room := { frames := 2, cells := 0, slots := 0, locals := 43 }
def wb_X10_ticksFrom_6 (k6 : Int32 → Int32 → Int32 → Int32 → Int32 → SM → Option (Int32)) (x1 : Int32) (x2 : Int32) (x3 : Int32) (x4 : Int32) (x5 : Int32) (X : SM) : Option (Int32) :=
  if (X 10 0 1) < x5 then
  (some (X 10 0 1))
  else
  ((fn_X10_ownerAt ((x1 + x5) - 1) X).bind fun r_2 =>
    if r_2 = x2 then
    (g_let (x4 + 1) fun x4_7 =>
      if x4_7 = x3 then
      (some x5)
      else
      (g_let (x5 + 1) fun x5_9 =>
        k6 x1 x2 x3 x4_7 x5_9 X))
    else
    (if x4 = x3 then
      (some x5)
      else
      (g_let (x5 + 1) fun x5_6 =>
        k6 x1 x2 x3 x4 x5_6 X)))
set_option maxRecDepth 100000 in
set_option maxHeartbeats 4000000 in
theorem bk_X10_ticksFrom_6 {p : Program} {l : Launch} {e : Env} {s : State} {m : MethodId} {args : Array Value} {below : List Frame} {meth : Method} {c : Code} {G : GP} {M : SM} {τ : SL} (C0 : g_mc p s m args meth c RX10 cX10_ticksFrom (some .int) 6 G) {r0 : Int32} (k6 : Int32 → Int32 → Int32 → Int32 → Int32 → SM → Option (Int32)) (hk6 : ∀ (x1 : Int32) (x2 : Int32) (x3 : Int32) (x4 : Int32) (x5 : Int32) (X : SM), k6 x1 x2 x3 x4 x5 X = some r0 → ∀ {H : Heap} {locs : List Loc}, va_P G.1 g_cl (wd G (cb X M) τ) H → va_S (g_A G) s.heap H locs → ∀ {ls : Array Slot}, lv_has ls 6 [(0, .ref (G.2.1 10 0)), (1, .int x1), (2, .int x2), (3, .int x3), (4, .int x4), (5, .int x5)] → W p l e rm_X10_ticksFrom s m args below meth c H locs 0 0 (MQ below (va_Qi (fun r u => r = r0 ∧ u = (X, M, τ)) (g_pw G) (g_A G)) args s 0 0 (g_A G)) (F0 m 6 ls [])) (x1 : Int32) (x2 : Int32) (x3 : Int32) (x4 : Int32) (x5 : Int32) (X : SM) (hf : wb_X10_ticksFrom_6 k6 x1 x2 x3 x4 x5 X = some r0) {H : Heap} {locs : List Loc} (hP : va_P G.1 g_cl (wd G (cb X M) τ) H) (hS : va_S (g_A G) s.heap H locs) {ls : Array Slot} (hl : lv_has ls 6 [(0, .ref (G.2.1 10 0)), (1, .int x1), (2, .int x2), (3, .int x3), (4, .int x4), (5, .int x5)]) : W p l e rm_X10_ticksFrom s m args below meth c H locs 0 0 (MQ below (va_Qi (fun r u => r = r0 ∧ u = (X, M, τ)) (g_pw G) (g_A G)) args s 0 0 (g_A G)) (F0 m 6 ls []) := by
  obtain ⟨hx, hb, hr, hml, hown, hts, hlocks, hC⟩ := id C0
  unfold wb_X10_ticksFrom_6 at hf
  refine lv_iload hx hb dX10_ticksFrom_6 (lv_at hl 5 rfl) ?_
  refine lv_aload_n hx hb dX10_ticksFrom_8 rfl (lv_at hl 0 rfl) ?_
  refine gt_10_1 hx hb hts hown hC hP Nat.zero_lt_one q2_18 dX10_ticksFrom_9 ?_
  refine lv_icmp_gt (tgt := 47) hx hb dX10_ticksFrom_12 (by decide) (fun hc_1 => ?_) (fun hc_1 => ?_)
  · have hf := g_pos hf hc_1
    refine lv_aload_n hx hb dX10_ticksFrom_47 rfl (lv_at hl 0 rfl) ?_
    refine gt_10_1 hx hb hts hown hC hP Nat.zero_lt_one q2_18 dX10_ticksFrom_48 ?_
    cases hf
    exact x_iret hx hb hlocks hC hP hS hr dX10_ticksFrom_51
  · have hf := g_neg hf hc_1
    refine lv_aload_n hx hb dX10_ticksFrom_15 rfl (lv_at hl 0 rfl) ?_
    refine lv_iload_n hx hb dX10_ticksFrom_16 rfl (lv_at hl 1 rfl) ?_
    refine lv_iload hx hb dX10_ticksFrom_17 (lv_at hl 5 rfl) ?_
    refine lv_iadd hx hb dX10_ticksFrom_19 ?_
    refine lv_iconst (v := 1) hx hb dX10_ticksFrom_20 (by decide) ?_
    refine lv_isub hx hb dX10_ticksFrom_21 ?_
    obtain ⟨r_2, hc_3, hf⟩ := g_bindE hf
    refine x_calli (v := (X, M, τ)) (va_runV (As := [.int ((x1 + x5) - 1)]) (rest := []) ⟨hx, hb, hml, hown, hts⟩ (ct_X10_ownerAt l G X M τ ((x1 + x5) - 1) hc_3) (cwV 1 hts gd_X10_47 rfl rfl rfl hd_X10_ownerAt ⟨Nat.le_of_ble_eq_true rfl, Nat.le_of_ble_eq_true rfl⟩) (x_preV (u := (X, M, τ)) (k := 10) (ci := 10) hC hS hP Nat.zero_lt_one rfl rfl) rfl rfl hl.1 rfl (lv_room (Nat.le_of_ble_eq_true rfl)) dX10_ticksFrom_22 ⟨Nat.zero_le _, Nat.zero_le _⟩) hS (fun H locs hP hS => ?_)
    refine lv_iload_n hx hb dX10_ticksFrom_25 rfl (lv_at hl 2 rfl) ?_
    refine lv_icmp_ne (tgt := 32) hx hb dX10_ticksFrom_26 (by decide) (fun hc_4 => ?_) (fun hc_4 => ?_)
    · have hf := g_neg hf hc_4
      refine lv_iload hx hb dX10_ticksFrom_32 (lv_at hl 4 rfl) ?_
      refine lv_iload_n hx hb dX10_ticksFrom_34 rfl (lv_at hl 3 rfl) ?_
      refine lv_icmp_ne (tgt := 41) hx hb dX10_ticksFrom_35 (by decide) (fun hc_5 => ?_) (fun hc_5 => ?_)
      · have hf := g_neg hf hc_5
        obtain ⟨x5_6, ex5_6, hf⟩ := g_letE hf
        refine lv_iinc (v := x5_6) (lv' := [(5, .int x5_6), (0, .ref (G.2.1 10 0)), (1, .int x1), (2, .int x2), (3, .int x3), (4, .int x4)]) hx hb dX10_ticksFrom_41 hl (k := 5) rfl (by rw [← ex5_6]; rfl) (by decide) rfl (fun ls hl => ?_)
        refine lv_goto (tgt := 6) hx hb dX10_ticksFrom_44 (by decide) ?_
        exact hk6 x1 x2 x3 x4 x5_6 X hf hP hS (lv_sub hl [1, 2, 3, 4, 5, 0] rfl)
      · have hf := g_pos hf hc_5
        refine lv_iload hx hb dX10_ticksFrom_38 (lv_at hl 5 rfl) ?_
        cases hf
        exact x_iret hx hb hlocks hC hP hS hr dX10_ticksFrom_40
    · have hf := g_pos hf hc_4
      obtain ⟨x4_7, ex4_7, hf⟩ := g_letE hf
      refine lv_iinc (v := x4_7) (lv' := [(4, .int x4_7), (0, .ref (G.2.1 10 0)), (1, .int x1), (2, .int x2), (3, .int x3), (5, .int x5)]) hx hb dX10_ticksFrom_29 hl (k := 4) rfl (by rw [← ex4_7]; rfl) (by decide) rfl (fun ls hl => ?_)
      refine lv_iload hx hb dX10_ticksFrom_32 (lv_at hl 0 rfl) ?_
      refine lv_iload_n hx hb dX10_ticksFrom_34 rfl (lv_at hl 4 rfl) ?_
      refine lv_icmp_ne (tgt := 41) hx hb dX10_ticksFrom_35 (by decide) (fun hc_8 => ?_) (fun hc_8 => ?_)
      · have hf := g_neg hf hc_8
        obtain ⟨x5_9, ex5_9, hf⟩ := g_letE hf
        refine lv_iinc (v := x5_9) (lv' := [(5, .int x5_9), (4, .int x4_7), (0, .ref (G.2.1 10 0)), (1, .int x1), (2, .int x2), (3, .int x3)]) hx hb dX10_ticksFrom_41 hl (k := 5) rfl (by rw [← ex5_9]; rfl) (by decide) rfl (fun ls hl => ?_)
        refine lv_goto (tgt := 6) hx hb dX10_ticksFrom_44 (by decide) ?_
        exact hk6 x1 x2 x3 x4_7 x5_9 X hf hP hS (lv_sub hl [2, 3, 4, 5, 1, 0] rfl)
      · have hf := g_pos hf hc_8
        refine lv_iload hx hb dX10_ticksFrom_38 (lv_at hl 5 rfl) ?_
        cases hf
        exact x_iret hx hb hlocks hC hP hS hr dX10_ticksFrom_40
def wl_X10_ticksFrom_6 (n : Nat) (x1 : Int32) (x2 : Int32) (x3 : Int32) (x4 : Int32) (x5 : Int32) (X : SM) : Option (Int32) := g_loop (α := Int32 × Int32 × Int32 × Int32 × Int32 × SM) (fun k a => wb_X10_ticksFrom_6 (fun x1 x2 x3 x4 x5 X => k (x1, x2, x3, x4, x5, X)) a.1 a.2.1 a.2.2.1 a.2.2.2.1 a.2.2.2.2.1 a.2.2.2.2.2) n (x1, x2, x3, x4, x5, X)
set_option maxRecDepth 100000 in
set_option maxHeartbeats 4000000 in
theorem lp_X10_ticksFrom_6 {p : Program} {l : Launch} {e : Env} {s : State} {m : MethodId} {args : Array Value} {below : List Frame} {meth : Method} {c : Code} {G : GP} {M : SM} {τ : SL} (C0 : g_mc p s m args meth c RX10 cX10_ticksFrom (some .int) 6 G) {r0 : Int32} (n : Nat) : ∀ (x1 : Int32) (x2 : Int32) (x3 : Int32) (x4 : Int32) (x5 : Int32) (X : SM), wl_X10_ticksFrom_6 n x1 x2 x3 x4 x5 X = some r0 → ∀ {H : Heap} {locs : List Loc}, va_P G.1 g_cl (wd G (cb X M) τ) H → va_S (g_A G) s.heap H locs → ∀ {ls : Array Slot}, lv_has ls 6 [(0, .ref (G.2.1 10 0)), (1, .int x1), (2, .int x2), (3, .int x3), (4, .int x4), (5, .int x5)] → W p l e rm_X10_ticksFrom s m args below meth c H locs 0 0 (MQ below (va_Qi (fun r u => r = r0 ∧ u = (X, M, τ)) (g_pw G) (g_A G)) args s 0 0 (g_A G)) (F0 m 6 ls []) := by
  induction n with
  | zero =>
    intro x1 x2 x3 x4 x5 X hf
    have hf : (none : Option (Int32)) = _ := hf
    cases hf
  | succ n ih =>
    intro x1 x2 x3 x4 x5 X hf H locs hP hS ls hl
    exact bk_X10_ticksFrom_6 C0   (fun x1 x2 x3 x4 x5 X => wl_X10_ticksFrom_6   n x1 x2 x3 x4 x5 X) ih x1 x2 x3 x4 x5 X hf hP hS hl
def fn_X10_ticksFrom (x1 : Int32) (x2 : Int32) (x3 : Int32) (X : SM) : Option (Int32) :=
  wl_X10_ticksFrom_6 1000 x1 x2 x3 0 1 X
set_option maxRecDepth 100000 in
set_option maxHeartbeats 4000000 in
theorem wk_X10_ticksFrom {p : Program} {l : Launch} {e : Env} {s : State} {m : MethodId} {args : Array Value} {below : List Frame} {meth : Method} {c : Code} {G : GP} {M : SM} {τ : SL} (C0 : g_mc p s m args meth c RX10 cX10_ticksFrom (some .int) 6 G) {r0 : Int32} (x1 : Int32) (x2 : Int32) (x3 : Int32) (X : SM) (hf : fn_X10_ticksFrom x1 x2 x3 X = some r0) {H : Heap} {locs : List Loc} (hP : va_P G.1 g_cl (wd G (cb X M) τ) H) (hS : va_S (g_A G) s.heap H locs) {ls : Array Slot} (hl : lv_has ls 6 [(0, .ref (G.2.1 10 0)), (1, .int x1), (2, .int x2), (3, .int x3)]) : W p l e rm_X10_ticksFrom s m args below meth c H locs 0 0 (MQ below (va_Qi (fun r u => r = r0 ∧ u = (X, M, τ)) (g_pw G) (g_A G)) args s 0 0 (g_A G)) (F0 m 0 ls []) := by
  obtain ⟨hx, hb, hr, hml, hown, hts, hlocks, hC⟩ := id C0
  unfold fn_X10_ticksFrom at hf
  refine lv_iconst (v := 0) hx hb dX10_ticksFrom_0 (by decide) ?_
  refine lv_istore (lv' := [(4, .int 0), (0, .ref (G.2.1 10 0)), (1, .int x1), (2, .int x2), (3, .int x3)]) hx hb dX10_ticksFrom_1 hl (by decide) rfl (fun ls hl => ?_)
  refine lv_iconst (v := 1) hx hb dX10_ticksFrom_3 (by decide) ?_
  refine lv_istore (lv' := [(5, .int 1), (4, .int 0), (0, .ref (G.2.1 10 0)), (1, .int x1), (2, .int x2), (3, .int x3)]) hx hb dX10_ticksFrom_4 hl (by decide) rfl (fun ls hl => ?_)
  exact lp_X10_ticksFrom_6 C0 1000 x1 x2 x3 0 1 X hf hP hS (lv_sub hl [2, 3, 4, 5, 1, 0] rfl)
set_option maxRecDepth 100000 in
set_option maxHeartbeats 4000000 in
theorem ct_X10_ticksFrom (l : Launch) (G : GP) (X M : SM) (τ : SL) (x1 : Int32) (x2 : Int32) (x3 : Int32) {r0 : Int32} (hf : fn_X10_ticksFrom x1 x2 x3 X = some r0) : Met l yX10_ticksFrom (wz yX10_ticksFrom cX10_ticksFrom 6 (some .int)) rm_X10_ticksFrom (va_Pc [.ref (G.2.1 10 0), .int x1, .int x2, .int x3] (g_pw G (X, M, τ))) (va_Qi (fun r u => r = r0 ∧ u = (X, M, τ)) (g_pw G) (g_A G)) 0 0 (g_A G) := by
  refine Met.ofW (cc := cX10_ticksFrom) (maxL := 6) (ret := (some .int)) (by decide +kernel) rfl ?_
  intro p e s m args below meth c s₁ B hml hv
  obtain ⟨rfl, hC, hP⟩ := hv
  have C0 : g_mc p s m _ meth c RX10 cX10_ticksFrom (some .int) 6 G := ⟨B.exec, B.bytes, B.returns, hml, findClass_of_methodNamed B.named, fun w h => atoms_spec (ws := wz yX10_ticksFrom cX10_ticksFrom 6 (some .int)) B.pre w (List.mem_cons_of_mem _ h), B.notSynchronized, hC⟩
  have hl := lv_entry ([.ref (G.2.1 10 0), .int x1, .int x2, .int x3]) (n := 6) (Nat.le_of_ble_eq_true rfl)
  rw [lg_entry_eq]
  generalize (lg_sl ([.ref (G.2.1 10 0), .int x1, .int x2, .int x3]) ++ List.replicate (6 - (lg_sl ([.ref (G.2.1 10 0), .int x1, .int x2, .int x3])).length) Slot.unset).toArray = ls at hl ⊢
  exact wk_X10_ticksFrom C0  x1 x2 x3 X hf hP va_S.rf hl
