abbrev rm_X12_within : Room := { frames := 0, cells := 0, slots := 0, locals := 0 }
def fn_X12_within (x0 : Int32) (x1 : Int32) (x2 : Int32) : Int32 :=
  if x0 < x1 then
  (0)
  else
  (if x2 < x0 then
    (0)
    else
    (1))
set_option maxRecDepth 100000 in
set_option maxHeartbeats 4000000 in
theorem wk_X12_within {p : Program} {l : Launch} {e : Env} {s : State} {m : MethodId} {args : Array Value} {below : List Frame} {meth : Method} {c : Code} {G : GP} {X : SM} {M : SM} {τ : SL} (C0 : g_mc p s m args meth c RX12 cX12_within (some .boolean) 3 G) {r0 : Int32} (x0 : Int32) (x1 : Int32) (x2 : Int32) (hf : fn_X12_within x0 x1 x2 = r0) {H : Heap} {locs : List Loc} (hP : va_P G.1 g_cl (wd G (cb X M) τ) H) (hS : va_S (g_A G) s.heap H locs) {ls : Array Slot} (hl : lv_has ls 3 [(0, .int x0), (1, .int x1), (2, .int x2)]) : W p l e rm_X12_within s m args below meth c H locs 0 0 (MQ below (va_Qi (fun r u => r = r0 ∧ u = (X, M, τ)) (g_pw G) (g_A G)) args s 0 0 (g_A G)) (F0 m 0 ls []) := by
  obtain ⟨hx, hb, hr, hml, hown, hts, hlocks, hC⟩ := id C0
  unfold fn_X12_within at hf
  refine lv_iload_n hx hb dX12_within_0 rfl (lv_at hl 0 rfl) ?_
  refine lv_iload_n hx hb dX12_within_1 rfl (lv_at hl 1 rfl) ?_
  refine lv_icmp_lt (tgt := 14) hx hb dX12_within_2 (by decide) (fun hc_1 => ?_) (fun hc_1 => ?_)
  · have hf := g_pos hf hc_1
    refine lv_iconst (v := 0) hx hb dX12_within_14 (by decide) ?_
    cases hf
    exact x_zret hx hb hlocks hC hP hS hr (Or.inl rfl) dX12_within_15
  · have hf := g_neg hf hc_1
    refine lv_iload_n hx hb dX12_within_5 rfl (lv_at hl 0 rfl) ?_
    refine lv_iload_n hx hb dX12_within_6 rfl (lv_at hl 2 rfl) ?_
    refine lv_icmp_gt (tgt := 14) hx hb dX12_within_7 (by decide) (fun hc_2 => ?_) (fun hc_2 => ?_)
    · have hf := g_pos hf hc_2
      refine lv_iconst (v := 0) hx hb dX12_within_14 (by decide) ?_
      cases hf
      exact x_zret hx hb hlocks hC hP hS hr (Or.inl rfl) dX12_within_15
    · have hf := g_neg hf hc_2
      refine lv_iconst (v := 1) hx hb dX12_within_10 (by decide) ?_
      refine lv_goto (tgt := 15) hx hb dX12_within_11 (by decide) ?_
      cases hf
      exact x_zret hx hb hlocks hC hP hS hr (Or.inr rfl) dX12_within_15
set_option maxRecDepth 100000 in
set_option maxHeartbeats 4000000 in
theorem ct_X12_within (l : Launch) (G : GP) (X M : SM) (τ : SL) (x0 : Int32) (x1 : Int32) (x2 : Int32) {r0 : Int32} (hf : fn_X12_within x0 x1 x2 = r0) : Met l yX12_within (wz yX12_within cX12_within 3 (some .boolean)) rm_X12_within (va_Pc [.int x0, .int x1, .int x2] (g_pw G (X, M, τ))) (va_Qi (fun r u => r = r0 ∧ u = (X, M, τ)) (g_pw G) (g_A G)) 0 0 (g_A G) := by
  refine Met.ofW (cc := cX12_within) (maxL := 3) (ret := (some .boolean)) (by decide +kernel) rfl ?_
  intro p e s m args below meth c s₁ B hml hv
  obtain ⟨rfl, hC, hP⟩ := hv
  have C0 : g_mc p s m _ meth c RX12 cX12_within (some .boolean) 3 G := ⟨B.exec, B.bytes, B.returns, hml, findClass_of_methodNamed B.named, fun w h => atoms_spec (ws := wz yX12_within cX12_within 3 (some .boolean)) B.pre w (List.mem_cons_of_mem _ h), B.notSynchronized, hC⟩
  have hl := lv_entry ([.int x0, .int x1, .int x2]) (n := 3) (Nat.le_of_ble_eq_true rfl)
  rw [lg_entry_eq]
  generalize (lg_sl ([.int x0, .int x1, .int x2]) ++ List.replicate (3 - (lg_sl ([.int x0, .int x1, .int x2])).length) Slot.unset).toArray = ls at hl ⊢
  exact wk_X12_within C0  x0 x1 x2 hf hP va_S.rf hl
abbrev rm_X12_isThread : Room := { frames := 1, cells := 0, slots := 0, locals := 22 }
def fn_X12_isThread (x0 : Int32) : Option (Int32) :=
  g_let (fn_X12_within x0 0 5) fun r_1 =>
  if r_1 = 0 ∨ r_1 = 1 then
  some r_1
  else none
set_option maxRecDepth 100000 in
set_option maxHeartbeats 4000000 in
theorem wk_X12_isThread {p : Program} {l : Launch} {e : Env} {s : State} {m : MethodId} {args : Array Value} {below : List Frame} {meth : Method} {c : Code} {G : GP} {X : SM} {M : SM} {τ : SL} (C0 : g_mc p s m args meth c RX12 cX12_isThread (some .boolean) 1 G) {r0 : Int32} (x0 : Int32) (hf : fn_X12_isThread x0 = some r0) {H : Heap} {locs : List Loc} (hP : va_P G.1 g_cl (wd G (cb X M) τ) H) (hS : va_S (g_A G) s.heap H locs) {ls : Array Slot} (hl : lv_has ls 1 [(0, .int x0)]) : W p l e rm_X12_isThread s m args below meth c H locs 0 0 (MQ below (va_Qi (fun r u => r = r0 ∧ u = (X, M, τ)) (g_pw G) (g_A G)) args s 0 0 (g_A G)) (F0 m 0 ls []) := by
  obtain ⟨hx, hb, hr, hml, hown, hts, hlocks, hC⟩ := id C0
  unfold fn_X12_isThread at hf
  refine lv_iload_n hx hb dX12_isThread_0 rfl (lv_at hl 0 rfl) ?_
  refine lv_iconst (v := 0) hx hb dX12_isThread_1 (by decide) ?_
  refine lv_iconst (v := 5) hx hb dX12_isThread_2 (by decide) ?_
  obtain ⟨r_1, hc_2, hf⟩ := g_letE hf
  refine x_calli (v := (X, M, τ)) (va_runS (As := [.int x0, .int 0, .int 5]) (rest := []) ⟨hx, hb, hml, hown, hts⟩ (ct_X12_within l G X M τ x0 0 5 hc_2) (cwS 3 hts gd_X12_76 rfl rfl rfl hd_X12_within ⟨Nat.le_of_ble_eq_true rfl, Nat.le_of_ble_eq_true rfl⟩) (x_pre (u := (X, M, τ)) hC hS hP) rfl rfl hl.1 rfl (lv_room (Nat.le_of_ble_eq_true rfl)) dX12_isThread_3 ⟨Nat.zero_le _, Nat.zero_le _⟩) hS (fun H locs hP hS => ?_)
  obtain ⟨hg_3, hf⟩ := g_gd hf
  cases hf
  exact x_zret hx hb hlocks hC hP hS hr hg_3 dX12_isThread_6
set_option maxRecDepth 100000 in
set_option maxHeartbeats 4000000 in
theorem ct_X12_isThread (l : Launch) (G : GP) (X M : SM) (τ : SL) (x0 : Int32) {r0 : Int32} (hf : fn_X12_isThread x0 = some r0) : Met l yX12_isThread (wz yX12_isThread cX12_isThread 1 (some .boolean)) rm_X12_isThread (va_Pc [.int x0] (g_pw G (X, M, τ))) (va_Qi (fun r u => r = r0 ∧ u = (X, M, τ)) (g_pw G) (g_A G)) 0 0 (g_A G) := by
  refine Met.ofW (cc := cX12_isThread) (maxL := 1) (ret := (some .boolean)) (by decide +kernel) rfl ?_
  intro p e s m args below meth c s₁ B hml hv
  obtain ⟨rfl, hC, hP⟩ := hv
  have C0 : g_mc p s m _ meth c RX12 cX12_isThread (some .boolean) 1 G := ⟨B.exec, B.bytes, B.returns, hml, findClass_of_methodNamed B.named, fun w h => atoms_spec (ws := wz yX12_isThread cX12_isThread 1 (some .boolean)) B.pre w (List.mem_cons_of_mem _ h), B.notSynchronized, hC⟩
  have hl := lv_entry ([.int x0]) (n := 1) (Nat.le_of_ble_eq_true rfl)
  rw [lg_entry_eq]
  generalize (lg_sl ([.int x0]) ++ List.replicate (1 - (lg_sl ([.int x0])).length) Slot.unset).toArray = ls at hl ⊢
  exact wk_X12_isThread C0  x0 hf hP va_S.rf hl
abbrev rm_X12_throwing : Room := { frames := 0, cells := 0, slots := 0, locals := 0 }
def fn_X12_throwing (x1 : Int32) (M : SM) : Int32 × SM :=
  if x1 = 0 then
  (g_let (u1 M 39 0 15 1) fun M_2 =>
    if x1 = 0 then
    ((1, M_2))
    else
    ((0, M_2)))
  else
  (g_let (u1 M 39 0 15 0) fun M_4 =>
    if x1 = 0 then
    ((1, M_4))
    else
    ((0, M_4)))
set_option maxRecDepth 100000 in
set_option maxHeartbeats 4000000 in
theorem wk_X12_throwing {p : Program} {l : Launch} {e : Env} {s : State} {m : MethodId} {args : Array Value} {below : List Frame} {meth : Method} {c : Code} {G : GP} {X : SM} {τ : SL} (C0 : g_mc p s m args meth c RX12 cX12_throwing (some .boolean) 2 G) {r0 : Int32} {M0 : SM} (x1 : Int32) (M : SM) (hf : fn_X12_throwing x1 M = (r0, M0)) {H : Heap} {locs : List Loc} (hP : va_P G.1 g_cl (wd G (cb X M) τ) H) (hS : va_S (g_A G) s.heap H locs) {ls : Array Slot} (hl : lv_has ls 2 [(0, .ref (G.2.1 39 0)), (1, .int x1)]) : W p l e rm_X12_throwing s m args below meth c H locs 0 0 (MQ below (va_Qi (fun r u => r = r0 ∧ u = (X, M0, τ)) (g_pw G) (g_A G)) args s 0 0 (g_A G)) (F0 m 0 ls []) := by
  obtain ⟨hx, hb, hr, hml, hown, hts, hlocks, hC⟩ := id C0
  unfold fn_X12_throwing at hf
  refine lv_aload_n hx hb dX12_throwing_0 rfl (lv_at hl 0 rfl) ?_
  refine lv_iload_n hx hb dX12_throwing_1 rfl (lv_at hl 1 rfl) ?_
  refine lv_if_eq (tgt := 9) hx hb dX12_throwing_2 (by decide) (fun hc_1 => ?_) (fun hc_1 => ?_)
  · have hf := g_pos hf hc_1
    refine lv_iconst (v := 1) hx hb dX12_throwing_9 (by decide) ?_
    obtain ⟨M_2, eM_2, hf⟩ := g_letE hf
    refine pt_39_15 hx hb hts hown hC hP hS Nat.zero_lt_one q8_18 dX12_throwing_10 (fun H locs hP hS => ?_)
    rw [eM_2] at hP
    refine lv_iload_n hx hb dX12_throwing_13 rfl (lv_at hl 1 rfl) ?_
    refine lv_if_ne (tgt := 21) hx hb dX12_throwing_14 (by decide) (fun hc_3 => ?_) (fun hc_3 => ?_)
    · have hf := g_neg hf hc_3
      refine lv_iconst (v := 0) hx hb dX12_throwing_21 (by decide) ?_
      cases hf
      exact x_zret hx hb hlocks hC hP hS hr (Or.inl rfl) dX12_throwing_22
    · have hf := g_pos hf hc_3
      refine lv_iconst (v := 1) hx hb dX12_throwing_17 (by decide) ?_
      refine lv_goto (tgt := 22) hx hb dX12_throwing_18 (by decide) ?_
      cases hf
      exact x_zret hx hb hlocks hC hP hS hr (Or.inr rfl) dX12_throwing_22
  · have hf := g_neg hf hc_1
    refine lv_iconst (v := 0) hx hb dX12_throwing_5 (by decide) ?_
    refine lv_goto (tgt := 10) hx hb dX12_throwing_6 (by decide) ?_
    obtain ⟨M_4, eM_4, hf⟩ := g_letE hf
    refine pt_39_15 hx hb hts hown hC hP hS Nat.zero_lt_one q8_18 dX12_throwing_10 (fun H locs hP hS => ?_)
    rw [eM_4] at hP
    refine lv_iload_n hx hb dX12_throwing_13 rfl (lv_at hl 1 rfl) ?_
    refine lv_if_ne (tgt := 21) hx hb dX12_throwing_14 (by decide) (fun hc_5 => ?_) (fun hc_5 => ?_)
    · have hf := g_neg hf hc_5
      refine lv_iconst (v := 0) hx hb dX12_throwing_21 (by decide) ?_
      cases hf
      exact x_zret hx hb hlocks hC hP hS hr (Or.inl rfl) dX12_throwing_22
    · have hf := g_pos hf hc_5
      refine lv_iconst (v := 1) hx hb dX12_throwing_17 (by decide) ?_
      refine lv_goto (tgt := 22) hx hb dX12_throwing_18 (by decide) ?_
      cases hf
      exact x_zret hx hb hlocks hC hP hS hr (Or.inr rfl) dX12_throwing_22
set_option maxRecDepth 100000 in
set_option maxHeartbeats 4000000 in
theorem ct_X12_throwing (l : Launch) (G : GP) (X M : SM) (τ : SL) (x1 : Int32) {r0 : Int32} {M0 : SM} (hf : fn_X12_throwing x1 M = (r0, M0)) : Met l yX12_throwing (wz yX12_throwing cX12_throwing 2 (some .boolean)) rm_X12_throwing (va_Pc [.ref (G.2.1 39 0), .int x1] (g_pw G (X, M, τ))) (va_Qi (fun r u => r = r0 ∧ u = (X, M0, τ)) (g_pw G) (g_A G)) 0 0 (g_A G) := by
  refine Met.ofW (cc := cX12_throwing) (maxL := 2) (ret := (some .boolean)) (by decide +kernel) rfl ?_
  intro p e s m args below meth c s₁ B hml hv
  obtain ⟨rfl, hC, hP⟩ := hv
  have C0 : g_mc p s m _ meth c RX12 cX12_throwing (some .boolean) 2 G := ⟨B.exec, B.bytes, B.returns, hml, findClass_of_methodNamed B.named, fun w h => atoms_spec (ws := wz yX12_throwing cX12_throwing 2 (some .boolean)) B.pre w (List.mem_cons_of_mem _ h), B.notSynchronized, hC⟩
  have hl := lv_entry ([.ref (G.2.1 39 0), .int x1]) (n := 2) (Nat.le_of_ble_eq_true rfl)
  rw [lg_entry_eq]
  generalize (lg_sl ([.ref (G.2.1 39 0), .int x1]) ++ List.replicate (2 - (lg_sl ([.ref (G.2.1 39 0), .int x1])).length) Slot.unset).toArray = ls at hl ⊢
  exact wk_X12_throwing C0  x1 M hf hP va_S.rf hl
abbrev rm_X12_keeps : Room := { frames := 0, cells := 0, slots := 0, locals := 0 }
def wb_X12_keeps_2 (k2 : Int32 → SM → Option (SM)) (x1 : Int32) (M : SM) : Option (SM) :=
  if 693 ≤ x1 then
  (some M)
  else
  (if g_in x1 693 then
    if g_in x1 693 then
    g_let (u1 M 41 0 (x1.toNatClampNeg) (M 40 0 (x1.toNatClampNeg))) fun M_4 =>
    g_let (x1 + 1) fun x1_5 =>
    k2 x1_5 M_4
    else none
    else none)
set_option maxRecDepth 100000 in
set_option maxHeartbeats 4000000 in
theorem bk_X12_keeps_2 {p : Program} {l : Launch} {e : Env} {s : State} {m : MethodId} {args : Array Value} {below : List Frame} {meth : Method} {c : Code} {G : GP} {X : SM} {τ : SL} (C0 : g_mc p s m args meth c RX12 cX12_keeps none 2 G) {M0 : SM} (k2 : Int32 → SM → Option (SM)) (hk2 : ∀ (x1 : Int32) (M : SM), k2 x1 M = some M0 → ∀ {H : Heap} {locs : List Loc}, va_P G.1 g_cl (wd G (cb X M) τ) H → va_S (g_A G) s.heap H locs → ∀ {ls : Array Slot}, lv_has ls 2 [(0, .ref (G.2.1 39 0)), (1, .int x1)] → W p l e rm_X12_keeps s m args below meth c H locs 0 0 (MQ below (va_Qv (fun u => u = (X, M0, τ)) (g_pw G) (g_A G)) args s 0 0 (g_A G)) (F0 m 2 ls [])) (x1 : Int32) (M : SM) (hf : wb_X12_keeps_2 k2 x1 M = some M0) {H : Heap} {locs : List Loc} (hP : va_P G.1 g_cl (wd G (cb X M) τ) H) (hS : va_S (g_A G) s.heap H locs) {ls : Array Slot} (hl : lv_has ls 2 [(0, .ref (G.2.1 39 0)), (1, .int x1)]) : W p l e rm_X12_keeps s m args below meth c H locs 0 0 (MQ below (va_Qv (fun u => u = (X, M0, τ)) (g_pw G) (g_A G)) args s 0 0 (g_A G)) (F0 m 2 ls []) := by
  obtain ⟨hx, hb, hr, hml, hown, hts, hlocks, hC⟩ := id C0
  unfold wb_X12_keeps_2 at hf
  refine lv_iload_n hx hb dX12_keeps_2 rfl (lv_at hl 1 rfl) ?_
  refine lv_sipush (v := 693) hx hb dX12_keeps_3 (by decide) ?_
  refine lv_icmp_ge (tgt := 27) hx hb dX12_keeps_6 (by decide) (fun hc_1 => ?_) (fun hc_1 => ?_)
  · have hf := g_pos hf hc_1
    cases hf
    exact x_vret hx hb hlocks hC hP hS hr dX12_keeps_27
  · have hf := g_neg hf hc_1
    refine lv_aload_n hx hb dX12_keeps_9 rfl (lv_at hl 0 rfl) ?_
    refine gt_39_1 hx hb hts hown hC hP Nat.zero_lt_one q6_18 dX12_keeps_10 ?_
    refine lv_iload_n hx hb dX12_keeps_13 rfl (lv_at hl 1 rfl) ?_
    refine lv_aload_n hx hb dX12_keeps_14 rfl (lv_at hl 0 rfl) ?_
    refine gt_39_0 hx hb hts hown hC hP Nat.zero_lt_one q6_17 dX12_keeps_15 ?_
    refine lv_iload_n hx hb dX12_keeps_18 rfl (lv_at hl 1 rfl) ?_
    obtain ⟨hg_2, hf⟩ := g_gd hf
    refine xildM (k := 40) (n := 693) hx hb hC hP (fun _ _ => rfl) rfl Nat.zero_lt_one hg_2 dX12_keeps_19 ?_
    obtain ⟨hg_3, hf⟩ := g_gd hf
    obtain ⟨M_4, eM_4, hf⟩ := g_letE hf
    refine xistM (k := 41) (n := 693) hx hb hC hP hS (fun _ _ => rfl) rfl Nat.zero_lt_one hg_3 dX12_keeps_20 (fun H locs hP hS => ?_)
    rw [eM_4] at hP
    obtain ⟨x1_5, ex1_5, hf⟩ := g_letE hf
    refine lv_iinc (v := x1_5) (lv' := [(1, .int x1_5), (0, .ref (G.2.1 39 0))]) hx hb dX12_keeps_21 hl (k := 1) rfl (by rw [← ex1_5]; rfl) (by decide) rfl (fun ls hl => ?_)
    refine lv_goto (tgt := 2) hx hb dX12_keeps_24 (by decide) ?_
    exact hk2 x1_5 M_4 hf hP hS (lv_sub hl [1, 0] rfl)
def wl_X12_keeps_2 (n : Nat) (x1 : Int32) (M : SM) : Option (SM) := g_loop (α := Int32 × SM) (fun k a => wb_X12_keeps_2 (fun x1 M => k (x1, M)) a.1 a.2) n (x1, M)
set_option maxRecDepth 100000 in
set_option maxHeartbeats 4000000 in
theorem lp_X12_keeps_2 {p : Program} {l : Launch} {e : Env} {s : State} {m : MethodId} {args : Array Value} {below : List Frame} {meth : Method} {c : Code} {G : GP} {X : SM} {τ : SL} (C0 : g_mc p s m args meth c RX12 cX12_keeps none 2 G) {M0 : SM} (n : Nat) : ∀ (x1 : Int32) (M : SM), wl_X12_keeps_2 n x1 M = some M0 → ∀ {H : Heap} {locs : List Loc}, va_P G.1 g_cl (wd G (cb X M) τ) H → va_S (g_A G) s.heap H locs → ∀ {ls : Array Slot}, lv_has ls 2 [(0, .ref (G.2.1 39 0)), (1, .int x1)] → W p l e rm_X12_keeps s m args below meth c H locs 0 0 (MQ below (va_Qv (fun u => u = (X, M0, τ)) (g_pw G) (g_A G)) args s 0 0 (g_A G)) (F0 m 2 ls []) := by
  induction n with
  | zero =>
    intro x1 M hf
    have hf : (none : Option (SM)) = _ := hf
    cases hf
  | succ n ih =>
    intro x1 M hf H locs hP hS ls hl
    exact bk_X12_keeps_2 C0   (fun x1 M => wl_X12_keeps_2   n x1 M) ih x1 M hf hP hS hl
def fn_X12_keeps (M : SM) : Option (SM) :=
  wl_X12_keeps_2 1000 0 M
set_option maxRecDepth 100000 in
set_option maxHeartbeats 4000000 in
theorem wk_X12_keeps {p : Program} {l : Launch} {e : Env} {s : State} {m : MethodId} {args : Array Value} {below : List Frame} {meth : Method} {c : Code} {G : GP} {X : SM} {τ : SL} (C0 : g_mc p s m args meth c RX12 cX12_keeps none 2 G) {M0 : SM} (M : SM) (hf : fn_X12_keeps M = some M0) {H : Heap} {locs : List Loc} (hP : va_P G.1 g_cl (wd G (cb X M) τ) H) (hS : va_S (g_A G) s.heap H locs) {ls : Array Slot} (hl : lv_has ls 2 [(0, .ref (G.2.1 39 0))]) : W p l e rm_X12_keeps s m args below meth c H locs 0 0 (MQ below (va_Qv (fun u => u = (X, M0, τ)) (g_pw G) (g_A G)) args s 0 0 (g_A G)) (F0 m 0 ls []) := by
  obtain ⟨hx, hb, hr, hml, hown, hts, hlocks, hC⟩ := id C0
  unfold fn_X12_keeps at hf
  refine lv_iconst (v := 0) hx hb dX12_keeps_0 (by decide) ?_
  refine lv_istore_n (lv' := [(1, .int 0), (0, .ref (G.2.1 39 0))]) hx hb dX12_keeps_1 rfl hl (by decide) rfl (fun ls hl => ?_)
  exact lp_X12_keeps_2 C0 1000 0 M hf hP hS (lv_sub hl [1, 0] rfl)
set_option maxRecDepth 100000 in
set_option maxHeartbeats 4000000 in
theorem ct_X12_keeps (l : Launch) (G : GP) (X M : SM) (τ : SL) {M0 : SM} (hf : fn_X12_keeps M = some M0) : Met l yX12_keeps (wz yX12_keeps cX12_keeps 2 none) rm_X12_keeps (va_Pc [.ref (G.2.1 39 0)] (g_pw G (X, M, τ))) (va_Qv (fun u => u = (X, M0, τ)) (g_pw G) (g_A G)) 0 0 (g_A G) := by
  refine Met.ofW (cc := cX12_keeps) (maxL := 2) (ret := none) (by decide +kernel) rfl ?_
  intro p e s m args below meth c s₁ B hml hv
  obtain ⟨rfl, hC, hP⟩ := hv
  have C0 : g_mc p s m _ meth c RX12 cX12_keeps none 2 G := ⟨B.exec, B.bytes, B.returns, hml, findClass_of_methodNamed B.named, fun w h => atoms_spec (ws := wz yX12_keeps cX12_keeps 2 none) B.pre w (List.mem_cons_of_mem _ h), B.notSynchronized, hC⟩
  have hl := lv_entry ([.ref (G.2.1 39 0)]) (n := 2) (Nat.le_of_ble_eq_true rfl)
  rw [lg_entry_eq]
  generalize (lg_sl ([.ref (G.2.1 39 0)]) ++ List.replicate (2 - (lg_sl ([.ref (G.2.1 39 0)])).length) Slot.unset).toArray = ls at hl ⊢
  exact wk_X12_keeps C0  M hf hP va_S.rf hl
abbrev rm_X12_part : Room := { frames := 0, cells := 0, slots := 0, locals := 0 }
def fn_X12_part (x1 : Int32) (x2 : Int32) (x3 : Int32) (M : SM) : Option (Int32) :=
  if g_in ((4 * ((24 * x1) + x2)) + x3) 576 then
  some (M 42 0 (((4 * ((24 * x1) + x2)) + x3).toNatClampNeg))
  else none
set_option maxRecDepth 100000 in
set_option maxHeartbeats 4000000 in
theorem wk_X12_part {p : Program} {l : Launch} {e : Env} {s : State} {m : MethodId} {args : Array Value} {below : List Frame} {meth : Method} {c : Code} {G : GP} {X : SM} {τ : SL} (C0 : g_mc p s m args meth c RX12 cX12_part (some .int) 4 G) {r0 : Int32} (x1 : Int32) (x2 : Int32) (x3 : Int32) (M : SM) (hf : fn_X12_part x1 x2 x3 M = some r0) {H : Heap} {locs : List Loc} (hP : va_P G.1 g_cl (wd G (cb X M) τ) H) (hS : va_S (g_A G) s.heap H locs) {ls : Array Slot} (hl : lv_has ls 4 [(0, .ref (G.2.1 39 0)), (1, .int x1), (2, .int x2), (3, .int x3)]) : W p l e rm_X12_part s m args below meth c H locs 0 0 (MQ below (va_Qi (fun r u => r = r0 ∧ u = (X, M, τ)) (g_pw G) (g_A G)) args s 0 0 (g_A G)) (F0 m 0 ls []) := by
  obtain ⟨hx, hb, hr, hml, hown, hts, hlocks, hC⟩ := id C0
  unfold fn_X12_part at hf
  refine lv_aload_n hx hb dX12_part_0 rfl (lv_at hl 0 rfl) ?_
  refine gt_39_2 hx hb hts hown hC hP Nat.zero_lt_one q6_19 dX12_part_1 ?_
  refine lv_iconst (v := 4) hx hb dX12_part_4 (by decide) ?_
  refine lv_bipush (v := 24) hx hb dX12_part_5 (by decide) ?_
  refine lv_iload_n hx hb dX12_part_7 rfl (lv_at hl 1 rfl) ?_
  refine lv_imul hx hb dX12_part_8 ?_
  refine lv_iload_n hx hb dX12_part_9 rfl (lv_at hl 2 rfl) ?_
  refine lv_iadd hx hb dX12_part_10 ?_
  refine lv_imul hx hb dX12_part_11 ?_
  refine lv_iload_n hx hb dX12_part_12 rfl (lv_at hl 3 rfl) ?_
  refine lv_iadd hx hb dX12_part_13 ?_
  obtain ⟨hg_1, hf⟩ := g_gd hf
  refine xildM (k := 42) (n := 576) hx hb hC hP (fun _ _ => rfl) rfl Nat.zero_lt_one hg_1 dX12_part_14 ?_
  cases hf
  exact x_iret hx hb hlocks hC hP hS hr dX12_part_15
set_option maxRecDepth 100000 in
set_option maxHeartbeats 4000000 in
theorem ct_X12_part (l : Launch) (G : GP) (X M : SM) (τ : SL) (x1 : Int32) (x2 : Int32) (x3 : Int32) {r0 : Int32} (hf : fn_X12_part x1 x2 x3 M = some r0) : Met l yX12_part (wz yX12_part cX12_part 4 (some .int)) rm_X12_part (va_Pc [.ref (G.2.1 39 0), .int x1, .int x2, .int x3] (g_pw G (X, M, τ))) (va_Qi (fun r u => r = r0 ∧ u = (X, M, τ)) (g_pw G) (g_A G)) 0 0 (g_A G) := by
  refine Met.ofW (cc := cX12_part) (maxL := 4) (ret := (some .int)) (by decide +kernel) rfl ?_
  intro p e s m args below meth c s₁ B hml hv
  obtain ⟨rfl, hC, hP⟩ := hv
  have C0 : g_mc p s m _ meth c RX12 cX12_part (some .int) 4 G := ⟨B.exec, B.bytes, B.returns, hml, findClass_of_methodNamed B.named, fun w h => atoms_spec (ws := wz yX12_part cX12_part 4 (some .int)) B.pre w (List.mem_cons_of_mem _ h), B.notSynchronized, hC⟩
  have hl := lv_entry ([.ref (G.2.1 39 0), .int x1, .int x2, .int x3]) (n := 4) (Nat.le_of_ble_eq_true rfl)
  rw [lg_entry_eq]
  generalize (lg_sl ([.ref (G.2.1 39 0), .int x1, .int x2, .int x3]) ++ List.replicate (4 - (lg_sl ([.ref (G.2.1 39 0), .int x1, .int x2, .int x3])).length) Slot.unset).toArray = ls at hl ⊢
  exact wk_X12_part C0  x1 x2 x3 M hf hP va_S.rf hl
abbrev rm_X12_writes : Room := { frames := 0, cells := 0, slots := 0, locals := 0 }
def wb_X12_writes_77 (k69 : Int32 → Int32 → Int32 → Int32 → Int32 → SM → Option (SM)) (k77 : Int32 → Int32 → Int32 → Int32 → Int32 → Int32 → SM → Option (SM)) (x1 : Int32) (x3 : Int32) (x4 : Int32) (x5 : Int32) (x6 : Int32) (x7 : Int32) (M : SM) : Option (SM) :=
  if 4 ≤ x7 then
  (g_let (x6 + (-1)) fun x6_20 =>
    k69 x1 x3 x4 x5 x6_20 M)
  else
  (if g_in (((522 + (4 * x6)) - 4) + x7) 693 then
    if g_in ((522 + (4 * x6)) + x7) 693 then
    g_let (u1 M 40 0 (((522 + (4 * x6)) + x7).toNatClampNeg) (M 40 0 ((((522 + (4 * x6)) - 4) + x7).toNatClampNeg))) fun M_23 =>
    g_let (x7 + 1) fun x7_24 =>
    k77 x1 x3 x4 x5 x6 x7_24 M_23
    else none
    else none)
set_option maxRecDepth 100000 in
set_option maxHeartbeats 4000000 in
theorem bk_X12_writes_77 {p : Program} {l : Launch} {e : Env} {s : State} {m : MethodId} {args : Array Value} {below : List Frame} {meth : Method} {c : Code} {G : GP} {X : SM} {τ : SL} (C0 : g_mc p s m args meth c RX12 cX12_writes none 8 G) {M0 : SM} (k69 : Int32 → Int32 → Int32 → Int32 → Int32 → SM → Option (SM)) (hk69 : ∀ (x1 : Int32) (x3 : Int32) (x4 : Int32) (x5 : Int32) (x6 : Int32) (M : SM), k69 x1 x3 x4 x5 x6 M = some M0 → ∀ {H : Heap} {locs : List Loc}, va_P G.1 g_cl (wd G (cb X M) τ) H → va_S (g_A G) s.heap H locs → ∀ {ls : Array Slot}, lv_has ls 8 [(0, .ref (G.2.1 39 0)), (1, .int x1), (3, .int x3), (4, .int x4), (5, .int x5), (6, .int x6)] → W p l e rm_X12_writes s m args below meth c H locs 0 0 (MQ below (va_Qv (fun u => u = (X, M0, τ)) (g_pw G) (g_A G)) args s 0 0 (g_A G)) (F0 m 69 ls [])) (k77 : Int32 → Int32 → Int32 → Int32 → Int32 → Int32 → SM → Option (SM)) (hk77 : ∀ (x1 : Int32) (x3 : Int32) (x4 : Int32) (x5 : Int32) (x6 : Int32) (x7 : Int32) (M : SM), k77 x1 x3 x4 x5 x6 x7 M = some M0 → ∀ {H : Heap} {locs : List Loc}, va_P G.1 g_cl (wd G (cb X M) τ) H → va_S (g_A G) s.heap H locs → ∀ {ls : Array Slot}, lv_has ls 8 [(0, .ref (G.2.1 39 0)), (1, .int x1), (3, .int x3), (4, .int x4), (5, .int x5), (6, .int x6), (7, .int x7)] → W p l e rm_X12_writes s m args below meth c H locs 0 0 (MQ below (va_Qv (fun u => u = (X, M0, τ)) (g_pw G) (g_A G)) args s 0 0 (g_A G)) (F0 m 77 ls [])) (x1 : Int32) (x3 : Int32) (x4 : Int32) (x5 : Int32) (x6 : Int32) (x7 : Int32) (M : SM) (hf : wb_X12_writes_77 k69 k77 x1 x3 x4 x5 x6 x7 M = some M0) {H : Heap} {locs : List Loc} (hP : va_P G.1 g_cl (wd G (cb X M) τ) H) (hS : va_S (g_A G) s.heap H locs) {ls : Array Slot} (hl : lv_has ls 8 [(0, .ref (G.2.1 39 0)), (1, .int x1), (3, .int x3), (4, .int x4), (5, .int x5), (6, .int x6), (7, .int x7)]) : W p l e rm_X12_writes s m args below meth c H locs 0 0 (MQ below (va_Qv (fun u => u = (X, M0, τ)) (g_pw G) (g_A G)) args s 0 0 (g_A G)) (F0 m 77 ls []) := by
  obtain ⟨hx, hb, hr, hml, hown, hts, hlocks, hC⟩ := id C0
  unfold wb_X12_writes_77 at hf
  refine lv_iload hx hb dX12_writes_77 (lv_at hl 6 rfl) ?_
  refine lv_iconst (v := 4) hx hb dX12_writes_79 (by decide) ?_
  refine lv_icmp_ge (tgt := 123) hx hb dX12_writes_80 (by decide) (fun hc_19 => ?_) (fun hc_19 => ?_)
  · have hf := g_pos hf hc_19
    obtain ⟨x6_20, ex6_20, hf⟩ := g_letE hf
    refine lv_iinc (v := x6_20) (lv' := [(6, .int x6_20), (0, .ref (G.2.1 39 0)), (1, .int x1), (3, .int x3), (4, .int x4), (5, .int x5), (7, .int x7)]) hx hb dX12_writes_123 hl (k := 5) rfl (by rw [← ex6_20]; rfl) (by decide) rfl (fun ls hl => ?_)
    refine lv_goto (tgt := 69) hx hb dX12_writes_126 (by decide) ?_
    exact hk69 x1 x3 x4 x5 x6_20 M hf hP hS (lv_sub hl [1, 2, 3, 4, 5, 0] rfl)
  · have hf := g_neg hf hc_19
    refine lv_aload_n hx hb dX12_writes_83 rfl (lv_at hl 0 rfl) ?_
    refine gt_39_0 hx hb hts hown hC hP Nat.zero_lt_one q6_17 dX12_writes_84 ?_
    refine lv_sipush (v := 522) hx hb dX12_writes_87 (by decide) ?_
    refine lv_iconst (v := 4) hx hb dX12_writes_90 (by decide) ?_
    refine lv_iload hx hb dX12_writes_91 (lv_at hl 5 rfl) ?_
    refine lv_imul hx hb dX12_writes_93 ?_
    refine lv_iadd hx hb dX12_writes_94 ?_
    refine lv_iload hx hb dX12_writes_95 (lv_at hl 6 rfl) ?_
    refine lv_iadd hx hb dX12_writes_97 ?_
    refine lv_aload_n hx hb dX12_writes_98 rfl (lv_at hl 0 rfl) ?_
    refine gt_39_0 hx hb hts hown hC hP Nat.zero_lt_one q6_17 dX12_writes_99 ?_
    refine lv_sipush (v := 522) hx hb dX12_writes_102 (by decide) ?_
    refine lv_iconst (v := 4) hx hb dX12_writes_105 (by decide) ?_
    refine lv_iload hx hb dX12_writes_106 (lv_at hl 5 rfl) ?_
    refine lv_imul hx hb dX12_writes_108 ?_
    refine lv_iadd hx hb dX12_writes_109 ?_
    refine lv_iconst (v := 4) hx hb dX12_writes_110 (by decide) ?_
    refine lv_isub hx hb dX12_writes_111 ?_
    refine lv_iload hx hb dX12_writes_112 (lv_at hl 6 rfl) ?_
    refine lv_iadd hx hb dX12_writes_114 ?_
    obtain ⟨hg_21, hf⟩ := g_gd hf
    refine xildM (k := 40) (n := 693) hx hb hC hP (fun _ _ => rfl) rfl Nat.zero_lt_one hg_21 dX12_writes_115 ?_
    obtain ⟨hg_22, hf⟩ := g_gd hf
    obtain ⟨M_23, eM_23, hf⟩ := g_letE hf
    refine xistM (k := 40) (n := 693) hx hb hC hP hS (fun _ _ => rfl) rfl Nat.zero_lt_one hg_22 dX12_writes_116 (fun H locs hP hS => ?_)
    rw [eM_23] at hP
    obtain ⟨x7_24, ex7_24, hf⟩ := g_letE hf
    refine lv_iinc (v := x7_24) (lv' := [(7, .int x7_24), (0, .ref (G.2.1 39 0)), (1, .int x1), (3, .int x3), (4, .int x4), (5, .int x5), (6, .int x6)]) hx hb dX12_writes_117 hl (k := 6) rfl (by rw [← ex7_24]; rfl) (by decide) rfl (fun ls hl => ?_)
    refine lv_goto (tgt := 77) hx hb dX12_writes_120 (by decide) ?_
    exact hk77 x1 x3 x4 x5 x6 x7_24 M_23 hf hP hS (lv_sub hl [1, 2, 3, 4, 5, 6, 0] rfl)
def wl_X12_writes_77 (k69 : Int32 → Int32 → Int32 → Int32 → Int32 → SM → Option (SM)) (n : Nat) (x1 : Int32) (x3 : Int32) (x4 : Int32) (x5 : Int32) (x6 : Int32) (x7 : Int32) (M : SM) : Option (SM) := g_loop (α := Int32 × Int32 × Int32 × Int32 × Int32 × Int32 × SM) (fun k a => wb_X12_writes_77 k69 (fun x1 x3 x4 x5 x6 x7 M => k (x1, x3, x4, x5, x6, x7, M)) a.1 a.2.1 a.2.2.1 a.2.2.2.1 a.2.2.2.2.1 a.2.2.2.2.2.1 a.2.2.2.2.2.2) n (x1, x3, x4, x5, x6, x7, M)
set_option maxRecDepth 100000 in
set_option maxHeartbeats 4000000 in
theorem lp_X12_writes_77 {p : Program} {l : Launch} {e : Env} {s : State} {m : MethodId} {args : Array Value} {below : List Frame} {meth : Method} {c : Code} {G : GP} {X : SM} {τ : SL} (C0 : g_mc p s m args meth c RX12 cX12_writes none 8 G) {M0 : SM} (k69 : Int32 → Int32 → Int32 → Int32 → Int32 → SM → Option (SM)) (hk69 : ∀ (x1 : Int32) (x3 : Int32) (x4 : Int32) (x5 : Int32) (x6 : Int32) (M : SM), k69 x1 x3 x4 x5 x6 M = some M0 → ∀ {H : Heap} {locs : List Loc}, va_P G.1 g_cl (wd G (cb X M) τ) H → va_S (g_A G) s.heap H locs → ∀ {ls : Array Slot}, lv_has ls 8 [(0, .ref (G.2.1 39 0)), (1, .int x1), (3, .int x3), (4, .int x4), (5, .int x5), (6, .int x6)] → W p l e rm_X12_writes s m args below meth c H locs 0 0 (MQ below (va_Qv (fun u => u = (X, M0, τ)) (g_pw G) (g_A G)) args s 0 0 (g_A G)) (F0 m 69 ls [])) (n : Nat) : ∀ (x1 : Int32) (x3 : Int32) (x4 : Int32) (x5 : Int32) (x6 : Int32) (x7 : Int32) (M : SM), wl_X12_writes_77 k69 n x1 x3 x4 x5 x6 x7 M = some M0 → ∀ {H : Heap} {locs : List Loc}, va_P G.1 g_cl (wd G (cb X M) τ) H → va_S (g_A G) s.heap H locs → ∀ {ls : Array Slot}, lv_has ls 8 [(0, .ref (G.2.1 39 0)), (1, .int x1), (3, .int x3), (4, .int x4), (5, .int x5), (6, .int x6), (7, .int x7)] → W p l e rm_X12_writes s m args below meth c H locs 0 0 (MQ below (va_Qv (fun u => u = (X, M0, τ)) (g_pw G) (g_A G)) args s 0 0 (g_A G)) (F0 m 77 ls []) := by
  induction n with
  | zero =>
    intro x1 x3 x4 x5 x6 x7 M hf
    have hf : (none : Option (SM)) = _ := hf
    cases hf
  | succ n ih =>
    intro x1 x3 x4 x5 x6 x7 M hf H locs hP hS ls hl
    exact bk_X12_writes_77 C0  k69 hk69 (fun x1 x3 x4 x5 x6 x7 M => wl_X12_writes_77  k69 n x1 x3 x4 x5 x6 x7 M) ih x1 x3 x4 x5 x6 x7 M hf hP hS hl
def wb_X12_writes_69 (k69 : Int32 → Int32 → Int32 → Int32 → Int32 → SM → Option (SM)) (x1 : Int32) (x3 : Int32) (x4 : Int32) (x5 : Int32) (x6 : Int32) (M : SM) : Option (SM) :=
  if x6 ≤ 0 then
  (g_let (u1 M 40 0 (Int32.toNatClampNeg 522) (M 40 0 683)) fun M_11 =>
    g_let (u1 M_11 40 0 (Int32.toNatClampNeg 523) x1) fun M_12 =>
    g_let (u1 M_12 40 0 (Int32.toNatClampNeg 524) x4) fun M_13 =>
    if x3 = 0 then
    (g_let (u1 M_13 40 0 (Int32.toNatClampNeg 525) 0) fun M_15 =>
      g_let (u1 M_15 40 0 (Int32.toNatClampNeg 682) x5) fun M_16 =>
      some M_16)
    else
    (g_let (u1 M_13 40 0 (Int32.toNatClampNeg 525) 1) fun M_17 =>
      g_let (u1 M_17 40 0 (Int32.toNatClampNeg 682) x5) fun M_18 =>
      some M_18))
  else
  (wl_X12_writes_77 k69 1000 x1 x3 x4 x5 x6 0 M)
set_option maxRecDepth 100000 in
set_option maxHeartbeats 4000000 in
theorem bk_X12_writes_69 {p : Program} {l : Launch} {e : Env} {s : State} {m : MethodId} {args : Array Value} {below : List Frame} {meth : Method} {c : Code} {G : GP} {X : SM} {τ : SL} (C0 : g_mc p s m args meth c RX12 cX12_writes none 8 G) {M0 : SM} (k69 : Int32 → Int32 → Int32 → Int32 → Int32 → SM → Option (SM)) (hk69 : ∀ (x1 : Int32) (x3 : Int32) (x4 : Int32) (x5 : Int32) (x6 : Int32) (M : SM), k69 x1 x3 x4 x5 x6 M = some M0 → ∀ {H : Heap} {locs : List Loc}, va_P G.1 g_cl (wd G (cb X M) τ) H → va_S (g_A G) s.heap H locs → ∀ {ls : Array Slot}, lv_has ls 8 [(0, .ref (G.2.1 39 0)), (1, .int x1), (3, .int x3), (4, .int x4), (5, .int x5), (6, .int x6)] → W p l e rm_X12_writes s m args below meth c H locs 0 0 (MQ below (va_Qv (fun u => u = (X, M0, τ)) (g_pw G) (g_A G)) args s 0 0 (g_A G)) (F0 m 69 ls [])) (x1 : Int32) (x3 : Int32) (x4 : Int32) (x5 : Int32) (x6 : Int32) (M : SM) (hf : wb_X12_writes_69 k69 x1 x3 x4 x5 x6 M = some M0) {H : Heap} {locs : List Loc} (hP : va_P G.1 g_cl (wd G (cb X M) τ) H) (hS : va_S (g_A G) s.heap H locs) {ls : Array Slot} (hl : lv_has ls 8 [(0, .ref (G.2.1 39 0)), (1, .int x1), (3, .int x3), (4, .int x4), (5, .int x5), (6, .int x6)]) : W p l e rm_X12_writes s m args below meth c H locs 0 0 (MQ below (va_Qv (fun u => u = (X, M0, τ)) (g_pw G) (g_A G)) args s 0 0 (g_A G)) (F0 m 69 ls []) := by
  obtain ⟨hx, hb, hr, hml, hown, hts, hlocks, hC⟩ := id C0
  unfold wb_X12_writes_69 at hf
  refine lv_iload hx hb dX12_writes_69 (lv_at hl 5 rfl) ?_
  refine lv_if_le (tgt := 129) hx hb dX12_writes_71 (by decide) (fun hc_10 => ?_) (fun hc_10 => ?_)
  · have hf := g_pos hf hc_10
    refine lv_aload_n hx hb dX12_writes_129 rfl (lv_at hl 0 rfl) ?_
    refine gt_39_0 hx hb hts hown hC hP Nat.zero_lt_one q6_17 dX12_writes_130 ?_
    refine lv_sipush (v := 522) hx hb dX12_writes_133 (by decide) ?_
    refine lv_aload_n hx hb dX12_writes_136 rfl (lv_at hl 0 rfl) ?_
    refine gt_39_0 hx hb hts hown hC hP Nat.zero_lt_one q6_17 dX12_writes_137 ?_
    refine lv_sipush (v := 683) hx hb dX12_writes_140 (by decide) ?_
    refine xildM (k := 40) (n := 693) hx hb hC hP (fun _ _ => rfl) rfl Nat.zero_lt_one (by decide) dX12_writes_143 ?_
    refine lv_topE (show M 40 0 (Int32.toNatClampNeg 683) = M 40 0 683 from rfl) ?_
    obtain ⟨M_11, eM_11, hf⟩ := g_letE hf
    refine xistM (k := 40) (n := 693) hx hb hC hP hS (fun _ _ => rfl) rfl Nat.zero_lt_one (by decide) dX12_writes_144 (fun H locs hP hS => ?_)
    rw [eM_11] at hP
    refine lv_aload_n hx hb dX12_writes_145 rfl (lv_at hl 0 rfl) ?_
    refine gt_39_0 hx hb hts hown hC hP Nat.zero_lt_one q6_17 dX12_writes_146 ?_
    refine lv_sipush (v := 523) hx hb dX12_writes_149 (by decide) ?_
    refine lv_iload_n hx hb dX12_writes_152 rfl (lv_at hl 1 rfl) ?_
    obtain ⟨M_12, eM_12, hf⟩ := g_letE hf
    refine xistM (k := 40) (n := 693) hx hb hC hP hS (fun _ _ => rfl) rfl Nat.zero_lt_one (by decide) dX12_writes_153 (fun H locs hP hS => ?_)
    rw [eM_12] at hP
    refine lv_aload_n hx hb dX12_writes_154 rfl (lv_at hl 0 rfl) ?_
    refine gt_39_0 hx hb hts hown hC hP Nat.zero_lt_one q6_17 dX12_writes_155 ?_
    refine lv_sipush (v := 524) hx hb dX12_writes_158 (by decide) ?_
    refine lv_iload hx hb dX12_writes_161 (lv_at hl 3 rfl) ?_
    obtain ⟨M_13, eM_13, hf⟩ := g_letE hf
    refine xistM (k := 40) (n := 693) hx hb hC hP hS (fun _ _ => rfl) rfl Nat.zero_lt_one (by decide) dX12_writes_163 (fun H locs hP hS => ?_)
    rw [eM_13] at hP
    refine lv_aload_n hx hb dX12_writes_164 rfl (lv_at hl 0 rfl) ?_
    refine gt_39_0 hx hb hts hown hC hP Nat.zero_lt_one q6_17 dX12_writes_165 ?_
    refine lv_sipush (v := 525) hx hb dX12_writes_168 (by decide) ?_
    refine lv_iload_n hx hb dX12_writes_171 rfl (lv_at hl 2 rfl) ?_
    refine lv_if_eq (tgt := 179) hx hb dX12_writes_172 (by decide) (fun hc_14 => ?_) (fun hc_14 => ?_)
    · have hf := g_pos hf hc_14
      refine lv_iconst (v := 0) hx hb dX12_writes_179 (by decide) ?_
      obtain ⟨M_15, eM_15, hf⟩ := g_letE hf
      refine xistM (k := 40) (n := 693) hx hb hC hP hS (fun _ _ => rfl) rfl Nat.zero_lt_one (by decide) dX12_writes_180 (fun H locs hP hS => ?_)
      rw [eM_15] at hP
      refine lv_aload_n hx hb dX12_writes_181 rfl (lv_at hl 0 rfl) ?_
      refine gt_39_0 hx hb hts hown hC hP Nat.zero_lt_one q6_17 dX12_writes_182 ?_
      refine lv_sipush (v := 682) hx hb dX12_writes_185 (by decide) ?_
      refine lv_iload hx hb dX12_writes_188 (lv_at hl 4 rfl) ?_
      obtain ⟨M_16, eM_16, hf⟩ := g_letE hf
      refine xistM (k := 40) (n := 693) hx hb hC hP hS (fun _ _ => rfl) rfl Nat.zero_lt_one (by decide) dX12_writes_190 (fun H locs hP hS => ?_)
      rw [eM_16] at hP
      cases hf
      exact x_vret hx hb hlocks hC hP hS hr dX12_writes_191
    · have hf := g_neg hf hc_14
      refine lv_iconst (v := 1) hx hb dX12_writes_175 (by decide) ?_
      refine lv_goto (tgt := 180) hx hb dX12_writes_176 (by decide) ?_
      obtain ⟨M_17, eM_17, hf⟩ := g_letE hf
      refine xistM (k := 40) (n := 693) hx hb hC hP hS (fun _ _ => rfl) rfl Nat.zero_lt_one (by decide) dX12_writes_180 (fun H locs hP hS => ?_)
      rw [eM_17] at hP
      refine lv_aload_n hx hb dX12_writes_181 rfl (lv_at hl 0 rfl) ?_
      refine gt_39_0 hx hb hts hown hC hP Nat.zero_lt_one q6_17 dX12_writes_182 ?_
      refine lv_sipush (v := 682) hx hb dX12_writes_185 (by decide) ?_
      refine lv_iload hx hb dX12_writes_188 (lv_at hl 4 rfl) ?_
      obtain ⟨M_18, eM_18, hf⟩ := g_letE hf
      refine xistM (k := 40) (n := 693) hx hb hC hP hS (fun _ _ => rfl) rfl Nat.zero_lt_one (by decide) dX12_writes_190 (fun H locs hP hS => ?_)
      rw [eM_18] at hP
      cases hf
      exact x_vret hx hb hlocks hC hP hS hr dX12_writes_191
  · have hf := g_neg hf hc_10
    refine lv_iconst (v := 0) hx hb dX12_writes_74 (by decide) ?_
    refine lv_istore (lv' := [(7, .int 0), (0, .ref (G.2.1 39 0)), (1, .int x1), (3, .int x3), (4, .int x4), (5, .int x5), (6, .int x6)]) hx hb dX12_writes_75 hl (by decide) rfl (fun ls hl => ?_)
    exact lp_X12_writes_77 C0 k69 hk69 1000 x1 x3 x4 x5 x6 0 M hf hP hS (lv_sub hl [1, 2, 3, 4, 5, 6, 0] rfl)
def wl_X12_writes_69 (n : Nat) (x1 : Int32) (x3 : Int32) (x4 : Int32) (x5 : Int32) (x6 : Int32) (M : SM) : Option (SM) := g_loop (α := Int32 × Int32 × Int32 × Int32 × Int32 × SM) (fun k a => wb_X12_writes_69 (fun x1 x3 x4 x5 x6 M => k (x1, x3, x4, x5, x6, M)) a.1 a.2.1 a.2.2.1 a.2.2.2.1 a.2.2.2.2.1 a.2.2.2.2.2) n (x1, x3, x4, x5, x6, M)
set_option maxRecDepth 100000 in
set_option maxHeartbeats 4000000 in
theorem lp_X12_writes_69 {p : Program} {l : Launch} {e : Env} {s : State} {m : MethodId} {args : Array Value} {below : List Frame} {meth : Method} {c : Code} {G : GP} {X : SM} {τ : SL} (C0 : g_mc p s m args meth c RX12 cX12_writes none 8 G) {M0 : SM} (n : Nat) : ∀ (x1 : Int32) (x3 : Int32) (x4 : Int32) (x5 : Int32) (x6 : Int32) (M : SM), wl_X12_writes_69 n x1 x3 x4 x5 x6 M = some M0 → ∀ {H : Heap} {locs : List Loc}, va_P G.1 g_cl (wd G (cb X M) τ) H → va_S (g_A G) s.heap H locs → ∀ {ls : Array Slot}, lv_has ls 8 [(0, .ref (G.2.1 39 0)), (1, .int x1), (3, .int x3), (4, .int x4), (5, .int x5), (6, .int x6)] → W p l e rm_X12_writes s m args below meth c H locs 0 0 (MQ below (va_Qv (fun u => u = (X, M0, τ)) (g_pw G) (g_A G)) args s 0 0 (g_A G)) (F0 m 69 ls []) := by
  induction n with
  | zero =>
    intro x1 x3 x4 x5 x6 M hf
    have hf : (none : Option (SM)) = _ := hf
    cases hf
  | succ n ih =>
    intro x1 x3 x4 x5 x6 M hf H locs hP hS ls hl
    exact bk_X12_writes_69 C0   (fun x1 x3 x4 x5 x6 M => wl_X12_writes_69   n x1 x3 x4 x5 x6 M) ih x1 x3 x4 x5 x6 M hf hP hS hl
def fn_X12_writes (x1 : Int32) (x2 : Int32) (x3 : Int32) (M : SM) : Option (SM) :=
  g_let ((x2 &&& 1)) fun x4_1 =>
  if g_in (486 + x1) 693 then
  if (M 40 0 ((486 + x1).toNatClampNeg)) = x4_1 then
  (some M)
  else
  (if g_in (486 + x1) 693 then
    g_let (u1 M 40 0 ((486 + x1).toNatClampNeg) x4_1) fun M_5 =>
    if 40 ≤ (M_5 40 0 682) then
    (g_let ((40 - 1)) fun x6_7 =>
      wl_X12_writes_69 1000 x1 x3 x4_1 40 x6_7 M_5)
    else
    (g_let (((M_5 40 0 682) + 1)) fun x5_8 =>
      g_let ((x5_8 - 1)) fun x6_9 =>
      wl_X12_writes_69 1000 x1 x3 x4_1 x5_8 x6_9 M_5)
    else none)
  else none
set_option maxRecDepth 100000 in
set_option maxHeartbeats 4000000 in
theorem wk_X12_writes {p : Program} {l : Launch} {e : Env} {s : State} {m : MethodId} {args : Array Value} {below : List Frame} {meth : Method} {c : Code} {G : GP} {X : SM} {τ : SL} (C0 : g_mc p s m args meth c RX12 cX12_writes none 8 G) {M0 : SM} (x1 : Int32) (x2 : Int32) (x3 : Int32) (M : SM) (hf : fn_X12_writes x1 x2 x3 M = some M0) {H : Heap} {locs : List Loc} (hP : va_P G.1 g_cl (wd G (cb X M) τ) H) (hS : va_S (g_A G) s.heap H locs) {ls : Array Slot} (hl : lv_has ls 8 [(0, .ref (G.2.1 39 0)), (1, .int x1), (2, .int x2), (3, .int x3)]) : W p l e rm_X12_writes s m args below meth c H locs 0 0 (MQ below (va_Qv (fun u => u = (X, M0, τ)) (g_pw G) (g_A G)) args s 0 0 (g_A G)) (F0 m 0 ls []) := by
  obtain ⟨hx, hb, hr, hml, hown, hts, hlocks, hC⟩ := id C0
  unfold fn_X12_writes at hf
  refine lv_iload_n hx hb dX12_writes_0 rfl (lv_at hl 2 rfl) ?_
  refine lv_iconst (v := 1) hx hb dX12_writes_1 (by decide) ?_
  refine lv_iand hx hb dX12_writes_2 ?_
  obtain ⟨x4_1, ex4_1, hf⟩ := g_letE hf
  refine lv_topE ex4_1 ?_
  refine lv_istore (lv' := [(4, .int x4_1), (0, .ref (G.2.1 39 0)), (1, .int x1), (2, .int x2), (3, .int x3)]) hx hb dX12_writes_3 hl (by decide) rfl (fun ls hl => ?_)
  refine lv_aload_n hx hb dX12_writes_5 rfl (lv_at hl 1 rfl) ?_
  refine gt_39_0 hx hb hts hown hC hP Nat.zero_lt_one q6_17 dX12_writes_6 ?_
  refine lv_sipush (v := 486) hx hb dX12_writes_9 (by decide) ?_
  refine lv_iload_n hx hb dX12_writes_12 rfl (lv_at hl 2 rfl) ?_
  refine lv_iadd hx hb dX12_writes_13 ?_
  obtain ⟨hg_2, hf⟩ := g_gd hf
  refine xildM (k := 40) (n := 693) hx hb hC hP (fun _ _ => rfl) rfl Nat.zero_lt_one hg_2 dX12_writes_14 ?_
  refine lv_iload hx hb dX12_writes_15 (lv_at hl 0 rfl) ?_
  refine lv_icmp_ne (tgt := 21) hx hb dX12_writes_17 (by decide) (fun hc_3 => ?_) (fun hc_3 => ?_)
  · have hf := g_neg hf hc_3
    refine lv_aload_n hx hb dX12_writes_21 rfl (lv_at hl 1 rfl) ?_
    refine gt_39_0 hx hb hts hown hC hP Nat.zero_lt_one q6_17 dX12_writes_22 ?_
    refine lv_sipush (v := 486) hx hb dX12_writes_25 (by decide) ?_
    refine lv_iload_n hx hb dX12_writes_28 rfl (lv_at hl 2 rfl) ?_
    refine lv_iadd hx hb dX12_writes_29 ?_
    refine lv_iload hx hb dX12_writes_30 (lv_at hl 0 rfl) ?_
    obtain ⟨hg_4, hf⟩ := g_gd hf
    obtain ⟨M_5, eM_5, hf⟩ := g_letE hf
    refine xistM (k := 40) (n := 693) hx hb hC hP hS (fun _ _ => rfl) rfl Nat.zero_lt_one hg_4 dX12_writes_32 (fun H locs hP hS => ?_)
    rw [eM_5] at hP
    refine lv_aload_n hx hb dX12_writes_33 rfl (lv_at hl 1 rfl) ?_
    refine gt_39_0 hx hb hts hown hC hP Nat.zero_lt_one q6_17 dX12_writes_34 ?_
    refine lv_sipush (v := 682) hx hb dX12_writes_37 (by decide) ?_
    refine xildM (k := 40) (n := 693) hx hb hC hP (fun _ _ => rfl) rfl Nat.zero_lt_one (by decide) dX12_writes_40 ?_
    refine lv_topE (show M_5 40 0 (Int32.toNatClampNeg 682) = M_5 40 0 682 from rfl) ?_
    refine lv_bipush (v := 40) hx hb dX12_writes_41 (by decide) ?_
    refine lv_icmp_ge (tgt := 59) hx hb dX12_writes_43 (by decide) (fun hc_6 => ?_) (fun hc_6 => ?_)
    · have hf := g_pos hf hc_6
      refine lv_bipush (v := 40) hx hb dX12_writes_59 (by decide) ?_
      refine lv_istore (lv' := [(5, .int 40), (4, .int x4_1), (0, .ref (G.2.1 39 0)), (1, .int x1), (2, .int x2), (3, .int x3)]) hx hb dX12_writes_61 hl (by decide) rfl (fun ls hl => ?_)
      refine lv_iload hx hb dX12_writes_63 (lv_at hl 0 rfl) ?_
      refine lv_iconst (v := 1) hx hb dX12_writes_65 (by decide) ?_
      refine lv_isub hx hb dX12_writes_66 ?_
      obtain ⟨x6_7, ex6_7, hf⟩ := g_letE hf
      refine lv_topE ex6_7 ?_
      refine lv_istore (lv' := [(6, .int x6_7), (5, .int 40), (4, .int x4_1), (0, .ref (G.2.1 39 0)), (1, .int x1), (2, .int x2), (3, .int x3)]) hx hb dX12_writes_67 hl (by decide) rfl (fun ls hl => ?_)
      exact lp_X12_writes_69 C0 1000 x1 x3 x4_1 40 x6_7 M_5 hf hP hS (lv_sub hl [3, 4, 6, 2, 1, 0] rfl)
    · have hf := g_neg hf hc_6
      refine lv_aload_n hx hb dX12_writes_46 rfl (lv_at hl 1 rfl) ?_
      refine gt_39_0 hx hb hts hown hC hP Nat.zero_lt_one q6_17 dX12_writes_47 ?_
      refine lv_sipush (v := 682) hx hb dX12_writes_50 (by decide) ?_
      refine xildM (k := 40) (n := 693) hx hb hC hP (fun _ _ => rfl) rfl Nat.zero_lt_one (by decide) dX12_writes_53 ?_
      refine lv_topE (show M_5 40 0 (Int32.toNatClampNeg 682) = M_5 40 0 682 from rfl) ?_
      refine lv_iconst (v := 1) hx hb dX12_writes_54 (by decide) ?_
      refine lv_iadd hx hb dX12_writes_55 ?_
      refine lv_goto (tgt := 61) hx hb dX12_writes_56 (by decide) ?_
      obtain ⟨x5_8, ex5_8, hf⟩ := g_letE hf
      refine lv_topE ex5_8 ?_
      refine lv_istore (lv' := [(5, .int x5_8), (4, .int x4_1), (0, .ref (G.2.1 39 0)), (1, .int x1), (2, .int x2), (3, .int x3)]) hx hb dX12_writes_61 hl (by decide) rfl (fun ls hl => ?_)
      refine lv_iload hx hb dX12_writes_63 (lv_at hl 0 rfl) ?_
      refine lv_iconst (v := 1) hx hb dX12_writes_65 (by decide) ?_
      refine lv_isub hx hb dX12_writes_66 ?_
      obtain ⟨x6_9, ex6_9, hf⟩ := g_letE hf
      refine lv_topE ex6_9 ?_
      refine lv_istore (lv' := [(6, .int x6_9), (5, .int x5_8), (4, .int x4_1), (0, .ref (G.2.1 39 0)), (1, .int x1), (2, .int x2), (3, .int x3)]) hx hb dX12_writes_67 hl (by decide) rfl (fun ls hl => ?_)
      exact lp_X12_writes_69 C0 1000 x1 x3 x4_1 x5_8 x6_9 M_5 hf hP hS (lv_sub hl [3, 4, 6, 2, 1, 0] rfl)
  · have hf := g_pos hf hc_3
    cases hf
    exact x_vret hx hb hlocks hC hP hS hr dX12_writes_20
set_option maxRecDepth 100000 in
set_option maxHeartbeats 4000000 in
theorem ct_X12_writes (l : Launch) (G : GP) (X M : SM) (τ : SL) (x1 : Int32) (x2 : Int32) (x3 : Int32) {M0 : SM} (hf : fn_X12_writes x1 x2 x3 M = some M0) : Met l yX12_writes (wz yX12_writes cX12_writes 8 none) rm_X12_writes (va_Pc [.ref (G.2.1 39 0), .int x1, .int x2, .int x3] (g_pw G (X, M, τ))) (va_Qv (fun u => u = (X, M0, τ)) (g_pw G) (g_A G)) 0 0 (g_A G) := by
  refine Met.ofW (cc := cX12_writes) (maxL := 8) (ret := none) (by decide +kernel) rfl ?_
  intro p e s m args below meth c s₁ B hml hv
  obtain ⟨rfl, hC, hP⟩ := hv
  have C0 : g_mc p s m _ meth c RX12 cX12_writes none 8 G := ⟨B.exec, B.bytes, B.returns, hml, findClass_of_methodNamed B.named, fun w h => atoms_spec (ws := wz yX12_writes cX12_writes 8 none) B.pre w (List.mem_cons_of_mem _ h), B.notSynchronized, hC⟩
  have hl := lv_entry ([.ref (G.2.1 39 0), .int x1, .int x2, .int x3]) (n := 8) (Nat.le_of_ble_eq_true rfl)
  rw [lg_entry_eq]
  generalize (lg_sl ([.ref (G.2.1 39 0), .int x1, .int x2, .int x3]) ++ List.replicate (8 - (lg_sl ([.ref (G.2.1 39 0), .int x1, .int x2, .int x3])).length) Slot.unset).toArray = ls at hl ⊢
  exact wk_X12_writes C0  x1 x2 x3 M hf hP va_S.rf hl
abbrev rm_X12_gets : Room := { frames := 0, cells := 0, slots := 0, locals := 0 }
def fn_X12_gets (x1 : Int32) (x2 : Int32) (x3 : Int32) (M : SM) : Option (SM) :=
  if g_in ((0 + (8 * x1)) + x2) 693 then
  g_let (u1 M 40 0 (((0 + (8 * x1)) + x2).toNatClampNeg) x3) fun M_2 =>
  some M_2
  else none
set_option maxRecDepth 100000 in
set_option maxHeartbeats 4000000 in
theorem wk_X12_gets {p : Program} {l : Launch} {e : Env} {s : State} {m : MethodId} {args : Array Value} {below : List Frame} {meth : Method} {c : Code} {G : GP} {X : SM} {τ : SL} (C0 : g_mc p s m args meth c RX12 cX12_gets none 4 G) {M0 : SM} (x1 : Int32) (x2 : Int32) (x3 : Int32) (M : SM) (hf : fn_X12_gets x1 x2 x3 M = some M0) {H : Heap} {locs : List Loc} (hP : va_P G.1 g_cl (wd G (cb X M) τ) H) (hS : va_S (g_A G) s.heap H locs) {ls : Array Slot} (hl : lv_has ls 4 [(0, .ref (G.2.1 39 0)), (1, .int x1), (2, .int x2), (3, .int x3)]) : W p l e rm_X12_gets s m args below meth c H locs 0 0 (MQ below (va_Qv (fun u => u = (X, M0, τ)) (g_pw G) (g_A G)) args s 0 0 (g_A G)) (F0 m 0 ls []) := by
  obtain ⟨hx, hb, hr, hml, hown, hts, hlocks, hC⟩ := id C0
  unfold fn_X12_gets at hf
  refine lv_aload_n hx hb dX12_gets_0 rfl (lv_at hl 0 rfl) ?_
  refine gt_39_0 hx hb hts hown hC hP Nat.zero_lt_one q6_17 dX12_gets_1 ?_
  refine lv_iconst (v := 0) hx hb dX12_gets_4 (by decide) ?_
  refine lv_bipush (v := 8) hx hb dX12_gets_5 (by decide) ?_
  refine lv_iload_n hx hb dX12_gets_7 rfl (lv_at hl 1 rfl) ?_
  refine lv_imul hx hb dX12_gets_8 ?_
  refine lv_iadd hx hb dX12_gets_9 ?_
  refine lv_iload_n hx hb dX12_gets_10 rfl (lv_at hl 2 rfl) ?_
  refine lv_iadd hx hb dX12_gets_11 ?_
  refine lv_iload_n hx hb dX12_gets_12 rfl (lv_at hl 3 rfl) ?_
  obtain ⟨hg_1, hf⟩ := g_gd hf
  obtain ⟨M_2, eM_2, hf⟩ := g_letE hf
  refine xistM (k := 40) (n := 693) hx hb hC hP hS (fun _ _ => rfl) rfl Nat.zero_lt_one hg_1 dX12_gets_13 (fun H locs hP hS => ?_)
  rw [eM_2] at hP
  cases hf
  exact x_vret hx hb hlocks hC hP hS hr dX12_gets_14
set_option maxRecDepth 100000 in
set_option maxHeartbeats 4000000 in
theorem ct_X12_gets (l : Launch) (G : GP) (X M : SM) (τ : SL) (x1 : Int32) (x2 : Int32) (x3 : Int32) {M0 : SM} (hf : fn_X12_gets x1 x2 x3 M = some M0) : Met l yX12_gets (wz yX12_gets cX12_gets 4 none) rm_X12_gets (va_Pc [.ref (G.2.1 39 0), .int x1, .int x2, .int x3] (g_pw G (X, M, τ))) (va_Qv (fun u => u = (X, M0, τ)) (g_pw G) (g_A G)) 0 0 (g_A G) := by
  refine Met.ofW (cc := cX12_gets) (maxL := 4) (ret := none) (by decide +kernel) rfl ?_
  intro p e s m args below meth c s₁ B hml hv
  obtain ⟨rfl, hC, hP⟩ := hv
  have C0 : g_mc p s m _ meth c RX12 cX12_gets none 4 G := ⟨B.exec, B.bytes, B.returns, hml, findClass_of_methodNamed B.named, fun w h => atoms_spec (ws := wz yX12_gets cX12_gets 4 none) B.pre w (List.mem_cons_of_mem _ h), B.notSynchronized, hC⟩
  have hl := lv_entry ([.ref (G.2.1 39 0), .int x1, .int x2, .int x3]) (n := 4) (Nat.le_of_ble_eq_true rfl)
  rw [lg_entry_eq]
  generalize (lg_sl ([.ref (G.2.1 39 0), .int x1, .int x2, .int x3]) ++ List.replicate (4 - (lg_sl ([.ref (G.2.1 39 0), .int x1, .int x2, .int x3])).length) Slot.unset).toArray = ls at hl ⊢
  exact wk_X12_gets C0  x1 x2 x3 M hf hP va_S.rf hl
abbrev rm_X12_comes : Room := { frames := 1, cells := 0, slots := 0, locals := 27 }
def wb_X12_comes_60 (x1 : Int32) (x3 : Int32) (x4 : Int32) (x5 : Int32) (M : SM) : Option (SM) :=
  if x3 = 13 then
  (if g_in (486 + x4) 693 then
    (fn_X12_gets x1 x5 (M 40 0 ((486 + x4).toNatClampNeg)) M).bind fun M_19 =>
    if g_in (438 + x1) 693 then
    g_let (u1 M_19 40 0 ((438 + x1).toNatClampNeg) 0) fun M_22 =>
    if g_in (468 + x1) 693 then
    g_let (u1 M_22 40 0 ((468 + x1).toNatClampNeg) (-1)) fun M_24 =>
    some M_24
    else none
    else none
    else none)
  else
  (if g_in (438 + x1) 693 then
    g_let (u1 M 40 0 ((438 + x1).toNatClampNeg) 0) fun M_15 =>
    if g_in (468 + x1) 693 then
    g_let (u1 M_15 40 0 ((468 + x1).toNatClampNeg) (-1)) fun M_17 =>
    some M_17
    else none
    else none)
set_option maxRecDepth 100000 in
set_option maxHeartbeats 4000000 in
theorem bk_X12_comes_60 {p : Program} {l : Launch} {e : Env} {s : State} {m : MethodId} {args : Array Value} {below : List Frame} {meth : Method} {c : Code} {G : GP} {X : SM} {τ : SL} (C0 : g_mc p s m args meth c RX12 cX12_comes none 6 G) {M0 : SM} (x1 : Int32) (x3 : Int32) (x4 : Int32) (x5 : Int32) (M : SM) (hf : wb_X12_comes_60 x1 x3 x4 x5 M = some M0) {H : Heap} {locs : List Loc} (hP : va_P G.1 g_cl (wd G (cb X M) τ) H) (hS : va_S (g_A G) s.heap H locs) {ls : Array Slot} (hl : lv_has ls 6 [(0, .ref (G.2.1 39 0)), (1, .int x1), (3, .int x3), (4, .int x4), (5, .int x5)]) : W p l e rm_X12_comes s m args below meth c H locs 0 0 (MQ below (va_Qv (fun u => u = (X, M0, τ)) (g_pw G) (g_A G)) args s 0 0 (g_A G)) (F0 m 60 ls []) := by
  obtain ⟨hx, hb, hr, hml, hown, hts, hlocks, hC⟩ := id C0
  unfold wb_X12_comes_60 at hf
  refine lv_iload_n hx hb dX12_comes_60 rfl (lv_at hl 2 rfl) ?_
  refine lv_bipush (v := 13) hx hb dX12_comes_61 (by decide) ?_
  refine lv_icmp_ne (tgt := 84) hx hb dX12_comes_63 (by decide) (fun hc_13 => ?_) (fun hc_13 => ?_)
  · have hf := g_neg hf hc_13
    refine lv_aload_n hx hb dX12_comes_84 rfl (lv_at hl 0 rfl) ?_
    refine gt_39_0 hx hb hts hown hC hP Nat.zero_lt_one q6_17 dX12_comes_85 ?_
    refine lv_sipush (v := 438) hx hb dX12_comes_88 (by decide) ?_
    refine lv_iload_n hx hb dX12_comes_91 rfl (lv_at hl 1 rfl) ?_
    refine lv_iadd hx hb dX12_comes_92 ?_
    refine lv_iconst (v := 0) hx hb dX12_comes_93 (by decide) ?_
    obtain ⟨hg_14, hf⟩ := g_gd hf
    obtain ⟨M_15, eM_15, hf⟩ := g_letE hf
    refine xistM (k := 40) (n := 693) hx hb hC hP hS (fun _ _ => rfl) rfl Nat.zero_lt_one hg_14 dX12_comes_94 (fun H locs hP hS => ?_)
    rw [eM_15] at hP
    refine lv_aload_n hx hb dX12_comes_95 rfl (lv_at hl 0 rfl) ?_
    refine gt_39_0 hx hb hts hown hC hP Nat.zero_lt_one q6_17 dX12_comes_96 ?_
    refine lv_sipush (v := 468) hx hb dX12_comes_99 (by decide) ?_
    refine lv_iload_n hx hb dX12_comes_102 rfl (lv_at hl 1 rfl) ?_
    refine lv_iadd hx hb dX12_comes_103 ?_
    refine lv_iconst (v := (-1)) hx hb dX12_comes_104 (by decide) ?_
    obtain ⟨hg_16, hf⟩ := g_gd hf
    obtain ⟨M_17, eM_17, hf⟩ := g_letE hf
    refine xistM (k := 40) (n := 693) hx hb hC hP hS (fun _ _ => rfl) rfl Nat.zero_lt_one hg_16 dX12_comes_105 (fun H locs hP hS => ?_)
    rw [eM_17] at hP
    cases hf
    exact x_vret hx hb hlocks hC hP hS hr dX12_comes_106
  · have hf := g_pos hf hc_13
    refine lv_aload_n hx hb dX12_comes_66 rfl (lv_at hl 0 rfl) ?_
    refine lv_iload_n hx hb dX12_comes_67 rfl (lv_at hl 1 rfl) ?_
    refine lv_iload hx hb dX12_comes_68 (lv_at hl 4 rfl) ?_
    refine lv_aload_n hx hb dX12_comes_70 rfl (lv_at hl 0 rfl) ?_
    refine gt_39_0 hx hb hts hown hC hP Nat.zero_lt_one q6_17 dX12_comes_71 ?_
    refine lv_sipush (v := 486) hx hb dX12_comes_74 (by decide) ?_
    refine lv_iload hx hb dX12_comes_77 (lv_at hl 3 rfl) ?_
    refine lv_iadd hx hb dX12_comes_79 ?_
    obtain ⟨hg_18, hf⟩ := g_gd hf
    refine xildM (k := 40) (n := 693) hx hb hC hP (fun _ _ => rfl) rfl Nat.zero_lt_one hg_18 dX12_comes_80 ?_
    obtain ⟨M_19, hc_20, hf⟩ := g_bindE hf
    refine x_callv (v := (X, M_19, τ)) (va_runV (As := [.int x1, .int x5, .int (M 40 0 ((486 + x4).toNatClampNeg))]) (rest := []) ⟨hx, hb, hml, hown, hts⟩ (ct_X12_gets l G X M τ x1 x5 (M 40 0 ((486 + x4).toNatClampNeg)) hc_20) (cwV 3 hts gd_X12_123 rfl rfl rfl hd_X12_gets ⟨Nat.le_of_ble_eq_true rfl, Nat.le_of_ble_eq_true rfl⟩) (x_preV (u := (X, M, τ)) (k := 39) (ci := 12) hC hS hP Nat.zero_lt_one rfl rfl) rfl rfl hl.1 rfl (lv_room (Nat.le_of_ble_eq_true rfl)) dX12_comes_81 ⟨Nat.zero_le _, Nat.zero_le _⟩) hS (fun H locs hP hS => ?_)
    refine lv_aload_n hx hb dX12_comes_84 rfl (lv_at hl 0 rfl) ?_
    refine gt_39_0 hx hb hts hown hC hP Nat.zero_lt_one q6_17 dX12_comes_85 ?_
    refine lv_sipush (v := 438) hx hb dX12_comes_88 (by decide) ?_
    refine lv_iload_n hx hb dX12_comes_91 rfl (lv_at hl 1 rfl) ?_
    refine lv_iadd hx hb dX12_comes_92 ?_
    refine lv_iconst (v := 0) hx hb dX12_comes_93 (by decide) ?_
    obtain ⟨hg_21, hf⟩ := g_gd hf
    obtain ⟨M_22, eM_22, hf⟩ := g_letE hf
    refine xistM (k := 40) (n := 693) hx hb hC hP hS (fun _ _ => rfl) rfl Nat.zero_lt_one hg_21 dX12_comes_94 (fun H locs hP hS => ?_)
    rw [eM_22] at hP
    refine lv_aload_n hx hb dX12_comes_95 rfl (lv_at hl 0 rfl) ?_
    refine gt_39_0 hx hb hts hown hC hP Nat.zero_lt_one q6_17 dX12_comes_96 ?_
    refine lv_sipush (v := 468) hx hb dX12_comes_99 (by decide) ?_
    refine lv_iload_n hx hb dX12_comes_102 rfl (lv_at hl 1 rfl) ?_
    refine lv_iadd hx hb dX12_comes_103 ?_
    refine lv_iconst (v := (-1)) hx hb dX12_comes_104 (by decide) ?_
    obtain ⟨hg_23, hf⟩ := g_gd hf
    obtain ⟨M_24, eM_24, hf⟩ := g_letE hf
    refine xistM (k := 40) (n := 693) hx hb hC hP hS (fun _ _ => rfl) rfl Nat.zero_lt_one hg_23 dX12_comes_105 (fun H locs hP hS => ?_)
    rw [eM_24] at hP
    cases hf
    exact x_vret hx hb hlocks hC hP hS hr dX12_comes_106
def fn_X12_comes (x1 : Int32) (M : SM) : Option (SM) :=
  if g_in (480 + x1) 693 then
  g_let ((M 40 0 ((480 + x1).toNatClampNeg))) fun x2_2 =>
  (fn_X12_part x1 x2_2 0 M).bind fun r_3 =>
  (fn_X12_part x1 x2_2 1 M).bind fun r_5 =>
  (fn_X12_part x1 x2_2 2 M).bind fun r_7 =>
  if r_3 = 11 then
  (if g_in (687 + x1) 693 then
    (fn_X12_writes r_5 (M 40 0 ((687 + x1).toNatClampNeg)) 0 M).bind fun M_11 =>
    wb_X12_comes_60 x1 r_3 r_5 r_7 M_11
    else none)
  else
  (wb_X12_comes_60 x1 r_3 r_5 r_7 M)
  else none
set_option maxRecDepth 100000 in
set_option maxHeartbeats 4000000 in
theorem wk_X12_comes {p : Program} {l : Launch} {e : Env} {s : State} {m : MethodId} {args : Array Value} {below : List Frame} {meth : Method} {c : Code} {G : GP} {X : SM} {τ : SL} (C0 : g_mc p s m args meth c RX12 cX12_comes none 6 G) {M0 : SM} (x1 : Int32) (M : SM) (hf : fn_X12_comes x1 M = some M0) {H : Heap} {locs : List Loc} (hP : va_P G.1 g_cl (wd G (cb X M) τ) H) (hS : va_S (g_A G) s.heap H locs) {ls : Array Slot} (hl : lv_has ls 6 [(0, .ref (G.2.1 39 0)), (1, .int x1)]) : W p l e rm_X12_comes s m args below meth c H locs 0 0 (MQ below (va_Qv (fun u => u = (X, M0, τ)) (g_pw G) (g_A G)) args s 0 0 (g_A G)) (F0 m 0 ls []) := by
  obtain ⟨hx, hb, hr, hml, hown, hts, hlocks, hC⟩ := id C0
  unfold fn_X12_comes at hf
  refine lv_aload_n hx hb dX12_comes_0 rfl (lv_at hl 0 rfl) ?_
  refine gt_39_0 hx hb hts hown hC hP Nat.zero_lt_one q6_17 dX12_comes_1 ?_
  refine lv_sipush (v := 480) hx hb dX12_comes_4 (by decide) ?_
  refine lv_iload_n hx hb dX12_comes_7 rfl (lv_at hl 1 rfl) ?_
  refine lv_iadd hx hb dX12_comes_8 ?_
  obtain ⟨hg_1, hf⟩ := g_gd hf
  refine xildM (k := 40) (n := 693) hx hb hC hP (fun _ _ => rfl) rfl Nat.zero_lt_one hg_1 dX12_comes_9 ?_
  obtain ⟨x2_2, ex2_2, hf⟩ := g_letE hf
  refine lv_topE ex2_2 ?_
  refine lv_istore_n (lv' := [(2, .int x2_2), (0, .ref (G.2.1 39 0)), (1, .int x1)]) hx hb dX12_comes_10 rfl hl (by decide) rfl (fun ls hl => ?_)
  refine lv_aload_n hx hb dX12_comes_11 rfl (lv_at hl 1 rfl) ?_
  refine lv_iload_n hx hb dX12_comes_12 rfl (lv_at hl 2 rfl) ?_
  refine lv_iload_n hx hb dX12_comes_13 rfl (lv_at hl 0 rfl) ?_
  refine lv_iconst (v := 0) hx hb dX12_comes_14 (by decide) ?_
  obtain ⟨r_3, hc_4, hf⟩ := g_bindE hf
  refine x_calli (v := (X, M, τ)) (va_runV (As := [.int x1, .int x2_2, .int 0]) (rest := []) ⟨hx, hb, hml, hown, hts⟩ (ct_X12_part l G X M τ x1 x2_2 0 hc_4) (cwV 3 hts gd_X12_115 rfl rfl rfl hd_X12_part ⟨Nat.le_of_ble_eq_true rfl, Nat.le_of_ble_eq_true rfl⟩) (x_preV (u := (X, M, τ)) (k := 39) (ci := 12) hC hS hP Nat.zero_lt_one rfl rfl) rfl rfl hl.1 rfl (lv_room (Nat.le_of_ble_eq_true rfl)) dX12_comes_15 ⟨Nat.zero_le _, Nat.zero_le _⟩) hS (fun H locs hP hS => ?_)
  refine lv_istore_n (lv' := [(3, .int r_3), (2, .int x2_2), (0, .ref (G.2.1 39 0)), (1, .int x1)]) hx hb dX12_comes_18 rfl hl (by decide) rfl (fun ls hl => ?_)
  refine lv_aload_n hx hb dX12_comes_19 rfl (lv_at hl 2 rfl) ?_
  refine lv_iload_n hx hb dX12_comes_20 rfl (lv_at hl 3 rfl) ?_
  refine lv_iload_n hx hb dX12_comes_21 rfl (lv_at hl 1 rfl) ?_
  refine lv_iconst (v := 1) hx hb dX12_comes_22 (by decide) ?_
  obtain ⟨r_5, hc_6, hf⟩ := g_bindE hf
  refine x_calli (v := (X, M, τ)) (va_runV (As := [.int x1, .int x2_2, .int 1]) (rest := []) ⟨hx, hb, hml, hown, hts⟩ (ct_X12_part l G X M τ x1 x2_2 1 hc_6) (cwV 3 hts gd_X12_115 rfl rfl rfl hd_X12_part ⟨Nat.le_of_ble_eq_true rfl, Nat.le_of_ble_eq_true rfl⟩) (x_preV (u := (X, M, τ)) (k := 39) (ci := 12) hC hS hP Nat.zero_lt_one rfl rfl) rfl rfl hl.1 rfl (lv_room (Nat.le_of_ble_eq_true rfl)) dX12_comes_23 ⟨Nat.zero_le _, Nat.zero_le _⟩) hS (fun H locs hP hS => ?_)
  refine lv_istore (lv' := [(4, .int r_5), (3, .int r_3), (2, .int x2_2), (0, .ref (G.2.1 39 0)), (1, .int x1)]) hx hb dX12_comes_26 hl (by decide) rfl (fun ls hl => ?_)
  refine lv_aload_n hx hb dX12_comes_28 rfl (lv_at hl 3 rfl) ?_
  refine lv_iload_n hx hb dX12_comes_29 rfl (lv_at hl 4 rfl) ?_
  refine lv_iload_n hx hb dX12_comes_30 rfl (lv_at hl 2 rfl) ?_
  refine lv_iconst (v := 2) hx hb dX12_comes_31 (by decide) ?_
  obtain ⟨r_7, hc_8, hf⟩ := g_bindE hf
  refine x_calli (v := (X, M, τ)) (va_runV (As := [.int x1, .int x2_2, .int 2]) (rest := []) ⟨hx, hb, hml, hown, hts⟩ (ct_X12_part l G X M τ x1 x2_2 2 hc_8) (cwV 3 hts gd_X12_115 rfl rfl rfl hd_X12_part ⟨Nat.le_of_ble_eq_true rfl, Nat.le_of_ble_eq_true rfl⟩) (x_preV (u := (X, M, τ)) (k := 39) (ci := 12) hC hS hP Nat.zero_lt_one rfl rfl) rfl rfl hl.1 rfl (lv_room (Nat.le_of_ble_eq_true rfl)) dX12_comes_32 ⟨Nat.zero_le _, Nat.zero_le _⟩) hS (fun H locs hP hS => ?_)
  refine lv_istore (lv' := [(5, .int r_7), (4, .int r_5), (3, .int r_3), (2, .int x2_2), (0, .ref (G.2.1 39 0)), (1, .int x1)]) hx hb dX12_comes_35 hl (by decide) rfl (fun ls hl => ?_)
  refine lv_iload_n hx hb dX12_comes_37 rfl (lv_at hl 2 rfl) ?_
  refine lv_bipush (v := 11) hx hb dX12_comes_38 (by decide) ?_
  refine lv_icmp_ne (tgt := 60) hx hb dX12_comes_40 (by decide) (fun hc_9 => ?_) (fun hc_9 => ?_)
  · have hf := g_neg hf hc_9
    exact bk_X12_comes_60 C0 x1 r_3 r_5 r_7 M hf hP hS (lv_sub hl [4, 5, 2, 1, 0] rfl)
  · have hf := g_pos hf hc_9
    refine lv_aload_n hx hb dX12_comes_43 rfl (lv_at hl 4 rfl) ?_
    refine lv_iload hx hb dX12_comes_44 (lv_at hl 1 rfl) ?_
    refine lv_aload_n hx hb dX12_comes_46 rfl (lv_at hl 4 rfl) ?_
    refine gt_39_0 hx hb hts hown hC hP Nat.zero_lt_one q6_17 dX12_comes_47 ?_
    refine lv_sipush (v := 687) hx hb dX12_comes_50 (by decide) ?_
    refine lv_iload_n hx hb dX12_comes_53 rfl (lv_at hl 5 rfl) ?_
    refine lv_iadd hx hb dX12_comes_54 ?_
    obtain ⟨hg_10, hf⟩ := g_gd hf
    refine xildM (k := 40) (n := 693) hx hb hC hP (fun _ _ => rfl) rfl Nat.zero_lt_one hg_10 dX12_comes_55 ?_
    refine lv_iconst (v := 0) hx hb dX12_comes_56 (by decide) ?_
    obtain ⟨M_11, hc_12, hf⟩ := g_bindE hf
    refine x_callv (v := (X, M_11, τ)) (va_runV (As := [.int r_5, .int (M 40 0 ((687 + x1).toNatClampNeg)), .int 0]) (rest := []) ⟨hx, hb, hml, hown, hts⟩ (ct_X12_writes l G X M τ r_5 (M 40 0 ((687 + x1).toNatClampNeg)) 0 hc_12) (cwV 3 hts gd_X12_119 rfl rfl rfl hd_X12_writes ⟨Nat.le_of_ble_eq_true rfl, Nat.le_of_ble_eq_true rfl⟩) (x_preV (u := (X, M, τ)) (k := 39) (ci := 12) hC hS hP Nat.zero_lt_one rfl rfl) rfl rfl hl.1 rfl (lv_room (Nat.le_of_ble_eq_true rfl)) dX12_comes_57 ⟨Nat.zero_le _, Nat.zero_le _⟩) hS (fun H locs hP hS => ?_)
    exact bk_X12_comes_60 C0 x1 r_3 r_5 r_7 M_11 hf hP hS (lv_sub hl [4, 5, 2, 1, 0] rfl)
set_option maxRecDepth 100000 in
set_option maxHeartbeats 4000000 in
theorem ct_X12_comes (l : Launch) (G : GP) (X M : SM) (τ : SL) (x1 : Int32) {M0 : SM} (hf : fn_X12_comes x1 M = some M0) : Met l yX12_comes (wz yX12_comes cX12_comes 6 none) rm_X12_comes (va_Pc [.ref (G.2.1 39 0), .int x1] (g_pw G (X, M, τ))) (va_Qv (fun u => u = (X, M0, τ)) (g_pw G) (g_A G)) 0 0 (g_A G) := by
  refine Met.ofW (cc := cX12_comes) (maxL := 6) (ret := none) (by decide +kernel) rfl ?_
  intro p e s m args below meth c s₁ B hml hv
  obtain ⟨rfl, hC, hP⟩ := hv
  have C0 : g_mc p s m _ meth c RX12 cX12_comes none 6 G := ⟨B.exec, B.bytes, B.returns, hml, findClass_of_methodNamed B.named, fun w h => atoms_spec (ws := wz yX12_comes cX12_comes 6 none) B.pre w (List.mem_cons_of_mem _ h), B.notSynchronized, hC⟩
  have hl := lv_entry ([.ref (G.2.1 39 0), .int x1]) (n := 6) (Nat.le_of_ble_eq_true rfl)
  rw [lg_entry_eq]
  generalize (lg_sl ([.ref (G.2.1 39 0), .int x1]) ++ List.replicate (6 - (lg_sl ([.ref (G.2.1 39 0), .int x1])).length) Slot.unset).toArray = ls at hl ⊢
  exact wk_X12_comes C0  x1 M hf hP va_S.rf hl
abbrev rm_X12_canTurn : Room := { frames := 0, cells := 0, slots := 0, locals := 0 }
def fn_X12_canTurn (x1 : Int32) (M : SM) : Option (Int32) :=
  if g_in (438 + x1) 693 then
  if (M 40 0 ((438 + x1).toNatClampNeg)) = 0 then
  (if g_in x1 6 then
    if (M 43 0 (x1.toNatClampNeg)) ≤ 0 then
    (some 0)
    else
    (some 1)
    else none)
  else
  (some 0)
  else none
set_option maxRecDepth 100000 in
set_option maxHeartbeats 4000000 in
theorem wk_X12_canTurn {p : Program} {l : Launch} {e : Env} {s : State} {m : MethodId} {args : Array Value} {below : List Frame} {meth : Method} {c : Code} {G : GP} {X : SM} {τ : SL} (C0 : g_mc p s m args meth c RX12 cX12_canTurn (some .boolean) 2 G) {r0 : Int32} (x1 : Int32) (M : SM) (hf : fn_X12_canTurn x1 M = some r0) {H : Heap} {locs : List Loc} (hP : va_P G.1 g_cl (wd G (cb X M) τ) H) (hS : va_S (g_A G) s.heap H locs) {ls : Array Slot} (hl : lv_has ls 2 [(0, .ref (G.2.1 39 0)), (1, .int x1)]) : W p l e rm_X12_canTurn s m args below meth c H locs 0 0 (MQ below (va_Qi (fun r u => r = r0 ∧ u = (X, M, τ)) (g_pw G) (g_A G)) args s 0 0 (g_A G)) (F0 m 0 ls []) := by
  obtain ⟨hx, hb, hr, hml, hown, hts, hlocks, hC⟩ := id C0
  unfold fn_X12_canTurn at hf
  refine lv_aload_n hx hb dX12_canTurn_0 rfl (lv_at hl 0 rfl) ?_
  refine gt_39_0 hx hb hts hown hC hP Nat.zero_lt_one q6_17 dX12_canTurn_1 ?_
  refine lv_sipush (v := 438) hx hb dX12_canTurn_4 (by decide) ?_
  refine lv_iload_n hx hb dX12_canTurn_7 rfl (lv_at hl 1 rfl) ?_
  refine lv_iadd hx hb dX12_canTurn_8 ?_
  obtain ⟨hg_1, hf⟩ := g_gd hf
  refine xildM (k := 40) (n := 693) hx hb hC hP (fun _ _ => rfl) rfl Nat.zero_lt_one hg_1 dX12_canTurn_9 ?_
  refine lv_if_ne (tgt := 26) hx hb dX12_canTurn_10 (by decide) (fun hc_2 => ?_) (fun hc_2 => ?_)
  · have hf := g_neg hf hc_2
    refine lv_iconst (v := 0) hx hb dX12_canTurn_26 (by decide) ?_
    cases hf
    exact x_zret hx hb hlocks hC hP hS hr (Or.inl rfl) dX12_canTurn_27
  · have hf := g_pos hf hc_2
    refine lv_aload_n hx hb dX12_canTurn_13 rfl (lv_at hl 0 rfl) ?_
    refine gt_39_3 hx hb hts hown hC hP Nat.zero_lt_one q6_20 dX12_canTurn_14 ?_
    refine lv_iload_n hx hb dX12_canTurn_17 rfl (lv_at hl 1 rfl) ?_
    obtain ⟨hg_3, hf⟩ := g_gd hf
    refine xildM (k := 43) (n := 6) hx hb hC hP (fun _ _ => rfl) rfl Nat.zero_lt_one hg_3 dX12_canTurn_18 ?_
    refine lv_if_le (tgt := 26) hx hb dX12_canTurn_19 (by decide) (fun hc_4 => ?_) (fun hc_4 => ?_)
    · have hf := g_pos hf hc_4
      refine lv_iconst (v := 0) hx hb dX12_canTurn_26 (by decide) ?_
      cases hf
      exact x_zret hx hb hlocks hC hP hS hr (Or.inl rfl) dX12_canTurn_27
    · have hf := g_neg hf hc_4
      refine lv_iconst (v := 1) hx hb dX12_canTurn_22 (by decide) ?_
      refine lv_goto (tgt := 27) hx hb dX12_canTurn_23 (by decide) ?_
      cases hf
      exact x_zret hx hb hlocks hC hP hS hr (Or.inr rfl) dX12_canTurn_27
set_option maxRecDepth 100000 in
set_option maxHeartbeats 4000000 in
theorem ct_X12_canTurn (l : Launch) (G : GP) (X M : SM) (τ : SL) (x1 : Int32) {r0 : Int32} (hf : fn_X12_canTurn x1 M = some r0) : Met l yX12_canTurn (wz yX12_canTurn cX12_canTurn 2 (some .boolean)) rm_X12_canTurn (va_Pc [.ref (G.2.1 39 0), .int x1] (g_pw G (X, M, τ))) (va_Qi (fun r u => r = r0 ∧ u = (X, M, τ)) (g_pw G) (g_A G)) 0 0 (g_A G) := by
  refine Met.ofW (cc := cX12_canTurn) (maxL := 2) (ret := (some .boolean)) (by decide +kernel) rfl ?_
  intro p e s m args below meth c s₁ B hml hv
  obtain ⟨rfl, hC, hP⟩ := hv
  have C0 : g_mc p s m _ meth c RX12 cX12_canTurn (some .boolean) 2 G := ⟨B.exec, B.bytes, B.returns, hml, findClass_of_methodNamed B.named, fun w h => atoms_spec (ws := wz yX12_canTurn cX12_canTurn 2 (some .boolean)) B.pre w (List.mem_cons_of_mem _ h), B.notSynchronized, hC⟩
  have hl := lv_entry ([.ref (G.2.1 39 0), .int x1]) (n := 2) (Nat.le_of_ble_eq_true rfl)
  rw [lg_entry_eq]
  generalize (lg_sl ([.ref (G.2.1 39 0), .int x1]) ++ List.replicate (2 - (lg_sl ([.ref (G.2.1 39 0), .int x1])).length) Slot.unset).toArray = ls at hl ⊢
  exact wk_X12_canTurn C0  x1 M hf hP va_S.rf hl
abbrev rm_X12_turnOf : Room := { frames := 1, cells := 0, slots := 0, locals := 21 }
def wb_X12_turnOf_35 (k35 : Int32 → SM → Option (Int32 × SM)) (x2 : Int32) (M : SM) : Option (Int32 × SM) :=
  if 6 < x2 then
  (g_let (u1 M 40 0 (Int32.toNatClampNeg 685) ((M 40 0 685) + 1)) fun M_9 =>
    some ((-1), M_9))
  else
  (g_let (((((M 40 0 684) + x2) + 6) - (((M 40 0 684) + x2) + 6) / 6 * 6)) fun x3_10 =>
    if g_in x3_10 6 then
    if (M 45 0 (x3_10.toNatClampNeg)) = 0 then
    (g_let (x2 + 1) fun x2_13 =>
      k35 x2_13 M)
    else
    ((fn_X12_canTurn x3_10 M).bind fun r_14 =>
      if r_14 = 0 then
      (g_let (x2 + 1) fun x2_21 =>
        k35 x2_21 M)
      else
      (g_let (u1 M 40 0 (Int32.toNatClampNeg 684) x3_10) fun M_17 =>
        if g_in (456 + x3_10) 693 then
        if g_in (456 + x3_10) 693 then
        g_let (u1 M_17 40 0 ((456 + x3_10).toNatClampNeg) ((M_17 40 0 ((456 + x3_10).toNatClampNeg)) + 1)) fun M_20 =>
        some (x3_10, M_20)
        else none
        else none))
    else none)
set_option maxRecDepth 100000 in
set_option maxHeartbeats 4000000 in
theorem bk_X12_turnOf_35 {p : Program} {l : Launch} {e : Env} {s : State} {m : MethodId} {args : Array Value} {below : List Frame} {meth : Method} {c : Code} {G : GP} {X : SM} {τ : SL} (C0 : g_mc p s m args meth c RX12 cX12_turnOf (some .int) 4 G) {r0 : Int32} {M0 : SM} (k35 : Int32 → SM → Option (Int32 × SM)) (hk35 : ∀ (x2 : Int32) (M : SM), k35 x2 M = some (r0, M0) → ∀ {H : Heap} {locs : List Loc}, va_P G.1 g_cl (wd G (cb X M) τ) H → va_S (g_A G) s.heap H locs → ∀ {ls : Array Slot}, lv_has ls 4 [(0, .ref (G.2.1 39 0)), (2, .int x2)] → W p l e rm_X12_turnOf s m args below meth c H locs 0 0 (MQ below (va_Qi (fun r u => r = r0 ∧ u = (X, M0, τ)) (g_pw G) (g_A G)) args s 0 0 (g_A G)) (F0 m 35 ls [])) (x2 : Int32) (M : SM) (hf : wb_X12_turnOf_35 k35 x2 M = some (r0, M0)) {H : Heap} {locs : List Loc} (hP : va_P G.1 g_cl (wd G (cb X M) τ) H) (hS : va_S (g_A G) s.heap H locs) {ls : Array Slot} (hl : lv_has ls 4 [(0, .ref (G.2.1 39 0)), (2, .int x2)]) : W p l e rm_X12_turnOf s m args below meth c H locs 0 0 (MQ below (va_Qi (fun r u => r = r0 ∧ u = (X, M0, τ)) (g_pw G) (g_A G)) args s 0 0 (g_A G)) (F0 m 35 ls []) := by
  obtain ⟨hx, hb, hr, hml, hown, hts, hlocks, hC⟩ := id C0
  unfold wb_X12_turnOf_35 at hf
  refine lv_iload_n hx hb dX12_turnOf_35 rfl (lv_at hl 1 rfl) ?_
  refine lv_bipush (v := 6) hx hb dX12_turnOf_36 (by decide) ?_
  refine lv_icmp_gt (tgt := 109) hx hb dX12_turnOf_38 (by decide) (fun hc_8 => ?_) (fun hc_8 => ?_)
  · have hf := g_pos hf hc_8
    refine lv_aload_n hx hb dX12_turnOf_109 rfl (lv_at hl 0 rfl) ?_
    refine gt_39_0 hx hb hts hown hC hP Nat.zero_lt_one q6_17 dX12_turnOf_110 ?_
    refine lv_sipush (v := 685) hx hb dX12_turnOf_113 (by decide) ?_
    refine lv_dup2_11 hx hb dX12_turnOf_116 rfl rfl ?_
    refine xildM (k := 40) (n := 693) hx hb hC hP (fun _ _ => rfl) rfl Nat.zero_lt_one (by decide) dX12_turnOf_117 ?_
    refine lv_topE (show M 40 0 (Int32.toNatClampNeg 685) = M 40 0 685 from rfl) ?_
    refine lv_iconst (v := 1) hx hb dX12_turnOf_118 (by decide) ?_
    refine lv_iadd hx hb dX12_turnOf_119 ?_
    obtain ⟨M_9, eM_9, hf⟩ := g_letE hf
    refine xistM (k := 40) (n := 693) hx hb hC hP hS (fun _ _ => rfl) rfl Nat.zero_lt_one (by decide) dX12_turnOf_120 (fun H locs hP hS => ?_)
    rw [eM_9] at hP
    refine lv_iconst (v := (-1)) hx hb dX12_turnOf_121 (by decide) ?_
    cases hf
    exact x_iret hx hb hlocks hC hP hS hr dX12_turnOf_122
  · have hf := g_neg hf hc_8
    refine lv_aload_n hx hb dX12_turnOf_41 rfl (lv_at hl 0 rfl) ?_
    refine gt_39_0 hx hb hts hown hC hP Nat.zero_lt_one q6_17 dX12_turnOf_42 ?_
    refine lv_sipush (v := 684) hx hb dX12_turnOf_45 (by decide) ?_
    refine xildM (k := 40) (n := 693) hx hb hC hP (fun _ _ => rfl) rfl Nat.zero_lt_one (by decide) dX12_turnOf_48 ?_
    refine lv_topE (show M 40 0 (Int32.toNatClampNeg 684) = M 40 0 684 from rfl) ?_
    refine lv_iload_n hx hb dX12_turnOf_49 rfl (lv_at hl 1 rfl) ?_
    refine lv_iadd hx hb dX12_turnOf_50 ?_
    refine lv_bipush (v := 6) hx hb dX12_turnOf_51 (by decide) ?_
    refine lv_iadd hx hb dX12_turnOf_53 ?_
    refine lv_bipush (v := 6) hx hb dX12_turnOf_54 (by decide) ?_
    refine lv_irem hx hb dX12_turnOf_56 (by decide) ?_
    obtain ⟨x3_10, ex3_10, hf⟩ := g_letE hf
    refine lv_topE ex3_10 ?_
    refine lv_istore_n (lv' := [(3, .int x3_10), (0, .ref (G.2.1 39 0)), (2, .int x2)]) hx hb dX12_turnOf_57 rfl hl (by decide) rfl (fun ls hl => ?_)
    refine lv_aload_n hx hb dX12_turnOf_58 rfl (lv_at hl 1 rfl) ?_
    refine gt_39_5 hx hb hts hown hC hP Nat.zero_lt_one q6_23 dX12_turnOf_59 ?_
    refine lv_iload_n hx hb dX12_turnOf_62 rfl (lv_at hl 0 rfl) ?_
    obtain ⟨hg_11, hf⟩ := g_gd hf
    refine xzldM (k := 45) (n := 6) hx hb hC hP (fun _ _ => rfl) rfl Nat.zero_lt_one hg_11 dX12_turnOf_63 ?_
    refine lv_if_eq (tgt := 103) hx hb dX12_turnOf_64 (by decide) (fun hc_12 => ?_) (fun hc_12 => ?_)
    · have hf := g_pos hf hc_12
      obtain ⟨x2_13, ex2_13, hf⟩ := g_letE hf
      refine lv_iinc (v := x2_13) (lv' := [(2, .int x2_13), (3, .int x3_10), (0, .ref (G.2.1 39 0))]) hx hb dX12_turnOf_103 hl (k := 2) rfl (by rw [← ex2_13]; rfl) (by decide) rfl (fun ls hl => ?_)
      refine lv_goto (tgt := 35) hx hb dX12_turnOf_106 (by decide) ?_
      exact hk35 x2_13 M hf hP hS (lv_sub hl [2, 0] rfl)
    · have hf := g_neg hf hc_12
      refine lv_aload_n hx hb dX12_turnOf_67 rfl (lv_at hl 1 rfl) ?_
      refine lv_iload_n hx hb dX12_turnOf_68 rfl (lv_at hl 0 rfl) ?_
      obtain ⟨r_14, hc_15, hf⟩ := g_bindE hf
      refine x_calli (v := (X, M, τ)) (va_runV (As := [.int x3_10]) (rest := []) ⟨hx, hb, hml, hown, hts⟩ (ct_X12_canTurn l G X M τ x3_10 hc_15) (cwV 1 hts gd_X12_127 rfl rfl rfl hd_X12_canTurn ⟨Nat.le_of_ble_eq_true rfl, Nat.le_of_ble_eq_true rfl⟩) (x_preV (u := (X, M, τ)) (k := 39) (ci := 12) hC hS hP Nat.zero_lt_one rfl rfl) rfl rfl hl.1 rfl (lv_room (Nat.le_of_ble_eq_true rfl)) dX12_turnOf_69 ⟨Nat.zero_le _, Nat.zero_le _⟩) hS (fun H locs hP hS => ?_)
      refine lv_if_ne (tgt := 78) hx hb dX12_turnOf_72 (by decide) (fun hc_16 => ?_) (fun hc_16 => ?_)
      · have hf := g_neg hf hc_16
        refine lv_aload_n hx hb dX12_turnOf_78 rfl (lv_at hl 1 rfl) ?_
        refine gt_39_0 hx hb hts hown hC hP Nat.zero_lt_one q6_17 dX12_turnOf_79 ?_
        refine lv_sipush (v := 684) hx hb dX12_turnOf_82 (by decide) ?_
        refine lv_iload_n hx hb dX12_turnOf_85 rfl (lv_at hl 0 rfl) ?_
        obtain ⟨M_17, eM_17, hf⟩ := g_letE hf
        refine xistM (k := 40) (n := 693) hx hb hC hP hS (fun _ _ => rfl) rfl Nat.zero_lt_one (by decide) dX12_turnOf_86 (fun H locs hP hS => ?_)
        rw [eM_17] at hP
        refine lv_aload_n hx hb dX12_turnOf_87 rfl (lv_at hl 1 rfl) ?_
        refine gt_39_0 hx hb hts hown hC hP Nat.zero_lt_one q6_17 dX12_turnOf_88 ?_
        refine lv_sipush (v := 456) hx hb dX12_turnOf_91 (by decide) ?_
        refine lv_iload_n hx hb dX12_turnOf_94 rfl (lv_at hl 0 rfl) ?_
        refine lv_iadd hx hb dX12_turnOf_95 ?_
        refine lv_dup2_11 hx hb dX12_turnOf_96 rfl rfl ?_
        obtain ⟨hg_18, hf⟩ := g_gd hf
        refine xildM (k := 40) (n := 693) hx hb hC hP (fun _ _ => rfl) rfl Nat.zero_lt_one hg_18 dX12_turnOf_97 ?_
        refine lv_iconst (v := 1) hx hb dX12_turnOf_98 (by decide) ?_
        refine lv_iadd hx hb dX12_turnOf_99 ?_
        obtain ⟨hg_19, hf⟩ := g_gd hf
        obtain ⟨M_20, eM_20, hf⟩ := g_letE hf
        refine xistM (k := 40) (n := 693) hx hb hC hP hS (fun _ _ => rfl) rfl Nat.zero_lt_one hg_19 dX12_turnOf_100 (fun H locs hP hS => ?_)
        rw [eM_20] at hP
        refine lv_iload_n hx hb dX12_turnOf_101 rfl (lv_at hl 0 rfl) ?_
        cases hf
        exact x_iret hx hb hlocks hC hP hS hr dX12_turnOf_102
      · have hf := g_pos hf hc_16
        refine lv_goto (tgt := 103) hx hb dX12_turnOf_75 (by decide) ?_
        obtain ⟨x2_21, ex2_21, hf⟩ := g_letE hf
        refine lv_iinc (v := x2_21) (lv' := [(2, .int x2_21), (3, .int x3_10), (0, .ref (G.2.1 39 0))]) hx hb dX12_turnOf_103 hl (k := 2) rfl (by rw [← ex2_21]; rfl) (by decide) rfl (fun ls hl => ?_)
        refine lv_goto (tgt := 35) hx hb dX12_turnOf_106 (by decide) ?_
        exact hk35 x2_21 M hf hP hS (lv_sub hl [2, 0] rfl)
def wl_X12_turnOf_35 (n : Nat) (x2 : Int32) (M : SM) : Option (Int32 × SM) := g_loop (α := Int32 × SM) (fun k a => wb_X12_turnOf_35 (fun x2 M => k (x2, M)) a.1 a.2) n (x2, M)
set_option maxRecDepth 100000 in
set_option maxHeartbeats 4000000 in
theorem lp_X12_turnOf_35 {p : Program} {l : Launch} {e : Env} {s : State} {m : MethodId} {args : Array Value} {below : List Frame} {meth : Method} {c : Code} {G : GP} {X : SM} {τ : SL} (C0 : g_mc p s m args meth c RX12 cX12_turnOf (some .int) 4 G) {r0 : Int32} {M0 : SM} (n : Nat) : ∀ (x2 : Int32) (M : SM), wl_X12_turnOf_35 n x2 M = some (r0, M0) → ∀ {H : Heap} {locs : List Loc}, va_P G.1 g_cl (wd G (cb X M) τ) H → va_S (g_A G) s.heap H locs → ∀ {ls : Array Slot}, lv_has ls 4 [(0, .ref (G.2.1 39 0)), (2, .int x2)] → W p l e rm_X12_turnOf s m args below meth c H locs 0 0 (MQ below (va_Qi (fun r u => r = r0 ∧ u = (X, M0, τ)) (g_pw G) (g_A G)) args s 0 0 (g_A G)) (F0 m 35 ls []) := by
  induction n with
  | zero =>
    intro x2 M hf
    have hf : (none : Option (Int32 × SM)) = _ := hf
    cases hf
  | succ n ih =>
    intro x2 M hf H locs hP hS ls hl
    exact bk_X12_turnOf_35 C0   (fun x2 M => wl_X12_turnOf_35   n x2 M) ih x2 M hf hP hS hl
def fn_X12_turnOf (M : SM) : Option (Int32 × SM) :=
  if ¬ (M 39 0 12) = 0 then
  if g_in ((M 40 0 683) - (M 40 0 683) / (M 39 0 12) * (M 39 0 12)) 16 then
  g_let ((M 50 0 (((M 40 0 683) - (M 40 0 683) / (M 39 0 12) * (M 39 0 12)).toNatClampNeg))) fun x1_3 =>
  if x1_3 < 0 then
  (wl_X12_turnOf_35 1000 1 M)
  else
  ((fn_X12_canTurn x1_3 M).bind fun r_5 =>
    if r_5 = 0 then
    (wl_X12_turnOf_35 1000 1 M)
    else
    (some (x1_3, M)))
  else none
  else none
set_option maxRecDepth 100000 in
set_option maxHeartbeats 4000000 in
theorem wk_X12_turnOf {p : Program} {l : Launch} {e : Env} {s : State} {m : MethodId} {args : Array Value} {below : List Frame} {meth : Method} {c : Code} {G : GP} {X : SM} {τ : SL} (C0 : g_mc p s m args meth c RX12 cX12_turnOf (some .int) 4 G) {r0 : Int32} {M0 : SM} (M : SM) (hf : fn_X12_turnOf M = some (r0, M0)) {H : Heap} {locs : List Loc} (hP : va_P G.1 g_cl (wd G (cb X M) τ) H) (hS : va_S (g_A G) s.heap H locs) {ls : Array Slot} (hl : lv_has ls 4 [(0, .ref (G.2.1 39 0))]) : W p l e rm_X12_turnOf s m args below meth c H locs 0 0 (MQ below (va_Qi (fun r u => r = r0 ∧ u = (X, M0, τ)) (g_pw G) (g_A G)) args s 0 0 (g_A G)) (F0 m 0 ls []) := by
  obtain ⟨hx, hb, hr, hml, hown, hts, hlocks, hC⟩ := id C0
  unfold fn_X12_turnOf at hf
  refine lv_aload_n hx hb dX12_turnOf_0 rfl (lv_at hl 0 rfl) ?_
  refine gt_39_11 hx hb hts hown hC hP Nat.zero_lt_one q7_4 dX12_turnOf_1 ?_
  refine lv_aload_n hx hb dX12_turnOf_4 rfl (lv_at hl 0 rfl) ?_
  refine gt_39_0 hx hb hts hown hC hP Nat.zero_lt_one q6_17 dX12_turnOf_5 ?_
  refine lv_sipush (v := 683) hx hb dX12_turnOf_8 (by decide) ?_
  refine xildM (k := 40) (n := 693) hx hb hC hP (fun _ _ => rfl) rfl Nat.zero_lt_one (by decide) dX12_turnOf_11 ?_
  refine lv_topE (show M 40 0 (Int32.toNatClampNeg 683) = M 40 0 683 from rfl) ?_
  refine lv_aload_n hx hb dX12_turnOf_12 rfl (lv_at hl 0 rfl) ?_
  refine gt_39_12 hx hb hts hown hC hP Nat.zero_lt_one q7_5 dX12_turnOf_13 ?_
  obtain ⟨hg_1, hf⟩ := g_gd hf
  refine lv_irem hx hb dX12_turnOf_16 hg_1 ?_
  obtain ⟨hg_2, hf⟩ := g_gd hf
  refine xildM (k := 50) (n := 16) hx hb hC hP (fun _ _ => rfl) rfl Nat.zero_lt_one hg_2 dX12_turnOf_17 ?_
  obtain ⟨x1_3, ex1_3, hf⟩ := g_letE hf
  refine lv_topE ex1_3 ?_
  refine lv_istore_n (lv' := [(1, .int x1_3), (0, .ref (G.2.1 39 0))]) hx hb dX12_turnOf_18 rfl hl (by decide) rfl (fun ls hl => ?_)
  refine lv_iload_n hx hb dX12_turnOf_19 rfl (lv_at hl 0 rfl) ?_
  refine lv_if_lt (tgt := 33) hx hb dX12_turnOf_20 (by decide) (fun hc_4 => ?_) (fun hc_4 => ?_)
  · have hf := g_pos hf hc_4
    refine lv_iconst (v := 1) hx hb dX12_turnOf_33 (by decide) ?_
    refine lv_istore_n (lv' := [(2, .int 1), (1, .int x1_3), (0, .ref (G.2.1 39 0))]) hx hb dX12_turnOf_34 rfl hl (by decide) rfl (fun ls hl => ?_)
    exact lp_X12_turnOf_35 C0 1000 1 M hf hP hS (lv_sub hl [2, 0] rfl)
  · have hf := g_neg hf hc_4
    refine lv_aload_n hx hb dX12_turnOf_23 rfl (lv_at hl 1 rfl) ?_
    refine lv_iload_n hx hb dX12_turnOf_24 rfl (lv_at hl 0 rfl) ?_
    obtain ⟨r_5, hc_6, hf⟩ := g_bindE hf
    refine x_calli (v := (X, M, τ)) (va_runV (As := [.int x1_3]) (rest := []) ⟨hx, hb, hml, hown, hts⟩ (ct_X12_canTurn l G X M τ x1_3 hc_6) (cwV 1 hts gd_X12_127 rfl rfl rfl hd_X12_canTurn ⟨Nat.le_of_ble_eq_true rfl, Nat.le_of_ble_eq_true rfl⟩) (x_preV (u := (X, M, τ)) (k := 39) (ci := 12) hC hS hP Nat.zero_lt_one rfl rfl) rfl rfl hl.1 rfl (lv_room (Nat.le_of_ble_eq_true rfl)) dX12_turnOf_25 ⟨Nat.zero_le _, Nat.zero_le _⟩) hS (fun H locs hP hS => ?_)
    refine lv_if_eq (tgt := 33) hx hb dX12_turnOf_28 (by decide) (fun hc_7 => ?_) (fun hc_7 => ?_)
    · have hf := g_pos hf hc_7
      refine lv_iconst (v := 1) hx hb dX12_turnOf_33 (by decide) ?_
      refine lv_istore_n (lv' := [(2, .int 1), (1, .int x1_3), (0, .ref (G.2.1 39 0))]) hx hb dX12_turnOf_34 rfl hl (by decide) rfl (fun ls hl => ?_)
      exact lp_X12_turnOf_35 C0 1000 1 M hf hP hS (lv_sub hl [2, 0] rfl)
    · have hf := g_neg hf hc_7
      refine lv_iload_n hx hb dX12_turnOf_31 rfl (lv_at hl 0 rfl) ?_
      cases hf
      exact x_iret hx hb hlocks hC hP hS hr dX12_turnOf_32
set_option maxRecDepth 100000 in
set_option maxHeartbeats 4000000 in
theorem ct_X12_turnOf (l : Launch) (G : GP) (X M : SM) (τ : SL) {r0 : Int32} {M0 : SM} (hf : fn_X12_turnOf M = some (r0, M0)) : Met l yX12_turnOf (wz yX12_turnOf cX12_turnOf 4 (some .int)) rm_X12_turnOf (va_Pc [.ref (G.2.1 39 0)] (g_pw G (X, M, τ))) (va_Qi (fun r u => r = r0 ∧ u = (X, M0, τ)) (g_pw G) (g_A G)) 0 0 (g_A G) := by
  refine Met.ofW (cc := cX12_turnOf) (maxL := 4) (ret := (some .int)) (by decide +kernel) rfl ?_
  intro p e s m args below meth c s₁ B hml hv
  obtain ⟨rfl, hC, hP⟩ := hv
  have C0 : g_mc p s m _ meth c RX12 cX12_turnOf (some .int) 4 G := ⟨B.exec, B.bytes, B.returns, hml, findClass_of_methodNamed B.named, fun w h => atoms_spec (ws := wz yX12_turnOf cX12_turnOf 4 (some .int)) B.pre w (List.mem_cons_of_mem _ h), B.notSynchronized, hC⟩
  have hl := lv_entry ([.ref (G.2.1 39 0)]) (n := 4) (Nat.le_of_ble_eq_true rfl)
  rw [lg_entry_eq]
  generalize (lg_sl ([.ref (G.2.1 39 0)]) ++ List.replicate (4 - (lg_sl ([.ref (G.2.1 39 0)])).length) Slot.unset).toArray = ls at hl ⊢
  exact wk_X12_turnOf C0  M hf hP va_S.rf hl
abbrev rm_X12_reg : Room := { frames := 0, cells := 0, slots := 0, locals := 0 }
def fn_X12_reg (x1 : Int32) (x2 : Int32) (M : SM) : Option (Int32) :=
  if g_in ((0 + (8 * x1)) + x2) 693 then
  some (M 40 0 (((0 + (8 * x1)) + x2).toNatClampNeg))
  else none
set_option maxRecDepth 100000 in
set_option maxHeartbeats 4000000 in
theorem wk_X12_reg {p : Program} {l : Launch} {e : Env} {s : State} {m : MethodId} {args : Array Value} {below : List Frame} {meth : Method} {c : Code} {G : GP} {X : SM} {τ : SL} (C0 : g_mc p s m args meth c RX12 cX12_reg (some .int) 3 G) {r0 : Int32} (x1 : Int32) (x2 : Int32) (M : SM) (hf : fn_X12_reg x1 x2 M = some r0) {H : Heap} {locs : List Loc} (hP : va_P G.1 g_cl (wd G (cb X M) τ) H) (hS : va_S (g_A G) s.heap H locs) {ls : Array Slot} (hl : lv_has ls 3 [(0, .ref (G.2.1 39 0)), (1, .int x1), (2, .int x2)]) : W p l e rm_X12_reg s m args below meth c H locs 0 0 (MQ below (va_Qi (fun r u => r = r0 ∧ u = (X, M, τ)) (g_pw G) (g_A G)) args s 0 0 (g_A G)) (F0 m 0 ls []) := by
  obtain ⟨hx, hb, hr, hml, hown, hts, hlocks, hC⟩ := id C0
  unfold fn_X12_reg at hf
  refine lv_aload_n hx hb dX12_reg_0 rfl (lv_at hl 0 rfl) ?_
  refine gt_39_0 hx hb hts hown hC hP Nat.zero_lt_one q6_17 dX12_reg_1 ?_
  refine lv_iconst (v := 0) hx hb dX12_reg_4 (by decide) ?_
  refine lv_bipush (v := 8) hx hb dX12_reg_5 (by decide) ?_
  refine lv_iload_n hx hb dX12_reg_7 rfl (lv_at hl 1 rfl) ?_
  refine lv_imul hx hb dX12_reg_8 ?_
  refine lv_iadd hx hb dX12_reg_9 ?_
  refine lv_iload_n hx hb dX12_reg_10 rfl (lv_at hl 2 rfl) ?_
  refine lv_iadd hx hb dX12_reg_11 ?_
  obtain ⟨hg_1, hf⟩ := g_gd hf
  refine xildM (k := 40) (n := 693) hx hb hC hP (fun _ _ => rfl) rfl Nat.zero_lt_one hg_1 dX12_reg_12 ?_
  cases hf
  exact x_iret hx hb hlocks hC hP hS hr dX12_reg_13
set_option maxRecDepth 100000 in
set_option maxHeartbeats 4000000 in
theorem ct_X12_reg (l : Launch) (G : GP) (X M : SM) (τ : SL) (x1 : Int32) (x2 : Int32) {r0 : Int32} (hf : fn_X12_reg x1 x2 M = some r0) : Met l yX12_reg (wz yX12_reg cX12_reg 3 (some .int)) rm_X12_reg (va_Pc [.ref (G.2.1 39 0), .int x1, .int x2] (g_pw G (X, M, τ))) (va_Qi (fun r u => r = r0 ∧ u = (X, M, τ)) (g_pw G) (g_A G)) 0 0 (g_A G) := by
  refine Met.ofW (cc := cX12_reg) (maxL := 3) (ret := (some .int)) (by decide +kernel) rfl ?_
  intro p e s m args below meth c s₁ B hml hv
  obtain ⟨rfl, hC, hP⟩ := hv
  have C0 : g_mc p s m _ meth c RX12 cX12_reg (some .int) 3 G := ⟨B.exec, B.bytes, B.returns, hml, findClass_of_methodNamed B.named, fun w h => atoms_spec (ws := wz yX12_reg cX12_reg 3 (some .int)) B.pre w (List.mem_cons_of_mem _ h), B.notSynchronized, hC⟩
  have hl := lv_entry ([.ref (G.2.1 39 0), .int x1, .int x2]) (n := 3) (Nat.le_of_ble_eq_true rfl)
  rw [lg_entry_eq]
  generalize (lg_sl ([.ref (G.2.1 39 0), .int x1, .int x2]) ++ List.replicate (3 - (lg_sl ([.ref (G.2.1 39 0), .int x1, .int x2])).length) Slot.unset).toArray = ls at hl ⊢
  exact wk_X12_reg C0  x1 x2 M hf hP va_S.rf hl
abbrev rm_X12_trapOf : Room := { frames := 1, cells := 0, slots := 0, locals := 23 }
def wb_X12_trapOf_112 (k112 : Int32 → Int32 → Int32 → SM → Option (Int32)) (x1 : Int32) (x3 : Int32) (x5 : Int32) (M : SM) : Option (Int32) :=
  if 6 ≤ x5 then
  (some 0)
  else
  (if x5 = x1 then
    (g_let (x5 + 1) fun x5_36 =>
      k112 x1 x3 x5_36 M)
    else
    (if g_in (438 + x5) 693 then
      if (M 40 0 ((438 + x5).toNatClampNeg)) = 1 then
      (if g_in (480 + x5) 693 then
        (fn_X12_part x5 (M 40 0 ((480 + x5).toNatClampNeg)) 0 M).bind fun r_41 =>
        if r_41 = 11 then
        (if g_in (480 + x5) 693 then
          (fn_X12_part x5 (M 40 0 ((480 + x5).toNatClampNeg)) 1 M).bind fun r_46 =>
          if r_46 = x3 then
          (some 4)
          else
          (g_let (x5 + 1) fun x5_49 =>
            k112 x1 x3 x5_49 M)
          else none)
        else
        (g_let (x5 + 1) fun x5_44 =>
          k112 x1 x3 x5_44 M)
        else none)
      else
      (g_let (x5 + 1) fun x5_39 =>
        k112 x1 x3 x5_39 M)
      else none))
set_option maxRecDepth 100000 in
set_option maxHeartbeats 4000000 in
theorem bk_X12_trapOf_112 {p : Program} {l : Launch} {e : Env} {s : State} {m : MethodId} {args : Array Value} {below : List Frame} {meth : Method} {c : Code} {G : GP} {X : SM} {τ : SL} (C0 : g_mc p s m args meth c RX12 cX12_trapOf (some .int) 6 G) {r0 : Int32} (k112 : Int32 → Int32 → Int32 → SM → Option (Int32)) (hk112 : ∀ (x1 : Int32) (x3 : Int32) (x5 : Int32) (M : SM), k112 x1 x3 x5 M = some r0 → ∀ {H : Heap} {locs : List Loc}, va_P G.1 g_cl (wd G (cb X M) τ) H → va_S (g_A G) s.heap H locs → ∀ {ls : Array Slot}, lv_has ls 6 [(0, .ref (G.2.1 39 0)), (1, .int x1), (3, .int x3), (5, .int x5)] → W p l e rm_X12_trapOf s m args below meth c H locs 0 0 (MQ below (va_Qi (fun r u => r = r0 ∧ u = (X, M, τ)) (g_pw G) (g_A G)) args s 0 0 (g_A G)) (F0 m 112 ls [])) (x1 : Int32) (x3 : Int32) (x5 : Int32) (M : SM) (hf : wb_X12_trapOf_112 k112 x1 x3 x5 M = some r0) {H : Heap} {locs : List Loc} (hP : va_P G.1 g_cl (wd G (cb X M) τ) H) (hS : va_S (g_A G) s.heap H locs) {ls : Array Slot} (hl : lv_has ls 6 [(0, .ref (G.2.1 39 0)), (1, .int x1), (3, .int x3), (5, .int x5)]) : W p l e rm_X12_trapOf s m args below meth c H locs 0 0 (MQ below (va_Qi (fun r u => r = r0 ∧ u = (X, M, τ)) (g_pw G) (g_A G)) args s 0 0 (g_A G)) (F0 m 112 ls []) := by
  obtain ⟨hx, hb, hr, hml, hown, hts, hlocks, hC⟩ := id C0
  unfold wb_X12_trapOf_112 at hf
  refine lv_iload hx hb dX12_trapOf_112 (lv_at hl 3 rfl) ?_
  refine lv_bipush (v := 6) hx hb dX12_trapOf_114 (by decide) ?_
  refine lv_icmp_ge (tgt := 193) hx hb dX12_trapOf_116 (by decide) (fun hc_34 => ?_) (fun hc_34 => ?_)
  · have hf := g_pos hf hc_34
    refine lv_iconst (v := 0) hx hb dX12_trapOf_193 (by decide) ?_
    cases hf
    exact x_iret hx hb hlocks hC hP hS hr dX12_trapOf_194
  · have hf := g_neg hf hc_34
    refine lv_iload hx hb dX12_trapOf_119 (lv_at hl 3 rfl) ?_
    refine lv_iload_n hx hb dX12_trapOf_121 rfl (lv_at hl 1 rfl) ?_
    refine lv_icmp_eq (tgt := 187) hx hb dX12_trapOf_122 (by decide) (fun hc_35 => ?_) (fun hc_35 => ?_)
    · have hf := g_pos hf hc_35
      obtain ⟨x5_36, ex5_36, hf⟩ := g_letE hf
      refine lv_iinc (v := x5_36) (lv' := [(5, .int x5_36), (0, .ref (G.2.1 39 0)), (1, .int x1), (3, .int x3)]) hx hb dX12_trapOf_187 hl (k := 3) rfl (by rw [← ex5_36]; rfl) (by decide) rfl (fun ls hl => ?_)
      refine lv_goto (tgt := 112) hx hb dX12_trapOf_190 (by decide) ?_
      exact hk112 x1 x3 x5_36 M hf hP hS (lv_sub hl [1, 2, 3, 0] rfl)
    · have hf := g_neg hf hc_35
      refine lv_aload_n hx hb dX12_trapOf_125 rfl (lv_at hl 0 rfl) ?_
      refine gt_39_0 hx hb hts hown hC hP Nat.zero_lt_one q6_17 dX12_trapOf_126 ?_
      refine lv_sipush (v := 438) hx hb dX12_trapOf_129 (by decide) ?_
      refine lv_iload hx hb dX12_trapOf_132 (lv_at hl 3 rfl) ?_
      refine lv_iadd hx hb dX12_trapOf_134 ?_
      obtain ⟨hg_37, hf⟩ := g_gd hf
      refine xildM (k := 40) (n := 693) hx hb hC hP (fun _ _ => rfl) rfl Nat.zero_lt_one hg_37 dX12_trapOf_135 ?_
      refine lv_iconst (v := 1) hx hb dX12_trapOf_136 (by decide) ?_
      refine lv_icmp_ne (tgt := 187) hx hb dX12_trapOf_137 (by decide) (fun hc_38 => ?_) (fun hc_38 => ?_)
      · have hf := g_neg hf hc_38
        obtain ⟨x5_39, ex5_39, hf⟩ := g_letE hf
        refine lv_iinc (v := x5_39) (lv' := [(5, .int x5_39), (0, .ref (G.2.1 39 0)), (1, .int x1), (3, .int x3)]) hx hb dX12_trapOf_187 hl (k := 3) rfl (by rw [← ex5_39]; rfl) (by decide) rfl (fun ls hl => ?_)
        refine lv_goto (tgt := 112) hx hb dX12_trapOf_190 (by decide) ?_
        exact hk112 x1 x3 x5_39 M hf hP hS (lv_sub hl [1, 2, 3, 0] rfl)
      · have hf := g_pos hf hc_38
        refine lv_aload_n hx hb dX12_trapOf_140 rfl (lv_at hl 0 rfl) ?_
        refine lv_iload hx hb dX12_trapOf_141 (lv_at hl 3 rfl) ?_
        refine lv_aload_n hx hb dX12_trapOf_143 rfl (lv_at hl 0 rfl) ?_
        refine gt_39_0 hx hb hts hown hC hP Nat.zero_lt_one q6_17 dX12_trapOf_144 ?_
        refine lv_sipush (v := 480) hx hb dX12_trapOf_147 (by decide) ?_
        refine lv_iload hx hb dX12_trapOf_150 (lv_at hl 3 rfl) ?_
        refine lv_iadd hx hb dX12_trapOf_152 ?_
        obtain ⟨hg_40, hf⟩ := g_gd hf
        refine xildM (k := 40) (n := 693) hx hb hC hP (fun _ _ => rfl) rfl Nat.zero_lt_one hg_40 dX12_trapOf_153 ?_
        refine lv_iconst (v := 0) hx hb dX12_trapOf_154 (by decide) ?_
        obtain ⟨r_41, hc_42, hf⟩ := g_bindE hf
        refine x_calli (v := (X, M, τ)) (va_runV (As := [.int x5, .int (M 40 0 ((480 + x5).toNatClampNeg)), .int 0]) (rest := []) ⟨hx, hb, hml, hown, hts⟩ (ct_X12_part l G X M τ x5 (M 40 0 ((480 + x5).toNatClampNeg)) 0 hc_42) (cwV 3 hts gd_X12_115 rfl rfl rfl hd_X12_part ⟨Nat.le_of_ble_eq_true rfl, Nat.le_of_ble_eq_true rfl⟩) (x_preV (u := (X, M, τ)) (k := 39) (ci := 12) hC hS hP Nat.zero_lt_one rfl rfl) rfl rfl hl.1 rfl (lv_room (Nat.le_of_ble_eq_true rfl)) dX12_trapOf_155 ⟨Nat.zero_le _, Nat.zero_le _⟩) hS (fun H locs hP hS => ?_)
        refine lv_bipush (v := 11) hx hb dX12_trapOf_158 (by decide) ?_
        refine lv_icmp_ne (tgt := 187) hx hb dX12_trapOf_160 (by decide) (fun hc_43 => ?_) (fun hc_43 => ?_)
        · have hf := g_neg hf hc_43
          obtain ⟨x5_44, ex5_44, hf⟩ := g_letE hf
          refine lv_iinc (v := x5_44) (lv' := [(5, .int x5_44), (0, .ref (G.2.1 39 0)), (1, .int x1), (3, .int x3)]) hx hb dX12_trapOf_187 hl (k := 3) rfl (by rw [← ex5_44]; rfl) (by decide) rfl (fun ls hl => ?_)
          refine lv_goto (tgt := 112) hx hb dX12_trapOf_190 (by decide) ?_
          exact hk112 x1 x3 x5_44 M hf hP hS (lv_sub hl [1, 2, 3, 0] rfl)
        · have hf := g_pos hf hc_43
          refine lv_aload_n hx hb dX12_trapOf_163 rfl (lv_at hl 0 rfl) ?_
          refine lv_iload hx hb dX12_trapOf_164 (lv_at hl 3 rfl) ?_
          refine lv_aload_n hx hb dX12_trapOf_166 rfl (lv_at hl 0 rfl) ?_
          refine gt_39_0 hx hb hts hown hC hP Nat.zero_lt_one q6_17 dX12_trapOf_167 ?_
          refine lv_sipush (v := 480) hx hb dX12_trapOf_170 (by decide) ?_
          refine lv_iload hx hb dX12_trapOf_173 (lv_at hl 3 rfl) ?_
          refine lv_iadd hx hb dX12_trapOf_175 ?_
          obtain ⟨hg_45, hf⟩ := g_gd hf
          refine xildM (k := 40) (n := 693) hx hb hC hP (fun _ _ => rfl) rfl Nat.zero_lt_one hg_45 dX12_trapOf_176 ?_
          refine lv_iconst (v := 1) hx hb dX12_trapOf_177 (by decide) ?_
          obtain ⟨r_46, hc_47, hf⟩ := g_bindE hf
          refine x_calli (v := (X, M, τ)) (va_runV (As := [.int x5, .int (M 40 0 ((480 + x5).toNatClampNeg)), .int 1]) (rest := []) ⟨hx, hb, hml, hown, hts⟩ (ct_X12_part l G X M τ x5 (M 40 0 ((480 + x5).toNatClampNeg)) 1 hc_47) (cwV 3 hts gd_X12_115 rfl rfl rfl hd_X12_part ⟨Nat.le_of_ble_eq_true rfl, Nat.le_of_ble_eq_true rfl⟩) (x_preV (u := (X, M, τ)) (k := 39) (ci := 12) hC hS hP Nat.zero_lt_one rfl rfl) rfl rfl hl.1 rfl (lv_room (Nat.le_of_ble_eq_true rfl)) dX12_trapOf_178 ⟨Nat.zero_le _, Nat.zero_le _⟩) hS (fun H locs hP hS => ?_)
          refine lv_iload_n hx hb dX12_trapOf_181 rfl (lv_at hl 2 rfl) ?_
          refine lv_icmp_ne (tgt := 187) hx hb dX12_trapOf_182 (by decide) (fun hc_48 => ?_) (fun hc_48 => ?_)
          · have hf := g_neg hf hc_48
            obtain ⟨x5_49, ex5_49, hf⟩ := g_letE hf
            refine lv_iinc (v := x5_49) (lv' := [(5, .int x5_49), (0, .ref (G.2.1 39 0)), (1, .int x1), (3, .int x3)]) hx hb dX12_trapOf_187 hl (k := 3) rfl (by rw [← ex5_49]; rfl) (by decide) rfl (fun ls hl => ?_)
            refine lv_goto (tgt := 112) hx hb dX12_trapOf_190 (by decide) ?_
            exact hk112 x1 x3 x5_49 M hf hP hS (lv_sub hl [1, 2, 3, 0] rfl)
          · have hf := g_pos hf hc_48
            refine lv_iconst (v := 4) hx hb dX12_trapOf_185 (by decide) ?_
            cases hf
            exact x_iret hx hb hlocks hC hP hS hr dX12_trapOf_186
def wl_X12_trapOf_112 (n : Nat) (x1 : Int32) (x3 : Int32) (x5 : Int32) (M : SM) : Option (Int32) := g_loop (α := Int32 × Int32 × Int32 × SM) (fun k a => wb_X12_trapOf_112 (fun x1 x3 x5 M => k (x1, x3, x5, M)) a.1 a.2.1 a.2.2.1 a.2.2.2) n (x1, x3, x5, M)
set_option maxRecDepth 100000 in
set_option maxHeartbeats 4000000 in
theorem lp_X12_trapOf_112 {p : Program} {l : Launch} {e : Env} {s : State} {m : MethodId} {args : Array Value} {below : List Frame} {meth : Method} {c : Code} {G : GP} {X : SM} {τ : SL} (C0 : g_mc p s m args meth c RX12 cX12_trapOf (some .int) 6 G) {r0 : Int32} (n : Nat) : ∀ (x1 : Int32) (x3 : Int32) (x5 : Int32) (M : SM), wl_X12_trapOf_112 n x1 x3 x5 M = some r0 → ∀ {H : Heap} {locs : List Loc}, va_P G.1 g_cl (wd G (cb X M) τ) H → va_S (g_A G) s.heap H locs → ∀ {ls : Array Slot}, lv_has ls 6 [(0, .ref (G.2.1 39 0)), (1, .int x1), (3, .int x3), (5, .int x5)] → W p l e rm_X12_trapOf s m args below meth c H locs 0 0 (MQ below (va_Qi (fun r u => r = r0 ∧ u = (X, M, τ)) (g_pw G) (g_A G)) args s 0 0 (g_A G)) (F0 m 112 ls []) := by
  induction n with
  | zero =>
    intro x1 x3 x5 M hf
    have hf : (none : Option (Int32)) = _ := hf
    cases hf
  | succ n ih =>
    intro x1 x3 x5 M hf H locs hP hS ls hl
    exact bk_X12_trapOf_112 C0   (fun x1 x3 x5 M => wl_X12_trapOf_112   n x1 x3 x5 M) ih x1 x3 x5 M hf hP hS hl
def fn_X12_trapOf (x1 : Int32) (x2 : Int32) (x3 : Int32) (x4 : Int32) (M : SM) : Option (Int32) :=
  if x2 = 5 then
  (if g_in x1 6 then
    if 0 ≤ (M 44 0 (x1.toNatClampNeg)) then
    ((fn_X12_reg x1 x4 M).bind fun r_4 =>
      if g_in x1 6 then
      g_let (fn_X12_within r_4 0 ((M 44 0 (x1.toNatClampNeg)) - 1)) fun r_7 =>
      if r_7 = 0 then
      (some 2)
      else
      (some 0)
      else none)
    else
    (some 1)
    else none)
  else
  (if x2 = 6 then
    (if g_in x1 6 then
      if 0 ≤ (M 44 0 (x1.toNatClampNeg)) then
      ((fn_X12_reg x1 x4 M).bind fun r_28 =>
        if g_in x1 6 then
        g_let (fn_X12_within r_28 0 ((M 44 0 (x1.toNatClampNeg)) - 1)) fun r_31 =>
        if r_31 = 0 then
        (some 2)
        else
        (some 0)
        else none)
      else
      (some 1)
      else none)
    else
    (if x2 = 10 then
      (if g_in x3 8 then
        if (M 46 0 (x3.toNatClampNeg)) = 1 then
        (if x2 = 11 then
          (wl_X12_trapOf_112 1000 x1 x3 0 M)
          else
          (some 0))
        else
        (some 3)
        else none)
      else
      (if x2 = 11 then
        (if g_in x3 8 then
          if (M 46 0 (x3.toNatClampNeg)) = 1 then
          (if x2 = 11 then
            (wl_X12_trapOf_112 1000 x1 x3 0 M)
            else
            (some 0))
          else
          (some 3)
          else none)
        else
        (if x2 = 12 then
          (if g_in x3 8 then
            if (M 46 0 (x3.toNatClampNeg)) = 0 then
            (some 0)
            else
            (some 3)
            else none)
          else
          (if x2 = 13 then
            (if g_in x3 8 then
              if (M 46 0 (x3.toNatClampNeg)) = 0 then
              (some 0)
              else
              (some 3)
              else none)
            else
            (if x2 = 11 then
              (wl_X12_trapOf_112 1000 x1 x3 0 M)
              else
              (some 0)))))))
set_option maxRecDepth 100000 in
set_option maxHeartbeats 4000000 in
theorem wk_X12_trapOf {p : Program} {l : Launch} {e : Env} {s : State} {m : MethodId} {args : Array Value} {below : List Frame} {meth : Method} {c : Code} {G : GP} {X : SM} {τ : SL} (C0 : g_mc p s m args meth c RX12 cX12_trapOf (some .int) 6 G) {r0 : Int32} (x1 : Int32) (x2 : Int32) (x3 : Int32) (x4 : Int32) (M : SM) (hf : fn_X12_trapOf x1 x2 x3 x4 M = some r0) {H : Heap} {locs : List Loc} (hP : va_P G.1 g_cl (wd G (cb X M) τ) H) (hS : va_S (g_A G) s.heap H locs) {ls : Array Slot} (hl : lv_has ls 6 [(0, .ref (G.2.1 39 0)), (1, .int x1), (2, .int x2), (3, .int x3), (4, .int x4)]) : W p l e rm_X12_trapOf s m args below meth c H locs 0 0 (MQ below (va_Qi (fun r u => r = r0 ∧ u = (X, M, τ)) (g_pw G) (g_A G)) args s 0 0 (g_A G)) (F0 m 0 ls []) := by
  obtain ⟨hx, hb, hr, hml, hown, hts, hlocks, hC⟩ := id C0
  unfold fn_X12_trapOf at hf
  refine lv_iload_n hx hb dX12_trapOf_0 rfl (lv_at hl 2 rfl) ?_
  refine lv_iconst (v := 5) hx hb dX12_trapOf_1 (by decide) ?_
  refine lv_icmp_eq (tgt := 11) hx hb dX12_trapOf_2 (by decide) (fun hc_1 => ?_) (fun hc_1 => ?_)
  · have hf := g_pos hf hc_1
    refine lv_aload_n hx hb dX12_trapOf_11 rfl (lv_at hl 0 rfl) ?_
    refine gt_39_4 hx hb hts hown hC hP Nat.zero_lt_one q6_21 dX12_trapOf_12 ?_
    refine lv_iload_n hx hb dX12_trapOf_15 rfl (lv_at hl 1 rfl) ?_
    obtain ⟨hg_2, hf⟩ := g_gd hf
    refine xildM (k := 44) (n := 6) hx hb hC hP (fun _ _ => rfl) rfl Nat.zero_lt_one hg_2 dX12_trapOf_16 ?_
    refine lv_if_ge (tgt := 22) hx hb dX12_trapOf_17 (by decide) (fun hc_3 => ?_) (fun hc_3 => ?_)
    · have hf := g_pos hf hc_3
      refine lv_aload_n hx hb dX12_trapOf_22 rfl (lv_at hl 0 rfl) ?_
      refine lv_iload_n hx hb dX12_trapOf_23 rfl (lv_at hl 1 rfl) ?_
      refine lv_iload hx hb dX12_trapOf_24 (lv_at hl 4 rfl) ?_
      obtain ⟨r_4, hc_5, hf⟩ := g_bindE hf
      refine x_calli (v := (X, M, τ)) (va_runV (As := [.int x1, .int x4]) (rest := []) ⟨hx, hb, hml, hown, hts⟩ (ct_X12_reg l G X M τ x1 x4 hc_5) (cwV 2 hts gd_X12_139 rfl rfl rfl hd_X12_reg ⟨Nat.le_of_ble_eq_true rfl, Nat.le_of_ble_eq_true rfl⟩) (x_preV (u := (X, M, τ)) (k := 39) (ci := 12) hC hS hP Nat.zero_lt_one rfl rfl) rfl rfl hl.1 rfl (lv_room (Nat.le_of_ble_eq_true rfl)) dX12_trapOf_26 ⟨Nat.zero_le _, Nat.zero_le _⟩) hS (fun H locs hP hS => ?_)
      refine lv_iconst (v := 0) hx hb dX12_trapOf_29 (by decide) ?_
      refine lv_aload_n hx hb dX12_trapOf_30 rfl (lv_at hl 0 rfl) ?_
      refine gt_39_4 hx hb hts hown hC hP Nat.zero_lt_one q6_21 dX12_trapOf_31 ?_
      refine lv_iload_n hx hb dX12_trapOf_34 rfl (lv_at hl 1 rfl) ?_
      obtain ⟨hg_6, hf⟩ := g_gd hf
      refine xildM (k := 44) (n := 6) hx hb hC hP (fun _ _ => rfl) rfl Nat.zero_lt_one hg_6 dX12_trapOf_35 ?_
      refine lv_iconst (v := 1) hx hb dX12_trapOf_36 (by decide) ?_
      refine lv_isub hx hb dX12_trapOf_37 ?_
      obtain ⟨r_7, hc_8, hf⟩ := g_letE hf
      refine x_calli (v := (X, M, τ)) (va_runS (As := [.int r_4, .int 0, .int ((M 44 0 (x1.toNatClampNeg)) - 1)]) (rest := []) ⟨hx, hb, hml, hown, hts⟩ (ct_X12_within l G X M τ r_4 0 ((M 44 0 (x1.toNatClampNeg)) - 1) hc_8) (cwS 3 hts gd_X12_76 rfl rfl rfl hd_X12_within ⟨Nat.le_of_ble_eq_true rfl, Nat.le_of_ble_eq_true rfl⟩) (x_pre (u := (X, M, τ)) hC hS hP) rfl rfl hl.1 rfl (lv_room (Nat.le_of_ble_eq_true rfl)) dX12_trapOf_38 ⟨Nat.zero_le _, Nat.zero_le _⟩) hS (fun H locs hP hS => ?_)
      refine lv_if_eq (tgt := 48) hx hb dX12_trapOf_41 (by decide) (fun hc_9 => ?_) (fun hc_9 => ?_)
      · have hf := g_pos hf hc_9
        refine lv_iconst (v := 2) hx hb dX12_trapOf_48 (by decide) ?_
        cases hf
        exact x_iret hx hb hlocks hC hP hS hr dX12_trapOf_49
      · have hf := g_neg hf hc_9
        refine lv_iconst (v := 0) hx hb dX12_trapOf_44 (by decide) ?_
        refine lv_goto (tgt := 49) hx hb dX12_trapOf_45 (by decide) ?_
        cases hf
        exact x_iret hx hb hlocks hC hP hS hr dX12_trapOf_49
    · have hf := g_neg hf hc_3
      refine lv_iconst (v := 1) hx hb dX12_trapOf_20 (by decide) ?_
      cases hf
      exact x_iret hx hb hlocks hC hP hS hr dX12_trapOf_21
  · have hf := g_neg hf hc_1
    refine lv_iload_n hx hb dX12_trapOf_5 rfl (lv_at hl 2 rfl) ?_
    refine lv_bipush (v := 6) hx hb dX12_trapOf_6 (by decide) ?_
    refine lv_icmp_ne (tgt := 50) hx hb dX12_trapOf_8 (by decide) (fun hc_10 => ?_) (fun hc_10 => ?_)
    · have hf := g_neg hf hc_10
      refine lv_iload_n hx hb dX12_trapOf_50 rfl (lv_at hl 2 rfl) ?_
      refine lv_bipush (v := 10) hx hb dX12_trapOf_51 (by decide) ?_
      refine lv_icmp_eq (tgt := 62) hx hb dX12_trapOf_53 (by decide) (fun hc_11 => ?_) (fun hc_11 => ?_)
      · have hf := g_pos hf hc_11
        refine lv_aload_n hx hb dX12_trapOf_62 rfl (lv_at hl 0 rfl) ?_
        refine gt_39_6 hx hb hts hown hC hP Nat.zero_lt_one q7_0 dX12_trapOf_63 ?_
        refine lv_iload_n hx hb dX12_trapOf_66 rfl (lv_at hl 3 rfl) ?_
        obtain ⟨hg_12, hf⟩ := g_gd hf
        refine xildM (k := 46) (n := 8) hx hb hC hP (fun _ _ => rfl) rfl Nat.zero_lt_one hg_12 dX12_trapOf_67 ?_
        refine lv_iconst (v := 1) hx hb dX12_trapOf_68 (by decide) ?_
        refine lv_icmp_eq (tgt := 101) hx hb dX12_trapOf_69 (by decide) (fun hc_13 => ?_) (fun hc_13 => ?_)
        · have hf := g_pos hf hc_13
          refine lv_iload_n hx hb dX12_trapOf_101 rfl (lv_at hl 2 rfl) ?_
          refine lv_bipush (v := 11) hx hb dX12_trapOf_102 (by decide) ?_
          refine lv_icmp_eq (tgt := 109) hx hb dX12_trapOf_104 (by decide) (fun hc_14 => ?_) (fun hc_14 => ?_)
          · have hf := g_pos hf hc_14
            refine lv_iconst (v := 0) hx hb dX12_trapOf_109 (by decide) ?_
            refine lv_istore (lv' := [(5, .int 0), (0, .ref (G.2.1 39 0)), (1, .int x1), (2, .int x2), (3, .int x3), (4, .int x4)]) hx hb dX12_trapOf_110 hl (by decide) rfl (fun ls hl => ?_)
            exact lp_X12_trapOf_112 C0 1000 x1 x3 0 M hf hP hS (lv_sub hl [1, 2, 4, 0] rfl)
          · have hf := g_neg hf hc_14
            refine lv_iconst (v := 0) hx hb dX12_trapOf_107 (by decide) ?_
            cases hf
            exact x_iret hx hb hlocks hC hP hS hr dX12_trapOf_108
        · have hf := g_neg hf hc_13
          refine lv_iconst (v := 3) hx hb dX12_trapOf_72 (by decide) ?_
          cases hf
          exact x_iret hx hb hlocks hC hP hS hr dX12_trapOf_73
      · have hf := g_neg hf hc_11
        refine lv_iload_n hx hb dX12_trapOf_56 rfl (lv_at hl 2 rfl) ?_
        refine lv_bipush (v := 11) hx hb dX12_trapOf_57 (by decide) ?_
        refine lv_icmp_ne (tgt := 74) hx hb dX12_trapOf_59 (by decide) (fun hc_15 => ?_) (fun hc_15 => ?_)
        · have hf := g_neg hf hc_15
          refine lv_iload_n hx hb dX12_trapOf_74 rfl (lv_at hl 2 rfl) ?_
          refine lv_bipush (v := 12) hx hb dX12_trapOf_75 (by decide) ?_
          refine lv_icmp_eq (tgt := 86) hx hb dX12_trapOf_77 (by decide) (fun hc_16 => ?_) (fun hc_16 => ?_)
          · have hf := g_pos hf hc_16
            refine lv_aload_n hx hb dX12_trapOf_86 rfl (lv_at hl 0 rfl) ?_
            refine gt_39_6 hx hb hts hown hC hP Nat.zero_lt_one q7_0 dX12_trapOf_87 ?_
            refine lv_iload_n hx hb dX12_trapOf_90 rfl (lv_at hl 3 rfl) ?_
            obtain ⟨hg_17, hf⟩ := g_gd hf
            refine xildM (k := 46) (n := 8) hx hb hC hP (fun _ _ => rfl) rfl Nat.zero_lt_one hg_17 dX12_trapOf_91 ?_
            refine lv_if_ne (tgt := 99) hx hb dX12_trapOf_92 (by decide) (fun hc_18 => ?_) (fun hc_18 => ?_)
            · have hf := g_neg hf hc_18
              refine lv_iconst (v := 3) hx hb dX12_trapOf_99 (by decide) ?_
              cases hf
              exact x_iret hx hb hlocks hC hP hS hr dX12_trapOf_100
            · have hf := g_pos hf hc_18
              refine lv_iconst (v := 0) hx hb dX12_trapOf_95 (by decide) ?_
              refine lv_goto (tgt := 100) hx hb dX12_trapOf_96 (by decide) ?_
              cases hf
              exact x_iret hx hb hlocks hC hP hS hr dX12_trapOf_100
          · have hf := g_neg hf hc_16
            refine lv_iload_n hx hb dX12_trapOf_80 rfl (lv_at hl 2 rfl) ?_
            refine lv_bipush (v := 13) hx hb dX12_trapOf_81 (by decide) ?_
            refine lv_icmp_ne (tgt := 101) hx hb dX12_trapOf_83 (by decide) (fun hc_19 => ?_) (fun hc_19 => ?_)
            · have hf := g_neg hf hc_19
              refine lv_iload_n hx hb dX12_trapOf_101 rfl (lv_at hl 2 rfl) ?_
              refine lv_bipush (v := 11) hx hb dX12_trapOf_102 (by decide) ?_
              refine lv_icmp_eq (tgt := 109) hx hb dX12_trapOf_104 (by decide) (fun hc_20 => ?_) (fun hc_20 => ?_)
              · have hf := g_pos hf hc_20
                refine lv_iconst (v := 0) hx hb dX12_trapOf_109 (by decide) ?_
                refine lv_istore (lv' := [(5, .int 0), (0, .ref (G.2.1 39 0)), (1, .int x1), (2, .int x2), (3, .int x3), (4, .int x4)]) hx hb dX12_trapOf_110 hl (by decide) rfl (fun ls hl => ?_)
                exact lp_X12_trapOf_112 C0 1000 x1 x3 0 M hf hP hS (lv_sub hl [1, 2, 4, 0] rfl)
              · have hf := g_neg hf hc_20
                refine lv_iconst (v := 0) hx hb dX12_trapOf_107 (by decide) ?_
                cases hf
                exact x_iret hx hb hlocks hC hP hS hr dX12_trapOf_108
            · have hf := g_pos hf hc_19
              refine lv_aload_n hx hb dX12_trapOf_86 rfl (lv_at hl 0 rfl) ?_
              refine gt_39_6 hx hb hts hown hC hP Nat.zero_lt_one q7_0 dX12_trapOf_87 ?_
              refine lv_iload_n hx hb dX12_trapOf_90 rfl (lv_at hl 3 rfl) ?_
              obtain ⟨hg_21, hf⟩ := g_gd hf
              refine xildM (k := 46) (n := 8) hx hb hC hP (fun _ _ => rfl) rfl Nat.zero_lt_one hg_21 dX12_trapOf_91 ?_
              refine lv_if_ne (tgt := 99) hx hb dX12_trapOf_92 (by decide) (fun hc_22 => ?_) (fun hc_22 => ?_)
              · have hf := g_neg hf hc_22
                refine lv_iconst (v := 3) hx hb dX12_trapOf_99 (by decide) ?_
                cases hf
                exact x_iret hx hb hlocks hC hP hS hr dX12_trapOf_100
              · have hf := g_pos hf hc_22
                refine lv_iconst (v := 0) hx hb dX12_trapOf_95 (by decide) ?_
                refine lv_goto (tgt := 100) hx hb dX12_trapOf_96 (by decide) ?_
                cases hf
                exact x_iret hx hb hlocks hC hP hS hr dX12_trapOf_100
        · have hf := g_pos hf hc_15
          refine lv_aload_n hx hb dX12_trapOf_62 rfl (lv_at hl 0 rfl) ?_
          refine gt_39_6 hx hb hts hown hC hP Nat.zero_lt_one q7_0 dX12_trapOf_63 ?_
          refine lv_iload_n hx hb dX12_trapOf_66 rfl (lv_at hl 3 rfl) ?_
          obtain ⟨hg_23, hf⟩ := g_gd hf
          refine xildM (k := 46) (n := 8) hx hb hC hP (fun _ _ => rfl) rfl Nat.zero_lt_one hg_23 dX12_trapOf_67 ?_
          refine lv_iconst (v := 1) hx hb dX12_trapOf_68 (by decide) ?_
          refine lv_icmp_eq (tgt := 101) hx hb dX12_trapOf_69 (by decide) (fun hc_24 => ?_) (fun hc_24 => ?_)
          · have hf := g_pos hf hc_24
            refine lv_iload_n hx hb dX12_trapOf_101 rfl (lv_at hl 2 rfl) ?_
            refine lv_bipush (v := 11) hx hb dX12_trapOf_102 (by decide) ?_
            refine lv_icmp_eq (tgt := 109) hx hb dX12_trapOf_104 (by decide) (fun hc_25 => ?_) (fun hc_25 => ?_)
            · have hf := g_pos hf hc_25
              refine lv_iconst (v := 0) hx hb dX12_trapOf_109 (by decide) ?_
              refine lv_istore (lv' := [(5, .int 0), (0, .ref (G.2.1 39 0)), (1, .int x1), (2, .int x2), (3, .int x3), (4, .int x4)]) hx hb dX12_trapOf_110 hl (by decide) rfl (fun ls hl => ?_)
              exact lp_X12_trapOf_112 C0 1000 x1 x3 0 M hf hP hS (lv_sub hl [1, 2, 4, 0] rfl)
            · have hf := g_neg hf hc_25
              refine lv_iconst (v := 0) hx hb dX12_trapOf_107 (by decide) ?_
              cases hf
              exact x_iret hx hb hlocks hC hP hS hr dX12_trapOf_108
          · have hf := g_neg hf hc_24
            refine lv_iconst (v := 3) hx hb dX12_trapOf_72 (by decide) ?_
            cases hf
            exact x_iret hx hb hlocks hC hP hS hr dX12_trapOf_73
    · have hf := g_pos hf hc_10
      refine lv_aload_n hx hb dX12_trapOf_11 rfl (lv_at hl 0 rfl) ?_
      refine gt_39_4 hx hb hts hown hC hP Nat.zero_lt_one q6_21 dX12_trapOf_12 ?_
      refine lv_iload_n hx hb dX12_trapOf_15 rfl (lv_at hl 1 rfl) ?_
      obtain ⟨hg_26, hf⟩ := g_gd hf
      refine xildM (k := 44) (n := 6) hx hb hC hP (fun _ _ => rfl) rfl Nat.zero_lt_one hg_26 dX12_trapOf_16 ?_
      refine lv_if_ge (tgt := 22) hx hb dX12_trapOf_17 (by decide) (fun hc_27 => ?_) (fun hc_27 => ?_)
      · have hf := g_pos hf hc_27
        refine lv_aload_n hx hb dX12_trapOf_22 rfl (lv_at hl 0 rfl) ?_
        refine lv_iload_n hx hb dX12_trapOf_23 rfl (lv_at hl 1 rfl) ?_
        refine lv_iload hx hb dX12_trapOf_24 (lv_at hl 4 rfl) ?_
        obtain ⟨r_28, hc_29, hf⟩ := g_bindE hf
        refine x_calli (v := (X, M, τ)) (va_runV (As := [.int x1, .int x4]) (rest := []) ⟨hx, hb, hml, hown, hts⟩ (ct_X12_reg l G X M τ x1 x4 hc_29) (cwV 2 hts gd_X12_139 rfl rfl rfl hd_X12_reg ⟨Nat.le_of_ble_eq_true rfl, Nat.le_of_ble_eq_true rfl⟩) (x_preV (u := (X, M, τ)) (k := 39) (ci := 12) hC hS hP Nat.zero_lt_one rfl rfl) rfl rfl hl.1 rfl (lv_room (Nat.le_of_ble_eq_true rfl)) dX12_trapOf_26 ⟨Nat.zero_le _, Nat.zero_le _⟩) hS (fun H locs hP hS => ?_)
        refine lv_iconst (v := 0) hx hb dX12_trapOf_29 (by decide) ?_
        refine lv_aload_n hx hb dX12_trapOf_30 rfl (lv_at hl 0 rfl) ?_
        refine gt_39_4 hx hb hts hown hC hP Nat.zero_lt_one q6_21 dX12_trapOf_31 ?_
        refine lv_iload_n hx hb dX12_trapOf_34 rfl (lv_at hl 1 rfl) ?_
        obtain ⟨hg_30, hf⟩ := g_gd hf
        refine xildM (k := 44) (n := 6) hx hb hC hP (fun _ _ => rfl) rfl Nat.zero_lt_one hg_30 dX12_trapOf_35 ?_
        refine lv_iconst (v := 1) hx hb dX12_trapOf_36 (by decide) ?_
        refine lv_isub hx hb dX12_trapOf_37 ?_
        obtain ⟨r_31, hc_32, hf⟩ := g_letE hf
        refine x_calli (v := (X, M, τ)) (va_runS (As := [.int r_28, .int 0, .int ((M 44 0 (x1.toNatClampNeg)) - 1)]) (rest := []) ⟨hx, hb, hml, hown, hts⟩ (ct_X12_within l G X M τ r_28 0 ((M 44 0 (x1.toNatClampNeg)) - 1) hc_32) (cwS 3 hts gd_X12_76 rfl rfl rfl hd_X12_within ⟨Nat.le_of_ble_eq_true rfl, Nat.le_of_ble_eq_true rfl⟩) (x_pre (u := (X, M, τ)) hC hS hP) rfl rfl hl.1 rfl (lv_room (Nat.le_of_ble_eq_true rfl)) dX12_trapOf_38 ⟨Nat.zero_le _, Nat.zero_le _⟩) hS (fun H locs hP hS => ?_)
        refine lv_if_eq (tgt := 48) hx hb dX12_trapOf_41 (by decide) (fun hc_33 => ?_) (fun hc_33 => ?_)
        · have hf := g_pos hf hc_33
          refine lv_iconst (v := 2) hx hb dX12_trapOf_48 (by decide) ?_
          cases hf
          exact x_iret hx hb hlocks hC hP hS hr dX12_trapOf_49
        · have hf := g_neg hf hc_33
          refine lv_iconst (v := 0) hx hb dX12_trapOf_44 (by decide) ?_
          refine lv_goto (tgt := 49) hx hb dX12_trapOf_45 (by decide) ?_
          cases hf
          exact x_iret hx hb hlocks hC hP hS hr dX12_trapOf_49
      · have hf := g_neg hf hc_27
        refine lv_iconst (v := 1) hx hb dX12_trapOf_20 (by decide) ?_
        cases hf
        exact x_iret hx hb hlocks hC hP hS hr dX12_trapOf_21
set_option maxRecDepth 100000 in
set_option maxHeartbeats 4000000 in
theorem ct_X12_trapOf (l : Launch) (G : GP) (X M : SM) (τ : SL) (x1 : Int32) (x2 : Int32) (x3 : Int32) (x4 : Int32) {r0 : Int32} (hf : fn_X12_trapOf x1 x2 x3 x4 M = some r0) : Met l yX12_trapOf (wz yX12_trapOf cX12_trapOf 6 (some .int)) rm_X12_trapOf (va_Pc [.ref (G.2.1 39 0), .int x1, .int x2, .int x3, .int x4] (g_pw G (X, M, τ))) (va_Qi (fun r u => r = r0 ∧ u = (X, M, τ)) (g_pw G) (g_A G)) 0 0 (g_A G) := by
  refine Met.ofW (cc := cX12_trapOf) (maxL := 6) (ret := (some .int)) (by decide +kernel) rfl ?_
  intro p e s m args below meth c s₁ B hml hv
  obtain ⟨rfl, hC, hP⟩ := hv
  have C0 : g_mc p s m _ meth c RX12 cX12_trapOf (some .int) 6 G := ⟨B.exec, B.bytes, B.returns, hml, findClass_of_methodNamed B.named, fun w h => atoms_spec (ws := wz yX12_trapOf cX12_trapOf 6 (some .int)) B.pre w (List.mem_cons_of_mem _ h), B.notSynchronized, hC⟩
  have hl := lv_entry ([.ref (G.2.1 39 0), .int x1, .int x2, .int x3, .int x4]) (n := 6) (Nat.le_of_ble_eq_true rfl)
  rw [lg_entry_eq]
  generalize (lg_sl ([.ref (G.2.1 39 0), .int x1, .int x2, .int x3, .int x4]) ++ List.replicate (6 - (lg_sl ([.ref (G.2.1 39 0), .int x1, .int x2, .int x3, .int x4])).length) Slot.unset).toArray = ls at hl ⊢
  exact wk_X12_trapOf C0  x1 x2 x3 x4 M hf hP va_S.rf hl
