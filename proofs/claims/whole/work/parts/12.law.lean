/-! the law's helpers: they catch what the class throws -/
theorem x_ofWH {l : Launch} {y : MethodName} {ws ws' : List Cond} {rm : Room} {Pc : Array Value → State → Prop} {Qc : Array Value → State → Outcome → State → Prop} {mc ms : Nat} {free : Addr → Prop} {cc : ByteArray} {maxL : Nat} {ret : Option FieldType} {hh : List (Nat × Nat × Nat × Nat)}
    (hy : plainName y.cls = true) (hw : ws = Cond.codeWith y cc maxL ret hh :: ws')
    (body : ∀ p e s m args below meth c s₁, BodyLoose p l y (headSpec ws rm) cc maxL ret e s m args below meth c s₁ → c.maxLocals = maxL → Pc args s →
      W p l e (headSpec ws rm).room s m args below meth c s.heap [] 0 0 (MQ below Qc args s mc ms free) (entryFrame m args maxL)) : Met l y ws rm Pc Qc mc ms free := by
  refine MetFree.of_bodyS (code := cc) (maxLocals := maxL) (ret := ret) hy ?_ ?_
  · intro args s m h hn
    obtain ⟨m9, meth, c, hn9, h1, h2, h3, h4, -, h5, h6, -⟩ := Cond.codeWith_spec (atoms_spec (ws := ws) h _ (by rw [hw]; exact List.mem_cons_self))
    cases hn.symm.trans hn9
    exact ⟨meth, c, h1, h2, h3, h4, h5, h6⟩
  · intro p e s m args below meth c s₁ B hml hP _
    have hh0 : s₁.heap = s.heap := by rw [B.state]; rfl
    obtain ⟨t, a1, o, b1, b2, b3⟩ := body p e s m args below meth c s₁ B hml hP s₁ hh0 (Stand.of_body B)
    exact ⟨t, o, a1, b1, b2, ⟨b3.1, b3.2⟩⟩
abbrev wzh (y : MethodName) (cc : ByteArray) (n : Nat) (r : Option FieldType) (hh : List (Nat × Nat × Nat × Nat)) : List Cond := .codeWith y cc n r hh :: wsL_law
def hv (r : Option Int32) : Int32 := match r with
  | none => 1
  | some _ => 0
def ht (r : Option Int32) (τ : SL) : SL := match r with
  | none => τ
  | some v => ul1 τ 58 0 (Int32.toNatClampNeg 0) v.toInt64
theorem x_iret6 {p : Program} {l : Launch} {e : Env} {R : Room} {s : State} {m : MethodId} {args : Array Value} {below : List Frame} {meth : Method} {c : Code} {H : Heap} {locs : List Loc} {cc : ByteArray} {pc : Nat} {ls : Array Slot} {G : GP} {X M : SM} {τ : SL} {v : Int32} (hx : p.tables.exec = Jvm.exec) (hb : c.code = cc) (hlocks : meth.locks = false) (hC : g_sc G s) (hP : va_P G.1 g_cl (wd G (cb X M) τ) H) (hS : va_S (g_A G) s.heap H locs) (hr : meth.sig.returnType = some .int) (hdg : decode cc pc = .ok (.ireturn, 1)) : W p l e R s m args below meth c H locs 1 6 (MQ below (va_Qi (fun r u => r = v ∧ u = (X, M, τ)) (g_pw G) (g_A G)) args s 1 6 (g_A G)) (F0 m pc ls [.int v]) :=
  W.iret hx hb hr (fun t ht hW => ⟨⟨v, (X, M, τ), rfl, ⟨rfl, rfl⟩, x_sc hC hS ht hW, by rw [ht]; exact hP⟩, hS.F ht⟩) hS.2.2 hdg hlocks
abbrev rm_L_set : Room := { frames := 9, cells := 1, slots := 6, locals := 144 }
theorem hdl_set : yL_set.cls ≠ "java/lang/invoke/MethodHandle" ∧ yL_set.cls ≠ "java/lang/invoke/VarHandle" ∧ (parseMethodDescriptor yL_set.desc).map (fun d => d.parameters.length) = some 5 := by decide +kernel
theorem gdl_set : GoodIn wsL_law (wsV RL 7 RX11 yX11_set (wz yX11_set cX11_set 5 (some .int))) := wz_V q29_23 q30_0 q30_1 q1_2 q30_2
set_option maxRecDepth 100000 in
set_option maxHeartbeats 4000000 in
theorem ct_L_set (l : Launch) (hlt : l.stackTraces = false) (G : GP) (X M : SM) (τ : SL) (x1 : Int32) (x2 : Int32) (x3 : Int32) {r0 : Option Int32} {X0 : SM} (hf : fn_X11_set x1 x2 x3 X = some (r0, X0)) : Met l yL_set (wzh yL_set cL_set 6 (some .int) [(0, 12, 15, 13)]) rm_L_set (va_Pc [.ref (G.2.1 11 0), .int x1, .int x2, .int x3, .ref (G.2.1 58 0)] (g_pw G (X, M, τ))) (va_Qi (fun r u => r = hv r0 ∧ u = (X0, M, ht r0 τ)) (g_pw G) (g_A G)) 1 6 (g_A G) := by
  refine x_ofWH (cc := cL_set) (maxL := 6) (ret := some .int) (hh := [(0, 12, 15, 13)]) (by decide) rfl ?_
  intro p e s m args below meth c s₁ B hml hv0
  obtain ⟨rfl, hC, hP⟩ := hv0
  have hts0 := atoms_spec (ws := wzh yL_set cL_set 6 (some .int) [(0, 12, 15, 13)]) B.pre
  have htab := vx_table (x := yL_law) B (hts0 _ List.mem_cons_self)
  have hts : ∀ w ∈ wsL_law, w.before _ s = true := fun w h => hts0 w (List.mem_cons_of_mem _ h)
  have hx := B.exec
  have hb := B.bytes
  have hr := B.returns
  have hlocks := B.notSynchronized
  have hown : s.vm.findClass RL = some m.cls := findClass_of_methodNamed B.named
  have hS : va_S (g_A G) s.heap s.heap [] := va_S.rf
  have hl := lv_entry ([.ref (G.2.1 11 0), .int x1, .int x2, .int x3, .ref (G.2.1 58 0)]) (n := 6) (Nat.le_of_ble_eq_true rfl)
  rw [lg_entry_eq]
  generalize (lg_sl ([.ref (G.2.1 11 0), .int x1, .int x2, .int x3, .ref (G.2.1 58 0)]) ++ List.replicate (6 - (lg_sl ([.ref (G.2.1 11 0), .int x1, .int x2, .int x3, .ref (G.2.1 58 0)])).length) Slot.unset).toArray = ls at hl ⊢
  have hl : lv_has ls 6 [(0, .ref (G.2.1 11 0)), (1, .int x1), (2, .int x2), (3, .int x3), (4, .ref (G.2.1 58 0))] := hl
  refine lv_aload hx hb dL_set_0 (lv_at hl 4 rfl) ?_
  refine lv_iconst (v := 0) hx hb dL_set_2 (by decide) ?_
  refine lv_aload_n hx hb dL_set_3 rfl (lv_at hl 0 rfl) ?_
  refine lv_iload_n hx hb dL_set_4 rfl (lv_at hl 1 rfl) ?_
  refine lv_iload_n hx hb dL_set_5 rfl (lv_at hl 2 rfl) ?_
  refine lv_iload_n hx hb dL_set_6 rfl (lv_at hl 3 rfl) ?_
  refine vx_calli (vx_runV (As := [.int x1, .int x2, .int x3]) (rest := [.int 0, .ref (G.2.1 58 0)]) ⟨hx, hb, hml, hown, hts⟩ (ct_X11_set l hlt G X M τ x1 x2 x3 hf) (cwV 3 hts gdl_set rfl rfl rfl hd_X11_set ⟨Nat.le_of_ble_eq_true rfl, Nat.le_of_ble_eq_true rfl⟩) (x_preV (u := (X, M, τ)) (k := 11) (ci := 11) hC hS hP Nat.zero_lt_one rfl rfl) rfl rfl hl.1 rfl (lv_room (Nat.le_of_ble_eq_true rfl)) dL_set_7 ⟨Nat.le_refl _, Nat.le_refl _⟩) hS (fun _ _ h => h) (fun _ h => h) (fun _ _ h => h) (fun E ce q9 u t H1 locs1 ht0 hvm hw hB hz1 hk1 hS1 hce hcv hcl => ?_) (fun r u t H1 locs1 ht0 hvm hw hB hz1 hk1 hS1 => ?_)
  · obtain ⟨rfl, rfl⟩ := hw
    obtain ⟨rfl, hP1⟩ := hB
    rw [ht0] at hP1
    refine vx_catch (own := RL) (name := "java/util/NoSuchElementException") hown [] ⟨0, 12, 15, 13⟩ [] (htab.trans rfl) (fun z h => absurd h List.not_mem_nil) (by decide) (by decide) (hts _ q29_22) (va_Nw.use rfl hC.2.1.2.2.2.2.2.2.2.2.2.2) hce hcv hcl ?_
    refine lv_astore (lv' := [(5, .ref q9), (0, .ref (G.2.1 11 0)), (1, .int x1), (2, .int x2), (3, .int x3), (4, .ref (G.2.1 58 0))]) hx hb dL_set_15 hl (by decide) rfl (fun ls hl => ?_)
    refine lv_iconst (v := 1) hx hb dL_set_17 (by decide) ?_
    exact x_iret6 hx hb hlocks hC hP1 hS1 hr dL_set_18
  · obtain ⟨rfl, rfl⟩ := hw
    have hP1 := hB.2
    rw [ht0] at hP1
    refine lv_i2l hx hb dL_set_10 rfl ?_
    refine xlst (k := 58) (n := 1) hx hb hC hP1 hS1 (fun _ _ => rfl) Nat.zero_lt_one (by decide) dL_set_11 (fun H locs hP hS => ?_)
    refine lv_goto (tgt := 19) hx hb dL_set_12 (by decide) ?_
    refine lv_iconst (v := 0) hx hb dL_set_19 (by decide) ?_
    exact x_iret6 hx hb hlocks hC hP hS hr dL_set_20
abbrev rm_L_register : Room := { frames := 9, cells := 1, slots := 6, locals := 142 }
theorem hdl_register : yL_register.cls ≠ "java/lang/invoke/MethodHandle" ∧ yL_register.cls ≠ "java/lang/invoke/VarHandle" ∧ (parseMethodDescriptor yL_register.desc).map (fun d => d.parameters.length) = some 4 := by decide +kernel
theorem gdl_register : GoodIn wsL_law (wsV RL 15 RX11 yX11_register (wz yX11_register cX11_register 3 (some .int))) := wz_V q30_23 q31_0 q31_1 q1_2 q31_2
set_option maxRecDepth 100000 in
set_option maxHeartbeats 4000000 in
theorem ct_L_register (l : Launch) (hlt : l.stackTraces = false) (G : GP) (X M : SM) (τ : SL) (x1 : Int32) (x2 : Int32) {r0 : Option Int32} (hf : fn_X11_register x1 x2 X = some r0) : Met l yL_register (wzh yL_register cL_register 5 (some .int) [(0, 10, 13, 13)]) rm_L_register (va_Pc [.ref (G.2.1 11 0), .int x1, .int x2, .ref (G.2.1 58 0)] (g_pw G (X, M, τ))) (va_Qi (fun r u => r = hv r0 ∧ u = (X, M, ht r0 τ)) (g_pw G) (g_A G)) 1 6 (g_A G) := by
  refine x_ofWH (cc := cL_register) (maxL := 5) (ret := some .int) (hh := [(0, 10, 13, 13)]) (by decide) rfl ?_
  intro p e s m args below meth c s₁ B hml hv0
  obtain ⟨rfl, hC, hP⟩ := hv0
  have hts0 := atoms_spec (ws := wzh yL_register cL_register 5 (some .int) [(0, 10, 13, 13)]) B.pre
  have htab := vx_table (x := yL_law) B (hts0 _ List.mem_cons_self)
  have hts : ∀ w ∈ wsL_law, w.before _ s = true := fun w h => hts0 w (List.mem_cons_of_mem _ h)
  have hx := B.exec
  have hb := B.bytes
  have hr := B.returns
  have hlocks := B.notSynchronized
  have hown : s.vm.findClass RL = some m.cls := findClass_of_methodNamed B.named
  have hS : va_S (g_A G) s.heap s.heap [] := va_S.rf
  have hl := lv_entry ([.ref (G.2.1 11 0), .int x1, .int x2, .ref (G.2.1 58 0)]) (n := 5) (Nat.le_of_ble_eq_true rfl)
  rw [lg_entry_eq]
  generalize (lg_sl ([.ref (G.2.1 11 0), .int x1, .int x2, .ref (G.2.1 58 0)]) ++ List.replicate (5 - (lg_sl ([.ref (G.2.1 11 0), .int x1, .int x2, .ref (G.2.1 58 0)])).length) Slot.unset).toArray = ls at hl ⊢
  have hl : lv_has ls 5 [(0, .ref (G.2.1 11 0)), (1, .int x1), (2, .int x2), (3, .ref (G.2.1 58 0))] := hl
  refine lv_aload_n hx hb dL_register_0 rfl (lv_at hl 3 rfl) ?_
  refine lv_iconst (v := 0) hx hb dL_register_1 (by decide) ?_
  refine lv_aload_n hx hb dL_register_2 rfl (lv_at hl 0 rfl) ?_
  refine lv_iload_n hx hb dL_register_3 rfl (lv_at hl 1 rfl) ?_
  refine lv_iload_n hx hb dL_register_4 rfl (lv_at hl 2 rfl) ?_
  refine vx_calli (vx_runV (As := [.int x1, .int x2]) (rest := [.int 0, .ref (G.2.1 58 0)]) ⟨hx, hb, hml, hown, hts⟩ (ct_X11_register l hlt G X M τ x1 x2 hf) (cwV 2 hts gdl_register rfl rfl rfl hd_X11_register ⟨Nat.le_of_ble_eq_true rfl, Nat.le_of_ble_eq_true rfl⟩) (x_preV (u := (X, M, τ)) (k := 11) (ci := 11) hC hS hP Nat.zero_lt_one rfl rfl) rfl rfl hl.1 rfl (lv_room (Nat.le_of_ble_eq_true rfl)) dL_register_5 ⟨Nat.le_refl _, Nat.le_refl _⟩) hS (fun _ _ h => h) (fun _ h => h) (fun _ _ h => h) (fun E ce q9 u t H1 locs1 ht0 hvm hw hB hz1 hk1 hS1 hce hcv hcl => ?_) (fun r u t H1 locs1 ht0 hvm hw hB hz1 hk1 hS1 => ?_)
  · obtain ⟨rfl, rfl⟩ := hw
    obtain ⟨rfl, hP1⟩ := hB
    rw [ht0] at hP1
    refine vx_catch (own := RL) (name := "java/util/NoSuchElementException") hown [] ⟨0, 10, 13, 13⟩ [] (htab.trans rfl) (fun z h => absurd h List.not_mem_nil) (by decide) (by decide) (hts _ q29_22) (va_Nw.use rfl hC.2.1.2.2.2.2.2.2.2.2.2.2) hce hcv hcl ?_
    refine lv_astore (lv' := [(4, .ref q9), (0, .ref (G.2.1 11 0)), (1, .int x1), (2, .int x2), (3, .ref (G.2.1 58 0))]) hx hb dL_register_13 hl (by decide) rfl (fun ls hl => ?_)
    refine lv_iconst (v := 1) hx hb dL_register_15 (by decide) ?_
    exact x_iret6 hx hb hlocks hC hP1 hS1 hr dL_register_16
  · obtain ⟨rfl, rfl⟩ := hw
    have hP1 := hB.2
    rw [ht0] at hP1
    refine lv_i2l hx hb dL_register_8 rfl ?_
    refine xlst (k := 58) (n := 1) hx hb hC hP1 hS1 (fun _ _ => rfl) Nat.zero_lt_one (by decide) dL_register_9 (fun H locs hP hS => ?_)
    refine lv_goto (tgt := 17) hx hb dL_register_10 (by decide) ?_
    refine lv_iconst (v := 0) hx hb dL_register_17 (by decide) ?_
    exact x_iret6 hx hb hlocks hC hP hS hr dL_register_18
abbrev rm_L_cell : Room := { frames := 9, cells := 1, slots := 6, locals := 142 }
theorem hdl_cell : yL_cell.cls ≠ "java/lang/invoke/MethodHandle" ∧ yL_cell.cls ≠ "java/lang/invoke/VarHandle" ∧ (parseMethodDescriptor yL_cell.desc).map (fun d => d.parameters.length) = some 4 := by decide +kernel
theorem gdl_cell : GoodIn wsL_law (wsV RL 19 RX11 yX11_cell (wz yX11_cell cX11_cell 3 (some .int))) := wz_V q31_10 q31_11 q31_12 q1_2 q31_13
set_option maxRecDepth 100000 in
set_option maxHeartbeats 4000000 in
theorem ct_L_cell (l : Launch) (hlt : l.stackTraces = false) (G : GP) (X M : SM) (τ : SL) (x1 : Int32) (x2 : Int32) {r0 : Option Int32} (hf : fn_X11_cell x1 x2 X = some r0) : Met l yL_cell (wzh yL_cell cL_cell 5 (some .int) [(0, 10, 13, 13)]) rm_L_cell (va_Pc [.ref (G.2.1 11 0), .int x1, .int x2, .ref (G.2.1 58 0)] (g_pw G (X, M, τ))) (va_Qi (fun r u => r = hv r0 ∧ u = (X, M, ht r0 τ)) (g_pw G) (g_A G)) 1 6 (g_A G) := by
  refine x_ofWH (cc := cL_cell) (maxL := 5) (ret := some .int) (hh := [(0, 10, 13, 13)]) (by decide) rfl ?_
  intro p e s m args below meth c s₁ B hml hv0
  obtain ⟨rfl, hC, hP⟩ := hv0
  have hts0 := atoms_spec (ws := wzh yL_cell cL_cell 5 (some .int) [(0, 10, 13, 13)]) B.pre
  have htab := vx_table (x := yL_law) B (hts0 _ List.mem_cons_self)
  have hts : ∀ w ∈ wsL_law, w.before _ s = true := fun w h => hts0 w (List.mem_cons_of_mem _ h)
  have hx := B.exec
  have hb := B.bytes
  have hr := B.returns
  have hlocks := B.notSynchronized
  have hown : s.vm.findClass RL = some m.cls := findClass_of_methodNamed B.named
  have hS : va_S (g_A G) s.heap s.heap [] := va_S.rf
  have hl := lv_entry ([.ref (G.2.1 11 0), .int x1, .int x2, .ref (G.2.1 58 0)]) (n := 5) (Nat.le_of_ble_eq_true rfl)
  rw [lg_entry_eq]
  generalize (lg_sl ([.ref (G.2.1 11 0), .int x1, .int x2, .ref (G.2.1 58 0)]) ++ List.replicate (5 - (lg_sl ([.ref (G.2.1 11 0), .int x1, .int x2, .ref (G.2.1 58 0)])).length) Slot.unset).toArray = ls at hl ⊢
  have hl : lv_has ls 5 [(0, .ref (G.2.1 11 0)), (1, .int x1), (2, .int x2), (3, .ref (G.2.1 58 0))] := hl
  refine lv_aload_n hx hb dL_cell_0 rfl (lv_at hl 3 rfl) ?_
  refine lv_iconst (v := 0) hx hb dL_cell_1 (by decide) ?_
  refine lv_aload_n hx hb dL_cell_2 rfl (lv_at hl 0 rfl) ?_
  refine lv_iload_n hx hb dL_cell_3 rfl (lv_at hl 1 rfl) ?_
  refine lv_iload_n hx hb dL_cell_4 rfl (lv_at hl 2 rfl) ?_
  refine vx_calli (vx_runV (As := [.int x1, .int x2]) (rest := [.int 0, .ref (G.2.1 58 0)]) ⟨hx, hb, hml, hown, hts⟩ (ct_X11_cell l hlt G X M τ x1 x2 hf) (cwV 2 hts gdl_cell rfl rfl rfl hd_X11_cell ⟨Nat.le_of_ble_eq_true rfl, Nat.le_of_ble_eq_true rfl⟩) (x_preV (u := (X, M, τ)) (k := 11) (ci := 11) hC hS hP Nat.zero_lt_one rfl rfl) rfl rfl hl.1 rfl (lv_room (Nat.le_of_ble_eq_true rfl)) dL_cell_5 ⟨Nat.le_refl _, Nat.le_refl _⟩) hS (fun _ _ h => h) (fun _ h => h) (fun _ _ h => h) (fun E ce q9 u t H1 locs1 ht0 hvm hw hB hz1 hk1 hS1 hce hcv hcl => ?_) (fun r u t H1 locs1 ht0 hvm hw hB hz1 hk1 hS1 => ?_)
  · obtain ⟨rfl, rfl⟩ := hw
    obtain ⟨rfl, hP1⟩ := hB
    rw [ht0] at hP1
    refine vx_catch (own := RL) (name := "java/util/NoSuchElementException") hown [] ⟨0, 10, 13, 13⟩ [] (htab.trans rfl) (fun z h => absurd h List.not_mem_nil) (by decide) (by decide) (hts _ q29_22) (va_Nw.use rfl hC.2.1.2.2.2.2.2.2.2.2.2.2) hce hcv hcl ?_
    refine lv_astore (lv' := [(4, .ref q9), (0, .ref (G.2.1 11 0)), (1, .int x1), (2, .int x2), (3, .ref (G.2.1 58 0))]) hx hb dL_cell_13 hl (by decide) rfl (fun ls hl => ?_)
    refine lv_iconst (v := 1) hx hb dL_cell_15 (by decide) ?_
    exact x_iret6 hx hb hlocks hC hP1 hS1 hr dL_cell_16
  · obtain ⟨rfl, rfl⟩ := hw
    have hP1 := hB.2
    rw [ht0] at hP1
    refine lv_i2l hx hb dL_cell_8 rfl ?_
    refine xlst (k := 58) (n := 1) hx hb hC hP1 hS1 (fun _ _ => rfl) Nat.zero_lt_one (by decide) dL_cell_9 (fun H locs hP hS => ?_)
    refine lv_goto (tgt := 17) hx hb dL_cell_10 (by decide) ?_
    refine lv_iconst (v := 0) hx hb dL_cell_17 (by decide) ?_
    exact x_iret6 hx hb hlocks hC hP hS hr dL_cell_18
abbrev rm_L_code : Room := { frames := 9, cells := 1, slots := 6, locals := 144 }
theorem hdl_code : yL_code.cls ≠ "java/lang/invoke/MethodHandle" ∧ yL_code.cls ≠ "java/lang/invoke/VarHandle" ∧ (parseMethodDescriptor yL_code.desc).map (fun d => d.parameters.length) = some 5 := by decide +kernel
theorem gdl_code : GoodIn wsL_law (wsV RL 22 RX11 yX11_code (wz yX11_code cX11_code 5 (some .int))) := wz_V q31_22 q31_23 q32_0 q1_2 q32_1
set_option maxRecDepth 100000 in
set_option maxHeartbeats 4000000 in
theorem ct_L_code (l : Launch) (hlt : l.stackTraces = false) (G : GP) (X M : SM) (τ : SL) (x1 : Int32) (x2 : Int32) (x3 : Int32) {r0 : Option Int32} (hf : fn_X11_code x1 x2 x3 X = some r0) : Met l yL_code (wzh yL_code cL_code 6 (some .int) [(0, 12, 15, 13)]) rm_L_code (va_Pc [.ref (G.2.1 11 0), .int x1, .int x2, .int x3, .ref (G.2.1 58 0)] (g_pw G (X, M, τ))) (va_Qi (fun r u => r = hv r0 ∧ u = (X, M, ht r0 τ)) (g_pw G) (g_A G)) 1 6 (g_A G) := by
  refine x_ofWH (cc := cL_code) (maxL := 6) (ret := some .int) (hh := [(0, 12, 15, 13)]) (by decide) rfl ?_
  intro p e s m args below meth c s₁ B hml hv0
  obtain ⟨rfl, hC, hP⟩ := hv0
  have hts0 := atoms_spec (ws := wzh yL_code cL_code 6 (some .int) [(0, 12, 15, 13)]) B.pre
  have htab := vx_table (x := yL_law) B (hts0 _ List.mem_cons_self)
  have hts : ∀ w ∈ wsL_law, w.before _ s = true := fun w h => hts0 w (List.mem_cons_of_mem _ h)
  have hx := B.exec
  have hb := B.bytes
  have hr := B.returns
  have hlocks := B.notSynchronized
  have hown : s.vm.findClass RL = some m.cls := findClass_of_methodNamed B.named
  have hS : va_S (g_A G) s.heap s.heap [] := va_S.rf
  have hl := lv_entry ([.ref (G.2.1 11 0), .int x1, .int x2, .int x3, .ref (G.2.1 58 0)]) (n := 6) (Nat.le_of_ble_eq_true rfl)
  rw [lg_entry_eq]
  generalize (lg_sl ([.ref (G.2.1 11 0), .int x1, .int x2, .int x3, .ref (G.2.1 58 0)]) ++ List.replicate (6 - (lg_sl ([.ref (G.2.1 11 0), .int x1, .int x2, .int x3, .ref (G.2.1 58 0)])).length) Slot.unset).toArray = ls at hl ⊢
  have hl : lv_has ls 6 [(0, .ref (G.2.1 11 0)), (1, .int x1), (2, .int x2), (3, .int x3), (4, .ref (G.2.1 58 0))] := hl
  refine lv_aload hx hb dL_code_0 (lv_at hl 4 rfl) ?_
  refine lv_iconst (v := 0) hx hb dL_code_2 (by decide) ?_
  refine lv_aload_n hx hb dL_code_3 rfl (lv_at hl 0 rfl) ?_
  refine lv_iload_n hx hb dL_code_4 rfl (lv_at hl 1 rfl) ?_
  refine lv_iload_n hx hb dL_code_5 rfl (lv_at hl 2 rfl) ?_
  refine lv_iload_n hx hb dL_code_6 rfl (lv_at hl 3 rfl) ?_
  refine vx_calli (vx_runV (As := [.int x1, .int x2, .int x3]) (rest := [.int 0, .ref (G.2.1 58 0)]) ⟨hx, hb, hml, hown, hts⟩ (ct_X11_code l hlt G X M τ x1 x2 x3 hf) (cwV 3 hts gdl_code rfl rfl rfl hd_X11_code ⟨Nat.le_of_ble_eq_true rfl, Nat.le_of_ble_eq_true rfl⟩) (x_preV (u := (X, M, τ)) (k := 11) (ci := 11) hC hS hP Nat.zero_lt_one rfl rfl) rfl rfl hl.1 rfl (lv_room (Nat.le_of_ble_eq_true rfl)) dL_code_7 ⟨Nat.le_refl _, Nat.le_refl _⟩) hS (fun _ _ h => h) (fun _ h => h) (fun _ _ h => h) (fun E ce q9 u t H1 locs1 ht0 hvm hw hB hz1 hk1 hS1 hce hcv hcl => ?_) (fun r u t H1 locs1 ht0 hvm hw hB hz1 hk1 hS1 => ?_)
  · obtain ⟨rfl, rfl⟩ := hw
    obtain ⟨rfl, hP1⟩ := hB
    rw [ht0] at hP1
    refine vx_catch (own := RL) (name := "java/util/NoSuchElementException") hown [] ⟨0, 12, 15, 13⟩ [] (htab.trans rfl) (fun z h => absurd h List.not_mem_nil) (by decide) (by decide) (hts _ q29_22) (va_Nw.use rfl hC.2.1.2.2.2.2.2.2.2.2.2.2) hce hcv hcl ?_
    refine lv_astore (lv' := [(5, .ref q9), (0, .ref (G.2.1 11 0)), (1, .int x1), (2, .int x2), (3, .int x3), (4, .ref (G.2.1 58 0))]) hx hb dL_code_15 hl (by decide) rfl (fun ls hl => ?_)
    refine lv_iconst (v := 1) hx hb dL_code_17 (by decide) ?_
    exact x_iret6 hx hb hlocks hC hP1 hS1 hr dL_code_18
  · obtain ⟨rfl, rfl⟩ := hw
    have hP1 := hB.2
    rw [ht0] at hP1
    refine lv_i2l hx hb dL_code_10 rfl ?_
    refine xlst (k := 58) (n := 1) hx hb hC hP1 hS1 (fun _ _ => rfl) Nat.zero_lt_one (by decide) dL_code_11 (fun H locs hP hS => ?_)
    refine lv_goto (tgt := 19) hx hb dL_code_12 (by decide) ?_
    refine lv_iconst (v := 0) hx hb dL_code_19 (by decide) ?_
    exact x_iret6 hx hb hlocks hC hP hS hr dL_code_20
abbrev rm_L_ahead : Room := { frames := 9, cells := 1, slots := 6, locals := 172 }
theorem hdl_ahead : yL_ahead.cls ≠ "java/lang/invoke/MethodHandle" ∧ yL_ahead.cls ≠ "java/lang/invoke/VarHandle" ∧ (parseMethodDescriptor yL_ahead.desc).map (fun d => d.parameters.length) = some 5 := by decide +kernel
theorem gdl_ahead : GoodIn wsL_law (wsV RL 25 RX11 yX11_ahead (wz yX11_ahead cX11_ahead 5 (some .int))) := wz_V q43_10 q43_11 q43_12 q1_2 q43_13
set_option maxRecDepth 100000 in
set_option maxHeartbeats 4000000 in
theorem ct_L_ahead (l : Launch) (hlt : l.stackTraces = false) (G : GP) (X M : SM) (τ : SL) (x1 : Int32) (x2 : Int32) (x3 : Int32) {r0 : Option Int32} {X0 : SM} (hf : fn_X11_ahead x1 x2 x3 X = some (r0, X0)) : Met l yL_ahead (wzh yL_ahead cL_ahead 6 (some .int) [(0, 12, 15, 13)]) rm_L_ahead (va_Pc [.ref (G.2.1 11 0), .int x1, .int x2, .int x3, .ref (G.2.1 58 0)] (g_pw G (X, M, τ))) (va_Qi (fun r u => r = hv r0 ∧ u = (X0, M, ht r0 τ)) (g_pw G) (g_A G)) 1 6 (g_A G) := by
  refine x_ofWH (cc := cL_ahead) (maxL := 6) (ret := some .int) (hh := [(0, 12, 15, 13)]) (by decide) rfl ?_
  intro p e s m args below meth c s₁ B hml hv0
  obtain ⟨rfl, hC, hP⟩ := hv0
  have hts0 := atoms_spec (ws := wzh yL_ahead cL_ahead 6 (some .int) [(0, 12, 15, 13)]) B.pre
  have htab := vx_table (x := yL_law) B (hts0 _ List.mem_cons_self)
  have hts : ∀ w ∈ wsL_law, w.before _ s = true := fun w h => hts0 w (List.mem_cons_of_mem _ h)
  have hx := B.exec
  have hb := B.bytes
  have hr := B.returns
  have hlocks := B.notSynchronized
  have hown : s.vm.findClass RL = some m.cls := findClass_of_methodNamed B.named
  have hS : va_S (g_A G) s.heap s.heap [] := va_S.rf
  have hl := lv_entry ([.ref (G.2.1 11 0), .int x1, .int x2, .int x3, .ref (G.2.1 58 0)]) (n := 6) (Nat.le_of_ble_eq_true rfl)
  rw [lg_entry_eq]
  generalize (lg_sl ([.ref (G.2.1 11 0), .int x1, .int x2, .int x3, .ref (G.2.1 58 0)]) ++ List.replicate (6 - (lg_sl ([.ref (G.2.1 11 0), .int x1, .int x2, .int x3, .ref (G.2.1 58 0)])).length) Slot.unset).toArray = ls at hl ⊢
  have hl : lv_has ls 6 [(0, .ref (G.2.1 11 0)), (1, .int x1), (2, .int x2), (3, .int x3), (4, .ref (G.2.1 58 0))] := hl
  refine lv_aload hx hb dL_ahead_0 (lv_at hl 4 rfl) ?_
  refine lv_iconst (v := 0) hx hb dL_ahead_2 (by decide) ?_
  refine lv_aload_n hx hb dL_ahead_3 rfl (lv_at hl 0 rfl) ?_
  refine lv_iload_n hx hb dL_ahead_4 rfl (lv_at hl 1 rfl) ?_
  refine lv_iload_n hx hb dL_ahead_5 rfl (lv_at hl 2 rfl) ?_
  refine lv_iload_n hx hb dL_ahead_6 rfl (lv_at hl 3 rfl) ?_
  refine vx_calli (vx_runV (As := [.int x1, .int x2, .int x3]) (rest := [.int 0, .ref (G.2.1 58 0)]) ⟨hx, hb, hml, hown, hts⟩ (ct_X11_ahead l hlt G X M τ x1 x2 x3 hf) (cwV 3 hts gdl_ahead rfl rfl rfl hd_X11_ahead ⟨Nat.le_of_ble_eq_true rfl, Nat.le_of_ble_eq_true rfl⟩) (x_preV (u := (X, M, τ)) (k := 11) (ci := 11) hC hS hP Nat.zero_lt_one rfl rfl) rfl rfl hl.1 rfl (lv_room (Nat.le_of_ble_eq_true rfl)) dL_ahead_7 ⟨Nat.le_refl _, Nat.le_refl _⟩) hS (fun _ _ h => h) (fun _ h => h) (fun _ _ h => h) (fun E ce q9 u t H1 locs1 ht0 hvm hw hB hz1 hk1 hS1 hce hcv hcl => ?_) (fun r u t H1 locs1 ht0 hvm hw hB hz1 hk1 hS1 => ?_)
  · obtain ⟨rfl, rfl⟩ := hw
    obtain ⟨rfl, hP1⟩ := hB
    rw [ht0] at hP1
    refine vx_catch (own := RL) (name := "java/util/NoSuchElementException") hown [] ⟨0, 12, 15, 13⟩ [] (htab.trans rfl) (fun z h => absurd h List.not_mem_nil) (by decide) (by decide) (hts _ q29_22) (va_Nw.use rfl hC.2.1.2.2.2.2.2.2.2.2.2.2) hce hcv hcl ?_
    refine lv_astore (lv' := [(5, .ref q9), (0, .ref (G.2.1 11 0)), (1, .int x1), (2, .int x2), (3, .int x3), (4, .ref (G.2.1 58 0))]) hx hb dL_ahead_15 hl (by decide) rfl (fun ls hl => ?_)
    refine lv_iconst (v := 1) hx hb dL_ahead_17 (by decide) ?_
    exact x_iret6 hx hb hlocks hC hP1 hS1 hr dL_ahead_18
  · obtain ⟨rfl, rfl⟩ := hw
    have hP1 := hB.2
    rw [ht0] at hP1
    refine lv_i2l hx hb dL_ahead_10 rfl ?_
    refine xlst (k := 58) (n := 1) hx hb hC hP1 hS1 (fun _ _ => rfl) Nat.zero_lt_one (by decide) dL_ahead_11 (fun H locs hP hS => ?_)
    refine lv_goto (tgt := 19) hx hb dL_ahead_12 (by decide) ?_
    refine lv_iconst (v := 0) hx hb dL_ahead_19 (by decide) ?_
    exact x_iret6 hx hb hlocks hC hP hS hr dL_ahead_20
