theorem hdc_X4 : yX4_init.cls ≠ "java/lang/invoke/MethodHandle" ∧ yX4_init.cls ≠ "java/lang/invoke/VarHandle" ∧ (parseMethodDescriptor yX4_init.desc).map (fun d => d.parameters.length) = some 0 := by decide +kernel
abbrev S_X4 : Type := (Nat → Nat)
def nw_X4 (cy : Nat → ClassId) (u : S_X4)  : va_W := [] ++ ([] : va_W)
abbrev rm_c4 : Room := { frames := 1, cells := 0, slots := 0, locals := 20 }
set_option maxRecDepth 100000 in
set_option maxHeartbeats 4000000 in
theorem cc_X4 (l : Launch) (D : va_G) (cy : Nat → ClassId) (z0 : Nat) (ws : va_W) (k0 h0 : Nat)  (h0e : ws[k0]? = some (h0, .inr (4, [.int 0, .int 0, .int 0, .int 0, .int 0]))) : Met l yX4_init (wz yX4_init cX4_init 1 none) rm_c4 (va_Pc [.ref h0] (c_pre D cy z0 ws)) (va_Qv (fun _ : S_X4 => True) (fun u t => va_P D g_cl (ws.set k0 (h0, .inr (4, [.int 0, .int 0, .int 0, .int 0, .int 0])) ++ nw_X4 cy u ) t.heap ∧ va_D (fun q => z0 ≤ q) (ws.set k0 (h0, .inr (4, [.int 0, .int 0, .int 0, .int 0, .int 0])) ++ nw_X4 cy u )) (fun q => z0 ≤ q)) 0 0 (fun q => z0 ≤ q) := by
  refine Met.ofW (cc := cX4_init) (maxL := 1) (ret := none) (by decide) rfl ?_
  intro p e s m args below meth c s₁ B hml hv
  obtain ⟨rfl, hCs, hP, hD, hz⟩ := hv
  have hx := B.exec
  have hb := B.bytes
  have hr := B.returns
  have hts : ∀ w ∈ wsL_law, w.before _ s = true := fun w h => atoms_spec (ws := wz yX4_init cX4_init 1 none) B.pre w (List.mem_cons_of_mem _ h)
  have hown : s.vm.findClass RX4 = some m.cls := findClass_of_methodNamed B.named
  have hlocks := B.notSynchronized
  have hin : meth.name = "<init>" := (name_of_methodNamed B.named B.method).1
  have hK := hCs.1
  have hA : ∀ q, s.heap.size ≤ q → (fun q => z0 ≤ q) q := fun q h => Nat.le_trans hz h
  have hS : va_S (fun q => z0 ≤ q) s.heap s.heap [] := va_S.rf
  have hl := lv_entry ([.ref h0]) (n := 1) (Nat.le_of_ble_eq_true rfl)
  rw [lg_entry_eq]
  generalize (lg_sl ([.ref h0]) ++ List.replicate (1 - (lg_sl ([.ref h0])).length) Slot.unset).toArray = ls at hl ⊢
  have hl : lv_has ls 1 [(0, .ref h0)] := hl
  have hP : va_P D g_cl ((ws.set k0 (h0, .inr (4, [.int 0, .int 0, .int 0, .int 0, .int 0])) ++ []) ++ ([] : va_W)) s.heap := by rw [c_same h0e, List.append_nil, List.append_nil]; exact hP
  have hD : va_D (fun q => z0 ≤ q) ((ws.set k0 (h0, .inr (4, [.int 0, .int 0, .int 0, .int 0, .int 0])) ++ []) ++ ([] : va_W)) := by rw [c_same h0e, List.append_nil, List.append_nil]; exact hD
  refine lv_aload_n hx hb dX4_init_0 rfl (lv_at hl 0 rfl) ?_
  refine W.objInit hx hb hown (hts _ q6_2) (hts _ q1_11) (hts _ q1_12) rfl (by rw [hml]; exact hl.1) rfl dX4_init_1 (Nat.le_of_ble_eq_true rfl) (Nat.le_of_ble_eq_true rfl) ?_
  refine W.eq (g2 := F0 m 4 ls []) rfl ?_
  exact W.vret hx hb hr (fun t ht hW => ⟨⟨(fun k => ([] : List Nat).getD k 0), rfl, trivial, by show va_P D g_cl _ t.heap; rw [ht]; unfold nw_X4; rw [← List.append_assoc]; exact hP, by unfold nw_X4; rw [← List.append_assoc]; exact hD⟩, hS.F ht⟩) hS.2.2 dX4_init_4 hlocks
theorem hdc_X1 : yX1_init.cls ≠ "java/lang/invoke/MethodHandle" ∧ yX1_init.cls ≠ "java/lang/invoke/VarHandle" ∧ (parseMethodDescriptor yX1_init.desc).map (fun d => d.parameters.length) = some 0 := by decide +kernel
abbrev S_X1 : Type := (Nat → Nat)
def nw_X1 (cy : Nat → ClassId) (u : S_X1)  : va_W := [((u 0), .inl (cy 0, 24, .inl (fun _ => 0))), ((u 1), .inl (cy 0, 24, .inl (fun _ => 0))), ((u 2), .inl (cy 0, 24, .inl (fun _ => 0))), ((u 3), .inl (cy 0, 24, .inl (fun _ => 0)))] ++ ([] : va_W)
abbrev rm_c1 : Room := { frames := 1, cells := 4, slots := 96, locals := 20 }
set_option maxRecDepth 100000 in
set_option maxHeartbeats 4000000 in
theorem cc_X1 (l : Launch) (D : va_G) (cy : Nat → ClassId) (z0 : Nat) (ws : va_W) (k0 h0 : Nat)  (h0e : ws[k0]? = some (h0, .inr (1, [.null, .null, .null, .null, .int 0]))) : Met l yX1_init (wz yX1_init cX1_init 1 none) rm_c1 (va_Pc [.ref h0] (c_pre D cy z0 ws)) (va_Qv (fun _ : S_X1 => True) (fun u t => va_P D g_cl (ws.set k0 (h0, .inr (1, [.ref (u 0), .ref (u 1), .ref (u 2), .ref (u 3), .int 0])) ++ nw_X1 cy u ) t.heap ∧ va_D (fun q => z0 ≤ q) (ws.set k0 (h0, .inr (1, [.ref (u 0), .ref (u 1), .ref (u 2), .ref (u 3), .int 0])) ++ nw_X1 cy u )) (fun q => z0 ≤ q)) 4 96 (fun q => z0 ≤ q) := by
  refine Met.ofW (cc := cX1_init) (maxL := 1) (ret := none) (by decide) rfl ?_
  intro p e s m args below meth c s₁ B hml hv
  obtain ⟨rfl, hCs, hP, hD, hz⟩ := hv
  have hx := B.exec
  have hb := B.bytes
  have hr := B.returns
  have hts : ∀ w ∈ wsL_law, w.before _ s = true := fun w h => atoms_spec (ws := wz yX1_init cX1_init 1 none) B.pre w (List.mem_cons_of_mem _ h)
  have hown : s.vm.findClass RX1 = some m.cls := findClass_of_methodNamed B.named
  have hlocks := B.notSynchronized
  have hin : meth.name = "<init>" := (name_of_methodNamed B.named B.method).1
  have hK := hCs.1
  have hA : ∀ q, s.heap.size ≤ q → (fun q => z0 ≤ q) q := fun q h => Nat.le_trans hz h
  have hS : va_S (fun q => z0 ≤ q) s.heap s.heap [] := va_S.rf
  have hl := lv_entry ([.ref h0]) (n := 1) (Nat.le_of_ble_eq_true rfl)
  rw [lg_entry_eq]
  generalize (lg_sl ([.ref h0]) ++ List.replicate (1 - (lg_sl ([.ref h0])).length) Slot.unset).toArray = ls at hl ⊢
  have hl : lv_has ls 1 [(0, .ref h0)] := hl
  have hP : va_P D g_cl ((ws.set k0 (h0, .inr (1, [.null, .null, .null, .null, .int 0])) ++ []) ++ ([] : va_W)) s.heap := by rw [c_same h0e, List.append_nil, List.append_nil]; exact hP
  have hD : va_D (fun q => z0 ≤ q) ((ws.set k0 (h0, .inr (1, [.null, .null, .null, .null, .int 0])) ++ []) ++ ([] : va_W)) := by rw [c_same h0e, List.append_nil, List.append_nil]; exact hD
  refine lv_aload_n hx hb dX1_init_0 rfl (lv_at hl 0 rfl) ?_
  refine W.objInit hx hb hown (hts _ q5_19) (hts _ q1_11) (hts _ q1_12) rfl (by rw [hml]; exact hl.1) rfl dX1_init_1 (Nat.le_of_ble_eq_true rfl) (Nat.le_of_ble_eq_true rfl) ?_
  refine W.eq (g2 := F0 m 4 ls []) rfl ?_
  refine lv_aload_n hx hb dX1_init_4 rfl (lv_at hl 0 rfl) ?_
  refine lv_bipush (v := 24) hx hb dX1_init_5 (by decide) ?_
  refine c_newi (N := 24) hx hb hts hK hP hD hS hA (by decide) (by decide) (by decide) (Nat.le_of_ble_eq_true rfl) (Nat.le_of_ble_eq_true rfl) dX1_init_7 (fun q1 H hP hD hS => ?_)
  have hP := hP.swap
  have hD := hD.swap
  rw [c_as] at hP hD
  have hP : va_P D g_cl ((ws.set k0 (h0, .inr (1, [.null, .null, .null, .null, .int 0])) ++ [(q1, .inl (cy 0, 24, .inl (fun _ => 0)))]) ++ ([] : va_W)) H := hP
  have hD : va_D (fun q => z0 ≤ q) ((ws.set k0 (h0, .inr (1, [.null, .null, .null, .null, .int 0])) ++ [(q1, .inl (cy 0, 24, .inl (fun _ => 0)))]) ++ ([] : va_W)) := hD
  refine va_putF (D := D) (ci := 1) (v := .ref q1) (ty := tyX1 0) (C := RX1) (T := TX1) (N := 5) hx hb hts inlX1 tyX1 tyX1_ok nmX1 hown hK hP hD hS k0 (c_thisZ h0e) rfl 0 (by decide) (hts _ q5_20) (fun _ h => h) rfl hin rfl (tyX1_ok 0 (by decide)) rfl rfl (Nat.le_of_ble_eq_true rfl) dX1_init_9 (fun H locs hP hD hS => ?_)
  rw [c_setTZ h0e] at hP hD
  have hP : va_P D g_cl ((ws.set k0 (h0, .inr (1, [.ref q1, .null, .null, .null, .int 0])) ++ [(q1, .inl (cy 0, 24, .inl (fun _ => 0)))]) ++ ([] : va_W)) H := hP
  have hD : va_D (fun q => z0 ≤ q) ((ws.set k0 (h0, .inr (1, [.ref q1, .null, .null, .null, .int 0])) ++ [(q1, .inl (cy 0, 24, .inl (fun _ => 0)))]) ++ ([] : va_W)) := hD
  refine lv_aload_n hx hb dX1_init_12 rfl (lv_at hl 0 rfl) ?_
  refine lv_bipush (v := 24) hx hb dX1_init_13 (by decide) ?_
  refine c_newi (N := 24) hx hb hts hK hP hD hS hA (by decide) (by decide) (by decide) (Nat.le_of_ble_eq_true rfl) (Nat.le_of_ble_eq_true rfl) dX1_init_15 (fun q2 H hP hD hS => ?_)
  have hP := hP.swap
  have hD := hD.swap
  rw [c_as] at hP hD
  have hP : va_P D g_cl ((ws.set k0 (h0, .inr (1, [.ref q1, .null, .null, .null, .int 0])) ++ [(q1, .inl (cy 0, 24, .inl (fun _ => 0))), (q2, .inl (cy 0, 24, .inl (fun _ => 0)))]) ++ ([] : va_W)) H := hP
  have hD : va_D (fun q => z0 ≤ q) ((ws.set k0 (h0, .inr (1, [.ref q1, .null, .null, .null, .int 0])) ++ [(q1, .inl (cy 0, 24, .inl (fun _ => 0))), (q2, .inl (cy 0, 24, .inl (fun _ => 0)))]) ++ ([] : va_W)) := hD
  refine va_putF (D := D) (ci := 1) (v := .ref q2) (ty := tyX1 1) (C := RX1) (T := TX1) (N := 5) hx hb hts inlX1 tyX1 tyX1_ok nmX1 hown hK hP hD hS k0 (c_thisZ h0e) rfl 1 (by decide) (hts _ q5_21) (fun _ h => h) rfl hin rfl (tyX1_ok 1 (by decide)) rfl rfl (Nat.le_of_ble_eq_true rfl) dX1_init_17 (fun H locs hP hD hS => ?_)
  rw [c_setTZ h0e] at hP hD
  have hP : va_P D g_cl ((ws.set k0 (h0, .inr (1, [.ref q1, .ref q2, .null, .null, .int 0])) ++ [(q1, .inl (cy 0, 24, .inl (fun _ => 0))), (q2, .inl (cy 0, 24, .inl (fun _ => 0)))]) ++ ([] : va_W)) H := hP
  have hD : va_D (fun q => z0 ≤ q) ((ws.set k0 (h0, .inr (1, [.ref q1, .ref q2, .null, .null, .int 0])) ++ [(q1, .inl (cy 0, 24, .inl (fun _ => 0))), (q2, .inl (cy 0, 24, .inl (fun _ => 0)))]) ++ ([] : va_W)) := hD
  refine lv_aload_n hx hb dX1_init_20 rfl (lv_at hl 0 rfl) ?_
  refine lv_bipush (v := 24) hx hb dX1_init_21 (by decide) ?_
  refine c_newi (N := 24) hx hb hts hK hP hD hS hA (by decide) (by decide) (by decide) (Nat.le_of_ble_eq_true rfl) (Nat.le_of_ble_eq_true rfl) dX1_init_23 (fun q3 H hP hD hS => ?_)
  have hP := hP.swap
  have hD := hD.swap
  rw [c_as] at hP hD
  have hP : va_P D g_cl ((ws.set k0 (h0, .inr (1, [.ref q1, .ref q2, .null, .null, .int 0])) ++ [(q1, .inl (cy 0, 24, .inl (fun _ => 0))), (q2, .inl (cy 0, 24, .inl (fun _ => 0))), (q3, .inl (cy 0, 24, .inl (fun _ => 0)))]) ++ ([] : va_W)) H := hP
  have hD : va_D (fun q => z0 ≤ q) ((ws.set k0 (h0, .inr (1, [.ref q1, .ref q2, .null, .null, .int 0])) ++ [(q1, .inl (cy 0, 24, .inl (fun _ => 0))), (q2, .inl (cy 0, 24, .inl (fun _ => 0))), (q3, .inl (cy 0, 24, .inl (fun _ => 0)))]) ++ ([] : va_W)) := hD
  refine va_putF (D := D) (ci := 1) (v := .ref q3) (ty := tyX1 2) (C := RX1) (T := TX1) (N := 5) hx hb hts inlX1 tyX1 tyX1_ok nmX1 hown hK hP hD hS k0 (c_thisZ h0e) rfl 2 (by decide) (hts _ q5_22) (fun _ h => h) rfl hin rfl (tyX1_ok 2 (by decide)) rfl rfl (Nat.le_of_ble_eq_true rfl) dX1_init_25 (fun H locs hP hD hS => ?_)
  rw [c_setTZ h0e] at hP hD
  have hP : va_P D g_cl ((ws.set k0 (h0, .inr (1, [.ref q1, .ref q2, .ref q3, .null, .int 0])) ++ [(q1, .inl (cy 0, 24, .inl (fun _ => 0))), (q2, .inl (cy 0, 24, .inl (fun _ => 0))), (q3, .inl (cy 0, 24, .inl (fun _ => 0)))]) ++ ([] : va_W)) H := hP
  have hD : va_D (fun q => z0 ≤ q) ((ws.set k0 (h0, .inr (1, [.ref q1, .ref q2, .ref q3, .null, .int 0])) ++ [(q1, .inl (cy 0, 24, .inl (fun _ => 0))), (q2, .inl (cy 0, 24, .inl (fun _ => 0))), (q3, .inl (cy 0, 24, .inl (fun _ => 0)))]) ++ ([] : va_W)) := hD
  refine lv_aload_n hx hb dX1_init_28 rfl (lv_at hl 0 rfl) ?_
  refine lv_bipush (v := 24) hx hb dX1_init_29 (by decide) ?_
  refine c_newi (N := 24) hx hb hts hK hP hD hS hA (by decide) (by decide) (by decide) (Nat.le_of_ble_eq_true rfl) (Nat.le_of_ble_eq_true rfl) dX1_init_31 (fun q4 H hP hD hS => ?_)
  have hP := hP.swap
  have hD := hD.swap
  rw [c_as] at hP hD
  have hP : va_P D g_cl ((ws.set k0 (h0, .inr (1, [.ref q1, .ref q2, .ref q3, .null, .int 0])) ++ [(q1, .inl (cy 0, 24, .inl (fun _ => 0))), (q2, .inl (cy 0, 24, .inl (fun _ => 0))), (q3, .inl (cy 0, 24, .inl (fun _ => 0))), (q4, .inl (cy 0, 24, .inl (fun _ => 0)))]) ++ ([] : va_W)) H := hP
  have hD : va_D (fun q => z0 ≤ q) ((ws.set k0 (h0, .inr (1, [.ref q1, .ref q2, .ref q3, .null, .int 0])) ++ [(q1, .inl (cy 0, 24, .inl (fun _ => 0))), (q2, .inl (cy 0, 24, .inl (fun _ => 0))), (q3, .inl (cy 0, 24, .inl (fun _ => 0))), (q4, .inl (cy 0, 24, .inl (fun _ => 0)))]) ++ ([] : va_W)) := hD
  refine va_putF (D := D) (ci := 1) (v := .ref q4) (ty := tyX1 3) (C := RX1) (T := TX1) (N := 5) hx hb hts inlX1 tyX1 tyX1_ok nmX1 hown hK hP hD hS k0 (c_thisZ h0e) rfl 3 (by decide) (hts _ q5_23) (fun _ h => h) rfl hin rfl (tyX1_ok 3 (by decide)) rfl rfl (Nat.le_of_ble_eq_true rfl) dX1_init_33 (fun H locs hP hD hS => ?_)
  rw [c_setTZ h0e] at hP hD
  have hP : va_P D g_cl ((ws.set k0 (h0, .inr (1, [.ref q1, .ref q2, .ref q3, .ref q4, .int 0])) ++ [(q1, .inl (cy 0, 24, .inl (fun _ => 0))), (q2, .inl (cy 0, 24, .inl (fun _ => 0))), (q3, .inl (cy 0, 24, .inl (fun _ => 0))), (q4, .inl (cy 0, 24, .inl (fun _ => 0)))]) ++ ([] : va_W)) H := hP
  have hD : va_D (fun q => z0 ≤ q) ((ws.set k0 (h0, .inr (1, [.ref q1, .ref q2, .ref q3, .ref q4, .int 0])) ++ [(q1, .inl (cy 0, 24, .inl (fun _ => 0))), (q2, .inl (cy 0, 24, .inl (fun _ => 0))), (q3, .inl (cy 0, 24, .inl (fun _ => 0))), (q4, .inl (cy 0, 24, .inl (fun _ => 0)))]) ++ ([] : va_W)) := hD
  exact W.vret hx hb hr (fun t ht hW => ⟨⟨(fun k => ([q1, q2, q3, q4] : List Nat).getD k 0), rfl, trivial, by show va_P D g_cl _ t.heap; rw [ht]; unfold nw_X1; rw [← List.append_assoc]; exact hP, by unfold nw_X1; rw [← List.append_assoc]; exact hD⟩, hS.F ht⟩) hS.2.2 dX1_init_36 hlocks
theorem hdc_X3 : yX3_init.cls ≠ "java/lang/invoke/MethodHandle" ∧ yX3_init.cls ≠ "java/lang/invoke/VarHandle" ∧ (parseMethodDescriptor yX3_init.desc).map (fun d => d.parameters.length) = some 0 := by decide +kernel
abbrev S_X3 : Type := (Nat → Nat)
def nw_X3 (cy : Nat → ClassId) (u : S_X3)  : va_W := [((u 0), .inl (cy 0, 160, .inl (fun _ => 0)))] ++ ([] : va_W)
abbrev rm_c3 : Room := { frames := 1, cells := 1, slots := 160, locals := 20 }
set_option maxRecDepth 100000 in
set_option maxHeartbeats 4000000 in
theorem cc_X3 (l : Launch) (D : va_G) (cy : Nat → ClassId) (z0 : Nat) (ws : va_W) (k0 h0 : Nat)  (h0e : ws[k0]? = some (h0, .inr (3, [.null, .int 0, .int 0]))) : Met l yX3_init (wz yX3_init cX3_init 1 none) rm_c3 (va_Pc [.ref h0] (c_pre D cy z0 ws)) (va_Qv (fun _ : S_X3 => True) (fun u t => va_P D g_cl (ws.set k0 (h0, .inr (3, [.ref (u 0), .int 0, .int 0])) ++ nw_X3 cy u ) t.heap ∧ va_D (fun q => z0 ≤ q) (ws.set k0 (h0, .inr (3, [.ref (u 0), .int 0, .int 0])) ++ nw_X3 cy u )) (fun q => z0 ≤ q)) 1 160 (fun q => z0 ≤ q) := by
  refine Met.ofW (cc := cX3_init) (maxL := 1) (ret := none) (by decide) rfl ?_
  intro p e s m args below meth c s₁ B hml hv
  obtain ⟨rfl, hCs, hP, hD, hz⟩ := hv
  have hx := B.exec
  have hb := B.bytes
  have hr := B.returns
  have hts : ∀ w ∈ wsL_law, w.before _ s = true := fun w h => atoms_spec (ws := wz yX3_init cX3_init 1 none) B.pre w (List.mem_cons_of_mem _ h)
  have hown : s.vm.findClass RX3 = some m.cls := findClass_of_methodNamed B.named
  have hlocks := B.notSynchronized
  have hin : meth.name = "<init>" := (name_of_methodNamed B.named B.method).1
  have hK := hCs.1
  have hA : ∀ q, s.heap.size ≤ q → (fun q => z0 ≤ q) q := fun q h => Nat.le_trans hz h
  have hS : va_S (fun q => z0 ≤ q) s.heap s.heap [] := va_S.rf
  have hl := lv_entry ([.ref h0]) (n := 1) (Nat.le_of_ble_eq_true rfl)
  rw [lg_entry_eq]
  generalize (lg_sl ([.ref h0]) ++ List.replicate (1 - (lg_sl ([.ref h0])).length) Slot.unset).toArray = ls at hl ⊢
  have hl : lv_has ls 1 [(0, .ref h0)] := hl
  have hP : va_P D g_cl ((ws.set k0 (h0, .inr (3, [.null, .int 0, .int 0])) ++ []) ++ ([] : va_W)) s.heap := by rw [c_same h0e, List.append_nil, List.append_nil]; exact hP
  have hD : va_D (fun q => z0 ≤ q) ((ws.set k0 (h0, .inr (3, [.null, .int 0, .int 0])) ++ []) ++ ([] : va_W)) := by rw [c_same h0e, List.append_nil, List.append_nil]; exact hD
  refine lv_aload_n hx hb dX3_init_0 rfl (lv_at hl 0 rfl) ?_
  refine W.objInit hx hb hown (hts _ q4_12) (hts _ q1_11) (hts _ q1_12) rfl (by rw [hml]; exact hl.1) rfl dX3_init_1 (Nat.le_of_ble_eq_true rfl) (Nat.le_of_ble_eq_true rfl) ?_
  refine W.eq (g2 := F0 m 4 ls []) rfl ?_
  refine lv_aload_n hx hb dX3_init_4 rfl (lv_at hl 0 rfl) ?_
  refine lv_sipush (v := 160) hx hb dX3_init_5 (by decide) ?_
  refine c_newi (N := 160) hx hb hts hK hP hD hS hA (by decide) (by decide) (by decide) (Nat.le_of_ble_eq_true rfl) (Nat.le_of_ble_eq_true rfl) dX3_init_8 (fun q1 H hP hD hS => ?_)
  have hP := hP.swap
  have hD := hD.swap
  rw [c_as] at hP hD
  have hP : va_P D g_cl ((ws.set k0 (h0, .inr (3, [.null, .int 0, .int 0])) ++ [(q1, .inl (cy 0, 160, .inl (fun _ => 0)))]) ++ ([] : va_W)) H := hP
  have hD : va_D (fun q => z0 ≤ q) ((ws.set k0 (h0, .inr (3, [.null, .int 0, .int 0])) ++ [(q1, .inl (cy 0, 160, .inl (fun _ => 0)))]) ++ ([] : va_W)) := hD
  refine va_putF (D := D) (ci := 3) (v := .ref q1) (ty := tyX3 0) (C := RX3) (T := TX3) (N := 3) hx hb hts inlX3 tyX3 tyX3_ok nmX3 hown hK hP hD hS k0 (c_thisZ h0e) rfl 0 (by decide) (hts _ q4_13) (fun _ h => h) rfl hin rfl (tyX3_ok 0 (by decide)) rfl rfl (Nat.le_of_ble_eq_true rfl) dX3_init_10 (fun H locs hP hD hS => ?_)
  rw [c_setTZ h0e] at hP hD
  have hP : va_P D g_cl ((ws.set k0 (h0, .inr (3, [.ref q1, .int 0, .int 0])) ++ [(q1, .inl (cy 0, 160, .inl (fun _ => 0)))]) ++ ([] : va_W)) H := hP
  have hD : va_D (fun q => z0 ≤ q) ((ws.set k0 (h0, .inr (3, [.ref q1, .int 0, .int 0])) ++ [(q1, .inl (cy 0, 160, .inl (fun _ => 0)))]) ++ ([] : va_W)) := hD
  exact W.vret hx hb hr (fun t ht hW => ⟨⟨(fun k => ([q1] : List Nat).getD k 0), rfl, trivial, by show va_P D g_cl _ t.heap; rw [ht]; unfold nw_X3; rw [← List.append_assoc]; exact hP, by unfold nw_X3; rw [← List.append_assoc]; exact hD⟩, hS.F ht⟩) hS.2.2 dX3_init_13 hlocks
theorem hdc_X5 : yX5_init.cls ≠ "java/lang/invoke/MethodHandle" ∧ yX5_init.cls ≠ "java/lang/invoke/VarHandle" ∧ (parseMethodDescriptor yX5_init.desc).map (fun d => d.parameters.length) = some 0 := by decide +kernel
abbrev S_X5 : Type := (Nat → Nat)
def nw_X5 (cy : Nat → ClassId) (u : S_X5)  : va_W := [((u 0), .inl (cy 0, 32, .inl (fun _ => 0))), ((u 1), .inl (cy 0, 32, .inl (fun _ => 0))), ((u 2), .inl (cy 0, 32, .inl (fun _ => 0)))] ++ ([] : va_W)
abbrev rm_c5 : Room := { frames := 1, cells := 3, slots := 96, locals := 20 }
set_option maxRecDepth 100000 in
set_option maxHeartbeats 4000000 in
theorem cc_X5 (l : Launch) (D : va_G) (cy : Nat → ClassId) (z0 : Nat) (ws : va_W) (k0 h0 : Nat)  (h0e : ws[k0]? = some (h0, .inr (5, [.null, .null, .null, .int 0]))) : Met l yX5_init (wz yX5_init cX5_init 1 none) rm_c5 (va_Pc [.ref h0] (c_pre D cy z0 ws)) (va_Qv (fun _ : S_X5 => True) (fun u t => va_P D g_cl (ws.set k0 (h0, .inr (5, [.ref (u 0), .ref (u 1), .ref (u 2), .int 0])) ++ nw_X5 cy u ) t.heap ∧ va_D (fun q => z0 ≤ q) (ws.set k0 (h0, .inr (5, [.ref (u 0), .ref (u 1), .ref (u 2), .int 0])) ++ nw_X5 cy u )) (fun q => z0 ≤ q)) 3 96 (fun q => z0 ≤ q) := by
  refine Met.ofW (cc := cX5_init) (maxL := 1) (ret := none) (by decide) rfl ?_
  intro p e s m args below meth c s₁ B hml hv
  obtain ⟨rfl, hCs, hP, hD, hz⟩ := hv
  have hx := B.exec
  have hb := B.bytes
  have hr := B.returns
  have hts : ∀ w ∈ wsL_law, w.before _ s = true := fun w h => atoms_spec (ws := wz yX5_init cX5_init 1 none) B.pre w (List.mem_cons_of_mem _ h)
  have hown : s.vm.findClass RX5 = some m.cls := findClass_of_methodNamed B.named
  have hlocks := B.notSynchronized
  have hin : meth.name = "<init>" := (name_of_methodNamed B.named B.method).1
  have hK := hCs.1
  have hA : ∀ q, s.heap.size ≤ q → (fun q => z0 ≤ q) q := fun q h => Nat.le_trans hz h
  have hS : va_S (fun q => z0 ≤ q) s.heap s.heap [] := va_S.rf
  have hl := lv_entry ([.ref h0]) (n := 1) (Nat.le_of_ble_eq_true rfl)
  rw [lg_entry_eq]
  generalize (lg_sl ([.ref h0]) ++ List.replicate (1 - (lg_sl ([.ref h0])).length) Slot.unset).toArray = ls at hl ⊢
  have hl : lv_has ls 1 [(0, .ref h0)] := hl
  have hP : va_P D g_cl ((ws.set k0 (h0, .inr (5, [.null, .null, .null, .int 0])) ++ []) ++ ([] : va_W)) s.heap := by rw [c_same h0e, List.append_nil, List.append_nil]; exact hP
  have hD : va_D (fun q => z0 ≤ q) ((ws.set k0 (h0, .inr (5, [.null, .null, .null, .int 0])) ++ []) ++ ([] : va_W)) := by rw [c_same h0e, List.append_nil, List.append_nil]; exact hD
  refine lv_aload_n hx hb dX5_init_0 rfl (lv_at hl 0 rfl) ?_
  refine W.objInit hx hb hown (hts _ q3_1) (hts _ q1_11) (hts _ q1_12) rfl (by rw [hml]; exact hl.1) rfl dX5_init_1 (Nat.le_of_ble_eq_true rfl) (Nat.le_of_ble_eq_true rfl) ?_
  refine W.eq (g2 := F0 m 4 ls []) rfl ?_
  refine lv_aload_n hx hb dX5_init_4 rfl (lv_at hl 0 rfl) ?_
  refine lv_bipush (v := 32) hx hb dX5_init_5 (by decide) ?_
  refine c_newi (N := 32) hx hb hts hK hP hD hS hA (by decide) (by decide) (by decide) (Nat.le_of_ble_eq_true rfl) (Nat.le_of_ble_eq_true rfl) dX5_init_7 (fun q1 H hP hD hS => ?_)
  have hP := hP.swap
  have hD := hD.swap
  rw [c_as] at hP hD
  have hP : va_P D g_cl ((ws.set k0 (h0, .inr (5, [.null, .null, .null, .int 0])) ++ [(q1, .inl (cy 0, 32, .inl (fun _ => 0)))]) ++ ([] : va_W)) H := hP
  have hD : va_D (fun q => z0 ≤ q) ((ws.set k0 (h0, .inr (5, [.null, .null, .null, .int 0])) ++ [(q1, .inl (cy 0, 32, .inl (fun _ => 0)))]) ++ ([] : va_W)) := hD
  refine va_putF (D := D) (ci := 5) (v := .ref q1) (ty := tyX5 0) (C := RX5) (T := TX5) (N := 4) hx hb hts inlX5 tyX5 tyX5_ok nmX5 hown hK hP hD hS k0 (c_thisZ h0e) rfl 0 (by decide) (hts _ q3_2) (fun _ h => h) rfl hin rfl (tyX5_ok 0 (by decide)) rfl rfl (Nat.le_of_ble_eq_true rfl) dX5_init_9 (fun H locs hP hD hS => ?_)
  rw [c_setTZ h0e] at hP hD
  have hP : va_P D g_cl ((ws.set k0 (h0, .inr (5, [.ref q1, .null, .null, .int 0])) ++ [(q1, .inl (cy 0, 32, .inl (fun _ => 0)))]) ++ ([] : va_W)) H := hP
  have hD : va_D (fun q => z0 ≤ q) ((ws.set k0 (h0, .inr (5, [.ref q1, .null, .null, .int 0])) ++ [(q1, .inl (cy 0, 32, .inl (fun _ => 0)))]) ++ ([] : va_W)) := hD
  refine lv_aload_n hx hb dX5_init_12 rfl (lv_at hl 0 rfl) ?_
  refine lv_bipush (v := 32) hx hb dX5_init_13 (by decide) ?_
  refine c_newi (N := 32) hx hb hts hK hP hD hS hA (by decide) (by decide) (by decide) (Nat.le_of_ble_eq_true rfl) (Nat.le_of_ble_eq_true rfl) dX5_init_15 (fun q2 H hP hD hS => ?_)
  have hP := hP.swap
  have hD := hD.swap
  rw [c_as] at hP hD
  have hP : va_P D g_cl ((ws.set k0 (h0, .inr (5, [.ref q1, .null, .null, .int 0])) ++ [(q1, .inl (cy 0, 32, .inl (fun _ => 0))), (q2, .inl (cy 0, 32, .inl (fun _ => 0)))]) ++ ([] : va_W)) H := hP
  have hD : va_D (fun q => z0 ≤ q) ((ws.set k0 (h0, .inr (5, [.ref q1, .null, .null, .int 0])) ++ [(q1, .inl (cy 0, 32, .inl (fun _ => 0))), (q2, .inl (cy 0, 32, .inl (fun _ => 0)))]) ++ ([] : va_W)) := hD
  refine va_putF (D := D) (ci := 5) (v := .ref q2) (ty := tyX5 1) (C := RX5) (T := TX5) (N := 4) hx hb hts inlX5 tyX5 tyX5_ok nmX5 hown hK hP hD hS k0 (c_thisZ h0e) rfl 1 (by decide) (hts _ q3_3) (fun _ h => h) rfl hin rfl (tyX5_ok 1 (by decide)) rfl rfl (Nat.le_of_ble_eq_true rfl) dX5_init_17 (fun H locs hP hD hS => ?_)
  rw [c_setTZ h0e] at hP hD
  have hP : va_P D g_cl ((ws.set k0 (h0, .inr (5, [.ref q1, .ref q2, .null, .int 0])) ++ [(q1, .inl (cy 0, 32, .inl (fun _ => 0))), (q2, .inl (cy 0, 32, .inl (fun _ => 0)))]) ++ ([] : va_W)) H := hP
  have hD : va_D (fun q => z0 ≤ q) ((ws.set k0 (h0, .inr (5, [.ref q1, .ref q2, .null, .int 0])) ++ [(q1, .inl (cy 0, 32, .inl (fun _ => 0))), (q2, .inl (cy 0, 32, .inl (fun _ => 0)))]) ++ ([] : va_W)) := hD
  refine lv_aload_n hx hb dX5_init_20 rfl (lv_at hl 0 rfl) ?_
  refine lv_bipush (v := 32) hx hb dX5_init_21 (by decide) ?_
  refine c_newi (N := 32) hx hb hts hK hP hD hS hA (by decide) (by decide) (by decide) (Nat.le_of_ble_eq_true rfl) (Nat.le_of_ble_eq_true rfl) dX5_init_23 (fun q3 H hP hD hS => ?_)
  have hP := hP.swap
  have hD := hD.swap
  rw [c_as] at hP hD
  have hP : va_P D g_cl ((ws.set k0 (h0, .inr (5, [.ref q1, .ref q2, .null, .int 0])) ++ [(q1, .inl (cy 0, 32, .inl (fun _ => 0))), (q2, .inl (cy 0, 32, .inl (fun _ => 0))), (q3, .inl (cy 0, 32, .inl (fun _ => 0)))]) ++ ([] : va_W)) H := hP
  have hD : va_D (fun q => z0 ≤ q) ((ws.set k0 (h0, .inr (5, [.ref q1, .ref q2, .null, .int 0])) ++ [(q1, .inl (cy 0, 32, .inl (fun _ => 0))), (q2, .inl (cy 0, 32, .inl (fun _ => 0))), (q3, .inl (cy 0, 32, .inl (fun _ => 0)))]) ++ ([] : va_W)) := hD
  refine va_putF (D := D) (ci := 5) (v := .ref q3) (ty := tyX5 2) (C := RX5) (T := TX5) (N := 4) hx hb hts inlX5 tyX5 tyX5_ok nmX5 hown hK hP hD hS k0 (c_thisZ h0e) rfl 2 (by decide) (hts _ q3_4) (fun _ h => h) rfl hin rfl (tyX5_ok 2 (by decide)) rfl rfl (Nat.le_of_ble_eq_true rfl) dX5_init_25 (fun H locs hP hD hS => ?_)
  rw [c_setTZ h0e] at hP hD
  have hP : va_P D g_cl ((ws.set k0 (h0, .inr (5, [.ref q1, .ref q2, .ref q3, .int 0])) ++ [(q1, .inl (cy 0, 32, .inl (fun _ => 0))), (q2, .inl (cy 0, 32, .inl (fun _ => 0))), (q3, .inl (cy 0, 32, .inl (fun _ => 0)))]) ++ ([] : va_W)) H := hP
  have hD : va_D (fun q => z0 ≤ q) ((ws.set k0 (h0, .inr (5, [.ref q1, .ref q2, .ref q3, .int 0])) ++ [(q1, .inl (cy 0, 32, .inl (fun _ => 0))), (q2, .inl (cy 0, 32, .inl (fun _ => 0))), (q3, .inl (cy 0, 32, .inl (fun _ => 0)))]) ++ ([] : va_W)) := hD
  exact W.vret hx hb hr (fun t ht hW => ⟨⟨(fun k => ([q1, q2, q3] : List Nat).getD k 0), rfl, trivial, by show va_P D g_cl _ t.heap; rw [ht]; unfold nw_X5; rw [← List.append_assoc]; exact hP, by unfold nw_X5; rw [← List.append_assoc]; exact hD⟩, hS.F ht⟩) hS.2.2 dX5_init_28 hlocks
theorem hdc_X2 : yX2_init.cls ≠ "java/lang/invoke/MethodHandle" ∧ yX2_init.cls ≠ "java/lang/invoke/VarHandle" ∧ (parseMethodDescriptor yX2_init.desc).map (fun d => d.parameters.length) = some 0 := by decide +kernel
abbrev S_X2 : Type := (Nat → Nat)
def nw_X2 (cy : Nat → ClassId) (u : S_X2)  : va_W := [((u 0), .inl (cy 0, 25, .inl (fun _ => 0)))] ++ ([] : va_W)
abbrev rm_c2 : Room := { frames := 1, cells := 1, slots := 25, locals := 20 }
set_option maxRecDepth 100000 in
set_option maxHeartbeats 4000000 in
theorem cc_X2 (l : Launch) (D : va_G) (cy : Nat → ClassId) (z0 : Nat) (ws : va_W) (k0 h0 : Nat)  (h0e : ws[k0]? = some (h0, .inr (2, [.null]))) : Met l yX2_init (wz yX2_init cX2_init 1 none) rm_c2 (va_Pc [.ref h0] (c_pre D cy z0 ws)) (va_Qv (fun _ : S_X2 => True) (fun u t => va_P D g_cl (ws.set k0 (h0, .inr (2, [.ref (u 0)])) ++ nw_X2 cy u ) t.heap ∧ va_D (fun q => z0 ≤ q) (ws.set k0 (h0, .inr (2, [.ref (u 0)])) ++ nw_X2 cy u )) (fun q => z0 ≤ q)) 1 25 (fun q => z0 ≤ q) := by
  refine Met.ofW (cc := cX2_init) (maxL := 1) (ret := none) (by decide) rfl ?_
  intro p e s m args below meth c s₁ B hml hv
  obtain ⟨rfl, hCs, hP, hD, hz⟩ := hv
  have hx := B.exec
  have hb := B.bytes
  have hr := B.returns
  have hts : ∀ w ∈ wsL_law, w.before _ s = true := fun w h => atoms_spec (ws := wz yX2_init cX2_init 1 none) B.pre w (List.mem_cons_of_mem _ h)
  have hown : s.vm.findClass RX2 = some m.cls := findClass_of_methodNamed B.named
  have hlocks := B.notSynchronized
  have hin : meth.name = "<init>" := (name_of_methodNamed B.named B.method).1
  have hK := hCs.1
  have hA : ∀ q, s.heap.size ≤ q → (fun q => z0 ≤ q) q := fun q h => Nat.le_trans hz h
  have hS : va_S (fun q => z0 ≤ q) s.heap s.heap [] := va_S.rf
  have hl := lv_entry ([.ref h0]) (n := 1) (Nat.le_of_ble_eq_true rfl)
  rw [lg_entry_eq]
  generalize (lg_sl ([.ref h0]) ++ List.replicate (1 - (lg_sl ([.ref h0])).length) Slot.unset).toArray = ls at hl ⊢
  have hl : lv_has ls 1 [(0, .ref h0)] := hl
  have hP : va_P D g_cl ((ws.set k0 (h0, .inr (2, [.null])) ++ []) ++ ([] : va_W)) s.heap := by rw [c_same h0e, List.append_nil, List.append_nil]; exact hP
  have hD : va_D (fun q => z0 ≤ q) ((ws.set k0 (h0, .inr (2, [.null])) ++ []) ++ ([] : va_W)) := by rw [c_same h0e, List.append_nil, List.append_nil]; exact hD
  refine lv_aload_n hx hb dX2_init_0 rfl (lv_at hl 0 rfl) ?_
  refine W.objInit hx hb hown (hts _ q6_5) (hts _ q1_11) (hts _ q1_12) rfl (by rw [hml]; exact hl.1) rfl dX2_init_1 (Nat.le_of_ble_eq_true rfl) (Nat.le_of_ble_eq_true rfl) ?_
  refine W.eq (g2 := F0 m 4 ls []) rfl ?_
  refine lv_aload_n hx hb dX2_init_4 rfl (lv_at hl 0 rfl) ?_
  refine lv_bipush (v := 25) hx hb dX2_init_5 (by decide) ?_
  refine c_newi (N := 25) hx hb hts hK hP hD hS hA (by decide) (by decide) (by decide) (Nat.le_of_ble_eq_true rfl) (Nat.le_of_ble_eq_true rfl) dX2_init_7 (fun q1 H hP hD hS => ?_)
  have hP := hP.swap
  have hD := hD.swap
  rw [c_as] at hP hD
  have hP : va_P D g_cl ((ws.set k0 (h0, .inr (2, [.null])) ++ [(q1, .inl (cy 0, 25, .inl (fun _ => 0)))]) ++ ([] : va_W)) H := hP
  have hD : va_D (fun q => z0 ≤ q) ((ws.set k0 (h0, .inr (2, [.null])) ++ [(q1, .inl (cy 0, 25, .inl (fun _ => 0)))]) ++ ([] : va_W)) := hD
  refine va_putF (D := D) (ci := 2) (v := .ref q1) (ty := tyX2 0) (C := RX2) (T := TX2) (N := 1) hx hb hts inlX2 tyX2 tyX2_ok nmX2 hown hK hP hD hS k0 (c_thisZ h0e) rfl 0 (by decide) (hts _ q6_6) (fun _ h => h) rfl hin rfl (tyX2_ok 0 (by decide)) rfl rfl (Nat.le_of_ble_eq_true rfl) dX2_init_9 (fun H locs hP hD hS => ?_)
  rw [c_setTZ h0e] at hP hD
  have hP : va_P D g_cl ((ws.set k0 (h0, .inr (2, [.ref q1])) ++ [(q1, .inl (cy 0, 25, .inl (fun _ => 0)))]) ++ ([] : va_W)) H := hP
  have hD : va_D (fun q => z0 ≤ q) ((ws.set k0 (h0, .inr (2, [.ref q1])) ++ [(q1, .inl (cy 0, 25, .inl (fun _ => 0)))]) ++ ([] : va_W)) := hD
  exact W.vret hx hb hr (fun t ht hW => ⟨⟨(fun k => ([q1] : List Nat).getD k 0), rfl, trivial, by show va_P D g_cl _ t.heap; rw [ht]; unfold nw_X2; rw [← List.append_assoc]; exact hP, by unfold nw_X2; rw [← List.append_assoc]; exact hD⟩, hS.F ht⟩) hS.2.2 dX2_init_12 hlocks
theorem hdc_X6 : yX6_init.cls ≠ "java/lang/invoke/MethodHandle" ∧ yX6_init.cls ≠ "java/lang/invoke/VarHandle" ∧ (parseMethodDescriptor yX6_init.desc).map (fun d => d.parameters.length) = some 0 := by decide +kernel
abbrev S_X6 : Type := (Nat → Nat)
def nw_X6 (cy : Nat → ClassId) (u : S_X6)  : va_W := [((u 0), .inl (cy 0, 6, .inl (fun _ => 0))), ((u 1), .inl (cy 0, 390, .inl (fun _ => 0))), ((u 2), .inl (cy 0, 65, .inl (fun _ => 0)))] ++ ([] : va_W)
abbrev rm_c6 : Room := { frames := 1, cells := 3, slots := 461, locals := 20 }
set_option maxRecDepth 100000 in
set_option maxHeartbeats 4000000 in
theorem cc_X6 (l : Launch) (D : va_G) (cy : Nat → ClassId) (z0 : Nat) (ws : va_W) (k0 h0 : Nat)  (h0e : ws[k0]? = some (h0, .inr (6, [.null, .null, .null]))) : Met l yX6_init (wz yX6_init cX6_init 1 none) rm_c6 (va_Pc [.ref h0] (c_pre D cy z0 ws)) (va_Qv (fun _ : S_X6 => True) (fun u t => va_P D g_cl (ws.set k0 (h0, .inr (6, [.ref (u 0), .ref (u 1), .ref (u 2)])) ++ nw_X6 cy u ) t.heap ∧ va_D (fun q => z0 ≤ q) (ws.set k0 (h0, .inr (6, [.ref (u 0), .ref (u 1), .ref (u 2)])) ++ nw_X6 cy u )) (fun q => z0 ≤ q)) 3 461 (fun q => z0 ≤ q) := by
  refine Met.ofW (cc := cX6_init) (maxL := 1) (ret := none) (by decide) rfl ?_
  intro p e s m args below meth c s₁ B hml hv
  obtain ⟨rfl, hCs, hP, hD, hz⟩ := hv
  have hx := B.exec
  have hb := B.bytes
  have hr := B.returns
  have hts : ∀ w ∈ wsL_law, w.before _ s = true := fun w h => atoms_spec (ws := wz yX6_init cX6_init 1 none) B.pre w (List.mem_cons_of_mem _ h)
  have hown : s.vm.findClass RX6 = some m.cls := findClass_of_methodNamed B.named
  have hlocks := B.notSynchronized
  have hin : meth.name = "<init>" := (name_of_methodNamed B.named B.method).1
  have hK := hCs.1
  have hA : ∀ q, s.heap.size ≤ q → (fun q => z0 ≤ q) q := fun q h => Nat.le_trans hz h
  have hS : va_S (fun q => z0 ≤ q) s.heap s.heap [] := va_S.rf
  have hl := lv_entry ([.ref h0]) (n := 1) (Nat.le_of_ble_eq_true rfl)
  rw [lg_entry_eq]
  generalize (lg_sl ([.ref h0]) ++ List.replicate (1 - (lg_sl ([.ref h0])).length) Slot.unset).toArray = ls at hl ⊢
  have hl : lv_has ls 1 [(0, .ref h0)] := hl
  have hP : va_P D g_cl ((ws.set k0 (h0, .inr (6, [.null, .null, .null])) ++ []) ++ ([] : va_W)) s.heap := by rw [c_same h0e, List.append_nil, List.append_nil]; exact hP
  have hD : va_D (fun q => z0 ≤ q) ((ws.set k0 (h0, .inr (6, [.null, .null, .null])) ++ []) ++ ([] : va_W)) := by rw [c_same h0e, List.append_nil, List.append_nil]; exact hD
  refine lv_aload_n hx hb dX6_init_0 rfl (lv_at hl 0 rfl) ?_
  refine W.objInit hx hb hown (hts _ q6_9) (hts _ q1_11) (hts _ q1_12) rfl (by rw [hml]; exact hl.1) rfl dX6_init_1 (Nat.le_of_ble_eq_true rfl) (Nat.le_of_ble_eq_true rfl) ?_
  refine W.eq (g2 := F0 m 4 ls []) rfl ?_
  refine lv_aload_n hx hb dX6_init_4 rfl (lv_at hl 0 rfl) ?_
  refine lv_bipush (v := 6) hx hb dX6_init_5 (by decide) ?_
  refine c_newi (N := 6) hx hb hts hK hP hD hS hA (by decide) (by decide) (by decide) (Nat.le_of_ble_eq_true rfl) (Nat.le_of_ble_eq_true rfl) dX6_init_7 (fun q1 H hP hD hS => ?_)
  have hP := hP.swap
  have hD := hD.swap
  rw [c_as] at hP hD
  have hP : va_P D g_cl ((ws.set k0 (h0, .inr (6, [.null, .null, .null])) ++ [(q1, .inl (cy 0, 6, .inl (fun _ => 0)))]) ++ ([] : va_W)) H := hP
  have hD : va_D (fun q => z0 ≤ q) ((ws.set k0 (h0, .inr (6, [.null, .null, .null])) ++ [(q1, .inl (cy 0, 6, .inl (fun _ => 0)))]) ++ ([] : va_W)) := hD
  refine va_putF (D := D) (ci := 6) (v := .ref q1) (ty := tyX6 0) (C := RX6) (T := TX6) (N := 3) hx hb hts inlX6 tyX6 tyX6_ok nmX6 hown hK hP hD hS k0 (c_thisZ h0e) rfl 0 (by decide) (hts _ q6_10) (fun _ h => h) rfl hin rfl (tyX6_ok 0 (by decide)) rfl rfl (Nat.le_of_ble_eq_true rfl) dX6_init_9 (fun H locs hP hD hS => ?_)
  rw [c_setTZ h0e] at hP hD
  have hP : va_P D g_cl ((ws.set k0 (h0, .inr (6, [.ref q1, .null, .null])) ++ [(q1, .inl (cy 0, 6, .inl (fun _ => 0)))]) ++ ([] : va_W)) H := hP
  have hD : va_D (fun q => z0 ≤ q) ((ws.set k0 (h0, .inr (6, [.ref q1, .null, .null])) ++ [(q1, .inl (cy 0, 6, .inl (fun _ => 0)))]) ++ ([] : va_W)) := hD
  refine lv_aload_n hx hb dX6_init_12 rfl (lv_at hl 0 rfl) ?_
  refine lv_sipush (v := 390) hx hb dX6_init_13 (by decide) ?_
  refine c_newi (N := 390) hx hb hts hK hP hD hS hA (by decide) (by decide) (by decide) (Nat.le_of_ble_eq_true rfl) (Nat.le_of_ble_eq_true rfl) dX6_init_16 (fun q2 H hP hD hS => ?_)
  have hP := hP.swap
  have hD := hD.swap
  rw [c_as] at hP hD
  have hP : va_P D g_cl ((ws.set k0 (h0, .inr (6, [.ref q1, .null, .null])) ++ [(q1, .inl (cy 0, 6, .inl (fun _ => 0))), (q2, .inl (cy 0, 390, .inl (fun _ => 0)))]) ++ ([] : va_W)) H := hP
  have hD : va_D (fun q => z0 ≤ q) ((ws.set k0 (h0, .inr (6, [.ref q1, .null, .null])) ++ [(q1, .inl (cy 0, 6, .inl (fun _ => 0))), (q2, .inl (cy 0, 390, .inl (fun _ => 0)))]) ++ ([] : va_W)) := hD
  refine va_putF (D := D) (ci := 6) (v := .ref q2) (ty := tyX6 1) (C := RX6) (T := TX6) (N := 3) hx hb hts inlX6 tyX6 tyX6_ok nmX6 hown hK hP hD hS k0 (c_thisZ h0e) rfl 1 (by decide) (hts _ q6_11) (fun _ h => h) rfl hin rfl (tyX6_ok 1 (by decide)) rfl rfl (Nat.le_of_ble_eq_true rfl) dX6_init_18 (fun H locs hP hD hS => ?_)
  rw [c_setTZ h0e] at hP hD
  have hP : va_P D g_cl ((ws.set k0 (h0, .inr (6, [.ref q1, .ref q2, .null])) ++ [(q1, .inl (cy 0, 6, .inl (fun _ => 0))), (q2, .inl (cy 0, 390, .inl (fun _ => 0)))]) ++ ([] : va_W)) H := hP
  have hD : va_D (fun q => z0 ≤ q) ((ws.set k0 (h0, .inr (6, [.ref q1, .ref q2, .null])) ++ [(q1, .inl (cy 0, 6, .inl (fun _ => 0))), (q2, .inl (cy 0, 390, .inl (fun _ => 0)))]) ++ ([] : va_W)) := hD
  refine lv_aload_n hx hb dX6_init_21 rfl (lv_at hl 0 rfl) ?_
  refine lv_bipush (v := 65) hx hb dX6_init_22 (by decide) ?_
  refine c_newi (N := 65) hx hb hts hK hP hD hS hA (by decide) (by decide) (by decide) (Nat.le_of_ble_eq_true rfl) (Nat.le_of_ble_eq_true rfl) dX6_init_24 (fun q3 H hP hD hS => ?_)
  have hP := hP.swap
  have hD := hD.swap
  rw [c_as] at hP hD
  have hP : va_P D g_cl ((ws.set k0 (h0, .inr (6, [.ref q1, .ref q2, .null])) ++ [(q1, .inl (cy 0, 6, .inl (fun _ => 0))), (q2, .inl (cy 0, 390, .inl (fun _ => 0))), (q3, .inl (cy 0, 65, .inl (fun _ => 0)))]) ++ ([] : va_W)) H := hP
  have hD : va_D (fun q => z0 ≤ q) ((ws.set k0 (h0, .inr (6, [.ref q1, .ref q2, .null])) ++ [(q1, .inl (cy 0, 6, .inl (fun _ => 0))), (q2, .inl (cy 0, 390, .inl (fun _ => 0))), (q3, .inl (cy 0, 65, .inl (fun _ => 0)))]) ++ ([] : va_W)) := hD
  refine va_putF (D := D) (ci := 6) (v := .ref q3) (ty := tyX6 2) (C := RX6) (T := TX6) (N := 3) hx hb hts inlX6 tyX6 tyX6_ok nmX6 hown hK hP hD hS k0 (c_thisZ h0e) rfl 2 (by decide) (hts _ q6_12) (fun _ h => h) rfl hin rfl (tyX6_ok 2 (by decide)) rfl rfl (Nat.le_of_ble_eq_true rfl) dX6_init_26 (fun H locs hP hD hS => ?_)
  rw [c_setTZ h0e] at hP hD
  have hP : va_P D g_cl ((ws.set k0 (h0, .inr (6, [.ref q1, .ref q2, .ref q3])) ++ [(q1, .inl (cy 0, 6, .inl (fun _ => 0))), (q2, .inl (cy 0, 390, .inl (fun _ => 0))), (q3, .inl (cy 0, 65, .inl (fun _ => 0)))]) ++ ([] : va_W)) H := hP
  have hD : va_D (fun q => z0 ≤ q) ((ws.set k0 (h0, .inr (6, [.ref q1, .ref q2, .ref q3])) ++ [(q1, .inl (cy 0, 6, .inl (fun _ => 0))), (q2, .inl (cy 0, 390, .inl (fun _ => 0))), (q3, .inl (cy 0, 65, .inl (fun _ => 0)))]) ++ ([] : va_W)) := hD
  exact W.vret hx hb hr (fun t ht hW => ⟨⟨(fun k => ([q1, q2, q3] : List Nat).getD k 0), rfl, trivial, by show va_P D g_cl _ t.heap; rw [ht]; unfold nw_X6; rw [← List.append_assoc]; exact hP, by unfold nw_X6; rw [← List.append_assoc]; exact hD⟩, hS.F ht⟩) hS.2.2 dX6_init_29 hlocks
theorem hdc_X10 : yX10_init.cls ≠ "java/lang/invoke/MethodHandle" ∧ yX10_init.cls ≠ "java/lang/invoke/VarHandle" ∧ (parseMethodDescriptor yX10_init.desc).map (fun d => d.parameters.length) = some 0 := by decide +kernel
abbrev S_X10 : Type := (Nat → Nat)
def nw_X10 (cy : Nat → ClassId) (u : S_X10)  : va_W := [((u 0), .inl (cy 0, 16, .inl (fun j => if j < 16 then (-1) else 0)))] ++ ([] : va_W)
abbrev rm_c10 : Room := { frames := 1, cells := 1, slots := 16, locals := 30 }
set_option maxRecDepth 100000 in
set_option maxHeartbeats 4000000 in
theorem cc_X10 (l : Launch) (D : va_G) (cy : Nat → ClassId) (z0 : Nat) (ws : va_W) (k0 h0 : Nat)  (h0e : ws[k0]? = some (h0, .inr (10, [.null, .int 0]))) : Met l yX10_init (wz yX10_init cX10_init 1 none) rm_c10 (va_Pc [.ref h0] (c_pre D cy z0 ws)) (va_Qv (fun _ : S_X10 => True) (fun u t => va_P D g_cl (ws.set k0 (h0, .inr (10, [.ref (u 0), .int 1])) ++ nw_X10 cy u ) t.heap ∧ va_D (fun q => z0 ≤ q) (ws.set k0 (h0, .inr (10, [.ref (u 0), .int 1])) ++ nw_X10 cy u )) (fun q => z0 ≤ q)) 1 16 (fun q => z0 ≤ q) := by
  refine Met.ofW (cc := cX10_init) (maxL := 1) (ret := none) (by decide) rfl ?_
  intro p e s m args below meth c s₁ B hml hv
  obtain ⟨rfl, hCs, hP, hD, hz⟩ := hv
  have hx := B.exec
  have hb := B.bytes
  have hr := B.returns
  have hts : ∀ w ∈ wsL_law, w.before _ s = true := fun w h => atoms_spec (ws := wz yX10_init cX10_init 1 none) B.pre w (List.mem_cons_of_mem _ h)
  have hown : s.vm.findClass RX10 = some m.cls := findClass_of_methodNamed B.named
  have hlocks := B.notSynchronized
  have hin : meth.name = "<init>" := (name_of_methodNamed B.named B.method).1
  have hK := hCs.1
  have hA : ∀ q, s.heap.size ≤ q → (fun q => z0 ≤ q) q := fun q h => Nat.le_trans hz h
  have hS : va_S (fun q => z0 ≤ q) s.heap s.heap [] := va_S.rf
  have hl := lv_entry ([.ref h0]) (n := 1) (Nat.le_of_ble_eq_true rfl)
  rw [lg_entry_eq]
  generalize (lg_sl ([.ref h0]) ++ List.replicate (1 - (lg_sl ([.ref h0])).length) Slot.unset).toArray = ls at hl ⊢
  have hl : lv_has ls 1 [(0, .ref h0)] := hl
  have hP : va_P D g_cl ((ws.set k0 (h0, .inr (10, [.null, .int 0])) ++ []) ++ ([] : va_W)) s.heap := by rw [c_same h0e, List.append_nil, List.append_nil]; exact hP
  have hD : va_D (fun q => z0 ≤ q) ((ws.set k0 (h0, .inr (10, [.null, .int 0])) ++ []) ++ ([] : va_W)) := by rw [c_same h0e, List.append_nil, List.append_nil]; exact hD
  refine lv_aload_n hx hb dX10_init_0 rfl (lv_at hl 0 rfl) ?_
  refine W.objInit hx hb hown (hts _ q2_16) (hts _ q1_11) (hts _ q1_12) rfl (by rw [hml]; exact hl.1) rfl dX10_init_1 (Nat.le_of_ble_eq_true rfl) (Nat.le_of_ble_eq_true rfl) ?_
  refine W.eq (g2 := F0 m 4 ls []) rfl ?_
  refine lv_aload_n hx hb dX10_init_4 rfl (lv_at hl 0 rfl) ?_
  refine lv_bipush (v := 16) hx hb dX10_init_5 (by decide) ?_
  refine c_newi (N := 16) hx hb hts hK hP hD hS hA (by decide) (by decide) (by decide) (Nat.le_of_ble_eq_true rfl) (Nat.le_of_ble_eq_true rfl) dX10_init_7 (fun q1 H hP hD hS => ?_)
  have hP := hP.swap
  have hD := hD.swap
  rw [c_as] at hP hD
  have hP : va_P D g_cl ((ws.set k0 (h0, .inr (10, [.null, .int 0])) ++ [(q1, .inl (cy 0, 16, .inl (fun _ => 0)))]) ++ ([] : va_W)) H := hP
  have hD : va_D (fun q => z0 ≤ q) ((ws.set k0 (h0, .inr (10, [.null, .int 0])) ++ [(q1, .inl (cy 0, 16, .inl (fun _ => 0)))]) ++ ([] : va_W)) := hD
  refine va_putF (D := D) (ci := 10) (v := .ref q1) (ty := tyX10 0) (C := RX10) (T := TX10) (N := 2) hx hb hts inlX10 tyX10 tyX10_ok nmX10 hown hK hP hD hS k0 (c_thisZ h0e) rfl 0 (by decide) (hts _ q2_17) (fun _ h => h) rfl hin rfl (tyX10_ok 0 (by decide)) rfl rfl (Nat.le_of_ble_eq_true rfl) dX10_init_9 (fun H locs hP hD hS => ?_)
  rw [c_setTZ h0e] at hP hD
  have hP : va_P D g_cl ((ws.set k0 (h0, .inr (10, [.ref q1, .int 0])) ++ [(q1, .inl (cy 0, 16, .inl (fun _ => 0)))]) ++ ([] : va_W)) H := hP
  have hD : va_D (fun q => z0 ≤ q) ((ws.set k0 (h0, .inr (10, [.ref q1, .int 0])) ++ [(q1, .inl (cy 0, 16, .inl (fun _ => 0)))]) ++ ([] : va_W)) := hD
  refine lv_aload_n hx hb dX10_init_12 rfl (lv_at hl 0 rfl) ?_
  refine lv_iconst (v := 1) hx hb dX10_init_13 (by decide) ?_
  refine va_put (D := D) (ci := 10) (v := .int 1) (ty := tyX10 1) (C := RX10) (T := TX10) (N := 2) hx hb hts inlX10 tyX10 tyX10_ok nmX10 hown hK hP hD hS k0 (c_thisZ h0e) rfl 1 (by decide) (hts _ q2_18) (fun _ h => h) rfl (tyX10_ok 1 (by decide)) rfl rfl (Nat.le_of_ble_eq_true rfl) dX10_init_14 (fun H locs hP hD hS => ?_)
  rw [c_setTZ h0e] at hP hD
  have hP : va_P D g_cl ((ws.set k0 (h0, .inr (10, [.ref q1, .int 1])) ++ [(q1, .inl (cy 0, 16, .inl (fun _ => 0)))]) ++ ([] : va_W)) H := hP
  have hD : va_D (fun q => z0 ≤ q) ((ws.set k0 (h0, .inr (10, [.ref q1, .int 1])) ++ [(q1, .inl (cy 0, 16, .inl (fun _ => 0)))]) ++ ([] : va_W)) := hD
  refine lv_aload_n hx hb dX10_init_17 rfl (lv_at hl 0 rfl) ?_
  refine va_get (D := D) (ci := 10) (v := .ref q1) (C := RX10) (T := TX10) (N := 2) hx hb hts inlX10 hown hK hP k0 (c_thisZ h0e) rfl 0 (by decide) (hts _ q2_17) (fun _ h => h) rfl dX10_init_18 ?_
  refine lv_iconst (v := (-1)) hx hb dX10_init_21 (by decide) ?_
  refine va_callv (va_runS (As := [.ref q1, .int (-1)]) (rest := []) ⟨hx, hb, hml, hown, hts⟩ (ct_fill l (D := D) (cl := g_cl) (A := fun q => z0 ≤ q) (v := (-1)) (q0 := ws.length + 0) (by decide) (c_newZ 0 rfl)) ⟨callB_of 2 hts (wz_N q2_22) rfl rfl rfl (hts _ q2_21) (hts _ q2_19) (by decide +kernel) ⟨Nat.le_of_ble_eq_true rfl, Nat.le_of_ble_eq_true rfl⟩, hts _ q2_20⟩ ⟨fun a U g mk q => ⟨q.1, q.2.1, va_K.moved (u := U) (U := U.calling g mk a) (Vm.Alike.refl U.vm) q.2.2.1, q.2.2.2⟩, fun U hU hW => ⟨rfl, by rw [hU]; exact hP, va_K.moved hW.alike (hK.sub (tys' := [(cy 0, .int)]) [0] rfl), hD⟩⟩ rfl rfl hl.1 rfl (lv_room (Nat.le_of_ble_eq_true rfl)) dX10_init_22 ⟨Nat.le_of_ble_eq_true rfl, Nat.le_of_ble_eq_true rfl⟩) hS (fun _ _ h => h) (fun _ h => h) (fun _ t H locs ht hvm _ hB hz1 hk1 hS => ?_)
  have hP : va_P D g_cl _ t.heap := hB
  rw [ht, c_setNZ _ (Nat.le_of_ble_eq_true rfl)] at hP
  have hD := hD.set (c_newZ 0 rfl) (e := .inl (cy 0, 16, .inl (fun j => if j < 16 then (-1) else 0)))
  rw [c_setNZ _ (Nat.le_of_ble_eq_true rfl)] at hD
  have hP : va_P D g_cl ((ws.set k0 (h0, .inr (10, [.ref q1, .int 1])) ++ [(q1, .inl (cy 0, 16, .inl (fun j => if j < 16 then (-1) else 0)))]) ++ ([] : va_W)) H := hP
  have hD : va_D (fun q => z0 ≤ q) ((ws.set k0 (h0, .inr (10, [.ref q1, .int 1])) ++ [(q1, .inl (cy 0, 16, .inl (fun j => if j < 16 then (-1) else 0)))]) ++ ([] : va_W)) := hD
  exact W.vret hx hb hr (fun t ht hW => ⟨⟨(fun k => ([q1] : List Nat).getD k 0), rfl, trivial, by show va_P D g_cl _ t.heap; rw [ht]; unfold nw_X10; rw [← List.append_assoc]; exact hP, by unfold nw_X10; rw [← List.append_assoc]; exact hD⟩, hS.F ht⟩) hS.2.2 dX10_init_25 hlocks
theorem hdc_X0 : yX0_init.cls ≠ "java/lang/invoke/MethodHandle" ∧ yX0_init.cls ≠ "java/lang/invoke/VarHandle" ∧ (parseMethodDescriptor yX0_init.desc).map (fun d => d.parameters.length) = some 0 := by decide +kernel
abbrev S_X0 : Type := (Nat → Nat)
def nw_X0 (cy : Nat → ClassId) (u : S_X0)  : va_W := [((u 0), .inl (cy 4, 4, .inr (.inr (.inr (.inr (fun i => ([some (u 1), some (u 2), some (u 3), some (u 4)] : List (Option Nat)).getD i none)))))), ((u 1), .inl (cy 0, 6, .inl (fun _ => 0))), ((u 2), .inl (cy 0, 6, .inl (fun _ => 0))), ((u 3), .inl (cy 0, 6, .inl (fun _ => 0))), ((u 4), .inl (cy 0, 6, .inl (fun _ => 0))), ((u 5), .inl (cy 0, 4, .inl (fun _ => 0)))] ++ ([] : va_W)
abbrev rm_c0 : Room := { frames := 1, cells := 6, slots := 32, locals := 20 }
set_option maxRecDepth 100000 in
set_option maxHeartbeats 4000000 in
theorem cc_X0 (l : Launch) (D : va_G) (cy : Nat → ClassId) (z0 : Nat) (ws : va_W) (k0 h0 : Nat)  (h0e : ws[k0]? = some (h0, .inr (0, [.null, .null]))) : Met l yX0_init (wz yX0_init cX0_init 1 none) rm_c0 (va_Pc [.ref h0] (c_pre D cy z0 ws)) (va_Qv (fun _ : S_X0 => True) (fun u t => va_P D g_cl (ws.set k0 (h0, .inr (0, [.ref (u 0), .ref (u 5)])) ++ nw_X0 cy u ) t.heap ∧ va_D (fun q => z0 ≤ q) (ws.set k0 (h0, .inr (0, [.ref (u 0), .ref (u 5)])) ++ nw_X0 cy u )) (fun q => z0 ≤ q)) 6 32 (fun q => z0 ≤ q) := by
  refine Met.ofW (cc := cX0_init) (maxL := 1) (ret := none) (by decide) rfl ?_
  intro p e s m args below meth c s₁ B hml hv
  obtain ⟨rfl, hCs, hP, hD, hz⟩ := hv
  have hx := B.exec
  have hb := B.bytes
  have hr := B.returns
  have hts : ∀ w ∈ wsL_law, w.before _ s = true := fun w h => atoms_spec (ws := wz yX0_init cX0_init 1 none) B.pre w (List.mem_cons_of_mem _ h)
  have hown : s.vm.findClass RX0 = some m.cls := findClass_of_methodNamed B.named
  have hlocks := B.notSynchronized
  have hin : meth.name = "<init>" := (name_of_methodNamed B.named B.method).1
  have hK := hCs.1
  have hA : ∀ q, s.heap.size ≤ q → (fun q => z0 ≤ q) q := fun q h => Nat.le_trans hz h
  have hS : va_S (fun q => z0 ≤ q) s.heap s.heap [] := va_S.rf
  have hl := lv_entry ([.ref h0]) (n := 1) (Nat.le_of_ble_eq_true rfl)
  rw [lg_entry_eq]
  generalize (lg_sl ([.ref h0]) ++ List.replicate (1 - (lg_sl ([.ref h0])).length) Slot.unset).toArray = ls at hl ⊢
  have hl : lv_has ls 1 [(0, .ref h0)] := hl
  have hP : va_P D g_cl ((ws.set k0 (h0, .inr (0, [.null, .null])) ++ []) ++ ([] : va_W)) s.heap := by rw [c_same h0e, List.append_nil, List.append_nil]; exact hP
  have hD : va_D (fun q => z0 ≤ q) ((ws.set k0 (h0, .inr (0, [.null, .null])) ++ []) ++ ([] : va_W)) := by rw [c_same h0e, List.append_nil, List.append_nil]; exact hD
  refine lv_aload_n hx hb dX0_init_0 rfl (lv_at hl 0 rfl) ?_
  refine W.objInit hx hb hown (hts _ q4_17) (hts _ q1_11) (hts _ q1_12) rfl (by rw [hml]; exact hl.1) rfl dX0_init_1 (Nat.le_of_ble_eq_true rfl) (Nat.le_of_ble_eq_true rfl) ?_
  refine W.eq (g2 := F0 m 4 ls []) rfl ?_
  refine lv_aload_n hx hb dX0_init_4 rfl (lv_at hl 0 rfl) ?_
  refine lv_iconst (v := 4) hx hb dX0_init_5 (by decide) ?_
  refine lv_bipush (v := 6) hx hb dX0_init_6 (by decide) ?_
  have hP0 : va_P D g_cl (((ws.set k0 (h0, .inr (0, [.null, .null])) ++ []) ++ ([] : va_W)) ++ va_pl [] (fun _ => .inl (cy 0, 0, .inl (fun _ => 0)))) s.heap := by rw [show va_pl [] (fun _ => (.inl (cy 0, 0, .inl (fun _ => 0)) : va_E)) = [] from rfl, List.append_nil]; exact hP
  have hD0 : va_D (fun q => z0 ≤ q) (((ws.set k0 (h0, .inr (0, [.null, .null])) ++ []) ++ ([] : va_W)) ++ va_pl [] (fun _ => .inl (cy 0, 0, .inl (fun _ => 0)))) := by rw [show va_pl [] (fun _ => (.inl (cy 0, 0, .inl (fun _ => 0)) : va_E)) = [] from rfl, List.append_nil]; exact hD
  have hfc : s.vm.findClass (FieldType.array .int).toString = some (cy 0) := (hK.2 0 _ rfl).2
  refine va_mna (ty := .int) (cy := cy 0) (N' := 4) (K' := 6) (z := (6, .inl (fun _ => 0))) hx hb hown (hts _ q4_18) (over_moved (Vm.Alike.refl s.vm) hCs.2.2.2.2.2.2.2.2.2) (hts _ q2_10) hfc hK hP0 hD0 hS hA (by decide) (by decide) (by decide) (by decide) (by decide) (by decide) (by decide) rfl rfl (Nat.le_of_ble_eq_true rfl) (Nat.le_of_ble_eq_true rfl) (fun c => by show ({ cls := c, slots := Array.replicate 6 (.int 0), vm := .none } : Cell) = _; rw [arrV_new]; rfl) dX0_init_8 (fun q1 r2 cA3 H hr1 hr2 hK9 hP hD hS => ?_)
  have e9 := c_cls (j := 4) rfl (fun _ h => by cases h) hK9
  subst e9
  rw [← vr_rows (fun a _ h => absurd h List.not_mem_nil), List.append_assoc] at hP hD
  have hP := hP.swap
  have hD := hD.swap
  rw [c_as] at hP hD
  have hfe : (fun i => if i < 4 then some (r2 i) else none) = (fun i => ([some (r2 0), some (r2 1), some (r2 2), some (r2 3)] : List (Option Nat)).getD i none) := by
    funext i
    match i with
    | 0 => rfl
    | 1 => rfl
    | 2 => rfl
    | 3 => rfl
    | i + 4 => simp
  rw [hfe] at hP hD
  have hP : va_P D g_cl ((ws.set k0 (h0, .inr (0, [.null, .null])) ++ [(q1, .inl (cy 4, 4, .inr (.inr (.inr (.inr (fun i => ([some (r2 0), some (r2 1), some (r2 2), some (r2 3)] : List (Option Nat)).getD i none)))))), (r2 0, .inl (cy 0, 6, .inl (fun _ => 0))), (r2 1, .inl (cy 0, 6, .inl (fun _ => 0))), (r2 2, .inl (cy 0, 6, .inl (fun _ => 0))), (r2 3, .inl (cy 0, 6, .inl (fun _ => 0)))]) ++ ([] : va_W)) H := hP
  have hD : va_D (fun q => z0 ≤ q) ((ws.set k0 (h0, .inr (0, [.null, .null])) ++ [(q1, .inl (cy 4, 4, .inr (.inr (.inr (.inr (fun i => ([some (r2 0), some (r2 1), some (r2 2), some (r2 3)] : List (Option Nat)).getD i none)))))), (r2 0, .inl (cy 0, 6, .inl (fun _ => 0))), (r2 1, .inl (cy 0, 6, .inl (fun _ => 0))), (r2 2, .inl (cy 0, 6, .inl (fun _ => 0))), (r2 3, .inl (cy 0, 6, .inl (fun _ => 0)))]) ++ ([] : va_W)) := hD
  refine va_putF (D := D) (ci := 0) (v := .ref q1) (ty := tyX0 0) (C := RX0) (T := TX0) (N := 2) hx hb hts inlX0 tyX0 tyX0_ok nmX0 hown hK hP hD hS k0 (c_thisZ h0e) rfl 0 (by decide) (hts _ q4_19) (fun _ h => h) rfl hin rfl (tyX0_ok 0 (by decide)) rfl rfl (Nat.le_of_ble_eq_true rfl) dX0_init_12 (fun H locs hP hD hS => ?_)
  rw [c_setTZ h0e] at hP hD
  have hP : va_P D g_cl ((ws.set k0 (h0, .inr (0, [.ref q1, .null])) ++ [(q1, .inl (cy 4, 4, .inr (.inr (.inr (.inr (fun i => ([some (r2 0), some (r2 1), some (r2 2), some (r2 3)] : List (Option Nat)).getD i none)))))), (r2 0, .inl (cy 0, 6, .inl (fun _ => 0))), (r2 1, .inl (cy 0, 6, .inl (fun _ => 0))), (r2 2, .inl (cy 0, 6, .inl (fun _ => 0))), (r2 3, .inl (cy 0, 6, .inl (fun _ => 0)))]) ++ ([] : va_W)) H := hP
  have hD : va_D (fun q => z0 ≤ q) ((ws.set k0 (h0, .inr (0, [.ref q1, .null])) ++ [(q1, .inl (cy 4, 4, .inr (.inr (.inr (.inr (fun i => ([some (r2 0), some (r2 1), some (r2 2), some (r2 3)] : List (Option Nat)).getD i none)))))), (r2 0, .inl (cy 0, 6, .inl (fun _ => 0))), (r2 1, .inl (cy 0, 6, .inl (fun _ => 0))), (r2 2, .inl (cy 0, 6, .inl (fun _ => 0))), (r2 3, .inl (cy 0, 6, .inl (fun _ => 0)))]) ++ ([] : va_W)) := hD
  refine lv_aload_n hx hb dX0_init_15 rfl (lv_at hl 0 rfl) ?_
  refine lv_iconst (v := 4) hx hb dX0_init_16 (by decide) ?_
  refine c_newi (N := 4) hx hb hts hK hP hD hS hA (by decide) (by decide) (by decide) (Nat.le_of_ble_eq_true rfl) (Nat.le_of_ble_eq_true rfl) dX0_init_17 (fun q4 H hP hD hS => ?_)
  have hP := hP.swap
  have hD := hD.swap
  rw [c_as] at hP hD
  have hP : va_P D g_cl ((ws.set k0 (h0, .inr (0, [.ref q1, .null])) ++ [(q1, .inl (cy 4, 4, .inr (.inr (.inr (.inr (fun i => ([some (r2 0), some (r2 1), some (r2 2), some (r2 3)] : List (Option Nat)).getD i none)))))), (r2 0, .inl (cy 0, 6, .inl (fun _ => 0))), (r2 1, .inl (cy 0, 6, .inl (fun _ => 0))), (r2 2, .inl (cy 0, 6, .inl (fun _ => 0))), (r2 3, .inl (cy 0, 6, .inl (fun _ => 0))), (q4, .inl (cy 0, 4, .inl (fun _ => 0)))]) ++ ([] : va_W)) H := hP
  have hD : va_D (fun q => z0 ≤ q) ((ws.set k0 (h0, .inr (0, [.ref q1, .null])) ++ [(q1, .inl (cy 4, 4, .inr (.inr (.inr (.inr (fun i => ([some (r2 0), some (r2 1), some (r2 2), some (r2 3)] : List (Option Nat)).getD i none)))))), (r2 0, .inl (cy 0, 6, .inl (fun _ => 0))), (r2 1, .inl (cy 0, 6, .inl (fun _ => 0))), (r2 2, .inl (cy 0, 6, .inl (fun _ => 0))), (r2 3, .inl (cy 0, 6, .inl (fun _ => 0))), (q4, .inl (cy 0, 4, .inl (fun _ => 0)))]) ++ ([] : va_W)) := hD
  refine va_putF (D := D) (ci := 0) (v := .ref q4) (ty := tyX0 1) (C := RX0) (T := TX0) (N := 2) hx hb hts inlX0 tyX0 tyX0_ok nmX0 hown hK hP hD hS k0 (c_thisZ h0e) rfl 1 (by decide) (hts _ q4_20) (fun _ h => h) rfl hin rfl (tyX0_ok 1 (by decide)) rfl rfl (Nat.le_of_ble_eq_true rfl) dX0_init_19 (fun H locs hP hD hS => ?_)
  rw [c_setTZ h0e] at hP hD
  have hP : va_P D g_cl ((ws.set k0 (h0, .inr (0, [.ref q1, .ref q4])) ++ [(q1, .inl (cy 4, 4, .inr (.inr (.inr (.inr (fun i => ([some (r2 0), some (r2 1), some (r2 2), some (r2 3)] : List (Option Nat)).getD i none)))))), (r2 0, .inl (cy 0, 6, .inl (fun _ => 0))), (r2 1, .inl (cy 0, 6, .inl (fun _ => 0))), (r2 2, .inl (cy 0, 6, .inl (fun _ => 0))), (r2 3, .inl (cy 0, 6, .inl (fun _ => 0))), (q4, .inl (cy 0, 4, .inl (fun _ => 0)))]) ++ ([] : va_W)) H := hP
  have hD : va_D (fun q => z0 ≤ q) ((ws.set k0 (h0, .inr (0, [.ref q1, .ref q4])) ++ [(q1, .inl (cy 4, 4, .inr (.inr (.inr (.inr (fun i => ([some (r2 0), some (r2 1), some (r2 2), some (r2 3)] : List (Option Nat)).getD i none)))))), (r2 0, .inl (cy 0, 6, .inl (fun _ => 0))), (r2 1, .inl (cy 0, 6, .inl (fun _ => 0))), (r2 2, .inl (cy 0, 6, .inl (fun _ => 0))), (r2 3, .inl (cy 0, 6, .inl (fun _ => 0))), (q4, .inl (cy 0, 4, .inl (fun _ => 0)))]) ++ ([] : va_W)) := hD
  exact W.vret hx hb hr (fun t ht hW => ⟨⟨(fun k => ([q1, r2 0, r2 1, r2 2, r2 3, q4] : List Nat).getD k 0), rfl, trivial, by show va_P D g_cl _ t.heap; rw [ht]; unfold nw_X0; rw [← List.append_assoc]; exact hP, by unfold nw_X0; rw [← List.append_assoc]; exact hD⟩, hS.F ht⟩) hS.2.2 dX0_init_22 hlocks
theorem hdc_X8 : yX8_init.cls ≠ "java/lang/invoke/MethodHandle" ∧ yX8_init.cls ≠ "java/lang/invoke/VarHandle" ∧ (parseMethodDescriptor yX8_init.desc).map (fun d => d.parameters.length) = some 0 := by decide +kernel
abbrev S_X8 : Type := (Nat → Nat) × S_X3
def nw_X8 (cy : Nat → ClassId) (u : S_X8)  : va_W := [((u.1 0), .inl (cy 0, 8, .inl (fun j => if j < 8 then 2 else 0))), ((u.1 1), .inl (cy 0, 8, .inl (fun _ => 0))), ((u.1 2), .inr (3, [.ref (u.2 0), .int 0, .int 0]))] ++ (([] : va_W) ++ nw_X3 cy u.2)
abbrev rm_c8 : Room := { frames := 2, cells := 4, slots := 179, locals := 40 }
set_option maxRecDepth 100000 in
set_option maxHeartbeats 4000000 in
theorem cc_X8 (l : Launch) (D : va_G) (cy : Nat → ClassId) (z0 : Nat) (ws : va_W) (k0 h0 : Nat)  (h0e : ws[k0]? = some (h0, .inr (8, [.null, .null, .null]))) : Met l yX8_init (wz yX8_init cX8_init 1 none) rm_c8 (va_Pc [.ref h0] (c_pre D cy z0 ws)) (va_Qv (fun _ : S_X8 => True) (fun u t => va_P D g_cl (ws.set k0 (h0, .inr (8, [.ref (u.1 0), .ref (u.1 1), .ref (u.1 2)])) ++ nw_X8 cy u ) t.heap ∧ va_D (fun q => z0 ≤ q) (ws.set k0 (h0, .inr (8, [.ref (u.1 0), .ref (u.1 1), .ref (u.1 2)])) ++ nw_X8 cy u )) (fun q => z0 ≤ q)) 4 179 (fun q => z0 ≤ q) := by
  refine Met.ofW (cc := cX8_init) (maxL := 1) (ret := none) (by decide) rfl ?_
  intro p e s m args below meth c s₁ B hml hv
  obtain ⟨rfl, hCs, hP, hD, hz⟩ := hv
  have hx := B.exec
  have hb := B.bytes
  have hr := B.returns
  have hts : ∀ w ∈ wsL_law, w.before _ s = true := fun w h => atoms_spec (ws := wz yX8_init cX8_init 1 none) B.pre w (List.mem_cons_of_mem _ h)
  have hown : s.vm.findClass RX8 = some m.cls := findClass_of_methodNamed B.named
  have hlocks := B.notSynchronized
  have hin : meth.name = "<init>" := (name_of_methodNamed B.named B.method).1
  have hK := hCs.1
  have hA : ∀ q, s.heap.size ≤ q → (fun q => z0 ≤ q) q := fun q h => Nat.le_trans hz h
  have hS : va_S (fun q => z0 ≤ q) s.heap s.heap [] := va_S.rf
  have hl := lv_entry ([.ref h0]) (n := 1) (Nat.le_of_ble_eq_true rfl)
  rw [lg_entry_eq]
  generalize (lg_sl ([.ref h0]) ++ List.replicate (1 - (lg_sl ([.ref h0])).length) Slot.unset).toArray = ls at hl ⊢
  have hl : lv_has ls 1 [(0, .ref h0)] := hl
  have hP : va_P D g_cl ((ws.set k0 (h0, .inr (8, [.null, .null, .null])) ++ []) ++ ([] : va_W)) s.heap := by rw [c_same h0e, List.append_nil, List.append_nil]; exact hP
  have hD : va_D (fun q => z0 ≤ q) ((ws.set k0 (h0, .inr (8, [.null, .null, .null])) ++ []) ++ ([] : va_W)) := by rw [c_same h0e, List.append_nil, List.append_nil]; exact hD
  refine lv_aload_n hx hb dX8_init_0 rfl (lv_at hl 0 rfl) ?_
  refine W.objInit hx hb hown (hts _ q4_3) (hts _ q1_11) (hts _ q1_12) rfl (by rw [hml]; exact hl.1) rfl dX8_init_1 (Nat.le_of_ble_eq_true rfl) (Nat.le_of_ble_eq_true rfl) ?_
  refine W.eq (g2 := F0 m 4 ls []) rfl ?_
  refine lv_aload_n hx hb dX8_init_4 rfl (lv_at hl 0 rfl) ?_
  refine lv_bipush (v := 8) hx hb dX8_init_5 (by decide) ?_
  refine c_newi (N := 8) hx hb hts hK hP hD hS hA (by decide) (by decide) (by decide) (Nat.le_of_ble_eq_true rfl) (Nat.le_of_ble_eq_true rfl) dX8_init_7 (fun q1 H hP hD hS => ?_)
  have hP := hP.swap
  have hD := hD.swap
  rw [c_as] at hP hD
  have hP : va_P D g_cl ((ws.set k0 (h0, .inr (8, [.null, .null, .null])) ++ [(q1, .inl (cy 0, 8, .inl (fun _ => 0)))]) ++ ([] : va_W)) H := hP
  have hD : va_D (fun q => z0 ≤ q) ((ws.set k0 (h0, .inr (8, [.null, .null, .null])) ++ [(q1, .inl (cy 0, 8, .inl (fun _ => 0)))]) ++ ([] : va_W)) := hD
  refine va_putF (D := D) (ci := 8) (v := .ref q1) (ty := tyX8 0) (C := RX8) (T := TX8) (N := 3) hx hb hts inlX8 tyX8 tyX8_ok nmX8 hown hK hP hD hS k0 (c_thisZ h0e) rfl 0 (by decide) (hts _ q4_4) (fun _ h => h) rfl hin rfl (tyX8_ok 0 (by decide)) rfl rfl (Nat.le_of_ble_eq_true rfl) dX8_init_9 (fun H locs hP hD hS => ?_)
  rw [c_setTZ h0e] at hP hD
  have hP : va_P D g_cl ((ws.set k0 (h0, .inr (8, [.ref q1, .null, .null])) ++ [(q1, .inl (cy 0, 8, .inl (fun _ => 0)))]) ++ ([] : va_W)) H := hP
  have hD : va_D (fun q => z0 ≤ q) ((ws.set k0 (h0, .inr (8, [.ref q1, .null, .null])) ++ [(q1, .inl (cy 0, 8, .inl (fun _ => 0)))]) ++ ([] : va_W)) := hD
  refine lv_aload_n hx hb dX8_init_12 rfl (lv_at hl 0 rfl) ?_
  refine lv_bipush (v := 8) hx hb dX8_init_13 (by decide) ?_
  refine c_newi (N := 8) hx hb hts hK hP hD hS hA (by decide) (by decide) (by decide) (Nat.le_of_ble_eq_true rfl) (Nat.le_of_ble_eq_true rfl) dX8_init_15 (fun q2 H hP hD hS => ?_)
  have hP := hP.swap
  have hD := hD.swap
  rw [c_as] at hP hD
  have hP : va_P D g_cl ((ws.set k0 (h0, .inr (8, [.ref q1, .null, .null])) ++ [(q1, .inl (cy 0, 8, .inl (fun _ => 0))), (q2, .inl (cy 0, 8, .inl (fun _ => 0)))]) ++ ([] : va_W)) H := hP
  have hD : va_D (fun q => z0 ≤ q) ((ws.set k0 (h0, .inr (8, [.ref q1, .null, .null])) ++ [(q1, .inl (cy 0, 8, .inl (fun _ => 0))), (q2, .inl (cy 0, 8, .inl (fun _ => 0)))]) ++ ([] : va_W)) := hD
  refine va_putF (D := D) (ci := 8) (v := .ref q2) (ty := tyX8 1) (C := RX8) (T := TX8) (N := 3) hx hb hts inlX8 tyX8 tyX8_ok nmX8 hown hK hP hD hS k0 (c_thisZ h0e) rfl 1 (by decide) (hts _ q4_5) (fun _ h => h) rfl hin rfl (tyX8_ok 1 (by decide)) rfl rfl (Nat.le_of_ble_eq_true rfl) dX8_init_17 (fun H locs hP hD hS => ?_)
  rw [c_setTZ h0e] at hP hD
  have hP : va_P D g_cl ((ws.set k0 (h0, .inr (8, [.ref q1, .ref q2, .null])) ++ [(q1, .inl (cy 0, 8, .inl (fun _ => 0))), (q2, .inl (cy 0, 8, .inl (fun _ => 0)))]) ++ ([] : va_W)) H := hP
  have hD : va_D (fun q => z0 ≤ q) ((ws.set k0 (h0, .inr (8, [.ref q1, .ref q2, .null])) ++ [(q1, .inl (cy 0, 8, .inl (fun _ => 0))), (q2, .inl (cy 0, 8, .inl (fun _ => 0)))]) ++ ([] : va_W)) := hD
  refine lv_aload_n hx hb dX8_init_20 rfl (lv_at hl 0 rfl) ?_
  refine va_new (ci := 3) (fs := [.null, .int 0, .int 0]) (C := RX3) (T := TX3) (N := 3) hx hb hts inlX3 tyX3 tyX3_ok hown (hts _ q4_6) (hts _ q4_7) (hts _ q4_8) hK hP hD hS hA rfl (fun j hj => by rcases (show j = 0 ∨ j = 1 ∨ j = 2 by omega) with rfl | rfl | rfl <;> rfl) (Nat.le_of_ble_eq_true rfl) (Nat.le_of_ble_eq_true rfl) dX8_init_21 (fun q3 H hP hD hS => ?_)
  have hP := hP.swap
  have hD := hD.swap
  rw [c_as] at hP hD
  have hP : va_P D g_cl ((ws.set k0 (h0, .inr (8, [.ref q1, .ref q2, .null])) ++ [(q1, .inl (cy 0, 8, .inl (fun _ => 0))), (q2, .inl (cy 0, 8, .inl (fun _ => 0))), (q3, .inr (3, [.null, .int 0, .int 0]))]) ++ ([] : va_W)) H := hP
  have hD : va_D (fun q => z0 ≤ q) ((ws.set k0 (h0, .inr (8, [.ref q1, .ref q2, .null])) ++ [(q1, .inl (cy 0, 8, .inl (fun _ => 0))), (q2, .inl (cy 0, 8, .inl (fun _ => 0))), (q3, .inr (3, [.null, .int 0, .int 0]))]) ++ ([] : va_W)) := hD
  refine lv_dup hx hb dX8_init_24 rfl ?_
  refine va_callv (va_runIN (As := []) (rest := [.ref q3, .ref h0]) ⟨hx, hb, hml, hown, hts⟩ (cc_X3 l D cy z0 _ (ws.length + 2) q3  (c_newZ 2 rfl)) ⟨va_cnB 0 hts (wz_N q4_11) rfl rfl rfl hCs.2.2.2.2.1 (hts _ q4_8) hdc_X3 ⟨Nat.le_of_ble_eq_true rfl, Nat.le_of_ble_eq_true rfl⟩, rfl, hts _ q4_10⟩ ⟨c_blind, fun U hU hW => ⟨rfl, hCs.moved hW, by rw [hU]; exact hP, hD, by rw [hU]; exact Nat.le_trans hz hS.1⟩⟩ rfl rfl hl.1 rfl (lv_room (Nat.le_of_ble_eq_true rfl)) dX8_init_25 ⟨Nat.le_of_ble_eq_true rfl, Nat.le_of_ble_eq_true rfl⟩) hS (fun _ _ h => h) (fun _ h => h) (fun n4 t H locs ht hvm _ hB hz1 hk1 hS => ?_)
  obtain ⟨hP, hD⟩ := hB
  rw [ht] at hP
  rw [c_setNZ _ (Nat.le_of_ble_eq_true rfl), List.append_assoc] at hP hD
  have hP : va_P D g_cl ((ws.set k0 (h0, .inr (8, [.ref q1, .ref q2, .null])) ++ [(q1, .inl (cy 0, 8, .inl (fun _ => 0))), (q2, .inl (cy 0, 8, .inl (fun _ => 0))), (q3, .inr (3, [.ref (n4 0), .int 0, .int 0]))]) ++ (([] : va_W) ++ nw_X3 cy n4)) H := hP
  have hD : va_D (fun q => z0 ≤ q) ((ws.set k0 (h0, .inr (8, [.ref q1, .ref q2, .null])) ++ [(q1, .inl (cy 0, 8, .inl (fun _ => 0))), (q2, .inl (cy 0, 8, .inl (fun _ => 0))), (q3, .inr (3, [.ref (n4 0), .int 0, .int 0]))]) ++ (([] : va_W) ++ nw_X3 cy n4)) := hD
  refine va_putF (D := D) (ci := 8) (v := .ref q3) (ty := tyX8 2) (C := RX8) (T := TX8) (N := 3) hx hb hts inlX8 tyX8 tyX8_ok nmX8 hown hK hP hD hS k0 (c_thisZ h0e) rfl 2 (by decide) (hts _ q4_9) (fun _ h => h) rfl hin rfl (tyX8_ok 2 (by decide)) rfl rfl (Nat.le_of_ble_eq_true rfl) dX8_init_28 (fun H locs hP hD hS => ?_)
  rw [c_setTZ h0e] at hP hD
  have hP : va_P D g_cl ((ws.set k0 (h0, .inr (8, [.ref q1, .ref q2, .ref q3])) ++ [(q1, .inl (cy 0, 8, .inl (fun _ => 0))), (q2, .inl (cy 0, 8, .inl (fun _ => 0))), (q3, .inr (3, [.ref (n4 0), .int 0, .int 0]))]) ++ (([] : va_W) ++ nw_X3 cy n4)) H := hP
  have hD : va_D (fun q => z0 ≤ q) ((ws.set k0 (h0, .inr (8, [.ref q1, .ref q2, .ref q3])) ++ [(q1, .inl (cy 0, 8, .inl (fun _ => 0))), (q2, .inl (cy 0, 8, .inl (fun _ => 0))), (q3, .inr (3, [.ref (n4 0), .int 0, .int 0]))]) ++ (([] : va_W) ++ nw_X3 cy n4)) := hD
  refine lv_aload_n hx hb dX8_init_31 rfl (lv_at hl 0 rfl) ?_
  refine va_get (D := D) (ci := 8) (v := .ref q1) (C := RX8) (T := TX8) (N := 3) hx hb hts inlX8 hown hK hP k0 (c_thisZ h0e) rfl 0 (by decide) (hts _ q4_4) (fun _ h => h) rfl dX8_init_32 ?_
  refine lv_iconst (v := 2) hx hb dX8_init_35 (by decide) ?_
  refine va_callv (va_runS (As := [.ref q1, .int 2]) (rest := []) ⟨hx, hb, hml, hown, hts⟩ (ct_fill l (D := D) (cl := g_cl) (A := fun q => z0 ≤ q) (v := 2) (q0 := ws.length + 0) (by decide) (c_newZ 0 rfl)) ⟨callB_of 2 hts (wz_N q2_22) rfl rfl rfl (hts _ q2_21) (hts _ q4_14) (by decide +kernel) ⟨Nat.le_of_ble_eq_true rfl, Nat.le_of_ble_eq_true rfl⟩, hts _ q2_20⟩ ⟨fun a U g mk q => ⟨q.1, q.2.1, va_K.moved (u := U) (U := U.calling g mk a) (Vm.Alike.refl U.vm) q.2.2.1, q.2.2.2⟩, fun U hU hW => ⟨rfl, by rw [hU]; exact hP, va_K.moved hW.alike (hK.sub (tys' := [(cy 0, .int)]) [0] rfl), hD⟩⟩ rfl rfl hl.1 rfl (lv_room (Nat.le_of_ble_eq_true rfl)) dX8_init_36 ⟨Nat.le_of_ble_eq_true rfl, Nat.le_of_ble_eq_true rfl⟩) hS (fun _ _ h => h) (fun _ h => h) (fun _ t H locs ht hvm _ hB hz1 hk1 hS => ?_)
  have hP : va_P D g_cl _ t.heap := hB
  rw [ht, c_setNZ _ (Nat.le_of_ble_eq_true rfl)] at hP
  have hD := hD.set (c_newZ 0 rfl) (e := .inl (cy 0, 8, .inl (fun j => if j < 8 then 2 else 0)))
  rw [c_setNZ _ (Nat.le_of_ble_eq_true rfl)] at hD
  have hP : va_P D g_cl ((ws.set k0 (h0, .inr (8, [.ref q1, .ref q2, .ref q3])) ++ [(q1, .inl (cy 0, 8, .inl (fun j => if j < 8 then 2 else 0))), (q2, .inl (cy 0, 8, .inl (fun _ => 0))), (q3, .inr (3, [.ref (n4 0), .int 0, .int 0]))]) ++ (([] : va_W) ++ nw_X3 cy n4)) H := hP
  have hD : va_D (fun q => z0 ≤ q) ((ws.set k0 (h0, .inr (8, [.ref q1, .ref q2, .ref q3])) ++ [(q1, .inl (cy 0, 8, .inl (fun j => if j < 8 then 2 else 0))), (q2, .inl (cy 0, 8, .inl (fun _ => 0))), (q3, .inr (3, [.ref (n4 0), .int 0, .int 0]))]) ++ (([] : va_W) ++ nw_X3 cy n4)) := hD
  exact W.vret hx hb hr (fun t ht hW => ⟨⟨((fun k => ([q1, q2, q3] : List Nat).getD k 0), n4), rfl, trivial, by show va_P D g_cl _ t.heap; rw [ht]; unfold nw_X8; rw [← List.append_assoc]; exact hP, by unfold nw_X8; rw [← List.append_assoc]; exact hD⟩, hS.F ht⟩) hS.2.2 dX8_init_39 hlocks
theorem hdc_X9 : yX9_init.cls ≠ "java/lang/invoke/MethodHandle" ∧ yX9_init.cls ≠ "java/lang/invoke/VarHandle" ∧ (parseMethodDescriptor yX9_init.desc).map (fun d => d.parameters.length) = some 1 := by decide +kernel
abbrev S_X9 : Type := (Nat → Nat) × S_X1 × S_X4
def nw_X9 (cy : Nat → ClassId) (u : S_X9) (x1 : Int32) : va_W := [((u.1 0), .inr (1, [.ref (u.2.1 0), .ref (u.2.1 1), .ref (u.2.1 2), .ref (u.2.1 3), .int 0])), ((u.1 1), .inr (4, [.int 0, .int 0, .int 0, .int 0, .int 0])), ((u.1 2), .inl (cy 0, 8, .inl (fun _ => 0))), ((u.1 3), .inl (cy 0, 16, .inl (fun _ => 0))), ((u.1 4), .inl (cy 0, 24, .inl (fun _ => 0)))] ++ ((([] : va_W) ++ nw_X1 cy u.2.1) ++ nw_X4 cy u.2.2)
abbrev rm_c9 : Room := { frames := 2, cells := 9, slots := 154, locals := 40 }
set_option maxRecDepth 100000 in
set_option maxHeartbeats 4000000 in
theorem cc_X9 (l : Launch) (D : va_G) (cy : Nat → ClassId) (z0 : Nat) (ws : va_W) (k0 h0 : Nat) (x1 : Int32) (h0e : ws[k0]? = some (h0, .inr (9, [.int 0, .null, .null, .null, .null, .null, .int 0, .int 0, .int 0, .int 0, .int 0, .int 0, .int 0, .int 0, .int 0]))) : Met l yX9_init (wz yX9_init cX9_init 2 none) rm_c9 (va_Pc [.ref h0, .int x1] (c_pre D cy z0 ws)) (va_Qv (fun _ : S_X9 => True) (fun u t => va_P D g_cl (ws.set k0 (h0, .inr (9, [.int x1, .ref (u.1 0), .ref (u.1 1), .ref (u.1 2), .ref (u.1 3), .ref (u.1 4), .int (-1), .int 1, .int 0, .int 0, .int 0, .int 0, .int 0, .int 0, .int 0])) ++ nw_X9 cy u x1) t.heap ∧ va_D (fun q => z0 ≤ q) (ws.set k0 (h0, .inr (9, [.int x1, .ref (u.1 0), .ref (u.1 1), .ref (u.1 2), .ref (u.1 3), .ref (u.1 4), .int (-1), .int 1, .int 0, .int 0, .int 0, .int 0, .int 0, .int 0, .int 0])) ++ nw_X9 cy u x1)) (fun q => z0 ≤ q)) 9 154 (fun q => z0 ≤ q) := by
  refine Met.ofW (cc := cX9_init) (maxL := 2) (ret := none) (by decide) rfl ?_
  intro p e s m args below meth c s₁ B hml hv
  obtain ⟨rfl, hCs, hP, hD, hz⟩ := hv
  have hx := B.exec
  have hb := B.bytes
  have hr := B.returns
  have hts : ∀ w ∈ wsL_law, w.before _ s = true := fun w h => atoms_spec (ws := wz yX9_init cX9_init 2 none) B.pre w (List.mem_cons_of_mem _ h)
  have hown : s.vm.findClass RX9 = some m.cls := findClass_of_methodNamed B.named
  have hlocks := B.notSynchronized
  have hin : meth.name = "<init>" := (name_of_methodNamed B.named B.method).1
  have hK := hCs.1
  have hA : ∀ q, s.heap.size ≤ q → (fun q => z0 ≤ q) q := fun q h => Nat.le_trans hz h
  have hS : va_S (fun q => z0 ≤ q) s.heap s.heap [] := va_S.rf
  have hl := lv_entry ([.ref h0, .int x1]) (n := 2) (Nat.le_of_ble_eq_true rfl)
  rw [lg_entry_eq]
  generalize (lg_sl ([.ref h0, .int x1]) ++ List.replicate (2 - (lg_sl ([.ref h0, .int x1])).length) Slot.unset).toArray = ls at hl ⊢
  have hl : lv_has ls 2 [(0, .ref h0), (1, .int x1)] := hl
  have hP : va_P D g_cl ((ws.set k0 (h0, .inr (9, [.int 0, .null, .null, .null, .null, .null, .int 0, .int 0, .int 0, .int 0, .int 0, .int 0, .int 0, .int 0, .int 0])) ++ []) ++ ([] : va_W)) s.heap := by rw [c_same h0e, List.append_nil, List.append_nil]; exact hP
  have hD : va_D (fun q => z0 ≤ q) ((ws.set k0 (h0, .inr (9, [.int 0, .null, .null, .null, .null, .null, .int 0, .int 0, .int 0, .int 0, .int 0, .int 0, .int 0, .int 0, .int 0])) ++ []) ++ ([] : va_W)) := by rw [c_same h0e, List.append_nil, List.append_nil]; exact hD
  refine lv_aload_n hx hb dX9_init_0 rfl (lv_at hl 0 rfl) ?_
  refine W.objInit hx hb hown (hts _ q5_0) (hts _ q1_11) (hts _ q1_12) rfl (by rw [hml]; exact hl.1) rfl dX9_init_1 (Nat.le_of_ble_eq_true rfl) (Nat.le_of_ble_eq_true rfl) ?_
  refine W.eq (g2 := F0 m 4 ls []) rfl ?_
  refine lv_aload_n hx hb dX9_init_4 rfl (lv_at hl 0 rfl) ?_
  refine va_new (ci := 1) (fs := [.null, .null, .null, .null, .int 0]) (C := RX1) (T := TX1) (N := 5) hx hb hts inlX1 tyX1 tyX1_ok hown (hts _ q5_1) (hts _ q5_2) (hts _ q5_3) hK hP hD hS hA rfl (fun j hj => by rcases (show j = 0 ∨ j = 1 ∨ j = 2 ∨ j = 3 ∨ j = 4 by omega) with rfl | rfl | rfl | rfl | rfl <;> rfl) (Nat.le_of_ble_eq_true rfl) (Nat.le_of_ble_eq_true rfl) dX9_init_5 (fun q1 H hP hD hS => ?_)
  have hP := hP.swap
  have hD := hD.swap
  rw [c_as] at hP hD
  have hP : va_P D g_cl ((ws.set k0 (h0, .inr (9, [.int 0, .null, .null, .null, .null, .null, .int 0, .int 0, .int 0, .int 0, .int 0, .int 0, .int 0, .int 0, .int 0])) ++ [(q1, .inr (1, [.null, .null, .null, .null, .int 0]))]) ++ ([] : va_W)) H := hP
  have hD : va_D (fun q => z0 ≤ q) ((ws.set k0 (h0, .inr (9, [.int 0, .null, .null, .null, .null, .null, .int 0, .int 0, .int 0, .int 0, .int 0, .int 0, .int 0, .int 0, .int 0])) ++ [(q1, .inr (1, [.null, .null, .null, .null, .int 0]))]) ++ ([] : va_W)) := hD
  refine lv_dup hx hb dX9_init_8 rfl ?_
  refine va_callv (va_runIN (As := []) (rest := [.ref q1, .ref h0]) ⟨hx, hb, hml, hown, hts⟩ (cc_X1 l D cy z0 _ (ws.length + 0) q1  (c_newZ 0 rfl)) ⟨va_cnB 0 hts (wz_N q5_18) rfl rfl rfl hCs.2.2.2.2.2.2.1 (hts _ q5_3) hdc_X1 ⟨Nat.le_of_ble_eq_true rfl, Nat.le_of_ble_eq_true rfl⟩, rfl, hts _ q5_17⟩ ⟨c_blind, fun U hU hW => ⟨rfl, hCs.moved hW, by rw [hU]; exact hP, hD, by rw [hU]; exact Nat.le_trans hz hS.1⟩⟩ rfl rfl hl.1 rfl (lv_room (Nat.le_of_ble_eq_true rfl)) dX9_init_9 ⟨Nat.le_of_ble_eq_true rfl, Nat.le_of_ble_eq_true rfl⟩) hS (fun _ _ h => h) (fun _ h => h) (fun n2 t H locs ht hvm _ hB hz1 hk1 hS => ?_)
  obtain ⟨hP, hD⟩ := hB
  rw [ht] at hP
  rw [c_setNZ _ (Nat.le_of_ble_eq_true rfl), List.append_assoc] at hP hD
  have hP : va_P D g_cl ((ws.set k0 (h0, .inr (9, [.int 0, .null, .null, .null, .null, .null, .int 0, .int 0, .int 0, .int 0, .int 0, .int 0, .int 0, .int 0, .int 0])) ++ [(q1, .inr (1, [.ref (n2 0), .ref (n2 1), .ref (n2 2), .ref (n2 3), .int 0]))]) ++ (([] : va_W) ++ nw_X1 cy n2)) H := hP
  have hD : va_D (fun q => z0 ≤ q) ((ws.set k0 (h0, .inr (9, [.int 0, .null, .null, .null, .null, .null, .int 0, .int 0, .int 0, .int 0, .int 0, .int 0, .int 0, .int 0, .int 0])) ++ [(q1, .inr (1, [.ref (n2 0), .ref (n2 1), .ref (n2 2), .ref (n2 3), .int 0]))]) ++ (([] : va_W) ++ nw_X1 cy n2)) := hD
  refine va_putF (D := D) (ci := 9) (v := .ref q1) (ty := tyX9 1) (C := RX9) (T := TX9) (N := 15) hx hb hts inlX9 tyX9 tyX9_ok nmX9 hown hK hP hD hS k0 (c_thisZ h0e) rfl 1 (by decide) (hts _ q5_4) (fun _ h => h) rfl hin rfl (tyX9_ok 1 (by decide)) rfl rfl (Nat.le_of_ble_eq_true rfl) dX9_init_12 (fun H locs hP hD hS => ?_)
  rw [c_setTZ h0e] at hP hD
  have hP : va_P D g_cl ((ws.set k0 (h0, .inr (9, [.int 0, .ref q1, .null, .null, .null, .null, .int 0, .int 0, .int 0, .int 0, .int 0, .int 0, .int 0, .int 0, .int 0])) ++ [(q1, .inr (1, [.ref (n2 0), .ref (n2 1), .ref (n2 2), .ref (n2 3), .int 0]))]) ++ (([] : va_W) ++ nw_X1 cy n2)) H := hP
  have hD : va_D (fun q => z0 ≤ q) ((ws.set k0 (h0, .inr (9, [.int 0, .ref q1, .null, .null, .null, .null, .int 0, .int 0, .int 0, .int 0, .int 0, .int 0, .int 0, .int 0, .int 0])) ++ [(q1, .inr (1, [.ref (n2 0), .ref (n2 1), .ref (n2 2), .ref (n2 3), .int 0]))]) ++ (([] : va_W) ++ nw_X1 cy n2)) := hD
  refine lv_aload_n hx hb dX9_init_15 rfl (lv_at hl 0 rfl) ?_
  refine va_new (ci := 4) (fs := [.int 0, .int 0, .int 0, .int 0, .int 0]) (C := RX4) (T := TX4) (N := 5) hx hb hts inlX4 tyX4 tyX4_ok hown (hts _ q5_5) (hts _ q5_6) (hts _ q5_7) hK hP hD hS hA rfl (fun j hj => by rcases (show j = 0 ∨ j = 1 ∨ j = 2 ∨ j = 3 ∨ j = 4 by omega) with rfl | rfl | rfl | rfl | rfl <;> rfl) (Nat.le_of_ble_eq_true rfl) (Nat.le_of_ble_eq_true rfl) dX9_init_16 (fun q3 H hP hD hS => ?_)
  have hP := hP.swap
  have hD := hD.swap
  rw [c_as] at hP hD
  have hP : va_P D g_cl ((ws.set k0 (h0, .inr (9, [.int 0, .ref q1, .null, .null, .null, .null, .int 0, .int 0, .int 0, .int 0, .int 0, .int 0, .int 0, .int 0, .int 0])) ++ [(q1, .inr (1, [.ref (n2 0), .ref (n2 1), .ref (n2 2), .ref (n2 3), .int 0])), (q3, .inr (4, [.int 0, .int 0, .int 0, .int 0, .int 0]))]) ++ (([] : va_W) ++ nw_X1 cy n2)) H := hP
  have hD : va_D (fun q => z0 ≤ q) ((ws.set k0 (h0, .inr (9, [.int 0, .ref q1, .null, .null, .null, .null, .int 0, .int 0, .int 0, .int 0, .int 0, .int 0, .int 0, .int 0, .int 0])) ++ [(q1, .inr (1, [.ref (n2 0), .ref (n2 1), .ref (n2 2), .ref (n2 3), .int 0])), (q3, .inr (4, [.int 0, .int 0, .int 0, .int 0, .int 0]))]) ++ (([] : va_W) ++ nw_X1 cy n2)) := hD
  refine lv_dup hx hb dX9_init_19 rfl ?_
  refine va_callv (va_runIN (As := []) (rest := [.ref q3, .ref h0]) ⟨hx, hb, hml, hown, hts⟩ (cc_X4 l D cy z0 _ (ws.length + 1) q3  (c_newZ 1 rfl)) ⟨va_cnB 0 hts (wz_N q6_1) rfl rfl rfl hCs.2.2.2.2.2.2.2.1 (hts _ q5_7) hdc_X4 ⟨Nat.le_of_ble_eq_true rfl, Nat.le_of_ble_eq_true rfl⟩, rfl, hts _ q6_0⟩ ⟨c_blind, fun U hU hW => ⟨rfl, hCs.moved hW, by rw [hU]; exact hP, hD, by rw [hU]; exact Nat.le_trans hz hS.1⟩⟩ rfl rfl hl.1 rfl (lv_room (Nat.le_of_ble_eq_true rfl)) dX9_init_20 ⟨Nat.le_of_ble_eq_true rfl, Nat.le_of_ble_eq_true rfl⟩) hS (fun _ _ h => h) (fun _ h => h) (fun n4 t H locs ht hvm _ hB hz1 hk1 hS => ?_)
  obtain ⟨hP, hD⟩ := hB
  rw [ht] at hP
  rw [c_setNZ _ (Nat.le_of_ble_eq_true rfl), List.append_assoc] at hP hD
  have hP : va_P D g_cl ((ws.set k0 (h0, .inr (9, [.int 0, .ref q1, .null, .null, .null, .null, .int 0, .int 0, .int 0, .int 0, .int 0, .int 0, .int 0, .int 0, .int 0])) ++ [(q1, .inr (1, [.ref (n2 0), .ref (n2 1), .ref (n2 2), .ref (n2 3), .int 0])), (q3, .inr (4, [.int 0, .int 0, .int 0, .int 0, .int 0]))]) ++ ((([] : va_W) ++ nw_X1 cy n2) ++ nw_X4 cy n4)) H := hP
  have hD : va_D (fun q => z0 ≤ q) ((ws.set k0 (h0, .inr (9, [.int 0, .ref q1, .null, .null, .null, .null, .int 0, .int 0, .int 0, .int 0, .int 0, .int 0, .int 0, .int 0, .int 0])) ++ [(q1, .inr (1, [.ref (n2 0), .ref (n2 1), .ref (n2 2), .ref (n2 3), .int 0])), (q3, .inr (4, [.int 0, .int 0, .int 0, .int 0, .int 0]))]) ++ ((([] : va_W) ++ nw_X1 cy n2) ++ nw_X4 cy n4)) := hD
  refine va_putF (D := D) (ci := 9) (v := .ref q3) (ty := tyX9 2) (C := RX9) (T := TX9) (N := 15) hx hb hts inlX9 tyX9 tyX9_ok nmX9 hown hK hP hD hS k0 (c_thisZ h0e) rfl 2 (by decide) (hts _ q5_8) (fun _ h => h) rfl hin rfl (tyX9_ok 2 (by decide)) rfl rfl (Nat.le_of_ble_eq_true rfl) dX9_init_23 (fun H locs hP hD hS => ?_)
  rw [c_setTZ h0e] at hP hD
  have hP : va_P D g_cl ((ws.set k0 (h0, .inr (9, [.int 0, .ref q1, .ref q3, .null, .null, .null, .int 0, .int 0, .int 0, .int 0, .int 0, .int 0, .int 0, .int 0, .int 0])) ++ [(q1, .inr (1, [.ref (n2 0), .ref (n2 1), .ref (n2 2), .ref (n2 3), .int 0])), (q3, .inr (4, [.int 0, .int 0, .int 0, .int 0, .int 0]))]) ++ ((([] : va_W) ++ nw_X1 cy n2) ++ nw_X4 cy n4)) H := hP
  have hD : va_D (fun q => z0 ≤ q) ((ws.set k0 (h0, .inr (9, [.int 0, .ref q1, .ref q3, .null, .null, .null, .int 0, .int 0, .int 0, .int 0, .int 0, .int 0, .int 0, .int 0, .int 0])) ++ [(q1, .inr (1, [.ref (n2 0), .ref (n2 1), .ref (n2 2), .ref (n2 3), .int 0])), (q3, .inr (4, [.int 0, .int 0, .int 0, .int 0, .int 0]))]) ++ ((([] : va_W) ++ nw_X1 cy n2) ++ nw_X4 cy n4)) := hD
  refine lv_aload_n hx hb dX9_init_26 rfl (lv_at hl 0 rfl) ?_
  refine lv_bipush (v := 8) hx hb dX9_init_27 (by decide) ?_
  refine c_newi (N := 8) hx hb hts hK hP hD hS hA (by decide) (by decide) (by decide) (Nat.le_of_ble_eq_true rfl) (Nat.le_of_ble_eq_true rfl) dX9_init_29 (fun q5 H hP hD hS => ?_)
  have hP := hP.swap
  have hD := hD.swap
  rw [c_as] at hP hD
  have hP : va_P D g_cl ((ws.set k0 (h0, .inr (9, [.int 0, .ref q1, .ref q3, .null, .null, .null, .int 0, .int 0, .int 0, .int 0, .int 0, .int 0, .int 0, .int 0, .int 0])) ++ [(q1, .inr (1, [.ref (n2 0), .ref (n2 1), .ref (n2 2), .ref (n2 3), .int 0])), (q3, .inr (4, [.int 0, .int 0, .int 0, .int 0, .int 0])), (q5, .inl (cy 0, 8, .inl (fun _ => 0)))]) ++ ((([] : va_W) ++ nw_X1 cy n2) ++ nw_X4 cy n4)) H := hP
  have hD : va_D (fun q => z0 ≤ q) ((ws.set k0 (h0, .inr (9, [.int 0, .ref q1, .ref q3, .null, .null, .null, .int 0, .int 0, .int 0, .int 0, .int 0, .int 0, .int 0, .int 0, .int 0])) ++ [(q1, .inr (1, [.ref (n2 0), .ref (n2 1), .ref (n2 2), .ref (n2 3), .int 0])), (q3, .inr (4, [.int 0, .int 0, .int 0, .int 0, .int 0])), (q5, .inl (cy 0, 8, .inl (fun _ => 0)))]) ++ ((([] : va_W) ++ nw_X1 cy n2) ++ nw_X4 cy n4)) := hD
  refine va_putF (D := D) (ci := 9) (v := .ref q5) (ty := tyX9 3) (C := RX9) (T := TX9) (N := 15) hx hb hts inlX9 tyX9 tyX9_ok nmX9 hown hK hP hD hS k0 (c_thisZ h0e) rfl 3 (by decide) (hts _ q5_9) (fun _ h => h) rfl hin rfl (tyX9_ok 3 (by decide)) rfl rfl (Nat.le_of_ble_eq_true rfl) dX9_init_31 (fun H locs hP hD hS => ?_)
  rw [c_setTZ h0e] at hP hD
  have hP : va_P D g_cl ((ws.set k0 (h0, .inr (9, [.int 0, .ref q1, .ref q3, .ref q5, .null, .null, .int 0, .int 0, .int 0, .int 0, .int 0, .int 0, .int 0, .int 0, .int 0])) ++ [(q1, .inr (1, [.ref (n2 0), .ref (n2 1), .ref (n2 2), .ref (n2 3), .int 0])), (q3, .inr (4, [.int 0, .int 0, .int 0, .int 0, .int 0])), (q5, .inl (cy 0, 8, .inl (fun _ => 0)))]) ++ ((([] : va_W) ++ nw_X1 cy n2) ++ nw_X4 cy n4)) H := hP
  have hD : va_D (fun q => z0 ≤ q) ((ws.set k0 (h0, .inr (9, [.int 0, .ref q1, .ref q3, .ref q5, .null, .null, .int 0, .int 0, .int 0, .int 0, .int 0, .int 0, .int 0, .int 0, .int 0])) ++ [(q1, .inr (1, [.ref (n2 0), .ref (n2 1), .ref (n2 2), .ref (n2 3), .int 0])), (q3, .inr (4, [.int 0, .int 0, .int 0, .int 0, .int 0])), (q5, .inl (cy 0, 8, .inl (fun _ => 0)))]) ++ ((([] : va_W) ++ nw_X1 cy n2) ++ nw_X4 cy n4)) := hD
  refine lv_aload_n hx hb dX9_init_34 rfl (lv_at hl 0 rfl) ?_
  refine lv_bipush (v := 16) hx hb dX9_init_35 (by decide) ?_
  refine c_newi (N := 16) hx hb hts hK hP hD hS hA (by decide) (by decide) (by decide) (Nat.le_of_ble_eq_true rfl) (Nat.le_of_ble_eq_true rfl) dX9_init_37 (fun q6 H hP hD hS => ?_)
  have hP := hP.swap
  have hD := hD.swap
  rw [c_as] at hP hD
  have hP : va_P D g_cl ((ws.set k0 (h0, .inr (9, [.int 0, .ref q1, .ref q3, .ref q5, .null, .null, .int 0, .int 0, .int 0, .int 0, .int 0, .int 0, .int 0, .int 0, .int 0])) ++ [(q1, .inr (1, [.ref (n2 0), .ref (n2 1), .ref (n2 2), .ref (n2 3), .int 0])), (q3, .inr (4, [.int 0, .int 0, .int 0, .int 0, .int 0])), (q5, .inl (cy 0, 8, .inl (fun _ => 0))), (q6, .inl (cy 0, 16, .inl (fun _ => 0)))]) ++ ((([] : va_W) ++ nw_X1 cy n2) ++ nw_X4 cy n4)) H := hP
  have hD : va_D (fun q => z0 ≤ q) ((ws.set k0 (h0, .inr (9, [.int 0, .ref q1, .ref q3, .ref q5, .null, .null, .int 0, .int 0, .int 0, .int 0, .int 0, .int 0, .int 0, .int 0, .int 0])) ++ [(q1, .inr (1, [.ref (n2 0), .ref (n2 1), .ref (n2 2), .ref (n2 3), .int 0])), (q3, .inr (4, [.int 0, .int 0, .int 0, .int 0, .int 0])), (q5, .inl (cy 0, 8, .inl (fun _ => 0))), (q6, .inl (cy 0, 16, .inl (fun _ => 0)))]) ++ ((([] : va_W) ++ nw_X1 cy n2) ++ nw_X4 cy n4)) := hD
  refine va_putF (D := D) (ci := 9) (v := .ref q6) (ty := tyX9 4) (C := RX9) (T := TX9) (N := 15) hx hb hts inlX9 tyX9 tyX9_ok nmX9 hown hK hP hD hS k0 (c_thisZ h0e) rfl 4 (by decide) (hts _ q5_10) (fun _ h => h) rfl hin rfl (tyX9_ok 4 (by decide)) rfl rfl (Nat.le_of_ble_eq_true rfl) dX9_init_39 (fun H locs hP hD hS => ?_)
  rw [c_setTZ h0e] at hP hD
  have hP : va_P D g_cl ((ws.set k0 (h0, .inr (9, [.int 0, .ref q1, .ref q3, .ref q5, .ref q6, .null, .int 0, .int 0, .int 0, .int 0, .int 0, .int 0, .int 0, .int 0, .int 0])) ++ [(q1, .inr (1, [.ref (n2 0), .ref (n2 1), .ref (n2 2), .ref (n2 3), .int 0])), (q3, .inr (4, [.int 0, .int 0, .int 0, .int 0, .int 0])), (q5, .inl (cy 0, 8, .inl (fun _ => 0))), (q6, .inl (cy 0, 16, .inl (fun _ => 0)))]) ++ ((([] : va_W) ++ nw_X1 cy n2) ++ nw_X4 cy n4)) H := hP
  have hD : va_D (fun q => z0 ≤ q) ((ws.set k0 (h0, .inr (9, [.int 0, .ref q1, .ref q3, .ref q5, .ref q6, .null, .int 0, .int 0, .int 0, .int 0, .int 0, .int 0, .int 0, .int 0, .int 0])) ++ [(q1, .inr (1, [.ref (n2 0), .ref (n2 1), .ref (n2 2), .ref (n2 3), .int 0])), (q3, .inr (4, [.int 0, .int 0, .int 0, .int 0, .int 0])), (q5, .inl (cy 0, 8, .inl (fun _ => 0))), (q6, .inl (cy 0, 16, .inl (fun _ => 0)))]) ++ ((([] : va_W) ++ nw_X1 cy n2) ++ nw_X4 cy n4)) := hD
  refine lv_aload_n hx hb dX9_init_42 rfl (lv_at hl 0 rfl) ?_
  refine lv_bipush (v := 24) hx hb dX9_init_43 (by decide) ?_
  refine c_newi (N := 24) hx hb hts hK hP hD hS hA (by decide) (by decide) (by decide) (Nat.le_of_ble_eq_true rfl) (Nat.le_of_ble_eq_true rfl) dX9_init_45 (fun q7 H hP hD hS => ?_)
  have hP := hP.swap
  have hD := hD.swap
  rw [c_as] at hP hD
  have hP : va_P D g_cl ((ws.set k0 (h0, .inr (9, [.int 0, .ref q1, .ref q3, .ref q5, .ref q6, .null, .int 0, .int 0, .int 0, .int 0, .int 0, .int 0, .int 0, .int 0, .int 0])) ++ [(q1, .inr (1, [.ref (n2 0), .ref (n2 1), .ref (n2 2), .ref (n2 3), .int 0])), (q3, .inr (4, [.int 0, .int 0, .int 0, .int 0, .int 0])), (q5, .inl (cy 0, 8, .inl (fun _ => 0))), (q6, .inl (cy 0, 16, .inl (fun _ => 0))), (q7, .inl (cy 0, 24, .inl (fun _ => 0)))]) ++ ((([] : va_W) ++ nw_X1 cy n2) ++ nw_X4 cy n4)) H := hP
  have hD : va_D (fun q => z0 ≤ q) ((ws.set k0 (h0, .inr (9, [.int 0, .ref q1, .ref q3, .ref q5, .ref q6, .null, .int 0, .int 0, .int 0, .int 0, .int 0, .int 0, .int 0, .int 0, .int 0])) ++ [(q1, .inr (1, [.ref (n2 0), .ref (n2 1), .ref (n2 2), .ref (n2 3), .int 0])), (q3, .inr (4, [.int 0, .int 0, .int 0, .int 0, .int 0])), (q5, .inl (cy 0, 8, .inl (fun _ => 0))), (q6, .inl (cy 0, 16, .inl (fun _ => 0))), (q7, .inl (cy 0, 24, .inl (fun _ => 0)))]) ++ ((([] : va_W) ++ nw_X1 cy n2) ++ nw_X4 cy n4)) := hD
  refine va_putF (D := D) (ci := 9) (v := .ref q7) (ty := tyX9 5) (C := RX9) (T := TX9) (N := 15) hx hb hts inlX9 tyX9 tyX9_ok nmX9 hown hK hP hD hS k0 (c_thisZ h0e) rfl 5 (by decide) (hts _ q5_11) (fun _ h => h) rfl hin rfl (tyX9_ok 5 (by decide)) rfl rfl (Nat.le_of_ble_eq_true rfl) dX9_init_47 (fun H locs hP hD hS => ?_)
  rw [c_setTZ h0e] at hP hD
  have hP : va_P D g_cl ((ws.set k0 (h0, .inr (9, [.int 0, .ref q1, .ref q3, .ref q5, .ref q6, .ref q7, .int 0, .int 0, .int 0, .int 0, .int 0, .int 0, .int 0, .int 0, .int 0])) ++ [(q1, .inr (1, [.ref (n2 0), .ref (n2 1), .ref (n2 2), .ref (n2 3), .int 0])), (q3, .inr (4, [.int 0, .int 0, .int 0, .int 0, .int 0])), (q5, .inl (cy 0, 8, .inl (fun _ => 0))), (q6, .inl (cy 0, 16, .inl (fun _ => 0))), (q7, .inl (cy 0, 24, .inl (fun _ => 0)))]) ++ ((([] : va_W) ++ nw_X1 cy n2) ++ nw_X4 cy n4)) H := hP
  have hD : va_D (fun q => z0 ≤ q) ((ws.set k0 (h0, .inr (9, [.int 0, .ref q1, .ref q3, .ref q5, .ref q6, .ref q7, .int 0, .int 0, .int 0, .int 0, .int 0, .int 0, .int 0, .int 0, .int 0])) ++ [(q1, .inr (1, [.ref (n2 0), .ref (n2 1), .ref (n2 2), .ref (n2 3), .int 0])), (q3, .inr (4, [.int 0, .int 0, .int 0, .int 0, .int 0])), (q5, .inl (cy 0, 8, .inl (fun _ => 0))), (q6, .inl (cy 0, 16, .inl (fun _ => 0))), (q7, .inl (cy 0, 24, .inl (fun _ => 0)))]) ++ ((([] : va_W) ++ nw_X1 cy n2) ++ nw_X4 cy n4)) := hD
  refine lv_aload_n hx hb dX9_init_50 rfl (lv_at hl 0 rfl) ?_
  refine lv_iconst (v := (-1)) hx hb dX9_init_51 (by decide) ?_
  refine va_put (D := D) (ci := 9) (v := .int (-1)) (ty := tyX9 6) (C := RX9) (T := TX9) (N := 15) hx hb hts inlX9 tyX9 tyX9_ok nmX9 hown hK hP hD hS k0 (c_thisZ h0e) rfl 6 (by decide) (hts _ q5_12) (fun _ h => h) rfl (tyX9_ok 6 (by decide)) rfl rfl (Nat.le_of_ble_eq_true rfl) dX9_init_52 (fun H locs hP hD hS => ?_)
  rw [c_setTZ h0e] at hP hD
  have hP : va_P D g_cl ((ws.set k0 (h0, .inr (9, [.int 0, .ref q1, .ref q3, .ref q5, .ref q6, .ref q7, .int (-1), .int 0, .int 0, .int 0, .int 0, .int 0, .int 0, .int 0, .int 0])) ++ [(q1, .inr (1, [.ref (n2 0), .ref (n2 1), .ref (n2 2), .ref (n2 3), .int 0])), (q3, .inr (4, [.int 0, .int 0, .int 0, .int 0, .int 0])), (q5, .inl (cy 0, 8, .inl (fun _ => 0))), (q6, .inl (cy 0, 16, .inl (fun _ => 0))), (q7, .inl (cy 0, 24, .inl (fun _ => 0)))]) ++ ((([] : va_W) ++ nw_X1 cy n2) ++ nw_X4 cy n4)) H := hP
  have hD : va_D (fun q => z0 ≤ q) ((ws.set k0 (h0, .inr (9, [.int 0, .ref q1, .ref q3, .ref q5, .ref q6, .ref q7, .int (-1), .int 0, .int 0, .int 0, .int 0, .int 0, .int 0, .int 0, .int 0])) ++ [(q1, .inr (1, [.ref (n2 0), .ref (n2 1), .ref (n2 2), .ref (n2 3), .int 0])), (q3, .inr (4, [.int 0, .int 0, .int 0, .int 0, .int 0])), (q5, .inl (cy 0, 8, .inl (fun _ => 0))), (q6, .inl (cy 0, 16, .inl (fun _ => 0))), (q7, .inl (cy 0, 24, .inl (fun _ => 0)))]) ++ ((([] : va_W) ++ nw_X1 cy n2) ++ nw_X4 cy n4)) := hD
  refine lv_aload_n hx hb dX9_init_55 rfl (lv_at hl 0 rfl) ?_
  refine lv_iconst (v := 1) hx hb dX9_init_56 (by decide) ?_
  refine va_put (D := D) (ci := 9) (v := .int 1) (ty := tyX9 7) (C := RX9) (T := TX9) (N := 15) hx hb hts inlX9 tyX9 tyX9_ok nmX9 hown hK hP hD hS k0 (c_thisZ h0e) rfl 7 (by decide) (hts _ q5_13) (fun _ h => h) rfl (tyX9_ok 7 (by decide)) rfl rfl (Nat.le_of_ble_eq_true rfl) dX9_init_57 (fun H locs hP hD hS => ?_)
  rw [c_setTZ h0e] at hP hD
  have hP : va_P D g_cl ((ws.set k0 (h0, .inr (9, [.int 0, .ref q1, .ref q3, .ref q5, .ref q6, .ref q7, .int (-1), .int 1, .int 0, .int 0, .int 0, .int 0, .int 0, .int 0, .int 0])) ++ [(q1, .inr (1, [.ref (n2 0), .ref (n2 1), .ref (n2 2), .ref (n2 3), .int 0])), (q3, .inr (4, [.int 0, .int 0, .int 0, .int 0, .int 0])), (q5, .inl (cy 0, 8, .inl (fun _ => 0))), (q6, .inl (cy 0, 16, .inl (fun _ => 0))), (q7, .inl (cy 0, 24, .inl (fun _ => 0)))]) ++ ((([] : va_W) ++ nw_X1 cy n2) ++ nw_X4 cy n4)) H := hP
  have hD : va_D (fun q => z0 ≤ q) ((ws.set k0 (h0, .inr (9, [.int 0, .ref q1, .ref q3, .ref q5, .ref q6, .ref q7, .int (-1), .int 1, .int 0, .int 0, .int 0, .int 0, .int 0, .int 0, .int 0])) ++ [(q1, .inr (1, [.ref (n2 0), .ref (n2 1), .ref (n2 2), .ref (n2 3), .int 0])), (q3, .inr (4, [.int 0, .int 0, .int 0, .int 0, .int 0])), (q5, .inl (cy 0, 8, .inl (fun _ => 0))), (q6, .inl (cy 0, 16, .inl (fun _ => 0))), (q7, .inl (cy 0, 24, .inl (fun _ => 0)))]) ++ ((([] : va_W) ++ nw_X1 cy n2) ++ nw_X4 cy n4)) := hD
  refine lv_aload_n hx hb dX9_init_60 rfl (lv_at hl 0 rfl) ?_
  refine lv_iconst (v := 0) hx hb dX9_init_61 (by decide) ?_
  refine va_put (D := D) (ci := 9) (v := .int 0) (ty := tyX9 9) (C := RX9) (T := TX9) (N := 15) hx hb hts inlX9 tyX9 tyX9_ok nmX9 hown hK hP hD hS k0 (c_thisZ h0e) rfl 9 (by decide) (hts _ q5_14) (fun _ h => h) rfl (tyX9_ok 9 (by decide)) rfl rfl (Nat.le_of_ble_eq_true rfl) dX9_init_62 (fun H locs hP hD hS => ?_)
  rw [c_setTZ h0e] at hP hD
  have hP : va_P D g_cl ((ws.set k0 (h0, .inr (9, [.int 0, .ref q1, .ref q3, .ref q5, .ref q6, .ref q7, .int (-1), .int 1, .int 0, .int 0, .int 0, .int 0, .int 0, .int 0, .int 0])) ++ [(q1, .inr (1, [.ref (n2 0), .ref (n2 1), .ref (n2 2), .ref (n2 3), .int 0])), (q3, .inr (4, [.int 0, .int 0, .int 0, .int 0, .int 0])), (q5, .inl (cy 0, 8, .inl (fun _ => 0))), (q6, .inl (cy 0, 16, .inl (fun _ => 0))), (q7, .inl (cy 0, 24, .inl (fun _ => 0)))]) ++ ((([] : va_W) ++ nw_X1 cy n2) ++ nw_X4 cy n4)) H := hP
  have hD : va_D (fun q => z0 ≤ q) ((ws.set k0 (h0, .inr (9, [.int 0, .ref q1, .ref q3, .ref q5, .ref q6, .ref q7, .int (-1), .int 1, .int 0, .int 0, .int 0, .int 0, .int 0, .int 0, .int 0])) ++ [(q1, .inr (1, [.ref (n2 0), .ref (n2 1), .ref (n2 2), .ref (n2 3), .int 0])), (q3, .inr (4, [.int 0, .int 0, .int 0, .int 0, .int 0])), (q5, .inl (cy 0, 8, .inl (fun _ => 0))), (q6, .inl (cy 0, 16, .inl (fun _ => 0))), (q7, .inl (cy 0, 24, .inl (fun _ => 0)))]) ++ ((([] : va_W) ++ nw_X1 cy n2) ++ nw_X4 cy n4)) := hD
  refine lv_aload_n hx hb dX9_init_65 rfl (lv_at hl 0 rfl) ?_
  refine lv_iconst (v := 0) hx hb dX9_init_66 (by decide) ?_
  refine va_put (D := D) (ci := 9) (v := .int 0) (ty := tyX9 10) (C := RX9) (T := TX9) (N := 15) hx hb hts inlX9 tyX9 tyX9_ok nmX9 hown hK hP hD hS k0 (c_thisZ h0e) rfl 10 (by decide) (hts _ q5_15) (fun _ h => h) rfl (tyX9_ok 10 (by decide)) rfl rfl (Nat.le_of_ble_eq_true rfl) dX9_init_67 (fun H locs hP hD hS => ?_)
  rw [c_setTZ h0e] at hP hD
  have hP : va_P D g_cl ((ws.set k0 (h0, .inr (9, [.int 0, .ref q1, .ref q3, .ref q5, .ref q6, .ref q7, .int (-1), .int 1, .int 0, .int 0, .int 0, .int 0, .int 0, .int 0, .int 0])) ++ [(q1, .inr (1, [.ref (n2 0), .ref (n2 1), .ref (n2 2), .ref (n2 3), .int 0])), (q3, .inr (4, [.int 0, .int 0, .int 0, .int 0, .int 0])), (q5, .inl (cy 0, 8, .inl (fun _ => 0))), (q6, .inl (cy 0, 16, .inl (fun _ => 0))), (q7, .inl (cy 0, 24, .inl (fun _ => 0)))]) ++ ((([] : va_W) ++ nw_X1 cy n2) ++ nw_X4 cy n4)) H := hP
  have hD : va_D (fun q => z0 ≤ q) ((ws.set k0 (h0, .inr (9, [.int 0, .ref q1, .ref q3, .ref q5, .ref q6, .ref q7, .int (-1), .int 1, .int 0, .int 0, .int 0, .int 0, .int 0, .int 0, .int 0])) ++ [(q1, .inr (1, [.ref (n2 0), .ref (n2 1), .ref (n2 2), .ref (n2 3), .int 0])), (q3, .inr (4, [.int 0, .int 0, .int 0, .int 0, .int 0])), (q5, .inl (cy 0, 8, .inl (fun _ => 0))), (q6, .inl (cy 0, 16, .inl (fun _ => 0))), (q7, .inl (cy 0, 24, .inl (fun _ => 0)))]) ++ ((([] : va_W) ++ nw_X1 cy n2) ++ nw_X4 cy n4)) := hD
  refine lv_aload_n hx hb dX9_init_70 rfl (lv_at hl 0 rfl) ?_
  refine lv_iload_n hx hb dX9_init_71 rfl (lv_at hl 1 rfl) ?_
  refine va_putF (D := D) (ci := 9) (v := .int x1) (ty := tyX9 0) (C := RX9) (T := TX9) (N := 15) hx hb hts inlX9 tyX9 tyX9_ok nmX9 hown hK hP hD hS k0 (c_thisZ h0e) rfl 0 (by decide) (hts _ q5_16) (fun _ h => h) rfl hin rfl (tyX9_ok 0 (by decide)) rfl rfl (Nat.le_of_ble_eq_true rfl) dX9_init_72 (fun H locs hP hD hS => ?_)
  rw [c_setTZ h0e] at hP hD
  have hP : va_P D g_cl ((ws.set k0 (h0, .inr (9, [.int x1, .ref q1, .ref q3, .ref q5, .ref q6, .ref q7, .int (-1), .int 1, .int 0, .int 0, .int 0, .int 0, .int 0, .int 0, .int 0])) ++ [(q1, .inr (1, [.ref (n2 0), .ref (n2 1), .ref (n2 2), .ref (n2 3), .int 0])), (q3, .inr (4, [.int 0, .int 0, .int 0, .int 0, .int 0])), (q5, .inl (cy 0, 8, .inl (fun _ => 0))), (q6, .inl (cy 0, 16, .inl (fun _ => 0))), (q7, .inl (cy 0, 24, .inl (fun _ => 0)))]) ++ ((([] : va_W) ++ nw_X1 cy n2) ++ nw_X4 cy n4)) H := hP
  have hD : va_D (fun q => z0 ≤ q) ((ws.set k0 (h0, .inr (9, [.int x1, .ref q1, .ref q3, .ref q5, .ref q6, .ref q7, .int (-1), .int 1, .int 0, .int 0, .int 0, .int 0, .int 0, .int 0, .int 0])) ++ [(q1, .inr (1, [.ref (n2 0), .ref (n2 1), .ref (n2 2), .ref (n2 3), .int 0])), (q3, .inr (4, [.int 0, .int 0, .int 0, .int 0, .int 0])), (q5, .inl (cy 0, 8, .inl (fun _ => 0))), (q6, .inl (cy 0, 16, .inl (fun _ => 0))), (q7, .inl (cy 0, 24, .inl (fun _ => 0)))]) ++ ((([] : va_W) ++ nw_X1 cy n2) ++ nw_X4 cy n4)) := hD
  exact W.vret hx hb hr (fun t ht hW => ⟨⟨((fun k => ([q1, q3, q5, q6, q7] : List Nat).getD k 0), n2, n4), rfl, trivial, by show va_P D g_cl _ t.heap; rw [ht]; unfold nw_X9; rw [← List.append_assoc]; exact hP, by unfold nw_X9; rw [← List.append_assoc]; exact hD⟩, hS.F ht⟩) hS.2.2 dX9_init_75 hlocks
theorem hdc_X7 : yX7_init.cls ≠ "java/lang/invoke/MethodHandle" ∧ yX7_init.cls ≠ "java/lang/invoke/VarHandle" ∧ (parseMethodDescriptor yX7_init.desc).map (fun d => d.parameters.length) = some 2 := by decide +kernel
abbrev S_X7 : Type := (Nat → Nat) × S_X8 × S_X0 × S_X9 × S_X9 × S_X9 × S_X9 × S_X9 × S_X9
def nw_X7 (cy : Nat → ClassId) (u : S_X7) (a1 : Nat) (a2 : Nat) : va_W := [((u.1 0), .inl (cy 3, 6, .inr (.inr (.inr (.inr (va_up (va_up (va_up (va_up (va_up (va_up (fun _ => none) (Int32.toNatClampNeg 0) (some (u.1 3))) (Int32.toNatClampNeg 1) (some (u.1 4))) (Int32.toNatClampNeg 2) (some (u.1 5))) (Int32.toNatClampNeg 3) (some (u.1 6))) (Int32.toNatClampNeg 4) (some (u.1 7))) (Int32.toNatClampNeg 5) (some (u.1 8)))))))), ((u.1 1), .inr (8, [.ref (u.2.1.1 0), .ref (u.2.1.1 1), .ref (u.2.1.1 2)])), ((u.1 2), .inr (0, [.ref (u.2.2.1 0), .ref (u.2.2.1 5)])), ((u.1 3), .inr (9, [.int 0, .ref (u.2.2.2.1.1 0), .ref (u.2.2.2.1.1 1), .ref (u.2.2.2.1.1 2), .ref (u.2.2.2.1.1 3), .ref (u.2.2.2.1.1 4), .int (-1), .int 1, .int 0, .int 0, .int 0, .int 0, .int 0, .int 0, .int 0])), ((u.1 4), .inr (9, [.int 1, .ref (u.2.2.2.2.1.1 0), .ref (u.2.2.2.2.1.1 1), .ref (u.2.2.2.2.1.1 2), .ref (u.2.2.2.2.1.1 3), .ref (u.2.2.2.2.1.1 4), .int (-1), .int 1, .int 0, .int 0, .int 0, .int 0, .int 0, .int 0, .int 0])), ((u.1 5), .inr (9, [.int 2, .ref (u.2.2.2.2.2.1.1 0), .ref (u.2.2.2.2.2.1.1 1), .ref (u.2.2.2.2.2.1.1 2), .ref (u.2.2.2.2.2.1.1 3), .ref (u.2.2.2.2.2.1.1 4), .int (-1), .int 1, .int 0, .int 0, .int 0, .int 0, .int 0, .int 0, .int 0])), ((u.1 6), .inr (9, [.int 3, .ref (u.2.2.2.2.2.2.1.1 0), .ref (u.2.2.2.2.2.2.1.1 1), .ref (u.2.2.2.2.2.2.1.1 2), .ref (u.2.2.2.2.2.2.1.1 3), .ref (u.2.2.2.2.2.2.1.1 4), .int (-1), .int 1, .int 0, .int 0, .int 0, .int 0, .int 0, .int 0, .int 0])), ((u.1 7), .inr (9, [.int 4, .ref (u.2.2.2.2.2.2.2.1.1 0), .ref (u.2.2.2.2.2.2.2.1.1 1), .ref (u.2.2.2.2.2.2.2.1.1 2), .ref (u.2.2.2.2.2.2.2.1.1 3), .ref (u.2.2.2.2.2.2.2.1.1 4), .int (-1), .int 1, .int 0, .int 0, .int 0, .int 0, .int 0, .int 0, .int 0])), ((u.1 8), .inr (9, [.int 5, .ref (u.2.2.2.2.2.2.2.2.1 0), .ref (u.2.2.2.2.2.2.2.2.1 1), .ref (u.2.2.2.2.2.2.2.2.1 2), .ref (u.2.2.2.2.2.2.2.2.1 3), .ref (u.2.2.2.2.2.2.2.2.1 4), .int (-1), .int 1, .int 0, .int 0, .int 0, .int 0, .int 0, .int 0, .int 0]))] ++ ((((((((([] : va_W) ++ nw_X8 cy u.2.1) ++ nw_X0 cy u.2.2.1) ++ nw_X9 cy u.2.2.2.1 0) ++ nw_X9 cy u.2.2.2.2.1 1) ++ nw_X9 cy u.2.2.2.2.2.1 2) ++ nw_X9 cy u.2.2.2.2.2.2.1 3) ++ nw_X9 cy u.2.2.2.2.2.2.2.1 4) ++ nw_X9 cy u.2.2.2.2.2.2.2.2 5)
abbrev rm_c7 : Room := { frames := 3, cells := 73, slots := 1236, locals := 61 }
set_option maxRecDepth 100000 in
set_option maxHeartbeats 4000000 in
theorem cc_X7 (l : Launch) (D : va_G) (cy : Nat → ClassId) (z0 : Nat) (ws : va_W) (k0 h0 : Nat) (a1 : Nat) (a2 : Nat) (h0e : ws[k0]? = some (h0, .inr (7, [.null, .null, .null, .null, .null, .int 0, .int 0, .int 0, .int 0, .int 0, .int 0, .int 0]))) : Met l yX7_init (wz yX7_init cX7_init 4 none) rm_c7 (va_Pc [.ref h0, .ref a1, .ref a2] (c_pre D cy z0 ws)) (va_Qv (fun _ : S_X7 => True) (fun u t => va_P D g_cl (ws.set k0 (h0, .inr (7, [.ref (u.1 0), .ref (u.1 1), .ref (u.1 2), .ref a1, .ref a2, .int 0, .int 0, .int 0, .int 0, .int 0, .int (-1), .int 0])) ++ nw_X7 cy u a1 a2) t.heap ∧ va_D (fun q => z0 ≤ q) (ws.set k0 (h0, .inr (7, [.ref (u.1 0), .ref (u.1 1), .ref (u.1 2), .ref a1, .ref a2, .int 0, .int 0, .int 0, .int 0, .int 0, .int (-1), .int 0])) ++ nw_X7 cy u a1 a2)) (fun q => z0 ≤ q)) 73 1236 (fun q => z0 ≤ q) := by
  refine Met.ofW (cc := cX7_init) (maxL := 4) (ret := none) (by decide) rfl ?_
  intro p e s m args below meth c s₁ B hml hv
  obtain ⟨rfl, hCs, hP, hD, hz⟩ := hv
  have hx := B.exec
  have hb := B.bytes
  have hr := B.returns
  have hts : ∀ w ∈ wsL_law, w.before _ s = true := fun w h => atoms_spec (ws := wz yX7_init cX7_init 4 none) B.pre w (List.mem_cons_of_mem _ h)
  have hown : s.vm.findClass RX7 = some m.cls := findClass_of_methodNamed B.named
  have hlocks := B.notSynchronized
  have hin : meth.name = "<init>" := (name_of_methodNamed B.named B.method).1
  have hK := hCs.1
  have hA : ∀ q, s.heap.size ≤ q → (fun q => z0 ≤ q) q := fun q h => Nat.le_trans hz h
  have hS : va_S (fun q => z0 ≤ q) s.heap s.heap [] := va_S.rf
  have hl := lv_entry ([.ref h0, .ref a1, .ref a2]) (n := 4) (Nat.le_of_ble_eq_true rfl)
  rw [lg_entry_eq]
  generalize (lg_sl ([.ref h0, .ref a1, .ref a2]) ++ List.replicate (4 - (lg_sl ([.ref h0, .ref a1, .ref a2])).length) Slot.unset).toArray = ls at hl ⊢
  have hl : lv_has ls 4 [(0, .ref h0), (1, .ref a1), (2, .ref a2)] := hl
  have hP : va_P D g_cl ((ws.set k0 (h0, .inr (7, [.null, .null, .null, .null, .null, .int 0, .int 0, .int 0, .int 0, .int 0, .int 0, .int 0])) ++ []) ++ ([] : va_W)) s.heap := by rw [c_same h0e, List.append_nil, List.append_nil]; exact hP
  have hD : va_D (fun q => z0 ≤ q) ((ws.set k0 (h0, .inr (7, [.null, .null, .null, .null, .null, .int 0, .int 0, .int 0, .int 0, .int 0, .int 0, .int 0])) ++ []) ++ ([] : va_W)) := by rw [c_same h0e, List.append_nil, List.append_nil]; exact hD
  refine lv_aload_n hx hb dX7_init_0 rfl (lv_at hl 0 rfl) ?_
  refine W.objInit hx hb hown (hts _ q3_8) (hts _ q1_11) (hts _ q1_12) rfl (by rw [hml]; exact hl.1) rfl dX7_init_1 (Nat.le_of_ble_eq_true rfl) (Nat.le_of_ble_eq_true rfl) ?_
  refine W.eq (g2 := F0 m 4 ls []) rfl ?_
  refine lv_aload_n hx hb dX7_init_4 rfl (lv_at hl 0 rfl) ?_
  refine lv_bipush (v := 6) hx hb dX7_init_5 (by decide) ?_
  refine va_newq hx hb hown (hts _ q3_9) hCs.2.2.2.2.2.2.2.2.1 hK hP hD hS hA (by decide) (N' := 6) (by decide) (by decide) (Nat.le_of_ble_eq_true rfl) (Nat.le_of_ble_eq_true rfl) dX7_init_7 (fun q1 cA2 H hK9 hP hD hS => ?_)
  have e9 := c_clsS hK9
  subst e9
  have hP := hP.swap
  have hD := hD.swap
  rw [c_as] at hP hD
  have hP : va_P D g_cl ((ws.set k0 (h0, .inr (7, [.null, .null, .null, .null, .null, .int 0, .int 0, .int 0, .int 0, .int 0, .int 0, .int 0])) ++ [(q1, .inl (cy 3, 6, .inr (.inr (.inr (.inr (fun _ => none))))))]) ++ ([] : va_W)) H := hP
  have hD : va_D (fun q => z0 ≤ q) ((ws.set k0 (h0, .inr (7, [.null, .null, .null, .null, .null, .int 0, .int 0, .int 0, .int 0, .int 0, .int 0, .int 0])) ++ [(q1, .inl (cy 3, 6, .inr (.inr (.inr (.inr (fun _ => none))))))]) ++ ([] : va_W)) := hD
  refine va_putF (D := D) (ci := 7) (v := .ref q1) (ty := tyX7 0) (C := RX7) (T := TX7) (N := 12) hx hb hts inlX7 tyX7 tyX7_ok nmX7 hown hK hP hD hS k0 (c_thisZ h0e) rfl 0 (by decide) (hts _ q3_10) (fun _ h => h) rfl hin rfl (tyX7_ok 0 (by decide)) rfl rfl (Nat.le_of_ble_eq_true rfl) dX7_init_10 (fun H locs hP hD hS => ?_)
  rw [c_setTZ h0e] at hP hD
  have hP : va_P D g_cl ((ws.set k0 (h0, .inr (7, [.ref q1, .null, .null, .null, .null, .int 0, .int 0, .int 0, .int 0, .int 0, .int 0, .int 0])) ++ [(q1, .inl (cy 3, 6, .inr (.inr (.inr (.inr (fun _ => none))))))]) ++ ([] : va_W)) H := hP
  have hD : va_D (fun q => z0 ≤ q) ((ws.set k0 (h0, .inr (7, [.ref q1, .null, .null, .null, .null, .int 0, .int 0, .int 0, .int 0, .int 0, .int 0, .int 0])) ++ [(q1, .inl (cy 3, 6, .inr (.inr (.inr (.inr (fun _ => none))))))]) ++ ([] : va_W)) := hD
  refine lv_aload_n hx hb dX7_init_13 rfl (lv_at hl 0 rfl) ?_
  refine va_new (ci := 8) (fs := [.null, .null, .null]) (C := RX8) (T := TX8) (N := 3) hx hb hts inlX8 tyX8 tyX8_ok hown (hts _ q3_11) (hts _ q3_12) (hts _ q3_13) hK hP hD hS hA rfl (fun j hj => by rcases (show j = 0 ∨ j = 1 ∨ j = 2 by omega) with rfl | rfl | rfl <;> rfl) (Nat.le_of_ble_eq_true rfl) (Nat.le_of_ble_eq_true rfl) dX7_init_14 (fun q3 H hP hD hS => ?_)
  have hP := hP.swap
  have hD := hD.swap
  rw [c_as] at hP hD
  have hP : va_P D g_cl ((ws.set k0 (h0, .inr (7, [.ref q1, .null, .null, .null, .null, .int 0, .int 0, .int 0, .int 0, .int 0, .int 0, .int 0])) ++ [(q1, .inl (cy 3, 6, .inr (.inr (.inr (.inr (fun _ => none)))))), (q3, .inr (8, [.null, .null, .null]))]) ++ ([] : va_W)) H := hP
  have hD : va_D (fun q => z0 ≤ q) ((ws.set k0 (h0, .inr (7, [.ref q1, .null, .null, .null, .null, .int 0, .int 0, .int 0, .int 0, .int 0, .int 0, .int 0])) ++ [(q1, .inl (cy 3, 6, .inr (.inr (.inr (.inr (fun _ => none)))))), (q3, .inr (8, [.null, .null, .null]))]) ++ ([] : va_W)) := hD
  refine lv_dup hx hb dX7_init_17 rfl ?_
  refine va_callv (va_runI (As := []) (rest := [.ref q3, .ref h0]) ⟨hx, hb, hml, hown, hts⟩ (cc_X8 l D cy z0 _ (ws.length + 1) q3  (c_newZ 1 rfl)) (cwI 0 hts (wz_N q4_2) rfl rfl rfl (hts _ q3_13) (hts _ q4_0) (hts _ q4_1) rfl hdc_X8 ⟨Nat.le_of_ble_eq_true rfl, Nat.le_of_ble_eq_true rfl⟩) ⟨c_blind, fun U hU hW => ⟨rfl, hCs.moved hW, by rw [hU]; exact hP, hD, by rw [hU]; exact Nat.le_trans hz hS.1⟩⟩ rfl rfl hl.1 rfl (lv_room (Nat.le_of_ble_eq_true rfl)) dX7_init_18 ⟨Nat.le_of_ble_eq_true rfl, Nat.le_of_ble_eq_true rfl⟩) hS (fun _ _ h => h) (fun _ h => h) (fun n4 t H locs ht hvm _ hB hz1 hk1 hS => ?_)
  obtain ⟨hP, hD⟩ := hB
  rw [ht] at hP
  rw [c_setNZ _ (Nat.le_of_ble_eq_true rfl), List.append_assoc] at hP hD
  have hP : va_P D g_cl ((ws.set k0 (h0, .inr (7, [.ref q1, .null, .null, .null, .null, .int 0, .int 0, .int 0, .int 0, .int 0, .int 0, .int 0])) ++ [(q1, .inl (cy 3, 6, .inr (.inr (.inr (.inr (fun _ => none)))))), (q3, .inr (8, [.ref (n4.1 0), .ref (n4.1 1), .ref (n4.1 2)]))]) ++ (([] : va_W) ++ nw_X8 cy n4)) H := hP
  have hD : va_D (fun q => z0 ≤ q) ((ws.set k0 (h0, .inr (7, [.ref q1, .null, .null, .null, .null, .int 0, .int 0, .int 0, .int 0, .int 0, .int 0, .int 0])) ++ [(q1, .inl (cy 3, 6, .inr (.inr (.inr (.inr (fun _ => none)))))), (q3, .inr (8, [.ref (n4.1 0), .ref (n4.1 1), .ref (n4.1 2)]))]) ++ (([] : va_W) ++ nw_X8 cy n4)) := hD
  refine va_putF (D := D) (ci := 7) (v := .ref q3) (ty := tyX7 1) (C := RX7) (T := TX7) (N := 12) hx hb hts inlX7 tyX7 tyX7_ok nmX7 hown hK hP hD hS k0 (c_thisZ h0e) rfl 1 (by decide) (hts _ q3_14) (fun _ h => h) rfl hin rfl (tyX7_ok 1 (by decide)) rfl rfl (Nat.le_of_ble_eq_true rfl) dX7_init_21 (fun H locs hP hD hS => ?_)
  rw [c_setTZ h0e] at hP hD
  have hP : va_P D g_cl ((ws.set k0 (h0, .inr (7, [.ref q1, .ref q3, .null, .null, .null, .int 0, .int 0, .int 0, .int 0, .int 0, .int 0, .int 0])) ++ [(q1, .inl (cy 3, 6, .inr (.inr (.inr (.inr (fun _ => none)))))), (q3, .inr (8, [.ref (n4.1 0), .ref (n4.1 1), .ref (n4.1 2)]))]) ++ (([] : va_W) ++ nw_X8 cy n4)) H := hP
  have hD : va_D (fun q => z0 ≤ q) ((ws.set k0 (h0, .inr (7, [.ref q1, .ref q3, .null, .null, .null, .int 0, .int 0, .int 0, .int 0, .int 0, .int 0, .int 0])) ++ [(q1, .inl (cy 3, 6, .inr (.inr (.inr (.inr (fun _ => none)))))), (q3, .inr (8, [.ref (n4.1 0), .ref (n4.1 1), .ref (n4.1 2)]))]) ++ (([] : va_W) ++ nw_X8 cy n4)) := hD
  refine lv_aload_n hx hb dX7_init_24 rfl (lv_at hl 0 rfl) ?_
  refine va_new (ci := 0) (fs := [.null, .null]) (C := RX0) (T := TX0) (N := 2) hx hb hts inlX0 tyX0 tyX0_ok hown (hts _ q3_15) (hts _ q3_16) (hts _ q3_17) hK hP hD hS hA rfl (fun j hj => by rcases (show j = 0 ∨ j = 1 by omega) with rfl | rfl <;> rfl) (Nat.le_of_ble_eq_true rfl) (Nat.le_of_ble_eq_true rfl) dX7_init_25 (fun q5 H hP hD hS => ?_)
  have hP := hP.swap
  have hD := hD.swap
  rw [c_as] at hP hD
  have hP : va_P D g_cl ((ws.set k0 (h0, .inr (7, [.ref q1, .ref q3, .null, .null, .null, .int 0, .int 0, .int 0, .int 0, .int 0, .int 0, .int 0])) ++ [(q1, .inl (cy 3, 6, .inr (.inr (.inr (.inr (fun _ => none)))))), (q3, .inr (8, [.ref (n4.1 0), .ref (n4.1 1), .ref (n4.1 2)])), (q5, .inr (0, [.null, .null]))]) ++ (([] : va_W) ++ nw_X8 cy n4)) H := hP
  have hD : va_D (fun q => z0 ≤ q) ((ws.set k0 (h0, .inr (7, [.ref q1, .ref q3, .null, .null, .null, .int 0, .int 0, .int 0, .int 0, .int 0, .int 0, .int 0])) ++ [(q1, .inl (cy 3, 6, .inr (.inr (.inr (.inr (fun _ => none)))))), (q3, .inr (8, [.ref (n4.1 0), .ref (n4.1 1), .ref (n4.1 2)])), (q5, .inr (0, [.null, .null]))]) ++ (([] : va_W) ++ nw_X8 cy n4)) := hD
  refine lv_dup hx hb dX7_init_28 rfl ?_
  refine va_callv (va_runIN (As := []) (rest := [.ref q5, .ref h0]) ⟨hx, hb, hml, hown, hts⟩ (cc_X0 l D cy z0 _ (ws.length + 2) q5  (c_newZ 2 rfl)) ⟨va_cnB 0 hts (wz_N q4_16) rfl rfl rfl hCs.2.2.2.2.2.1 (hts _ q3_17) hdc_X0 ⟨Nat.le_of_ble_eq_true rfl, Nat.le_of_ble_eq_true rfl⟩, rfl, hts _ q4_15⟩ ⟨c_blind, fun U hU hW => ⟨rfl, hCs.moved hW, by rw [hU]; exact hP, hD, by rw [hU]; exact Nat.le_trans hz hS.1⟩⟩ rfl rfl hl.1 rfl (lv_room (Nat.le_of_ble_eq_true rfl)) dX7_init_29 ⟨Nat.le_of_ble_eq_true rfl, Nat.le_of_ble_eq_true rfl⟩) hS (fun _ _ h => h) (fun _ h => h) (fun n6 t H locs ht hvm _ hB hz1 hk1 hS => ?_)
  obtain ⟨hP, hD⟩ := hB
  rw [ht] at hP
  rw [c_setNZ _ (Nat.le_of_ble_eq_true rfl), List.append_assoc] at hP hD
  have hP : va_P D g_cl ((ws.set k0 (h0, .inr (7, [.ref q1, .ref q3, .null, .null, .null, .int 0, .int 0, .int 0, .int 0, .int 0, .int 0, .int 0])) ++ [(q1, .inl (cy 3, 6, .inr (.inr (.inr (.inr (fun _ => none)))))), (q3, .inr (8, [.ref (n4.1 0), .ref (n4.1 1), .ref (n4.1 2)])), (q5, .inr (0, [.ref (n6 0), .ref (n6 5)]))]) ++ ((([] : va_W) ++ nw_X8 cy n4) ++ nw_X0 cy n6)) H := hP
  have hD : va_D (fun q => z0 ≤ q) ((ws.set k0 (h0, .inr (7, [.ref q1, .ref q3, .null, .null, .null, .int 0, .int 0, .int 0, .int 0, .int 0, .int 0, .int 0])) ++ [(q1, .inl (cy 3, 6, .inr (.inr (.inr (.inr (fun _ => none)))))), (q3, .inr (8, [.ref (n4.1 0), .ref (n4.1 1), .ref (n4.1 2)])), (q5, .inr (0, [.ref (n6 0), .ref (n6 5)]))]) ++ ((([] : va_W) ++ nw_X8 cy n4) ++ nw_X0 cy n6)) := hD
  refine va_putF (D := D) (ci := 7) (v := .ref q5) (ty := tyX7 2) (C := RX7) (T := TX7) (N := 12) hx hb hts inlX7 tyX7 tyX7_ok nmX7 hown hK hP hD hS k0 (c_thisZ h0e) rfl 2 (by decide) (hts _ q3_18) (fun _ h => h) rfl hin rfl (tyX7_ok 2 (by decide)) rfl rfl (Nat.le_of_ble_eq_true rfl) dX7_init_32 (fun H locs hP hD hS => ?_)
  rw [c_setTZ h0e] at hP hD
  have hP : va_P D g_cl ((ws.set k0 (h0, .inr (7, [.ref q1, .ref q3, .ref q5, .null, .null, .int 0, .int 0, .int 0, .int 0, .int 0, .int 0, .int 0])) ++ [(q1, .inl (cy 3, 6, .inr (.inr (.inr (.inr (fun _ => none)))))), (q3, .inr (8, [.ref (n4.1 0), .ref (n4.1 1), .ref (n4.1 2)])), (q5, .inr (0, [.ref (n6 0), .ref (n6 5)]))]) ++ ((([] : va_W) ++ nw_X8 cy n4) ++ nw_X0 cy n6)) H := hP
  have hD : va_D (fun q => z0 ≤ q) ((ws.set k0 (h0, .inr (7, [.ref q1, .ref q3, .ref q5, .null, .null, .int 0, .int 0, .int 0, .int 0, .int 0, .int 0, .int 0])) ++ [(q1, .inl (cy 3, 6, .inr (.inr (.inr (.inr (fun _ => none)))))), (q3, .inr (8, [.ref (n4.1 0), .ref (n4.1 1), .ref (n4.1 2)])), (q5, .inr (0, [.ref (n6 0), .ref (n6 5)]))]) ++ ((([] : va_W) ++ nw_X8 cy n4) ++ nw_X0 cy n6)) := hD
  refine lv_aload_n hx hb dX7_init_35 rfl (lv_at hl 0 rfl) ?_
  refine lv_iconst (v := (-1)) hx hb dX7_init_36 (by decide) ?_
  refine va_put (D := D) (ci := 7) (v := .int (-1)) (ty := tyX7 10) (C := RX7) (T := TX7) (N := 12) hx hb hts inlX7 tyX7 tyX7_ok nmX7 hown hK hP hD hS k0 (c_thisZ h0e) rfl 10 (by decide) (hts _ q3_19) (fun _ h => h) rfl (tyX7_ok 10 (by decide)) rfl rfl (Nat.le_of_ble_eq_true rfl) dX7_init_37 (fun H locs hP hD hS => ?_)
  rw [c_setTZ h0e] at hP hD
  have hP : va_P D g_cl ((ws.set k0 (h0, .inr (7, [.ref q1, .ref q3, .ref q5, .null, .null, .int 0, .int 0, .int 0, .int 0, .int 0, .int (-1), .int 0])) ++ [(q1, .inl (cy 3, 6, .inr (.inr (.inr (.inr (fun _ => none)))))), (q3, .inr (8, [.ref (n4.1 0), .ref (n4.1 1), .ref (n4.1 2)])), (q5, .inr (0, [.ref (n6 0), .ref (n6 5)]))]) ++ ((([] : va_W) ++ nw_X8 cy n4) ++ nw_X0 cy n6)) H := hP
  have hD : va_D (fun q => z0 ≤ q) ((ws.set k0 (h0, .inr (7, [.ref q1, .ref q3, .ref q5, .null, .null, .int 0, .int 0, .int 0, .int 0, .int 0, .int (-1), .int 0])) ++ [(q1, .inl (cy 3, 6, .inr (.inr (.inr (.inr (fun _ => none)))))), (q3, .inr (8, [.ref (n4.1 0), .ref (n4.1 1), .ref (n4.1 2)])), (q5, .inr (0, [.ref (n6 0), .ref (n6 5)]))]) ++ ((([] : va_W) ++ nw_X8 cy n4) ++ nw_X0 cy n6)) := hD
  refine lv_aload_n hx hb dX7_init_40 rfl (lv_at hl 0 rfl) ?_
  refine lv_aload_n hx hb dX7_init_41 rfl (lv_at hl 1 rfl) ?_
  refine va_putF (D := D) (ci := 7) (v := .ref a1) (ty := tyX7 3) (C := RX7) (T := TX7) (N := 12) hx hb hts inlX7 tyX7 tyX7_ok nmX7 hown hK hP hD hS k0 (c_thisZ h0e) rfl 3 (by decide) (hts _ q3_20) (fun _ h => h) rfl hin rfl (tyX7_ok 3 (by decide)) rfl rfl (Nat.le_of_ble_eq_true rfl) dX7_init_42 (fun H locs hP hD hS => ?_)
  rw [c_setTZ h0e] at hP hD
  have hP : va_P D g_cl ((ws.set k0 (h0, .inr (7, [.ref q1, .ref q3, .ref q5, .ref a1, .null, .int 0, .int 0, .int 0, .int 0, .int 0, .int (-1), .int 0])) ++ [(q1, .inl (cy 3, 6, .inr (.inr (.inr (.inr (fun _ => none)))))), (q3, .inr (8, [.ref (n4.1 0), .ref (n4.1 1), .ref (n4.1 2)])), (q5, .inr (0, [.ref (n6 0), .ref (n6 5)]))]) ++ ((([] : va_W) ++ nw_X8 cy n4) ++ nw_X0 cy n6)) H := hP
  have hD : va_D (fun q => z0 ≤ q) ((ws.set k0 (h0, .inr (7, [.ref q1, .ref q3, .ref q5, .ref a1, .null, .int 0, .int 0, .int 0, .int 0, .int 0, .int (-1), .int 0])) ++ [(q1, .inl (cy 3, 6, .inr (.inr (.inr (.inr (fun _ => none)))))), (q3, .inr (8, [.ref (n4.1 0), .ref (n4.1 1), .ref (n4.1 2)])), (q5, .inr (0, [.ref (n6 0), .ref (n6 5)]))]) ++ ((([] : va_W) ++ nw_X8 cy n4) ++ nw_X0 cy n6)) := hD
  refine lv_aload_n hx hb dX7_init_45 rfl (lv_at hl 0 rfl) ?_
  refine lv_aload_n hx hb dX7_init_46 rfl (lv_at hl 2 rfl) ?_
  refine va_putF (D := D) (ci := 7) (v := .ref a2) (ty := tyX7 4) (C := RX7) (T := TX7) (N := 12) hx hb hts inlX7 tyX7 tyX7_ok nmX7 hown hK hP hD hS k0 (c_thisZ h0e) rfl 4 (by decide) (hts _ q3_21) (fun _ h => h) rfl hin rfl (tyX7_ok 4 (by decide)) rfl rfl (Nat.le_of_ble_eq_true rfl) dX7_init_47 (fun H locs hP hD hS => ?_)
  rw [c_setTZ h0e] at hP hD
  have hP : va_P D g_cl ((ws.set k0 (h0, .inr (7, [.ref q1, .ref q3, .ref q5, .ref a1, .ref a2, .int 0, .int 0, .int 0, .int 0, .int 0, .int (-1), .int 0])) ++ [(q1, .inl (cy 3, 6, .inr (.inr (.inr (.inr (fun _ => none)))))), (q3, .inr (8, [.ref (n4.1 0), .ref (n4.1 1), .ref (n4.1 2)])), (q5, .inr (0, [.ref (n6 0), .ref (n6 5)]))]) ++ ((([] : va_W) ++ nw_X8 cy n4) ++ nw_X0 cy n6)) H := hP
  have hD : va_D (fun q => z0 ≤ q) ((ws.set k0 (h0, .inr (7, [.ref q1, .ref q3, .ref q5, .ref a1, .ref a2, .int 0, .int 0, .int 0, .int 0, .int 0, .int (-1), .int 0])) ++ [(q1, .inl (cy 3, 6, .inr (.inr (.inr (.inr (fun _ => none)))))), (q3, .inr (8, [.ref (n4.1 0), .ref (n4.1 1), .ref (n4.1 2)])), (q5, .inr (0, [.ref (n6 0), .ref (n6 5)]))]) ++ ((([] : va_W) ++ nw_X8 cy n4) ++ nw_X0 cy n6)) := hD
  refine lv_iconst (v := 0) hx hb dX7_init_50 (by decide) ?_
  refine lv_istore_n (lv' := [(3, .int 0), (0, .ref h0), (1, .ref a1), (2, .ref a2)]) hx hb dX7_init_51 rfl hl (by decide) rfl (fun ls hl => ?_)
  refine lv_iload_n hx hb dX7_init_52 rfl (lv_at hl 0 rfl) ?_
  refine lv_bipush (v := 6) hx hb dX7_init_53 (by decide) ?_
  refine lv_icmp_ge (tgt := 78) hx hb dX7_init_55 (by decide) (fun h => absurd h (by decide)) (fun _ => ?_)
  refine lv_aload_n hx hb dX7_init_58 rfl (lv_at hl 1 rfl) ?_
  refine va_get (D := D) (ci := 7) (v := .ref q1) (C := RX7) (T := TX7) (N := 12) hx hb hts inlX7 hown hK hP k0 (c_thisZ h0e) rfl 0 (by decide) (hts _ q3_10) (fun _ h => h) rfl dX7_init_59 ?_
  refine lv_iload_n hx hb dX7_init_62 rfl (lv_at hl 0 rfl) ?_
  refine va_new (ci := 9) (fs := [.int 0, .null, .null, .null, .null, .null, .int 0, .int 0, .int 0, .int 0, .int 0, .int 0, .int 0, .int 0, .int 0]) (C := RX9) (T := TX9) (N := 15) hx hb hts inlX9 tyX9 tyX9_ok hown (hts _ q3_9) (hts _ q3_22) (hts _ q3_23) hK hP hD hS hA rfl (fun j hj => by rcases (show j = 0 ∨ j = 1 ∨ j = 2 ∨ j = 3 ∨ j = 4 ∨ j = 5 ∨ j = 6 ∨ j = 7 ∨ j = 8 ∨ j = 9 ∨ j = 10 ∨ j = 11 ∨ j = 12 ∨ j = 13 ∨ j = 14 by omega) with rfl | rfl | rfl | rfl | rfl | rfl | rfl | rfl | rfl | rfl | rfl | rfl | rfl | rfl | rfl <;> rfl) (Nat.le_of_ble_eq_true rfl) (Nat.le_of_ble_eq_true rfl) dX7_init_63 (fun q7 H hP hD hS => ?_)
  have hP := hP.swap
  have hD := hD.swap
  rw [c_as] at hP hD
  have hP : va_P D g_cl ((ws.set k0 (h0, .inr (7, [.ref q1, .ref q3, .ref q5, .ref a1, .ref a2, .int 0, .int 0, .int 0, .int 0, .int 0, .int (-1), .int 0])) ++ [(q1, .inl (cy 3, 6, .inr (.inr (.inr (.inr (fun _ => none)))))), (q3, .inr (8, [.ref (n4.1 0), .ref (n4.1 1), .ref (n4.1 2)])), (q5, .inr (0, [.ref (n6 0), .ref (n6 5)])), (q7, .inr (9, [.int 0, .null, .null, .null, .null, .null, .int 0, .int 0, .int 0, .int 0, .int 0, .int 0, .int 0, .int 0, .int 0]))]) ++ ((([] : va_W) ++ nw_X8 cy n4) ++ nw_X0 cy n6)) H := hP
  have hD : va_D (fun q => z0 ≤ q) ((ws.set k0 (h0, .inr (7, [.ref q1, .ref q3, .ref q5, .ref a1, .ref a2, .int 0, .int 0, .int 0, .int 0, .int 0, .int (-1), .int 0])) ++ [(q1, .inl (cy 3, 6, .inr (.inr (.inr (.inr (fun _ => none)))))), (q3, .inr (8, [.ref (n4.1 0), .ref (n4.1 1), .ref (n4.1 2)])), (q5, .inr (0, [.ref (n6 0), .ref (n6 5)])), (q7, .inr (9, [.int 0, .null, .null, .null, .null, .null, .int 0, .int 0, .int 0, .int 0, .int 0, .int 0, .int 0, .int 0, .int 0]))]) ++ ((([] : va_W) ++ nw_X8 cy n4) ++ nw_X0 cy n6)) := hD
  refine lv_dup hx hb dX7_init_66 rfl ?_
  refine lv_iload_n hx hb dX7_init_67 rfl (lv_at hl 0 rfl) ?_
  refine va_callv (va_runI (As := [.int 0]) (rest := [.ref q7, .int 0, .ref q1]) ⟨hx, hb, hml, hown, hts⟩ (cc_X9 l D cy z0 _ (ws.length + 3) q7 0 (c_newZ 3 rfl)) (cwI 1 hts (wz_N q4_23) rfl rfl rfl (hts _ q3_23) (hts _ q4_21) (hts _ q4_22) rfl hdc_X9 ⟨Nat.le_of_ble_eq_true rfl, Nat.le_of_ble_eq_true rfl⟩) ⟨c_blind, fun U hU hW => ⟨rfl, hCs.moved hW, by rw [hU]; exact hP, hD, by rw [hU]; exact Nat.le_trans hz hS.1⟩⟩ rfl rfl hl.1 rfl (lv_room (Nat.le_of_ble_eq_true rfl)) dX7_init_68 ⟨Nat.le_of_ble_eq_true rfl, Nat.le_of_ble_eq_true rfl⟩) hS (fun _ _ h => h) (fun _ h => h) (fun n8 t H locs ht hvm _ hB hz1 hk1 hS => ?_)
  obtain ⟨hP, hD⟩ := hB
  rw [ht] at hP
  rw [c_setNZ _ (Nat.le_of_ble_eq_true rfl), List.append_assoc] at hP hD
  have hP : va_P D g_cl ((ws.set k0 (h0, .inr (7, [.ref q1, .ref q3, .ref q5, .ref a1, .ref a2, .int 0, .int 0, .int 0, .int 0, .int 0, .int (-1), .int 0])) ++ [(q1, .inl (cy 3, 6, .inr (.inr (.inr (.inr (fun _ => none)))))), (q3, .inr (8, [.ref (n4.1 0), .ref (n4.1 1), .ref (n4.1 2)])), (q5, .inr (0, [.ref (n6 0), .ref (n6 5)])), (q7, .inr (9, [.int 0, .ref (n8.1 0), .ref (n8.1 1), .ref (n8.1 2), .ref (n8.1 3), .ref (n8.1 4), .int (-1), .int 1, .int 0, .int 0, .int 0, .int 0, .int 0, .int 0, .int 0]))]) ++ (((([] : va_W) ++ nw_X8 cy n4) ++ nw_X0 cy n6) ++ nw_X9 cy n8 0)) H := hP
  have hD : va_D (fun q => z0 ≤ q) ((ws.set k0 (h0, .inr (7, [.ref q1, .ref q3, .ref q5, .ref a1, .ref a2, .int 0, .int 0, .int 0, .int 0, .int 0, .int (-1), .int 0])) ++ [(q1, .inl (cy 3, 6, .inr (.inr (.inr (.inr (fun _ => none)))))), (q3, .inr (8, [.ref (n4.1 0), .ref (n4.1 1), .ref (n4.1 2)])), (q5, .inr (0, [.ref (n6 0), .ref (n6 5)])), (q7, .inr (9, [.int 0, .ref (n8.1 0), .ref (n8.1 1), .ref (n8.1 2), .ref (n8.1 3), .ref (n8.1 4), .int (-1), .int 1, .int 0, .int 0, .int 0, .int 0, .int 0, .int 0, .int 0]))]) ++ (((([] : va_W) ++ nw_X8 cy n4) ++ nw_X0 cy n6) ++ nw_X9 cy n8 0)) := hD
  refine va_astq hx hb hK hP hD hS (ws.length + 0) 3 (ws.length + 3) 9 (r := (RX9, TX9, 15)) (c_newZ 0 rfl) rfl (c_newZ 3 rfl) rfl (show g_in 0 6 from by decide) dX7_init_71 (fun H locs hP hD hS => ?_)
  rw [c_setNZ _ (Nat.le_of_ble_eq_true rfl)] at hP hD
  have hP : va_P D g_cl ((ws.set k0 (h0, .inr (7, [.ref q1, .ref q3, .ref q5, .ref a1, .ref a2, .int 0, .int 0, .int 0, .int 0, .int 0, .int (-1), .int 0])) ++ [(q1, .inl (cy 3, 6, .inr (.inr (.inr (.inr (va_up (fun _ => none) (Int32.toNatClampNeg 0) (some q7))))))), (q3, .inr (8, [.ref (n4.1 0), .ref (n4.1 1), .ref (n4.1 2)])), (q5, .inr (0, [.ref (n6 0), .ref (n6 5)])), (q7, .inr (9, [.int 0, .ref (n8.1 0), .ref (n8.1 1), .ref (n8.1 2), .ref (n8.1 3), .ref (n8.1 4), .int (-1), .int 1, .int 0, .int 0, .int 0, .int 0, .int 0, .int 0, .int 0]))]) ++ (((([] : va_W) ++ nw_X8 cy n4) ++ nw_X0 cy n6) ++ nw_X9 cy n8 0)) H := hP
  have hD : va_D (fun q => z0 ≤ q) ((ws.set k0 (h0, .inr (7, [.ref q1, .ref q3, .ref q5, .ref a1, .ref a2, .int 0, .int 0, .int 0, .int 0, .int 0, .int (-1), .int 0])) ++ [(q1, .inl (cy 3, 6, .inr (.inr (.inr (.inr (va_up (fun _ => none) (Int32.toNatClampNeg 0) (some q7))))))), (q3, .inr (8, [.ref (n4.1 0), .ref (n4.1 1), .ref (n4.1 2)])), (q5, .inr (0, [.ref (n6 0), .ref (n6 5)])), (q7, .inr (9, [.int 0, .ref (n8.1 0), .ref (n8.1 1), .ref (n8.1 2), .ref (n8.1 3), .ref (n8.1 4), .int (-1), .int 1, .int 0, .int 0, .int 0, .int 0, .int 0, .int 0, .int 0]))]) ++ (((([] : va_W) ++ nw_X8 cy n4) ++ nw_X0 cy n6) ++ nw_X9 cy n8 0)) := hD
  refine lv_iinc (v := 1) (lv' := [(3, .int 1), (0, .ref h0), (1, .ref a1), (2, .ref a2)]) hx hb dX7_init_72 hl (k := 0) rfl (by decide) (by decide) rfl (fun ls hl => ?_)
  refine lv_goto (tgt := 52) hx hb dX7_init_75 (by decide) ?_
  refine lv_iload_n hx hb dX7_init_52 rfl (lv_at hl 0 rfl) ?_
  refine lv_bipush (v := 6) hx hb dX7_init_53 (by decide) ?_
  refine lv_icmp_ge (tgt := 78) hx hb dX7_init_55 (by decide) (fun h => absurd h (by decide)) (fun _ => ?_)
  refine lv_aload_n hx hb dX7_init_58 rfl (lv_at hl 1 rfl) ?_
  refine va_get (D := D) (ci := 7) (v := .ref q1) (C := RX7) (T := TX7) (N := 12) hx hb hts inlX7 hown hK hP k0 (c_thisZ h0e) rfl 0 (by decide) (hts _ q3_10) (fun _ h => h) rfl dX7_init_59 ?_
  refine lv_iload_n hx hb dX7_init_62 rfl (lv_at hl 0 rfl) ?_
  refine va_new (ci := 9) (fs := [.int 0, .null, .null, .null, .null, .null, .int 0, .int 0, .int 0, .int 0, .int 0, .int 0, .int 0, .int 0, .int 0]) (C := RX9) (T := TX9) (N := 15) hx hb hts inlX9 tyX9 tyX9_ok hown (hts _ q3_9) (hts _ q3_22) (hts _ q3_23) hK hP hD hS hA rfl (fun j hj => by rcases (show j = 0 ∨ j = 1 ∨ j = 2 ∨ j = 3 ∨ j = 4 ∨ j = 5 ∨ j = 6 ∨ j = 7 ∨ j = 8 ∨ j = 9 ∨ j = 10 ∨ j = 11 ∨ j = 12 ∨ j = 13 ∨ j = 14 by omega) with rfl | rfl | rfl | rfl | rfl | rfl | rfl | rfl | rfl | rfl | rfl | rfl | rfl | rfl | rfl <;> rfl) (Nat.le_of_ble_eq_true rfl) (Nat.le_of_ble_eq_true rfl) dX7_init_63 (fun q9 H hP hD hS => ?_)
  have hP := hP.swap
  have hD := hD.swap
  rw [c_as] at hP hD
  have hP : va_P D g_cl ((ws.set k0 (h0, .inr (7, [.ref q1, .ref q3, .ref q5, .ref a1, .ref a2, .int 0, .int 0, .int 0, .int 0, .int 0, .int (-1), .int 0])) ++ [(q1, .inl (cy 3, 6, .inr (.inr (.inr (.inr (va_up (fun _ => none) (Int32.toNatClampNeg 0) (some q7))))))), (q3, .inr (8, [.ref (n4.1 0), .ref (n4.1 1), .ref (n4.1 2)])), (q5, .inr (0, [.ref (n6 0), .ref (n6 5)])), (q7, .inr (9, [.int 0, .ref (n8.1 0), .ref (n8.1 1), .ref (n8.1 2), .ref (n8.1 3), .ref (n8.1 4), .int (-1), .int 1, .int 0, .int 0, .int 0, .int 0, .int 0, .int 0, .int 0])), (q9, .inr (9, [.int 0, .null, .null, .null, .null, .null, .int 0, .int 0, .int 0, .int 0, .int 0, .int 0, .int 0, .int 0, .int 0]))]) ++ (((([] : va_W) ++ nw_X8 cy n4) ++ nw_X0 cy n6) ++ nw_X9 cy n8 0)) H := hP
  have hD : va_D (fun q => z0 ≤ q) ((ws.set k0 (h0, .inr (7, [.ref q1, .ref q3, .ref q5, .ref a1, .ref a2, .int 0, .int 0, .int 0, .int 0, .int 0, .int (-1), .int 0])) ++ [(q1, .inl (cy 3, 6, .inr (.inr (.inr (.inr (va_up (fun _ => none) (Int32.toNatClampNeg 0) (some q7))))))), (q3, .inr (8, [.ref (n4.1 0), .ref (n4.1 1), .ref (n4.1 2)])), (q5, .inr (0, [.ref (n6 0), .ref (n6 5)])), (q7, .inr (9, [.int 0, .ref (n8.1 0), .ref (n8.1 1), .ref (n8.1 2), .ref (n8.1 3), .ref (n8.1 4), .int (-1), .int 1, .int 0, .int 0, .int 0, .int 0, .int 0, .int 0, .int 0])), (q9, .inr (9, [.int 0, .null, .null, .null, .null, .null, .int 0, .int 0, .int 0, .int 0, .int 0, .int 0, .int 0, .int 0, .int 0]))]) ++ (((([] : va_W) ++ nw_X8 cy n4) ++ nw_X0 cy n6) ++ nw_X9 cy n8 0)) := hD
  refine lv_dup hx hb dX7_init_66 rfl ?_
  refine lv_iload_n hx hb dX7_init_67 rfl (lv_at hl 0 rfl) ?_
  refine va_callv (va_runI (As := [.int 1]) (rest := [.ref q9, .int 1, .ref q1]) ⟨hx, hb, hml, hown, hts⟩ (cc_X9 l D cy z0 _ (ws.length + 4) q9 1 (c_newZ 4 rfl)) (cwI 1 hts (wz_N q4_23) rfl rfl rfl (hts _ q3_23) (hts _ q4_21) (hts _ q4_22) rfl hdc_X9 ⟨Nat.le_of_ble_eq_true rfl, Nat.le_of_ble_eq_true rfl⟩) ⟨c_blind, fun U hU hW => ⟨rfl, hCs.moved hW, by rw [hU]; exact hP, hD, by rw [hU]; exact Nat.le_trans hz hS.1⟩⟩ rfl rfl hl.1 rfl (lv_room (Nat.le_of_ble_eq_true rfl)) dX7_init_68 ⟨Nat.le_of_ble_eq_true rfl, Nat.le_of_ble_eq_true rfl⟩) hS (fun _ _ h => h) (fun _ h => h) (fun n10 t H locs ht hvm _ hB hz1 hk1 hS => ?_)
  obtain ⟨hP, hD⟩ := hB
  rw [ht] at hP
  rw [c_setNZ _ (Nat.le_of_ble_eq_true rfl), List.append_assoc] at hP hD
  have hP : va_P D g_cl ((ws.set k0 (h0, .inr (7, [.ref q1, .ref q3, .ref q5, .ref a1, .ref a2, .int 0, .int 0, .int 0, .int 0, .int 0, .int (-1), .int 0])) ++ [(q1, .inl (cy 3, 6, .inr (.inr (.inr (.inr (va_up (fun _ => none) (Int32.toNatClampNeg 0) (some q7))))))), (q3, .inr (8, [.ref (n4.1 0), .ref (n4.1 1), .ref (n4.1 2)])), (q5, .inr (0, [.ref (n6 0), .ref (n6 5)])), (q7, .inr (9, [.int 0, .ref (n8.1 0), .ref (n8.1 1), .ref (n8.1 2), .ref (n8.1 3), .ref (n8.1 4), .int (-1), .int 1, .int 0, .int 0, .int 0, .int 0, .int 0, .int 0, .int 0])), (q9, .inr (9, [.int 1, .ref (n10.1 0), .ref (n10.1 1), .ref (n10.1 2), .ref (n10.1 3), .ref (n10.1 4), .int (-1), .int 1, .int 0, .int 0, .int 0, .int 0, .int 0, .int 0, .int 0]))]) ++ ((((([] : va_W) ++ nw_X8 cy n4) ++ nw_X0 cy n6) ++ nw_X9 cy n8 0) ++ nw_X9 cy n10 1)) H := hP
  have hD : va_D (fun q => z0 ≤ q) ((ws.set k0 (h0, .inr (7, [.ref q1, .ref q3, .ref q5, .ref a1, .ref a2, .int 0, .int 0, .int 0, .int 0, .int 0, .int (-1), .int 0])) ++ [(q1, .inl (cy 3, 6, .inr (.inr (.inr (.inr (va_up (fun _ => none) (Int32.toNatClampNeg 0) (some q7))))))), (q3, .inr (8, [.ref (n4.1 0), .ref (n4.1 1), .ref (n4.1 2)])), (q5, .inr (0, [.ref (n6 0), .ref (n6 5)])), (q7, .inr (9, [.int 0, .ref (n8.1 0), .ref (n8.1 1), .ref (n8.1 2), .ref (n8.1 3), .ref (n8.1 4), .int (-1), .int 1, .int 0, .int 0, .int 0, .int 0, .int 0, .int 0, .int 0])), (q9, .inr (9, [.int 1, .ref (n10.1 0), .ref (n10.1 1), .ref (n10.1 2), .ref (n10.1 3), .ref (n10.1 4), .int (-1), .int 1, .int 0, .int 0, .int 0, .int 0, .int 0, .int 0, .int 0]))]) ++ ((((([] : va_W) ++ nw_X8 cy n4) ++ nw_X0 cy n6) ++ nw_X9 cy n8 0) ++ nw_X9 cy n10 1)) := hD
  refine va_astq hx hb hK hP hD hS (ws.length + 0) 3 (ws.length + 4) 9 (r := (RX9, TX9, 15)) (c_newZ 0 rfl) rfl (c_newZ 4 rfl) rfl (show g_in 1 6 from by decide) dX7_init_71 (fun H locs hP hD hS => ?_)
  rw [c_setNZ _ (Nat.le_of_ble_eq_true rfl)] at hP hD
  have hP : va_P D g_cl ((ws.set k0 (h0, .inr (7, [.ref q1, .ref q3, .ref q5, .ref a1, .ref a2, .int 0, .int 0, .int 0, .int 0, .int 0, .int (-1), .int 0])) ++ [(q1, .inl (cy 3, 6, .inr (.inr (.inr (.inr (va_up (va_up (fun _ => none) (Int32.toNatClampNeg 0) (some q7)) (Int32.toNatClampNeg 1) (some q9))))))), (q3, .inr (8, [.ref (n4.1 0), .ref (n4.1 1), .ref (n4.1 2)])), (q5, .inr (0, [.ref (n6 0), .ref (n6 5)])), (q7, .inr (9, [.int 0, .ref (n8.1 0), .ref (n8.1 1), .ref (n8.1 2), .ref (n8.1 3), .ref (n8.1 4), .int (-1), .int 1, .int 0, .int 0, .int 0, .int 0, .int 0, .int 0, .int 0])), (q9, .inr (9, [.int 1, .ref (n10.1 0), .ref (n10.1 1), .ref (n10.1 2), .ref (n10.1 3), .ref (n10.1 4), .int (-1), .int 1, .int 0, .int 0, .int 0, .int 0, .int 0, .int 0, .int 0]))]) ++ ((((([] : va_W) ++ nw_X8 cy n4) ++ nw_X0 cy n6) ++ nw_X9 cy n8 0) ++ nw_X9 cy n10 1)) H := hP
  have hD : va_D (fun q => z0 ≤ q) ((ws.set k0 (h0, .inr (7, [.ref q1, .ref q3, .ref q5, .ref a1, .ref a2, .int 0, .int 0, .int 0, .int 0, .int 0, .int (-1), .int 0])) ++ [(q1, .inl (cy 3, 6, .inr (.inr (.inr (.inr (va_up (va_up (fun _ => none) (Int32.toNatClampNeg 0) (some q7)) (Int32.toNatClampNeg 1) (some q9))))))), (q3, .inr (8, [.ref (n4.1 0), .ref (n4.1 1), .ref (n4.1 2)])), (q5, .inr (0, [.ref (n6 0), .ref (n6 5)])), (q7, .inr (9, [.int 0, .ref (n8.1 0), .ref (n8.1 1), .ref (n8.1 2), .ref (n8.1 3), .ref (n8.1 4), .int (-1), .int 1, .int 0, .int 0, .int 0, .int 0, .int 0, .int 0, .int 0])), (q9, .inr (9, [.int 1, .ref (n10.1 0), .ref (n10.1 1), .ref (n10.1 2), .ref (n10.1 3), .ref (n10.1 4), .int (-1), .int 1, .int 0, .int 0, .int 0, .int 0, .int 0, .int 0, .int 0]))]) ++ ((((([] : va_W) ++ nw_X8 cy n4) ++ nw_X0 cy n6) ++ nw_X9 cy n8 0) ++ nw_X9 cy n10 1)) := hD
  refine lv_iinc (v := 2) (lv' := [(3, .int 2), (0, .ref h0), (1, .ref a1), (2, .ref a2)]) hx hb dX7_init_72 hl (k := 0) rfl (by decide) (by decide) rfl (fun ls hl => ?_)
  refine lv_goto (tgt := 52) hx hb dX7_init_75 (by decide) ?_
  refine lv_iload_n hx hb dX7_init_52 rfl (lv_at hl 0 rfl) ?_
  refine lv_bipush (v := 6) hx hb dX7_init_53 (by decide) ?_
  refine lv_icmp_ge (tgt := 78) hx hb dX7_init_55 (by decide) (fun h => absurd h (by decide)) (fun _ => ?_)
  refine lv_aload_n hx hb dX7_init_58 rfl (lv_at hl 1 rfl) ?_
  refine va_get (D := D) (ci := 7) (v := .ref q1) (C := RX7) (T := TX7) (N := 12) hx hb hts inlX7 hown hK hP k0 (c_thisZ h0e) rfl 0 (by decide) (hts _ q3_10) (fun _ h => h) rfl dX7_init_59 ?_
  refine lv_iload_n hx hb dX7_init_62 rfl (lv_at hl 0 rfl) ?_
  refine va_new (ci := 9) (fs := [.int 0, .null, .null, .null, .null, .null, .int 0, .int 0, .int 0, .int 0, .int 0, .int 0, .int 0, .int 0, .int 0]) (C := RX9) (T := TX9) (N := 15) hx hb hts inlX9 tyX9 tyX9_ok hown (hts _ q3_9) (hts _ q3_22) (hts _ q3_23) hK hP hD hS hA rfl (fun j hj => by rcases (show j = 0 ∨ j = 1 ∨ j = 2 ∨ j = 3 ∨ j = 4 ∨ j = 5 ∨ j = 6 ∨ j = 7 ∨ j = 8 ∨ j = 9 ∨ j = 10 ∨ j = 11 ∨ j = 12 ∨ j = 13 ∨ j = 14 by omega) with rfl | rfl | rfl | rfl | rfl | rfl | rfl | rfl | rfl | rfl | rfl | rfl | rfl | rfl | rfl <;> rfl) (Nat.le_of_ble_eq_true rfl) (Nat.le_of_ble_eq_true rfl) dX7_init_63 (fun q11 H hP hD hS => ?_)
  have hP := hP.swap
  have hD := hD.swap
  rw [c_as] at hP hD
  have hP : va_P D g_cl ((ws.set k0 (h0, .inr (7, [.ref q1, .ref q3, .ref q5, .ref a1, .ref a2, .int 0, .int 0, .int 0, .int 0, .int 0, .int (-1), .int 0])) ++ [(q1, .inl (cy 3, 6, .inr (.inr (.inr (.inr (va_up (va_up (fun _ => none) (Int32.toNatClampNeg 0) (some q7)) (Int32.toNatClampNeg 1) (some q9))))))), (q3, .inr (8, [.ref (n4.1 0), .ref (n4.1 1), .ref (n4.1 2)])), (q5, .inr (0, [.ref (n6 0), .ref (n6 5)])), (q7, .inr (9, [.int 0, .ref (n8.1 0), .ref (n8.1 1), .ref (n8.1 2), .ref (n8.1 3), .ref (n8.1 4), .int (-1), .int 1, .int 0, .int 0, .int 0, .int 0, .int 0, .int 0, .int 0])), (q9, .inr (9, [.int 1, .ref (n10.1 0), .ref (n10.1 1), .ref (n10.1 2), .ref (n10.1 3), .ref (n10.1 4), .int (-1), .int 1, .int 0, .int 0, .int 0, .int 0, .int 0, .int 0, .int 0])), (q11, .inr (9, [.int 0, .null, .null, .null, .null, .null, .int 0, .int 0, .int 0, .int 0, .int 0, .int 0, .int 0, .int 0, .int 0]))]) ++ ((((([] : va_W) ++ nw_X8 cy n4) ++ nw_X0 cy n6) ++ nw_X9 cy n8 0) ++ nw_X9 cy n10 1)) H := hP
  have hD : va_D (fun q => z0 ≤ q) ((ws.set k0 (h0, .inr (7, [.ref q1, .ref q3, .ref q5, .ref a1, .ref a2, .int 0, .int 0, .int 0, .int 0, .int 0, .int (-1), .int 0])) ++ [(q1, .inl (cy 3, 6, .inr (.inr (.inr (.inr (va_up (va_up (fun _ => none) (Int32.toNatClampNeg 0) (some q7)) (Int32.toNatClampNeg 1) (some q9))))))), (q3, .inr (8, [.ref (n4.1 0), .ref (n4.1 1), .ref (n4.1 2)])), (q5, .inr (0, [.ref (n6 0), .ref (n6 5)])), (q7, .inr (9, [.int 0, .ref (n8.1 0), .ref (n8.1 1), .ref (n8.1 2), .ref (n8.1 3), .ref (n8.1 4), .int (-1), .int 1, .int 0, .int 0, .int 0, .int 0, .int 0, .int 0, .int 0])), (q9, .inr (9, [.int 1, .ref (n10.1 0), .ref (n10.1 1), .ref (n10.1 2), .ref (n10.1 3), .ref (n10.1 4), .int (-1), .int 1, .int 0, .int 0, .int 0, .int 0, .int 0, .int 0, .int 0])), (q11, .inr (9, [.int 0, .null, .null, .null, .null, .null, .int 0, .int 0, .int 0, .int 0, .int 0, .int 0, .int 0, .int 0, .int 0]))]) ++ ((((([] : va_W) ++ nw_X8 cy n4) ++ nw_X0 cy n6) ++ nw_X9 cy n8 0) ++ nw_X9 cy n10 1)) := hD
  refine lv_dup hx hb dX7_init_66 rfl ?_
  refine lv_iload_n hx hb dX7_init_67 rfl (lv_at hl 0 rfl) ?_
  refine va_callv (va_runI (As := [.int 2]) (rest := [.ref q11, .int 2, .ref q1]) ⟨hx, hb, hml, hown, hts⟩ (cc_X9 l D cy z0 _ (ws.length + 5) q11 2 (c_newZ 5 rfl)) (cwI 1 hts (wz_N q4_23) rfl rfl rfl (hts _ q3_23) (hts _ q4_21) (hts _ q4_22) rfl hdc_X9 ⟨Nat.le_of_ble_eq_true rfl, Nat.le_of_ble_eq_true rfl⟩) ⟨c_blind, fun U hU hW => ⟨rfl, hCs.moved hW, by rw [hU]; exact hP, hD, by rw [hU]; exact Nat.le_trans hz hS.1⟩⟩ rfl rfl hl.1 rfl (lv_room (Nat.le_of_ble_eq_true rfl)) dX7_init_68 ⟨Nat.le_of_ble_eq_true rfl, Nat.le_of_ble_eq_true rfl⟩) hS (fun _ _ h => h) (fun _ h => h) (fun n12 t H locs ht hvm _ hB hz1 hk1 hS => ?_)
  obtain ⟨hP, hD⟩ := hB
  rw [ht] at hP
  rw [c_setNZ _ (Nat.le_of_ble_eq_true rfl), List.append_assoc] at hP hD
  have hP : va_P D g_cl ((ws.set k0 (h0, .inr (7, [.ref q1, .ref q3, .ref q5, .ref a1, .ref a2, .int 0, .int 0, .int 0, .int 0, .int 0, .int (-1), .int 0])) ++ [(q1, .inl (cy 3, 6, .inr (.inr (.inr (.inr (va_up (va_up (fun _ => none) (Int32.toNatClampNeg 0) (some q7)) (Int32.toNatClampNeg 1) (some q9))))))), (q3, .inr (8, [.ref (n4.1 0), .ref (n4.1 1), .ref (n4.1 2)])), (q5, .inr (0, [.ref (n6 0), .ref (n6 5)])), (q7, .inr (9, [.int 0, .ref (n8.1 0), .ref (n8.1 1), .ref (n8.1 2), .ref (n8.1 3), .ref (n8.1 4), .int (-1), .int 1, .int 0, .int 0, .int 0, .int 0, .int 0, .int 0, .int 0])), (q9, .inr (9, [.int 1, .ref (n10.1 0), .ref (n10.1 1), .ref (n10.1 2), .ref (n10.1 3), .ref (n10.1 4), .int (-1), .int 1, .int 0, .int 0, .int 0, .int 0, .int 0, .int 0, .int 0])), (q11, .inr (9, [.int 2, .ref (n12.1 0), .ref (n12.1 1), .ref (n12.1 2), .ref (n12.1 3), .ref (n12.1 4), .int (-1), .int 1, .int 0, .int 0, .int 0, .int 0, .int 0, .int 0, .int 0]))]) ++ (((((([] : va_W) ++ nw_X8 cy n4) ++ nw_X0 cy n6) ++ nw_X9 cy n8 0) ++ nw_X9 cy n10 1) ++ nw_X9 cy n12 2)) H := hP
  have hD : va_D (fun q => z0 ≤ q) ((ws.set k0 (h0, .inr (7, [.ref q1, .ref q3, .ref q5, .ref a1, .ref a2, .int 0, .int 0, .int 0, .int 0, .int 0, .int (-1), .int 0])) ++ [(q1, .inl (cy 3, 6, .inr (.inr (.inr (.inr (va_up (va_up (fun _ => none) (Int32.toNatClampNeg 0) (some q7)) (Int32.toNatClampNeg 1) (some q9))))))), (q3, .inr (8, [.ref (n4.1 0), .ref (n4.1 1), .ref (n4.1 2)])), (q5, .inr (0, [.ref (n6 0), .ref (n6 5)])), (q7, .inr (9, [.int 0, .ref (n8.1 0), .ref (n8.1 1), .ref (n8.1 2), .ref (n8.1 3), .ref (n8.1 4), .int (-1), .int 1, .int 0, .int 0, .int 0, .int 0, .int 0, .int 0, .int 0])), (q9, .inr (9, [.int 1, .ref (n10.1 0), .ref (n10.1 1), .ref (n10.1 2), .ref (n10.1 3), .ref (n10.1 4), .int (-1), .int 1, .int 0, .int 0, .int 0, .int 0, .int 0, .int 0, .int 0])), (q11, .inr (9, [.int 2, .ref (n12.1 0), .ref (n12.1 1), .ref (n12.1 2), .ref (n12.1 3), .ref (n12.1 4), .int (-1), .int 1, .int 0, .int 0, .int 0, .int 0, .int 0, .int 0, .int 0]))]) ++ (((((([] : va_W) ++ nw_X8 cy n4) ++ nw_X0 cy n6) ++ nw_X9 cy n8 0) ++ nw_X9 cy n10 1) ++ nw_X9 cy n12 2)) := hD
  refine va_astq hx hb hK hP hD hS (ws.length + 0) 3 (ws.length + 5) 9 (r := (RX9, TX9, 15)) (c_newZ 0 rfl) rfl (c_newZ 5 rfl) rfl (show g_in 2 6 from by decide) dX7_init_71 (fun H locs hP hD hS => ?_)
  rw [c_setNZ _ (Nat.le_of_ble_eq_true rfl)] at hP hD
  have hP : va_P D g_cl ((ws.set k0 (h0, .inr (7, [.ref q1, .ref q3, .ref q5, .ref a1, .ref a2, .int 0, .int 0, .int 0, .int 0, .int 0, .int (-1), .int 0])) ++ [(q1, .inl (cy 3, 6, .inr (.inr (.inr (.inr (va_up (va_up (va_up (fun _ => none) (Int32.toNatClampNeg 0) (some q7)) (Int32.toNatClampNeg 1) (some q9)) (Int32.toNatClampNeg 2) (some q11))))))), (q3, .inr (8, [.ref (n4.1 0), .ref (n4.1 1), .ref (n4.1 2)])), (q5, .inr (0, [.ref (n6 0), .ref (n6 5)])), (q7, .inr (9, [.int 0, .ref (n8.1 0), .ref (n8.1 1), .ref (n8.1 2), .ref (n8.1 3), .ref (n8.1 4), .int (-1), .int 1, .int 0, .int 0, .int 0, .int 0, .int 0, .int 0, .int 0])), (q9, .inr (9, [.int 1, .ref (n10.1 0), .ref (n10.1 1), .ref (n10.1 2), .ref (n10.1 3), .ref (n10.1 4), .int (-1), .int 1, .int 0, .int 0, .int 0, .int 0, .int 0, .int 0, .int 0])), (q11, .inr (9, [.int 2, .ref (n12.1 0), .ref (n12.1 1), .ref (n12.1 2), .ref (n12.1 3), .ref (n12.1 4), .int (-1), .int 1, .int 0, .int 0, .int 0, .int 0, .int 0, .int 0, .int 0]))]) ++ (((((([] : va_W) ++ nw_X8 cy n4) ++ nw_X0 cy n6) ++ nw_X9 cy n8 0) ++ nw_X9 cy n10 1) ++ nw_X9 cy n12 2)) H := hP
  have hD : va_D (fun q => z0 ≤ q) ((ws.set k0 (h0, .inr (7, [.ref q1, .ref q3, .ref q5, .ref a1, .ref a2, .int 0, .int 0, .int 0, .int 0, .int 0, .int (-1), .int 0])) ++ [(q1, .inl (cy 3, 6, .inr (.inr (.inr (.inr (va_up (va_up (va_up (fun _ => none) (Int32.toNatClampNeg 0) (some q7)) (Int32.toNatClampNeg 1) (some q9)) (Int32.toNatClampNeg 2) (some q11))))))), (q3, .inr (8, [.ref (n4.1 0), .ref (n4.1 1), .ref (n4.1 2)])), (q5, .inr (0, [.ref (n6 0), .ref (n6 5)])), (q7, .inr (9, [.int 0, .ref (n8.1 0), .ref (n8.1 1), .ref (n8.1 2), .ref (n8.1 3), .ref (n8.1 4), .int (-1), .int 1, .int 0, .int 0, .int 0, .int 0, .int 0, .int 0, .int 0])), (q9, .inr (9, [.int 1, .ref (n10.1 0), .ref (n10.1 1), .ref (n10.1 2), .ref (n10.1 3), .ref (n10.1 4), .int (-1), .int 1, .int 0, .int 0, .int 0, .int 0, .int 0, .int 0, .int 0])), (q11, .inr (9, [.int 2, .ref (n12.1 0), .ref (n12.1 1), .ref (n12.1 2), .ref (n12.1 3), .ref (n12.1 4), .int (-1), .int 1, .int 0, .int 0, .int 0, .int 0, .int 0, .int 0, .int 0]))]) ++ (((((([] : va_W) ++ nw_X8 cy n4) ++ nw_X0 cy n6) ++ nw_X9 cy n8 0) ++ nw_X9 cy n10 1) ++ nw_X9 cy n12 2)) := hD
  refine lv_iinc (v := 3) (lv' := [(3, .int 3), (0, .ref h0), (1, .ref a1), (2, .ref a2)]) hx hb dX7_init_72 hl (k := 0) rfl (by decide) (by decide) rfl (fun ls hl => ?_)
  refine lv_goto (tgt := 52) hx hb dX7_init_75 (by decide) ?_
  refine lv_iload_n hx hb dX7_init_52 rfl (lv_at hl 0 rfl) ?_
  refine lv_bipush (v := 6) hx hb dX7_init_53 (by decide) ?_
  refine lv_icmp_ge (tgt := 78) hx hb dX7_init_55 (by decide) (fun h => absurd h (by decide)) (fun _ => ?_)
  refine lv_aload_n hx hb dX7_init_58 rfl (lv_at hl 1 rfl) ?_
  refine va_get (D := D) (ci := 7) (v := .ref q1) (C := RX7) (T := TX7) (N := 12) hx hb hts inlX7 hown hK hP k0 (c_thisZ h0e) rfl 0 (by decide) (hts _ q3_10) (fun _ h => h) rfl dX7_init_59 ?_
  refine lv_iload_n hx hb dX7_init_62 rfl (lv_at hl 0 rfl) ?_
  refine va_new (ci := 9) (fs := [.int 0, .null, .null, .null, .null, .null, .int 0, .int 0, .int 0, .int 0, .int 0, .int 0, .int 0, .int 0, .int 0]) (C := RX9) (T := TX9) (N := 15) hx hb hts inlX9 tyX9 tyX9_ok hown (hts _ q3_9) (hts _ q3_22) (hts _ q3_23) hK hP hD hS hA rfl (fun j hj => by rcases (show j = 0 ∨ j = 1 ∨ j = 2 ∨ j = 3 ∨ j = 4 ∨ j = 5 ∨ j = 6 ∨ j = 7 ∨ j = 8 ∨ j = 9 ∨ j = 10 ∨ j = 11 ∨ j = 12 ∨ j = 13 ∨ j = 14 by omega) with rfl | rfl | rfl | rfl | rfl | rfl | rfl | rfl | rfl | rfl | rfl | rfl | rfl | rfl | rfl <;> rfl) (Nat.le_of_ble_eq_true rfl) (Nat.le_of_ble_eq_true rfl) dX7_init_63 (fun q13 H hP hD hS => ?_)
  have hP := hP.swap
  have hD := hD.swap
  rw [c_as] at hP hD
  have hP : va_P D g_cl ((ws.set k0 (h0, .inr (7, [.ref q1, .ref q3, .ref q5, .ref a1, .ref a2, .int 0, .int 0, .int 0, .int 0, .int 0, .int (-1), .int 0])) ++ [(q1, .inl (cy 3, 6, .inr (.inr (.inr (.inr (va_up (va_up (va_up (fun _ => none) (Int32.toNatClampNeg 0) (some q7)) (Int32.toNatClampNeg 1) (some q9)) (Int32.toNatClampNeg 2) (some q11))))))), (q3, .inr (8, [.ref (n4.1 0), .ref (n4.1 1), .ref (n4.1 2)])), (q5, .inr (0, [.ref (n6 0), .ref (n6 5)])), (q7, .inr (9, [.int 0, .ref (n8.1 0), .ref (n8.1 1), .ref (n8.1 2), .ref (n8.1 3), .ref (n8.1 4), .int (-1), .int 1, .int 0, .int 0, .int 0, .int 0, .int 0, .int 0, .int 0])), (q9, .inr (9, [.int 1, .ref (n10.1 0), .ref (n10.1 1), .ref (n10.1 2), .ref (n10.1 3), .ref (n10.1 4), .int (-1), .int 1, .int 0, .int 0, .int 0, .int 0, .int 0, .int 0, .int 0])), (q11, .inr (9, [.int 2, .ref (n12.1 0), .ref (n12.1 1), .ref (n12.1 2), .ref (n12.1 3), .ref (n12.1 4), .int (-1), .int 1, .int 0, .int 0, .int 0, .int 0, .int 0, .int 0, .int 0])), (q13, .inr (9, [.int 0, .null, .null, .null, .null, .null, .int 0, .int 0, .int 0, .int 0, .int 0, .int 0, .int 0, .int 0, .int 0]))]) ++ (((((([] : va_W) ++ nw_X8 cy n4) ++ nw_X0 cy n6) ++ nw_X9 cy n8 0) ++ nw_X9 cy n10 1) ++ nw_X9 cy n12 2)) H := hP
  have hD : va_D (fun q => z0 ≤ q) ((ws.set k0 (h0, .inr (7, [.ref q1, .ref q3, .ref q5, .ref a1, .ref a2, .int 0, .int 0, .int 0, .int 0, .int 0, .int (-1), .int 0])) ++ [(q1, .inl (cy 3, 6, .inr (.inr (.inr (.inr (va_up (va_up (va_up (fun _ => none) (Int32.toNatClampNeg 0) (some q7)) (Int32.toNatClampNeg 1) (some q9)) (Int32.toNatClampNeg 2) (some q11))))))), (q3, .inr (8, [.ref (n4.1 0), .ref (n4.1 1), .ref (n4.1 2)])), (q5, .inr (0, [.ref (n6 0), .ref (n6 5)])), (q7, .inr (9, [.int 0, .ref (n8.1 0), .ref (n8.1 1), .ref (n8.1 2), .ref (n8.1 3), .ref (n8.1 4), .int (-1), .int 1, .int 0, .int 0, .int 0, .int 0, .int 0, .int 0, .int 0])), (q9, .inr (9, [.int 1, .ref (n10.1 0), .ref (n10.1 1), .ref (n10.1 2), .ref (n10.1 3), .ref (n10.1 4), .int (-1), .int 1, .int 0, .int 0, .int 0, .int 0, .int 0, .int 0, .int 0])), (q11, .inr (9, [.int 2, .ref (n12.1 0), .ref (n12.1 1), .ref (n12.1 2), .ref (n12.1 3), .ref (n12.1 4), .int (-1), .int 1, .int 0, .int 0, .int 0, .int 0, .int 0, .int 0, .int 0])), (q13, .inr (9, [.int 0, .null, .null, .null, .null, .null, .int 0, .int 0, .int 0, .int 0, .int 0, .int 0, .int 0, .int 0, .int 0]))]) ++ (((((([] : va_W) ++ nw_X8 cy n4) ++ nw_X0 cy n6) ++ nw_X9 cy n8 0) ++ nw_X9 cy n10 1) ++ nw_X9 cy n12 2)) := hD
  refine lv_dup hx hb dX7_init_66 rfl ?_
  refine lv_iload_n hx hb dX7_init_67 rfl (lv_at hl 0 rfl) ?_
  refine va_callv (va_runI (As := [.int 3]) (rest := [.ref q13, .int 3, .ref q1]) ⟨hx, hb, hml, hown, hts⟩ (cc_X9 l D cy z0 _ (ws.length + 6) q13 3 (c_newZ 6 rfl)) (cwI 1 hts (wz_N q4_23) rfl rfl rfl (hts _ q3_23) (hts _ q4_21) (hts _ q4_22) rfl hdc_X9 ⟨Nat.le_of_ble_eq_true rfl, Nat.le_of_ble_eq_true rfl⟩) ⟨c_blind, fun U hU hW => ⟨rfl, hCs.moved hW, by rw [hU]; exact hP, hD, by rw [hU]; exact Nat.le_trans hz hS.1⟩⟩ rfl rfl hl.1 rfl (lv_room (Nat.le_of_ble_eq_true rfl)) dX7_init_68 ⟨Nat.le_of_ble_eq_true rfl, Nat.le_of_ble_eq_true rfl⟩) hS (fun _ _ h => h) (fun _ h => h) (fun n14 t H locs ht hvm _ hB hz1 hk1 hS => ?_)
  obtain ⟨hP, hD⟩ := hB
  rw [ht] at hP
  rw [c_setNZ _ (Nat.le_of_ble_eq_true rfl), List.append_assoc] at hP hD
  have hP : va_P D g_cl ((ws.set k0 (h0, .inr (7, [.ref q1, .ref q3, .ref q5, .ref a1, .ref a2, .int 0, .int 0, .int 0, .int 0, .int 0, .int (-1), .int 0])) ++ [(q1, .inl (cy 3, 6, .inr (.inr (.inr (.inr (va_up (va_up (va_up (fun _ => none) (Int32.toNatClampNeg 0) (some q7)) (Int32.toNatClampNeg 1) (some q9)) (Int32.toNatClampNeg 2) (some q11))))))), (q3, .inr (8, [.ref (n4.1 0), .ref (n4.1 1), .ref (n4.1 2)])), (q5, .inr (0, [.ref (n6 0), .ref (n6 5)])), (q7, .inr (9, [.int 0, .ref (n8.1 0), .ref (n8.1 1), .ref (n8.1 2), .ref (n8.1 3), .ref (n8.1 4), .int (-1), .int 1, .int 0, .int 0, .int 0, .int 0, .int 0, .int 0, .int 0])), (q9, .inr (9, [.int 1, .ref (n10.1 0), .ref (n10.1 1), .ref (n10.1 2), .ref (n10.1 3), .ref (n10.1 4), .int (-1), .int 1, .int 0, .int 0, .int 0, .int 0, .int 0, .int 0, .int 0])), (q11, .inr (9, [.int 2, .ref (n12.1 0), .ref (n12.1 1), .ref (n12.1 2), .ref (n12.1 3), .ref (n12.1 4), .int (-1), .int 1, .int 0, .int 0, .int 0, .int 0, .int 0, .int 0, .int 0])), (q13, .inr (9, [.int 3, .ref (n14.1 0), .ref (n14.1 1), .ref (n14.1 2), .ref (n14.1 3), .ref (n14.1 4), .int (-1), .int 1, .int 0, .int 0, .int 0, .int 0, .int 0, .int 0, .int 0]))]) ++ ((((((([] : va_W) ++ nw_X8 cy n4) ++ nw_X0 cy n6) ++ nw_X9 cy n8 0) ++ nw_X9 cy n10 1) ++ nw_X9 cy n12 2) ++ nw_X9 cy n14 3)) H := hP
  have hD : va_D (fun q => z0 ≤ q) ((ws.set k0 (h0, .inr (7, [.ref q1, .ref q3, .ref q5, .ref a1, .ref a2, .int 0, .int 0, .int 0, .int 0, .int 0, .int (-1), .int 0])) ++ [(q1, .inl (cy 3, 6, .inr (.inr (.inr (.inr (va_up (va_up (va_up (fun _ => none) (Int32.toNatClampNeg 0) (some q7)) (Int32.toNatClampNeg 1) (some q9)) (Int32.toNatClampNeg 2) (some q11))))))), (q3, .inr (8, [.ref (n4.1 0), .ref (n4.1 1), .ref (n4.1 2)])), (q5, .inr (0, [.ref (n6 0), .ref (n6 5)])), (q7, .inr (9, [.int 0, .ref (n8.1 0), .ref (n8.1 1), .ref (n8.1 2), .ref (n8.1 3), .ref (n8.1 4), .int (-1), .int 1, .int 0, .int 0, .int 0, .int 0, .int 0, .int 0, .int 0])), (q9, .inr (9, [.int 1, .ref (n10.1 0), .ref (n10.1 1), .ref (n10.1 2), .ref (n10.1 3), .ref (n10.1 4), .int (-1), .int 1, .int 0, .int 0, .int 0, .int 0, .int 0, .int 0, .int 0])), (q11, .inr (9, [.int 2, .ref (n12.1 0), .ref (n12.1 1), .ref (n12.1 2), .ref (n12.1 3), .ref (n12.1 4), .int (-1), .int 1, .int 0, .int 0, .int 0, .int 0, .int 0, .int 0, .int 0])), (q13, .inr (9, [.int 3, .ref (n14.1 0), .ref (n14.1 1), .ref (n14.1 2), .ref (n14.1 3), .ref (n14.1 4), .int (-1), .int 1, .int 0, .int 0, .int 0, .int 0, .int 0, .int 0, .int 0]))]) ++ ((((((([] : va_W) ++ nw_X8 cy n4) ++ nw_X0 cy n6) ++ nw_X9 cy n8 0) ++ nw_X9 cy n10 1) ++ nw_X9 cy n12 2) ++ nw_X9 cy n14 3)) := hD
  refine va_astq hx hb hK hP hD hS (ws.length + 0) 3 (ws.length + 6) 9 (r := (RX9, TX9, 15)) (c_newZ 0 rfl) rfl (c_newZ 6 rfl) rfl (show g_in 3 6 from by decide) dX7_init_71 (fun H locs hP hD hS => ?_)
  rw [c_setNZ _ (Nat.le_of_ble_eq_true rfl)] at hP hD
  have hP : va_P D g_cl ((ws.set k0 (h0, .inr (7, [.ref q1, .ref q3, .ref q5, .ref a1, .ref a2, .int 0, .int 0, .int 0, .int 0, .int 0, .int (-1), .int 0])) ++ [(q1, .inl (cy 3, 6, .inr (.inr (.inr (.inr (va_up (va_up (va_up (va_up (fun _ => none) (Int32.toNatClampNeg 0) (some q7)) (Int32.toNatClampNeg 1) (some q9)) (Int32.toNatClampNeg 2) (some q11)) (Int32.toNatClampNeg 3) (some q13))))))), (q3, .inr (8, [.ref (n4.1 0), .ref (n4.1 1), .ref (n4.1 2)])), (q5, .inr (0, [.ref (n6 0), .ref (n6 5)])), (q7, .inr (9, [.int 0, .ref (n8.1 0), .ref (n8.1 1), .ref (n8.1 2), .ref (n8.1 3), .ref (n8.1 4), .int (-1), .int 1, .int 0, .int 0, .int 0, .int 0, .int 0, .int 0, .int 0])), (q9, .inr (9, [.int 1, .ref (n10.1 0), .ref (n10.1 1), .ref (n10.1 2), .ref (n10.1 3), .ref (n10.1 4), .int (-1), .int 1, .int 0, .int 0, .int 0, .int 0, .int 0, .int 0, .int 0])), (q11, .inr (9, [.int 2, .ref (n12.1 0), .ref (n12.1 1), .ref (n12.1 2), .ref (n12.1 3), .ref (n12.1 4), .int (-1), .int 1, .int 0, .int 0, .int 0, .int 0, .int 0, .int 0, .int 0])), (q13, .inr (9, [.int 3, .ref (n14.1 0), .ref (n14.1 1), .ref (n14.1 2), .ref (n14.1 3), .ref (n14.1 4), .int (-1), .int 1, .int 0, .int 0, .int 0, .int 0, .int 0, .int 0, .int 0]))]) ++ ((((((([] : va_W) ++ nw_X8 cy n4) ++ nw_X0 cy n6) ++ nw_X9 cy n8 0) ++ nw_X9 cy n10 1) ++ nw_X9 cy n12 2) ++ nw_X9 cy n14 3)) H := hP
  have hD : va_D (fun q => z0 ≤ q) ((ws.set k0 (h0, .inr (7, [.ref q1, .ref q3, .ref q5, .ref a1, .ref a2, .int 0, .int 0, .int 0, .int 0, .int 0, .int (-1), .int 0])) ++ [(q1, .inl (cy 3, 6, .inr (.inr (.inr (.inr (va_up (va_up (va_up (va_up (fun _ => none) (Int32.toNatClampNeg 0) (some q7)) (Int32.toNatClampNeg 1) (some q9)) (Int32.toNatClampNeg 2) (some q11)) (Int32.toNatClampNeg 3) (some q13))))))), (q3, .inr (8, [.ref (n4.1 0), .ref (n4.1 1), .ref (n4.1 2)])), (q5, .inr (0, [.ref (n6 0), .ref (n6 5)])), (q7, .inr (9, [.int 0, .ref (n8.1 0), .ref (n8.1 1), .ref (n8.1 2), .ref (n8.1 3), .ref (n8.1 4), .int (-1), .int 1, .int 0, .int 0, .int 0, .int 0, .int 0, .int 0, .int 0])), (q9, .inr (9, [.int 1, .ref (n10.1 0), .ref (n10.1 1), .ref (n10.1 2), .ref (n10.1 3), .ref (n10.1 4), .int (-1), .int 1, .int 0, .int 0, .int 0, .int 0, .int 0, .int 0, .int 0])), (q11, .inr (9, [.int 2, .ref (n12.1 0), .ref (n12.1 1), .ref (n12.1 2), .ref (n12.1 3), .ref (n12.1 4), .int (-1), .int 1, .int 0, .int 0, .int 0, .int 0, .int 0, .int 0, .int 0])), (q13, .inr (9, [.int 3, .ref (n14.1 0), .ref (n14.1 1), .ref (n14.1 2), .ref (n14.1 3), .ref (n14.1 4), .int (-1), .int 1, .int 0, .int 0, .int 0, .int 0, .int 0, .int 0, .int 0]))]) ++ ((((((([] : va_W) ++ nw_X8 cy n4) ++ nw_X0 cy n6) ++ nw_X9 cy n8 0) ++ nw_X9 cy n10 1) ++ nw_X9 cy n12 2) ++ nw_X9 cy n14 3)) := hD
  refine lv_iinc (v := 4) (lv' := [(3, .int 4), (0, .ref h0), (1, .ref a1), (2, .ref a2)]) hx hb dX7_init_72 hl (k := 0) rfl (by decide) (by decide) rfl (fun ls hl => ?_)
  refine lv_goto (tgt := 52) hx hb dX7_init_75 (by decide) ?_
  refine lv_iload_n hx hb dX7_init_52 rfl (lv_at hl 0 rfl) ?_
  refine lv_bipush (v := 6) hx hb dX7_init_53 (by decide) ?_
  refine lv_icmp_ge (tgt := 78) hx hb dX7_init_55 (by decide) (fun h => absurd h (by decide)) (fun _ => ?_)
  refine lv_aload_n hx hb dX7_init_58 rfl (lv_at hl 1 rfl) ?_
  refine va_get (D := D) (ci := 7) (v := .ref q1) (C := RX7) (T := TX7) (N := 12) hx hb hts inlX7 hown hK hP k0 (c_thisZ h0e) rfl 0 (by decide) (hts _ q3_10) (fun _ h => h) rfl dX7_init_59 ?_
  refine lv_iload_n hx hb dX7_init_62 rfl (lv_at hl 0 rfl) ?_
  refine va_new (ci := 9) (fs := [.int 0, .null, .null, .null, .null, .null, .int 0, .int 0, .int 0, .int 0, .int 0, .int 0, .int 0, .int 0, .int 0]) (C := RX9) (T := TX9) (N := 15) hx hb hts inlX9 tyX9 tyX9_ok hown (hts _ q3_9) (hts _ q3_22) (hts _ q3_23) hK hP hD hS hA rfl (fun j hj => by rcases (show j = 0 ∨ j = 1 ∨ j = 2 ∨ j = 3 ∨ j = 4 ∨ j = 5 ∨ j = 6 ∨ j = 7 ∨ j = 8 ∨ j = 9 ∨ j = 10 ∨ j = 11 ∨ j = 12 ∨ j = 13 ∨ j = 14 by omega) with rfl | rfl | rfl | rfl | rfl | rfl | rfl | rfl | rfl | rfl | rfl | rfl | rfl | rfl | rfl <;> rfl) (Nat.le_of_ble_eq_true rfl) (Nat.le_of_ble_eq_true rfl) dX7_init_63 (fun q15 H hP hD hS => ?_)
  have hP := hP.swap
  have hD := hD.swap
  rw [c_as] at hP hD
  have hP : va_P D g_cl ((ws.set k0 (h0, .inr (7, [.ref q1, .ref q3, .ref q5, .ref a1, .ref a2, .int 0, .int 0, .int 0, .int 0, .int 0, .int (-1), .int 0])) ++ [(q1, .inl (cy 3, 6, .inr (.inr (.inr (.inr (va_up (va_up (va_up (va_up (fun _ => none) (Int32.toNatClampNeg 0) (some q7)) (Int32.toNatClampNeg 1) (some q9)) (Int32.toNatClampNeg 2) (some q11)) (Int32.toNatClampNeg 3) (some q13))))))), (q3, .inr (8, [.ref (n4.1 0), .ref (n4.1 1), .ref (n4.1 2)])), (q5, .inr (0, [.ref (n6 0), .ref (n6 5)])), (q7, .inr (9, [.int 0, .ref (n8.1 0), .ref (n8.1 1), .ref (n8.1 2), .ref (n8.1 3), .ref (n8.1 4), .int (-1), .int 1, .int 0, .int 0, .int 0, .int 0, .int 0, .int 0, .int 0])), (q9, .inr (9, [.int 1, .ref (n10.1 0), .ref (n10.1 1), .ref (n10.1 2), .ref (n10.1 3), .ref (n10.1 4), .int (-1), .int 1, .int 0, .int 0, .int 0, .int 0, .int 0, .int 0, .int 0])), (q11, .inr (9, [.int 2, .ref (n12.1 0), .ref (n12.1 1), .ref (n12.1 2), .ref (n12.1 3), .ref (n12.1 4), .int (-1), .int 1, .int 0, .int 0, .int 0, .int 0, .int 0, .int 0, .int 0])), (q13, .inr (9, [.int 3, .ref (n14.1 0), .ref (n14.1 1), .ref (n14.1 2), .ref (n14.1 3), .ref (n14.1 4), .int (-1), .int 1, .int 0, .int 0, .int 0, .int 0, .int 0, .int 0, .int 0])), (q15, .inr (9, [.int 0, .null, .null, .null, .null, .null, .int 0, .int 0, .int 0, .int 0, .int 0, .int 0, .int 0, .int 0, .int 0]))]) ++ ((((((([] : va_W) ++ nw_X8 cy n4) ++ nw_X0 cy n6) ++ nw_X9 cy n8 0) ++ nw_X9 cy n10 1) ++ nw_X9 cy n12 2) ++ nw_X9 cy n14 3)) H := hP
  have hD : va_D (fun q => z0 ≤ q) ((ws.set k0 (h0, .inr (7, [.ref q1, .ref q3, .ref q5, .ref a1, .ref a2, .int 0, .int 0, .int 0, .int 0, .int 0, .int (-1), .int 0])) ++ [(q1, .inl (cy 3, 6, .inr (.inr (.inr (.inr (va_up (va_up (va_up (va_up (fun _ => none) (Int32.toNatClampNeg 0) (some q7)) (Int32.toNatClampNeg 1) (some q9)) (Int32.toNatClampNeg 2) (some q11)) (Int32.toNatClampNeg 3) (some q13))))))), (q3, .inr (8, [.ref (n4.1 0), .ref (n4.1 1), .ref (n4.1 2)])), (q5, .inr (0, [.ref (n6 0), .ref (n6 5)])), (q7, .inr (9, [.int 0, .ref (n8.1 0), .ref (n8.1 1), .ref (n8.1 2), .ref (n8.1 3), .ref (n8.1 4), .int (-1), .int 1, .int 0, .int 0, .int 0, .int 0, .int 0, .int 0, .int 0])), (q9, .inr (9, [.int 1, .ref (n10.1 0), .ref (n10.1 1), .ref (n10.1 2), .ref (n10.1 3), .ref (n10.1 4), .int (-1), .int 1, .int 0, .int 0, .int 0, .int 0, .int 0, .int 0, .int 0])), (q11, .inr (9, [.int 2, .ref (n12.1 0), .ref (n12.1 1), .ref (n12.1 2), .ref (n12.1 3), .ref (n12.1 4), .int (-1), .int 1, .int 0, .int 0, .int 0, .int 0, .int 0, .int 0, .int 0])), (q13, .inr (9, [.int 3, .ref (n14.1 0), .ref (n14.1 1), .ref (n14.1 2), .ref (n14.1 3), .ref (n14.1 4), .int (-1), .int 1, .int 0, .int 0, .int 0, .int 0, .int 0, .int 0, .int 0])), (q15, .inr (9, [.int 0, .null, .null, .null, .null, .null, .int 0, .int 0, .int 0, .int 0, .int 0, .int 0, .int 0, .int 0, .int 0]))]) ++ ((((((([] : va_W) ++ nw_X8 cy n4) ++ nw_X0 cy n6) ++ nw_X9 cy n8 0) ++ nw_X9 cy n10 1) ++ nw_X9 cy n12 2) ++ nw_X9 cy n14 3)) := hD
  refine lv_dup hx hb dX7_init_66 rfl ?_
  refine lv_iload_n hx hb dX7_init_67 rfl (lv_at hl 0 rfl) ?_
  refine va_callv (va_runI (As := [.int 4]) (rest := [.ref q15, .int 4, .ref q1]) ⟨hx, hb, hml, hown, hts⟩ (cc_X9 l D cy z0 _ (ws.length + 7) q15 4 (c_newZ 7 rfl)) (cwI 1 hts (wz_N q4_23) rfl rfl rfl (hts _ q3_23) (hts _ q4_21) (hts _ q4_22) rfl hdc_X9 ⟨Nat.le_of_ble_eq_true rfl, Nat.le_of_ble_eq_true rfl⟩) ⟨c_blind, fun U hU hW => ⟨rfl, hCs.moved hW, by rw [hU]; exact hP, hD, by rw [hU]; exact Nat.le_trans hz hS.1⟩⟩ rfl rfl hl.1 rfl (lv_room (Nat.le_of_ble_eq_true rfl)) dX7_init_68 ⟨Nat.le_of_ble_eq_true rfl, Nat.le_of_ble_eq_true rfl⟩) hS (fun _ _ h => h) (fun _ h => h) (fun n16 t H locs ht hvm _ hB hz1 hk1 hS => ?_)
  obtain ⟨hP, hD⟩ := hB
  rw [ht] at hP
  rw [c_setNZ _ (Nat.le_of_ble_eq_true rfl), List.append_assoc] at hP hD
  have hP : va_P D g_cl ((ws.set k0 (h0, .inr (7, [.ref q1, .ref q3, .ref q5, .ref a1, .ref a2, .int 0, .int 0, .int 0, .int 0, .int 0, .int (-1), .int 0])) ++ [(q1, .inl (cy 3, 6, .inr (.inr (.inr (.inr (va_up (va_up (va_up (va_up (fun _ => none) (Int32.toNatClampNeg 0) (some q7)) (Int32.toNatClampNeg 1) (some q9)) (Int32.toNatClampNeg 2) (some q11)) (Int32.toNatClampNeg 3) (some q13))))))), (q3, .inr (8, [.ref (n4.1 0), .ref (n4.1 1), .ref (n4.1 2)])), (q5, .inr (0, [.ref (n6 0), .ref (n6 5)])), (q7, .inr (9, [.int 0, .ref (n8.1 0), .ref (n8.1 1), .ref (n8.1 2), .ref (n8.1 3), .ref (n8.1 4), .int (-1), .int 1, .int 0, .int 0, .int 0, .int 0, .int 0, .int 0, .int 0])), (q9, .inr (9, [.int 1, .ref (n10.1 0), .ref (n10.1 1), .ref (n10.1 2), .ref (n10.1 3), .ref (n10.1 4), .int (-1), .int 1, .int 0, .int 0, .int 0, .int 0, .int 0, .int 0, .int 0])), (q11, .inr (9, [.int 2, .ref (n12.1 0), .ref (n12.1 1), .ref (n12.1 2), .ref (n12.1 3), .ref (n12.1 4), .int (-1), .int 1, .int 0, .int 0, .int 0, .int 0, .int 0, .int 0, .int 0])), (q13, .inr (9, [.int 3, .ref (n14.1 0), .ref (n14.1 1), .ref (n14.1 2), .ref (n14.1 3), .ref (n14.1 4), .int (-1), .int 1, .int 0, .int 0, .int 0, .int 0, .int 0, .int 0, .int 0])), (q15, .inr (9, [.int 4, .ref (n16.1 0), .ref (n16.1 1), .ref (n16.1 2), .ref (n16.1 3), .ref (n16.1 4), .int (-1), .int 1, .int 0, .int 0, .int 0, .int 0, .int 0, .int 0, .int 0]))]) ++ (((((((([] : va_W) ++ nw_X8 cy n4) ++ nw_X0 cy n6) ++ nw_X9 cy n8 0) ++ nw_X9 cy n10 1) ++ nw_X9 cy n12 2) ++ nw_X9 cy n14 3) ++ nw_X9 cy n16 4)) H := hP
  have hD : va_D (fun q => z0 ≤ q) ((ws.set k0 (h0, .inr (7, [.ref q1, .ref q3, .ref q5, .ref a1, .ref a2, .int 0, .int 0, .int 0, .int 0, .int 0, .int (-1), .int 0])) ++ [(q1, .inl (cy 3, 6, .inr (.inr (.inr (.inr (va_up (va_up (va_up (va_up (fun _ => none) (Int32.toNatClampNeg 0) (some q7)) (Int32.toNatClampNeg 1) (some q9)) (Int32.toNatClampNeg 2) (some q11)) (Int32.toNatClampNeg 3) (some q13))))))), (q3, .inr (8, [.ref (n4.1 0), .ref (n4.1 1), .ref (n4.1 2)])), (q5, .inr (0, [.ref (n6 0), .ref (n6 5)])), (q7, .inr (9, [.int 0, .ref (n8.1 0), .ref (n8.1 1), .ref (n8.1 2), .ref (n8.1 3), .ref (n8.1 4), .int (-1), .int 1, .int 0, .int 0, .int 0, .int 0, .int 0, .int 0, .int 0])), (q9, .inr (9, [.int 1, .ref (n10.1 0), .ref (n10.1 1), .ref (n10.1 2), .ref (n10.1 3), .ref (n10.1 4), .int (-1), .int 1, .int 0, .int 0, .int 0, .int 0, .int 0, .int 0, .int 0])), (q11, .inr (9, [.int 2, .ref (n12.1 0), .ref (n12.1 1), .ref (n12.1 2), .ref (n12.1 3), .ref (n12.1 4), .int (-1), .int 1, .int 0, .int 0, .int 0, .int 0, .int 0, .int 0, .int 0])), (q13, .inr (9, [.int 3, .ref (n14.1 0), .ref (n14.1 1), .ref (n14.1 2), .ref (n14.1 3), .ref (n14.1 4), .int (-1), .int 1, .int 0, .int 0, .int 0, .int 0, .int 0, .int 0, .int 0])), (q15, .inr (9, [.int 4, .ref (n16.1 0), .ref (n16.1 1), .ref (n16.1 2), .ref (n16.1 3), .ref (n16.1 4), .int (-1), .int 1, .int 0, .int 0, .int 0, .int 0, .int 0, .int 0, .int 0]))]) ++ (((((((([] : va_W) ++ nw_X8 cy n4) ++ nw_X0 cy n6) ++ nw_X9 cy n8 0) ++ nw_X9 cy n10 1) ++ nw_X9 cy n12 2) ++ nw_X9 cy n14 3) ++ nw_X9 cy n16 4)) := hD
  refine va_astq hx hb hK hP hD hS (ws.length + 0) 3 (ws.length + 7) 9 (r := (RX9, TX9, 15)) (c_newZ 0 rfl) rfl (c_newZ 7 rfl) rfl (show g_in 4 6 from by decide) dX7_init_71 (fun H locs hP hD hS => ?_)
  rw [c_setNZ _ (Nat.le_of_ble_eq_true rfl)] at hP hD
  have hP : va_P D g_cl ((ws.set k0 (h0, .inr (7, [.ref q1, .ref q3, .ref q5, .ref a1, .ref a2, .int 0, .int 0, .int 0, .int 0, .int 0, .int (-1), .int 0])) ++ [(q1, .inl (cy 3, 6, .inr (.inr (.inr (.inr (va_up (va_up (va_up (va_up (va_up (fun _ => none) (Int32.toNatClampNeg 0) (some q7)) (Int32.toNatClampNeg 1) (some q9)) (Int32.toNatClampNeg 2) (some q11)) (Int32.toNatClampNeg 3) (some q13)) (Int32.toNatClampNeg 4) (some q15))))))), (q3, .inr (8, [.ref (n4.1 0), .ref (n4.1 1), .ref (n4.1 2)])), (q5, .inr (0, [.ref (n6 0), .ref (n6 5)])), (q7, .inr (9, [.int 0, .ref (n8.1 0), .ref (n8.1 1), .ref (n8.1 2), .ref (n8.1 3), .ref (n8.1 4), .int (-1), .int 1, .int 0, .int 0, .int 0, .int 0, .int 0, .int 0, .int 0])), (q9, .inr (9, [.int 1, .ref (n10.1 0), .ref (n10.1 1), .ref (n10.1 2), .ref (n10.1 3), .ref (n10.1 4), .int (-1), .int 1, .int 0, .int 0, .int 0, .int 0, .int 0, .int 0, .int 0])), (q11, .inr (9, [.int 2, .ref (n12.1 0), .ref (n12.1 1), .ref (n12.1 2), .ref (n12.1 3), .ref (n12.1 4), .int (-1), .int 1, .int 0, .int 0, .int 0, .int 0, .int 0, .int 0, .int 0])), (q13, .inr (9, [.int 3, .ref (n14.1 0), .ref (n14.1 1), .ref (n14.1 2), .ref (n14.1 3), .ref (n14.1 4), .int (-1), .int 1, .int 0, .int 0, .int 0, .int 0, .int 0, .int 0, .int 0])), (q15, .inr (9, [.int 4, .ref (n16.1 0), .ref (n16.1 1), .ref (n16.1 2), .ref (n16.1 3), .ref (n16.1 4), .int (-1), .int 1, .int 0, .int 0, .int 0, .int 0, .int 0, .int 0, .int 0]))]) ++ (((((((([] : va_W) ++ nw_X8 cy n4) ++ nw_X0 cy n6) ++ nw_X9 cy n8 0) ++ nw_X9 cy n10 1) ++ nw_X9 cy n12 2) ++ nw_X9 cy n14 3) ++ nw_X9 cy n16 4)) H := hP
  have hD : va_D (fun q => z0 ≤ q) ((ws.set k0 (h0, .inr (7, [.ref q1, .ref q3, .ref q5, .ref a1, .ref a2, .int 0, .int 0, .int 0, .int 0, .int 0, .int (-1), .int 0])) ++ [(q1, .inl (cy 3, 6, .inr (.inr (.inr (.inr (va_up (va_up (va_up (va_up (va_up (fun _ => none) (Int32.toNatClampNeg 0) (some q7)) (Int32.toNatClampNeg 1) (some q9)) (Int32.toNatClampNeg 2) (some q11)) (Int32.toNatClampNeg 3) (some q13)) (Int32.toNatClampNeg 4) (some q15))))))), (q3, .inr (8, [.ref (n4.1 0), .ref (n4.1 1), .ref (n4.1 2)])), (q5, .inr (0, [.ref (n6 0), .ref (n6 5)])), (q7, .inr (9, [.int 0, .ref (n8.1 0), .ref (n8.1 1), .ref (n8.1 2), .ref (n8.1 3), .ref (n8.1 4), .int (-1), .int 1, .int 0, .int 0, .int 0, .int 0, .int 0, .int 0, .int 0])), (q9, .inr (9, [.int 1, .ref (n10.1 0), .ref (n10.1 1), .ref (n10.1 2), .ref (n10.1 3), .ref (n10.1 4), .int (-1), .int 1, .int 0, .int 0, .int 0, .int 0, .int 0, .int 0, .int 0])), (q11, .inr (9, [.int 2, .ref (n12.1 0), .ref (n12.1 1), .ref (n12.1 2), .ref (n12.1 3), .ref (n12.1 4), .int (-1), .int 1, .int 0, .int 0, .int 0, .int 0, .int 0, .int 0, .int 0])), (q13, .inr (9, [.int 3, .ref (n14.1 0), .ref (n14.1 1), .ref (n14.1 2), .ref (n14.1 3), .ref (n14.1 4), .int (-1), .int 1, .int 0, .int 0, .int 0, .int 0, .int 0, .int 0, .int 0])), (q15, .inr (9, [.int 4, .ref (n16.1 0), .ref (n16.1 1), .ref (n16.1 2), .ref (n16.1 3), .ref (n16.1 4), .int (-1), .int 1, .int 0, .int 0, .int 0, .int 0, .int 0, .int 0, .int 0]))]) ++ (((((((([] : va_W) ++ nw_X8 cy n4) ++ nw_X0 cy n6) ++ nw_X9 cy n8 0) ++ nw_X9 cy n10 1) ++ nw_X9 cy n12 2) ++ nw_X9 cy n14 3) ++ nw_X9 cy n16 4)) := hD
  refine lv_iinc (v := 5) (lv' := [(3, .int 5), (0, .ref h0), (1, .ref a1), (2, .ref a2)]) hx hb dX7_init_72 hl (k := 0) rfl (by decide) (by decide) rfl (fun ls hl => ?_)
  refine lv_goto (tgt := 52) hx hb dX7_init_75 (by decide) ?_
  refine lv_iload_n hx hb dX7_init_52 rfl (lv_at hl 0 rfl) ?_
  refine lv_bipush (v := 6) hx hb dX7_init_53 (by decide) ?_
  refine lv_icmp_ge (tgt := 78) hx hb dX7_init_55 (by decide) (fun h => absurd h (by decide)) (fun _ => ?_)
  refine lv_aload_n hx hb dX7_init_58 rfl (lv_at hl 1 rfl) ?_
  refine va_get (D := D) (ci := 7) (v := .ref q1) (C := RX7) (T := TX7) (N := 12) hx hb hts inlX7 hown hK hP k0 (c_thisZ h0e) rfl 0 (by decide) (hts _ q3_10) (fun _ h => h) rfl dX7_init_59 ?_
  refine lv_iload_n hx hb dX7_init_62 rfl (lv_at hl 0 rfl) ?_
  refine va_new (ci := 9) (fs := [.int 0, .null, .null, .null, .null, .null, .int 0, .int 0, .int 0, .int 0, .int 0, .int 0, .int 0, .int 0, .int 0]) (C := RX9) (T := TX9) (N := 15) hx hb hts inlX9 tyX9 tyX9_ok hown (hts _ q3_9) (hts _ q3_22) (hts _ q3_23) hK hP hD hS hA rfl (fun j hj => by rcases (show j = 0 ∨ j = 1 ∨ j = 2 ∨ j = 3 ∨ j = 4 ∨ j = 5 ∨ j = 6 ∨ j = 7 ∨ j = 8 ∨ j = 9 ∨ j = 10 ∨ j = 11 ∨ j = 12 ∨ j = 13 ∨ j = 14 by omega) with rfl | rfl | rfl | rfl | rfl | rfl | rfl | rfl | rfl | rfl | rfl | rfl | rfl | rfl | rfl <;> rfl) (Nat.le_of_ble_eq_true rfl) (Nat.le_of_ble_eq_true rfl) dX7_init_63 (fun q17 H hP hD hS => ?_)
  have hP := hP.swap
  have hD := hD.swap
  rw [c_as] at hP hD
  have hP : va_P D g_cl ((ws.set k0 (h0, .inr (7, [.ref q1, .ref q3, .ref q5, .ref a1, .ref a2, .int 0, .int 0, .int 0, .int 0, .int 0, .int (-1), .int 0])) ++ [(q1, .inl (cy 3, 6, .inr (.inr (.inr (.inr (va_up (va_up (va_up (va_up (va_up (fun _ => none) (Int32.toNatClampNeg 0) (some q7)) (Int32.toNatClampNeg 1) (some q9)) (Int32.toNatClampNeg 2) (some q11)) (Int32.toNatClampNeg 3) (some q13)) (Int32.toNatClampNeg 4) (some q15))))))), (q3, .inr (8, [.ref (n4.1 0), .ref (n4.1 1), .ref (n4.1 2)])), (q5, .inr (0, [.ref (n6 0), .ref (n6 5)])), (q7, .inr (9, [.int 0, .ref (n8.1 0), .ref (n8.1 1), .ref (n8.1 2), .ref (n8.1 3), .ref (n8.1 4), .int (-1), .int 1, .int 0, .int 0, .int 0, .int 0, .int 0, .int 0, .int 0])), (q9, .inr (9, [.int 1, .ref (n10.1 0), .ref (n10.1 1), .ref (n10.1 2), .ref (n10.1 3), .ref (n10.1 4), .int (-1), .int 1, .int 0, .int 0, .int 0, .int 0, .int 0, .int 0, .int 0])), (q11, .inr (9, [.int 2, .ref (n12.1 0), .ref (n12.1 1), .ref (n12.1 2), .ref (n12.1 3), .ref (n12.1 4), .int (-1), .int 1, .int 0, .int 0, .int 0, .int 0, .int 0, .int 0, .int 0])), (q13, .inr (9, [.int 3, .ref (n14.1 0), .ref (n14.1 1), .ref (n14.1 2), .ref (n14.1 3), .ref (n14.1 4), .int (-1), .int 1, .int 0, .int 0, .int 0, .int 0, .int 0, .int 0, .int 0])), (q15, .inr (9, [.int 4, .ref (n16.1 0), .ref (n16.1 1), .ref (n16.1 2), .ref (n16.1 3), .ref (n16.1 4), .int (-1), .int 1, .int 0, .int 0, .int 0, .int 0, .int 0, .int 0, .int 0])), (q17, .inr (9, [.int 0, .null, .null, .null, .null, .null, .int 0, .int 0, .int 0, .int 0, .int 0, .int 0, .int 0, .int 0, .int 0]))]) ++ (((((((([] : va_W) ++ nw_X8 cy n4) ++ nw_X0 cy n6) ++ nw_X9 cy n8 0) ++ nw_X9 cy n10 1) ++ nw_X9 cy n12 2) ++ nw_X9 cy n14 3) ++ nw_X9 cy n16 4)) H := hP
  have hD : va_D (fun q => z0 ≤ q) ((ws.set k0 (h0, .inr (7, [.ref q1, .ref q3, .ref q5, .ref a1, .ref a2, .int 0, .int 0, .int 0, .int 0, .int 0, .int (-1), .int 0])) ++ [(q1, .inl (cy 3, 6, .inr (.inr (.inr (.inr (va_up (va_up (va_up (va_up (va_up (fun _ => none) (Int32.toNatClampNeg 0) (some q7)) (Int32.toNatClampNeg 1) (some q9)) (Int32.toNatClampNeg 2) (some q11)) (Int32.toNatClampNeg 3) (some q13)) (Int32.toNatClampNeg 4) (some q15))))))), (q3, .inr (8, [.ref (n4.1 0), .ref (n4.1 1), .ref (n4.1 2)])), (q5, .inr (0, [.ref (n6 0), .ref (n6 5)])), (q7, .inr (9, [.int 0, .ref (n8.1 0), .ref (n8.1 1), .ref (n8.1 2), .ref (n8.1 3), .ref (n8.1 4), .int (-1), .int 1, .int 0, .int 0, .int 0, .int 0, .int 0, .int 0, .int 0])), (q9, .inr (9, [.int 1, .ref (n10.1 0), .ref (n10.1 1), .ref (n10.1 2), .ref (n10.1 3), .ref (n10.1 4), .int (-1), .int 1, .int 0, .int 0, .int 0, .int 0, .int 0, .int 0, .int 0])), (q11, .inr (9, [.int 2, .ref (n12.1 0), .ref (n12.1 1), .ref (n12.1 2), .ref (n12.1 3), .ref (n12.1 4), .int (-1), .int 1, .int 0, .int 0, .int 0, .int 0, .int 0, .int 0, .int 0])), (q13, .inr (9, [.int 3, .ref (n14.1 0), .ref (n14.1 1), .ref (n14.1 2), .ref (n14.1 3), .ref (n14.1 4), .int (-1), .int 1, .int 0, .int 0, .int 0, .int 0, .int 0, .int 0, .int 0])), (q15, .inr (9, [.int 4, .ref (n16.1 0), .ref (n16.1 1), .ref (n16.1 2), .ref (n16.1 3), .ref (n16.1 4), .int (-1), .int 1, .int 0, .int 0, .int 0, .int 0, .int 0, .int 0, .int 0])), (q17, .inr (9, [.int 0, .null, .null, .null, .null, .null, .int 0, .int 0, .int 0, .int 0, .int 0, .int 0, .int 0, .int 0, .int 0]))]) ++ (((((((([] : va_W) ++ nw_X8 cy n4) ++ nw_X0 cy n6) ++ nw_X9 cy n8 0) ++ nw_X9 cy n10 1) ++ nw_X9 cy n12 2) ++ nw_X9 cy n14 3) ++ nw_X9 cy n16 4)) := hD
  refine lv_dup hx hb dX7_init_66 rfl ?_
  refine lv_iload_n hx hb dX7_init_67 rfl (lv_at hl 0 rfl) ?_
  refine va_callv (va_runI (As := [.int 5]) (rest := [.ref q17, .int 5, .ref q1]) ⟨hx, hb, hml, hown, hts⟩ (cc_X9 l D cy z0 _ (ws.length + 8) q17 5 (c_newZ 8 rfl)) (cwI 1 hts (wz_N q4_23) rfl rfl rfl (hts _ q3_23) (hts _ q4_21) (hts _ q4_22) rfl hdc_X9 ⟨Nat.le_of_ble_eq_true rfl, Nat.le_of_ble_eq_true rfl⟩) ⟨c_blind, fun U hU hW => ⟨rfl, hCs.moved hW, by rw [hU]; exact hP, hD, by rw [hU]; exact Nat.le_trans hz hS.1⟩⟩ rfl rfl hl.1 rfl (lv_room (Nat.le_of_ble_eq_true rfl)) dX7_init_68 ⟨Nat.le_of_ble_eq_true rfl, Nat.le_of_ble_eq_true rfl⟩) hS (fun _ _ h => h) (fun _ h => h) (fun n18 t H locs ht hvm _ hB hz1 hk1 hS => ?_)
  obtain ⟨hP, hD⟩ := hB
  rw [ht] at hP
  rw [c_setNZ _ (Nat.le_of_ble_eq_true rfl), List.append_assoc] at hP hD
  have hP : va_P D g_cl ((ws.set k0 (h0, .inr (7, [.ref q1, .ref q3, .ref q5, .ref a1, .ref a2, .int 0, .int 0, .int 0, .int 0, .int 0, .int (-1), .int 0])) ++ [(q1, .inl (cy 3, 6, .inr (.inr (.inr (.inr (va_up (va_up (va_up (va_up (va_up (fun _ => none) (Int32.toNatClampNeg 0) (some q7)) (Int32.toNatClampNeg 1) (some q9)) (Int32.toNatClampNeg 2) (some q11)) (Int32.toNatClampNeg 3) (some q13)) (Int32.toNatClampNeg 4) (some q15))))))), (q3, .inr (8, [.ref (n4.1 0), .ref (n4.1 1), .ref (n4.1 2)])), (q5, .inr (0, [.ref (n6 0), .ref (n6 5)])), (q7, .inr (9, [.int 0, .ref (n8.1 0), .ref (n8.1 1), .ref (n8.1 2), .ref (n8.1 3), .ref (n8.1 4), .int (-1), .int 1, .int 0, .int 0, .int 0, .int 0, .int 0, .int 0, .int 0])), (q9, .inr (9, [.int 1, .ref (n10.1 0), .ref (n10.1 1), .ref (n10.1 2), .ref (n10.1 3), .ref (n10.1 4), .int (-1), .int 1, .int 0, .int 0, .int 0, .int 0, .int 0, .int 0, .int 0])), (q11, .inr (9, [.int 2, .ref (n12.1 0), .ref (n12.1 1), .ref (n12.1 2), .ref (n12.1 3), .ref (n12.1 4), .int (-1), .int 1, .int 0, .int 0, .int 0, .int 0, .int 0, .int 0, .int 0])), (q13, .inr (9, [.int 3, .ref (n14.1 0), .ref (n14.1 1), .ref (n14.1 2), .ref (n14.1 3), .ref (n14.1 4), .int (-1), .int 1, .int 0, .int 0, .int 0, .int 0, .int 0, .int 0, .int 0])), (q15, .inr (9, [.int 4, .ref (n16.1 0), .ref (n16.1 1), .ref (n16.1 2), .ref (n16.1 3), .ref (n16.1 4), .int (-1), .int 1, .int 0, .int 0, .int 0, .int 0, .int 0, .int 0, .int 0])), (q17, .inr (9, [.int 5, .ref (n18.1 0), .ref (n18.1 1), .ref (n18.1 2), .ref (n18.1 3), .ref (n18.1 4), .int (-1), .int 1, .int 0, .int 0, .int 0, .int 0, .int 0, .int 0, .int 0]))]) ++ ((((((((([] : va_W) ++ nw_X8 cy n4) ++ nw_X0 cy n6) ++ nw_X9 cy n8 0) ++ nw_X9 cy n10 1) ++ nw_X9 cy n12 2) ++ nw_X9 cy n14 3) ++ nw_X9 cy n16 4) ++ nw_X9 cy n18 5)) H := hP
  have hD : va_D (fun q => z0 ≤ q) ((ws.set k0 (h0, .inr (7, [.ref q1, .ref q3, .ref q5, .ref a1, .ref a2, .int 0, .int 0, .int 0, .int 0, .int 0, .int (-1), .int 0])) ++ [(q1, .inl (cy 3, 6, .inr (.inr (.inr (.inr (va_up (va_up (va_up (va_up (va_up (fun _ => none) (Int32.toNatClampNeg 0) (some q7)) (Int32.toNatClampNeg 1) (some q9)) (Int32.toNatClampNeg 2) (some q11)) (Int32.toNatClampNeg 3) (some q13)) (Int32.toNatClampNeg 4) (some q15))))))), (q3, .inr (8, [.ref (n4.1 0), .ref (n4.1 1), .ref (n4.1 2)])), (q5, .inr (0, [.ref (n6 0), .ref (n6 5)])), (q7, .inr (9, [.int 0, .ref (n8.1 0), .ref (n8.1 1), .ref (n8.1 2), .ref (n8.1 3), .ref (n8.1 4), .int (-1), .int 1, .int 0, .int 0, .int 0, .int 0, .int 0, .int 0, .int 0])), (q9, .inr (9, [.int 1, .ref (n10.1 0), .ref (n10.1 1), .ref (n10.1 2), .ref (n10.1 3), .ref (n10.1 4), .int (-1), .int 1, .int 0, .int 0, .int 0, .int 0, .int 0, .int 0, .int 0])), (q11, .inr (9, [.int 2, .ref (n12.1 0), .ref (n12.1 1), .ref (n12.1 2), .ref (n12.1 3), .ref (n12.1 4), .int (-1), .int 1, .int 0, .int 0, .int 0, .int 0, .int 0, .int 0, .int 0])), (q13, .inr (9, [.int 3, .ref (n14.1 0), .ref (n14.1 1), .ref (n14.1 2), .ref (n14.1 3), .ref (n14.1 4), .int (-1), .int 1, .int 0, .int 0, .int 0, .int 0, .int 0, .int 0, .int 0])), (q15, .inr (9, [.int 4, .ref (n16.1 0), .ref (n16.1 1), .ref (n16.1 2), .ref (n16.1 3), .ref (n16.1 4), .int (-1), .int 1, .int 0, .int 0, .int 0, .int 0, .int 0, .int 0, .int 0])), (q17, .inr (9, [.int 5, .ref (n18.1 0), .ref (n18.1 1), .ref (n18.1 2), .ref (n18.1 3), .ref (n18.1 4), .int (-1), .int 1, .int 0, .int 0, .int 0, .int 0, .int 0, .int 0, .int 0]))]) ++ ((((((((([] : va_W) ++ nw_X8 cy n4) ++ nw_X0 cy n6) ++ nw_X9 cy n8 0) ++ nw_X9 cy n10 1) ++ nw_X9 cy n12 2) ++ nw_X9 cy n14 3) ++ nw_X9 cy n16 4) ++ nw_X9 cy n18 5)) := hD
  refine va_astq hx hb hK hP hD hS (ws.length + 0) 3 (ws.length + 8) 9 (r := (RX9, TX9, 15)) (c_newZ 0 rfl) rfl (c_newZ 8 rfl) rfl (show g_in 5 6 from by decide) dX7_init_71 (fun H locs hP hD hS => ?_)
  rw [c_setNZ _ (Nat.le_of_ble_eq_true rfl)] at hP hD
  have hP : va_P D g_cl ((ws.set k0 (h0, .inr (7, [.ref q1, .ref q3, .ref q5, .ref a1, .ref a2, .int 0, .int 0, .int 0, .int 0, .int 0, .int (-1), .int 0])) ++ [(q1, .inl (cy 3, 6, .inr (.inr (.inr (.inr (va_up (va_up (va_up (va_up (va_up (va_up (fun _ => none) (Int32.toNatClampNeg 0) (some q7)) (Int32.toNatClampNeg 1) (some q9)) (Int32.toNatClampNeg 2) (some q11)) (Int32.toNatClampNeg 3) (some q13)) (Int32.toNatClampNeg 4) (some q15)) (Int32.toNatClampNeg 5) (some q17))))))), (q3, .inr (8, [.ref (n4.1 0), .ref (n4.1 1), .ref (n4.1 2)])), (q5, .inr (0, [.ref (n6 0), .ref (n6 5)])), (q7, .inr (9, [.int 0, .ref (n8.1 0), .ref (n8.1 1), .ref (n8.1 2), .ref (n8.1 3), .ref (n8.1 4), .int (-1), .int 1, .int 0, .int 0, .int 0, .int 0, .int 0, .int 0, .int 0])), (q9, .inr (9, [.int 1, .ref (n10.1 0), .ref (n10.1 1), .ref (n10.1 2), .ref (n10.1 3), .ref (n10.1 4), .int (-1), .int 1, .int 0, .int 0, .int 0, .int 0, .int 0, .int 0, .int 0])), (q11, .inr (9, [.int 2, .ref (n12.1 0), .ref (n12.1 1), .ref (n12.1 2), .ref (n12.1 3), .ref (n12.1 4), .int (-1), .int 1, .int 0, .int 0, .int 0, .int 0, .int 0, .int 0, .int 0])), (q13, .inr (9, [.int 3, .ref (n14.1 0), .ref (n14.1 1), .ref (n14.1 2), .ref (n14.1 3), .ref (n14.1 4), .int (-1), .int 1, .int 0, .int 0, .int 0, .int 0, .int 0, .int 0, .int 0])), (q15, .inr (9, [.int 4, .ref (n16.1 0), .ref (n16.1 1), .ref (n16.1 2), .ref (n16.1 3), .ref (n16.1 4), .int (-1), .int 1, .int 0, .int 0, .int 0, .int 0, .int 0, .int 0, .int 0])), (q17, .inr (9, [.int 5, .ref (n18.1 0), .ref (n18.1 1), .ref (n18.1 2), .ref (n18.1 3), .ref (n18.1 4), .int (-1), .int 1, .int 0, .int 0, .int 0, .int 0, .int 0, .int 0, .int 0]))]) ++ ((((((((([] : va_W) ++ nw_X8 cy n4) ++ nw_X0 cy n6) ++ nw_X9 cy n8 0) ++ nw_X9 cy n10 1) ++ nw_X9 cy n12 2) ++ nw_X9 cy n14 3) ++ nw_X9 cy n16 4) ++ nw_X9 cy n18 5)) H := hP
  have hD : va_D (fun q => z0 ≤ q) ((ws.set k0 (h0, .inr (7, [.ref q1, .ref q3, .ref q5, .ref a1, .ref a2, .int 0, .int 0, .int 0, .int 0, .int 0, .int (-1), .int 0])) ++ [(q1, .inl (cy 3, 6, .inr (.inr (.inr (.inr (va_up (va_up (va_up (va_up (va_up (va_up (fun _ => none) (Int32.toNatClampNeg 0) (some q7)) (Int32.toNatClampNeg 1) (some q9)) (Int32.toNatClampNeg 2) (some q11)) (Int32.toNatClampNeg 3) (some q13)) (Int32.toNatClampNeg 4) (some q15)) (Int32.toNatClampNeg 5) (some q17))))))), (q3, .inr (8, [.ref (n4.1 0), .ref (n4.1 1), .ref (n4.1 2)])), (q5, .inr (0, [.ref (n6 0), .ref (n6 5)])), (q7, .inr (9, [.int 0, .ref (n8.1 0), .ref (n8.1 1), .ref (n8.1 2), .ref (n8.1 3), .ref (n8.1 4), .int (-1), .int 1, .int 0, .int 0, .int 0, .int 0, .int 0, .int 0, .int 0])), (q9, .inr (9, [.int 1, .ref (n10.1 0), .ref (n10.1 1), .ref (n10.1 2), .ref (n10.1 3), .ref (n10.1 4), .int (-1), .int 1, .int 0, .int 0, .int 0, .int 0, .int 0, .int 0, .int 0])), (q11, .inr (9, [.int 2, .ref (n12.1 0), .ref (n12.1 1), .ref (n12.1 2), .ref (n12.1 3), .ref (n12.1 4), .int (-1), .int 1, .int 0, .int 0, .int 0, .int 0, .int 0, .int 0, .int 0])), (q13, .inr (9, [.int 3, .ref (n14.1 0), .ref (n14.1 1), .ref (n14.1 2), .ref (n14.1 3), .ref (n14.1 4), .int (-1), .int 1, .int 0, .int 0, .int 0, .int 0, .int 0, .int 0, .int 0])), (q15, .inr (9, [.int 4, .ref (n16.1 0), .ref (n16.1 1), .ref (n16.1 2), .ref (n16.1 3), .ref (n16.1 4), .int (-1), .int 1, .int 0, .int 0, .int 0, .int 0, .int 0, .int 0, .int 0])), (q17, .inr (9, [.int 5, .ref (n18.1 0), .ref (n18.1 1), .ref (n18.1 2), .ref (n18.1 3), .ref (n18.1 4), .int (-1), .int 1, .int 0, .int 0, .int 0, .int 0, .int 0, .int 0, .int 0]))]) ++ ((((((((([] : va_W) ++ nw_X8 cy n4) ++ nw_X0 cy n6) ++ nw_X9 cy n8 0) ++ nw_X9 cy n10 1) ++ nw_X9 cy n12 2) ++ nw_X9 cy n14 3) ++ nw_X9 cy n16 4) ++ nw_X9 cy n18 5)) := hD
  refine lv_iinc (v := 6) (lv' := [(3, .int 6), (0, .ref h0), (1, .ref a1), (2, .ref a2)]) hx hb dX7_init_72 hl (k := 0) rfl (by decide) (by decide) rfl (fun ls hl => ?_)
  refine lv_goto (tgt := 52) hx hb dX7_init_75 (by decide) ?_
  refine lv_iload_n hx hb dX7_init_52 rfl (lv_at hl 0 rfl) ?_
  refine lv_bipush (v := 6) hx hb dX7_init_53 (by decide) ?_
  refine lv_icmp_ge (tgt := 78) hx hb dX7_init_55 (by decide) (fun _ => ?_) (fun h => absurd h (by decide))
  exact W.vret hx hb hr (fun t ht hW => ⟨⟨((fun k => ([q1, q3, q5, q7, q9, q11, q13, q15, q17] : List Nat).getD k 0), n4, n6, n8, n10, n12, n14, n16, n18), rfl, trivial, by show va_P D g_cl _ t.heap; rw [ht]; unfold nw_X7; rw [← List.append_assoc]; exact hP, by unfold nw_X7; rw [← List.append_assoc]; exact hD⟩, hS.F ht⟩) hS.2.2 dX7_init_78 hlocks
theorem hdc_X11 : yX11_init.cls ≠ "java/lang/invoke/MethodHandle" ∧ yX11_init.cls ≠ "java/lang/invoke/VarHandle" ∧ (parseMethodDescriptor yX11_init.desc).map (fun d => d.parameters.length) = some 0 := by decide +kernel
abbrev S_X11 : Type := (Nat → Nat) × S_X10 × S_X5 × S_X7 × S_X7 × S_X2 × S_X6
def nw_X11 (cy : Nat → ClassId) (u : S_X11)  : va_W := [((u.1 0), .inr (10, [.ref (u.2.1 0), .int 1])), ((u.1 1), .inr (5, [.ref (u.2.2.1 0), .ref (u.2.2.1 1), .ref (u.2.2.1 2), .int 0])), ((u.1 2), .inr (7, [.ref (u.2.2.2.1.1 0), .ref (u.2.2.2.1.1 1), .ref (u.2.2.2.1.1 2), .ref (u.1 0), .ref (u.1 1), .int 0, .int 0, .int 0, .int 0, .int 0, .int (-1), .int 0])), ((u.1 3), .inr (7, [.ref (u.2.2.2.2.1.1 0), .ref (u.2.2.2.2.1.1 1), .ref (u.2.2.2.2.1.1 2), .ref (u.1 0), .ref (u.1 1), .int 0, .int 0, .int 0, .int 0, .int 0, .int (-1), .int 0])), ((u.1 4), .inr (2, [.ref (u.2.2.2.2.2.1 0)])), ((u.1 5), .inr (6, [.ref (u.2.2.2.2.2.2 0), .ref (u.2.2.2.2.2.2 1), .ref (u.2.2.2.2.2.2 2)])), ((u.1 6), .inl (cy 0, 6, .inl (fun _ => 0))), ((u.1 7), .inl (cy 0, 6, .inl (fun _ => 0)))] ++ ((((((([] : va_W) ++ nw_X10 cy u.2.1) ++ nw_X5 cy u.2.2.1) ++ nw_X7 cy u.2.2.2.1 (u.1 0) (u.1 1)) ++ nw_X7 cy u.2.2.2.2.1 (u.1 0) (u.1 1)) ++ nw_X2 cy u.2.2.2.2.2.1) ++ nw_X6 cy u.2.2.2.2.2.2)
abbrev rm_c11 : Room := { frames := 4, cells := 162, slots := 3116, locals := 84 }
set_option maxRecDepth 100000 in
set_option maxHeartbeats 4000000 in
theorem cc_X11 (l : Launch) (D : va_G) (cy : Nat → ClassId) (z0 : Nat) (ws : va_W) (k0 h0 : Nat)  (h0e : ws[k0]? = some (h0, .inr (11, [.null, .null, .null, .null, .null, .null, .null, .null]))) : Met l yX11_init (wz yX11_init cX11_init 1 none) rm_c11 (va_Pc [.ref h0] (c_pre D cy z0 ws)) (va_Qv (fun _ : S_X11 => True) (fun u t => va_P D g_cl (ws.set k0 (h0, .inr (11, [.ref (u.1 0), .ref (u.1 1), .ref (u.1 2), .ref (u.1 3), .ref (u.1 4), .ref (u.1 5), .ref (u.1 6), .ref (u.1 7)])) ++ nw_X11 cy u ) t.heap ∧ va_D (fun q => z0 ≤ q) (ws.set k0 (h0, .inr (11, [.ref (u.1 0), .ref (u.1 1), .ref (u.1 2), .ref (u.1 3), .ref (u.1 4), .ref (u.1 5), .ref (u.1 6), .ref (u.1 7)])) ++ nw_X11 cy u )) (fun q => z0 ≤ q)) 162 3116 (fun q => z0 ≤ q) := by
  refine Met.ofW (cc := cX11_init) (maxL := 1) (ret := none) (by decide) rfl ?_
  intro p e s m args below meth c s₁ B hml hv
  obtain ⟨rfl, hCs, hP, hD, hz⟩ := hv
  have hx := B.exec
  have hb := B.bytes
  have hr := B.returns
  have hts : ∀ w ∈ wsL_law, w.before _ s = true := fun w h => atoms_spec (ws := wz yX11_init cX11_init 1 none) B.pre w (List.mem_cons_of_mem _ h)
  have hown : s.vm.findClass RX11 = some m.cls := findClass_of_methodNamed B.named
  have hlocks := B.notSynchronized
  have hin : meth.name = "<init>" := (name_of_methodNamed B.named B.method).1
  have hK := hCs.1
  have hA : ∀ q, s.heap.size ≤ q → (fun q => z0 ≤ q) q := fun q h => Nat.le_trans hz h
  have hS : va_S (fun q => z0 ≤ q) s.heap s.heap [] := va_S.rf
  have hl := lv_entry ([.ref h0]) (n := 1) (Nat.le_of_ble_eq_true rfl)
  rw [lg_entry_eq]
  generalize (lg_sl ([.ref h0]) ++ List.replicate (1 - (lg_sl ([.ref h0])).length) Slot.unset).toArray = ls at hl ⊢
  have hl : lv_has ls 1 [(0, .ref h0)] := hl
  have hP : va_P D g_cl ((ws.set k0 (h0, .inr (11, [.null, .null, .null, .null, .null, .null, .null, .null])) ++ []) ++ ([] : va_W)) s.heap := by rw [c_same h0e, List.append_nil, List.append_nil]; exact hP
  have hD : va_D (fun q => z0 ≤ q) ((ws.set k0 (h0, .inr (11, [.null, .null, .null, .null, .null, .null, .null, .null])) ++ []) ++ ([] : va_W)) := by rw [c_same h0e, List.append_nil, List.append_nil]; exact hD
  refine lv_aload_n hx hb dX11_init_0 rfl (lv_at hl 0 rfl) ?_
  refine W.objInit hx hb hown (hts _ q1_10) (hts _ q1_11) (hts _ q1_12) rfl (by rw [hml]; exact hl.1) rfl dX11_init_1 (Nat.le_of_ble_eq_true rfl) (Nat.le_of_ble_eq_true rfl) ?_
  refine W.eq (g2 := F0 m 4 ls []) rfl ?_
  refine lv_aload_n hx hb dX11_init_4 rfl (lv_at hl 0 rfl) ?_
  refine va_new (ci := 10) (fs := [.null, .int 0]) (C := RX10) (T := TX10) (N := 2) hx hb hts inlX10 tyX10 tyX10_ok hown (hts _ q1_13) (hts _ q1_14) (hts _ q1_15) hK hP hD hS hA rfl (fun j hj => by rcases (show j = 0 ∨ j = 1 by omega) with rfl | rfl <;> rfl) (Nat.le_of_ble_eq_true rfl) (Nat.le_of_ble_eq_true rfl) dX11_init_5 (fun q1 H hP hD hS => ?_)
  have hP := hP.swap
  have hD := hD.swap
  rw [c_as] at hP hD
  have hP : va_P D g_cl ((ws.set k0 (h0, .inr (11, [.null, .null, .null, .null, .null, .null, .null, .null])) ++ [(q1, .inr (10, [.null, .int 0]))]) ++ ([] : va_W)) H := hP
  have hD : va_D (fun q => z0 ≤ q) ((ws.set k0 (h0, .inr (11, [.null, .null, .null, .null, .null, .null, .null, .null])) ++ [(q1, .inr (10, [.null, .int 0]))]) ++ ([] : va_W)) := hD
  refine lv_dup hx hb dX11_init_8 rfl ?_
  refine va_callv (va_runI (As := []) (rest := [.ref q1, .ref h0]) ⟨hx, hb, hml, hown, hts⟩ (cc_X10 l D cy z0 _ (ws.length + 0) q1  (c_newZ 0 rfl)) (cwI 0 hts (wz_N q2_15) rfl rfl rfl (hts _ q1_15) (hts _ q2_13) (hts _ q2_14) rfl hdc_X10 ⟨Nat.le_of_ble_eq_true rfl, Nat.le_of_ble_eq_true rfl⟩) ⟨c_blind, fun U hU hW => ⟨rfl, hCs.moved hW, by rw [hU]; exact hP, hD, by rw [hU]; exact Nat.le_trans hz hS.1⟩⟩ rfl rfl hl.1 rfl (lv_room (Nat.le_of_ble_eq_true rfl)) dX11_init_9 ⟨Nat.le_of_ble_eq_true rfl, Nat.le_of_ble_eq_true rfl⟩) hS (fun _ _ h => h) (fun _ h => h) (fun n2 t H locs ht hvm _ hB hz1 hk1 hS => ?_)
  obtain ⟨hP, hD⟩ := hB
  rw [ht] at hP
  rw [c_setNZ _ (Nat.le_of_ble_eq_true rfl), List.append_assoc] at hP hD
  have hP : va_P D g_cl ((ws.set k0 (h0, .inr (11, [.null, .null, .null, .null, .null, .null, .null, .null])) ++ [(q1, .inr (10, [.ref (n2 0), .int 1]))]) ++ (([] : va_W) ++ nw_X10 cy n2)) H := hP
  have hD : va_D (fun q => z0 ≤ q) ((ws.set k0 (h0, .inr (11, [.null, .null, .null, .null, .null, .null, .null, .null])) ++ [(q1, .inr (10, [.ref (n2 0), .int 1]))]) ++ (([] : va_W) ++ nw_X10 cy n2)) := hD
  refine va_putF (D := D) (ci := 11) (v := .ref q1) (ty := tyX11 0) (C := RX11) (T := TX11) (N := 8) hx hb hts inlX11 tyX11 tyX11_ok nmX11 hown hK hP hD hS k0 (c_thisZ h0e) rfl 0 (by decide) (hts _ q1_16) (fun _ h => h) rfl hin rfl (tyX11_ok 0 (by decide)) rfl rfl (Nat.le_of_ble_eq_true rfl) dX11_init_12 (fun H locs hP hD hS => ?_)
  rw [c_setTZ h0e] at hP hD
  have hP : va_P D g_cl ((ws.set k0 (h0, .inr (11, [.ref q1, .null, .null, .null, .null, .null, .null, .null])) ++ [(q1, .inr (10, [.ref (n2 0), .int 1]))]) ++ (([] : va_W) ++ nw_X10 cy n2)) H := hP
  have hD : va_D (fun q => z0 ≤ q) ((ws.set k0 (h0, .inr (11, [.ref q1, .null, .null, .null, .null, .null, .null, .null])) ++ [(q1, .inr (10, [.ref (n2 0), .int 1]))]) ++ (([] : va_W) ++ nw_X10 cy n2)) := hD
  refine lv_aload_n hx hb dX11_init_15 rfl (lv_at hl 0 rfl) ?_
  refine va_new (ci := 5) (fs := [.null, .null, .null, .int 0]) (C := RX5) (T := TX5) (N := 4) hx hb hts inlX5 tyX5 tyX5_ok hown (hts _ q1_17) (hts _ q1_18) (hts _ q1_19) hK hP hD hS hA rfl (fun j hj => by rcases (show j = 0 ∨ j = 1 ∨ j = 2 ∨ j = 3 by omega) with rfl | rfl | rfl | rfl <;> rfl) (Nat.le_of_ble_eq_true rfl) (Nat.le_of_ble_eq_true rfl) dX11_init_16 (fun q3 H hP hD hS => ?_)
  have hP := hP.swap
  have hD := hD.swap
  rw [c_as] at hP hD
  have hP : va_P D g_cl ((ws.set k0 (h0, .inr (11, [.ref q1, .null, .null, .null, .null, .null, .null, .null])) ++ [(q1, .inr (10, [.ref (n2 0), .int 1])), (q3, .inr (5, [.null, .null, .null, .int 0]))]) ++ (([] : va_W) ++ nw_X10 cy n2)) H := hP
  have hD : va_D (fun q => z0 ≤ q) ((ws.set k0 (h0, .inr (11, [.ref q1, .null, .null, .null, .null, .null, .null, .null])) ++ [(q1, .inr (10, [.ref (n2 0), .int 1])), (q3, .inr (5, [.null, .null, .null, .int 0]))]) ++ (([] : va_W) ++ nw_X10 cy n2)) := hD
  refine lv_dup hx hb dX11_init_19 rfl ?_
  refine va_callv (va_runIN (As := []) (rest := [.ref q3, .ref h0]) ⟨hx, hb, hml, hown, hts⟩ (cc_X5 l D cy z0 _ (ws.length + 1) q3  (c_newZ 1 rfl)) ⟨va_cnB 0 hts (wz_N q3_0) rfl rfl rfl hCs.2.1 (hts _ q1_19) hdc_X5 ⟨Nat.le_of_ble_eq_true rfl, Nat.le_of_ble_eq_true rfl⟩, rfl, hts _ q2_23⟩ ⟨c_blind, fun U hU hW => ⟨rfl, hCs.moved hW, by rw [hU]; exact hP, hD, by rw [hU]; exact Nat.le_trans hz hS.1⟩⟩ rfl rfl hl.1 rfl (lv_room (Nat.le_of_ble_eq_true rfl)) dX11_init_20 ⟨Nat.le_of_ble_eq_true rfl, Nat.le_of_ble_eq_true rfl⟩) hS (fun _ _ h => h) (fun _ h => h) (fun n4 t H locs ht hvm _ hB hz1 hk1 hS => ?_)
  obtain ⟨hP, hD⟩ := hB
  rw [ht] at hP
  rw [c_setNZ _ (Nat.le_of_ble_eq_true rfl), List.append_assoc] at hP hD
  have hP : va_P D g_cl ((ws.set k0 (h0, .inr (11, [.ref q1, .null, .null, .null, .null, .null, .null, .null])) ++ [(q1, .inr (10, [.ref (n2 0), .int 1])), (q3, .inr (5, [.ref (n4 0), .ref (n4 1), .ref (n4 2), .int 0]))]) ++ ((([] : va_W) ++ nw_X10 cy n2) ++ nw_X5 cy n4)) H := hP
  have hD : va_D (fun q => z0 ≤ q) ((ws.set k0 (h0, .inr (11, [.ref q1, .null, .null, .null, .null, .null, .null, .null])) ++ [(q1, .inr (10, [.ref (n2 0), .int 1])), (q3, .inr (5, [.ref (n4 0), .ref (n4 1), .ref (n4 2), .int 0]))]) ++ ((([] : va_W) ++ nw_X10 cy n2) ++ nw_X5 cy n4)) := hD
  refine va_putF (D := D) (ci := 11) (v := .ref q3) (ty := tyX11 1) (C := RX11) (T := TX11) (N := 8) hx hb hts inlX11 tyX11 tyX11_ok nmX11 hown hK hP hD hS k0 (c_thisZ h0e) rfl 1 (by decide) (hts _ q1_20) (fun _ h => h) rfl hin rfl (tyX11_ok 1 (by decide)) rfl rfl (Nat.le_of_ble_eq_true rfl) dX11_init_23 (fun H locs hP hD hS => ?_)
  rw [c_setTZ h0e] at hP hD
  have hP : va_P D g_cl ((ws.set k0 (h0, .inr (11, [.ref q1, .ref q3, .null, .null, .null, .null, .null, .null])) ++ [(q1, .inr (10, [.ref (n2 0), .int 1])), (q3, .inr (5, [.ref (n4 0), .ref (n4 1), .ref (n4 2), .int 0]))]) ++ ((([] : va_W) ++ nw_X10 cy n2) ++ nw_X5 cy n4)) H := hP
  have hD : va_D (fun q => z0 ≤ q) ((ws.set k0 (h0, .inr (11, [.ref q1, .ref q3, .null, .null, .null, .null, .null, .null])) ++ [(q1, .inr (10, [.ref (n2 0), .int 1])), (q3, .inr (5, [.ref (n4 0), .ref (n4 1), .ref (n4 2), .int 0]))]) ++ ((([] : va_W) ++ nw_X10 cy n2) ++ nw_X5 cy n4)) := hD
  refine lv_aload_n hx hb dX11_init_26 rfl (lv_at hl 0 rfl) ?_
  refine va_new (ci := 7) (fs := [.null, .null, .null, .null, .null, .int 0, .int 0, .int 0, .int 0, .int 0, .int 0, .int 0]) (C := RX7) (T := TX7) (N := 12) hx hb hts inlX7 tyX7 tyX7_ok hown (hts _ q1_21) (hts _ q1_22) (hts _ q1_23) hK hP hD hS hA rfl (fun j hj => by rcases (show j = 0 ∨ j = 1 ∨ j = 2 ∨ j = 3 ∨ j = 4 ∨ j = 5 ∨ j = 6 ∨ j = 7 ∨ j = 8 ∨ j = 9 ∨ j = 10 ∨ j = 11 by omega) with rfl | rfl | rfl | rfl | rfl | rfl | rfl | rfl | rfl | rfl | rfl | rfl <;> rfl) (Nat.le_of_ble_eq_true rfl) (Nat.le_of_ble_eq_true rfl) dX11_init_27 (fun q5 H hP hD hS => ?_)
  have hP := hP.swap
  have hD := hD.swap
  rw [c_as] at hP hD
  have hP : va_P D g_cl ((ws.set k0 (h0, .inr (11, [.ref q1, .ref q3, .null, .null, .null, .null, .null, .null])) ++ [(q1, .inr (10, [.ref (n2 0), .int 1])), (q3, .inr (5, [.ref (n4 0), .ref (n4 1), .ref (n4 2), .int 0])), (q5, .inr (7, [.null, .null, .null, .null, .null, .int 0, .int 0, .int 0, .int 0, .int 0, .int 0, .int 0]))]) ++ ((([] : va_W) ++ nw_X10 cy n2) ++ nw_X5 cy n4)) H := hP
  have hD : va_D (fun q => z0 ≤ q) ((ws.set k0 (h0, .inr (11, [.ref q1, .ref q3, .null, .null, .null, .null, .null, .null])) ++ [(q1, .inr (10, [.ref (n2 0), .int 1])), (q3, .inr (5, [.ref (n4 0), .ref (n4 1), .ref (n4 2), .int 0])), (q5, .inr (7, [.null, .null, .null, .null, .null, .int 0, .int 0, .int 0, .int 0, .int 0, .int 0, .int 0]))]) ++ ((([] : va_W) ++ nw_X10 cy n2) ++ nw_X5 cy n4)) := hD
  refine lv_dup hx hb dX11_init_30 rfl ?_
  refine lv_aload_n hx hb dX11_init_31 rfl (lv_at hl 0 rfl) ?_
  refine va_get (D := D) (ci := 11) (v := .ref q1) (C := RX11) (T := TX11) (N := 8) hx hb hts inlX11 hown hK hP k0 (c_thisZ h0e) rfl 0 (by decide) (hts _ q1_16) (fun _ h => h) rfl dX11_init_32 ?_
  refine lv_aload_n hx hb dX11_init_35 rfl (lv_at hl 0 rfl) ?_
  refine va_get (D := D) (ci := 11) (v := .ref q3) (C := RX11) (T := TX11) (N := 8) hx hb hts inlX11 hown hK hP k0 (c_thisZ h0e) rfl 1 (by decide) (hts _ q1_20) (fun _ h => h) rfl dX11_init_36 ?_
  refine va_callv (va_runI (As := [.ref q1, .ref q3]) (rest := [.ref q5, .ref h0]) ⟨hx, hb, hml, hown, hts⟩ (cc_X7 l D cy z0 _ (ws.length + 2) q5 q1 q3 (c_newZ 2 rfl)) (cwI 2 hts (wz_N q3_7) rfl rfl rfl (hts _ q1_23) (hts _ q3_5) (hts _ q3_6) rfl hdc_X7 ⟨Nat.le_of_ble_eq_true rfl, Nat.le_of_ble_eq_true rfl⟩) ⟨c_blind, fun U hU hW => ⟨rfl, hCs.moved hW, by rw [hU]; exact hP, hD, by rw [hU]; exact Nat.le_trans hz hS.1⟩⟩ rfl rfl hl.1 rfl (lv_room (Nat.le_of_ble_eq_true rfl)) dX11_init_39 ⟨Nat.le_of_ble_eq_true rfl, Nat.le_of_ble_eq_true rfl⟩) hS (fun _ _ h => h) (fun _ h => h) (fun n6 t H locs ht hvm _ hB hz1 hk1 hS => ?_)
  obtain ⟨hP, hD⟩ := hB
  rw [ht] at hP
  rw [c_setNZ _ (Nat.le_of_ble_eq_true rfl), List.append_assoc] at hP hD
  have hP : va_P D g_cl ((ws.set k0 (h0, .inr (11, [.ref q1, .ref q3, .null, .null, .null, .null, .null, .null])) ++ [(q1, .inr (10, [.ref (n2 0), .int 1])), (q3, .inr (5, [.ref (n4 0), .ref (n4 1), .ref (n4 2), .int 0])), (q5, .inr (7, [.ref (n6.1 0), .ref (n6.1 1), .ref (n6.1 2), .ref q1, .ref q3, .int 0, .int 0, .int 0, .int 0, .int 0, .int (-1), .int 0]))]) ++ (((([] : va_W) ++ nw_X10 cy n2) ++ nw_X5 cy n4) ++ nw_X7 cy n6 q1 q3)) H := hP
  have hD : va_D (fun q => z0 ≤ q) ((ws.set k0 (h0, .inr (11, [.ref q1, .ref q3, .null, .null, .null, .null, .null, .null])) ++ [(q1, .inr (10, [.ref (n2 0), .int 1])), (q3, .inr (5, [.ref (n4 0), .ref (n4 1), .ref (n4 2), .int 0])), (q5, .inr (7, [.ref (n6.1 0), .ref (n6.1 1), .ref (n6.1 2), .ref q1, .ref q3, .int 0, .int 0, .int 0, .int 0, .int 0, .int (-1), .int 0]))]) ++ (((([] : va_W) ++ nw_X10 cy n2) ++ nw_X5 cy n4) ++ nw_X7 cy n6 q1 q3)) := hD
  refine va_putF (D := D) (ci := 11) (v := .ref q5) (ty := tyX11 2) (C := RX11) (T := TX11) (N := 8) hx hb hts inlX11 tyX11 tyX11_ok nmX11 hown hK hP hD hS k0 (c_thisZ h0e) rfl 2 (by decide) (hts _ q2_0) (fun _ h => h) rfl hin rfl (tyX11_ok 2 (by decide)) rfl rfl (Nat.le_of_ble_eq_true rfl) dX11_init_42 (fun H locs hP hD hS => ?_)
  rw [c_setTZ h0e] at hP hD
  have hP : va_P D g_cl ((ws.set k0 (h0, .inr (11, [.ref q1, .ref q3, .ref q5, .null, .null, .null, .null, .null])) ++ [(q1, .inr (10, [.ref (n2 0), .int 1])), (q3, .inr (5, [.ref (n4 0), .ref (n4 1), .ref (n4 2), .int 0])), (q5, .inr (7, [.ref (n6.1 0), .ref (n6.1 1), .ref (n6.1 2), .ref q1, .ref q3, .int 0, .int 0, .int 0, .int 0, .int 0, .int (-1), .int 0]))]) ++ (((([] : va_W) ++ nw_X10 cy n2) ++ nw_X5 cy n4) ++ nw_X7 cy n6 q1 q3)) H := hP
  have hD : va_D (fun q => z0 ≤ q) ((ws.set k0 (h0, .inr (11, [.ref q1, .ref q3, .ref q5, .null, .null, .null, .null, .null])) ++ [(q1, .inr (10, [.ref (n2 0), .int 1])), (q3, .inr (5, [.ref (n4 0), .ref (n4 1), .ref (n4 2), .int 0])), (q5, .inr (7, [.ref (n6.1 0), .ref (n6.1 1), .ref (n6.1 2), .ref q1, .ref q3, .int 0, .int 0, .int 0, .int 0, .int 0, .int (-1), .int 0]))]) ++ (((([] : va_W) ++ nw_X10 cy n2) ++ nw_X5 cy n4) ++ nw_X7 cy n6 q1 q3)) := hD
  refine lv_aload_n hx hb dX11_init_45 rfl (lv_at hl 0 rfl) ?_
  refine va_new (ci := 7) (fs := [.null, .null, .null, .null, .null, .int 0, .int 0, .int 0, .int 0, .int 0, .int 0, .int 0]) (C := RX7) (T := TX7) (N := 12) hx hb hts inlX7 tyX7 tyX7_ok hown (hts _ q1_21) (hts _ q1_22) (hts _ q1_23) hK hP hD hS hA rfl (fun j hj => by rcases (show j = 0 ∨ j = 1 ∨ j = 2 ∨ j = 3 ∨ j = 4 ∨ j = 5 ∨ j = 6 ∨ j = 7 ∨ j = 8 ∨ j = 9 ∨ j = 10 ∨ j = 11 by omega) with rfl | rfl | rfl | rfl | rfl | rfl | rfl | rfl | rfl | rfl | rfl | rfl <;> rfl) (Nat.le_of_ble_eq_true rfl) (Nat.le_of_ble_eq_true rfl) dX11_init_46 (fun q7 H hP hD hS => ?_)
  have hP := hP.swap
  have hD := hD.swap
  rw [c_as] at hP hD
  have hP : va_P D g_cl ((ws.set k0 (h0, .inr (11, [.ref q1, .ref q3, .ref q5, .null, .null, .null, .null, .null])) ++ [(q1, .inr (10, [.ref (n2 0), .int 1])), (q3, .inr (5, [.ref (n4 0), .ref (n4 1), .ref (n4 2), .int 0])), (q5, .inr (7, [.ref (n6.1 0), .ref (n6.1 1), .ref (n6.1 2), .ref q1, .ref q3, .int 0, .int 0, .int 0, .int 0, .int 0, .int (-1), .int 0])), (q7, .inr (7, [.null, .null, .null, .null, .null, .int 0, .int 0, .int 0, .int 0, .int 0, .int 0, .int 0]))]) ++ (((([] : va_W) ++ nw_X10 cy n2) ++ nw_X5 cy n4) ++ nw_X7 cy n6 q1 q3)) H := hP
  have hD : va_D (fun q => z0 ≤ q) ((ws.set k0 (h0, .inr (11, [.ref q1, .ref q3, .ref q5, .null, .null, .null, .null, .null])) ++ [(q1, .inr (10, [.ref (n2 0), .int 1])), (q3, .inr (5, [.ref (n4 0), .ref (n4 1), .ref (n4 2), .int 0])), (q5, .inr (7, [.ref (n6.1 0), .ref (n6.1 1), .ref (n6.1 2), .ref q1, .ref q3, .int 0, .int 0, .int 0, .int 0, .int 0, .int (-1), .int 0])), (q7, .inr (7, [.null, .null, .null, .null, .null, .int 0, .int 0, .int 0, .int 0, .int 0, .int 0, .int 0]))]) ++ (((([] : va_W) ++ nw_X10 cy n2) ++ nw_X5 cy n4) ++ nw_X7 cy n6 q1 q3)) := hD
  refine lv_dup hx hb dX11_init_49 rfl ?_
  refine lv_aload_n hx hb dX11_init_50 rfl (lv_at hl 0 rfl) ?_
  refine va_get (D := D) (ci := 11) (v := .ref q1) (C := RX11) (T := TX11) (N := 8) hx hb hts inlX11 hown hK hP k0 (c_thisZ h0e) rfl 0 (by decide) (hts _ q1_16) (fun _ h => h) rfl dX11_init_51 ?_
  refine lv_aload_n hx hb dX11_init_54 rfl (lv_at hl 0 rfl) ?_
  refine va_get (D := D) (ci := 11) (v := .ref q3) (C := RX11) (T := TX11) (N := 8) hx hb hts inlX11 hown hK hP k0 (c_thisZ h0e) rfl 1 (by decide) (hts _ q1_20) (fun _ h => h) rfl dX11_init_55 ?_
  refine va_callv (va_runI (As := [.ref q1, .ref q3]) (rest := [.ref q7, .ref h0]) ⟨hx, hb, hml, hown, hts⟩ (cc_X7 l D cy z0 _ (ws.length + 3) q7 q1 q3 (c_newZ 3 rfl)) (cwI 2 hts (wz_N q3_7) rfl rfl rfl (hts _ q1_23) (hts _ q3_5) (hts _ q3_6) rfl hdc_X7 ⟨Nat.le_of_ble_eq_true rfl, Nat.le_of_ble_eq_true rfl⟩) ⟨c_blind, fun U hU hW => ⟨rfl, hCs.moved hW, by rw [hU]; exact hP, hD, by rw [hU]; exact Nat.le_trans hz hS.1⟩⟩ rfl rfl hl.1 rfl (lv_room (Nat.le_of_ble_eq_true rfl)) dX11_init_58 ⟨Nat.le_of_ble_eq_true rfl, Nat.le_of_ble_eq_true rfl⟩) hS (fun _ _ h => h) (fun _ h => h) (fun n8 t H locs ht hvm _ hB hz1 hk1 hS => ?_)
  obtain ⟨hP, hD⟩ := hB
  rw [ht] at hP
  rw [c_setNZ _ (Nat.le_of_ble_eq_true rfl), List.append_assoc] at hP hD
  have hP : va_P D g_cl ((ws.set k0 (h0, .inr (11, [.ref q1, .ref q3, .ref q5, .null, .null, .null, .null, .null])) ++ [(q1, .inr (10, [.ref (n2 0), .int 1])), (q3, .inr (5, [.ref (n4 0), .ref (n4 1), .ref (n4 2), .int 0])), (q5, .inr (7, [.ref (n6.1 0), .ref (n6.1 1), .ref (n6.1 2), .ref q1, .ref q3, .int 0, .int 0, .int 0, .int 0, .int 0, .int (-1), .int 0])), (q7, .inr (7, [.ref (n8.1 0), .ref (n8.1 1), .ref (n8.1 2), .ref q1, .ref q3, .int 0, .int 0, .int 0, .int 0, .int 0, .int (-1), .int 0]))]) ++ ((((([] : va_W) ++ nw_X10 cy n2) ++ nw_X5 cy n4) ++ nw_X7 cy n6 q1 q3) ++ nw_X7 cy n8 q1 q3)) H := hP
  have hD : va_D (fun q => z0 ≤ q) ((ws.set k0 (h0, .inr (11, [.ref q1, .ref q3, .ref q5, .null, .null, .null, .null, .null])) ++ [(q1, .inr (10, [.ref (n2 0), .int 1])), (q3, .inr (5, [.ref (n4 0), .ref (n4 1), .ref (n4 2), .int 0])), (q5, .inr (7, [.ref (n6.1 0), .ref (n6.1 1), .ref (n6.1 2), .ref q1, .ref q3, .int 0, .int 0, .int 0, .int 0, .int 0, .int (-1), .int 0])), (q7, .inr (7, [.ref (n8.1 0), .ref (n8.1 1), .ref (n8.1 2), .ref q1, .ref q3, .int 0, .int 0, .int 0, .int 0, .int 0, .int (-1), .int 0]))]) ++ ((((([] : va_W) ++ nw_X10 cy n2) ++ nw_X5 cy n4) ++ nw_X7 cy n6 q1 q3) ++ nw_X7 cy n8 q1 q3)) := hD
  refine va_putF (D := D) (ci := 11) (v := .ref q7) (ty := tyX11 3) (C := RX11) (T := TX11) (N := 8) hx hb hts inlX11 tyX11 tyX11_ok nmX11 hown hK hP hD hS k0 (c_thisZ h0e) rfl 3 (by decide) (hts _ q2_1) (fun _ h => h) rfl hin rfl (tyX11_ok 3 (by decide)) rfl rfl (Nat.le_of_ble_eq_true rfl) dX11_init_61 (fun H locs hP hD hS => ?_)
  rw [c_setTZ h0e] at hP hD
  have hP : va_P D g_cl ((ws.set k0 (h0, .inr (11, [.ref q1, .ref q3, .ref q5, .ref q7, .null, .null, .null, .null])) ++ [(q1, .inr (10, [.ref (n2 0), .int 1])), (q3, .inr (5, [.ref (n4 0), .ref (n4 1), .ref (n4 2), .int 0])), (q5, .inr (7, [.ref (n6.1 0), .ref (n6.1 1), .ref (n6.1 2), .ref q1, .ref q3, .int 0, .int 0, .int 0, .int 0, .int 0, .int (-1), .int 0])), (q7, .inr (7, [.ref (n8.1 0), .ref (n8.1 1), .ref (n8.1 2), .ref q1, .ref q3, .int 0, .int 0, .int 0, .int 0, .int 0, .int (-1), .int 0]))]) ++ ((((([] : va_W) ++ nw_X10 cy n2) ++ nw_X5 cy n4) ++ nw_X7 cy n6 q1 q3) ++ nw_X7 cy n8 q1 q3)) H := hP
  have hD : va_D (fun q => z0 ≤ q) ((ws.set k0 (h0, .inr (11, [.ref q1, .ref q3, .ref q5, .ref q7, .null, .null, .null, .null])) ++ [(q1, .inr (10, [.ref (n2 0), .int 1])), (q3, .inr (5, [.ref (n4 0), .ref (n4 1), .ref (n4 2), .int 0])), (q5, .inr (7, [.ref (n6.1 0), .ref (n6.1 1), .ref (n6.1 2), .ref q1, .ref q3, .int 0, .int 0, .int 0, .int 0, .int 0, .int (-1), .int 0])), (q7, .inr (7, [.ref (n8.1 0), .ref (n8.1 1), .ref (n8.1 2), .ref q1, .ref q3, .int 0, .int 0, .int 0, .int 0, .int 0, .int (-1), .int 0]))]) ++ ((((([] : va_W) ++ nw_X10 cy n2) ++ nw_X5 cy n4) ++ nw_X7 cy n6 q1 q3) ++ nw_X7 cy n8 q1 q3)) := hD
  refine lv_aload_n hx hb dX11_init_64 rfl (lv_at hl 0 rfl) ?_
  refine va_new (ci := 2) (fs := [.null]) (C := RX2) (T := TX2) (N := 1) hx hb hts inlX2 tyX2 tyX2_ok hown (hts _ q2_2) (hts _ q2_3) (hts _ q2_4) hK hP hD hS hA rfl (fun j hj => by rcases (show j = 0 by omega) with rfl <;> rfl) (Nat.le_of_ble_eq_true rfl) (Nat.le_of_ble_eq_true rfl) dX11_init_65 (fun q9 H hP hD hS => ?_)
  have hP := hP.swap
  have hD := hD.swap
  rw [c_as] at hP hD
  have hP : va_P D g_cl ((ws.set k0 (h0, .inr (11, [.ref q1, .ref q3, .ref q5, .ref q7, .null, .null, .null, .null])) ++ [(q1, .inr (10, [.ref (n2 0), .int 1])), (q3, .inr (5, [.ref (n4 0), .ref (n4 1), .ref (n4 2), .int 0])), (q5, .inr (7, [.ref (n6.1 0), .ref (n6.1 1), .ref (n6.1 2), .ref q1, .ref q3, .int 0, .int 0, .int 0, .int 0, .int 0, .int (-1), .int 0])), (q7, .inr (7, [.ref (n8.1 0), .ref (n8.1 1), .ref (n8.1 2), .ref q1, .ref q3, .int 0, .int 0, .int 0, .int 0, .int 0, .int (-1), .int 0])), (q9, .inr (2, [.null]))]) ++ ((((([] : va_W) ++ nw_X10 cy n2) ++ nw_X5 cy n4) ++ nw_X7 cy n6 q1 q3) ++ nw_X7 cy n8 q1 q3)) H := hP
  have hD : va_D (fun q => z0 ≤ q) ((ws.set k0 (h0, .inr (11, [.ref q1, .ref q3, .ref q5, .ref q7, .null, .null, .null, .null])) ++ [(q1, .inr (10, [.ref (n2 0), .int 1])), (q3, .inr (5, [.ref (n4 0), .ref (n4 1), .ref (n4 2), .int 0])), (q5, .inr (7, [.ref (n6.1 0), .ref (n6.1 1), .ref (n6.1 2), .ref q1, .ref q3, .int 0, .int 0, .int 0, .int 0, .int 0, .int (-1), .int 0])), (q7, .inr (7, [.ref (n8.1 0), .ref (n8.1 1), .ref (n8.1 2), .ref q1, .ref q3, .int 0, .int 0, .int 0, .int 0, .int 0, .int (-1), .int 0])), (q9, .inr (2, [.null]))]) ++ ((((([] : va_W) ++ nw_X10 cy n2) ++ nw_X5 cy n4) ++ nw_X7 cy n6 q1 q3) ++ nw_X7 cy n8 q1 q3)) := hD
  refine lv_dup hx hb dX11_init_68 rfl ?_
  refine va_callv (va_runIN (As := []) (rest := [.ref q9, .ref h0]) ⟨hx, hb, hml, hown, hts⟩ (cc_X2 l D cy z0 _ (ws.length + 4) q9  (c_newZ 4 rfl)) ⟨va_cnB 0 hts (wz_N q6_4) rfl rfl rfl hCs.2.2.1 (hts _ q2_4) hdc_X2 ⟨Nat.le_of_ble_eq_true rfl, Nat.le_of_ble_eq_true rfl⟩, rfl, hts _ q6_3⟩ ⟨c_blind, fun U hU hW => ⟨rfl, hCs.moved hW, by rw [hU]; exact hP, hD, by rw [hU]; exact Nat.le_trans hz hS.1⟩⟩ rfl rfl hl.1 rfl (lv_room (Nat.le_of_ble_eq_true rfl)) dX11_init_69 ⟨Nat.le_of_ble_eq_true rfl, Nat.le_of_ble_eq_true rfl⟩) hS (fun _ _ h => h) (fun _ h => h) (fun n10 t H locs ht hvm _ hB hz1 hk1 hS => ?_)
  obtain ⟨hP, hD⟩ := hB
  rw [ht] at hP
  rw [c_setNZ _ (Nat.le_of_ble_eq_true rfl), List.append_assoc] at hP hD
  have hP : va_P D g_cl ((ws.set k0 (h0, .inr (11, [.ref q1, .ref q3, .ref q5, .ref q7, .null, .null, .null, .null])) ++ [(q1, .inr (10, [.ref (n2 0), .int 1])), (q3, .inr (5, [.ref (n4 0), .ref (n4 1), .ref (n4 2), .int 0])), (q5, .inr (7, [.ref (n6.1 0), .ref (n6.1 1), .ref (n6.1 2), .ref q1, .ref q3, .int 0, .int 0, .int 0, .int 0, .int 0, .int (-1), .int 0])), (q7, .inr (7, [.ref (n8.1 0), .ref (n8.1 1), .ref (n8.1 2), .ref q1, .ref q3, .int 0, .int 0, .int 0, .int 0, .int 0, .int (-1), .int 0])), (q9, .inr (2, [.ref (n10 0)]))]) ++ (((((([] : va_W) ++ nw_X10 cy n2) ++ nw_X5 cy n4) ++ nw_X7 cy n6 q1 q3) ++ nw_X7 cy n8 q1 q3) ++ nw_X2 cy n10)) H := hP
  have hD : va_D (fun q => z0 ≤ q) ((ws.set k0 (h0, .inr (11, [.ref q1, .ref q3, .ref q5, .ref q7, .null, .null, .null, .null])) ++ [(q1, .inr (10, [.ref (n2 0), .int 1])), (q3, .inr (5, [.ref (n4 0), .ref (n4 1), .ref (n4 2), .int 0])), (q5, .inr (7, [.ref (n6.1 0), .ref (n6.1 1), .ref (n6.1 2), .ref q1, .ref q3, .int 0, .int 0, .int 0, .int 0, .int 0, .int (-1), .int 0])), (q7, .inr (7, [.ref (n8.1 0), .ref (n8.1 1), .ref (n8.1 2), .ref q1, .ref q3, .int 0, .int 0, .int 0, .int 0, .int 0, .int (-1), .int 0])), (q9, .inr (2, [.ref (n10 0)]))]) ++ (((((([] : va_W) ++ nw_X10 cy n2) ++ nw_X5 cy n4) ++ nw_X7 cy n6 q1 q3) ++ nw_X7 cy n8 q1 q3) ++ nw_X2 cy n10)) := hD
  refine va_putF (D := D) (ci := 11) (v := .ref q9) (ty := tyX11 4) (C := RX11) (T := TX11) (N := 8) hx hb hts inlX11 tyX11 tyX11_ok nmX11 hown hK hP hD hS k0 (c_thisZ h0e) rfl 4 (by decide) (hts _ q2_5) (fun _ h => h) rfl hin rfl (tyX11_ok 4 (by decide)) rfl rfl (Nat.le_of_ble_eq_true rfl) dX11_init_72 (fun H locs hP hD hS => ?_)
  rw [c_setTZ h0e] at hP hD
  have hP : va_P D g_cl ((ws.set k0 (h0, .inr (11, [.ref q1, .ref q3, .ref q5, .ref q7, .ref q9, .null, .null, .null])) ++ [(q1, .inr (10, [.ref (n2 0), .int 1])), (q3, .inr (5, [.ref (n4 0), .ref (n4 1), .ref (n4 2), .int 0])), (q5, .inr (7, [.ref (n6.1 0), .ref (n6.1 1), .ref (n6.1 2), .ref q1, .ref q3, .int 0, .int 0, .int 0, .int 0, .int 0, .int (-1), .int 0])), (q7, .inr (7, [.ref (n8.1 0), .ref (n8.1 1), .ref (n8.1 2), .ref q1, .ref q3, .int 0, .int 0, .int 0, .int 0, .int 0, .int (-1), .int 0])), (q9, .inr (2, [.ref (n10 0)]))]) ++ (((((([] : va_W) ++ nw_X10 cy n2) ++ nw_X5 cy n4) ++ nw_X7 cy n6 q1 q3) ++ nw_X7 cy n8 q1 q3) ++ nw_X2 cy n10)) H := hP
  have hD : va_D (fun q => z0 ≤ q) ((ws.set k0 (h0, .inr (11, [.ref q1, .ref q3, .ref q5, .ref q7, .ref q9, .null, .null, .null])) ++ [(q1, .inr (10, [.ref (n2 0), .int 1])), (q3, .inr (5, [.ref (n4 0), .ref (n4 1), .ref (n4 2), .int 0])), (q5, .inr (7, [.ref (n6.1 0), .ref (n6.1 1), .ref (n6.1 2), .ref q1, .ref q3, .int 0, .int 0, .int 0, .int 0, .int 0, .int (-1), .int 0])), (q7, .inr (7, [.ref (n8.1 0), .ref (n8.1 1), .ref (n8.1 2), .ref q1, .ref q3, .int 0, .int 0, .int 0, .int 0, .int 0, .int (-1), .int 0])), (q9, .inr (2, [.ref (n10 0)]))]) ++ (((((([] : va_W) ++ nw_X10 cy n2) ++ nw_X5 cy n4) ++ nw_X7 cy n6 q1 q3) ++ nw_X7 cy n8 q1 q3) ++ nw_X2 cy n10)) := hD
  refine lv_aload_n hx hb dX11_init_75 rfl (lv_at hl 0 rfl) ?_
  refine va_new (ci := 6) (fs := [.null, .null, .null]) (C := RX6) (T := TX6) (N := 3) hx hb hts inlX6 tyX6 tyX6_ok hown (hts _ q2_6) (hts _ q2_7) (hts _ q2_8) hK hP hD hS hA rfl (fun j hj => by rcases (show j = 0 ∨ j = 1 ∨ j = 2 by omega) with rfl | rfl | rfl <;> rfl) (Nat.le_of_ble_eq_true rfl) (Nat.le_of_ble_eq_true rfl) dX11_init_76 (fun q11 H hP hD hS => ?_)
  have hP := hP.swap
  have hD := hD.swap
  rw [c_as] at hP hD
  have hP : va_P D g_cl ((ws.set k0 (h0, .inr (11, [.ref q1, .ref q3, .ref q5, .ref q7, .ref q9, .null, .null, .null])) ++ [(q1, .inr (10, [.ref (n2 0), .int 1])), (q3, .inr (5, [.ref (n4 0), .ref (n4 1), .ref (n4 2), .int 0])), (q5, .inr (7, [.ref (n6.1 0), .ref (n6.1 1), .ref (n6.1 2), .ref q1, .ref q3, .int 0, .int 0, .int 0, .int 0, .int 0, .int (-1), .int 0])), (q7, .inr (7, [.ref (n8.1 0), .ref (n8.1 1), .ref (n8.1 2), .ref q1, .ref q3, .int 0, .int 0, .int 0, .int 0, .int 0, .int (-1), .int 0])), (q9, .inr (2, [.ref (n10 0)])), (q11, .inr (6, [.null, .null, .null]))]) ++ (((((([] : va_W) ++ nw_X10 cy n2) ++ nw_X5 cy n4) ++ nw_X7 cy n6 q1 q3) ++ nw_X7 cy n8 q1 q3) ++ nw_X2 cy n10)) H := hP
  have hD : va_D (fun q => z0 ≤ q) ((ws.set k0 (h0, .inr (11, [.ref q1, .ref q3, .ref q5, .ref q7, .ref q9, .null, .null, .null])) ++ [(q1, .inr (10, [.ref (n2 0), .int 1])), (q3, .inr (5, [.ref (n4 0), .ref (n4 1), .ref (n4 2), .int 0])), (q5, .inr (7, [.ref (n6.1 0), .ref (n6.1 1), .ref (n6.1 2), .ref q1, .ref q3, .int 0, .int 0, .int 0, .int 0, .int 0, .int (-1), .int 0])), (q7, .inr (7, [.ref (n8.1 0), .ref (n8.1 1), .ref (n8.1 2), .ref q1, .ref q3, .int 0, .int 0, .int 0, .int 0, .int 0, .int (-1), .int 0])), (q9, .inr (2, [.ref (n10 0)])), (q11, .inr (6, [.null, .null, .null]))]) ++ (((((([] : va_W) ++ nw_X10 cy n2) ++ nw_X5 cy n4) ++ nw_X7 cy n6 q1 q3) ++ nw_X7 cy n8 q1 q3) ++ nw_X2 cy n10)) := hD
  refine lv_dup hx hb dX11_init_79 rfl ?_
  refine va_callv (va_runIN (As := []) (rest := [.ref q11, .ref h0]) ⟨hx, hb, hml, hown, hts⟩ (cc_X6 l D cy z0 _ (ws.length + 5) q11  (c_newZ 5 rfl)) ⟨va_cnB 0 hts (wz_N q6_8) rfl rfl rfl hCs.2.2.2.1 (hts _ q2_8) hdc_X6 ⟨Nat.le_of_ble_eq_true rfl, Nat.le_of_ble_eq_true rfl⟩, rfl, hts _ q6_7⟩ ⟨c_blind, fun U hU hW => ⟨rfl, hCs.moved hW, by rw [hU]; exact hP, hD, by rw [hU]; exact Nat.le_trans hz hS.1⟩⟩ rfl rfl hl.1 rfl (lv_room (Nat.le_of_ble_eq_true rfl)) dX11_init_80 ⟨Nat.le_of_ble_eq_true rfl, Nat.le_of_ble_eq_true rfl⟩) hS (fun _ _ h => h) (fun _ h => h) (fun n12 t H locs ht hvm _ hB hz1 hk1 hS => ?_)
  obtain ⟨hP, hD⟩ := hB
  rw [ht] at hP
  rw [c_setNZ _ (Nat.le_of_ble_eq_true rfl), List.append_assoc] at hP hD
  have hP : va_P D g_cl ((ws.set k0 (h0, .inr (11, [.ref q1, .ref q3, .ref q5, .ref q7, .ref q9, .null, .null, .null])) ++ [(q1, .inr (10, [.ref (n2 0), .int 1])), (q3, .inr (5, [.ref (n4 0), .ref (n4 1), .ref (n4 2), .int 0])), (q5, .inr (7, [.ref (n6.1 0), .ref (n6.1 1), .ref (n6.1 2), .ref q1, .ref q3, .int 0, .int 0, .int 0, .int 0, .int 0, .int (-1), .int 0])), (q7, .inr (7, [.ref (n8.1 0), .ref (n8.1 1), .ref (n8.1 2), .ref q1, .ref q3, .int 0, .int 0, .int 0, .int 0, .int 0, .int (-1), .int 0])), (q9, .inr (2, [.ref (n10 0)])), (q11, .inr (6, [.ref (n12 0), .ref (n12 1), .ref (n12 2)]))]) ++ ((((((([] : va_W) ++ nw_X10 cy n2) ++ nw_X5 cy n4) ++ nw_X7 cy n6 q1 q3) ++ nw_X7 cy n8 q1 q3) ++ nw_X2 cy n10) ++ nw_X6 cy n12)) H := hP
  have hD : va_D (fun q => z0 ≤ q) ((ws.set k0 (h0, .inr (11, [.ref q1, .ref q3, .ref q5, .ref q7, .ref q9, .null, .null, .null])) ++ [(q1, .inr (10, [.ref (n2 0), .int 1])), (q3, .inr (5, [.ref (n4 0), .ref (n4 1), .ref (n4 2), .int 0])), (q5, .inr (7, [.ref (n6.1 0), .ref (n6.1 1), .ref (n6.1 2), .ref q1, .ref q3, .int 0, .int 0, .int 0, .int 0, .int 0, .int (-1), .int 0])), (q7, .inr (7, [.ref (n8.1 0), .ref (n8.1 1), .ref (n8.1 2), .ref q1, .ref q3, .int 0, .int 0, .int 0, .int 0, .int 0, .int (-1), .int 0])), (q9, .inr (2, [.ref (n10 0)])), (q11, .inr (6, [.ref (n12 0), .ref (n12 1), .ref (n12 2)]))]) ++ ((((((([] : va_W) ++ nw_X10 cy n2) ++ nw_X5 cy n4) ++ nw_X7 cy n6 q1 q3) ++ nw_X7 cy n8 q1 q3) ++ nw_X2 cy n10) ++ nw_X6 cy n12)) := hD
  refine va_putF (D := D) (ci := 11) (v := .ref q11) (ty := tyX11 5) (C := RX11) (T := TX11) (N := 8) hx hb hts inlX11 tyX11 tyX11_ok nmX11 hown hK hP hD hS k0 (c_thisZ h0e) rfl 5 (by decide) (hts _ q2_9) (fun _ h => h) rfl hin rfl (tyX11_ok 5 (by decide)) rfl rfl (Nat.le_of_ble_eq_true rfl) dX11_init_83 (fun H locs hP hD hS => ?_)
  rw [c_setTZ h0e] at hP hD
  have hP : va_P D g_cl ((ws.set k0 (h0, .inr (11, [.ref q1, .ref q3, .ref q5, .ref q7, .ref q9, .ref q11, .null, .null])) ++ [(q1, .inr (10, [.ref (n2 0), .int 1])), (q3, .inr (5, [.ref (n4 0), .ref (n4 1), .ref (n4 2), .int 0])), (q5, .inr (7, [.ref (n6.1 0), .ref (n6.1 1), .ref (n6.1 2), .ref q1, .ref q3, .int 0, .int 0, .int 0, .int 0, .int 0, .int (-1), .int 0])), (q7, .inr (7, [.ref (n8.1 0), .ref (n8.1 1), .ref (n8.1 2), .ref q1, .ref q3, .int 0, .int 0, .int 0, .int 0, .int 0, .int (-1), .int 0])), (q9, .inr (2, [.ref (n10 0)])), (q11, .inr (6, [.ref (n12 0), .ref (n12 1), .ref (n12 2)]))]) ++ ((((((([] : va_W) ++ nw_X10 cy n2) ++ nw_X5 cy n4) ++ nw_X7 cy n6 q1 q3) ++ nw_X7 cy n8 q1 q3) ++ nw_X2 cy n10) ++ nw_X6 cy n12)) H := hP
  have hD : va_D (fun q => z0 ≤ q) ((ws.set k0 (h0, .inr (11, [.ref q1, .ref q3, .ref q5, .ref q7, .ref q9, .ref q11, .null, .null])) ++ [(q1, .inr (10, [.ref (n2 0), .int 1])), (q3, .inr (5, [.ref (n4 0), .ref (n4 1), .ref (n4 2), .int 0])), (q5, .inr (7, [.ref (n6.1 0), .ref (n6.1 1), .ref (n6.1 2), .ref q1, .ref q3, .int 0, .int 0, .int 0, .int 0, .int 0, .int (-1), .int 0])), (q7, .inr (7, [.ref (n8.1 0), .ref (n8.1 1), .ref (n8.1 2), .ref q1, .ref q3, .int 0, .int 0, .int 0, .int 0, .int 0, .int (-1), .int 0])), (q9, .inr (2, [.ref (n10 0)])), (q11, .inr (6, [.ref (n12 0), .ref (n12 1), .ref (n12 2)]))]) ++ ((((((([] : va_W) ++ nw_X10 cy n2) ++ nw_X5 cy n4) ++ nw_X7 cy n6 q1 q3) ++ nw_X7 cy n8 q1 q3) ++ nw_X2 cy n10) ++ nw_X6 cy n12)) := hD
  refine lv_aload_n hx hb dX11_init_86 rfl (lv_at hl 0 rfl) ?_
  refine lv_bipush (v := 6) hx hb dX11_init_87 (by decide) ?_
  refine c_newi (N := 6) hx hb hts hK hP hD hS hA (by decide) (by decide) (by decide) (Nat.le_of_ble_eq_true rfl) (Nat.le_of_ble_eq_true rfl) dX11_init_89 (fun q13 H hP hD hS => ?_)
  have hP := hP.swap
  have hD := hD.swap
  rw [c_as] at hP hD
  have hP : va_P D g_cl ((ws.set k0 (h0, .inr (11, [.ref q1, .ref q3, .ref q5, .ref q7, .ref q9, .ref q11, .null, .null])) ++ [(q1, .inr (10, [.ref (n2 0), .int 1])), (q3, .inr (5, [.ref (n4 0), .ref (n4 1), .ref (n4 2), .int 0])), (q5, .inr (7, [.ref (n6.1 0), .ref (n6.1 1), .ref (n6.1 2), .ref q1, .ref q3, .int 0, .int 0, .int 0, .int 0, .int 0, .int (-1), .int 0])), (q7, .inr (7, [.ref (n8.1 0), .ref (n8.1 1), .ref (n8.1 2), .ref q1, .ref q3, .int 0, .int 0, .int 0, .int 0, .int 0, .int (-1), .int 0])), (q9, .inr (2, [.ref (n10 0)])), (q11, .inr (6, [.ref (n12 0), .ref (n12 1), .ref (n12 2)])), (q13, .inl (cy 0, 6, .inl (fun _ => 0)))]) ++ ((((((([] : va_W) ++ nw_X10 cy n2) ++ nw_X5 cy n4) ++ nw_X7 cy n6 q1 q3) ++ nw_X7 cy n8 q1 q3) ++ nw_X2 cy n10) ++ nw_X6 cy n12)) H := hP
  have hD : va_D (fun q => z0 ≤ q) ((ws.set k0 (h0, .inr (11, [.ref q1, .ref q3, .ref q5, .ref q7, .ref q9, .ref q11, .null, .null])) ++ [(q1, .inr (10, [.ref (n2 0), .int 1])), (q3, .inr (5, [.ref (n4 0), .ref (n4 1), .ref (n4 2), .int 0])), (q5, .inr (7, [.ref (n6.1 0), .ref (n6.1 1), .ref (n6.1 2), .ref q1, .ref q3, .int 0, .int 0, .int 0, .int 0, .int 0, .int (-1), .int 0])), (q7, .inr (7, [.ref (n8.1 0), .ref (n8.1 1), .ref (n8.1 2), .ref q1, .ref q3, .int 0, .int 0, .int 0, .int 0, .int 0, .int (-1), .int 0])), (q9, .inr (2, [.ref (n10 0)])), (q11, .inr (6, [.ref (n12 0), .ref (n12 1), .ref (n12 2)])), (q13, .inl (cy 0, 6, .inl (fun _ => 0)))]) ++ ((((((([] : va_W) ++ nw_X10 cy n2) ++ nw_X5 cy n4) ++ nw_X7 cy n6 q1 q3) ++ nw_X7 cy n8 q1 q3) ++ nw_X2 cy n10) ++ nw_X6 cy n12)) := hD
  refine va_putF (D := D) (ci := 11) (v := .ref q13) (ty := tyX11 6) (C := RX11) (T := TX11) (N := 8) hx hb hts inlX11 tyX11 tyX11_ok nmX11 hown hK hP hD hS k0 (c_thisZ h0e) rfl 6 (by decide) (hts _ q2_11) (fun _ h => h) rfl hin rfl (tyX11_ok 6 (by decide)) rfl rfl (Nat.le_of_ble_eq_true rfl) dX11_init_91 (fun H locs hP hD hS => ?_)
  rw [c_setTZ h0e] at hP hD
  have hP : va_P D g_cl ((ws.set k0 (h0, .inr (11, [.ref q1, .ref q3, .ref q5, .ref q7, .ref q9, .ref q11, .ref q13, .null])) ++ [(q1, .inr (10, [.ref (n2 0), .int 1])), (q3, .inr (5, [.ref (n4 0), .ref (n4 1), .ref (n4 2), .int 0])), (q5, .inr (7, [.ref (n6.1 0), .ref (n6.1 1), .ref (n6.1 2), .ref q1, .ref q3, .int 0, .int 0, .int 0, .int 0, .int 0, .int (-1), .int 0])), (q7, .inr (7, [.ref (n8.1 0), .ref (n8.1 1), .ref (n8.1 2), .ref q1, .ref q3, .int 0, .int 0, .int 0, .int 0, .int 0, .int (-1), .int 0])), (q9, .inr (2, [.ref (n10 0)])), (q11, .inr (6, [.ref (n12 0), .ref (n12 1), .ref (n12 2)])), (q13, .inl (cy 0, 6, .inl (fun _ => 0)))]) ++ ((((((([] : va_W) ++ nw_X10 cy n2) ++ nw_X5 cy n4) ++ nw_X7 cy n6 q1 q3) ++ nw_X7 cy n8 q1 q3) ++ nw_X2 cy n10) ++ nw_X6 cy n12)) H := hP
  have hD : va_D (fun q => z0 ≤ q) ((ws.set k0 (h0, .inr (11, [.ref q1, .ref q3, .ref q5, .ref q7, .ref q9, .ref q11, .ref q13, .null])) ++ [(q1, .inr (10, [.ref (n2 0), .int 1])), (q3, .inr (5, [.ref (n4 0), .ref (n4 1), .ref (n4 2), .int 0])), (q5, .inr (7, [.ref (n6.1 0), .ref (n6.1 1), .ref (n6.1 2), .ref q1, .ref q3, .int 0, .int 0, .int 0, .int 0, .int 0, .int (-1), .int 0])), (q7, .inr (7, [.ref (n8.1 0), .ref (n8.1 1), .ref (n8.1 2), .ref q1, .ref q3, .int 0, .int 0, .int 0, .int 0, .int 0, .int (-1), .int 0])), (q9, .inr (2, [.ref (n10 0)])), (q11, .inr (6, [.ref (n12 0), .ref (n12 1), .ref (n12 2)])), (q13, .inl (cy 0, 6, .inl (fun _ => 0)))]) ++ ((((((([] : va_W) ++ nw_X10 cy n2) ++ nw_X5 cy n4) ++ nw_X7 cy n6 q1 q3) ++ nw_X7 cy n8 q1 q3) ++ nw_X2 cy n10) ++ nw_X6 cy n12)) := hD
  refine lv_aload_n hx hb dX11_init_94 rfl (lv_at hl 0 rfl) ?_
  refine lv_bipush (v := 6) hx hb dX11_init_95 (by decide) ?_
  refine c_newi (N := 6) hx hb hts hK hP hD hS hA (by decide) (by decide) (by decide) (Nat.le_of_ble_eq_true rfl) (Nat.le_of_ble_eq_true rfl) dX11_init_97 (fun q14 H hP hD hS => ?_)
  have hP := hP.swap
  have hD := hD.swap
  rw [c_as] at hP hD
  have hP : va_P D g_cl ((ws.set k0 (h0, .inr (11, [.ref q1, .ref q3, .ref q5, .ref q7, .ref q9, .ref q11, .ref q13, .null])) ++ [(q1, .inr (10, [.ref (n2 0), .int 1])), (q3, .inr (5, [.ref (n4 0), .ref (n4 1), .ref (n4 2), .int 0])), (q5, .inr (7, [.ref (n6.1 0), .ref (n6.1 1), .ref (n6.1 2), .ref q1, .ref q3, .int 0, .int 0, .int 0, .int 0, .int 0, .int (-1), .int 0])), (q7, .inr (7, [.ref (n8.1 0), .ref (n8.1 1), .ref (n8.1 2), .ref q1, .ref q3, .int 0, .int 0, .int 0, .int 0, .int 0, .int (-1), .int 0])), (q9, .inr (2, [.ref (n10 0)])), (q11, .inr (6, [.ref (n12 0), .ref (n12 1), .ref (n12 2)])), (q13, .inl (cy 0, 6, .inl (fun _ => 0))), (q14, .inl (cy 0, 6, .inl (fun _ => 0)))]) ++ ((((((([] : va_W) ++ nw_X10 cy n2) ++ nw_X5 cy n4) ++ nw_X7 cy n6 q1 q3) ++ nw_X7 cy n8 q1 q3) ++ nw_X2 cy n10) ++ nw_X6 cy n12)) H := hP
  have hD : va_D (fun q => z0 ≤ q) ((ws.set k0 (h0, .inr (11, [.ref q1, .ref q3, .ref q5, .ref q7, .ref q9, .ref q11, .ref q13, .null])) ++ [(q1, .inr (10, [.ref (n2 0), .int 1])), (q3, .inr (5, [.ref (n4 0), .ref (n4 1), .ref (n4 2), .int 0])), (q5, .inr (7, [.ref (n6.1 0), .ref (n6.1 1), .ref (n6.1 2), .ref q1, .ref q3, .int 0, .int 0, .int 0, .int 0, .int 0, .int (-1), .int 0])), (q7, .inr (7, [.ref (n8.1 0), .ref (n8.1 1), .ref (n8.1 2), .ref q1, .ref q3, .int 0, .int 0, .int 0, .int 0, .int 0, .int (-1), .int 0])), (q9, .inr (2, [.ref (n10 0)])), (q11, .inr (6, [.ref (n12 0), .ref (n12 1), .ref (n12 2)])), (q13, .inl (cy 0, 6, .inl (fun _ => 0))), (q14, .inl (cy 0, 6, .inl (fun _ => 0)))]) ++ ((((((([] : va_W) ++ nw_X10 cy n2) ++ nw_X5 cy n4) ++ nw_X7 cy n6 q1 q3) ++ nw_X7 cy n8 q1 q3) ++ nw_X2 cy n10) ++ nw_X6 cy n12)) := hD
  refine va_putF (D := D) (ci := 11) (v := .ref q14) (ty := tyX11 7) (C := RX11) (T := TX11) (N := 8) hx hb hts inlX11 tyX11 tyX11_ok nmX11 hown hK hP hD hS k0 (c_thisZ h0e) rfl 7 (by decide) (hts _ q2_12) (fun _ h => h) rfl hin rfl (tyX11_ok 7 (by decide)) rfl rfl (Nat.le_of_ble_eq_true rfl) dX11_init_99 (fun H locs hP hD hS => ?_)
  rw [c_setTZ h0e] at hP hD
  have hP : va_P D g_cl ((ws.set k0 (h0, .inr (11, [.ref q1, .ref q3, .ref q5, .ref q7, .ref q9, .ref q11, .ref q13, .ref q14])) ++ [(q1, .inr (10, [.ref (n2 0), .int 1])), (q3, .inr (5, [.ref (n4 0), .ref (n4 1), .ref (n4 2), .int 0])), (q5, .inr (7, [.ref (n6.1 0), .ref (n6.1 1), .ref (n6.1 2), .ref q1, .ref q3, .int 0, .int 0, .int 0, .int 0, .int 0, .int (-1), .int 0])), (q7, .inr (7, [.ref (n8.1 0), .ref (n8.1 1), .ref (n8.1 2), .ref q1, .ref q3, .int 0, .int 0, .int 0, .int 0, .int 0, .int (-1), .int 0])), (q9, .inr (2, [.ref (n10 0)])), (q11, .inr (6, [.ref (n12 0), .ref (n12 1), .ref (n12 2)])), (q13, .inl (cy 0, 6, .inl (fun _ => 0))), (q14, .inl (cy 0, 6, .inl (fun _ => 0)))]) ++ ((((((([] : va_W) ++ nw_X10 cy n2) ++ nw_X5 cy n4) ++ nw_X7 cy n6 q1 q3) ++ nw_X7 cy n8 q1 q3) ++ nw_X2 cy n10) ++ nw_X6 cy n12)) H := hP
  have hD : va_D (fun q => z0 ≤ q) ((ws.set k0 (h0, .inr (11, [.ref q1, .ref q3, .ref q5, .ref q7, .ref q9, .ref q11, .ref q13, .ref q14])) ++ [(q1, .inr (10, [.ref (n2 0), .int 1])), (q3, .inr (5, [.ref (n4 0), .ref (n4 1), .ref (n4 2), .int 0])), (q5, .inr (7, [.ref (n6.1 0), .ref (n6.1 1), .ref (n6.1 2), .ref q1, .ref q3, .int 0, .int 0, .int 0, .int 0, .int 0, .int (-1), .int 0])), (q7, .inr (7, [.ref (n8.1 0), .ref (n8.1 1), .ref (n8.1 2), .ref q1, .ref q3, .int 0, .int 0, .int 0, .int 0, .int 0, .int (-1), .int 0])), (q9, .inr (2, [.ref (n10 0)])), (q11, .inr (6, [.ref (n12 0), .ref (n12 1), .ref (n12 2)])), (q13, .inl (cy 0, 6, .inl (fun _ => 0))), (q14, .inl (cy 0, 6, .inl (fun _ => 0)))]) ++ ((((((([] : va_W) ++ nw_X10 cy n2) ++ nw_X5 cy n4) ++ nw_X7 cy n6 q1 q3) ++ nw_X7 cy n8 q1 q3) ++ nw_X2 cy n10) ++ nw_X6 cy n12)) := hD
  exact W.vret hx hb hr (fun t ht hW => ⟨⟨((fun k => ([q1, q3, q5, q7, q9, q11, q13, q14] : List Nat).getD k 0), n2, n4, n6, n8, n10, n12), rfl, trivial, by show va_P D g_cl _ t.heap; rw [ht]; unfold nw_X11; rw [← List.append_assoc]; exact hP, by unfold nw_X11; rw [← List.append_assoc]; exact hD⟩, hS.F ht⟩) hS.2.2 dX11_init_102 hlocks
