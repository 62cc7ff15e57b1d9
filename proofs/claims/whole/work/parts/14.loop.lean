/-- what stands all along the law's loop -/
def lw_Cx (p : Program) (l : Launch) (s : State) (m : MethodId) (meth : Method) (c : Code) (b L : Nat) (xs : Nat → Int32) (G : GP) : Prop :=
  p.tables.exec = Jvm.exec ∧ c.code = code ∧ meth.sig.returnType = ret ∧ c.maxLocals = 7 ∧ s.vm.findClass RL = some m.cls ∧ (∀ w ∈ wsL_law, w.before #[Value.ref b] s = true) ∧ va_X b L xs s s.heap ∧ b < s.heap.size ∧ meth.locks = false ∧ g_sc G s ∧ l.stackTraces = false ∧ G.2.2.1 = s.heap.size
theorem y_calli {p : Program} {l : Launch} {e : Env} {R : Room} {s : State} {m : MethodId} {args : Array Value} {below : List Frame} {meth : Method} {c : Code} {H : Heap} {locs : List Loc} {Q : State → Prop} {pc : Nat} {ls : Array Slot} {rest st0 : List Value} {G : GP} {a : Array Value} {v : SM × SM × SL} {nc ns : Nat} {r0 : Int32} (hr : va_Run p l e R s m args below meth c H locs nc ns 1 6 (F0 m pc ls st0) rest (va_Qi (fun r u' => r = r0 ∧ u' = v) (g_pw G) (g_A G) a) (g_A G)) (hS : va_S (g_A G) s.heap H locs)
    (kk : ∀ (H1 : Heap) (locs1 : List Loc), va_P G.1 g_cl (wd G (cb v.1 v.2.1) v.2.2) H1 → va_S (g_A G) s.heap H1 locs1 → W p l e R s m args below meth c H1 locs1 (nc + 1) (ns + 6) Q (F0 m (pc + 3) ls (.int r0 :: rest))) : W p l e R s m args below meth c H locs nc ns Q (F0 m pc ls st0) :=
  va_calli hr hS (fun _ _ h => h) (fun _ h => h) (fun r u t H1 locs1 ht hvm hw hB hz1 hk1 hS1 => by obtain ⟨rfl, rfl⟩ := hw; rw [← ht] at hS1 ⊢; exact kk t.heap locs1 hB.2 hS1)
theorem wz_SW {own : String} {idx : Nat} {y : MethodName} {cc : ByteArray} {n : Nat} {r : Option FieldType} {hh : List (Nat × Nat × Nat × Nat)} (h1 : Cond.methodLink own idx y ∈ wsL_law) (h2 : Cond.static y ∈ wsL_law) (h4 : Cond.initialized y.cls ∈ wsL_law) (h5 : Cond.codeWith y cc n r hh ∈ wsL_law) : GoodIn wsL_law (va_wsS own idx y (wzh y cc n r hh)) := tw_in (fun _ h => h) (fun w hw => by
  rcases List.mem_append.mp hw with h | h
  · simp only [List.mem_cons, List.not_mem_nil, or_false] at h
    rcases h with rfl | rfl | rfl <;> assumption
  · rcases List.mem_cons.mp h with h | h
    · rw [h]; exact h5
    · exact h)
theorem gdw_ahead : GoodIn wsL_law (va_wsS RL 145 yL_ahead (wzh yL_ahead cL_ahead 6 (some .int) [(0, 12, 15, 13)])) := wz_SW q43_7 q43_8 q29_20 q43_9
theorem gdw_cell : GoodIn wsL_law (va_wsS RL 103 yL_cell (wzh yL_cell cL_cell 5 (some .int) [(0, 10, 13, 13)])) := wz_SW q31_7 q31_8 q29_20 q31_9
theorem gdw_code : GoodIn wsL_law (va_wsS RL 106 yL_code (wzh yL_code cL_code 6 (some .int) [(0, 12, 15, 13)])) := wz_SW q31_19 q31_20 q29_20 q31_21
theorem gdw_register : GoodIn wsL_law (va_wsS RL 99 yL_register (wzh yL_register cL_register 5 (some .int) [(0, 10, 13, 13)])) := wz_SW q30_20 q30_21 q29_20 q30_22
theorem gdw_set : GoodIn wsL_law (va_wsS RL 90 yL_set (wzh yL_set cL_set 6 (some .int) [(0, 12, 15, 13)])) := wz_SW q29_18 q29_19 q29_20 q29_21
theorem gd_L_102 : GoodIn wsL_law (wsV RL 102 RX12 yX12_register (wz yX12_register cX12_register 3 (some .int))) := wz_V q31_3 q31_4 q31_5 q1_5 q31_6
theorem gd_L_105 : GoodIn wsL_law (wsV RL 105 RX12 yX12_cell (wz yX12_cell cX12_cell 3 (some .int))) := wz_V q31_15 q31_16 q31_17 q1_5 q31_18
theorem gd_L_108 : GoodIn wsL_law (wsV RL 108 RX12 yX12_code (wz yX12_code cX12_code 4 (some .int))) := wz_V q32_12 q32_13 q32_14 q1_5 q32_15
theorem gd_L_109 : GoodIn wsL_law (wsV RL 109 RX11 yX11_thread (wz yX11_thread cX11_thread 4 (some .int))) := wz_V q32_16 q32_17 q32_18 q1_2 q32_19
theorem gd_L_112 : GoodIn wsL_law (wsV RL 112 RX12 yX12_thread (wz yX12_thread cX12_thread 3 (some .int))) := wz_V q33_6 q33_7 q33_8 q1_5 q33_9
theorem gd_L_113 : GoodIn wsL_law (wsV RL 113 RX11 yX11_level (wz yX11_level cX11_level 3 (some .int))) := wz_V q33_10 q33_11 q33_12 q1_2 q33_13
theorem gd_L_116 : GoodIn wsL_law (wsV RL 116 RX12 yX12_level (wz yX12_level cX12_level 3 (some .int))) := wz_V q33_16 q33_17 q33_18 q1_5 q33_19
theorem gd_L_117 : GoodIn wsL_law (wsV RL 117 RX11 yX11_edge (wz yX11_edge cX11_edge 3 (some .int))) := wz_V q33_20 q33_21 q33_22 q1_2 q33_23
theorem gd_L_120 : GoodIn wsL_law (wsV RL 120 RX12 yX12_edge (wz yX12_edge cX12_edge 3 (some .int))) := wz_V q34_5 q34_6 q34_7 q1_5 q34_8
theorem gd_L_121 : GoodIn wsL_law (wsV RL 121 RX11 yX11_channel (wz yX11_channel cX11_channel 3 (some .int))) := wz_V q34_9 q34_10 q34_11 q1_2 q34_12
theorem gd_L_124 : GoodIn wsL_law (wsV RL 124 RX12 yX12_channel (wz yX12_channel cX12_channel 5 (some .int))) := wz_V q34_23 q35_0 q35_1 q1_5 q35_2
theorem gd_L_125 : GoodIn wsL_law (wsV RL 125 RX11 yX11_table (wz yX11_table cX11_table 2 (some .int))) := wz_V q35_3 q35_4 q35_5 q1_2 q35_6
theorem gd_L_128 : GoodIn wsL_law (wsV RL 128 RX12 yX12_table (wz yX12_table cX12_table 2 (some .int))) := wz_V q35_7 q35_8 q35_9 q1_5 q35_10
theorem gd_L_129 : GoodIn wsL_law (wsV RL 129 RX11 yX11_bound (wz yX11_bound cX11_bound 7 (some .int))) := wz_V q35_11 q35_12 q35_13 q1_2 q35_14
theorem gd_L_132 : GoodIn wsL_law (wsV RL 132 RX12 yX12_bound (wz yX12_bound cX12_bound 5 (some .int))) := wz_V q38_1 q38_2 q38_3 q1_5 q38_4
theorem gd_L_133 : GoodIn wsL_law (wsV RL 133 RX11 yX11_span (wz yX11_span cX11_span 4 (some .int))) := wz_V q40_4 q40_5 q40_6 q1_2 q40_7
theorem gd_L_136 : GoodIn wsL_law (wsV RL 136 RX12 yX12_span (wz yX12_span cX12_span 4 (some .int))) := wz_V q40_8 q40_9 q40_10 q1_5 q40_11
theorem gd_L_137 : GoodIn wsL_law (wsV RL 137 RX11 yX11_will (wz yX11_will cX11_will 3 (some .int))) := wz_V q40_12 q40_13 q40_14 q1_2 q40_15
theorem gd_L_140 : GoodIn wsL_law (wsV RL 140 RX12 yX12_will (wz yX12_will cX12_will 4 (some .int))) := wz_V q42_7 q42_8 q42_9 q1_5 q42_10
theorem gd_L_141 : GoodIn wsL_law (wsV RL 141 RX11 yX11_alone (wz yX11_alone cX11_alone 4 (some .int))) := wz_V q42_23 q43_0 q43_1 q1_2 q43_2
theorem gd_L_144 : GoodIn wsL_law (wsV RL 144 RX12 yX12_alone (wz yX12_alone cX12_alone 5 (some .int))) := wz_V q43_3 q43_4 q43_5 q1_5 q43_6
theorem gd_L_147 : GoodIn wsL_law (wsV RL 147 RX12 yX12_ahead (wz yX12_ahead cX12_ahead 5 (some .int))) := wz_V q43_14 q43_15 q43_16 q1_5 q43_17
theorem gd_L_148 : GoodIn wsL_law (wsV RL 148 RX11 yX11_share (wz yX11_share cX11_share 2 (some .int))) := wz_V q43_18 q43_19 q43_20 q1_2 q43_21
theorem gd_L_151 : GoodIn wsL_law (wsV RL 151 RX12 yX12_share (wz yX12_share cX12_share 2 (some .int))) := wz_V q43_23 q44_0 q44_1 q1_5 q44_2
theorem gd_L_152 : GoodIn wsL_law (wsV RL 152 RX11 yX11_count (wz yX11_count cX11_count 2 (some .int))) := wz_V q44_3 q44_4 q44_5 q1_2 q44_6
theorem gd_L_155 : GoodIn wsL_law (wsV RL 155 RX12 yX12_count (wz yX12_count cX12_count 2 (some .int))) := wz_V q45_1 q45_2 q45_3 q1_5 q45_4
theorem gd_L_32 : GoodIn wsL_law (wsV RL 32 RX11 yX11_tell (wz yX11_tell cX11_tell 7 (some .int))) := wz_V q7_17 q7_18 q7_19 q1_2 q7_20
theorem gd_L_36 : GoodIn wsL_law (wsV RL 36 RX12 yX12_tell (wz yX12_tell cX12_tell 7 (some .int))) := wz_V q8_14 q8_15 q8_16 q1_5 q8_17
theorem gd_L_37 : GoodIn wsL_law (wsV RL 37 RX11 yX11_wipe (wz yX11_wipe cX11_wipe 2 (some .int))) := wz_V q9_4 q9_5 q9_6 q1_2 q9_7
theorem gd_L_41 : GoodIn wsL_law (wsV RL 41 RX12 yX12_wipe (wz yX12_wipe cX12_wipe 3 (some .int))) := wz_V q10_9 q10_10 q10_11 q1_5 q10_12
theorem gd_L_42 : GoodIn wsL_law (wsV RL 42 RX11 yX11_memory (wz yX11_memory cX11_memory 5 (some .int))) := wz_V q10_21 q10_22 q10_23 q1_2 q11_0
theorem gd_L_45 : GoodIn wsL_law (wsV RL 45 RX12 yX12_memory (wz yX12_memory cX12_memory 5 (some .int))) := wz_V q11_4 q11_5 q11_6 q1_5 q11_7
theorem gd_L_46 : GoodIn wsL_law (wsV RL 46 RX11 yX11_hard (wz yX11_hard cX11_hard 3 (some .boolean))) := wz_V q11_8 q11_9 q11_10 q1_2 q11_11
theorem gd_L_50 : GoodIn wsL_law (wsV RL 50 RX12 yX12_hard (wz yX12_hard cX12_hard 3 (some .boolean))) := wz_V q11_13 q11_14 q11_15 q1_5 q11_16
theorem gd_L_51 : GoodIn wsL_law (wsV RL 51 RX11 yX11_pin (wz yX11_pin cX11_pin 3 (some .boolean))) := wz_V q11_17 q11_18 q11_19 q1_2 q11_20
theorem gd_L_54 : GoodIn wsL_law (wsV RL 54 RX12 yX12_pin (wz yX12_pin cX12_pin 5 (some .boolean))) := wz_V q12_4 q12_5 q12_6 q1_5 q12_7
theorem gd_L_55 : GoodIn wsL_law (wsV RL 55 RX11 yX11_event (wz yX11_event cX11_event 4 (some .int))) := wz_V q12_8 q12_9 q12_10 q1_2 q12_11
theorem gd_L_59 : GoodIn wsL_law (wsV RL 59 RX12 yX12_event (wz yX12_event cX12_event 4 (some .int))) := wz_V q12_23 q13_0 q13_1 q1_5 q13_2
theorem gd_L_60 : GoodIn wsL_law (wsV RL 60 RX11 yX11_slots (wz yX11_slots cX11_slots 2 (some .int))) := wz_V q13_5 q13_6 q13_7 q1_2 q13_8
theorem gd_L_63 : GoodIn wsL_law (wsV RL 63 RX12 yX12_slots (wz yX12_slots cX12_slots 4 (some .int))) := wz_V q13_13 q13_14 q13_15 q1_5 q13_16
theorem gd_L_64 : GoodIn wsL_law (wsV RL 64 RX11 yX11_slot (wz yX11_slot cX11_slot 3 (some .boolean))) := wz_V q13_17 q13_18 q13_19 q1_2 q13_20
theorem gd_L_68 : GoodIn wsL_law (wsV RL 68 RX12 yX12_slot (wz yX12_slot cX12_slot 3 (some .boolean))) := wz_V q14_2 q14_3 q14_4 q1_5 q14_5
theorem gd_L_69 : GoodIn wsL_law (wsV RL 69 RX11 yX11_due (wz yX11_due cX11_due 4 (some .int))) := wz_V q14_6 q14_7 q14_8 q1_2 q14_9
theorem gd_L_72 : GoodIn wsL_law (wsV RL 72 RX12 yX12_due (wz yX12_due cX12_due 4 (some .int))) := wz_V q14_10 q14_11 q14_12 q1_5 q14_13
theorem gd_L_73 : GoodIn wsL_law (wsV RL 73 RX11 yX11_asks (wz yX11_asks cX11_asks 4 (some .int))) := wz_V q14_14 q14_15 q14_16 q1_2 q14_17
theorem gd_L_76 : GoodIn wsL_law (wsV RL 76 RX12 yX12_asks (wz yX12_asks cX12_asks 4 (some .int))) := wz_V q14_18 q14_19 q14_20 q1_5 q14_21
theorem gd_L_77 : GoodIn wsL_law (wsV RL 77 RX11 yX11_found (wz yX11_found cX11_found 1 (some .int))) := wz_V q14_22 q14_23 q15_0 q1_2 q15_1
theorem gd_L_81 : GoodIn wsL_law (wsV RL 81 RX12 yX12_found (wz yX12_found cX12_found 4 (some .int))) := wz_V q16_9 q16_10 q16_11 q1_5 q16_12
theorem gd_L_82 : GoodIn wsL_law (wsV RL 82 RX11 yX11_start (wz yX11_start cX11_start 2 (some .int))) := wz_V q17_6 q17_7 q17_8 q1_2 q17_9
theorem gd_L_85 : GoodIn wsL_law (wsV RL 85 RX12 yX12_start (wz yX12_start cX12_start 2 (some .int))) := wz_V q18_19 q18_20 q18_21 q1_5 q18_22
theorem gd_L_86 : GoodIn wsL_law (wsV RL 86 RX11 yX11_run (wz yX11_run cX11_run 4 (some .int))) := wz_V q18_23 q19_0 q19_1 q1_2 q19_2
theorem gd_L_89 : GoodIn wsL_law (wsV RL 89 RX12 yX12_run (wz yX12_run cX12_run 4 (some .int))) := wz_V q26_13 q26_14 q26_15 q1_5 q26_16
theorem gd_L_95 : GoodIn wsL_law (wsV RL 95 RX12 yX12_set (wz yX12_set cX12_set 5 (some .int))) := wz_V q30_8 q30_9 q30_10 q1_5 q30_11
theorem gd_L_96 : GoodIn wsL_law (wsV RL 96 RX12 yX12_thrown (wz yX12_thrown cX12_thrown 1 (some .int))) := wz_V q30_16 q30_17 q30_18 q1_5 q30_19
def wb_L_law_172 (xs : Nat → Int32) (L : Nat) (k23 : Int32 → SM → SM → SL → Option Int32) (x4 : Int32) (X : SM) (M : SM) (τ : SL) : Option Int32 :=
  if g_in (x4 + 1) L then
  if g_in (x4 + 2) L then
  if g_in (x4 + 3) L then
  if g_in (x4 + 4) L then
  if g_in (x4 + 5) L then
  (fn_X11_tell (xs ((x4 + 1).toNatClampNeg)) (xs ((x4 + 2).toNatClampNeg)) (xs ((x4 + 3).toNatClampNeg)) (xs ((x4 + 4).toNatClampNeg)) (xs ((x4 + 5).toNatClampNeg)) X).bind fun (r_401, X_402) =>
  if g_in (x4 + 1) L then
  if g_in (x4 + 2) L then
  if g_in (x4 + 3) L then
  if g_in (x4 + 4) L then
  if g_in (x4 + 5) L then
  (fn_X12_tell (xs ((x4 + 1).toNatClampNeg)) (xs ((x4 + 2).toNatClampNeg)) (xs ((x4 + 3).toNatClampNeg)) (xs ((x4 + 4).toNatClampNeg)) (xs ((x4 + 5).toNatClampNeg)) M).bind fun (r_409, M_410) =>
  if r_401 = r_409 then
  (g_let (x4 + 6) fun x4_413 =>
    k23 x4_413 X_402 M_410 τ)
  else
  (some 0)
  else none
  else none
  else none
  else none
  else none
  else none
  else none
  else none
  else none
  else none
set_option maxRecDepth 100000 in
set_option maxHeartbeats 4000000 in
theorem bk_L_law_172 {p : Program} {l : Launch} {e : Env} {s : State} {m : MethodId} {below : List Frame} {meth : Method} {c : Code} {G : GP} {b L : Nat} {xs : Nat → Int32} (C0 : lw_Cx p l s m meth c b L xs G) {nc ns : Nat} (hn : nc + 1 ≤ 601024 ∧ ns + 6 ≤ 7293034) (k23 : Int32 → SM → SM → SL → Option Int32) (hk23 : ∀ (x4 : Int32) (X M : SM) (τ : SL), k23 x4 X M τ = some 1 → ∀ {d : Drawn} (_ : s.drawn.sameBut d lw_cs) {H : Heap} {locs : List Loc}, va_P G.1 g_cl (wd G (cb X M) τ) H → va_S (g_A G) s.heap H locs → ∀ {ls : Array Slot}, lv_has ls 7 [(0, .ref b), (1, .ref (G.2.1 11 0)), (2, .ref (G.2.1 39 0)), (3, .ref (G.2.1 58 0)), (4, .int x4)] → W p l e room_1 (s.setDrawn d) m #[Value.ref b] below meth c H locs (nc + 1) (ns + 6) (lw_Z below #[Value.ref b] s) (F0 m 23 ls [])) (x4 : Int32) (X M : SM) (τ : SL) (hf : wb_L_law_172 xs L k23 x4 X M τ = some 1) {d : Drawn} (hd : s.drawn.sameBut d lw_cs) {H : Heap} {locs : List Loc} (hP : va_P G.1 g_cl (wd G (cb X M) τ) H) (hS : va_S (g_A G) s.heap H locs) {ls : Array Slot} (hl : lv_has ls 7 [(0, .ref b), (1, .ref (G.2.1 11 0)), (2, .ref (G.2.1 39 0)), (3, .ref (G.2.1 58 0)), (4, .int x4)]) : W p l e room_1 (s.setDrawn d) m #[Value.ref b] below meth c H locs nc ns (lw_Z below #[Value.ref b] s) (F0 m 172 ls []) := by
  obtain ⟨hx, hb, hr, hml, hown, hts0, hX0, hbl, hlocks, hC0, hlt, hz0⟩ := id C0
  have hts := dr_words hts0 d
  have hC := hC0.dr d
  have hX : va_X b L xs (s.setDrawn d) s.heap := hX0
  have hbA : ¬ g_A G b := by show ¬ G.2.2.1 ≤ b; omega
  have hcs : nc + 1 ≤ room_1.cells ∧ ns + 6 ≤ room_1.slots := hn
  have hcz : nc + 0 ≤ room_1.cells ∧ ns + 0 ≤ room_1.slots := ⟨Nat.le_trans (Nat.le_succ _) hn.1, Nat.le_trans (Nat.le_add_right _ 6) hn.2⟩
  have hcy : nc + 1 + 0 ≤ room_1.cells ∧ ns + 6 + 0 ≤ room_1.slots := hn
  unfold wb_L_law_172 at hf
  refine lv_aload_n hx hb dL_law_172 rfl (lv_at hl 1 rfl) ?_
  refine lv_aload_n hx hb dL_law_173 rfl (lv_at hl 0 rfl) ?_
  refine lv_iload hx hb dL_law_174 (lv_at hl 4 rfl) ?_
  refine lv_iconst (v := 1) hx hb dL_law_176 (by decide) ?_
  refine lv_iadd hx hb dL_law_177 ?_
  obtain ⟨hg_396, hf⟩ := g_gd hf
  refine va_sld (A := g_A G) hx hb hX hbl hbA hS hg_396 dL_law_178 ?_
  refine lv_aload_n hx hb dL_law_179 rfl (lv_at hl 0 rfl) ?_
  refine lv_iload hx hb dL_law_180 (lv_at hl 4 rfl) ?_
  refine lv_iconst (v := 2) hx hb dL_law_182 (by decide) ?_
  refine lv_iadd hx hb dL_law_183 ?_
  obtain ⟨hg_397, hf⟩ := g_gd hf
  refine va_sld (A := g_A G) hx hb hX hbl hbA hS hg_397 dL_law_184 ?_
  refine lv_aload_n hx hb dL_law_185 rfl (lv_at hl 0 rfl) ?_
  refine lv_iload hx hb dL_law_186 (lv_at hl 4 rfl) ?_
  refine lv_iconst (v := 3) hx hb dL_law_188 (by decide) ?_
  refine lv_iadd hx hb dL_law_189 ?_
  obtain ⟨hg_398, hf⟩ := g_gd hf
  refine va_sld (A := g_A G) hx hb hX hbl hbA hS hg_398 dL_law_190 ?_
  refine lv_aload_n hx hb dL_law_191 rfl (lv_at hl 0 rfl) ?_
  refine lv_iload hx hb dL_law_192 (lv_at hl 4 rfl) ?_
  refine lv_iconst (v := 4) hx hb dL_law_194 (by decide) ?_
  refine lv_iadd hx hb dL_law_195 ?_
  obtain ⟨hg_399, hf⟩ := g_gd hf
  refine va_sld (A := g_A G) hx hb hX hbl hbA hS hg_399 dL_law_196 ?_
  refine lv_aload_n hx hb dL_law_197 rfl (lv_at hl 0 rfl) ?_
  refine lv_iload hx hb dL_law_198 (lv_at hl 4 rfl) ?_
  refine lv_iconst (v := 5) hx hb dL_law_200 (by decide) ?_
  refine lv_iadd hx hb dL_law_201 ?_
  obtain ⟨hg_400, hf⟩ := g_gd hf
  refine va_sld (A := g_A G) hx hb hX hbl hbA hS hg_400 dL_law_202 ?_
  obtain ⟨⟨r_401, X_402⟩, hc_403, hf⟩ := g_bindE hf
  refine x_calli (v := (X_402, M, τ)) (va_runV (As := [.int (xs ((x4 + 1).toNatClampNeg)), .int (xs ((x4 + 2).toNatClampNeg)), .int (xs ((x4 + 3).toNatClampNeg)), .int (xs ((x4 + 4).toNatClampNeg)), .int (xs ((x4 + 5).toNatClampNeg))]) (rest := []) ⟨hx, hb, hml, hown, hts⟩ (ct_X11_tell l G X M τ (xs ((x4 + 1).toNatClampNeg)) (xs ((x4 + 2).toNatClampNeg)) (xs ((x4 + 3).toNatClampNeg)) (xs ((x4 + 4).toNatClampNeg)) (xs ((x4 + 5).toNatClampNeg)) hc_403) (cwV 5 hts gd_L_32 rfl rfl rfl hd_X11_tell ⟨Nat.le_of_ble_eq_true rfl, Nat.le_of_ble_eq_true rfl⟩) (x_preV (u := (X, M, τ)) (k := 11) (ci := 11) hC hS hP Nat.zero_lt_one rfl rfl) rfl rfl hl.1 rfl (lv_room (Nat.le_of_ble_eq_true rfl)) dL_law_203 hcz) hS (fun H locs hP hS => ?_)
  refine lv_aload_n hx hb dL_law_206 rfl (lv_at hl 2 rfl) ?_
  refine lv_aload_n hx hb dL_law_207 rfl (lv_at hl 0 rfl) ?_
  refine lv_iload hx hb dL_law_208 (lv_at hl 4 rfl) ?_
  refine lv_iconst (v := 1) hx hb dL_law_210 (by decide) ?_
  refine lv_iadd hx hb dL_law_211 ?_
  obtain ⟨hg_404, hf⟩ := g_gd hf
  refine va_sld (A := g_A G) hx hb hX hbl hbA hS hg_404 dL_law_212 ?_
  refine lv_aload_n hx hb dL_law_213 rfl (lv_at hl 0 rfl) ?_
  refine lv_iload hx hb dL_law_214 (lv_at hl 4 rfl) ?_
  refine lv_iconst (v := 2) hx hb dL_law_216 (by decide) ?_
  refine lv_iadd hx hb dL_law_217 ?_
  obtain ⟨hg_405, hf⟩ := g_gd hf
  refine va_sld (A := g_A G) hx hb hX hbl hbA hS hg_405 dL_law_218 ?_
  refine lv_aload_n hx hb dL_law_219 rfl (lv_at hl 0 rfl) ?_
  refine lv_iload hx hb dL_law_220 (lv_at hl 4 rfl) ?_
  refine lv_iconst (v := 3) hx hb dL_law_222 (by decide) ?_
  refine lv_iadd hx hb dL_law_223 ?_
  obtain ⟨hg_406, hf⟩ := g_gd hf
  refine va_sld (A := g_A G) hx hb hX hbl hbA hS hg_406 dL_law_224 ?_
  refine lv_aload_n hx hb dL_law_225 rfl (lv_at hl 0 rfl) ?_
  refine lv_iload hx hb dL_law_226 (lv_at hl 4 rfl) ?_
  refine lv_iconst (v := 4) hx hb dL_law_228 (by decide) ?_
  refine lv_iadd hx hb dL_law_229 ?_
  obtain ⟨hg_407, hf⟩ := g_gd hf
  refine va_sld (A := g_A G) hx hb hX hbl hbA hS hg_407 dL_law_230 ?_
  refine lv_aload_n hx hb dL_law_231 rfl (lv_at hl 0 rfl) ?_
  refine lv_iload hx hb dL_law_232 (lv_at hl 4 rfl) ?_
  refine lv_iconst (v := 5) hx hb dL_law_234 (by decide) ?_
  refine lv_iadd hx hb dL_law_235 ?_
  obtain ⟨hg_408, hf⟩ := g_gd hf
  refine va_sld (A := g_A G) hx hb hX hbl hbA hS hg_408 dL_law_236 ?_
  obtain ⟨⟨r_409, M_410⟩, hc_411, hf⟩ := g_bindE hf
  refine x_calli (v := (X_402, M_410, τ)) (va_runV (As := [.int (xs ((x4 + 1).toNatClampNeg)), .int (xs ((x4 + 2).toNatClampNeg)), .int (xs ((x4 + 3).toNatClampNeg)), .int (xs ((x4 + 4).toNatClampNeg)), .int (xs ((x4 + 5).toNatClampNeg))]) (rest := [.int r_401]) ⟨hx, hb, hml, hown, hts⟩ (ct_X12_tell l G X_402 M τ (xs ((x4 + 1).toNatClampNeg)) (xs ((x4 + 2).toNatClampNeg)) (xs ((x4 + 3).toNatClampNeg)) (xs ((x4 + 4).toNatClampNeg)) (xs ((x4 + 5).toNatClampNeg)) hc_411) (cwV 5 hts gd_L_36 rfl rfl rfl hd_X12_tell ⟨Nat.le_of_ble_eq_true rfl, Nat.le_of_ble_eq_true rfl⟩) (x_preV (u := (X_402, M, τ)) (k := 39) (ci := 12) hC hS hP Nat.zero_lt_one rfl rfl) rfl rfl hl.1 rfl (lv_room (Nat.le_of_ble_eq_true rfl)) dL_law_237 hcz) hS (fun H locs hP hS => ?_)
  refine lv_icmp_eq (tgt := 1424) hx hb dL_law_240 (by decide) (fun hc_412 => ?_) (fun hc_412 => ?_)
  · have hf := g_pos hf hc_412
    obtain ⟨x4_413, ex4_413, hf⟩ := g_letE hf
    refine lv_iinc (v := x4_413) (lv' := [(4, .int x4_413), (0, .ref b), (1, .ref (G.2.1 11 0)), (2, .ref (G.2.1 39 0)), (3, .ref (G.2.1 58 0))]) hx hb dL_law_1424 hl (k := 4) rfl (by rw [← ex4_413]; rfl) (by decide) rfl (fun ls hl => ?_)
    refine lv_goto (tgt := 23) hx hb dL_law_1427 (by decide) ?_
    refine W.widen (k := nc + 1) (n := ns + 6) (Nat.le_succ _) (Nat.le_add_right _ 6) ?_
    exact hk23 x4_413 X_402 M_410 τ hf hd hP hS (lv_sub hl [1, 2, 3, 4, 0] rfl)
  · have hf := g_neg hf hc_412
    refine lv_iconst (v := 0) hx hb dL_law_243 (by decide) ?_
    cases hf
def wb_L_law_245 (xs : Nat → Int32) (L : Nat) (k23 : Int32 → SM → SM → SL → Option Int32) (x4 : Int32) (X : SM) (M : SM) (τ : SL) : Option Int32 :=
  if g_in (x4 + 1) L then
  (fn_X11_wipe (xs ((x4 + 1).toNatClampNeg)) X).bind fun (r_387, X_388) =>
  if g_in (x4 + 1) L then
  (fn_X12_wipe (xs ((x4 + 1).toNatClampNeg)) M).bind fun (r_391, M_392) =>
  if r_387 = r_391 then
  (g_let (x4 + 6) fun x4_395 =>
    k23 x4_395 X_388 M_392 τ)
  else
  (some 0)
  else none
  else none
set_option maxRecDepth 100000 in
set_option maxHeartbeats 4000000 in
theorem bk_L_law_245 {p : Program} {l : Launch} {e : Env} {s : State} {m : MethodId} {below : List Frame} {meth : Method} {c : Code} {G : GP} {b L : Nat} {xs : Nat → Int32} (C0 : lw_Cx p l s m meth c b L xs G) {nc ns : Nat} (hn : nc + 1 ≤ 601024 ∧ ns + 6 ≤ 7293034) (k23 : Int32 → SM → SM → SL → Option Int32) (hk23 : ∀ (x4 : Int32) (X M : SM) (τ : SL), k23 x4 X M τ = some 1 → ∀ {d : Drawn} (_ : s.drawn.sameBut d lw_cs) {H : Heap} {locs : List Loc}, va_P G.1 g_cl (wd G (cb X M) τ) H → va_S (g_A G) s.heap H locs → ∀ {ls : Array Slot}, lv_has ls 7 [(0, .ref b), (1, .ref (G.2.1 11 0)), (2, .ref (G.2.1 39 0)), (3, .ref (G.2.1 58 0)), (4, .int x4)] → W p l e room_1 (s.setDrawn d) m #[Value.ref b] below meth c H locs (nc + 1) (ns + 6) (lw_Z below #[Value.ref b] s) (F0 m 23 ls [])) (x4 : Int32) (X M : SM) (τ : SL) (hf : wb_L_law_245 xs L k23 x4 X M τ = some 1) {d : Drawn} (hd : s.drawn.sameBut d lw_cs) {H : Heap} {locs : List Loc} (hP : va_P G.1 g_cl (wd G (cb X M) τ) H) (hS : va_S (g_A G) s.heap H locs) {ls : Array Slot} (hl : lv_has ls 7 [(0, .ref b), (1, .ref (G.2.1 11 0)), (2, .ref (G.2.1 39 0)), (3, .ref (G.2.1 58 0)), (4, .int x4)]) : W p l e room_1 (s.setDrawn d) m #[Value.ref b] below meth c H locs nc ns (lw_Z below #[Value.ref b] s) (F0 m 245 ls []) := by
  obtain ⟨hx, hb, hr, hml, hown, hts0, hX0, hbl, hlocks, hC0, hlt, hz0⟩ := id C0
  have hts := dr_words hts0 d
  have hC := hC0.dr d
  have hX : va_X b L xs (s.setDrawn d) s.heap := hX0
  have hbA : ¬ g_A G b := by show ¬ G.2.2.1 ≤ b; omega
  have hcs : nc + 1 ≤ room_1.cells ∧ ns + 6 ≤ room_1.slots := hn
  have hcz : nc + 0 ≤ room_1.cells ∧ ns + 0 ≤ room_1.slots := ⟨Nat.le_trans (Nat.le_succ _) hn.1, Nat.le_trans (Nat.le_add_right _ 6) hn.2⟩
  have hcy : nc + 1 + 0 ≤ room_1.cells ∧ ns + 6 + 0 ≤ room_1.slots := hn
  unfold wb_L_law_245 at hf
  refine lv_aload_n hx hb dL_law_245 rfl (lv_at hl 1 rfl) ?_
  refine lv_aload_n hx hb dL_law_246 rfl (lv_at hl 0 rfl) ?_
  refine lv_iload hx hb dL_law_247 (lv_at hl 4 rfl) ?_
  refine lv_iconst (v := 1) hx hb dL_law_249 (by decide) ?_
  refine lv_iadd hx hb dL_law_250 ?_
  obtain ⟨hg_386, hf⟩ := g_gd hf
  refine va_sld (A := g_A G) hx hb hX hbl hbA hS hg_386 dL_law_251 ?_
  obtain ⟨⟨r_387, X_388⟩, hc_389, hf⟩ := g_bindE hf
  refine x_calli (v := (X_388, M, τ)) (va_runV (As := [.int (xs ((x4 + 1).toNatClampNeg))]) (rest := []) ⟨hx, hb, hml, hown, hts⟩ (ct_X11_wipe l G X M τ (xs ((x4 + 1).toNatClampNeg)) hc_389) (cwV 1 hts gd_L_37 rfl rfl rfl hd_X11_wipe ⟨Nat.le_of_ble_eq_true rfl, Nat.le_of_ble_eq_true rfl⟩) (x_preV (u := (X, M, τ)) (k := 11) (ci := 11) hC hS hP Nat.zero_lt_one rfl rfl) rfl rfl hl.1 rfl (lv_room (Nat.le_of_ble_eq_true rfl)) dL_law_252 hcz) hS (fun H locs hP hS => ?_)
  refine lv_aload_n hx hb dL_law_255 rfl (lv_at hl 2 rfl) ?_
  refine lv_aload_n hx hb dL_law_256 rfl (lv_at hl 0 rfl) ?_
  refine lv_iload hx hb dL_law_257 (lv_at hl 4 rfl) ?_
  refine lv_iconst (v := 1) hx hb dL_law_259 (by decide) ?_
  refine lv_iadd hx hb dL_law_260 ?_
  obtain ⟨hg_390, hf⟩ := g_gd hf
  refine va_sld (A := g_A G) hx hb hX hbl hbA hS hg_390 dL_law_261 ?_
  obtain ⟨⟨r_391, M_392⟩, hc_393, hf⟩ := g_bindE hf
  refine x_calli (v := (X_388, M_392, τ)) (va_runV (As := [.int (xs ((x4 + 1).toNatClampNeg))]) (rest := [.int r_387]) ⟨hx, hb, hml, hown, hts⟩ (ct_X12_wipe l G X_388 M τ (xs ((x4 + 1).toNatClampNeg)) hc_393) (cwV 1 hts gd_L_41 rfl rfl rfl hd_X12_wipe ⟨Nat.le_of_ble_eq_true rfl, Nat.le_of_ble_eq_true rfl⟩) (x_preV (u := (X_388, M, τ)) (k := 39) (ci := 12) hC hS hP Nat.zero_lt_one rfl rfl) rfl rfl hl.1 rfl (lv_room (Nat.le_of_ble_eq_true rfl)) dL_law_262 hcz) hS (fun H locs hP hS => ?_)
  refine lv_icmp_eq (tgt := 1424) hx hb dL_law_265 (by decide) (fun hc_394 => ?_) (fun hc_394 => ?_)
  · have hf := g_pos hf hc_394
    obtain ⟨x4_395, ex4_395, hf⟩ := g_letE hf
    refine lv_iinc (v := x4_395) (lv' := [(4, .int x4_395), (0, .ref b), (1, .ref (G.2.1 11 0)), (2, .ref (G.2.1 39 0)), (3, .ref (G.2.1 58 0))]) hx hb dL_law_1424 hl (k := 4) rfl (by rw [← ex4_395]; rfl) (by decide) rfl (fun ls hl => ?_)
    refine lv_goto (tgt := 23) hx hb dL_law_1427 (by decide) ?_
    refine W.widen (k := nc + 1) (n := ns + 6) (Nat.le_succ _) (Nat.le_add_right _ 6) ?_
    exact hk23 x4_395 X_388 M_392 τ hf hd hP hS (lv_sub hl [1, 2, 3, 4, 0] rfl)
  · have hf := g_neg hf hc_394
    refine lv_iconst (v := 0) hx hb dL_law_268 (by decide) ?_
    cases hf
def wb_L_law_270 (xs : Nat → Int32) (L : Nat) (k23 : Int32 → SM → SM → SL → Option Int32) (x4 : Int32) (X : SM) (M : SM) (τ : SL) : Option Int32 :=
  if g_in (x4 + 1) L then
  if g_in (x4 + 2) L then
  (fn_X11_memory (xs ((x4 + 1).toNatClampNeg)) (xs ((x4 + 2).toNatClampNeg)) X).bind fun (r_376, X_377) =>
  if g_in (x4 + 1) L then
  if g_in (x4 + 2) L then
  (fn_X12_memory (xs ((x4 + 1).toNatClampNeg)) (xs ((x4 + 2).toNatClampNeg)) M).bind fun (r_381, M_382) =>
  if r_376 = r_381 then
  (g_let (x4 + 6) fun x4_385 =>
    k23 x4_385 X_377 M_382 τ)
  else
  (some 0)
  else none
  else none
  else none
  else none
set_option maxRecDepth 100000 in
set_option maxHeartbeats 4000000 in
theorem bk_L_law_270 {p : Program} {l : Launch} {e : Env} {s : State} {m : MethodId} {below : List Frame} {meth : Method} {c : Code} {G : GP} {b L : Nat} {xs : Nat → Int32} (C0 : lw_Cx p l s m meth c b L xs G) {nc ns : Nat} (hn : nc + 1 ≤ 601024 ∧ ns + 6 ≤ 7293034) (k23 : Int32 → SM → SM → SL → Option Int32) (hk23 : ∀ (x4 : Int32) (X M : SM) (τ : SL), k23 x4 X M τ = some 1 → ∀ {d : Drawn} (_ : s.drawn.sameBut d lw_cs) {H : Heap} {locs : List Loc}, va_P G.1 g_cl (wd G (cb X M) τ) H → va_S (g_A G) s.heap H locs → ∀ {ls : Array Slot}, lv_has ls 7 [(0, .ref b), (1, .ref (G.2.1 11 0)), (2, .ref (G.2.1 39 0)), (3, .ref (G.2.1 58 0)), (4, .int x4)] → W p l e room_1 (s.setDrawn d) m #[Value.ref b] below meth c H locs (nc + 1) (ns + 6) (lw_Z below #[Value.ref b] s) (F0 m 23 ls [])) (x4 : Int32) (X M : SM) (τ : SL) (hf : wb_L_law_270 xs L k23 x4 X M τ = some 1) {d : Drawn} (hd : s.drawn.sameBut d lw_cs) {H : Heap} {locs : List Loc} (hP : va_P G.1 g_cl (wd G (cb X M) τ) H) (hS : va_S (g_A G) s.heap H locs) {ls : Array Slot} (hl : lv_has ls 7 [(0, .ref b), (1, .ref (G.2.1 11 0)), (2, .ref (G.2.1 39 0)), (3, .ref (G.2.1 58 0)), (4, .int x4)]) : W p l e room_1 (s.setDrawn d) m #[Value.ref b] below meth c H locs nc ns (lw_Z below #[Value.ref b] s) (F0 m 270 ls []) := by
  obtain ⟨hx, hb, hr, hml, hown, hts0, hX0, hbl, hlocks, hC0, hlt, hz0⟩ := id C0
  have hts := dr_words hts0 d
  have hC := hC0.dr d
  have hX : va_X b L xs (s.setDrawn d) s.heap := hX0
  have hbA : ¬ g_A G b := by show ¬ G.2.2.1 ≤ b; omega
  have hcs : nc + 1 ≤ room_1.cells ∧ ns + 6 ≤ room_1.slots := hn
  have hcz : nc + 0 ≤ room_1.cells ∧ ns + 0 ≤ room_1.slots := ⟨Nat.le_trans (Nat.le_succ _) hn.1, Nat.le_trans (Nat.le_add_right _ 6) hn.2⟩
  have hcy : nc + 1 + 0 ≤ room_1.cells ∧ ns + 6 + 0 ≤ room_1.slots := hn
  unfold wb_L_law_270 at hf
  refine lv_aload_n hx hb dL_law_270 rfl (lv_at hl 1 rfl) ?_
  refine lv_aload_n hx hb dL_law_271 rfl (lv_at hl 0 rfl) ?_
  refine lv_iload hx hb dL_law_272 (lv_at hl 4 rfl) ?_
  refine lv_iconst (v := 1) hx hb dL_law_274 (by decide) ?_
  refine lv_iadd hx hb dL_law_275 ?_
  obtain ⟨hg_374, hf⟩ := g_gd hf
  refine va_sld (A := g_A G) hx hb hX hbl hbA hS hg_374 dL_law_276 ?_
  refine lv_aload_n hx hb dL_law_277 rfl (lv_at hl 0 rfl) ?_
  refine lv_iload hx hb dL_law_278 (lv_at hl 4 rfl) ?_
  refine lv_iconst (v := 2) hx hb dL_law_280 (by decide) ?_
  refine lv_iadd hx hb dL_law_281 ?_
  obtain ⟨hg_375, hf⟩ := g_gd hf
  refine va_sld (A := g_A G) hx hb hX hbl hbA hS hg_375 dL_law_282 ?_
  obtain ⟨⟨r_376, X_377⟩, hc_378, hf⟩ := g_bindE hf
  refine x_calli (v := (X_377, M, τ)) (va_runV (As := [.int (xs ((x4 + 1).toNatClampNeg)), .int (xs ((x4 + 2).toNatClampNeg))]) (rest := []) ⟨hx, hb, hml, hown, hts⟩ (ct_X11_memory l G X M τ (xs ((x4 + 1).toNatClampNeg)) (xs ((x4 + 2).toNatClampNeg)) hc_378) (cwV 2 hts gd_L_42 rfl rfl rfl hd_X11_memory ⟨Nat.le_of_ble_eq_true rfl, Nat.le_of_ble_eq_true rfl⟩) (x_preV (u := (X, M, τ)) (k := 11) (ci := 11) hC hS hP Nat.zero_lt_one rfl rfl) rfl rfl hl.1 rfl (lv_room (Nat.le_of_ble_eq_true rfl)) dL_law_283 hcz) hS (fun H locs hP hS => ?_)
  refine lv_aload_n hx hb dL_law_286 rfl (lv_at hl 2 rfl) ?_
  refine lv_aload_n hx hb dL_law_287 rfl (lv_at hl 0 rfl) ?_
  refine lv_iload hx hb dL_law_288 (lv_at hl 4 rfl) ?_
  refine lv_iconst (v := 1) hx hb dL_law_290 (by decide) ?_
  refine lv_iadd hx hb dL_law_291 ?_
  obtain ⟨hg_379, hf⟩ := g_gd hf
  refine va_sld (A := g_A G) hx hb hX hbl hbA hS hg_379 dL_law_292 ?_
  refine lv_aload_n hx hb dL_law_293 rfl (lv_at hl 0 rfl) ?_
  refine lv_iload hx hb dL_law_294 (lv_at hl 4 rfl) ?_
  refine lv_iconst (v := 2) hx hb dL_law_296 (by decide) ?_
  refine lv_iadd hx hb dL_law_297 ?_
  obtain ⟨hg_380, hf⟩ := g_gd hf
  refine va_sld (A := g_A G) hx hb hX hbl hbA hS hg_380 dL_law_298 ?_
  obtain ⟨⟨r_381, M_382⟩, hc_383, hf⟩ := g_bindE hf
  refine x_calli (v := (X_377, M_382, τ)) (va_runV (As := [.int (xs ((x4 + 1).toNatClampNeg)), .int (xs ((x4 + 2).toNatClampNeg))]) (rest := [.int r_376]) ⟨hx, hb, hml, hown, hts⟩ (ct_X12_memory l G X_377 M τ (xs ((x4 + 1).toNatClampNeg)) (xs ((x4 + 2).toNatClampNeg)) hc_383) (cwV 2 hts gd_L_45 rfl rfl rfl hd_X12_memory ⟨Nat.le_of_ble_eq_true rfl, Nat.le_of_ble_eq_true rfl⟩) (x_preV (u := (X_377, M, τ)) (k := 39) (ci := 12) hC hS hP Nat.zero_lt_one rfl rfl) rfl rfl hl.1 rfl (lv_room (Nat.le_of_ble_eq_true rfl)) dL_law_299 hcz) hS (fun H locs hP hS => ?_)
  refine lv_icmp_eq (tgt := 1424) hx hb dL_law_302 (by decide) (fun hc_384 => ?_) (fun hc_384 => ?_)
  · have hf := g_pos hf hc_384
    obtain ⟨x4_385, ex4_385, hf⟩ := g_letE hf
    refine lv_iinc (v := x4_385) (lv' := [(4, .int x4_385), (0, .ref b), (1, .ref (G.2.1 11 0)), (2, .ref (G.2.1 39 0)), (3, .ref (G.2.1 58 0))]) hx hb dL_law_1424 hl (k := 4) rfl (by rw [← ex4_385]; rfl) (by decide) rfl (fun ls hl => ?_)
    refine lv_goto (tgt := 23) hx hb dL_law_1427 (by decide) ?_
    refine W.widen (k := nc + 1) (n := ns + 6) (Nat.le_succ _) (Nat.le_add_right _ 6) ?_
    exact hk23 x4_385 X_377 M_382 τ hf hd hP hS (lv_sub hl [1, 2, 3, 4, 0] rfl)
  · have hf := g_neg hf hc_384
    refine lv_iconst (v := 0) hx hb dL_law_305 (by decide) ?_
    cases hf
def wb_L_law_307 (xs : Nat → Int32) (L : Nat) (k23 : Int32 → SM → SM → SL → Option Int32) (x4 : Int32) (X : SM) (M : SM) (τ : SL) : Option Int32 :=
  if g_in (x4 + 1) L then
  if g_in (x4 + 2) L then
  if (xs ((x4 + 2).toNatClampNeg)) = 0 then
  ((fn_X11_hard (xs ((x4 + 1).toNatClampNeg)) 0 X).bind fun (r_342, X_343) =>
    if g_in (x4 + 1) L then
    if g_in (x4 + 2) L then
    if (xs ((x4 + 2).toNatClampNeg)) = 0 then
    ((fn_X12_hard (xs ((x4 + 1).toNatClampNeg)) 0 M).bind fun (r_348, M_349) =>
      if r_342 = r_348 then
      (g_let (x4 + 6) fun x4_352 =>
        k23 x4_352 X_343 M_349 τ)
      else
      (some 0))
    else
    ((fn_X12_hard (xs ((x4 + 1).toNatClampNeg)) 1 M).bind fun (r_353, M_354) =>
      if r_342 = r_353 then
      (g_let (x4 + 6) fun x4_357 =>
        k23 x4_357 X_343 M_354 τ)
      else
      (some 0))
    else none
    else none)
  else
  ((fn_X11_hard (xs ((x4 + 1).toNatClampNeg)) 1 X).bind fun (r_358, X_359) =>
    if g_in (x4 + 1) L then
    if g_in (x4 + 2) L then
    if (xs ((x4 + 2).toNatClampNeg)) = 0 then
    ((fn_X12_hard (xs ((x4 + 1).toNatClampNeg)) 0 M).bind fun (r_364, M_365) =>
      if r_358 = r_364 then
      (g_let (x4 + 6) fun x4_368 =>
        k23 x4_368 X_359 M_365 τ)
      else
      (some 0))
    else
    ((fn_X12_hard (xs ((x4 + 1).toNatClampNeg)) 1 M).bind fun (r_369, M_370) =>
      if r_358 = r_369 then
      (g_let (x4 + 6) fun x4_373 =>
        k23 x4_373 X_359 M_370 τ)
      else
      (some 0))
    else none
    else none)
  else none
  else none
set_option maxRecDepth 100000 in
set_option maxHeartbeats 4000000 in
theorem bk_L_law_307 {p : Program} {l : Launch} {e : Env} {s : State} {m : MethodId} {below : List Frame} {meth : Method} {c : Code} {G : GP} {b L : Nat} {xs : Nat → Int32} (C0 : lw_Cx p l s m meth c b L xs G) {nc ns : Nat} (hn : nc + 1 ≤ 601024 ∧ ns + 6 ≤ 7293034) (k23 : Int32 → SM → SM → SL → Option Int32) (hk23 : ∀ (x4 : Int32) (X M : SM) (τ : SL), k23 x4 X M τ = some 1 → ∀ {d : Drawn} (_ : s.drawn.sameBut d lw_cs) {H : Heap} {locs : List Loc}, va_P G.1 g_cl (wd G (cb X M) τ) H → va_S (g_A G) s.heap H locs → ∀ {ls : Array Slot}, lv_has ls 7 [(0, .ref b), (1, .ref (G.2.1 11 0)), (2, .ref (G.2.1 39 0)), (3, .ref (G.2.1 58 0)), (4, .int x4)] → W p l e room_1 (s.setDrawn d) m #[Value.ref b] below meth c H locs (nc + 1) (ns + 6) (lw_Z below #[Value.ref b] s) (F0 m 23 ls [])) (x4 : Int32) (X M : SM) (τ : SL) (hf : wb_L_law_307 xs L k23 x4 X M τ = some 1) {d : Drawn} (hd : s.drawn.sameBut d lw_cs) {H : Heap} {locs : List Loc} (hP : va_P G.1 g_cl (wd G (cb X M) τ) H) (hS : va_S (g_A G) s.heap H locs) {ls : Array Slot} (hl : lv_has ls 7 [(0, .ref b), (1, .ref (G.2.1 11 0)), (2, .ref (G.2.1 39 0)), (3, .ref (G.2.1 58 0)), (4, .int x4)]) : W p l e room_1 (s.setDrawn d) m #[Value.ref b] below meth c H locs nc ns (lw_Z below #[Value.ref b] s) (F0 m 307 ls []) := by
  obtain ⟨hx, hb, hr, hml, hown, hts0, hX0, hbl, hlocks, hC0, hlt, hz0⟩ := id C0
  have hts := dr_words hts0 d
  have hC := hC0.dr d
  have hX : va_X b L xs (s.setDrawn d) s.heap := hX0
  have hbA : ¬ g_A G b := by show ¬ G.2.2.1 ≤ b; omega
  have hcs : nc + 1 ≤ room_1.cells ∧ ns + 6 ≤ room_1.slots := hn
  have hcz : nc + 0 ≤ room_1.cells ∧ ns + 0 ≤ room_1.slots := ⟨Nat.le_trans (Nat.le_succ _) hn.1, Nat.le_trans (Nat.le_add_right _ 6) hn.2⟩
  have hcy : nc + 1 + 0 ≤ room_1.cells ∧ ns + 6 + 0 ≤ room_1.slots := hn
  unfold wb_L_law_307 at hf
  refine lv_aload_n hx hb dL_law_307 rfl (lv_at hl 1 rfl) ?_
  refine lv_aload_n hx hb dL_law_308 rfl (lv_at hl 0 rfl) ?_
  refine lv_iload hx hb dL_law_309 (lv_at hl 4 rfl) ?_
  refine lv_iconst (v := 1) hx hb dL_law_311 (by decide) ?_
  refine lv_iadd hx hb dL_law_312 ?_
  obtain ⟨hg_339, hf⟩ := g_gd hf
  refine va_sld (A := g_A G) hx hb hX hbl hbA hS hg_339 dL_law_313 ?_
  refine lv_aload_n hx hb dL_law_314 rfl (lv_at hl 0 rfl) ?_
  refine lv_iload hx hb dL_law_315 (lv_at hl 4 rfl) ?_
  refine lv_iconst (v := 2) hx hb dL_law_317 (by decide) ?_
  refine lv_iadd hx hb dL_law_318 ?_
  obtain ⟨hg_340, hf⟩ := g_gd hf
  refine va_sld (A := g_A G) hx hb hX hbl hbA hS hg_340 dL_law_319 ?_
  refine lv_if_eq (tgt := 327) hx hb dL_law_320 (by decide) (fun hc_341 => ?_) (fun hc_341 => ?_)
  · have hf := g_pos hf hc_341
    refine lv_iconst (v := 0) hx hb dL_law_327 (by decide) ?_
    obtain ⟨⟨r_342, X_343⟩, hc_344, hf⟩ := g_bindE hf
    refine x_calli (v := (X_343, M, τ)) (va_runV (As := [.int (xs ((x4 + 1).toNatClampNeg)), .int 0]) (rest := []) ⟨hx, hb, hml, hown, hts⟩ (ct_X11_hard l G X M τ (xs ((x4 + 1).toNatClampNeg)) 0 hc_344) (cwV 2 hts gd_L_46 rfl rfl rfl hd_X11_hard ⟨Nat.le_of_ble_eq_true rfl, Nat.le_of_ble_eq_true rfl⟩) (x_preV (u := (X, M, τ)) (k := 11) (ci := 11) hC hS hP Nat.zero_lt_one rfl rfl) rfl rfl hl.1 rfl (lv_room (Nat.le_of_ble_eq_true rfl)) dL_law_328 hcz) hS (fun H locs hP hS => ?_)
    refine lv_aload_n hx hb dL_law_331 rfl (lv_at hl 2 rfl) ?_
    refine lv_aload_n hx hb dL_law_332 rfl (lv_at hl 0 rfl) ?_
    refine lv_iload hx hb dL_law_333 (lv_at hl 4 rfl) ?_
    refine lv_iconst (v := 1) hx hb dL_law_335 (by decide) ?_
    refine lv_iadd hx hb dL_law_336 ?_
    obtain ⟨hg_345, hf⟩ := g_gd hf
    refine va_sld (A := g_A G) hx hb hX hbl hbA hS hg_345 dL_law_337 ?_
    refine lv_aload_n hx hb dL_law_338 rfl (lv_at hl 0 rfl) ?_
    refine lv_iload hx hb dL_law_339 (lv_at hl 4 rfl) ?_
    refine lv_iconst (v := 2) hx hb dL_law_341 (by decide) ?_
    refine lv_iadd hx hb dL_law_342 ?_
    obtain ⟨hg_346, hf⟩ := g_gd hf
    refine va_sld (A := g_A G) hx hb hX hbl hbA hS hg_346 dL_law_343 ?_
    refine lv_if_eq (tgt := 351) hx hb dL_law_344 (by decide) (fun hc_347 => ?_) (fun hc_347 => ?_)
    · have hf := g_pos hf hc_347
      refine lv_iconst (v := 0) hx hb dL_law_351 (by decide) ?_
      obtain ⟨⟨r_348, M_349⟩, hc_350, hf⟩ := g_bindE hf
      refine x_calli (v := (X_343, M_349, τ)) (va_runV (As := [.int (xs ((x4 + 1).toNatClampNeg)), .int 0]) (rest := [.int r_342]) ⟨hx, hb, hml, hown, hts⟩ (ct_X12_hard l G X_343 M τ (xs ((x4 + 1).toNatClampNeg)) 0 hc_350) (cwV 2 hts gd_L_50 rfl rfl rfl hd_X12_hard ⟨Nat.le_of_ble_eq_true rfl, Nat.le_of_ble_eq_true rfl⟩) (x_preV (u := (X_343, M, τ)) (k := 39) (ci := 12) hC hS hP Nat.zero_lt_one rfl rfl) rfl rfl hl.1 rfl (lv_room (Nat.le_of_ble_eq_true rfl)) dL_law_352 hcz) hS (fun H locs hP hS => ?_)
      refine lv_icmp_eq (tgt := 1424) hx hb dL_law_355 (by decide) (fun hc_351 => ?_) (fun hc_351 => ?_)
      · have hf := g_pos hf hc_351
        obtain ⟨x4_352, ex4_352, hf⟩ := g_letE hf
        refine lv_iinc (v := x4_352) (lv' := [(4, .int x4_352), (0, .ref b), (1, .ref (G.2.1 11 0)), (2, .ref (G.2.1 39 0)), (3, .ref (G.2.1 58 0))]) hx hb dL_law_1424 hl (k := 4) rfl (by rw [← ex4_352]; rfl) (by decide) rfl (fun ls hl => ?_)
        refine lv_goto (tgt := 23) hx hb dL_law_1427 (by decide) ?_
        refine W.widen (k := nc + 1) (n := ns + 6) (Nat.le_succ _) (Nat.le_add_right _ 6) ?_
        exact hk23 x4_352 X_343 M_349 τ hf hd hP hS (lv_sub hl [1, 2, 3, 4, 0] rfl)
      · have hf := g_neg hf hc_351
        refine lv_iconst (v := 0) hx hb dL_law_358 (by decide) ?_
        cases hf
    · have hf := g_neg hf hc_347
      refine lv_iconst (v := 1) hx hb dL_law_347 (by decide) ?_
      refine lv_goto (tgt := 352) hx hb dL_law_348 (by decide) ?_
      obtain ⟨⟨r_353, M_354⟩, hc_355, hf⟩ := g_bindE hf
      refine x_calli (v := (X_343, M_354, τ)) (va_runV (As := [.int (xs ((x4 + 1).toNatClampNeg)), .int 1]) (rest := [.int r_342]) ⟨hx, hb, hml, hown, hts⟩ (ct_X12_hard l G X_343 M τ (xs ((x4 + 1).toNatClampNeg)) 1 hc_355) (cwV 2 hts gd_L_50 rfl rfl rfl hd_X12_hard ⟨Nat.le_of_ble_eq_true rfl, Nat.le_of_ble_eq_true rfl⟩) (x_preV (u := (X_343, M, τ)) (k := 39) (ci := 12) hC hS hP Nat.zero_lt_one rfl rfl) rfl rfl hl.1 rfl (lv_room (Nat.le_of_ble_eq_true rfl)) dL_law_352 hcz) hS (fun H locs hP hS => ?_)
      refine lv_icmp_eq (tgt := 1424) hx hb dL_law_355 (by decide) (fun hc_356 => ?_) (fun hc_356 => ?_)
      · have hf := g_pos hf hc_356
        obtain ⟨x4_357, ex4_357, hf⟩ := g_letE hf
        refine lv_iinc (v := x4_357) (lv' := [(4, .int x4_357), (0, .ref b), (1, .ref (G.2.1 11 0)), (2, .ref (G.2.1 39 0)), (3, .ref (G.2.1 58 0))]) hx hb dL_law_1424 hl (k := 4) rfl (by rw [← ex4_357]; rfl) (by decide) rfl (fun ls hl => ?_)
        refine lv_goto (tgt := 23) hx hb dL_law_1427 (by decide) ?_
        refine W.widen (k := nc + 1) (n := ns + 6) (Nat.le_succ _) (Nat.le_add_right _ 6) ?_
        exact hk23 x4_357 X_343 M_354 τ hf hd hP hS (lv_sub hl [1, 2, 3, 4, 0] rfl)
      · have hf := g_neg hf hc_356
        refine lv_iconst (v := 0) hx hb dL_law_358 (by decide) ?_
        cases hf
  · have hf := g_neg hf hc_341
    refine lv_iconst (v := 1) hx hb dL_law_323 (by decide) ?_
    refine lv_goto (tgt := 328) hx hb dL_law_324 (by decide) ?_
    obtain ⟨⟨r_358, X_359⟩, hc_360, hf⟩ := g_bindE hf
    refine x_calli (v := (X_359, M, τ)) (va_runV (As := [.int (xs ((x4 + 1).toNatClampNeg)), .int 1]) (rest := []) ⟨hx, hb, hml, hown, hts⟩ (ct_X11_hard l G X M τ (xs ((x4 + 1).toNatClampNeg)) 1 hc_360) (cwV 2 hts gd_L_46 rfl rfl rfl hd_X11_hard ⟨Nat.le_of_ble_eq_true rfl, Nat.le_of_ble_eq_true rfl⟩) (x_preV (u := (X, M, τ)) (k := 11) (ci := 11) hC hS hP Nat.zero_lt_one rfl rfl) rfl rfl hl.1 rfl (lv_room (Nat.le_of_ble_eq_true rfl)) dL_law_328 hcz) hS (fun H locs hP hS => ?_)
    refine lv_aload_n hx hb dL_law_331 rfl (lv_at hl 2 rfl) ?_
    refine lv_aload_n hx hb dL_law_332 rfl (lv_at hl 0 rfl) ?_
    refine lv_iload hx hb dL_law_333 (lv_at hl 4 rfl) ?_
    refine lv_iconst (v := 1) hx hb dL_law_335 (by decide) ?_
    refine lv_iadd hx hb dL_law_336 ?_
    obtain ⟨hg_361, hf⟩ := g_gd hf
    refine va_sld (A := g_A G) hx hb hX hbl hbA hS hg_361 dL_law_337 ?_
    refine lv_aload_n hx hb dL_law_338 rfl (lv_at hl 0 rfl) ?_
    refine lv_iload hx hb dL_law_339 (lv_at hl 4 rfl) ?_
    refine lv_iconst (v := 2) hx hb dL_law_341 (by decide) ?_
    refine lv_iadd hx hb dL_law_342 ?_
    obtain ⟨hg_362, hf⟩ := g_gd hf
    refine va_sld (A := g_A G) hx hb hX hbl hbA hS hg_362 dL_law_343 ?_
    refine lv_if_eq (tgt := 351) hx hb dL_law_344 (by decide) (fun hc_363 => ?_) (fun hc_363 => ?_)
    · have hf := g_pos hf hc_363
      refine lv_iconst (v := 0) hx hb dL_law_351 (by decide) ?_
      obtain ⟨⟨r_364, M_365⟩, hc_366, hf⟩ := g_bindE hf
      refine x_calli (v := (X_359, M_365, τ)) (va_runV (As := [.int (xs ((x4 + 1).toNatClampNeg)), .int 0]) (rest := [.int r_358]) ⟨hx, hb, hml, hown, hts⟩ (ct_X12_hard l G X_359 M τ (xs ((x4 + 1).toNatClampNeg)) 0 hc_366) (cwV 2 hts gd_L_50 rfl rfl rfl hd_X12_hard ⟨Nat.le_of_ble_eq_true rfl, Nat.le_of_ble_eq_true rfl⟩) (x_preV (u := (X_359, M, τ)) (k := 39) (ci := 12) hC hS hP Nat.zero_lt_one rfl rfl) rfl rfl hl.1 rfl (lv_room (Nat.le_of_ble_eq_true rfl)) dL_law_352 hcz) hS (fun H locs hP hS => ?_)
      refine lv_icmp_eq (tgt := 1424) hx hb dL_law_355 (by decide) (fun hc_367 => ?_) (fun hc_367 => ?_)
      · have hf := g_pos hf hc_367
        obtain ⟨x4_368, ex4_368, hf⟩ := g_letE hf
        refine lv_iinc (v := x4_368) (lv' := [(4, .int x4_368), (0, .ref b), (1, .ref (G.2.1 11 0)), (2, .ref (G.2.1 39 0)), (3, .ref (G.2.1 58 0))]) hx hb dL_law_1424 hl (k := 4) rfl (by rw [← ex4_368]; rfl) (by decide) rfl (fun ls hl => ?_)
        refine lv_goto (tgt := 23) hx hb dL_law_1427 (by decide) ?_
        refine W.widen (k := nc + 1) (n := ns + 6) (Nat.le_succ _) (Nat.le_add_right _ 6) ?_
        exact hk23 x4_368 X_359 M_365 τ hf hd hP hS (lv_sub hl [1, 2, 3, 4, 0] rfl)
      · have hf := g_neg hf hc_367
        refine lv_iconst (v := 0) hx hb dL_law_358 (by decide) ?_
        cases hf
    · have hf := g_neg hf hc_363
      refine lv_iconst (v := 1) hx hb dL_law_347 (by decide) ?_
      refine lv_goto (tgt := 352) hx hb dL_law_348 (by decide) ?_
      obtain ⟨⟨r_369, M_370⟩, hc_371, hf⟩ := g_bindE hf
      refine x_calli (v := (X_359, M_370, τ)) (va_runV (As := [.int (xs ((x4 + 1).toNatClampNeg)), .int 1]) (rest := [.int r_358]) ⟨hx, hb, hml, hown, hts⟩ (ct_X12_hard l G X_359 M τ (xs ((x4 + 1).toNatClampNeg)) 1 hc_371) (cwV 2 hts gd_L_50 rfl rfl rfl hd_X12_hard ⟨Nat.le_of_ble_eq_true rfl, Nat.le_of_ble_eq_true rfl⟩) (x_preV (u := (X_359, M, τ)) (k := 39) (ci := 12) hC hS hP Nat.zero_lt_one rfl rfl) rfl rfl hl.1 rfl (lv_room (Nat.le_of_ble_eq_true rfl)) dL_law_352 hcz) hS (fun H locs hP hS => ?_)
      refine lv_icmp_eq (tgt := 1424) hx hb dL_law_355 (by decide) (fun hc_372 => ?_) (fun hc_372 => ?_)
      · have hf := g_pos hf hc_372
        obtain ⟨x4_373, ex4_373, hf⟩ := g_letE hf
        refine lv_iinc (v := x4_373) (lv' := [(4, .int x4_373), (0, .ref b), (1, .ref (G.2.1 11 0)), (2, .ref (G.2.1 39 0)), (3, .ref (G.2.1 58 0))]) hx hb dL_law_1424 hl (k := 4) rfl (by rw [← ex4_373]; rfl) (by decide) rfl (fun ls hl => ?_)
        refine lv_goto (tgt := 23) hx hb dL_law_1427 (by decide) ?_
        refine W.widen (k := nc + 1) (n := ns + 6) (Nat.le_succ _) (Nat.le_add_right _ 6) ?_
        exact hk23 x4_373 X_359 M_370 τ hf hd hP hS (lv_sub hl [1, 2, 3, 4, 0] rfl)
      · have hf := g_neg hf hc_372
        refine lv_iconst (v := 0) hx hb dL_law_358 (by decide) ?_
        cases hf
def wb_L_law_360 (xs : Nat → Int32) (L : Nat) (k23 : Int32 → SM → SM → SL → Option Int32) (x4 : Int32) (X : SM) (M : SM) (τ : SL) : Option Int32 :=
  if g_in (x4 + 1) L then
  if g_in (x4 + 2) L then
  if (xs ((x4 + 2).toNatClampNeg)) = 0 then
  ((fn_X11_pin (xs ((x4 + 1).toNatClampNeg)) 0 X).bind fun (r_307, X_308) =>
    if g_in (x4 + 1) L then
    if g_in (x4 + 2) L then
    if (xs ((x4 + 2).toNatClampNeg)) = 0 then
    ((fn_X12_pin (xs ((x4 + 1).toNatClampNeg)) 0 M).bind fun (r_313, M_314) =>
      if r_307 = r_313 then
      (g_let (x4 + 6) fun x4_317 =>
        k23 x4_317 X_308 M_314 τ)
      else
      (some 0))
    else
    ((fn_X12_pin (xs ((x4 + 1).toNatClampNeg)) 1 M).bind fun (r_318, M_319) =>
      if r_307 = r_318 then
      (g_let (x4 + 6) fun x4_322 =>
        k23 x4_322 X_308 M_319 τ)
      else
      (some 0))
    else none
    else none)
  else
  ((fn_X11_pin (xs ((x4 + 1).toNatClampNeg)) 1 X).bind fun (r_323, X_324) =>
    if g_in (x4 + 1) L then
    if g_in (x4 + 2) L then
    if (xs ((x4 + 2).toNatClampNeg)) = 0 then
    ((fn_X12_pin (xs ((x4 + 1).toNatClampNeg)) 0 M).bind fun (r_329, M_330) =>
      if r_323 = r_329 then
      (g_let (x4 + 6) fun x4_333 =>
        k23 x4_333 X_324 M_330 τ)
      else
      (some 0))
    else
    ((fn_X12_pin (xs ((x4 + 1).toNatClampNeg)) 1 M).bind fun (r_334, M_335) =>
      if r_323 = r_334 then
      (g_let (x4 + 6) fun x4_338 =>
        k23 x4_338 X_324 M_335 τ)
      else
      (some 0))
    else none
    else none)
  else none
  else none
set_option maxRecDepth 100000 in
set_option maxHeartbeats 4000000 in
theorem bk_L_law_360 {p : Program} {l : Launch} {e : Env} {s : State} {m : MethodId} {below : List Frame} {meth : Method} {c : Code} {G : GP} {b L : Nat} {xs : Nat → Int32} (C0 : lw_Cx p l s m meth c b L xs G) {nc ns : Nat} (hn : nc + 1 ≤ 601024 ∧ ns + 6 ≤ 7293034) (k23 : Int32 → SM → SM → SL → Option Int32) (hk23 : ∀ (x4 : Int32) (X M : SM) (τ : SL), k23 x4 X M τ = some 1 → ∀ {d : Drawn} (_ : s.drawn.sameBut d lw_cs) {H : Heap} {locs : List Loc}, va_P G.1 g_cl (wd G (cb X M) τ) H → va_S (g_A G) s.heap H locs → ∀ {ls : Array Slot}, lv_has ls 7 [(0, .ref b), (1, .ref (G.2.1 11 0)), (2, .ref (G.2.1 39 0)), (3, .ref (G.2.1 58 0)), (4, .int x4)] → W p l e room_1 (s.setDrawn d) m #[Value.ref b] below meth c H locs (nc + 1) (ns + 6) (lw_Z below #[Value.ref b] s) (F0 m 23 ls [])) (x4 : Int32) (X M : SM) (τ : SL) (hf : wb_L_law_360 xs L k23 x4 X M τ = some 1) {d : Drawn} (hd : s.drawn.sameBut d lw_cs) {H : Heap} {locs : List Loc} (hP : va_P G.1 g_cl (wd G (cb X M) τ) H) (hS : va_S (g_A G) s.heap H locs) {ls : Array Slot} (hl : lv_has ls 7 [(0, .ref b), (1, .ref (G.2.1 11 0)), (2, .ref (G.2.1 39 0)), (3, .ref (G.2.1 58 0)), (4, .int x4)]) : W p l e room_1 (s.setDrawn d) m #[Value.ref b] below meth c H locs nc ns (lw_Z below #[Value.ref b] s) (F0 m 360 ls []) := by
  obtain ⟨hx, hb, hr, hml, hown, hts0, hX0, hbl, hlocks, hC0, hlt, hz0⟩ := id C0
  have hts := dr_words hts0 d
  have hC := hC0.dr d
  have hX : va_X b L xs (s.setDrawn d) s.heap := hX0
  have hbA : ¬ g_A G b := by show ¬ G.2.2.1 ≤ b; omega
  have hcs : nc + 1 ≤ room_1.cells ∧ ns + 6 ≤ room_1.slots := hn
  have hcz : nc + 0 ≤ room_1.cells ∧ ns + 0 ≤ room_1.slots := ⟨Nat.le_trans (Nat.le_succ _) hn.1, Nat.le_trans (Nat.le_add_right _ 6) hn.2⟩
  have hcy : nc + 1 + 0 ≤ room_1.cells ∧ ns + 6 + 0 ≤ room_1.slots := hn
  unfold wb_L_law_360 at hf
  refine lv_aload_n hx hb dL_law_360 rfl (lv_at hl 1 rfl) ?_
  refine lv_aload_n hx hb dL_law_361 rfl (lv_at hl 0 rfl) ?_
  refine lv_iload hx hb dL_law_362 (lv_at hl 4 rfl) ?_
  refine lv_iconst (v := 1) hx hb dL_law_364 (by decide) ?_
  refine lv_iadd hx hb dL_law_365 ?_
  obtain ⟨hg_304, hf⟩ := g_gd hf
  refine va_sld (A := g_A G) hx hb hX hbl hbA hS hg_304 dL_law_366 ?_
  refine lv_aload_n hx hb dL_law_367 rfl (lv_at hl 0 rfl) ?_
  refine lv_iload hx hb dL_law_368 (lv_at hl 4 rfl) ?_
  refine lv_iconst (v := 2) hx hb dL_law_370 (by decide) ?_
  refine lv_iadd hx hb dL_law_371 ?_
  obtain ⟨hg_305, hf⟩ := g_gd hf
  refine va_sld (A := g_A G) hx hb hX hbl hbA hS hg_305 dL_law_372 ?_
  refine lv_if_eq (tgt := 380) hx hb dL_law_373 (by decide) (fun hc_306 => ?_) (fun hc_306 => ?_)
  · have hf := g_pos hf hc_306
    refine lv_iconst (v := 0) hx hb dL_law_380 (by decide) ?_
    obtain ⟨⟨r_307, X_308⟩, hc_309, hf⟩ := g_bindE hf
    refine x_calli (v := (X_308, M, τ)) (va_runV (As := [.int (xs ((x4 + 1).toNatClampNeg)), .int 0]) (rest := []) ⟨hx, hb, hml, hown, hts⟩ (ct_X11_pin l G X M τ (xs ((x4 + 1).toNatClampNeg)) 0 hc_309) (cwV 2 hts gd_L_51 rfl rfl rfl hd_X11_pin ⟨Nat.le_of_ble_eq_true rfl, Nat.le_of_ble_eq_true rfl⟩) (x_preV (u := (X, M, τ)) (k := 11) (ci := 11) hC hS hP Nat.zero_lt_one rfl rfl) rfl rfl hl.1 rfl (lv_room (Nat.le_of_ble_eq_true rfl)) dL_law_381 hcz) hS (fun H locs hP hS => ?_)
    refine lv_aload_n hx hb dL_law_384 rfl (lv_at hl 2 rfl) ?_
    refine lv_aload_n hx hb dL_law_385 rfl (lv_at hl 0 rfl) ?_
    refine lv_iload hx hb dL_law_386 (lv_at hl 4 rfl) ?_
    refine lv_iconst (v := 1) hx hb dL_law_388 (by decide) ?_
    refine lv_iadd hx hb dL_law_389 ?_
    obtain ⟨hg_310, hf⟩ := g_gd hf
    refine va_sld (A := g_A G) hx hb hX hbl hbA hS hg_310 dL_law_390 ?_
    refine lv_aload_n hx hb dL_law_391 rfl (lv_at hl 0 rfl) ?_
    refine lv_iload hx hb dL_law_392 (lv_at hl 4 rfl) ?_
    refine lv_iconst (v := 2) hx hb dL_law_394 (by decide) ?_
    refine lv_iadd hx hb dL_law_395 ?_
    obtain ⟨hg_311, hf⟩ := g_gd hf
    refine va_sld (A := g_A G) hx hb hX hbl hbA hS hg_311 dL_law_396 ?_
    refine lv_if_eq (tgt := 404) hx hb dL_law_397 (by decide) (fun hc_312 => ?_) (fun hc_312 => ?_)
    · have hf := g_pos hf hc_312
      refine lv_iconst (v := 0) hx hb dL_law_404 (by decide) ?_
      obtain ⟨⟨r_313, M_314⟩, hc_315, hf⟩ := g_bindE hf
      refine x_calli (v := (X_308, M_314, τ)) (va_runV (As := [.int (xs ((x4 + 1).toNatClampNeg)), .int 0]) (rest := [.int r_307]) ⟨hx, hb, hml, hown, hts⟩ (ct_X12_pin l G X_308 M τ (xs ((x4 + 1).toNatClampNeg)) 0 hc_315) (cwV 2 hts gd_L_54 rfl rfl rfl hd_X12_pin ⟨Nat.le_of_ble_eq_true rfl, Nat.le_of_ble_eq_true rfl⟩) (x_preV (u := (X_308, M, τ)) (k := 39) (ci := 12) hC hS hP Nat.zero_lt_one rfl rfl) rfl rfl hl.1 rfl (lv_room (Nat.le_of_ble_eq_true rfl)) dL_law_405 hcz) hS (fun H locs hP hS => ?_)
      refine lv_icmp_eq (tgt := 1424) hx hb dL_law_408 (by decide) (fun hc_316 => ?_) (fun hc_316 => ?_)
      · have hf := g_pos hf hc_316
        obtain ⟨x4_317, ex4_317, hf⟩ := g_letE hf
        refine lv_iinc (v := x4_317) (lv' := [(4, .int x4_317), (0, .ref b), (1, .ref (G.2.1 11 0)), (2, .ref (G.2.1 39 0)), (3, .ref (G.2.1 58 0))]) hx hb dL_law_1424 hl (k := 4) rfl (by rw [← ex4_317]; rfl) (by decide) rfl (fun ls hl => ?_)
        refine lv_goto (tgt := 23) hx hb dL_law_1427 (by decide) ?_
        refine W.widen (k := nc + 1) (n := ns + 6) (Nat.le_succ _) (Nat.le_add_right _ 6) ?_
        exact hk23 x4_317 X_308 M_314 τ hf hd hP hS (lv_sub hl [1, 2, 3, 4, 0] rfl)
      · have hf := g_neg hf hc_316
        refine lv_iconst (v := 0) hx hb dL_law_411 (by decide) ?_
        cases hf
    · have hf := g_neg hf hc_312
      refine lv_iconst (v := 1) hx hb dL_law_400 (by decide) ?_
      refine lv_goto (tgt := 405) hx hb dL_law_401 (by decide) ?_
      obtain ⟨⟨r_318, M_319⟩, hc_320, hf⟩ := g_bindE hf
      refine x_calli (v := (X_308, M_319, τ)) (va_runV (As := [.int (xs ((x4 + 1).toNatClampNeg)), .int 1]) (rest := [.int r_307]) ⟨hx, hb, hml, hown, hts⟩ (ct_X12_pin l G X_308 M τ (xs ((x4 + 1).toNatClampNeg)) 1 hc_320) (cwV 2 hts gd_L_54 rfl rfl rfl hd_X12_pin ⟨Nat.le_of_ble_eq_true rfl, Nat.le_of_ble_eq_true rfl⟩) (x_preV (u := (X_308, M, τ)) (k := 39) (ci := 12) hC hS hP Nat.zero_lt_one rfl rfl) rfl rfl hl.1 rfl (lv_room (Nat.le_of_ble_eq_true rfl)) dL_law_405 hcz) hS (fun H locs hP hS => ?_)
      refine lv_icmp_eq (tgt := 1424) hx hb dL_law_408 (by decide) (fun hc_321 => ?_) (fun hc_321 => ?_)
      · have hf := g_pos hf hc_321
        obtain ⟨x4_322, ex4_322, hf⟩ := g_letE hf
        refine lv_iinc (v := x4_322) (lv' := [(4, .int x4_322), (0, .ref b), (1, .ref (G.2.1 11 0)), (2, .ref (G.2.1 39 0)), (3, .ref (G.2.1 58 0))]) hx hb dL_law_1424 hl (k := 4) rfl (by rw [← ex4_322]; rfl) (by decide) rfl (fun ls hl => ?_)
        refine lv_goto (tgt := 23) hx hb dL_law_1427 (by decide) ?_
        refine W.widen (k := nc + 1) (n := ns + 6) (Nat.le_succ _) (Nat.le_add_right _ 6) ?_
        exact hk23 x4_322 X_308 M_319 τ hf hd hP hS (lv_sub hl [1, 2, 3, 4, 0] rfl)
      · have hf := g_neg hf hc_321
        refine lv_iconst (v := 0) hx hb dL_law_411 (by decide) ?_
        cases hf
  · have hf := g_neg hf hc_306
    refine lv_iconst (v := 1) hx hb dL_law_376 (by decide) ?_
    refine lv_goto (tgt := 381) hx hb dL_law_377 (by decide) ?_
    obtain ⟨⟨r_323, X_324⟩, hc_325, hf⟩ := g_bindE hf
    refine x_calli (v := (X_324, M, τ)) (va_runV (As := [.int (xs ((x4 + 1).toNatClampNeg)), .int 1]) (rest := []) ⟨hx, hb, hml, hown, hts⟩ (ct_X11_pin l G X M τ (xs ((x4 + 1).toNatClampNeg)) 1 hc_325) (cwV 2 hts gd_L_51 rfl rfl rfl hd_X11_pin ⟨Nat.le_of_ble_eq_true rfl, Nat.le_of_ble_eq_true rfl⟩) (x_preV (u := (X, M, τ)) (k := 11) (ci := 11) hC hS hP Nat.zero_lt_one rfl rfl) rfl rfl hl.1 rfl (lv_room (Nat.le_of_ble_eq_true rfl)) dL_law_381 hcz) hS (fun H locs hP hS => ?_)
    refine lv_aload_n hx hb dL_law_384 rfl (lv_at hl 2 rfl) ?_
    refine lv_aload_n hx hb dL_law_385 rfl (lv_at hl 0 rfl) ?_
    refine lv_iload hx hb dL_law_386 (lv_at hl 4 rfl) ?_
    refine lv_iconst (v := 1) hx hb dL_law_388 (by decide) ?_
    refine lv_iadd hx hb dL_law_389 ?_
    obtain ⟨hg_326, hf⟩ := g_gd hf
    refine va_sld (A := g_A G) hx hb hX hbl hbA hS hg_326 dL_law_390 ?_
    refine lv_aload_n hx hb dL_law_391 rfl (lv_at hl 0 rfl) ?_
    refine lv_iload hx hb dL_law_392 (lv_at hl 4 rfl) ?_
    refine lv_iconst (v := 2) hx hb dL_law_394 (by decide) ?_
    refine lv_iadd hx hb dL_law_395 ?_
    obtain ⟨hg_327, hf⟩ := g_gd hf
    refine va_sld (A := g_A G) hx hb hX hbl hbA hS hg_327 dL_law_396 ?_
    refine lv_if_eq (tgt := 404) hx hb dL_law_397 (by decide) (fun hc_328 => ?_) (fun hc_328 => ?_)
    · have hf := g_pos hf hc_328
      refine lv_iconst (v := 0) hx hb dL_law_404 (by decide) ?_
      obtain ⟨⟨r_329, M_330⟩, hc_331, hf⟩ := g_bindE hf
      refine x_calli (v := (X_324, M_330, τ)) (va_runV (As := [.int (xs ((x4 + 1).toNatClampNeg)), .int 0]) (rest := [.int r_323]) ⟨hx, hb, hml, hown, hts⟩ (ct_X12_pin l G X_324 M τ (xs ((x4 + 1).toNatClampNeg)) 0 hc_331) (cwV 2 hts gd_L_54 rfl rfl rfl hd_X12_pin ⟨Nat.le_of_ble_eq_true rfl, Nat.le_of_ble_eq_true rfl⟩) (x_preV (u := (X_324, M, τ)) (k := 39) (ci := 12) hC hS hP Nat.zero_lt_one rfl rfl) rfl rfl hl.1 rfl (lv_room (Nat.le_of_ble_eq_true rfl)) dL_law_405 hcz) hS (fun H locs hP hS => ?_)
      refine lv_icmp_eq (tgt := 1424) hx hb dL_law_408 (by decide) (fun hc_332 => ?_) (fun hc_332 => ?_)
      · have hf := g_pos hf hc_332
        obtain ⟨x4_333, ex4_333, hf⟩ := g_letE hf
        refine lv_iinc (v := x4_333) (lv' := [(4, .int x4_333), (0, .ref b), (1, .ref (G.2.1 11 0)), (2, .ref (G.2.1 39 0)), (3, .ref (G.2.1 58 0))]) hx hb dL_law_1424 hl (k := 4) rfl (by rw [← ex4_333]; rfl) (by decide) rfl (fun ls hl => ?_)
        refine lv_goto (tgt := 23) hx hb dL_law_1427 (by decide) ?_
        refine W.widen (k := nc + 1) (n := ns + 6) (Nat.le_succ _) (Nat.le_add_right _ 6) ?_
        exact hk23 x4_333 X_324 M_330 τ hf hd hP hS (lv_sub hl [1, 2, 3, 4, 0] rfl)
      · have hf := g_neg hf hc_332
        refine lv_iconst (v := 0) hx hb dL_law_411 (by decide) ?_
        cases hf
    · have hf := g_neg hf hc_328
      refine lv_iconst (v := 1) hx hb dL_law_400 (by decide) ?_
      refine lv_goto (tgt := 405) hx hb dL_law_401 (by decide) ?_
      obtain ⟨⟨r_334, M_335⟩, hc_336, hf⟩ := g_bindE hf
      refine x_calli (v := (X_324, M_335, τ)) (va_runV (As := [.int (xs ((x4 + 1).toNatClampNeg)), .int 1]) (rest := [.int r_323]) ⟨hx, hb, hml, hown, hts⟩ (ct_X12_pin l G X_324 M τ (xs ((x4 + 1).toNatClampNeg)) 1 hc_336) (cwV 2 hts gd_L_54 rfl rfl rfl hd_X12_pin ⟨Nat.le_of_ble_eq_true rfl, Nat.le_of_ble_eq_true rfl⟩) (x_preV (u := (X_324, M, τ)) (k := 39) (ci := 12) hC hS hP Nat.zero_lt_one rfl rfl) rfl rfl hl.1 rfl (lv_room (Nat.le_of_ble_eq_true rfl)) dL_law_405 hcz) hS (fun H locs hP hS => ?_)
      refine lv_icmp_eq (tgt := 1424) hx hb dL_law_408 (by decide) (fun hc_337 => ?_) (fun hc_337 => ?_)
      · have hf := g_pos hf hc_337
        obtain ⟨x4_338, ex4_338, hf⟩ := g_letE hf
        refine lv_iinc (v := x4_338) (lv' := [(4, .int x4_338), (0, .ref b), (1, .ref (G.2.1 11 0)), (2, .ref (G.2.1 39 0)), (3, .ref (G.2.1 58 0))]) hx hb dL_law_1424 hl (k := 4) rfl (by rw [← ex4_338]; rfl) (by decide) rfl (fun ls hl => ?_)
        refine lv_goto (tgt := 23) hx hb dL_law_1427 (by decide) ?_
        refine W.widen (k := nc + 1) (n := ns + 6) (Nat.le_succ _) (Nat.le_add_right _ 6) ?_
        exact hk23 x4_338 X_324 M_335 τ hf hd hP hS (lv_sub hl [1, 2, 3, 4, 0] rfl)
      · have hf := g_neg hf hc_337
        refine lv_iconst (v := 0) hx hb dL_law_411 (by decide) ?_
        cases hf
def wb_L_law_440 (xs : Nat → Int32) (L : Nat) (k23 : Int32 → SM → SM → SL → Option Int32) (x4 : Int32) (xs0 : Int32) (xs1 : Int32) (xs2 : Int32) (X : SM) (M : SM) (τ : SL) : Option Int32 :=
  (fn_X11_event xs2 xs1 xs0 X).bind fun (r_414, X_415) =>
  if g_in (x4 + 1) L then
  if g_in (x4 + 2) L then
  if g_in (x4 + 3) L then
  if (xs ((x4 + 3).toNatClampNeg)) = 0 then
  ((fn_X12_event (xs ((x4 + 1).toNatClampNeg)) (xs ((x4 + 2).toNatClampNeg)) 0 M).bind fun (r_421, M_422) =>
    if r_414 = r_421 then
    (g_let (x4 + 6) fun x4_425 =>
      k23 x4_425 X_415 M_422 τ)
    else
    (some 0))
  else
  ((fn_X12_event (xs ((x4 + 1).toNatClampNeg)) (xs ((x4 + 2).toNatClampNeg)) 1 M).bind fun (r_426, M_427) =>
    if r_414 = r_426 then
    (g_let (x4 + 6) fun x4_430 =>
      k23 x4_430 X_415 M_427 τ)
    else
    (some 0))
  else none
  else none
  else none
set_option maxRecDepth 100000 in
set_option maxHeartbeats 4000000 in
theorem bk_L_law_440 {p : Program} {l : Launch} {e : Env} {s : State} {m : MethodId} {below : List Frame} {meth : Method} {c : Code} {G : GP} {b L : Nat} {xs : Nat → Int32} (C0 : lw_Cx p l s m meth c b L xs G) {nc ns : Nat} (hn : nc + 1 ≤ 601024 ∧ ns + 6 ≤ 7293034) (k23 : Int32 → SM → SM → SL → Option Int32) (hk23 : ∀ (x4 : Int32) (X M : SM) (τ : SL), k23 x4 X M τ = some 1 → ∀ {d : Drawn} (_ : s.drawn.sameBut d lw_cs) {H : Heap} {locs : List Loc}, va_P G.1 g_cl (wd G (cb X M) τ) H → va_S (g_A G) s.heap H locs → ∀ {ls : Array Slot}, lv_has ls 7 [(0, .ref b), (1, .ref (G.2.1 11 0)), (2, .ref (G.2.1 39 0)), (3, .ref (G.2.1 58 0)), (4, .int x4)] → W p l e room_1 (s.setDrawn d) m #[Value.ref b] below meth c H locs (nc + 1) (ns + 6) (lw_Z below #[Value.ref b] s) (F0 m 23 ls [])) (x4 : Int32) (xs0 : Int32) (xs1 : Int32) (xs2 : Int32) (X M : SM) (τ : SL) (hf : wb_L_law_440 xs L k23 x4 xs0 xs1 xs2 X M τ = some 1) {d : Drawn} (hd : s.drawn.sameBut d lw_cs) {H : Heap} {locs : List Loc} (hP : va_P G.1 g_cl (wd G (cb X M) τ) H) (hS : va_S (g_A G) s.heap H locs) {ls : Array Slot} (hl : lv_has ls 7 [(0, .ref b), (1, .ref (G.2.1 11 0)), (2, .ref (G.2.1 39 0)), (3, .ref (G.2.1 58 0)), (4, .int x4)]) : W p l e room_1 (s.setDrawn d) m #[Value.ref b] below meth c H locs nc ns (lw_Z below #[Value.ref b] s) (F0 m 440 ls [.int xs0, .int xs1, .int xs2, .ref (G.2.1 11 0)]) := by
  obtain ⟨hx, hb, hr, hml, hown, hts0, hX0, hbl, hlocks, hC0, hlt, hz0⟩ := id C0
  have hts := dr_words hts0 d
  have hC := hC0.dr d
  have hX : va_X b L xs (s.setDrawn d) s.heap := hX0
  have hbA : ¬ g_A G b := by show ¬ G.2.2.1 ≤ b; omega
  have hcs : nc + 1 ≤ room_1.cells ∧ ns + 6 ≤ room_1.slots := hn
  have hcz : nc + 0 ≤ room_1.cells ∧ ns + 0 ≤ room_1.slots := ⟨Nat.le_trans (Nat.le_succ _) hn.1, Nat.le_trans (Nat.le_add_right _ 6) hn.2⟩
  have hcy : nc + 1 + 0 ≤ room_1.cells ∧ ns + 6 + 0 ≤ room_1.slots := hn
  unfold wb_L_law_440 at hf
  obtain ⟨⟨r_414, X_415⟩, hc_416, hf⟩ := g_bindE hf
  refine x_calli (v := (X_415, M, τ)) (va_runV (As := [.int xs2, .int xs1, .int xs0]) (rest := []) ⟨hx, hb, hml, hown, hts⟩ (ct_X11_event l G X M τ xs2 xs1 xs0 hc_416) (cwV 3 hts gd_L_55 rfl rfl rfl hd_X11_event ⟨Nat.le_of_ble_eq_true rfl, Nat.le_of_ble_eq_true rfl⟩) (x_preV (u := (X, M, τ)) (k := 11) (ci := 11) hC hS hP Nat.zero_lt_one rfl rfl) rfl rfl hl.1 rfl (lv_room (Nat.le_of_ble_eq_true rfl)) dL_law_440 hcz) hS (fun H locs hP hS => ?_)
  refine lv_aload_n hx hb dL_law_443 rfl (lv_at hl 2 rfl) ?_
  refine lv_aload_n hx hb dL_law_444 rfl (lv_at hl 0 rfl) ?_
  refine lv_iload hx hb dL_law_445 (lv_at hl 4 rfl) ?_
  refine lv_iconst (v := 1) hx hb dL_law_447 (by decide) ?_
  refine lv_iadd hx hb dL_law_448 ?_
  obtain ⟨hg_417, hf⟩ := g_gd hf
  refine va_sld (A := g_A G) hx hb hX hbl hbA hS hg_417 dL_law_449 ?_
  refine lv_aload_n hx hb dL_law_450 rfl (lv_at hl 0 rfl) ?_
  refine lv_iload hx hb dL_law_451 (lv_at hl 4 rfl) ?_
  refine lv_iconst (v := 2) hx hb dL_law_453 (by decide) ?_
  refine lv_iadd hx hb dL_law_454 ?_
  obtain ⟨hg_418, hf⟩ := g_gd hf
  refine va_sld (A := g_A G) hx hb hX hbl hbA hS hg_418 dL_law_455 ?_
  refine lv_aload_n hx hb dL_law_456 rfl (lv_at hl 0 rfl) ?_
  refine lv_iload hx hb dL_law_457 (lv_at hl 4 rfl) ?_
  refine lv_iconst (v := 3) hx hb dL_law_459 (by decide) ?_
  refine lv_iadd hx hb dL_law_460 ?_
  obtain ⟨hg_419, hf⟩ := g_gd hf
  refine va_sld (A := g_A G) hx hb hX hbl hbA hS hg_419 dL_law_461 ?_
  refine lv_if_eq (tgt := 469) hx hb dL_law_462 (by decide) (fun hc_420 => ?_) (fun hc_420 => ?_)
  · have hf := g_pos hf hc_420
    refine lv_iconst (v := 0) hx hb dL_law_469 (by decide) ?_
    obtain ⟨⟨r_421, M_422⟩, hc_423, hf⟩ := g_bindE hf
    refine x_calli (v := (X_415, M_422, τ)) (va_runV (As := [.int (xs ((x4 + 1).toNatClampNeg)), .int (xs ((x4 + 2).toNatClampNeg)), .int 0]) (rest := [.int r_414]) ⟨hx, hb, hml, hown, hts⟩ (ct_X12_event l G X_415 M τ (xs ((x4 + 1).toNatClampNeg)) (xs ((x4 + 2).toNatClampNeg)) 0 hc_423) (cwV 3 hts gd_L_59 rfl rfl rfl hd_X12_event ⟨Nat.le_of_ble_eq_true rfl, Nat.le_of_ble_eq_true rfl⟩) (x_preV (u := (X_415, M, τ)) (k := 39) (ci := 12) hC hS hP Nat.zero_lt_one rfl rfl) rfl rfl hl.1 rfl (lv_room (Nat.le_of_ble_eq_true rfl)) dL_law_470 hcz) hS (fun H locs hP hS => ?_)
    refine lv_icmp_eq (tgt := 1424) hx hb dL_law_473 (by decide) (fun hc_424 => ?_) (fun hc_424 => ?_)
    · have hf := g_pos hf hc_424
      obtain ⟨x4_425, ex4_425, hf⟩ := g_letE hf
      refine lv_iinc (v := x4_425) (lv' := [(4, .int x4_425), (0, .ref b), (1, .ref (G.2.1 11 0)), (2, .ref (G.2.1 39 0)), (3, .ref (G.2.1 58 0))]) hx hb dL_law_1424 hl (k := 4) rfl (by rw [← ex4_425]; rfl) (by decide) rfl (fun ls hl => ?_)
      refine lv_goto (tgt := 23) hx hb dL_law_1427 (by decide) ?_
      refine W.widen (k := nc + 1) (n := ns + 6) (Nat.le_succ _) (Nat.le_add_right _ 6) ?_
      exact hk23 x4_425 X_415 M_422 τ hf hd hP hS (lv_sub hl [1, 2, 3, 4, 0] rfl)
    · have hf := g_neg hf hc_424
      refine lv_iconst (v := 0) hx hb dL_law_476 (by decide) ?_
      cases hf
  · have hf := g_neg hf hc_420
    refine lv_iconst (v := 1) hx hb dL_law_465 (by decide) ?_
    refine lv_goto (tgt := 470) hx hb dL_law_466 (by decide) ?_
    obtain ⟨⟨r_426, M_427⟩, hc_428, hf⟩ := g_bindE hf
    refine x_calli (v := (X_415, M_427, τ)) (va_runV (As := [.int (xs ((x4 + 1).toNatClampNeg)), .int (xs ((x4 + 2).toNatClampNeg)), .int 1]) (rest := [.int r_414]) ⟨hx, hb, hml, hown, hts⟩ (ct_X12_event l G X_415 M τ (xs ((x4 + 1).toNatClampNeg)) (xs ((x4 + 2).toNatClampNeg)) 1 hc_428) (cwV 3 hts gd_L_59 rfl rfl rfl hd_X12_event ⟨Nat.le_of_ble_eq_true rfl, Nat.le_of_ble_eq_true rfl⟩) (x_preV (u := (X_415, M, τ)) (k := 39) (ci := 12) hC hS hP Nat.zero_lt_one rfl rfl) rfl rfl hl.1 rfl (lv_room (Nat.le_of_ble_eq_true rfl)) dL_law_470 hcz) hS (fun H locs hP hS => ?_)
    refine lv_icmp_eq (tgt := 1424) hx hb dL_law_473 (by decide) (fun hc_429 => ?_) (fun hc_429 => ?_)
    · have hf := g_pos hf hc_429
      obtain ⟨x4_430, ex4_430, hf⟩ := g_letE hf
      refine lv_iinc (v := x4_430) (lv' := [(4, .int x4_430), (0, .ref b), (1, .ref (G.2.1 11 0)), (2, .ref (G.2.1 39 0)), (3, .ref (G.2.1 58 0))]) hx hb dL_law_1424 hl (k := 4) rfl (by rw [← ex4_430]; rfl) (by decide) rfl (fun ls hl => ?_)
      refine lv_goto (tgt := 23) hx hb dL_law_1427 (by decide) ?_
      refine W.widen (k := nc + 1) (n := ns + 6) (Nat.le_succ _) (Nat.le_add_right _ 6) ?_
      exact hk23 x4_430 X_415 M_427 τ hf hd hP hS (lv_sub hl [1, 2, 3, 4, 0] rfl)
    · have hf := g_neg hf hc_429
      refine lv_iconst (v := 0) hx hb dL_law_476 (by decide) ?_
      cases hf
def wb_L_law_413 (xs : Nat → Int32) (L : Nat) (k23 : Int32 → SM → SM → SL → Option Int32) (x4 : Int32) (X : SM) (M : SM) (τ : SL) : Option Int32 :=
  if g_in (x4 + 1) L then
  if g_in (x4 + 2) L then
  if g_in (x4 + 3) L then
  if (xs ((x4 + 3).toNatClampNeg)) = 0 then
  (wb_L_law_440 xs L k23 x4 0 (xs ((x4 + 2).toNatClampNeg)) (xs ((x4 + 1).toNatClampNeg)) X M τ)
  else
  (wb_L_law_440 xs L k23 x4 1 (xs ((x4 + 2).toNatClampNeg)) (xs ((x4 + 1).toNatClampNeg)) X M τ)
  else none
  else none
  else none
set_option maxRecDepth 100000 in
set_option maxHeartbeats 4000000 in
theorem bk_L_law_413 {p : Program} {l : Launch} {e : Env} {s : State} {m : MethodId} {below : List Frame} {meth : Method} {c : Code} {G : GP} {b L : Nat} {xs : Nat → Int32} (C0 : lw_Cx p l s m meth c b L xs G) {nc ns : Nat} (hn : nc + 1 ≤ 601024 ∧ ns + 6 ≤ 7293034) (k23 : Int32 → SM → SM → SL → Option Int32) (hk23 : ∀ (x4 : Int32) (X M : SM) (τ : SL), k23 x4 X M τ = some 1 → ∀ {d : Drawn} (_ : s.drawn.sameBut d lw_cs) {H : Heap} {locs : List Loc}, va_P G.1 g_cl (wd G (cb X M) τ) H → va_S (g_A G) s.heap H locs → ∀ {ls : Array Slot}, lv_has ls 7 [(0, .ref b), (1, .ref (G.2.1 11 0)), (2, .ref (G.2.1 39 0)), (3, .ref (G.2.1 58 0)), (4, .int x4)] → W p l e room_1 (s.setDrawn d) m #[Value.ref b] below meth c H locs (nc + 1) (ns + 6) (lw_Z below #[Value.ref b] s) (F0 m 23 ls [])) (x4 : Int32) (X M : SM) (τ : SL) (hf : wb_L_law_413 xs L k23 x4 X M τ = some 1) {d : Drawn} (hd : s.drawn.sameBut d lw_cs) {H : Heap} {locs : List Loc} (hP : va_P G.1 g_cl (wd G (cb X M) τ) H) (hS : va_S (g_A G) s.heap H locs) {ls : Array Slot} (hl : lv_has ls 7 [(0, .ref b), (1, .ref (G.2.1 11 0)), (2, .ref (G.2.1 39 0)), (3, .ref (G.2.1 58 0)), (4, .int x4)]) : W p l e room_1 (s.setDrawn d) m #[Value.ref b] below meth c H locs nc ns (lw_Z below #[Value.ref b] s) (F0 m 413 ls []) := by
  obtain ⟨hx, hb, hr, hml, hown, hts0, hX0, hbl, hlocks, hC0, hlt, hz0⟩ := id C0
  have hts := dr_words hts0 d
  have hC := hC0.dr d
  have hX : va_X b L xs (s.setDrawn d) s.heap := hX0
  have hbA : ¬ g_A G b := by show ¬ G.2.2.1 ≤ b; omega
  have hcs : nc + 1 ≤ room_1.cells ∧ ns + 6 ≤ room_1.slots := hn
  have hcz : nc + 0 ≤ room_1.cells ∧ ns + 0 ≤ room_1.slots := ⟨Nat.le_trans (Nat.le_succ _) hn.1, Nat.le_trans (Nat.le_add_right _ 6) hn.2⟩
  have hcy : nc + 1 + 0 ≤ room_1.cells ∧ ns + 6 + 0 ≤ room_1.slots := hn
  unfold wb_L_law_413 at hf
  refine lv_aload_n hx hb dL_law_413 rfl (lv_at hl 1 rfl) ?_
  refine lv_aload_n hx hb dL_law_414 rfl (lv_at hl 0 rfl) ?_
  refine lv_iload hx hb dL_law_415 (lv_at hl 4 rfl) ?_
  refine lv_iconst (v := 1) hx hb dL_law_417 (by decide) ?_
  refine lv_iadd hx hb dL_law_418 ?_
  obtain ⟨hg_300, hf⟩ := g_gd hf
  refine va_sld (A := g_A G) hx hb hX hbl hbA hS hg_300 dL_law_419 ?_
  refine lv_aload_n hx hb dL_law_420 rfl (lv_at hl 0 rfl) ?_
  refine lv_iload hx hb dL_law_421 (lv_at hl 4 rfl) ?_
  refine lv_iconst (v := 2) hx hb dL_law_423 (by decide) ?_
  refine lv_iadd hx hb dL_law_424 ?_
  obtain ⟨hg_301, hf⟩ := g_gd hf
  refine va_sld (A := g_A G) hx hb hX hbl hbA hS hg_301 dL_law_425 ?_
  refine lv_aload_n hx hb dL_law_426 rfl (lv_at hl 0 rfl) ?_
  refine lv_iload hx hb dL_law_427 (lv_at hl 4 rfl) ?_
  refine lv_iconst (v := 3) hx hb dL_law_429 (by decide) ?_
  refine lv_iadd hx hb dL_law_430 ?_
  obtain ⟨hg_302, hf⟩ := g_gd hf
  refine va_sld (A := g_A G) hx hb hX hbl hbA hS hg_302 dL_law_431 ?_
  refine lv_if_eq (tgt := 439) hx hb dL_law_432 (by decide) (fun hc_303 => ?_) (fun hc_303 => ?_)
  · have hf := g_pos hf hc_303
    refine lv_iconst (v := 0) hx hb dL_law_439 (by decide) ?_
    exact bk_L_law_440 C0 hn k23 hk23 x4 0 (xs ((x4 + 2).toNatClampNeg)) (xs ((x4 + 1).toNatClampNeg)) X M τ hf hd hP hS (lv_sub hl [0, 1, 2, 3, 4] rfl)
  · have hf := g_neg hf hc_303
    refine lv_iconst (v := 1) hx hb dL_law_435 (by decide) ?_
    refine lv_goto (tgt := 440) hx hb dL_law_436 (by decide) ?_
    exact bk_L_law_440 C0 hn k23 hk23 x4 1 (xs ((x4 + 2).toNatClampNeg)) (xs ((x4 + 1).toNatClampNeg)) X M τ hf hd hP hS (lv_sub hl [0, 1, 2, 3, 4] rfl)
def wb_L_law_478 (xs : Nat → Int32) (L : Nat) (k23 : Int32 → SM → SM → SL → Option Int32) (x4 : Int32) (X : SM) (M : SM) (τ : SL) : Option Int32 :=
  if g_in (x4 + 1) L then
  (fn_X11_slots (xs ((x4 + 1).toNatClampNeg)) X).bind fun (r_291, X_292) =>
  if g_in (x4 + 1) L then
  (fn_X12_slots (xs ((x4 + 1).toNatClampNeg)) M).bind fun (r_295, M_296) =>
  if r_291 = r_295 then
  (g_let (x4 + 6) fun x4_299 =>
    k23 x4_299 X_292 M_296 τ)
  else
  (some 0)
  else none
  else none
set_option maxRecDepth 100000 in
set_option maxHeartbeats 4000000 in
theorem bk_L_law_478 {p : Program} {l : Launch} {e : Env} {s : State} {m : MethodId} {below : List Frame} {meth : Method} {c : Code} {G : GP} {b L : Nat} {xs : Nat → Int32} (C0 : lw_Cx p l s m meth c b L xs G) {nc ns : Nat} (hn : nc + 1 ≤ 601024 ∧ ns + 6 ≤ 7293034) (k23 : Int32 → SM → SM → SL → Option Int32) (hk23 : ∀ (x4 : Int32) (X M : SM) (τ : SL), k23 x4 X M τ = some 1 → ∀ {d : Drawn} (_ : s.drawn.sameBut d lw_cs) {H : Heap} {locs : List Loc}, va_P G.1 g_cl (wd G (cb X M) τ) H → va_S (g_A G) s.heap H locs → ∀ {ls : Array Slot}, lv_has ls 7 [(0, .ref b), (1, .ref (G.2.1 11 0)), (2, .ref (G.2.1 39 0)), (3, .ref (G.2.1 58 0)), (4, .int x4)] → W p l e room_1 (s.setDrawn d) m #[Value.ref b] below meth c H locs (nc + 1) (ns + 6) (lw_Z below #[Value.ref b] s) (F0 m 23 ls [])) (x4 : Int32) (X M : SM) (τ : SL) (hf : wb_L_law_478 xs L k23 x4 X M τ = some 1) {d : Drawn} (hd : s.drawn.sameBut d lw_cs) {H : Heap} {locs : List Loc} (hP : va_P G.1 g_cl (wd G (cb X M) τ) H) (hS : va_S (g_A G) s.heap H locs) {ls : Array Slot} (hl : lv_has ls 7 [(0, .ref b), (1, .ref (G.2.1 11 0)), (2, .ref (G.2.1 39 0)), (3, .ref (G.2.1 58 0)), (4, .int x4)]) : W p l e room_1 (s.setDrawn d) m #[Value.ref b] below meth c H locs nc ns (lw_Z below #[Value.ref b] s) (F0 m 478 ls []) := by
  obtain ⟨hx, hb, hr, hml, hown, hts0, hX0, hbl, hlocks, hC0, hlt, hz0⟩ := id C0
  have hts := dr_words hts0 d
  have hC := hC0.dr d
  have hX : va_X b L xs (s.setDrawn d) s.heap := hX0
  have hbA : ¬ g_A G b := by show ¬ G.2.2.1 ≤ b; omega
  have hcs : nc + 1 ≤ room_1.cells ∧ ns + 6 ≤ room_1.slots := hn
  have hcz : nc + 0 ≤ room_1.cells ∧ ns + 0 ≤ room_1.slots := ⟨Nat.le_trans (Nat.le_succ _) hn.1, Nat.le_trans (Nat.le_add_right _ 6) hn.2⟩
  have hcy : nc + 1 + 0 ≤ room_1.cells ∧ ns + 6 + 0 ≤ room_1.slots := hn
  unfold wb_L_law_478 at hf
  refine lv_aload_n hx hb dL_law_478 rfl (lv_at hl 1 rfl) ?_
  refine lv_aload_n hx hb dL_law_479 rfl (lv_at hl 0 rfl) ?_
  refine lv_iload hx hb dL_law_480 (lv_at hl 4 rfl) ?_
  refine lv_iconst (v := 1) hx hb dL_law_482 (by decide) ?_
  refine lv_iadd hx hb dL_law_483 ?_
  obtain ⟨hg_290, hf⟩ := g_gd hf
  refine va_sld (A := g_A G) hx hb hX hbl hbA hS hg_290 dL_law_484 ?_
  obtain ⟨⟨r_291, X_292⟩, hc_293, hf⟩ := g_bindE hf
  refine x_calli (v := (X_292, M, τ)) (va_runV (As := [.int (xs ((x4 + 1).toNatClampNeg))]) (rest := []) ⟨hx, hb, hml, hown, hts⟩ (ct_X11_slots l G X M τ (xs ((x4 + 1).toNatClampNeg)) hc_293) (cwV 1 hts gd_L_60 rfl rfl rfl hd_X11_slots ⟨Nat.le_of_ble_eq_true rfl, Nat.le_of_ble_eq_true rfl⟩) (x_preV (u := (X, M, τ)) (k := 11) (ci := 11) hC hS hP Nat.zero_lt_one rfl rfl) rfl rfl hl.1 rfl (lv_room (Nat.le_of_ble_eq_true rfl)) dL_law_485 hcz) hS (fun H locs hP hS => ?_)
  refine lv_aload_n hx hb dL_law_488 rfl (lv_at hl 2 rfl) ?_
  refine lv_aload_n hx hb dL_law_489 rfl (lv_at hl 0 rfl) ?_
  refine lv_iload hx hb dL_law_490 (lv_at hl 4 rfl) ?_
  refine lv_iconst (v := 1) hx hb dL_law_492 (by decide) ?_
  refine lv_iadd hx hb dL_law_493 ?_
  obtain ⟨hg_294, hf⟩ := g_gd hf
  refine va_sld (A := g_A G) hx hb hX hbl hbA hS hg_294 dL_law_494 ?_
  obtain ⟨⟨r_295, M_296⟩, hc_297, hf⟩ := g_bindE hf
  refine x_calli (v := (X_292, M_296, τ)) (va_runV (As := [.int (xs ((x4 + 1).toNatClampNeg))]) (rest := [.int r_291]) ⟨hx, hb, hml, hown, hts⟩ (ct_X12_slots l G X_292 M τ (xs ((x4 + 1).toNatClampNeg)) hc_297) (cwV 1 hts gd_L_63 rfl rfl rfl hd_X12_slots ⟨Nat.le_of_ble_eq_true rfl, Nat.le_of_ble_eq_true rfl⟩) (x_preV (u := (X_292, M, τ)) (k := 39) (ci := 12) hC hS hP Nat.zero_lt_one rfl rfl) rfl rfl hl.1 rfl (lv_room (Nat.le_of_ble_eq_true rfl)) dL_law_495 hcz) hS (fun H locs hP hS => ?_)
  refine lv_icmp_eq (tgt := 1424) hx hb dL_law_498 (by decide) (fun hc_298 => ?_) (fun hc_298 => ?_)
  · have hf := g_pos hf hc_298
    obtain ⟨x4_299, ex4_299, hf⟩ := g_letE hf
    refine lv_iinc (v := x4_299) (lv' := [(4, .int x4_299), (0, .ref b), (1, .ref (G.2.1 11 0)), (2, .ref (G.2.1 39 0)), (3, .ref (G.2.1 58 0))]) hx hb dL_law_1424 hl (k := 4) rfl (by rw [← ex4_299]; rfl) (by decide) rfl (fun ls hl => ?_)
    refine lv_goto (tgt := 23) hx hb dL_law_1427 (by decide) ?_
    refine W.widen (k := nc + 1) (n := ns + 6) (Nat.le_succ _) (Nat.le_add_right _ 6) ?_
    exact hk23 x4_299 X_292 M_296 τ hf hd hP hS (lv_sub hl [1, 2, 3, 4, 0] rfl)
  · have hf := g_neg hf hc_298
    refine lv_iconst (v := 0) hx hb dL_law_501 (by decide) ?_
    cases hf
def wb_L_law_503 (xs : Nat → Int32) (L : Nat) (k23 : Int32 → SM → SM → SL → Option Int32) (x4 : Int32) (X : SM) (M : SM) (τ : SL) : Option Int32 :=
  if g_in (x4 + 1) L then
  if g_in (x4 + 2) L then
  (fn_X11_slot (xs ((x4 + 1).toNatClampNeg)) (xs ((x4 + 2).toNatClampNeg)) X).bind fun (r_280, X_281) =>
  if g_in (x4 + 1) L then
  if g_in (x4 + 2) L then
  (fn_X12_slot (xs ((x4 + 1).toNatClampNeg)) (xs ((x4 + 2).toNatClampNeg)) M).bind fun (r_285, M_286) =>
  if r_280 = r_285 then
  (g_let (x4 + 6) fun x4_289 =>
    k23 x4_289 X_281 M_286 τ)
  else
  (some 0)
  else none
  else none
  else none
  else none
set_option maxRecDepth 100000 in
set_option maxHeartbeats 4000000 in
theorem bk_L_law_503 {p : Program} {l : Launch} {e : Env} {s : State} {m : MethodId} {below : List Frame} {meth : Method} {c : Code} {G : GP} {b L : Nat} {xs : Nat → Int32} (C0 : lw_Cx p l s m meth c b L xs G) {nc ns : Nat} (hn : nc + 1 ≤ 601024 ∧ ns + 6 ≤ 7293034) (k23 : Int32 → SM → SM → SL → Option Int32) (hk23 : ∀ (x4 : Int32) (X M : SM) (τ : SL), k23 x4 X M τ = some 1 → ∀ {d : Drawn} (_ : s.drawn.sameBut d lw_cs) {H : Heap} {locs : List Loc}, va_P G.1 g_cl (wd G (cb X M) τ) H → va_S (g_A G) s.heap H locs → ∀ {ls : Array Slot}, lv_has ls 7 [(0, .ref b), (1, .ref (G.2.1 11 0)), (2, .ref (G.2.1 39 0)), (3, .ref (G.2.1 58 0)), (4, .int x4)] → W p l e room_1 (s.setDrawn d) m #[Value.ref b] below meth c H locs (nc + 1) (ns + 6) (lw_Z below #[Value.ref b] s) (F0 m 23 ls [])) (x4 : Int32) (X M : SM) (τ : SL) (hf : wb_L_law_503 xs L k23 x4 X M τ = some 1) {d : Drawn} (hd : s.drawn.sameBut d lw_cs) {H : Heap} {locs : List Loc} (hP : va_P G.1 g_cl (wd G (cb X M) τ) H) (hS : va_S (g_A G) s.heap H locs) {ls : Array Slot} (hl : lv_has ls 7 [(0, .ref b), (1, .ref (G.2.1 11 0)), (2, .ref (G.2.1 39 0)), (3, .ref (G.2.1 58 0)), (4, .int x4)]) : W p l e room_1 (s.setDrawn d) m #[Value.ref b] below meth c H locs nc ns (lw_Z below #[Value.ref b] s) (F0 m 503 ls []) := by
  obtain ⟨hx, hb, hr, hml, hown, hts0, hX0, hbl, hlocks, hC0, hlt, hz0⟩ := id C0
  have hts := dr_words hts0 d
  have hC := hC0.dr d
  have hX : va_X b L xs (s.setDrawn d) s.heap := hX0
  have hbA : ¬ g_A G b := by show ¬ G.2.2.1 ≤ b; omega
  have hcs : nc + 1 ≤ room_1.cells ∧ ns + 6 ≤ room_1.slots := hn
  have hcz : nc + 0 ≤ room_1.cells ∧ ns + 0 ≤ room_1.slots := ⟨Nat.le_trans (Nat.le_succ _) hn.1, Nat.le_trans (Nat.le_add_right _ 6) hn.2⟩
  have hcy : nc + 1 + 0 ≤ room_1.cells ∧ ns + 6 + 0 ≤ room_1.slots := hn
  unfold wb_L_law_503 at hf
  refine lv_aload_n hx hb dL_law_503 rfl (lv_at hl 1 rfl) ?_
  refine lv_aload_n hx hb dL_law_504 rfl (lv_at hl 0 rfl) ?_
  refine lv_iload hx hb dL_law_505 (lv_at hl 4 rfl) ?_
  refine lv_iconst (v := 1) hx hb dL_law_507 (by decide) ?_
  refine lv_iadd hx hb dL_law_508 ?_
  obtain ⟨hg_278, hf⟩ := g_gd hf
  refine va_sld (A := g_A G) hx hb hX hbl hbA hS hg_278 dL_law_509 ?_
  refine lv_aload_n hx hb dL_law_510 rfl (lv_at hl 0 rfl) ?_
  refine lv_iload hx hb dL_law_511 (lv_at hl 4 rfl) ?_
  refine lv_iconst (v := 2) hx hb dL_law_513 (by decide) ?_
  refine lv_iadd hx hb dL_law_514 ?_
  obtain ⟨hg_279, hf⟩ := g_gd hf
  refine va_sld (A := g_A G) hx hb hX hbl hbA hS hg_279 dL_law_515 ?_
  obtain ⟨⟨r_280, X_281⟩, hc_282, hf⟩ := g_bindE hf
  refine x_calli (v := (X_281, M, τ)) (va_runV (As := [.int (xs ((x4 + 1).toNatClampNeg)), .int (xs ((x4 + 2).toNatClampNeg))]) (rest := []) ⟨hx, hb, hml, hown, hts⟩ (ct_X11_slot l G X M τ (xs ((x4 + 1).toNatClampNeg)) (xs ((x4 + 2).toNatClampNeg)) hc_282) (cwV 2 hts gd_L_64 rfl rfl rfl hd_X11_slot ⟨Nat.le_of_ble_eq_true rfl, Nat.le_of_ble_eq_true rfl⟩) (x_preV (u := (X, M, τ)) (k := 11) (ci := 11) hC hS hP Nat.zero_lt_one rfl rfl) rfl rfl hl.1 rfl (lv_room (Nat.le_of_ble_eq_true rfl)) dL_law_516 hcz) hS (fun H locs hP hS => ?_)
  refine lv_aload_n hx hb dL_law_519 rfl (lv_at hl 2 rfl) ?_
  refine lv_aload_n hx hb dL_law_520 rfl (lv_at hl 0 rfl) ?_
  refine lv_iload hx hb dL_law_521 (lv_at hl 4 rfl) ?_
  refine lv_iconst (v := 1) hx hb dL_law_523 (by decide) ?_
  refine lv_iadd hx hb dL_law_524 ?_
  obtain ⟨hg_283, hf⟩ := g_gd hf
  refine va_sld (A := g_A G) hx hb hX hbl hbA hS hg_283 dL_law_525 ?_
  refine lv_aload_n hx hb dL_law_526 rfl (lv_at hl 0 rfl) ?_
  refine lv_iload hx hb dL_law_527 (lv_at hl 4 rfl) ?_
  refine lv_iconst (v := 2) hx hb dL_law_529 (by decide) ?_
  refine lv_iadd hx hb dL_law_530 ?_
  obtain ⟨hg_284, hf⟩ := g_gd hf
  refine va_sld (A := g_A G) hx hb hX hbl hbA hS hg_284 dL_law_531 ?_
  obtain ⟨⟨r_285, M_286⟩, hc_287, hf⟩ := g_bindE hf
  refine x_calli (v := (X_281, M_286, τ)) (va_runV (As := [.int (xs ((x4 + 1).toNatClampNeg)), .int (xs ((x4 + 2).toNatClampNeg))]) (rest := [.int r_280]) ⟨hx, hb, hml, hown, hts⟩ (ct_X12_slot l G X_281 M τ (xs ((x4 + 1).toNatClampNeg)) (xs ((x4 + 2).toNatClampNeg)) hc_287) (cwV 2 hts gd_L_68 rfl rfl rfl hd_X12_slot ⟨Nat.le_of_ble_eq_true rfl, Nat.le_of_ble_eq_true rfl⟩) (x_preV (u := (X_281, M, τ)) (k := 39) (ci := 12) hC hS hP Nat.zero_lt_one rfl rfl) rfl rfl hl.1 rfl (lv_room (Nat.le_of_ble_eq_true rfl)) dL_law_532 hcz) hS (fun H locs hP hS => ?_)
  refine lv_icmp_eq (tgt := 1424) hx hb dL_law_535 (by decide) (fun hc_288 => ?_) (fun hc_288 => ?_)
  · have hf := g_pos hf hc_288
    obtain ⟨x4_289, ex4_289, hf⟩ := g_letE hf
    refine lv_iinc (v := x4_289) (lv' := [(4, .int x4_289), (0, .ref b), (1, .ref (G.2.1 11 0)), (2, .ref (G.2.1 39 0)), (3, .ref (G.2.1 58 0))]) hx hb dL_law_1424 hl (k := 4) rfl (by rw [← ex4_289]; rfl) (by decide) rfl (fun ls hl => ?_)
    refine lv_goto (tgt := 23) hx hb dL_law_1427 (by decide) ?_
    refine W.widen (k := nc + 1) (n := ns + 6) (Nat.le_succ _) (Nat.le_add_right _ 6) ?_
    exact hk23 x4_289 X_281 M_286 τ hf hd hP hS (lv_sub hl [1, 2, 3, 4, 0] rfl)
  · have hf := g_neg hf hc_288
    refine lv_iconst (v := 0) hx hb dL_law_538 (by decide) ?_
    cases hf
def wb_L_law_540 (xs : Nat → Int32) (L : Nat) (k23 : Int32 → SM → SM → SL → Option Int32) (x4 : Int32) (X : SM) (M : SM) (τ : SL) : Option Int32 :=
  if g_in (x4 + 1) L then
  if g_in (x4 + 2) L then
  (fn_X11_due (xs ((x4 + 1).toNatClampNeg)) (xs ((x4 + 2).toNatClampNeg)) X).bind fun (r_268, X_269) =>
  if g_in (x4 + 1) L then
  if g_in (x4 + 2) L then
  (fn_X12_due (xs ((x4 + 1).toNatClampNeg)) (xs ((x4 + 2).toNatClampNeg)) M).bind fun (r_273, M_274) =>
  if r_268 = r_273 then
  (g_let (x4 + 6) fun x4_277 =>
    k23 x4_277 X_269 M_274 τ)
  else
  (some 0)
  else none
  else none
  else none
  else none
set_option maxRecDepth 100000 in
set_option maxHeartbeats 4000000 in
theorem bk_L_law_540 {p : Program} {l : Launch} {e : Env} {s : State} {m : MethodId} {below : List Frame} {meth : Method} {c : Code} {G : GP} {b L : Nat} {xs : Nat → Int32} (C0 : lw_Cx p l s m meth c b L xs G) {nc ns : Nat} (hn : nc + 1 ≤ 601024 ∧ ns + 6 ≤ 7293034) (k23 : Int32 → SM → SM → SL → Option Int32) (hk23 : ∀ (x4 : Int32) (X M : SM) (τ : SL), k23 x4 X M τ = some 1 → ∀ {d : Drawn} (_ : s.drawn.sameBut d lw_cs) {H : Heap} {locs : List Loc}, va_P G.1 g_cl (wd G (cb X M) τ) H → va_S (g_A G) s.heap H locs → ∀ {ls : Array Slot}, lv_has ls 7 [(0, .ref b), (1, .ref (G.2.1 11 0)), (2, .ref (G.2.1 39 0)), (3, .ref (G.2.1 58 0)), (4, .int x4)] → W p l e room_1 (s.setDrawn d) m #[Value.ref b] below meth c H locs (nc + 1) (ns + 6) (lw_Z below #[Value.ref b] s) (F0 m 23 ls [])) (x4 : Int32) (X M : SM) (τ : SL) (hf : wb_L_law_540 xs L k23 x4 X M τ = some 1) {d : Drawn} (hd : s.drawn.sameBut d lw_cs) {H : Heap} {locs : List Loc} (hP : va_P G.1 g_cl (wd G (cb X M) τ) H) (hS : va_S (g_A G) s.heap H locs) {ls : Array Slot} (hl : lv_has ls 7 [(0, .ref b), (1, .ref (G.2.1 11 0)), (2, .ref (G.2.1 39 0)), (3, .ref (G.2.1 58 0)), (4, .int x4)]) : W p l e room_1 (s.setDrawn d) m #[Value.ref b] below meth c H locs nc ns (lw_Z below #[Value.ref b] s) (F0 m 540 ls []) := by
  obtain ⟨hx, hb, hr, hml, hown, hts0, hX0, hbl, hlocks, hC0, hlt, hz0⟩ := id C0
  have hts := dr_words hts0 d
  have hC := hC0.dr d
  have hX : va_X b L xs (s.setDrawn d) s.heap := hX0
  have hbA : ¬ g_A G b := by show ¬ G.2.2.1 ≤ b; omega
  have hcs : nc + 1 ≤ room_1.cells ∧ ns + 6 ≤ room_1.slots := hn
  have hcz : nc + 0 ≤ room_1.cells ∧ ns + 0 ≤ room_1.slots := ⟨Nat.le_trans (Nat.le_succ _) hn.1, Nat.le_trans (Nat.le_add_right _ 6) hn.2⟩
  have hcy : nc + 1 + 0 ≤ room_1.cells ∧ ns + 6 + 0 ≤ room_1.slots := hn
  unfold wb_L_law_540 at hf
  refine lv_aload_n hx hb dL_law_540 rfl (lv_at hl 1 rfl) ?_
  refine lv_aload_n hx hb dL_law_541 rfl (lv_at hl 0 rfl) ?_
  refine lv_iload hx hb dL_law_542 (lv_at hl 4 rfl) ?_
  refine lv_iconst (v := 1) hx hb dL_law_544 (by decide) ?_
  refine lv_iadd hx hb dL_law_545 ?_
  obtain ⟨hg_266, hf⟩ := g_gd hf
  refine va_sld (A := g_A G) hx hb hX hbl hbA hS hg_266 dL_law_546 ?_
  refine lv_aload_n hx hb dL_law_547 rfl (lv_at hl 0 rfl) ?_
  refine lv_iload hx hb dL_law_548 (lv_at hl 4 rfl) ?_
  refine lv_iconst (v := 2) hx hb dL_law_550 (by decide) ?_
  refine lv_iadd hx hb dL_law_551 ?_
  obtain ⟨hg_267, hf⟩ := g_gd hf
  refine va_sld (A := g_A G) hx hb hX hbl hbA hS hg_267 dL_law_552 ?_
  obtain ⟨⟨r_268, X_269⟩, hc_270, hf⟩ := g_bindE hf
  refine x_calli (v := (X_269, M, τ)) (va_runV (As := [.int (xs ((x4 + 1).toNatClampNeg)), .int (xs ((x4 + 2).toNatClampNeg))]) (rest := []) ⟨hx, hb, hml, hown, hts⟩ (ct_X11_due l G X M τ (xs ((x4 + 1).toNatClampNeg)) (xs ((x4 + 2).toNatClampNeg)) hc_270) (cwV 2 hts gd_L_69 rfl rfl rfl hd_X11_due ⟨Nat.le_of_ble_eq_true rfl, Nat.le_of_ble_eq_true rfl⟩) (x_preV (u := (X, M, τ)) (k := 11) (ci := 11) hC hS hP Nat.zero_lt_one rfl rfl) rfl rfl hl.1 rfl (lv_room (Nat.le_of_ble_eq_true rfl)) dL_law_553 hcz) hS (fun H locs hP hS => ?_)
  refine lv_aload_n hx hb dL_law_556 rfl (lv_at hl 2 rfl) ?_
  refine lv_aload_n hx hb dL_law_557 rfl (lv_at hl 0 rfl) ?_
  refine lv_iload hx hb dL_law_558 (lv_at hl 4 rfl) ?_
  refine lv_iconst (v := 1) hx hb dL_law_560 (by decide) ?_
  refine lv_iadd hx hb dL_law_561 ?_
  obtain ⟨hg_271, hf⟩ := g_gd hf
  refine va_sld (A := g_A G) hx hb hX hbl hbA hS hg_271 dL_law_562 ?_
  refine lv_aload_n hx hb dL_law_563 rfl (lv_at hl 0 rfl) ?_
  refine lv_iload hx hb dL_law_564 (lv_at hl 4 rfl) ?_
  refine lv_iconst (v := 2) hx hb dL_law_566 (by decide) ?_
  refine lv_iadd hx hb dL_law_567 ?_
  obtain ⟨hg_272, hf⟩ := g_gd hf
  refine va_sld (A := g_A G) hx hb hX hbl hbA hS hg_272 dL_law_568 ?_
  obtain ⟨⟨r_273, M_274⟩, hc_275, hf⟩ := g_bindE hf
  refine x_calli (v := (X_269, M_274, τ)) (va_runV (As := [.int (xs ((x4 + 1).toNatClampNeg)), .int (xs ((x4 + 2).toNatClampNeg))]) (rest := [.int r_268]) ⟨hx, hb, hml, hown, hts⟩ (ct_X12_due l G X_269 M τ (xs ((x4 + 1).toNatClampNeg)) (xs ((x4 + 2).toNatClampNeg)) hc_275) (cwV 2 hts gd_L_72 rfl rfl rfl hd_X12_due ⟨Nat.le_of_ble_eq_true rfl, Nat.le_of_ble_eq_true rfl⟩) (x_preV (u := (X_269, M, τ)) (k := 39) (ci := 12) hC hS hP Nat.zero_lt_one rfl rfl) rfl rfl hl.1 rfl (lv_room (Nat.le_of_ble_eq_true rfl)) dL_law_569 hcz) hS (fun H locs hP hS => ?_)
  refine lv_icmp_eq (tgt := 1424) hx hb dL_law_572 (by decide) (fun hc_276 => ?_) (fun hc_276 => ?_)
  · have hf := g_pos hf hc_276
    obtain ⟨x4_277, ex4_277, hf⟩ := g_letE hf
    refine lv_iinc (v := x4_277) (lv' := [(4, .int x4_277), (0, .ref b), (1, .ref (G.2.1 11 0)), (2, .ref (G.2.1 39 0)), (3, .ref (G.2.1 58 0))]) hx hb dL_law_1424 hl (k := 4) rfl (by rw [← ex4_277]; rfl) (by decide) rfl (fun ls hl => ?_)
    refine lv_goto (tgt := 23) hx hb dL_law_1427 (by decide) ?_
    refine W.widen (k := nc + 1) (n := ns + 6) (Nat.le_succ _) (Nat.le_add_right _ 6) ?_
    exact hk23 x4_277 X_269 M_274 τ hf hd hP hS (lv_sub hl [1, 2, 3, 4, 0] rfl)
  · have hf := g_neg hf hc_276
    refine lv_iconst (v := 0) hx hb dL_law_575 (by decide) ?_
    cases hf
def wb_L_law_577 (xs : Nat → Int32) (L : Nat) (k23 : Int32 → SM → SM → SL → Option Int32) (x4 : Int32) (X : SM) (M : SM) (τ : SL) : Option Int32 :=
  if g_in (x4 + 1) L then
  if g_in (x4 + 2) L then
  (fn_X11_asks (xs ((x4 + 1).toNatClampNeg)) (xs ((x4 + 2).toNatClampNeg)) X).bind fun (r_256, X_257) =>
  if g_in (x4 + 1) L then
  if g_in (x4 + 2) L then
  (fn_X12_asks (xs ((x4 + 1).toNatClampNeg)) (xs ((x4 + 2).toNatClampNeg)) M).bind fun (r_261, M_262) =>
  if r_256 = r_261 then
  (g_let (x4 + 6) fun x4_265 =>
    k23 x4_265 X_257 M_262 τ)
  else
  (some 0)
  else none
  else none
  else none
  else none
set_option maxRecDepth 100000 in
set_option maxHeartbeats 4000000 in
theorem bk_L_law_577 {p : Program} {l : Launch} {e : Env} {s : State} {m : MethodId} {below : List Frame} {meth : Method} {c : Code} {G : GP} {b L : Nat} {xs : Nat → Int32} (C0 : lw_Cx p l s m meth c b L xs G) {nc ns : Nat} (hn : nc + 1 ≤ 601024 ∧ ns + 6 ≤ 7293034) (k23 : Int32 → SM → SM → SL → Option Int32) (hk23 : ∀ (x4 : Int32) (X M : SM) (τ : SL), k23 x4 X M τ = some 1 → ∀ {d : Drawn} (_ : s.drawn.sameBut d lw_cs) {H : Heap} {locs : List Loc}, va_P G.1 g_cl (wd G (cb X M) τ) H → va_S (g_A G) s.heap H locs → ∀ {ls : Array Slot}, lv_has ls 7 [(0, .ref b), (1, .ref (G.2.1 11 0)), (2, .ref (G.2.1 39 0)), (3, .ref (G.2.1 58 0)), (4, .int x4)] → W p l e room_1 (s.setDrawn d) m #[Value.ref b] below meth c H locs (nc + 1) (ns + 6) (lw_Z below #[Value.ref b] s) (F0 m 23 ls [])) (x4 : Int32) (X M : SM) (τ : SL) (hf : wb_L_law_577 xs L k23 x4 X M τ = some 1) {d : Drawn} (hd : s.drawn.sameBut d lw_cs) {H : Heap} {locs : List Loc} (hP : va_P G.1 g_cl (wd G (cb X M) τ) H) (hS : va_S (g_A G) s.heap H locs) {ls : Array Slot} (hl : lv_has ls 7 [(0, .ref b), (1, .ref (G.2.1 11 0)), (2, .ref (G.2.1 39 0)), (3, .ref (G.2.1 58 0)), (4, .int x4)]) : W p l e room_1 (s.setDrawn d) m #[Value.ref b] below meth c H locs nc ns (lw_Z below #[Value.ref b] s) (F0 m 577 ls []) := by
  obtain ⟨hx, hb, hr, hml, hown, hts0, hX0, hbl, hlocks, hC0, hlt, hz0⟩ := id C0
  have hts := dr_words hts0 d
  have hC := hC0.dr d
  have hX : va_X b L xs (s.setDrawn d) s.heap := hX0
  have hbA : ¬ g_A G b := by show ¬ G.2.2.1 ≤ b; omega
  have hcs : nc + 1 ≤ room_1.cells ∧ ns + 6 ≤ room_1.slots := hn
  have hcz : nc + 0 ≤ room_1.cells ∧ ns + 0 ≤ room_1.slots := ⟨Nat.le_trans (Nat.le_succ _) hn.1, Nat.le_trans (Nat.le_add_right _ 6) hn.2⟩
  have hcy : nc + 1 + 0 ≤ room_1.cells ∧ ns + 6 + 0 ≤ room_1.slots := hn
  unfold wb_L_law_577 at hf
  refine lv_aload_n hx hb dL_law_577 rfl (lv_at hl 1 rfl) ?_
  refine lv_aload_n hx hb dL_law_578 rfl (lv_at hl 0 rfl) ?_
  refine lv_iload hx hb dL_law_579 (lv_at hl 4 rfl) ?_
  refine lv_iconst (v := 1) hx hb dL_law_581 (by decide) ?_
  refine lv_iadd hx hb dL_law_582 ?_
  obtain ⟨hg_254, hf⟩ := g_gd hf
  refine va_sld (A := g_A G) hx hb hX hbl hbA hS hg_254 dL_law_583 ?_
  refine lv_aload_n hx hb dL_law_584 rfl (lv_at hl 0 rfl) ?_
  refine lv_iload hx hb dL_law_585 (lv_at hl 4 rfl) ?_
  refine lv_iconst (v := 2) hx hb dL_law_587 (by decide) ?_
  refine lv_iadd hx hb dL_law_588 ?_
  obtain ⟨hg_255, hf⟩ := g_gd hf
  refine va_sld (A := g_A G) hx hb hX hbl hbA hS hg_255 dL_law_589 ?_
  obtain ⟨⟨r_256, X_257⟩, hc_258, hf⟩ := g_bindE hf
  refine x_calli (v := (X_257, M, τ)) (va_runV (As := [.int (xs ((x4 + 1).toNatClampNeg)), .int (xs ((x4 + 2).toNatClampNeg))]) (rest := []) ⟨hx, hb, hml, hown, hts⟩ (ct_X11_asks l G X M τ (xs ((x4 + 1).toNatClampNeg)) (xs ((x4 + 2).toNatClampNeg)) hc_258) (cwV 2 hts gd_L_73 rfl rfl rfl hd_X11_asks ⟨Nat.le_of_ble_eq_true rfl, Nat.le_of_ble_eq_true rfl⟩) (x_preV (u := (X, M, τ)) (k := 11) (ci := 11) hC hS hP Nat.zero_lt_one rfl rfl) rfl rfl hl.1 rfl (lv_room (Nat.le_of_ble_eq_true rfl)) dL_law_590 hcz) hS (fun H locs hP hS => ?_)
  refine lv_aload_n hx hb dL_law_593 rfl (lv_at hl 2 rfl) ?_
  refine lv_aload_n hx hb dL_law_594 rfl (lv_at hl 0 rfl) ?_
  refine lv_iload hx hb dL_law_595 (lv_at hl 4 rfl) ?_
  refine lv_iconst (v := 1) hx hb dL_law_597 (by decide) ?_
  refine lv_iadd hx hb dL_law_598 ?_
  obtain ⟨hg_259, hf⟩ := g_gd hf
  refine va_sld (A := g_A G) hx hb hX hbl hbA hS hg_259 dL_law_599 ?_
  refine lv_aload_n hx hb dL_law_600 rfl (lv_at hl 0 rfl) ?_
  refine lv_iload hx hb dL_law_601 (lv_at hl 4 rfl) ?_
  refine lv_iconst (v := 2) hx hb dL_law_603 (by decide) ?_
  refine lv_iadd hx hb dL_law_604 ?_
  obtain ⟨hg_260, hf⟩ := g_gd hf
  refine va_sld (A := g_A G) hx hb hX hbl hbA hS hg_260 dL_law_605 ?_
  obtain ⟨⟨r_261, M_262⟩, hc_263, hf⟩ := g_bindE hf
  refine x_calli (v := (X_257, M_262, τ)) (va_runV (As := [.int (xs ((x4 + 1).toNatClampNeg)), .int (xs ((x4 + 2).toNatClampNeg))]) (rest := [.int r_256]) ⟨hx, hb, hml, hown, hts⟩ (ct_X12_asks l G X_257 M τ (xs ((x4 + 1).toNatClampNeg)) (xs ((x4 + 2).toNatClampNeg)) hc_263) (cwV 2 hts gd_L_76 rfl rfl rfl hd_X12_asks ⟨Nat.le_of_ble_eq_true rfl, Nat.le_of_ble_eq_true rfl⟩) (x_preV (u := (X_257, M, τ)) (k := 39) (ci := 12) hC hS hP Nat.zero_lt_one rfl rfl) rfl rfl hl.1 rfl (lv_room (Nat.le_of_ble_eq_true rfl)) dL_law_606 hcz) hS (fun H locs hP hS => ?_)
  refine lv_icmp_eq (tgt := 1424) hx hb dL_law_609 (by decide) (fun hc_264 => ?_) (fun hc_264 => ?_)
  · have hf := g_pos hf hc_264
    obtain ⟨x4_265, ex4_265, hf⟩ := g_letE hf
    refine lv_iinc (v := x4_265) (lv' := [(4, .int x4_265), (0, .ref b), (1, .ref (G.2.1 11 0)), (2, .ref (G.2.1 39 0)), (3, .ref (G.2.1 58 0))]) hx hb dL_law_1424 hl (k := 4) rfl (by rw [← ex4_265]; rfl) (by decide) rfl (fun ls hl => ?_)
    refine lv_goto (tgt := 23) hx hb dL_law_1427 (by decide) ?_
    refine W.widen (k := nc + 1) (n := ns + 6) (Nat.le_succ _) (Nat.le_add_right _ 6) ?_
    exact hk23 x4_265 X_257 M_262 τ hf hd hP hS (lv_sub hl [1, 2, 3, 4, 0] rfl)
  · have hf := g_neg hf hc_264
    refine lv_iconst (v := 0) hx hb dL_law_612 (by decide) ?_
    cases hf
def wb_L_law_614 (xs : Nat → Int32) (L : Nat) (k23 : Int32 → SM → SM → SL → Option Int32) (x4 : Int32) (X : SM) (M : SM) (τ : SL) : Option Int32 :=
  (fn_X11_found X).bind fun (r_246, X_247) =>
  (fn_X12_found M).bind fun (r_249, M_250) =>
  if r_246 = r_249 then
  (g_let (x4 + 6) fun x4_253 =>
    k23 x4_253 X_247 M_250 τ)
  else
  (some 0)
set_option maxRecDepth 100000 in
set_option maxHeartbeats 4000000 in
theorem bk_L_law_614 {p : Program} {l : Launch} {e : Env} {s : State} {m : MethodId} {below : List Frame} {meth : Method} {c : Code} {G : GP} {b L : Nat} {xs : Nat → Int32} (C0 : lw_Cx p l s m meth c b L xs G) {nc ns : Nat} (hn : nc + 1 ≤ 601024 ∧ ns + 6 ≤ 7293034) (k23 : Int32 → SM → SM → SL → Option Int32) (hk23 : ∀ (x4 : Int32) (X M : SM) (τ : SL), k23 x4 X M τ = some 1 → ∀ {d : Drawn} (_ : s.drawn.sameBut d lw_cs) {H : Heap} {locs : List Loc}, va_P G.1 g_cl (wd G (cb X M) τ) H → va_S (g_A G) s.heap H locs → ∀ {ls : Array Slot}, lv_has ls 7 [(0, .ref b), (1, .ref (G.2.1 11 0)), (2, .ref (G.2.1 39 0)), (3, .ref (G.2.1 58 0)), (4, .int x4)] → W p l e room_1 (s.setDrawn d) m #[Value.ref b] below meth c H locs (nc + 1) (ns + 6) (lw_Z below #[Value.ref b] s) (F0 m 23 ls [])) (x4 : Int32) (X M : SM) (τ : SL) (hf : wb_L_law_614 xs L k23 x4 X M τ = some 1) {d : Drawn} (hd : s.drawn.sameBut d lw_cs) {H : Heap} {locs : List Loc} (hP : va_P G.1 g_cl (wd G (cb X M) τ) H) (hS : va_S (g_A G) s.heap H locs) {ls : Array Slot} (hl : lv_has ls 7 [(0, .ref b), (1, .ref (G.2.1 11 0)), (2, .ref (G.2.1 39 0)), (3, .ref (G.2.1 58 0)), (4, .int x4)]) : W p l e room_1 (s.setDrawn d) m #[Value.ref b] below meth c H locs nc ns (lw_Z below #[Value.ref b] s) (F0 m 614 ls []) := by
  obtain ⟨hx, hb, hr, hml, hown, hts0, hX0, hbl, hlocks, hC0, hlt, hz0⟩ := id C0
  have hts := dr_words hts0 d
  have hC := hC0.dr d
  have hX : va_X b L xs (s.setDrawn d) s.heap := hX0
  have hbA : ¬ g_A G b := by show ¬ G.2.2.1 ≤ b; omega
  have hcs : nc + 1 ≤ room_1.cells ∧ ns + 6 ≤ room_1.slots := hn
  have hcz : nc + 0 ≤ room_1.cells ∧ ns + 0 ≤ room_1.slots := ⟨Nat.le_trans (Nat.le_succ _) hn.1, Nat.le_trans (Nat.le_add_right _ 6) hn.2⟩
  have hcy : nc + 1 + 0 ≤ room_1.cells ∧ ns + 6 + 0 ≤ room_1.slots := hn
  unfold wb_L_law_614 at hf
  refine lv_aload_n hx hb dL_law_614 rfl (lv_at hl 1 rfl) ?_
  obtain ⟨⟨r_246, X_247⟩, hc_248, hf⟩ := g_bindE hf
  refine x_calli (v := (X_247, M, τ)) (va_runV (As := []) (rest := []) ⟨hx, hb, hml, hown, hts⟩ (ct_X11_found l G X M τ  hc_248) (cwV 0 hts gd_L_77 rfl rfl rfl hd_X11_found ⟨Nat.le_of_ble_eq_true rfl, Nat.le_of_ble_eq_true rfl⟩) (x_preV (u := (X, M, τ)) (k := 11) (ci := 11) hC hS hP Nat.zero_lt_one rfl rfl) rfl rfl hl.1 rfl (lv_room (Nat.le_of_ble_eq_true rfl)) dL_law_615 hcz) hS (fun H locs hP hS => ?_)
  refine lv_aload_n hx hb dL_law_618 rfl (lv_at hl 2 rfl) ?_
  obtain ⟨⟨r_249, M_250⟩, hc_251, hf⟩ := g_bindE hf
  refine x_calli (v := (X_247, M_250, τ)) (va_runV (As := []) (rest := [.int r_246]) ⟨hx, hb, hml, hown, hts⟩ (ct_X12_found l G X_247 M τ  hc_251) (cwV 0 hts gd_L_81 rfl rfl rfl hd_X12_found ⟨Nat.le_of_ble_eq_true rfl, Nat.le_of_ble_eq_true rfl⟩) (x_preV (u := (X_247, M, τ)) (k := 39) (ci := 12) hC hS hP Nat.zero_lt_one rfl rfl) rfl rfl hl.1 rfl (lv_room (Nat.le_of_ble_eq_true rfl)) dL_law_619 hcz) hS (fun H locs hP hS => ?_)
  refine lv_icmp_eq (tgt := 1424) hx hb dL_law_622 (by decide) (fun hc_252 => ?_) (fun hc_252 => ?_)
  · have hf := g_pos hf hc_252
    obtain ⟨x4_253, ex4_253, hf⟩ := g_letE hf
    refine lv_iinc (v := x4_253) (lv' := [(4, .int x4_253), (0, .ref b), (1, .ref (G.2.1 11 0)), (2, .ref (G.2.1 39 0)), (3, .ref (G.2.1 58 0))]) hx hb dL_law_1424 hl (k := 4) rfl (by rw [← ex4_253]; rfl) (by decide) rfl (fun ls hl => ?_)
    refine lv_goto (tgt := 23) hx hb dL_law_1427 (by decide) ?_
    refine W.widen (k := nc + 1) (n := ns + 6) (Nat.le_succ _) (Nat.le_add_right _ 6) ?_
    exact hk23 x4_253 X_247 M_250 τ hf hd hP hS (lv_sub hl [1, 2, 3, 4, 0] rfl)
  · have hf := g_neg hf hc_252
    refine lv_iconst (v := 0) hx hb dL_law_625 (by decide) ?_
    cases hf
def wb_L_law_627 (xs : Nat → Int32) (L : Nat) (k23 : Int32 → SM → SM → SL → Option Int32) (x4 : Int32) (X : SM) (M : SM) (τ : SL) : Option Int32 :=
  (fn_X11_start X).bind fun (r_238, X_239) =>
  (fn_X12_start M).bind fun (r_241, M_242) =>
  if r_238 = r_241 then
  (g_let (x4 + 6) fun x4_245 =>
    k23 x4_245 X_239 M_242 τ)
  else
  (some 0)
set_option maxRecDepth 100000 in
set_option maxHeartbeats 4000000 in
theorem bk_L_law_627 {p : Program} {l : Launch} {e : Env} {s : State} {m : MethodId} {below : List Frame} {meth : Method} {c : Code} {G : GP} {b L : Nat} {xs : Nat → Int32} (C0 : lw_Cx p l s m meth c b L xs G) {nc ns : Nat} (hn : nc + 1 ≤ 601024 ∧ ns + 6 ≤ 7293034) (k23 : Int32 → SM → SM → SL → Option Int32) (hk23 : ∀ (x4 : Int32) (X M : SM) (τ : SL), k23 x4 X M τ = some 1 → ∀ {d : Drawn} (_ : s.drawn.sameBut d lw_cs) {H : Heap} {locs : List Loc}, va_P G.1 g_cl (wd G (cb X M) τ) H → va_S (g_A G) s.heap H locs → ∀ {ls : Array Slot}, lv_has ls 7 [(0, .ref b), (1, .ref (G.2.1 11 0)), (2, .ref (G.2.1 39 0)), (3, .ref (G.2.1 58 0)), (4, .int x4)] → W p l e room_1 (s.setDrawn d) m #[Value.ref b] below meth c H locs (nc + 1) (ns + 6) (lw_Z below #[Value.ref b] s) (F0 m 23 ls [])) (x4 : Int32) (X M : SM) (τ : SL) (hf : wb_L_law_627 xs L k23 x4 X M τ = some 1) {d : Drawn} (hd : s.drawn.sameBut d lw_cs) {H : Heap} {locs : List Loc} (hP : va_P G.1 g_cl (wd G (cb X M) τ) H) (hS : va_S (g_A G) s.heap H locs) {ls : Array Slot} (hl : lv_has ls 7 [(0, .ref b), (1, .ref (G.2.1 11 0)), (2, .ref (G.2.1 39 0)), (3, .ref (G.2.1 58 0)), (4, .int x4)]) : W p l e room_1 (s.setDrawn d) m #[Value.ref b] below meth c H locs nc ns (lw_Z below #[Value.ref b] s) (F0 m 627 ls []) := by
  obtain ⟨hx, hb, hr, hml, hown, hts0, hX0, hbl, hlocks, hC0, hlt, hz0⟩ := id C0
  have hts := dr_words hts0 d
  have hC := hC0.dr d
  have hX : va_X b L xs (s.setDrawn d) s.heap := hX0
  have hbA : ¬ g_A G b := by show ¬ G.2.2.1 ≤ b; omega
  have hcs : nc + 1 ≤ room_1.cells ∧ ns + 6 ≤ room_1.slots := hn
  have hcz : nc + 0 ≤ room_1.cells ∧ ns + 0 ≤ room_1.slots := ⟨Nat.le_trans (Nat.le_succ _) hn.1, Nat.le_trans (Nat.le_add_right _ 6) hn.2⟩
  have hcy : nc + 1 + 0 ≤ room_1.cells ∧ ns + 6 + 0 ≤ room_1.slots := hn
  unfold wb_L_law_627 at hf
  refine lv_aload_n hx hb dL_law_627 rfl (lv_at hl 1 rfl) ?_
  obtain ⟨⟨r_238, X_239⟩, hc_240, hf⟩ := g_bindE hf
  refine x_calli (v := (X_239, M, τ)) (va_runV (As := []) (rest := []) ⟨hx, hb, hml, hown, hts⟩ (ct_X11_start l G X M τ  hc_240) (cwV 0 hts gd_L_82 rfl rfl rfl hd_X11_start ⟨Nat.le_of_ble_eq_true rfl, Nat.le_of_ble_eq_true rfl⟩) (x_preV (u := (X, M, τ)) (k := 11) (ci := 11) hC hS hP Nat.zero_lt_one rfl rfl) rfl rfl hl.1 rfl (lv_room (Nat.le_of_ble_eq_true rfl)) dL_law_628 hcz) hS (fun H locs hP hS => ?_)
  refine lv_aload_n hx hb dL_law_631 rfl (lv_at hl 2 rfl) ?_
  obtain ⟨⟨r_241, M_242⟩, hc_243, hf⟩ := g_bindE hf
  refine x_calli (v := (X_239, M_242, τ)) (va_runV (As := []) (rest := [.int r_238]) ⟨hx, hb, hml, hown, hts⟩ (ct_X12_start l G X_239 M τ  hc_243) (cwV 0 hts gd_L_85 rfl rfl rfl hd_X12_start ⟨Nat.le_of_ble_eq_true rfl, Nat.le_of_ble_eq_true rfl⟩) (x_preV (u := (X_239, M, τ)) (k := 39) (ci := 12) hC hS hP Nat.zero_lt_one rfl rfl) rfl rfl hl.1 rfl (lv_room (Nat.le_of_ble_eq_true rfl)) dL_law_632 hcz) hS (fun H locs hP hS => ?_)
  refine lv_icmp_eq (tgt := 1424) hx hb dL_law_635 (by decide) (fun hc_244 => ?_) (fun hc_244 => ?_)
  · have hf := g_pos hf hc_244
    obtain ⟨x4_245, ex4_245, hf⟩ := g_letE hf
    refine lv_iinc (v := x4_245) (lv' := [(4, .int x4_245), (0, .ref b), (1, .ref (G.2.1 11 0)), (2, .ref (G.2.1 39 0)), (3, .ref (G.2.1 58 0))]) hx hb dL_law_1424 hl (k := 4) rfl (by rw [← ex4_245]; rfl) (by decide) rfl (fun ls hl => ?_)
    refine lv_goto (tgt := 23) hx hb dL_law_1427 (by decide) ?_
    refine W.widen (k := nc + 1) (n := ns + 6) (Nat.le_succ _) (Nat.le_add_right _ 6) ?_
    exact hk23 x4_245 X_239 M_242 τ hf hd hP hS (lv_sub hl [1, 2, 3, 4, 0] rfl)
  · have hf := g_neg hf hc_244
    refine lv_iconst (v := 0) hx hb dL_law_638 (by decide) ?_
    cases hf
def wb_L_law_640 (xs : Nat → Int32) (L : Nat) (k23 : Int32 → SM → SM → SL → Option Int32) (x4 : Int32) (X : SM) (M : SM) (τ : SL) : Option Int32 :=
  if g_in (x4 + 1) L then
  (fn_X11_run (xs ((x4 + 1).toNatClampNeg)) X).bind fun (r_229, X_230) =>
  if g_in (x4 + 1) L then
  (fn_X12_run (xs ((x4 + 1).toNatClampNeg)) M).bind fun (r_233, M_234) =>
  if r_229 = r_233 then
  (g_let (x4 + 6) fun x4_237 =>
    k23 x4_237 X_230 M_234 τ)
  else
  (some 0)
  else none
  else none
set_option maxRecDepth 100000 in
set_option maxHeartbeats 4000000 in
theorem bk_L_law_640 {p : Program} {l : Launch} {e : Env} {s : State} {m : MethodId} {below : List Frame} {meth : Method} {c : Code} {G : GP} {b L : Nat} {xs : Nat → Int32} (C0 : lw_Cx p l s m meth c b L xs G) {nc ns : Nat} (hn : nc + 1 ≤ 601024 ∧ ns + 6 ≤ 7293034) (k23 : Int32 → SM → SM → SL → Option Int32) (hk23 : ∀ (x4 : Int32) (X M : SM) (τ : SL), k23 x4 X M τ = some 1 → ∀ {d : Drawn} (_ : s.drawn.sameBut d lw_cs) {H : Heap} {locs : List Loc}, va_P G.1 g_cl (wd G (cb X M) τ) H → va_S (g_A G) s.heap H locs → ∀ {ls : Array Slot}, lv_has ls 7 [(0, .ref b), (1, .ref (G.2.1 11 0)), (2, .ref (G.2.1 39 0)), (3, .ref (G.2.1 58 0)), (4, .int x4)] → W p l e room_1 (s.setDrawn d) m #[Value.ref b] below meth c H locs (nc + 1) (ns + 6) (lw_Z below #[Value.ref b] s) (F0 m 23 ls [])) (x4 : Int32) (X M : SM) (τ : SL) (hf : wb_L_law_640 xs L k23 x4 X M τ = some 1) {d : Drawn} (hd : s.drawn.sameBut d lw_cs) {H : Heap} {locs : List Loc} (hP : va_P G.1 g_cl (wd G (cb X M) τ) H) (hS : va_S (g_A G) s.heap H locs) {ls : Array Slot} (hl : lv_has ls 7 [(0, .ref b), (1, .ref (G.2.1 11 0)), (2, .ref (G.2.1 39 0)), (3, .ref (G.2.1 58 0)), (4, .int x4)]) : W p l e room_1 (s.setDrawn d) m #[Value.ref b] below meth c H locs nc ns (lw_Z below #[Value.ref b] s) (F0 m 640 ls []) := by
  obtain ⟨hx, hb, hr, hml, hown, hts0, hX0, hbl, hlocks, hC0, hlt, hz0⟩ := id C0
  have hts := dr_words hts0 d
  have hC := hC0.dr d
  have hX : va_X b L xs (s.setDrawn d) s.heap := hX0
  have hbA : ¬ g_A G b := by show ¬ G.2.2.1 ≤ b; omega
  have hcs : nc + 1 ≤ room_1.cells ∧ ns + 6 ≤ room_1.slots := hn
  have hcz : nc + 0 ≤ room_1.cells ∧ ns + 0 ≤ room_1.slots := ⟨Nat.le_trans (Nat.le_succ _) hn.1, Nat.le_trans (Nat.le_add_right _ 6) hn.2⟩
  have hcy : nc + 1 + 0 ≤ room_1.cells ∧ ns + 6 + 0 ≤ room_1.slots := hn
  unfold wb_L_law_640 at hf
  refine lv_aload_n hx hb dL_law_640 rfl (lv_at hl 1 rfl) ?_
  refine lv_aload_n hx hb dL_law_641 rfl (lv_at hl 0 rfl) ?_
  refine lv_iload hx hb dL_law_642 (lv_at hl 4 rfl) ?_
  refine lv_iconst (v := 1) hx hb dL_law_644 (by decide) ?_
  refine lv_iadd hx hb dL_law_645 ?_
  obtain ⟨hg_228, hf⟩ := g_gd hf
  refine va_sld (A := g_A G) hx hb hX hbl hbA hS hg_228 dL_law_646 ?_
  obtain ⟨⟨r_229, X_230⟩, hc_231, hf⟩ := g_bindE hf
  refine x_calli (v := (X_230, M, τ)) (va_runV (As := [.int (xs ((x4 + 1).toNatClampNeg))]) (rest := []) ⟨hx, hb, hml, hown, hts⟩ (ct_X11_run l G X M τ (xs ((x4 + 1).toNatClampNeg)) hc_231) (cwV 1 hts gd_L_86 rfl rfl rfl hd_X11_run ⟨Nat.le_of_ble_eq_true rfl, Nat.le_of_ble_eq_true rfl⟩) (x_preV (u := (X, M, τ)) (k := 11) (ci := 11) hC hS hP Nat.zero_lt_one rfl rfl) rfl rfl hl.1 rfl (lv_room (Nat.le_of_ble_eq_true rfl)) dL_law_647 hcz) hS (fun H locs hP hS => ?_)
  refine lv_aload_n hx hb dL_law_650 rfl (lv_at hl 2 rfl) ?_
  refine lv_aload_n hx hb dL_law_651 rfl (lv_at hl 0 rfl) ?_
  refine lv_iload hx hb dL_law_652 (lv_at hl 4 rfl) ?_
  refine lv_iconst (v := 1) hx hb dL_law_654 (by decide) ?_
  refine lv_iadd hx hb dL_law_655 ?_
  obtain ⟨hg_232, hf⟩ := g_gd hf
  refine va_sld (A := g_A G) hx hb hX hbl hbA hS hg_232 dL_law_656 ?_
  obtain ⟨⟨r_233, M_234⟩, hc_235, hf⟩ := g_bindE hf
  refine x_calliD (v := (X_230, M_234, τ)) hd (va_runV_D (As := [.int (xs ((x4 + 1).toNatClampNeg))]) (rest := [.int r_229]) ⟨hx, hb, hml, hown, hts⟩ (ct_X12_run l G X_230 M τ (xs ((x4 + 1).toNatClampNeg)) hc_235) (cwV 1 hts gd_L_89 rfl rfl rfl hd_X12_run ⟨Nat.le_of_ble_eq_true rfl, Nat.le_of_ble_eq_true rfl⟩) (x_preV (u := (X_230, M, τ)) (k := 39) (ci := 12) hC hS hP Nat.zero_lt_one rfl rfl) rfl rfl hl.1 rfl (lv_room (Nat.le_of_ble_eq_true rfl)) dL_law_657 hcz) hS (fun H locs hP hS d hd => ?_)
  have hts := dr_words hts0 d
  have hC := hC0.dr d
  have hX : va_X b L xs (s.setDrawn d) s.heap := hX0
  refine lv_icmp_eq (tgt := 1424) hx hb dL_law_660 (by decide) (fun hc_236 => ?_) (fun hc_236 => ?_)
  · have hf := g_pos hf hc_236
    obtain ⟨x4_237, ex4_237, hf⟩ := g_letE hf
    refine lv_iinc (v := x4_237) (lv' := [(4, .int x4_237), (0, .ref b), (1, .ref (G.2.1 11 0)), (2, .ref (G.2.1 39 0)), (3, .ref (G.2.1 58 0))]) hx hb dL_law_1424 hl (k := 4) rfl (by rw [← ex4_237]; rfl) (by decide) rfl (fun ls hl => ?_)
    refine lv_goto (tgt := 23) hx hb dL_law_1427 (by decide) ?_
    refine W.widen (k := nc + 1) (n := ns + 6) (Nat.le_succ _) (Nat.le_add_right _ 6) ?_
    exact hk23 x4_237 X_230 M_234 τ hf hd hP hS (lv_sub hl [1, 2, 3, 4, 0] rfl)
  · have hf := g_neg hf hc_236
    refine lv_iconst (v := 0) hx hb dL_law_663 (by decide) ?_
    cases hf
def wb_L_law_665 (xs : Nat → Int32) (L : Nat) (k23 : Int32 → SM → SM → SL → Option Int32) (x4 : Int32) (X : SM) (M : SM) (τ : SL) : Option Int32 :=
  if g_in (x4 + 1) L then
  if g_in (x4 + 2) L then
  if g_in (x4 + 3) L then
  (fn_X11_set (xs ((x4 + 1).toNatClampNeg)) (xs ((x4 + 2).toNatClampNeg)) (xs ((x4 + 3).toNatClampNeg)) X).bind fun (r_210, X_211) =>
  g_let (ht r_210 τ) fun τ_213 =>
  g_let ((hv r_210)) fun x5_214 =>
  if g_in (x4 + 1) L then
  if g_in (x4 + 2) L then
  if g_in (x4 + 3) L then
  (fn_X12_set (xs ((x4 + 1).toNatClampNeg)) (xs ((x4 + 2).toNatClampNeg)) (xs ((x4 + 3).toNatClampNeg)) M).bind fun (r_218, M_219) =>
  g_let (fn_X12_thrown M_219) fun r_221 =>
  if r_221 = x5_214 then
  (if x5_214 = 0 then
    (if (lg_cmp (τ_213 58 0 (Int32.toNatClampNeg 0)) (Int32.toInt64 r_218)) = 0 then
      (g_let (x4 + 6) fun x4_227 =>
        k23 x4_227 X_211 M_219 τ_213)
      else
      (some 0))
    else
    (g_let (x4 + 6) fun x4_225 =>
      k23 x4_225 X_211 M_219 τ_213))
  else
  (some 0)
  else none
  else none
  else none
  else none
  else none
  else none
set_option maxRecDepth 100000 in
set_option maxHeartbeats 4000000 in
theorem bk_L_law_665 {p : Program} {l : Launch} {e : Env} {s : State} {m : MethodId} {below : List Frame} {meth : Method} {c : Code} {G : GP} {b L : Nat} {xs : Nat → Int32} (C0 : lw_Cx p l s m meth c b L xs G) {nc ns : Nat} (hn : nc + 1 ≤ 601024 ∧ ns + 6 ≤ 7293034) (k23 : Int32 → SM → SM → SL → Option Int32) (hk23 : ∀ (x4 : Int32) (X M : SM) (τ : SL), k23 x4 X M τ = some 1 → ∀ {d : Drawn} (_ : s.drawn.sameBut d lw_cs) {H : Heap} {locs : List Loc}, va_P G.1 g_cl (wd G (cb X M) τ) H → va_S (g_A G) s.heap H locs → ∀ {ls : Array Slot}, lv_has ls 7 [(0, .ref b), (1, .ref (G.2.1 11 0)), (2, .ref (G.2.1 39 0)), (3, .ref (G.2.1 58 0)), (4, .int x4)] → W p l e room_1 (s.setDrawn d) m #[Value.ref b] below meth c H locs (nc + 1) (ns + 6) (lw_Z below #[Value.ref b] s) (F0 m 23 ls [])) (x4 : Int32) (X M : SM) (τ : SL) (hf : wb_L_law_665 xs L k23 x4 X M τ = some 1) {d : Drawn} (hd : s.drawn.sameBut d lw_cs) {H : Heap} {locs : List Loc} (hP : va_P G.1 g_cl (wd G (cb X M) τ) H) (hS : va_S (g_A G) s.heap H locs) {ls : Array Slot} (hl : lv_has ls 7 [(0, .ref b), (1, .ref (G.2.1 11 0)), (2, .ref (G.2.1 39 0)), (3, .ref (G.2.1 58 0)), (4, .int x4)]) : W p l e room_1 (s.setDrawn d) m #[Value.ref b] below meth c H locs nc ns (lw_Z below #[Value.ref b] s) (F0 m 665 ls []) := by
  obtain ⟨hx, hb, hr, hml, hown, hts0, hX0, hbl, hlocks, hC0, hlt, hz0⟩ := id C0
  have hts := dr_words hts0 d
  have hC := hC0.dr d
  have hX : va_X b L xs (s.setDrawn d) s.heap := hX0
  have hbA : ¬ g_A G b := by show ¬ G.2.2.1 ≤ b; omega
  have hcs : nc + 1 ≤ room_1.cells ∧ ns + 6 ≤ room_1.slots := hn
  have hcz : nc + 0 ≤ room_1.cells ∧ ns + 0 ≤ room_1.slots := ⟨Nat.le_trans (Nat.le_succ _) hn.1, Nat.le_trans (Nat.le_add_right _ 6) hn.2⟩
  have hcy : nc + 1 + 0 ≤ room_1.cells ∧ ns + 6 + 0 ≤ room_1.slots := hn
  unfold wb_L_law_665 at hf
  refine lv_aload_n hx hb dL_law_665 rfl (lv_at hl 1 rfl) ?_
  refine lv_aload_n hx hb dL_law_666 rfl (lv_at hl 0 rfl) ?_
  refine lv_iload hx hb dL_law_667 (lv_at hl 4 rfl) ?_
  refine lv_iconst (v := 1) hx hb dL_law_669 (by decide) ?_
  refine lv_iadd hx hb dL_law_670 ?_
  obtain ⟨hg_207, hf⟩ := g_gd hf
  refine va_sld (A := g_A G) hx hb hX hbl hbA hS hg_207 dL_law_671 ?_
  refine lv_aload_n hx hb dL_law_672 rfl (lv_at hl 0 rfl) ?_
  refine lv_iload hx hb dL_law_673 (lv_at hl 4 rfl) ?_
  refine lv_iconst (v := 2) hx hb dL_law_675 (by decide) ?_
  refine lv_iadd hx hb dL_law_676 ?_
  obtain ⟨hg_208, hf⟩ := g_gd hf
  refine va_sld (A := g_A G) hx hb hX hbl hbA hS hg_208 dL_law_677 ?_
  refine lv_aload_n hx hb dL_law_678 rfl (lv_at hl 0 rfl) ?_
  refine lv_iload hx hb dL_law_679 (lv_at hl 4 rfl) ?_
  refine lv_iconst (v := 3) hx hb dL_law_681 (by decide) ?_
  refine lv_iadd hx hb dL_law_682 ?_
  obtain ⟨hg_209, hf⟩ := g_gd hf
  refine va_sld (A := g_A G) hx hb hX hbl hbA hS hg_209 dL_law_683 ?_
  refine lv_aload_n hx hb dL_law_684 rfl (lv_at hl 3 rfl) ?_
  obtain ⟨⟨r_210, X_211⟩, hc_212, hf⟩ := g_bindE hf
  obtain ⟨τ_213, eτ_213, hf⟩ := g_letE hf
  refine y_calli (v := (X_211, M, ht r_210 τ)) (vx_runSW (As := [.ref (G.2.1 11 0), .int (xs ((x4 + 1).toNatClampNeg)), .int (xs ((x4 + 2).toNatClampNeg)), .int (xs ((x4 + 3).toNatClampNeg)), .ref (G.2.1 58 0)]) (rest := []) ⟨hx, hb, hml, hown, hts⟩ (ct_L_set l hlt G X M τ (xs ((x4 + 1).toNatClampNeg)) (xs ((x4 + 2).toNatClampNeg)) (xs ((x4 + 3).toNatClampNeg)) hc_212) (vx_cwSW 5 hts gdw_set rfl rfl rfl hdl_set ⟨Nat.le_of_ble_eq_true rfl, Nat.le_of_ble_eq_true rfl⟩) (x_pre (u := (X, M, τ)) hC hS hP) rfl rfl hl.1 rfl (lv_room (Nat.le_of_ble_eq_true rfl)) dL_law_685 hcs) hS (fun H locs hP hS => ?_)
  rw [eτ_213] at hP
  obtain ⟨x5_214, ex5_214, hf⟩ := g_letE hf
  refine lv_topE ex5_214 ?_
  refine lv_istore (lv' := [(5, .int x5_214), (0, .ref b), (1, .ref (G.2.1 11 0)), (2, .ref (G.2.1 39 0)), (3, .ref (G.2.1 58 0)), (4, .int x4)]) hx hb dL_law_688 hl (by decide) rfl (fun ls hl => ?_)
  refine lv_aload_n hx hb dL_law_690 rfl (lv_at hl 3 rfl) ?_
  refine lv_aload_n hx hb dL_law_691 rfl (lv_at hl 1 rfl) ?_
  refine lv_iload hx hb dL_law_692 (lv_at hl 5 rfl) ?_
  refine lv_iconst (v := 1) hx hb dL_law_694 (by decide) ?_
  refine lv_iadd hx hb dL_law_695 ?_
  obtain ⟨hg_215, hf⟩ := g_gd hf
  refine va_sld (A := g_A G) hx hb hX hbl hbA hS hg_215 dL_law_696 ?_
  refine lv_aload_n hx hb dL_law_697 rfl (lv_at hl 1 rfl) ?_
  refine lv_iload hx hb dL_law_698 (lv_at hl 5 rfl) ?_
  refine lv_iconst (v := 2) hx hb dL_law_700 (by decide) ?_
  refine lv_iadd hx hb dL_law_701 ?_
  obtain ⟨hg_216, hf⟩ := g_gd hf
  refine va_sld (A := g_A G) hx hb hX hbl hbA hS hg_216 dL_law_702 ?_
  refine lv_aload_n hx hb dL_law_703 rfl (lv_at hl 1 rfl) ?_
  refine lv_iload hx hb dL_law_704 (lv_at hl 5 rfl) ?_
  refine lv_iconst (v := 3) hx hb dL_law_706 (by decide) ?_
  refine lv_iadd hx hb dL_law_707 ?_
  obtain ⟨hg_217, hf⟩ := g_gd hf
  refine va_sld (A := g_A G) hx hb hX hbl hbA hS hg_217 dL_law_708 ?_
  obtain ⟨⟨r_218, M_219⟩, hc_220, hf⟩ := g_bindE hf
  refine x_calli (v := (X_211, M_219, τ_213)) (va_runV (As := [.int (xs ((x4 + 1).toNatClampNeg)), .int (xs ((x4 + 2).toNatClampNeg)), .int (xs ((x4 + 3).toNatClampNeg))]) (rest := []) ⟨hx, hb, hml, hown, hts⟩ (ct_X12_set l G X_211 M τ_213 (xs ((x4 + 1).toNatClampNeg)) (xs ((x4 + 2).toNatClampNeg)) (xs ((x4 + 3).toNatClampNeg)) hc_220) (cwV 3 hts gd_L_95 rfl rfl rfl hd_X12_set ⟨Nat.le_of_ble_eq_true rfl, Nat.le_of_ble_eq_true rfl⟩) (x_preV (u := (X_211, M, τ_213)) (k := 39) (ci := 12) hC hS hP Nat.zero_lt_one rfl rfl) rfl rfl hl.1 rfl (lv_room (Nat.le_of_ble_eq_true rfl)) dL_law_709 hcy) hS (fun H locs hP hS => ?_)
  refine lv_istore (lv' := [(6, .int r_218), (5, .int x5_214), (0, .ref b), (1, .ref (G.2.1 11 0)), (2, .ref (G.2.1 39 0)), (3, .ref (G.2.1 58 0)), (4, .int x4)]) hx hb dL_law_712 hl (by decide) rfl (fun ls hl => ?_)
  refine lv_aload_n hx hb dL_law_714 rfl (lv_at hl 4 rfl) ?_
  obtain ⟨r_221, hc_222, hf⟩ := g_letE hf
  refine x_calli (v := (X_211, M_219, τ_213)) (va_runV (As := []) (rest := []) ⟨hx, hb, hml, hown, hts⟩ (ct_X12_thrown l G X_211 M_219 τ_213  hc_222) (cwV 0 hts gd_L_96 rfl rfl rfl hd_X12_thrown ⟨Nat.le_of_ble_eq_true rfl, Nat.le_of_ble_eq_true rfl⟩) (x_preV (u := (X_211, M_219, τ_213)) (k := 39) (ci := 12) hC hS hP Nat.zero_lt_one rfl rfl) rfl rfl hl.1 rfl (lv_room (Nat.le_of_ble_eq_true rfl)) dL_law_715 hcy) hS (fun H locs hP hS => ?_)
  refine lv_iload hx hb dL_law_718 (lv_at hl 1 rfl) ?_
  refine lv_icmp_eq (tgt := 725) hx hb dL_law_720 (by decide) (fun hc_223 => ?_) (fun hc_223 => ?_)
  · have hf := g_pos hf hc_223
    refine lv_iload hx hb dL_law_725 (lv_at hl 1 rfl) ?_
    refine lv_if_ne (tgt := 742) hx hb dL_law_727 (by decide) (fun hc_224 => ?_) (fun hc_224 => ?_)
    · have hf := g_neg hf hc_224
      refine lv_goto (tgt := 1424) hx hb dL_law_742 (by decide) ?_
      obtain ⟨x4_225, ex4_225, hf⟩ := g_letE hf
      refine lv_iinc (v := x4_225) (lv' := [(4, .int x4_225), (6, .int r_218), (5, .int x5_214), (0, .ref b), (1, .ref (G.2.1 11 0)), (2, .ref (G.2.1 39 0)), (3, .ref (G.2.1 58 0))]) hx hb dL_law_1424 hl (k := 6) rfl (by rw [← ex4_225]; rfl) (by decide) rfl (fun ls hl => ?_)
      refine lv_goto (tgt := 23) hx hb dL_law_1427 (by decide) ?_
      exact hk23 x4_225 X_211 M_219 τ_213 hf hd hP hS (lv_sub hl [3, 4, 5, 6, 0] rfl)
    · have hf := g_pos hf hc_224
      refine lv_aload_n hx hb dL_law_730 rfl (lv_at hl 5 rfl) ?_
      refine lv_iconst (v := 0) hx hb dL_law_731 (by decide) ?_
      refine xlld (k := 58) (n := 1) hx hb hC hP (fun _ _ => rfl) Nat.zero_lt_one (by decide) dL_law_732 ?_
      refine lv_iload hx hb dL_law_733 (lv_at hl 0 rfl) ?_
      refine lv_i2l hx hb dL_law_735 rfl ?_
      refine W.lcmp hx hb dL_law_736 ?_
      refine lv_if_eq (tgt := 742) hx hb dL_law_737 (by decide) (fun hc_226 => ?_) (fun hc_226 => ?_)
      · have hf := g_pos hf hc_226
        refine lv_goto (tgt := 1424) hx hb dL_law_742 (by decide) ?_
        obtain ⟨x4_227, ex4_227, hf⟩ := g_letE hf
        refine lv_iinc (v := x4_227) (lv' := [(4, .int x4_227), (6, .int r_218), (5, .int x5_214), (0, .ref b), (1, .ref (G.2.1 11 0)), (2, .ref (G.2.1 39 0)), (3, .ref (G.2.1 58 0))]) hx hb dL_law_1424 hl (k := 6) rfl (by rw [← ex4_227]; rfl) (by decide) rfl (fun ls hl => ?_)
        refine lv_goto (tgt := 23) hx hb dL_law_1427 (by decide) ?_
        exact hk23 x4_227 X_211 M_219 τ_213 hf hd hP hS (lv_sub hl [3, 4, 5, 6, 0] rfl)
      · have hf := g_neg hf hc_226
        refine lv_iconst (v := 0) hx hb dL_law_740 (by decide) ?_
        cases hf
  · have hf := g_neg hf hc_223
    refine lv_iconst (v := 0) hx hb dL_law_723 (by decide) ?_
    cases hf
def wb_L_law_745 (xs : Nat → Int32) (L : Nat) (k23 : Int32 → SM → SM → SL → Option Int32) (x4 : Int32) (X : SM) (M : SM) (τ : SL) : Option Int32 :=
  if g_in (x4 + 1) L then
  if g_in (x4 + 2) L then
  (fn_X11_register (xs ((x4 + 1).toNatClampNeg)) (xs ((x4 + 2).toNatClampNeg)) X).bind fun r_190 =>
  g_let (ht r_190 τ) fun τ_193 =>
  g_let ((hv r_190)) fun x5_194 =>
  if g_in (x4 + 1) L then
  if g_in (x4 + 2) L then
  (fn_X12_register (xs ((x4 + 1).toNatClampNeg)) (xs ((x4 + 2).toNatClampNeg)) M).bind fun (r_197, M_198) =>
  g_let (fn_X12_thrown M_198) fun r_200 =>
  if r_200 = x5_194 then
  (if x5_194 = 0 then
    (if (lg_cmp (τ_193 58 0 (Int32.toNatClampNeg 0)) (Int32.toInt64 r_197)) = 0 then
      (g_let (x4 + 6) fun x4_206 =>
        k23 x4_206 X M_198 τ_193)
      else
      (some 0))
    else
    (g_let (x4 + 6) fun x4_204 =>
      k23 x4_204 X M_198 τ_193))
  else
  (some 0)
  else none
  else none
  else none
  else none
set_option maxRecDepth 100000 in
set_option maxHeartbeats 4000000 in
theorem bk_L_law_745 {p : Program} {l : Launch} {e : Env} {s : State} {m : MethodId} {below : List Frame} {meth : Method} {c : Code} {G : GP} {b L : Nat} {xs : Nat → Int32} (C0 : lw_Cx p l s m meth c b L xs G) {nc ns : Nat} (hn : nc + 1 ≤ 601024 ∧ ns + 6 ≤ 7293034) (k23 : Int32 → SM → SM → SL → Option Int32) (hk23 : ∀ (x4 : Int32) (X M : SM) (τ : SL), k23 x4 X M τ = some 1 → ∀ {d : Drawn} (_ : s.drawn.sameBut d lw_cs) {H : Heap} {locs : List Loc}, va_P G.1 g_cl (wd G (cb X M) τ) H → va_S (g_A G) s.heap H locs → ∀ {ls : Array Slot}, lv_has ls 7 [(0, .ref b), (1, .ref (G.2.1 11 0)), (2, .ref (G.2.1 39 0)), (3, .ref (G.2.1 58 0)), (4, .int x4)] → W p l e room_1 (s.setDrawn d) m #[Value.ref b] below meth c H locs (nc + 1) (ns + 6) (lw_Z below #[Value.ref b] s) (F0 m 23 ls [])) (x4 : Int32) (X M : SM) (τ : SL) (hf : wb_L_law_745 xs L k23 x4 X M τ = some 1) {d : Drawn} (hd : s.drawn.sameBut d lw_cs) {H : Heap} {locs : List Loc} (hP : va_P G.1 g_cl (wd G (cb X M) τ) H) (hS : va_S (g_A G) s.heap H locs) {ls : Array Slot} (hl : lv_has ls 7 [(0, .ref b), (1, .ref (G.2.1 11 0)), (2, .ref (G.2.1 39 0)), (3, .ref (G.2.1 58 0)), (4, .int x4)]) : W p l e room_1 (s.setDrawn d) m #[Value.ref b] below meth c H locs nc ns (lw_Z below #[Value.ref b] s) (F0 m 745 ls []) := by
  obtain ⟨hx, hb, hr, hml, hown, hts0, hX0, hbl, hlocks, hC0, hlt, hz0⟩ := id C0
  have hts := dr_words hts0 d
  have hC := hC0.dr d
  have hX : va_X b L xs (s.setDrawn d) s.heap := hX0
  have hbA : ¬ g_A G b := by show ¬ G.2.2.1 ≤ b; omega
  have hcs : nc + 1 ≤ room_1.cells ∧ ns + 6 ≤ room_1.slots := hn
  have hcz : nc + 0 ≤ room_1.cells ∧ ns + 0 ≤ room_1.slots := ⟨Nat.le_trans (Nat.le_succ _) hn.1, Nat.le_trans (Nat.le_add_right _ 6) hn.2⟩
  have hcy : nc + 1 + 0 ≤ room_1.cells ∧ ns + 6 + 0 ≤ room_1.slots := hn
  unfold wb_L_law_745 at hf
  refine lv_aload_n hx hb dL_law_745 rfl (lv_at hl 1 rfl) ?_
  refine lv_aload_n hx hb dL_law_746 rfl (lv_at hl 0 rfl) ?_
  refine lv_iload hx hb dL_law_747 (lv_at hl 4 rfl) ?_
  refine lv_iconst (v := 1) hx hb dL_law_749 (by decide) ?_
  refine lv_iadd hx hb dL_law_750 ?_
  obtain ⟨hg_188, hf⟩ := g_gd hf
  refine va_sld (A := g_A G) hx hb hX hbl hbA hS hg_188 dL_law_751 ?_
  refine lv_aload_n hx hb dL_law_752 rfl (lv_at hl 0 rfl) ?_
  refine lv_iload hx hb dL_law_753 (lv_at hl 4 rfl) ?_
  refine lv_iconst (v := 2) hx hb dL_law_755 (by decide) ?_
  refine lv_iadd hx hb dL_law_756 ?_
  obtain ⟨hg_189, hf⟩ := g_gd hf
  refine va_sld (A := g_A G) hx hb hX hbl hbA hS hg_189 dL_law_757 ?_
  refine lv_aload_n hx hb dL_law_758 rfl (lv_at hl 3 rfl) ?_
  obtain ⟨r_190, hc_192, hf⟩ := g_bindE hf
  obtain ⟨τ_193, eτ_193, hf⟩ := g_letE hf
  refine y_calli (v := (X, M, ht r_190 τ)) (vx_runSW (As := [.ref (G.2.1 11 0), .int (xs ((x4 + 1).toNatClampNeg)), .int (xs ((x4 + 2).toNatClampNeg)), .ref (G.2.1 58 0)]) (rest := []) ⟨hx, hb, hml, hown, hts⟩ (ct_L_register l hlt G X M τ (xs ((x4 + 1).toNatClampNeg)) (xs ((x4 + 2).toNatClampNeg)) hc_192) (vx_cwSW 4 hts gdw_register rfl rfl rfl hdl_register ⟨Nat.le_of_ble_eq_true rfl, Nat.le_of_ble_eq_true rfl⟩) (x_pre (u := (X, M, τ)) hC hS hP) rfl rfl hl.1 rfl (lv_room (Nat.le_of_ble_eq_true rfl)) dL_law_759 hcs) hS (fun H locs hP hS => ?_)
  rw [eτ_193] at hP
  obtain ⟨x5_194, ex5_194, hf⟩ := g_letE hf
  refine lv_topE ex5_194 ?_
  refine lv_istore (lv' := [(5, .int x5_194), (0, .ref b), (1, .ref (G.2.1 11 0)), (2, .ref (G.2.1 39 0)), (3, .ref (G.2.1 58 0)), (4, .int x4)]) hx hb dL_law_762 hl (by decide) rfl (fun ls hl => ?_)
  refine lv_aload_n hx hb dL_law_764 rfl (lv_at hl 3 rfl) ?_
  refine lv_aload_n hx hb dL_law_765 rfl (lv_at hl 1 rfl) ?_
  refine lv_iload hx hb dL_law_766 (lv_at hl 5 rfl) ?_
  refine lv_iconst (v := 1) hx hb dL_law_768 (by decide) ?_
  refine lv_iadd hx hb dL_law_769 ?_
  obtain ⟨hg_195, hf⟩ := g_gd hf
  refine va_sld (A := g_A G) hx hb hX hbl hbA hS hg_195 dL_law_770 ?_
  refine lv_aload_n hx hb dL_law_771 rfl (lv_at hl 1 rfl) ?_
  refine lv_iload hx hb dL_law_772 (lv_at hl 5 rfl) ?_
  refine lv_iconst (v := 2) hx hb dL_law_774 (by decide) ?_
  refine lv_iadd hx hb dL_law_775 ?_
  obtain ⟨hg_196, hf⟩ := g_gd hf
  refine va_sld (A := g_A G) hx hb hX hbl hbA hS hg_196 dL_law_776 ?_
  obtain ⟨⟨r_197, M_198⟩, hc_199, hf⟩ := g_bindE hf
  refine x_calli (v := (X, M_198, τ_193)) (va_runV (As := [.int (xs ((x4 + 1).toNatClampNeg)), .int (xs ((x4 + 2).toNatClampNeg))]) (rest := []) ⟨hx, hb, hml, hown, hts⟩ (ct_X12_register l G X M τ_193 (xs ((x4 + 1).toNatClampNeg)) (xs ((x4 + 2).toNatClampNeg)) hc_199) (cwV 2 hts gd_L_102 rfl rfl rfl hd_X12_register ⟨Nat.le_of_ble_eq_true rfl, Nat.le_of_ble_eq_true rfl⟩) (x_preV (u := (X, M, τ_193)) (k := 39) (ci := 12) hC hS hP Nat.zero_lt_one rfl rfl) rfl rfl hl.1 rfl (lv_room (Nat.le_of_ble_eq_true rfl)) dL_law_777 hcy) hS (fun H locs hP hS => ?_)
  refine lv_istore (lv' := [(6, .int r_197), (5, .int x5_194), (0, .ref b), (1, .ref (G.2.1 11 0)), (2, .ref (G.2.1 39 0)), (3, .ref (G.2.1 58 0)), (4, .int x4)]) hx hb dL_law_780 hl (by decide) rfl (fun ls hl => ?_)
  refine lv_aload_n hx hb dL_law_782 rfl (lv_at hl 4 rfl) ?_
  obtain ⟨r_200, hc_201, hf⟩ := g_letE hf
  refine x_calli (v := (X, M_198, τ_193)) (va_runV (As := []) (rest := []) ⟨hx, hb, hml, hown, hts⟩ (ct_X12_thrown l G X M_198 τ_193  hc_201) (cwV 0 hts gd_L_96 rfl rfl rfl hd_X12_thrown ⟨Nat.le_of_ble_eq_true rfl, Nat.le_of_ble_eq_true rfl⟩) (x_preV (u := (X, M_198, τ_193)) (k := 39) (ci := 12) hC hS hP Nat.zero_lt_one rfl rfl) rfl rfl hl.1 rfl (lv_room (Nat.le_of_ble_eq_true rfl)) dL_law_783 hcy) hS (fun H locs hP hS => ?_)
  refine lv_iload hx hb dL_law_786 (lv_at hl 1 rfl) ?_
  refine lv_icmp_eq (tgt := 793) hx hb dL_law_788 (by decide) (fun hc_202 => ?_) (fun hc_202 => ?_)
  · have hf := g_pos hf hc_202
    refine lv_iload hx hb dL_law_793 (lv_at hl 1 rfl) ?_
    refine lv_if_ne (tgt := 810) hx hb dL_law_795 (by decide) (fun hc_203 => ?_) (fun hc_203 => ?_)
    · have hf := g_neg hf hc_203
      refine lv_goto (tgt := 1424) hx hb dL_law_810 (by decide) ?_
      obtain ⟨x4_204, ex4_204, hf⟩ := g_letE hf
      refine lv_iinc (v := x4_204) (lv' := [(4, .int x4_204), (6, .int r_197), (5, .int x5_194), (0, .ref b), (1, .ref (G.2.1 11 0)), (2, .ref (G.2.1 39 0)), (3, .ref (G.2.1 58 0))]) hx hb dL_law_1424 hl (k := 6) rfl (by rw [← ex4_204]; rfl) (by decide) rfl (fun ls hl => ?_)
      refine lv_goto (tgt := 23) hx hb dL_law_1427 (by decide) ?_
      exact hk23 x4_204 X M_198 τ_193 hf hd hP hS (lv_sub hl [3, 4, 5, 6, 0] rfl)
    · have hf := g_pos hf hc_203
      refine lv_aload_n hx hb dL_law_798 rfl (lv_at hl 5 rfl) ?_
      refine lv_iconst (v := 0) hx hb dL_law_799 (by decide) ?_
      refine xlld (k := 58) (n := 1) hx hb hC hP (fun _ _ => rfl) Nat.zero_lt_one (by decide) dL_law_800 ?_
      refine lv_iload hx hb dL_law_801 (lv_at hl 0 rfl) ?_
      refine lv_i2l hx hb dL_law_803 rfl ?_
      refine W.lcmp hx hb dL_law_804 ?_
      refine lv_if_eq (tgt := 810) hx hb dL_law_805 (by decide) (fun hc_205 => ?_) (fun hc_205 => ?_)
      · have hf := g_pos hf hc_205
        refine lv_goto (tgt := 1424) hx hb dL_law_810 (by decide) ?_
        obtain ⟨x4_206, ex4_206, hf⟩ := g_letE hf
        refine lv_iinc (v := x4_206) (lv' := [(4, .int x4_206), (6, .int r_197), (5, .int x5_194), (0, .ref b), (1, .ref (G.2.1 11 0)), (2, .ref (G.2.1 39 0)), (3, .ref (G.2.1 58 0))]) hx hb dL_law_1424 hl (k := 6) rfl (by rw [← ex4_206]; rfl) (by decide) rfl (fun ls hl => ?_)
        refine lv_goto (tgt := 23) hx hb dL_law_1427 (by decide) ?_
        exact hk23 x4_206 X M_198 τ_193 hf hd hP hS (lv_sub hl [3, 4, 5, 6, 0] rfl)
      · have hf := g_neg hf hc_205
        refine lv_iconst (v := 0) hx hb dL_law_808 (by decide) ?_
        cases hf
  · have hf := g_neg hf hc_202
    refine lv_iconst (v := 0) hx hb dL_law_791 (by decide) ?_
    cases hf
def wb_L_law_813 (xs : Nat → Int32) (L : Nat) (k23 : Int32 → SM → SM → SL → Option Int32) (x4 : Int32) (X : SM) (M : SM) (τ : SL) : Option Int32 :=
  if g_in (x4 + 1) L then
  if g_in (x4 + 2) L then
  (fn_X11_cell (xs ((x4 + 1).toNatClampNeg)) (xs ((x4 + 2).toNatClampNeg)) X).bind fun r_171 =>
  g_let (ht r_171 τ) fun τ_174 =>
  g_let ((hv r_171)) fun x5_175 =>
  if g_in (x4 + 1) L then
  if g_in (x4 + 2) L then
  (fn_X12_cell (xs ((x4 + 1).toNatClampNeg)) (xs ((x4 + 2).toNatClampNeg)) M).bind fun (r_178, M_179) =>
  g_let (fn_X12_thrown M_179) fun r_181 =>
  if r_181 = x5_175 then
  (if x5_175 = 0 then
    (if (lg_cmp (τ_174 58 0 (Int32.toNatClampNeg 0)) (Int32.toInt64 r_178)) = 0 then
      (g_let (x4 + 6) fun x4_187 =>
        k23 x4_187 X M_179 τ_174)
      else
      (some 0))
    else
    (g_let (x4 + 6) fun x4_185 =>
      k23 x4_185 X M_179 τ_174))
  else
  (some 0)
  else none
  else none
  else none
  else none
set_option maxRecDepth 100000 in
set_option maxHeartbeats 4000000 in
theorem bk_L_law_813 {p : Program} {l : Launch} {e : Env} {s : State} {m : MethodId} {below : List Frame} {meth : Method} {c : Code} {G : GP} {b L : Nat} {xs : Nat → Int32} (C0 : lw_Cx p l s m meth c b L xs G) {nc ns : Nat} (hn : nc + 1 ≤ 601024 ∧ ns + 6 ≤ 7293034) (k23 : Int32 → SM → SM → SL → Option Int32) (hk23 : ∀ (x4 : Int32) (X M : SM) (τ : SL), k23 x4 X M τ = some 1 → ∀ {d : Drawn} (_ : s.drawn.sameBut d lw_cs) {H : Heap} {locs : List Loc}, va_P G.1 g_cl (wd G (cb X M) τ) H → va_S (g_A G) s.heap H locs → ∀ {ls : Array Slot}, lv_has ls 7 [(0, .ref b), (1, .ref (G.2.1 11 0)), (2, .ref (G.2.1 39 0)), (3, .ref (G.2.1 58 0)), (4, .int x4)] → W p l e room_1 (s.setDrawn d) m #[Value.ref b] below meth c H locs (nc + 1) (ns + 6) (lw_Z below #[Value.ref b] s) (F0 m 23 ls [])) (x4 : Int32) (X M : SM) (τ : SL) (hf : wb_L_law_813 xs L k23 x4 X M τ = some 1) {d : Drawn} (hd : s.drawn.sameBut d lw_cs) {H : Heap} {locs : List Loc} (hP : va_P G.1 g_cl (wd G (cb X M) τ) H) (hS : va_S (g_A G) s.heap H locs) {ls : Array Slot} (hl : lv_has ls 7 [(0, .ref b), (1, .ref (G.2.1 11 0)), (2, .ref (G.2.1 39 0)), (3, .ref (G.2.1 58 0)), (4, .int x4)]) : W p l e room_1 (s.setDrawn d) m #[Value.ref b] below meth c H locs nc ns (lw_Z below #[Value.ref b] s) (F0 m 813 ls []) := by
  obtain ⟨hx, hb, hr, hml, hown, hts0, hX0, hbl, hlocks, hC0, hlt, hz0⟩ := id C0
  have hts := dr_words hts0 d
  have hC := hC0.dr d
  have hX : va_X b L xs (s.setDrawn d) s.heap := hX0
  have hbA : ¬ g_A G b := by show ¬ G.2.2.1 ≤ b; omega
  have hcs : nc + 1 ≤ room_1.cells ∧ ns + 6 ≤ room_1.slots := hn
  have hcz : nc + 0 ≤ room_1.cells ∧ ns + 0 ≤ room_1.slots := ⟨Nat.le_trans (Nat.le_succ _) hn.1, Nat.le_trans (Nat.le_add_right _ 6) hn.2⟩
  have hcy : nc + 1 + 0 ≤ room_1.cells ∧ ns + 6 + 0 ≤ room_1.slots := hn
  unfold wb_L_law_813 at hf
  refine lv_aload_n hx hb dL_law_813 rfl (lv_at hl 1 rfl) ?_
  refine lv_aload_n hx hb dL_law_814 rfl (lv_at hl 0 rfl) ?_
  refine lv_iload hx hb dL_law_815 (lv_at hl 4 rfl) ?_
  refine lv_iconst (v := 1) hx hb dL_law_817 (by decide) ?_
  refine lv_iadd hx hb dL_law_818 ?_
  obtain ⟨hg_169, hf⟩ := g_gd hf
  refine va_sld (A := g_A G) hx hb hX hbl hbA hS hg_169 dL_law_819 ?_
  refine lv_aload_n hx hb dL_law_820 rfl (lv_at hl 0 rfl) ?_
  refine lv_iload hx hb dL_law_821 (lv_at hl 4 rfl) ?_
  refine lv_iconst (v := 2) hx hb dL_law_823 (by decide) ?_
  refine lv_iadd hx hb dL_law_824 ?_
  obtain ⟨hg_170, hf⟩ := g_gd hf
  refine va_sld (A := g_A G) hx hb hX hbl hbA hS hg_170 dL_law_825 ?_
  refine lv_aload_n hx hb dL_law_826 rfl (lv_at hl 3 rfl) ?_
  obtain ⟨r_171, hc_173, hf⟩ := g_bindE hf
  obtain ⟨τ_174, eτ_174, hf⟩ := g_letE hf
  refine y_calli (v := (X, M, ht r_171 τ)) (vx_runSW (As := [.ref (G.2.1 11 0), .int (xs ((x4 + 1).toNatClampNeg)), .int (xs ((x4 + 2).toNatClampNeg)), .ref (G.2.1 58 0)]) (rest := []) ⟨hx, hb, hml, hown, hts⟩ (ct_L_cell l hlt G X M τ (xs ((x4 + 1).toNatClampNeg)) (xs ((x4 + 2).toNatClampNeg)) hc_173) (vx_cwSW 4 hts gdw_cell rfl rfl rfl hdl_cell ⟨Nat.le_of_ble_eq_true rfl, Nat.le_of_ble_eq_true rfl⟩) (x_pre (u := (X, M, τ)) hC hS hP) rfl rfl hl.1 rfl (lv_room (Nat.le_of_ble_eq_true rfl)) dL_law_827 hcs) hS (fun H locs hP hS => ?_)
  rw [eτ_174] at hP
  obtain ⟨x5_175, ex5_175, hf⟩ := g_letE hf
  refine lv_topE ex5_175 ?_
  refine lv_istore (lv' := [(5, .int x5_175), (0, .ref b), (1, .ref (G.2.1 11 0)), (2, .ref (G.2.1 39 0)), (3, .ref (G.2.1 58 0)), (4, .int x4)]) hx hb dL_law_830 hl (by decide) rfl (fun ls hl => ?_)
  refine lv_aload_n hx hb dL_law_832 rfl (lv_at hl 3 rfl) ?_
  refine lv_aload_n hx hb dL_law_833 rfl (lv_at hl 1 rfl) ?_
  refine lv_iload hx hb dL_law_834 (lv_at hl 5 rfl) ?_
  refine lv_iconst (v := 1) hx hb dL_law_836 (by decide) ?_
  refine lv_iadd hx hb dL_law_837 ?_
  obtain ⟨hg_176, hf⟩ := g_gd hf
  refine va_sld (A := g_A G) hx hb hX hbl hbA hS hg_176 dL_law_838 ?_
  refine lv_aload_n hx hb dL_law_839 rfl (lv_at hl 1 rfl) ?_
  refine lv_iload hx hb dL_law_840 (lv_at hl 5 rfl) ?_
  refine lv_iconst (v := 2) hx hb dL_law_842 (by decide) ?_
  refine lv_iadd hx hb dL_law_843 ?_
  obtain ⟨hg_177, hf⟩ := g_gd hf
  refine va_sld (A := g_A G) hx hb hX hbl hbA hS hg_177 dL_law_844 ?_
  obtain ⟨⟨r_178, M_179⟩, hc_180, hf⟩ := g_bindE hf
  refine x_calli (v := (X, M_179, τ_174)) (va_runV (As := [.int (xs ((x4 + 1).toNatClampNeg)), .int (xs ((x4 + 2).toNatClampNeg))]) (rest := []) ⟨hx, hb, hml, hown, hts⟩ (ct_X12_cell l G X M τ_174 (xs ((x4 + 1).toNatClampNeg)) (xs ((x4 + 2).toNatClampNeg)) hc_180) (cwV 2 hts gd_L_105 rfl rfl rfl hd_X12_cell ⟨Nat.le_of_ble_eq_true rfl, Nat.le_of_ble_eq_true rfl⟩) (x_preV (u := (X, M, τ_174)) (k := 39) (ci := 12) hC hS hP Nat.zero_lt_one rfl rfl) rfl rfl hl.1 rfl (lv_room (Nat.le_of_ble_eq_true rfl)) dL_law_845 hcy) hS (fun H locs hP hS => ?_)
  refine lv_istore (lv' := [(6, .int r_178), (5, .int x5_175), (0, .ref b), (1, .ref (G.2.1 11 0)), (2, .ref (G.2.1 39 0)), (3, .ref (G.2.1 58 0)), (4, .int x4)]) hx hb dL_law_848 hl (by decide) rfl (fun ls hl => ?_)
  refine lv_aload_n hx hb dL_law_850 rfl (lv_at hl 4 rfl) ?_
  obtain ⟨r_181, hc_182, hf⟩ := g_letE hf
  refine x_calli (v := (X, M_179, τ_174)) (va_runV (As := []) (rest := []) ⟨hx, hb, hml, hown, hts⟩ (ct_X12_thrown l G X M_179 τ_174  hc_182) (cwV 0 hts gd_L_96 rfl rfl rfl hd_X12_thrown ⟨Nat.le_of_ble_eq_true rfl, Nat.le_of_ble_eq_true rfl⟩) (x_preV (u := (X, M_179, τ_174)) (k := 39) (ci := 12) hC hS hP Nat.zero_lt_one rfl rfl) rfl rfl hl.1 rfl (lv_room (Nat.le_of_ble_eq_true rfl)) dL_law_851 hcy) hS (fun H locs hP hS => ?_)
  refine lv_iload hx hb dL_law_854 (lv_at hl 1 rfl) ?_
  refine lv_icmp_eq (tgt := 861) hx hb dL_law_856 (by decide) (fun hc_183 => ?_) (fun hc_183 => ?_)
  · have hf := g_pos hf hc_183
    refine lv_iload hx hb dL_law_861 (lv_at hl 1 rfl) ?_
    refine lv_if_ne (tgt := 878) hx hb dL_law_863 (by decide) (fun hc_184 => ?_) (fun hc_184 => ?_)
    · have hf := g_neg hf hc_184
      refine lv_goto (tgt := 1424) hx hb dL_law_878 (by decide) ?_
      obtain ⟨x4_185, ex4_185, hf⟩ := g_letE hf
      refine lv_iinc (v := x4_185) (lv' := [(4, .int x4_185), (6, .int r_178), (5, .int x5_175), (0, .ref b), (1, .ref (G.2.1 11 0)), (2, .ref (G.2.1 39 0)), (3, .ref (G.2.1 58 0))]) hx hb dL_law_1424 hl (k := 6) rfl (by rw [← ex4_185]; rfl) (by decide) rfl (fun ls hl => ?_)
      refine lv_goto (tgt := 23) hx hb dL_law_1427 (by decide) ?_
      exact hk23 x4_185 X M_179 τ_174 hf hd hP hS (lv_sub hl [3, 4, 5, 6, 0] rfl)
    · have hf := g_pos hf hc_184
      refine lv_aload_n hx hb dL_law_866 rfl (lv_at hl 5 rfl) ?_
      refine lv_iconst (v := 0) hx hb dL_law_867 (by decide) ?_
      refine xlld (k := 58) (n := 1) hx hb hC hP (fun _ _ => rfl) Nat.zero_lt_one (by decide) dL_law_868 ?_
      refine lv_iload hx hb dL_law_869 (lv_at hl 0 rfl) ?_
      refine lv_i2l hx hb dL_law_871 rfl ?_
      refine W.lcmp hx hb dL_law_872 ?_
      refine lv_if_eq (tgt := 878) hx hb dL_law_873 (by decide) (fun hc_186 => ?_) (fun hc_186 => ?_)
      · have hf := g_pos hf hc_186
        refine lv_goto (tgt := 1424) hx hb dL_law_878 (by decide) ?_
        obtain ⟨x4_187, ex4_187, hf⟩ := g_letE hf
        refine lv_iinc (v := x4_187) (lv' := [(4, .int x4_187), (6, .int r_178), (5, .int x5_175), (0, .ref b), (1, .ref (G.2.1 11 0)), (2, .ref (G.2.1 39 0)), (3, .ref (G.2.1 58 0))]) hx hb dL_law_1424 hl (k := 6) rfl (by rw [← ex4_187]; rfl) (by decide) rfl (fun ls hl => ?_)
        refine lv_goto (tgt := 23) hx hb dL_law_1427 (by decide) ?_
        exact hk23 x4_187 X M_179 τ_174 hf hd hP hS (lv_sub hl [3, 4, 5, 6, 0] rfl)
      · have hf := g_neg hf hc_186
        refine lv_iconst (v := 0) hx hb dL_law_876 (by decide) ?_
        cases hf
  · have hf := g_neg hf hc_183
    refine lv_iconst (v := 0) hx hb dL_law_859 (by decide) ?_
    cases hf
def wb_L_law_881 (xs : Nat → Int32) (L : Nat) (k23 : Int32 → SM → SM → SL → Option Int32) (x4 : Int32) (X : SM) (M : SM) (τ : SL) : Option Int32 :=
  if g_in (x4 + 1) L then
  if g_in (x4 + 2) L then
  if g_in (x4 + 3) L then
  (fn_X11_code (xs ((x4 + 1).toNatClampNeg)) (xs ((x4 + 2).toNatClampNeg)) (xs ((x4 + 3).toNatClampNeg)) X).bind fun r_151 =>
  g_let (ht r_151 τ) fun τ_154 =>
  g_let ((hv r_151)) fun x5_155 =>
  if g_in (x4 + 1) L then
  if g_in (x4 + 2) L then
  if g_in (x4 + 3) L then
  (fn_X12_code (xs ((x4 + 1).toNatClampNeg)) (xs ((x4 + 2).toNatClampNeg)) (xs ((x4 + 3).toNatClampNeg)) M).bind fun (r_159, M_160) =>
  g_let (fn_X12_thrown M_160) fun r_162 =>
  if r_162 = x5_155 then
  (if x5_155 = 0 then
    (if (lg_cmp (τ_154 58 0 (Int32.toNatClampNeg 0)) (Int32.toInt64 r_159)) = 0 then
      (g_let (x4 + 6) fun x4_168 =>
        k23 x4_168 X M_160 τ_154)
      else
      (some 0))
    else
    (g_let (x4 + 6) fun x4_166 =>
      k23 x4_166 X M_160 τ_154))
  else
  (some 0)
  else none
  else none
  else none
  else none
  else none
  else none
set_option maxRecDepth 100000 in
set_option maxHeartbeats 4000000 in
theorem bk_L_law_881 {p : Program} {l : Launch} {e : Env} {s : State} {m : MethodId} {below : List Frame} {meth : Method} {c : Code} {G : GP} {b L : Nat} {xs : Nat → Int32} (C0 : lw_Cx p l s m meth c b L xs G) {nc ns : Nat} (hn : nc + 1 ≤ 601024 ∧ ns + 6 ≤ 7293034) (k23 : Int32 → SM → SM → SL → Option Int32) (hk23 : ∀ (x4 : Int32) (X M : SM) (τ : SL), k23 x4 X M τ = some 1 → ∀ {d : Drawn} (_ : s.drawn.sameBut d lw_cs) {H : Heap} {locs : List Loc}, va_P G.1 g_cl (wd G (cb X M) τ) H → va_S (g_A G) s.heap H locs → ∀ {ls : Array Slot}, lv_has ls 7 [(0, .ref b), (1, .ref (G.2.1 11 0)), (2, .ref (G.2.1 39 0)), (3, .ref (G.2.1 58 0)), (4, .int x4)] → W p l e room_1 (s.setDrawn d) m #[Value.ref b] below meth c H locs (nc + 1) (ns + 6) (lw_Z below #[Value.ref b] s) (F0 m 23 ls [])) (x4 : Int32) (X M : SM) (τ : SL) (hf : wb_L_law_881 xs L k23 x4 X M τ = some 1) {d : Drawn} (hd : s.drawn.sameBut d lw_cs) {H : Heap} {locs : List Loc} (hP : va_P G.1 g_cl (wd G (cb X M) τ) H) (hS : va_S (g_A G) s.heap H locs) {ls : Array Slot} (hl : lv_has ls 7 [(0, .ref b), (1, .ref (G.2.1 11 0)), (2, .ref (G.2.1 39 0)), (3, .ref (G.2.1 58 0)), (4, .int x4)]) : W p l e room_1 (s.setDrawn d) m #[Value.ref b] below meth c H locs nc ns (lw_Z below #[Value.ref b] s) (F0 m 881 ls []) := by
  obtain ⟨hx, hb, hr, hml, hown, hts0, hX0, hbl, hlocks, hC0, hlt, hz0⟩ := id C0
  have hts := dr_words hts0 d
  have hC := hC0.dr d
  have hX : va_X b L xs (s.setDrawn d) s.heap := hX0
  have hbA : ¬ g_A G b := by show ¬ G.2.2.1 ≤ b; omega
  have hcs : nc + 1 ≤ room_1.cells ∧ ns + 6 ≤ room_1.slots := hn
  have hcz : nc + 0 ≤ room_1.cells ∧ ns + 0 ≤ room_1.slots := ⟨Nat.le_trans (Nat.le_succ _) hn.1, Nat.le_trans (Nat.le_add_right _ 6) hn.2⟩
  have hcy : nc + 1 + 0 ≤ room_1.cells ∧ ns + 6 + 0 ≤ room_1.slots := hn
  unfold wb_L_law_881 at hf
  refine lv_aload_n hx hb dL_law_881 rfl (lv_at hl 1 rfl) ?_
  refine lv_aload_n hx hb dL_law_882 rfl (lv_at hl 0 rfl) ?_
  refine lv_iload hx hb dL_law_883 (lv_at hl 4 rfl) ?_
  refine lv_iconst (v := 1) hx hb dL_law_885 (by decide) ?_
  refine lv_iadd hx hb dL_law_886 ?_
  obtain ⟨hg_148, hf⟩ := g_gd hf
  refine va_sld (A := g_A G) hx hb hX hbl hbA hS hg_148 dL_law_887 ?_
  refine lv_aload_n hx hb dL_law_888 rfl (lv_at hl 0 rfl) ?_
  refine lv_iload hx hb dL_law_889 (lv_at hl 4 rfl) ?_
  refine lv_iconst (v := 2) hx hb dL_law_891 (by decide) ?_
  refine lv_iadd hx hb dL_law_892 ?_
  obtain ⟨hg_149, hf⟩ := g_gd hf
  refine va_sld (A := g_A G) hx hb hX hbl hbA hS hg_149 dL_law_893 ?_
  refine lv_aload_n hx hb dL_law_894 rfl (lv_at hl 0 rfl) ?_
  refine lv_iload hx hb dL_law_895 (lv_at hl 4 rfl) ?_
  refine lv_iconst (v := 3) hx hb dL_law_897 (by decide) ?_
  refine lv_iadd hx hb dL_law_898 ?_
  obtain ⟨hg_150, hf⟩ := g_gd hf
  refine va_sld (A := g_A G) hx hb hX hbl hbA hS hg_150 dL_law_899 ?_
  refine lv_aload_n hx hb dL_law_900 rfl (lv_at hl 3 rfl) ?_
  obtain ⟨r_151, hc_153, hf⟩ := g_bindE hf
  obtain ⟨τ_154, eτ_154, hf⟩ := g_letE hf
  refine y_calli (v := (X, M, ht r_151 τ)) (vx_runSW (As := [.ref (G.2.1 11 0), .int (xs ((x4 + 1).toNatClampNeg)), .int (xs ((x4 + 2).toNatClampNeg)), .int (xs ((x4 + 3).toNatClampNeg)), .ref (G.2.1 58 0)]) (rest := []) ⟨hx, hb, hml, hown, hts⟩ (ct_L_code l hlt G X M τ (xs ((x4 + 1).toNatClampNeg)) (xs ((x4 + 2).toNatClampNeg)) (xs ((x4 + 3).toNatClampNeg)) hc_153) (vx_cwSW 5 hts gdw_code rfl rfl rfl hdl_code ⟨Nat.le_of_ble_eq_true rfl, Nat.le_of_ble_eq_true rfl⟩) (x_pre (u := (X, M, τ)) hC hS hP) rfl rfl hl.1 rfl (lv_room (Nat.le_of_ble_eq_true rfl)) dL_law_901 hcs) hS (fun H locs hP hS => ?_)
  rw [eτ_154] at hP
  obtain ⟨x5_155, ex5_155, hf⟩ := g_letE hf
  refine lv_topE ex5_155 ?_
  refine lv_istore (lv' := [(5, .int x5_155), (0, .ref b), (1, .ref (G.2.1 11 0)), (2, .ref (G.2.1 39 0)), (3, .ref (G.2.1 58 0)), (4, .int x4)]) hx hb dL_law_904 hl (by decide) rfl (fun ls hl => ?_)
  refine lv_aload_n hx hb dL_law_906 rfl (lv_at hl 3 rfl) ?_
  refine lv_aload_n hx hb dL_law_907 rfl (lv_at hl 1 rfl) ?_
  refine lv_iload hx hb dL_law_908 (lv_at hl 5 rfl) ?_
  refine lv_iconst (v := 1) hx hb dL_law_910 (by decide) ?_
  refine lv_iadd hx hb dL_law_911 ?_
  obtain ⟨hg_156, hf⟩ := g_gd hf
  refine va_sld (A := g_A G) hx hb hX hbl hbA hS hg_156 dL_law_912 ?_
  refine lv_aload_n hx hb dL_law_913 rfl (lv_at hl 1 rfl) ?_
  refine lv_iload hx hb dL_law_914 (lv_at hl 5 rfl) ?_
  refine lv_iconst (v := 2) hx hb dL_law_916 (by decide) ?_
  refine lv_iadd hx hb dL_law_917 ?_
  obtain ⟨hg_157, hf⟩ := g_gd hf
  refine va_sld (A := g_A G) hx hb hX hbl hbA hS hg_157 dL_law_918 ?_
  refine lv_aload_n hx hb dL_law_919 rfl (lv_at hl 1 rfl) ?_
  refine lv_iload hx hb dL_law_920 (lv_at hl 5 rfl) ?_
  refine lv_iconst (v := 3) hx hb dL_law_922 (by decide) ?_
  refine lv_iadd hx hb dL_law_923 ?_
  obtain ⟨hg_158, hf⟩ := g_gd hf
  refine va_sld (A := g_A G) hx hb hX hbl hbA hS hg_158 dL_law_924 ?_
  obtain ⟨⟨r_159, M_160⟩, hc_161, hf⟩ := g_bindE hf
  refine x_calli (v := (X, M_160, τ_154)) (va_runV (As := [.int (xs ((x4 + 1).toNatClampNeg)), .int (xs ((x4 + 2).toNatClampNeg)), .int (xs ((x4 + 3).toNatClampNeg))]) (rest := []) ⟨hx, hb, hml, hown, hts⟩ (ct_X12_code l G X M τ_154 (xs ((x4 + 1).toNatClampNeg)) (xs ((x4 + 2).toNatClampNeg)) (xs ((x4 + 3).toNatClampNeg)) hc_161) (cwV 3 hts gd_L_108 rfl rfl rfl hd_X12_code ⟨Nat.le_of_ble_eq_true rfl, Nat.le_of_ble_eq_true rfl⟩) (x_preV (u := (X, M, τ_154)) (k := 39) (ci := 12) hC hS hP Nat.zero_lt_one rfl rfl) rfl rfl hl.1 rfl (lv_room (Nat.le_of_ble_eq_true rfl)) dL_law_925 hcy) hS (fun H locs hP hS => ?_)
  refine lv_istore (lv' := [(6, .int r_159), (5, .int x5_155), (0, .ref b), (1, .ref (G.2.1 11 0)), (2, .ref (G.2.1 39 0)), (3, .ref (G.2.1 58 0)), (4, .int x4)]) hx hb dL_law_928 hl (by decide) rfl (fun ls hl => ?_)
  refine lv_aload_n hx hb dL_law_930 rfl (lv_at hl 4 rfl) ?_
  obtain ⟨r_162, hc_163, hf⟩ := g_letE hf
  refine x_calli (v := (X, M_160, τ_154)) (va_runV (As := []) (rest := []) ⟨hx, hb, hml, hown, hts⟩ (ct_X12_thrown l G X M_160 τ_154  hc_163) (cwV 0 hts gd_L_96 rfl rfl rfl hd_X12_thrown ⟨Nat.le_of_ble_eq_true rfl, Nat.le_of_ble_eq_true rfl⟩) (x_preV (u := (X, M_160, τ_154)) (k := 39) (ci := 12) hC hS hP Nat.zero_lt_one rfl rfl) rfl rfl hl.1 rfl (lv_room (Nat.le_of_ble_eq_true rfl)) dL_law_931 hcy) hS (fun H locs hP hS => ?_)
  refine lv_iload hx hb dL_law_934 (lv_at hl 1 rfl) ?_
  refine lv_icmp_eq (tgt := 941) hx hb dL_law_936 (by decide) (fun hc_164 => ?_) (fun hc_164 => ?_)
  · have hf := g_pos hf hc_164
    refine lv_iload hx hb dL_law_941 (lv_at hl 1 rfl) ?_
    refine lv_if_ne (tgt := 958) hx hb dL_law_943 (by decide) (fun hc_165 => ?_) (fun hc_165 => ?_)
    · have hf := g_neg hf hc_165
      refine lv_goto (tgt := 1424) hx hb dL_law_958 (by decide) ?_
      obtain ⟨x4_166, ex4_166, hf⟩ := g_letE hf
      refine lv_iinc (v := x4_166) (lv' := [(4, .int x4_166), (6, .int r_159), (5, .int x5_155), (0, .ref b), (1, .ref (G.2.1 11 0)), (2, .ref (G.2.1 39 0)), (3, .ref (G.2.1 58 0))]) hx hb dL_law_1424 hl (k := 6) rfl (by rw [← ex4_166]; rfl) (by decide) rfl (fun ls hl => ?_)
      refine lv_goto (tgt := 23) hx hb dL_law_1427 (by decide) ?_
      exact hk23 x4_166 X M_160 τ_154 hf hd hP hS (lv_sub hl [3, 4, 5, 6, 0] rfl)
    · have hf := g_pos hf hc_165
      refine lv_aload_n hx hb dL_law_946 rfl (lv_at hl 5 rfl) ?_
      refine lv_iconst (v := 0) hx hb dL_law_947 (by decide) ?_
      refine xlld (k := 58) (n := 1) hx hb hC hP (fun _ _ => rfl) Nat.zero_lt_one (by decide) dL_law_948 ?_
      refine lv_iload hx hb dL_law_949 (lv_at hl 0 rfl) ?_
      refine lv_i2l hx hb dL_law_951 rfl ?_
      refine W.lcmp hx hb dL_law_952 ?_
      refine lv_if_eq (tgt := 958) hx hb dL_law_953 (by decide) (fun hc_167 => ?_) (fun hc_167 => ?_)
      · have hf := g_pos hf hc_167
        refine lv_goto (tgt := 1424) hx hb dL_law_958 (by decide) ?_
        obtain ⟨x4_168, ex4_168, hf⟩ := g_letE hf
        refine lv_iinc (v := x4_168) (lv' := [(4, .int x4_168), (6, .int r_159), (5, .int x5_155), (0, .ref b), (1, .ref (G.2.1 11 0)), (2, .ref (G.2.1 39 0)), (3, .ref (G.2.1 58 0))]) hx hb dL_law_1424 hl (k := 6) rfl (by rw [← ex4_168]; rfl) (by decide) rfl (fun ls hl => ?_)
        refine lv_goto (tgt := 23) hx hb dL_law_1427 (by decide) ?_
        exact hk23 x4_168 X M_160 τ_154 hf hd hP hS (lv_sub hl [3, 4, 5, 6, 0] rfl)
      · have hf := g_neg hf hc_167
        refine lv_iconst (v := 0) hx hb dL_law_956 (by decide) ?_
        cases hf
  · have hf := g_neg hf hc_164
    refine lv_iconst (v := 0) hx hb dL_law_939 (by decide) ?_
    cases hf
def wb_L_law_961 (xs : Nat → Int32) (L : Nat) (k23 : Int32 → SM → SM → SL → Option Int32) (x4 : Int32) (X : SM) (M : SM) (τ : SL) : Option Int32 :=
  if g_in (x4 + 1) L then
  if g_in (x4 + 2) L then
  (fn_X11_thread (xs ((x4 + 1).toNatClampNeg)) (xs ((x4 + 2).toNatClampNeg)) X).bind fun r_139 =>
  if g_in (x4 + 1) L then
  if g_in (x4 + 2) L then
  (fn_X12_thread (xs ((x4 + 1).toNatClampNeg)) (xs ((x4 + 2).toNatClampNeg)) M).bind fun (r_143, M_144) =>
  if r_139 = r_143 then
  (g_let (x4 + 6) fun x4_147 =>
    k23 x4_147 X M_144 τ)
  else
  (some 0)
  else none
  else none
  else none
  else none
set_option maxRecDepth 100000 in
set_option maxHeartbeats 4000000 in
theorem bk_L_law_961 {p : Program} {l : Launch} {e : Env} {s : State} {m : MethodId} {below : List Frame} {meth : Method} {c : Code} {G : GP} {b L : Nat} {xs : Nat → Int32} (C0 : lw_Cx p l s m meth c b L xs G) {nc ns : Nat} (hn : nc + 1 ≤ 601024 ∧ ns + 6 ≤ 7293034) (k23 : Int32 → SM → SM → SL → Option Int32) (hk23 : ∀ (x4 : Int32) (X M : SM) (τ : SL), k23 x4 X M τ = some 1 → ∀ {d : Drawn} (_ : s.drawn.sameBut d lw_cs) {H : Heap} {locs : List Loc}, va_P G.1 g_cl (wd G (cb X M) τ) H → va_S (g_A G) s.heap H locs → ∀ {ls : Array Slot}, lv_has ls 7 [(0, .ref b), (1, .ref (G.2.1 11 0)), (2, .ref (G.2.1 39 0)), (3, .ref (G.2.1 58 0)), (4, .int x4)] → W p l e room_1 (s.setDrawn d) m #[Value.ref b] below meth c H locs (nc + 1) (ns + 6) (lw_Z below #[Value.ref b] s) (F0 m 23 ls [])) (x4 : Int32) (X M : SM) (τ : SL) (hf : wb_L_law_961 xs L k23 x4 X M τ = some 1) {d : Drawn} (hd : s.drawn.sameBut d lw_cs) {H : Heap} {locs : List Loc} (hP : va_P G.1 g_cl (wd G (cb X M) τ) H) (hS : va_S (g_A G) s.heap H locs) {ls : Array Slot} (hl : lv_has ls 7 [(0, .ref b), (1, .ref (G.2.1 11 0)), (2, .ref (G.2.1 39 0)), (3, .ref (G.2.1 58 0)), (4, .int x4)]) : W p l e room_1 (s.setDrawn d) m #[Value.ref b] below meth c H locs nc ns (lw_Z below #[Value.ref b] s) (F0 m 961 ls []) := by
  obtain ⟨hx, hb, hr, hml, hown, hts0, hX0, hbl, hlocks, hC0, hlt, hz0⟩ := id C0
  have hts := dr_words hts0 d
  have hC := hC0.dr d
  have hX : va_X b L xs (s.setDrawn d) s.heap := hX0
  have hbA : ¬ g_A G b := by show ¬ G.2.2.1 ≤ b; omega
  have hcs : nc + 1 ≤ room_1.cells ∧ ns + 6 ≤ room_1.slots := hn
  have hcz : nc + 0 ≤ room_1.cells ∧ ns + 0 ≤ room_1.slots := ⟨Nat.le_trans (Nat.le_succ _) hn.1, Nat.le_trans (Nat.le_add_right _ 6) hn.2⟩
  have hcy : nc + 1 + 0 ≤ room_1.cells ∧ ns + 6 + 0 ≤ room_1.slots := hn
  unfold wb_L_law_961 at hf
  refine lv_aload_n hx hb dL_law_961 rfl (lv_at hl 1 rfl) ?_
  refine lv_aload_n hx hb dL_law_962 rfl (lv_at hl 0 rfl) ?_
  refine lv_iload hx hb dL_law_963 (lv_at hl 4 rfl) ?_
  refine lv_iconst (v := 1) hx hb dL_law_965 (by decide) ?_
  refine lv_iadd hx hb dL_law_966 ?_
  obtain ⟨hg_137, hf⟩ := g_gd hf
  refine va_sld (A := g_A G) hx hb hX hbl hbA hS hg_137 dL_law_967 ?_
  refine lv_aload_n hx hb dL_law_968 rfl (lv_at hl 0 rfl) ?_
  refine lv_iload hx hb dL_law_969 (lv_at hl 4 rfl) ?_
  refine lv_iconst (v := 2) hx hb dL_law_971 (by decide) ?_
  refine lv_iadd hx hb dL_law_972 ?_
  obtain ⟨hg_138, hf⟩ := g_gd hf
  refine va_sld (A := g_A G) hx hb hX hbl hbA hS hg_138 dL_law_973 ?_
  obtain ⟨r_139, hc_140, hf⟩ := g_bindE hf
  refine x_calli (v := (X, M, τ)) (va_runV (As := [.int (xs ((x4 + 1).toNatClampNeg)), .int (xs ((x4 + 2).toNatClampNeg))]) (rest := []) ⟨hx, hb, hml, hown, hts⟩ (ct_X11_thread l G X M τ (xs ((x4 + 1).toNatClampNeg)) (xs ((x4 + 2).toNatClampNeg)) hc_140) (cwV 2 hts gd_L_109 rfl rfl rfl hd_X11_thread ⟨Nat.le_of_ble_eq_true rfl, Nat.le_of_ble_eq_true rfl⟩) (x_preV (u := (X, M, τ)) (k := 11) (ci := 11) hC hS hP Nat.zero_lt_one rfl rfl) rfl rfl hl.1 rfl (lv_room (Nat.le_of_ble_eq_true rfl)) dL_law_974 hcz) hS (fun H locs hP hS => ?_)
  refine lv_aload_n hx hb dL_law_977 rfl (lv_at hl 2 rfl) ?_
  refine lv_aload_n hx hb dL_law_978 rfl (lv_at hl 0 rfl) ?_
  refine lv_iload hx hb dL_law_979 (lv_at hl 4 rfl) ?_
  refine lv_iconst (v := 1) hx hb dL_law_981 (by decide) ?_
  refine lv_iadd hx hb dL_law_982 ?_
  obtain ⟨hg_141, hf⟩ := g_gd hf
  refine va_sld (A := g_A G) hx hb hX hbl hbA hS hg_141 dL_law_983 ?_
  refine lv_aload_n hx hb dL_law_984 rfl (lv_at hl 0 rfl) ?_
  refine lv_iload hx hb dL_law_985 (lv_at hl 4 rfl) ?_
  refine lv_iconst (v := 2) hx hb dL_law_987 (by decide) ?_
  refine lv_iadd hx hb dL_law_988 ?_
  obtain ⟨hg_142, hf⟩ := g_gd hf
  refine va_sld (A := g_A G) hx hb hX hbl hbA hS hg_142 dL_law_989 ?_
  obtain ⟨⟨r_143, M_144⟩, hc_145, hf⟩ := g_bindE hf
  refine x_calli (v := (X, M_144, τ)) (va_runV (As := [.int (xs ((x4 + 1).toNatClampNeg)), .int (xs ((x4 + 2).toNatClampNeg))]) (rest := [.int r_139]) ⟨hx, hb, hml, hown, hts⟩ (ct_X12_thread l G X M τ (xs ((x4 + 1).toNatClampNeg)) (xs ((x4 + 2).toNatClampNeg)) hc_145) (cwV 2 hts gd_L_112 rfl rfl rfl hd_X12_thread ⟨Nat.le_of_ble_eq_true rfl, Nat.le_of_ble_eq_true rfl⟩) (x_preV (u := (X, M, τ)) (k := 39) (ci := 12) hC hS hP Nat.zero_lt_one rfl rfl) rfl rfl hl.1 rfl (lv_room (Nat.le_of_ble_eq_true rfl)) dL_law_990 hcz) hS (fun H locs hP hS => ?_)
  refine lv_icmp_eq (tgt := 1424) hx hb dL_law_993 (by decide) (fun hc_146 => ?_) (fun hc_146 => ?_)
  · have hf := g_pos hf hc_146
    obtain ⟨x4_147, ex4_147, hf⟩ := g_letE hf
    refine lv_iinc (v := x4_147) (lv' := [(4, .int x4_147), (0, .ref b), (1, .ref (G.2.1 11 0)), (2, .ref (G.2.1 39 0)), (3, .ref (G.2.1 58 0))]) hx hb dL_law_1424 hl (k := 4) rfl (by rw [← ex4_147]; rfl) (by decide) rfl (fun ls hl => ?_)
    refine lv_goto (tgt := 23) hx hb dL_law_1427 (by decide) ?_
    refine W.widen (k := nc + 1) (n := ns + 6) (Nat.le_succ _) (Nat.le_add_right _ 6) ?_
    exact hk23 x4_147 X M_144 τ hf hd hP hS (lv_sub hl [1, 2, 3, 4, 0] rfl)
  · have hf := g_neg hf hc_146
    refine lv_iconst (v := 0) hx hb dL_law_996 (by decide) ?_
    cases hf
def wb_L_law_998 (xs : Nat → Int32) (L : Nat) (k23 : Int32 → SM → SM → SL → Option Int32) (x4 : Int32) (X : SM) (M : SM) (τ : SL) : Option Int32 :=
  if g_in (x4 + 1) L then
  if g_in (x4 + 2) L then
  (fn_X11_level (xs ((x4 + 1).toNatClampNeg)) (xs ((x4 + 2).toNatClampNeg)) X).bind fun r_128 =>
  if g_in (x4 + 1) L then
  if g_in (x4 + 2) L then
  (fn_X12_level (xs ((x4 + 1).toNatClampNeg)) (xs ((x4 + 2).toNatClampNeg)) M).bind fun (r_132, M_133) =>
  if r_128 = r_132 then
  (g_let (x4 + 6) fun x4_136 =>
    k23 x4_136 X M_133 τ)
  else
  (some 0)
  else none
  else none
  else none
  else none
set_option maxRecDepth 100000 in
set_option maxHeartbeats 4000000 in
theorem bk_L_law_998 {p : Program} {l : Launch} {e : Env} {s : State} {m : MethodId} {below : List Frame} {meth : Method} {c : Code} {G : GP} {b L : Nat} {xs : Nat → Int32} (C0 : lw_Cx p l s m meth c b L xs G) {nc ns : Nat} (hn : nc + 1 ≤ 601024 ∧ ns + 6 ≤ 7293034) (k23 : Int32 → SM → SM → SL → Option Int32) (hk23 : ∀ (x4 : Int32) (X M : SM) (τ : SL), k23 x4 X M τ = some 1 → ∀ {d : Drawn} (_ : s.drawn.sameBut d lw_cs) {H : Heap} {locs : List Loc}, va_P G.1 g_cl (wd G (cb X M) τ) H → va_S (g_A G) s.heap H locs → ∀ {ls : Array Slot}, lv_has ls 7 [(0, .ref b), (1, .ref (G.2.1 11 0)), (2, .ref (G.2.1 39 0)), (3, .ref (G.2.1 58 0)), (4, .int x4)] → W p l e room_1 (s.setDrawn d) m #[Value.ref b] below meth c H locs (nc + 1) (ns + 6) (lw_Z below #[Value.ref b] s) (F0 m 23 ls [])) (x4 : Int32) (X M : SM) (τ : SL) (hf : wb_L_law_998 xs L k23 x4 X M τ = some 1) {d : Drawn} (hd : s.drawn.sameBut d lw_cs) {H : Heap} {locs : List Loc} (hP : va_P G.1 g_cl (wd G (cb X M) τ) H) (hS : va_S (g_A G) s.heap H locs) {ls : Array Slot} (hl : lv_has ls 7 [(0, .ref b), (1, .ref (G.2.1 11 0)), (2, .ref (G.2.1 39 0)), (3, .ref (G.2.1 58 0)), (4, .int x4)]) : W p l e room_1 (s.setDrawn d) m #[Value.ref b] below meth c H locs nc ns (lw_Z below #[Value.ref b] s) (F0 m 998 ls []) := by
  obtain ⟨hx, hb, hr, hml, hown, hts0, hX0, hbl, hlocks, hC0, hlt, hz0⟩ := id C0
  have hts := dr_words hts0 d
  have hC := hC0.dr d
  have hX : va_X b L xs (s.setDrawn d) s.heap := hX0
  have hbA : ¬ g_A G b := by show ¬ G.2.2.1 ≤ b; omega
  have hcs : nc + 1 ≤ room_1.cells ∧ ns + 6 ≤ room_1.slots := hn
  have hcz : nc + 0 ≤ room_1.cells ∧ ns + 0 ≤ room_1.slots := ⟨Nat.le_trans (Nat.le_succ _) hn.1, Nat.le_trans (Nat.le_add_right _ 6) hn.2⟩
  have hcy : nc + 1 + 0 ≤ room_1.cells ∧ ns + 6 + 0 ≤ room_1.slots := hn
  unfold wb_L_law_998 at hf
  refine lv_aload_n hx hb dL_law_998 rfl (lv_at hl 1 rfl) ?_
  refine lv_aload_n hx hb dL_law_999 rfl (lv_at hl 0 rfl) ?_
  refine lv_iload hx hb dL_law_1000 (lv_at hl 4 rfl) ?_
  refine lv_iconst (v := 1) hx hb dL_law_1002 (by decide) ?_
  refine lv_iadd hx hb dL_law_1003 ?_
  obtain ⟨hg_126, hf⟩ := g_gd hf
  refine va_sld (A := g_A G) hx hb hX hbl hbA hS hg_126 dL_law_1004 ?_
  refine lv_aload_n hx hb dL_law_1005 rfl (lv_at hl 0 rfl) ?_
  refine lv_iload hx hb dL_law_1006 (lv_at hl 4 rfl) ?_
  refine lv_iconst (v := 2) hx hb dL_law_1008 (by decide) ?_
  refine lv_iadd hx hb dL_law_1009 ?_
  obtain ⟨hg_127, hf⟩ := g_gd hf
  refine va_sld (A := g_A G) hx hb hX hbl hbA hS hg_127 dL_law_1010 ?_
  obtain ⟨r_128, hc_129, hf⟩ := g_bindE hf
  refine x_calli (v := (X, M, τ)) (va_runV (As := [.int (xs ((x4 + 1).toNatClampNeg)), .int (xs ((x4 + 2).toNatClampNeg))]) (rest := []) ⟨hx, hb, hml, hown, hts⟩ (ct_X11_level l G X M τ (xs ((x4 + 1).toNatClampNeg)) (xs ((x4 + 2).toNatClampNeg)) hc_129) (cwV 2 hts gd_L_113 rfl rfl rfl hd_X11_level ⟨Nat.le_of_ble_eq_true rfl, Nat.le_of_ble_eq_true rfl⟩) (x_preV (u := (X, M, τ)) (k := 11) (ci := 11) hC hS hP Nat.zero_lt_one rfl rfl) rfl rfl hl.1 rfl (lv_room (Nat.le_of_ble_eq_true rfl)) dL_law_1011 hcz) hS (fun H locs hP hS => ?_)
  refine lv_aload_n hx hb dL_law_1014 rfl (lv_at hl 2 rfl) ?_
  refine lv_aload_n hx hb dL_law_1015 rfl (lv_at hl 0 rfl) ?_
  refine lv_iload hx hb dL_law_1016 (lv_at hl 4 rfl) ?_
  refine lv_iconst (v := 1) hx hb dL_law_1018 (by decide) ?_
  refine lv_iadd hx hb dL_law_1019 ?_
  obtain ⟨hg_130, hf⟩ := g_gd hf
  refine va_sld (A := g_A G) hx hb hX hbl hbA hS hg_130 dL_law_1020 ?_
  refine lv_aload_n hx hb dL_law_1021 rfl (lv_at hl 0 rfl) ?_
  refine lv_iload hx hb dL_law_1022 (lv_at hl 4 rfl) ?_
  refine lv_iconst (v := 2) hx hb dL_law_1024 (by decide) ?_
  refine lv_iadd hx hb dL_law_1025 ?_
  obtain ⟨hg_131, hf⟩ := g_gd hf
  refine va_sld (A := g_A G) hx hb hX hbl hbA hS hg_131 dL_law_1026 ?_
  obtain ⟨⟨r_132, M_133⟩, hc_134, hf⟩ := g_bindE hf
  refine x_calli (v := (X, M_133, τ)) (va_runV (As := [.int (xs ((x4 + 1).toNatClampNeg)), .int (xs ((x4 + 2).toNatClampNeg))]) (rest := [.int r_128]) ⟨hx, hb, hml, hown, hts⟩ (ct_X12_level l G X M τ (xs ((x4 + 1).toNatClampNeg)) (xs ((x4 + 2).toNatClampNeg)) hc_134) (cwV 2 hts gd_L_116 rfl rfl rfl hd_X12_level ⟨Nat.le_of_ble_eq_true rfl, Nat.le_of_ble_eq_true rfl⟩) (x_preV (u := (X, M, τ)) (k := 39) (ci := 12) hC hS hP Nat.zero_lt_one rfl rfl) rfl rfl hl.1 rfl (lv_room (Nat.le_of_ble_eq_true rfl)) dL_law_1027 hcz) hS (fun H locs hP hS => ?_)
  refine lv_icmp_eq (tgt := 1424) hx hb dL_law_1030 (by decide) (fun hc_135 => ?_) (fun hc_135 => ?_)
  · have hf := g_pos hf hc_135
    obtain ⟨x4_136, ex4_136, hf⟩ := g_letE hf
    refine lv_iinc (v := x4_136) (lv' := [(4, .int x4_136), (0, .ref b), (1, .ref (G.2.1 11 0)), (2, .ref (G.2.1 39 0)), (3, .ref (G.2.1 58 0))]) hx hb dL_law_1424 hl (k := 4) rfl (by rw [← ex4_136]; rfl) (by decide) rfl (fun ls hl => ?_)
    refine lv_goto (tgt := 23) hx hb dL_law_1427 (by decide) ?_
    refine W.widen (k := nc + 1) (n := ns + 6) (Nat.le_succ _) (Nat.le_add_right _ 6) ?_
    exact hk23 x4_136 X M_133 τ hf hd hP hS (lv_sub hl [1, 2, 3, 4, 0] rfl)
  · have hf := g_neg hf hc_135
    refine lv_iconst (v := 0) hx hb dL_law_1033 (by decide) ?_
    cases hf
def wb_L_law_1035 (xs : Nat → Int32) (L : Nat) (k23 : Int32 → SM → SM → SL → Option Int32) (x4 : Int32) (X : SM) (M : SM) (τ : SL) : Option Int32 :=
  if g_in (x4 + 1) L then
  if g_in (x4 + 2) L then
  (fn_X11_edge (xs ((x4 + 1).toNatClampNeg)) (xs ((x4 + 2).toNatClampNeg)) X).bind fun r_117 =>
  if g_in (x4 + 1) L then
  if g_in (x4 + 2) L then
  (fn_X12_edge (xs ((x4 + 1).toNatClampNeg)) (xs ((x4 + 2).toNatClampNeg)) M).bind fun (r_121, M_122) =>
  if r_117 = r_121 then
  (g_let (x4 + 6) fun x4_125 =>
    k23 x4_125 X M_122 τ)
  else
  (some 0)
  else none
  else none
  else none
  else none
set_option maxRecDepth 100000 in
set_option maxHeartbeats 4000000 in
theorem bk_L_law_1035 {p : Program} {l : Launch} {e : Env} {s : State} {m : MethodId} {below : List Frame} {meth : Method} {c : Code} {G : GP} {b L : Nat} {xs : Nat → Int32} (C0 : lw_Cx p l s m meth c b L xs G) {nc ns : Nat} (hn : nc + 1 ≤ 601024 ∧ ns + 6 ≤ 7293034) (k23 : Int32 → SM → SM → SL → Option Int32) (hk23 : ∀ (x4 : Int32) (X M : SM) (τ : SL), k23 x4 X M τ = some 1 → ∀ {d : Drawn} (_ : s.drawn.sameBut d lw_cs) {H : Heap} {locs : List Loc}, va_P G.1 g_cl (wd G (cb X M) τ) H → va_S (g_A G) s.heap H locs → ∀ {ls : Array Slot}, lv_has ls 7 [(0, .ref b), (1, .ref (G.2.1 11 0)), (2, .ref (G.2.1 39 0)), (3, .ref (G.2.1 58 0)), (4, .int x4)] → W p l e room_1 (s.setDrawn d) m #[Value.ref b] below meth c H locs (nc + 1) (ns + 6) (lw_Z below #[Value.ref b] s) (F0 m 23 ls [])) (x4 : Int32) (X M : SM) (τ : SL) (hf : wb_L_law_1035 xs L k23 x4 X M τ = some 1) {d : Drawn} (hd : s.drawn.sameBut d lw_cs) {H : Heap} {locs : List Loc} (hP : va_P G.1 g_cl (wd G (cb X M) τ) H) (hS : va_S (g_A G) s.heap H locs) {ls : Array Slot} (hl : lv_has ls 7 [(0, .ref b), (1, .ref (G.2.1 11 0)), (2, .ref (G.2.1 39 0)), (3, .ref (G.2.1 58 0)), (4, .int x4)]) : W p l e room_1 (s.setDrawn d) m #[Value.ref b] below meth c H locs nc ns (lw_Z below #[Value.ref b] s) (F0 m 1035 ls []) := by
  obtain ⟨hx, hb, hr, hml, hown, hts0, hX0, hbl, hlocks, hC0, hlt, hz0⟩ := id C0
  have hts := dr_words hts0 d
  have hC := hC0.dr d
  have hX : va_X b L xs (s.setDrawn d) s.heap := hX0
  have hbA : ¬ g_A G b := by show ¬ G.2.2.1 ≤ b; omega
  have hcs : nc + 1 ≤ room_1.cells ∧ ns + 6 ≤ room_1.slots := hn
  have hcz : nc + 0 ≤ room_1.cells ∧ ns + 0 ≤ room_1.slots := ⟨Nat.le_trans (Nat.le_succ _) hn.1, Nat.le_trans (Nat.le_add_right _ 6) hn.2⟩
  have hcy : nc + 1 + 0 ≤ room_1.cells ∧ ns + 6 + 0 ≤ room_1.slots := hn
  unfold wb_L_law_1035 at hf
  refine lv_aload_n hx hb dL_law_1035 rfl (lv_at hl 1 rfl) ?_
  refine lv_aload_n hx hb dL_law_1036 rfl (lv_at hl 0 rfl) ?_
  refine lv_iload hx hb dL_law_1037 (lv_at hl 4 rfl) ?_
  refine lv_iconst (v := 1) hx hb dL_law_1039 (by decide) ?_
  refine lv_iadd hx hb dL_law_1040 ?_
  obtain ⟨hg_115, hf⟩ := g_gd hf
  refine va_sld (A := g_A G) hx hb hX hbl hbA hS hg_115 dL_law_1041 ?_
  refine lv_aload_n hx hb dL_law_1042 rfl (lv_at hl 0 rfl) ?_
  refine lv_iload hx hb dL_law_1043 (lv_at hl 4 rfl) ?_
  refine lv_iconst (v := 2) hx hb dL_law_1045 (by decide) ?_
  refine lv_iadd hx hb dL_law_1046 ?_
  obtain ⟨hg_116, hf⟩ := g_gd hf
  refine va_sld (A := g_A G) hx hb hX hbl hbA hS hg_116 dL_law_1047 ?_
  obtain ⟨r_117, hc_118, hf⟩ := g_bindE hf
  refine x_calli (v := (X, M, τ)) (va_runV (As := [.int (xs ((x4 + 1).toNatClampNeg)), .int (xs ((x4 + 2).toNatClampNeg))]) (rest := []) ⟨hx, hb, hml, hown, hts⟩ (ct_X11_edge l G X M τ (xs ((x4 + 1).toNatClampNeg)) (xs ((x4 + 2).toNatClampNeg)) hc_118) (cwV 2 hts gd_L_117 rfl rfl rfl hd_X11_edge ⟨Nat.le_of_ble_eq_true rfl, Nat.le_of_ble_eq_true rfl⟩) (x_preV (u := (X, M, τ)) (k := 11) (ci := 11) hC hS hP Nat.zero_lt_one rfl rfl) rfl rfl hl.1 rfl (lv_room (Nat.le_of_ble_eq_true rfl)) dL_law_1048 hcz) hS (fun H locs hP hS => ?_)
  refine lv_aload_n hx hb dL_law_1051 rfl (lv_at hl 2 rfl) ?_
  refine lv_aload_n hx hb dL_law_1052 rfl (lv_at hl 0 rfl) ?_
  refine lv_iload hx hb dL_law_1053 (lv_at hl 4 rfl) ?_
  refine lv_iconst (v := 1) hx hb dL_law_1055 (by decide) ?_
  refine lv_iadd hx hb dL_law_1056 ?_
  obtain ⟨hg_119, hf⟩ := g_gd hf
  refine va_sld (A := g_A G) hx hb hX hbl hbA hS hg_119 dL_law_1057 ?_
  refine lv_aload_n hx hb dL_law_1058 rfl (lv_at hl 0 rfl) ?_
  refine lv_iload hx hb dL_law_1059 (lv_at hl 4 rfl) ?_
  refine lv_iconst (v := 2) hx hb dL_law_1061 (by decide) ?_
  refine lv_iadd hx hb dL_law_1062 ?_
  obtain ⟨hg_120, hf⟩ := g_gd hf
  refine va_sld (A := g_A G) hx hb hX hbl hbA hS hg_120 dL_law_1063 ?_
  obtain ⟨⟨r_121, M_122⟩, hc_123, hf⟩ := g_bindE hf
  refine x_calli (v := (X, M_122, τ)) (va_runV (As := [.int (xs ((x4 + 1).toNatClampNeg)), .int (xs ((x4 + 2).toNatClampNeg))]) (rest := [.int r_117]) ⟨hx, hb, hml, hown, hts⟩ (ct_X12_edge l G X M τ (xs ((x4 + 1).toNatClampNeg)) (xs ((x4 + 2).toNatClampNeg)) hc_123) (cwV 2 hts gd_L_120 rfl rfl rfl hd_X12_edge ⟨Nat.le_of_ble_eq_true rfl, Nat.le_of_ble_eq_true rfl⟩) (x_preV (u := (X, M, τ)) (k := 39) (ci := 12) hC hS hP Nat.zero_lt_one rfl rfl) rfl rfl hl.1 rfl (lv_room (Nat.le_of_ble_eq_true rfl)) dL_law_1064 hcz) hS (fun H locs hP hS => ?_)
  refine lv_icmp_eq (tgt := 1424) hx hb dL_law_1067 (by decide) (fun hc_124 => ?_) (fun hc_124 => ?_)
  · have hf := g_pos hf hc_124
    obtain ⟨x4_125, ex4_125, hf⟩ := g_letE hf
    refine lv_iinc (v := x4_125) (lv' := [(4, .int x4_125), (0, .ref b), (1, .ref (G.2.1 11 0)), (2, .ref (G.2.1 39 0)), (3, .ref (G.2.1 58 0))]) hx hb dL_law_1424 hl (k := 4) rfl (by rw [← ex4_125]; rfl) (by decide) rfl (fun ls hl => ?_)
    refine lv_goto (tgt := 23) hx hb dL_law_1427 (by decide) ?_
    refine W.widen (k := nc + 1) (n := ns + 6) (Nat.le_succ _) (Nat.le_add_right _ 6) ?_
    exact hk23 x4_125 X M_122 τ hf hd hP hS (lv_sub hl [1, 2, 3, 4, 0] rfl)
  · have hf := g_neg hf hc_124
    refine lv_iconst (v := 0) hx hb dL_law_1070 (by decide) ?_
    cases hf
def wb_L_law_1072 (xs : Nat → Int32) (L : Nat) (k23 : Int32 → SM → SM → SL → Option Int32) (x4 : Int32) (X : SM) (M : SM) (τ : SL) : Option Int32 :=
  if g_in (x4 + 1) L then
  if g_in (x4 + 2) L then
  (fn_X11_channel (xs ((x4 + 1).toNatClampNeg)) (xs ((x4 + 2).toNatClampNeg)) X).bind fun r_106 =>
  if g_in (x4 + 1) L then
  if g_in (x4 + 2) L then
  (fn_X12_channel (xs ((x4 + 1).toNatClampNeg)) (xs ((x4 + 2).toNatClampNeg)) M).bind fun (r_110, M_111) =>
  if r_106 = r_110 then
  (g_let (x4 + 6) fun x4_114 =>
    k23 x4_114 X M_111 τ)
  else
  (some 0)
  else none
  else none
  else none
  else none
set_option maxRecDepth 100000 in
set_option maxHeartbeats 4000000 in
theorem bk_L_law_1072 {p : Program} {l : Launch} {e : Env} {s : State} {m : MethodId} {below : List Frame} {meth : Method} {c : Code} {G : GP} {b L : Nat} {xs : Nat → Int32} (C0 : lw_Cx p l s m meth c b L xs G) {nc ns : Nat} (hn : nc + 1 ≤ 601024 ∧ ns + 6 ≤ 7293034) (k23 : Int32 → SM → SM → SL → Option Int32) (hk23 : ∀ (x4 : Int32) (X M : SM) (τ : SL), k23 x4 X M τ = some 1 → ∀ {d : Drawn} (_ : s.drawn.sameBut d lw_cs) {H : Heap} {locs : List Loc}, va_P G.1 g_cl (wd G (cb X M) τ) H → va_S (g_A G) s.heap H locs → ∀ {ls : Array Slot}, lv_has ls 7 [(0, .ref b), (1, .ref (G.2.1 11 0)), (2, .ref (G.2.1 39 0)), (3, .ref (G.2.1 58 0)), (4, .int x4)] → W p l e room_1 (s.setDrawn d) m #[Value.ref b] below meth c H locs (nc + 1) (ns + 6) (lw_Z below #[Value.ref b] s) (F0 m 23 ls [])) (x4 : Int32) (X M : SM) (τ : SL) (hf : wb_L_law_1072 xs L k23 x4 X M τ = some 1) {d : Drawn} (hd : s.drawn.sameBut d lw_cs) {H : Heap} {locs : List Loc} (hP : va_P G.1 g_cl (wd G (cb X M) τ) H) (hS : va_S (g_A G) s.heap H locs) {ls : Array Slot} (hl : lv_has ls 7 [(0, .ref b), (1, .ref (G.2.1 11 0)), (2, .ref (G.2.1 39 0)), (3, .ref (G.2.1 58 0)), (4, .int x4)]) : W p l e room_1 (s.setDrawn d) m #[Value.ref b] below meth c H locs nc ns (lw_Z below #[Value.ref b] s) (F0 m 1072 ls []) := by
  obtain ⟨hx, hb, hr, hml, hown, hts0, hX0, hbl, hlocks, hC0, hlt, hz0⟩ := id C0
  have hts := dr_words hts0 d
  have hC := hC0.dr d
  have hX : va_X b L xs (s.setDrawn d) s.heap := hX0
  have hbA : ¬ g_A G b := by show ¬ G.2.2.1 ≤ b; omega
  have hcs : nc + 1 ≤ room_1.cells ∧ ns + 6 ≤ room_1.slots := hn
  have hcz : nc + 0 ≤ room_1.cells ∧ ns + 0 ≤ room_1.slots := ⟨Nat.le_trans (Nat.le_succ _) hn.1, Nat.le_trans (Nat.le_add_right _ 6) hn.2⟩
  have hcy : nc + 1 + 0 ≤ room_1.cells ∧ ns + 6 + 0 ≤ room_1.slots := hn
  unfold wb_L_law_1072 at hf
  refine lv_aload_n hx hb dL_law_1072 rfl (lv_at hl 1 rfl) ?_
  refine lv_aload_n hx hb dL_law_1073 rfl (lv_at hl 0 rfl) ?_
  refine lv_iload hx hb dL_law_1074 (lv_at hl 4 rfl) ?_
  refine lv_iconst (v := 1) hx hb dL_law_1076 (by decide) ?_
  refine lv_iadd hx hb dL_law_1077 ?_
  obtain ⟨hg_104, hf⟩ := g_gd hf
  refine va_sld (A := g_A G) hx hb hX hbl hbA hS hg_104 dL_law_1078 ?_
  refine lv_aload_n hx hb dL_law_1079 rfl (lv_at hl 0 rfl) ?_
  refine lv_iload hx hb dL_law_1080 (lv_at hl 4 rfl) ?_
  refine lv_iconst (v := 2) hx hb dL_law_1082 (by decide) ?_
  refine lv_iadd hx hb dL_law_1083 ?_
  obtain ⟨hg_105, hf⟩ := g_gd hf
  refine va_sld (A := g_A G) hx hb hX hbl hbA hS hg_105 dL_law_1084 ?_
  obtain ⟨r_106, hc_107, hf⟩ := g_bindE hf
  refine x_calli (v := (X, M, τ)) (va_runV (As := [.int (xs ((x4 + 1).toNatClampNeg)), .int (xs ((x4 + 2).toNatClampNeg))]) (rest := []) ⟨hx, hb, hml, hown, hts⟩ (ct_X11_channel l G X M τ (xs ((x4 + 1).toNatClampNeg)) (xs ((x4 + 2).toNatClampNeg)) hc_107) (cwV 2 hts gd_L_121 rfl rfl rfl hd_X11_channel ⟨Nat.le_of_ble_eq_true rfl, Nat.le_of_ble_eq_true rfl⟩) (x_preV (u := (X, M, τ)) (k := 11) (ci := 11) hC hS hP Nat.zero_lt_one rfl rfl) rfl rfl hl.1 rfl (lv_room (Nat.le_of_ble_eq_true rfl)) dL_law_1085 hcz) hS (fun H locs hP hS => ?_)
  refine lv_aload_n hx hb dL_law_1088 rfl (lv_at hl 2 rfl) ?_
  refine lv_aload_n hx hb dL_law_1089 rfl (lv_at hl 0 rfl) ?_
  refine lv_iload hx hb dL_law_1090 (lv_at hl 4 rfl) ?_
  refine lv_iconst (v := 1) hx hb dL_law_1092 (by decide) ?_
  refine lv_iadd hx hb dL_law_1093 ?_
  obtain ⟨hg_108, hf⟩ := g_gd hf
  refine va_sld (A := g_A G) hx hb hX hbl hbA hS hg_108 dL_law_1094 ?_
  refine lv_aload_n hx hb dL_law_1095 rfl (lv_at hl 0 rfl) ?_
  refine lv_iload hx hb dL_law_1096 (lv_at hl 4 rfl) ?_
  refine lv_iconst (v := 2) hx hb dL_law_1098 (by decide) ?_
  refine lv_iadd hx hb dL_law_1099 ?_
  obtain ⟨hg_109, hf⟩ := g_gd hf
  refine va_sld (A := g_A G) hx hb hX hbl hbA hS hg_109 dL_law_1100 ?_
  obtain ⟨⟨r_110, M_111⟩, hc_112, hf⟩ := g_bindE hf
  refine x_calli (v := (X, M_111, τ)) (va_runV (As := [.int (xs ((x4 + 1).toNatClampNeg)), .int (xs ((x4 + 2).toNatClampNeg))]) (rest := [.int r_106]) ⟨hx, hb, hml, hown, hts⟩ (ct_X12_channel l G X M τ (xs ((x4 + 1).toNatClampNeg)) (xs ((x4 + 2).toNatClampNeg)) hc_112) (cwV 2 hts gd_L_124 rfl rfl rfl hd_X12_channel ⟨Nat.le_of_ble_eq_true rfl, Nat.le_of_ble_eq_true rfl⟩) (x_preV (u := (X, M, τ)) (k := 39) (ci := 12) hC hS hP Nat.zero_lt_one rfl rfl) rfl rfl hl.1 rfl (lv_room (Nat.le_of_ble_eq_true rfl)) dL_law_1101 hcz) hS (fun H locs hP hS => ?_)
  refine lv_icmp_eq (tgt := 1424) hx hb dL_law_1104 (by decide) (fun hc_113 => ?_) (fun hc_113 => ?_)
  · have hf := g_pos hf hc_113
    obtain ⟨x4_114, ex4_114, hf⟩ := g_letE hf
    refine lv_iinc (v := x4_114) (lv' := [(4, .int x4_114), (0, .ref b), (1, .ref (G.2.1 11 0)), (2, .ref (G.2.1 39 0)), (3, .ref (G.2.1 58 0))]) hx hb dL_law_1424 hl (k := 4) rfl (by rw [← ex4_114]; rfl) (by decide) rfl (fun ls hl => ?_)
    refine lv_goto (tgt := 23) hx hb dL_law_1427 (by decide) ?_
    refine W.widen (k := nc + 1) (n := ns + 6) (Nat.le_succ _) (Nat.le_add_right _ 6) ?_
    exact hk23 x4_114 X M_111 τ hf hd hP hS (lv_sub hl [1, 2, 3, 4, 0] rfl)
  · have hf := g_neg hf hc_113
    refine lv_iconst (v := 0) hx hb dL_law_1107 (by decide) ?_
    cases hf
def wb_L_law_1109 (xs : Nat → Int32) (L : Nat) (k23 : Int32 → SM → SM → SL → Option Int32) (x4 : Int32) (X : SM) (M : SM) (τ : SL) : Option Int32 :=
  if g_in (x4 + 1) L then
  (fn_X11_table (xs ((x4 + 1).toNatClampNeg)) X).bind fun r_96 =>
  if g_in (x4 + 1) L then
  (fn_X12_table (xs ((x4 + 1).toNatClampNeg)) M).bind fun (r_99, M_100) =>
  if r_96 = r_99 then
  (g_let (x4 + 6) fun x4_103 =>
    k23 x4_103 X M_100 τ)
  else
  (some 0)
  else none
  else none
set_option maxRecDepth 100000 in
set_option maxHeartbeats 4000000 in
theorem bk_L_law_1109 {p : Program} {l : Launch} {e : Env} {s : State} {m : MethodId} {below : List Frame} {meth : Method} {c : Code} {G : GP} {b L : Nat} {xs : Nat → Int32} (C0 : lw_Cx p l s m meth c b L xs G) {nc ns : Nat} (hn : nc + 1 ≤ 601024 ∧ ns + 6 ≤ 7293034) (k23 : Int32 → SM → SM → SL → Option Int32) (hk23 : ∀ (x4 : Int32) (X M : SM) (τ : SL), k23 x4 X M τ = some 1 → ∀ {d : Drawn} (_ : s.drawn.sameBut d lw_cs) {H : Heap} {locs : List Loc}, va_P G.1 g_cl (wd G (cb X M) τ) H → va_S (g_A G) s.heap H locs → ∀ {ls : Array Slot}, lv_has ls 7 [(0, .ref b), (1, .ref (G.2.1 11 0)), (2, .ref (G.2.1 39 0)), (3, .ref (G.2.1 58 0)), (4, .int x4)] → W p l e room_1 (s.setDrawn d) m #[Value.ref b] below meth c H locs (nc + 1) (ns + 6) (lw_Z below #[Value.ref b] s) (F0 m 23 ls [])) (x4 : Int32) (X M : SM) (τ : SL) (hf : wb_L_law_1109 xs L k23 x4 X M τ = some 1) {d : Drawn} (hd : s.drawn.sameBut d lw_cs) {H : Heap} {locs : List Loc} (hP : va_P G.1 g_cl (wd G (cb X M) τ) H) (hS : va_S (g_A G) s.heap H locs) {ls : Array Slot} (hl : lv_has ls 7 [(0, .ref b), (1, .ref (G.2.1 11 0)), (2, .ref (G.2.1 39 0)), (3, .ref (G.2.1 58 0)), (4, .int x4)]) : W p l e room_1 (s.setDrawn d) m #[Value.ref b] below meth c H locs nc ns (lw_Z below #[Value.ref b] s) (F0 m 1109 ls []) := by
  obtain ⟨hx, hb, hr, hml, hown, hts0, hX0, hbl, hlocks, hC0, hlt, hz0⟩ := id C0
  have hts := dr_words hts0 d
  have hC := hC0.dr d
  have hX : va_X b L xs (s.setDrawn d) s.heap := hX0
  have hbA : ¬ g_A G b := by show ¬ G.2.2.1 ≤ b; omega
  have hcs : nc + 1 ≤ room_1.cells ∧ ns + 6 ≤ room_1.slots := hn
  have hcz : nc + 0 ≤ room_1.cells ∧ ns + 0 ≤ room_1.slots := ⟨Nat.le_trans (Nat.le_succ _) hn.1, Nat.le_trans (Nat.le_add_right _ 6) hn.2⟩
  have hcy : nc + 1 + 0 ≤ room_1.cells ∧ ns + 6 + 0 ≤ room_1.slots := hn
  unfold wb_L_law_1109 at hf
  refine lv_aload_n hx hb dL_law_1109 rfl (lv_at hl 1 rfl) ?_
  refine lv_aload_n hx hb dL_law_1110 rfl (lv_at hl 0 rfl) ?_
  refine lv_iload hx hb dL_law_1111 (lv_at hl 4 rfl) ?_
  refine lv_iconst (v := 1) hx hb dL_law_1113 (by decide) ?_
  refine lv_iadd hx hb dL_law_1114 ?_
  obtain ⟨hg_95, hf⟩ := g_gd hf
  refine va_sld (A := g_A G) hx hb hX hbl hbA hS hg_95 dL_law_1115 ?_
  obtain ⟨r_96, hc_97, hf⟩ := g_bindE hf
  refine x_calli (v := (X, M, τ)) (va_runV (As := [.int (xs ((x4 + 1).toNatClampNeg))]) (rest := []) ⟨hx, hb, hml, hown, hts⟩ (ct_X11_table l G X M τ (xs ((x4 + 1).toNatClampNeg)) hc_97) (cwV 1 hts gd_L_125 rfl rfl rfl hd_X11_table ⟨Nat.le_of_ble_eq_true rfl, Nat.le_of_ble_eq_true rfl⟩) (x_preV (u := (X, M, τ)) (k := 11) (ci := 11) hC hS hP Nat.zero_lt_one rfl rfl) rfl rfl hl.1 rfl (lv_room (Nat.le_of_ble_eq_true rfl)) dL_law_1116 hcz) hS (fun H locs hP hS => ?_)
  refine lv_aload_n hx hb dL_law_1119 rfl (lv_at hl 2 rfl) ?_
  refine lv_aload_n hx hb dL_law_1120 rfl (lv_at hl 0 rfl) ?_
  refine lv_iload hx hb dL_law_1121 (lv_at hl 4 rfl) ?_
  refine lv_iconst (v := 1) hx hb dL_law_1123 (by decide) ?_
  refine lv_iadd hx hb dL_law_1124 ?_
  obtain ⟨hg_98, hf⟩ := g_gd hf
  refine va_sld (A := g_A G) hx hb hX hbl hbA hS hg_98 dL_law_1125 ?_
  obtain ⟨⟨r_99, M_100⟩, hc_101, hf⟩ := g_bindE hf
  refine x_calli (v := (X, M_100, τ)) (va_runV (As := [.int (xs ((x4 + 1).toNatClampNeg))]) (rest := [.int r_96]) ⟨hx, hb, hml, hown, hts⟩ (ct_X12_table l G X M τ (xs ((x4 + 1).toNatClampNeg)) hc_101) (cwV 1 hts gd_L_128 rfl rfl rfl hd_X12_table ⟨Nat.le_of_ble_eq_true rfl, Nat.le_of_ble_eq_true rfl⟩) (x_preV (u := (X, M, τ)) (k := 39) (ci := 12) hC hS hP Nat.zero_lt_one rfl rfl) rfl rfl hl.1 rfl (lv_room (Nat.le_of_ble_eq_true rfl)) dL_law_1126 hcz) hS (fun H locs hP hS => ?_)
  refine lv_icmp_eq (tgt := 1424) hx hb dL_law_1129 (by decide) (fun hc_102 => ?_) (fun hc_102 => ?_)
  · have hf := g_pos hf hc_102
    obtain ⟨x4_103, ex4_103, hf⟩ := g_letE hf
    refine lv_iinc (v := x4_103) (lv' := [(4, .int x4_103), (0, .ref b), (1, .ref (G.2.1 11 0)), (2, .ref (G.2.1 39 0)), (3, .ref (G.2.1 58 0))]) hx hb dL_law_1424 hl (k := 4) rfl (by rw [← ex4_103]; rfl) (by decide) rfl (fun ls hl => ?_)
    refine lv_goto (tgt := 23) hx hb dL_law_1427 (by decide) ?_
    refine W.widen (k := nc + 1) (n := ns + 6) (Nat.le_succ _) (Nat.le_add_right _ 6) ?_
    exact hk23 x4_103 X M_100 τ hf hd hP hS (lv_sub hl [1, 2, 3, 4, 0] rfl)
  · have hf := g_neg hf hc_102
    refine lv_iconst (v := 0) hx hb dL_law_1132 (by decide) ?_
    cases hf
def wb_L_law_1134 (xs : Nat → Int32) (L : Nat) (k23 : Int32 → SM → SM → SL → Option Int32) (x4 : Int32) (X : SM) (M : SM) (τ : SL) : Option Int32 :=
  if g_in (x4 + 1) L then
  if g_in (x4 + 2) L then
  (fn_X11_bound (xs ((x4 + 1).toNatClampNeg)) (xs ((x4 + 2).toNatClampNeg)) X).bind fun (r_84, X_85) =>
  if g_in (x4 + 1) L then
  if g_in (x4 + 2) L then
  (fn_X12_bound (xs ((x4 + 1).toNatClampNeg)) (xs ((x4 + 2).toNatClampNeg)) M τ).bind fun (r_89, M_90, τ_91) =>
  if r_84 = r_89 then
  (g_let (x4 + 6) fun x4_94 =>
    k23 x4_94 X_85 M_90 τ_91)
  else
  (some 0)
  else none
  else none
  else none
  else none
set_option maxRecDepth 100000 in
set_option maxHeartbeats 4000000 in
theorem bk_L_law_1134 {p : Program} {l : Launch} {e : Env} {s : State} {m : MethodId} {below : List Frame} {meth : Method} {c : Code} {G : GP} {b L : Nat} {xs : Nat → Int32} (C0 : lw_Cx p l s m meth c b L xs G) {nc ns : Nat} (hn : nc + 1 ≤ 601024 ∧ ns + 6 ≤ 7293034) (k23 : Int32 → SM → SM → SL → Option Int32) (hk23 : ∀ (x4 : Int32) (X M : SM) (τ : SL), k23 x4 X M τ = some 1 → ∀ {d : Drawn} (_ : s.drawn.sameBut d lw_cs) {H : Heap} {locs : List Loc}, va_P G.1 g_cl (wd G (cb X M) τ) H → va_S (g_A G) s.heap H locs → ∀ {ls : Array Slot}, lv_has ls 7 [(0, .ref b), (1, .ref (G.2.1 11 0)), (2, .ref (G.2.1 39 0)), (3, .ref (G.2.1 58 0)), (4, .int x4)] → W p l e room_1 (s.setDrawn d) m #[Value.ref b] below meth c H locs (nc + 1) (ns + 6) (lw_Z below #[Value.ref b] s) (F0 m 23 ls [])) (x4 : Int32) (X M : SM) (τ : SL) (hf : wb_L_law_1134 xs L k23 x4 X M τ = some 1) {d : Drawn} (hd : s.drawn.sameBut d lw_cs) {H : Heap} {locs : List Loc} (hP : va_P G.1 g_cl (wd G (cb X M) τ) H) (hS : va_S (g_A G) s.heap H locs) {ls : Array Slot} (hl : lv_has ls 7 [(0, .ref b), (1, .ref (G.2.1 11 0)), (2, .ref (G.2.1 39 0)), (3, .ref (G.2.1 58 0)), (4, .int x4)]) : W p l e room_1 (s.setDrawn d) m #[Value.ref b] below meth c H locs nc ns (lw_Z below #[Value.ref b] s) (F0 m 1134 ls []) := by
  obtain ⟨hx, hb, hr, hml, hown, hts0, hX0, hbl, hlocks, hC0, hlt, hz0⟩ := id C0
  have hts := dr_words hts0 d
  have hC := hC0.dr d
  have hX : va_X b L xs (s.setDrawn d) s.heap := hX0
  have hbA : ¬ g_A G b := by show ¬ G.2.2.1 ≤ b; omega
  have hcs : nc + 1 ≤ room_1.cells ∧ ns + 6 ≤ room_1.slots := hn
  have hcz : nc + 0 ≤ room_1.cells ∧ ns + 0 ≤ room_1.slots := ⟨Nat.le_trans (Nat.le_succ _) hn.1, Nat.le_trans (Nat.le_add_right _ 6) hn.2⟩
  have hcy : nc + 1 + 0 ≤ room_1.cells ∧ ns + 6 + 0 ≤ room_1.slots := hn
  unfold wb_L_law_1134 at hf
  refine lv_aload_n hx hb dL_law_1134 rfl (lv_at hl 1 rfl) ?_
  refine lv_aload_n hx hb dL_law_1135 rfl (lv_at hl 0 rfl) ?_
  refine lv_iload hx hb dL_law_1136 (lv_at hl 4 rfl) ?_
  refine lv_iconst (v := 1) hx hb dL_law_1138 (by decide) ?_
  refine lv_iadd hx hb dL_law_1139 ?_
  obtain ⟨hg_82, hf⟩ := g_gd hf
  refine va_sld (A := g_A G) hx hb hX hbl hbA hS hg_82 dL_law_1140 ?_
  refine lv_aload_n hx hb dL_law_1141 rfl (lv_at hl 0 rfl) ?_
  refine lv_iload hx hb dL_law_1142 (lv_at hl 4 rfl) ?_
  refine lv_iconst (v := 2) hx hb dL_law_1144 (by decide) ?_
  refine lv_iadd hx hb dL_law_1145 ?_
  obtain ⟨hg_83, hf⟩ := g_gd hf
  refine va_sld (A := g_A G) hx hb hX hbl hbA hS hg_83 dL_law_1146 ?_
  obtain ⟨⟨r_84, X_85⟩, hc_86, hf⟩ := g_bindE hf
  refine x_calli (v := (X_85, M, τ)) (va_runV (As := [.int (xs ((x4 + 1).toNatClampNeg)), .int (xs ((x4 + 2).toNatClampNeg))]) (rest := []) ⟨hx, hb, hml, hown, hts⟩ (ct_X11_bound l G X M τ (xs ((x4 + 1).toNatClampNeg)) (xs ((x4 + 2).toNatClampNeg)) hc_86) (cwV 2 hts gd_L_129 rfl rfl rfl hd_X11_bound ⟨Nat.le_of_ble_eq_true rfl, Nat.le_of_ble_eq_true rfl⟩) (x_preV (u := (X, M, τ)) (k := 11) (ci := 11) hC hS hP Nat.zero_lt_one rfl rfl) rfl rfl hl.1 rfl (lv_room (Nat.le_of_ble_eq_true rfl)) dL_law_1147 hcz) hS (fun H locs hP hS => ?_)
  refine lv_aload_n hx hb dL_law_1150 rfl (lv_at hl 2 rfl) ?_
  refine lv_aload_n hx hb dL_law_1151 rfl (lv_at hl 0 rfl) ?_
  refine lv_iload hx hb dL_law_1152 (lv_at hl 4 rfl) ?_
  refine lv_iconst (v := 1) hx hb dL_law_1154 (by decide) ?_
  refine lv_iadd hx hb dL_law_1155 ?_
  obtain ⟨hg_87, hf⟩ := g_gd hf
  refine va_sld (A := g_A G) hx hb hX hbl hbA hS hg_87 dL_law_1156 ?_
  refine lv_aload_n hx hb dL_law_1157 rfl (lv_at hl 0 rfl) ?_
  refine lv_iload hx hb dL_law_1158 (lv_at hl 4 rfl) ?_
  refine lv_iconst (v := 2) hx hb dL_law_1160 (by decide) ?_
  refine lv_iadd hx hb dL_law_1161 ?_
  obtain ⟨hg_88, hf⟩ := g_gd hf
  refine va_sld (A := g_A G) hx hb hX hbl hbA hS hg_88 dL_law_1162 ?_
  obtain ⟨⟨r_89, M_90, τ_91⟩, hc_92, hf⟩ := g_bindE hf
  refine x_calli (v := (X_85, M_90, τ_91)) (va_runV (As := [.int (xs ((x4 + 1).toNatClampNeg)), .int (xs ((x4 + 2).toNatClampNeg))]) (rest := [.int r_84]) ⟨hx, hb, hml, hown, hts⟩ (ct_X12_bound l G X_85 M τ (xs ((x4 + 1).toNatClampNeg)) (xs ((x4 + 2).toNatClampNeg)) hc_92) (cwV 2 hts gd_L_132 rfl rfl rfl hd_X12_bound ⟨Nat.le_of_ble_eq_true rfl, Nat.le_of_ble_eq_true rfl⟩) (x_preV (u := (X_85, M, τ)) (k := 39) (ci := 12) hC hS hP Nat.zero_lt_one rfl rfl) rfl rfl hl.1 rfl (lv_room (Nat.le_of_ble_eq_true rfl)) dL_law_1163 hcz) hS (fun H locs hP hS => ?_)
  refine lv_icmp_eq (tgt := 1424) hx hb dL_law_1166 (by decide) (fun hc_93 => ?_) (fun hc_93 => ?_)
  · have hf := g_pos hf hc_93
    obtain ⟨x4_94, ex4_94, hf⟩ := g_letE hf
    refine lv_iinc (v := x4_94) (lv' := [(4, .int x4_94), (0, .ref b), (1, .ref (G.2.1 11 0)), (2, .ref (G.2.1 39 0)), (3, .ref (G.2.1 58 0))]) hx hb dL_law_1424 hl (k := 4) rfl (by rw [← ex4_94]; rfl) (by decide) rfl (fun ls hl => ?_)
    refine lv_goto (tgt := 23) hx hb dL_law_1427 (by decide) ?_
    refine W.widen (k := nc + 1) (n := ns + 6) (Nat.le_succ _) (Nat.le_add_right _ 6) ?_
    exact hk23 x4_94 X_85 M_90 τ_91 hf hd hP hS (lv_sub hl [1, 2, 3, 4, 0] rfl)
  · have hf := g_neg hf hc_93
    refine lv_iconst (v := 0) hx hb dL_law_1169 (by decide) ?_
    cases hf
def wb_L_law_1171 (xs : Nat → Int32) (L : Nat) (k23 : Int32 → SM → SM → SL → Option Int32) (x4 : Int32) (X : SM) (M : SM) (τ : SL) : Option Int32 :=
  if g_in (x4 + 1) L then
  if g_in (x4 + 2) L then
  if g_in (x4 + 3) L then
  (fn_X11_span (xs ((x4 + 1).toNatClampNeg)) (xs ((x4 + 2).toNatClampNeg)) (xs ((x4 + 3).toNatClampNeg)) X).bind fun r_72 =>
  if g_in (x4 + 1) L then
  if g_in (x4 + 2) L then
  if g_in (x4 + 3) L then
  (fn_X12_span (xs ((x4 + 1).toNatClampNeg)) (xs ((x4 + 2).toNatClampNeg)) (xs ((x4 + 3).toNatClampNeg)) M).bind fun (r_77, M_78) =>
  if r_72 = r_77 then
  (g_let (x4 + 6) fun x4_81 =>
    k23 x4_81 X M_78 τ)
  else
  (some 0)
  else none
  else none
  else none
  else none
  else none
  else none
set_option maxRecDepth 100000 in
set_option maxHeartbeats 4000000 in
theorem bk_L_law_1171 {p : Program} {l : Launch} {e : Env} {s : State} {m : MethodId} {below : List Frame} {meth : Method} {c : Code} {G : GP} {b L : Nat} {xs : Nat → Int32} (C0 : lw_Cx p l s m meth c b L xs G) {nc ns : Nat} (hn : nc + 1 ≤ 601024 ∧ ns + 6 ≤ 7293034) (k23 : Int32 → SM → SM → SL → Option Int32) (hk23 : ∀ (x4 : Int32) (X M : SM) (τ : SL), k23 x4 X M τ = some 1 → ∀ {d : Drawn} (_ : s.drawn.sameBut d lw_cs) {H : Heap} {locs : List Loc}, va_P G.1 g_cl (wd G (cb X M) τ) H → va_S (g_A G) s.heap H locs → ∀ {ls : Array Slot}, lv_has ls 7 [(0, .ref b), (1, .ref (G.2.1 11 0)), (2, .ref (G.2.1 39 0)), (3, .ref (G.2.1 58 0)), (4, .int x4)] → W p l e room_1 (s.setDrawn d) m #[Value.ref b] below meth c H locs (nc + 1) (ns + 6) (lw_Z below #[Value.ref b] s) (F0 m 23 ls [])) (x4 : Int32) (X M : SM) (τ : SL) (hf : wb_L_law_1171 xs L k23 x4 X M τ = some 1) {d : Drawn} (hd : s.drawn.sameBut d lw_cs) {H : Heap} {locs : List Loc} (hP : va_P G.1 g_cl (wd G (cb X M) τ) H) (hS : va_S (g_A G) s.heap H locs) {ls : Array Slot} (hl : lv_has ls 7 [(0, .ref b), (1, .ref (G.2.1 11 0)), (2, .ref (G.2.1 39 0)), (3, .ref (G.2.1 58 0)), (4, .int x4)]) : W p l e room_1 (s.setDrawn d) m #[Value.ref b] below meth c H locs nc ns (lw_Z below #[Value.ref b] s) (F0 m 1171 ls []) := by
  obtain ⟨hx, hb, hr, hml, hown, hts0, hX0, hbl, hlocks, hC0, hlt, hz0⟩ := id C0
  have hts := dr_words hts0 d
  have hC := hC0.dr d
  have hX : va_X b L xs (s.setDrawn d) s.heap := hX0
  have hbA : ¬ g_A G b := by show ¬ G.2.2.1 ≤ b; omega
  have hcs : nc + 1 ≤ room_1.cells ∧ ns + 6 ≤ room_1.slots := hn
  have hcz : nc + 0 ≤ room_1.cells ∧ ns + 0 ≤ room_1.slots := ⟨Nat.le_trans (Nat.le_succ _) hn.1, Nat.le_trans (Nat.le_add_right _ 6) hn.2⟩
  have hcy : nc + 1 + 0 ≤ room_1.cells ∧ ns + 6 + 0 ≤ room_1.slots := hn
  unfold wb_L_law_1171 at hf
  refine lv_aload_n hx hb dL_law_1171 rfl (lv_at hl 1 rfl) ?_
  refine lv_aload_n hx hb dL_law_1172 rfl (lv_at hl 0 rfl) ?_
  refine lv_iload hx hb dL_law_1173 (lv_at hl 4 rfl) ?_
  refine lv_iconst (v := 1) hx hb dL_law_1175 (by decide) ?_
  refine lv_iadd hx hb dL_law_1176 ?_
  obtain ⟨hg_69, hf⟩ := g_gd hf
  refine va_sld (A := g_A G) hx hb hX hbl hbA hS hg_69 dL_law_1177 ?_
  refine lv_aload_n hx hb dL_law_1178 rfl (lv_at hl 0 rfl) ?_
  refine lv_iload hx hb dL_law_1179 (lv_at hl 4 rfl) ?_
  refine lv_iconst (v := 2) hx hb dL_law_1181 (by decide) ?_
  refine lv_iadd hx hb dL_law_1182 ?_
  obtain ⟨hg_70, hf⟩ := g_gd hf
  refine va_sld (A := g_A G) hx hb hX hbl hbA hS hg_70 dL_law_1183 ?_
  refine lv_aload_n hx hb dL_law_1184 rfl (lv_at hl 0 rfl) ?_
  refine lv_iload hx hb dL_law_1185 (lv_at hl 4 rfl) ?_
  refine lv_iconst (v := 3) hx hb dL_law_1187 (by decide) ?_
  refine lv_iadd hx hb dL_law_1188 ?_
  obtain ⟨hg_71, hf⟩ := g_gd hf
  refine va_sld (A := g_A G) hx hb hX hbl hbA hS hg_71 dL_law_1189 ?_
  obtain ⟨r_72, hc_73, hf⟩ := g_bindE hf
  refine x_calli (v := (X, M, τ)) (va_runV (As := [.int (xs ((x4 + 1).toNatClampNeg)), .int (xs ((x4 + 2).toNatClampNeg)), .int (xs ((x4 + 3).toNatClampNeg))]) (rest := []) ⟨hx, hb, hml, hown, hts⟩ (ct_X11_span l G X M τ (xs ((x4 + 1).toNatClampNeg)) (xs ((x4 + 2).toNatClampNeg)) (xs ((x4 + 3).toNatClampNeg)) hc_73) (cwV 3 hts gd_L_133 rfl rfl rfl hd_X11_span ⟨Nat.le_of_ble_eq_true rfl, Nat.le_of_ble_eq_true rfl⟩) (x_preV (u := (X, M, τ)) (k := 11) (ci := 11) hC hS hP Nat.zero_lt_one rfl rfl) rfl rfl hl.1 rfl (lv_room (Nat.le_of_ble_eq_true rfl)) dL_law_1190 hcz) hS (fun H locs hP hS => ?_)
  refine lv_aload_n hx hb dL_law_1193 rfl (lv_at hl 2 rfl) ?_
  refine lv_aload_n hx hb dL_law_1194 rfl (lv_at hl 0 rfl) ?_
  refine lv_iload hx hb dL_law_1195 (lv_at hl 4 rfl) ?_
  refine lv_iconst (v := 1) hx hb dL_law_1197 (by decide) ?_
  refine lv_iadd hx hb dL_law_1198 ?_
  obtain ⟨hg_74, hf⟩ := g_gd hf
  refine va_sld (A := g_A G) hx hb hX hbl hbA hS hg_74 dL_law_1199 ?_
  refine lv_aload_n hx hb dL_law_1200 rfl (lv_at hl 0 rfl) ?_
  refine lv_iload hx hb dL_law_1201 (lv_at hl 4 rfl) ?_
  refine lv_iconst (v := 2) hx hb dL_law_1203 (by decide) ?_
  refine lv_iadd hx hb dL_law_1204 ?_
  obtain ⟨hg_75, hf⟩ := g_gd hf
  refine va_sld (A := g_A G) hx hb hX hbl hbA hS hg_75 dL_law_1205 ?_
  refine lv_aload_n hx hb dL_law_1206 rfl (lv_at hl 0 rfl) ?_
  refine lv_iload hx hb dL_law_1207 (lv_at hl 4 rfl) ?_
  refine lv_iconst (v := 3) hx hb dL_law_1209 (by decide) ?_
  refine lv_iadd hx hb dL_law_1210 ?_
  obtain ⟨hg_76, hf⟩ := g_gd hf
  refine va_sld (A := g_A G) hx hb hX hbl hbA hS hg_76 dL_law_1211 ?_
  obtain ⟨⟨r_77, M_78⟩, hc_79, hf⟩ := g_bindE hf
  refine x_calli (v := (X, M_78, τ)) (va_runV (As := [.int (xs ((x4 + 1).toNatClampNeg)), .int (xs ((x4 + 2).toNatClampNeg)), .int (xs ((x4 + 3).toNatClampNeg))]) (rest := [.int r_72]) ⟨hx, hb, hml, hown, hts⟩ (ct_X12_span l G X M τ (xs ((x4 + 1).toNatClampNeg)) (xs ((x4 + 2).toNatClampNeg)) (xs ((x4 + 3).toNatClampNeg)) hc_79) (cwV 3 hts gd_L_136 rfl rfl rfl hd_X12_span ⟨Nat.le_of_ble_eq_true rfl, Nat.le_of_ble_eq_true rfl⟩) (x_preV (u := (X, M, τ)) (k := 39) (ci := 12) hC hS hP Nat.zero_lt_one rfl rfl) rfl rfl hl.1 rfl (lv_room (Nat.le_of_ble_eq_true rfl)) dL_law_1212 hcz) hS (fun H locs hP hS => ?_)
  refine lv_icmp_eq (tgt := 1424) hx hb dL_law_1215 (by decide) (fun hc_80 => ?_) (fun hc_80 => ?_)
  · have hf := g_pos hf hc_80
    obtain ⟨x4_81, ex4_81, hf⟩ := g_letE hf
    refine lv_iinc (v := x4_81) (lv' := [(4, .int x4_81), (0, .ref b), (1, .ref (G.2.1 11 0)), (2, .ref (G.2.1 39 0)), (3, .ref (G.2.1 58 0))]) hx hb dL_law_1424 hl (k := 4) rfl (by rw [← ex4_81]; rfl) (by decide) rfl (fun ls hl => ?_)
    refine lv_goto (tgt := 23) hx hb dL_law_1427 (by decide) ?_
    refine W.widen (k := nc + 1) (n := ns + 6) (Nat.le_succ _) (Nat.le_add_right _ 6) ?_
    exact hk23 x4_81 X M_78 τ hf hd hP hS (lv_sub hl [1, 2, 3, 4, 0] rfl)
  · have hf := g_neg hf hc_80
    refine lv_iconst (v := 0) hx hb dL_law_1218 (by decide) ?_
    cases hf
def wb_L_law_1220 (xs : Nat → Int32) (L : Nat) (k23 : Int32 → SM → SM → SL → Option Int32) (x4 : Int32) (X : SM) (M : SM) (τ : SL) : Option Int32 :=
  if g_in (x4 + 1) L then
  if g_in (x4 + 2) L then
  (fn_X11_will (xs ((x4 + 1).toNatClampNeg)) (xs ((x4 + 2).toNatClampNeg)) X).bind fun (r_59, X_60) =>
  if g_in (x4 + 1) L then
  if g_in (x4 + 2) L then
  (fn_X12_will (xs ((x4 + 1).toNatClampNeg)) (xs ((x4 + 2).toNatClampNeg)) M).bind fun (r_64, M_65) =>
  if r_59 = r_64 then
  (g_let (x4 + 6) fun x4_68 =>
    k23 x4_68 X_60 M_65 τ)
  else
  (some 0)
  else none
  else none
  else none
  else none
set_option maxRecDepth 100000 in
set_option maxHeartbeats 4000000 in
theorem bk_L_law_1220 {p : Program} {l : Launch} {e : Env} {s : State} {m : MethodId} {below : List Frame} {meth : Method} {c : Code} {G : GP} {b L : Nat} {xs : Nat → Int32} (C0 : lw_Cx p l s m meth c b L xs G) {nc ns : Nat} (hn : nc + 1 ≤ 601024 ∧ ns + 6 ≤ 7293034) (k23 : Int32 → SM → SM → SL → Option Int32) (hk23 : ∀ (x4 : Int32) (X M : SM) (τ : SL), k23 x4 X M τ = some 1 → ∀ {d : Drawn} (_ : s.drawn.sameBut d lw_cs) {H : Heap} {locs : List Loc}, va_P G.1 g_cl (wd G (cb X M) τ) H → va_S (g_A G) s.heap H locs → ∀ {ls : Array Slot}, lv_has ls 7 [(0, .ref b), (1, .ref (G.2.1 11 0)), (2, .ref (G.2.1 39 0)), (3, .ref (G.2.1 58 0)), (4, .int x4)] → W p l e room_1 (s.setDrawn d) m #[Value.ref b] below meth c H locs (nc + 1) (ns + 6) (lw_Z below #[Value.ref b] s) (F0 m 23 ls [])) (x4 : Int32) (X M : SM) (τ : SL) (hf : wb_L_law_1220 xs L k23 x4 X M τ = some 1) {d : Drawn} (hd : s.drawn.sameBut d lw_cs) {H : Heap} {locs : List Loc} (hP : va_P G.1 g_cl (wd G (cb X M) τ) H) (hS : va_S (g_A G) s.heap H locs) {ls : Array Slot} (hl : lv_has ls 7 [(0, .ref b), (1, .ref (G.2.1 11 0)), (2, .ref (G.2.1 39 0)), (3, .ref (G.2.1 58 0)), (4, .int x4)]) : W p l e room_1 (s.setDrawn d) m #[Value.ref b] below meth c H locs nc ns (lw_Z below #[Value.ref b] s) (F0 m 1220 ls []) := by
  obtain ⟨hx, hb, hr, hml, hown, hts0, hX0, hbl, hlocks, hC0, hlt, hz0⟩ := id C0
  have hts := dr_words hts0 d
  have hC := hC0.dr d
  have hX : va_X b L xs (s.setDrawn d) s.heap := hX0
  have hbA : ¬ g_A G b := by show ¬ G.2.2.1 ≤ b; omega
  have hcs : nc + 1 ≤ room_1.cells ∧ ns + 6 ≤ room_1.slots := hn
  have hcz : nc + 0 ≤ room_1.cells ∧ ns + 0 ≤ room_1.slots := ⟨Nat.le_trans (Nat.le_succ _) hn.1, Nat.le_trans (Nat.le_add_right _ 6) hn.2⟩
  have hcy : nc + 1 + 0 ≤ room_1.cells ∧ ns + 6 + 0 ≤ room_1.slots := hn
  unfold wb_L_law_1220 at hf
  refine lv_aload_n hx hb dL_law_1220 rfl (lv_at hl 1 rfl) ?_
  refine lv_aload_n hx hb dL_law_1221 rfl (lv_at hl 0 rfl) ?_
  refine lv_iload hx hb dL_law_1222 (lv_at hl 4 rfl) ?_
  refine lv_iconst (v := 1) hx hb dL_law_1224 (by decide) ?_
  refine lv_iadd hx hb dL_law_1225 ?_
  obtain ⟨hg_57, hf⟩ := g_gd hf
  refine va_sld (A := g_A G) hx hb hX hbl hbA hS hg_57 dL_law_1226 ?_
  refine lv_aload_n hx hb dL_law_1227 rfl (lv_at hl 0 rfl) ?_
  refine lv_iload hx hb dL_law_1228 (lv_at hl 4 rfl) ?_
  refine lv_iconst (v := 2) hx hb dL_law_1230 (by decide) ?_
  refine lv_iadd hx hb dL_law_1231 ?_
  obtain ⟨hg_58, hf⟩ := g_gd hf
  refine va_sld (A := g_A G) hx hb hX hbl hbA hS hg_58 dL_law_1232 ?_
  obtain ⟨⟨r_59, X_60⟩, hc_61, hf⟩ := g_bindE hf
  refine x_calli (v := (X_60, M, τ)) (va_runV (As := [.int (xs ((x4 + 1).toNatClampNeg)), .int (xs ((x4 + 2).toNatClampNeg))]) (rest := []) ⟨hx, hb, hml, hown, hts⟩ (ct_X11_will l G X M τ (xs ((x4 + 1).toNatClampNeg)) (xs ((x4 + 2).toNatClampNeg)) hc_61) (cwV 2 hts gd_L_137 rfl rfl rfl hd_X11_will ⟨Nat.le_of_ble_eq_true rfl, Nat.le_of_ble_eq_true rfl⟩) (x_preV (u := (X, M, τ)) (k := 11) (ci := 11) hC hS hP Nat.zero_lt_one rfl rfl) rfl rfl hl.1 rfl (lv_room (Nat.le_of_ble_eq_true rfl)) dL_law_1233 hcz) hS (fun H locs hP hS => ?_)
  refine lv_aload_n hx hb dL_law_1236 rfl (lv_at hl 2 rfl) ?_
  refine lv_aload_n hx hb dL_law_1237 rfl (lv_at hl 0 rfl) ?_
  refine lv_iload hx hb dL_law_1238 (lv_at hl 4 rfl) ?_
  refine lv_iconst (v := 1) hx hb dL_law_1240 (by decide) ?_
  refine lv_iadd hx hb dL_law_1241 ?_
  obtain ⟨hg_62, hf⟩ := g_gd hf
  refine va_sld (A := g_A G) hx hb hX hbl hbA hS hg_62 dL_law_1242 ?_
  refine lv_aload_n hx hb dL_law_1243 rfl (lv_at hl 0 rfl) ?_
  refine lv_iload hx hb dL_law_1244 (lv_at hl 4 rfl) ?_
  refine lv_iconst (v := 2) hx hb dL_law_1246 (by decide) ?_
  refine lv_iadd hx hb dL_law_1247 ?_
  obtain ⟨hg_63, hf⟩ := g_gd hf
  refine va_sld (A := g_A G) hx hb hX hbl hbA hS hg_63 dL_law_1248 ?_
  obtain ⟨⟨r_64, M_65⟩, hc_66, hf⟩ := g_bindE hf
  refine x_calliD (v := (X_60, M_65, τ)) hd (va_runV_D (As := [.int (xs ((x4 + 1).toNatClampNeg)), .int (xs ((x4 + 2).toNatClampNeg))]) (rest := [.int r_59]) ⟨hx, hb, hml, hown, hts⟩ (ct_X12_will l G X_60 M τ (xs ((x4 + 1).toNatClampNeg)) (xs ((x4 + 2).toNatClampNeg)) hc_66) (cwV 2 hts gd_L_140 rfl rfl rfl hd_X12_will ⟨Nat.le_of_ble_eq_true rfl, Nat.le_of_ble_eq_true rfl⟩) (x_preV (u := (X_60, M, τ)) (k := 39) (ci := 12) hC hS hP Nat.zero_lt_one rfl rfl) rfl rfl hl.1 rfl (lv_room (Nat.le_of_ble_eq_true rfl)) dL_law_1249 hcz) hS (fun H locs hP hS d hd => ?_)
  have hts := dr_words hts0 d
  have hC := hC0.dr d
  have hX : va_X b L xs (s.setDrawn d) s.heap := hX0
  refine lv_icmp_eq (tgt := 1424) hx hb dL_law_1252 (by decide) (fun hc_67 => ?_) (fun hc_67 => ?_)
  · have hf := g_pos hf hc_67
    obtain ⟨x4_68, ex4_68, hf⟩ := g_letE hf
    refine lv_iinc (v := x4_68) (lv' := [(4, .int x4_68), (0, .ref b), (1, .ref (G.2.1 11 0)), (2, .ref (G.2.1 39 0)), (3, .ref (G.2.1 58 0))]) hx hb dL_law_1424 hl (k := 4) rfl (by rw [← ex4_68]; rfl) (by decide) rfl (fun ls hl => ?_)
    refine lv_goto (tgt := 23) hx hb dL_law_1427 (by decide) ?_
    refine W.widen (k := nc + 1) (n := ns + 6) (Nat.le_succ _) (Nat.le_add_right _ 6) ?_
    exact hk23 x4_68 X_60 M_65 τ hf hd hP hS (lv_sub hl [1, 2, 3, 4, 0] rfl)
  · have hf := g_neg hf hc_67
    refine lv_iconst (v := 0) hx hb dL_law_1255 (by decide) ?_
    cases hf
def wb_L_law_1257 (xs : Nat → Int32) (L : Nat) (k23 : Int32 → SM → SM → SL → Option Int32) (x4 : Int32) (X : SM) (M : SM) (τ : SL) : Option Int32 :=
  if g_in (x4 + 1) L then
  if g_in (x4 + 2) L then
  (fn_X11_alone (xs ((x4 + 1).toNatClampNeg)) (xs ((x4 + 2).toNatClampNeg)) X).bind fun (r_47, X_48) =>
  if g_in (x4 + 1) L then
  if g_in (x4 + 2) L then
  (fn_X12_alone (xs ((x4 + 1).toNatClampNeg)) (xs ((x4 + 2).toNatClampNeg)) M).bind fun (r_52, M_53) =>
  if r_47 = r_52 then
  (g_let (x4 + 6) fun x4_56 =>
    k23 x4_56 X_48 M_53 τ)
  else
  (some 0)
  else none
  else none
  else none
  else none
set_option maxRecDepth 100000 in
set_option maxHeartbeats 4000000 in
theorem bk_L_law_1257 {p : Program} {l : Launch} {e : Env} {s : State} {m : MethodId} {below : List Frame} {meth : Method} {c : Code} {G : GP} {b L : Nat} {xs : Nat → Int32} (C0 : lw_Cx p l s m meth c b L xs G) {nc ns : Nat} (hn : nc + 1 ≤ 601024 ∧ ns + 6 ≤ 7293034) (k23 : Int32 → SM → SM → SL → Option Int32) (hk23 : ∀ (x4 : Int32) (X M : SM) (τ : SL), k23 x4 X M τ = some 1 → ∀ {d : Drawn} (_ : s.drawn.sameBut d lw_cs) {H : Heap} {locs : List Loc}, va_P G.1 g_cl (wd G (cb X M) τ) H → va_S (g_A G) s.heap H locs → ∀ {ls : Array Slot}, lv_has ls 7 [(0, .ref b), (1, .ref (G.2.1 11 0)), (2, .ref (G.2.1 39 0)), (3, .ref (G.2.1 58 0)), (4, .int x4)] → W p l e room_1 (s.setDrawn d) m #[Value.ref b] below meth c H locs (nc + 1) (ns + 6) (lw_Z below #[Value.ref b] s) (F0 m 23 ls [])) (x4 : Int32) (X M : SM) (τ : SL) (hf : wb_L_law_1257 xs L k23 x4 X M τ = some 1) {d : Drawn} (hd : s.drawn.sameBut d lw_cs) {H : Heap} {locs : List Loc} (hP : va_P G.1 g_cl (wd G (cb X M) τ) H) (hS : va_S (g_A G) s.heap H locs) {ls : Array Slot} (hl : lv_has ls 7 [(0, .ref b), (1, .ref (G.2.1 11 0)), (2, .ref (G.2.1 39 0)), (3, .ref (G.2.1 58 0)), (4, .int x4)]) : W p l e room_1 (s.setDrawn d) m #[Value.ref b] below meth c H locs nc ns (lw_Z below #[Value.ref b] s) (F0 m 1257 ls []) := by
  obtain ⟨hx, hb, hr, hml, hown, hts0, hX0, hbl, hlocks, hC0, hlt, hz0⟩ := id C0
  have hts := dr_words hts0 d
  have hC := hC0.dr d
  have hX : va_X b L xs (s.setDrawn d) s.heap := hX0
  have hbA : ¬ g_A G b := by show ¬ G.2.2.1 ≤ b; omega
  have hcs : nc + 1 ≤ room_1.cells ∧ ns + 6 ≤ room_1.slots := hn
  have hcz : nc + 0 ≤ room_1.cells ∧ ns + 0 ≤ room_1.slots := ⟨Nat.le_trans (Nat.le_succ _) hn.1, Nat.le_trans (Nat.le_add_right _ 6) hn.2⟩
  have hcy : nc + 1 + 0 ≤ room_1.cells ∧ ns + 6 + 0 ≤ room_1.slots := hn
  unfold wb_L_law_1257 at hf
  refine lv_aload_n hx hb dL_law_1257 rfl (lv_at hl 1 rfl) ?_
  refine lv_aload_n hx hb dL_law_1258 rfl (lv_at hl 0 rfl) ?_
  refine lv_iload hx hb dL_law_1259 (lv_at hl 4 rfl) ?_
  refine lv_iconst (v := 1) hx hb dL_law_1261 (by decide) ?_
  refine lv_iadd hx hb dL_law_1262 ?_
  obtain ⟨hg_45, hf⟩ := g_gd hf
  refine va_sld (A := g_A G) hx hb hX hbl hbA hS hg_45 dL_law_1263 ?_
  refine lv_aload_n hx hb dL_law_1264 rfl (lv_at hl 0 rfl) ?_
  refine lv_iload hx hb dL_law_1265 (lv_at hl 4 rfl) ?_
  refine lv_iconst (v := 2) hx hb dL_law_1267 (by decide) ?_
  refine lv_iadd hx hb dL_law_1268 ?_
  obtain ⟨hg_46, hf⟩ := g_gd hf
  refine va_sld (A := g_A G) hx hb hX hbl hbA hS hg_46 dL_law_1269 ?_
  obtain ⟨⟨r_47, X_48⟩, hc_49, hf⟩ := g_bindE hf
  refine x_calli (v := (X_48, M, τ)) (va_runV (As := [.int (xs ((x4 + 1).toNatClampNeg)), .int (xs ((x4 + 2).toNatClampNeg))]) (rest := []) ⟨hx, hb, hml, hown, hts⟩ (ct_X11_alone l G X M τ (xs ((x4 + 1).toNatClampNeg)) (xs ((x4 + 2).toNatClampNeg)) hc_49) (cwV 2 hts gd_L_141 rfl rfl rfl hd_X11_alone ⟨Nat.le_of_ble_eq_true rfl, Nat.le_of_ble_eq_true rfl⟩) (x_preV (u := (X, M, τ)) (k := 11) (ci := 11) hC hS hP Nat.zero_lt_one rfl rfl) rfl rfl hl.1 rfl (lv_room (Nat.le_of_ble_eq_true rfl)) dL_law_1270 hcz) hS (fun H locs hP hS => ?_)
  refine lv_aload_n hx hb dL_law_1273 rfl (lv_at hl 2 rfl) ?_
  refine lv_aload_n hx hb dL_law_1274 rfl (lv_at hl 0 rfl) ?_
  refine lv_iload hx hb dL_law_1275 (lv_at hl 4 rfl) ?_
  refine lv_iconst (v := 1) hx hb dL_law_1277 (by decide) ?_
  refine lv_iadd hx hb dL_law_1278 ?_
  obtain ⟨hg_50, hf⟩ := g_gd hf
  refine va_sld (A := g_A G) hx hb hX hbl hbA hS hg_50 dL_law_1279 ?_
  refine lv_aload_n hx hb dL_law_1280 rfl (lv_at hl 0 rfl) ?_
  refine lv_iload hx hb dL_law_1281 (lv_at hl 4 rfl) ?_
  refine lv_iconst (v := 2) hx hb dL_law_1283 (by decide) ?_
  refine lv_iadd hx hb dL_law_1284 ?_
  obtain ⟨hg_51, hf⟩ := g_gd hf
  refine va_sld (A := g_A G) hx hb hX hbl hbA hS hg_51 dL_law_1285 ?_
  obtain ⟨⟨r_52, M_53⟩, hc_54, hf⟩ := g_bindE hf
  refine x_calliD (v := (X_48, M_53, τ)) hd (va_runV_D (As := [.int (xs ((x4 + 1).toNatClampNeg)), .int (xs ((x4 + 2).toNatClampNeg))]) (rest := [.int r_47]) ⟨hx, hb, hml, hown, hts⟩ (ct_X12_alone l G X_48 M τ (xs ((x4 + 1).toNatClampNeg)) (xs ((x4 + 2).toNatClampNeg)) hc_54) (cwV 2 hts gd_L_144 rfl rfl rfl hd_X12_alone ⟨Nat.le_of_ble_eq_true rfl, Nat.le_of_ble_eq_true rfl⟩) (x_preV (u := (X_48, M, τ)) (k := 39) (ci := 12) hC hS hP Nat.zero_lt_one rfl rfl) rfl rfl hl.1 rfl (lv_room (Nat.le_of_ble_eq_true rfl)) dL_law_1286 hcz) hS (fun H locs hP hS d hd => ?_)
  have hts := dr_words hts0 d
  have hC := hC0.dr d
  have hX : va_X b L xs (s.setDrawn d) s.heap := hX0
  refine lv_icmp_eq (tgt := 1424) hx hb dL_law_1289 (by decide) (fun hc_55 => ?_) (fun hc_55 => ?_)
  · have hf := g_pos hf hc_55
    obtain ⟨x4_56, ex4_56, hf⟩ := g_letE hf
    refine lv_iinc (v := x4_56) (lv' := [(4, .int x4_56), (0, .ref b), (1, .ref (G.2.1 11 0)), (2, .ref (G.2.1 39 0)), (3, .ref (G.2.1 58 0))]) hx hb dL_law_1424 hl (k := 4) rfl (by rw [← ex4_56]; rfl) (by decide) rfl (fun ls hl => ?_)
    refine lv_goto (tgt := 23) hx hb dL_law_1427 (by decide) ?_
    refine W.widen (k := nc + 1) (n := ns + 6) (Nat.le_succ _) (Nat.le_add_right _ 6) ?_
    exact hk23 x4_56 X_48 M_53 τ hf hd hP hS (lv_sub hl [1, 2, 3, 4, 0] rfl)
  · have hf := g_neg hf hc_55
    refine lv_iconst (v := 0) hx hb dL_law_1292 (by decide) ?_
    cases hf
def wb_L_law_1294 (xs : Nat → Int32) (L : Nat) (k23 : Int32 → SM → SM → SL → Option Int32) (x4 : Int32) (X : SM) (M : SM) (τ : SL) : Option Int32 :=
  if g_in (x4 + 1) L then
  if g_in (x4 + 2) L then
  if g_in (x4 + 3) L then
  (fn_X11_ahead (xs ((x4 + 1).toNatClampNeg)) (xs ((x4 + 2).toNatClampNeg)) (xs ((x4 + 3).toNatClampNeg)) X).bind fun (r_27, X_28) =>
  g_let (ht r_27 τ) fun τ_30 =>
  g_let ((hv r_27)) fun x5_31 =>
  if g_in (x4 + 1) L then
  if g_in (x4 + 2) L then
  if g_in (x4 + 3) L then
  (fn_X12_ahead (xs ((x4 + 1).toNatClampNeg)) (xs ((x4 + 2).toNatClampNeg)) (xs ((x4 + 3).toNatClampNeg)) M).bind fun (r_35, M_36) =>
  g_let (fn_X12_thrown M_36) fun r_38 =>
  if r_38 = x5_31 then
  (if x5_31 = 0 then
    (if (lg_cmp (τ_30 58 0 (Int32.toNatClampNeg 0)) (Int32.toInt64 r_35)) = 0 then
      (g_let (x4 + 6) fun x4_44 =>
        k23 x4_44 X_28 M_36 τ_30)
      else
      (some 0))
    else
    (g_let (x4 + 6) fun x4_42 =>
      k23 x4_42 X_28 M_36 τ_30))
  else
  (some 0)
  else none
  else none
  else none
  else none
  else none
  else none
set_option maxRecDepth 100000 in
set_option maxHeartbeats 4000000 in
theorem bk_L_law_1294 {p : Program} {l : Launch} {e : Env} {s : State} {m : MethodId} {below : List Frame} {meth : Method} {c : Code} {G : GP} {b L : Nat} {xs : Nat → Int32} (C0 : lw_Cx p l s m meth c b L xs G) {nc ns : Nat} (hn : nc + 1 ≤ 601024 ∧ ns + 6 ≤ 7293034) (k23 : Int32 → SM → SM → SL → Option Int32) (hk23 : ∀ (x4 : Int32) (X M : SM) (τ : SL), k23 x4 X M τ = some 1 → ∀ {d : Drawn} (_ : s.drawn.sameBut d lw_cs) {H : Heap} {locs : List Loc}, va_P G.1 g_cl (wd G (cb X M) τ) H → va_S (g_A G) s.heap H locs → ∀ {ls : Array Slot}, lv_has ls 7 [(0, .ref b), (1, .ref (G.2.1 11 0)), (2, .ref (G.2.1 39 0)), (3, .ref (G.2.1 58 0)), (4, .int x4)] → W p l e room_1 (s.setDrawn d) m #[Value.ref b] below meth c H locs (nc + 1) (ns + 6) (lw_Z below #[Value.ref b] s) (F0 m 23 ls [])) (x4 : Int32) (X M : SM) (τ : SL) (hf : wb_L_law_1294 xs L k23 x4 X M τ = some 1) {d : Drawn} (hd : s.drawn.sameBut d lw_cs) {H : Heap} {locs : List Loc} (hP : va_P G.1 g_cl (wd G (cb X M) τ) H) (hS : va_S (g_A G) s.heap H locs) {ls : Array Slot} (hl : lv_has ls 7 [(0, .ref b), (1, .ref (G.2.1 11 0)), (2, .ref (G.2.1 39 0)), (3, .ref (G.2.1 58 0)), (4, .int x4)]) : W p l e room_1 (s.setDrawn d) m #[Value.ref b] below meth c H locs nc ns (lw_Z below #[Value.ref b] s) (F0 m 1294 ls []) := by
  obtain ⟨hx, hb, hr, hml, hown, hts0, hX0, hbl, hlocks, hC0, hlt, hz0⟩ := id C0
  have hts := dr_words hts0 d
  have hC := hC0.dr d
  have hX : va_X b L xs (s.setDrawn d) s.heap := hX0
  have hbA : ¬ g_A G b := by show ¬ G.2.2.1 ≤ b; omega
  have hcs : nc + 1 ≤ room_1.cells ∧ ns + 6 ≤ room_1.slots := hn
  have hcz : nc + 0 ≤ room_1.cells ∧ ns + 0 ≤ room_1.slots := ⟨Nat.le_trans (Nat.le_succ _) hn.1, Nat.le_trans (Nat.le_add_right _ 6) hn.2⟩
  have hcy : nc + 1 + 0 ≤ room_1.cells ∧ ns + 6 + 0 ≤ room_1.slots := hn
  unfold wb_L_law_1294 at hf
  refine lv_aload_n hx hb dL_law_1294 rfl (lv_at hl 1 rfl) ?_
  refine lv_aload_n hx hb dL_law_1295 rfl (lv_at hl 0 rfl) ?_
  refine lv_iload hx hb dL_law_1296 (lv_at hl 4 rfl) ?_
  refine lv_iconst (v := 1) hx hb dL_law_1298 (by decide) ?_
  refine lv_iadd hx hb dL_law_1299 ?_
  obtain ⟨hg_24, hf⟩ := g_gd hf
  refine va_sld (A := g_A G) hx hb hX hbl hbA hS hg_24 dL_law_1300 ?_
  refine lv_aload_n hx hb dL_law_1301 rfl (lv_at hl 0 rfl) ?_
  refine lv_iload hx hb dL_law_1302 (lv_at hl 4 rfl) ?_
  refine lv_iconst (v := 2) hx hb dL_law_1304 (by decide) ?_
  refine lv_iadd hx hb dL_law_1305 ?_
  obtain ⟨hg_25, hf⟩ := g_gd hf
  refine va_sld (A := g_A G) hx hb hX hbl hbA hS hg_25 dL_law_1306 ?_
  refine lv_aload_n hx hb dL_law_1307 rfl (lv_at hl 0 rfl) ?_
  refine lv_iload hx hb dL_law_1308 (lv_at hl 4 rfl) ?_
  refine lv_iconst (v := 3) hx hb dL_law_1310 (by decide) ?_
  refine lv_iadd hx hb dL_law_1311 ?_
  obtain ⟨hg_26, hf⟩ := g_gd hf
  refine va_sld (A := g_A G) hx hb hX hbl hbA hS hg_26 dL_law_1312 ?_
  refine lv_aload_n hx hb dL_law_1313 rfl (lv_at hl 3 rfl) ?_
  obtain ⟨⟨r_27, X_28⟩, hc_29, hf⟩ := g_bindE hf
  obtain ⟨τ_30, eτ_30, hf⟩ := g_letE hf
  refine y_calli (v := (X_28, M, ht r_27 τ)) (vx_runSW (As := [.ref (G.2.1 11 0), .int (xs ((x4 + 1).toNatClampNeg)), .int (xs ((x4 + 2).toNatClampNeg)), .int (xs ((x4 + 3).toNatClampNeg)), .ref (G.2.1 58 0)]) (rest := []) ⟨hx, hb, hml, hown, hts⟩ (ct_L_ahead l hlt G X M τ (xs ((x4 + 1).toNatClampNeg)) (xs ((x4 + 2).toNatClampNeg)) (xs ((x4 + 3).toNatClampNeg)) hc_29) (vx_cwSW 5 hts gdw_ahead rfl rfl rfl hdl_ahead ⟨Nat.le_of_ble_eq_true rfl, Nat.le_of_ble_eq_true rfl⟩) (x_pre (u := (X, M, τ)) hC hS hP) rfl rfl hl.1 rfl (lv_room (Nat.le_of_ble_eq_true rfl)) dL_law_1314 hcs) hS (fun H locs hP hS => ?_)
  rw [eτ_30] at hP
  obtain ⟨x5_31, ex5_31, hf⟩ := g_letE hf
  refine lv_topE ex5_31 ?_
  refine lv_istore (lv' := [(5, .int x5_31), (0, .ref b), (1, .ref (G.2.1 11 0)), (2, .ref (G.2.1 39 0)), (3, .ref (G.2.1 58 0)), (4, .int x4)]) hx hb dL_law_1317 hl (by decide) rfl (fun ls hl => ?_)
  refine lv_aload_n hx hb dL_law_1319 rfl (lv_at hl 3 rfl) ?_
  refine lv_aload_n hx hb dL_law_1320 rfl (lv_at hl 1 rfl) ?_
  refine lv_iload hx hb dL_law_1321 (lv_at hl 5 rfl) ?_
  refine lv_iconst (v := 1) hx hb dL_law_1323 (by decide) ?_
  refine lv_iadd hx hb dL_law_1324 ?_
  obtain ⟨hg_32, hf⟩ := g_gd hf
  refine va_sld (A := g_A G) hx hb hX hbl hbA hS hg_32 dL_law_1325 ?_
  refine lv_aload_n hx hb dL_law_1326 rfl (lv_at hl 1 rfl) ?_
  refine lv_iload hx hb dL_law_1327 (lv_at hl 5 rfl) ?_
  refine lv_iconst (v := 2) hx hb dL_law_1329 (by decide) ?_
  refine lv_iadd hx hb dL_law_1330 ?_
  obtain ⟨hg_33, hf⟩ := g_gd hf
  refine va_sld (A := g_A G) hx hb hX hbl hbA hS hg_33 dL_law_1331 ?_
  refine lv_aload_n hx hb dL_law_1332 rfl (lv_at hl 1 rfl) ?_
  refine lv_iload hx hb dL_law_1333 (lv_at hl 5 rfl) ?_
  refine lv_iconst (v := 3) hx hb dL_law_1335 (by decide) ?_
  refine lv_iadd hx hb dL_law_1336 ?_
  obtain ⟨hg_34, hf⟩ := g_gd hf
  refine va_sld (A := g_A G) hx hb hX hbl hbA hS hg_34 dL_law_1337 ?_
  obtain ⟨⟨r_35, M_36⟩, hc_37, hf⟩ := g_bindE hf
  refine x_calliD (v := (X_28, M_36, τ_30)) hd (va_runV_D (As := [.int (xs ((x4 + 1).toNatClampNeg)), .int (xs ((x4 + 2).toNatClampNeg)), .int (xs ((x4 + 3).toNatClampNeg))]) (rest := []) ⟨hx, hb, hml, hown, hts⟩ (ct_X12_ahead l G X_28 M τ_30 (xs ((x4 + 1).toNatClampNeg)) (xs ((x4 + 2).toNatClampNeg)) (xs ((x4 + 3).toNatClampNeg)) hc_37) (cwV 3 hts gd_L_147 rfl rfl rfl hd_X12_ahead ⟨Nat.le_of_ble_eq_true rfl, Nat.le_of_ble_eq_true rfl⟩) (x_preV (u := (X_28, M, τ_30)) (k := 39) (ci := 12) hC hS hP Nat.zero_lt_one rfl rfl) rfl rfl hl.1 rfl (lv_room (Nat.le_of_ble_eq_true rfl)) dL_law_1338 hcy) hS (fun H locs hP hS d hd => ?_)
  have hts := dr_words hts0 d
  have hC := hC0.dr d
  have hX : va_X b L xs (s.setDrawn d) s.heap := hX0
  refine lv_istore (lv' := [(6, .int r_35), (5, .int x5_31), (0, .ref b), (1, .ref (G.2.1 11 0)), (2, .ref (G.2.1 39 0)), (3, .ref (G.2.1 58 0)), (4, .int x4)]) hx hb dL_law_1341 hl (by decide) rfl (fun ls hl => ?_)
  refine lv_aload_n hx hb dL_law_1343 rfl (lv_at hl 4 rfl) ?_
  obtain ⟨r_38, hc_39, hf⟩ := g_letE hf
  refine x_calli (v := (X_28, M_36, τ_30)) (va_runV (As := []) (rest := []) ⟨hx, hb, hml, hown, hts⟩ (ct_X12_thrown l G X_28 M_36 τ_30  hc_39) (cwV 0 hts gd_L_96 rfl rfl rfl hd_X12_thrown ⟨Nat.le_of_ble_eq_true rfl, Nat.le_of_ble_eq_true rfl⟩) (x_preV (u := (X_28, M_36, τ_30)) (k := 39) (ci := 12) hC hS hP Nat.zero_lt_one rfl rfl) rfl rfl hl.1 rfl (lv_room (Nat.le_of_ble_eq_true rfl)) dL_law_1344 hcy) hS (fun H locs hP hS => ?_)
  refine lv_iload hx hb dL_law_1347 (lv_at hl 1 rfl) ?_
  refine lv_icmp_eq (tgt := 1354) hx hb dL_law_1349 (by decide) (fun hc_40 => ?_) (fun hc_40 => ?_)
  · have hf := g_pos hf hc_40
    refine lv_iload hx hb dL_law_1354 (lv_at hl 1 rfl) ?_
    refine lv_if_ne (tgt := 1371) hx hb dL_law_1356 (by decide) (fun hc_41 => ?_) (fun hc_41 => ?_)
    · have hf := g_neg hf hc_41
      refine lv_goto (tgt := 1424) hx hb dL_law_1371 (by decide) ?_
      obtain ⟨x4_42, ex4_42, hf⟩ := g_letE hf
      refine lv_iinc (v := x4_42) (lv' := [(4, .int x4_42), (6, .int r_35), (5, .int x5_31), (0, .ref b), (1, .ref (G.2.1 11 0)), (2, .ref (G.2.1 39 0)), (3, .ref (G.2.1 58 0))]) hx hb dL_law_1424 hl (k := 6) rfl (by rw [← ex4_42]; rfl) (by decide) rfl (fun ls hl => ?_)
      refine lv_goto (tgt := 23) hx hb dL_law_1427 (by decide) ?_
      exact hk23 x4_42 X_28 M_36 τ_30 hf hd hP hS (lv_sub hl [3, 4, 5, 6, 0] rfl)
    · have hf := g_pos hf hc_41
      refine lv_aload_n hx hb dL_law_1359 rfl (lv_at hl 5 rfl) ?_
      refine lv_iconst (v := 0) hx hb dL_law_1360 (by decide) ?_
      refine xlld (k := 58) (n := 1) hx hb hC hP (fun _ _ => rfl) Nat.zero_lt_one (by decide) dL_law_1361 ?_
      refine lv_iload hx hb dL_law_1362 (lv_at hl 0 rfl) ?_
      refine lv_i2l hx hb dL_law_1364 rfl ?_
      refine W.lcmp hx hb dL_law_1365 ?_
      refine lv_if_eq (tgt := 1371) hx hb dL_law_1366 (by decide) (fun hc_43 => ?_) (fun hc_43 => ?_)
      · have hf := g_pos hf hc_43
        refine lv_goto (tgt := 1424) hx hb dL_law_1371 (by decide) ?_
        obtain ⟨x4_44, ex4_44, hf⟩ := g_letE hf
        refine lv_iinc (v := x4_44) (lv' := [(4, .int x4_44), (6, .int r_35), (5, .int x5_31), (0, .ref b), (1, .ref (G.2.1 11 0)), (2, .ref (G.2.1 39 0)), (3, .ref (G.2.1 58 0))]) hx hb dL_law_1424 hl (k := 6) rfl (by rw [← ex4_44]; rfl) (by decide) rfl (fun ls hl => ?_)
        refine lv_goto (tgt := 23) hx hb dL_law_1427 (by decide) ?_
        exact hk23 x4_44 X_28 M_36 τ_30 hf hd hP hS (lv_sub hl [3, 4, 5, 6, 0] rfl)
      · have hf := g_neg hf hc_43
        refine lv_iconst (v := 0) hx hb dL_law_1369 (by decide) ?_
        cases hf
  · have hf := g_neg hf hc_40
    refine lv_iconst (v := 0) hx hb dL_law_1352 (by decide) ?_
    cases hf
def wb_L_law_1374 (xs : Nat → Int32) (L : Nat) (k23 : Int32 → SM → SM → SL → Option Int32) (x4 : Int32) (X : SM) (M : SM) (τ : SL) : Option Int32 :=
  if g_in (x4 + 1) L then
  (fn_X11_share (xs ((x4 + 1).toNatClampNeg)) X).bind fun r_16 =>
  if g_in (x4 + 1) L then
  (fn_X12_share (xs ((x4 + 1).toNatClampNeg)) M).bind fun (r_19, M_20) =>
  if r_16 = r_19 then
  (g_let (x4 + 6) fun x4_23 =>
    k23 x4_23 X M_20 τ)
  else
  (some 0)
  else none
  else none
set_option maxRecDepth 100000 in
set_option maxHeartbeats 4000000 in
theorem bk_L_law_1374 {p : Program} {l : Launch} {e : Env} {s : State} {m : MethodId} {below : List Frame} {meth : Method} {c : Code} {G : GP} {b L : Nat} {xs : Nat → Int32} (C0 : lw_Cx p l s m meth c b L xs G) {nc ns : Nat} (hn : nc + 1 ≤ 601024 ∧ ns + 6 ≤ 7293034) (k23 : Int32 → SM → SM → SL → Option Int32) (hk23 : ∀ (x4 : Int32) (X M : SM) (τ : SL), k23 x4 X M τ = some 1 → ∀ {d : Drawn} (_ : s.drawn.sameBut d lw_cs) {H : Heap} {locs : List Loc}, va_P G.1 g_cl (wd G (cb X M) τ) H → va_S (g_A G) s.heap H locs → ∀ {ls : Array Slot}, lv_has ls 7 [(0, .ref b), (1, .ref (G.2.1 11 0)), (2, .ref (G.2.1 39 0)), (3, .ref (G.2.1 58 0)), (4, .int x4)] → W p l e room_1 (s.setDrawn d) m #[Value.ref b] below meth c H locs (nc + 1) (ns + 6) (lw_Z below #[Value.ref b] s) (F0 m 23 ls [])) (x4 : Int32) (X M : SM) (τ : SL) (hf : wb_L_law_1374 xs L k23 x4 X M τ = some 1) {d : Drawn} (hd : s.drawn.sameBut d lw_cs) {H : Heap} {locs : List Loc} (hP : va_P G.1 g_cl (wd G (cb X M) τ) H) (hS : va_S (g_A G) s.heap H locs) {ls : Array Slot} (hl : lv_has ls 7 [(0, .ref b), (1, .ref (G.2.1 11 0)), (2, .ref (G.2.1 39 0)), (3, .ref (G.2.1 58 0)), (4, .int x4)]) : W p l e room_1 (s.setDrawn d) m #[Value.ref b] below meth c H locs nc ns (lw_Z below #[Value.ref b] s) (F0 m 1374 ls []) := by
  obtain ⟨hx, hb, hr, hml, hown, hts0, hX0, hbl, hlocks, hC0, hlt, hz0⟩ := id C0
  have hts := dr_words hts0 d
  have hC := hC0.dr d
  have hX : va_X b L xs (s.setDrawn d) s.heap := hX0
  have hbA : ¬ g_A G b := by show ¬ G.2.2.1 ≤ b; omega
  have hcs : nc + 1 ≤ room_1.cells ∧ ns + 6 ≤ room_1.slots := hn
  have hcz : nc + 0 ≤ room_1.cells ∧ ns + 0 ≤ room_1.slots := ⟨Nat.le_trans (Nat.le_succ _) hn.1, Nat.le_trans (Nat.le_add_right _ 6) hn.2⟩
  have hcy : nc + 1 + 0 ≤ room_1.cells ∧ ns + 6 + 0 ≤ room_1.slots := hn
  unfold wb_L_law_1374 at hf
  refine lv_aload_n hx hb dL_law_1374 rfl (lv_at hl 1 rfl) ?_
  refine lv_aload_n hx hb dL_law_1375 rfl (lv_at hl 0 rfl) ?_
  refine lv_iload hx hb dL_law_1376 (lv_at hl 4 rfl) ?_
  refine lv_iconst (v := 1) hx hb dL_law_1378 (by decide) ?_
  refine lv_iadd hx hb dL_law_1379 ?_
  obtain ⟨hg_15, hf⟩ := g_gd hf
  refine va_sld (A := g_A G) hx hb hX hbl hbA hS hg_15 dL_law_1380 ?_
  obtain ⟨r_16, hc_17, hf⟩ := g_bindE hf
  refine x_calli (v := (X, M, τ)) (va_runV (As := [.int (xs ((x4 + 1).toNatClampNeg))]) (rest := []) ⟨hx, hb, hml, hown, hts⟩ (ct_X11_share l G X M τ (xs ((x4 + 1).toNatClampNeg)) hc_17) (cwV 1 hts gd_L_148 rfl rfl rfl hd_X11_share ⟨Nat.le_of_ble_eq_true rfl, Nat.le_of_ble_eq_true rfl⟩) (x_preV (u := (X, M, τ)) (k := 11) (ci := 11) hC hS hP Nat.zero_lt_one rfl rfl) rfl rfl hl.1 rfl (lv_room (Nat.le_of_ble_eq_true rfl)) dL_law_1381 hcz) hS (fun H locs hP hS => ?_)
  refine lv_aload_n hx hb dL_law_1384 rfl (lv_at hl 2 rfl) ?_
  refine lv_aload_n hx hb dL_law_1385 rfl (lv_at hl 0 rfl) ?_
  refine lv_iload hx hb dL_law_1386 (lv_at hl 4 rfl) ?_
  refine lv_iconst (v := 1) hx hb dL_law_1388 (by decide) ?_
  refine lv_iadd hx hb dL_law_1389 ?_
  obtain ⟨hg_18, hf⟩ := g_gd hf
  refine va_sld (A := g_A G) hx hb hX hbl hbA hS hg_18 dL_law_1390 ?_
  obtain ⟨⟨r_19, M_20⟩, hc_21, hf⟩ := g_bindE hf
  refine x_calliD (v := (X, M_20, τ)) hd (va_runV_D (As := [.int (xs ((x4 + 1).toNatClampNeg))]) (rest := [.int r_16]) ⟨hx, hb, hml, hown, hts⟩ (ct_X12_share l G X M τ (xs ((x4 + 1).toNatClampNeg)) hc_21) (cwV 1 hts gd_L_151 rfl rfl rfl hd_X12_share ⟨Nat.le_of_ble_eq_true rfl, Nat.le_of_ble_eq_true rfl⟩) (x_preV (u := (X, M, τ)) (k := 39) (ci := 12) hC hS hP Nat.zero_lt_one rfl rfl) rfl rfl hl.1 rfl (lv_room (Nat.le_of_ble_eq_true rfl)) dL_law_1391 hcz) hS (fun H locs hP hS d hd => ?_)
  have hts := dr_words hts0 d
  have hC := hC0.dr d
  have hX : va_X b L xs (s.setDrawn d) s.heap := hX0
  refine lv_icmp_eq (tgt := 1424) hx hb dL_law_1394 (by decide) (fun hc_22 => ?_) (fun hc_22 => ?_)
  · have hf := g_pos hf hc_22
    obtain ⟨x4_23, ex4_23, hf⟩ := g_letE hf
    refine lv_iinc (v := x4_23) (lv' := [(4, .int x4_23), (0, .ref b), (1, .ref (G.2.1 11 0)), (2, .ref (G.2.1 39 0)), (3, .ref (G.2.1 58 0))]) hx hb dL_law_1424 hl (k := 4) rfl (by rw [← ex4_23]; rfl) (by decide) rfl (fun ls hl => ?_)
    refine lv_goto (tgt := 23) hx hb dL_law_1427 (by decide) ?_
    refine W.widen (k := nc + 1) (n := ns + 6) (Nat.le_succ _) (Nat.le_add_right _ 6) ?_
    exact hk23 x4_23 X M_20 τ hf hd hP hS (lv_sub hl [1, 2, 3, 4, 0] rfl)
  · have hf := g_neg hf hc_22
    refine lv_iconst (v := 0) hx hb dL_law_1397 (by decide) ?_
    cases hf
def wb_L_law_1399 (xs : Nat → Int32) (L : Nat) (k23 : Int32 → SM → SM → SL → Option Int32) (x4 : Int32) (X : SM) (M : SM) (τ : SL) : Option Int32 :=
  if g_in (x4 + 1) L then
  (fn_X11_count (xs ((x4 + 1).toNatClampNeg)) X).bind fun (r_5, X_6) =>
  if g_in (x4 + 1) L then
  (fn_X12_count (xs ((x4 + 1).toNatClampNeg)) M τ).bind fun (r_9, M_10, τ_11) =>
  if r_5 = r_9 then
  (g_let (x4 + 6) fun x4_14 =>
    k23 x4_14 X_6 M_10 τ_11)
  else
  (some 0)
  else none
  else none
set_option maxRecDepth 100000 in
set_option maxHeartbeats 4000000 in
theorem bk_L_law_1399 {p : Program} {l : Launch} {e : Env} {s : State} {m : MethodId} {below : List Frame} {meth : Method} {c : Code} {G : GP} {b L : Nat} {xs : Nat → Int32} (C0 : lw_Cx p l s m meth c b L xs G) {nc ns : Nat} (hn : nc + 1 ≤ 601024 ∧ ns + 6 ≤ 7293034) (k23 : Int32 → SM → SM → SL → Option Int32) (hk23 : ∀ (x4 : Int32) (X M : SM) (τ : SL), k23 x4 X M τ = some 1 → ∀ {d : Drawn} (_ : s.drawn.sameBut d lw_cs) {H : Heap} {locs : List Loc}, va_P G.1 g_cl (wd G (cb X M) τ) H → va_S (g_A G) s.heap H locs → ∀ {ls : Array Slot}, lv_has ls 7 [(0, .ref b), (1, .ref (G.2.1 11 0)), (2, .ref (G.2.1 39 0)), (3, .ref (G.2.1 58 0)), (4, .int x4)] → W p l e room_1 (s.setDrawn d) m #[Value.ref b] below meth c H locs (nc + 1) (ns + 6) (lw_Z below #[Value.ref b] s) (F0 m 23 ls [])) (x4 : Int32) (X M : SM) (τ : SL) (hf : wb_L_law_1399 xs L k23 x4 X M τ = some 1) {d : Drawn} (hd : s.drawn.sameBut d lw_cs) {H : Heap} {locs : List Loc} (hP : va_P G.1 g_cl (wd G (cb X M) τ) H) (hS : va_S (g_A G) s.heap H locs) {ls : Array Slot} (hl : lv_has ls 7 [(0, .ref b), (1, .ref (G.2.1 11 0)), (2, .ref (G.2.1 39 0)), (3, .ref (G.2.1 58 0)), (4, .int x4)]) : W p l e room_1 (s.setDrawn d) m #[Value.ref b] below meth c H locs nc ns (lw_Z below #[Value.ref b] s) (F0 m 1399 ls []) := by
  obtain ⟨hx, hb, hr, hml, hown, hts0, hX0, hbl, hlocks, hC0, hlt, hz0⟩ := id C0
  have hts := dr_words hts0 d
  have hC := hC0.dr d
  have hX : va_X b L xs (s.setDrawn d) s.heap := hX0
  have hbA : ¬ g_A G b := by show ¬ G.2.2.1 ≤ b; omega
  have hcs : nc + 1 ≤ room_1.cells ∧ ns + 6 ≤ room_1.slots := hn
  have hcz : nc + 0 ≤ room_1.cells ∧ ns + 0 ≤ room_1.slots := ⟨Nat.le_trans (Nat.le_succ _) hn.1, Nat.le_trans (Nat.le_add_right _ 6) hn.2⟩
  have hcy : nc + 1 + 0 ≤ room_1.cells ∧ ns + 6 + 0 ≤ room_1.slots := hn
  unfold wb_L_law_1399 at hf
  refine lv_aload_n hx hb dL_law_1399 rfl (lv_at hl 1 rfl) ?_
  refine lv_aload_n hx hb dL_law_1400 rfl (lv_at hl 0 rfl) ?_
  refine lv_iload hx hb dL_law_1401 (lv_at hl 4 rfl) ?_
  refine lv_iconst (v := 1) hx hb dL_law_1403 (by decide) ?_
  refine lv_iadd hx hb dL_law_1404 ?_
  obtain ⟨hg_4, hf⟩ := g_gd hf
  refine va_sld (A := g_A G) hx hb hX hbl hbA hS hg_4 dL_law_1405 ?_
  obtain ⟨⟨r_5, X_6⟩, hc_7, hf⟩ := g_bindE hf
  refine x_calli (v := (X_6, M, τ)) (va_runV (As := [.int (xs ((x4 + 1).toNatClampNeg))]) (rest := []) ⟨hx, hb, hml, hown, hts⟩ (ct_X11_count l G X M τ (xs ((x4 + 1).toNatClampNeg)) hc_7) (cwV 1 hts gd_L_152 rfl rfl rfl hd_X11_count ⟨Nat.le_of_ble_eq_true rfl, Nat.le_of_ble_eq_true rfl⟩) (x_preV (u := (X, M, τ)) (k := 11) (ci := 11) hC hS hP Nat.zero_lt_one rfl rfl) rfl rfl hl.1 rfl (lv_room (Nat.le_of_ble_eq_true rfl)) dL_law_1406 hcz) hS (fun H locs hP hS => ?_)
  refine lv_aload_n hx hb dL_law_1409 rfl (lv_at hl 2 rfl) ?_
  refine lv_aload_n hx hb dL_law_1410 rfl (lv_at hl 0 rfl) ?_
  refine lv_iload hx hb dL_law_1411 (lv_at hl 4 rfl) ?_
  refine lv_iconst (v := 1) hx hb dL_law_1413 (by decide) ?_
  refine lv_iadd hx hb dL_law_1414 ?_
  obtain ⟨hg_8, hf⟩ := g_gd hf
  refine va_sld (A := g_A G) hx hb hX hbl hbA hS hg_8 dL_law_1415 ?_
  obtain ⟨⟨r_9, M_10, τ_11⟩, hc_12, hf⟩ := g_bindE hf
  refine x_calli (v := (X_6, M_10, τ_11)) (va_runV (As := [.int (xs ((x4 + 1).toNatClampNeg))]) (rest := [.int r_5]) ⟨hx, hb, hml, hown, hts⟩ (ct_X12_count l G X_6 M τ (xs ((x4 + 1).toNatClampNeg)) hc_12) (cwV 1 hts gd_L_155 rfl rfl rfl hd_X12_count ⟨Nat.le_of_ble_eq_true rfl, Nat.le_of_ble_eq_true rfl⟩) (x_preV (u := (X_6, M, τ)) (k := 39) (ci := 12) hC hS hP Nat.zero_lt_one rfl rfl) rfl rfl hl.1 rfl (lv_room (Nat.le_of_ble_eq_true rfl)) dL_law_1416 hcz) hS (fun H locs hP hS => ?_)
  refine lv_icmp_eq (tgt := 1424) hx hb dL_law_1419 (by decide) (fun hc_13 => ?_) (fun hc_13 => ?_)
  · have hf := g_pos hf hc_13
    obtain ⟨x4_14, ex4_14, hf⟩ := g_letE hf
    refine lv_iinc (v := x4_14) (lv' := [(4, .int x4_14), (0, .ref b), (1, .ref (G.2.1 11 0)), (2, .ref (G.2.1 39 0)), (3, .ref (G.2.1 58 0))]) hx hb dL_law_1424 hl (k := 4) rfl (by rw [← ex4_14]; rfl) (by decide) rfl (fun ls hl => ?_)
    refine lv_goto (tgt := 23) hx hb dL_law_1427 (by decide) ?_
    refine W.widen (k := nc + 1) (n := ns + 6) (Nat.le_succ _) (Nat.le_add_right _ 6) ?_
    exact hk23 x4_14 X_6 M_10 τ_11 hf hd hP hS (lv_sub hl [1, 2, 3, 4, 0] rfl)
  · have hf := g_neg hf hc_13
    refine lv_iconst (v := 0) hx hb dL_law_1422 (by decide) ?_
    cases hf
def wb_L_law_23 (xs : Nat → Int32) (L : Nat) (k23 : Int32 → SM → SM → SL → Option Int32) (x4 : Int32) (X : SM) (M : SM) (τ : SL) : Option Int32 :=
  if ((nI L) - 6) < x4 then
  (some 1)
  else
  (if g_in x4 L then
    if ((xs (x4.toNatClampNeg)) &&& 31) = 0 then
    (wb_L_law_172 xs L k23 x4 X M τ)
    else
    (if ((xs (x4.toNatClampNeg)) &&& 31) = 1 then
      (wb_L_law_245 xs L k23 x4 X M τ)
      else
      (if ((xs (x4.toNatClampNeg)) &&& 31) = 2 then
        (wb_L_law_270 xs L k23 x4 X M τ)
        else
        (if ((xs (x4.toNatClampNeg)) &&& 31) = 3 then
          (wb_L_law_307 xs L k23 x4 X M τ)
          else
          (if ((xs (x4.toNatClampNeg)) &&& 31) = 4 then
            (wb_L_law_360 xs L k23 x4 X M τ)
            else
            (if ((xs (x4.toNatClampNeg)) &&& 31) = 5 then
              (wb_L_law_413 xs L k23 x4 X M τ)
              else
              (if ((xs (x4.toNatClampNeg)) &&& 31) = 6 then
                (wb_L_law_478 xs L k23 x4 X M τ)
                else
                (if ((xs (x4.toNatClampNeg)) &&& 31) = 7 then
                  (wb_L_law_503 xs L k23 x4 X M τ)
                  else
                  (if ((xs (x4.toNatClampNeg)) &&& 31) = 8 then
                    (wb_L_law_540 xs L k23 x4 X M τ)
                    else
                    (if ((xs (x4.toNatClampNeg)) &&& 31) = 9 then
                      (wb_L_law_577 xs L k23 x4 X M τ)
                      else
                      (if ((xs (x4.toNatClampNeg)) &&& 31) = 10 then
                        (wb_L_law_614 xs L k23 x4 X M τ)
                        else
                        (if ((xs (x4.toNatClampNeg)) &&& 31) = 11 then
                          (wb_L_law_627 xs L k23 x4 X M τ)
                          else
                          (if ((xs (x4.toNatClampNeg)) &&& 31) = 12 then
                            (wb_L_law_640 xs L k23 x4 X M τ)
                            else
                            (if ((xs (x4.toNatClampNeg)) &&& 31) = 13 then
                              (wb_L_law_665 xs L k23 x4 X M τ)
                              else
                              (if ((xs (x4.toNatClampNeg)) &&& 31) = 14 then
                                (wb_L_law_745 xs L k23 x4 X M τ)
                                else
                                (if ((xs (x4.toNatClampNeg)) &&& 31) = 15 then
                                  (wb_L_law_813 xs L k23 x4 X M τ)
                                  else
                                  (if ((xs (x4.toNatClampNeg)) &&& 31) = 16 then
                                    (wb_L_law_881 xs L k23 x4 X M τ)
                                    else
                                    (if ((xs (x4.toNatClampNeg)) &&& 31) = 17 then
                                      (wb_L_law_961 xs L k23 x4 X M τ)
                                      else
                                      (if ((xs (x4.toNatClampNeg)) &&& 31) = 18 then
                                        (wb_L_law_998 xs L k23 x4 X M τ)
                                        else
                                        (if ((xs (x4.toNatClampNeg)) &&& 31) = 19 then
                                          (wb_L_law_1035 xs L k23 x4 X M τ)
                                          else
                                          (if ((xs (x4.toNatClampNeg)) &&& 31) = 20 then
                                          (wb_L_law_1072 xs L k23 x4 X M τ)
                                          else
                                          (if ((xs (x4.toNatClampNeg)) &&& 31) = 21 then
                                          (wb_L_law_1109 xs L k23 x4 X M τ)
                                          else
                                          (if ((xs (x4.toNatClampNeg)) &&& 31) = 22 then
                                          (wb_L_law_1134 xs L k23 x4 X M τ)
                                          else
                                          (if ((xs (x4.toNatClampNeg)) &&& 31) = 23 then
                                          (wb_L_law_1171 xs L k23 x4 X M τ)
                                          else
                                          (if ((xs (x4.toNatClampNeg)) &&& 31) = 24 then
                                          (wb_L_law_1220 xs L k23 x4 X M τ)
                                          else
                                          (if ((xs (x4.toNatClampNeg)) &&& 31) = 25 then
                                          (wb_L_law_1257 xs L k23 x4 X M τ)
                                          else
                                          (if ((xs (x4.toNatClampNeg)) &&& 31) = 26 then
                                          (wb_L_law_1294 xs L k23 x4 X M τ)
                                          else
                                          (if ((xs (x4.toNatClampNeg)) &&& 31) = 27 then
                                          (wb_L_law_1374 xs L k23 x4 X M τ)
                                          else
                                          (if ((xs (x4.toNatClampNeg)) &&& 31) = 28 then
                                          (wb_L_law_1399 xs L k23 x4 X M τ)
                                          else
                                          (g_let (x4 + 6) fun x4_3 =>
                                          k23 x4_3 X M τ)))))))))))))))))))))))))))))
    else none)
set_option maxRecDepth 100000 in
set_option maxHeartbeats 4000000 in
theorem bk_L_law_23 {p : Program} {l : Launch} {e : Env} {s : State} {m : MethodId} {below : List Frame} {meth : Method} {c : Code} {G : GP} {b L : Nat} {xs : Nat → Int32} (C0 : lw_Cx p l s m meth c b L xs G) {nc ns : Nat} (hn : nc + 1 ≤ 601024 ∧ ns + 6 ≤ 7293034) (k23 : Int32 → SM → SM → SL → Option Int32) (hk23 : ∀ (x4 : Int32) (X M : SM) (τ : SL), k23 x4 X M τ = some 1 → ∀ {d : Drawn} (_ : s.drawn.sameBut d lw_cs) {H : Heap} {locs : List Loc}, va_P G.1 g_cl (wd G (cb X M) τ) H → va_S (g_A G) s.heap H locs → ∀ {ls : Array Slot}, lv_has ls 7 [(0, .ref b), (1, .ref (G.2.1 11 0)), (2, .ref (G.2.1 39 0)), (3, .ref (G.2.1 58 0)), (4, .int x4)] → W p l e room_1 (s.setDrawn d) m #[Value.ref b] below meth c H locs (nc + 1) (ns + 6) (lw_Z below #[Value.ref b] s) (F0 m 23 ls [])) (x4 : Int32) (X M : SM) (τ : SL) (hf : wb_L_law_23 xs L k23 x4 X M τ = some 1) {d : Drawn} (hd : s.drawn.sameBut d lw_cs) {H : Heap} {locs : List Loc} (hP : va_P G.1 g_cl (wd G (cb X M) τ) H) (hS : va_S (g_A G) s.heap H locs) {ls : Array Slot} (hl : lv_has ls 7 [(0, .ref b), (1, .ref (G.2.1 11 0)), (2, .ref (G.2.1 39 0)), (3, .ref (G.2.1 58 0)), (4, .int x4)]) : W p l e room_1 (s.setDrawn d) m #[Value.ref b] below meth c H locs nc ns (lw_Z below #[Value.ref b] s) (F0 m 23 ls []) := by
  obtain ⟨hx, hb, hr, hml, hown, hts0, hX0, hbl, hlocks, hC0, hlt, hz0⟩ := id C0
  have hts := dr_words hts0 d
  have hC := hC0.dr d
  have hX : va_X b L xs (s.setDrawn d) s.heap := hX0
  have hbA : ¬ g_A G b := by show ¬ G.2.2.1 ≤ b; omega
  have hcs : nc + 1 ≤ room_1.cells ∧ ns + 6 ≤ room_1.slots := hn
  have hcz : nc + 0 ≤ room_1.cells ∧ ns + 0 ≤ room_1.slots := ⟨Nat.le_trans (Nat.le_succ _) hn.1, Nat.le_trans (Nat.le_add_right _ 6) hn.2⟩
  have hcy : nc + 1 + 0 ≤ room_1.cells ∧ ns + 6 + 0 ≤ room_1.slots := hn
  unfold wb_L_law_23 at hf
  refine lv_iload hx hb dL_law_23 (lv_at hl 4 rfl) ?_
  refine lv_aload_n hx hb dL_law_25 rfl (lv_at hl 0 rfl) ?_
  refine va_slen (A := g_A G) hx hb hX hbl hbA hS dL_law_26 ?_
  refine lv_bipush (v := 6) hx hb dL_law_27 (by decide) ?_
  refine lv_isub hx hb dL_law_29 ?_
  refine lv_icmp_gt (tgt := 1430) hx hb dL_law_30 (by decide) (fun hc_1 => ?_) (fun hc_1 => ?_)
  · have hf := g_pos hf hc_1
    refine lv_iconst (v := 1) hx hb dL_law_1430 (by decide) ?_
    cases hf
    refine va_forget (fun q hq => by show s.heap.size ≤ q.base; rw [← hz0]; exact hS.2.2 q hq) ?_
    refine W.widen (k := 601024) (n := 7293034) (by omega) (by omega) ?_
    exact lw_ret hd hx hb hr hlocks dL_law_1431
  · have hf := g_neg hf hc_1
    refine lv_aload_n hx hb dL_law_33 rfl (lv_at hl 0 rfl) ?_
    refine lv_iload hx hb dL_law_34 (lv_at hl 4 rfl) ?_
    obtain ⟨hg_2, hf⟩ := g_gd hf
    refine va_sld (A := g_A G) hx hb hX hbl hbA hS hg_2 dL_law_36 ?_
    refine lv_bipush (v := 31) hx hb dL_law_37 (by decide) ?_
    refine lv_iand hx hb dL_law_39 ?_
    by_cases hs40_0 : ((xs (x4.toNatClampNeg)) &&& 31) = 0
    · have hf := g_pos hf hs40_0
      refine lv_tableIn (off := 132) (tgt := 172) hx hb dL_law_40 (by rw [hs40_0]; decide) (by rw [hs40_0]; decide) (by rw [hs40_0]; rfl) (by decide) ?_
      exact bk_L_law_172 C0 hn k23 hk23 x4 X M τ hf hd hP hS (lv_sub hl [0, 1, 2, 3, 4] rfl)
    · have hf := g_neg hf hs40_0
      by_cases hs40_1 : ((xs (x4.toNatClampNeg)) &&& 31) = 1
      · have hf := g_pos hf hs40_1
        refine lv_tableIn (off := 205) (tgt := 245) hx hb dL_law_40 (by rw [hs40_1]; decide) (by rw [hs40_1]; decide) (by rw [hs40_1]; rfl) (by decide) ?_
        exact bk_L_law_245 C0 hn k23 hk23 x4 X M τ hf hd hP hS (lv_sub hl [0, 1, 2, 3, 4] rfl)
      · have hf := g_neg hf hs40_1
        by_cases hs40_2 : ((xs (x4.toNatClampNeg)) &&& 31) = 2
        · have hf := g_pos hf hs40_2
          refine lv_tableIn (off := 230) (tgt := 270) hx hb dL_law_40 (by rw [hs40_2]; decide) (by rw [hs40_2]; decide) (by rw [hs40_2]; rfl) (by decide) ?_
          exact bk_L_law_270 C0 hn k23 hk23 x4 X M τ hf hd hP hS (lv_sub hl [0, 1, 2, 3, 4] rfl)
        · have hf := g_neg hf hs40_2
          by_cases hs40_3 : ((xs (x4.toNatClampNeg)) &&& 31) = 3
          · have hf := g_pos hf hs40_3
            refine lv_tableIn (off := 267) (tgt := 307) hx hb dL_law_40 (by rw [hs40_3]; decide) (by rw [hs40_3]; decide) (by rw [hs40_3]; rfl) (by decide) ?_
            exact bk_L_law_307 C0 hn k23 hk23 x4 X M τ hf hd hP hS (lv_sub hl [0, 1, 2, 3, 4] rfl)
          · have hf := g_neg hf hs40_3
            by_cases hs40_4 : ((xs (x4.toNatClampNeg)) &&& 31) = 4
            · have hf := g_pos hf hs40_4
              refine lv_tableIn (off := 320) (tgt := 360) hx hb dL_law_40 (by rw [hs40_4]; decide) (by rw [hs40_4]; decide) (by rw [hs40_4]; rfl) (by decide) ?_
              exact bk_L_law_360 C0 hn k23 hk23 x4 X M τ hf hd hP hS (lv_sub hl [0, 1, 2, 3, 4] rfl)
            · have hf := g_neg hf hs40_4
              by_cases hs40_5 : ((xs (x4.toNatClampNeg)) &&& 31) = 5
              · have hf := g_pos hf hs40_5
                refine lv_tableIn (off := 373) (tgt := 413) hx hb dL_law_40 (by rw [hs40_5]; decide) (by rw [hs40_5]; decide) (by rw [hs40_5]; rfl) (by decide) ?_
                exact bk_L_law_413 C0 hn k23 hk23 x4 X M τ hf hd hP hS (lv_sub hl [0, 1, 2, 3, 4] rfl)
              · have hf := g_neg hf hs40_5
                by_cases hs40_6 : ((xs (x4.toNatClampNeg)) &&& 31) = 6
                · have hf := g_pos hf hs40_6
                  refine lv_tableIn (off := 438) (tgt := 478) hx hb dL_law_40 (by rw [hs40_6]; decide) (by rw [hs40_6]; decide) (by rw [hs40_6]; rfl) (by decide) ?_
                  exact bk_L_law_478 C0 hn k23 hk23 x4 X M τ hf hd hP hS (lv_sub hl [0, 1, 2, 3, 4] rfl)
                · have hf := g_neg hf hs40_6
                  by_cases hs40_7 : ((xs (x4.toNatClampNeg)) &&& 31) = 7
                  · have hf := g_pos hf hs40_7
                    refine lv_tableIn (off := 463) (tgt := 503) hx hb dL_law_40 (by rw [hs40_7]; decide) (by rw [hs40_7]; decide) (by rw [hs40_7]; rfl) (by decide) ?_
                    exact bk_L_law_503 C0 hn k23 hk23 x4 X M τ hf hd hP hS (lv_sub hl [0, 1, 2, 3, 4] rfl)
                  · have hf := g_neg hf hs40_7
                    by_cases hs40_8 : ((xs (x4.toNatClampNeg)) &&& 31) = 8
                    · have hf := g_pos hf hs40_8
                      refine lv_tableIn (off := 500) (tgt := 540) hx hb dL_law_40 (by rw [hs40_8]; decide) (by rw [hs40_8]; decide) (by rw [hs40_8]; rfl) (by decide) ?_
                      exact bk_L_law_540 C0 hn k23 hk23 x4 X M τ hf hd hP hS (lv_sub hl [0, 1, 2, 3, 4] rfl)
                    · have hf := g_neg hf hs40_8
                      by_cases hs40_9 : ((xs (x4.toNatClampNeg)) &&& 31) = 9
                      · have hf := g_pos hf hs40_9
                        refine lv_tableIn (off := 537) (tgt := 577) hx hb dL_law_40 (by rw [hs40_9]; decide) (by rw [hs40_9]; decide) (by rw [hs40_9]; rfl) (by decide) ?_
                        exact bk_L_law_577 C0 hn k23 hk23 x4 X M τ hf hd hP hS (lv_sub hl [0, 1, 2, 3, 4] rfl)
                      · have hf := g_neg hf hs40_9
                        by_cases hs40_10 : ((xs (x4.toNatClampNeg)) &&& 31) = 10
                        · have hf := g_pos hf hs40_10
                          refine lv_tableIn (off := 574) (tgt := 614) hx hb dL_law_40 (by rw [hs40_10]; decide) (by rw [hs40_10]; decide) (by rw [hs40_10]; rfl) (by decide) ?_
                          exact bk_L_law_614 C0 hn k23 hk23 x4 X M τ hf hd hP hS (lv_sub hl [0, 1, 2, 3, 4] rfl)
                        · have hf := g_neg hf hs40_10
                          by_cases hs40_11 : ((xs (x4.toNatClampNeg)) &&& 31) = 11
                          · have hf := g_pos hf hs40_11
                            refine lv_tableIn (off := 587) (tgt := 627) hx hb dL_law_40 (by rw [hs40_11]; decide) (by rw [hs40_11]; decide) (by rw [hs40_11]; rfl) (by decide) ?_
                            exact bk_L_law_627 C0 hn k23 hk23 x4 X M τ hf hd hP hS (lv_sub hl [0, 1, 2, 3, 4] rfl)
                          · have hf := g_neg hf hs40_11
                            by_cases hs40_12 : ((xs (x4.toNatClampNeg)) &&& 31) = 12
                            · have hf := g_pos hf hs40_12
                              refine lv_tableIn (off := 600) (tgt := 640) hx hb dL_law_40 (by rw [hs40_12]; decide) (by rw [hs40_12]; decide) (by rw [hs40_12]; rfl) (by decide) ?_
                              exact bk_L_law_640 C0 hn k23 hk23 x4 X M τ hf hd hP hS (lv_sub hl [0, 1, 2, 3, 4] rfl)
                            · have hf := g_neg hf hs40_12
                              by_cases hs40_13 : ((xs (x4.toNatClampNeg)) &&& 31) = 13
                              · have hf := g_pos hf hs40_13
                                refine lv_tableIn (off := 625) (tgt := 665) hx hb dL_law_40 (by rw [hs40_13]; decide) (by rw [hs40_13]; decide) (by rw [hs40_13]; rfl) (by decide) ?_
                                exact bk_L_law_665 C0 hn k23 hk23 x4 X M τ hf hd hP hS (lv_sub hl [0, 1, 2, 3, 4] rfl)
                              · have hf := g_neg hf hs40_13
                                by_cases hs40_14 : ((xs (x4.toNatClampNeg)) &&& 31) = 14
                                · have hf := g_pos hf hs40_14
                                  refine lv_tableIn (off := 705) (tgt := 745) hx hb dL_law_40 (by rw [hs40_14]; decide) (by rw [hs40_14]; decide) (by rw [hs40_14]; rfl) (by decide) ?_
                                  exact bk_L_law_745 C0 hn k23 hk23 x4 X M τ hf hd hP hS (lv_sub hl [0, 1, 2, 3, 4] rfl)
                                · have hf := g_neg hf hs40_14
                                  by_cases hs40_15 : ((xs (x4.toNatClampNeg)) &&& 31) = 15
                                  · have hf := g_pos hf hs40_15
                                    refine lv_tableIn (off := 773) (tgt := 813) hx hb dL_law_40 (by rw [hs40_15]; decide) (by rw [hs40_15]; decide) (by rw [hs40_15]; rfl) (by decide) ?_
                                    exact bk_L_law_813 C0 hn k23 hk23 x4 X M τ hf hd hP hS (lv_sub hl [0, 1, 2, 3, 4] rfl)
                                  · have hf := g_neg hf hs40_15
                                    by_cases hs40_16 : ((xs (x4.toNatClampNeg)) &&& 31) = 16
                                    · have hf := g_pos hf hs40_16
                                      refine lv_tableIn (off := 841) (tgt := 881) hx hb dL_law_40 (by rw [hs40_16]; decide) (by rw [hs40_16]; decide) (by rw [hs40_16]; rfl) (by decide) ?_
                                      exact bk_L_law_881 C0 hn k23 hk23 x4 X M τ hf hd hP hS (lv_sub hl [0, 1, 2, 3, 4] rfl)
                                    · have hf := g_neg hf hs40_16
                                      by_cases hs40_17 : ((xs (x4.toNatClampNeg)) &&& 31) = 17
                                      · have hf := g_pos hf hs40_17
                                        refine lv_tableIn (off := 921) (tgt := 961) hx hb dL_law_40 (by rw [hs40_17]; decide) (by rw [hs40_17]; decide) (by rw [hs40_17]; rfl) (by decide) ?_
                                        exact bk_L_law_961 C0 hn k23 hk23 x4 X M τ hf hd hP hS (lv_sub hl [0, 1, 2, 3, 4] rfl)
                                      · have hf := g_neg hf hs40_17
                                        by_cases hs40_18 : ((xs (x4.toNatClampNeg)) &&& 31) = 18
                                        · have hf := g_pos hf hs40_18
                                          refine lv_tableIn (off := 958) (tgt := 998) hx hb dL_law_40 (by rw [hs40_18]; decide) (by rw [hs40_18]; decide) (by rw [hs40_18]; rfl) (by decide) ?_
                                          exact bk_L_law_998 C0 hn k23 hk23 x4 X M τ hf hd hP hS (lv_sub hl [0, 1, 2, 3, 4] rfl)
                                        · have hf := g_neg hf hs40_18
                                          by_cases hs40_19 : ((xs (x4.toNatClampNeg)) &&& 31) = 19
                                          · have hf := g_pos hf hs40_19
                                            refine lv_tableIn (off := 995) (tgt := 1035) hx hb dL_law_40 (by rw [hs40_19]; decide) (by rw [hs40_19]; decide) (by rw [hs40_19]; rfl) (by decide) ?_
                                            exact bk_L_law_1035 C0 hn k23 hk23 x4 X M τ hf hd hP hS (lv_sub hl [0, 1, 2, 3, 4] rfl)
                                          · have hf := g_neg hf hs40_19
                                            by_cases hs40_20 : ((xs (x4.toNatClampNeg)) &&& 31) = 20
                                            · have hf := g_pos hf hs40_20
                                              refine lv_tableIn (off := 1032) (tgt := 1072) hx hb dL_law_40 (by rw [hs40_20]; decide) (by rw [hs40_20]; decide) (by rw [hs40_20]; rfl) (by decide) ?_
                                              exact bk_L_law_1072 C0 hn k23 hk23 x4 X M τ hf hd hP hS (lv_sub hl [0, 1, 2, 3, 4] rfl)
                                            · have hf := g_neg hf hs40_20
                                              by_cases hs40_21 : ((xs (x4.toNatClampNeg)) &&& 31) = 21
                                              · have hf := g_pos hf hs40_21
                                                refine lv_tableIn (off := 1069) (tgt := 1109) hx hb dL_law_40 (by rw [hs40_21]; decide) (by rw [hs40_21]; decide) (by rw [hs40_21]; rfl) (by decide) ?_
                                                exact bk_L_law_1109 C0 hn k23 hk23 x4 X M τ hf hd hP hS (lv_sub hl [0, 1, 2, 3, 4] rfl)
                                              · have hf := g_neg hf hs40_21
                                                by_cases hs40_22 : ((xs (x4.toNatClampNeg)) &&& 31) = 22
                                                · have hf := g_pos hf hs40_22
                                                  refine lv_tableIn (off := 1094) (tgt := 1134) hx hb dL_law_40 (by rw [hs40_22]; decide) (by rw [hs40_22]; decide) (by rw [hs40_22]; rfl) (by decide) ?_
                                                  exact bk_L_law_1134 C0 hn k23 hk23 x4 X M τ hf hd hP hS (lv_sub hl [0, 1, 2, 3, 4] rfl)
                                                · have hf := g_neg hf hs40_22
                                                  by_cases hs40_23 : ((xs (x4.toNatClampNeg)) &&& 31) = 23
                                                  · have hf := g_pos hf hs40_23
                                                    refine lv_tableIn (off := 1131) (tgt := 1171) hx hb dL_law_40 (by rw [hs40_23]; decide) (by rw [hs40_23]; decide) (by rw [hs40_23]; rfl) (by decide) ?_
                                                    exact bk_L_law_1171 C0 hn k23 hk23 x4 X M τ hf hd hP hS (lv_sub hl [0, 1, 2, 3, 4] rfl)
                                                  · have hf := g_neg hf hs40_23
                                                    by_cases hs40_24 : ((xs (x4.toNatClampNeg)) &&& 31) = 24
                                                    · have hf := g_pos hf hs40_24
                                                      refine lv_tableIn (off := 1180) (tgt := 1220) hx hb dL_law_40 (by rw [hs40_24]; decide) (by rw [hs40_24]; decide) (by rw [hs40_24]; rfl) (by decide) ?_
                                                      exact bk_L_law_1220 C0 hn k23 hk23 x4 X M τ hf hd hP hS (lv_sub hl [0, 1, 2, 3, 4] rfl)
                                                    · have hf := g_neg hf hs40_24
                                                      by_cases hs40_25 : ((xs (x4.toNatClampNeg)) &&& 31) = 25
                                                      · have hf := g_pos hf hs40_25
                                                        refine lv_tableIn (off := 1217) (tgt := 1257) hx hb dL_law_40 (by rw [hs40_25]; decide) (by rw [hs40_25]; decide) (by rw [hs40_25]; rfl) (by decide) ?_
                                                        exact bk_L_law_1257 C0 hn k23 hk23 x4 X M τ hf hd hP hS (lv_sub hl [0, 1, 2, 3, 4] rfl)
                                                      · have hf := g_neg hf hs40_25
                                                        by_cases hs40_26 : ((xs (x4.toNatClampNeg)) &&& 31) = 26
                                                        · have hf := g_pos hf hs40_26
                                                          refine lv_tableIn (off := 1254) (tgt := 1294) hx hb dL_law_40 (by rw [hs40_26]; decide) (by rw [hs40_26]; decide) (by rw [hs40_26]; rfl) (by decide) ?_
                                                          exact bk_L_law_1294 C0 hn k23 hk23 x4 X M τ hf hd hP hS (lv_sub hl [0, 1, 2, 3, 4] rfl)
                                                        · have hf := g_neg hf hs40_26
                                                          by_cases hs40_27 : ((xs (x4.toNatClampNeg)) &&& 31) = 27
                                                          · have hf := g_pos hf hs40_27
                                                            refine lv_tableIn (off := 1334) (tgt := 1374) hx hb dL_law_40 (by rw [hs40_27]; decide) (by rw [hs40_27]; decide) (by rw [hs40_27]; rfl) (by decide) ?_
                                                            exact bk_L_law_1374 C0 hn k23 hk23 x4 X M τ hf hd hP hS (lv_sub hl [0, 1, 2, 3, 4] rfl)
                                                          · have hf := g_neg hf hs40_27
                                                            by_cases hs40_28 : ((xs (x4.toNatClampNeg)) &&& 31) = 28
                                                            · have hf := g_pos hf hs40_28
                                                              refine lv_tableIn (off := 1359) (tgt := 1399) hx hb dL_law_40 (by rw [hs40_28]; decide) (by rw [hs40_28]; decide) (by rw [hs40_28]; rfl) (by decide) ?_
                                                              exact bk_L_law_1399 C0 hn k23 hk23 x4 X M τ hf hd hP hS (lv_sub hl [0, 1, 2, 3, 4] rfl)
                                                            · have hf := g_neg hf hs40_28
                                                              have nhs40_0 : ((xs (x4.toNatClampNeg)) &&& 31).toInt ≠ 0 := fun h => hs40_0 (Int32.toInt_inj.mp (by rw [h]; rfl))
                                                              have nhs40_1 : ((xs (x4.toNatClampNeg)) &&& 31).toInt ≠ 1 := fun h => hs40_1 (Int32.toInt_inj.mp (by rw [h]; rfl))
                                                              have nhs40_2 : ((xs (x4.toNatClampNeg)) &&& 31).toInt ≠ 2 := fun h => hs40_2 (Int32.toInt_inj.mp (by rw [h]; rfl))
                                                              have nhs40_3 : ((xs (x4.toNatClampNeg)) &&& 31).toInt ≠ 3 := fun h => hs40_3 (Int32.toInt_inj.mp (by rw [h]; rfl))
                                                              have nhs40_4 : ((xs (x4.toNatClampNeg)) &&& 31).toInt ≠ 4 := fun h => hs40_4 (Int32.toInt_inj.mp (by rw [h]; rfl))
                                                              have nhs40_5 : ((xs (x4.toNatClampNeg)) &&& 31).toInt ≠ 5 := fun h => hs40_5 (Int32.toInt_inj.mp (by rw [h]; rfl))
                                                              have nhs40_6 : ((xs (x4.toNatClampNeg)) &&& 31).toInt ≠ 6 := fun h => hs40_6 (Int32.toInt_inj.mp (by rw [h]; rfl))
                                                              have nhs40_7 : ((xs (x4.toNatClampNeg)) &&& 31).toInt ≠ 7 := fun h => hs40_7 (Int32.toInt_inj.mp (by rw [h]; rfl))
                                                              have nhs40_8 : ((xs (x4.toNatClampNeg)) &&& 31).toInt ≠ 8 := fun h => hs40_8 (Int32.toInt_inj.mp (by rw [h]; rfl))
                                                              have nhs40_9 : ((xs (x4.toNatClampNeg)) &&& 31).toInt ≠ 9 := fun h => hs40_9 (Int32.toInt_inj.mp (by rw [h]; rfl))
                                                              have nhs40_10 : ((xs (x4.toNatClampNeg)) &&& 31).toInt ≠ 10 := fun h => hs40_10 (Int32.toInt_inj.mp (by rw [h]; rfl))
                                                              have nhs40_11 : ((xs (x4.toNatClampNeg)) &&& 31).toInt ≠ 11 := fun h => hs40_11 (Int32.toInt_inj.mp (by rw [h]; rfl))
                                                              have nhs40_12 : ((xs (x4.toNatClampNeg)) &&& 31).toInt ≠ 12 := fun h => hs40_12 (Int32.toInt_inj.mp (by rw [h]; rfl))
                                                              have nhs40_13 : ((xs (x4.toNatClampNeg)) &&& 31).toInt ≠ 13 := fun h => hs40_13 (Int32.toInt_inj.mp (by rw [h]; rfl))
                                                              have nhs40_14 : ((xs (x4.toNatClampNeg)) &&& 31).toInt ≠ 14 := fun h => hs40_14 (Int32.toInt_inj.mp (by rw [h]; rfl))
                                                              have nhs40_15 : ((xs (x4.toNatClampNeg)) &&& 31).toInt ≠ 15 := fun h => hs40_15 (Int32.toInt_inj.mp (by rw [h]; rfl))
                                                              have nhs40_16 : ((xs (x4.toNatClampNeg)) &&& 31).toInt ≠ 16 := fun h => hs40_16 (Int32.toInt_inj.mp (by rw [h]; rfl))
                                                              have nhs40_17 : ((xs (x4.toNatClampNeg)) &&& 31).toInt ≠ 17 := fun h => hs40_17 (Int32.toInt_inj.mp (by rw [h]; rfl))
                                                              have nhs40_18 : ((xs (x4.toNatClampNeg)) &&& 31).toInt ≠ 18 := fun h => hs40_18 (Int32.toInt_inj.mp (by rw [h]; rfl))
                                                              have nhs40_19 : ((xs (x4.toNatClampNeg)) &&& 31).toInt ≠ 19 := fun h => hs40_19 (Int32.toInt_inj.mp (by rw [h]; rfl))
                                                              have nhs40_20 : ((xs (x4.toNatClampNeg)) &&& 31).toInt ≠ 20 := fun h => hs40_20 (Int32.toInt_inj.mp (by rw [h]; rfl))
                                                              have nhs40_21 : ((xs (x4.toNatClampNeg)) &&& 31).toInt ≠ 21 := fun h => hs40_21 (Int32.toInt_inj.mp (by rw [h]; rfl))
                                                              have nhs40_22 : ((xs (x4.toNatClampNeg)) &&& 31).toInt ≠ 22 := fun h => hs40_22 (Int32.toInt_inj.mp (by rw [h]; rfl))
                                                              have nhs40_23 : ((xs (x4.toNatClampNeg)) &&& 31).toInt ≠ 23 := fun h => hs40_23 (Int32.toInt_inj.mp (by rw [h]; rfl))
                                                              have nhs40_24 : ((xs (x4.toNatClampNeg)) &&& 31).toInt ≠ 24 := fun h => hs40_24 (Int32.toInt_inj.mp (by rw [h]; rfl))
                                                              have nhs40_25 : ((xs (x4.toNatClampNeg)) &&& 31).toInt ≠ 25 := fun h => hs40_25 (Int32.toInt_inj.mp (by rw [h]; rfl))
                                                              have nhs40_26 : ((xs (x4.toNatClampNeg)) &&& 31).toInt ≠ 26 := fun h => hs40_26 (Int32.toInt_inj.mp (by rw [h]; rfl))
                                                              have nhs40_27 : ((xs (x4.toNatClampNeg)) &&& 31).toInt ≠ 27 := fun h => hs40_27 (Int32.toInt_inj.mp (by rw [h]; rfl))
                                                              have nhs40_28 : ((xs (x4.toNatClampNeg)) &&& 31).toInt ≠ 28 := fun h => hs40_28 (Int32.toInt_inj.mp (by rw [h]; rfl))
                                                              refine lv_tableOut (tgt := 1424) hx hb dL_law_40 (by omega) (by decide) ?_
                                                              obtain ⟨x4_3, ex4_3, hf⟩ := g_letE hf
                                                              refine lv_iinc (v := x4_3) (lv' := [(4, .int x4_3), (0, .ref b), (1, .ref (G.2.1 11 0)), (2, .ref (G.2.1 39 0)), (3, .ref (G.2.1 58 0))]) hx hb dL_law_1424 hl (k := 4) rfl (by rw [← ex4_3]; rfl) (by decide) rfl (fun ls hl => ?_)
                                                              refine lv_goto (tgt := 23) hx hb dL_law_1427 (by decide) ?_
                                                              refine W.widen (k := nc + 1) (n := ns + 6) (Nat.le_succ _) (Nat.le_add_right _ 6) ?_
                                                              exact hk23 x4_3 X M τ hf hd hP hS (lv_sub hl [1, 2, 3, 4, 0] rfl)
def wl_L_law_23 (xs : Nat → Int32) (L : Nat) (n : Nat) (x4 : Int32) (X M : SM) (τ : SL) : Option Int32 := g_loop (α := Int32 × SM × SM × SL) (fun k a => wb_L_law_23 xs L (fun x4 X M τ => k (x4, X, M, τ)) a.1 a.2.1 a.2.2.1 a.2.2.2) n (x4, X, M, τ)
set_option maxRecDepth 100000 in
set_option maxHeartbeats 4000000 in
theorem lp_L_law_23 {p : Program} {l : Launch} {e : Env} {s : State} {m : MethodId} {below : List Frame} {meth : Method} {c : Code} {G : GP} {b L : Nat} {xs : Nat → Int32} (C0 : lw_Cx p l s m meth c b L xs G)  (n : Nat) : ∀ (nc ns : Nat), nc + n ≤ 601024 → ns + 6 * n ≤ 7293034 → ∀ (x4 : Int32) (X M : SM) (τ : SL), wl_L_law_23 xs L n x4 X M τ = some 1 → ∀ {d : Drawn} (_ : s.drawn.sameBut d lw_cs) {H : Heap} {locs : List Loc}, va_P G.1 g_cl (wd G (cb X M) τ) H → va_S (g_A G) s.heap H locs → ∀ {ls : Array Slot}, lv_has ls 7 [(0, .ref b), (1, .ref (G.2.1 11 0)), (2, .ref (G.2.1 39 0)), (3, .ref (G.2.1 58 0)), (4, .int x4)] → W p l e room_1 (s.setDrawn d) m #[Value.ref b] below meth c H locs (nc) (ns) (lw_Z below #[Value.ref b] s) (F0 m 23 ls []) := by
  induction n with
  | zero =>
    intro nc ns h1 h2 x4 X M τ hf
    have hf : (none : Option Int32) = _ := hf
    cases hf
  | succ n ih =>
    intro nc ns h1 h2 x4 X M τ hf d hd H locs hP hS ls hl
    exact bk_L_law_23 C0 ⟨by omega, by omega⟩ (fun x4 X M τ => wl_L_law_23 xs L n x4 X M τ) (ih (nc + 1) (ns + 6) (by omega) (by omega)) x4 X M τ hf hd hP hS hl
