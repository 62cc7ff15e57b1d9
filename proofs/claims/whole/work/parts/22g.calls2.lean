/-! words of indices; the calls thread, register, set, cell, level, slots -/
theorem ix432 {a : Nat} : (432 : Int32) + nI a = nI (432 + a) := nI_add 432 a
theorem ix438 {a : Nat} : (438 : Int32) + nI a = nI (438 + a) := nI_add 438 a
theorem ix444 {a : Nat} : (444 : Int32) + nI a = nI (444 + a) := nI_add 444 a
theorem ix450 {a : Nat} : (450 : Int32) + nI a = nI (450 + a) := nI_add 450 a
theorem ix456 {a : Nat} : (456 : Int32) + nI a = nI (456 + a) := nI_add 456 a
theorem ix462 {a : Nat} : (462 : Int32) + nI a = nI (462 + a) := nI_add 462 a
theorem ix468 {a : Nat} : (468 : Int32) + nI a = nI (468 + a) := nI_add 468 a
theorem ix474 {a : Nat} : (474 : Int32) + nI a = nI (474 + a) := nI_add 474 a
theorem ix480 {a : Nat} : (480 : Int32) + nI a = nI (480 + a) := nI_add 480 a
theorem ix486 {a : Nat} : (486 : Int32) + nI a = nI (486 + a) := nI_add 486 a
theorem ix518 {a : Nat} : (518 : Int32) + nI a = nI (518 + a) := nI_add 518 a
theorem ix687 {a : Nat} : (687 : Int32) + nI a = nI (687 + a) := nI_add 687 a
theorem ix48 {a c : Nat} : (48 : Int32) + 16 * nI a + nI c = nI (48 + 16 * a + c) := by rw [show (16 : Int32) * nI a = nI (16 * a) from ni_mul 16 a, show (48 : Int32) + nI (16 * a) = nI (48 + 16 * a) from nI_add 48 _, nI_add]
theorem ix144 {a c : Nat} : (144 : Int32) + 24 * nI a + nI c = nI (144 + 24 * a + c) := by rw [show (24 : Int32) * nI a = nI (24 * a) from ni_mul 24 a, show (144 : Int32) + nI (24 * a) = nI (144 + 24 * a) from nI_add 144 _, nI_add]
theorem ix288 {a c : Nat} : (288 : Int32) + 24 * nI a + nI c = nI (288 + 24 * a + c) := by rw [show (24 : Int32) * nI a = nI (24 * a) from ni_mul 24 a, show (288 : Int32) + nI (24 * a) = nI (288 + 24 * a) from nI_add 288 _, nI_add]
theorem ix494 {a : Nat} : (494 : Int32) + 6 * nI a = nI (494 + 6 * a) := by rw [show (6 : Int32) * nI a = nI (6 * a) from ni_mul 6 a]; exact nI_add 494 _
theorem ix522 {a c : Nat} : (522 : Int32) + 4 * nI a + nI c = nI (522 + 4 * a + c) := by rw [show (4 : Int32) * nI a = nI (4 * a) from ni_mul 4 a, show (522 : Int32) + nI (4 * a) = nI (522 + 4 * a) from nI_add 522 _, nI_add]
theorem one0 : ¬ (1 : Int32) = 0 := by decide
theorem in693 {a : Nat} (h : a < 693) : g_in (nI a) 693 := g_inI h (by decide)
theorem in6 {a : Nat} (h : a < 6) : g_in (nI a) 6 := g_inI h (by decide)
theorem cl6 {a : Nat} (h : a < 6) : (nI a).toNatClampNeg = a := nI_clamp (by omega)
theorem cl693 {a : Nat} (h : a < 693) : (nI a).toNatClampNeg = a := nI_clamp (by omega)
theorem c_thread {b : Nat} {X M : SM} (x1 x2 : Int32) (h : rJ b X M) : ∃ r M', fn_X11_thread x1 x2 X = some r ∧ fn_X12_thread x1 x2 M = some (r, M') ∧ rJ b X M' := by
  unfold fn_X11_thread fn_X12_thread
  simp only [g_let_eq]
  rcases nI_cases x1 6 (by decide) with ⟨a, ha, rfl⟩ | ho
  · simp only [isThread_in ha, m_isThread_in ha, Option.bind_some, if_neg one0, if_pos (in6 ha), cl6 ha, ix432, ix438, ix444, ix450, ix456, ix462, ix468, ix474, if_pos (in693 (show 432 + a < 693 by omega)), if_pos (in693 (show 438 + a < 693 by omega)), if_pos (in693 (show 444 + a < 693 by omega)), if_pos (in693 (show 450 + a < 693 by omega)), if_pos (in693 (show 456 + a < 693 by omega)), if_pos (in693 (show 462 + a < 693 by omega)), if_pos (in693 (show 468 + a < 693 by omega)), if_pos (in693 (show 474 + a < 693 by omega)), cl693 (show 432 + a < 693 by omega), cl693 (show 438 + a < 693 by omega), cl693 (show 444 + a < 693 by omega), cl693 (show 450 + a < 693 by omega), cl693 (show 456 + a < 693 by omega), cl693 (show 462 + a < 693 by omega), cl693 (show 468 + a < 693 by omega), cl693 (show 474 + a < 693 by omega)]
    have hW := rR_rW h.1
    by_cases h0 : x2 = 0
    · simp only [if_pos h0]
      exact ⟨_, _, rfl, congrArg (fun q => some (q, _)) (hW a 1 ha (by omega)).symm, rJ_thr h⟩
    simp only [if_neg h0]
    by_cases h1 : x2 = 1
    · simp only [if_pos h1]
      exact ⟨_, _, rfl, congrArg (fun q => some (q, _)) (hW a 0 ha (by omega)).symm, rJ_thr h⟩
    simp only [if_neg h1]
    by_cases h2 : x2 = 2
    · simp only [if_pos h2]
      exact ⟨_, _, rfl, congrArg (fun q => some (q, _)) (hW a 2 ha (by omega)).symm, rJ_thr h⟩
    simp only [if_neg h2]
    by_cases h3 : x2 = 3
    · simp only [if_pos h3]
      exact ⟨_, _, rfl, congrArg (fun q => some (q, _)) (hW a 3 ha (by omega)).symm, rJ_thr h⟩
    simp only [if_neg h3]
    by_cases h4 : x2 = 4
    · simp only [if_pos h4]
      exact ⟨_, _, rfl, congrArg (fun q => some (q, _)) (hW a 4 ha (by omega)).symm, rJ_thr h⟩
    simp only [if_neg h4]
    by_cases h5 : x2 = 5
    · simp only [if_pos h5]
      exact ⟨_, _, rfl, congrArg (fun q => some (q, _)) (hW a 5 ha (by omega)).symm, rJ_thr h⟩
    simp only [if_neg h5]
    by_cases h6 : x2 = 6
    · simp only [if_pos h6]
      by_cases q : X 9 (6 * 0 + a) 9 = 1
      · rw [if_pos q]
        obtain ⟨w, -, -, -, e, -⟩ := (rR_rE h.1 a ha).2 (Or.inl ((hW a 1 ha (by omega)).symm.trans q))
        exact ⟨_, _, rfl, congrArg (fun q => some (q, _)) (e ((hW a 1 ha (by omega)).symm.trans q)).2.1.symm, rJ_thr h⟩
      · rw [if_neg q]
        exact ⟨_, _, rfl, congrArg (fun q => some (q, _)) ((rR_rE h.1 a ha).1 (fun z => q ((hW a 1 ha (by omega)).trans z))), rJ_thr h⟩
    simp only [if_neg h6]
    by_cases h7 : x2 = 7
    · simp only [if_pos h7]
      exact ⟨_, _, rfl, congrArg (fun q => some (q, _)) (rR_rL h.1 a ha).symm, rJ_thr h⟩
    simp only [if_neg h7]
    by_cases h8 : x2 = 8
    · simp only [if_pos h8]
      exact ⟨_, _, rfl, congrArg (fun q => some (q, _)) (rR_rM h.1 a ha).symm, rJ_thr h⟩
    simp only [if_neg h8]
    by_cases h9 : x2 = 9
    · simp only [if_pos h9]
      rcases rR_rH h.1 a ha with ⟨e1, e2⟩ | ⟨e1, e2⟩
      · rw [if_pos e1, show u1 M 39 0 15 0 45 0 a = 1 from e2]
        exact ⟨_, _, rfl, rfl, rJ_thr h⟩
      · rw [e1, show u1 M 39 0 15 0 45 0 a = 0 from e2]
        exact ⟨_, _, rfl, rfl, rJ_thr h⟩
    simp only [if_neg h9]
    by_cases h10 : x2 = 10
    · simp only [if_pos h10]
      exact ⟨_, _, rfl, congrArg (fun q => some (q, _)) (rR_rO h.1 a ha).symm, rJ_thr h⟩
    simp only [if_neg h10]
    by_cases h11 : x2 = 11
    · simp only [if_pos h11]
      exact ⟨_, _, rfl, congrArg (fun q => some (q, _)) (h.2.2.2.1 a ha).1.symm, rJ_thr h⟩
    simp only [if_neg h11]
    by_cases h12 : x2 = 12
    · simp only [if_pos h12]
      exact ⟨_, _, rfl, congrArg (fun q => some (q, _)) (h.2.2.2.1 a ha).2.1.symm, rJ_thr h⟩
    simp only [if_neg h12]
    exact ⟨_, _, rfl, rfl, rJ_thr h⟩
  · rw [isThread_out ho, m_isThread_out ho]
    exact ⟨_, _, rfl, rfl, rJ_thr h⟩
theorem m_thr0 {M : SM} : fn_X12_throwing 0 M = (1, u1 M 39 0 15 1) := rfl
theorem m_thr1 {M : SM} : fn_X12_throwing 1 M = (0, u1 M 39 0 15 0) := rfl
theorem thr_at {M : SM} {v : Int32} : fn_X12_thrown (u1 M 39 0 15 v) = v := u1_self
theorem c_register {b : Nat} {X M : SM} (x1 x2 : Int32) (h : rJ b X M) : ∃ o r M', fn_X11_register x1 x2 X = some o ∧ fn_X12_register x1 x2 M = some (r, M') ∧ fn_X12_thrown M' = hv o ∧ (∀ v, o = some v → r = v) ∧ rJ b X M' := by
  unfold fn_X11_register fn_X12_register
  simp only [g_let_eq]
  rcases nI_cases x1 6 (by decide) with ⟨a, ha, rfl⟩ | ho
  · rcases nI_cases x2 8 (by decide) with ⟨c, hc, rfl⟩ | ho
    · simp only [isThread_in ha, m_isThread_in ha, isReg_in hc, Option.bind_some, if_neg one0, if_pos (in6 ha), cl6 ha, show fn_X12_within (nI c) 0 7 = 1 from within_in (lo := 0) (hi := 7) (by omega) (by omega) (by decide), m_thr1, if_true, x_read hc, m_reg ha hc]
      exact ⟨_, _, _, rfl, rfl, thr_at, fun v q => by cases q; exact (rR_rA h.1 a c ha hc).symm, rJ_thr h⟩
    · simp only [isThread_in ha, m_isThread_in ha, isReg_out ho, Option.bind_some, if_neg one0, show fn_X12_within x2 0 7 = 0 from within_out (n := 7) (by decide) ho, m_thr0, if_true]
      exact ⟨_, _, _, rfl, rfl, thr_at, fun v q => (by cases q), rJ_thr h⟩
  · simp only [isThread_out ho, m_isThread_out ho, Option.bind_some, m_thr0, if_true, if_neg one0]
    exact ⟨_, _, _, rfl, rfl, thr_at, fun v q => (by cases q), rJ_thr h⟩
theorem c_level {b : Nat} {X M : SM} (x1 x2 : Int32) (h : rJ b X M) : ∃ r M', fn_X11_level x1 x2 X = some r ∧ fn_X12_level x1 x2 M = some (r, M') ∧ rJ b X M' := by
  unfold fn_X11_level fn_X12_level
  simp only [g_let_eq]
  rcases nI_cases x1 8 (by decide) with ⟨a, ha, rfl⟩ | ho
  · simp only [isPin_in ha, show fn_X12_within (nI a) 0 7 = 1 from within_in (lo := 0) (hi := 7) (by omega) (by omega) (by decide), if_neg one0, x_level ha, x_kind ha, Option.bind_some, ix486, if_pos (in693 (show 486 + a < 693 by omega)), cl693 (show 486 + a < 693 by omega), if_pos (g_inI (show a < 8 by omega) (by decide)), nI_clamp (show a < 2 ^ 31 by omega)]
    by_cases h0 : x2 = 0
    · subst h0
      exact ⟨_, _, rfl, congrArg (fun q => some (q, _)) (rR_rP h.1 a ha).symm, rJ_thr h⟩
    · by_cases h1 : x2 = 1
      · subst h1
        exact ⟨_, _, rfl, congrArg (fun q => some (q, _)) (rR_rK h.1 a ha).symm, rJ_thr h⟩
      · rw [if_neg h0, if_neg h1]
        have e : fn_X12_within x2 0 1 = 0 := by
          rcases nI_cases x2 2 (by decide) with ⟨c, hc, rfl⟩ | ho
          · have : c = 0 ∨ c = 1 := by omega
            rcases this with rfl | rfl
            · exact absurd rfl h0
            · exact absurd rfl h1
          · exact within_out (n := 1) (by decide) ho
        rw [e]
        exact ⟨_, _, rfl, rfl, rJ_thr h⟩
  · rw [isPin_out ho, show fn_X12_within x1 0 7 = 0 from within_out (n := 7) (by decide) ho]
    exact ⟨_, _, rfl, rfl, rJ_thr h⟩
theorem slots_loop {n o : Nat} (hn : n ≤ 16) : ∀ (d k : Nat) (X M : SM) (f f' : Nat), n ≤ k + d → d < f → d < f' → k ≤ 16 → (∀ s, s < k → X 34 0 s = M 50 0 s ∧ (M 50 0 s = -1 ∨ ∃ t, t < 6 ∧ M 50 0 s = nI t)) → ∃ g g' : Nat → Int32, wl_X10_resize_7 f (nI n) (nI o) (nI k) X = some (nI o, u1 (fun a b c => if a = 34 ∧ b = 0 then g c else X a b c) 10 0 1 (nI n)) ∧ wl_X12_slots_24 f' (nI n) (nI o) (nI k) M = some (nI o, u1 (fun a b c => if a = 50 ∧ b = 0 then g' c else M a b c) 39 0 12 (nI n)) ∧ (∀ s, s < n → g s = g' s ∧ (g' s = -1 ∨ ∃ t, t < 6 ∧ g' s = nI t)) := by
  intro d
  induction d with
  | zero =>
    intro k X M f f' h1 h2 h3 h4 h5
    obtain ⟨f, rfl⟩ : ∃ q, f = q + 1 := ⟨f - 1, by omega⟩
    obtain ⟨f', rfl⟩ : ∃ q, f' = q + 1 := ⟨f' - 1, by omega⟩
    refine ⟨X 34 0, M 50 0, ?_, ?_, fun s hs => h5 s (by omega)⟩
    · rw [wl_X10_resize_7_s]
      unfold wb_X10_resize_7
      rw [if_pos (nI_le (by omega) (by omega)), g_let_eq]
      congr 3
      funext a b c
      by_cases q : a = 34 ∧ b = 0
      · rw [if_pos q, q.1, q.2]
      · rw [if_neg q]
    · rw [wl_X12_slots_24_s]
      unfold wb_X12_slots_24
      rw [if_pos (nI_le (by omega) (by omega)), g_let_eq]
      congr 3
      funext a b c
      by_cases q : a = 50 ∧ b = 0
      · rw [if_pos q, q.1, q.2]
      · rw [if_neg q]
  | succ d ih =>
    intro k X M f f' h1 h2 h3 h4 h5
    by_cases hk : n ≤ k
    · exact ih k X M f f' (by omega) (by omega) (by omega) h4 h5
    obtain ⟨f, rfl⟩ : ∃ q, f = q + 1 := ⟨f - 1, by omega⟩
    obtain ⟨f', rfl⟩ : ∃ q, f' = q + 1 := ⟨f' - 1, by omega⟩
    have h6 : ∀ s, s < k + 1 → u1 X 34 0 k (-1) 34 0 s = u1 M 50 0 k (-1) 50 0 s ∧ (u1 M 50 0 k (-1) 50 0 s = -1 ∨ ∃ t, t < 6 ∧ u1 M 50 0 k (-1) 50 0 s = nI t) := by
      intro s hs
      by_cases q : s = k
      · exact ⟨(u1_eq ⟨rfl, rfl, q⟩).trans (u1_eq ⟨rfl, rfl, q⟩).symm, Or.inl (u1_eq ⟨rfl, rfl, q⟩)⟩
      · rw [u1_ne (fun w => q w.2.2), u1_ne (fun w => q w.2.2)]
        exact h5 s (by omega)
    obtain ⟨g, g', e1, e2, e3⟩ := ih (k + 1) (u1 X 34 0 k (-1)) (u1 M 50 0 k (-1)) f f' (by omega) (by omega) (by omega) (by omega) h6
    refine ⟨g, g', ?_, ?_, e3⟩
    · rw [wl_X10_resize_7_s]
      unfold wb_X10_resize_7
      rw [if_neg (nI_ge (by omega) (by omega)), if_neg (show ¬ (16 : Int32) ≤ nI k from nI_ge (b := 16) (by omega) (by decide)), if_pos (g_inI (by omega) (by decide)), nI_clamp (by omega)]
      simp only [g_let_eq, nI_1, e1]
      congr 3
      funext a b c
      by_cases q : a = 34 ∧ b = 0
      · rw [if_pos q, if_pos q]
      · rw [if_neg q, if_neg q, u1_ne (fun w => q ⟨w.1, w.2.1⟩)]
    · rw [wl_X12_slots_24_s]
      unfold wb_X12_slots_24
      rw [if_neg (nI_ge (by omega) (by omega)), if_pos (g_inI (by omega) (by decide)), nI_clamp (by omega)]
      simp only [g_let_eq, nI_1, e2]
      congr 3
      funext a b c
      by_cases q : a = 50 ∧ b = 0
      · rw [if_pos q, if_pos q]
      · rw [if_neg q, if_neg q, u1_ne (fun w => q ⟨w.1, w.2.1⟩)]
theorem c_slots {b : Nat} {X M : SM} (x1 : Int32) (h : rJ b X M) : ∃ r X' M', fn_X11_slots x1 X = some (r, X') ∧ fn_X12_slots x1 M = some (r, M') ∧ rJ b X' M' := by
  unfold fn_X11_slots fn_X12_slots
  simp only [g_let_eq]
  by_cases h1 : x1 < 1
  · rw [if_pos h1, within_no1 h1]
    exact ⟨_, _, _, rfl, rfl, rJ_thr h⟩
  · by_cases h2 : x1 ≤ 16
    · rw [if_neg h1, if_pos h2, within_yes h1 h2, if_neg one0]
      obtain ⟨n, hn, rfl⟩ := nI_of2 (M := 16) (n := 16) (by decide) (fun q => h1 (Int32.lt_trans q (by decide))) h2
      have hn1 : 1 ≤ n := Classical.byContradiction fun q => h1 (by have : n = 0 := by omega
                                                                    subst this
                                                                    decide)
      obtain ⟨o, q1, q2, e1, e2, e3⟩ := h.2.2.1
      obtain ⟨g, g', l1, l2, l3⟩ := slots_loop (o := o) hn 16 o X (u1 M 39 0 15 0) 1000 1000 (by omega) (by omega) (by omega) (by omega) e3
      unfold fn_X10_resize
      rw [show u1 M 39 0 15 0 39 0 12 = nI o from e2, g_let_eq, e1, l1, l2]
      exact ⟨_, _, _, rfl, rfl, ⟨h.1, h.2.1, ⟨n, hn1, hn, rfl, rfl, l3⟩, h.2.2.2⟩⟩
    · rw [if_neg h1, if_neg h2, within_no2 h1 h2]
      exact ⟨_, _, _, rfl, rfl, rJ_thr h⟩
