/-! more calls: set, cell, event, hard, edge -/
theorem p_reg {m : Nat} {X M : SM} {a c : Nat} {v : Int32} (ha : a < 6) (hc : c < 8) (h : rR m X M) : rR m (u1 X 31 (6 * m + a) (c) (v)) (u1 M 40 0 (8 * a + c) (v)) := by
  refine ⟨fun t r ht hr => u_pair (rR_rA h t r ht hr) (by omega), rB_c (X := X) (M := M) (fun t r ht hr => rfl) (fun j h1 h2 => u1_ne (by omega)) (rR_rB h), rW_c (X := X) (M := M) (fun t r ht hr => rfl) (fun j h1 h2 => u1_ne (by omega)) (rR_rW h), rL_c (X := X) (M := M) (fun t ht => rfl) (fun j h1 h2 => u1_ne (by omega)) (rR_rL h), rP_c (X := X) (M := M) (fun t ht => rfl) (fun j h1 h2 => u1_ne (by omega)) (rR_rP h), rR_rK (X := X) (M := M) h, rN_c (X := X) (M := M) (fun j hj => rfl) (fun j h1 h2 => u1_ne (by omega)) (rR_rN h), rR_rC (X := X) (M := M) h, rR_rM (X := X) (M := M) h, rR_rO (X := X) (M := M) h, rR_rH (X := X) (M := M) h, rR_rU (X := X) (M := M) h, rQ_c (X := X) (M := M) (fun c k hc hk => rfl) (fun c hc => rfl) (fun j h1 h2 => u1_ne (by omega)) (fun t ht hq => u1_ne (by omega)) (rR_rQ h), rS_c (X := X) (M := M) (fun j hj => rfl) (fun j h1 h2 => u1_ne (by omega)) (fun j h1 h2 => u1_ne (by omega)) (rR_rS h), rZ_c (X := X) (M := M) (fun t p ht hp => rfl) (fun j h1 h2 => u1_ne (by omega)) (fun j => rfl) (fun t ht => rfl) (rR_rZ h), rE_c (X := X) (M := M) (fun t j ht hj => rfl) (fun t ht => ⟨u1_ne (by omega), u1_ne (by omega), u1_ne (by omega), u1_ne (by omega)⟩) (fun j => rfl) (fun t ht => rfl) (rR_rE h), iC_c (M := M) (fun t ht => u1_ne (by omega)) (fun j => rfl) (fun t ht => rfl) (rR_iC h), iT_c (M := M) (fun t ht => u1_ne (by omega)) (rR_iT h), iL_c (M := M) (u1_ne (by omega)) (rR_iL h), rR_iO (X := X) (M := M) h, rR_iK (X := X) (M := M) h, iE_c (M := M) (u1_ne (by omega)) (rR_iE h)⟩
theorem p_hard {m : Nat} {X M : SM} {a : Nat} {v w : Int32} (ha : a < 6) (hv : (v = 0 ∧ w = 1) ∨ (v = 1 ∧ w = 0)) (h : rR m X M) : rR m (u1 X 9 (6 * m + a) (7) (v)) (u1 M 45 0 (a) (w)) := by
  refine ⟨rR_rA (X := X) (M := M) h, rR_rB (X := X) (M := M) h, rW_c (X := X) (M := M) (fun t r ht hr => u1_ne (by omega)) (fun j h1 h2 => rfl) (rR_rW h), rL_c (X := X) (M := M) (fun t ht => u1_ne (by omega)) (fun j h1 h2 => rfl) (rR_rL h), rR_rP (X := X) (M := M) h, rR_rK (X := X) (M := M) h, rR_rN (X := X) (M := M) h, rR_rC (X := X) (M := M) h, rR_rM (X := X) (M := M) h, rO_c (X := X) (M := M) (fun t ht => u1_ne (by omega)) (fun t ht => rfl) (rR_rO h), fun t ht => ?_, rU_c (X := X) (M := M) (fun t ht => u1_ne (by omega)) (rR_rU h), rR_rQ (X := X) (M := M) h, rR_rS (X := X) (M := M) h, rR_rZ (X := X) (M := M) h, rR_rE (X := X) (M := M) h, rR_iC (X := X) (M := M) h, rR_iT (X := X) (M := M) h, rR_iL (X := X) (M := M) h, rR_iO (X := X) (M := M) h, rR_iK (X := X) (M := M) h, rR_iE (X := X) (M := M) h⟩
  by_cases q : t = a
  · rw [u1_eq ⟨rfl, by omega, rfl⟩, u1_eq ⟨rfl, rfl, q⟩]; exact hv
  · rw [u1_ne (by omega), u1_ne (by omega)]; exact rR_rH h t ht
theorem gE_c {X X' M M' : SM} (h3 : ∀ j, X' 3 0 j = X 3 0 j) (h21 : ∀ j, X' 21 0 j = X 21 0 j) (hM : ∀ j, 522 ≤ j → j < 683 → M' 40 0 j = M 40 0 j) (h : gE X M) : gE X' M' := by
  obtain ⟨n, k, hn, hk, e1, e2, e3, e4⟩ := h
  exact ⟨n, k, hn, hk, (h3 1).trans e1, (h3 2).trans e2, (hM _ (by omega) (by omega)).trans e3, fun i w hi hw => (h21 _).trans ((e4 i w hi hw).trans (hM _ (by omega) (by omega)).symm)⟩
theorem c_set {b : Nat} {X M : SM} (x1 x2 x3 : Int32) (h : rJ b X M) : ∃ o r X' M', fn_X11_set x1 x2 x3 X = some (o, X') ∧ fn_X12_set x1 x2 x3 M = some (r, M') ∧ fn_X12_thrown M' = hv o ∧ (∀ v, o = some v → r = v) ∧ rJ b X' M' := by
  unfold fn_X11_set fn_X12_set
  simp only [g_let_eq]
  rcases nI_cases x1 6 (by decide) with ⟨a, ha, rfl⟩ | ho
  · rcases nI_cases x2 8 (by decide) with ⟨c, hc, rfl⟩ | ho
    · simp only [isThread_in ha, m_isThread_in ha, isReg_in hc, Option.bind_some, if_neg one0, if_pos (in6 ha), cl6 ha, show fn_X12_within (nI c) 0 7 = 1 from within_in (lo := 0) (hi := 7) (by omega) (by omega) (by decide), m_thr1, if_true, x_read hc, x_write hc, m_reg ha hc, m_gets ha hc]
      refine ⟨_, _, _, _, rfl, rfl, (u1_ne (by omega)).trans u1_self, fun v q => by cases q; exact (rR_rA h.1 a c ha hc).symm, ⟨p_reg ha hc (rR_39 h.1), h.2.1, h.2.2.1, h.2.2.2.1, gE_c (fun _ => rfl) (fun _ => rfl) (fun j _ _ => u1_ne (by omega)) h.2.2.2.2.1, h.2.2.2.2.2.1, ?_⟩⟩
      obtain ⟨n, hn, e⟩ := h.2.2.2.2.2.2
      exact ⟨n, hn, (u1_ne (by omega)).trans e⟩
    · simp only [isThread_in ha, m_isThread_in ha, isReg_out ho, Option.bind_some, if_neg one0, show fn_X12_within x2 0 7 = 0 from within_out (n := 7) (by decide) ho, m_thr0, if_true]
      exact ⟨_, _, _, _, rfl, rfl, thr_at, fun v q => (by cases q), rJ_thr h⟩
  · simp only [isThread_out ho, m_isThread_out ho, Option.bind_some, m_thr0, if_true, if_neg one0]
    exact ⟨_, _, _, _, rfl, rfl, thr_at, fun v q => (by cases q), rJ_thr h⟩
theorem x_cellno {X : SM} {i : Nat} {x : Int32} (e : X 9 i 6 = -1) : fn_X9_hasCell i x X = 0 := by
  unfold fn_X9_hasCell
  by_cases q : x < 0
  · rw [if_pos q]
  · rw [if_neg q, e, if_pos (Int32.le_trans (by decide) (Int32.not_lt.mp q))]
theorem x_cellin {X : SM} {i n s : Nat} (hn : n ≤ 16) (e : X 9 i 6 = nI n) (hs : s < n) : fn_X9_hasCell i (nI s) X = 1 := by
  unfold fn_X9_hasCell
  rw [e, if_neg (nI_pos (by omega)), if_neg (nI_ge hs (by omega)), if_neg (show ¬ (16 : Int32) ≤ nI s from nI_ge (b := 16) (by omega) (by decide))]
theorem x_cellout {X : SM} {i n : Nat} {x : Int32} (e : X 9 i 6 = nI n) (ho : x < 0 ∨ (¬ x < 0 ∧ nI n ≤ x)) : fn_X9_hasCell i x X = 0 := by
  unfold fn_X9_hasCell
  rcases ho with ho | ⟨h0, ho⟩
  · rw [if_pos ho]
  · rw [if_neg h0, e, if_pos ho]
theorem m_cellout {x : Int32} {n : Nat} (hn : n < 2 ^ 31) (ho : x < 0 ∨ (¬ x < 0 ∧ nI n ≤ x)) : fn_X12_within x 0 (nI n - 1) = 0 := by
  by_cases h1 : 1 ≤ n
  · exact m_slot_out h1 hn ho
  · have : n = 0 := by omega
    subst this
    rcases ho with ho | ⟨h0, ho⟩
    · exact within_no1 ho
    · exact within_no2 h0 (fun q => h0 (Int32.lt_of_le_of_lt q (by decide)))
theorem m_cellno {x : Int32} : fn_X12_within x 0 (-1 - 1) = 0 := by
  by_cases h0 : x < 0
  · exact within_no1 h0
  · exact within_no2 h0 (fun q => h0 (Int32.lt_of_le_of_lt q (by decide)))
theorem c_cell {b : Nat} {X M : SM} (x1 x2 : Int32) (h : rJ b X M) : ∃ o r M', fn_X11_cell x1 x2 X = some o ∧ fn_X12_cell x1 x2 M = some (r, M') ∧ fn_X12_thrown M' = hv o ∧ (∀ v, o = some v → r = v) ∧ rJ b X M' := by
  unfold fn_X11_cell fn_X12_cell wb_X12_cell_26
  simp only [g_let_eq]
  rcases nI_cases x1 6 (by decide) with ⟨a, ha, rfl⟩ | ho
  · have e6 := rR_rO h.1 a ha
    simp only [isThread_in ha, m_isThread_in ha, Option.bind_some, if_neg one0, if_pos (in6 ha), cl6 ha, m_thr0, m_thr1]
    rcases rR_iO h.1 a ha with e | ⟨n, hn, e⟩
    · simp only [e, x_cellno (e6.trans e), m_cellno, if_true, if_neg one0]
      exact ⟨_, _, _, rfl, rfl, thr_at, fun v q => (by cases q), rJ_thr h⟩
    · rcases nI_cases x2 n (by omega) with ⟨c, hc, rfl⟩ | ho
      · simp only [e, x_cellin hn (e6.trans e) hc, m_slot_in hn hc, if_neg one0, if_true, ix48, if_pos (g_inI (show c < 16 by omega) (by decide)), nI_clamp (show c < 2 ^ 31 by omega), if_pos (in693 (show 48 + 16 * a + c < 693 by omega)), cl693 (show 48 + 16 * a + c < 693 by omega)]
        exact ⟨_, _, _, rfl, rfl, thr_at, fun v q => by cases q; exact (rR_rB h.1 a c ha (by omega)).symm, rJ_thr h⟩
      · simp only [e, x_cellout (e6.trans e) ho, m_cellout (show n < 2 ^ 31 by omega) ho, if_true, if_neg one0]
        exact ⟨_, _, _, rfl, rfl, thr_at, fun v q => (by cases q), rJ_thr h⟩
  · simp only [isThread_out ho, m_isThread_out ho, Option.bind_some, m_thr0, if_true, if_neg one0]
    exact ⟨_, _, _, rfl, rfl, thr_at, fun v q => (by cases q), rJ_thr h⟩
theorem gW_c {m : Nat} {X X' : SM} (h3 : ∀ j, X' 3 m j = X 3 m j) (h9 : ∀ t, t < 6 → X' 9 (6 * m + t) 0 = X 9 (6 * m + t) 0) (h : gW m X) : gW m X' := by
  obtain ⟨⟨n, k, hn, hk, e1, e2⟩, e⟩ := h
  exact ⟨⟨n, k, hn, hk, (h3 1).trans e1, (h3 2).trans e2⟩, fun t ht => (h9 t ht).trans (e t ht)⟩
theorem c_hard {b : Nat} {X M : SM} (x1 x2 : Int32) (hx : x2 = 0 ∨ x2 = 1) (h : rJ b X M) : ∃ r X' M', fn_X11_hard x1 x2 X = some (r, X') ∧ fn_X12_hard x1 x2 M = some (r, M') ∧ rJ b X' M' := by
  unfold fn_X11_hard fn_X12_hard
  simp only [g_let_eq]
  rcases nI_cases x1 6 (by decide) with ⟨a, ha, rfl⟩ | ho
  · have fin : ∀ v w, ((v = 0 ∧ w = 1) ∨ (v = 1 ∧ w = 0)) → rJ b (u1 X 9 (6 * 0 + a) 7 v) (u1 (u1 M 39 0 15 0) 45 0 a w) := fun v w hv => ⟨p_hard ha hv (rR_39 h.1), h.2.1, h.2.2.1, h.2.2.2.1, h.2.2.2.2.1, gW_c (X := X) (fun _ => rfl) (fun t ht => u1_ne (by omega)) h.2.2.2.2.2.1, h.2.2.2.2.2.2⟩
    simp only [isThread_in ha, m_isThread_in ha, Option.bind_some, if_neg one0, if_pos (in6 ha), cl6 ha, if_pos hx]
    rcases rR_rH h.1 a ha with ⟨e1, e2⟩ | ⟨e1, e2⟩
    · rw [e1, show u1 M 39 0 15 0 45 0 a = 1 from e2]
      rcases hx with rfl | rfl
      · exact ⟨_, _, _, rfl, rfl, rJ_thr h⟩
      · exact ⟨_, _, _, rfl, rfl, fin 1 0 (by decide)⟩
    · rw [e1, show u1 M 39 0 15 0 45 0 a = 0 from e2]
      rcases hx with rfl | rfl
      · exact ⟨_, _, _, rfl, rfl, fin 0 1 (by decide)⟩
      · exact ⟨_, _, _, rfl, rfl, rJ_thr h⟩
  · rw [isThread_out ho, m_isThread_out ho]
    exact ⟨_, _, _, rfl, rfl, rJ_thr h⟩
theorem x_append {X : SM} {x1 x2 x3 : Int32} {e : Nat} (he : e < 32) (q : X 5 0 3 = nI e) : fn_X5_append x1 x2 x3 X = some (nI (e + 1), u1 (u1 (u1 (u1 X 22 0 e x1) 23 0 e x2) 24 0 e x3) 5 0 3 (nI (e + 1))) := by
  unfold fn_X5_append
  simp only [g_let_eq]
  have q1 : ∀ {v : Int32}, u1 X 22 0 e v 5 0 3 = nI e := q
  have q2 : ∀ {v v' : Int32}, u1 (u1 X 22 0 e v) 23 0 e v' 5 0 3 = nI e := q
  have q3 : ∀ {v v' v'' : Int32}, u1 (u1 (u1 X 22 0 e v) 23 0 e v') 24 0 e v'' 5 0 3 = nI e := q
  simp only [q, if_neg (nI_pos (show e < 2 ^ 31 by omega)), if_pos (show nI e < 32 from nI_lt (b := 32) he (by decide)), if_pos (g_inI he (by decide)), nI_clamp (show e < 2 ^ 31 by omega), q1, q2, q3, nI_1]
  rfl
theorem x_appendno {X : SM} {x1 x2 x3 : Int32} (q : X 5 0 3 = 32) : fn_X5_append x1 x2 x3 X = some (-1, X) := by
  unfold fn_X5_append
  rw [q]
  rfl
theorem c_event {b : Nat} {X M : SM} (x1 x2 x3 : Int32) (hx : x3 = 0 ∨ x3 = 1) (h : rJ b X M) : ∃ r X' M', fn_X11_event x1 x2 x3 X = some (r, X') ∧ fn_X12_event x1 x2 x3 M = some (r, M') ∧ rJ b X' M' := by
  unfold fn_X11_event fn_X12_event
  simp only [g_let_eq]
  rcases nI_cases x1 8 (by decide) with ⟨a, ha, rfl⟩ | ho
  · simp only [x_kind ha, show fn_X12_within (nI a) 0 7 = 1 from within_in (lo := 0) (hi := 7) (by omega) (by omega) (by decide), if_neg one0, Option.bind_some, if_pos (g_inI (show a < 8 by omega) (by decide)), nI_clamp (show a < 2 ^ 31 by omega), rR_rK h.1 a ha, (rR_rN h.1).1]
    by_cases k0 : M 46 0 a = 0
    · rw [if_pos k0, if_pos (show u1 M 39 0 15 0 46 0 a = 0 from k0)]
      by_cases h1 : x2 < M 40 0 683
      · rw [if_pos h1, within_no1 (show x2 < u1 M 39 0 15 0 40 0 683 from h1)]
        exact ⟨_, _, _, rfl, rfl, rJ_thr h⟩
      · by_cases h2 : x2 ≤ 99999
        · rw [if_neg h1, if_pos h2, within_yes (show ¬ x2 < u1 M 39 0 15 0 40 0 683 from h1) h2, if_neg one0]
          obtain ⟨e, he, e1, e2, e3⟩ := h.2.1
          by_cases q : e = 32
          · subst q
            rw [show u1 M 39 0 15 0 39 0 10 = 32 from e2, if_pos rfl, x_appendno e1, x_appendno e1]
            rcases hx with rfl | rfl
            · exact ⟨_, _, _, rfl, rfl, rJ_thr h⟩
            · exact ⟨_, _, _, rfl, rfl, rJ_thr h⟩
          · have q1 : ∀ {v : Int32}, u1 (u1 M 39 0 15 0) 47 0 e v 39 0 10 = nI e := e2
            have q2 : ∀ {v v' : Int32}, u1 (u1 (u1 M 39 0 15 0) 47 0 e v) 48 0 e v' 39 0 10 = nI e := e2
            have q3 : ∀ {v v' v'' : Int32}, u1 (u1 (u1 (u1 M 39 0 15 0) 47 0 e v) 48 0 e v') 49 0 e v'' 39 0 10 = nI e := e2
            simp only [show u1 M 39 0 15 0 39 0 10 = nI e from e2, if_neg (show ¬ nI e = 32 from fun w => q ((nI_eq (b := 32) (by omega) (by decide)).mp w)), if_pos (g_inI (show e < 32 by omega) (by decide)), nI_clamp (show e < 2 ^ 31 by omega), q1, q2, q3, x_append (show e < 32 by omega) e1, Option.bind_some, nI_1]
            have fin : ∀ v, rJ b (u1 (u1 (u1 (u1 X 22 0 e (nI a)) 23 0 e x2) 24 0 e v) 5 0 3 (nI (e + 1))) (u1 (u1 (u1 (u1 (u1 M 39 0 15 0) 47 0 e x2) 48 0 e (nI a)) 49 0 e v) 39 0 10 (nI (e + 1))) := by
              intro v
              refine ⟨h.1, ⟨e + 1, by omega, rfl, rfl, fun i hi => ?_⟩, h.2.2⟩
              by_cases z : i = e
              · subst z
                exact ⟨show u1 X 23 0 i x2 23 0 i = u1 M 47 0 i x2 47 0 i from u1_self.trans u1_self.symm, show u1 X 22 0 i (nI a) 22 0 i = u1 M 48 0 i (nI a) 48 0 i from u1_self.trans u1_self.symm, show u1 X 24 0 i v 24 0 i = u1 M 49 0 i v 49 0 i from u1_self.trans u1_self.symm, a, ha, show u1 M 48 0 i (nI a) 48 0 i = nI a from u1_self⟩
              · obtain ⟨g1, g2, g3, p, hp, g4⟩ := e3 i (by omega)
                exact ⟨show u1 X 23 0 e x2 23 0 i = u1 M 47 0 e x2 47 0 i from u_pair g1 (by omega), show u1 X 22 0 e (nI a) 22 0 i = u1 M 48 0 e (nI a) 48 0 i from u_pair g2 (by omega), show u1 X 24 0 e v 24 0 i = u1 M 49 0 e v 49 0 i from u_pair g3 (by omega), p, hp, show u1 M 48 0 e (nI a) 48 0 i = nI p from (u1_ne (by omega)).trans g4⟩
            rcases hx with rfl | rfl
            · exact ⟨_, _, _, rfl, rfl, fin 0⟩
            · exact ⟨_, _, _, rfl, rfl, fin 1⟩
        · rw [if_neg h1, if_neg h2, within_no2 (show ¬ x2 < u1 M 39 0 15 0 40 0 683 from h1) h2]
          exact ⟨_, _, _, rfl, rfl, rJ_thr h⟩
    · rw [if_neg k0, if_neg (show ¬ u1 M 39 0 15 0 46 0 a = 0 from k0)]
      exact ⟨_, _, _, rfl, rfl, rJ_thr h⟩
  · unfold fn_X8_kindOf
    rw [g_let_eq, isPin_out ho, show fn_X12_within x1 0 7 = 0 from within_out (n := 7) (by decide) ho]
    exact ⟨_, _, _, rfl, rfl, rJ_thr h⟩
