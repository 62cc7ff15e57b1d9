/-! the calls of the tables: due, asks, table, slot -/
theorem c_due {b : Nat} {X M : SM} (x1 x2 : Int32) (h : rJ b X M) : ∃ r X' M', fn_X11_due x1 x2 X = some (r, X') ∧ fn_X12_due x1 x2 M = some (r, M') ∧ rJ b X' M' := by
  unfold fn_X11_due fn_X12_due
  simp only [g_let_eq]
  rcases nI_cases x1 6 (by decide) with ⟨a, ha, rfl⟩ | ho
  · rw [isThread_in ha, m_isThread_in ha]
    simp only [Option.bind_some, if_neg (show ¬ (1 : Int32) = 0 by decide), if_pos (g_inI ha (by decide)), nI_clamp (show a < 2 ^ 31 by omega)]
    by_cases h1 : x2 < 0
    · rw [if_pos h1, within_no1 h1, if_pos rfl]
      exact ⟨_, _, _, rfl, rfl, rJ_thr h⟩
    · by_cases h2 : x2 ≤ 9999
      · rw [if_neg h1, if_pos h2, within_yes h1 h2, if_neg (by decide)]
        refine ⟨_, _, _, rfl, congrArg (fun q => some (q, _)) (h.2.2.2.1 a ha).1.symm, ⟨h.1, h.2.1, h.2.2.1, fun t ht => ?_, h.2.2.2.2⟩⟩
        obtain ⟨e1, e2, g, e3⟩ := h.2.2.2.1 t ht
        exact ⟨u_pair e1 (by omega), e2, g, e3⟩
      · rw [if_neg h1, if_neg h2, within_no2 h1 h2, if_pos rfl]
        exact ⟨_, _, _, rfl, rfl, rJ_thr h⟩
  · rw [isThread_out ho, m_isThread_out ho]
    exact ⟨_, _, _, rfl, rfl, rJ_thr h⟩
theorem c_asks {b : Nat} {X M : SM} (x1 x2 : Int32) (h : rJ b X M) : ∃ r X' M', fn_X11_asks x1 x2 X = some (r, X') ∧ fn_X12_asks x1 x2 M = some (r, M') ∧ rJ b X' M' := by
  unfold fn_X11_asks fn_X12_asks
  simp only [g_let_eq]
  rcases nI_cases x1 6 (by decide) with ⟨a, ha, rfl⟩ | ho
  · rw [isThread_in ha, m_isThread_in ha]
    simp only [Option.bind_some, if_neg (show ¬ (1 : Int32) = 0 by decide), if_pos (g_inI ha (by decide)), nI_clamp (show a < 2 ^ 31 by omega)]
    by_cases h1 : x2 < 0
    · rw [if_pos h1, within_no1 h1, if_pos rfl]
      exact ⟨_, _, _, rfl, rfl, rJ_thr h⟩
    · by_cases h2 : x2 ≤ 16
      · rw [if_neg h1, if_pos h2, within_yes h1 h2, if_neg (by decide)]
        refine ⟨_, _, _, rfl, congrArg (fun q => some (q, _)) (h.2.2.2.1 a ha).2.1.symm, ⟨h.1, h.2.1, h.2.2.1, fun t ht => ?_, h.2.2.2.2⟩⟩
        obtain ⟨e1, e2, g, e3, e4⟩ := h.2.2.2.1 t ht
        refine ⟨e1, u_pair e2 (by omega), ?_⟩
        by_cases q : t = a
        · obtain ⟨n, hn, e⟩ := nI_of2 (M := 16) (n := 16) (by decide) h1 h2
          exact ⟨n, hn, (u1_eq ⟨rfl, rfl, q⟩).trans e⟩
        · exact ⟨g, e3, (u1_ne (fun w => q w.2.2)).trans e4⟩
      · rw [if_neg h1, if_neg h2, within_no2 h1 h2, if_pos rfl]
        exact ⟨_, _, _, rfl, rfl, rJ_thr h⟩
  · rw [isThread_out ho, m_isThread_out ho]
    exact ⟨_, _, _, rfl, rfl, rJ_thr h⟩
theorem x_has {X : SM} {n s : Nat} (hn : n ≤ 16) (e : X 10 0 1 = nI n) (hs : s < n) : fn_X10_has (nI s) X = 1 := by
  unfold fn_X10_has
  rw [e, if_neg (nI_pos (by omega)), if_neg (nI_ge hs (by omega)), if_neg (show ¬ (16 : Int32) ≤ nI s from nI_ge (b := 16) (by omega) (by decide))]
theorem x_hasnot {X : SM} {x : Int32} {n : Nat} (e : X 10 0 1 = nI n) (ho : x < 0 ∨ (¬ x < 0 ∧ nI n ≤ x)) : fn_X10_has x X = 0 := by
  unfold fn_X10_has
  rcases ho with ho | ⟨h0, ho⟩
  · rw [if_pos ho]
  · rw [if_neg h0, e, if_pos ho]
theorem m_slot_in {n s : Nat} (hn : n ≤ 16) (hs : s < n) : fn_X12_within (nI s) 0 (nI n - 1) = 1 := by
  obtain ⟨k, rfl⟩ : ∃ k, n = k + 1 := ⟨n - 1, by omega⟩
  rw [nI_pred]
  exact within_in (lo := 0) (Nat.zero_le _) (by omega) (by omega)
theorem m_slot_out {x : Int32} {n : Nat} (h1 : 1 ≤ n) (hn : n < 2 ^ 31) (ho : x < 0 ∨ (¬ x < 0 ∧ nI n ≤ x)) : fn_X12_within x 0 (nI n - 1) = 0 := by
  obtain ⟨k, rfl⟩ : ∃ k, n = k + 1 := ⟨n - 1, by omega⟩
  rw [nI_pred]
  exact within_out hn ho
theorem c_table {b : Nat} {X M : SM} (x1 : Int32) (h : rJ b X M) : ∃ r M', fn_X11_table x1 X = some r ∧ fn_X12_table x1 M = some (r, M') ∧ rJ b X M' := by
  unfold fn_X11_table fn_X12_table
  simp only [g_let_eq]
  obtain ⟨n, h1, h2, e1, e2, e3⟩ := h.2.2.1
  rw [show u1 M 39 0 15 0 39 0 12 = nI n from e2]
  rcases nI_cases x1 n (by omega) with ⟨a, ha, rfl⟩ | ho
  · simp only [x_has h2 e1 ha, m_slot_in h2 ha, if_neg (show ¬ (1 : Int32) = 0 by decide), if_pos (g_inI (show a < 16 by omega) (by decide)), nI_clamp (show a < 2 ^ 31 by omega)]
    exact ⟨_, _, rfl, congrArg (fun q => some (q, _)) (e3 a ha).1.symm, rJ_thr h⟩
  · rw [x_hasnot e1 ho, m_slot_out h1 (by omega) ho]
    exact ⟨_, _, rfl, rfl, rJ_thr h⟩
theorem c_slot {b : Nat} {X M : SM} (x1 x2 : Int32) (h : rJ b X M) : ∃ r X' M', fn_X11_slot x1 x2 X = some (r, X') ∧ fn_X12_slot x1 x2 M = some (r, M') ∧ rJ b X' M' := by
  unfold fn_X11_slot fn_X12_slot
  simp only [g_let_eq]
  obtain ⟨n, h1, h2, e1, e2, e3⟩ := h.2.2.1
  rw [show u1 M 39 0 15 0 39 0 12 = nI n from e2]
  rcases nI_cases x1 n (by omega) with ⟨a, ha, rfl⟩ | ho
  · simp only [x_has h2 e1 ha, m_slot_in h2 ha, if_neg (show ¬ (1 : Int32) = 0 by decide), if_pos (g_inI (show a < 16 by omega) (by decide)), nI_clamp (show a < 2 ^ 31 by omega)]
    have fin : (x2 = -1 ∨ ∃ t, t < 6 ∧ x2 = nI t) → rJ b (u1 X 34 0 a x2) (u1 (u1 M 39 0 15 0) 50 0 a x2) := by
      intro hx
      refine ⟨h.1, h.2.1, ⟨n, h1, h2, e1, e2, fun s hs => ⟨u_pair (e3 s hs).1 (by omega), ?_⟩⟩, h.2.2.2⟩
      by_cases q : s = a
      · rw [u1_eq ⟨rfl, rfl, q⟩]; exact hx
      · rw [u1_ne (fun w => q w.2.2)]; exact (e3 s hs).2
    by_cases q : x2 = -1
    · rw [if_pos q, if_pos q]
      exact ⟨_, _, _, rfl, rfl, fin (Or.inl q)⟩
    · rw [if_neg q, if_neg q]
      rcases nI_cases x2 6 (by decide) with ⟨t, ht, rfl⟩ | ho
      · rw [isThread_in ht, m_isThread_in ht, Option.bind_some, if_neg (by decide), if_neg (by decide)]
        exact ⟨_, _, _, rfl, rfl, fin (Or.inr ⟨t, ht, rfl⟩)⟩
      · rw [isThread_out ho, m_isThread_out ho, Option.bind_some, if_pos rfl, if_pos rfl]
        exact ⟨_, _, _, rfl, rfl, rJ_thr h⟩
  · rw [x_hasnot e1 ho, m_slot_out h1 (by omega) ho]
    exact ⟨_, _, _, rfl, rfl, rJ_thr h⟩
