/-! the law's loop: each call -/
theorem ht_0 {v : Int32} {τ : SL} : ht (some v) τ 58 0 0 = v.toInt64 := by
  show ul1 τ 58 0 (Int32.toNatClampNeg 0) v.toInt64 58 0 0 = _
  unfold ul1 vp_updL
  rw [ul_eq, if_pos (by decide)]
def lst (k : Int32 → SM → SM → SL → Option Int32) (i b : Nat) (o : Option Int32) : Prop := ∃ X' M' τ', o = k (nI (i + 6)) X' M' τ' ∧ rJ (b + 200) X' M'
section LW
variable {xs : Nat → Int32} {L i b : Nat} {X M : SM} {τ : SL} {k : Int32 → SM → SM → SL → Option Int32}
theorem lst_of {X' M' : SM} {τ' : SL} (h : rJ b X' M') : lst k i b (k (nI (i + 6)) X' M' τ') := ⟨X', M', τ', rfl, rJ_le h (by omega)⟩
theorem l_tell (hL : L ≤ 3072) (hi : i + 6 ≤ L) (hb : b < 2 ^ 29) (h : rJ b X M) : lst k i b (wb_L_law_172 xs L k (nI i) X M τ) := by
  obtain ⟨r, X', M', e1, e2, e3⟩ := c_tell (xs (i + 1)) (xs (i + 2)) (xs (i + 3)) (xs (i + 4)) (xs (i + 5))  h
  unfold wb_L_law_172
  simp only [show nI i + 1 = nI (i + 1) from nI_add i 1, show nI i + 2 = nI (i + 2) from nI_add i 2, show nI i + 3 = nI (i + 3) from nI_add i 3, show nI i + 4 = nI (i + 4) from nI_add i 4, show nI i + 5 = nI (i + 5) from nI_add i 5, if_pos (g_inI (show i + 1 < L by omega) (show L < 2 ^ 31 by omega)), nI_clamp (show i + 1 < 2 ^ 31 by omega), if_pos (g_inI (show i + 2 < L by omega) (show L < 2 ^ 31 by omega)), nI_clamp (show i + 2 < 2 ^ 31 by omega), if_pos (g_inI (show i + 3 < L by omega) (show L < 2 ^ 31 by omega)), nI_clamp (show i + 3 < 2 ^ 31 by omega), if_pos (g_inI (show i + 4 < L by omega) (show L < 2 ^ 31 by omega)), nI_clamp (show i + 4 < 2 ^ 31 by omega), if_pos (g_inI (show i + 5 < L by omega) (show L < 2 ^ 31 by omega)), nI_clamp (show i + 5 < 2 ^ 31 by omega), e1, e2, Option.bind_some, if_true, g_let_eq, show nI i + 6 = nI (i + 6) from nI_add i 6]
  exact lst_of e3
theorem l_wipe (hL : L ≤ 3072) (hi : i + 6 ≤ L) (hb : b < 2 ^ 29) (h : rJ b X M) : lst k i b (wb_L_law_245 xs L k (nI i) X M τ) := by
  obtain ⟨r, X', M', e1, e2, e3⟩ := c_wipe (xs (i + 1))  h
  unfold wb_L_law_245
  simp only [show nI i + 1 = nI (i + 1) from nI_add i 1, if_pos (g_inI (show i + 1 < L by omega) (show L < 2 ^ 31 by omega)), nI_clamp (show i + 1 < 2 ^ 31 by omega), e1, e2, Option.bind_some, if_true, g_let_eq, show nI i + 6 = nI (i + 6) from nI_add i 6]
  exact lst_of e3
theorem l_memory (hL : L ≤ 3072) (hi : i + 6 ≤ L) (hb : b < 2 ^ 29) (h : rJ b X M) : lst k i b (wb_L_law_270 xs L k (nI i) X M τ) := by
  obtain ⟨r, X', M', e1, e2, e3⟩ := c_memory (xs (i + 1)) (xs (i + 2))  h
  unfold wb_L_law_270
  simp only [show nI i + 1 = nI (i + 1) from nI_add i 1, show nI i + 2 = nI (i + 2) from nI_add i 2, if_pos (g_inI (show i + 1 < L by omega) (show L < 2 ^ 31 by omega)), nI_clamp (show i + 1 < 2 ^ 31 by omega), if_pos (g_inI (show i + 2 < L by omega) (show L < 2 ^ 31 by omega)), nI_clamp (show i + 2 < 2 ^ 31 by omega), e1, e2, Option.bind_some, if_true, g_let_eq, show nI i + 6 = nI (i + 6) from nI_add i 6]
  exact lst_of e3
theorem l_slots (hL : L ≤ 3072) (hi : i + 6 ≤ L) (hb : b < 2 ^ 29) (h : rJ b X M) : lst k i b (wb_L_law_478 xs L k (nI i) X M τ) := by
  obtain ⟨r, X', M', e1, e2, e3⟩ := c_slots (xs (i + 1))  h
  unfold wb_L_law_478
  simp only [show nI i + 1 = nI (i + 1) from nI_add i 1, if_pos (g_inI (show i + 1 < L by omega) (show L < 2 ^ 31 by omega)), nI_clamp (show i + 1 < 2 ^ 31 by omega), e1, e2, Option.bind_some, if_true, g_let_eq, show nI i + 6 = nI (i + 6) from nI_add i 6]
  exact lst_of e3
theorem l_slot (hL : L ≤ 3072) (hi : i + 6 ≤ L) (hb : b < 2 ^ 29) (h : rJ b X M) : lst k i b (wb_L_law_503 xs L k (nI i) X M τ) := by
  obtain ⟨r, X', M', e1, e2, e3⟩ := c_slot (xs (i + 1)) (xs (i + 2))  h
  unfold wb_L_law_503
  simp only [show nI i + 1 = nI (i + 1) from nI_add i 1, show nI i + 2 = nI (i + 2) from nI_add i 2, if_pos (g_inI (show i + 1 < L by omega) (show L < 2 ^ 31 by omega)), nI_clamp (show i + 1 < 2 ^ 31 by omega), if_pos (g_inI (show i + 2 < L by omega) (show L < 2 ^ 31 by omega)), nI_clamp (show i + 2 < 2 ^ 31 by omega), e1, e2, Option.bind_some, if_true, g_let_eq, show nI i + 6 = nI (i + 6) from nI_add i 6]
  exact lst_of e3
theorem l_due (hL : L ≤ 3072) (hi : i + 6 ≤ L) (hb : b < 2 ^ 29) (h : rJ b X M) : lst k i b (wb_L_law_540 xs L k (nI i) X M τ) := by
  obtain ⟨r, X', M', e1, e2, e3⟩ := c_due (xs (i + 1)) (xs (i + 2))  h
  unfold wb_L_law_540
  simp only [show nI i + 1 = nI (i + 1) from nI_add i 1, show nI i + 2 = nI (i + 2) from nI_add i 2, if_pos (g_inI (show i + 1 < L by omega) (show L < 2 ^ 31 by omega)), nI_clamp (show i + 1 < 2 ^ 31 by omega), if_pos (g_inI (show i + 2 < L by omega) (show L < 2 ^ 31 by omega)), nI_clamp (show i + 2 < 2 ^ 31 by omega), e1, e2, Option.bind_some, if_true, g_let_eq, show nI i + 6 = nI (i + 6) from nI_add i 6]
  exact lst_of e3
theorem l_asks (hL : L ≤ 3072) (hi : i + 6 ≤ L) (hb : b < 2 ^ 29) (h : rJ b X M) : lst k i b (wb_L_law_577 xs L k (nI i) X M τ) := by
  obtain ⟨r, X', M', e1, e2, e3⟩ := c_asks (xs (i + 1)) (xs (i + 2))  h
  unfold wb_L_law_577
  simp only [show nI i + 1 = nI (i + 1) from nI_add i 1, show nI i + 2 = nI (i + 2) from nI_add i 2, if_pos (g_inI (show i + 1 < L by omega) (show L < 2 ^ 31 by omega)), nI_clamp (show i + 1 < 2 ^ 31 by omega), if_pos (g_inI (show i + 2 < L by omega) (show L < 2 ^ 31 by omega)), nI_clamp (show i + 2 < 2 ^ 31 by omega), e1, e2, Option.bind_some, if_true, g_let_eq, show nI i + 6 = nI (i + 6) from nI_add i 6]
  exact lst_of e3
theorem l_found (hL : L ≤ 3072) (hi : i + 6 ≤ L) (hb : b < 2 ^ 29) (h : rJ b X M) : lst k i b (wb_L_law_614 xs L k (nI i) X M τ) := by
  obtain ⟨r, X', M', e1, e2, e3⟩ := c_found   h
  unfold wb_L_law_614
  simp only [e1, e2, Option.bind_some, if_true, g_let_eq, show nI i + 6 = nI (i + 6) from nI_add i 6]
  exact lst_of e3
theorem l_start (hL : L ≤ 3072) (hi : i + 6 ≤ L) (hb : b < 2 ^ 29) (h : rJ b X M) : lst k i b (wb_L_law_627 xs L k (nI i) X M τ) := by
  obtain ⟨r, X', M', e1, e2, e3⟩ := c_start   h
  unfold wb_L_law_627
  simp only [e1, e2, Option.bind_some, if_true, g_let_eq, show nI i + 6 = nI (i + 6) from nI_add i 6]
  exact lst_of e3
theorem l_run (hL : L ≤ 3072) (hi : i + 6 ≤ L) (hb : b < 2 ^ 29) (h : rJ b X M) : lst k i b (wb_L_law_640 xs L k (nI i) X M τ) := by
  obtain ⟨r, X', M', e1, e2, e3⟩ := c_run (xs (i + 1)) (by omega) h
  unfold wb_L_law_640
  simp only [show nI i + 1 = nI (i + 1) from nI_add i 1, if_pos (g_inI (show i + 1 < L by omega) (show L < 2 ^ 31 by omega)), nI_clamp (show i + 1 < 2 ^ 31 by omega), e1, e2, Option.bind_some, if_true, g_let_eq, show nI i + 6 = nI (i + 6) from nI_add i 6]
  exact ⟨_, _, _, rfl, e3⟩
theorem l_thread (hL : L ≤ 3072) (hi : i + 6 ≤ L) (hb : b < 2 ^ 29) (h : rJ b X M) : lst k i b (wb_L_law_961 xs L k (nI i) X M τ) := by
  obtain ⟨r, M', e1, e2, e3⟩ := c_thread (xs (i + 1)) (xs (i + 2))  h
  unfold wb_L_law_961
  simp only [show nI i + 1 = nI (i + 1) from nI_add i 1, show nI i + 2 = nI (i + 2) from nI_add i 2, if_pos (g_inI (show i + 1 < L by omega) (show L < 2 ^ 31 by omega)), nI_clamp (show i + 1 < 2 ^ 31 by omega), if_pos (g_inI (show i + 2 < L by omega) (show L < 2 ^ 31 by omega)), nI_clamp (show i + 2 < 2 ^ 31 by omega), e1, e2, Option.bind_some, if_true, g_let_eq, show nI i + 6 = nI (i + 6) from nI_add i 6]
  exact lst_of e3
theorem l_level (hL : L ≤ 3072) (hi : i + 6 ≤ L) (hb : b < 2 ^ 29) (h : rJ b X M) : lst k i b (wb_L_law_998 xs L k (nI i) X M τ) := by
  obtain ⟨r, M', e1, e2, e3⟩ := c_level (xs (i + 1)) (xs (i + 2))  h
  unfold wb_L_law_998
  simp only [show nI i + 1 = nI (i + 1) from nI_add i 1, show nI i + 2 = nI (i + 2) from nI_add i 2, if_pos (g_inI (show i + 1 < L by omega) (show L < 2 ^ 31 by omega)), nI_clamp (show i + 1 < 2 ^ 31 by omega), if_pos (g_inI (show i + 2 < L by omega) (show L < 2 ^ 31 by omega)), nI_clamp (show i + 2 < 2 ^ 31 by omega), e1, e2, Option.bind_some, if_true, g_let_eq, show nI i + 6 = nI (i + 6) from nI_add i 6]
  exact lst_of e3
theorem l_edge (hL : L ≤ 3072) (hi : i + 6 ≤ L) (hb : b < 2 ^ 29) (h : rJ b X M) : lst k i b (wb_L_law_1035 xs L k (nI i) X M τ) := by
  obtain ⟨r, M', e1, e2, e3⟩ := c_edge (xs (i + 1)) (xs (i + 2))  h
  unfold wb_L_law_1035
  simp only [show nI i + 1 = nI (i + 1) from nI_add i 1, show nI i + 2 = nI (i + 2) from nI_add i 2, if_pos (g_inI (show i + 1 < L by omega) (show L < 2 ^ 31 by omega)), nI_clamp (show i + 1 < 2 ^ 31 by omega), if_pos (g_inI (show i + 2 < L by omega) (show L < 2 ^ 31 by omega)), nI_clamp (show i + 2 < 2 ^ 31 by omega), e1, e2, Option.bind_some, if_true, g_let_eq, show nI i + 6 = nI (i + 6) from nI_add i 6]
  exact lst_of e3
theorem l_channel (hL : L ≤ 3072) (hi : i + 6 ≤ L) (hb : b < 2 ^ 29) (h : rJ b X M) : lst k i b (wb_L_law_1072 xs L k (nI i) X M τ) := by
  obtain ⟨r, M', e1, e2, e3⟩ := c_channel (xs (i + 1)) (xs (i + 2))  h
  unfold wb_L_law_1072
  simp only [show nI i + 1 = nI (i + 1) from nI_add i 1, show nI i + 2 = nI (i + 2) from nI_add i 2, if_pos (g_inI (show i + 1 < L by omega) (show L < 2 ^ 31 by omega)), nI_clamp (show i + 1 < 2 ^ 31 by omega), if_pos (g_inI (show i + 2 < L by omega) (show L < 2 ^ 31 by omega)), nI_clamp (show i + 2 < 2 ^ 31 by omega), e1, e2, Option.bind_some, if_true, g_let_eq, show nI i + 6 = nI (i + 6) from nI_add i 6]
  exact lst_of e3
theorem l_table (hL : L ≤ 3072) (hi : i + 6 ≤ L) (hb : b < 2 ^ 29) (h : rJ b X M) : lst k i b (wb_L_law_1109 xs L k (nI i) X M τ) := by
  obtain ⟨r, M', e1, e2, e3⟩ := c_table (xs (i + 1))  h
  unfold wb_L_law_1109
  simp only [show nI i + 1 = nI (i + 1) from nI_add i 1, if_pos (g_inI (show i + 1 < L by omega) (show L < 2 ^ 31 by omega)), nI_clamp (show i + 1 < 2 ^ 31 by omega), e1, e2, Option.bind_some, if_true, g_let_eq, show nI i + 6 = nI (i + 6) from nI_add i 6]
  exact lst_of e3
theorem l_bound (hL : L ≤ 3072) (hi : i + 6 ≤ L) (hb : b < 2 ^ 29) (h : rJ b X M) : lst k i b (wb_L_law_1134 xs L k (nI i) X M τ) := by
  obtain ⟨r, X', M', τ', e1, e2, e3⟩ := c_bound (xs (i + 1)) (xs (i + 2)) τ  h
  unfold wb_L_law_1134
  simp only [show nI i + 1 = nI (i + 1) from nI_add i 1, show nI i + 2 = nI (i + 2) from nI_add i 2, if_pos (g_inI (show i + 1 < L by omega) (show L < 2 ^ 31 by omega)), nI_clamp (show i + 1 < 2 ^ 31 by omega), if_pos (g_inI (show i + 2 < L by omega) (show L < 2 ^ 31 by omega)), nI_clamp (show i + 2 < 2 ^ 31 by omega), e1, e2, Option.bind_some, if_true, g_let_eq, show nI i + 6 = nI (i + 6) from nI_add i 6]
  exact lst_of e3
theorem l_span (hL : L ≤ 3072) (hi : i + 6 ≤ L) (hb : b < 2 ^ 29) (h : rJ b X M) : lst k i b (wb_L_law_1171 xs L k (nI i) X M τ) := by
  obtain ⟨r, M', e1, e2, e3⟩ := c_span (xs (i + 1)) (xs (i + 2)) (xs (i + 3))  h
  unfold wb_L_law_1171
  simp only [show nI i + 1 = nI (i + 1) from nI_add i 1, show nI i + 2 = nI (i + 2) from nI_add i 2, show nI i + 3 = nI (i + 3) from nI_add i 3, if_pos (g_inI (show i + 1 < L by omega) (show L < 2 ^ 31 by omega)), nI_clamp (show i + 1 < 2 ^ 31 by omega), if_pos (g_inI (show i + 2 < L by omega) (show L < 2 ^ 31 by omega)), nI_clamp (show i + 2 < 2 ^ 31 by omega), if_pos (g_inI (show i + 3 < L by omega) (show L < 2 ^ 31 by omega)), nI_clamp (show i + 3 < 2 ^ 31 by omega), e1, e2, Option.bind_some, if_true, g_let_eq, show nI i + 6 = nI (i + 6) from nI_add i 6]
  exact lst_of e3
theorem l_will (hL : L ≤ 3072) (hi : i + 6 ≤ L) (hb : b < 2 ^ 29) (h : rJ b X M) : lst k i b (wb_L_law_1220 xs L k (nI i) X M τ) := by
  obtain ⟨r, X', M', e1, e2, e3⟩ := c_will (xs (i + 1)) (xs (i + 2)) (by omega) h
  unfold wb_L_law_1220
  simp only [show nI i + 1 = nI (i + 1) from nI_add i 1, show nI i + 2 = nI (i + 2) from nI_add i 2, if_pos (g_inI (show i + 1 < L by omega) (show L < 2 ^ 31 by omega)), nI_clamp (show i + 1 < 2 ^ 31 by omega), if_pos (g_inI (show i + 2 < L by omega) (show L < 2 ^ 31 by omega)), nI_clamp (show i + 2 < 2 ^ 31 by omega), e1, e2, Option.bind_some, if_true, g_let_eq, show nI i + 6 = nI (i + 6) from nI_add i 6]
  exact lst_of e3
theorem l_alone (hL : L ≤ 3072) (hi : i + 6 ≤ L) (hb : b < 2 ^ 29) (h : rJ b X M) : lst k i b (wb_L_law_1257 xs L k (nI i) X M τ) := by
  obtain ⟨r, X', M', e1, e2, e3⟩ := c_alone (xs (i + 1)) (xs (i + 2)) (by omega) h
  unfold wb_L_law_1257
  simp only [show nI i + 1 = nI (i + 1) from nI_add i 1, show nI i + 2 = nI (i + 2) from nI_add i 2, if_pos (g_inI (show i + 1 < L by omega) (show L < 2 ^ 31 by omega)), nI_clamp (show i + 1 < 2 ^ 31 by omega), if_pos (g_inI (show i + 2 < L by omega) (show L < 2 ^ 31 by omega)), nI_clamp (show i + 2 < 2 ^ 31 by omega), e1, e2, Option.bind_some, if_true, g_let_eq, show nI i + 6 = nI (i + 6) from nI_add i 6]
  exact lst_of e3
theorem l_share (hL : L ≤ 3072) (hi : i + 6 ≤ L) (hb : b < 2 ^ 29) (h : rJ b X M) : lst k i b (wb_L_law_1374 xs L k (nI i) X M τ) := by
  obtain ⟨r, M', e1, e2, e3⟩ := c_share (xs (i + 1)) (by omega) h
  unfold wb_L_law_1374
  simp only [show nI i + 1 = nI (i + 1) from nI_add i 1, if_pos (g_inI (show i + 1 < L by omega) (show L < 2 ^ 31 by omega)), nI_clamp (show i + 1 < 2 ^ 31 by omega), e1, e2, Option.bind_some, if_true, g_let_eq, show nI i + 6 = nI (i + 6) from nI_add i 6]
  exact lst_of e3
theorem l_count (hL : L ≤ 3072) (hi : i + 6 ≤ L) (hb : b < 2 ^ 29) (h : rJ b X M) : lst k i b (wb_L_law_1399 xs L k (nI i) X M τ) := by
  obtain ⟨r, X', M', τ', e1, e2, e3⟩ := c_count (xs (i + 1)) τ  h
  unfold wb_L_law_1399
  simp only [show nI i + 1 = nI (i + 1) from nI_add i 1, if_pos (g_inI (show i + 1 < L by omega) (show L < 2 ^ 31 by omega)), nI_clamp (show i + 1 < 2 ^ 31 by omega), e1, e2, Option.bind_some, if_true, g_let_eq, show nI i + 6 = nI (i + 6) from nI_add i 6]
  exact lst_of e3
theorem l_set (hL : L ≤ 3072) (hi : i + 6 ≤ L) (hb : b < 2 ^ 29) (h : rJ b X M) : lst k i b (wb_L_law_665 xs L k (nI i) X M τ) := by
  obtain ⟨o, r, X', M', e1, e2, e3, e4, e5⟩ := c_set (xs (i + 1)) (xs (i + 2)) (xs (i + 3))  h
  unfold wb_L_law_665
  simp only [show nI i + 1 = nI (i + 1) from nI_add i 1, show nI i + 2 = nI (i + 2) from nI_add i 2, show nI i + 3 = nI (i + 3) from nI_add i 3, if_pos (g_inI (show i + 1 < L by omega) (show L < 2 ^ 31 by omega)), nI_clamp (show i + 1 < 2 ^ 31 by omega), if_pos (g_inI (show i + 2 < L by omega) (show L < 2 ^ 31 by omega)), nI_clamp (show i + 2 < 2 ^ 31 by omega), if_pos (g_inI (show i + 3 < L by omega) (show L < 2 ^ 31 by omega)), nI_clamp (show i + 3 < 2 ^ 31 by omega), e1, e2, e3, Option.bind_some, if_true, g_let_eq, show nI i + 6 = nI (i + 6) from nI_add i 6, show Int32.toNatClampNeg 0 = 0 by decide]
  cases o with
  | none =>
    rw [if_neg (show ¬ hv none = 0 by decide)]
    exact lst_of e5
  | some v =>
    rw [if_pos (show hv (some v) = 0 from rfl), ht_0, e4 v rfl, if_pos ((lg_cmp_eq _ _).mpr rfl)]
    exact lst_of e5
theorem l_register (hL : L ≤ 3072) (hi : i + 6 ≤ L) (hb : b < 2 ^ 29) (h : rJ b X M) : lst k i b (wb_L_law_745 xs L k (nI i) X M τ) := by
  obtain ⟨o, r, M', e1, e2, e3, e4, e5⟩ := c_register (xs (i + 1)) (xs (i + 2))  h
  unfold wb_L_law_745
  simp only [show nI i + 1 = nI (i + 1) from nI_add i 1, show nI i + 2 = nI (i + 2) from nI_add i 2, if_pos (g_inI (show i + 1 < L by omega) (show L < 2 ^ 31 by omega)), nI_clamp (show i + 1 < 2 ^ 31 by omega), if_pos (g_inI (show i + 2 < L by omega) (show L < 2 ^ 31 by omega)), nI_clamp (show i + 2 < 2 ^ 31 by omega), e1, e2, e3, Option.bind_some, if_true, g_let_eq, show nI i + 6 = nI (i + 6) from nI_add i 6, show Int32.toNatClampNeg 0 = 0 by decide]
  cases o with
  | none =>
    rw [if_neg (show ¬ hv none = 0 by decide)]
    exact lst_of e5
  | some v =>
    rw [if_pos (show hv (some v) = 0 from rfl), ht_0, e4 v rfl, if_pos ((lg_cmp_eq _ _).mpr rfl)]
    exact lst_of e5
theorem l_cell (hL : L ≤ 3072) (hi : i + 6 ≤ L) (hb : b < 2 ^ 29) (h : rJ b X M) : lst k i b (wb_L_law_813 xs L k (nI i) X M τ) := by
  obtain ⟨o, r, M', e1, e2, e3, e4, e5⟩ := c_cell (xs (i + 1)) (xs (i + 2))  h
  unfold wb_L_law_813
  simp only [show nI i + 1 = nI (i + 1) from nI_add i 1, show nI i + 2 = nI (i + 2) from nI_add i 2, if_pos (g_inI (show i + 1 < L by omega) (show L < 2 ^ 31 by omega)), nI_clamp (show i + 1 < 2 ^ 31 by omega), if_pos (g_inI (show i + 2 < L by omega) (show L < 2 ^ 31 by omega)), nI_clamp (show i + 2 < 2 ^ 31 by omega), e1, e2, e3, Option.bind_some, if_true, g_let_eq, show nI i + 6 = nI (i + 6) from nI_add i 6, show Int32.toNatClampNeg 0 = 0 by decide]
  cases o with
  | none =>
    rw [if_neg (show ¬ hv none = 0 by decide)]
    exact lst_of e5
  | some v =>
    rw [if_pos (show hv (some v) = 0 from rfl), ht_0, e4 v rfl, if_pos ((lg_cmp_eq _ _).mpr rfl)]
    exact lst_of e5
theorem l_code (hL : L ≤ 3072) (hi : i + 6 ≤ L) (hb : b < 2 ^ 29) (h : rJ b X M) : lst k i b (wb_L_law_881 xs L k (nI i) X M τ) := by
  obtain ⟨o, r, M', e1, e2, e3, e4, e5⟩ := c_code (xs (i + 1)) (xs (i + 2)) (xs (i + 3))  h
  unfold wb_L_law_881
  simp only [show nI i + 1 = nI (i + 1) from nI_add i 1, show nI i + 2 = nI (i + 2) from nI_add i 2, show nI i + 3 = nI (i + 3) from nI_add i 3, if_pos (g_inI (show i + 1 < L by omega) (show L < 2 ^ 31 by omega)), nI_clamp (show i + 1 < 2 ^ 31 by omega), if_pos (g_inI (show i + 2 < L by omega) (show L < 2 ^ 31 by omega)), nI_clamp (show i + 2 < 2 ^ 31 by omega), if_pos (g_inI (show i + 3 < L by omega) (show L < 2 ^ 31 by omega)), nI_clamp (show i + 3 < 2 ^ 31 by omega), e1, e2, e3, Option.bind_some, if_true, g_let_eq, show nI i + 6 = nI (i + 6) from nI_add i 6, show Int32.toNatClampNeg 0 = 0 by decide]
  cases o with
  | none =>
    rw [if_neg (show ¬ hv none = 0 by decide)]
    exact lst_of e5
  | some v =>
    rw [if_pos (show hv (some v) = 0 from rfl), ht_0, e4 v rfl, if_pos ((lg_cmp_eq _ _).mpr rfl)]
    exact lst_of e5
theorem l_ahead (hL : L ≤ 3072) (hi : i + 6 ≤ L) (hb : b < 2 ^ 29) (h : rJ b X M) : lst k i b (wb_L_law_1294 xs L k (nI i) X M τ) := by
  obtain ⟨o, r, X', M', e1, e2, e3, e4, e5⟩ := c_ahead (xs (i + 1)) (xs (i + 2)) (xs (i + 3)) (by omega) h
  unfold wb_L_law_1294
  simp only [show nI i + 1 = nI (i + 1) from nI_add i 1, show nI i + 2 = nI (i + 2) from nI_add i 2, show nI i + 3 = nI (i + 3) from nI_add i 3, if_pos (g_inI (show i + 1 < L by omega) (show L < 2 ^ 31 by omega)), nI_clamp (show i + 1 < 2 ^ 31 by omega), if_pos (g_inI (show i + 2 < L by omega) (show L < 2 ^ 31 by omega)), nI_clamp (show i + 2 < 2 ^ 31 by omega), if_pos (g_inI (show i + 3 < L by omega) (show L < 2 ^ 31 by omega)), nI_clamp (show i + 3 < 2 ^ 31 by omega), e1, e2, e3, Option.bind_some, if_true, g_let_eq, show nI i + 6 = nI (i + 6) from nI_add i 6, show Int32.toNatClampNeg 0 = 0 by decide]
  cases o with
  | none =>
    rw [if_neg (show ¬ hv none = 0 by decide)]
    exact lst_of e5
  | some v =>
    rw [if_pos (show hv (some v) = 0 from rfl), ht_0, e4 v rfl, if_pos ((lg_cmp_eq _ _).mpr rfl)]
    exact lst_of e5
theorem l_hard (hL : L ≤ 3072) (hi : i + 6 ≤ L) (hb : b < 2 ^ 29) (h : rJ b X M) : lst k i b (wb_L_law_307 xs L k (nI i) X M τ) := by
  unfold wb_L_law_307
  simp only [show nI i + 1 = nI (i + 1) from nI_add i 1, show nI i + 2 = nI (i + 2) from nI_add i 2, if_pos (g_inI (show i + 1 < L by omega) (show L < 2 ^ 31 by omega)), nI_clamp (show i + 1 < 2 ^ 31 by omega), if_pos (g_inI (show i + 2 < L by omega) (show L < 2 ^ 31 by omega)), nI_clamp (show i + 2 < 2 ^ 31 by omega), g_let_eq, show nI i + 6 = nI (i + 6) from nI_add i 6]
  by_cases z : xs (i + 2) = 0
  · obtain ⟨r, X', M', e1, e2, e3⟩ := c_hard (xs (i + 1)) 0 (by decide) h
    simp only [if_pos z, e1, e2, Option.bind_some, if_true]
    exact lst_of e3
  · obtain ⟨r, X', M', e1, e2, e3⟩ := c_hard (xs (i + 1)) 1 (by decide) h
    simp only [if_neg z, e1, e2, Option.bind_some, if_true]
    exact lst_of e3
theorem l_pin (hL : L ≤ 3072) (hi : i + 6 ≤ L) (hb : b < 2 ^ 29) (h : rJ b X M) : lst k i b (wb_L_law_360 xs L k (nI i) X M τ) := by
  unfold wb_L_law_360
  simp only [show nI i + 1 = nI (i + 1) from nI_add i 1, show nI i + 2 = nI (i + 2) from nI_add i 2, if_pos (g_inI (show i + 1 < L by omega) (show L < 2 ^ 31 by omega)), nI_clamp (show i + 1 < 2 ^ 31 by omega), if_pos (g_inI (show i + 2 < L by omega) (show L < 2 ^ 31 by omega)), nI_clamp (show i + 2 < 2 ^ 31 by omega), g_let_eq, show nI i + 6 = nI (i + 6) from nI_add i 6]
  by_cases z : xs (i + 2) = 0
  · obtain ⟨r, X', M', e1, e2, e3⟩ := c_pin (xs (i + 1)) 0 (by decide) h
    simp only [if_pos z, e1, e2, Option.bind_some, if_true]
    exact lst_of e3
  · obtain ⟨r, X', M', e1, e2, e3⟩ := c_pin (xs (i + 1)) 1 (by decide) h
    simp only [if_neg z, e1, e2, Option.bind_some, if_true]
    exact lst_of e3
theorem l_event (hL : L ≤ 3072) (hi : i + 6 ≤ L) (hb : b < 2 ^ 29) (h : rJ b X M) : lst k i b (wb_L_law_413 xs L k (nI i) X M τ) := by
  unfold wb_L_law_413 wb_L_law_440
  simp only [show nI i + 1 = nI (i + 1) from nI_add i 1, show nI i + 2 = nI (i + 2) from nI_add i 2, show nI i + 3 = nI (i + 3) from nI_add i 3, if_pos (g_inI (show i + 1 < L by omega) (show L < 2 ^ 31 by omega)), nI_clamp (show i + 1 < 2 ^ 31 by omega), if_pos (g_inI (show i + 2 < L by omega) (show L < 2 ^ 31 by omega)), nI_clamp (show i + 2 < 2 ^ 31 by omega), if_pos (g_inI (show i + 3 < L by omega) (show L < 2 ^ 31 by omega)), nI_clamp (show i + 3 < 2 ^ 31 by omega), g_let_eq, show nI i + 6 = nI (i + 6) from nI_add i 6]
  by_cases z : xs (i + 3) = 0
  · obtain ⟨r, X', M', e1, e2, e3⟩ := c_event (xs (i + 1)) (xs (i + 2)) 0 (by decide) h
    simp only [if_pos z, e1, e2, Option.bind_some, if_true, if_pos (show (0 : Int32) = 0 ∨ (0 : Int32) = 1 by decide)]
    exact lst_of e3
  · obtain ⟨r, X', M', e1, e2, e3⟩ := c_event (xs (i + 1)) (xs (i + 2)) 1 (by decide) h
    simp only [if_neg z, e1, e2, Option.bind_some, if_true, if_pos (show (1 : Int32) = 0 ∨ (1 : Int32) = 1 by decide)]
    exact lst_of e3
theorem l_step (hL : L ≤ 3072) (hi : i + 6 ≤ L) (hb : b < 2 ^ 29) (h : rJ b X M) : lst k i b (wb_L_law_23 xs L k (nI i) X M τ) := by
  unfold wb_L_law_23
  rw [if_neg (show ¬ nI L - 6 < nI i by rw [show nI L - 6 = nI (L - 6) from ni_sub (a := 6) (by omega)]; exact nI_nlt (by omega) (by omega)), if_pos (g_inI (show i < L by omega) (show L < 2 ^ 31 by omega)), nI_clamp (show i < 2 ^ 31 by omega)]
  generalize xs i &&& 31 = c
  by_cases z0 : c = 0
  · rw [if_pos z0]
    exact l_tell hL hi hb h
  rw [if_neg z0]
  by_cases z1 : c = 1
  · rw [if_pos z1]
    exact l_wipe hL hi hb h
  rw [if_neg z1]
  by_cases z2 : c = 2
  · rw [if_pos z2]
    exact l_memory hL hi hb h
  rw [if_neg z2]
  by_cases z3 : c = 3
  · rw [if_pos z3]
    exact l_hard hL hi hb h
  rw [if_neg z3]
  by_cases z4 : c = 4
  · rw [if_pos z4]
    exact l_pin hL hi hb h
  rw [if_neg z4]
  by_cases z5 : c = 5
  · rw [if_pos z5]
    exact l_event hL hi hb h
  rw [if_neg z5]
  by_cases z6 : c = 6
  · rw [if_pos z6]
    exact l_slots hL hi hb h
  rw [if_neg z6]
  by_cases z7 : c = 7
  · rw [if_pos z7]
    exact l_slot hL hi hb h
  rw [if_neg z7]
  by_cases z8 : c = 8
  · rw [if_pos z8]
    exact l_due hL hi hb h
  rw [if_neg z8]
  by_cases z9 : c = 9
  · rw [if_pos z9]
    exact l_asks hL hi hb h
  rw [if_neg z9]
  by_cases z10 : c = 10
  · rw [if_pos z10]
    exact l_found hL hi hb h
  rw [if_neg z10]
  by_cases z11 : c = 11
  · rw [if_pos z11]
    exact l_start hL hi hb h
  rw [if_neg z11]
  by_cases z12 : c = 12
  · rw [if_pos z12]
    exact l_run hL hi hb h
  rw [if_neg z12]
  by_cases z13 : c = 13
  · rw [if_pos z13]
    exact l_set hL hi hb h
  rw [if_neg z13]
  by_cases z14 : c = 14
  · rw [if_pos z14]
    exact l_register hL hi hb h
  rw [if_neg z14]
  by_cases z15 : c = 15
  · rw [if_pos z15]
    exact l_cell hL hi hb h
  rw [if_neg z15]
  by_cases z16 : c = 16
  · rw [if_pos z16]
    exact l_code hL hi hb h
  rw [if_neg z16]
  by_cases z17 : c = 17
  · rw [if_pos z17]
    exact l_thread hL hi hb h
  rw [if_neg z17]
  by_cases z18 : c = 18
  · rw [if_pos z18]
    exact l_level hL hi hb h
  rw [if_neg z18]
  by_cases z19 : c = 19
  · rw [if_pos z19]
    exact l_edge hL hi hb h
  rw [if_neg z19]
  by_cases z20 : c = 20
  · rw [if_pos z20]
    exact l_channel hL hi hb h
  rw [if_neg z20]
  by_cases z21 : c = 21
  · rw [if_pos z21]
    exact l_table hL hi hb h
  rw [if_neg z21]
  by_cases z22 : c = 22
  · rw [if_pos z22]
    exact l_bound hL hi hb h
  rw [if_neg z22]
  by_cases z23 : c = 23
  · rw [if_pos z23]
    exact l_span hL hi hb h
  rw [if_neg z23]
  by_cases z24 : c = 24
  · rw [if_pos z24]
    exact l_will hL hi hb h
  rw [if_neg z24]
  by_cases z25 : c = 25
  · rw [if_pos z25]
    exact l_alone hL hi hb h
  rw [if_neg z25]
  by_cases z26 : c = 26
  · rw [if_pos z26]
    exact l_ahead hL hi hb h
  rw [if_neg z26]
  by_cases z27 : c = 27
  · rw [if_pos z27]
    exact l_share hL hi hb h
  rw [if_neg z27]
  by_cases z28 : c = 28
  · rw [if_pos z28]
    exact l_count hL hi hb h
  rw [if_neg z28]
  rw [g_let_eq, show nI i + 6 = nI (i + 6) from nI_add i 6]
  exact lst_of h
theorem l_end (hL : L ≤ 3072) (hi : L < i + 6) (hi' : i < 2 ^ 30) : wb_L_law_23 xs L k (nI i) X M τ = some 1 := by
  unfold wb_L_law_23
  by_cases z : 6 ≤ L
  · rw [if_pos (show nI L - 6 < nI i by rw [show nI L - 6 = nI (L - 6) from ni_sub (a := 6) z]; exact nI_lt (by omega) (by omega))]
  · rw [if_pos (show nI L - 6 < nI i from Int32.lt_of_lt_of_le (show nI L - nI 6 < 0 from ni_neg (by omega) (by omega)) (nI_pos' (by omega)))]
theorem l_loop (hL : L ≤ 3072) : ∀ (d i b f : Nat) (X M : SM) (τ : SL), L ≤ i + 6 * d → i + 6 * d < 2 ^ 20 → d < f → b + 200 * d < 2 ^ 29 → rJ b X M → wl_L_law_23 xs L f (nI i) X M τ = some 1 := by
  intro d
  induction d with
  | zero =>
    intro i b f X M τ h1 h1' h2 h3 h
    obtain ⟨f, rfl⟩ : ∃ q, f = q + 1 := ⟨f - 1, by omega⟩
    rw [wl_L_law_23_s]
    exact l_end hL (by omega) (by omega)
  | succ d ih =>
    intro i b f X M τ h1 h1' h2 h3 h
    obtain ⟨f, rfl⟩ : ∃ q, f = q + 1 := ⟨f - 1, by omega⟩
    rw [wl_L_law_23_s]
    by_cases z : i + 6 ≤ L
    · obtain ⟨X', M', τ', e1, e2⟩ := l_step (xs := xs) (τ := τ) (k := fun x4 X M τ => wl_L_law_23 xs L f x4 X M τ) hL z (by omega) h
      rw [e1]
      exact ih (i + 6) (b + 200) f X' M' τ' (by omega) (by omega) (by omega) (by omega) e2
    · exact l_end hL (by omega) (by omega)
end LW
