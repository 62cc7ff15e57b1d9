/-! will, ahead -/
theorem gV_g {X X' M M' : SM} (hX : gX X X') (hM : ∀ k j, k ≠ 40 → k ≠ 41 → k ≠ 43 → k ≠ 57 → ¬ (k = 39 ∧ j = 15) → M' k 0 j = M k 0 j) (h : gV X M) : gV X' M' := by
  obtain ⟨n, h1, h2, h3, h4⟩ := h
  refine ⟨n, h1, (hX _ _ _ (by unfold gh; omega)).trans h2, (hM _ _ (by omega) (by omega) (by omega) (by omega) (by omega)).trans h3, fun s hs => ?_⟩
  rw [hX 22 0 s (by unfold gh; omega), hX 23 0 s (by unfold gh; omega), hX 24 0 s (by unfold gh; omega), hM 47 s (by omega) (by omega) (by omega) (by omega) (by omega), hM 48 s (by omega) (by omega) (by omega) (by omega) (by omega), hM 49 s (by omega) (by omega) (by omega) (by omega) (by omega)]
  exact h4 s hs
theorem gT_g {X X' M M' : SM} (hX : gX X X') (hM : ∀ k j, k ≠ 40 → k ≠ 41 → k ≠ 43 → k ≠ 57 → ¬ (k = 39 ∧ j = 15) → M' k 0 j = M k 0 j) (h : gT X M) : gT X' M' := by
  obtain ⟨n, h1, h2, h3, h4, h5⟩ := h
  refine ⟨n, h1, h2, (hX _ _ _ (by unfold gh; omega)).trans h3, (hM _ _ (by omega) (by omega) (by omega) (by omega) (by omega)).trans h4, fun s hs => ?_⟩
  rw [hX 34 0 s (by unfold gh; omega), hM 50 s (by omega) (by omega) (by omega) (by omega) (by omega)]
  exact h5 s hs
theorem mkp_40 {M : SM} {k j : Nat} (h : k ≠ 41) : mkp M 0 k 0 j = M k 0 j := if_neg (fun q => h q.1)
theorem mkp_41 {M : SM} {j : Nat} (h : j < 693) : mkp M 0 41 0 j = M 40 0 j := if_pos ⟨rfl, rfl, by omega, h⟩
theorem mcb_o {M : SM} {k j : Nat} (h : k ≠ 40) : mcb M 0 k 0 j = M k 0 j := if_neg (fun q => h q.1)
theorem mcb_40 {M : SM} {j : Nat} (h : j < 693) : mcb M 0 40 0 j = M 41 0 j := if_pos ⟨rfl, rfl, by omega, h⟩
/-- the ghost at its start -/
theorem gh_start {b n : Nat} {X M : SM} (h : rJ b X M) (en : M 40 0 683 = nI n) : fn_X7_copy 1 0 X = some (cpA X) ∧ tk 1 n (cpA X) (mkp M 0) := by
  refine ⟨x_copy (fun t ht => ?_), cpA_R h (fun j _ => mkp_40 (by decide)) (fun k j h1 h2 => mkp_40 (by omega)), ⟨?_, fun z => absurd z (by decide)⟩, gV_g cpA_g (fun k j _ h2 _ _ _ => mkp_40 h2) h.2.1, gT_g cpA_g (fun k j _ h2 _ _ _ => mkp_40 h2) h.2.2.1, (mkp_40 (by decide)).trans en⟩
  · have := rR_rH h.1 t ht
    rw [show 6 * 0 + t = t by omega] at this
    rcases this with q | q
    · exact Or.inl q.1
    · exact Or.inr q.1
  · obtain ⟨n0, k0, a1, a2, a3, a4⟩ := h.2.2.2.2.2.1.1
    exact ⟨n0, k0, a1, a2, (cpA_o (by unfold pT; simp) (by unfold pU; simp) (by decide)).trans a3, (cpA_o (by unfold pT; simp) (by unfold pU; simp) (by decide)).trans a4⟩
theorem gW_tk {n : Nat} {X M : SM} (h : tk 1 n X M) : gW 1 X := ⟨h.2.1.1, rR_rU h.1⟩
theorem gh_end {b n : Nat} {X M X' M' : SM} (h : rJ b X M) (hk : tk 1 n X' M') (hx : gX X X') (hm : ∀ k j, k ≠ 40 → k ≠ 57 → M' k 0 j = mkp M 0 k 0 j) : rJ b X' (mcb M' 0) := by
  refine rJ_g (M := M) hx (fun j hj => ?_) (fun k j h1 h2 => ?_) (fun j hj => ?_) (gW_tk hk) h
  · rw [mcb_40 hj, hm 41 j (by decide) (by decide), mkp_41 hj]
  · rw [mcb_o (by omega), hm k j (by omega) (by omega), mkp_40 (by omega)]
  · rw [mcb_o (by omega), hm 39 j (by omega) (by omega), mkp_40 (by omega)]
theorem of_loop {a N : Nat} (ha : a < 6) (hN : N ≤ 60) : ∀ (d i n e : Nat) (X M : SM) (f f' : Nat), i + d = 300 → d < f → d < f' → n + d < 2 ^ 31 → e < N → tk 1 n X M → ∃ r n' X' M', wl_X11_tickOfInstruction_5 f 1 (nI a) (nI N) (nI e) (nI i) X = some (r, X') ∧ wl_X12_tickOf_5 f' (nI a) (nI (N - e)) (nI i) M = some (r, M') ∧ tk 1 n' X' M' ∧ oX 1 X X' ∧ oM M M' := by
  intro d
  induction d with
  | zero =>
    intro i n e X M f f' h1 h2 h3 h4 h5 h
    obtain ⟨f, rfl⟩ : ∃ q, f = q + 1 := ⟨f - 1, by omega⟩
    obtain ⟨f', rfl⟩ : ∃ q, f' = q + 1 := ⟨f' - 1, by omega⟩
    have : i = 300 := by omega
    subst this
    rw [wl_X11_tickOfInstruction_5_s, wl_X12_tickOf_5_s]
    unfold wb_X11_tickOfInstruction_5 wb_X12_tickOf_5
    rw [if_pos (show (300 : Int32) ≤ nI 300 by decide), if_pos (show (300 : Int32) ≤ nI 300 by decide)]
    exact ⟨-1, n, X, M, rfl, rfl, h, oX_r, oM_r⟩
  | succ d ih =>
    intro i n e X M f f' h1 h2 h3 h4 h5 h
    obtain ⟨f, rfl⟩ : ∃ q, f = q + 1 := ⟨f - 1, by omega⟩
    obtain ⟨f', rfl⟩ : ∃ q, f' = q + 1 := ⟨f' - 1, by omega⟩
    obtain ⟨r, X1, M1, a1, a2, a3, a4, a5, -⟩ := d_tick (by omega) (by omega) h
    rw [wl_X11_tickOfInstruction_5_s, wl_X12_tickOf_5_s]
    unfold wb_X11_tickOfInstruction_5 wb_X12_tickOf_5
    simp only [if_neg (show ¬ (300 : Int32) ≤ nI i from nI_ge (b := 300) (by omega) (by decide)), a1, a2, Option.bind_some, g_let_eq, nI_1, (rR_rN h.1).1, h.2.2.2.2, a3.2.2.2.2, nI_pred, show nI (N - e) + -1 = nI (N - (e + 1)) by rw [← Int32.sub_eq_add_neg, show nI (N - e) - 1 = nI (N - e - 1) from ni_sub (a := 1) (by omega)]; congr 1]
    by_cases z : r = nI a
    · simp only [if_pos z]
      by_cases y : e + 1 = N
      · simp only [if_pos (show nI (e + 1) = nI N by rw [y]), if_pos (show nI (N - (e + 1)) = 0 by rw [y, Nat.sub_self]; rfl)]
        exact ⟨_, _, X1, M1, rfl, rfl, a3, a4, a5⟩
      · simp only [if_neg (show ¬ nI (e + 1) = nI N from fun w => y ((nI_eq (by omega) (by omega)).mp w)), if_neg (nI_ne0 (show 0 < N - (e + 1) by omega) (show N - (e + 1) < 2 ^ 31 by omega))]
        obtain ⟨r', n', X', M', b1, b2, b3, b4, b5⟩ := ih (i + 1) (n + 1) (e + 1) X1 M1 f f' (by omega) (by omega) (by omega) (by omega) (by omega) a3
        exact ⟨r', n', X', M', b1, b2, b3, oX_t a4 b4, oM_t a5 b5⟩
    · simp only [if_neg z, if_neg (show ¬ nI e = nI N from fun w => by have := (nI_eq (show e < 2 ^ 31 by omega) (show N < 2 ^ 31 by omega)).mp w; omega)]
      obtain ⟨r', n', X', M', b1, b2, b3, b4, b5⟩ := ih (i + 1) (n + 1) e X1 M1 f f' (by omega) (by omega) (by omega) (by omega) h5 a3
      exact ⟨r', n', X', M', b1, b2, b3, oX_t a4 b4, oM_t a5 b5⟩
theorem d_of {a N n : Nat} {X M : SM} (ha : a < 6) (h1 : 1 ≤ N) (hN : N ≤ 60) (hn : n < 2 ^ 30) (h : tk 1 n X M) : ∃ r n' X' M', fn_X11_tickOfInstruction 1 (nI a) (nI N) X = some (r, X') ∧ fn_X12_tickOf (nI a) (nI N) M = some (r, M') ∧ tk 1 n' X' M' ∧ oX 1 X X' ∧ oM M M' := of_loop ha hN 300 0 n 0 X M 1000 1000 (by omega) (by omega) (by omega) (by omega) (by omega) h
theorem n_1_60 {x : Int32} (h1 : ¬ x < 1) (h2 : x ≤ 60) : ∃ N, 1 ≤ N ∧ N ≤ 60 ∧ x = nI N := by
  obtain ⟨N, hN, rfl⟩ := nI_of2 (M := 60) (n := 60) (by decide) (fun q => h1 (Int32.lt_trans q (by decide))) h2
  refine ⟨N, ?_, hN, rfl⟩
  refine Classical.byContradiction fun q => h1 ?_
  have : N = 0 := by omega
  subst this
  decide
theorem c_will {b : Nat} {X M : SM} (x1 x2 : Int32) (hb : b < 2 ^ 30) (h : rJ b X M) : ∃ r X' M', fn_X11_will x1 x2 X = some (r, X') ∧ fn_X12_will x1 x2 M = some (r, M') ∧ rJ b X' M' := by
  unfold fn_X11_will fn_X12_will
  simp only [g_let_eq]
  rcases nI_cases x1 6 (by decide) with ⟨a, ha, rfl⟩ | ho
  · simp only [isThread_in ha, m_isThread_in ha, Option.bind_some, if_neg one0]
    by_cases h1 : x2 < 1
    · rw [if_pos h1, within_no1 h1]
      exact ⟨_, _, _, rfl, rfl, rJ_thr h⟩
    · by_cases h2 : x2 ≤ 60
      · rw [if_neg h1, if_pos h2, within_yes h1 h2, if_neg one0]
        obtain ⟨N, hN1, hN, rfl⟩ := n_1_60 h1 h2
        obtain ⟨n, hn, en⟩ := h.2.2.2.2.2.2
        obtain ⟨g1, g2⟩ := gh_start (rJ_thr (v := 0) h) en
        obtain ⟨r, n', X', M', e1, e2, e3, e4, e5⟩ := d_of ha hN1 hN (by omega) g2
        rw [g1, m_keeps]
        simp only [Option.bind_some, e1, e2, m_back]
        exact ⟨_, _, _, rfl, rfl, gh_end (rJ_thr h) e3 (gX_t cpA_g (gX_o e4)) (fun k j q1 _ => e5 k j q1)⟩
      · rw [if_neg h1, if_neg h2, within_no2 h1 h2]
        exact ⟨_, _, _, rfl, rfl, rJ_thr h⟩
  · rw [isThread_out ho, m_isThread_out ho]
    exact ⟨_, _, _, rfl, rfl, rJ_thr h⟩
theorem ahead_loop {a c N : Nat} (ha : a < 6) (hc : c < 8) (hN : N ≤ 300) : ∀ (d i n : Nat) (X M : SM) (f f' : Nat), i + d = N → d < f → d < f' → n + d < 2 ^ 31 → tk 1 n X M → ∃ r n' X' M', wl_X11_ahead_48 f (nI a) (nI c) (nI N) (nI i) X = some (some r, X') ∧ wl_X12_ahead_49 f' (nI a) (nI c) (nI N) (nI i) M = some (r, mcb M' 0) ∧ tk 1 n' X' M' ∧ oX 1 X X' ∧ oM M M' := by
  intro d
  induction d with
  | zero =>
    intro i n X M f f' h1 h2 h3 h4 h
    obtain ⟨f, rfl⟩ : ∃ q, f = q + 1 := ⟨f - 1, by omega⟩
    obtain ⟨f', rfl⟩ : ∃ q, f' = q + 1 := ⟨f' - 1, by omega⟩
    have : i = N := by omega
    subst this
    rw [wl_X11_ahead_48_s, wl_X12_ahead_49_s]
    unfold wb_X11_ahead_48 wb_X12_ahead_49
    simp only [if_pos (nI_le (Nat.le_refl i) (show i < 2 ^ 31 by omega)), if_pos (in6 ha), cl6 ha, x_read hc, m_reg ha hc, m_back, Option.bind_some, rR_rA h.1 a c ha hc]
    exact ⟨_, n, X, M, rfl, rfl, h, oX_r, oM_r⟩
  | succ d ih =>
    intro i n X M f f' h1 h2 h3 h4 h
    obtain ⟨f, rfl⟩ : ∃ q, f = q + 1 := ⟨f - 1, by omega⟩
    obtain ⟨f', rfl⟩ : ∃ q, f' = q + 1 := ⟨f' - 1, by omega⟩
    obtain ⟨r, X1, M1, a1, a2, a3, a4, a5, -⟩ := d_tick (by omega) (by omega) h
    rw [wl_X11_ahead_48_s, wl_X12_ahead_49_s]
    unfold wb_X11_ahead_48 wb_X12_ahead_49
    simp only [if_neg (nI_ge (show i < N by omega) (show N < 2 ^ 31 by omega)), a1, a2, Option.bind_some, g_let_eq, nI_1]
    obtain ⟨r', n', X', M', b1, b2, b3, b4, b5⟩ := ih (i + 1) (n + 1) X1 M1 f f' (by omega) (by omega) (by omega) (by omega) a3
    exact ⟨r', n', X', M', b1, b2, b3, oX_t a4 b4, oM_t a5 b5⟩
theorem c_ahead {b : Nat} {X M : SM} (x1 x2 x3 : Int32) (hb : b < 2 ^ 30) (h : rJ b X M) : ∃ o r X' M', fn_X11_ahead x1 x2 x3 X = some (o, X') ∧ fn_X12_ahead x1 x2 x3 M = some (r, M') ∧ fn_X12_thrown M' = hv o ∧ (∀ v, o = some v → r = v) ∧ rJ b X' M' := by
  unfold fn_X11_ahead fn_X12_ahead
  simp only [g_let_eq]
  rcases nI_cases x1 6 (by decide) with ⟨a, ha, rfl⟩ | ho
  · rcases nI_cases x2 8 (by decide) with ⟨c, hc, rfl⟩ | ho
    · simp only [isThread_in ha, m_isThread_in ha, isReg_in hc, Option.bind_some, if_neg one0, show fn_X12_within (nI c) 0 7 = 1 from within_in (lo := 0) (hi := 7) (by omega) (by omega) (by decide), m_thr0, m_thr1, if_true]
      by_cases h1 : x3 < 1
      · simp only [if_pos h1, within_no1 (hi := 300) h1, if_true]
        exact ⟨_, _, _, _, rfl, rfl, thr_at, fun v q => (by cases q), rJ_thr h⟩
      · by_cases h2 : x3 ≤ 300
        · simp only [if_neg h1, if_pos h2, within_yes h1 h2, if_neg one0]
          obtain ⟨N, hN, rfl⟩ := nI_of2 (M := 300) (n := 300) (by decide) (fun q => h1 (Int32.lt_trans q (by decide))) h2
          obtain ⟨n, hn, en⟩ := h.2.2.2.2.2.2
          obtain ⟨g1, g2⟩ := gh_start (rJ_thr (v := 0) h) en
          obtain ⟨r, n', X', M', e1, e2, e3, e4, e5⟩ := ahead_loop ha hc hN N 0 n (cpA X) _ 1000 1000 (by omega) (by omega) (by omega) (by omega) g2
          rw [g1, m_keeps]
          simp only [Option.bind_some]
          refine ⟨_, _, _, _, e1, e2, ?_, fun v q => (by cases q; rfl), gh_end (rJ_thr h) e3 (gX_t cpA_g (gX_o e4)) (fun k j q1 _ => e5 k j q1)⟩
          show mcb M' 0 39 0 15 = 0
          rw [mcb_o (by decide), e5 39 15 (by decide), mkp_40 (by decide), u1_self]
        · simp only [if_neg h1, if_neg h2, within_no2 h1 h2, if_true]
          exact ⟨_, _, _, _, rfl, rfl, thr_at, fun v q => (by cases q), rJ_thr h⟩
    · simp only [isThread_in ha, m_isThread_in ha, isReg_out ho, Option.bind_some, if_neg one0, show fn_X12_within x2 0 7 = 0 from within_out (n := 7) (by decide) ho, m_thr0, if_true]
      exact ⟨_, _, _, _, rfl, rfl, thr_at, fun v q => (by cases q), rJ_thr h⟩
  · simp only [isThread_out ho, m_isThread_out ho, Option.bind_some, m_thr0, if_true, if_neg one0]
    exact ⟨_, _, _, _, rfl, rfl, thr_at, fun v q => (by cases q), rJ_thr h⟩
