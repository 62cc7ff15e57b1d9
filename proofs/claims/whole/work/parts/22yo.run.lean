/-! run -/
theorem tk_J {b n : Nat} {X M : SM} (h : rJ b X M) (e : M 40 0 683 = nI n) : tk 0 n X M := by
  obtain ⟨n0, k, a1, a2, a3, a4, a5, a6⟩ := h.2.2.2.2.1
  exact ⟨h.1, ⟨⟨n0, k, a1, a2, a3, a4⟩, fun _ => h.2.2.2.2.1⟩, h.2.1, h.2.2.1, e⟩
theorem tk_back {b b' n : Nat} {X M X' M' : SM} (h : rJ b X M) (k : tk 0 n X' M') (hx : oX 0 X X') (hm : oM M M') (hn : n ≤ b') : rJ b' X' M' := by
  refine ⟨k.1, k.2.2.1, k.2.2.2.1, fun t ht => ?_, k.2.1.2 rfl, gW_c (X := X) (fun j => hx _ _ _ (by unfold ow; omega) (by omega)) (fun t ht => hx _ _ _ (by unfold ow; omega) (by omega)) h.2.2.2.2.2.1, n, hn, k.2.2.2.2⟩
  rw [hx 35 0 t (by unfold ow; omega) (by omega), hx 36 0 t (by unfold ow; omega) (by omega), hm 51 t (by decide), hm 52 t (by decide)]
  exact h.2.2.2.1 t ht
theorem oX_r {m : Nat} {X : SM} : oX m X X := fun _ _ _ _ _ => rfl
theorem oM_r {M : SM} : oM M M := fun _ _ _ => rfl
theorem oX_t {m : Nat} {X Y Z : SM} (a : oX m X Y) (b : oX m Y Z) : oX m X Z := fun k i j q q' => (b k i j q q').trans (a k i j q q')
theorem oM_t {X Y Z : SM} (a : oM X Y) (b : oM Y Z) : oM X Z := fun k j q => (b k j q).trans (a k j q)
theorem run_loop {N : Nat} (hN : N ≤ 200) : ∀ (d i n : Nat) (x : Int32) (X M : SM) (f f' : Nat), i + d = N → d < f → d < f' → n + d < 2 ^ 31 → tk 0 n X M → ∃ r X' M', wl_X11_run_18 f (nI N) x (nI i) X = some (r, X') ∧ wl_X12_run_22 f' (nI N) x (nI i) M = some (r, M') ∧ tk 0 (n + d) X' M' ∧ oX 0 X X' ∧ oM M M' := by
  intro d
  induction d with
  | zero =>
    intro i n x X M f f' h1 h2 h3 h4 h
    obtain ⟨f, rfl⟩ : ∃ q, f = q + 1 := ⟨f - 1, by omega⟩
    obtain ⟨f', rfl⟩ : ∃ q, f' = q + 1 := ⟨f' - 1, by omega⟩
    have : i = N := by omega
    subst this
    rw [wl_X11_run_18_s, wl_X12_run_22_s]
    unfold wb_X11_run_18 wb_X12_run_22
    rw [if_pos (nI_le (Nat.le_refl i) (by omega)), if_pos (nI_le (Nat.le_refl i) (by omega))]
    exact ⟨x, X, M, rfl, rfl, h, oX_r, oM_r⟩
  | succ d ih =>
    intro i n x X M f f' h1 h2 h3 h4 h
    obtain ⟨f, rfl⟩ : ∃ q, f = q + 1 := ⟨f - 1, by omega⟩
    obtain ⟨f', rfl⟩ : ∃ q, f' = q + 1 := ⟨f' - 1, by omega⟩
    obtain ⟨r, X1, M1, a1, a2, a3, a4, a5, a6⟩ := d_tick (by omega) (by omega) h
    rw [wl_X11_run_18_s, wl_X12_run_22_s]
    unfold wb_X11_run_18 wb_X12_run_22
    simp only [if_neg (nI_ge (show i < N by omega) (show N < 2 ^ 31 by omega)), a1, a2, Option.bind_some, g_let_eq, nI_1]
    rw [show n + (d + 1) = (n + 1) + d by omega]
    rcases a6 with rfl | ⟨a, ha, rfl⟩
    · simp only [if_true, if_pos (show (-1 : Int32) < 0 by decide)]
      obtain ⟨r, X', M', b1, b2, b3, b4, b5⟩ := ih (i + 1) (n + 1) x X1 M1 f f' (by omega) (by omega) (by omega) (by omega) a3
      exact ⟨r, X', M', b1, b2, b3, oX_t a4 b4, oM_t a5 b5⟩
    · simp only [if_neg (show ¬ nI a = -1 from fun w => nI_pos (show a < 2 ^ 31 by omega) (by rw [w]; decide)), if_neg (nI_pos (show a < 2 ^ 31 by omega))]
      obtain ⟨r, X', M', b1, b2, b3, b4, b5⟩ := ih (i + 1) (n + 1) (x + 1) X1 M1 f f' (by omega) (by omega) (by omega) (by omega) a3
      exact ⟨r, X', M', b1, b2, b3, oX_t a4 b4, oM_t a5 b5⟩
theorem c_run {b : Nat} {X M : SM} (x1 : Int32) (hb : b < 2 ^ 30) (h : rJ b X M) : ∃ r X' M', fn_X11_run x1 X = some (r, X') ∧ fn_X12_run x1 M = some (r, M') ∧ rJ (b + 200) X' M' := by
  unfold fn_X11_run fn_X12_run
  simp only [g_let_eq]
  by_cases h1 : x1 < 1
  · rw [if_pos h1, within_no1 h1]
    exact ⟨_, _, _, rfl, rfl, rJ_le (rJ_thr h) (by omega)⟩
  · by_cases h2 : x1 ≤ 200
    · rw [if_neg h1, if_pos h2, within_yes h1 h2, if_neg one0]
      obtain ⟨N, hN, rfl⟩ := nI_of2 (M := 200) (n := 200) (by decide) (fun q => h1 (Int32.lt_trans q (by decide))) h2
      obtain ⟨n, hn, en⟩ := h.2.2.2.2.2.2
      obtain ⟨r, X', M', e1, e2, e3, e4, e5⟩ := run_loop hN N 0 n 0 X (u1 M 39 0 15 0) 1000 1000 (by omega) (by omega) (by omega) (by omega) (tk_J (rJ_thr h) en)
      exact ⟨r, X', M', e1, e2, tk_back (rJ_thr h) e3 e4 e5 (by omega)⟩
    · rw [if_neg h1, if_neg h2, within_no2 h1 h2]
      exact ⟨_, _, _, rfl, rfl, rJ_le (rJ_thr h) (by omega)⟩
