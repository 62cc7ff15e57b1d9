/-! found: the period -/
theorem period_loop {q : Nat → Nat} {p : Nat} (hp : p < 65) {X M : SM} (hq : ∀ t, t < 6 → M 52 0 t = nI (q t) ∧ q t ≤ 16) (hr : ∀ p' i, p' ≤ p → i < 6 → X 26 0 (6 * p' + i) = if q i = 0 then 0 else M 54 0 (6 * p' + i)) (k63 : Int32 → SM → Option (Int32 × SM)) : ∀ (d e f f' : Nat), e + d = 17 → 1 ≤ e → d < f → d < f' → (wl_X6_periodAt_2 f (nI p) (nI e) X = some (-1) ∧ wl_X12_found_106 k63 f' (nI p) (nI p - nI e) M = wb_X12_found_175 k63 (nI p) M) ∨ (∃ n, 1 ≤ n ∧ n ≤ 16 ∧ n ≤ p ∧ wl_X6_periodAt_2 f (nI p) (nI e) X = some (nI n) ∧ wl_X12_found_106 k63 f' (nI p) (nI p - nI e) M = wl_X12_found_139 1000 (nI (p - n)) 0 (u1 M 39 0 12 (nI n))) := by
  intro d
  induction d with
  | zero =>
    intro e f f' h1 h2 h3 h4
    obtain ⟨f, rfl⟩ : ∃ q, f = q + 1 := ⟨f - 1, by omega⟩
    obtain ⟨f', rfl⟩ : ∃ q, f' = q + 1 := ⟨f' - 1, by omega⟩
    have : e = 17 := by omega
    subst this
    refine Or.inl ⟨?_, ?_⟩
    · rw [wl_X6_periodAt_2_s]
      unfold wb_X6_periodAt_2
      rw [if_pos (show (16 : Int32) < nI 17 by decide)]
    · rw [wl_X12_found_106_s]
      unfold wb_X12_found_106
      by_cases z : p < 17
      · rw [if_pos (ni_neg z (by omega))]
      · rw [ni_sub (by omega), if_neg (nI_pos (by omega)), show nI p - 16 = nI (p - 16) from ni_sub (a := 16) (by omega), if_pos (nI_lt (by omega) (by omega))]
  | succ d ih =>
    intro e f f' h1 h2 h3 h4
    obtain ⟨f, rfl⟩ : ∃ q, f = q + 1 := ⟨f - 1, by omega⟩
    obtain ⟨f', rfl⟩ : ∃ q, f' = q + 1 := ⟨f' - 1, by omega⟩
    rw [wl_X6_periodAt_2_s, wl_X12_found_106_s]
    unfold wb_X6_periodAt_2 wb_X12_found_106
    rw [if_neg (show ¬ (16 : Int32) < nI e from nI_nlt (a := 16) (b := e) (by omega) (by decide))]
    by_cases z : p < e
    · rw [if_pos (nI_lt z (by omega)), if_pos (ni_neg z (by omega))]
      exact Or.inl ⟨rfl, rfl⟩
    · rw [if_neg (nI_nlt (by omega) (by omega)), ni_sub (by omega), if_neg (nI_pos (by omega))]
      have h16 : ¬ nI (p - e) < nI p - 16 := by
        by_cases y : p < 16
        · exact fun w => nI_pos (n := p - e) (by omega) (Int32.lt_trans w (ni_neg (b := 16) y (by decide)))
        · rw [show nI p - 16 = nI (p - 16) from ni_sub (a := 16) (by omega)]
          exact nI_nlt (by omega) (by omega)
      rw [if_neg h16]
      unfold fn_X6_isSame fn_X12_isAlike
      obtain ⟨r, r0, r1, r2⟩ := alike_loop (p := p) (p' := p - e) hp (by omega) hq (fun i hi => hr p i (by omega) hi) (fun i hi => hr (p - e) i (by omega) hi) 6 0 1000 1000 (by omega) (by omega) (by omega)
      rw [show wl_X6_isSame_2 1000 (nI p) (nI (p - e)) 0 X = some r from r1, show wl_X12_isAlike_2 1000 (nI p) (nI (p - e)) 0 M = some r from r2]
      simp only [Option.bind_some, g_let_eq]
      rcases r0 with rfl | rfl
      · simp only [if_true, nI_1]
        have ih' := ih (e + 1) f f' (by omega) (by omega) (by omega) (by omega)
        have e1 : nI (p - e) + -1 = nI p - nI (e + 1) := by
          rw [← ni_sub (show e ≤ p by omega), nI_succ]
          grind
        rw [e1]
        exact ih'
      · refine Or.inr ⟨e, h2, by omega, by omega, ?_, ?_⟩
        · rw [if_neg one0]
        · rw [if_neg one0, ni_sub (by omega), show p - (p - e) = e by omega]
