/-! found: the least limit, and the filled table -/
theorem least_loop {q : Nat → Nat} {X M : SM} (hX : ∀ t, t < 6 → X 36 0 t = nI (q t) ∧ q t ≤ 16) (hM : ∀ t, t < 6 → M 52 0 t = nI (q t) ∧ q t ≤ 16) (hl : ∀ i, i < 6 → X 25 0 i = M 53 0 i) : ∀ (d k : Nat) (cur : Int32) (f f' : Nat), k + d = 6 → d < f → d < f' → (cur = -1 ∨ ∃ r, r < 6 ∧ cur = nI r) → ∃ res, wl_X6_leastLimit_4 f cur (nI k) X = some res ∧ wl_X12_leastLimit_4 f' cur (nI k) M = some res ∧ ((∃ t, t < 6 ∧ res = nI t) ∨ (res = -1 ∧ cur = -1 ∧ ∀ i, k ≤ i → i < 6 → q i = 0)) := by
  intro d
  induction d with
  | zero =>
    intro k cur f f' g1 g2 g3 hc
    obtain ⟨f, rfl⟩ : ∃ q, f = q + 1 := ⟨f - 1, by omega⟩
    obtain ⟨f', rfl⟩ : ∃ q, f' = q + 1 := ⟨f' - 1, by omega⟩
    have : k = 6 := by omega
    subst this
    refine ⟨cur, rfl, rfl, ?_⟩
    rcases hc with e | e
    · exact Or.inr ⟨e, e, fun i h1 h2 => absurd h2 (by omega)⟩
    · exact Or.inl e
  | succ d ih =>
    intro k cur f f' g1 g2 g3 hc
    obtain ⟨f, rfl⟩ : ∃ q, f = q + 1 := ⟨f - 1, by omega⟩
    obtain ⟨f', rfl⟩ : ∃ q, f' = q + 1 := ⟨f' - 1, by omega⟩
    obtain ⟨e1, e2⟩ := hX k (by omega)
    obtain ⟨e3, -⟩ := hM k (by omega)
    rw [wl_X6_leastLimit_4_s, wl_X12_leastLimit_4_s]
    unfold wb_X6_leastLimit_4 wb_X12_leastLimit_4
    simp only [if_neg (show ¬ (6 : Int32) ≤ nI k from nI_ge (b := 6) (by omega) (by decide)), if_pos (in6 (show k < 6 by omega)), cl6 (show k < 6 by omega), g_let_eq, e1, e3, nI_1]
    by_cases z : q k = 0
    · simp only [z, if_pos (show nI 0 ≤ 0 by decide)]
      obtain ⟨res, r1, r2, r3⟩ := ih (k + 1) cur f f' (by omega) (by omega) (by omega) hc
      refine ⟨res, r1, r2, ?_⟩
      rcases r3 with r3 | ⟨r3, r4, r5⟩
      · exact Or.inl r3
      · refine Or.inr ⟨r3, r4, fun i h1 h2 => ?_⟩
        by_cases y : i = k
        · rw [y]; exact z
        · exact r5 i (by omega) h2
    · simp only [if_neg (nI_nle (show 0 < q k by omega) (show q k < 2 ^ 31 by omega))]
      have pick : ∀ cur', (∃ r, r < 6 ∧ cur' = nI r) → ∃ res, wl_X6_leastLimit_4 f cur' (nI (k + 1)) X = some res ∧ wl_X12_leastLimit_4 f' cur' (nI (k + 1)) M = some res ∧ ((∃ t, t < 6 ∧ res = nI t) ∨ (res = -1 ∧ cur = -1 ∧ ∀ i, k ≤ i → i < 6 → q i = 0)) := by
        intro cur' hc'
        obtain ⟨res, r1, r2, r3⟩ := ih (k + 1) cur' f f' (by omega) (by omega) (by omega) (Or.inr hc')
        refine ⟨res, r1, r2, ?_⟩
        rcases r3 with r3 | ⟨r3, r4, r5⟩
        · exact Or.inl r3
        · obtain ⟨r, hr, e⟩ := hc'
          exact absurd (show nI r < 0 by rw [← e, r4]; decide) (nI_pos (by omega))
      rcases hc with rfl | ⟨r, hr, rfl⟩
      · rw [if_pos rfl, if_pos (show (-1 : Int32) < 0 by decide)]
        exact pick (nI k) ⟨k, by omega, rfl⟩
      · have hne : ¬ nI r = -1 := fun e => absurd (show nI r < 0 by rw [e]; decide) (nI_pos (by omega))
        simp only [if_neg hne, if_neg (nI_pos (show r < 2 ^ 31 by omega)), if_pos (in6 hr), cl6 hr, hl r hr, hl k (by omega)]
        by_cases y : M 53 0 r ≤ M 53 0 k
        · simp only [if_pos y]
          exact pick (nI r) ⟨r, hr, rfl⟩
        · simp only [if_neg y]
          exact pick (nI k) ⟨k, by omega, rfl⟩
theorem fd_fill {n s : Nat} (hn : n ≤ 16) (hs : s + n ≤ 65) : ∀ (d k : Nat) (X M : SM) (f f' : Nat), n = k + d → d < f → d < f' → M 39 0 12 = nI n → (∀ i, i < n → X 27 0 (s + i) = M 55 0 (s + i) ∧ ∃ t, t < 6 ∧ M 55 0 (s + i) = nI t) → (∀ i, i < k → X 34 0 i = M 50 0 i ∧ (M 50 0 i = -1 ∨ ∃ t, t < 6 ∧ M 50 0 i = nI t)) → ∃ g g' : Nat → Int32, wl_X6_fill_3 f (nI s) (nI n) (nI k) X = some (u1 (fun a b c => if a = 34 ∧ b = 0 then g c else X a b c) 10 0 1 (nI n)) ∧ wl_X12_found_139 f' (nI s) (nI k) M = some (0, fun a b c => if a = 50 ∧ b = 0 then g' c else M a b c) ∧ (∀ i, i < n → g i = g' i ∧ (g' i = -1 ∨ ∃ t, t < 6 ∧ g' i = nI t)) := by
  intro d
  induction d with
  | zero =>
    intro k X M f f' h1 h2 h3 e h4 h5
    obtain ⟨f, rfl⟩ : ∃ q, f = q + 1 := ⟨f - 1, by omega⟩
    obtain ⟨f', rfl⟩ : ∃ q, f' = q + 1 := ⟨f' - 1, by omega⟩
    have : k = n := by omega
    subst this
    refine ⟨X 34 0, M 50 0, ?_, ?_, h5⟩
    · rw [wl_X6_fill_3_s]
      unfold wb_X6_fill_3
      rw [if_pos (nI_le (Nat.le_refl k) (by omega)), g_let_eq]
      congr 2
      funext a b c
      by_cases q : a = 34 ∧ b = 0
      · rw [if_pos q, q.1, q.2]
      · rw [if_neg q]
    · rw [wl_X12_found_139_s]
      unfold wb_X12_found_139
      rw [e, if_pos (nI_le (Nat.le_refl k) (by omega))]
      congr 2
      funext a b c
      by_cases q : a = 50 ∧ b = 0
      · rw [if_pos q, q.1, q.2]
      · rw [if_neg q]
  | succ d ih =>
    intro k X M f f' h1 h2 h3 e h4 h5
    obtain ⟨f, rfl⟩ : ∃ q, f = q + 1 := ⟨f - 1, by omega⟩
    obtain ⟨f', rfl⟩ : ∃ q, f' = q + 1 := ⟨f' - 1, by omega⟩
    obtain ⟨a1, t, ht, a2⟩ := h4 k (by omega)
    obtain ⟨g, g', l1, l2, l3⟩ := ih (k + 1) (u1 X 34 0 k (X 27 0 (s + k))) (u1 M 50 0 k (M 55 0 (s + k))) f f' (by omega) (by omega) (by omega) e h4 (fun i hi => by
      by_cases z : i = k
      · rw [u1_eq ⟨rfl, rfl, z⟩, u1_eq ⟨rfl, rfl, z⟩]
        exact ⟨a1, Or.inr ⟨t, ht, a2⟩⟩
      · rw [u1_ne (fun w => z w.2.2), u1_ne (fun w => z w.2.2)]
        exact h5 i (by omega))
    refine ⟨g, g', ?_, ?_, l3⟩
    · rw [wl_X6_fill_3_s]
      unfold wb_X6_fill_3
      simp only [if_neg (nI_ge (show k < n by omega) (show n < 2 ^ 31 by omega)), if_neg (show ¬ (16 : Int32) ≤ nI k from nI_ge (b := 16) (by omega) (by decide)), nI_add, if_pos (g_inI (show s + k < 65 by omega) (by decide)), nI_clamp (show s + k < 2 ^ 31 by omega), if_pos (g_inI (show k < 16 by omega) (by decide)), nI_clamp (show k < 2 ^ 31 by omega), g_let_eq, nI_1]
      rw [l1]
      congr 2
      funext a b c
      by_cases q : a = 34 ∧ b = 0
      · rw [if_pos q, if_pos q]
      · rw [if_neg q, if_neg q, u1_ne (fun w => q ⟨w.1, w.2.1⟩)]
    · rw [wl_X12_found_139_s]
      unfold wb_X12_found_139
      simp only [e, if_neg (nI_ge (show k < n by omega) (show n < 2 ^ 31 by omega)), nI_add, if_pos (g_inI (show s + k < 65 by omega) (by decide)), nI_clamp (show s + k < 2 ^ 31 by omega), if_pos (g_inI (show k < 16 by omega) (by decide)), nI_clamp (show k < 2 ^ 31 by omega), g_let_eq, nI_1]
      rw [l2]
      congr 2
      funext a b c
      by_cases q : a = 50 ∧ b = 0
      · rw [if_pos q, if_pos q]
      · rw [if_neg q, if_neg q, u1_ne (fun w => q ⟨w.1, w.2.1⟩)]
