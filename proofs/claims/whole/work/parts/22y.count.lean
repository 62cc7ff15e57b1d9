/-! the trapped ones of count -/
theorem trap_loop {X M : SM} {τ : SL} (h : rR 0 X M) : ∀ (d k : Nat) (x : Int32) (f f' : Nat), k + d = 6 → d < f → d < f' → ∃ r, wl_X7_trapped_4 f 0 x (nI k) X = some r ∧ wl_X12_setOf_4 f' 1 x (nI k) M τ = some (r, M, τ) := by
  intro d
  induction d with
  | zero =>
    intro k x f f' h1 h2 h3
    obtain ⟨f, rfl⟩ : ∃ q, f = q + 1 := ⟨f - 1, by omega⟩
    obtain ⟨f', rfl⟩ : ∃ q, f' = q + 1 := ⟨f' - 1, by omega⟩
    have : k = 6 := by omega
    subst this
    exact ⟨x, rfl, rfl⟩
  | succ d ih =>
    intro k x f f' h1 h2 h3
    obtain ⟨f, rfl⟩ : ∃ q, f = q + 1 := ⟨f - 1, by omega⟩
    obtain ⟨f', rfl⟩ : ∃ q, f' = q + 1 := ⟨f' - 1, by omega⟩
    have hk : k < 6 := by omega
    rw [wl_X7_trapped_4_s, wl_X12_setOf_4_s]
    unfold wb_X7_trapped_4 wb_X12_setOf_4
    simp only [if_neg (show ¬ (6 : Int32) ≤ nI k from nI_ge (b := 6) hk (by decide)), if_pos (in6 hk), cl6 hk, if_neg one0, ix438, if_pos (in693 (show 438 + k < 693 by omega)), cl693 (show 438 + k < 693 by omega), g_let_eq, nI_1, show X 9 (6 * 0 + k) 9 = M 40 0 (438 + k) from rR_rW h k 1 hk (by omega)]
    by_cases z : M 40 0 (438 + k) = 5
    · simp only [if_pos z]
      exact ih (k + 1) _ f f' (by omega) (by omega) (by omega)
    · simp only [if_neg z]
      exact ih (k + 1) _ f f' (by omega) (by omega) (by omega)
