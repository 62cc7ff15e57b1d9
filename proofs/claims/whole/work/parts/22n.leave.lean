/-! leaving a queue -/
def xq (X : SM) (m c : Nat) (g : Nat → Int32) (n : Nat) : SM := fun a b j => if a = 14 ∧ b = 4 * m + c ∧ j < 6 then g j else u1 X 15 m c (nI n) a b j
def mq (M : SM) (c : Nat) (g : Nat → Int32) (n : Nat) : SM := fun a b j => if a = 40 ∧ b = 0 ∧ 494 + 6 * c ≤ j ∧ j < 500 + 6 * c then g (j - (494 + 6 * c)) else u1 M 40 0 (518 + c) (nI n) a b j
theorem ix494b {a k : Nat} : (494 : Int32) + 6 * nI a + nI k = nI (494 + 6 * a + k) := by rw [ix494, nI_add]
theorem leave_loop {m c L : Nat} {v : Int32} {ρ : Nat → Int32} (hc : c < 4) (hL : L ≤ 6) (k2 : Int32 → Int32 → SM → Option SM) : ∀ (d w r : Nat) (φ : Nat → Nat) (X M : SM) (f f' : Nat), r + d = L → w ≤ r → d < f → d < f' → X 15 m c = nI L → M 40 0 (518 + c) = nI L →
    (∀ k, r ≤ k → k < L → X 14 (4 * m + c) k = ρ k ∧ M 40 0 (494 + 6 * c + k) = ρ k) →
    (∀ k, k < w → X 14 (4 * m + c) k = ρ (φ k) ∧ M 40 0 (494 + 6 * c + k) = ρ (φ k) ∧ φ k < r ∧ ρ (φ k) ≠ v) →
    (∀ k l, k < l → l < w → φ k < φ l) →
    ∃ (L' : Nat) (φ' : Nat → Nat) (g g' : Nat → Int32), L' ≤ L ∧ wl_X0_leave_23 f m (nI c) v (4 * m + c) (nI w) (nI r) X = some (xq X m c g L') ∧ wl_X12_leaves_12 k2 f' v (nI c) (nI w) (nI r) M = k2 v (nI c + 1) (mq M c g' L') ∧ (∀ k, k < L' → g k = ρ (φ' k) ∧ g' k = ρ (φ' k) ∧ φ' k < L ∧ ρ (φ' k) ≠ v) ∧ (∀ k l, k < l → l < L' → φ' k < φ' l) := by
  intro d
  induction d with
  | zero =>
    intro w r φ X M f f' h1 h2 h3 h4 e1 e2 h5 h6 h7
    obtain ⟨f, rfl⟩ : ∃ q, f = q + 1 := ⟨f - 1, by omega⟩
    obtain ⟨f', rfl⟩ : ∃ q, f' = q + 1 := ⟨f' - 1, by omega⟩
    have : r = L := by omega
    subst this
    refine ⟨w, φ, fun j => X 14 (4 * m + c) j, fun j => M 40 0 (494 + 6 * c + j), h2, ?_, ?_, fun k hk => h6 k hk, h7⟩
    · rw [wl_X0_leave_23_s]
      unfold wb_X0_leave_23
      simp only [if_pos (g_inI (show c < 4 from hc) (by decide)), nI_clamp (show c < 2 ^ 31 by omega), e1, if_pos (nI_le (Nat.le_refl r) (by omega)), g_let_eq]
      congr 1
      funext a b j
      unfold xq
      by_cases q : a = 14 ∧ b = 4 * m + c ∧ j < 6
      · rw [if_pos q, q.1, q.2.1, u1_k (by decide)]
      · rw [if_neg q]
    · rw [wl_X12_leaves_12_s]
      unfold wb_X12_leaves_12
      simp only [ix518, if_pos (in693 (show 518 + c < 693 by omega)), cl693 (show 518 + c < 693 by omega), e2, if_pos (nI_le (Nat.le_refl r) (by omega)), g_let_eq]
      congr 1
      funext a b j
      unfold mq
      by_cases q : a = 40 ∧ b = 0 ∧ 494 + 6 * c ≤ j ∧ j < 500 + 6 * c
      · rw [if_pos q, q.1, q.2.1, u1_ne (by omega)]
        show M 40 0 j = M 40 0 (494 + 6 * c + (j - (494 + 6 * c)))
        rw [show 494 + 6 * c + (j - (494 + 6 * c)) = j by omega]
      · rw [if_neg q]
  | succ d ih =>
    intro w r φ X M f f' h1 h2 h3 h4 e1 e2 h5 h6 h7
    obtain ⟨f, rfl⟩ : ∃ q, f = q + 1 := ⟨f - 1, by omega⟩
    obtain ⟨f', rfl⟩ : ∃ q, f' = q + 1 := ⟨f' - 1, by omega⟩
    obtain ⟨a1, a2⟩ := h5 r (Nat.le_refl r) (by omega)
    rw [wl_X0_leave_23_s, wl_X12_leaves_12_s]
    unfold wb_X0_leave_23 wb_X12_leaves_12
    simp only [if_pos (g_inI (show c < 4 from hc) (by decide)), nI_clamp (show c < 2 ^ 31 by omega), e1, if_neg (nI_ge (show r < L by omega) (show L < 2 ^ 31 by omega)), if_neg (show ¬ (6 : Int32) ≤ nI r from nI_ge (b := 6) (by omega) (by decide)), if_pos (in6 (show r < 6 by omega)), nI_clamp (show r < 2 ^ 31 by omega), if_pos (in6 (show w < 6 by omega)), nI_clamp (show w < 2 ^ 31 by omega), g_let_eq, nI_1 r, nI_1 w, ix518, if_pos (in693 (show 518 + c < 693 by omega)), cl693 (show 518 + c < 693 by omega), e2, ix494b, if_pos (in693 (show 494 + 6 * c + r < 693 by omega)), cl693 (show 494 + 6 * c + r < 693 by omega), if_pos (in693 (show 494 + 6 * c + w < 693 by omega)), cl693 (show 494 + 6 * c + w < 693 by omega), a1, a2]
    by_cases q : ρ r = v
    · simp only [if_pos q]
      exact ih w (r + 1) φ X M f f' (by omega) (by omega) (by omega) (by omega) e1 e2 (fun k k1 k2 => h5 k (by omega) k2) (fun k hk => ⟨(h6 k hk).1, (h6 k hk).2.1, Nat.lt_succ_of_lt (h6 k hk).2.2.1, (h6 k hk).2.2.2⟩) h7
    · simp only [if_neg q]
      obtain ⟨L', φ', g, g', l1, l2, l3, l4, l5⟩ := ih (w + 1) (r + 1) (fun k => if k = w then r else φ k) (u1 X 14 (4 * m + c) w (ρ r)) (u1 M 40 0 (494 + 6 * c + w) (ρ r)) f f' (by omega) (by omega) (by omega) (by omega) e1 ((u1_ne (by omega)).trans e2)
        (fun k k1 k2 => ⟨(u1_ne (by omega)).trans (h5 k (by omega) k2).1, (u1_ne (by omega)).trans (h5 k (by omega) k2).2⟩)
        (fun k hk => by
          by_cases z : k = w
          · subst z
            simp only [if_true]
            exact ⟨u1_self, u1_self, Nat.lt_succ_self r, q⟩
          · simp only [if_neg z]
            obtain ⟨y1, y2, y3, y4⟩ := h6 k (by omega)
            exact ⟨(u1_ne (by omega)).trans y1, (u1_ne (by omega)).trans y2, Nat.lt_succ_of_lt y3, y4⟩)
        (fun k l hk hl => by
          have zk : ¬ k = w := by omega
          by_cases z : l = w
          · simp only [if_neg zk, if_pos z]
            exact (h6 k (by omega)).2.2.1
          · simp only [if_neg zk, if_neg z]
            exact h7 k l hk (by omega))
      refine ⟨L', φ', g, g', l1, ?_, ?_, l4, l5⟩
      · rw [l2]
        congr 1
        funext a b j
        unfold xq
        by_cases z : a = 14 ∧ b = 4 * m + c ∧ j < 6
        · rw [if_pos z, if_pos z]
        · rw [if_neg z, if_neg z]
          simp only [u1_at]
          rw [if_neg (show ¬ (a = 14 ∧ b = 4 * m + c ∧ j = w) by omega)]
      · rw [l3]
        congr 1
        funext a b j
        unfold mq
        by_cases z : a = 40 ∧ b = 0 ∧ 494 + 6 * c ≤ j ∧ j < 500 + 6 * c
        · rw [if_pos z, if_pos z]
        · rw [if_neg z, if_neg z]
          simp only [u1_at]
          rw [if_neg (show ¬ (a = 40 ∧ b = 0 ∧ j = 494 + 6 * c + w) by omega)]
