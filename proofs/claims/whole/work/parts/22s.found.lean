/-! found: the words of a tick, and when two ticks are alike -/
def nx (X : SM) (q : Nat → Nat) (p k : Nat) : SM := fun a b j => if a = 26 ∧ b = 0 ∧ 6 * p + k ≤ j ∧ j < 6 * p + 6 then (if q (j - 6 * p) = 0 then 0 else X 25 0 (j - 6 * p) - nI p) else X a b j
def nm (M : SM) (p k : Nat) : SM := fun a b j => if a = 54 ∧ b = 0 ∧ 6 * p + k ≤ j ∧ j < 6 * p + 6 then M 53 0 (j - 6 * p) - nI p else M a b j
theorem ix6 {p k : Nat} : nI p * 6 + nI k = nI (6 * p + k) := by
  rw [show nI p * 6 = nI (p * 6) from ni_mul p 6, nI_add, Nat.mul_comm]
theorem ix6' {p k : Nat} : 6 * nI p + nI k = nI (6 * p + k) := by
  rw [show (6 : Int32) * nI p = nI (6 * p) from ni_mul 6 p, nI_add]
theorem in390 {a : Nat} (h : a < 390) : g_in (nI a) 390 := g_inI h (by decide)
theorem cl390 {a : Nat} (h : a < 390) : (nI a).toNatClampNeg = a := nI_clamp (by omega)
theorem note_loop {q : Nat → Nat} {p : Nat} (hp : p < 65) : ∀ (d k : Nat) (X : SM) (f : Nat), k + d = 6 → d < f → (∀ t, t < 6 → X 36 0 t = nI (q t) ∧ q t ≤ 16) → wl_X6_note_2 f (nI p) (nI k) X = some (nx X q p k) := by
  intro d
  induction d with
  | zero =>
    intro k X f h1 h2 hq
    obtain ⟨f, rfl⟩ : ∃ q, f = q + 1 := ⟨f - 1, by omega⟩
    have : k = 6 := by omega
    subst this
    have e : nx X q p 6 = X := by
      funext a b j
      exact if_neg (by omega)
    rw [wl_X6_note_2_s, e]
    rfl
  | succ d ih =>
    intro k X f h1 h2 hq
    obtain ⟨f, rfl⟩ : ∃ q, f = q + 1 := ⟨f - 1, by omega⟩
    obtain ⟨e1, e2⟩ := hq k (by omega)
    rw [wl_X6_note_2_s]
    unfold wb_X6_note_2
    simp only [if_neg (show ¬ (6 : Int32) ≤ nI k from nI_ge (b := 6) (by omega) (by decide)), if_pos (in6 (show k < 6 by omega)), cl6 (show k < 6 by omega), g_let_eq, e1, nI_1, ix6, if_pos (in390 (show 6 * p + k < 390 by omega)), cl390 (show 6 * p + k < 390 by omega)]
    have key : ∀ v, v = (if q k = 0 then 0 else X 25 0 k - nI p) → nx (u1 X 26 0 (6 * p + k) v) q p (k + 1) = nx X q p k := by
      intro v hv
      funext a b j
      unfold nx
      rw [u1_k (k' := 25) (by decide), u1_at]
      by_cases z : a = 26 ∧ b = 0 ∧ 6 * p + k ≤ j ∧ j < 6 * p + 6
      · rw [if_pos z]
        by_cases z' : j = 6 * p + k
        · rw [if_neg (by omega), if_pos ⟨z.1, z.2.1, z'⟩, z', show 6 * p + k - 6 * p = k by omega, hv]
        · rw [if_pos (by omega)]
      · rw [if_neg z, if_neg (by omega), if_neg (by omega)]
    by_cases z : q k = 0
    · rw [z, if_pos (show nI 0 ≤ 0 by decide), ih (k + 1) (u1 X 26 0 (6 * p + k) 0) f (by omega) (by omega) hq, key 0 (by rw [if_pos z])]
    · rw [if_neg (nI_nle (by omega) (by omega)), ih (k + 1) (u1 X 26 0 (6 * p + k) (X 25 0 k - nI p)) f (by omega) (by omega) hq, key _ (by rw [if_neg z])]
theorem left_loop {p : Nat} (hp : p < 65) (k63 : Int32 → SM → Option (Int32 × SM)) : ∀ (d k : Nat) (M : SM) (f : Nat), k + d = 6 → d < f → wl_X12_found_71 k63 f (nI p) (nI k) M = wl_X12_found_106 k63 1000 (nI p) (nI p - 1) (nm M p k) := by
  intro d
  induction d with
  | zero =>
    intro k M f h1 h2
    obtain ⟨f, rfl⟩ : ∃ q, f = q + 1 := ⟨f - 1, by omega⟩
    have : k = 6 := by omega
    subst this
    have e : nm M p 6 = M := by
      funext a b j
      exact if_neg (by omega)
    rw [wl_X12_found_71_s, e]
    rfl
  | succ d ih =>
    intro k M f h1 h2
    obtain ⟨f, rfl⟩ : ∃ q, f = q + 1 := ⟨f - 1, by omega⟩
    rw [wl_X12_found_71_s]
    unfold wb_X12_found_71
    simp only [if_neg (show ¬ (6 : Int32) ≤ nI k from nI_ge (b := 6) (by omega) (by decide)), if_pos (in6 (show k < 6 by omega)), cl6 (show k < 6 by omega), g_let_eq, nI_1, ix6', if_pos (in390 (show 6 * p + k < 390 by omega)), cl390 (show 6 * p + k < 390 by omega)]
    rw [ih (k + 1) _ f (by omega) (by omega)]
    congr 1
    funext a b j
    unfold nm
    rw [u1_k (k' := 53) (by decide), u1_at]
    by_cases z : a = 54 ∧ b = 0 ∧ 6 * p + k ≤ j ∧ j < 6 * p + 6
    · rw [if_pos z]
      by_cases z' : j = 6 * p + k
      · rw [if_neg (by omega), if_pos ⟨z.1, z.2.1, z'⟩, z', show 6 * p + k - 6 * p = k by omega]
      · rw [if_pos (by omega)]
    · rw [if_neg z, if_neg (by omega), if_neg (by omega)]
theorem alike_loop {q : Nat → Nat} {p p' : Nat} (hp : p < 65) (hp' : p' < 65) {X M : SM} (hq : ∀ t, t < 6 → M 52 0 t = nI (q t) ∧ q t ≤ 16) (h1 : ∀ i, i < 6 → X 26 0 (6 * p + i) = if q i = 0 then 0 else M 54 0 (6 * p + i)) (h2 : ∀ i, i < 6 → X 26 0 (6 * p' + i) = if q i = 0 then 0 else M 54 0 (6 * p' + i)) : ∀ (d k f f' : Nat), k + d = 6 → d < f → d < f' → ∃ r, (r = 0 ∨ r = 1) ∧ wl_X6_isSame_2 f (nI p) (nI p') (nI k) X = some r ∧ wl_X12_isAlike_2 f' (nI p) (nI p') (nI k) M = some r := by
  intro d
  induction d with
  | zero =>
    intro k f f' g1 g2 g3
    obtain ⟨f, rfl⟩ : ∃ q, f = q + 1 := ⟨f - 1, by omega⟩
    obtain ⟨f', rfl⟩ : ∃ q, f' = q + 1 := ⟨f' - 1, by omega⟩
    have : k = 6 := by omega
    subst this
    exact ⟨1, Or.inr rfl, rfl, rfl⟩
  | succ d ih =>
    intro k f f' g1 g2 g3
    obtain ⟨f, rfl⟩ : ∃ q, f = q + 1 := ⟨f - 1, by omega⟩
    obtain ⟨f', rfl⟩ : ∃ q, f' = q + 1 := ⟨f' - 1, by omega⟩
    obtain ⟨e1, e2⟩ := hq k (by omega)
    have ih' := ih (k + 1) f f' (by omega) (by omega) (by omega)
    rw [wl_X6_isSame_2_s, wl_X12_isAlike_2_s]
    unfold wb_X6_isSame_2 wb_X12_isAlike_2
    simp only [if_neg (show ¬ (6 : Int32) ≤ nI k from nI_ge (b := 6) (by omega) (by decide)), if_pos (in6 (show k < 6 by omega)), cl6 (show k < 6 by omega), g_let_eq, e1, nI_1, ix6, ix6', if_pos (in390 (show 6 * p + k < 390 by omega)), cl390 (show 6 * p + k < 390 by omega), if_pos (in390 (show 6 * p' + k < 390 by omega)), cl390 (show 6 * p' + k < 390 by omega), h1 k (by omega), h2 k (by omega)]
    by_cases z : q k = 0
    · simp only [z, if_true, if_pos (show nI 0 ≤ 0 by decide)]
      exact ih'
    · simp only [if_neg z, if_neg (nI_nle (show 0 < q k by omega) (show q k < 2 ^ 31 by omega))]
      by_cases y : M 54 0 (6 * p + k) = M 54 0 (6 * p' + k)
      · simp only [if_pos y]
        exact ih'
      · simp only [if_neg y]
        exact ⟨0, Or.inl rfl, rfl, rfl⟩
