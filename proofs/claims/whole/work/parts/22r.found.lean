/-! found: the sums and the first limits -/
def gs (q : Nat → Nat) : Nat → Nat
  | 0 => 0
  | k + 1 => gs q k + (if q k = 0 then 0 else 720720 / q k)
theorem gs_b (q : Nat → Nat) : ∀ k, gs q k ≤ 720720 * k := by
  intro k
  induction k with
  | zero => exact Nat.le_refl 0
  | succ k ih =>
    show gs q k + (if q k = 0 then 0 else 720720 / q k) ≤ _
    have : (if q k = 0 then 0 else 720720 / q k) ≤ 720720 := by
      split
      · omega
      · exact Nat.div_le_self _ _
    omega
theorem gs_m (q : Nat → Nat) (k : Nat) : ∀ d, gs q k ≤ gs q (k + d) := by
  intro d
  induction d with
  | zero => exact Nat.le_refl _
  | succ d ih => exact Nat.le_trans ih (Nat.le_add_right _ _)
theorem ni_720 {g : Nat} (h0 : 0 < g) (h : g ≤ 16) : (720720 : Int32) / nI g = nI (720720 / g) := by
  match g, h0, h with
  | 1, _, _ => decide +kernel
  | 2, _, _ => decide +kernel
  | 3, _, _ => decide +kernel
  | 4, _, _ => decide +kernel
  | 5, _, _ => decide +kernel
  | 6, _, _ => decide +kernel
  | 7, _, _ => decide +kernel
  | 8, _, _ => decide +kernel
  | 9, _, _ => decide +kernel
  | 10, _, _ => decide +kernel
  | 11, _, _ => decide +kernel
  | 12, _, _ => decide +kernel
  | 13, _, _ => decide +kernel
  | 14, _, _ => decide +kernel
  | 15, _, _ => decide +kernel
  | 16, _, _ => decide +kernel
  | g + 17, _, h => exact absurd h (by omega)
theorem gs_pos {g : Nat} (h0 : 0 < g) (h : g ≤ 16) : 0 < 720720 / g := Nat.div_pos (by omega) h0
def lx (X : SM) (k : Nat) : SM := fun a b j => if a = 25 ∧ b = 0 ∧ k ≤ j ∧ j < 6 then X 36 0 j else X a b j
def lm (M : SM) (k : Nat) : SM := fun a b j => if a = 53 ∧ b = 0 ∧ k ≤ j ∧ j < 6 then M 52 0 j else M a b j
theorem find_loop {q : Nat → Nat} : ∀ (d k : Nat) (X : SM) (f : Nat), k + d = 6 → d < f → (∀ t, t < 6 → X 36 0 t = nI (q t) ∧ q t ≤ 16) → wl_X6_find_5 f (nI (gs q k)) (nI k) X = if nI (gs q 6) ≤ 720720 then (if nI (gs q 6) = 0 then some (0, u1 (u1 (lx X k) 10 0 1 1) 34 0 0 (-1)) else fn_X6_search (lx X k)) else some (1, lx X k) := by
  intro d
  induction d with
  | zero =>
    intro k X f h1 h2 hq
    obtain ⟨f, rfl⟩ : ∃ q, f = q + 1 := ⟨f - 1, by omega⟩
    have : k = 6 := by omega
    subst this
    have e : lx X 6 = X := by
      funext a b j
      exact if_neg (by omega)
    rw [wl_X6_find_5_s, e]
    unfold wb_X6_find_5
    rw [if_pos (show (6 : Int32) ≤ nI 6 by decide)]
    have s : ((fn_X6_search X).bind fun (r_4, X_5) => some (r_4, X_5)) = fn_X6_search X := by
      cases fn_X6_search X <;> rfl
    rw [s]
    rfl
  | succ d ih =>
    intro k X f h1 h2 hq
    obtain ⟨f, rfl⟩ : ∃ q, f = q + 1 := ⟨f - 1, by omega⟩
    obtain ⟨e1, e2⟩ := hq k (by omega)
    have e1' : ∀ v, u1 X 25 0 k v 36 0 k = nI (q k) := fun v => e1
    have el : lx (u1 X 25 0 k (nI (q k))) (k + 1) = lx X k := by
      funext a b j
      unfold lx
      rw [u1_k (k' := 36) (by decide), u1_at]
      by_cases z : a = 25 ∧ b = 0 ∧ k ≤ j ∧ j < 6
      · rw [if_pos z]
        by_cases z' : j = k
        · rw [if_neg (by omega), if_pos ⟨z.1, z.2.1, z'⟩, z', e1]
        · rw [if_pos (by omega)]
      · rw [if_neg z, if_neg (by omega), if_neg (by omega)]
    have ih' := ih (k + 1) (u1 X 25 0 k (nI (q k))) f (by omega) (by omega) hq
    rw [wl_X6_find_5_s]
    unfold wb_X6_find_5
    simp only [if_neg (show ¬ (6 : Int32) ≤ nI k from nI_ge (b := 6) (by omega) (by decide)), if_pos (in6 (show k < 6 by omega)), cl6 (show k < 6 by omega), g_let_eq, e1, e1', nI_1]
    rw [el] at ih'
    by_cases z : q k = 0
    · rw [z] at ih' ⊢
      rw [if_pos (show nI 0 ≤ 0 by decide), Int32.add_zero, ← ih', show gs q (k + 1) = gs q k from by
        show gs q k + (if q k = 0 then 0 else 720720 / q k) = _
        rw [if_pos z]; rfl]
    · rw [if_neg (nI_nle (by omega) (by omega)), if_pos (nI_ne0 (by omega) (by omega)), ni_720 (by omega) e2, nI_add, ← ih', show gs q (k + 1) = gs q k + 720720 / q k from by
        show gs q k + (if q k = 0 then 0 else 720720 / q k) = _
        rw [if_neg z]]
theorem asked_loop {q : Nat → Nat} : ∀ (d k : Nat) (M : SM) (f : Nat), k + d = 6 → d < f → (∀ t, t < 6 → M 52 0 t = nI (q t) ∧ q t ≤ 16) → wl_X12_isAsked_2 f (nI k) M = some (if gs q 6 = gs q k then 0 else 1) := by
  intro d
  induction d with
  | zero =>
    intro k M f h1 h2 hq
    obtain ⟨f, rfl⟩ : ∃ q, f = q + 1 := ⟨f - 1, by omega⟩
    have : k = 6 := by omega
    subst this
    rw [wl_X12_isAsked_2_s, if_pos rfl]
    rfl
  | succ d ih =>
    intro k M f h1 h2 hq
    obtain ⟨f, rfl⟩ : ∃ q, f = q + 1 := ⟨f - 1, by omega⟩
    obtain ⟨e1, e2⟩ := hq k (by omega)
    rw [wl_X12_isAsked_2_s]
    unfold wb_X12_isAsked_2
    simp only [if_neg (show ¬ (6 : Int32) ≤ nI k from nI_ge (b := 6) (by omega) (by decide)), if_pos (in6 (show k < 6 by omega)), cl6 (show k < 6 by omega), g_let_eq, e1, nI_1]
    have es : gs q (k + 1) = gs q k + (if q k = 0 then 0 else 720720 / q k) := rfl
    by_cases z : q k = 0
    · rw [z, if_pos (show nI 0 ≤ 0 by decide), ih (k + 1) M f (by omega) (by omega) hq, es, if_pos z, Nat.add_zero]
    · rw [if_neg (nI_nle (by omega) (by omega))]
      have g1 := gs_pos (g := q k) (by omega) e2
      have g2 := gs_m q (k + 1) d
      rw [show k + 1 + d = 6 by omega, es, if_neg z] at g2
      rw [if_neg (by omega)]
theorem much_loop {q : Nat → Nat} : ∀ (d k : Nat) (M : SM) (f : Nat), k + d = 6 → d < f → (∀ t, t < 6 → M 52 0 t = nI (q t) ∧ q t ≤ 16) → wl_X12_isTooMuch_4 f (nI (gs q k)) (nI k) M = some (if nI (gs q 6) ≤ 720720 then 0 else 1) := by
  intro d
  induction d with
  | zero =>
    intro k M f h1 h2 hq
    obtain ⟨f, rfl⟩ : ∃ q, f = q + 1 := ⟨f - 1, by omega⟩
    have : k = 6 := by omega
    subst this
    rw [wl_X12_isTooMuch_4_s]
    unfold wb_X12_isTooMuch_4
    rw [if_pos (show (6 : Int32) ≤ nI 6 by decide)]
    split <;> rfl
  | succ d ih =>
    intro k M f h1 h2 hq
    obtain ⟨f, rfl⟩ : ∃ q, f = q + 1 := ⟨f - 1, by omega⟩
    obtain ⟨e1, e2⟩ := hq k (by omega)
    rw [wl_X12_isTooMuch_4_s]
    unfold wb_X12_isTooMuch_4
    simp only [if_neg (show ¬ (6 : Int32) ≤ nI k from nI_ge (b := 6) (by omega) (by decide)), if_pos (in6 (show k < 6 by omega)), cl6 (show k < 6 by omega), g_let_eq, e1, nI_1]
    have es : gs q (k + 1) = gs q k + (if q k = 0 then 0 else 720720 / q k) := rfl
    have ih' := ih (k + 1) M f (by omega) (by omega) hq
    by_cases z : q k = 0
    · rw [es, if_pos z, Nat.add_zero] at ih'
      rw [z, if_pos (show nI 0 ≤ 0 by decide), ih']
    · rw [es, if_neg z] at ih'
      rw [if_neg (nI_nle (by omega) (by omega)), if_pos (nI_ne0 (by omega) (by omega)), ni_720 (by omega) e2, nI_add, ih']
theorem limit_loop : ∀ (d k : Nat) (M : SM) (f : Nat), k + d = 6 → d < f → wl_X12_found_37 f (nI k) M = wl_X12_found_63 1000 0 (lm M k) := by
  intro d
  induction d with
  | zero =>
    intro k M f h1 h2
    obtain ⟨f, rfl⟩ : ∃ q, f = q + 1 := ⟨f - 1, by omega⟩
    have : k = 6 := by omega
    subst this
    have e : lm M 6 = M := by
      funext a b j
      exact if_neg (by omega)
    rw [wl_X12_found_37_s, e]
    rfl
  | succ d ih =>
    intro k M f h1 h2
    obtain ⟨f, rfl⟩ : ∃ q, f = q + 1 := ⟨f - 1, by omega⟩
    rw [wl_X12_found_37_s]
    unfold wb_X12_found_37
    simp only [if_neg (show ¬ (6 : Int32) ≤ nI k from nI_ge (b := 6) (by omega) (by decide)), if_pos (in6 (show k < 6 by omega)), cl6 (show k < 6 by omega), g_let_eq, nI_1]
    rw [ih (k + 1) _ f (by omega) (by omega)]
    congr 1
    funext a b j
    unfold lm
    rw [u1_k (k' := 52) (by decide), u1_at]
    by_cases z : a = 53 ∧ b = 0 ∧ k ≤ j ∧ j < 6
    · rw [if_pos z]
      by_cases z' : j = k
      · rw [if_neg (by omega), if_pos ⟨z.1, z.2.1, z'⟩, z']
      · rw [if_pos (by omega)]
    · rw [if_neg z, if_neg (by omega), if_neg (by omega)]
