/-! span: slots counted -/
def cnt (g : Nat → Int32) (v : Int32) : Nat → Nat
  | 0 => 0
  | k + 1 => cnt g v k + (if g k = v then 1 else 0)
def sen (g : Nat → Int32) (v : Int32) (n b : Nat) : Nat → Nat
  | 0 => 0
  | k + 1 => sen g v n b k + (if g ((b + k) % n) = v then 1 else 0)
theorem cnt_le (g : Nat → Int32) (v : Int32) : ∀ k, cnt g v k ≤ k := by
  intro k
  induction k with
  | zero => exact Nat.le_refl 0
  | succ k ih =>
    show cnt g v k + (if g k = v then 1 else 0) ≤ k + 1
    split <;> omega
theorem sen_le (g : Nat → Int32) (v : Int32) (n b k : Nat) : ∀ d, sen g v n b k ≤ sen g v n b (k + d) := by
  intro d
  induction d with
  | zero => exact Nat.le_refl _
  | succ d ih =>
    show sen g v n b k ≤ sen g v n b (k + d) + (if g ((b + (k + d)) % n) = v then 1 else 0)
    omega
theorem sen_1 (g : Nat → Int32) (v : Int32) {n b : Nat} : ∀ k, b + k ≤ n → sen g v n b k + cnt g v b = cnt g v (b + k) := by
  intro k
  induction k with
  | zero => intro _; show 0 + cnt g v b = cnt g v b; omega
  | succ k ih =>
    intro h
    show sen g v n b k + (if g ((b + k) % n) = v then 1 else 0) + cnt g v b = cnt g v (b + k) + (if g (b + k) = v then 1 else 0)
    rw [Nat.mod_eq_of_lt (by omega), ← ih (by omega)]
    omega
theorem sen_2 (g : Nat → Int32) (v : Int32) {n b : Nat} (hb : b < n) : ∀ k, k ≤ b → sen g v n b (n - b + k) + cnt g v b = cnt g v n + cnt g v k := by
  intro k
  induction k with
  | zero =>
    intro _
    have := sen_1 g v (n := n) (b := b) (n - b) (by omega)
    rw [show b + (n - b) = n by omega] at this
    exact this
  | succ k ih =>
    intro h
    have h1 := ih (by omega)
    show sen g v n b (n - b + k) + (if g ((b + (n - b + k)) % n) = v then 1 else 0) + cnt g v b = cnt g v n + (cnt g v k + (if g k = v then 1 else 0))
    rw [show b + (n - b + k) = k + n by omega, Nat.add_mod_right, Nat.mod_eq_of_lt (by omega)]
    omega
theorem sen_all (g : Nat → Int32) (v : Int32) {n b : Nat} (hb : b < n) : sen g v n b n = cnt g v n := by
  have := sen_2 g v hb b (Nat.le_refl b)
  rw [show n - b + b = n by omega] at this
  omega
section SP
variable {n : Nat} {v : Int32} {X M : SM}
theorem own_loop (hn : n ≤ 16) (e1 : X 10 0 1 = nI n) (e3 : ∀ s, s < n → X 34 0 s = M 50 0 s) : ∀ (d k f : Nat), k + d = n → d < f → wl_X10_owned_4 f v (nI (cnt (M 50 0) v k)) (nI k) X = some (nI (cnt (M 50 0) v n)) := by
  intro d
  induction d with
  | zero =>
    intro k f h1 h2
    obtain ⟨f, rfl⟩ : ∃ q, f = q + 1 := ⟨f - 1, by omega⟩
    have : k = n := by omega
    subst this
    rw [wl_X10_owned_4_s]
    unfold wb_X10_owned_4
    by_cases q : k = 16
    · subst q
      rw [if_pos (show (16 : Int32) ≤ nI 16 by decide)]
    · rw [if_neg (show ¬ (16 : Int32) ≤ nI k from nI_ge (b := 16) (by omega) (by decide)), g_let_eq, x_hasnot e1 (Or.inr ⟨nI_pos (by omega), nI_le (Nat.le_refl k) (by omega)⟩), if_pos rfl]
  | succ d ih =>
    intro k f h1 h2
    obtain ⟨f, rfl⟩ : ∃ q, f = q + 1 := ⟨f - 1, by omega⟩
    have hk : k < n := by omega
    have ihk := ih (k + 1) f (by omega) (by omega)
    rw [wl_X10_owned_4_s]
    unfold wb_X10_owned_4
    simp only [if_neg (show ¬ (16 : Int32) ≤ nI k from nI_ge (b := 16) (by omega) (by decide)), g_let_eq, x_has hn e1 hk, if_neg one0, if_pos (g_inI (show k < 16 by omega) (by decide)), nI_clamp (show k < 2 ^ 31 by omega), e3 k hk, nI_1]
    rw [show cnt (M 50 0) v (k + 1) = cnt (M 50 0) v k + (if M 50 0 k = v then 1 else 0) from rfl] at ihk
    by_cases z : M 50 0 k = v
    · rw [if_pos z] at ihk ⊢
      exact ihk
    · rw [if_neg z] at ihk ⊢
      exact ihk
theorem x_owned (hn : n ≤ 16) (e1 : X 10 0 1 = nI n) (e3 : ∀ s, s < n → X 34 0 s = M 50 0 s) : fn_X10_owned v X = some (nI (cnt (M 50 0) v n)) := own_loop hn e1 e3 n 0 1000 (by omega) (by omega)
theorem has_loop (hn : n ≤ 16) (e2 : M 39 0 12 = nI n) : ∀ (d k f : Nat), k + d = n → d < f → cnt (M 50 0) v k = 0 → wl_X12_hasSlot_2 f v (nI k) M = some (if cnt (M 50 0) v n = 0 then 0 else 1) := by
  intro d
  induction d with
  | zero =>
    intro k f h1 h2 h3
    obtain ⟨f, rfl⟩ : ∃ q, f = q + 1 := ⟨f - 1, by omega⟩
    have : k = n := by omega
    subst this
    rw [wl_X12_hasSlot_2_s]
    unfold wb_X12_hasSlot_2
    rw [e2, if_pos (nI_le (Nat.le_refl k) (by omega)), if_pos h3]
  | succ d ih =>
    intro k f h1 h2 h3
    obtain ⟨f, rfl⟩ : ∃ q, f = q + 1 := ⟨f - 1, by omega⟩
    have hk : k < n := by omega
    rw [wl_X12_hasSlot_2_s]
    unfold wb_X12_hasSlot_2
    simp only [e2, if_neg (nI_ge hk (show n < 2 ^ 31 by omega)), g_let_eq, if_pos (g_inI (show k < 16 by omega) (by decide)), nI_clamp (show k < 2 ^ 31 by omega), nI_1]
    by_cases z : M 50 0 k = v
    · rw [if_pos z]
      have h4 : cnt (M 50 0) v (k + 1) = 1 := by
        show cnt (M 50 0) v k + (if M 50 0 k = v then 1 else 0) = 1
        rw [if_pos z, h3]
      have h5 : ∀ d, cnt (M 50 0) v (k + 1) ≤ cnt (M 50 0) v (k + 1 + d) := by
        intro d
        induction d with
        | zero => exact Nat.le_refl _
        | succ d ih' =>
          show cnt (M 50 0) v (k + 1) ≤ cnt (M 50 0) v (k + 1 + d) + (if M 50 0 (k + 1 + d) = v then 1 else 0)
          omega
      have h6 := h5 (n - (k + 1))
      rw [show k + 1 + (n - (k + 1)) = n by omega] at h6
      rw [if_neg (by omega)]
    · rw [if_neg z]
      refine ih (k + 1) f (by omega) (by omega) ?_
      show cnt (M 50 0) v k + (if M 50 0 k = v then 1 else 0) = 0
      rw [if_neg z, h3]
theorem m_hasSlot (hn : n ≤ 16) (e2 : M 39 0 12 = nI n) : fn_X12_hasSlot v M = some (if cnt (M 50 0) v n = 0 then 0 else 1) := has_loop hn e2 n 0 1000 (by omega) (by omega) rfl
theorem mown_loop {x1 x3 : Int32} (hn : n ≤ 16) (e2 : M 39 0 12 = nI n) : ∀ (d k f : Nat), k + d = n → d < f → ∃ f1, wl_X12_ticksFrom_6 f x1 v x3 (nI (cnt (M 50 0) v k)) (nI k) M = wl_X12_ticksFrom_6 (f1 + 1) x1 v x3 (nI (cnt (M 50 0) v n)) (nI n) M := by
  intro d
  induction d with
  | zero =>
    intro k f h1 h2
    have : k = n := by omega
    subst this
    exact ⟨f - 1, by rw [show f - 1 + 1 = f by omega]⟩
  | succ d ih =>
    intro k f h1 h2
    obtain ⟨f, rfl⟩ : ∃ q, f = q + 1 := ⟨f - 1, by omega⟩
    have hk : k < n := by omega
    obtain ⟨f1, ihk⟩ := ih (k + 1) f (by omega) (by omega)
    refine ⟨f1, ?_⟩
    rw [← ihk, wl_X12_ticksFrom_6_s]
    unfold wb_X12_ticksFrom_6
    simp only [e2, if_neg (nI_ge hk (show n < 2 ^ 31 by omega)), g_let_eq, if_pos (g_inI (show k < 16 by omega) (by decide)), nI_clamp (show k < 2 ^ 31 by omega), nI_1]
    rw [show cnt (M 50 0) v (k + 1) = cnt (M 50 0) v k + (if M 50 0 k = v then 1 else 0) from rfl]
    by_cases z : M 50 0 k = v
    · rw [if_pos z, if_pos z]
    · rw [if_neg z, if_neg z]
      rfl
theorem tf_loop {w r b : Nat} (hn : n ≤ 16) (hb : b < n) (e1 : X 10 0 1 = nI n) (e2 : M 39 0 12 = nI n) (e3 : ∀ s, s < n → X 34 0 s = M 50 0 s) (hr : r ≤ cnt (M 50 0) v n) : ∀ (d k f f' : Nat), k + d = n → d < f → d < f' → sen (M 50 0) v n b k < r → ∃ t, 1 ≤ t ∧ t ≤ n ∧ wl_X10_ticksFrom_6 f (nI b) v (nI r) (nI (sen (M 50 0) v n b k)) (nI (k + 1)) X = some (nI t) ∧ wl_X12_ticksFrom_55 f' (nI b) v (nI w) (nI (r - sen (M 50 0) v n b k)) (nI k) M = some (nI w * nI n + nI t) := by
  intro d
  induction d with
  | zero =>
    intro k f f' h1 h2 h3 h4
    have : k = n := by omega
    subst this
    rw [sen_all _ _ hb] at h4
    omega
  | succ d ih =>
    intro k f f' h1 h2 h3 h4
    obtain ⟨f, rfl⟩ : ∃ q, f = q + 1 := ⟨f - 1, by omega⟩
    obtain ⟨f', rfl⟩ : ∃ q, f' = q + 1 := ⟨f' - 1, by omega⟩
    have hL : (b + k) % n < n := Nat.mod_lt _ (by omega)
    have hc := cnt_le (M 50 0) v n
    have ihk := ih (k + 1) f f' (by omega) (by omega) (by omega)
    have hrem : nI (b + k) - nI (b + k) / nI n * nI n = nI ((b + k) % n) := pk_rem (by omega) (by omega) (by omega)
    have xo : fn_X10_ownerAt (nI (b + (k + 1)) - 1) X = some (M 50 0 ((b + k) % n)) := by
      rw [show b + (k + 1) = (b + k) + 1 by omega, nI_pred]
      unfold fn_X10_ownerAt
      simp only [e1, if_pos (show (1 : Int32) ≤ nI n from nI_le (a := 1) (by omega) (by omega)), if_pos (nI_ne0 (show 0 < n by omega) (show n < 2 ^ 31 by omega)), hrem, g_let_eq, x_has hn e1 hL, if_neg one0, if_pos (g_inI (show (b + k) % n < 16 by omega) (by decide)), nI_clamp (show (b + k) % n < 2 ^ 31 by omega), e3 _ hL]
    rw [wl_X10_ticksFrom_6_s, wl_X12_ticksFrom_55_s]
    unfold wb_X10_ticksFrom_6 wb_X12_ticksFrom_55
    have hpos : ¬ nI (r - sen (M 50 0) v n b k) ≤ 0 := nI_nle (by omega) (by omega)
    rw [show sen (M 50 0) v n b (k + 1) = sen (M 50 0) v n b k + (if M 50 0 ((b + k) % n) = v then 1 else 0) from rfl] at ihk
    generalize sen (M 50 0) v n b k = e at *
    simp only [e1, e2, if_neg (nI_nlt (show k + 1 ≤ n by omega) (show n < 2 ^ 31 by omega)), xo, Option.bind_some, g_let_eq, if_neg hpos, nI_add, if_pos (nI_ne0 (show 0 < n by omega) (show n < 2 ^ 31 by omega)), hrem, if_pos (g_inI (show (b + k) % n < 16 by omega) (by decide)), nI_clamp (show (b + k) % n < 2 ^ 31 by omega), nI_1, show nI (r - e) + -1 = nI (r - (e + 1)) by rw [← Int32.sub_eq_add_neg, show nI (r - e) - 1 = nI (r - e - 1) from ni_sub (a := 1) (by omega)]; congr 1]
    by_cases z : M 50 0 ((b + k) % n) = v
    · rw [if_pos z] at ihk
      simp only [if_pos z]
      by_cases y : e + 1 = r
      · simp only [if_pos (show nI (e + 1) = nI r by rw [y])]
        refine ⟨k + 1, by omega, by omega, rfl, ?_⟩
        obtain ⟨f', rfl⟩ : ∃ q, f' = q + 1 := ⟨f' - 1, by omega⟩
        rw [wl_X12_ticksFrom_55_s]
        unfold wb_X12_ticksFrom_55
        rw [if_pos (show nI (r - (e + 1)) ≤ 0 by rw [y, Nat.sub_self]; decide), e2]
      · simp only [if_neg (show ¬ nI (e + 1) = nI r from fun w => y ((nI_eq (by omega) (by omega)).mp w))]
        exact ihk (by omega)
    · rw [if_neg z] at ihk
      simp only [if_neg z, if_neg (show ¬ nI e = nI r from fun w => by have := (nI_eq (show e < 2 ^ 31 by omega) (show r < 2 ^ 31 by omega)).mp w; omega)]
      exact ihk (by omega)
end SP
