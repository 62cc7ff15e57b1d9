/-! the small steps of both sides, at whole numbers in range -/
theorem ni_mul (a b : Nat) : nI a * nI b = nI (a * b) := (Int32.ofNat_mul a b).symm
theorem m_within {x lo hi : Int32} : fn_X12_within x lo hi = if x < lo then 0 else if hi < x then 0 else 1 := rfl
theorem m_isThread_in {a : Nat} (h : a < 6) : fn_X12_isThread (nI a) = some 1 := by
  unfold fn_X12_isThread
  rw [g_let_eq, show fn_X12_within (nI a) 0 5 = 1 from within_in (lo := 0) (hi := 5) (Nat.zero_le _) (by omega) (by decide)]
  rfl
theorem within_out {x : Int32} {n : Nat} (hn : n + 1 < 2 ^ 31) (h : x < 0 ∨ (¬ x < 0 ∧ nI (n + 1) ≤ x)) : fn_X12_within x 0 (nI n) = 0 := by
  unfold fn_X12_within
  rcases h with h | ⟨h0, h⟩
  · rw [if_pos h]
  · rw [if_neg h0, if_pos (Int32.lt_of_lt_of_le (nI_lt (Nat.lt_succ_self n) hn) h)]
theorem m_isThread_out {x : Int32} (h : x < 0 ∨ (¬ x < 0 ∧ nI 6 ≤ x)) : fn_X12_isThread x = some 0 := by
  unfold fn_X12_isThread
  rw [g_let_eq, show fn_X12_within x 0 5 = 0 from within_out (n := 5) (by decide) h]
  rfl
theorem m_reg {M : SM} {t r : Nat} (ht : t < 6) (hr : r < 8) : fn_X12_reg (nI t) (nI r) M = some (M 40 0 (8 * t + r)) := by
  unfold fn_X12_reg
  have e : (0 + 8 * nI t) + nI r = nI (8 * t + r) := by
    rw [show (0 : Int32) + 8 * nI t = nI (0 + 8 * t) from by rw [← nI_add, ← ni_mul]; rfl, nI_add, Nat.zero_add]
  rw [e, if_pos (g_inI (by omega) (by decide)), nI_clamp (by omega)]
theorem m_gets {M : SM} {v : Int32} {t r : Nat} (ht : t < 6) (hr : r < 8) : fn_X12_gets (nI t) (nI r) v M = some (u1 M 40 0 (8 * t + r) v) := by
  unfold fn_X12_gets
  have e : (0 + 8 * nI t) + nI r = nI (8 * t + r) := by
    rw [show (0 : Int32) + 8 * nI t = nI (0 + 8 * t) from by rw [← nI_add, ← ni_mul]; rfl, nI_add, Nat.zero_add]
  rw [e, if_pos (g_inI (by omega) (by decide)), nI_clamp (by omega)]
  rfl
theorem m_part {M : SM} {t p w : Nat} (ht : t < 6) (hp : p < 24) (hw : w < 4) : fn_X12_part (nI t) (nI p) (nI w) M = some (M 42 0 (4 * (24 * t + p) + w)) := by
  unfold fn_X12_part
  have e : (4 * ((24 * nI t) + nI p)) + nI w = nI (4 * (24 * t + p) + w) := by
    rw [show (24 : Int32) * nI t = nI (24 * t) from ni_mul 24 t, nI_add, show (4 : Int32) * nI (24 * t + p) = nI (4 * (24 * t + p)) from ni_mul 4 _, nI_add]
  rw [e, if_pos (g_inI (by omega) (by decide)), nI_clamp (by omega)]
theorem x_read {X : SM} {i r : Nat} (hr : r < 8) : fn_X9_read i (nI r) X = some (X 31 i r) := by
  unfold fn_X9_read
  rw [g_let_eq, isReg_in hr, if_neg (by decide), if_pos (g_inI hr (by decide)), nI_clamp (by omega)]
theorem x_write {X : SM} {v : Int32} {i r : Nat} (hr : r < 8) : fn_X9_write i (nI r) v X = some (u1 X 31 i r v) := by
  unfold fn_X9_write
  rw [g_let_eq, isReg_in hr, if_neg (by decide), if_pos (g_inI hr (by decide)), nI_clamp (by omega)]
  rfl
theorem x_level {X : SM} {m p : Nat} (hp : p < 8) : fn_X8_levelOf m (nI p) X = some (X 30 m p) := by
  unfold fn_X8_levelOf
  rw [g_let_eq, isPin_in hp, if_neg (by decide), if_pos (g_inI hp (by decide)), nI_clamp (by omega)]
theorem x_kind {X : SM} {m p : Nat} (hp : p < 8) : fn_X8_kindOf m (nI p) X = some (X 29 m p) := by
  unfold fn_X8_kindOf
  rw [g_let_eq, isPin_in hp, if_neg (by decide), if_pos (g_inI hp (by decide)), nI_clamp (by omega)]
