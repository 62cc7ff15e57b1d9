/-! the tick: what x, y, z of an instruction can be; what a thread waited for is done -/
theorem within_inv {x : Int32} {n : Nat} (hn : n + 1 < 2 ^ 31) (h : ¬ fn_X12_within x 0 (nI n) = 0) : ∃ a, a < n + 1 ∧ x = nI a := by
  rcases nI_cases x (n + 1) hn with q | q
  · exact q
  · exact absurd (within_out hn q) h
theorem if0 {α : Type} {r : Int32} {a b c : α} (h : (if r = 0 then a else b) = c) (hne : a ≠ c) : ¬ r = 0 ∧ b = c := by
  by_cases q : r = 0
  · rw [if_pos q] at h
    exact absurd h hne
  · rw [if_neg q] at h
    exact ⟨q, h⟩
theorem s01 : (some 0 : Option Int32) ≠ some 1 := by decide
theorem ct_3 {k : Nat} {x y z q : Int32} (hk : k = 1 ∨ k = 2 ∨ k = 3 ∨ k = 4 ∨ k = 11 ∨ k = 13 ∨ k = 19 ∨ k = 20) (h : fn_X12_canTell (nI k) x y z q = some 1) : ∃ a b c, a < 8 ∧ b < 8 ∧ c < 8 ∧ x = nI a ∧ y = nI b ∧ z = nI c := by
  have e : fn_X12_canTell (nI k) x y z q = (if fn_X12_within x 0 (nI 7) = 0 then some 0 else if fn_X12_within y 0 (nI 7) = 0 then some 0 else if fn_X12_within z 0 (nI 7) = 0 then some 0 else some 1) := by
    rcases hk with rfl | rfl | rfl | rfl | rfl | rfl | rfl | rfl <;> rfl
  rw [e] at h
  obtain ⟨h1, h⟩ := if0 h s01
  obtain ⟨h2, h⟩ := if0 h s01
  obtain ⟨h3, h⟩ := if0 h s01
  obtain ⟨a, ha, ea⟩ := within_inv (by decide) h1
  obtain ⟨b, hb, eb⟩ := within_inv (by decide) h2
  obtain ⟨c, hc, ec⟩ := within_inv (by decide) h3
  exact ⟨a, b, c, ha, hb, hc, ea, eb, ec⟩
theorem ct_2 {k : Nat} {x y z q : Int32} (hk : k = 5 ∨ k = 6 ∨ k = 10 ∨ k = 12) (h : fn_X12_canTell (nI k) x y z q = some 1) : ∃ a b, a < 8 ∧ b < 8 ∧ x = nI a ∧ y = nI b := by
  have e : fn_X12_canTell (nI k) x y z q = (if fn_X12_within x 0 (nI 7) = 0 then some 0 else if fn_X12_within y 0 (nI 7) = 0 then some 0 else some 1) := by
    rcases hk with rfl | rfl | rfl | rfl <;> rfl
  rw [e] at h
  obtain ⟨h1, h⟩ := if0 h s01
  obtain ⟨h2, h⟩ := if0 h s01
  obtain ⟨a, ha, ea⟩ := within_inv (by decide) h1
  obtain ⟨b, hb, eb⟩ := within_inv (by decide) h2
  exact ⟨a, b, ha, hb, ea, eb⟩
theorem ct_1 {k : Nat} {x y z q : Int32} (hk : k = 0 ∨ k = 14 ∨ k = 15) (h : fn_X12_canTell (nI k) x y z q = some 1) : ∃ a, a < 8 ∧ x = nI a := by
  have e : fn_X12_canTell (nI k) x y z q = (if fn_X12_within x 0 (nI 7) = 0 ∨ fn_X12_within x 0 (nI 7) = 1 then some (fn_X12_within x 0 (nI 7)) else none) := by
    rcases hk with rfl | rfl | rfl <;> rfl
  rw [e, if_pos (w01 _ _ _)] at h
  obtain ⟨a, ha, ea⟩ := within_inv (x := x) (n := 7) (by decide) (fun w => by rw [w] at h; exact absurd h (by decide))
  exact ⟨a, ha, ea⟩
theorem ct_7 {x y z q : Int32} (h : fn_X12_canTell (nI 7) x y z q = some 1) : ∃ b, b < 24 ∧ y = nI b := by
  have e : fn_X12_canTell (nI 7) x y z q = (if fn_X12_within y 0 (nI 23) = 0 ∨ fn_X12_within y 0 (nI 23) = 1 then some (fn_X12_within y 0 (nI 23)) else none) := rfl
  rw [e, if_pos (w01 _ _ _)] at h
  obtain ⟨a, ha, ea⟩ := within_inv (x := y) (n := 23) (by decide) (fun w => by rw [w] at h; exact absurd h (by decide))
  exact ⟨a, ha, ea⟩
theorem ct_8 {x y z q : Int32} (h : fn_X12_canTell (nI 8) x y z q = some 1) : ∃ a b, a < 8 ∧ b < 24 ∧ x = nI a ∧ y = nI b := by
  have e : fn_X12_canTell (nI 8) x y z q = (if fn_X12_within x 0 (nI 7) = 0 then some 0 else if fn_X12_within y 0 (nI 23) = 0 then some 0 else some 1) := rfl
  rw [e] at h
  obtain ⟨h1, h⟩ := if0 h s01
  obtain ⟨h2, h⟩ := if0 h s01
  obtain ⟨a, ha, ea⟩ := within_inv (by decide) h1
  obtain ⟨b, hb, eb⟩ := within_inv (by decide) h2
  exact ⟨a, b, ha, hb, ea, eb⟩
theorem ct_9 {p : Nat} {x y z : Int32} (hp : p < 24) (h : fn_X12_canTell (nI 9) x y z (nI p) = some 1) : ∃ a b, a < 8 ∧ b ≤ p ∧ x = nI a ∧ y = nI b := by
  have e : fn_X12_canTell (nI 9) x y z (nI p) = (if fn_X12_within x 0 (nI 7) = 0 then some 0 else if fn_X12_within y 0 (nI p) = 0 then some 0 else some 1) := rfl
  rw [e] at h
  obtain ⟨h1, h⟩ := if0 h s01
  obtain ⟨h2, h⟩ := if0 h s01
  obtain ⟨a, ha, ea⟩ := within_inv (by decide) h1
  obtain ⟨b, hb, eb⟩ := within_inv (by omega) h2
  exact ⟨a, b, ha, by omega, ea, eb⟩
theorem ct_c {k : Nat} {x y z q : Int32} (hk : k = 16 ∨ k = 17) (h : fn_X12_canTell (nI k) x y z q = some 1) : ∃ a b, a < 4 ∧ b < 8 ∧ x = nI a ∧ y = nI b := by
  have e : fn_X12_canTell (nI k) x y z q = (if fn_X12_within x 0 (nI 3) = 0 then some 0 else if fn_X12_within y 0 (nI 7) = 0 then some 0 else some 1) := by
    rcases hk with rfl | rfl <;> rfl
  rw [e] at h
  obtain ⟨h1, h⟩ := if0 h s01
  obtain ⟨h2, h⟩ := if0 h s01
  obtain ⟨a, ha, ea⟩ := within_inv (by decide) h1
  obtain ⟨b, hb, eb⟩ := within_inv (by decide) h2
  exact ⟨a, b, ha, hb, ea, eb⟩
theorem m_part0 {M : SM} {t p : Nat} (ht : t < 6) (hp : p < 24) : fn_X12_part (nI t) (nI p) 0 M = some (M 42 0 (4 * (24 * t + p))) := m_part ht hp (w := 0) (by decide)
theorem m_part1 {M : SM} {t p : Nat} (ht : t < 6) (hp : p < 24) : fn_X12_part (nI t) (nI p) 1 M = some (M 42 0 (4 * (24 * t + p) + 1)) := m_part ht hp (w := 1) (by decide)
theorem m_part2 {M : SM} {t p : Nat} (ht : t < 6) (hp : p < 24) : fn_X12_part (nI t) (nI p) 2 M = some (M 42 0 (4 * (24 * t + p) + 2)) := m_part ht hp (w := 2) (by decide)
theorem m_part3 {M : SM} {t p : Nat} (ht : t < 6) (hp : p < 24) : fn_X12_part (nI t) (nI p) 3 M = some (M 42 0 (4 * (24 * t + p) + 3)) := m_part ht hp (w := 3) (by decide)
/-- the instruction at a place of the code -/
theorem i_at {m t p : Nat} {X M : SM} (h : rR m X M) (ht : t < 6) (hp : p < 24) (hn : nI p < M 43 0 t) : ∃ k, k ≤ 20 ∧ M 42 0 (4 * (24 * t + p)) = nI k ∧ fn_X12_canTell (nI k) (M 42 0 (4 * (24 * t + p) + 1)) (M 42 0 (4 * (24 * t + p) + 2)) (M 42 0 (4 * (24 * t + p) + 3)) (nI p) = some 1 := by
  obtain ⟨n, h1, h2, h3, -⟩ := rR_iC h t ht
  rw [h2] at hn
  exact h3 p ((nI_ltI (by omega) (by omega)).mp hn)
theorem d_wake {m a : Nat} {X M : SM} (ha : a < 6) (h : rR m X M) (he : eG m X M) (h1 : M 40 0 (438 + a) = 1) : ∃ X' M', fn_X7_wake m (6 * m + a) X = some X' ∧ fn_X12_comes (nI a) M = some M' ∧ stp m X M X' M' := by
  obtain ⟨-, h2⟩ := rR_rE h a ha
  obtain ⟨w, hw, ew, hwn, hA, -, -⟩ := h2 (Or.inl h1)
  obtain ⟨k0, k4, k11, k13⟩ := hA h1
  obtain ⟨k, hk, ek, hc⟩ := i_at h ha hw hwn
  unfold fn_X7_wake fn_X12_comes wb_X12_comes_60
  simp only [ix480, ix438, ix468, ix687, if_pos (in693 (show 480 + a < 693 by omega)), cl693 (show 480 + a < 693 by omega), if_pos (in693 (show 438 + a < 693 by omega)), cl693 (show 438 + a < 693 by omega), if_pos (in693 (show 468 + a < 693 by omega)), cl693 (show 468 + a < 693 by omega), if_pos (in693 (show 687 + a < 693 by omega)), cl693 (show 687 + a < 693 by omega), g_let_eq, ew, m_part0 ha hw, m_part1 ha hw, m_part2 ha hw, Option.bind_some, k0]
  have wk : ∀ X1 M1, stp m X M X1 M1 → M1 40 0 (438 + a) = 1 → stp m X M (u1 X1 9 (6 * m + a) 9 0) (u1 (u1 M1 40 0 (438 + a) 0) 40 0 (468 + a) (-1)) := fun X1 M1 hs hq => stp_t hs (stp_f (p_wake ha hs.1 hq) hs.2.1 (fX_u (ow9 ha) fX_r) (fM_u (by omega) (fM_u (by omega) fM_r)))
  by_cases z : M 42 0 (4 * (24 * a + w)) = 11
  · obtain ⟨p1, p3⟩ := k11 z
    have : k = 11 := (nI_eq (by omega) (by decide)).mp (ek.symm.trans z)
    subst this
    obtain ⟨p, b, c, hp, hb, hc', ep, eb, -⟩ := ct_3 (by omega) hc
    obtain ⟨X1, M1, e1, e2, e3, e4⟩ := d_write (v := M 40 0 (687 + a)) (l := 0) hp (Or.inl rfl) h he
    simp only [if_pos z, p1, p3, ep, e1, e2, Option.bind_some, if_neg (show ¬ M 42 0 (4 * (24 * a + w)) = 13 by rw [z]; decide)]
    exact ⟨_, _, rfl, rfl, wk X1 M1 e3 ((e4 _ (by omega)).trans h1)⟩
  · by_cases y : M 42 0 (4 * (24 * a + w)) = 13
    · obtain ⟨p1, p3⟩ := k13 y
      have : k = 13 := (nI_eq (by omega) (by decide)).mp (ek.symm.trans y)
      subst this
      obtain ⟨p, b, c, hp, hb, hc', ep, eb, -⟩ := ct_3 (by omega) hc
      simp only [if_neg z, if_pos y, p1, p3, ep, eb, x_level hp, x_write hb, ix486, if_pos (in693 (show 486 + p < 693 by omega)), cl693 (show 486 + p < 693 by omega), m_gets ha hb, Option.bind_some, rR_rP h p hp]
      exact ⟨_, _, rfl, rfl, wk _ _ (stp_f (p_reg ha hb h) he (fX_u (ow31 ha) fX_r) (fM_u (by omega) fM_r)) ((u1_ne (by omega)).trans h1)⟩
    · simp only [if_neg z, if_neg y]
      exact ⟨_, _, rfl, rfl, wk X M (stp_r h he) h1⟩
theorem wake_loop {m : Nat} {t : Int32} : ∀ (d k : Nat) (X M : SM) (f f' : Nat), k + d = 6 → d < f → d < f' → rR m X M → eG m X M → M 40 0 683 = t → ∃ X' M' f1 f1', wl_X7_tick_17 f m (nI k) X = wl_X7_tick_17 (f1 + 1) m 6 X' ∧ wl_X12_ticks_58 f' t (nI k) M = wl_X12_ticks_58 (f1' + 1) t 6 M' ∧ stp m X M X' M' := by
  intro d
  induction d with
  | zero =>
    intro k X M f f' h1 h2 h3 h he ht
    obtain ⟨f, rfl⟩ : ∃ q, f = q + 1 := ⟨f - 1, by omega⟩
    obtain ⟨f', rfl⟩ : ∃ q, f' = q + 1 := ⟨f' - 1, by omega⟩
    have : k = 6 := by omega
    subst this
    exact ⟨X, M, f, f', rfl, rfl, stp_r h he⟩
  | succ d ih =>
    intro k X M f f' h1 h2 h3 h he ht
    obtain ⟨f, rfl⟩ : ∃ q, f = q + 1 := ⟨f - 1, by omega⟩
    obtain ⟨f', rfl⟩ : ∃ q, f' = q + 1 := ⟨f' - 1, by omega⟩
    have hk : k < 6 := by omega
    rw [wl_X7_tick_17_s, wl_X12_ticks_58_s]
    unfold wb_X7_tick_17 wb_X12_ticks_58
    simp only [if_neg (show ¬ (6 : Int32) ≤ nI k from nI_ge (b := 6) hk (by decide)), if_pos (in6 hk), cl6 hk, g_let_eq, ix438, ix468, if_pos (in693 (show 438 + k < 693 by omega)), cl693 (show 438 + k < 693 by omega), if_pos (in693 (show 468 + k < 693 by omega)), cl693 (show 468 + k < 693 by omega), show X 9 (6 * m + k) 9 = M 40 0 (438 + k) from rR_rW h k 1 hk (by omega), nI_1, (rR_rN h).1, ht]
    by_cases z : M 40 0 (438 + k) = 1
    · obtain ⟨-, h2'⟩ := rR_rE h k hk
      obtain ⟨w, -, -, -, hA, -, -⟩ := h2' (Or.inl z)
      simp only [if_pos z, (hA z).2.1]
      by_cases y : M 40 0 (468 + k) = t
      · obtain ⟨X1, M1, e1, e2, e3⟩ := d_wake hk h he z
        simp only [if_pos y, e1, e2, Option.bind_some]
        obtain ⟨X', M', f1, f1', r1, r2, r3⟩ := ih (k + 1) X1 M1 f f' (by omega) (by omega) (by omega) e3.1 e3.2.1 (e3.2.2.2.2.trans ht)
        exact ⟨X', M', f1, f1', r1, r2, stp_t e3 r3⟩
      · simp only [if_neg y]
        exact ih (k + 1) X M f f' (by omega) (by omega) (by omega) h he ht
    · simp only [if_neg z]
      exact ih (k + 1) X M f f' (by omega) (by omega) (by omega) h he ht
