/-! edge, channel, code -/
theorem ni_sub {a b : Nat} (h : a ≤ b) : nI b - nI a = nI (b - a) := by
  have e := nI_add (b - a) a
  rw [Nat.sub_add_cancel h] at e
  rw [← e]
  exact Int32.add_sub_cancel _ _
theorem ni_neg {a b : Nat} (h : a < b) (hb : b < 2 ^ 30) : nI a - nI b < 0 := by
  rw [Int32.lt_iff_toInt_lt, Int32.toInt_sub, nI_toInt (by omega), nI_toInt (by omega)]
  show Int.bmod _ _ < 0
  unfold Int.bmod
  simp only []
  split <;> omega
theorem ni_shift (a b : Int32) : a - 1 - b + 40 = a + 39 - b := by grind
theorem m_in {n s : Nat} (hn : n < 2 ^ 31) (hs : s < n) : fn_X12_within (nI s) 0 (nI n - 1) = 1 := by
  obtain ⟨k, rfl⟩ : ∃ k, n = k + 1 := ⟨n - 1, by omega⟩
  rw [nI_pred]
  exact within_in (lo := 0) (Nat.zero_le _) (by omega) (by omega)
theorem x_look {X : SM} {n k i w : Nat} (hn : n < 40) (hk : k ≤ 40) (e1 : X 3 0 1 = nI n) (e2 : X 3 0 2 = nI k) (hi : i < k) (hw : w < 4) : fn_X3_look 0 (nI i) (nI w) X = some (X 21 0 (4 * ((n + 39 - i) % 40) + w)) := by
  unfold fn_X3_look
  simp only [g_let_eq, e1, e2, if_neg (nI_pos (show i < 2 ^ 31 by omega)), if_neg (nI_ge hi (show k < 2 ^ 31 by omega)), if_neg (nI_pos (show w < 2 ^ 31 by omega)), if_pos (show nI w ≤ 3 from nI_le (b := 3) (by omega) (by decide))]
  by_cases q : i < n
  · have e : nI n - 1 - nI i = nI (n - 1 - i) := by rw [show nI n - 1 = nI (n - 1) from ni_sub (a := 1) (by omega), ni_sub (by omega)]
    have e' : 4 * nI (n - 1 - i) + nI w = nI (4 * ((n + 39 - i) % 40) + w) := by
      rw [show (4 : Int32) * nI (n - 1 - i) = nI (4 * (n - 1 - i)) from ni_mul 4 _, nI_add]
      congr 2
      omega
    simp only [e, if_pos (nI_pos' (show n - 1 - i < 2 ^ 31 by omega)), e', if_neg (nI_pos (show 4 * ((n + 39 - i) % 40) + w < 2 ^ 31 by omega)), if_neg (show ¬ (160 : Int32) ≤ nI (4 * ((n + 39 - i) % 40) + w) from nI_ge (b := 160) (by omega) (by decide)), if_pos (g_inI (show 4 * ((n + 39 - i) % 40) + w < 160 by omega) (by decide)), nI_clamp (show 4 * ((n + 39 - i) % 40) + w < 2 ^ 31 by omega)]
  · have hneg : nI n - 1 - nI i < 0 := by
      have e : nI n - 1 - nI i = nI n - nI (i + 1) := by rw [nI_succ]; grind
      rw [e]
      exact ni_neg (by omega) (by omega)
    have e : nI n - 1 - nI i + 40 = nI (n + 39 - i) := by rw [ni_shift, show nI n + 39 = nI (n + 39) from nI_add n 39, ni_sub (by omega)]
    have e' : 4 * nI (n + 39 - i) + nI w = nI (4 * ((n + 39 - i) % 40) + w) := by
      rw [show (4 : Int32) * nI (n + 39 - i) = nI (4 * (n + 39 - i)) from ni_mul 4 _, nI_add]
      congr 2
      omega
    simp only [if_neg (show ¬ 0 ≤ nI n - 1 - nI i from Int32.not_le.mpr hneg), e, e', if_neg (nI_pos (show 4 * ((n + 39 - i) % 40) + w < 2 ^ 31 by omega)), if_neg (show ¬ (160 : Int32) ≤ nI (4 * ((n + 39 - i) % 40) + w) from nI_ge (b := 160) (by omega) (by decide)), if_pos (g_inI (show 4 * ((n + 39 - i) % 40) + w < 160 by omega) (by decide)), nI_clamp (show 4 * ((n + 39 - i) % 40) + w < 2 ^ 31 by omega)]
theorem c_edge {b : Nat} {X M : SM} (x1 x2 : Int32) (h : rJ b X M) : ∃ r M', fn_X11_edge x1 x2 X = some r ∧ fn_X12_edge x1 x2 M = some (r, M') ∧ rJ b X M' := by
  unfold fn_X11_edge fn_X12_edge
  simp only [g_let_eq]
  obtain ⟨n, k, hn, hk, e1, e2, e3, e4⟩ := h.2.2.2.2.1
  rw [show u1 M 39 0 15 0 40 0 682 = nI k from e3]
  rcases nI_cases x1 k (by omega) with ⟨i, hi, rfl⟩ | ho
  · rw [m_in (by omega) hi, if_neg one0]
    by_cases h1 : x2 < 0
    · rw [within_no1 h1]
      unfold fn_X3_look
      rw [e2, if_neg (nI_pos (by omega)), if_neg (nI_ge hi (by omega)), if_pos h1]
      exact ⟨_, _, rfl, rfl, rJ_thr h⟩
    · by_cases h2 : x2 ≤ 3
      · obtain ⟨w, hw, rfl⟩ := nI_of2 (M := 3) (n := 3) (by decide) h1 h2
        rw [within_yes h1 h2, if_neg one0, x_look hn hk e1 e2 hi (by omega), ix522, if_pos (in693 (by omega)), cl693 (by omega)]
        exact ⟨_, _, rfl, congrArg (fun q => some (q, _)) (e4 i w hi (by omega)).symm, rJ_thr h⟩
      · rw [within_no2 h1 h2]
        unfold fn_X3_look
        rw [e2, if_neg (nI_pos (by omega)), if_neg (nI_ge hi (by omega)), if_neg h1, if_neg h2]
        exact ⟨_, _, rfl, rfl, rJ_thr h⟩
  · rw [m_cellout (by omega) ho]
    unfold fn_X3_look
    rcases ho with ho | ⟨h0, ho⟩
    · rw [if_pos ho]
      exact ⟨_, _, rfl, rfl, rJ_thr h⟩
    · rw [if_neg h0, e2, if_pos ho]
      exact ⟨_, _, rfl, rfl, rJ_thr h⟩
theorem x0_first0 {m c : Nat} {X : SM} (hc : c < 4) (e : X 15 m c = nI 0) : fn_X0_firstAt m (nI c) X = some (-1) := by
  unfold fn_X0_firstAt
  simp only [if_neg (nI_pos (show c < 2 ^ 31 by omega)), if_neg (show ¬ (4 : Int32) ≤ nI c from nI_ge (b := 4) hc (by decide)), if_pos (g_inI hc (by decide)), nI_clamp (show c < 2 ^ 31 by omega), e]
  rfl
theorem x0_first1 {m c n : Nat} {X : SM} (hc : c < 4) (h1 : 0 < n) (hn : n ≤ 6) (e : X 15 m c = nI n) : fn_X0_firstAt m (nI c) X = some (X 14 (4 * m + c) 0) := by
  unfold fn_X0_firstAt
  simp only [if_neg (nI_pos (show c < 2 ^ 31 by omega)), if_neg (show ¬ (4 : Int32) ≤ nI c from nI_ge (b := 4) hc (by decide)), if_pos (g_inI hc (by decide)), nI_clamp (show c < 2 ^ 31 by omega), e, if_pos (show (1 : Int32) ≤ nI n from nI_le (a := 1) h1 (by omega))]
theorem x7_first0 {m c : Nat} {s : Int32} {X : SM} (hc : c < 4) (e : X 15 m c = nI 0) : fn_X7_firstAt m (nI c) s X = some none := by
  unfold fn_X7_firstAt
  rw [x0_first0 hc e]
  rfl
theorem x7_first1 {m c n t : Nat} {s : Int32} {X : SM} (hc : c < 4) (h1 : 0 < n) (hn : n ≤ 6) (e : X 15 m c = nI n) (ht : t < 6) (e2 : X 14 (4 * m + c) 0 = nI t) : fn_X7_firstAt m (nI c) s X = some (if X 9 (6 * m + t) 9 = s then some (6 * m + t) else none) := by
  unfold fn_X7_firstAt
  rw [x0_first1 hc h1 hn e, e2]
  simp only [Option.bind_some, g_let_eq, isThread_in ht, if_neg one0, if_pos (in6 ht), cl6 ht]
  split <;> rfl
theorem x0_length {m c : Nat} {X : SM} (hc : c < 4) : fn_X0_lengthAt m (nI c) X = some (X 15 m c) := by
  unfold fn_X0_lengthAt
  rw [if_neg (nI_pos (by omega)), if_neg (show ¬ (4 : Int32) ≤ nI c from nI_ge (b := 4) hc (by decide)), if_pos (g_inI hc (by decide)), nI_clamp (by omega)]
theorem c_channel {b : Nat} {X M : SM} (x1 x2 : Int32) (h : rJ b X M) : ∃ r M', fn_X11_channel x1 x2 X = some r ∧ fn_X12_channel x1 x2 M = some (r, M') ∧ rJ b X M' := by
  unfold fn_X11_channel fn_X12_channel wb_X12_channel_57
  simp only [g_let_eq]
  rcases nI_cases x1 4 (by decide) with ⟨c, hc, rfl⟩ | ho
  · obtain ⟨len, ha, hb, -⟩ := rR_rQ h.1
    obtain ⟨q1, q2, q3⟩ := ha c hc
    simp only [if_neg (nI_pos (show c < 2 ^ 31 by omega)), if_pos (show nI c < 4 from nI_lt (b := 4) hc (by decide)), show fn_X12_within (nI c) 0 3 = 1 from within_in (lo := 0) (hi := 3) (by omega) (by omega) (by decide), if_neg one0, ix518, if_pos (in693 (show 518 + c < 693 by omega)), cl693 (show 518 + c < 693 by omega), show u1 M 39 0 15 0 40 0 (518 + c) = nI (len c) from q2, ix494, if_pos (in693 (show 494 + 6 * c < 693 by omega)), cl693 (show 494 + 6 * c < 693 by omega)]
    have e2 : ¬ x2 = 0 → ¬ x2 = 1 → ¬ x2 = 2 → fn_X12_within x2 0 2 = 0 := by
      intro k0 k1 k2
      rcases nI_cases x2 3 (by decide) with ⟨d, hd, rfl⟩ | ho
      · have : d = 0 ∨ d = 1 ∨ d = 2 := by omega
        rcases this with rfl | rfl | rfl
        · exact absurd rfl k0
        · exact absurd rfl k1
        · exact absurd rfl k2
      · exact within_out (n := 2) (by decide) ho
    by_cases hz : len c = 0
    · rw [hz] at q1 q2 ⊢
      simp only [if_pos (show nI 0 ≤ 0 by decide)]
      unfold fn_X7_howManyAt
      rw [x7_first0 hc q1, x7_first0 hc q1, x0_first0 hc q1]
      by_cases k0 : x2 = 0
      · subst k0
        exact ⟨_, _, rfl, rfl, rJ_thr h⟩
      · by_cases k1 : x2 = 1
        · subst k1
          exact ⟨_, _, rfl, rfl, rJ_thr h⟩
        · by_cases k2 : x2 = 2
          · subst k2
            exact ⟨_, _, rfl, rfl, rJ_thr h⟩
          · rw [if_neg k0, if_neg k1, if_neg k2, e2 k0 k1 k2]
            exact ⟨_, _, rfl, rfl, rJ_thr h⟩
    · obtain ⟨g1, t, ht, g2, -⟩ := hb c 0 hc (by omega)
      have g3 : X 14 (4 * 0 + c) 0 = nI t := g1.trans g2
      have hs : X 9 (6 * 0 + t) 9 = M 40 0 (438 + t) := rR_rW h.1 t 1 ht (by omega)
      unfold fn_X7_howManyAt
      rw [x7_first1 hc (by omega) q3 q1 ht g3, x7_first1 hc (by omega) q3 q1 ht g3, x0_first1 hc (by omega) q3 q1, hs, x0_length hc, q1, g3]
      simp only [if_neg (nI_nle (show 0 < len c by omega) (show len c < 2 ^ 31 by omega)), show u1 M 39 0 15 0 40 0 (494 + 6 * c) = nI t from g2, if_neg (nI_pos (show t < 2 ^ 31 by omega)), ix438, if_pos (in693 (show 438 + t < 693 by omega)), cl693 (show 438 + t < 693 by omega), show u1 M 39 0 15 0 40 0 (438 + t) = M 40 0 (438 + t) from rfl, Option.bind_some]
      by_cases k0 : x2 = 0
      · subst k0
        by_cases z : M 40 0 (438 + t) = 2
        · simp only [z, if_true, if_pos (show 6 * 0 + t < 12 by omega)]
          exact ⟨_, _, rfl, rfl, rJ_thr h⟩
        · simp only [z, if_false, if_true]
          exact ⟨_, _, rfl, rfl, rJ_thr h⟩
      · by_cases k1 : x2 = 1
        · subst k1
          by_cases z : M 40 0 (438 + t) = 3
          · simp only [z, if_true, if_pos (show 6 * 0 + t < 12 by omega)]
            exact ⟨_, _, rfl, rfl, rJ_thr h⟩
          · simp only [z, if_false, if_true]
            exact ⟨_, _, rfl, rfl, rJ_thr h⟩
        · by_cases k2 : x2 = 2
          · subst k2
            exact ⟨_, _, rfl, rfl, rJ_thr h⟩
          · rw [if_neg k0, if_neg k1, if_neg k2, e2 k0 k1 k2]
            exact ⟨_, _, rfl, rfl, rJ_thr h⟩
  · rw [show fn_X12_within x1 0 3 = 0 from within_out (n := 3) (by decide) ho]
    rcases ho with ho | ⟨h0, ho⟩
    · rw [if_pos ho]
      exact ⟨_, _, rfl, rfl, rJ_thr h⟩
    · rw [if_neg h0, if_neg (show ¬ x1 < 4 from Int32.not_lt.mpr ho)]
      exact ⟨_, _, rfl, rfl, rJ_thr h⟩
