/-! the tick: traps, the next place -/
theorem p_gone {m a q : Nat} {v : Int32} {X M M' : SM} (ha : a < 6) (hq : q < 24) (h : rR m X M) (hM : ∀ j, j ≠ 144 + 24 * a + q → j ≠ 288 + 24 * a + q → M' 40 0 j = M 40 0 j) (hK : ∀ k j, k ≠ 40 → M' k 0 j = M k 0 j) (hz : (v = 0 ∧ M' 40 0 (144 + 24 * a + q) = 0 ∧ M' 40 0 (288 + 24 * a + q) = 0) ∨ (∃ g x, 0 < g ∧ g ≤ x ∧ x < 8 ∧ nI q < M 43 0 a ∧ v = nI g ∧ M 42 0 (4 * (24 * a + q) + 1) = nI x ∧ M' 40 0 (144 + 24 * a + q) = nI (x - g) ∧ M' 40 0 (288 + 24 * a + q) = 1)) : rR m (u1 X 33 (6 * m + a) q v) M' := by
  refine ⟨rA_c (X := X) (M := M) (fun t r ht hr => u1_k (by omega)) (fun j hj => hM _ (by omega) (by omega)) (rR_rA h), rB_c (X := X) (M := M) (fun t r ht hr => u1_k (by omega)) (fun j h1 h2 => hM _ (by omega) (by omega)) (rR_rB h), rW_c (X := X) (M := M) (fun t r ht hr => u1_k (by omega)) (fun j h1 h2 => hM _ (by omega) (by omega)) (rR_rW h), rL_c (X := X) (M := M) (fun t ht => u1_k (by omega)) (fun j h1 h2 => hM _ (by omega) (by omega)) (rR_rL h), rP_c (X := X) (M := M) (fun t ht => u1_k (by omega)) (fun j h1 h2 => hM _ (by omega) (by omega)) (rR_rP h), rK_c (X := X) (M := M) (fun t ht => u1_k (by omega)) (fun j h1 => hK _ _ (by decide)) (rR_rK h), rN_c (X := X) (M := M) (fun j hj => u1_k (by omega)) (fun j h1 h2 => hM _ (by omega) (by omega)) (rR_rN h), rC_c (X := X) (M := M) (fun k t p h1 h2 ht hp => u1_k (by omega)) (fun j => hK _ _ (by decide)) (rR_rC h), rM_c (X := X) (M := M) (fun t ht => u1_k (by omega)) (fun t ht => hK _ _ (by decide)) (rR_rM h), rO_c (X := X) (M := M) (fun t ht => u1_k (by omega)) (fun t ht => hK _ _ (by decide)) (rR_rO h), rH_c (X := X) (M := M) (fun t ht => u1_k (by omega)) (fun t ht => hK _ _ (by decide)) (rR_rH h), rU_c (X := X) (M := M) (fun t ht => u1_k (by omega)) (rR_rU h), rQ_c (X := X) (M := M) (fun c k hc hk => u1_k (by omega)) (fun c hc => u1_k (by omega)) (fun j h1 h2 => hM _ (by omega) (by omega)) (fun t ht _ => hM _ (by omega) (by omega)) (rR_rQ h), rS_c (X := X) (M := M) (fun j hj => u1_k (by omega)) (fun j h1 h2 => hM _ (by omega) (by omega)) (fun j h1 h2 => hM _ (by omega) (by omega)) (rR_rS h), fun t p ht hp => ?_, rE_c (X := X) (M := M) (fun t j ht hj => u1_k (by omega)) (fun t ht => ⟨hM _ (by omega) (by omega), hM _ (by omega) (by omega), hM _ (by omega) (by omega), hM _ (by omega) (by omega)⟩) (fun j => hK _ _ (by decide)) (fun t ht => hK _ _ (by decide)) (rR_rE h), iC_c (M := M) (fun t ht => hM _ (by omega) (by omega)) (fun j => hK _ _ (by decide)) (fun t ht => hK _ _ (by decide)) (rR_iC h), iT_c (M := M) (fun t ht => hM _ (by omega) (by omega)) (rR_iT h), iL_c (M := M) (hM _ (by omega) (by omega)) (rR_iL h), iO_c (M := M) (fun t ht => hK _ _ (by decide)) (rR_iO h), iK_c (M := M) (fun t ht => hK _ _ (by decide)) (rR_iK h), iE_c (M := M) (hM _ (by omega) (by omega)) (rR_iE h)⟩
  by_cases z : t = a ∧ p = q
  · obtain ⟨rfl, rfl⟩ := z
    rw [u1_self, hK 42 _ (by decide), hK 43 _ (by decide)]
    exact hz
  · rw [u1_ne (by omega), hM _ (by omega) (by omega), hM _ (by omega) (by omega), hK 42 _ (by decide), hK 43 _ (by decide)]
    exact rR_rZ h t p ht hp
theorem claim_loop {m a p : Nat} {X M : SM} (ha : a < 6) (h : rR m X M) (h0 : M 40 0 (438 + a) = 0) : ∀ (d k f f' : Nat), k + d = 6 → d < f → d < f' → ∃ r r', wl_X7_isClaimed_2 f m (nI p) (nI k) X = some r ∧ wl_X12_trapOf_112 f' (nI a) (nI p) (nI k) M = some r' ∧ ((r = 0 ∧ r' = 0) ∨ (r = 1 ∧ r' = 4)) := by
  intro d
  induction d with
  | zero =>
    intro k f f' h1 h2 h3
    obtain ⟨f, rfl⟩ : ∃ q, f = q + 1 := ⟨f - 1, by omega⟩
    obtain ⟨f', rfl⟩ : ∃ q, f' = q + 1 := ⟨f' - 1, by omega⟩
    have : k = 6 := by omega
    subst this
    exact ⟨0, 0, rfl, rfl, Or.inl ⟨rfl, rfl⟩⟩
  | succ d ih =>
    intro k f f' h1 h2 h3
    obtain ⟨f, rfl⟩ : ∃ q, f = q + 1 := ⟨f - 1, by omega⟩
    obtain ⟨f', rfl⟩ : ∃ q, f' = q + 1 := ⟨f' - 1, by omega⟩
    have hk : k < 6 := by omega
    have hnext := ih (k + 1) f f' (by omega) (by omega) (by omega)
    rw [wl_X7_isClaimed_2_s, wl_X12_trapOf_112_s]
    unfold wb_X7_isClaimed_2 wb_X12_trapOf_112
    simp only [if_neg (show ¬ (6 : Int32) ≤ nI k from nI_ge (b := 6) hk (by decide)), if_pos (in6 hk), cl6 hk, g_let_eq, show X 9 (6 * m + k) 9 = M 40 0 (438 + k) from rR_rW h k 1 hk (by omega), nI_1, ix438, ix480, if_pos (in693 (show 438 + k < 693 by omega)), cl693 (show 438 + k < 693 by omega), if_pos (in693 (show 480 + k < 693 by omega)), cl693 (show 480 + k < 693 by omega)]
    by_cases y : k = a
    · subst y
      simp only [if_true, h0, if_neg (show ¬ (0 : Int32) = 1 by decide)]
      exact hnext
    · simp only [if_neg (show ¬ nI k = nI a from fun w => y ((nI_eq (by omega) (by omega)).mp w))]
      by_cases z : M 40 0 (438 + k) = 1
      · obtain ⟨-, h2'⟩ := rR_rE h k hk
        obtain ⟨w, hw, ew, hwn, hA, -, -⟩ := h2' (Or.inl z)
        obtain ⟨k0, -, k11, -⟩ := hA z
        simp only [if_pos z, ew, m_part0 hk hw, m_part1 hk hw, Option.bind_some, k0]
        by_cases x : M 42 0 (4 * (24 * k + w)) = 11
        · simp only [if_pos x, (k11 x).1]
          by_cases v : M 42 0 (4 * (24 * k + w) + 1) = nI p
          · simp only [if_pos v]
            exact ⟨1, 4, rfl, rfl, Or.inr ⟨rfl, rfl⟩⟩
          · simp only [if_neg v]
            exact hnext
        · simp only [if_neg x]
          exact hnext
      · simp only [if_neg z]
        exact hnext
theorem k21 {k : Nat} (h : k ≤ 20) : k = 0 ∨ k = 1 ∨ k = 2 ∨ k = 3 ∨ k = 4 ∨ k = 5 ∨ k = 6 ∨ k = 7 ∨ k = 8 ∨ k = 9 ∨ k = 10 ∨ k = 11 ∨ k = 12 ∨ k = 13 ∨ k = 14 ∨ k = 15 ∨ k = 16 ∨ k = 17 ∨ k = 18 ∨ k = 19 ∨ k = 20 := by omega
/-- what an instruction that touches a cell finds -/
def okc (M : SM) (a : Nat) (y : Int32) : Prop := ∃ n c b, b < 8 ∧ y = nI b ∧ n ≤ 16 ∧ M 44 0 a = nI n ∧ c < n ∧ M 40 0 (8 * a + b) = nI c
theorem xt_5 {m i k : Nat} {x y : Int32} {X : SM} (hk : k = 5 ∨ k = 6) : fn_X7_trapOf m i (nI k) x y X = if X 9 i 6 = -1 then some 1 else (fn_X9_read i y X).bind fun r => if fn_X9_hasCell i r X = 0 then some 2 else some 0 := by
  rcases hk with rfl | rfl <;> rfl
theorem mt_5 {a k : Nat} {x y : Int32} {M : SM} (hk : k = 5 ∨ k = 6) (ha : a < 6) : fn_X12_trapOf (nI a) (nI k) x y M = if 0 ≤ M 44 0 a then (fn_X12_reg (nI a) y M).bind fun r => if fn_X12_within r 0 (M 44 0 a - 1) = 0 then some 2 else some 0 else some 1 := by
  have e : fn_X12_trapOf (nI a) (nI k) x y M = if g_in (nI a) 6 then if 0 ≤ M 44 0 ((nI a).toNatClampNeg) then (fn_X12_reg (nI a) y M).bind fun r => if g_in (nI a) 6 then (if fn_X12_within r 0 (M 44 0 ((nI a).toNatClampNeg) - 1) = 0 then some 2 else some 0) else none else some 1 else none := by
    rcases hk with rfl | rfl <;> rfl
  rw [e]
  simp only [if_pos (in6 ha), cl6 ha]
theorem d_trap {m a k : Nat} {x y z q : Int32} {X M : SM} (ha : a < 6) (h : rR m X M) (h0 : M 40 0 (438 + a) = 0) (hk : k ≤ 20) (hc : fn_X12_canTell (nI k) x y z q = some 1) : ∃ r, fn_X7_trapOf m (6 * m + a) (nI k) x y X = some r ∧ fn_X12_trapOf (nI a) (nI k) x y M = some r ∧ ((r = 0 ∧ (k = 5 ∨ k = 6 → okc M a y)) ∨ r = 1 ∨ r = 2 ∨ r = 3 ∨ r = 4) := by
  have cells : k = 5 ∨ k = 6 → ∃ r, fn_X7_trapOf m (6 * m + a) (nI k) x y X = some r ∧ fn_X12_trapOf (nI a) (nI k) x y M = some r ∧ ((r = 0 ∧ (k = 5 ∨ k = 6 → okc M a y)) ∨ r = 1 ∨ r = 2 ∨ r = 3 ∨ r = 4) := by
    intro hk'
    obtain ⟨a', b, -, hb, -, eb⟩ := ct_2 (by omega) hc
    rw [xt_5 hk', mt_5 hk' ha, eb, x_read hb, m_reg ha hb, rR_rA h a b ha hb, rR_rO h a ha]
    rcases rR_iO h a ha with e | ⟨n, hn, e⟩
    · rw [e]
      exact ⟨1, rfl, rfl, Or.inr (Or.inl rfl)⟩
    · rw [e, if_neg (show ¬ nI n = -1 from fun w => nI_pos (show n < 2 ^ 31 by omega) (by rw [w]; decide)), if_pos (nI_pos' (show n < 2 ^ 31 by omega))]
      simp only [Option.bind_some]
      have e6 := (rR_rO h a ha).trans e
      rcases nI_cases (M 40 0 (8 * a + b)) n (by omega) with ⟨c, hc', ec⟩ | ho
      · rw [ec, x_cellin hn e6 hc', m_in (by omega) hc']
        exact ⟨0, rfl, rfl, Or.inl ⟨rfl, fun _ => ⟨n, c, b, hb, rfl, hn, e, hc', ec⟩⟩⟩
      · rw [x_cellout e6 ho, m_cellout (by omega) ho]
        exact ⟨2, rfl, rfl, Or.inr (Or.inr (Or.inl rfl))⟩
  have xk : ∀ p, p < 8 → fn_X8_kindOf m (nI p) X = some (M 46 0 p) := fun p hp => by rw [x_kind hp, rR_rK h p hp]
  have pins : ∀ (p : Nat) (v : Int32) (s : Int32), p < 8 → x = nI p → k ≠ 5 ∧ k ≠ 6 → fn_X7_trapOf m (6 * m + a) (nI k) x y X = (fn_X8_kindOf m x X).bind (fun r => if r = v then some s else some 3) → fn_X12_trapOf (nI a) (nI k) x y M = (if g_in x 8 then (if M 46 0 (x.toNatClampNeg) = v then some s else some 3) else none) → s = 0 ∨ s = 4 → ∃ r, fn_X7_trapOf m (6 * m + a) (nI k) x y X = some r ∧ fn_X12_trapOf (nI a) (nI k) x y M = some r ∧ ((r = 0 ∧ (k = 5 ∨ k = 6 → okc M a y)) ∨ r = 1 ∨ r = 2 ∨ r = 3 ∨ r = 4) := by
    intro p v s hp ex hne e1 e2 hs
    rw [e1, e2, ex, xk p hp, if_pos (g_inI hp (by decide)), nI_clamp (by omega)]
    simp only [Option.bind_some]
    by_cases y : M 46 0 p = v
    · rw [if_pos y]
      exact ⟨s, rfl, rfl, hs.elim (fun w => Or.inl ⟨w, fun w' => absurd w' (by omega)⟩) (fun w => Or.inr (Or.inr (Or.inr (Or.inr w))))⟩
    · rw [if_neg y]
      exact ⟨3, rfl, rfl, Or.inr (Or.inr (Or.inr (Or.inl rfl)))⟩
  have none' : k ≠ 5 ∧ k ≠ 6 → fn_X7_trapOf m (6 * m + a) (nI k) x y X = some 0 → fn_X12_trapOf (nI a) (nI k) x y M = some 0 → ∃ r, fn_X7_trapOf m (6 * m + a) (nI k) x y X = some r ∧ fn_X12_trapOf (nI a) (nI k) x y M = some r ∧ ((r = 0 ∧ (k = 5 ∨ k = 6 → okc M a y)) ∨ r = 1 ∨ r = 2 ∨ r = 3 ∨ r = 4) := fun hne e1 e2 => ⟨0, e1, e2, Or.inl ⟨rfl, fun w => absurd w (by omega)⟩⟩
  rcases k21 hk with rfl | rfl | rfl | rfl | rfl | rfl | rfl | rfl | rfl | rfl | rfl | rfl | rfl | rfl | rfl | rfl | rfl | rfl | rfl | rfl | rfl
  · exact none' (by decide) rfl rfl
  · exact none' (by decide) rfl rfl
  · exact none' (by decide) rfl rfl
  · exact none' (by decide) rfl rfl
  · exact none' (by decide) rfl rfl
  · exact cells (by decide)
  · exact cells (by decide)
  · exact none' (by decide) rfl rfl
  · exact none' (by decide) rfl rfl
  · exact none' (by decide) rfl rfl
  · obtain ⟨p, b, hp, -, ep, -⟩ := ct_2 (by omega) hc
    exact pins p 1 0 hp ep (by decide) rfl rfl (Or.inl rfl)
  · obtain ⟨p, b, c, hp, -, -, ep, -, -⟩ := ct_3 (by omega) hc
    obtain ⟨r, r', g1, g2, g3⟩ := claim_loop (p := p) ha h h0 6 0 1000 1000 (by omega) (by omega) (by omega)
    have e1 : fn_X7_trapOf m (6 * m + a) (nI 11) x y X = (fn_X8_kindOf m x X).bind (fun s => if s = 1 then (fn_X7_isClaimed m x X).bind (fun r => if r = 0 then some 0 else some 4) else some 3) := rfl
    have e2 : fn_X12_trapOf (nI a) (nI 11) x y M = (if g_in x 8 then (if M 46 0 (x.toNatClampNeg) = 1 then wl_X12_trapOf_112 1000 (nI a) x 0 M else some 3) else none) := rfl
    have g1' : fn_X7_isClaimed m x X = some r := by rw [ep]; exact g1
    have g2' : wl_X12_trapOf_112 1000 (nI a) x 0 M = some r' := by rw [ep]; exact g2
    rw [g1'] at e1
    rw [g2'] at e2
    rcases g3 with ⟨rfl, rfl⟩ | ⟨rfl, rfl⟩
    · exact pins p 1 0 hp ep (by decide) e1 e2 (Or.inl rfl)
    · exact pins p 1 4 hp ep (by decide) e1 e2 (Or.inr rfl)
  · obtain ⟨p, b, hp, -, ep, -⟩ := ct_2 (by omega) hc
    exact pins p 0 0 hp ep (by decide) rfl rfl (Or.inl rfl)
  · obtain ⟨p, b, c, hp, -, -, ep, -, -⟩ := ct_3 (by omega) hc
    exact pins p 0 0 hp ep (by decide) rfl rfl (Or.inl rfl)
  · exact none' (by decide) rfl rfl
  · exact none' (by decide) rfl rfl
  · exact none' (by decide) rfl rfl
  · exact none' (by decide) rfl rfl
  · exact none' (by decide) rfl rfl
  · exact none' (by decide) rfl rfl
  · exact none' (by decide) rfl rfl
