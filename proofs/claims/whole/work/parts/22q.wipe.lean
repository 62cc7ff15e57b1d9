/-! wipe keeps the relation -/
theorem xe_o {i : Nat} {X : SM} {k' i' j' : Nat} (h : ¬ (i' = i ∧ ((k' = 1 ∧ j' = 4) ∨ (k' = 33 ∧ j' < 24) ∨ (k' = 9 ∧ 8 ≤ j' ∧ j' ≤ 10)))) : fn_X9_empty i X k' i' j' = X k' i' j' := by rw [xe_at, if_neg h]
theorem xe_0 {i : Nat} {X : SM} {k' i' j' : Nat} (h : i' = i ∧ ((k' = 1 ∧ j' = 4) ∨ (k' = 33 ∧ j' < 24) ∨ (k' = 9 ∧ 8 ≤ j' ∧ j' ≤ 10))) : fn_X9_empty i X k' i' j' = 0 := by rw [xe_at, if_pos h]
theorem p_empty {m a : Nat} {X M : SM} (ha : a < 6) (h : rR m X M) (hn : ∀ e, e < 4 → nq M a e) : rR m (fn_X9_empty (6 * m + a) X) (mw M a) := by
  refine ⟨rA_c (X := X) (M := M) (fun t r ht hr => xe_o (by omega)) (fun j hj => mw_o (by omega)) (rR_rA h), rB_c (X := X) (M := M) (fun t r ht hr => xe_o (by omega)) (fun j h1 h2 => mw_o (by omega)) (rR_rB h), fun t q ht hq => ?_, rL_c (X := X) (M := M) (fun t ht => xe_o (by omega)) (fun j h1 h2 => mw_o (by omega)) (rR_rL h), rP_c (X := X) (M := M) (fun t ht => xe_o (by omega)) (fun j h1 h2 => mw_o (by omega)) (rR_rP h), rK_c (X := X) (M := M) (fun t ht => xe_o (by omega)) (fun j h1 => mw_k (by decide) (by decide)) (rR_rK h), rN_c (X := X) (M := M) (fun j hj => xe_o (by omega)) (fun j h1 h2 => mw_o (by omega)) (rR_rN h), rC_c (X := X) (M := M) (fun k t p h1 h2 ht hp => xe_o (by omega)) (fun j => mw_k (by decide) (by decide)) (rR_rC h), fun t ht => ?_, rO_c (X := X) (M := M) (fun t ht => xe_o (by omega)) (fun t ht => mw_k (by decide) (by decide)) (rR_rO h), rH_c (X := X) (M := M) (fun t ht => xe_o (by omega)) (fun t ht => mw_k (by decide) (by decide)) (rR_rH h), rU_c (X := X) (M := M) (fun t ht => xe_o (by omega)) (rR_rU h), ?_, rS_c (X := X) (M := M) (fun j hj => xe_o (by omega)) (fun j h1 h2 => mw_o (by omega)) (fun j h1 h2 => mw_o (by omega)) (rR_rS h), fun t p ht hp => ?_, fun t ht => ?_, fun t ht => ?_, fun t ht => ?_, iL_c (M := M) (mw_o (by omega)) (rR_iL h), iO_c (M := M) (fun t ht => mw_k (by decide) (by decide)) (rR_iO h), iK_c (M := M) (fun t ht => mw_k (by decide) (by decide)) (rR_iK h), iE_c (M := M) (mw_o (by omega)) (rR_iE h)⟩
  · by_cases z : t = a ∧ q < 3
    · rw [xe_0 (by omega), mw_0 ha (by omega)]
    · rw [xe_o (by omega), mw_o (by omega)]
      exact rR_rW h t q ht hq
  · by_cases z : t = a
    · subst z
      rw [xe_0 (by omega), mw_43a]
    · rw [xe_o (by omega), mw_43 z]
      exact rR_rM h t ht
  · obtain ⟨len, h1, h2, h3⟩ := rR_rQ h
    refine ⟨len, fun c hc => ?_, fun c k hc hk => ?_, fun c k d l hc hd hk hl => ?_⟩
    · rw [xe_o (by omega), mw_o (by omega)]
      exact h1 c hc
    · have hl := (h1 c hc).2.2
      obtain ⟨e1, t, ht, e2, e3⟩ := h2 c k hc hk
      have z : t ≠ a := fun z => hn c hc (len c) k hl (h1 c hc).2.1 hk (z ▸ e2)
      rw [xe_o (by omega), mw_o (by omega)]
      refine ⟨e1, t, ht, e2, ?_⟩
      rw [mw_o (by omega)]
      exact e3
    · have hl1 := (h1 c hc).2.2
      have hl2 := (h1 d hd).2.2
      rw [mw_o (by omega), mw_o (by omega)]
      exact h3 c k d l hc hd hk hl
  · by_cases z : t = a
    · subst z
      exact Or.inl ⟨xe_0 (by omega), mw_0 ha (by omega), mw_0 ha (by omega)⟩
    · rw [xe_o (by omega), mw_o (by omega), mw_o (by omega), mw_43 z, mw_k (by decide) (by decide)]
      exact rR_rZ h t p ht hp
  · by_cases z : t = a
    · subst z
      refine ⟨fun _ => mw_1 ha, fun q => ?_⟩
      rw [mw_0 ha (by omega)] at q
      exact absurd q (by decide)
    · have k42 : ∀ j, mw M a 42 0 j = M 42 0 j := fun j => mw_k (by decide) (by decide)
      rw [mw_o (j := 438 + t) (by omega), mw_o (j := 468 + t) (by omega), mw_o (j := 480 + t) (by omega), mw_o (j := 687 + t) (by omega), mw_43 z, xe_o (by omega), xe_o (by omega), xe_o (by omega), xe_o (by omega), xe_o (by omega)]
      simp only [k42]
      exact rR_rE h t ht
  · by_cases z : t = a
    · subst z
      exact ⟨0, by omega, mw_43a, fun p hp => absurd hp (Nat.not_lt_zero _), 0, mw_0 ha (by omega), Or.inl rfl⟩
    · have k42 : ∀ j, mw M a 42 0 j = M 42 0 j := fun j => mw_k (by decide) (by decide)
      rw [mw_43 z, mw_o (by omega)]
      simp only [k42]
      exact rR_iC h t ht
  · by_cases z : t = a
    · subst z
      exact ⟨0, by omega, mw_0 ha (by omega)⟩
    · rw [mw_o (by omega)]
      exact rR_iT h t ht
/-- a machine's thread is emptied on both sides -/
theorem p_wipe {m a : Nat} {X M : SM} (ha : a < 6) (h : rR m X M) : ∃ X' M', fn_X7_empty m (nI a) X = some (X 1 (6 * m + a) 4, X') ∧ fn_X12_wipes (nI a) M = some M' ∧ rR m X' M' ∧ (∀ k i j, ¬ (k = 14 ∧ 4 * m ≤ i ∧ i < 4 * m + 4) → ¬ (k = 15 ∧ i = m) → ¬ (i = 6 * m + a ∧ ((k = 1 ∧ j = 4) ∨ (k = 33 ∧ j < 24) ∨ (k = 9 ∧ 8 ≤ j ∧ j ≤ 10))) → X' k i j = X k i j) ∧ (∀ k j, ¬ (k = 40 ∧ j < 522) → ¬ (k = 43 ∧ j = a) → M' k 0 j = M k 0 j) := by
  obtain ⟨X1, M1, e1, e2, e3, e4, e5, e6⟩ := leave_all (t := a) 4 0 X M 1000 1000 (by omega) (by omega) (by omega) h (fun e he => absurd he (Nat.not_lt_zero _))
  refine ⟨fn_X9_empty (6 * m + a) X1, mw M1 a, ?_, ?_, p_empty ha e3 e4, fun k i j q1 q2 q3 => (xe_o q3).trans (e5 k i j q1 q2), fun k j q1 q2 => ?_⟩
  · unfold fn_X7_empty fn_X0_leaveAll
    simp only [g_let_eq, isThread_in ha, if_neg one0, if_pos (in6 ha), cl6 ha]
    rw [show wl_X0_leaveAll_2 1000 m (nI a) 0 X = some X1 from e1]
    rfl
  · unfold fn_X12_wipes fn_X12_leaves
    rw [show wl_X12_leaves_2 1000 (nI a) 0 M = some M1 from e2]
    simp only [Option.bind_some, g_let_eq, ix438, ix444, ix432, ix468, if_pos (in693 (show 438 + a < 693 by omega)), if_pos (in693 (show 444 + a < 693 by omega)), if_pos (in693 (show 432 + a < 693 by omega)), if_pos (in693 (show 468 + a < 693 by omega)), cl693 (show 438 + a < 693 by omega), cl693 (show 444 + a < 693 by omega), cl693 (show 432 + a < 693 by omega), cl693 (show 468 + a < 693 by omega)]
    exact wipe_loop ha 24 0 _ 1000 (by omega) (by omega)
  · by_cases z : k = 40
    · subst z
      exact (mw_o (by omega)).trans (e6 _ _ _ (by omega))
    · by_cases z' : k = 43
      · subst z'
        exact (mw_43 (fun q => q2 ⟨rfl, q⟩)).trans (e6 _ _ _ (by omega))
      · exact (mw_k z z').trans (e6 _ _ _ (by omega))
theorem c_wipe {b : Nat} {X M : SM} (x1 : Int32) (h : rJ b X M) : ∃ r X' M', fn_X11_wipe x1 X = some (r, X') ∧ fn_X12_wipe x1 M = some (r, M') ∧ rJ b X' M' := by
  unfold fn_X11_wipe fn_X12_wipe
  simp only [g_let_eq]
  rcases nI_cases x1 6 (by decide) with ⟨a, ha, rfl⟩ | ho
  · obtain ⟨X', M', e1, e2, e3, e4, e5⟩ := p_wipe ha (rR_39 (j := 15) (v := 0) h.1)
    simp only [isThread_in ha, m_isThread_in ha, Option.bind_some, if_neg one0, if_pos (in6 ha), cl6 ha, e1, e2]
    have m40 : ∀ j, 522 ≤ j → M' 40 0 j = M 40 0 j := fun j hj => e5 40 j (by omega) (by omega)
    have mk : ∀ k j, k ≠ 40 → k ≠ 43 → M' k 0 j = u1 M 39 0 15 0 k 0 j := fun k j h1 h2 => e5 k j (fun q => h1 q.1) (fun q => h2 q.1)
    refine ⟨_, _, _, rfl, congrArg (fun q => some (q, _)) (rR_rM h.1 a ha).symm, ⟨e3, ?_, ?_, ?_, ?_, ?_, ?_⟩⟩
    · obtain ⟨e, h1, h2, h3, h4⟩ := h.2.1
      refine ⟨e, h1, (e4 _ _ _ (by omega) (by omega) (by omega)).trans h2, (mk 39 10 (by decide) (by decide)).trans h3, fun i hi => ?_⟩
      obtain ⟨g1, g2, g3, p, hp, g4⟩ := h4 i hi
      exact ⟨(e4 _ _ _ (by omega) (by omega) (by omega)).trans (g1.trans (mk 47 i (by decide) (by decide)).symm), (e4 _ _ _ (by omega) (by omega) (by omega)).trans (g2.trans (mk 48 i (by decide) (by decide)).symm), (e4 _ _ _ (by omega) (by omega) (by omega)).trans (g3.trans (mk 49 i (by decide) (by decide)).symm), p, hp, (mk 48 i (by decide) (by decide)).trans g4⟩
    · obtain ⟨n, h1, h2, h3, h4, h5⟩ := h.2.2.1
      refine ⟨n, h1, h2, (e4 _ _ _ (by omega) (by omega) (by omega)).trans h3, (mk 39 12 (by decide) (by decide)).trans h4, fun s hs => ?_⟩
      rw [mk 50 s (by decide) (by decide), e4 34 0 s (by omega) (by omega) (by omega)]
      exact h5 s hs
    · intro t ht
      rw [mk 51 t (by decide) (by decide), mk 52 t (by decide) (by decide), e4 35 0 t (by omega) (by omega) (by omega), e4 36 0 t (by omega) (by omega) (by omega)]
      exact h.2.2.2.1 t ht
    · exact gE_c (X := X) (M := M) (fun j => e4 _ _ _ (by omega) (by omega) (by omega)) (fun j => e4 _ _ _ (by omega) (by omega) (by omega)) (fun j h1 h2 => m40 j h1) h.2.2.2.2.1
    · exact gW_c (X := X) (fun j => e4 _ _ _ (by omega) (by omega) (by omega)) (fun t ht => e4 _ _ _ (by omega) (by omega) (by omega)) h.2.2.2.2.2.1
    · obtain ⟨n, hn, e⟩ := h.2.2.2.2.2.2
      exact ⟨n, hn, (m40 683 (by omega)).trans e⟩
  · rw [isThread_out ho, m_isThread_out ho]
    exact ⟨_, _, _, rfl, rfl, rJ_thr h⟩
