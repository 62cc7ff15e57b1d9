/-! the relation at the start -/
theorem c_beg_at (j : Nat) : c_beg j = if (468 ≤ j ∧ j < 474) ∨ j = 684 then -1 else 0 := by
  show (if j = 684 then (-1 : Int32) else if j = 473 then -1 else if j = 472 then -1 else if j = 471 then -1 else if j = 470 then -1 else if j = 469 then -1 else if j = 468 then -1 else 0) = _
  by_cases h : (468 ≤ j ∧ j < 474) ∨ j = 684
  · rw [if_pos h]
    repeat' split
    all_goals first | rfl | omega
  · rw [if_neg h]
    repeat' split
    all_goals first | rfl | omega
theorem M00_0 {j : Nat} (h : ¬ ((468 ≤ j ∧ j < 474) ∨ j = 684)) : M00 40 0 j = 0 := (c_beg_at j).trans (if_neg h)
theorem M00_1 {j : Nat} (h : (468 ≤ j ∧ j < 474) ∨ j = 684) : M00 40 0 j = -1 := (c_beg_at j).trans (if_pos h)
theorem n_all6 {P : Nat → Prop} (h0 : P 0) (h1 : P 1) (h2 : P 2) (h3 : P 3) (h4 : P 4) (h5 : P 5) : ∀ t, t < 6 → P t := by
  intro t ht
  match t, ht with
  | 0, _ => exact h0
  | 1, _ => exact h1
  | 2, _ => exact h2
  | 3, _ => exact h3
  | 4, _ => exact h4
  | 5, _ => exact h5
theorem n_all8 {P : Nat → Prop} (h0 : P 0) (h1 : P 1) (h2 : P 2) (h3 : P 3) (h4 : P 4) (h5 : P 5) (h6 : P 6) (h7 : P 7) : ∀ t, t < 8 → P t := by
  intro t ht
  match t, ht with
  | 0, _ => exact h0
  | 1, _ => exact h1
  | 2, _ => exact h2
  | 3, _ => exact h3
  | 4, _ => exact h4
  | 5, _ => exact h5
  | 6, _ => exact h6
  | 7, _ => exact h7
theorem i0_W : rW 0 X00 M00 := by
  intro t q ht hq
  rw [M00_0 (by omega)]
  revert q
  revert t
  exact n_all6 (n_all6 rfl rfl rfl rfl rfl rfl) (n_all6 rfl rfl rfl rfl rfl rfl) (n_all6 rfl rfl rfl rfl rfl rfl) (n_all6 rfl rfl rfl rfl rfl rfl) (n_all6 rfl rfl rfl rfl rfl rfl) (n_all6 rfl rfl rfl rfl rfl rfl)
theorem i0_Q : rQ 0 X00 M00 := by
  exact ⟨fun _ => 0, fun c hc => ⟨rfl, M00_0 (by omega), Nat.zero_le _⟩, fun c k _ hk => absurd hk (Nat.not_lt_zero _), fun c k d l _ _ hk => absurd hk (Nat.not_lt_zero _)⟩
theorem i0_S : rS 0 X00 M00 := by
  have e : ∀ o, o = 456 ∨ o = 450 ∨ o = 474 → s6 M00 o = 0 := by
    intro o ho
    unfold s6
    rw [M00_0 (by omega), M00_0 (by omega), M00_0 (by omega), M00_0 (by omega), M00_0 (by omega), M00_0 (by omega)]
    rfl
  exact ⟨(e 456 (by omega)).symm, (e 450 (by omega)).symm, (e 474 (by omega)).symm⟩
theorem i0_E : rE 0 X00 M00 := by
  intro t ht
  refine ⟨fun _ => M00_1 (by omega), fun q => ?_⟩
  rw [M00_0 (by omega)] at q
  exact absurd q (by decide)
theorem i0_R : rR 0 X00 M00 := by
  refine ⟨fun t r ht hr => (M00_0 (by omega)).symm, fun t c ht hc => (M00_0 (by omega)).symm, i0_W, fun t ht => ?_, fun p hp => (M00_0 (by omega)).symm, fun p hp => ?_, ⟨(M00_0 (by omega)).symm, (M00_0 (by omega)).symm, (M00_1 (by omega)).symm, (M00_0 (by omega)).symm⟩, fun t p _ _ => ⟨rfl, rfl, rfl, rfl⟩, fun t _ => rfl, ?_, ?_, ?_, i0_Q, i0_S, fun t p ht hp => Or.inl ⟨rfl, M00_0 (by omega), M00_0 (by omega)⟩, i0_E, fun t ht => ⟨0, by omega, rfl, fun p hp => absurd hp (by omega), 0, M00_0 (by omega), Or.inl rfl⟩, fun t ht => ⟨0, by omega, M00_0 (by omega)⟩, Or.inl (M00_1 (by omega)), ?_, ?_, ⟨0, by omega, M00_0 (by omega)⟩⟩
  · rw [M00_0 (by omega)]
    revert t
    exact n_all6 rfl rfl rfl rfl rfl rfl
  · revert p
    exact n_all8 rfl rfl rfl rfl rfl rfl rfl rfl
  · exact n_all6 rfl rfl rfl rfl rfl rfl
  · exact n_all6 (Or.inr ⟨rfl, rfl⟩) (Or.inr ⟨rfl, rfl⟩) (Or.inr ⟨rfl, rfl⟩) (Or.inr ⟨rfl, rfl⟩) (Or.inr ⟨rfl, rfl⟩) (Or.inr ⟨rfl, rfl⟩)
  · exact n_all6 rfl rfl rfl rfl rfl rfl
  · exact n_all6 (Or.inl rfl) (Or.inl rfl) (Or.inl rfl) (Or.inl rfl) (Or.inl rfl) (Or.inl rfl)
  · exact n_all8 (Or.inr (Or.inr rfl)) (Or.inr (Or.inr rfl)) (Or.inr (Or.inr rfl)) (Or.inr (Or.inr rfl)) (Or.inr (Or.inr rfl)) (Or.inr (Or.inr rfl)) (Or.inr (Or.inr rfl)) (Or.inr (Or.inr rfl))
theorem i0_J : rJ 0 X00 M00 := by
  refine ⟨i0_R, ⟨0, by omega, rfl, rfl, fun i hi => absurd hi (by omega)⟩, ⟨1, by omega, by omega, rfl, rfl, fun s hs => ?_⟩, fun t ht => ⟨rfl, rfl, 0, by omega, rfl⟩, ⟨0, 0, by omega, by omega, rfl, rfl, M00_0 (by omega), fun i w hi => absurd hi (by omega)⟩, ⟨⟨0, 0, by omega, by omega, rfl, rfl⟩, ?_⟩, ⟨0, by omega, M00_0 (by omega)⟩⟩
  · have : s = 0 := by omega
    subst this
    exact ⟨rfl, Or.inl rfl⟩
  · exact n_all6 rfl rfl rfl rfl rfl rfl
