/-! start -/
theorem x9r_at {i : Nat} {X : SM} (k' i' j' : Nat) : fn_X9_reset i X k' i' j' = if i' = i ∧ ((k' = 31 ∧ j' < 8) ∨ (k' = 32 ∧ j' < 16) ∨ (k' = 33 ∧ j' < 24) ∨ (k' = 9 ∧ 8 ≤ j' ∧ j' ≤ 14)) then 0 else X k' i' j' := by
  unfold fn_X9_reset fn_X9_rewind
  simp only [g_let_eq, u1_at, uf_at]
  by_cases q : i' = i ∧ ((k' = 31 ∧ j' < 8) ∨ (k' = 32 ∧ j' < 16) ∨ (k' = 33 ∧ j' < 24) ∨ (k' = 9 ∧ 8 ≤ j' ∧ j' ≤ 14))
  · rw [if_pos q]
    repeat' split
    all_goals first | rfl | (exfalso; omega)
  · rw [if_neg q]
    repeat' split
    all_goals first | rfl | (exfalso; omega)
def xr6 (X : SM) : SM := fn_X9_reset 5 (fn_X9_reset 4 (fn_X9_reset 3 (fn_X9_reset 2 (fn_X9_reset 1 (fn_X9_reset 0 X)))))
theorem xr6_at {X : SM} (k' i' j' : Nat) : xr6 X k' i' j' = if i' < 6 ∧ ((k' = 31 ∧ j' < 8) ∨ (k' = 32 ∧ j' < 16) ∨ (k' = 33 ∧ j' < 24) ∨ (k' = 9 ∧ 8 ≤ j' ∧ j' ≤ 14)) then 0 else X k' i' j' := by
  unfold xr6
  simp only [x9r_at]
  by_cases q : (k' = 31 ∧ j' < 8) ∨ (k' = 32 ∧ j' < 16) ∨ (k' = 33 ∧ j' < 24) ∨ (k' = 9 ∧ 8 ≤ j' ∧ j' ≤ 14)
  · simp only [q, and_true]
    by_cases r : i' < 6
    · rw [if_pos r]
      repeat' split
      all_goals first | rfl | (exfalso; omega)
    · rw [if_neg r]
      repeat' split
      all_goals first | rfl | (exfalso; omega)
  · simp only [q, and_false, if_false]
def xrs (X : SM) : SM := u1 (u1 (u1 (u1 (u1 (u1 (u1 (uf (u1 (u1 (uf (xr6 X) 30 0 8 0) 3 0 1 0) 3 0 2 0) 15 0 4 0) 7 0 5 0) 7 0 6 0) 7 0 7 0) 7 0 8 0) 7 0 9 0) 7 0 10 (-1)) 7 0 11 0
theorem xr_step {X : SM} {f k : Nat} (hk : k < 6) : wl_X7_reset_2 (f + 1) 0 (nI k) X = wl_X7_reset_2 f 0 (nI (k + 1)) (fn_X9_reset k X) := by
  rw [wl_X7_reset_2_s]
  unfold wb_X7_reset_2
  simp only [if_neg (show ¬ (6 : Int32) ≤ nI k from nI_ge (b := 6) hk (by decide)), if_pos (in6 hk), cl6 hk, g_let_eq, nI_1, Nat.mul_zero, Nat.zero_add]
theorem xr_end {X : SM} {f : Nat} : wl_X7_reset_2 (f + 1) 0 (nI 6) X = some (u1 (u1 (u1 (u1 (u1 (u1 (u1 (uf (u1 (u1 (uf X 30 0 8 0) 3 0 1 0) 3 0 2 0) 15 0 4 0) 7 0 5 0) 7 0 6 0) 7 0 7 0) 7 0 8 0) 7 0 9 0) 7 0 10 (-1)) 7 0 11 0) := by
  rw [wl_X7_reset_2_s]
  unfold wb_X7_reset_2
  rw [if_pos (show (6 : Int32) ≤ nI 6 by decide)]
  rfl
theorem x_reset {X : SM} : fn_X7_reset 0 X = some (xrs X) := by
  unfold fn_X7_reset
  rw [show wl_X7_reset_2 1000 0 0 X = wl_X7_reset_2 (999 + 1) 0 (nI 0) X from rfl, xr_step (by omega), xr_step (f := 998) (by omega), xr_step (f := 997) (by omega), xr_step (f := 996) (by omega), xr_step (f := 995) (by omega), xr_step (f := 994) (by omega), xr_end (f := 993)]
  rfl
theorem m_zero : ∀ (d k : Nat) (M : SM) (f : Nat), k + d = 693 → d < f → wl_X12_begins_2 f (nI k) M = wl_X12_begins_24 1000 0 (mz M k 693) := by
  intro d
  induction d with
  | zero =>
    intro k M f h1 h2
    obtain ⟨f, rfl⟩ : ∃ q, f = q + 1 := ⟨f - 1, by omega⟩
    have : k = 693 := by omega
    subst this
    rw [wl_X12_begins_2_s, mz_0]
    rfl
  | succ d ih =>
    intro k M f h1 h2
    obtain ⟨f, rfl⟩ : ∃ q, f = q + 1 := ⟨f - 1, by omega⟩
    rw [wl_X12_begins_2_s]
    unfold wb_X12_begins_2
    simp only [if_neg (show ¬ (693 : Int32) ≤ nI k from nI_ge (b := 693) (by omega) (by decide)), if_pos (in693 (show k < 693 by omega)), cl693 (show k < 693 by omega), g_let_eq, nI_1]
    rw [ih (k + 1) _ f (by omega) (by omega), mz_s (by omega)]
def mbs (M : SM) : SM := u1 (u1 (u1 (u1 (u1 (u1 (u1 (mz M 0 693) 40 0 468 (-1)) 40 0 469 (-1)) 40 0 470 (-1)) 40 0 471 (-1)) 40 0 472 (-1)) 40 0 473 (-1)) 40 0 684 (-1)
theorem m_begins {M : SM} : fn_X12_begins M = some (mbs M) := by
  unfold fn_X12_begins
  rw [show wl_X12_begins_2 1000 0 M = _ from m_zero 693 0 M 1000 (by omega) (by omega)]
  rfl
theorem mbs_0 {M : SM} {j : Nat} (hj : j < 693) (h : ¬ ((468 ≤ j ∧ j < 474) ∨ j = 684)) : mbs M 40 0 j = 0 := by
  unfold mbs
  rw [u1_ne (by omega), u1_ne (by omega), u1_ne (by omega), u1_ne (by omega), u1_ne (by omega), u1_ne (by omega), u1_ne (by omega), mz_in (by omega)]
theorem mbs_1 {M : SM} {j : Nat} (h : (468 ≤ j ∧ j < 474) ∨ j = 684) : mbs M 40 0 j = -1 := by
  have : j = 468 ∨ j = 469 ∨ j = 470 ∨ j = 471 ∨ j = 472 ∨ j = 473 ∨ j = 684 := by omega
  rcases this with rfl | rfl | rfl | rfl | rfl | rfl | rfl
  all_goals rfl
theorem mbs_k {M : SM} {k i j : Nat} (h : k ≠ 40) : mbs M k i j = M k i j := by
  unfold mbs
  rw [u1_k h, u1_k h, u1_k h, u1_k h, u1_k h, u1_k h, u1_k h, mz_k h]
theorem xrs_k {X : SM} {k i j : Nat} (h : k ≠ 3 ∧ k ≠ 7 ∧ k ≠ 9 ∧ k ≠ 15 ∧ k ≠ 30 ∧ k ≠ 31 ∧ k ≠ 32 ∧ k ≠ 33) : xrs X k i j = X k i j := by
  unfold xrs
  rw [u1_k (by omega), u1_k (by omega), u1_k (by omega), u1_k (by omega), u1_k (by omega), u1_k (by omega), u1_k (by omega), uf_at, if_neg (by omega), u1_k (by omega), u1_k (by omega), uf_at, if_neg (by omega), xr6_at, if_neg (by omega)]
theorem xrs_r {X : SM} {k i j : Nat} (h : k = 9 ∨ k = 31 ∨ k = 32 ∨ k = 33) : xrs X k i j = xr6 X k i j := by
  unfold xrs
  rw [u1_k (by omega), u1_k (by omega), u1_k (by omega), u1_k (by omega), u1_k (by omega), u1_k (by omega), u1_k (by omega), uf_at, if_neg (by omega), u1_k (by omega), u1_k (by omega), uf_at, if_neg (by omega)]
theorem xrs_0 {X : SM} {k i j : Nat} (h : i < 6 ∧ ((k = 31 ∧ j < 8) ∨ (k = 32 ∧ j < 16) ∨ (k = 33 ∧ j < 24) ∨ (k = 9 ∧ 8 ≤ j ∧ j ≤ 14))) : xrs X k i j = 0 := by
  rw [xrs_r (by omega), xr6_at, if_pos h]
theorem xrs_9 {X : SM} {i j : Nat} (h : j < 8 ∨ 6 ≤ i) : xrs X 9 i j = X 9 i j := by
  rw [xrs_r (by omega), xr6_at, if_neg (by omega)]
theorem xrs_30 {X : SM} {j : Nat} (h : j < 8) : xrs X 30 0 j = 0 := by
  show uf (xr6 X) 30 0 8 0 30 0 j = 0
  rw [uf_at, if_pos ⟨rfl, rfl, h⟩]
theorem xrs_15 {X : SM} {j : Nat} (h : j < 4) : xrs X 15 0 j = 0 := by
  show uf (u1 (u1 (uf (xr6 X) 30 0 8 0) 3 0 1 0) 3 0 2 0) 15 0 4 0 15 0 j = 0
  rw [uf_at, if_pos ⟨rfl, rfl, h⟩]
theorem s_S {X M : SM} : rS 0 (xrs X) (mbs M) := by
  have e : ∀ o, o = 456 ∨ o = 450 ∨ o = 474 → s6 (mbs M) o = 0 := by
    intro o ho
    unfold s6
    rw [mbs_0 (by omega) (by omega), mbs_0 (by omega) (by omega), mbs_0 (by omega) (by omega), mbs_0 (by omega) (by omega), mbs_0 (by omega) (by omega), mbs_0 (by omega) (by omega)]
    rfl
  exact ⟨(show xrs X 7 0 7 = 0 from rfl).trans (e 456 (by omega)).symm, (show xrs X 7 0 8 = 0 from rfl).trans (e 450 (by omega)).symm, (show xrs X 7 0 9 = 0 from rfl).trans (e 474 (by omega)).symm⟩
theorem s_R {X M : SM} (h : rR 0 X M) : rR 0 (xrs X) (mbs M) := by
  refine ⟨fun t r ht hr => (xrs_0 (by omega)).trans (mbs_0 (by omega) (by omega)).symm, fun t c ht hc => (xrs_0 (by omega)).trans (mbs_0 (by omega) (by omega)).symm, fun t q ht hq => (xrs_0 (by omega)).trans (mbs_0 (by omega) (by omega)).symm, fun t ht => (xrs_0 (by omega)).trans (mbs_0 (by omega) (by omega)).symm, fun p hp => (xrs_30 hp).trans (mbs_0 (by omega) (by omega)).symm, fun p hp => (xrs_k (by omega)).trans ((rR_rK h p hp).trans (mbs_k (by omega)).symm), ⟨(show xrs X 7 0 5 = 0 from rfl).trans (mbs_0 (by omega) (by omega)).symm, (show xrs X 7 0 6 = 0 from rfl).trans (mbs_0 (by omega) (by omega)).symm, (show xrs X 7 0 10 = -1 from rfl).trans (mbs_1 (by omega)).symm, (show xrs X 7 0 11 = 0 from rfl).trans (mbs_0 (by omega) (by omega)).symm⟩, rC_c (X := X) (M := M) (fun k t p h1 h2 ht hp => xrs_k (by omega)) (fun j => mbs_k (by omega)) (rR_rC h), rM_c (X := X) (M := M) (fun t ht => xrs_k (by omega)) (fun t ht => mbs_k (by omega)) (rR_rM h), rO_c (X := X) (M := M) (fun t ht => xrs_9 (by omega)) (fun t ht => mbs_k (by omega)) (rR_rO h), rH_c (X := X) (M := M) (fun t ht => xrs_9 (by omega)) (fun t ht => mbs_k (by omega)) (rR_rH h), rU_c (X := X) (M := M) (fun t ht => xrs_9 (by omega)) (rR_rU h), ⟨fun _ => 0, fun c hc => ⟨xrs_15 hc, mbs_0 (by omega) (by omega), Nat.zero_le _⟩, fun c k _ hk => absurd hk (Nat.not_lt_zero _), fun c k d l _ _ hk => absurd hk (Nat.not_lt_zero _)⟩, s_S, fun t p ht hp => Or.inl ⟨xrs_0 (by omega), mbs_0 (by omega) (by omega), mbs_0 (by omega) (by omega)⟩, fun t ht => ⟨fun _ => mbs_1 (by omega), fun q => ?_⟩, fun t ht => ?_, fun t ht => ⟨0, by omega, mbs_0 (by omega) (by omega)⟩, Or.inl (mbs_1 (by omega)), iO_c (M := M) (fun t ht => mbs_k (by omega)) (rR_iO h), iK_c (M := M) (fun t ht => mbs_k (by omega)) (rR_iK h), ⟨0, by omega, mbs_0 (by omega) (by omega)⟩⟩
  · rw [mbs_0 (by omega) (by omega)] at q
    exact absurd q (by decide)
  · obtain ⟨n, g1, g2, g3, -⟩ := rR_iC h t ht
    refine ⟨n, g1, (mbs_k (by omega)).trans g2, fun p hp => ?_, 0, mbs_0 (by omega) (by omega), Or.inl rfl⟩
    rw [mbs_k (by omega), mbs_k (by omega), mbs_k (by omega), mbs_k (by omega)]
    exact g3 p hp
theorem c_start {b : Nat} {X M : SM} (h : rJ b X M) : ∃ r X' M', fn_X11_start X = some (r, X') ∧ fn_X12_start M = some (r, M') ∧ rJ b X' M' := by
  unfold fn_X11_start fn_X12_start
  simp only [g_let_eq, x_reset, m_begins, Option.bind_some]
  refine ⟨_, _, _, rfl, congrArg (fun q => some (q, _)) (rR_rN h.1).1.symm, ⟨s_R (rR_39 h.1), ?_, ?_, ?_, ?_, ?_, 0, by omega, mbs_0 (by omega) (by omega)⟩⟩
  · obtain ⟨e, h1, h2, h3, h4⟩ := h.2.1
    refine ⟨e, h1, (xrs_k (by omega)).trans h2, (mbs_k (by omega)).trans h3, fun i hi => ?_⟩
    obtain ⟨g1, g2, g3, p, hp, g4⟩ := h4 i hi
    exact ⟨(xrs_k (by omega)).trans (g1.trans (mbs_k (by omega)).symm), (xrs_k (by omega)).trans (g2.trans (mbs_k (by omega)).symm), (xrs_k (by omega)).trans (g3.trans (mbs_k (by omega)).symm), p, hp, (mbs_k (by omega)).trans g4⟩
  · obtain ⟨n, h1, h2, h3, h4, h5⟩ := h.2.2.1
    refine ⟨n, h1, h2, (xrs_k (by omega)).trans h3, (mbs_k (by omega)).trans h4, fun s hs => ?_⟩
    rw [mbs_k (by omega), xrs_k (by omega)]
    exact h5 s hs
  · intro t ht
    rw [mbs_k (by omega), xrs_k (by omega), mbs_k (by omega), xrs_k (by omega)]
    exact h.2.2.2.1 t ht
  · exact ⟨0, 0, by omega, by omega, rfl, rfl, mbs_0 (by omega) (by omega), fun i w hi => absurd hi (Nat.not_lt_zero _)⟩
  · exact gW_c (X := X) (fun j => show xr6 X 3 1 j = X 3 1 j by rw [xr6_at, if_neg (by omega)]) (fun t ht => xrs_9 (by omega)) h.2.2.2.2.2.1
