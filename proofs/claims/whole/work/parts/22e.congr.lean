/-! each piece of the relation reads but its own cells -/
section CG
variable {m : Nat} {X X' M M' : SM}
theorem rA_c (hX : ∀ t r, t < 6 → r < 8 → X' 31 (6 * m + t) r = X 31 (6 * m + t) r) (hM : ∀ j, j < 48 → M' 40 0 j = M 40 0 j) (h : rA m X M) : rA m X' M' := fun t r ht hr => (hX t r ht hr).trans ((h t r ht hr).trans (hM _ (by omega)).symm)
theorem rB_c (hX : ∀ t r, t < 6 → r < 16 → X' 32 (6 * m + t) r = X 32 (6 * m + t) r) (hM : ∀ j, 48 ≤ j → j < 144 → M' 40 0 j = M 40 0 j) (h : rB m X M) : rB m X' M' := fun t r ht hr => (hX t r ht hr).trans ((h t r ht hr).trans (hM _ (by omega) (by omega)).symm)
theorem rW_c (hX : ∀ t q, t < 6 → q < 6 → X' 9 (6 * m + t) (8 + q) = X 9 (6 * m + t) (8 + q)) (hM : ∀ j, 432 ≤ j → j < 468 → M' 40 0 j = M 40 0 j) (h : rW m X M) : rW m X' M' := fun t r ht hr => (hX t r ht hr).trans ((h t r ht hr).trans (hM _ (by omega) (by omega)).symm)
theorem rL_c (hX : ∀ t, t < 6 → X' 9 (6 * m + t) 14 = X 9 (6 * m + t) 14) (hM : ∀ j, 474 ≤ j → j < 480 → M' 40 0 j = M 40 0 j) (h : rL m X M) : rL m X' M' := fun t ht => (hX t ht).trans ((h t ht).trans (hM _ (by omega) (by omega)).symm)
theorem rP_c (hX : ∀ p, p < 8 → X' 30 m p = X 30 m p) (hM : ∀ j, 486 ≤ j → j < 494 → M' 40 0 j = M 40 0 j) (h : rP m X M) : rP m X' M' := fun t ht => (hX t ht).trans ((h t ht).trans (hM _ (by omega) (by omega)).symm)
theorem rK_c (hX : ∀ p, p < 8 → X' 29 m p = X 29 m p) (hM : ∀ j, j < 8 → M' 46 0 j = M 46 0 j) (h : rK m X M) : rK m X' M' := fun t ht => (hX t ht).trans ((h t ht).trans (hM _ ht).symm)
theorem rN_c (hX : ∀ j, j < 12 → X' 7 m j = X 7 m j) (hM : ∀ j, 683 ≤ j → j < 687 → M' 40 0 j = M 40 0 j) (h : rN m X M) : rN m X' M' := ⟨(hX 5 (by omega)).trans (h.1.trans (hM _ (by omega) (by omega)).symm), (hX 6 (by omega)).trans (h.2.1.trans (hM _ (by omega) (by omega)).symm), (hX 10 (by omega)).trans (h.2.2.1.trans (hM _ (by omega) (by omega)).symm), (hX 11 (by omega)).trans (h.2.2.2.trans (hM _ (by omega) (by omega)).symm)⟩
theorem rC_c (hX : ∀ k t p, 16 ≤ k → k < 20 → t < 6 → p < 24 → X' k (6 * m + t) p = X k (6 * m + t) p) (hM : ∀ j, M' 42 0 j = M 42 0 j) (h : rC m X M) : rC m X' M' := fun t p ht hp => ⟨(hX 16 t p (by omega) (by omega) ht hp).trans ((h t p ht hp).1.trans (hM _).symm), (hX 17 t p (by omega) (by omega) ht hp).trans ((h t p ht hp).2.1.trans (hM _).symm), (hX 18 t p (by omega) (by omega) ht hp).trans ((h t p ht hp).2.2.1.trans (hM _).symm), (hX 19 t p (by omega) (by omega) ht hp).trans ((h t p ht hp).2.2.2.trans (hM _).symm)⟩
theorem rM_c (hX : ∀ t, t < 6 → X' 1 (6 * m + t) 4 = X 1 (6 * m + t) 4) (hM : ∀ t, t < 6 → M' 43 0 t = M 43 0 t) (h : rM m X M) : rM m X' M' := fun t ht => (hX t ht).trans ((h t ht).trans (hM t ht).symm)
theorem rO_c (hX : ∀ t, t < 6 → X' 9 (6 * m + t) 6 = X 9 (6 * m + t) 6) (hM : ∀ t, t < 6 → M' 44 0 t = M 44 0 t) (h : rO m X M) : rO m X' M' := fun t ht => (hX t ht).trans ((h t ht).trans (hM t ht).symm)
theorem rH_c (hX : ∀ t, t < 6 → X' 9 (6 * m + t) 7 = X 9 (6 * m + t) 7) (hM : ∀ t, t < 6 → M' 45 0 t = M 45 0 t) (h : rH m X M) : rH m X' M' := fun t ht => by rw [hX t ht, hM t ht]; exact h t ht
theorem rU_c (hX : ∀ t, t < 6 → X' 9 (6 * m + t) 0 = X 9 (6 * m + t) 0) (h : rU m X M) : rU m X' M' := fun t ht => (hX t ht).trans (h t ht)
theorem rQ_c (h4 : ∀ c k, c < 4 → k < 6 → X' 14 (4 * m + c) k = X 14 (4 * m + c) k) (h5 : ∀ c, c < 4 → X' 15 m c = X 15 m c) (hM : ∀ j, 494 ≤ j → j < 522 → M' 40 0 j = M 40 0 j) (hs : ∀ t, t < 6 → M 40 0 (438 + t) = 2 ∨ M 40 0 (438 + t) = 3 → M' 40 0 (438 + t) = M 40 0 (438 + t)) (h : rQ m X M) : rQ m X' M' := by
  obtain ⟨len, ha, hb, hc⟩ := h
  refine ⟨len, fun c q => ?_, fun c k q r => ?_, fun c k d l q q' r r' => ?_⟩
  · rw [h5 c q, hM _ (by omega) (by omega)]; exact ha c q
  · have hl := (ha c q).2.2
    rw [h4 c k q (by omega), hM _ (by omega) (by omega)]
    obtain ⟨e, t, ht, e2, e3⟩ := hb c k q r
    exact ⟨e, t, ht, e2, by rw [hs t ht e3]; exact e3⟩
  · have hl := (ha c q).2.2
    have hl' := (ha d q').2.2
    rw [hM _ (by omega) (by omega), hM _ (by omega) (by omega)]
    exact hc c k d l q q' r r'
theorem s6_c {o : Nat} (hM : ∀ j, o ≤ j → j < o + 6 → M' 40 0 j = M 40 0 j) : s6 M' o = s6 M o := by
  unfold s6
  rw [hM _ (by omega) (by omega), hM _ (by omega) (by omega), hM _ (by omega) (by omega), hM _ (by omega) (by omega), hM _ (by omega) (by omega), hM _ (by omega) (by omega)]
theorem rS_c (hX : ∀ j, j < 12 → X' 7 m j = X 7 m j) (h1 : ∀ j, 450 ≤ j → j < 462 → M' 40 0 j = M 40 0 j) (h2 : ∀ j, 474 ≤ j → j < 480 → M' 40 0 j = M 40 0 j) (h : rS m X M) : rS m X' M' := ⟨(hX 7 (by omega)).trans (h.1.trans (s6_c fun j a b => h1 j (by omega) (by omega)).symm), (hX 8 (by omega)).trans (h.2.1.trans (s6_c fun j a b => h1 j (by omega) (by omega)).symm), (hX 9 (by omega)).trans (h.2.2.trans (s6_c fun j a b => h2 j (by omega) (by omega)).symm)⟩
theorem rZ_c (hX : ∀ t p, t < 6 → p < 24 → X' 33 (6 * m + t) p = X 33 (6 * m + t) p) (h1 : ∀ j, 144 ≤ j → j < 432 → M' 40 0 j = M 40 0 j) (h2 : ∀ j, M' 42 0 j = M 42 0 j) (h3 : ∀ t, t < 6 → M' 43 0 t = M 43 0 t) (h : rZ m X M) : rZ m X' M' := by
  intro t p ht hp
  rw [hX t p ht hp, h1 (144 + 24 * t + p) (by omega) (by omega), h1 (288 + 24 * t + p) (by omega) (by omega), h2, h3 t ht]
  exact h t p ht hp
theorem rE_c (hX : ∀ t j, t < 6 → j < 5 → X' 4 (6 * m + t) j = X 4 (6 * m + t) j) (h1 : ∀ t, t < 6 → M' 40 0 (438 + t) = M 40 0 (438 + t) ∧ M' 40 0 (468 + t) = M 40 0 (468 + t) ∧ M' 40 0 (480 + t) = M 40 0 (480 + t) ∧ M' 40 0 (687 + t) = M 40 0 (687 + t)) (h2 : ∀ j, M' 42 0 j = M 42 0 j) (h3 : ∀ t, t < 6 → M' 43 0 t = M 43 0 t) (h : rE m X M) : rE m X' M' := by
  intro t ht
  rw [hX t 0 ht (by omega), hX t 1 ht (by omega), hX t 2 ht (by omega), hX t 3 ht (by omega), hX t 4 ht (by omega), (h1 t ht).1, (h1 t ht).2.1, (h1 t ht).2.2.1, (h1 t ht).2.2.2, h3 t ht]
  simp only [h2]
  exact h t ht
theorem iC_c (h1 : ∀ t, t < 6 → M' 40 0 (432 + t) = M 40 0 (432 + t)) (h2 : ∀ j, M' 42 0 j = M 42 0 j) (h3 : ∀ t, t < 6 → M' 43 0 t = M 43 0 t) (h : iC M) : iC M' := by
  intro t ht
  rw [h1 t ht, h3 t ht]
  simp only [h2]
  exact h t ht
theorem iT_c (h1 : ∀ t, t < 6 → M' 40 0 (438 + t) = M 40 0 (438 + t)) (h : iT M) : iT M' := fun t ht => by rw [h1 t ht]; exact h t ht
theorem iL_c (h1 : M' 40 0 684 = M 40 0 684) (h : iL M) : iL M' := by unfold iL; rw [h1]; exact h
theorem iO_c (h1 : ∀ t, t < 6 → M' 44 0 t = M 44 0 t) (h : iO M) : iO M' := fun t ht => by rw [h1 t ht]; exact h t ht
theorem iK_c (h1 : ∀ t, t < 8 → M' 46 0 t = M 46 0 t) (h : iK M) : iK M' := fun t ht => by rw [h1 t ht]; exact h t ht
theorem iE_c (h1 : M' 40 0 682 = M 40 0 682) (h : iE M) : iE M' := by unfold iE; rw [h1]; exact h
end CG
theorem within_no1 {x lo hi : Int32} (h : x < lo) : fn_X12_within x lo hi = 0 := if_pos h
theorem within_no2 {x lo hi : Int32} (h0 : ¬ x < lo) (h : ¬ x ≤ hi) : fn_X12_within x lo hi = 0 := (if_neg h0).trans (if_pos (Int32.not_le.mp h))
theorem within_yes {x lo hi : Int32} (h0 : ¬ x < lo) (h : x ≤ hi) : fn_X12_within x lo hi = 1 := (if_neg h0).trans (if_neg (Int32.not_lt.mpr h))
