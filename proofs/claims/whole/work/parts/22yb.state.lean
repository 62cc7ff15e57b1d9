/-! the tick: a step's frame, and a thread's change of state -/
def ow (m k i : Nat) : Prop := ((k = 7 ∨ k = 15 ∨ k = 30) ∧ i = m) ∨ ((k = 4 ∨ k = 9 ∨ k = 31 ∨ k = 32 ∨ k = 33) ∧ 6 * m ≤ i ∧ i < 6 * m + 6) ∨ (k = 14 ∧ 4 * m ≤ i ∧ i < 4 * m + 4)
def fX (m : Nat) (X X' : SM) : Prop := ∀ k i j, ¬ ow m k i → X' k i j = X k i j
def oX (m : Nat) (X X' : SM) : Prop := ∀ k i j, ¬ ow m k i → ¬ ((k = 3 ∨ k = 21) ∧ i = m) → X' k i j = X k i j
def fM (M M' : SM) : Prop := ∀ k j, ¬ (k = 40 ∧ (j < 522 ∨ 683 < j)) → M' k 0 j = M k 0 j
def oM (M M' : SM) : Prop := ∀ k j, k ≠ 40 → M' k 0 j = M k 0 j
def eG (m : Nat) (X M : SM) : Prop := (∃ n k, n < 40 ∧ k ≤ 40 ∧ X 3 m 1 = nI n ∧ X 3 m 2 = nI k) ∧ (m = 0 → gE X M)
def stp (m : Nat) (X M X' M' : SM) : Prop := rR m X' M' ∧ eG m X' M' ∧ oX m X X' ∧ oM M M' ∧ M' 40 0 683 = M 40 0 683
theorem fX_r {m : Nat} {X : SM} : fX m X X := fun _ _ _ _ => rfl
theorem fM_r {M : SM} : fM M M := fun _ _ _ => rfl
theorem fX_u {m k i j : Nat} {v : Int32} {X X1 : SM} (hk : ow m k i) (h : fX m X X1) : fX m X (u1 X1 k i j v) := fun k' i' j' q => (u1_ne (fun z => q (by rw [z.1, z.2.1]; exact hk))).trans (h k' i' j' q)
theorem fM_u {j : Nat} {v : Int32} {M M1 : SM} (hj : j < 522 ∨ 683 < j) (h : fM M M1) : fM M (u1 M1 40 0 j v) := fun k' j' q => (u1_ne (fun z => q ⟨z.1, by rw [z.2.2]; exact hj⟩)).trans (h k' j' q)
theorem ow7 {m : Nat} : ow m 7 m := Or.inl ⟨Or.inl rfl, rfl⟩
theorem ow15 {m : Nat} : ow m 15 m := Or.inl ⟨Or.inr (Or.inl rfl), rfl⟩
theorem ow30 {m : Nat} : ow m 30 m := Or.inl ⟨Or.inr (Or.inr rfl), rfl⟩
theorem ow9 {m a : Nat} (ha : a < 6) : ow m 9 (6 * m + a) := Or.inr (Or.inl ⟨by omega, by omega, by omega⟩)
theorem ow4 {m a : Nat} (ha : a < 6) : ow m 4 (6 * m + a) := Or.inr (Or.inl ⟨by omega, by omega, by omega⟩)
theorem ow31 {m a : Nat} (ha : a < 6) : ow m 31 (6 * m + a) := Or.inr (Or.inl ⟨by omega, by omega, by omega⟩)
theorem ow32 {m a : Nat} (ha : a < 6) : ow m 32 (6 * m + a) := Or.inr (Or.inl ⟨by omega, by omega, by omega⟩)
theorem ow33 {m a : Nat} (ha : a < 6) : ow m 33 (6 * m + a) := Or.inr (Or.inl ⟨by omega, by omega, by omega⟩)
theorem ow14 {m c : Nat} (hc : c < 4) : ow m 14 (4 * m + c) := Or.inr (Or.inr ⟨rfl, by omega, by omega⟩)
theorem eG_c {m : Nat} {X X' M M' : SM} (h3 : ∀ j, X' 3 m j = X 3 m j) (h21 : ∀ j, X' 21 m j = X 21 m j) (hM : ∀ j, 522 ≤ j → j < 683 → M' 40 0 j = M 40 0 j) (h : eG m X M) : eG m X' M' := by
  obtain ⟨⟨n, k, hn, hk, e1, e2⟩, hg⟩ := h
  refine ⟨⟨n, k, hn, hk, (h3 1).trans e1, (h3 2).trans e2⟩, fun z => ?_⟩
  subst z
  exact gE_c h3 h21 hM (hg rfl)
theorem stp_f {m : Nat} {X M X' M' : SM} (hr : rR m X' M') (he : eG m X M) (hx : fX m X X') (hm : fM M M') : stp m X M X' M' := by
  refine ⟨hr, eG_c (fun j => hx _ _ _ ?_) (fun j => hx _ _ _ ?_) (fun j h1 h2 => hm _ _ (by omega)) he, fun k i j q _ => hx k i j q, fun k j q => hm k j (fun z => q z.1), hm _ _ (by omega)⟩
  · unfold ow; omega
  · unfold ow; omega
theorem stp_r {m : Nat} {X M : SM} (hr : rR m X M) (he : eG m X M) : stp m X M X M := stp_f hr he fX_r fM_r
theorem stp_t {m : Nat} {X M X1 M1 X2 M2 : SM} (a : stp m X M X1 M1) (b : stp m X1 M1 X2 M2) : stp m X M X2 M2 := ⟨b.1, b.2.1, fun k i j q q' => (b.2.2.1 k i j q q').trans (a.2.2.1 k i j q q'), fun k j q => (b.2.2.2.1 k j q).trans (a.2.2.2.1 k j q), b.2.2.2.2.trans a.2.2.2.2⟩
theorem nq_s {m a : Nat} {X M : SM} (h : rR m X M) (ha : a < 6) (h2 : M 40 0 (438 + a) ≠ 2) (h3 : M 40 0 (438 + a) ≠ 3) : ∀ c, c < 4 → nq M a c := by
  intro c hc n k hn e hk q
  obtain ⟨len, ha', hb, -⟩ := rR_rQ h
  have : n = len c := (nI_eq (by omega) (by have := (ha' c hc).2.2; omega)).mp (e.symm.trans (ha' c hc).2.1)
  subst this
  obtain ⟨-, t, ht, e2, e3⟩ := hb c k hc hk
  have : t = a := (nI_eq (by omega) (by omega)).mp (e2.symm.trans q)
  subst this
  rcases e3 with e3 | e3
  · exact h2 e3
  · exact h3 e3
theorem rQ_n {m a : Nat} {X X' M M' : SM} (h4 : ∀ c k, c < 4 → k < 6 → X' 14 (4 * m + c) k = X 14 (4 * m + c) k) (h5 : ∀ c, c < 4 → X' 15 m c = X 15 m c) (hM : ∀ j, 494 ≤ j → j < 522 → M' 40 0 j = M 40 0 j) (hs : ∀ t, t < 6 → t ≠ a → M' 40 0 (438 + t) = M 40 0 (438 + t)) (hn : ∀ c, c < 4 → nq M a c) (h : rQ m X M) : rQ m X' M' := by
  obtain ⟨len, ha, hb, hc⟩ := h
  refine ⟨len, fun c q => ?_, fun c k q r => ?_, fun c k d l q q' r r' => ?_⟩
  · rw [h5 c q, hM _ (by omega) (by omega)]; exact ha c q
  · have hl := (ha c q).2.2
    rw [h4 c k q (by omega), hM _ (by omega) (by omega)]
    obtain ⟨e, t, ht, e2, e3⟩ := hb c k q r
    have z : t ≠ a := fun z => hn c q (len c) k hl (ha c q).2.1 r (z ▸ e2)
    exact ⟨e, t, ht, e2, by rw [hs t ht z]; exact e3⟩
  · have hl := (ha c q).2.2
    have hl' := (ha d q').2.2
    rw [hM _ (by omega) (by omega), hM _ (by omega) (by omega)]
    exact hc c k d l q q' r r'
def rEt (m t : Nat) (X M : SM) : Prop := (M 40 0 (438 + t) ≠ 1 → M 40 0 (468 + t) = -1) ∧ (M 40 0 (438 + t) = 1 ∨ M 40 0 (438 + t) = 2 ∨ M 40 0 (438 + t) = 3 → ∃ w, w < 24 ∧ M 40 0 (480 + t) = nI w ∧ nI w < M 43 0 t ∧ (M 40 0 (438 + t) = 1 → X 4 (6 * m + t) 0 = M 42 0 (4 * (24 * t + w)) ∧ X 4 (6 * m + t) 4 = M 40 0 (468 + t) ∧ (M 42 0 (4 * (24 * t + w)) = 11 → X 4 (6 * m + t) 1 = M 42 0 (4 * (24 * t + w) + 1) ∧ X 4 (6 * m + t) 3 = M 40 0 (687 + t) &&& 1) ∧ (M 42 0 (4 * (24 * t + w)) = 13 → X 4 (6 * m + t) 1 = M 42 0 (4 * (24 * t + w) + 1) ∧ X 4 (6 * m + t) 2 = M 42 0 (4 * (24 * t + w) + 2))) ∧ (M 40 0 (438 + t) = 2 → X 4 (6 * m + t) 3 = M 40 0 (687 + t)) ∧ (M 40 0 (438 + t) = 3 → M 42 0 (4 * (24 * t + w)) = 17 ∧ X 4 (6 * m + t) 2 = M 42 0 (4 * (24 * t + w) + 2)))
theorem rEt_c {m t : Nat} {X X' M M' : SM} (hX : ∀ j, X' 4 (6 * m + t) j = X 4 (6 * m + t) j) (h1 : M' 40 0 (438 + t) = M 40 0 (438 + t)) (h2 : M' 40 0 (468 + t) = M 40 0 (468 + t)) (h3 : M' 40 0 (480 + t) = M 40 0 (480 + t)) (h4 : M' 40 0 (687 + t) = M 40 0 (687 + t)) (hK : ∀ k j, k ≠ 40 → M' k 0 j = M k 0 j) (h : rEt m t X M) : rEt m t X' M' := by
  unfold rEt
  simp only [hX, h1, h2, h3, h4, hK 42 _ (by decide), hK 43 _ (by decide)]
  exact h
theorem p_st {m a s : Nat} {X X' M M' : SM} (ha : a < 6) (h : rR m X M) (hX : ∀ k i j, ¬ (i = 6 * m + a ∧ (k = 4 ∨ (k = 9 ∧ j = 9))) → k ≠ 14 → k ≠ 15 → X' k i j = X k i j) (hM : ∀ j, ¬ (j = 438 + a ∨ j = 468 + a ∨ j = 480 + a ∨ j = 687 + a) → ¬ (494 ≤ j ∧ j < 522) → M' 40 0 j = M 40 0 j) (hK : ∀ k j, k ≠ 40 → M' k 0 j = M k 0 j) (hs : s < 6) (e1 : X' 9 (6 * m + a) 9 = nI s) (e2 : M' 40 0 (438 + a) = nI s) (hE : rEt m a X' M') (hQ : rQ m X' M') : rR m X' M' := by
  refine ⟨rA_c (X := X) (M := M) (fun t r ht hr => hX _ _ _ (by omega) (by omega) (by omega)) (fun j hj => hM j (by omega) (by omega)) (rR_rA h), rB_c (X := X) (M := M) (fun t r ht hr => hX _ _ _ (by omega) (by omega) (by omega)) (fun j h1 h2 => hM j (by omega) (by omega)) (rR_rB h), fun t q ht hq => ?_, rL_c (X := X) (M := M) (fun t ht => hX _ _ _ (by omega) (by omega) (by omega)) (fun j h1 h2 => hM j (by omega) (by omega)) (rR_rL h), rP_c (X := X) (M := M) (fun t ht => hX _ _ _ (by omega) (by omega) (by omega)) (fun j h1 h2 => hM j (by omega) (by omega)) (rR_rP h), rK_c (X := X) (M := M) (fun t ht => hX _ _ _ (by omega) (by omega) (by omega)) (fun j h1 => hK _ _ (by decide)) (rR_rK h), rN_c (X := X) (M := M) (fun j hj => hX _ _ _ (by omega) (by omega) (by omega)) (fun j h1 h2 => hM j (by omega) (by omega)) (rR_rN h), rC_c (X := X) (M := M) (fun k t p h1 h2 ht hp => hX _ _ _ (by omega) (by omega) (by omega)) (fun j => hK _ _ (by decide)) (rR_rC h), rM_c (X := X) (M := M) (fun t ht => hX _ _ _ (by omega) (by omega) (by omega)) (fun t ht => hK _ _ (by decide)) (rR_rM h), rO_c (X := X) (M := M) (fun t ht => hX _ _ _ (by omega) (by omega) (by omega)) (fun t ht => hK _ _ (by decide)) (rR_rO h), rH_c (X := X) (M := M) (fun t ht => hX _ _ _ (by omega) (by omega) (by omega)) (fun t ht => hK _ _ (by decide)) (rR_rH h), rU_c (X := X) (M := M) (fun t ht => hX _ _ _ (by omega) (by omega) (by omega)) (rR_rU h), hQ, rS_c (X := X) (M := M) (fun j hj => hX _ _ _ (by omega) (by omega) (by omega)) (fun j h1 h2 => hM j (by omega) (by omega)) (fun j h1 h2 => hM j (by omega) (by omega)) (rR_rS h), rZ_c (X := X) (M := M) (fun t p ht hp => hX _ _ _ (by omega) (by omega) (by omega)) (fun j h1 h2 => hM j (by omega) (by omega)) (fun j => hK _ _ (by decide)) (fun t ht => hK _ _ (by decide)) (rR_rZ h), fun t ht => ?_, iC_c (M := M) (fun t ht => hM _ (by omega) (by omega)) (fun j => hK _ _ (by decide)) (fun t ht => hK _ _ (by decide)) (rR_iC h), fun t ht => ?_, iL_c (M := M) (hM _ (by omega) (by omega)) (rR_iL h), iO_c (M := M) (fun t ht => hK _ _ (by decide)) (rR_iO h), iK_c (M := M) (fun t ht => hK _ _ (by decide)) (rR_iK h), iE_c (M := M) (hM _ (by omega) (by omega)) (rR_iE h)⟩
  · by_cases z : t = a ∧ q = 1
    · obtain ⟨rfl, rfl⟩ := z
      exact e1.trans e2.symm
    · rw [hX _ _ _ (by omega) (by omega) (by omega), hM _ (by omega) (by omega)]
      exact rR_rW h t q ht hq
  · by_cases z : t = a
    · subst z
      exact hE
    · exact rEt_c (fun j => hX _ _ _ (by omega) (by omega) (by omega)) (hM _ (by omega) (by omega)) (hM _ (by omega) (by omega)) (hM _ (by omega) (by omega)) (hM _ (by omega) (by omega)) hK (rR_rE h t ht)
  · by_cases z : t = a
    · subst z
      exact ⟨s, hs, e2⟩
    · rw [hM _ (by omega) (by omega)]
      exact rR_iT h t ht
/-- a thread in no queue comes to a state with nothing to wait for -/
theorem p_idle {m a s : Nat} {X M : SM} (ha : a < 6) (h : rR m X M) (hn : ∀ c, c < 4 → nq M a c) (hs : s = 0 ∨ s = 4 ∨ s = 5) (ht : M 40 0 (468 + a) = -1) : rR m (u1 X 9 (6 * m + a) 9 (nI s)) (u1 M 40 0 (438 + a) (nI s)) := by
  refine p_st (s := s) ha h (fun k i j q _ _ => u1_ne (by omega)) (fun j q _ => u1_ne (by omega)) (fun k j q => u1_ne (by omega)) (by omega) u1_self u1_self ⟨fun _ => (u1_ne (by omega)).trans ht, fun q => ?_⟩ (rQ_n (a := a) (X := X) (M := M) (fun c k _ _ => rfl) (fun c _ => rfl) (fun j h1 h2 => u1_ne (by omega)) (fun t _ z => u1_ne (by omega)) hn (rR_rQ h))
  rw [u1_self] at q
  rcases hs with rfl | rfl | rfl
  · exact absurd q (by decide)
  · exact absurd q (by decide)
  · exact absurd q (by decide)
theorem p_wake {m a : Nat} {X M : SM} (ha : a < 6) (h : rR m X M) (h1 : M 40 0 (438 + a) = 1) : rR m (u1 X 9 (6 * m + a) 9 0) (u1 (u1 M 40 0 (438 + a) 0) 40 0 (468 + a) (-1)) := by
  refine p_st (s := 0) ha h (fun k i j q _ _ => u1_ne (by omega)) (fun j q _ => (u1_ne (by omega)).trans (u1_ne (by omega))) (fun k j q => (u1_ne (by omega)).trans (u1_ne (by omega))) (by omega) u1_self ((u1_ne (by omega)).trans u1_self) ⟨fun _ => u1_self, fun q => ?_⟩ (rQ_n (a := a) (X := X) (M := M) (fun c k _ _ => rfl) (fun c _ => rfl) (fun j h1 h2 => (u1_ne (by omega)).trans (u1_ne (by omega))) (fun t _ z => (u1_ne (by omega)).trans (u1_ne (by omega))) (nq_s h ha (by rw [h1]; decide) (by rw [h1]; decide)) (rR_rQ h))
  rw [u1_ne (by omega), u1_self] at q
  exact absurd q (by decide)
