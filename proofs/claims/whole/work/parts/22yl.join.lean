/-! the tick: a thread comes to a channel; SEND, TAKE -/
theorem php : ∀ (n : Nat) (f : Nat → Nat), (∀ k, k < n + 1 → f k < n) → ∃ i j, i < j ∧ j < n + 1 ∧ f i = f j := by
  intro n
  induction n with
  | zero => intro f h; exact absurd (h 0 (by omega)) (Nat.not_lt_zero _)
  | succ n ih =>
    intro f h
    by_cases q : ∃ i, i < n + 1 ∧ f i = f (n + 1)
    · obtain ⟨i, hi, e⟩ := q
      exact ⟨i, n + 1, hi, by omega, e⟩
    · have hne : ∀ i, i < n + 1 → f i ≠ f (n + 1) := fun i hi e => q ⟨i, hi, e⟩
      have hv := h (n + 1) (by omega)
      obtain ⟨i, j, h1, h2, h3⟩ := ih (fun k => if f (n + 1) < f k then f k - 1 else f k) (fun k hk => by
        have a1 := h k (by omega)
        have a2 := hne k hk
        show (if f (n + 1) < f k then f k - 1 else f k) < n
        split <;> omega)
      have b1 := hne i (by omega)
      have b2 := hne j (by omega)
      refine ⟨i, j, h1, by omega, ?_⟩
      split at h3 <;> split at h3 <;> omega
theorem q_room {m a c L : Nat} {X M : SM} (ha : a < 6) (hc : c < 4) (h : rR m X M) (h0 : M 40 0 (438 + a) = 0) (hL : L ≤ 6) (eL : M 40 0 (518 + c) = nI L) : L < 6 := by
  refine Classical.byContradiction fun q => ?_
  have hL6 : L = 6 := by omega
  subst hL6
  obtain ⟨len, ha', hb, hD⟩ := rR_rQ h
  have el : len c = 6 := ((nI_eq (by omega) (by have := (ha' c hc).2.2; omega)).mp (eL.symm.trans (ha' c hc).2.1)).symm
  have hv : ∀ k, k < 6 → ∃ t, t < 6 ∧ t ≠ a ∧ M 40 0 (494 + 6 * c + k) = nI t := by
    intro k hk
    obtain ⟨-, t, ht, e2, e3⟩ := hb c k hc (by omega)
    refine ⟨t, ht, fun z => ?_, e2⟩
    subst z
    rw [h0] at e3
    exact absurd e3 (by decide)
  have hf : ∀ k, k < 6 → (M 40 0 (494 + 6 * c + k)).toNatClampNeg < 6 ∧ (M 40 0 (494 + 6 * c + k)).toNatClampNeg ≠ a ∧ M 40 0 (494 + 6 * c + k) = nI ((M 40 0 (494 + 6 * c + k)).toNatClampNeg) := by
    intro k hk
    obtain ⟨t, ht, hta, e⟩ := hv k hk
    rw [e, cl6 ht]
    exact ⟨ht, hta, rfl⟩
  obtain ⟨i, j, h1, h2, h3⟩ := php 5 (fun k => if a < (M 40 0 (494 + 6 * c + k)).toNatClampNeg then (M 40 0 (494 + 6 * c + k)).toNatClampNeg - 1 else (M 40 0 (494 + 6 * c + k)).toNatClampNeg) (fun k hk => by
    have := hf k (by omega)
    show (if a < (M 40 0 (494 + 6 * c + k)).toNatClampNeg then (M 40 0 (494 + 6 * c + k)).toNatClampNeg - 1 else (M 40 0 (494 + 6 * c + k)).toNatClampNeg) < 5
    split <;> omega)
  obtain ⟨b1, b2, b3⟩ := hf i (by omega)
  obtain ⟨c1, c2, c3⟩ := hf j (by omega)
  have : (M 40 0 (494 + 6 * c + i)).toNatClampNeg = (M 40 0 (494 + 6 * c + j)).toNatClampNeg := by
    split at h3 <;> split at h3 <;> omega
  have e : M 40 0 (494 + 6 * c + i) = M 40 0 (494 + 6 * c + j) := by rw [b3, c3, this]
  have := (hD c i c j hc hc (by omega) (by omega) e).2
  omega
def mJ (M : SM) (a c L : Nat) (s q r : Int32) : SM := u1 (u1 (u1 (u1 (u1 M 40 0 (438 + a) s) 40 0 (480 + a) q) 40 0 (687 + a) r) 40 0 (494 + 6 * c + L) (nI a)) 40 0 (518 + c) (nI (L + 1))
def xJ (X : SM) (m a c L j : Nat) (v s : Int32) : SM := u1 (u1 (u1 (u1 X 4 (6 * m + a) j v) 9 (6 * m + a) 9 s) 14 (4 * m + c) L (nI a)) 15 m c (nI (L + 1))
section JN
variable {m a q c L : Nat} {X M : SM}
theorem p_join {s j : Nat} {v r : Int32} (ha : a < 6) (hc : c < 4) (h : rR m X M) (he : eG m X M) (h0 : M 40 0 (438 + a) = 0) (hq : q < 24) (hqn : nI q < M 43 0 a) (hL : L ≤ 6) (eL : M 40 0 (518 + c) = nI L) (hs : (s = 2 ∧ j = 3 ∧ v = r) ∨ (s = 3 ∧ j = 2 ∧ M 42 0 (4 * (24 * a + q)) = 17 ∧ v = M 42 0 (4 * (24 * a + q) + 2))) : stp m X M (xJ X m a c L j v (nI s)) (mJ M a c L (nI s) (nI q) r) := by
  have hL5 := q_room ha hc h h0 hL eL
  have m438 : mJ M a c L (nI s) (nI q) r 40 0 (438 + a) = nI s := by unfold mJ; rw [u1_ne (by omega), u1_ne (by omega), u1_ne (by omega), u1_ne (by omega), u1_self]
  have m480 : mJ M a c L (nI s) (nI q) r 40 0 (480 + a) = nI q := by unfold mJ; rw [u1_ne (by omega), u1_ne (by omega), u1_ne (by omega), u1_self]
  have m687 : mJ M a c L (nI s) (nI q) r 40 0 (687 + a) = r := by unfold mJ; rw [u1_ne (by omega), u1_ne (by omega), u1_self]
  have m494 : mJ M a c L (nI s) (nI q) r 40 0 (494 + 6 * c + L) = nI a := by unfold mJ; rw [u1_ne (by omega), u1_self]
  have m518 : mJ M a c L (nI s) (nI q) r 40 0 (518 + c) = nI (L + 1) := u1_self
  have mo : ∀ i, i ≠ 438 + a → i ≠ 480 + a → i ≠ 687 + a → i ≠ 494 + 6 * c + L → i ≠ 518 + c → mJ M a c L (nI s) (nI q) r 40 0 i = M 40 0 i := fun i h1 h2 h3 h4 h5 => by unfold mJ; rw [u1_ne (by omega), u1_ne (by omega), u1_ne (by omega), u1_ne (by omega), u1_ne (by omega)]
  have mk : ∀ k i, k ≠ 40 → mJ M a c L (nI s) (nI q) r k 0 i = M k 0 i := fun k i hk => by unfold mJ; rw [u1_k hk, u1_k hk, u1_k hk, u1_k hk, u1_k hk]
  have x9 : xJ X m a c L j v (nI s) 9 (6 * m + a) 9 = nI s := by unfold xJ; rw [u1_ne (by omega), u1_ne (by omega), u1_self]
  have x4 : xJ X m a c L j v (nI s) 4 (6 * m + a) j = v := by unfold xJ; rw [u1_ne (by omega), u1_ne (by omega), u1_ne (by omega), u1_self]
  have x14 : xJ X m a c L j v (nI s) 14 (4 * m + c) L = nI a := by unfold xJ; rw [u1_ne (by omega), u1_self]
  have x15 : xJ X m a c L j v (nI s) 15 m c = nI (L + 1) := u1_self
  have xo : ∀ k i i', ¬ (k = 4 ∧ i = 6 * m + a ∧ i' = j) → ¬ (k = 9 ∧ i = 6 * m + a ∧ i' = 9) → ¬ (k = 14 ∧ i = 4 * m + c ∧ i' = L) → ¬ (k = 15 ∧ i = m ∧ i' = c) → xJ X m a c L j v (nI s) k i i' = X k i i' := fun k i i' h1 h2 h3 h4 => by unfold xJ; rw [u1_ne h4, u1_ne h3, u1_ne h2, u1_ne h1]
  have hs6 : s = 2 ∨ s = 3 := by omega
  refine stp_f (p_st (s := s) ha h (fun k i i' g g1 g2 => xo k i i' (by omega) (by omega) (by omega) (by omega)) (fun i g g' => mo i (by omega) (by omega) (by omega) (by omega) (by omega)) mk (by omega) x9 m438 ⟨fun _ => ?_, fun _ => ⟨q, hq, m480, ?_, fun g => ?_, fun g => ?_, fun g => ?_⟩⟩ ?_) he (fX_u ow15 (fX_u (ow14 hc) (fX_u (ow9 ha) (fX_u (ow4 ha) fX_r)))) (fM_u (by omega) (fM_u (by omega) (fM_u (by omega) (fM_u (by omega) (fM_u (by omega) fM_r)))))
  · rw [mo _ (by omega) (by omega) (by omega) (by omega) (by omega)]
    exact (rR_rE h a ha).1 (by rw [h0]; decide)
  · rw [mk 43 _ (by decide)]; exact hqn
  · rw [m438] at g
    rcases hs6 with rfl | rfl <;> exact absurd g (by decide)
  · rw [m438] at g
    rcases hs with ⟨rfl, rfl, rfl⟩ | ⟨rfl, rfl, -⟩
    · rw [m687]; exact x4
    · exact absurd g (by decide)
  · rw [m438] at g
    rcases hs with ⟨rfl, rfl, rfl⟩ | ⟨rfl, rfl, h1, h2⟩
    · exact absurd g (by decide)
    · rw [mk 42 _ (by decide), mk 42 _ (by decide)]
      exact ⟨h1, x4.trans h2⟩
  · obtain ⟨len, ha', hb, hD⟩ := rR_rQ h
    have el : len c = L := ((nI_eq (by omega) (by have := (ha' c hc).2.2; omega)).mp (eL.symm.trans (ha' c hc).2.1)).symm
    have hold : ∀ d k, d < 4 → k < len d → M 40 0 (494 + 6 * d + k) ≠ nI a := by
      intro d k hd hk e
      obtain ⟨-, t, ht, e2, e3⟩ := hb d k hd hk
      have : t = a := (nI_eq (by omega) (by omega)).mp (e2.symm.trans e)
      subst this
      rw [h0] at e3
      exact absurd e3 (by decide)
    have mo2 : ∀ d k, d < 4 → k < len d → mJ M a c L (nI s) (nI q) r 40 0 (494 + 6 * d + k) = M 40 0 (494 + 6 * d + k) := by
      intro d k hd hk
      have := (ha' d hd).2.2
      refine mo _ (by omega) (by omega) (by omega) ?_ (by omega)
      intro w
      have : d = c := by omega
      subst this
      omega
    refine ⟨fun d => if d = c then L + 1 else len d, fun d hd => ?_, fun d k hd hk => ?_, fun d k e l hd he' hk hl => ?_⟩
    · by_cases z : d = c
      · subst z
        simp only [if_true]
        exact ⟨x15, m518, by omega⟩
      · simp only [if_neg z]
        rw [xo _ _ _ (by omega) (by omega) (by omega) (by omega), mo _ (by omega) (by omega) (by omega) (by omega) (by omega)]
        exact ha' d hd
    · by_cases z : d = c ∧ k = L
      · obtain ⟨rfl, rfl⟩ := z
        refine ⟨x14.trans m494.symm, a, ha, m494, ?_⟩
        rw [m438]
        rcases hs6 with rfl | rfl
        · exact Or.inl rfl
        · exact Or.inr rfl
      · have hk' : k < len d := by
          by_cases z' : d = c
          · subst z'
            simp only [if_true] at hk
            omega
          · simp only [if_neg z'] at hk
            exact hk
        obtain ⟨g1, t, ht, g2, g3⟩ := hb d k hd hk'
        have hta : t ≠ a := fun w => hold d k hd hk' (w ▸ g2)
        rw [mo2 d k hd hk', xo _ _ _ (by omega) (by omega) (by omega) (by omega)]
        refine ⟨g1, t, ht, g2, ?_⟩
        rw [mo _ (by omega) (by omega) (by omega) (by omega) (by omega)]
        exact g3
    · have lt : ∀ d k, d < 4 → k < (if d = c then L + 1 else len d) → (d = c ∧ k = L) ∨ k < len d := by
        intro d k hd hk
        by_cases z' : d = c
        · subst z'
          simp only [if_true] at hk
          omega
        · simp only [if_neg z'] at hk
          exact Or.inr hk
      rcases lt d k hd hk with ⟨rfl, rfl⟩ | k1
      · rcases lt e l he' hl with ⟨rfl, rfl⟩ | l1
        · exact fun _ => ⟨rfl, rfl⟩
        · rw [m494, mo2 e l he' l1]
          exact fun w => absurd w.symm (hold e l he' l1)
      · rcases lt e l he' hl with ⟨rfl, rfl⟩ | l1
        · rw [m494, mo2 d k hd k1]
          exact fun w => absurd w (hold d k hd k1)
        · rw [mo2 d k hd k1, mo2 e l he' l1]
          exact hD d k e l hd he' k1 l1
theorem x_join {X : SM} (hc : c < 4) (hL : L < 6) (e : X 15 m c = nI L) : fn_X0_join m (nI c) (nI a) X = some (u1 (u1 X 14 (4 * m + c) L (nI a)) 15 m c (nI (L + 1))) := by
  unfold fn_X0_join
  simp only [if_neg (nI_pos (show c < 2 ^ 31 by omega)), if_pos (show nI c < 4 from nI_lt (b := 4) hc (by decide)), if_pos (g_inI hc (by decide)), nI_clamp (show c < 2 ^ 31 by omega), g_let_eq, e, if_neg (nI_pos (show L < 2 ^ 31 by omega)), if_neg (show ¬ (6 : Int32) ≤ nI L from nI_ge (b := 6) hL (by decide)), if_pos (in6 hL), cl6 hL, nI_1]
theorem m_join {y : Nat} {s : Int32} (ha : a < 6) (hc : c < 4) (hL : L < 6) (hy : y < 8) (eL : M 40 0 (518 + c) = nI L) : wb_X12_meets_86 (nI a) (nI c) (nI y) (nI q) s (438 + nI a) M = some (mJ M a c L s (nI q) (M 40 0 (8 * a + y))) := by
  unfold wb_X12_meets_86
  have hr : fn_X12_reg (nI a) (nI y) (u1 (u1 M 40 0 (438 + a) s) 40 0 (480 + a) (nI q)) = some (M 40 0 (8 * a + y)) := by rw [m_reg ha hy, u1_ne (by omega), u1_ne (by omega)]
  have h1 : u1 (u1 (u1 M 40 0 (438 + a) s) 40 0 (480 + a) (nI q)) 40 0 (687 + a) (M 40 0 (8 * a + y)) 40 0 (518 + c) = nI L := by rw [u1_ne (by omega), u1_ne (by omega), u1_ne (by omega), eL]
  have h2 : u1 (u1 (u1 (u1 M 40 0 (438 + a) s) 40 0 (480 + a) (nI q)) 40 0 (687 + a) (M 40 0 (8 * a + y))) 40 0 (494 + 6 * c + L) (nI a) 40 0 (518 + c) = nI L := by rw [u1_ne (by omega), h1]
  simp only [ix438, ix480, ix687, ix518, if_pos (in693 (show 438 + a < 693 by omega)), cl693 (show 438 + a < 693 by omega), if_pos (in693 (show 480 + a < 693 by omega)), cl693 (show 480 + a < 693 by omega), if_pos (in693 (show 687 + a < 693 by omega)), cl693 (show 687 + a < 693 by omega), if_pos (in693 (show 518 + c < 693 by omega)), cl693 (show 518 + c < 693 by omega), g_let_eq, hr, Option.bind_some, h1, ix494b, if_pos (in693 (show 494 + 6 * c + L < 693 by omega)), cl693 (show 494 + 6 * c + L < 693 by omega), h2, nI_1]
  rfl
end JN
