/-! found: the search -/
def fT (X M : SM) : Prop := ∃ n, 1 ≤ n ∧ n ≤ 16 ∧ X 10 0 1 = nI n ∧ M 39 0 12 = nI n ∧ ∀ s, s < n → X 34 0 s = M 50 0 s ∧ (M 50 0 s = -1 ∨ ∃ t, t < 6 ∧ M 50 0 s = nI t)
def fF (X M X' M' : SM) : Prop := (∀ k i j, k ≠ 25 → k ≠ 26 → k ≠ 27 → k ≠ 34 → k ≠ 10 → X' k i j = X k i j) ∧ (∀ k i j, k ≠ 53 → k ≠ 54 → k ≠ 55 → k ≠ 50 → ¬ (k = 39 ∧ j = 12) → M' k i j = M k i j) ∧ (fT X M → fT X' M')
theorem fF_trans {X M X1 M1 X2 M2 : SM} (h : fF X M X1 M1) (h' : fF X1 M1 X2 M2) : fF X M X2 M2 := ⟨fun k i j a b c d e => (h'.1 k i j a b c d e).trans (h.1 k i j a b c d e), fun k i j a b c d e => (h'.2.1 k i j a b c d e).trans (h.2.1 k i j a b c d e), fun q => h'.2.2 (h.2.2 q)⟩
theorem search_loop {q : Nat → Nat} (hne : ∃ i, i < 6 ∧ q i ≠ 0) : ∀ (d p : Nat) (X M : SM) (f f' : Nat), p + d = 65 → d < f → d < f' → (∀ t, t < 6 → X 36 0 t = nI (q t) ∧ q t ≤ 16) → (∀ t, t < 6 → M 52 0 t = nI (q t) ∧ q t ≤ 16) → (∀ i, i < 6 → X 25 0 i = M 53 0 i) → (∀ p' i, p' < p → i < 6 → X 26 0 (6 * p' + i) = if q i = 0 then 0 else M 54 0 (6 * p' + i)) → (∀ s, s < p → X 27 0 s = M 55 0 s ∧ ∃ t, t < 6 ∧ M 55 0 s = nI t) → ∃ r X' M', wl_X6_search_2 f (nI p) X = some (r, X') ∧ wl_X12_found_63 f' (nI p) M = some (r, M') ∧ fF X M X' M' := by
  intro d
  induction d with
  | zero =>
    intro p X M f f' h1 h2 h3 hX hM hl hr ho
    obtain ⟨f, rfl⟩ : ∃ q, f = q + 1 := ⟨f - 1, by omega⟩
    obtain ⟨f', rfl⟩ : ∃ q, f' = q + 1 := ⟨f' - 1, by omega⟩
    have : p = 65 := by omega
    subst this
    exact ⟨3, X, M, rfl, rfl, fun _ _ _ _ _ _ _ _ => rfl, fun _ _ _ _ _ _ _ _ => rfl, id⟩
  | succ d ih =>
    intro p X M f f' h1 h2 h3 hX hM hl hr ho
    obtain ⟨f, rfl⟩ : ∃ q, f = q + 1 := ⟨f - 1, by omega⟩
    obtain ⟨f', rfl⟩ : ∃ q, f' = q + 1 := ⟨f' - 1, by omega⟩
    have hn : fn_X6_note (nI p) X = some (nx X q p 0) := note_loop (by omega) 6 0 X 1000 (by omega) (by omega) hX
    rw [wl_X6_search_2_s, wl_X12_found_63_s]
    unfold wb_X6_search_2 wb_X12_found_63
    rw [if_neg (show ¬ (64 : Int32) < nI p from nI_nlt (a := 64) (b := p) (by omega) (by decide)), if_neg (show ¬ (64 : Int32) < nI p from nI_nlt (a := 64) (b := p) (by omega) (by decide)), hn, show wl_X12_found_71 _ 1000 (nI p) 0 M = _ from left_loop (by omega) _ 6 0 M 1000 (by omega) (by omega)]
    have fr1 : fF X M (nx X q p 0) (nm M p 0) := ⟨fun k i j a b c d e => if_neg (fun w => b w.1), fun k i j a b c d e => if_neg (fun w => b w.1), id⟩
    have hr1 : ∀ p' i, p' ≤ p → i < 6 → nx X q p 0 26 0 (6 * p' + i) = if q i = 0 then 0 else nm M p 0 54 0 (6 * p' + i) := by
      intro p' i hp' hi
      by_cases z : p' = p
      · subst z
        have x1 : nx X q p' 0 26 0 (6 * p' + i) = if q i = 0 then 0 else X 25 0 i - nI p' := by
          unfold nx
          rw [if_pos ⟨rfl, rfl, by omega, by omega⟩, show 6 * p' + i - 6 * p' = i by omega]
        have m1 : nm M p' 0 54 0 (6 * p' + i) = M 53 0 i - nI p' := by
          unfold nm
          rw [if_pos ⟨rfl, rfl, by omega, by omega⟩, show 6 * p' + i - 6 * p' = i by omega]
        rw [x1, m1, hl i hi]
      · have x1 : nx X q p 0 26 0 (6 * p' + i) = X 26 0 (6 * p' + i) := by
          unfold nx
          exact if_neg (by omega)
        have m1 : nm M p 0 54 0 (6 * p' + i) = M 54 0 (6 * p' + i) := by
          unfold nm
          exact if_neg (by omega)
        rw [x1, m1]
        exact hr p' i (by omega) hi
    have hX1 : ∀ t, t < 6 → nx X q p 0 36 0 t = nI (q t) ∧ q t ≤ 16 := hX
    have hM1 : ∀ t, t < 6 → nm M p 0 52 0 t = nI (q t) ∧ q t ≤ 16 := hM
    have hl1 : ∀ i, i < 6 → nx X q p 0 25 0 i = nm M p 0 53 0 i := hl
    have ho1 : ∀ s, s < p → nx X q p 0 27 0 s = nm M p 0 55 0 s ∧ ∃ t, t < 6 ∧ nm M p 0 55 0 s = nI t := ho
    generalize nx X q p 0 = X1 at *
    generalize nm M p 0 = M1 at *
    rcases period_loop (by omega) hM1 hr1 (fun x1 M => wl_X12_found_63 f' x1 M) 16 1 1000 1000 (by omega) (by omega) (by omega) (by omega) with ⟨y1, y2⟩ | ⟨n, n1, n2, n3, y1, y2⟩
    · rw [show wl_X12_found_106 _ 1000 (nI p) (nI p - 1) M1 = _ from y2]
      simp only [Option.bind_some, show fn_X6_periodAt (nI p) X1 = some (-1) from y1, if_true]
      unfold wb_X12_found_175
      obtain ⟨res, r1, r2, r3⟩ := least_loop hX1 hM1 hl1 6 0 (-1) 1000 1000 (by omega) (by omega) (by omega) (Or.inl rfl)
      have r3' : ∃ t, t < 6 ∧ res = nI t := by
        rcases r3 with r3 | ⟨-, -, r3⟩
        · exact r3
        · obtain ⟨i, hi, hz⟩ := hne
          exact absurd (r3 i (Nat.zero_le _) hi) hz
      obtain ⟨t, ht, rfl⟩ := r3'
      rw [show fn_X6_leastLimit X1 = some (nI t) from r1, show fn_X12_leastLimit M1 = some (nI t) from r2]
      simp only [Option.bind_some, g_let_eq, isThread_in ht, if_neg one0, if_pos (in6 ht), cl6 ht, hl1 t ht, if_pos (g_inI (show p < 65 by omega) (by decide)), nI_clamp (show p < 2 ^ 31 by omega)]
      by_cases z : nI p < M1 53 0 t
      · simp only [if_pos z, nI_1]
        obtain ⟨r, X', M', e1, e2, e3⟩ := ih (p + 1) (u1 (u1 X1 27 0 p (nI t)) 25 0 t (nI (p + 1) + X1 36 0 t)) (u1 (u1 M1 55 0 p (nI t)) 53 0 t (nI (p + 1) + M1 52 0 t)) f f' (by omega) (by omega) (by omega) hX1 hM1 (fun i hi => by
            rw [(hX1 t ht).1, (hM1 t ht).1]
            exact u_pair (σ := u1 X1 27 0 p (nI t)) (ρ := u1 M1 55 0 p (nI t)) (hl1 i hi) (by omega)) (fun p' i hp' hi => hr1 p' i (by omega) hi) (fun s hs => by
            show u1 X1 27 0 p (nI t) 27 0 s = u1 M1 55 0 p (nI t) 55 0 s ∧ ∃ t', t' < 6 ∧ u1 M1 55 0 p (nI t) 55 0 s = nI t'
            by_cases w : s = p
            · subst w
              exact ⟨u1_self.trans u1_self.symm, t, ht, u1_self⟩
            · rw [u1_ne (fun y => w y.2.2), u1_ne (fun y => w y.2.2)]
              exact ho1 s (by omega))
        have fr2 : fF X1 M1 (u1 (u1 X1 27 0 p (nI t)) 25 0 t (nI (p + 1) + X1 36 0 t)) (u1 (u1 M1 55 0 p (nI t)) 53 0 t (nI (p + 1) + M1 52 0 t)) := ⟨fun k i j a b c d e => by rw [u1_k a, u1_k c], fun k i j a b c d e => by rw [u1_k a, u1_k c], id⟩
        exact ⟨r, X', M', e1, e2, fF_trans fr1 (fF_trans fr2 e3)⟩
      · simp only [if_neg z]
        exact ⟨_, _, _, rfl, rfl, fr1⟩
    · rw [show wl_X12_found_106 _ 1000 (nI p) (nI p - 1) M1 = _ from y2]
      have hnn : ¬ nI n = -1 := fun e => absurd (show nI n < 0 by rw [e]; decide) (nI_pos (by omega))
      obtain ⟨g, g', l1, l2, l3⟩ := fd_fill (n := n) (s := p - n) n2 (by omega) n 0 X1 (u1 M1 39 0 12 (nI n)) 1000 1000 (by omega) (by omega) (by omega) rfl (fun i hi => ho1 _ (by omega)) (fun i hi => absurd hi (Nat.not_lt_zero _))
      simp only [Option.bind_some, show fn_X6_periodAt (nI p) X1 = some (nI n) from y1, if_neg hnn, ni_sub n3]
      unfold fn_X6_fill
      rw [show wl_X6_fill_3 1000 (nI (p - n)) (nI n) 0 X1 = _ from l1]
      refine ⟨_, _, _, rfl, l2, fF_trans fr1 ⟨fun k i j a b c d e => ?_, fun k i j a b c d e => ?_, fun _ => ⟨n, n1, n2, rfl, rfl, l3⟩⟩⟩
      · rw [u1_k e, if_neg (fun w => d w.1)]
      · show (if k = 50 ∧ i = 0 then _ else _) = _
        rw [if_neg (fun w => d w.1), u1_ne (fun w => e ⟨w.1, w.2.2⟩)]
