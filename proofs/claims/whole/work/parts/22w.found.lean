/-! found -/
theorem rR_f {m : Nat} {X X' M M' : SM} (hX : ∀ k i j, k ≠ 25 ∧ k ≠ 26 ∧ k ≠ 27 ∧ k ≠ 34 ∧ k ≠ 10 → X' k i j = X k i j) (hM : ∀ k j, 40 ≤ k ∧ k ≤ 46 → M' k 0 j = M k 0 j) (h : rR m X M) : rR m X' M' := ⟨rA_c (X := X) (M := M) (fun t r ht hr => hX _ _ _ (by omega)) (fun j hj => hM _ _ (by omega)) (rR_rA h), rB_c (X := X) (M := M) (fun t r ht hr => hX _ _ _ (by omega)) (fun j h1 h2 => hM _ _ (by omega)) (rR_rB h), rW_c (X := X) (M := M) (fun t r ht hr => hX _ _ _ (by omega)) (fun j h1 h2 => hM _ _ (by omega)) (rR_rW h), rL_c (X := X) (M := M) (fun t ht => hX _ _ _ (by omega)) (fun j h1 h2 => hM _ _ (by omega)) (rR_rL h), rP_c (X := X) (M := M) (fun t ht => hX _ _ _ (by omega)) (fun j h1 h2 => hM _ _ (by omega)) (rR_rP h), rK_c (X := X) (M := M) (fun t ht => hX _ _ _ (by omega)) (fun j h1 => hM _ _ (by omega)) (rR_rK h), rN_c (X := X) (M := M) (fun j hj => hX _ _ _ (by omega)) (fun j h1 h2 => hM _ _ (by omega)) (rR_rN h), rC_c (X := X) (M := M) (fun k t p h1 h2 ht hp => hX _ _ _ (by omega)) (fun j => hM _ _ (by omega)) (rR_rC h), rM_c (X := X) (M := M) (fun t ht => hX _ _ _ (by omega)) (fun t ht => hM _ _ (by omega)) (rR_rM h), rO_c (X := X) (M := M) (fun t ht => hX _ _ _ (by omega)) (fun t ht => hM _ _ (by omega)) (rR_rO h), rH_c (X := X) (M := M) (fun t ht => hX _ _ _ (by omega)) (fun t ht => hM _ _ (by omega)) (rR_rH h), rU_c (X := X) (M := M) (fun t ht => hX _ _ _ (by omega)) (rR_rU h), rQ_c (X := X) (M := M) (fun c k hc hk => hX _ _ _ (by omega)) (fun c hc => hX _ _ _ (by omega)) (fun j h1 h2 => hM _ _ (by omega)) (fun t ht hq => hM _ _ (by omega)) (rR_rQ h), rS_c (X := X) (M := M) (fun j hj => hX _ _ _ (by omega)) (fun j h1 h2 => hM _ _ (by omega)) (fun j h1 h2 => hM _ _ (by omega)) (rR_rS h), rZ_c (X := X) (M := M) (fun t p ht hp => hX _ _ _ (by omega)) (fun j h1 h2 => hM _ _ (by omega)) (fun j => hM _ _ (by omega)) (fun t ht => hM _ _ (by omega)) (rR_rZ h), rE_c (X := X) (M := M) (fun t j ht hj => hX _ _ _ (by omega)) (fun t ht => ⟨hM _ _ (by omega), hM _ _ (by omega), hM _ _ (by omega), hM _ _ (by omega)⟩) (fun j => hM _ _ (by omega)) (fun t ht => hM _ _ (by omega)) (rR_rE h), iC_c (M := M) (fun t ht => hM _ _ (by omega)) (fun j => hM _ _ (by omega)) (fun t ht => hM _ _ (by omega)) (rR_iC h), iT_c (M := M) (fun t ht => hM _ _ (by omega)) (rR_iT h), iL_c (M := M) (hM _ _ (by omega)) (rR_iL h), iO_c (M := M) (fun t ht => hM _ _ (by omega)) (rR_iO h), iK_c (M := M) (fun t ht => hM _ _ (by omega)) (rR_iK h), iE_c (M := M) (hM _ _ (by omega)) (rR_iE h)⟩
theorem rJ_f {b : Nat} {X M X' M' : SM} (f : fF X M X' M') (h : rJ b X M) : rJ b X' M' := by
  have hX : ∀ k i j, k ≠ 25 ∧ k ≠ 26 ∧ k ≠ 27 ∧ k ≠ 34 ∧ k ≠ 10 → X' k i j = X k i j := fun k i j q => f.1 k i j q.1 q.2.1 q.2.2.1 q.2.2.2.1 q.2.2.2.2
  have hM : ∀ k j, k ≠ 39 ∧ k ≠ 50 ∧ k ≠ 53 ∧ k ≠ 54 ∧ k ≠ 55 → M' k 0 j = M k 0 j := fun k j q => f.2.1 k 0 j q.2.2.1 q.2.2.2.1 q.2.2.2.2 q.2.1 (fun w => q.1 w.1)
  refine ⟨rR_f hX (fun k j q => hM k j (by omega)) h.1, ?_, f.2.2 h.2.2.1, fun t ht => ?_, gE_c (X := X) (M := M) (fun j => hX _ _ _ (by omega)) (fun j => hX _ _ _ (by omega)) (fun j _ _ => hM _ _ (by omega)) h.2.2.2.2.1, gW_c (X := X) (fun j => hX _ _ _ (by omega)) (fun t ht => hX _ _ _ (by omega)) h.2.2.2.2.2.1, ?_⟩
  · obtain ⟨e, h1, h2, h3, h4⟩ := h.2.1
    refine ⟨e, h1, (hX _ _ _ (by omega)).trans h2, (f.2.1 39 0 10 (by omega) (by omega) (by omega) (by omega) (by omega)).trans h3, fun i hi => ?_⟩
    rw [hX 23 0 i (by omega), hX 22 0 i (by omega), hX 24 0 i (by omega), hM 47 i (by omega), hM 48 i (by omega), hM 49 i (by omega)]
    exact h4 i hi
  · rw [hX 35 0 t (by omega), hX 36 0 t (by omega), hM 51 t (by omega), hM 52 t (by omega)]
    exact h.2.2.2.1 t ht
  · obtain ⟨n, hn, e⟩ := h.2.2.2.2.2.2
    exact ⟨n, hn, (hM 40 683 (by omega)).trans e⟩
theorem c_found {b : Nat} {X M : SM} (h : rJ b X M) : ∃ r X' M', fn_X11_found X = some (r, X') ∧ fn_X12_found M = some (r, M') ∧ rJ b X' M' := by
  have hq : ∀ t, t < 6 → M 52 0 t = nI ((fun t => (M 52 0 t).toNatClampNeg) t) ∧ (fun t => (M 52 0 t).toNatClampNeg) t ≤ 16 := by
    intro t ht
    obtain ⟨-, -, g, hg, e⟩ := h.2.2.2.1 t ht
    simp only [e, nI_clamp (show g < 2 ^ 31 by omega)]
    exact ⟨trivial, hg⟩
  generalize (fun t => (M 52 0 t).toNatClampNeg) = q at hq
  have hX : ∀ t, t < 6 → X 36 0 t = nI (q t) ∧ q t ≤ 16 := fun t ht => ⟨(h.2.2.2.1 t ht).2.1.trans (hq t ht).1, (hq t ht).2⟩
  have hb := gs_b q 6
  have fl : fF X (u1 M 39 0 15 0) (lx X 0) (lm (u1 M 39 0 15 0) 0) := ⟨fun k i j a b c d e => if_neg (fun w => a w.1), fun k i j a b c d e => if_neg (fun w => a w.1), id⟩
  unfold fn_X11_found fn_X6_find fn_X12_found fn_X12_isAsked fn_X12_isTooMuch
  rw [show wl_X6_find_5 1000 0 0 X = _ from find_loop (q := q) 6 0 X 1000 (by omega) (by omega) hX, g_let_eq, show wl_X12_isAsked_2 1000 0 (u1 M 39 0 15 0) = _ from asked_loop (q := q) 6 0 (u1 M 39 0 15 0) 1000 (by omega) (by omega) hq, show wl_X12_isTooMuch_4 1000 0 0 (u1 M 39 0 15 0) = _ from much_loop (q := q) 6 0 (u1 M 39 0 15 0) 1000 (by omega) (by omega) hq]
  have e0 : gs q 0 = 0 := rfl
  simp only [Option.bind_some, e0]
  by_cases z : gs q 6 = 0
  · simp only [z, if_true, if_pos (show nI 0 ≤ 720720 by decide), if_pos nI_0]
    refine ⟨_, _, _, rfl, rfl, rJ_f (X := X) (M := u1 M 39 0 15 0) ⟨fun k i j a b c d e => ?_, fun k i j a b c d e => ?_, fun _ => ⟨1, by omega, by omega, rfl, rfl, fun s hs => ?_⟩⟩ (rJ_thr h)⟩
    · show u1 (u1 (lx X 0) 10 0 1 1) 34 0 0 (-1) k i j = _
      rw [u1_k d, u1_k e]
      exact fl.1 k i j a b c d e
    · show u1 (u1 (u1 M 39 0 15 0) 39 0 12 1) 50 0 0 (-1) k i j = _
      rw [u1_k d, u1_ne (fun w => e ⟨w.1, w.2.2⟩)]
    · have : s = 0 := by omega
      subst this
      exact ⟨rfl, Or.inl rfl⟩
  · simp only [if_neg z, if_neg one0]
    by_cases y : nI (gs q 6) ≤ 720720
    · simp only [if_pos y, if_neg (nI_ne0 (show 0 < gs q 6 by omega) (show gs q 6 < 2 ^ 31 by omega)), if_true]
      have hne : ∃ i, i < 6 ∧ q i ≠ 0 := Classical.byContradiction fun w => z (by
        have hz : ∀ i, i < 6 → q i = 0 := fun i hi => Classical.byContradiction fun w' => w ⟨i, hi, w'⟩
        simp only [gs, hz 0 (by omega), hz 1 (by omega), hz 2 (by omega), hz 3 (by omega), hz 4 (by omega), hz 5 (by omega), if_true])
      obtain ⟨r, X', M', e1, e2, e3⟩ := search_loop hne 65 0 (lx X 0) (lm (u1 M 39 0 15 0) 0) 1000 1000 (by omega) (by omega) (by omega) hX hq (fun i hi => by
        have x1 : lx X 0 25 0 i = X 36 0 i := if_pos ⟨rfl, rfl, by omega, hi⟩
        have m1 : lm (u1 M 39 0 15 0) 0 53 0 i = M 52 0 i := if_pos ⟨rfl, rfl, by omega, hi⟩
        rw [x1, m1]
        exact (h.2.2.2.1 i hi).2.1) (fun p' i hp => absurd hp (Nat.not_lt_zero _)) (fun s hs => absurd hs (Nat.not_lt_zero _))
      unfold fn_X6_search
      rw [show wl_X6_search_2 1000 0 (lx X 0) = _ from e1, show wl_X12_found_37 1000 0 (u1 M 39 0 15 0) = _ from limit_loop 6 0 (u1 M 39 0 15 0) 1000 (by omega) (by omega)]
      exact ⟨_, _, _, rfl, e2, rJ_f (fF_trans fl e3) (rJ_thr h)⟩
    · simp only [if_neg y, if_neg one0]
      exact ⟨_, _, _, rfl, rfl, rJ_f (X := X) (M := u1 M 39 0 15 0) ⟨fl.1, fun _ _ _ _ _ _ _ _ => rfl, id⟩ (rJ_thr h)⟩
