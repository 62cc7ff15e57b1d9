/-! a thread leaves one queue, and all of them -/
theorem rR_q {m : Nat} {X X' M M' : SM} (hX : ∀ k i j, k ≠ 14 → k ≠ 15 → X' k i j = X k i j) (hM : ∀ j, j < 494 ∨ 522 ≤ j → M' 40 0 j = M 40 0 j) (hK : ∀ k j, k ≠ 40 → M' k 0 j = M k 0 j) (hQ : rQ m X' M') (h : rR m X M) : rR m X' M' := by
  refine ⟨rA_c (X := X) (M := M) (fun t r ht hr => hX _ _ _ (by decide) (by decide)) (fun j hj => hM j (by omega)) (rR_rA h), rB_c (X := X) (M := M) (fun t r ht hr => hX _ _ _ (by decide) (by decide)) (fun j h1 h2 => hM j (by omega)) (rR_rB h), rW_c (X := X) (M := M) (fun t r ht hr => hX _ _ _ (by decide) (by decide)) (fun j h1 h2 => hM j (by omega)) (rR_rW h), rL_c (X := X) (M := M) (fun t ht => hX _ _ _ (by decide) (by decide)) (fun j h1 h2 => hM j (by omega)) (rR_rL h), rP_c (X := X) (M := M) (fun t ht => hX _ _ _ (by decide) (by decide)) (fun j h1 h2 => hM j (by omega)) (rR_rP h), rK_c (X := X) (M := M) (fun t ht => hX _ _ _ (by decide) (by decide)) (fun j h1 => hK _ _ (by decide)) (rR_rK h), rN_c (X := X) (M := M) (fun j hj => hX _ _ _ (by decide) (by decide)) (fun j h1 h2 => hM j (by omega)) (rR_rN h), rC_c (X := X) (M := M) (fun k t p h1 h2 ht hp => hX _ _ _ (by omega) (by omega)) (fun j => hK _ _ (by decide)) (rR_rC h), rM_c (X := X) (M := M) (fun t ht => hX _ _ _ (by decide) (by decide)) (fun t ht => hK _ _ (by decide)) (rR_rM h), rO_c (X := X) (M := M) (fun t ht => hX _ _ _ (by decide) (by decide)) (fun t ht => hK _ _ (by decide)) (rR_rO h), rH_c (X := X) (M := M) (fun t ht => hX _ _ _ (by decide) (by decide)) (fun t ht => hK _ _ (by decide)) (rR_rH h), rU_c (X := X) (M := M) (fun t ht => hX _ _ _ (by decide) (by decide)) (rR_rU h), hQ, rS_c (X := X) (M := M) (fun j hj => hX _ _ _ (by decide) (by decide)) (fun j h1 h2 => hM j (by omega)) (fun j h1 h2 => hM j (by omega)) (rR_rS h), rZ_c (X := X) (M := M) (fun t p ht hp => hX _ _ _ (by decide) (by decide)) (fun j h1 h2 => hM j (by omega)) (fun j => hK _ _ (by decide)) (fun t ht => hK _ _ (by decide)) (rR_rZ h), rE_c (X := X) (M := M) (fun t j ht hj => hX _ _ _ (by decide) (by decide)) (fun t ht => ⟨hM _ (by omega), hM _ (by omega), hM _ (by omega), hM _ (by omega)⟩) (fun j => hK _ _ (by decide)) (fun t ht => hK _ _ (by decide)) (rR_rE h), iC_c (M := M) (fun t ht => hM _ (by omega)) (fun j => hK _ _ (by decide)) (fun t ht => hK _ _ (by decide)) (rR_iC h), iT_c (M := M) (fun t ht => hM _ (by omega)) (rR_iT h), iL_c (M := M) (hM _ (by omega)) (rR_iL h), iO_c (M := M) (fun t ht => hK _ _ (by decide)) (rR_iO h), iK_c (M := M) (fun t ht => hK _ _ (by decide)) (rR_iK h), iE_c (M := M) (hM _ (by omega)) (rR_iE h)⟩
/-- thread t stands not in queue c -/
def nq (M : SM) (t c : Nat) : Prop := ∀ n k, n ≤ 6 → M 40 0 (518 + c) = nI n → k < n → M 40 0 (494 + 6 * c + k) ≠ nI t
theorem p_leave {m c t : Nat} {X M : SM} (hc : c < 4) (h : rR m X M) (k2 : Int32 → Int32 → SM → Option SM) : ∃ (n : Nat) (g g' : Nat → Int32), fn_X0_leave m (nI c) (nI t) X = some (xq X m c g n) ∧ wl_X12_leaves_12 k2 1000 (nI t) (nI c) 0 0 M = k2 (nI t) (nI c + 1) (mq M c g' n) ∧ rR m (xq X m c g n) (mq M c g' n) ∧ nq (mq M c g' n) t c := by
  obtain ⟨len, ha, hb, hd⟩ := rR_rQ h
  obtain ⟨q1, q2, q3⟩ := ha c hc
  obtain ⟨L', φ, g, g', l1, l2, l3, l4, l5⟩ := leave_loop (m := m) (v := nI t) (ρ := fun k => M 40 0 (494 + 6 * c + k)) hc q3 k2 (len c) 0 0 (fun k => k) X M 1000 1000 (by omega) (by omega) (by omega) (by omega) q1 q2 (fun k _ hk => ⟨(hb c k hc hk).1, rfl⟩) (fun k hk => absurd hk (Nat.not_lt_zero _)) (fun k l _ hl => absurd hl (Nat.not_lt_zero _))
  have xk : ∀ k i j, k ≠ 14 → k ≠ 15 → xq X m c g L' k i j = X k i j := fun k i j h1 h2 => by
    unfold xq
    rw [if_neg (fun q => h1 q.1), u1_k h2]
  have mM : ∀ j, ¬ ((494 + 6 * c ≤ j ∧ j < 500 + 6 * c) ∨ j = 518 + c) → mq M c g' L' 40 0 j = M 40 0 j := fun j hj => by
    unfold mq
    rw [if_neg (by omega), u1_ne (by omega)]
  have mg : ∀ k, k < 6 → mq M c g' L' 40 0 (494 + 6 * c + k) = g' k := fun k hk => by
    unfold mq
    rw [if_pos ⟨rfl, rfl, by omega, by omega⟩, show 494 + 6 * c + k - (494 + 6 * c) = k by omega]
  have ml : mq M c g' L' 40 0 (518 + c) = nI L' := by
    unfold mq
    rw [if_neg (by omega), u1_self]
  have mK : ∀ k j, k ≠ 40 → mq M c g' L' k 0 j = M k 0 j := fun k j hk => by
    unfold mq
    rw [if_neg (fun q => hk q.1), u1_k hk]
  have xg : ∀ k, k < 6 → xq X m c g L' 14 (4 * m + c) k = g k := fun k hk => if_pos ⟨rfl, rfl, hk⟩
  have xo : ∀ d k, d ≠ c → xq X m c g L' 14 (4 * m + d) k = X 14 (4 * m + d) k := fun d k hd' => by
    unfold xq
    rw [if_neg (by omega), u1_k (by decide)]
  have xl : xq X m c g L' 15 m c = nI L' := by
    unfold xq
    rw [if_neg (by omega), u1_self]
  have xlo : ∀ d, d ≠ c → xq X m c g L' 15 m d = X 15 m d := fun d hd' => by
    unfold xq
    rw [if_neg (by omega), u1_ne (fun q => hd' q.2.2)]
  refine ⟨L', g, g', ?_, l3, rR_q xk (fun j hj => mM j (by omega)) mK ?_ h, ?_⟩
  · unfold fn_X0_leave
    simp only [if_neg (nI_pos (show c < 2 ^ 31 by omega)), if_pos (show nI c < 4 from nI_lt (b := 4) hc (by decide)), if_pos (g_inI hc (by decide)), nI_clamp (show c < 2 ^ 31 by omega), g_let_eq]
    exact l2
  · refine ⟨fun d => if d = c then L' else len d, fun d hd' => ?_, fun d k hd' hk => ?_, fun d k e l hd' he hk hl => ?_⟩
    · by_cases z : d = c
      · subst z
        simp only [if_true]
        exact ⟨xl, ml, by omega⟩
      · simp only [if_neg z]
        rw [xlo d z, mM _ (by omega)]
        exact ha d hd'
    · by_cases z : d = c
      · subst z
        simp only [if_true] at hk
        obtain ⟨y1, y2, y3, y4⟩ := l4 k hk
        obtain ⟨p1, t', ht', p2, p3⟩ := hb d (φ k) hd' y3
        rw [xg k (by omega), mg k (by omega), y1, y2]
        refine ⟨rfl, t', ht', p2, ?_⟩
        rw [mM _ (by omega)]
        exact p3
      · simp only [if_neg z] at hk
        have hl' := (ha d hd').2.2
        obtain ⟨p1, t', ht', p2, p3⟩ := hb d k hd' hk
        rw [xo d k z, mM _ (by omega)]
        refine ⟨p1, t', ht', p2, ?_⟩
        rw [mM _ (by omega)]
        exact p3
    · by_cases z : d = c
      · by_cases z' : e = c
        · subst z
          subst z'
          simp only [if_true] at hk hl
          rw [mg k (by omega), mg l (by omega), (l4 k hk).2.1, (l4 l hl).2.1]
          intro q
          have f1 := (hd _ _ _ _ hd' he (l4 k hk).2.2.1 (l4 l hl).2.2.1 q).2
          refine ⟨rfl, ?_⟩
          rcases Nat.lt_trichotomy k l with y | y | y
          · exact absurd f1 (Nat.ne_of_lt (l5 k l y hl))
          · exact y
          · exact absurd f1.symm (Nat.ne_of_lt (l5 l k y hk))
        · subst z
          simp only [if_true] at hk
          simp only [if_neg z'] at hl
          have hl' := (ha e he).2.2
          rw [mg k (by omega), mM _ (by omega), (l4 k hk).2.1]
          intro q
          exact absurd (hd _ _ _ _ hd' he (l4 k hk).2.2.1 hl q).1.symm z'
      · by_cases z' : e = c
        · subst z'
          simp only [if_true] at hl
          simp only [if_neg z] at hk
          have hl' := (ha d hd').2.2
          rw [mg l (by omega), mM _ (by omega), (l4 l hl).2.1]
          intro q
          exact absurd (hd _ _ _ _ hd' he hk (l4 l hl).2.2.1 q).1 z
        · simp only [if_neg z] at hk
          simp only [if_neg z'] at hl
          have hl1 := (ha d hd').2.2
          have hl2 := (ha e he).2.2
          rw [mM _ (by omega), mM _ (by omega)]
          exact hd d k e l hd' he hk hl
  · intro n k hn e hk
    have : n = L' := (nI_eq (by omega) (by omega)).mp (e.symm.trans ml)
    subst this
    rw [mg k (by omega), (l4 k hk).2.1]
    exact (l4 k hk).2.2.2
