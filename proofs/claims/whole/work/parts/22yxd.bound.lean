/-! bound, count, share -/
theorem rJ_20 {b : Nat} {X X' M : SM} (f : f20 X X') (h : rJ b X M) : rJ b X' M := by
  have hx : ∀ k i j, k ≠ 20 → X' k i j = X k i j := fun k i j q => f k i j (fun w => q w.1)
  refine ⟨rR_tr (m := 0) (X := X) (M := M) (fun t j _ _ => hx _ _ _ (by decide)) (fun t j _ _ => hx _ _ _ (by decide)) (fun t j _ _ => hx _ _ _ (by decide)) (fun t j _ _ _ => hx _ _ _ (by decide)) (fun t ht => (hx _ _ _ (by decide)).trans (rR_rU h.1 t ht)) (fun t j _ _ => hx _ _ _ (by decide)) (fun k t p _ _ _ _ => hx _ _ _ (by omega)) (fun t _ => hx _ _ _ (by decide)) (fun p _ => hx _ _ _ (by decide)) (fun p _ => hx _ _ _ (by decide)) (fun j _ _ => hx _ _ _ (by decide)) (fun c k _ _ => hx _ _ _ (by decide)) (fun c _ => hx _ _ _ (by decide)) (fun j _ => rfl) (fun k j _ _ => rfl) h.1, ?_, ?_, fun t ht => ?_, gE_c (X := X) (M := M) (fun j => hx _ _ _ (by decide)) (fun j => hx _ _ _ (by decide)) (fun j _ _ => rfl) h.2.2.2.2.1, gW_c (X := X) (fun j => hx _ _ _ (by decide)) (fun t ht => hx _ _ _ (by decide)) h.2.2.2.2.2.1, h.2.2.2.2.2.2⟩
  · obtain ⟨e, h1, h2, h3, h4⟩ := h.2.1
    refine ⟨e, h1, (hx _ _ _ (by decide)).trans h2, h3, fun i hi => ?_⟩
    rw [hx 23 0 i (by decide), hx 22 0 i (by decide), hx 24 0 i (by decide)]
    exact h4 i hi
  · obtain ⟨e, h1, h2, h3, h4, h5⟩ := h.2.2.1
    refine ⟨e, h1, h2, (hx _ _ _ (by decide)).trans h3, h4, fun i hi => ?_⟩
    rw [hx 34 0 i (by decide)]
    exact h5 i hi
  · rw [hx 35 0 t (by decide), hx 36 0 t (by decide)]
    exact h.2.2.2.1 t ht
theorem rJ_m20 {b : Nat} {X M : SM} {v : Int32} (h : rJ b X M) : rJ b X (u1 M 39 0 20 v) := h
/-- what the two sides find of a thread's code: whether it is plain, and how much a round takes -/
theorem d_code {b a : Nat} {X M : SM} (ha : a < 6) (h : rJ b X M) : ∃ r, fn_X2_isPlain (6 * 0 + a) X = some r ∧ fn_X12_isPlain (nI a) M = some r ∧ (r = 0 ∨ (r = 1 ∧ ∀ most : Bool, ∃ T X', 1 ≤ T ∧ T ≤ 999999 ∧ fn_X2_ofRound (6 * 0 + a) (if most = true then 1 else 0) X = some (nI T, X') ∧ f20 X X' ∧ ∀ τ, ∃ τ', fn_X12_counted (nI a) (if most = true then 1 else 0) M τ = some (nI T, u1 M 39 0 20 (if most = true then 1 else 0), τ'))) := by
  obtain ⟨n, kd, xx, yy, hn, en, hc⟩ := cd_ex h.1 ha
  have hx := xcd_of h.1 ha hn en hc
  obtain ⟨r, r1, r2⟩ := x_plain hn hx
  obtain ⟨r', r1', r2'⟩ := m_plain ha hn en hc
  rcases r2 with ⟨rfl, hp⟩ | ⟨rfl, hp⟩
  · rcases r2' with ⟨rfl, -⟩ | ⟨rfl, hp'⟩
    · refine ⟨1, r1, r1', Or.inr ⟨rfl, fun most => ?_⟩⟩
      obtain ⟨X', e1, e2⟩ := x_round (most := most) hp hn hx
      have hd := dist_pos most kd xx yy (p := 0) (e := n) hp.1 hn (fun w => ((hp.2 0 hp.1).2.1 w).1)
      refine ⟨mn (dist most kd xx yy 0 n), X', ?_, mn_le _, e1, e2, fun τ => m_counted hp ha hn en hc⟩
      unfold mn
      split <;> omega
    · exact absurd hp hp'
  · rcases r2' with ⟨rfl, hp'⟩ | ⟨rfl, -⟩
    · exact absurd hp' hp
    · exact ⟨0, r1, r1', Or.inl rfl⟩
/-- the ticks of so many turns, where a thread has a slot -/
theorem d_slot {b a : Nat} {X M : SM} (h : rJ b X M) : ∃ s : Int32, fn_X12_hasSlot (nI a) M = some s ∧ ((s = 0 ∧ ∀ T w, fn_X10_ticksOf (nI a) T w X = some (-1)) ∨ (s = 1 ∧ ∀ (T : Nat) w, 1 ≤ T → T ≤ 999999 → (T ≤ 100000 ∧ ∃ r, r < 2 ^ 31 ∧ fn_X10_ticksOf (nI a) (nI T) w X = some (nI r) ∧ fn_X12_spanOf (nI a) (nI T) w M = some (nI r)) ∨ (100000 < T ∧ fn_X10_ticksOf (nI a) (nI T) w X = some (-1)))) := by
  obtain ⟨n, q1, q2, e1, e2, e3⟩ := h.2.2.1
  have e3' : ∀ s, s < n → X 34 0 s = M 50 0 s := fun s hs => (e3 s hs).1
  by_cases z : cnt (M 50 0) (nI a) n = 0
  · exact ⟨0, by rw [m_hasSlot q2 e2, if_pos z], Or.inl ⟨rfl, fun T w => x_noslot q2 e1 e3' z⟩⟩
  · refine ⟨1, by rw [m_hasSlot q2 e2, if_neg z], Or.inr ⟨rfl, fun T w h1 h2 => ?_⟩⟩
    by_cases y : T ≤ 100000
    · obtain ⟨r, r0, r1, r2⟩ := d_span (s := w) h1 y q1 q2 e1 e2 e3' (Nat.pos_of_ne_zero z)
      exact Or.inl ⟨y, r, r0, r1, r2⟩
    · exact Or.inr ⟨by omega, x_noturn q2 e1 e3' (Or.inr (show ¬ nI T ≤ 100000 from nI_ge (a := 100000) (by omega) (by omega)))⟩
theorem t_100k {T : Nat} (h : T ≤ 100000) : nI T ≤ 100000 := nI_le (b := 100000) h (by decide)
theorem t_n100k {T : Nat} (h : 100000 < T) (h' : T ≤ 999999) : ¬ nI T ≤ 100000 := nI_ge (a := 100000) h (by omega)
theorem d_safe {b a : Nat} {X M : SM} (τ : SL) (ha : a < 6) (h : rJ b X M) : ∃ r X' M' τ', fn_X11_isSafe (nI a) X = some (r, X') ∧ fn_X12_isSafe (nI a) M τ = some (r, M', τ') ∧ rJ b X' M' := by
  unfold fn_X11_isSafe fn_X12_isSafe fn_X12_worstOf
  obtain ⟨r, p1, p2, p3⟩ := d_code ha h
  obtain ⟨s, s1, s2⟩ := d_slot (a := a) h
  simp only [if_pos (in6 ha), cl6 ha, g_let_eq, p1, p2, s1, Option.bind_some, (h.2.2.2.1 a ha).1]
  rcases rR_rH h.1 a ha with ⟨a1, a2⟩ | ⟨a1, a2⟩
  · simp only [a1, a2, if_true, if_neg one0]
    exact ⟨_, _, _, _, rfl, rfl, h⟩
  · simp only [a1, a2, if_true, if_neg one0]
    by_cases d0 : M 51 0 a = 0
    · simp only [if_pos d0]
      exact ⟨_, _, _, _, rfl, rfl, h⟩
    · simp only [if_neg d0]
      rcases p3 with rfl | ⟨rfl, p3⟩
      · simp only [if_true]
        split
        · exact ⟨_, _, _, _, rfl, rfl, h⟩
        · exact ⟨_, _, _, _, rfl, rfl, h⟩
      · obtain ⟨T, X1, t1, t2, t3, t4, t5⟩ := p3 true
        obtain ⟨τ1, t6⟩ := t5 τ
        have t3' : fn_X2_ofRound (6 * 0 + a) 1 X = some (nI T, X1) := t3
        have t6' : fn_X12_counted (nI a) 1 M τ = some (nI T, u1 M 39 0 20 1, τ1) := t6
        have hJ : rJ b X1 (u1 M 39 0 20 1) := rJ_m20 (rJ_20 t4 h)
        obtain ⟨s', s1', s2'⟩ := d_slot (a := a) hJ
        have hss : s' = s := by
          have e : fn_X12_hasSlot (nI a) (u1 M 39 0 20 1) = fn_X12_hasSlot (nI a) M := by
            obtain ⟨n, q1, q2, e1, e2, e3⟩ := h.2.2.1
            rw [m_hasSlot q2 e2, m_hasSlot (M := u1 M 39 0 20 1) q2 e2]
            rfl
          rw [e, s1] at s1'
          exact (Option.some.inj s1').symm
        subst hss
        have d51 : X1 35 0 a = M 51 0 a := (t4 _ _ _ (by omega)).trans (h.2.2.2.1 a ha).1
        have m51 : u1 M 39 0 20 1 51 0 a = M 51 0 a := rfl
        simp only [if_neg one0, t3', t6', Option.bind_some, d51, m51]
        rcases s2' with ⟨rfl, s3⟩ | ⟨rfl, s3⟩
        · simp only [s3, Option.bind_some, if_true]
          exact ⟨_, _, _, _, rfl, rfl, rJ_20 t4 h⟩
        · rcases s3 T 1 t1 t2 with ⟨u1', r, r0, r1, r2⟩ | ⟨u1', r1⟩
          · simp only [r1, r2, Option.bind_some, if_neg one0, if_pos (t_100k u1'), if_neg (nI_m1 r0), if_neg (nI_pos r0), m51]
            by_cases c : M 51 0 a < nI r
            · simp only [if_pos c]
              exact ⟨_, _, _, _, rfl, rfl, hJ⟩
            · simp only [if_neg c]
              exact ⟨_, _, _, _, rfl, rfl, hJ⟩
          · simp only [r1, Option.bind_some, if_neg one0, if_neg (t_n100k u1' t2), if_true, if_pos (show (-1 : Int32) < 0 by decide)]
            exact ⟨_, _, _, _, rfl, rfl, hJ⟩
