/-! bound, count, share: the calls -/
theorem c_bound {b : Nat} {X M : SM} (x1 x2 : Int32) (τ : SL) (h : rJ b X M) : ∃ r X' M' τ', fn_X11_bound x1 x2 X = some (r, X') ∧ fn_X12_bound x1 x2 M τ = some (r, M', τ') ∧ rJ b X' M' := by
  unfold fn_X11_bound fn_X12_bound fn_X12_worstOf
  simp only [g_let_eq]
  have hT := rJ_thr (v := 0) h
  generalize u1 M 39 0 15 0 = M at *
  rcases nI_cases x1 6 (by decide) with ⟨a, ha, rfl⟩ | ho
  · simp only [isThread_in ha, m_isThread_in ha, Option.bind_some, if_neg one0]
    by_cases h1 : x2 < 0
    · rw [if_pos h1, within_no1 h1]
      exact ⟨_, _, _, _, rfl, rfl, hT⟩
    · by_cases h2 : x2 ≤ 5
      · rw [if_neg h1, if_pos h2, within_yes h1 h2, if_neg one0]
        by_cases h5 : x2 = 5
        · obtain ⟨r, X', M', τ', e1, e2, e3⟩ := d_safe τ ha hT
          rw [if_pos h5, if_pos h5, e1, e2]
          simp only [Option.bind_some]
          by_cases z : r = 0
          · simp only [if_pos z]
            exact ⟨_, _, _, _, rfl, rfl, e3⟩
          · simp only [if_neg z]
            exact ⟨_, _, _, _, rfl, rfl, e3⟩
        · rw [if_neg h5, if_neg h5]
          obtain ⟨r, p1, p2, p3⟩ := d_code ha hT
          simp only [if_pos (in6 ha), cl6 ha, p1, p2, Option.bind_some]
          by_cases h0 : x2 = 0
          · simp only [if_pos h0]
            by_cases z : r = 0
            · simp only [if_pos z]
              exact ⟨_, _, _, _, rfl, rfl, hT⟩
            · simp only [if_neg z]
              exact ⟨_, _, _, _, rfl, rfl, hT⟩
          · simp only [if_neg h0]
            rcases p3 with rfl | ⟨rfl, p3⟩
            · simp only [if_true]
              exact ⟨_, _, _, _, rfl, rfl, hT⟩
            · simp only [if_neg one0]
              obtain ⟨s, s1, s2⟩ := d_slot (a := a) hT
              obtain ⟨T, X1, t1, t2, t3, t4, t5⟩ := p3 true
              obtain ⟨τ1, t6⟩ := t5 τ
              have t3' : fn_X2_ofRound (6 * 0 + a) 1 X = some (nI T, X1) := t3
              have t6' : fn_X12_counted (nI a) 1 M τ = some (nI T, u1 M 39 0 20 1, τ1) := t6
              obtain ⟨U, X2, v1, v2, v3, v4, v5⟩ := p3 false
              obtain ⟨τ2, v6⟩ := v5 τ
              have v3' : fn_X2_ofRound (6 * 0 + a) 0 X = some (nI U, X2) := v3
              have v6' : fn_X12_counted (nI a) 0 M τ = some (nI U, u1 M 39 0 20 0, τ2) := v6
              have hJ1 : rJ b X1 (u1 M 39 0 20 1) := rJ_m20 (rJ_20 t4 hT)
              have hJ2 : rJ b X2 (u1 M 39 0 20 0) := rJ_m20 (rJ_20 v4 hT)
              obtain ⟨m, hm, rfl⟩ := nI_of2 (M := 5) (n := 5) (by decide) h1 h2
              have hm4 : m = 1 ∨ m = 2 ∨ m = 3 ∨ m = 4 := by
                have : m ≠ 0 := fun w => h0 (by rw [w]; rfl)
                have : m ≠ 5 := fun w => h5 (by rw [w]; rfl)
                omega
              rcases hm4 with rfl | rfl | rfl | rfl
              · simp only [if_neg (show ¬ nI 1 = 2 by decide), if_neg (show ¬ nI 1 = 4 by decide), if_neg (show ¬ (2 : Int32) < nI 1 by decide), if_neg (show ¬ (3 : Int32) ≤ nI 1 by decide), v3', v6', Option.bind_some]
                exact ⟨_, _, _, _, rfl, rfl, hJ2⟩
              · simp only [if_pos (show nI 2 = 2 by decide), if_neg (show ¬ (2 : Int32) < nI 2 by decide), if_neg (show ¬ (3 : Int32) ≤ nI 2 by decide), t3', t6', Option.bind_some]
                exact ⟨_, _, _, _, rfl, rfl, hJ1⟩
              · simp only [if_neg (show ¬ nI 3 = 2 by decide), if_neg (show ¬ nI 3 = 4 by decide), if_pos (show (2 : Int32) < nI 3 by decide), if_pos (show (3 : Int32) ≤ nI 3 by decide), v3', v6', s1, Option.bind_some]
                obtain ⟨s', s1', s2'⟩ := d_slot (a := a) hJ2
                have hss : s' = s := by
                  have e : fn_X12_hasSlot (nI a) (u1 M 39 0 20 0) = fn_X12_hasSlot (nI a) M := by
                    obtain ⟨n, q1, q2, e1, e2, e3⟩ := hT.2.2.1
                    rw [m_hasSlot q2 e2, m_hasSlot (M := u1 M 39 0 20 0) q2 e2]
                    rfl
                  rw [e, s1] at s1'
                  exact (Option.some.inj s1').symm
                subst hss
                rcases s2' with ⟨rfl, s3⟩ | ⟨rfl, s3⟩
                · simp only [s3, Option.bind_some, if_true]
                  exact ⟨_, _, _, _, rfl, rfl, rJ_20 v4 hT⟩
                · rcases s3 U 0 v1 v2 with ⟨u1', r, r0, r1, r2⟩ | ⟨u1', r1⟩
                  · simp only [r1, r2, Option.bind_some, if_neg one0, if_pos (t_100k u1')]
                    exact ⟨_, _, _, _, rfl, rfl, hJ2⟩
                  · simp only [r1, Option.bind_some, if_neg one0, if_neg (t_n100k u1' v2)]
                    exact ⟨_, _, _, _, rfl, rfl, hJ2⟩
              · simp only [if_neg (show ¬ nI 4 = 2 by decide), if_pos (show nI 4 = 4 by decide), if_pos (show (2 : Int32) < nI 4 by decide), if_pos (show (3 : Int32) ≤ nI 4 by decide), t3', t6', s1, Option.bind_some]
                obtain ⟨s', s1', s2'⟩ := d_slot (a := a) hJ1
                have hss : s' = s := by
                  have e : fn_X12_hasSlot (nI a) (u1 M 39 0 20 1) = fn_X12_hasSlot (nI a) M := by
                    obtain ⟨n, q1, q2, e1, e2, e3⟩ := hT.2.2.1
                    rw [m_hasSlot q2 e2, m_hasSlot (M := u1 M 39 0 20 1) q2 e2]
                    rfl
                  rw [e, s1] at s1'
                  exact (Option.some.inj s1').symm
                subst hss
                rcases s2' with ⟨rfl, s3⟩ | ⟨rfl, s3⟩
                · simp only [s3, Option.bind_some, if_true]
                  exact ⟨_, _, _, _, rfl, rfl, rJ_20 t4 hT⟩
                · rcases s3 T 1 t1 t2 with ⟨u1', r, r0, r1, r2⟩ | ⟨u1', r1⟩
                  · simp only [r1, r2, Option.bind_some, if_neg one0, if_pos (t_100k u1')]
                    exact ⟨_, _, _, _, rfl, rfl, hJ1⟩
                  · simp only [r1, Option.bind_some, if_neg one0, if_neg (t_n100k u1' t2)]
                    exact ⟨_, _, _, _, rfl, rfl, hJ1⟩
      · rw [if_neg h1, if_neg h2, within_no2 h1 h2]
        exact ⟨_, _, _, _, rfl, rfl, hT⟩
  · rw [isThread_out ho, m_isThread_out ho]
    exact ⟨_, _, _, _, rfl, rfl, hT⟩
theorem safe_loop {b : Nat} : ∀ (d k : Nat) (x : Int32) (X M : SM) (τ : SL) (f f' : Nat), k + d = 6 → d < f → d < f' → rJ b X M → ∃ r X' M' τ', wl_X11_safeOnes_4 f x (nI k) X = some (r, X') ∧ wl_X12_setOf_4 f' 0 x (nI k) M τ = some (r, M', τ') ∧ rJ b X' M' := by
  intro d
  induction d with
  | zero =>
    intro k x X M τ f f' h1 h2 h3 h
    obtain ⟨f, rfl⟩ : ∃ q, f = q + 1 := ⟨f - 1, by omega⟩
    obtain ⟨f', rfl⟩ : ∃ q, f' = q + 1 := ⟨f' - 1, by omega⟩
    have : k = 6 := by omega
    subst this
    exact ⟨x, X, M, τ, rfl, rfl, h⟩
  | succ d ih =>
    intro k x X M τ f f' h1 h2 h3 h
    obtain ⟨f, rfl⟩ : ∃ q, f = q + 1 := ⟨f - 1, by omega⟩
    obtain ⟨f', rfl⟩ : ∃ q, f' = q + 1 := ⟨f' - 1, by omega⟩
    have hk : k < 6 := by omega
    obtain ⟨r, X1, M1, τ1, e1, e2, e3⟩ := d_safe τ hk h
    rw [wl_X11_safeOnes_4_s, wl_X12_setOf_4_s]
    unfold wb_X11_safeOnes_4 wb_X12_setOf_4
    simp only [if_neg (show ¬ (6 : Int32) ≤ nI k from nI_ge (b := 6) hk (by decide)), e1, e2, Option.bind_some, if_true, g_let_eq, nI_1]
    by_cases z : r = 0
    · simp only [if_pos z]
      exact ih (k + 1) x X1 M1 τ1 f f' (by omega) (by omega) (by omega) e3
    · simp only [if_neg z]
      exact ih (k + 1) _ X1 M1 τ1 f f' (by omega) (by omega) (by omega) e3
theorem spare_loop {n : Nat} {M : SM} (hn : n ≤ 16) (e2 : M 39 0 12 = nI n) (e3 : ∀ s, s < n → M 50 0 s = -1 ∨ ∃ t, t < 6 ∧ M 50 0 s = nI t) : ∀ (d k f : Nat), k + d = n → d < f → wl_X12_spares_4 f (nI (cnt (M 50 0) (-1) k)) (nI k) M = some (nI (cnt (M 50 0) (-1) n)) := by
  intro d
  induction d with
  | zero =>
    intro k f h1 h2
    obtain ⟨f, rfl⟩ : ∃ q, f = q + 1 := ⟨f - 1, by omega⟩
    have : k = n := by omega
    subst this
    rw [wl_X12_spares_4_s]
    unfold wb_X12_spares_4
    rw [e2, if_pos (nI_le (Nat.le_refl k) (by omega))]
  | succ d ih =>
    intro k f h1 h2
    obtain ⟨f, rfl⟩ : ∃ q, f = q + 1 := ⟨f - 1, by omega⟩
    have hk : k < n := by omega
    have ihk := ih (k + 1) f (by omega) (by omega)
    rw [wl_X12_spares_4_s]
    unfold wb_X12_spares_4
    simp only [e2, if_neg (nI_ge hk (show n < 2 ^ 31 by omega)), if_pos (g_inI (show k < 16 by omega) (by decide)), nI_clamp (show k < 2 ^ 31 by omega), g_let_eq, nI_1]
    rw [show cnt (M 50 0) (-1) (k + 1) = cnt (M 50 0) (-1) k + (if M 50 0 k = -1 then 1 else 0) from rfl] at ihk
    rcases e3 k hk with q | ⟨t, ht, q⟩
    · rw [if_pos q] at ihk
      rw [q, if_neg (show ¬ (0 : Int32) ≤ -1 by decide)]
      exact ihk
    · rw [if_neg (by rw [q]; exact nI_m1 (by omega))] at ihk
      rw [q, if_pos (nI_pos' (by omega))]
      exact ihk
theorem c_count {b : Nat} {X M : SM} (x1 : Int32) (τ : SL) (h : rJ b X M) : ∃ r X' M' τ', fn_X11_count x1 X = some (r, X') ∧ fn_X12_count x1 M τ = some (r, M', τ') ∧ rJ b X' M' := by
  unfold fn_X11_count fn_X12_count
  simp only [g_let_eq]
  have hT := rJ_thr (v := 0) h
  generalize u1 M 39 0 15 0 = M at *
  obtain ⟨n, q1, q2, e1, e2, e3⟩ := hT.2.2.1
  obtain ⟨ne, ke, g1, g2, g3, g4, g5, -⟩ := hT.2.2.2.2.1
  obtain ⟨ev, v1, v2, v3, -⟩ := hT.2.1
  have hN := rR_rN hT.1
  have hS := rR_rS hT.1
  by_cases k0 : x1 = 0
  · simp only [if_pos k0, hN.1]
    exact ⟨_, _, _, _, rfl, rfl, hT⟩
  simp only [if_neg k0]
  by_cases k1 : x1 = 1
  · simp only [if_pos k1, e1, e2]
    exact ⟨_, _, _, _, rfl, rfl, hT⟩
  simp only [if_neg k1]
  by_cases k2 : x1 = 2
  · simp only [if_pos k2]
    rw [x_owned q2 e1 (fun s hs => (e3 s hs).1)]
    unfold fn_X12_spares
    rw [show wl_X12_spares_4 1000 0 0 M = _ from spare_loop q2 e2 (fun s hs => (e3 s hs).2) n 0 1000 (by omega) (by omega)]
    exact ⟨_, _, _, _, rfl, rfl, hT⟩
  simp only [if_neg k2]
  by_cases k3 : x1 = 3
  · simp only [if_pos k3, hS.1, show fn_X12_allOf 456 M = _ from m_allOf (o := 456) (by omega)]
    exact ⟨_, _, _, _, rfl, rfl, hT⟩
  simp only [if_neg k3]
  by_cases k4 : x1 = 4
  · simp only [if_pos k4, hN.2.1]
    exact ⟨_, _, _, _, rfl, rfl, hT⟩
  simp only [if_neg k4]
  by_cases k5 : x1 = 5
  · simp only [if_pos k5, hS.2.1, show fn_X12_allOf 450 M = _ from m_allOf (o := 450) (by omega)]
    exact ⟨_, _, _, _, rfl, rfl, hT⟩
  simp only [if_neg k5]
  by_cases k6 : x1 = 6
  · simp only [if_pos k6, g4, g5]
    exact ⟨_, _, _, _, rfl, rfl, hT⟩
  simp only [if_neg k6]
  by_cases k7 : x1 = 7
  · simp only [if_pos k7, v2, v3]
    exact ⟨_, _, _, _, rfl, rfl, hT⟩
  simp only [if_neg k7]
  by_cases k8 : x1 = 8
  · simp only [if_pos k8, hS.2.2, show fn_X12_allOf 474 M = _ from m_allOf (o := 474) (by omega)]
    exact ⟨_, _, _, _, rfl, rfl, hT⟩
  simp only [if_neg k8]
  by_cases k9 : x1 = 9
  · simp only [if_pos k9, hN.2.2.1]
    exact ⟨_, _, _, _, rfl, rfl, hT⟩
  simp only [if_neg k9]
  by_cases k10 : x1 = 10
  · obtain ⟨r, r1, r2⟩ := trap_loop (τ := τ) hT.1 6 0 0 1000 1000 (by omega) (by omega) (by omega)
    simp only [if_pos k10]
    unfold fn_X7_trapped fn_X12_setOf
    rw [show wl_X7_trapped_4 1000 0 0 0 X = _ from r1, show wl_X12_setOf_4 1000 1 0 0 M τ = _ from r2]
    exact ⟨_, _, _, _, rfl, rfl, hT⟩
  simp only [if_neg k10]
  by_cases k11 : x1 = 11
  · obtain ⟨r, X', M', τ', r1, r2, r3⟩ := safe_loop 6 0 0 X M τ 1000 1000 (by omega) (by omega) (by omega) hT
    simp only [if_pos k11]
    unfold fn_X11_safeOnes fn_X12_setOf
    rw [show wl_X11_safeOnes_4 1000 0 0 X = _ from r1, show wl_X12_setOf_4 1000 0 0 0 M τ = _ from r2]
    exact ⟨_, _, _, _, rfl, rfl, r3⟩
  simp only [if_neg k11]
  by_cases k12 : x1 = 12
  · simp only [if_pos k12, hN.2.2.2]
    exact ⟨_, _, _, _, rfl, rfl, hT⟩
  simp only [if_neg k12]
  exact ⟨_, _, _, _, rfl, rfl, hT⟩
theorem c_share {b : Nat} {X M : SM} (x1 : Int32) (hb : b < 2 ^ 30) (h : rJ b X M) : ∃ r M', fn_X11_share x1 X = some r ∧ fn_X12_share x1 M = some (r, M') ∧ rJ b X M' := by
  unfold fn_X11_share fn_X12_share
  simp only [g_let_eq]
  have hT := rJ_thr (v := 0) h
  generalize u1 M 39 0 15 0 = M at *
  obtain ⟨n, hn, en⟩ := hT.2.2.2.2.2.2
  rcases nI_cases x1 6 (by decide) with ⟨a, ha, rfl⟩ | ho
  · simp only [isThread_in ha, m_isThread_in ha, Option.bind_some, if_neg one0, (rR_rN hT.1).1, en, if_pos (in6 ha), cl6 ha, ix450, if_pos (in693 (show 450 + a < 693 by omega)), cl693 (show 450 + a < 693 by omega), f_ratio, show X 9 (6 * 0 + a) 11 = M 40 0 (450 + a) from rR_rW hT.1 a 3 ha (by omega)]
    by_cases z : n = 0
    · subst z
      exact ⟨_, _, rfl, rfl, hT⟩
    · rw [if_neg (nI_ne0 (by omega) (by omega)), if_neg (nI_nle (by omega) (by omega))]
      exact ⟨_, _, rfl, rfl, hT⟩
  · rw [isThread_out ho, m_isThread_out ho]
    exact ⟨_, _, rfl, rfl, hT⟩
