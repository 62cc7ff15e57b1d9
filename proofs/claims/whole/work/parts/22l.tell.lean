/-! tell -/
theorem p_tell {m a n kk : Nat} {k x y z : Int32} {X M : SM} (ha : a < 6) (hn : n < 24) (e : M 43 0 a = nI n) (hk : kk ≤ 20) (ek : k = nI kk) (hc : fn_X12_canTell (nI kk) x y z (nI n) = some 1) (h : rR m X M) : rR m (u1 (u1 (u1 (u1 (u1 X 16 (6 * m + a) n k) 17 (6 * m + a) n x) 18 (6 * m + a) n y) 19 (6 * m + a) n z) 1 (6 * m + a) 4 (nI (n + 1))) (u1 (u1 (u1 (u1 (u1 M 42 0 (4 * (24 * a + n)) k) 42 0 (4 * (24 * a + n) + 1) x) 42 0 (4 * (24 * a + n) + 2) y) 42 0 (4 * (24 * a + n) + 3) z) 43 0 a (nI (n + 1))) := by
  have q42 : ∀ j, ¬ (4 * (24 * a + n) ≤ j ∧ j < 4 * (24 * a + n) + 4) → (u1 (u1 (u1 (u1 (u1 M 42 0 (4 * (24 * a + n)) k) 42 0 (4 * (24 * a + n) + 1) x) 42 0 (4 * (24 * a + n) + 2) y) 42 0 (4 * (24 * a + n) + 3) z) 43 0 a (nI (n + 1))) 42 0 j = M 42 0 j := fun j hj => by
    show u1 (u1 (u1 (u1 M 42 0 (4 * (24 * a + n)) k) 42 0 (4 * (24 * a + n) + 1) x) 42 0 (4 * (24 * a + n) + 2) y) 42 0 (4 * (24 * a + n) + 3) z 42 0 j = _
    rw [u1_ne (by omega), u1_ne (by omega), u1_ne (by omega), u1_ne (by omega)]
  have q43 : ∀ t, ¬ t = a → (u1 (u1 (u1 (u1 (u1 M 42 0 (4 * (24 * a + n)) k) 42 0 (4 * (24 * a + n) + 1) x) 42 0 (4 * (24 * a + n) + 2) y) 42 0 (4 * (24 * a + n) + 3) z) 43 0 a (nI (n + 1))) 43 0 t = M 43 0 t := fun t ht => u1_ne (fun q => ht q.2.2)
  have q43' : (u1 (u1 (u1 (u1 (u1 M 42 0 (4 * (24 * a + n)) k) 42 0 (4 * (24 * a + n) + 1) x) 42 0 (4 * (24 * a + n) + 2) y) 42 0 (4 * (24 * a + n) + 3) z) 43 0 a (nI (n + 1))) 43 0 a = nI (n + 1) := u1_self
  have v0 : (u1 (u1 (u1 (u1 (u1 M 42 0 (4 * (24 * a + n)) k) 42 0 (4 * (24 * a + n) + 1) x) 42 0 (4 * (24 * a + n) + 2) y) 42 0 (4 * (24 * a + n) + 3) z) 43 0 a (nI (n + 1))) 42 0 (4 * (24 * a + n)) = k := by
    show u1 (u1 (u1 (u1 M 42 0 (4 * (24 * a + n)) k) 42 0 (4 * (24 * a + n) + 1) x) 42 0 (4 * (24 * a + n) + 2) y) 42 0 (4 * (24 * a + n) + 3) z 42 0 _ = _
    rw [u1_ne (by omega), u1_ne (by omega), u1_ne (by omega), u1_self]
  have v1 : (u1 (u1 (u1 (u1 (u1 M 42 0 (4 * (24 * a + n)) k) 42 0 (4 * (24 * a + n) + 1) x) 42 0 (4 * (24 * a + n) + 2) y) 42 0 (4 * (24 * a + n) + 3) z) 43 0 a (nI (n + 1))) 42 0 (4 * (24 * a + n) + 1) = x := by
    show u1 (u1 (u1 (u1 M 42 0 (4 * (24 * a + n)) k) 42 0 (4 * (24 * a + n) + 1) x) 42 0 (4 * (24 * a + n) + 2) y) 42 0 (4 * (24 * a + n) + 3) z 42 0 _ = _
    rw [u1_ne (by omega), u1_ne (by omega), u1_self]
  have v2 : (u1 (u1 (u1 (u1 (u1 M 42 0 (4 * (24 * a + n)) k) 42 0 (4 * (24 * a + n) + 1) x) 42 0 (4 * (24 * a + n) + 2) y) 42 0 (4 * (24 * a + n) + 3) z) 43 0 a (nI (n + 1))) 42 0 (4 * (24 * a + n) + 2) = y := by
    show u1 (u1 (u1 (u1 M 42 0 (4 * (24 * a + n)) k) 42 0 (4 * (24 * a + n) + 1) x) 42 0 (4 * (24 * a + n) + 2) y) 42 0 (4 * (24 * a + n) + 3) z 42 0 _ = _
    rw [u1_ne (by omega), u1_self]
  have v3 : (u1 (u1 (u1 (u1 (u1 M 42 0 (4 * (24 * a + n)) k) 42 0 (4 * (24 * a + n) + 1) x) 42 0 (4 * (24 * a + n) + 2) y) 42 0 (4 * (24 * a + n) + 3) z) 43 0 a (nI (n + 1))) 42 0 (4 * (24 * a + n) + 3) = z := by
    show u1 (u1 (u1 (u1 M 42 0 (4 * (24 * a + n)) k) 42 0 (4 * (24 * a + n) + 1) x) 42 0 (4 * (24 * a + n) + 2) y) 42 0 (4 * (24 * a + n) + 3) z 42 0 _ = _
    rw [u1_self]
  have lift : ∀ t p, t < 6 → nI p < M 43 0 t → p < 24 → nI p < (u1 (u1 (u1 (u1 (u1 M 42 0 (4 * (24 * a + n)) k) 42 0 (4 * (24 * a + n) + 1) x) 42 0 (4 * (24 * a + n) + 2) y) 42 0 (4 * (24 * a + n) + 3) z) 43 0 a (nI (n + 1))) 43 0 t ∧ ¬ (t = a ∧ p = n) := by
    intro t p ht hp hp'
    by_cases q : t = a
    · subst q
      rw [e] at hp
      have := (nI_ltI (by omega) (by omega)).mp hp
      rw [q43']
      exact ⟨nI_lt (by omega) (by omega), by omega⟩
    · rw [q43 t q]
      exact ⟨hp, fun w => q w.1⟩
  refine ⟨rR_rA (X := X) (M := M) h, rR_rB (X := X) (M := M) h, rR_rW (X := X) (M := M) h, rR_rL (X := X) (M := M) h, rR_rP (X := X) (M := M) h, rR_rK (X := X) (M := M) h, rR_rN (X := X) (M := M) h, fun t p ht hp => ?_, fun t ht => ?_, rR_rO (X := X) (M := M) h, rR_rH (X := X) (M := M) h, rR_rU (X := X) (M := M) h, rR_rQ (X := X) (M := M) h, rR_rS (X := X) (M := M) h, fun t p ht hp => ?_, fun t ht => ?_, fun t ht => ?_, rR_iT (X := X) (M := M) h, rR_iL (X := X) (M := M) h, rR_iO (X := X) (M := M) h, rR_iK (X := X) (M := M) h, rR_iE (X := X) (M := M) h⟩
  · obtain ⟨c1, c2, c3, c4⟩ := rR_rC h t p ht hp
    by_cases q : t = a ∧ p = n
    · obtain ⟨rfl, rfl⟩ := q
      rw [v0, v1, v2, v3]
      exact ⟨u1_self, u1_self, u1_self, u1_self⟩
    · rw [q42 _ (by omega), q42 _ (by omega), q42 _ (by omega), q42 _ (by omega)]
      exact ⟨(show u1 X 16 (6 * m + a) n k 16 (6 * m + t) p = X 16 (6 * m + t) p from u1_ne (by omega)).trans c1, (show u1 X 17 (6 * m + a) n x 17 (6 * m + t) p = X 17 (6 * m + t) p from u1_ne (by omega)).trans c2, (show u1 X 18 (6 * m + a) n y 18 (6 * m + t) p = X 18 (6 * m + t) p from u1_ne (by omega)).trans c3, (show u1 X 19 (6 * m + a) n z 19 (6 * m + t) p = X 19 (6 * m + t) p from u1_ne (by omega)).trans c4⟩
  · show u1 X 1 (6 * m + a) 4 (nI (n + 1)) 1 (6 * m + t) 4 = u1 M 43 0 a (nI (n + 1)) 43 0 t
    exact u_pair (rR_rM h t ht) (by omega)
  · rcases rR_rZ h t p ht hp with z1 | ⟨g, x', z1, z2, z3, z4, z5, z6, z7⟩
    · exact Or.inl z1
    · obtain ⟨l1, l2⟩ := lift t p ht z4 hp
      refine Or.inr ⟨g, x', z1, z2, z3, l1, z5, ?_, z7⟩
      rw [q42 _ (by omega)]
      exact z6
  · obtain ⟨f1, f2⟩ := rR_rE h t ht
    refine ⟨f1, fun q => ?_⟩
    obtain ⟨w', g1, g2, g3, g4⟩ := f2 q
    obtain ⟨l1, l2⟩ := lift t w' ht g3 g1
    refine ⟨w', g1, g2, l1, ?_⟩
    rw [q42 (4 * (24 * t + w')) (by omega), q42 (4 * (24 * t + w') + 1) (by omega), q42 (4 * (24 * t + w') + 2) (by omega)]
    exact g4
  · by_cases q : t = a
    · subst q
      obtain ⟨n', g1, g2, g3, q', g4, g5⟩ := rR_iC h t ht
      have : n' = n := (nI_eq (by omega) (by omega)).mp (g2.symm.trans e)
      subst this
      refine ⟨n' + 1, by omega, q43', fun p hp => ?_, q', g4, by omega⟩
      by_cases z' : p = n'
      · subst z'
        rw [v0, v1, v2, v3]
        exact ⟨kk, hk, ek, hc⟩
      · rw [q42 _ (by omega), q42 _ (by omega), q42 _ (by omega), q42 _ (by omega)]
        exact g3 p (by omega)
    · obtain ⟨n', g1, g2, g3, g4⟩ := rR_iC h t ht
      refine ⟨n', g1, (q43 t q).trans g2, fun p hp => ?_, g4⟩
      rw [q42 _ (by omega), q42 _ (by omega), q42 _ (by omega), q42 _ (by omega)]
      exact g3 p hp
theorem x1_append {X : SM} {i n : Nat} {k x y z : Int32} (hn : n < 24) (e : X 1 i 4 = nI n) : fn_X1_append i k x y z X = some (nI n, u1 (u1 (u1 (u1 (u1 X 16 i n k) 17 i n x) 18 i n y) 19 i n z) 1 i 4 (nI (n + 1))) := by
  unfold fn_X1_append
  have q : u1 (u1 (u1 (u1 X 16 i n k) 17 i n x) 18 i n y) 19 i n z 1 i 4 = nI n := e
  simp only [g_let_eq, e, if_neg (nI_pos (show n < 2 ^ 31 by omega)), if_pos (show nI n < 24 from nI_lt (b := 24) hn (by decide)), if_pos (g_inI hn (by decide)), nI_clamp (show n < 2 ^ 31 by omega), q, nI_1]
theorem c_tell {b : Nat} {X M : SM} (x1 x2 x3 x4 x5 : Int32) (h : rJ b X M) : ∃ r X' M', fn_X11_tell x1 x2 x3 x4 x5 X = some (r, X') ∧ fn_X12_tell x1 x2 x3 x4 x5 M = some (r, M') ∧ rJ b X' M' := by
  unfold fn_X11_tell fn_X12_tell
  simp only [g_let_eq]
  rcases nI_cases x1 6 (by decide) with ⟨a, ha, rfl⟩ | ho
  · obtain ⟨n, hn, e, -⟩ := rR_iC h.1 a ha
    have e1 : X 1 (6 * 0 + a) 4 = nI n := (rR_rM h.1 a ha).trans e
    simp only [isThread_in ha, m_isThread_in ha, Option.bind_some, if_neg one0, if_pos (in6 ha), cl6 ha, show u1 M 39 0 15 0 43 0 a = nI n from e]
    rcases nI_cases x2 21 (by decide) with ⟨k, hk, rfl⟩ | ho
    · rw [show fn_X12_within (nI k) 0 20 = 1 from within_in (lo := 0) (hi := 20) (by omega) (by omega) (by decide), if_neg one0]
      by_cases q : n = 24
      · subst q
        rw [if_pos (show nI 24 = 24 from rfl)]
        rcases suits_01 (i := 6 * 0 + a) (x := x3) (y := x4) (z := x5) (X := X) hk with s | s
        · rw [s]
          exact ⟨_, _, _, rfl, rfl, rJ_thr h⟩
        · rw [s, Option.bind_some, if_neg one0]
          unfold fn_X1_append
          rw [g_let_eq, e1]
          exact ⟨_, _, _, rfl, rfl, rJ_thr h⟩
      · have hn' : n < 24 := by omega
        rw [if_neg (show ¬ nI n = 24 from fun w => q ((nI_eq (b := 24) (by omega) (by decide)).mp w)), ← tell_all hn' e1 hk]
        rcases suits_01 (i := 6 * 0 + a) (x := x3) (y := x4) (z := x5) (X := X) hk with s | s
        · rw [s]
          exact ⟨_, _, _, rfl, rfl, rJ_thr h⟩
        · have hc := (tell_all hn' e1 hk).symm.trans s
          have i0 : 4 * (24 * nI a + nI n) = nI (4 * (24 * a + n)) := by rw [show (24 : Int32) * nI a = nI (24 * a) from ni_mul 24 a, nI_add]; exact ni_mul 4 _
          have i1 : nI (4 * (24 * a + n)) + 1 = nI (4 * (24 * a + n) + 1) := nI_add _ 1
          have i2 : nI (4 * (24 * a + n)) + 2 = nI (4 * (24 * a + n) + 2) := nI_add _ 2
          have i3 : nI (4 * (24 * a + n)) + 3 = nI (4 * (24 * a + n) + 3) := nI_add _ 3
          have j4 : ∀ {v0 v1 v2 v3 : Int32} {j0 j1 j2 j3 : Nat}, u1 (u1 (u1 (u1 (u1 M 39 0 15 0) 42 0 j0 v0) 42 0 j1 v1) 42 0 j2 v2) 42 0 j3 v3 43 0 a = nI n := e
          simp only [s, if_neg one0, x1_append hn' e1, i0, i1, i2, i3, if_pos (g_inI (show 4 * (24 * a + n) < 576 by omega) (by decide)), if_pos (g_inI (show 4 * (24 * a + n) + 1 < 576 by omega) (by decide)), if_pos (g_inI (show 4 * (24 * a + n) + 2 < 576 by omega) (by decide)), if_pos (g_inI (show 4 * (24 * a + n) + 3 < 576 by omega) (by decide)), nI_clamp (show 4 * (24 * a + n) < 2 ^ 31 by omega), nI_clamp (show 4 * (24 * a + n) + 1 < 2 ^ 31 by omega), nI_clamp (show 4 * (24 * a + n) + 2 < 2 ^ 31 by omega), nI_clamp (show 4 * (24 * a + n) + 3 < 2 ^ 31 by omega), j4, nI_1, u1_self, nI_pred, Option.bind_some]
          exact ⟨_, _, _, rfl, rfl, ⟨p_tell (kk := k) ha hn' e (by omega) rfl hc (rR_39 h.1), h.2⟩⟩
    · rw [show fn_X12_within x2 0 20 = 0 from within_out (n := 20) (by decide) ho]
      have s : ∀ i, fn_X1_suits i x2 x3 x4 x5 X = some 0 := by
        intro i
        unfold fn_X1_suits
        rcases ho with ho | ⟨h0, ho⟩
        · rw [if_pos ho]
        · rw [if_neg h0, if_neg (show ¬ x2 < 21 from Int32.not_lt.mpr ho)]
      rw [s]
      exact ⟨_, _, _, rfl, rfl, rJ_thr h⟩
  · rw [isThread_out ho, m_isThread_out ho]
    exact ⟨_, _, _, rfl, rfl, rJ_thr h⟩
