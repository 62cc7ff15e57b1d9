/-! the tick whole -/
section TK
variable {m a q : Nat} {x y z : Int32} {X M : SM}
theorem ex_all {k : Nat} (h2m : m < 2) (ha : a < 6) (h : rR m X M) (he : eG m X M) (h0 : M 40 0 (438 + a) = 0) (hq : q < 24) (hqn : nI q < M 43 0 a) (hk : k ≤ 20) (ek : M 42 0 (4 * (24 * a + q)) = nI k) (ex : M 42 0 (4 * (24 * a + q) + 1) = x) (ey : M 42 0 (4 * (24 * a + q) + 2) = y) (hc : fn_X12_canTell (nI k) x y z (nI q) = some 1) (ho : k = 5 ∨ k = 6 → okc M a y) : both m X M (xO m (6 * m + a) (nI k) x y z X) (mO (nI a) (nI q) (nI k) x y z M) := by
  rcases k21 hk with rfl | rfl | rfl | rfl | rfl | rfl | rfl | rfl | rfl | rfl | rfl | rfl | rfl | rfl | rfl | rfl | rfl | rfl | rfl | rfl | rfl
  · exact ex_0 ha h he hc
  · exact ex_1 ha h he hc
  · exact ex_2 ha h he hc
  · exact ex_3 ha h he hc
  · exact ex_4 ha h he hc
  · exact ex_5 ha h he hc (ho (by decide))
  · exact ex_6 ha h he hc (ho (by decide))
  · exact ex_no h he (by decide)
  · exact ex_no h he (by decide)
  · exact ex_no h he (by decide)
  · exact ex_10 ha h he hc
  · exact ex_11 ha h he h0 hq hqn ek ex hc
  · exact ex_12 ha h he hc
  · exact ex_13 ha h he h0 hq hqn ek ex ey hc
  · exact ex_14 ha h he h0 hq hqn ek hc
  · exact ex_15 ha h he hc
  · exact ex_16 h2m ha h he h0 hq hqn hc
  · exact ex_17 h2m ha h he h0 hq hqn ek ey hc
  · exact ex_18 ha h he h0
  · exact ex_19 ha h he hc
  · exact ex_20 ha h he hc
theorem okc_c {M M' : SM} {y : Int32} (hr : ∀ j, j < 48 → M' 40 0 j = M 40 0 j) (hK : ∀ k j, k ≠ 40 → M' k 0 j = M k 0 j) (ha : a < 6) (h : okc M a y) : okc M' a y := by
  obtain ⟨n, c, b, hb, e1, hn, e2, hc, e3⟩ := h
  exact ⟨n, c, b, hb, e1, hn, (hK 44 a (by decide)).trans e2, hc, (hr _ (by omega)).trans e3⟩
theorem d_do (h2m : m < 2) (ha : a < 6) (h : rR m X M) (he : eG m X M) (hg : cg M a) : both m X M (fn_X7_perform m (6 * m + a) X) (fn_X12_does (nI a) M) := by
  obtain ⟨h0, n, q, hn, en, hq, eq⟩ := hg
  obtain ⟨k, hk, ek, hc⟩ := i_at h ha (show q < 24 by omega) (by rw [en]; exact nI_lt hq (by omega))
  have e8 : X 9 (6 * m + a) 8 = nI q := (rR_rW h a 0 ha (by omega)).trans eq
  obtain ⟨c1, c2, c3, c4⟩ := rR_rC h a q ha (by omega)
  have e11 : X 9 (6 * m + a) 11 = M 40 0 (450 + a) := rR_rW h a 3 ha (by omega)
  have hd : stp m X M (u1 (u1 X 9 (6 * m + a) 11 (M 40 0 (450 + a) + 1)) 7 m 8 (s6 M 450 + 1)) (u1 M 40 0 (450 + a) (M 40 0 (450 + a) + 1)) := stp_f (p_done ha (s6_u ha).symm h) he (fX_u ow7 (fX_u (ow9 ha) fX_r)) (fM_u (by omega) fM_r)
  have e78 : u1 X 9 (6 * m + a) 11 (M 40 0 (450 + a) + 1) 7 m 8 = s6 M 450 := (rR_rS h).2.1
  unfold fn_X7_perform fn_X12_does
  simp only [g_let_eq, e8, x1_hasq hn ((rR_rM h a ha).trans en) hq, if_neg one0, if_pos (g_inI (show q < 24 by omega) (by decide)), nI_clamp (show q < 2 ^ 31 by omega), c1, c2, c3, c4, ix432, ix450, ix438, ix444, if_pos (in693 (show 432 + a < 693 by omega)), cl693 (show 432 + a < 693 by omega), if_pos (in693 (show 450 + a < 693 by omega)), cl693 (show 450 + a < 693 by omega), if_pos (in693 (show 438 + a < 693 by omega)), cl693 (show 438 + a < 693 by omega), if_pos (in693 (show 444 + a < 693 by omega)), cl693 (show 444 + a < 693 by omega), eq, m_part0 ha (show q < 24 by omega), m_part1 ha (show q < 24 by omega), m_part2 ha (show q < 24 by omega), m_part3 ha (show q < 24 by omega), Option.bind_some, e11, e78, ek]
  generalize u1 (u1 X 9 (6 * m + a) 11 (M 40 0 (450 + a) + 1)) 7 m 8 (s6 M 450 + 1) = X1 at *
  have d438 : u1 M 40 0 (450 + a) (M 40 0 (450 + a) + 1) 40 0 (438 + a) = 0 := (u1_ne (by omega)).trans h0
  have d432 : u1 M 40 0 (450 + a) (M 40 0 (450 + a) + 1) 40 0 (432 + a) = nI q := (u1_ne (by omega)).trans eq
  have d42 : ∀ j, u1 M 40 0 (450 + a) (M 40 0 (450 + a) + 1) 42 0 j = M 42 0 j := fun j => rfl
  have d43 : u1 M 40 0 (450 + a) (M 40 0 (450 + a) + 1) 43 0 a = nI n := en
  generalize u1 M 40 0 (450 + a) (M 40 0 (450 + a) + 1) = M1 at *
  generalize hx : M 42 0 (4 * (24 * a + q) + 1) = x at *
  generalize hy : M 42 0 (4 * (24 * a + q) + 2) = y at *
  generalize hz : M 42 0 (4 * (24 * a + q) + 3) = z at *
  obtain ⟨r, t1, t2, t3⟩ := d_trap ha hd.1 d438 hk hc
  rw [t1, t2]
  simp only [Option.bind_some]
  have trap : ∀ v : Int32, ¬ v = 0 → ¬ v ≤ 0 → both m X M (if v = 0 then (fn_X9_next (6 * m + a) (nI k) x y X1).bind fun (r_18, X_19) => if nI k < 10 then (fn_X9_compute (6 * m + a) (nI k) x y z (fn_X9_goTo (6 * m + a) r_18 X_19)).bind fun X_24 => some X_24 else if 17 < nI k then (fn_X9_compute (6 * m + a) (nI k) x y z (fn_X9_goTo (6 * m + a) r_18 X_19)).bind fun X_27 => some X_27 else (fn_X7_meetOthers m (6 * m + a) (nI k) x y z (fn_X9_goTo (6 * m + a) r_18 X_19)).bind fun X_29 => some X_29 else some (fn_X9_stopBy (6 * m + a) v X1)) (if v ≤ 0 then (if nI k = 7 then wb_X12_does_132 (nI a) (nI q) (nI k) x y z y M1 else if nI k = 8 then (fn_X12_reg (nI a) x M1).bind fun r_20 => if r_20 = 0 then wb_X12_does_132 (nI a) (nI q) (nI k) x y z (nI q + 1) M1 else wb_X12_does_132 (nI a) (nI q) (nI k) x y z y M1 else wb_X12_does_132 (nI a) (nI q) (nI k) x y z (nI q + 1) M1) else some (u1 (u1 M1 40 0 (438 + a) 5) 40 0 (444 + a) v)) := by
    intro v v0 v1
    rw [if_neg v0, if_neg v1]
    exact ⟨_, _, rfl, rfl, stp_t hd (stp_f (p_trapw ha (p_idle (s := 5) ha hd.1 (nq_s hd.1 ha (by rw [d438]; decide) (by rw [d438]; decide)) (by omega) ((rR_rE hd.1 a ha).1 (by rw [d438]; decide)))) hd.2.1 (fX_u (ow9 ha) (fX_u (ow9 ha) fX_r)) (fM_u (by omega) (fM_u (by omega) fM_r)))⟩
  rcases t3 with ⟨rfl, ho⟩ | rfl | rfl | rfl | rfl
  · rw [if_pos rfl, if_pos (show (0 : Int32) ≤ 0 by decide)]
    obtain ⟨p, X2, M2, hp, n1, n2, n3, n4⟩ := d_next (z := z) ha hd.1 hd.2.1 hn d43 hq d432 hk ((d42 _).trans hx) hc
    have n2' : (if nI k = 7 then wb_X12_does_132 (nI a) (nI q) (nI k) x y z y M1 else if nI k = 8 then (fn_X12_reg (nI a) x M1).bind fun r_20 => if r_20 = 0 then wb_X12_does_132 (nI a) (nI q) (nI k) x y z (nI q + 1) M1 else wb_X12_does_132 (nI a) (nI q) (nI k) x y z y M1 else wb_X12_does_132 (nI a) (nI q) (nI k) x y z (nI q + 1) M1) = wb_X12_does_157 (nI a) (nI q) (nI k) x y z (nI p) M2 := n2
    rw [n1, n2', mO_at]
    have m43 : M2 43 0 a = nI n := (n3.2.2.2.1 43 a (by decide)).trans d43
    obtain ⟨M3, g1, g2, g3⟩ := d_goto ha n3.1 n3.2.1 hn m43 hp
    rw [g1]
    have k42 : ∀ j, M3 42 0 j = M 42 0 j := fun j => (g2.2.2.2.1 42 j (by decide)).trans ((n3.2.2.2.1 42 j (by decide)).trans (d42 j))
    obtain ⟨X4, M4, x1, x2, x3⟩ := ex_all (q := q) (x := x) (y := y) (z := z) h2m ha g2.1 g2.2.1 ((g3 _ (by omega) (by omega)).trans ((n4 _ (by omega)).trans d438)) (by omega) (by rw [g2.2.2.2.1 43 a (by decide), m43]; exact nI_lt hq (by omega)) hk ((k42 _).trans ek) ((k42 _).trans hx) ((k42 _).trans hy) hc (fun w => okc_c (fun j hj => (g3 _ (by omega) (by omega)).trans (n4 _ (by omega))) (fun k j hk => (g2.2.2.2.1 k j hk).trans (n3.2.2.2.1 k j hk)) ha (ho w))
    exact ⟨X4, M4, x1, x2, stp_t hd (stp_t n3 (stp_t g2 x3))⟩
  · exact trap 1 (by decide) (by decide)
  · exact trap 2 (by decide) (by decide)
  · exact trap 3 (by decide) (by decide)
  · exact trap 4 (by decide) (by decide)
theorem gT_c {X X' M M' : SM} (hX : oX m X X') (hM : oM M M') (h : gT X M) : gT X' M' := by
  obtain ⟨n, h1, h2, h3, h4, h5⟩ := h
  refine ⟨n, h1, h2, (hX _ _ _ (by unfold ow; omega) (by omega)).trans h3, (hM _ _ (by decide)).trans h4, fun s hs => ?_⟩
  rw [hX 34 0 s (by unfold ow; omega) (by omega), hM 50 s (by decide)]
  exact h5 s hs
theorem gV_c {X X' M M' : SM} (hX : oX m X X') (hM : oM M M') (h : gV X M) : gV X' M' := by
  obtain ⟨n, h1, h2, h3, h4⟩ := h
  refine ⟨n, h1, (hX _ _ _ (by unfold ow; omega) (by omega)).trans h2, (hM _ _ (by decide)).trans h3, fun s hs => ?_⟩
  rw [hX 22 0 s (by unfold ow; omega) (by omega), hX 23 0 s (by unfold ow; omega) (by omega), hX 24 0 s (by unfold ow; omega) (by omega), hM 47 s (by decide), hM 48 s (by decide), hM 49 s (by decide)]
  exact h4 s hs
/-- what holds of a machine between ticks; n is the tick that comes -/
def tk (m n : Nat) (X M : SM) : Prop := rR m X M ∧ eG m X M ∧ gV X M ∧ gT X M ∧ M 40 0 683 = nI n
theorem d_tick {n : Nat} (h2m : m < 2) (hn : n + 1 < 2 ^ 31) (h : tk m n X M) : ∃ r X' M', fn_X7_tick m X = some (r, X') ∧ fn_X12_ticks M = some (r, M') ∧ tk m (n + 1) X' M' ∧ oX m X X' ∧ oM M M' ∧ (r = -1 ∨ ∃ a, a < 6 ∧ r = nI a) := by
  obtain ⟨hr, he, hV, hT, en⟩ := h
  have hV0 := hV
  obtain ⟨e, v1, v2, v3, v4⟩ := hV
  obtain ⟨X1, M1, a1, a2, a3⟩ := ev_loop (t := nI n) v1 e 0 X M 1000 1000 (by omega) (by omega) (by omega) hr he v2 v3 v4
  obtain ⟨X2, M2, f, f', b1, b2, b3⟩ := wake_loop (t := nI n) 6 0 X1 M1 1000 1000 (by omega) (by omega) (by omega) a3.1 a3.2.1 (a3.2.2.2.2.trans en)
  have s2 := stp_t a3 b3
  obtain ⟨r, X3, M3, c1, c2, c3, c4⟩ := d_turn b3.1 b3.2.1 (gT_c s2.2.2.1 s2.2.2.2.1 hT) (by omega) (s2.2.2.2.2.trans en)
  have s3 := stp_t s2 c3
  have fin : ∀ X4 M4, stp m X M X4 M4 → tk m (n + 1) (u1 X4 7 m 5 (X4 7 m 5 + 1)) (u1 M4 40 0 683 (M4 40 0 683 + 1)) ∧ oX m X (u1 X4 7 m 5 (X4 7 m 5 + 1)) ∧ oM M (u1 M4 40 0 683 (M4 40 0 683 + 1)) := by
    intro X4 M4 s
    have ox : oX m X (u1 X4 7 m 5 (X4 7 m 5 + 1)) := fun k i j q1 q2 => (u1_ne (fun w => q1 (by rw [w.1, w.2.1]; exact ow7))).trans (s.2.2.1 k i j q1 q2)
    have om : oM M (u1 M4 40 0 683 (M4 40 0 683 + 1)) := fun k j q => (u1_k q).trans (s.2.2.2.1 k j q)
    refine ⟨⟨?_, eG_c (X := X4) (M := M4) (fun j => u1_k (by decide)) (fun j => u1_k (by decide)) (fun j h1 h2 => u1_ne (by omega)) s.2.1, gV_c ox om hV0, gT_c ox om hT, ?_⟩, ox, om⟩
    · rw [(rR_rN s.1).1]
      exact p_now s.1
    · rw [u1_self, s.2.2.2.2, en, nI_1]
  have c683 : Int32.toNatClampNeg 683 = 683 := by decide
  unfold fn_X7_tick fn_X12_ticks fn_X5_comeTo
  rw [(rR_rN hr).1, en, show wl_X5_comeTo_2 1000 m (nI n) 0 X = some X1 from a1, g_let_eq, show wl_X12_ticks_11 1000 (nI n) 0 M = _ from a2, show wl_X12_ticks_58 1000 (nI n) 0 M1 = _ from b2]
  simp only [Option.bind_some]
  rw [show wl_X7_tick_17 1000 m 0 X1 = _ from b1, wl_X7_tick_17_s, wl_X12_ticks_58_s]
  unfold wb_X7_tick_17 wb_X12_ticks_58
  simp only [if_pos (show (6 : Int32) ≤ 6 by decide), c1, c2, Option.bind_some, g_let_eq, c683]
  rcases c4 with rfl | ⟨a, ha, rfl, hg⟩
  · simp only [if_pos (show fn_X11_isThread (-1) = 0 by decide), if_pos (show (-1 : Int32) < 0 by decide)]
    obtain ⟨g1, g2, g3⟩ := fin X3 M3 s3
    exact ⟨_, _, _, rfl, rfl, g1, g2, g3, Or.inl rfl⟩
  · obtain ⟨X4, M4, d1, d2, d3⟩ := d_do h2m ha c3.1 c3.2.1 hg
    simp only [isThread_in ha, if_neg one0, if_pos (in6 ha), cl6 ha, if_neg (nI_pos (show a < 2 ^ 31 by omega)), d1, d2, Option.bind_some]
    obtain ⟨g1, g2, g3⟩ := fin X4 M4 (stp_t s3 d3)
    exact ⟨_, _, _, rfl, rfl, g1, g2, g3, Or.inr ⟨a, ha, rfl⟩⟩
end TK
