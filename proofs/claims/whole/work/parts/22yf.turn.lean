/-! the tick: whose turn it is -/
def cg (M : SM) (a : Nat) : Prop := M 40 0 (438 + a) = 0 ∧ ∃ n q, n ≤ 24 ∧ M 43 0 a = nI n ∧ q < n ∧ M 40 0 (432 + a) = nI q
theorem d_can {m a : Nat} {X M : SM} (ha : a < 6) (h : rR m X M) : (cg M a ∧ fn_X9_canGo (6 * m + a) X = 1 ∧ fn_X12_canTurn (nI a) M = some 1) ∨ (fn_X9_canGo (6 * m + a) X = 0 ∧ fn_X12_canTurn (nI a) M = some 0) := by
  obtain ⟨n, h1, h2, -, q, h3, h4⟩ := rR_iC h a ha
  unfold fn_X9_canGo fn_X12_canTurn fn_X1_has
  simp only [ix438, if_pos (in693 (show 438 + a < 693 by omega)), cl693 (show 438 + a < 693 by omega), if_pos (in6 ha), cl6 ha, g_let_eq, show X 9 (6 * m + a) 9 = M 40 0 (438 + a) from rR_rW h a 1 ha (by omega), show X 9 (6 * m + a) 8 = nI q from (rR_rW h a 0 ha (by omega)).trans h3, show X 1 (6 * m + a) 4 = nI n from (rR_rM h a ha).trans h2, h2]
  by_cases z : M 40 0 (438 + a) = 0
  · simp only [if_pos z]
    by_cases y : n = 0
    · subst y
      have : q = 0 := by omega
      subst this
      exact Or.inr ⟨rfl, rfl⟩
    · simp only [if_neg (nI_pos (show q < 2 ^ 31 by omega)), if_neg (nI_ge (show q < n by omega) (show n < 2 ^ 31 by omega)), if_neg (show ¬ (24 : Int32) ≤ nI q from nI_ge (b := 24) (by omega) (by decide)), if_neg (nI_nle (show 0 < n by omega) (show n < 2 ^ 31 by omega)), if_neg one0]
      exact Or.inl ⟨⟨z, n, q, h1, h2, by omega, h3⟩, trivial, trivial⟩
  · simp only [if_neg z]
    exact Or.inr ⟨trivial, trivial⟩
theorem lastk {M : SM} {l1 j : Nat} (e : M 40 0 684 + 1 = nI l1) : M 40 0 684 + nI (j + 1) + 6 = nI (l1 + j + 6) := by
  have : M 40 0 684 + nI (j + 1) = (M 40 0 684 + 1) + nI j := by rw [nI_succ]; grind
  rw [this, e, nI_add]
  exact nI_add _ 6
theorem turn_loop {m l1 : Nat} {X M : SM} (h : rR m X M) (he : eG m X M) (hl : l1 ≤ 6) (el : M 40 0 684 + 1 = nI l1) : ∀ (d j c : Nat) (v : Int32) (f f' : Nat), j + d = 6 → d < f → d < f' → v + 1 = nI c → c ≤ 6 → c % 6 = (l1 + j) % 6 → ∃ r X' M', wl_X7_whoseTurn_40 f m v (nI j) X = some (r, X') ∧ wl_X12_turnOf_35 f' (nI (j + 1)) M = some (r, M') ∧ stp m X M X' M' ∧ (r = -1 ∨ ∃ a, a < 6 ∧ r = nI a ∧ cg M' a) := by
  intro d
  induction d with
  | zero =>
    intro j c v f f' h1 h2 h3 hv hc hc'
    obtain ⟨f, rfl⟩ : ∃ q, f = q + 1 := ⟨f - 1, by omega⟩
    obtain ⟨f', rfl⟩ : ∃ q, f' = q + 1 := ⟨f' - 1, by omega⟩
    have : j = 6 := by omega
    subst this
    rw [wl_X7_whoseTurn_40_s, wl_X12_turnOf_35_s]
    unfold wb_X7_whoseTurn_40 wb_X12_turnOf_35
    rw [if_pos (show (6 : Int32) ≤ nI 6 by decide), if_pos (show (6 : Int32) < nI (6 + 1) by decide), (rR_rN h).2.1, show Int32.toNatClampNeg 685 = 685 by decide]
    exact ⟨_, _, _, rfl, rfl, stp_f (p_lost h) he (fX_u ow7 fX_r) (fM_u (by omega) fM_r), Or.inl rfl⟩
  | succ d ih =>
    intro j c v f f' h1 h2 h3 hv hc hc'
    obtain ⟨f, rfl⟩ : ∃ q, f = q + 1 := ⟨f - 1, by omega⟩
    obtain ⟨f', rfl⟩ : ∃ q, f' = q + 1 := ⟨f' - 1, by omega⟩
    have hs : (l1 + j) % 6 < 6 := Nat.mod_lt _ (by decide)
    have hm : M 40 0 684 + nI (j + 1) + 6 - (M 40 0 684 + nI (j + 1) + 6) / 6 * 6 = nI ((l1 + j) % 6) := by
      rw [lastk el, show nI (l1 + j + 6) - nI (l1 + j + 6) / 6 * 6 = nI ((l1 + j + 6) % 6) from pk_rem (d := 6) (by omega) (by decide) (by decide)]
      congr 1
      omega
    have hx : wb_X7_whoseTurn_40 (fun t0 x2 x3 X => wl_X7_whoseTurn_40 f t0 x2 x3 X) m v (nI j) X = wb_X7_whoseTurn_61 (fun t0 x2 x3 X => wl_X7_whoseTurn_40 f t0 x2 x3 X) m (nI j) (nI ((l1 + j) % 6)) X := by
      unfold wb_X7_whoseTurn_40
      rw [if_neg (show ¬ (6 : Int32) ≤ nI j from nI_ge (b := 6) (by omega) (by decide)), hv]
      by_cases q : c = 6
      · subst q
        rw [if_pos (show (6 : Int32) ≤ nI 6 by decide), show (l1 + j) % 6 = 0 by omega]
        rfl
      · rw [if_neg (show ¬ (6 : Int32) ≤ nI c from nI_ge (b := 6) (by omega) (by decide)), show (l1 + j) % 6 = c by omega]
    rw [wl_X7_whoseTurn_40_s, wl_X12_turnOf_35_s, hx]
    unfold wb_X7_whoseTurn_61 wb_X12_turnOf_35
    have hnext := ih (j + 1) ((l1 + j) % 6 + 1) (nI ((l1 + j) % 6)) f f' (by omega) (by omega) (by omega) (nI_1 _) (by omega) (by omega)
    generalize (l1 + j) % 6 = s at *
    simp only [if_neg (show ¬ (6 : Int32) < nI (j + 1) from nI_nlt (a := 6) (by omega) (by decide)), g_let_eq, hm, isThread_in hs, if_neg one0, if_pos (in6 hs), cl6 hs, nI_1]
    rcases rR_rH h s hs with ⟨a1, a2⟩ | ⟨a1, a2⟩
    · simp only [a1, a2, if_true, if_neg one0]
      rcases d_can hs h with ⟨c1, c2, c3⟩ | ⟨c2, c3⟩
      · simp only [c2, c3, Option.bind_some, if_neg one0, ix456, if_pos (in693 (show 456 + s < 693 by omega)), cl693 (show 456 + s < 693 by omega)]
        have ew : u1 M 40 0 684 (nI s) 40 0 (456 + s) = M 40 0 (456 + s) := u1_ne (by omega)
        have hv7 : X 7 m 7 + 1 = s6 (u1 M 40 0 (456 + s) (M 40 0 (456 + s) + 1)) 456 := by rw [s6_u hs, (rR_rS h).1]
        refine ⟨_, _, _, rfl, rfl, ?_, Or.inr ⟨s, hs, rfl, ?_⟩⟩
        · rw [show Int32.toNatClampNeg 684 = 684 by decide, ew, show X 9 (6 * m + s) 12 = M 40 0 (456 + s) from rR_rW h s 4 hs (by omega)]
          exact stp_f (p_given hs hv7 h) he (fX_u ow7 (fX_u ow7 (fX_u (ow9 hs) fX_r))) (fM_u (by omega) (fM_u (by omega) fM_r))
        · obtain ⟨b1, n, q, b2, b3, b4, b5⟩ := c1
          rw [show Int32.toNatClampNeg 684 = 684 by decide]
          exact ⟨(u1_ne (by omega)).trans ((u1_ne (by omega)).trans b1), n, q, b2, b3, b4, (u1_ne (by omega)).trans ((u1_ne (by omega)).trans b5)⟩
      · simp only [c2, c3, Option.bind_some, if_true]
        exact hnext
    · simp only [a1, a2, if_true, if_neg one0]
      exact hnext
theorem d_turn {m n : Nat} {X M : SM} (h : rR m X M) (he : eG m X M) (hT : gT X M) (hn : n < 2 ^ 31) (en : M 40 0 683 = nI n) : ∃ r X' M', fn_X7_whoseTurn m X = some (r, X') ∧ fn_X12_turnOf M = some (r, M') ∧ stp m X M X' M' ∧ (r = -1 ∨ ∃ a, a < 6 ∧ r = nI a ∧ cg M' a) := by
  obtain ⟨L, l1, l2, e1, e2, e3⟩ := hT
  have hL : n % L < L := Nat.mod_lt _ (by omega)
  have hrem : nI n - nI n / nI L * nI L = nI (n % L) := pk_rem hn (by omega) (by omega)
  have xo : fn_X10_ownerAt (nI n) X = some (M 50 0 (n % L)) := by
    unfold fn_X10_ownerAt
    simp only [e1, if_pos (show (1 : Int32) ≤ nI L from nI_le (a := 1) l1 (by omega)), if_pos (nI_ne0 (show 0 < L by omega) (show L < 2 ^ 31 by omega)), hrem, g_let_eq, x_has l2 e1 hL, if_neg one0, if_pos (g_inI (show n % L < 16 by omega) (by decide)), nI_clamp (show n % L < 2 ^ 31 by omega), (e3 _ hL).1]
  obtain ⟨lz, hl, el⟩ : ∃ l1, l1 ≤ 6 ∧ M 40 0 684 + 1 = nI l1 := by
    rcases rR_iL h with q | ⟨t, ht, q⟩
    · exact ⟨0, by omega, by rw [q]; decide⟩
    · exact ⟨t + 1, by omega, by rw [q, nI_1]⟩
  have hloop := turn_loop h he hl el 6 0 lz (M 40 0 684) 1000 1000 (by omega) (by omega) (by omega) el hl rfl
  rw [show nI 0 = 0 from nI_0, show nI (0 + 1) = 1 from rfl] at hloop
  unfold fn_X7_whoseTurn fn_X12_turnOf
  simp only [(rR_rN h).1, (rR_rN h).2.2.1, en, xo, Option.bind_some, g_let_eq, e2, if_pos (nI_ne0 (show 0 < L by omega) (show L < 2 ^ 31 by omega)), hrem, if_pos (g_inI (show n % L < 16 by omega) (by decide)), nI_clamp (show n % L < 2 ^ 31 by omega)]
  rcases (e3 _ hL).2 with q | ⟨t, ht, q⟩
  · simp only [q, if_pos (show fn_X11_isThread (-1) = 0 by decide), if_pos (show (-1 : Int32) < 0 by decide)]
    exact hloop
  · simp only [q, isThread_in ht, if_neg one0, if_pos (in6 ht), cl6 ht, if_neg (nI_pos (show t < 2 ^ 31 by omega))]
    rcases d_can ht h with ⟨c1, c2, c3⟩ | ⟨c2, c3⟩
    · simp only [c2, c3, Option.bind_some, if_neg one0]
      exact ⟨_, _, _, rfl, rfl, stp_r h he, Or.inr ⟨t, ht, rfl, c1⟩⟩
    · simp only [c2, c3, Option.bind_some, if_true]
      exact hloop
