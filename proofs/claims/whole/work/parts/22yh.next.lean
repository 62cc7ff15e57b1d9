/-! the tick: where an instruction leads to -/
/-- what the reference does behind the trap's test -/
def mN (a q k x y z : Int32) (M : SM) : Option SM := if k = 7 then wb_X12_does_132 a q k x y z y M else if k = 8 then (fn_X12_reg a x M).bind fun r => if r = 0 then wb_X12_does_132 a q k x y z (q + 1) M else wb_X12_does_132 a q k x y z y M else wb_X12_does_132 a q k x y z (q + 1) M
theorem x1_hasq {X : SM} {i n q : Nat} (hn : n ≤ 24) (e : X 1 i 4 = nI n) (hq : q < n) : fn_X1_has i (nI q) X = 1 := by
  unfold fn_X1_has
  rw [e, if_neg (nI_pos (by omega)), if_neg (nI_ge hq (by omega)), if_neg (show ¬ (24 : Int32) ≤ nI q from nI_ge (b := 24) (by omega) (by decide))]
theorem ix24 {a q : Nat} : (24 : Int32) * nI a + nI q = nI (24 * a + q) := by rw [show (24 : Int32) * nI a = nI (24 * a) from ni_mul 24 a, nI_add]
theorem ix288b {a : Nat} : (288 : Int32) + nI a = nI (288 + a) := nI_add 288 a
theorem ix144b {a : Nat} : (144 : Int32) + nI a = nI (144 + a) := nI_add 144 a
theorem d_back {m a q n b : Nat} {y : Int32} {X M : SM} (ha : a < 6) (h : rR m X M) (he : eG m X M) (hn : n ≤ 24) (en : M 43 0 a = nI n) (hq : q < n) (eq : M 40 0 (432 + a) = nI q) (hb : b < 8) (eb : M 42 0 (4 * (24 * a + q) + 1) = nI b) : ∃ r X1 M1, fn_X12_isBack (nI (24 * a + q)) (nI b) M = some (r, M1) ∧ wb_X9_next_22 (6 * m + a) (nI 9) (nI b) y X = some ((if r = 0 then nI (q + 1) else y), X1) ∧ stp m X M X1 M1 ∧ (∀ j, j < 144 ∨ 432 ≤ j → M1 40 0 j = M 40 0 j) := by
  have e8 : X 9 (6 * m + a) 8 = nI q := (rR_rW h a 0 ha (by omega)).trans eq
  have e8' : ∀ v, u1 X 33 (6 * m + a) q v 9 (6 * m + a) 8 = nI q := fun v => e8
  unfold fn_X12_isBack wb_X9_next_22
  simp only [ix288b, ix144b, if_pos (in693 (show 288 + 24 * a + q < 693 by omega)), cl693 (show 288 + 24 * a + q < 693 by omega), if_pos (in693 (show 144 + 24 * a + q < 693 by omega)), cl693 (show 144 + 24 * a + q < 693 by omega), g_let_eq, if_pos (show nI 9 = 9 from rfl), e8, e8', x1_hasq hn ((rR_rM h a ha).trans en) hq, if_neg one0, if_pos (g_inI (show q < 24 by omega) (by decide)), nI_clamp (show q < 2 ^ 31 by omega), show 288 + (24 * a + q) = 288 + 24 * a + q by omega, show 144 + (24 * a + q) = 144 + 24 * a + q by omega, u1_self, nI_1]
  rcases rR_rZ h a q ha (by omega) with ⟨z1, z2, z3⟩ | ⟨g, x, z1, z2, z3, z4, z5, z6, z7, z8⟩
  · rw [if_pos z3, z1]
    by_cases y0 : b = 0
    · subst y0
      rw [if_pos (show nI 0 ≤ 0 by decide), if_pos (show nI 0 ≤ 0 by decide)]
      refine ⟨_, _, _, rfl, rfl, stp_f (p_gone ha (by omega) h (fun j j1 j2 => ?_) (fun k j hk => ?_) (Or.inl ⟨rfl, ?_, u1_self⟩)) he (fX_u (ow33 ha) fX_r) (fM_u (by omega) (fM_u (by omega) (fM_u (by omega) fM_r))), fun j hj => ?_⟩
      · rw [u1_ne (by omega), u1_ne (by omega), u1_ne (by omega)]
      · rw [u1_k hk, u1_k hk, u1_k hk]
      · rw [u1_ne (by omega), u1_self]; rfl
      · rw [u1_ne (by omega), u1_ne (by omega), u1_ne (by omega)]
    · rw [if_neg (nI_nle (show 0 < b by omega) (by omega)), if_neg (nI_nle (show 0 < b by omega) (by omega))]
      refine ⟨_, _, _, rfl, rfl, stp_f (p_gone ha (by omega) h (fun j j1 j2 => ?_) (fun k j hk => ?_) (Or.inr ⟨1, b, by omega, by omega, by omega, by rw [en]; exact nI_lt hq (by omega), rfl, eb, ?_, ?_⟩)) he (fX_u (ow33 ha) fX_r) (fM_u (by omega) (fM_u (by omega) (fM_u (by omega) fM_r))), fun j hj => ?_⟩
      · rw [u1_ne (by omega), u1_ne (by omega), u1_ne (by omega)]
      · rw [u1_k hk, u1_k hk, u1_k hk]
      · rw [u1_self]; exact ni_sub (a := 1) (by omega)
      · rw [u1_ne (by omega), u1_ne (by omega), u1_self]
      · rw [u1_ne (by omega), u1_ne (by omega), u1_ne (by omega)]
  · have : x = b := (nI_eq (by omega) (by omega)).mp (z6.symm.trans eb)
    subst this
    rw [if_neg (show ¬ M 40 0 (288 + 24 * a + q) = 0 by rw [z8]; decide), z5, z7]
    by_cases y0 : g = x
    · subst y0
      rw [if_pos (show nI (g - g) ≤ 0 by rw [Nat.sub_self]; decide), if_pos (nI_le (Nat.le_refl g) (by omega))]
      refine ⟨_, _, _, rfl, rfl, stp_f (p_gone ha (by omega) h (fun j j1 j2 => ?_) (fun k j hk => ?_) (Or.inl ⟨rfl, ?_, u1_self⟩)) he (fX_u (ow33 ha) fX_r) (fM_u (by omega) fM_r), fun j hj => ?_⟩
      · rw [u1_ne (by omega)]
      · rw [u1_k hk]
      · rw [u1_ne (by omega), z7, Nat.sub_self]; rfl
      · rw [u1_ne (by omega)]
    · rw [if_neg (nI_nle (show 0 < x - g by omega) (by omega)), if_neg (nI_ge (show g < x by omega) (by omega))]
      refine ⟨_, _, _, rfl, rfl, stp_f (p_gone ha (by omega) h (fun j j1 j2 => ?_) (fun k j hk => ?_) (Or.inr ⟨g + 1, x, by omega, by omega, by omega, z4, nI_1 g, eb, ?_, ?_⟩)) he (fX_u (ow33 ha) fX_r) (fM_u (by omega) fM_r), fun j hj => ?_⟩
      · rw [u1_ne (by omega)]
      · rw [u1_k hk]
      · rw [u1_self, show nI (x - g) - 1 = nI (x - g - 1) from ni_sub (a := 1) (by omega)]
        congr 1
      · rw [u1_ne (by omega), z8]
      · rw [u1_ne (by omega)]
theorem d_next {m a q n k : Nat} {x y z : Int32} {X M : SM} (ha : a < 6) (h : rR m X M) (he : eG m X M) (hn : n ≤ 24) (en : M 43 0 a = nI n) (hq : q < n) (eq : M 40 0 (432 + a) = nI q) (hk : k ≤ 20) (ex : M 42 0 (4 * (24 * a + q) + 1) = x) (hc : fn_X12_canTell (nI k) x y z (nI q) = some 1) : ∃ p X1 M1, p ≤ 24 ∧ fn_X9_next (6 * m + a) (nI k) x y X = some (nI p, X1) ∧ mN (nI a) (nI q) (nI k) x y z M = wb_X12_does_157 (nI a) (nI q) (nI k) x y z (nI p) M1 ∧ stp m X M X1 M1 ∧ (∀ j, j < 144 ∨ 432 ≤ j → M1 40 0 j = M 40 0 j) := by
  have e8 : X 9 (6 * m + a) 8 = nI q := (rR_rW h a 0 ha (by omega)).trans eq
  by_cases k7 : k = 7
  · subst k7
    obtain ⟨b, hb, eb⟩ := ct_7 hc
    exact ⟨b, X, M, by omega, by rw [eb]; rfl, by rw [eb]; rfl, stp_r h he, fun _ _ => rfl⟩
  by_cases k8 : k = 8
  · subst k8
    obtain ⟨c, b, hc', hb, ec, eb⟩ := ct_8 hc
    have e1 : fn_X9_next (6 * m + a) (nI 8) x y X = (fn_X9_read (6 * m + a) x X).bind fun r => if r = 0 then some (X 9 (6 * m + a) 8 + 1, X) else some (y, X) := rfl
    have e2 : mN (nI a) (nI q) (nI 8) x y z M = (fn_X12_reg (nI a) x M).bind fun r => if r = 0 then wb_X12_does_157 (nI a) (nI q) (nI 8) x y z (nI q + 1) M else wb_X12_does_157 (nI a) (nI q) (nI 8) x y z y M := rfl
    rw [e1, e2, ec, x_read hc', m_reg ha hc', rR_rA h a c ha hc', e8, nI_1, eb]
    simp only [Option.bind_some]
    by_cases z0 : M 40 0 (8 * a + c) = 0
    · simp only [if_pos z0]
      exact ⟨q + 1, X, M, by omega, rfl, rfl, stp_r h he, fun _ _ => rfl⟩
    · simp only [if_neg z0]
      exact ⟨b, X, M, by omega, rfl, rfl, stp_r h he, fun _ _ => rfl⟩
  by_cases k9 : k = 9
  · subst k9
    obtain ⟨c, b, hc', hb, ec, eb⟩ := ct_9 (by omega) hc
    obtain ⟨r, X1, M1, g1, g2, g3, g4⟩ := d_back (y := y) ha h he hn en hq eq hc' (ex.trans ec)
    have e1 : fn_X9_next (6 * m + a) (nI 9) x y X = wb_X9_next_22 (6 * m + a) (nI 9) x y X := rfl
    have e2 : mN (nI a) (nI q) (nI 9) x y z M = (fn_X12_isBack (24 * nI a + nI q) x M).bind fun (r, M1) => if r = 0 then wb_X12_does_157 (nI a) (nI q) (nI 9) x y z (nI q + 1) M1 else wb_X12_does_157 (nI a) (nI q) (nI 9) x y z y M1 := rfl
    rw [e1, e2, ix24, ec, g1, g2, nI_1, eb]
    simp only [Option.bind_some]
    by_cases z0 : r = 0
    · simp only [if_pos z0]
      exact ⟨q + 1, X1, M1, by omega, rfl, rfl, g3, g4⟩
    · simp only [if_neg z0]
      exact ⟨b, X1, M1, by omega, rfl, rfl, g3, g4⟩
  have n7 : ¬ nI k = 7 := fun w => k7 ((nI_eq (b := 7) (by omega) (by decide)).mp w)
  have n8 : ¬ nI k = 8 := fun w => k8 ((nI_eq (b := 8) (by omega) (by decide)).mp w)
  have n9 : ¬ nI k = 9 := fun w => k9 ((nI_eq (b := 9) (by omega) (by decide)).mp w)
  unfold fn_X9_next wb_X9_next_22 mN wb_X12_does_132
  simp only [if_neg n7, if_neg n8, if_neg n9, e8, nI_1]
  exact ⟨q + 1, X, M, by omega, rfl, rfl, stp_r h he, fun _ _ => rfl⟩
theorem d_goto {m a p n : Nat} {X M : SM} (ha : a < 6) (h : rR m X M) (he : eG m X M) (hn : n ≤ 24) (en : M 43 0 a = nI n) (hp : p ≤ 24) : ∃ M', fn_X12_goesTo (nI a) (nI p) M = some M' ∧ stp m X M (fn_X9_goTo (6 * m + a) (nI p) X) M' ∧ (∀ j, j ≠ 432 + a → j ≠ 462 + a → M' 40 0 j = M 40 0 j) := by
  unfold fn_X12_goesTo fn_X9_goTo
  have e43 : ∀ v, u1 M 40 0 (432 + a) v 43 0 a = nI n := fun v => en
  simp only [ix432, ix462, if_pos (in693 (show 432 + a < 693 by omega)), cl693 (show 432 + a < 693 by omega), if_pos (in693 (show 462 + a < 693 by omega)), cl693 (show 462 + a < 693 by omega), if_pos (in6 ha), cl6 ha, g_let_eq, e43, (rR_rM h a ha).trans en, u1_u1]
  by_cases z : n ≤ p
  · simp only [if_pos (nI_le z (show p < 2 ^ 31 by omega))]
    have hr := p_place (p := 0) ha (fun _ _ _ => Or.inl rfl) h
    have e13 : u1 X 9 (6 * m + a) 8 0 9 (6 * m + a) 13 = u1 M 40 0 (432 + a) 0 40 0 (462 + a) := rR_rW hr a 5 ha (by omega)
    rw [e13]
    exact ⟨_, rfl, stp_f (p_rounds ha hr) he (fX_u (ow9 ha) (fX_u (ow9 ha) fX_r)) (fM_u (by omega) (fM_u (by omega) fM_r)), fun j h1 h2 => (u1_ne (by omega)).trans (u1_ne (by omega))⟩
  · simp only [if_neg (nI_ge (show p < n by omega) (show n < 2 ^ 31 by omega))]
    exact ⟨_, rfl, stp_f (p_place ha (fun n' h1 h2 => Or.inr (by have := (nI_eq (by omega) (by omega)).mp (h2.symm.trans en); omega)) h) he (fX_u (ow9 ha) fX_r) (fM_u (by omega) fM_r), fun j h1 h2 => u1_ne (by omega)⟩
