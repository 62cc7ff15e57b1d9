/-! the tick: OUTAT, INAT, WAIT -/
section WT
variable {m a q : Nat} {x y z : Int32} {X M : SM}
def mWt (M : SM) (a : Nat) (t q v : Int32) : SM := u1 (u1 (u1 (u1 M 40 0 (438 + a) 1) 40 0 (468 + a) t) 40 0 (480 + a) q) 40 0 (687 + a) v
theorem p_wait {k : Nat} {t v : Int32} {X' : SM} (ha : a < 6) (h : rR m X M) (he : eG m X M) (h0 : M 40 0 (438 + a) = 0) (hq : q < 24) (hqn : nI q < M 43 0 a) (ek : M 42 0 (4 * (24 * a + q)) = nI k) (hX : ∀ k i j, ¬ (i = 6 * m + a ∧ (k = 4 ∨ (k = 9 ∧ j = 9))) → X' k i j = X k i j) (e9 : X' 9 (6 * m + a) 9 = 1) (e0 : X' 4 (6 * m + a) 0 = nI k) (e4 : X' 4 (6 * m + a) 4 = t) (e11 : nI k = 11 → X' 4 (6 * m + a) 1 = M 42 0 (4 * (24 * a + q) + 1) ∧ X' 4 (6 * m + a) 3 = v &&& 1) (e13 : nI k = 13 → X' 4 (6 * m + a) 1 = M 42 0 (4 * (24 * a + q) + 1) ∧ X' 4 (6 * m + a) 2 = M 42 0 (4 * (24 * a + q) + 2)) : stp m X M X' (mWt M a t (nI q) v) := by
  have w438 : mWt M a t (nI q) v 40 0 (438 + a) = 1 := by unfold mWt; rw [u1_ne (by omega), u1_ne (by omega), u1_ne (by omega), u1_self]
  have w468 : mWt M a t (nI q) v 40 0 (468 + a) = t := by unfold mWt; rw [u1_ne (by omega), u1_ne (by omega), u1_self]
  have w480 : mWt M a t (nI q) v 40 0 (480 + a) = nI q := by unfold mWt; rw [u1_ne (by omega), u1_self]
  have w687 : mWt M a t (nI q) v 40 0 (687 + a) = v := u1_self
  have wM : ∀ j, ¬ (j = 438 + a ∨ j = 468 + a ∨ j = 480 + a ∨ j = 687 + a) → mWt M a t (nI q) v 40 0 j = M 40 0 j := fun j hj => by unfold mWt; rw [u1_ne (by omega), u1_ne (by omega), u1_ne (by omega), u1_ne (by omega)]
  have wK : ∀ k j, k ≠ 40 → mWt M a t (nI q) v k 0 j = M k 0 j := fun k j hk => by unfold mWt; rw [u1_k hk, u1_k hk, u1_k hk, u1_k hk]
  refine stp_f (p_st (s := 1) ha h (fun k i j g _ _ => hX k i j g) (fun j g _ => wM j g) wK (by omega) e9 w438 ⟨fun g => absurd w438 g, fun _ => ⟨q, hq, w480, ?_, fun _ => ⟨?_, ?_, fun g => ?_, fun g => ?_⟩, fun g => ?_, fun g => ?_⟩⟩ (rQ_n (a := a) (X := X) (M := M) (fun c k _ _ => hX _ _ _ (by omega)) (fun c _ => hX _ _ _ (by omega)) (fun j h1 h2 => wM j (by omega)) (fun t _ g => wM _ (by omega)) (nq_s h ha (by rw [h0]; decide) (by rw [h0]; decide)) (rR_rQ h))) he (fun k i j g => hX k i j (fun w => g ?_)) (fM_u (by omega) (fM_u (by omega) (fM_u (by omega) (fM_u (by omega) fM_r))))
  · rw [wK 43 _ (by decide)]; exact hqn
  · rw [wK 42 _ (by decide), ek]; exact e0
  · rw [w468]; exact e4
  · rw [wK 42 _ (by decide), ek] at g
    rw [wK 42 _ (by decide), w687]
    exact e11 g
  · rw [wK 42 _ (by decide), ek] at g
    rw [wK 42 _ (by decide), wK 42 _ (by decide)]
    exact e13 g
  · rw [w438] at g; exact absurd g (by decide)
  · rw [w438] at g; exact absurd g (by decide)
  · obtain ⟨rfl, w2⟩ := w
    rcases w2 with rfl | ⟨rfl, -⟩
    · exact ow4 ha
    · exact ow9 ha
theorem d_late (ha : a < 6) (h : rR m X M) (he : eG m X M) : stp m X M (u1 (u1 X 9 (6 * m + a) 14 (X 9 (6 * m + a) 14 + 1)) 7 m 9 (X 7 m 9 + 1)) (u1 M 40 0 (474 + a) (M 40 0 (474 + a) + 1)) := by
  rw [rR_rL h a ha, (rR_rS h).2.2]
  exact stp_f (p_late ha (s6_u ha).symm h) he (fX_u ow7 (fX_u (ow9 ha) fX_r)) (fM_u (by omega) fM_r)
theorem m_wt {t v : Int32} (ha : a < 6) : (if g_in (438 + nI a) 693 then g_let (u1 M 40 0 ((438 + nI a).toNatClampNeg) 1) fun M_8 => if g_in (468 + nI a) 693 then g_let (u1 M_8 40 0 ((468 + nI a).toNatClampNeg) t) fun M_10 => if g_in (480 + nI a) 693 then g_let (u1 M_10 40 0 ((480 + nI a).toNatClampNeg) (nI q)) fun M_12 => if g_in (687 + nI a) 693 then g_let (u1 M_12 40 0 ((687 + nI a).toNatClampNeg) v) fun M_19 => some M_19 else none else none else none else none) = some (mWt M a t (nI q) v) := by
  simp only [ix438, ix468, ix480, ix687, if_pos (in693 (show 438 + a < 693 by omega)), cl693 (show 438 + a < 693 by omega), if_pos (in693 (show 468 + a < 693 by omega)), cl693 (show 468 + a < 693 by omega), if_pos (in693 (show 480 + a < 693 by omega)), cl693 (show 480 + a < 693 by omega), if_pos (in693 (show 687 + a < 693 by omega)), cl693 (show 687 + a < 693 by omega), g_let_eq]
  rfl
theorem ex_14 (ha : a < 6) (h : rR m X M) (he : eG m X M) (h0 : M 40 0 (438 + a) = 0) (hq : q < 24) (hqn : nI q < M 43 0 a) (ek : M 42 0 (4 * (24 * a + q)) = nI 14) (hc : fn_X12_canTell (nI 14) x y z (nI q) = some 1) : both m X M (xO m (6 * m + a) (nI 14) x y z X) (mO (nI a) (nI q) (nI 14) x y z M) := by
  have e1 : xO m (6 * m + a) (nI 14) x y z X = ((fn_X9_read (6 * m + a) x X).bind fun r => if r ≤ X 7 m 5 then some X else (fn_X9_read (6 * m + a) x X).bind fun r => some (fn_X7_waitTill m (6 * m + a) 14 r X)).bind fun X => some X := rfl
  have e2 : mO (nI a) (nI q) (nI 14) x y z M = ((fn_X12_reg (nI a) x M).bind fun r => if r ≤ M 40 0 683 then some M else (if g_in (438 + nI a) 693 then g_let (u1 M 40 0 ((438 + nI a).toNatClampNeg) 1) fun M_8 => if g_in (468 + nI a) 693 then g_let (u1 M_8 40 0 ((468 + nI a).toNatClampNeg) r) fun M_10 => if g_in (480 + nI a) 693 then g_let (u1 M_10 40 0 ((480 + nI a).toNatClampNeg) (nI q)) fun M_12 => if g_in (687 + nI a) 693 then g_let (u1 M_12 40 0 ((687 + nI a).toNatClampNeg) 0) fun M_19 => some M_19 else none else none else none else none)).bind fun M => some M := rfl
  obtain ⟨b, hb, rfl⟩ := ct_1 (by omega) hc
  rw [e1, e2]
  simp only [x_read hb, m_reg ha hb, rR_rA h a b ha hb, (rR_rN h).1, Option.bind_some, m_wt ha]
  by_cases g : M 40 0 (8 * a + b) ≤ M 40 0 683
  · simp only [if_pos g]
    exact ⟨X, M, rfl, rfl, stp_r h he⟩
  · simp only [if_neg g]
    refine ⟨_, _, rfl, rfl, p_wait (k := 14) ha h he h0 hq hqn ek (fun k i j w => ?_) u1_self ?_ ?_ (fun w => absurd w (by decide)) (fun w => absurd w (by decide))⟩
    · show u1 (u1 (u1 X 4 (6 * m + a) 0 14) 4 (6 * m + a) 4 _) 9 (6 * m + a) 9 1 k i j = _
      rw [u1_ne (by omega), u1_ne (by omega), u1_ne (by omega)]
    · show u1 (u1 (u1 X 4 (6 * m + a) 0 14) 4 (6 * m + a) 4 _) 9 (6 * m + a) 9 1 4 (6 * m + a) 0 = _
      rw [u1_ne (by omega), u1_ne (by omega), u1_self]
      rfl
    · show u1 (u1 (u1 X 4 (6 * m + a) 0 14) 4 (6 * m + a) 4 _) 9 (6 * m + a) 9 1 4 (6 * m + a) 4 = _
      rw [u1_ne (by omega), u1_self]
theorem ex_11 (ha : a < 6) (h : rR m X M) (he : eG m X M) (h0 : M 40 0 (438 + a) = 0) (hq : q < 24) (hqn : nI q < M 43 0 a) (ek : M 42 0 (4 * (24 * a + q)) = nI 11) (ex : M 42 0 (4 * (24 * a + q) + 1) = x) (hc : fn_X12_canTell (nI 11) x y z (nI q) = some 1) : both m X M (xO m (6 * m + a) (nI 11) x y z X) (mO (nI a) (nI q) (nI 11) x y z M) := by
  have e1 : xO m (6 * m + a) (nI 11) x y z X = ((fn_X9_read (6 * m + a) y X).bind fun r => (fn_X9_read (6 * m + a) z X).bind fun s => (fn_X7_writeAt m (6 * m + a) x (r &&& 1) s X).bind fun X => some X).bind fun X => some X := rfl
  have e2 : mO (nI a) (nI q) (nI 11) x y z M = ((fn_X12_reg (nI a) z M).bind fun r => if r ≤ M 40 0 683 then (if M 40 0 683 ≤ r then wb_X12_waits_120 (nI a) (nI 11) x y 0 M else wb_X12_waits_120 (nI a) (nI 11) x y 1 M) else (if g_in (438 + nI a) 693 then g_let (u1 M 40 0 ((438 + nI a).toNatClampNeg) 1) fun M_8 => if g_in (468 + nI a) 693 then g_let (u1 M_8 40 0 ((468 + nI a).toNatClampNeg) r) fun M_10 => if g_in (480 + nI a) 693 then g_let (u1 M_10 40 0 ((480 + nI a).toNatClampNeg) (nI q)) fun M_12 => (fn_X12_reg (nI a) y M_12).bind fun v => if g_in (687 + nI a) 693 then g_let (u1 M_12 40 0 ((687 + nI a).toNatClampNeg) v) fun M_19 => some M_19 else none else none else none else none)).bind fun M => some M := by
    unfold mO fn_X12_waits wb_X12_waits_15
    rw [if_neg (show ¬ nI 11 < 7 by decide), if_neg (show ¬ nI 11 = 15 by decide), if_pos (show nI 11 ≤ 18 by decide), if_neg (show ¬ nI 11 = 10 by decide), if_neg (show ¬ nI 11 = 12 by decide), if_pos (show nI 11 = 11 from rfl)]
    simp only [if_neg (show ¬ nI 11 = 14 by decide)]
  have e3 : ∀ M, wb_X12_waits_120 (nI a) (nI 11) x y 0 M = (fn_X12_reg (nI a) y M).bind fun r => (fn_X12_writes x r 0 M).bind fun M => some M := fun M => by
    unfold wb_X12_waits_120
    rw [if_pos rfl, if_pos (show nI 11 = 11 from rfl)]
  have e4 : ∀ M, wb_X12_waits_120 (nI a) (nI 11) x y 1 M = if g_in (474 + nI a) 693 then if g_in (474 + nI a) 693 then g_let (u1 M 40 0 ((474 + nI a).toNatClampNeg) (M 40 0 ((474 + nI a).toNatClampNeg) + 1)) fun M => (fn_X12_reg (nI a) y M).bind fun r => (fn_X12_writes x r 1 M).bind fun M => some M else none else none := fun M => by
    unfold wb_X12_waits_120
    rw [if_neg one0]
    simp only [if_pos (show nI 11 = 11 from rfl)]
  obtain ⟨p, b, c, hp, hb, hc', rfl, rfl, rfl⟩ := ct_3 (by omega) hc
  rw [e1, e2]
  unfold fn_X7_writeAt fn_X7_noteLate
  simp only [x_read hb, x_read hc', m_reg ha hc', rR_rA h a b ha hb, rR_rA h a c ha hc', (rR_rN h).1, Option.bind_some, e3, e4, g_let_eq]
  by_cases g : M 40 0 (8 * a + c) ≤ M 40 0 683
  · simp only [if_pos g]
    by_cases g' : M 40 0 683 ≤ M 40 0 (8 * a + c)
    · simp only [if_pos g', if_neg (show ¬ M 40 0 (8 * a + c) < M 40 0 683 from Int32.not_lt.mpr g'), m_reg ha hb, Option.bind_some]
      obtain ⟨X1, M1, g1, g2, g3, -⟩ := d_write (v := M 40 0 (8 * a + b)) (l := 0) hp (Or.inl rfl) h he
      rw [(rR_rN h).1] at g1
      rw [g1, g2]
      exact ⟨_, _, rfl, rfl, g3⟩
    · have hl := d_late ha h he
      obtain ⟨X1, M1, g1, g2, g3, -⟩ := d_write (v := M 40 0 (8 * a + b)) (l := 1) hp (Or.inr rfl) hl.1 hl.2.1
      have g1' : fn_X8_write m (nI p) (M 40 0 (8 * a + b) &&& 1) (M 40 0 683) 1 (u1 (u1 X 9 (6 * m + a) 14 (X 9 (6 * m + a) 14 + 1)) 7 m 9 (X 7 m 9 + 1)) = some X1 := by
        rw [← g1]
        congr 1
        exact (rR_rN h).1.symm.trans (u1_ne (by omega)).symm
      have hx9 : u1 X 9 (6 * m + a) 14 (X 9 (6 * m + a) 14 + 1) 7 m 9 = X 7 m 9 := rfl
      simp only [if_neg g', if_pos (show M 40 0 (8 * a + c) < M 40 0 683 from Int32.not_le.mp g'), ix474, if_pos (in693 (show 474 + a < 693 by omega)), cl693 (show 474 + a < 693 by omega), m_reg ha hb, u1_ne (show ¬ (40 = 40 ∧ 0 = 0 ∧ 8 * a + b = 474 + a) by omega), Option.bind_some, hx9, g1', g2]
      exact ⟨_, _, rfl, rfl, stp_t hl g3⟩
  · have hr : ∀ r, fn_X12_reg (nI a) (nI b) (u1 (u1 (u1 M 40 0 (438 + a) 1) 40 0 (468 + a) r) 40 0 (480 + a) (nI q)) = some (M 40 0 (8 * a + b)) := fun r => by rw [m_reg ha hb, u1_ne (by omega), u1_ne (by omega), u1_ne (by omega)]
    simp only [if_neg g, ix438, ix468, ix480, ix687, if_pos (in693 (show 438 + a < 693 by omega)), cl693 (show 438 + a < 693 by omega), if_pos (in693 (show 468 + a < 693 by omega)), cl693 (show 468 + a < 693 by omega), if_pos (in693 (show 480 + a < 693 by omega)), cl693 (show 480 + a < 693 by omega), if_pos (in693 (show 687 + a < 693 by omega)), cl693 (show 687 + a < 693 by omega), hr, Option.bind_some]
    refine ⟨_, _, rfl, rfl, p_wait (k := 11) (t := M 40 0 (8 * a + c)) (v := M 40 0 (8 * a + b)) ha h he h0 hq hqn ek (fun k i j w => ?_) u1_self ?_ ?_ (fun _ => ⟨?_, ?_⟩) (fun w => absurd w (by decide))⟩
    · show u1 (u1 (u1 (u1 (u1 X 4 (6 * m + a) 1 _) 4 (6 * m + a) 3 _) 4 (6 * m + a) 0 11) 4 (6 * m + a) 4 _) 9 (6 * m + a) 9 1 k i j = _
      rw [u1_ne (by omega), u1_ne (by omega), u1_ne (by omega), u1_ne (by omega), u1_ne (by omega)]
    · show u1 (u1 (u1 (u1 (u1 X 4 (6 * m + a) 1 _) 4 (6 * m + a) 3 _) 4 (6 * m + a) 0 11) 4 (6 * m + a) 4 _) 9 (6 * m + a) 9 1 4 (6 * m + a) 0 = _
      rw [u1_ne (by omega), u1_ne (by omega), u1_self]
      rfl
    · show u1 (u1 (u1 (u1 (u1 X 4 (6 * m + a) 1 _) 4 (6 * m + a) 3 _) 4 (6 * m + a) 0 11) 4 (6 * m + a) 4 _) 9 (6 * m + a) 9 1 4 (6 * m + a) 4 = _
      rw [u1_ne (by omega), u1_self]
    · show u1 (u1 (u1 (u1 (u1 X 4 (6 * m + a) 1 _) 4 (6 * m + a) 3 _) 4 (6 * m + a) 0 11) 4 (6 * m + a) 4 _) 9 (6 * m + a) 9 1 4 (6 * m + a) 1 = _
      rw [u1_ne (by omega), u1_ne (by omega), u1_ne (by omega), u1_ne (by omega), u1_self, ex]
    · show u1 (u1 (u1 (u1 (u1 X 4 (6 * m + a) 1 _) 4 (6 * m + a) 3 _) 4 (6 * m + a) 0 11) 4 (6 * m + a) 4 _) 9 (6 * m + a) 9 1 4 (6 * m + a) 3 = _
      rw [u1_ne (by omega), u1_ne (by omega), u1_ne (by omega), u1_self]
theorem ex_13 (ha : a < 6) (h : rR m X M) (he : eG m X M) (h0 : M 40 0 (438 + a) = 0) (hq : q < 24) (hqn : nI q < M 43 0 a) (ek : M 42 0 (4 * (24 * a + q)) = nI 13) (ex : M 42 0 (4 * (24 * a + q) + 1) = x) (ey : M 42 0 (4 * (24 * a + q) + 2) = y) (hc : fn_X12_canTell (nI 13) x y z (nI q) = some 1) : both m X M (xO m (6 * m + a) (nI 13) x y z X) (mO (nI a) (nI q) (nI 13) x y z M) := by
  have e1 : xO m (6 * m + a) (nI 13) x y z X = ((fn_X9_read (6 * m + a) z X).bind fun s => (fn_X7_readAt m (6 * m + a) x y s X).bind fun X => some X).bind fun X => some X := rfl
  have e2 : mO (nI a) (nI q) (nI 13) x y z M = ((fn_X12_reg (nI a) z M).bind fun r => if r ≤ M 40 0 683 then (if M 40 0 683 ≤ r then wb_X12_waits_120 (nI a) (nI 13) x y 0 M else wb_X12_waits_120 (nI a) (nI 13) x y 1 M) else (if g_in (438 + nI a) 693 then g_let (u1 M 40 0 ((438 + nI a).toNatClampNeg) 1) fun M_8 => if g_in (468 + nI a) 693 then g_let (u1 M_8 40 0 ((468 + nI a).toNatClampNeg) r) fun M_10 => if g_in (480 + nI a) 693 then g_let (u1 M_10 40 0 ((480 + nI a).toNatClampNeg) (nI q)) fun M_12 => (fn_X12_reg (nI a) y M_12).bind fun v => if g_in (687 + nI a) 693 then g_let (u1 M_12 40 0 ((687 + nI a).toNatClampNeg) v) fun M_19 => some M_19 else none else none else none else none)).bind fun M => some M := by
    unfold mO fn_X12_waits wb_X12_waits_15
    rw [if_neg (show ¬ nI 13 < 7 by decide), if_neg (show ¬ nI 13 = 15 by decide), if_pos (show nI 13 ≤ 18 by decide), if_neg (show ¬ nI 13 = 10 by decide), if_neg (show ¬ nI 13 = 12 by decide), if_neg (show ¬ nI 13 = 11 by decide), if_pos (show nI 13 = 13 from rfl)]
    simp only [if_neg (show ¬ nI 13 = 14 by decide)]
  have e3 : ∀ M, wb_X12_waits_120 (nI a) (nI 13) x y 0 M = if g_in (486 + x) 693 then (fn_X12_gets (nI a) y (M 40 0 ((486 + x).toNatClampNeg)) M).bind fun M => some M else none := fun M => by
    unfold wb_X12_waits_120
    rw [if_pos rfl, if_neg (show ¬ nI 13 = 11 by decide)]
  have e4 : ∀ M, wb_X12_waits_120 (nI a) (nI 13) x y 1 M = if g_in (474 + nI a) 693 then if g_in (474 + nI a) 693 then g_let (u1 M 40 0 ((474 + nI a).toNatClampNeg) (M 40 0 ((474 + nI a).toNatClampNeg) + 1)) fun M => if g_in (486 + x) 693 then (fn_X12_gets (nI a) y (M 40 0 ((486 + x).toNatClampNeg)) M).bind fun M => some M else none else none else none := fun M => by
    unfold wb_X12_waits_120
    rw [if_neg one0]
    simp only [if_neg (show ¬ nI 13 = 11 by decide)]
  obtain ⟨p, b, c, hp, hb, hc', rfl, rfl, rfl⟩ := ct_3 (by omega) hc
  rw [e1, e2]
  unfold fn_X7_readAt fn_X7_noteLate
  simp only [x_read hc', m_reg ha hc', rR_rA h a c ha hc', (rR_rN h).1, Option.bind_some, e3, e4, g_let_eq]
  by_cases g : M 40 0 (8 * a + c) ≤ M 40 0 683
  · simp only [if_pos g]
    by_cases g' : M 40 0 683 ≤ M 40 0 (8 * a + c)
    · simp only [if_pos g', if_neg (show ¬ M 40 0 (8 * a + c) < M 40 0 683 from Int32.not_lt.mpr g'), ix486, if_pos (in693 (show 486 + p < 693 by omega)), cl693 (show 486 + p < 693 by omega), x_level hp, x_write hb, m_gets ha hb, rR_rP h p hp, Option.bind_some]
      exact ⟨_, _, rfl, rfl, ex_wr ha h he hb⟩
    · have hl := d_late ha h he
      have hx9 : u1 X 9 (6 * m + a) 14 (X 9 (6 * m + a) 14 + 1) 7 m 9 = X 7 m 9 := rfl
      have hlv := rR_rP hl.1 p hp
      simp only [if_neg g', if_pos (show M 40 0 (8 * a + c) < M 40 0 683 from Int32.not_le.mp g'), ix474, if_pos (in693 (show 474 + a < 693 by omega)), cl693 (show 474 + a < 693 by omega), hx9, ix486, if_pos (in693 (show 486 + p < 693 by omega)), cl693 (show 486 + p < 693 by omega), x_level hp, x_write hb, m_gets ha hb, hlv, Option.bind_some]
      exact ⟨_, _, rfl, rfl, stp_t hl (ex_wr ha hl.1 hl.2.1 hb)⟩
  · have hr : ∀ r, fn_X12_reg (nI a) (nI b) (u1 (u1 (u1 M 40 0 (438 + a) 1) 40 0 (468 + a) r) 40 0 (480 + a) (nI q)) = some (M 40 0 (8 * a + b)) := fun r => by rw [m_reg ha hb, u1_ne (by omega), u1_ne (by omega), u1_ne (by omega)]
    simp only [if_neg g, ix438, ix468, ix480, ix687, if_pos (in693 (show 438 + a < 693 by omega)), cl693 (show 438 + a < 693 by omega), if_pos (in693 (show 468 + a < 693 by omega)), cl693 (show 468 + a < 693 by omega), if_pos (in693 (show 480 + a < 693 by omega)), cl693 (show 480 + a < 693 by omega), if_pos (in693 (show 687 + a < 693 by omega)), cl693 (show 687 + a < 693 by omega), hr, Option.bind_some]
    refine ⟨_, _, rfl, rfl, p_wait (k := 13) (t := M 40 0 (8 * a + c)) (v := M 40 0 (8 * a + b)) ha h he h0 hq hqn ek (fun k i j w => ?_) u1_self ?_ ?_ (fun w => absurd w (by decide)) (fun _ => ⟨?_, ?_⟩)⟩
    · show u1 (u1 (u1 (u1 (u1 X 4 (6 * m + a) 1 _) 4 (6 * m + a) 2 _) 4 (6 * m + a) 0 13) 4 (6 * m + a) 4 _) 9 (6 * m + a) 9 1 k i j = _
      rw [u1_ne (by omega), u1_ne (by omega), u1_ne (by omega), u1_ne (by omega), u1_ne (by omega)]
    · show u1 (u1 (u1 (u1 (u1 X 4 (6 * m + a) 1 _) 4 (6 * m + a) 2 _) 4 (6 * m + a) 0 13) 4 (6 * m + a) 4 _) 9 (6 * m + a) 9 1 4 (6 * m + a) 0 = _
      rw [u1_ne (by omega), u1_ne (by omega), u1_self]
      rfl
    · show u1 (u1 (u1 (u1 (u1 X 4 (6 * m + a) 1 _) 4 (6 * m + a) 2 _) 4 (6 * m + a) 0 13) 4 (6 * m + a) 4 _) 9 (6 * m + a) 9 1 4 (6 * m + a) 4 = _
      rw [u1_ne (by omega), u1_self]
    · show u1 (u1 (u1 (u1 (u1 X 4 (6 * m + a) 1 _) 4 (6 * m + a) 2 _) 4 (6 * m + a) 0 13) 4 (6 * m + a) 4 _) 9 (6 * m + a) 9 1 4 (6 * m + a) 1 = _
      rw [u1_ne (by omega), u1_ne (by omega), u1_ne (by omega), u1_ne (by omega), u1_self, ex]
    · show u1 (u1 (u1 (u1 (u1 X 4 (6 * m + a) 1 _) 4 (6 * m + a) 2 _) 4 (6 * m + a) 0 13) 4 (6 * m + a) 4 _) 9 (6 * m + a) 9 1 4 (6 * m + a) 2 = _
      rw [u1_ne (by omega), u1_ne (by omega), u1_ne (by omega), u1_self, ey]
end WT
