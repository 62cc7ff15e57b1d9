/-! the tick: SEND and TAKE whole -/
section MT
variable {m a q : Nat} {x y z : Int32} {X M : SM}
theorem c686 : Int32.toNatClampNeg 686 = 686 := by decide
theorem ex_16 (h2m : m < 2) (ha : a < 6) (h : rR m X M) (he : eG m X M) (h0 : M 40 0 (438 + a) = 0) (hq : q < 24) (hqn : nI q < M 43 0 a) (hc : fn_X12_canTell (nI 16) x y z (nI q) = some 1) : both m X M (xO m (6 * m + a) (nI 16) x y z X) (mO (nI a) (nI q) (nI 16) x y z M) := by
  have e1 : xO m (6 * m + a) (nI 16) x y z X = ((fn_X9_read (6 * m + a) y X).bind fun r => (fn_X7_send m (6 * m + a) x r X).bind fun X => some X).bind fun X => some X := rfl
  have e2 : mO (nI a) (nI q) (nI 16) x y z M = (fn_X12_meets (nI a) (nI 16) x y (nI q) M).bind fun M => some M := rfl
  obtain ⟨c, b, hc', hb, rfl, rfl⟩ := ct_c (by omega) hc
  obtain ⟨len, ha', hb', hD⟩ := rR_rQ h
  obtain ⟨l1, l2, l3⟩ := ha' c hc'
  have hroom := q_room ha hc' h h0 l3 l2
  have jn : fn_X7_firstAt m (nI c) 3 X = some none → fn_X12_meets (nI a) (nI 16) (nI c) (nI b) (nI q) M = wb_X12_meets_86 (nI a) (nI c) (nI b) (nI q) 2 (438 + nI a) M → both m X M (xO m (6 * m + a) (nI 16) (nI c) (nI b) z X) (mO (nI a) (nI q) (nI 16) (nI c) (nI b) z M) := by
    intro g1 g2
    rw [e1, e2, g2, m_join ha hc' hroom hb l2, x_read hb, rR_rA h a b ha hb]
    have hu : u1 (u1 X 4 (6 * m + a) 3 (M 40 0 (8 * a + b))) 9 (6 * m + a) 9 2 9 (6 * m + a) 0 = nI a := (u1_ne (by omega)).trans (rR_rU h a ha)
    have hs : fn_X7_send m (6 * m + a) (nI c) (M 40 0 (8 * a + b)) X = some (xJ X m a c (len c) 3 (M 40 0 (8 * a + b)) (nI 2)) := by
      unfold fn_X7_send
      rw [g1]
      simp only [Option.bind_some, g_let_eq, hu]
      rw [x_join (L := len c) hc' hroom ((u1_k (by decide)).trans ((u1_k (by decide)).trans l1))]
      rfl
    simp only [Option.bind_some, hs]
    exact ⟨_, _, rfl, rfl, p_join (s := 2) ha hc' h he h0 hq hqn l3 l2 (Or.inl ⟨rfl, rfl, rfl⟩)⟩
  by_cases hz : len c = 0
  · rw [hz] at l1 l2
    refine jn (x7_first0 hc' l1) ?_
    unfold fn_X12_meets
    simp only [ix518, if_pos (in693 (show 518 + c < 693 by omega)), cl693 (show 518 + c < 693 by omega), l2]
    rfl
  · obtain ⟨g1, t, ht, g2, g3⟩ := hb' c 0 hc' (by omega)
    have g4 : X 14 (4 * m + c) 0 = nI t := g1.trans g2
    have hst : X 9 (6 * m + t) 9 = M 40 0 (438 + t) := rR_rW h t 1 ht (by omega)
    have hm : fn_X12_meets (nI a) (nI 16) (nI c) (nI b) (nI q) M = wb_X12_meets_43 (nI a) (nI 16) (nI c) (nI b) (nI q) (nI t) 3 M := by
      unfold fn_X12_meets
      simp only [ix518, if_pos (in693 (show 518 + c < 693 by omega)), cl693 (show 518 + c < 693 by omega), l2, if_neg (nI_nle (show 0 < len c by omega) (show len c < 2 ^ 31 by omega)), ix494, if_pos (in693 (show 494 + 6 * c < 693 by omega)), cl693 (show 494 + 6 * c < 693 by omega), g_let_eq, show M 40 0 (494 + 6 * c) = nI t from g2]
      rfl
    have h16 : nI 16 = 16 := rfl
    by_cases hs : M 40 0 (438 + t) = 3
    · obtain ⟨w, hw, ew, hwn, -, -, hC⟩ := (rR_rE h t ht).2 (Or.inr (Or.inr hs))
      obtain ⟨k17, x42⟩ := hC hs
      obtain ⟨k, hk, ek, hct⟩ := i_at h ht hw hwn
      have : k = 17 := (nI_eq (by omega) (by decide)).mp (ek.symm.trans k17)
      subst this
      obtain ⟨-, d, -, hd, -, ed⟩ := ct_c (by omega) hct
      have hr := ex_wr (v := M 40 0 (8 * a + b)) ht h he hd
      obtain ⟨X2, M2, r1, r2, r3⟩ := d_release (f := t) (L := len c) ht hc' hr.1 hr.2.1 (Or.inr ((u1_ne (by omega)).trans hs)) (by omega) l3 ((u1_ne (by omega)).trans l2) ((u1_ne (by omega)).trans g2)
      rw [e1, e2, hm, x_read hb, rR_rA h a b ha hb]
      unfold fn_X7_send wb_X12_meets_43
      rw [x7_first1 hc' (by omega) l3 l1 ht g4, hst]
      simp only [Option.bind_some, if_pos hs, if_pos (show nI 16 = 16 from rfl), if_neg (nI_pos (show t < 2 ^ 31 by omega)), ix438, ix480, if_pos (in693 (show 438 + t < 693 by omega)), cl693 (show 438 + t < 693 by omega), if_pos (in693 (show 480 + t < 693 by omega)), cl693 (show 480 + t < 693 by omega), ew, m_part2 ht hw, m_reg ha hb, ed, m_gets ht hd, x42, x_write hd, g_let_eq, c686, r1, r2]
      simp only [if_pos (show 6 * m + t < 12 by omega), Option.bind_some, r1]
      exact ⟨_, _, rfl, rfl, stp_t hr r3⟩
    · refine jn (by rw [x7_first1 hc' (by omega) l3 l1 ht g4, hst, if_neg hs]) (hm.trans ?_)
      unfold wb_X12_meets_43
      simp only [if_neg (nI_pos (show t < 2 ^ 31 by omega)), ix438, if_pos (in693 (show 438 + t < 693 by omega)), cl693 (show 438 + t < 693 by omega), if_neg hs, if_pos (show nI 16 = 16 from rfl)]
theorem ex_17 (h2m : m < 2) (ha : a < 6) (h : rR m X M) (he : eG m X M) (h0 : M 40 0 (438 + a) = 0) (hq : q < 24) (hqn : nI q < M 43 0 a) (ek : M 42 0 (4 * (24 * a + q)) = nI 17) (ey : M 42 0 (4 * (24 * a + q) + 2) = y) (hc : fn_X12_canTell (nI 17) x y z (nI q) = some 1) : both m X M (xO m (6 * m + a) (nI 17) x y z X) (mO (nI a) (nI q) (nI 17) x y z M) := by
  have e1 : xO m (6 * m + a) (nI 17) x y z X = ((fn_X7_take m (6 * m + a) x y X).bind fun X => some X).bind fun X => some X := rfl
  have e2 : mO (nI a) (nI q) (nI 17) x y z M = (fn_X12_meets (nI a) (nI 17) x y (nI q) M).bind fun M => some M := rfl
  obtain ⟨c, b, hc', hb, rfl, rfl⟩ := ct_c (by omega) hc
  obtain ⟨len, ha', hb', hD⟩ := rR_rQ h
  obtain ⟨l1, l2, l3⟩ := ha' c hc'
  have hroom := q_room ha hc' h h0 l3 l2
  have jn : fn_X7_firstAt m (nI c) 2 X = some none → fn_X12_meets (nI a) (nI 17) (nI c) (nI b) (nI q) M = wb_X12_meets_86 (nI a) (nI c) (nI b) (nI q) 3 (438 + nI a) M → both m X M (xO m (6 * m + a) (nI 17) (nI c) (nI b) z X) (mO (nI a) (nI q) (nI 17) (nI c) (nI b) z M) := by
    intro g1 g2
    rw [e1, e2, g2, m_join ha hc' hroom hb l2]
    have hu : u1 (u1 X 4 (6 * m + a) 2 (nI b)) 9 (6 * m + a) 9 3 9 (6 * m + a) 0 = nI a := (u1_ne (by omega)).trans (rR_rU h a ha)
    have hs : fn_X7_take m (6 * m + a) (nI c) (nI b) X = some (xJ X m a c (len c) 2 (nI b) (nI 3)) := by
      unfold fn_X7_take
      rw [g1]
      simp only [Option.bind_some, g_let_eq, hu]
      rw [x_join (L := len c) hc' hroom ((u1_k (by decide)).trans ((u1_k (by decide)).trans l1))]
      rfl
    simp only [Option.bind_some, hs]
    exact ⟨_, _, rfl, rfl, p_join (s := 3) ha hc' h he h0 hq hqn l3 l2 (Or.inr ⟨rfl, rfl, ek, ey.symm⟩)⟩
  by_cases hz : len c = 0
  · rw [hz] at l1 l2
    refine jn (x7_first0 hc' l1) ?_
    unfold fn_X12_meets
    simp only [ix518, if_pos (in693 (show 518 + c < 693 by omega)), cl693 (show 518 + c < 693 by omega), l2]
    rfl
  · obtain ⟨g1, t, ht, g2, g3⟩ := hb' c 0 hc' (by omega)
    have g4 : X 14 (4 * m + c) 0 = nI t := g1.trans g2
    have hst : X 9 (6 * m + t) 9 = M 40 0 (438 + t) := rR_rW h t 1 ht (by omega)
    have hm : fn_X12_meets (nI a) (nI 17) (nI c) (nI b) (nI q) M = wb_X12_meets_43 (nI a) (nI 17) (nI c) (nI b) (nI q) (nI t) 2 M := by
      unfold fn_X12_meets
      simp only [ix518, if_pos (in693 (show 518 + c < 693 by omega)), cl693 (show 518 + c < 693 by omega), l2, if_neg (nI_nle (show 0 < len c by omega) (show len c < 2 ^ 31 by omega)), ix494, if_pos (in693 (show 494 + 6 * c < 693 by omega)), cl693 (show 494 + 6 * c < 693 by omega), g_let_eq, show M 40 0 (494 + 6 * c) = nI t from g2]
      rfl
    have h17 : nI 17 = 17 := rfl
    by_cases hs : M 40 0 (438 + t) = 2
    · obtain ⟨w, hw, ew, hwn, -, hB, -⟩ := (rR_rE h t ht).2 (Or.inr (Or.inl hs))
      have x43 := hB hs
      have hr := ex_wr (v := M 40 0 (687 + t)) ha h he hb
      obtain ⟨X2, M2, r1, r2, r3⟩ := d_release (f := t) (L := len c) ht hc' hr.1 hr.2.1 (Or.inl ((u1_ne (by omega)).trans hs)) (by omega) l3 ((u1_ne (by omega)).trans l2) ((u1_ne (by omega)).trans g2)
      rw [e1, e2, hm]
      unfold fn_X7_take wb_X12_meets_43
      rw [x7_first1 hc' (by omega) l3 l1 ht g4, hst]
      simp only [Option.bind_some, if_pos hs, if_neg (show ¬ nI 17 = 16 by decide), if_neg (nI_pos (show t < 2 ^ 31 by omega)), ix438, ix480, ix687, if_pos (in693 (show 438 + t < 693 by omega)), cl693 (show 438 + t < 693 by omega), if_pos (in693 (show 480 + t < 693 by omega)), cl693 (show 480 + t < 693 by omega), if_pos (in693 (show 687 + t < 693 by omega)), cl693 (show 687 + t < 693 by omega), ew, m_part2 ht hw, m_gets ha hb, x43, x_write hb, g_let_eq, c686, r1, r2]
      simp only [if_pos (show 6 * m + t < 12 by omega), Option.bind_some, r1]
      exact ⟨_, _, rfl, rfl, stp_t hr r3⟩
    · refine jn (by rw [x7_first1 hc' (by omega) l3 l1 ht g4, hst, if_neg hs]) (hm.trans ?_)
      unfold wb_X12_meets_43
      simp only [if_neg (nI_pos (show t < 2 ^ 31 by omega)), ix438, if_pos (in693 (show 438 + t < 693 by omega)), cl693 (show 438 + t < 693 by omega), if_neg hs, if_neg (show ¬ nI 17 = 16 by decide)]
end MT
