/-! alone -/
theorem alone_loop {a N : Nat} (ha : a < 6) : ∀ (d k n : Nat) (X M : SM) (f f' : Nat), k + d = 6 → d < f → d < f' → tk 1 n X M → ∃ X' M' f1 f1', wl_X11_alone_33 f (nI a) (nI N) (nI k) X = wl_X11_alone_33 (f1 + 1) (nI a) (nI N) 6 X' ∧ wl_X12_alone_30 f' (nI a) (nI N) (nI k) M = wl_X12_alone_30 (f1' + 1) (nI a) (nI N) 6 M' ∧ tk 1 n X' M' ∧ gX X X' ∧ (∀ kk j, kk ≠ 40 → kk ≠ 43 → kk ≠ 57 → M' kk 0 j = M kk 0 j) ∧ (∀ j, k ≤ j → j < 6 → M' 57 0 j = M 43 0 j) ∧ (∀ j, j < k → M' 57 0 j = M 57 0 j) ∧ (∀ j, 6 ≤ j → M' 43 0 j = M 43 0 j) := by
  intro d
  induction d with
  | zero =>
    intro k n X M f f' h1 h2 h3 h
    obtain ⟨f, rfl⟩ : ∃ q, f = q + 1 := ⟨f - 1, by omega⟩
    obtain ⟨f', rfl⟩ : ∃ q, f' = q + 1 := ⟨f' - 1, by omega⟩
    have : k = 6 := by omega
    subst this
    exact ⟨X, M, f, f', rfl, rfl, h, fun _ _ _ _ => rfl, fun _ _ _ _ _ => rfl, fun j h1 h2 => absurd h1 (by omega), fun _ _ => rfl, fun _ _ => rfl⟩
  | succ d ih =>
    intro k n X M f f' h1 h2 h3 h
    obtain ⟨f, rfl⟩ : ∃ q, f = q + 1 := ⟨f - 1, by omega⟩
    obtain ⟨f', rfl⟩ : ∃ q, f' = q + 1 := ⟨f' - 1, by omega⟩
    have hk : k < 6 := by omega
    have h' : tk 1 n X (u1 M 57 0 k (M 43 0 k)) := h
    rw [wl_X11_alone_33_s, wl_X12_alone_30_s]
    unfold wb_X11_alone_33 wb_X12_alone_30
    simp only [if_neg (show ¬ (6 : Int32) ≤ nI k from nI_ge (b := 6) hk (by decide)), if_pos (in6 hk), cl6 hk, g_let_eq, nI_1]
    by_cases z : k = a
    · subst z
      simp only [if_true]
      obtain ⟨X', M', f1, f1', b1, b2, b3, b4, b5, b6, b7, b8⟩ := ih (k + 1) n X (u1 M 57 0 k (M 43 0 k)) f f' (by omega) (by omega) (by omega) h'
      refine ⟨X', M', f1, f1', b1, b2, b3, b4, fun kk j q1 q2 q3 => (b5 kk j q1 q2 q3).trans (u1_k q3), fun j q1 q2 => ?_, fun j q => (b7 j (by omega)).trans (u1_ne (by omega)), fun j q => (b8 j q).trans (u1_k (by decide))⟩
      by_cases y : j = k
      · subst y
        rw [b7 j (by omega), u1_self]
      · rw [b6 j (by omega) q2, u1_k (by decide)]
    · simp only [if_neg (show ¬ nI k = nI a from fun w => z ((nI_eq (by omega) (by omega)).mp w))]
      obtain ⟨X1, M1, e1, e2, e3, e4, e5⟩ := p_wipe hk h'.1
      have gx : gX X X1 := fun kk i j q => e4 kk i j (fun w => q (by unfold gh; omega)) (fun w => q (by unfold gh; omega)) (fun w => q (by unfold gh; omega))
      have gm : ∀ kk j, kk ≠ 40 → kk ≠ 43 → M1 kk 0 j = u1 M 57 0 k (M 43 0 k) kk 0 j := fun kk j q1 q2 => e5 kk j (fun w => q1 w.1) (fun w => q2 w.1)
      have h1' : tk 1 n X1 M1 := ⟨e3, eG_c (X := X) (M := M) (fun j => e4 _ _ _ (by omega) (by omega) (by omega)) (fun j => e4 _ _ _ (by omega) (by omega) (by omega)) (fun j q1 q2 => (e5 _ _ (by omega) (by omega)).trans (u1_k (by decide))) h.2.1, gV_g gx (fun kk j q1 q2 q3 q4 q5 => (gm kk j q1 q3).trans (u1_k q4)) h.2.2.1, gT_g gx (fun kk j q1 q2 q3 q4 q5 => (gm kk j q1 q3).trans (u1_k q4)) h.2.2.2.1, (e5 _ _ (by omega) (by omega)).trans h'.2.2.2.2⟩
      simp only [e1, e2, Option.bind_some]
      obtain ⟨X', M', f1, f1', b1, b2, b3, b4, b5, b6, b7, b8⟩ := ih (k + 1) n X1 M1 f f' (by omega) (by omega) (by omega) h1'
      refine ⟨X', M', f1, f1', b1, b2, b3, gX_t gx b4, fun kk j q1 q2 q3 => (b5 kk j q1 q2 q3).trans ((gm kk j q1 q2).trans (u1_k q3)), fun j q1 q2 => ?_, fun j q => (b7 j (by omega)).trans ((gm 57 j (by decide) (by decide)).trans (u1_ne (by omega))), fun j q => (b8 j q).trans ((e5 43 j (by omega) (by omega)).trans (u1_k (by decide)))⟩
      by_cases y : j = k
      · subst y
        rw [b7 j (by omega), gm 57 j (by decide) (by decide), u1_self]
      · rw [b6 j (by omega) q2, e5 43 j (by omega) (by omega), u1_k (by decide)]
def m43 (M : SM) (k : Nat) : SM := fun kk a j => if kk = 43 ∧ a = 0 ∧ k ≤ j ∧ j < 6 then M 57 0 j else M kk a j
theorem a74_loop {r : Int32} : ∀ (d k : Nat) (M : SM) (f : Nat), k + d = 6 → d < f → wl_X12_alone_74 f r (nI k) M = some (r, mcb (m43 M k) 0) := by
  intro d
  induction d with
  | zero =>
    intro k M f h1 h2
    obtain ⟨f, rfl⟩ : ∃ q, f = q + 1 := ⟨f - 1, by omega⟩
    have : k = 6 := by omega
    subst this
    rw [wl_X12_alone_74_s]
    unfold wb_X12_alone_74
    rw [if_pos (show (6 : Int32) ≤ nI 6 by decide), m_back, show m43 M 6 = M from funext fun kk => funext fun a => funext fun j => if_neg (by omega)]
    rfl
  | succ d ih =>
    intro k M f h1 h2
    obtain ⟨f, rfl⟩ : ∃ q, f = q + 1 := ⟨f - 1, by omega⟩
    have hk : k < 6 := by omega
    rw [wl_X12_alone_74_s]
    unfold wb_X12_alone_74
    simp only [if_neg (show ¬ (6 : Int32) ≤ nI k from nI_ge (b := 6) hk (by decide)), if_pos (in6 hk), cl6 hk, g_let_eq, nI_1]
    rw [ih (k + 1) _ f (by omega) (by omega)]
    congr 3
    funext kk a j
    unfold m43
    simp only [u1_at]
    by_cases q : kk = 43 ∧ a = 0 ∧ k ≤ j ∧ j < 6
    · rw [if_pos q]
      by_cases z : j = k
      · subst z
        rw [if_neg (by omega), if_pos ⟨q.1, q.2.1, rfl⟩]
      · rw [if_pos (by omega), if_neg (by omega)]
    · rw [if_neg q, if_neg (by omega), if_neg (by omega)]
theorem c_alone {b : Nat} {X M : SM} (x1 x2 : Int32) (hb : b < 2 ^ 30) (h : rJ b X M) : ∃ r X' M', fn_X11_alone x1 x2 X = some (r, X') ∧ fn_X12_alone x1 x2 M = some (r, M') ∧ rJ b X' M' := by
  unfold fn_X11_alone fn_X12_alone
  simp only [g_let_eq]
  rcases nI_cases x1 6 (by decide) with ⟨a, ha, rfl⟩ | ho
  · simp only [isThread_in ha, m_isThread_in ha, Option.bind_some, if_neg one0]
    by_cases h1 : x2 < 1
    · rw [if_pos h1, within_no1 h1]
      exact ⟨_, _, _, rfl, rfl, rJ_thr h⟩
    · by_cases h2 : x2 ≤ 60
      · rw [if_neg h1, if_pos h2, within_yes h1 h2, if_neg one0]
        obtain ⟨N, hN1, hN, rfl⟩ := n_1_60 h1 h2
        obtain ⟨n, hn, en⟩ := h.2.2.2.2.2.2
        obtain ⟨g1, g2⟩ := gh_start (rJ_thr (v := 0) h) en
        obtain ⟨X1, M1, f1, f1', b1, b2, b3, b4, b5, b6, b7, b8⟩ := alone_loop (N := N) ha 6 0 n (cpA X) _ 1000 1000 (by omega) (by omega) (by omega) g2
        obtain ⟨r, n', X', M', e1, e2, e3, e4, e5⟩ := d_of ha hN1 hN (by omega) b3
        rw [g1, m_keeps]
        simp only [Option.bind_some]
        rw [show wl_X11_alone_33 1000 (nI a) (nI N) 0 (cpA X) = _ from b1, show wl_X12_alone_30 1000 (nI a) (nI N) 0 (mkp (u1 M 39 0 15 0) 0) = _ from b2, wl_X11_alone_33_s, wl_X12_alone_30_s]
        unfold wb_X11_alone_33 wb_X12_alone_30
        simp only [if_pos (show (6 : Int32) ≤ 6 by decide), e1, e2, Option.bind_some]
        rw [show wl_X12_alone_74 1000 r 0 M' = _ from a74_loop 6 0 M' 1000 (by omega) (by omega)]
        refine ⟨_, _, _, rfl, rfl, rJ_g (M := u1 M 39 0 15 0) (gX_t cpA_g (gX_t b4 (gX_o e4))) (fun j hj => ?_) (fun k j q1 q2 => ?_) (fun j hj => ?_) (gW_tk e3) (rJ_thr h)⟩
        · rw [mcb_40 hj, show m43 M' 0 41 0 j = M' 41 0 j from if_neg (by omega), e5 41 j (by decide), b5 41 j (by decide) (by decide) (by decide), mkp_41 hj]
        · rw [mcb_o (by omega)]
          by_cases z : k = 43 ∧ j < 6
          · obtain ⟨rfl, z⟩ := z
            rw [show m43 M' 0 43 0 j = M' 57 0 j from if_pos ⟨rfl, rfl, by omega, z⟩, e5 57 j (by decide), b6 j (by omega) z, mkp_40 (by decide)]
          · rw [show m43 M' 0 k 0 j = M' k 0 j from if_neg (by omega), e5 k j (by omega)]
            by_cases y : k = 43
            · subst y
              rw [b8 j (by omega), mkp_40 (by decide)]
            · rw [b5 k j (by omega) y (by omega), mkp_40 (by omega)]
        · rw [mcb_o (by omega), show m43 M' 0 39 0 j = M' 39 0 j from if_neg (by omega), e5 39 j (by decide), b5 39 j (by decide) (by decide) (by decide), mkp_40 (by decide)]
      · rw [if_neg h1, if_neg h2, within_no2 h1 h2]
        exact ⟨_, _, _, rfl, rfl, rJ_thr h⟩
  · rw [isThread_out ho, m_isThread_out ho]
    exact ⟨_, _, _, rfl, rfl, rJ_thr h⟩
