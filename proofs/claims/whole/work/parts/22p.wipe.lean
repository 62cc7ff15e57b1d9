/-! wipe -/
theorem nq_c {M M' : SM} {t c : Nat} (h0 : M' 40 0 (518 + c) = M 40 0 (518 + c)) (h1 : ∀ k, k < 6 → M' 40 0 (494 + 6 * c + k) = M 40 0 (494 + 6 * c + k)) (h : nq M t c) : nq M' t c := by
  intro n k hn e hk
  rw [h1 k (by omega)]
  exact h n k hn (h0.symm.trans e) hk
theorem mq_other {M : SM} {c n : Nat} {g : Nat → Int32} {k i j : Nat} (h : ¬ (k = 40 ∧ i = 0 ∧ ((494 + 6 * c ≤ j ∧ j < 500 + 6 * c) ∨ j = 518 + c))) : mq M c g n k i j = M k i j := by
  unfold mq
  rw [if_neg (by omega), u1_ne (by omega)]
theorem xq_other {X : SM} {m c n : Nat} {g : Nat → Int32} {k i j : Nat} (h1 : ¬ (k = 14 ∧ i = 4 * m + c)) (h2 : ¬ (k = 15 ∧ i = m)) : xq X m c g n k i j = X k i j := by
  unfold xq
  rw [if_neg (fun q => h1 ⟨q.1, q.2.1⟩), u1_ne (fun q => h2 ⟨q.1, q.2.1⟩)]
theorem leave_all {m t : Nat} : ∀ (d c : Nat) (X M : SM) (f f' : Nat), c + d = 4 → d < f → d < f' → rR m X M → (∀ e, e < c → nq M t e) → ∃ X' M', wl_X0_leaveAll_2 f m (nI t) (nI c) X = some X' ∧ wl_X12_leaves_2 f' (nI t) (nI c) M = some M' ∧ rR m X' M' ∧ (∀ e, e < 4 → nq M' t e) ∧ (∀ k i j, ¬ (k = 14 ∧ 4 * m ≤ i ∧ i < 4 * m + 4) → ¬ (k = 15 ∧ i = m) → X' k i j = X k i j) ∧ (∀ k i j, ¬ (k = 40 ∧ i = 0 ∧ 494 ≤ j ∧ j < 522) → M' k i j = M k i j) := by
  intro d
  induction d with
  | zero =>
    intro c X M f f' h1 h2 h3 h hn
    obtain ⟨f, rfl⟩ : ∃ q, f = q + 1 := ⟨f - 1, by omega⟩
    obtain ⟨f', rfl⟩ : ∃ q, f' = q + 1 := ⟨f' - 1, by omega⟩
    have : c = 4 := by omega
    subst this
    exact ⟨X, M, rfl, rfl, h, hn, fun _ _ _ _ _ => rfl, fun _ _ _ _ => rfl⟩
  | succ d ih =>
    intro c X M f f' h1 h2 h3 h hn
    obtain ⟨f, rfl⟩ : ∃ q, f = q + 1 := ⟨f - 1, by omega⟩
    obtain ⟨f', rfl⟩ : ∃ q, f' = q + 1 := ⟨f' - 1, by omega⟩
    obtain ⟨n, g, g', l1, l2, l3, l4⟩ := p_leave (t := t) (show c < 4 by omega) h (fun x1 x2 M => wl_X12_leaves_2 f' x1 x2 M)
    obtain ⟨X', M', e1, e2, e3, e4, e5, e6⟩ := ih (c + 1) (xq X m c g n) (mq M c g' n) f f' (by omega) (by omega) (by omega) l3 (fun e he => by
      by_cases z : e = c
      · subst z; exact l4
      · exact nq_c (mq_other (by omega)) (fun k hk => mq_other (by omega)) (hn e (by omega)))
    refine ⟨X', M', ?_, ?_, e3, e4, fun k i j q1 q2 => (e5 k i j q1 q2).trans (xq_other (by omega) q2), fun k i j q => (e6 k i j q).trans (mq_other (by omega))⟩
    · rw [wl_X0_leaveAll_2_s]
      unfold wb_X0_leaveAll_2
      rw [if_neg (show ¬ (4 : Int32) ≤ nI c from nI_ge (b := 4) (by omega) (by decide)), l1]
      simp only [Option.bind_some, g_let_eq, nI_1]
      exact e1
    · rw [wl_X12_leaves_2_s]
      unfold wb_X12_leaves_2
      rw [if_neg (show ¬ (4 : Int32) ≤ nI c from nI_ge (b := 4) (by omega) (by decide)), l2, nI_1]
      exact e2
def mz2 (M : SM) (a k : Nat) : SM := fun kk i j => if kk = 40 ∧ i = 0 ∧ ((144 + 24 * a + k ≤ j ∧ j < 168 + 24 * a) ∨ (288 + 24 * a + k ≤ j ∧ j < 312 + 24 * a)) then 0 else M kk i j
theorem wipe_loop {a : Nat} (ha : a < 6) : ∀ (d k : Nat) (M : SM) (f : Nat), k + d = 24 → d < f → wl_X12_wipes_51 f (nI a) (nI k) M = some (u1 (mz2 M a k) 43 0 a 0) := by
  intro d
  induction d with
  | zero =>
    intro k M f h1 h2
    obtain ⟨f, rfl⟩ : ∃ q, f = q + 1 := ⟨f - 1, by omega⟩
    have : k = 24 := by omega
    subst this
    have e : mz2 M a 24 = M := by
      funext kk i j
      exact if_neg (by omega)
    rw [wl_X12_wipes_51_s, e]
    unfold wb_X12_wipes_51
    rw [if_pos (show (24 : Int32) ≤ nI 24 by decide), if_pos (in6 ha), cl6 ha]
    rfl
  | succ d ih =>
    intro k M f h1 h2
    obtain ⟨f, rfl⟩ : ∃ q, f = q + 1 := ⟨f - 1, by omega⟩
    rw [wl_X12_wipes_51_s]
    unfold wb_X12_wipes_51
    simp only [if_neg (show ¬ (24 : Int32) ≤ nI k from nI_ge (b := 24) (by omega) (by decide)), ix144, ix288, if_pos (in693 (show 144 + 24 * a + k < 693 by omega)), cl693 (show 144 + 24 * a + k < 693 by omega), if_pos (in693 (show 288 + 24 * a + k < 693 by omega)), cl693 (show 288 + 24 * a + k < 693 by omega), g_let_eq, nI_1]
    rw [ih (k + 1) _ f (by omega) (by omega)]
    congr 2
    funext kk i j
    unfold mz2
    simp only [u1_at]
    by_cases q : kk = 40 ∧ i = 0 ∧ ((144 + 24 * a + k ≤ j ∧ j < 168 + 24 * a) ∨ (288 + 24 * a + k ≤ j ∧ j < 312 + 24 * a))
    · rw [if_pos q]
      by_cases z : j = 288 + 24 * a + k ∨ j = 144 + 24 * a + k
      · rw [if_neg (by omega)]
        by_cases z' : j = 288 + 24 * a + k
        · rw [if_pos ⟨q.1, q.2.1, z'⟩]
        · rw [if_neg (by omega), if_pos ⟨q.1, q.2.1, by omega⟩]
      · rw [if_pos (by omega)]
    · rw [if_neg q, if_neg (by omega), if_neg (by omega), if_neg (by omega)]
def mw (M : SM) (a : Nat) : SM := u1 (mz2 (u1 (u1 (u1 (u1 M 40 0 (438 + a) 0) 40 0 (444 + a) 0) 40 0 (432 + a) 0) 40 0 (468 + a) (-1)) a 0) 43 0 a 0
theorem mw_o {M : SM} {a j : Nat} (h : ¬ ((144 + 24 * a ≤ j ∧ j < 168 + 24 * a) ∨ (288 + 24 * a ≤ j ∧ j < 312 + 24 * a) ∨ j = 438 + a ∨ j = 444 + a ∨ j = 432 + a ∨ j = 468 + a)) : mw M a 40 0 j = M 40 0 j := by
  unfold mw
  rw [u1_k (by decide)]
  unfold mz2
  rw [if_neg (by omega), u1_ne (by omega), u1_ne (by omega), u1_ne (by omega), u1_ne (by omega)]
theorem mw_k {M : SM} {a k j : Nat} (h : k ≠ 40) (h' : k ≠ 43) : mw M a k 0 j = M k 0 j := by
  unfold mw
  rw [u1_k h']
  unfold mz2
  rw [if_neg (fun q => h q.1), u1_k h, u1_k h, u1_k h, u1_k h]
theorem mw_43 {M : SM} {a j : Nat} (h : j ≠ a) : mw M a 43 0 j = M 43 0 j := by
  unfold mw
  rw [u1_ne (fun q => h q.2.2)]
  rfl
theorem mw_43a {M : SM} {a : Nat} : mw M a 43 0 a = 0 := u1_self
theorem mw_0 {M : SM} {a j : Nat} (ha : a < 6) (h : (144 + 24 * a ≤ j ∧ j < 168 + 24 * a) ∨ (288 + 24 * a ≤ j ∧ j < 312 + 24 * a) ∨ j = 438 + a ∨ j = 444 + a ∨ j = 432 + a) : mw M a 40 0 j = 0 := by
  unfold mw
  rw [u1_k (by decide)]
  unfold mz2
  by_cases q : (144 + 24 * a ≤ j ∧ j < 168 + 24 * a) ∨ (288 + 24 * a ≤ j ∧ j < 312 + 24 * a)
  · rw [if_pos ⟨rfl, rfl, by omega⟩]
  · rw [if_neg (by omega), u1_ne (by omega)]
    by_cases z : j = 432 + a
    · rw [u1_eq ⟨rfl, rfl, z⟩]
    · rw [u1_ne (by omega)]
      by_cases z' : j = 444 + a
      · rw [u1_eq ⟨rfl, rfl, z'⟩]
      · rw [u1_ne (by omega), u1_eq ⟨rfl, rfl, by omega⟩]
theorem mw_1 {M : SM} {a : Nat} (ha : a < 6) : mw M a 40 0 (468 + a) = -1 := by
  unfold mw
  rw [u1_k (by decide)]
  unfold mz2
  rw [if_neg (by omega), u1_self]
theorem xe_at {i : Nat} {X : SM} (k' i' j' : Nat) : fn_X9_empty i X k' i' j' = if i' = i ∧ ((k' = 1 ∧ j' = 4) ∨ (k' = 33 ∧ j' < 24) ∨ (k' = 9 ∧ 8 ≤ j' ∧ j' ≤ 10)) then 0 else X k' i' j' := by
  unfold fn_X9_empty fn_X9_rewind
  simp only [g_let_eq, u1_at, uf_at]
  by_cases q : i' = i ∧ ((k' = 1 ∧ j' = 4) ∨ (k' = 33 ∧ j' < 24) ∨ (k' = 9 ∧ 8 ≤ j' ∧ j' ≤ 10))
  · rw [if_pos q]
    repeat' split
    all_goals first | rfl | (exfalso; omega)
  · rw [if_neg q, if_neg (by omega), if_neg (by omega), if_neg (by omega), if_neg (by omega), if_neg (by omega)]
