/-! code, memory, pin -/
theorem x1_has {X : SM} {i n s : Nat} (hn : n ≤ 24) (e : X 1 i 4 = nI n) (hs : s < n) : fn_X1_has i (nI s) X = 1 := by
  unfold fn_X1_has
  rw [e, if_neg (nI_pos (by omega)), if_neg (nI_ge hs (by omega)), if_neg (show ¬ (24 : Int32) ≤ nI s from nI_ge (b := 24) (by omega) (by decide))]
theorem x1_hasnot {X : SM} {i n : Nat} {x : Int32} (e : X 1 i 4 = nI n) (ho : x < 0 ∨ (¬ x < 0 ∧ nI n ≤ x)) : fn_X1_has i x X = 0 := by
  unfold fn_X1_has
  rcases ho with ho | ⟨h0, ho⟩
  · rw [if_pos ho]
  · rw [if_neg h0, e, if_pos ho]
theorem ni0_4 {x : Int32} (h1 : ¬ x < 0) (h2 : x ≤ 4) : x = 0 ∨ x = 1 ∨ x = 2 ∨ x = 3 ∨ x = 4 := by
  obtain ⟨n, hn, rfl⟩ := nI_of2 (M := 4) (n := 4) (by decide) h1 h2
  have : n = 0 ∨ n = 1 ∨ n = 2 ∨ n = 3 ∨ n = 4 := by omega
  rcases this with rfl | rfl | rfl | rfl | rfl
  · exact Or.inl rfl
  · exact Or.inr (Or.inl rfl)
  · exact Or.inr (Or.inr (Or.inl rfl))
  · exact Or.inr (Or.inr (Or.inr (Or.inl rfl)))
  · exact Or.inr (Or.inr (Or.inr (Or.inr rfl)))
theorem x_still {X M : SM} {m t p n : Nat} (h : rR m X M) (ht : t < 6) (hp : p < n) (hn : n ≤ 24) (e : M 43 0 t = nI n) : fn_X9_stillToGoBack (6 * m + t) (nI p) X = some (M 40 0 (144 + 24 * t + p)) := by
  unfold fn_X9_stillToGoBack
  simp only [g_let_eq, x1_has hn ((rR_rM h t ht).trans e) hp, if_neg one0, if_pos (g_inI (show p < 24 by omega) (by decide)), nI_clamp (show p < 2 ^ 31 by omega)]
  rcases rR_rZ h t p ht (by omega) with ⟨z1, z2, z3⟩ | ⟨a, x, q1, q2, q3, q4, z1, z2, z3, z4⟩
  · rw [if_pos z1, z2]
  · rw [z1, if_neg (nI_ne0 q1 (by omega)), z3, (rR_rC h t p ht (by omega)).2.1, z2, ni_sub q2]
theorem c_code {b : Nat} {X M : SM} (x1 x2 x3 : Int32) (h : rJ b X M) : ∃ o r M', fn_X11_code x1 x2 x3 X = some o ∧ fn_X12_code x1 x2 x3 M = some (r, M') ∧ fn_X12_thrown M' = hv o ∧ (∀ v, o = some v → r = v) ∧ rJ b X M' := by
  unfold fn_X11_code fn_X12_code wb_X12_code_26 wb_X12_code_48
  simp only [g_let_eq]
  rcases nI_cases x1 6 (by decide) with ⟨a, ha, rfl⟩ | ho
  · obtain ⟨n, hn, e, -, -⟩ := rR_iC h.1 a ha
    have e1 := (rR_rM h.1 a ha).trans e
    simp only [isThread_in ha, m_isThread_in ha, Option.bind_some, if_neg one0, if_pos (in6 ha), cl6 ha, m_thr0, m_thr1, e, if_true]
    rcases nI_cases x2 n (by omega) with ⟨p, hp, rfl⟩ | ho
    · simp only [x1_has hn e1 hp, m_in (show n < 2 ^ 31 by omega) hp, if_neg one0, if_true]
      by_cases h1 : x3 < 0
      · simp only [if_pos h1, within_no1 h1, if_true]
        exact ⟨_, _, _, rfl, rfl, thr_at, fun v q => (by cases q), rJ_thr h⟩
      · by_cases h2 : x3 ≤ 4
        · obtain ⟨c1, c2, c3, c4⟩ := rR_rC h.1 a p ha (by omega)
          simp only [if_neg h1, if_pos h2, within_yes h1 h2, if_neg one0, ix144, if_pos (in693 (show 144 + 24 * a + p < 693 by omega)), cl693 (show 144 + 24 * a + p < 693 by omega), if_pos (g_inI (show p < 24 by omega) (by decide)), nI_clamp (show p < 2 ^ 31 by omega), x_still h.1 ha hp hn e, Option.bind_some]
          rcases ni0_4 h1 h2 with rfl | rfl | rfl | rfl | rfl
          · rw [show fn_X12_part (nI a) (nI p) 0 (u1 M 39 0 15 0) = some (u1 M 39 0 15 0 42 0 (4 * (24 * a + p) + 0)) from m_part (w := 0) ha (by omega) (by omega)]
            exact ⟨_, _, _, rfl, rfl, thr_at, fun v q => by cases q; exact c1.symm, rJ_thr h⟩
          · rw [show fn_X12_part (nI a) (nI p) 1 (u1 M 39 0 15 0) = some (u1 M 39 0 15 0 42 0 (4 * (24 * a + p) + 1)) from m_part (w := 1) ha (by omega) (by omega)]
            exact ⟨_, _, _, rfl, rfl, thr_at, fun v q => by cases q; exact c2.symm, rJ_thr h⟩
          · rw [show fn_X12_part (nI a) (nI p) 2 (u1 M 39 0 15 0) = some (u1 M 39 0 15 0 42 0 (4 * (24 * a + p) + 2)) from m_part (w := 2) ha (by omega) (by omega)]
            exact ⟨_, _, _, rfl, rfl, thr_at, fun v q => by cases q; exact c3.symm, rJ_thr h⟩
          · rw [show fn_X12_part (nI a) (nI p) 3 (u1 M 39 0 15 0) = some (u1 M 39 0 15 0 42 0 (4 * (24 * a + p) + 3)) from m_part (w := 3) ha (by omega) (by omega)]
            exact ⟨_, _, _, rfl, rfl, thr_at, fun v q => by cases q; exact c4.symm, rJ_thr h⟩
          · exact ⟨_, _, _, rfl, rfl, thr_at, fun v q => by cases q; rfl, rJ_thr h⟩
        · simp only [if_neg h1, if_neg h2, within_no2 h1 h2, if_true]
          exact ⟨_, _, _, rfl, rfl, thr_at, fun v q => (by cases q), rJ_thr h⟩
    · simp only [x1_hasnot e1 ho, m_cellout (show n < 2 ^ 31 by omega) ho, if_true]
      exact ⟨_, _, _, rfl, rfl, thr_at, fun v q => (by cases q), rJ_thr h⟩
  · simp only [isThread_out ho, m_isThread_out ho, Option.bind_some, m_thr0, if_true, if_neg one0]
    exact ⟨_, _, _, rfl, rfl, thr_at, fun v q => (by cases q), rJ_thr h⟩
/-- M with the words lo ≤ j < hi of its state set to 0 -/
def mz (M : SM) (lo hi : Nat) : SM := fun k i j => if k = 40 ∧ i = 0 ∧ lo ≤ j ∧ j < hi then 0 else M k i j
theorem mz_in {M : SM} {lo hi j : Nat} (h : lo ≤ j ∧ j < hi) : mz M lo hi 40 0 j = 0 := if_pos ⟨rfl, rfl, h⟩
theorem mz_out {M : SM} {lo hi j : Nat} (h : ¬ (lo ≤ j ∧ j < hi)) : mz M lo hi 40 0 j = M 40 0 j := if_neg (fun q => h q.2.2)
theorem mz_k {M : SM} {lo hi k i j : Nat} (h : k ≠ 40) : mz M lo hi k i j = M k i j := if_neg (fun q => h q.1)
theorem mz_0 {M : SM} {lo : Nat} : mz M lo lo = M := by
  funext k i j
  exact if_neg (by omega)
theorem mz_s {M : SM} {lo hi : Nat} (h : lo < hi) : mz (u1 M 40 0 lo 0) (lo + 1) hi = mz M lo hi := by
  funext k i j
  unfold mz
  rw [u1_at]
  by_cases q : k = 40 ∧ i = 0 ∧ lo ≤ j ∧ j < hi
  · rw [if_pos q]
    by_cases e : j = lo
    · rw [if_neg (by omega), if_pos ⟨q.1, q.2.1, e⟩]
    · rw [if_pos (by omega)]
  · rw [if_neg q, if_neg (by omega), if_neg (by omega)]
theorem mem_loop {a : Nat} {x3 : Int32} (ha : a < 6) : ∀ (d k : Nat) (M : SM) (f : Nat), k + d = 16 → d < f → wl_X12_memory_46 f (nI a) x3 (nI k) M = some (x3, mz M (48 + 16 * a + k) (48 + 16 * a + 16)) := by
  intro d
  induction d with
  | zero =>
    intro k M f h1 h2
    obtain ⟨f, rfl⟩ : ∃ q, f = q + 1 := ⟨f - 1, by omega⟩
    have : k = 16 := by omega
    subst this
    rw [wl_X12_memory_46_s, mz_0]
    rfl
  | succ d ih =>
    intro k M f h1 h2
    obtain ⟨f, rfl⟩ : ∃ q, f = q + 1 := ⟨f - 1, by omega⟩
    rw [wl_X12_memory_46_s]
    unfold wb_X12_memory_46
    simp only [if_neg (show ¬ (16 : Int32) ≤ nI k from nI_ge (b := 16) (by omega) (by decide)), ix48, if_pos (in693 (show 48 + 16 * a + k < 693 by omega)), cl693 (show 48 + 16 * a + k < 693 by omega), g_let_eq, nI_1]
    rw [ih (k + 1) _ f (by omega) (by omega), show 48 + 16 * a + (k + 1) = 48 + 16 * a + k + 1 by omega, mz_s (by omega)]
theorem p_cells {m : Nat} {X M : SM} {a : Nat} {v : Int32} (ha : a < 6) (hv : v = -1 ∨ ∃ n, n ≤ 16 ∧ v = nI n) (h : rR m X M) : rR m (u1 X 9 (6 * m + a) (6) (v)) (u1 M 44 0 (a) (v)) := by
  refine ⟨rR_rA (X := X) (M := M) h, rR_rB (X := X) (M := M) h, rW_c (X := X) (M := M) (fun t r ht hr => u1_ne (by omega)) (fun j h1 h2 => rfl) (rR_rW h), rL_c (X := X) (M := M) (fun t ht => u1_ne (by omega)) (fun j h1 h2 => rfl) (rR_rL h), rR_rP (X := X) (M := M) h, rR_rK (X := X) (M := M) h, rR_rN (X := X) (M := M) h, rR_rC (X := X) (M := M) h, rR_rM (X := X) (M := M) h, fun t ht => u_pair (rR_rO h t ht) (by omega), rH_c (X := X) (M := M) (fun t ht => u1_ne (by omega)) (fun t ht => rfl) (rR_rH h), rU_c (X := X) (M := M) (fun t ht => u1_ne (by omega)) (rR_rU h), rR_rQ (X := X) (M := M) h, rR_rS (X := X) (M := M) h, rR_rZ (X := X) (M := M) h, rR_rE (X := X) (M := M) h, rR_iC (X := X) (M := M) h, rR_iT (X := X) (M := M) h, rR_iL (X := X) (M := M) h, fun t ht => ?_, rR_iK (X := X) (M := M) h, rR_iE (X := X) (M := M) h⟩
  by_cases q : t = a
  · rw [u1_eq ⟨rfl, rfl, q⟩]; exact hv
  · rw [u1_ne (by omega)]; exact rR_iO h t ht
theorem p_fill {m a : Nat} {X M : SM} (ha : a < 6) (h : rR m X M) : rR m (uf X 32 (6 * m + a) 16 0) (mz M (48 + 16 * a) (48 + 16 * a + 16)) := by
  have hX : ∀ k i j, k ≠ 32 → uf X 32 (6 * m + a) 16 0 k i j = X k i j := fun k i j q => by rw [uf_at, if_neg (fun w => q w.1)]
  have hM : ∀ j, j < 48 ∨ 144 ≤ j → mz M (48 + 16 * a) (48 + 16 * a + 16) 40 0 j = M 40 0 j := fun j q => mz_out (by omega)
  have hK : ∀ k j, k ≠ 40 → mz M (48 + 16 * a) (48 + 16 * a + 16) k 0 j = M k 0 j := fun k j q => mz_k q
  refine ⟨rA_c (X := X) (M := M) (fun t r ht hr => hX _ _ _ (by decide)) (fun j hj => hM j (by omega)) (rR_rA h), ?_, rW_c (X := X) (M := M) (fun t r ht hr => hX _ _ _ (by decide)) (fun j h1 h2 => hM j (by omega)) (rR_rW h), rL_c (X := X) (M := M) (fun t ht => hX _ _ _ (by decide)) (fun j h1 h2 => hM j (by omega)) (rR_rL h), rP_c (X := X) (M := M) (fun t ht => hX _ _ _ (by decide)) (fun j h1 h2 => hM j (by omega)) (rR_rP h), rK_c (X := X) (M := M) (fun t ht => hX _ _ _ (by decide)) (fun j h1 => hK _ _ (by decide)) (rR_rK h), rN_c (X := X) (M := M) (fun j hj => hX _ _ _ (by decide)) (fun j h1 h2 => hM j (by omega)) (rR_rN h), rC_c (X := X) (M := M) (fun k t p h1 h2 ht hp => hX _ _ _ (by omega)) (fun j => hK _ _ (by decide)) (rR_rC h), rM_c (X := X) (M := M) (fun t ht => hX _ _ _ (by decide)) (fun t ht => hK _ _ (by decide)) (rR_rM h), rO_c (X := X) (M := M) (fun t ht => hX _ _ _ (by decide)) (fun t ht => hK _ _ (by decide)) (rR_rO h), rH_c (X := X) (M := M) (fun t ht => hX _ _ _ (by decide)) (fun t ht => hK _ _ (by decide)) (rR_rH h), rU_c (X := X) (M := M) (fun t ht => hX _ _ _ (by decide)) (rR_rU h), rQ_c (X := X) (M := M) (fun c k hc hk => hX _ _ _ (by decide)) (fun c hc => hX _ _ _ (by decide)) (fun j h1 h2 => hM j (by omega)) (fun t ht hq => hM _ (by omega)) (rR_rQ h), rS_c (X := X) (M := M) (fun j hj => hX _ _ _ (by decide)) (fun j h1 h2 => hM j (by omega)) (fun j h1 h2 => hM j (by omega)) (rR_rS h), rZ_c (X := X) (M := M) (fun t p ht hp => hX _ _ _ (by decide)) (fun j h1 h2 => hM j (by omega)) (fun j => hK _ _ (by decide)) (fun t ht => hK _ _ (by decide)) (rR_rZ h), rE_c (X := X) (M := M) (fun t j ht hj => hX _ _ _ (by decide)) (fun t ht => ⟨hM _ (by omega), hM _ (by omega), hM _ (by omega), hM _ (by omega)⟩) (fun j => hK _ _ (by decide)) (fun t ht => hK _ _ (by decide)) (rR_rE h), iC_c (M := M) (fun t ht => hM _ (by omega)) (fun j => hK _ _ (by decide)) (fun t ht => hK _ _ (by decide)) (rR_iC h), iT_c (M := M) (fun t ht => hM _ (by omega)) (rR_iT h), iL_c (M := M) (hM _ (by omega)) (rR_iL h), iO_c (M := M) (fun t ht => hK _ _ (by decide)) (rR_iO h), iK_c (M := M) (fun t ht => hK _ _ (by decide)) (rR_iK h), iE_c (M := M) (hM _ (by omega)) (rR_iE h)⟩
  intro t c ht hc
  rw [uf_at]
  by_cases q : t = a
  · subst q
    rw [if_pos ⟨rfl, rfl, hc⟩, mz_in (by omega)]
  · rw [if_neg (by omega), mz_out (by omega)]
    exact rR_rB h t c ht hc
theorem c_memory {b : Nat} {X M : SM} (x1 x2 : Int32) (h : rJ b X M) : ∃ r X' M', fn_X11_memory x1 x2 X = some (r, X') ∧ fn_X12_memory x1 x2 M = some (r, M') ∧ rJ b X' M' := by
  unfold fn_X11_memory fn_X12_memory
  simp only [g_let_eq]
  rcases nI_cases x1 6 (by decide) with ⟨a, ha, rfl⟩ | ho
  · have fin : ∀ v, (v = -1 ∨ ∃ n, n ≤ 16 ∧ v = nI n) → rJ b (uf (u1 X 9 (6 * 0 + a) 6 v) 32 (6 * 0 + a) 16 0) (mz (u1 (u1 M 39 0 15 0) 44 0 a v) (48 + 16 * a) (48 + 16 * a + 16)) := by
      intro v hv
      refine ⟨p_fill ha (p_cells ha hv (rR_39 h.1)), h.2.1, h.2.2.1, h.2.2.2.1, gE_c (X := X) (M := M) (fun _ => rfl) (fun _ => rfl) (fun j _ _ => mz_out (by omega)) h.2.2.2.2.1, gW_c (X := X) (fun _ => rfl) (fun t ht => ?_) h.2.2.2.2.2.1, ?_⟩
      · show u1 X 9 (6 * 0 + a) 6 v 9 (6 * 1 + t) 0 = _
        exact u1_ne (by omega)
      · obtain ⟨n, hn, e⟩ := h.2.2.2.2.2.2
        exact ⟨n, hn, (mz_out (by omega)).trans e⟩
    have l : ∀ (N : SM) (y : Int32), wl_X12_memory_46 1000 (nI a) y 0 N = some (y, mz N (48 + 16 * a) (48 + 16 * a + 16)) := fun N y => mem_loop ha 16 0 N 1000 (by omega) (by omega)
    simp only [isThread_in ha, m_isThread_in ha, Option.bind_some, if_neg one0, if_pos (in6 ha), cl6 ha, l]
    by_cases h2 : x2 ≤ 16
    · rw [if_pos h2, if_pos h2]
      have eo : u1 M 39 0 15 0 44 0 a = X 9 (6 * 0 + a) 6 := (rR_rO h.1 a ha).symm
      rw [eo]
      by_cases h0 : 0 ≤ x2
      · rw [if_pos h0, if_pos h0]
        obtain ⟨n, hn, e⟩ := nI_of2 (M := 16) (n := 16) (by decide) (Int32.not_lt.mpr h0) h2
        exact ⟨_, _, _, rfl, rfl, fin x2 (Or.inr ⟨n, hn, e⟩)⟩
      · rw [if_neg h0, if_neg h0]
        exact ⟨_, _, _, rfl, rfl, fin (-1) (Or.inl rfl)⟩
    · rw [if_neg h2, if_neg h2]
      exact ⟨_, _, _, rfl, rfl, rJ_thr h⟩
  · rw [isThread_out ho, m_isThread_out ho]
    exact ⟨_, _, _, rfl, rfl, rJ_thr h⟩
