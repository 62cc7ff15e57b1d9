/-! pin, tell -/
theorem p_kind {m : Nat} {X M : SM} {a : Nat} {v : Int32} (ha : a < 8) (hv : v = 0 ∨ v = 1) (h : rR m X M) : rR m (u1 X 29 (m) (a) (v)) (u1 M 46 0 (a) (v)) := by
  refine ⟨rR_rA (X := X) (M := M) h, rR_rB (X := X) (M := M) h, rR_rW (X := X) (M := M) h, rR_rL (X := X) (M := M) h, rR_rP (X := X) (M := M) h, fun t ht => u_pair (rR_rK h t ht) (by omega), rR_rN (X := X) (M := M) h, rR_rC (X := X) (M := M) h, rR_rM (X := X) (M := M) h, rR_rO (X := X) (M := M) h, rR_rH (X := X) (M := M) h, rR_rU (X := X) (M := M) h, rR_rQ (X := X) (M := M) h, rR_rS (X := X) (M := M) h, rR_rZ (X := X) (M := M) h, rR_rE (X := X) (M := M) h, rR_iC (X := X) (M := M) h, rR_iT (X := X) (M := M) h, rR_iL (X := X) (M := M) h, rR_iO (X := X) (M := M) h, fun t ht => ?_, rR_iE (X := X) (M := M) h⟩
  by_cases q : t = a
  · rw [u1_eq ⟨rfl, rfl, q⟩]; exact hv.elim Or.inl (fun q => Or.inr (Or.inl q))
  · rw [u1_ne (by omega)]; exact rR_iK h t ht
theorem pin_loop {m a B : Nat} {v : Int32} (ha : a < 8) (hv : v = 0 ∨ v = 1) (hB : B ≤ 4) (eB : nI a / 4 * 4 = nI B) {X M : SM} (h : rR m X M) : ∀ (d k f f' : Nat), k + d = B + 4 → d < f → d < f' → (wl_X8_name_33 f m (nI a) v (nI B) (nI k) X = some (0, X) ∧ wl_X12_pin_44 f' (nI a) v (nI k) M = some (0, M)) ∨ (wl_X8_name_33 f m (nI a) v (nI B) (nI k) X = some (1, u1 X 29 m a v) ∧ wl_X12_pin_44 f' (nI a) v (nI k) M = some (1, u1 M 46 0 a v)) := by
  intro d
  induction d with
  | zero =>
    intro k f f' h1 h2 h3
    obtain ⟨f, rfl⟩ : ∃ q, f = q + 1 := ⟨f - 1, by omega⟩
    obtain ⟨f', rfl⟩ : ∃ q, f' = q + 1 := ⟨f' - 1, by omega⟩
    have : k = B + 4 := by omega
    subst this
    refine Or.inr ⟨?_, ?_⟩
    · rw [wl_X8_name_33_s]
      unfold wb_X8_name_33
      simp only [show nI B + 4 = nI (B + 4) from nI_add B 4, if_pos (nI_le (Nat.le_refl (B + 4)) (by omega)), if_pos (g_inI (show a < 8 by omega) (by decide)), nI_clamp (show a < 2 ^ 31 by omega), g_let_eq]
    · rw [wl_X12_pin_44_s]
      unfold wb_X12_pin_44
      simp only [eB, show nI B + 4 = nI (B + 4) from nI_add B 4, if_pos (nI_le (Nat.le_refl (B + 4)) (by omega)), if_pos (g_inI (show a < 8 by omega) (by decide)), nI_clamp (show a < 2 ^ 31 by omega), g_let_eq]
  | succ d ih =>
    intro k f f' h1 h2 h3
    obtain ⟨f, rfl⟩ : ∃ q, f = q + 1 := ⟨f - 1, by omega⟩
    obtain ⟨f', rfl⟩ : ∃ q, f' = q + 1 := ⟨f' - 1, by omega⟩
    rw [wl_X8_name_33_s, wl_X12_pin_44_s]
    unfold wb_X8_name_33 wb_X12_pin_44
    simp only [eB, show nI B + 4 = nI (B + 4) from nI_add B 4, if_neg (nI_ge (show k < B + 4 by omega) (show B + 4 < 2 ^ 31 by omega)), if_pos (g_inI (show k < 8 by omega) (by decide)), nI_clamp (show k < 2 ^ 31 by omega), g_let_eq, nI_1, rR_rK h k (by omega)]
    have ih' := ih (k + 1) f f' (by omega) (by omega) (by omega)
    rcases rR_iK h k (by omega) with e | e | e
    · rw [e]
      rcases hv with rfl | rfl
      · exact ih'
      · exact Or.inl ⟨rfl, rfl⟩
    · rw [e]
      rcases hv with rfl | rfl
      · exact Or.inl ⟨rfl, rfl⟩
      · exact ih'
    · rw [e]
      rcases hv with rfl | rfl
      · exact ih'
      · exact ih'
theorem c_pin {b : Nat} {X M : SM} (x1 v : Int32) (hv : v = 0 ∨ v = 1) (h : rJ b X M) : ∃ r X' M', fn_X11_pin x1 v X = some (r, X') ∧ fn_X12_pin x1 v M = some (r, M') ∧ rJ b X' M' := by
  have key : ∃ r X' M', (r = 0 ∨ r = 1) ∧ fn_X8_name 0 x1 v X = some (r, X') ∧ fn_X12_pin x1 v M = some (r, M') ∧ rJ b X' M' := by
    unfold fn_X8_name fn_X12_pin
    simp only [g_let_eq]
    rcases nI_cases x1 8 (by decide) with ⟨a, ha, rfl⟩ | ho
    · simp only [isPin_in ha, show fn_X12_within (nI a) 0 7 = 1 from within_in (lo := 0) (hi := 7) (by omega) (by omega) (by decide), if_neg one0, if_pos (g_inI (show a < 8 by omega) (by decide)), nI_clamp (show a < 2 ^ 31 by omega)]
      by_cases e : X 29 0 a = 2
      · rw [if_pos e, if_pos (show u1 M 39 0 15 0 46 0 a = 2 from (rR_rK h.1 a ha).symm.trans e)]
        have fin : rJ b (u1 X 29 0 a v) (u1 (u1 M 39 0 15 0) 46 0 a v) := ⟨p_kind ha hv (rR_39 h.1), h.2⟩
        have go : ∀ B, B ≤ 4 → nI a / 4 * 4 = nI B → ∃ r X' M', (r = 0 ∨ r = 1) ∧ wl_X8_name_33 1000 0 (nI a) v (nI B) (nI B) X = some (r, X') ∧ wl_X12_pin_44 1000 (nI a) v (nI a / 4 * 4) (u1 M 39 0 15 0) = some (r, M') ∧ rJ b X' M' := by
          intro B hB eB
          have l := pin_loop ha hv hB eB (rR_39 (j := 15) (v := 0) h.1) 4 B 1000 1000 (by omega) (by omega) (by omega)
          rw [← eB] at l ⊢
          rcases l with ⟨l1, l2⟩ | ⟨l1, l2⟩
          · exact ⟨_, _, _, Or.inl rfl, l1, l2, rJ_thr h⟩
          · exact ⟨_, _, _, Or.inr rfl, l1, l2, fin⟩
        by_cases q : 4 ≤ a
        · rw [if_pos (show (4 : Int32) ≤ nI a from nI_le (a := 4) q (by omega))]
          have eB : nI a / 4 * 4 = nI 4 := by
            have : a = 4 ∨ a = 5 ∨ a = 6 ∨ a = 7 := by omega
            rcases this with rfl | rfl | rfl | rfl <;> decide +kernel
          obtain ⟨r, X', M', g1, g2, g3, g4⟩ := go 4 (by omega) eB
          refine ⟨r, X', M', g1, g2, ?_, g4⟩
          rcases hv with rfl | rfl
          · exact g3
          · exact g3
        · rw [if_neg (show ¬ (4 : Int32) ≤ nI a from nI_ge (b := 4) (by omega) (by decide))]
          have eB : nI a / 4 * 4 = nI 0 := by
            have : a = 0 ∨ a = 1 ∨ a = 2 ∨ a = 3 := by omega
            rcases this with rfl | rfl | rfl | rfl <;> decide +kernel
          obtain ⟨r, X', M', g1, g2, g3, g4⟩ := go 0 (by omega) eB
          refine ⟨r, X', M', g1, g2, ?_, g4⟩
          rcases hv with rfl | rfl
          · exact g3
          · exact g3
      · rw [if_neg e, if_neg (show ¬ u1 M 39 0 15 0 46 0 a = 2 from fun q => e ((rR_rK h.1 a ha).trans q))]
        exact ⟨_, _, _, Or.inl rfl, rfl, rfl, rJ_thr h⟩
    · rw [isPin_out ho, show fn_X12_within x1 0 7 = 0 from within_out (n := 7) (by decide) ho]
      exact ⟨_, _, _, Or.inl rfl, rfl, rfl, rJ_thr h⟩
  obtain ⟨r, X', M', g1, g2, g3, g4⟩ := key
  refine ⟨r, X', M', ?_, g3, g4⟩
  unfold fn_X11_pin
  rcases hv with rfl | rfl
  · simp only [if_true, g2, Option.bind_some, if_pos g1]
  · simp only [if_neg one0, g2, Option.bind_some, if_pos g1]
theorem w01 (x lo hi : Int32) : fn_X12_within x lo hi = 0 ∨ fn_X12_within x lo hi = 1 := by
  unfold fn_X12_within
  repeat' split
  all_goals first | exact Or.inl rfl | exact Or.inr rfl
theorem suits_at {i k : Nat} {x y z : Int32} {X : SM} (hk : k < 21) : fn_X1_suits i (nI k) x y z X = if fn_X1_upTo x (g_tab (3 * k)) = 0 then some 0 else if fn_X1_upTo y (g_tab (3 * k + 1)) = 0 then some 0 else if fn_X1_upTo z (g_tab (3 * k + 2)) = 0 then some 0 else if nI k = 9 then (if X 1 i 4 < y then some 0 else some 1) else some 1 := by
  unfold fn_X1_suits
  simp only [g_let_eq, if_neg (nI_pos (show k < 2 ^ 31 by omega)), if_pos (show nI k < 21 from nI_lt (b := 21) hk (by decide)), show (3 : Int32) * nI k = nI (3 * k) from ni_mul 3 k, nI_1, show nI (3 * k) + 2 = nI (3 * k + 2) from nI_add _ 2, if_pos (g_inI (show 3 * k < 63 by omega) (by decide)), if_pos (g_inI (show 3 * k + 1 < 63 by omega) (by decide)), if_pos (g_inI (show 3 * k + 2 < 63 by omega) (by decide)), nI_clamp (show 3 * k < 2 ^ 31 by omega), nI_clamp (show 3 * k + 1 < 2 ^ 31 by omega), nI_clamp (show 3 * k + 2 < 2 ^ 31 by omega)]
theorem tell_0 {i : Nat} {x y z n : Int32} {X : SM} : fn_X1_suits i (nI 0) x y z X = fn_X12_canTell (nI 0) x y z n := by
  rw [suits_at (k := 0) (by omega), show fn_X1_upTo x (g_tab (3 * 0)) = fn_X12_within x 0 7 from rfl, show fn_X1_upTo y (g_tab (3 * 0 + 1)) = 1 from rfl, show fn_X1_upTo z (g_tab (3 * 0 + 2)) = 1 from rfl]
  unfold fn_X12_canTell
  simp only [g_let_eq]
  rcases w01 x 0 7 with hx | hx
  all_goals (rw [hx]; rfl)
theorem tell_1 {i : Nat} {x y z n : Int32} {X : SM} : fn_X1_suits i (nI 1) x y z X = fn_X12_canTell (nI 1) x y z n := by
  rw [suits_at (k := 1) (by omega), show fn_X1_upTo x (g_tab (3 * 1)) = fn_X12_within x 0 7 from rfl, show fn_X1_upTo y (g_tab (3 * 1 + 1)) = fn_X12_within y 0 7 from rfl, show fn_X1_upTo z (g_tab (3 * 1 + 2)) = fn_X12_within z 0 7 from rfl]
  unfold fn_X12_canTell
  simp only [g_let_eq]
  rcases w01 x 0 7 with hx | hx <;> rcases w01 y 0 7 with hy | hy <;> rcases w01 z 0 7 with hz | hz
  all_goals (rw [hx, hy, hz]; rfl)
theorem tell_2 {i : Nat} {x y z n : Int32} {X : SM} : fn_X1_suits i (nI 2) x y z X = fn_X12_canTell (nI 2) x y z n := by
  rw [suits_at (k := 2) (by omega), show fn_X1_upTo x (g_tab (3 * 2)) = fn_X12_within x 0 7 from rfl, show fn_X1_upTo y (g_tab (3 * 2 + 1)) = fn_X12_within y 0 7 from rfl, show fn_X1_upTo z (g_tab (3 * 2 + 2)) = fn_X12_within z 0 7 from rfl]
  unfold fn_X12_canTell
  simp only [g_let_eq]
  rcases w01 x 0 7 with hx | hx <;> rcases w01 y 0 7 with hy | hy <;> rcases w01 z 0 7 with hz | hz
  all_goals (rw [hx, hy, hz]; rfl)
theorem tell_3 {i : Nat} {x y z n : Int32} {X : SM} : fn_X1_suits i (nI 3) x y z X = fn_X12_canTell (nI 3) x y z n := by
  rw [suits_at (k := 3) (by omega), show fn_X1_upTo x (g_tab (3 * 3)) = fn_X12_within x 0 7 from rfl, show fn_X1_upTo y (g_tab (3 * 3 + 1)) = fn_X12_within y 0 7 from rfl, show fn_X1_upTo z (g_tab (3 * 3 + 2)) = fn_X12_within z 0 7 from rfl]
  unfold fn_X12_canTell
  simp only [g_let_eq]
  rcases w01 x 0 7 with hx | hx <;> rcases w01 y 0 7 with hy | hy <;> rcases w01 z 0 7 with hz | hz
  all_goals (rw [hx, hy, hz]; rfl)
theorem tell_4 {i : Nat} {x y z n : Int32} {X : SM} : fn_X1_suits i (nI 4) x y z X = fn_X12_canTell (nI 4) x y z n := by
  rw [suits_at (k := 4) (by omega), show fn_X1_upTo x (g_tab (3 * 4)) = fn_X12_within x 0 7 from rfl, show fn_X1_upTo y (g_tab (3 * 4 + 1)) = fn_X12_within y 0 7 from rfl, show fn_X1_upTo z (g_tab (3 * 4 + 2)) = fn_X12_within z 0 7 from rfl]
  unfold fn_X12_canTell
  simp only [g_let_eq]
  rcases w01 x 0 7 with hx | hx <;> rcases w01 y 0 7 with hy | hy <;> rcases w01 z 0 7 with hz | hz
  all_goals (rw [hx, hy, hz]; rfl)
theorem tell_5 {i : Nat} {x y z n : Int32} {X : SM} : fn_X1_suits i (nI 5) x y z X = fn_X12_canTell (nI 5) x y z n := by
  rw [suits_at (k := 5) (by omega), show fn_X1_upTo x (g_tab (3 * 5)) = fn_X12_within x 0 7 from rfl, show fn_X1_upTo y (g_tab (3 * 5 + 1)) = fn_X12_within y 0 7 from rfl, show fn_X1_upTo z (g_tab (3 * 5 + 2)) = 1 from rfl]
  unfold fn_X12_canTell
  simp only [g_let_eq]
  rcases w01 x 0 7 with hx | hx <;> rcases w01 y 0 7 with hy | hy
  all_goals (rw [hx, hy]; rfl)
theorem tell_6 {i : Nat} {x y z n : Int32} {X : SM} : fn_X1_suits i (nI 6) x y z X = fn_X12_canTell (nI 6) x y z n := by
  rw [suits_at (k := 6) (by omega), show fn_X1_upTo x (g_tab (3 * 6)) = fn_X12_within x 0 7 from rfl, show fn_X1_upTo y (g_tab (3 * 6 + 1)) = fn_X12_within y 0 7 from rfl, show fn_X1_upTo z (g_tab (3 * 6 + 2)) = 1 from rfl]
  unfold fn_X12_canTell
  simp only [g_let_eq]
  rcases w01 x 0 7 with hx | hx <;> rcases w01 y 0 7 with hy | hy
  all_goals (rw [hx, hy]; rfl)
theorem tell_7 {i : Nat} {x y z n : Int32} {X : SM} : fn_X1_suits i (nI 7) x y z X = fn_X12_canTell (nI 7) x y z n := by
  rw [suits_at (k := 7) (by omega), show fn_X1_upTo x (g_tab (3 * 7)) = 1 from rfl, show fn_X1_upTo y (g_tab (3 * 7 + 1)) = fn_X12_within y 0 23 from rfl, show fn_X1_upTo z (g_tab (3 * 7 + 2)) = 1 from rfl]
  unfold fn_X12_canTell
  simp only [g_let_eq]
  rcases w01 y 0 23 with hy | hy
  all_goals (rw [hy]; rfl)
theorem tell_8 {i : Nat} {x y z n : Int32} {X : SM} : fn_X1_suits i (nI 8) x y z X = fn_X12_canTell (nI 8) x y z n := by
  rw [suits_at (k := 8) (by omega), show fn_X1_upTo x (g_tab (3 * 8)) = fn_X12_within x 0 7 from rfl, show fn_X1_upTo y (g_tab (3 * 8 + 1)) = fn_X12_within y 0 23 from rfl, show fn_X1_upTo z (g_tab (3 * 8 + 2)) = 1 from rfl]
  unfold fn_X12_canTell
  simp only [g_let_eq]
  rcases w01 x 0 7 with hx | hx <;> rcases w01 y 0 23 with hy | hy
  all_goals (rw [hx, hy]; rfl)
theorem tell_10 {i : Nat} {x y z n : Int32} {X : SM} : fn_X1_suits i (nI 10) x y z X = fn_X12_canTell (nI 10) x y z n := by
  rw [suits_at (k := 10) (by omega), show fn_X1_upTo x (g_tab (3 * 10)) = fn_X12_within x 0 7 from rfl, show fn_X1_upTo y (g_tab (3 * 10 + 1)) = fn_X12_within y 0 7 from rfl, show fn_X1_upTo z (g_tab (3 * 10 + 2)) = 1 from rfl]
  unfold fn_X12_canTell
  simp only [g_let_eq]
  rcases w01 x 0 7 with hx | hx <;> rcases w01 y 0 7 with hy | hy
  all_goals (rw [hx, hy]; rfl)
theorem tell_11 {i : Nat} {x y z n : Int32} {X : SM} : fn_X1_suits i (nI 11) x y z X = fn_X12_canTell (nI 11) x y z n := by
  rw [suits_at (k := 11) (by omega), show fn_X1_upTo x (g_tab (3 * 11)) = fn_X12_within x 0 7 from rfl, show fn_X1_upTo y (g_tab (3 * 11 + 1)) = fn_X12_within y 0 7 from rfl, show fn_X1_upTo z (g_tab (3 * 11 + 2)) = fn_X12_within z 0 7 from rfl]
  unfold fn_X12_canTell
  simp only [g_let_eq]
  rcases w01 x 0 7 with hx | hx <;> rcases w01 y 0 7 with hy | hy <;> rcases w01 z 0 7 with hz | hz
  all_goals (rw [hx, hy, hz]; rfl)
theorem tell_12 {i : Nat} {x y z n : Int32} {X : SM} : fn_X1_suits i (nI 12) x y z X = fn_X12_canTell (nI 12) x y z n := by
  rw [suits_at (k := 12) (by omega), show fn_X1_upTo x (g_tab (3 * 12)) = fn_X12_within x 0 7 from rfl, show fn_X1_upTo y (g_tab (3 * 12 + 1)) = fn_X12_within y 0 7 from rfl, show fn_X1_upTo z (g_tab (3 * 12 + 2)) = 1 from rfl]
  unfold fn_X12_canTell
  simp only [g_let_eq]
  rcases w01 x 0 7 with hx | hx <;> rcases w01 y 0 7 with hy | hy
  all_goals (rw [hx, hy]; rfl)
theorem tell_13 {i : Nat} {x y z n : Int32} {X : SM} : fn_X1_suits i (nI 13) x y z X = fn_X12_canTell (nI 13) x y z n := by
  rw [suits_at (k := 13) (by omega), show fn_X1_upTo x (g_tab (3 * 13)) = fn_X12_within x 0 7 from rfl, show fn_X1_upTo y (g_tab (3 * 13 + 1)) = fn_X12_within y 0 7 from rfl, show fn_X1_upTo z (g_tab (3 * 13 + 2)) = fn_X12_within z 0 7 from rfl]
  unfold fn_X12_canTell
  simp only [g_let_eq]
  rcases w01 x 0 7 with hx | hx <;> rcases w01 y 0 7 with hy | hy <;> rcases w01 z 0 7 with hz | hz
  all_goals (rw [hx, hy, hz]; rfl)
theorem tell_14 {i : Nat} {x y z n : Int32} {X : SM} : fn_X1_suits i (nI 14) x y z X = fn_X12_canTell (nI 14) x y z n := by
  rw [suits_at (k := 14) (by omega), show fn_X1_upTo x (g_tab (3 * 14)) = fn_X12_within x 0 7 from rfl, show fn_X1_upTo y (g_tab (3 * 14 + 1)) = 1 from rfl, show fn_X1_upTo z (g_tab (3 * 14 + 2)) = 1 from rfl]
  unfold fn_X12_canTell
  simp only [g_let_eq]
  rcases w01 x 0 7 with hx | hx
  all_goals (rw [hx]; rfl)
theorem tell_15 {i : Nat} {x y z n : Int32} {X : SM} : fn_X1_suits i (nI 15) x y z X = fn_X12_canTell (nI 15) x y z n := by
  rw [suits_at (k := 15) (by omega), show fn_X1_upTo x (g_tab (3 * 15)) = fn_X12_within x 0 7 from rfl, show fn_X1_upTo y (g_tab (3 * 15 + 1)) = 1 from rfl, show fn_X1_upTo z (g_tab (3 * 15 + 2)) = 1 from rfl]
  unfold fn_X12_canTell
  simp only [g_let_eq]
  rcases w01 x 0 7 with hx | hx
  all_goals (rw [hx]; rfl)
theorem tell_16 {i : Nat} {x y z n : Int32} {X : SM} : fn_X1_suits i (nI 16) x y z X = fn_X12_canTell (nI 16) x y z n := by
  rw [suits_at (k := 16) (by omega), show fn_X1_upTo x (g_tab (3 * 16)) = fn_X12_within x 0 3 from rfl, show fn_X1_upTo y (g_tab (3 * 16 + 1)) = fn_X12_within y 0 7 from rfl, show fn_X1_upTo z (g_tab (3 * 16 + 2)) = 1 from rfl]
  unfold fn_X12_canTell
  simp only [g_let_eq]
  rcases w01 x 0 3 with hx | hx <;> rcases w01 y 0 7 with hy | hy
  all_goals (rw [hx, hy]; rfl)
theorem tell_17 {i : Nat} {x y z n : Int32} {X : SM} : fn_X1_suits i (nI 17) x y z X = fn_X12_canTell (nI 17) x y z n := by
  rw [suits_at (k := 17) (by omega), show fn_X1_upTo x (g_tab (3 * 17)) = fn_X12_within x 0 3 from rfl, show fn_X1_upTo y (g_tab (3 * 17 + 1)) = fn_X12_within y 0 7 from rfl, show fn_X1_upTo z (g_tab (3 * 17 + 2)) = 1 from rfl]
  unfold fn_X12_canTell
  simp only [g_let_eq]
  rcases w01 x 0 3 with hx | hx <;> rcases w01 y 0 7 with hy | hy
  all_goals (rw [hx, hy]; rfl)
theorem tell_18 {i : Nat} {x y z n : Int32} {X : SM} : fn_X1_suits i (nI 18) x y z X = fn_X12_canTell (nI 18) x y z n := by
  rw [suits_at (k := 18) (by omega), show fn_X1_upTo x (g_tab (3 * 18)) = 1 from rfl, show fn_X1_upTo y (g_tab (3 * 18 + 1)) = 1 from rfl, show fn_X1_upTo z (g_tab (3 * 18 + 2)) = 1 from rfl]
  unfold fn_X12_canTell
  simp only [g_let_eq]
  rfl
theorem tell_19 {i : Nat} {x y z n : Int32} {X : SM} : fn_X1_suits i (nI 19) x y z X = fn_X12_canTell (nI 19) x y z n := by
  rw [suits_at (k := 19) (by omega), show fn_X1_upTo x (g_tab (3 * 19)) = fn_X12_within x 0 7 from rfl, show fn_X1_upTo y (g_tab (3 * 19 + 1)) = fn_X12_within y 0 7 from rfl, show fn_X1_upTo z (g_tab (3 * 19 + 2)) = fn_X12_within z 0 7 from rfl]
  unfold fn_X12_canTell
  simp only [g_let_eq]
  rcases w01 x 0 7 with hx | hx <;> rcases w01 y 0 7 with hy | hy <;> rcases w01 z 0 7 with hz | hz
  all_goals (rw [hx, hy, hz]; rfl)
theorem tell_20 {i : Nat} {x y z n : Int32} {X : SM} : fn_X1_suits i (nI 20) x y z X = fn_X12_canTell (nI 20) x y z n := by
  rw [suits_at (k := 20) (by omega), show fn_X1_upTo x (g_tab (3 * 20)) = fn_X12_within x 0 7 from rfl, show fn_X1_upTo y (g_tab (3 * 20 + 1)) = fn_X12_within y 0 7 from rfl, show fn_X1_upTo z (g_tab (3 * 20 + 2)) = fn_X12_within z 0 7 from rfl]
  unfold fn_X12_canTell
  simp only [g_let_eq]
  rcases w01 x 0 7 with hx | hx <;> rcases w01 y 0 7 with hy | hy <;> rcases w01 z 0 7 with hz | hz
  all_goals (rw [hx, hy, hz]; rfl)
theorem tell_9 {i n : Nat} {x y z : Int32} {X : SM} (hn : n < 24) (e : X 1 i 4 = nI n) : fn_X1_suits i (nI 9) x y z X = fn_X12_canTell (nI 9) x y z (nI n) := by
  rw [suits_at (k := 9) (by omega), show fn_X1_upTo x (g_tab (3 * 9)) = fn_X12_within x 0 7 from rfl, show fn_X1_upTo y (g_tab (3 * 9 + 1)) = fn_X12_within y 0 23 from rfl, show fn_X1_upTo z (g_tab (3 * 9 + 2)) = 1 from rfl, e]
  have r : fn_X12_canTell (nI 9) x y z (nI n) = if fn_X12_within x 0 7 = 0 then some 0 else if fn_X12_within y 0 (nI n) = 0 then some 0 else some 1 := rfl
  rw [r]
  rcases w01 x 0 7 with hx | hx
  · rw [hx]; rfl
  · rw [hx, if_neg one0, if_neg one0, if_neg one0, if_pos (show nI 9 = 9 from rfl)]
    by_cases h0 : y < 0
    · rw [within_no1 h0, within_no1 h0]; rfl
    · by_cases h1 : y ≤ nI n
      · have h2 : y ≤ 23 := Int32.le_trans h1 (nI_le (b := 23) (by omega) (by decide))
        rw [within_yes h0 h1, within_yes h0 h2, if_neg (show ¬ nI n < y from Int32.not_lt.mpr h1)]
      · rw [within_no2 h0 h1, if_pos (show nI n < y from Int32.not_le.mp h1)]
        split <;> rfl
theorem tell_all {i n k : Nat} {x y z : Int32} {X : SM} (hn : n < 24) (e : X 1 i 4 = nI n) (hk : k < 21) : fn_X1_suits i (nI k) x y z X = fn_X12_canTell (nI k) x y z (nI n) := by
  match k, hk with
  | 0, _ => exact tell_0
  | 1, _ => exact tell_1
  | 2, _ => exact tell_2
  | 3, _ => exact tell_3
  | 4, _ => exact tell_4
  | 5, _ => exact tell_5
  | 6, _ => exact tell_6
  | 7, _ => exact tell_7
  | 8, _ => exact tell_8
  | 9, _ => exact tell_9 hn e
  | 10, _ => exact tell_10
  | 11, _ => exact tell_11
  | 12, _ => exact tell_12
  | 13, _ => exact tell_13
  | 14, _ => exact tell_14
  | 15, _ => exact tell_15
  | 16, _ => exact tell_16
  | 17, _ => exact tell_17
  | 18, _ => exact tell_18
  | 19, _ => exact tell_19
  | 20, _ => exact tell_20
  | k + 21, hk => exact absurd hk (by omega)
theorem suits_01 {i k : Nat} {x y z : Int32} {X : SM} (hk : k < 21) : fn_X1_suits i (nI k) x y z X = some 0 ∨ fn_X1_suits i (nI k) x y z X = some 1 := by
  rw [suits_at hk]
  repeat' split
  all_goals first | exact Or.inl rfl | exact Or.inr rfl
