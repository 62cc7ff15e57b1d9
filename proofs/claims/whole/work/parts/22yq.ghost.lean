/-! the ghost becomes a copy of the live machine -/
def cp (X : SM) (i i0 : Nat) (p : Nat → Nat → Bool) : SM := fun k i' j => if i' = i ∧ p k j = true then X k i0 j else X k i' j
def pT (k j : Nat) : Bool := ((((((((((((((((((((((k == 16 && decide (j < 24)) || (k == 17 && decide (j < 24))) || (k == 18 && decide (j < 24))) || (k == 19 && decide (j < 24))) || (k == 1 && j == 4)) || (k == 4 && j == 0)) || (k == 4 && j == 1)) || (k == 4 && j == 2)) || (k == 4 && j == 3)) || (k == 4 && j == 4)) || (k == 31 && decide (j < 8))) || (k == 32 && decide (j < 16))) || (k == 33 && decide (j < 24))) || (k == 9 && j == 6)) || (k == 9 && j == 7)) || (k == 9 && j == 8)) || (k == 9 && j == 9)) || (k == 9 && j == 10)) || (k == 9 && j == 11)) || (k == 9 && j == 12)) || (k == 9 && j == 13)) || (k == 9 && j == 14))
theorem cp_src {X : SM} {i i0 k j : Nat} {p : Nat → Nat → Bool} (hi : i0 ≠ i) : cp X i i0 p k i0 j = X k i0 j := if_neg (fun q => hi q.1)
theorem cp_in {X : SM} {i i0 k j : Nat} {p : Nat → Nat → Bool} (h : p k j = true) : cp X i i0 p k i j = X k i0 j := if_pos ⟨rfl, h⟩
theorem cp_out {X : SM} {i i0 k i' j : Nat} {p : Nat → Nat → Bool} (h : ¬ (i' = i ∧ p k j = true)) : cp X i i0 p k i' j = X k i' j := if_neg h
theorem cp_u1 {X : SM} {i i0 k j : Nat} {p : Nat → Nat → Bool} (hi : i0 ≠ i) : u1 (cp X i i0 p) k i j (cp X i i0 p k i0 j) = cp X i i0 (fun k' j' => p k' j' || (k' == k && j' == j)) := by
  funext a b c
  rw [cp_src hi, u1_at]
  by_cases z : a = k ∧ b = i ∧ c = j
  · obtain ⟨rfl, rfl, rfl⟩ := z
    rw [if_pos ⟨rfl, rfl, rfl⟩, cp_in (by simp)]
  · rw [if_neg z]
    by_cases y : b = i ∧ p a c = true
    · obtain ⟨rfl, y⟩ := y
      rw [cp_in y, cp_in (by simp [y])]
    · rw [cp_out y, cp_out (fun q => ?_)]
      obtain ⟨rfl, q⟩ := q
      simp only [Bool.or_eq_true, Bool.and_eq_true, beq_iff_eq] at q
      rcases q with q | q
      · exact y ⟨rfl, q⟩
      · exact z ⟨q.1, rfl, q.2⟩
theorem cp_uc {X : SM} {i i0 k n : Nat} {p : Nat → Nat → Bool} (hi : i0 ≠ i) : uc (cp X i i0 p) k i k i0 n = cp X i i0 (fun k' j' => p k' j' || (k' == k && decide (j' < n))) := by
  funext a b c
  rw [uc_at]
  by_cases z : a = k ∧ b = i ∧ c < n
  · obtain ⟨rfl, rfl, z⟩ := z
    rw [if_pos ⟨rfl, rfl, z⟩, cp_src hi, cp_in (by simp [z])]
  · rw [if_neg z]
    by_cases y : b = i ∧ p a c = true
    · obtain ⟨rfl, y⟩ := y
      rw [cp_in y, cp_in (by simp [y])]
    · rw [cp_out y, cp_out (fun q => ?_)]
      obtain ⟨rfl, q⟩ := q
      simp only [Bool.or_eq_true, Bool.and_eq_true, beq_iff_eq, decide_eq_true_eq] at q
      rcases q with q | q
      · exact y ⟨rfl, q⟩
      · exact z ⟨q.1, rfl, q.2⟩
theorem cp_0 {X : SM} {i i0 k n : Nat} : uc X k i k i0 n = cp X i i0 (fun k' j' => k' == k && decide (j' < n)) := by
  funext a b c
  rw [uc_at]
  by_cases z : a = k ∧ b = i ∧ c < n
  · obtain ⟨rfl, rfl, z⟩ := z
    rw [if_pos ⟨rfl, rfl, z⟩, cp_in (by simp [z])]
  · rw [if_neg z, cp_out (fun q => ?_)]
    obtain ⟨rfl, q⟩ := q
    simp only [Bool.and_eq_true, beq_iff_eq, decide_eq_true_eq] at q
    exact z ⟨q.1, rfl, q.2⟩
theorem x9_copy {X : SM} {i i0 : Nat} (hi : i0 ≠ i) (h7 : X 9 i0 7 = 0 ∨ X 9 i0 7 = 1) : fn_X9_copy i i0 X = some (cp X i i0 pT) := by
  unfold fn_X9_copy fn_X1_copy fn_X4_copy
  simp only [g_let_eq]
  rw [cp_0 (X := X), cp_uc hi, cp_uc hi, cp_uc hi, cp_u1 hi, cp_u1 hi, cp_u1 hi, cp_u1 hi, cp_u1 hi, cp_u1 hi, cp_uc hi, cp_uc hi, cp_uc hi, cp_u1 hi, if_pos (by rw [cp_src hi]; exact h7)]
  rw [cp_u1 hi, cp_u1 hi, cp_u1 hi, cp_u1 hi, cp_u1 hi, cp_u1 hi, cp_u1 hi, cp_u1 hi]
  rfl
def cpT (X : SM) (t : Nat) : SM := fun k i j => if 6 ≤ i ∧ i < 6 + t ∧ pT k j = true then X k (i - 6) j else X k i j
theorem cpT_s {X : SM} {t : Nat} (ht : t < 6) : cp (cpT X t) (6 + t) t pT = cpT X (t + 1) := by
  funext k i j
  unfold cp
  by_cases z : i = 6 + t ∧ pT k j = true
  · obtain ⟨rfl, z⟩ := z
    rw [if_pos ⟨rfl, z⟩]
    unfold cpT
    rw [if_neg (by omega), if_pos ⟨by omega, by omega, z⟩, show 6 + t - 6 = t by omega]
  · rw [if_neg z]
    unfold cpT
    by_cases y : 6 ≤ i ∧ i < 6 + t ∧ pT k j = true
    · rw [if_pos y, if_pos ⟨y.1, by omega, y.2.2⟩]
    · rw [if_neg y, if_neg (fun q => ?_)]
      by_cases x : i = 6 + t
      · exact z ⟨x, q.2.2⟩
      · exact y ⟨q.1, by omega, q.2.2⟩
def cpQ (X : SM) (c : Nat) : SM := fun k i j => if k = 14 ∧ 4 + c ≤ i ∧ i < 8 ∧ j < 6 then X 14 (i - 4) j else X k i j
theorem cpQ_loop : ∀ (d c : Nat) (X : SM) (f : Nat), c + d = 4 → d < f → wl_X0_copy_2 f 1 0 (nI c) X = some (uc (cpQ X c) 15 1 15 0 4) := by
  intro d
  induction d with
  | zero =>
    intro c X f h1 h2
    obtain ⟨f, rfl⟩ : ∃ q, f = q + 1 := ⟨f - 1, by omega⟩
    have : c = 4 := by omega
    subst this
    rw [wl_X0_copy_2_s]
    unfold wb_X0_copy_2
    rw [if_pos (show (4 : Int32) ≤ nI 4 by decide), g_let_eq, show cpQ X 4 = X from funext fun k => funext fun i => funext fun j => if_neg (by omega)]
  | succ d ih =>
    intro c X f h1 h2
    obtain ⟨f, rfl⟩ : ∃ q, f = q + 1 := ⟨f - 1, by omega⟩
    rw [wl_X0_copy_2_s]
    unfold wb_X0_copy_2
    simp only [if_neg (show ¬ (4 : Int32) ≤ nI c from nI_ge (b := 4) (by omega) (by decide)), if_pos (g_inI (show c < 4 by omega) (by decide)), nI_clamp (show c < 2 ^ 31 by omega), g_let_eq, nI_1]
    rw [ih (c + 1) _ f (by omega) (by omega)]
    congr 2
    funext k i j
    unfold cpQ
    simp only [uc_at]
    by_cases q : k = 14 ∧ 4 + c ≤ i ∧ i < 8 ∧ j < 6
    · rw [if_pos q]
      by_cases z : i = 4 + c
      · subst z
        rw [if_neg (by omega), if_pos (by omega), show 4 + c - 4 = 4 * 0 + c by omega]
      · rw [if_pos (by omega), if_neg (by omega)]
    · rw [if_neg q, if_neg (by omega), if_neg (by omega)]
def pU (k j : Nat) : Bool := (((((((((k == 29 && decide (j < 8)) || (k == 30 && decide (j < 8))) || (k == 15 && decide (j < 4))) || (k == 7 && j == 5)) || (k == 7 && j == 6)) || (k == 7 && j == 7)) || (k == 7 && j == 8)) || (k == 7 && j == 9)) || (k == 7 && j == 10)) || (k == 7 && j == 11)
def cpA (X : SM) : SM := cp (cpQ (cpT X 6) 0) 1 0 pU
theorem cpQ_cp {X : SM} {p : Nat → Nat → Bool} (hp : ∀ j, p 14 j = false) : cpQ (cp X 1 0 p) 0 = cp (cpQ X 0) 1 0 p := by
  funext k i j
  by_cases z : k = 14
  · subst z
    rw [cp_out (fun q => by rw [hp] at q; exact absurd q.2 (by decide))]
    unfold cpQ
    by_cases y : 14 = 14 ∧ 4 + 0 ≤ i ∧ i < 8 ∧ j < 6
    · rw [if_pos y, if_pos y, cp_out (fun q => by rw [hp] at q; exact absurd q.2 (by decide))]
    · rw [if_neg y, if_neg y, cp_out (fun q => by rw [hp] at q; exact absurd q.2 (by decide))]
  · have e : ∀ (Y : SM) i' j', cpQ Y 0 k i' j' = Y k i' j' := fun Y i' j' => if_neg (fun q => z q.1)
    rw [e]
    by_cases y : i = 1 ∧ p k j = true
    · obtain ⟨rfl, y⟩ := y
      rw [cp_in y, cp_in y, e]
    · rw [cp_out y, cp_out y, e]
theorem x_copy {X : SM} (h7 : ∀ t, t < 6 → X 9 t 7 = 0 ∨ X 9 t 7 = 1) : fn_X7_copy 1 0 X = some (cpA X) := by
  have lp : ∀ (d t : Nat) (f : Nat), t + d = 6 → d < f → ∃ f', wl_X7_copy_2 f 1 0 (nI t) (cpT X t) = wl_X7_copy_2 (f' + 1) 1 0 6 (cpT X 6) := by
    intro d
    induction d with
    | zero =>
      intro t f h1 h2
      have : t = 6 := by omega
      subst this
      exact ⟨f - 1, by rw [show f - 1 + 1 = f by omega]; rfl⟩
    | succ d ih =>
      intro t f h1 h2
      obtain ⟨f, rfl⟩ : ∃ q, f = q + 1 := ⟨f - 1, by omega⟩
      have ht : t < 6 := by omega
      obtain ⟨f', e⟩ := ih (t + 1) f (by omega) (by omega)
      refine ⟨f', ?_⟩
      rw [wl_X7_copy_2_s]
      unfold wb_X7_copy_2
      have hs : cpT X t 9 t 7 = X 9 t 7 := if_neg (by omega)
      simp only [if_neg (show ¬ (6 : Int32) ≤ nI t from nI_ge (b := 6) ht (by decide)), if_pos (in6 ht), cl6 ht, show 6 * 1 + t = 6 + t by omega, show 6 * 0 + t = t by omega, x9_copy (X := cpT X t) (show t ≠ 6 + t by omega) (by rw [hs]; exact h7 t ht), Option.bind_some, g_let_eq, nI_1, cpT_s ht]
      exact e
  obtain ⟨f', e⟩ := lp 6 0 1000 (by omega) (by omega)
  unfold fn_X7_copy
  rw [show wl_X7_copy_2 1000 1 0 0 X = wl_X7_copy_2 1000 1 0 (nI 0) (cpT X 0) by rw [show cpT X 0 = X from funext fun k => funext fun i => funext fun j => if_neg (by omega)]; rfl, e, wl_X7_copy_2_s]
  unfold wb_X7_copy_2 fn_X8_copy fn_X0_copy
  have h01 : (0 : Nat) ≠ 1 := by decide
  simp only [if_pos (show (6 : Int32) ≤ 6 by decide), g_let_eq]
  rw [cp_0 (X := cpT X 6), cp_uc h01, show wl_X0_copy_2 1000 1 0 0 _ = _ from cpQ_loop 4 0 _ 1000 (by omega) (by omega)]
  simp only [Option.bind_some]
  rw [cpQ_cp (fun j => by simp), cp_uc h01, cp_u1 h01, cp_u1 h01, cp_u1 h01, cp_u1 h01, cp_u1 h01, cp_u1 h01, cp_u1 h01]
  rfl
theorem cpA_g {X : SM} : gX X (cpA X) := by
  intro k i j q
  unfold cpA
  rw [cp_out (fun z => ?_)]
  · unfold cpQ
    rw [if_neg (fun z => q (by unfold gh; omega))]
    unfold cpT
    rw [if_neg (fun z => ?_)]
    obtain ⟨z1, z2, z3⟩ := z
    unfold pT at z3
    simp only [Bool.or_eq_true, Bool.and_eq_true, beq_iff_eq, decide_eq_true_eq] at z3
    exact q (by unfold gh; omega)
  · obtain ⟨z1, z3⟩ := z
    unfold pU at z3
    simp only [Bool.or_eq_true, Bool.and_eq_true, beq_iff_eq, decide_eq_true_eq] at z3
    exact q (by unfold gh; omega)
theorem cpA_T {X : SM} {k t j : Nat} (ht : t < 6) (h : pT k j = true) (hU : pU k j = false ∨ 6 + t ≠ 1) (h14 : k ≠ 14) : cpA X k (6 * 1 + t) j = X k (6 * 0 + t) j := by
  unfold cpA
  rw [cp_out (fun z => by omega)]
  unfold cpQ
  rw [if_neg (fun z => h14 z.1)]
  unfold cpT
  rw [if_pos ⟨by omega, by omega, h⟩, show 6 * 1 + t - 6 = 6 * 0 + t by omega]
theorem cpA_U {X : SM} {k j : Nat} (h : pU k j = true) (h14 : k ≠ 14) : cpA X k 1 j = X k 0 j := by
  unfold cpA
  rw [cp_in h]
  unfold cpQ
  rw [if_neg (fun z => h14 z.1)]
  exact if_neg (by omega)
theorem cpA_Q {X : SM} {c j : Nat} (hc : c < 4) (hj : j < 6) : cpA X 14 (4 * 1 + c) j = X 14 (4 * 0 + c) j := by
  unfold cpA
  rw [cp_out (fun z => by omega)]
  unfold cpQ
  rw [if_pos (by omega), show 4 * 1 + c - 4 = 4 * 0 + c by omega]
  exact if_neg (by omega)
theorem cpA_o {X : SM} {k i j : Nat} (h1 : pT k j = false) (h2 : pU k j = false) (h14 : k ≠ 14) : cpA X k i j = X k i j := by
  unfold cpA
  rw [cp_out (fun z => by rw [h2] at z; exact absurd z.2 (by decide))]
  unfold cpQ
  rw [if_neg (fun z => h14 z.1)]
  exact if_neg (fun z => by rw [h1] at z; exact absurd z.2.2 (by decide))
theorem cpA_R {b : Nat} {X M M' : SM} (h : rJ b X M) (hM : ∀ j, j < 693 → M' 40 0 j = M 40 0 j) (hK : ∀ k j, 42 ≤ k → k ≤ 46 → M' k 0 j = M k 0 j) : rR 1 (cpA X) M' := by
  refine rR_tr (m := 0) (X := X) (M := M) (fun t j ht hj => cpA_T ht (by unfold pT; simp [hj]) (by omega) (by decide)) (fun t j ht hj => cpA_T ht (by unfold pT; simp [hj]) (by omega) (by decide)) (fun t j ht hj => cpA_T ht (by unfold pT; simp [hj]) (by omega) (by decide)) (fun t j ht h1 h2 => cpA_T ht ?_ (by omega) (by decide)) (fun t ht => (cpA_o (by unfold pT; simp) (by unfold pU; simp) (by decide)).trans (h.2.2.2.2.2.1.2 t ht)) (fun t j ht hj => cpA_T ht ?_ (by omega) (by decide)) (fun k t p h1 h2 ht hp => cpA_T ht ?_ (by omega) (by omega)) (fun t ht => cpA_T ht (by unfold pT; simp) (by omega) (by decide)) (fun p hp => cpA_U (by unfold pU; simp [hp]) (by decide)) (fun p hp => cpA_U (by unfold pU; simp [hp]) (by decide)) (fun j h1 h2 => cpA_U ?_ (by decide)) (fun c k hc hk => cpA_Q hc hk) (fun c hc => cpA_U (by unfold pU; simp [hc]) (by decide)) hM hK h.1
  · have : j = 6 ∨ j = 7 ∨ j = 8 ∨ j = 9 ∨ j = 10 ∨ j = 11 ∨ j = 12 ∨ j = 13 ∨ j = 14 := by omega
    rcases this with rfl | rfl | rfl | rfl | rfl | rfl | rfl | rfl | rfl <;> rfl
  · have : j = 0 ∨ j = 1 ∨ j = 2 ∨ j = 3 ∨ j = 4 := by omega
    rcases this with rfl | rfl | rfl | rfl | rfl <;> rfl
  · have : k = 16 ∨ k = 17 ∨ k = 18 ∨ k = 19 := by omega
    rcases this with rfl | rfl | rfl | rfl <;> (unfold pT; simp [hp])
  · have : j = 5 ∨ j = 6 ∨ j = 7 ∨ j = 8 ∨ j = 9 ∨ j = 10 ∨ j = 11 := by omega
    rcases this with rfl | rfl | rfl | rfl | rfl | rfl | rfl <;> rfl
