/-! bound: the class counts a round -/
def enc : Option Nat → Int32
  | none => -1
  | some v => nI v
def rvX (X : SM) (rv : Nat → Option Nat) : Prop := ∀ q, q ≤ 24 → X 20 0 q = enc (rv q)
def f20 (X X' : SM) : Prop := ∀ k i j, ¬ (k = 20 ∧ i = 0) → X' k i j = X k i j
theorem f20_t {X Y Z : SM} (a : f20 X Y) (b : f20 Y Z) : f20 X Z := fun k i j q => (b k i j q).trans (a k i j q)
theorem nI_m1 {a : Nat} (h : a < 2 ^ 31) : ¬ nI a = -1 := fun w => nI_pos h (by rw [w]; decide)
section OR
variable {most : Bool} {n p i u : Nat} {kd xx yy : Nat → Nat} {rv : Nat → Option Nat} {X : SM}
theorem xcd_c {X' : SM} (f : f20 X X') (h : xcd X i n kd xx yy) : xcd X' i n kd xx yy := by
  refine ⟨(f _ _ _ (by omega)).trans h.1, fun p hp => ?_⟩
  rw [f 16 i p (by omega), f 17 i p (by omega), f 18 i p (by omega)]
  exact h.2 p hp
theorem x_come {q c : Nat} (hq : q ≤ 24) (hc : c < 2 ^ 31) (hr : rvX X rv) (hv : ∀ q v, rv q = some v → v ≤ 999999) : ∃ X', fn_X2_comeTo (nI q) (nI c) (if most = true then 1 else 0) X = some X' ∧ rvX X' (up most rv q c) ∧ f20 X X' := by
  have hcap : (if (999999 : Int32) < nI c then 999999 else nI c) = nI (mn c) := by
    unfold mn
    by_cases z : c ≤ 999999
    · rw [if_pos z, if_neg (show ¬ (999999 : Int32) < nI c from nI_nlt (a := 999999) z (by decide))]
    · rw [if_neg z, if_pos (show (999999 : Int32) < nI c from nI_lt (a := 999999) (by omega) hc)]
      rfl
  have hm := mn_le c
  have w1 : ∀ z, up most rv q c q = some z → rvX (u1 X 20 0 q (nI z)) (up most rv q c) := by
    intro z hz j hj
    by_cases y : j = q
    · subst y
      rw [u1_self, hz]
      rfl
    · rw [u1_ne (by omega), up_o y]
      exact hr j hj
  have f1 : ∀ z, f20 X (u1 X 20 0 q z) := fun z k i j w => u1_ne (fun y => w ⟨y.1, y.2.1⟩)
  have same : up most rv q c q = rv q → rvX X (up most rv q c) := by
    intro e j hj
    by_cases y : j = q
    · subst y
      rw [e]
      exact hr j hj
    · rw [up_o y]
      exact hr j hj
  unfold fn_X2_comeTo
  cases h : rv q with
  | none =>
    have hXq : X 20 0 q = -1 := by rw [hr q hq, h]; rfl
    simp only [if_neg (nI_pos (show q < 2 ^ 31 by omega)), if_pos (show nI q ≤ 24 from nI_le (b := 24) hq (by decide)), g_let_eq, hcap, if_pos (g_inI (show q < 25 by omega) (by decide)), nI_clamp (show q < 2 ^ 31 by omega), hXq, if_true]
    exact ⟨_, rfl, w1 _ (by unfold up; rw [if_pos rfl, h]), f1 _⟩
  | some b =>
    have hb := hv q b h
    have hXq : X 20 0 q = nI b := by rw [hr q hq, h]; rfl
    have hup : up most rv q c q = some (opt most (mn c) b) := by unfold up; rw [if_pos rfl, h]
    simp only [if_neg (nI_pos (show q < 2 ^ 31 by omega)), if_pos (show nI q ≤ 24 from nI_le (b := 24) hq (by decide)), g_let_eq, hcap, if_pos (g_inI (show q < 25 by omega) (by decide)), nI_clamp (show q < 2 ^ 31 by omega), hXq, if_neg (nI_m1 (show b < 2 ^ 31 by omega))]
    cases most with
    | true =>
      simp only [if_true, if_neg one0]
      by_cases z : mn c ≤ b
      · rw [if_pos (nI_le z (by omega))]
        refine ⟨X, rfl, same (by rw [hup, h]; show some (if b < mn c then mn c else b) = _; rw [if_neg (by omega)]), fun _ _ _ _ => rfl⟩
      · rw [if_neg (nI_ge (show b < mn c by omega) (by omega))]
        exact ⟨_, rfl, w1 _ (by rw [hup]; show some (if b < mn c then mn c else b) = _; rw [if_pos (by omega)]), f1 _⟩
    | false =>
      simp only [if_neg (show ¬ false = true by decide), if_true]
      by_cases z : b ≤ mn c
      · rw [if_pos (nI_le z (by omega))]
        refine ⟨X, rfl, same (by
          rw [hup, h]
          show some (if b < mn c then b else mn c) = _
          by_cases y : b < mn c
          · rw [if_pos y]
          · rw [if_neg y, show mn c = b by omega]), fun _ _ _ _ => rfl⟩
      · rw [if_neg (nI_ge (show mn c < b by omega) (by omega))]
        exact ⟨_, rfl, w1 _ (by rw [hup]; show some (if b < mn c then b else mn c) = _; rw [if_neg (by omega)]), f1 _⟩
theorem x_behind {v : Nat} (hn : n ≤ 24) (hx : xcd X i n kd xx yy) (hp : p < n) (hk : kd p = 9) (hu : X 20 0 p = nI u) (hv : X 20 0 (yy p) = nI v) (hvu : v ≤ u) (hu9 : u ≤ 999999) : fn_X2_behindLoop i (nI p) X = some (nI (v + (xx p + 1) * (u - v + 1))) ∧ v + (xx p + 1) * (u - v + 1) < 2 ^ 31 := by
  obtain ⟨a1, a2, a3, a4⟩ := hx.2 p hp
  obtain ⟨y1, y2⟩ := a3 (by omega)
  obtain ⟨y3, x1, x2⟩ := a4 hk
  have hb : (xx p + 1) * (u - v + 1) ≤ 8 * 1000000 := Nat.mul_le_mul (by omega) (by omega)
  refine ⟨?_, by omega⟩
  unfold fn_X2_behindLoop
  simp only [if_pos (g_inI (show p < 24 by omega) (by decide)), if_pos (g_inI (show p < 25 by omega) (by decide)), nI_clamp (show p < 2 ^ 31 by omega), g_let_eq, y1, if_neg (nI_pos (show yy p < 2 ^ 31 by omega)), if_pos (nI_le y3 (show p < 2 ^ 31 by omega)), if_pos (g_inI (show yy p < 25 by omega) (by decide)), nI_clamp (show yy p < 2 ^ 31 by omega), hu, hv, x2, ni_sub hvu, nI_1, ni_mul, nI_add]
theorem xr_loop (hpl : pl n kd yy) (hn : n ≤ 24) : ∀ (d p f : Nat) (X : SM) (rv : Nat → Option Nat), p + d = n → d < f → xcd X i n kd xx yy → rvX X rv → Gi most n kd xx yy rv p → ∃ X', wl_X2_ofRound_17 f i (if most = true then 1 else 0) (nI p) X = some (nI (mn (dist most kd xx yy 0 n)), X') ∧ f20 X X' := by
  intro d
  induction d with
  | zero =>
    intro p f X rv h1 h2 hx hr hg
    obtain ⟨f, rfl⟩ : ∃ q, f = q + 1 := ⟨f - 1, by omega⟩
    have : p = n := by omega
    subst this
    have he := Gi_end hg
    have hr' : X 20 0 p = nI (mn (dist most kd xx yy 0 p)) := by rw [hr p hn, he]; rfl
    refine ⟨X, ?_, fun _ _ _ _ => rfl⟩
    rw [wl_X2_ofRound_17_s]
    unfold wb_X2_ofRound_17
    simp only [hx.1, if_neg (nI_pos (show p < 2 ^ 31 by omega)), if_neg (show ¬ (24 : Int32) < nI p from nI_nlt (a := 24) hn (by decide)), if_pos (g_inI (show p < 25 by omega) (by decide)), nI_clamp (show p < 2 ^ 31 by omega), hr']
    by_cases q : p = 24
    · rw [if_pos (show (24 : Int32) ≤ nI p from nI_le (a := 24) (by omega) (by omega))]
    · rw [if_neg (show ¬ (24 : Int32) ≤ nI p from nI_ge (b := 24) (by omega) (by decide)), g_let_eq, show fn_X1_has i (nI p) X = 0 by unfold fn_X1_has; rw [if_neg (nI_pos (by omega)), hx.1, if_pos (nI_le (Nat.le_refl p) (by omega))], if_pos rfl]
  | succ d ih =>
    intro p f X rv h1 h2 hx hr hg
    obtain ⟨f, rfl⟩ : ∃ q, f = q + 1 := ⟨f - 1, by omega⟩
    have hp : p < n := by omega
    obtain ⟨a1, a2, a3, a4⟩ := hx.2 p hp
    have nextp : ∀ (X1 : SM) (rv1 : Nat → Option Nat), f20 X X1 → rvX X1 rv1 → Gi most n kd xx yy rv1 (p + 1) → ∃ X', wl_X2_ofRound_17 f i (if most = true then 1 else 0) (nI (p + 1)) X1 = some (nI (mn (dist most kd xx yy 0 n)), X') ∧ f20 X X' := by
      intro X1 rv1 g1 g2 g3
      obtain ⟨X', e1, e2⟩ := ih (p + 1) f X1 rv1 (by omega) (by omega) (xcd_c g1 hx) g2 g3
      exact ⟨X', e1, f20_t g1 e2⟩
    rw [wl_X2_ofRound_17_s]
    unfold wb_X2_ofRound_17
    simp only [if_neg (show ¬ (24 : Int32) ≤ nI p from nI_ge (b := 24) (by omega) (by decide)), g_let_eq, x1_hasq hn hx.1 hp, if_neg one0, if_pos (g_inI (show p < 24 by omega) (by decide)), if_pos (g_inI (show p < 25 by omega) (by decide)), nI_clamp (show p < 2 ^ 31 by omega), a2, nI_1]
    cases h : rv p with
    | none =>
      have hXu : X 20 0 p = -1 := by rw [hr p (by omega), h]; rfl
      simp only [hXu, if_true]
      exact nextp X rv (fun _ _ _ _ => rfl) hr (Gi_skip hg h)
    | some u =>
      have hu9 := hg.1 p u h
      have hXu : X 20 0 p = nI u := by rw [hr p (by omega), h]; rfl
      simp only [hXu, if_neg (nI_m1 (show u < 2 ^ 31 by omega)), nI_1]
      by_cases c9 : kd p = 9
      · obtain ⟨y3, x1, x2⟩ := a4 c9
        obtain ⟨v, e1, e2, e3⟩ := Gi_loop hp c9 y3 hg h
        have hXv : X 20 0 (yy p) = nI v := by rw [hr _ (by omega), e1]; rfl
        obtain ⟨b1, b2⟩ := x_behind hn hx hp c9 hXu hXv e2 hu9
        obtain ⟨X1, c1, c2, c3⟩ := x_come (most := most) (q := p + 1) (show p + 1 ≤ 24 by omega) b2 hr hg.1
        have k9 : nI (kd p) = 9 := by rw [c9]; rfl
        unfold wb_X2_ofRound_95
        simp only [if_pos k9, b1, Option.bind_some, if_neg (show ¬ nI (kd p) = 7 by rw [k9]; decide), if_neg (show ¬ nI (kd p) = 8 by rw [k9]; decide), c1, g_let_eq, nI_1]
        refine nextp X1 _ c3 c2 (Gi_next hp hn hg h (fun e h1 h2 => ?_))
        rw [dist_9 most kd xx yy h1 h2 c9, ← mn_mn, e3, mn_mn, Nat.add_assoc]
      · have k9 : ¬ nI (kd p) = 9 := fun w => c9 ((nI_eq (b := 9) (by omega) (by decide)).mp w)
        simp only [if_neg k9]
        by_cases c7 : kd p = 7
        · have k7 : nI (kd p) = 7 := by rw [c7]; rfl
          obtain ⟨y1, y2⟩ := a3 (by omega)
          have hmin : (if nI n < nI (yy p) then nI n else nI (yy p)) = nI (if n < yy p then n else yy p) := by
            by_cases z : n < yy p
            · rw [if_pos z, if_pos (nI_lt z (by omega))]
            · rw [if_neg z, if_neg (nI_nlt (by omega) (by omega))]
          obtain ⟨X1, c1, c2, c3⟩ := x_come (most := most) (q := if n < yy p then n else yy p) (c := u + 1) (by split <;> omega) (by omega) hr hg.1
          unfold wb_X2_ofRound_95
          simp only [if_pos k7, if_pos (g_inI (show p < 24 by omega) (by decide)), nI_clamp (show p < 2 ^ 31 by omega), hx.1, y1, hmin, c1, Option.bind_some, g_let_eq, nI_1]
          exact nextp X1 _ c3 c2 (Gi_jump hpl hp hn c7 hg h)
        · have k7 : ¬ nI (kd p) = 7 := fun w => c7 ((nI_eq (b := 7) (by omega) (by decide)).mp w)
          obtain ⟨X1, c1, c2, c3⟩ := x_come (most := most) (q := p + 1) (c := u + 1) (show p + 1 ≤ 24 by omega) (by omega) hr hg.1
          simp only [if_neg k7, c1, Option.bind_some]
          unfold wb_X2_ofRound_95
          by_cases c8 : kd p = 8
          · have k8 : nI (kd p) = 8 := by rw [c8]; rfl
            have hx1 := xcd_c c3 hx
            obtain ⟨y1, y2⟩ := (hx1.2 p hp).2.2.1 (by omega)
            have hmin : (if nI n < nI (yy p) then nI n else nI (yy p)) = nI (if n < yy p then n else yy p) := by
              by_cases z : n < yy p
              · rw [if_pos z, if_pos (nI_lt z (by omega))]
              · rw [if_neg z, if_neg (nI_nlt (by omega) (by omega))]
            obtain ⟨X2, d1, d2, d3⟩ := x_come (most := most) (q := if n < yy p then n else yy p) (c := u + 1) (by split <;> omega) (by omega) c2 (up_cap hg.1)
            simp only [if_neg k7, if_pos k8, if_pos (g_inI (show p < 24 by omega) (by decide)), nI_clamp (show p < 2 ^ 31 by omega), hx1.1, y1, hmin, d1, Option.bind_some, g_let_eq, nI_1]
            exact nextp X2 _ (f20_t c3 d3) d2 (Gi_branch hpl hp hn c8 hg h)
          · have k8 : ¬ nI (kd p) = 8 := fun w => c8 ((nI_eq (b := 8) (by omega) (by decide)).mp w)
            simp only [if_neg k7, if_neg k8, g_let_eq, nI_1]
            refine nextp X1 _ c3 c2 (Gi_next hp hn hg h (fun e h1 h2 => ?_))
            rw [dist_o most kd xx yy h1 h2 c7 c8 c9, Nat.add_assoc]
theorem x_round (hpl : pl n kd yy) (hn : n ≤ 24) (hx : xcd X i n kd xx yy) : ∃ X', fn_X2_ofRound i (if most = true then 1 else 0) X = some (nI (mn (dist most kd xx yy 0 n)), X') ∧ f20 X X' := by
  have f1 : f20 X (u1 (uf X 20 0 25 (-1)) 20 0 0 0) := fun k i j w => by rw [u1_ne (fun y => w ⟨y.1, y.2.1⟩), uf_at, if_neg (fun y => w ⟨y.1, y.2.1⟩)]
  obtain ⟨X', e1, e2⟩ := xr_loop (most := most) (xx := xx) hpl hn n 0 1000 (u1 (uf X 20 0 25 (-1)) 20 0 0 0) (fun q => if q = 0 then some 0 else none) (by omega) (by omega) (xcd_c f1 hx) (fun q hq => by
    by_cases z : q = 0
    · subst z
      rw [u1_self]
      rfl
    · rw [u1_ne (by omega), uf_at, if_pos ⟨rfl, rfl, by omega⟩]
      show -1 = enc (if q = 0 then some 0 else none)
      rw [if_neg z]
      rfl) (Gi_0 hpl hn (fun l hl hk => ((hx.2 l hl).2.2.2 hk).1))
  refine ⟨X', ?_, f20_t f1 e2⟩
  unfold fn_X2_ofRound
  rw [g_let_eq, g_let_eq, show Int32.toNatClampNeg 0 = 0 by decide]
  exact e1
end OR
