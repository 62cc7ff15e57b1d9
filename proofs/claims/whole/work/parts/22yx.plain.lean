/-! bound: whether a code is plain, on both sides -/
def cd (M : SM) (t n : Nat) (kd xx yy : Nat → Nat) : Prop := ∀ p, p < n → kd p ≤ 20 ∧ M 42 0 (4 * (24 * t + p)) = nI (kd p) ∧ (kd p = 7 ∨ kd p = 8 ∨ kd p = 9 → M 42 0 (4 * (24 * t + p) + 2) = nI (yy p) ∧ yy p < 24) ∧ (kd p = 9 → yy p ≤ p ∧ xx p < 8 ∧ M 42 0 (4 * (24 * t + p) + 1) = nI (xx p))
theorem cd_ex {m t : Nat} {X M : SM} (h : rR m X M) (ht : t < 6) : ∃ n kd xx yy, n ≤ 24 ∧ M 43 0 t = nI n ∧ cd M t n kd xx yy := by
  obtain ⟨n, h1, h2, h3, -⟩ := rR_iC h t ht
  refine ⟨n, fun p => (M 42 0 (4 * (24 * t + p))).toNatClampNeg, fun p => (M 42 0 (4 * (24 * t + p) + 1)).toNatClampNeg, fun p => (M 42 0 (4 * (24 * t + p) + 2)).toNatClampNeg, h1, h2, fun p hp => ?_⟩
  obtain ⟨k, hk, e, hc⟩ := h3 p hp
  simp only [e, nI_clamp (show k < 2 ^ 31 by omega)]
  refine ⟨hk, trivial, fun w => ?_, fun w => ?_⟩
  · rcases w with rfl | rfl | rfl
    · obtain ⟨b, hb, eb⟩ := ct_7 hc
      rw [eb, nI_clamp (by omega)]; exact ⟨rfl, hb⟩
    · obtain ⟨-, b, -, hb, -, eb⟩ := ct_8 hc
      rw [eb, nI_clamp (by omega)]; exact ⟨rfl, hb⟩
    · obtain ⟨-, b, -, hb, -, eb⟩ := ct_9 (by omega) hc
      rw [eb, nI_clamp (by omega)]; exact ⟨rfl, by omega⟩
  · subst w
    obtain ⟨a, b, ha, hb, ea, eb⟩ := ct_9 (by omega) hc
    rw [ea, eb, nI_clamp (by omega), nI_clamp (by omega)]
    exact ⟨hb, ha, rfl⟩
theorem nk {a b : Nat} (ha : a ≤ 20) (hb : b ≤ 20) : (nI a = nI b) = (a = b) := propext (nI_eq (by omega) (by omega))
def gl (yy : Nat → Nat) (p l : Nat) : Prop := (yy l ≤ p ∧ p ≤ l → yy p ≤ l) ∧ (¬ (yy l ≤ p ∧ p ≤ l) → ¬ (yy l < yy p ∧ yy p ≤ l))
section PL
variable {t n p : Nat} {kd xx yy : Nat → Nat} {X M : SM}
/-- a class memory that holds the same code -/
def xcd (X : SM) (i n : Nat) (kd xx yy : Nat → Nat) : Prop := X 1 i 4 = nI n ∧ ∀ p, p < n → kd p ≤ 20 ∧ X 16 i p = nI (kd p) ∧ (kd p = 7 ∨ kd p = 8 ∨ kd p = 9 → X 18 i p = nI (yy p) ∧ yy p < 24) ∧ (kd p = 9 → yy p ≤ p ∧ xx p < 8 ∧ X 17 i p = nI (xx p))
theorem xcd_of {m : Nat} (h : rR m X M) (ht : t < 6) (hn : n ≤ 24) (en : M 43 0 t = nI n) (hc : cd M t n kd xx yy) : xcd X (6 * m + t) n kd xx yy := by
  refine ⟨(rR_rM h t ht).trans en, fun p hp => ?_⟩
  obtain ⟨c1, c2, c3, c4⟩ := rR_rC h t p ht (by omega)
  rw [c1, c2, c3]
  exact hc p hp
theorem xl_loop {i : Nat} (hn : n ≤ 24) (hx : xcd X i n kd xx yy) (hp : p < n) (hyp : yy p < 24) : ∀ (d l f : Nat), l + d = n → d < f → (∀ l', l' < l → kd l' = 9 → gl yy p l') → ∃ r, wl_X2_leapsWell_9 f i (nI p) (nI (yy p)) (nI l) X = some r ∧ ((r = 1 ∧ lw n kd yy p) ∨ (r = 0 ∧ ¬ lw n kd yy p)) := by
  intro d
  induction d with
  | zero =>
    intro l f h1 h2 h3
    obtain ⟨f, rfl⟩ : ∃ q, f = q + 1 := ⟨f - 1, by omega⟩
    have : l = n := by omega
    subst this
    have fin : ∃ r, (if nI (yy p) ≤ nI p then some (0 : Int32) else some 1) = some r ∧ ((r = 1 ∧ lw l kd yy p) ∨ (r = 0 ∧ ¬ lw l kd yy p)) := by
      by_cases z : yy p ≤ p
      · rw [if_pos (nI_le z (by omega))]
        exact ⟨0, rfl, Or.inr ⟨rfl, fun w => absurd w.1 (by omega)⟩⟩
      · rw [if_neg (nI_ge (by omega) (by omega))]
        exact ⟨1, rfl, Or.inl ⟨rfl, by omega, h3⟩⟩
    rw [wl_X2_leapsWell_9_s]
    unfold wb_X2_leapsWell_9
    by_cases q : l = 24
    · rw [if_pos (show (24 : Int32) ≤ nI l from nI_le (a := 24) (by omega) (by omega))]
      exact fin
    · rw [if_neg (show ¬ (24 : Int32) ≤ nI l from nI_ge (b := 24) (by omega) (by decide)), g_let_eq, show fn_X1_has i (nI l) X = 0 by unfold fn_X1_has; rw [if_neg (nI_pos (by omega)), hx.1, if_pos (nI_le (Nat.le_refl l) (by omega))], if_pos rfl]
      exact fin
  | succ d ih =>
    intro l f h1 h2 h3
    obtain ⟨f, rfl⟩ : ∃ q, f = q + 1 := ⟨f - 1, by omega⟩
    have hl : l < n := by omega
    obtain ⟨a1, a2, a3, a4⟩ := hx.2 l hl
    have bad : ¬ gl yy p l → kd l = 9 → ∃ r, (some (0 : Int32)) = some r ∧ ((r = 1 ∧ lw n kd yy p) ∨ (r = 0 ∧ ¬ lw n kd yy p)) := fun g hk => ⟨0, rfl, Or.inr ⟨rfl, fun w => g (w.2 l hl hk)⟩⟩
    have good : (kd l = 9 → gl yy p l) → ∃ r, wl_X2_leapsWell_9 f i (nI p) (nI (yy p)) (nI (l + 1)) X = some r ∧ ((r = 1 ∧ lw n kd yy p) ∨ (r = 0 ∧ ¬ lw n kd yy p)) := fun g => ih (l + 1) f (by omega) (by omega) (fun l' h' hk => by
      by_cases z : l' = l
      · subst z; exact g hk
      · exact h3 l' (by omega) hk)
    rw [wl_X2_leapsWell_9_s]
    unfold wb_X2_leapsWell_9
    simp only [if_neg (show ¬ (24 : Int32) ≤ nI l from nI_ge (b := 24) (by omega) (by decide)), g_let_eq, x1_hasq hn hx.1 hl, if_neg one0, if_pos (g_inI (show l < 24 by omega) (by decide)), nI_clamp (show l < 2 ^ 31 by omega), a2, nI_1]
    by_cases z : kd l = 9
    · obtain ⟨y1, y2⟩ := a3 (by omega)
      rw [if_pos (show nI (kd l) = 9 by rw [z]; rfl), y1]
      by_cases c1 : p < yy l
      · rw [if_pos (nI_lt c1 (by omega))]
        by_cases c2 : yy p ≤ yy l
        · rw [if_pos (nI_le c2 (by omega))]
          exact good (fun _ => ⟨fun w => by omega, fun w => by omega⟩)
        · rw [if_neg (nI_ge (by omega) (by omega))]
          by_cases c3 : l < yy p
          · rw [if_pos (nI_lt c3 (by omega))]
            exact good (fun _ => ⟨fun w => by omega, fun w => by omega⟩)
          · rw [if_neg (nI_nlt (by omega) (by omega))]
            exact bad (fun w => w.2 (by omega) (by omega)) z
      · rw [if_neg (nI_nlt (by omega) (by omega))]
        by_cases c4 : l < p
        · rw [if_pos (nI_lt c4 (by omega))]
          by_cases c2 : yy p ≤ yy l
          · rw [if_pos (nI_le c2 (by omega))]
            exact good (fun _ => ⟨fun w => by omega, fun w => by omega⟩)
          · rw [if_neg (nI_ge (by omega) (by omega))]
            by_cases c3 : l < yy p
            · rw [if_pos (nI_lt c3 (by omega))]
              exact good (fun _ => ⟨fun w => by omega, fun w => by omega⟩)
            · rw [if_neg (nI_nlt (by omega) (by omega))]
              exact bad (fun w => w.2 (by omega) (by omega)) z
        · rw [if_neg (nI_nlt (by omega) (by omega))]
          by_cases c5 : yy p ≤ l
          · rw [if_pos (nI_le c5 (by omega))]
            exact good (fun _ => ⟨fun w => by omega, fun w => by omega⟩)
          · rw [if_neg (nI_ge (by omega) (by omega))]
            exact bad (fun w => by have := w.1 (by omega); omega) z
    · rw [if_neg (show ¬ nI (kd l) = 9 from fun w => z ((nI_eq (b := 9) (by omega) (by decide)).mp w))]
      exact good (fun w => absurd w z)
theorem xn_loop {i : Nat} (hn : n ≤ 24) (hx : xcd X i n kd xx yy) (hp : p < n) (hyp : yy p < 24) : ∀ (d o f : Nat), o + d = p → d < f → (∀ o', o' < o → kd o' = 9 → ¬ (yy o' < yy p ∧ yy p ≤ o')) → ∃ r, wl_X2_nestsWell_9 f i (nI p) (nI (yy p)) (nI o) X = some r ∧ ((r = 1 ∧ nw kd yy p) ∨ (r = 0 ∧ ¬ nw kd yy p)) := by
  intro d
  induction d with
  | zero =>
    intro o f h1 h2 h3
    obtain ⟨f, rfl⟩ : ∃ q, f = q + 1 := ⟨f - 1, by omega⟩
    have : o = p := by omega
    subst this
    rw [wl_X2_nestsWell_9_s]
    unfold wb_X2_nestsWell_9
    rw [if_pos (nI_le (Nat.le_refl o) (by omega))]
    exact ⟨1, rfl, Or.inl ⟨rfl, h3⟩⟩
  | succ d ih =>
    intro o f h1 h2 h3
    obtain ⟨f, rfl⟩ : ∃ q, f = q + 1 := ⟨f - 1, by omega⟩
    have ho : o < p := by omega
    obtain ⟨a1, a2, a3, a4⟩ := hx.2 o (by omega)
    have good : (kd o = 9 → ¬ (yy o < yy p ∧ yy p ≤ o)) → ∃ r, wl_X2_nestsWell_9 f i (nI p) (nI (yy p)) (nI (o + 1)) X = some r ∧ ((r = 1 ∧ nw kd yy p) ∨ (r = 0 ∧ ¬ nw kd yy p)) := fun g => ih (o + 1) f (by omega) (by omega) (fun o' h' hk => by
      by_cases z : o' = o
      · subst z; exact g hk
      · exact h3 o' (by omega) hk)
    rw [wl_X2_nestsWell_9_s]
    unfold wb_X2_nestsWell_9
    simp only [if_neg (nI_ge ho (show p < 2 ^ 31 by omega)), g_let_eq, x1_hasq hn hx.1 (show o < n by omega), if_neg one0, if_pos (g_inI (show o < 24 by omega) (by decide)), nI_clamp (show o < 2 ^ 31 by omega), a2, nI_1]
    by_cases z : kd o = 9
    · obtain ⟨y1, y2⟩ := a3 (by omega)
      have z' : nI (kd o) = 9 := by rw [z]; rfl
      simp only [if_pos z', y1]
      by_cases c1 : yy p ≤ yy o
      · rw [if_pos (nI_le c1 (by omega))]
        exact good (fun _ w => by omega)
      · rw [if_neg (nI_ge (by omega) (by omega))]
        by_cases c2 : o < yy p
        · rw [if_pos (nI_lt c2 (by omega))]
          exact good (fun _ w => by omega)
        · rw [if_neg (nI_nlt (by omega) (by omega))]
          exact ⟨0, rfl, Or.inr ⟨rfl, fun w => w o ho z (by omega)⟩⟩
    · have z' : ¬ nI (kd o) = 9 := fun w => z ((nI_eq (b := 9) (by omega) (by decide)).mp w)
      simp only [if_neg z']
      have g := good (fun w => absurd w z)
      split
      · exact g
      · split
        · exact g
        · exact g
theorem pk_x {k : Nat} (hk : k ≤ 20) : (fn_X2_isPlainKind (nI k) = 1 ∧ pk k) ∨ (fn_X2_isPlainKind (nI k) = 0 ∧ ¬ pk k) := by
  rcases k21 hk with rfl | rfl | rfl | rfl | rfl | rfl | rfl | rfl | rfl | rfl | rfl | rfl | rfl | rfl | rfl | rfl | rfl | rfl | rfl | rfl | rfl
  all_goals first | exact Or.inl ⟨by decide, by unfold pk; omega⟩ | exact Or.inr ⟨by decide, by unfold pk; omega⟩
theorem xp_loop {i : Nat} (hn : n ≤ 24) (hx : xcd X i n kd xx yy) : ∀ (d p f : Nat), p + d = n → d < f → (∀ q, q < p → pk (kd q) ∧ (kd q = 7 ∨ kd q = 8 → lw n kd yy q) ∧ (kd q = 9 → nw kd yy q)) → ∃ r, wl_X2_isPlain_2 f i (nI p) X = some r ∧ ((r = 1 ∧ pl n kd yy) ∨ (r = 0 ∧ ¬ pl n kd yy)) := by
  intro d
  induction d with
  | zero =>
    intro p f h1 h2 h3
    obtain ⟨f, rfl⟩ : ∃ q, f = q + 1 := ⟨f - 1, by omega⟩
    have : p = n := by omega
    subst this
    have fin : ∃ r, (if nI p ≤ 0 then some (0 : Int32) else some 1) = some r ∧ ((r = 1 ∧ pl p kd yy) ∨ (r = 0 ∧ ¬ pl p kd yy)) := by
      by_cases z : p = 0
      · subst z
        exact ⟨0, rfl, Or.inr ⟨rfl, fun w => absurd w.1 (by omega)⟩⟩
      · rw [if_neg (nI_nle (by omega) (by omega))]
        exact ⟨1, rfl, Or.inl ⟨rfl, by omega, h3⟩⟩
    rw [wl_X2_isPlain_2_s]
    unfold wb_X2_isPlain_2
    by_cases q : p = 24
    · rw [if_pos (show (24 : Int32) ≤ nI p from nI_le (a := 24) (by omega) (by omega)), hx.1]
      exact fin
    · rw [if_neg (show ¬ (24 : Int32) ≤ nI p from nI_ge (b := 24) (by omega) (by decide)), g_let_eq, show fn_X1_has i (nI p) X = 0 by unfold fn_X1_has; rw [if_neg (nI_pos (by omega)), hx.1, if_pos (nI_le (Nat.le_refl p) (by omega))], if_pos rfl, hx.1]
      exact fin
  | succ d ih =>
    intro p f h1 h2 h3
    obtain ⟨f, rfl⟩ : ∃ q, f = q + 1 := ⟨f - 1, by omega⟩
    have hp : p < n := by omega
    obtain ⟨a1, a2, a3, a4⟩ := hx.2 p hp
    have good : (pk (kd p) ∧ (kd p = 7 ∨ kd p = 8 → lw n kd yy p) ∧ (kd p = 9 → nw kd yy p)) → ∃ r, wl_X2_isPlain_2 f i (nI (p + 1)) X = some r ∧ ((r = 1 ∧ pl n kd yy) ∨ (r = 0 ∧ ¬ pl n kd yy)) := fun g => ih (p + 1) f (by omega) (by omega) (fun q hq => by
      by_cases z : q = p
      · subst z; exact g
      · exact h3 q (by omega))
    have bad : ¬ (pk (kd p) ∧ (kd p = 7 ∨ kd p = 8 → lw n kd yy p) ∧ (kd p = 9 → nw kd yy p)) → ∃ r, (some (0 : Int32)) = some r ∧ ((r = 1 ∧ pl n kd yy) ∨ (r = 0 ∧ ¬ pl n kd yy)) := fun g => ⟨0, rfl, Or.inr ⟨rfl, fun w => g (w.2 p hp)⟩⟩
    rw [wl_X2_isPlain_2_s]
    unfold wb_X2_isPlain_2 fn_X2_leapsWell fn_X2_nestsWell
    simp only [if_neg (show ¬ (24 : Int32) ≤ nI p from nI_ge (b := 24) (by omega) (by decide)), g_let_eq, x1_hasq hn hx.1 hp, if_neg one0, if_pos (g_inI (show p < 24 by omega) (by decide)), nI_clamp (show p < 2 ^ 31 by omega), a2, nI_1]
    rcases pk_x a1 with ⟨k1, k2⟩ | ⟨k1, k2⟩
    · simp only [k1, if_neg one0]
      by_cases c7 : kd p = 7 ∨ kd p = 8
      · obtain ⟨y1, y2⟩ := a3 (by omega)
        obtain ⟨r, r1, r2⟩ := xl_loop hn hx hp y2 n 0 1000 (by omega) (by omega) (fun l' h' => absurd h' (Nat.not_lt_zero _))
        have r1' : wl_X2_leapsWell_9 1000 i (nI p) (nI (yy p)) 0 X = some r := r1
        have n9 : ¬ nI (kd p) = 9 := fun w => by have := (nI_eq (b := 9) (by omega) (by decide)).mp w; omega
        simp only [y1, r1', Option.bind_some, if_neg n9]
        rcases r2 with ⟨rfl, hl⟩ | ⟨rfl, hl⟩
        · have g := good ⟨k2, fun _ => hl, fun w => by omega⟩
          simp only [if_neg one0]
          split
          · exact g
          · split
            · exact g
            · rename_i w1 w2
              exfalso
              rcases c7 with e | e
              · exact w1 (by rw [e]; rfl)
              · exact w2 (by rw [e]; rfl)
        · have g := bad (fun w => hl (w.2.1 c7))
          simp only [if_true]
          split
          · exact g
          · split
            · exact g
            · rename_i w1 w2
              exfalso
              rcases c7 with e | e
              · exact w1 (by rw [e]; rfl)
              · exact w2 (by rw [e]; rfl)
      · have n7 : ¬ nI (kd p) = 7 := fun w => by have := (nI_eq (b := 7) (by omega) (by decide)).mp w; omega
        have n8 : ¬ nI (kd p) = 8 := fun w => by have := (nI_eq (b := 8) (by omega) (by decide)).mp w; omega
        simp only [if_neg n7, if_neg n8]
        by_cases c9 : kd p = 9
        · obtain ⟨y1, y2⟩ := a3 (by omega)
          obtain ⟨r, r1, r2⟩ := xn_loop hn hx hp y2 p 0 1000 (by omega) (by omega) (fun l' h' => absurd h' (Nat.not_lt_zero _))
          have r1' : wl_X2_nestsWell_9 1000 i (nI p) (nI (yy p)) 0 X = some r := r1
          simp only [if_pos (show nI (kd p) = 9 by rw [c9]; rfl), y1, r1', Option.bind_some]
          rcases r2 with ⟨rfl, hl⟩ | ⟨rfl, hl⟩
          · simp only [if_neg one0]
            exact good ⟨k2, fun w => absurd w c7, fun _ => hl⟩
          · simp only [if_true]
            exact bad (fun w => hl (w.2.2 c9))
        · simp only [if_neg (show ¬ nI (kd p) = 9 from fun w => c9 ((nI_eq (b := 9) (by omega) (by decide)).mp w))]
          exact good ⟨k2, fun w => absurd w c7, fun w => absurd w c9⟩
    · simp only [k1, if_true]
      exact bad (fun w => k2 w.1)
theorem x_plain {i : Nat} (hn : n ≤ 24) (hx : xcd X i n kd xx yy) : ∃ r, fn_X2_isPlain i X = some r ∧ ((r = 1 ∧ pl n kd yy) ∨ (r = 0 ∧ ¬ pl n kd yy)) := xp_loop hn hx n 0 1000 (by omega) (by omega) (fun q hq => absurd hq (Nat.not_lt_zero _))
end PL
