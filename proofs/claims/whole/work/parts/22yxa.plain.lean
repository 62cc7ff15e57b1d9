/-! bound: whether a code is plain, the reference's side -/
section PM
variable {t n p : Nat} {kd xx yy : Nat → Nat} {M : SM}
theorem m_fine {l : Nat} (ht : t < 6) (hn : n ≤ 24) (hc : cd M t n kd xx yy) (hl : l < n) (hk : kd l = 9) (hp : p < n) (hyp : yy p < 24) : (fn_X12_isFine (nI t) (nI p) (nI (yy p)) (nI l) M = some 1 ∧ gl yy p l) ∨ (fn_X12_isFine (nI t) (nI p) (nI (yy p)) (nI l) M = some 0 ∧ ¬ gl yy p l) := by
  obtain ⟨a1, a2, a3, a4⟩ := hc l hl
  obtain ⟨y1, y2⟩ := a3 (by omega)
  unfold fn_X12_isFine fn_X12_isInLoop
  simp only [m_part2 ht (show l < 24 by omega), y1, Option.bind_some]
  by_cases c1 : p < yy l
  · simp only [if_pos (nI_lt c1 (show yy l < 2 ^ 31 by omega)), Option.bind_some, if_true]
    by_cases c2 : yy p < yy l
    · simp only [if_pos (nI_lt c2 (show yy l < 2 ^ 31 by omega)), Option.bind_some, if_true]
      exact Or.inl ⟨trivial, fun w => by omega, fun w => by omega⟩
    · simp only [if_neg (nI_nlt (show yy l ≤ yy p by omega) (show yy p < 2 ^ 31 by omega))]
      by_cases c3 : l < yy p
      · simp only [if_pos (nI_lt c3 (show yy p < 2 ^ 31 by omega)), Option.bind_some, if_true]
        exact Or.inl ⟨trivial, fun w => by omega, fun w => by omega⟩
      · simp only [if_neg (nI_nlt (show yy p ≤ l by omega) (show l < 2 ^ 31 by omega)), Option.bind_some, if_neg one0]
        by_cases c4 : yy p = yy l
        · rw [if_pos (by rw [c4])]
          exact Or.inl ⟨rfl, fun w => by omega, fun w => by omega⟩
        · rw [if_neg (fun w => c4 ((nI_eq (by omega) (by omega)).mp w))]
          exact Or.inr ⟨rfl, fun w => w.2 (by omega) (by omega)⟩
  · simp only [if_neg (nI_nlt (show yy l ≤ p by omega) (show p < 2 ^ 31 by omega))]
    by_cases c5 : l < p
    · simp only [if_pos (nI_lt c5 (show p < 2 ^ 31 by omega)), Option.bind_some, if_true]
      by_cases c2 : yy p < yy l
      · simp only [if_pos (nI_lt c2 (show yy l < 2 ^ 31 by omega)), Option.bind_some, if_true]
        exact Or.inl ⟨trivial, fun w => by omega, fun w => by omega⟩
      · simp only [if_neg (nI_nlt (show yy l ≤ yy p by omega) (show yy p < 2 ^ 31 by omega))]
        by_cases c3 : l < yy p
        · simp only [if_pos (nI_lt c3 (show yy p < 2 ^ 31 by omega)), Option.bind_some, if_true]
          exact Or.inl ⟨trivial, fun w => by omega, fun w => by omega⟩
        · simp only [if_neg (nI_nlt (show yy p ≤ l by omega) (show l < 2 ^ 31 by omega)), Option.bind_some, if_neg one0]
          by_cases c4 : yy p = yy l
          · rw [if_pos (by rw [c4])]
            exact Or.inl ⟨rfl, fun w => by omega, fun w => by omega⟩
          · rw [if_neg (fun w => c4 ((nI_eq (by omega) (by omega)).mp w))]
            exact Or.inr ⟨rfl, fun w => w.2 (by omega) (by omega)⟩
    · simp only [if_neg (nI_nlt (show p ≤ l by omega) (show l < 2 ^ 31 by omega)), Option.bind_some, if_neg one0]
      by_cases c6 : l < yy p
      · rw [if_pos (nI_lt c6 (by omega))]
        exact Or.inr ⟨rfl, fun w => by have := w.1 (by omega); omega⟩
      · rw [if_neg (nI_nlt (by omega) (by omega))]
        exact Or.inl ⟨rfl, fun w => by omega, fun w => by omega⟩
theorem mj_loop (k2 : Int32 → Int32 → SM → Option Int32) (ht : t < 6) (hn : n ≤ 24) (en : M 43 0 t = nI n) (hc : cd M t n kd xx yy) (hp : p < n) (hk : kd p = 7 ∨ kd p = 8) (hyp : yy p < 24) : ∀ (d o f : Nat), o + d = n → d < f → (wl_X12_isPlain_96 k2 f (nI t) (nI p) (nI (kd p)) (nI (yy p)) 1 (nI o) M = k2 (nI t) (nI (p + 1)) M ∧ ∀ l, o ≤ l → l < n → kd l = 9 → gl yy p l) ∨ (wl_X12_isPlain_96 k2 f (nI t) (nI p) (nI (kd p)) (nI (yy p)) 1 (nI o) M = some 0 ∧ ∃ l, l < n ∧ kd l = 9 ∧ ¬ gl yy p l) := by
  intro d
  induction d with
  | zero =>
    intro o f h1 h2
    obtain ⟨f, rfl⟩ : ∃ q, f = q + 1 := ⟨f - 1, by omega⟩
    have : o = n := by omega
    subst this
    rw [wl_X12_isPlain_96_s]
    unfold wb_X12_isPlain_96
    simp only [if_pos (in6 ht), cl6 ht, en, if_pos (nI_le (Nat.le_refl o) (show o < 2 ^ 31 by omega)), g_let_eq, nI_1]
    exact Or.inl ⟨trivial, fun l h1 h2 => by omega⟩
  | succ d ih =>
    intro o f h1 h2
    obtain ⟨f, rfl⟩ : ∃ q, f = q + 1 := ⟨f - 1, by omega⟩
    have ho : o < n := by omega
    obtain ⟨a1, a2, a3, a4⟩ := hc o ho
    have n9 : ¬ nI (kd p) = 9 := fun w => by have := (nI_eq (b := 9) (by omega) (by decide)).mp w; omega
    have hnext := ih (o + 1) f (by omega) (by omega)
    rw [wl_X12_isPlain_96_s]
    unfold wb_X12_isPlain_96
    simp only [if_pos (in6 ht), cl6 ht, en, if_neg (nI_ge ho (show n < 2 ^ 31 by omega)), m_part0 ht (show o < 24 by omega), a2, Option.bind_some, if_neg one0, if_neg n9, g_let_eq, nI_1]
    by_cases z : kd o = 9
    · rw [if_pos (show nI (kd o) = 9 by rw [z]; rfl)]
      rcases m_fine ht hn hc ho z hp hyp with ⟨g1, g2⟩ | ⟨g1, g2⟩
      · simp only [g1, Option.bind_some, if_neg one0]
        rcases hnext with ⟨b1, b2⟩ | b
        · refine Or.inl ⟨b1, fun l h1 h2 h3 => ?_⟩
          by_cases y : l = o
          · subst y; exact g2
          · exact b2 l (by omega) h2 h3
        · exact Or.inr b
      · simp only [g1, Option.bind_some, if_true]
        exact Or.inr ⟨trivial, o, ho, z, g2⟩
    · rw [if_neg (show ¬ nI (kd o) = 9 from fun w => z ((nI_eq (b := 9) (by omega) (by decide)).mp w))]
      rcases hnext with ⟨b1, b2⟩ | b
      · refine Or.inl ⟨b1, fun l h1 h2 h3 => ?_⟩
        by_cases y : l = o
        · subst y; exact absurd h3 z
        · exact b2 l (by omega) h2 h3
      · exact Or.inr b
theorem mo_loop (k2 : Int32 → Int32 → SM → Option Int32) (y32 : Int32) (ht : t < 6) (hn : n ≤ 24) (en : M 43 0 t = nI n) (hc : cd M t n kd xx yy) (hp : p < n) (hy : kd p = 9 → y32 = nI (yy p) ∧ yy p < 24) : ∀ (d o f : Nat), o + d = n → d < f → (wl_X12_isPlain_96 k2 f (nI t) (nI p) (nI (kd p)) y32 0 (nI o) M = k2 (nI t) (nI (p + 1)) M ∧ (kd p = 9 → ∀ l, o ≤ l → l < p → kd l = 9 → ¬ (yy l < yy p ∧ yy p ≤ l))) ∨ (wl_X12_isPlain_96 k2 f (nI t) (nI p) (nI (kd p)) y32 0 (nI o) M = some 0 ∧ kd p = 9 ∧ ∃ l, l < p ∧ kd l = 9 ∧ yy l < yy p ∧ yy p ≤ l) := by
  intro d
  induction d with
  | zero =>
    intro o f h1 h2
    obtain ⟨f, rfl⟩ : ∃ q, f = q + 1 := ⟨f - 1, by omega⟩
    have : o = n := by omega
    subst this
    rw [wl_X12_isPlain_96_s]
    unfold wb_X12_isPlain_96
    simp only [if_pos (in6 ht), cl6 ht, en, if_pos (nI_le (Nat.le_refl o) (show o < 2 ^ 31 by omega)), g_let_eq, nI_1]
    exact Or.inl ⟨trivial, fun _ l h1 h2 => by omega⟩
  | succ d ih =>
    intro o f h1 h2
    obtain ⟨f, rfl⟩ : ∃ q, f = q + 1 := ⟨f - 1, by omega⟩
    have ho : o < n := by omega
    obtain ⟨a1, a2, a3, a4⟩ := hc o ho
    have kp := (hc p hp).1
    have hnext := ih (o + 1) f (by omega) (by omega)
    have go : (kd p = 9 → o < p → kd o = 9 → ¬ (yy o < yy p ∧ yy p ≤ o)) → (wl_X12_isPlain_96 k2 f (nI t) (nI p) (nI (kd p)) y32 0 (nI (o + 1)) M = k2 (nI t) (nI (p + 1)) M ∧ (kd p = 9 → ∀ l, o ≤ l → l < p → kd l = 9 → ¬ (yy l < yy p ∧ yy p ≤ l))) ∨ (wl_X12_isPlain_96 k2 f (nI t) (nI p) (nI (kd p)) y32 0 (nI (o + 1)) M = some 0 ∧ kd p = 9 ∧ ∃ l, l < p ∧ kd l = 9 ∧ yy l < yy p ∧ yy p ≤ l) := by
      intro g
      rcases hnext with ⟨b1, b2⟩ | b
      · refine Or.inl ⟨b1, fun h9 l h1 h2 h3 => ?_⟩
        by_cases y : l = o
        · subst y; exact g h9 h2 h3
        · exact b2 h9 l (by omega) h2 h3
      · exact Or.inr b
    rw [wl_X12_isPlain_96_s]
    unfold wb_X12_isPlain_96
    simp only [if_pos (in6 ht), cl6 ht, en, if_neg (nI_ge ho (show n < 2 ^ 31 by omega)), m_part0 ht (show o < 24 by omega), m_part2 ht (show o < 24 by omega), a2, Option.bind_some, if_true, g_let_eq, nI_1]
    by_cases z : kd o = 9
    · rw [if_pos (show nI (kd o) = 9 by rw [z]; rfl)]
      by_cases h9 : kd p = 9
      · obtain ⟨y1, y2⟩ := a3 (by omega)
        obtain ⟨y3, y4⟩ := hy h9
        rw [if_pos (show nI (kd p) = 9 by rw [h9]; rfl)]
        by_cases c1 : p ≤ o
        · rw [if_pos (nI_le c1 (by omega))]
          exact go (fun _ w => by omega)
        · rw [if_neg (nI_ge (by omega) (by omega)), y1]
          simp only [y3] at go ⊢
          by_cases c2 : yy p ≤ yy o
          · rw [if_pos (nI_le c2 (by omega))]
            exact go (fun _ _ _ w => by omega)
          · rw [if_neg (nI_ge (by omega) (by omega))]
            by_cases c3 : o < yy p
            · rw [if_pos (nI_lt c3 (by omega))]
              exact go (fun _ _ _ w => by omega)
            · rw [if_neg (nI_nlt (by omega) (by omega))]
              exact Or.inr ⟨rfl, h9, o, by omega, z, by omega, by omega⟩
      · rw [if_neg (show ¬ nI (kd p) = 9 from fun w => h9 ((nI_eq (b := 9) (by omega) (by decide)).mp w))]
        exact go (fun w => absurd w h9)
    · rw [if_neg (show ¬ nI (kd o) = 9 from fun w => z ((nI_eq (b := 9) (by omega) (by decide)).mp w))]
      exact go (fun _ _ w => absurd w z)
theorem mp_loop (ht : t < 6) (hn : n ≤ 24) (en : M 43 0 t = nI n) (hc : cd M t n kd xx yy) : ∀ (d p f : Nat), p + d = n → d < f → (∀ q, q < p → pk (kd q) ∧ (kd q = 7 ∨ kd q = 8 → lw n kd yy q) ∧ (kd q = 9 → nw kd yy q)) → ∃ r, wl_X12_isPlain_2 f (nI t) (nI p) M = some r ∧ ((r = 1 ∧ pl n kd yy) ∨ (r = 0 ∧ ¬ pl n kd yy)) := by
  intro d
  induction d with
  | zero =>
    intro p f h1 h2 h3
    obtain ⟨f, rfl⟩ : ∃ q, f = q + 1 := ⟨f - 1, by omega⟩
    have : p = n := by omega
    subst this
    rw [wl_X12_isPlain_2_s]
    unfold wb_X12_isPlain_2
    simp only [if_pos (in6 ht), cl6 ht, en, if_pos (nI_le (Nat.le_refl p) (show p < 2 ^ 31 by omega))]
    by_cases z : p = 0
    · subst z
      exact ⟨0, rfl, Or.inr ⟨rfl, fun w => absurd w.1 (by omega)⟩⟩
    · rw [if_neg (nI_nle (by omega) (by omega))]
      exact ⟨1, rfl, Or.inl ⟨rfl, by omega, h3⟩⟩
  | succ d ih =>
    intro p f h1 h2 h3
    obtain ⟨f, rfl⟩ : ∃ q, f = q + 1 := ⟨f - 1, by omega⟩
    have hp : p < n := by omega
    obtain ⟨a1, a2, a3, a4⟩ := hc p hp
    have good : (pk (kd p) ∧ (kd p = 7 ∨ kd p = 8 → lw n kd yy p) ∧ (kd p = 9 → nw kd yy p)) → ∃ r, wl_X12_isPlain_2 f (nI t) (nI (p + 1)) M = some r ∧ ((r = 1 ∧ pl n kd yy) ∨ (r = 0 ∧ ¬ pl n kd yy)) := fun g => ih (p + 1) f (by omega) (by omega) (fun q hq => by
      by_cases z : q = p
      · subst z; exact g
      · exact h3 q (by omega))
    have bad : ¬ (pk (kd p) ∧ (kd p = 7 ∨ kd p = 8 → lw n kd yy p) ∧ (kd p = 9 → nw kd yy p)) → ∃ r, (some (0 : Int32)) = some r ∧ ((r = 1 ∧ pl n kd yy) ∨ (r = 0 ∧ ¬ pl n kd yy)) := fun g => ⟨0, rfl, Or.inr ⟨rfl, fun w => g (w.2 p hp)⟩⟩
    have body : pk (kd p) → ∃ r, wb_X12_isPlain_61 (fun x1 x2 M => wl_X12_isPlain_2 f x1 x2 M) (nI t) (nI p) (nI (kd p)) (M 42 0 (4 * (24 * t + p) + 2)) M = some r ∧ ((r = 1 ∧ pl n kd yy) ∨ (r = 0 ∧ ¬ pl n kd yy)) := by
      intro hpk
      unfold wb_X12_isPlain_61
      by_cases c7 : kd p = 7 ∨ kd p = 8
      · obtain ⟨y1, y2⟩ := a3 (by omega)
        rw [y1]
        have j : ∃ r, (if nI p < nI (yy p) then wl_X12_isPlain_96 (fun x1 x2 M => wl_X12_isPlain_2 f x1 x2 M) 1000 (nI t) (nI p) (nI (kd p)) (nI (yy p)) 1 0 M else some 0) = some r ∧ ((r = 1 ∧ pl n kd yy) ∨ (r = 0 ∧ ¬ pl n kd yy)) := by
          by_cases c1 : p < yy p
          · rw [if_pos (nI_lt c1 (by omega))]
            rcases mj_loop (fun x1 x2 M => wl_X12_isPlain_2 f x1 x2 M) ht hn en hc hp c7 y2 n 0 1000 (by omega) (by omega) with ⟨b1, b2⟩ | ⟨b1, l, b2, b3, b4⟩
            · rw [show wl_X12_isPlain_96 (fun x1 x2 M => wl_X12_isPlain_2 f x1 x2 M) 1000 (nI t) (nI p) (nI (kd p)) (nI (yy p)) 1 0 M = _ from b1]
              exact good ⟨hpk, fun _ => ⟨c1, fun l h1 h2 => b2 l (by omega) h1 h2⟩, fun w => by omega⟩
            · rw [show wl_X12_isPlain_96 (fun x1 x2 M => wl_X12_isPlain_2 f x1 x2 M) 1000 (nI t) (nI p) (nI (kd p)) (nI (yy p)) 1 0 M = _ from b1]
              exact bad (fun w => b4 ((w.2.1 c7).2 l b2 b3))
          · rw [if_neg (nI_nlt (by omega) (by omega))]
            exact bad (fun w => c1 (w.2.1 c7).1)
        by_cases c : kd p = 7
        · rw [if_pos (show nI (kd p) = 7 by rw [c]; rfl)]
          exact j
        · rw [if_neg (show ¬ nI (kd p) = 7 from fun w => c ((nI_eq (b := 7) (by omega) (by decide)).mp w)), if_pos (show nI (kd p) = 8 by rw [c7.resolve_left c]; rfl)]
          exact j
      · have n7 : ¬ nI (kd p) = 7 := fun w => by have := (nI_eq (b := 7) (by omega) (by decide)).mp w; omega
        have n8 : ¬ nI (kd p) = 8 := fun w => by have := (nI_eq (b := 8) (by omega) (by decide)).mp w; omega
        rw [if_neg n7, if_neg n8]
        rcases mo_loop (fun x1 x2 M => wl_X12_isPlain_2 f x1 x2 M) (M 42 0 (4 * (24 * t + p) + 2)) ht hn en hc hp (fun w => a3 (by omega)) n 0 1000 (by omega) (by omega) with ⟨b1, b2⟩ | ⟨b1, b2, l, b3, b4, b5, b6⟩
        · rw [show wl_X12_isPlain_96 (fun x1 x2 M => wl_X12_isPlain_2 f x1 x2 M) 1000 (nI t) (nI p) (nI (kd p)) (M 42 0 (4 * (24 * t + p) + 2)) 0 0 M = _ from b1]
          exact good ⟨hpk, fun w => absurd w c7, fun w o h1 h2 => b2 w o (by omega) h1 h2⟩
        · rw [show wl_X12_isPlain_96 (fun x1 x2 M => wl_X12_isPlain_2 f x1 x2 M) 1000 (nI t) (nI p) (nI (kd p)) (M 42 0 (4 * (24 * t + p) + 2)) 0 0 M = _ from b1]
          exact bad (fun w => w.2.2 b2 l b3 b4 ⟨b5, b6⟩)
    rw [wl_X12_isPlain_2_s]
    unfold wb_X12_isPlain_2
    simp only [if_pos (in6 ht), cl6 ht, en, if_neg (nI_ge hp (show n < 2 ^ 31 by omega)), m_part0 ht (show p < 24 by omega), m_part2 ht (show p < 24 by omega), a2, Option.bind_some]
    generalize hkk : kd p = k at *
    have bad' : ¬ pk k → ∃ r, (some (0 : Int32)) = some r ∧ ((r = 1 ∧ pl n kd yy) ∨ (r = 0 ∧ ¬ pl n kd yy)) := fun w => bad (fun w' => w w'.1)
    rcases k21 a1 with rfl | rfl | rfl | rfl | rfl | rfl | rfl | rfl | rfl | rfl | rfl | rfl | rfl | rfl | rfl | rfl | rfl | rfl | rfl | rfl | rfl
    · exact body (by unfold pk; omega)
    · exact body (by unfold pk; omega)
    · exact body (by unfold pk; omega)
    · exact body (by unfold pk; omega)
    · exact body (by unfold pk; omega)
    · exact body (by unfold pk; omega)
    · exact body (by unfold pk; omega)
    · exact body (by unfold pk; omega)
    · exact body (by unfold pk; omega)
    · exact body (by unfold pk; omega)
    · exact body (by unfold pk; omega)
    · exact bad' (by unfold pk; omega)
    · exact body (by unfold pk; omega)
    · exact bad' (by unfold pk; omega)
    · exact bad' (by unfold pk; omega)
    · exact body (by unfold pk; omega)
    · exact bad' (by unfold pk; omega)
    · exact bad' (by unfold pk; omega)
    · exact bad' (by unfold pk; omega)
    · exact body (by unfold pk; omega)
    · exact body (by unfold pk; omega)
theorem m_plain (ht : t < 6) (hn : n ≤ 24) (en : M 43 0 t = nI n) (hc : cd M t n kd xx yy) : ∃ r, fn_X12_isPlain (nI t) M = some r ∧ ((r = 1 ∧ pl n kd yy) ∨ (r = 0 ∧ ¬ pl n kd yy)) := mp_loop ht hn en hc n 0 1000 (by omega) (by omega) (fun q hq => absurd hq (Nat.not_lt_zero _))
end PM
