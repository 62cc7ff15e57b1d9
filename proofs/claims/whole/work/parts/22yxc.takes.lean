/-! bound: the reference counts from the end -/
theorem ul1_at {τ : SL} {j j' : Nat} {v : Int64} : ul1 τ 56 0 j v 56 0 j' = if j' = j then v else τ 56 0 j' := by
  unfold ul1 vp_updL
  rw [ul_eq]
theorem held_at {v : Nat} (h : v < 2 ^ 31) : fn_X12_held (lN v) = lN (mn v) := by
  unfold fn_X12_held mn
  have e : (999999 : Int64) = lN 999999 := rfl
  rw [e]
  by_cases z : v ≤ 999999
  · rw [if_pos z, if_pos ((lg_cmp_le _ _).mpr ((lN_le h (by decide)).mpr z))]
  · rw [if_neg z, if_neg (fun w => z ((lN_le h (by decide)).mp ((lg_cmp_le _ _).mp w)))]
section TF
variable {most : Bool} {n t : Nat} {kd xx yy : Nat → Nat} {M : SM}
def fl (kd yy : Nat → Nat) (p o : Nat) (lo : Option Nat) : Prop := match lo with
  | none => ∀ l, p ≤ l → l < o → kd l = 9 → yy l ≠ p
  | some l => p ≤ l ∧ l < o ∧ kd l = 9 ∧ yy l = p ∧ ∀ l', l < l' → l' < o → kd l' = 9 → yy l' ≠ p
theorem ms_loop {p e : Nat} {x4 : Int32} {τ : SL} (rc : Int32 → Int32 → Int32 → SM → SL → Option (Int64 × SL)) (ht : t < 6) (hn : n ≤ 24) (hc : cd M t n kd xx yy) (he : e ≤ n) (hp : p ≤ 24) : ∀ (d o f : Nat) (lo : Option Nat), o + d = e → d < f → p ≤ o → fl kd yy p o lo → ∃ lo' f1, fl kd yy p e lo' ∧ wl_X12_takesFrom_41 rc f (nI t) (nI p) (nI e) x4 (enc lo) (nI o) M τ = wl_X12_takesFrom_41 rc (f1 + 1) (nI t) (nI p) (nI e) x4 (enc lo') (nI e) M τ := by
  intro d
  induction d with
  | zero =>
    intro o f lo h1 h2 h3 h4
    have : o = e := by omega
    subst this
    exact ⟨lo, f - 1, h4, by rw [show f - 1 + 1 = f by omega]⟩
  | succ d ih =>
    intro o f lo h1 h2 h3 h4
    obtain ⟨f, rfl⟩ : ∃ q, f = q + 1 := ⟨f - 1, by omega⟩
    have ho : o < n := by omega
    obtain ⟨a1, a2, a3, a4⟩ := hc o ho
    have keep : (kd o = 9 → yy o ≠ p) → fl kd yy p (o + 1) lo := by
      intro g
      cases lo with
      | none =>
        intro l l1 l2 l3
        by_cases z : l = o
        · subst z; exact g l3
        · exact h4 l l1 (by omega) l3
      | some l0 =>
        obtain ⟨b1, b2, b3, b4, b5⟩ := h4
        refine ⟨b1, by omega, b3, b4, fun l' l1 l2 l3 => ?_⟩
        by_cases z : l' = o
        · subst z; exact g l3
        · exact b5 l' l1 (by omega) l3
    rw [wl_X12_takesFrom_41_s]
    unfold wb_X12_takesFrom_41
    simp only [if_neg (nI_ge (show o < e by omega) (show e < 2 ^ 31 by omega)), m_part0 ht (show o < 24 by omega), m_part2 ht (show o < 24 by omega), a2, Option.bind_some, g_let_eq, nI_1]
    by_cases z : kd o = 9
    · obtain ⟨y1, y2⟩ := a3 (by omega)
      rw [if_pos (show nI (kd o) = 9 by rw [z]; rfl), y1]
      by_cases y : yy o = p
      · rw [if_pos (by rw [y])]
        exact ih (o + 1) f (some o) (by omega) (by omega) (by omega) ⟨h3, by omega, z, y, fun l' l1 l2 => by omega⟩
      · rw [if_neg (fun w => y ((nI_eq (by omega) (by omega)).mp w))]
        exact ih (o + 1) f lo (by omega) (by omega) (by omega) (keep (fun _ => y))
    · rw [if_neg (show ¬ nI (kd o) = 9 from fun w => z ((nI_eq (b := 9) (by omega) (by decide)).mp w))]
      exact ih (o + 1) f lo (by omega) (by omega) (by omega) (keep (fun w => absurd w z))
def okt (most : Bool) (n : Nat) (kd xx yy : Nat → Nat) (τ : SL) : Prop := ∀ p e, p < e → e ≤ n → τ 56 0 (25 * p + e) = -1 ∨ τ 56 0 (25 * p + e) = lN (mn (dist most kd xx yy p e))
theorem ok_put {p e : Nat} {τ : SL} (hn : n ≤ 24) (h1 : p < e) (h2 : e ≤ n) (h : okt most n kd xx yy τ) : okt most n kd xx yy (ul1 τ 56 0 (25 * p + e) (lN (mn (dist most kd xx yy p e)))) := by
  intro p' e' h1' h2'
  rw [ul1_at]
  by_cases z : 25 * p' + e' = 25 * p + e
  · rw [if_pos z]
    have : p' = p := by omega
    subst this
    have : e' = e := by omega
    subst this
    exact Or.inr rfl
  · rw [if_neg z]
    exact h p' e' h1' h2'
theorem m_247 {p e v : Nat} {τ : SL} (rc : Int32 → Int32 → Int32 → SM → SL → Option (Int64 × SL)) (hn : n ≤ 24) (h1 : p < e) (h2 : e ≤ n) (hv : v < 2 ^ 31) (hd : mn v = mn (dist most kd xx yy p e)) (h : okt most n kd xx yy τ) : ∃ τ', wb_X12_takesFrom_247 rc (nI (25 * p + e)) (lN v) M τ = some (lN (mn (dist most kd xx yy p e)), τ') ∧ okt most n kd xx yy τ' := by
  unfold wb_X12_takesFrom_247
  simp only [g_let_eq, held_at hv, hd, if_pos (g_inI (show 25 * p + e < 625 by omega) (by decide)), nI_clamp (show 25 * p + e < 2 ^ 31 by omega), ul1_at, if_true]
  exact ⟨_, rfl, ok_put hn h1 h2 h⟩
theorem lN_pos {v : Nat} (h : v < 2 ^ 31) : ¬ lN v < 0 := fun w => by
  have := (lN_lt (b := 0) h (by decide)).mp w
  omega
theorem mt (hpl : pl n kd yy) (ht : t < 6) (hn : n ≤ 24) (hc : cd M t n kd xx yy) (hm : M 39 0 20 = if most = true then 1 else 0) : ∀ (dp p e : Nat) (τ : SL), e - p < dp → e ≤ n → p ≤ 24 → (∀ l, p ≤ l → l < e → kd l = 9 → p ≤ yy l) → okt most n kd xx yy τ → ∃ τ', fr_X12_takesFrom dp (nI t) (nI p) (nI e) M τ = some (lN (mn (dist most kd xx yy p e)), τ') ∧ okt most n kd xx yy τ' := by
  intro dp
  induction dp with
  | zero => intro p e τ h1; exact absurd h1 (Nat.not_lt_zero _)
  | succ dp ih =>
    intro p e τ h1 h2 h3 h4 h5
    rw [fr_X12_takesFrom_s]
    unfold fn_X12_takesFrom
    by_cases hpe : p < e
    · have hp : p < n := by omega
      obtain ⟨a1, a2, a3, a4⟩ := hc p hp
      have idx : (25 : Int32) * nI p + nI e = nI (25 * p + e) := by rw [show (25 : Int32) * nI p = nI (25 * p) from ni_mul 25 p, nI_add]
      simp only [if_pos (nI_lt hpe (show e < 2 ^ 31 by omega)), g_let_eq, idx, if_pos (g_inI (show 25 * p + e < 625 by omega) (by decide)), nI_clamp (show 25 * p + e < 2 ^ 31 by omega)]
      rcases h5 p e hpe h2 with z | z
      · simp only [z, if_pos (show lg_cmp (-1) 0 < 0 by decide)]
        obtain ⟨lo, f1, g1, g2⟩ := ms_loop (x4 := nI (25 * p + e)) (τ := τ) (fun x1 x2 x3 M τ => fr_X12_takesFrom dp x1 x2 x3 M τ) ht hn hc h2 h3 (e - p) p 1000 none (by omega) (by omega) (Nat.le_refl p) (fun l l1 l2 => by omega)
        rw [show wl_X12_takesFrom_41 (fun x1 x2 x3 M τ => fr_X12_takesFrom dp x1 x2 x3 M τ) 1000 (nI t) (nI p) (nI e) (nI (25 * p + e)) (-1) (nI p) M τ = _ from g2, wl_X12_takesFrom_41_s]
        unfold wb_X12_takesFrom_41
        cases lo with
        | some l =>
          obtain ⟨b1, b2, b3, b4, b5⟩ := g1
          have hl : l < n := by omega
          obtain ⟨-, -, -, q4⟩ := hc l hl
          obtain ⟨q5, q6, q7⟩ := q4 b3
          obtain ⟨τ1, r1, r2⟩ := ih p l τ (by omega) (by omega) h3 (fun l' l1 l2 l3 => h4 l' l1 (by omega) l3) h5
          obtain ⟨τ2, r3, r4⟩ := ih (l + 1) e τ1 (by omega) h2 (by omega) (fun l' l1 l2 l3 => by
            have w1 := h4 l' (by omega) l2 l3
            have w2 := (hpl.2 l' (by omega)).2.2 l3 l (by omega) b3
            have w3 := b5 l' (by omega) l2 l3
            omega) r2
          have e1 : ¬ enc (some l) < 0 := nI_pos (show l < 2 ^ 31 by omega)
          have e2 : enc (some l) = nI l := rfl
          have hB := mn_le (dist most kd xx yy p l)
          have hD := mn_le (dist most kd xx yy (l + 1) e)
          have hh := mn_le (mn (dist most kd xx yy p l) + 1)
          have hx8 : (xx l + 1) * mn (mn (dist most kd xx yy p l) + 1) ≤ 8 * 999999 := Nat.mul_le_mul (by omega) hh
          rw [e2] at e1
          simp only [if_pos (nI_le (Nat.le_refl e) (show e < 2 ^ 31 by omega)), m_part0 ht (show p < 24 by omega), Option.bind_some, e2, if_neg e1, m_part1 ht (show l < 24 by omega), q7, r1, g_let_eq, lN_1, held_at (show mn (dist most kd xx yy p l) + 1 < 2 ^ 31 by omega), nI_1, nI_l (show xx l + 1 < 2 ^ 31 by omega), lN_mul, held_at (show (xx l + 1) * mn (mn (dist most kd xx yy p l) + 1) < 2 ^ 31 by omega), r3, lN_add]
          refine m_247 _ hn hpe h2 ?_ ?_ r4
          · have := mn_le ((xx l + 1) * mn (mn (dist most kd xx yy p l) + 1))
            omega
          · rw [mn_mul, mn_mn2]
            have hdom := dom most kd xx yy b3 b2 (by omega) (fun q q1 q2 q3 => by
              obtain ⟨w1, w2⟩ := (hpl.2 q (by omega)).2.1 q3
              exact ⟨w1, (w2 l hl b3).1 ⟨q1, by omega⟩⟩) (l - p) p (by omega) (by omega) b1
            have hge := wl_ge most kd xx yy l
            have hw : wl most kd xx yy l = (xx l + 1) * (dist most kd xx yy (yy l) l + 1) - dist most kd xx yy (yy l) l := rfl
            rw [b4] at hge hw
            rw [hdom, hw]
            congr 1
            omega
        | none =>
          have e2 : enc none = -1 := rfl
          simp only [if_pos (nI_le (Nat.le_refl e) (show e < 2 ^ 31 by omega)), m_part0 ht (show p < 24 by omega), Option.bind_some, e2, if_pos (show (-1 : Int32) < 0 by decide), a2, nI_1]
          have hne : ∀ l, p ≤ l → l < e → kd l = 9 → p + 1 ≤ yy l := fun l l1 l2 l3 => by
            have w1 := h4 l l1 l2 l3
            have w2 := g1 l l1 l2 l3
            omega
          have n9 : kd p ≠ 9 := fun w => by
            have w1 := hne p (Nat.le_refl p) hpe w
            have w2 := (a4 w).1
            omega
          have hnx : ∀ τ, okt most n kd xx yy τ → ∃ τ', fr_X12_takesFrom dp (nI t) (nI (p + 1)) (nI e) M τ = some (lN (mn (dist most kd xx yy (p + 1) e)), τ') ∧ okt most n kd xx yy τ' := fun τ hτ => ih (p + 1) e τ (by omega) h2 (by omega) (fun l l1 l2 l3 => hne l (by omega) l2 l3) hτ
          have hjp : kd p = 7 ∨ kd p = 8 → p < yy p ∧ yy p < 24 ∧ M 42 0 (4 * (24 * t + p) + 2) = nI (yy p) ∧ ∀ τ, okt most n kd xx yy τ → ∃ τ', fr_X12_takesFrom dp (nI t) (nI (yy p)) (nI e) M τ = some (lN (mn (dist most kd xx yy (yy p) e)), τ') ∧ okt most n kd xx yy τ' := by
            intro hk
            obtain ⟨y1, y2⟩ := a3 (by omega)
            obtain ⟨w1, w2⟩ := (hpl.2 p hp).2.1 hk
            refine ⟨w1, y2, y1, fun τ hτ => ih (yy p) e τ (by omega) h2 (by omega) (fun l l1 l2 l3 => ?_) hτ⟩
            have w3 := hne l (by omega) l2 l3
            have w4 := (w2 l (by omega) l3).2 (by omega)
            omega
          by_cases c7 : kd p = 7
          · obtain ⟨w1, w2, w3, w4⟩ := hjp (Or.inl c7)
            obtain ⟨τ1, r1, r2⟩ := w4 τ h5
            have hD := mn_le (dist most kd xx yy (yy p) e)
            simp only [if_pos (show nI (kd p) = 7 by rw [c7]; rfl), m_part2 ht (show p < 24 by omega), w3, Option.bind_some, r1, g_let_eq, show (1 : Int64) = lN 1 from rfl, lN_add]
            refine m_247 _ hn hpe h2 (by omega) ?_ r2
            rw [mn_mn', dist_7 most kd xx yy hpe (by omega) c7 w1]
          · by_cases c8 : kd p = 8
            · obtain ⟨w1, w2, w3, w4⟩ := hjp (Or.inr c8)
              obtain ⟨τ1, r1, r2⟩ := w4 τ h5
              obtain ⟨τ2, r3, r4⟩ := hnx τ1 r2
              have hA := mn_le (dist most kd xx yy (yy p) e)
              have hB := mn_le (dist most kd xx yy (p + 1) e)
              have hd8 := dist_8 most kd xx yy hpe (by omega) c8 w1
              have fin : ∀ v, v = opt most (mn (dist most kd xx yy (yy p) e)) (mn (dist most kd xx yy (p + 1) e)) → ∃ τ', wb_X12_takesFrom_247 (fun x1 x2 x3 M τ => fr_X12_takesFrom dp x1 x2 x3 M τ) (nI (25 * p + e)) (lN (1 + v)) M τ2 = some (lN (mn (dist most kd xx yy p e)), τ') ∧ okt most n kd xx yy τ' := by
                intro v hv
                have hv9 : v ≤ 999999 := by
                  rcases opt_or most (mn (dist most kd xx yy (yy p) e)) (mn (dist most kd xx yy (p + 1) e)) with o | o <;> omega
                refine m_247 _ hn hpe h2 (by omega) ?_ r4
                rw [hv, mn_opt, mn_mn', hd8]
              simp only [if_neg (show ¬ nI (kd p) = 7 by rw [c8]; decide), if_pos (show nI (kd p) = 8 by rw [c8]; rfl), m_part2 ht (show p < 24 by omega), w3, Option.bind_some, r1, r3, g_let_eq, show (1 : Int64) = lN 1 from rfl, lN_add, hm]
              generalize mn (dist most kd xx yy (yy p) e) = A at *
              generalize mn (dist most kd xx yy (p + 1) e) = B at *
              by_cases c : A ≤ B
              · rw [if_pos ((lg_cmp_le _ _).mpr ((lN_le (by omega) (by omega)).mpr c))]
                cases most with
                | true =>
                  rw [if_pos rfl, if_neg (show ¬ (0 : Int32) = 1 by decide)]
                  exact fin B (by show B = if B < A then A else B; rw [if_neg (by omega)])
                | false =>
                  rw [if_neg (show ¬ false = true by decide), if_pos rfl]
                  exact fin A (by show A = if B < A then B else A; rw [if_neg (by omega)])
              · rw [if_neg (fun w => c ((lN_le (by omega) (by omega)).mp ((lg_cmp_le _ _).mp w)))]
                cases most with
                | true =>
                  rw [if_pos rfl, if_pos rfl]
                  exact fin A (by show A = if B < A then A else B; rw [if_pos (by omega)])
                | false =>
                  rw [if_neg (show ¬ false = true by decide), if_neg one0]
                  exact fin B (by show B = if B < A then B else A; rw [if_pos (by omega)])
            · obtain ⟨τ1, r1, r2⟩ := hnx τ h5
              have hD := mn_le (dist most kd xx yy (p + 1) e)
              simp only [if_neg (show ¬ nI (kd p) = 7 from fun w => c7 ((nI_eq (b := 7) (by omega) (by decide)).mp w)), if_neg (show ¬ nI (kd p) = 8 from fun w => c8 ((nI_eq (b := 8) (by omega) (by decide)).mp w)), r1, Option.bind_some, g_let_eq, show (1 : Int64) = lN 1 from rfl, lN_add]
              refine m_247 _ hn hpe h2 (by omega) ?_ r2
              rw [mn_mn', dist_o most kd xx yy hpe (by omega) c7 c8 n9]
      · have hD := mn_le (dist most kd xx yy p e)
        simp only [z, if_neg (fun w => lN_pos (show mn (dist most kd xx yy p e) < 2 ^ 31 by omega) ((lg_cmp_lt _ _).mp w))]
        exact ⟨τ, rfl, h5⟩
    · rw [if_neg (nI_nlt (show e ≤ p by omega) (by omega)), dist_ge most kd xx yy (show e ≤ p by omega)]
      exact ⟨τ, rfl, h5⟩
theorem tfill_loop {s : Int32} : ∀ (d k f : Nat) (τ : SL), k + d = 625 → d < f → (∀ j, j < k → τ 56 0 j = -1) → ∃ τ' f1, wl_X12_counted_2 f (nI t) s (nI k) M τ = wl_X12_counted_2 (f1 + 1) (nI t) s 625 M τ' ∧ ∀ j, j < 625 → τ' 56 0 j = -1 := by
  intro d
  induction d with
  | zero =>
    intro k f τ h1 h2 h3
    have : k = 625 := by omega
    subst this
    exact ⟨τ, f - 1, by rw [show f - 1 + 1 = f by omega]; rfl, h3⟩
  | succ d ih =>
    intro k f τ h1 h2 h3
    obtain ⟨f, rfl⟩ : ∃ q, f = q + 1 := ⟨f - 1, by omega⟩
    rw [wl_X12_counted_2_s]
    unfold wb_X12_counted_2
    simp only [if_neg (show ¬ (625 : Int32) ≤ nI k from nI_ge (b := 625) (by omega) (by decide)), if_pos (g_inI (show k < 625 by omega) (by decide)), nI_clamp (show k < 2 ^ 31 by omega), g_let_eq, nI_1]
    refine ih (k + 1) f _ (by omega) (by omega) (fun j hj => ?_)
    rw [ul1_at]
    by_cases z : j = k
    · rw [if_pos z]
    · rw [if_neg z]
      exact h3 j (by omega)
theorem m_counted {τ : SL} (hpl : pl n kd yy) (ht : t < 6) (hn : n ≤ 24) (en : M 43 0 t = nI n) (hc : cd M t n kd xx yy) : ∃ τ', fn_X12_counted (nI t) (if most = true then 1 else 0) M τ = some (nI (mn (dist most kd xx yy 0 n)), u1 M 39 0 20 (if most = true then 1 else 0), τ') := by
  obtain ⟨τ1, f1, g1, g2⟩ := tfill_loop (t := t) (M := M) (s := if most = true then 1 else 0) 625 0 1000 τ (by omega) (by omega) (fun j hj => absurd hj (Nat.not_lt_zero _))
  obtain ⟨τ2, r1, r2⟩ := mt (most := most) (M := u1 M 39 0 20 (if most = true then 1 else 0)) hpl ht hn hc u1_self 30 0 n τ1 (by omega) (Nat.le_refl n) (by omega) (fun l _ _ _ => Nat.zero_le _) (fun p e h1 h2 => Or.inl (g2 _ (by omega)))
  refine ⟨τ2, ?_⟩
  unfold fn_X12_counted
  rw [show wl_X12_counted_2 1000 (nI t) (if most = true then 1 else 0) 0 M τ = _ from g1, wl_X12_counted_2_s]
  unfold wb_X12_counted_2
  have en' : u1 M 39 0 20 (if most = true then 1 else 0) 43 0 t = nI n := en
  have r1' : fr_X12_takesFrom 30 (nI t) 0 (nI n) (u1 M 39 0 20 (if most = true then 1 else 0)) τ1 = some (lN (mn (dist most kd xx yy 0 n)), τ2) := r1
  have h01 : (if most = true then (1 : Int32) else 0) = 0 ∨ (if most = true then (1 : Int32) else 0) = 1 := by cases most <;> decide
  rw [if_pos (show (625 : Int32) ≤ 625 by decide), if_pos h01, g_let_eq, if_pos (in6 ht), cl6 ht, en', r1']
  simp only [Option.bind_some, lN_i]
end TF
