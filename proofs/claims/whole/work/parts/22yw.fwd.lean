/-! bound: the way of the class, from the first place on -/
def up (most : Bool) (rv : Nat → Option Nat) (q c : Nat) : Nat → Option Nat := fun i => if i = q then (match rv q with
  | none => some (mn c)
  | some b => some (opt most (mn c) b)) else rv i
section FW
variable (most : Bool) (kd xx yy : Nat → Nat)
def Bd (rv : Nat → Option Nat) (p f v e : Nat) : Prop := ∀ q w, p ≤ q → q ≤ e → rv q = some w → bt most (mn (v + dist most kd xx yy f e)) (mn (w + dist most kd xx yy q e))
def Ex (rv : Nat → Option Nat) (p f v e : Nat) : Prop := ∃ q w, p ≤ q ∧ q ≤ e ∧ rv q = some w ∧ mn (w + dist most kd xx yy q e) = mn (v + dist most kd xx yy f e)
theorem up_o {most : Bool} {rv : Nat → Option Nat} {q c i : Nat} (h : i ≠ q) : up most rv q c i = rv i := if_neg h
theorem up_q {most : Bool} {rv : Nat → Option Nat} {q c : Nat} : ∃ z, up most rv q c q = some z ∧ (z = mn c ∨ rv q = some z) ∧ bt most z (mn c) ∧ ∀ b, rv q = some b → bt most z b := by
  unfold up
  rw [if_pos rfl]
  cases h : rv q with
  | none => exact ⟨_, rfl, Or.inl rfl, bt_rfl _ _, fun b e => by cases e⟩
  | some b =>
    refine ⟨_, rfl, ?_, opt_bt1 _ _ _, fun b' e => by cases e; exact opt_bt2 _ _ _⟩
    rcases opt_or most (mn c) b with e | e
    · exact Or.inl e
    · exact Or.inr (by rw [e])
variable {most kd xx yy} {rv : Nat → Option Nat} {p f v e : Nat}
theorem Bd_up {q c : Nat} (hB : Bd most kd xx yy rv p f v e) (hc : p ≤ q → q ≤ e → bt most (mn (v + dist most kd xx yy f e)) (mn (c + dist most kd xx yy q e))) : Bd most kd xx yy (up most rv q c) p f v e := by
  intro i w h1 h2 h3
  by_cases z : i = q
  · subst z
    obtain ⟨z, e1, e2, -, -⟩ := up_q (most := most) (rv := rv) (q := i) (c := c)
    rw [e1] at h3
    cases h3
    rcases e2 with rfl | e2
    · rw [mn_mn]
      exact hc h1 h2
    · exact hB i _ h1 h2 e2
  · rw [up_o z] at h3
    exact hB i w h1 h2 h3
theorem Ex_up {q c : Nat} (hE : Ex most kd xx yy rv p f v e) (hB : Bd most kd xx yy (up most rv q c) p f v e) : Ex most kd xx yy (up most rv q c) p f v e := by
  obtain ⟨i, w, h1, h2, h3, h4⟩ := hE
  by_cases z : i = q
  · subst z
    obtain ⟨z, e1, -, -, e2⟩ := up_q (most := most) (rv := rv) (q := i) (c := c)
    refine ⟨i, z, h1, h2, e1, bt_anti ?_ (hB i z h1 h2 e1)⟩
    rw [← h4]
    exact bt_mn _ (e2 w h3)
  · exact ⟨i, w, h1, h2, (up_o z).trans h3, h4⟩
theorem Ex_new {q c : Nat} (h1 : p ≤ q) (h2 : q ≤ e) (hc : mn (c + dist most kd xx yy q e) = mn (v + dist most kd xx yy f e)) (hB : Bd most kd xx yy (up most rv q c) p f v e) : Ex most kd xx yy (up most rv q c) p f v e := by
  obtain ⟨z, e1, -, e2, -⟩ := up_q (most := most) (rv := rv) (q := q) (c := c)
  refine ⟨q, z, h1, h2, e1, bt_anti ?_ (hB q z h1 h2 e1)⟩
  rw [← hc, ← mn_mn c]
  exact bt_mn _ e2
theorem Bd_1 (hB : Bd most kd xx yy rv p f v e) : Bd most kd xx yy rv (p + 1) f v e := fun q w h1 h2 h3 => hB q w (by omega) h2 h3
theorem Ex_1 {u : Nat} (hu : rv p = some u) (hE : Ex most kd xx yy rv p f v e) : Ex most kd xx yy rv (p + 1) f v e ∨ mn (u + dist most kd xx yy p e) = mn (v + dist most kd xx yy f e) := by
  obtain ⟨i, w, h1, h2, h3, h4⟩ := hE
  by_cases z : i = p
  · subst z
    rw [hu] at h3
    cases h3
    exact Or.inr h4
  · exact Or.inl ⟨i, w, by omega, h2, h3, h4⟩
/-- a region's bound and its witness -/
def In (most : Bool) (kd xx yy : Nat → Nat) (rv : Nat → Option Nat) (p f v e : Nat) : Prop := Bd most kd xx yy rv p f v e ∧ Ex most kd xx yy rv p f v e
theorem In_skip (hu : rv p = none) (h : In most kd xx yy rv p f v e) : In most kd xx yy rv (p + 1) f v e := by
  obtain ⟨i, w, h1, h2, h3, h4⟩ := h.2
  have z : i ≠ p := fun z => by subst z; rw [hu] at h3; cases h3
  exact ⟨Bd_1 h.1, i, w, by omega, h2, h3, h4⟩
theorem In_1 {q c u : Nat} (hu : rv p = some u) (hp : p ≤ e) (h1 : p < q) (h2 : q ≤ e) (hc : mn (c + dist most kd xx yy q e) = mn (u + dist most kd xx yy p e)) (h : In most kd xx yy rv p f v e) : In most kd xx yy (up most rv q c) (p + 1) f v e := by
  have hB : Bd most kd xx yy (up most rv q c) (p + 1) f v e := Bd_up (Bd_1 h.1) (fun _ _ => by rw [hc]; exact h.1 p u (Nat.le_refl p) hp hu)
  refine ⟨hB, ?_⟩
  rcases Ex_1 hu h.2 with g | g
  · exact Ex_up g hB
  · exact Ex_new (by omega) h2 (hc.trans g) hB
theorem In_2 {q1 q2 c u : Nat} (hu : rv p = some u) (hp : p ≤ e) (h1 : p < q1) (h2 : q1 ≤ e) (h3 : p < q2) (h4 : q2 ≤ e) (hc : mn (u + dist most kd xx yy p e) = mn (c + opt most (dist most kd xx yy q2 e) (dist most kd xx yy q1 e))) (h : In most kd xx yy rv p f v e) : In most kd xx yy (up most (up most rv q1 c) q2 c) (p + 1) f v e := by
  have b0 := h.1 p u (Nat.le_refl p) hp hu
  rw [hc, Nat.add_comm c] at b0
  have b1 : bt most (mn (v + dist most kd xx yy f e)) (mn (c + dist most kd xx yy q1 e)) := bt_tr b0 (by rw [Nat.add_comm c]; exact bt_mn c (opt_bt2 _ _ _))
  have b2 : bt most (mn (v + dist most kd xx yy f e)) (mn (c + dist most kd xx yy q2 e)) := bt_tr b0 (by rw [Nat.add_comm c]; exact bt_mn c (opt_bt1 _ _ _))
  have hB1 : Bd most kd xx yy (up most rv q1 c) (p + 1) f v e := Bd_up (Bd_1 h.1) (fun _ _ => b1)
  have hB2 : Bd most kd xx yy (up most (up most rv q1 c) q2 c) (p + 1) f v e := Bd_up hB1 (fun _ _ => b2)
  refine ⟨hB2, ?_⟩
  rcases Ex_1 hu h.2 with g | g
  · exact Ex_up (Ex_up g hB1) hB2
  · rw [hc] at g
    rcases opt_or most (dist most kd xx yy q2 e) (dist most kd xx yy q1 e) with o | o
    · rw [o] at g
      exact Ex_new (by omega) h4 g hB2
    · rw [o] at g
      exact Ex_up (Ex_new (by omega) h2 g hB1) hB2
end FW
/-- a code is plain: what its jumps and loops keep -/
def lw (n : Nat) (kd yy : Nat → Nat) (p : Nat) : Prop := p < yy p ∧ ∀ l, l < n → kd l = 9 → (yy l ≤ p ∧ p ≤ l → yy p ≤ l) ∧ (¬ (yy l ≤ p ∧ p ≤ l) → ¬ (yy l < yy p ∧ yy p ≤ l))
def nw (kd yy : Nat → Nat) (p : Nat) : Prop := ∀ o, o < p → kd o = 9 → ¬ (yy o < yy p ∧ yy p ≤ o)
def pk (k : Nat) : Prop := k ≤ 10 ∨ k = 12 ∨ k = 15 ∨ k = 19 ∨ k = 20
def pl (n : Nat) (kd yy : Nat → Nat) : Prop := 0 < n ∧ ∀ p, p < n → pk (kd p) ∧ (kd p = 7 ∨ kd p = 8 → lw n kd yy p) ∧ (kd p = 9 → nw kd yy p)
def Rg (most : Bool) (kd xx yy : Nat → Nat) (rv : Nat → Option Nat) (p l : Nat) : Prop := (p ≤ yy l ∧ ∀ q, yy l < q → q ≤ l → rv q = none) ∨ (yy l < p ∧ rv (yy l) = none ∧ ∀ q, yy l < q → q ≤ l → rv q = none) ∨ (yy l < p ∧ ∃ v, rv (yy l) = some v ∧ In most kd xx yy rv p (yy l) v l)
def Gi (most : Bool) (n : Nat) (kd xx yy : Nat → Nat) (rv : Nat → Option Nat) (p : Nat) : Prop := (∀ q v, rv q = some v → v ≤ 999999) ∧ In most kd xx yy rv p 0 0 n ∧ ∀ l, l < n → kd l = 9 → p ≤ l → Rg most kd xx yy rv p l
section GI
variable {most : Bool} {n : Nat} {kd xx yy : Nat → Nat} {rv rv' : Nat → Option Nat} {p u : Nat}
theorem Gi_skip (h : Gi most n kd xx yy rv p) (hu : rv p = none) : Gi most n kd xx yy rv (p + 1) := by
  refine ⟨h.1, In_skip hu h.2.1, fun l hl hk hp => ?_⟩
  rcases h.2.2 l hl hk (by omega) with ⟨a1, a2⟩ | ⟨a1, a2, a3⟩ | ⟨a1, v, a2, a3⟩
  · by_cases z : p = yy l
    · exact Or.inr (Or.inl ⟨by omega, by rw [← z]; exact hu, a2⟩)
    · exact Or.inl ⟨by omega, a2⟩
  · exact Or.inr (Or.inl ⟨by omega, a2, a3⟩)
  · exact Or.inr (Or.inr ⟨by omega, v, a2, In_skip hu a3⟩)
/-- a step, given what it does to each region and to the cells ahead of it -/
theorem Gi_step (h : Gi most n kd xx yy rv p) (hu : rv p = some u) (hcap : ∀ q v, rv' q = some v → v ≤ 999999) (hlow : ∀ q, q ≤ p → rv' q = rv q) (hout : ∀ l, l < n → kd l = 9 → p < yy l → ∀ q, yy l < q → q ≤ l → rv' q = rv q) (hin : ∀ f v e, (e = n ∨ (e < n ∧ kd e = 9 ∧ yy e ≤ p ∧ p < e)) → In most kd xx yy rv p f v e → In most kd xx yy rv' (p + 1) f v e) : Gi most n kd xx yy rv' (p + 1) := by
  refine ⟨hcap, hin _ _ _ (Or.inl rfl) h.2.1, fun l hl hk hp => ?_⟩
  rcases h.2.2 l hl hk (by omega) with ⟨a1, a2⟩ | ⟨a1, a2, a3⟩ | ⟨a1, v, a2, a3⟩
  · by_cases z : p = yy l
    · refine Or.inr (Or.inr ⟨by omega, u, ?_, hin _ _ _ (Or.inr ⟨hl, hk, by omega, by omega⟩) ⟨fun q w h1 h2 h3 => ?_, p, u, Nat.le_refl p, by omega, hu, ?_⟩⟩)
      · rw [hlow _ (by omega), ← z]; exact hu
      · by_cases y : q = p
        · subst y
          rw [hu] at h3
          cases h3
          rw [← z]
          exact bt_rfl _ _
        · rw [a2 q (by omega) h2] at h3
          cases h3
      · rw [← z]
    · exact Or.inl ⟨by omega, fun q h1 h2 => (hout l hl hk (by omega) q h1 h2).trans (a2 q h1 h2)⟩
  · rw [a3 p (by omega) (by omega)] at hu
    cases hu
  · exact Or.inr (Or.inr ⟨by omega, v, (hlow _ (by omega)).trans a2, hin _ _ _ (Or.inr ⟨hl, hk, by omega, by omega⟩) a3⟩)
theorem up_cap {q c : Nat} (h : ∀ q v, rv q = some v → v ≤ 999999) : ∀ i v, up most rv q c i = some v → v ≤ 999999 := by
  intro i v e
  by_cases z : i = q
  · subst z
    obtain ⟨z, e1, e2, -, -⟩ := up_q (most := most) (rv := rv) (q := i) (c := c)
    rw [e1] at e
    cases e
    rcases e2 with rfl | e2
    · exact mn_le _
    · exact h i _ e2
  · rw [up_o z] at e
    exact h i v e
/-- a step to the next place alone -/
theorem Gi_next {c : Nat} (hp : p < n) (hn : n ≤ 24) (h : Gi most n kd xx yy rv p) (hu : rv p = some u) (hc : ∀ e, p < e → e ≤ 24 → mn (c + dist most kd xx yy (p + 1) e) = mn (u + dist most kd xx yy p e)) : Gi most n kd xx yy (up most rv (p + 1) c) (p + 1) := by
  refine Gi_step h hu (up_cap h.1) (fun q hq => up_o (by omega)) (fun l hl hk h1 q h2 h3 => up_o (by omega)) (fun f v e he hi => ?_)
  have hpe : p < e ∧ e ≤ n := by omega
  exact In_1 hu (by omega) (Nat.lt_succ_self p) (by omega) (hc e hpe.1 (by omega)) hi
theorem Gi_jump (hpl : pl n kd yy) (hp : p < n) (hn : n ≤ 24) (hk : kd p = 7) (h : Gi most n kd xx yy rv p) (hu : rv p = some u) : Gi most n kd xx yy (up most rv (if n < yy p then n else yy p) (u + 1)) (p + 1) := by
  obtain ⟨y1, y2⟩ := (hpl.2 p hp).2.1 (Or.inl hk)
  refine Gi_step h hu (up_cap h.1) (fun q hq => up_o (by split <;> omega)) (fun l hl hkl h1 q h2 h3 => up_o ?_) (fun f v e he hi => ?_)
  · have := (y2 l hl hkl).2 (by omega)
    split <;> omega
  · rcases he with rfl | ⟨h1, h2, h3, h4⟩
    · refine In_1 hu (by omega) (by split <;> omega) (by split <;> omega) ?_ hi
      rw [dist_7 most kd xx yy hp hn hk y1]
      split
      · rw [dist_ge most kd xx yy (Nat.le_refl e), dist_ge most kd xx yy (show e ≤ yy p by omega)]
      · rw [Nat.add_assoc]
    · have := (y2 e h1 h2).1 ⟨h3, by omega⟩
      rw [if_neg (by omega)]
      refine In_1 hu (by omega) y1 this ?_ hi
      rw [dist_7 most kd xx yy h4 (by omega) hk y1, Nat.add_assoc]
theorem Gi_branch (hpl : pl n kd yy) (hp : p < n) (hn : n ≤ 24) (hk : kd p = 8) (h : Gi most n kd xx yy rv p) (hu : rv p = some u) : Gi most n kd xx yy (up most (up most rv (p + 1) (u + 1)) (if n < yy p then n else yy p) (u + 1)) (p + 1) := by
  obtain ⟨y1, y2⟩ := (hpl.2 p hp).2.1 (Or.inr hk)
  refine Gi_step h hu (up_cap (up_cap h.1)) (fun q hq => (up_o (by split <;> omega)).trans (up_o (by omega))) (fun l hl hkl h1 q h2 h3 => (up_o ?_).trans (up_o (by omega))) (fun f v e he hi => ?_)
  · have := (y2 l hl hkl).2 (by omega)
    split <;> omega
  · rcases he with rfl | ⟨h1, h2, h3, h4⟩
    · refine In_2 hu (by omega) (Nat.lt_succ_self p) (by omega) (by split <;> omega) (by split <;> omega) ?_ hi
      rw [dist_8 most kd xx yy hp hn hk y1]
      split
      · rw [dist_ge most kd xx yy (Nat.le_refl e), dist_ge most kd xx yy (show e ≤ yy p by omega), Nat.add_assoc]
      · rw [Nat.add_assoc]
    · have := (y2 e h1 h2).1 ⟨h3, by omega⟩
      rw [if_neg (by omega)]
      refine In_2 hu (by omega) (Nat.lt_succ_self p) (by omega) y1 this ?_ hi
      rw [dist_8 most kd xx yy h4 (by omega) hk y1, Nat.add_assoc]
/-- what the class finds at a LOOP -/
theorem Gi_loop (hp : p < n) (hk : kd p = 9) (hy : yy p ≤ p) (h : Gi most n kd xx yy rv p) (hu : rv p = some u) : ∃ v, rv (yy p) = some v ∧ v ≤ u ∧ mn (v + (xx p + 1) * (u - v + 1)) = mn (u + wl most kd xx yy p) := by
  have hu9 := h.1 p u hu
  have key : ∃ v, rv (yy p) = some v ∧ u = mn (v + dist most kd xx yy (yy p) p) := by
    rcases h.2.2 p hp hk (Nat.le_refl p) with ⟨a1, a2⟩ | ⟨a1, a2, a3⟩ | ⟨a1, v, a2, a3⟩
    · have e : yy p = p := by omega
      refine ⟨u, by rw [e]; exact hu, ?_⟩
      rw [e, dist_ge most kd xx yy (Nat.le_refl p), Nat.add_zero, mn_id hu9]
    · rw [a3 p a1 (Nat.le_refl p)] at hu
      cases hu
    · obtain ⟨q, w, b1, b2, b3, b4⟩ := a3.2
      have : q = p := by omega
      subst this
      rw [hu] at b3
      cases b3
      rw [dist_ge most kd xx yy (Nat.le_refl q), Nat.add_zero, mn_id hu9] at b4
      exact ⟨v, a2, b4⟩
  obtain ⟨v, hv, e⟩ := key
  have hv9 := h.1 _ v hv
  have hge := wl_ge most kd xx yy p
  have hwl : wl most kd xx yy p = (xx p + 1) * (dist most kd xx yy (yy p) p + 1) - dist most kd xx yy (yy p) p := rfl
  generalize dist most kd xx yy (yy p) p = B at *
  rw [hwl]
  by_cases c : v + B ≤ 999999
  · rw [mn_id c] at e
    subst e
    refine ⟨v, hv, by omega, ?_⟩
    rw [show v + B - v + 1 = B + 1 by omega]
    congr 1
    omega
  · have e' : u = 999999 := e.trans (if_neg c)
    subst e'
    refine ⟨v, hv, hv9, ?_⟩
    have h1 : 999999 - v + 1 ≤ (xx p + 1) * (999999 - v + 1) := Nat.le_mul_of_pos_left _ (by omega)
    unfold mn
    rw [if_neg (by omega), if_neg (by omega)]
theorem Gi_0 (hpl : pl n kd yy) (hn : n ≤ 24) (h9 : ∀ l, l < n → kd l = 9 → yy l ≤ l) : Gi most n kd xx yy (fun q => if q = 0 then some 0 else none) 0 := by
  refine ⟨fun q v e => ?_, ⟨fun q w _ h2 h3 => ?_, 0, 0, Nat.le_refl 0, Nat.zero_le n, if_pos rfl, rfl⟩, fun l hl hk _ => Or.inl ⟨Nat.zero_le _, fun q h1 h2 => if_neg (by omega)⟩⟩
  · simp only at e
    split at e
    · cases e; omega
    · cases e
  · simp only at h3
    split at h3
    · rename_i z
      subst z
      cases h3
      exact bt_rfl _ _
    · cases h3
theorem Gi_end (h : Gi most n kd xx yy rv n) : rv n = some (mn (dist most kd xx yy 0 n)) := by
  obtain ⟨q, w, b1, b2, b3, b4⟩ := h.2.1.2
  have : q = n := by omega
  subst this
  rw [dist_ge most kd xx yy (Nat.le_refl q), Nat.add_zero, mn_id (h.1 q w b3), Nat.zero_add] at b4
  rw [b3, b4]
end GI
