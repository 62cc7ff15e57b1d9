/-! bound: the least and the most ways of a plain code, as a distance over whole numbers -/
def opt (most : Bool) (a b : Nat) : Nat := match most with
  | true => if b < a then a else b
  | false => if b < a then b else a
def bt (most : Bool) (a b : Nat) : Prop := match most with
  | true => b ≤ a
  | false => a ≤ b
def mn (a : Nat) : Nat := if a ≤ 999999 then a else 999999
theorem opt_add (most : Bool) (a b k : Nat) : opt most (a + k) (b + k) = opt most a b + k := by
  cases most <;> simp only [opt] <;> split <;> split <;> omega
theorem opt_add' (most : Bool) (a b k : Nat) : opt most (k + a) (k + b) = k + opt most a b := by
  rw [Nat.add_comm k a, Nat.add_comm k b, opt_add, Nat.add_comm]
theorem opt_or (most : Bool) (a b : Nat) : opt most a b = a ∨ opt most a b = b := by
  cases most <;> simp only [opt] <;> split <;> simp
theorem opt_bt1 (most : Bool) (a b : Nat) : bt most (opt most a b) a := by
  cases most <;> simp only [opt, bt] <;> split <;> omega
theorem opt_bt2 (most : Bool) (a b : Nat) : bt most (opt most a b) b := by
  cases most <;> simp only [opt, bt] <;> split <;> omega
theorem bt_rfl (most : Bool) (a : Nat) : bt most a a := by cases most <;> exact Nat.le_refl a
theorem bt_tr {most : Bool} {a b c : Nat} (h1 : bt most a b) (h2 : bt most b c) : bt most a c := by
  cases most <;> simp only [bt] at * <;> omega
theorem bt_anti {most : Bool} {a b : Nat} (h1 : bt most a b) (h2 : bt most b a) : a = b := by
  cases most <;> simp only [bt] at * <;> omega
theorem bt_mn {most : Bool} {a b : Nat} (d : Nat) (h : bt most a b) : bt most (mn (a + d)) (mn (b + d)) := by
  cases most <;> simp only [bt, mn] at * <;> split <;> split <;> omega
theorem mn_mn (a d : Nat) : mn (mn a + d) = mn (a + d) := by unfold mn; split <;> split <;> (try split) <;> omega
theorem mn_mn' (a d : Nat) : mn (d + mn a) = mn (d + a) := by rw [Nat.add_comm, mn_mn, Nat.add_comm]
theorem mn_mn2 (a b : Nat) : mn (mn a + mn b) = mn (a + b) := by rw [mn_mn, mn_mn']
theorem mn_le (a : Nat) : mn a ≤ 999999 := by unfold mn; split <;> omega
theorem mn_id {a : Nat} (h : a ≤ 999999) : mn a = a := if_pos h
theorem mn_opt (most : Bool) (a b : Nat) : opt most (mn a) (mn b) = mn (opt most a b) := by
  cases most <;> simp only [opt, mn] <;> repeat' split
  all_goals omega
theorem mn_mul (x B : Nat) : mn ((x + 1) * mn (mn B + 1)) = mn ((x + 1) * (B + 1)) := by
  rw [mn_mn]
  by_cases h : B + 1 ≤ 999999
  · rw [mn_id h]
  · have e1 : mn (B + 1) = 999999 := if_neg h
    have h1 : 999999 ≤ (x + 1) * 999999 := Nat.le_mul_of_pos_left _ (by omega)
    have h2 : (x + 1) * 999999 ≤ (x + 1) * (B + 1) := Nat.mul_le_mul_left _ (by omega)
    rw [e1]
    unfold mn
    by_cases q : (x + 1) * 999999 ≤ 999999
    · rw [if_pos q]
      split <;> omega
    · rw [if_neg q, if_neg (by omega)]
section DS
variable (most : Bool) (kd xx yy : Nat → Nat)
def Df : Nat → Nat → Nat → Nat
  | 0, _, _ => 0
  | f + 1, p, e => if p < e then (if kd p = 7 then (if p < yy p then 1 + Df f (yy p) e else 0) else if kd p = 8 then (if p < yy p then 1 + opt most (Df f (yy p) e) (Df f (p + 1) e) else 0) else if kd p = 9 then ((xx p + 1) * (Df f (yy p) p + 1) - Df f (yy p) p) + Df f (p + 1) e else 1 + Df f (p + 1) e) else 0
def rk (p e : Nat) : Nat := if p < e then 26 * e + (e - p) else 0
theorem rk_1 {p q e : Nat} (h : p < e) (h' : p < q) : rk q e < rk p e := by
  unfold rk
  rw [if_pos h]
  split <;> omega
theorem rk_2 {p q e : Nat} (h : p < e) (he : e ≤ 24) : rk q p < rk p e := by
  unfold rk
  rw [if_pos h]
  split <;> omega
theorem Df_s (f p e : Nat) : Df most kd xx yy (f + 1) p e = if p < e then (if kd p = 7 then (if p < yy p then 1 + Df most kd xx yy f (yy p) e else 0) else if kd p = 8 then (if p < yy p then 1 + opt most (Df most kd xx yy f (yy p) e) (Df most kd xx yy f (p + 1) e) else 0) else if kd p = 9 then ((xx p + 1) * (Df most kd xx yy f (yy p) p + 1) - Df most kd xx yy f (yy p) p) + Df most kd xx yy f (p + 1) e else 1 + Df most kd xx yy f (p + 1) e) else 0 := rfl
theorem Df_i : ∀ (f f' p e : Nat), e ≤ 24 → rk p e < f → rk p e < f' → Df most kd xx yy f p e = Df most kd xx yy f' p e := by
  intro f
  induction f with
  | zero => intro f' p e _ h _; exact absurd h (Nat.not_lt_zero _)
  | succ f ih =>
    intro f' p e he h1 h2
    obtain ⟨f', rfl⟩ : ∃ q, f' = q + 1 := ⟨f' - 1, by omega⟩
    rw [Df_s, Df_s]
    by_cases hp : p < e
    · rw [if_pos hp, if_pos hp]
      have r1 : rk (p + 1) e < rk p e := rk_1 hp (Nat.lt_succ_self p)
      have n1 : Df most kd xx yy f (p + 1) e = Df most kd xx yy f' (p + 1) e := ih f' (p + 1) e he (by omega) (by omega)
      have r2 : ∀ q, rk q p < rk p e := fun q => rk_2 hp he
      have n2 : Df most kd xx yy f (yy p) p = Df most kd xx yy f' (yy p) p := ih f' (yy p) p (by omega) (by have := r2 (yy p); omega) (by have := r2 (yy p); omega)
      have n3 : p < yy p → Df most kd xx yy f (yy p) e = Df most kd xx yy f' (yy p) e := fun hy => ih f' (yy p) e he (by have := rk_1 hp hy; omega) (by have := rk_1 hp hy; omega)
      rw [n1, n2]
      by_cases hy : p < yy p
      · rw [n3 hy]
      · rw [if_neg hy, if_neg hy, if_neg hy, if_neg hy]
    · rw [if_neg hp, if_neg hp]
def dist (p e : Nat) : Nat := Df most kd xx yy 700 p e
theorem rk_b {p e : Nat} (he : e ≤ 24) : rk p e < 699 := by
  unfold rk
  split <;> omega
theorem dist_ge {p e : Nat} (h : e ≤ p) : dist most kd xx yy p e = 0 := by
  unfold dist
  rw [show 700 = 699 + 1 from rfl, Df_s, if_neg (by omega)]
theorem dist_eq {p e : Nat} (h : p < e) (he : e ≤ 24) : dist most kd xx yy p e = if kd p = 7 then (if p < yy p then 1 + dist most kd xx yy (yy p) e else 0) else if kd p = 8 then (if p < yy p then 1 + opt most (dist most kd xx yy (yy p) e) (dist most kd xx yy (p + 1) e) else 0) else if kd p = 9 then ((xx p + 1) * (dist most kd xx yy (yy p) p + 1) - dist most kd xx yy (yy p) p) + dist most kd xx yy (p + 1) e else 1 + dist most kd xx yy (p + 1) e := by
  unfold dist
  have k : ∀ q e', e' ≤ 24 → Df most kd xx yy 699 q e' = Df most kd xx yy 700 q e' := fun q e' h' => Df_i most kd xx yy 699 700 q e' h' (rk_b h') (by have := rk_b (p := q) h'; omega)
  rw [show 700 = 699 + 1 from rfl, Df_s, if_pos h, k _ _ he, k _ _ he, k _ _ (show p ≤ 24 by omega)]
/-- what a LOOP adds to one pass -/
def wl (l : Nat) : Nat := (xx l + 1) * (dist most kd xx yy (yy l) l + 1) - dist most kd xx yy (yy l) l
theorem wl_ge (l : Nat) : dist most kd xx yy (yy l) l + 1 ≤ (xx l + 1) * (dist most kd xx yy (yy l) l + 1) := Nat.le_mul_of_pos_left _ (by omega)
theorem dist_7 {p e : Nat} (h : p < e) (he : e ≤ 24) (hk : kd p = 7) (hy : p < yy p) : dist most kd xx yy p e = 1 + dist most kd xx yy (yy p) e := by
  rw [dist_eq most kd xx yy h he, if_pos hk, if_pos hy]
theorem dist_8 {p e : Nat} (h : p < e) (he : e ≤ 24) (hk : kd p = 8) (hy : p < yy p) : dist most kd xx yy p e = 1 + opt most (dist most kd xx yy (yy p) e) (dist most kd xx yy (p + 1) e) := by
  rw [dist_eq most kd xx yy h he, if_neg (by omega), if_pos hk, if_pos hy]
theorem dist_9 {p e : Nat} (h : p < e) (he : e ≤ 24) (hk : kd p = 9) : dist most kd xx yy p e = wl most kd xx yy p + dist most kd xx yy (p + 1) e := by
  rw [dist_eq most kd xx yy h he, if_neg (by omega), if_neg (by omega), if_pos hk]
  rfl
theorem dist_o {p e : Nat} (h : p < e) (he : e ≤ 24) (h7 : kd p ≠ 7) (h8 : kd p ≠ 8) (h9 : kd p ≠ 9) : dist most kd xx yy p e = 1 + dist most kd xx yy (p + 1) e := by
  rw [dist_eq most kd xx yy h he, if_neg h7, if_neg h8, if_neg h9]
theorem dist_pos {p e : Nat} (h : p < e) (he : e ≤ 24) (hj : kd p = 7 ∨ kd p = 8 → p < yy p) : 1 ≤ dist most kd xx yy p e := by
  by_cases h7 : kd p = 7
  · rw [dist_7 most kd xx yy h he h7 (hj (Or.inl h7))]; omega
  · by_cases h8 : kd p = 8
    · rw [dist_8 most kd xx yy h he h8 (hj (Or.inr h8))]; omega
    · by_cases h9 : kd p = 9
      · rw [dist_9 most kd xx yy h he h9]
        have := wl_ge most kd xx yy p
        unfold wl
        omega
      · rw [dist_o most kd xx yy h he h7 h8 h9]; omega
/-- all ways from within a LOOP go through its last place -/
theorem dom {l e : Nat} (hl : kd l = 9) (hle : l < e) (he : e ≤ 24) (hj : ∀ p, yy l ≤ p → p < l → kd p = 7 ∨ kd p = 8 → p < yy p ∧ yy p ≤ l) : ∀ (N p : Nat), l - p ≤ N → yy l ≤ p → p ≤ l → dist most kd xx yy p e = dist most kd xx yy p l + (wl most kd xx yy l + dist most kd xx yy (l + 1) e) := by
  intro N
  induction N with
  | zero =>
    intro p h1 h2 h3
    have : p = l := by omega
    subst this
    rw [dist_9 most kd xx yy hle he hl, dist_ge most kd xx yy (Nat.le_refl p)]
    omega
  | succ N ih =>
    intro p h1 h2 h3
    by_cases hp : p = l
    · exact ih p (by omega) h2 h3
    · have hpl : p < l := by omega
      have n1 := ih (p + 1) (by omega) (by omega) (by omega)
      by_cases h7 : kd p = 7
      · obtain ⟨y1, y2⟩ := hj p h2 hpl (Or.inl h7)
        rw [dist_7 most kd xx yy (by omega) he h7 y1, dist_7 most kd xx yy hpl (by omega) h7 y1, ih (yy p) (by omega) (by omega) y2]
        omega
      · by_cases h8 : kd p = 8
        · obtain ⟨y1, y2⟩ := hj p h2 hpl (Or.inr h8)
          rw [dist_8 most kd xx yy (by omega) he h8 y1, dist_8 most kd xx yy hpl (by omega) h8 y1, ih (yy p) (by omega) (by omega) y2, n1, opt_add]
          omega
        · by_cases h9 : kd p = 9
          · rw [dist_9 most kd xx yy (by omega) he h9, dist_9 most kd xx yy hpl (by omega) h9, n1]
            omega
          · rw [dist_o most kd xx yy (by omega) he h7 h8 h9, dist_o most kd xx yy hpl (by omega) h7 h8 h9, n1]
            omega
end DS
