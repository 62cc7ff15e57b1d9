/-! span: the best and the worst of all begins -/
section SQ
variable {n : Nat} {v : Int32} {X M : SM}
theorem both_from {T b : Nat} (hT : 1 ≤ T) (hT' : T ≤ 100000) (hn : n ≤ 16) (hb : b < n) (e1 : X 10 0 1 = nI n) (e2 : M 39 0 12 = nI n) (e3 : ∀ s, s < n → X 34 0 s = M 50 0 s) (ho : 0 < cnt (M 50 0) v n) : ∃ t, 1 ≤ t ∧ t ≤ n ∧ fn_X10_ticksFrom (nI b) v (nI (T - (T - 1) / cnt (M 50 0) v n * cnt (M 50 0) v n)) X = some (nI t) ∧ fn_X12_ticksFrom (nI b) v (nI T) M = some (nI ((T - 1) / cnt (M 50 0) v n * n + t)) := by
  have hc := cnt_le (M 50 0) v n
  obtain ⟨f1, hm⟩ := mown_loop (v := v) (x1 := nI b) (x3 := nI T) hn e2 n 0 1000 (by omega) (by omega)
  generalize hO : cnt (M 50 0) v n = o at *
  have hdiv : (T - 1) / o * o ≤ T - 1 := Nat.div_mul_le_self _ _
  have hmod : T - 1 < ((T - 1) / o + 1) * o := by
    have := Nat.lt_div_mul_add (a := T - 1) ho
    rw [Nat.add_mul, Nat.one_mul]
    exact this
  have hw : (T - 1) / o ≤ T - 1 := Nat.div_le_self _ _
  rw [Nat.add_mul, Nat.one_mul] at hmod
  generalize hW : (T - 1) / o = w at *
  have hwn : w * n ≤ 100000 * 16 := Nat.mul_le_mul (by omega) hn
  obtain ⟨t, t1, t2, t3, t4⟩ := tf_loop (w := w) (r := T - w * o) hn hb e1 e2 e3 (by rw [hO]; omega) n 0 1000 1000 (by omega) (by omega) (by omega) (show 0 < T - w * o by omega)
  refine ⟨t, t1, t2, t3, ?_⟩
  unfold fn_X12_ticksFrom
  rw [show wl_X12_ticksFrom_6 1000 (nI b) v (nI T) 0 0 M = _ from hm, wl_X12_ticksFrom_6_s]
  unfold wb_X12_ticksFrom_6
  rw [e2, if_pos (nI_le (Nat.le_refl n) (by omega)), if_pos (nI_ne0 ho (by omega)), g_let_eq, g_let_eq, show nI T - 1 = nI (T - 1) from ni_sub (a := 1) hT, pk_div (by omega) ho (by omega), hW, ni_mul, ni_sub (by omega), show wl_X12_ticksFrom_55 1000 (nI b) v (nI w) (nI (T - w * o)) 0 M = _ from t4, ni_mul, nI_add]
theorem span_loop {w r T : Nat} {s : Int32} (hw : w ≤ 100000) (hn : n ≤ 16) (e1 : X 10 0 1 = nI n) (e2 : M 39 0 12 = nI n) (hf : ∀ b, b < n → ∃ t, 1 ≤ t ∧ t ≤ n ∧ fn_X10_ticksFrom (nI b) v (nI r) X = some (nI t) ∧ fn_X12_ticksFrom (nI b) v (nI T) M = some (nI (w * n + t))) : ∀ (d k t f f' : Nat), k + d = n → d < f → d < f' → t ≤ n → ∃ t', t' ≤ n ∧ wl_X10_ticksOf_56 f v s (nI w) (nI r) (nI t) (nI k) X = some (nI (w * n + t')) ∧ wl_X12_spanOf_6 f' v (nI T) s (nI (w * n + t)) (nI k) M = some (nI (w * n + t')) := by
  have hwn : w * n ≤ 100000 * 16 := Nat.mul_le_mul hw hn
  intro d
  induction d with
  | zero =>
    intro k t f f' h1 h2 h3 h4
    obtain ⟨f, rfl⟩ : ∃ q, f = q + 1 := ⟨f - 1, by omega⟩
    obtain ⟨f', rfl⟩ : ∃ q, f' = q + 1 := ⟨f' - 1, by omega⟩
    have : k = n := by omega
    subst this
    refine ⟨t, h4, ?_, ?_⟩
    · rw [wl_X10_ticksOf_56_s]
      unfold wb_X10_ticksOf_56
      rw [e1, if_pos (nI_le (Nat.le_refl k) (by omega)), ni_mul, nI_add]
    · rw [wl_X12_spanOf_6_s]
      unfold wb_X12_spanOf_6
      rw [e2, if_pos (nI_le (Nat.le_refl k) (by omega))]
  | succ d ih =>
    intro k t f f' h1 h2 h3 h4
    obtain ⟨f, rfl⟩ : ∃ q, f = q + 1 := ⟨f - 1, by omega⟩
    obtain ⟨f', rfl⟩ : ∃ q, f' = q + 1 := ⟨f' - 1, by omega⟩
    obtain ⟨u, u1, u2, u3, u4⟩ := hf k (by omega)
    rw [wl_X10_ticksOf_56_s, wl_X12_spanOf_6_s]
    unfold wb_X10_ticksOf_56 wb_X12_spanOf_6
    simp only [e1, e2, if_neg (nI_ge (show k < n by omega) (show n < 2 ^ 31 by omega)), u3, u4, Option.bind_some, g_let_eq, nI_1, if_neg (nI_pos (show w * n + t < 2 ^ 31 by omega))]
    by_cases z : s = 0
    · simp only [if_pos z]
      by_cases y : u < t
      · simp only [if_pos (nI_lt y (show t < 2 ^ 31 by omega)), if_neg (nI_ge (show w * n + u < w * n + t by omega) (show w * n + t < 2 ^ 31 by omega))]
        exact ih (k + 1) u f f' (by omega) (by omega) (by omega) u2
      · simp only [if_neg (nI_nlt (show t ≤ u by omega) (show u < 2 ^ 31 by omega)), if_pos (nI_le (show w * n + t ≤ w * n + u by omega) (show w * n + u < 2 ^ 31 by omega))]
        exact ih (k + 1) t f f' (by omega) (by omega) (by omega) h4
    · simp only [if_neg z]
      by_cases y : t < u
      · simp only [if_pos (nI_lt y (show u < 2 ^ 31 by omega)), if_neg (nI_ge (show w * n + t < w * n + u by omega) (show w * n + u < 2 ^ 31 by omega))]
        exact ih (k + 1) u f f' (by omega) (by omega) (by omega) u2
      · simp only [if_neg (nI_nlt (show u ≤ t by omega) (show t < 2 ^ 31 by omega)), if_pos (nI_le (show w * n + u ≤ w * n + t by omega) (show w * n + t < 2 ^ 31 by omega))]
        exact ih (k + 1) t f f' (by omega) (by omega) (by omega) h4
theorem d_span {T : Nat} {s : Int32} (hT : 1 ≤ T) (hT' : T ≤ 100000) (h1 : 1 ≤ n) (hn : n ≤ 16) (e1 : X 10 0 1 = nI n) (e2 : M 39 0 12 = nI n) (e3 : ∀ s, s < n → X 34 0 s = M 50 0 s) (ho : 0 < cnt (M 50 0) v n) : ∃ r, r < 2 ^ 31 ∧ fn_X10_ticksOf v (nI T) s X = some (nI r) ∧ fn_X12_spanOf v (nI T) s M = some (nI r) := by
  have hc := cnt_le (M 50 0) v n
  have hf := fun b hb => both_from (b := b) hT hT' hn hb e1 e2 e3 ho
  have hw : (T - 1) / cnt (M 50 0) v n ≤ T - 1 := Nat.div_le_self _ _
  have hdiv : (T - 1) / cnt (M 50 0) v n * cnt (M 50 0) v n ≤ T - 1 := Nat.div_mul_le_self _ _
  obtain ⟨u, u1, u2, u3, u4⟩ := hf 0 (by omega)
  obtain ⟨t', t1, t2, t3⟩ := span_loop (s := s) (show (T - 1) / cnt (M 50 0) v n ≤ 100000 by omega) hn e1 e2 hf (n - 1) 1 u 1000 999 (by omega) (by omega) (by omega) u2
  have hwn : (T - 1) / cnt (M 50 0) v n * n ≤ 100000 * 16 := Nat.mul_le_mul (by omega) hn
  refine ⟨(T - 1) / cnt (M 50 0) v n * n + t', by omega, ?_, ?_⟩
  · unfold fn_X10_ticksOf
    rw [x_owned hn e1 e3]
    simp only [Option.bind_some]
    rw [if_neg (show ¬ nI (cnt (M 50 0) v n) < 1 from nI_nlt (b := 1) ho (by omega)), if_neg (show ¬ nI T < 1 from nI_nlt (b := 1) hT (by omega)), if_pos (show nI T ≤ 100000 from nI_le (b := 100000) hT' (by decide)), if_pos (nI_ne0 ho (by omega)), g_let_eq, g_let_eq, show nI T - 1 = nI (T - 1) from ni_sub (a := 1) hT, pk_div (by omega) ho (by omega), ni_mul, ni_sub (by omega), show fn_X10_ticksFrom 0 v _ X = _ from u3]
    exact t2
  · unfold fn_X12_spanOf
    rw [show wl_X12_spanOf_6 1000 v (nI T) s (-1) 0 M = wl_X12_spanOf_6 (999 + 1) v (nI T) s (-1) (nI 0) M from rfl, wl_X12_spanOf_6_s]
    unfold wb_X12_spanOf_6
    simp only [e2, if_neg (nI_ge (show 0 < n by omega) (show n < 2 ^ 31 by omega)), u4, Option.bind_some, g_let_eq, nI_1, if_pos (show (-1 : Int32) < 0 by decide)]
    exact t3
theorem x_noslot {T : Int32} {s : Int32} (hn : n ≤ 16) (e1 : X 10 0 1 = nI n) (e3 : ∀ s, s < n → X 34 0 s = M 50 0 s) (ho : cnt (M 50 0) v n = 0) : fn_X10_ticksOf v T s X = some (-1) := by
  unfold fn_X10_ticksOf
  rw [x_owned hn e1 e3, ho]
  rfl
theorem x_noturn {T : Int32} {s : Int32} (hn : n ≤ 16) (e1 : X 10 0 1 = nI n) (e3 : ∀ s, s < n → X 34 0 s = M 50 0 s) (hT : T < 1 ∨ ¬ T ≤ 100000) : fn_X10_ticksOf v T s X = some (-1) := by
  unfold fn_X10_ticksOf
  rw [x_owned hn e1 e3]
  simp only [Option.bind_some]
  by_cases q : nI (cnt (M 50 0) v n) < 1
  · rw [if_pos q]
  · rw [if_neg q]
    by_cases y : T < 1
    · rw [if_pos y]
    · rw [if_neg y, if_neg (hT.resolve_left y)]
end SQ
theorem c_span {b : Nat} {X M : SM} (x1 x2 x3 : Int32) (h : rJ b X M) : ∃ r M', fn_X11_span x1 x2 x3 X = some r ∧ fn_X12_span x1 x2 x3 M = some (r, M') ∧ rJ b X M' := by
  unfold fn_X11_span fn_X12_span
  simp only [g_let_eq]
  obtain ⟨n, q1, q2, e1, e2, e3⟩ := h.2.2.1
  have e3' : ∀ s, s < n → X 34 0 s = u1 M 39 0 15 0 50 0 s := fun s hs => (e3 s hs).1
  have e2' : u1 M 39 0 15 0 39 0 12 = nI n := e2
  rcases nI_cases x1 6 (by decide) with ⟨a, ha, rfl⟩ | ho
  · simp only [isThread_in ha, m_isThread_in ha, Option.bind_some, if_neg one0, m_hasSlot q2 e2']
    by_cases h1 : x3 < 0
    · rw [if_pos h1, within_no1 h1]
      by_cases w : fn_X12_within x2 1 100000 = 0
      · rw [if_pos w]; exact ⟨_, _, rfl, rfl, rJ_thr h⟩
      · rw [if_neg w]; exact ⟨_, _, rfl, rfl, rJ_thr h⟩
    · by_cases h2 : x3 ≤ 1
      · rw [if_neg h1, if_pos h2, within_yes h1 h2, if_neg one0]
        by_cases h3 : x2 < 1
        · rw [within_no1 h3, x_noturn q2 e1 e3' (Or.inl h3), x_noturn q2 e1 e3' (Or.inl h3)]
          by_cases w : x3 = 1
          · rw [if_pos w]; exact ⟨_, _, rfl, rfl, rJ_thr h⟩
          · rw [if_neg w]; exact ⟨_, _, rfl, rfl, rJ_thr h⟩
        · by_cases h4 : x2 ≤ 100000
          · rw [within_yes h3 h4, if_neg one0]
            obtain ⟨T, hT, rfl⟩ := nI_of2 (M := 100000) (n := 100000) (by decide) (fun q => h3 (Int32.lt_trans q (by decide))) h4
            have hT1 : 1 ≤ T := Classical.byContradiction fun q => h3 (by
              have : T = 0 := by omega
              subst this
              decide)
            by_cases z : cnt (u1 M 39 0 15 0 50 0) (nI a) n = 0
            · rw [if_pos z, x_noslot q2 e1 e3' z, x_noslot q2 e1 e3' z]
              by_cases w : x3 = 1
              · rw [if_pos w]; exact ⟨_, _, rfl, rfl, rJ_thr h⟩
              · rw [if_neg w]; exact ⟨_, _, rfl, rfl, rJ_thr h⟩
            · rw [if_neg z, if_neg one0]
              obtain ⟨r, -, r1, r2⟩ := d_span (s := 1) hT1 hT q1 q2 e1 e2' e3' (Nat.pos_of_ne_zero z)
              obtain ⟨r', -, r1', r2'⟩ := d_span (s := 0) hT1 hT q1 q2 e1 e2' e3' (Nat.pos_of_ne_zero z)
              rw [r1, r2, r1', r2']
              by_cases w : x3 = 1
              · rw [if_pos w, if_pos w]; exact ⟨_, _, rfl, rfl, rJ_thr h⟩
              · rw [if_neg w, if_neg w]; exact ⟨_, _, rfl, rfl, rJ_thr h⟩
          · rw [within_no2 h3 h4, x_noturn q2 e1 e3' (Or.inr h4), x_noturn q2 e1 e3' (Or.inr h4)]
            by_cases w : x3 = 1
            · rw [if_pos w]; exact ⟨_, _, rfl, rfl, rJ_thr h⟩
            · rw [if_neg w]; exact ⟨_, _, rfl, rfl, rJ_thr h⟩
      · rw [if_neg h1, if_neg h2, within_no2 h1 h2]
        by_cases w : fn_X12_within x2 1 100000 = 0
        · rw [if_pos w]; exact ⟨_, _, rfl, rfl, rJ_thr h⟩
        · rw [if_neg w]; exact ⟨_, _, rfl, rfl, rJ_thr h⟩
  · rw [isThread_out ho, m_isThread_out ho]
    exact ⟨_, _, rfl, rfl, rJ_thr h⟩
