/-! floats: RATIO and PART on both sides -/
section FR
variable {x0 : UInt32} {c : Nat}
theorem fo_19 (c1 : 8388608 ≤ c) (c2 : c < 16777216) : ∀ (k i ex f : Nat) (x1 : UInt32), FP.Core.val32 x1 = .fin false c (k : Int) → i + k ≤ 60 → k < f → ∃ x1', wl_X11_bitsOf_19 f x0 x1 (nI ex) (nI i) = wl_X11_bitsOf_48 1000 x0 x1' (nI (ex + k)) 0 ∧ FP.Core.val32 x1' = .fin false c 0 := by
  intro k
  induction k with
  | zero =>
    intro i ex f x1 h1 h2 h3
    obtain ⟨f, rfl⟩ : ∃ q, f = q + 1 := ⟨f - 1, by omega⟩
    refine ⟨x1, ?_, h1⟩
    rw [wl_X11_bitsOf_19_s]
    unfold wb_X11_bitsOf_19
    rw [if_neg (show ¬ (64 : Int32) ≤ nI i from nI_ge (b := 64) (by omega) (by decide)), fo_low h1 c1 c2 (by omega), if_pos (show Op.cmpValue (some .lt) CmpOp.l < 0 by decide)]
    rfl
  | succ k ih =>
    intro i ex f x1 h1 h2 h3
    obtain ⟨f, rfl⟩ : ∃ q, f = q + 1 := ⟨f - 1, by omega⟩
    have hh := fo_half h1 c1 c2 (by omega) (by omega)
    rw [show ((k + 1 : Nat) : Int) - 1 = (k : Int) by omega] at hh
    obtain ⟨x1', e1, e2⟩ := ih (i + 1) (ex + 1) f (FP.fdiv x1 1073741824) hh (by omega) (by omega)
    refine ⟨x1', ?_, e2⟩
    rw [show ex + (k + 1) = ex + 1 + k by omega, ← e1, wl_X11_bitsOf_19_s]
    unfold wb_X11_bitsOf_19
    have hc : ¬ Op.cmpValue (FP.fcmp x1 1266679808) CmpOp.l < 0 := by
      rcases fo_high h1 c1 (by omega) with q | q
      · rw [q]; decide
      · rw [q]; decide
    rw [if_neg (show ¬ (64 : Int32) ≤ nI i from nI_ge (b := 64) (by omega) (by decide)), if_neg hc, if_pos (fo_n32 (fo_notnan hh)), g_let_eq, g_let_eq, g_let_eq, nI_1, nI_1]
def fo_fin (x0 : UInt32) (e c : Nat) : Option Int32 := if 0 ≤ Op.cmpValue (FP.fcmp x0 0) CmpOp.g then some ((nI e <<< ((23 : Int32) &&& 31)) ||| (nI c &&& 8388607)) else some (((nI e <<< ((23 : Int32) &&& 31)) ||| (nI c &&& 8388607)) ||| (-2147483648))
theorem fo_48 (c1 : 8388608 ≤ c) (c2 : c < 16777216) : ∀ (k i ex f : Nat) (x1 : UInt32), FP.Core.val32 x1 = .fin false c (-(k : Int)) → i + k ≤ 63 → k ≤ 100 → k ≤ ex → k < f → wl_X11_bitsOf_48 f x0 x1 (nI ex) (nI i) = fo_fin x0 (ex - k) c := by
  intro k
  induction k with
  | zero =>
    intro i ex f x1 h1 h2 h2' h3 h4
    obtain ⟨f, rfl⟩ : ∃ q, f = q + 1 := ⟨f - 1, by omega⟩
    have h1' : FP.Core.val32 x1 = .fin false c 0 := h1
    rw [wl_X11_bitsOf_48_s]
    unfold wb_X11_bitsOf_48 fo_fin
    have hc : 0 ≤ Op.cmpValue (FP.fcmp x1 1258291200) CmpOp.g := by
      rcases fo_there h1' c1 with q | q
      · rw [q]; decide
      · rw [q]; decide
    rw [if_neg (show ¬ (64 : Int32) ≤ nI i from nI_ge (b := 64) (by omega) (by decide)), if_pos hc, g_let_eq, fo_cut h1' c2]
    rfl
  | succ k ih =>
    intro i ex f x1 h1 h2 h2' h3 h4
    obtain ⟨f, rfl⟩ : ∃ q, f = q + 1 := ⟨f - 1, by omega⟩
    have hh := fo_twice h1 c1 c2 (by omega) (by omega)
    rw [show -((k + 1 : Nat) : Int) + 1 = -(k : Int) by omega] at hh
    have e1 := ih (i + 1) (ex - 1) f (FP.fmul x1 1073741824) hh (by omega) (by omega) (by omega) (by omega)
    rw [show ex - (k + 1) = ex - 1 - k by omega, ← e1, wl_X11_bitsOf_48_s]
    unfold wb_X11_bitsOf_48
    rw [if_neg (show ¬ (64 : Int32) ≤ nI i from nI_ge (b := 64) (by omega) (by decide)), fo_less h1 c2 (by omega), if_neg (show ¬ 0 ≤ Op.cmpValue (some .lt) CmpOp.g by decide), if_pos (fo_n32 (fo_notnan hh)), g_let_eq, g_let_eq, g_let_eq, nI_1, show nI ex + -1 = nI (ex - 1) by rw [← Int32.sub_eq_add_neg]; exact ni_sub (a := 1) (by omega)]
theorem fo_mask (c1 : 8388608 ≤ c) (c2 : c < 16777216) : nI c &&& 8388607 = nI (c - 8388608) := by
  rw [pk_andN (by omega) 23 (by decide)]
  exact congrArg nI (by omega)
theorem fo_join {e : Nat} (he : e < 256) (c1 : 8388608 ≤ c) (c2 : c < 16777216) : (nI e <<< ((23 : Int32) &&& 31)) ||| (nI c &&& 8388607) = nI (e * 8388608 + (c - 8388608)) := by
  rw [fo_mask c1 c2, pk_shlN ((23 : Int32) &&& 31) 23 (by decide) (by omega)]
  have := fo_sum (k := 23) e (a := c - 8388608) (by omega)
  rw [Nat.mul_comm] at this
  exact this
theorem fo_top {m : Nat} (h : m < 2 ^ 31) : nI m ||| (-2147483648) = nI (2147483648 + m) := by
  have h1 := fo_sum (k := 31) 1 (a := m) h
  rw [show (-2147483648 : Int32) = nI (2 ^ 31 * 1) by decide]
  have h2 : nI m ||| nI (2 ^ 31 * 1) = nI (2 ^ 31 * 1) ||| nI m := by rw [fo_or, fo_or, Nat.or_comm]
  rw [h2, h1]
theorem fo_bitsOf {v : UInt32} {s : Bool} {q : Int} (h : FP.Core.val32 v = .fin s c q) (c1 : 8388608 ≤ c) (c2 : c < 16777216) (q1 : -60 ≤ q) (q2 : q ≤ 20) : fn_X11_bitsOf v = some v.toInt32 := by
  have hs := fo_sign h c1 (by omega)
  have key : ∀ x1, FP.Core.val32 x1 = .fin false c q → wl_X11_bitsOf_19 1000 v x1 150 0 = fo_fin v (q + 150).toNat c := by
    intro x1 h1
    by_cases z : 0 ≤ q
    · obtain ⟨x1', e1, e2⟩ := fo_19 (x0 := v) c1 c2 q.toNat 0 150 1000 x1 (by rw [h1]; congr 1; omega) (by omega) (by omega)
      rw [show wl_X11_bitsOf_19 1000 v x1 150 0 = _ from e1, show wl_X11_bitsOf_48 1000 v x1' (nI (150 + q.toNat)) 0 = _ from fo_48 c1 c2 0 0 (150 + q.toNat) 1000 x1' e2 (by omega) (by omega) (by omega) (by omega)]
      congr 1
      omega
    · have e1 : wl_X11_bitsOf_19 1000 v x1 150 0 = wl_X11_bitsOf_48 1000 v x1 150 0 := by
        rw [show wl_X11_bitsOf_19 1000 v x1 150 0 = wl_X11_bitsOf_19 (999 + 1) v x1 150 0 from rfl, wl_X11_bitsOf_19_s]
        unfold wb_X11_bitsOf_19
        rw [if_neg (show ¬ (64 : Int32) ≤ 0 by decide), fo_low h1 c1 c2 (by omega), if_pos (show Op.cmpValue (some .lt) CmpOp.l < 0 by decide)]
      rw [e1, show wl_X11_bitsOf_48 1000 v x1 150 0 = _ from fo_48 c1 c2 (-q).toNat 0 150 1000 x1 (by rw [h1]; congr 1; omega) (by omega) (by omega) (by omega) (by omega)]
      congr 1
      omega
  have he : (q + 150).toNat < 256 := by omega
  unfold fn_X11_bitsOf
  rw [fo_bits h c1 c2 (by omega) (by omega), hs]
  cases s with
  | false =>
    rw [if_pos (show 0 ≤ Op.cmpValue (some (if false = true then .lt else .gt)) CmpOp.g by decide), key v h]
    unfold fo_fin
    rw [hs, if_pos (show 0 ≤ Op.cmpValue (some (if false = true then .lt else .gt)) CmpOp.g by decide), fo_join he c1 c2]
    refine congrArg (fun z => some (nI z)) ?_
    show _ = (0 * 256 + (q + 150).toNat) * 8388608 + (c - 8388608)
    omega
  | true =>
    rw [if_neg (show ¬ 0 ≤ Op.cmpValue (some (if true = true then .lt else .gt)) CmpOp.g by decide), g_let_eq, key (FP.fneg v) (by rw [FP.val32_fneg, h]; rfl)]
    unfold fo_fin
    rw [hs, if_neg (show ¬ 0 ≤ Op.cmpValue (some (if true = true then .lt else .gt)) CmpOp.g by decide), fo_join he c1 c2, fo_top (by omega)]
    refine congrArg (fun z => some (nI z)) ?_
    show _ = (1 * 256 + (q + 150).toNat) * 8388608 + (c - 8388608)
    omega
end FR
theorem fo_isnt {x : UInt32} (h : FP.Core.val32 x ≠ .nan) : fn_Jxf58ca_floatToIntBits_5c35a x = x.toInt32 := by
  unfold fn_Jxf58ca_floatToIntBits_5c35a fn_Jxf58ca_isNaN_12338
  rw [g_let_eq, show FP.fcmp x x = some .eq from FP.Core.fcmp_self h]
  rfl
theorem fo_i0 : FP.Core.val32 (FP.i2f 0) = .fin false 0 (-149) := by decide +kernel
theorem fo_inf {x : UInt32} {s : Bool} (h : FP.Core.val32 x = .inf s) : x.toInt32 = if s = true then -8388608 else 2139095040 := by
  have hn : FP.Core.val32 x ≠ .nan := by rw [h]; exact FP.Core.Datum.noConfusion
  have e := FP.Core.of32_val32 hn
  rw [h] at e
  rw [← e]
  cases s <;> decide +kernel
theorem fo_zero {x : UInt32} {s : Bool} (h : FP.Core.val32 x = .fin s 0 (-149)) : x.toInt32 = if s = true then -2147483648 else 0 := by
  have e := FP.Core.of32_val32 (fo_notnan h)
  rw [h] at e
  rw [← e]
  cases s <;> decide +kernel
theorem f_ratio (a b : Int32) : fn_X11_ratioBits a b = some (fn_Jxf58ca_floatToIntBits_5c35a (FP.fdiv (FP.i2f a) (FP.i2f b))) := by
  have e : FP.Core.val32 (FP.fdiv (FP.i2f a) (FP.i2f b)) = FP.Core.quotient FP.Core.b32 (FP.Core.val32 (FP.i2f a)) (FP.Core.val32 (FP.i2f b)) := FP.Core.val32_fdiv _ _
  unfold fn_X11_ratioBits
  by_cases hb : b = 0
  · subst hb
    rw [if_pos rfl]
    by_cases ha : a = 0
    · subst ha
      rw [if_pos rfl]
      decide +kernel
    · obtain ⟨c, q, e1, c1, -⟩ := fo_int ha
      rw [if_neg ha]
      have e2 : FP.Core.val32 (FP.fdiv (FP.i2f a) (FP.i2f 0)) = .inf (decide (a.toInt < 0)) := by
        rw [e, e1, fo_i0]
        show (if (0 : Nat) = 0 then (if c = 0 then FP.Core.Datum.nan else .inf (decide (a.toInt < 0) != false)) else FP.Core.roundRatio FP.Core.b32 (decide (a.toInt < 0) != false) c 0 (q - -149)) = _
        rw [if_pos rfl, if_neg (by omega)]
        cases decide (a.toInt < 0) <;> rfl
      rw [fo_isnt (by rw [e2]; exact FP.Core.Datum.noConfusion), fo_inf e2]
      by_cases z : 0 ≤ a
      · have : ¬ a.toInt < 0 := by
          have := Int32.le_iff_toInt_le.mp z
          rw [show (0 : Int32).toInt = 0 by decide] at this
          omega
        rw [if_pos z, if_neg (by simp [this])]
      · have : a.toInt < 0 := by
          have := Int32.lt_iff_toInt_lt.mp (Int32.not_le.mp z)
          rw [show (0 : Int32).toInt = 0 by decide] at this
          omega
        rw [if_neg z, if_pos (by simp [this])]
  · rw [if_neg hb]
    by_cases ha : a = 0
    · subst ha
      obtain ⟨d, r, e1, d1, -⟩ := fo_int hb
      rw [if_pos rfl]
      have e2 : FP.Core.val32 (FP.fdiv (FP.i2f 0) (FP.i2f b)) = .fin (decide (b.toInt < 0)) 0 (-149) := by
        rw [e, e1, fo_i0]
        show (if d = 0 then (if (0 : Nat) = 0 then FP.Core.Datum.nan else .inf (false != decide (b.toInt < 0))) else FP.Core.roundRatio FP.Core.b32 (false != decide (b.toInt < 0)) 0 d (-149 - r)) = _
        rw [if_neg (by omega)]
        cases decide (b.toInt < 0) <;> rfl
      rw [fo_isnt (fo_notnan e2), fo_zero e2]
      by_cases z : 0 ≤ b
      · have : ¬ b.toInt < 0 := by
          have := Int32.le_iff_toInt_le.mp z
          rw [show (0 : Int32).toInt = 0 by decide] at this
          omega
        rw [if_pos z, if_neg (by simp [this])]
      · have : b.toInt < 0 := by
          have := Int32.lt_iff_toInt_lt.mp (Int32.not_le.mp z)
          rw [show (0 : Int32).toInt = 0 by decide] at this
          omega
        rw [if_neg z, if_pos (by simp [this])]
    · obtain ⟨s, c, q, e1, c1, c2, q1, q2⟩ := fo_quot ha hb
      rw [if_neg ha, if_pos (fo_n32 (fo_notnan e1)), fo_bitsOf e1 c1 c2 q1 q2, fo_isnt (fo_notnan e1)]
      rfl
theorem fo_i (a : Int32) : ∃ s c q, FP.Core.val32 (FP.i2f a) = .fin s c q := by
  by_cases h : a = 0
  · subst h
    exact ⟨_, _, _, fo_i0⟩
  · obtain ⟨c, q, e, -⟩ := fo_int h
    exact ⟨_, c, q, e⟩
theorem f_part (a b : Int32) : g_n32 (FP.fmul (FP.i2f a) (FP.i2f b)) ∧ g_n32 (FP.fdiv (FP.fmul (FP.i2f a) (FP.i2f b)) 1149239296) := by
  obtain ⟨s, c, q, e1⟩ := fo_i a
  obtain ⟨t, d, r, e2⟩ := fo_i b
  have e : FP.Core.val32 (FP.fmul (FP.i2f a) (FP.i2f b)) = FP.Core.round FP.Core.b32 (FP.Core.exactProduct (FP.Core.val32 (FP.i2f a)) (FP.Core.val32 (FP.i2f b))) := FP.Core.val32_fmul _ _
  rw [e1, e2] at e
  have e' : FP.Core.val32 (FP.fmul (FP.i2f a) (FP.i2f b)) = FP.Core.roundRatio FP.Core.b32 (s != t) (c * d) 1 (q + r) := e
  have f : FP.Core.val32 (FP.fdiv (FP.fmul (FP.i2f a) (FP.i2f b)) 1149239296) = FP.Core.quotient FP.Core.b32 (FP.Core.val32 (FP.fmul (FP.i2f a) (FP.i2f b))) (FP.Core.val32 1149239296) := FP.Core.val32_fdiv _ _
  rw [show FP.Core.val32 1149239296 = .fin false 8388608 (-13) by decide +kernel] at f
  rcases FP.Core.roundRatio_cases FP.Core.b32 (s != t) (c * d) 1 (q + r) with ⟨c', q', g⟩ | g
  · rw [g] at e'
    refine ⟨fo_n32 (fo_notnan e'), fo_n32 ?_⟩
    rw [f, e']
    show (if (8388608 : Nat) = 0 then (if c' = 0 then FP.Core.Datum.nan else .inf ((s != t) != false)) else FP.Core.roundRatio FP.Core.b32 ((s != t) != false) c' 8388608 (q' - -13)) ≠ _
    rw [if_neg (by decide)]
    rcases FP.Core.roundRatio_cases FP.Core.b32 ((s != t) != false) c' 8388608 (q' - -13) with ⟨c'', q'', g'⟩ | g'
    · rw [g']; exact FP.Core.Datum.noConfusion
    · rw [g']; exact FP.Core.Datum.noConfusion
  · rw [g] at e'
    refine ⟨fo_n32 (by rw [e']; exact FP.Core.Datum.noConfusion), fo_n32 ?_⟩
    rw [f, e']
    exact FP.Core.Datum.noConfusion
