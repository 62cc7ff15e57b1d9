/-! floats: a quotient of two ints, its bits; fo_or began as fa_or of the kit's NUMBERS.to-paste -/
theorem fo_or (a b : Nat) : nI a ||| nI b = nI (a ||| b) := by
  apply Int32.toBitVec_inj.1
  show BitVec.ofNat 32 a ||| BitVec.ofNat 32 b = BitVec.ofNat 32 (a ||| b)
  apply BitVec.eq_of_getLsbD_eq
  intro i hi
  simp [hi]
theorem fo_sum {a k : Nat} (b : Nat) (h : a < 2 ^ k) : nI (2 ^ k * b) ||| nI a = nI (2 ^ k * b + a) := by rw [fo_or, Nat.two_pow_add_eq_or_of_lt h]
theorem fo_n32 {x : UInt32} (h : FP.Core.val32 x ≠ .nan) : g_n32 x := by
  have h1 := (FP.Core.ne_nan32 x).mp h
  show x &&& 2147483647 ≤ 2139095040
  rw [UInt32.le_iff_toNat_le, UInt32.toNat_and]
  show x.toNat &&& (2 ^ 31 - 1) ≤ 2139095040
  rw [Nat.and_two_pow_sub_one_eq_mod]
  exact h1
theorem fo_lead {s : Bool} {A B : Nat} {e l : Int} (hA : 0 < A) (hB : 0 < B) (h1 : ¬ FP.Core.Below A B l) (h2 : FP.Core.Below A B (l + 1)) (h3 : -120 ≤ l + e) (h4 : l + e ≤ 100) : ∃ c q, FP.Core.roundRatio FP.Core.b32 s A B e = .fin s c q ∧ 8388608 ≤ c ∧ c < 16777216 ∧ l + e - 23 ≤ q ∧ q ≤ l + e - 22 := by
  have hqm : FP.Core.b32.qmin = -149 := by decide
  have hqx : FP.Core.b32.qmax = 104 := by decide
  have hp : (FP.Core.b32.p : Int) = 24 := rfl
  have hq : FP.Core.quantum FP.Core.b32 A B e = l + e - 23 := by
    refine FP.Core.quantum_eq hA hB (by rw [hqm]; omega) ?_ (Or.inr ?_)
    · rw [hp, show l + e - 23 - e + 24 = l + 1 by omega]; exact h2
    · rw [hp, show l + e - 23 - e + (24 - 1) = l by omega]; exact h1
  have hD := FP.Core.unitsDen_pos hB e (l + e - 23)
  have n1 : 2 ^ 23 ≤ FP.Core.nearest (FP.Core.unitsNum A e (l + e - 23)) (FP.Core.unitsDen B e (l + e - 23)) := by
    refine FP.Core.nearest_ge hD (Nat.le_of_not_lt fun w => h1 ?_)
    have := (FP.Core.units_below A B e (l + e - 23) 23).mp w
    rw [show l + e - 23 - e + ((23 : Nat) : Int) = l by omega] at this
    exact this
  have n2 : FP.Core.nearest (FP.Core.unitsNum A e (l + e - 23)) (FP.Core.unitsDen B e (l + e - 23)) ≤ 2 ^ 24 := by
    refine FP.Core.nearest_le hD (Nat.le_of_lt ((FP.Core.units_below A B e (l + e - 23) 24).mpr ?_))
    rw [show l + e - 23 - e + ((24 : Nat) : Int) = l + 1 by omega]
    exact h2
  unfold FP.Core.roundRatio
  rw [if_neg (by omega), hq]
  unfold FP.Core.roundAt FP.Core.settle FP.Core.bound
  generalize FP.Core.nearest (FP.Core.unitsNum A e (l + e - 23)) (FP.Core.unitsDen B e (l + e - 23)) = c at *
  rw [hqx]
  by_cases z : c < 2 ^ FP.Core.b32.p
  · rw [if_pos z, if_pos (by omega)]
    exact ⟨c, l + e - 23, rfl, n1, z, by omega, by omega⟩
  · rw [if_neg z, if_pos (by omega)]
    exact ⟨FP.Core.b32.tails, l + e - 23 + 1, rfl, by decide, by decide, by omega, by omega⟩
theorem fo_int {a : Int32} (h : a ≠ 0) : ∃ c q, FP.Core.val32 (FP.i2f a) = .fin (decide (a.toInt < 0)) c q ∧ 8388608 ≤ c ∧ c < 16777216 ∧ -23 ≤ q ∧ q ≤ 9 := by
  have ha : a.toInt ≠ 0 := fun w => h (Int32.toInt_inj.mp (w.trans rfl))
  have h1 := a.toInt_lt
  have h2 := a.le_toInt
  have e : FP.Core.val32 (FP.i2f a) = FP.Core.roundRatio FP.Core.b32 (decide (a.toInt < 0)) a.toInt.natAbs 1 0 := FP.Core.val32_i2f a
  rw [e]
  have hn : 0 < a.toInt.natAbs := by omega
  have hn2 : a.toInt.natAbs < 2 ^ 32 := by omega
  generalize a.toInt.natAbs = n at *
  obtain ⟨l1, l2⟩ := FP.Core.leading_spec hn (show 0 < 1 by decide)
  have b1 : 0 < FP.Core.leading n 1 + 1 := FP.Core.lt_of_below (A := n) (B := 1) (a := 0) (fun w => by
    have : n * 1 < 1 * 1 := w
    omega) l2
  have b2 : FP.Core.leading n 1 < 32 := FP.Core.lt_of_below (A := n) (B := 1) (b := 32) l1 (show n * 1 < 1 * 2 ^ 32 by omega)
  obtain ⟨c, q, r1, r2, r3, r4, r5⟩ := fo_lead (s := decide (a.toInt < 0)) (e := 0) hn (show 0 < 1 by decide) l1 l2 (by omega) (by omega)
  exact ⟨c, q, r1, r2, r3, by omega, by omega⟩
theorem fo_quot {a b : Int32} (ha : a ≠ 0) (hb : b ≠ 0) : ∃ s c q, FP.Core.val32 (FP.fdiv (FP.i2f a) (FP.i2f b)) = .fin s c q ∧ 8388608 ≤ c ∧ c < 16777216 ∧ -60 ≤ q ∧ q ≤ 20 := by
  obtain ⟨c, q, e1, c1, c2, q1, q2⟩ := fo_int ha
  obtain ⟨d, r, e2, d1, d2, r1, r2⟩ := fo_int hb
  have e : FP.Core.val32 (FP.fdiv (FP.i2f a) (FP.i2f b)) = FP.Core.quotient FP.Core.b32 (FP.Core.val32 (FP.i2f a)) (FP.Core.val32 (FP.i2f b)) := FP.Core.val32_fdiv _ _
  rw [e, e1, e2]
  show ∃ s' c' q', (if d = 0 then (if c = 0 then FP.Core.Datum.nan else .inf (decide (a.toInt < 0) != decide (b.toInt < 0))) else FP.Core.roundRatio FP.Core.b32 (decide (a.toInt < 0) != decide (b.toInt < 0)) c d (q - r)) = .fin s' c' q' ∧ _
  rw [if_neg (by omega)]
  obtain ⟨l1, l2⟩ := FP.Core.leading_spec (show 0 < c by omega) (show 0 < d by omega)
  have b1 : -1 < FP.Core.leading c d + 1 := FP.Core.lt_of_below (A := c) (B := d) (a := -1) (fun w => by
    have : c * 2 ^ 1 < d * 2 ^ 0 := w
    omega) l2
  have b2 : FP.Core.leading c d < 1 := FP.Core.lt_of_below (A := c) (B := d) (b := 1) l1 (show c * 2 ^ 0 < d * 2 ^ 1 by omega)
  obtain ⟨c', q', g1, g2, g3, g4, g5⟩ := fo_lead (s := decide (a.toInt < 0) != decide (b.toInt < 0)) (e := q - r) (show 0 < c by omega) (show 0 < d by omega) l1 l2 (by omega) (by omega)
  exact ⟨_, c', q', g1, g2, g3, by omega, by omega⟩
theorem fo_notnan {x : UInt32} {s : Bool} {c : Nat} {q : Int} (h : FP.Core.val32 x = .fin s c q) : FP.Core.val32 x ≠ .nan := by rw [h]; exact FP.Core.Datum.noConfusion
theorem fo_half {x : UInt32} {c : Nat} {j : Int} (h : FP.Core.val32 x = .fin false c j) (c1 : 8388608 ≤ c) (c2 : c < 16777216) (j1 : -140 ≤ j) (j2 : j ≤ 100) : FP.Core.val32 (FP.fdiv x 1073741824) = .fin false c (j - 1) := by
  have e : FP.Core.val32 (FP.fdiv x 1073741824) = FP.Core.quotient FP.Core.b32 (FP.Core.val32 x) (FP.Core.val32 1073741824) := FP.Core.val32_fdiv _ _
  rw [e, h, show FP.Core.val32 1073741824 = .fin false 8388608 (-22) by decide +kernel]
  show FP.Core.roundRatio FP.Core.b32 (false != false) c 8388608 (j - -22) = _
  refine FP.Core.roundRatio_exact FP.Core.good_b32 (by decide) ⟨c2, ?_, ?_, Or.inr c1⟩ ?_
  · rw [show FP.Core.b32.qmin = -149 by decide]; omega
  · rw [show FP.Core.b32.qmax = 104 by decide]; omega
  · rw [show (j - -22 - (j - 1)).toNat = 23 by omega, show (j - 1 - (j - -22)).toNat = 0 by omega]
    omega
theorem fo_twice {x : UInt32} {c : Nat} {j : Int} (h : FP.Core.val32 x = .fin false c j) (c1 : 8388608 ≤ c) (c2 : c < 16777216) (j1 : -140 ≤ j) (j2 : j ≤ 100) : FP.Core.val32 (FP.fmul x 1073741824) = .fin false c (j + 1) := by
  have e : FP.Core.val32 (FP.fmul x 1073741824) = FP.Core.round FP.Core.b32 (FP.Core.exactProduct (FP.Core.val32 x) (FP.Core.val32 1073741824)) := FP.Core.val32_fmul _ _
  rw [e, h, show FP.Core.val32 1073741824 = .fin false 8388608 (-22) by decide +kernel]
  show FP.Core.roundRatio FP.Core.b32 (false != false) (c * 8388608) 1 (j + -22) = _
  refine FP.Core.roundRatio_exact FP.Core.good_b32 (by decide) ⟨c2, ?_, ?_, Or.inr c1⟩ ?_
  · rw [show FP.Core.b32.qmin = -149 by decide]; omega
  · rw [show FP.Core.b32.qmax = 104 by decide]; omega
  · rw [show (j + -22 - (j + 1)).toNat = 0 by omega, show (j + 1 - (j + -22)).toNat = 23 by omega]
    omega
theorem fo_cmp {x y : UInt32} {s t : Bool} {c d : Nat} {q r : Int} (hx : FP.Core.val32 x = .fin s c q) (hy : FP.Core.val32 y = .fin t d r) : FP.fcmp x y = some (compare (FP.Core.signed s (FP.Core.inUnits c q (min q r))) (FP.Core.signed t (FP.Core.inUnits d r (min q r)))) := by
  show FP.Core.order (FP.Core.val32 x) (FP.Core.val32 y) = _
  rw [hx, hy]
  rfl
