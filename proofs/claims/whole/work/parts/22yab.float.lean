/-! floats: the class's own bits -/
theorem fo_pow {k : Nat} (h : 1 ≤ k) : 2 ≤ 2 ^ k := by
  calc 2 = 2 ^ 1 := rfl
    _ ≤ 2 ^ k := Nat.pow_le_pow_right (by decide) h
theorem fo_v24 : FP.Core.val32 1266679808 = .fin false 8388608 1 := by decide +kernel
theorem fo_v23 : FP.Core.val32 1258291200 = .fin false 8388608 0 := by decide +kernel
theorem fo_v0 : FP.Core.val32 0 = .fin false 0 (-149) := by decide +kernel
theorem fo_low {x : UInt32} {c : Nat} {j : Int} (h : FP.Core.val32 x = .fin false c j) (c1 : 8388608 ≤ c) (c2 : c < 16777216) (hj : j ≤ 0) : FP.fcmp x 1266679808 = some .lt := by
  rw [fo_cmp h fo_v24]
  refine congrArg some ((FP.Core.compare_lt_iff _ _).mpr ?_)
  have hm : min j 1 = j := by omega
  rw [hm]
  show ((c * 2 ^ (j - j).toNat : Nat) : Int) < ((8388608 * 2 ^ (1 - j).toNat : Nat) : Int)
  have := fo_pow (k := (1 - j).toNat) (by omega)
  rw [show (j - j).toNat = 0 by omega]
  omega
theorem fo_high {x : UInt32} {c : Nat} {j : Int} (h : FP.Core.val32 x = .fin false c j) (c1 : 8388608 ≤ c) (hj : 1 ≤ j) : FP.fcmp x 1266679808 = some .gt ∨ FP.fcmp x 1266679808 = some .eq := by
  rw [fo_cmp h fo_v24]
  have hm : min j 1 = 1 := by omega
  rw [hm]
  have h2 : c ≤ c * 2 ^ (j - 1).toNat := Nat.le_mul_of_pos_right _ (Nat.two_pow_pos _)
  by_cases z : c * 2 ^ (j - 1).toNat = 8388608
  · refine Or.inr (congrArg some ((FP.Core.compare_eq_iff _ _).mpr ?_))
    show ((c * 2 ^ (j - 1).toNat : Nat) : Int) = ((8388608 * 2 ^ ((1 : Int) - 1).toNat : Nat) : Int)
    rw [z]
    rfl
  · refine Or.inl (congrArg some ((FP.Core.compare_gt_iff _ _).mpr ?_))
    show ((8388608 * 2 ^ ((1 : Int) - 1).toNat : Nat) : Int) < ((c * 2 ^ (j - 1).toNat : Nat) : Int)
    rw [show ((1 : Int) - 1).toNat = 0 by omega]
    omega
theorem fo_less {x : UInt32} {c : Nat} {j : Int} (h : FP.Core.val32 x = .fin false c j) (c2 : c < 16777216) (hj : j < 0) : FP.fcmp x 1258291200 = some .lt := by
  rw [fo_cmp h fo_v23]
  refine congrArg some ((FP.Core.compare_lt_iff _ _).mpr ?_)
  have hm : min j 0 = j := by omega
  rw [hm]
  show ((c * 2 ^ (j - j).toNat : Nat) : Int) < ((8388608 * 2 ^ (0 - j).toNat : Nat) : Int)
  have := fo_pow (k := (0 - j).toNat) (by omega)
  rw [show (j - j).toNat = 0 by omega]
  omega
theorem fo_there {x : UInt32} {c : Nat} (h : FP.Core.val32 x = .fin false c 0) (c1 : 8388608 ≤ c) : FP.fcmp x 1258291200 = some .gt ∨ FP.fcmp x 1258291200 = some .eq := by
  rw [fo_cmp h fo_v23]
  by_cases z : c = 8388608
  · refine Or.inr (congrArg some ((FP.Core.compare_eq_iff _ _).mpr ?_))
    rw [z]
  · refine Or.inl (congrArg some ((FP.Core.compare_gt_iff _ _).mpr ?_))
    show ((8388608 * 2 ^ ((0 : Int) - min 0 0).toNat : Nat) : Int) < ((c * 2 ^ ((0 : Int) - min 0 0).toNat : Nat) : Int)
    rw [show ((0 : Int) - min 0 0).toNat = 0 by omega]
    omega
theorem fo_sign {x : UInt32} {s : Bool} {c : Nat} {q : Int} (h : FP.Core.val32 x = .fin s c q) (c1 : 8388608 ≤ c) (hq : -149 ≤ q) : FP.fcmp x 0 = some (if s = true then .lt else .gt) := by
  rw [fo_cmp h fo_v0]
  have hm : min q (-149) = -149 := by omega
  rw [hm]
  have h2 : c ≤ c * 2 ^ (q - -149).toNat := Nat.le_mul_of_pos_right _ (Nat.two_pow_pos _)
  cases s with
  | true =>
    refine congrArg some ((FP.Core.compare_lt_iff _ _).mpr ?_)
    show -((c * 2 ^ (q - -149).toNat : Nat) : Int) < ((0 * 2 ^ ((-149 : Int) - -149).toNat : Nat) : Int)
    rw [Nat.zero_mul]
    omega
  | false =>
    refine congrArg some ((FP.Core.compare_gt_iff _ _).mpr ?_)
    show ((0 * 2 ^ ((-149 : Int) - -149).toNat : Nat) : Int) < ((c * 2 ^ (q - -149).toNat : Nat) : Int)
    rw [Nat.zero_mul]
    omega
theorem fo_cut {x : UInt32} {c : Nat} (h : FP.Core.val32 x = .fin false c 0) (c2 : c < 16777216) : FP.f2i x = nI c := by
  show FP.Core.toI (FP.Core.val32 x) = _
  rw [h]
  show Int32.ofInt (max (-2 ^ 31) (min (2 ^ 31 - 1) (FP.Core.truncate false c 0))) = _
  have e : FP.Core.truncate false c 0 = (c : Int) := by
    show ((c * 2 ^ (0 : Int).toNat / 2 ^ (-(0 : Int)).toNat : Nat) : Int) = (c : Int)
    rw [show (0 : Int).toNat = 0 by rfl, show (-(0 : Int)).toNat = 0 by rfl, Nat.pow_zero, Nat.mul_one, Nat.div_one]
  rw [e, show max (-2 ^ 31 : Int) (min (2 ^ 31 - 1) (c : Int)) = (c : Int) by omega]
  rfl
/-- the bits of a normal number -/
theorem fo_bits {v : UInt32} {s : Bool} {c : Nat} {q : Int} (h : FP.Core.val32 v = .fin s c q) (c1 : 8388608 ≤ c) (c2 : c < 16777216) (q1 : -100 ≤ q) (q2 : q ≤ 100) : v.toInt32 = nI ((s.toNat * 256 + (q + 150).toNat) * 8388608 + (c - 8388608)) := by
  have e := FP.Core.of32_val32 (fo_notnan h)
  rw [h] at e
  rw [← e]
  have e2 : FP.Core.encode FP.Core.b32 (.fin s c q) = (s.toNat * 256 + (q + 150).toNat) * 8388608 + (c - 8388608) := by
    show (if c < FP.Core.b32.tails then FP.Core.assemble FP.Core.b32 s 0 c else FP.Core.assemble FP.Core.b32 s ((q - FP.Core.b32.qmin).toNat + 1) (c - FP.Core.b32.tails)) = _
    have ht : FP.Core.b32.tails = 8388608 := by decide
    have hx : FP.Core.b32.exps = 256 := by decide
    rw [ht, if_neg (by omega), show FP.Core.b32.qmin = -149 by decide]
    show (s.toNat * FP.Core.b32.exps + ((q - -149).toNat + 1)) * FP.Core.b32.tails + (c - 8388608) = _
    rw [ht, hx, show (q - -149).toNat + 1 = (q + 150).toNat by omega]
  show (UInt32.ofNat (FP.Core.encode FP.Core.b32 (.fin s c q))).toInt32 = _
  rw [e2]
  rfl
