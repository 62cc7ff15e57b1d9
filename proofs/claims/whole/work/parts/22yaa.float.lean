/-! floats -/
theorem f_ratio (a b : Int32) : fn_X11_ratioBits a b = some (fn_Jxf58ca_floatToIntBits_5c35a (FP.fdiv (FP.i2f a) (FP.i2f b))) := by
  sorry
theorem f_part (a b : Int32) : g_n32 (FP.fmul (FP.i2f a) (FP.i2f b)) ∧ g_n32 (FP.fdiv (FP.fmul (FP.i2f a) (FP.i2f b)) 1149239296) := by
  sorry
