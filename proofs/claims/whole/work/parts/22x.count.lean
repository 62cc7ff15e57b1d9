/-! the sums of count -/
theorem all_step {o k f : Nat} {x : Int32} {M : SM} (hk : k < 6) (ho : o + 6 ≤ 693) : wl_X12_allOf_4 (f + 1) (nI o) x (nI k) M = wl_X12_allOf_4 f (nI o) (x + M 40 0 (o + k)) (nI (k + 1)) M := by
  rw [wl_X12_allOf_4_s]
  unfold wb_X12_allOf_4
  simp only [if_neg (show ¬ (6 : Int32) ≤ nI k from nI_ge (b := 6) hk (by decide)), nI_add, if_pos (in693 (show o + k < 693 by omega)), cl693 (show o + k < 693 by omega), g_let_eq, nI_1]
theorem all_end {o f : Nat} {x : Int32} {M : SM} : wl_X12_allOf_4 (f + 1) (nI o) x (nI 6) M = some x := by
  rw [wl_X12_allOf_4_s]
  unfold wb_X12_allOf_4
  rw [if_pos (show (6 : Int32) ≤ nI 6 by decide)]
theorem m_allOf {o : Nat} {M : SM} (ho : o + 6 ≤ 693) : fn_X12_allOf (nI o) M = some (s6 M o) := by
  unfold fn_X12_allOf
  rw [show wl_X12_allOf_4 1000 (nI o) 0 0 M = wl_X12_allOf_4 (999 + 1) (nI o) 0 (nI 0) M from rfl, all_step (by omega) ho, all_step (f := 998) (by omega) ho, all_step (f := 997) (by omega) ho, all_step (f := 996) (by omega) ho, all_step (f := 995) (by omega) ho, all_step (f := 994) (by omega) ho, all_end (f := 993)]
  rfl
