/-! the tick: instructions of the thread alone, and of pins at once -/
def xO (m i : Nat) (k x y z : Int32) (X : SM) : Option SM := if k < 10 then (fn_X9_compute i k x y z X).bind fun X => some X else if 17 < k then (fn_X9_compute i k x y z X).bind fun X => some X else (fn_X7_meetOthers m i k x y z X).bind fun X => some X
def mO (a q k x y z : Int32) (M : SM) : Option SM := if k < 7 then (fn_X12_reckons a k x y z M).bind fun M => some M else if k = 15 then (fn_X12_reckons a k x y z M).bind fun M => some M else if k ≤ 18 then (if k = 10 then (fn_X12_reg a y M).bind fun r => (fn_X12_writes x r 0 M).bind fun M => some M else if k = 12 then (if g_in (486 + x) 693 then (fn_X12_gets a y (M 40 0 ((486 + x).toNatClampNeg)) M).bind fun M => some M else none) else if k = 11 then (fn_X12_waits a q k x y z M).bind fun M => some M else if k = 13 then (fn_X12_waits a q k x y z M).bind fun M => some M else if k = 14 then (fn_X12_waits a q k x y z M).bind fun M => some M else if k = 16 then (fn_X12_meets a k x y q M).bind fun M => some M else if k = 17 then (fn_X12_meets a k x y q M).bind fun M => some M else if k = 18 then (if g_in (438 + a) 693 then some (u1 M 40 0 ((438 + a).toNatClampNeg) 4) else none) else some M) else (fn_X12_reckons a k x y z M).bind fun M => some M
theorem mO_at {a q k x y z p : Int32} {M : SM} : wb_X12_does_157 a q k x y z p M = (fn_X12_goesTo a p M).bind fun M => mO a q k x y z M := rfl
/-- both sides go on alike -/
def both (m : Nat) (X M : SM) (p q : Option SM) : Prop := ∃ X' M', p = some X' ∧ q = some M' ∧ stp m X M X' M'
section EX
variable {m a q : Nat} {x y z : Int32} {X M : SM}
theorem ex_wr {b : Nat} {v : Int32} (ha : a < 6) (h : rR m X M) (he : eG m X M) (hb : b < 8) : stp m X M (u1 X 31 (6 * m + a) b v) (u1 M 40 0 (8 * a + b) v) := stp_f (p_reg ha hb h) he (fX_u (ow31 ha) fX_r) (fM_u (by omega) fM_r)
theorem ex_0 (ha : a < 6) (h : rR m X M) (he : eG m X M) (hc : fn_X12_canTell (nI 0) x y z (nI q) = some 1) : both m X M (xO m (6 * m + a) (nI 0) x y z X) (mO (nI a) (nI q) (nI 0) x y z M) := by
  obtain ⟨b, hb, rfl⟩ := ct_1 (by omega) hc
  have e1 : xO m (6 * m + a) (nI 0) (nI b) y z X = ((fn_X9_write (6 * m + a) (nI b) y X).bind fun X => some X).bind fun X => some X := rfl
  have e2 : mO (nI a) (nI q) (nI 0) (nI b) y z M = ((fn_X12_gets (nI a) (nI b) y M).bind fun M => some M).bind fun M => some M := rfl
  rw [e1, e2, x_write hb, m_gets ha hb]
  exact ⟨_, _, rfl, rfl, ex_wr ha h he hb⟩
theorem ex_ar {k : Nat} (f : Int32 → Int32 → Int32) (ha : a < 6) (h : rR m X M) (he : eG m X M) (hk : k = 1 ∨ k = 2 ∨ k = 3 ∨ k = 4 ∨ k = 11 ∨ k = 13 ∨ k = 19 ∨ k = 20) (hc : fn_X12_canTell (nI k) x y z (nI q) = some 1) (e1 : xO m (6 * m + a) (nI k) x y z X = (fn_X9_read (6 * m + a) y X).bind fun r => (fn_X9_read (6 * m + a) z X).bind fun s => fn_X9_write (6 * m + a) x (f r s) X) (e2 : mO (nI a) (nI q) (nI k) x y z M = (fn_X12_reg (nI a) y M).bind fun r => (fn_X12_reg (nI a) z M).bind fun s => fn_X12_gets (nI a) x (f r s) M) : both m X M (xO m (6 * m + a) (nI k) x y z X) (mO (nI a) (nI q) (nI k) x y z M) := by
  obtain ⟨b, c, d, hb, hc', hd, rfl, rfl, rfl⟩ := ct_3 hk hc
  rw [e1, e2, x_read hc', x_read hd, m_reg ha hc', m_reg ha hd, rR_rA h a c ha hc', rR_rA h a d ha hd]
  simp only [Option.bind_some, x_write hb, m_gets ha hb]
  exact ⟨_, _, rfl, rfl, ex_wr ha h he hb⟩
theorem bind_id (o : Option SM) : (o.bind fun X => some X) = o := by cases o <;> rfl
theorem ex_1 (ha : a < 6) (h : rR m X M) (he : eG m X M) (hc : fn_X12_canTell (nI 1) x y z (nI q) = some 1) : both m X M (xO m (6 * m + a) (nI 1) x y z X) (mO (nI a) (nI q) (nI 1) x y z M) := by
  have e1 : xO m (6 * m + a) (nI 1) x y z X = ((fn_X9_read (6 * m + a) y X).bind fun r => (fn_X9_read (6 * m + a) z X).bind fun s => (fn_X9_write (6 * m + a) x (r + s) X).bind fun X => some X).bind fun X => some X := rfl
  have e2 : mO (nI a) (nI q) (nI 1) x y z M = ((fn_X12_reg (nI a) y M).bind fun r => (fn_X12_reg (nI a) z M).bind fun s => (fn_X12_gets (nI a) x (r + s) M).bind fun M => some M).bind fun M => some M := rfl
  simp only [bind_id] at e1 e2
  exact ex_ar (fun r s => r + s) ha h he (by omega) hc e1 e2
theorem ex_2 (ha : a < 6) (h : rR m X M) (he : eG m X M) (hc : fn_X12_canTell (nI 2) x y z (nI q) = some 1) : both m X M (xO m (6 * m + a) (nI 2) x y z X) (mO (nI a) (nI q) (nI 2) x y z M) := by
  have e1 : xO m (6 * m + a) (nI 2) x y z X = ((fn_X9_read (6 * m + a) y X).bind fun r => (fn_X9_read (6 * m + a) z X).bind fun s => (fn_X9_write (6 * m + a) x (r - s) X).bind fun X => some X).bind fun X => some X := rfl
  have e2 : mO (nI a) (nI q) (nI 2) x y z M = ((fn_X12_reg (nI a) y M).bind fun r => (fn_X12_reg (nI a) z M).bind fun s => (fn_X12_gets (nI a) x (r - s) M).bind fun M => some M).bind fun M => some M := rfl
  simp only [bind_id] at e1 e2
  exact ex_ar (fun r s => r - s) ha h he (by omega) hc e1 e2
theorem ex_3 (ha : a < 6) (h : rR m X M) (he : eG m X M) (hc : fn_X12_canTell (nI 3) x y z (nI q) = some 1) : both m X M (xO m (6 * m + a) (nI 3) x y z X) (mO (nI a) (nI q) (nI 3) x y z M) := by
  have e1 : xO m (6 * m + a) (nI 3) x y z X = ((fn_X9_read (6 * m + a) y X).bind fun r => (fn_X9_read (6 * m + a) z X).bind fun s => (fn_X9_write (6 * m + a) x (r * s) X).bind fun X => some X).bind fun X => some X := rfl
  have e2 : mO (nI a) (nI q) (nI 3) x y z M = ((fn_X12_reg (nI a) y M).bind fun r => (fn_X12_reg (nI a) z M).bind fun s => (fn_X12_gets (nI a) x (r * s) M).bind fun M => some M).bind fun M => some M := rfl
  simp only [bind_id] at e1 e2
  exact ex_ar (fun r s => r * s) ha h he (by omega) hc e1 e2
theorem ex_4 (ha : a < 6) (h : rR m X M) (he : eG m X M) (hc : fn_X12_canTell (nI 4) x y z (nI q) = some 1) : both m X M (xO m (6 * m + a) (nI 4) x y z X) (mO (nI a) (nI q) (nI 4) x y z M) := by
  have e1 : xO m (6 * m + a) (nI 4) x y z X = ((fn_X9_read (6 * m + a) y X).bind fun r => (fn_X9_read (6 * m + a) z X).bind fun s => if s ≤ r then (fn_X9_write (6 * m + a) x 0 X).bind fun X => some X else (fn_X9_write (6 * m + a) x 1 X).bind fun X => some X).bind fun X => some X := rfl
  have e2 : mO (nI a) (nI q) (nI 4) x y z M = ((fn_X12_reg (nI a) y M).bind fun r => (fn_X12_reg (nI a) z M).bind fun s => if s ≤ r then (fn_X12_gets (nI a) x 0 M).bind fun M => some M else (fn_X12_gets (nI a) x 1 M).bind fun M => some M).bind fun M => some M := rfl
  have e1' : ∀ r s : Int32, (if s ≤ r then fn_X9_write (6 * m + a) x 0 X else fn_X9_write (6 * m + a) x 1 X) = fn_X9_write (6 * m + a) x (if s ≤ r then 0 else 1) X := fun r s => by split <;> rfl
  have e2' : ∀ r s : Int32, (if s ≤ r then fn_X12_gets (nI a) x 0 M else fn_X12_gets (nI a) x 1 M) = fn_X12_gets (nI a) x (if s ≤ r then 0 else 1) M := fun r s => by split <;> rfl
  simp only [bind_id, e1', e2'] at e1 e2
  exact ex_ar (fun r s => if s ≤ r then 0 else 1) ha h he (by omega) hc e1 e2
theorem ex_19 (ha : a < 6) (h : rR m X M) (he : eG m X M) (hc : fn_X12_canTell (nI 19) x y z (nI q) = some 1) : both m X M (xO m (6 * m + a) (nI 19) x y z X) (mO (nI a) (nI q) (nI 19) x y z M) := by
  have e1 : xO m (6 * m + a) (nI 19) x y z X = ((fn_X9_read (6 * m + a) y X).bind fun r => (fn_X9_read (6 * m + a) z X).bind fun s => (fn_X11_ratioBits r s).bind fun v => (fn_X9_write (6 * m + a) x v X).bind fun X => some X).bind fun X => some X := rfl
  have e2 : mO (nI a) (nI q) (nI 19) x y z M = ((fn_X12_reg (nI a) y M).bind fun r => (fn_X12_reg (nI a) z M).bind fun s => (fn_X12_gets (nI a) x (fn_Jxf58ca_floatToIntBits_5c35a (FP.fdiv (FP.i2f r) (FP.i2f s))) M).bind fun M => some M).bind fun M => some M := rfl
  simp only [bind_id, f_ratio, Option.bind_some] at e1 e2
  exact ex_ar (fun r s => fn_Jxf58ca_floatToIntBits_5c35a (FP.fdiv (FP.i2f r) (FP.i2f s))) ha h he (by omega) hc e1 e2
theorem ex_20 (ha : a < 6) (h : rR m X M) (he : eG m X M) (hc : fn_X12_canTell (nI 20) x y z (nI q) = some 1) : both m X M (xO m (6 * m + a) (nI 20) x y z X) (mO (nI a) (nI q) (nI 20) x y z M) := by
  have hp : ∀ r s, fn_X11_part r s = some (FP.f2i (FP.fdiv (FP.fmul (FP.i2f r) (FP.i2f s)) 1149239296)) := fun r s => by
    unfold fn_X11_part
    rw [if_pos (f_part r s).1, if_pos (f_part r s).2]
  have e1 : xO m (6 * m + a) (nI 20) x y z X = ((fn_X9_read (6 * m + a) y X).bind fun r => (fn_X9_read (6 * m + a) z X).bind fun s => (fn_X11_part r s).bind fun v => (fn_X9_write (6 * m + a) x v X).bind fun X => some X).bind fun X => some X := rfl
  have e2 : mO (nI a) (nI q) (nI 20) x y z M = ((fn_X12_reg (nI a) y M).bind fun r => (fn_X12_reg (nI a) z M).bind fun s => if g_n32 (FP.fmul (FP.i2f r) (FP.i2f s)) then if g_n32 (FP.fdiv (FP.fmul (FP.i2f r) (FP.i2f s)) 1149239296) then (fn_X12_gets (nI a) x (FP.f2i (FP.fdiv (FP.fmul (FP.i2f r) (FP.i2f s)) 1149239296)) M).bind fun M => some M else none else none).bind fun M => some M := rfl
  simp only [bind_id, hp, Option.bind_some] at e1
  have e2' : ∀ r s, (if g_n32 (FP.fmul (FP.i2f r) (FP.i2f s)) then if g_n32 (FP.fdiv (FP.fmul (FP.i2f r) (FP.i2f s)) 1149239296) then fn_X12_gets (nI a) x (FP.f2i (FP.fdiv (FP.fmul (FP.i2f r) (FP.i2f s)) 1149239296)) M else none else none) = fn_X12_gets (nI a) x (FP.f2i (FP.fdiv (FP.fmul (FP.i2f r) (FP.i2f s)) 1149239296)) M := fun r s => by rw [if_pos (f_part r s).1, if_pos (f_part r s).2]
  simp only [bind_id, e2'] at e2
  exact ex_ar (fun r s => FP.f2i (FP.fdiv (FP.fmul (FP.i2f r) (FP.i2f s)) 1149239296)) ha h he (by omega) hc e1 e2
theorem ex_5 (ha : a < 6) (h : rR m X M) (he : eG m X M) (hc : fn_X12_canTell (nI 5) x y z (nI q) = some 1) (ho : okc M a y) : both m X M (xO m (6 * m + a) (nI 5) x y z X) (mO (nI a) (nI q) (nI 5) x y z M) := by
  have e1 : xO m (6 * m + a) (nI 5) x y z X = ((fn_X9_read (6 * m + a) y X).bind fun r => (fn_X9_load (6 * m + a) x r X).bind fun X => some X).bind fun X => some X := rfl
  have e2 : mO (nI a) (nI q) (nI 5) x y z M = ((fn_X12_reg (nI a) y M).bind fun r => if g_in (48 + 16 * nI a + r) 693 then (fn_X12_gets (nI a) x (M 40 0 ((48 + 16 * nI a + r).toNatClampNeg)) M).bind fun M => some M else none).bind fun M => some M := rfl
  obtain ⟨b, b', hb, -, rfl, -⟩ := ct_2 (by omega) hc
  obtain ⟨n, c, d, hd, rfl, hn, en, hc', ec⟩ := ho
  rw [e1, e2, x_read hd, m_reg ha hd, rR_rA h a d ha hd, ec]
  unfold fn_X9_load
  simp only [Option.bind_some, g_let_eq, x_cellin hn ((rR_rO h a ha).trans en) hc', if_neg one0, if_pos (g_inI (show c < 16 by omega) (by decide)), nI_clamp (show c < 2 ^ 31 by omega), ix48, if_pos (in693 (show 48 + 16 * a + c < 693 by omega)), cl693 (show 48 + 16 * a + c < 693 by omega), rR_rB h a c ha (by omega), x_write hb, m_gets ha hb]
  exact ⟨_, _, rfl, rfl, ex_wr ha h he hb⟩
theorem ex_6 (ha : a < 6) (h : rR m X M) (he : eG m X M) (hc : fn_X12_canTell (nI 6) x y z (nI q) = some 1) (ho : okc M a y) : both m X M (xO m (6 * m + a) (nI 6) x y z X) (mO (nI a) (nI q) (nI 6) x y z M) := by
  have e1 : xO m (6 * m + a) (nI 6) x y z X = ((fn_X9_read (6 * m + a) y X).bind fun r => (fn_X9_read (6 * m + a) x X).bind fun s => (fn_X9_store (6 * m + a) r s X).bind fun X => some X).bind fun X => some X := rfl
  have e2 : mO (nI a) (nI q) (nI 6) x y z M = ((fn_X12_reg (nI a) y M).bind fun r => (fn_X12_reg (nI a) x M).bind fun s => if g_in (48 + 16 * nI a + r) 693 then some (u1 M 40 0 ((48 + 16 * nI a + r).toNatClampNeg) s) else none).bind fun M => some M := rfl
  obtain ⟨b, b', hb, -, rfl, -⟩ := ct_2 (by omega) hc
  obtain ⟨n, c, d, hd, rfl, hn, en, hc', ec⟩ := ho
  rw [e1, e2, x_read hd, m_reg ha hd, x_read hb, m_reg ha hb, rR_rA h a d ha hd, rR_rA h a b ha hb, ec]
  unfold fn_X9_store
  simp only [Option.bind_some, g_let_eq, x_cellin hn ((rR_rO h a ha).trans en) hc', if_neg one0, if_pos (g_inI (show c < 16 by omega) (by decide)), nI_clamp (show c < 2 ^ 31 by omega), ix48, if_pos (in693 (show 48 + 16 * a + c < 693 by omega)), cl693 (show 48 + 16 * a + c < 693 by omega)]
  exact ⟨_, _, rfl, rfl, stp_f (p_cell ha (by omega) h) he (fX_u (ow32 ha) fX_r) (fM_u (by omega) fM_r)⟩
theorem ex_no {k : Nat} (h : rR m X M) (he : eG m X M) (hk : k = 7 ∨ k = 8 ∨ k = 9) : both m X M (xO m (6 * m + a) (nI k) x y z X) (mO (nI a) (nI q) (nI k) x y z M) := by
  rcases hk with rfl | rfl | rfl
  · exact ⟨X, M, rfl, rfl, stp_r h he⟩
  · exact ⟨X, M, rfl, rfl, stp_r h he⟩
  · exact ⟨X, M, rfl, rfl, stp_r h he⟩
theorem ex_10 (ha : a < 6) (h : rR m X M) (he : eG m X M) (hc : fn_X12_canTell (nI 10) x y z (nI q) = some 1) : both m X M (xO m (6 * m + a) (nI 10) x y z X) (mO (nI a) (nI q) (nI 10) x y z M) := by
  have e1 : xO m (6 * m + a) (nI 10) x y z X = ((fn_X9_read (6 * m + a) y X).bind fun r => (fn_X8_write m x (r &&& 1) (X 7 m 5) 0 X).bind fun X => some X).bind fun X => some X := rfl
  have e2 : mO (nI a) (nI q) (nI 10) x y z M = (fn_X12_reg (nI a) y M).bind fun r => (fn_X12_writes x r 0 M).bind fun M => some M := rfl
  obtain ⟨p, b, hp, hb, rfl, rfl⟩ := ct_2 (by omega) hc
  obtain ⟨X1, M1, g1, g2, g3, -⟩ := d_write (v := M 40 0 (8 * a + b)) (l := 0) hp (Or.inl rfl) h he
  rw [e1, e2, x_read hb, m_reg ha hb, rR_rA h a b ha hb]
  simp only [Option.bind_some, g1, g2]
  exact ⟨_, _, rfl, rfl, g3⟩
theorem ex_12 (ha : a < 6) (h : rR m X M) (he : eG m X M) (hc : fn_X12_canTell (nI 12) x y z (nI q) = some 1) : both m X M (xO m (6 * m + a) (nI 12) x y z X) (mO (nI a) (nI q) (nI 12) x y z M) := by
  have e1 : xO m (6 * m + a) (nI 12) x y z X = ((fn_X8_levelOf m x X).bind fun r => (fn_X9_write (6 * m + a) y r X).bind fun X => some X).bind fun X => some X := rfl
  have e2 : mO (nI a) (nI q) (nI 12) x y z M = (if g_in (486 + x) 693 then (fn_X12_gets (nI a) y (M 40 0 ((486 + x).toNatClampNeg)) M).bind fun M => some M else none) := rfl
  obtain ⟨p, b, hp, hb, rfl, rfl⟩ := ct_2 (by omega) hc
  rw [e1, e2, x_level hp, ix486, if_pos (in693 (show 486 + p < 693 by omega)), cl693 (show 486 + p < 693 by omega), rR_rP h p hp]
  simp only [Option.bind_some, x_write hb, m_gets ha hb]
  exact ⟨_, _, rfl, rfl, ex_wr ha h he hb⟩
theorem ex_15 (ha : a < 6) (h : rR m X M) (he : eG m X M) (hc : fn_X12_canTell (nI 15) x y z (nI q) = some 1) : both m X M (xO m (6 * m + a) (nI 15) x y z X) (mO (nI a) (nI q) (nI 15) x y z M) := by
  have e1 : xO m (6 * m + a) (nI 15) x y z X = ((fn_X9_write (6 * m + a) x (X 7 m 5) X).bind fun X => some X).bind fun X => some X := rfl
  have e2 : mO (nI a) (nI q) (nI 15) x y z M = ((fn_X12_gets (nI a) x (M 40 0 683) M).bind fun M => some M).bind fun M => some M := rfl
  obtain ⟨b, hb, rfl⟩ := ct_1 (by omega) hc
  rw [e1, e2, x_write hb, m_gets ha hb, (rR_rN h).1]
  exact ⟨_, _, rfl, rfl, ex_wr ha h he hb⟩
theorem ex_18 (ha : a < 6) (h : rR m X M) (he : eG m X M) (h0 : M 40 0 (438 + a) = 0) : both m X M (xO m (6 * m + a) (nI 18) x y z X) (mO (nI a) (nI q) (nI 18) x y z M) := by
  have e1 : xO m (6 * m + a) (nI 18) x y z X = some (u1 X 9 (6 * m + a) 9 4) := rfl
  have e2 : mO (nI a) (nI q) (nI 18) x y z M = (if g_in (438 + nI a) 693 then some (u1 M 40 0 ((438 + nI a).toNatClampNeg) 4) else none) := rfl
  rw [e1, e2, ix438, if_pos (in693 (show 438 + a < 693 by omega)), cl693 (show 438 + a < 693 by omega)]
  exact ⟨_, _, rfl, rfl, stp_f (p_idle (s := 4) ha h (nq_s h ha (by rw [h0]; decide) (by rw [h0]; decide)) (by omega) ((rR_rE h a ha).1 (by rw [h0]; decide))) he (fX_u (ow9 ha) fX_r) (fM_u (by omega) fM_r)⟩
end EX
