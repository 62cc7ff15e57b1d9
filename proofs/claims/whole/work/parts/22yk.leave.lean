/-! the tick: a thread that is met at a channel leaves it -/
theorem mq_u {M : SM} {c n j : Nat} {g : Nat → Int32} {v : Int32} (hc : c < 4) (hj : j < 494 ∨ 522 ≤ j) : mq (u1 M 40 0 j v) c g n = u1 (mq M c g n) 40 0 j v := by
  funext a b i
  unfold mq
  simp only [u1_at]
  by_cases q : a = 40 ∧ b = 0 ∧ 494 + 6 * c ≤ i ∧ i < 500 + 6 * c
  · rw [if_pos q, if_neg (by omega), if_pos q]
  · rw [if_neg q, if_neg q]
    by_cases z : a = 40 ∧ b = 0 ∧ i = 518 + c
    · rw [if_pos z, if_neg (by omega), if_pos z]
    · rw [if_neg z, if_neg z]
theorem p_leave2 {m c t jj : Nat} {vv : Int32} {X M : SM} (hc : c < 4) (hjj : jj < 494 ∨ 522 ≤ jj) (h : rR m X M) (k2 : Int32 → Int32 → SM → Option SM) : ∃ (n : Nat) (g g' : Nat → Int32), fn_X0_leave m (nI c) (nI t) X = some (xq X m c g n) ∧ wl_X12_leaves_12 k2 1000 (nI t) (nI c) 0 0 (u1 M 40 0 jj vv) = k2 (nI t) (nI c + 1) (u1 (mq M c g' n) 40 0 jj vv) ∧ rR m (xq X m c g n) (mq M c g' n) ∧ nq (mq M c g' n) t c := by
  obtain ⟨len, ha, hb, hd⟩ := rR_rQ h
  obtain ⟨q1, q2, q3⟩ := ha c hc
  obtain ⟨L', φ, g, g', l1, l2, l3, l4, l5⟩ := leave_loop (m := m) (v := nI t) (ρ := fun k => M 40 0 (494 + 6 * c + k)) hc q3 k2 (len c) 0 0 (fun k => k) X (u1 M 40 0 jj vv) 1000 1000 (by omega) (by omega) (by omega) (by omega) q1 ((u1_ne (by omega)).trans q2) (fun k _ hk => ⟨(hb c k hc hk).1, u1_ne (by omega)⟩) (fun k hk => absurd hk (Nat.not_lt_zero _)) (fun k l _ hl => absurd hl (Nat.not_lt_zero _))
  have xk : ∀ k i j, k ≠ 14 → k ≠ 15 → xq X m c g L' k i j = X k i j := fun k i j h1 h2 => by
    unfold xq
    rw [if_neg (fun q => h1 q.1), u1_k h2]
  have mM : ∀ j, ¬ ((494 + 6 * c ≤ j ∧ j < 500 + 6 * c) ∨ j = 518 + c) → mq M c g' L' 40 0 j = M 40 0 j := fun j hj => by
    unfold mq
    rw [if_neg (by omega), u1_ne (by omega)]
  have mg : ∀ k, k < 6 → mq M c g' L' 40 0 (494 + 6 * c + k) = g' k := fun k hk => by
    unfold mq
    rw [if_pos ⟨rfl, rfl, by omega, by omega⟩, show 494 + 6 * c + k - (494 + 6 * c) = k by omega]
  have ml : mq M c g' L' 40 0 (518 + c) = nI L' := by
    unfold mq
    rw [if_neg (by omega), u1_self]
  have mK : ∀ k j, k ≠ 40 → mq M c g' L' k 0 j = M k 0 j := fun k j hk => by
    unfold mq
    rw [if_neg (fun q => hk q.1), u1_k hk]
  have xg : ∀ k, k < 6 → xq X m c g L' 14 (4 * m + c) k = g k := fun k hk => if_pos ⟨rfl, rfl, hk⟩
  have xo : ∀ d k, d ≠ c → xq X m c g L' 14 (4 * m + d) k = X 14 (4 * m + d) k := fun d k hd' => by
    unfold xq
    rw [if_neg (by omega), u1_k (by decide)]
  have xl : xq X m c g L' 15 m c = nI L' := by
    unfold xq
    rw [if_neg (by omega), u1_self]
  have xlo : ∀ d, d ≠ c → xq X m c g L' 15 m d = X 15 m d := fun d hd' => by
    unfold xq
    rw [if_neg (by omega), u1_ne (fun q => hd' q.2.2)]
  refine ⟨L', g, g', ?_, l3.trans (by rw [mq_u hc hjj]), rR_q xk (fun j hj => mM j (by omega)) mK ?_ h, ?_⟩
  · unfold fn_X0_leave
    simp only [if_neg (nI_pos (show c < 2 ^ 31 by omega)), if_pos (show nI c < 4 from nI_lt (b := 4) hc (by decide)), if_pos (g_inI hc (by decide)), nI_clamp (show c < 2 ^ 31 by omega), g_let_eq]
    exact l2
  · refine ⟨fun d => if d = c then L' else len d, fun d hd' => ?_, fun d k hd' hk => ?_, fun d k e l hd' he hk hl => ?_⟩
    · by_cases z : d = c
      · subst z
        simp only [if_true]
        exact ⟨xl, ml, by omega⟩
      · simp only [if_neg z]
        rw [xlo d z, mM _ (by omega)]
        exact ha d hd'
    · by_cases z : d = c
      · subst z
        simp only [if_true] at hk
        obtain ⟨y1, y2, y3, y4⟩ := l4 k hk
        obtain ⟨p1, t', ht', p2, p3⟩ := hb d (φ k) hd' y3
        rw [xg k (by omega), mg k (by omega), y1, y2]
        refine ⟨rfl, t', ht', p2, ?_⟩
        rw [mM _ (by omega)]
        exact p3
      · simp only [if_neg z] at hk
        have hl' := (ha d hd').2.2
        obtain ⟨p1, t', ht', p2, p3⟩ := hb d k hd' hk
        rw [xo d k z, mM _ (by omega)]
        refine ⟨p1, t', ht', p2, ?_⟩
        rw [mM _ (by omega)]
        exact p3
    · by_cases z : d = c
      · by_cases z' : e = c
        · subst z
          subst z'
          simp only [if_true] at hk hl
          rw [mg k (by omega), mg l (by omega), (l4 k hk).2.1, (l4 l hl).2.1]
          intro q
          have f1 := (hd _ _ _ _ hd' he (l4 k hk).2.2.1 (l4 l hl).2.2.1 q).2
          refine ⟨rfl, ?_⟩
          rcases Nat.lt_trichotomy k l with y | y | y
          · exact absurd f1 (Nat.ne_of_lt (l5 k l y hl))
          · exact y
          · exact absurd f1.symm (Nat.ne_of_lt (l5 l k y hk))
        · subst z
          simp only [if_true] at hk
          simp only [if_neg z'] at hl
          have hl' := (ha e he).2.2
          rw [mg k (by omega), mM _ (by omega), (l4 k hk).2.1]
          intro q
          exact absurd (hd _ _ _ _ hd' he (l4 k hk).2.2.1 hl q).1.symm z'
      · by_cases z' : e = c
        · subst z'
          simp only [if_true] at hl
          simp only [if_neg z] at hk
          have hl' := (ha d hd').2.2
          rw [mg l (by omega), mM _ (by omega), (l4 l hl).2.1]
          intro q
          exact absurd (hd _ _ _ _ hd' he hk (l4 l hl).2.2.1 q).1 z
        · simp only [if_neg z] at hk
          simp only [if_neg z'] at hl
          have hl1 := (ha d hd').2.2
          have hl2 := (ha e he).2.2
          rw [mM _ (by omega), mM _ (by omega)]
          exact hd d k e l hd' he hk hl
  · intro n k hn e hk
    have : n = L' := (nI_eq (by omega) (by omega)).mp (e.symm.trans ml)
    subst this
    rw [mg k (by omega), (l4 k hk).2.1]
    exact (l4 k hk).2.2.2
def nz (M : SM) (v : Int32) (c : Nat) : Prop := ∃ L, L ≤ 6 ∧ M 40 0 (518 + c) = nI L ∧ ∀ k, k < L → M 40 0 (494 + 6 * c + k) ≠ v
theorem leave_none {d L : Nat} {v : Int32} (k2 : Int32 → Int32 → SM → Option SM) (hd : d < 4) (hL : L ≤ 6) {M : SM} (eL : M 40 0 (518 + d) = nI L) (hz : ∀ k, k < L → M 40 0 (494 + 6 * d + k) ≠ v) : ∀ (e r f : Nat), r + e = L → e < f → wl_X12_leaves_12 k2 f v (nI d) (nI r) (nI r) M = k2 v (nI (d + 1)) M := by
  intro e
  induction e with
  | zero =>
    intro r f h1 h2
    obtain ⟨f, rfl⟩ : ∃ q, f = q + 1 := ⟨f - 1, by omega⟩
    have : r = L := by omega
    subst this
    rw [wl_X12_leaves_12_s]
    unfold wb_X12_leaves_12
    simp only [ix518, if_pos (in693 (show 518 + d < 693 by omega)), cl693 (show 518 + d < 693 by omega), eL, if_pos (nI_le (Nat.le_refl r) (show r < 2 ^ 31 by omega)), g_let_eq, nI_1]
    congr 1
    rw [← eL]
    exact u1_id
  | succ e ih =>
    intro r f h1 h2
    obtain ⟨f, rfl⟩ : ∃ q, f = q + 1 := ⟨f - 1, by omega⟩
    rw [wl_X12_leaves_12_s]
    unfold wb_X12_leaves_12
    simp only [ix518, if_pos (in693 (show 518 + d < 693 by omega)), cl693 (show 518 + d < 693 by omega), eL, if_neg (nI_ge (show r < L by omega) (show L < 2 ^ 31 by omega)), ix494b, if_pos (in693 (show 494 + 6 * d + r < 693 by omega)), cl693 (show 494 + 6 * d + r < 693 by omega), if_neg (hz r (by omega)), g_let_eq, nI_1, u1_id]
    exact ih (r + 1) f (by omega) (by omega)
theorem lv_rest {v : Int32} {M : SM} : ∀ (e d f : Nat), d + e = 4 → e < f → (∀ c, d ≤ c → c < 4 → nz M v c) → wl_X12_leaves_2 f v (nI d) M = some M := by
  intro e
  induction e with
  | zero =>
    intro d f h1 h2 h3
    obtain ⟨f, rfl⟩ : ∃ q, f = q + 1 := ⟨f - 1, by omega⟩
    have : d = 4 := by omega
    subst this
    rfl
  | succ e ih =>
    intro d f h1 h2 h3
    obtain ⟨f, rfl⟩ : ∃ q, f = q + 1 := ⟨f - 1, by omega⟩
    obtain ⟨L, hL, eL, hz⟩ := h3 d (Nat.le_refl d) (by omega)
    rw [wl_X12_leaves_2_s]
    unfold wb_X12_leaves_2
    rw [if_neg (show ¬ (4 : Int32) ≤ nI d from nI_ge (b := 4) (by omega) (by decide)), show wl_X12_leaves_12 (fun x1 x2 M => wl_X12_leaves_2 f x1 x2 M) 1000 v (nI d) 0 0 M = _ from leave_none (fun x1 x2 M => wl_X12_leaves_2 f x1 x2 M) (by omega) hL eL hz L 0 1000 (by omega) (by omega)]
    exact ih (d + 1) f (by omega) (by omega) (fun c h1 h2 => h3 c (by omega) h2)
theorem lv_to {v : Int32} {M : SM} {c : Nat} (hc : c < 4) : ∀ (e d f : Nat), d + e = c → (∀ c', d ≤ c' → c' < c → nz M v c') → wl_X12_leaves_2 (f + e) v (nI d) M = wl_X12_leaves_2 f v (nI c) M := by
  intro e
  induction e with
  | zero =>
    intro d f h1 h3
    have : d = c := by omega
    subst this
    rfl
  | succ e ih =>
    intro d f h1 h3
    obtain ⟨L, hL, eL, hz⟩ := h3 d (Nat.le_refl d) (by omega)
    rw [show f + (e + 1) = (f + e) + 1 from rfl, wl_X12_leaves_2_s]
    unfold wb_X12_leaves_2
    rw [if_neg (show ¬ (4 : Int32) ≤ nI d from nI_ge (b := 4) (by omega) (by decide)), show wl_X12_leaves_12 (fun x1 x2 M => wl_X12_leaves_2 (f + e) x1 x2 M) 1000 v (nI d) 0 0 M = _ from leave_none (fun x1 x2 M => wl_X12_leaves_2 (f + e) x1 x2 M) (by omega) hL eL hz L 0 1000 (by omega) (by omega)]
    exact ih (d + 1) f (by omega) (fun c' h1 h2 => h3 c' (by omega) h2)
theorem nz_q {m t d : Nat} {X M : SM} (h : rR m X M) (hd : d < 4) (hn : nq M t d) : nz M (nI t) d := by
  obtain ⟨len, ha, -, -⟩ := rR_rQ h
  exact ⟨len d, (ha d hd).2.2, (ha d hd).2.1, fun k hk => hn (len d) k (ha d hd).2.2 (ha d hd).2.1 hk⟩
theorem nz_c {M M' : SM} {v : Int32} {c : Nat} (h0 : M' 40 0 (518 + c) = M 40 0 (518 + c)) (h1 : ∀ k, k < 6 → M' 40 0 (494 + 6 * c + k) = M 40 0 (494 + 6 * c + k)) (h : nz M v c) : nz M' v c := by
  obtain ⟨L, hL, e, hk⟩ := h
  exact ⟨L, hL, h0.trans e, fun k hk' => by rw [h1 k (by omega)]; exact hk k hk'⟩
theorem leaves_one {m c t j : Nat} {v : Int32} {X M : SM} (hc : c < 4) (hj : j < 494 ∨ 522 ≤ j) (h : rR m X M) (hn : ∀ d, d < 4 → d ≠ c → nq M t d) : ∃ (n : Nat) (g g' : Nat → Int32), fn_X0_leave m (nI c) (nI t) X = some (xq X m c g n) ∧ fn_X12_leaves (nI t) (u1 M 40 0 j v) = some (u1 (mq M c g' n) 40 0 j v) ∧ rR m (xq X m c g n) (mq M c g' n) ∧ ∀ d, d < 4 → nq (mq M c g' n) t d := by
  obtain ⟨n, g, g', e1, e2, e3, e4⟩ := p_leave2 (t := t) (vv := v) hc hj h (fun x1 x2 M => wl_X12_leaves_2 (999 - c) x1 x2 M)
  refine ⟨n, g, g', e1, ?_, e3, fun d hd => ?_⟩
  · unfold fn_X12_leaves
    rw [show wl_X12_leaves_2 1000 (nI t) 0 (u1 M 40 0 j v) = wl_X12_leaves_2 ((1000 - c) + c) (nI t) (nI 0) (u1 M 40 0 j v) by rw [Nat.sub_add_cancel (by omega)]; rfl, lv_to hc c 0 (1000 - c) (by omega) (fun c' _ h2 => nz_c (M := M) (u1_ne (by omega)) (fun k hk => u1_ne (by omega)) (nz_q h (by omega) (hn c' (by omega) (by omega)))), show 1000 - c = (999 - c) + 1 by omega, wl_X12_leaves_2_s]
    unfold wb_X12_leaves_2
    rw [if_neg (show ¬ (4 : Int32) ≤ nI c from nI_ge (b := 4) (by omega) (by decide)), e2, nI_1]
    exact lv_rest (3 - c) (c + 1) (999 - c) (by omega) (by omega) (fun c' h1 h2 => nz_c (M := M) ((u1_ne (by omega)).trans (mq_other (by omega))) (fun k hk => (u1_ne (by omega)).trans (mq_other (by omega))) (nz_q h (by omega) (hn c' (by omega) (by omega))))
  · by_cases z : d = c
    · subst z
      exact e4
    · exact nq_c (mq_other (by omega)) (fun k hk => mq_other (by omega)) (hn d hd z)
theorem d_release {m c f L : Nat} {X M : SM} (hf : f < 6) (hc : c < 4) (h : rR m X M) (he : eG m X M) (hs : M 40 0 (438 + f) = 2 ∨ M 40 0 (438 + f) = 3) (hL : 0 < L) (hL' : L ≤ 6) (eL : M 40 0 (518 + c) = nI L) (ef : M 40 0 (494 + 6 * c) = nI f) : ∃ X' M', fn_X7_release m (nI c) (6 * m + f) X = some X' ∧ ((fn_X12_leaves (nI f) (u1 M 40 0 (438 + f) 0)).bind fun M_29 => some (u1 M_29 40 0 686 (M_29 40 0 686 + 1))) = some M' ∧ stp m X M X' M' := by
  have hn : ∀ d, d < 4 → d ≠ c → nq M f d := by
    intro d hd hdc n k hn e hk q
    obtain ⟨len, ha, hb, hD⟩ := rR_rQ h
    have e1 : n = len d := (nI_eq (by omega) (by have := (ha d hd).2.2; omega)).mp (e.symm.trans (ha d hd).2.1)
    have e2 : L = len c := (nI_eq (by omega) (by have := (ha c hc).2.2; omega)).mp (eL.symm.trans (ha c hc).2.1)
    exact hdc (hD c 0 d k hc hd (by omega) (by omega) (ef.trans q.symm)).1.symm
  obtain ⟨n, g, g', e1, e2, e3, e4⟩ := leaves_one (v := 0) (j := 438 + f) hc (by omega) h hn
  unfold fn_X7_release
  rw [rR_rU h f hf, e1, e2]
  simp only [Option.bind_some, g_let_eq]
  have ht : mq M c g' n 40 0 (468 + f) = -1 := (mq_other (by omega)).trans ((rR_rE h f hf).1 (by rcases hs with q | q <;> rw [q] <;> decide))
  have hi := p_idle (s := 0) hf e3 e4 (by omega) ht
  have e11 : u1 (xq X m c g n) 9 (6 * m + f) 9 0 7 m 11 = u1 (mq M c g' n) 40 0 (438 + f) 0 40 0 686 := (rR_rN hi).2.2.2
  rw [e11]
  have fx : fX m X (xq X m c g n) := fun k i j q => xq_other (fun w => q (by rw [w.1, w.2]; exact ow14 hc)) (fun w => q (by rw [w.1, w.2]; exact ow15))
  have fm : fM M (mq M c g' n) := fun k j q => mq_other (by omega)
  exact ⟨_, _, rfl, rfl, stp_f (p_pass hi) he (fX_u ow7 (fX_u (ow9 hf) fx)) (fM_u (by omega) (fM_u (by omega) fm))⟩
