/-! the tick: what comes to pins from outside; a pin is written -/
theorem rR_e {m : Nat} {X X' M M' : SM} (hX : ∀ k i j, k ≠ 3 → k ≠ 21 → X' k i j = X k i j) (hM : ∀ j, j < 522 ∨ 682 < j → M' 40 0 j = M 40 0 j) (hK : ∀ k j, k ≠ 40 → M' k 0 j = M k 0 j) (hE : iE M') (h : rR m X M) : rR m X' M' := ⟨rA_c (X := X) (M := M) (fun t r ht hr => hX _ _ _ (by omega) (by omega)) (fun j hj => hM _ (by omega)) (rR_rA h), rB_c (X := X) (M := M) (fun t r ht hr => hX _ _ _ (by omega) (by omega)) (fun j h1 h2 => hM _ (by omega)) (rR_rB h), rW_c (X := X) (M := M) (fun t r ht hr => hX _ _ _ (by omega) (by omega)) (fun j h1 h2 => hM _ (by omega)) (rR_rW h), rL_c (X := X) (M := M) (fun t ht => hX _ _ _ (by omega) (by omega)) (fun j h1 h2 => hM _ (by omega)) (rR_rL h), rP_c (X := X) (M := M) (fun t ht => hX _ _ _ (by omega) (by omega)) (fun j h1 h2 => hM _ (by omega)) (rR_rP h), rK_c (X := X) (M := M) (fun t ht => hX _ _ _ (by omega) (by omega)) (fun j h1 => hK _ _ (by decide)) (rR_rK h), rN_c (X := X) (M := M) (fun j hj => hX _ _ _ (by omega) (by omega)) (fun j h1 h2 => hM _ (by omega)) (rR_rN h), rC_c (X := X) (M := M) (fun k t p h1 h2 ht hp => hX _ _ _ (by omega) (by omega)) (fun j => hK _ _ (by decide)) (rR_rC h), rM_c (X := X) (M := M) (fun t ht => hX _ _ _ (by omega) (by omega)) (fun t ht => hK _ _ (by decide)) (rR_rM h), rO_c (X := X) (M := M) (fun t ht => hX _ _ _ (by omega) (by omega)) (fun t ht => hK _ _ (by decide)) (rR_rO h), rH_c (X := X) (M := M) (fun t ht => hX _ _ _ (by omega) (by omega)) (fun t ht => hK _ _ (by decide)) (rR_rH h), rU_c (X := X) (M := M) (fun t ht => hX _ _ _ (by omega) (by omega)) (rR_rU h), rQ_c (X := X) (M := M) (fun c k hc hk => hX _ _ _ (by omega) (by omega)) (fun c hc => hX _ _ _ (by omega) (by omega)) (fun j h1 h2 => hM _ (by omega)) (fun t ht _ => hM _ (by omega)) (rR_rQ h), rS_c (X := X) (M := M) (fun j hj => hX _ _ _ (by omega) (by omega)) (fun j h1 h2 => hM _ (by omega)) (fun j h1 h2 => hM _ (by omega)) (rR_rS h), rZ_c (X := X) (M := M) (fun t p ht hp => hX _ _ _ (by omega) (by omega)) (fun j h1 h2 => hM _ (by omega)) (fun j => hK _ _ (by decide)) (fun t ht => hK _ _ (by decide)) (rR_rZ h), rE_c (X := X) (M := M) (fun t j ht hj => hX _ _ _ (by omega) (by omega)) (fun t ht => ⟨hM _ (by omega), hM _ (by omega), hM _ (by omega), hM _ (by omega)⟩) (fun j => hK _ _ (by decide)) (fun t ht => hK _ _ (by decide)) (rR_rE h), iC_c (M := M) (fun t ht => hM _ (by omega)) (fun j => hK _ _ (by decide)) (fun t ht => hK _ _ (by decide)) (rR_iC h), iT_c (M := M) (fun t ht => hM _ (by omega)) (rR_iT h), iL_c (M := M) (hM _ (by omega)) (rR_iL h), iO_c (M := M) (fun t ht => hK _ _ (by decide)) (rR_iO h), iK_c (M := M) (fun t ht => hK _ _ (by decide)) (rR_iK h), hE⟩
theorem x_drive {m p : Nat} {v : Int32} {X : SM} (hp : p < 8) : fn_X8_drive m (nI p) v X = some (u1 X 30 m p v) := by
  unfold fn_X8_drive
  rw [g_let_eq, isPin_in hp, if_neg one0, if_pos (g_inI hp (by decide)), nI_clamp (by omega)]
  rfl
theorem ev_loop {m e : Nat} {t : Int32} (he : e ≤ 32) : ∀ (d i : Nat) (X M : SM) (f f' : Nat), i + d = e → d < f → d < f' → rR m X M → eG m X M → X 5 0 3 = nI e → M 39 0 10 = nI e → (∀ i, i < e → X 23 0 i = M 47 0 i ∧ X 22 0 i = M 48 0 i ∧ X 24 0 i = M 49 0 i ∧ ∃ p, p < 8 ∧ M 48 0 i = nI p) → ∃ X' M', wl_X5_comeTo_2 f m t (nI i) X = some X' ∧ wl_X12_ticks_11 f' t (nI i) M = wl_X12_ticks_58 1000 t 0 M' ∧ stp m X M X' M' := by
  intro d
  induction d with
  | zero =>
    intro i X M f f' h1 h2 h3 h he' e1 e2 e3
    obtain ⟨f, rfl⟩ : ∃ q, f = q + 1 := ⟨f - 1, by omega⟩
    obtain ⟨f', rfl⟩ : ∃ q, f' = q + 1 := ⟨f' - 1, by omega⟩
    have : i = e := by omega
    subst this
    refine ⟨X, M, ?_, ?_, stp_r h he'⟩
    · rw [wl_X5_comeTo_2_s]
      unfold wb_X5_comeTo_2
      rw [e1, if_pos (nI_le (Nat.le_refl _) (by omega))]
    · rw [wl_X12_ticks_11_s]
      unfold wb_X12_ticks_11
      rw [e2, if_pos (nI_le (Nat.le_refl _) (by omega))]
  | succ d ih =>
    intro i X M f f' h1 h2 h3 h he' e1 e2 e3
    obtain ⟨f, rfl⟩ : ∃ q, f = q + 1 := ⟨f - 1, by omega⟩
    obtain ⟨f', rfl⟩ : ∃ q, f' = q + 1 := ⟨f' - 1, by omega⟩
    obtain ⟨g1, g2, g3, p, hp, g4⟩ := e3 i (by omega)
    rw [wl_X5_comeTo_2_s, wl_X12_ticks_11_s]
    unfold wb_X5_comeTo_2 wb_X12_ticks_11
    simp only [e1, e2, if_neg (nI_ge (show i < e by omega) (show e < 2 ^ 31 by omega)), if_neg (show ¬ (32 : Int32) ≤ nI i from nI_ge (b := 32) (by omega) (by decide)), if_pos (g_inI (show i < 32 by omega) (by decide)), nI_clamp (show i < 2 ^ 31 by omega), g1, g2, g3, g4, ix486, if_pos (in693 (show 486 + p < 693 by omega)), cl693 (show 486 + p < 693 by omega), x_drive hp, Option.bind_some, g_let_eq, nI_1]
    by_cases z : M 47 0 i = t
    · simp only [if_pos z]
      have hs : stp m X M (u1 X 30 m p (M 49 0 i)) (u1 M 40 0 (486 + p) (M 49 0 i)) := stp_f (p_lvl hp h) he' (fX_u ow30 fX_r) (fM_u (by omega) fM_r)
      obtain ⟨X', M', r1, r2, r3⟩ := ih (i + 1) (u1 X 30 m p (M 49 0 i)) (u1 M 40 0 (486 + p) (M 49 0 i)) f f' (by omega) (by omega) (by omega) hs.1 hs.2.1 e1 e2 e3
      exact ⟨X', M', r1, r2, stp_t hs r3⟩
    · simp only [if_neg z]
      exact ih (i + 1) X M f f' (by omega) (by omega) (by omega) h he' e1 e2 e3
/-- the rows of edges from the first to the k-th move on by one -/
def shr (M : SM) (k : Nat) : SM := fun kk i j => if kk = 40 ∧ i = 0 ∧ 526 ≤ j ∧ j < 526 + 4 * k then M 40 0 (j - 4) else M kk i j
def sh1 (M : SM) (k c : Nat) : SM := fun kk i j => if kk = 40 ∧ i = 0 ∧ 522 + 4 * k + c ≤ j ∧ j < 526 + 4 * k then M 40 0 (j - 4) else M kk i j
theorem ixw {k c : Nat} (hk : 1 ≤ k) : ((522 : Int32) + 4 * nI k - 4) + nI c = nI (518 + 4 * k + c) := by
  rw [show (4 : Int32) * nI k = nI (4 * k) from ni_mul 4 k, show (522 : Int32) + nI (4 * k) = nI (522 + 4 * k) from nI_add 522 _, show nI (522 + 4 * k) - 4 = nI (522 + 4 * k - 4) from ni_sub (a := 4) (by omega), nI_add]
  congr 1
  omega
theorem sh1_loop {k : Nat} {x1 x3 x4 x5 : Int32} (k69 : Int32 → Int32 → Int32 → Int32 → Int32 → SM → Option SM) (hk : 1 ≤ k) (hk' : k < 40) : ∀ (d c : Nat) (M : SM) (f : Nat), c + d = 4 → d < f → wl_X12_writes_77 k69 f x1 x3 x4 x5 (nI k) (nI c) M = k69 x1 x3 x4 x5 (nI (k - 1)) (sh1 M k c) := by
  intro d
  induction d with
  | zero =>
    intro c M f h1 h2
    obtain ⟨f, rfl⟩ : ∃ q, f = q + 1 := ⟨f - 1, by omega⟩
    have : c = 4 := by omega
    subst this
    rw [wl_X12_writes_77_s]
    unfold wb_X12_writes_77
    rw [if_pos (show (4 : Int32) ≤ nI 4 by decide), g_let_eq, show nI k + -1 = nI (k - 1) by rw [← Int32.sub_eq_add_neg]; exact ni_sub (a := 1) hk]
    congr 1
    funext kk i j
    exact (if_neg (by omega)).symm
  | succ d ih =>
    intro c M f h1 h2
    obtain ⟨f, rfl⟩ : ∃ q, f = q + 1 := ⟨f - 1, by omega⟩
    rw [wl_X12_writes_77_s]
    unfold wb_X12_writes_77
    simp only [if_neg (show ¬ (4 : Int32) ≤ nI c from nI_ge (b := 4) (by omega) (by decide)), ixw hk, ix522, if_pos (in693 (show 518 + 4 * k + c < 693 by omega)), cl693 (show 518 + 4 * k + c < 693 by omega), if_pos (in693 (show 522 + 4 * k + c < 693 by omega)), cl693 (show 522 + 4 * k + c < 693 by omega), g_let_eq, nI_1]
    rw [ih (c + 1) _ f (by omega) (by omega)]
    congr 1
    funext kk i j
    unfold sh1
    simp only [u1_at]
    by_cases q : kk = 40 ∧ i = 0 ∧ 522 + 4 * k + c ≤ j ∧ j < 526 + 4 * k
    · rw [if_pos q]
      by_cases z : j = 522 + 4 * k + c
      · subst z
        rw [if_neg (by omega), if_pos ⟨q.1, q.2.1, rfl⟩, show 522 + 4 * k + c - 4 = 518 + 4 * k + c by omega]
      · rw [if_pos (by omega), if_neg (by omega)]
    · rw [if_neg q, if_neg (by omega), if_neg (by omega)]
theorem shr_loop {x1 x3 x4 x5 : Int32} : ∀ (k : Nat) (M : SM) (f : Nat), k < 40 → k < f → ∃ f', wl_X12_writes_69 f x1 x3 x4 x5 (nI k) M = wl_X12_writes_69 (f' + 1) x1 x3 x4 x5 0 (shr M k) := by
  intro k
  induction k with
  | zero =>
    intro M f h1 h2
    refine ⟨f - 1, ?_⟩
    rw [show f - 1 + 1 = f by omega, show shr M 0 = M from funext fun kk => funext fun i => funext fun j => if_neg (by omega)]
    rfl
  | succ k ih =>
    intro M f h1 h2
    obtain ⟨f, rfl⟩ : ∃ q, f = q + 1 := ⟨f - 1, by omega⟩
    rw [wl_X12_writes_69_s]
    unfold wb_X12_writes_69
    rw [if_neg (nI_nle (show 0 < k + 1 by omega) (by omega)), show wl_X12_writes_77 (fun x1 x3 x4 x5 x6 M => wl_X12_writes_69 f x1 x3 x4 x5 x6 M) 1000 x1 x3 x4 x5 (nI (k + 1)) 0 M = _ from sh1_loop (fun x1 x3 x4 x5 x6 M => wl_X12_writes_69 f x1 x3 x4 x5 x6 M) (by omega) (by omega) 4 0 M 1000 (by omega) (by omega)]
    obtain ⟨f', e⟩ := ih (sh1 M (k + 1) 0) f (by omega) (by omega)
    refine ⟨f', e.trans ?_⟩
    congr 1
    funext kk i j
    unfold shr sh1
    by_cases q : kk = 40 ∧ i = 0 ∧ 526 ≤ j ∧ j < 526 + 4 * (k + 1)
    · rw [if_pos q]
      by_cases z : j < 526 + 4 * k
      · rw [if_pos (by omega), if_neg (by omega)]
      · rw [if_neg (by omega), if_pos (by omega)]
    · rw [if_neg q, if_neg (by omega), if_neg (by omega)]
/-- the edge's row set ahead of the others -/
def mE (M : SM) (p k : Nat) (v l : Int32) : SM := u1 (u1 (u1 (u1 (u1 (shr (u1 M 40 0 (486 + p) v) (k - 1)) 40 0 522 (M 40 0 683)) 40 0 523 (nI p)) 40 0 524 v) 40 0 525 l) 40 0 682 (nI k)
theorem m_fin {p k' : Nat} {v l : Int32} {M : SM} (hp : p < 8) (hl : l = 0 ∨ l = 1) (h0 : 0 < k') (h1 : k' ≤ 40) (F : Nat) (hF : 40 < F) : wl_X12_writes_69 F (nI p) l (v &&& 1) (nI k') (nI (k' - 1)) (u1 M 40 0 (486 + p) (v &&& 1)) = some (mE M p k' (v &&& 1) l) := by
  obtain ⟨f', q⟩ := shr_loop (x1 := nI p) (x3 := l) (x4 := v &&& 1) (x5 := nI k') (k' - 1) (u1 M 40 0 (486 + p) (v &&& 1)) F (by omega) (by omega)
  rw [q, wl_X12_writes_69_s]
  unfold wb_X12_writes_69
  have e3 : shr (u1 M 40 0 (486 + p) (v &&& 1)) (k' - 1) 40 0 683 = M 40 0 683 := by
    unfold shr
    rw [if_neg (by omega), u1_ne (by omega)]
  rw [if_pos (show (0 : Int32) ≤ 0 by decide), e3]
  simp only [g_let_eq, show Int32.toNatClampNeg 522 = 522 by decide, show Int32.toNatClampNeg 523 = 523 by decide, show Int32.toNatClampNeg 524 = 524 by decide, show Int32.toNatClampNeg 525 = 525 by decide, show Int32.toNatClampNeg 682 = 682 by decide]
  unfold mE
  rcases hl with rfl | rfl
  · rw [if_pos rfl]
  · rw [if_neg one0]
theorem m_writes {p k : Nat} {v l : Int32} {M : SM} (hp : p < 8) (hk : k ≤ 40) (e : M 40 0 682 = nI k) (hl : l = 0 ∨ l = 1) : fn_X12_writes (nI p) v l M = if M 40 0 (486 + p) = v &&& 1 then some M else some (mE M p (if k < 40 then k + 1 else 40) (v &&& 1) l) := by
  unfold fn_X12_writes
  generalize h39 : ((40 : Int32) - 1) = c39
  have hc39 : c39 = nI (40 - 1) := by rw [← h39]; decide
  have e' : u1 M 40 0 (486 + p) (v &&& 1) 40 0 682 = nI k := (u1_ne (by omega)).trans e
  have hi : (486 : Int32) + nI p = nI (486 + p) := ix486
  have hc := cl693 (show 486 + p < 693 by omega)
  have hg := in693 (show 486 + p < 693 by omega)
  rw [← hi] at hc hg
  rw [g_let_eq, if_pos hg, if_pos hg, hc, g_let_eq, e', g_let_eq, g_let_eq, g_let_eq]
  by_cases z : M 40 0 (486 + p) = v &&& 1
  · rw [if_pos z, if_pos z]
  · rw [if_neg z, if_neg z]
    by_cases z' : k < 40
    · rw [if_pos z', if_neg (show ¬ (40 : Int32) ≤ nI k from nI_ge (b := 40) z' (by decide)), nI_1, nI_pred]
      have f1 := m_fin (p := p) (v := v) (l := l) (M := M) hp hl (show 0 < k + 1 by omega) (by omega) 1000 (by omega)
      rw [Nat.add_sub_cancel] at f1
      exact f1
    · rw [if_neg z', if_pos (show (40 : Int32) ≤ nI k from nI_le (a := 40) (by omega) (by omega))]
      have fx : ∀ (y x : Int32), y = nI 40 → x = nI (40 - 1) → wl_X12_writes_69 1000 (nI p) l (v &&& 1) y x (u1 M 40 0 (486 + p) (v &&& 1)) = some (mE M p 40 (v &&& 1) l) := fun y x hy hx => by
        subst hy
        subst hx
        exact m_fin hp hl (show 0 < 40 by omega) (by omega) 1000 (by omega)
      exact fx _ _ (by decide) hc39
theorem mE_o {M : SM} {p k j : Nat} {v l : Int32} (hk : k ≤ 40) (h : j < 522 ∨ 682 < j) (hp : j ≠ 486 + p) : mE M p k v l 40 0 j = M 40 0 j := by
  unfold mE
  rw [u1_ne (by omega), u1_ne (by omega), u1_ne (by omega), u1_ne (by omega), u1_ne (by omega)]
  unfold shr
  rw [if_neg (by omega), u1_ne (by omega)]
theorem mE_p {M : SM} {p k : Nat} {v l : Int32} (hp : p < 8) (hk : k ≤ 40) : mE M p k v l 40 0 (486 + p) = v := by
  unfold mE
  rw [u1_ne (by omega), u1_ne (by omega), u1_ne (by omega), u1_ne (by omega), u1_ne (by omega)]
  unfold shr
  rw [if_neg (by omega), u1_self]
theorem mE_k {M : SM} {p k kk j : Nat} {v l : Int32} (h : kk ≠ 40) : mE M p k v l kk 0 j = M kk 0 j := by
  unfold mE
  rw [u1_k h, u1_k h, u1_k h, u1_k h, u1_k h]
  unfold shr
  rw [if_neg (fun q => h q.1), u1_k h]
theorem mE_s {M : SM} {p k i w : Nat} {v l : Int32} (hp : p < 8) (hk : k ≤ 40) (hi : 0 < i) (hi' : i < k) (hw : w < 4) : mE M p k v l 40 0 (522 + 4 * i + w) = M 40 0 (522 + 4 * (i - 1) + w) := by
  unfold mE
  rw [u1_ne (by omega), u1_ne (by omega), u1_ne (by omega), u1_ne (by omega), u1_ne (by omega)]
  unfold shr
  rw [if_pos (by omega), u1_ne (by omega), show 522 + 4 * i + w - 4 = 522 + 4 * (i - 1) + w by omega]
theorem mE_n {M : SM} {p k : Nat} {v l : Int32} : mE M p k v l 40 0 682 = nI k ∧ mE M p k v l 40 0 522 = M 40 0 683 ∧ mE M p k v l 40 0 523 = nI p ∧ mE M p k v l 40 0 524 = v ∧ mE M p k v l 40 0 525 = l := by
  unfold mE
  exact ⟨u1_self, by rw [u1_ne (by omega), u1_ne (by omega), u1_ne (by omega), u1_ne (by omega), u1_self], by rw [u1_ne (by omega), u1_ne (by omega), u1_ne (by omega), u1_self], by rw [u1_ne (by omega), u1_ne (by omega), u1_self], by rw [u1_ne (by omega), u1_self]⟩
