/-! the tick: a pin is written, on both sides -/
def xE (X : SM) (m n k : Nat) (t p v l : Int32) : SM := u1 (u1 (u1 (u1 (u1 (u1 X 21 m (4 * n) t) 21 m (4 * n + 1) p) 21 m (4 * n + 2) v) 21 m (4 * n + 3) l) 3 m 1 (nI (if n + 1 < 40 then n + 1 else 0))) 3 m 2 (nI (if k < 40 then k + 1 else 40))
theorem x_app {X : SM} {m n k : Nat} {t p v l : Int32} (hn : n < 40) (hk : k ≤ 40) (e1 : X 3 m 1 = nI n) (e2 : X 3 m 2 = nI k) : fn_X3_append m t p v l X = some (xE X m n k t p v l) := by
  unfold fn_X3_append
  have q : ∀ (σ : SM) (j : Nat) (v : Int32) (j' : Nat), u1 σ 21 m j v 3 m j' = σ 3 m j' := fun σ j v j' => u1_k (by decide)
  have q2 : ∀ (σ : SM) (v : Int32), u1 σ 3 m 1 v 3 m 2 = σ 3 m 2 := fun σ v => u1_ne (by omega)
  simp only [g_let_eq, e1, e2, q, q2, show (4 : Int32) * nI n = nI (4 * n) from ni_mul 4 n, if_neg (nI_pos (show 4 * n < 2 ^ 31 by omega)), show nI (4 * n) + 1 = nI (4 * n + 1) from nI_add _ 1, show nI (4 * n) + 2 = nI (4 * n + 2) from nI_add _ 2, show nI (4 * n) + 3 = nI (4 * n + 3) from nI_add _ 3, if_pos (show nI (4 * n + 3) < 160 from nI_lt (b := 160) (by omega) (by decide)), if_pos (g_inI (show 4 * n < 160 by omega) (by decide)), if_pos (g_inI (show 4 * n + 1 < 160 by omega) (by decide)), if_pos (g_inI (show 4 * n + 2 < 160 by omega) (by decide)), if_pos (g_inI (show 4 * n + 3 < 160 by omega) (by decide)), nI_clamp (show 4 * n < 2 ^ 31 by omega), nI_clamp (show 4 * n + 1 < 2 ^ 31 by omega), nI_clamp (show 4 * n + 2 < 2 ^ 31 by omega), nI_clamp (show 4 * n + 3 < 2 ^ 31 by omega), show nI n + 1 = nI (n + 1) from nI_1 n, show nI k + 1 = nI (k + 1) from nI_1 k]
  unfold xE
  by_cases z : n + 1 < 40
  · rw [if_pos z, if_neg (show ¬ (40 : Int32) ≤ nI (n + 1) from nI_ge (b := 40) z (by decide))]
    by_cases y : k < 40
    · rw [if_pos y, if_neg (show ¬ (40 : Int32) ≤ nI k from nI_ge (b := 40) y (by decide))]
    · have : k = 40 := by omega
      subst this
      rw [if_neg y, if_pos (show (40 : Int32) ≤ nI 40 by decide)]
      refine congrArg some (Eq.symm ?_)
      refine (congrArg _ ?_).trans u1_id
      simp only [q, q2, e2]
  · rw [if_neg z, if_pos (show (40 : Int32) ≤ nI (n + 1) from nI_le (a := 40) (by omega) (by omega))]
    by_cases y : k < 40
    · rw [if_pos y, if_neg (show ¬ (40 : Int32) ≤ nI k from nI_ge (b := 40) y (by decide))]
      rfl
    · have : k = 40 := by omega
      subst this
      rw [if_neg y, if_pos (show (40 : Int32) ≤ nI 40 by decide)]
      refine congrArg some (Eq.symm ?_)
      refine (congrArg _ ?_).trans u1_id
      simp only [q, q2, e2]
theorem xE_o {X : SM} {m n k kk i j : Nat} {t p v l : Int32} (h : ¬ ((kk = 3 ∨ kk = 21) ∧ i = m)) : xE X m n k t p v l kk i j = X kk i j := by
  unfold xE
  rw [u1_ne (by omega), u1_ne (by omega), u1_ne (by omega), u1_ne (by omega), u1_ne (by omega), u1_ne (by omega)]
theorem xE_r {X : SM} {m n k j : Nat} {t p v l : Int32} (h : j < 4 * n ∨ 4 * n + 4 ≤ j) : xE X m n k t p v l 21 m j = X 21 m j := by
  unfold xE
  rw [u1_ne (by omega), u1_ne (by omega), u1_ne (by omega), u1_ne (by omega), u1_ne (by omega), u1_ne (by omega)]
theorem xE_n {X : SM} {m n k : Nat} {t p v l : Int32} : xE X m n k t p v l 21 m (4 * n) = t ∧ xE X m n k t p v l 21 m (4 * n + 1) = p ∧ xE X m n k t p v l 21 m (4 * n + 2) = v ∧ xE X m n k t p v l 21 m (4 * n + 3) = l ∧ xE X m n k t p v l 3 m 1 = nI (if n + 1 < 40 then n + 1 else 0) ∧ xE X m n k t p v l 3 m 2 = nI (if k < 40 then k + 1 else 40) := by
  unfold xE
  exact ⟨by rw [u1_ne (by omega), u1_ne (by omega), u1_ne (by omega), u1_ne (by omega), u1_ne (by omega), u1_self], by rw [u1_ne (by omega), u1_ne (by omega), u1_ne (by omega), u1_ne (by omega), u1_self], by rw [u1_ne (by omega), u1_ne (by omega), u1_ne (by omega), u1_self], by rw [u1_ne (by omega), u1_ne (by omega), u1_self], by rw [u1_ne (by omega), u1_self], u1_self⟩
theorem d_write {m p : Nat} {v l : Int32} {X M : SM} (hp : p < 8) (hl : l = 0 ∨ l = 1) (h : rR m X M) (he : eG m X M) : ∃ X' M', fn_X8_write m (nI p) (v &&& 1) (X 7 m 5) l X = some X' ∧ fn_X12_writes (nI p) v l M = some M' ∧ stp m X M X' M' ∧ (∀ j, j < 486 ∨ (494 ≤ j ∧ j < 522) ∨ 683 ≤ j → M' 40 0 j = M 40 0 j) := by
  obtain ⟨kM, hkM, eM⟩ := rR_iE h
  have he0 := he
  obtain ⟨⟨n, k, hn, hk, e1, e2⟩, hg⟩ := he
  rw [m_writes hp hkM eM hl]
  unfold fn_X8_write
  simp only [g_let_eq, isPin_in hp, if_neg one0, if_pos (g_inI hp (by decide)), nI_clamp (show p < 2 ^ 31 by omega), rR_rP h p hp]
  by_cases z : M 40 0 (486 + p) = v &&& 1
  · rw [if_pos z, if_pos z]
    exact ⟨X, M, rfl, rfl, stp_r h he0, fun _ _ => rfl⟩
  rw [if_neg z, if_neg z, x_app (X := u1 X 30 m p (v &&& 1)) hn hk e1 e2]
  generalize hk' : (if kM < 40 then kM + 1 else 40) = k'
  have hk1 : 0 < k' ∧ k' ≤ 40 := by subst hk'; split <;> omega
  have hrl := p_lvl (v := v &&& 1) hp h
  refine ⟨_, _, rfl, rfl, ⟨rR_e (fun kk i j q1 q2 => xE_o (by omega)) (fun j hj => ?_) (fun kk j q => (mE_k q).trans (u1_k q).symm) ⟨k', hk1.2, mE_n.1⟩ hrl, ⟨⟨_, _, ?_, ?_, xE_n.2.2.2.2.1, xE_n.2.2.2.2.2⟩, fun hm => ?_⟩, fun kk i j q1 q2 => (xE_o q2).trans (u1_ne (fun w => q1 (Or.inl ⟨Or.inr (Or.inr w.1), w.2.1⟩))), fun kk j q => mE_k q, mE_o hk1.2 (by omega) (by omega)⟩, fun j hj => mE_o hk1.2 (by omega) (by omega)⟩
  · by_cases y : j = 486 + p
    · subst y
      rw [mE_p hp hk1.2, u1_self]
    · rw [mE_o hk1.2 hj y, u1_ne (by omega)]
  · split <;> omega
  · split <;> omega
  · subst hm
    obtain ⟨n0, k0, a1, a2, a3, a4, a5, a6⟩ := hg rfl
    have : n0 = n := (nI_eq (by omega) (by omega)).mp (a3.symm.trans e1)
    subst this
    have : k0 = k := (nI_eq (by omega) (by omega)).mp (a4.symm.trans e2)
    subst this
    have : k0 = kM := (nI_eq (by omega) (by omega)).mp (a5.symm.trans eM)
    subst this
    refine ⟨if n0 + 1 < 40 then n0 + 1 else 0, k', by split <;> omega, hk1.2, xE_n.2.2.2.2.1, ?_, mE_n.1, fun i w hi hw => ?_⟩
    · rw [← hk']
      exact xE_n.2.2.2.2.2
    · by_cases y : i = 0
      · subst y
        have e : 4 * (((if n0 + 1 < 40 then n0 + 1 else 0) + 39 - 0) % 40) + w = 4 * n0 + w := by split <;> omega
        rw [e]
        have hw4 : w = 0 ∨ w = 1 ∨ w = 2 ∨ w = 3 := by omega
        rcases hw4 with rfl | rfl | rfl | rfl
        · exact xE_n.1.trans ((rR_rN h).1.trans mE_n.2.1.symm)
        · exact xE_n.2.1.trans mE_n.2.2.1.symm
        · exact xE_n.2.2.1.trans mE_n.2.2.2.1.symm
        · exact xE_n.2.2.2.1.trans mE_n.2.2.2.2.symm
      · have e : 4 * (((if n0 + 1 < 40 then n0 + 1 else 0) + 39 - i) % 40) + w = 4 * ((n0 + 39 - (i - 1)) % 40) + w := by split <;> omega
        have hik : i - 1 < k0 := by subst hk'; split at hi <;> omega
        rw [e, mE_s hp hk1.2 (by omega) hi hw, xE_r (by omega)]
        exact a6 (i - 1) w hik hw
