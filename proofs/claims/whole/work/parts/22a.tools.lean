/-! tools of the pure part: reading a written memory, small whole numbers, loops with fuel -/
theorem u1_at {σ : SM} {k i j : Nat} {v : Int32} (k' i' j' : Nat) : u1 σ k i j v k' i' j' = if k' = k ∧ i' = i ∧ j' = j then v else σ k' i' j' := by
  unfold u1 ur upd
  by_cases h1 : k' = k ∧ i' = i
  · rw [if_pos h1]
    by_cases h2 : j' = j
    · rw [if_pos h2, if_pos ⟨h1.1, h1.2, h2⟩]
    · rw [if_neg h2, if_neg (fun h => h2 h.2.2), h1.1, h1.2]
  · rw [if_neg h1, if_neg (fun h => h1 ⟨h.1, h.2.1⟩)]
theorem u1_self {σ : SM} {k i j : Nat} {v : Int32} : u1 σ k i j v k i j = v := by rw [u1_at, if_pos ⟨rfl, rfl, rfl⟩]
theorem u1_k {σ : SM} {k i j k' i' j' : Nat} {v : Int32} (h : k' ≠ k) : u1 σ k i j v k' i' j' = σ k' i' j' := by rw [u1_at, if_neg (fun q => h q.1)]
theorem u1_i {σ : SM} {k i j k' i' j' : Nat} {v : Int32} (h : i' ≠ i) : u1 σ k i j v k' i' j' = σ k' i' j' := by rw [u1_at, if_neg (fun q => h q.2.1)]
theorem u1_j {σ : SM} {k i j k' i' j' : Nat} {v : Int32} (h : j' ≠ j) : u1 σ k i j v k' i' j' = σ k' i' j' := by rw [u1_at, if_neg (fun q => h q.2.2)]
theorem uf_at {σ : SM} {k i n : Nat} {v : Int32} (k' i' j' : Nat) : uf σ k i n v k' i' j' = if k' = k ∧ i' = i ∧ j' < n then v else σ k' i' j' := by
  unfold uf ur
  by_cases h1 : k' = k ∧ i' = i
  · rw [if_pos h1]
    by_cases h2 : j' < n
    · rw [if_pos h2, if_pos ⟨h1.1, h1.2, h2⟩]
    · rw [if_neg h2, if_neg (fun h => h2 h.2.2), h1.1, h1.2]
  · rw [if_neg h1, if_neg (fun h => h1 ⟨h.1, h.2.1⟩)]
theorem uc_at {σ : SM} {k i k0 i0 n : Nat} (k' i' j' : Nat) : uc σ k i k0 i0 n k' i' j' = if k' = k ∧ i' = i ∧ j' < n then σ k0 i0 j' else σ k' i' j' := by
  unfold uc ur va_cpy
  by_cases h1 : k' = k ∧ i' = i
  · rw [if_pos h1]
    by_cases h2 : j' < n
    · rw [if_pos ⟨Nat.zero_le _, by omega⟩, if_pos ⟨h1.1, h1.2, h2⟩, Nat.zero_add, Nat.sub_zero]
    · rw [if_neg (by omega), if_neg (fun h => h2 h.2.2), h1.1, h1.2]
  · rw [if_neg h1, if_neg (fun h => h1 ⟨h.1, h.2.1⟩)]
theorem nI_back {x : Int32} (h : ¬ x < 0) : nI x.toNatClampNeg = x := by
  have h0 : 0 ≤ x.toInt := by
    have := Int32.le_iff_toInt_le.mp (Int32.not_lt.mp h)
    simpa using this
  have h1 := x.toInt_lt
  have h2 : x.toNatClampNeg = x.toInt.toNat := rfl
  apply Int32.toInt_inj.mp
  rw [nI_toInt (by rw [h2]; omega), h2]
  omega
theorem nI_lt31 (x : Int32) : x.toNatClampNeg < 2 ^ 31 := by
  have h1 := x.toInt_lt
  have h2 : x.toNatClampNeg = x.toInt.toNat := rfl
  omega
/-- an int is a small one from 0 on, or below 0, or n at least -/
theorem nI_cases (x : Int32) (n : Nat) (hn : n < 2 ^ 31) : (∃ a, a < n ∧ x = nI a) ∨ x < 0 ∨ (¬ x < 0 ∧ nI n ≤ x) := by
  by_cases h : x < 0
  · exact Or.inr (Or.inl h)
  · by_cases h2 : x.toNatClampNeg < n
    · exact Or.inl ⟨_, h2, (nI_back h).symm⟩
    · refine Or.inr (Or.inr ⟨h, ?_⟩)
      rw [← nI_back h]
      exact nI_le (Nat.le_of_not_lt h2) (nI_lt31 x)
theorem g_inI {a n : Nat} (ha : a < n) (hn : n < 2 ^ 31) : g_in (nI a) n := nI_in ha hn
theorem g_loop_q {α β : Type} {body : (α → Option β) → α → Option β} {Q : Option β → Prop} (I : Nat → α → Prop)
    (step : ∀ (n : Nat) (a : α) (k : α → Option β), I n a → Q (body k a) ∨ ∃ n' a', n = n' + 1 ∧ I n' a' ∧ body k a = k a') :
    ∀ (n : Nat) (a : α) (fuel : Nat), I n a → n < fuel → Q (g_loop body fuel a) := by
  intro n
  induction n with
  | zero =>
    intro a fuel hI hf
    match fuel, hf with
    | f + 1, _ =>
      show Q (body (g_loop body f) a)
      rcases step 0 a (g_loop body f) hI with h | ⟨n', a', h, _⟩
      · exact h
      · omega
  | succ n ih =>
    intro a fuel hI hf
    match fuel, hf with
    | f + 1, hf =>
      show Q (body (g_loop body f) a)
      rcases step (n + 1) a (g_loop body f) hI with h | ⟨n', a', h, hI', e⟩
      · exact h
      · rw [e]
        have : n' = n := by omega
        subst this
        exact ih a' f hI' (by omega)
theorem g_let_eq {α β : Type} (a : α) (k : α → β) : g_let a k = k a := rfl
theorem isThread_in {a : Nat} (h : a < 6) : fn_X11_isThread (nI a) = 1 := by
  unfold fn_X11_isThread
  rw [if_neg (nI_pos (by omega)), if_neg (show ¬ (6 : Int32) ≤ nI a from nI_ge (b := 6) h (by decide))]
theorem isThread_out {x : Int32} (h : x < 0 ∨ (¬ x < 0 ∧ nI 6 ≤ x)) : fn_X11_isThread x = 0 := by
  unfold fn_X11_isThread
  rcases h with h | ⟨h0, h⟩
  · rw [if_pos h]
  · rw [if_neg h0, if_pos (show (6 : Int32) ≤ x from h)]
theorem isReg_in {a : Nat} (h : a < 8) : fn_X11_isRegister (nI a) = 1 := by
  unfold fn_X11_isRegister
  rw [if_neg (nI_pos (by omega)), if_neg (show ¬ (8 : Int32) ≤ nI a from nI_ge (b := 8) h (by decide))]
theorem isReg_out {x : Int32} (h : x < 0 ∨ (¬ x < 0 ∧ nI 8 ≤ x)) : fn_X11_isRegister x = 0 := by
  unfold fn_X11_isRegister
  rcases h with h | ⟨h0, h⟩
  · rw [if_pos h]
  · rw [if_neg h0, if_pos (show (8 : Int32) ≤ x from h)]
theorem isPin_in {a : Nat} (h : a < 8) : fn_X11_isPin (nI a) = 1 := by
  unfold fn_X11_isPin
  rw [if_neg (nI_pos (by omega)), if_neg (show ¬ (8 : Int32) ≤ nI a from nI_ge (b := 8) h (by decide))]
theorem isPin_out {x : Int32} (h : x < 0 ∨ (¬ x < 0 ∧ nI 8 ≤ x)) : fn_X11_isPin x = 0 := by
  unfold fn_X11_isPin
  rcases h with h | ⟨h0, h⟩
  · rw [if_pos h]
  · rw [if_neg h0, if_pos (show (8 : Int32) ≤ x from h)]
theorem within_in {a lo hi : Nat} (h1 : lo ≤ a) (h2 : a ≤ hi) (h3 : hi < 2 ^ 31) : fn_X12_within (nI a) (nI lo) (nI hi) = 1 := by
  unfold fn_X12_within
  rw [if_neg (nI_nlt h1 (by omega))]
  rw [if_neg (nI_nlt h2 h3)]
