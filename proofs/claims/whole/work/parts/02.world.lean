/-! the world: the cells of the class, of the reference and of the law, by kinds and numbers -/
abbrev GP : Type := va_G × (Nat → Nat → Nat) × Nat × (Nat → ClassId) × Nat
abbrev g_A (G : GP) : Nat → Prop := fun q => G.2.2.1 ≤ q
abbrev g_cl : List vw_C := [(RX0, TX0, 2), (RX1, TX1, 5), (RX2, TX2, 1), (RX3, TX3, 3), (RX4, TX4, 5), (RX5, TX5, 4), (RX6, TX6, 3), (RX7, TX7, 12), (RX8, TX8, 3), (RX9, TX9, 15), (RX10, TX10, 2), (RX11, TX11, 8), (RX12, TX12, 22)]
abbrev g_tys (G : GP) : List (ClassId × FieldType) := [(G.2.2.2.1 0, .int), (G.2.2.2.1 1, .long), (G.2.2.2.1 2, .boolean), (G.2.2.2.1 3, .object "BarrelSlots$Strand"), (G.2.2.2.1 4, .array .int)]
abbrev SM : Type := Nat → Nat → Nat → Int32
abbrev SL : Type := Nat → Nat → Nat → Int64
def g_cnt : Nat → Nat
  | 0 => 2
  | 1 => 12
  | 2 => 1
  | 3 => 2
  | 4 => 12
  | 5 => 1
  | 6 => 1
  | 7 => 2
  | 8 => 2
  | 9 => 12
  | 10 => 1
  | 11 => 1
  | 13 => 2
  | 14 => 8
  | 15 => 2
  | 16 => 12
  | 17 => 12
  | 18 => 12
  | 19 => 12
  | 20 => 1
  | 21 => 2
  | 22 => 1
  | 23 => 1
  | 24 => 1
  | 25 => 1
  | 26 => 1
  | 27 => 1
  | 28 => 2
  | 29 => 2
  | 30 => 2
  | 31 => 12
  | 32 => 12
  | 33 => 12
  | 34 => 1
  | 35 => 1
  | 36 => 1
  | 39 => 1
  | 40 => 1
  | 41 => 1
  | 42 => 1
  | 43 => 1
  | 44 => 1
  | 45 => 1
  | 46 => 1
  | 47 => 1
  | 48 => 1
  | 49 => 1
  | 50 => 1
  | 51 => 1
  | 52 => 1
  | 53 => 1
  | 54 => 1
  | 55 => 1
  | 56 => 1
  | 57 => 1
  | 58 => 1
  | _ => 0
def g_off : Nat → Nat
  | 0 => 0
  | 1 => 2
  | 2 => 14
  | 3 => 15
  | 4 => 17
  | 5 => 29
  | 6 => 30
  | 7 => 31
  | 8 => 33
  | 9 => 35
  | 10 => 47
  | 11 => 48
  | 13 => 49
  | 14 => 51
  | 15 => 59
  | 16 => 61
  | 17 => 73
  | 18 => 85
  | 19 => 97
  | 20 => 109
  | 21 => 110
  | 22 => 112
  | 23 => 113
  | 24 => 114
  | 25 => 115
  | 26 => 116
  | 27 => 117
  | 28 => 118
  | 29 => 120
  | 30 => 122
  | 31 => 124
  | 32 => 136
  | 33 => 148
  | 34 => 160
  | 35 => 161
  | 36 => 162
  | 39 => 163
  | 40 => 164
  | 41 => 165
  | 42 => 166
  | 43 => 167
  | 44 => 168
  | 45 => 169
  | 46 => 170
  | 47 => 171
  | 48 => 172
  | 49 => 173
  | 50 => 174
  | 51 => 175
  | 52 => 176
  | 53 => 177
  | 54 => 178
  | 55 => 179
  | 56 => 180
  | 57 => 181
  | 58 => 182
  | _ => 183
def g_ix : List (Nat × Nat) := (List.range 59).flatMap (fun k => (List.range (g_cnt k)).map (fun i => (k, i)))
set_option maxRecDepth 100000 in
theorem g_ix_at0 : ∀ k, k < 59 → ∀ i, i < g_cnt k → g_ix[g_off k + i]? = some (k, i) := by decide +kernel
theorem g_cnt_out {k : Nat} (h : 59 ≤ k) : g_cnt k = 0 := by
  unfold g_cnt
  split <;> first | omega | rfl
theorem g_ix_at {k i : Nat} (h : i < g_cnt k) : g_ix[g_off k + i]? = some (k, i) := by
  by_cases hk : k < 59
  · exact g_ix_at0 k hk i h
  · rw [g_cnt_out (Nat.le_of_not_lt hk)] at h
    exact absurd h (Nat.not_lt_zero _)
set_option maxRecDepth 100000 in
theorem g_ix_len : g_ix.length = 183 := by decide +kernel
set_option maxRecDepth 100000 in
theorem g_ix_back0 : ∀ n, n < 183 → ∃ q ∈ g_ix[n]?, g_off q.1 + q.2 = n ∧ q.2 < g_cnt q.1 := by decide +kernel
theorem g_ix_back {n : Nat} {q : Nat × Nat} (h : g_ix[n]? = some q) : g_off q.1 + q.2 = n ∧ q.2 < g_cnt q.1 := by
  have hn : n < 183 := by
    have := (List.getElem?_eq_some_iff.mp h).1
    rw [g_ix_len] at this
    exact this
  obtain ⟨q', hq, h1⟩ := g_ix_back0 n hn
  have : q' = q := by
    have h2 : g_ix[n]? = some q' := hq
    rw [h] at h2
    cases h2
    rfl
  rw [← this]
  exact h1
/-- a cell of kind k, number i, with ints f and longs g -/
def g_sh (G : GP) (k i : Nat) (f : Nat → Int32) (g : Nat → Int64) : va_E := match k with
  | 0 => .inr (0, [.ref (G.2.1 13 i), .ref (G.2.1 15 i)])
  | 1 => .inr (1, [.ref (G.2.1 16 i), .ref (G.2.1 17 i), .ref (G.2.1 18 i), .ref (G.2.1 19 i), .int (f 4)])
  | 2 => .inr (2, [.ref (G.2.1 20 i)])
  | 3 => .inr (3, [.ref (G.2.1 21 i), .int (f 1), .int (f 2)])
  | 4 => .inr (4, [.int (f 0), .int (f 1), .int (f 2), .int (f 3), .int (f 4)])
  | 5 => .inr (5, [.ref (G.2.1 22 i), .ref (G.2.1 23 i), .ref (G.2.1 24 i), .int (f 3)])
  | 6 => .inr (6, [.ref (G.2.1 25 i), .ref (G.2.1 26 i), .ref (G.2.1 27 i)])
  | 7 => .inr (7, [.ref (G.2.1 28 i), .ref (G.2.1 8 i), .ref (G.2.1 0 i), .ref (G.2.1 10 0), .ref (G.2.1 5 0), .int (f 5), .int (f 6), .int (f 7), .int (f 8), .int (f 9), .int (f 10), .int (f 11)])
  | 8 => .inr (8, [.ref (G.2.1 29 i), .ref (G.2.1 30 i), .ref (G.2.1 3 i)])
  | 9 => .inr (9, [.int (f 0), .ref (G.2.1 1 i), .ref (G.2.1 4 i), .ref (G.2.1 31 i), .ref (G.2.1 32 i), .ref (G.2.1 33 i), .int (f 6), .int (f 7), .int (f 8), .int (f 9), .int (f 10), .int (f 11), .int (f 12), .int (f 13), .int (f 14)])
  | 10 => .inr (10, [.ref (G.2.1 34 i), .int (f 1)])
  | 11 => .inr (11, [.ref (G.2.1 10 0), .ref (G.2.1 5 0), .ref (G.2.1 7 0), .ref (G.2.1 7 1), .ref (G.2.1 2 0), .ref (G.2.1 6 0), .ref (G.2.1 35 0), .ref (G.2.1 36 0)])
  | 13 => .inl (G.2.2.2.1 4, 4, .inr (.inr (.inr (.inr (fun j => some (G.2.1 14 (4 * i + j)))))))
  | 14 => .inl (G.2.2.2.1 0, 6, .inl f)
  | 15 => .inl (G.2.2.2.1 0, 4, .inl f)
  | 16 => .inl (G.2.2.2.1 0, 24, .inl f)
  | 17 => .inl (G.2.2.2.1 0, 24, .inl f)
  | 18 => .inl (G.2.2.2.1 0, 24, .inl f)
  | 19 => .inl (G.2.2.2.1 0, 24, .inl f)
  | 20 => .inl (G.2.2.2.1 0, 25, .inl f)
  | 21 => .inl (G.2.2.2.1 0, 160, .inl f)
  | 22 => .inl (G.2.2.2.1 0, 32, .inl f)
  | 23 => .inl (G.2.2.2.1 0, 32, .inl f)
  | 24 => .inl (G.2.2.2.1 0, 32, .inl f)
  | 25 => .inl (G.2.2.2.1 0, 6, .inl f)
  | 26 => .inl (G.2.2.2.1 0, 390, .inl f)
  | 27 => .inl (G.2.2.2.1 0, 65, .inl f)
  | 28 => .inl (G.2.2.2.1 3, 6, .inr (.inr (.inr (.inr (fun j => some (G.2.1 9 (6 * i + j)))))))
  | 29 => .inl (G.2.2.2.1 0, 8, .inl f)
  | 30 => .inl (G.2.2.2.1 0, 8, .inl f)
  | 31 => .inl (G.2.2.2.1 0, 8, .inl f)
  | 32 => .inl (G.2.2.2.1 0, 16, .inl f)
  | 33 => .inl (G.2.2.2.1 0, 24, .inl f)
  | 34 => .inl (G.2.2.2.1 0, 16, .inl f)
  | 35 => .inl (G.2.2.2.1 0, 6, .inl f)
  | 36 => .inl (G.2.2.2.1 0, 6, .inl f)
  | 39 => .inr (12, [.ref (G.2.1 40 i), .ref (G.2.1 41 i), .ref (G.2.1 42 i), .ref (G.2.1 43 i), .ref (G.2.1 44 i), .ref (G.2.1 45 i), .ref (G.2.1 46 i), .ref (G.2.1 47 i), .ref (G.2.1 48 i), .ref (G.2.1 49 i), .int (f 10), .ref (G.2.1 50 i), .int (f 12), .ref (G.2.1 51 i), .ref (G.2.1 52 i), .int (f 15), .ref (G.2.1 53 i), .ref (G.2.1 54 i), .ref (G.2.1 55 i), .ref (G.2.1 56 i), .int (f 20), .ref (G.2.1 57 i)])
  | 40 => .inl (G.2.2.2.1 0, 693, .inl f)
  | 41 => .inl (G.2.2.2.1 0, 693, .inl f)
  | 42 => .inl (G.2.2.2.1 0, 576, .inl f)
  | 43 => .inl (G.2.2.2.1 0, 6, .inl f)
  | 44 => .inl (G.2.2.2.1 0, 6, .inl f)
  | 45 => .inl (G.2.2.2.1 2, 6, .inl f)
  | 46 => .inl (G.2.2.2.1 0, 8, .inl f)
  | 47 => .inl (G.2.2.2.1 0, 32, .inl f)
  | 48 => .inl (G.2.2.2.1 0, 32, .inl f)
  | 49 => .inl (G.2.2.2.1 0, 32, .inl f)
  | 50 => .inl (G.2.2.2.1 0, 16, .inl f)
  | 51 => .inl (G.2.2.2.1 0, 6, .inl f)
  | 52 => .inl (G.2.2.2.1 0, 6, .inl f)
  | 53 => .inl (G.2.2.2.1 0, 6, .inl f)
  | 54 => .inl (G.2.2.2.1 0, 390, .inl f)
  | 55 => .inl (G.2.2.2.1 0, 65, .inl f)
  | 56 => .inl (G.2.2.2.1 1, 625, .inr (.inl g))
  | 57 => .inl (G.2.2.2.1 0, 6, .inl f)
  | 58 => .inl (G.2.2.2.1 1, 1, .inr (.inl g))
  | _ => .inl (G.2.2.2.1 0, 0, .inl (fun _ => 0))
def wd (G : GP) (σ : SM) (τ : SL) : va_W := g_ix.map (fun q => (G.2.1 q.1 q.2, g_sh G q.1 q.2 (σ q.1 q.2) (τ q.1 q.2)))
theorem wd_at {G : GP} {σ : SM} {τ : SL} {k i : Nat} (h : i < g_cnt k) : (wd G σ τ)[g_off k + i]? = some (G.2.1 k i, g_sh G k i (σ k i) (τ k i)) := by
  unfold wd
  rw [List.getElem?_map, g_ix_at h]
  rfl
theorem wd_in {G : GP} {σ : SM} {τ : SL} {n : Nat} {q : Nat × va_E} (h : (wd G σ τ)[n]? = some q) : ∃ k i, i < g_cnt k ∧ n = g_off k + i ∧ q = (G.2.1 k i, g_sh G k i (σ k i) (τ k i)) := by
  unfold wd at h
  rw [List.getElem?_map] at h
  cases hq : g_ix[n]? with
  | none => rw [hq] at h; cases h
  | some z =>
    rw [hq] at h
    obtain ⟨h1, h2⟩ := g_ix_back hq
    cases h
    exact ⟨z.1, z.2, h2, h1.symm, rfl⟩
def ur (σ : SM) (k i : Nat) (f : Nat → Int32) : SM := fun k' i' => if k' = k ∧ i' = i then f else σ k' i'
def ul (τ : SL) (k i : Nat) (f : Nat → Int64) : SL := fun k' i' => if k' = k ∧ i' = i then f else τ k' i'
theorem ur_eq {σ : SM} {k i : Nat} {f : Nat → Int32} : ur σ k i f k i = f := if_pos ⟨rfl, rfl⟩
theorem ur_ne {σ : SM} {k i k' i' : Nat} {f : Nat → Int32} (h : ¬ (k' = k ∧ i' = i)) : ur σ k i f k' i' = σ k' i' := if_neg h
theorem ul_eq {τ : SL} {k i : Nat} {f : Nat → Int64} : ul τ k i f k i = f := if_pos ⟨rfl, rfl⟩
theorem ul_ne {τ : SL} {k i k' i' : Nat} {f : Nat → Int64} (h : ¬ (k' = k ∧ i' = i)) : ul τ k i f k' i' = τ k' i' := if_neg h
theorem g_off_inj {k i k' i' : Nat} (h : i < g_cnt k) (h' : i' < g_cnt k') (e : g_off k' + i' = g_off k + i) : k' = k ∧ i' = i := by
  have h1 := g_ix_at h
  have h2 := g_ix_at h'
  rw [e, h1] at h2
  cases h2
  exact ⟨rfl, rfl⟩
theorem wd_set {G : GP} {σ : SM} {τ : SL} {k i : Nat} {f : Nat → Int32} (h : i < g_cnt k) : (wd G σ τ).set (g_off k + i) (G.2.1 k i, g_sh G k i f (τ k i)) = wd G (ur σ k i f) τ := by
  apply List.ext_getElem?
  intro n
  rw [List.getElem?_set]
  by_cases e : g_off k + i = n
  · rw [if_pos e]
    have hlt : g_off k + i < (wd G σ τ).length := (List.getElem?_eq_some_iff.mp (wd_at (G := G) (σ := σ) (τ := τ) h)).1
    rw [if_pos hlt, ← e, wd_at h, ur_eq]
  · rw [if_neg e]
    unfold wd
    rw [List.getElem?_map, List.getElem?_map]
    cases hq : g_ix[n]? with
    | none => rfl
    | some z =>
      obtain ⟨h1, h2⟩ := g_ix_back hq
      have : ¬ (z.1 = k ∧ z.2 = i) := fun hh => e (by rw [← h1, hh.1, hh.2])
      simp only [Option.map_some]
      rw [ur_ne this]
theorem wd_setl {G : GP} {σ : SM} {τ : SL} {k i : Nat} {f : Nat → Int64} (h : i < g_cnt k) : (wd G σ τ).set (g_off k + i) (G.2.1 k i, g_sh G k i (σ k i) f) = wd G σ (ul τ k i f) := by
  apply List.ext_getElem?
  intro n
  rw [List.getElem?_set]
  by_cases e : g_off k + i = n
  · rw [if_pos e]
    have hlt : g_off k + i < (wd G σ τ).length := (List.getElem?_eq_some_iff.mp (wd_at (G := G) (σ := σ) (τ := τ) h)).1
    rw [if_pos hlt, ← e, wd_at h, ul_eq]
  · rw [if_neg e]
    unfold wd
    rw [List.getElem?_map, List.getElem?_map]
    cases hq : g_ix[n]? with
    | none => rfl
    | some z =>
      obtain ⟨h1, h2⟩ := g_ix_back hq
      have : ¬ (z.1 = k ∧ z.2 = i) := fun hh => e (by rw [← h1, hh.1, hh.2])
      simp only [Option.map_some]
      rw [ul_ne this]
def cb (a b : SM) : SM := fun k => bif Nat.blt k 39 then a k else b k
theorem cb_ur_l {a b : SM} {k i : Nat} {f : Nat → Int32} (h : Nat.blt k 39 = true) : cb (ur a k i f) b = ur (cb a b) k i f := by
  funext k' i'
  unfold cb
  by_cases e : k' = k ∧ i' = i
  · obtain ⟨rfl, rfl⟩ := e
    rw [h, ur_eq]
    show ur a k' i' f k' i' = f
    exact ur_eq
  · rw [ur_ne e]
    cases Nat.blt k' 39
    · rfl
    · exact ur_ne e
theorem cb_ur_r {a b : SM} {k i : Nat} {f : Nat → Int32} (h : Nat.blt k 39 = false) : cb a (ur b k i f) = ur (cb a b) k i f := by
  funext k' i'
  unfold cb
  by_cases e : k' = k ∧ i' = i
  · obtain ⟨rfl, rfl⟩ := e
    rw [h, ur_eq]
    show ur b k' i' f k' i' = f
    exact ur_eq
  · rw [ur_ne e]
    cases Nat.blt k' 39
    · exact ur_ne e
    · rfl

def g_nw (U : State) : Prop := va_Nw (.methodLinkNest RX7 79 yX11_isThread "BarrelSlots") U ∧ va_Nw (.methodLinkNest RX8 31 yX11_isPin "BarrelSlots") U ∧ va_Nw (.methodLinkNest RX6 49 yX11_isThread "BarrelSlots") U ∧ va_Nw (.methodLinkNest RX9 59 yX11_isRegister "BarrelSlots") U ∧ va_Nw (.methodLinkNest RX9 85 yX11_ratioBits "BarrelSlots") U ∧ va_Nw (.methodLinkNest RX9 89 yX11_part "BarrelSlots") U ∧ va_Nw (.fieldLinkNest RX1 28 "BarrelSlots" "GREATEST" "[I" "BarrelSlots") U ∧ va_Nw (.declares ⟨"java/lang/RuntimeException", "<init>", "()V"⟩) U ∧ va_Nw (.declares ⟨"java/lang/Exception", "<init>", "()V"⟩) U ∧ va_Nw (.declares ⟨"java/lang/Throwable", "<init>", "()V"⟩) U ∧ va_Nw (.castable "java/util/NoSuchElementException" "java/util/NoSuchElementException") U
theorem g_nw.moved {s U : State} (hW : s.WarmedH U.vm) (h : g_nw s) : g_nw U := ⟨va_Nw.warmM hW h.1, va_Nw.warmM hW h.2.1, va_Nw.warmM hW h.2.2.1, va_Nw.warmM hW h.2.2.2.1, va_Nw.warmM hW h.2.2.2.2.1, va_Nw.warmM hW h.2.2.2.2.2.1, va_Nw.warmF hW h.2.2.2.2.2.2.1, va_Nw.warmD hW h.2.2.2.2.2.2.2.1, va_Nw.warmD hW h.2.2.2.2.2.2.2.2.1, va_Nw.warmD hW h.2.2.2.2.2.2.2.2.2.1, va_Nw.warmC hW h.2.2.2.2.2.2.2.2.2.2⟩
def g_tab (j : Nat) : Int32 := ([7, -1, -1, 7, 7, 7, 7, 7, 7, 7, 7, 7, 7, 7, 7, 7, 7, -1, 7, 7, -1, -1, 23, -1, 7, 23, -1, 7, 23, -1, 7, 7, -1, 7, 7, 7, 7, 7, -1, 7, 7, 7, 7, -1, -1, 7, -1, -1, 3, 7, -1, 3, 7, -1, -1, -1, -1, 7, 7, 7, 7, 7, 7] : List Int32).getD j 0
/-- what of the launch stays: statics, the table of operands, what throwing needs -/
def g_ev (G : GP) (U : State) : Prop := va_Z "BarrelSlots" "GREATEST" "[I" (.ref G.2.2.2.2) (g_A G) U U.heap ∧ va_T .int G.2.2.2.2 63 (fun j => .int (g_tab j)) (g_A G) U U.heap ∧ vx_Zq Bundle.tN "UNASSIGNED_STACK" Bundle.steD (g_A G) U U.heap ∧ vx_Zq Bundle.tN "SUPPRESSED_SENTINEL" Bundle.listD (g_A G) U U.heap
/-- all that stays at a state -/
def g_sc (G : GP) (U : State) : Prop := va_K G.1 g_cl (g_tys G) U ∧ g_nw U ∧ g_ev G U ∧ (∀ σ τ, va_D (g_A G) (wd G σ τ)) ∧ G.2.2.1 ≤ U.heap.size
theorem g_sc.at {G : GP} {s U : State} (h : g_sc G s) (hW : s.WarmedH U.vm) (hz : s.heap.size ≤ U.heap.size) (hq : ∀ q : Nat, q < s.heap.size → ¬ g_A G q → U.heap[q]? = s.heap[q]?) : g_sc G U := by
  obtain ⟨h1, h2, ⟨e1, e2, e5, e6⟩, h4, h5⟩ := h
  refine ⟨va_K.moved hW.alike h1, h2.moved hW, ⟨va_Z.moved hW.alike (e1.kept hq), va_T.moved hW.alike (e2.kept hq), vx_Zq.moved hW.alike (e5.kept hq), vx_Zq.moved hW.alike (e6.kept hq)⟩, h4, Nat.le_trans h5 hz⟩
theorem g_sc.dr {G : GP} {s : State} (h : g_sc G s) (d : Drawn) : g_sc G (s.setDrawn d) := h.at (State.WarmedH.refl s) (Nat.le_refl _) (fun _ _ _ => rfl)
/-- the state of the run: the class's ints, the reference's ints, the longs -/
def g_pw (G : GP) (u : SM × SM × SL) (U : State) : Prop := g_sc G U ∧ va_P G.1 g_cl (wd G (cb u.1 u.2.1) u.2.2) U.heap
