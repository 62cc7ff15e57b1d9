/-! the relation of the class memory X (machine m) and the reference memory M -/
theorem u1_ne {σ : SM} {k i j k' i' j' : Nat} {v : Int32} (h : ¬ (k' = k ∧ i' = i ∧ j' = j)) : u1 σ k i j v k' i' j' = σ k' i' j' := by rw [u1_at, if_neg h]
theorem u1_eq {σ : SM} {k i j k' i' j' : Nat} {v : Int32} (h : k' = k ∧ i' = i ∧ j' = j) : u1 σ k i j v k' i' j' = v := by rw [u1_at, if_pos h]
theorem u_pair {σ ρ : SM} {k i j k' i' j' K I J K' I' J' : Nat} {v : Int32} (h : σ K I J = ρ K' I' J') (e : (K = k ∧ I = i ∧ J = j) ↔ (K' = k' ∧ I' = i' ∧ J' = j')) : u1 σ k i j v K I J = u1 ρ k' i' j' v K' I' J' := by
  rw [u1_at, u1_at]
  by_cases c : K = k ∧ I = i ∧ J = j
  · rw [if_pos c, if_pos (e.mp c)]
  · rw [if_neg c, if_neg (fun q => c (e.mpr q))]; exact h
theorem u_off {σ ρ : SM} {k i j k' i' j' K I J K' I' J' : Nat} {v v' : Int32} (h : σ K I J = ρ K' I' J') (e : ¬ (K = k ∧ I = i ∧ J = j)) (e' : ¬ (K' = k' ∧ I' = i' ∧ J' = j')) : u1 σ k i j v K I J = u1 ρ k' i' j' v' K' I' J' := by
  rw [u1_ne e, u1_ne e']; exact h
def s6 (M : SM) (o : Nat) : Int32 := 0 + M 40 0 (o + 0) + M 40 0 (o + 1) + M 40 0 (o + 2) + M 40 0 (o + 3) + M 40 0 (o + 4) + M 40 0 (o + 5)
def rA (m : Nat) (X M : SM) : Prop := ∀ t r, t < 6 → r < 8 → X 31 (6 * m + t) r = M 40 0 (8 * t + r)
def rB (m : Nat) (X M : SM) : Prop := ∀ t c, t < 6 → c < 16 → X 32 (6 * m + t) c = M 40 0 (48 + 16 * t + c)
def rW (m : Nat) (X M : SM) : Prop := ∀ t q, t < 6 → q < 6 → X 9 (6 * m + t) (8 + q) = M 40 0 (432 + 6 * q + t)
def rL (m : Nat) (X M : SM) : Prop := ∀ t, t < 6 → X 9 (6 * m + t) 14 = M 40 0 (474 + t)
def rP (m : Nat) (X M : SM) : Prop := ∀ p, p < 8 → X 30 m p = M 40 0 (486 + p)
def rK (m : Nat) (X M : SM) : Prop := ∀ p, p < 8 → X 29 m p = M 46 0 p
def rN (m : Nat) (X M : SM) : Prop := X 7 m 5 = M 40 0 683 ∧ X 7 m 6 = M 40 0 685 ∧ X 7 m 10 = M 40 0 684 ∧ X 7 m 11 = M 40 0 686
def rC (m : Nat) (X M : SM) : Prop := ∀ t p, t < 6 → p < 24 → X 16 (6 * m + t) p = M 42 0 (4 * (24 * t + p)) ∧ X 17 (6 * m + t) p = M 42 0 (4 * (24 * t + p) + 1) ∧ X 18 (6 * m + t) p = M 42 0 (4 * (24 * t + p) + 2) ∧ X 19 (6 * m + t) p = M 42 0 (4 * (24 * t + p) + 3)
def rM (m : Nat) (X M : SM) : Prop := ∀ t, t < 6 → X 1 (6 * m + t) 4 = M 43 0 t
def rO (m : Nat) (X M : SM) : Prop := ∀ t, t < 6 → X 9 (6 * m + t) 6 = M 44 0 t
def rH (m : Nat) (X M : SM) : Prop := ∀ t, t < 6 → (X 9 (6 * m + t) 7 = 0 ∧ M 45 0 t = 1) ∨ (X 9 (6 * m + t) 7 = 1 ∧ M 45 0 t = 0)
def rU (m : Nat) (X M : SM) : Prop := ∀ t, t < 6 → X 9 (6 * m + t) 0 = nI t
def rQ (m : Nat) (X M : SM) : Prop := ∃ len : Nat → Nat, (∀ c, c < 4 → X 15 m c = nI (len c) ∧ M 40 0 (518 + c) = nI (len c) ∧ len c ≤ 6) ∧ (∀ c k, c < 4 → k < len c → X 14 (4 * m + c) k = M 40 0 (494 + 6 * c + k) ∧ ∃ t, t < 6 ∧ M 40 0 (494 + 6 * c + k) = nI t ∧ (M 40 0 (438 + t) = 2 ∨ M 40 0 (438 + t) = 3)) ∧ (∀ c k d l, c < 4 → d < 4 → k < len c → l < len d → M 40 0 (494 + 6 * c + k) = M 40 0 (494 + 6 * d + l) → c = d ∧ k = l)
def rS (m : Nat) (X M : SM) : Prop := X 7 m 7 = s6 M 456 ∧ X 7 m 8 = s6 M 450 ∧ X 7 m 9 = s6 M 474
def rZ (m : Nat) (X M : SM) : Prop := ∀ t p, t < 6 → p < 24 → (X 33 (6 * m + t) p = 0 ∧ M 40 0 (144 + 24 * t + p) = 0 ∧ M 40 0 (288 + 24 * t + p) = 0) ∨ (∃ a x, 0 < a ∧ a ≤ x ∧ x < 8 ∧ nI p < M 43 0 t ∧ X 33 (6 * m + t) p = nI a ∧ M 42 0 (4 * (24 * t + p) + 1) = nI x ∧ M 40 0 (144 + 24 * t + p) = nI (x - a) ∧ M 40 0 (288 + 24 * t + p) = 1)
def rE (m : Nat) (X M : SM) : Prop := ∀ t, t < 6 → (M 40 0 (438 + t) ≠ 1 → M 40 0 (468 + t) = -1) ∧ (M 40 0 (438 + t) = 1 ∨ M 40 0 (438 + t) = 2 ∨ M 40 0 (438 + t) = 3 → ∃ w, w < 24 ∧ M 40 0 (480 + t) = nI w ∧ nI w < M 43 0 t ∧ (M 40 0 (438 + t) = 1 → X 4 (6 * m + t) 0 = M 42 0 (4 * (24 * t + w)) ∧ X 4 (6 * m + t) 4 = M 40 0 (468 + t) ∧ (M 42 0 (4 * (24 * t + w)) = 11 → X 4 (6 * m + t) 1 = M 42 0 (4 * (24 * t + w) + 1) ∧ X 4 (6 * m + t) 3 = M 40 0 (687 + t) &&& 1) ∧ (M 42 0 (4 * (24 * t + w)) = 13 → X 4 (6 * m + t) 1 = M 42 0 (4 * (24 * t + w) + 1) ∧ X 4 (6 * m + t) 2 = M 42 0 (4 * (24 * t + w) + 2))) ∧ (M 40 0 (438 + t) = 2 → X 4 (6 * m + t) 3 = M 40 0 (687 + t)) ∧ (M 40 0 (438 + t) = 3 → M 42 0 (4 * (24 * t + w)) = 17 ∧ X 4 (6 * m + t) 2 = M 42 0 (4 * (24 * t + w) + 2)))
def iC (M : SM) : Prop := ∀ t, t < 6 → ∃ n, n ≤ 24 ∧ M 43 0 t = nI n ∧ (∀ p, p < n → ∃ k, k ≤ 20 ∧ M 42 0 (4 * (24 * t + p)) = nI k ∧ fn_X12_canTell (nI k) (M 42 0 (4 * (24 * t + p) + 1)) (M 42 0 (4 * (24 * t + p) + 2)) (M 42 0 (4 * (24 * t + p) + 3)) (nI p) = some 1) ∧ ∃ q, M 40 0 (432 + t) = nI q ∧ (q = 0 ∨ q < n)
def iT (M : SM) : Prop := ∀ t, t < 6 → ∃ s, s < 6 ∧ M 40 0 (438 + t) = nI s
def iL (M : SM) : Prop := M 40 0 684 = -1 ∨ ∃ t, t < 6 ∧ M 40 0 684 = nI t
def iO (M : SM) : Prop := ∀ t, t < 6 → M 44 0 t = -1 ∨ ∃ n, n ≤ 16 ∧ M 44 0 t = nI n
def iK (M : SM) : Prop := ∀ p, p < 8 → M 46 0 p = 0 ∨ M 46 0 p = 1 ∨ M 46 0 p = 2
def iE (M : SM) : Prop := ∃ k, k ≤ 40 ∧ M 40 0 682 = nI k
def rR (m : Nat) (X M : SM) : Prop := rA m X M ∧ rB m X M ∧ rW m X M ∧ rL m X M ∧ rP m X M ∧ rK m X M ∧ rN m X M ∧ rC m X M ∧ rM m X M ∧ rO m X M ∧ rH m X M ∧ rU m X M ∧ rQ m X M ∧ rS m X M ∧ rZ m X M ∧ rE m X M ∧ iC M ∧ iT M ∧ iL M ∧ iO M ∧ iK M ∧ iE M
theorem rR_rA {m : Nat} {X M : SM} (h : rR m X M) : rA m X M := h.1
theorem rR_rB {m : Nat} {X M : SM} (h : rR m X M) : rB m X M := h.2.1
theorem rR_rW {m : Nat} {X M : SM} (h : rR m X M) : rW m X M := h.2.2.1
theorem rR_rL {m : Nat} {X M : SM} (h : rR m X M) : rL m X M := h.2.2.2.1
theorem rR_rP {m : Nat} {X M : SM} (h : rR m X M) : rP m X M := h.2.2.2.2.1
theorem rR_rK {m : Nat} {X M : SM} (h : rR m X M) : rK m X M := h.2.2.2.2.2.1
theorem rR_rN {m : Nat} {X M : SM} (h : rR m X M) : rN m X M := h.2.2.2.2.2.2.1
theorem rR_rC {m : Nat} {X M : SM} (h : rR m X M) : rC m X M := h.2.2.2.2.2.2.2.1
theorem rR_rM {m : Nat} {X M : SM} (h : rR m X M) : rM m X M := h.2.2.2.2.2.2.2.2.1
theorem rR_rO {m : Nat} {X M : SM} (h : rR m X M) : rO m X M := h.2.2.2.2.2.2.2.2.2.1
theorem rR_rH {m : Nat} {X M : SM} (h : rR m X M) : rH m X M := h.2.2.2.2.2.2.2.2.2.2.1
theorem rR_rU {m : Nat} {X M : SM} (h : rR m X M) : rU m X M := h.2.2.2.2.2.2.2.2.2.2.2.1
theorem rR_rQ {m : Nat} {X M : SM} (h : rR m X M) : rQ m X M := h.2.2.2.2.2.2.2.2.2.2.2.2.1
theorem rR_rS {m : Nat} {X M : SM} (h : rR m X M) : rS m X M := h.2.2.2.2.2.2.2.2.2.2.2.2.2.1
theorem rR_rZ {m : Nat} {X M : SM} (h : rR m X M) : rZ m X M := h.2.2.2.2.2.2.2.2.2.2.2.2.2.2.1
theorem rR_rE {m : Nat} {X M : SM} (h : rR m X M) : rE m X M := h.2.2.2.2.2.2.2.2.2.2.2.2.2.2.2.1
theorem rR_iC {m : Nat} {X M : SM} (h : rR m X M) : iC M := h.2.2.2.2.2.2.2.2.2.2.2.2.2.2.2.2.1
theorem rR_iT {m : Nat} {X M : SM} (h : rR m X M) : iT M := h.2.2.2.2.2.2.2.2.2.2.2.2.2.2.2.2.2.1
theorem rR_iL {m : Nat} {X M : SM} (h : rR m X M) : iL M := h.2.2.2.2.2.2.2.2.2.2.2.2.2.2.2.2.2.2.1
theorem rR_iO {m : Nat} {X M : SM} (h : rR m X M) : iO M := h.2.2.2.2.2.2.2.2.2.2.2.2.2.2.2.2.2.2.2.1
theorem rR_iK {m : Nat} {X M : SM} (h : rR m X M) : iK M := h.2.2.2.2.2.2.2.2.2.2.2.2.2.2.2.2.2.2.2.2.1
theorem rR_iE {m : Nat} {X M : SM} (h : rR m X M) : iE M := h.2.2.2.2.2.2.2.2.2.2.2.2.2.2.2.2.2.2.2.2.2
def gV (X M : SM) : Prop := ∃ e, e ≤ 32 ∧ X 5 0 3 = nI e ∧ M 39 0 10 = nI e ∧ ∀ i, i < e → X 23 0 i = M 47 0 i ∧ X 22 0 i = M 48 0 i ∧ X 24 0 i = M 49 0 i ∧ ∃ p, p < 8 ∧ M 48 0 i = nI p
def gT (X M : SM) : Prop := ∃ n, 1 ≤ n ∧ n ≤ 16 ∧ X 10 0 1 = nI n ∧ M 39 0 12 = nI n ∧ ∀ s, s < n → X 34 0 s = M 50 0 s ∧ (M 50 0 s = -1 ∨ ∃ t, t < 6 ∧ M 50 0 s = nI t)
def gD (X M : SM) : Prop := ∀ t, t < 6 → X 35 0 t = M 51 0 t ∧ X 36 0 t = M 52 0 t ∧ ∃ g, g ≤ 16 ∧ M 52 0 t = nI g
def gE (X M : SM) : Prop := ∃ n k, n < 40 ∧ k ≤ 40 ∧ X 3 0 1 = nI n ∧ X 3 0 2 = nI k ∧ M 40 0 682 = nI k ∧ ∀ i w, i < k → w < 4 → X 21 0 (4 * ((n + 39 - i) % 40) + w) = M 40 0 (522 + 4 * i + w)
def gW (m : Nat) (X : SM) : Prop := (∃ n k, n < 40 ∧ k ≤ 40 ∧ X 3 m 1 = nI n ∧ X 3 m 2 = nI k) ∧ ∀ t, t < 6 → X 9 (6 * m + t) 0 = nI t
def rJ (b : Nat) (X M : SM) : Prop := rR 0 X M ∧ gV X M ∧ gT X M ∧ gD X M ∧ gE X M ∧ gW 1 X ∧ ∃ n, n ≤ b ∧ M 40 0 683 = nI n
theorem rR_39 {m j : Nat} {X M : SM} {v : Int32} (h : rR m X M) : rR m X (u1 M 39 0 j v) := h
theorem rJ_thr {b : Nat} {X M : SM} {v : Int32} (h : rJ b X M) : rJ b X (u1 M 39 0 15 v) := h
theorem rJ_le {b b' : Nat} {X M : SM} (h : rJ b X M) (q : b ≤ b') : rJ b' X M := ⟨h.1, h.2.1, h.2.2.1, h.2.2.2.1, h.2.2.2.2.1, h.2.2.2.2.2.1, h.2.2.2.2.2.2.elim fun n e => ⟨n, Nat.le_trans e.1 q, e.2⟩⟩
