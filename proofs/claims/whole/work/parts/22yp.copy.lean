/-! the ghost: the relation goes over from one machine to another -/
theorem rR_tr {m m' : Nat} {X X' M M' : SM} (h31 : ∀ t j, t < 6 → j < 8 → X' 31 (6 * m' + t) j = X 31 (6 * m + t) j) (h32 : ∀ t j, t < 6 → j < 16 → X' 32 (6 * m' + t) j = X 32 (6 * m + t) j) (h33 : ∀ t j, t < 6 → j < 24 → X' 33 (6 * m' + t) j = X 33 (6 * m + t) j) (h9 : ∀ t j, t < 6 → 6 ≤ j → j < 15 → X' 9 (6 * m' + t) j = X 9 (6 * m + t) j) (h90 : ∀ t, t < 6 → X' 9 (6 * m' + t) 0 = nI t) (h4 : ∀ t j, t < 6 → j < 5 → X' 4 (6 * m' + t) j = X 4 (6 * m + t) j) (h16 : ∀ k t p, 16 ≤ k → k < 20 → t < 6 → p < 24 → X' k (6 * m' + t) p = X k (6 * m + t) p) (h1 : ∀ t, t < 6 → X' 1 (6 * m' + t) 4 = X 1 (6 * m + t) 4) (h29 : ∀ p, p < 8 → X' 29 m' p = X 29 m p) (h30 : ∀ p, p < 8 → X' 30 m' p = X 30 m p) (h7 : ∀ j, 5 ≤ j → j < 12 → X' 7 m' j = X 7 m j) (h14 : ∀ c k, c < 4 → k < 6 → X' 14 (4 * m' + c) k = X 14 (4 * m + c) k) (h15 : ∀ c, c < 4 → X' 15 m' c = X 15 m c) (hM : ∀ j, j < 693 → M' 40 0 j = M 40 0 j) (hK : ∀ k j, 42 ≤ k → k ≤ 46 → M' k 0 j = M k 0 j) (h : rR m X M) : rR m' X' M' := by
  have k42 : ∀ j, M' 42 0 j = M 42 0 j := fun j => hK 42 j (by decide) (by decide)
  have k43 : ∀ j, M' 43 0 j = M 43 0 j := fun j => hK 43 j (by decide) (by decide)
  have k44 : ∀ j, M' 44 0 j = M 44 0 j := fun j => hK 44 j (by decide) (by decide)
  have k45 : ∀ j, M' 45 0 j = M 45 0 j := fun j => hK 45 j (by decide) (by decide)
  have k46 : ∀ j, M' 46 0 j = M 46 0 j := fun j => hK 46 j (by decide) (by decide)
  have hs : ∀ o, o + 6 ≤ 693 → s6 M' o = s6 M o := fun o ho => s6_c (fun j a b => hM j (by omega))
  refine ⟨fun t r ht hr => ?_, fun t r ht hr => ?_, fun t q ht hq => ?_, fun t ht => ?_, fun p hp => ?_, fun p hp => ?_, ⟨?_, ?_, ?_, ?_⟩, fun t p ht hp => ?_, fun t ht => ?_, fun t ht => ?_, fun t ht => ?_, fun t ht => h90 t ht, ?_, ⟨?_, ?_, ?_⟩, fun t p ht hp => ?_, fun t ht => ?_, fun t ht => ?_, fun t ht => ?_, ?_, fun t ht => ?_, fun p hp => ?_, ?_⟩
  · rw [h31 t r ht hr, hM _ (by omega)]; exact rR_rA h t r ht hr
  · rw [h32 t r ht hr, hM _ (by omega)]; exact rR_rB h t r ht hr
  · rw [h9 t _ ht (by omega) (by omega), hM _ (by omega)]; exact rR_rW h t q ht hq
  · rw [h9 t _ ht (by omega) (by omega), hM _ (by omega)]; exact rR_rL h t ht
  · rw [h30 p hp, hM _ (by omega)]; exact rR_rP h p hp
  · rw [h29 p hp, k46]; exact rR_rK h p hp
  · rw [h7 _ (by omega) (by omega), hM _ (by omega)]; exact (rR_rN h).1
  · rw [h7 _ (by omega) (by omega), hM _ (by omega)]; exact (rR_rN h).2.1
  · rw [h7 _ (by omega) (by omega), hM _ (by omega)]; exact (rR_rN h).2.2.1
  · rw [h7 _ (by omega) (by omega), hM _ (by omega)]; exact (rR_rN h).2.2.2
  · rw [h16 16 t p (by omega) (by omega) ht hp, h16 17 t p (by omega) (by omega) ht hp, h16 18 t p (by omega) (by omega) ht hp, h16 19 t p (by omega) (by omega) ht hp, k42, k42, k42, k42]
    exact rR_rC h t p ht hp
  · rw [h1 t ht, k43]; exact rR_rM h t ht
  · rw [h9 t _ ht (by omega) (by omega), k44]; exact rR_rO h t ht
  · rw [h9 t _ ht (by omega) (by omega), k45]; exact rR_rH h t ht
  · obtain ⟨len, ha, hb, hc⟩ := rR_rQ h
    refine ⟨len, fun c q => ?_, fun c k q r => ?_, fun c k d l q q' r r' => ?_⟩
    · rw [h15 c q, hM _ (by omega)]; exact ha c q
    · have hl := (ha c q).2.2
      rw [h14 c k q (by omega), hM _ (by omega)]
      obtain ⟨e, t, ht, e2, e3⟩ := hb c k q r
      exact ⟨e, t, ht, e2, by rw [hM _ (by omega)]; exact e3⟩
    · have hl := (ha c q).2.2
      have hl' := (ha d q').2.2
      rw [hM _ (by omega), hM _ (by omega)]
      exact hc c k d l q q' r r'
  · rw [h7 _ (by omega) (by omega), hs _ (by omega)]; exact (rR_rS h).1
  · rw [h7 _ (by omega) (by omega), hs _ (by omega)]; exact (rR_rS h).2.1
  · rw [h7 _ (by omega) (by omega), hs _ (by omega)]; exact (rR_rS h).2.2
  · rw [h33 t p ht hp, hM _ (by omega), hM _ (by omega), k42, k43]; exact rR_rZ h t p ht hp
  · rw [h4 t 0 ht (by omega), h4 t 1 ht (by omega), h4 t 2 ht (by omega), h4 t 3 ht (by omega), h4 t 4 ht (by omega), hM (438 + t) (by omega), hM (468 + t) (by omega), hM (480 + t) (by omega), hM (687 + t) (by omega), k43]
    simp only [k42]
    exact rR_rE h t ht
  · rw [k43, hM _ (by omega)]
    simp only [k42]
    exact rR_iC h t ht
  · rw [hM _ (by omega)]; exact rR_iT h t ht
  · exact iL_c (M := M) (hM _ (by omega)) (rR_iL h)
  · rw [k44]; exact rR_iO h t ht
  · rw [k46]; exact rR_iK h p hp
  · exact iE_c (M := M) (hM _ (by omega)) (rR_iE h)
/-- the ghost's own cells -/
def gh (k i : Nat) : Prop := ((k = 1 ∨ k = 4 ∨ k = 9 ∨ k = 16 ∨ k = 17 ∨ k = 18 ∨ k = 19 ∨ k = 31 ∨ k = 32 ∨ k = 33) ∧ 6 ≤ i ∧ i < 12) ∨ ((k = 3 ∨ k = 7 ∨ k = 15 ∨ k = 21 ∨ k = 29 ∨ k = 30) ∧ i = 1) ∨ (k = 14 ∧ 4 ≤ i ∧ i < 8)
def gX (X X' : SM) : Prop := ∀ k i j, ¬ gh k i → X' k i j = X k i j
theorem gX_o {X X' : SM} (h : oX 1 X X') : gX X X' := fun k i j q => h k i j (fun w => q (by unfold ow at w; unfold gh; omega)) (fun w => q (by unfold gh; omega))
theorem gX_t {X Y Z : SM} (a : gX X Y) (b : gX Y Z) : gX X Z := fun k i j q => (b k i j q).trans (a k i j q)
theorem rJ_g {b : Nat} {X X' M M' : SM} (hX : gX X X') (hM : ∀ j, j < 693 → M' 40 0 j = M 40 0 j) (hK : ∀ k j, 42 ≤ k → k ≤ 52 → M' k 0 j = M k 0 j) (h39 : ∀ j, j ≠ 15 → M' 39 0 j = M 39 0 j) (hg : gW 1 X') (h : rJ b X M) : rJ b X' M' := by
  have hx : ∀ k i j, ¬ gh k i → X' k i j = X k i j := hX
  refine ⟨rR_tr (m := 0) (X := X) (M := M) (fun t j _ _ => hx _ _ _ (by unfold gh; omega)) (fun t j _ _ => hx _ _ _ (by unfold gh; omega)) (fun t j _ _ => hx _ _ _ (by unfold gh; omega)) (fun t j _ _ _ => hx _ _ _ (by unfold gh; omega)) (fun t ht => (hx _ _ _ (by unfold gh; omega)).trans (rR_rU h.1 t ht)) (fun t j _ _ => hx _ _ _ (by unfold gh; omega)) (fun k t p _ _ _ _ => hx _ _ _ (by unfold gh; omega)) (fun t _ => hx _ _ _ (by unfold gh; omega)) (fun p _ => hx _ _ _ (by unfold gh; omega)) (fun p _ => hx _ _ _ (by unfold gh; omega)) (fun j _ _ => hx _ _ _ (by unfold gh; omega)) (fun c k _ _ => hx _ _ _ (by unfold gh; omega)) (fun c _ => hx _ _ _ (by unfold gh; omega)) hM (fun k j q1 q2 => hK k j q1 (by omega)) h.1, ?_, ?_, fun t ht => ?_, gE_c (X := X) (M := M) (fun j => hx _ _ _ (by unfold gh; omega)) (fun j => hx _ _ _ (by unfold gh; omega)) (fun j _ _ => hM _ (by omega)) h.2.2.2.2.1, hg, ?_⟩
  · obtain ⟨e, h1, h2, h3, h4⟩ := h.2.1
    refine ⟨e, h1, (hx _ _ _ (by unfold gh; omega)).trans h2, (h39 10 (by omega)).trans h3, fun i hi => ?_⟩
    rw [hx 23 0 i (by unfold gh; omega), hx 22 0 i (by unfold gh; omega), hx 24 0 i (by unfold gh; omega), hK 47 i (by omega) (by omega), hK 48 i (by omega) (by omega), hK 49 i (by omega) (by omega)]
    exact h4 i hi
  · obtain ⟨e, h1, h2, h3, h4, h5⟩ := h.2.2.1
    refine ⟨e, h1, h2, (hx _ _ _ (by unfold gh; omega)).trans h3, (h39 12 (by omega)).trans h4, fun i hi => ?_⟩
    rw [hx 34 0 i (by unfold gh; omega), hK 50 i (by omega) (by omega)]
    exact h5 i hi
  · rw [hx 35 0 t (by unfold gh; omega), hx 36 0 t (by unfold gh; omega), hK 51 t (by omega) (by omega), hK 52 t (by omega) (by omega)]
    exact h.2.2.2.1 t ht
  · obtain ⟨n, hn, e⟩ := h.2.2.2.2.2.2
    exact ⟨n, hn, (hM _ (by omega)).trans e⟩
def mkp (M : SM) (i : Nat) : SM := fun k a j => if k = 41 ∧ a = 0 ∧ i ≤ j ∧ j < 693 then M 40 0 j else M k a j
def mcb (M : SM) (i : Nat) : SM := fun k a j => if k = 40 ∧ a = 0 ∧ i ≤ j ∧ j < 693 then M 41 0 j else M k a j
theorem keep_loop : ∀ (d i : Nat) (M : SM) (f : Nat), i + d = 693 → d < f → wl_X12_keeps_2 f (nI i) M = some (mkp M i) := by
  intro d
  induction d with
  | zero =>
    intro i M f h1 h2
    obtain ⟨f, rfl⟩ : ∃ q, f = q + 1 := ⟨f - 1, by omega⟩
    have : i = 693 := by omega
    subst this
    rw [wl_X12_keeps_2_s]
    unfold wb_X12_keeps_2
    rw [if_pos (show (693 : Int32) ≤ nI 693 by decide)]
    congr 1
    funext k a j
    exact (if_neg (by omega)).symm
  | succ d ih =>
    intro i M f h1 h2
    obtain ⟨f, rfl⟩ : ∃ q, f = q + 1 := ⟨f - 1, by omega⟩
    rw [wl_X12_keeps_2_s]
    unfold wb_X12_keeps_2
    simp only [if_neg (show ¬ (693 : Int32) ≤ nI i from nI_ge (b := 693) (by omega) (by decide)), if_pos (in693 (show i < 693 by omega)), cl693 (show i < 693 by omega), g_let_eq, nI_1]
    rw [ih (i + 1) _ f (by omega) (by omega)]
    congr 1
    funext k a j
    unfold mkp
    simp only [u1_at]
    by_cases q : k = 41 ∧ a = 0 ∧ i ≤ j ∧ j < 693
    · rw [if_pos q]
      by_cases z : j = i
      · subst z
        rw [if_neg (by omega), if_pos ⟨q.1, q.2.1, rfl⟩]
      · rw [if_pos (by omega), if_neg (by omega)]
    · rw [if_neg q, if_neg (by omega), if_neg (by omega)]
theorem back_loop : ∀ (d i : Nat) (M : SM) (f : Nat), i + d = 693 → d < f → wl_X12_comesBack_2 f (nI i) M = some (mcb M i) := by
  intro d
  induction d with
  | zero =>
    intro i M f h1 h2
    obtain ⟨f, rfl⟩ : ∃ q, f = q + 1 := ⟨f - 1, by omega⟩
    have : i = 693 := by omega
    subst this
    rw [wl_X12_comesBack_2_s]
    unfold wb_X12_comesBack_2
    rw [if_pos (show (693 : Int32) ≤ nI 693 by decide)]
    congr 1
    funext k a j
    exact (if_neg (by omega)).symm
  | succ d ih =>
    intro i M f h1 h2
    obtain ⟨f, rfl⟩ : ∃ q, f = q + 1 := ⟨f - 1, by omega⟩
    rw [wl_X12_comesBack_2_s]
    unfold wb_X12_comesBack_2
    simp only [if_neg (show ¬ (693 : Int32) ≤ nI i from nI_ge (b := 693) (by omega) (by decide)), if_pos (in693 (show i < 693 by omega)), cl693 (show i < 693 by omega), g_let_eq, nI_1]
    rw [ih (i + 1) _ f (by omega) (by omega)]
    congr 1
    funext k a j
    unfold mcb
    simp only [u1_at]
    by_cases q : k = 40 ∧ a = 0 ∧ i ≤ j ∧ j < 693
    · rw [if_pos q]
      by_cases z : j = i
      · subst z
        rw [if_neg (by omega), if_pos ⟨q.1, q.2.1, rfl⟩]
      · rw [if_pos (by omega), if_neg (by omega)]
    · rw [if_neg q, if_neg (by omega), if_neg (by omega)]
theorem m_keeps {M : SM} : fn_X12_keeps M = some (mkp M 0) := keep_loop 693 0 M 1000 (by omega) (by omega)
theorem m_back {M : SM} : fn_X12_comesBack M = some (mcb M 0) := back_loop 693 0 M 1000 (by omega) (by omega)
