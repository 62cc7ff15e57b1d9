theorem x_ofWF {l : Launch} {y : MethodName} {ws ws' : List Cond} {rm : Room} {Pc : Array Value → State → Prop} {Qc : Array Value → State → Outcome → State → Prop} {mc ms : Nat} {free : Addr → Prop} {cc : ByteArray} {maxL : Nat} {ret : Option FieldType}
    (hy : plainFor y = true) (hw : ws = Cond.code y cc maxL ret :: ws')
    (body : ∀ p e s m args below meth c s₁, BodyLoose p l y (headSpec ws rm) cc maxL ret e s m args below meth c s₁ → c.maxLocals = maxL → Pc args s →
      W p l e (headSpec ws rm).room s m args below meth c s.heap [] 0 0 (MQ below Qc args s mc ms free) (entryFrame m args maxL)) : Met l y ws rm Pc Qc mc ms free := by
  refine MetFree.of_bodySF (code := cc) (maxLocals := maxL) (ret := ret) hy ?_ ?_
  · intro args s m h hn
    obtain ⟨meth, c, h1, h2, h3, h4, h5, h6, -, -⟩ := Cond.code_spec hn (atoms_spec (ws := ws) h _ (by rw [hw]; exact List.mem_cons_self))
    exact ⟨meth, c, h1, h2, h3, h4, h5, h6⟩
  · intro p e s m args below meth c s₁ B hml hP _
    have hh0 : s₁.heap = s.heap := by rw [B.state]; rfl
    obtain ⟨t, a1, o, b1, b2, b3⟩ := body p e s m args below meth c s₁ B hml hP s₁ hh0 (Stand.of_body B)
    exact ⟨t, o, a1, b1, b2, ⟨b3.1, b3.2⟩⟩
def g_mc (p : Program) (s : State) (m : MethodId) (args : Array Value) (meth : Method) (c : Code) (own : String) (cc : ByteArray) (ret : Option FieldType) (nL : Nat) (G : GP) : Prop :=
  p.tables.exec = Jvm.exec ∧ c.code = cc ∧ meth.sig.returnType = ret ∧ c.maxLocals = nL ∧ s.vm.findClass own = some m.cls ∧ (∀ w ∈ wsL_law, w.before args s = true) ∧ meth.locks = false ∧ g_sc G s
def g_loop {α β : Type} (body : (α → Option β) → α → Option β) : Nat → α → Option β
  | 0, _ => none
  | n + 1, a => body (g_loop body n) a
abbrev g_n32 (r : UInt32) : Prop := r &&& 0x7fffffff ≤ 0x7f800000
def uf (σ : SM) (k i n : Nat) (v : Int32) : SM := ur σ k i (fun j => if j < n then v else σ k i j)
def uc (σ : SM) (k i k0 i0 n : Nat) : SM := ur σ k i (va_cpy (σ k0 i0) (σ k i) 0 0 n)
section GS
variable {p : Program} {l : Launch} {e : Env} {R : Room} {s : State} {m : MethodId} {args : Array Value} {below : List Frame} {meth : Method} {c : Code} {H : Heap} {locs : List Loc} {Q : State → Prop} {cc : ByteArray} {pc : Nat} {ls : Array Slot} {rest : List Value} {G : GP} {X M : SM} {τ : SL} {own : String} {index : Nat} {nc ns : Nat}
theorem lv_toprE {k a b : Nat} (h : a = b) (kk : W p l e R s m args below meth c H locs nc ns Q (F0 m pc ls (.ref (G.2.1 k b) :: rest))) : W p l e R s m args below meth c H locs nc ns Q (F0 m pc ls (.ref (G.2.1 k a) :: rest)) := h ▸ kk
theorem lv_ldcwf (hexec : p.tables.exec = Jvm.exec) (hb : c.code = cc) {v : UInt32} (hown : s.vm.findClass own = some m.cls) (hconst : (Jvm.Cond.constantFloat own index v).before args s = true) (hdg : decode cc pc = .ok (.ldc_w index, 3)) (k : W p l e R s m args below meth c H locs nc ns Q (F0 m (pc + 3) ls (.float v :: rest))) : W p l e R s m args below meth c H locs nc ns Q (F0 m pc ls rest) := by
  intro T hT X
  obtain ⟨t, a, b⟩ := k T hT X
  refine ⟨t, ?_, b⟩
  obtain ⟨k1, cf, hk, hcf, hcp⟩ := Cond.constantFloat_spec hown hconst
  obtain ⟨k', hk', he⟩ := X.warmed.alike.2.2 _ _ hk
  jvm_step X.here [hexec, hb, hdg, ldc_w.wp_float (s := T) (f := F0 m pc ls rest) X.here.top hk' (by rw [he]; exact hcf) hcp]
  exact a
end GS
/-! Arrays.fill over any world -/
abbrev rm_fill : Room := { frames := 0, cells := 0, slots := 0, locals := 0 }
section GF
variable {p : Program} {l : Launch} {e : Env} {R : Room} {s : State} {m : MethodId} {args : Array Value} {below : List Frame} {meth : Method} {c : Code}
theorem fill_upd {f0 f : Nat → Int32} {i : Nat} {v : Int32} (hi : i < 2 ^ 31) (hf : ∀ j, f j = if j < i then v else f0 j) : ∀ j, upd f (nI i).toNatClampNeg v j = if j < i + 1 then v else f0 j := by
  intro j
  unfold upd
  rw [nI_clamp hi, hf]
  by_cases e : j = i
  · subst e; simp
  · rw [if_neg e]
    by_cases h : j < i
    · rw [if_pos h, if_pos (by omega)]
    · rw [if_neg h, if_neg (by omega)]
theorem fill_loop {ws : va_W} {q0 a N : Nat} {cA : ClassId} {D : va_G} {A : Nat → Prop} {cl : List vw_C} {v : Int32} (hx : p.tables.exec = Jvm.exec) (hb : c.code = cJ7_fill_53178) (hr : meth.sig.returnType = none) (hlocks : meth.locks = false) (hN : N < 2 ^ 31)
    (hK : va_K D cl [(cA, .int)] s) (hq0 : q0 < ws.length) {f0 : Nat → Int32} :
    ∀ (d i : Nat), i + d = N → ∀ (f : Nat → Int32), (∀ j, f j = if j < i then v else f0 j) → ∀ (H : Heap) (locs : List Loc) (ls : Array Slot), va_P D cl (ws.set q0 (a, .inl (cA, N, .inl f))) H → va_D A (ws.set q0 (a, .inl (cA, N, .inl f))) → va_S A s.heap H locs → lv_has ls 4 [(0, .ref a), (1, .int v), (2, .int (nI i)), (3, .int (nI N))] → W p l e R s m args below meth c H locs 0 0 (MQ below (va_Qv (fun _ : Unit => True) (fun _ t => va_P D cl (ws.set q0 (a, .inl (cA, N, .inl (fun j => if j < N then v else f0 j)))) t.heap) A) args s 0 0 A) (F0 m 5 ls []) := by
  intro d
  induction d with
  | zero =>
    intro i hi f hf H locs ls hP hD hS hl
    have e : f = fun j => if j < N then v else f0 j := by
      funext j
      rw [hf j, show i = N by omega]
    refine lv_iload_n hx hb dJ7_fill_53178_5 rfl (lv_at hl 2 rfl) ?_
    refine lv_iload_n hx hb dJ7_fill_53178_6 rfl (lv_at hl 3 rfl) ?_
    refine lv_icmp_ge (tgt := 20) hx hb dJ7_fill_53178_7 (by decide) (fun _ => ?_) (fun h => absurd (nI_le (a := N) (b := i) (by omega) (by omega)) h)
    rw [e] at hP
    exact W.vret hx hb hr (fun t ht hW => ⟨⟨(), rfl, trivial, by show va_P D cl _ t.heap; rw [ht]; exact hP⟩, hS.F ht⟩) hS.2.2 dJ7_fill_53178_20 hlocks
  | succ d ih =>
    intro i hi f hf H locs ls hP hD hS hl
    refine lv_iload_n hx hb dJ7_fill_53178_5 rfl (lv_at hl 2 rfl) ?_
    refine lv_iload_n hx hb dJ7_fill_53178_6 rfl (lv_at hl 3 rfl) ?_
    refine lv_icmp_ge (tgt := 20) hx hb dJ7_fill_53178_7 (by decide) (fun h => absurd h (nI_ge (by omega) hN)) (fun _ => ?_)
    refine lv_aload_n hx hb dJ7_fill_53178_10 rfl (lv_at hl 0 rfl) ?_
    refine lv_iload_n hx hb dJ7_fill_53178_11 rfl (lv_at hl 2 rfl) ?_
    refine lv_iload_n hx hb dJ7_fill_53178_12 rfl (lv_at hl 1 rfl) ?_
    have h0 : (ws.set q0 (a, .inl (cA, N, .inl f)))[q0]? = some (a, .inl (cA, N, .inl f)) := List.getElem?_set_self hq0
    refine va_iast hx hb hK hP hD hS q0 0 h0 rfl (nI_in (c := i) (by omega) hN) dJ7_fill_53178_13 (fun H locs hP hD hS => ?_)
    rw [List.set_set] at hP hD
    refine lv_iinc (v := nI (i + 1)) (lv' := [(2, .int (nI (i + 1))), (0, .ref a), (1, .int v), (3, .int (nI N))]) hx hb dJ7_fill_53178_14 hl (k := 2) rfl (nI_1 i) (by decide) rfl (fun ls hl => ?_)
    refine lv_goto (tgt := 5) hx hb dJ7_fill_53178_17 (by decide) ?_
    exact ih (i + 1) (by omega) _ (fill_upd (by omega) hf) H locs ls hP hD hS (lv_sub hl [1, 2, 0, 3] rfl)
theorem ct_fill (l : Launch) {ws : va_W} {q0 a N : Nat} {cA : ClassId} {D : va_G} {A : Nat → Prop} {cl : List vw_C} {v : Int32} {f0 : Nat → Int32} (hN : N < 2 ^ 31) (h0 : ws[q0]? = some (a, .inl (cA, N, .inl f0))) : Met l yJ7_fill_53178 (wz yJ7_fill_53178 cJ7_fill_53178 4 none) rm_fill (va_Pc [.ref a, .int v] (fun U => va_P D cl ws U.heap ∧ va_K D cl [(cA, .int)] U ∧ va_D A ws)) (va_Qv (fun _ : Unit => True) (fun _ t => va_P D cl (ws.set q0 (a, .inl (cA, N, .inl (fun j => if j < N then v else f0 j)))) t.heap) A) 0 0 A := by
  refine Met.ofW (cc := cJ7_fill_53178) (maxL := 4) (ret := none) (by decide) rfl ?_
  intro p e s m args below meth c s₁ B hml hv
  obtain ⟨rfl, hP, hK, hD⟩ := hv
  have hx := B.exec
  have hb := B.bytes
  have hr := B.returns
  have hlocks := B.notSynchronized
  have hq0 : q0 < ws.length := (List.getElem?_eq_some_iff.mp h0).1
  have hS : va_S A s.heap s.heap [] := va_S.rf
  have hl := lv_entry ([.ref a, .int v]) (n := 4) (Nat.le_of_ble_eq_true rfl)
  rw [lg_entry_eq]
  generalize (lg_sl ([.ref a, .int v]) ++ List.replicate (4 - (lg_sl ([.ref a, .int v])).length) Slot.unset).toArray = ls at hl ⊢
  have hl : lv_has ls 4 [(0, .ref a), (1, .int v)] := hl
  refine lv_iconst (v := 0) hx hb dJ7_fill_53178_0 (by decide) ?_
  refine lv_istore_n (lv' := [(2, .int 0), (0, .ref a), (1, .int v)]) hx hb dJ7_fill_53178_1 rfl hl (by decide) rfl (fun ls hl => ?_)
  refine lv_aload_n hx hb dJ7_fill_53178_2 rfl (lv_at hl 1 rfl) ?_
  refine va_alen (v := nI N) hx hb hK hP q0 0 h0 rfl rfl dJ7_fill_53178_3 ?_
  refine lv_istore_n (lv' := [(3, .int (nI N)), (2, .int 0), (0, .ref a), (1, .int v)]) hx hb dJ7_fill_53178_4 rfl hl (by decide) rfl (fun ls hl => ?_)
  have e : ws.set q0 (a, .inl (cA, N, .inl f0)) = ws := by
    apply List.ext_getElem?
    intro n
    rw [List.getElem?_set]
    by_cases e : q0 = n
    · rw [if_pos e, if_pos (by omega), ← e, h0]
    · rw [if_neg e]
  have hP' := hP
  have hD' := hD
  rw [← e] at hP' hD'
  exact fill_loop hx hb hr hlocks hN hK hq0 N 0 (by omega) f0 (fun j => by rw [if_neg (by omega)]) _ _ ls hP' hD' hS (lv_sub (hl) [2, 3, 1, 0] rfl)
end GF
section GT

variable {p : Program} {l : Launch} {e : Env} {R : Room} {s : State} {m : MethodId} {args : Array Value} {below : List Frame} {meth : Method} {c : Code} {H : Heap} {locs : List Loc} {Q : State → Prop} {cc : ByteArray} {pc : Nat} {ls : Array Slot} {rest : List Value} {G : GP} {X M : SM} {τ : SL} {own : String} {index : Nat} {nc ns : Nat}
theorem x_fillX {nL k i n : Nat} {v : Int32} (hx : p.tables.exec = Jvm.exec) (hb : c.code = cc) (hml : c.maxLocals = nL) (hown : s.vm.findClass own = some m.cls) (hts : ∀ w ∈ wsL_law, w.before args s = true) (hC : g_sc G s) (hP : va_P G.1 g_cl (wd G (cb X M) τ) H) (hS : va_S (g_A G) s.heap H locs) (hsh : ∀ f g, g_sh G k i f g = .inl (G.2.2.2.1 0, n, .inl f)) (hk : Nat.blt k 39 = true) (hn : n < 2 ^ 31) (hi : i < g_cnt k) (hlink : Cond.methodLink own index yJ7_fill_53178 ∈ wsL_law) (hsz : ls.size = nL) (hro : 2 * (F0 m pc ls (.int v :: .ref (G.2.1 k i) :: rest)).monitorRoom + (rest.map fun v => v.category).sum ≤ 8) (hdg : decode cc pc = .ok (.invokestatic index, 3)) (hR : 1 ≤ R.frames ∧ 23 ≤ R.locals) (hcs : nc + 0 ≤ R.cells ∧ ns + 0 ≤ R.slots) (kk : ∀ (H1 : Heap) (locs1 : List Loc), va_P G.1 g_cl (wd G (cb (uf X k i n v) M) τ) H1 → va_S (g_A G) s.heap H1 locs1 → W p l e R s m args below meth c H1 locs1 nc ns Q (F0 m (pc + 3) ls rest)) : W p l e R s m args below meth c H locs nc ns Q (F0 m pc ls (.int v :: .ref (G.2.1 k i) :: rest)) := by
  have h0 := wd_at (G := G) (σ := cb X M) (τ := τ) hi
  rw [hsh] at h0
  have e : cb X M k = X k := by unfold cb; rw [hk]; rfl
  rw [e] at h0
  refine va_callv (va_runS (As := [.ref (G.2.1 k i), .int v]) (rest := rest) ⟨hx, hb, hml, hown, hts⟩ (ct_fill l (D := G.1) (cl := g_cl) (A := g_A G) (v := v) hn h0) ⟨callB_of 2 hts (wz_N q2_22) rfl rfl rfl (hts _ q2_21) (hts _ hlink) (by decide +kernel) ⟨hR.1, hR.2⟩, hts _ q2_20⟩ ⟨fun a U g mk q => ⟨q.1, q.2.1, va_K.moved (u := U) (U := U.calling g mk a) (Vm.Alike.refl U.vm) q.2.2.1, q.2.2.2⟩, fun U hU hW => ⟨rfl, by rw [hU]; exact hP, va_K.moved hW.alike (hC.1.sub (tys' := [(G.2.2.2.1 0, .int)]) [0] rfl), hC.2.2.2.1 _ _⟩⟩ rfl rfl hsz rfl hro hdg hcs) hS (fun _ _ h => h) (fun _ h => h) (fun u t H1 locs1 ht hvm hw hB hz1 hk1 hS1 => ?_)
  refine kk H1 locs1 ?_ hS1
  rw [← ht]
  unfold uf
  rw [cb_ur_l hk, ← wd_set hi, hsh]
  exact hB
theorem x_copyX {k i k0 i0 n0 n1 n : Nat} {z1 z2 nv : Int32} (hx : p.tables.exec = Jvm.exec) (hb : c.code = cc) (hml : c.maxLocals = ls.size) (hown : s.vm.findClass own = some m.cls) (hts : ∀ w ∈ wsL_law, w.before args s = true) (hC : g_sc G s) (hP : va_P G.1 g_cl (wd G (cb X M) τ) H) (hS : va_S (g_A G) s.heap H locs) (hsh : ∀ f g, g_sh G k i f g = .inl (G.2.2.2.1 0, n1, .inl f)) (hsh0 : ∀ f g, g_sh G k0 i0 f g = .inl (G.2.2.2.1 0, n0, .inl f)) (hk : Nat.blt k 39 = true) (hk0 : Nat.blt k0 39 = true) (hi : i < g_cnt k) (hi0 : i0 < g_cnt k0) (hlink : Cond.methodLink own index arraycopyName ∈ wsL_law) (hz : z1 = 0 ∧ z2 = 0 ∧ ¬ nv < 0 ∧ nv.toNatClampNeg = n) (hn0 : n ≤ n0) (hn1 : n ≤ n1) (hR : 1 ≤ R.frames ∧ (rest.map fun v => v.category).sum + (nativeFrameWords "java/lang/System" "arraycopy" 5 + 11) ≤ R.locals) (hdg : decode cc pc = .ok (.invokestatic index, 3)) (kk : ∀ (H1 : Heap) (locs1 : List Loc), va_P G.1 g_cl (wd G (cb (uc X k i k0 i0 n) M) τ) H1 → va_S (g_A G) s.heap H1 locs1 → W p l e R s m args below meth c H1 locs1 nc ns Q (F0 m (pc + 3) ls rest)) : W p l e R s m args below meth c H locs nc ns Q (F0 m pc ls (.int nv :: .int z2 :: .ref (G.2.1 k i) :: .int z1 :: .ref (G.2.1 k0 i0) :: rest)) := by
  obtain ⟨rfl, rfl, hnn, rfl⟩ := hz
  have h0 := wd_at (G := G) (σ := cb X M) (τ := τ) hi
  rw [hsh] at h0
  have e : cb X M k = X k := by unfold cb; rw [hk]; rfl
  rw [e] at h0
  have h1 := wd_at (G := G) (σ := cb X M) (τ := τ) hi0
  rw [hsh0] at h1
  have e1 : cb X M k0 = X k0 := by unfold cb; rw [hk0]; rfl
  rw [e1] at h1
  refine va_copyi (D := G.1) (cl := g_cl) (A := g_A G) hx hb hml hown (hts _ hlink) (hts _ q41_1) (hts _ q41_2) (hts _ q41_3) hC.1 hP (hC.2.2.2.1 _ _) hS (g_off k0 + i0) (g_off k + i) 0 0 h1 h0 rfl rfl rfl (by decide) (by decide) hnn (by simpa using hn0) (by simpa using hn1) (fun _ _ => rfl) hR.1 hR.2 hdg (fun H1 locs1 hP1 _ hS1 => kk H1 locs1 ?_ hS1)
  unfold uc
  rw [cb_ur_l hk, ← wd_set hi, hsh]
  exact hP1
theorem x_fillM {nL k i n : Nat} {v : Int32} (hx : p.tables.exec = Jvm.exec) (hb : c.code = cc) (hml : c.maxLocals = nL) (hown : s.vm.findClass own = some m.cls) (hts : ∀ w ∈ wsL_law, w.before args s = true) (hC : g_sc G s) (hP : va_P G.1 g_cl (wd G (cb X M) τ) H) (hS : va_S (g_A G) s.heap H locs) (hsh : ∀ f g, g_sh G k i f g = .inl (G.2.2.2.1 0, n, .inl f)) (hk : Nat.blt k 39 = false) (hn : n < 2 ^ 31) (hi : i < g_cnt k) (hlink : Cond.methodLink own index yJ7_fill_53178 ∈ wsL_law) (hsz : ls.size = nL) (hro : 2 * (F0 m pc ls (.int v :: .ref (G.2.1 k i) :: rest)).monitorRoom + (rest.map fun v => v.category).sum ≤ 8) (hdg : decode cc pc = .ok (.invokestatic index, 3)) (hR : 1 ≤ R.frames ∧ 23 ≤ R.locals) (hcs : nc + 0 ≤ R.cells ∧ ns + 0 ≤ R.slots) (kk : ∀ (H1 : Heap) (locs1 : List Loc), va_P G.1 g_cl (wd G (cb X (uf M k i n v)) τ) H1 → va_S (g_A G) s.heap H1 locs1 → W p l e R s m args below meth c H1 locs1 nc ns Q (F0 m (pc + 3) ls rest)) : W p l e R s m args below meth c H locs nc ns Q (F0 m pc ls (.int v :: .ref (G.2.1 k i) :: rest)) := by
  have h0 := wd_at (G := G) (σ := cb X M) (τ := τ) hi
  rw [hsh] at h0
  have e : cb X M k = M k := by unfold cb; rw [hk]; rfl
  rw [e] at h0
  refine va_callv (va_runS (As := [.ref (G.2.1 k i), .int v]) (rest := rest) ⟨hx, hb, hml, hown, hts⟩ (ct_fill l (D := G.1) (cl := g_cl) (A := g_A G) (v := v) hn h0) ⟨callB_of 2 hts (wz_N q2_22) rfl rfl rfl (hts _ q2_21) (hts _ hlink) (by decide +kernel) ⟨hR.1, hR.2⟩, hts _ q2_20⟩ ⟨fun a U g mk q => ⟨q.1, q.2.1, va_K.moved (u := U) (U := U.calling g mk a) (Vm.Alike.refl U.vm) q.2.2.1, q.2.2.2⟩, fun U hU hW => ⟨rfl, by rw [hU]; exact hP, va_K.moved hW.alike (hC.1.sub (tys' := [(G.2.2.2.1 0, .int)]) [0] rfl), hC.2.2.2.1 _ _⟩⟩ rfl rfl hsz rfl hro hdg hcs) hS (fun _ _ h => h) (fun _ h => h) (fun u t H1 locs1 ht hvm hw hB hz1 hk1 hS1 => ?_)
  refine kk H1 locs1 ?_ hS1
  rw [← ht]
  unfold uf
  rw [cb_ur_r hk, ← wd_set hi, hsh]
  exact hB
theorem x_copyM {k i k0 i0 n0 n1 n : Nat} {z1 z2 nv : Int32} (hx : p.tables.exec = Jvm.exec) (hb : c.code = cc) (hml : c.maxLocals = ls.size) (hown : s.vm.findClass own = some m.cls) (hts : ∀ w ∈ wsL_law, w.before args s = true) (hC : g_sc G s) (hP : va_P G.1 g_cl (wd G (cb X M) τ) H) (hS : va_S (g_A G) s.heap H locs) (hsh : ∀ f g, g_sh G k i f g = .inl (G.2.2.2.1 0, n1, .inl f)) (hsh0 : ∀ f g, g_sh G k0 i0 f g = .inl (G.2.2.2.1 0, n0, .inl f)) (hk : Nat.blt k 39 = false) (hk0 : Nat.blt k0 39 = false) (hi : i < g_cnt k) (hi0 : i0 < g_cnt k0) (hlink : Cond.methodLink own index arraycopyName ∈ wsL_law) (hz : z1 = 0 ∧ z2 = 0 ∧ ¬ nv < 0 ∧ nv.toNatClampNeg = n) (hn0 : n ≤ n0) (hn1 : n ≤ n1) (hR : 1 ≤ R.frames ∧ (rest.map fun v => v.category).sum + (nativeFrameWords "java/lang/System" "arraycopy" 5 + 11) ≤ R.locals) (hdg : decode cc pc = .ok (.invokestatic index, 3)) (kk : ∀ (H1 : Heap) (locs1 : List Loc), va_P G.1 g_cl (wd G (cb X (uc M k i k0 i0 n)) τ) H1 → va_S (g_A G) s.heap H1 locs1 → W p l e R s m args below meth c H1 locs1 nc ns Q (F0 m (pc + 3) ls rest)) : W p l e R s m args below meth c H locs nc ns Q (F0 m pc ls (.int nv :: .int z2 :: .ref (G.2.1 k i) :: .int z1 :: .ref (G.2.1 k0 i0) :: rest)) := by
  obtain ⟨rfl, rfl, hnn, rfl⟩ := hz
  have h0 := wd_at (G := G) (σ := cb X M) (τ := τ) hi
  rw [hsh] at h0
  have e : cb X M k = M k := by unfold cb; rw [hk]; rfl
  rw [e] at h0
  have h1 := wd_at (G := G) (σ := cb X M) (τ := τ) hi0
  rw [hsh0] at h1
  have e1 : cb X M k0 = M k0 := by unfold cb; rw [hk0]; rfl
  rw [e1] at h1
  refine va_copyi (D := G.1) (cl := g_cl) (A := g_A G) hx hb hml hown (hts _ hlink) (hts _ q41_1) (hts _ q41_2) (hts _ q41_3) hC.1 hP (hC.2.2.2.1 _ _) hS (g_off k0 + i0) (g_off k + i) 0 0 h1 h0 rfl rfl rfl (by decide) (by decide) hnn (by simpa using hn0) (by simpa using hn1) (fun _ _ => rfl) hR.1 hR.2 hdg (fun H1 locs1 hP1 _ hS1 => kk H1 locs1 ?_ hS1)
  unfold uc
  rw [cb_ur_r hk, ← wd_set hi, hsh]
  exact hP1
end GT
