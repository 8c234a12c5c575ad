/-! a method that throws: its contract, and the rows from 'new' to the end -/
/-- what has been thrown, and that nothing else has moved -/
def QcT (Δ : Dx) (cls : String) (σ : St) (st : State) (o : Outcome) (t : State) : Prop := (∃ (x : Addr) (ce : Cell), o = .threw x ∧ t.heap[x]? = some ce ∧ ce.vm = .none ∧ t.vm.findClass cls = some ce.cls) ∧ va_P Δ.2.1 vcl (Δ.W NN σ) t.heap ∧ va_F Δ.A st t
def FrT (st : State) (o : Outcome) (t : State) (L : List Loc) (k n : Nat) : Prop := (∃ x, o = .threw x) ∧ st.WarmedH t.vm ∧ st.sameButNew ({ t with vm := st.vm } : State) L k n
def TQ (Δ : Dx) (below : List Frame) (cls : String) (σ : St) (st : State) : State → Prop := fun t => ∃ o, t.status = .running ∧ Ended t below o ∧ QcT Δ cls σ st o t ∧ ∃ L, FrT st o t L 1 6 ∧ ∀ q ∈ L, Δ.A q.base
def TgT (Δ : Dx) (Γ : Cx) (cls : String) (σ : St) : Prop := Γ.Q = TQ Δ Γ.below cls σ Γ.s
def EvT (Δ : Dx) (k : Nat) (mi : MI) (as : List Value) (σ : St) (cls : String) : Prop :=
  MetFree Δ.1 mi.1 (headSpec (wsM mi) (rmk k 1 6)) (Pcx Δ NN as σ) (fun _ _ _ _ _ => True) (fun _ st o t => QcT Δ cls σ st o t ∧ ∃ L, FrT st o t L 1 6 ∧ ∀ q ∈ L, Δ.A q.base)
theorem evT_of {Δ : Dx} {k : Nat} {mi : MI} {as : List Value} {σ : St} {cls : String} (hy : plainName mi.1.cls = true) (hlen : (lg_sl as).length ≤ mi.2.2.1)
    (body : ∀ Γ : Cx, Γ.k = k → Γ.R = rmk k 1 6 → TgT Δ Γ cls σ → Γ.c.exceptionTable.isEmpty = true → GG Δ mi Γ NN 0 0 σ 0 (lvE as mi.2.2.1) []) : EvT Δ k mi as σ cls := by
  refine MetFree.of_bodyS (code := mi.2.1) (maxLocals := mi.2.2.1) (ret := mi.2.2.2) hy ?_ ?_
  · intro args s m h hn
    obtain ⟨meth, c, h1, h2, h3, h4, h5, h6, -, -⟩ := Cond.code_spec hn (atoms_spec (ws := wsM mi) h _ List.mem_cons_self)
    exact ⟨meth, c, h1, h2, h3, h4, h5, h6⟩
  · intro p e s m args below meth c s₁ B hml hv _
    obtain ⟨rfl, hP, hK, hsz⟩ := hv
    have hts := atoms_spec (ws := wsM mi) B.pre
    have hnh := B.noHandlers (hts _ List.mem_cons_self)
    have hb := body ((p, e, rmk k 1 6, s), (m, as.toArray, below, meth, c), TQ Δ below cls σ s, k) rfl rfl rfl hnh
      ⟨B.exec, B.bytes, hml, findClass_of_methodNamed B.named, fun w h => hts w (List.mem_cons_of_mem _ h), B.returns, B.notSynchronized, hK, (name_of_methodNamed B.named B.method).1, hsz, Nat.le_refl _, Nat.le_refl _⟩
    have hl := lv_entry as (n := mi.2.2.1) hlen
    have hh0 : s₁.heap = s.heap := by rw [B.state]; rfl
    have hw := hb s.heap [] _ hP va_S.rf ⟨hl.1, hl.2.1, fun i v h => by
      have := lv0_mem as 0 i v (lvE_at h)
      rw [Nat.zero_add] at this
      exact hl.2.2 (i, v) this⟩
    rw [← lg_entry_eq] at hw
    obtain ⟨t, a1, o, b1, b2, b3⟩ := hw s₁ hh0 (Stand.of_body B)
    exact ⟨t, o, a1, b1, b2, b3⟩
theorem same_setFrames {T U : State} {F : List Frame} {L : List Loc} {k n : Nat} (h : (T.setFrames F).sameButNew U L k n) : T.sameButNew U L k n := by
  obtain ⟨h1, h2⟩ := h
  rw [State.setFrames_setFrames] at h1
  exact ⟨h1, h2⟩
/-- the words of a throw: the class's entry, the text's, the constructor's -/
def Thw (own : String) (ia ib ic : Nat) (cls tx : String) (names : List String) : Prop := (Cond.classLink own ia cls ∈ lw_tbl ∧ goodWord (.classLink own ia cls) = true) ∧ (Cond.instantiable cls 6 ∈ lw_tbl ∧ goodWord (.instantiable cls 6) = true) ∧ (Cond.initialized cls ∈ lw_tbl ∧ goodWord (.initialized cls) = true) ∧ Cond.stringRef own ib tx ∈ lw_tbl ∧ Cond.exactly (.string own ib) "java/lang/String" ∈ flatC (Jvm.Cond.and given_1 narrow_1) ∧ Jvm.Bundle.fit cls = true ∧ (∀ n ∈ names, Jvm.Bundle.fit n = true) ∧ (∀ w ∈ Bundle.ownAtoms own ic cls names, okT w = true) ∧ names.length ≤ 3
set_option maxHeartbeats 4000000 in
theorem g_throw {Δ : Dx} {mi : MI} {Γ : Cx} {σ : St} {pc : Nat} {lv : List (Option Value)} {ia ib ic : Nat} {cls tx : String} {names : List String} (d0 : decode mi.2.1 pc = .ok (.new ia, 3)) (d3 : decode mi.2.1 (pc + 3) = .ok (.dup, 1)) (d4 : decode mi.2.1 (pc + 4) = .ok (.ldc ib, 2)) (d6 : decode mi.2.1 (pc + 6) = .ok (.invokespecial ic, 3)) (d9 : decode mi.2.1 (pc + 9) = .ok (.athrow, 1))
    (hW : Thw mi.1.cls ia ib ic cls tx names) (hq : TgT Δ Γ cls σ) (he : Γ.c.exceptionTable.isEmpty = true) (hk : 7 ≤ Γ.k) (hR : Γ.R = rmk Γ.k 1 6) : GG Δ mi Γ NN 0 0 σ pc lv [] := fun ok H locs ls hP hS hl => by
  obtain ⟨hx, hb, hml, hown, hts, hr, hlk, hK, hnm, hsz, hf, hlo⟩ := id ok
  obtain ⟨⟨w1, g1⟩, ⟨w2, g2⟩, ⟨w3, g3⟩, w4, w5, w6, w7, w8, w9⟩ := hW
  intro T hT X
  have X0 := rebase X (Nat.zero_le _) (Nat.zero_le _)
  generalize hs' : T.setFrames (.invoking Γ.m Γ.args :: Γ.below) = s' at X0
  have hs'h : s'.heap = T.heap := by rw [← hs']; rfl
  have hs'v : s'.vm = T.vm := by rw [← hs']; rfl
  have hK' : Kx Δ s' := hK.at (U := s') (by rw [hs'v]; exact X.warmed) (by rw [hs'h]; exact hT) hS hsz
  have hown' : s'.vm.findClass mi.1.cls = some Γ.m.cls := by rw [hs'v, X.warmed.alike.findClass]; exact hown
  obtain ⟨ad, hstr⟩ := kx_string hK' w4 w5
  have htr : Γ.e.platform.stackTraces = false := Launch.traces_off hK.2.1 X.admits
  have main : W Γ.p Δ.1 Γ.e ({ Γ.R with cells := Γ.R.cells - 0, slots := Γ.R.slots - 0 } : Room) s' Γ.m Γ.args Γ.below Γ.meth Γ.c T.heap [] 0 0 Γ.Q (F0 Γ.m pc ls []) := by
    refine W.newc hx hb hown' (kx_word hK' w1 g1 _) (kx_word hK' w2 g2 _) (kx_word hK' w3 g3 _) rfl d0 (by rw [hR]; exact Nat.le_refl 1) (by rw [hR]; exact Nat.le_refl 6) ?_
    intro cX kX hfX hkX hord hn6
    refine W.eq (g2 := F0 Γ.m (pc + 3) ls [.ref T.heap.size]) rfl ?_
    refine lv_dup hx hb d3 rfl ?_
    refine va_ldcS hx hb hown' hstr d4 ?_
    intro T2 hT2 X2
    have hcellA : T2.heap[T.heap.size]? = some (freshCell cX kX) := by rw [hT2]; exact Array.getElem?_push_size
    obtain ⟨U, hsteps, hrun, hend, hWU, hsame, ce, hce, K⟩ := X2.ctorThrowS hx htr (own := mi.1.cls) (cls := cls) (names := names) (ic := ic) hown' w6 w7 (fun y hy => kx_okT hK' (w8 y hy) _) (fun y hy => by cases hy) hfX hkX hcellA (by rw [hs'h]; exact Nat.le_refl _) (msg := .ref ad) rfl
      (g := F0 Γ.m (pc + 6) ls [.ref ad, .ref T.heap.size, .ref T.heap.size]) rfl (by rw [hml]; exact hl.1) rfl rfl (rest := []) rfl (by rw [hb]; exact d6) (by rw [hb]; exact d9) (covers_of_empty he _) (by rw [hR]; show names.length + 3 < Γ.k; omega) (by
        rw [hR]
        show 2 * 0 + ((Value.ref T.heap.size :: []).map fun v => v.category).sum + (13 * (names.length + 1) + 42) ≤ 60 * Γ.k
        simp only [List.map_cons, List.map_nil, List.sum_cons, List.sum_nil, Value.category]
        omega)
    refine ⟨U, hsteps, ?_⟩
    rw [show Γ.Q = _ from hq]
    have hWs : Γ.s.WarmedH U.vm := State.WarmedH.trans (show Γ.s.WarmedH s'.vm by rw [hs'v]; exact X.warmed) hWU
    have hUH : ∀ q : Nat, q < T.heap.size → U.heap[q]? = T.heap[q]? := fun q hq => by
      have e1 : s'.heap[q]? = some (T.heap[q]'hq) := by rw [hs'h]; exact Array.getElem?_eq_getElem hq
      have e2 := State.sameButNew.old_cell hsame e1
      rw [Array.getElem?_eq_getElem hq]
      exact e2
    have hUz : T.heap.size ≤ U.heap.size := by
      have := hsame.2.1
      rw [hs'h] at this
      exact this
    refine ⟨.threw T.heap.size, hrun, hend, ⟨⟨T.heap.size, ce, rfl, hce, K.vm, ?_⟩, ?_, ?_⟩, locs, ⟨⟨_, rfl⟩, hWs, ?_⟩, hS.2.2⟩
    · rw [hWU.alike.findClass]
      exact K.cls
    · rw [← hT] at hP
      exact hP.kept (fun j q hj => hUH q.1 (hP j q hj).lt)
    · rw [← hT] at hS
      refine ⟨Nat.le_trans hS.1 hUz, fun q h1 h2 => ?_⟩
      rw [hUH q (Nat.lt_of_lt_of_le h1 hS.1)]
      exact hS.2.1 q h1 h2
    · have e1 : T.sameButNew ({ U with vm := T.vm } : State) [] 1 6 := by
        rw [← hs'] at hsame
        exact same_setFrames hsame
      have e2 := X.same.trans (e1.setVm Γ.s.vm)
      rw [List.append_nil] at e2
      exact e2
  exact main T rfl X0
