/-! throws again: the constructor's 'declares' words too, and texts behind ldc_w -/
theorem kx_declares {Δ : Dx} {U : State} (h : Kx Δ U) {x : MethodName} (hw : Cond.declares x ∈ lw_tbl) (A : Array Value) : (Cond.declares x).before A U = true := by
  have h1 := h.2.2.2.1 _ hw
  rw [← Cond.declares_setVm h.2.2.2.2.1.alike] at h1
  exact va_tabs (u := Δ.s0.setVm U.vm) (A := Δ.a0) rfl rfl h1
def okD : Cond → Bool
  | .declares x => decide (Cond.declares x ∈ lw_tbl)
  | w => okT w
theorem kx_okD {Δ : Dx} {U : State} (h : Kx Δ U) {w : Cond} (hw : okD w = true) (A : Array Value) : w.before A U = true := by
  unfold okD at hw
  split at hw
  · exact kx_declares h (of_decide_eq_true hw) A
  · exact kx_okT h hw A
theorem va_ldcwS {p : Program} {l : Launch} {e : Env} {R : Room} {s : State} {m : MethodId} {args : Array Value} {below : List Frame} {meth : Method} {c : Code} {H : Heap} {locs : List Loc} {cells slots : Nat} {Q : State → Prop} {cc : ByteArray} {pc : Nat} {ls : Array Slot} {rest : List Value} (hexec : p.tables.exec = Jvm.exec) (hb : c.code = cc) {own tx : String} {index q : Nat} (hown : s.vm.findClass own = some m.cls) (hZ : vk_R own index tx q s) (hdg : decode cc pc = .ok (.ldc_w index, 3))
    (k : W p l e R s m args below meth c H locs cells slots Q (F0 m (pc + 3) ls (.ref q :: rest))) : W p l e R s m args below meth c H locs cells slots Q (F0 m pc ls rest) := by
  intro T hT X
  obtain ⟨t, a1, b1⟩ := k T hT X
  exact ⟨t, X.ldcStringW hexec hown (text := tx) (a := q) hZ.1 hZ.2 (g := F0 m pc ls rest) rfl (by rw [hb]; exact hdg) t a1, b1⟩
/-- the words of a throw: what hangs on the exception's class alone -/
def ThX (own : String) (ia ic : Nat) (cls : String) (names : List String) : Prop := (Cond.classLink own ia cls ∈ lw_tbl ∧ goodWord (.classLink own ia cls) = true) ∧ (Cond.instantiable cls 6 ∈ lw_tbl ∧ goodWord (.instantiable cls 6) = true) ∧ (Cond.initialized cls ∈ lw_tbl ∧ goodWord (.initialized cls) = true) ∧ Jvm.Bundle.fit cls = true ∧ (∀ n ∈ names, Jvm.Bundle.fit n = true) ∧ (∀ w ∈ Bundle.ownAtoms own ic cls names, okD w = true) ∧ names.length ≤ 3
/-- the words of its text -/
def ThS (own : String) (ib : Nat) (tx : String) : Prop := Cond.stringRef own ib tx ∈ lw_tbl ∧ Cond.exactly (.string own ib) "java/lang/String" ∈ flatC (Jvm.Cond.and given_1 narrow_1)
set_option maxHeartbeats 4000000 in
theorem g_throwD {Δ : Dx} {mi : MI} {Γ : Cx} {σ : St} {pc : Nat} {lv : List (Option Value)} {ia ib ic : Nat} {cls tx : String} {names : List String} (d0 : decode mi.2.1 pc = .ok (.new ia, 3)) (d3 : decode mi.2.1 (pc + 3) = .ok (.dup, 1)) (d4 : decode mi.2.1 (pc + 4) = .ok (.ldc ib, 2)) (d6 : decode mi.2.1 (pc + 6) = .ok (.invokespecial ic, 3)) (d9 : decode mi.2.1 (pc + 9) = .ok (.athrow, 1))
    (hW : ThX mi.1.cls ia ic cls names) (hW2 : ThS mi.1.cls ib tx) (hq : TgT Δ Γ cls σ) (he : Γ.c.exceptionTable.isEmpty = true) (hk : 7 ≤ Γ.k) (hR : Γ.R = rmk Γ.k 1 6) : GG Δ mi Γ NN 0 0 σ pc lv [] := fun ok H locs ls hP hS hl => by
  obtain ⟨hx, hb, hml, hown, hts, hr, hlk, hK, hnm, hsz, hf, hlo⟩ := id ok
  obtain ⟨⟨w1, g1⟩, ⟨w2, g2⟩, ⟨w3, g3⟩, w6, w7, w8, w9⟩ := hW
  obtain ⟨w4, w5⟩ := hW2
  intro T hT X
  have X0 := rebase X (Nat.zero_le _) (Nat.zero_le _)
  generalize hs' : T.setFrames (.invoking Γ.m Γ.args :: Γ.below) = s' at X0
  have hs'h : s'.heap = T.heap := by rw [← hs']; rfl
  have hs'v : s'.vm = T.vm := by rw [← hs']; rfl
  have hK' : Kx Δ s' := hK.at (U := s') (by rw [hs'v]; exact X.warmed) (by rw [hs'h]; exact hT) hS hsz
  have hown' : s'.vm.findClass mi.1.cls = some Γ.m.cls := by rw [hs'v, X.warmed.alike.findClass]; exact hown
  obtain ⟨ad, hstr⟩ := kx_string hK' w4 w5
  have htr : Γ.e.platform.stackTraces = false := Launch.traces_off hK.2.1 X.admits
  have main : W Γ.p Δ.1 Γ.e ({ Γ.R with cells := Γ.R.cells - 0, slots := Γ.R.slots - 0 } : Room) s' Γ.m Γ.args Γ.below Γ.meth Γ.c T.heap [] 0 0 Γ.Q (F0 Γ.m pc ls []) := by
    refine W.newc hx hb hown' (kx_word hK' w1 g1 _) (kx_word hK' w2 g2 _) (kx_word hK' w3 g3 _) rfl d0 (by rw [hR]; exact Nat.le_refl 1) (by rw [hR]; exact Nat.le_refl 6) ?_
    intro cX kX hfX hkX hord hn6
    refine W.eq (g2 := F0 Γ.m (pc + 3) ls [.ref T.heap.size]) rfl ?_
    refine lv_dup hx hb d3 rfl ?_
    refine va_ldcS hx hb hown' hstr d4 ?_
    intro T2 hT2 X2
    have hcellA : T2.heap[T.heap.size]? = some (freshCell cX kX) := by rw [hT2]; exact Array.getElem?_push_size
    obtain ⟨U, hsteps, hrun, hend, hWU, hsame, ce, hce, K⟩ := X2.ctorThrowS hx htr (own := mi.1.cls) (cls := cls) (names := names) (ic := ic) hown' w6 w7 (fun y hy => kx_okD hK' (w8 y hy) _) (fun y hy => by cases hy) hfX hkX hcellA (by rw [hs'h]; exact Nat.le_refl _) (msg := .ref ad) rfl
      (g := F0 Γ.m (pc + 6) ls [.ref ad, .ref T.heap.size, .ref T.heap.size]) rfl (by rw [hml]; exact hl.1) rfl rfl (rest := []) rfl (by rw [hb]; exact d6) (by rw [hb]; exact d9) (covers_of_empty he _) (by rw [hR]; show names.length + 3 < Γ.k; omega) (by
        rw [hR]
        show 2 * 0 + ((Value.ref T.heap.size :: []).map fun v => v.category).sum + (13 * (names.length + 1) + 42) ≤ 60 * Γ.k
        simp only [List.map_cons, List.map_nil, List.sum_cons, List.sum_nil, Value.category]
        omega)
    refine ⟨U, hsteps, ?_⟩
    rw [show Γ.Q = _ from hq]
    have hWs : Γ.s.WarmedH U.vm := State.WarmedH.trans (show Γ.s.WarmedH s'.vm by rw [hs'v]; exact X.warmed) hWU
    have hUH : ∀ q : Nat, q < T.heap.size → U.heap[q]? = T.heap[q]? := fun q hq => by
      have e1 : s'.heap[q]? = some (T.heap[q]'hq) := by rw [hs'h]; exact Array.getElem?_eq_getElem hq
      have e2 := State.sameButNew.old_cell hsame e1
      rw [Array.getElem?_eq_getElem hq]
      exact e2
    have hUz : T.heap.size ≤ U.heap.size := by
      have := hsame.2.1
      rw [hs'h] at this
      exact this
    refine ⟨.threw T.heap.size, hrun, hend, ⟨⟨T.heap.size, ce, rfl, hce, K.vm, ?_⟩, ?_, ?_⟩, locs, ⟨⟨_, rfl⟩, hWs, ?_⟩, hS.2.2⟩
    · rw [hWU.alike.findClass]
      exact K.cls
    · rw [← hT] at hP
      exact hP.kept (fun j q hj => hUH q.1 (hP j q hj).lt)
    · rw [← hT] at hS
      refine ⟨Nat.le_trans hS.1 hUz, fun q h1 h2 => ?_⟩
      rw [hUH q (Nat.lt_of_lt_of_le h1 hS.1)]
      exact hS.2.1 q h1 h2
    · have e1 : T.sameButNew ({ U with vm := T.vm } : State) [] 1 6 := by
        rw [← hs'] at hsame
        exact same_setFrames hsame
      have e2 := X.same.trans (e1.setVm Γ.s.vm)
      rw [List.append_nil] at e2
      exact e2
  exact main T rfl X0
set_option maxHeartbeats 4000000 in
theorem g_throwW {Δ : Dx} {mi : MI} {Γ : Cx} {σ : St} {pc : Nat} {lv : List (Option Value)} {ia ib ic : Nat} {cls tx : String} {names : List String} (d0 : decode mi.2.1 pc = .ok (.new ia, 3)) (d3 : decode mi.2.1 (pc + 3) = .ok (.dup, 1)) (d4 : decode mi.2.1 (pc + 4) = .ok (.ldc_w ib, 3)) (d6 : decode mi.2.1 (pc + 7) = .ok (.invokespecial ic, 3)) (d9 : decode mi.2.1 (pc + 10) = .ok (.athrow, 1))
    (hW : ThX mi.1.cls ia ic cls names) (hW2 : ThS mi.1.cls ib tx) (hq : TgT Δ Γ cls σ) (he : Γ.c.exceptionTable.isEmpty = true) (hk : 7 ≤ Γ.k) (hR : Γ.R = rmk Γ.k 1 6) : GG Δ mi Γ NN 0 0 σ pc lv [] := fun ok H locs ls hP hS hl => by
  obtain ⟨hx, hb, hml, hown, hts, hr, hlk, hK, hnm, hsz, hf, hlo⟩ := id ok
  obtain ⟨⟨w1, g1⟩, ⟨w2, g2⟩, ⟨w3, g3⟩, w6, w7, w8, w9⟩ := hW
  obtain ⟨w4, w5⟩ := hW2
  intro T hT X
  have X0 := rebase X (Nat.zero_le _) (Nat.zero_le _)
  generalize hs' : T.setFrames (.invoking Γ.m Γ.args :: Γ.below) = s' at X0
  have hs'h : s'.heap = T.heap := by rw [← hs']; rfl
  have hs'v : s'.vm = T.vm := by rw [← hs']; rfl
  have hK' : Kx Δ s' := hK.at (U := s') (by rw [hs'v]; exact X.warmed) (by rw [hs'h]; exact hT) hS hsz
  have hown' : s'.vm.findClass mi.1.cls = some Γ.m.cls := by rw [hs'v, X.warmed.alike.findClass]; exact hown
  obtain ⟨ad, hstr⟩ := kx_string hK' w4 w5
  have htr : Γ.e.platform.stackTraces = false := Launch.traces_off hK.2.1 X.admits
  have main : W Γ.p Δ.1 Γ.e ({ Γ.R with cells := Γ.R.cells - 0, slots := Γ.R.slots - 0 } : Room) s' Γ.m Γ.args Γ.below Γ.meth Γ.c T.heap [] 0 0 Γ.Q (F0 Γ.m pc ls []) := by
    refine W.newc hx hb hown' (kx_word hK' w1 g1 _) (kx_word hK' w2 g2 _) (kx_word hK' w3 g3 _) rfl d0 (by rw [hR]; exact Nat.le_refl 1) (by rw [hR]; exact Nat.le_refl 6) ?_
    intro cX kX hfX hkX hord hn6
    refine W.eq (g2 := F0 Γ.m (pc + 3) ls [.ref T.heap.size]) rfl ?_
    refine lv_dup hx hb d3 rfl ?_
    refine va_ldcwS hx hb hown' hstr d4 ?_
    intro T2 hT2 X2
    have hcellA : T2.heap[T.heap.size]? = some (freshCell cX kX) := by rw [hT2]; exact Array.getElem?_push_size
    obtain ⟨U, hsteps, hrun, hend, hWU, hsame, ce, hce, K⟩ := X2.ctorThrowS hx htr (own := mi.1.cls) (cls := cls) (names := names) (ic := ic) hown' w6 w7 (fun y hy => kx_okD hK' (w8 y hy) _) (fun y hy => by cases hy) hfX hkX hcellA (by rw [hs'h]; exact Nat.le_refl _) (msg := .ref ad) rfl
      (g := F0 Γ.m (pc + 7) ls [.ref ad, .ref T.heap.size, .ref T.heap.size]) rfl (by rw [hml]; exact hl.1) rfl rfl (rest := []) rfl (by rw [hb]; exact d6) (by rw [hb]; exact d9) (covers_of_empty he _) (by rw [hR]; show names.length + 3 < Γ.k; omega) (by
        rw [hR]
        show 2 * 0 + ((Value.ref T.heap.size :: []).map fun v => v.category).sum + (13 * (names.length + 1) + 42) ≤ 60 * Γ.k
        simp only [List.map_cons, List.map_nil, List.sum_cons, List.sum_nil, Value.category]
        omega)
    refine ⟨U, hsteps, ?_⟩
    rw [show Γ.Q = _ from hq]
    have hWs : Γ.s.WarmedH U.vm := State.WarmedH.trans (show Γ.s.WarmedH s'.vm by rw [hs'v]; exact X.warmed) hWU
    have hUH : ∀ q : Nat, q < T.heap.size → U.heap[q]? = T.heap[q]? := fun q hq => by
      have e1 : s'.heap[q]? = some (T.heap[q]'hq) := by rw [hs'h]; exact Array.getElem?_eq_getElem hq
      have e2 := State.sameButNew.old_cell hsame e1
      rw [Array.getElem?_eq_getElem hq]
      exact e2
    have hUz : T.heap.size ≤ U.heap.size := by
      have := hsame.2.1
      rw [hs'h] at this
      exact this
    refine ⟨.threw T.heap.size, hrun, hend, ⟨⟨T.heap.size, ce, rfl, hce, K.vm, ?_⟩, ?_, ?_⟩, locs, ⟨⟨_, rfl⟩, hWs, ?_⟩, hS.2.2⟩
    · rw [hWU.alike.findClass]
      exact K.cls
    · rw [← hT] at hP
      exact hP.kept (fun j q hj => hUH q.1 (hP j q hj).lt)
    · rw [← hT] at hS
      refine ⟨Nat.le_trans hS.1 hUz, fun q h1 h2 => ?_⟩
      rw [hUH q (Nat.lt_of_lt_of_le h1 hS.1)]
      exact hS.2.1 q h1 h2
    · have e1 : T.sameButNew ({ U with vm := T.vm } : State) [] 1 6 := by
        rw [← hs'] at hsame
        exact same_setFrames hsame
      have e2 := X.same.trans (e1.setVm Γ.s.vm)
      rw [List.append_nil] at e2
      exact e2
  exact main T rfl X0
