/-- a call whose contract is a throw, in a method whose table takes it: the walk goes on at the handler -/
theorem g_callVT {Δ : Dx} {mi mj : MI} {Γ : Cx} {k c : Nat} {σ : St} {pc : Nat} {lv : List (Option Value)} {rest st As : List Value} {idx nA j : Nat} {a ci : Nat} {C cls : String} {h : Nat} (hdg : decode mi.2.1 pc = .ok (.invokevirtual idx, 3)) (hc : CV mi.1.cls idx C mj nA) (ho : Ob NN a ci) (hcn : vcl[ci]?.map (fun q => q.1) = some C) (hE : EvT Δ j mj (.ref (Δ.ba + a) :: As) σ cls) (hn : As.length = nA) (hj : j < Γ.k) (hw : (rest.map fun v => v.category).sum ≤ 8) (hfit : k + 1 ≤ Γ.R.cells ∧ c + 6 ≤ Γ.R.slots) (hst : st = As.reverse ++ .ref (Δ.ba + a) :: rest)
    (hC : Cat mi.1.cls cls (tabOf Γ.c) pc h) (kk : ∀ x : Nat, GG Δ mi Γ NN (k + 1) (c + 6) σ h lv [.ref x]) : GG Δ mi Γ NN k c σ pc lv st := fun ok H locs ls hP hS hl => by
  subst hst
  obtain ⟨hx, hb, hml, hown, hts, hr, hlk, hK, hnm, hsz, hf, hlo⟩ := id ok
  obtain ⟨⟨hd0, hd⟩, w1, w2, w3, w4, w5, hmx⟩ := hc
  obtain ⟨q, hq, rfl⟩ : ∃ q, vcl[ci]? = some q ∧ q.1 = C := by
    cases hq : vcl[ci]? with
    | none => rw [hq] at hcn; cases hcn
    | some q => rw [hq] at hcn; exact ⟨q, rfl, Option.some.inj hcn⟩
  have hws : (Δ.W NN σ)[a]? = some (Δ.ba + a, .inr (ci, (List.range (nmF ci)).map (fv ci σ a))) := by rw [wsO_at ho.1, cellO_ob ho.2]
  obtain ⟨cellB, hcB, hoB, hclB⟩ := va_recv hK.1 hP hq hws
  intro T hT2 X
  obtain ⟨mk, methM, hnamed, hmethM, hstM, habM⟩ := Cond.instanceMethod_spec (hts _ w2)
  obtain ⟨methM', cM, hmethM', -, -, -, -, -, -, hsigM⟩ := Cond.code_spec hnamed (hts _ w5)
  cases hmethM.symm.trans hmethM'
  obtain ⟨c2, r2, m2, q1, q2, q3, q4, kP, hkP, hkPi⟩ := Cond.selects_spec (hts _ w3)
  cases hclB.symm.trans q1
  cases (State.methodFound?_of_named hnamed ⟨hd.1, hd.2.1⟩).symm.trans q2
  cases hnamed.symm.trans q3
  have hselP : selectMethod Γ.e.platform Γ.s.vm cellB.cls mk = .method mk := by rw [Launch.admits_selectMethod X.admits]; exact q4
  have hlenS : As.length = methM.sig.parameters.length := by
    have := hd.2.2
    rw [hsigM] at this
    rw [hn]
    exact (Option.some.inj this).symm
  obtain ⟨vm₁, X₁, hstep₁⟩ := X.invokevirtual hx hown (hts _ w1) hnamed hmethM hstM hkP hkPi ⟨hd.1, hd.2.1⟩ (a := Δ.ba + a) (cell := cellB) (by rw [hT2]; exact hcB)
    (fun z hz => by rw [hz] at hoB; cases hoB) hselP hmethM habM hkP hkPi (g := F0 Γ.m pc ls (As.reverse ++ .ref (Δ.ba + a) :: rest)) rfl (argsL := As) (rest := rest) hlenS rfl (by rw [hb]; exact hdg)
  have gw : ∀ w ∈ tb, w.before (Value.ref (Δ.ba + a) :: As).toArray (T.setVm vm₁) = true := fun w hw => word_at X₁.warmed (good_of_word (tb_good _ hw)) (hts _ hw)
  have hKU : Kx Δ (T.setVm vm₁) := hK.at (U := T.setVm vm₁) X₁.warmed hT2 hS hsz
  obtain ⟨x, t, U', L, hq', hfe, hLA, e1, e2, X', hst'⟩ := thrown_back (A := Δ.A) (bytes := mj.2.1) (maxL := mj.2.2.1) (ret := mj.2.2.2) (W0 := 8) (kk := 1) (nn := 6) (ig := .invokevirtual idx) (len := 3) hE (fun a first o t hh => by
      exact hh.2) X₁ (by show j + 1 ≤ Γ.R.frames; omega) (by show 8 + (mj.2.2.1 + 11) + 60 * j ≤ Γ.R.locals; omega) (g := { F0 Γ.m pc ls (As.reverse ++ .ref (Δ.ba + a) :: rest) with stack := rest }) (a := (Value.ref (Δ.ba + a) :: As).toArray) rfl (by rw [hml]; exact hl.1) (by rw [hb]; exact hdg)
      (by show 2 * 0 + (rest.map fun v => v.category).sum ≤ 8; omega) (X₁.named hnamed)
      (atoms_intro fun w hw => by
        rcases List.mem_cons.mp hw with rfl | h2
        · exact gw _ w5
        · exact gw _ h2) (gw _ w5) (by rw [hd0]; exact gw _ w4) hfit.1 hfit.2
      (Pcx.blind _ _ _ _ ⟨rfl, by rw [show (T.setVm vm₁).heap = H from hT2]; exact hP, hKU, by rw [show (T.setVm vm₁).heap = H from hT2]; exact Nat.le_trans hsz hS.1⟩)
  obtain ⟨⟨⟨x', ce, hxx, hce, hcv, hcf⟩, hPt, hzt, hkt⟩, -⟩ := hq'
  cases hxx
  have hcfs : Γ.s.vm.findClass cls = some ce.cls := by
    rw [← e2, X'.warmed.alike.findClass] at hcf
    exact hcf
  obtain ⟨pre, xr, rs, he, hh, hpre, hxr⟩ := cat_rows hK Γ.args hcfs hC
  obtain ⟨vm', hw', hfind⟩ := rows_go (a := x) (f := { F0 Γ.m pc ls (As.reverse ++ .ref (Δ.ba + a) :: rest) with stack := rest }) X.admits hown (fun z hz => by rw [hcv] at hz; cases hz) (Vm.classAt_of_findClass hcfs) hxr rs pre hpre X'.warmed
  have hT0 : (T.setVm vm₁).heap = H := hT2
  have hzH : H.size ≤ t.heap.size := by
    have : (T.setVm vm₁).heap.size ≤ t.heap.size := hzt
    rw [hT0] at this
    exact this
  obtain ⟨t2, a1, b1⟩ := kk x ok t.heap (locs ++ L) ls hPt ⟨Nat.le_trans hS.1 hzH, fun q h1 h2 => by
      have := hkt q (by show q < (T.setVm vm₁).heap.size; rw [hT0]; exact Nat.lt_of_lt_of_le h1 hS.1) h2
      have h3 : t.heap[q]? = (T.setVm vm₁).heap[q]? := this
      rw [h3, hT0]
      exact hS.2.1 q h1 h2, fun q hq => by
      rcases List.mem_append.mp hq with h | h
      · exact hS.2.2 q h
      · exact hLA q h⟩ hl (U'.setVm vm') e1 (X'.noted hw')
  refine ⟨t2, hstep₁ _ fun acts => ?_, b1⟩
  rw [doInvoke_state]
  refine hst'.trans (caught_cold (g := { F0 Γ.m pc ls (As.reverse ++ .ref (Δ.ba + a) :: rest) with stack := rest }) (pc := h) (vm' := vm') X'.here (fun Q E d acts => ?_) ?_)
  · rw [W.findHandler_eq (meth := Γ.meth) (code := Γ.c) (by rw [Stand.throwing_vm]; exact X'.method') X'.code, he]
    rw [hfind _ (Stand.throwing_vm _ _ _) (by rw [Stand.throwing_heap, e1]; exact hce) Q E d acts, hh]
  · exact a1
