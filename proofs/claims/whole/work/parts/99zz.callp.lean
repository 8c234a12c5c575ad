/-! calls inside the library's builder: private methods of the upper class, its inherited methods, and calls upwards -/
theorem lw5 {w : Cond} (i : Nat) (h0 : tables_1_5[i]? = some w) : w ∈ lw_tbl := by
  have h : w ∈ tables_1_5 := List.mem_of_getElem? h0
  exact List.mem_append_right _ (List.mem_append_right _ (List.mem_append_right _ (List.mem_append_right _ (List.mem_append_right _ (List.mem_append_left _ h)))))
abbrev sAB : String := "java/lang/AbstractStringBuilder"
def CP (own : String) (idx : Nat) (mj : MI) (nA : Nat) : Prop := (mj.1.cls = sAB ∧ (parseMethodDescriptor mj.1.desc).map (fun d => d.parameters.length) = some nA) ∧ Cond.methodLink own idx mj.1 ∈ tb ∧ Cond.instanceMethod mj.1 ∈ tb ∧ Cond.privateMethod mj.1 ∈ lw_tbl ∧ Cond.code mj.1 mj.2.1 mj.2.2.1 mj.2.2.2 ∈ tb ∧ mj.2.2.1 ≤ 41
def CU (own : String) (idx : Nat) (mj : MI) (nA : Nat) : Prop := (mj.1.cls = sAB ∧ (parseMethodDescriptor mj.1.desc).map (fun d => d.parameters.length) = some nA) ∧ Cond.methodLink own idx mj.1 ∈ tb ∧ Cond.sameMethod sAB sAB mj.1.name mj.1.desc ∈ tb ∧ Cond.selects "java/lang/StringBuilder" mj.1 mj.1 ∈ tb ∧ Cond.instanceMethod mj.1 ∈ tb ∧ Cond.code mj.1 mj.2.1 mj.2.2.1 mj.2.2.2 ∈ tb ∧ mj.2.2.1 ≤ 41
def CQ (own : String) (idx : Nat) (mj : MI) (nA : Nat) : Prop := (mj.1.cls = sAB ∧ mj.1.name ≠ "<init>" ∧ (parseMethodDescriptor mj.1.desc).map (fun d => d.parameters.length) = some nA) ∧ Cond.methodLink own idx mj.1 ∈ tb ∧ Cond.sameMethod sAB sAB mj.1.name mj.1.desc ∈ tb ∧ Cond.superclass own sAB ∈ tb ∧ Cond.instanceMethod mj.1 ∈ tb ∧ Cond.code mj.1 mj.2.1 mj.2.2.1 mj.2.2.2 ∈ tb ∧ mj.2.2.1 ≤ 41
theorem ab_init : Cond.initialized sAB ∈ tb := tk1 16 rfl rfl
theorem ab_sel : Cond.selects "java/lang/StringBuilder" m_Asb_isLatin1.1 m_Asb_isLatin1.1 ∈ tb := tk5 74 rfl rfl
section CallRowsP
variable {Δ : Dx} {mi mj : MI} {Γ : Cx} {k c : Nat} {σ : St} {pc : Nat} {lv : List (Option Value)} {rest st As : List Value} {idx nA j mc ms : Nat} {rf : St → Option Value} {P : St → Prop}
theorem g_callPE (hdg : decode mi.2.1 pc = .ok (.invokevirtual idx, 3)) (hc : CP mi.1.cls idx mj nA) (hE : EvE Δ j mj (.ref (Δ.ba + 55) :: As) σ rf P mc ms) (hn : As.length = nA) (hj : j < Γ.k) (hw : (rest.map fun v => v.category).sum ≤ 8) (hfit : k + mc ≤ Γ.R.cells ∧ c + ms ≤ Γ.R.slots) (hst : st = As.reverse ++ .ref (Δ.ba + 55) :: rest)
    (kk : ∀ σ', P σ' → GG Δ mi Γ NN (k + mc) (c + ms) σ' (pc + 3) lv ((rf σ').toList ++ rest)) : GG Δ mi Γ NN k c σ pc lv st := fun ok H locs ls hP hS hl => by
  subst hst
  obtain ⟨hx, hb, hml, hown, hts, hr, hlk, hK, hnm, hsz, hf, hlo⟩ := id ok
  obtain ⟨⟨hcls, hd⟩, w1, w2, wp, w5, hmx⟩ := hc
  have hws : (Δ.W NN σ)[55]? = some (Δ.ba + 55, .inr (11, (List.range (nmF 11)).map (fv 11 σ 55))) := by rw [wsO_at (by decide), cellO_ob rfl]
  obtain ⟨cellB, hcB, hoB, hclB⟩ := va_recv hK.1 hP (ci := 11) rfl hws
  obtain ⟨c2, r2, m2, -, -, q3, -, kP, hkP, hkPi⟩ := Cond.selects_spec (hts _ ab_sel)
  have hfc : Γ.s.vm.findClass mj.1.cls = some m2.cls := by
    rw [hcls]
    exact findClass_of_methodNamed q3
  have hpw : (Cond.privateMethod mj.1).before Γ.args Γ.s = true := Cond.privateMethod_warm hK.2.2.2.2.1 (hK.2.2.2.1 _ wp)
  have hpriv : Γ.s.PrivateAt mj.1 := Cond.privateMethod_at hpw
  have hmh : mj.1.cls ≠ "java/lang/invoke/MethodHandle" ∧ mj.1.cls ≠ "java/lang/invoke/VarHandle" := by rw [hcls]; exact ⟨by decide, by decide⟩
  have hsel := Stand.selects_self_of_private hfc hkP hkPi hpriv (hts _ w2) hmh
  have hini : Cond.initialized mj.1.cls ∈ tb := by rw [hcls]; exact ab_init
  have hB : Back Δ.1 Γ.R Γ.p Γ.e Γ.below Γ.s Γ.args mj.1 3 8 (PreOf Γ.R mc ms (Pcx Δ NN (.ref (Δ.ba + 55) :: As) σ)) (PostOf (QcE Δ rf P) mc ms Δ.A) :=
    back_of (bytes := mj.2.1) (maxL := mj.2.2.1) (ret := mj.2.2.2) hE Pcx.blind rfl rfl (by show j + 1 ≤ Γ.R.frames; omega) (by show 8 + (mj.2.2.1 + 11) + 60 * j ≤ Γ.R.locals; omega) (pay_in hts (tb_wsM w5)) List.mem_cons_self (fun a' U hW => word_at hW (good_of_word (tb_good _ hini)) (hts _ hini))
  intro T hT2 X
  obtain ⟨v, vm₁, ⟨U', l2, c2', s2⟩, hW₁, X', ⟨g', mk', t, L, e1, e2, hq, h1, hL, h2, h3⟩, hsteps⟩ := X.privateBack hx hown (hts _ w1) (hts _ w2) hsel hpriv (hts _ w5) hmh hB (g := F0 Γ.m pc ls (As.reverse ++ .ref (Δ.ba + 55) :: rest)) rfl (by rw [hml]; exact hl.1) (s₀ := T.setTop (F0 Γ.m pc ls (As.reverse ++ .ref (Δ.ba + 55) :: rest))) (Steps.refl _) (by rw [hT2]; exact hcB) (fun q h => by rw [h] at hoB; cases hoB) (argsL := As) (rest := rest) (fun sig h => by
      rw [h] at hd
      rw [hn]
      exact (Option.some.inj hd).symm) rfl (by show 2 * 0 + (rest.map fun v => v.category).sum ≤ 8; omega) (by rw [hb]; exact hdg) (fun vm₁ hW₁ => ⟨hfit.1, hfit.2, rfl, by rw [show (T.setVm vm₁).heap = H from hT2]; exact hP, hK.at (U := T.setVm vm₁) hW₁ hT2 hS hsz, by rw [show (T.setVm vm₁).heap = H from hT2]; exact Nat.le_trans hsz hS.1⟩)
  dsimp only [Pt.U, Pt.locs, Pt.cells, Pt.slots] at X' e1 e2 h1 h2 h3 hsteps
  subst h1; subst h2; subst h3
  obtain ⟨σ', hPσ, hv, hP1, hz, hk⟩ := hq
  cases hv
  have hT0 : ((T.setVm vm₁).calling g' mk' (Value.ref (Δ.ba + 55) :: As).toArray).heap = H := hT2
  rw [hT0] at hz hk
  obtain ⟨t2, a1, b1⟩ := g_back ok hS hl e1 hP1 hz hk hL (kk σ' hPσ) U' rfl X'
  exact ⟨t2, hsteps.trans a1, b1⟩
theorem g_callUE (hdg : decode mi.2.1 pc = .ok (.invokevirtual idx, 3)) (hc : CU mi.1.cls idx mj nA) (hE : EvE Δ j mj (.ref (Δ.ba + 55) :: As) σ rf P mc ms) (hn : As.length = nA) (hj : j < Γ.k) (hw : (rest.map fun v => v.category).sum ≤ 8) (hfit : k + mc ≤ Γ.R.cells ∧ c + ms ≤ Γ.R.slots) (hst : st = As.reverse ++ .ref (Δ.ba + 55) :: rest)
    (kk : ∀ σ', P σ' → GG Δ mi Γ NN (k + mc) (c + ms) σ' (pc + 3) lv ((rf σ').toList ++ rest)) : GG Δ mi Γ NN k c σ pc lv st := fun ok H locs ls hP hS hl => by
  subst hst
  obtain ⟨hx, hb, hml, hown, hts, hr, hlk, hK, hnm, hsz, hf, hlo⟩ := id ok
  obtain ⟨⟨hcls, hd⟩, w1, w2, w3, w4, w5, hmx⟩ := hc
  have hws : (Δ.W NN σ)[55]? = some (Δ.ba + 55, .inr (11, (List.range (nmF 11)).map (fv 11 σ 55))) := by rw [wsO_at (by decide), cellO_ob rfl]
  have hini : Cond.initialized mj.1.cls ∈ tb := by rw [hcls]; exact ab_init
  have hT : GoodIn tb (va_wsU mi.1.cls idx "java/lang/StringBuilder" sAB mj.1 mj.1 (wsM mj)) := fun w hw => by
    unfold va_wsU at hw
    rcases List.mem_append.mp hw with h | h
    · have hm : w ∈ tb := by
        simp only [List.mem_cons, List.not_mem_nil, or_false] at h
        rcases h with rfl | rfl | rfl | rfl | rfl
        · exact w1
        · rw [hcls]; exact w2
        · exact w3
        · exact w4
        · exact hini
      exact ⟨hm, good_of_word (tb_good _ hm)⟩
    · exact tb_wsM w5 w h
  have run := va_runU (Ts := tb) (g := F0 Γ.m pc ls (As.reverse ++ .ref (Δ.ba + 55) :: rest)) (locs := locs) (cells := k) (slots := c) (rest := rest) (As := As) (b := Δ.ba + 55) (H := H) (below := Γ.below) (meth := Γ.meth) (e := Γ.e) (R := Γ.R) ⟨hx, hb, hml, hown, hts⟩ hE (va_cwU nA hts hT rfl rfl rfl (by rw [← hcls]) ⟨by decide, by decide, hd⟩ ⟨by show j + 1 ≤ Γ.R.frames; omega, by show 8 + (mj.2.2.1 + 11) + 60 * j ≤ Γ.R.locals; omega⟩)
    ⟨Pcx.blind, va_recv hK.1 hP (ci := 11) rfl hws, fun U hU hW => ⟨rfl, by rw [hU]; exact hP, hK.at hW hU hS hsz, by rw [hU]; exact Nat.le_trans hsz hS.1⟩⟩ rfl hn hl.1 rfl (by rw [show (F0 Γ.m pc ls (As.reverse ++ .ref (Δ.ba + 55) :: rest)).monitorRoom = 0 from rfl]; omega) hdg hfit
  intro T hT2 X
  obtain ⟨v, st₀, t, T', L, h0, X', hL, e1, e2, ⟨σ', hPσ, hv, hP1, hz, hk⟩, st2⟩ := run T hT2 X
  cases hv
  rw [h0] at hz hk
  obtain ⟨t2, a1, b1⟩ := g_back ok hS hl e1 hP1 hz hk hL (kk σ' hPσ) T' rfl X'
  exact ⟨t2, st2 t2 a1, b1⟩
theorem g_callQE (hdg : decode mi.2.1 pc = .ok (.invokespecial idx, 3)) (hc : CQ mi.1.cls idx mj nA) (hE : EvE Δ j mj (.ref (Δ.ba + 55) :: As) σ rf P mc ms) (hn : As.length = nA) (hj : j < Γ.k) (hw : (rest.map fun v => v.category).sum ≤ 8) (hfit : k + mc ≤ Γ.R.cells ∧ c + ms ≤ Γ.R.slots) (hst : st = As.reverse ++ .ref (Δ.ba + 55) :: rest)
    (kk : ∀ σ', P σ' → GG Δ mi Γ NN (k + mc) (c + ms) σ' (pc + 3) lv ((rf σ').toList ++ rest)) : GG Δ mi Γ NN k c σ pc lv st := fun ok H locs ls hP hS hl => by
  subst hst
  obtain ⟨hx, hb, hml, hown, hts, hr, hlk, hK, hnm, hsz, hf, hlo⟩ := id ok
  obtain ⟨⟨hcls, hno, hd⟩, w1, w2, w3, w4, w5, hmx⟩ := hc
  have hws : (Δ.W NN σ)[55]? = some (Δ.ba + 55, .inr (11, (List.range (nmF 11)).map (fv 11 σ 55))) := by rw [wsO_at (by decide), cellO_ob rfl]
  have hini : Cond.initialized mj.1.cls ∈ tb := by rw [hcls]; exact ab_init
  have hT : GoodIn tb (va_wsSU mi.1.cls idx mj.1 (wsM mj)) := fun w hw => by
    unfold va_wsSU at hw
    rcases List.mem_append.mp hw with h | h
    · have hm : w ∈ tb := by
        simp only [List.mem_cons, List.not_mem_nil, or_false] at h
        rcases h with rfl | rfl | rfl | rfl | rfl
        · exact w1
        · rw [hcls]; exact w2
        · rw [hcls]; exact w3
        · exact w4
        · exact hini
      exact ⟨hm, good_of_word (tb_good _ hm)⟩
    · exact tb_wsM w5 w h
  have run := va_runSU (Ts := tb) (g := F0 Γ.m pc ls (As.reverse ++ .ref (Δ.ba + 55) :: rest)) (locs := locs) (cells := k) (slots := c) (rest := rest) (As := As) (b := Δ.ba + 55) (H := H) (below := Γ.below) (meth := Γ.meth) (e := Γ.e) (R := Γ.R) (hK.1.1 11 _ rfl).2 ⟨hx, hb, hml, hown, hts⟩ hE (va_cwSU nA hts hT rfl rfl rfl ⟨hno, hd⟩ ⟨by show j + 1 ≤ Γ.R.frames; omega, by show 8 + (mj.2.2.1 + 11) + 60 * j ≤ Γ.R.locals; omega⟩)
    ⟨Pcx.blind, va_recv hK.1 hP (ci := 11) rfl hws, fun U hU hW => ⟨rfl, by rw [hU]; exact hP, hK.at hW hU hS hsz, by rw [hU]; exact Nat.le_trans hsz hS.1⟩⟩ rfl hn hl.1 rfl (by rw [show (F0 Γ.m pc ls (As.reverse ++ .ref (Δ.ba + 55) :: rest)).monitorRoom = 0 from rfl]; omega) hdg hfit
  intro T hT2 X
  obtain ⟨v, st₀, t, T', L, h0, X', hL, e1, e2, ⟨σ', hPσ, hv, hP1, hz, hk⟩, st2⟩ := run T hT2 X
  cases hv
  rw [h0] at hz hk
  obtain ⟨t2, a1, b1⟩ := g_back ok hS hl e1 hP1 hz hk hL (kk σ' hPσ) T' rfl X'
  exact ⟨t2, st2 t2 a1, b1⟩
end CallRowsP
theorem p_Asb_100 : CP sAB 100 m_Asb_ensureCapacityInternal 1 := ⟨⟨rfl, by decide +kernel⟩, tk5 42 rfl rfl, tk5 44 rfl rfl, lw5 43 rfl, tk5 45 rfl rfl, by decide⟩
theorem p_Asb_104 : CP sAB 104 m_Asb_newCapacity 1 := ⟨⟨rfl, by decide +kernel⟩, tk5 46 rfl rfl, tk5 48 rfl rfl, lw5 47 rfl, tk5 49 rfl rfl, by decide⟩
theorem p_Asb_208 : CP sAB 208 m_Asb_putStringAt 2 := ⟨⟨rfl, by decide +kernel⟩, tk5 83 rfl rfl, tk5 85 rfl rfl, lw5 84 rfl, tk5 86 rfl rfl, by decide⟩
theorem p_Asb_397 : CP sAB 397 m_Asb_inflateIfNeededFor 1 := ⟨⟨rfl, by decide +kernel⟩, tk5 87 rfl rfl, tk5 89 rfl rfl, lw5 88 rfl, tk5 90 rfl rfl, by decide⟩
theorem u_Asb_83 : CU sAB 83 m_Asb_isLatin1 0 := ⟨⟨rfl, by decide +kernel⟩, tk5 71 rfl rfl, tk5 73 rfl rfl, tk5 74 rfl rfl, tk5 72 rfl rfl, tk5 75 rfl rfl, by decide⟩
theorem q_Sbd_333 : CQ "java/lang/StringBuilder" 333 m_Asb_setLength 1 := ⟨⟨rfl, by decide, by decide +kernel⟩, tk5 20 rfl rfl, tk10 206 rfl rfl, tk3 10 rfl rfl, tk5 21 rfl rfl, tk5 22 rfl rfl, by decide⟩
theorem q_Sbd_29 : CQ "java/lang/StringBuilder" 29 m_Asb_append_S 1 := ⟨⟨rfl, by decide, by decide +kernel⟩, tk5 35 rfl rfl, tk10 207 rfl rfl, tk3 10 rfl rfl, tk5 36 rfl rfl, tk5 37 rfl rfl, by decide⟩
theorem q_Sbd_53 : CQ "java/lang/StringBuilder" 53 m_Asb_append_I 1 := ⟨⟨rfl, by decide, by decide +kernel⟩, tk5 121 rfl rfl, tk10 214 rfl rfl, tk3 10 rfl rfl, tk5 122 rfl rfl, tk5 123 rfl rfl, by decide⟩
theorem q_Sbd_50 : CQ "java/lang/StringBuilder" 50 m_Asb_append_C 1 := ⟨⟨rfl, by decide, by decide +kernel⟩, tk6 21 rfl rfl, tk10 215 rfl rfl, tk3 10 rfl rfl, tk6 22 rfl rfl, tk6 23 rfl rfl, by decide⟩
theorem q_Sbd_343 : CQ "java/lang/StringBuilder" 343 m_Asb_length 0 := ⟨⟨rfl, by decide, by decide +kernel⟩, tk5 166 rfl rfl, tk5 162 rfl rfl, tk3 10 rfl rfl, tk5 161 rfl rfl, tk5 167 rfl rfl, by decide⟩
theorem q_Sbd_329 : CQ "java/lang/StringBuilder" 329 m_Asb_charAt 1 := ⟨⟨rfl, by decide, by decide +kernel⟩, tk6 47 rfl rfl, tk10 217 rfl rfl, tk3 10 rfl rfl, tk6 48 rfl rfl, tk6 49 rfl rfl, by decide⟩
