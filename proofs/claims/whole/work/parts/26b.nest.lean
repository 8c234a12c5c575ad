/-! calls of a nest mate's private constructor or static method -/
theorem kx_nest {Δ : Dx} {U : State} (h : Kx Δ U) {own host : String} {idx : Nat} {y : MethodName} (hw : Cond.methodLinkNest own idx y host ∈ lw_tbl) : va_Nw (.methodLinkNest own idx y host) U := va_Nw.warmM h.2.2.2.2.1 (va_Nw.of rfl (h.2.2.2.1 _ hw))
def CIN (own : String) (idx : Nat) (host : String) (mj : MI) (nA : Nat) : Prop := (mj.1.cls ≠ "java/lang/invoke/MethodHandle" ∧ mj.1.cls ≠ "java/lang/invoke/VarHandle" ∧ (parseMethodDescriptor mj.1.desc).map (fun d => d.parameters.length) = some nA) ∧ mj.1.name = "<init>" ∧ mj.2.2.2 = none ∧ Cond.methodLinkNest own idx mj.1 host ∈ lw_tbl ∧ Cond.instanceMethod mj.1 ∈ tb ∧ Cond.initialized mj.1.cls ∈ tb ∧ Cond.code mj.1 mj.2.1 mj.2.2.1 mj.2.2.2 ∈ tb ∧ mj.2.2.1 ≤ 41
def CSN (own : String) (idx : Nat) (host : String) (mj : MI) (nA : Nat) : Prop := (mj.1.cls ≠ "java/lang/invoke/MethodHandle" ∧ mj.1.cls ≠ "java/lang/invoke/VarHandle" ∧ (parseMethodDescriptor mj.1.desc).map (fun d => d.parameters.length) = some nA) ∧ Cond.methodLinkNest own idx mj.1 host ∈ lw_tbl ∧ Cond.static mj.1 ∈ tb ∧ Cond.initialized mj.1.cls ∈ tb ∧ Cond.code mj.1 mj.2.1 mj.2.2.1 mj.2.2.2 ∈ tb ∧ mj.2.2.1 ≤ 41
section NestRows
variable {Δ : Dx} {mi mj : MI} {Γ : Cx} {n k c : Nat} {σ σ' : St} {pc : Nat} {lv : List (Option Value)} {rest st As : List Value} {idx nA j n' mc ms : Nat} {r : Option Value} {host : String}
theorem g_callIN {b : Nat} (hdg : decode mi.2.1 pc = .ok (.invokespecial idx, 3)) (hc : CIN mi.1.cls idx host mj nA) (hE : EvC Δ j mj n (.ref b :: As) σ n' σ' mc ms) (hn : As.length = nA) (hj : j < Γ.k) (hw : (rest.map fun v => v.category).sum ≤ 8) (hfit : k + mc ≤ Γ.R.cells ∧ c + ms ≤ Γ.R.slots) (hst : st = As.reverse ++ .ref b :: rest) (hz : Γ.s.heap.size + k = Δ.ba + n)
    (kk : GG Δ mi Γ n' (k + mc) (c + ms) σ' (pc + 3) lv rest) : GG Δ mi Γ n k c σ pc lv st := fun ok H locs ls hP hS hl => by
  subst hst
  obtain ⟨hx, hb, hml, hown, hts, hr, hlk, hK, hnm, hsz, hf, hlo⟩ := id ok
  obtain ⟨hd, hi, hret, w1, w2, w4, w5, hmx⟩ := hc
  intro T hT2 X
  have hsize := size_at X hT2 hP hS hz hsz
  have hcb := va_cnB (R := Γ.R) (own := mi.1.cls) (index := idx) (bytes := mj.2.1) (maxL := mj.2.2.1) (ret := none) (ws := wsM mj) (rm := rmk j mc ms) (mc := mc) (ms := ms) nA hts (tb_wsM w5) (by rw [← hret]) rfl rfl (kx_nest hK w1) (hts _ w4) hd ⟨by show j + 1 ≤ Γ.R.frames; omega, by show 8 + (mj.2.2.1 + 11) + 60 * j ≤ Γ.R.locals; omega⟩
  have run := va_runIN (Ts := tb) (g := F0 Γ.m pc ls (As.reverse ++ .ref b :: rest)) (locs := locs) (cells := k) (slots := c) (rest := rest) (As := As) (b := b) (H := H) (below := Γ.below) (meth := Γ.meth) (e := Γ.e) (R := Γ.R) ⟨hx, hb, hml, hown, hts⟩ hE ⟨hcb, hi, hts _ w2⟩
    ⟨PcC.blind, fun U hU hW => ⟨⟨rfl, by rw [hU]; exact hP, hK.at hW hU hS hsz, by rw [hU]; exact Nat.le_trans hsz hS.1⟩, by rw [hU]; exact hsize⟩⟩ rfl hn hl.1 rfl (by rw [show (F0 Γ.m pc ls (As.reverse ++ .ref b :: rest)).monitorRoom = 0 from rfl]; omega) hdg hfit
  obtain ⟨v, st₀, t, T', L, h0, X', hL, e1, e2, ⟨hv, hP1, hz, hk⟩, st2⟩ := run T hT2 X
  cases hv
  rw [h0] at hz hk
  obtain ⟨t2, a1, b1⟩ := g_back ok hS hl e1 hP1 hz hk hL kk T' rfl X'
  exact ⟨t2, st2 t2 a1, b1⟩
theorem g_callSN (hdg : decode mi.2.1 pc = .ok (.invokestatic idx, 3)) (hc : CSN mi.1.cls idx host mj nA) (hE : EvN Δ j mj n As σ r n' σ' mc ms) (hn : As.length = nA) (hj : j < Γ.k) (hw : (rest.map fun v => v.category).sum ≤ 8) (hfit : k + mc ≤ Γ.R.cells ∧ c + ms ≤ Γ.R.slots) (hst : st = As.reverse ++ rest)
    (kk : GG Δ mi Γ n' (k + mc) (c + ms) σ' (pc + 3) lv (r.toList ++ rest)) : GG Δ mi Γ n k c σ pc lv st := fun ok H locs ls hP hS hl => by
  subst hst
  obtain ⟨hx, hb, hml, hown, hts, hr, hlk, hK, hnm, hsz, hf, hlo⟩ := id ok
  obtain ⟨hd, w1, w2, w4, w5, hmx⟩ := hc
  have hcb := va_cnB (R := Γ.R) (own := mi.1.cls) (index := idx) (bytes := mj.2.1) (maxL := mj.2.2.1) (ret := mj.2.2.2) (ws := wsM mj) (rm := rmk j mc ms) (mc := mc) (ms := ms) nA hts (tb_wsM w5) rfl rfl rfl (kx_nest hK w1) (hts _ w4) hd ⟨by show j + 1 ≤ Γ.R.frames; omega, by show 8 + (mj.2.2.1 + 11) + 60 * j ≤ Γ.R.locals; omega⟩
  have run := va_runSN (Ts := tb) (g := F0 Γ.m pc ls (As.reverse ++ rest)) (locs := locs) (cells := k) (slots := c) (rest := rest) (As := As) (H := H) (below := Γ.below) (meth := Γ.meth) (e := Γ.e) (R := Γ.R) ⟨hx, hb, hml, hown, hts⟩ hE ⟨hcb, hts _ w2, trivial⟩
    ⟨Pcx.blind, fun U hU hW => ⟨rfl, by rw [hU]; exact hP, hK.at hW hU hS hsz, by rw [hU]; exact Nat.le_trans hsz hS.1⟩⟩ rfl hn hl.1 rfl (by rw [show (F0 Γ.m pc ls (As.reverse ++ rest)).monitorRoom = 0 from rfl]; omega) hdg hfit
  intro T hT2 X
  obtain ⟨v, st₀, t, T', L, h0, X', hL, e1, e2, ⟨hv, hP1, hz, hk⟩, st2⟩ := run T hT2 X
  cases hv
  rw [h0] at hz hk
  obtain ⟨t2, a1, b1⟩ := g_back ok hS hl e1 hP1 hz hk hL kk T' rfl X'
  exact ⟨t2, st2 t2 a1, b1⟩
end NestRows
