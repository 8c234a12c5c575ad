/-! contracts that leave one of several states: where a row of bytes is made, its place hangs on the heap's size -/
def QcE (Δ : Dx) (rf : St → Option Value) (P : St → Prop) : Array Value → State → Outcome → State → Prop := fun v st o t => ∃ σ', P σ' ∧ Qcx Δ (rf σ') NN σ' v st o t
def EvE (Δ : Dx) (k : Nat) (mi : MI) (as : List Value) (σ : St) (rf : St → Option Value) (P : St → Prop) (mc ms : Nat) : Prop :=
  Met Δ.1 mi.1 (wsM mi) (rmk k mc ms) (Pcx Δ NN as σ) (QcE Δ rf P) mc ms Δ.A
def EvXE (Δ : Dx) (k : Nat) (mi : MI) (hs : List (Nat × Nat × Nat × Nat)) (as : List Value) (σ : St) (rf : St → Option Value) (P : St → Prop) (mc ms : Nat) : Prop :=
  Met Δ.1 mi.1 (wsX mi hs) (rmk k mc ms) (Pcx Δ NN as σ) (QcE Δ rf P) mc ms Δ.A
def TgE (Δ : Dx) (Γ : Cx) (rf : St → Option Value) (P : St → Prop) (mc ms : Nat) : Prop := Γ.Q = MQ Γ.below (QcE Δ rf P) Γ.args Γ.s mc ms Δ.A
theorem evE_of {Δ : Dx} {k : Nat} {mi : MI} {as : List Value} {σ : St} {rf : St → Option Value} {P : St → Prop} {mc ms : Nat} (hy : plainName mi.1.cls = true) (hlen : (lg_sl as).length ≤ mi.2.2.1)
    (body : ∀ Γ : Cx, Γ.k = k → Γ.R = rmk k mc ms → TgE Δ Γ rf P mc ms → GG Δ mi Γ NN 0 0 σ 0 (lvE as mi.2.2.1) []) : EvE Δ k mi as σ rf P mc ms := by
  refine Met.ofW (cc := mi.2.1) (maxL := mi.2.2.1) (ret := mi.2.2.2) hy rfl ?_
  intro p e s m args below meth c s₁ B hml hv
  obtain ⟨rfl, hP, hK, hsz⟩ := hv
  have hts := atoms_spec (ws := wsM mi) B.pre
  have hb := body ((p, e, rmk k mc ms, s), (m, as.toArray, below, meth, c), MQ below (QcE Δ rf P) as.toArray s mc ms Δ.A, k) rfl rfl rfl
    ⟨B.exec, B.bytes, hml, findClass_of_methodNamed B.named, fun w h => hts w (List.mem_cons_of_mem _ h), B.returns, B.notSynchronized, hK, (name_of_methodNamed B.named B.method).1, hsz, Nat.le_refl _, Nat.le_refl _⟩
  rw [lg_entry_eq]
  have hl := lv_entry as (n := mi.2.2.1) hlen
  refine hb s.heap [] _ hP va_S.rf ⟨hl.1, hl.2.1, fun i v h => ?_⟩
  have := lv0_mem as 0 i v (lvE_at h)
  rw [Nat.zero_add] at this
  exact hl.2.2 (i, v) this
theorem evXE_of {Δ : Dx} {k : Nat} {mi : MI} {hs : List (Nat × Nat × Nat × Nat)} {as : List Value} {σ : St} {rf : St → Option Value} {P : St → Prop} {mc ms : Nat} (hy : plainName mi.1.cls = true) (hlen : (lg_sl as).length ≤ mi.2.2.1)
    (body : ∀ Γ : Cx, Γ.k = k → Γ.R = rmk k mc ms → TgE Δ Γ rf P mc ms → tabOf Γ.c = hs → GG Δ mi Γ NN 0 0 σ 0 (lvE as mi.2.2.1) []) : EvXE Δ k mi hs as σ rf P mc ms := by
  unfold EvXE Met
  refine MetFree.of_bodyS (code := mi.2.1) (maxLocals := mi.2.2.1) (ret := mi.2.2.2) hy ?_ ?_
  · intro args s m h hn
    obtain ⟨m', meth, c, h0, h1, h2, h3, h4, -, h5, h6, -⟩ := Cond.codeWith_spec (atoms_spec (ws := wsX mi hs) h _ List.mem_cons_self)
    cases hn.symm.trans h0
    exact ⟨meth, c, h1, h2, h3, h4, h5, h6⟩
  · intro p e s m args below meth c s₁ B hml hv _
    obtain ⟨rfl, hP, hK, hsz⟩ := hv
    have hts := atoms_spec (ws := wsX mi hs) B.pre
    obtain ⟨m', meth', c', h0, h1, h2, -, -, htab, -, -, -⟩ := Cond.codeWith_spec (hts _ List.mem_cons_self)
    have hme : meth' = meth := by
      cases B.named.symm.trans h0
      exact Option.some.inj (h1.symm.trans B.method)
    subst hme
    have hcc : c' = c := Option.some.inj (h2.symm.trans (Stand.of_body B).code)
    subst hcc
    have hb := body ((p, e, rmk k mc ms, s), (m, as.toArray, below, meth', c'), MQ below (QcE Δ rf P) as.toArray s mc ms Δ.A, k) rfl rfl rfl htab
      ⟨B.exec, B.bytes, hml, findClass_of_methodNamed B.named, fun w h => hts w (List.mem_cons_of_mem _ h), B.returns, B.notSynchronized, hK, (name_of_methodNamed B.named B.method).1, hsz, Nat.le_refl _, Nat.le_refl _⟩
    have hl := lv_entry as (n := mi.2.2.1) hlen
    have hh0 : s₁.heap = s.heap := by rw [B.state]; rfl
    have hw := hb s.heap [] _ hP va_S.rf ⟨hl.1, hl.2.1, fun i v h => by
      have := lv0_mem as 0 i v (lvE_at h)
      rw [Nat.zero_add] at this
      exact hl.2.2 (i, v) this⟩
    rw [← lg_entry_eq] at hw
    obtain ⟨t, a1, o, b1, b2, b3⟩ := hw s₁ hh0 (Stand.of_body B)
    exact ⟨t, o, a1, b1, b2, ⟨b3.1, b3.2⟩⟩
theorem g_callXE {Δ : Dx} {mi mj : MI} {Γ : Cx} {k c : Nat} {σ : St} {rf : St → Option Value} {P : St → Prop} {pc : Nat} {lv : List (Option Value)} {rest st As : List Value} {idx nA j mc ms : Nat} {hs : List (Nat × Nat × Nat × Nat)} (hdg : decode mi.2.1 pc = .ok (.invokestatic idx, 3)) (hc : CX mi.1.cls idx mj hs nA) (hE : EvXE Δ j mj hs As σ rf P mc ms) (hn : As.length = nA) (hj : j < Γ.k) (hw : (rest.map fun v => v.category).sum ≤ 8) (hfit : k + mc ≤ Γ.R.cells ∧ c + ms ≤ Γ.R.slots) (hst : st = As.reverse ++ rest)
    (kk : ∀ σ', P σ' → GG Δ mi Γ NN (k + mc) (c + ms) σ' (pc + 3) lv ((rf σ').toList ++ rest)) : GG Δ mi Γ NN k c σ pc lv st := fun ok H locs ls hP hS hl => by
  subst hst
  obtain ⟨hx, hb, hml, hown, hts, hr, hlk, hK, hnm, hsz, hf, hlo⟩ := id ok
  obtain ⟨hd, w1, w2, w4, w5, hmx⟩ := hc
  have gw : ∀ w ∈ tb, ∀ (a' : Array Value) (U : State), Γ.s.WarmedH U.vm → w.before a' U = true := fun w hw a' U hW => word_at hW (good_of_word (tb_good _ hw)) (hts _ hw)
  have hB : Back Δ.1 Γ.R Γ.p Γ.e Γ.below Γ.s Γ.args mj.1 3 8 (PreOf Γ.R mc ms (Pcx Δ NN As σ)) (PostOf (QcE Δ rf P) mc ms Δ.A) := by
    refine Back.of_freeWith (handlers := hs) (S := headSpec (wsX mj hs) (rmk j mc ms)) (P := Pcx Δ NN As σ) (K := fun _ _ _ _ _ => True) (Q := fun a st o t => QcE Δ rf P a st o t ∧ ∃ L, FrameEnd st o t L mc ms ∧ ∀ q ∈ L, Δ.A q.base) (bytes := mj.2.1) (maxL := mj.2.2.1) (ret := mj.2.2.2)
      (E := fun a st o t L k n => k = mc ∧ n = ms ∧ ∀ q ∈ L, Δ.A q.base) hE (by show j + 1 ≤ Γ.R.frames; omega) (by show 8 + (mj.2.2.1 + 11) + 60 * j ≤ Γ.R.locals; omega) ?_ ?_ (fun _ _ _ _ _ _ _ _ _ => trivial) ?_ ?_
    · intro m meth c A a X hp
      exact ⟨atoms_intro fun w hw => by
        rcases List.mem_cons.mp hw with rfl | h2
        · exact gw _ w5 _ _ X.warmed
        · exact gw _ h2 _ _ X.warmed, gw _ w5 _ _ X.warmed, gw _ w4 _ _ X.warmed, hp.1, hp.2.1⟩
    · intro m meth c A a g mk X hp
      exact Pcx.blind _ _ _ _ hp.2.2
    · intro a st o t ⟨hq, L, hF, hL⟩
      exact ⟨L, mc, ms, hF, rfl, rfl, hL⟩
    · intro m meth c A a g mk v t L k n X hp hq hF ⟨e1, e2, hL⟩
      subst e1; subst e2
      exact ⟨g, mk, t, L, rfl, rfl, hq.1, rfl, hL, rfl, rfl⟩
  intro T hT2 X
  obtain ⟨mk, methM, cM, hnamed, hmethM, -, -, -, -, -, -, hsigM⟩ := Cond.codeWith_spec (hts _ w5)
  have hstatic : methM.isStatic = true := Cond.static_spec hnamed hmethM (hts _ w2)
  obtain ⟨kP, hkP, -⟩ := className_of_methodNamed hnamed
  have hinitP : kP.init = .initialized := Cond.initialized_spec (findClass_of_methodNamed hnamed) hkP (hts _ w4)
  have hlenS : As.length = methM.sig.parameters.length := by
    have := hd.2.2
    rw [hsigM] at this
    rw [hn]
    exact (Option.some.inj this).symm
  obtain ⟨vm₁, X₁, hstep₁⟩ := X.invokestatic hx hown (hts _ w1) hnamed hmethM hstatic hkP hinitP ⟨hd.1, hd.2.1⟩ (g := F0 Γ.m pc ls (As.reverse ++ rest)) rfl (argsL := As) (rest := rest) hlenS rfl (by rw [hb]; exact hdg)
  obtain ⟨v, ⟨U', l2, c2, s2⟩, X', ⟨g', mk', t, L, e1, e2, hq, h1, hL, h2, h3⟩, hsteps⟩ := hB Γ.m Γ.meth Γ.c ⟨T.setVm vm₁, locs, k, c⟩ { F0 Γ.m pc ls (As.reverse ++ rest) with stack := rest } (.invokestatic idx) mk As.toArray X₁ rfl (by rw [hml]; exact hl.1) (by rw [hb]; exact hdg) (by show 2 * 0 + (rest.map fun v => v.category).sum ≤ 8; omega) (X₁.named hnamed)
    ⟨hfit.1, hfit.2, rfl, by rw [show (T.setVm vm₁).heap = H from hT2]; exact hP, hK.at (U := T.setVm vm₁) X₁.warmed hT2 hS hsz, by rw [show (T.setVm vm₁).heap = H from hT2]; exact Nat.le_trans hsz hS.1⟩
  dsimp only [Pt.U, Pt.locs, Pt.cells, Pt.slots] at X' e1 e2 h1 h2 h3 hsteps
  subst h1; subst h2; subst h3
  obtain ⟨σ', hPσ, hv, hP1, hz, hk⟩ := hq
  cases hv
  have hT0 : ((T.setVm vm₁).calling g' mk' As.toArray).heap = H := hT2
  rw [hT0] at hz hk
  obtain ⟨t2, a1, b1⟩ := g_back ok hS hl e1 hP1 hz hk hL (kk σ' hPσ) U' rfl X'
  exact ⟨t2, hstep₁ _ fun acts => by rw [doInvoke_state]; exact hsteps.trans a1, b1⟩
section CallRowsE
variable {Δ : Dx} {mi mj : MI} {Γ : Cx} {k c : Nat} {σ : St} {pc : Nat} {lv : List (Option Value)} {rest st As : List Value} {idx nA j mc ms : Nat} {rf : St → Option Value} {P : St → Prop}
theorem g_callVE {a ci : Nat} {C : String} (hdg : decode mi.2.1 pc = .ok (.invokevirtual idx, 3)) (hc : CV mi.1.cls idx C mj nA) (ho : Ob NN a ci) (hcn : vcl[ci]?.map (fun q => q.1) = some C) (hE : EvE Δ j mj (.ref (Δ.ba + a) :: As) σ rf P mc ms) (hn : As.length = nA) (hj : j < Γ.k) (hw : (rest.map fun v => v.category).sum ≤ 8) (hfit : k + mc ≤ Γ.R.cells ∧ c + ms ≤ Γ.R.slots) (hst : st = As.reverse ++ .ref (Δ.ba + a) :: rest)
    (kk : ∀ σ', P σ' → GG Δ mi Γ NN (k + mc) (c + ms) σ' (pc + 3) lv ((rf σ').toList ++ rest)) : GG Δ mi Γ NN k c σ pc lv st := fun ok H locs ls hP hS hl => by
  subst hst
  obtain ⟨hx, hb, hml, hown, hts, hr, hlk, hK, hnm, hsz, hf, hlo⟩ := id ok
  obtain ⟨hd, w1, w2, w3, w4, w5, hmx⟩ := hc
  obtain ⟨q, hq, rfl⟩ : ∃ q, vcl[ci]? = some q ∧ q.1 = C := by
    cases hq : vcl[ci]? with
    | none => rw [hq] at hcn; cases hcn
    | some q => rw [hq] at hcn; exact ⟨q, rfl, Option.some.inj hcn⟩
  have hws : (Δ.W NN σ)[a]? = some (Δ.ba + a, .inr (ci, (List.range (nmF ci)).map (fv ci σ a))) := by rw [wsO_at ho.1, cellO_ob ho.2]
  have hT : GoodIn tb (wsV mi.1.cls idx q.1 mj.1 (wsM mj)) := fun w hw => by
    unfold wsV at hw
    rcases List.mem_append.mp hw with h | h
    · have hm : w ∈ tb := by
        simp only [List.mem_cons, List.not_mem_nil, or_false] at h
        rcases h with rfl | rfl | rfl | rfl
        · exact w1
        · exact w2
        · exact w3
        · exact w4
      exact ⟨hm, good_of_word (tb_good _ hm)⟩
    · exact tb_wsM w5 w h
  have run := va_runV (Ts := tb) (g := F0 Γ.m pc ls (As.reverse ++ .ref (Δ.ba + a) :: rest)) (locs := locs) (cells := k) (slots := c) (rest := rest) (As := As) (b := Δ.ba + a) (H := H) (below := Γ.below) (meth := Γ.meth) (e := Γ.e) (R := Γ.R) ⟨hx, hb, hml, hown, hts⟩ hE (cwV nA hts hT rfl rfl rfl hd ⟨by show j + 1 ≤ Γ.R.frames; omega, by show 8 + (mj.2.2.1 + 11) + 60 * j ≤ Γ.R.locals; omega⟩)
    ⟨Pcx.blind, va_recv hK.1 hP hq hws, fun U hU hW => ⟨rfl, by rw [hU]; exact hP, hK.at hW hU hS hsz, by rw [hU]; exact Nat.le_trans hsz hS.1⟩⟩ rfl hn hl.1 rfl (by rw [show (F0 Γ.m pc ls (As.reverse ++ .ref (Δ.ba + a) :: rest)).monitorRoom = 0 from rfl]; omega) hdg hfit
  intro T hT2 X
  obtain ⟨v, st₀, t, T', L, h0, X', hL, e1, e2, ⟨σ', hPσ, hv, hP1, hz, hk⟩, st2⟩ := run T hT2 X
  cases hv
  rw [h0] at hz hk
  obtain ⟨t2, a1, b1⟩ := g_back ok hS hl e1 hP1 hz hk hL (kk σ' hPσ) T' rfl X'
  exact ⟨t2, st2 t2 a1, b1⟩
theorem g_callSE (hdg : decode mi.2.1 pc = .ok (.invokestatic idx, 3)) (hc : CS mi.1.cls idx mj nA) (hE : EvE Δ j mj As σ rf P mc ms) (hn : As.length = nA) (hj : j < Γ.k) (hw : (rest.map fun v => v.category).sum ≤ 8) (hfit : k + mc ≤ Γ.R.cells ∧ c + ms ≤ Γ.R.slots) (hst : st = As.reverse ++ rest)
    (kk : ∀ σ', P σ' → GG Δ mi Γ NN (k + mc) (c + ms) σ' (pc + 3) lv ((rf σ').toList ++ rest)) : GG Δ mi Γ NN k c σ pc lv st := fun ok H locs ls hP hS hl => by
  subst hst
  obtain ⟨hx, hb, hml, hown, hts, hr, hlk, hK, hnm, hsz, hf, hlo⟩ := id ok
  obtain ⟨hd, w1, w2, w4, w5, hmx⟩ := hc
  have hT : GoodIn tb (va_wsS mi.1.cls idx mj.1 (wsM mj)) := fun w hw => by
    unfold va_wsS at hw
    rcases List.mem_append.mp hw with h | h
    · have hm : w ∈ tb := by
        simp only [List.mem_cons, List.not_mem_nil, or_false] at h
        rcases h with rfl | rfl | rfl
        · exact w1
        · exact w2
        · exact w4
      exact ⟨hm, good_of_word (tb_good _ hm)⟩
    · exact tb_wsM w5 w h
  have run := va_runS (Ts := tb) (g := F0 Γ.m pc ls (As.reverse ++ rest)) (locs := locs) (cells := k) (slots := c) (rest := rest) (As := As) (H := H) (below := Γ.below) (meth := Γ.meth) (e := Γ.e) (R := Γ.R) ⟨hx, hb, hml, hown, hts⟩ hE (va_cwS nA hts hT rfl rfl rfl hd ⟨by show j + 1 ≤ Γ.R.frames; omega, by show 8 + (mj.2.2.1 + 11) + 60 * j ≤ Γ.R.locals; omega⟩)
    ⟨Pcx.blind, fun U hU hW => ⟨rfl, by rw [hU]; exact hP, hK.at hW hU hS hsz, by rw [hU]; exact Nat.le_trans hsz hS.1⟩⟩ rfl hn hl.1 rfl (by rw [show (F0 Γ.m pc ls (As.reverse ++ rest)).monitorRoom = 0 from rfl]; omega) hdg hfit
  intro T hT2 X
  obtain ⟨v, st₀, t, T', L, h0, X', hL, e1, e2, ⟨σ', hPσ, hv, hP1, hz, hk⟩, st2⟩ := run T hT2 X
  cases hv
  rw [h0] at hz hk
  obtain ⟨t2, a1, b1⟩ := g_back ok hS hl e1 hP1 hz hk hL (kk σ' hPσ) T' rfl X'
  exact ⟨t2, st2 t2 a1, b1⟩
end CallRowsE
