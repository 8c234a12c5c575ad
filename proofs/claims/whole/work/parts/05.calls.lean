/-! contracts out of bodies, and calls by contract -/
theorem lv0_mem : ∀ (as : List Value) (off i : Nat) (v : Value), (lv0 as)[i]? = some (some v) → (off + i, v) ∈ lv_args off as := by
  intro as
  induction as with
  | nil => intro off i v h; simp [lv0] at h
  | cons a as ih =>
    intro off i v h
    have e : lv0 (a :: as) = (if a.category = 2 then [some a, none] else [some a]) ++ lv0 as := rfl
    rw [e] at h
    show (off + i, v) ∈ (off, a) :: lv_args (if a.category = 2 then off + 2 else off + 1) as
    by_cases hc : a.category = 2
    · rw [if_pos hc] at h ⊢
      cases i with
      | zero =>
        have h2 : some (some a) = some (some v) := h
        cases h2
        exact List.mem_cons_self
      | succ i =>
        cases i with
        | zero =>
          have h2 : some (none : Option Value) = some (some v) := h
          cases h2
        | succ i =>
          have h2 : (lv0 as)[i]? = some (some v) := h
          have h3 := ih (off + 2) i v h2
          rw [show off + (i + 1 + 1) = off + 2 + i by omega]
          exact List.mem_cons_of_mem _ h3
    · rw [if_neg hc] at h ⊢
      cases i with
      | zero =>
        have h2 : some (some a) = some (some v) := h
        cases h2
        exact List.mem_cons_self
      | succ i =>
        have h2 : (lv0 as)[i]? = some (some v) := h
        have h3 := ih (off + 1) i v h2
        rw [show off + (i + 1) = off + 1 + i by omega]
        exact List.mem_cons_of_mem _ h3
/-- the locals at the entry -/
def lvE (as : List Value) (n : Nat) : List (Option Value) := lv0 as ++ List.replicate (n - (lv0 as).length) none
theorem lvE_at {as : List Value} {n i : Nat} {v : Value} (h : (lvE as n)[i]? = some (some v)) : (lv0 as)[i]? = some (some v) := by
  unfold lvE at h
  rw [List.getElem?_append] at h
  split at h
  · exact h
  · rw [List.getElem?_replicate] at h
    split at h <;> cases h
theorem ev_of {Δ : Dx} {k : Nat} {mi : MI} {n : Nat} {as : List Value} {σ : St} {r : Option Value} {n' : Nat} {σ' : St} {mc ms : Nat} (hy : plainName mi.1.cls = true) (hlen : (lg_sl as).length ≤ mi.2.2.1)
    (body : ∀ Γ : Cx, Γ.k = k → Γ.R = rmk k mc ms → Tg Δ Γ r n' σ' mc ms → GG Δ mi Γ n 0 0 σ 0 (lvE as mi.2.2.1) []) : EvN Δ k mi n as σ r n' σ' mc ms := by
  refine Met.ofW (cc := mi.2.1) (maxL := mi.2.2.1) (ret := mi.2.2.2) hy rfl ?_
  intro p e s m args below meth c s₁ B hml hv
  obtain ⟨rfl, hP, hK, hsz⟩ := hv
  have hts := atoms_spec (ws := wsM mi) B.pre
  have hb := body ((p, e, rmk k mc ms, s), (m, as.toArray, below, meth, c), MQ below (Qcx Δ r n' σ') as.toArray s mc ms Δ.A, k) rfl rfl rfl
    ⟨B.exec, B.bytes, hml, findClass_of_methodNamed B.named, fun w h => hts w (List.mem_cons_of_mem _ h), B.returns, B.notSynchronized, hK, (name_of_methodNamed B.named B.method).1, hsz, Nat.le_refl _, Nat.le_refl _⟩
  rw [lg_entry_eq]
  have hl := lv_entry as (n := mi.2.2.1) hlen
  refine hb s.heap [] _ hP va_S.rf ⟨hl.1, hl.2.1, fun i v h => ?_⟩
  have := lv0_mem as 0 i v (lvE_at h)
  rw [Nat.zero_add] at this
  exact hl.2.2 (i, v) this
theorem Pcx.blind {Δ : Dx} {n : Nat} {as : List Value} {σ : St} : FrameBlind (Pcx Δ n as σ) := fun a U g mk q => by
  obtain ⟨q0, qP, ⟨k1, k2, k3, k4, k5, k6, k7⟩, qs⟩ := q
  exact ⟨q0, qP, ⟨va_K.moved (u := U) (U := U.calling g mk a) (Vm.Alike.refl U.vm) k1, k2, k3, k4, k5, k6, k7⟩, qs⟩
/-- the entry of a call: a virtual or private method; a static one; a constructor -/
def CV (own : String) (idx : Nat) (C : String) (mj : MI) (nA : Nat) : Prop := (mj.1.cls = C ∧ mj.1.cls ≠ "java/lang/invoke/MethodHandle" ∧ mj.1.cls ≠ "java/lang/invoke/VarHandle" ∧ (parseMethodDescriptor mj.1.desc).map (fun d => d.parameters.length) = some nA) ∧ Cond.methodLink own idx mj.1 ∈ tb ∧ Cond.instanceMethod mj.1 ∈ tb ∧ Cond.selects C mj.1 mj.1 ∈ tb ∧ Cond.initialized C ∈ tb ∧ Cond.code mj.1 mj.2.1 mj.2.2.1 mj.2.2.2 ∈ tb ∧ mj.2.2.1 ≤ 41
def CS (own : String) (idx : Nat) (mj : MI) (nA : Nat) : Prop := (mj.1.cls ≠ "java/lang/invoke/MethodHandle" ∧ mj.1.cls ≠ "java/lang/invoke/VarHandle" ∧ (parseMethodDescriptor mj.1.desc).map (fun d => d.parameters.length) = some nA) ∧ Cond.methodLink own idx mj.1 ∈ tb ∧ Cond.static mj.1 ∈ tb ∧ Cond.initialized mj.1.cls ∈ tb ∧ Cond.code mj.1 mj.2.1 mj.2.2.1 mj.2.2.2 ∈ tb ∧ mj.2.2.1 ≤ 41
theorem tb_wsM {mj : MI} (h : Cond.code mj.1 mj.2.1 mj.2.2.1 mj.2.2.2 ∈ tb) : GoodIn tb (wsM mj) := fun w hw => by
  rcases List.mem_cons.mp hw with rfl | h2
  · exact ⟨h, good_of_word (tb_good _ h)⟩
  · exact ⟨h2, good_of_word (tb_good _ h2)⟩
section CallRows
variable {Δ : Dx} {mi mj : MI} {Γ : Cx} {n k c : Nat} {σ σ' : St} {pc : Nat} {lv : List (Option Value)} {rest st As : List Value} {idx nA j n' mc ms : Nat} {r : Option Value}
/-- behind a call -/
theorem g_back {T' t : State} {H : Heap} {locs L : List Loc} {ls : Array Slot} (ok : Ok Δ mi Γ) (hS : va_S Δ.A Γ.s.heap H locs) (hl : lvh ls mi.2.2.1 lv) (e1 : T'.heap = t.heap) (hP1 : va_P Δ.2.1 vcl (Δ.W n' σ') t.heap) (hz : H.size ≤ t.heap.size) (hk : ∀ q : Nat, q < H.size → ¬ Δ.A q → t.heap[q]? = H[q]?) (hL : ∀ q ∈ L, Δ.A q.base)
    (kk : GG Δ mi Γ n' (k + mc) (c + ms) σ' (pc + 3) lv st) : W Γ.p Δ.1 Γ.e Γ.R Γ.s Γ.m Γ.args Γ.below Γ.meth Γ.c T'.heap (locs ++ L) (k + mc) (c + ms) Γ.Q (F0 Γ.m (pc + 3) ls st) := by
  refine kk ok T'.heap (locs ++ L) ls (by rw [e1]; exact hP1) ⟨Nat.le_trans hS.1 (by rw [e1]; exact hz), fun q h1 h2 => ?_, fun q hq => ?_⟩ hl
  · rw [e1, hk q (Nat.lt_of_lt_of_le h1 hS.1) h2]
    exact hS.2.1 q h1 h2
  · rcases List.mem_append.mp hq with h | h
    · exact hS.2.2 q h
    · exact hL q h
theorem g_callV {a ci : Nat} {C : String} (hdg : decode mi.2.1 pc = .ok (.invokevirtual idx, 3)) (hc : CV mi.1.cls idx C mj nA) (ho : Ob n a ci) (hcn : vcl[ci]?.map (fun q => q.1) = some C) (hE : EvN Δ j mj n (.ref (Δ.ba + a) :: As) σ r n' σ' mc ms) (hn : As.length = nA) (hj : j < Γ.k) (hw : (rest.map fun v => v.category).sum ≤ 8) (hfit : k + mc ≤ Γ.R.cells ∧ c + ms ≤ Γ.R.slots) (hst : st = As.reverse ++ .ref (Δ.ba + a) :: rest)
    (kk : GG Δ mi Γ n' (k + mc) (c + ms) σ' (pc + 3) lv (r.toList ++ rest)) : GG Δ mi Γ n k c σ pc lv st := fun ok H locs ls hP hS hl => by
  subst hst
  obtain ⟨hx, hb, hml, hown, hts, hr, hlk, hK, hnm, hsz, hf, hlo⟩ := id ok
  obtain ⟨hd, w1, w2, w3, w4, w5, hmx⟩ := hc
  obtain ⟨q, hq, rfl⟩ : ∃ q, vcl[ci]? = some q ∧ q.1 = C := by
    cases hq : vcl[ci]? with
    | none => rw [hq] at hcn; cases hcn
    | some q => rw [hq] at hcn; exact ⟨q, rfl, Option.some.inj hcn⟩
  have hws : (Δ.W n σ)[a]? = some (Δ.ba + a, .inr (ci, (List.range (nmF ci)).map (fv ci σ a))) := by rw [wsO_at ho.1, cellO_ob ho.2]
  have hT : GoodIn tb (wsV mi.1.cls idx q.1 mj.1 (wsM mj)) := fun w hw => by
    unfold wsV at hw
    rcases List.mem_append.mp hw with h | h
    · have hm : w ∈ tb := by
        simp only [List.mem_cons, List.not_mem_nil, or_false] at h
        rcases h with rfl | rfl | rfl | rfl
        · exact w1
        · exact w2
        · exact w3
        · exact w4
      exact ⟨hm, good_of_word (tb_good _ hm)⟩
    · exact tb_wsM w5 w h
  have run := va_runV (Ts := tb) (g := F0 Γ.m pc ls (As.reverse ++ .ref (Δ.ba + a) :: rest)) (locs := locs) (cells := k) (slots := c) (rest := rest) (As := As) (b := Δ.ba + a) (H := H) (below := Γ.below) (meth := Γ.meth) (e := Γ.e) (R := Γ.R) ⟨hx, hb, hml, hown, hts⟩ hE (cwV nA hts hT rfl rfl rfl hd ⟨by show j + 1 ≤ Γ.R.frames; omega, by show 8 + (mj.2.2.1 + 11) + 60 * j ≤ Γ.R.locals; omega⟩)
    ⟨Pcx.blind, va_recv hK.1 hP hq hws, fun U hU hW => ⟨rfl, by rw [hU]; exact hP, hK.at hW hU hS hsz, by rw [hU]; exact Nat.le_trans hsz hS.1⟩⟩ rfl hn hl.1 rfl (by rw [show (F0 Γ.m pc ls (As.reverse ++ .ref (Δ.ba + a) :: rest)).monitorRoom = 0 from rfl]; omega) hdg hfit
  intro T hT2 X
  obtain ⟨v, st₀, t, T', L, h0, X', hL, e1, e2, ⟨hv, hP1, hz, hk⟩, st2⟩ := run T hT2 X
  cases hv
  rw [h0] at hz hk
  obtain ⟨t2, a1, b1⟩ := g_back ok hS hl e1 hP1 hz hk hL kk T' rfl X'
  exact ⟨t2, st2 t2 a1, b1⟩
theorem g_callS (hdg : decode mi.2.1 pc = .ok (.invokestatic idx, 3)) (hc : CS mi.1.cls idx mj nA) (hE : EvN Δ j mj n As σ r n' σ' mc ms) (hn : As.length = nA) (hj : j < Γ.k) (hw : (rest.map fun v => v.category).sum ≤ 8) (hfit : k + mc ≤ Γ.R.cells ∧ c + ms ≤ Γ.R.slots) (hst : st = As.reverse ++ rest)
    (kk : GG Δ mi Γ n' (k + mc) (c + ms) σ' (pc + 3) lv (r.toList ++ rest)) : GG Δ mi Γ n k c σ pc lv st := fun ok H locs ls hP hS hl => by
  subst hst
  obtain ⟨hx, hb, hml, hown, hts, hr, hlk, hK, hnm, hsz, hf, hlo⟩ := id ok
  obtain ⟨hd, w1, w2, w4, w5, hmx⟩ := hc
  have hT : GoodIn tb (va_wsS mi.1.cls idx mj.1 (wsM mj)) := fun w hw => by
    unfold va_wsS at hw
    rcases List.mem_append.mp hw with h | h
    · have hm : w ∈ tb := by
        simp only [List.mem_cons, List.not_mem_nil, or_false] at h
        rcases h with rfl | rfl | rfl
        · exact w1
        · exact w2
        · exact w4
      exact ⟨hm, good_of_word (tb_good _ hm)⟩
    · exact tb_wsM w5 w h
  have run := va_runS (Ts := tb) (g := F0 Γ.m pc ls (As.reverse ++ rest)) (locs := locs) (cells := k) (slots := c) (rest := rest) (As := As) (H := H) (below := Γ.below) (meth := Γ.meth) (e := Γ.e) (R := Γ.R) ⟨hx, hb, hml, hown, hts⟩ hE (va_cwS nA hts hT rfl rfl rfl hd ⟨by show j + 1 ≤ Γ.R.frames; omega, by show 8 + (mj.2.2.1 + 11) + 60 * j ≤ Γ.R.locals; omega⟩)
    ⟨Pcx.blind, fun U hU hW => ⟨rfl, by rw [hU]; exact hP, hK.at hW hU hS hsz, by rw [hU]; exact Nat.le_trans hsz hS.1⟩⟩ rfl hn hl.1 rfl (by rw [show (F0 Γ.m pc ls (As.reverse ++ rest)).monitorRoom = 0 from rfl]; omega) hdg hfit
  intro T hT2 X
  obtain ⟨v, st₀, t, T', L, h0, X', hL, e1, e2, ⟨hv, hP1, hz, hk⟩, st2⟩ := run T hT2 X
  cases hv
  rw [h0] at hz hk
  obtain ⟨t2, a1, b1⟩ := g_back ok hS hl e1 hP1 hz hk hL kk T' rfl X'
  exact ⟨t2, st2 t2 a1, b1⟩
end CallRows
