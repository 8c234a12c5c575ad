/-- a call by a contract that throws, caught by a row of the caller's own table -/
theorem cast_no {Δ : Dx} {U : State} (h : Kx Δ U) {a b : String} (hw : Cond.not (Cond.castable a b) ∈ flatC (Jvm.Cond.and given_1 narrow_1)) : ∃ c t, U.vm.findClass a = some c ∧ U.vm.findClass b = some t ∧ U.vm.assignable c t = false := by
  have h2 := flat_of_before _ h.2.2.1 _ hw
  have hal := h.2.2.2.2.1.alike
  simp only [Cond.before, Cond.holds, Cond.value] at h2
  cases hc : Δ.s0.vm.findClass a with
  | none => simp [hc] at h2
  | some c =>
    cases ht : Δ.s0.vm.findClass b with
    | none => simp [hc, ht] at h2
    | some t =>
      refine ⟨c, t, by rw [hal.findClass]; exact hc, by rw [hal.findClass]; exact ht, ?_⟩
      rw [hal.assignable]
      simpa [hc, ht] using h2
theorem cast_yes {Δ : Dx} {U : State} (h : Kx Δ U) {a b : String} (hw : Cond.castable a b ∈ lw_tbl) : ∃ c t, U.vm.findClass a = some c ∧ U.vm.findClass b = some t ∧ U.vm.assignable c t = true := Cond.castable_spec (kx_castable h hw #[])
/-- the words of a catch: the rows of the table ahead of the one that takes an object of class cls -/
def Cat (own cls : String) (hs : List (Nat × Nat × Nat × Nat)) (pc h : Nat) : Prop := ∃ (pre : List (Nat × Nat × Nat × Nat)) (x : Nat × Nat × Nat × Nat) (rs : List (Nat × Nat × Nat × Nat)), hs = pre ++ x :: rs ∧ x.2.2.1 = h ∧
  (∀ y ∈ pre, (y.1 ≤ pc ∧ pc < y.2.1 ∧ y.2.2.2 ≠ 0) ∧ ∃ name, (Cond.classLink own y.2.2.2 name ∈ lw_tbl ∧ goodWord (Cond.classLink own y.2.2.2 name) = true) ∧ Cond.not (Cond.castable cls name) ∈ flatC (Jvm.Cond.and given_1 narrow_1)) ∧
  ((x.1 ≤ pc ∧ pc < x.2.1 ∧ x.2.2.2 ≠ 0) ∧ ∃ name, (Cond.classLink own x.2.2.2 name ∈ lw_tbl ∧ goodWord (Cond.classLink own x.2.2.2 name) = true) ∧ Cond.castable cls name ∈ lw_tbl)
abbrev tabOf (c : Code) : List (Nat × Nat × Nat × Nat) := c.exceptionTable.toList.map (fun h => (h.startPc, h.endPc, h.handlerPc, h.catchType))
theorem cat_rows {Δ : Dx} {U : State} (hK : Kx Δ U) {own cls : String} {es : List ExceptionTableEntry} {pc h : Nat} (args : Array Value) {cc : ClassId} (hcc : U.vm.findClass cls = some cc) (hC : Cat own cls (es.map (fun h => (h.startPc, h.endPc, h.handlerPc, h.catchType))) pc h) :
    ∃ (pre : List ExceptionTableEntry) (x : ExceptionTableEntry) (rs : List ExceptionTableEntry), es = pre ++ x :: rs ∧ x.handlerPc = h ∧ (∀ y ∈ pre, Row U args own cc pc false y) ∧ Row U args own cc pc true x := by
  obtain ⟨pre, x, rs, he, hh, hp, hx⟩ := hC
  obtain ⟨p1, r1, e1, e2, e3⟩ := List.map_eq_append_iff.mp he
  obtain ⟨x1, r2, e4, e5, e6⟩ := List.map_eq_cons_iff.mp e3
  subst e1; subst e4
  refine ⟨p1, x1, r2, rfl, by rw [← e5] at hh; exact hh, fun y hy => ?_, ?_⟩
  · have hm : (y.startPc, y.endPc, y.handlerPc, y.catchType) ∈ pre := by rw [← e2]; exact List.mem_map.mpr ⟨y, hy, rfl⟩
    obtain ⟨⟨a1, a2, a3⟩, name, ⟨b1, b2⟩, b3⟩ := hp _ hm
    obtain ⟨c, t, q1, q2, q3⟩ := cast_no hK b3
    cases hcc.symm.trans q1
    exact ⟨by simp only [covers, Bool.and_eq_true, decide_eq_true_eq]; exact ⟨a1, a2⟩, a3, name, t, kx_word hK b1 b2 _, q2, q3⟩
  · rw [← e5] at hx
    obtain ⟨⟨a1, a2, a3⟩, name, ⟨b1, b2⟩, b3⟩ := hx
    obtain ⟨c, t, q1, q2, q3⟩ := cast_yes hK b3
    cases hcc.symm.trans q1
    exact ⟨by simp only [covers, Bool.and_eq_true, decide_eq_true_eq]; exact ⟨a1, a2⟩, a3, name, t, kx_word hK b1 b2 _, q2, q3⟩
/-- the callee has thrown: the caller stands, the note lies on its frame -/
theorem thrown_back {p : Program} {l : Launch} {e : Env} {R : Room} {s : State} {m : MethodId} {args : Array Value} {below : List Frame} {meth : Method} {c : Code} {U : State} {locs : List Loc} {cells slots : Nat} {y : MethodName} {S : Spec} {P : Array Value → State → Prop} {Q : Array Value → State → Outcome → State → Prop} {bytes : ByteArray} {maxL len W0 kk nn : Nat} {ret : Option FieldType}
    (hM : MetFree l y S P (fun _ _ _ _ _ => True) Q) {A : Addr → Prop} (hQ : ∀ a first o t, Q a first o t → ∃ L, FrT first o t L kk nn ∧ ∀ q ∈ L, A q.base)
    (X : Stand p l e R s m args below meth c U locs cells slots) (hframes : S.room.frames + 1 ≤ R.frames) (hlocals : W0 + (maxL + 11) + S.room.locals ≤ R.locals)
    {g : JFrame} {ig : Instr} {mk : MethodId} {a : Array Value} (hg : g.method = m) (hsize : g.locals.size = c.maxLocals) (hdg : decode c.code g.pc = .ok (ig, len)) (hW : 2 * g.monitorRoom + (g.stack.map fun v => v.category).sum ≤ W0) (hn : U.methodNamed? y = some mk)
    (h1 : S.pre.before a U = true) (h2 : (Cond.code y bytes maxL ret).before a U = true) (h3 : (Cond.initialized y.cls).before a U = true) (h4 : cells + S.room.cells ≤ R.cells) (h5 : slots + S.room.slots ≤ R.slots) (hP : P a (U.calling g mk a)) :
    ∃ (x : Addr) (t U' : State) (L : List Loc), Q a (U.calling g mk a) (.threw x) t ∧ FrT (U.calling g mk a) (.threw x) t L kk nn ∧ (∀ q ∈ L, A q.base) ∧ U'.heap = t.heap ∧ U'.vm = t.vm ∧ Stand p l e R s m args below meth c U' (locs ++ L) (cells + kk) (slots + nn) ∧
      Steps p.tables e below (doInvoke e (U.setTop g) [] mk a).1 ((U'.setTop g).pushFrame (.throwing x)) := by
  obtain ⟨methY, cY, hmY, hcY, -, hlY, -, -, -, -⟩ := Cond.code_spec hn h2
  obtain ⟨kY, hkY, -⟩ := className_of_methodNamed hn
  have hinitY : kY.init = .initialized := Cond.initialized_spec (findClass_of_methodNamed hn) hkY h3
  have h : At U g.method c below := by rw [hg]; exact X.here
  have happ : S.appliesLoose y e.platform (U.calling g mk a) = true :=
    Spec.appliesLoose_calling (g := g) h hdg hn hkY hinitY
      (X.room_calling (g := g) (R' := S.room) hsize hmY hcY hframes (by rw [hlY]; omega) h4 h5) h1
  obtain ⟨mid, hmid⟩ := h.above
  have hfr : (U.setTop g).frames = (.java g :: mid) ++ below := by rw [State.frames_setTop' g h.top, hmid]; rfl
  obtain ⟨o, s₂, hsteps, -, hend, hq⟩ := Steps.callFree hM p X.admits X.cas X.clock (acts := []) hfr happ hP trivial
  have hq' : Q a (U.calling g mk a) o s₂ := hq
  rw [State.frames_setTop' g h.top] at hend
  obtain ⟨L, hfe, hLA⟩ := hQ _ _ _ _ hq'
  obtain ⟨⟨x, rfl⟩, hW₂, e2, q2, q3, q4, q5, q6⟩ := id hfe
  have e3 : s₂ = ({ (U.calling g mk a).setFrames s₂.frames with heap := s₂.heap, slotsUsed := s₂.slotsUsed } : State).setVm s₂.vm := by
    have : s₂ = ({ s₂ with vm := (U.calling g mk a).vm } : State).setVm s₂.vm := rfl
    rw [e2] at this
    exact this
  have hf₂ : s₂.frames = .throwing x :: .java g :: U.frames.tail := hend
  have hW' : U.WarmedH s₂.vm := hW₂
  obtain ⟨g₀, hg0⟩ := Option.isSome_iff_exists.mp h.top
  obtain ⟨r, hr⟩ := State.topJava?_eq_some.mp hg0
  have hs₂ : s₂ = ((({ U with heap := s₂.heap, slotsUsed := s₂.slotsUsed } : State).setVm s₂.vm).setTop g).pushFrame (.throwing x) := by
    have hr' : (({ U with heap := s₂.heap, slotsUsed := s₂.slotsUsed } : State).setVm s₂.vm).frames = .java g₀ :: r := hr
    have hcur : (({ U with heap := s₂.heap, slotsUsed := s₂.slotsUsed } : State).setVm s₂.vm).cur < (({ U with heap := s₂.heap, slotsUsed := s₂.slotsUsed } : State).setVm s₂.vm).threads.size := State.cur_lt_of_frames hr'
    refine e3.trans ?_
    rw [hf₂, State.calling_eq h.top, State.setFrames_setFrames, State.setTop_of_frames _ hr', State.pushFrame, State.setFrames_setFrames, State.frames_setFrames _ hcur, hr]
    rfl
  have hsame : U.sameButNew ({ U with heap := s₂.heap, slotsUsed := s₂.slotsUsed } : State) L kk nn := by
    refine ⟨?_, q2, q3, q4, q5, q6⟩
    obtain ⟨t, ht, -⟩ := State.frames_cons hr
    show ({ U with heap := s₂.heap, slotsUsed := s₂.slotsUsed } : State) = { U.setFrames U.frames with heap := s₂.heap, slotsUsed := s₂.slotsUsed }
    rw [State.setFrames_self ht]
  subst hg
  refine ⟨x, s₂, (({ U with heap := s₂.heap, slotsUsed := s₂.slotsUsed } : State).setVm s₂.vm), L, hq', hfe, hLA, rfl, rfl,
    ⟨X.admits, X.cas, X.clock, X.frames, X.room, X.hears, X.method, X.code, (X.here.setHeapUsed s₂.heap s₂.slotsUsed).setVm hW'.alike, X.tail, State.WarmedH.trans X.warmed hW', X.limits, X.bytes, X.same.trans (hsame.setVm s.vm)⟩, ?_⟩
  rw [← hs₂]
  exact hsteps
