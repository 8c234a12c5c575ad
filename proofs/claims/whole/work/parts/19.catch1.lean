/-! a throw that is caught: the search through the table, its class entries resolved on the way -/
theorem go_cold {E : CtlPost} {e : Env} {d : Bool} {acts : List Action} {s : State} {f : JFrame} {a : Addr} {Q : Handler → Pre} {x : ExceptionTableEntry} {t : List ExceptionTableEntry} {c : ClassId} {cell : Cell} {vm' : Vm} (hx : covers x f.pc = true) (h0 : x.catchType ≠ 0)
    (hg : (Jvm.resolveClass f.method.cls x.catchType).Gives e.toSetting s.vm (.ok c) vm') (hsz : vm'.classes.size ≤ s.vm.classes.size) (hcell : s.heap[a]? = some cell) (hobj : ∀ k, cell.vm ≠ .statics k) (hk : ∃ k, vm'.classes[cell.cls]? = some k) (hc : ∃ k, vm'.classes[c]? = some k) :
    wp (findHandler.go f a (x :: t)) Q E e d acts s ↔ if vm'.assignable cell.cls c = true then Q (.found x.handlerPc) d acts (s.setVm vm') else wp (findHandler.go f a t) Q E e d acts (s.setVm vm') := by
  obtain ⟨ha, ht⟩ := hg.op (op := VmOp.resolveClass f.method.cls x.catchType) rfl
  simp only [covers] at hx
  have hcell' : (s.setVm vm').heap[a]? = some cell := hcell
  cases hfit : vm'.assignable cell.cls c <;>
    simp [findHandler.go, hx, h0, ha, ht, hsz, hcell, hobj, hk, hc, hfit, VmOp.dirties, VmOp.acts]
/-- the rows of a table at a pc, for an object of a class: those ahead are passed, this one takes it -/
def Row (s : State) (args : Array Value) (own : String) (cc : ClassId) (pc : Nat) (takes : Bool) (x : ExceptionTableEntry) : Prop := covers x pc = true ∧ x.catchType ≠ 0 ∧ ∃ (name : String) (cT : ClassId), (Cond.classLink own x.catchType name).before args s = true ∧ s.vm.findClass name = some cT ∧ s.vm.assignable cc cT = takes
theorem row_go {e : Env} {s : State} {args : Array Value} {own : String} {f : JFrame} {a : Addr} {cell : Cell} {l : Launch} (hl : l.admits e) (hown : s.vm.findClass own = some f.method.cls) (hobj : ∀ k, cell.vm ≠ .statics k) (hkc : ∃ k, s.vm.classes[cell.cls]? = some k) {takes : Bool} {x : ExceptionTableEntry} (hr : Row s args own cell.cls f.pc takes x) {vm : Vm} (hw : s.WarmedH vm) :
    ∃ vm', s.WarmedH vm' ∧ ∀ (T : State), T.vm = vm → T.heap[a]? = some cell → ∀ (t : List ExceptionTableEntry) (Q : Handler → Pre) (E : CtlPost) (d : Bool) (acts : List Action), wp (findHandler.go f a (x :: t)) Q E e d acts T ↔ if takes = true then Q (.found x.handlerPc) d acts (T.setVm vm') else wp (findHandler.go f a t) Q E e d acts (T.setVm vm') := by
  obtain ⟨hx, h0, name, cT, hlink, hcT, has⟩ := hr
  have hpl : e.platform.magicAccessors = ({} : Platform).magicAccessors := by rw [hl.platform]
  obtain ⟨c', hc', hcl⟩ := Cond.classLink_spec hown hlink e.platform hpl
  cases hcT.symm.trans hc'
  obtain ⟨dk, _, _, kt, hd, _, _, _, _, hkt, _, hopen⟩ := hcl.here
  have hcl₀ := hw.classLinks hcl
  have hW' : s.WarmedH (vm.noted f.method.cls x.catchType (.cls cT)) := hw.noted hd hopen (State.rightAt_cls hcl)
  obtain ⟨ks, hks⟩ := hkc
  obtain ⟨ks', hks', -⟩ := hW'.alike.2.2 _ _ hks
  obtain ⟨kt', hkt', -⟩ := hW'.alike.2.2 _ _ hkt
  refine ⟨_, hW', fun T hT hcell t Q E d acts => ?_⟩
  subst hT
  have h1 : (T.vm.noted f.method.cls x.catchType (.cls cT)).assignable cell.cls cT = takes := by rw [hW'.alike.assignable]; exact has
  rw [go_cold hx h0 (resolveClass_links e.toSetting hcl₀) (Nat.le_of_eq (Vm.size_note _ _ _ _)) hcell hobj ⟨ks', hks'⟩ ⟨kt', hkt'⟩, h1]
theorem rows_go {e : Env} {s : State} {args : Array Value} {own : String} {f : JFrame} {a : Addr} {cell : Cell} {l : Launch} (hl : l.admits e) (hown : s.vm.findClass own = some f.method.cls) (hobj : ∀ k, cell.vm ≠ .statics k) (hkc : ∃ k, s.vm.classes[cell.cls]? = some k) {x : ExceptionTableEntry} (hr : Row s args own cell.cls f.pc true x) (rs : List ExceptionTableEntry) :
    ∀ (pre : List ExceptionTableEntry), (∀ y ∈ pre, Row s args own cell.cls f.pc false y) → ∀ {vm : Vm}, s.WarmedH vm →
    ∃ vm', s.WarmedH vm' ∧ ∀ (T : State), T.vm = vm → T.heap[a]? = some cell → ∀ (Q : Handler → Pre) (E : CtlPost) (d : Bool) (acts : List Action), wp (findHandler.go f a (pre ++ x :: rs)) Q E e d acts T ↔ Q (.found x.handlerPc) d acts (T.setVm vm') := by
  intro pre
  induction pre with
  | nil =>
    intro _ vm hw
    obtain ⟨vm', hw', h⟩ := row_go (a := a) hl hown hobj hkc hr hw
    refine ⟨vm', hw', fun T hT hc Q E d acts => ?_⟩
    rw [List.nil_append, h T hT hc rs Q E d acts, if_pos rfl]
  | cons y pre ih =>
    intro hp vm hw
    obtain ⟨vm1, hw1, h1⟩ := row_go (a := a) hl hown hobj hkc (hp y List.mem_cons_self) hw
    obtain ⟨vm2, hw2, h2⟩ := ih (fun z hz => hp z (List.mem_cons_of_mem _ hz)) hw1
    refine ⟨vm2, hw2, fun T hT hc Q E d acts => ?_⟩
    rw [List.cons_append, h1 T hT hc _ Q E d acts, if_neg (by decide), h2 (T.setVm vm1) rfl hc Q E d acts]
    exact Iff.rfl
/-- one step: the note of a throw lies on the frame, and the table has a row for it -/
theorem step_cold {e : Env} {s : State} {a : Addr} {f : JFrame} {r : List Frame} {pc : Nat} {vm' : Vm} (hfind : ∀ (Q : Handler → Pre) (E : CtlPost) (d : Bool) (acts : List Action), wp (findHandler f a) Q E e d acts s ↔ Q (.found pc) d acts (s.setVm vm')) :
    (stepThrowing e s a (.java f :: r)).Is ((s.setVm vm').setFrames (.java { f with pc := pc, stack := [.ref a] } :: r)) [] := by
  simp only [stepThrowing, searchFrame, vmDo]
  generalize hr : Sem.go _ e false [] s = res
  obtain ⟨as, rfl, ha⟩ := Sem.eq_ok_of hr (a := Handler.found pc) (s' := s.setVm vm') (acts' := []) (by simp [hfind _ _ _ _])
  exact ⟨rfl, ha⟩
theorem caught_cold {tbl : Tables} {e : Env} {T target : State} {g : JFrame} {c : Code} {below : List Frame} {a : Addr} (h : At T g.method c below) {pc : Nat} {vm' : Vm} (hfind : ∀ (Q : Handler → Pre) (E : CtlPost) (d : Bool) (acts : List Action), wp (findHandler g a) Q E e d acts ((T.setTop g).pushFrame (.throwing a)) ↔ Q (.found pc) d acts (((T.setTop g).pushFrame (.throwing a)).setVm vm'))
    (hrest : Steps tbl e below ((T.setVm vm').setTop { g with pc := pc, stack := [.ref a] }) target) :
    Steps tbl e below ((T.setTop g).pushFrame (.throwing a)) target := by
  obtain ⟨hgo, hw⟩ := h.throwing a
  refine Steps.head hgo hw ?_
  rw [stepThread_throwing (frames_entered h.top _), (step_cold (s := (T.setTop g).pushFrame (.throwing a)) hfind).1]
  obtain ⟨g₀, hg⟩ := Option.isSome_iff_exists.mp h.top
  obtain ⟨r, hr⟩ := State.topJava?_eq_some.mp hg
  have e1 : (((T.setTop g).pushFrame (.throwing a)).setVm vm').setFrames (.java { g with pc := pc, stack := [.ref a] } :: T.frames.tail) = (T.setVm vm').setTop { g with pc := pc, stack := [.ref a] } := by
    have hr' : (T.setVm vm').frames = .java g₀ :: r := hr
    rw [State.setTop_of_frames _ hr', State.pushFrame, State.setTop_of_frames _ hr, hr]
    rw [State.setFrames_setFrames]
    show ((T.setFrames _).setVm vm').setFrames _ = _
    have : ∀ (F F2 : List Frame), ((T.setFrames F).setVm vm').setFrames F2 = (T.setVm vm').setFrames F2 := fun F F2 => by
      have := State.setFrames_setFrames (T.setVm vm') F F2
      exact this
    exact this _ _
  rw [e1]
  exact hrest
