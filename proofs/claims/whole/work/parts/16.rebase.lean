/-! a walk seen as begun just here: what it has written and made so far is old -/
theorem rebase {p : Program} {l : Launch} {e : Env} {R : Room} {s : State} {m : MethodId} {args : Array Value} {below : List Frame} {meth : Method} {c : Code} {T : State} {locs : List Loc} {cells slots : Nat}
    (X : Stand p l e R s m args below meth c T locs cells slots) (hc : cells ≤ R.cells) (hs : slots ≤ R.slots) :
    Stand p l e { R with cells := R.cells - cells, slots := R.slots - slots } (T.setFrames (.invoking m args :: below)) m args below meth c T [] 0 0 := by
  obtain ⟨g₀, hfr⟩ := X.frames_eq
  have hcur : T.cur < T.threads.size := State.cur_lt_of_frames hfr
  have hF : (T.setFrames (.invoking m args :: below)).frames = .invoking m args :: below := State.frames_setFrames _ hcur
  have hal := X.warmed.alike
  have hm' : (T.setFrames (.invoking m args :: below)).vm.method? m = some meth := X.method'
  obtain ⟨r1, r2, r3, r4⟩ := State.hasRoom_stack X.room
  have r5 := State.hasRoom_real X.room
  have r6 := State.hasRoom_plain X.room
  have hU : (T.setFrames (.invoking m args :: below)).localsInUse = s.localsInUse := by
    rw [State.localsInUse_invoking hF hm' X.code, State.localsInUse_invoking X.frames X.method X.code]
  refine ⟨X.admits, X.cas, X.clock, hF, ?_, ?_, hm', X.code, X.here, X.tail, State.WarmedH.refl _, ?_, ?_, ?_⟩
  · refine State.hasRoom_of ?_ ?_ ?_ ?_ ?_ ?_ ?_
    · rw [State.stackBytes_setFrames, X.bytes]; exact r6
    · rw [hF, ← X.frames]; exact r1
    · rw [hU]; exact r3
    · have := X.cellsAbove (n := R.cells - cells) (by omega)
      exact this
    · have := X.slotsAbove (n := R.slots - slots) (by omega)
      exact this
    · exact X.book
    · rw [hU]; exact r5
  · have h := X.hears
    have e1 : ∀ q, (T.setFrames (.invoking m args :: below)).code? q = s.code? q := fun q => by
      rw [State.code?_eq, State.code?_eq]
      show (T.vm.method? q).bind _ = _
      rw [hal.method?]
    unfold State.hears at h ⊢
    split
    · next g r hb => simp only [e1]; exact h
    · rfl
    · rfl
    · next h1 h2 h3 =>
      show (T.vm.method? m).any _ = true
      rw [hal.method?]
      split at h
      · next g r => exact absurd rfl (h1 g r)
      · next n r => exact absurd rfl (h2 n r)
      · next n r => exact absurd rfl (h3 n r)
      · exact h
  · rw [State.stackLimits_setFrames]
  · rw [State.stackBytes_setFrames]
  · obtain ⟨t, ht, -⟩ := State.frames_cons hF
    have h := (State.sameButNew.refl (T.setFrames (.invoking m args :: below)) ht).setFrames T.frames (State.cur_lt_of_frames hF)
    rw [State.setFrames_setFrames] at h
    obtain ⟨t2, ht2, -⟩ := State.frames_cons hfr
    rw [State.setFrames_self ht2] at h
    exact h
