/-! what the law's start says, at any later state -/
theorem kx_word {Δ : Dx} {U : State} (h : Kx Δ U) {w : Cond} (hw : w ∈ lw_tbl) (hg : goodWord w = true) (A : Array Value) : w.before A U = true := word_at h.2.2.2.2.1 (good_of_word hg) (h.2.2.2.1 w hw)
theorem kx_castable {Δ : Dx} {U : State} (h : Kx Δ U) {a b : String} (hw : Cond.castable a b ∈ lw_tbl) (A : Array Value) : (Cond.castable a b).before A U = true := by
  have h1 := h.2.2.2.1 _ hw
  rw [← Cond.castable_setVm h.2.2.2.2.1.alike] at h1
  exact va_tabs (u := Δ.s0.setVm U.vm) (A := Δ.a0) rfl rfl h1
theorem kx_laysStatic {Δ : Dx} {U : State} (h : Kx Δ U) {O f d : String} (hw : Cond.laysStatic O f d ∈ lw_tbl) (A : Array Value) : (Cond.laysStatic O f d).before A U = true := by
  obtain ⟨-, -, -, h4, h5, h6, h7⟩ := h
  obtain ⟨c, k, i, fd, a, cell, hc, hf, hst, hsta, hcell, hiss, hcls, hlt, hty⟩ := Cond.laysStatic_spec (h4 _ hw)
  have hal := h5.alike
  obtain ⟨k', hf', he⟩ := State.fieldFound?_setVm hal hf
  have hlt' : a < Δ.ba := by rw [← h6]; exact (Array.getElem?_eq_some_iff.mp hcell).1
  have hcell' : U.heap[a]? = some cell := by rw [h7 a hlt']; exact hcell
  have hf2 : U.fieldFound? O f d = some (c, k', i, fd) := hf'
  have hc2 : U.vm.findClass O = some c := by rw [hal.findClass]; exact hc
  have hs2 : k'.statics = some a := by rw [he]; exact hsta
  have ht2 : k'.staticTypes[fd.slot]? = some fd.type := by rw [he]; exact hty
  simp [Cond.before, Cond.holds, Cond.value, hc2, hf2, hst, hs2, hcell', hiss, hcls, hlt, ht2]
theorem kx_static {Δ : Dx} {U : State} (h : Kx Δ U) {O f d : String} {v : Value} (hw : Cond.laysStatic O f d ∈ lw_tbl) (hi : Cond.initialized O ∈ lw_tbl) (hv : (Term.static O f d).eval Δ.a0 Δ.s0 none [] Δ.s0 = some v) : va_Z O f d v Δ.A U U.heap := by
  obtain ⟨-, -, -, h4, h5, h6, h7⟩ := h
  have z := va_Zof (A := Δ.A) (h4 _ hw) (h4 _ hi) hv (fun a ha => by rw [h6] at ha; exact fun q => absurd ha (Nat.not_lt.mpr q))
  exact (z.moved h5.alike).kept (fun a ha hn => h7 a (by rw [← h6]; exact ha))
theorem kx_isRef {Δ : Dx} {U : State} (h : Kx Δ U) {O f d : String} (hw : Cond.laysStatic O f d ∈ lw_tbl) (hi : Cond.initialized O ∈ lw_tbl) (hr : (Cond.isRef (.static O f d)).before Δ.a0 Δ.s0 = true) (A : Array Value) : (Cond.isRef (.static O f d)).before A U = true := by
  cases hv : (Term.static O f d).eval Δ.a0 Δ.s0 none [] Δ.s0 with
  | none => simp [Cond.before, Cond.holds, Cond.value, hv] at hr
  | some v =>
    obtain ⟨cf, kf, fi, fd, a, cell, h1, h2, h3, h4, h5, h6, h7, h8⟩ := kx_static h hw hi hv
    have he : (Term.static O f d).eval A U none [] U = some v := by
      simp [Term.eval, State.fieldNamed?, h1, h2, h4, h5, h6, h7]
    simp only [Cond.before, Cond.holds, Cond.value, hv] at hr
    simp only [Cond.before, Cond.holds, Cond.value, he]
    exact hr
theorem kx_string {Δ : Dx} {U : State} (h : Kx Δ U) {own tx : String} {k : Nat} (hw : Cond.stringRef own k tx ∈ lw_tbl) (hx : Cond.exactly (.string own k) "java/lang/String" ∈ flatC (Jvm.Cond.and given_1 narrow_1)) : ∃ a, vk_R own k tx a U := by
  have h1 := h.2.2.2.1 _ hw
  have h2 := flat_of_before _ h.2.2.1 _ hx
  cases hv : (Term.string own k).eval Δ.a0 Δ.s0 none [] Δ.s0 with
  | none => simp [Cond.before, Cond.holds, Cond.value, hv] at h2
  | some v =>
    cases v with
    | ref a => exact ⟨a, (vk_R.of h1 hv).warm h.2.2.2.2.1⟩
    | _ => cases hfc : Δ.s0.vm.findClass "java/lang/String" <;> simp [Cond.before, Cond.holds, Cond.value, hv, hfc] at h2
/-- a word of a throw that the start gives -/
def okT : Cond → Bool
  | .isRef (.static "java/lang/Throwable" "UNASSIGNED_STACK" "[Ljava/lang/StackTraceElement;") => true
  | .isRef (.static "java/lang/Throwable" "SUPPRESSED_SENTINEL" "Ljava/util/List;") => true
  | .castable a b => decide (Cond.castable a b ∈ lw_tbl)
  | .laysStatic a b d => decide (Cond.laysStatic a b d ∈ lw_tbl)
  | w => decide (w ∈ lw_tbl) && goodWord w
theorem ts_1 : Cond.laysStatic "java/lang/Throwable" "UNASSIGNED_STACK" "[Ljava/lang/StackTraceElement;" ∈ lw_tbl := by decide +kernel
theorem ts_2 : Cond.laysStatic "java/lang/Throwable" "SUPPRESSED_SENTINEL" "Ljava/util/List;" ∈ lw_tbl := by decide +kernel
theorem ts_3 : Cond.initialized "java/lang/Throwable" ∈ lw_tbl := by decide +kernel
theorem ts_4 : Cond.isRef (.static "java/lang/Throwable" "UNASSIGNED_STACK" "[Ljava/lang/StackTraceElement;") ∈ flatC (Jvm.Cond.and given_1 narrow_1) := by decide +kernel
theorem ts_5 : Cond.isRef (.static "java/lang/Throwable" "SUPPRESSED_SENTINEL" "Ljava/util/List;") ∈ flatC (Jvm.Cond.and given_1 narrow_1) := by decide +kernel
theorem kx_okT {Δ : Dx} {U : State} (h : Kx Δ U) {w : Cond} (hw : okT w = true) (A : Array Value) : w.before A U = true := by
  unfold okT at hw
  split at hw
  · exact kx_isRef h ts_1 ts_3 (flat_of_before _ h.2.2.1 _ ts_4) A
  · exact kx_isRef h ts_2 ts_3 (flat_of_before _ h.2.2.1 _ ts_5) A
  · exact kx_castable h (of_decide_eq_true hw) A
  · exact kx_laysStatic h (of_decide_eq_true hw) A
  · rw [Bool.and_eq_true] at hw
    exact kx_word h (of_decide_eq_true hw.1) hw.2 A
