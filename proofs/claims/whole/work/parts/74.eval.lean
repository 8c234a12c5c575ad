/-! a rule worked out, on both sides at once: one code at a time -/
def PP (m : Nat) (C R : IM) : Prop := ∃ np, np ≤ 60 ∧ C (m + 13) 7 = nI np ∧ R MO 55 = nI np ∧ ∀ k, k < np → C (m + 11) k = R A_firsts k ∧ C (m + 12) k = R A_seconds k
/-- the frames of the class and of the reference while a rule is worked out -/
def FC (W m : Nat) (C0 C : IM) : Prop := (∀ b, b ≠ W → b ≠ W + 2 → b ≠ m + 11 → b ≠ m + 12 → b ≠ m + 13 → C b = C0 b) ∧ (∀ j, j ≠ 2 → C W j = C0 W j) ∧ ∀ j, j ≠ 7 → C (m + 13) j = C0 (m + 13) j
def FR (R0 R : IM) : Prop := (∀ b, b ≠ MO → b ≠ A_stack → b ≠ A_firsts → b ≠ A_seconds → R b = R0 b) ∧ ∀ j, j ≠ 86 → j ≠ 55 → j ≠ 82 → R MO j = R0 MO j
def NP (m : Nat) (C0 R0 C R : IM) : Prop := C (m + 11) = C0 (m + 11) ∧ C (m + 12) = C0 (m + 12) ∧ C (m + 13) = C0 (m + 13) ∧ R A_firsts = R0 A_firsts ∧ R A_seconds = R0 A_seconds ∧ R MO 55 = R0 MO 55
def ES (W m : Nat) (nm : Int32) (C0 R0 : IM) (h : Nat) (C R : IM) : Prop := C W 2 = nI h ∧ R MO 86 = nI h ∧ (∀ j, j < h → C (W + 2) j = R A_stack j) ∧ FC W m C0 C ∧ FR R0 R ∧ PP m C R ∧ (¬ tbi nm 15 → NP m C0 R0 C R)
/-- cells that lie apart -/
def Wm (W m : Nat) : Prop := W + 2 < m ∨ m + 19 ≤ W
theorem Wm_of {W m : Nat} (hW : isWrk W) (hm : isMch m) : Wm W m := by
  unfold Wm
  rcases hW with rfl | rfl | rfl <;> rcases hm with rfl | rfl | rfl <;> omega
theorem FC_up {W m : Nat} {C0 C : IM} (w : Wm W m) (h : FC W m C0 C) {v : Int32} : FC W m C0 (up C W 2 v) := by
  obtain ⟨h1, h2, h3⟩ := h
  unfold Wm at w
  refine ⟨fun b q1 q2 q3 q4 q5 => ?_, fun j hj => ?_, fun j hj => ?_⟩
  · rw [fu q1]; exact h1 b q1 q2 q3 q4 q5
  · rw [up_ne (Or.inr hj)]; exact h2 j hj
  · rw [up_o (by omega)]; exact h3 j hj
theorem FC_st {W m k : Nat} {C0 C : IM} (w : Wm W m) (h : FC W m C0 C) {v : Int32} : FC W m C0 (up C (W + 2) k v) := by
  obtain ⟨h1, h2, h3⟩ := h
  unfold Wm at w
  refine ⟨fun b q1 q2 q3 q4 q5 => ?_, fun j hj => ?_, fun j hj => ?_⟩
  · rw [fu q2]; exact h1 b q1 q2 q3 q4 q5
  · rw [up_o (by omega)]; exact h2 j hj
  · rw [up_o (by omega)]; exact h3 j hj
theorem FR_up {R0 R : IM} (h : FR R0 R) {v : Int32} : FR R0 (up R MO 86 v) := by
  obtain ⟨h1, h2⟩ := h
  refine ⟨fun b q1 q2 q3 q4 => ?_, fun j q1 q2 q3 => ?_⟩
  · rw [fu q1]; exact h1 b q1 q2 q3 q4
  · rw [up_ne (Or.inr q1)]; exact h2 j q1 q2 q3
theorem FR_st {R0 R : IM} {k : Nat} (h : FR R0 R) {v : Int32} : FR R0 (up R A_stack k v) := by
  obtain ⟨h1, h2⟩ := h
  refine ⟨fun b q1 q2 q3 q4 => ?_, fun j q1 q2 q3 => ?_⟩
  · rw [fu q2]; exact h1 b q1 q2 q3 q4
  · rw [up_o (by decide)]; exact h2 j q1 q2 q3
/-- a store that leaves the pairs alone -/
theorem PP_c {m : Nat} {C R C' R' : IM} (e1 : C' (m + 11) = C (m + 11)) (e2 : C' (m + 12) = C (m + 12)) (e3 : C' (m + 13) = C (m + 13)) (e4 : R' A_firsts = R A_firsts) (e5 : R' A_seconds = R A_seconds) (e6 : R' MO 55 = R MO 55) (h : PP m C R) : PP m C' R' := by
  unfold PP at h ⊢
  rw [e1, e2, e3, e4, e5, e6]
  exact h
theorem NP_c {m : Nat} {C0 R0 C R C' R' : IM} (e1 : C' (m + 11) = C (m + 11)) (e2 : C' (m + 12) = C (m + 12)) (e3 : C' (m + 13) = C (m + 13)) (e4 : R' A_firsts = R A_firsts) (e5 : R' A_seconds = R A_seconds) (e6 : R' MO 55 = R MO 55) (h : NP m C0 R0 C R) : NP m C0 R0 C' R' := by
  unfold NP at h ⊢
  rw [e1, e2, e3, e4, e5, e6]
  exact h
theorem pop_f {W h : Nat} {C : IM} (e : C W 2 = nI (h + 1)) (hh : h < 64) : f_Wrk_pop W C = some (C (W + 2) h, up C W 2 (nI h)) := by
  have e1 : nI (h + 1) - 1 = nI h := nsb (b := 1) (by omega)
  rw [f_Wrk_pop, e, if_neg (show ¬ nI (h + 1) ≤ 0 from fun q => by have := (nle (b := 0) (by omega) (by decide)).mp q; omega), if_pos (show nI (h + 1) ≤ 64 from (nle (b := 64) (by omega) (by decide)).mpr (by omega)), lt, e1, up_self, chk_i (nki (by omega) (by decide)), nkc (by omega), up_o (by omega)]
theorem push_f {W h : Nat} {C : IM} {v : Int32} (e : C W 2 = nI h) (hh : h < 64) : f_Wrk_push W v C = some (up (up C (W + 2) h v) W 2 (nI (h + 1))) := by
  rw [f_Wrk_push, e, if_neg (show ¬ nI h < 0 from fun q => by have := (nlt (b := 0) (by omega) (by decide)).mp q; omega), if_neg (show ¬ (64 : Int32) ≤ nI h from fun q => by have := (nle (a := 64) (by decide) (by omega)).mp q; omega), chk_i (nki (by omega) (by decide))]
  simp only [lt]
  rw [nkc (by omega), up_o (show W ≠ W + 2 by omega), e, nk1, b_Wrk_push_39]
/-- a value put on both stacks -/
theorem ES_push {W m h : Nat} {nm v : Int32} {C0 R0 C R : IM} (w : Wm W m) (e : ES W m nm C0 R0 h C R) : ES W m nm C0 R0 (h + 1) (up (up C (W + 2) h v) W 2 (nI (h + 1))) (up (up R A_stack h v) MO 86 (nI (h + 1))) := by
  obtain ⟨e1, e2, e3, e4, e5, e6, e7⟩ := e
  have w' := w
  unfold Wm at w'
  have z : ∀ b, b ≠ W → b ≠ W + 2 → up (up C (W + 2) h v) W 2 (nI (h + 1)) b = C b := fun b q1 q2 => by rw [fu q1, fu q2]
  have y : ∀ b, b ≠ MO → b ≠ A_stack → up (up R A_stack h v) MO 86 (nI (h + 1)) b = R b := fun b q1 q2 => by rw [fu q1, fu q2]
  have y5 : up (up R A_stack h v) MO 86 (nI (h + 1)) MO 55 = R MO 55 := by rw [up_ne (Or.inr (by decide)), up_o (by decide)]
  refine ⟨up_self, up_self, fun j hj => ?_, FC_up w (FC_st w e4), FR_up (FR_st e5), PP_c (z _ (by omega) (by omega)) (z _ (by omega) (by omega)) (z _ (by omega) (by omega)) (y _ (by decide) (by decide)) (y _ (by decide) (by decide)) y5 e6, fun q => NP_c (z _ (by omega) (by omega)) (z _ (by omega) (by omega)) (z _ (by omega) (by omega)) (y _ (by decide) (by decide)) (y _ (by decide) (by decide)) y5 (e7 q)⟩
  rw [up_o (show W + 2 ≠ W by omega), up_o (show A_stack ≠ MO by decide)]
  by_cases q : j = h
  · rw [q, up_self, up_self]
  · rw [up_ne (Or.inr q), up_ne (Or.inr q)]
    exact e3 j (by omega)
/-- heights set anew, downwards -/
theorem ES_down {W m h k : Nat} {nm : Int32} {C0 R0 C R : IM} (w : Wm W m) (hk : k ≤ h) (e : ES W m nm C0 R0 h C R) : ES W m nm C0 R0 k (up C W 2 (nI k)) (up R MO 86 (nI k)) := by
  obtain ⟨e1, e2, e3, e4, e5, e6, e7⟩ := e
  have w' := w
  unfold Wm at w'
  have z : ∀ b, b ≠ W → up C W 2 (nI k) b = C b := fun b q1 => by rw [fu q1]
  have y : ∀ b, b ≠ MO → up R MO 86 (nI k) b = R b := fun b q1 => by rw [fu q1]
  have y5 : up R MO 86 (nI k) MO 55 = R MO 55 := by rw [up_ne (Or.inr (by decide))]
  refine ⟨up_self, up_self, fun j hj => ?_, FC_up w e4, FR_up e5, PP_c (z _ (by omega)) (z _ (by omega)) (z _ (by omega)) (y _ (by decide)) (y _ (by decide)) y5 e6, fun q => NP_c (z _ (by omega)) (z _ (by omega)) (z _ (by omega)) (y _ (by decide)) (y _ (by decide)) y5 (e7 q)⟩
  rw [up_o (show W + 2 ≠ W by omega), up_o (show A_stack ≠ MO by decide)]
  exact e3 j (by omega)
/-- two states that are alike wherever it matters -/
theorem ES_eq {W m h : Nat} {nm : Int32} {C0 R0 C R C' R' : IM} (e1 : ∀ b, C' b = C b) (e2 : ∀ b, R' b = R b) (e : ES W m nm C0 R0 h C R) : ES W m nm C0 R0 h C' R' := by
  rw [show C' = C from funext e1, show R' = R from funext e2]
  exact e
theorem up_up {I : IM} {a k : Nat} {x y : Int32} : up (up I a k x) a k y = up I a k y := by
  funext b j
  simp only [up_at]
  by_cases q : b = a ∧ j = k
  · rw [if_pos q, if_pos q]
  · rw [if_neg q, if_neg q, if_neg q]
theorem up_id {I : IM} {a k : Nat} {x : Int32} (h : I a k = x) : up I a k x = I := by
  funext b j
  rw [up_at]
  by_cases q : b = a ∧ j = k
  · rw [if_pos q, q.1, q.2, h]
  · rw [if_neg q]
theorem up_sw {I : IM} {a k b j : Nat} {x y : Int32} (h : a ≠ b) : up (up I a k x) b j y = up (up I b j y) a k x := by
  funext c i
  simp only [up_at]
  by_cases q : c = b ∧ i = j
  · rw [if_pos q, if_pos q, if_neg (fun z => h (z.1.symm.trans q.1))]
  · rw [if_neg q, if_neg q]
