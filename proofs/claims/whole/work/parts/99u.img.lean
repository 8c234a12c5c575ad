/-! image: the machine that is being made, on both sides -/
def QM (tl : Int32 → Nat → Prop) (m : Nat) (C R : IM) : Prop := QA 0 tl C m R ∧ C (m + 13) 0 = R MO 50 ∧ C m 2 = -1 ∧ R MO 50 = 0
theorem QM_c {tl : Int32 → Nat → Prop} {m : Nat} {C C' R R' : IM} (h : QM tl m C R) (hc : ∀ i, i < 19 → C' (m + i) = C (m + i)) (hr : ∀ k, 119 ≤ k → k < 136 → R' k = R k) (hj : ∀ j, j ∈ [34, 42, 43, 44, 45, 48, 50, 51, 52, 53, 54, 55, 58, 59, 63] → R' MO j = R MO j) : QM tl m C' R' := by
  obtain ⟨q, a, b, c⟩ := h
  have e0 : C' m = C m := hc 0 (by decide)
  have s : ∀ j, j ∈ [34, 42, 43, 44, 45, 48, 51, 52, 53, 54, 55, 58, 59, 63] → j ∈ [34, 42, 43, 44, 45, 48, 50, 51, 52, 53, 54, 55, 58, 59, 63] := by decide
  exact ⟨QA_c (Nat.le_refl _) q (fun i z _ _ => hc i z) (by rw [e0]) (by rw [e0]) (fun j _ => by rw [hc 13 (by decide)]) (fun k z1 z2 _ => hr k z1 z2) (fun j z => hj j (s j z)), by rw [hc 13 (by decide), hj 50 (by decide)]; exact a, by rw [e0]; exact b, by rw [hj 50 (by decide)]; exact c⟩
theorem QM_1 {tl : Int32 → Nat → Prop} {m : Nat} {C C' R R' : IM} (h : QM tl m C R) (h1 : Q1 C' m R') (e0 : C' m = C m) (hc : ∀ i, 8 ≤ i → i < 19 → C' (m + i) = C (m + i)) (hr : ∀ k, 126 ≤ k → k < 136 → R' k = R k) (hj : ∀ j, j ∈ [34, 44, 45, 48, 50, 51, 52, 53, 54, 55, 58, 59, 63] → R' MO j = R MO j) : QM tl m C' R' := by
  obtain ⟨⟨q1, q2, q3, q4, q5, q6, q8, q9, qc⟩, a, b, c⟩ := h
  have e13 : C' (m + 13) = C (m + 13) := hc 13 (by decide) (by decide)
  refine ⟨⟨h1, ?_, Q3_c q3 (hc 8 (by decide) (by decide)) (hc 9 (by decide) (by decide)) (hr _ (by decide) (by decide)) (hr _ (by decide) (by decide)) (hj 45 (by decide)), Q4_c (Nat.le_refl _) q4 (hc 10 (by decide) (by decide)) (hr _ (by decide) (by decide)) (hj 48 (by decide)), Q5_c q5 (hc 11 (by decide) (by decide)) (hc 12 (by decide) (by decide)) (hr _ (by decide) (by decide)) (hr _ (by decide) (by decide)) (hj 55 (by decide)), Q6_c q6 (hc 14 (by decide) (by decide)) (hr _ (by decide) (by decide)), Q8_c q8 (by rw [hc 15 (by decide) (by decide)]) (by rw [hc 15 (by decide) (by decide)]) (hc 16 (by decide) (by decide)) (hr _ (by decide) (by decide)) (hr _ (by decide) (by decide)) (hj 58 (by decide)) (hj 59 (by decide)), Q9_c (Nat.le_refl _) q9 (hc 17 (by decide) (by decide)) (hc 18 (by decide) (by decide)) (hr _ (by decide) (by decide)) (hj 63 (by decide)), ?_⟩, by rw [e13, hj 50 (by decide)]; exact a, by rw [e0]; exact b, by rw [hj 50 (by decide)]; exact c⟩
  · unfold Q2 at q2 ⊢
    rw [e0, e13, hj 34 (by decide), hj 44 (by decide), hj 45 (by decide), hj 48 (by decide), hj 51 (by decide), hj 52 (by decide), hj 53 (by decide), hj 54 (by decide), hj 55 (by decide)]
    exact q2
  · unfold QC at qc ⊢
    rw [hc 15 (by decide) (by decide), hc 17 (by decide) (by decide)]
    exact qc
/-- an instruction's line -/
theorem QM_code {tl : Int32 → Nat → Prop} {m p : Nat} {C R : IM} {v g : Int32} (h : QM tl m C R) : QM tl m (up (up C (m + 1) p v) (m + 2) p g) (up (up R A_code p v) A_codeTags p g) := by
  obtain ⟨a1, a2, a3, a4, a5⟩ := h.1.1
  refine QM_1 h ⟨fun k hk => ?_, fun k hk => ?_, fun k hk => ?_, ?_, ?_⟩ (by rw [fu (by omega), fu (by omega)]) (fun i z1 z2 => by rw [fu (by omega), fu (by omega)]) (fun k z1 z2 => by rw [fu (by show k ≠ 120; omega), fu (by show k ≠ 119; omega)]) (fun j hj => by rw [fu (by decide), fu (by decide)])
  · rw [fu (show m + 1 ≠ m + 2 by omega), fu (show A_code ≠ A_codeTags by decide)]
    by_cases e : k = p
    · rw [e, up_self, up_self, up_self, up_self]; exact ⟨rfl, rfl⟩
    · simp only [up_ne (Or.inr e)]
      exact a1 k hk
  · rw [fu (by omega), fu (by omega), fu (show m + 4 ≠ m + 2 by omega), fu (show m + 4 ≠ m + 1 by omega), fu (show m + 5 ≠ m + 2 by omega), fu (show m + 5 ≠ m + 1 by omega), fu (by decide), fu (by decide), fu (show A_held ≠ A_codeTags by decide), fu (show A_held ≠ A_code by decide), fu (show A_owners ≠ A_codeTags by decide), fu (show A_owners ≠ A_code by decide)]
    exact a2 k hk
  · rw [fu (by omega), fu (by omega), fu (show m + 7 ≠ m + 2 by omega), fu (show m + 7 ≠ m + 1 by omega), fu (by decide), fu (by decide), fu (show A_registerTags ≠ A_codeTags by decide), fu (show A_registerTags ≠ A_code by decide)]
    exact a3 k hk
  · rw [fu (by omega), fu (by omega), fu (by decide), fu (by decide)]; exact a4
  · rw [fu (by omega), fu (by omega), fu (by decide), fu (by decide)]; exact a5
theorem QM_word {tl : Int32 → Nat → Prop} {m p : Nat} {C R : IM} {v g o : Int32} (h : QM tl m C R) : QM tl m (up (up (up C (m + 3) p v) (m + 4) p g) (m + 5) p o) (up (up (up R A_ints p v) A_held p g) A_owners p o) := by
  obtain ⟨a1, a2, a3, a4, a5⟩ := h.1.1
  have c3 : ∀ b, b ≠ m + 3 → b ≠ m + 4 → b ≠ m + 5 → (up (up (up C (m + 3) p v) (m + 4) p g) (m + 5) p o) b = C b := fun b z1 z2 z3 => by rw [fu z3, fu z2, fu z1]
  have r3 : ∀ b, b ≠ 121 → b ≠ 122 → b ≠ 123 → (up (up (up R A_ints p v) A_held p g) A_owners p o) b = R b := fun b z1 z2 z3 => by rw [fu z3, fu z2, fu z1]
  refine QM_1 h ⟨fun k hk => ?_, fun k hk => ?_, fun k hk => ?_, ?_, ?_⟩ (c3 _ (by omega) (by omega) (by omega)) (fun i z1 z2 => c3 _ (by omega) (by omega) (by omega)) (fun k z1 z2 => r3 _ (by omega) (by omega) (by omega)) (fun j hj => by rw [r3 _ (by decide) (by decide) (by decide)])
  · rw [c3 _ (by omega) (by omega) (by omega), c3 (m + 2) (by omega) (by omega) (by omega), r3 _ (by decide) (by decide) (by decide), r3 A_codeTags (by decide) (by decide) (by decide)]
    exact a1 k hk
  · rw [fu (show m + 3 ≠ m + 5 by omega), fu (show m + 3 ≠ m + 4 by omega), fu (show m + 4 ≠ m + 5 by omega), fu (show A_ints ≠ A_owners by decide), fu (show A_ints ≠ A_held by decide), fu (show A_held ≠ A_owners by decide)]
    by_cases e : k = p
    · rw [e, up_self, up_self, up_self, up_self, up_self, up_self]; exact ⟨rfl, rfl, rfl⟩
    · simp only [up_ne (Or.inr e)]
      exact a2 k hk
  · rw [c3 _ (by omega) (by omega) (by omega), c3 (m + 7) (by omega) (by omega) (by omega), r3 _ (by decide) (by decide) (by decide), r3 A_registerTags (by decide) (by decide) (by decide)]
    exact a3 k hk
  · rw [c3 _ (by omega) (by omega) (by omega), r3 _ (by decide) (by decide) (by decide)]; exact a4
  · rw [c3 _ (by omega) (by omega) (by omega), r3 _ (by decide) (by decide) (by decide)]; exact a5
theorem QM_reg {tl : Int32 → Nat → Prop} {m p : Nat} {C R : IM} {v g : Int32} (hp : p < 8) (h : QM tl m C R) : QM tl m (up (up C (m + 6) p v) (m + 7) p g) (up (up R A_registers p v) A_registerTags p g) := by
  obtain ⟨a1, a2, a3, a4, a5⟩ := h.1.1
  have c3 : ∀ b, b ≠ m + 6 → b ≠ m + 7 → (up (up C (m + 6) p v) (m + 7) p g) b = C b := fun b z1 z2 => by rw [fu z2, fu z1]
  have r3 : ∀ b, b ≠ 124 → b ≠ 125 → (up (up R A_registers p v) A_registerTags p g) b = R b := fun b z1 z2 => by rw [fu z2, fu z1]
  refine QM_1 h ⟨fun k hk => ?_, fun k hk => ?_, fun k hk => ?_, ?_, ?_⟩ (c3 _ (by omega) (by omega)) (fun i z1 z2 => c3 _ (by omega) (by omega)) (fun k z1 z2 => r3 _ (by omega) (by omega)) (fun j hj => by rw [r3 _ (by decide) (by decide)])
  · rw [c3 _ (by omega) (by omega), c3 (m + 2) (by omega) (by omega), r3 _ (by decide) (by decide), r3 A_codeTags (by decide) (by decide)]
    exact a1 k hk
  · rw [c3 _ (by omega) (by omega), c3 (m + 4) (by omega) (by omega), c3 (m + 5) (by omega) (by omega), r3 _ (by decide) (by decide), r3 A_held (by decide) (by decide), r3 A_owners (by decide) (by decide)]
    exact a2 k hk
  · rw [fu (show m + 6 ≠ m + 7 by omega), fu (show A_registers ≠ A_registerTags by decide)]
    by_cases e : k = p
    · rw [e, up_self, up_self, up_self, up_self]; exact ⟨rfl, rfl⟩
    · simp only [up_ne (Or.inr e)]
      exact a3 k hk
  · rw [fu (by omega), up_ne (Or.inr (by omega)), r3 _ (by decide) (by decide)]; exact a4
  · rw [up_ne (Or.inr (by omega)), fu (by omega), r3 _ (by decide) (by decide)]; exact a5
theorem QM_pc {tl : Int32 → Nat → Prop} {m : Nat} {C R : IM} {v g : Int32} (h : QM tl m C R) : QM tl m (up (up C (m + 6) 8 v) (m + 7) 8 g) (up (up R MO 42 v) MO 43 g) := by
  obtain ⟨a1, a2, a3, a4, a5⟩ := h.1.1
  have c3 : ∀ b, b ≠ m + 6 → b ≠ m + 7 → (up (up C (m + 6) 8 v) (m + 7) 8 g) b = C b := fun b z1 z2 => by rw [fu z2, fu z1]
  have r3 : ∀ b, b ≠ MO → (up (up R MO 42 v) MO 43 g) b = R b := fun b z1 => by rw [fu z1, fu z1]
  refine QM_1 h ⟨fun k hk => ?_, fun k hk => ?_, fun k hk => ?_, ?_, ?_⟩ (c3 _ (by omega) (by omega)) (fun i z1 z2 => c3 _ (by omega) (by omega)) (fun k z1 z2 => r3 _ (by show k ≠ 102; omega)) (fun j hj => by rw [up_ne (Or.inr (fun z => by subst z; revert hj; decide)), up_ne (Or.inr (fun z => by subst z; revert hj; decide))])
  · rw [c3 _ (by omega) (by omega), c3 (m + 2) (by omega) (by omega), r3 _ (by decide), r3 A_codeTags (by decide)]
    exact a1 k hk
  · rw [c3 _ (by omega) (by omega), c3 (m + 4) (by omega) (by omega), c3 (m + 5) (by omega) (by omega), r3 _ (by decide), r3 A_held (by decide), r3 A_owners (by decide)]
    exact a2 k hk
  · have z : k ≠ 8 := by omega
    simp only [up_ne (Or.inr z)]
    rw [r3 _ (by decide), r3 A_registerTags (by decide)]
    exact a3 k hk
  · rw [fu (by omega), up_self, up_ne (Or.inr (by decide)), up_self]
  · rw [up_self, up_self]
theorem QM_cl {tl : Int32 → Nat → Prop} {m : Nat} {C R : IM} {v : Int32} (h : QM tl m C R) : QM tl m (up C m 0 v) (up R MO 34 v) := by
  obtain ⟨⟨q1, q2, q3, q4, q5, q6, q8, q9, qc⟩, a, b, c⟩ := h
  have cc : ∀ i, 1 ≤ i → (up C m 0 v) (m + i) = C (m + i) := fun i z => fu (by omega)
  have rr : ∀ b, b ≠ MO → (up R MO 34 v) b = R b := fun b z => fu z
  have rj : ∀ j, j ≠ 34 → (up R MO 34 v) MO j = R MO j := fun j z => up_ne (Or.inr z)
  refine ⟨⟨Q1_c q1 (fun i z1 z2 => cc i z1) (fun k z1 z2 => rr k (by show k ≠ 102; omega)) (rj _ (by decide)) (rj _ (by decide)), ?_, Q3_c q3 (cc 8 (by decide)) (cc 9 (by decide)) (rr _ (by decide)) (rr _ (by decide)) (rj 45 (by decide)), Q4_c (Nat.le_refl _) q4 (cc 10 (by decide)) (rr _ (by decide)) (rj 48 (by decide)), Q5_c q5 (cc 11 (by decide)) (cc 12 (by decide)) (rr _ (by decide)) (rr _ (by decide)) (rj 55 (by decide)), Q6_c q6 (cc 14 (by decide)) (rr _ (by decide)), Q8_c q8 (by rw [cc 15 (by decide)]) (by rw [cc 15 (by decide)]) (cc 16 (by decide)) (rr _ (by decide)) (rr _ (by decide)) (rj 58 (by decide)) (rj 59 (by decide)), Q9_c (Nat.le_refl _) q9 (cc 17 (by decide)) (cc 18 (by decide)) (rr _ (by decide)) (rj 63 (by decide)), ?_⟩, by rw [cc 13 (by decide), rj 50 (by decide)]; exact a, by rw [up_ne (Or.inr (by decide))]; exact b, by rw [rj 50 (by decide)]; exact c⟩
  · obtain ⟨y0, y1, y2⟩ := q2
    refine ⟨by rw [up_self, up_self], by rw [up_ne (Or.inr (by decide)), rj 44 (by decide)]; exact y1, ?_⟩
    rw [cc 13 (by decide), rj 45 (by decide), rj 48 (by decide), rj 51 (by decide), rj 52 (by decide), rj 53 (by decide), rj 54 (by decide), rj 55 (by decide)]
    exact y2
  · unfold QC at qc ⊢
    rw [cc 15 (by decide), cc 17 (by decide)]
    exact qc
theorem QM_inp {tl : Int32 → Nat → Prop} {m p : Nat} {C R : IM} {v g : Int32} (hp : p < 16) (e : R MO 45 = nI p) (h : QM tl m C R) : QM tl m (up (up (up C (m + 8) p v) (m + 9) p g) (m + 13) 5 (nI (p + 1))) (up (up (up R A_inputValues p v) A_inputTags p g) MO 45 (nI (p + 1))) := by
  obtain ⟨⟨q1, q2, ⟨q31, q32, q33⟩, q4, q5, q6, q8, q9, qc⟩, a, b, c⟩ := h
  have cc : ∀ b, b ≠ m + 8 → b ≠ m + 9 → b ≠ m + 13 → (up (up (up C (m + 8) p v) (m + 9) p g) (m + 13) 5 (nI (p + 1))) b = C b := fun b z1 z2 z3 => by rw [fu z3, fu z2, fu z1]
  have c13 : ∀ j, j ≠ 5 → (up (up (up C (m + 8) p v) (m + 9) p g) (m + 13) 5 (nI (p + 1))) (m + 13) j = C (m + 13) j := fun j z => by rw [up_ne (Or.inr z), fu (by omega), fu (by omega)]
  have rr : ∀ b, b ≠ MO → b ≠ 126 → b ≠ 127 → (up (up (up R A_inputValues p v) A_inputTags p g) MO 45 (nI (p + 1))) b = R b := fun b z1 z2 z3 => by rw [fu z1, fu z3, fu z2]
  have rj : ∀ j, j ≠ 45 → (up (up (up R A_inputValues p v) A_inputTags p g) MO 45 (nI (p + 1))) MO j = R MO j := fun j z => by rw [up_ne (Or.inr z), fu (by decide), fu (by decide)]
  refine ⟨⟨Q1_c q1 (fun i z1 z2 => cc _ (by omega) (by omega) (by omega)) (fun k z1 z2 => rr k (by show k ≠ 102; omega) (by omega) (by omega)) (rj _ (by decide)) (rj _ (by decide)), ?_, ⟨?_, ?_, fun k hk => ?_⟩, Q4_c (Nat.le_refl _) q4 (cc _ (by omega) (by omega) (by omega)) (rr _ (by decide) (by decide) (by decide)) (rj 48 (by decide)), Q5_c q5 (cc _ (by omega) (by omega) (by omega)) (cc _ (by omega) (by omega) (by omega)) (rr _ (by decide) (by decide) (by decide)) (rr _ (by decide) (by decide) (by decide)) (rj 55 (by decide)), Q6_c q6 (cc _ (by omega) (by omega) (by omega)) (rr _ (by decide) (by decide) (by decide)), Q8_c q8 (by rw [cc _ (by omega) (by omega) (by omega)]) (by rw [cc _ (by omega) (by omega) (by omega)]) (cc _ (by omega) (by omega) (by omega)) (rr _ (by decide) (by decide) (by decide)) (rr _ (by decide) (by decide) (by decide)) (rj 58 (by decide)) (rj 59 (by decide)), Q9_c (Nat.le_refl _) q9 (cc _ (by omega) (by omega) (by omega)) (cc _ (by omega) (by omega) (by omega)) (rr _ (by decide) (by decide) (by decide)) (rj 63 (by decide)), ?_⟩, by rw [c13 0 (by decide), rj 50 (by decide)]; exact a, by rw [cc m (by omega) (by omega) (by omega)]; exact b, by rw [rj 50 (by decide)]; exact c⟩
  · obtain ⟨y0, y1, y2, y3, y4, y5, y6, y7, y8⟩ := q2
    refine ⟨by rw [cc m (by omega) (by omega) (by omega), rj 34 (by decide)]; exact y0, by rw [cc m (by omega) (by omega) (by omega), rj 44 (by decide)]; exact y1, by rw [c13 1 (by decide), rj _ (by decide)]; exact y2, by rw [c13 _ (by decide), rj _ (by decide)]; exact y3, by rw [c13 _ (by decide), rj _ (by decide)]; exact y4, by rw [c13 _ (by decide), rj _ (by decide)]; exact y5, by rw [up_self, up_self], by rw [c13 _ (by decide), rj _ (by decide)]; exact y7, by rw [c13 _ (by decide), rj _ (by decide)]; exact y8⟩
  · rw [up_self, nI_toInt (by omega)]; omega
  · rw [up_self, nI_toInt (by omega)]; omega
  · rw [up_self, nI_toInt (by omega)] at hk
    rw [fu (show m + 8 ≠ m + 13 by omega), fu (show m + 8 ≠ m + 9 by omega), fu (show m + 9 ≠ m + 13 by omega), fu (show A_inputValues ≠ MO by decide), fu (show A_inputValues ≠ A_inputTags by decide), fu (show A_inputTags ≠ MO by decide)]
    by_cases z : k = p
    · rw [z, up_self, up_self, up_self, up_self]; exact ⟨rfl, rfl⟩
    · simp only [up_ne (Or.inr z)]
      exact q33 k (by rw [e, nI_toInt (by omega)]; omega)
  · unfold QC at qc ⊢
    rw [cc (m + 15) (by omega) (by omega) (by omega), cc (m + 17) (by omega) (by omega) (by omega)]
    exact qc
