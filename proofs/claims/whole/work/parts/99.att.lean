/-! how an attempt ends -/
def RF1 (R R' : IM) : Prop := (∀ k, k ≠ MO → ¬ (119 ≤ k ∧ k < 136) → k ≠ 140 → R' k = R k) ∧ ∀ j, j ∈ [0, 2, 15, 18, 23, 32, 69, 71] → R' MO j = R MO j
theorem RF1_t {R R' R'' : IM} (h : RF1 R R') (h' : RF1 R' R'') : RF1 R R'' := ⟨fun k z1 z2 z3 => by rw [h'.1 k z1 z2 z3, h.1 k z1 z2 z3], fun j hj => by rw [h'.2 j hj, h.2 j hj]⟩
theorem RF1_0 {R : IM} : RF1 R R := ⟨fun _ _ _ _ => rfl, fun _ _ => rfl⟩
theorem RF1_m {R : IM} {j : Nat} {v : Int32} (h : j ∉ [0, 2, 15, 18, 23, 32, 69, 71]) : RF1 R (up R MO j v) := ⟨fun k z1 _ _ => fu z1, fun i hi => up_ne (Or.inr (fun z => h (z ▸ hi)))⟩
theorem RF1_a {R : IM} {a k : Nat} {v : Int32} (h : (119 ≤ a ∧ a < 136) ∨ a = 140) : RF1 R (up R a k v) := ⟨fun b _ z2 z3 => fu (by omega), fun i _ => by rw [fu (by show 102 ≠ a; omega)]⟩
/-- what an attempt comes to -/
def AT (b m : Nat) (tl : Int32 → Nat → Prop) (R : IM) (C' R' : IM) : Prop := QA (b + 1) tl C' m R' ∧ C' (m + 13) 0 = R' MO 50 ∧ C' m 2 = (if R' MO 50 = 3 then R' MO 66 else -1) ∧ RF1 R R'
/-- a relation moved to states that differ in what it doesn't look at -/
theorem QA_c {b b' : Nat} {tl : Int32 → Nat → Prop} {C C' R R' : IM} {m : Nat} (hb : b ≤ b') (h : QA b tl C m R) (hc : ∀ i, i < 19 → i ≠ 0 → i ≠ 13 → C' (m + i) = C (m + i)) (h0 : C' m 0 = C m 0) (h1 : C' m 1 = C m 1) (h13 : ∀ j, j ≠ 0 → C' (m + 13) j = C (m + 13) j) (hr : ∀ k, 119 ≤ k → k < 136 → k ≠ 133 → R' k = R k) (hj : ∀ j, j ∈ [34, 42, 43, 44, 45, 48, 51, 52, 53, 54, 55, 58, 59, 63] → R' MO j = R MO j) : QA b' tl C' m R' := by
  obtain ⟨q1, q2, q3, q4, q5, q6, q8, q9, qc⟩ := h
  refine ⟨Q1_c q1 (fun i z1 z2 => hc i (by omega) (by omega) (by omega)) (fun k z1 z2 => hr k z1 (by omega) (by omega)) (hj 42 (by decide)) (hj 43 (by decide)), ?_, Q3_c q3 (hc 8 (by decide) (by decide) (by decide)) (hc 9 (by decide) (by decide) (by decide)) (hr _ (by decide) (by decide) (by decide)) (hr _ (by decide) (by decide) (by decide)) (hj 45 (by decide)), Q4_c hb q4 (hc 10 (by decide) (by decide) (by decide)) (hr _ (by decide) (by decide) (by decide)) (hj 48 (by decide)), Q5_c q5 (hc 11 (by decide) (by decide) (by decide)) (hc 12 (by decide) (by decide) (by decide)) (hr _ (by decide) (by decide) (by decide)) (hr _ (by decide) (by decide) (by decide)) (hj 55 (by decide)), Q6_c q6 (hc 14 (by decide) (by decide) (by decide)) (hr _ (by decide) (by decide) (by decide)), Q8_c q8 (by rw [hc 15 (by decide) (by decide) (by decide)]) (by rw [hc 15 (by decide) (by decide) (by decide)]) (hc 16 (by decide) (by decide) (by decide)) (hr _ (by decide) (by decide) (by decide)) (hr _ (by decide) (by decide) (by decide)) (hj 58 (by decide)) (hj 59 (by decide)), Q9_c hb q9 (hc 17 (by decide) (by decide) (by decide)) (hc 18 (by decide) (by decide) (by decide)) (hr _ (by decide) (by decide) (by decide)) (hj 63 (by decide)), ?_⟩
  · unfold Q2 at q2 ⊢
    rw [h0, h1, h13 1 (by decide), h13 2 (by decide), h13 3 (by decide), h13 4 (by decide), h13 5 (by decide), h13 6 (by decide), h13 7 (by decide), hj 34 (by decide), hj 44 (by decide), hj 48 (by decide), hj 51 (by decide), hj 53 (by decide), hj 54 (by decide), hj 45 (by decide), hj 52 (by decide), hj 55 (by decide)]
    exact q2
  · unfold QC at qc ⊢
    rw [hc 15 (by decide) (by decide) (by decide), hc 17 (by decide) (by decide) (by decide)]
    exact qc
/-- an entry more, all else as it was -/
theorem QA_j {b : Nat} {tl : Int32 → Nat → Prop} {C C' R R' : IM} {m : Nat} (h : QA b tl C m R) (q9 : Q9 (b + 1) C' m R') (hc : ∀ i, i < 17 → C' (m + i) = C (m + i)) (h17 : ∀ j, 2 ≤ j → C' (m + 17) j = C (m + 17) j) (hr : ∀ k, k ≠ MO → k ≠ A_entries → R' k = R k) (hj : ∀ j, j ≠ 63 → R' MO j = R MO j) : QA (b + 1) tl C' m R' := by
  obtain ⟨q1, q2, q3, q4, q5, q6, q8, -, qc⟩ := h
  refine ⟨Q1_c q1 (fun i z1 z2 => hc i (by omega)) (fun k z1 z2 => hr k (by show k ≠ 102; omega) (by show k ≠ 134; omega)) (hj 42 (by decide)) (hj 43 (by decide)), ?_, Q3_c q3 (hc 8 (by decide)) (hc 9 (by decide)) (hr _ (by decide) (by decide)) (hr _ (by decide) (by decide)) (hj 45 (by decide)), Q4_c (by omega) q4 (hc 10 (by decide)) (hr _ (by decide) (by decide)) (hj 48 (by decide)), Q5_c q5 (hc 11 (by decide)) (hc 12 (by decide)) (hr _ (by decide) (by decide)) (hr _ (by decide) (by decide)) (hj 55 (by decide)), Q6_c q6 (hc 14 (by decide)) (hr _ (by decide) (by decide)), Q8_c q8 (by rw [hc 15 (by decide)]) (by rw [hc 15 (by decide)]) (hc 16 (by decide)) (hr _ (by decide) (by decide)) (hr _ (by decide) (by decide)) (hj 58 (by decide)) (hj 59 (by decide)), q9, ?_⟩
  · unfold Q2 at q2 ⊢
    have e0 : C' m = C m := hc 0 (by decide)
    rw [e0, hc 13 (by decide), hj 34 (by decide), hj 44 (by decide), hj 48 (by decide), hj 51 (by decide), hj 53 (by decide), hj 54 (by decide), hj 45 (by decide), hj 52 (by decide), hj 55 (by decide)]
    exact q2
  · unfold QC at qc ⊢
    rw [hc 15 (by decide), h17 2 (by decide), h17 3 (by decide)]
    exact qc
theorem mne {m i : Nat} (hm : isMch m) (hi : i < 19) : m + i ≠ 35 ∧ m + i ≠ 36 ∧ m + i ≠ 37 ∧ m + i ≠ 38 ∧ m + i ≠ 39 := by
  rcases hm with rfl | rfl | rfl <;> omega
/-- no rule was asked: wrong -/
theorem end_w {b n m p : Nat} {tl : Int32 → Nat → Prop} {C R : IM} {px kx : Int32} (hm : isMch m) (hb : b ≤ 2000000) (qa : QA b tl C m R) (hbl : C m 2 = -1) (e2 : C 35 2 = px) (e4 : C 35 4 = kx) (e11 : C 35 11 = 0) (e12 : C 35 12 = 0) (e13 : C 35 13 = 0) : ∃ C' R', b_Stp_attempt_68 n m p 2 0 (up C (m + 13) 0 2) = some (0, C') ∧ f_Mod_noteAt px kx 0 0 (up R MO 50 2) = some R' ∧ AT b m tl R C' R' ∧ ¬ R' MO 50 = 0 := by
  have mm := m35 hm
  have qa1 : QA b tl (up C (m + 13) 0 2) m (up R MO 50 2) := QA_c (Nat.le_refl b) qa (fun i z1 z2 z3 => fu (by omega)) (up_o (by omega)) (up_o (by omega)) (fun j hj => up_ne (Or.inr hj)) (fun k z1 z2 z3 => fu (by show k ≠ 102; omega)) (fun j hj => up_ne (Or.inr (fun z => by subst z; revert hj; decide)))
  have g35 : ∀ j, up C (m + 13) 0 2 35 j = C 35 j := fun j => up_o (by omega)
  obtain ⟨C', R', f1, f2, q9, c1, c2, r1, r2⟩ := jn_eq (x4 := 0) (en := 2) (kx := kx) (hx := 0) (px := px) hm qa1.2.2.2.2.2.2.2.1 qa1.2.2.2.2.2.2.2.2 hb (by rw [g35]; exact e2) (by rw [g35]; exact e4) (by rw [g35]; exact e11) (by rw [g35]; exact e12) (by rw [g35]; exact e13) up_self
  refine ⟨C', R', ?_, f2, ⟨QA_j qa1 q9 (fun i hi => c1 _ (mne hm (by omega)).2.2.2.2 (by omega) (by omega)) c2 r1 r2, ?_, ?_, RF1_t (RF1_m (by decide)) ⟨fun k z1 z2 z3 => r1 k z1 (by show k ≠ 134; omega), fun j hj => r2 j (fun z => by subst z; revert hj; decide)⟩⟩, by rw [r2 50 (by decide), up_self]; decide⟩
  · rw [b_Stp_attempt_68, g35, e11, if_pos rfl, b_Stp_attempt_90, f1, Option.bind_some, chk_i (Or.inl rfl)]
  · rw [c1 (m + 13) (mne hm (by omega)).2.2.2.2 (by omega) (by omega), up_self, r2 50 (by decide), up_self]
  · rw [c1 m (mne (i := 0) hm (by omega)).2.2.2.2 (by omega) (by omega), up_o (by omega), hbl, r2 50 (by decide), up_self]
    rfl
/-- a rule was asked, and the instruction isn't done -/
theorem end_n {b n m p kd pl : Nat} {tl : Int32 → Nat → Prop} {C R : IM} {en : Int32} (hm : isMch m) (hb : b ≤ 2000000) (hk : kd < 22) (qa : QA b tl C m R) (hbl : C m 2 = if en = 3 then R MO 68 else -1) (e2 : C 35 2 = nI pl) (e42 : R MO 42 = nI pl) (e4 : C 35 4 = nI kd) (e75 : R MO 75 = nI kd) (e11 : C 35 11 = R MO 67) (n11 : ¬ C 35 11 = 0) (e12 : C 35 12 = 0) (e13 : C 35 13 = 0) (en0 : ¬ en = 0) : ∃ C' R', b_Stp_attempt_68 n m p en 0 (up C (m + 13) 0 en) = some (0, C') ∧ b_Mod_instruct_266 n (up R MO 50 en) = some (0, R') ∧ AT b m tl R C' R' ∧ ¬ R' MO 50 = 0 := by
  have mm := m35 hm
  obtain ⟨C1, hC1⟩ : ∃ z, z = up C (m + 13) 0 en := ⟨_, rfl⟩
  obtain ⟨R1, hR1⟩ : ∃ z, z = up (up R MO 50 en) MO 66 (R MO 68) := ⟨_, rfl⟩
  have g35 : ∀ j, C1 35 j = C 35 j := fun j => by rw [hC1]; exact up_o (by omega)
  have r1m : ∀ j, j ≠ 50 → j ≠ 66 → R1 MO j = R MO j := fun j z1 z2 => by rw [hR1, up_ne (Or.inr z2), up_ne (Or.inr z1)]
  have r1b : ∀ k, k ≠ MO → R1 k = R k := fun k z => by rw [hR1, fu z, fu z]
  have qa1 : QA b tl C1 m R1 := QA_c (Nat.le_refl b) qa (fun i z1 z2 z3 => by rw [hC1, fu (by omega)]) (by rw [hC1, up_o (by omega)]) (by rw [hC1, up_o (by omega)]) (fun j hj => by rw [hC1, up_ne (Or.inr hj)]) (fun k z1 z2 z3 => r1b k (by show k ≠ 102; omega)) (fun j hj => r1m j (fun z => by subst z; revert hj; decide) (fun z => by subst z; revert hj; decide))
  obtain ⟨C2, hC2⟩ : ∃ z, z = up C1 (m + 14) (4 * kd + 3) (C1 (m + 14) (4 * kd + 3) + 1) := ⟨_, rfl⟩
  obtain ⟨R2, hR2⟩ : ∃ z, z = up R1 A_counts (4 * kd + 3) (R1 A_counts (4 * kd + 3) + 1) := ⟨_, rfl⟩
  have qa2 : QA b tl C2 m R2 := by
    obtain ⟨q1, q2, q3, q4, q5, q6, q8, q9, qc⟩ := qa1
    have q6' := Q6_i (k := 4 * kd + 3) (by omega) q6
    rw [← hC2, ← hR2] at q6'
    have cb : ∀ k, k ≠ m + 14 → C2 k = C1 k := fun k z => by rw [hC2, fu z]
    have rb : ∀ k, k ≠ A_counts → R2 k = R1 k := fun k z => by rw [hR2, fu z]
    refine ⟨Q1_c q1 (fun i z1 z2 => cb _ (by omega)) (fun k z1 z2 => rb k (by show k ≠ 135; omega)) (by rw [rb MO (by decide)]) (by rw [rb MO (by decide)]), Q2_c q2 (cb _ (by omega)) (cb _ (by omega)) (rb _ (by decide)), Q3_c q3 (cb _ (by omega)) (cb _ (by omega)) (rb _ (by decide)) (rb _ (by decide)) (by rw [rb MO (by decide)]), Q4_c (Nat.le_refl b) q4 (cb _ (by omega)) (rb _ (by decide)) (by rw [rb MO (by decide)]), Q5_c q5 (cb _ (by omega)) (cb _ (by omega)) (rb _ (by decide)) (rb _ (by decide)) (by rw [rb MO (by decide)]), q6', Q8_c q8 (by rw [cb (m + 15) (by omega)]) (by rw [cb (m + 15) (by omega)]) (cb _ (by omega)) (rb _ (by decide)) (rb _ (by decide)) (by rw [rb MO (by decide)]) (by rw [rb MO (by decide)]), Q9_c (Nat.le_refl b) q9 (cb _ (by omega)) (cb _ (by omega)) (rb _ (by decide)) (by rw [rb MO (by decide)]), ?_⟩
    unfold QC at qc ⊢
    rw [cb _ (by omega), cb (m + 17) (by omega)]
    exact qc
  have h35 : ∀ j, C2 35 j = C 35 j := fun j => by rw [hC2, up_o (by omega), g35]
  have r2m : R2 MO = R1 MO := by rw [hR2, fu (by decide)]
  have r50 : R2 MO 50 = en := by rw [r2m, hR1, up_ne (Or.inr (by decide)), up_self]
  obtain ⟨C', R', f1, f2, q9, c1, c2, r1, r2⟩ := jn_eq (x4 := 0) (en := en) (kx := nI kd) (hx := R MO 67) (px := nI pl) hm qa2.2.2.2.2.2.2.2.1 qa2.2.2.2.2.2.2.2.2 hb (by rw [h35]; exact e2) (by rw [h35]; exact e4) (by rw [h35]; exact e11) (by rw [h35]; exact e12) (by rw [h35]; exact e13) r50
  refine ⟨C', R', ?_, ?_, ⟨QA_j qa2 q9 (fun i hi => c1 _ (mne hm (by omega)).2.2.2.2 (by omega) (by omega)) c2 r1 r2, ?_, ?_, ?_⟩, by rw [r2 50 (by decide), r50]; exact en0⟩
  · rw [← hC1, b_Stp_attempt_68, g35, if_neg n11, if_pos rfl, show (3 : Int32) = nI 3 from rfl, adc (w := 3) hk (by decide) (by rw [g35]; exact e4), Option.bind_some, ← hC2, b_Stp_attempt_90, f1, Option.bind_some, chk_i (Or.inl rfl)]
  · have e4' : (4 : Int32) * nI kd + 3 = nI (4 * kd + 3) := by rw [show (4 : Int32) = nI 4 from rfl, nml]; exact nad (b := 3)
    rw [b_Mod_instruct_266, up_self, if_neg en0, lt, up_ne (Or.inr (show 68 ≠ 50 by decide)), ← hR1, r1m 75 (by decide) (by decide), e75, e4', chk_i (nki (by omega) (by decide)), lt, nkc (by omega), ← hR2, f_Mod_note, r2m, r1m 42 (by decide) (by decide), e42, r1m 75 (by decide) (by decide), e75, r1m 67 (by decide) (by decide), f2, Option.bind_some, Option.bind_some]
  · rw [c1 (m + 13) (mne hm (by omega)).2.2.2.2 (by omega) (by omega), hC2, up_o (by omega), hC1, up_self, r2 50 (by decide), r50]
  · rw [c1 m (mne (i := 0) hm (by omega)).2.2.2.2 (by omega) (by omega), hC2, up_o (by omega), hC1, up_o (by omega), hbl, r2 50 (by decide), r50, r2 66 (by decide), r2m, hR1, up_self]
  · have x1 : RF1 R R1 := by rw [hR1]; exact RF1_t (RF1_m (by decide)) (RF1_m (by decide))
    have x2 : RF1 R1 R2 := by rw [hR2]; exact RF1_a (Or.inl (by decide))
    exact RF1_t x1 (RF1_t x2 ⟨fun k z1 z2 z3 => r1 k z1 (by show k ≠ 134; omega), fun j hj => r2 j (fun z => by subst z; revert hj; decide)⟩)
