/-! an attempt that is done -/
set_option maxHeartbeats 2000000 in
theorem end_d {b n m p kd pl : Nat} {tl : Int32 → Nat → Prop} {Cb Rb Ri C1 R1 : IM} {to en : Int32} (hm : isMch m) (hb : b ≤ 2000000) (hk : kd < 22) (hpl : pl < 64) (q5 : Q5 Cb m Rb) (q6 : Q6 Cb m Rb) (q8 : Q8 tl Cb m Rb) (q9 : Q9 b Cb m Rb) (qc : QC Cb m) (pf : PF m Cb Rb C1 R1) (q1 : Q1 C1 m R1) (q2 : Q2 C1 m R1) (q3 : Q3 C1 m R1) (q4 : Q4 (b + 1) C1 m R1) (e2 : Cb 35 2 = nI pl) (e4 : Cb 35 4 = nI kd) (e75 : Rb MO 75 = nI kd) (e11 : Cb 35 11 = Rb MO 67) (n11 : ¬ Cb 35 11 = 0) (e12 : Cb 35 12 = Rb MO 83) (e13 : Cb 35 13 = Rb MO 84) (e3 : Cb 35 3 = Rb A_codeTags pl) (r50 : R1 MO 50 = en) (enn : en = 0 ∨ en = 1) (hbl : Cb m 2 = -1) (fp : f_Mod_perform n Ri = some (to, R1)) (i50 : Ri MO 50 = 0) (i42 : Ri MO 42 = nI pl) (iT : Ri A_codeTags = Rb A_codeTags) : ∃ C' R', b_Stp_attempt_68 n m p en 1 (up (up (up (up (up C1 (m + 6) 8 to) (m + 7) 8 (Cb 35 13)) (m + 13) 0 en) (m + 13) 2 (C1 (m + 13) 2 + 1)) m 1 (Cb 35 3)) = some (1, C') ∧ b_Mod_instruct_266 n Ri = some (1, R') ∧ AT b m tl Rb C' R' := by
  have mm := m35 hm
  obtain ⟨p1, p2, p3, p4⟩ := pf
  obtain ⟨C2, hC2⟩ : ∃ z, z = up (up (up (up (up C1 (m + 6) 8 to) (m + 7) 8 (Cb 35 13)) (m + 13) 0 en) (m + 13) 2 (C1 (m + 13) 2 + 1)) m 1 (Cb 35 3) := ⟨_, rfl⟩
  have c2b : ∀ k, k ≠ m → k ≠ m + 6 → k ≠ m + 7 → k ≠ m + 13 → C2 k = C1 k := fun k z0 z1 z2 z3 => by rw [hC2, fu z0, fu z3, fu z3, fu z2, fu z1]
  have c35 : C2 35 = Cb 35 := by rw [c2b 35 (by omega) (by omega) (by omega) (by omega), p1 35 (by omega) (by omega)]
  have c213 : ∀ j, j ≠ 0 → j ≠ 2 → C2 (m + 13) j = C1 (m + 13) j := fun j z1 z2 => by rw [hC2, fu (by omega), up_ne (Or.inr z2), up_ne (Or.inr z1), fu (by omega), fu (by omega)]
  obtain ⟨C3, hC3⟩ : ∃ z, z = up C2 (m + 14) (4 * kd) (C2 (m + 14) (4 * kd) + 1) := ⟨_, rfl⟩
  have c3b : ∀ k, k ≠ m + 14 → C3 k = C2 k := fun k z => by rw [hC3, fu z]
  obtain ⟨R2, hR2⟩ : ∃ z, z = up R1 MO 42 to := ⟨_, rfl⟩
  obtain ⟨R3, hR3⟩ : ∃ z, z = up R2 A_counts (4 * kd) (R2 A_counts (4 * kd) + 1) := ⟨_, rfl⟩
  have r3b : ∀ k, k ≠ MO → k ≠ A_counts → R3 k = R1 k := fun k z1 z2 => by rw [hR3, fu z2, hR2, fu z1]
  have r3m : ∀ j, j ≠ 42 → R3 MO j = R1 MO j := fun j z => by rw [hR3, fu (by decide), hR2, up_ne (Or.inr z)]
  have bm : ∀ j, j ≠ 42 → j ≠ 45 → j ≠ 48 → j ≠ 50 → j ≠ 52 → R3 MO j = Rb MO j := fun j z1 z2 z3 z4 z5 => by rw [r3m j z1, p4 j z2 z3 z4 z5]
  have bb : ∀ k, k ≠ MO → k ≠ A_counts → ¬ (121 ≤ k ∧ k ≤ 128) → R3 k = Rb k := fun k z1 z2 z3 => by rw [r3b k z1 z2, p3 k z1 z3]
  have cbb : ∀ i, 11 ≤ i → i < 19 → i ≠ 13 → i ≠ 14 → C3 (m + i) = Cb (m + i) := fun i z1 z2 z3 z4 => by rw [c3b _ (by omega), c2b _ (by omega) (by omega) (by omega) (by omega), p1 _ (by omega) (by omega)]
  have q6' : Q6 C3 m R3 := by
    have h1 : Q6 C2 m R2 := Q6_c q6 (by rw [c2b _ (by omega) (by omega) (by omega) (by omega), p1 _ (by omega) (by omega)]) (by rw [hR2, fu (by decide), p3 _ (by decide) (by decide)])
    have h2 := Q6_i (k := 4 * kd) (by omega) h1
    rw [← hC3, ← hR3] at h2
    exact h2
  have q9' : Q9 b C3 m R3 := Q9_c (Nat.le_refl b) q9 (cbb 17 (by decide) (by decide) (by decide) (by decide)) (cbb 18 (by decide) (by decide) (by decide) (by decide)) (bb _ (by decide) (by decide) (by decide)) (bm 63 (by decide) (by decide) (by decide) (by decide) (by decide))
  have qc' : QC C3 m := by
    unfold QC at qc ⊢
    rw [cbb 15 (by decide) (by decide) (by decide) (by decide), cbb 17 (by decide) (by decide) (by decide) (by decide)]
    exact qc
  have h35 : ∀ j, C3 35 j = Cb 35 j := fun j => by rw [c3b 35 (by omega), c35]
  have r350 : R3 MO 50 = en := by rw [r3m 50 (by decide)]; exact r50
  obtain ⟨C', R4, f1, f2, q9n, c1, c2, s1, s2⟩ := jn_eq (x4 := 1) (en := en) (kx := nI kd) (hx := Rb MO 67) (px := nI pl) hm q9' qc' hb (by rw [h35]; exact e2) (by rw [h35]; exact e4) (by rw [h35]; exact e11) (by rw [h35, e12, if_neg (by decide), bm 83 (by decide) (by decide) (by decide) (by decide) (by decide)]) (by rw [h35, e13, if_neg (by decide), bm 84 (by decide) (by decide) (by decide) (by decide) (by decide)]) r350
  have c' : ∀ i, i < 17 → C' (m + i) = C3 (m + i) := fun i hi => c1 _ (mne hm (by omega)).2.2.2.2 (by omega) (by omega)
  obtain ⟨R7, hR7⟩ : ∃ z, z = up (up (up R4 MO 43 (R4 MO 84)) MO 44 (Ri A_codeTags pl)) MO 51 (R4 MO 51 + 1) := ⟨_, rfl⟩
  have r7b : ∀ k, k ≠ MO → R7 k = R4 k := fun k z => by rw [hR7, fu z, fu z, fu z]
  have r7m : ∀ j, j ≠ 43 → j ≠ 44 → j ≠ 51 → R7 MO j = R4 MO j := fun j z1 z2 z3 => by rw [hR7, up_ne (Or.inr z3), up_ne (Or.inr z2), up_ne (Or.inr z1)]
  have rr : ∀ k, k ≠ MO → k ≠ A_entries → k ≠ A_counts → R7 k = R1 k := fun k z1 z2 z3 => by rw [r7b k z1, s1 k z1 z2, r3b k z1 z3]
  have rm : ∀ j, j ≠ 42 → j ≠ 43 → j ≠ 44 → j ≠ 51 → j ≠ 63 → R7 MO j = R1 MO j := fun j z1 z2 z3 z4 z5 => by rw [r7m j z2 z3 z4, s2 j z5, r3m j z1]
  refine ⟨C', R7, ?_, ?_, ⟨?_, ?_, ?_, ?_, ?_, ?_, ?_, ?_, ?_⟩, ?_, ?_, ?_⟩
  · rw [← hC2, b_Stp_attempt_68, c35, if_neg n11, if_neg (by decide), show (0 : Int32) = nI 0 from rfl, adc (w := 0) hk (by decide) (by rw [c35]; exact e4), Option.bind_some, Nat.add_zero (4 * kd), ← hC3, b_Stp_attempt_90, f1, Option.bind_some, chk_i (Or.inr rfl)]
  · have e4' : (4 : Int32) * nI kd = nI (4 * kd) := nml (a := 4)
    have m75 : R2 MO 75 = nI kd := by rw [hR2, up_ne (Or.inr (by decide)), p4 75 (by decide) (by decide) (by decide) (by decide)]; exact e75
    have f2' : f_Mod_noteAt (nI pl) (R3 MO 75) (R3 MO 67) 1 R3 = some R4 := by rw [bm 75 (by decide) (by decide) (by decide) (by decide) (by decide), e75, bm 67 (by decide) (by decide) (by decide) (by decide) (by decide)]; exact f2
    rw [b_Mod_instruct_266, i50, if_pos rfl, i42, chk_i (nki hpl (by decide)), fp, Option.bind_some, lt, ← hR2, m75, e4', chk_i (nki (by omega) (by decide)), lt, nkc (by omega), ← hR3, f2', Option.bind_some]
    simp only [lt]
    rw [nkc (by omega), up_ne (Or.inr (show 51 ≠ 44 by decide)), up_ne (Or.inr (show 51 ≠ 43 by decide)), ← hR7]
  · have z := Q1_pc (v := to) (t := Cb 35 13) q1
    refine Q1_c z (fun i z1 z2 => ?_) (fun k z1 z2 => ?_) ?_ ?_
    · rw [c' i (by omega), c3b _ (by omega), hC2, fu (by omega), fu (by omega), fu (by omega)]
    · rw [rr k (by show k ≠ 102; omega) (by show k ≠ 134; omega) (by show k ≠ 135; omega), fu (by show k ≠ 102; omega), fu (by show k ≠ 102; omega)]
    · rw [r7m 42 (by decide) (by decide) (by decide), s2 42 (by decide), hR3, fu (by decide), hR2, up_self, up_ne (Or.inr (by decide)), up_self]
    · rw [hR7, up_ne (Or.inr (by decide)), up_ne (Or.inr (by decide)), up_self, up_self, s2 84 (by decide), bm 84 (by decide) (by decide) (by decide) (by decide) (by decide), e13]
  · obtain ⟨a0, a1, a2, a3, a4, a5, a6, a7, a8⟩ := q2
    have x0 : C' m = C2 m := by rw [show C' m = C3 m from c' 0 (by decide), c3b m (by omega)]
    have x13 : ∀ j, C' (m + 13) j = C2 (m + 13) j := fun j => by rw [c' 13 (by decide), c3b _ (by omega)]
    refine ⟨?_, ?_, ?_, ?_, ?_, ?_, ?_, ?_, ?_⟩
    · rw [x0, hC2, up_ne (Or.inr (by decide)), fu (by omega), fu (by omega), fu (by omega), fu (by omega), rm 34 (by decide) (by decide) (by decide) (by decide) (by decide)]; exact a0
    · rw [x0, hC2, up_self, hR7, up_ne (Or.inr (by decide)), up_self, e3, iT]
    · rw [x13, c213 1 (by decide) (by decide), rm 48 (by decide) (by decide) (by decide) (by decide) (by decide)]; exact a2
    · rw [x13, hC2, fu (by omega), up_self, hR7, up_self, s2 51 (by decide), r3m 51 (by decide), a3]
    · rw [x13, c213 3 (by decide) (by decide), rm 53 (by decide) (by decide) (by decide) (by decide) (by decide)]; exact a4
    · rw [x13, c213 4 (by decide) (by decide), rm 54 (by decide) (by decide) (by decide) (by decide) (by decide)]; exact a5
    · rw [x13, c213 5 (by decide) (by decide), rm 45 (by decide) (by decide) (by decide) (by decide) (by decide)]; exact a6
    · rw [x13, c213 6 (by decide) (by decide), rm 52 (by decide) (by decide) (by decide) (by decide) (by decide)]; exact a7
    · rw [x13, c213 7 (by decide) (by decide), rm 55 (by decide) (by decide) (by decide) (by decide) (by decide)]; exact a8
  · exact Q3_c q3 (by rw [c' 8 (by decide), c3b _ (by omega), c2b _ (by omega) (by omega) (by omega) (by omega)]) (by rw [c' 9 (by decide), c3b _ (by omega), c2b _ (by omega) (by omega) (by omega) (by omega)]) (rr _ (by decide) (by decide) (by decide)) (rr _ (by decide) (by decide) (by decide)) (rm 45 (by decide) (by decide) (by decide) (by decide) (by decide))
  · exact Q4_c (Nat.le_refl _) q4 (by rw [c' 10 (by decide), c3b _ (by omega), c2b _ (by omega) (by omega) (by omega) (by omega)]) (rr _ (by decide) (by decide) (by decide)) (rm 48 (by decide) (by decide) (by decide) (by decide) (by decide))
  · exact Q5_c q5 (by rw [c' 11 (by decide), cbb 11 (by decide) (by decide) (by decide) (by decide)]) (by rw [c' 12 (by decide), cbb 12 (by decide) (by decide) (by decide) (by decide)]) (by rw [rr _ (by decide) (by decide) (by decide), p3 _ (by decide) (by decide)]) (by rw [rr _ (by decide) (by decide) (by decide), p3 _ (by decide) (by decide)]) (by rw [rm 55 (by decide) (by decide) (by decide) (by decide) (by decide), p4 55 (by decide) (by decide) (by decide) (by decide)])
  · exact Q6_c q6' (c' 14 (by decide)) (by rw [r7b _ (by decide), s1 _ (by decide) (by decide)])
  · exact Q8_c q8 (by rw [c' 15 (by decide), cbb 15 (by decide) (by decide) (by decide) (by decide)]) (by rw [c' 15 (by decide), cbb 15 (by decide) (by decide) (by decide) (by decide)]) (by rw [c' 16 (by decide), cbb 16 (by decide) (by decide) (by decide) (by decide)]) (by rw [rr _ (by decide) (by decide) (by decide), p3 _ (by decide) (by decide)]) (by rw [rr _ (by decide) (by decide) (by decide), p3 _ (by decide) (by decide)]) (by rw [rm 58 (by decide) (by decide) (by decide) (by decide) (by decide), p4 58 (by decide) (by decide) (by decide) (by decide)]) (by rw [rm 59 (by decide) (by decide) (by decide) (by decide) (by decide), p4 59 (by decide) (by decide) (by decide) (by decide)])
  · exact Q9_c (Nat.le_refl _) q9n rfl rfl (r7b _ (by decide)) (r7m 63 (by decide) (by decide) (by decide))
  · unfold QC at qc' ⊢
    rw [c' 15 (by decide), c2 2 (by decide), c2 3 (by decide)]
    exact qc'
  · rw [c' 13 (by decide), c3b _ (by omega), hC2, fu (by omega), up_ne (Or.inr (by decide)), up_self, rm 50 (by decide) (by decide) (by decide) (by decide) (by decide), r50]
  · rw [show C' m = C3 m from c' 0 (by decide), c3b m (by omega), hC2, up_ne (Or.inr (by decide)), fu (by omega), fu (by omega), fu (by omega), fu (by omega), p1 m (by omega) (by omega), hbl, rm 50 (by decide) (by decide) (by decide) (by decide) (by decide), r50, if_neg (by rcases enn with z | z <;> rw [z] <;> decide)]
  · refine ⟨fun k z1 z2 z3 => ?_, fun j hj => ?_⟩
    · rw [rr k z1 (by show k ≠ 134; omega) (by show k ≠ 135; omega), p3 k z1 (by omega)]
    · have x : ∀ i, i ∉ [0, 2, 15, 18, 23, 32, 69, 71] → j ≠ i := fun i hi z => hi (z ▸ hj)
      rw [rm j (x 42 (by decide)) (x 43 (by decide)) (x 44 (by decide)) (x 51 (by decide)) (x 63 (by decide)), p4 j (x 45 (by decide)) (x 48 (by decide)) (x 50 (by decide)) (x 52 (by decide))]
