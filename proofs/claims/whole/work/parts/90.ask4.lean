/-! a rule is asked: all in one -/
set_option maxHeartbeats 2000000 in
theorem ask_m {A : AP} {p q n m kd cz pz : Nat} {tl : Int32 → Nat → Prop} {vl : Nat → Int32} {dt dw : Int32} {C R C2 R4 : IM} (as : AS A p q n m kd tl vl dt dw C R) (hb : (aNm A q).toInt < 32768) (fC : f_Stp_ask n m p C = Option.bind (f_Wrk_workOut n 36 p (nI kd) m (up C2 35 11 2)) fun v17 => f_Rng_add (m + 15) 37 v17) (fR : f_Mod_ask n R = l_Mod_ask_124 n 1 (nI q) (-1) (nI cz) R4) (cb : ∀ b, b ≠ m + 13 → b ≠ m + 14 → C2 b = C b) (c13 : ∀ j, j ≠ 3 → C2 (m + 13) j = C (m + 13) j) (c3 : C2 (m + 13) 3 = R4 MO 53) (rb : ∀ b, b ≠ MO → b ≠ 133 → b ≠ 135 → R4 b = R b) (rm : ∀ j, j ≠ 53 → j ≠ 67 → R4 MO j = R MO j) (r67 : R4 MO 67 = 2) (q6' : Q6 C2 m R4) (k1 : R4 133 0 = nI kd) (kq : ∀ j, j < 15 → C2 37 (10 + j) = R4 133 (1 + j)) (hcz : cz ≤ 8) (hpz : pz < 8) (h58 : R4 MO 58 = nI cz) (h59 : R4 MO 59 = nI pz) (hpc : cz < 8 → pz = cz) (hc0 : C2 (m + 15) 0 = nI cz) (hc1 : C2 (m + 15) 1 = nI (if cz = 8 then pz else 0)) (new : ∀ Q, Q < cz → ¬ LkR R4 Q) : ∃ C' R', f_Stp_ask n m p C = some C' ∧ f_Mod_ask n R = some R' ∧ AK A q m tl (dfl dt (R MO 43) dw) C R C' R' := by
  obtain ⟨hn, hm, hp, wf, pc, pr, hq, hk, e, k4, k75, h69, hnv, r0, rq, h1, h2, ow, q2, q5, q6, q8, qc, htl, hat⟩ := id as
  have w := Wm_of (Or.inl rfl : isWrk 36) hm
  have w' := w
  unfold Wm at w'
  have m35 : m + 19 ≤ 35 ∨ 38 < m := by rcases hm with rfl | rfl | rfl <;> omega
  have g0 := (wf.2.2.2.2.2.2.2.2.1 q hq).1
  have nb15 : ¬ tbi (aNm A q) 15 := by
    unfold tbi
    have : aNm A q >>> (nI 15 &&& 31) = 0 := (sh15 g0).mpr hb
    rw [this]
    decide
  obtain ⟨C3, hC3⟩ : ∃ z, z = up C2 35 11 2 := ⟨_, rfl⟩
  obtain ⟨C4, R5, f1, f2, fc, fr, pp, np, dd, out⟩ := ask_w (C := C3) (R := R4) as (fun b z1 z2 z3 => by rw [hC3, fu z1, cb b z2 z3]) (by rw [hC3, up_o (by omega), c13 7 (by decide)]) rb (fun j z1 z2 z3 => rm j z1 z3)
  obtain ⟨n1, n2, n3, n4, n5, n6⟩ := np nb15
  have c4b : ∀ b, ¬ (35 ≤ b ∧ b ≤ 38) → b ≠ m + 11 → b ≠ m + 12 → b ≠ m + 13 → C4 b = C2 b := fun b z1 z2 z3 z4 => by rw [fc.1 b (by omega) (by omega) (by omega) z2 z3 z4, hC3, fu (by omega)]
  have c35 : ∀ j, C4 35 j = up C2 35 11 2 35 j := fun j => by rw [fc.1 35 (by decide) (by decide) (by decide) (by omega) (by omega) (by omega), hC3]
  have r5b : ∀ b, b ≠ MO → b ≠ 129 → b ≠ 130 → b ≠ 140 → R5 b = R4 b := fun b z1 z2 z3 z4 => fr.1 b z1 z4 z2 z3
  have r5m : ∀ j, ¬ (82 ≤ j ∧ j ≤ 86) → j ≠ 55 → j ≠ 68 → R5 MO j = R4 MO j := fr.2
  have q2c : Q2 C3 m R4 := by
    obtain ⟨a0, a1, a2, a3, a4, a5, a6, a7, a8⟩ := q2
    rw [hC3]
    refine ⟨?_, ?_, ?_, ?_, ?_, ?_, ?_, ?_, ?_⟩
    · rw [up_o (by omega), cb m (by omega) (by omega), rm 34 (by decide) (by decide)]; exact a0
    · rw [up_o (by omega), cb m (by omega) (by omega), rm 44 (by decide) (by decide)]; exact a1
    · rw [up_o (by omega), c13 1 (by decide), rm 48 (by decide) (by decide)]; exact a2
    · rw [up_o (by omega), c13 2 (by decide), rm 51 (by decide) (by decide)]; exact a3
    · rw [up_o (by omega)]; exact c3
    · rw [up_o (by omega), c13 4 (by decide), rm 54 (by decide) (by decide)]; exact a5
    · rw [up_o (by omega), c13 5 (by decide), rm 45 (by decide) (by decide)]; exact a6
    · rw [up_o (by omega), c13 6 (by decide), rm 52 (by decide) (by decide)]; exact a7
    · rw [up_o (by omega), c13 7 (by decide), rm 55 (by decide) (by decide)]; exact a8
  have c15 : C4 (m + 15) = C2 (m + 15) := c4b _ (by omega) (by omega) (by omega) (by omega)
  have c15' : C2 (m + 15) = C (m + 15) := cb _ (by omega) (by omega)
  obtain ⟨C5, fA, d1, d2, d3, d4, d5, d6⟩ := radd (x0 := m + 15) (x1 := 37) (M := 8) (w := 25) (cz := cz) (fz := if cz = 8 then pz else 0) (C := C4) (by rw [c15, c15']; exact qc.1) (by rw [c15, c15']; exact qc.2.1) (by rw [c15]; exact hc0) (by rw [c15]; exact hc1) (by decide) (by decide) (by decide) hcz (by split <;> omega) (ln_16 hm) rfl (by omega) (by omega)
  have erow : (if cz = 8 then (if cz = 8 then pz else 0) else ((if cz = 8 then pz else 0) + cz) % 8) = pz := by
    by_cases z : cz = 8
    · rw [if_pos z, if_pos z]
    · have := hpc (by omega)
      rw [if_neg z, if_neg z, Nat.zero_add, Nat.mod_eq_of_lt (by omega), this]
  rw [erow] at d5 d6
  have e1x : (if cz = 8 then ((if cz = 8 then pz else 0) + 1) % 8 else (if cz = 8 then pz else 0)) = (if cz = 8 then (pz + 1) % 8 else 0) := by
    by_cases z : cz = 8
    · rw [if_pos z, if_pos z, if_pos z]
    · rw [if_neg z, if_neg z, if_neg z]
  rw [e1x] at d3
  obtain ⟨R6, fW, s1, s2, s3, s4, s5, s6, s7, s8, s9, s10⟩ := aw (n := n) (R := R5) hn hpz hcz (by rw [r5m 59 (by decide) (by decide) (by decide)]; exact h59) (by rw [r5m 58 (by decide) (by decide) (by decide)]; exact h58)
  have q84 : Q8 tl C4 m R5 := Q8_c q8 (by rw [c15, c15']) (by rw [c15, c15']) (by rw [c4b _ (by omega) (by omega) (by omega) (by omega), cb _ (by omega) (by omega)]) (by rw [r5b _ (by decide) (by decide) (by decide) (by decide), rb _ (by decide) (by decide) (by decide)]) (by rw [r5b _ (by decide) (by decide) (by decide) (by decide), rb _ (by decide) (by decide) (by decide)]) (by rw [r5m 58 (by decide) (by decide) (by decide), rm 58 (by decide) (by decide)]) (by rw [r5m 59 (by decide) (by decide) (by decide), rm 59 (by decide) (by decide)])
  have c370 : C4 37 0 = nI kd := by rw [fc.2.2 0 (by omega), hC3, up_o (by decide), cb 37 (by omega) (by omega)]; exact r0
  have x2 := sfl wf (show q + 1 ≤ aNr A by omega)
  have out' : (C4 37 1 = 0 ∧ R5 MO 82 = 0 ∧ C4 37 5 = -1 ∧ ∀ j, j < 3 → (aTe A q (51 + j) → C4 37 (2 + j) = R5 MO (83 + j)) ∧ (¬ aTe A q (51 + j) → C4 37 (2 + j) = 0)) ∨ (C4 37 1 = 3 ∧ R5 MO 82 = 3 ∧ (∀ j, j < 3 → C4 37 (2 + j) = 0) ∧ C4 37 5 = R5 MO 68) := by
    rcases out with ⟨o1, o2, o3, o4⟩ | ⟨o1, o2, o3, s, o4, o5, o6, o7⟩ | ⟨o0, -⟩
    · exact Or.inl ⟨o1, o2, o3, fun j hj => ⟨(o4 j hj).1, fun z => ((o4 j hj).2 z).1⟩⟩
    · refine Or.inr ⟨o1, o2, o3, ?_⟩
      have o6' : C4 37 5 = aSa A s := o6
      rw [o6', o7 rfl, rb A_statementAt (by decide) (by decide) (by decide), hat s (by omega)]
    · exact absurd o0 nb15
  have q85 : Q8 tl C5 m R6 := by
    refine q8_add (kd := nI kd) q84 (by rw [r5m 58 (by decide) (by decide) (by decide)]; exact h58) (by rw [r5m 59 (by decide) (by decide) (by decide)]; exact h59) hcz hpz hpc d2 d3 d5 d6 s3 s4 s5 s6 s7 s8 s9 s10 c370 (by rw [r5b 133 (by decide) (by decide) (by decide) (by decide)]; exact k1) ⟨by rw [nI_toInt (by omega)]; omega, by rw [nI_toInt (by omega)]; omega, htl.1⟩ (fun j hj => ?_) (fun Q hQ z => new Q hQ (fun j hj => ?_)) ?_
    · rw [fc.2.2 (10 + j) (Or.inr (by omega)), hC3, up_o (by decide), kq j hj, r5b 133 (by decide) (by decide) (by decide) (by decide)]
    · have := z j hj
      rw [r5b 131 (by decide) (by decide) (by decide) (by decide), r5b 133 (by decide) (by decide) (by decide) (by decide)] at this
      exact this
    · rcases out' with ⟨o1, o2, o3, o4⟩ | o
      · refine Or.inl ⟨o1, o2, o3, fun j hj => ?_⟩
        rw [htl.2 j hj]
        exact o4 j hj
      · exact Or.inr o
  have c5b : ∀ b, b ≠ m + 15 → b ≠ m + 16 → C5 b = C4 b := d1
  have r6m : ∀ j, j ≠ 58 → j ≠ 59 → R6 MO j = R5 MO j := s2
  have q2e := Q2_ev w q2c fc fr pp
  refine ⟨C5, R6, ?_, ?_, fun b z1 z2 => ?_, fun j hj => ?_, fun j z1 z2 z3 => ?_, fun b z1 z2 z3 z4 => ?_, fun j hj => ?_, ?_, ?_, ?_, ?_, ?_, q85, ?_, fun j hj z => ?_, ?_⟩
  · rw [fC, ← hC3, f1, Option.bind_some, fA]
  · rw [fR, l_Mod_ask_124, h58, if_pos (Int32.le_refl _), f2, Option.bind_some, if_pos (by decide)]
    exact fW
  · rw [c5b b (by omega) (by omega), c4b b z1 (by omega) (by omega) (by omega), cb b (by omega) (by omega)]
  · rw [c5b 35 (by omega) (by omega), c35, up_ne (Or.inr hj), cb 35 (by omega) (by omega)]
  · rw [c5b (m + 13) (by omega) (by omega), fc.2.1 j z3, hC3, up_o (by omega), c13 j z1]
  · rw [s1 b z1 (by omega) (by omega), r5b b z1 (by omega) (by omega) z4, rb b z1 (by omega) z3]
  · have hj' : j ∉ noJ := hj
    unfold noJ at hj'
    simp only [List.mem_cons, List.not_mem_nil, or_false, not_or] at hj'
    rw [r6m j (by omega) (by omega), r5m j (by omega) (by omega) (by omega), rm j (by omega) (by omega)]
  · rw [c5b 35 (by omega) (by omega), c35, up_self]; decide
  · rw [c5b 35 (by omega) (by omega), c35, up_self, r6m 67 (by decide) (by decide), r5m 67 (by decide) (by decide) (by decide), r67]
  · unfold Q2 at q2e ⊢
    rw [c5b m (by omega) (by omega), c5b (m + 13) (by omega) (by omega), r6m 34 (by decide) (by decide), r6m 44 (by decide) (by decide), r6m 48 (by decide) (by decide), r6m 51 (by decide) (by decide), r6m 53 (by decide) (by decide), r6m 54 (by decide) (by decide), r6m 45 (by decide) (by decide), r6m 52 (by decide) (by decide), r6m 55 (by decide) (by decide)]
    exact q2e
  · exact Q5_c (PP_Q5 pp).1 (c5b _ (by omega) (by omega)) (c5b _ (by omega) (by omega)) (s1 _ (by decide) (by decide) (by decide)) (s1 _ (by decide) (by decide) (by decide)) (r6m 55 (by decide) (by decide))
  · exact Q6_c q6' (by rw [c5b _ (by omega) (by omega), c4b _ (by omega) (by omega) (by omega) (by omega)]) (by rw [s1 _ (by decide) (by decide) (by decide), r5b _ (by decide) (by decide) (by decide) (by decide)])
  · unfold QC at qc ⊢
    rw [d4 2 (by decide), d4 3 (by decide), c5b (m + 17) (by omega) (by omega), c15, c15', c4b (m + 17) (by omega) (by omega) (by omega) (by omega), cb (m + 17) (by omega) (by omega)]
    exact qc
  · rw [r6m (83 + j) (by omega) (by omega)]
    exact dd j hj z
  · rw [c5b 37 (by omega) (by omega), r6m 82 (by decide) (by decide), r6m 68 (by decide) (by decide)]
    rcases out' with ⟨o1, o2, o3, o4⟩ | ⟨o1, o2, -, o4⟩
    · refine Or.inl ⟨o1, o2, o3, fun j hj z => ?_⟩
      rw [r6m (83 + j) (by omega) (by omega)]
      exact (o4 j hj).1 z
    · exact Or.inr (Or.inl ⟨o1, o2, o4⟩)
