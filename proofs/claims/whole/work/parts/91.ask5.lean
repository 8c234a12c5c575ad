/-! a rule is asked whose answer is kept already -/
set_option maxHeartbeats 2000000 in
theorem ask_h {A : AP} {p q n m kd cz Q i : Nat} {tl : Int32 → Nat → Prop} {vl : Nat → Int32} {dt dw : Int32} {C R C2 R4 : IM} (as : AS A p q n m kd tl vl dt dw C R) (hb : (aNm A q).toInt < 32768) (fC : f_Stp_ask n m p C = Option.bind (f_Stp_addCount m 2 (up (up C2 35 11 3) (m + 13) 4 (C2 (m + 13) 4 + 1))) fun v12 => f_Rng_fetch (m + 15) (nI i) 37 v12) (fR : f_Mod_ask n R = l_Mod_ask_124 n 1 (nI q) (nI Q) (nI cz) R4) (cb : ∀ b, b ≠ m + 13 → b ≠ m + 14 → C2 b = C b) (c13 : ∀ j, j ≠ 3 → C2 (m + 13) j = C (m + 13) j) (c3 : C2 (m + 13) 3 = R4 MO 53) (rb : ∀ b, b ≠ MO → b ≠ 133 → b ≠ 135 → R4 b = R b) (rm : ∀ j, j ≠ 53 → j ≠ 67 → R4 MO j = R MO j) (q6' : Q6 C2 m R4) (k1 : R4 133 0 = nI kd) (hcz : cz ≤ 8) (h58 : R4 MO 58 = nI cz) (hQ : Q < cz) (lk : LkR R4 Q) (sQ : f_Rng_startOf (m + 15) (nI i) C2 = some (nI (25 * Q))) : ∃ C' R', f_Stp_ask n m p C = some C' ∧ f_Mod_ask n R = some R' ∧ AK A q m tl (dfl dt (R MO 43) dw) C R C' R' := by
  obtain ⟨hn, hm, hp, wf, pc, pr, hq, hk, e, k4, k75, h69, hnv, r0, rq, h1, h2, ow, q2, q5, q6, q8, qc, htl, hat⟩ := id as
  have m35 : m + 19 ≤ 35 ∨ 38 < m := by rcases hm with rfl | rfl | rfl <;> omega
  have g0 := (wf.2.2.2.2.2.2.2.2.1 q hq).1
  have nb15 : ¬ tbi (aNm A q) 15 := by
    unfold tbi
    have : aNm A q >>> (nI 15 &&& 31) = 0 := (sh15 g0).mpr hb
    rw [this]
    decide
  obtain ⟨Cx, R5, -, f2, -, fr, -, np, dd, -⟩ := ask_w (C := C2) (R := R4) as (fun b _ z2 z3 => cb b z2 z3) (c13 7 (by decide)) rb (fun j z1 z2 z3 => rm j z1 z3)
  obtain ⟨-, -, -, n4, n5, n6⟩ := np nb15
  have r5b : ∀ b, b ≠ MO → b ≠ 140 → R5 b = R4 b := fun b z1 z4 => by
    by_cases z2 : b = 129
    · rw [z2]; exact n4
    · by_cases z3 : b = 130
      · rw [z3]; exact n5
      · exact fr.1 b z1 z4 z2 z3
  have r5m : ∀ j, ¬ (82 ≤ j ∧ j ≤ 86) → j ≠ 68 → R5 MO j = R4 MO j := fun j z1 z2 => by
    by_cases z3 : j = 55
    · rw [z3]; exact n6
    · exact fr.2 j z1 z3 z2
  have e4 : (4 : Int32) * nI kd + 2 = nI (4 * kd + 2) := by rw [show (4 : Int32) = nI 4 from rfl, nml]; exact nad (b := 2)
  have e5 : (5 : Int32) * nI Q = nI (5 * Q) := nml (a := 5)
  obtain ⟨R8, hR8⟩ : ∃ z, z = up (up (up (up R5 MO 54 (R5 MO 54 + 1)) A_counts (4 * kd + 2) (R5 A_counts (4 * kd + 2) + 1)) MO 67 3) MO 82 (R5 A_answers (5 * Q)) := ⟨_, rfl⟩
  have r8b : ∀ b, b ≠ MO → b ≠ 135 → R8 b = R5 b := fun b z1 z2 => by rw [hR8, fu z1, fu z1, fu z2, fu z1]
  have r8m : ∀ j, j ≠ 54 → j ≠ 67 → j ≠ 82 → R8 MO j = R5 MO j := fun j z1 z2 z3 => by rw [hR8, up_ne (Or.inr z3), up_ne (Or.inr z2), up_o (by decide), up_ne (Or.inr z1)]
  have pr8 : PR A 0 0 0 0 R8 := by
    have z : ∀ b, 106 ≤ b → b ≤ 115 → R8 b = R b := fun b z1 z2 => by rw [r8b b (by show b ≠ 102; omega) (by omega), r5b b (by show b ≠ 102; omega) (by omega), rb b (by show b ≠ 102; omega) (by omega) (by omega)]
    exact PR_c (z _ (by decide) (by decide)) (z _ (by decide) (by decide)) (z _ (by decide) (by decide)) (z _ (by decide) (by decide)) (z _ (by decide) (by decide)) (z _ (by decide) (by decide)) (z _ (by decide) (by decide)) (z _ (by decide) (by decide)) (z _ (by decide) (by decide)) pr
  obtain ⟨R9, fH, s1, s2, s3, s4⟩ := hit_r (n := n) (q := q) (Q := Q) wf pr8 hn hq (by omega)
  obtain ⟨C3, hC3⟩ : ∃ z, z = up (up C2 35 11 3) (m + 13) 4 (C2 (m + 13) 4 + 1) := ⟨_, rfl⟩
  obtain ⟨C4, hC4⟩ : ∃ z, z = up C3 (m + 14) (4 * kd + 2) (C3 (m + 14) (4 * kd + 2) + 1) := ⟨_, rfl⟩
  have k43 : C3 35 4 = nI kd := by rw [hC3, up_o (by omega), up_ne (Or.inr (by decide)), cb 35 (by omega) (by omega)]; exact k4
  have c4b : ∀ b, b ≠ 35 → b ≠ m + 13 → b ≠ m + 14 → C4 b = C2 b := fun b z1 z2 z3 => by rw [hC4, fu z3, hC3, fu z2, fu z1]
  have qc4 : QC C4 m := by
    unfold QC at qc ⊢
    rw [c4b (m + 15) (by omega) (by omega) (by omega), c4b (m + 17) (by omega) (by omega) (by omega), cb (m + 15) (by omega) (by omega), cb (m + 17) (by omega) (by omega)]
    exact qc
  have s4Q : f_Rng_startOf (m + 15) (nI i) C4 = some (nI (25 * Q)) := by
    rw [← sQ]
    unfold f_Rng_startOf
    rw [c4b (m + 15) (by omega) (by omega) (by omega)]
  have ft := ftc hm qc4 (show Q < 8 by omega) s4Q
  obtain ⟨C5, hC5⟩ : ∃ z, z = cpy C4 (m + 16) 37 (25 * Q) 0 25 := ⟨_, rfl⟩
  have ne37 : m + 16 ≠ 37 := by omega
  have c5b : ∀ b, b ≠ 37 → C5 b = C4 b := fun b z1 => by
    funext j
    rw [hC5, cpy_at ne37, if_neg (fun z => z1 z.1)]
  have c5r : ∀ j, j < 25 → C5 37 j = C (m + 16) (25 * Q + j) := fun j hj => by
    rw [hC5, cpy_at ne37, if_pos ⟨rfl, by omega, by omega⟩, Nat.sub_zero, c4b (m + 16) (by omega) (by omega) (by omega), cb (m + 16) (by omega) (by omega)]
  have q6a : Q6 C3 m (up R5 MO 54 (R5 MO 54 + 1)) := Q6_c q6' (by rw [hC3, fu (by omega), fu (by omega)]) (by rw [fu (by decide), r5b _ (by decide) (by decide)])
  have q6b := Q6_i (k := 4 * kd + 2) (by omega) q6a
  rw [← hC4, up_o (show A_counts ≠ MO by decide)] at q6b
  have q6c : Q6 C5 m R9 := Q6_c q6b (c5b _ (by omega)) (by rw [s1 _ (by decide), hR8, fu (by decide), fu (by decide)])
  have allb : ∀ b, ¬ (35 ≤ b ∧ b ≤ 38) → b ≠ m + 13 → b ≠ m + 14 → C5 b = C b := fun b z1 z2 z3 => by rw [c5b b (by omega), c4b b (by omega) z2 z3, cb b z2 z3]
  have rallb : ∀ b, b ≠ MO → b ≠ 133 → b ≠ 135 → b ≠ 140 → R9 b = R b := fun b z1 z2 z3 z4 => by rw [s1 b z1, r8b b z1 z3, r5b b z1 z4, rb b z1 z2 z3]
  have r9m : ∀ j, ¬ (82 ≤ j ∧ j ≤ 86) → j ≠ 68 → j ≠ 54 → j ≠ 67 → R9 MO j = R4 MO j := fun j z1 z2 z3 z4 => by rw [s2 j (by omega) z2, r8m j z3 z4 (by omega), r5m j z1 z2]
  have c5_13 : ∀ j, j ≠ 4 → C5 (m + 13) j = C2 (m + 13) j := fun j hj => by rw [c5b (m + 13) (by omega), hC4, up_o (by omega), hC3, up_ne (Or.inr hj), up_o (by omega)]
  have c5_4 : C5 (m + 13) 4 = C (m + 13) 4 + 1 := by rw [c5b (m + 13) (by omega), hC4, up_o (by omega), hC3, up_self, c13 4 (by decide)]
  have r9_54 : R9 MO 54 = R MO 54 + 1 := by rw [s2 54 (by decide) (by decide), hR8, up_ne (Or.inr (by decide)), up_ne (Or.inr (by decide)), up_o (by decide), up_self, r5m 54 (by decide) (by decide), rm 54 (by decide) (by decide)]
  have c35 : C5 35 11 = 3 := by rw [c5b 35 (by decide), hC4, up_o (by omega), hC3, up_o (by omega), up_self]
  have r67 : R9 MO 67 = 3 := by rw [s2 67 (by decide) (by decide), hR8, up_ne (Or.inr (by decide)), up_self]
  have h58' : R MO 58 = nI cz := by rw [← rm 58 (by decide) (by decide)]; exact h58
  obtain ⟨g0', g1', ⟨-, -, -, -⟩, g3', g4', g5', g6', g7'⟩ := q8.2.2.2.2.2.2.2 Q (by rw [h58', nI_toInt (by omega)]; omega)
  have kdQ : R A_cache (16 * Q) = nI kd := by
    have := lk 0 (by decide)
    rw [Nat.add_zero, show R4 A_cache = R A_cache from rb _ (by decide) (by decide) (by decide)] at this
    rw [this]; exact k1
  have ansR : R8 A_answers = R A_answers := by rw [r8b _ (by decide) (by decide), r5b _ (by decide) (by decide), rb _ (by decide) (by decide) (by decide)]
  have r82 : R9 MO 82 = R A_answers (5 * Q) := by rw [s2 82 (by decide) (by decide), hR8, up_self, r5b _ (by decide) (by decide), rb _ (by decide) (by decide) (by decide)]
  refine ⟨C5, R9, ?_, ?_, fun b z1 z2 => allb b z1 (by omega) (by omega), fun j hj => ?_, fun j z1 z2 z3 => ?_, fun b z1 z2 z3 z4 => rallb b z1 (by omega) z3 z4, fun j hj => ?_, by rw [c35]; decide, by rw [c35, r67], ?_, ?_, q6c, ?_, ?_, fun j hj z => ?_, ?_⟩
  · rw [fC, ← hC3, show (2 : Int32) = nI 2 from rfl, adc (w := 2) hk (by decide) k43, Option.bind_some, ← hC4, ft, hC5]
  · rw [fR, l_Mod_ask_124, h58, if_pos (Int32.le_refl _), f2, Option.bind_some, if_neg (show ¬ nI Q < 0 from fun z => by have := (nlt (b := 0) (by omega) (by decide)).mp z; omega)]
    have k75' : R5 MO 75 = nI kd := by rw [r5m 75 (by decide) (by decide), rm 75 (by decide) (by decide)]; exact k75
    simp only [lt]
    rw [up_ne (Or.inr (show 75 ≠ 54 by decide)), k75', e4, chk_i (nki (by omega) (by decide)), nkc (show 4 * kd + 2 < 5000 by omega), up_o (show A_counts ≠ MO by decide), e5, chk_i (nki (by omega) (by decide)), nkc (show 5 * Q < 5000 by omega), up_o (show A_answers ≠ MO by decide), up_o (show A_answers ≠ A_counts by decide), up_o (show A_answers ≠ MO by decide), ← hR8, ← e5]
    exact fH
  · rw [c5b 35 (by decide), hC4, up_o (by omega), hC3, up_o (by omega), up_ne (Or.inr hj), cb 35 (by omega) (by omega)]
  · rw [c5_13 j z2, c13 j z1]
  · have hj' : j ∉ noJ := hj
    unfold noJ at hj'
    simp only [List.mem_cons, List.not_mem_nil, or_false, not_or] at hj'
    rw [r9m j (by omega) (by omega) (by omega) (by omega), rm j (by omega) (by omega)]
  · obtain ⟨a0, a1, a2, a3, a4, a5, a6, a7, a8⟩ := q2
    refine ⟨?_, ?_, ?_, ?_, ?_, ?_, ?_, ?_, ?_⟩
    · rw [allb m (by omega) (by omega) (by omega), r9m 34 (by decide) (by decide) (by decide) (by decide), rm 34 (by decide) (by decide)]; exact a0
    · rw [allb m (by omega) (by omega) (by omega), r9m 44 (by decide) (by decide) (by decide) (by decide), rm 44 (by decide) (by decide)]; exact a1
    · rw [c5_13 1 (by decide), c13 1 (by decide), r9m 48 (by decide) (by decide) (by decide) (by decide), rm 48 (by decide) (by decide)]; exact a2
    · rw [c5_13 2 (by decide), c13 2 (by decide), r9m 51 (by decide) (by decide) (by decide) (by decide), rm 51 (by decide) (by decide)]; exact a3
    · rw [c5_13 3 (by decide), r9m 53 (by decide) (by decide) (by decide) (by decide)]; exact c3
    · rw [c5_4, r9_54, a5]
    · rw [c5_13 5 (by decide), c13 5 (by decide), r9m 45 (by decide) (by decide) (by decide) (by decide), rm 45 (by decide) (by decide)]; exact a6
    · rw [c5_13 6 (by decide), c13 6 (by decide), r9m 52 (by decide) (by decide) (by decide) (by decide), rm 52 (by decide) (by decide)]; exact a7
    · rw [c5_13 7 (by decide), c13 7 (by decide), r9m 55 (by decide) (by decide) (by decide) (by decide), rm 55 (by decide) (by decide)]; exact a8
  · exact Q5_c q5 (allb _ (by omega) (by omega) (by omega)) (allb _ (by omega) (by omega) (by omega)) (rallb _ (by decide) (by decide) (by decide) (by decide)) (rallb _ (by decide) (by decide) (by decide) (by decide)) (by rw [r9m 55 (by decide) (by decide) (by decide) (by decide), rm 55 (by decide) (by decide)])
  · exact Q8_c q8 (by rw [allb (m + 15) (by omega) (by omega) (by omega)]) (by rw [allb (m + 15) (by omega) (by omega) (by omega)]) (allb _ (by omega) (by omega) (by omega)) (rallb _ (by decide) (by decide) (by decide) (by decide)) (rallb _ (by decide) (by decide) (by decide) (by decide)) (by rw [r9m 58 (by decide) (by decide) (by decide) (by decide), rm 58 (by decide) (by decide)]) (by rw [r9m 59 (by decide) (by decide) (by decide) (by decide), rm 59 (by decide) (by decide)])
  · unfold QC at qc ⊢
    rw [allb (m + 15) (by omega) (by omega) (by omega), allb (m + 17) (by omega) (by omega) (by omega)]
    exact qc
  · rw [(s3 j hj).2 z, r8m (83 + j) (by omega) (by omega) (by omega)]
    exact dd j hj z
  · rw [c5r 1 (by decide), c5r 5 (by decide), r82, s4, ansR, g3']
    rcases g4' with o | o
    · refine Or.inl ⟨o, o, g6' o, fun j hj z => ?_⟩
      rw [c5r (2 + j) (by omega), (s3 j hj).1 z, ansR, show 25 * Q + (2 + j) = 25 * Q + 2 + j by omega]
      refine (g5' j hj).1 o ?_
      rw [kdQ]
      exact (htl.2 j hj).mpr z
    · exact Or.inr (Or.inl ⟨o, o, g7' o⟩)
theorem ask_eq {A : AP} {p q n m kd : Nat} {tl : Int32 → Nat → Prop} {vl : Nat → Int32} {dt dw : Int32} {C R : IM} (as : AS A p q n m kd tl vl dt dw C R) : ∃ C' R', f_Stp_ask n m p C = some C' ∧ f_Mod_ask n R = some R' ∧ AK A q m tl (dfl dt (R MO 43) dw) C R C' R' := by
  by_cases hb : (aNm A q).toInt < 32768
  rotate_left
  · exact ask_n as hb
  obtain ⟨hn, hm, hp, wf, pc, pr, hq, hk, e, k4, k75, h69, hnv, r0, rq, h1, h2, ow, q2, q5, q6, q8, qc, htl, hat⟩ := id as
  have m35 : m + 19 ≤ 35 ∨ 38 < m := by rcases hm with rfl | rfl | rfl <;> omega
  obtain ⟨C2, R4, fC, fR, cb, c13, c3, rb, rm, r67, q6', k1, kq⟩ := ask_q as hb
  have q8' : Q8 tl C2 m R4 := Q8_c q8 (by rw [cb (m + 15) (by omega) (by omega)]) (by rw [cb (m + 15) (by omega) (by omega)]) (cb _ (by omega) (by omega)) (rb _ (by decide) (by decide) (by decide)) (rb _ (by decide) (by decide) (by decide)) (rm 58 (by decide) (by decide)) (rm 59 (by decide) (by decide))
  have qc' : QC C2 m := by
    unfold QC at qc ⊢
    rw [cb (m + 15) (by omega) (by omega), cb (m + 17) (by omega) (by omega)]
    exact qc
  obtain ⟨cz, pz, hcz, hpz, h58, h59, hpc, hc0, hc1, hqf⟩ := q8n q8'
  have k0 : C2 37 0 = nI kd := by rw [cb 37 (by omega) (by omega)]; exact r0
  have b58 : ∀ Q, Q < cz → (Q : Int) < (R4 MO 58).toInt := fun Q hQ => by rw [h58, nI_toInt (by omega)]; omega
  have lk : ∀ Q, Q < cz → (LkC C2 m Q ↔ LkR R4 Q) := fun Q hQ => lk_eq q8' (b58 Q hQ) rfl rfl k0 k1 kq
  have hu : ∀ a b, a < b → b < cz → ¬ (LkR R4 a ∧ LkR R4 b) := fun a b hab hbc ⟨z1, z2⟩ => (q8'.2.2.2.2.2.2.2 b (b58 b hbc)).2.2.1.2.2.2 a hab (fun j hj => by rw [z1 j hj, z2 j hj])
  obtain ⟨t1, t0⟩ := sk (n := n) (x1 := nI q) hn hcz h58 hu cz n 0 (-1) (by omega) (by omega)
  obtain ⟨u1, u0⟩ := rk_l (n := n) (R := R4) hn hm qc' hcz hpz hc0 hc1 hqf cz n 0 (by omega) (by omega)
  by_cases ex : ∃ Q, Q < cz ∧ LkR R4 Q
  · obtain ⟨Q0, hQ0, lk0⟩ := ex
    obtain ⟨i0, hi0, ei0⟩ := qf_s (R := R4) hpz hqf hQ0
    obtain ⟨i, -, hi, lki, fi⟩ := u1 ⟨i0, by omega, hi0, by rw [ei0]; exact (lk Q0 hQ0).mpr lk0⟩
    obtain ⟨sQ, sQ2⟩ := stQ (R := R4) qc' hcz hpz hc1 hqf hi
    have lkQ := (lk _ sQ2).mp lki
    have fi' : f_Rng_rowLike n (m + 15) 37 10 C2 = some (nI i) := fi
    refine ask_h (cz := cz) (Q := qf R4 i) (i := i) as hb ?_ (fR.trans (t1 _ (by omega) sQ2 lkQ)) cb c13 c3 rb rm q6' k1 hcz h58 sQ2 lkQ sQ
    rw [fC, fi', Option.bind_some, if_neg (fun z => ?_)]
    have := congrArg Int32.toInt z
    rw [nI_toInt (by omega)] at this
    simp only [Int32.reduceToInt] at this
    omega
  · have fi' : f_Rng_rowLike n (m + 15) 37 10 C2 = some (-1) := u0 (fun ⟨i, _, hi, lki⟩ => ex ⟨qf R4 i, (stQ (R := R4) qc' hcz hpz hc1 hqf hi).2, (lk _ (stQ (R := R4) qc' hcz hpz hc1 hqf hi).2).mp lki⟩)
    refine ask_m as hb ?_ (fR.trans (t0 (fun ⟨Q, _, hQ, z⟩ => ex ⟨Q, hQ, z⟩))) cb c13 c3 rb rm r67 q6' k1 kq hcz hpz h58 h59 hpc hc0 hc1 (fun Q hQ z => ex ⟨Q, hQ, z⟩)
    rw [fC, fi', Option.bind_some, if_pos rfl]
