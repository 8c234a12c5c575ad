/-! a rule is asked -/
theorem sh15 {x : Int32} (h0 : 0 ≤ x.toInt) : x >>> ((15 : Int32) &&& 31) = 0 ↔ x.toInt < 32768 := by
  have e := Jvm.RoadKit.c_ishr x 15 15 (by decide)
  have e' : (x >>> ((15 : Int32) &&& 31)).toInt = x.toInt / 32768 := e
  rw [← Int32.toInt_inj, e']
  simp only [Int32.reduceToInt]
  omega
theorem an98 {x : Int32} (h0 : 0 ≤ x.toInt) (h1 : x.toInt < 131072) : x &&& 98304 = 0 ↔ x.toInt < 32768 := by
  obtain ⟨M, hM⟩ : ∃ M, M = x.toBitVec.toNat := ⟨_, rfl⟩
  have hx : x.toInt = (M : Int) := by
    have h := x.toBitVec.isLt
    have e : x.toInt = x.toBitVec.toInt := rfl
    rw [e, BitVec.toInt_eq_toNat_cond] at h0 h1 ⊢
    split at h0
    · rw [hM]; simp [*]
    · omega
  have e2 : x &&& 98304 = 0 ↔ M &&& 98304 = 0 := by
    rw [← Int32.toBitVec_inj, Int32.toBitVec_and, ← BitVec.toNat_inj, BitVec.toNat_and, ← hM]
    rfl
  rw [e2, hx]
  have hM2 : M < 131072 := by omega
  refine ⟨fun z => ?_, fun z => ?_⟩
  · have t15 := Nat.testBit_and M 98304 15
    have t16 := Nat.testBit_and M 98304 16
    rw [z, Nat.zero_testBit, show (98304 : Nat).testBit 15 = true from by decide, Bool.and_true, Nat.testBit_eq_decide_div_mod_eq] at t15
    rw [z, Nat.zero_testBit, show (98304 : Nat).testBit 16 = true from by decide, Bool.and_true, Nat.testBit_eq_decide_div_mod_eq] at t16
    have u15 := of_decide_eq_false t15.symm
    have u16 := of_decide_eq_false t16.symm
    simp only [Nat.reducePow] at u15 u16
    omega
  · apply Nat.eq_of_testBit_eq
    intro i
    rw [Nat.testBit_and, Nat.zero_testBit]
    by_cases hi : i < 15
    · have : ∀ i, i < 15 → (98304 : Nat).testBit i = false := by decide
      rw [this i hi, Bool.and_false]
    · have : M < 2 ^ i := by
        have : 2 ^ 15 ≤ 2 ^ i := Nat.pow_le_pow_right (by decide) (by omega)
        simp only [Nat.reducePow] at this
        omega
      rw [Nat.testBit_lt_two_pow this, Bool.false_and]
theorem mbc {A : AP} {p k q : Nat} {C : IM} (wf : WF A) (pc : PC A p C) (hk : k < 22) (hq : q < aNr A) (e : aRo A k = nI q) : f_Pol_mayBeCompared p (nI k) C = some (if (aNm A q).toInt < 32768 then 1 else 0) := by
  obtain ⟨g1, g2⟩ := wf.2.2.2.2.2.2.2.2.1 q hq
  have h5 := ((pc.1 k hk).2 q hq e).1
  rw [f_Pol_mayBeCompared, hasR wf pc hk hq e, Option.bind_some, if_neg (by decide), chk_i (nki hk (by decide)), nkc (by omega), h5]
  by_cases z : (aNm A q).toInt < 32768
  · rw [if_pos ((an98 g1 g2).mpr z), if_pos z]
  · rw [if_neg (fun y => z ((an98 g1 g2).mp y)), if_neg z]
theorem adc {m kd w : Nat} {C : IM} (hk : kd < 22) (hw : w < 4) (h : C 35 4 = nI kd) : f_Stp_addCount m (nI w) C = some (up C (m + 14) (4 * kd + w) (C (m + 14) (4 * kd + w) + 1)) := by
  have e : nI kd * 4 + nI w = nI (4 * kd + w) := by rw [show (4 : Int32) = nI 4 from rfl, nml, nad, Nat.mul_comm]
  rw [f_Stp_addCount, h, if_neg (show ¬ nI kd < 0 from fun z => by have := (nlt (b := 0) (by omega) (by decide)).mp z; omega), if_neg (show ¬ (22 : Int32) ≤ nI kd from nk (N := 22) hk (by decide)), e, chk_i (nki (by omega) (by decide)), lt, nkc (by omega), b_Stp_addCount_33]
def noJ : List Nat := [53, 54, 55, 58, 59, 67, 68, 82, 83, 84, 85, 86]
/-- both sides after a rule was asked -/
def AK (A : AP) (q m : Nat) (tl : Int32 → Nat → Prop) (d : Nat → Int32) (C R C' R' : IM) : Prop := (∀ b, ¬ (35 ≤ b ∧ b ≤ 38) → ¬ (m + 11 ≤ b ∧ b ≤ m + 16) → C' b = C b) ∧ (∀ j, j ≠ 11 → C' 35 j = C 35 j) ∧ (∀ j, j ≠ 3 → j ≠ 4 → j ≠ 7 → C' (m + 13) j = C (m + 13) j) ∧ (∀ b, b ≠ MO → ¬ (129 ≤ b ∧ b ≤ 133) → b ≠ 135 → b ≠ 140 → R' b = R b) ∧ (∀ j, j ∉ noJ → R' MO j = R MO j) ∧ ¬ C' 35 11 = 0 ∧ C' 35 11 = R' MO 67 ∧ Q2 C' m R' ∧ Q5 C' m R' ∧ Q6 C' m R' ∧ Q8 tl C' m R' ∧ QC C' m ∧ (∀ j, j < 3 → ¬ aTe A q (51 + j) → R' MO (83 + j) = d j) ∧ ((C' 37 1 = 0 ∧ R' MO 82 = 0 ∧ C' 37 5 = -1 ∧ ∀ j, j < 3 → aTe A q (51 + j) → C' 37 (2 + j) = R' MO (83 + j)) ∨ (C' 37 1 = 3 ∧ R' MO 82 = 3 ∧ C' 37 5 = R' MO 68) ∨ (C' 37 1 = 4 ∧ R' MO 82 = 4 ∧ C' 37 5 = -1))
/-- the relation is not touched by the cells that a rule is worked out in, but for the pairs -/
theorem Q2_ev {C R C' R' : IM} {m : Nat} (w : Wm 36 m) (h : Q2 C m R) (fc : FCr 36 m C C') (fr : FRr R R') (pp : PP m C' R') : Q2 C' m R' := by
  obtain ⟨a0, a1, a2, a3, a4, a5, a6, a7, a8⟩ := h
  unfold Wm at w
  have e0 : C' m = C m := fc.1 m (by omega) (by omega) (by omega) (by omega) (by omega) (by omega)
  refine ⟨?_, ?_, ?_, ?_, ?_, ?_, ?_, ?_, (PP_Q5 pp).2⟩
  · rw [e0, fr.2 34 (by decide) (by decide) (by decide)]; exact a0
  · rw [e0, fr.2 44 (by decide) (by decide) (by decide)]; exact a1
  · rw [fc.2.1 1 (by decide), fr.2 48 (by decide) (by decide) (by decide)]; exact a2
  · rw [fc.2.1 2 (by decide), fr.2 51 (by decide) (by decide) (by decide)]; exact a3
  · rw [fc.2.1 3 (by decide), fr.2 53 (by decide) (by decide) (by decide)]; exact a4
  · rw [fc.2.1 4 (by decide), fr.2 54 (by decide) (by decide) (by decide)]; exact a5
  · rw [fc.2.1 5 (by decide), fr.2 45 (by decide) (by decide) (by decide)]; exact a6
  · rw [fc.2.1 6 (by decide), fr.2 52 (by decide) (by decide) (by decide)]; exact a7
/-- what asking starts from -/
def AS (A : AP) (p q n m kd : Nat) (tl : Int32 → Nat → Prop) (vl : Nat → Int32) (dt dw : Int32) (C R : IM) : Prop := 1000 ≤ n ∧ isMch m ∧ isPol p ∧ WF A ∧ PC A p C ∧ PR A 0 0 0 0 R ∧ q < aNr A ∧ kd < 22 ∧ aRo A kd = nI q ∧ C 35 4 = nI kd ∧ R MO 75 = nI kd ∧ R MO 69 = 0 ∧ (∀ k, k < 15 → f_Mod_nameValue (nI k) R = some (vl k)) ∧ C 37 0 = nI kd ∧ (∀ k, k < 15 → (tbi (aNm A q) k → C 37 (10 + k) = vl k) ∧ (¬ tbi (aNm A q) k → C 37 (10 + k) = 0)) ∧ ((R MO 75 = 21 → inb (R MO 76) 8 ∧ dt = R A_registerTags (R MO 76).toNatClampNeg) ∧ (¬ R MO 75 = 21 → dt = 0)) ∧ ((R MO 75 = 12 → ¬ R MO 81 = 0 → inb (R MO 80) 96 ∧ dw = R A_owners (R MO 80).toNatClampNeg) ∧ ((¬ R MO 75 = 12 ∨ R MO 81 = 0) → dw = 0)) ∧ (∀ k, k < 96 → C (m + 5) k = R A_owners k) ∧ Q2 C m R ∧ Q5 C m R ∧ Q6 C m R ∧ Q8 tl C m R ∧ QC C m ∧ (tl (nI kd) 0 ∧ ∀ j, j < 3 → (tl (nI kd) (51 + j) ↔ aTe A q (51 + j))) ∧ ∀ s, s < aNs A → R A_statementAt s = aSa A s
theorem nv_g {R0 R : IM} {x : Int32} (hr : ∀ b, b ≠ MO → b ≠ 133 → b ≠ 135 → R b = R0 b) (hrj : ∀ j, j ≠ 53 → j ≠ 54 → j ≠ 67 → R MO j = R0 MO j) : f_Mod_nameValue x R = f_Mod_nameValue x R0 := by
  unfold f_Mod_nameValue b_Mod_nameValue_202 b_Mod_nameValue_232 b_Mod_nameValue_258 b_Mod_nameValue_259
  rw [hrj 69 (by decide) (by decide) (by decide), hrj 43 (by decide) (by decide) (by decide), hrj 44 (by decide) (by decide) (by decide), hrj 34 (by decide) (by decide) (by decide), hrj 42 (by decide) (by decide) (by decide), hrj 45 (by decide) (by decide) (by decide), hrj 52 (by decide) (by decide) (by decide), hrj 75 (by decide) (by decide) (by decide), hrj 76 (by decide) (by decide) (by decide), hrj 77 (by decide) (by decide) (by decide), hrj 78 (by decide) (by decide) (by decide), hrj 79 (by decide) (by decide) (by decide), hrj 80 (by decide) (by decide) (by decide), hrj 81 (by decide) (by decide) (by decide), hr A_registerTags (by decide) (by decide) (by decide), hr A_registers (by decide) (by decide) (by decide), hr A_held (by decide) (by decide) (by decide), hr A_owners (by decide) (by decide) (by decide), hr A_inputTags (by decide) (by decide) (by decide), hr A_codeTags (by decide) (by decide) (by decide), hr A_caseValue (by decide) (by decide) (by decide)]
/-- the rule worked out in the stepper's worker -/
theorem ask_w {A : AP} {p q n m kd : Nat} {tl : Int32 → Nat → Prop} {vl : Nat → Int32} {dt dw : Int32} {C0 R0 C R : IM} (as : AS A p q n m kd tl vl dt dw C0 R0) (hc : ∀ b, b ≠ 35 → b ≠ m + 13 → b ≠ m + 14 → C b = C0 b) (hc7 : C (m + 13) 7 = C0 (m + 13) 7) (hr : ∀ b, b ≠ MO → b ≠ 133 → b ≠ 135 → R b = R0 b) (hrj : ∀ j, j ≠ 53 → j ≠ 54 → j ≠ 67 → R MO j = R0 MO j) : ∃ C' R', f_Wrk_workOut n 36 p (nI kd) m C = some C' ∧ f_Mod_rule n (nI q) R = some R' ∧ RE A q 36 m 0 (dfl dt (R0 MO 43) dw) C R C' R' := by
  obtain ⟨hn, hm, hp, wf, pc, pr, hq, hk, e, k4, k75, h69, hnv, r0, rq, h1, h2, ow, q2, q5, q6, q8, qc, htl, hat⟩ := as
  have w := Wm_of (Or.inl rfl : isWrk 36) hm
  have w' := w
  unfold Wm at w'
  have w1 := wf.1
  have p35 : ∀ j, j < 7 → C (p + j) = C0 (p + j) := fun j hj => by
    obtain ⟨b1, b2, b3, b4⟩ := polap hp (Or.inl rfl : isWrk 36) hm hj
    exact hc _ (by rcases hp with rfl | rfl | rfl <;> omega) (by omega) (by omega)
  have nv : ∀ x, f_Mod_nameValue x R = f_Mod_nameValue x R0 := fun x => nv_g hr hrj
  have eb : EB A p q n 36 m 0 0 0 0 C R := by
    refine ⟨hn, hm, Or.inl rfl, hp, wf, PC_c p35 pc, PR_c (hr _ (by decide) (by decide) (by decide)) (hr _ (by decide) (by decide) (by decide)) (hr _ (by decide) (by decide) (by decide)) (hr _ (by decide) (by decide) (by decide)) (hr _ (by decide) (by decide) (by decide)) (hr _ (by decide) (by decide) (by decide)) (hr _ (by decide) (by decide) (by decide)) (hr _ (by decide) (by decide) (by decide)) (hr _ (by decide) (by decide) (by decide)) pr, by decide, hq, fun k hk tk => ?_, fun k hk => ?_, by decide, by decide, ?_⟩
    · rw [nv, hnv k hk, hc 37 (by decide) (by omega) (by omega), (rq k hk).1 tk]
    · rw [hc (m + 5) (by omega) (by omega) (by omega), hr A_owners (by decide) (by decide) (by decide)]
      exact ow k hk
    · refine Q5_PP (Q5_c q5 (hc _ (by omega) (by omega) (by omega)) (hc _ (by omega) (by omega) (by omega)) (hr _ (by decide) (by decide) (by decide)) (hr _ (by decide) (by decide) (by decide)) (hrj 55 (by decide) (by decide) (by decide))) ?_
      rw [hc7, hrj 55 (by decide) (by decide) (by decide)]
      exact q2.2.2.2.2.2.2.2.2
  have rl := rule_0 (n := n) (x := nI q) (R := R) (dt := dt) (dw := dw) (by rw [hrj 69 (by decide) (by decide) (by decide)]; exact h69) (nki (by omega) (by decide)) (by rw [hrj 75 (by decide) (by decide) (by decide), hrj 76 (by decide) (by decide) (by decide), hr A_registerTags (by decide) (by decide) (by decide)]; exact h1) (by rw [hrj 75 (by decide) (by decide) (by decide), hrj 81 (by decide) (by decide) (by decide), hrj 80 (by decide) (by decide) (by decide), hr A_owners (by decide) (by decide) (by decide)]; exact h2)
  rw [nkc (by omega), hrj 43 (by decide) (by decide) (by decide)] at rl
  have := ework (k := kd) (dt := dt) (dn := R0 MO 43) (dw := dw) eb hk e (by rw [Nat.zero_add]; exact rl)
  rw [Nat.zero_add] at this
  exact this
