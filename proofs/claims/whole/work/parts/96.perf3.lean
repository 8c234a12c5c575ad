/-! an instruction is done: store, out, in, make, drop -/
theorem cpy_aa {I : IM} {a b k sa sb n j : Nat} : cpy I a b sa sb n k j = if k = b ∧ sb ≤ j ∧ j < sb + n then I a (sa + (j - sb)) else I k j := by
  unfold cpy upA va_cpy
  by_cases q : k = b
  · subst q
    rw [if_pos rfl]
    by_cases h : sb ≤ j ∧ j < sb + n
    · rw [if_pos h, if_pos ⟨rfl, h⟩]
    · rw [if_neg h, if_neg (fun z => h z.2)]
  · rw [if_neg q, if_neg (fun z => q z.1)]
theorem swd {m w : Nat} {C : IM} {v h o : Int32} (hw : w < 96) : f_Mch_setWord m (nI w) v h o C = some (up (up (up C (m + 3) w v) (m + 4) w h) (m + 5) w o) := by
  have iw : inW (nI w) := ⟨fun z => by have := (nlt (b := 0) (by omega) (by decide)).mp z; omega, (nlt (b := 96) (by omega) (by decide)).mpr hw⟩
  rw [f_Mch_setWord, hasW.1 iw, Option.bind_some, if_neg (by decide), chk_i (nki hw (by decide))]
  simp only [lt]
  rw [nkc (by omega), b_Mch_setWord_30]
theorem Q2_c {C C' R R' : IM} {m : Nat} (h : Q2 C m R) (e0 : C' m = C m) (e1 : C' (m + 13) = C (m + 13)) (er : R' MO = R MO) : Q2 C' m R' := by
  unfold Q2 at h ⊢
  rw [e0, e1, er]
  exact h
theorem perf_store {b n m a bb c pl : Nat} {C R : IM} (ps : PS b n m 12 a bb c pl C R) (iw : inW (R MO 80)) : PG b n m C R 12 := by
  obtain ⟨hn, hm, d, q1, q2, q3, q4, t12, t13, t14, h50⟩ := ps
  obtain ⟨hk2, ha, hb, hc, hpl, d1, d2, d3, d4, d5, d6, d7, d8, d9, d10, d11, d12, d13, d14, d15⟩ := d
  have mm := m35 hm
  obtain ⟨w, hw, ew⟩ := inW_n iw
  have kp := kperf (n := n) hk2 d2
  rw [if_neg (by omega)] at kp
  have cb : ∀ k, ¬ (m + 3 ≤ k ∧ k ≤ m + 5) → up (up (up C (m + 3) w (R A_registers a)) (m + 4) w (R MO 83)) (m + 5) w (R MO 85) k = C k := fun k z => by rw [fu (by omega), fu (by omega), fu (by omega)]
  have rb : ∀ k, ¬ (121 ≤ k ∧ k ≤ 123) → up (up (up R A_ints w (R A_registers a)) A_held w (R MO 83)) A_owners w (R MO 85) k = R k := fun k z => by rw [fu (by show k ≠ 123; omega), fu (by show k ≠ 122; omega), fu (by show k ≠ 121; omega)]
  refine ⟨up (up (up C (m + 3) w (R A_registers a)) (m + 4) w (R MO 83)) (m + 5) w (R MO 85), up (up (up R A_ints w (R A_registers a)) A_held w (R MO 83)) A_owners w (R MO 85), nI pl + 1, ?_, ?_, Q1_word q1, Q2_c q2 (cb _ (by omega)) (cb _ (by omega)) (rb _ (by decide)), Q3_c q3 (cb _ (by omega)) (cb _ (by omega)) (rb _ (by decide)) (rb _ (by decide)) (by rw [rb MO (by decide)]), Q4_c (by omega) q4 (cb _ (by omega)) (rb _ (by decide)) (by rw [rb MO (by decide)]), ⟨fun k z1 z2 => cb k (by omega), fun j _ _ _ => by rw [cb (m + 13) (by omega)], fun k z1 z2 => rb k (by omega), fun j _ _ _ _ => by rw [rb MO (by decide)]⟩, by rw [rb MO (by decide), h50]; rfl⟩
  · unfold f_Stp_perform
    rw [d1]
    show (chk (inb (C 35 5) 9) <| Option.bind (f_Mch_setWord m (C 35 9) (C (m + 6) (C 35 5).toNatClampNeg) (C 35 12) (C 35 14) C) fun v3 => b_Stp_perform_317 n m ((C 35 2) + 1) v3) = _
    rw [d3, chk_i (nki (by omega) (by decide)), nkc (by omega), (q1.2.2.1 a ha).1, d10, ew, t12, t14, swd hw, Option.bind_some, b317, d11, cb 35 (by omega)]
  · rw [kp]
    unfold b_Mod_perform_72
    rw [d2]
    show (chk (inb (R MO 76) 8) <| chk (inb (R MO 80) 96) <| lt (up R A_ints (R MO 80 : Int32).toNatClampNeg (R A_registers (R MO 76 : Int32).toNatClampNeg)) fun I16 => chk (inb (I16 MO 80) 96) <| lt (up I16 A_held (I16 MO 80 : Int32).toNatClampNeg (I16 MO 83)) fun I18 => chk (inb (I18 MO 80) 96) <| lt (up I18 A_owners (I18 MO 80 : Int32).toNatClampNeg (I18 MO 85)) fun I20 => b_Mod_perform_334 n (R MO 42 + 1) I20) = _
    rw [d4, chk_i (nki ha (by decide)), ew, chk_i (nki hw (by decide)), nkc (show w < 5000 by omega), nkc (show a < 5000 by omega), lt, fu (show MO ≠ A_ints by decide), ew, chk_i (nki hw (by decide)), nkc (show w < 5000 by omega), lt, fu (show MO ≠ A_held by decide), fu (show MO ≠ A_ints by decide), ew, chk_i (nki hw (by decide)), nkc (show w < 5000 by omega), lt, b_Mod_perform_334, d12]
theorem perf_out {b n m a bb c pl : Nat} {C R : IM} (ps : PS b n m 17 a bb c pl C R) (hb2 : b ≤ 2000000) : PG b n m C R 17 := by
  obtain ⟨hn, hm, d, q1, q2, q3, q4, t12, t13, t14, h50⟩ := ps
  obtain ⟨hk2, ha, hb, hc, hpl, d1, d2, d3, d4, d5, d6, d7, d8, d9, d10, d11, d12, d13, d14, d15⟩ := d
  have mm := m35 hm
  have kp := kperf (n := n) hk2 d2
  rw [if_neg (by omega), k72 hk2 d2 (by decide) (by decide) (by decide) (by decide) (by decide)] at kp
  have e48 : C (m + 13) 1 = R MO 48 := q2.2.2.1
  have e48' : C (m + 13) (1 : Int32).toNatClampNeg = R MO 48 := e48
  obtain ⟨g1, g2, g3⟩ := q4
  have n0 : ¬ R MO 48 < 0 := by rw [ti]; simp only [Int32.reduceToInt]; omega
  have s1 : (R MO 48 + 1).toInt = (R MO 48).toInt + 1 := by
    rw [iadd (by simp only [Int32.reduceToInt]; omega) (by simp only [Int32.reduceToInt]; omega)]
    rfl
  have fin : ∀ (C0 R0 : IM), (∀ k, k ≠ m + 10 → C0 k = C k) → (∀ k, k ≠ A_output → R0 k = R k) → (∀ k : Nat, k < 40 → (k : Int) < (R MO 48).toInt + 1 → C0 (m + 10) k = R0 A_output k) → f_Stp_perform n m C = b_Stp_perform_317 n m (nI pl + 1) (up C0 (m + 13) 1 (R MO 48 + 1)) → f_Mod_perform n R = some (nI pl + 1, up R0 MO 48 (R MO 48 + 1)) → PG b n m C R 17 := by
    intro C0 R0 hC hR hq f1 f2
    have cb : ∀ k, k ≠ m + 10 → k ≠ m + 13 → up C0 (m + 13) 1 (R MO 48 + 1) k = C k := fun k z1 z2 => by rw [fu z2, hC k z1]
    have rb : ∀ k, k ≠ A_output → k ≠ MO → up R0 MO 48 (R MO 48 + 1) k = R k := fun k z1 z2 => by rw [fu z2, hR k z1]
    have rm : ∀ j, j ≠ 48 → up R0 MO 48 (R MO 48 + 1) MO j = R MO j := fun j hj => by rw [up_ne (Or.inr hj), hR MO (by decide)]
    refine ⟨up C0 (m + 13) 1 (R MO 48 + 1), up R0 MO 48 (R MO 48 + 1), nI pl + 1, by rw [f1, b317, cb 35 (by omega) (by omega)], f2, Q1_c q1 (fun i h1 h2 => cb _ (by omega) (by omega)) (fun k h1 h2 => rb k (by show k ≠ 128; omega) (by show k ≠ 102; omega)) (rm 42 (by decide)) (rm 43 (by decide)), ?_, Q3_c q3 (cb _ (by omega) (by omega)) (cb _ (by omega) (by omega)) (rb _ (by decide) (by decide)) (rb _ (by decide) (by decide)) (rm 45 (by decide)), ⟨?_, ?_, fun k h1 h2 => ?_⟩, ⟨fun k z1 z2 => cb k (by omega) z2, fun j z1 _ _ => by rw [up_ne (Or.inr z1), hC _ (by omega)], fun k z1 z2 => rb k (by show k ≠ 128; omega) z1, fun j _ z2 _ _ => rm j z2⟩, by rw [rm 50 (by decide), h50]; rfl⟩
    · obtain ⟨a0, a1, a2, a3, a4, a5, a6, a7, a8⟩ := q2
      refine ⟨?_, ?_, ?_, ?_, ?_, ?_, ?_, ?_, ?_⟩
      · rw [cb m (by omega) (by omega), rm 34 (by decide)]; exact a0
      · rw [cb m (by omega) (by omega), rm 44 (by decide)]; exact a1
      · rw [up_self, up_self]
      · rw [up_ne (Or.inr (by decide)), hC _ (by omega), rm 51 (by decide)]; exact a3
      · rw [up_ne (Or.inr (by decide)), hC _ (by omega), rm 53 (by decide)]; exact a4
      · rw [up_ne (Or.inr (by decide)), hC _ (by omega), rm 54 (by decide)]; exact a5
      · rw [up_ne (Or.inr (by decide)), hC _ (by omega), rm 45 (by decide)]; exact a6
      · rw [up_ne (Or.inr (by decide)), hC _ (by omega), rm 52 (by decide)]; exact a7
      · rw [up_ne (Or.inr (by decide)), hC _ (by omega), rm 55 (by decide)]; exact a8
    · rw [up_self, s1]; omega
    · rw [up_self, s1]; omega
    · rw [up_self, s1] at h2
      rw [fu (by omega), fu (by decide)]
      exact hq k h1 h2
  have f0 : f_Stp_perform n m C = Option.bind (f_Mch_putOut m (R A_registers a) C) fun v11 => b_Stp_perform_317 n m (nI pl + 1) v11 := by
    unfold f_Stp_perform
    rw [d1]
    show (chk (inb (C 35 5) 9) <| Option.bind (f_Mch_putOut m (C (m + 6) (C 35 5 : Int32).toNatClampNeg) C) fun v11 => b_Stp_perform_317 n m ((C 35 2) + 1) v11) = _
    rw [d3, chk_i (nki (by omega) (by decide)), nkc (by omega), (q1.2.2.1 a ha).1, d11]
  have g0 : f_Mod_perform n R = if (40 : Int32) ≤ R MO 48 then (b_Mod_perform_249 n (nI pl + 1) R) else (chk (inb (R MO 76) 8) <| chk (inb (R MO 48) 40) <| lt (up R A_output (R MO 48 : Int32).toNatClampNeg (R A_registers (R MO 76 : Int32).toNatClampNeg)) fun I31 => b_Mod_perform_249 n (nI pl + 1) I31) := by
    rw [kp]
    unfold b_Mod_perform_191
    rw [d2, d12]
    rfl
  by_cases c40 : (40 : Int32) ≤ R MO 48
  · refine fin C R (fun _ _ => rfl) (fun _ _ => rfl) (fun k h1 h2 => g3 k h1 ?_) ?_ ?_
    · rw [tl] at c40
      simp only [Int32.reduceToInt] at c40
      omega
    · rw [f0, f_Mch_putOut, e48', if_neg n0, if_pos c40, b_Mch_putOut_24, lt, Option.bind_some]
      rfl
    · rw [g0, if_pos c40, b_Mod_perform_249, lt, b_Mod_perform_334]
  · have e := nof n0
    have e2 := nat_of n0
    obtain ⟨w, hw⟩ : ∃ w, w = (R MO 48).toNatClampNeg := ⟨_, rfl⟩
    rw [← hw] at e e2
    have hw40 : w < 40 := by
      rw [tl] at c40
      simp only [Int32.reduceToInt] at c40
      omega
    refine fin (up C (m + 10) w (R A_registers a)) (up R A_output w (R A_registers a)) (fun k hk => fu hk) (fun k hk => fu hk) (fun k h1 h2 => ?_) ?_ ?_
    · by_cases z : k = w
      · rw [z, up_self, up_self]
      · rw [up_ne (Or.inr z), up_ne (Or.inr z)]
        exact g3 k h1 (by omega)
    · rw [f0, f_Mch_putOut, e48', if_neg n0, if_neg c40, chk_i (by rw [e]; exact nki hw40 (by decide)), lt, ← hw, b_Mch_putOut_24, lt, Option.bind_some]
      rfl
    · rw [g0, if_neg c40, d4, chk_i (nki ha (by decide)), chk_i (by rw [e]; exact nki hw40 (by decide)), lt, ← hw, nkc (by omega), b_Mod_perform_249, lt, fu (show MO ≠ A_output by decide), b_Mod_perform_334]
theorem ti_l {n N : Nat} (hN : N ≤ 15) : ∀ (d f k : Nat) (R : IM), k + d = N → d < f → R MO 45 = nI N → ∃ R', l_Mod_takeInput_12 n f (nI k) R = some R' ∧ (∀ b, b ≠ 126 → b ≠ 127 → R' b = R b) ∧ (∀ j, k ≤ j → j < N → R' 126 j = R 126 (j + 1) ∧ R' 127 j = R 127 (j + 1)) ∧ ∀ j, j < k → R' 126 j = R 126 j ∧ R' 127 j = R 127 j
  | 0, f + 1, k, R, hd, _, h45 => by
    have hk : k = N := by omega
    subst hk
    exact ⟨R, by rw [l_Mod_takeInput_12, h45, if_pos (Int32.le_refl _)], fun _ _ _ => rfl, fun j h1 h2 => by omega, fun _ _ => ⟨rfl, rfl⟩⟩
  | d + 1, f + 1, k, R, hd, hf, h45 => by
    obtain ⟨R', e, a1, a2, a3⟩ := ti_l (n := n) hN d f (k + 1) (up (up R A_inputValues k (R A_inputValues (k + 1))) A_inputTags k (R A_inputTags (k + 1))) (by omega) (by omega) (by rw [fu (show MO ≠ A_inputTags by decide), fu (show MO ≠ A_inputValues by decide)]; exact h45)
    refine ⟨R', ?_, fun b z1 z2 => by rw [a1 b z1 z2, fu z2, fu z1], fun j h1 h2 => ?_, fun j hj => ?_⟩
    · rw [← e, l_Mod_takeInput_12, h45, if_neg (nk (by omega) (by omega)), nk1, chk_i (nki (by omega) (by decide)), chk_i (nki (by omega) (by decide)), nkc (by omega), nkc (by omega)]
      simp only [lt]
      rw [fu (show A_inputTags ≠ A_inputValues by decide)]
    · by_cases z : j = k
      · obtain ⟨x1, x2⟩ := a3 k (by omega)
        rw [z, x1, x2]
        refine ⟨?_, up_self⟩
        rw [fu (show (126 : Nat) ≠ A_inputTags by decide)]
        exact up_self
      · obtain ⟨x1, x2⟩ := a2 j (by omega) h2
        rw [x1, x2, fu (show (126 : Nat) ≠ A_inputTags by decide), up_ne (Or.inr (by omega)), up_ne (Or.inr (by omega)), fu (show (127 : Nat) ≠ A_inputValues by decide)]
        exact ⟨rfl, rfl⟩
    · obtain ⟨x1, x2⟩ := a3 j (by omega)
      rw [x1, x2, fu (show (126 : Nat) ≠ A_inputTags by decide), up_ne (Or.inr (by omega)), up_ne (Or.inr (by omega)), fu (show (127 : Nat) ≠ A_inputValues by decide)]
      exact ⟨rfl, rfl⟩
set_option maxHeartbeats 1000000 in
theorem perf_in {b n m a bb c pl : Nat} {C R : IM} (ps : PS b n m 18 a bb c pl C R) (h45 : ¬ R MO 45 = 0) : PG b n m C R 18 := by
  obtain ⟨hn, hm, d, q1, q2, q3, q4, t12, t13, t14, h50⟩ := ps
  obtain ⟨hk2, ha, hb, hc, hpl, d1, d2, d3, d4, d5, d6, d7, d8, d9, d10, d11, d12, d13, d14, d15⟩ := d
  have mm := m35 hm
  obtain ⟨g1, g2, g3⟩ := q3
  have n0 : ¬ R MO 45 < 0 := by rw [ti]; simp only [Int32.reduceToInt]; omega
  have e := nof n0
  have e2 := nat_of n0
  obtain ⟨N1, hN1⟩ : ∃ w, w = (R MO 45).toNatClampNeg := ⟨_, rfl⟩
  rw [← hN1] at e e2
  obtain ⟨N, hN⟩ : ∃ N, N1 = N + 1 := ⟨N1 - 1, by
    have : N1 ≠ 0 := fun z => h45 (by rw [e, z]; rfl)
    omega⟩
  subst hN
  have hN15 : N ≤ 15 := by omega
  have em1 : nI (N + 1) - 1 = nI N := nsb (b := 1) (by omega)
  -- the reference
  obtain ⟨v, hv⟩ : ∃ v, v = R A_inputValues 0 := ⟨_, rfl⟩
  have rv : f_Mod_result R = some v := by
    unfold f_Mod_result
    rw [d6, d8, chk_i (nki hb (by decide)), chk_i (nki hc (by decide)), d2, hv]
    rfl
  obtain ⟨R1, hR1⟩ : ∃ z, z = up (up R A_registers a v) A_registerTags a (R MO 83) := ⟨_, rfl⟩
  have m1 : R1 MO = R MO := by rw [hR1, fu (by decide), fu (by decide)]
  obtain ⟨R2, eR, r1, r2, -⟩ := ti_l (n := n) hN15 N n 0 (up R1 MO 45 (nI N)) (by omega) (by omega) up_self
  have fR : f_Mod_perform n R = some (nI pl + 1, R2) := by
    rw [kperf hk2 d2, if_pos (by omega), k44 ha d4 rv, ← hR1]
    unfold b_Mod_perform_72
    rw [m1, d2]
    show (Option.bind (f_Mod_takeInput n R1) fun v21 => b_Mod_perform_334 n (R MO 42 + 1) v21) = _
    have : f_Mod_takeInput n R1 = some R2 := by
      rw [f_Mod_takeInput, lt, m1, e, em1]
      exact eR
    rw [this, Option.bind_some, b_Mod_perform_334, d12]
  -- the class
  have e45 : C (m + 13) 5 = nI (N + 1) := by rw [q2.2.2.2.2.2.2.1, e]
  have cv : C (m + 8) 0 = v := by rw [(g3 0 (by omega)).1, hv]
  obtain ⟨C2, hC2⟩ : ∃ z, z = up (cpy (cpy C (m + 8) (m + 8) 1 0 15) (m + 9) (m + 9) 1 0 15) (m + 13) 5 (nI N) := ⟨_, rfl⟩
  have c2b : ∀ k, k ≠ m + 8 → k ≠ m + 9 → k ≠ m + 13 → C2 k = C k := fun k z1 z2 z3 => by
    funext j
    rw [hC2, fu z3, cpy_aa, if_neg (fun z => z2 z.1), cpy_aa, if_neg (fun z => z1 z.1)]
  have c28 : ∀ k, k < 15 → C2 (m + 8) k = C (m + 8) (k + 1) ∧ C2 (m + 9) k = C (m + 9) (k + 1) := fun k hk => by
    rw [hC2, fu (show m + 8 ≠ m + 13 by omega), fu (show m + 9 ≠ m + 13 by omega), cpy_aa, if_neg (fun z => by omega), cpy_aa, if_pos ⟨rfl, by omega, by omega⟩, cpy_aa, if_pos ⟨rfl, by omega, by omega⟩, cpy_aa, if_neg (fun z => by omega), Nat.sub_zero, Nat.add_comm 1 k]
    exact ⟨rfl, rfl⟩
  have c213 : ∀ j, j ≠ 5 → C2 (m + 13) j = C (m + 13) j := fun j hj => by
    rw [hC2, up_ne (Or.inr hj), cpy_aa, if_neg (fun z => by omega), cpy_aa, if_neg (fun z => by omega)]
  have tk : f_Mch_takeInput m C = some (v, C2) := by
    have x5 : cpy (cpy C (m + 8) (m + 8) 1 0 15) (m + 9) (m + 9) 1 0 15 (m + 13) 5 = nI (N + 1) := by
      rw [cpy_aa, if_neg (fun z => by omega), cpy_aa, if_neg (fun z => by omega)]; exact e45
    rw [f_Mch_takeInput]
    show some (C (m + 8) 0, up (cpy (cpy C (m + 8) (m + 8) 1 0 15) (m + 9) (m + 9) 1 0 15) (m + 13) 5 (cpy (cpy C (m + 8) (m + 8) 1 0 15) (m + 9) (m + 9) 1 0 15 (m + 13) 5 - 1)) = _
    rw [x5, em1, cv, ← hC2]
  have fC : f_Stp_perform n m C = some (up (up (up (up C2 (m + 6) a v) (m + 7) a (R MO 83)) (m + 6) 8 (nI pl + 1)) (m + 7) 8 (C 35 13)) := by
    unfold f_Stp_perform
    rw [d1]
    show (Option.bind (f_Mch_takeInput m C) fun v13 => Option.bind (f_Mch_setRegister m (C 35 5) v13.1 (v13.2 35 12) v13.2) fun v15 => b_Stp_perform_317 n m ((C 35 2) + 1) v15) = _
    rw [tk, Option.bind_some]
    dsimp only
    rw [d3, c2b 35 (by omega) (by omega) (by omega), t12, sreg (by omega), Option.bind_some, b317, fu (show 35 ≠ m + 7 by omega), fu (show 35 ≠ m + 6 by omega), c2b 35 (by omega) (by omega) (by omega), d11]
  have rb : ∀ k, k ≠ MO → ¬ (124 ≤ k ∧ k ≤ 127) → R2 k = R k := fun k z1 z2 => by rw [r1 k (by omega) (by omega), fu z1, hR1, fu (by show k ≠ 125; omega), fu (by show k ≠ 124; omega)]
  have rm : ∀ j, j ≠ 45 → R2 MO j = R MO j := fun j hj => by rw [r1 MO (by decide) (by decide), up_ne (Or.inr hj), m1]
  have r45 : R2 MO 45 = nI N := by rw [r1 MO (by decide) (by decide), up_self]
  have cb : ∀ k, ¬ (m + 6 ≤ k ∧ k ≤ m + 9) → k ≠ m + 13 → up (up C2 (m + 6) a v) (m + 7) a (R MO 83) k = C k := fun k z1 z2 => by rw [fu (by omega), fu (by omega), c2b k (by omega) (by omega) z2]
  have q1' : Q1 (up (up C2 (m + 6) a v) (m + 7) a (R MO 83)) m R2 := by
    have z := Q1_reg (v := v) (t := R MO 83) ha (Q1_c (C' := C2) (R' := R) q1 (fun i h1 h2 => c2b _ (by omega) (by omega) (by omega)) (fun _ _ _ => rfl) rfl rfl)
    rw [← hR1] at z
    exact Q1_c z (fun _ _ _ => rfl) (fun k h1 h2 => by rw [r1 k (by omega) (by omega), fu (by show k ≠ 102; omega)]) (by rw [rm 42 (by decide), m1]) (by rw [rm 43 (by decide), m1])
  refine ⟨up (up C2 (m + 6) a v) (m + 7) a (R MO 83), R2, nI pl + 1, fC, fR, q1', ?_, ⟨?_, ?_, fun k hk => ?_⟩, Q4_c (by omega) q4 (cb _ (by omega) (by omega)) (rb _ (by decide) (by decide)) (rm 48 (by decide)), ⟨fun k z1 z2 => cb k (by omega) z2, fun j z1 z2 z3 => by rw [fu (by omega), fu (by omega), c213 j z2], fun k z1 z2 => rb k z1 (by omega), fun j z1 _ _ _ => rm j z1⟩, by rw [rm 50 (by decide), h50]; rfl⟩
  · obtain ⟨a0, a1, a2, a3, a4, a5, a6, a7, a8⟩ := q2
    have x13 : ∀ j, j ≠ 5 → up (up C2 (m + 6) a v) (m + 7) a (R MO 83) (m + 13) j = C (m + 13) j := fun j hj => by rw [fu (by omega), fu (by omega), c213 j hj]
    refine ⟨?_, ?_, ?_, ?_, ?_, ?_, ?_, ?_, ?_⟩
    · rw [cb m (by omega) (by omega), rm 34 (by decide)]; exact a0
    · rw [cb m (by omega) (by omega), rm 44 (by decide)]; exact a1
    · rw [x13 1 (by decide), rm 48 (by decide)]; exact a2
    · rw [x13 2 (by decide), rm 51 (by decide)]; exact a3
    · rw [x13 3 (by decide), rm 53 (by decide)]; exact a4
    · rw [x13 4 (by decide), rm 54 (by decide)]; exact a5
    · rw [fu (by omega), fu (by omega), hC2, up_self, r45]
    · rw [x13 6 (by decide), rm 52 (by decide)]; exact a7
    · rw [x13 7 (by decide), rm 55 (by decide)]; exact a8
  · rw [r45, nI_toInt (by omega)]; omega
  · rw [r45, nI_toInt (by omega)]; omega
  · rw [r45, nI_toInt (by omega)] at hk
    have hkN : k < N := by omega
    obtain ⟨x1, x2⟩ := c28 k (by omega)
    obtain ⟨y1, y2⟩ := r2 k (by omega) hkN
    obtain ⟨z1, z2⟩ := g3 (k + 1) (by omega)
    rw [fu (by omega), fu (by omega), fu (show m + 9 ≠ m + 7 by omega), fu (show m + 9 ≠ m + 6 by omega), x1, x2, z1, z2]
    have w1 : R2 A_inputValues k = R A_inputValues (k + 1) := by
      rw [show R2 A_inputValues k = R2 126 k from rfl, y1, fu (show (126 : Nat) ≠ MO by decide), hR1, fu (by decide), fu (by decide)]
    have w2 : R2 A_inputTags k = R A_inputTags (k + 1) := by
      rw [show R2 A_inputTags k = R2 127 k from rfl, y2, fu (show (127 : Nat) ≠ MO by decide), hR1, fu (by decide), fu (by decide)]
    rw [w1, w2]
    exact ⟨rfl, rfl⟩
