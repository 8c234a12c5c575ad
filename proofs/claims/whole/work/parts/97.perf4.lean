/-! an instruction is done: drop and make -/
theorem dr_l {n m : Nat} {o x : Int32} : ∀ (d f f' k : Nat) (C R : IM), k + d = 96 → d < f → d < f' → (∀ j, j < 96 → C (m + 5) j = R A_owners j) → R MO 85 = o → ∃ C' R', l_Mch_free_2 n m f o (nI k) C = some C' ∧ l_Mod_perform_273 n f' x (nI k) R = some (x, R') ∧ (∀ j, j < 96 → C' (m + 5) j = R' A_owners j) ∧ (∀ b, b ≠ m + 5 → C' b = C b) ∧ ∀ b, b ≠ A_owners → R' b = R b
  | 0, f + 1, f' + 1, k, C, R, hd, _, _, h, _ => by
    have hk : k = 96 := by omega
    subst hk
    exact ⟨C, R, by rw [l_Mch_free_2, if_pos (by decide)], by rw [l_Mod_perform_273, if_pos (by decide)]; rfl, h, fun _ _ => rfl, fun _ _ => rfl⟩
  | d + 1, f + 1, f' + 1, k, C, R, hd, hf, hf', h, h85 => by
    have hk96 : ¬ (96 : Int32) ≤ nI k := nk (N := 96) (by omega) (by decide)
    have e := h k (by omega)
    by_cases z : C (m + 5) k = o
    · obtain ⟨C', R', a1, a2, a3, a4, a5⟩ := dr_l (n := n) (m := m) (o := o) (x := x) d f f' (k + 1) (up C (m + 5) k 0) (up R A_owners k 0) (by omega) (by omega) (by omega) (fun j hj => by
        by_cases y : j = k
        · rw [y, up_self, up_self]
        · rw [up_ne (Or.inr y), up_ne (Or.inr y)]; exact h j hj) (by rw [fu (show MO ≠ A_owners by decide)]; exact h85)
      refine ⟨C', R', ?_, ?_, a3, fun b hb => by rw [a4 b hb, fu hb], fun b hb => by rw [a5 b hb, fu hb]⟩
      · rw [l_Mch_free_2, if_neg hk96, chk_i (nki (by omega) (by decide)), nkc (by omega), if_pos z, lt, b_Mch_free_25, nk1]
        exact a1
      · rw [l_Mod_perform_273, if_neg hk96, chk_i (nki (by omega) (by decide)), nkc (by omega), if_pos (by rw [← e, z, h85]), b_Mod_perform_307, chk_i (nki (by omega) (by decide)), lt, nkc (by omega), nk1]
        exact a2
    · obtain ⟨C', R', a1, a2, a3, a4, a5⟩ := dr_l (n := n) (m := m) (o := o) (x := x) d f f' (k + 1) C R (by omega) (by omega) (by omega) h h85
      refine ⟨C', R', ?_, ?_, a3, a4, a5⟩
      · rw [l_Mch_free_2, if_neg hk96, chk_i (nki (by omega) (by decide)), nkc (by omega), if_neg z, b_Mch_free_25, nk1]
        exact a1
      · rw [l_Mod_perform_273, if_neg hk96, chk_i (nki (by omega) (by decide)), nkc (by omega), if_neg (by rw [← e, h85]; exact z), b_Mod_perform_307, chk_i (nki (by omega) (by decide)), lt, nkc (by omega), nk1, up_id rfl]
        exact a2
theorem perf_drop {b n m a bb c pl : Nat} {C R : IM} (ps : PS b n m 20 a bb c pl C R) : PG b n m C R 20 := by
  obtain ⟨hn, hm, d, q1, q2, q3, q4, t12, t13, t14, h50⟩ := ps
  obtain ⟨hk2, ha, hb, hc, hpl, d1, d2, d3, d4, d5, d6, d7, d8, d9, d10, d11, d12, d13, d14, d15⟩ := d
  have mm := m35 hm
  have kp := kperf (n := n) hk2 d2
  rw [if_neg (by omega), k72 hk2 d2 (by decide) (by decide) (by decide) (by decide) (by decide)] at kp
  obtain ⟨C1, R1, f1, f2, o, cb, rb⟩ := dr_l (n := n) (m := m) (o := R MO 85) (x := nI pl + 1) 96 n n 0 C R (by omega) (by omega) (by omega) (fun j hj => (q1.2.1 j hj).2.2) rfl
  refine ⟨C1, R1, nI pl + 1, ?_, ?_, ?_, Q2_c q2 (cb _ (by omega)) (cb _ (by omega)) (rb _ (by decide)), Q3_c q3 (cb _ (by omega)) (cb _ (by omega)) (rb _ (by decide)) (rb _ (by decide)) (by rw [rb MO (by decide)]), Q4_c (by omega) q4 (cb _ (by omega)) (rb _ (by decide)) (by rw [rb MO (by decide)]), ⟨fun k z1 z2 => cb k (by omega), fun j _ _ _ => by rw [cb (m + 13) (by omega)], fun k z1 z2 => rb k (by show k ≠ 123; omega), fun j _ _ _ _ => by rw [rb MO (by decide)]⟩, by rw [rb MO (by decide), h50]; rfl⟩
  · unfold f_Stp_perform
    rw [d1]
    show (Option.bind (f_Mch_free n m (C 35 14) C) fun v23 => b_Stp_perform_317 n m ((C 35 2) + 1) v23) = _
    have : f_Mch_free n m (C 35 14) C = some C1 := by rw [t14]; exact f1
    rw [this, Option.bind_some, b317, d11, cb 35 (by omega)]
  · rw [kp]
    unfold b_Mod_perform_191
    rw [d2, d12]
    exact f2
  · obtain ⟨h1, h2, h3, h4, h5⟩ := q1
    refine ⟨fun k hk => ?_, fun k hk => ⟨?_, ?_, o k hk⟩, fun k hk => ?_, ?_, ?_⟩
    · rw [cb _ (by omega), cb (m + 2) (by omega), rb _ (by decide), rb A_codeTags (by decide)]; exact h1 k hk
    · rw [cb _ (by omega), rb _ (by decide)]; exact (h2 k hk).1
    · rw [cb _ (by omega), rb _ (by decide)]; exact (h2 k hk).2.1
    · rw [cb _ (by omega), cb (m + 7) (by omega), rb _ (by decide), rb A_registerTags (by decide)]; exact h3 k hk
    · rw [cb _ (by omega), rb _ (by decide)]; exact h4
    · rw [cb _ (by omega), rb _ (by decide)]; exact h5
theorem mk_l {n m M k : Nat} {o : Int32} (hM : M ≤ 16) (hk : k + M ≤ 96) : ∀ (d f f' j : Nat) (C R : IM), j + d = M → d < f → d < f' → Q1 C m R → R MO 85 = o → ∃ C' R', l_Mch_handOut_3 n m f (nI k) (nI M) o (nI j) C = some C' ∧ l_Mod_make_38 n f' (nI M) (nI k) (nI (k + j)) R = l_Mod_make_38 n 1 (nI M) (nI k) (nI (k + M)) R' ∧ Q1 C' m R' ∧ (∀ b, ¬ (m + 3 ≤ b ∧ b ≤ m + 5) → C' b = C b) ∧ ∀ b, ¬ (121 ≤ b ∧ b ≤ 123) → R' b = R b
  | 0, f + 1, f' + 1, j, C, R, hd, _, _, q, _ => by
    have hj : j = M := by omega
    subst hj
    refine ⟨C, R, ?_, ?_, q, fun _ _ => rfl, fun _ _ => rfl⟩
    · rw [l_Mch_handOut_3, if_pos (Int32.le_refl _)]; rfl
    · rw [l_Mod_make_38, l_Mod_make_38, nad, if_pos (Int32.le_refl _), if_pos (Int32.le_refl _)]
  | d + 1, f + 1, f' + 1, j, C, R, hd, hf, hf', q, h85 => by
    have q' : Q1 (up (up (up C (m + 3) (k + j) 0) (m + 4) (k + j) 0) (m + 5) (k + j) o) m (up (up (up R A_owners (k + j) o) A_ints (k + j) 0) A_held (k + j) 0) := by
      have z := Q1_word (w := k + j) (v := 0) (h := 0) (o := o) q
      rw [up_sw (show A_held ≠ A_owners by decide), up_sw (show A_ints ≠ A_owners by decide)] at z
      exact z
    obtain ⟨C', R', a1, a2, a3, a4, a5⟩ := mk_l (n := n) (m := m) (o := o) hM hk d f f' (j + 1) _ _ (by omega) (by omega) (by omega) q' (by rw [fu (show MO ≠ A_held by decide), fu (show MO ≠ A_ints by decide), fu (show MO ≠ A_owners by decide)]; exact h85)
    refine ⟨C', R', ?_, ?_, a3, fun b hb => by rw [a4 b hb, fu (by omega), fu (by omega), fu (by omega)], fun b hb => by rw [a5 b hb, fu (by show b ≠ 122; omega), fu (by show b ≠ 121; omega), fu (by show b ≠ 123; omega)]⟩
    · rw [l_Mch_handOut_3, if_neg (nk (by omega) (by omega)), if_neg (show ¬ (16 : Int32) ≤ nI j from nk (N := 16) (by omega) (by decide)), nad, swd (by omega), Option.bind_some, nk1]
      exact a1
    · rw [← a2, l_Mod_make_38, nad, if_neg (nk (by omega) (by omega)), chk_i (nki (by omega) (by decide))]
      simp only [lt]
      rw [nkc (by omega), h85, nk1]
      rfl
/-- both sides when words are handed out -/
theorem perf_make {b n m a bb c pl M k : Nat} {C R : IM} (ps : PS b n m 19 a bb c pl C R) (hM1 : 1 ≤ M) (hM : M ≤ 16) (hk : k + M ≤ 96) (hr : R A_registers bb = nI M) (hi : f_Mod_in (nI M) 1 16 R = some 1) (hf : f_Mod_freeWords n (nI M) R = some (nI k)) (hmade : C 35 10 = nI k) : ∃ C1 R1, f_Stp_perform n m C = some (up (up C1 (m + 6) 8 (nI pl + 1)) (m + 7) 8 (C 35 13)) ∧ f_Mod_make n R = some (1, R1) ∧ f_Mod_perform n R1 = some (nI pl + 1, R1) ∧ Q1 C1 m R1 ∧ Q2 C1 m R1 ∧ Q3 C1 m R1 ∧ Q4 (b + 1) C1 m R1 ∧ PF m C R C1 R1 ∧ R1 MO 50 = 0 := by
  obtain ⟨hn, hm, d, q1, q2, q3, q4, t12, t13, t14, h50⟩ := ps
  obtain ⟨hk2, ha, hb, hc, hpl, d1, d2, d3, d4, d5, d6, d7, d8, d9, d10, d11, d12, d13, d14, d15⟩ := d
  have mm := m35 hm
  obtain ⟨C2, R2, f1, f2, q1', cb, rb⟩ := mk_l (n := n) (m := m) (o := R MO 85) hM hk M n n 0 C R (by omega) (by omega) (by omega) q1 rfl
  obtain ⟨R3, hR3⟩ : ∃ z, z = up (up R2 A_registers a (nI k)) A_registerTags a (R MO 83) := ⟨_, rfl⟩
  obtain ⟨C3, hC3⟩ : ∃ z, z = up C2 (m + 13) 6 (C (m + 13) 6 + 1) := ⟨_, rfl⟩
  have r2m : R2 MO = R MO := rb MO (by decide)
  have r3m : R3 MO = R MO := by rw [hR3, fu (by decide), fu (by decide), r2m]
  have c3b : ∀ j, ¬ (m + 3 ≤ j ∧ j ≤ m + 5) → j ≠ m + 13 → C3 j = C j := fun j z1 z2 => by rw [hC3, fu z2, cb j z1]
  have fmk : f_Mod_make n R = some (1, up R3 MO 52 (R MO 52 + 1)) := by
    have e2 : l_Mod_make_38 n n (nI M) (nI k) (nI k) R = l_Mod_make_38 n 1 (nI M) (nI k) (nI (k + M)) R2 := f2
    rw [f_Mod_make, d6, chk_i (nki hb (by decide)), nkc (by omega), hr, hi, Option.bind_some, if_neg (by decide), hf, Option.bind_some, b_Mod_make_29, if_pos (nge (by omega)), e2, l_Mod_make_38, nad, if_pos (Int32.le_refl _), r2m, d4, chk_i (nki ha (by decide)), lt, nkc (by omega), fu (show MO ≠ A_registers by decide), r2m, d4, chk_i (nki ha (by decide)), lt, nkc (by omega), ← hR3, lt, r3m]
  have d75 : up R3 MO 52 (R MO 52 + 1) MO 75 = nI 19 := by rw [up_ne (Or.inr (by decide)), r3m]; exact d2
  have q1c : Q1 C3 m R2 := Q1_c q1' (fun i h1 h2 => by rw [hC3, fu (by omega)]) (fun _ _ _ => rfl) rfl rfl
  have q1d := Q1_reg (v := nI k) (t := R MO 83) ha q1c
  rw [← hR3] at q1d
  have x13 : ∀ j, j ≠ 6 → up (up C3 (m + 6) a (nI k)) (m + 7) a (R MO 83) (m + 13) j = C (m + 13) j := fun j hj => by rw [fu (by omega), fu (by omega), hC3, up_ne (Or.inr hj), cb _ (by omega)]
  have cb4 : ∀ j, ¬ (m + 3 ≤ j ∧ j ≤ m + 7) → j ≠ m + 13 → up (up C3 (m + 6) a (nI k)) (m + 7) a (R MO 83) j = C j := fun j z1 z2 => by rw [fu (by omega), fu (by omega), c3b j (by omega) z2]
  have rb4 : ∀ j, ¬ (121 ≤ j ∧ j ≤ 125) → j ≠ MO → up R3 MO 52 (R MO 52 + 1) j = R j := fun j z1 z2 => by rw [fu z2, hR3, fu (by show j ≠ 125; omega), fu (by show j ≠ 124; omega), rb j (by omega)]
  have rm4 : ∀ j, j ≠ 52 → up R3 MO 52 (R MO 52 + 1) MO j = R MO j := fun j hj => by rw [up_ne (Or.inr hj), r3m]
  refine ⟨up (up C3 (m + 6) a (nI k)) (m + 7) a (R MO 83), up R3 MO 52 (R MO 52 + 1), ?_, fmk, ?_, Q1_c q1d (fun _ _ _ => rfl) (fun j h1 h2 => fu (by show j ≠ 102; omega)) (up_ne (Or.inr (by decide))) (up_ne (Or.inr (by decide))), ?_, Q3_c q3 (cb4 _ (by omega) (by omega)) (cb4 _ (by omega) (by omega)) (rb4 _ (by decide) (by decide)) (rb4 _ (by decide) (by decide)) (rm4 45 (by decide)), Q4_c (by omega) q4 (cb4 _ (by omega) (by omega)) (rb4 _ (by decide) (by decide)) (rm4 48 (by decide)), ⟨fun j z1 z2 => cb4 j (by omega) z2, fun j _ _ z3 => x13 j z3, fun j z1 z2 => rb4 j (by omega) z1, fun j _ _ _ z4 => rm4 j z4⟩, by rw [rm4 50 (by decide)]; exact h50⟩
  · unfold f_Stp_perform
    rw [d1]
    show (chk (inb (C 35 6) 9) <| Option.bind (f_Mch_handOut n m (C 35 10) (C (m + 6) (C 35 6 : Int32).toNatClampNeg) (C 35 14) C) fun v18 => lt (up v18 (m + 13) 6 ((v18 (m + 13) 6) + 1)) fun I20 => Option.bind (f_Mch_setRegister m (I20 35 5) (I20 35 10) (I20 35 12) I20) fun v21 => b_Stp_perform_317 n m ((C 35 2) + 1) v21) = _
    have fh : f_Mch_handOut n m (nI k) (nI M) (R MO 85) C = some C2 := f1
    rw [d5, chk_i (nki (by omega) (by decide)), nkc (by omega), (q1.2.2.1 bb hb).1, hr, hmade, t14, fh, Option.bind_some, lt, cb (m + 13) (by omega), ← hC3, c3b 35 (by omega) (by omega), d3, hmade, t12, sreg (by omega), Option.bind_some, b317, d11, cb4 35 (by omega) (by omega)]
  · rw [kperf (by decide) d75, if_neg (by omega), k72 (by decide) d75 (by decide) (by decide) (by decide) (by decide) (by decide), k191 (by decide) d75 (by decide) (by decide) (by decide) (by decide), rm4 42 (by decide), d12]
  · obtain ⟨a0, a1, a2, a3, a4, a5, a6, a7, a8⟩ := q2
    refine ⟨?_, ?_, ?_, ?_, ?_, ?_, ?_, ?_, ?_⟩
    · rw [cb4 m (by omega) (by omega), rm4 34 (by decide)]; exact a0
    · rw [cb4 m (by omega) (by omega), rm4 44 (by decide)]; exact a1
    · rw [x13 1 (by decide), rm4 48 (by decide)]; exact a2
    · rw [x13 2 (by decide), rm4 51 (by decide)]; exact a3
    · rw [x13 3 (by decide), rm4 53 (by decide)]; exact a4
    · rw [x13 4 (by decide), rm4 54 (by decide)]; exact a5
    · rw [x13 5 (by decide), rm4 45 (by decide)]; exact a6
    · rw [fu (by omega), fu (by omega), hC3, up_self, up_self, a7]
    · rw [x13 7 (by decide), rm4 55 (by decide)]; exact a8
