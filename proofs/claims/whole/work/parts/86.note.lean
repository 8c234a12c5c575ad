/-! an answer is kept -/
theorem aw_l {n pz : Nat} (hp : pz < 8) : ∀ (d f k : Nat) (R : IM), k + d = 16 → d < f → R MO 59 = nI pz → ∃ R', l_Mod_ask_365 n f (nI k) R = l_Mod_ask_365 n 1 (nI 16) R' ∧ (∀ b, b ≠ 131 → R' b = R b) ∧ (∀ j, k ≤ j → j < 16 → R' 131 (16 * pz + j) = R 133 j) ∧ ∀ j, j < 16 * pz + k ∨ 16 * pz + 16 ≤ j → R' 131 j = R 131 j
  | 0, f + 1, k, R, hd, _, _ => by
    have hk : k = 16 := by omega
    subst hk
    exact ⟨R, by rw [l_Mod_ask_365, l_Mod_ask_365, if_pos (by decide), if_pos (by decide)], fun _ _ => rfl, fun j h1 h2 => by omega, fun _ _ => rfl⟩
  | d + 1, f + 1, k, R, hd, hf, h59 => by
    have e16 : (16 : Int32) * nI pz + nI k = nI (16 * pz + k) := by rw [show (16 : Int32) = nI 16 from rfl, nml, nad]
    obtain ⟨R', e, a1, a2, a3⟩ := aw_l (n := n) hp d f (k + 1) (up R A_cache (16 * pz + k) (R A_question k)) (by omega) (by omega) (by rw [up_o (by decide)]; exact h59)
    refine ⟨R', ?_, fun b hb => by rw [a1 b hb, fu hb], fun j h1 h2 => ?_, fun j hj => ?_⟩
    · rw [← e, l_Mod_ask_365, if_neg (show ¬ (16 : Int32) ≤ nI k from nk (N := 16) (by omega) (by decide)), chk_i (nki (by omega) (by decide)), h59, e16, chk_i (nki (by omega) (by decide)), lt, nkc (by omega), nkc (by omega), nk1]
    · by_cases q : j = k
      · rw [q, a3 (16 * pz + k) (Or.inl (by omega))]
        exact up_self
      · rw [a2 j (by omega) h2, up_o (by decide)]
    · rw [a3 j (by omega), up_ne (Or.inr (by omega))]
theorem nx8 : ∀ a, a < 8 → (nI a + 1) - (nI a + 1) / (8) * (8) = nI ((a + 1) % 8) := by decide
theorem cz8 : ∀ a, a < 9 → (if (8 : Int32) ≤ nI a then 8 else nI a + 1 : Int32) = nI (if a = 8 then 8 else a + 1) := by decide
set_option maxHeartbeats 1000000 in
theorem aw {n pz cz : Nat} {R : IM} (hn : 1000 ≤ n) (hp : pz < 8) (hc : cz ≤ 8) (h59 : R MO 59 = nI pz) (h58 : R MO 58 = nI cz) : ∃ R', l_Mod_ask_365 n n 0 R = some R' ∧ (∀ b, b ≠ MO → b ≠ 131 → b ≠ 132 → R' b = R b) ∧ (∀ j, j ≠ 58 → j ≠ 59 → R' MO j = R MO j) ∧ R' MO 59 = nI ((pz + 1) % 8) ∧ R' MO 58 = nI (if cz = 8 then 8 else cz + 1) ∧ (∀ j, j < 16 → R' 131 (16 * pz + j) = R 133 j) ∧ (∀ j, j < 16 * pz ∨ 16 * pz + 16 ≤ j → R' 131 j = R 131 j) ∧ R' 132 (5 * pz) = R MO 82 ∧ (∀ j, j < 3 → R' 132 (5 * pz + 1 + j) = R MO (83 + j)) ∧ R' 132 (5 * pz + 4) = R MO 68 ∧ ∀ j, j < 5 * pz ∨ 5 * pz + 5 ≤ j → R' 132 j = R 132 j := by
  obtain ⟨R1, e, a1, a2, a3⟩ := aw_l (n := n) hp 16 n 0 R (by omega) (by omega) h59
  have m1 : ∀ j, R1 MO j = R MO j := fun j => by rw [a1 MO (by decide)]
  have e5 : (5 : Int32) * nI pz = nI (5 * pz) := nml (a := 5)
  have f1 : nI (5 * pz) + 1 = nI (5 * pz + 1) := nk1
  have f2 : nI (5 * pz) + 2 = nI (5 * pz + 2) := nad (b := 2)
  have f3 : nI (5 * pz) + 3 = nI (5 * pz + 3) := nad (b := 3)
  have f4 : nI (5 * pz) + 4 = nI (5 * pz + 4) := nad (b := 4)
  obtain ⟨R2, hR2⟩ : ∃ z, z = up (up (up (up (up R1 A_answers (5 * pz) (R MO 82)) A_answers (5 * pz + 1) (R MO 83)) A_answers (5 * pz + 2) (R MO 84)) A_answers (5 * pz + 3) (R MO 85)) A_answers (5 * pz + 4) (R MO 68) := ⟨_, rfl⟩
  have b2 : ∀ b, b ≠ 132 → R2 b = R1 b := fun b hb => by rw [hR2, fu hb, fu hb, fu hb, fu hb, fu hb]
  have m2 : ∀ j, R2 MO j = R MO j := fun j => by rw [b2 MO (by decide), m1]
  have st : l_Mod_ask_365 n n 0 R = some (up (up R2 MO 59 (nI ((pz + 1) % 8))) MO 58 (nI (if cz = 8 then 8 else cz + 1))) := by
    show l_Mod_ask_365 n n (nI 0) R = _
    rw [e, l_Mod_ask_365, if_pos (by decide)]
    simp only [lt, fu (show MO ≠ A_answers by decide), m1, h59, e5, f1, f2, f3, f4]
    rw [chk_i (nki (by omega) (by decide)), chk_i (nki (by omega) (by decide)), chk_i (nki (by omega) (by decide)), chk_i (nki (by omega) (by decide)), chk_i (nki (by omega) (by decide)), nkc (show 5 * pz < 5000 by omega), nkc (show 5 * pz + 1 < 5000 by omega), nkc (show 5 * pz + 2 < 5000 by omega), nkc (show 5 * pz + 3 < 5000 by omega), nkc (show 5 * pz + 4 < 5000 by omega), ← hR2, nx8 pz hp, up_ne (Or.inr (show 58 ≠ 59 by decide)), m2 58, h58]
    exact congrArg (fun z => some (up (up R2 MO 59 (nI ((pz + 1) % 8))) MO 58 z)) (cz8 cz (by omega))
  refine ⟨_, st, fun b q1 q2 q3 => ?_, fun j q1 q2 => ?_, ?_, up_self, fun j hj => ?_, fun j hj => ?_, ?_, fun j hj => ?_, ?_, fun j hj => ?_⟩
  · rw [fu q1, fu q1, b2 b q3, a1 b q2]
  · rw [up_ne (Or.inr q1), up_ne (Or.inr q2), m2]
  · rw [up_ne (Or.inr (by decide)), up_self]
  · rw [up_o (by decide), up_o (by decide), b2 131 (by decide), a2 j (by omega) hj]
  · rw [up_o (by decide), up_o (by decide), b2 131 (by decide), a3 j (by omega)]
  · rw [up_o (by decide), up_o (by decide), hR2, up_ne (Or.inr (by omega)), up_ne (Or.inr (by omega)), up_ne (Or.inr (by omega)), up_ne (Or.inr (by omega))]
    exact up_self
  · rw [up_o (by decide), up_o (by decide), hR2]
    have : j = 0 ∨ j = 1 ∨ j = 2 := by omega
    rcases this with rfl | rfl | rfl
    · rw [up_ne (Or.inr (by omega)), up_ne (Or.inr (by omega)), up_ne (Or.inr (by omega))]; exact up_self
    · rw [up_ne (Or.inr (by omega)), up_ne (Or.inr (by omega))]; exact up_self
    · rw [up_ne (Or.inr (by omega))]; exact up_self
  · rw [up_o (by decide), up_o (by decide), hR2]
    exact up_self
  · rw [up_o (by decide), up_o (by decide), hR2, up_ne (Or.inr (by omega)), up_ne (Or.inr (by omega)), up_ne (Or.inr (by omega)), up_ne (Or.inr (by omega)), up_ne (Or.inr (by omega)), a1 132 (by decide)]
set_option maxHeartbeats 1000000 in
/-- the cache on both sides, a row more -/
theorem q8_add {tl : Int32 → Nat → Prop} {C R C' R' : IM} {m cz pz : Nat} {kd : Int32} (h : Q8 tl C m R) (h58 : R MO 58 = nI cz) (h59 : R MO 59 = nI pz) (hcz : cz ≤ 8) (hpz : pz < 8) (hpc : cz < 8 → pz = cz) (c0 : C' (m + 15) 0 = nI (if cz = 8 then 8 else cz + 1)) (c1 : C' (m + 15) 1 = nI (if cz = 8 then (pz + 1) % 8 else 0)) (cr : ∀ j, j < 25 → C' (m + 16) (25 * pz + j) = C 37 j) (co : ∀ j, (j < 25 * pz ∨ 25 * pz + 25 ≤ j) → C' (m + 16) j = C (m + 16) j) (r59 : R' MO 59 = nI ((pz + 1) % 8)) (r58 : R' MO 58 = nI (if cz = 8 then 8 else cz + 1)) (rr : ∀ j, j < 16 → R' 131 (16 * pz + j) = R 133 j) (ro : ∀ j, j < 16 * pz ∨ 16 * pz + 16 ≤ j → R' 131 j = R 131 j) (a0 : R' 132 (5 * pz) = R MO 82) (a1 : ∀ j, j < 3 → R' 132 (5 * pz + 1 + j) = R MO (83 + j)) (a4 : R' 132 (5 * pz + 4) = R MO 68) (ao : ∀ j, j < 5 * pz ∨ 5 * pz + 5 ≤ j → R' 132 j = R 132 j) (k0 : C 37 0 = kd) (k1 : R 133 0 = kd) (kb : 0 ≤ kd.toInt ∧ kd.toInt < 22 ∧ tl kd 0) (kq : ∀ j, j < 15 → C 37 (10 + j) = R 133 (1 + j)) (new : ∀ Q, Q < cz → ¬ ∀ j, j < 16 → R 131 (16 * Q + j) = R 133 j) (ans : (C 37 1 = 0 ∧ R MO 82 = 0 ∧ C 37 5 = -1 ∧ ∀ j, j < 3 → (tl kd (51 + j) → C 37 (2 + j) = R MO (83 + j)) ∧ (¬ tl kd (51 + j) → C 37 (2 + j) = 0)) ∨ (C 37 1 = 3 ∧ R MO 82 = 3 ∧ (∀ j, j < 3 → C 37 (2 + j) = 0) ∧ C 37 5 = R MO 68)) : Q8 tl C' m R' := by
  obtain ⟨-, -, -, -, -, -, -, e7⟩ := h
  rw [h58, nI_toInt (by omega)] at e7
  have n8 : nI (if cz = 8 then 8 else cz + 1) = 8 ↔ 7 ≤ cz := by
    refine ⟨fun z => ?_, fun z => ?_⟩
    · have := nij (b := 8) (by split <;> omega) (by decide) z
      split at this <;> omega
    · have : (if cz = 8 then 8 else cz + 1) = 8 := by split <;> omega
      rw [this]; rfl
  refine ⟨c0.trans r58.symm, ?_, ?_, ?_, ?_, ?_, ?_, fun q hq => ?_⟩
  · rw [r58, nI_toInt (by split <;> omega)]; omega
  · rw [r58, nI_toInt (by split <;> omega)]; split <;> omega
  · rw [r59, nI_toInt (by omega)]; omega
  · rw [r59, nI_toInt (by omega)]; omega
  · rw [c1, r58, r59]
    by_cases z : cz = 8
    · rw [if_pos (n8.mpr (by omega)), if_pos z]
    · rw [if_neg z]
      by_cases y : cz = 7
      · rw [if_pos (n8.mpr (by omega)), hpc (by omega), y]
      · rw [if_neg (fun x => by have := n8.mp x; omega)]
        rfl
  · rw [r58, r59]
    intro z
    have hc7 : ¬ 7 ≤ cz := fun x => z (n8.mpr x)
    rw [hpc (by omega), if_neg (by omega), Nat.mod_eq_of_lt (by omega)]
  · rw [r58, nI_toInt (by split <;> omega)] at hq
    have hq8 : q < 8 := by
      have : (if cz = 8 then 8 else cz + 1) ≤ 8 := by split <;> omega
      omega
    by_cases qp : q = pz
    · subst qp
      have x0 : R' A_cache (16 * q) = kd := by
        have := rr 0 (by decide)
        rw [Nat.add_zero] at this
        rw [show A_cache = 131 from rfl, this]; exact k1
      have y0 : R' A_answers (5 * q) = R MO 82 := a0
      refine ⟨?_, fun j hj => ?_, ⟨?_, ?_, ?_, fun p hp z => ?_⟩, ?_, ?_, fun j hj => ?_, ?_, ?_⟩
      · have := cr 0 (by decide)
        rw [Nat.add_zero (25 * q)] at this
        rw [x0, this]; exact k0
      · rw [show 25 * q + 10 + j = 25 * q + (10 + j) by omega, cr (10 + j) (by omega), kq j hj, show 16 * q + 1 + j = 16 * q + (1 + j) by omega]
        exact (rr (1 + j) (by omega)).symm
      · rw [x0]; exact kb.1
      · rw [x0]; exact kb.2.1
      · rw [x0]; exact kb.2.2
      · have hpc' : p < cz := by
          by_cases z8 : cz = 8
          · omega
          · have := hpc (by omega); omega
        refine new p hpc' (fun j hj => ?_)
        have w := z j hj
        rw [show A_cache = 131 from rfl, ro (16 * p + j) (Or.inl (by omega)), rr j hj] at w
        exact w
      · rw [cr 1 (by decide), y0]
        rcases ans with ⟨b1, b2, -⟩ | ⟨b1, b2, -⟩ <;> rw [b1, b2]
      · rw [y0]
        rcases ans with ⟨b1, b2, -⟩ | ⟨b1, b2, -⟩
        · exact Or.inl b2
        · exact Or.inr b2
      · rw [y0, x0, show 25 * q + 2 + j = 25 * q + (2 + j) by omega, cr (2 + j) (by omega), show A_answers = 132 from rfl, a1 j hj]
        rcases ans with ⟨b1, b2, b3, b4⟩ | ⟨b1, b2, b3, b4⟩
        · refine ⟨fun _ t => (b4 j hj).1 t, fun z => ?_⟩
          rcases z with z | z
          · rw [b2] at z; exact absurd z (by decide)
          · exact (b4 j hj).2 z
        · refine ⟨fun z _ => ?_, fun _ => b3 j hj⟩
          rw [b2] at z; exact absurd z (by decide)
      · rw [y0, cr 5 (by decide)]
        intro z
        rcases ans with ⟨b1, b2, b3, b4⟩ | ⟨b1, b2, b3, b4⟩
        · exact b3
        · rw [b2] at z; exact absurd z (by decide)
      · rw [y0, cr 5 (by decide), show A_answers = 132 from rfl, a4]
        intro z
        rcases ans with ⟨b1, b2, b3, b4⟩ | ⟨b1, b2, b3, b4⟩
        · rw [b2] at z; exact absurd z (by decide)
        · exact b4
    · have hqc : q < cz := by
        by_cases z8 : cz = 8
        · omega
        · have := hpc (by omega)
          rw [if_neg z8] at hq
          omega
      have far : q < pz ∨ pz < q := by omega
      obtain ⟨f0, f1, ⟨g1, g2, g3, g4⟩, f3, f4, f5, f6, f7⟩ := e7 q (by omega)
      have cc : ∀ j, j < 25 → C' (m + 16) (25 * q + j) = C (m + 16) (25 * q + j) := fun j hj => co _ (by omega)
      have rc : ∀ j, j < 16 → R' A_cache (16 * q + j) = R A_cache (16 * q + j) := fun j hj => ro _ (by omega)
      have ra : ∀ j, j < 5 → R' A_answers (5 * q + j) = R A_answers (5 * q + j) := fun j hj => ao _ (by omega)
      have rc0 : R' A_cache (16 * q) = R A_cache (16 * q) := rc 0 (by decide)
      have ra0 : R' A_answers (5 * q) = R A_answers (5 * q) := ra 0 (by decide)
      have cc0 : C' (m + 16) (25 * q) = C (m + 16) (25 * q) := cc 0 (by decide)
      rw [rc0, ra0, cc0]
      refine ⟨f0, fun j hj => ?_, ⟨g1, g2, g3, fun p hp z => ?_⟩, ?_, f4, fun j hj => ?_, ?_, ?_⟩
      · rw [show 25 * q + 10 + j = 25 * q + (10 + j) by omega, cc (10 + j) (by omega), show 16 * q + 1 + j = 16 * q + (1 + j) by omega, rc (1 + j) (by omega), show 25 * q + (10 + j) = 25 * q + 10 + j by omega, show 16 * q + (1 + j) = 16 * q + 1 + j by omega]
        exact f1 j hj
      · by_cases pp : p = pz
        · subst pp
          refine new q hqc (fun j hj => ?_)
          have w := z j hj
          rw [rc j hj] at w
          rw [← rr j hj]
          exact w.symm
        · refine g4 p hp (fun j hj => ?_)
          have w := z j hj
          rw [rc j hj, show A_cache = 131 from rfl, ro (16 * p + j) (by omega)] at w
          exact w
      · rw [cc 1 (by decide)]; exact f3
      · rw [show 25 * q + 2 + j = 25 * q + (2 + j) by omega, cc (2 + j) (by omega), show 5 * q + 1 + j = 5 * q + (1 + j) by omega, ra (1 + j) (by omega), show 25 * q + (2 + j) = 25 * q + 2 + j by omega, show 5 * q + (1 + j) = 5 * q + 1 + j by omega]
        exact f5 j hj
      · rw [cc 5 (by decide)]; exact f6
      · rw [cc 5 (by decide), ra 4 (by decide)]; exact f7
