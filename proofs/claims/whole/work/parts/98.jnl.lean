/-! a row of the journal -/
set_option maxHeartbeats 1000000 in
theorem jn_c {b m : Nat} {C R : IM} (hm : isMch m) (q9 : Q9 b C m R) (qc : QC C m) (hb : b ≤ 2000000) : ∃ jn C', jn ≤ b ∧ R MO 63 = nI jn ∧ f_Rng_add (m + 17) 39 C = some C' ∧ (∀ k, k ≠ m + 17 → k ≠ m + 18 → C' k = C k) ∧ (∀ j, 2 ≤ j → C' (m + 17) j = C (m + 17) j) ∧ ∀ R', R' MO 63 = nI (jn + 1) → (∀ j, j < 6 → R' A_entries (6 * (jn % 16) + j) = C 39 j) → (∀ j, (j < 6 * (jn % 16) ∨ 6 * (jn % 16) + 6 ≤ j) → R' A_entries j = R A_entries j) → Q9 (b + 1) C' m R' := by
  have mm := m35 hm
  obtain ⟨g1, g2, g3, g4, g5⟩ := q9
  have n0 : ¬ R MO 63 < 0 := by rw [ti]; simp only [Int32.reduceToInt]; omega
  have e := nof n0
  have e2 := nat_of n0
  obtain ⟨jn, hj⟩ : ∃ w, w = (R MO 63).toNatClampNeg := ⟨_, rfl⟩
  rw [← hj] at e e2
  have jb : jn ≤ b := by omega
  have ti16 : ∀ x, x ≤ 2000001 → (nI x < 16 ↔ x < 16) := fun x hx => by
    rw [ti, nI_toInt (by omega)]
    simp only [Int32.reduceToInt]
    omega
  obtain ⟨cz, hcz⟩ : ∃ cz, cz = if jn < 16 then jn else 16 := ⟨_, rfl⟩
  obtain ⟨fz, hfz⟩ : ∃ fz, fz = if jn < 16 then 0 else jn % 16 := ⟨_, rfl⟩
  have c0 : C (m + 17) 0 = nI cz := by
    rw [g3, e, hcz]
    by_cases z : jn < 16
    · rw [if_pos ((ti16 jn (by omega)).mpr z), if_pos z]
    · rw [if_neg (fun y => z ((ti16 jn (by omega)).mp y)), if_neg z]; rfl
  have c1 : C (m + 17) 1 = nI fz := by
    have f16 : fz < 16 := by rw [hfz]; split <;> omega
    apply Int32.toInt_inj.mp
    rw [g4, nI_toInt (by omega), e, nI_toInt (by omega), hfz]
    by_cases z : jn < 16
    · rw [if_pos ((ti16 jn (by omega)).mpr z), if_pos z]; rfl
    · rw [if_neg (fun y => z ((ti16 jn (by omega)).mp y)), if_neg z]; omega
  obtain ⟨C', fA, d1, d2, d3, d4, d5, d6⟩ := radd (x0 := m + 17) (x1 := 39) (M := 16) (w := 6) (cz := cz) (fz := fz) (C := C) qc.2.2.1 qc.2.2.2 c0 c1 (by decide) (by decide) (by decide) (by rw [hcz]; split <;> omega) (by rw [hfz]; split <;> omega) (len18 hm) rfl (by omega) (by omega)
  have erow : (if cz = 16 then fz else (fz + cz) % 16) = jn % 16 := by
    by_cases z : jn < 16
    · rw [hcz, if_pos z, if_neg (by omega), hfz, if_pos z, Nat.zero_add]
    · rw [hcz, if_neg z, if_pos rfl, hfz, if_neg z]
  rw [erow] at d5 d6
  refine ⟨jn, C', jb, e, fA, d1, d4, fun R' r1 r2 r3 => ?_⟩
  have e0 : (if cz = 16 then 16 else cz + 1) = if jn + 1 < 16 then jn + 1 else 16 := by
    rw [hcz]; split <;> split <;> split <;> omega
  have e1 : (if cz = 16 then (fz + 1) % 16 else fz) = if jn + 1 < 16 then 0 else (jn + 1) % 16 := by
    rw [hcz, hfz]
    by_cases z : jn < 16
    · rw [if_pos z, if_pos z, if_neg (by omega)]
      split <;> omega
    · rw [if_neg z, if_neg z, if_pos rfl, if_neg (by omega)]
      omega
  rw [e0] at d2
  rw [e1] at d3
  refine ⟨?_, ?_, ?_, ?_, fun k h1 h2 => ?_⟩
  · rw [r1, nI_toInt (by omega)]; omega
  · rw [r1, nI_toInt (by omega)]; omega
  · rw [d2, r1]
    by_cases z : jn + 1 < 16
    · rw [if_pos z, if_pos ((ti16 _ (by omega)).mpr z)]
    · rw [if_neg z, if_neg (fun y => z ((ti16 _ (by omega)).mp y))]; rfl
  · rw [d3, r1]
    by_cases z : jn + 1 < 16
    · rw [if_pos z, if_pos ((ti16 _ (by omega)).mpr z)]; rfl
    · rw [if_neg z, if_neg (fun y => z ((ti16 _ (by omega)).mp y)), nI_toInt (by omega), nI_toInt (by omega)]; omega
  · rw [r1, nI_toInt (by omega)] at h2
    by_cases z : 6 * (jn % 16) ≤ k ∧ k < 6 * (jn % 16) + 6
    · obtain ⟨i, hi⟩ : ∃ i, k = 6 * (jn % 16) + i := ⟨k - 6 * (jn % 16), by omega⟩
      rw [hi, r2 i (by omega)]
      exact d5 i (by omega)
    · rw [r3 k (by omega)]
      have := d6 k (by omega)
      rw [show C' (m + 18) k = C' (m + 17 + 1) k from rfl, this]
      refine g5 k h1 ?_
      rw [e, nI_toInt (by omega)]
      omega
theorem jx {jn : Nat} (h : jn ≤ 2000000) : (6 : Int32) * (nI jn - nI jn / (16) * (16)) = nI (6 * (jn % 16)) := by
  have t0 : (nI jn).toInt = jn := nI_toInt (by omega)
  have e : nI jn - nI jn / (16) * (16) = nI (jn % 16) := by
    apply Int32.toInt_inj.mp
    rw [remS (by omega), t0, nI_toInt (by omega)]
    omega
  rw [e]
  exact nml (a := 6)
set_option maxHeartbeats 1000000 in
theorem nt {jn : Nat} {R : IM} {x1 x2 x3 x4 : Int32} (hj : jn ≤ 2000000) (h : R MO 63 = nI jn) : ∃ R', f_Mod_noteAt x1 x2 x3 x4 R = some R' ∧ (∀ b, b ≠ MO → b ≠ A_entries → R' b = R b) ∧ (∀ j, j ≠ 63 → R' MO j = R MO j) ∧ R' MO 63 = nI (jn + 1) ∧ R' A_entries (6 * (jn % 16)) = x1 ∧ R' A_entries (6 * (jn % 16) + 1) = x2 ∧ R' A_entries (6 * (jn % 16) + 2) = x3 ∧ R' A_entries (6 * (jn % 16) + 3) = (if x4 = 0 then 0 else R MO 83) ∧ R' A_entries (6 * (jn % 16) + 4) = (if x4 = 0 then 0 else R MO 84) ∧ R' A_entries (6 * (jn % 16) + 5) = R MO 50 ∧ ∀ j, (j < 6 * (jn % 16) ∨ 6 * (jn % 16) + 6 ≤ j) → R' A_entries j = R A_entries j := by
  obtain ⟨t, ht⟩ : ∃ t, t = 6 * (jn % 16) := ⟨_, rfl⟩
  have tb6 : t + 6 ≤ 96 := by omega
  rw [← ht]
  have f1 : nI t + 1 = nI (t + 1) := nk1
  have f2 : nI t + 2 = nI (t + 2) := nad (b := 2)
  have f3 : nI t + 3 = nI (t + 3) := nad (b := 3)
  have f4 : nI t + 4 = nI (t + 4) := nad (b := 4)
  have f5 : nI t + 5 = nI (t + 5) := nad (b := 5)
  obtain ⟨R', hR'⟩ : ∃ z, z = up (up (up (up (up (up (up R A_entries t x1) A_entries (t + 1) x2) A_entries (t + 2) x3) A_entries (t + 3) (if x4 = 0 then 0 else R MO 83)) A_entries (t + 4) (if x4 = 0 then 0 else R MO 84)) A_entries (t + 5) (R MO 50)) MO 63 (nI (jn + 1)) := ⟨_, rfl⟩
  refine ⟨R', ?_, fun b z1 z2 => ?_, fun j hj => ?_, ?_, ?_, ?_, ?_, ?_, ?_, ?_, fun j hj => ?_⟩
  · rw [f_Mod_noteAt, h, jx hj, ← ht, f1, f2, f3, f4, f5]
    simp only [lt, fu (show MO ≠ A_entries by decide)]
    rw [chk_i (nki (by omega) (by decide)), chk_i (nki (by omega) (by decide)), chk_i (nki (by omega) (by decide)), chk_i (nki (by omega) (by decide)), chk_i (nki (by omega) (by decide)), chk_i (nki (by omega) (by decide)), nkc (show t < 5000 by omega), nkc (show t + 1 < 5000 by omega), nkc (show t + 2 < 5000 by omega), nkc (show t + 3 < 5000 by omega), nkc (show t + 4 < 5000 by omega), nkc (show t + 5 < 5000 by omega)]
    rw [h, nk1, ← hR']
  · rw [hR', fu z1, fu z2, fu z2, fu z2, fu z2, fu z2, fu z2]
  · rw [hR', up_ne (Or.inr hj), fu (by decide), fu (by decide), fu (by decide), fu (by decide), fu (by decide), fu (by decide)]
  · rw [hR', up_self]
  · rw [hR', fu (show A_entries ≠ MO by decide), up_ne (Or.inr (by omega)), up_ne (Or.inr (by omega)), up_ne (Or.inr (by omega)), up_ne (Or.inr (by omega)), up_ne (Or.inr (by omega)), up_self]
  · rw [hR', fu (show A_entries ≠ MO by decide), up_ne (Or.inr (by omega)), up_ne (Or.inr (by omega)), up_ne (Or.inr (by omega)), up_ne (Or.inr (by omega)), up_self]
  · rw [hR', fu (show A_entries ≠ MO by decide), up_ne (Or.inr (by omega)), up_ne (Or.inr (by omega)), up_ne (Or.inr (by omega)), up_self]
  · rw [hR', fu (show A_entries ≠ MO by decide), up_ne (Or.inr (by omega)), up_ne (Or.inr (by omega)), up_self]
  · rw [hR', fu (show A_entries ≠ MO by decide), up_ne (Or.inr (by omega)), up_self]
  · rw [hR', fu (show A_entries ≠ MO by decide), up_self]
  · rw [hR', fu (show A_entries ≠ MO by decide), up_ne (Or.inr (by omega)), up_ne (Or.inr (by omega)), up_ne (Or.inr (by omega)), up_ne (Or.inr (by omega)), up_ne (Or.inr (by omega)), up_ne (Or.inr (by omega))]
/-- both sides' entry in the journal -/
theorem jn_eq {b m : Nat} {C R : IM} {x4 en : Int32} {kx hx px : Int32} (hm : isMch m) (q9 : Q9 b C m R) (qc : QC C m) (hb : b ≤ 2000000) (e2 : C 35 2 = px) (e4 : C 35 4 = kx) (e11 : C 35 11 = hx) (e12 : C 35 12 = if x4 = 0 then 0 else R MO 83) (e13 : C 35 13 = if x4 = 0 then 0 else R MO 84) (e50 : R MO 50 = en) : ∃ C' R', f_Stp_noteEntry m en C = some C' ∧ f_Mod_noteAt px kx hx x4 R = some R' ∧ Q9 (b + 1) C' m R' ∧ (∀ k, k ≠ 39 → k ≠ m + 17 → k ≠ m + 18 → C' k = C k) ∧ (∀ j, 2 ≤ j → C' (m + 17) j = C (m + 17) j) ∧ (∀ k, k ≠ MO → k ≠ A_entries → R' k = R k) ∧ ∀ j, j ≠ 63 → R' MO j = R MO j := by
  have mm := m35 hm
  obtain ⟨C1, hC1⟩ : ∃ z, z = up (up (up (up (up (up C 39 0 px) 39 1 kx) 39 2 hx) 39 3 (if x4 = 0 then 0 else R MO 83)) 39 4 (if x4 = 0 then 0 else R MO 84)) 39 5 en := ⟨_, rfl⟩
  have c1b : ∀ k, k ≠ 39 → C1 k = C k := fun k hk => by rw [hC1, fu hk, fu hk, fu hk, fu hk, fu hk, fu hk]
  have ne : m + 17 ≠ 39 ∧ m + 18 ≠ 39 ∧ m + 15 ≠ 39 := by rcases hm with rfl | rfl | rfl <;> omega
  obtain ⟨jn, C', jb, ej, fA, d1, d4, q⟩ := jn_c (C := C1) hm (Q9_c (Nat.le_refl b) q9 (c1b _ ne.1) (c1b _ ne.2.1) rfl rfl) (by unfold QC at qc ⊢; rw [c1b _ ne.2.2, c1b _ ne.1]; exact qc) hb
  obtain ⟨R', fN, r1, r2, r3, s0, s1, s2, s3, s4, s5, s6⟩ := nt (x1 := px) (x2 := kx) (x3 := hx) (x4 := x4) (show jn ≤ 2000000 by omega) ej
  refine ⟨C', R', ?_, fN, q R' r3 (fun j hj => ?_) s6, fun k z1 z2 z3 => by rw [d1 k z2 z3, c1b k z1], fun j hj => by rw [d4 j hj, c1b _ ne.1], r1, r2⟩
  · rw [f_Stp_noteEntry]
    simp only [lt, fu (show (35 : Nat) ≠ 39 by decide)]
    rw [e2, e4, e11, e12, e13]
    have : up (up (up (up (up (up C 39 (0 : Int32).toNatClampNeg px) 39 (1 : Int32).toNatClampNeg kx) 39 (2 : Int32).toNatClampNeg hx) 39 (3 : Int32).toNatClampNeg (if x4 = 0 then 0 else R MO 83)) 39 (4 : Int32).toNatClampNeg (if x4 = 0 then 0 else R MO 84)) 39 (5 : Int32).toNatClampNeg en = C1 := hC1.symm
    rw [this, fA, Option.bind_some]
  · have : j = 0 ∨ j = 1 ∨ j = 2 ∨ j = 3 ∨ j = 4 ∨ j = 5 := by omega
    rcases this with rfl | rfl | rfl | rfl | rfl | rfl
    · rw [Nat.add_zero, s0, hC1, up_ne (Or.inr (by decide)), up_ne (Or.inr (by decide)), up_ne (Or.inr (by decide)), up_ne (Or.inr (by decide)), up_ne (Or.inr (by decide)), up_self]
    · rw [s1, hC1, up_ne (Or.inr (by decide)), up_ne (Or.inr (by decide)), up_ne (Or.inr (by decide)), up_ne (Or.inr (by decide)), up_self]
    · rw [s2, hC1, up_ne (Or.inr (by decide)), up_ne (Or.inr (by decide)), up_ne (Or.inr (by decide)), up_self]
    · rw [s3, hC1, up_ne (Or.inr (by decide)), up_ne (Or.inr (by decide)), up_self]
    · rw [s4, hC1, up_ne (Or.inr (by decide)), up_self]
    · rw [s5, hC1, up_self, e50]
