/-! an attempt: reading the instruction, settling -/
theorem bitT : ∀ T, T < 8 → (nI T &&& 1 = 0 ↔ ¬ T / 2 ^ 0 % 2 = 1) ∧ (nI T &&& 2 = 0 ↔ ¬ T / 2 ^ 1 % 2 = 1) ∧ (nI T &&& 4 = 0 ↔ ¬ T / 2 ^ 2 % 2 = 1) := by decide
theorem stl {A : AP} {q m T kd a b c pl : Nat} {C R : IM} {dt dw : Int32} (hm : isMch m) (hT : T < 8) (ht : ∀ j, j < 3 → (T / 2 ^ j % 2 = 1 ↔ aTe A q (51 + j))) (d : DEC C R kd a b c pl) (q1 : Q1 C m R) (h1 : (kd = 21 → dt = R A_registerTags a) ∧ (¬ kd = 21 → dt = 0)) (h2 : (∀ w, w < 96 → kd = 12 → R MO 80 = nI w → dw = R A_owners w) ∧ ((¬ kd = 12 ∨ ¬ inW (R MO 80)) → dw = 0)) (un : ∀ j, j < 3 → ¬ aTe A q (51 + j) → R MO (83 + j) = dfl dt (R MO 43) dw j) (ta : ∀ j, j < 3 → aTe A q (51 + j) → C 37 (2 + j) = R MO (83 + j)) : ∃ C', f_Stp_settle m (nI T) C = some C' ∧ (∀ k, k ≠ 35 → C' k = C k) ∧ (∀ j, j ≠ 12 → j ≠ 13 → j ≠ 14 → C' 35 j = C 35 j) ∧ C' 35 12 = R MO 83 ∧ C' 35 13 = R MO 84 ∧ C' 35 14 = R MO 85 := by
  obtain ⟨hk2, ha, hb, hc, hpl, d1, d2, d3, d4, d5, d6, d7, d8, d9, d10, d11, d12, d13, d14, d15⟩ := d
  obtain ⟨b1, b2, b4⟩ := bitT T hT
  have mm := m35 hm
  obtain ⟨C1, hC1⟩ : ∃ z, z = up C 35 12 (R MO 83) := ⟨_, rfl⟩
  have s1 : f_Stp_settle m (nI T) C = b_Stp_settle_50 m (nI T) C1 := by
    unfold f_Stp_settle
    by_cases z : aTe A q 51
    · have z' := (ht 0 (by decide)).mpr z
      have e : C 37 2 = R MO 83 := ta 0 (by decide) z
      rw [if_neg (fun y => b1.mp y z'), lt, hC1]
      show b_Stp_settle_50 m (nI T) (up C 35 12 (C 37 2)) = _
      rw [e]
    · have z' : ¬ T / 2 ^ 0 % 2 = 1 := fun y => z ((ht 0 (by decide)).mp y)
      have e : R MO 83 = dt := un 0 (by decide) z
      rw [if_pos (b1.mpr z'), d1]
      by_cases k21 : kd = 21
      · rw [if_pos ((kde hk2 21 (by decide)).mpr k21), d3, chk_i (nki (by omega) (by decide)), nkc (by omega), b_Stp_settle_47, lt, hC1, e, h1.1 k21, (q1.2.2.1 a ha).2]
      · rw [if_neg (fun y => k21 ((kde hk2 21 (by decide)).mp y)), b_Stp_settle_47, lt, hC1, e, h1.2 k21]
  obtain ⟨C2, hC2⟩ : ∃ z, z = up C1 35 13 (R MO 84) := ⟨_, rfl⟩
  have c1b : ∀ k, k ≠ 35 → C1 k = C k := fun k z => by rw [hC1, fu z]
  have s2 : b_Stp_settle_50 m (nI T) C1 = b_Stp_settle_70 m (nI T) (R MO 84) C1 := by
    unfold b_Stp_settle_50
    by_cases z : aTe A q 52
    · have z' := (ht 1 (by decide)).mpr z
      have e : C1 37 (3 : Int32).toNatClampNeg = R MO 84 := by rw [c1b 37 (by decide)]; exact ta 1 (by decide) z
      rw [if_neg (fun y => b2.mp y z'), e]
    · have z' : ¬ T / 2 ^ 1 % 2 = 1 := fun y => z ((ht 1 (by decide)).mp y)
      have e : R MO 84 = R MO 43 := un 1 (by decide) z
      have e' : C1 (m + 7) (8 : Int32).toNatClampNeg = R MO 84 := by rw [c1b _ (by omega), e]; exact q1.2.2.2.2
      rw [if_pos (b2.mpr z'), e']
  have c2b : ∀ k, k ≠ 35 → C2 k = C k := fun k z => by rw [hC2, fu z, c1b k z]
  have c235 : ∀ j, j ≠ 12 → j ≠ 13 → C2 35 j = C 35 j := fun j z1 z2 => by rw [hC2, up_ne (Or.inr z2), hC1, up_ne (Or.inr z1)]
  have s3 : b_Stp_settle_70 m (nI T) (R MO 84) C1 = some (up C2 35 14 (R MO 85)) := by
    unfold b_Stp_settle_70
    rw [lt, ← hC2]
    by_cases z : aTe A q 53
    · have z' := (ht 2 (by decide)).mpr z
      have e : C2 37 (4 : Int32).toNatClampNeg = R MO 85 := by rw [c2b 37 (by decide)]; exact ta 2 (by decide) z
      rw [if_neg (fun y => b4.mp y z'), lt, e, b_Stp_settle_126]
    · have z' : ¬ T / 2 ^ 2 % 2 = 1 := fun y => z ((ht 2 (by decide)).mp y)
      have e : R MO 85 = dw := un 2 (by decide) z
      rw [if_pos (b4.mpr z'), c235 4 (by decide) (by decide), d1]
      by_cases k12 : kd = 12
      · rw [if_pos ((kde hk2 12 (by decide)).mpr k12), c235 9 (by decide) (by decide), d10]
        by_cases iw : inW (R MO 80)
        · obtain ⟨w, hw, ew⟩ := inW_n iw
          rw [hasW.1 iw, Option.bind_some, if_neg (by decide), ew, chk_i (nki hw (by decide)), nkc (by omega), b_Stp_settle_123, lt, b_Stp_settle_126, c2b _ (by omega), (q1.2.1 w hw).2.2, e, h2.1 w hw k12 ew]
        · rw [hasW.2 iw, Option.bind_some, if_pos rfl, b_Stp_settle_122, b_Stp_settle_123, lt, b_Stp_settle_126, e, h2.2 (Or.inr iw)]
      · rw [if_neg (fun y => k12 ((kde hk2 12 (by decide)).mp y)), b_Stp_settle_122, b_Stp_settle_123, lt, b_Stp_settle_126, e, h2.2 (Or.inl k12)]
  refine ⟨up C2 35 14 (R MO 85), by rw [s1, s2, s3], fun k z => by rw [fu z, c2b k z], fun j z1 z2 z3 => by rw [up_ne (Or.inr z3), c235 j z1 z2], ?_, ?_, up_self⟩
  · rw [up_ne (Or.inr (by decide)), hC2, up_ne (Or.inr (by decide)), hC1, up_self]
  · rw [up_ne (Or.inr (by decide)), hC2, up_self]
theorem and7 {x : Int32} : ∃ a, a < 8 ∧ x &&& 7 = nI a := by
  obtain ⟨a, h1, h2⟩ := anda (x := x) (c := 7) (by decide)
  exact ⟨a, by omega, h2⟩
theorem and31 {x : Int32} : ∃ a, a < 32 ∧ x &&& 31 = nI a := by
  obtain ⟨a, h1, h2⟩ := anda (x := x) (c := 31) (by decide)
  exact ⟨a, by omega, h2⟩
/-- the class reads the instruction at a place -/
theorem dcC {n m p pl kx a b c : Nat} {C : IM} {v : Int32} (hm : isMch m) (hpl : pl < 64) (hb : b < 8) (e8 : C (m + 6) 8 = nI pl) (ev : C (m + 1) pl = v) (ek : v &&& 31 = nI kx) (ea : (v >>> ((5 : Int32) &&& 31)) &&& 7 = nI a) (eb : (v >>> ((8 : Int32) &&& 31)) &&& 7 = nI b) (ec : (v >>> ((11 : Int32) &&& 31)) &&& 7 = nI c) : ∃ D, f_Stp_tryOut n m p C = (Option.bind (f_Pol_hasRule p (nI kx) D) fun v10 => if v10 = 0 then (some (2, D)) else (chk (inb (nI kx) 22) <| Option.bind (f_Stp_fillQuestion n m (D (p + 5) (nI kx).toNatClampNeg) D) fun v14 => Option.bind (f_Stp_ask n m p v14) fun v16 => if v16 37 1 = 0 then (Option.bind (f_Stp_hindrance n m (up v16 m 2 (v16 37 5))) fun v20 => b_Stp_tryOut_127 n m p v20.1 v20.2) else (b_Stp_tryOut_127 n m p (v16 37 1) (up v16 m 2 (v16 37 5))))) ∧ (∀ k, k ≠ 35 → D k = C k) ∧ D 35 2 = nI pl ∧ D 35 3 = C (m + 2) pl ∧ D 35 4 = nI kx ∧ D 35 5 = nI a ∧ D 35 6 = nI b ∧ D 35 7 = nI c ∧ D 35 8 = v >>> ((16 : Int32) &&& 31) ∧ D 35 9 = C (m + 6) b + v >>> ((16 : Int32) &&& 31) ∧ ∀ j, 10 ≤ j → D 35 j = C 35 j := by
  have mm := m35 hm
  obtain ⟨C2, hC2⟩ : ∃ z, z = up (up C 35 2 (nI pl)) 35 4 (-1) := ⟨_, rfl⟩
  have c2b : ∀ k, k ≠ 35 → C2 k = C k := fun k z => by rw [hC2, fu z, fu z]
  have c22 : C2 35 2 = nI pl := by rw [hC2, up_ne (Or.inr (by decide)), up_self]
  obtain ⟨C5, hC5⟩ : ∃ z, z = up (up (up (up (up C2 35 4 (nI kx)) 35 5 (nI a)) 35 6 (nI b)) 35 7 (nI c)) 35 8 (v >>> ((16 : Int32) &&& 31)) := ⟨_, rfl⟩
  have c5b : ∀ k, k ≠ 35 → C5 k = C k := fun k z => by rw [hC5, fu z, fu z, fu z, fu z, fu z, c2b k z]
  have c56 : C5 35 6 = nI b := by rw [hC5, up_ne (Or.inr (by decide)), up_ne (Or.inr (by decide)), up_self]
  have c58 : C5 35 8 = v >>> ((16 : Int32) &&& 31) := by rw [hC5, up_self]
  obtain ⟨C7, hC7⟩ : ∃ z, z = up C5 35 9 (C (m + 6) b + v >>> ((16 : Int32) &&& 31)) := ⟨_, rfl⟩
  have dec : f_Stp_decode v m C2 = some C7 := by
    rw [f_Stp_decode]
    simp only [lt]
    rw [ek, ea, eb, ec, ← hC5, c56, chk_i (nki (by omega) (by decide)), nkc (by omega), c58, c5b _ (by omega), ← hC7]
  have c72 : C7 35 2 = nI pl := by rw [hC7, up_ne (Or.inr (by decide)), hC5, up_ne (Or.inr (by decide)), up_ne (Or.inr (by decide)), up_ne (Or.inr (by decide)), up_ne (Or.inr (by decide)), up_ne (Or.inr (by decide)), c22]
  have c7b : ∀ k, k ≠ 35 → C7 k = C k := fun k z => by rw [hC7, fu z, c5b k z]
  obtain ⟨D, hD⟩ : ∃ z, z = up C7 35 3 (C (m + 2) pl) := ⟨_, rfl⟩
  have d7 : ∀ j, j ≠ 3 → D 35 j = C7 35 j := fun j z => by rw [hD, up_ne (Or.inr z)]
  have d4 : D 35 4 = nI kx := by rw [d7 4 (by decide), hC7, up_ne (Or.inr (by decide)), hC5, up_ne (Or.inr (by decide)), up_ne (Or.inr (by decide)), up_ne (Or.inr (by decide)), up_ne (Or.inr (by decide)), up_self]
  refine ⟨D, ?_, fun k z => by rw [hD, fu z, c7b k z], by rw [d7 2 (by decide), c72], by rw [hD, up_self], d4, ?_, ?_, ?_, ?_, ?_, fun j hj => ?_⟩
  · have e8' : C (m + 6) (8 : Int32).toNatClampNeg = nI pl := e8
    rw [f_Stp_tryOut, e8', lt, lt, ← hC2, c22, if_neg (show ¬ nI pl < 0 from fun z => by have := (nlt (b := 0) (by omega) (by decide)).mp z; omega), if_pos (show nI pl < 64 from (nlt (b := 64) (by omega) (by decide)).mpr hpl), chk_i (nki hpl (by decide)), nkc (by omega), c2b _ (by omega), ev, dec, Option.bind_some, c72, chk_i (nki hpl (by decide)), lt, nkc (by omega), c7b _ (by omega), ← hD, d4]
    rfl
  · rw [d7 5 (by decide), hC7, up_ne (Or.inr (by decide)), hC5, up_ne (Or.inr (by decide)), up_ne (Or.inr (by decide)), up_ne (Or.inr (by decide)), up_self]
  · rw [d7 6 (by decide), hC7, up_ne (Or.inr (by decide)), c56]
  · rw [d7 7 (by decide), hC7, up_ne (Or.inr (by decide)), hC5, up_ne (Or.inr (by decide)), up_self]
  · rw [d7 8 (by decide), hC7, up_ne (Or.inr (by decide)), c58]
  · rw [d7 9 (by decide), hC7, up_self]
  · rw [d7 j (by omega), hC7, up_ne (Or.inr (by omega)), hC5, up_ne (Or.inr (by omega)), up_ne (Or.inr (by omega)), up_ne (Or.inr (by omega)), up_ne (Or.inr (by omega)), up_ne (Or.inr (by omega)), hC2, up_ne (Or.inr (by omega)), up_ne (Or.inr (by omega))]
