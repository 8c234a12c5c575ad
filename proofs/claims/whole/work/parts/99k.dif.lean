/-! differ: names, number of cases, the loop -/
theorem bitX : ∀ S, S < 8 → ∀ T, T < 8 → ((nI S ^^^ nI T) &&& 2 = 0 ↔ S / 2 ^ 1 % 2 = T / 2 ^ 1 % 2) ∧ ((nI S ^^^ nI T) &&& 4 = 0 ↔ S / 2 ^ 2 % 2 = T / 2 ^ 2 % 2) := by decide
theorem DA_c {A B : AP} {p n m kd qa qb : Nat} {C R C' R' : IM} (da : DA A B p n m kd qa qb C R) (hc : ∀ k, ¬ (40 ≤ k ∧ k ≤ 47) → C' k = C k) (hr : ∀ k, k ≠ MO → k ≠ 136 → k ≠ 137 → k ≠ 140 → R' k = R k) (h55 : R' MO 55 = R MO 55) : DA A B p n m kd qa qb C' R' := by
  obtain ⟨hn, hm, hp, wA, wB, pcA, pcB, prA, prB, hk, hqa, hqb, eA, eB, nA, nB, ow, pp⟩ := da
  have p48 : isPol 48 := Or.inr (Or.inl rfl)
  have mm : m + 19 ≤ 40 ∨ 47 < m := by rcases hm with rfl | rfl | rfl <;> omega
  have pp7 : ∀ {p'}, isPol p' → ∀ j, j < 7 → p' + j < 40 ∨ 47 < p' + j := fun {p'} hp' j hj => by rcases hp' with rfl | rfl | rfl <;> omega
  have g : ∀ {D : AP} {ko ro so co : Nat}, PR D ko ro so co R → PR D ko ro so co R' := fun h => PR_c (hr _ (by decide) (by decide) (by decide) (by decide)) (hr _ (by decide) (by decide) (by decide) (by decide)) (hr _ (by decide) (by decide) (by decide) (by decide)) (hr _ (by decide) (by decide) (by decide) (by decide)) (hr _ (by decide) (by decide) (by decide) (by decide)) (hr _ (by decide) (by decide) (by decide) (by decide)) (hr _ (by decide) (by decide) (by decide) (by decide)) (hr _ (by decide) (by decide) (by decide) (by decide)) (hr _ (by decide) (by decide) (by decide) (by decide)) h
  exact ⟨hn, hm, hp, wA, wB, PC_c (fun j hj => hc _ (by have := pp7 hp j hj; omega)) pcA, PC_c (fun j hj => hc _ (by have := pp7 p48 j hj; omega)) pcB, g prA, g prB, hk, hqa, hqb, eA, eB, nA, nB, fun k hk96 => by rw [hc _ (by omega), hr _ (by decide) (by decide) (by decide) (by decide)]; exact ow k hk96, PP_c (hc _ (by omega)) (hc _ (by omega)) (hc _ (by omega)) (hr _ (by decide) (by decide) (by decide) (by decide)) (hr _ (by decide) (by decide) (by decide) (by decide)) h55 pp⟩
theorem vn_eq {A B : AP} {p n m kd qa qb : Nat} {C R : IM} (da : DA A B p n m kd qa qb C R) : ∃ bits, f_Cmp_variedNames p 48 (nI kd) C = some bits ∧ f_Mod_namesOf n (nI qa) (nI (301 + qb)) R = some bits := by
  obtain ⟨hn, hm, hp, wA, wB, pcA, pcB, prA, prB, hk, hqa, hqb, eA, eB, nA, nB, ow, pp⟩ := da
  have w1 := wA.1
  have w2 := wB.1
  obtain ⟨a5, -, -, T1, hT1, eT1, bT1⟩ := (pcA.1 kd hk).2 qa hqa eA
  obtain ⟨b5, -, -, T2, hT2, eT2, bT2⟩ := (pcB.1 kd hk).2 qb hqb eB
  have nA' : R A_named qa = aNm A qa := by have := (prA.2.1 qa hqa).2.2; rwa [Nat.zero_add] at this
  have nB' := (prB.2.1 qb hqb).2.2
  have tA : ∀ w, (aTe A qa w → f_Mod_tells n (nI qa) (nI w) R = some 1) ∧ (¬ aTe A qa w → f_Mod_tells n (nI qa) (nI w) R = some 0) := fun w => by
    have := tel (n := n) (w := w) wA prA hn hqa (by decide) (by decide)
    rwa [Nat.zero_add] at this
  have tB : ∀ w, (aTe B qb w → f_Mod_tells n (nI (301 + qb)) (nI w) R = some 1) ∧ (¬ aTe B qb w → f_Mod_tells n (nI (301 + qb)) (nI w) R = some 0) := fun w => tel (n := n) (w := w) wB prB hn hqb (by decide) (by decide)
  have vA : ∀ j, j < 3 → f_Mod_tells n (nI qa) (nI (51 + j)) R = some (nI (T1 / 2 ^ j % 2)) := fun j hj => by
    by_cases z : aTe A qa (51 + j)
    · rw [(tA _).1 z, (bT1 j hj).mpr z]; rfl
    · have : T1 / 2 ^ j % 2 = 0 := by
        have : ¬ T1 / 2 ^ j % 2 = 1 := fun y => z ((bT1 j hj).mp y)
        omega
      rw [(tA _).2 z, this]; rfl
  have vB : ∀ j, j < 3 → f_Mod_tells n (nI (301 + qb)) (nI (51 + j)) R = some (nI (T2 / 2 ^ j % 2)) := fun j hj => by
    by_cases z : aTe B qb (51 + j)
    · rw [(tB _).1 z, (bT2 j hj).mpr z]; rfl
    · have : T2 / 2 ^ j % 2 = 0 := by
        have : ¬ T2 / 2 ^ j % 2 = 1 := fun y => z ((bT2 j hj).mp y)
        omega
      rw [(tB _).2 z, this]; rfl
  obtain ⟨x2, x4⟩ := bitX T1 hT1 T2 hT2
  have ne : ∀ j, nI (T1 / 2 ^ j % 2) = nI (T2 / 2 ^ j % 2) ↔ T1 / 2 ^ j % 2 = T2 / 2 ^ j % 2 := fun j => ⟨fun z => nij (by omega) (by omega) z, fun z => by rw [z]⟩
  obtain ⟨base, hbase⟩ : ∃ z, z = (aNm A qa ||| aNm B qb) &&& 32767 := ⟨_, rfl⟩
  have c52 : f_Mod_tells n (nI qa) 52 R = some (nI (T1 / 2 ^ 1 % 2)) := vA 1 (by decide)
  have d52 : f_Mod_tells n (nI (301 + qb)) 52 R = some (nI (T2 / 2 ^ 1 % 2)) := vB 1 (by decide)
  have c53 : f_Mod_tells n (nI qa) 53 R = some (nI (T1 / 2 ^ 2 % 2)) := vA 2 (by decide)
  have d53 : f_Mod_tells n (nI (301 + qb)) 53 R = some (nI (T2 / 2 ^ 2 % 2)) := vB 2 (by decide)
  have cl : f_Cmp_variedNames p 48 (nI kd) C = if (nI T1 ^^^ nI T2) &&& 2 = 0 then b_Cmp_variedNames_62 p 48 C base (nI T1 ^^^ nI T2) else b_Cmp_variedNames_62 p 48 C (base ||| 1) (nI T1 ^^^ nI T2) := by
    rw [f_Cmp_variedNames, hasR wA pcA hk hqa eA, Option.bind_some, if_neg (by decide), hasR wB pcB hk hqb eB, Option.bind_some, if_neg (by decide), chk_i (nki hk (by decide)), nkc (by omega), eT1, eT2, a5, b5, ← hbase]
  have rl : f_Mod_namesOf n (nI qa) (nI (301 + qb)) R = some (if T1 / 2 ^ 2 % 2 = T2 / 2 ^ 2 % 2 then (if T1 / 2 ^ 1 % 2 = T2 / 2 ^ 1 % 2 then base else base ||| 1) else ((if T1 / 2 ^ 1 % 2 = T2 / 2 ^ 1 % 2 then base else base ||| 1) ||| 256)) := by
    rw [f_Mod_namesOf, chk_i (nki (by omega) (by decide)), chk_i (nki (by omega) (by decide)), c52, Option.bind_some, d52, Option.bind_some, c53, Option.bind_some, d53, Option.bind_some, nkc (by omega), nkc (by omega), nA', nB', ← hbase]
    by_cases z1 : T1 / 2 ^ 1 % 2 = T2 / 2 ^ 1 % 2 <;> by_cases z2 : T1 / 2 ^ 2 % 2 = T2 / 2 ^ 2 % 2
    · rw [if_pos ((ne 2).mpr z2), if_pos ((ne 1).mpr z1), if_pos z2, if_pos z1]
    · rw [if_neg (fun y => z2 ((ne 2).mp y)), if_pos ((ne 1).mpr z1), if_neg z2, if_pos z1]
    · rw [if_pos ((ne 2).mpr z2), if_neg (fun y => z1 ((ne 1).mp y)), if_pos z2, if_neg z1]
    · rw [if_neg (fun y => z2 ((ne 2).mp y)), if_neg (fun y => z1 ((ne 1).mp y)), if_neg z2, if_neg z1]
  refine ⟨_, ?_, rl⟩
  rw [cl]
  by_cases z1 : T1 / 2 ^ 1 % 2 = T2 / 2 ^ 1 % 2 <;> by_cases z2 : T1 / 2 ^ 2 % 2 = T2 / 2 ^ 2 % 2
  · rw [if_pos (x2.mpr z1), b_Cmp_variedNames_62, if_pos (x4.mpr z2), if_pos z2, if_pos z1]; rfl
  · rw [if_pos (x2.mpr z1), b_Cmp_variedNames_62, if_neg (fun y => z2 (x4.mp y)), if_neg z2, if_pos z1]; rfl
  · rw [if_neg (fun y => z1 (x2.mp y)), b_Cmp_variedNames_62, if_pos (x4.mpr z2), if_pos z2, if_neg z1]; rfl
  · rw [if_neg (fun y => z1 (x2.mp y)), b_Cmp_variedNames_62, if_neg (fun y => z2 (x4.mp y)), if_neg z2, if_neg z1]; rfl
theorem cs_l {n b : Nat} {bits : Int32} {x4 x5 : Int32} {C R : IM} (hb1 : 2 ≤ b) (hb2 : b ≤ 8) : ∀ (d f f' k X : Nat), k + d = 15 → d < f → d < f' → 1 ≤ X → X ≤ 32768 → ∃ Y, 1 ≤ Y ∧ Y ≤ 32768 ∧ l_Cmp_casesOf_4 n C f bits (nI (b - 1)) (nI X) (nI k) = some (nI Y) ∧ l_Mod_differ_147 n f' (nI (b - 1)) x4 x5 bits (nI X) (nI k) R = b_Mod_differ_192 n (nI (b - 1)) x4 x5 bits (nI Y) R
  | 0, f + 1, f' + 1, k, X, hd, _, _, h1, h2 => by
    have hk : k = 15 := by omega
    subst hk
    exact ⟨X, h1, h2, by rw [l_Cmp_casesOf_4, if_pos (by decide)]; rfl, by rw [l_Mod_differ_147, if_pos (by decide)]⟩
  | d + 1, f + 1, f' + 1, k, X, hd, hf, hf', h1, h2 => by
    have k15 : ¬ (15 : Int32) ≤ nI k := nk (N := 15) (by omega) (by decide)
    have e4 : (4096 : Int32) < nI X ↔ 4096 < X := by
      rw [ti, nI_toInt (by omega)]
      simp only [Int32.reduceToInt]
      omega
    by_cases z : 4096 < X
    · exact ⟨X, h1, h2, by rw [l_Cmp_casesOf_4, if_neg k15, if_pos (e4.mpr z)]; rfl, by rw [l_Mod_differ_147, if_neg k15, if_pos (e4.mpr z)]⟩
    · have eb : nI (b - 1) + 1 = nI b := by rw [nk1]; congr 1; omega
      by_cases y : (bits >>> (nI k &&& 31)) &&& 1 = 0
      · have y1 : ¬ (bits >>> (nI k &&& 31)) &&& 1 = 1 := fun w => and1.mpr w y
        obtain ⟨Y, g1, g2, g3, g4⟩ := cs_l (n := n) (bits := bits) (x4 := x4) (x5 := x5) (C := C) (R := R) hb1 hb2 d f f' (k + 1) X (by omega) (by omega) (by omega) h1 h2
        refine ⟨Y, g1, g2, ?_, ?_⟩
        · rw [l_Cmp_casesOf_4, if_neg k15, if_neg (fun w => z (e4.mp w)), if_pos y, Int32.mul_one, nk1]
          exact g3
        · rw [l_Mod_differ_147, if_neg k15, if_neg (fun w => z (e4.mp w)), if_neg y1, nk1]
          exact g4
      · have y1 : (bits >>> (nI k &&& 31)) &&& 1 = 1 := and1.mp y
        have m1 : X * b ≤ 4096 * 8 := Nat.mul_le_mul (by omega) hb2
        have m2 : 1 ≤ X * b := Nat.mul_pos (by omega) (by omega)
        obtain ⟨Y, g1, g2, g3, g4⟩ := cs_l (n := n) (bits := bits) (x4 := x4) (x5 := x5) (C := C) (R := R) hb1 hb2 d f f' (k + 1) (X * b) (by omega) (by omega) (by omega) m2 (by omega)
        refine ⟨Y, g1, g2, ?_, ?_⟩
        · rw [l_Cmp_casesOf_4, if_neg k15, if_neg (fun w => z (e4.mp w)), if_neg y, eb, nml, nk1]
          exact g3
        · rw [l_Mod_differ_147, if_neg k15, if_neg (fun w => z (e4.mp w)), if_pos y1, eb, nml, nk1]
          exact g4
theorem wt_l {n : Nat} {x : Int32} : ∀ (d f k : Nat) (R : IM), k + d = 15 → d < f → ∃ R', l_Mod_differ_250 n f x (nI k) R = some (x, R') ∧ (∀ b, b ≠ A_witness → R' b = R b) ∧ (∀ j, k ≤ j → j < 15 → R' A_witness j = R A_caseValue j) ∧ ∀ j, j < k → R' A_witness j = R A_witness j
  | 0, f + 1, k, R, hd, _ => by
    have hk : k = 15 := by omega
    subst hk
    exact ⟨R, by rw [l_Mod_differ_250, if_pos (by decide)], fun _ _ => rfl, fun j h1 h2 => by omega, fun _ _ => rfl⟩
  | d + 1, f + 1, k, R, hd, hf => by
    obtain ⟨R', e, a1, a2, a3⟩ := wt_l (n := n) (x := x) d f (k + 1) (up R A_witness k (R A_caseValue k)) (by omega) (by omega)
    refine ⟨R', ?_, fun b hb => by rw [a1 b hb, fu hb], fun j h1 h2 => ?_, fun j hj => ?_⟩
    · rw [l_Mod_differ_250, if_neg (show ¬ (15 : Int32) ≤ nI k from nk (N := 15) (by omega) (by decide)), chk_i (nki (by omega) (by decide)), lt, nkc (by omega), nk1]
      exact e
    · by_cases z : j = k
      · rw [z, a3 k (by omega), up_self]
      · rw [a2 j (by omega) h2, fu (by decide)]
    · rw [a3 j (by omega), up_ne (Or.inr (by omega))]
set_option maxHeartbeats 2000000 in
theorem df_l {A B : AP} {p n m kd qa qb b cs : Nat} {bits : Int32} (hb1 : 2 ≤ b) (hb2 : b ≤ 8) (hcs : cs ≤ 4096) : ∀ (d f f' k : Nat) (C R : IM), k + d = cs → d < f → d < f' → DA A B p n m kd qa qb C R → C 40 0 = 0 → C 40 4 = bits → C 40 5 = nI (b - 1) → C 40 6 = nI cs → (∀ j, j < 15 → C 41 (14 - j) = nI (cdg bits b k j)) → R MO 71 = 0 → ∃ r C' R', l_Cmp_firstUnlikeCase_8 n p 48 m f (nI kd) (nI k) C = some (r, C') ∧ l_Mod_differ_215 n f' (nI (b - 1)) (nI qa) (nI (301 + qb)) bits (nI cs) (nI k) R = some (r, R') ∧ (∀ k, ¬ (40 ≤ k ∧ k ≤ 47) → C' k = C k) ∧ (∀ k, k ≠ MO → k ≠ 136 → k ≠ 137 → k ≠ 140 → R' k = R k) ∧ (∀ j, ¬ (82 ≤ j ∧ j ≤ 86) → j ≠ 68 → j ≠ 69 → j ≠ 71 → R' MO j = R MO j) ∧ (R MO 69 = 0 → R' MO 69 = 0) ∧ C' 40 0 = R' MO 71 ∧ (C' 40 0 = 0 ∨ C' 40 0 = 1) ∧ (C' 40 0 = 1 → ∀ j, j < 15 → C' 41 j = R' A_witness j)
  | 0, f + 1, f' + 1, k, C, R, hd, _, _, da, c0, c4, c5, c6, h41, h71 => by
    have hk : k = cs := by omega
    subst hk
    refine ⟨-1, C, R, ?_, ?_, fun _ _ => rfl, fun _ _ _ _ _ => rfl, fun _ _ _ _ _ => rfl, id, by rw [c0, h71], Or.inl c0, fun z => by rw [c0] at z; exact absurd z (by decide)⟩
    · rw [l_Cmp_firstUnlikeCase_8, c6, if_pos (Int32.le_refl _)]
    · rw [l_Mod_differ_215, if_pos (Int32.le_refl _)]
  | d + 1, f + 1, f' + 1, k, C, R, hd, hf, hf', da, c0, c4, c5, c6, h41, h71 => by
    have hn := da.1
    have hk := da.2.2.2.2.2.2.2.2.2.1
    obtain ⟨cv, hcv⟩ : ∃ cv : Nat → Int32, ∀ j, cv j = nI (cdg bits b k (14 - j)) := ⟨_, fun _ => rfl⟩
    -- the case on both sides
    obtain ⟨R1, s1, s2, s3, -⟩ := sc_l (n := n) (b := b) (num := k) (bits := bits) (by omega) hb2 hb1 (by omega) 15 0 n R (by omega) (by omega)
    have sc : f_Mod_setCase n (nI k) bits (nI (b - 1)) R = some R1 := s1
    obtain ⟨C1, hC1⟩ : ∃ z, z = cpy C 41 43 0 10 15 := ⟨_, rfl⟩
    obtain ⟨C2, hC2⟩ : ∃ z, z = cpy C1 41 46 0 10 15 := ⟨_, rfl⟩
    have c1b : ∀ k, k ≠ 43 → C1 k = C k := fun k z => by funext j; rw [hC1, cpy_aa, if_neg (fun y => z y.1)]
    have c2b : ∀ k, k ≠ 43 → k ≠ 46 → C2 k = C k := fun k z1 z2 => by
      have : C2 k = C1 k := by funext j; rw [hC2, cpy_aa, if_neg (fun y => z2 y.1)]
      rw [this, c1b k z1]
    have f41 : ∀ j, j < 15 → C 41 j = cv j := fun j hj => by
      have := h41 (14 - j) (by omega)
      rw [show 14 - (14 - j) = j by omega] at this
      rw [this, hcv]
    have c43 : ∀ j, j < 15 → C2 43 (10 + j) = cv j := fun j hj => by
      rw [hC2, cpy_aa, if_neg (fun y => by omega), hC1, cpy_aa, if_pos ⟨rfl, by omega, by omega⟩, Nat.zero_add, Nat.add_sub_cancel_left]
      exact f41 j hj
    have c46 : ∀ j, j < 15 → C2 46 (10 + j) = cv j := fun j hj => by
      rw [hC2, cpy_aa, if_pos ⟨rfl, by omega, by omega⟩, Nat.zero_add, Nat.add_sub_cancel_left, c1b 41 (by decide)]
      exact f41 j hj
    have cvR : ∀ j, j < 15 → R1 A_caseValue j = cv j := fun j hj => by
      have := s3 (14 - j) (by omega) (by omega)
      rw [show 14 - (14 - j) = j by omega] at this
      rw [this, hcv]
    have da1 : DA A B p n m kd qa qb C2 R1 := DA_c da (fun k z => c2b k (by omega) (by omega)) (fun k z1 z2 z3 z4 => s2 k z2) (by rw [s2 MO (by decide)])
    obtain ⟨x, D2, D3, D4, R4, w1, w2, w3, w4, w5, w6, w7, w8⟩ := unl da1 cvR c43 c46
    have d4 : ∀ k, ¬ (42 ≤ k ∧ k ≤ 47) → D4 k = C k := fun k z => by rw [w5 k z, c2b k (by omega) (by omega)]
    have r4b : ∀ k, k ≠ MO → k ≠ 136 → k ≠ 140 → R4 k = R k := fun k z1 z2 z3 => by rw [w6 k z1 z3, s2 k z2]
    have r4m : ∀ j, ¬ (82 ≤ j ∧ j ≤ 86) → j ≠ 68 → j ≠ 69 → R4 MO j = R MO j := fun j z1 z2 z3 => by rw [w7 j z1 z2 z3, s2 MO (by decide)]
    have cl : l_Cmp_firstUnlikeCase_8 n p 48 m (f + 1) (nI kd) (nI k) C = if x = 0 then (Option.bind (f_Cmp_goToNextCase n D4) fun v13 => l_Cmp_firstUnlikeCase_8 n p 48 m f (nI kd) (nI (k + 1)) v13) else some (nI k, up D4 40 0 1) := by
      have e1 : cpy C 41 43 (0 : Int32).toNatClampNeg (10 : Int32).toNatClampNeg (15 : Int32).toNatClampNeg = C1 := hC1.symm
      have e2 : cpy C1 41 46 (0 : Int32).toNatClampNeg (10 : Int32).toNatClampNeg (15 : Int32).toNatClampNeg = C2 := hC2.symm
      rw [l_Cmp_firstUnlikeCase_8, c6, if_neg (nk (by omega) (by omega)), lt, e1, lt, e2, w1, Option.bind_some, w2, Option.bind_some, chk_i (nki hk (by decide)), nkc (by omega), w3, Option.bind_some, nk1]
      rfl
    have rl : l_Mod_differ_215 n (f' + 1) (nI (b - 1)) (nI qa) (nI (301 + qb)) bits (nI cs) (nI k) R = if x = 0 then l_Mod_differ_215 n f' (nI (b - 1)) (nI qa) (nI (301 + qb)) bits (nI cs) (nI (k + 1)) R4 else l_Mod_differ_250 n n (nI k) 0 (up R4 MO 71 1) := by
      rw [l_Mod_differ_215, if_neg (nk (by omega) (by omega)), sc, Option.bind_some, w4, Option.bind_some, nk1]
      rfl
    by_cases z : x = 0
    · obtain ⟨D5, g1, g2, g3⟩ := gn_l (n := n) (b := b) (num := k) (bits := bits) hb1 hb2 (by omega) 15 0 n D4 (by omega) (by omega) (by rw [d4 40 (by decide)]; exact c4) (by rw [d4 40 (by decide)]; exact c5) (fun j hj => by omega) (fun j _ hj => by rw [d4 41 (by decide)]; exact h41 j hj) rfl
      have gn : f_Cmp_goToNextCase n D4 = some D5 := g1
      have d5 : ∀ k, ¬ (41 ≤ k ∧ k ≤ 47) → D5 k = C k := fun k z => by rw [g2 k (by omega), d4 k (by omega)]
      obtain ⟨r, C', R', i1, i2, i3, i4, i5, i6, i7, i8, i9⟩ := df_l (A := A) (B := B) (p := p) (n := n) (m := m) (kd := kd) (qa := qa) (qb := qb) (b := b) (cs := cs) (bits := bits) hb1 hb2 hcs d f f' (k + 1) D5 R4 (by omega) (by omega) (by omega) (DA_c da (fun k z => d5 k (by omega)) (fun k z1 z2 z3 z4 => r4b k z1 z2 z4) (r4m 55 (by decide) (by decide) (by decide))) (by rw [d5 40 (by decide)]; exact c0) (by rw [d5 40 (by decide)]; exact c4) (by rw [d5 40 (by decide)]; exact c5) (by rw [d5 40 (by decide)]; exact c6) g3 (by rw [r4m 71 (by decide) (by decide) (by decide)]; exact h71)
      refine ⟨r, C', R', ?_, ?_, fun k z => by rw [i3 k z, d5 k (by omega)], fun k z1 z2 z3 z4 => by rw [i4 k z1 z2 z3 z4, r4b k z1 z2 z4], fun j z1 z2 z3 z4 => by rw [i5 j z1 z2 z3 z4, r4m j z1 z2 z3], fun _ => i6 w8, i7, i8, i9⟩
      · rw [cl, if_pos z, gn, Option.bind_some]; exact i1
      · rw [rl, if_pos z]; exact i2
    · obtain ⟨R5, g1, g2, g3, -⟩ := wt_l (n := n) (x := nI k) 15 n 0 (up R4 MO 71 1) (by omega) (by omega)
      have g2m : ∀ j, R5 MO j = up R4 MO 71 1 MO j := fun j => by rw [g2 MO (by decide)]
      refine ⟨nI k, up D4 40 0 1, R5, by rw [cl, if_neg z], ?_, fun k y => by rw [fu (by omega), d4 k (by omega)], fun k z1 z2 z3 z4 => by rw [g2 k z3, fu z1, r4b k z1 z2 z4], fun j z1 z2 z3 z4 => by rw [g2m, up_ne (Or.inr z4), r4m j z1 z2 z3], fun _ => by rw [g2m, up_ne (Or.inr (by decide))]; exact w8, by rw [up_self, g2m, up_self], Or.inr up_self, fun _ j hj => ?_⟩
      · rw [rl, if_neg z]; exact g1
      · rw [fu (by decide), d4 41 (by decide), f41 j hj, g3 j (by omega) hj, fu (by decide), w6 _ (by decide) (by decide), cvR j hj]
