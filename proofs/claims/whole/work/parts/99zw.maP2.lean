/-! policy: the call, held against the reference -/
theorem scW : ∀ j, j < 16 → scF.getD j 34 ∉ [0, 2, 10, 11, 12, 13, 14, 15, 18, 23, 28, 29, 32] := by decide
theorem scX0 : ∀ j, j < 16 → (j = 9 ∨ j = 10 ∨ j = 12 ∨ j = 13 ∨ scF.getD j 34 ∉ [32, 53, 54, 58, 59]) := by decide
theorem scX (j : Nat) (h : j < 16) (h1 : j ≠ 9) (h2 : j ≠ 10) (h3 : j ≠ 12) (h4 : j ≠ 13) : scF.getD j 34 ∉ [32, 53, 54, 58, 59] := ((((scX0 j h).resolve_left h1).resolve_left h2).resolve_left h3).resolve_left h4
theorem ma_policy : Ma_policy (Rl (PXk ktP)) := by
  intro t ht rl hd ot pt it J I p1 p2 p3 p4 p5 hJ hR
  obtain ⟨d, tx, rc, wi, h69, rm, ro, hp, A, B, wA, wB, rA, hA, cA, rB, cB, kt⟩ := id hR
  obtain ⟨d1, d2, d3, d4, d5, d6⟩ := id d
  obtain ⟨n, hn0⟩ : ∃ n : Nat, n = 1000 := ⟨1000, rfl⟩
  have hn : 1000 ≤ n := by omega
  obtain ⟨x1, x2, x3, x4⟩ := id tx
  have n0 : ¬ I 1 0 < 0 := by rw [ti]; simp only [Int32.reduceToInt]; omega
  have eN := nof n0
  have bN := nat_of n0
  obtain ⟨N, hN⟩ : ∃ N, N = (I 1 0).toNatClampNeg := ⟨_, rfl⟩
  rw [← hN] at eN bN
  obtain ⟨T, hT⟩ : ∃ T : Nat → Int32, T = I 2 := ⟨_, rfl⟩
  have vt : VT T N := ⟨by omega, fun k hk => by rw [hT]; exact (x4 k (by omega)).2⟩
  have txc : TXc T N I := ⟨eN, fun k hk => by rw [hT]⟩
  have sg : ∀ k, k < N → I A_signs k = T k := fun k hk => by rw [hT]; exact (x4 k (by omega)).1.symm
  have m2 : I MO 2 = nI N := by rw [← x1]; exact eN
  have hm16 : ∀ m, isMch m → 16 ≤ m ∧ m + 19 ≤ 102 := fun m h => by rcases h with rfl | rfl | rfl <;> omega
  have hmP : ∀ m, isMch m → ∀ i, i < 19 → ¬ (pt ≤ m + i ∧ m + i ≤ pt + 6) := fun m h i hi => by
    rcases h with rfl | rfl | rfl <;> rcases p4 with rfl | rfl | rfl <;> omega
  have pP : ∀ a, isPol a → a ≠ pt → ∀ j, j < 7 → ¬ (pt ≤ a + j ∧ a + j ≤ pt + 6) := fun a h hne j hj => by
    rcases h with rfl | rfl | rfl <;> rcases p4 with rfl | rfl | rfl <;> omega
  have pL : ∀ a, isPol a → ∀ j, j < 7 → 8 ≤ a + j ∧ a + j < 102 := fun a h j hj => by rcases h with rfl | rfl | rfl <;> omega
  rcases rdP (n := n) hJ hn vt p4 txc with ⟨A', C', a1, a2, a3, a4, a5, a6⟩ | ⟨p, C', a0, a1, a4, a5, a6⟩
  · -- a new policy
    obtain ⟨I1, hI1⟩ : ∃ z, z = fgI (fgI C' hd) ot := ⟨_, rfl⟩
    have fE : f_Eng_policy n hd ot pt J I = some (-1, I1) := by
      rw [f_Eng_policy, a1, Option.bind_some, if_pos rfl, fg_f, Option.bind_some, fg_f, Option.bind_some, hI1]
    have b2 := hm16 hd p2
    have b3 := hm16 ot p3
    have i1o : ∀ b, b ≠ hd + 13 → b ≠ hd + 15 → b ≠ ot + 13 → b ≠ ot + 15 → I1 b = C' b := fun b z1 z2 z3 z4 => by rw [hI1, fg_o z3 z4, fg_o z1 z2]
    have i1h : ∀ b, 102 ≤ b → I1 b = I b := fun b hb => by
      have := pL pt p4 6 (by decide)
      rw [i1o b (by omega) (by omega) (by omega) (by omega), a5 b (by omega) (by omega) (by omega) (by omega) (by omega) (by omega)]
    -- the reference
    obtain ⟨R0, hR0⟩ : ∃ z, z = up I1 MO 0 0 := ⟨_, rfl⟩
    have r0b : ∀ b, b ≠ 102 → R0 b = I1 b := fun b z => by rw [hR0, fu z]
    have r0j : ∀ j, j ≠ 0 → R0 MO j = I MO j := fun j z => by rw [hR0, up_ne (Or.inr z), i1h MO (by decide)]
    have txr : TXr T N R0 := ⟨by rw [r0j 2 (by decide)]; exact m2, fun k hk => by rw [r0b _ (by decide), i1h _ (by decide)]; exact sg k hk⟩
    obtain ⟨R1, e1, e2, e3, e4, e5⟩ := a6 J hJ R0 txr
    obtain ⟨R2, f1, f2, f3, f4, f5, f6, f7, f8, f9, f10⟩ := kpL (n := n) (J := J) 900 n 0 R1 rfl (by omega)
    obtain ⟨R3, g1, g2, g3, g4, g5, g6, g7⟩ := ot90 (n := n) (J := J) (R := R2) hn
    have fM : f_Mod_policy n J I1 = some (-1, R3) := by
      rw [f_Mod_policy, lt, ← hR0, e1, Option.bind_some, e2, if_pos (by decide), show l_Mod_policy_34 n J n 0 R1 = _ from f1, g1]
    -- what I2 = R3 is
    have o3 : ∀ b, b ≠ 102 → b ≠ 118 → b ≠ 139 → R3 b = R1 b := fun b z1 z2 z3 => by rw [g7 b z3, f10 b z1 z2]
    have o4 : ∀ b, b ≠ 102 → b ≠ 118 → b ≠ 139 → ¬ (106 ≤ b ∧ b ≤ 117) → R3 b = I1 b := fun b z1 z2 z3 z4 => by rw [o3 b z1 z2 z3, e5.1 b z1 z4, r0b b z1]
    have cl : ∀ b, b < 102 → R3 b = I1 b := fun b hb => o4 b (by omega) (by omega) (by omega) (by omega)
    have hi : ∀ b, 102 < b → b ≠ 118 → b ≠ 139 → ¬ (106 ≤ b ∧ b ≤ 117) → R3 b = I b := fun b z1 z2 z3 z4 => by rw [o4 b (by omega) z2 z3 z4, i1h b (by omega)]
    have mj1 : ∀ j, j ∉ [32, 53, 54, 58, 59] → R3 MO j = R1 MO j := fun j z => by rw [g7 MO (by decide), f9 j z]
    have mj : ∀ j, j ∉ [0, 10, 11, 12, 13, 14, 15, 18, 23, 28, 29, 32, 53, 54, 58, 59] → R3 MO j = I MO j := fun j z => by
      have s : j ∉ [32, 53, 54, 58, 59] ∧ j ∉ [10, 11, 12, 13, 14, 15, 18, 23, 28, 29] ∧ j ≠ 0 := by
        revert z; simp only [List.mem_cons, List.not_mem_nil, or_false]; omega
      rw [mj1 j s.1, e5.2.2.2.2.2 j s.2.1, r0j j s.2.2]
    have c1 : ∀ b, b < 102 → b ≠ 1 → b ≠ 3 → b ≠ 4 → b ≠ 5 → b ≠ 7 → ¬ (pt ≤ b ∧ b ≤ pt + 6) → b ≠ hd + 13 → b ≠ hd + 15 → b ≠ ot + 13 → b ≠ ot + 15 → R3 b = I b := fun b z0 z1 z2 z3 z4 z5 z6 z7 z8 z9 z10 => by
      rw [cl b z0, i1o b z7 z8 z9 z10, a5 b z1 z2 z3 z4 z5 z6]
    have far : ∀ m, isMch m → ∀ m', isMch m' → m ≠ m' → ∀ i, i < 19 → ∀ i', i' < 19 → m + i ≠ m' + i' := fun m h m' h' hne i hi i' hi' => by
      rcases h with rfl | rfl | rfl <;> rcases h' with rfl | rfl | rfl <;> omega
    -- a machine's cells in I1
    have hmo : ∀ m, isMch m → ∀ i, i < 19 → I (m + i) = C' (m + i) := fun m h i hi => by
      have := hm16 m h
      exact (a5 _ (by omega) (by omega) (by omega) (by omega) (by omega) (hmP m h i hi)).symm
    have mcell : ∀ m, m = hd ∨ m = ot → (∀ i, i < 19 → i ≠ 13 → i ≠ 15 → R3 (m + i) = I (m + i)) ∧ (∀ j, j ≠ 3 → j ≠ 4 → R3 (m + 13) j = I (m + 13) j) ∧ R3 (m + 13) 3 = 0 ∧ R3 (m + 13) 4 = 0 ∧ R3 (m + 15) 0 = 0 ∧ R3 (m + 15) 1 = 0 ∧ ∀ j, j ≠ 0 → j ≠ 1 → R3 (m + 15) j = I (m + 15) j := fun m hm => by
      rcases hm with rfl | rfl
      · have q13 : I1 (m + 13) = fgI C' m (m + 13) := by rw [hI1, fg_o (far m p2 ot p3 d1 13 (by decide) 13 (by decide)) (far m p2 ot p3 d1 13 (by decide) 15 (by decide))]
        have q15 : I1 (m + 15) = fgI C' m (m + 15) := by rw [hI1, fg_o (far m p2 ot p3 d1 15 (by decide) 13 (by decide)) (far m p2 ot p3 d1 15 (by decide) 15 (by decide))]
        obtain ⟨y1, y2, y3⟩ := fg_13 (I := C') (m := m)
        obtain ⟨w1, w2, w3⟩ := fg_15 (I := C') (m := m)
        refine ⟨fun i h1 h2 h3 => ?_, fun j z1 z2 => ?_, ?_, ?_, ?_, ?_, fun j z1 z2 => ?_⟩
        · rw [cl _ (by omega), i1o _ (by omega) (by omega) (far m p2 ot p3 d1 i h1 13 (by decide)) (far m p2 ot p3 d1 i h1 15 (by decide)), hmo m p2 i h1]
        · rw [cl _ (by omega), q13, y3 j z1 z2, hmo m p2 13 (by decide)]
        · rw [cl _ (by omega), q13]; exact y1
        · rw [cl _ (by omega), q13]; exact y2
        · rw [cl _ (by omega), q15]; exact w1
        · rw [cl _ (by omega), q15]; exact w2
        · rw [cl _ (by omega), q15, w3 j z1 z2, hmo m p2 15 (by decide)]
      · have n13 : fgI C' hd (m + 13) = C' (m + 13) := fg_o (far m p3 hd p2 (Ne.symm d1) 13 (by decide) 13 (by decide)) (far m p3 hd p2 (Ne.symm d1) 13 (by decide) 15 (by decide))
        have n15 : fgI C' hd (m + 15) = C' (m + 15) := fg_o (far m p3 hd p2 (Ne.symm d1) 15 (by decide) 13 (by decide)) (far m p3 hd p2 (Ne.symm d1) 15 (by decide) 15 (by decide))
        obtain ⟨y1, y2, y3⟩ := fg_13 (I := fgI C' hd) (m := m)
        obtain ⟨w1, w2, w3⟩ := fg_15 (I := fgI C' hd) (m := m)
        refine ⟨fun i h1 h2 h3 => ?_, fun j z1 z2 => ?_, ?_, ?_, ?_, ?_, fun j z1 z2 => ?_⟩
        · rw [cl _ (by omega), i1o _ (far m p3 hd p2 (Ne.symm d1) i h1 13 (by decide)) (far m p3 hd p2 (Ne.symm d1) i h1 15 (by decide)) (by omega) (by omega), hmo m p3 i h1]
        · rw [cl _ (by omega), hI1, y3 j z1 z2, n13, hmo m p3 13 (by decide)]
        · rw [cl _ (by omega), hI1]; exact y1
        · rw [cl _ (by omega), hI1]; exact y2
        · rw [cl _ (by omega), hI1]; exact w1
        · rw [cl _ (by omega), hI1]; exact w2
        · rw [cl _ (by omega), hI1, w3 j z1 z2, n15, hmo m p3 15 (by decide)]
    have mit : ∀ m, isMch m → m ≠ hd → m ≠ ot → ∀ i, i < 19 → R3 (m + i) = I (m + i) := fun m h z1 z2 i hi => by
      have := hm16 m h
      rw [c1 (m + i) (by omega) (by omega) (by omega) (by omega) (by omega) (by omega) (hmP m h i hi) (far m h hd p2 z1 i hi 13 (by decide)) (far m h hd p2 z1 i hi 15 (by decide)) (far m h ot p3 z2 i hi 13 (by decide)) (far m h ot p3 z2 i hi 15 (by decide))]
    have pol7 : ∀ a, isPol a → ∀ j, j < 7 → R3 (a + j) = C' (a + j) := fun a h j hj => by
      have := pL a h j hj
      rw [cl _ (by omega), i1o]
      all_goals (rcases h with rfl | rfl | rfl <;> rcases p2 with rfl | rfl | rfl <;> rcases p3 with rfl | rfl | rfl <;> omega)
    have wq : ∀ b, b = 40 ∨ b = 41 ∨ b = 2 → R3 b = I b := fun b hb => by
      refine c1 b (by omega) (by omega) (by omega) (by omega) (by omega) (by omega) ?_ ?_ ?_ ?_ ?_
      · rcases p4 with rfl | rfl | rfl <;> omega
      all_goals (rcases p2 with rfl | rfl | rfl <;> rcases p3 with rfl | rfl | rfl <;> omega)
    have r10 : R3 1 0 = nI N := by
      rw [cl 1 (by decide), i1o 1 (by omega) (by omega) (by omega) (by omega)]; exact a4.1
    refine ⟨n, -1, I1, R3, fE, fM, fun _ => ?_, fun y => absurd rfl y⟩
    refine ⟨⟨d1, d2, d3, Ne.symm d4, d6, d5⟩, ?_, ?_, ?_, ?_, ?_, ?_, p4, A', B, a2, wB, ?_, ?_, ?_, ?_, ?_, ?_⟩
    · unfold TX
      rw [r10, wq 2 (Or.inr (Or.inr rfl)), hi A_signs (by decide) (by decide) (by decide) (by decide), mj 2 (by decide), ← eN]
      exact tx
    · intro m hm
      have k15 : R3 (m + 15) 2 = I (m + 15) 2 ∧ R3 (m + 15) 3 = I (m + 15) 3 ∧ R3 (m + 17) = I (m + 17) := by
        by_cases z : m = hd ∨ m = ot
        · obtain ⟨y1, -, -, -, -, -, y7⟩ := mcell m z
          exact ⟨y7 2 (by decide) (by decide), y7 3 (by decide) (by decide), y1 17 (by decide) (by decide) (by decide)⟩
        · have z1 : m ≠ hd := fun w => z (Or.inl w)
          have z2 : m ≠ ot := fun w => z (Or.inr w)
          rw [mit m hm z1 z2 15 (by decide), mit m hm z1 z2 17 (by decide)]
          exact ⟨rfl, rfl, rfl⟩
      rw [k15.1, k15.2.1, k15.2.2]
      exact rc m hm
    · unfold WI
      rw [wq 40 (Or.inl rfl), wq 41 (Or.inr (Or.inl rfl)), hi A_witness (by decide) (by decide) (by decide) (by decide), mj 71 (by decide)]
      exact wi
    · rw [mj 69 (by decide)]; exact h69
    · obtain ⟨y1, y2, y3, y4, y5, y6, y7⟩ := mcell hd (Or.inl rfl)
      refine RM_t (RM_fg rm y1 y2 y3 y4 y5 y6 (fun j h1 h2 h3 h4 h5 => ?_) ?_ ?_ ?_ ?_ (fun j h1 => ?_))
      · show R3 MO (scF.getD j 34) = I MO (scF.getD j 34)
        have s1 := scW j h1
        have s2 := scX j h1 h2 h3 h4 h5
        exact mj _ (by revert s1 s2; simp only [List.mem_cons, List.not_mem_nil, or_false]; omega)
      · show R3 MO 53 = 0
        rw [g7 MO (by decide)]; exact f5
      · show R3 MO 54 = 0
        rw [g7 MO (by decide)]; exact f6
      · show R3 MO 58 = 0
        rw [g7 MO (by decide)]; exact f7
      · show R3 MO 59 = 0
        rw [g7 MO (by decide)]; exact f8
      · show (fun k => R3 (arF.getD j 119) k) = fun k => I (arF.getD j 119) k
        have := arF_ge j
        rw [hi _ (by omega) (by omega) (by omega) (by omega)]
    · obtain ⟨y1, y2, y3, y4, y5, y6, y7⟩ := mcell ot (Or.inr rfl)
      have ao : R2 A_other = I A_other := by rw [f10 _ (by decide) (by decide), e5.1 _ (by decide) (by decide), r0b _ (by decide), i1h _ (by decide)]
      refine RM_t (RM_fg ro y1 y2 y3 y4 y5 y6 (fun j h1 h2 h3 h4 h5 => ?_) g2 g3 g4 g5 (fun j h1 => ?_))
      · show R3 A_other j = I A_other j
        rw [g6 j h2 h3 h4 h5, ao]
      · show (fun k => R3 A_other (offF.getD j 0 + k)) = fun k => I A_other (offF.getD j 0 + k)
        funext k
        have : ∀ j, j < 16 → 20 ≤ offF.getD j 0 := by decide
        have := this j h1
        rw [g6 _ (by omega) (by omega) (by omega) (by omega), ao]
    · exact PR_c (o3 _ (by decide) (by decide) (by decide)) (o3 _ (by decide) (by decide) (by decide)) (o3 _ (by decide) (by decide) (by decide)) (o3 _ (by decide) (by decide) (by decide)) (o3 _ (by decide) (by decide) (by decide)) (o3 _ (by decide) (by decide) (by decide)) (o3 _ (by decide) (by decide) (by decide)) (o3 _ (by decide) (by decide) (by decide)) (o3 _ (by decide) (by decide) (by decide)) e3
    · unfold PH at e4 ⊢
      rw [o3 A_statementAt (by decide) (by decide) (by decide), mj1 15 (by decide), mj1 18 (by decide), mj1 23 (by decide)]
      exact e4
    · exact PC_c (fun j hj => pol7 pt p4 j hj) a3
    · have rB0 : PR B 22 301 300 1000 R0 := by
        have e : ∀ b, 103 ≤ b → R0 b = I b := fun b hb => by rw [r0b b (by omega), i1h b (by omega)]
        exact PR_c (e _ (by decide)) (e _ (by decide)) (e _ (by decide)) (e _ (by decide)) (e _ (by decide)) (e _ (by decide)) (e _ (by decide)) (e _ (by decide)) (e _ (by decide)) rB
      exact PR_c (o3 _ (by decide) (by decide) (by decide)) (o3 _ (by decide) (by decide) (by decide)) (o3 _ (by decide) (by decide) (by decide)) (o3 _ (by decide) (by decide) (by decide)) (o3 _ (by decide) (by decide) (by decide)) (o3 _ (by decide) (by decide) (by decide)) (o3 _ (by decide) (by decide) (by decide)) (o3 _ (by decide) (by decide) (by decide)) (o3 _ (by decide) (by decide) (by decide)) (PR_w e5 rB0)
    · refine PC_c (fun j hj => ?_) cB
      have p48 : isPol 48 := Or.inr (Or.inl rfl)
      have := pL 48 p48 j hj
      rw [pol7 48 p48 j hj, a5 _ (by omega) (by omega) (by omega) (by omega) (by omega) (pP 48 p48 (Ne.symm d6) j hj)]
    · refine ktP_c (T := T) (N := N) ?_ vt (fun n' hn' => ?_) (fun k hk => ?_)
      · rw [g7 MO (by decide), f4, e5.2.2.2.2.2 2 (by decide), r0j 2 (by decide)]; exact m2
      · rw [hn', ← hn0]; exact a6
      · have := vt.1
        rw [g7 _ (by decide), f2 k (Nat.zero_le _) (by omega), e5.1 _ (by decide) (by decide), r0b _ (by decide), i1h _ (by decide)]
        exact sg k hk
  · -- a fault
    have rne : ¬ nI p = -1 := fun y => by
      have h0 : (0 : Int32) ≤ nI p := (nle (a := 0) (by decide) (by omega)).mpr (Nat.zero_le _)
      rw [y] at h0; exact ng1 h0
    have pge : ¬ nI p < 0 := fun y => by have := (nlt (b := 0) (by omega) (by decide)).mp y; omega
    have fE : f_Eng_policy n hd ot pt J I = some (nI p, C') := by
      rw [f_Eng_policy, a1, Option.bind_some, if_neg rne]
    have i1h : ∀ b, 102 ≤ b → C' b = I b := fun b hb => by
      have := pL pt p4 6 (by decide)
      rw [a5 b (by omega) (by omega) (by omega) (by omega) (by omega) (by omega)]
    obtain ⟨R0, hR0⟩ : ∃ z, z = up C' MO 0 0 := ⟨_, rfl⟩
    have r0b : ∀ b, b ≠ 102 → R0 b = C' b := fun b z => by rw [hR0, fu z]
    have r0j : ∀ j, j ≠ 0 → R0 MO j = I MO j := fun j z => by rw [hR0, up_ne (Or.inr z), i1h MO (by decide)]
    have txr : TXr T N R0 := ⟨by rw [r0j 2 (by decide)]; exact m2, fun k hk => by rw [r0b _ (by decide), i1h _ (by decide)]; exact sg k hk⟩
    obtain ⟨R1, e1, e2, e5⟩ := a6 J hJ R0 txr
    obtain ⟨R2, f1, f2, f3, f4, f5, f6, f7⟩ := swL (n := n) 900 n 0 R1 rfl (by omega)
    obtain ⟨Nk, k1, k2, k3⟩ := kt
    have r1b : ∀ b, 102 < b → ¬ (106 ≤ b ∧ b ≤ 117) → R1 b = I b := fun b z1 z2 => by rw [e5.1 b (by omega) z2, r0b b (by omega), i1h b (by omega)]
    have r1j : ∀ j, j ∉ [0, 10, 11, 12, 13, 14, 15, 18, 23, 28, 29] → R1 MO j = I MO j := fun j z => by
      have s : j ∉ [10, 11, 12, 13, 14, 15, 18, 23, 28, 29] ∧ j ≠ 0 := by
        revert z; simp only [List.mem_cons, List.not_mem_nil, or_false]; omega
      rw [e5.2.2.2.2.2 j s.1, r0j j s.2]
    have txk : TXr (I A_kept) Nk R2 := by
      refine ⟨by rw [f4, r1j 32 (by decide)]; exact k1, fun k hk => ?_⟩
      have := k2.1
      rw [(f2 k (Nat.zero_le _) (by omega)).1, r1b _ (by decide) (by decide)]
    obtain ⟨R3, g1, g2, g3, g4, g5⟩ := k3 n hn0 J hJ R2 txk
    obtain ⟨R4, h1, h2, h3, h4, h5, h6, h7⟩ := swL (n := n) 900 n 0 R3 rfl (by omega)
    have fM : f_Mod_policy n J C' = some (nI p, R4) := by
      rw [f_Mod_policy, lt, ← hR0, e1, Option.bind_some, e2, if_neg pge, show f_Mod_swapTexts n R1 = some R2 from f1, Option.bind_some, g1, Option.bind_some, show f_Mod_swapTexts n R3 = some R4 from h1, Option.bind_some]
    have o4 : ∀ b, b ≠ 102 → b ≠ 103 → b ≠ 118 → ¬ (106 ≤ b ∧ b ≤ 117) → R4 b = C' b := fun b z1 z2 z3 z4 => by
      rw [h7 b z1 z2 z3, g5.1 b z1 z4, f7 b z1 z2 z3, e5.1 b z1 z4, r0b b z1]
    have cl : ∀ b, b < 102 → R4 b = C' b := fun b hb => o4 b (by omega) (by omega) (by omega) (by omega)
    have hi : ∀ b, 118 < b → R4 b = I b := fun b z1 => by rw [o4 b (by omega) (by omega) (by omega) (by omega), i1h b (by omega)]
    have o3 : ∀ b, b ≠ 102 → b ≠ 103 → b ≠ 118 → R4 b = R3 b := fun b z1 z2 z3 => h7 b z1 z2 z3
    have sgk : ∀ k, k < 900 → R4 A_signs k = I A_signs k ∧ R4 A_kept k = I A_kept k := fun k hk => by
      obtain ⟨u1, u2⟩ := h2 k (Nat.zero_le _) hk
      obtain ⟨v1, v2⟩ := f2 k (Nat.zero_le _) hk
      rw [u1, u2, g5.1 A_kept (by decide) (by decide), g5.1 A_signs (by decide) (by decide), v1, v2, r1b _ (by decide) (by decide), r1b A_kept (by decide) (by decide)]
      exact ⟨rfl, rfl⟩
    have j2 : R4 MO 2 = I MO 2 := by rw [h4, g5.2.2.2.2.2 32 (by decide), f5, r1j 2 (by decide)]
    have j32 : R4 MO 32 = I MO 32 := by rw [h5, g5.2.2.2.2.2 2 (by decide), f4, r1j 32 (by decide)]
    have mj : ∀ j, j ∉ [0, 2, 10, 11, 12, 13, 14, 15, 18, 23, 28, 29, 32] → R4 MO j = I MO j := fun j z => by
      have s : j ≠ 2 ∧ j ≠ 32 ∧ j ∉ [10, 11, 12, 13, 14, 15, 18, 23, 28, 29] ∧ j ∉ [0, 10, 11, 12, 13, 14, 15, 18, 23, 28, 29] := by
        revert z; simp only [List.mem_cons, List.not_mem_nil, or_false]; omega
      rw [h6 j s.1 s.2.1, g5.2.2.2.2.2 j s.2.2.1, f6 j s.1 s.2.1, r1j j s.2.2.2]
    have mc : ∀ m, isMch m → ∀ i, i < 19 → R4 (m + i) = I (m + i) := fun m h i hi => by
      have := hm16 m h
      rw [cl _ (by omega), a5 _ (by omega) (by omega) (by omega) (by omega) (by omega) (hmP m h i hi)]
    have pc7 : ∀ a, isPol a → a ≠ pt → ∀ j, j < 7 → R4 (a + j) = I (a + j) := fun a h hne j hj => by
      have := pL a h j hj
      rw [cl _ (by omega), a5 _ (by omega) (by omega) (by omega) (by omega) (by omega) (pP a h hne j hj)]
    have wq : ∀ b, b = 40 ∨ b = 41 ∨ b = 2 → R4 b = I b := fun b hb => by
      rw [cl b (by omega), a5 b (by omega) (by omega) (by omega) (by omega) (by omega) (by rcases p4 with rfl | rfl | rfl <;> omega)]
    have prA : PR A 0 0 0 0 R4 := PR_c (o3 _ (by decide) (by decide) (by decide)) (o3 _ (by decide) (by decide) (by decide)) (o3 _ (by decide) (by decide) (by decide)) (o3 _ (by decide) (by decide) (by decide)) (o3 _ (by decide) (by decide) (by decide)) (o3 _ (by decide) (by decide) (by decide)) (o3 _ (by decide) (by decide) (by decide)) (o3 _ (by decide) (by decide) (by decide)) (o3 _ (by decide) (by decide) (by decide)) g3
    have tq := tl_A wA rA prA
    have ecu : curM R4 = (fun j => R4 MO (scF.getD j 34), fun j k => I (arF.getD j 119) k) := by
      unfold curM
      congr 1
      funext j k
      rw [hi _ (by have := arF_ge j; omega)]
    have ecu2 : curM R4 = curM I := by
      rw [ecu]
      unfold curM
      congr 1
      funext j
      by_cases hj : j < 16
      · exact mj _ (scW j hj)
      · rw [List.getD_eq_getElem?_getD, List.getElem?_eq_none (show scF.length ≤ j from by show 16 ≤ j; omega)]
        exact mj 34 (by decide)
    have eo : othM R4 = othM I := by
      unfold othM
      rw [hi A_other (by decide)]
    refine ⟨n, nI p, C', R4, fE, fM, fun y => absurd y rne, fun _ => ?_⟩
    refine ⟨d, ?_, ?_, ?_, ?_, ?_, ?_, hp, A, B, wA, wB, prA, ?_, ?_, ?_, ?_, ?_⟩
    · unfold TX
      have r10 : R4 1 0 = nI N := by rw [cl 1 (by decide)]; exact a4.1
      rw [r10, wq 2 (Or.inr (Or.inr rfl)), j2, ← eN]
      refine ⟨x1, x2, x3, fun k hk => ?_⟩
      rw [(sgk k (by omega)).1]; exact x4 k hk
    · intro m hm
      rw [mc m hm 15 (by decide), mc m hm 17 (by decide)]
      exact rc m hm
    · unfold WI
      rw [wq 40 (Or.inl rfl), wq 41 (Or.inr (Or.inl rfl)), hi A_witness (by decide), mj 71 (by decide)]
      exact wi
    · rw [mj 69 (by decide)]; exact h69
    · rw [ecu2]
      exact RM_tl tq (RM_t (RM_c (mc hd p2) rm))
    · rw [eo]
      exact RM_tl tq (RM_t (RM_c (mc ot p3) ro))
    · unfold PH at g4 ⊢
      rw [o3 A_statementAt (by decide) (by decide) (by decide), h6 15 (by decide) (by decide), h6 18 (by decide) (by decide), h6 23 (by decide) (by decide)]
      exact g4
    · exact PC_c (fun j hj => pc7 rl hp d4 j hj) cA
    · have rB0 : PR B 22 301 300 1000 R0 := by
        have e : ∀ b, 103 ≤ b → R0 b = I b := fun b hb => by rw [r0b b (by omega), i1h b (by omega)]
        exact PR_c (e _ (by decide)) (e _ (by decide)) (e _ (by decide)) (e _ (by decide)) (e _ (by decide)) (e _ (by decide)) (e _ (by decide)) (e _ (by decide)) (e _ (by decide)) rB
      have rB2 : PR B 22 301 300 1000 R2 := PR_c (f7 _ (by decide) (by decide) (by decide)) (f7 _ (by decide) (by decide) (by decide)) (f7 _ (by decide) (by decide) (by decide)) (f7 _ (by decide) (by decide) (by decide)) (f7 _ (by decide) (by decide) (by decide)) (f7 _ (by decide) (by decide) (by decide)) (f7 _ (by decide) (by decide) (by decide)) (f7 _ (by decide) (by decide) (by decide)) (f7 _ (by decide) (by decide) (by decide)) (PR_w e5 rB0)
      exact PR_c (o3 _ (by decide) (by decide) (by decide)) (o3 _ (by decide) (by decide) (by decide)) (o3 _ (by decide) (by decide) (by decide)) (o3 _ (by decide) (by decide) (by decide)) (o3 _ (by decide) (by decide) (by decide)) (o3 _ (by decide) (by decide) (by decide)) (o3 _ (by decide) (by decide) (by decide)) (o3 _ (by decide) (by decide) (by decide)) (o3 _ (by decide) (by decide) (by decide)) (PR_w g5 rB2)
    · exact PC_c (fun j hj => pc7 48 (Or.inr (Or.inl rfl)) (Ne.symm d6) j hj) cB
    · refine ktP_c (T := I A_kept) (N := Nk) (by rw [j32]; exact k1) k2 k3 (fun k hk => ?_)
      have := k2.1
      exact (sgk k (by omega)).2
/-- the text at the start -/
theorem kt_0 : ktP (fun _ => 0) 0 aZ := by
  have vt : VT (fun _ => 0) 0 := ⟨by decide, fun k hk => absurd hk (Nat.not_lt_zero _)⟩
  refine ⟨0, rfl, vt, fun n hn J hJ R tr => ?_⟩
  obtain ⟨R1, f1, f2, f3⟩ := rp0 (n := n) hJ (by omega) vt tr
  obtain ⟨h1, h2⟩ := BR_P f2
  obtain ⟨g, hg⟩ : ∃ g, n = g + 1 := ⟨n - 1, by omega⟩
  have e : l_Mod_readPolicy_50 n J n R1 = l_Mod_readPolicy_50 n J (g + 1) R1 := congrArg (fun z => l_Mod_readPolicy_50 n J z R1) hg
  have t0 : tC (fun _ => 0) 0 0 = 100 := rfl
  refine ⟨R1, ?_, f2.1.2.1, h1, h2, f3⟩
  rw [f1, e, l_Mod_readPolicy_50, f2.1.2.1, if_neg ng1, f_Mod_tokenIsEnd, if_pos ((te_f vt f2.1.1).mpr t0), Option.bind_some, if_neg one0, b_Mod_readPolicy_186]
