/-! image -/
def RPi (R R' : IM) : Prop := (∀ b, b ≠ MO → R' b = R b) ∧ ∀ j, j ∉ [4, 5, 6, 10, 11, 12, 13, 14] → R' MO j = R MO j
theorem preI {T : Nat → Int32} {N n : Nat} {J : JM} {R : IM} {x : Int32} (hx : x = 0 ∨ x = 1) (hJ : JOK J) (hn : 1000 ≤ n) (vt : VT T N) (tx : TXr T N R) : ∃ R', f_Mod_readImage n J x R = l_Mod_readImage_31 n J n 1 R' ∧ RB T N 0 R' ∧ R' MO 14 = -1 ∧ R' MO 6 = x ∧ R' MO 4 = 0 ∧ R' MO 5 = 0 ∧ RPi R R' := by
  obtain ⟨R1, h1⟩ : ∃ z, z = up (up (up (up (up R MO 6 x) MO 14 (-1)) MO 13 0) MO 4 0) MO 5 0 := ⟨_, rfl⟩
  have b1 : ∀ b, b ≠ MO → R1 b = R b := fun b z => by rw [h1, fu z, fu z, fu z, fu z, fu z]
  have j1 : ∀ j, j ∉ [4, 5, 6, 13, 14] → R1 MO j = R MO j := fun j z => by
    rw [h1, up_ne (Or.inr (fun y => z (by rw [y]; decide))), up_ne (Or.inr (fun y => z (by rw [y]; decide))), up_ne (Or.inr (fun y => z (by rw [y]; decide))), up_ne (Or.inr (fun y => z (by rw [y]; decide))), up_ne (Or.inr (fun y => z (by rw [y]; decide)))]
  have e5 : R1 MO 5 = 0 := by rw [h1, up_self]
  have e4 : R1 MO 4 = 0 := by rw [h1, up_ne (Or.inr (by decide)), up_self]
  have e13 : R1 MO 13 = 0 := by rw [h1, up_ne (Or.inr (by decide)), up_ne (Or.inr (by decide)), up_self]
  have e14 : R1 MO 14 = -1 := by rw [h1, up_ne (Or.inr (by decide)), up_ne (Or.inr (by decide)), up_ne (Or.inr (by decide)), up_self]
  have e6 : R1 MO 6 = x := by rw [h1, up_ne (Or.inr (by decide)), up_ne (Or.inr (by decide)), up_ne (Or.inr (by decide)), up_ne (Or.inr (by decide)), up_self]
  have tx1 : TXr T N R1 := ⟨by rw [j1 2 (by decide)]; exact tx.1, fun k hk => by rw [b1 A_signs (by decide)]; exact tx.2 k hk⟩
  obtain ⟨R', a1, a2, a3, a4⟩ := adv0 (n := n) (k := 0) (e := N) hJ hn vt (Nat.le_refl _) rfl tx1 (by rw [e13, Nat.sub_self]; rfl)
  refine ⟨R', ?_, a2, by rw [a4 14 (by decide) (by decide) (by decide) (by decide)]; exact e14, by rw [a4 6 (by decide) (by decide) (by decide) (by decide)]; exact e6, by rw [a4 4 (by decide) (by decide) (by decide) (by decide)]; exact e4, by rw [a4 5 (by decide) (by decide) (by decide) (by decide)]; exact e5, fun b z => by rw [a3 b z, b1 b z], fun j z => ?_⟩
  · rw [f_Mod_readImage, chk_i hx, lt, lt, lt, lt, lt, ← h1, a1, Option.bind_some]
  · have s : j ≠ 10 ∧ j ≠ 11 ∧ j ≠ 12 ∧ j ≠ 13 ∧ j ∉ [4, 5, 6, 13, 14] := by
      revert z
      simp only [List.mem_cons, List.not_mem_nil, or_false]
      omega
    rw [a4 j s.1 s.2.1 s.2.2.1 s.2.2.2.1, j1 j s.2.2.2.2]
theorem fs_cTop {n it b : Nat} {J : JM} {C C' : IM} {r : Int32} (h : cTop n it J C = some (r, C')) (o0 : b < 15 ∨ 15 + 1 ≤ b) (o1 : b < it ∨ it + 14 ≤ b) (o2 : b < 1 ∨ 1 + 6 ≤ b) : C' b = C b := by
  rw [cTop] at h
  by_cases z : C 1 1 = 35
  · rw [if_pos z] at h
    obtain ⟨v, e, h⟩ := bnd_e h
    exact (fsl_Img_read_52 (it := it) o0 o1 o2 _ _ _ _ h).trans (fsr_Img_readClear e o1 o2 o0)
  · rw [if_neg z] at h
    exact fsb_Img_read_44 (it := it) o0 o1 o2 h
set_option maxHeartbeats 2000000 in
theorem ma_image {PX : Nat → IM → Prop} (hP : PXF PX) : Ma_image (Rl PX) := by
  intro t ht rl hd ot pt it J I p1 p2 p3 p4 p5 hJ hR
  obtain ⟨d, tx, rc, wi, h69, rm, ro, px⟩ := id hR
  obtain ⟨n, hn⟩ : ∃ n : Nat, 1000 ≤ n := ⟨1000, Nat.le_refl _⟩
  have it16 := m16 p5
  have n18 := mch_in p5 (show 18 < 19 by decide)
  obtain ⟨x1, x2, x3, x4⟩ := id tx
  have n0 : ¬ I 1 0 < 0 := by rw [ti]; simp only [Int32.reduceToInt]; omega
  have eN := nof n0
  have bN := nat_of n0
  obtain ⟨N, hN⟩ : ∃ N, N = (I 1 0).toNatClampNeg := ⟨_, rfl⟩
  rw [← hN] at eN bN
  obtain ⟨T, hT⟩ : ∃ T : Nat → Int32, T = I 2 := ⟨_, rfl⟩
  have vt : VT T N := ⟨by omega, fun k hk => by rw [hT]; exact (x4 k (by omega)).2⟩
  -- the class begins
  obtain ⟨C1, hC1⟩ : ∃ z, z = up (up (rsI I it 0) 15 2 0) 15 4 (-1) := ⟨_, rfl⟩
  have c1o : ∀ b, b ≠ 15 → (b < it ∨ it + 19 ≤ b) → C1 b = I b := fun b z1 z2 => by rw [hC1, fu z1, fu z1, rs_o z2]
  have c1m : ∀ i, i < 19 → C1 (it + i) = rsI I it 0 (it + i) := fun i hi => by rw [hC1, fu (by omega), fu (by omega)]
  have tx1 : TXc T N C1 := ⟨by rw [c1o 1 (by decide) (by omega)]; exact eN, fun k hk => by rw [c1o 2 (by decide) (by omega), hT]⟩
  obtain ⟨K, C2, s1, s2, s3⟩ := stC (n := n) (C := C1) hJ hn vt tx1
  have c2m : ∀ i, i < 19 → C2 (it + i) = rsI I it 0 (it + i) := fun i hi => by rw [s3 _ (by omega) (by omega) (by omega) (by omega), c1m i hi]
  have fE : f_Img_read n it J I = cTop n it J C2 := by
    rw [f_Img_read, rs_f, Option.bind_some, lt, lt, ← hC1, s1, Option.bind_some, cTop]
  have hv : ag19 (rsV (vw I it) 0) (vw C2 it) := ag_trans rs_vw (fun i hi => by
    funext j
    show C2 (it + i) j = rsI I it 0 (it + i) j
    rw [c2m i hi])
  have e2 : C2 15 2 = 0 := by rw [s3 15 (by decide) (by decide) (by decide) (by decide), hC1, up_ne (Or.inr (by decide)), up_self]
  have e4 : C2 15 4 = -1 := by rw [s3 15 (by decide) (by decide) (by decide) (by decide), hC1, up_self]
  have qc : QC C2 it := by
    unfold QC
    rw [c2m 15 (by decide), c2m 17 (by decide), (rs_k (by decide)).1, (rs_k (by decide)).1, (rs_k (by decide)).2, (rs_k (by decide)).2]
    exact rc it p5
  have rmk : ∀ R : IM, (∀ j, j < 64 → R 119 j = 0 ∧ R 120 j = 0) → (∀ j, j < 96 → R 121 j = 0 ∧ R 122 j = 0 ∧ R 123 j = 0) → (∀ j, j < 8 → R 124 j = 0 ∧ R 125 j = 0) → (∀ j, j < 88 → R 135 j = 0) → R MO 34 = 0 → (∀ j ∈ [42, 43, 45, 48, 50, 51, 52, 53, 54, 55, 58, 59, 63], R MO j = 0) → R MO 44 = -1 → RM 0 (tlI I) C2 it (curM R) := fun R w1 w2 w3 w4 w5 w6 w7 =>
    RM_vw.mpr (RM_ag hv (rs_RM w1 w2 w3 w4 w5 (w6 42 (by decide)) (w6 43 (by decide)) w7 (w6 45 (by decide)) (w6 48 (by decide)) (w6 50 (by decide)) (w6 51 (by decide)) (w6 52 (by decide)) (w6 53 (by decide)) (w6 54 (by decide)) (w6 55 (by decide)) (w6 58 (by decide)) (w6 59 (by decide)) (w6 63 (by decide))))
  have e5 : C2 (it + 13) 5 = 0 := by
    have := (rmk (up (fun _ _ => 0) MO 44 (-1)) (fun _ _ => ⟨rfl, rfl⟩) (fun _ _ => ⟨rfl, rfl, rfl⟩) (fun _ _ => ⟨rfl, rfl⟩) (fun _ _ => rfl) rfl (by decide) rfl).2.1.2.2.2.2.2.2.2.1
    exact this
  have lock : ∀ (x : Int32) (R : IM), (x = 0 ∨ x = 1) → TXr T N R → (x = 1 → QM (tlI I) it C2 R) → ∃ R', RPi R R' ∧ LPi x (tlI I) it T N R' (cTop n it J C2) (f_Mod_readImage n J x R) := fun x R hx hr hq => by
    obtain ⟨R', a1, a2, a3, a4, a5, a6, a7⟩ := preI (n := n) hx hJ hn vt hr
    refine ⟨R', a7, ?_⟩
    rw [a1]
    refine tpi hx p5 hJ hn vt ⟨⟨s2, a2, e4, a3⟩, a4, by rw [e2, a5], ⟨0, by decide, a5⟩, by rw [e5, a6], ⟨0, by decide, a6⟩, fun y => QM_c (hq y) (fun _ _ => rfl) (fun b z1 _ => a7.1 b (by show b ≠ 102; omega)) (fun j hj => a7.2 j ?_)⟩
    revert hj
    simp only [List.mem_cons, List.not_mem_nil, or_false]
    omega
  have txr : ∀ R : IM, R A_signs = I A_signs → R MO 2 = I MO 2 → TXr T N R := fun R w1 w2 => ⟨by rw [w2, ← x1, eN], fun k hk => by rw [w1, hT, (x4 k (by omega)).1]⟩
  obtain ⟨-, -, r, I1, g1, gT, -⟩ := lock 0 I (Or.inl rfl) (txr I rfl rfl) (fun y => absurd y (by decide))
  have fI : f_Img_read n it J I = some (r, I1) := fE.trans g1
  have i1 : ∀ b, b ≠ 15 → (b < it ∨ it + 19 ≤ b) → (b < 1 ∨ 7 ≤ b) → I1 b = I b := fun b z1 z2 z3 => fr_Img_read fI (by omega) z2 z3
  have i102 : ∀ b, 102 ≤ b → I1 b = I b := fun b hb => i1 b (by omega) (by omega) (by omega)
  obtain ⟨R0, hR0⟩ : ∃ z, z = up I1 MO 0 0 := ⟨_, rfl⟩
  have r0b : ∀ b, b ≠ MO → R0 b = I1 b := fun b z => by rw [hR0, fu z]
  have r0j : ∀ j, j ≠ 0 → R0 MO j = I MO j := fun j z => by rw [hR0, up_ne (Or.inr z), i102 MO (by decide)]
  obtain ⟨R1, rp, r', C', y1, -, y2⟩ := lock 0 R0 (Or.inl rfl) (txr R0 (by rw [r0b _ (by decide), i102 _ (by decide)]) (r0j 2 (by decide))) (fun y => absurd y (by decide))
  have same := g1.symm.trans y1
  have er : r = r' := congrArg Prod.fst (Option.some.inj same)
  have eC : I1 = C' := congrArg Prod.snd (Option.some.inj same)
  subst er
  subst eC
  have tx2 : ∀ R : IM, R 1 = I1 1 → R 2 = I1 2 → R A_signs = I A_signs → R MO 2 = I MO 2 → TX R := fun R w1 w2 w3 w4 => by
    unfold TX
    rw [w1, w2, w3, w4, gT.1]
    refine ⟨by rw [← eN]; exact x1, by rw [← eN]; exact x2, by rw [← eN]; exact x3, fun k hk => ?_⟩
    rw [← eN] at hk
    have kN : k < N := by omega
    rw [gT.2 k kN, hT]
    exact x4 k hk
  have wi2 : ∀ R : IM, R 40 = I 40 → R 41 = I 41 → R A_witness = I A_witness → R MO 71 = I MO 71 → WI R := fun R w1 w2 w3 w4 => by
    unfold WI
    rw [w1, w2, w3, w4]
    exact wi
  have pol : ∀ R : IM, (∀ b, b < 102 → R b = I1 b) → ∀ a, isPol a → ∀ j, j < 7 → R (a + j) = I (a + j) := fun R w a ha j hj => by
    have f1 : a + j < 102 := by rcases ha with rfl | rfl | rfl <;> omega
    have f2 : a + j ≠ 15 ∧ (a + j < 1 ∨ 7 ≤ a + j) := by rcases ha with rfl | rfl | rfl <;> omega
    have f3 : a + j < it ∨ it + 19 ≤ a + j := by rcases ha with rfl | rfl | rfl <;> rcases p5 with rfl | rfl | rfl <;> omega
    rw [w _ f1, i1 _ f2.1 f3 f2.2]
  have mch : ∀ R : IM, (∀ b, b < 102 → R b = I1 b) → ∀ m, isMch m → m ≠ it → ∀ i, i < 19 → R (m + i) = I (m + i) := fun R w m hm ne i hi => by
    have := mch_far hm p5 ne
    have := m16 hm
    have := mch_in hm hi
    rw [w _ (by omega), i1 _ (by omega) (by omega) (by omega)]
  refine ⟨n, r, I1, ?_⟩
  rcases y2 with ⟨rm1, R2, z1, z2, -, z4⟩ | ⟨rne, z1⟩
  · -- it was read
    subst rm1
    have r2b : ∀ b, b ≠ MO → R2 b = I1 b := fun b z => by rw [z4.1 b z (fun y => absurd y (by decide)), rp.1 b z, r0b b z]
    have r2j : ∀ j, j ∉ [4, 5, 6, 7, 10, 11, 12, 13, 14] → R2 MO j = R0 MO j := fun j z => by
      rw [z4.2 j (fun y => z (by revert y; simp only [List.mem_cons, List.not_mem_nil, or_false]; omega)) (fun y => absurd y (by decide)), rp.2 j (fun y => z (by revert y; simp only [List.mem_cons, List.not_mem_nil, or_false]; omega))]
    obtain ⟨R3, u0, u1, u2, u3, u4, u5, u6, u7, u8, u9, u10⟩ := su_spec (n := n) (c := 0) (I := R2) (by omega)
    have rmz := rmk R3 u1 u2 u3 u4 u5 u6 u7
    have qm : QM (tlI I) it C2 R3 := by
      refine ⟨QA_of (t := 0) (b := 0) (Nat.le_refl _) qc rmz, rmz.2.1.2.2.1, ?_, u6 50 (by decide)⟩
      have h7 : C2 it 2 = if R3 MO 50 = 3 then R3 MO 66 else -1 := rmz.2.2.2.2.2.2.1
      rw [h7, u6 50 (by decide), if_neg (by decide)]
    have r3s : R3 A_signs = I A_signs := by rw [u10 _ (by decide) (by decide), r2b _ (by decide), i102 _ (by decide)]
    have r3j : ∀ j, j ∈ [0, 2, 15, 18, 23, 32, 69, 71] → R3 MO j = R0 MO j := fun j hj => by
      have s : ∀ j, j ∈ [0, 2, 15, 18, 23, 32, 69, 71] → j ∉ [34, 42, 43, 44, 45, 48, 50, 51, 52, 53, 54, 55, 58, 59, 63, 66] ∧ j ∉ [4, 5, 6, 7, 10, 11, 12, 13, 14] := by decide
      rw [u9 j (s j hj).1, r2j j (s j hj).2]
    obtain ⟨R4, rp4, r5, C5, v1, -, v2⟩ := lock 1 R3 (Or.inr rfl) (txr R3 r3s (by rw [r3j 2 (by decide)]; exact r0j 2 (by decide))) (fun _ => qm)
    have same5 := g1.symm.trans v1
    have er5 : -1 = r5 := congrArg Prod.fst (Option.some.inj same5)
    have eC5 : I1 = C5 := congrArg Prod.snd (Option.some.inj same5)
    subst er5
    subst eC5
    rcases v2 with ⟨-, R6, w1, w2, w3, w4⟩ | ⟨w1, -⟩
    rotate_left
    · exact absurd rfl w1
    have fM : f_Mod_image n J I1 = some (-1, R6) := by
      rw [f_Mod_image, lt, ← hR0, z1, Option.bind_some, z2, if_pos (show (-1 : Int32) < 0 by decide), u0, Option.bind_some, w1, Option.bind_some]
    have r6b : ∀ b, b ≠ MO → ¬ (119 ≤ b ∧ b < 136) → R6 b = I1 b := fun b q1 q2 => by rw [w4.1 b q1 (fun _ => by omega), rp4.1 b q1, u10 b q1 q2, r2b b q1]
    have r6l : ∀ b, b < 102 → R6 b = I1 b := fun b hb => r6b b (by show b ≠ 102; omega) (by omega)
    have r6j : ∀ j, j ∈ [0, 2, 15, 18, 23, 32, 69, 71] → R6 MO j = R0 MO j := fun j hj => by
      have s : ∀ j, j ∈ [0, 2, 15, 18, 23, 32, 69, 71] → j ∉ [4, 5, 7, 10, 11, 12, 13, 14] ∧ j ∉ [34, 42, 43, 45] ∧ j ∉ [4, 5, 6, 10, 11, 12, 13, 14] := by decide
      rw [w4.2 j (s j hj).1 (fun _ => (s j hj).2.1), rp4.2 j (s j hj).2.2, r3j j hj]
    have r6k : ∀ j, j ∈ [2, 15, 18, 23, 32, 69, 71] → R6 MO j = I MO j := fun j hj => by
      have s : ∀ j, j ∈ [2, 15, 18, 23, 32, 69, 71] → j ∈ [0, 2, 15, 18, 23, 32, 69, 71] ∧ j ≠ 0 := by decide
      rw [r6j j (s j hj).1, r0j j (s j hj).2]
    have ag : agP I R6 := by
      refine ⟨fun a ha => ?_, by rw [r6b _ (by decide) (by decide), i102 _ (by decide)], r6k 15 (by decide), r6k 18 (by decide), r6k 23 (by decide), r6k 32 (by decide), pol R6 r6l⟩
      have s : ∀ a, a ∈ [107, 108, 109, 110, 111, 112, 113, 114, 115, 118] → 103 ≤ a ∧ a < 119 := by decide
      have := s a ha
      rw [r6b a (by show a ≠ 102; omega) (by omega), i102 a (by omega)]
    have q6 := w3 rfl
    refine ⟨R6, fI, fM, fun _ => ?_, fun y => absurd rfl y⟩
    have oth : othM R6 = othM I := by
      unfold othM
      rw [r6b A_other (by decide) (by decide), i102 _ (by decide)]
    refine ⟨⟨fun y => d.2.2.1 y.symm, fun y => d.2.1 y.symm, fun y => d.1 y.symm, d.2.2.2⟩, tx2 R6 (r6l 1 (by decide)) (r6l 2 (by decide)) (by rw [r6b _ (by decide) (by decide), i102 _ (by decide)]) (r6k 2 (by decide)), ?_, wi2 R6 ?_ ?_ (by rw [r6b _ (by decide) (by decide), i102 _ (by decide)]) (r6k 71 (by decide)), by rw [r6k 69 (by decide)]; exact h69, ?_, ?_, hP _ _ _ ag px⟩
    · intro m hm
      by_cases e : m = it
      · rw [e, r6l (it + 15) (by omega), r6l (it + 17) (by omega)]
        exact q6.1.2.2.2.2.2.2.2.2
      · rw [mch R6 r6l m hm e 15 (by decide), mch R6 r6l m hm e 17 (by decide)]
        exact rc m hm
    · rw [r6l 40 (by decide), i1 40 (by decide) (by rcases p5 with rfl | rfl | rfl <;> omega) (by decide)]
    · rw [r6l 41 (by decide), i1 41 (by decide) (by rcases p5 with rfl | rfl | rfl <;> omega) (by decide)]
    · rw [tlI_ag ag]
      refine RM_c (fun i hi => r6l _ (by have := mch_in p5 hi; omega)) (RM_of (C := I1) (R := R6) (b := 0) (Nat.zero_le _) q6.1 q6.2.1 ?_)
      rw [q6.2.2.1, q6.2.2.2, if_neg (by decide)]
    · rw [tlI_ag ag, oth]
      exact RM_t (RM_c (fun i hi => mch R6 r6l ot p3 d.2.2.1 i hi) ro)
  · -- a fault
    obtain ⟨R2, z2, z3, z5, z4⟩ := z1 rfl
    have r2b : ∀ b, b ≠ MO → R2 b = I1 b := fun b z => by rw [z4.1 b z (fun y => absurd y (by decide)), rp.1 b z, r0b b z]
    have r2j : ∀ j, j ∉ [4, 5, 6, 7, 10, 11, 12, 13, 14] → R2 MO j = R0 MO j := fun j z => by
      rw [z4.2 j (fun y => z (by revert y; simp only [List.mem_cons, List.not_mem_nil, or_false]; omega)) (fun y => absurd y (by decide)), rp.2 j (fun y => z (by revert y; simp only [List.mem_cons, List.not_mem_nil, or_false]; omega))]
    have fM : f_Mod_image n J I1 = some (r, R2) := by
      rw [f_Mod_image, lt, ← hR0, z2, Option.bind_some, z3, if_neg (fun y => ile.mpr y z5)]
    have r2l : ∀ b, b < 102 → R2 b = I1 b := fun b hb => r2b b (by show b ≠ 102; omega)
    have r2h : ∀ b, 103 ≤ b → R2 b = I b := fun b hb => by rw [r2b b (by show b ≠ 102; omega), i102 b (by omega)]
    have r2k : ∀ j, j ∉ [0, 4, 5, 6, 7, 10, 11, 12, 13, 14] → R2 MO j = I MO j := fun j hj => by
      have s : j ≠ 0 ∧ j ∉ [4, 5, 6, 7, 10, 11, 12, 13, 14] := by
        revert hj
        simp only [List.mem_cons, List.not_mem_nil, or_false]
        omega
      rw [r2j j s.2, r0j j s.1]
    have ag : agP I R2 := by
      refine ⟨fun a ha => ?_, r2h _ (by decide), r2k 15 (by decide), r2k 18 (by decide), r2k 23 (by decide), r2k 32 (by decide), pol R2 r2l⟩
      have s : ∀ a, a ∈ [107, 108, 109, 110, 111, 112, 113, 114, 115, 118] → 103 ≤ a := by decide
      exact r2h a (s a ha)
    have ecu : curM R2 = curM I := by
      unfold curM
      congr 1
      · funext j
        refine r2k _ ?_
        have s : ∀ j, j < 16 → scF.getD j 34 ∉ [0, 4, 5, 6, 7, 10, 11, 12, 13, 14] := by decide
        by_cases hj : j < 16
        · exact s j hj
        · rw [List.getD_eq_getElem?_getD, List.getElem?_eq_none (show scF.length ≤ j from by show 16 ≤ j; omega)]
          decide
      · funext j k
        rw [r2h _ (by have := arF_ge j; omega)]
    refine ⟨R2, fI, fM, fun y => absurd y rne, fun _ => ?_⟩
    refine Rl_of hP hR (tx2 R2 (r2l 1 (by decide)) (r2l 2 (by decide)) (r2h _ (by decide)) (r2k 2 (by decide))) ?_ (wi2 R2 ?_ ?_ (r2h _ (by decide)) (r2k 71 (by decide))) (by rw [r2k 69 (by decide)]; exact h69) ag (fun i hi => mch R2 r2l ot p3 d.2.2.1 i hi) (r2h _ (by decide)) ?_
    · intro m hm
      by_cases e : m = it
      · have f1 : ∀ i, 14 ≤ i → i < 19 → I1 (it + i) = C2 (it + i) := fun i h1 h2 => fs_cTop g1 (by omega) (by omega) (by omega)
        rw [e, r2l (it + 15) (by omega), r2l (it + 17) (by omega), f1 15 (by decide) (by decide), f1 17 (by decide) (by decide)]
        exact qc
      · rw [mch R2 r2l m hm e 15 (by decide), mch R2 r2l m hm e 17 (by decide)]
        exact rc m hm
    · rw [r2l 40 (by decide), i1 40 (by decide) (by rcases p5 with rfl | rfl | rfl <;> omega) (by decide)]
    · rw [r2l 41 (by decide), i1 41 (by decide) (by rcases p5 with rfl | rfl | rfl <;> omega) (by decide)]
    · rw [ecu]
      exact RM_t (RM_c (fun i hi => mch R2 r2l hd p2 d.2.1 i hi) rm)
