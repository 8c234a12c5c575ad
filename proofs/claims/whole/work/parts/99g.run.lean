/-! run -/
theorem PC_att {A : AP} {p n m : Nat} {C C' : IM} {dn : Int32} (hp : isPol p) (hm : isMch m) (h : f_Stp_attempt n m p C = some (dn, C')) (pc : PC A p C) : PC A p C' := PC_c (fun j hj => by
  obtain ⟨a1, a2, a3, a4⟩ := polap hp (Or.inl rfl : isWrk 36) hm hj
  have z : p + j < 35 ∨ 39 < p + j := by rcases hp with rfl | rfl | rfl <;> omega
  exact fr_Stp_attempt h (by omega) (by omega) (by omega) (by omega)) pc
theorem run_l {A : AP} {p n m N B : Nat} {tl : Int32 → Nat → Prop} (hN : N ≤ 2000) (hB : B ≤ 2000000) : ∀ (d f f' k b : Nat) (C R : IM), k + d = N → d < f → d + 1 < f' → b + d ≤ B → AB A p n m b tl C R → R MO 50 = 0 → (d = 0 → C (m + 13) 0 = R MO 50) → ∃ r C' R', l_Eng_run_60 n p m f (nI N) (nI k) (nI k) C = some (r, C') ∧ l_Mod_run_63 n f' (nI N) (nI k) R = some (r, R') ∧ QA B tl C' m R' ∧ C' (m + 13) 0 = R' MO 50 ∧ C' m 2 = (if R' MO 50 = 3 then R' MO 66 else -1) ∧ RF1 R R'
  | 0, f + 1, f' + 1, k, b, C, R, hd, _, _, hb, ab, h50, hs => by
    have hk : k = N := by omega
    subst hk
    refine ⟨nI k, C, R, ?_, ?_, ?_, hs rfl, ?_, RF1_0⟩
    · rw [l_Eng_run_60, if_pos (Int32.le_refl _)]; rfl
    · rw [l_Mod_run_63, if_pos (Int32.le_refl _)]; rfl
    · exact QA_c (by omega) ab.2.2.2.2.2.2.2.2.1 (fun _ _ _ _ => rfl) rfl rfl (fun _ _ => rfl) (fun _ _ _ _ => rfl) (fun _ _ => rfl)
    · rw [h50, if_neg (by decide)]; exact ab.2.2.2.2.2.2.2.2.2.2.1
  | d + 1, f + 1, f' + 1, k, b, C, R, hd, hf, hf', hb, ab, h50, _ => by
    obtain ⟨dn, C1, R1, f1, f2, hdn, qa, e0, e2, rf⟩ := att_eq ab
    obtain ⟨hn, hm, hp, wf, pc, pr, hat, h69, -, -, -, htl⟩ := ab
    have kN : ¬ nI N ≤ nI k := nk (by omega) (by omega)
    have e0' : C1 (m + 13) (0 : Int32).toNatClampNeg = R1 MO 50 := e0
    have cl : l_Eng_run_60 n p m (f + 1) (nI N) (nI k) (nI k) C = if R1 MO 50 = 0 then l_Eng_run_60 n p m f (nI N) (nI k + (if dn = 0 then 0 else 1 : Int32)) (nI (k + 1)) C1 else some (nI k + (if dn = 0 then 0 else 1 : Int32), C1) := by
      by_cases z : R1 MO 50 = 0
      · rw [if_pos z, l_Eng_run_60, if_neg kN, f1, Option.bind_some, if_pos (e0'.trans z), nk1]
      · rw [if_neg z, l_Eng_run_60, if_neg kN, f1, Option.bind_some, if_neg (fun y => z (e0'.symm.trans y))]
        rfl
    have rl : l_Mod_run_63 n (f' + 1) (nI N) (nI k) R = l_Mod_run_63 n f' (nI N) (if dn = 0 then nI k else nI (k + 1)) R1 := by
      rw [l_Mod_run_63, if_neg kN, if_pos h50, f2, Option.bind_some, nk1]
    by_cases z : R1 MO 50 = 0
    · have dn1 : dn = 1 := by
        rcases hdn with ⟨-, y⟩ | y
        · exact absurd z y
        · exact y
      have ab1 : AB A p n m (b + 1) tl C1 R1 := by
        refine ⟨hn, hm, hp, wf, PC_att hp hm f1 pc, PR_c (rf.1 _ (by decide) (by decide) (by decide)) (rf.1 _ (by decide) (by decide) (by decide)) (rf.1 _ (by decide) (by decide) (by decide)) (rf.1 _ (by decide) (by decide) (by decide)) (rf.1 _ (by decide) (by decide) (by decide)) (rf.1 _ (by decide) (by decide) (by decide)) (rf.1 _ (by decide) (by decide) (by decide)) (rf.1 _ (by decide) (by decide) (by decide)) (rf.1 _ (by decide) (by decide) (by decide)) pr, fun s hs => by rw [rf.1 A_statementAt (by decide) (by decide) (by decide)]; exact hat s hs, by rw [rf.2 69 (by decide)]; exact h69, qa, by omega, ?_, htl⟩
        rw [e2, z, if_neg (by decide)]
      obtain ⟨r, C', R', g1, g2, g3, g4, g5, g6⟩ := run_l hN hB d f f' (k + 1) (b + 1) C1 R1 (by omega) (by omega) (by omega) (by omega) ab1 z (fun _ => e0)
      refine ⟨r, C', R', ?_, ?_, g3, g4, g5, RF1_t rf g6⟩
      · rw [cl, if_pos z, dn1, if_neg (by decide), nk1]
        exact g1
      · rw [rl, dn1, if_neg (by decide)]
        exact g2
    · refine ⟨nI k + (if dn = 0 then 0 else 1 : Int32), C1, R1, by rw [cl, if_neg z], ?_, QA_c (by omega) qa (fun _ _ _ _ => rfl) rfl rfl (fun _ _ => rfl) (fun _ _ _ _ => rfl) (fun _ _ => rfl), e0, e2, rf⟩
      obtain ⟨g, hg⟩ : ∃ g, f' = g + 1 := ⟨f' - 1, by omega⟩
      rw [rl, hg, l_Mod_run_63, if_neg z, b_Mod_run_93]
      have ee : (if dn = 0 then nI k else nI (k + 1)) = nI k + (if dn = 0 then 0 else 1 : Int32) := by
        by_cases y : dn = 0
        · rw [if_pos y, if_pos y, Int32.add_zero]
        · rw [if_neg y, if_neg y, nk1]
      rw [ee]
      exact ite_self _
theorem in2000 {x : Int32} {R : IM} (h1 : ¬ x < 0) (h2 : x ≤ 2000) : f_Mod_in x 0 2000 R = some 1 := by
  have c : ¬ (2000 : Int32) < x := fun z => ile.mpr z h2
  simp [f_Mod_in, h1, c, chk]
set_option maxHeartbeats 2000000 in
theorem ma_run {KT : (Nat → Int32) → Int32 → AP → Prop} : Ma_run (Rl (PXk KT)) := by
  intro a0 t ht rl hd ot pt it J I p1 p2 p3 p4 p5 hJ hR
  obtain ⟨d, tx, rc, wi, h69, rm, ro, px⟩ := id hR
  obtain ⟨hp, A, B, wA, wB, rA, hA, cA, rB, cB, kt⟩ := id px
  obtain ⟨n, hn⟩ : ∃ n : Nat, 3000 ≤ n := ⟨3000, Nat.le_refl _⟩
  have e50 : I (hd + 13) 0 = I MO 50 := rm.2.1.2.2.1
  have e50' : I (hd + 13) (0 : Int32).toNatClampNeg = I MO 50 := e50
  have bad : f_Mod_in a0 0 2000 I = some 0 → f_Mod_run n a0 I = some (0, up I MO 0 1) := fun z => by
    rw [f_Mod_run, z, Option.bind_some, if_pos rfl, refuse_1, Option.bind_some, if_neg (show ¬ (1 : Int32) = 0 by decide)]
  by_cases c1 : a0 < 0
  · refine Or.inr (Or.inl ⟨n, 0, up I MO 0 1, ?_, bad (by simp [f_Mod_in, c1, chk]), up_self, Rl_thr PXk_F p2 p3 hR⟩)
    rw [t_Eng_run, if_pos c1]; rfl
  by_cases c2 : a0 ≤ 2000
  rotate_left
  · have c2' : (2000 : Int32) < a0 := ile.mp c2
    refine Or.inr (Or.inl ⟨n, 0, up I MO 0 1, ?_, bad (by simp [f_Mod_in, c1, c2', chk]), up_self, Rl_thr PXk_F p2 p3 hR⟩)
    rw [t_Eng_run, if_neg c1, if_neg c2]; rfl
  by_cases c3 : I MO 50 = 0 ∨ I MO 50 = 5
  rotate_left
  · have z0 : ¬ I MO 50 = 0 := fun z => c3 (Or.inl z)
    have z5 : ¬ I MO 50 = 5 := fun z => c3 (Or.inr z)
    refine Or.inr (Or.inr ⟨n, 0, up I MO 0 2, ?_, ?_, up_self, Rl_thr PXk_F p2 p3 hR⟩)
    · rw [t_Eng_run, if_neg c1, if_pos c2, e50', if_neg z0, if_neg z5]
    · rw [f_Mod_run, in2000 c1 c2, Option.bind_some, if_neg (by decide), if_neg z0, if_neg z5, refuse_2, Option.bind_some, if_neg (show ¬ (1 : Int32) = 0 by decide)]
  have rfs : ∀ D : IM, D MO 50 = I MO 50 → f_Mod_run n a0 D = l_Mod_run_63 n n a0 0 (up (up D MO 0 0) MO 50 (if a0 ≤ 0 then (D MO 50) else 0)) := fun D hD => by
    have e : (if (D MO 50 : Int32) = 0 then 0 else (if (D MO 50 : Int32) = (5 : Int32) then 0 else 1) : Int32) = 0 := by
      rw [hD]
      rcases c3 with z | z
      · rw [if_pos z]
      · rw [if_neg (by rw [z]; decide), if_pos z]
    rw [f_Mod_run, in2000 c1 c2, Option.bind_some, if_neg (by decide), e, refuse_0, Option.bind_some, if_pos rfl, lt]
    dsimp only
    rw [up_ne (Or.inr (show 50 ≠ 0 by decide))]
  have efs : f_Eng_run n rl hd a0 I = l_Eng_run_60 n rl hd n a0 0 0 I := by
    rw [f_Eng_run, if_neg c1, if_pos c2, e50']
    rcases c3 with z | z
    · rw [if_pos z]; rfl
    · rw [if_neg (by rw [z]; decide), if_pos z]; rfl
  have eN := nof c1
  obtain ⟨N, hN⟩ : ∃ N, N = a0.toNatClampNeg := ⟨_, rfl⟩
  rw [← hN] at eN
  have bN : N ≤ 2000 := by
    have := nat_of c1
    rw [tl] at c2
    simp only [Int32.reduceToInt] at c2
    omega
  refine Or.inl ⟨n, ?_⟩
  by_cases n0 : N = 0
  · have a00 : a0 = 0 := by rw [eN, n0]; rfl
    refine ⟨0, I, up I MO 0 0, ?_, ?_, up_self, Rl_thr PXk_F p2 p3 hR⟩
    · obtain ⟨f, hf⟩ : ∃ f, n = f + 1 := ⟨n - 1, by omega⟩
      rw [efs, a00]
      show l_Eng_run_60 n rl hd n 0 0 0 I = _
      generalize hg : l_Eng_run_60 n rl hd = F
      rw [hf, ← hg, l_Eng_run_60, if_pos (by decide)]
      rfl
    · obtain ⟨f, hf⟩ : ∃ f, n = f + 1 := ⟨n - 1, by omega⟩
      rw [rfs I rfl, a00, if_pos (by decide), up_id (show up I MO 0 0 MO 50 = I MO 50 from up_ne (Or.inr (by decide)))]
      generalize hg : l_Mod_run_63 n = F
      rw [hf, ← hg, l_Mod_run_63, if_pos (by decide)]
      rfl
  have nle0 : ¬ a0 ≤ 0 := by
    rw [eN]
    exact fun z => by have := (nle (b := 0) (by omega) (by decide)).mp z; omega
  -- both sides from here
  have ab : ∀ R : IM, (∀ k, 103 ≤ k → R k = I k) → (∀ j, j ≠ 0 → j ≠ 50 → R MO j = I MO j) → AB A rl n hd (2000 * t) (tlI I) I R := by
    intro R h1 h2
    refine ⟨by omega, p2, hp, wA, cA, PR_c (h1 _ (by decide)) (h1 _ (by decide)) (h1 _ (by decide)) (h1 _ (by decide)) (h1 _ (by decide)) (h1 _ (by decide)) (h1 _ (by decide)) (h1 _ (by decide)) (h1 _ (by decide)) rA, fun s hs => by rw [h1 _ (by decide)]; exact hA.1 s hs, by rw [h2 69 (by decide) (by decide)]; exact h69, ?_, by omega, ?_, fun kd q hk hq e => ?_⟩
    · exact QA_c (Nat.le_refl _) (QA_of (Nat.le_refl _) (rc hd p2) rm) (fun _ _ _ _ => rfl) rfl rfl (fun _ _ => rfl) (fun k z1 z2 z3 => h1 k (by omega)) (fun j hj => h2 j (fun z => by subst z; revert hj; decide) (fun z => by subst z; revert hj; decide))
    · have r7 : I hd 2 = if I MO 50 = 3 then I MO 66 else -1 := rm.2.2.2.2.2.2.1
      rw [r7, if_neg (by rcases c3 with z | z <;> rw [z] <;> decide)]
    · have hk' : (nI kd).toNatClampNeg = kd := nkc (by omega)
      exact tl_q wA rA (by rw [hk']; exact hk) hq (by rw [hk']; exact e)
  have lock : ∀ R : IM, (∀ k, 103 ≤ k → R k = I k) → (∀ j, j ≠ 0 → j ≠ 50 → R MO j = I MO j) → R MO 50 = 0 → ∃ r C' R', l_Eng_run_60 n rl hd n a0 0 0 I = some (r, C') ∧ l_Mod_run_63 n n a0 0 R = some (r, R') ∧ QA (2000 * (t + 1)) (tlI I) C' hd R' ∧ C' (hd + 13) 0 = R' MO 50 ∧ C' hd 2 = (if R' MO 50 = 3 then R' MO 66 else -1) ∧ RF1 R R' := by
    intro R h1 h2 h3
    have := run_l (A := A) (p := rl) (n := n) (m := hd) (B := 2000 * (t + 1)) (tl := tlI I) bN (by omega) N n n 0 (2000 * t) I R (by omega) (by omega) (by omega) (by omega) (ab R h1 h2) h3 (fun z => absurd z n0)
    rw [← eN] at this
    exact this
  obtain ⟨r, I1, R1, g1, -⟩ := lock (up I MO 50 0) (fun k hk => fu (by show k ≠ 102; omega)) (fun j _ hj => up_ne (Or.inr hj)) up_self
  have fE : f_Eng_run n rl hd a0 I = some (r, I1) := efs.trans g1
  have hd35 : hd + 19 ≤ 35 ∨ 39 < hd := by rcases p2 with rfl | rfl | rfl <;> omega
  have i1 : ∀ k, 102 ≤ k → I1 k = I k := fun k hk => fr_Eng_run fE (by omega) (by rcases p2 with rfl | rfl | rfl <;> omega) (by omega) (by omega)
  obtain ⟨R0, hR0⟩ : ∃ z, z = up (up I1 MO 0 0) MO 50 0 := ⟨_, rfl⟩
  have r0b : ∀ k, k ≠ MO → R0 k = I1 k := fun k z => by rw [hR0, fu z, fu z]
  have r0m : ∀ j, j ≠ 0 → j ≠ 50 → R0 MO j = I MO j := fun j z1 z2 => by rw [hR0, up_ne (Or.inr z2), up_ne (Or.inr z1), i1 MO (by decide)]
  obtain ⟨r', C2, I2, g2, g3, qa, x50, x7, rf⟩ := lock R0 (fun k hk => by rw [r0b k (by show k ≠ 102; omega), i1 k (by omega)]) r0m (by rw [hR0, up_self])
  have same := g1.symm.trans g2
  have er : r = r' := congrArg Prod.fst (Option.some.inj same)
  have eC : I1 = C2 := congrArg Prod.snd (Option.some.inj same)
  subst er
  subst eC
  have fM : f_Mod_run n a0 I1 = some (r, I2) := by
    rw [rfs I1 (by rw [i1 MO (by decide)]), if_neg nle0, ← hR0]
    exact g3
  have i2 : ∀ k, k < 102 → I2 k = I1 k := fun k hk => fr_Mod_run fM (Or.inl hk)
  have i2t : ∀ k, 103 ≤ k → ¬ (119 ≤ k ∧ k < 136) → k ≠ 140 → I2 k = I k := fun k z1 z2 z3 => by rw [rf.1 k (by show k ≠ 102; omega) z2 z3, r0b k (by show k ≠ 102; omega), i1 k (by omega)]
  have i2m : ∀ j, j ∈ [2, 15, 18, 23, 32, 69, 71] → I2 MO j = I MO j := fun j hj => by
    have : ∀ j, j ∈ [2, 15, 18, 23, 32, 69, 71] → j ∈ [0, 2, 15, 18, 23, 32, 69, 71] ∧ j ≠ 0 ∧ j ≠ 50 := by decide
    obtain ⟨z1, z2, z3⟩ := this j hj
    rw [rf.2 j z1, r0m j z2 z3]
  have i2c : ∀ k, k < 102 → ¬ (35 ≤ k ∧ k ≤ 39) → ¬ (hd ≤ k ∧ k < hd + 19) → I2 k = I k := fun k z1 z2 z3 => by rw [i2 k z1]; exact fr_Eng_run fE (by omega) (by omega) (by omega) (by omega)
  have ag : agP I I2 := by
    refine ⟨fun a ha => ?_, i2t _ (by decide) (by decide) (by decide), i2m 15 (by decide), i2m 18 (by decide), i2m 23 (by decide), i2m 32 (by decide), fun a ha j hj => ?_⟩
    · have : ∀ a, a ∈ [107, 108, 109, 110, 111, 112, 113, 114, 115, 118] → 103 ≤ a ∧ a < 119 := by decide
      have := this a ha
      exact i2t a (by omega) (by omega) (by omega)
    · obtain ⟨b1, b2, b3, b4⟩ := polap ha (Or.inl rfl : isWrk 36) p2 hj
      exact i2c _ (by rcases ha with rfl | rfl | rfl <;> omega) (by rcases ha with rfl | rfl | rfl <;> omega) (by omega)
  have otc : ∀ i, i < 19 → I2 (ot + i) = I (ot + i) := fun i hi => i2c _ (by rcases p3 with rfl | rfl | rfl <;> omega) (by rcases p3 with rfl | rfl | rfl <;> omega) (by
    have := mch_far p3 p2 (fun z => d.1 z.symm)
    omega)
  have rmF : RM (t + 1) (tlI I) I2 hd (curM I2) := RM_c (fun i hi => i2 _ (by rcases p2 with rfl | rfl | rfl <;> omega)) (RM_of (C := I1) (R := I2) (Nat.le_refl _) qa x50 x7)
  have m0z : I2 MO 0 = 0 := by
    rw [rf.2 0 (by decide), hR0, up_ne (Or.inr (by decide)), up_self]
  refine ⟨r, I1, I2, fE, fM, m0z, Rl_of PXk_F hR ?_ ?_ ?_ ?_ ag otc (i2t _ (by decide) (by decide) (by decide)) rmF⟩
  · unfold TX
    rw [i2c 1 (by decide) (by decide) (by rcases p2 with rfl | rfl | rfl <;> omega), i2c 2 (by decide) (by decide) (by rcases p2 with rfl | rfl | rfl <;> omega), i2t A_signs (by decide) (by decide) (by decide), i2m 2 (by decide)]
    exact tx
  · intro m hm1
    by_cases z : m = hd
    · rw [z, i2 _ (by rcases p2 with rfl | rfl | rfl <;> omega), i2 (hd + 17) (by rcases p2 with rfl | rfl | rfl <;> omega)]
      exact qa.2.2.2.2.2.2.2.2
    · have far := mch_far hm1 p2 z
      rw [i2c (m + 15) (by rcases hm1 with rfl | rfl | rfl <;> omega) (by rcases hm1 with rfl | rfl | rfl <;> omega) (by omega), i2c (m + 17) (by rcases hm1 with rfl | rfl | rfl <;> omega) (by rcases hm1 with rfl | rfl | rfl <;> omega) (by omega)]
      exact rc m hm1
  · unfold WI
    rw [i2c 40 (by decide) (by decide) (by rcases p2 with rfl | rfl | rfl <;> omega), i2c 41 (by decide) (by decide) (by rcases p2 with rfl | rfl | rfl <;> omega), i2t A_witness (by decide) (by decide) (by decide), i2m 71 (by decide)]
    exact wi
  · rw [i2m 69 (by decide)]
    exact h69
