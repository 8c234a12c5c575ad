/-! differ -/
theorem tnat {x : Int32} (h0 : 0 ≤ x.toInt) : x.toInt = (x.toBitVec.toNat : Int) := by
  have h := x.toBitVec.isLt
  have e : x.toInt = x.toBitVec.toInt := rfl
  rw [e, BitVec.toInt_eq_toNat_cond] at h0 ⊢
  split at h0
  · simp [*]
  · omega
theorem orlt {x y : Int32} (h0 : 0 ≤ x.toInt) (h1 : x.toInt < 131072) (g0 : 0 ≤ y.toInt) (g1 : y.toInt < 131072) : (32768 : Int32) ≤ x ||| y ↔ ¬ (x.toInt < 32768 ∧ y.toInt < 32768) := by
  have ex := tnat h0
  have ey := tnat g0
  obtain ⟨M, hM⟩ : ∃ M, M = x.toBitVec.toNat := ⟨_, rfl⟩
  obtain ⟨N, hN⟩ : ∃ N, N = y.toBitVec.toNat := ⟨_, rfl⟩
  rw [← hM] at ex
  rw [← hN] at ey
  have eo : (x ||| y).toBitVec.toNat = M ||| N := by rw [Int32.toBitVec_or, BitVec.toNat_or, hM, hN]
  have b17 : M ||| N < 2 ^ 17 := Nat.or_lt_two_pow (show M < 2 ^ 17 by simp only [Nat.reducePow]; omega) (show N < 2 ^ 17 by simp only [Nat.reducePow]; omega)
  simp only [Nat.reducePow] at b17
  have to : (x ||| y).toInt = ((M ||| N : Nat) : Int) := by
    have e : (x ||| y).toInt = (x ||| y).toBitVec.toInt := rfl
    rw [e, BitVec.toInt_eq_toNat_cond, eo, if_pos (by omega)]
  have l1 : M ≤ M ||| N := Nat.left_le_or
  have l2 : N ≤ M ||| N := Nat.right_le_or
  rw [tl, to, ex, ey]
  simp only [Int32.reduceToInt]
  refine ⟨fun z w => ?_, fun z => ?_⟩
  · have b15 : M ||| N < 2 ^ 15 := Nat.or_lt_two_pow (show M < 2 ^ 15 by simp only [Nat.reducePow]; omega) (show N < 2 ^ 15 by simp only [Nat.reducePow]; omega)
    simp only [Nat.reducePow] at b15
    omega
  · omega
theorem mb0 {A : AP} {p k : Nat} {C : IM} (pc : PC A p C) (hk : k < 22) (e : aRo A k = -1) : f_Pol_mayBeCompared p (nI k) C = some 0 := by
  have h5 := (pc.1 k hk).1 e
  have hr : f_Pol_hasRule p (nI k) C = some 0 := by
    rw [f_Pol_hasRule, if_neg (show ¬ nI k < 0 from fun z => by have := (nlt (b := 0) (by omega) (by decide)).mp z; omega), if_neg (show ¬ (22 : Int32) ≤ nI k from nk (N := 22) hk (by decide)), chk_i (nki hk (by decide)), nkc (by omega), h5, if_pos rfl]
  rw [f_Pol_mayBeCompared, hr, Option.bind_some, if_pos rfl, b_Pol_mayBeCompared_24, b_Pol_mayBeCompared_25, chk_i (Or.inl rfl)]
set_option maxHeartbeats 4000000 in
theorem ma_differ {KT : (Nat → Int32) → Int32 → AP → Prop} : Ma_differ (Rl (PXk KT)) := by
  intro a0 a1 t ht rl hd ot pt it J I p1 p2 p3 p4 p5 hJ hR
  obtain ⟨d, tx, rc, wi, h69, rm, ro, px⟩ := id hR
  obtain ⟨hp, A, B, wA, wB, rA, hA, cA, rB, cB, kt⟩ := id px
  obtain ⟨n, hn⟩ : ∃ n : Nat, 5000 ≤ n := ⟨5000, Nat.le_refl _⟩
  have n1 : ¬ (1 : Int32) = 0 := by decide
  have bad40 : b_Mod_differ_40 n a0 a1 0 (-1) I = some (0, up I MO 0 1) := by
    rw [b_Mod_differ_40, if_pos rfl, b_Mod_differ_59, if_pos (by decide), b_Mod_differ_96, b_Mod_differ_97, if_pos rfl, if_pos rfl, refuse_1, Option.bind_some, if_neg n1]
  have one : f_Mod_in a0 0 21 I = some 0 ∨ (f_Mod_in a0 0 21 I = some 1 ∧ f_Mod_in a1 1 7 I = some 0) → f_Mod_differ n a0 a1 I = some (0, up I MO 0 1) := by
    intro z
    rcases z with z | ⟨z1, z2⟩
    · rw [f_Mod_differ, z, Option.bind_some, if_pos rfl, b_Mod_differ_24, b_Mod_differ_25, if_pos rfl, bad40]
    · rw [f_Mod_differ, z1, Option.bind_some, if_neg n1, z2, Option.bind_some, if_pos rfl, if_pos rfl, bad40]
  by_cases c1 : a0 < 0
  · refine Or.inr (Or.inl ⟨n, 0, up I MO 0 1, ?_, one (Or.inl (by simp [f_Mod_in, c1, chk])), up_self, Rl_thr PXk_F p2 p3 hR⟩)
    rw [t_Eng_differ, if_pos c1]; rfl
  by_cases c2 : (22 : Int32) ≤ a0
  · have c2' : (21 : Int32) < a0 := by
      rw [tl] at c2
      rw [ti]
      simp only [Int32.reduceToInt] at c2 ⊢
      omega
    refine Or.inr (Or.inl ⟨n, 0, up I MO 0 1, ?_, one (Or.inl (by simp [f_Mod_in, c1, c2', chk])), up_self, Rl_thr PXk_F p2 p3 hR⟩)
    rw [t_Eng_differ, if_neg c1, if_pos c2]; rfl
  have c2' : ¬ (21 : Int32) < a0 := by
    rw [tl] at c2
    rw [ti]
    simp only [Int32.reduceToInt] at c2 ⊢
    omega
  have in0 : ∀ D : IM, f_Mod_in a0 0 21 D = some 1 := fun D => by simp [f_Mod_in, c1, c2', chk]
  by_cases c3 : a1 < 1
  · refine Or.inr (Or.inl ⟨n, 0, up I MO 0 1, ?_, one (Or.inr ⟨in0 I, by simp [f_Mod_in, c3, chk]⟩), up_self, Rl_thr PXk_F p2 p3 hR⟩)
    rw [t_Eng_differ, if_neg c1, if_neg c2, if_pos c3]; rfl
  by_cases c4 : a1 ≤ 7
  rotate_left
  · have c4' : (7 : Int32) < a1 := ile.mp c4
    refine Or.inr (Or.inl ⟨n, 0, up I MO 0 1, ?_, one (Or.inr ⟨in0 I, by simp [f_Mod_in, c3, c4', chk]⟩), up_self, Rl_thr PXk_F p2 p3 hR⟩)
    rw [t_Eng_differ, if_neg c1, if_neg c2, if_neg c3, if_neg c4]; rfl
  have c4' : ¬ (7 : Int32) < a1 := fun z => ile.mpr z c4
  have in1 : ∀ D : IM, f_Mod_in a1 1 7 D = some 1 := fun D => by simp [f_Mod_in, c3, c4', chk]
  have eK := nof c1
  obtain ⟨kd, hkd⟩ : ∃ k, k = a0.toNatClampNeg := ⟨_, rfl⟩
  rw [← hkd] at eK
  have hk : kd < 22 := by
    have := nat_of c1
    rw [tl] at c2
    simp only [Int32.reduceToInt] at c2
    omega
  have n0a : ¬ a1 < 0 := by
    rw [ti] at c3 ⊢
    simp only [Int32.reduceToInt] at c3 ⊢
    omega
  have eM := nof n0a
  obtain ⟨mo, hmo⟩ : ∃ k, k = a1.toNatClampNeg := ⟨_, rfl⟩
  rw [← hmo] at eM
  have m17 : 1 ≤ mo ∧ mo ≤ 7 := by
    have := nat_of n0a
    rw [ti] at c3
    rw [tl] at c4
    simp only [Int32.reduceToInt] at c3 c4
    omega
  subst eK
  subst eM
  have e22 : (22 : Int32) + nI kd = nI (22 + kd) := nad (a := 22)
  -- the reference up to its two rules
  have ref0 : ∀ D : IM, f_Mod_differ n (nI kd) (nI mo) D = b_Mod_differ_59 n (nI mo) 1 (D A_ruleOf kd) (D A_ruleOf (22 + kd)) D := fun D => by
    rw [f_Mod_differ, in0 D, Option.bind_some, if_neg n1, in1 D, Option.bind_some, if_neg n1, if_neg n1, chk_i (nki (by omega) (by decide)), nkc (by omega), b_Mod_differ_40, if_neg n1, e22, chk_i (nki (by omega) (by decide)), nkc (by omega)]
  have tE : ∀ {x y : Int32}, f_Pol_mayBeCompared rl (nI kd) I = some x → (x = 0 ∨ (f_Pol_mayBeCompared 48 (nI kd) I = some y ∧ y = 0)) → t_Eng_differ n rl hd (nI kd) (nI mo) I = some 4 := by
    intro x y z1 z2
    rw [t_Eng_differ, if_neg c1, if_neg c2, if_neg c3, if_pos c4, z1, Option.bind_some]
    by_cases x0 : x = 0
    · rw [if_pos x0]; rfl
    · rcases z2 with z2 | ⟨z2, z3⟩
      · exact absurd z2 x0
      · rw [if_neg x0, z2, Option.bind_some, if_pos z3]; rfl
  have two97 : ∀ r q : Int32, b_Mod_differ_96 n (nI mo) 1 r q I = some (0, up I MO 0 2) := fun r q => by
    rw [b_Mod_differ_96, b_Mod_differ_97, if_neg n1, if_neg n1, if_pos rfl, refuse_2, Option.bind_some, if_neg n1]
  have rOfA : ∀ q, q < aNr A → aRo A kd = nI q → ∀ D : IM, D A_ruleOf = I A_ruleOf → D A_ruleOf kd = nI q := fun q hq e D hD => by
    have := (rA.1 kd hk).2 q hq e
    simp only [Nat.zero_add] at this
    rw [hD]; exact this
  rcases wA.2.2.2.2.2.2.2.1 kd hk with eA | ⟨qa, hqa, eA⟩
  · -- no rule at hand
    have r1 := (rA.1 kd hk).1 eA
    rw [Nat.zero_add] at r1
    refine Or.inr (Or.inr (Or.inl ⟨n, 0, up I MO 0 2, tE (x := 0) (y := 0) (mb0 cA hk eA) (Or.inl rfl), ?_, up_self, Rl_thr PXk_F p2 p3 hR⟩))
    rw [ref0, r1, b_Mod_differ_59, if_pos (by decide), two97]
  have rqa := rOfA qa hqa eA I rfl
  have w1 := wA.1
  have w2 := wB.1
  have nqa : ¬ nI qa < 0 := fun z => by have := (nlt (b := 0) (by omega) (by decide)).mp z; omega
  rcases wB.2.2.2.2.2.2.2.1 kd hk with eB | ⟨qb, hqb, eB⟩
  · have r2 := (rB.1 kd hk).1 eB
    refine Or.inr (Or.inr (Or.inl ⟨n, 0, up I MO 0 2, tE (x := if (aNm A qa).toInt < 32768 then 1 else 0) (y := 0) (mbc wA cA hk hqa eA) (Or.inr ⟨mb0 cB hk eB, rfl⟩), ?_, up_self, Rl_thr PXk_F p2 p3 hR⟩))
    rw [ref0, rqa, r2, b_Mod_differ_59, if_neg nqa, if_pos (by decide), two97]
  have rqb : I A_ruleOf (22 + kd) = nI (301 + qb) := (rB.1 kd hk).2 qb hqb eB
  have nqb : ¬ nI (301 + qb) < 0 := fun z => by have := (nlt (b := 0) (by omega) (by decide)).mp z; omega
  obtain ⟨ga0, ga1⟩ := wA.2.2.2.2.2.2.2.2.1 qa hqa
  obtain ⟨gb0, gb1⟩ := wB.2.2.2.2.2.2.2.2.1 qb hqb
  have nmA : I A_named qa = aNm A qa := by have := (rA.2.1 qa hqa).2.2; rwa [Nat.zero_add] at this
  have nmB := (rB.2.1 qb hqb).2.2
  have ol := orlt ga0 ga1 gb0 gb1
  have r59 : ∀ D : IM, D A_named = I A_named → b_Mod_differ_59 n (nI mo) 1 (nI qa) (nI (301 + qb)) D = Option.bind (f_Mod_refuse 0 (if (if (32768 : Int32) ≤ (aNm A qa ||| aNm B qb) then 0 else 1 : Int32) = 0 then 1 else 0) D) fun v19 => if (v19.1 : Int32) = 0 then (Option.bind (f_Mod_namesOf n (nI qa) (nI (301 + qb)) v19.2) fun v22 => l_Mod_differ_147 n n (nI mo) (nI qa) (nI (301 + qb)) v22 1 0 v19.2) else (some (0, v19.2)) := fun D hD => by
    rw [b_Mod_differ_59, if_neg nqa, if_neg nqb, chk_i (nki (by omega) (by decide)), chk_i (nki (by omega) (by decide)), if_neg n1, if_neg n1, nkc (by omega), nkc (by omega), hD, nmA, nmB]
  by_cases cmp : (aNm A qa).toInt < 32768 ∧ (aNm B qb).toInt < 32768
  rotate_left
  · refine Or.inr (Or.inr (Or.inl ⟨n, 0, up I MO 0 2, ?_, ?_, up_self, Rl_thr PXk_F p2 p3 hR⟩))
    · by_cases z : (aNm A qa).toInt < 32768
      · exact tE (y := 0) (mbc wA cA hk hqa eA) (Or.inr ⟨by rw [mbc wB cB hk hqb eB, if_neg (fun y => cmp ⟨z, y⟩)], rfl⟩)
      · exact tE (x := 0) (y := 0) (by rw [mbc wA cA hk hqa eA, if_neg z]) (Or.inl rfl)
    · rw [ref0, rqa, rqb, r59 I rfl, if_pos (ol.mpr cmp), if_pos rfl, refuse_2, Option.bind_some, if_neg n1]
  have nol : ¬ (32768 : Int32) ≤ (aNm A qa ||| aNm B qb) := fun z => ol.mp z cmp
  have r59' : ∀ D : IM, D A_named = I A_named → b_Mod_differ_59 n (nI mo) 1 (nI qa) (nI (301 + qb)) D = (Option.bind (f_Mod_namesOf n (nI qa) (nI (301 + qb)) (up D MO 0 0)) fun v22 => l_Mod_differ_147 n n (nI mo) (nI qa) (nI (301 + qb)) v22 1 0 (up D MO 0 0)) := fun D hD => by
    rw [r59 D hD, if_neg nol, if_neg n1, refuse_0, Option.bind_some, if_pos rfl]
  have mayA : f_Pol_mayBeCompared rl (nI kd) I = some 1 := by rw [mbc wA cA hk hqa eA, if_pos cmp.1]
  have mayB : f_Pol_mayBeCompared 48 (nI kd) I = some 1 := by rw [mbc wB cB hk hqb eB, if_pos cmp.2]
  have qa0 := QA_of (b := 2000 * t) (Nat.le_refl _) (rc hd p2) rm
  -- the frame of both sides
  have mkda : ∀ R : IM, (∀ k, 103 ≤ k → R k = I k) → (∀ j, j ≠ 0 → j ≠ 71 → R MO j = I MO j) → DA A B rl n hd kd qa qb I R := fun R h1 h2 => by
    refine ⟨by omega, p2, hp, wA, wB, cA, cB, PR_c (h1 _ (by decide)) (h1 _ (by decide)) (h1 _ (by decide)) (h1 _ (by decide)) (h1 _ (by decide)) (h1 _ (by decide)) (h1 _ (by decide)) (h1 _ (by decide)) (h1 _ (by decide)) rA, PR_c (h1 _ (by decide)) (h1 _ (by decide)) (h1 _ (by decide)) (h1 _ (by decide)) (h1 _ (by decide)) (h1 _ (by decide)) (h1 _ (by decide)) (h1 _ (by decide)) (h1 _ (by decide)) rB, hk, hqa, hqb, eA, eB, cmp.1, cmp.2, fun k hk96 => by rw [h1 _ (by decide)]; exact (qa0.1.2.1 k hk96).2.2, ?_⟩
    exact PP_c rfl rfl rfl (h1 _ (by decide)) (h1 _ (by decide)) (h2 55 (by decide) (by decide)) (Q5_PP qa0.2.2.2.2.1 qa0.2.1.2.2.2.2.2.2.2.2)
  obtain ⟨bits, vC, vR⟩ := vn_eq (mkda I (fun _ _ => rfl) (fun _ _ _ => rfl))
  have vR' : ∀ D : IM, (∀ k, 103 ≤ k → D k = I k) → (∀ j, j ≠ 0 → j ≠ 71 → D MO j = I MO j) → f_Mod_namesOf n (nI qa) (nI (301 + qb)) D = some bits := fun D h1 h2 => by
    obtain ⟨bits', x1, x2⟩ := vn_eq (mkda D h1 h2)
    rw [vC] at x1
    rw [x2, ← x1]
  obtain ⟨b, hb⟩ : ∃ b, b = mo + 1 := ⟨_, rfl⟩
  have emo : nI mo = nI (b - 1) := by congr 1; omega
  have csX : ∀ D : IM, ∃ Y, 1 ≤ Y ∧ Y ≤ 32768 ∧ f_Cmp_casesOf n bits (nI mo) I = some (nI Y) ∧ l_Mod_differ_147 n n (nI mo) (nI qa) (nI (301 + qb)) bits 1 0 D = b_Mod_differ_192 n (nI mo) (nI qa) (nI (301 + qb)) bits (nI Y) D := fun D => by
    obtain ⟨Y, y1, y2, y3, y4⟩ := cs_l (n := n) (b := b) (bits := bits) (x4 := nI qa) (x5 := nI (301 + qb)) (C := I) (R := D) (by omega) (by omega) 15 n n 0 1 (by omega) (by omega) (by omega) (by omega) (by omega)
    rw [← emo] at y3 y4
    exact ⟨Y, y1, y2, y3, y4⟩
  obtain ⟨Y, y1, y2, y3, -⟩ := csX I
  have csD : ∀ D : IM, l_Mod_differ_147 n n (nI mo) (nI qa) (nI (301 + qb)) bits 1 0 D = b_Mod_differ_192 n (nI mo) (nI qa) (nI (301 + qb)) bits (nI Y) D := fun D => by
    obtain ⟨Y', -, -, z3, z4⟩ := csX D
    have := z3.symm.trans y3
    rw [z4, Option.some.inj this]
  have e4 : nI Y ≤ (4096 : Int32) ↔ Y ≤ 4096 := by
    rw [tl, nI_toInt (by omega)]
    simp only [Int32.reduceToInt]
    omega
  have refX : ∀ D : IM, (∀ k, 103 ≤ k → D k = I k) → (∀ j, j ≠ 0 → j ≠ 71 → D MO j = I MO j) → f_Mod_differ n (nI kd) (nI mo) D = b_Mod_differ_192 n (nI mo) (nI qa) (nI (301 + qb)) bits (nI Y) (up D MO 0 0) := fun D h1 h2 => by
    rw [ref0, h1 A_ruleOf (by decide), rqa, rqb, r59' D (h1 _ (by decide)), vR' (up D MO 0 0) (fun k hk => by rw [fu (by show k ≠ 102; omega), h1 k hk]) (fun j z1 z2 => by rw [up_ne (Or.inr z1), h2 j z1 z2]), Option.bind_some, csD]
  by_cases big : Y ≤ 4096
  rotate_left
  · -- too many cases
    refine Or.inr (Or.inr (Or.inr ⟨n, 0, up (up I MO 0 0) MO 0 3, ?_, ?_, up_self, ?_⟩))
    · rw [t_Eng_differ, if_neg c1, if_neg c2, if_neg c3, if_pos c4, mayA, Option.bind_some, if_neg n1, mayB, Option.bind_some, if_neg n1, vC, Option.bind_some, y3, Option.bind_some, if_neg (fun z => big (e4.mp z))]
    · rw [refX I (fun _ _ => rfl) (fun _ _ _ => rfl), b_Mod_differ_192, if_neg (fun z => big (e4.mp z)), lt]
    · rw [up_up]
      exact Rl_thr PXk_F p2 p3 hR
  -- the cases
  obtain ⟨C0, hC0⟩ : ∃ z, z = up (fil (up (up (up I 40 4 bits) 40 5 (nI mo)) 40 6 (nI Y)) 41 15 0) 40 0 0 := ⟨_, rfl⟩
  have c0b : ∀ k, ¬ (40 ≤ k ∧ k ≤ 41) → C0 k = I k := fun k z => by rw [hC0, fu (by omega), fr_fil rfl (by omega), fu (by omega), fu (by omega), fu (by omega)]
  have c04 : C0 40 4 = bits := by rw [hC0, up_ne (Or.inr (by decide)), fr_fil rfl (by decide), up_ne (Or.inr (by decide)), up_ne (Or.inr (by decide)), up_self]
  have c05 : C0 40 5 = nI (b - 1) := by rw [hC0, up_ne (Or.inr (by decide)), fr_fil rfl (by decide), up_ne (Or.inr (by decide)), up_self, emo]
  have c06 : C0 40 6 = nI Y := by rw [hC0, up_ne (Or.inr (by decide)), fr_fil rfl (by decide), up_self]
  have c00 : C0 40 0 = 0 := by rw [hC0, up_self]
  have Lq0 : ∀ j, Lq bits b 0 j = 0 := fun j => by have := Lq_le (bits := bits) (b := b) (num := 0) j; omega
  have c041 : ∀ j, j < 15 → C0 41 (14 - j) = nI (cdg bits b 0 j) := fun j hj => by
    rw [hC0, fu (by decide), fil_at, if_pos ⟨rfl, by omega⟩]
    unfold cdg
    rw [Lq0]
    split
    · rfl
    · rw [Nat.zero_mod]; rfl
  have lock : ∀ R : IM, (∀ k, 103 ≤ k → R k = I k) → (∀ j, j ≠ 0 → j ≠ 71 → R MO j = I MO j) → R MO 71 = 0 → ∃ r C' R', l_Cmp_firstUnlikeCase_8 n rl 48 hd n (nI kd) 0 C0 = some (r, C') ∧ l_Mod_differ_215 n n (nI mo) (nI qa) (nI (301 + qb)) bits (nI Y) 0 R = some (r, R') ∧ (∀ k, ¬ (40 ≤ k ∧ k ≤ 47) → C' k = C0 k) ∧ (∀ k, k ≠ MO → k ≠ 136 → k ≠ 137 → k ≠ 140 → R' k = R k) ∧ (∀ j, ¬ (82 ≤ j ∧ j ≤ 86) → j ≠ 68 → j ≠ 69 → j ≠ 71 → R' MO j = R MO j) ∧ (R MO 69 = 0 → R' MO 69 = 0) ∧ C' 40 0 = R' MO 71 ∧ (C' 40 0 = 0 ∨ C' 40 0 = 1) ∧ (C' 40 0 = 1 → ∀ j, j < 15 → C' 41 j = R' A_witness j) := by
    intro R h1 h2 h3
    have := df_l (A := A) (B := B) (p := rl) (n := n) (m := hd) (kd := kd) (qa := qa) (qb := qb) (b := b) (cs := Y) (bits := bits) (by omega) (by omega) big Y n n 0 C0 R (by omega) (by omega) (by omega) (DA_c (mkda R h1 h2) (fun k z => c0b k (by omega)) (fun _ _ _ _ _ => rfl) rfl) c00 c04 c05 c06 c041 h3
    rw [← emo] at this
    exact this
  obtain ⟨r, I1, Rx, g1, -, gC, -⟩ := lock (up I MO 71 0) (fun k hk => fu (by show k ≠ 102; omega)) (fun j _ z => up_ne (Or.inr z)) up_self
  have fE : f_Eng_differ n rl hd (nI kd) (nI mo) I = some (r, I1) := by
    have st : f_Cmp_startCases bits (nI mo) (nI Y) I = some (fil (up (up (up I 40 4 bits) 40 5 (nI mo)) 40 6 (nI Y)) 41 15 0) := rfl
    rw [f_Eng_differ, if_neg c1, if_neg c2, if_neg c3, if_pos c4, mayA, Option.bind_some, if_neg n1, mayB, Option.bind_some, if_neg n1, vC, Option.bind_some, y3, Option.bind_some, if_pos (e4.mpr big), st, Option.bind_some, f_Cmp_firstUnlikeCase, lt, ← hC0, g1, Option.bind_some]
  have i1 : ∀ k, ¬ (40 ≤ k ∧ k ≤ 47) → I1 k = I k := fun k z => by rw [gC k z, c0b k (by omega)]
  obtain ⟨R0, hR0⟩ : ∃ z, z = up (up I1 MO 0 0) MO 71 0 := ⟨_, rfl⟩
  have r0b : ∀ k, 103 ≤ k → R0 k = I k := fun k z => by rw [hR0, fu (by show k ≠ 102; omega), fu (by show k ≠ 102; omega), i1 k (by omega)]
  have r0m : ∀ j, j ≠ 0 → j ≠ 71 → R0 MO j = I MO j := fun j z1 z2 => by rw [hR0, up_ne (Or.inr z2), up_ne (Or.inr z1), i1 MO (by decide)]
  obtain ⟨r', C2, I2, g2, g3, -, rf1, rf2, rf3, x0, x01, xw⟩ := lock R0 r0b r0m (by rw [hR0, up_self])
  have same := g1.symm.trans g2
  have er : r = r' := congrArg Prod.fst (Option.some.inj same)
  have eC : I1 = C2 := congrArg Prod.snd (Option.some.inj same)
  subst er
  subst eC
  have fM : f_Mod_differ n (nI kd) (nI mo) I1 = some (r, I2) := by
    rw [refX I1 (fun k hk => i1 k (by omega)) (fun j _ _ => by rw [i1 MO (by decide)]), b_Mod_differ_192, if_pos (e4.mpr big), lt, ← hR0]
    exact g3
  have i2 : ∀ k, k < 102 → I2 k = I1 k := fun k hk => fr_Mod_differ fM (Or.inl hk)
  have i2c : ∀ k, k < 102 → ¬ (40 ≤ k ∧ k ≤ 47) → I2 k = I k := fun k z1 z2 => by rw [i2 k z1, i1 k z2]
  have i2t : ∀ k, 103 ≤ k → k ≠ 136 → k ≠ 137 → k ≠ 140 → I2 k = I k := fun k z1 z2 z3 z4 => by rw [rf1 k (by show k ≠ 102; omega) z2 z3 z4, r0b k z1]
  have i2m : ∀ j, ¬ (82 ≤ j ∧ j ≤ 86) → j ≠ 0 → j ≠ 68 → j ≠ 69 → j ≠ 71 → I2 MO j = I MO j := fun j z1 z2 z3 z4 z5 => by rw [rf2 j z1 z3 z4 z5, r0m j z2 z5]
  have ag : agP I I2 := by
    refine ⟨fun a ha => ?_, i2t _ (by decide) (by decide) (by decide) (by decide), i2m 15 (by decide) (by decide) (by decide) (by decide) (by decide), i2m 18 (by decide) (by decide) (by decide) (by decide) (by decide), i2m 23 (by decide) (by decide) (by decide) (by decide) (by decide), i2m 32 (by decide) (by decide) (by decide) (by decide) (by decide), fun a ha j hj => ?_⟩
    · have : ∀ a, a ∈ [107, 108, 109, 110, 111, 112, 113, 114, 115, 118] → 103 ≤ a ∧ a < 119 := by decide
      have := this a ha
      exact i2t a (by omega) (by omega) (by omega) (by omega)
    · exact i2c _ (by rcases ha with rfl | rfl | rfl <;> omega) (by rcases ha with rfl | rfl | rfl <;> omega)
  have mc : ∀ m, isMch m → ∀ i, i < 19 → I2 (m + i) = I (m + i) := fun m h i hi => i2c _ (by rcases h with rfl | rfl | rfl <;> omega) (by rcases h with rfl | rfl | rfl <;> omega)
  have ecur : curM I2 = curM I := by
    unfold curM
    congr 1
    · funext j
      have hs : ∀ j, j < 16 → ¬ (82 ≤ scF.getD j 34 ∧ scF.getD j 34 ≤ 86) ∧ scF.getD j 34 ≠ 0 ∧ scF.getD j 34 ≠ 68 ∧ scF.getD j 34 ≠ 69 ∧ scF.getD j 34 ≠ 71 := by decide
      by_cases z : j < 16
      · obtain ⟨a, b, c, d, e⟩ := hs j z
        exact i2m _ a b c d e
      · rw [List.getD_eq_getElem?_getD, List.getElem?_eq_none (show scF.length ≤ j from by show 16 ≤ j; omega)]
        exact i2m 34 (by decide) (by decide) (by decide) (by decide) (by decide)
    · funext j k
      have := arF_ge j
      rw [i2t _ (by omega) (by omega) (by omega) (by omega)]
  refine Or.inl ⟨n, r, I1, I2, fE, fM, ?_, Rl_of PXk_F hR ?_ ?_ ?_ ?_ ag (mc ot p3) (i2t _ (by decide) (by decide) (by decide) (by decide)) ?_⟩
  · rw [rf2 0 (by decide) (by decide) (by decide) (by decide), hR0, up_ne (Or.inr (by decide)), up_self]
  · unfold TX
    rw [i2c 1 (by decide) (by decide), i2c 2 (by decide) (by decide), i2t A_signs (by decide) (by decide) (by decide) (by decide), i2m 2 (by decide) (by decide) (by decide) (by decide) (by decide)]
    exact tx
  · intro m hm1
    rw [mc m hm1 15 (by decide), mc m hm1 17 (by decide)]
    exact rc m hm1
  · unfold WI
    rw [i2 40 (by decide), i2 41 (by decide)]
    exact ⟨x0, x01, xw⟩
  · exact rf3 (by rw [r0m 69 (by decide) (by decide)]; exact h69)
  · rw [ecur]
    exact RM_t (RM_c (mc hd p2) rm)
