/-! put -/
theorem nest4 {A B C D : Prop} [Decidable A] [Decidable B] [Decidable C] [Decidable D] : (if (if (if (if (if (1 : Int32) = 1 ∧ A then (1 : Int32) else 0) = 1 ∧ B then (1 : Int32) else 0) = 1 ∧ C then (1 : Int32) else 0) = 1 ∧ D then (1 : Int32) else 0) = 0 then (1 : Int32) else 0) = if A ∧ B ∧ C ∧ D then 0 else 1 := by
  by_cases a : A <;> by_cases b : B <;> by_cases c : C <;> by_cases d : D <;> simp [a, b, c, d]
theorem put_mod {x : Int32} {I : IM} : f_Mod_put 5 x I = Option.bind (f_Mod_refuse (if okb (bt x 0) ∧ okb (bt x 1) ∧ okb (bt x 2) ∧ okb (bt x 3) then 0 else 1) (if I MO 2 + (0 + cb (bt x 0) + cb (bt x 1) + cb (bt x 2) + cb (bt x 3)) ≤ 900 then 0 else 1) I) fun v4 => if v4.1 = 0 then l_Mod_put_117 5 5 x 0 v4.2 else some (0, v4.2) := by
  have hz : ∀ (p : Prop) [Decidable p], ((if p then (1 : Int32) else 0) = 0 ∨ (if p then (1 : Int32) else 0) = 1) := fun p _ => by split <;> simp
  unfold f_Mod_put
  rw [show l_Mod_put_7 5 5 x 0 1 0 I = l_Mod_put_7 5 5 x 0 1 (nI 0) I from rfl, pm_step (k := 0) (by decide) (Or.inr rfl), pm_step (k := 1) (by decide) (hz _), pm_step (k := 2) (by decide) (hz _), pm_step (k := 3) (by decide) (hz _), l_Mod_put_7, if_pos (by decide)]
  rw [nest4]
theorem put_bad {x : Int32} {I : IM} (h : ¬ (okb (bt x 0) ∧ okb (bt x 1) ∧ okb (bt x 2) ∧ okb (bt x 3))) : t_Eng_put 5 x I = some 1 := by
  unfold t_Eng_put
  rw [show tEng_put_l_4 5 I 5 x 0 0 = tEng_put_l_4 5 I 5 x 0 (nI (8 * 0)) from rfl]
  by_cases q0 : okb (bt x 0)
  · rw [pt_step (by decide) q0]
    by_cases q1 : okb (bt x 1)
    · rw [pt_step (by decide) q1]
      by_cases q2 : okb (bt x 2)
      · rw [pt_step (by decide) q2]
        exact pt_bad (by decide) (fun q3 => h ⟨q0, q1, q2, q3⟩)
      · exact pt_bad (by decide) q2
    · exact pt_bad (by decide) q1
  · exact pt_bad (by decide) q0
theorem ma_put {PX : Nat → IM → Prop} (hP : PXF PX) : Ma_put (Rl PX) := by
  intro a0 t ht rl hd ot pt it J I p1 p2 p3 p4 p5 hJ hR
  obtain ⟨x1, x2, x3, x4⟩ := id hR.2.1
  by_cases ho : okb (bt a0 0) ∧ okb (bt a0 1) ∧ okb (bt a0 2) ∧ okb (bt a0 3)
  · obtain ⟨o0, o1, o2, o3⟩ := id ho
    have es := sum4 (b0 := bt a0 0) (b1 := bt a0 1) (b2 := bt a0 2) (b3 := bt a0 3) x2 x3
    have ec : ∀ c : Int32, l_Eng_put_4 5 5 a0 0 0 I = l_Eng_put_4 5 1 a0 (0 + cb (bt a0 0) + cb (bt a0 1) + cb (bt a0 2) + cb (bt a0 3)) (nI (8 * 4)) I := fun _ => by
      rw [show l_Eng_put_4 5 5 a0 0 0 I = l_Eng_put_4 5 5 a0 0 (nI (8 * 0)) I from rfl, pc_step (by decide) o0, pc_step (by decide) o1, pc_step (by decide) o2, pc_step (by decide) o3]
    have et : tEng_put_l_4 5 I 5 a0 0 0 = tEng_put_l_4 5 I 1 a0 (0 + cb (bt a0 0) + cb (bt a0 1) + cb (bt a0 2) + cb (bt a0 3)) (nI (8 * 4)) := by
      rw [show tEng_put_l_4 5 I 5 a0 0 0 = tEng_put_l_4 5 I 5 a0 0 (nI (8 * 0)) from rfl, pt_step (by decide) o0, pt_step (by decide) o1, pt_step (by decide) o2, pt_step (by decide) o3]
    by_cases c1 : I 1 0 + (0 + cb (bt a0 0) + cb (bt a0 1) + cb (bt a0 2) + cb (bt a0 3)) ≤ 900
    · have hs : (I 1 0).toInt + (cn (bt a0 0) + cn (bt a0 1) + cn (bt a0 2) + cn (bt a0 3) : Nat) ≤ 900 := by
        rw [tl, es] at c1
        exact c1
      obtain ⟨C1, g1⟩ : ∃ z, z = apC I (bt a0 0) := ⟨_, rfl⟩
      obtain ⟨C2, g2⟩ : ∃ z, z = apC C1 (bt a0 1) := ⟨_, rfl⟩
      obtain ⟨C3, g3⟩ : ∃ z, z = apC C2 (bt a0 2) := ⟨_, rfl⟩
      obtain ⟨C4, g4⟩ : ∃ z, z = apC C3 (bt a0 3) := ⟨_, rfl⟩
      obtain ⟨M0, k0⟩ : ∃ z, z = up C4 MO 0 0 := ⟨_, rfl⟩
      obtain ⟨M1, k1'⟩ : ∃ z, z = apM M0 (bt a0 0) := ⟨_, rfl⟩
      obtain ⟨M2, k2⟩ : ∃ z, z = apM M1 (bt a0 1) := ⟨_, rfl⟩
      obtain ⟨M3, k3⟩ : ∃ z, z = apM M2 (bt a0 2) := ⟨_, rfl⟩
      obtain ⟨M4, k4'⟩ : ∃ z, z = apM M3 (bt a0 3) := ⟨_, rfl⟩
      have eC : ∀ b, b ≠ 1 → b ≠ 2 → C4 b = I b := fun b q1 q2 => by rw [g4, apC_o q1 q2, g3, apC_o q1 q2, g2, apC_o q1 q2, g1, apC_o q1 q2]
      have eM : ∀ b, b ≠ 102 → b ≠ 103 → M4 b = C4 b := fun b q1 q2 => by rw [k4', apM_o q1 q2, k3, apM_o q1 q2, k2, apM_o q1 q2, k1', apM_o q1 q2, k0, fu (by exact q1)]
      have eJ : ∀ j, j ≠ 0 → j ≠ 2 → M4 MO j = I MO j := fun j q0 q2 => by rw [k4', apM_j q2, k3, apM_j q2, k2, apM_j q2, k1', apM_j q2, k0, up_ne (Or.inr q0), eC _ (by decide) (by decide)]
      have l1 : (C1 1 0).toInt = (I 1 0).toInt + cn (bt a0 0) := by rw [g1]; exact apC_len x2 (by omega)
      have l2 : (C2 1 0).toInt = (C1 1 0).toInt + cn (bt a0 1) := by rw [g2]; exact apC_len (by omega) (by omega)
      have l3 : (C3 1 0).toInt = (C2 1 0).toInt + cn (bt a0 2) := by rw [g3]; exact apC_len (by omega) (by omega)
      have cnz : ∀ b : Int32, b = 0 ∨ cn b = 1 := fun b => by
        by_cases q : b = 0
        · exact Or.inl q
        · exact Or.inr (if_neg q)
      have q0 : QT I M0 := by
        refine ⟨?_, x2, x3, fun k hk => ?_⟩
        · rw [k0, up_ne (Or.inr (by decide)), eC _ (by decide) (by decide)]
          exact x1
        · rw [k0, fu (by decide), eC _ (by decide) (by decide)]
          exact x4 k hk
      have q1 : QT C1 M1 := by rw [g1, k1']; exact QT_ap q0 o0 (by omega)
      have q2 : QT C2 M2 := by rw [g2, k2]; exact QT_ap q1 o1 (by omega)
      have q3 : QT C3 M3 := by rw [g3, k3]; exact QT_ap q2 o2 (by omega)
      have q4 : QT C4 M4 := by rw [g4, k4']; exact QT_ap q3 o3 (by omega)
      refine Or.inl ⟨5, C4 1 0, C4, M4, ?_, ?_, ?_, ?_⟩
      · unfold f_Eng_put
        rw [ec 0, l_Eng_put_4, if_pos (by decide), if_pos c1]
        rw [show l_Eng_put_88 5 5 a0 0 I = l_Eng_put_88 5 5 a0 (nI (8 * 0)) I from rfl, ac_step (by decide) x2 (by rcases cnz (bt a0 0) with z | z; exact Or.inl z; exact Or.inr (by omega)), ← g1, ac_step (by decide) (by omega) (by rcases cnz (bt a0 1) with z | z; exact Or.inl z; exact Or.inr (by omega)), ← g2, ac_step (by decide) (by omega) (by rcases cnz (bt a0 2) with z | z; exact Or.inl z; exact Or.inr (by omega)), ← g3, ac_step (by decide) (by omega) (by rcases cnz (bt a0 3) with z | z; exact Or.inl z; exact Or.inr (by omega)), ← g4, l_Eng_put_88, if_pos (by decide)]
      · have m2 : C4 MO 2 = I 1 0 := by rw [eC _ (by decide) (by decide)]; exact x1.symm
        rw [put_mod, if_pos ho, m2, if_pos c1, refuse_0, Option.bind_some]
        rw [if_pos rfl]
        show l_Mod_put_117 5 5 a0 0 (up C4 MO 0 0) = _
        have w0 := q0.1
        have w1 := q1.1
        have w2 := q2.1
        have w3 := q3.1
        rw [← k0, show l_Mod_put_117 5 5 a0 0 M0 = l_Mod_put_117 5 5 a0 (nI 0) M0 from rfl, am_step (by decide) (by rw [← w0]; exact x2) (by rw [← w0]; rcases cnz (bt a0 0) with z | z; exact Or.inl z; exact Or.inr (by omega)), ← k1', am_step (by decide) (by rw [← w1]; omega) (by rw [← w1]; rcases cnz (bt a0 1) with z | z; exact Or.inl z; exact Or.inr (by omega)), ← k2, am_step (by decide) (by rw [← w2]; omega) (by rw [← w2]; rcases cnz (bt a0 2) with z | z; exact Or.inl z; exact Or.inr (by omega)), ← k3, am_step (by decide) (by rw [← w3]; omega) (by rw [← w3]; rcases cnz (bt a0 3) with z | z; exact Or.inl z; exact Or.inr (by omega)), ← k4', l_Mod_put_117, if_pos (by decide), ← q4.1]
      · rw [k4', apM_j (by decide), k3, apM_j (by decide), k2, apM_j (by decide), k1', apM_j (by decide), k0, up_self]
      · refine Rl_x hP hR p2 p3 (fun b e1 e2 e3 e4 => ?_) eJ ?_
        · rw [eM b e3 e4, eC b e1 e2]
        · unfold TX
          rw [eM 1 (by decide) (by decide), eM 2 (by decide) (by decide)]
          exact q4
    · have m2 : I MO 2 = I 1 0 := x1.symm
      refine Or.inr (Or.inr ⟨5, 0, up I MO 0 2, ?_, ?_, up_self, Rl_thr hP p2 p3 hR⟩)
      · unfold t_Eng_put
        rw [et, tEng_put_l_4, if_pos (by decide), if_neg c1]
      · rw [put_mod, if_pos ho, m2, if_neg c1, refuse_2, Option.bind_some]
        rfl
  · refine Or.inr (Or.inl ⟨5, 0, up I MO 0 1, put_bad ho, ?_, up_self, Rl_thr hP p2 p3 hR⟩)
    rw [put_mod, if_neg ho, refuse_1, Option.bind_some]
    rfl
