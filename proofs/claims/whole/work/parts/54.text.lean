/-! calls that change the text alone; the journal -/
theorem Rl_x {PX : Nat → IM → Prop} (hP : PXF PX) {t rl hd ot pt it : Nat} {I I' : IM} (h : Rl PX t rl hd ot pt it I) (p2 : isMch hd) (p3 : isMch ot) (hb : ∀ b, b ≠ 1 → b ≠ 2 → b ≠ 102 → b ≠ 103 → I' b = I b) (hj : ∀ j, j ≠ 0 → j ≠ 2 → I' MO j = I MO j) (hT : TX I') : Rl PX (t + 1) rl hd ot pt it I' := by
  obtain ⟨d, tx, rc, wi, h69, r1, r2, px⟩ := id h
  have hm : ∀ m, isMch m → ∀ i, i < 19 → I' (m + i) = I (m + i) := fun m hq i hi => by
    have h1 := mch_in hq hi
    have h2 : 16 ≤ m := by clear hT; rcases hq with rfl | rfl | rfl <;> omega
    exact hb _ (by omega) (by omega) (by omega) (by omega)
  have e : curM I' = curM I := by
    unfold curM
    congr 1
    · funext j
      have : ∀ i, scF.getD i 34 ≠ 2 := by
        intro i
        by_cases hi : i < 16
        · revert i
          decide
        · rw [List.getD_eq_getElem?_getD, List.getElem?_eq_none (show scF.length ≤ i from by show 16 ≤ i; omega)]
          decide
      exact hj _ (scF_ne j) (this j)
    · funext j k
      have := arF_ge j
      rw [hb _ (by omega) (by omega) (by omega) (by omega)]
  refine Rl_of hP h hT ?_ ?_ ?_ ⟨fun a ha => hb a ?_ ?_ ?_ ?_, hb _ (by decide) (by decide) (by decide) (by decide), hj _ (by decide) (by decide), hj _ (by decide) (by decide), hj _ (by decide) (by decide), hj _ (by decide) (by decide), fun a ha j hj => ?_⟩ (hm ot p3) (hb _ (by decide) (by decide) (by decide) (by decide)) ?_
  · intro m hm1
    rw [hm m hm1 15 (by decide), hm m hm1 17 (by decide)]
    exact rc m hm1
  · unfold WI
    rw [hb 40 (by decide) (by decide) (by decide) (by decide), hb 41 (by decide) (by decide) (by decide) (by decide), hb A_witness (by decide) (by decide) (by decide) (by decide), hj 71 (by decide) (by decide)]
    exact wi
  · rw [hj 69 (by decide) (by decide)]
    exact h69
  · revert a
    decide
  · revert a
    decide
  · revert a
    decide
  · revert a
    decide
  · have : 8 ≤ a ∧ a + 7 ≤ 64 := by clear hT; rcases ha with rfl | rfl | rfl <;> omega
    exact hb _ (by omega) (by omega) (by omega) (by omega)
  · rw [e]
    exact RM_t (RM_c (hm hd p2) r1)
theorem ma_end {PX : Nat → IM → Prop} (hP : PXF PX) : Ma_end (Rl PX) := by
  intro a0 t ht rl hd ot pt it J I p1 p2 p3 p4 p5 hJ hR
  obtain ⟨x1, x2, x3, x4⟩ := hR.2.1
  by_cases c1 : a0 < 0
  · refine Or.inr ⟨0, up I MO 0 1, ?_, ?_, up_self, Rl_thr hP p2 p3 hR⟩
    · rw [t_Eng_end, if_pos c1]; rfl
    · simp only [f_Mod_end, f_Mod_in, if_pos c1, Option.bind_some, if_true, refuse_1, if_neg (show ¬ (1 : Int32) = 0 by decide), b_Mod_end_30]
  by_cases c2 : a0 ≤ I 1 0
  · have c2' : ¬ I MO 2 < a0 := by rw [← x1]; exact fun q => ile.mpr q c2
    have hq : up I 1 0 a0 MO 2 = I MO 2 := up_o (by decide)
    refine Or.inl ⟨0, up I 1 0 a0, up (up (up I 1 0 a0) MO 0 0) MO 2 a0, ?_, ?_, ?_, ?_⟩
    · simp only [f_Eng_end, if_neg c1, if_pos c2, lt]
    · simp only [f_Mod_end, f_Mod_in, hq, if_neg c1, if_neg c2', Option.bind_some, if_neg (show ¬ (1 : Int32) = 0 by decide), refuse_0, if_true, lt, b_Mod_end_30]
    · rw [up_ne (Or.inr (by decide)), up_self]
    · refine Rl_x hP hR p2 p3 (fun b e1 e2 e3 e4 => ?_) (fun j j0 j2 => ?_) ⟨?_, ?_, ?_, fun k hk => ?_⟩
      · rw [fu (by exact e3), fu (by exact e3), fu e1]
      · rw [up_ne (Or.inr j2), up_ne (Or.inr j0), up_o (by decide)]
      · rw [up_o (by decide), up_o (by decide), up_self, up_self]
      · rw [up_o (by decide), up_o (by decide), up_self]
        exact nneg c1
      · rw [up_o (by decide), up_o (by decide), up_self]
        rw [tl] at c2
        omega
      · rw [up_o (by decide), up_o (by decide), up_self] at hk
        rw [fu (show 2 ≠ MO by decide), fu (show 2 ≠ MO by decide), fu (show 2 ≠ 1 by decide), fu (show A_signs ≠ MO by decide), fu (show A_signs ≠ MO by decide), fu (show A_signs ≠ 1 by decide)]
        rw [tl] at c2
        exact x4 k (by omega)
  · have c2' : I MO 2 < a0 := by rw [← x1]; exact ile.mp c2
    refine Or.inr ⟨0, up I MO 0 1, ?_, ?_, up_self, Rl_thr hP p2 p3 hR⟩
    · rw [t_Eng_end, if_neg c1, if_neg c2]; rfl
    · simp only [f_Mod_end, f_Mod_in, if_neg c1, if_pos c2', Option.bind_some, if_true, refuse_1, if_neg (show ¬ (1 : Int32) = 0 by decide), b_Mod_end_30]
