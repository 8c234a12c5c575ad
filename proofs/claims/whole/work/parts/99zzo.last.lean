/-! listing leaves the relation as it is -/
theorem scF_8 : ∀ j, scF.getD j 34 ≠ 8 := by
  intro j
  by_cases h : j < 16
  · revert j
    decide
  · rw [List.getD_eq_getElem?_getD, List.getElem?_eq_none (by show 16 ≤ j; omega)]
    decide
theorem Rl_say {PX : Nat → IM → Prop} (hP : PXF PX) {t rl hd ot pt it : Nat} {I I' : IM} (hd1 : isMch hd) (ho1 : isMch ot) (hb0 : ∀ b, b ≠ 102 → b ≠ 105 → b ≠ 55 → b ≠ 56 → I' b = I b) (hj : ∀ j, j ≠ 8 → j ≠ 0 → I' MO j = I MO j) (h : Rl PX t rl hd ot pt it I) : Rl PX (t + 1) rl hd ot pt it I' := by
  have hb : ∀ b, (b ≠ 102 ∧ b ≠ 105 ∧ b ≠ 55 ∧ b ≠ 56) → I' b = I b := fun b h => hb0 b h.1 h.2.1 h.2.2.1 h.2.2.2
  obtain ⟨d, tx, rc, wi, h69, r1, r2, px⟩ := id h
  have hm : ∀ m, isMch m → ∀ i, i < 19 → I' (m + i) = I (m + i) := fun m hm i hi => hb _ (by rcases hm with rfl | rfl | rfl <;> omega)
  have e : curM I' = curM I := by
    unfold curM
    congr 1
    · funext j
      exact hj _ (fun q => by have := scF_8 j; exact this q) (scF_ne j)
    · funext j k
      rw [hb _ (by have := arF_ge j; omega)]
  refine Rl_of hP h ?_ ?_ ?_ ?_ ⟨fun a ha => hb a ?_, hb _ (by decide), hj _ (by decide) (by decide), hj _ (by decide) (by decide), hj _ (by decide) (by decide), hj _ (by decide) (by decide), fun a ha j hj => hb _ ?_⟩ (hm ot ho1) (hb _ (by decide)) ?_
  · unfold TX
    rw [hb 1 (by decide), hb 2 (by decide), hb A_signs (by decide), hj 2 (by decide) (by decide)]
    exact tx
  · intro m hm1
    rw [hm m hm1 15 (by decide), hm m hm1 17 (by decide)]
    exact rc m hm1
  · unfold WI
    rw [hb 40 (by decide), hb 41 (by decide), hb A_witness (by decide), hj 71 (by decide) (by decide)]
    exact wi
  · rw [hj 69 (by decide) (by decide)]
    exact h69
  · revert a
    decide
  · rcases ha with rfl | rfl | rfl <;> omega
  · rw [e]
    exact RM_t (RM_c (hm hd hd1) r1)
