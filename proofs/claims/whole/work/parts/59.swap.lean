/-! swap -/
theorem scF_n {j : Nat} (h : j ∈ [0, 2, 15, 18, 23, 32, 69, 71]) : j ∉ scF := by
  revert j
  decide
theorem ma_swap {PX : Nat → IM → Prop} (hP : PXF PX) : Ma_swap (Rl PX) := by
  intro t ht rl hd ot pt it J I p1 p2 p3 p4 p5 hJ hR
  obtain ⟨d, tx, rc, wi, h69, r1, r2, px⟩ := id hR
  obtain ⟨n, hn⟩ : ∃ n : Nat, 1000 ≤ n := ⟨1000, Nat.le_refl _⟩
  obtain ⟨K, hK⟩ : ∃ z, z = up I MO 0 0 := ⟨_, rfl⟩
  have kb : ∀ b, b ≠ 102 → K b = I b := fun b q => by rw [hK, fu (by exact q)]
  have kj : ∀ j, j ≠ 0 → K 102 j = I 102 j := fun j q => by rw [hK]; exact up_ne (Or.inr q)
  obtain ⟨m1, m2, m3, m4, m5, m6⟩ := mvA_s (I := K) (o := 1)
  obtain ⟨I2, h2⟩ : ∃ z, z = mvA K 1 := ⟨_, rfl⟩
  rw [← h2] at m1 m2 m3 m4 m5 m6
  have hb : ∀ b, b < 102 ∨ (102 < b ∧ b < 119) ∨ b = 136 ∨ b = 137 ∨ 140 ≤ b → I2 b = I b := fun b q => by rw [m6 b (by omega) (by omega) (by omega) (by omega), kb b (by omega)]
  have hj : ∀ j, j ∈ [2, 15, 18, 23, 32, 69, 71] → I2 102 j = I 102 j := fun j q => by
    rw [m5 j (scF_n (List.mem_cons_of_mem _ q)), kj j (by rintro rfl; revert q; decide)]
  have hm : ∀ m, isMch m → ∀ i, i < 19 → I2 (m + i) = I (m + i) := fun m hq i hi => hb _ (Or.inl (mch_in hq hi))
  have ag : agP I I2 := by
    refine ⟨fun a ha => hb a ?_, hb _ (by decide), hj _ (by decide), hj _ (by decide), hj _ (by decide), hj _ (by decide), fun a ha j hj => hb _ (Or.inl ?_)⟩
    · revert a
      decide
    · rcases ha with rfl | rfl | rfl <;> omega
  have aC : agR (othM I) (curM I2) := by
    refine ⟨fun i hi => ?_, fun i hi k hk => ?_⟩
    · show I2 102 (scF.getD i 34) = I 139 i
      rw [m4 i hi, if_neg (by decide), kb 139 (by decide)]
    · show I2 (arF.getD i 119) k = I 139 (offF.getD i 0 + k)
      rw [m1 i hi k hk, if_neg (by decide), kb 139 (by decide)]
  have aO : agR (curM I) (othM I2) := by
    refine ⟨fun i hi => ?_, fun i hi k hk => ?_⟩
    · show I2 139 i = I 102 (scF.getD i 34)
      rw [m3 i hi, kj _ (scF_ne i)]
    · show I2 139 (offF.getD i 0 + k) = I (arF.getD i 119) k
      have := arF_ge i
      rw [m2 i hi k hk, kb _ (by omega)]
  refine ⟨n, I2, ?_, ⟨?_, ?_, ?_, ?_, ?_, ?_, ?_, hP _ _ _ ag px⟩⟩
  · show lt (up I MO 0 0) (fun I1 => Option.bind (f_Mod_moveAll n 1 I1) fun v2 => some v2) = _
    rw [lt, ← hK, mvA_f hn, h2]
    rfl
  · obtain ⟨e1, e2, e3, e4, e5, e6⟩ := d
    exact ⟨fun q => e1 q.symm, e3, e2, e4, e5, e6⟩
  · unfold TX
    rw [hb 1 (by decide), hb 2 (by decide), hb A_signs (by decide), show I2 MO 2 = I MO 2 from hj 2 (by decide)]
    exact tx
  · intro m hm1
    rw [hm m hm1 15 (by decide), hm m hm1 17 (by decide)]
    exact rc m hm1
  · unfold WI
    rw [hb 40 (by decide), hb 41 (by decide), hb A_witness (by decide), show I2 MO 71 = I MO 71 from hj 71 (by decide)]
    exact wi
  · exact (hj 69 (by decide)).trans h69
  · rw [tlI_ag ag]
    exact RM_t (RM_agR aC (RM_c (hm ot p3) r2))
  · rw [tlI_ag ag]
    exact RM_t (RM_agR aO (RM_c (hm hd p2) r1))
