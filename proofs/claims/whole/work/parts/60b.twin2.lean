/-! twin -/
theorem RM_be {t : Nat} {tl : Int32 → Nat → Prop} {I : IM} {x y : Nat} {s : MS} (hne : x + 19 ≤ y ∨ y + 19 ≤ x) (r : RM t tl I y s) : RM t tl (beA I x y) x s := by
  obtain ⟨f1, f2, f3, f4, f5, f6, f7, f8, f9, f10, f11, f12, f13, f14, f16, f18, g0, g1, g2, u0, u1, v0, v1, -, -⟩ := be_s (I := I) hne
  obtain ⟨⟨z1, z2, z3, z4, z5⟩, ⟨y0, y1, y2, y3, y4, y5, y6, y7, y8, y9⟩, ⟨b0, b1, b2⟩, ⟨c0, c1, c2⟩, ⟨d0, d1, d2⟩, r6, r7, ⟨e0, e1, e2, e3, e4, e5, e6, e7⟩, ⟨h0, h1, h2, h3, h4⟩⟩ := r
  refine ⟨⟨fun k hk => ?_, fun k hk => ?_, fun k hk => ?_, ?_, ?_⟩, ⟨?_, ?_, ?_, ?_, ?_, ?_, ?_, ?_, ?_, ?_⟩, ⟨b0, b1, fun k hk => ?_⟩, ⟨c0, c1, fun k hk hk2 => ?_⟩, ⟨d0, d1, fun k hk => ?_⟩, fun k hk => ?_, ?_, ⟨?_, e1, e2, e3, e4, ?_, e6, fun q hq => ?_⟩, ⟨h0, h1, ?_, ?_, fun k hk hk2 => ?_⟩⟩
  · rw [f1 k hk, f2 k hk]; exact z1 k hk
  · rw [f3 k hk, f4 k hk, f5 k hk]; exact z2 k hk
  · rw [f6 k (by omega), f7 k (by omega)]; exact z3 k hk
  · rw [f6 8 (by decide)]; exact z4
  · rw [f7 8 (by decide)]; exact z5
  · rw [g0]; exact y0
  · rw [g1]; exact y1
  · rw [f13 0 (by decide)]; exact y2
  · rw [f13 1 (by decide)]; exact y3
  · rw [f13 2 (by decide)]; exact y4
  · rw [f13 3 (by decide)]; exact y5
  · rw [f13 4 (by decide)]; exact y6
  · rw [f13 5 (by decide)]; exact y7
  · rw [f13 6 (by decide)]; exact y8
  · rw [f13 7 (by decide)]; exact y9
  · rw [f8 k (by omega), f9 k (by omega)]; exact b2 k hk
  · rw [f10 k hk]; exact c2 k hk hk2
  · rw [f11 k (by omega), f12 k (by omega)]; exact d2 k hk
  · rw [f14 k hk]; exact r6 k hk
  · unfold R7 at r7 ⊢
    rw [g2]
    exact r7
  · rw [u0]; exact e0
  · rw [u1]; exact e5
  · have hq8 : q < 8 := by omega
    obtain ⟨i0, i1, i2, i3, i4, i5, i6, i7⟩ := e7 q hq
    refine ⟨?_, fun j hj => ?_, i2, ?_, i4, fun j hj => ?_, ?_, ?_⟩
    · rw [f16 _ (by omega)]; exact i0
    · rw [f16 _ (by omega)]; exact i1 j hj
    · rw [f16 _ (by omega)]; exact i3
    · rw [f16 _ (by omega)]; exact i5 j hj
    · rw [f16 _ (by omega)]; exact i6
    · rw [f16 _ (by omega)]; exact i7
  · rw [v0]; exact h2
  · rw [v1]; exact h3
  · rw [f18 k hk]; exact h4 k hk hk2
theorem mch_far {x y : Nat} (hx : isMch x) (hy : isMch y) (h : x ≠ y) : x + 19 ≤ y ∨ y + 19 ≤ x := by
  rcases hx with rfl | rfl | rfl <;> rcases hy with rfl | rfl | rfl <;> first | omega | exact absurd rfl h
theorem ma_twin {PX : Nat → IM → Prop} (hP : PXF PX) : Ma_twin (Rl PX) := by
  intro t ht rl hd ot pt it J I p1 p2 p3 p4 p5 hJ hR
  obtain ⟨d, tx, rc, wi, h69, r1, r2, px⟩ := id hR
  obtain ⟨n, hn⟩ : ∃ n : Nat, 1000 ≤ n := ⟨1000, Nat.le_refl _⟩
  have far := mch_far p3 p2 (fun q => d.1 q.symm)
  obtain ⟨I1, hI1⟩ : ∃ z, z = beA I ot hd := ⟨_, rfl⟩
  have sp := be_s (I := I) far
  have s15 : ∀ j, 2 ≤ j → I1 (ot + 15) j = I (ot + 15) j ∧ I1 (ot + 17) j = I (ot + 17) j := by rw [hI1]; exact sp.2.2.2.2.2.2.2.2.2.2.2.2.2.2.2.2.2.2.2.2.2.2.2.1
  have so : ∀ b, b < ot ∨ ot + 19 ≤ b → I1 b = I b := by rw [hI1]; exact sp.2.2.2.2.2.2.2.2.2.2.2.2.2.2.2.2.2.2.2.2.2.2.2.2
  have no := mch_in p3 (show 18 < 19 by decide)
  obtain ⟨K, hK⟩ : ∃ z, z = up I1 MO 0 0 := ⟨_, rfl⟩
  have kb : ∀ b, b ≠ 102 → K b = I1 b := fun b q => by rw [hK, fu (by exact q)]
  have kj : ∀ j, j ≠ 0 → K 102 j = I 102 j := fun j q => by rw [hK, show up I1 MO 0 0 102 j = I1 102 j from up_ne (Or.inr q), so 102 (by omega)]
  obtain ⟨m1, m2, m3, m4, m5, m6⟩ := mvA_s (I := K) (o := 0)
  obtain ⟨I2, h2⟩ : ∃ z, z = mvA K 0 := ⟨_, rfl⟩
  rw [← h2] at m1 m2 m3 m4 m5 m6
  have hb1 : ∀ b, b < 102 ∨ (102 < b ∧ b < 119) ∨ b = 136 ∨ b = 137 ∨ 140 ≤ b → I2 b = I1 b := fun b q => by rw [m6 b (by omega) (by omega) (by omega) (by omega), kb b (by omega)]
  have hb : ∀ b, (b < ot ∨ ot + 19 ≤ b) → b < 102 ∨ (102 < b ∧ b < 119) ∨ b = 136 ∨ b = 137 ∨ 140 ≤ b → I2 b = I b := fun b q0 q => by rw [hb1 b q, so b q0]
  have hj : ∀ j, j ∈ [2, 15, 18, 23, 32, 69, 71] → I2 102 j = I 102 j := fun j q => by
    rw [m5 j (scF_n (List.mem_cons_of_mem _ q)), kj j (by rintro rfl; revert q; decide)]
  have hlow : ∀ b, b < 16 ∨ (35 ≤ b ∧ b < 64) → b < ot ∨ ot + 19 ≤ b := fun b q => by
    have : ot = 16 ∨ ot = 64 ∨ ot = 83 := p3
    omega
  have ag : agP I I2 := by
    refine ⟨fun a ha => hb a ?_ ?_, hb _ (by show 106 < ot ∨ ot + 19 ≤ 106; omega) (by decide), hj _ (by decide), hj _ (by decide), hj _ (by decide), hj _ (by decide), fun a ha j hj => ?_⟩
    · have : 107 ≤ a := by revert a; decide
      omega
    · revert a
      decide
    · have h1 : a + j < 64 ∧ (a + j < 16 ∨ 35 ≤ a + j) := by
        have : a = 8 ∨ a = 48 ∨ a = 57 := ha
        omega
      exact hb _ (hlow _ (by omega)) (by omega)
  have aC : agR (curM I) (curM I2) := by
    refine ⟨fun i hi => ?_, fun i hi k hk => ?_⟩
    · show I2 102 (scF.getD i 34) = I 102 (scF.getD i 34)
      rw [m4 i hi, if_pos rfl, kj _ (scF_ne i)]
    · show I2 (arF.getD i 119) k = I (arF.getD i 119) k
      have := arF_ge i
      rw [m1 i hi k hk, if_pos rfl, kb _ (by omega), so _ (by omega)]
  have aO : agR (curM I) (othM I2) := by
    refine ⟨fun i hi => ?_, fun i hi k hk => ?_⟩
    · show I2 139 i = I 102 (scF.getD i 34)
      rw [m3 i hi, kj _ (scF_ne i)]
    · show I2 139 (offF.getD i 0 + k) = I (arF.getD i 119) k
      have := arF_ge i
      rw [m2 i hi k hk, kb _ (by omega), so _ (by omega)]
  refine ⟨n, I1, I2, ?_, ?_, ⟨d, ?_, ?_, ?_, ?_, ?_, ?_, hP _ _ _ ag px⟩⟩
  · show Option.bind (f_Mch_become ot hd I) (fun v1 => some v1) = _
    rw [be_f p3 p2 far, hI1]
    rfl
  · show lt (up I1 MO 0 0) (fun I1 => Option.bind (f_Mod_moveAll n 0 I1) fun v2 => some v2) = _
    rw [lt, ← hK, mvA_f hn, h2]
    rfl
  · unfold TX
    rw [hb 1 (hlow _ (by decide)) (by decide), hb 2 (hlow _ (by decide)) (by decide), hb A_signs (by show 103 < ot ∨ ot + 19 ≤ 103; omega) (by decide), show I2 MO 2 = I MO 2 from hj 2 (by decide)]
    exact tx
  · intro m hm1
    have i15 := mch_in hm1 (show 15 < 19 by decide)
    have i17 := mch_in hm1 (show 17 < 19 by decide)
    by_cases q : m = ot
    · subst q
      rw [hb1 _ (Or.inl i15), hb1 _ (Or.inl i17), (s15 2 (by decide)).1, (s15 3 (by decide)).1, (s15 2 (by decide)).2, (s15 3 (by decide)).2]
      exact rc m hm1
    · have f := mch_far hm1 p3 q
      rw [hb _ (by omega) (Or.inl i15), hb _ (by omega) (Or.inl i17)]
      exact rc m hm1
  · unfold WI
    rw [hb 40 (hlow _ (by decide)) (by decide), hb 41 (hlow _ (by decide)) (by decide), hb A_witness (by show 137 < ot ∨ ot + 19 ≤ 137; omega) (by decide), show I2 MO 71 = I MO 71 from hj 71 (by decide)]
    exact wi
  · exact (hj 69 (by decide)).trans h69
  · rw [tlI_ag ag]
    exact RM_t (RM_agR aC (RM_c (fun i hi => hb _ (by omega) (Or.inl (mch_in p2 hi))) r1))
  · rw [tlI_ag ag]
    refine RM_t (RM_agR aO (RM_c (I := I1) (fun i hi => hb1 _ (Or.inl (mch_in p3 hi))) ?_))
    rw [hI1]
    exact RM_be far r1
