/-! calls that write to the machine at hand -/
theorem R1_c {I I' : IM} {m : Nat} {s s' : MS} (h : R1 I m s) (e1 : I' (m + 1) = I (m + 1)) (e2 : I' (m + 2) = I (m + 2)) (e3 : I' (m + 3) = I (m + 3)) (e4 : I' (m + 4) = I (m + 4)) (e5 : I' (m + 5) = I (m + 5)) (e6 : I' (m + 6) = I (m + 6)) (e7 : I' (m + 7) = I (m + 7)) (hs : s'.1 = s.1) (ha : ∀ j, j < 7 → s'.2 j = s.2 j) : R1 I' m s' := by
  unfold R1 at h ⊢
  rw [e1, e2, e3, e4, e5, e6, e7, hs, ha 0 (by decide), ha 1 (by decide), ha 2 (by decide), ha 3 (by decide), ha 4 (by decide), ha 5 (by decide), ha 6 (by decide)]
  exact h
theorem R2_c {I I' : IM} {m : Nat} {s s' : MS} (h : R2 I m s) (e0 : I' m = I m) (e1 : I' (m + 13) = I (m + 13)) (hs : s'.1 = s.1) : R2 I' m s' := by
  unfold R2 at h ⊢
  rw [e0, e1, hs]
  exact h
theorem R3_c {I I' : IM} {m : Nat} {s s' : MS} (h : R3 I m s) (e0 : I' (m + 8) = I (m + 8)) (e1 : I' (m + 9) = I (m + 9)) (hs : s'.1 4 = s.1 4) (h1 : s'.2 7 = s.2 7) (h2 : s'.2 8 = s.2 8) : R3 I' m s' := by
  unfold R3 at h ⊢
  rw [e0, e1, hs, h1, h2]
  exact h
theorem R4_c {t : Nat} {I I' : IM} {m : Nat} {s s' : MS} (h : R4 t I m s) (e0 : I' (m + 10) = I (m + 10)) (hs : s'.1 5 = s.1 5) (h1 : s'.2 9 = s.2 9) : R4 (t + 1) I' m s' := by
  unfold R4 at h ⊢
  rw [e0, hs, h1]
  exact ⟨h.1, by have := h.2.1; omega, h.2.2⟩
theorem R5_c {I I' : IM} {m : Nat} {s s' : MS} (h : R5 I m s) (e0 : I' (m + 11) = I (m + 11)) (e1 : I' (m + 12) = I (m + 12)) (hs : s'.1 11 = s.1 11) (h1 : s'.2 10 = s.2 10) (h2 : s'.2 11 = s.2 11) : R5 I' m s' := by
  unfold R5 at h ⊢
  rw [e0, e1, hs, h1, h2]
  exact h
theorem R6_c {I I' : IM} {m : Nat} {s s' : MS} (h : R6 I m s) (e0 : I' (m + 14) = I (m + 14)) (h1 : s'.2 15 = s.2 15) : R6 I' m s' := by
  unfold R6 at h ⊢
  rw [e0, h1]
  exact h
theorem R7_c {I I' : IM} {m : Nat} {s s' : MS} (h : R7 I m s) (e0 : I' m 2 = I m 2) (hs : s'.1 6 = s.1 6) (h1 : s'.1 15 = s.1 15) : R7 I' m s' := by
  unfold R7 at h ⊢
  rw [e0, hs, h1]
  exact h
theorem R8_c {tl : Int32 → Nat → Prop} {I I' : IM} {m : Nat} {s s' : MS} (h : R8 tl I m s) (e0 : I' (m + 15) = I (m + 15)) (e1 : I' (m + 16) = I (m + 16)) (hs : s'.1 12 = s.1 12) (hs2 : s'.1 13 = s.1 13) (h1 : s'.2 12 = s.2 12) (h2 : s'.2 13 = s.2 13) : R8 tl I' m s' := by
  unfold R8 at h ⊢
  rw [e0, e1, hs, hs2, h1, h2]
  exact h
theorem R9_c {t : Nat} {I I' : IM} {m : Nat} {s s' : MS} (h : R9 t I m s) (e0 : I' (m + 17) = I (m + 17)) (e1 : I' (m + 18) = I (m + 18)) (hs : s'.1 14 = s.1 14) (h1 : s'.2 14 = s.2 14) : R9 (t + 1) I' m s' := by
  unfold R9 at h ⊢
  rw [e0, e1, hs, h1]
  exact ⟨h.1, by have := h.2.1; omega, h.2.2⟩
/-- a call that changes the machine at hand alone, on both sides -/
theorem Rl_m {PX : Nat → IM → Prop} (hP : PXF PX) {t rl hd ot pt it : Nat} {I I' : IM} (h : Rl PX t rl hd ot pt it I) (p2 : isMch hd) (p3 : isMch ot) (hb : ∀ b, ¬ (hd ≤ b ∧ b < hd + 19) → b ≠ 102 → ¬ (119 ≤ b ∧ b < 136) → I' b = I b) (hj : ∀ j, j ∈ [2, 15, 18, 23, 32, 69, 71] → I' MO j = I MO j) (hr : I' (hd + 15) 2 = 8 ∧ I' (hd + 15) 3 = 25 ∧ I' (hd + 17) 2 = 16 ∧ I' (hd + 17) 3 = 6) (hm : RM (t + 1) (tlI I) I' hd (curM I')) : Rl PX (t + 1) rl hd ot pt it I' := by
  obtain ⟨d, tx, rc, wi, h69, r1, r2, px⟩ := id h
  have hb' : ∀ b, b < 16 ∨ (35 ≤ b ∧ b < 64) ∨ (103 ≤ b ∧ b < 119) ∨ 136 ≤ b → I' b = I b := fun b hq => hb b (by rcases p2 with rfl | rfl | rfl <;> omega) (by omega) (by omega)
  have ho : ∀ m, isMch m → m ≠ hd → ∀ i, i < 19 → I' (m + i) = I (m + i) := fun m hq hne i hi => hb _ (by clear hm hr hj hb; rcases p2 with rfl | rfl | rfl <;> rcases hq with rfl | rfl | rfl <;> first | omega | exact absurd rfl hne) (by clear hm; rcases hq with rfl | rfl | rfl <;> omega) (by clear hm; rcases hq with rfl | rfl | rfl <;> omega)
  refine Rl_of hP h ?_ ?_ ?_ ?_ ⟨fun a ha => hb' a ?_, hb' _ (by decide), hj _ (by decide), hj _ (by decide), hj _ (by decide), hj _ (by decide), fun a ha j hj => hb' _ ?_⟩ (ho ot p3 (fun q => d.1 q.symm)) (hb' _ (by decide)) hm
  · unfold TX
    rw [hb' 1 (by decide), hb' 2 (by decide), hb' A_signs (by decide), hj 2 (by decide)]
    exact tx
  · intro m hm1
    by_cases hq : m = hd
    · rw [hq]
      exact hr
    · rw [ho m hm1 hq 15 (by decide), ho m hm1 hq 17 (by decide)]
      exact rc m hm1
  · unfold WI
    rw [hb' 40 (by decide), hb' 41 (by decide), hb' A_witness (by decide), hj 71 (by decide)]
    exact wi
  · rw [hj 69 (by decide)]
    exact h69
  · revert a
    decide
  · rcases ha with rfl | rfl | rfl <;> omega
theorem arF_at : ∀ j, j < 16 → arF.getD j 119 = if j < 14 then 119 + j else 120 + j := by decide
theorem isWord_1 {a : Int32} {I : IM} (c1 : ¬ a < 0) (c2 : ¬ (95 : Int32) < a) : f_Mod_isWord a I = some 1 := by
  simp [f_Mod_isWord, f_Mod_in, c1, c2, chk]
theorem scE {I I' : IM} (h : ∀ j, j ∈ scF → I' MO j = I MO j) : (curM I').1 = (curM I).1 := by
  funext j
  show I' MO (scF.getD j 34) = I MO (scF.getD j 34)
  apply h
  by_cases hj : j < 16
  · revert j
    decide
  · rw [List.getD_eq_getElem?_getD, List.getElem?_eq_none (show scF.length ≤ j from by show 16 ≤ j; omega)]
    decide
/-- three rows of the same index, behind a note of no refusal -/
theorem ma_word {PX : Nat → IM → Prop} (hP : PXF PX) : Ma_word (Rl PX) := by
  intro a0 a1 a2 a3 t ht rl hd ot pt it J I p1 p2 p3 p4 p5 hJ hR
  obtain ⟨d, tx, rc, wi, h69, ⟨r1, r2, r3, r4, r5, r6, r7, r8, r9⟩, ro, px⟩ := id hR
  by_cases c1 : a0 < 0
  · refine Or.inr ⟨0, up I MO 0 1, ?_, ?_, up_self, Rl_thr hP p2 p3 hR⟩
    · rw [t_Eng_word, if_pos c1]; rfl
    · simp [f_Mod_word, f_Mod_isWord, f_Mod_in, c1, chk, b_Mod_word_42, refuse_1]
  by_cases c2 : a0 < 96
  · have c2' : ¬ (95 : Int32) < a0 := fun q => i95.mp q c2
    have c2'' : ¬ (96 : Int32) ≤ a0 := by rw [ti] at c2; rw [tl]; omega
    have hlt : a0.toInt < 96 := by rw [ti] at c2; exact c2
    have hin : inb a0 96 := inb_of c1 hlt
    obtain ⟨I1, h1⟩ : ∃ z, z = up (up (up I (hd + 3) a0.toNatClampNeg a1) (hd + 4) a0.toNatClampNeg a2) (hd + 5) a0.toNatClampNeg a3 := ⟨_, rfl⟩
    obtain ⟨I2, h2⟩ : ∃ z, z = up (up (up (up I1 MO 0 0) A_ints a0.toNatClampNeg a1) A_held a0.toNatClampNeg a2) A_owners a0.toNatClampNeg a3 := ⟨_, rfl⟩
    have hmo : ∀ b, hd ≤ b ∧ b < hd + 19 → b ≠ 102 ∧ ¬ (119 ≤ b ∧ b < 136) := fun b hb => by rcases p2 with rfl | rfl | rfl <;> omega
    have cl : ∀ b j, I2 b j = if b = 123 ∧ j = a0.toNatClampNeg then a3 else if b = 122 ∧ j = a0.toNatClampNeg then a2 else if b = 121 ∧ j = a0.toNatClampNeg then a1 else if b = 102 ∧ j = 0 then 0 else if b = hd + 5 ∧ j = a0.toNatClampNeg then a3 else if b = hd + 4 ∧ j = a0.toNatClampNeg then a2 else if b = hd + 3 ∧ j = a0.toNatClampNeg then a1 else I b j := fun b j => by
      rw [h2, h1]
      simp only [up_at]
    have q : ∀ b, b ≠ 121 → b ≠ 122 → b ≠ 123 → b ≠ 102 → b ≠ hd + 3 → b ≠ hd + 4 → b ≠ hd + 5 → I2 b = I b := fun b e1 e2 e3 e4 e5 e6 e7 => by
      funext j
      rw [cl, if_neg (fun z => e3 z.1), if_neg (fun z => e2 z.1), if_neg (fun z => e1 z.1), if_neg (fun z => e4 z.1), if_neg (fun z => e7 z.1), if_neg (fun z => e6 z.1), if_neg (fun z => e5 z.1)]
    have qm : ∀ i, i < 19 → i ≠ 3 → i ≠ 4 → i ≠ 5 → I2 (hd + i) = I (hd + i) := fun i hi e3 e4 e5 => by
      have := hmo (hd + i) (by omega)
      exact q _ (by omega) (by omega) (by omega) this.1 (by omega) (by omega) (by omega)
    have m3 := hmo (hd + 3) (by omega)
    have m4 := hmo (hd + 4) (by omega)
    have m5 := hmo (hd + 5) (by omega)
    have qj : ∀ j, j ≠ 0 → I2 MO j = I MO j := fun j hj => by
      show I2 102 j = I 102 j
      rw [cl, if_neg (by omega), if_neg (by omega), if_neg (by omega), if_neg (by omega), if_neg (by omega), if_neg (by omega), if_neg (by omega)]
    have hs : (curM I2).1 = (curM I).1 := scE (fun j hj => qj j (by rintro rfl; revert hj; decide))
    have ha : ∀ j, j < 16 → j ≠ 2 → j ≠ 3 → j ≠ 4 → (curM I2).2 j = (curM I).2 j := fun j hj e2 e3 e4 => by
      funext k
      show I2 (arF.getD j 119) k = I (arF.getD j 119) k
      have hz : arF.getD j 119 ≠ 121 ∧ arF.getD j 119 ≠ 122 ∧ arF.getD j 119 ≠ 123 ∧ 119 ≤ arF.getD j 119 ∧ arF.getD j 119 < 136 := by
        rw [arF_at j hj]
        split <;> omega
      rw [q _ hz.1 hz.2.1 hz.2.2.1 (by omega) (by omega) (by omega) (by omega)]
    refine Or.inl ⟨0, I1, I2, ?_, ?_, ?_, ?_⟩
    · rw [f_Eng_word, if_neg c1, if_pos c2]
      simp only [f_Mch_setWord, f_Mch_hasWord, if_neg c1, if_neg c2'', Option.bind_some, if_neg (show ¬ (1 : Int32) = 0 by decide), chk_i hin, lt, b_Mch_setWord_30]
      rw [h1]
    · simp only [f_Mod_word, isWord_1 c1 c2', Option.bind_some, if_neg (show ¬ (1 : Int32) = 0 by decide), refuse_0, if_true, chk_i hin, lt, b_Mod_word_42]
      rw [h2]
    · show I2 102 0 = 0
      rw [cl, if_neg (by omega), if_neg (by omega), if_neg (by omega), if_pos ⟨rfl, rfl⟩]
    · refine Rl_m hP hR p2 p3 (fun b e1 e2 e3 => q b (by omega) (by omega) (by omega) e2 (by omega) (by omega) (by omega)) (fun j hj => qj j (by rintro rfl; revert hj; decide)) ?_ ⟨?_, R2_c r2 (qm 0 (by decide) (by decide) (by decide) (by decide)) (qm 13 (by decide) (by decide) (by decide) (by decide)) hs, R3_c r3 (qm 8 (by decide) (by decide) (by decide) (by decide)) (qm 9 (by decide) (by decide) (by decide) (by decide)) (congrFun hs _) (ha _ (by decide) (by decide) (by decide) (by decide)) (ha _ (by decide) (by decide) (by decide) (by decide)), R4_c r4 (qm 10 (by decide) (by decide) (by decide) (by decide)) (congrFun hs _) (ha _ (by decide) (by decide) (by decide) (by decide)), R5_c r5 (qm 11 (by decide) (by decide) (by decide) (by decide)) (qm 12 (by decide) (by decide) (by decide) (by decide)) (congrFun hs _) (ha _ (by decide) (by decide) (by decide) (by decide)) (ha _ (by decide) (by decide) (by decide) (by decide)), R6_c r6 (qm 14 (by decide) (by decide) (by decide) (by decide)) (ha _ (by decide) (by decide) (by decide) (by decide)), R7_c r7 (congrFun (qm 0 (by decide) (by decide) (by decide) (by decide)) 2) (congrFun hs _) (congrFun hs _), R8_c r8 (qm 15 (by decide) (by decide) (by decide) (by decide)) (qm 16 (by decide) (by decide) (by decide) (by decide)) (congrFun hs _) (congrFun hs _) (ha _ (by decide) (by decide) (by decide) (by decide)) (ha _ (by decide) (by decide) (by decide) (by decide)), R9_c r9 (qm 17 (by decide) (by decide) (by decide) (by decide)) (qm 18 (by decide) (by decide) (by decide) (by decide)) (congrFun hs _) (ha _ (by decide) (by decide) (by decide) (by decide))⟩
      · rw [qm 15 (by decide) (by decide) (by decide) (by decide), qm 17 (by decide) (by decide) (by decide) (by decide)]
        exact rc hd p2
      · obtain ⟨z1, z2, z3, z4, z5⟩ := r1
        refine ⟨?_, fun k hk => ?_, ?_, ?_, ?_⟩
        · rw [qm 1 (by decide) (by decide) (by decide) (by decide), qm 2 (by decide) (by decide) (by decide) (by decide), ha 0 (by decide) (by decide) (by decide) (by decide), ha 1 (by decide) (by decide) (by decide) (by decide)]
          exact z1
        · obtain ⟨y1, y2, y3⟩ := z2 k hk
          replace y1 : I (hd + 3) k = I 121 k := y1
          replace y2 : I (hd + 4) k = I 122 k := y2
          replace y3 : I (hd + 5) k = I 123 k := y3
          show I2 (hd + 3) k = I2 121 k ∧ I2 (hd + 4) k = I2 122 k ∧ I2 (hd + 5) k = I2 123 k
          simp only [cl]
          by_cases hk0 : k = a0.toNatClampNeg
          · simp [hk0, show ¬ hd + 3 = 123 by omega, show ¬ hd + 3 = 122 by omega, show ¬ hd + 3 = 121 by omega, show ¬ hd + 3 = 102 from m3.1, show ¬ hd + 4 = 123 by omega, show ¬ hd + 4 = 122 by omega, show ¬ hd + 4 = 121 by omega, show ¬ hd + 4 = 102 from m4.1, show ¬ hd + 5 = 123 by omega, show ¬ hd + 5 = 122 by omega, show ¬ hd + 5 = 121 by omega, show ¬ hd + 5 = 102 from m5.1]
          · simp [hk0, y1, y2, y3, show ¬ hd + 3 = 102 from m3.1, show ¬ hd + 4 = 102 from m4.1, show ¬ hd + 5 = 102 from m5.1]
        · rw [qm 6 (by decide) (by decide) (by decide) (by decide), qm 7 (by decide) (by decide) (by decide) (by decide), ha 5 (by decide) (by decide) (by decide) (by decide), ha 6 (by decide) (by decide) (by decide) (by decide)]
          exact z3
        · rw [qm 6 (by decide) (by decide) (by decide) (by decide), hs]
          exact z4
        · rw [qm 7 (by decide) (by decide) (by decide) (by decide), hs]
          exact z5
  · have c2' : (95 : Int32) < a0 := i95.mpr c2
    refine Or.inr ⟨0, up I MO 0 1, ?_, ?_, up_self, Rl_thr hP p2 p3 hR⟩
    · rw [t_Eng_word, if_neg c1, if_neg c2]; rfl
    · simp [f_Mod_word, f_Mod_isWord, f_Mod_in, c1, c2', chk, b_Mod_word_42, refuse_1]
