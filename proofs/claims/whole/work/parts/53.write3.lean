/-! input, output, state -/
theorem add1 {c : Int32} {n : Nat} (h0 : 0 ≤ c.toInt) (h1 : c.toInt < n) (hn : n ≤ 100000000) : (c + 1).toInt = c.toInt + 1 := by
  simp only [Int32.toInt_add, Int32.reduceToInt, Int.bmod_def]
  split <;> omega
theorem sub1 {c : Int32} (h0 : 0 ≤ c.toInt) : (c - 1).toInt = c.toInt - 1 := by
  have := c.toInt_lt
  simp only [Int32.toInt_sub, Int32.reduceToInt, Int.bmod_def]
  split <;> omega
theorem nat_c {x : Int32} (h0 : 0 ≤ x.toInt) : ((x.toNatClampNeg : Nat) : Int) = x.toInt := by
  unfold Int32.toNatClampNeg
  omega
theorem RM_inp {t : Nat} {tl : Int32 → Nat → Prop} {V : IM} {s : MS} {c v g : Int32} (hc : s.1 4 = c) (h16 : c.toInt < 16) (h : RM t tl V 0 s) : RM (t + 1) tl (up (up (up V 8 c.toNatClampNeg v) 9 c.toNatClampNeg g) 13 5 (c + 1)) 0 (seS (seA (seA s 7 c.toNatClampNeg v) 8 c.toNatClampNeg g) 4 (c + 1)) := by
  obtain ⟨⟨z1, z2, z3, z4, z5⟩, r2, ⟨b0, b1, b2⟩, r4, r5, r6, r7, r8, r9⟩ := h
  rw [hc] at b0 b1 b2
  have e1 : (c + 1).toInt = c.toInt + 1 := add1 b0 h16 (by decide)
  have ec := nat_c b0
  refine ⟨⟨?_, ?_, ?_, ?_, ?_⟩, ?_, ⟨?_, ?_, fun k hk => ?_⟩, ?_, ?_, ?_, ?_, ?_, ?_⟩
  · simpa [seS, seA, upd, up_at] using z1
  · simpa [seS, seA, upd, up_at] using z2
  · simpa [seS, seA, upd, up_at] using z3
  · simpa [seS, seA, upd, up_at] using z4
  · simpa [seS, seA, upd, up_at] using z5
  · obtain ⟨y0, y1, y2, y3, y4, y5, y6, y7, y8, y9⟩ := r2
    refine ⟨y0, y1, y2, y3, y4, y5, y6, ?_, y8, y9⟩
    simp [seS, upd, up_at]
  · show 0 ≤ (c + 1).toInt
    omega
  · show (c + 1).toInt ≤ 16
    omega
  · replace hk : (k : Int) < (c + 1).toInt := hk
    by_cases e : k = c.toNatClampNeg
    · simp [seS, seA, upd, up_at, e]
    · obtain ⟨y1, y2⟩ := b2 k (by omega)
      simp only [Nat.zero_add] at y1 y2
      simp [seS, seA, upd, up_at, e, y1, y2]
  · exact R4_c r4 (by funext q; simp [up_at]) rfl rfl
  · simpa [R5, seS, seA, upd, up_at] using r5
  · simpa [R6, seS, seA, upd, up_at] using r6
  · exact R7_c r7 (by simp [up_at]) rfl rfl
  · exact R8_c r8 (by funext q; simp [up_at]) (by funext q; simp [up_at]) rfl rfl rfl rfl
  · exact R9_c r9 (by funext q; simp [up_at]) (by funext q; simp [up_at]) rfl rfl
theorem ma_input {PX : Nat → IM → Prop} (hP : PXF PX) : Ma_input (Rl PX) := by
  intro a0 a1 t ht rl hd ot pt it J I p1 p2 p3 p4 p5 hJ hR
  obtain ⟨d, tx, rc, wi, h69, rm, ro, px⟩ := id hR
  have hc : I (hd + 13) 5 = I MO 45 := rm.2.1.2.2.2.2.2.2.2.1
  have b0 : 0 ≤ (I MO 45).toInt := rm.2.2.1.1
  have b1 : (I MO 45).toInt ≤ 16 := rm.2.2.1.2.1
  have e5 : (5 : Int32).toNatClampNeg = 5 := rfl
  obtain ⟨c, hcc⟩ : ∃ z, z = I MO 45 := ⟨_, rfl⟩
  rw [← hcc] at hc b0 b1
  by_cases c1 : c < 16
  · have h16 : c.toInt < 16 := by rw [ti] at c1; exact c1
    have n0 : ¬ c < 0 := by rw [ti]; simp only [Int32.reduceToInt]; omega
    have ne : ¬ c = 16 := fun q => by rw [q] at h16; revert h16; decide
    have nl : ¬ (16 : Int32) ≤ c := by rw [tl]; simp only [Int32.reduceToInt]; omega
    have hin : inb c 16 := inb_of n0 h16
    have n8 := mch_in p2 (show 8 < 19 by decide)
    have n9 := mch_in p2 (show 9 < 19 by decide)
    have n13 := mch_in p2 (show 13 < 19 by decide)
    have n15 := mch_in p2 (show 15 < 19 by decide)
    have n17 := mch_in p2 (show 17 < 19 by decide)
    obtain ⟨I1, h1⟩ : ∃ z, z = up (up (up I (hd + 8) c.toNatClampNeg a0) (hd + 9) c.toNatClampNeg a1) (hd + 13) 5 (c + 1) := ⟨_, rfl⟩
    have q45 : I1 MO 45 = c := by
      rw [h1, up_o (by show 102 ≠ hd + 13; omega), up_o (by show 102 ≠ hd + 9; omega), up_o (by show 102 ≠ hd + 8; omega)]
      exact hcc.symm
    refine Or.inl ⟨0, c + 1, I1, up (up (up (up I1 MO 0 0) A_inputValues c.toNatClampNeg a0) A_inputTags c.toNatClampNeg a1) MO 45 (c + 1), ?_, ?_, ?_, ?_⟩
    · simp only [f_Eng_input, f_Mch_addInput, e5, hc, if_pos c1, if_neg n0, if_neg nl, chk_i hin, lt, b_Mch_addInput_40, Option.bind_some]
      rw [← h1, h1, up_self]
    · simp only [f_Mod_input, q45, if_neg ne, refuse_0, Option.bind_some, if_true, m0j (show 45 ≠ 0 by decide), chk_i hin, lt, up_o (show MO ≠ A_inputValues by decide), up_o (show MO ≠ A_inputTags by decide), up_self]
    · rw [up_ne (Or.inr (by decide)), up_o (by decide), up_o (by decide), up_self]
    · refine Rl_m hP hR p2 p3 (fun b e1 e2 e3 => ?_) (fun j hj => ?_) ?_ ?_
      · rw [fu (by show b ≠ 102; omega), fu (by show b ≠ 127; omega), fu (by show b ≠ 126; omega), fu (by show b ≠ 102; omega), h1, fu (by omega), fu (by omega), fu (by omega)]
      · rw [up_ne (Or.inr (by rintro rfl; revert hj; decide)), fu (by decide), fu (by decide), up_ne (Or.inr (by rintro rfl; revert hj; decide)), h1, fu (by show 102 ≠ hd + 13; omega), fu (by show 102 ≠ hd + 9; omega), fu (by show 102 ≠ hd + 8; omega)]
      · rw [fu (by show hd + 15 ≠ 102; omega), fu (by show hd + 15 ≠ 127; omega), fu (by show hd + 15 ≠ 126; omega), fu (by show hd + 15 ≠ 102; omega), fu (by show hd + 17 ≠ 102; omega), fu (by show hd + 17 ≠ 127; omega), fu (by show hd + 17 ≠ 126; omega), fu (by show hd + 17 ≠ 102; omega), h1, fu (by omega), fu (by omega), fu (by omega), fu (by omega), fu (by omega), fu (by omega)]
        exact rc hd p2
      · rw [h1]
        exact RM_end (av_out (mch_out p2 (by decide)) (av_out (mch_out p2 (by decide)) (av_out (mch_out p2 (by decide)) (av_out (mch_out p2 (by decide)) (av_in (av_in (av_in ag_refl))))))) (cur_sc (j := 4) (by decide) rfl (cur_ar (j := 8) (by decide) rfl (cur_ar (j := 7) (by decide) rfl (cur_0 (cur_out (Or.inl n13) (cur_out (Or.inl n9) (cur_out (Or.inl n8) agS_refl))))))) (RM_inp hcc.symm h16 (RM_vw.mp rm))
  · have e16 : c = 16 := by
      rw [ti] at c1
      simp only [Int32.reduceToInt] at c1
      exact Int32.toInt_inj.mp (show c.toInt = 16 by omega)
    refine Or.inr ⟨0, 0, up I MO 0 1, ?_, ?_, up_self, Rl_thr hP p2 p3 hR⟩
    · simp only [t_Eng_input, e5, hc, if_neg c1]
    · simp only [f_Mod_input, ← hcc, if_pos e16, refuse_1, Option.bind_some, if_neg (show ¬ (1 : Int32) = 0 by decide)]
theorem ma_output {PX : Nat → IM → Prop} (hP : PXF PX) : Ma_output (Rl PX) := by
  intro a0 t ht rl hd ot pt it J I p1 p2 p3 p4 p5 hJ hR
  obtain ⟨d, tx, rc, wi, h69, rm, ro, px⟩ := id hR
  have hc : I (hd + 13) 1 = I MO 48 := rm.2.1.2.2.2.1
  obtain ⟨b0, b1, b2⟩ := rm.2.2.2.1
  replace b0 : 0 ≤ (I MO 48).toInt := b0
  replace b2 : ∀ k : Nat, k < 40 → (k : Int) < (I MO 48).toInt → I (hd + 10) k = I A_output k := b2
  have e1 : (1 : Int32).toNatClampNeg = 1 := rfl
  obtain ⟨m, hm⟩ : ∃ z, z = (if (40 : Int32) ≤ I MO 48 then 40 else I MO 48) := ⟨_, rfl⟩
  have hmin : minI (I MO 48) 40 = m := by
    rw [hm]
    unfold minI
    by_cases q : (40 : Int32) < I MO 48
    · rw [if_pos q, if_pos (by rw [ti] at q; rw [tl]; omega)]
    · rw [if_neg q]
      by_cases q2 : (40 : Int32) ≤ I MO 48
      · rw [if_pos q2]
        rw [ti] at q
        rw [tl] at q2
        exact Int32.toInt_inj.mp (by omega)
      · rw [if_neg q2]
  have m0' : 0 ≤ m.toInt ∧ m.toInt ≤ 40 ∧ m.toInt ≤ (I MO 48).toInt := by
    rw [hm]
    split
    · next q => rw [tl] at q; exact ⟨by decide, by decide, q⟩
    · next q => rw [tl] at q; simp only [Int32.reduceToInt] at q; omega
  have em : (m - 1).toInt = m.toInt - 1 := sub1 m0'.1
  by_cases c1 : a0 < 0
  · refine Or.inr ⟨0, 0, up I MO 0 1, ?_, ?_, up_self, Rl_thr hP p2 p3 hR⟩
    · rw [t_Eng_output, if_pos c1]; rfl
    · simp only [f_Mod_output, f_Mod_in, if_pos c1, Option.bind_some, if_true, refuse_1, if_neg (show ¬ (1 : Int32) = 0 by decide), b_Mod_output_51]
  by_cases c2 : a0 < m
  · have hlt : a0.toInt < m.toInt := by rw [ti] at c2; exact c2
    have c2' : ¬ m - 1 < a0 := by rw [ti, em]; omega
    have hin : inb a0 40 := inb_of c1 (by omega)
    have ev := b2 a0.toNatClampNeg (nat_lt c1 (by omega)) (by rw [nat_of c1]; omega)
    refine Or.inl ⟨0, I (hd + 10) a0.toNatClampNeg, up I MO 0 0, ?_, ?_, up_self, Rl_thr hP p2 p3 hR⟩
    · simp only [f_Eng_output, if_neg c1, f_Mch_keptOutputs, e1, hc, hmin, Option.bind_some, if_pos c2, chk_i hin]
    · simp only [f_Mod_output, f_Mod_in, ← hm, if_neg c1, if_neg c2', Option.bind_some, if_neg (show ¬ (1 : Int32) = 0 by decide), refuse_0, if_true, chk_i hin, b_Mod_output_51, m0 (show A_output ≠ MO by decide), ev]
  · have c2' : m - 1 < a0 := by
      rw [ti] at c2
      rw [ti, em]
      omega
    refine Or.inr ⟨0, 0, up I MO 0 1, ?_, ?_, up_self, Rl_thr hP p2 p3 hR⟩
    · simp only [t_Eng_output, if_neg c1, f_Mch_keptOutputs, e1, hc, hmin, Option.bind_some, if_neg c2]
      rfl
    · simp only [f_Mod_output, f_Mod_in, ← hm, if_neg c1, if_pos c2', Option.bind_some, if_true, refuse_1, if_neg (show ¬ (1 : Int32) = 0 by decide), b_Mod_output_51]
theorem i0_9 {x : Int32} (h0 : ¬ x < 0) (h9 : x ≤ 9) : x = 0 ∨ x = 1 ∨ x = 2 ∨ x = 3 ∨ x = 4 ∨ x = 5 ∨ x = 6 ∨ x = 7 ∨ x = 8 ∨ x = 9 := by
  have a := nneg h0
  rw [tl] at h9
  simp only [Int32.reduceToInt] at h9
  have b : x.toInt = 0 ∨ x.toInt = 1 ∨ x.toInt = 2 ∨ x.toInt = 3 ∨ x.toInt = 4 ∨ x.toInt = 5 ∨ x.toInt = 6 ∨ x.toInt = 7 ∨ x.toInt = 8 ∨ x.toInt = 9 := by omega
  rcases b with b | b | b | b | b | b | b | b | b | b
  · exact Or.inl (Int32.toInt_inj.mp b)
  · exact Or.inr (Or.inl (Int32.toInt_inj.mp b))
  · exact Or.inr (Or.inr (Or.inl (Int32.toInt_inj.mp b)))
  · exact Or.inr (Or.inr (Or.inr (Or.inl (Int32.toInt_inj.mp b))))
  · exact Or.inr (Or.inr (Or.inr (Or.inr (Or.inl (Int32.toInt_inj.mp b)))))
  · exact Or.inr (Or.inr (Or.inr (Or.inr (Or.inr (Or.inl (Int32.toInt_inj.mp b))))))
  · exact Or.inr (Or.inr (Or.inr (Or.inr (Or.inr (Or.inr (Or.inl (Int32.toInt_inj.mp b)))))))
  · exact Or.inr (Or.inr (Or.inr (Or.inr (Or.inr (Or.inr (Or.inr (Or.inl (Int32.toInt_inj.mp b))))))))
  · exact Or.inr (Or.inr (Or.inr (Or.inr (Or.inr (Or.inr (Or.inr (Or.inr (Or.inl (Int32.toInt_inj.mp b)))))))))
  · exact Or.inr (Or.inr (Or.inr (Or.inr (Or.inr (Or.inr (Or.inr (Or.inr (Or.inr (Int32.toInt_inj.mp b)))))))))
theorem ma_state {PX : Nat → IM → Prop} (hP : PXF PX) : Ma_state (Rl PX) := by
  intro a0 t ht rl hd ot pt it J I p1 p2 p3 p4 p5 hJ hR
  obtain ⟨d, tx, rc, wi, h69, rm, ro, px⟩ := id hR
  obtain ⟨y0, y1, y2, y3, y4, y5, y6, y7, y8, y9⟩ := rm.2.1
  have y10 : I (hd + 15) 0 = I MO 58 := rm.2.2.2.2.2.2.2.1.1
  have y11 : I (hd + 17) 0 = if I MO 63 < 16 then I MO 63 else 16 := rm.2.2.2.2.2.2.2.2.2.2.1
  replace y2 : I (hd + 13) 0 = I MO 50 := y2
  replace y3 : I (hd + 13) 1 = I MO 48 := y3
  replace y4 : I (hd + 13) 2 = I MO 51 := y4
  replace y5 : I (hd + 13) 3 = I MO 53 := y5
  replace y6 : I (hd + 13) 4 = I MO 54 := y6
  replace y7 : I (hd + 13) 5 = I MO 45 := y7
  replace y8 : I (hd + 13) 6 = I MO 52 := y8
  replace y9 : I (hd + 13) 7 = I MO 55 := y9
  by_cases c1 : a0 < 0
  · refine Or.inr ⟨0, 0, up I MO 0 1, ?_, ?_, up_self, Rl_thr hP p2 p3 hR⟩
    · rw [t_Eng_state, if_pos c1]; rfl
    · simp only [f_Mod_state, f_Mod_in, if_pos c1, Option.bind_some, if_true, refuse_1, if_neg (show ¬ (1 : Int32) = 0 by decide)]
  by_cases c2 : a0 ≤ 9
  · have key : ∃ r, f_Eng_state hd a0 I = some r ∧ f_Mod_state a0 I = some (r, up I MO 0 0) := by
      rcases i0_9 c1 c2 with rfl | rfl | rfl | rfl | rfl | rfl | rfl | rfl | rfl | rfl
      · exact ⟨I MO 50, by rw [← y2]; rfl, by simp [f_Mod_state, f_Mod_in, refuse_0, m0j]⟩
      · exact ⟨I MO 48, by rw [← y3]; rfl, by simp [f_Mod_state, f_Mod_in, refuse_0, m0j]⟩
      · exact ⟨I MO 51, by rw [← y4]; rfl, by simp [f_Mod_state, f_Mod_in, refuse_0, m0j]⟩
      · exact ⟨I MO 53, by rw [← y5]; rfl, by simp [f_Mod_state, f_Mod_in, refuse_0, m0j]⟩
      · exact ⟨I MO 54, by rw [← y6]; rfl, by simp [f_Mod_state, f_Mod_in, refuse_0, m0j]⟩
      · exact ⟨I MO 45, by rw [← y7]; rfl, by simp [f_Mod_state, f_Mod_in, refuse_0, m0j]⟩
      · exact ⟨I MO 52, by rw [← y8]; rfl, by simp [f_Mod_state, f_Mod_in, refuse_0, m0j]⟩
      · exact ⟨I MO 55, by rw [← y9]; rfl, by simp [f_Mod_state, f_Mod_in, refuse_0, m0j]⟩
      · exact ⟨I MO 58, by rw [← y10]; rfl, by simp [f_Mod_state, f_Mod_in, refuse_0, m0j]⟩
      · refine ⟨I (hd + 17) 0, rfl, ?_⟩
        rw [y11]
        by_cases q : I MO 63 < 16
        · have q' : ¬ (16 : Int32) ≤ I MO 63 := by rw [ti] at q; rw [tl]; omega
          rw [if_pos q]
          simp only [f_Mod_state, f_Mod_in, if_neg (show ¬ (9 : Int32) < 0 by decide), if_neg (show ¬ (9 : Int32) < 9 by decide), Option.bind_some, if_neg (show ¬ (1 : Int32) = 0 by decide), refuse_0, if_true, if_neg (show ¬ (9 : Int32) = 0 by decide), if_neg (show ¬ (9 : Int32) = 1 by decide), if_neg (show ¬ (9 : Int32) = 2 by decide), if_neg (show ¬ (9 : Int32) = 3 by decide), if_neg (show ¬ (9 : Int32) = 4 by decide), if_neg (show ¬ (9 : Int32) = 5 by decide), if_neg (show ¬ (9 : Int32) = 6 by decide), if_neg (show ¬ (9 : Int32) = 7 by decide), if_neg (show ¬ (9 : Int32) = 8 by decide), m0j (show 63 ≠ 0 by decide), if_neg q']
        · have q' : (16 : Int32) ≤ I MO 63 := by rw [ti] at q; rw [tl]; omega
          rw [if_neg q]
          simp only [f_Mod_state, f_Mod_in, if_neg (show ¬ (9 : Int32) < 0 by decide), if_neg (show ¬ (9 : Int32) < 9 by decide), Option.bind_some, if_neg (show ¬ (1 : Int32) = 0 by decide), refuse_0, if_true, if_neg (show ¬ (9 : Int32) = 0 by decide), if_neg (show ¬ (9 : Int32) = 1 by decide), if_neg (show ¬ (9 : Int32) = 2 by decide), if_neg (show ¬ (9 : Int32) = 3 by decide), if_neg (show ¬ (9 : Int32) = 4 by decide), if_neg (show ¬ (9 : Int32) = 5 by decide), if_neg (show ¬ (9 : Int32) = 6 by decide), if_neg (show ¬ (9 : Int32) = 7 by decide), if_neg (show ¬ (9 : Int32) = 8 by decide), m0j (show 63 ≠ 0 by decide), if_pos q']
    obtain ⟨r, e1, e2⟩ := key
    exact Or.inl ⟨0, r, up I MO 0 0, e1, e2, up_self, Rl_thr hP p2 p3 hR⟩
  · have c2' : (9 : Int32) < a0 := ile.mp c2
    refine Or.inr ⟨0, 0, up I MO 0 1, ?_, ?_, up_self, Rl_thr hP p2 p3 hR⟩
    · rw [t_Eng_state, if_neg c1, if_neg c2]; rfl
    · simp only [f_Mod_state, f_Mod_in, if_neg c1, if_pos c2', Option.bind_some, if_true, refuse_1, if_neg (show ¬ (1 : Int32) = 0 by decide)]
