/-! code, register, input -/
theorem fu {I : IM} {a k b : Nat} {v : Int32} (h : b ≠ a) : up I a k v b = I b := fr_up rfl h
theorem RM_end {t : Nat} {tl : Int32 → Nat → Prop} {I V : IM} {m : Nat} {s : MS} (hv : ag19 V (vw I m)) (hs : agS s (curM I)) (h : RM t tl V 0 s) : RM t tl I m (curM I) := RM_vw.mpr (RM_ag hv (RM_agS hs h))
theorem mch_out {m b : Nat} (h : isMch m) (hb : b = 102 ∨ (119 ≤ b ∧ b < 136)) : b < m ∨ m + 19 ≤ b := by rcases h with rfl | rfl | rfl <;> omega
theorem mch_in {m i : Nat} (h : isMch m) (hi : i < 19) : m + i < 102 := by rcases h with rfl | rfl | rfl <;> omega
theorem RM_code {t : Nat} {tl : Int32 → Nat → Prop} {V : IM} {s : MS} {k : Nat} {v g : Int32} (h : RM t tl V 0 s) : RM (t + 1) tl (up (up V 1 k v) 2 k g) 0 (seA (seA s 0 k v) 1 k g) := by
  obtain ⟨⟨z1, z2, z3, z4, z5⟩, r2, r3, r4, r5, r6, r7, r8, r9⟩ := h
  refine ⟨⟨fun j hj => ?_, ?_, ?_, ?_, ?_⟩, ?_, ?_, ?_, ?_, ?_, ?_, ?_, ?_⟩
  · have := z1 j hj
    simp only [Nat.zero_add] at this
    by_cases e : j = k
    · simp [seA, up_at, e]
    · simp [seA, up_at, e, this]
  · simpa [seA, up_at] using z2
  · simpa [seA, up_at] using z3
  · simpa [seA, up_at] using z4
  · simpa [seA, up_at] using z5
  · simpa [R2, seA, up_at] using r2
  · simpa [R3, seA, up_at] using r3
  · exact R4_c r4 (by funext q; simp [up_at]) rfl rfl
  · simpa [R5, seA, up_at] using r5
  · simpa [R6, seA, up_at] using r6
  · exact R7_c r7 (by simp [up_at]) rfl rfl
  · exact R8_c r8 (by funext q; simp [up_at]) (by funext q; simp [up_at]) rfl rfl rfl rfl
  · exact R9_c r9 (by funext q; simp [up_at]) (by funext q; simp [up_at]) rfl rfl
theorem ma_code {PX : Nat → IM → Prop} (hP : PXF PX) : Ma_code (Rl PX) := by
  intro a0 a1 a2 t ht rl hd ot pt it J I p1 p2 p3 p4 p5 hJ hR
  obtain ⟨d, tx, rc, wi, h69, rm, ro, px⟩ := id hR
  by_cases c1 : a0 < 0
  · refine Or.inr ⟨0, up I MO 0 1, ?_, ?_, up_self, Rl_thr hP p2 p3 hR⟩
    · rw [t_Eng_code, if_pos c1]; rfl
    · simp [f_Mod_code, f_Mod_in, c1, b_Mod_code_37, refuse_1]
  by_cases c2 : a0 < 64
  · have c2' : ¬ (63 : Int32) < a0 := fun q => i63.mp q c2
    have c2'' : ¬ (64 : Int32) ≤ a0 := by rw [ti] at c2; rw [tl]; omega
    have hin : inb a0 64 := inb_of c1 (by rw [ti] at c2; exact c2)
    have n1 := mch_in p2 (show 1 < 19 by decide)
    have n2 := mch_in p2 (show 2 < 19 by decide)
    have n15 := mch_in p2 (show 15 < 19 by decide)
    have n17 := mch_in p2 (show 17 < 19 by decide)
    refine Or.inl ⟨0, up (up I (hd + 1) a0.toNatClampNeg a1) (hd + 2) a0.toNatClampNeg a2, up (up (up (up (up I (hd + 1) a0.toNatClampNeg a1) (hd + 2) a0.toNatClampNeg a2) MO 0 0) A_code a0.toNatClampNeg a1) A_codeTags a0.toNatClampNeg a2, ?_, ?_, ?_, ?_⟩
    · rw [f_Eng_code, if_neg c1, if_pos c2]
      simp only [f_Mch_setCode, if_neg c1, if_neg c2'', Option.bind_some, chk_i hin, lt, b_Mch_setCode_24]
    · simp only [f_Mod_code, f_Mod_in, if_neg c1, if_neg c2', Option.bind_some, if_neg (show ¬ (1 : Int32) = 0 by decide), refuse_0, if_true, chk_i hin, lt, b_Mod_code_37]
    · rw [up_o (by decide), up_o (by decide), up_self]
    · refine Rl_m hP hR p2 p3 (fun b e1 e2 e3 => ?_) (fun j hj => ?_) ?_ ?_
      · rw [fu (by show b ≠ 120; omega), fu (by show b ≠ 119; omega), fu (by show b ≠ 102; omega), fu (by omega), fu (by omega)]
      · rw [fu (by decide), fu (by decide), up_ne (Or.inr (by rintro rfl; revert hj; decide)), fu (by show 102 ≠ hd + 2; omega), fu (by show 102 ≠ hd + 1; omega)]
      · rw [fu (by show hd + 15 ≠ 120; omega), fu (by show hd + 15 ≠ 119; omega), fu (by show hd + 15 ≠ 102; omega), fu (by omega), fu (by omega), fu (by show hd + 17 ≠ 120; omega), fu (by show hd + 17 ≠ 119; omega), fu (by show hd + 17 ≠ 102; omega), fu (by omega), fu (by omega)]
        exact rc hd p2
      · exact RM_end (av_out (mch_out p2 (by decide)) (av_out (mch_out p2 (by decide)) (av_out (mch_out p2 (by decide)) (av_in (av_in ag_refl))))) (cur_ar (j := 1) (by decide) rfl (cur_ar (j := 0) (by decide) rfl (cur_0 (cur_out (Or.inl n2) (cur_out (Or.inl n1) agS_refl))))) (RM_code (RM_vw.mp rm))
  · have c2' : (63 : Int32) < a0 := i63.mpr c2
    refine Or.inr ⟨0, up I MO 0 1, ?_, ?_, up_self, Rl_thr hP p2 p3 hR⟩
    · rw [t_Eng_code, if_neg c1, if_neg c2]; rfl
    · simp [f_Mod_code, f_Mod_in, c1, c2', b_Mod_code_37, refuse_1]
theorem RM_reg {t : Nat} {tl : Int32 → Nat → Prop} {V : IM} {s : MS} {k : Nat} {v g : Int32} (hk : k < 8) (h : RM t tl V 0 s) : RM (t + 1) tl (up (up V 6 k v) 7 k g) 0 (seA (seA s 5 k v) 6 k g) := by
  obtain ⟨⟨z1, z2, z3, z4, z5⟩, r2, r3, r4, r5, r6, r7, r8, r9⟩ := h
  refine ⟨⟨?_, ?_, fun j hj => ?_, ?_, ?_⟩, ?_, ?_, ?_, ?_, ?_, ?_, ?_, ?_⟩
  · simpa [seA, up_at] using z1
  · simpa [seA, up_at] using z2
  · have := z3 j hj
    simp only [Nat.zero_add] at this
    by_cases e : j = k
    · simp [seA, up_at, e]
    · simp [seA, up_at, e, this]
  · simpa [seA, up_at, show ¬ 8 = k by omega] using z4
  · simpa [seA, up_at, show ¬ 8 = k by omega] using z5
  · simpa [R2, seA, up_at] using r2
  · simpa [R3, seA, up_at] using r3
  · exact R4_c r4 (by funext q; simp [up_at]) rfl rfl
  · simpa [R5, seA, up_at] using r5
  · simpa [R6, seA, up_at] using r6
  · exact R7_c r7 (by simp [up_at]) rfl rfl
  · exact R8_c r8 (by funext q; simp [up_at]) (by funext q; simp [up_at]) rfl rfl rfl rfl
  · exact R9_c r9 (by funext q; simp [up_at]) (by funext q; simp [up_at]) rfl rfl
theorem RM_pc {t : Nat} {tl : Int32 → Nat → Prop} {V : IM} {s : MS} {v g : Int32} (h : RM t tl V 0 s) : RM (t + 1) tl (up (up V 6 8 v) 7 8 g) 0 (seS (seS s 1 v) 2 g) := by
  obtain ⟨⟨z1, z2, z3, z4, z5⟩, r2, r3, r4, r5, r6, r7, r8, r9⟩ := h
  refine ⟨⟨?_, ?_, fun j hj => ?_, ?_, ?_⟩, ?_, ?_, ?_, ?_, ?_, ?_, ?_, ?_⟩
  · simpa [seS, upd, up_at] using z1
  · simpa [seS, upd, up_at] using z2
  · have := z3 j hj
    simp only [Nat.zero_add] at this
    simp [seS, upd, up_at, show ¬ j = 8 by omega, this]
  · simp [seS, upd, up_at]
  · simp [seS, upd, up_at]
  · simpa [R2, seS, upd, up_at] using r2
  · simpa [R3, seS, upd, up_at] using r3
  · exact R4_c r4 (by funext q; simp [up_at]) rfl rfl
  · simpa [R5, seS, upd, up_at] using r5
  · simpa [R6, seS, upd, up_at] using r6
  · exact R7_c r7 (by simp [up_at]) rfl rfl
  · exact R8_c r8 (by funext q; simp [up_at]) (by funext q; simp [up_at]) rfl rfl rfl rfl
  · exact R9_c r9 (by funext q; simp [up_at]) (by funext q; simp [up_at]) rfl rfl
theorem ma_register {PX : Nat → IM → Prop} (hP : PXF PX) : Ma_register (Rl PX) := by
  intro a0 a1 a2 t ht rl hd ot pt it J I p1 p2 p3 p4 p5 hJ hR
  obtain ⟨d, tx, rc, wi, h69, rm, ro, px⟩ := id hR
  by_cases c1 : a0 < 0
  · refine Or.inr ⟨0, up I MO 0 1, ?_, ?_, up_self, Rl_thr hP p2 p3 hR⟩
    · rw [t_Eng_register, if_pos c1]; rfl
    · simp [f_Mod_register, f_Mod_in, c1, refuse_1]
  by_cases c2 : a0 ≤ 8
  · have c2' : ¬ (8 : Int32) < a0 := fun q => ile.mpr q c2
    have h9 : a0.toInt < 9 := by
      rw [tl] at c2
      simp only [Int32.reduceToInt] at c2
      omega
    have hin : inb a0 9 := inb_of c1 h9
    have n6 := mch_in p2 (show 6 < 19 by decide)
    have n7 := mch_in p2 (show 7 < 19 by decide)
    have n15 := mch_in p2 (show 15 < 19 by decide)
    have n17 := mch_in p2 (show 17 < 19 by decide)
    have ec : f_Eng_register hd a0 a1 a2 I = some (up (up I (hd + 6) a0.toNatClampNeg a1) (hd + 7) a0.toNatClampNeg a2) := by
      rw [f_Eng_register, if_neg c1, if_pos c2]
      simp only [f_Mch_setRegister, if_neg c1, if_neg c2', Option.bind_some, chk_i hin, lt, b_Mch_setRegister_24]
    by_cases c8 : a0 = 8
    · have e8 : a0.toNatClampNeg = 8 := by rw [c8]; rfl
      refine Or.inl ⟨0, _, up (up (up (up (up I (hd + 6) a0.toNatClampNeg a1) (hd + 7) a0.toNatClampNeg a2) MO 0 0) MO 42 a1) MO 43 a2, ec, ?_, ?_, ?_⟩
      · simp only [f_Mod_register, f_Mod_in, if_neg c1, if_neg c2', Option.bind_some, if_neg (show ¬ (1 : Int32) = 0 by decide), refuse_0, if_true, if_pos c8, lt, b_Mod_register_57]
      · rw [up_ne (Or.inr (by decide)), up_ne (Or.inr (by decide)), up_self]
      · refine Rl_m hP hR p2 p3 (fun b e1 e2 e3 => ?_) (fun j hj => ?_) ?_ ?_
        · rw [fu (by show b ≠ 102; omega), fu (by show b ≠ 102; omega), fu (by show b ≠ 102; omega), fu (by omega), fu (by omega)]
        · rw [up_ne (Or.inr (by rintro rfl; revert hj; decide)), up_ne (Or.inr (by rintro rfl; revert hj; decide)), up_ne (Or.inr (by rintro rfl; revert hj; decide)), fu (by show 102 ≠ hd + 7; omega), fu (by show 102 ≠ hd + 6; omega)]
        · rw [fu (by show hd + 15 ≠ 102; omega), fu (by show hd + 15 ≠ 102; omega), fu (by show hd + 15 ≠ 102; omega), fu (by omega), fu (by omega), fu (by show hd + 17 ≠ 102; omega), fu (by show hd + 17 ≠ 102; omega), fu (by show hd + 17 ≠ 102; omega), fu (by omega), fu (by omega)]
          exact rc hd p2
        · rw [e8]
          exact RM_end (av_out (mch_out p2 (by decide)) (av_out (mch_out p2 (by decide)) (av_out (mch_out p2 (by decide)) (av_in (av_in ag_refl))))) (cur_sc (j := 2) (by decide) rfl (cur_sc (j := 1) (by decide) rfl (cur_0 (cur_out (Or.inl n7) (cur_out (Or.inl n6) agS_refl))))) (RM_pc (RM_vw.mp rm))
    · have h8 : a0.toInt < 8 := by
        have : a0.toInt ≠ 8 := fun q => c8 (Int32.toInt_inj.mp q)
        omega
      have hin8 : inb a0 8 := inb_of c1 h8
      refine Or.inl ⟨0, _, up (up (up (up (up I (hd + 6) a0.toNatClampNeg a1) (hd + 7) a0.toNatClampNeg a2) MO 0 0) A_registers a0.toNatClampNeg a1) A_registerTags a0.toNatClampNeg a2, ec, ?_, ?_, ?_⟩
      · simp only [f_Mod_register, f_Mod_in, if_neg c1, if_neg c2', Option.bind_some, if_neg (show ¬ (1 : Int32) = 0 by decide), refuse_0, if_true, if_neg c8, chk_i hin8, lt, b_Mod_register_57]
      · rw [up_o (by decide), up_o (by decide), up_self]
      · refine Rl_m hP hR p2 p3 (fun b e1 e2 e3 => ?_) (fun j hj => ?_) ?_ ?_
        · rw [fu (by show b ≠ 125; omega), fu (by show b ≠ 124; omega), fu (by show b ≠ 102; omega), fu (by omega), fu (by omega)]
        · rw [fu (by decide), fu (by decide), up_ne (Or.inr (by rintro rfl; revert hj; decide)), fu (by show 102 ≠ hd + 7; omega), fu (by show 102 ≠ hd + 6; omega)]
        · rw [fu (by show hd + 15 ≠ 125; omega), fu (by show hd + 15 ≠ 124; omega), fu (by show hd + 15 ≠ 102; omega), fu (by omega), fu (by omega), fu (by show hd + 17 ≠ 125; omega), fu (by show hd + 17 ≠ 124; omega), fu (by show hd + 17 ≠ 102; omega), fu (by omega), fu (by omega)]
          exact rc hd p2
        · exact RM_end (av_out (mch_out p2 (by decide)) (av_out (mch_out p2 (by decide)) (av_out (mch_out p2 (by decide)) (av_in (av_in ag_refl))))) (cur_ar (j := 6) (by decide) rfl (cur_ar (j := 5) (by decide) rfl (cur_0 (cur_out (Or.inl n7) (cur_out (Or.inl n6) agS_refl))))) (RM_reg (nat_lt c1 h8) (RM_vw.mp rm))
  · have c2' : (8 : Int32) < a0 := ile.mp c2
    refine Or.inr ⟨0, up I MO 0 1, ?_, ?_, up_self, Rl_thr hP p2 p3 hR⟩
    · rw [t_Eng_register, if_neg c1, if_neg c2]; rfl
    · simp [f_Mod_register, f_Mod_in, c1, c2', refuse_1]
