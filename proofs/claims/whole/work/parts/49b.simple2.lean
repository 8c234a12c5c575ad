/-! more calls that only read -/
theorem i8 {x : Int32} : (8 : Int32) < x ↔ ¬ x ≤ 8 := ile.symm
theorem nat_lt {x : Int32} {n : Nat} (h0 : ¬ x < 0) (h : x.toInt < n) : x.toNatClampNeg < n := by
  have := nat_of h0
  omega
theorem ti {x y : Int32} : x < y ↔ x.toInt < y.toInt := Int32.lt_iff_toInt_lt
theorem tl {x y : Int32} : x ≤ y ↔ x.toInt ≤ y.toInt := Int32.le_iff_toInt_le
theorem nneg {x : Int32} (h : ¬ x < 0) : 0 ≤ x.toInt := by
  rw [ti] at h
  simp only [Int32.reduceToInt] at h
  omega
theorem ma_codeOf {PX : Nat → IM → Prop} (hP : PXF PX) : Ma_codeOf (Rl PX) := by
  intro a0 a1 t ht rl hd ot pt it J I p1 p2 p3 p4 p5 hJ hR
  have hr := hR.2.2.2.2.2.1.1.1
  by_cases c1 : a0 < 0
  · refine Or.inr (Or.inl ⟨0, 0, up I MO 0 1, ?_, ?_, up_self, Rl_thr hP p2 p3 hR⟩)
    · rw [t_Eng_codeOf, if_pos c1]; rfl
    · simp [f_Mod_codeOf, f_Mod_in, c1, b_Mod_codeOf_35, b_Mod_codeOf_36, refuse_1]
  by_cases c2 : a0 < 64
  · have c2' : ¬ (63 : Int32) < a0 := fun q => i63.mp q c2
    have hlt : a0.toInt < 64 := by rw [ti] at c2; exact c2
    have hin : inb a0 64 := inb_of c1 hlt
    obtain ⟨e1, e2⟩ := hr _ (nat_lt c1 hlt)
    by_cases c3 : a1 < 0
    · refine Or.inr (Or.inr ⟨0, 0, up I MO 0 2, ?_, ?_, up_self, Rl_thr hP p2 p3 hR⟩)
      · rw [t_Eng_codeOf, if_neg c1, if_pos c2, if_pos c3]; rfl
      · simp [f_Mod_codeOf, f_Mod_in, c1, c2', c3, refuse_2]
    by_cases c4 : a1 ≤ 1
    · have c4' : ¬ (1 : Int32) < a1 := fun q => ile.mpr q c4
      refine Or.inl ⟨0, ?_⟩
      by_cases c5 : a1 = 0
      · refine ⟨I (hd + 1) a0.toNatClampNeg, up I MO 0 0, ?_, ?_, up_self, Rl_thr hP p2 p3 hR⟩
        · rw [f_Eng_codeOf, if_neg c1, if_pos c2, if_neg c3, if_pos c4, if_pos c5, chk_i hin]; rfl
        · simp only [f_Mod_codeOf, f_Mod_in, if_neg c1, if_neg c2', Option.bind_some, chk_i (Or.inr rfl : (1 : Int32) = 0 ∨ (1 : Int32) = 1), if_neg (show ¬ (1 : Int32) = 0 by decide), if_pos (show (0 : Int32) = 0 from rfl), if_true, if_false, if_neg c3, if_neg c4', refuse_0, if_pos c5, chk_i hin, b_Mod_codeOf_63, m0 (show A_code ≠ MO by decide), e1]
          all_goals rfl
      · refine ⟨I (hd + 2) a0.toNatClampNeg, up I MO 0 0, ?_, ?_, up_self, Rl_thr hP p2 p3 hR⟩
        · rw [f_Eng_codeOf, if_neg c1, if_pos c2, if_neg c3, if_pos c4, if_neg c5, chk_i hin]; rfl
        · simp only [f_Mod_codeOf, f_Mod_in, if_neg c1, if_neg c2', Option.bind_some, chk_i (Or.inr rfl : (1 : Int32) = 0 ∨ (1 : Int32) = 1), if_neg (show ¬ (1 : Int32) = 0 by decide), if_pos (show (0 : Int32) = 0 from rfl), if_true, if_false, if_neg c3, if_neg c4', refuse_0, if_neg c5, chk_i hin, b_Mod_codeOf_63, m0 (show A_codeTags ≠ MO by decide), e2]
          all_goals rfl
    · have c4' : (1 : Int32) < a1 := ile.mp c4
      refine Or.inr (Or.inr ⟨0, 0, up I MO 0 2, ?_, ?_, up_self, Rl_thr hP p2 p3 hR⟩)
      · rw [t_Eng_codeOf, if_neg c1, if_pos c2, if_neg c3, if_neg c4]; rfl
      · simp [f_Mod_codeOf, f_Mod_in, c1, c2', c3, c4', refuse_2]
  · have c2' : (63 : Int32) < a0 := i63.mpr c2
    refine Or.inr (Or.inl ⟨0, 0, up I MO 0 1, ?_, ?_, up_self, Rl_thr hP p2 p3 hR⟩)
    · rw [t_Eng_codeOf, if_neg c1, if_neg c2]; rfl
    · simp [f_Mod_codeOf, f_Mod_in, c1, c2', b_Mod_codeOf_35, b_Mod_codeOf_36, refuse_1]
theorem ma_registerOf {PX : Nat → IM → Prop} (hP : PXF PX) : Ma_registerOf (Rl PX) := by
  intro a0 a1 t ht rl hd ot pt it J I p1 p2 p3 p4 p5 hJ hR
  obtain ⟨-, -, hr, h8, h9⟩ := hR.2.2.2.2.2.1.1
  by_cases c1 : a0 < 0
  · refine Or.inr (Or.inl ⟨0, 0, up I MO 0 1, ?_, ?_, up_self, Rl_thr hP p2 p3 hR⟩)
    · rw [t_Eng_registerOf, if_pos c1]; rfl
    · simp [f_Mod_registerOf, f_Mod_in, c1, b_Mod_registerOf_35, b_Mod_registerOf_36, refuse_1]
  by_cases c2 : a0 ≤ 8
  · have c2' : ¬ (8 : Int32) < a0 := fun q => ile.mpr q c2
    have hlt : a0.toInt < 9 := by
      rw [tl] at c2
      simp only [Int32.reduceToInt] at c2
      omega
    have hin : inb a0 9 := inb_of c1 hlt
    by_cases c3 : a1 < 0
    · refine Or.inr (Or.inr ⟨0, 0, up I MO 0 2, ?_, ?_, up_self, Rl_thr hP p2 p3 hR⟩)
      · rw [t_Eng_registerOf, if_neg c1, if_pos c2, if_pos c3]; rfl
      · simp [f_Mod_registerOf, f_Mod_in, c1, c2', c3, refuse_2]
    by_cases c4 : a1 ≤ 1
    · have c4' : ¬ (1 : Int32) < a1 := fun q => ile.mpr q c4
      refine Or.inl ⟨0, ?_⟩
      have hv : ∀ (r : Int32), (if a1 = 0 then I (hd + 6) a0.toNatClampNeg else I (hd + 7) a0.toNatClampNeg) = r → f_Mod_registerOf a0 a1 I = some (r, up I MO 0 0) := by
        intro r hv
        by_cases c8 : a0 = 8
        · have e0 : a0.toNatClampNeg = 8 := by rw [c8]; rfl
          rw [e0, h8, h9] at hv
          rw [← hv]
          by_cases c5 : a1 = 0
          · simp only [f_Mod_registerOf, f_Mod_in, if_neg c1, if_neg c2', Option.bind_some, chk_i (Or.inr rfl : (1 : Int32) = 0 ∨ (1 : Int32) = 1), if_neg (show ¬ (1 : Int32) = 0 by decide), if_pos (show (0 : Int32) = 0 from rfl), if_true, if_false, if_neg c3, if_neg c4', refuse_0, if_pos c8, if_pos c5, m0j (show 42 ≠ 0 by decide)]
            all_goals rfl
          · simp only [f_Mod_registerOf, f_Mod_in, if_neg c1, if_neg c2', Option.bind_some, chk_i (Or.inr rfl : (1 : Int32) = 0 ∨ (1 : Int32) = 1), if_neg (show ¬ (1 : Int32) = 0 by decide), if_pos (show (0 : Int32) = 0 from rfl), if_true, if_false, if_neg c3, if_neg c4', refuse_0, if_pos c8, if_neg c5, m0j (show 43 ≠ 0 by decide)]
            all_goals rfl
        · have hl8 : a0.toInt < 8 := by
            have : a0.toInt ≠ 8 := fun q => c8 (Int32.toInt_inj.mp q)
            omega
          obtain ⟨e1, e2⟩ := hr _ (nat_lt c1 hl8)
          rw [e1, e2] at hv
          rw [← hv]
          by_cases c5 : a1 = 0
          · simp only [f_Mod_registerOf, f_Mod_in, if_neg c1, if_neg c2', Option.bind_some, chk_i (Or.inr rfl : (1 : Int32) = 0 ∨ (1 : Int32) = 1), if_neg (show ¬ (1 : Int32) = 0 by decide), if_pos (show (0 : Int32) = 0 from rfl), if_true, if_false, if_neg c3, if_neg c4', refuse_0, if_neg c8, if_pos c5, chk_i (inb_of c1 hl8 : inb a0 8), b_Mod_registerOf_87, m0 (show A_registers ≠ MO by decide)]
            all_goals rfl
          · simp only [f_Mod_registerOf, f_Mod_in, if_neg c1, if_neg c2', Option.bind_some, chk_i (Or.inr rfl : (1 : Int32) = 0 ∨ (1 : Int32) = 1), if_neg (show ¬ (1 : Int32) = 0 by decide), if_pos (show (0 : Int32) = 0 from rfl), if_true, if_false, if_neg c3, if_neg c4', refuse_0, if_neg c8, if_neg c5, chk_i (inb_of c1 hl8 : inb a0 8), b_Mod_registerOf_87, m0 (show A_registerTags ≠ MO by decide)]
            all_goals rfl
      by_cases c5 : a1 = 0
      · refine ⟨I (hd + 6) a0.toNatClampNeg, up I MO 0 0, ?_, hv _ (if_pos c5), up_self, Rl_thr hP p2 p3 hR⟩
        rw [f_Eng_registerOf, if_neg c1, if_pos c2, if_neg c3, if_pos c4, if_pos c5, chk_i hin]; rfl
      · refine ⟨I (hd + 7) a0.toNatClampNeg, up I MO 0 0, ?_, hv _ (if_neg c5), up_self, Rl_thr hP p2 p3 hR⟩
        rw [f_Eng_registerOf, if_neg c1, if_pos c2, if_neg c3, if_pos c4, if_neg c5, chk_i hin]; rfl
    · have c4' : (1 : Int32) < a1 := ile.mp c4
      refine Or.inr (Or.inr ⟨0, 0, up I MO 0 2, ?_, ?_, up_self, Rl_thr hP p2 p3 hR⟩)
      · rw [t_Eng_registerOf, if_neg c1, if_pos c2, if_neg c3, if_neg c4]; rfl
      · simp [f_Mod_registerOf, f_Mod_in, c1, c2', c3, c4', refuse_2]
  · have c2' : (8 : Int32) < a0 := ile.mp c2
    refine Or.inr (Or.inl ⟨0, 0, up I MO 0 1, ?_, ?_, up_self, Rl_thr hP p2 p3 hR⟩)
    · rw [t_Eng_registerOf, if_neg c1, if_neg c2]; rfl
    · simp [f_Mod_registerOf, f_Mod_in, c1, c2', b_Mod_registerOf_35, b_Mod_registerOf_36, refuse_1]
theorem ma_pairOf {PX : Nat → IM → Prop} (hP : PXF PX) : Ma_pairOf (Rl PX) := by
  intro a0 a1 t ht rl hd ot pt it J I p1 p2 p3 p4 p5 hJ hR
  obtain ⟨b0, b1, hr⟩ := hR.2.2.2.2.2.1.2.2.2.2.1
  have hp : I (hd + 13) 7 = I MO 55 := hR.2.2.2.2.2.1.2.1.2.2.2.2.2.2.2.2.2
  replace b0 : 0 ≤ (I MO 55).toInt := b0
  replace b1 : (I MO 55).toInt ≤ 60 := b1
  have e55 : (I MO 55 - 1).toInt = (I MO 55).toInt - 1 := by
    simp only [Int32.toInt_sub, Int32.reduceToInt, Int.bmod_def]
    split <;> omega
  by_cases c1 : a0 < 0
  · refine Or.inr (Or.inl ⟨0, 0, up I MO 0 1, ?_, ?_, up_self, Rl_thr hP p2 p3 hR⟩)
    · rw [t_Eng_pairOf, if_pos c1]; rfl
    · simp [f_Mod_pairOf, f_Mod_in, c1, b_Mod_pairOf_39, b_Mod_pairOf_40, refuse_1]
  by_cases c2 : a0 < I (hd + 13) (7 : Int32).toNatClampNeg
  · have c2i : a0.toInt < (I MO 55).toInt := by
      rw [ti, show (7 : Int32).toNatClampNeg = 7 from rfl, hp] at c2
      exact c2
    have c2' : ¬ (I MO 55 - 1) < a0 := by
      rw [ti, e55]
      omega
    have hlt : a0.toInt < 60 := by omega
    have hin : inb a0 60 := inb_of c1 hlt
    obtain ⟨e1, e2⟩ := hr a0.toNatClampNeg (by rw [nat_of c1]; exact c2i)
    by_cases c3 : a1 < 0
    · refine Or.inr (Or.inr ⟨0, 0, up I MO 0 2, ?_, ?_, up_self, Rl_thr hP p2 p3 hR⟩)
      · rw [t_Eng_pairOf, if_neg c1, if_pos c2, if_pos c3]; rfl
      · simp only [f_Mod_pairOf, f_Mod_in, if_neg c1, if_neg c2', Option.bind_some, chk_i (Or.inr rfl : (1 : Int32) = 0 ∨ (1 : Int32) = 1), if_neg (show ¬ (1 : Int32) = 0 by decide), if_pos (show (0 : Int32) = 0 from rfl), if_true, if_false, if_pos c3, refuse_2]
    by_cases c4 : a1 ≤ 1
    · have c4' : ¬ (1 : Int32) < a1 := fun q => ile.mpr q c4
      refine Or.inl ⟨0, ?_⟩
      by_cases c5 : a1 = 0
      · refine ⟨I (hd + 11) a0.toNatClampNeg, up I MO 0 0, ?_, ?_, up_self, Rl_thr hP p2 p3 hR⟩
        · rw [f_Eng_pairOf, if_neg c1, if_pos c2, if_neg c3, if_pos c4, if_pos c5, chk_i hin]; rfl
        · simp only [f_Mod_pairOf, f_Mod_in, if_neg c1, if_neg c2', Option.bind_some, chk_i (Or.inr rfl : (1 : Int32) = 0 ∨ (1 : Int32) = 1), if_neg (show ¬ (1 : Int32) = 0 by decide), if_pos (show (0 : Int32) = 0 from rfl), if_true, if_false, if_neg c3, if_neg c4', refuse_0, if_pos c5, chk_i hin, b_Mod_pairOf_67, m0 (show A_firsts ≠ MO by decide), e1]
          all_goals rfl
      · refine ⟨I (hd + 12) a0.toNatClampNeg, up I MO 0 0, ?_, ?_, up_self, Rl_thr hP p2 p3 hR⟩
        · rw [f_Eng_pairOf, if_neg c1, if_pos c2, if_neg c3, if_pos c4, if_neg c5, chk_i hin]; rfl
        · simp only [f_Mod_pairOf, f_Mod_in, if_neg c1, if_neg c2', Option.bind_some, chk_i (Or.inr rfl : (1 : Int32) = 0 ∨ (1 : Int32) = 1), if_neg (show ¬ (1 : Int32) = 0 by decide), if_pos (show (0 : Int32) = 0 from rfl), if_true, if_false, if_neg c3, if_neg c4', refuse_0, if_neg c5, chk_i hin, b_Mod_pairOf_67, m0 (show A_seconds ≠ MO by decide), e2]
          all_goals rfl
    · have c4' : (1 : Int32) < a1 := ile.mp c4
      refine Or.inr (Or.inr ⟨0, 0, up I MO 0 2, ?_, ?_, up_self, Rl_thr hP p2 p3 hR⟩)
      · rw [t_Eng_pairOf, if_neg c1, if_pos c2, if_neg c3, if_neg c4]; rfl
      · simp only [f_Mod_pairOf, f_Mod_in, if_neg c1, if_neg c2', Option.bind_some, chk_i (Or.inr rfl : (1 : Int32) = 0 ∨ (1 : Int32) = 1), if_neg (show ¬ (1 : Int32) = 0 by decide), if_pos (show (0 : Int32) = 0 from rfl), if_true, if_false, if_neg c3, if_pos c4', refuse_2]
  · have c2' : (I MO 55 - 1) < a0 := by
      rw [ti, show (7 : Int32).toNatClampNeg = 7 from rfl, hp] at c2
      rw [ti, e55]
      omega
    refine Or.inr (Or.inl ⟨0, 0, up I MO 0 1, ?_, ?_, up_self, Rl_thr hP p2 p3 hR⟩)
    · rw [t_Eng_pairOf, if_neg c1, if_neg c2]; rfl
    · simp only [f_Mod_pairOf, f_Mod_in, if_neg c1, if_pos c2', Option.bind_some, chk_i (Or.inr rfl : (1 : Int32) = 0 ∨ (1 : Int32) = 1), if_neg (show ¬ (1 : Int32) = 0 by decide), if_pos (show (0 : Int32) = 0 from rfl), if_true, if_false, b_Mod_pairOf_39, b_Mod_pairOf_40, refuse_1]
theorem ma_count {PX : Nat → IM → Prop} (hP : PXF PX) : Ma_count (Rl PX) := by
  intro a0 a1 t ht rl hd ot pt it J I p1 p2 p3 p4 p5 hJ hR
  have hr : ∀ k, k < 88 → I (hd + 14) k = I A_counts k := hR.2.2.2.2.2.1.2.2.2.2.2.1
  by_cases c1 : a0 < 0
  · refine Or.inr ⟨0, 0, up I MO 0 1, ?_, ?_, up_self, Rl_thr hP p2 p3 hR⟩
    · rw [t_Eng_count, if_pos c1]; rfl
    · simp [f_Mod_count, f_Mod_in, c1, b_Mod_count_20, b_Mod_count_25, refuse_1]
  by_cases c2 : (22 : Int32) ≤ a0
  · have c2' : (21 : Int32) < a0 := by
      rw [tl] at c2
      rw [ti]
      simp only [Int32.reduceToInt] at c2 ⊢
      omega
    refine Or.inr ⟨0, 0, up I MO 0 1, ?_, ?_, up_self, Rl_thr hP p2 p3 hR⟩
    · rw [t_Eng_count, if_neg c1, if_pos c2]; rfl
    · simp [f_Mod_count, f_Mod_in, c1, c2', b_Mod_count_20, b_Mod_count_25, refuse_1]
  have c2' : ¬ (21 : Int32) < a0 := by
    rw [tl] at c2
    rw [ti]
    simp only [Int32.reduceToInt] at c2 ⊢
    omega
  by_cases c3 : a1 < 0
  · refine Or.inr ⟨0, 0, up I MO 0 1, ?_, ?_, up_self, Rl_thr hP p2 p3 hR⟩
    · rw [t_Eng_count, if_neg c1, if_neg c2, if_pos c3]; rfl
    · simp [f_Mod_count, f_Mod_in, c1, c2', c3, refuse_1]
  by_cases c4 : a1 < 4
  · have c4' : ¬ (3 : Int32) < a1 := by
      rw [ti] at c4 ⊢
      simp only [Int32.reduceToInt] at c4 ⊢
      omega
    have n1 := nneg c1
    have n3 := nneg c3
    have ee : (4 * a0 + a1 : Int32).toInt = 4 * a0.toInt + a1.toInt := by
      rw [ti] at c4
      rw [tl] at c2
      simp only [Int32.reduceToInt] at c2 c4
      simp only [Int32.toInt_add, Int32.toInt_mul, Int32.reduceToInt, Int.bmod_def]
      (repeat' split) <;> omega
    have e4 : (a0 * 4 + a1 : Int32) = 4 * a0 + a1 := by rw [Int32.mul_comm]
    have hlt : (4 * a0 + a1 : Int32).toInt < 88 := by
      rw [ti] at c4
      rw [tl] at c2
      simp only [Int32.reduceToInt] at c2 c4
      omega
    have h0 : ¬ (4 * a0 + a1 : Int32) < 0 := by
      rw [ti]
      simp only [Int32.reduceToInt]
      omega
    have hin : inb (4 * a0 + a1) 88 := inb_of h0 hlt
    have e1 := hr _ (nat_lt h0 hlt)
    refine Or.inl ⟨0, I (hd + 14) (4 * a0 + a1 : Int32).toNatClampNeg, up I MO 0 0, ?_, ?_, up_self, Rl_thr hP p2 p3 hR⟩
    · rw [f_Eng_count, if_neg c1, if_neg c2, if_neg c3, if_pos c4, e4, chk_i hin]
    · simp only [f_Mod_count, f_Mod_in, if_neg c1, if_neg c2', Option.bind_some, chk_i (Or.inr rfl : (1 : Int32) = 0 ∨ (1 : Int32) = 1), if_neg (show ¬ (1 : Int32) = 0 by decide), if_pos (show (0 : Int32) = 0 from rfl), if_true, if_false, if_neg c3, if_neg c4', refuse_0, chk_i hin, m0 (show A_counts ≠ MO by decide), e1]
      all_goals rfl
  · have c4' : (3 : Int32) < a1 := by
      rw [ti] at c4 ⊢
      simp only [Int32.reduceToInt] at c4 ⊢
      omega
    refine Or.inr ⟨0, 0, up I MO 0 1, ?_, ?_, up_self, Rl_thr hP p2 p3 hR⟩
    · rw [t_Eng_count, if_neg c1, if_neg c2, if_neg c3, if_neg c4]; rfl
    · simp [f_Mod_count, f_Mod_in, c1, c2', c3, c4', refuse_1]
theorem ma_blame {PX : Nat → IM → Prop} (hP : PXF PX) : Ma_blame (Rl PX) := by
  intro t ht rl hd ot pt it J I p1 p2 p3 p4 p5 hJ hR
  have hb : I hd 2 = if I MO 50 = 3 then I MO 66 else -1 := hR.2.2.2.2.2.1.2.2.2.2.2.2.1
  refine ⟨0, I hd 2, up I MO 0 0, rfl, ?_, Rl_thr hP p2 p3 hR⟩
  rw [hb]
  simp only [f_Mod_blame, lt, m0j (show 50 ≠ 0 by decide), m0j (show 66 ≠ 0 by decide)]
theorem ma_witness {PX : Nat → IM → Prop} (hP : PXF PX) : Ma_witness (Rl PX) := by
  intro a0 t ht rl hd ot pt it J I p1 p2 p3 p4 p5 hJ hR
  obtain ⟨w1, w2, w3⟩ := hR.2.2.2.1
  by_cases c1 : a0 < 0
  · refine Or.inr (Or.inl ⟨0, 0, up I MO 0 1, ?_, ?_, up_self, Rl_thr hP p2 p3 hR⟩)
    · rw [t_Eng_witness, if_pos c1]; rfl
    · simp [f_Mod_witness, f_Mod_in, c1, refuse_1]
  by_cases c2 : a0 < 15
  · have c2' : ¬ (14 : Int32) < a0 := by
      rw [ti] at c2 ⊢
      simp only [Int32.reduceToInt] at c2 ⊢
      omega
    have hlt : a0.toInt < 15 := by rw [ti] at c2; exact c2
    have hin : inb a0 15 := inb_of c1 hlt
    by_cases c3 : I 40 0 = 0
    · have c3' : I MO 71 = 0 := by rw [← w1]; exact c3
      refine Or.inr (Or.inr ⟨0, 0, up I MO 0 2, ?_, ?_, up_self, Rl_thr hP p2 p3 hR⟩)
      · rw [t_Eng_witness, if_neg c1, if_pos c2, if_pos c3]
      · simp only [f_Mod_witness, f_Mod_in, if_neg c1, if_neg c2', Option.bind_some, chk_i (Or.inr rfl : (1 : Int32) = 0 ∨ (1 : Int32) = 1), if_neg (show ¬ (1 : Int32) = 0 by decide), if_pos (show (0 : Int32) = 0 from rfl), if_true, if_false, if_pos c3', refuse_2]
    · have c3' : ¬ I MO 71 = 0 := by rw [← w1]; exact c3
      have e1 := w3 (w2.resolve_left c3) _ (nat_lt c1 hlt)
      refine Or.inl ⟨0, I 41 a0.toNatClampNeg, up I MO 0 0, ?_, ?_, up_self, Rl_thr hP p2 p3 hR⟩
      · rw [f_Eng_witness, if_neg c1, if_pos c2, if_neg c3, chk_i hin]
      · simp only [f_Mod_witness, f_Mod_in, if_neg c1, if_neg c2', Option.bind_some, chk_i (Or.inr rfl : (1 : Int32) = 0 ∨ (1 : Int32) = 1), if_neg (show ¬ (1 : Int32) = 0 by decide), if_pos (show (0 : Int32) = 0 from rfl), if_true, if_false, if_neg c3', refuse_0, chk_i hin, m0 (show A_witness ≠ MO by decide), e1]
        all_goals rfl
  · have c2' : (14 : Int32) < a0 := by
      rw [ti] at c2 ⊢
      simp only [Int32.reduceToInt] at c2 ⊢
      omega
    refine Or.inr (Or.inl ⟨0, 0, up I MO 0 1, ?_, ?_, up_self, Rl_thr hP p2 p3 hR⟩)
    · rw [t_Eng_witness, if_neg c1, if_neg c2]; rfl
    · simp [f_Mod_witness, f_Mod_in, c1, c2', refuse_1]
