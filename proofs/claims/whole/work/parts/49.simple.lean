/-! calls that only read a machine -/
theorem refuse_1 {y : Int32} {I : IM} : f_Mod_refuse 1 y I = some (1, up I MO 0 1) := by
  simp [f_Mod_refuse, lt, up_self]
theorem refuse_2 {I : IM} : f_Mod_refuse 0 1 I = some (1, up I MO 0 2) := by
  simp [f_Mod_refuse, lt, up_self]
theorem refuse_0 {I : IM} : f_Mod_refuse 0 0 I = some (0, up I MO 0 0) := by
  simp [f_Mod_refuse, lt, up_self]
theorem ile {x y : Int32} : ¬ x ≤ y ↔ y < x := by
  rw [Int32.le_iff_toInt_le, Int32.lt_iff_toInt_lt]
  omega
theorem ilt {x y : Int32} : ¬ x < y ↔ y ≤ x := by
  rw [Int32.le_iff_toInt_le, Int32.lt_iff_toInt_lt]
  omega
theorem i63 {x : Int32} : (63 : Int32) < x ↔ ¬ x < 64 := by
  rw [Int32.lt_iff_toInt_lt, Int32.lt_iff_toInt_lt]
  simp only [Int32.reduceToInt]
  omega
theorem m0 {I : IM} {c : Int32} {a k : Nat} (h : a ≠ MO) : up I MO 0 c a k = I a k := up_o h
theorem m0j {I : IM} {c : Int32} {j : Nat} (h : j ≠ 0) : up I MO 0 c MO j = I MO j := up_ne (Or.inr h)
theorem ma_wordOf {PX : Nat → IM → Prop} (hP : PXF PX) : Ma_wordOf (Rl PX) := by
  intro a0 a1 t ht rl hd ot pt it J I p1 p2 p3 p4 p5 hJ hR
  have hr := hR.2.2.2.2.2.1.1.2.1
  by_cases c1 : a0 < 0
  · refine Or.inr (Or.inl ⟨0, 0, up I MO 0 1, ?_, ?_, up_self, Rl_thr hP p2 p3 hR⟩)
    · rw [t_Eng_wordOf, if_pos c1]; rfl
    · simp [f_Mod_wordOf, f_Mod_isWord, f_Mod_in, c1, chk, b_Mod_wordOf_33, b_Mod_wordOf_34, refuse_1]
  by_cases c2 : a0 < 96
  · have c2' : ¬ (95 : Int32) < a0 := fun q => i95.mp q c2
    have hin : inb a0 96 := inb_of c1 (by rw [Int32.lt_iff_toInt_lt] at c2; exact c2)
    have hk : a0.toNatClampNeg < 96 := by
      have h1 := nat_of c1
      rw [Int32.lt_iff_toInt_lt] at c2
      simp only [Int32.reduceToInt] at c2
      omega
    obtain ⟨e1, e2, e3⟩ := hr _ hk
    by_cases c3 : a1 < 0
    · refine Or.inr (Or.inr ⟨0, 0, up I MO 0 2, ?_, ?_, up_self, Rl_thr hP p2 p3 hR⟩)
      · rw [t_Eng_wordOf, if_neg c1, if_pos c2, if_pos c3]; rfl
      · simp [f_Mod_wordOf, f_Mod_isWord, f_Mod_in, c1, c2', c3, chk, refuse_2]
    by_cases c4 : a1 ≤ 2
    · have c4' : ¬ (2 : Int32) < a1 := fun q => ile.mpr q c4
      refine Or.inl ⟨0, ?_⟩
      by_cases c5 : a1 = 0
      · refine ⟨I (hd + 3) a0.toNatClampNeg, up I MO 0 0, ?_, ?_, up_self, Rl_thr hP p2 p3 hR⟩
        · rw [f_Eng_wordOf, if_neg c1, if_pos c2, if_neg c3, if_pos c4, if_pos c5, chk_i hin]
        · subst c5
          simp only [f_Mod_wordOf, f_Mod_isWord, f_Mod_in, if_neg c1, if_neg c2', Option.bind_some, chk_i (Or.inr rfl : (1 : Int32) = 0 ∨ (1 : Int32) = 1), if_neg (show ¬ (1 : Int32) = 0 by decide), if_neg c3, if_neg c4', refuse_0, if_pos (show (0 : Int32) = 0 from rfl), chk_i hin, b_Mod_wordOf_75, m0 (show A_ints ≠ MO by decide), e1]
          rfl
      by_cases c6 : a1 = 1
      · refine ⟨I (hd + 4) a0.toNatClampNeg, up I MO 0 0, ?_, ?_, up_self, Rl_thr hP p2 p3 hR⟩
        · rw [f_Eng_wordOf, if_neg c1, if_pos c2, if_neg c3, if_pos c4, if_neg c5, if_pos c6, chk_i hin]; rfl
        · simp only [f_Mod_wordOf, f_Mod_isWord, f_Mod_in, if_neg c1, if_neg c2', Option.bind_some, chk_i (Or.inr rfl : (1 : Int32) = 0 ∨ (1 : Int32) = 1), if_neg (show ¬ (1 : Int32) = 0 by decide), if_neg c3, if_neg c4', refuse_0, if_pos (show (0 : Int32) = 0 from rfl), if_neg c5, if_pos c6, chk_i hin, b_Mod_wordOf_75, m0 (show A_held ≠ MO by decide), e2]
          rfl
      · refine ⟨I (hd + 5) a0.toNatClampNeg, up I MO 0 0, ?_, ?_, up_self, Rl_thr hP p2 p3 hR⟩
        · rw [f_Eng_wordOf, if_neg c1, if_pos c2, if_neg c3, if_pos c4, if_neg c5, if_neg c6, chk_i hin]; rfl
        · simp only [f_Mod_wordOf, f_Mod_isWord, f_Mod_in, if_neg c1, if_neg c2', Option.bind_some, chk_i (Or.inr rfl : (1 : Int32) = 0 ∨ (1 : Int32) = 1), if_neg (show ¬ (1 : Int32) = 0 by decide), if_neg c3, if_neg c4', refuse_0, if_pos (show (0 : Int32) = 0 from rfl), if_neg c5, if_neg c6, chk_i hin, b_Mod_wordOf_75, m0 (show A_owners ≠ MO by decide), e3]
          rfl
    · have c4' : (2 : Int32) < a1 := ile.mp c4
      refine Or.inr (Or.inr ⟨0, 0, up I MO 0 2, ?_, ?_, up_self, Rl_thr hP p2 p3 hR⟩)
      · rw [t_Eng_wordOf, if_neg c1, if_pos c2, if_neg c3, if_neg c4]; rfl
      · simp [f_Mod_wordOf, f_Mod_isWord, f_Mod_in, c1, c2', c3, c4', chk, refuse_2]
  · have c2' : (95 : Int32) < a0 := i95.mpr c2
    refine Or.inr (Or.inl ⟨0, 0, up I MO 0 1, ?_, ?_, up_self, Rl_thr hP p2 p3 hR⟩)
    · rw [t_Eng_wordOf, if_neg c1, if_neg c2]; rfl
    · simp [f_Mod_wordOf, f_Mod_isWord, f_Mod_in, c1, c2', chk, b_Mod_wordOf_33, b_Mod_wordOf_34, refuse_1]
