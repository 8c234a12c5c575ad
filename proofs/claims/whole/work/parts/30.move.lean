/-! methods of the reference that its constructor calls, for any number of cells from 141 on; moveAll -/
theorem ob_le {n m a ci : Nat} (h : n ≤ m) (o : Ob n a ci) : Ob m a ci := ⟨Nat.lt_of_lt_of_le o.1 h, o.2⟩
theorem ar_le {n m a len : Nat} {ty : FieldType} (h : n ≤ m) (o : Ar n a ty len) : Ar m a ty len := ⟨Nat.lt_of_lt_of_le o.1 h, o.2⟩
theorem ob1_MO : Ob 141 MO 10 := by decide
theorem ar1_A_signs : Ar 141 A_signs .int 900 := by decide
theorem ar1_A_words : Ar 141 A_words .long 70 := by decide
theorem ar1_A_list : Ar 141 A_list .int 100 := by decide
theorem ar1_A_code0 : Ar 141 A_code0 .int 2000 := by decide
theorem ar1_A_codeValue : Ar 141 A_codeValue .int 2000 := by decide
theorem ar1_A_statementKind : Ar 141 A_statementKind .int 600 := by decide
theorem ar1_A_statementAt : Ar 141 A_statementAt .int 300 := by decide
theorem ar1_A_statementFrom : Ar 141 A_statementFrom .int 600 := by decide
theorem ar1_A_statementTo : Ar 141 A_statementTo .int 600 := by decide
theorem ar1_A_ruleFrom : Ar 141 A_ruleFrom .int 602 := by decide
theorem ar1_A_ruleTo : Ar 141 A_ruleTo .int 602 := by decide
theorem ar1_A_ruleOf : Ar 141 A_ruleOf .int 44 := by decide
theorem ar1_A_named : Ar 141 A_named .int 602 := by decide
theorem ar1_A_pile : Ar 141 A_pile .int 1000 := by decide
theorem ar1_A_pileAt : Ar 141 A_pileAt .int 1000 := by decide
theorem ar1_A_kept : Ar 141 A_kept .int 900 := by decide
theorem ar1_A_code : Ar 141 A_code .int 64 := by decide
theorem ar1_A_codeTags : Ar 141 A_codeTags .int 64 := by decide
theorem ar1_A_ints : Ar 141 A_ints .int 96 := by decide
theorem ar1_A_held : Ar 141 A_held .int 96 := by decide
theorem ar1_A_owners : Ar 141 A_owners .int 96 := by decide
theorem ar1_A_registers : Ar 141 A_registers .int 8 := by decide
theorem ar1_A_registerTags : Ar 141 A_registerTags .int 8 := by decide
theorem ar1_A_inputValues : Ar 141 A_inputValues .int 16 := by decide
theorem ar1_A_inputTags : Ar 141 A_inputTags .int 16 := by decide
theorem ar1_A_output : Ar 141 A_output .int 40 := by decide
theorem ar1_A_firsts : Ar 141 A_firsts .int 60 := by decide
theorem ar1_A_seconds : Ar 141 A_seconds .int 60 := by decide
theorem ar1_A_cache : Ar 141 A_cache .int 128 := by decide
theorem ar1_A_answers : Ar 141 A_answers .int 40 := by decide
theorem ar1_A_question : Ar 141 A_question .int 16 := by decide
theorem ar1_A_entries : Ar 141 A_entries .int 96 := by decide
theorem ar1_A_counts : Ar 141 A_counts .int 88 := by decide
theorem ar1_A_caseValue : Ar 141 A_caseValue .int 15 := by decide
theorem ar1_A_witness : Ar 141 A_witness .int 15 := by decide
theorem ar1_A_scalars : Ar 141 A_scalars .int 16 := by decide
theorem ar1_A_other : Ar 141 A_other .int 996 := by decide
theorem ar1_A_stack : Ar 141 A_stack .int 1000 := by decide
set_option maxRecDepth 20000 in
set_option maxHeartbeats 4000000 in
theorem en_Mod_setUp {nn : Nat} (hnn : 141 ≤ nn) {Δ : Dx} {X : Lx} (hX : MX Δ X) (I : Nat → Nat → Int32) (c : Int32) : EvN Δ 0 m_Mod_setUp nn [.ref (Δ.ba + MO), .int c] (I, X) (none) nn (s_Mod_setUp I c, X) 0 0 := by
  refine ev_of (by decide) (Nat.le_of_ble_eq_true rfl) (fun Γ hk hR hT => ?_)
  unfold s_Mod_setUp at hT
  refine g_aload_n (pc := 0) (dd d_Mod_setUp 0 rfl) rfl ?_
  refine g_iload_n (pc := 1) (dd d_Mod_setUp 1 rfl) rfl ?_
  refine g_putiN (pc := 2) (dd d_Mod_setUp 2 rfl) f_Mod_388 fm_Mod_34 (ob_le hnn ob1_MO) rfl (fun I1 hI1 => ?_)
  refine g_iconst (pc := 5) (v := 0) (dd d_Mod_setUp 3 rfl) (by decide) ?_
  refine g_istore_n (pc := 6) (dd d_Mod_setUp 4 rfl) (by decide) ?_
  suffices K7 : GG Δ m_Mod_setUp Γ nn 0 0 ((lp_Mod_setUp_7 I1 64), X) 33 [some (.ref (Δ.ba + MO)), some (.int (c)), some (.int (nI 64))] [] by
    refine down 64 (P := fun k => GG Δ m_Mod_setUp Γ nn 0 0 ((lp_Mod_setUp_7 I1 k), X) 7 [some (.ref (Δ.ba + MO)), some (.int (c)), some (.int (nI k))] []) ?_ ?_
    · skip
      refine g_iload_n (pc := 7) (dd d_Mod_setUp 5 rfl) rfl ?_
      refine g_bipush (pc := 8) (v := 64) (dd d_Mod_setUp 6 rfl) (by decide) ?_
      refine g_icmpge (pc := 10) (tgt := 33) (dd d_Mod_setUp 7 rfl) (by decide) (fun q1 => ?_) (fun q1 => ?_)
      · have t1 := q1
        try simp only [e1x, e0x, i10, thrP, thrN, Classical.not_not, not_and, not_or, not_true_eq_false, not_false_eq_true, true_and, and_true, and_self, or_false, or_true, false_or, true_or, eq_self] at t1
        exact K7
      · have t1 := q1
        try simp only [e1x, e0x, i10, thrP, thrN, Classical.not_not, not_and, not_or, not_true_eq_false, not_false_eq_true, true_and, and_true, and_self, or_false, or_true, false_or, true_or, eq_self] at t1
        exact absurd (Int32.le_refl _) q1
    · intro k hkn ih
      refine g_iload_n (pc := 7) (dd d_Mod_setUp 5 rfl) rfl ?_
      refine g_bipush (pc := 8) (v := 64) (dd d_Mod_setUp 6 rfl) (by decide) ?_
      refine g_icmpge (pc := 10) (tgt := 33) (dd d_Mod_setUp 7 rfl) (by decide) (fun q2 => ?_) (fun q2 => ?_)
      · have t2 := q2
        try simp only [e1x, e0x, i10, thrP, thrN, Classical.not_not, not_and, not_or, not_true_eq_false, not_false_eq_true, true_and, and_true, and_self, or_false, or_true, false_or, true_or, eq_self] at t2
        exact absurd q2 (nI_ge hkn (by decide))
      · have t2 := q2
        try simp only [e1x, e0x, i10, thrP, thrN, Classical.not_not, not_and, not_or, not_true_eq_false, not_false_eq_true, true_and, and_true, and_self, or_false, or_true, false_or, true_or, eq_self] at t2
        refine g_aload_n (pc := 13) (dd d_Mod_setUp 8 rfl) rfl ?_
        refine g_getr (pc := 14) (dd d_Mod_setUp 9 rfl) f_Mod_59 (ob_le hnn ob1_MO) rfl (mr_code hX) ?_
        refine g_iload_n (pc := 17) (dd d_Mod_setUp 10 rfl) rfl ?_
        refine g_iconst (pc := 18) (v := 0) (dd d_Mod_setUp 11 rfl) (by decide) ?_
        refine g_iastN (pc := 19) (dd d_Mod_setUp 12 rfl) (ar_le hnn ar1_A_code) (by rw [vp_in_iff, nI_toInt (by omega)]; omega) (fun I2 hI2 => ?_)
        refine g_aload_n (pc := 20) (dd d_Mod_setUp 13 rfl) rfl ?_
        refine g_getr (pc := 21) (dd d_Mod_setUp 14 rfl) f_Mod_62 (ob_le hnn ob1_MO) rfl (mr_codeTags hX) ?_
        refine g_iload_n (pc := 24) (dd d_Mod_setUp 15 rfl) rfl ?_
        refine g_iconst (pc := 25) (v := 0) (dd d_Mod_setUp 16 rfl) (by decide) ?_
        refine g_iastN (pc := 26) (dd d_Mod_setUp 17 rfl) (ar_le hnn ar1_A_codeTags) (by rw [vp_in_iff, nI_toInt (by omega)]; omega) (fun I3 hI3 => ?_)
        refine g_iincW (pc := 27) (w := 1) (dd d_Mod_setUp 18 rfl) rfl (by decide) (by decide) ?_
        refine g_goto (pc := 30) (tgt := 7) (dd d_Mod_setUp 19 rfl) (by decide) ?_
        subst hI3 hI2
        exact GG_eq ih rfl (by rw [← nI_1]; rfl) rfl
  obtain ⟨I4, hI4⟩ : ∃ z, z = (lp_Mod_setUp_7 I1 64) := ⟨_, rfl⟩
  rw [← hI4]
  refine g_iconst (pc := 33) (v := 0) (dd d_Mod_setUp 20 rfl) (by decide) ?_
  refine g_istore_n (pc := 34) (dd d_Mod_setUp 21 rfl) (by decide) ?_
  suffices K35 : GG Δ m_Mod_setUp Γ nn 0 0 ((lp_Mod_setUp_35 I4 96), X) 68 [some (.ref (Δ.ba + MO)), some (.int (c)), some (.int (nI 96))] [] by
    refine down 96 (P := fun k => GG Δ m_Mod_setUp Γ nn 0 0 ((lp_Mod_setUp_35 I4 k), X) 35 [some (.ref (Δ.ba + MO)), some (.int (c)), some (.int (nI k))] []) ?_ ?_
    · skip
      refine g_iload_n (pc := 35) (dd d_Mod_setUp 22 rfl) rfl ?_
      refine g_bipush (pc := 36) (v := 96) (dd d_Mod_setUp 23 rfl) (by decide) ?_
      refine g_icmpge (pc := 38) (tgt := 68) (dd d_Mod_setUp 24 rfl) (by decide) (fun q3 => ?_) (fun q3 => ?_)
      · have t3 := q3
        try simp only [e1x, e0x, i10, thrP, thrN, Classical.not_not, not_and, not_or, not_true_eq_false, not_false_eq_true, true_and, and_true, and_self, or_false, or_true, false_or, true_or, eq_self] at t3
        exact K35
      · have t3 := q3
        try simp only [e1x, e0x, i10, thrP, thrN, Classical.not_not, not_and, not_or, not_true_eq_false, not_false_eq_true, true_and, and_true, and_self, or_false, or_true, false_or, true_or, eq_self] at t3
        exact absurd (Int32.le_refl _) q3
    · intro k hkn ih
      refine g_iload_n (pc := 35) (dd d_Mod_setUp 22 rfl) rfl ?_
      refine g_bipush (pc := 36) (v := 96) (dd d_Mod_setUp 23 rfl) (by decide) ?_
      refine g_icmpge (pc := 38) (tgt := 68) (dd d_Mod_setUp 24 rfl) (by decide) (fun q4 => ?_) (fun q4 => ?_)
      · have t4 := q4
        try simp only [e1x, e0x, i10, thrP, thrN, Classical.not_not, not_and, not_or, not_true_eq_false, not_false_eq_true, true_and, and_true, and_self, or_false, or_true, false_or, true_or, eq_self] at t4
        exact absurd q4 (nI_ge hkn (by decide))
      · have t4 := q4
        try simp only [e1x, e0x, i10, thrP, thrN, Classical.not_not, not_and, not_or, not_true_eq_false, not_false_eq_true, true_and, and_true, and_self, or_false, or_true, false_or, true_or, eq_self] at t4
        refine g_aload_n (pc := 41) (dd d_Mod_setUp 25 rfl) rfl ?_
        refine g_getr (pc := 42) (dd d_Mod_setUp 26 rfl) f_Mod_65 (ob_le hnn ob1_MO) rfl (mr_ints hX) ?_
        refine g_iload_n (pc := 45) (dd d_Mod_setUp 27 rfl) rfl ?_
        refine g_iconst (pc := 46) (v := 0) (dd d_Mod_setUp 28 rfl) (by decide) ?_
        refine g_iastN (pc := 47) (dd d_Mod_setUp 29 rfl) (ar_le hnn ar1_A_ints) (by rw [vp_in_iff, nI_toInt (by omega)]; omega) (fun I5 hI5 => ?_)
        refine g_aload_n (pc := 48) (dd d_Mod_setUp 30 rfl) rfl ?_
        refine g_getr (pc := 49) (dd d_Mod_setUp 31 rfl) f_Mod_68 (ob_le hnn ob1_MO) rfl (mr_held hX) ?_
        refine g_iload_n (pc := 52) (dd d_Mod_setUp 32 rfl) rfl ?_
        refine g_iconst (pc := 53) (v := 0) (dd d_Mod_setUp 33 rfl) (by decide) ?_
        refine g_iastN (pc := 54) (dd d_Mod_setUp 34 rfl) (ar_le hnn ar1_A_held) (by rw [vp_in_iff, nI_toInt (by omega)]; omega) (fun I6 hI6 => ?_)
        refine g_aload_n (pc := 55) (dd d_Mod_setUp 35 rfl) rfl ?_
        refine g_getr (pc := 56) (dd d_Mod_setUp 36 rfl) f_Mod_71 (ob_le hnn ob1_MO) rfl (mr_owners hX) ?_
        refine g_iload_n (pc := 59) (dd d_Mod_setUp 37 rfl) rfl ?_
        refine g_iconst (pc := 60) (v := 0) (dd d_Mod_setUp 38 rfl) (by decide) ?_
        refine g_iastN (pc := 61) (dd d_Mod_setUp 39 rfl) (ar_le hnn ar1_A_owners) (by rw [vp_in_iff, nI_toInt (by omega)]; omega) (fun I7 hI7 => ?_)
        refine g_iincW (pc := 62) (w := 1) (dd d_Mod_setUp 40 rfl) rfl (by decide) (by decide) ?_
        refine g_goto (pc := 65) (tgt := 35) (dd d_Mod_setUp 41 rfl) (by decide) ?_
        subst hI7 hI6 hI5
        exact GG_eq ih rfl (by rw [← nI_1]; rfl) rfl
  obtain ⟨I8, hI8⟩ : ∃ z, z = (lp_Mod_setUp_35 I4 96) := ⟨_, rfl⟩
  rw [← hI8]
  refine g_iconst (pc := 68) (v := 0) (dd d_Mod_setUp 42 rfl) (by decide) ?_
  refine g_istore_n (pc := 69) (dd d_Mod_setUp 43 rfl) (by decide) ?_
  suffices K70 : GG Δ m_Mod_setUp Γ nn 0 0 ((lp_Mod_setUp_70 I8 8), X) 96 [some (.ref (Δ.ba + MO)), some (.int (c)), some (.int (nI 8))] [] by
    refine down 8 (P := fun k => GG Δ m_Mod_setUp Γ nn 0 0 ((lp_Mod_setUp_70 I8 k), X) 70 [some (.ref (Δ.ba + MO)), some (.int (c)), some (.int (nI k))] []) ?_ ?_
    · skip
      refine g_iload_n (pc := 70) (dd d_Mod_setUp 44 rfl) rfl ?_
      refine g_bipush (pc := 71) (v := 8) (dd d_Mod_setUp 45 rfl) (by decide) ?_
      refine g_icmpge (pc := 73) (tgt := 96) (dd d_Mod_setUp 46 rfl) (by decide) (fun q5 => ?_) (fun q5 => ?_)
      · have t5 := q5
        try simp only [e1x, e0x, i10, thrP, thrN, Classical.not_not, not_and, not_or, not_true_eq_false, not_false_eq_true, true_and, and_true, and_self, or_false, or_true, false_or, true_or, eq_self] at t5
        exact K70
      · have t5 := q5
        try simp only [e1x, e0x, i10, thrP, thrN, Classical.not_not, not_and, not_or, not_true_eq_false, not_false_eq_true, true_and, and_true, and_self, or_false, or_true, false_or, true_or, eq_self] at t5
        exact absurd (Int32.le_refl _) q5
    · intro k hkn ih
      refine g_iload_n (pc := 70) (dd d_Mod_setUp 44 rfl) rfl ?_
      refine g_bipush (pc := 71) (v := 8) (dd d_Mod_setUp 45 rfl) (by decide) ?_
      refine g_icmpge (pc := 73) (tgt := 96) (dd d_Mod_setUp 46 rfl) (by decide) (fun q6 => ?_) (fun q6 => ?_)
      · have t6 := q6
        try simp only [e1x, e0x, i10, thrP, thrN, Classical.not_not, not_and, not_or, not_true_eq_false, not_false_eq_true, true_and, and_true, and_self, or_false, or_true, false_or, true_or, eq_self] at t6
        exact absurd q6 (nI_ge hkn (by decide))
      · have t6 := q6
        try simp only [e1x, e0x, i10, thrP, thrN, Classical.not_not, not_and, not_or, not_true_eq_false, not_false_eq_true, true_and, and_true, and_self, or_false, or_true, false_or, true_or, eq_self] at t6
        refine g_aload_n (pc := 76) (dd d_Mod_setUp 47 rfl) rfl ?_
        refine g_getr (pc := 77) (dd d_Mod_setUp 48 rfl) f_Mod_74 (ob_le hnn ob1_MO) rfl (mr_registers hX) ?_
        refine g_iload_n (pc := 80) (dd d_Mod_setUp 49 rfl) rfl ?_
        refine g_iconst (pc := 81) (v := 0) (dd d_Mod_setUp 50 rfl) (by decide) ?_
        refine g_iastN (pc := 82) (dd d_Mod_setUp 51 rfl) (ar_le hnn ar1_A_registers) (by rw [vp_in_iff, nI_toInt (by omega)]; omega) (fun I9 hI9 => ?_)
        refine g_aload_n (pc := 83) (dd d_Mod_setUp 52 rfl) rfl ?_
        refine g_getr (pc := 84) (dd d_Mod_setUp 53 rfl) f_Mod_77 (ob_le hnn ob1_MO) rfl (mr_registerTags hX) ?_
        refine g_iload_n (pc := 87) (dd d_Mod_setUp 54 rfl) rfl ?_
        refine g_iconst (pc := 88) (v := 0) (dd d_Mod_setUp 55 rfl) (by decide) ?_
        refine g_iastN (pc := 89) (dd d_Mod_setUp 56 rfl) (ar_le hnn ar1_A_registerTags) (by rw [vp_in_iff, nI_toInt (by omega)]; omega) (fun I10 hI10 => ?_)
        refine g_iincW (pc := 90) (w := 1) (dd d_Mod_setUp 57 rfl) rfl (by decide) (by decide) ?_
        refine g_goto (pc := 93) (tgt := 70) (dd d_Mod_setUp 58 rfl) (by decide) ?_
        subst hI10 hI9
        exact GG_eq ih rfl (by rw [← nI_1]; rfl) rfl
  obtain ⟨I11, hI11⟩ : ∃ z, z = (lp_Mod_setUp_70 I8 8) := ⟨_, rfl⟩
  rw [← hI11]
  refine g_aload_n (pc := 96) (dd d_Mod_setUp 59 rfl) rfl ?_
  refine g_iconst (pc := 97) (v := 0) (dd d_Mod_setUp_1 0 rfl) (by decide) ?_
  refine g_putiN (pc := 98) (dd d_Mod_setUp_1 1 rfl) f_Mod_391 fm_Mod_42 (ob_le hnn ob1_MO) rfl (fun I12 hI12 => ?_)
  refine g_aload_n (pc := 101) (dd d_Mod_setUp_1 2 rfl) rfl ?_
  refine g_iconst (pc := 102) (v := 0) (dd d_Mod_setUp_1 3 rfl) (by decide) ?_
  refine g_putiN (pc := 103) (dd d_Mod_setUp_1 4 rfl) f_Mod_394 fm_Mod_43 (ob_le hnn ob1_MO) rfl (fun I13 hI13 => ?_)
  refine g_aload_n (pc := 106) (dd d_Mod_setUp_1 5 rfl) rfl ?_
  refine g_iconst (pc := 107) (v := (-1)) (dd d_Mod_setUp_1 6 rfl) (by decide) ?_
  refine g_putiN (pc := 108) (dd d_Mod_setUp_1 7 rfl) f_Mod_397 fm_Mod_44 (ob_le hnn ob1_MO) rfl (fun I14 hI14 => ?_)
  refine g_aload_n (pc := 111) (dd d_Mod_setUp_1 8 rfl) rfl ?_
  refine g_iconst (pc := 112) (v := 0) (dd d_Mod_setUp_1 9 rfl) (by decide) ?_
  refine g_putiN (pc := 113) (dd d_Mod_setUp_1 10 rfl) f_Mod_400 fm_Mod_45 (ob_le hnn ob1_MO) rfl (fun I15 hI15 => ?_)
  refine g_aload_n (pc := 116) (dd d_Mod_setUp_1 11 rfl) rfl ?_
  refine g_iconst (pc := 117) (v := 0) (dd d_Mod_setUp_1 12 rfl) (by decide) ?_
  refine g_putiN (pc := 118) (dd d_Mod_setUp_1 13 rfl) f_Mod_403 fm_Mod_48 (ob_le hnn ob1_MO) rfl (fun I16 hI16 => ?_)
  refine g_aload_n (pc := 121) (dd d_Mod_setUp_1 14 rfl) rfl ?_
  refine g_iconst (pc := 122) (v := 0) (dd d_Mod_setUp_1 15 rfl) (by decide) ?_
  refine g_putiN (pc := 123) (dd d_Mod_setUp_1 16 rfl) f_Mod_406 fm_Mod_50 (ob_le hnn ob1_MO) rfl (fun I17 hI17 => ?_)
  refine g_aload_n (pc := 126) (dd d_Mod_setUp_1 17 rfl) rfl ?_
  refine g_iconst (pc := 127) (v := 0) (dd d_Mod_setUp_1 18 rfl) (by decide) ?_
  refine g_putiN (pc := 128) (dd d_Mod_setUp_1 19 rfl) f_Mod_409 fm_Mod_51 (ob_le hnn ob1_MO) rfl (fun I18 hI18 => ?_)
  refine g_aload_n (pc := 131) (dd d_Mod_setUp_1 20 rfl) rfl ?_
  refine g_iconst (pc := 132) (v := 0) (dd d_Mod_setUp_1 21 rfl) (by decide) ?_
  refine g_putiN (pc := 133) (dd d_Mod_setUp_1 22 rfl) f_Mod_412 fm_Mod_52 (ob_le hnn ob1_MO) rfl (fun I19 hI19 => ?_)
  refine g_aload_n (pc := 136) (dd d_Mod_setUp_1 23 rfl) rfl ?_
  refine g_iconst (pc := 137) (v := 0) (dd d_Mod_setUp_1 24 rfl) (by decide) ?_
  refine g_putiN (pc := 138) (dd d_Mod_setUp_1 25 rfl) f_Mod_382 fm_Mod_53 (ob_le hnn ob1_MO) rfl (fun I20 hI20 => ?_)
  refine g_aload_n (pc := 141) (dd d_Mod_setUp_1 26 rfl) rfl ?_
  refine g_iconst (pc := 142) (v := 0) (dd d_Mod_setUp_1 27 rfl) (by decide) ?_
  refine g_putiN (pc := 143) (dd d_Mod_setUp_1 28 rfl) f_Mod_385 fm_Mod_54 (ob_le hnn ob1_MO) rfl (fun I21 hI21 => ?_)
  refine g_aload_n (pc := 146) (dd d_Mod_setUp_1 29 rfl) rfl ?_
  refine g_iconst (pc := 147) (v := 0) (dd d_Mod_setUp_1 30 rfl) (by decide) ?_
  refine g_putiN (pc := 148) (dd d_Mod_setUp_1 31 rfl) f_Mod_415 fm_Mod_55 (ob_le hnn ob1_MO) rfl (fun I22 hI22 => ?_)
  refine g_aload_n (pc := 151) (dd d_Mod_setUp_1 32 rfl) rfl ?_
  refine g_iconst (pc := 152) (v := 0) (dd d_Mod_setUp_1 33 rfl) (by decide) ?_
  refine g_putiN (pc := 153) (dd d_Mod_setUp_1 34 rfl) f_Mod_376 fm_Mod_58 (ob_le hnn ob1_MO) rfl (fun I23 hI23 => ?_)
  refine g_aload_n (pc := 156) (dd d_Mod_setUp_1 35 rfl) rfl ?_
  refine g_iconst (pc := 157) (v := 0) (dd d_Mod_setUp_1 36 rfl) (by decide) ?_
  refine g_putiN (pc := 158) (dd d_Mod_setUp_1 37 rfl) f_Mod_379 fm_Mod_59 (ob_le hnn ob1_MO) rfl (fun I24 hI24 => ?_)
  refine g_aload_n (pc := 161) (dd d_Mod_setUp_1 38 rfl) rfl ?_
  refine g_iconst (pc := 162) (v := 0) (dd d_Mod_setUp_1 39 rfl) (by decide) ?_
  refine g_putiN (pc := 163) (dd d_Mod_setUp_1 40 rfl) f_Mod_418 fm_Mod_63 (ob_le hnn ob1_MO) rfl (fun I25 hI25 => ?_)
  refine g_aload_n (pc := 166) (dd d_Mod_setUp_1 41 rfl) rfl ?_
  refine g_iconst (pc := 167) (v := (-1)) (dd d_Mod_setUp_1 42 rfl) (by decide) ?_
  refine g_putiN (pc := 168) (dd d_Mod_setUp_1 43 rfl) f_Mod_110 fm_Mod_66 (ob_le hnn ob1_MO) rfl (fun I26 hI26 => ?_)
  refine g_iconst (pc := 171) (v := 0) (dd d_Mod_setUp_1 44 rfl) (by decide) ?_
  refine g_istore_n (pc := 172) (dd d_Mod_setUp_1 45 rfl) (by decide) ?_
  suffices K173 : GG Δ m_Mod_setUp Γ nn 0 0 ((lp_Mod_setUp_173 I26 88), X) 192 [some (.ref (Δ.ba + MO)), some (.int (c)), some (.int (nI 88))] [] by
    refine down 88 (P := fun k => GG Δ m_Mod_setUp Γ nn 0 0 ((lp_Mod_setUp_173 I26 k), X) 173 [some (.ref (Δ.ba + MO)), some (.int (c)), some (.int (nI k))] []) ?_ ?_
    · skip
      refine g_iload_n (pc := 173) (dd d_Mod_setUp_1 46 rfl) rfl ?_
      refine g_bipush (pc := 174) (v := 88) (dd d_Mod_setUp_1 47 rfl) (by decide) ?_
      refine g_icmpge (pc := 176) (tgt := 192) (dd d_Mod_setUp_1 48 rfl) (by decide) (fun q7 => ?_) (fun q7 => ?_)
      · have t7 := q7
        try simp only [e1x, e0x, i10, thrP, thrN, Classical.not_not, not_and, not_or, not_true_eq_false, not_false_eq_true, true_and, and_true, and_self, or_false, or_true, false_or, true_or, eq_self] at t7
        exact K173
      · have t7 := q7
        try simp only [e1x, e0x, i10, thrP, thrN, Classical.not_not, not_and, not_or, not_true_eq_false, not_false_eq_true, true_and, and_true, and_self, or_false, or_true, false_or, true_or, eq_self] at t7
        exact absurd (Int32.le_refl _) q7
    · intro k hkn ih
      refine g_iload_n (pc := 173) (dd d_Mod_setUp_1 46 rfl) rfl ?_
      refine g_bipush (pc := 174) (v := 88) (dd d_Mod_setUp_1 47 rfl) (by decide) ?_
      refine g_icmpge (pc := 176) (tgt := 192) (dd d_Mod_setUp_1 48 rfl) (by decide) (fun q8 => ?_) (fun q8 => ?_)
      · have t8 := q8
        try simp only [e1x, e0x, i10, thrP, thrN, Classical.not_not, not_and, not_or, not_true_eq_false, not_false_eq_true, true_and, and_true, and_self, or_false, or_true, false_or, true_or, eq_self] at t8
        exact absurd q8 (nI_ge hkn (by decide))
      · have t8 := q8
        try simp only [e1x, e0x, i10, thrP, thrN, Classical.not_not, not_and, not_or, not_true_eq_false, not_false_eq_true, true_and, and_true, and_self, or_false, or_true, false_or, true_or, eq_self] at t8
        refine g_aload_n (pc := 179) (dd d_Mod_setUp_1 49 rfl) rfl ?_
        refine g_getr (pc := 180) (dd d_Mod_setUp_1 50 rfl) f_Mod_107 (ob_le hnn ob1_MO) rfl (mr_counts hX) ?_
        refine g_iload_n (pc := 183) (dd d_Mod_setUp_1 51 rfl) rfl ?_
        refine g_iconst (pc := 184) (v := 0) (dd d_Mod_setUp_1 52 rfl) (by decide) ?_
        refine g_iastN (pc := 185) (dd d_Mod_setUp_1 53 rfl) (ar_le hnn ar1_A_counts) (by rw [vp_in_iff, nI_toInt (by omega)]; omega) (fun I27 hI27 => ?_)
        refine g_iincW (pc := 186) (w := 1) (dd d_Mod_setUp_1 54 rfl) rfl (by decide) (by decide) ?_
        refine g_goto (pc := 189) (tgt := 173) (dd d_Mod_setUp_1 55 rfl) (by decide) ?_
        subst hI27
        exact GG_eq ih rfl (by rw [← nI_1]; rfl) rfl
  obtain ⟨I28, hI28⟩ : ∃ z, z = (lp_Mod_setUp_173 I26 88) := ⟨_, rfl⟩
  rw [← hI28]
  subst hI28 hI26 hI25 hI24 hI23 hI22 hI21 hI20 hI19 hI18 hI17 hI16 hI15 hI14 hI13 hI12 hI11 hI8 hI4 hI1
  exact g_vret (pc := 192) rfl (dd d_Mod_setUp_1 56 rfl) hT
set_option maxRecDepth 20000 in
set_option maxHeartbeats 4000000 in
theorem en_Mod_moveRow {nn : Nat} (hnn : 141 ≤ nn) {Δ : Dx} {X : Lx} (hX : MX Δ X) (I : Nat → Nat → Int32) (w : Nat) (m : Int32) (f : Int32) (o : Int32) (n : Nat) (g : Nat) (hm : m = nI n) (hf : f = nI g) (hg : g + n ≤ 996) (hn : n ≤ 128) (ar_w : Ar nn w .int n) : EvN Δ 0 m_Mod_moveRow nn [.ref (Δ.ba + MO), .ref (Δ.ba + w), .int m, .int f, .int o] (I, X) (none) nn (s_Mod_moveRow I w m f o n g, X) 0 0 := by
  refine ev_of (by decide) (Nat.le_of_ble_eq_true rfl) (fun Γ hk hR hT => ?_)
  unfold s_Mod_moveRow at hT
  refine g_iconst (pc := 0) (v := 0) (dd d_Mod_moveRow 0 rfl) (by decide) ?_
  refine g_istore (pc := 1) (dd d_Mod_moveRow 1 rfl) (by decide) ?_
  refine g_drop [6] ?_
  suffices K3 : GG Δ m_Mod_moveRow Γ nn 0 0 ((lp_Mod_moveRow_3 w f o I n), X) 57 [some (.ref (Δ.ba + MO)), some (.ref (Δ.ba + w)), some (.int (m)), some (.int (f)), some (.int (o)), some (.int (nI n)), none] [] by
    refine down n (P := fun k => GG Δ m_Mod_moveRow Γ nn 0 0 ((lp_Mod_moveRow_3 w f o I k), X) 3 [some (.ref (Δ.ba + MO)), some (.ref (Δ.ba + w)), some (.int (m)), some (.int (f)), some (.int (o)), some (.int (nI k)), none] []) ?_ ?_
    · skip
      refine g_iload (pc := 3) (dd d_Mod_moveRow 2 rfl) rfl ?_
      refine g_iload_n (pc := 5) (dd d_Mod_moveRow 3 rfl) rfl ?_
      refine g_icmpge (pc := 6) (tgt := 57) (dd d_Mod_moveRow 4 rfl) (by decide) (fun q1 => ?_) (fun q1 => ?_)
      · have t1 := q1
        try simp only [e1x, e0x, i10, thrP, thrN, Classical.not_not, not_and, not_or, not_true_eq_false, not_false_eq_true, true_and, and_true, and_self, or_false, or_true, false_or, true_or, eq_self] at t1
        exact K3
      · have t1 := q1
        try simp only [e1x, e0x, i10, thrP, thrN, Classical.not_not, not_and, not_or, not_true_eq_false, not_false_eq_true, true_and, and_true, and_self, or_false, or_true, false_or, true_or, eq_self] at t1
        exact absurd (show m ≤ nI n by rw [hm]; exact Int32.le_refl _) q1
    · intro k hkn ih
      refine g_iload (pc := 3) (dd d_Mod_moveRow 2 rfl) rfl ?_
      refine g_iload_n (pc := 5) (dd d_Mod_moveRow 3 rfl) rfl ?_
      refine g_icmpge (pc := 6) (tgt := 57) (dd d_Mod_moveRow 4 rfl) (by decide) (fun q2 => ?_) (fun q2 => ?_)
      · have t2 := q2
        try simp only [e1x, e0x, i10, thrP, thrN, Classical.not_not, not_and, not_or, not_true_eq_false, not_false_eq_true, true_and, and_true, and_self, or_false, or_true, false_or, true_or, eq_self] at t2
        exact absurd q2 (show ¬ m ≤ nI k by rw [hm]; exact nI_ge hkn (by omega))
      · have t2 := q2
        try simp only [e1x, e0x, i10, thrP, thrN, Classical.not_not, not_and, not_or, not_true_eq_false, not_false_eq_true, true_and, and_true, and_self, or_false, or_true, false_or, true_or, eq_self] at t2
        refine g_aload_n (pc := 9) (dd d_Mod_moveRow 5 rfl) rfl ?_
        refine g_getr (pc := 10) (dd d_Mod_moveRow 6 rfl) f_Mod_126 (ob_le hnn ob1_MO) rfl (mr_other hX) ?_
        refine g_iload_n (pc := 13) (dd d_Mod_moveRow 7 rfl) rfl ?_
        refine g_iload (pc := 14) (dd d_Mod_moveRow 8 rfl) rfl ?_
        refine g_iadd (pc := 16) (dd d_Mod_moveRow 9 rfl) ?_
        refine g_iald (pc := 17) (dd d_Mod_moveRow 10 rfl) (ar_le hnn ar1_A_other) (by rw [hf, nI_add, vp_in_iff, nI_toInt (by omega)]; omega) ?_
        refine g_istore (pc := 18) (dd d_Mod_moveRow 11 rfl) (by decide) ?_
        refine g_aload_n (pc := 20) (dd d_Mod_moveRow 12 rfl) rfl ?_
        refine g_getr (pc := 21) (dd d_Mod_moveRow 13 rfl) f_Mod_126 (ob_le hnn ob1_MO) rfl (mr_other hX) ?_
        refine g_iload_n (pc := 24) (dd d_Mod_moveRow 14 rfl) rfl ?_
        refine g_iload (pc := 25) (dd d_Mod_moveRow 15 rfl) rfl ?_
        refine g_iadd (pc := 27) (dd d_Mod_moveRow 16 rfl) ?_
        refine g_aload_n (pc := 28) (dd d_Mod_moveRow 17 rfl) rfl ?_
        refine g_iload (pc := 29) (dd d_Mod_moveRow 18 rfl) rfl ?_
        refine g_iald (pc := 31) (dd d_Mod_moveRow 19 rfl) ar_w (by rw [vp_in_iff, nI_toInt (by omega)]; omega) ?_
        refine g_iastN (pc := 32) (dd d_Mod_moveRow 20 rfl) (ar_le hnn ar1_A_other) (by rw [hf, nI_add, vp_in_iff, nI_toInt (by omega)]; omega) (fun I1 hI1 => ?_)
        refine g_aload_n (pc := 33) (dd d_Mod_moveRow 21 rfl) rfl ?_
        refine g_iload (pc := 34) (dd d_Mod_moveRow 22 rfl) rfl ?_
        refine g_iload (pc := 36) (dd d_Mod_moveRow 23 rfl) rfl ?_
        suffices K38 : GG Δ m_Mod_moveRow Γ nn 0 0 (I1, X) 50 [some (.ref (Δ.ba + MO)), some (.ref (Δ.ba + w)), some (.int (m)), some (.int (f)), some (.int (o)), some (.int (nI k)), some (.int (((lp_Mod_moveRow_3 w f o I k)) A_other ((f) + (nI k) : Int32).toNatClampNeg))] [.int (if o = 0 then (I1 w (nI k : Int32).toNatClampNeg) else (((lp_Mod_moveRow_3 w f o I k)) A_other ((f) + (nI k) : Int32).toNatClampNeg)), .int (nI k), .ref (Δ.ba + w)] by
          refine g_ifeq (pc := 38) (tgt := 46) (dd d_Mod_moveRow 24 rfl) (by decide) (fun q3 => ?_) (fun q3 => ?_)
          · have t3 := q3
            try simp only [e1x, e0x, i10, thrP, thrN, Classical.not_not, not_and, not_or, not_true_eq_false, not_false_eq_true, true_and, and_true, and_self, or_false, or_true, false_or, true_or, eq_self] at t3
            refine g_aload_n (pc := 46) (dd d_Mod_moveRow 27 rfl) rfl ?_
            refine g_iload (pc := 47) (dd d_Mod_moveRow 28 rfl) rfl ?_
            refine g_iald (pc := 49) (dd d_Mod_moveRow 29 rfl) ar_w (by rw [vp_in_iff, nI_toInt (by omega)]; omega) ?_
            simp only [if_pos q3] at K38 ⊢
            exact K38
          · have t3 := q3
            try simp only [e1x, e0x, i10, thrP, thrN, Classical.not_not, not_and, not_or, not_true_eq_false, not_false_eq_true, true_and, and_true, and_self, or_false, or_true, false_or, true_or, eq_self] at t3
            refine g_iload (pc := 41) (dd d_Mod_moveRow 25 rfl) rfl ?_
            refine g_goto (pc := 43) (tgt := 50) (dd d_Mod_moveRow 26 rfl) (by decide) ?_
            simp only [if_neg q3] at K38 ⊢
            exact K38
        refine g_iastN (pc := 50) (dd d_Mod_moveRow 30 rfl) ar_w (by rw [vp_in_iff, nI_toInt (by omega)]; omega) (fun I2 hI2 => ?_)
        refine g_iincW (pc := 51) (w := 1) (dd d_Mod_moveRow 31 rfl) rfl (by decide) (by decide) ?_
        refine g_goto (pc := 54) (tgt := 3) (dd d_Mod_moveRow 32 rfl) (by decide) ?_
        refine g_drop [6] ?_
        subst hI2 hI1
        exact GG_eq ih rfl (by rw [← nI_1]; rfl) rfl
  obtain ⟨I3, hI3⟩ : ∃ z, z = (lp_Mod_moveRow_3 w f o I n) := ⟨_, rfl⟩
  rw [← hI3]
  subst hI3
  exact g_vret (pc := 57) rfl (dd d_Mod_moveRow 33 rfl) hT
def mv_1 (I : Nat → Nat → Int32) (o : Int32) : Nat → Nat → Int32 := up I A_scalars 0 (I MO 34)
def mv_2 (I : Nat → Nat → Int32) (o : Int32) : Nat → Nat → Int32 := up I A_scalars 1 (I MO 42)
def mv_3 (I : Nat → Nat → Int32) (o : Int32) : Nat → Nat → Int32 := up I A_scalars 2 (I MO 43)
def mv_4 (I : Nat → Nat → Int32) (o : Int32) : Nat → Nat → Int32 := up I A_scalars 3 (I MO 44)
def mv_5 (I : Nat → Nat → Int32) (o : Int32) : Nat → Nat → Int32 := up I A_scalars 4 (I MO 45)
def mv_6 (I : Nat → Nat → Int32) (o : Int32) : Nat → Nat → Int32 := up I A_scalars 5 (I MO 48)
def mv_7 (I : Nat → Nat → Int32) (o : Int32) : Nat → Nat → Int32 := up I A_scalars 6 (I MO 50)
def mv_8 (I : Nat → Nat → Int32) (o : Int32) : Nat → Nat → Int32 := up I A_scalars 7 (I MO 51)
def mv_9 (I : Nat → Nat → Int32) (o : Int32) : Nat → Nat → Int32 := up I A_scalars 8 (I MO 52)
def mv_10 (I : Nat → Nat → Int32) (o : Int32) : Nat → Nat → Int32 := up I A_scalars 9 (I MO 53)
def mv_11 (I : Nat → Nat → Int32) (o : Int32) : Nat → Nat → Int32 := up I A_scalars 10 (I MO 54)
def mv_12 (I : Nat → Nat → Int32) (o : Int32) : Nat → Nat → Int32 := up I A_scalars 11 (I MO 55)
def mv_13 (I : Nat → Nat → Int32) (o : Int32) : Nat → Nat → Int32 := up I A_scalars 12 (I MO 58)
def mv_14 (I : Nat → Nat → Int32) (o : Int32) : Nat → Nat → Int32 := up I A_scalars 13 (I MO 59)
def mv_15 (I : Nat → Nat → Int32) (o : Int32) : Nat → Nat → Int32 := up I A_scalars 14 (I MO 63)
def mv_16 (I : Nat → Nat → Int32) (o : Int32) : Nat → Nat → Int32 := up I A_scalars 15 (I MO 66)
def mv_17 (I : Nat → Nat → Int32) (o : Int32) : Nat → Nat → Int32 := s_Mod_moveRow I A_scalars 16 0 o 16 0
def mv_18 (I : Nat → Nat → Int32) (o : Int32) : Nat → Nat → Int32 := up I MO 34 (I A_scalars 0)
def mv_19 (I : Nat → Nat → Int32) (o : Int32) : Nat → Nat → Int32 := up I MO 42 (I A_scalars 1)
def mv_20 (I : Nat → Nat → Int32) (o : Int32) : Nat → Nat → Int32 := up I MO 43 (I A_scalars 2)
def mv_21 (I : Nat → Nat → Int32) (o : Int32) : Nat → Nat → Int32 := up I MO 44 (I A_scalars 3)
def mv_22 (I : Nat → Nat → Int32) (o : Int32) : Nat → Nat → Int32 := up I MO 45 (I A_scalars 4)
def mv_23 (I : Nat → Nat → Int32) (o : Int32) : Nat → Nat → Int32 := up I MO 48 (I A_scalars 5)
def mv_24 (I : Nat → Nat → Int32) (o : Int32) : Nat → Nat → Int32 := up I MO 50 (I A_scalars 6)
def mv_25 (I : Nat → Nat → Int32) (o : Int32) : Nat → Nat → Int32 := up I MO 51 (I A_scalars 7)
def mv_26 (I : Nat → Nat → Int32) (o : Int32) : Nat → Nat → Int32 := up I MO 52 (I A_scalars 8)
def mv_27 (I : Nat → Nat → Int32) (o : Int32) : Nat → Nat → Int32 := up I MO 53 (I A_scalars 9)
def mv_28 (I : Nat → Nat → Int32) (o : Int32) : Nat → Nat → Int32 := up I MO 54 (I A_scalars 10)
def mv_29 (I : Nat → Nat → Int32) (o : Int32) : Nat → Nat → Int32 := up I MO 55 (I A_scalars 11)
def mv_30 (I : Nat → Nat → Int32) (o : Int32) : Nat → Nat → Int32 := up I MO 58 (I A_scalars 12)
def mv_31 (I : Nat → Nat → Int32) (o : Int32) : Nat → Nat → Int32 := up I MO 59 (I A_scalars 13)
def mv_32 (I : Nat → Nat → Int32) (o : Int32) : Nat → Nat → Int32 := up I MO 63 (I A_scalars 14)
def mv_33 (I : Nat → Nat → Int32) (o : Int32) : Nat → Nat → Int32 := up I MO 66 (I A_scalars 15)
def mv_34 (I : Nat → Nat → Int32) (o : Int32) : Nat → Nat → Int32 := s_Mod_moveRow I A_code 64 20 o 64 20
def mv_35 (I : Nat → Nat → Int32) (o : Int32) : Nat → Nat → Int32 := s_Mod_moveRow I A_codeTags 64 84 o 64 84
def mv_36 (I : Nat → Nat → Int32) (o : Int32) : Nat → Nat → Int32 := s_Mod_moveRow I A_ints 96 148 o 96 148
def mv_37 (I : Nat → Nat → Int32) (o : Int32) : Nat → Nat → Int32 := s_Mod_moveRow I A_held 96 244 o 96 244
def mv_38 (I : Nat → Nat → Int32) (o : Int32) : Nat → Nat → Int32 := s_Mod_moveRow I A_owners 96 340 o 96 340
def mv_39 (I : Nat → Nat → Int32) (o : Int32) : Nat → Nat → Int32 := s_Mod_moveRow I A_registers 8 436 o 8 436
def mv_40 (I : Nat → Nat → Int32) (o : Int32) : Nat → Nat → Int32 := s_Mod_moveRow I A_registerTags 8 444 o 8 444
def mv_41 (I : Nat → Nat → Int32) (o : Int32) : Nat → Nat → Int32 := s_Mod_moveRow I A_inputValues 16 452 o 16 452
def mv_42 (I : Nat → Nat → Int32) (o : Int32) : Nat → Nat → Int32 := s_Mod_moveRow I A_inputTags 16 468 o 16 468
def mv_43 (I : Nat → Nat → Int32) (o : Int32) : Nat → Nat → Int32 := s_Mod_moveRow I A_output 40 484 o 40 484
def mv_44 (I : Nat → Nat → Int32) (o : Int32) : Nat → Nat → Int32 := s_Mod_moveRow I A_firsts 60 524 o 60 524
def mv_45 (I : Nat → Nat → Int32) (o : Int32) : Nat → Nat → Int32 := s_Mod_moveRow I A_seconds 60 584 o 60 584
def mv_46 (I : Nat → Nat → Int32) (o : Int32) : Nat → Nat → Int32 := s_Mod_moveRow I A_cache 128 644 o 128 644
def mv_47 (I : Nat → Nat → Int32) (o : Int32) : Nat → Nat → Int32 := s_Mod_moveRow I A_answers 40 772 o 40 772
def mv_48 (I : Nat → Nat → Int32) (o : Int32) : Nat → Nat → Int32 := s_Mod_moveRow I A_entries 96 812 o 96 812
def mv_49 (I : Nat → Nat → Int32) (o : Int32) : Nat → Nat → Int32 := s_Mod_moveRow I A_counts 88 908 o 88 908
def s_Mod_moveAll (I : Nat → Nat → Int32) (o : Int32) : Nat → Nat → Int32 := mv_49 (mv_48 (mv_47 (mv_46 (mv_45 (mv_44 (mv_43 (mv_42 (mv_41 (mv_40 (mv_39 (mv_38 (mv_37 (mv_36 (mv_35 (mv_34 (mv_33 (mv_32 (mv_31 (mv_30 (mv_29 (mv_28 (mv_27 (mv_26 (mv_25 (mv_24 (mv_23 (mv_22 (mv_21 (mv_20 (mv_19 (mv_18 (mv_17 (mv_16 (mv_15 (mv_14 (mv_13 (mv_12 (mv_11 (mv_10 (mv_9 (mv_8 (mv_7 (mv_6 (mv_5 (mv_4 (mv_3 (mv_2 (mv_1 I o) o) o) o) o) o) o) o) o) o) o) o) o) o) o) o) o) o) o) o) o) o) o) o) o) o) o) o) o) o) o) o) o) o) o) o) o) o) o) o) o) o) o) o) o) o) o) o) o
set_option maxRecDepth 20000 in
set_option maxHeartbeats 4000000 in
theorem en_Mod_moveAll {nn : Nat} (hnn : 141 ≤ nn) {Δ : Dx} {X : Lx} (hX : MX Δ X) (I : Nat → Nat → Int32) (o : Int32) : EvN Δ 1 m_Mod_moveAll nn [.ref (Δ.ba + MO), .int o] (I, X) none nn (s_Mod_moveAll I o, X) 0 0 := by
  refine ev_of (by decide) (Nat.le_of_ble_eq_true rfl) (fun Γ hk hR hT => ?_)
  refine g_aload_n (pc := 0) (dd d_Mod_moveAll 0 rfl) rfl ?_
  refine g_getr (pc := 1) (dd d_Mod_moveAll 1 rfl) f_Mod_123 (ob_le hnn ob1_MO) rfl (mr_scalars hX) ?_
  refine g_iconst (pc := 4) (v := 0) (dd d_Mod_moveAll 2 rfl) (by decide) ?_
  refine g_aload_n (pc := 5) (dd d_Mod_moveAll 3 rfl) rfl ?_
  refine g_geti (pc := 6) (dd d_Mod_moveAll 4 rfl) f_Mod_388 (ob_le hnn ob1_MO) rfl ?_
  refine g_iastN (pc := 9) (dd d_Mod_moveAll 5 rfl) (ar_le hnn ar1_A_scalars) (by rw [vp_in_iff]; decide) (fun I1 h1 => ?_)
  replace h1 : I1 = mv_1 I o := h1
  refine g_aload_n (pc := 10) (dd d_Mod_moveAll 6 rfl) rfl ?_
  refine g_getr (pc := 11) (dd d_Mod_moveAll 7 rfl) f_Mod_123 (ob_le hnn ob1_MO) rfl (mr_scalars hX) ?_
  refine g_iconst (pc := 14) (v := 1) (dd d_Mod_moveAll 8 rfl) (by decide) ?_
  refine g_aload_n (pc := 15) (dd d_Mod_moveAll 9 rfl) rfl ?_
  refine g_geti (pc := 16) (dd d_Mod_moveAll 10 rfl) f_Mod_391 (ob_le hnn ob1_MO) rfl ?_
  refine g_iastN (pc := 19) (dd d_Mod_moveAll 11 rfl) (ar_le hnn ar1_A_scalars) (by rw [vp_in_iff]; decide) (fun I2 h2 => ?_)
  replace h2 : I2 = mv_2 I1 o := h2
  refine g_aload_n (pc := 20) (dd d_Mod_moveAll 12 rfl) rfl ?_
  refine g_getr (pc := 21) (dd d_Mod_moveAll 13 rfl) f_Mod_123 (ob_le hnn ob1_MO) rfl (mr_scalars hX) ?_
  refine g_iconst (pc := 24) (v := 2) (dd d_Mod_moveAll 14 rfl) (by decide) ?_
  refine g_aload_n (pc := 25) (dd d_Mod_moveAll 15 rfl) rfl ?_
  refine g_geti (pc := 26) (dd d_Mod_moveAll 16 rfl) f_Mod_394 (ob_le hnn ob1_MO) rfl ?_
  refine g_iastN (pc := 29) (dd d_Mod_moveAll 17 rfl) (ar_le hnn ar1_A_scalars) (by rw [vp_in_iff]; decide) (fun I3 h3 => ?_)
  replace h3 : I3 = mv_3 I2 o := h3
  refine g_aload_n (pc := 30) (dd d_Mod_moveAll 18 rfl) rfl ?_
  refine g_getr (pc := 31) (dd d_Mod_moveAll 19 rfl) f_Mod_123 (ob_le hnn ob1_MO) rfl (mr_scalars hX) ?_
  refine g_iconst (pc := 34) (v := 3) (dd d_Mod_moveAll 20 rfl) (by decide) ?_
  refine g_aload_n (pc := 35) (dd d_Mod_moveAll 21 rfl) rfl ?_
  refine g_geti (pc := 36) (dd d_Mod_moveAll 22 rfl) f_Mod_397 (ob_le hnn ob1_MO) rfl ?_
  refine g_iastN (pc := 39) (dd d_Mod_moveAll 23 rfl) (ar_le hnn ar1_A_scalars) (by rw [vp_in_iff]; decide) (fun I4 h4 => ?_)
  replace h4 : I4 = mv_4 I3 o := h4
  refine g_aload_n (pc := 40) (dd d_Mod_moveAll 24 rfl) rfl ?_
  refine g_getr (pc := 41) (dd d_Mod_moveAll 25 rfl) f_Mod_123 (ob_le hnn ob1_MO) rfl (mr_scalars hX) ?_
  refine g_iconst (pc := 44) (v := 4) (dd d_Mod_moveAll 26 rfl) (by decide) ?_
  refine g_aload_n (pc := 45) (dd d_Mod_moveAll 27 rfl) rfl ?_
  refine g_geti (pc := 46) (dd d_Mod_moveAll 28 rfl) f_Mod_400 (ob_le hnn ob1_MO) rfl ?_
  refine g_iastN (pc := 49) (dd d_Mod_moveAll 29 rfl) (ar_le hnn ar1_A_scalars) (by rw [vp_in_iff]; decide) (fun I5 h5 => ?_)
  replace h5 : I5 = mv_5 I4 o := h5
  refine g_aload_n (pc := 50) (dd d_Mod_moveAll 30 rfl) rfl ?_
  refine g_getr (pc := 51) (dd d_Mod_moveAll 31 rfl) f_Mod_123 (ob_le hnn ob1_MO) rfl (mr_scalars hX) ?_
  refine g_iconst (pc := 54) (v := 5) (dd d_Mod_moveAll 32 rfl) (by decide) ?_
  refine g_aload_n (pc := 55) (dd d_Mod_moveAll 33 rfl) rfl ?_
  refine g_geti (pc := 56) (dd d_Mod_moveAll 34 rfl) f_Mod_403 (ob_le hnn ob1_MO) rfl ?_
  refine g_iastN (pc := 59) (dd d_Mod_moveAll 35 rfl) (ar_le hnn ar1_A_scalars) (by rw [vp_in_iff]; decide) (fun I6 h6 => ?_)
  replace h6 : I6 = mv_6 I5 o := h6
  refine g_aload_n (pc := 60) (dd d_Mod_moveAll 36 rfl) rfl ?_
  refine g_getr (pc := 61) (dd d_Mod_moveAll 37 rfl) f_Mod_123 (ob_le hnn ob1_MO) rfl (mr_scalars hX) ?_
  refine g_bipush (pc := 64) (v := 6) (dd d_Mod_moveAll 38 rfl) (by decide) ?_
  refine g_aload_n (pc := 66) (dd d_Mod_moveAll 39 rfl) rfl ?_
  refine g_geti (pc := 67) (dd d_Mod_moveAll 40 rfl) f_Mod_406 (ob_le hnn ob1_MO) rfl ?_
  refine g_iastN (pc := 70) (dd d_Mod_moveAll 41 rfl) (ar_le hnn ar1_A_scalars) (by rw [vp_in_iff]; decide) (fun I7 h7 => ?_)
  replace h7 : I7 = mv_7 I6 o := h7
  refine g_aload_n (pc := 71) (dd d_Mod_moveAll 42 rfl) rfl ?_
  refine g_getr (pc := 72) (dd d_Mod_moveAll 43 rfl) f_Mod_123 (ob_le hnn ob1_MO) rfl (mr_scalars hX) ?_
  refine g_bipush (pc := 75) (v := 7) (dd d_Mod_moveAll 44 rfl) (by decide) ?_
  refine g_aload_n (pc := 77) (dd d_Mod_moveAll 45 rfl) rfl ?_
  refine g_geti (pc := 78) (dd d_Mod_moveAll 46 rfl) f_Mod_409 (ob_le hnn ob1_MO) rfl ?_
  refine g_iastN (pc := 81) (dd d_Mod_moveAll 47 rfl) (ar_le hnn ar1_A_scalars) (by rw [vp_in_iff]; decide) (fun I8 h8 => ?_)
  replace h8 : I8 = mv_8 I7 o := h8
  refine g_aload_n (pc := 82) (dd d_Mod_moveAll 48 rfl) rfl ?_
  refine g_getr (pc := 83) (dd d_Mod_moveAll 49 rfl) f_Mod_123 (ob_le hnn ob1_MO) rfl (mr_scalars hX) ?_
  refine g_bipush (pc := 86) (v := 8) (dd d_Mod_moveAll 50 rfl) (by decide) ?_
  refine g_aload_n (pc := 88) (dd d_Mod_moveAll 51 rfl) rfl ?_
  refine g_geti (pc := 89) (dd d_Mod_moveAll 52 rfl) f_Mod_412 (ob_le hnn ob1_MO) rfl ?_
  refine g_iastN (pc := 92) (dd d_Mod_moveAll 53 rfl) (ar_le hnn ar1_A_scalars) (by rw [vp_in_iff]; decide) (fun I9 h9 => ?_)
  replace h9 : I9 = mv_9 I8 o := h9
  refine g_aload_n (pc := 93) (dd d_Mod_moveAll 54 rfl) rfl ?_
  refine g_getr (pc := 94) (dd d_Mod_moveAll 55 rfl) f_Mod_123 (ob_le hnn ob1_MO) rfl (mr_scalars hX) ?_
  refine g_bipush (pc := 97) (v := 9) (dd d_Mod_moveAll 56 rfl) (by decide) ?_
  refine g_aload_n (pc := 99) (dd d_Mod_moveAll 57 rfl) rfl ?_
  refine g_geti (pc := 100) (dd d_Mod_moveAll 58 rfl) f_Mod_382 (ob_le hnn ob1_MO) rfl ?_
  refine g_iastN (pc := 103) (dd d_Mod_moveAll 59 rfl) (ar_le hnn ar1_A_scalars) (by rw [vp_in_iff]; decide) (fun I10 h10 => ?_)
  replace h10 : I10 = mv_10 I9 o := h10
  refine g_aload_n (pc := 104) (dd d_Mod_moveAll_1 0 rfl) rfl ?_
  refine g_getr (pc := 105) (dd d_Mod_moveAll_1 1 rfl) f_Mod_123 (ob_le hnn ob1_MO) rfl (mr_scalars hX) ?_
  refine g_bipush (pc := 108) (v := 10) (dd d_Mod_moveAll_1 2 rfl) (by decide) ?_
  refine g_aload_n (pc := 110) (dd d_Mod_moveAll_1 3 rfl) rfl ?_
  refine g_geti (pc := 111) (dd d_Mod_moveAll_1 4 rfl) f_Mod_385 (ob_le hnn ob1_MO) rfl ?_
  refine g_iastN (pc := 114) (dd d_Mod_moveAll_1 5 rfl) (ar_le hnn ar1_A_scalars) (by rw [vp_in_iff]; decide) (fun I11 h11 => ?_)
  replace h11 : I11 = mv_11 I10 o := h11
  refine g_aload_n (pc := 115) (dd d_Mod_moveAll_1 6 rfl) rfl ?_
  refine g_getr (pc := 116) (dd d_Mod_moveAll_1 7 rfl) f_Mod_123 (ob_le hnn ob1_MO) rfl (mr_scalars hX) ?_
  refine g_bipush (pc := 119) (v := 11) (dd d_Mod_moveAll_1 8 rfl) (by decide) ?_
  refine g_aload_n (pc := 121) (dd d_Mod_moveAll_1 9 rfl) rfl ?_
  refine g_geti (pc := 122) (dd d_Mod_moveAll_1 10 rfl) f_Mod_415 (ob_le hnn ob1_MO) rfl ?_
  refine g_iastN (pc := 125) (dd d_Mod_moveAll_1 11 rfl) (ar_le hnn ar1_A_scalars) (by rw [vp_in_iff]; decide) (fun I12 h12 => ?_)
  replace h12 : I12 = mv_12 I11 o := h12
  refine g_aload_n (pc := 126) (dd d_Mod_moveAll_1 12 rfl) rfl ?_
  refine g_getr (pc := 127) (dd d_Mod_moveAll_1 13 rfl) f_Mod_123 (ob_le hnn ob1_MO) rfl (mr_scalars hX) ?_
  refine g_bipush (pc := 130) (v := 12) (dd d_Mod_moveAll_1 14 rfl) (by decide) ?_
  refine g_aload_n (pc := 132) (dd d_Mod_moveAll_1 15 rfl) rfl ?_
  refine g_geti (pc := 133) (dd d_Mod_moveAll_1 16 rfl) f_Mod_376 (ob_le hnn ob1_MO) rfl ?_
  refine g_iastN (pc := 136) (dd d_Mod_moveAll_1 17 rfl) (ar_le hnn ar1_A_scalars) (by rw [vp_in_iff]; decide) (fun I13 h13 => ?_)
  replace h13 : I13 = mv_13 I12 o := h13
  refine g_aload_n (pc := 137) (dd d_Mod_moveAll_1 18 rfl) rfl ?_
  refine g_getr (pc := 138) (dd d_Mod_moveAll_1 19 rfl) f_Mod_123 (ob_le hnn ob1_MO) rfl (mr_scalars hX) ?_
  refine g_bipush (pc := 141) (v := 13) (dd d_Mod_moveAll_1 20 rfl) (by decide) ?_
  refine g_aload_n (pc := 143) (dd d_Mod_moveAll_1 21 rfl) rfl ?_
  refine g_geti (pc := 144) (dd d_Mod_moveAll_1 22 rfl) f_Mod_379 (ob_le hnn ob1_MO) rfl ?_
  refine g_iastN (pc := 147) (dd d_Mod_moveAll_1 23 rfl) (ar_le hnn ar1_A_scalars) (by rw [vp_in_iff]; decide) (fun I14 h14 => ?_)
  replace h14 : I14 = mv_14 I13 o := h14
  refine g_aload_n (pc := 148) (dd d_Mod_moveAll_1 24 rfl) rfl ?_
  refine g_getr (pc := 149) (dd d_Mod_moveAll_1 25 rfl) f_Mod_123 (ob_le hnn ob1_MO) rfl (mr_scalars hX) ?_
  refine g_bipush (pc := 152) (v := 14) (dd d_Mod_moveAll_1 26 rfl) (by decide) ?_
  refine g_aload_n (pc := 154) (dd d_Mod_moveAll_1 27 rfl) rfl ?_
  refine g_geti (pc := 155) (dd d_Mod_moveAll_1 28 rfl) f_Mod_418 (ob_le hnn ob1_MO) rfl ?_
  refine g_iastN (pc := 158) (dd d_Mod_moveAll_1 29 rfl) (ar_le hnn ar1_A_scalars) (by rw [vp_in_iff]; decide) (fun I15 h15 => ?_)
  replace h15 : I15 = mv_15 I14 o := h15
  refine g_aload_n (pc := 159) (dd d_Mod_moveAll_1 30 rfl) rfl ?_
  refine g_getr (pc := 160) (dd d_Mod_moveAll_1 31 rfl) f_Mod_123 (ob_le hnn ob1_MO) rfl (mr_scalars hX) ?_
  refine g_bipush (pc := 163) (v := 15) (dd d_Mod_moveAll_1 32 rfl) (by decide) ?_
  refine g_aload_n (pc := 165) (dd d_Mod_moveAll_1 33 rfl) rfl ?_
  refine g_geti (pc := 166) (dd d_Mod_moveAll_1 34 rfl) f_Mod_110 (ob_le hnn ob1_MO) rfl ?_
  refine g_iastN (pc := 169) (dd d_Mod_moveAll_1 35 rfl) (ar_le hnn ar1_A_scalars) (by rw [vp_in_iff]; decide) (fun I16 h16 => ?_)
  replace h16 : I16 = mv_16 I15 o := h16
  refine g_aload_n (pc := 170) (dd d_Mod_moveAll_1 36 rfl) rfl ?_
  refine g_aload_n (pc := 171) (dd d_Mod_moveAll_1 37 rfl) rfl ?_
  refine g_getr (pc := 172) (dd d_Mod_moveAll_1 38 rfl) f_Mod_123 (ob_le hnn ob1_MO) rfl (mr_scalars hX) ?_
  refine g_bipush (pc := 175) (v := 16) (dd d_Mod_moveAll_1 39 rfl) (by decide) ?_
  refine g_iconst (pc := 177) (v := 0) (dd d_Mod_moveAll_1 40 rfl) (by decide) ?_
  refine g_iload_n (pc := 178) (dd d_Mod_moveAll_1 41 rfl) rfl ?_
  refine g_callV (pc := 179) (dd d_Mod_moveAll_1 42 rfl) v_Mod_612 (ob_le hnn ob1_MO) rfl (en_Mod_moveRow hnn hX I16 A_scalars 16 0 o 16 0 rfl rfl (by decide) (by decide) (ar_le hnn ar1_A_scalars)) rfl (by rw [hk]; decide) (Nat.le_of_ble_eq_true rfl) ⟨Nat.zero_le _, Nat.zero_le _⟩ rfl ?_
  obtain ⟨I17, h17⟩ : ∃ z, z = mv_17 I16 o := ⟨_, rfl⟩
  rw [show s_Mod_moveRow I16 A_scalars 16 0 o 16 0 = I17 from h17.symm]
  refine g_aload_n (pc := 182) (dd d_Mod_moveAll_1 43 rfl) rfl ?_
  refine g_aload_n (pc := 183) (dd d_Mod_moveAll_1 44 rfl) rfl ?_
  refine g_getr (pc := 184) (dd d_Mod_moveAll_1 45 rfl) f_Mod_123 (ob_le hnn ob1_MO) rfl (mr_scalars hX) ?_
  refine g_iconst (pc := 187) (v := 0) (dd d_Mod_moveAll_1 46 rfl) (by decide) ?_
  refine g_iald (pc := 188) (dd d_Mod_moveAll_1 47 rfl) (ar_le hnn ar1_A_scalars) (by rw [vp_in_iff]; decide) ?_
  refine g_putiN (pc := 189) (dd d_Mod_moveAll_1 48 rfl) f_Mod_388 fm_Mod_34 (ob_le hnn ob1_MO) rfl (fun I18 h18 => ?_)
  replace h18 : I18 = mv_18 I17 o := h18
  refine g_aload_n (pc := 192) (dd d_Mod_moveAll_1 49 rfl) rfl ?_
  refine g_aload_n (pc := 193) (dd d_Mod_moveAll_1 50 rfl) rfl ?_
  refine g_getr (pc := 194) (dd d_Mod_moveAll_1 51 rfl) f_Mod_123 (ob_le hnn ob1_MO) rfl (mr_scalars hX) ?_
  refine g_iconst (pc := 197) (v := 1) (dd d_Mod_moveAll_1 52 rfl) (by decide) ?_
  refine g_iald (pc := 198) (dd d_Mod_moveAll_1 53 rfl) (ar_le hnn ar1_A_scalars) (by rw [vp_in_iff]; decide) ?_
  refine g_putiN (pc := 199) (dd d_Mod_moveAll_1 54 rfl) f_Mod_391 fm_Mod_42 (ob_le hnn ob1_MO) rfl (fun I19 h19 => ?_)
  replace h19 : I19 = mv_19 I18 o := h19
  refine g_aload_n (pc := 202) (dd d_Mod_moveAll_1 55 rfl) rfl ?_
  refine g_aload_n (pc := 203) (dd d_Mod_moveAll_1 56 rfl) rfl ?_
  refine g_getr (pc := 204) (dd d_Mod_moveAll_1 57 rfl) f_Mod_123 (ob_le hnn ob1_MO) rfl (mr_scalars hX) ?_
  refine g_iconst (pc := 207) (v := 2) (dd d_Mod_moveAll_1 58 rfl) (by decide) ?_
  refine g_iald (pc := 208) (dd d_Mod_moveAll_1 59 rfl) (ar_le hnn ar1_A_scalars) (by rw [vp_in_iff]; decide) ?_
  refine g_putiN (pc := 209) (dd d_Mod_moveAll_2 0 rfl) f_Mod_394 fm_Mod_43 (ob_le hnn ob1_MO) rfl (fun I20 h20 => ?_)
  replace h20 : I20 = mv_20 I19 o := h20
  refine g_aload_n (pc := 212) (dd d_Mod_moveAll_2 1 rfl) rfl ?_
  refine g_aload_n (pc := 213) (dd d_Mod_moveAll_2 2 rfl) rfl ?_
  refine g_getr (pc := 214) (dd d_Mod_moveAll_2 3 rfl) f_Mod_123 (ob_le hnn ob1_MO) rfl (mr_scalars hX) ?_
  refine g_iconst (pc := 217) (v := 3) (dd d_Mod_moveAll_2 4 rfl) (by decide) ?_
  refine g_iald (pc := 218) (dd d_Mod_moveAll_2 5 rfl) (ar_le hnn ar1_A_scalars) (by rw [vp_in_iff]; decide) ?_
  refine g_putiN (pc := 219) (dd d_Mod_moveAll_2 6 rfl) f_Mod_397 fm_Mod_44 (ob_le hnn ob1_MO) rfl (fun I21 h21 => ?_)
  replace h21 : I21 = mv_21 I20 o := h21
  refine g_aload_n (pc := 222) (dd d_Mod_moveAll_2 7 rfl) rfl ?_
  refine g_aload_n (pc := 223) (dd d_Mod_moveAll_2 8 rfl) rfl ?_
  refine g_getr (pc := 224) (dd d_Mod_moveAll_2 9 rfl) f_Mod_123 (ob_le hnn ob1_MO) rfl (mr_scalars hX) ?_
  refine g_iconst (pc := 227) (v := 4) (dd d_Mod_moveAll_2 10 rfl) (by decide) ?_
  refine g_iald (pc := 228) (dd d_Mod_moveAll_2 11 rfl) (ar_le hnn ar1_A_scalars) (by rw [vp_in_iff]; decide) ?_
  refine g_putiN (pc := 229) (dd d_Mod_moveAll_2 12 rfl) f_Mod_400 fm_Mod_45 (ob_le hnn ob1_MO) rfl (fun I22 h22 => ?_)
  replace h22 : I22 = mv_22 I21 o := h22
  refine g_aload_n (pc := 232) (dd d_Mod_moveAll_2 13 rfl) rfl ?_
  refine g_aload_n (pc := 233) (dd d_Mod_moveAll_2 14 rfl) rfl ?_
  refine g_getr (pc := 234) (dd d_Mod_moveAll_2 15 rfl) f_Mod_123 (ob_le hnn ob1_MO) rfl (mr_scalars hX) ?_
  refine g_iconst (pc := 237) (v := 5) (dd d_Mod_moveAll_2 16 rfl) (by decide) ?_
  refine g_iald (pc := 238) (dd d_Mod_moveAll_2 17 rfl) (ar_le hnn ar1_A_scalars) (by rw [vp_in_iff]; decide) ?_
  refine g_putiN (pc := 239) (dd d_Mod_moveAll_2 18 rfl) f_Mod_403 fm_Mod_48 (ob_le hnn ob1_MO) rfl (fun I23 h23 => ?_)
  replace h23 : I23 = mv_23 I22 o := h23
  refine g_aload_n (pc := 242) (dd d_Mod_moveAll_2 19 rfl) rfl ?_
  refine g_aload_n (pc := 243) (dd d_Mod_moveAll_2 20 rfl) rfl ?_
  refine g_getr (pc := 244) (dd d_Mod_moveAll_2 21 rfl) f_Mod_123 (ob_le hnn ob1_MO) rfl (mr_scalars hX) ?_
  refine g_bipush (pc := 247) (v := 6) (dd d_Mod_moveAll_2 22 rfl) (by decide) ?_
  refine g_iald (pc := 249) (dd d_Mod_moveAll_2 23 rfl) (ar_le hnn ar1_A_scalars) (by rw [vp_in_iff]; decide) ?_
  refine g_putiN (pc := 250) (dd d_Mod_moveAll_2 24 rfl) f_Mod_406 fm_Mod_50 (ob_le hnn ob1_MO) rfl (fun I24 h24 => ?_)
  replace h24 : I24 = mv_24 I23 o := h24
  refine g_aload_n (pc := 253) (dd d_Mod_moveAll_2 25 rfl) rfl ?_
  refine g_aload_n (pc := 254) (dd d_Mod_moveAll_2 26 rfl) rfl ?_
  refine g_getr (pc := 255) (dd d_Mod_moveAll_2 27 rfl) f_Mod_123 (ob_le hnn ob1_MO) rfl (mr_scalars hX) ?_
  refine g_bipush (pc := 258) (v := 7) (dd d_Mod_moveAll_2 28 rfl) (by decide) ?_
  refine g_iald (pc := 260) (dd d_Mod_moveAll_2 29 rfl) (ar_le hnn ar1_A_scalars) (by rw [vp_in_iff]; decide) ?_
  refine g_putiN (pc := 261) (dd d_Mod_moveAll_2 30 rfl) f_Mod_409 fm_Mod_51 (ob_le hnn ob1_MO) rfl (fun I25 h25 => ?_)
  replace h25 : I25 = mv_25 I24 o := h25
  refine g_aload_n (pc := 264) (dd d_Mod_moveAll_2 31 rfl) rfl ?_
  refine g_aload_n (pc := 265) (dd d_Mod_moveAll_2 32 rfl) rfl ?_
  refine g_getr (pc := 266) (dd d_Mod_moveAll_2 33 rfl) f_Mod_123 (ob_le hnn ob1_MO) rfl (mr_scalars hX) ?_
  refine g_bipush (pc := 269) (v := 8) (dd d_Mod_moveAll_2 34 rfl) (by decide) ?_
  refine g_iald (pc := 271) (dd d_Mod_moveAll_2 35 rfl) (ar_le hnn ar1_A_scalars) (by rw [vp_in_iff]; decide) ?_
  refine g_putiN (pc := 272) (dd d_Mod_moveAll_2 36 rfl) f_Mod_412 fm_Mod_52 (ob_le hnn ob1_MO) rfl (fun I26 h26 => ?_)
  replace h26 : I26 = mv_26 I25 o := h26
  refine g_aload_n (pc := 275) (dd d_Mod_moveAll_2 37 rfl) rfl ?_
  refine g_aload_n (pc := 276) (dd d_Mod_moveAll_2 38 rfl) rfl ?_
  refine g_getr (pc := 277) (dd d_Mod_moveAll_2 39 rfl) f_Mod_123 (ob_le hnn ob1_MO) rfl (mr_scalars hX) ?_
  refine g_bipush (pc := 280) (v := 9) (dd d_Mod_moveAll_2 40 rfl) (by decide) ?_
  refine g_iald (pc := 282) (dd d_Mod_moveAll_2 41 rfl) (ar_le hnn ar1_A_scalars) (by rw [vp_in_iff]; decide) ?_
  refine g_putiN (pc := 283) (dd d_Mod_moveAll_2 42 rfl) f_Mod_382 fm_Mod_53 (ob_le hnn ob1_MO) rfl (fun I27 h27 => ?_)
  replace h27 : I27 = mv_27 I26 o := h27
  refine g_aload_n (pc := 286) (dd d_Mod_moveAll_2 43 rfl) rfl ?_
  refine g_aload_n (pc := 287) (dd d_Mod_moveAll_2 44 rfl) rfl ?_
  refine g_getr (pc := 288) (dd d_Mod_moveAll_2 45 rfl) f_Mod_123 (ob_le hnn ob1_MO) rfl (mr_scalars hX) ?_
  refine g_bipush (pc := 291) (v := 10) (dd d_Mod_moveAll_2 46 rfl) (by decide) ?_
  refine g_iald (pc := 293) (dd d_Mod_moveAll_2 47 rfl) (ar_le hnn ar1_A_scalars) (by rw [vp_in_iff]; decide) ?_
  refine g_putiN (pc := 294) (dd d_Mod_moveAll_2 48 rfl) f_Mod_385 fm_Mod_54 (ob_le hnn ob1_MO) rfl (fun I28 h28 => ?_)
  replace h28 : I28 = mv_28 I27 o := h28
  refine g_aload_n (pc := 297) (dd d_Mod_moveAll_2 49 rfl) rfl ?_
  refine g_aload_n (pc := 298) (dd d_Mod_moveAll_2 50 rfl) rfl ?_
  refine g_getr (pc := 299) (dd d_Mod_moveAll_2 51 rfl) f_Mod_123 (ob_le hnn ob1_MO) rfl (mr_scalars hX) ?_
  refine g_bipush (pc := 302) (v := 11) (dd d_Mod_moveAll_2 52 rfl) (by decide) ?_
  refine g_iald (pc := 304) (dd d_Mod_moveAll_2 53 rfl) (ar_le hnn ar1_A_scalars) (by rw [vp_in_iff]; decide) ?_
  refine g_putiN (pc := 305) (dd d_Mod_moveAll_2 54 rfl) f_Mod_415 fm_Mod_55 (ob_le hnn ob1_MO) rfl (fun I29 h29 => ?_)
  replace h29 : I29 = mv_29 I28 o := h29
  refine g_aload_n (pc := 308) (dd d_Mod_moveAll_2 55 rfl) rfl ?_
  refine g_aload_n (pc := 309) (dd d_Mod_moveAll_2 56 rfl) rfl ?_
  refine g_getr (pc := 310) (dd d_Mod_moveAll_2 57 rfl) f_Mod_123 (ob_le hnn ob1_MO) rfl (mr_scalars hX) ?_
  refine g_bipush (pc := 313) (v := 12) (dd d_Mod_moveAll_2 58 rfl) (by decide) ?_
  refine g_iald (pc := 315) (dd d_Mod_moveAll_2 59 rfl) (ar_le hnn ar1_A_scalars) (by rw [vp_in_iff]; decide) ?_
  refine g_putiN (pc := 316) (dd d_Mod_moveAll_3 0 rfl) f_Mod_376 fm_Mod_58 (ob_le hnn ob1_MO) rfl (fun I30 h30 => ?_)
  replace h30 : I30 = mv_30 I29 o := h30
  refine g_aload_n (pc := 319) (dd d_Mod_moveAll_3 1 rfl) rfl ?_
  refine g_aload_n (pc := 320) (dd d_Mod_moveAll_3 2 rfl) rfl ?_
  refine g_getr (pc := 321) (dd d_Mod_moveAll_3 3 rfl) f_Mod_123 (ob_le hnn ob1_MO) rfl (mr_scalars hX) ?_
  refine g_bipush (pc := 324) (v := 13) (dd d_Mod_moveAll_3 4 rfl) (by decide) ?_
  refine g_iald (pc := 326) (dd d_Mod_moveAll_3 5 rfl) (ar_le hnn ar1_A_scalars) (by rw [vp_in_iff]; decide) ?_
  refine g_putiN (pc := 327) (dd d_Mod_moveAll_3 6 rfl) f_Mod_379 fm_Mod_59 (ob_le hnn ob1_MO) rfl (fun I31 h31 => ?_)
  replace h31 : I31 = mv_31 I30 o := h31
  refine g_aload_n (pc := 330) (dd d_Mod_moveAll_3 7 rfl) rfl ?_
  refine g_aload_n (pc := 331) (dd d_Mod_moveAll_3 8 rfl) rfl ?_
  refine g_getr (pc := 332) (dd d_Mod_moveAll_3 9 rfl) f_Mod_123 (ob_le hnn ob1_MO) rfl (mr_scalars hX) ?_
  refine g_bipush (pc := 335) (v := 14) (dd d_Mod_moveAll_3 10 rfl) (by decide) ?_
  refine g_iald (pc := 337) (dd d_Mod_moveAll_3 11 rfl) (ar_le hnn ar1_A_scalars) (by rw [vp_in_iff]; decide) ?_
  refine g_putiN (pc := 338) (dd d_Mod_moveAll_3 12 rfl) f_Mod_418 fm_Mod_63 (ob_le hnn ob1_MO) rfl (fun I32 h32 => ?_)
  replace h32 : I32 = mv_32 I31 o := h32
  refine g_aload_n (pc := 341) (dd d_Mod_moveAll_3 13 rfl) rfl ?_
  refine g_aload_n (pc := 342) (dd d_Mod_moveAll_3 14 rfl) rfl ?_
  refine g_getr (pc := 343) (dd d_Mod_moveAll_3 15 rfl) f_Mod_123 (ob_le hnn ob1_MO) rfl (mr_scalars hX) ?_
  refine g_bipush (pc := 346) (v := 15) (dd d_Mod_moveAll_3 16 rfl) (by decide) ?_
  refine g_iald (pc := 348) (dd d_Mod_moveAll_3 17 rfl) (ar_le hnn ar1_A_scalars) (by rw [vp_in_iff]; decide) ?_
  refine g_putiN (pc := 349) (dd d_Mod_moveAll_3 18 rfl) f_Mod_110 fm_Mod_66 (ob_le hnn ob1_MO) rfl (fun I33 h33 => ?_)
  replace h33 : I33 = mv_33 I32 o := h33
  refine g_aload_n (pc := 352) (dd d_Mod_moveAll_3 19 rfl) rfl ?_
  refine g_aload_n (pc := 353) (dd d_Mod_moveAll_3 20 rfl) rfl ?_
  refine g_getr (pc := 354) (dd d_Mod_moveAll_3 21 rfl) f_Mod_59 (ob_le hnn ob1_MO) rfl (mr_code hX) ?_
  refine g_bipush (pc := 357) (v := 64) (dd d_Mod_moveAll_3 22 rfl) (by decide) ?_
  refine g_bipush (pc := 359) (v := 20) (dd d_Mod_moveAll_3 23 rfl) (by decide) ?_
  refine g_iload_n (pc := 361) (dd d_Mod_moveAll_3 24 rfl) rfl ?_
  refine g_callV (pc := 362) (dd d_Mod_moveAll_3 25 rfl) v_Mod_612 (ob_le hnn ob1_MO) rfl (en_Mod_moveRow hnn hX I33 A_code 64 20 o 64 20 rfl rfl (by decide) (by decide) (ar_le hnn ar1_A_code)) rfl (by rw [hk]; decide) (Nat.le_of_ble_eq_true rfl) ⟨Nat.zero_le _, Nat.zero_le _⟩ rfl ?_
  obtain ⟨I34, h34⟩ : ∃ z, z = mv_34 I33 o := ⟨_, rfl⟩
  rw [show s_Mod_moveRow I33 A_code 64 20 o 64 20 = I34 from h34.symm]
  refine g_aload_n (pc := 365) (dd d_Mod_moveAll_3 26 rfl) rfl ?_
  refine g_aload_n (pc := 366) (dd d_Mod_moveAll_3 27 rfl) rfl ?_
  refine g_getr (pc := 367) (dd d_Mod_moveAll_3 28 rfl) f_Mod_62 (ob_le hnn ob1_MO) rfl (mr_codeTags hX) ?_
  refine g_bipush (pc := 370) (v := 64) (dd d_Mod_moveAll_3 29 rfl) (by decide) ?_
  refine g_bipush (pc := 372) (v := 84) (dd d_Mod_moveAll_3 30 rfl) (by decide) ?_
  refine g_iload_n (pc := 374) (dd d_Mod_moveAll_3 31 rfl) rfl ?_
  refine g_callV (pc := 375) (dd d_Mod_moveAll_3 32 rfl) v_Mod_612 (ob_le hnn ob1_MO) rfl (en_Mod_moveRow hnn hX I34 A_codeTags 64 84 o 64 84 rfl rfl (by decide) (by decide) (ar_le hnn ar1_A_codeTags)) rfl (by rw [hk]; decide) (Nat.le_of_ble_eq_true rfl) ⟨Nat.zero_le _, Nat.zero_le _⟩ rfl ?_
  obtain ⟨I35, h35⟩ : ∃ z, z = mv_35 I34 o := ⟨_, rfl⟩
  rw [show s_Mod_moveRow I34 A_codeTags 64 84 o 64 84 = I35 from h35.symm]
  refine g_aload_n (pc := 378) (dd d_Mod_moveAll_3 33 rfl) rfl ?_
  refine g_aload_n (pc := 379) (dd d_Mod_moveAll_3 34 rfl) rfl ?_
  refine g_getr (pc := 380) (dd d_Mod_moveAll_3 35 rfl) f_Mod_65 (ob_le hnn ob1_MO) rfl (mr_ints hX) ?_
  refine g_bipush (pc := 383) (v := 96) (dd d_Mod_moveAll_3 36 rfl) (by decide) ?_
  refine g_sipush (pc := 385) (v := 148) (dd d_Mod_moveAll_3 37 rfl) (by decide) ?_
  refine g_iload_n (pc := 388) (dd d_Mod_moveAll_3 38 rfl) rfl ?_
  refine g_callV (pc := 389) (dd d_Mod_moveAll_3 39 rfl) v_Mod_612 (ob_le hnn ob1_MO) rfl (en_Mod_moveRow hnn hX I35 A_ints 96 148 o 96 148 rfl rfl (by decide) (by decide) (ar_le hnn ar1_A_ints)) rfl (by rw [hk]; decide) (Nat.le_of_ble_eq_true rfl) ⟨Nat.zero_le _, Nat.zero_le _⟩ rfl ?_
  obtain ⟨I36, h36⟩ : ∃ z, z = mv_36 I35 o := ⟨_, rfl⟩
  rw [show s_Mod_moveRow I35 A_ints 96 148 o 96 148 = I36 from h36.symm]
  refine g_aload_n (pc := 392) (dd d_Mod_moveAll_3 40 rfl) rfl ?_
  refine g_aload_n (pc := 393) (dd d_Mod_moveAll_3 41 rfl) rfl ?_
  refine g_getr (pc := 394) (dd d_Mod_moveAll_3 42 rfl) f_Mod_68 (ob_le hnn ob1_MO) rfl (mr_held hX) ?_
  refine g_bipush (pc := 397) (v := 96) (dd d_Mod_moveAll_3 43 rfl) (by decide) ?_
  refine g_sipush (pc := 399) (v := 244) (dd d_Mod_moveAll_3 44 rfl) (by decide) ?_
  refine g_iload_n (pc := 402) (dd d_Mod_moveAll_3 45 rfl) rfl ?_
  refine g_callV (pc := 403) (dd d_Mod_moveAll_3 46 rfl) v_Mod_612 (ob_le hnn ob1_MO) rfl (en_Mod_moveRow hnn hX I36 A_held 96 244 o 96 244 rfl rfl (by decide) (by decide) (ar_le hnn ar1_A_held)) rfl (by rw [hk]; decide) (Nat.le_of_ble_eq_true rfl) ⟨Nat.zero_le _, Nat.zero_le _⟩ rfl ?_
  obtain ⟨I37, h37⟩ : ∃ z, z = mv_37 I36 o := ⟨_, rfl⟩
  rw [show s_Mod_moveRow I36 A_held 96 244 o 96 244 = I37 from h37.symm]
  refine g_aload_n (pc := 406) (dd d_Mod_moveAll_3 47 rfl) rfl ?_
  refine g_aload_n (pc := 407) (dd d_Mod_moveAll_3 48 rfl) rfl ?_
  refine g_getr (pc := 408) (dd d_Mod_moveAll_3 49 rfl) f_Mod_71 (ob_le hnn ob1_MO) rfl (mr_owners hX) ?_
  refine g_bipush (pc := 411) (v := 96) (dd d_Mod_moveAll_3 50 rfl) (by decide) ?_
  refine g_sipush (pc := 413) (v := 340) (dd d_Mod_moveAll_3 51 rfl) (by decide) ?_
  refine g_iload_n (pc := 416) (dd d_Mod_moveAll_3 52 rfl) rfl ?_
  refine g_callV (pc := 417) (dd d_Mod_moveAll_3 53 rfl) v_Mod_612 (ob_le hnn ob1_MO) rfl (en_Mod_moveRow hnn hX I37 A_owners 96 340 o 96 340 rfl rfl (by decide) (by decide) (ar_le hnn ar1_A_owners)) rfl (by rw [hk]; decide) (Nat.le_of_ble_eq_true rfl) ⟨Nat.zero_le _, Nat.zero_le _⟩ rfl ?_
  obtain ⟨I38, h38⟩ : ∃ z, z = mv_38 I37 o := ⟨_, rfl⟩
  rw [show s_Mod_moveRow I37 A_owners 96 340 o 96 340 = I38 from h38.symm]
  refine g_aload_n (pc := 420) (dd d_Mod_moveAll_3 54 rfl) rfl ?_
  refine g_aload_n (pc := 421) (dd d_Mod_moveAll_3 55 rfl) rfl ?_
  refine g_getr (pc := 422) (dd d_Mod_moveAll_3 56 rfl) f_Mod_74 (ob_le hnn ob1_MO) rfl (mr_registers hX) ?_
  refine g_bipush (pc := 425) (v := 8) (dd d_Mod_moveAll_3 57 rfl) (by decide) ?_
  refine g_sipush (pc := 427) (v := 436) (dd d_Mod_moveAll_3 58 rfl) (by decide) ?_
  refine g_iload_n (pc := 430) (dd d_Mod_moveAll_3 59 rfl) rfl ?_
  refine g_callV (pc := 431) (dd d_Mod_moveAll_4 0 rfl) v_Mod_612 (ob_le hnn ob1_MO) rfl (en_Mod_moveRow hnn hX I38 A_registers 8 436 o 8 436 rfl rfl (by decide) (by decide) (ar_le hnn ar1_A_registers)) rfl (by rw [hk]; decide) (Nat.le_of_ble_eq_true rfl) ⟨Nat.zero_le _, Nat.zero_le _⟩ rfl ?_
  obtain ⟨I39, h39⟩ : ∃ z, z = mv_39 I38 o := ⟨_, rfl⟩
  rw [show s_Mod_moveRow I38 A_registers 8 436 o 8 436 = I39 from h39.symm]
  refine g_aload_n (pc := 434) (dd d_Mod_moveAll_4 1 rfl) rfl ?_
  refine g_aload_n (pc := 435) (dd d_Mod_moveAll_4 2 rfl) rfl ?_
  refine g_getr (pc := 436) (dd d_Mod_moveAll_4 3 rfl) f_Mod_77 (ob_le hnn ob1_MO) rfl (mr_registerTags hX) ?_
  refine g_bipush (pc := 439) (v := 8) (dd d_Mod_moveAll_4 4 rfl) (by decide) ?_
  refine g_sipush (pc := 441) (v := 444) (dd d_Mod_moveAll_4 5 rfl) (by decide) ?_
  refine g_iload_n (pc := 444) (dd d_Mod_moveAll_4 6 rfl) rfl ?_
  refine g_callV (pc := 445) (dd d_Mod_moveAll_4 7 rfl) v_Mod_612 (ob_le hnn ob1_MO) rfl (en_Mod_moveRow hnn hX I39 A_registerTags 8 444 o 8 444 rfl rfl (by decide) (by decide) (ar_le hnn ar1_A_registerTags)) rfl (by rw [hk]; decide) (Nat.le_of_ble_eq_true rfl) ⟨Nat.zero_le _, Nat.zero_le _⟩ rfl ?_
  obtain ⟨I40, h40⟩ : ∃ z, z = mv_40 I39 o := ⟨_, rfl⟩
  rw [show s_Mod_moveRow I39 A_registerTags 8 444 o 8 444 = I40 from h40.symm]
  refine g_aload_n (pc := 448) (dd d_Mod_moveAll_4 8 rfl) rfl ?_
  refine g_aload_n (pc := 449) (dd d_Mod_moveAll_4 9 rfl) rfl ?_
  refine g_getr (pc := 450) (dd d_Mod_moveAll_4 10 rfl) f_Mod_80 (ob_le hnn ob1_MO) rfl (mr_inputValues hX) ?_
  refine g_bipush (pc := 453) (v := 16) (dd d_Mod_moveAll_4 11 rfl) (by decide) ?_
  refine g_sipush (pc := 455) (v := 452) (dd d_Mod_moveAll_4 12 rfl) (by decide) ?_
  refine g_iload_n (pc := 458) (dd d_Mod_moveAll_4 13 rfl) rfl ?_
  refine g_callV (pc := 459) (dd d_Mod_moveAll_4 14 rfl) v_Mod_612 (ob_le hnn ob1_MO) rfl (en_Mod_moveRow hnn hX I40 A_inputValues 16 452 o 16 452 rfl rfl (by decide) (by decide) (ar_le hnn ar1_A_inputValues)) rfl (by rw [hk]; decide) (Nat.le_of_ble_eq_true rfl) ⟨Nat.zero_le _, Nat.zero_le _⟩ rfl ?_
  obtain ⟨I41, h41⟩ : ∃ z, z = mv_41 I40 o := ⟨_, rfl⟩
  rw [show s_Mod_moveRow I40 A_inputValues 16 452 o 16 452 = I41 from h41.symm]
  refine g_aload_n (pc := 462) (dd d_Mod_moveAll_4 15 rfl) rfl ?_
  refine g_aload_n (pc := 463) (dd d_Mod_moveAll_4 16 rfl) rfl ?_
  refine g_getr (pc := 464) (dd d_Mod_moveAll_4 17 rfl) f_Mod_83 (ob_le hnn ob1_MO) rfl (mr_inputTags hX) ?_
  refine g_bipush (pc := 467) (v := 16) (dd d_Mod_moveAll_4 18 rfl) (by decide) ?_
  refine g_sipush (pc := 469) (v := 468) (dd d_Mod_moveAll_4 19 rfl) (by decide) ?_
  refine g_iload_n (pc := 472) (dd d_Mod_moveAll_4 20 rfl) rfl ?_
  refine g_callV (pc := 473) (dd d_Mod_moveAll_4 21 rfl) v_Mod_612 (ob_le hnn ob1_MO) rfl (en_Mod_moveRow hnn hX I41 A_inputTags 16 468 o 16 468 rfl rfl (by decide) (by decide) (ar_le hnn ar1_A_inputTags)) rfl (by rw [hk]; decide) (Nat.le_of_ble_eq_true rfl) ⟨Nat.zero_le _, Nat.zero_le _⟩ rfl ?_
  obtain ⟨I42, h42⟩ : ∃ z, z = mv_42 I41 o := ⟨_, rfl⟩
  rw [show s_Mod_moveRow I41 A_inputTags 16 468 o 16 468 = I42 from h42.symm]
  refine g_aload_n (pc := 476) (dd d_Mod_moveAll_4 22 rfl) rfl ?_
  refine g_aload_n (pc := 477) (dd d_Mod_moveAll_4 23 rfl) rfl ?_
  refine g_getr (pc := 478) (dd d_Mod_moveAll_4 24 rfl) f_Mod_86 (ob_le hnn ob1_MO) rfl (mr_output hX) ?_
  refine g_bipush (pc := 481) (v := 40) (dd d_Mod_moveAll_4 25 rfl) (by decide) ?_
  refine g_sipush (pc := 483) (v := 484) (dd d_Mod_moveAll_4 26 rfl) (by decide) ?_
  refine g_iload_n (pc := 486) (dd d_Mod_moveAll_4 27 rfl) rfl ?_
  refine g_callV (pc := 487) (dd d_Mod_moveAll_4 28 rfl) v_Mod_612 (ob_le hnn ob1_MO) rfl (en_Mod_moveRow hnn hX I42 A_output 40 484 o 40 484 rfl rfl (by decide) (by decide) (ar_le hnn ar1_A_output)) rfl (by rw [hk]; decide) (Nat.le_of_ble_eq_true rfl) ⟨Nat.zero_le _, Nat.zero_le _⟩ rfl ?_
  obtain ⟨I43, h43⟩ : ∃ z, z = mv_43 I42 o := ⟨_, rfl⟩
  rw [show s_Mod_moveRow I42 A_output 40 484 o 40 484 = I43 from h43.symm]
  refine g_aload_n (pc := 490) (dd d_Mod_moveAll_4 29 rfl) rfl ?_
  refine g_aload_n (pc := 491) (dd d_Mod_moveAll_4 30 rfl) rfl ?_
  refine g_getr (pc := 492) (dd d_Mod_moveAll_4 31 rfl) f_Mod_89 (ob_le hnn ob1_MO) rfl (mr_firsts hX) ?_
  refine g_bipush (pc := 495) (v := 60) (dd d_Mod_moveAll_4 32 rfl) (by decide) ?_
  refine g_sipush (pc := 497) (v := 524) (dd d_Mod_moveAll_4 33 rfl) (by decide) ?_
  refine g_iload_n (pc := 500) (dd d_Mod_moveAll_4 34 rfl) rfl ?_
  refine g_callV (pc := 501) (dd d_Mod_moveAll_4 35 rfl) v_Mod_612 (ob_le hnn ob1_MO) rfl (en_Mod_moveRow hnn hX I43 A_firsts 60 524 o 60 524 rfl rfl (by decide) (by decide) (ar_le hnn ar1_A_firsts)) rfl (by rw [hk]; decide) (Nat.le_of_ble_eq_true rfl) ⟨Nat.zero_le _, Nat.zero_le _⟩ rfl ?_
  obtain ⟨I44, h44⟩ : ∃ z, z = mv_44 I43 o := ⟨_, rfl⟩
  rw [show s_Mod_moveRow I43 A_firsts 60 524 o 60 524 = I44 from h44.symm]
  refine g_aload_n (pc := 504) (dd d_Mod_moveAll_4 36 rfl) rfl ?_
  refine g_aload_n (pc := 505) (dd d_Mod_moveAll_4 37 rfl) rfl ?_
  refine g_getr (pc := 506) (dd d_Mod_moveAll_4 38 rfl) f_Mod_92 (ob_le hnn ob1_MO) rfl (mr_seconds hX) ?_
  refine g_bipush (pc := 509) (v := 60) (dd d_Mod_moveAll_4 39 rfl) (by decide) ?_
  refine g_sipush (pc := 511) (v := 584) (dd d_Mod_moveAll_4 40 rfl) (by decide) ?_
  refine g_iload_n (pc := 514) (dd d_Mod_moveAll_4 41 rfl) rfl ?_
  refine g_callV (pc := 515) (dd d_Mod_moveAll_4 42 rfl) v_Mod_612 (ob_le hnn ob1_MO) rfl (en_Mod_moveRow hnn hX I44 A_seconds 60 584 o 60 584 rfl rfl (by decide) (by decide) (ar_le hnn ar1_A_seconds)) rfl (by rw [hk]; decide) (Nat.le_of_ble_eq_true rfl) ⟨Nat.zero_le _, Nat.zero_le _⟩ rfl ?_
  obtain ⟨I45, h45⟩ : ∃ z, z = mv_45 I44 o := ⟨_, rfl⟩
  rw [show s_Mod_moveRow I44 A_seconds 60 584 o 60 584 = I45 from h45.symm]
  refine g_aload_n (pc := 518) (dd d_Mod_moveAll_4 43 rfl) rfl ?_
  refine g_aload_n (pc := 519) (dd d_Mod_moveAll_4 44 rfl) rfl ?_
  refine g_getr (pc := 520) (dd d_Mod_moveAll_4 45 rfl) f_Mod_95 (ob_le hnn ob1_MO) rfl (mr_cache hX) ?_
  refine g_sipush (pc := 523) (v := 128) (dd d_Mod_moveAll_4 46 rfl) (by decide) ?_
  refine g_sipush (pc := 526) (v := 644) (dd d_Mod_moveAll_4 47 rfl) (by decide) ?_
  refine g_iload_n (pc := 529) (dd d_Mod_moveAll_4 48 rfl) rfl ?_
  refine g_callV (pc := 530) (dd d_Mod_moveAll_4 49 rfl) v_Mod_612 (ob_le hnn ob1_MO) rfl (en_Mod_moveRow hnn hX I45 A_cache 128 644 o 128 644 rfl rfl (by decide) (by decide) (ar_le hnn ar1_A_cache)) rfl (by rw [hk]; decide) (Nat.le_of_ble_eq_true rfl) ⟨Nat.zero_le _, Nat.zero_le _⟩ rfl ?_
  obtain ⟨I46, h46⟩ : ∃ z, z = mv_46 I45 o := ⟨_, rfl⟩
  rw [show s_Mod_moveRow I45 A_cache 128 644 o 128 644 = I46 from h46.symm]
  refine g_aload_n (pc := 533) (dd d_Mod_moveAll_4 50 rfl) rfl ?_
  refine g_aload_n (pc := 534) (dd d_Mod_moveAll_4 51 rfl) rfl ?_
  refine g_getr (pc := 535) (dd d_Mod_moveAll_4 52 rfl) f_Mod_98 (ob_le hnn ob1_MO) rfl (mr_answers hX) ?_
  refine g_bipush (pc := 538) (v := 40) (dd d_Mod_moveAll_4 53 rfl) (by decide) ?_
  refine g_sipush (pc := 540) (v := 772) (dd d_Mod_moveAll_4 54 rfl) (by decide) ?_
  refine g_iload_n (pc := 543) (dd d_Mod_moveAll_4 55 rfl) rfl ?_
  refine g_callV (pc := 544) (dd d_Mod_moveAll_4 56 rfl) v_Mod_612 (ob_le hnn ob1_MO) rfl (en_Mod_moveRow hnn hX I46 A_answers 40 772 o 40 772 rfl rfl (by decide) (by decide) (ar_le hnn ar1_A_answers)) rfl (by rw [hk]; decide) (Nat.le_of_ble_eq_true rfl) ⟨Nat.zero_le _, Nat.zero_le _⟩ rfl ?_
  obtain ⟨I47, h47⟩ : ∃ z, z = mv_47 I46 o := ⟨_, rfl⟩
  rw [show s_Mod_moveRow I46 A_answers 40 772 o 40 772 = I47 from h47.symm]
  refine g_aload_n (pc := 547) (dd d_Mod_moveAll_4 57 rfl) rfl ?_
  refine g_aload_n (pc := 548) (dd d_Mod_moveAll_4 58 rfl) rfl ?_
  refine g_getr (pc := 549) (dd d_Mod_moveAll_4 59 rfl) f_Mod_104 (ob_le hnn ob1_MO) rfl (mr_entries hX) ?_
  refine g_bipush (pc := 552) (v := 96) (dd d_Mod_moveAll_5 0 rfl) (by decide) ?_
  refine g_sipush (pc := 554) (v := 812) (dd d_Mod_moveAll_5 1 rfl) (by decide) ?_
  refine g_iload_n (pc := 557) (dd d_Mod_moveAll_5 2 rfl) rfl ?_
  refine g_callV (pc := 558) (dd d_Mod_moveAll_5 3 rfl) v_Mod_612 (ob_le hnn ob1_MO) rfl (en_Mod_moveRow hnn hX I47 A_entries 96 812 o 96 812 rfl rfl (by decide) (by decide) (ar_le hnn ar1_A_entries)) rfl (by rw [hk]; decide) (Nat.le_of_ble_eq_true rfl) ⟨Nat.zero_le _, Nat.zero_le _⟩ rfl ?_
  obtain ⟨I48, h48⟩ : ∃ z, z = mv_48 I47 o := ⟨_, rfl⟩
  rw [show s_Mod_moveRow I47 A_entries 96 812 o 96 812 = I48 from h48.symm]
  refine g_aload_n (pc := 561) (dd d_Mod_moveAll_5 4 rfl) rfl ?_
  refine g_aload_n (pc := 562) (dd d_Mod_moveAll_5 5 rfl) rfl ?_
  refine g_getr (pc := 563) (dd d_Mod_moveAll_5 6 rfl) f_Mod_107 (ob_le hnn ob1_MO) rfl (mr_counts hX) ?_
  refine g_bipush (pc := 566) (v := 88) (dd d_Mod_moveAll_5 7 rfl) (by decide) ?_
  refine g_sipush (pc := 568) (v := 908) (dd d_Mod_moveAll_5 8 rfl) (by decide) ?_
  refine g_iload_n (pc := 571) (dd d_Mod_moveAll_5 9 rfl) rfl ?_
  refine g_callV (pc := 572) (dd d_Mod_moveAll_5 10 rfl) v_Mod_612 (ob_le hnn ob1_MO) rfl (en_Mod_moveRow hnn hX I48 A_counts 88 908 o 88 908 rfl rfl (by decide) (by decide) (ar_le hnn ar1_A_counts)) rfl (by rw [hk]; decide) (Nat.le_of_ble_eq_true rfl) ⟨Nat.zero_le _, Nat.zero_le _⟩ rfl ?_
  obtain ⟨I49, h49⟩ : ∃ z, z = mv_49 I48 o := ⟨_, rfl⟩
  rw [show s_Mod_moveRow I48 A_counts 88 908 o 88 908 = I49 from h49.symm]
  have e : s_Mod_moveAll I o = I49 := by rw [h49, h48, h47, h46, h45, h44, h43, h42, h41, h40, h39, h38, h37, h36, h35, h34, h33, h32, h31, h30, h29, h28, h27, h26, h25, h24, h23, h22, h21, h20, h19, h18, h17, h16, h15, h14, h13, h12, h11, h10, h9, h8, h7, h6, h5, h4, h3, h2, h1]; rfl
  rw [e] at hT
  exact g_vret (pc := 575) rfl (dd d_Mod_moveAll_5 11 rfl) hT
