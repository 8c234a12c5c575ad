def lp_Mod_setUp_7 (s0 : (Nat → Nat → Int32)) : Nat → (Nat → Nat → Int32)
  | 0 => s0
  | k + 1 => (fun s : (Nat → Nat → Int32) => (up (up s A_code (nI k : Int32).toNatClampNeg (0)) A_codeTags (nI k : Int32).toNatClampNeg (0))) (lp_Mod_setUp_7 s0 k)
def lp_Mod_setUp_35 (s0 : (Nat → Nat → Int32)) : Nat → (Nat → Nat → Int32)
  | 0 => s0
  | k + 1 => (fun s : (Nat → Nat → Int32) => (up (up (up s A_ints (nI k : Int32).toNatClampNeg (0)) A_held (nI k : Int32).toNatClampNeg (0)) A_owners (nI k : Int32).toNatClampNeg (0))) (lp_Mod_setUp_35 s0 k)
def lp_Mod_setUp_70 (s0 : (Nat → Nat → Int32)) : Nat → (Nat → Nat → Int32)
  | 0 => s0
  | k + 1 => (fun s : (Nat → Nat → Int32) => (up (up s A_registers (nI k : Int32).toNatClampNeg (0)) A_registerTags (nI k : Int32).toNatClampNeg (0))) (lp_Mod_setUp_70 s0 k)
def lp_Mod_setUp_173 (s0 : (Nat → Nat → Int32)) : Nat → (Nat → Nat → Int32)
  | 0 => s0
  | k + 1 => (fun s : (Nat → Nat → Int32) => (up s A_counts (nI k : Int32).toNatClampNeg (0))) (lp_Mod_setUp_173 s0 k)
set_option maxRecDepth 20000 in
set_option maxHeartbeats 4000000 in
theorem ev_Mod_setUp {Δ : Dx} {X : Lx} (hX : MX Δ X) (I : Nat → Nat → Int32) (c : Int32) : Ev Δ 0 m_Mod_setUp [.ref (Δ.ba + MO), .int c] (I, X) (none) (((lp_Mod_setUp_173 (up (up (up (up (up (up (up (up (up (up (up (up (up (up (up ((lp_Mod_setUp_70 ((lp_Mod_setUp_35 ((lp_Mod_setUp_7 (up I MO 34 (c)) 64)) 96)) 8)) MO 42 (0)) MO 43 (0)) MO 44 ((-1))) MO 45 (0)) MO 48 (0)) MO 50 (0)) MO 51 (0)) MO 52 (0)) MO 53 (0)) MO 54 (0)) MO 55 (0)) MO 58 (0)) MO 59 (0)) MO 63 (0)) MO 66 ((-1))) 88)), X) := by
  refine ev_of (by decide) (Nat.le_of_ble_eq_true rfl) (fun Γ hk hR hT => ?_)
  refine g_aload_n (pc := 0) (dd d_Mod_setUp 0 rfl) rfl ?_
  refine g_iload_n (pc := 1) (dd d_Mod_setUp 1 rfl) rfl ?_
  refine g_putiN (pc := 2) (dd d_Mod_setUp 2 rfl) f_Mod_388 fm_Mod_34 ob_MO rfl (fun I1 hI1 => ?_)
  refine g_iconst (pc := 5) (v := 0) (dd d_Mod_setUp 3 rfl) (by decide) ?_
  refine g_istore_n (pc := 6) (dd d_Mod_setUp 4 rfl) (by decide) ?_
  suffices K7 : GG Δ m_Mod_setUp Γ NN 0 0 ((lp_Mod_setUp_7 I1 64), X) 33 [some (.ref (Δ.ba + MO)), some (.int (c)), some (.int (nI 64))] [] by
    refine down 64 (P := fun k => GG Δ m_Mod_setUp Γ NN 0 0 ((lp_Mod_setUp_7 I1 k), X) 7 [some (.ref (Δ.ba + MO)), some (.int (c)), some (.int (nI k))] []) ?_ ?_
    · skip
      refine g_iload_n (pc := 7) (dd d_Mod_setUp 5 rfl) rfl ?_
      refine g_bipush (pc := 8) (v := 64) (dd d_Mod_setUp 6 rfl) (by decide) ?_
      refine g_icmpge (pc := 10) (tgt := 33) (dd d_Mod_setUp 7 rfl) (by decide) (fun q1 => ?_) (fun q1 => ?_)
      · have t1 := q1
        try simp only [e1x, e0x, i10, thrP, thrN, Classical.not_not, not_and, not_or, not_true_eq_false, not_false_eq_true, true_and, and_true, and_self, or_false, or_true, false_or, true_or, eq_self] at t1
        exact K7
      · have t1 := q1
        try simp only [e1x, e0x, i10, thrP, thrN, Classical.not_not, not_and, not_or, not_true_eq_false, not_false_eq_true, true_and, and_true, and_self, or_false, or_true, false_or, true_or, eq_self] at t1
        exact absurd (Int32.le_refl _) q1
    · intro k hkn ih
      refine g_iload_n (pc := 7) (dd d_Mod_setUp 5 rfl) rfl ?_
      refine g_bipush (pc := 8) (v := 64) (dd d_Mod_setUp 6 rfl) (by decide) ?_
      refine g_icmpge (pc := 10) (tgt := 33) (dd d_Mod_setUp 7 rfl) (by decide) (fun q2 => ?_) (fun q2 => ?_)
      · have t2 := q2
        try simp only [e1x, e0x, i10, thrP, thrN, Classical.not_not, not_and, not_or, not_true_eq_false, not_false_eq_true, true_and, and_true, and_self, or_false, or_true, false_or, true_or, eq_self] at t2
        exact absurd q2 (nI_ge hkn (by decide))
      · have t2 := q2
        try simp only [e1x, e0x, i10, thrP, thrN, Classical.not_not, not_and, not_or, not_true_eq_false, not_false_eq_true, true_and, and_true, and_self, or_false, or_true, false_or, true_or, eq_self] at t2
        refine g_aload_n (pc := 13) (dd d_Mod_setUp 8 rfl) rfl ?_
        refine g_getr (pc := 14) (dd d_Mod_setUp 9 rfl) f_Mod_59 ob_MO rfl (mr_code hX) ?_
        refine g_iload_n (pc := 17) (dd d_Mod_setUp 10 rfl) rfl ?_
        refine g_iconst (pc := 18) (v := 0) (dd d_Mod_setUp 11 rfl) (by decide) ?_
        refine g_iastN (pc := 19) (dd d_Mod_setUp 12 rfl) ar_A_code (by rw [vp_in_iff, nI_toInt (by omega)]; omega) (fun I2 hI2 => ?_)
        refine g_aload_n (pc := 20) (dd d_Mod_setUp 13 rfl) rfl ?_
        refine g_getr (pc := 21) (dd d_Mod_setUp 14 rfl) f_Mod_62 ob_MO rfl (mr_codeTags hX) ?_
        refine g_iload_n (pc := 24) (dd d_Mod_setUp 15 rfl) rfl ?_
        refine g_iconst (pc := 25) (v := 0) (dd d_Mod_setUp 16 rfl) (by decide) ?_
        refine g_iastN (pc := 26) (dd d_Mod_setUp 17 rfl) ar_A_codeTags (by rw [vp_in_iff, nI_toInt (by omega)]; omega) (fun I3 hI3 => ?_)
        refine g_iincW (pc := 27) (w := 1) (dd d_Mod_setUp 18 rfl) rfl (by decide) (by decide) ?_
        refine g_goto (pc := 30) (tgt := 7) (dd d_Mod_setUp 19 rfl) (by decide) ?_
        subst hI3 hI2
        exact GG_eq ih rfl (by rw [← nI_1]; rfl) rfl
  obtain ⟨I4, hI4⟩ : ∃ z, z = (lp_Mod_setUp_7 I1 64) := ⟨_, rfl⟩
  rw [← hI4]
  refine g_iconst (pc := 33) (v := 0) (dd d_Mod_setUp 20 rfl) (by decide) ?_
  refine g_istore_n (pc := 34) (dd d_Mod_setUp 21 rfl) (by decide) ?_
  suffices K35 : GG Δ m_Mod_setUp Γ NN 0 0 ((lp_Mod_setUp_35 I4 96), X) 68 [some (.ref (Δ.ba + MO)), some (.int (c)), some (.int (nI 96))] [] by
    refine down 96 (P := fun k => GG Δ m_Mod_setUp Γ NN 0 0 ((lp_Mod_setUp_35 I4 k), X) 35 [some (.ref (Δ.ba + MO)), some (.int (c)), some (.int (nI k))] []) ?_ ?_
    · skip
      refine g_iload_n (pc := 35) (dd d_Mod_setUp 22 rfl) rfl ?_
      refine g_bipush (pc := 36) (v := 96) (dd d_Mod_setUp 23 rfl) (by decide) ?_
      refine g_icmpge (pc := 38) (tgt := 68) (dd d_Mod_setUp 24 rfl) (by decide) (fun q3 => ?_) (fun q3 => ?_)
      · have t3 := q3
        try simp only [e1x, e0x, i10, thrP, thrN, Classical.not_not, not_and, not_or, not_true_eq_false, not_false_eq_true, true_and, and_true, and_self, or_false, or_true, false_or, true_or, eq_self] at t3
        exact K35
      · have t3 := q3
        try simp only [e1x, e0x, i10, thrP, thrN, Classical.not_not, not_and, not_or, not_true_eq_false, not_false_eq_true, true_and, and_true, and_self, or_false, or_true, false_or, true_or, eq_self] at t3
        exact absurd (Int32.le_refl _) q3
    · intro k hkn ih
      refine g_iload_n (pc := 35) (dd d_Mod_setUp 22 rfl) rfl ?_
      refine g_bipush (pc := 36) (v := 96) (dd d_Mod_setUp 23 rfl) (by decide) ?_
      refine g_icmpge (pc := 38) (tgt := 68) (dd d_Mod_setUp 24 rfl) (by decide) (fun q4 => ?_) (fun q4 => ?_)
      · have t4 := q4
        try simp only [e1x, e0x, i10, thrP, thrN, Classical.not_not, not_and, not_or, not_true_eq_false, not_false_eq_true, true_and, and_true, and_self, or_false, or_true, false_or, true_or, eq_self] at t4
        exact absurd q4 (nI_ge hkn (by decide))
      · have t4 := q4
        try simp only [e1x, e0x, i10, thrP, thrN, Classical.not_not, not_and, not_or, not_true_eq_false, not_false_eq_true, true_and, and_true, and_self, or_false, or_true, false_or, true_or, eq_self] at t4
        refine g_aload_n (pc := 41) (dd d_Mod_setUp 25 rfl) rfl ?_
        refine g_getr (pc := 42) (dd d_Mod_setUp 26 rfl) f_Mod_65 ob_MO rfl (mr_ints hX) ?_
        refine g_iload_n (pc := 45) (dd d_Mod_setUp 27 rfl) rfl ?_
        refine g_iconst (pc := 46) (v := 0) (dd d_Mod_setUp 28 rfl) (by decide) ?_
        refine g_iastN (pc := 47) (dd d_Mod_setUp 29 rfl) ar_A_ints (by rw [vp_in_iff, nI_toInt (by omega)]; omega) (fun I5 hI5 => ?_)
        refine g_aload_n (pc := 48) (dd d_Mod_setUp 30 rfl) rfl ?_
        refine g_getr (pc := 49) (dd d_Mod_setUp 31 rfl) f_Mod_68 ob_MO rfl (mr_held hX) ?_
        refine g_iload_n (pc := 52) (dd d_Mod_setUp 32 rfl) rfl ?_
        refine g_iconst (pc := 53) (v := 0) (dd d_Mod_setUp 33 rfl) (by decide) ?_
        refine g_iastN (pc := 54) (dd d_Mod_setUp 34 rfl) ar_A_held (by rw [vp_in_iff, nI_toInt (by omega)]; omega) (fun I6 hI6 => ?_)
        refine g_aload_n (pc := 55) (dd d_Mod_setUp 35 rfl) rfl ?_
        refine g_getr (pc := 56) (dd d_Mod_setUp 36 rfl) f_Mod_71 ob_MO rfl (mr_owners hX) ?_
        refine g_iload_n (pc := 59) (dd d_Mod_setUp 37 rfl) rfl ?_
        refine g_iconst (pc := 60) (v := 0) (dd d_Mod_setUp 38 rfl) (by decide) ?_
        refine g_iastN (pc := 61) (dd d_Mod_setUp 39 rfl) ar_A_owners (by rw [vp_in_iff, nI_toInt (by omega)]; omega) (fun I7 hI7 => ?_)
        refine g_iincW (pc := 62) (w := 1) (dd d_Mod_setUp 40 rfl) rfl (by decide) (by decide) ?_
        refine g_goto (pc := 65) (tgt := 35) (dd d_Mod_setUp 41 rfl) (by decide) ?_
        subst hI7 hI6 hI5
        exact GG_eq ih rfl (by rw [← nI_1]; rfl) rfl
  obtain ⟨I8, hI8⟩ : ∃ z, z = (lp_Mod_setUp_35 I4 96) := ⟨_, rfl⟩
  rw [← hI8]
  refine g_iconst (pc := 68) (v := 0) (dd d_Mod_setUp 42 rfl) (by decide) ?_
  refine g_istore_n (pc := 69) (dd d_Mod_setUp 43 rfl) (by decide) ?_
  suffices K70 : GG Δ m_Mod_setUp Γ NN 0 0 ((lp_Mod_setUp_70 I8 8), X) 96 [some (.ref (Δ.ba + MO)), some (.int (c)), some (.int (nI 8))] [] by
    refine down 8 (P := fun k => GG Δ m_Mod_setUp Γ NN 0 0 ((lp_Mod_setUp_70 I8 k), X) 70 [some (.ref (Δ.ba + MO)), some (.int (c)), some (.int (nI k))] []) ?_ ?_
    · skip
      refine g_iload_n (pc := 70) (dd d_Mod_setUp 44 rfl) rfl ?_
      refine g_bipush (pc := 71) (v := 8) (dd d_Mod_setUp 45 rfl) (by decide) ?_
      refine g_icmpge (pc := 73) (tgt := 96) (dd d_Mod_setUp 46 rfl) (by decide) (fun q5 => ?_) (fun q5 => ?_)
      · have t5 := q5
        try simp only [e1x, e0x, i10, thrP, thrN, Classical.not_not, not_and, not_or, not_true_eq_false, not_false_eq_true, true_and, and_true, and_self, or_false, or_true, false_or, true_or, eq_self] at t5
        exact K70
      · have t5 := q5
        try simp only [e1x, e0x, i10, thrP, thrN, Classical.not_not, not_and, not_or, not_true_eq_false, not_false_eq_true, true_and, and_true, and_self, or_false, or_true, false_or, true_or, eq_self] at t5
        exact absurd (Int32.le_refl _) q5
    · intro k hkn ih
      refine g_iload_n (pc := 70) (dd d_Mod_setUp 44 rfl) rfl ?_
      refine g_bipush (pc := 71) (v := 8) (dd d_Mod_setUp 45 rfl) (by decide) ?_
      refine g_icmpge (pc := 73) (tgt := 96) (dd d_Mod_setUp 46 rfl) (by decide) (fun q6 => ?_) (fun q6 => ?_)
      · have t6 := q6
        try simp only [e1x, e0x, i10, thrP, thrN, Classical.not_not, not_and, not_or, not_true_eq_false, not_false_eq_true, true_and, and_true, and_self, or_false, or_true, false_or, true_or, eq_self] at t6
        exact absurd q6 (nI_ge hkn (by decide))
      · have t6 := q6
        try simp only [e1x, e0x, i10, thrP, thrN, Classical.not_not, not_and, not_or, not_true_eq_false, not_false_eq_true, true_and, and_true, and_self, or_false, or_true, false_or, true_or, eq_self] at t6
        refine g_aload_n (pc := 76) (dd d_Mod_setUp 47 rfl) rfl ?_
        refine g_getr (pc := 77) (dd d_Mod_setUp 48 rfl) f_Mod_74 ob_MO rfl (mr_registers hX) ?_
        refine g_iload_n (pc := 80) (dd d_Mod_setUp 49 rfl) rfl ?_
        refine g_iconst (pc := 81) (v := 0) (dd d_Mod_setUp 50 rfl) (by decide) ?_
        refine g_iastN (pc := 82) (dd d_Mod_setUp 51 rfl) ar_A_registers (by rw [vp_in_iff, nI_toInt (by omega)]; omega) (fun I9 hI9 => ?_)
        refine g_aload_n (pc := 83) (dd d_Mod_setUp 52 rfl) rfl ?_
        refine g_getr (pc := 84) (dd d_Mod_setUp 53 rfl) f_Mod_77 ob_MO rfl (mr_registerTags hX) ?_
        refine g_iload_n (pc := 87) (dd d_Mod_setUp 54 rfl) rfl ?_
        refine g_iconst (pc := 88) (v := 0) (dd d_Mod_setUp 55 rfl) (by decide) ?_
        refine g_iastN (pc := 89) (dd d_Mod_setUp 56 rfl) ar_A_registerTags (by rw [vp_in_iff, nI_toInt (by omega)]; omega) (fun I10 hI10 => ?_)
        refine g_iincW (pc := 90) (w := 1) (dd d_Mod_setUp 57 rfl) rfl (by decide) (by decide) ?_
        refine g_goto (pc := 93) (tgt := 70) (dd d_Mod_setUp 58 rfl) (by decide) ?_
        subst hI10 hI9
        exact GG_eq ih rfl (by rw [← nI_1]; rfl) rfl
  obtain ⟨I11, hI11⟩ : ∃ z, z = (lp_Mod_setUp_70 I8 8) := ⟨_, rfl⟩
  rw [← hI11]
  refine g_aload_n (pc := 96) (dd d_Mod_setUp 59 rfl) rfl ?_
  refine g_iconst (pc := 97) (v := 0) (dd d_Mod_setUp_1 0 rfl) (by decide) ?_
  refine g_putiN (pc := 98) (dd d_Mod_setUp_1 1 rfl) f_Mod_391 fm_Mod_42 ob_MO rfl (fun I12 hI12 => ?_)
  refine g_aload_n (pc := 101) (dd d_Mod_setUp_1 2 rfl) rfl ?_
  refine g_iconst (pc := 102) (v := 0) (dd d_Mod_setUp_1 3 rfl) (by decide) ?_
  refine g_putiN (pc := 103) (dd d_Mod_setUp_1 4 rfl) f_Mod_394 fm_Mod_43 ob_MO rfl (fun I13 hI13 => ?_)
  refine g_aload_n (pc := 106) (dd d_Mod_setUp_1 5 rfl) rfl ?_
  refine g_iconst (pc := 107) (v := (-1)) (dd d_Mod_setUp_1 6 rfl) (by decide) ?_
  refine g_putiN (pc := 108) (dd d_Mod_setUp_1 7 rfl) f_Mod_397 fm_Mod_44 ob_MO rfl (fun I14 hI14 => ?_)
  refine g_aload_n (pc := 111) (dd d_Mod_setUp_1 8 rfl) rfl ?_
  refine g_iconst (pc := 112) (v := 0) (dd d_Mod_setUp_1 9 rfl) (by decide) ?_
  refine g_putiN (pc := 113) (dd d_Mod_setUp_1 10 rfl) f_Mod_400 fm_Mod_45 ob_MO rfl (fun I15 hI15 => ?_)
  refine g_aload_n (pc := 116) (dd d_Mod_setUp_1 11 rfl) rfl ?_
  refine g_iconst (pc := 117) (v := 0) (dd d_Mod_setUp_1 12 rfl) (by decide) ?_
  refine g_putiN (pc := 118) (dd d_Mod_setUp_1 13 rfl) f_Mod_403 fm_Mod_48 ob_MO rfl (fun I16 hI16 => ?_)
  refine g_aload_n (pc := 121) (dd d_Mod_setUp_1 14 rfl) rfl ?_
  refine g_iconst (pc := 122) (v := 0) (dd d_Mod_setUp_1 15 rfl) (by decide) ?_
  refine g_putiN (pc := 123) (dd d_Mod_setUp_1 16 rfl) f_Mod_406 fm_Mod_50 ob_MO rfl (fun I17 hI17 => ?_)
  refine g_aload_n (pc := 126) (dd d_Mod_setUp_1 17 rfl) rfl ?_
  refine g_iconst (pc := 127) (v := 0) (dd d_Mod_setUp_1 18 rfl) (by decide) ?_
  refine g_putiN (pc := 128) (dd d_Mod_setUp_1 19 rfl) f_Mod_409 fm_Mod_51 ob_MO rfl (fun I18 hI18 => ?_)
  refine g_aload_n (pc := 131) (dd d_Mod_setUp_1 20 rfl) rfl ?_
  refine g_iconst (pc := 132) (v := 0) (dd d_Mod_setUp_1 21 rfl) (by decide) ?_
  refine g_putiN (pc := 133) (dd d_Mod_setUp_1 22 rfl) f_Mod_412 fm_Mod_52 ob_MO rfl (fun I19 hI19 => ?_)
  refine g_aload_n (pc := 136) (dd d_Mod_setUp_1 23 rfl) rfl ?_
  refine g_iconst (pc := 137) (v := 0) (dd d_Mod_setUp_1 24 rfl) (by decide) ?_
  refine g_putiN (pc := 138) (dd d_Mod_setUp_1 25 rfl) f_Mod_382 fm_Mod_53 ob_MO rfl (fun I20 hI20 => ?_)
  refine g_aload_n (pc := 141) (dd d_Mod_setUp_1 26 rfl) rfl ?_
  refine g_iconst (pc := 142) (v := 0) (dd d_Mod_setUp_1 27 rfl) (by decide) ?_
  refine g_putiN (pc := 143) (dd d_Mod_setUp_1 28 rfl) f_Mod_385 fm_Mod_54 ob_MO rfl (fun I21 hI21 => ?_)
  refine g_aload_n (pc := 146) (dd d_Mod_setUp_1 29 rfl) rfl ?_
  refine g_iconst (pc := 147) (v := 0) (dd d_Mod_setUp_1 30 rfl) (by decide) ?_
  refine g_putiN (pc := 148) (dd d_Mod_setUp_1 31 rfl) f_Mod_415 fm_Mod_55 ob_MO rfl (fun I22 hI22 => ?_)
  refine g_aload_n (pc := 151) (dd d_Mod_setUp_1 32 rfl) rfl ?_
  refine g_iconst (pc := 152) (v := 0) (dd d_Mod_setUp_1 33 rfl) (by decide) ?_
  refine g_putiN (pc := 153) (dd d_Mod_setUp_1 34 rfl) f_Mod_376 fm_Mod_58 ob_MO rfl (fun I23 hI23 => ?_)
  refine g_aload_n (pc := 156) (dd d_Mod_setUp_1 35 rfl) rfl ?_
  refine g_iconst (pc := 157) (v := 0) (dd d_Mod_setUp_1 36 rfl) (by decide) ?_
  refine g_putiN (pc := 158) (dd d_Mod_setUp_1 37 rfl) f_Mod_379 fm_Mod_59 ob_MO rfl (fun I24 hI24 => ?_)
  refine g_aload_n (pc := 161) (dd d_Mod_setUp_1 38 rfl) rfl ?_
  refine g_iconst (pc := 162) (v := 0) (dd d_Mod_setUp_1 39 rfl) (by decide) ?_
  refine g_putiN (pc := 163) (dd d_Mod_setUp_1 40 rfl) f_Mod_418 fm_Mod_63 ob_MO rfl (fun I25 hI25 => ?_)
  refine g_aload_n (pc := 166) (dd d_Mod_setUp_1 41 rfl) rfl ?_
  refine g_iconst (pc := 167) (v := (-1)) (dd d_Mod_setUp_1 42 rfl) (by decide) ?_
  refine g_putiN (pc := 168) (dd d_Mod_setUp_1 43 rfl) f_Mod_110 fm_Mod_66 ob_MO rfl (fun I26 hI26 => ?_)
  refine g_iconst (pc := 171) (v := 0) (dd d_Mod_setUp_1 44 rfl) (by decide) ?_
  refine g_istore_n (pc := 172) (dd d_Mod_setUp_1 45 rfl) (by decide) ?_
  suffices K173 : GG Δ m_Mod_setUp Γ NN 0 0 ((lp_Mod_setUp_173 I26 88), X) 192 [some (.ref (Δ.ba + MO)), some (.int (c)), some (.int (nI 88))] [] by
    refine down 88 (P := fun k => GG Δ m_Mod_setUp Γ NN 0 0 ((lp_Mod_setUp_173 I26 k), X) 173 [some (.ref (Δ.ba + MO)), some (.int (c)), some (.int (nI k))] []) ?_ ?_
    · skip
      refine g_iload_n (pc := 173) (dd d_Mod_setUp_1 46 rfl) rfl ?_
      refine g_bipush (pc := 174) (v := 88) (dd d_Mod_setUp_1 47 rfl) (by decide) ?_
      refine g_icmpge (pc := 176) (tgt := 192) (dd d_Mod_setUp_1 48 rfl) (by decide) (fun q7 => ?_) (fun q7 => ?_)
      · have t7 := q7
        try simp only [e1x, e0x, i10, thrP, thrN, Classical.not_not, not_and, not_or, not_true_eq_false, not_false_eq_true, true_and, and_true, and_self, or_false, or_true, false_or, true_or, eq_self] at t7
        exact K173
      · have t7 := q7
        try simp only [e1x, e0x, i10, thrP, thrN, Classical.not_not, not_and, not_or, not_true_eq_false, not_false_eq_true, true_and, and_true, and_self, or_false, or_true, false_or, true_or, eq_self] at t7
        exact absurd (Int32.le_refl _) q7
    · intro k hkn ih
      refine g_iload_n (pc := 173) (dd d_Mod_setUp_1 46 rfl) rfl ?_
      refine g_bipush (pc := 174) (v := 88) (dd d_Mod_setUp_1 47 rfl) (by decide) ?_
      refine g_icmpge (pc := 176) (tgt := 192) (dd d_Mod_setUp_1 48 rfl) (by decide) (fun q8 => ?_) (fun q8 => ?_)
      · have t8 := q8
        try simp only [e1x, e0x, i10, thrP, thrN, Classical.not_not, not_and, not_or, not_true_eq_false, not_false_eq_true, true_and, and_true, and_self, or_false, or_true, false_or, true_or, eq_self] at t8
        exact absurd q8 (nI_ge hkn (by decide))
      · have t8 := q8
        try simp only [e1x, e0x, i10, thrP, thrN, Classical.not_not, not_and, not_or, not_true_eq_false, not_false_eq_true, true_and, and_true, and_self, or_false, or_true, false_or, true_or, eq_self] at t8
        refine g_aload_n (pc := 179) (dd d_Mod_setUp_1 49 rfl) rfl ?_
        refine g_getr (pc := 180) (dd d_Mod_setUp_1 50 rfl) f_Mod_107 ob_MO rfl (mr_counts hX) ?_
        refine g_iload_n (pc := 183) (dd d_Mod_setUp_1 51 rfl) rfl ?_
        refine g_iconst (pc := 184) (v := 0) (dd d_Mod_setUp_1 52 rfl) (by decide) ?_
        refine g_iastN (pc := 185) (dd d_Mod_setUp_1 53 rfl) ar_A_counts (by rw [vp_in_iff, nI_toInt (by omega)]; omega) (fun I27 hI27 => ?_)
        refine g_iincW (pc := 186) (w := 1) (dd d_Mod_setUp_1 54 rfl) rfl (by decide) (by decide) ?_
        refine g_goto (pc := 189) (tgt := 173) (dd d_Mod_setUp_1 55 rfl) (by decide) ?_
        subst hI27
        exact GG_eq ih rfl (by rw [← nI_1]; rfl) rfl
  obtain ⟨I28, hI28⟩ : ∃ z, z = (lp_Mod_setUp_173 I26 88) := ⟨_, rfl⟩
  rw [← hI28]
  subst hI28 hI26 hI25 hI24 hI23 hI22 hI21 hI20 hI19 hI18 hI17 hI16 hI15 hI14 hI13 hI12 hI11 hI8 hI4 hI1
  exact g_vret (pc := 192) rfl (dd d_Mod_setUp_1 56 rfl) hT
def lp_Mod_swapTexts_2 (s0 : (Nat → Nat → Int32)) : Nat → (Nat → Nat → Int32)
  | 0 => s0
  | k + 1 => (fun s : (Nat → Nat → Int32) => (up (up s A_signs (nI k : Int32).toNatClampNeg (s A_kept (nI k : Int32).toNatClampNeg)) A_kept (nI k : Int32).toNatClampNeg (s A_signs (nI k : Int32).toNatClampNeg))) (lp_Mod_swapTexts_2 s0 k)
set_option maxRecDepth 20000 in
set_option maxHeartbeats 4000000 in
theorem ev_Mod_swapTexts {Δ : Dx} {X : Lx} (hX : MX Δ X) (I : Nat → Nat → Int32) : Ev Δ 0 m_Mod_swapTexts [.ref (Δ.ba + MO)] (I, X) (none) ((up (up ((lp_Mod_swapTexts_2 I 900)) MO 2 (((lp_Mod_swapTexts_2 I 900)) MO 32)) MO 32 (((lp_Mod_swapTexts_2 I 900)) MO 2)), X) := by
  refine ev_of (by decide) (Nat.le_of_ble_eq_true rfl) (fun Γ hk hR hT => ?_)
  refine g_iconst (pc := 0) (v := 0) (dd d_Mod_swapTexts 0 rfl) (by decide) ?_
  refine g_istore_n (pc := 1) (dd d_Mod_swapTexts 1 rfl) (by decide) ?_
  refine g_drop [2] ?_
  suffices K2 : GG Δ m_Mod_swapTexts Γ NN 0 0 ((lp_Mod_swapTexts_2 I 900), X) 41 [some (.ref (Δ.ba + MO)), some (.int (nI 900)), none] [] by
    refine down 900 (P := fun k => GG Δ m_Mod_swapTexts Γ NN 0 0 ((lp_Mod_swapTexts_2 I k), X) 2 [some (.ref (Δ.ba + MO)), some (.int (nI k)), none] []) ?_ ?_
    · skip
      refine g_iload_n (pc := 2) (dd d_Mod_swapTexts 2 rfl) rfl ?_
      refine g_sipush (pc := 3) (v := 900) (dd d_Mod_swapTexts 3 rfl) (by decide) ?_
      refine g_icmpge (pc := 6) (tgt := 41) (dd d_Mod_swapTexts 4 rfl) (by decide) (fun q1 => ?_) (fun q1 => ?_)
      · have t1 := q1
        try simp only [e1x, e0x, i10, thrP, thrN, Classical.not_not, not_and, not_or, not_true_eq_false, not_false_eq_true, true_and, and_true, and_self, or_false, or_true, false_or, true_or, eq_self] at t1
        exact K2
      · have t1 := q1
        try simp only [e1x, e0x, i10, thrP, thrN, Classical.not_not, not_and, not_or, not_true_eq_false, not_false_eq_true, true_and, and_true, and_self, or_false, or_true, false_or, true_or, eq_self] at t1
        exact absurd (Int32.le_refl _) q1
    · intro k hkn ih
      refine g_iload_n (pc := 2) (dd d_Mod_swapTexts 2 rfl) rfl ?_
      refine g_sipush (pc := 3) (v := 900) (dd d_Mod_swapTexts 3 rfl) (by decide) ?_
      refine g_icmpge (pc := 6) (tgt := 41) (dd d_Mod_swapTexts 4 rfl) (by decide) (fun q2 => ?_) (fun q2 => ?_)
      · have t2 := q2
        try simp only [e1x, e0x, i10, thrP, thrN, Classical.not_not, not_and, not_or, not_true_eq_false, not_false_eq_true, true_and, and_true, and_self, or_false, or_true, false_or, true_or, eq_self] at t2
        exact absurd q2 (nI_ge hkn (by decide))
      · have t2 := q2
        try simp only [e1x, e0x, i10, thrP, thrN, Classical.not_not, not_and, not_or, not_true_eq_false, not_false_eq_true, true_and, and_true, and_self, or_false, or_true, false_or, true_or, eq_self] at t2
        refine g_aload_n (pc := 9) (dd d_Mod_swapTexts 5 rfl) rfl ?_
        refine g_getr (pc := 10) (dd d_Mod_swapTexts 6 rfl) f_Mod_7 ob_MO rfl (mr_signs hX) ?_
        refine g_iload_n (pc := 13) (dd d_Mod_swapTexts 7 rfl) rfl ?_
        refine g_iald (pc := 14) (dd d_Mod_swapTexts 8 rfl) ar_A_signs (by rw [vp_in_iff, nI_toInt (by omega)]; omega) ?_
        refine g_istore_n (pc := 15) (dd d_Mod_swapTexts 9 rfl) (by decide) ?_
        refine g_aload_n (pc := 16) (dd d_Mod_swapTexts 10 rfl) rfl ?_
        refine g_getr (pc := 17) (dd d_Mod_swapTexts 11 rfl) f_Mod_7 ob_MO rfl (mr_signs hX) ?_
        refine g_iload_n (pc := 20) (dd d_Mod_swapTexts 12 rfl) rfl ?_
        refine g_aload_n (pc := 21) (dd d_Mod_swapTexts 13 rfl) rfl ?_
        refine g_getr (pc := 22) (dd d_Mod_swapTexts 14 rfl) f_Mod_56 ob_MO rfl (mr_kept hX) ?_
        refine g_iload_n (pc := 25) (dd d_Mod_swapTexts 15 rfl) rfl ?_
        refine g_iald (pc := 26) (dd d_Mod_swapTexts 16 rfl) ar_A_kept (by rw [vp_in_iff, nI_toInt (by omega)]; omega) ?_
        refine g_iastN (pc := 27) (dd d_Mod_swapTexts 17 rfl) ar_A_signs (by rw [vp_in_iff, nI_toInt (by omega)]; omega) (fun I1 hI1 => ?_)
        refine g_aload_n (pc := 28) (dd d_Mod_swapTexts 18 rfl) rfl ?_
        refine g_getr (pc := 29) (dd d_Mod_swapTexts 19 rfl) f_Mod_56 ob_MO rfl (mr_kept hX) ?_
        refine g_iload_n (pc := 32) (dd d_Mod_swapTexts 20 rfl) rfl ?_
        refine g_iload_n (pc := 33) (dd d_Mod_swapTexts 21 rfl) rfl ?_
        refine g_iastN (pc := 34) (dd d_Mod_swapTexts 22 rfl) ar_A_kept (by rw [vp_in_iff, nI_toInt (by omega)]; omega) (fun I2 hI2 => ?_)
        refine g_iincW (pc := 35) (w := 1) (dd d_Mod_swapTexts 23 rfl) rfl (by decide) (by decide) ?_
        refine g_goto (pc := 38) (tgt := 2) (dd d_Mod_swapTexts 24 rfl) (by decide) ?_
        refine g_drop [2] ?_
        subst hI2 hI1
        exact GG_eq ih rfl (by rw [← nI_1]; rfl) rfl
  obtain ⟨I3, hI3⟩ : ∃ z, z = (lp_Mod_swapTexts_2 I 900) := ⟨_, rfl⟩
  rw [← hI3]
  refine g_aload_n (pc := 41) (dd d_Mod_swapTexts 25 rfl) rfl ?_
  refine g_geti (pc := 42) (dd d_Mod_swapTexts 26 rfl) f_Mod_247 ob_MO rfl ?_
  refine g_istore_n (pc := 45) (dd d_Mod_swapTexts 27 rfl) (by decide) ?_
  refine g_aload_n (pc := 46) (dd d_Mod_swapTexts 28 rfl) rfl ?_
  refine g_aload_n (pc := 47) (dd d_Mod_swapTexts 29 rfl) rfl ?_
  refine g_geti (pc := 48) (dd d_Mod_swapTexts 30 rfl) f_Mod_367 ob_MO rfl ?_
  refine g_putiN (pc := 51) (dd d_Mod_swapTexts 31 rfl) f_Mod_247 fm_Mod_2 ob_MO rfl (fun I4 hI4 => ?_)
  refine g_aload_n (pc := 54) (dd d_Mod_swapTexts 32 rfl) rfl ?_
  refine g_iload_n (pc := 55) (dd d_Mod_swapTexts 33 rfl) rfl ?_
  refine g_putiN (pc := 56) (dd d_Mod_swapTexts 34 rfl) f_Mod_367 fm_Mod_32 ob_MO rfl (fun I5 hI5 => ?_)
  subst hI5 hI4 hI3
  exact g_vret (pc := 59) rfl (dd d_Mod_swapTexts 35 rfl) hT
