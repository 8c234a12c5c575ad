def lp_Mod_setUp_7 (s0 : (Nat → Nat → Int32)) : Nat → (Nat → Nat → Int32)
  | 0 => s0
  | k + 1 => (fun s : (Nat → Nat → Int32) => (up (up s A_code (nI k : Int32).toNatClampNeg (0)) A_codeTags (nI k : Int32).toNatClampNeg (0))) (lp_Mod_setUp_7 s0 k)
def lp_Mod_setUp_35 (s0 : (Nat → Nat → Int32)) : Nat → (Nat → Nat → Int32)
  | 0 => s0
  | k + 1 => (fun s : (Nat → Nat → Int32) => (up (up (up s A_ints (nI k : Int32).toNatClampNeg (0)) A_held (nI k : Int32).toNatClampNeg (0)) A_owners (nI k : Int32).toNatClampNeg (0))) (lp_Mod_setUp_35 s0 k)
def lp_Mod_setUp_70 (s0 : (Nat → Nat → Int32)) : Nat → (Nat → Nat → Int32)
  | 0 => s0
  | k + 1 => (fun s : (Nat → Nat → Int32) => (up (up s A_registers (nI k : Int32).toNatClampNeg (0)) A_registerTags (nI k : Int32).toNatClampNeg (0))) (lp_Mod_setUp_70 s0 k)
def lp_Mod_setUp_173 (s0 : (Nat → Nat → Int32)) : Nat → (Nat → Nat → Int32)
  | 0 => s0
  | k + 1 => (fun s : (Nat → Nat → Int32) => (up s A_counts (nI k : Int32).toNatClampNeg (0))) (lp_Mod_setUp_173 s0 k)
def s_Mod_setUp (I : Nat → Nat → Int32) (c : Int32) : Nat → Nat → Int32 := ((lp_Mod_setUp_173 (up (up (up (up (up (up (up (up (up (up (up (up (up (up (up ((lp_Mod_setUp_70 ((lp_Mod_setUp_35 ((lp_Mod_setUp_7 (up I MO 34 (c)) 64)) 96)) 8)) MO 42 (0)) MO 43 (0)) MO 44 ((-1))) MO 45 (0)) MO 48 (0)) MO 50 (0)) MO 51 (0)) MO 52 (0)) MO 53 (0)) MO 54 (0)) MO 55 (0)) MO 58 (0)) MO 59 (0)) MO 63 (0)) MO 66 ((-1))) 88))
set_option maxRecDepth 20000 in
set_option maxHeartbeats 4000000 in
theorem ev_Mod_setUp {Δ : Dx} {X : Lx} (hX : MX Δ X) (I : Nat → Nat → Int32) (c : Int32) : Ev Δ 0 m_Mod_setUp [.ref (Δ.ba + MO), .int c] (I, X) (none) (s_Mod_setUp I c, X) := by
  refine ev_of (by decide) (Nat.le_of_ble_eq_true rfl) (fun Γ hk hR hT => ?_)
  unfold s_Mod_setUp at hT
  refine g_aload_n (pc := 0) (dd d_Mod_setUp 0 rfl) rfl ?_
  refine g_iload_n (pc := 1) (dd d_Mod_setUp 1 rfl) rfl ?_
  refine g_putiN (pc := 2) (dd d_Mod_setUp 2 rfl) f_Mod_388 fm_Mod_34 ob_MO rfl (fun I1 hI1 => ?_)
  refine g_iconst (pc := 5) (v := 0) (dd d_Mod_setUp 3 rfl) (by decide) ?_
  refine g_istore_n (pc := 6) (dd d_Mod_setUp 4 rfl) (by decide) ?_
  suffices K7 : GG Δ m_Mod_setUp Γ NN 0 0 ((lp_Mod_setUp_7 I1 64), X) 33 [some (.ref (Δ.ba + MO)), some (.int (c)), some (.int (nI 64))] [] by
    refine down 64 (P := fun k => GG Δ m_Mod_setUp Γ NN 0 0 ((lp_Mod_setUp_7 I1 k), X) 7 [some (.ref (Δ.ba + MO)), some (.int (c)), some (.int (nI k))] []) ?_ ?_
    · skip
      refine g_iload_n (pc := 7) (dd d_Mod_setUp 5 rfl) rfl ?_
      refine g_bipush (pc := 8) (v := 64) (dd d_Mod_setUp 6 rfl) (by decide) ?_
      refine g_icmpge (pc := 10) (tgt := 33) (dd d_Mod_setUp 7 rfl) (by decide) (fun q1 => ?_) (fun q1 => ?_)
      · have t1 := q1
        try simp only [e1x, e0x, i10, thrP, thrN, Classical.not_not, not_and, not_or, not_true_eq_false, not_false_eq_true, true_and, and_true, and_self, or_false, or_true, false_or, true_or, eq_self] at t1
        exact K7
      · have t1 := q1
        try simp only [e1x, e0x, i10, thrP, thrN, Classical.not_not, not_and, not_or, not_true_eq_false, not_false_eq_true, true_and, and_true, and_self, or_false, or_true, false_or, true_or, eq_self] at t1
        exact absurd (Int32.le_refl _) q1
    · intro k hkn ih
      refine g_iload_n (pc := 7) (dd d_Mod_setUp 5 rfl) rfl ?_
      refine g_bipush (pc := 8) (v := 64) (dd d_Mod_setUp 6 rfl) (by decide) ?_
      refine g_icmpge (pc := 10) (tgt := 33) (dd d_Mod_setUp 7 rfl) (by decide) (fun q2 => ?_) (fun q2 => ?_)
      · have t2 := q2
        try simp only [e1x, e0x, i10, thrP, thrN, Classical.not_not, not_and, not_or, not_true_eq_false, not_false_eq_true, true_and, and_true, and_self, or_false, or_true, false_or, true_or, eq_self] at t2
        exact absurd q2 (nI_ge hkn (by decide))
      · have t2 := q2
        try simp only [e1x, e0x, i10, thrP, thrN, Classical.not_not, not_and, not_or, not_true_eq_false, not_false_eq_true, true_and, and_true, and_self, or_false, or_true, false_or, true_or, eq_self] at t2
        refine g_aload_n (pc := 13) (dd d_Mod_setUp 8 rfl) rfl ?_
        refine g_getr (pc := 14) (dd d_Mod_setUp 9 rfl) f_Mod_59 ob_MO rfl (mr_code hX) ?_
        refine g_iload_n (pc := 17) (dd d_Mod_setUp 10 rfl) rfl ?_
        refine g_iconst (pc := 18) (v := 0) (dd d_Mod_setUp 11 rfl) (by decide) ?_
        refine g_iastN (pc := 19) (dd d_Mod_setUp 12 rfl) ar_A_code (by rw [vp_in_iff, nI_toInt (by omega)]; omega) (fun I2 hI2 => ?_)
        refine g_aload_n (pc := 20) (dd d_Mod_setUp 13 rfl) rfl ?_
        refine g_getr (pc := 21) (dd d_Mod_setUp 14 rfl) f_Mod_62 ob_MO rfl (mr_codeTags hX) ?_
        refine g_iload_n (pc := 24) (dd d_Mod_setUp 15 rfl) rfl ?_
        refine g_iconst (pc := 25) (v := 0) (dd d_Mod_setUp 16 rfl) (by decide) ?_
        refine g_iastN (pc := 26) (dd d_Mod_setUp 17 rfl) ar_A_codeTags (by rw [vp_in_iff, nI_toInt (by omega)]; omega) (fun I3 hI3 => ?_)
        refine g_iincW (pc := 27) (w := 1) (dd d_Mod_setUp 18 rfl) rfl (by decide) (by decide) ?_
        refine g_goto (pc := 30) (tgt := 7) (dd d_Mod_setUp 19 rfl) (by decide) ?_
        subst hI3 hI2
        exact GG_eq ih rfl (by rw [← nI_1]; rfl) rfl
  obtain ⟨I4, hI4⟩ : ∃ z, z = (lp_Mod_setUp_7 I1 64) := ⟨_, rfl⟩
  rw [← hI4]
  refine g_iconst (pc := 33) (v := 0) (dd d_Mod_setUp 20 rfl) (by decide) ?_
  refine g_istore_n (pc := 34) (dd d_Mod_setUp 21 rfl) (by decide) ?_
  suffices K35 : GG Δ m_Mod_setUp Γ NN 0 0 ((lp_Mod_setUp_35 I4 96), X) 68 [some (.ref (Δ.ba + MO)), some (.int (c)), some (.int (nI 96))] [] by
    refine down 96 (P := fun k => GG Δ m_Mod_setUp Γ NN 0 0 ((lp_Mod_setUp_35 I4 k), X) 35 [some (.ref (Δ.ba + MO)), some (.int (c)), some (.int (nI k))] []) ?_ ?_
    · skip
      refine g_iload_n (pc := 35) (dd d_Mod_setUp 22 rfl) rfl ?_
      refine g_bipush (pc := 36) (v := 96) (dd d_Mod_setUp 23 rfl) (by decide) ?_
      refine g_icmpge (pc := 38) (tgt := 68) (dd d_Mod_setUp 24 rfl) (by decide) (fun q3 => ?_) (fun q3 => ?_)
      · have t3 := q3
        try simp only [e1x, e0x, i10, thrP, thrN, Classical.not_not, not_and, not_or, not_true_eq_false, not_false_eq_true, true_and, and_true, and_self, or_false, or_true, false_or, true_or, eq_self] at t3
        exact K35
      · have t3 := q3
        try simp only [e1x, e0x, i10, thrP, thrN, Classical.not_not, not_and, not_or, not_true_eq_false, not_false_eq_true, true_and, and_true, and_self, or_false, or_true, false_or, true_or, eq_self] at t3
        exact absurd (Int32.le_refl _) q3
    · intro k hkn ih
      refine g_iload_n (pc := 35) (dd d_Mod_setUp 22 rfl) rfl ?_
      refine g_bipush (pc := 36) (v := 96) (dd d_Mod_setUp 23 rfl) (by decide) ?_
      refine g_icmpge (pc := 38) (tgt := 68) (dd d_Mod_setUp 24 rfl) (by decide) (fun q4 => ?_) (fun q4 => ?_)
      · have t4 := q4
        try simp only [e1x, e0x, i10, thrP, thrN, Classical.not_not, not_and, not_or, not_true_eq_false, not_false_eq_true, true_and, and_true, and_self, or_false, or_true, false_or, true_or, eq_self] at t4
        exact absurd q4 (nI_ge hkn (by decide))
      · have t4 := q4
        try simp only [e1x, e0x, i10, thrP, thrN, Classical.not_not, not_and, not_or, not_true_eq_false, not_false_eq_true, true_and, and_true, and_self, or_false, or_true, false_or, true_or, eq_self] at t4
        refine g_aload_n (pc := 41) (dd d_Mod_setUp 25 rfl) rfl ?_
        refine g_getr (pc := 42) (dd d_Mod_setUp 26 rfl) f_Mod_65 ob_MO rfl (mr_ints hX) ?_
        refine g_iload_n (pc := 45) (dd d_Mod_setUp 27 rfl) rfl ?_
        refine g_iconst (pc := 46) (v := 0) (dd d_Mod_setUp 28 rfl) (by decide) ?_
        refine g_iastN (pc := 47) (dd d_Mod_setUp 29 rfl) ar_A_ints (by rw [vp_in_iff, nI_toInt (by omega)]; omega) (fun I5 hI5 => ?_)
        refine g_aload_n (pc := 48) (dd d_Mod_setUp 30 rfl) rfl ?_
        refine g_getr (pc := 49) (dd d_Mod_setUp 31 rfl) f_Mod_68 ob_MO rfl (mr_held hX) ?_
        refine g_iload_n (pc := 52) (dd d_Mod_setUp 32 rfl) rfl ?_
        refine g_iconst (pc := 53) (v := 0) (dd d_Mod_setUp 33 rfl) (by decide) ?_
        refine g_iastN (pc := 54) (dd d_Mod_setUp 34 rfl) ar_A_held (by rw [vp_in_iff, nI_toInt (by omega)]; omega) (fun I6 hI6 => ?_)
        refine g_aload_n (pc := 55) (dd d_Mod_setUp 35 rfl) rfl ?_
        refine g_getr (pc := 56) (dd d_Mod_setUp 36 rfl) f_Mod_71 ob_MO rfl (mr_owners hX) ?_
        refine g_iload_n (pc := 59) (dd d_Mod_setUp 37 rfl) rfl ?_
        refine g_iconst (pc := 60) (v := 0) (dd d_Mod_setUp 38 rfl) (by decide) ?_
        refine g_iastN (pc := 61) (dd d_Mod_setUp 39 rfl) ar_A_owners (by rw [vp_in_iff, nI_toInt (by omega)]; omega) (fun I7 hI7 => ?_)
        refine g_iincW (pc := 62) (w := 1) (dd d_Mod_setUp 40 rfl) rfl (by decide) (by decide) ?_
        refine g_goto (pc := 65) (tgt := 35) (dd d_Mod_setUp 41 rfl) (by decide) ?_
        subst hI7 hI6 hI5
        exact GG_eq ih rfl (by rw [← nI_1]; rfl) rfl
  obtain ⟨I8, hI8⟩ : ∃ z, z = (lp_Mod_setUp_35 I4 96) := ⟨_, rfl⟩
  rw [← hI8]
  refine g_iconst (pc := 68) (v := 0) (dd d_Mod_setUp 42 rfl) (by decide) ?_
  refine g_istore_n (pc := 69) (dd d_Mod_setUp 43 rfl) (by decide) ?_
  suffices K70 : GG Δ m_Mod_setUp Γ NN 0 0 ((lp_Mod_setUp_70 I8 8), X) 96 [some (.ref (Δ.ba + MO)), some (.int (c)), some (.int (nI 8))] [] by
    refine down 8 (P := fun k => GG Δ m_Mod_setUp Γ NN 0 0 ((lp_Mod_setUp_70 I8 k), X) 70 [some (.ref (Δ.ba + MO)), some (.int (c)), some (.int (nI k))] []) ?_ ?_
    · skip
      refine g_iload_n (pc := 70) (dd d_Mod_setUp 44 rfl) rfl ?_
      refine g_bipush (pc := 71) (v := 8) (dd d_Mod_setUp 45 rfl) (by decide) ?_
      refine g_icmpge (pc := 73) (tgt := 96) (dd d_Mod_setUp 46 rfl) (by decide) (fun q5 => ?_) (fun q5 => ?_)
      · have t5 := q5
        try simp only [e1x, e0x, i10, thrP, thrN, Classical.not_not, not_and, not_or, not_true_eq_false, not_false_eq_true, true_and, and_true, and_self, or_false, or_true, false_or, true_or, eq_self] at t5
        exact K70
      · have t5 := q5
        try simp only [e1x, e0x, i10, thrP, thrN, Classical.not_not, not_and, not_or, not_true_eq_false, not_false_eq_true, true_and, and_true, and_self, or_false, or_true, false_or, true_or, eq_self] at t5
        exact absurd (Int32.le_refl _) q5
    · intro k hkn ih
      refine g_iload_n (pc := 70) (dd d_Mod_setUp 44 rfl) rfl ?_
      refine g_bipush (pc := 71) (v := 8) (dd d_Mod_setUp 45 rfl) (by decide) ?_
      refine g_icmpge (pc := 73) (tgt := 96) (dd d_Mod_setUp 46 rfl) (by decide) (fun q6 => ?_) (fun q6 => ?_)
      · have t6 := q6
        try simp only [e1x, e0x, i10, thrP, thrN, Classical.not_not, not_and, not_or, not_true_eq_false, not_false_eq_true, true_and, and_true, and_self, or_false, or_true, false_or, true_or, eq_self] at t6
        exact absurd q6 (nI_ge hkn (by decide))
      · have t6 := q6
        try simp only [e1x, e0x, i10, thrP, thrN, Classical.not_not, not_and, not_or, not_true_eq_false, not_false_eq_true, true_and, and_true, and_self, or_false, or_true, false_or, true_or, eq_self] at t6
        refine g_aload_n (pc := 76) (dd d_Mod_setUp 47 rfl) rfl ?_
        refine g_getr (pc := 77) (dd d_Mod_setUp 48 rfl) f_Mod_74 ob_MO rfl (mr_registers hX) ?_
        refine g_iload_n (pc := 80) (dd d_Mod_setUp 49 rfl) rfl ?_
        refine g_iconst (pc := 81) (v := 0) (dd d_Mod_setUp 50 rfl) (by decide) ?_
        refine g_iastN (pc := 82) (dd d_Mod_setUp 51 rfl) ar_A_registers (by rw [vp_in_iff, nI_toInt (by omega)]; omega) (fun I9 hI9 => ?_)
        refine g_aload_n (pc := 83) (dd d_Mod_setUp 52 rfl) rfl ?_
        refine g_getr (pc := 84) (dd d_Mod_setUp 53 rfl) f_Mod_77 ob_MO rfl (mr_registerTags hX) ?_
        refine g_iload_n (pc := 87) (dd d_Mod_setUp 54 rfl) rfl ?_
        refine g_iconst (pc := 88) (v := 0) (dd d_Mod_setUp 55 rfl) (by decide) ?_
        refine g_iastN (pc := 89) (dd d_Mod_setUp 56 rfl) ar_A_registerTags (by rw [vp_in_iff, nI_toInt (by omega)]; omega) (fun I10 hI10 => ?_)
        refine g_iincW (pc := 90) (w := 1) (dd d_Mod_setUp 57 rfl) rfl (by decide) (by decide) ?_
        refine g_goto (pc := 93) (tgt := 70) (dd d_Mod_setUp 58 rfl) (by decide) ?_
        subst hI10 hI9
        exact GG_eq ih rfl (by rw [← nI_1]; rfl) rfl
  obtain ⟨I11, hI11⟩ : ∃ z, z = (lp_Mod_setUp_70 I8 8) := ⟨_, rfl⟩
  rw [← hI11]
  refine g_aload_n (pc := 96) (dd d_Mod_setUp 59 rfl) rfl ?_
  refine g_iconst (pc := 97) (v := 0) (dd d_Mod_setUp_1 0 rfl) (by decide) ?_
  refine g_putiN (pc := 98) (dd d_Mod_setUp_1 1 rfl) f_Mod_391 fm_Mod_42 ob_MO rfl (fun I12 hI12 => ?_)
  refine g_aload_n (pc := 101) (dd d_Mod_setUp_1 2 rfl) rfl ?_
  refine g_iconst (pc := 102) (v := 0) (dd d_Mod_setUp_1 3 rfl) (by decide) ?_
  refine g_putiN (pc := 103) (dd d_Mod_setUp_1 4 rfl) f_Mod_394 fm_Mod_43 ob_MO rfl (fun I13 hI13 => ?_)
  refine g_aload_n (pc := 106) (dd d_Mod_setUp_1 5 rfl) rfl ?_
  refine g_iconst (pc := 107) (v := (-1)) (dd d_Mod_setUp_1 6 rfl) (by decide) ?_
  refine g_putiN (pc := 108) (dd d_Mod_setUp_1 7 rfl) f_Mod_397 fm_Mod_44 ob_MO rfl (fun I14 hI14 => ?_)
  refine g_aload_n (pc := 111) (dd d_Mod_setUp_1 8 rfl) rfl ?_
  refine g_iconst (pc := 112) (v := 0) (dd d_Mod_setUp_1 9 rfl) (by decide) ?_
  refine g_putiN (pc := 113) (dd d_Mod_setUp_1 10 rfl) f_Mod_400 fm_Mod_45 ob_MO rfl (fun I15 hI15 => ?_)
  refine g_aload_n (pc := 116) (dd d_Mod_setUp_1 11 rfl) rfl ?_
  refine g_iconst (pc := 117) (v := 0) (dd d_Mod_setUp_1 12 rfl) (by decide) ?_
  refine g_putiN (pc := 118) (dd d_Mod_setUp_1 13 rfl) f_Mod_403 fm_Mod_48 ob_MO rfl (fun I16 hI16 => ?_)
  refine g_aload_n (pc := 121) (dd d_Mod_setUp_1 14 rfl) rfl ?_
  refine g_iconst (pc := 122) (v := 0) (dd d_Mod_setUp_1 15 rfl) (by decide) ?_
  refine g_putiN (pc := 123) (dd d_Mod_setUp_1 16 rfl) f_Mod_406 fm_Mod_50 ob_MO rfl (fun I17 hI17 => ?_)
  refine g_aload_n (pc := 126) (dd d_Mod_setUp_1 17 rfl) rfl ?_
  refine g_iconst (pc := 127) (v := 0) (dd d_Mod_setUp_1 18 rfl) (by decide) ?_
  refine g_putiN (pc := 128) (dd d_Mod_setUp_1 19 rfl) f_Mod_409 fm_Mod_51 ob_MO rfl (fun I18 hI18 => ?_)
  refine g_aload_n (pc := 131) (dd d_Mod_setUp_1 20 rfl) rfl ?_
  refine g_iconst (pc := 132) (v := 0) (dd d_Mod_setUp_1 21 rfl) (by decide) ?_
  refine g_putiN (pc := 133) (dd d_Mod_setUp_1 22 rfl) f_Mod_412 fm_Mod_52 ob_MO rfl (fun I19 hI19 => ?_)
  refine g_aload_n (pc := 136) (dd d_Mod_setUp_1 23 rfl) rfl ?_
  refine g_iconst (pc := 137) (v := 0) (dd d_Mod_setUp_1 24 rfl) (by decide) ?_
  refine g_putiN (pc := 138) (dd d_Mod_setUp_1 25 rfl) f_Mod_382 fm_Mod_53 ob_MO rfl (fun I20 hI20 => ?_)
  refine g_aload_n (pc := 141) (dd d_Mod_setUp_1 26 rfl) rfl ?_
  refine g_iconst (pc := 142) (v := 0) (dd d_Mod_setUp_1 27 rfl) (by decide) ?_
  refine g_putiN (pc := 143) (dd d_Mod_setUp_1 28 rfl) f_Mod_385 fm_Mod_54 ob_MO rfl (fun I21 hI21 => ?_)
  refine g_aload_n (pc := 146) (dd d_Mod_setUp_1 29 rfl) rfl ?_
  refine g_iconst (pc := 147) (v := 0) (dd d_Mod_setUp_1 30 rfl) (by decide) ?_
  refine g_putiN (pc := 148) (dd d_Mod_setUp_1 31 rfl) f_Mod_415 fm_Mod_55 ob_MO rfl (fun I22 hI22 => ?_)
  refine g_aload_n (pc := 151) (dd d_Mod_setUp_1 32 rfl) rfl ?_
  refine g_iconst (pc := 152) (v := 0) (dd d_Mod_setUp_1 33 rfl) (by decide) ?_
  refine g_putiN (pc := 153) (dd d_Mod_setUp_1 34 rfl) f_Mod_376 fm_Mod_58 ob_MO rfl (fun I23 hI23 => ?_)
  refine g_aload_n (pc := 156) (dd d_Mod_setUp_1 35 rfl) rfl ?_
  refine g_iconst (pc := 157) (v := 0) (dd d_Mod_setUp_1 36 rfl) (by decide) ?_
  refine g_putiN (pc := 158) (dd d_Mod_setUp_1 37 rfl) f_Mod_379 fm_Mod_59 ob_MO rfl (fun I24 hI24 => ?_)
  refine g_aload_n (pc := 161) (dd d_Mod_setUp_1 38 rfl) rfl ?_
  refine g_iconst (pc := 162) (v := 0) (dd d_Mod_setUp_1 39 rfl) (by decide) ?_
  refine g_putiN (pc := 163) (dd d_Mod_setUp_1 40 rfl) f_Mod_418 fm_Mod_63 ob_MO rfl (fun I25 hI25 => ?_)
  refine g_aload_n (pc := 166) (dd d_Mod_setUp_1 41 rfl) rfl ?_
  refine g_iconst (pc := 167) (v := (-1)) (dd d_Mod_setUp_1 42 rfl) (by decide) ?_
  refine g_putiN (pc := 168) (dd d_Mod_setUp_1 43 rfl) f_Mod_110 fm_Mod_66 ob_MO rfl (fun I26 hI26 => ?_)
  refine g_iconst (pc := 171) (v := 0) (dd d_Mod_setUp_1 44 rfl) (by decide) ?_
  refine g_istore_n (pc := 172) (dd d_Mod_setUp_1 45 rfl) (by decide) ?_
  suffices K173 : GG Δ m_Mod_setUp Γ NN 0 0 ((lp_Mod_setUp_173 I26 88), X) 192 [some (.ref (Δ.ba + MO)), some (.int (c)), some (.int (nI 88))] [] by
    refine down 88 (P := fun k => GG Δ m_Mod_setUp Γ NN 0 0 ((lp_Mod_setUp_173 I26 k), X) 173 [some (.ref (Δ.ba + MO)), some (.int (c)), some (.int (nI k))] []) ?_ ?_
    · skip
      refine g_iload_n (pc := 173) (dd d_Mod_setUp_1 46 rfl) rfl ?_
      refine g_bipush (pc := 174) (v := 88) (dd d_Mod_setUp_1 47 rfl) (by decide) ?_
      refine g_icmpge (pc := 176) (tgt := 192) (dd d_Mod_setUp_1 48 rfl) (by decide) (fun q7 => ?_) (fun q7 => ?_)
      · have t7 := q7
        try simp only [e1x, e0x, i10, thrP, thrN, Classical.not_not, not_and, not_or, not_true_eq_false, not_false_eq_true, true_and, and_true, and_self, or_false, or_true, false_or, true_or, eq_self] at t7
        exact K173
      · have t7 := q7
        try simp only [e1x, e0x, i10, thrP, thrN, Classical.not_not, not_and, not_or, not_true_eq_false, not_false_eq_true, true_and, and_true, and_self, or_false, or_true, false_or, true_or, eq_self] at t7
        exact absurd (Int32.le_refl _) q7
    · intro k hkn ih
      refine g_iload_n (pc := 173) (dd d_Mod_setUp_1 46 rfl) rfl ?_
      refine g_bipush (pc := 174) (v := 88) (dd d_Mod_setUp_1 47 rfl) (by decide) ?_
      refine g_icmpge (pc := 176) (tgt := 192) (dd d_Mod_setUp_1 48 rfl) (by decide) (fun q8 => ?_) (fun q8 => ?_)
      · have t8 := q8
        try simp only [e1x, e0x, i10, thrP, thrN, Classical.not_not, not_and, not_or, not_true_eq_false, not_false_eq_true, true_and, and_true, and_self, or_false, or_true, false_or, true_or, eq_self] at t8
        exact absurd q8 (nI_ge hkn (by decide))
      · have t8 := q8
        try simp only [e1x, e0x, i10, thrP, thrN, Classical.not_not, not_and, not_or, not_true_eq_false, not_false_eq_true, true_and, and_true, and_self, or_false, or_true, false_or, true_or, eq_self] at t8
        refine g_aload_n (pc := 179) (dd d_Mod_setUp_1 49 rfl) rfl ?_
        refine g_getr (pc := 180) (dd d_Mod_setUp_1 50 rfl) f_Mod_107 ob_MO rfl (mr_counts hX) ?_
        refine g_iload_n (pc := 183) (dd d_Mod_setUp_1 51 rfl) rfl ?_
        refine g_iconst (pc := 184) (v := 0) (dd d_Mod_setUp_1 52 rfl) (by decide) ?_
        refine g_iastN (pc := 185) (dd d_Mod_setUp_1 53 rfl) ar_A_counts (by rw [vp_in_iff, nI_toInt (by omega)]; omega) (fun I27 hI27 => ?_)
        refine g_iincW (pc := 186) (w := 1) (dd d_Mod_setUp_1 54 rfl) rfl (by decide) (by decide) ?_
        refine g_goto (pc := 189) (tgt := 173) (dd d_Mod_setUp_1 55 rfl) (by decide) ?_
        subst hI27
        exact GG_eq ih rfl (by rw [← nI_1]; rfl) rfl
  obtain ⟨I28, hI28⟩ : ∃ z, z = (lp_Mod_setUp_173 I26 88) := ⟨_, rfl⟩
  rw [← hI28]
  subst hI28 hI26 hI25 hI24 hI23 hI22 hI21 hI20 hI19 hI18 hI17 hI16 hI15 hI14 hI13 hI12 hI11 hI8 hI4 hI1
  exact g_vret (pc := 192) rfl (dd d_Mod_setUp_1 56 rfl) hT
def lp_Mod_swapTexts_2 (s0 : (Nat → Nat → Int32)) : Nat → (Nat → Nat → Int32)
  | 0 => s0
  | k + 1 => (fun s : (Nat → Nat → Int32) => (up (up s A_signs (nI k : Int32).toNatClampNeg (s A_kept (nI k : Int32).toNatClampNeg)) A_kept (nI k : Int32).toNatClampNeg (s A_signs (nI k : Int32).toNatClampNeg))) (lp_Mod_swapTexts_2 s0 k)
def s_Mod_swapTexts (I : Nat → Nat → Int32) : Nat → Nat → Int32 := (up (up ((lp_Mod_swapTexts_2 I 900)) MO 2 (((lp_Mod_swapTexts_2 I 900)) MO 32)) MO 32 (((lp_Mod_swapTexts_2 I 900)) MO 2))
set_option maxRecDepth 20000 in
set_option maxHeartbeats 4000000 in
theorem ev_Mod_swapTexts {Δ : Dx} {X : Lx} (hX : MX Δ X) (I : Nat → Nat → Int32) : Ev Δ 0 m_Mod_swapTexts [.ref (Δ.ba + MO)] (I, X) (none) (s_Mod_swapTexts I, X) := by
  refine ev_of (by decide) (Nat.le_of_ble_eq_true rfl) (fun Γ hk hR hT => ?_)
  unfold s_Mod_swapTexts at hT
  refine g_iconst (pc := 0) (v := 0) (dd d_Mod_swapTexts 0 rfl) (by decide) ?_
  refine g_istore_n (pc := 1) (dd d_Mod_swapTexts 1 rfl) (by decide) ?_
  refine g_drop [2] ?_
  suffices K2 : GG Δ m_Mod_swapTexts Γ NN 0 0 ((lp_Mod_swapTexts_2 I 900), X) 41 [some (.ref (Δ.ba + MO)), some (.int (nI 900)), none] [] by
    refine down 900 (P := fun k => GG Δ m_Mod_swapTexts Γ NN 0 0 ((lp_Mod_swapTexts_2 I k), X) 2 [some (.ref (Δ.ba + MO)), some (.int (nI k)), none] []) ?_ ?_
    · skip
      refine g_iload_n (pc := 2) (dd d_Mod_swapTexts 2 rfl) rfl ?_
      refine g_sipush (pc := 3) (v := 900) (dd d_Mod_swapTexts 3 rfl) (by decide) ?_
      refine g_icmpge (pc := 6) (tgt := 41) (dd d_Mod_swapTexts 4 rfl) (by decide) (fun q1 => ?_) (fun q1 => ?_)
      · have t1 := q1
        try simp only [e1x, e0x, i10, thrP, thrN, Classical.not_not, not_and, not_or, not_true_eq_false, not_false_eq_true, true_and, and_true, and_self, or_false, or_true, false_or, true_or, eq_self] at t1
        exact K2
      · have t1 := q1
        try simp only [e1x, e0x, i10, thrP, thrN, Classical.not_not, not_and, not_or, not_true_eq_false, not_false_eq_true, true_and, and_true, and_self, or_false, or_true, false_or, true_or, eq_self] at t1
        exact absurd (Int32.le_refl _) q1
    · intro k hkn ih
      refine g_iload_n (pc := 2) (dd d_Mod_swapTexts 2 rfl) rfl ?_
      refine g_sipush (pc := 3) (v := 900) (dd d_Mod_swapTexts 3 rfl) (by decide) ?_
      refine g_icmpge (pc := 6) (tgt := 41) (dd d_Mod_swapTexts 4 rfl) (by decide) (fun q2 => ?_) (fun q2 => ?_)
      · have t2 := q2
        try simp only [e1x, e0x, i10, thrP, thrN, Classical.not_not, not_and, not_or, not_true_eq_false, not_false_eq_true, true_and, and_true, and_self, or_false, or_true, false_or, true_or, eq_self] at t2
        exact absurd q2 (nI_ge hkn (by decide))
      · have t2 := q2
        try simp only [e1x, e0x, i10, thrP, thrN, Classical.not_not, not_and, not_or, not_true_eq_false, not_false_eq_true, true_and, and_true, and_self, or_false, or_true, false_or, true_or, eq_self] at t2
        refine g_aload_n (pc := 9) (dd d_Mod_swapTexts 5 rfl) rfl ?_
        refine g_getr (pc := 10) (dd d_Mod_swapTexts 6 rfl) f_Mod_7 ob_MO rfl (mr_signs hX) ?_
        refine g_iload_n (pc := 13) (dd d_Mod_swapTexts 7 rfl) rfl ?_
        refine g_iald (pc := 14) (dd d_Mod_swapTexts 8 rfl) ar_A_signs (by rw [vp_in_iff, nI_toInt (by omega)]; omega) ?_
        refine g_istore_n (pc := 15) (dd d_Mod_swapTexts 9 rfl) (by decide) ?_
        refine g_aload_n (pc := 16) (dd d_Mod_swapTexts 10 rfl) rfl ?_
        refine g_getr (pc := 17) (dd d_Mod_swapTexts 11 rfl) f_Mod_7 ob_MO rfl (mr_signs hX) ?_
        refine g_iload_n (pc := 20) (dd d_Mod_swapTexts 12 rfl) rfl ?_
        refine g_aload_n (pc := 21) (dd d_Mod_swapTexts 13 rfl) rfl ?_
        refine g_getr (pc := 22) (dd d_Mod_swapTexts 14 rfl) f_Mod_56 ob_MO rfl (mr_kept hX) ?_
        refine g_iload_n (pc := 25) (dd d_Mod_swapTexts 15 rfl) rfl ?_
        refine g_iald (pc := 26) (dd d_Mod_swapTexts 16 rfl) ar_A_kept (by rw [vp_in_iff, nI_toInt (by omega)]; omega) ?_
        refine g_iastN (pc := 27) (dd d_Mod_swapTexts 17 rfl) ar_A_signs (by rw [vp_in_iff, nI_toInt (by omega)]; omega) (fun I1 hI1 => ?_)
        refine g_aload_n (pc := 28) (dd d_Mod_swapTexts 18 rfl) rfl ?_
        refine g_getr (pc := 29) (dd d_Mod_swapTexts 19 rfl) f_Mod_56 ob_MO rfl (mr_kept hX) ?_
        refine g_iload_n (pc := 32) (dd d_Mod_swapTexts 20 rfl) rfl ?_
        refine g_iload_n (pc := 33) (dd d_Mod_swapTexts 21 rfl) rfl ?_
        refine g_iastN (pc := 34) (dd d_Mod_swapTexts 22 rfl) ar_A_kept (by rw [vp_in_iff, nI_toInt (by omega)]; omega) (fun I2 hI2 => ?_)
        refine g_iincW (pc := 35) (w := 1) (dd d_Mod_swapTexts 23 rfl) rfl (by decide) (by decide) ?_
        refine g_goto (pc := 38) (tgt := 2) (dd d_Mod_swapTexts 24 rfl) (by decide) ?_
        refine g_drop [2] ?_
        subst hI2 hI1
        exact GG_eq ih rfl (by rw [← nI_1]; rfl) rfl
  obtain ⟨I3, hI3⟩ : ∃ z, z = (lp_Mod_swapTexts_2 I 900) := ⟨_, rfl⟩
  rw [← hI3]
  refine g_aload_n (pc := 41) (dd d_Mod_swapTexts 25 rfl) rfl ?_
  refine g_geti (pc := 42) (dd d_Mod_swapTexts 26 rfl) f_Mod_247 ob_MO rfl ?_
  refine g_istore_n (pc := 45) (dd d_Mod_swapTexts 27 rfl) (by decide) ?_
  refine g_aload_n (pc := 46) (dd d_Mod_swapTexts 28 rfl) rfl ?_
  refine g_aload_n (pc := 47) (dd d_Mod_swapTexts 29 rfl) rfl ?_
  refine g_geti (pc := 48) (dd d_Mod_swapTexts 30 rfl) f_Mod_367 ob_MO rfl ?_
  refine g_putiN (pc := 51) (dd d_Mod_swapTexts 31 rfl) f_Mod_247 fm_Mod_2 ob_MO rfl (fun I4 hI4 => ?_)
  refine g_aload_n (pc := 54) (dd d_Mod_swapTexts 32 rfl) rfl ?_
  refine g_iload_n (pc := 55) (dd d_Mod_swapTexts 33 rfl) rfl ?_
  refine g_putiN (pc := 56) (dd d_Mod_swapTexts 34 rfl) f_Mod_367 fm_Mod_32 ob_MO rfl (fun I5 hI5 => ?_)
  subst hI5 hI4 hI3
  exact g_vret (pc := 59) rfl (dd d_Mod_swapTexts 35 rfl) hT
def s_Mod_begin (I : Nat → Nat → Int32) (c : Int32) : Nat → Nat → Int32 := (s_Mod_setUp (up I MO 0 (0)) c)
set_option maxRecDepth 20000 in
set_option maxHeartbeats 4000000 in
theorem ev_Mod_begin {Δ : Dx} {X : Lx} (hX : MX Δ X) (I : Nat → Nat → Int32) (c : Int32) : Ev Δ 1 m_Mod_begin [.ref (Δ.ba + MO), .int c] (I, X) (none) (s_Mod_begin I c, X) := by
  refine ev_of (by decide) (Nat.le_of_ble_eq_true rfl) (fun Γ hk hR hT => ?_)
  unfold s_Mod_begin at hT
  refine g_aload_n (pc := 0) (dd d_Mod_begin 0 rfl) rfl ?_
  refine g_iconst (pc := 1) (v := 0) (dd d_Mod_begin 1 rfl) (by decide) ?_
  refine g_putiN (pc := 2) (dd d_Mod_begin 2 rfl) f_Mod_240 fm_Mod_0 ob_MO rfl (fun I1 hI1 => ?_)
  refine g_aload_n (pc := 5) (dd d_Mod_begin 3 rfl) rfl ?_
  refine g_iload_n (pc := 6) (dd d_Mod_begin 4 rfl) rfl ?_
  refine g_callV (pc := 7) (dd d_Mod_begin 5 rfl) v_Mod_232 ob_MO rfl (ev_Mod_setUp hX _ _) rfl (by rw [hk]; decide) (Nat.le_of_ble_eq_true rfl) ⟨Nat.zero_le _, Nat.zero_le _⟩ rfl ?_
  obtain ⟨I2, hI2⟩ : ∃ z, z = s_Mod_setUp I1 c := ⟨_, rfl⟩
  rw [← hI2]
  subst hI2 hI1
  exact g_vret (pc := 10) rfl (dd d_Mod_begin 6 rfl) hT
def lp_Mod_tells_10 (I : Nat → Nat → Int32) (w : Int32) (b : Nat) (s0 : Int32) : Nat → Int32
  | 0 => s0
  | k + 1 => (fun s : Int32 => if s = 0 then (if (I A_statementKind (nI (b + k) : Int32).toNatClampNeg : Int32) = w then 1 else 0) else 1) (lp_Mod_tells_10 I w b s0 k)
def r_Mod_tells (I : Nat → Nat → Int32) (r : Int32) (w : Int32) (b : Nat) (e : Nat) : Int32 := (lp_Mod_tells_10 I w b 0 ((e - b)))
set_option maxRecDepth 20000 in
set_option maxHeartbeats 4000000 in
theorem ev_Mod_tells {Δ : Dx} {X : Lx} (hX : MX Δ X) (I : Nat → Nat → Int32) (r : Int32) (w : Int32) (b : Nat) (e : Nat) (hb : I A_ruleFrom r.toNatClampNeg = nI b) (he : I A_ruleTo r.toNatClampNeg = nI e) (hbe : b ≤ e) (he6 : e ≤ 600) (hr : vp_in r 602) : Ev Δ 0 m_Mod_tells [.ref (Δ.ba + MO), .int r, .int w] (I, X) (some (.int (r_Mod_tells I r w b e))) (I, X) := by
  have hz : ∀ k, lp_Mod_tells_10 I w b 0 k = 0 ∨ lp_Mod_tells_10 I w b 0 k = 1 := by
    intro k
    induction k with
    | zero => exact Or.inl rfl
    | succ k ih =>
      simp only [lp_Mod_tells_10]
      (repeat' split) <;> first | exact Or.inl rfl | exact Or.inr rfl
  refine ev_of (by decide) (Nat.le_of_ble_eq_true rfl) (fun Γ hk hR hT => ?_)
  unfold r_Mod_tells at hT
  refine g_iconst (pc := 0) (v := 0) (dd d_Mod_tells 0 rfl) (by decide) ?_
  refine g_istore_n (pc := 1) (dd d_Mod_tells 1 rfl) (by decide) ?_
  refine g_aload_n (pc := 2) (dd d_Mod_tells 2 rfl) rfl ?_
  refine g_getr (pc := 3) (dd d_Mod_tells 3 rfl) f_Mod_38 ob_MO rfl (mr_ruleFrom hX) ?_
  refine g_iload_n (pc := 6) (dd d_Mod_tells 4 rfl) rfl ?_
  refine g_iald (pc := 7) (dd d_Mod_tells 5 rfl) ar_A_ruleFrom hr ?_
  refine g_istore (pc := 8) (dd d_Mod_tells 6 rfl) (by decide) ?_
  refine GG_eq (lv := [some (.ref (Δ.ba + MO)), some (.int (r)), some (.int (w)), some (.int (0)), some (.int (nI (b + 0)))]) ?_ rfl (by rw [Nat.add_zero, ← hb]; rfl) rfl
  suffices K10 : GG Δ m_Mod_tells Γ NN 0 0 (I, X) 48 [some (.ref (Δ.ba + MO)), some (.int (r)), some (.int (w)), some (.int ((lp_Mod_tells_10 I w b 0 ((e - b))))), some (.int (nI (b + (e - b))))] [] by
    refine down ((e - b)) (P := fun k => GG Δ m_Mod_tells Γ NN 0 0 (I, X) 10 [some (.ref (Δ.ba + MO)), some (.int (r)), some (.int (w)), some (.int ((lp_Mod_tells_10 I w b 0 k))), some (.int (nI (b + k)))] []) ?_ ?_
    · skip
      refine g_iload (pc := 10) (dd d_Mod_tells 7 rfl) rfl ?_
      refine g_aload_n (pc := 12) (dd d_Mod_tells 8 rfl) rfl ?_
      refine g_getr (pc := 13) (dd d_Mod_tells 9 rfl) f_Mod_41 ob_MO rfl (mr_ruleTo hX) ?_
      refine g_iload_n (pc := 16) (dd d_Mod_tells 10 rfl) rfl ?_
      refine g_iald (pc := 17) (dd d_Mod_tells 11 rfl) ar_A_ruleTo hr ?_
      refine g_icmpge (pc := 18) (tgt := 48) (dd d_Mod_tells 12 rfl) (by decide) (fun q1 => ?_) (fun q1 => ?_)
      · have t1 := q1
        try simp only [e1x, e0x, i10, thrP, thrN, Classical.not_not, not_and, not_or, not_true_eq_false, not_false_eq_true, true_and, and_true, and_self, or_false, or_true, false_or, true_or, eq_self] at t1
        exact K10
      · have t1 := q1
        try simp only [e1x, e0x, i10, thrP, thrN, Classical.not_not, not_and, not_or, not_true_eq_false, not_false_eq_true, true_and, and_true, and_self, or_false, or_true, false_or, true_or, eq_self] at t1
        exact absurd (show I A_ruleTo r.toNatClampNeg ≤ nI (b + (e - b)) by rw [he]; exact nI_le (by omega) (by omega)) q1
    · intro k hkn ih
      refine g_iload (pc := 10) (dd d_Mod_tells 7 rfl) rfl ?_
      refine g_aload_n (pc := 12) (dd d_Mod_tells 8 rfl) rfl ?_
      refine g_getr (pc := 13) (dd d_Mod_tells 9 rfl) f_Mod_41 ob_MO rfl (mr_ruleTo hX) ?_
      refine g_iload_n (pc := 16) (dd d_Mod_tells 10 rfl) rfl ?_
      refine g_iald (pc := 17) (dd d_Mod_tells 11 rfl) ar_A_ruleTo hr ?_
      refine g_icmpge (pc := 18) (tgt := 48) (dd d_Mod_tells 12 rfl) (by decide) (fun q2 => ?_) (fun q2 => ?_)
      · have t2 := q2
        try simp only [e1x, e0x, i10, thrP, thrN, Classical.not_not, not_and, not_or, not_true_eq_false, not_false_eq_true, true_and, and_true, and_self, or_false, or_true, false_or, true_or, eq_self] at t2
        exact absurd q2 (show ¬ I A_ruleTo r.toNatClampNeg ≤ nI (b + k) by rw [he]; exact nI_ge (by omega) (by omega))
      · have t2 := q2
        try simp only [e1x, e0x, i10, thrP, thrN, Classical.not_not, not_and, not_or, not_true_eq_false, not_false_eq_true, true_and, and_true, and_self, or_false, or_true, false_or, true_or, eq_self] at t2
        refine g_iload_n (pc := 21) (dd d_Mod_tells 13 rfl) rfl ?_
        suffices K22 : GG Δ m_Mod_tells Γ NN 0 0 (I, X) 41 [some (.ref (Δ.ba + MO)), some (.int (r)), some (.int (w)), some (.int ((lp_Mod_tells_10 I w b 0 k))), some (.int (nI (b + k)))] [.int (if ((lp_Mod_tells_10 I w b 0 k) : Int32) = 0 then (if (I A_statementKind (nI (b + k) : Int32).toNatClampNeg : Int32) = w then 1 else 0) else 1)] by
          refine g_ifne (pc := 22) (tgt := 36) (dd d_Mod_tells 14 rfl) (by decide) (fun q3 => ?_) (fun q3 => ?_)
          · have t3 := q3
            try simp only [e1x, e0x, i10, thrP, thrN, Classical.not_not, not_and, not_or, not_true_eq_false, not_false_eq_true, true_and, and_true, and_self, or_false, or_true, false_or, true_or, eq_self] at t3
            refine g_iconst (pc := 36) (v := 1) (dd d_Mod_tells 21 rfl) (by decide) ?_
            refine g_goto (pc := 37) (tgt := 41) (dd d_Mod_tells 22 rfl) (by decide) ?_
            simp only [if_neg q3] at K22 ⊢
            exact K22
          · have t3 := q3
            try simp only [e1x, e0x, i10, thrP, thrN, Classical.not_not, not_and, not_or, not_true_eq_false, not_false_eq_true, true_and, and_true, and_self, or_false, or_true, false_or, true_or, eq_self] at t3
            refine g_aload_n (pc := 25) (dd d_Mod_tells 15 rfl) rfl ?_
            refine g_getr (pc := 26) (dd d_Mod_tells 16 rfl) f_Mod_26 ob_MO rfl (mr_statementKind hX) ?_
            refine g_iload (pc := 29) (dd d_Mod_tells 17 rfl) rfl ?_
            refine g_iald (pc := 31) (dd d_Mod_tells 18 rfl) ar_A_statementKind (by rw [vp_in_iff, nI_toInt (by omega)]; omega) ?_
            refine g_iload_n (pc := 32) (dd d_Mod_tells 19 rfl) rfl ?_
            suffices K33 : GG Δ m_Mod_tells Γ NN 0 0 (I, X) 41 [some (.ref (Δ.ba + MO)), some (.int (r)), some (.int (w)), some (.int ((lp_Mod_tells_10 I w b 0 k))), some (.int (nI (b + k)))] [.int (if (I A_statementKind (nI (b + k) : Int32).toNatClampNeg : Int32) = w then 1 else 0)] by
              refine g_icmpne (pc := 33) (tgt := 40) (dd d_Mod_tells 20 rfl) (by decide) (fun q4 => ?_) (fun q4 => ?_)
              · have t4 := q4
                try simp only [e1x, e0x, i10, thrP, thrN, Classical.not_not, not_and, not_or, not_true_eq_false, not_false_eq_true, true_and, and_true, and_self, or_false, or_true, false_or, true_or, eq_self] at t4
                refine g_iconst (pc := 40) (v := 0) (dd d_Mod_tells 23 rfl) (by decide) ?_
                simp only [if_neg q4] at K33 ⊢
                exact K33
              · have t4 := q4
                try simp only [e1x, e0x, i10, thrP, thrN, Classical.not_not, not_and, not_or, not_true_eq_false, not_false_eq_true, true_and, and_true, and_self, or_false, or_true, false_or, true_or, eq_self] at t4
                refine g_iconst (pc := 36) (v := 1) (dd d_Mod_tells 21 rfl) (by decide) ?_
                refine g_goto (pc := 37) (tgt := 41) (dd d_Mod_tells 22 rfl) (by decide) ?_
                simp only [if_pos q4] at K33 ⊢
                exact K33
            simp only [if_pos q3] at K22 ⊢
            exact K22
        refine g_istore_n (pc := 41) (dd d_Mod_tells 24 rfl) (by decide) ?_
        refine g_iincW (pc := 42) (w := 1) (dd d_Mod_tells 25 rfl) rfl (by decide) (by decide) ?_
        refine g_goto (pc := 45) (tgt := 10) (dd d_Mod_tells 26 rfl) (by decide) ?_
        exact GG_eq ih rfl (by rw [← Nat.add_assoc, ← nI_1]; rfl) rfl
  refine g_iload_n (pc := 48) (dd d_Mod_tells 27 rfl) rfl ?_
  exact g_zret (pc := 49) rfl (hz _) (dd d_Mod_tells 28 rfl) hT
def lp_Mod_baseOf_5 (I : Nat → Nat → Int32) (o : Int32) (s0 : Int32) : Nat → Int32
  | 0 => s0
  | k + 1 => (fun s : Int32 => if (I A_owners (nI (96 - k) + (-1) : Int32).toNatClampNeg : Int32) = o then (nI (96 - k) + (-1)) else s) (lp_Mod_baseOf_5 I o s0 k)
def r_Mod_baseOf (I : Nat → Nat → Int32) (o : Int32) : Int32 := (lp_Mod_baseOf_5 I o (-1) 96)
set_option maxRecDepth 20000 in
set_option maxHeartbeats 4000000 in
theorem ev_Mod_baseOf {Δ : Dx} {X : Lx} (hX : MX Δ X) (I : Nat → Nat → Int32) (o : Int32) : Ev Δ 0 m_Mod_baseOf [.ref (Δ.ba + MO), .int o] (I, X) (some (.int (r_Mod_baseOf I o))) (I, X) := by
  refine ev_of (by decide) (Nat.le_of_ble_eq_true rfl) (fun Γ hk hR hT => ?_)
  unfold r_Mod_baseOf at hT
  refine g_iconst (pc := 0) (v := (-1)) (dd d_Mod_baseOf 0 rfl) (by decide) ?_
  refine g_istore_n (pc := 1) (dd d_Mod_baseOf 1 rfl) (by decide) ?_
  refine g_bipush (pc := 2) (v := 95) (dd d_Mod_baseOf 2 rfl) (by decide) ?_
  refine g_istore_n (pc := 4) (dd d_Mod_baseOf 3 rfl) (by decide) ?_
  refine GG_eq (lv := [some (.ref (Δ.ba + MO)), some (.int (o)), some (.int ((-1))), some (.int (nI (96 - 0) + (-1)))]) ?_ rfl (by rfl) rfl
  suffices K5 : GG Δ m_Mod_baseOf Γ NN 0 0 (I, X) 31 [some (.ref (Δ.ba + MO)), some (.int (o)), some (.int ((lp_Mod_baseOf_5 I o (-1) 96))), some (.int (nI (96 - 96) + (-1)))] [] by
    refine down 96 (P := fun k => GG Δ m_Mod_baseOf Γ NN 0 0 (I, X) 5 [some (.ref (Δ.ba + MO)), some (.int (o)), some (.int ((lp_Mod_baseOf_5 I o (-1) k))), some (.int (nI (96 - k) + (-1)))] []) ?_ ?_
    · skip
      refine g_iload_n (pc := 5) (dd d_Mod_baseOf 4 rfl) rfl ?_
      refine g_iflt (pc := 6) (tgt := 31) (dd d_Mod_baseOf 5 rfl) (by decide) (fun q1 => ?_) (fun q1 => ?_)
      · have t1 := q1
        try simp only [e1x, e0x, i10, thrP, thrN, Classical.not_not, not_and, not_or, not_true_eq_false, not_false_eq_true, true_and, and_true, and_self, or_false, or_true, false_or, true_or, eq_self] at t1
        exact K5
      · have t1 := q1
        try simp only [e1x, e0x, i10, thrP, thrN, Classical.not_not, not_and, not_or, not_true_eq_false, not_false_eq_true, true_and, and_true, and_self, or_false, or_true, false_or, true_or, eq_self] at t1
        exact absurd (by decide) q1
    · intro k hkn ih
      refine g_iload_n (pc := 5) (dd d_Mod_baseOf 4 rfl) rfl ?_
      refine g_iflt (pc := 6) (tgt := 31) (dd d_Mod_baseOf 5 rfl) (by decide) (fun q2 => ?_) (fun q2 => ?_)
      · have t2 := q2
        try simp only [e1x, e0x, i10, thrP, thrN, Classical.not_not, not_and, not_or, not_true_eq_false, not_false_eq_true, true_and, and_true, and_self, or_false, or_true, false_or, true_or, eq_self] at t2
        exact absurd q2 (by rw [show 96 - k = (96 - (k + 1)) + 1 by omega, pk_m1]; exact nI_pos (by omega))
      · have t2 := q2
        try simp only [e1x, e0x, i10, thrP, thrN, Classical.not_not, not_and, not_or, not_true_eq_false, not_false_eq_true, true_and, and_true, and_self, or_false, or_true, false_or, true_or, eq_self] at t2
        refine g_aload_n (pc := 9) (dd d_Mod_baseOf 6 rfl) rfl ?_
        refine g_getr (pc := 10) (dd d_Mod_baseOf 7 rfl) f_Mod_71 ob_MO rfl (mr_owners hX) ?_
        refine g_iload_n (pc := 13) (dd d_Mod_baseOf 8 rfl) rfl ?_
        refine g_iald (pc := 14) (dd d_Mod_baseOf 9 rfl) ar_A_owners (by rw [show 96 - k = (96 - (k + 1)) + 1 by omega, pk_m1, vp_in_iff, nI_toInt (by omega)]; omega) ?_
        refine g_iload_n (pc := 15) (dd d_Mod_baseOf 10 rfl) rfl ?_
        suffices K16 : GG Δ m_Mod_baseOf Γ NN 0 0 (I, X) 24 [some (.ref (Δ.ba + MO)), some (.int (o)), some (.int ((lp_Mod_baseOf_5 I o (-1) k))), some (.int (nI (96 - k) + (-1)))] [.int (if (I A_owners (nI (96 - k) + (-1) : Int32).toNatClampNeg : Int32) = o then (nI (96 - k) + (-1)) else ((lp_Mod_baseOf_5 I o (-1) k)))] by
          refine g_icmpne (pc := 16) (tgt := 23) (dd d_Mod_baseOf 11 rfl) (by decide) (fun q3 => ?_) (fun q3 => ?_)
          · have t3 := q3
            try simp only [e1x, e0x, i10, thrP, thrN, Classical.not_not, not_and, not_or, not_true_eq_false, not_false_eq_true, true_and, and_true, and_self, or_false, or_true, false_or, true_or, eq_self] at t3
            refine g_iload_n (pc := 23) (dd d_Mod_baseOf 14 rfl) rfl ?_
            simp only [if_neg q3] at K16 ⊢
            exact K16
          · have t3 := q3
            try simp only [e1x, e0x, i10, thrP, thrN, Classical.not_not, not_and, not_or, not_true_eq_false, not_false_eq_true, true_and, and_true, and_self, or_false, or_true, false_or, true_or, eq_self] at t3
            refine g_iload_n (pc := 19) (dd d_Mod_baseOf 12 rfl) rfl ?_
            refine g_goto (pc := 20) (tgt := 24) (dd d_Mod_baseOf 13 rfl) (by decide) ?_
            simp only [if_pos q3] at K16 ⊢
            exact K16
        refine g_istore_n (pc := 24) (dd d_Mod_baseOf 15 rfl) (by decide) ?_
        refine g_iincW (pc := 25) (w := (-1)) (dd d_Mod_baseOf 16 rfl) rfl (by decide) (by decide) ?_
        refine g_goto (pc := 28) (tgt := 5) (dd d_Mod_baseOf 17 rfl) (by decide) ?_
        exact GG_eq ih rfl (by rw [← show nI (96 - k) + (-1) + (-1) = nI (96 - (k + 1)) + (-1) by rw [show 96 - k = (96 - (k + 1)) + 1 by omega, pk_m1]]; rfl) rfl
  refine g_iload_n (pc := 31) (dd d_Mod_baseOf 18 rfl) rfl ?_
  exact g_iret (pc := 32) rfl (dd d_Mod_baseOf 19 rfl) hT
def lp_Mod_moveRow_3 (w : Nat) (f : Int32) (o : Int32) (s0 : (Nat → Nat → Int32)) : Nat → (Nat → Nat → Int32)
  | 0 => s0
  | k + 1 => (fun s : (Nat → Nat → Int32) => (up (up s A_other ((f) + (nI k) : Int32).toNatClampNeg (s w (nI k : Int32).toNatClampNeg)) w (nI k : Int32).toNatClampNeg (if o = 0 then ((up s A_other ((f) + (nI k) : Int32).toNatClampNeg (s w (nI k : Int32).toNatClampNeg)) w (nI k : Int32).toNatClampNeg) else (s A_other ((f) + (nI k) : Int32).toNatClampNeg)))) (lp_Mod_moveRow_3 w f o s0 k)
def s_Mod_moveRow (I : Nat → Nat → Int32) (w : Nat) (m : Int32) (f : Int32) (o : Int32) (n : Nat) (g : Nat) : Nat → Nat → Int32 := ((lp_Mod_moveRow_3 w f o I n))
set_option maxRecDepth 20000 in
set_option maxHeartbeats 4000000 in
theorem ev_Mod_moveRow {Δ : Dx} {X : Lx} (hX : MX Δ X) (I : Nat → Nat → Int32) (w : Nat) (m : Int32) (f : Int32) (o : Int32) (n : Nat) (g : Nat) (hm : m = nI n) (hf : f = nI g) (hg : g + n ≤ 996) (hn : n ≤ 128) (ar_w : Ar NN w .int n) : Ev Δ 0 m_Mod_moveRow [.ref (Δ.ba + MO), .ref (Δ.ba + w), .int m, .int f, .int o] (I, X) (none) (s_Mod_moveRow I w m f o n g, X) := by
  refine ev_of (by decide) (Nat.le_of_ble_eq_true rfl) (fun Γ hk hR hT => ?_)
  unfold s_Mod_moveRow at hT
  refine g_iconst (pc := 0) (v := 0) (dd d_Mod_moveRow 0 rfl) (by decide) ?_
  refine g_istore (pc := 1) (dd d_Mod_moveRow 1 rfl) (by decide) ?_
  refine g_drop [6] ?_
  suffices K3 : GG Δ m_Mod_moveRow Γ NN 0 0 ((lp_Mod_moveRow_3 w f o I n), X) 57 [some (.ref (Δ.ba + MO)), some (.ref (Δ.ba + w)), some (.int (m)), some (.int (f)), some (.int (o)), some (.int (nI n)), none] [] by
    refine down n (P := fun k => GG Δ m_Mod_moveRow Γ NN 0 0 ((lp_Mod_moveRow_3 w f o I k), X) 3 [some (.ref (Δ.ba + MO)), some (.ref (Δ.ba + w)), some (.int (m)), some (.int (f)), some (.int (o)), some (.int (nI k)), none] []) ?_ ?_
    · skip
      refine g_iload (pc := 3) (dd d_Mod_moveRow 2 rfl) rfl ?_
      refine g_iload_n (pc := 5) (dd d_Mod_moveRow 3 rfl) rfl ?_
      refine g_icmpge (pc := 6) (tgt := 57) (dd d_Mod_moveRow 4 rfl) (by decide) (fun q1 => ?_) (fun q1 => ?_)
      · have t1 := q1
        try simp only [e1x, e0x, i10, thrP, thrN, Classical.not_not, not_and, not_or, not_true_eq_false, not_false_eq_true, true_and, and_true, and_self, or_false, or_true, false_or, true_or, eq_self] at t1
        exact K3
      · have t1 := q1
        try simp only [e1x, e0x, i10, thrP, thrN, Classical.not_not, not_and, not_or, not_true_eq_false, not_false_eq_true, true_and, and_true, and_self, or_false, or_true, false_or, true_or, eq_self] at t1
        exact absurd (show m ≤ nI n by rw [hm]; exact Int32.le_refl _) q1
    · intro k hkn ih
      refine g_iload (pc := 3) (dd d_Mod_moveRow 2 rfl) rfl ?_
      refine g_iload_n (pc := 5) (dd d_Mod_moveRow 3 rfl) rfl ?_
      refine g_icmpge (pc := 6) (tgt := 57) (dd d_Mod_moveRow 4 rfl) (by decide) (fun q2 => ?_) (fun q2 => ?_)
      · have t2 := q2
        try simp only [e1x, e0x, i10, thrP, thrN, Classical.not_not, not_and, not_or, not_true_eq_false, not_false_eq_true, true_and, and_true, and_self, or_false, or_true, false_or, true_or, eq_self] at t2
        exact absurd q2 (show ¬ m ≤ nI k by rw [hm]; exact nI_ge hkn (by omega))
      · have t2 := q2
        try simp only [e1x, e0x, i10, thrP, thrN, Classical.not_not, not_and, not_or, not_true_eq_false, not_false_eq_true, true_and, and_true, and_self, or_false, or_true, false_or, true_or, eq_self] at t2
        refine g_aload_n (pc := 9) (dd d_Mod_moveRow 5 rfl) rfl ?_
        refine g_getr (pc := 10) (dd d_Mod_moveRow 6 rfl) f_Mod_126 ob_MO rfl (mr_other hX) ?_
        refine g_iload_n (pc := 13) (dd d_Mod_moveRow 7 rfl) rfl ?_
        refine g_iload (pc := 14) (dd d_Mod_moveRow 8 rfl) rfl ?_
        refine g_iadd (pc := 16) (dd d_Mod_moveRow 9 rfl) ?_
        refine g_iald (pc := 17) (dd d_Mod_moveRow 10 rfl) ar_A_other (by rw [hf, nI_add, vp_in_iff, nI_toInt (by omega)]; omega) ?_
        refine g_istore (pc := 18) (dd d_Mod_moveRow 11 rfl) (by decide) ?_
        refine g_aload_n (pc := 20) (dd d_Mod_moveRow 12 rfl) rfl ?_
        refine g_getr (pc := 21) (dd d_Mod_moveRow 13 rfl) f_Mod_126 ob_MO rfl (mr_other hX) ?_
        refine g_iload_n (pc := 24) (dd d_Mod_moveRow 14 rfl) rfl ?_
        refine g_iload (pc := 25) (dd d_Mod_moveRow 15 rfl) rfl ?_
        refine g_iadd (pc := 27) (dd d_Mod_moveRow 16 rfl) ?_
        refine g_aload_n (pc := 28) (dd d_Mod_moveRow 17 rfl) rfl ?_
        refine g_iload (pc := 29) (dd d_Mod_moveRow 18 rfl) rfl ?_
        refine g_iald (pc := 31) (dd d_Mod_moveRow 19 rfl) ar_w (by rw [vp_in_iff, nI_toInt (by omega)]; omega) ?_
        refine g_iastN (pc := 32) (dd d_Mod_moveRow 20 rfl) ar_A_other (by rw [hf, nI_add, vp_in_iff, nI_toInt (by omega)]; omega) (fun I1 hI1 => ?_)
        refine g_aload_n (pc := 33) (dd d_Mod_moveRow 21 rfl) rfl ?_
        refine g_iload (pc := 34) (dd d_Mod_moveRow 22 rfl) rfl ?_
        refine g_iload (pc := 36) (dd d_Mod_moveRow 23 rfl) rfl ?_
        suffices K38 : GG Δ m_Mod_moveRow Γ NN 0 0 (I1, X) 50 [some (.ref (Δ.ba + MO)), some (.ref (Δ.ba + w)), some (.int (m)), some (.int (f)), some (.int (o)), some (.int (nI k)), some (.int (((lp_Mod_moveRow_3 w f o I k)) A_other ((f) + (nI k) : Int32).toNatClampNeg))] [.int (if o = 0 then (I1 w (nI k : Int32).toNatClampNeg) else (((lp_Mod_moveRow_3 w f o I k)) A_other ((f) + (nI k) : Int32).toNatClampNeg)), .int (nI k), .ref (Δ.ba + w)] by
          refine g_ifeq (pc := 38) (tgt := 46) (dd d_Mod_moveRow 24 rfl) (by decide) (fun q3 => ?_) (fun q3 => ?_)
          · have t3 := q3
            try simp only [e1x, e0x, i10, thrP, thrN, Classical.not_not, not_and, not_or, not_true_eq_false, not_false_eq_true, true_and, and_true, and_self, or_false, or_true, false_or, true_or, eq_self] at t3
            refine g_aload_n (pc := 46) (dd d_Mod_moveRow 27 rfl) rfl ?_
            refine g_iload (pc := 47) (dd d_Mod_moveRow 28 rfl) rfl ?_
            refine g_iald (pc := 49) (dd d_Mod_moveRow 29 rfl) ar_w (by rw [vp_in_iff, nI_toInt (by omega)]; omega) ?_
            simp only [if_pos q3] at K38 ⊢
            exact K38
          · have t3 := q3
            try simp only [e1x, e0x, i10, thrP, thrN, Classical.not_not, not_and, not_or, not_true_eq_false, not_false_eq_true, true_and, and_true, and_self, or_false, or_true, false_or, true_or, eq_self] at t3
            refine g_iload (pc := 41) (dd d_Mod_moveRow 25 rfl) rfl ?_
            refine g_goto (pc := 43) (tgt := 50) (dd d_Mod_moveRow 26 rfl) (by decide) ?_
            simp only [if_neg q3] at K38 ⊢
            exact K38
        refine g_iastN (pc := 50) (dd d_Mod_moveRow 30 rfl) ar_w (by rw [vp_in_iff, nI_toInt (by omega)]; omega) (fun I2 hI2 => ?_)
        refine g_iincW (pc := 51) (w := 1) (dd d_Mod_moveRow 31 rfl) rfl (by decide) (by decide) ?_
        refine g_goto (pc := 54) (tgt := 3) (dd d_Mod_moveRow 32 rfl) (by decide) ?_
        refine g_drop [6] ?_
        subst hI2 hI1
        exact GG_eq ih rfl (by rw [← nI_1]; rfl) rfl
  obtain ⟨I3, hI3⟩ : ∃ z, z = (lp_Mod_moveRow_3 w f o I n) := ⟨_, rfl⟩
  rw [← hI3]
  subst hI3
  exact g_vret (pc := 57) rfl (dd d_Mod_moveRow 33 rfl) hT
