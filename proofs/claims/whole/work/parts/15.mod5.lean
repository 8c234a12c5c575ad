theorem g_lcmp {Δ : Dx} {mi : MI} {Γ : Cx} {n k c : Nat} {σ : St} {pc : Nat} {lv : List (Option Value)} {rest : List Value} {x y : Int64} (hdg : decode mi.2.1 pc = .ok (.lcmp, 1)) (kk : GG Δ mi Γ n k c σ (pc + 1) lv (.int (lg_cmp x y) :: rest)) : GG Δ mi Γ n k c σ pc lv (.long y :: .long x :: rest) := fun ok H locs ls hP hS hl => W.lcmp ok.1 ok.2.1 hdg (kk ok H locs ls hP hS hl)
theorem rem16 {j : Nat} (h : j < 2 ^ 31) : nI j - nI j / 16 * 16 = nI (j % 16) := pk_rem (d := 16) h (by decide) (by decide)
def s_Mod_noteAt (I : Nat → Nat → Int32) (pl : Int32) (kd : Int32) (h : Int32) (o : Int32) : Nat → Nat → Int32 := (up (up (up (up (up (up (up I A_entries ((6) * ((I MO 63) - (I MO 63) / (16) * (16)) : Int32).toNatClampNeg (pl)) A_entries (((6) * ((I MO 63) - (I MO 63) / (16) * (16))) + (1) : Int32).toNatClampNeg (kd)) A_entries (((6) * ((I MO 63) - (I MO 63) / (16) * (16))) + (2) : Int32).toNatClampNeg (h)) A_entries (((6) * ((I MO 63) - (I MO 63) / (16) * (16))) + (3) : Int32).toNatClampNeg (if o = 0 then 0 else ((up (up (up I A_entries ((6) * ((I MO 63) - (I MO 63) / (16) * (16)) : Int32).toNatClampNeg (pl)) A_entries (((6) * ((I MO 63) - (I MO 63) / (16) * (16))) + (1) : Int32).toNatClampNeg (kd)) A_entries (((6) * ((I MO 63) - (I MO 63) / (16) * (16))) + (2) : Int32).toNatClampNeg (h)) MO 83))) A_entries (((6) * ((I MO 63) - (I MO 63) / (16) * (16))) + (4) : Int32).toNatClampNeg (if o = 0 then 0 else ((up (up (up (up I A_entries ((6) * ((I MO 63) - (I MO 63) / (16) * (16)) : Int32).toNatClampNeg (pl)) A_entries (((6) * ((I MO 63) - (I MO 63) / (16) * (16))) + (1) : Int32).toNatClampNeg (kd)) A_entries (((6) * ((I MO 63) - (I MO 63) / (16) * (16))) + (2) : Int32).toNatClampNeg (h)) A_entries (((6) * ((I MO 63) - (I MO 63) / (16) * (16))) + (3) : Int32).toNatClampNeg (if o = 0 then 0 else ((up (up (up I A_entries ((6) * ((I MO 63) - (I MO 63) / (16) * (16)) : Int32).toNatClampNeg (pl)) A_entries (((6) * ((I MO 63) - (I MO 63) / (16) * (16))) + (1) : Int32).toNatClampNeg (kd)) A_entries (((6) * ((I MO 63) - (I MO 63) / (16) * (16))) + (2) : Int32).toNatClampNeg (h)) MO 83))) MO 84))) A_entries (((6) * ((I MO 63) - (I MO 63) / (16) * (16))) + (5) : Int32).toNatClampNeg ((up (up (up (up (up I A_entries ((6) * ((I MO 63) - (I MO 63) / (16) * (16)) : Int32).toNatClampNeg (pl)) A_entries (((6) * ((I MO 63) - (I MO 63) / (16) * (16))) + (1) : Int32).toNatClampNeg (kd)) A_entries (((6) * ((I MO 63) - (I MO 63) / (16) * (16))) + (2) : Int32).toNatClampNeg (h)) A_entries (((6) * ((I MO 63) - (I MO 63) / (16) * (16))) + (3) : Int32).toNatClampNeg (if o = 0 then 0 else ((up (up (up I A_entries ((6) * ((I MO 63) - (I MO 63) / (16) * (16)) : Int32).toNatClampNeg (pl)) A_entries (((6) * ((I MO 63) - (I MO 63) / (16) * (16))) + (1) : Int32).toNatClampNeg (kd)) A_entries (((6) * ((I MO 63) - (I MO 63) / (16) * (16))) + (2) : Int32).toNatClampNeg (h)) MO 83))) A_entries (((6) * ((I MO 63) - (I MO 63) / (16) * (16))) + (4) : Int32).toNatClampNeg (if o = 0 then 0 else ((up (up (up (up I A_entries ((6) * ((I MO 63) - (I MO 63) / (16) * (16)) : Int32).toNatClampNeg (pl)) A_entries (((6) * ((I MO 63) - (I MO 63) / (16) * (16))) + (1) : Int32).toNatClampNeg (kd)) A_entries (((6) * ((I MO 63) - (I MO 63) / (16) * (16))) + (2) : Int32).toNatClampNeg (h)) A_entries (((6) * ((I MO 63) - (I MO 63) / (16) * (16))) + (3) : Int32).toNatClampNeg (if o = 0 then 0 else ((up (up (up I A_entries ((6) * ((I MO 63) - (I MO 63) / (16) * (16)) : Int32).toNatClampNeg (pl)) A_entries (((6) * ((I MO 63) - (I MO 63) / (16) * (16))) + (1) : Int32).toNatClampNeg (kd)) A_entries (((6) * ((I MO 63) - (I MO 63) / (16) * (16))) + (2) : Int32).toNatClampNeg (h)) MO 83))) MO 84))) MO 50)) MO 63 (((up (up (up (up (up (up I A_entries ((6) * ((I MO 63) - (I MO 63) / (16) * (16)) : Int32).toNatClampNeg (pl)) A_entries (((6) * ((I MO 63) - (I MO 63) / (16) * (16))) + (1) : Int32).toNatClampNeg (kd)) A_entries (((6) * ((I MO 63) - (I MO 63) / (16) * (16))) + (2) : Int32).toNatClampNeg (h)) A_entries (((6) * ((I MO 63) - (I MO 63) / (16) * (16))) + (3) : Int32).toNatClampNeg (if o = 0 then 0 else ((up (up (up I A_entries ((6) * ((I MO 63) - (I MO 63) / (16) * (16)) : Int32).toNatClampNeg (pl)) A_entries (((6) * ((I MO 63) - (I MO 63) / (16) * (16))) + (1) : Int32).toNatClampNeg (kd)) A_entries (((6) * ((I MO 63) - (I MO 63) / (16) * (16))) + (2) : Int32).toNatClampNeg (h)) MO 83))) A_entries (((6) * ((I MO 63) - (I MO 63) / (16) * (16))) + (4) : Int32).toNatClampNeg (if o = 0 then 0 else ((up (up (up (up I A_entries ((6) * ((I MO 63) - (I MO 63) / (16) * (16)) : Int32).toNatClampNeg (pl)) A_entries (((6) * ((I MO 63) - (I MO 63) / (16) * (16))) + (1) : Int32).toNatClampNeg (kd)) A_entries (((6) * ((I MO 63) - (I MO 63) / (16) * (16))) + (2) : Int32).toNatClampNeg (h)) A_entries (((6) * ((I MO 63) - (I MO 63) / (16) * (16))) + (3) : Int32).toNatClampNeg (if o = 0 then 0 else ((up (up (up I A_entries ((6) * ((I MO 63) - (I MO 63) / (16) * (16)) : Int32).toNatClampNeg (pl)) A_entries (((6) * ((I MO 63) - (I MO 63) / (16) * (16))) + (1) : Int32).toNatClampNeg (kd)) A_entries (((6) * ((I MO 63) - (I MO 63) / (16) * (16))) + (2) : Int32).toNatClampNeg (h)) MO 83))) MO 84))) A_entries (((6) * ((I MO 63) - (I MO 63) / (16) * (16))) + (5) : Int32).toNatClampNeg ((up (up (up (up (up I A_entries ((6) * ((I MO 63) - (I MO 63) / (16) * (16)) : Int32).toNatClampNeg (pl)) A_entries (((6) * ((I MO 63) - (I MO 63) / (16) * (16))) + (1) : Int32).toNatClampNeg (kd)) A_entries (((6) * ((I MO 63) - (I MO 63) / (16) * (16))) + (2) : Int32).toNatClampNeg (h)) A_entries (((6) * ((I MO 63) - (I MO 63) / (16) * (16))) + (3) : Int32).toNatClampNeg (if o = 0 then 0 else ((up (up (up I A_entries ((6) * ((I MO 63) - (I MO 63) / (16) * (16)) : Int32).toNatClampNeg (pl)) A_entries (((6) * ((I MO 63) - (I MO 63) / (16) * (16))) + (1) : Int32).toNatClampNeg (kd)) A_entries (((6) * ((I MO 63) - (I MO 63) / (16) * (16))) + (2) : Int32).toNatClampNeg (h)) MO 83))) A_entries (((6) * ((I MO 63) - (I MO 63) / (16) * (16))) + (4) : Int32).toNatClampNeg (if o = 0 then 0 else ((up (up (up (up I A_entries ((6) * ((I MO 63) - (I MO 63) / (16) * (16)) : Int32).toNatClampNeg (pl)) A_entries (((6) * ((I MO 63) - (I MO 63) / (16) * (16))) + (1) : Int32).toNatClampNeg (kd)) A_entries (((6) * ((I MO 63) - (I MO 63) / (16) * (16))) + (2) : Int32).toNatClampNeg (h)) A_entries (((6) * ((I MO 63) - (I MO 63) / (16) * (16))) + (3) : Int32).toNatClampNeg (if o = 0 then 0 else ((up (up (up I A_entries ((6) * ((I MO 63) - (I MO 63) / (16) * (16)) : Int32).toNatClampNeg (pl)) A_entries (((6) * ((I MO 63) - (I MO 63) / (16) * (16))) + (1) : Int32).toNatClampNeg (kd)) A_entries (((6) * ((I MO 63) - (I MO 63) / (16) * (16))) + (2) : Int32).toNatClampNeg (h)) MO 83))) MO 84))) MO 50)) MO 63) + (1)))
set_option maxRecDepth 20000 in
set_option maxHeartbeats 4000000 in
theorem ev_Mod_noteAt {Δ : Dx} {X : Lx} (hX : MX Δ X) (I : Nat → Nat → Int32) (pl : Int32) (kd : Int32) (h : Int32) (o : Int32) (j : Nat) (hj : I MO 63 = nI j) (hj2 : j < 2000000) : Ev Δ 0 m_Mod_noteAt [.ref (Δ.ba + MO), .int pl, .int kd, .int h, .int o] (I, X) (none) (s_Mod_noteAt I pl kd h o, X) := by
  refine ev_of (by decide) (Nat.le_of_ble_eq_true rfl) (fun Γ hk hR hT => ?_)
  unfold s_Mod_noteAt at hT
  refine g_bipush (pc := 0) (v := 6) (dd d_Mod_noteAt 0 rfl) (by decide) ?_
  refine g_aload_n (pc := 2) (dd d_Mod_noteAt 1 rfl) rfl ?_
  refine g_geti (pc := 3) (dd d_Mod_noteAt 2 rfl) f_Mod_418 ob_MO rfl ?_
  refine g_bipush (pc := 6) (v := 16) (dd d_Mod_noteAt 3 rfl) (by decide) ?_
  refine g_irem (pc := 8) (dd d_Mod_noteAt 4 rfl) (by decide) ?_
  refine g_imul (pc := 9) (dd d_Mod_noteAt 5 rfl) ?_
  refine g_istore (pc := 10) (dd d_Mod_noteAt 6 rfl) (by decide) ?_
  refine g_aload_n (pc := 12) (dd d_Mod_noteAt 7 rfl) rfl ?_
  refine g_getr (pc := 13) (dd d_Mod_noteAt 8 rfl) f_Mod_104 ob_MO rfl (mr_entries hX) ?_
  refine g_iload (pc := 16) (dd d_Mod_noteAt 9 rfl) rfl ?_
  refine g_iload_n (pc := 18) (dd d_Mod_noteAt 10 rfl) rfl ?_
  refine g_iastN (pc := 19) (dd d_Mod_noteAt 11 rfl) ar_A_entries (by (try dsimp only); rw [hj, rem16 (by omega), show (6 : Int32) = nI 6 from rfl, pk_mul, vp_in_iff, nI_toInt (by omega)]; omega) (fun I1 hI1 => ?_)
  refine g_aload_n (pc := 20) (dd d_Mod_noteAt 12 rfl) rfl ?_
  refine g_getr (pc := 21) (dd d_Mod_noteAt 13 rfl) f_Mod_104 ob_MO rfl (mr_entries hX) ?_
  refine g_iload (pc := 24) (dd d_Mod_noteAt 14 rfl) rfl ?_
  refine g_iconst (pc := 26) (v := 1) (dd d_Mod_noteAt 15 rfl) (by decide) ?_
  refine g_iadd (pc := 27) (dd d_Mod_noteAt 16 rfl) ?_
  refine g_iload_n (pc := 28) (dd d_Mod_noteAt 17 rfl) rfl ?_
  refine g_iastN (pc := 29) (dd d_Mod_noteAt 18 rfl) ar_A_entries (by subst_vars; (try dsimp only); (try simp (decide := true) only [up_o]); rw [hj, rem16 (by omega), show (6 : Int32) = nI 6 from rfl, pk_mul, show (1 : Int32) = nI 1 from rfl, nI_add, vp_in_iff, nI_toInt (by omega)]; omega) (fun I2 hI2 => ?_)
  refine g_aload_n (pc := 30) (dd d_Mod_noteAt 19 rfl) rfl ?_
  refine g_getr (pc := 31) (dd d_Mod_noteAt 20 rfl) f_Mod_104 ob_MO rfl (mr_entries hX) ?_
  refine g_iload (pc := 34) (dd d_Mod_noteAt 21 rfl) rfl ?_
  refine g_iconst (pc := 36) (v := 2) (dd d_Mod_noteAt 22 rfl) (by decide) ?_
  refine g_iadd (pc := 37) (dd d_Mod_noteAt 23 rfl) ?_
  refine g_iload_n (pc := 38) (dd d_Mod_noteAt 24 rfl) rfl ?_
  refine g_iastN (pc := 39) (dd d_Mod_noteAt 25 rfl) ar_A_entries (by subst_vars; (try dsimp only); (try simp (decide := true) only [up_o]); rw [hj, rem16 (by omega), show (6 : Int32) = nI 6 from rfl, pk_mul, show (2 : Int32) = nI 2 from rfl, nI_add, vp_in_iff, nI_toInt (by omega)]; omega) (fun I3 hI3 => ?_)
  refine g_aload_n (pc := 40) (dd d_Mod_noteAt 26 rfl) rfl ?_
  refine g_getr (pc := 41) (dd d_Mod_noteAt 27 rfl) f_Mod_104 ob_MO rfl (mr_entries hX) ?_
  refine g_iload (pc := 44) (dd d_Mod_noteAt 28 rfl) rfl ?_
  refine g_iconst (pc := 46) (v := 3) (dd d_Mod_noteAt 29 rfl) (by decide) ?_
  refine g_iadd (pc := 47) (dd d_Mod_noteAt 30 rfl) ?_
  refine g_iload (pc := 48) (dd d_Mod_noteAt 31 rfl) rfl ?_
  suffices K50 : GG Δ m_Mod_noteAt Γ NN 0 0 (I3, X) 61 [some (.ref (Δ.ba + MO)), some (.int (pl)), some (.int (kd)), some (.int (h)), some (.int (o)), some (.int ((6) * ((I MO 63) - (I MO 63) / (16) * (16))))] [.int (if o = 0 then 0 else (I3 MO 83)), .int (((6) * ((I MO 63) - (I MO 63) / (16) * (16))) + (3)), .ref (Δ.ba + A_entries)] by
    refine g_ifeq (pc := 50) (tgt := 60) (dd d_Mod_noteAt 32 rfl) (by decide) (fun q1 => ?_) (fun q1 => ?_)
    · have t1 := q1
      try simp only [e1x, e0x, i10, thrP, thrN, Classical.not_not, not_and, not_or, not_true_eq_false, not_false_eq_true, true_and, and_true, and_self, or_false, or_true, false_or, true_or, eq_self] at t1
      refine g_iconst (pc := 60) (v := 0) (dd d_Mod_noteAt 36 rfl) (by decide) ?_
      simp only [if_pos q1] at K50 ⊢
      exact K50
    · have t1 := q1
      try simp only [e1x, e0x, i10, thrP, thrN, Classical.not_not, not_and, not_or, not_true_eq_false, not_false_eq_true, true_and, and_true, and_self, or_false, or_true, false_or, true_or, eq_self] at t1
      refine g_aload_n (pc := 53) (dd d_Mod_noteAt 33 rfl) rfl ?_
      refine g_geti (pc := 54) (dd d_Mod_noteAt 34 rfl) f_Mod_546 ob_MO rfl ?_
      refine g_goto (pc := 57) (tgt := 61) (dd d_Mod_noteAt 35 rfl) (by decide) ?_
      simp only [if_neg q1] at K50 ⊢
      exact K50
  refine g_iastN (pc := 61) (dd d_Mod_noteAt 37 rfl) ar_A_entries (by subst_vars; (try dsimp only); (try simp (decide := true) only [up_o]); rw [hj, rem16 (by omega), show (6 : Int32) = nI 6 from rfl, pk_mul, show (3 : Int32) = nI 3 from rfl, nI_add, vp_in_iff, nI_toInt (by omega)]; omega) (fun I4 hI4 => ?_)
  refine g_aload_n (pc := 62) (dd d_Mod_noteAt 38 rfl) rfl ?_
  refine g_getr (pc := 63) (dd d_Mod_noteAt 39 rfl) f_Mod_104 ob_MO rfl (mr_entries hX) ?_
  refine g_iload (pc := 66) (dd d_Mod_noteAt 40 rfl) rfl ?_
  refine g_iconst (pc := 68) (v := 4) (dd d_Mod_noteAt 41 rfl) (by decide) ?_
  refine g_iadd (pc := 69) (dd d_Mod_noteAt 42 rfl) ?_
  refine g_iload (pc := 70) (dd d_Mod_noteAt 43 rfl) rfl ?_
  suffices K72 : GG Δ m_Mod_noteAt Γ NN 0 0 (I4, X) 83 [some (.ref (Δ.ba + MO)), some (.int (pl)), some (.int (kd)), some (.int (h)), some (.int (o)), some (.int ((6) * ((I MO 63) - (I MO 63) / (16) * (16))))] [.int (if o = 0 then 0 else (I4 MO 84)), .int (((6) * ((I MO 63) - (I MO 63) / (16) * (16))) + (4)), .ref (Δ.ba + A_entries)] by
    refine g_ifeq (pc := 72) (tgt := 82) (dd d_Mod_noteAt 44 rfl) (by decide) (fun q2 => ?_) (fun q2 => ?_)
    · have t2 := q2
      try simp only [e1x, e0x, i10, thrP, thrN, Classical.not_not, not_and, not_or, not_true_eq_false, not_false_eq_true, true_and, and_true, and_self, or_false, or_true, false_or, true_or, eq_self] at t2
      refine g_iconst (pc := 82) (v := 0) (dd d_Mod_noteAt 48 rfl) (by decide) ?_
      simp only [if_pos q2] at K72 ⊢
      exact K72
    · have t2 := q2
      try simp only [e1x, e0x, i10, thrP, thrN, Classical.not_not, not_and, not_or, not_true_eq_false, not_false_eq_true, true_and, and_true, and_self, or_false, or_true, false_or, true_or, eq_self] at t2
      refine g_aload_n (pc := 75) (dd d_Mod_noteAt 45 rfl) rfl ?_
      refine g_geti (pc := 76) (dd d_Mod_noteAt 46 rfl) f_Mod_549 ob_MO rfl ?_
      refine g_goto (pc := 79) (tgt := 83) (dd d_Mod_noteAt 47 rfl) (by decide) ?_
      simp only [if_neg q2] at K72 ⊢
      exact K72
  refine g_iastN (pc := 83) (dd d_Mod_noteAt 49 rfl) ar_A_entries (by subst_vars; (try dsimp only); (try simp (decide := true) only [up_o]); rw [hj, rem16 (by omega), show (6 : Int32) = nI 6 from rfl, pk_mul, show (4 : Int32) = nI 4 from rfl, nI_add, vp_in_iff, nI_toInt (by omega)]; omega) (fun I5 hI5 => ?_)
  refine g_aload_n (pc := 84) (dd d_Mod_noteAt 50 rfl) rfl ?_
  refine g_getr (pc := 85) (dd d_Mod_noteAt 51 rfl) f_Mod_104 ob_MO rfl (mr_entries hX) ?_
  refine g_iload (pc := 88) (dd d_Mod_noteAt 52 rfl) rfl ?_
  refine g_iconst (pc := 90) (v := 5) (dd d_Mod_noteAt 53 rfl) (by decide) ?_
  refine g_iadd (pc := 91) (dd d_Mod_noteAt 54 rfl) ?_
  refine g_aload_n (pc := 92) (dd d_Mod_noteAt 55 rfl) rfl ?_
  refine g_geti (pc := 93) (dd d_Mod_noteAt 56 rfl) f_Mod_406 ob_MO rfl ?_
  refine g_iastN (pc := 96) (dd d_Mod_noteAt 57 rfl) ar_A_entries (by subst_vars; (try dsimp only); (try simp (decide := true) only [up_o]); rw [hj, rem16 (by omega), show (6 : Int32) = nI 6 from rfl, pk_mul, show (5 : Int32) = nI 5 from rfl, nI_add, vp_in_iff, nI_toInt (by omega)]; omega) (fun I6 hI6 => ?_)
  refine g_aload_n (pc := 97) (dd d_Mod_noteAt 58 rfl) rfl ?_
  refine g_dup (pc := 98) (dd d_Mod_noteAt 59 rfl) rfl ?_
  refine g_geti (pc := 99) (dd d_Mod_noteAt_1 0 rfl) f_Mod_418 ob_MO rfl ?_
  refine g_iconst (pc := 102) (v := 1) (dd d_Mod_noteAt_1 1 rfl) (by decide) ?_
  refine g_iadd (pc := 103) (dd d_Mod_noteAt_1 2 rfl) ?_
  refine g_putiN (pc := 104) (dd d_Mod_noteAt_1 3 rfl) f_Mod_418 fm_Mod_63 ob_MO rfl (fun I7 hI7 => ?_)
  subst hI7 hI6 hI5 hI4 hI3 hI2 hI1
  exact g_vret (pc := 107) rfl (dd d_Mod_noteAt_1 4 rfl) hT
def s_Mod_note (I : Nat → Nat → Int32) (kd : Int32) (h : Int32) (o : Int32) : Nat → Nat → Int32 := (s_Mod_noteAt I (I MO 42) kd h o)
set_option maxRecDepth 20000 in
set_option maxHeartbeats 4000000 in
theorem ev_Mod_note {Δ : Dx} {X : Lx} (hX : MX Δ X) (I : Nat → Nat → Int32) (kd : Int32) (h : Int32) (o : Int32) (j : Nat) (hj : I MO 63 = nI j) (hj2 : j < 2000000) : Ev Δ 1 m_Mod_note [.ref (Δ.ba + MO), .int kd, .int h, .int o] (I, X) (none) (s_Mod_note I kd h o, X) := by
  refine ev_of (by decide) (Nat.le_of_ble_eq_true rfl) (fun Γ hk hR hT => ?_)
  unfold s_Mod_note at hT
  refine g_aload_n (pc := 0) (dd d_Mod_note 0 rfl) rfl ?_
  refine g_aload_n (pc := 1) (dd d_Mod_note 1 rfl) rfl ?_
  refine g_geti (pc := 2) (dd d_Mod_note 2 rfl) f_Mod_391 ob_MO rfl ?_
  refine g_iload_n (pc := 5) (dd d_Mod_note 3 rfl) rfl ?_
  refine g_iload_n (pc := 6) (dd d_Mod_note 4 rfl) rfl ?_
  refine g_iload_n (pc := 7) (dd d_Mod_note 5 rfl) rfl ?_
  refine g_callV (pc := 8) (dd d_Mod_note 6 rfl) v_Mod_592 ob_MO rfl (ev_Mod_noteAt hX _ _ _ _ _ j (by first | assumption | (subst_vars; simp (decide := true) only [up_o, up_s, if_true, if_false]; assumption)) hj2) rfl (by rw [hk]; decide) (Nat.le_of_ble_eq_true rfl) ⟨Nat.zero_le _, Nat.zero_le _⟩ rfl ?_
  obtain ⟨I1, hI1⟩ : ∃ z, z = s_Mod_noteAt I (I MO 42) kd h o := ⟨_, rfl⟩
  rw [← hI1]
  subst hI1
  exact g_vret (pc := 11) rfl (dd d_Mod_note 7 rfl) hT
def s_Mod_say (I : Nat → Nat → Int32) (c : Int64) : Nat → Nat → Int32 := (up (up I A_list (I MO 8 : Int32).toNatClampNeg ((c).toInt32)) MO 8 (((up I A_list (I MO 8 : Int32).toNatClampNeg ((c).toInt32)) MO 8) + (1)))
set_option maxRecDepth 20000 in
set_option maxHeartbeats 4000000 in
theorem ev_Mod_say {Δ : Dx} {X : Lx} (hX : MX Δ X) (I : Nat → Nat → Int32) (c : Int64) (h80 : 0 ≤ (I MO 8).toInt) (h81 : (I MO 8).toInt ≤ 99) : Ev Δ 0 m_Mod_say [.ref (Δ.ba + MO), .long c] (I, X) (none) (s_Mod_say I c, X) := by
  refine ev_of (by decide) (Nat.le_of_ble_eq_true rfl) (fun Γ hk hR hT => ?_)
  unfold s_Mod_say at hT
  refine g_aload_n (pc := 0) (dd d_Mod_say 0 rfl) rfl ?_
  refine g_getr (pc := 1) (dd d_Mod_say 1 rfl) f_Mod_17 ob_MO rfl (mr_list hX) ?_
  refine g_aload_n (pc := 4) (dd d_Mod_say 2 rfl) rfl ?_
  refine g_geti (pc := 5) (dd d_Mod_say 3 rfl) f_Mod_463 ob_MO rfl ?_
  refine g_lload_n (pc := 8) (dd d_Mod_say 4 rfl) rfl ?_
  refine g_l2i (pc := 9) (dd d_Mod_say 5 rfl) ?_
  refine g_iastN (pc := 10) (dd d_Mod_say 6 rfl) ar_A_list (by first | assumption | (subst_vars; rw [vp_in_iff]; (try simp (decide := true) only [up_o, up_s, if_true, if_false] at  ⊢); (try simp only [← Int32.toInt_inj, Int32.lt_iff_toInt_lt, Int32.le_iff_toInt_le, Int32.reduceToInt] at  ⊢); first | omega | (simp only [Int32.toInt_add, Int32.toInt_sub, Int32.toInt_mul, Int32.reduceToInt, Int.bmod_def] at  ⊢; (repeat' split) <;> omega))) (fun I1 hI1 => ?_)
  refine g_aload_n (pc := 11) (dd d_Mod_say 7 rfl) rfl ?_
  refine g_dup (pc := 12) (dd d_Mod_say 8 rfl) rfl ?_
  refine g_geti (pc := 13) (dd d_Mod_say 9 rfl) f_Mod_463 ob_MO rfl ?_
  refine g_iconst (pc := 16) (v := 1) (dd d_Mod_say 10 rfl) (by decide) ?_
  refine g_iadd (pc := 17) (dd d_Mod_say 11 rfl) ?_
  refine g_putiN (pc := 18) (dd d_Mod_say 12 rfl) f_Mod_463 fm_Mod_8 ob_MO rfl (fun I2 hI2 => ?_)
  subst hI2 hI1
  exact g_vret (pc := 21) rfl (dd d_Mod_say 13 rfl) hT
def lp_Mod_takeInput_12 (s0 : (Nat → Nat → Int32)) : Nat → (Nat → Nat → Int32)
  | 0 => s0
  | k + 1 => (fun s : (Nat → Nat → Int32) => (up (up s A_inputValues (nI k : Int32).toNatClampNeg (s A_inputValues ((nI k) + (1) : Int32).toNatClampNeg)) A_inputTags (nI k : Int32).toNatClampNeg ((up s A_inputValues (nI k : Int32).toNatClampNeg (s A_inputValues ((nI k) + (1) : Int32).toNatClampNeg)) A_inputTags ((nI k) + (1) : Int32).toNatClampNeg))) (lp_Mod_takeInput_12 s0 k)
def s_Mod_takeInput (I : Nat → Nat → Int32) (n : Nat) : Nat → Nat → Int32 := ((lp_Mod_takeInput_12 (up I MO 45 ((I MO 45) - (1))) n))
set_option maxRecDepth 20000 in
set_option maxHeartbeats 4000000 in
theorem ev_Mod_takeInput {Δ : Dx} {X : Lx} (hX : MX Δ X) (I : Nat → Nat → Int32) (n : Nat) (hi : I MO 45 = nI (n + 1)) (hn : n ≤ 15) : Ev Δ 0 m_Mod_takeInput [.ref (Δ.ba + MO)] (I, X) (none) (s_Mod_takeInput I n, X) := by
  refine ev_of (by decide) (Nat.le_of_ble_eq_true rfl) (fun Γ hk hR hT => ?_)
  unfold s_Mod_takeInput at hT
  refine g_aload_n (pc := 0) (dd d_Mod_takeInput 0 rfl) rfl ?_
  refine g_dup (pc := 1) (dd d_Mod_takeInput 1 rfl) rfl ?_
  refine g_geti (pc := 2) (dd d_Mod_takeInput 2 rfl) f_Mod_400 ob_MO rfl ?_
  refine g_iconst (pc := 5) (v := 1) (dd d_Mod_takeInput 3 rfl) (by decide) ?_
  refine g_isub (pc := 6) (dd d_Mod_takeInput 4 rfl) ?_
  refine g_putiN (pc := 7) (dd d_Mod_takeInput 5 rfl) f_Mod_400 fm_Mod_45 ob_MO rfl (fun I1 hI1 => ?_)
  refine g_iconst (pc := 10) (v := 0) (dd d_Mod_takeInput 6 rfl) (by decide) ?_
  refine g_istore_n (pc := 11) (dd d_Mod_takeInput 7 rfl) (by decide) ?_
  have h0 : I1 MO 45 = nI n := by rw [hI1, up_self]; show I MO 45 - 1 = nI n; rw [hi]; exact nI_pred n
  have hq : ∀ k, lp_Mod_takeInput_12 I1 k MO 45 = nI n := by
    intro k
    induction k with
    | zero => exact h0
    | succ k ih => simp (decide := true) only [lp_Mod_takeInput_12, up_o]; exact ih
  suffices K12 : GG Δ m_Mod_takeInput Γ NN 0 0 ((lp_Mod_takeInput_12 I1 n), X) 54 [some (.ref (Δ.ba + MO)), some (.int (nI n))] [] by
    refine down n (P := fun k => GG Δ m_Mod_takeInput Γ NN 0 0 ((lp_Mod_takeInput_12 I1 k), X) 12 [some (.ref (Δ.ba + MO)), some (.int (nI k))] []) ?_ ?_
    · skip
      refine g_iload_n (pc := 12) (dd d_Mod_takeInput 8 rfl) rfl ?_
      refine g_aload_n (pc := 13) (dd d_Mod_takeInput 9 rfl) rfl ?_
      refine g_geti (pc := 14) (dd d_Mod_takeInput 10 rfl) f_Mod_400 ob_MO rfl ?_
      refine g_icmpge (pc := 17) (tgt := 54) (dd d_Mod_takeInput 11 rfl) (by decide) (fun q1 => ?_) (fun q1 => ?_)
      · have t1 := q1
        try simp only [e1x, e0x, i10, thrP, thrN, Classical.not_not, not_and, not_or, not_true_eq_false, not_false_eq_true, true_and, and_true, and_self, or_false, or_true, false_or, true_or, eq_self] at t1
        exact K12
      · have t1 := q1
        try simp only [e1x, e0x, i10, thrP, thrN, Classical.not_not, not_and, not_or, not_true_eq_false, not_false_eq_true, true_and, and_true, and_self, or_false, or_true, false_or, true_or, eq_self] at t1
        exact absurd (show lp_Mod_takeInput_12 I1 n MO 45 ≤ nI n by rw [hq n]; exact Int32.le_refl _) q1
    · intro k hkn ih
      refine g_iload_n (pc := 12) (dd d_Mod_takeInput 8 rfl) rfl ?_
      refine g_aload_n (pc := 13) (dd d_Mod_takeInput 9 rfl) rfl ?_
      refine g_geti (pc := 14) (dd d_Mod_takeInput 10 rfl) f_Mod_400 ob_MO rfl ?_
      refine g_icmpge (pc := 17) (tgt := 54) (dd d_Mod_takeInput 11 rfl) (by decide) (fun q2 => ?_) (fun q2 => ?_)
      · have t2 := q2
        try simp only [e1x, e0x, i10, thrP, thrN, Classical.not_not, not_and, not_or, not_true_eq_false, not_false_eq_true, true_and, and_true, and_self, or_false, or_true, false_or, true_or, eq_self] at t2
        exact absurd q2 (show ¬ lp_Mod_takeInput_12 I1 k MO 45 ≤ nI k by rw [hq k]; exact nI_ge hkn (by omega))
      · have t2 := q2
        try simp only [e1x, e0x, i10, thrP, thrN, Classical.not_not, not_and, not_or, not_true_eq_false, not_false_eq_true, true_and, and_true, and_self, or_false, or_true, false_or, true_or, eq_self] at t2
        refine g_aload_n (pc := 20) (dd d_Mod_takeInput 12 rfl) rfl ?_
        refine g_getr (pc := 21) (dd d_Mod_takeInput 13 rfl) f_Mod_80 ob_MO rfl (mr_inputValues hX) ?_
        refine g_iload_n (pc := 24) (dd d_Mod_takeInput 14 rfl) rfl ?_
        refine g_aload_n (pc := 25) (dd d_Mod_takeInput 15 rfl) rfl ?_
        refine g_getr (pc := 26) (dd d_Mod_takeInput 16 rfl) f_Mod_80 ob_MO rfl (mr_inputValues hX) ?_
        refine g_iload_n (pc := 29) (dd d_Mod_takeInput 17 rfl) rfl ?_
        refine g_iconst (pc := 30) (v := 1) (dd d_Mod_takeInput 18 rfl) (by decide) ?_
        refine g_iadd (pc := 31) (dd d_Mod_takeInput 19 rfl) ?_
        refine g_iald (pc := 32) (dd d_Mod_takeInput 20 rfl) ar_A_inputValues (by rw [nI_1, vp_in_iff, nI_toInt (by omega)]; omega) ?_
        refine g_iastN (pc := 33) (dd d_Mod_takeInput 21 rfl) ar_A_inputValues (by rw [vp_in_iff, nI_toInt (by omega)]; omega) (fun I2 hI2 => ?_)
        refine g_aload_n (pc := 34) (dd d_Mod_takeInput 22 rfl) rfl ?_
        refine g_getr (pc := 35) (dd d_Mod_takeInput 23 rfl) f_Mod_83 ob_MO rfl (mr_inputTags hX) ?_
        refine g_iload_n (pc := 38) (dd d_Mod_takeInput 24 rfl) rfl ?_
        refine g_aload_n (pc := 39) (dd d_Mod_takeInput 25 rfl) rfl ?_
        refine g_getr (pc := 40) (dd d_Mod_takeInput 26 rfl) f_Mod_83 ob_MO rfl (mr_inputTags hX) ?_
        refine g_iload_n (pc := 43) (dd d_Mod_takeInput 27 rfl) rfl ?_
        refine g_iconst (pc := 44) (v := 1) (dd d_Mod_takeInput 28 rfl) (by decide) ?_
        refine g_iadd (pc := 45) (dd d_Mod_takeInput 29 rfl) ?_
        refine g_iald (pc := 46) (dd d_Mod_takeInput 30 rfl) ar_A_inputTags (by rw [nI_1, vp_in_iff, nI_toInt (by omega)]; omega) ?_
        refine g_iastN (pc := 47) (dd d_Mod_takeInput 31 rfl) ar_A_inputTags (by rw [vp_in_iff, nI_toInt (by omega)]; omega) (fun I3 hI3 => ?_)
        refine g_iincW (pc := 48) (w := 1) (dd d_Mod_takeInput 32 rfl) rfl (by decide) (by decide) ?_
        refine g_goto (pc := 51) (tgt := 12) (dd d_Mod_takeInput 33 rfl) (by decide) ?_
        subst hI3 hI2
        exact GG_eq ih rfl (by rw [← nI_1]; rfl) rfl
  obtain ⟨I4, hI4⟩ : ∃ z, z = (lp_Mod_takeInput_12 I1 n) := ⟨_, rfl⟩
  rw [← hI4]
  subst hI4 hI1
  exact g_vret (pc := 54) rfl (dd d_Mod_takeInput 34 rfl) hT
