set_option maxRecDepth 20000 in
set_option maxHeartbeats 4000000 in
theorem ev_Mod_registerOf {Δ : Dx} {X : Lx} (hX : MX Δ X) (I : Nat → Nat → Int32) (r what : Int32) : Ev Δ 1 m_Mod_registerOf [.ref (Δ.ba + MO), .int r, .int what] (I, X) ((if (if 0 < thr (if (if 0 ≤ r ∧ r ≤ 8 then 1 else 0 : Int32) = 0 then 1 else 0 : Int32) (if (if 0 ≤ r ∧ r ≤ 8 then 1 else 0 : Int32) = 0 then 0 else (if (if 0 ≤ what ∧ what ≤ 1 then 1 else 0 : Int32) = 0 then 1 else 0) : Int32) then 1 else 0 : Int32) = 0 then some (.int (if r = (8 : Int32) then (if what = 0 then ((up I MO 0 (thr (if (if 0 ≤ r ∧ r ≤ 8 then 1 else 0 : Int32) = 0 then 1 else 0 : Int32) (if (if 0 ≤ r ∧ r ≤ 8 then 1 else 0 : Int32) = 0 then 0 else (if (if 0 ≤ what ∧ what ≤ 1 then 1 else 0 : Int32) = 0 then 1 else 0) : Int32))) MO 42) else ((up I MO 0 (thr (if (if 0 ≤ r ∧ r ≤ 8 then 1 else 0 : Int32) = 0 then 1 else 0 : Int32) (if (if 0 ≤ r ∧ r ≤ 8 then 1 else 0 : Int32) = 0 then 0 else (if (if 0 ≤ what ∧ what ≤ 1 then 1 else 0 : Int32) = 0 then 1 else 0) : Int32))) MO 43)) else (if what = 0 then ((up I MO 0 (thr (if (if 0 ≤ r ∧ r ≤ 8 then 1 else 0 : Int32) = 0 then 1 else 0 : Int32) (if (if 0 ≤ r ∧ r ≤ 8 then 1 else 0 : Int32) = 0 then 0 else (if (if 0 ≤ what ∧ what ≤ 1 then 1 else 0 : Int32) = 0 then 1 else 0) : Int32))) A_registers r.toNatClampNeg) else ((up I MO 0 (thr (if (if 0 ≤ r ∧ r ≤ 8 then 1 else 0 : Int32) = 0 then 1 else 0 : Int32) (if (if 0 ≤ r ∧ r ≤ 8 then 1 else 0 : Int32) = 0 then 0 else (if (if 0 ≤ what ∧ what ≤ 1 then 1 else 0 : Int32) = 0 then 1 else 0) : Int32))) A_registerTags r.toNatClampNeg)))) else some (.int (0)))) ((up I MO 0 (thr (if (if 0 ≤ r ∧ r ≤ 8 then 1 else 0 : Int32) = 0 then 1 else 0 : Int32) (if (if 0 ≤ r ∧ r ≤ 8 then 1 else 0 : Int32) = 0 then 0 else (if (if 0 ≤ what ∧ what ≤ 1 then 1 else 0 : Int32) = 0 then 1 else 0) : Int32))), X) := by
  refine ev_of (by decide) (Nat.le_of_ble_eq_true rfl) (fun Γ hk hR hT => ?_)
  refine g_iload_n (pc := 0) (dd d_Mod_registerOf 0 rfl) rfl ?_
  refine g_iconst (pc := 1) (v := 0) (dd d_Mod_registerOf 1 rfl) (by decide) ?_
  refine g_bipush (pc := 2) (v := 8) (dd d_Mod_registerOf 2 rfl) (by decide) ?_
  refine g_callS (pc := 4) (dd d_Mod_registerOf 3 rfl) s_Mod_243 (ev_Mod_in _ _ _ _) rfl (by rw [hk]; decide) (Nat.le_of_ble_eq_true rfl) ⟨Nat.zero_le _, Nat.zero_le _⟩ rfl ?_
  refine g_istore_n (pc := 7) (dd d_Mod_registerOf 4 rfl) (by decide) ?_
  refine g_aload_n (pc := 8) (dd d_Mod_registerOf 5 rfl) rfl ?_
  refine g_iload_n (pc := 9) (dd d_Mod_registerOf 6 rfl) rfl ?_
  suffices K10 : GG Δ m_Mod_registerOf Γ NN 0 0 (I, X) 18 [some (.ref (Δ.ba + MO)), some (.int (r)), some (.int (what)), some (.int (if 0 ≤ r ∧ r ≤ 8 then 1 else 0))] [.int (if (if 0 ≤ r ∧ r ≤ 8 then 1 else 0 : Int32) = 0 then 1 else 0), .ref (Δ.ba + MO)] by
    refine g_ifne (pc := 10) (tgt := 17) (dd d_Mod_registerOf 7 rfl) (by decide) (fun q1 => ?_) (fun q1 => ?_)
    · have t1 := q1
      try simp only [e1x, e0x, i10, thrP, thrN, Classical.not_not, not_and, not_or, not_true_eq_false, not_false_eq_true, true_and, and_true, and_self, or_false, or_true, false_or, true_or, eq_self] at t1
      refine g_iconst (pc := 17) (v := 0) (dd d_Mod_registerOf 10 rfl) (by decide) ?_
      simp only [if_neg q1] at K10 ⊢
      exact K10
    · have t1 := q1
      try simp only [e1x, e0x, i10, thrP, thrN, Classical.not_not, not_and, not_or, not_true_eq_false, not_false_eq_true, true_and, and_true, and_self, or_false, or_true, false_or, true_or, eq_self] at t1
      refine g_iconst (pc := 13) (v := 1) (dd d_Mod_registerOf 8 rfl) (by decide) ?_
      refine g_goto (pc := 14) (tgt := 18) (dd d_Mod_registerOf 9 rfl) (by decide) ?_
      simp only [if_pos q1] at K10 ⊢
      exact K10
  refine g_iload_n (pc := 18) (dd d_Mod_registerOf 11 rfl) rfl ?_
  suffices K19 : GG Δ m_Mod_registerOf Γ NN 0 0 (I, X) 36 [some (.ref (Δ.ba + MO)), some (.int (r)), some (.int (what)), some (.int (if 0 ≤ r ∧ r ≤ 8 then 1 else 0))] [.int (if (if 0 ≤ r ∧ r ≤ 8 then 1 else 0 : Int32) = 0 then 0 else (if (if 0 ≤ what ∧ what ≤ 1 then 1 else 0 : Int32) = 0 then 1 else 0)), .int (if (if 0 ≤ r ∧ r ≤ 8 then 1 else 0 : Int32) = 0 then 1 else 0), .ref (Δ.ba + MO)] by
    refine g_ifeq (pc := 19) (tgt := 35) (dd d_Mod_registerOf 12 rfl) (by decide) (fun q2 => ?_) (fun q2 => ?_)
    · have t2 := q2
      try simp only [e1x, e0x, i10, thrP, thrN, Classical.not_not, not_and, not_or, not_true_eq_false, not_false_eq_true, true_and, and_true, and_self, or_false, or_true, false_or, true_or, eq_self] at t2
      refine g_iconst (pc := 35) (v := 0) (dd d_Mod_registerOf 20 rfl) (by decide) ?_
      simp only [if_pos q2] at K19 ⊢
      exact K19
    · have t2 := q2
      try simp only [e1x, e0x, i10, thrP, thrN, Classical.not_not, not_and, not_or, not_true_eq_false, not_false_eq_true, true_and, and_true, and_self, or_false, or_true, false_or, true_or, eq_self] at t2
      refine g_iload_n (pc := 22) (dd d_Mod_registerOf 13 rfl) rfl ?_
      refine g_iconst (pc := 23) (v := 0) (dd d_Mod_registerOf 14 rfl) (by decide) ?_
      refine g_iconst (pc := 24) (v := 1) (dd d_Mod_registerOf 15 rfl) (by decide) ?_
      refine g_callS (pc := 25) (dd d_Mod_registerOf 16 rfl) s_Mod_243 (ev_Mod_in _ _ _ _) rfl (by rw [hk]; decide) (Nat.le_of_ble_eq_true rfl) ⟨Nat.zero_le _, Nat.zero_le _⟩ rfl ?_
      suffices K28 : GG Δ m_Mod_registerOf Γ NN 0 0 (I, X) 36 [some (.ref (Δ.ba + MO)), some (.int (r)), some (.int (what)), some (.int (if 0 ≤ r ∧ r ≤ 8 then 1 else 0))] [.int (if (if 0 ≤ what ∧ what ≤ 1 then 1 else 0 : Int32) = 0 then 1 else 0), .int (if (if 0 ≤ r ∧ r ≤ 8 then 1 else 0 : Int32) = 0 then 1 else 0), .ref (Δ.ba + MO)] by
        refine g_ifne (pc := 28) (tgt := 35) (dd d_Mod_registerOf 17 rfl) (by decide) (fun q3 => ?_) (fun q3 => ?_)
        · have t3 := q3
          try simp only [e1x, e0x, i10, thrP, thrN, Classical.not_not, not_and, not_or, not_true_eq_false, not_false_eq_true, true_and, and_true, and_self, or_false, or_true, false_or, true_or, eq_self] at t3
          refine g_iconst (pc := 35) (v := 0) (dd d_Mod_registerOf 20 rfl) (by decide) ?_
          simp only [if_neg q3] at K28 ⊢
          exact K28
        · have t3 := q3
          try simp only [e1x, e0x, i10, thrP, thrN, Classical.not_not, not_and, not_or, not_true_eq_false, not_false_eq_true, true_and, and_true, and_self, or_false, or_true, false_or, true_or, eq_self] at t3
          refine g_iconst (pc := 31) (v := 1) (dd d_Mod_registerOf 18 rfl) (by decide) ?_
          refine g_goto (pc := 32) (tgt := 36) (dd d_Mod_registerOf 19 rfl) (by decide) ?_
          simp only [if_pos q3] at K28 ⊢
          exact K28
      simp only [if_neg q2] at K19 ⊢
      exact K19
  refine g_callV (pc := 36) (dd d_Mod_registerOf 21 rfl) v_Mod_250 ob_MO rfl (ev_Mod_refuse hX _ _ _) rfl (by rw [hk]; decide) (Nat.le_of_ble_eq_true rfl) ⟨Nat.zero_le _, Nat.zero_le _⟩ rfl ?_
  obtain ⟨I1, hI1⟩ : ∃ z, z = up I MO 0 (thr (if (if 0 ≤ r ∧ r ≤ 8 then 1 else 0 : Int32) = 0 then 1 else 0 : Int32) (if (if 0 ≤ r ∧ r ≤ 8 then 1 else 0 : Int32) = 0 then 0 else (if (if 0 ≤ what ∧ what ≤ 1 then 1 else 0 : Int32) = 0 then 1 else 0) : Int32)) := ⟨_, rfl⟩
  rw [← hI1]
  refine g_ifeq (pc := 39) (tgt := 44) (dd d_Mod_registerOf 22 rfl) (by decide) (fun q4 => ?_) (fun q4 => ?_)
  · have t4 := q4
    try simp only [e1x, e0x, i10, thrP, thrN, Classical.not_not, not_and, not_or, not_true_eq_false, not_false_eq_true, true_and, and_true, and_self, or_false, or_true, false_or, true_or, eq_self] at t4
    refine g_iload_n (pc := 44) (dd d_Mod_registerOf 25 rfl) rfl ?_
    refine g_bipush (pc := 45) (v := 8) (dd d_Mod_registerOf 26 rfl) (by decide) ?_
    suffices K47 : GG Δ m_Mod_registerOf Γ NN 0 0 (I1, X) 87 [some (.ref (Δ.ba + MO)), some (.int (r)), some (.int (what)), some (.int (if 0 ≤ r ∧ r ≤ 8 then 1 else 0))] [.int (if r = (8 : Int32) then (if what = 0 then (I1 MO 42) else (I1 MO 43)) else (if what = 0 then (I1 A_registers r.toNatClampNeg) else (I1 A_registerTags r.toNatClampNeg)))] by
      refine g_icmpne (pc := 47) (tgt := 68) (dd d_Mod_registerOf 27 rfl) (by decide) (fun q5 => ?_) (fun q5 => ?_)
      · have t5 := q5
        try simp only [e1x, e0x, i10, thrP, thrN, Classical.not_not, not_and, not_or, not_true_eq_false, not_false_eq_true, true_and, and_true, and_self, or_false, or_true, false_or, true_or, eq_self] at t5
        refine g_iload_n (pc := 68) (dd d_Mod_registerOf 36 rfl) rfl ?_
        suffices K69 : GG Δ m_Mod_registerOf Γ NN 0 0 (I1, X) 87 [some (.ref (Δ.ba + MO)), some (.int (r)), some (.int (what)), some (.int (if 0 ≤ r ∧ r ≤ 8 then 1 else 0))] [.int (if what = 0 then (I1 A_registers r.toNatClampNeg) else (I1 A_registerTags r.toNatClampNeg))] by
          refine g_ifne (pc := 69) (tgt := 81) (dd d_Mod_registerOf 37 rfl) (by decide) (fun q6 => ?_) (fun q6 => ?_)
          · have t6 := q6
            try simp only [e1x, e0x, i10, thrP, thrN, Classical.not_not, not_and, not_or, not_true_eq_false, not_false_eq_true, true_and, and_true, and_self, or_false, or_true, false_or, true_or, eq_self] at t6
            refine g_aload_n (pc := 81) (dd d_Mod_registerOf 43 rfl) rfl ?_
            refine g_getr (pc := 82) (dd d_Mod_registerOf 44 rfl) f_Mod_77 ob_MO rfl (mr_registerTags hX) ?_
            refine g_iload_n (pc := 85) (dd d_Mod_registerOf 45 rfl) rfl ?_
            refine g_iald (pc := 86) (dd d_Mod_registerOf 46 rfl) ar_A_registerTags (by first | assumption | (subst_vars; rw [vp_in_iff]; (try simp (decide := true) only [up_o, up_s, if_true, if_false] at t4 t5 t6 ⊢); (try simp only [← Int32.toInt_inj, Int32.lt_iff_toInt_lt, Int32.le_iff_toInt_le, Int32.reduceToInt] at t4 t5 t6 ⊢); first | omega | (simp only [Int32.toInt_add, Int32.toInt_sub, Int32.toInt_mul, Int32.reduceToInt, Int.bmod_def] at t4 t5 t6 ⊢; (repeat' split) <;> omega))) ?_
            simp only [if_neg q6] at K69 ⊢
            exact K69
          · have t6 := q6
            try simp only [e1x, e0x, i10, thrP, thrN, Classical.not_not, not_and, not_or, not_true_eq_false, not_false_eq_true, true_and, and_true, and_self, or_false, or_true, false_or, true_or, eq_self] at t6
            refine g_aload_n (pc := 72) (dd d_Mod_registerOf 38 rfl) rfl ?_
            refine g_getr (pc := 73) (dd d_Mod_registerOf 39 rfl) f_Mod_74 ob_MO rfl (mr_registers hX) ?_
            refine g_iload_n (pc := 76) (dd d_Mod_registerOf 40 rfl) rfl ?_
            refine g_iald (pc := 77) (dd d_Mod_registerOf 41 rfl) ar_A_registers (by first | assumption | (subst_vars; rw [vp_in_iff]; (try simp (decide := true) only [up_o, up_s, if_true, if_false] at t4 t5 t6 ⊢); (try simp only [← Int32.toInt_inj, Int32.lt_iff_toInt_lt, Int32.le_iff_toInt_le, Int32.reduceToInt] at t4 t5 t6 ⊢); first | omega | (simp only [Int32.toInt_add, Int32.toInt_sub, Int32.toInt_mul, Int32.reduceToInt, Int.bmod_def] at t4 t5 t6 ⊢; (repeat' split) <;> omega))) ?_
            refine g_goto (pc := 78) (tgt := 87) (dd d_Mod_registerOf 42 rfl) (by decide) ?_
            simp only [if_pos q6] at K69 ⊢
            exact K69
        simp only [if_neg q5] at K47 ⊢
        exact K47
      · have t5 := q5
        try simp only [e1x, e0x, i10, thrP, thrN, Classical.not_not, not_and, not_or, not_true_eq_false, not_false_eq_true, true_and, and_true, and_self, or_false, or_true, false_or, true_or, eq_self] at t5
        refine g_iload_n (pc := 50) (dd d_Mod_registerOf 28 rfl) rfl ?_
        suffices K51 : GG Δ m_Mod_registerOf Γ NN 0 0 (I1, X) 87 [some (.ref (Δ.ba + MO)), some (.int (r)), some (.int (what)), some (.int (if 0 ≤ r ∧ r ≤ 8 then 1 else 0))] [.int (if what = 0 then (I1 MO 42) else (I1 MO 43))] by
          refine g_ifne (pc := 51) (tgt := 61) (dd d_Mod_registerOf 29 rfl) (by decide) (fun q7 => ?_) (fun q7 => ?_)
          · have t7 := q7
            try simp only [e1x, e0x, i10, thrP, thrN, Classical.not_not, not_and, not_or, not_true_eq_false, not_false_eq_true, true_and, and_true, and_self, or_false, or_true, false_or, true_or, eq_self] at t7
            refine g_aload_n (pc := 61) (dd d_Mod_registerOf 33 rfl) rfl ?_
            refine g_geti (pc := 62) (dd d_Mod_registerOf 34 rfl) f_Mod_394 ob_MO rfl ?_
            refine g_goto (pc := 65) (tgt := 87) (dd d_Mod_registerOf 35 rfl) (by decide) ?_
            simp only [if_neg q7] at K51 ⊢
            exact K51
          · have t7 := q7
            try simp only [e1x, e0x, i10, thrP, thrN, Classical.not_not, not_and, not_or, not_true_eq_false, not_false_eq_true, true_and, and_true, and_self, or_false, or_true, false_or, true_or, eq_self] at t7
            refine g_aload_n (pc := 54) (dd d_Mod_registerOf 30 rfl) rfl ?_
            refine g_geti (pc := 55) (dd d_Mod_registerOf 31 rfl) f_Mod_391 ob_MO rfl ?_
            refine g_goto (pc := 58) (tgt := 87) (dd d_Mod_registerOf 32 rfl) (by decide) ?_
            simp only [if_pos q7] at K51 ⊢
            exact K51
        simp only [if_pos q5] at K47 ⊢
        exact K47
    subst hI1
    try simp only [if_pos q4] at hT ⊢
    exact g_iret (pc := 87) rfl (dd d_Mod_registerOf 47 rfl) hT
  · have t4 := q4
    try simp only [e1x, e0x, i10, thrP, thrN, Classical.not_not, not_and, not_or, not_true_eq_false, not_false_eq_true, true_and, and_true, and_self, or_false, or_true, false_or, true_or, eq_self] at t4
    refine g_iconst (pc := 42) (v := 0) (dd d_Mod_registerOf 23 rfl) (by decide) ?_
    subst hI1
    try simp only [if_neg q4] at hT ⊢
    exact g_iret (pc := 43) rfl (dd d_Mod_registerOf 24 rfl) hT
set_option maxRecDepth 20000 in
set_option maxHeartbeats 4000000 in
theorem ev_Mod_register {Δ : Dx} {X : Lx} (hX : MX Δ X) (I : Nat → Nat → Int32) (r v t : Int32) : Ev Δ 1 m_Mod_register [.ref (Δ.ba + MO), .int r, .int v, .int t] (I, X) (none) (if (if 0 < thr (if (if 0 ≤ r ∧ r ≤ 8 then 1 else 0 : Int32) = 0 then 1 else 0 : Int32) 0 then 1 else 0 : Int32) = 0 then ((if r = (8 : Int32) then ((up (up (up I MO 0 (thr (if (if 0 ≤ r ∧ r ≤ 8 then 1 else 0 : Int32) = 0 then 1 else 0 : Int32) 0)) MO 42 (v)) MO 43 (t))) else ((up (up (up I MO 0 (thr (if (if 0 ≤ r ∧ r ≤ 8 then 1 else 0 : Int32) = 0 then 1 else 0 : Int32) 0)) A_registers r.toNatClampNeg (v)) A_registerTags r.toNatClampNeg (t)))), X) else ((up I MO 0 (thr (if (if 0 ≤ r ∧ r ≤ 8 then 1 else 0 : Int32) = 0 then 1 else 0 : Int32) 0)), X)) := by
  refine ev_of (by decide) (Nat.le_of_ble_eq_true rfl) (fun Γ hk hR hT => ?_)
  refine g_aload_n (pc := 0) (dd d_Mod_register 0 rfl) rfl ?_
  refine g_iload_n (pc := 1) (dd d_Mod_register 1 rfl) rfl ?_
  refine g_iconst (pc := 2) (v := 0) (dd d_Mod_register 2 rfl) (by decide) ?_
  refine g_bipush (pc := 3) (v := 8) (dd d_Mod_register 3 rfl) (by decide) ?_
  refine g_callS (pc := 5) (dd d_Mod_register 4 rfl) s_Mod_243 (ev_Mod_in _ _ _ _) rfl (by rw [hk]; decide) (Nat.le_of_ble_eq_true rfl) ⟨Nat.zero_le _, Nat.zero_le _⟩ rfl ?_
  suffices K8 : GG Δ m_Mod_register Γ NN 0 0 (I, X) 16 [some (.ref (Δ.ba + MO)), some (.int (r)), some (.int (v)), some (.int (t))] [.int (if (if 0 ≤ r ∧ r ≤ 8 then 1 else 0 : Int32) = 0 then 1 else 0), .ref (Δ.ba + MO)] by
    refine g_ifne (pc := 8) (tgt := 15) (dd d_Mod_register 5 rfl) (by decide) (fun q1 => ?_) (fun q1 => ?_)
    · have t1 := q1
      try simp only [e1x, e0x, i10, thrP, thrN, Classical.not_not, not_and, not_or, not_true_eq_false, not_false_eq_true, true_and, and_true, and_self, or_false, or_true, false_or, true_or, eq_self] at t1
      refine g_iconst (pc := 15) (v := 0) (dd d_Mod_register 8 rfl) (by decide) ?_
      simp only [if_neg q1] at K8 ⊢
      exact K8
    · have t1 := q1
      try simp only [e1x, e0x, i10, thrP, thrN, Classical.not_not, not_and, not_or, not_true_eq_false, not_false_eq_true, true_and, and_true, and_self, or_false, or_true, false_or, true_or, eq_self] at t1
      refine g_iconst (pc := 11) (v := 1) (dd d_Mod_register 6 rfl) (by decide) ?_
      refine g_goto (pc := 12) (tgt := 16) (dd d_Mod_register 7 rfl) (by decide) ?_
      simp only [if_pos q1] at K8 ⊢
      exact K8
  refine g_iconst (pc := 16) (v := 0) (dd d_Mod_register 9 rfl) (by decide) ?_
  refine g_callV (pc := 17) (dd d_Mod_register 10 rfl) v_Mod_250 ob_MO rfl (ev_Mod_refuse hX _ _ _) rfl (by rw [hk]; decide) (Nat.le_of_ble_eq_true rfl) ⟨Nat.zero_le _, Nat.zero_le _⟩ rfl ?_
  obtain ⟨I1, hI1⟩ : ∃ z, z = up I MO 0 (thr (if (if 0 ≤ r ∧ r ≤ 8 then 1 else 0 : Int32) = 0 then 1 else 0 : Int32) 0) := ⟨_, rfl⟩
  rw [← hI1]
  refine g_ifeq (pc := 20) (tgt := 24) (dd d_Mod_register 11 rfl) (by decide) (fun q2 => ?_) (fun q2 => ?_)
  · have t2 := q2
    try simp only [e1x, e0x, i10, thrP, thrN, Classical.not_not, not_and, not_or, not_true_eq_false, not_false_eq_true, true_and, and_true, and_self, or_false, or_true, false_or, true_or, eq_self] at t2
    refine g_iload_n (pc := 24) (dd d_Mod_register 13 rfl) rfl ?_
    refine g_bipush (pc := 25) (v := 8) (dd d_Mod_register 14 rfl) (by decide) ?_
    suffices K27 : GG Δ m_Mod_register Γ NN 0 0 ((if r = (8 : Int32) then ((up (up I1 MO 42 (v)) MO 43 (t))) else ((up (up I1 A_registers r.toNatClampNeg (v)) A_registerTags r.toNatClampNeg (t)))), X) 57 [some (.ref (Δ.ba + MO)), some (.int (r)), some (.int (v)), some (.int (t))] [] by
      refine g_icmpne (pc := 27) (tgt := 43) (dd d_Mod_register 15 rfl) (by decide) (fun q3 => ?_) (fun q3 => ?_)
      · have t3 := q3
        try simp only [e1x, e0x, i10, thrP, thrN, Classical.not_not, not_and, not_or, not_true_eq_false, not_false_eq_true, true_and, and_true, and_self, or_false, or_true, false_or, true_or, eq_self] at t3
        refine g_aload_n (pc := 43) (dd d_Mod_register 23 rfl) rfl ?_
        refine g_getr (pc := 44) (dd d_Mod_register 24 rfl) f_Mod_74 ob_MO rfl (mr_registers hX) ?_
        refine g_iload_n (pc := 47) (dd d_Mod_register 25 rfl) rfl ?_
        refine g_iload_n (pc := 48) (dd d_Mod_register 26 rfl) rfl ?_
        refine g_iastN (pc := 49) (dd d_Mod_register 27 rfl) ar_A_registers (by first | assumption | (subst_vars; rw [vp_in_iff]; (try simp (decide := true) only [up_o, up_s, if_true, if_false] at t2 t3 ⊢); (try simp only [← Int32.toInt_inj, Int32.lt_iff_toInt_lt, Int32.le_iff_toInt_le, Int32.reduceToInt] at t2 t3 ⊢); first | omega | (simp only [Int32.toInt_add, Int32.toInt_sub, Int32.toInt_mul, Int32.reduceToInt, Int.bmod_def] at t2 t3 ⊢; (repeat' split) <;> omega))) (fun I2 hI2 => ?_)
        refine g_aload_n (pc := 50) (dd d_Mod_register 28 rfl) rfl ?_
        refine g_getr (pc := 51) (dd d_Mod_register 29 rfl) f_Mod_77 ob_MO rfl (mr_registerTags hX) ?_
        refine g_iload_n (pc := 54) (dd d_Mod_register 30 rfl) rfl ?_
        refine g_iload_n (pc := 55) (dd d_Mod_register 31 rfl) rfl ?_
        refine g_iastN (pc := 56) (dd d_Mod_register 32 rfl) ar_A_registerTags (by first | assumption | (subst_vars; rw [vp_in_iff]; (try simp (decide := true) only [up_o, up_s, if_true, if_false] at t2 t3 ⊢); (try simp only [← Int32.toInt_inj, Int32.lt_iff_toInt_lt, Int32.le_iff_toInt_le, Int32.reduceToInt] at t2 t3 ⊢); first | omega | (simp only [Int32.toInt_add, Int32.toInt_sub, Int32.toInt_mul, Int32.reduceToInt, Int.bmod_def] at t2 t3 ⊢; (repeat' split) <;> omega))) (fun I3 hI3 => ?_)
        subst hI3 hI2
        simp only [if_neg q3] at K27 ⊢
        exact K27
      · have t3 := q3
        try simp only [e1x, e0x, i10, thrP, thrN, Classical.not_not, not_and, not_or, not_true_eq_false, not_false_eq_true, true_and, and_true, and_self, or_false, or_true, false_or, true_or, eq_self] at t3
        refine g_aload_n (pc := 30) (dd d_Mod_register 16 rfl) rfl ?_
        refine g_iload_n (pc := 31) (dd d_Mod_register 17 rfl) rfl ?_
        refine g_putiN (pc := 32) (dd d_Mod_register 18 rfl) f_Mod_391 fm_Mod_42 ob_MO rfl (fun I4 hI4 => ?_)
        refine g_aload_n (pc := 35) (dd d_Mod_register 19 rfl) rfl ?_
        refine g_iload_n (pc := 36) (dd d_Mod_register 20 rfl) rfl ?_
        refine g_putiN (pc := 37) (dd d_Mod_register 21 rfl) f_Mod_394 fm_Mod_43 ob_MO rfl (fun I5 hI5 => ?_)
        refine g_goto (pc := 40) (tgt := 57) (dd d_Mod_register 22 rfl) (by decide) ?_
        subst hI5 hI4
        simp only [if_pos q3] at K27 ⊢
        exact K27
    obtain ⟨I6, hI6⟩ : ∃ z, z = (if r = (8 : Int32) then ((up (up I1 MO 42 (v)) MO 43 (t))) else ((up (up I1 A_registers r.toNatClampNeg (v)) A_registerTags r.toNatClampNeg (t)))) := ⟨_, rfl⟩
    rw [← hI6]
    subst hI6 hI1
    try simp only [if_pos q2] at hT ⊢
    exact g_vret (pc := 57) rfl (dd d_Mod_register 33 rfl) hT
  · have t2 := q2
    try simp only [e1x, e0x, i10, thrP, thrN, Classical.not_not, not_and, not_or, not_true_eq_false, not_false_eq_true, true_and, and_true, and_self, or_false, or_true, false_or, true_or, eq_self] at t2
    subst hI1
    try simp only [if_neg q2] at hT ⊢
    exact g_vret (pc := 23) rfl (dd d_Mod_register 12 rfl) hT
set_option maxRecDepth 20000 in
set_option maxHeartbeats 4000000 in
theorem ev_Mod_tokenIsEnd {Δ : Dx} {X : Lx} (hX : MX Δ X) (I : Nat → Nat → Int32) : Ev Δ 0 m_Mod_tokenIsEnd [.ref (Δ.ba + MO)] (I, X) (some (.int (if (I MO 10 : Int32) = (199 : Int32) then 1 else 0))) (I, X) := by
  refine ev_of (by decide) (Nat.le_of_ble_eq_true rfl) (fun Γ hk hR hT => ?_)
  refine g_aload_n (pc := 0) (dd d_Mod_tokenIsEnd 0 rfl) rfl ?_
  refine g_geti (pc := 1) (dd d_Mod_tokenIsEnd 1 rfl) f_Mod_270 ob_MO rfl ?_
  refine g_sipush (pc := 4) (v := 199) (dd d_Mod_tokenIsEnd 2 rfl) (by decide) ?_
  suffices K7 : GG Δ m_Mod_tokenIsEnd Γ NN 0 0 (I, X) 15 [some (.ref (Δ.ba + MO))] [.int (if (I MO 10 : Int32) = (199 : Int32) then 1 else 0)] by
    refine g_icmpne (pc := 7) (tgt := 14) (dd d_Mod_tokenIsEnd 3 rfl) (by decide) (fun q1 => ?_) (fun q1 => ?_)
    · have t1 := q1
      try simp only [e1x, e0x, i10, thrP, thrN, Classical.not_not, not_and, not_or, not_true_eq_false, not_false_eq_true, true_and, and_true, and_self, or_false, or_true, false_or, true_or, eq_self] at t1
      refine g_iconst (pc := 14) (v := 0) (dd d_Mod_tokenIsEnd 6 rfl) (by decide) ?_
      simp only [if_neg q1] at K7 ⊢
      exact K7
    · have t1 := q1
      try simp only [e1x, e0x, i10, thrP, thrN, Classical.not_not, not_and, not_or, not_true_eq_false, not_false_eq_true, true_and, and_true, and_self, or_false, or_true, false_or, true_or, eq_self] at t1
      refine g_iconst (pc := 10) (v := 1) (dd d_Mod_tokenIsEnd 4 rfl) (by decide) ?_
      refine g_goto (pc := 11) (tgt := 15) (dd d_Mod_tokenIsEnd 5 rfl) (by decide) ?_
      simp only [if_pos q1] at K7 ⊢
      exact K7
  exact g_zret (pc := 15) rfl (by first | exact Or.inl rfl | exact Or.inr rfl | ((repeat' split) <;> first | exact Or.inl rfl | exact Or.inr rfl)) (dd d_Mod_tokenIsEnd 7 rfl) hT
set_option maxRecDepth 20000 in
set_option maxHeartbeats 4000000 in
theorem ev_Mod_blame {Δ : Dx} {X : Lx} (hX : MX Δ X) (I : Nat → Nat → Int32) : Ev Δ 0 m_Mod_blame [.ref (Δ.ba + MO)] (I, X) (some (.int (if ((up I MO 0 (0)) MO 50 : Int32) = (3 : Int32) then ((up I MO 0 (0)) MO 66) else (-1)))) ((up I MO 0 (0)), X) := by
  refine ev_of (by decide) (Nat.le_of_ble_eq_true rfl) (fun Γ hk hR hT => ?_)
  refine g_aload_n (pc := 0) (dd d_Mod_blame 0 rfl) rfl ?_
  refine g_iconst (pc := 1) (v := 0) (dd d_Mod_blame 1 rfl) (by decide) ?_
  refine g_putiN (pc := 2) (dd d_Mod_blame 2 rfl) f_Mod_240 fm_Mod_0 ob_MO rfl (fun I1 hI1 => ?_)
  refine g_aload_n (pc := 5) (dd d_Mod_blame 3 rfl) rfl ?_
  refine g_geti (pc := 6) (dd d_Mod_blame 4 rfl) f_Mod_406 ob_MO rfl ?_
  refine g_iconst (pc := 9) (v := 3) (dd d_Mod_blame 5 rfl) (by decide) ?_
  suffices K10 : GG Δ m_Mod_blame Γ NN 0 0 (I1, X) 21 [some (.ref (Δ.ba + MO))] [.int (if (I1 MO 50 : Int32) = (3 : Int32) then (I1 MO 66) else (-1))] by
    refine g_icmpne (pc := 10) (tgt := 20) (dd d_Mod_blame 6 rfl) (by decide) (fun q1 => ?_) (fun q1 => ?_)
    · have t1 := q1
      try simp only [e1x, e0x, i10, thrP, thrN, Classical.not_not, not_and, not_or, not_true_eq_false, not_false_eq_true, true_and, and_true, and_self, or_false, or_true, false_or, true_or, eq_self] at t1
      refine g_iconst (pc := 20) (v := (-1)) (dd d_Mod_blame 10 rfl) (by decide) ?_
      simp only [if_neg q1] at K10 ⊢
      exact K10
    · have t1 := q1
      try simp only [e1x, e0x, i10, thrP, thrN, Classical.not_not, not_and, not_or, not_true_eq_false, not_false_eq_true, true_and, and_true, and_self, or_false, or_true, false_or, true_or, eq_self] at t1
      refine g_aload_n (pc := 13) (dd d_Mod_blame 7 rfl) rfl ?_
      refine g_geti (pc := 14) (dd d_Mod_blame 8 rfl) f_Mod_110 ob_MO rfl ?_
      refine g_goto (pc := 17) (tgt := 21) (dd d_Mod_blame 9 rfl) (by decide) ?_
      simp only [if_pos q1] at K10 ⊢
      exact K10
  subst hI1
  exact g_iret (pc := 21) rfl (dd d_Mod_blame 11 rfl) hT
set_option maxRecDepth 20000 in
set_option maxHeartbeats 4000000 in
theorem ev_Mod_input {Δ : Dx} {X : Lx} (hX : MX Δ X) (I : Nat → Nat → Int32) (v t : Int32) (h450 : 0 ≤ (I MO 45).toInt) (h451 : (I MO 45).toInt ≤ 16) : Ev Δ 1 m_Mod_input [.ref (Δ.ba + MO), .int v, .int t] (I, X) ((if (if 0 < thr (if (I MO 45 : Int32) = (16 : Int32) then 1 else 0 : Int32) 0 then 1 else 0 : Int32) = 0 then some (.int ((up (up (up (up I MO 0 (thr (if (I MO 45 : Int32) = (16 : Int32) then 1 else 0 : Int32) 0)) A_inputValues ((up I MO 0 (thr (if (I MO 45 : Int32) = (16 : Int32) then 1 else 0 : Int32) 0)) MO 45 : Int32).toNatClampNeg (v)) A_inputTags ((up (up I MO 0 (thr (if (I MO 45 : Int32) = (16 : Int32) then 1 else 0 : Int32) 0)) A_inputValues ((up I MO 0 (thr (if (I MO 45 : Int32) = (16 : Int32) then 1 else 0 : Int32) 0)) MO 45 : Int32).toNatClampNeg (v)) MO 45 : Int32).toNatClampNeg (t)) MO 45 (((up (up (up I MO 0 (thr (if (I MO 45 : Int32) = (16 : Int32) then 1 else 0 : Int32) 0)) A_inputValues ((up I MO 0 (thr (if (I MO 45 : Int32) = (16 : Int32) then 1 else 0 : Int32) 0)) MO 45 : Int32).toNatClampNeg (v)) A_inputTags ((up (up I MO 0 (thr (if (I MO 45 : Int32) = (16 : Int32) then 1 else 0 : Int32) 0)) A_inputValues ((up I MO 0 (thr (if (I MO 45 : Int32) = (16 : Int32) then 1 else 0 : Int32) 0)) MO 45 : Int32).toNatClampNeg (v)) MO 45 : Int32).toNatClampNeg (t)) MO 45) + (1))) MO 45)) else some (.int (0)))) (if (if 0 < thr (if (I MO 45 : Int32) = (16 : Int32) then 1 else 0 : Int32) 0 then 1 else 0 : Int32) = 0 then ((up (up (up (up I MO 0 (thr (if (I MO 45 : Int32) = (16 : Int32) then 1 else 0 : Int32) 0)) A_inputValues ((up I MO 0 (thr (if (I MO 45 : Int32) = (16 : Int32) then 1 else 0 : Int32) 0)) MO 45 : Int32).toNatClampNeg (v)) A_inputTags ((up (up I MO 0 (thr (if (I MO 45 : Int32) = (16 : Int32) then 1 else 0 : Int32) 0)) A_inputValues ((up I MO 0 (thr (if (I MO 45 : Int32) = (16 : Int32) then 1 else 0 : Int32) 0)) MO 45 : Int32).toNatClampNeg (v)) MO 45 : Int32).toNatClampNeg (t)) MO 45 (((up (up (up I MO 0 (thr (if (I MO 45 : Int32) = (16 : Int32) then 1 else 0 : Int32) 0)) A_inputValues ((up I MO 0 (thr (if (I MO 45 : Int32) = (16 : Int32) then 1 else 0 : Int32) 0)) MO 45 : Int32).toNatClampNeg (v)) A_inputTags ((up (up I MO 0 (thr (if (I MO 45 : Int32) = (16 : Int32) then 1 else 0 : Int32) 0)) A_inputValues ((up I MO 0 (thr (if (I MO 45 : Int32) = (16 : Int32) then 1 else 0 : Int32) 0)) MO 45 : Int32).toNatClampNeg (v)) MO 45 : Int32).toNatClampNeg (t)) MO 45) + (1))), X) else ((up I MO 0 (thr (if (I MO 45 : Int32) = (16 : Int32) then 1 else 0 : Int32) 0)), X)) := by
  refine ev_of (by decide) (Nat.le_of_ble_eq_true rfl) (fun Γ hk hR hT => ?_)
  refine g_aload_n (pc := 0) (dd d_Mod_input 0 rfl) rfl ?_
  refine g_aload_n (pc := 1) (dd d_Mod_input 1 rfl) rfl ?_
  refine g_geti (pc := 2) (dd d_Mod_input 2 rfl) f_Mod_400 ob_MO rfl ?_
  refine g_bipush (pc := 5) (v := 16) (dd d_Mod_input 3 rfl) (by decide) ?_
  suffices K7 : GG Δ m_Mod_input Γ NN 0 0 (I, X) 15 [some (.ref (Δ.ba + MO)), some (.int (v)), some (.int (t))] [.int (if (I MO 45 : Int32) = (16 : Int32) then 1 else 0), .ref (Δ.ba + MO)] by
    refine g_icmpne (pc := 7) (tgt := 14) (dd d_Mod_input 4 rfl) (by decide) (fun q1 => ?_) (fun q1 => ?_)
    · have t1 := q1
      try simp only [e1x, e0x, i10, thrP, thrN, Classical.not_not, not_and, not_or, not_true_eq_false, not_false_eq_true, true_and, and_true, and_self, or_false, or_true, false_or, true_or, eq_self] at t1
      refine g_iconst (pc := 14) (v := 0) (dd d_Mod_input 7 rfl) (by decide) ?_
      simp only [if_neg q1] at K7 ⊢
      exact K7
    · have t1 := q1
      try simp only [e1x, e0x, i10, thrP, thrN, Classical.not_not, not_and, not_or, not_true_eq_false, not_false_eq_true, true_and, and_true, and_self, or_false, or_true, false_or, true_or, eq_self] at t1
      refine g_iconst (pc := 10) (v := 1) (dd d_Mod_input 5 rfl) (by decide) ?_
      refine g_goto (pc := 11) (tgt := 15) (dd d_Mod_input 6 rfl) (by decide) ?_
      simp only [if_pos q1] at K7 ⊢
      exact K7
  refine g_iconst (pc := 15) (v := 0) (dd d_Mod_input 8 rfl) (by decide) ?_
  refine g_callV (pc := 16) (dd d_Mod_input 9 rfl) v_Mod_250 ob_MO rfl (ev_Mod_refuse hX _ _ _) rfl (by rw [hk]; decide) (Nat.le_of_ble_eq_true rfl) ⟨Nat.zero_le _, Nat.zero_le _⟩ rfl ?_
  obtain ⟨I1, hI1⟩ : ∃ z, z = up I MO 0 (thr (if (I MO 45 : Int32) = (16 : Int32) then 1 else 0 : Int32) 0) := ⟨_, rfl⟩
  rw [← hI1]
  refine g_ifeq (pc := 19) (tgt := 24) (dd d_Mod_input 10 rfl) (by decide) (fun q2 => ?_) (fun q2 => ?_)
  · have t2 := q2
    try simp only [e1x, e0x, i10, thrP, thrN, Classical.not_not, not_and, not_or, not_true_eq_false, not_false_eq_true, true_and, and_true, and_self, or_false, or_true, false_or, true_or, eq_self] at t2
    refine g_aload_n (pc := 24) (dd d_Mod_input 13 rfl) rfl ?_
    refine g_getr (pc := 25) (dd d_Mod_input 14 rfl) f_Mod_80 ob_MO rfl (mr_inputValues hX) ?_
    refine g_aload_n (pc := 28) (dd d_Mod_input 15 rfl) rfl ?_
    refine g_geti (pc := 29) (dd d_Mod_input 16 rfl) f_Mod_400 ob_MO rfl ?_
    refine g_iload_n (pc := 32) (dd d_Mod_input 17 rfl) rfl ?_
    refine g_iastN (pc := 33) (dd d_Mod_input 18 rfl) ar_A_inputValues (by first | assumption | (subst_vars; rw [vp_in_iff]; (try simp (decide := true) only [up_o, up_s, if_true, if_false] at t2 ⊢); (try simp only [← Int32.toInt_inj, Int32.lt_iff_toInt_lt, Int32.le_iff_toInt_le, Int32.reduceToInt] at t2 ⊢); first | omega | (simp only [Int32.toInt_add, Int32.toInt_sub, Int32.toInt_mul, Int32.reduceToInt, Int.bmod_def] at t2 ⊢; (repeat' split) <;> omega))) (fun I2 hI2 => ?_)
    refine g_aload_n (pc := 34) (dd d_Mod_input 19 rfl) rfl ?_
    refine g_getr (pc := 35) (dd d_Mod_input 20 rfl) f_Mod_83 ob_MO rfl (mr_inputTags hX) ?_
    refine g_aload_n (pc := 38) (dd d_Mod_input 21 rfl) rfl ?_
    refine g_geti (pc := 39) (dd d_Mod_input 22 rfl) f_Mod_400 ob_MO rfl ?_
    refine g_iload_n (pc := 42) (dd d_Mod_input 23 rfl) rfl ?_
    refine g_iastN (pc := 43) (dd d_Mod_input 24 rfl) ar_A_inputTags (by first | assumption | (subst_vars; rw [vp_in_iff]; (try simp (decide := true) only [up_o, up_s, if_true, if_false] at t2 ⊢); (try simp only [← Int32.toInt_inj, Int32.lt_iff_toInt_lt, Int32.le_iff_toInt_le, Int32.reduceToInt] at t2 ⊢); first | omega | (simp only [Int32.toInt_add, Int32.toInt_sub, Int32.toInt_mul, Int32.reduceToInt, Int.bmod_def] at t2 ⊢; (repeat' split) <;> omega))) (fun I3 hI3 => ?_)
    refine g_aload_n (pc := 44) (dd d_Mod_input 25 rfl) rfl ?_
    refine g_dup (pc := 45) (dd d_Mod_input 26 rfl) rfl ?_
    refine g_geti (pc := 46) (dd d_Mod_input 27 rfl) f_Mod_400 ob_MO rfl ?_
    refine g_iconst (pc := 49) (v := 1) (dd d_Mod_input 28 rfl) (by decide) ?_
    refine g_iadd (pc := 50) (dd d_Mod_input 29 rfl) ?_
    refine g_putiN (pc := 51) (dd d_Mod_input 30 rfl) f_Mod_400 fm_Mod_45 ob_MO rfl (fun I4 hI4 => ?_)
    refine g_aload_n (pc := 54) (dd d_Mod_input 31 rfl) rfl ?_
    refine g_geti (pc := 55) (dd d_Mod_input 32 rfl) f_Mod_400 ob_MO rfl ?_
    subst hI4 hI3 hI2 hI1
    try simp only [if_pos q2] at hT ⊢
    exact g_iret (pc := 58) rfl (dd d_Mod_input 33 rfl) hT
  · have t2 := q2
    try simp only [e1x, e0x, i10, thrP, thrN, Classical.not_not, not_and, not_or, not_true_eq_false, not_false_eq_true, true_and, and_true, and_self, or_false, or_true, false_or, true_or, eq_self] at t2
    refine g_iconst (pc := 22) (v := 0) (dd d_Mod_input 11 rfl) (by decide) ?_
    subst hI1
    try simp only [if_neg q2] at hT ⊢
    exact g_iret (pc := 23) rfl (dd d_Mod_input 12 rfl) hT
set_option maxRecDepth 20000 in
set_option maxHeartbeats 4000000 in
theorem ev_Mod_witness {Δ : Dx} {X : Lx} (hX : MX Δ X) (I : Nat → Nat → Int32) (k : Int32) : Ev Δ 1 m_Mod_witness [.ref (Δ.ba + MO), .int k] (I, X) ((if (if 0 < thr (if (if 0 ≤ k ∧ k ≤ 14 then 1 else 0 : Int32) = 0 then 1 else 0 : Int32) (if (if 0 ≤ k ∧ k ≤ 14 then 1 else 0 : Int32) = 0 then 0 else (if (I MO 71 : Int32) = 0 then 1 else 0) : Int32) then 1 else 0 : Int32) = 0 then some (.int ((up I MO 0 (thr (if (if 0 ≤ k ∧ k ≤ 14 then 1 else 0 : Int32) = 0 then 1 else 0 : Int32) (if (if 0 ≤ k ∧ k ≤ 14 then 1 else 0 : Int32) = 0 then 0 else (if (I MO 71 : Int32) = 0 then 1 else 0) : Int32))) A_witness k.toNatClampNeg)) else some (.int (0)))) ((up I MO 0 (thr (if (if 0 ≤ k ∧ k ≤ 14 then 1 else 0 : Int32) = 0 then 1 else 0 : Int32) (if (if 0 ≤ k ∧ k ≤ 14 then 1 else 0 : Int32) = 0 then 0 else (if (I MO 71 : Int32) = 0 then 1 else 0) : Int32))), X) := by
  refine ev_of (by decide) (Nat.le_of_ble_eq_true rfl) (fun Γ hk hR hT => ?_)
  refine g_iload_n (pc := 0) (dd d_Mod_witness 0 rfl) rfl ?_
  refine g_iconst (pc := 1) (v := 0) (dd d_Mod_witness 1 rfl) (by decide) ?_
  refine g_bipush (pc := 2) (v := 14) (dd d_Mod_witness 2 rfl) (by decide) ?_
  refine g_callS (pc := 4) (dd d_Mod_witness 3 rfl) s_Mod_243 (ev_Mod_in _ _ _ _) rfl (by rw [hk]; decide) (Nat.le_of_ble_eq_true rfl) ⟨Nat.zero_le _, Nat.zero_le _⟩ rfl ?_
  refine g_istore_n (pc := 7) (dd d_Mod_witness 4 rfl) (by decide) ?_
  refine g_aload_n (pc := 8) (dd d_Mod_witness 5 rfl) rfl ?_
  refine g_iload_n (pc := 9) (dd d_Mod_witness 6 rfl) rfl ?_
  suffices K10 : GG Δ m_Mod_witness Γ NN 0 0 (I, X) 18 [some (.ref (Δ.ba + MO)), some (.int (k)), some (.int (if 0 ≤ k ∧ k ≤ 14 then 1 else 0))] [.int (if (if 0 ≤ k ∧ k ≤ 14 then 1 else 0 : Int32) = 0 then 1 else 0), .ref (Δ.ba + MO)] by
    refine g_ifne (pc := 10) (tgt := 17) (dd d_Mod_witness 7 rfl) (by decide) (fun q1 => ?_) (fun q1 => ?_)
    · have t1 := q1
      try simp only [e1x, e0x, i10, thrP, thrN, Classical.not_not, not_and, not_or, not_true_eq_false, not_false_eq_true, true_and, and_true, and_self, or_false, or_true, false_or, true_or, eq_self] at t1
      refine g_iconst (pc := 17) (v := 0) (dd d_Mod_witness 10 rfl) (by decide) ?_
      simp only [if_neg q1] at K10 ⊢
      exact K10
    · have t1 := q1
      try simp only [e1x, e0x, i10, thrP, thrN, Classical.not_not, not_and, not_or, not_true_eq_false, not_false_eq_true, true_and, and_true, and_self, or_false, or_true, false_or, true_or, eq_self] at t1
      refine g_iconst (pc := 13) (v := 1) (dd d_Mod_witness 8 rfl) (by decide) ?_
      refine g_goto (pc := 14) (tgt := 18) (dd d_Mod_witness 9 rfl) (by decide) ?_
      simp only [if_pos q1] at K10 ⊢
      exact K10
  refine g_iload_n (pc := 18) (dd d_Mod_witness 11 rfl) rfl ?_
  suffices K19 : GG Δ m_Mod_witness Γ NN 0 0 (I, X) 34 [some (.ref (Δ.ba + MO)), some (.int (k)), some (.int (if 0 ≤ k ∧ k ≤ 14 then 1 else 0))] [.int (if (if 0 ≤ k ∧ k ≤ 14 then 1 else 0 : Int32) = 0 then 0 else (if (I MO 71 : Int32) = 0 then 1 else 0)), .int (if (if 0 ≤ k ∧ k ≤ 14 then 1 else 0 : Int32) = 0 then 1 else 0), .ref (Δ.ba + MO)] by
    refine g_ifeq (pc := 19) (tgt := 33) (dd d_Mod_witness 12 rfl) (by decide) (fun q2 => ?_) (fun q2 => ?_)
    · have t2 := q2
      try simp only [e1x, e0x, i10, thrP, thrN, Classical.not_not, not_and, not_or, not_true_eq_false, not_false_eq_true, true_and, and_true, and_self, or_false, or_true, false_or, true_or, eq_self] at t2
      refine g_iconst (pc := 33) (v := 0) (dd d_Mod_witness 18 rfl) (by decide) ?_
      simp only [if_pos q2] at K19 ⊢
      exact K19
    · have t2 := q2
      try simp only [e1x, e0x, i10, thrP, thrN, Classical.not_not, not_and, not_or, not_true_eq_false, not_false_eq_true, true_and, and_true, and_self, or_false, or_true, false_or, true_or, eq_self] at t2
      refine g_aload_n (pc := 22) (dd d_Mod_witness 13 rfl) rfl ?_
      refine g_geti (pc := 23) (dd d_Mod_witness 14 rfl) f_Mod_602 ob_MO rfl ?_
      suffices K26 : GG Δ m_Mod_witness Γ NN 0 0 (I, X) 34 [some (.ref (Δ.ba + MO)), some (.int (k)), some (.int (if 0 ≤ k ∧ k ≤ 14 then 1 else 0))] [.int (if (I MO 71 : Int32) = 0 then 1 else 0), .int (if (if 0 ≤ k ∧ k ≤ 14 then 1 else 0 : Int32) = 0 then 1 else 0), .ref (Δ.ba + MO)] by
        refine g_ifne (pc := 26) (tgt := 33) (dd d_Mod_witness 15 rfl) (by decide) (fun q3 => ?_) (fun q3 => ?_)
        · have t3 := q3
          try simp only [e1x, e0x, i10, thrP, thrN, Classical.not_not, not_and, not_or, not_true_eq_false, not_false_eq_true, true_and, and_true, and_self, or_false, or_true, false_or, true_or, eq_self] at t3
          refine g_iconst (pc := 33) (v := 0) (dd d_Mod_witness 18 rfl) (by decide) ?_
          simp only [if_neg q3] at K26 ⊢
          exact K26
        · have t3 := q3
          try simp only [e1x, e0x, i10, thrP, thrN, Classical.not_not, not_and, not_or, not_true_eq_false, not_false_eq_true, true_and, and_true, and_self, or_false, or_true, false_or, true_or, eq_self] at t3
          refine g_iconst (pc := 29) (v := 1) (dd d_Mod_witness 16 rfl) (by decide) ?_
          refine g_goto (pc := 30) (tgt := 34) (dd d_Mod_witness 17 rfl) (by decide) ?_
          simp only [if_pos q3] at K26 ⊢
          exact K26
      simp only [if_neg q2] at K19 ⊢
      exact K19
  refine g_callV (pc := 34) (dd d_Mod_witness 19 rfl) v_Mod_250 ob_MO rfl (ev_Mod_refuse hX _ _ _) rfl (by rw [hk]; decide) (Nat.le_of_ble_eq_true rfl) ⟨Nat.zero_le _, Nat.zero_le _⟩ rfl ?_
  obtain ⟨I1, hI1⟩ : ∃ z, z = up I MO 0 (thr (if (if 0 ≤ k ∧ k ≤ 14 then 1 else 0 : Int32) = 0 then 1 else 0 : Int32) (if (if 0 ≤ k ∧ k ≤ 14 then 1 else 0 : Int32) = 0 then 0 else (if (I MO 71 : Int32) = 0 then 1 else 0) : Int32)) := ⟨_, rfl⟩
  rw [← hI1]
  refine g_ifeq (pc := 37) (tgt := 42) (dd d_Mod_witness 20 rfl) (by decide) (fun q4 => ?_) (fun q4 => ?_)
  · have t4 := q4
    try simp only [e1x, e0x, i10, thrP, thrN, Classical.not_not, not_and, not_or, not_true_eq_false, not_false_eq_true, true_and, and_true, and_self, or_false, or_true, false_or, true_or, eq_self] at t4
    refine g_aload_n (pc := 42) (dd d_Mod_witness 23 rfl) rfl ?_
    refine g_getr (pc := 43) (dd d_Mod_witness 24 rfl) f_Mod_120 ob_MO rfl (mr_witness hX) ?_
    refine g_iload_n (pc := 46) (dd d_Mod_witness 25 rfl) rfl ?_
    refine g_iald (pc := 47) (dd d_Mod_witness 26 rfl) ar_A_witness (by first | assumption | (subst_vars; rw [vp_in_iff]; (try simp (decide := true) only [up_o, up_s, if_true, if_false] at t4 ⊢); (try simp only [← Int32.toInt_inj, Int32.lt_iff_toInt_lt, Int32.le_iff_toInt_le, Int32.reduceToInt] at t4 ⊢); first | omega | (simp only [Int32.toInt_add, Int32.toInt_sub, Int32.toInt_mul, Int32.reduceToInt, Int.bmod_def] at t4 ⊢; (repeat' split) <;> omega))) ?_
    subst hI1
    try simp only [if_pos q4] at hT ⊢
    exact g_iret (pc := 48) rfl (dd d_Mod_witness 27 rfl) hT
  · have t4 := q4
    try simp only [e1x, e0x, i10, thrP, thrN, Classical.not_not, not_and, not_or, not_true_eq_false, not_false_eq_true, true_and, and_true, and_self, or_false, or_true, false_or, true_or, eq_self] at t4
    refine g_iconst (pc := 40) (v := 0) (dd d_Mod_witness 21 rfl) (by decide) ?_
    subst hI1
    try simp only [if_neg q4] at hT ⊢
    exact g_iret (pc := 41) rfl (dd d_Mod_witness 22 rfl) hT
set_option maxRecDepth 20000 in
set_option maxHeartbeats 4000000 in
theorem ev_Mod_count {Δ : Dx} {X : Lx} (hX : MX Δ X) (I : Nat → Nat → Int32) (k w : Int32) : Ev Δ 1 m_Mod_count [.ref (Δ.ba + MO), .int k, .int w] (I, X) ((if (if 0 < thr (if (if 0 ≤ k ∧ k ≤ 21 then 1 else 0 : Int32) = 0 then 1 else (if (if 0 ≤ w ∧ w ≤ 3 then 1 else 0 : Int32) = 0 then 1 else 0) : Int32) 0 then 1 else 0 : Int32) = 0 then some (.int ((up I MO 0 (thr (if (if 0 ≤ k ∧ k ≤ 21 then 1 else 0 : Int32) = 0 then 1 else (if (if 0 ≤ w ∧ w ≤ 3 then 1 else 0 : Int32) = 0 then 1 else 0) : Int32) 0)) A_counts (((4) * (k)) + (w) : Int32).toNatClampNeg)) else some (.int (0)))) ((up I MO 0 (thr (if (if 0 ≤ k ∧ k ≤ 21 then 1 else 0 : Int32) = 0 then 1 else (if (if 0 ≤ w ∧ w ≤ 3 then 1 else 0 : Int32) = 0 then 1 else 0) : Int32) 0)), X) := by
  refine ev_of (by decide) (Nat.le_of_ble_eq_true rfl) (fun Γ hk hR hT => ?_)
  refine g_aload_n (pc := 0) (dd d_Mod_count 0 rfl) rfl ?_
  refine g_iload_n (pc := 1) (dd d_Mod_count 1 rfl) rfl ?_
  refine g_iconst (pc := 2) (v := 0) (dd d_Mod_count 2 rfl) (by decide) ?_
  refine g_bipush (pc := 3) (v := 21) (dd d_Mod_count 3 rfl) (by decide) ?_
  refine g_callS (pc := 5) (dd d_Mod_count 4 rfl) s_Mod_243 (ev_Mod_in _ _ _ _) rfl (by rw [hk]; decide) (Nat.le_of_ble_eq_true rfl) ⟨Nat.zero_le _, Nat.zero_le _⟩ rfl ?_
  suffices K8 : GG Δ m_Mod_count Γ NN 0 0 (I, X) 25 [some (.ref (Δ.ba + MO)), some (.int (k)), some (.int (w))] [.int (if (if 0 ≤ k ∧ k ≤ 21 then 1 else 0 : Int32) = 0 then 1 else (if (if 0 ≤ w ∧ w ≤ 3 then 1 else 0 : Int32) = 0 then 1 else 0)), .ref (Δ.ba + MO)] by
    refine g_ifeq (pc := 8) (tgt := 20) (dd d_Mod_count 5 rfl) (by decide) (fun q1 => ?_) (fun q1 => ?_)
    · have t1 := q1
      try simp only [e1x, e0x, i10, thrP, thrN, Classical.not_not, not_and, not_or, not_true_eq_false, not_false_eq_true, true_and, and_true, and_self, or_false, or_true, false_or, true_or, eq_self] at t1
      refine g_iconst (pc := 20) (v := 1) (dd d_Mod_count 11 rfl) (by decide) ?_
      refine g_goto (pc := 21) (tgt := 25) (dd d_Mod_count 12 rfl) (by decide) ?_
      simp only [if_pos q1] at K8 ⊢
      exact K8
    · have t1 := q1
      try simp only [e1x, e0x, i10, thrP, thrN, Classical.not_not, not_and, not_or, not_true_eq_false, not_false_eq_true, true_and, and_true, and_self, or_false, or_true, false_or, true_or, eq_self] at t1
      refine g_iload_n (pc := 11) (dd d_Mod_count 6 rfl) rfl ?_
      refine g_iconst (pc := 12) (v := 0) (dd d_Mod_count 7 rfl) (by decide) ?_
      refine g_iconst (pc := 13) (v := 3) (dd d_Mod_count 8 rfl) (by decide) ?_
      refine g_callS (pc := 14) (dd d_Mod_count 9 rfl) s_Mod_243 (ev_Mod_in _ _ _ _) rfl (by rw [hk]; decide) (Nat.le_of_ble_eq_true rfl) ⟨Nat.zero_le _, Nat.zero_le _⟩ rfl ?_
      suffices K17 : GG Δ m_Mod_count Γ NN 0 0 (I, X) 25 [some (.ref (Δ.ba + MO)), some (.int (k)), some (.int (w))] [.int (if (if 0 ≤ w ∧ w ≤ 3 then 1 else 0 : Int32) = 0 then 1 else 0), .ref (Δ.ba + MO)] by
        refine g_ifne (pc := 17) (tgt := 24) (dd d_Mod_count 10 rfl) (by decide) (fun q2 => ?_) (fun q2 => ?_)
        · have t2 := q2
          try simp only [e1x, e0x, i10, thrP, thrN, Classical.not_not, not_and, not_or, not_true_eq_false, not_false_eq_true, true_and, and_true, and_self, or_false, or_true, false_or, true_or, eq_self] at t2
          refine g_iconst (pc := 24) (v := 0) (dd d_Mod_count 13 rfl) (by decide) ?_
          simp only [if_neg q2] at K17 ⊢
          exact K17
        · have t2 := q2
          try simp only [e1x, e0x, i10, thrP, thrN, Classical.not_not, not_and, not_or, not_true_eq_false, not_false_eq_true, true_and, and_true, and_self, or_false, or_true, false_or, true_or, eq_self] at t2
          refine g_iconst (pc := 20) (v := 1) (dd d_Mod_count 11 rfl) (by decide) ?_
          refine g_goto (pc := 21) (tgt := 25) (dd d_Mod_count 12 rfl) (by decide) ?_
          simp only [if_pos q2] at K17 ⊢
          exact K17
      simp only [if_neg q1] at K8 ⊢
      exact K8
  refine g_iconst (pc := 25) (v := 0) (dd d_Mod_count 14 rfl) (by decide) ?_
  refine g_callV (pc := 26) (dd d_Mod_count 15 rfl) v_Mod_250 ob_MO rfl (ev_Mod_refuse hX _ _ _) rfl (by rw [hk]; decide) (Nat.le_of_ble_eq_true rfl) ⟨Nat.zero_le _, Nat.zero_le _⟩ rfl ?_
  obtain ⟨I1, hI1⟩ : ∃ z, z = up I MO 0 (thr (if (if 0 ≤ k ∧ k ≤ 21 then 1 else 0 : Int32) = 0 then 1 else (if (if 0 ≤ w ∧ w ≤ 3 then 1 else 0 : Int32) = 0 then 1 else 0) : Int32) 0) := ⟨_, rfl⟩
  rw [← hI1]
  refine g_ifeq (pc := 29) (tgt := 34) (dd d_Mod_count 16 rfl) (by decide) (fun q3 => ?_) (fun q3 => ?_)
  · have t3 := q3
    try simp only [e1x, e0x, i10, thrP, thrN, Classical.not_not, not_and, not_or, not_true_eq_false, not_false_eq_true, true_and, and_true, and_self, or_false, or_true, false_or, true_or, eq_self] at t3
    refine g_aload_n (pc := 34) (dd d_Mod_count 19 rfl) rfl ?_
    refine g_getr (pc := 35) (dd d_Mod_count 20 rfl) f_Mod_107 ob_MO rfl (mr_counts hX) ?_
    refine g_iconst (pc := 38) (v := 4) (dd d_Mod_count 21 rfl) (by decide) ?_
    refine g_iload_n (pc := 39) (dd d_Mod_count 22 rfl) rfl ?_
    refine g_imul (pc := 40) (dd d_Mod_count 23 rfl) ?_
    refine g_iload_n (pc := 41) (dd d_Mod_count 24 rfl) rfl ?_
    refine g_iadd (pc := 42) (dd d_Mod_count 25 rfl) ?_
    refine g_iald (pc := 43) (dd d_Mod_count 26 rfl) ar_A_counts (by first | assumption | (subst_vars; rw [vp_in_iff]; (try simp (decide := true) only [up_o, up_s, if_true, if_false] at t3 ⊢); (try simp only [← Int32.toInt_inj, Int32.lt_iff_toInt_lt, Int32.le_iff_toInt_le, Int32.reduceToInt] at t3 ⊢); first | omega | (simp only [Int32.toInt_add, Int32.toInt_sub, Int32.toInt_mul, Int32.reduceToInt, Int.bmod_def] at t3 ⊢; (repeat' split) <;> omega))) ?_
    subst hI1
    try simp only [if_pos q3] at hT ⊢
    exact g_iret (pc := 44) rfl (dd d_Mod_count 27 rfl) hT
  · have t3 := q3
    try simp only [e1x, e0x, i10, thrP, thrN, Classical.not_not, not_and, not_or, not_true_eq_false, not_false_eq_true, true_and, and_true, and_self, or_false, or_true, false_or, true_or, eq_self] at t3
    refine g_iconst (pc := 32) (v := 0) (dd d_Mod_count 17 rfl) (by decide) ?_
    subst hI1
    try simp only [if_neg q3] at hT ⊢
    exact g_iret (pc := 33) rfl (dd d_Mod_count 18 rfl) hT
set_option maxRecDepth 20000 in
set_option maxHeartbeats 4000000 in
theorem ev_Mod_pairOf {Δ : Dx} {X : Lx} (hX : MX Δ X) (I : Nat → Nat → Int32) (k what : Int32) (h550 : 0 ≤ (I MO 55).toInt) (h551 : (I MO 55).toInt ≤ 60) : Ev Δ 1 m_Mod_pairOf [.ref (Δ.ba + MO), .int k, .int what] (I, X) ((if (if 0 < thr (if (if 0 ≤ k ∧ k ≤ ((I MO 55) - (1)) then 1 else 0 : Int32) = 0 then 1 else 0 : Int32) (if (if 0 ≤ k ∧ k ≤ ((I MO 55) - (1)) then 1 else 0 : Int32) = 0 then 0 else (if (if 0 ≤ what ∧ what ≤ 1 then 1 else 0 : Int32) = 0 then 1 else 0) : Int32) then 1 else 0 : Int32) = 0 then some (.int (if what = 0 then ((up I MO 0 (thr (if (if 0 ≤ k ∧ k ≤ ((I MO 55) - (1)) then 1 else 0 : Int32) = 0 then 1 else 0 : Int32) (if (if 0 ≤ k ∧ k ≤ ((I MO 55) - (1)) then 1 else 0 : Int32) = 0 then 0 else (if (if 0 ≤ what ∧ what ≤ 1 then 1 else 0 : Int32) = 0 then 1 else 0) : Int32))) A_firsts k.toNatClampNeg) else ((up I MO 0 (thr (if (if 0 ≤ k ∧ k ≤ ((I MO 55) - (1)) then 1 else 0 : Int32) = 0 then 1 else 0 : Int32) (if (if 0 ≤ k ∧ k ≤ ((I MO 55) - (1)) then 1 else 0 : Int32) = 0 then 0 else (if (if 0 ≤ what ∧ what ≤ 1 then 1 else 0 : Int32) = 0 then 1 else 0) : Int32))) A_seconds k.toNatClampNeg))) else some (.int (0)))) ((up I MO 0 (thr (if (if 0 ≤ k ∧ k ≤ ((I MO 55) - (1)) then 1 else 0 : Int32) = 0 then 1 else 0 : Int32) (if (if 0 ≤ k ∧ k ≤ ((I MO 55) - (1)) then 1 else 0 : Int32) = 0 then 0 else (if (if 0 ≤ what ∧ what ≤ 1 then 1 else 0 : Int32) = 0 then 1 else 0) : Int32))), X) := by
  refine ev_of (by decide) (Nat.le_of_ble_eq_true rfl) (fun Γ hk hR hT => ?_)
  refine g_iload_n (pc := 0) (dd d_Mod_pairOf 0 rfl) rfl ?_
  refine g_iconst (pc := 1) (v := 0) (dd d_Mod_pairOf 1 rfl) (by decide) ?_
  refine g_aload_n (pc := 2) (dd d_Mod_pairOf 2 rfl) rfl ?_
  refine g_geti (pc := 3) (dd d_Mod_pairOf 3 rfl) f_Mod_415 ob_MO rfl ?_
  refine g_iconst (pc := 6) (v := 1) (dd d_Mod_pairOf 4 rfl) (by decide) ?_
  refine g_isub (pc := 7) (dd d_Mod_pairOf 5 rfl) ?_
  refine g_callS (pc := 8) (dd d_Mod_pairOf 6 rfl) s_Mod_243 (ev_Mod_in _ _ _ _) rfl (by rw [hk]; decide) (Nat.le_of_ble_eq_true rfl) ⟨Nat.zero_le _, Nat.zero_le _⟩ rfl ?_
  refine g_istore_n (pc := 11) (dd d_Mod_pairOf 7 rfl) (by decide) ?_
  refine g_aload_n (pc := 12) (dd d_Mod_pairOf 8 rfl) rfl ?_
  refine g_iload_n (pc := 13) (dd d_Mod_pairOf 9 rfl) rfl ?_
  suffices K14 : GG Δ m_Mod_pairOf Γ NN 0 0 (I, X) 22 [some (.ref (Δ.ba + MO)), some (.int (k)), some (.int (what)), some (.int (if 0 ≤ k ∧ k ≤ ((I MO 55) - (1)) then 1 else 0))] [.int (if (if 0 ≤ k ∧ k ≤ ((I MO 55) - (1)) then 1 else 0 : Int32) = 0 then 1 else 0), .ref (Δ.ba + MO)] by
    refine g_ifne (pc := 14) (tgt := 21) (dd d_Mod_pairOf 10 rfl) (by decide) (fun q1 => ?_) (fun q1 => ?_)
    · have t1 := q1
      try simp only [e1x, e0x, i10, thrP, thrN, Classical.not_not, not_and, not_or, not_true_eq_false, not_false_eq_true, true_and, and_true, and_self, or_false, or_true, false_or, true_or, eq_self] at t1
      refine g_iconst (pc := 21) (v := 0) (dd d_Mod_pairOf 13 rfl) (by decide) ?_
      simp only [if_neg q1] at K14 ⊢
      exact K14
    · have t1 := q1
      try simp only [e1x, e0x, i10, thrP, thrN, Classical.not_not, not_and, not_or, not_true_eq_false, not_false_eq_true, true_and, and_true, and_self, or_false, or_true, false_or, true_or, eq_self] at t1
      refine g_iconst (pc := 17) (v := 1) (dd d_Mod_pairOf 11 rfl) (by decide) ?_
      refine g_goto (pc := 18) (tgt := 22) (dd d_Mod_pairOf 12 rfl) (by decide) ?_
      simp only [if_pos q1] at K14 ⊢
      exact K14
  refine g_iload_n (pc := 22) (dd d_Mod_pairOf 14 rfl) rfl ?_
  suffices K23 : GG Δ m_Mod_pairOf Γ NN 0 0 (I, X) 40 [some (.ref (Δ.ba + MO)), some (.int (k)), some (.int (what)), some (.int (if 0 ≤ k ∧ k ≤ ((I MO 55) - (1)) then 1 else 0))] [.int (if (if 0 ≤ k ∧ k ≤ ((I MO 55) - (1)) then 1 else 0 : Int32) = 0 then 0 else (if (if 0 ≤ what ∧ what ≤ 1 then 1 else 0 : Int32) = 0 then 1 else 0)), .int (if (if 0 ≤ k ∧ k ≤ ((I MO 55) - (1)) then 1 else 0 : Int32) = 0 then 1 else 0), .ref (Δ.ba + MO)] by
    refine g_ifeq (pc := 23) (tgt := 39) (dd d_Mod_pairOf 15 rfl) (by decide) (fun q2 => ?_) (fun q2 => ?_)
    · have t2 := q2
      try simp only [e1x, e0x, i10, thrP, thrN, Classical.not_not, not_and, not_or, not_true_eq_false, not_false_eq_true, true_and, and_true, and_self, or_false, or_true, false_or, true_or, eq_self] at t2
      refine g_iconst (pc := 39) (v := 0) (dd d_Mod_pairOf 23 rfl) (by decide) ?_
      simp only [if_pos q2] at K23 ⊢
      exact K23
    · have t2 := q2
      try simp only [e1x, e0x, i10, thrP, thrN, Classical.not_not, not_and, not_or, not_true_eq_false, not_false_eq_true, true_and, and_true, and_self, or_false, or_true, false_or, true_or, eq_self] at t2
      refine g_iload_n (pc := 26) (dd d_Mod_pairOf 16 rfl) rfl ?_
      refine g_iconst (pc := 27) (v := 0) (dd d_Mod_pairOf 17 rfl) (by decide) ?_
      refine g_iconst (pc := 28) (v := 1) (dd d_Mod_pairOf 18 rfl) (by decide) ?_
      refine g_callS (pc := 29) (dd d_Mod_pairOf 19 rfl) s_Mod_243 (ev_Mod_in _ _ _ _) rfl (by rw [hk]; decide) (Nat.le_of_ble_eq_true rfl) ⟨Nat.zero_le _, Nat.zero_le _⟩ rfl ?_
      suffices K32 : GG Δ m_Mod_pairOf Γ NN 0 0 (I, X) 40 [some (.ref (Δ.ba + MO)), some (.int (k)), some (.int (what)), some (.int (if 0 ≤ k ∧ k ≤ ((I MO 55) - (1)) then 1 else 0))] [.int (if (if 0 ≤ what ∧ what ≤ 1 then 1 else 0 : Int32) = 0 then 1 else 0), .int (if (if 0 ≤ k ∧ k ≤ ((I MO 55) - (1)) then 1 else 0 : Int32) = 0 then 1 else 0), .ref (Δ.ba + MO)] by
        refine g_ifne (pc := 32) (tgt := 39) (dd d_Mod_pairOf 20 rfl) (by decide) (fun q3 => ?_) (fun q3 => ?_)
        · have t3 := q3
          try simp only [e1x, e0x, i10, thrP, thrN, Classical.not_not, not_and, not_or, not_true_eq_false, not_false_eq_true, true_and, and_true, and_self, or_false, or_true, false_or, true_or, eq_self] at t3
          refine g_iconst (pc := 39) (v := 0) (dd d_Mod_pairOf 23 rfl) (by decide) ?_
          simp only [if_neg q3] at K32 ⊢
          exact K32
        · have t3 := q3
          try simp only [e1x, e0x, i10, thrP, thrN, Classical.not_not, not_and, not_or, not_true_eq_false, not_false_eq_true, true_and, and_true, and_self, or_false, or_true, false_or, true_or, eq_self] at t3
          refine g_iconst (pc := 35) (v := 1) (dd d_Mod_pairOf 21 rfl) (by decide) ?_
          refine g_goto (pc := 36) (tgt := 40) (dd d_Mod_pairOf 22 rfl) (by decide) ?_
          simp only [if_pos q3] at K32 ⊢
          exact K32
      simp only [if_neg q2] at K23 ⊢
      exact K23
  refine g_callV (pc := 40) (dd d_Mod_pairOf 24 rfl) v_Mod_250 ob_MO rfl (ev_Mod_refuse hX _ _ _) rfl (by rw [hk]; decide) (Nat.le_of_ble_eq_true rfl) ⟨Nat.zero_le _, Nat.zero_le _⟩ rfl ?_
  obtain ⟨I1, hI1⟩ : ∃ z, z = up I MO 0 (thr (if (if 0 ≤ k ∧ k ≤ ((I MO 55) - (1)) then 1 else 0 : Int32) = 0 then 1 else 0 : Int32) (if (if 0 ≤ k ∧ k ≤ ((I MO 55) - (1)) then 1 else 0 : Int32) = 0 then 0 else (if (if 0 ≤ what ∧ what ≤ 1 then 1 else 0 : Int32) = 0 then 1 else 0) : Int32)) := ⟨_, rfl⟩
  rw [← hI1]
  refine g_ifeq (pc := 43) (tgt := 48) (dd d_Mod_pairOf 25 rfl) (by decide) (fun q4 => ?_) (fun q4 => ?_)
  · have t4 := q4
    try simp only [e1x, e0x, i10, thrP, thrN, Classical.not_not, not_and, not_or, not_true_eq_false, not_false_eq_true, true_and, and_true, and_self, or_false, or_true, false_or, true_or, eq_self] at t4
    refine g_iload_n (pc := 48) (dd d_Mod_pairOf 28 rfl) rfl ?_
    suffices K49 : GG Δ m_Mod_pairOf Γ NN 0 0 (I1, X) 67 [some (.ref (Δ.ba + MO)), some (.int (k)), some (.int (what)), some (.int (if 0 ≤ k ∧ k ≤ ((I MO 55) - (1)) then 1 else 0))] [.int (if what = 0 then (I1 A_firsts k.toNatClampNeg) else (I1 A_seconds k.toNatClampNeg))] by
      refine g_ifne (pc := 49) (tgt := 61) (dd d_Mod_pairOf 29 rfl) (by decide) (fun q5 => ?_) (fun q5 => ?_)
      · have t5 := q5
        try simp only [e1x, e0x, i10, thrP, thrN, Classical.not_not, not_and, not_or, not_true_eq_false, not_false_eq_true, true_and, and_true, and_self, or_false, or_true, false_or, true_or, eq_self] at t5
        refine g_aload_n (pc := 61) (dd d_Mod_pairOf 35 rfl) rfl ?_
        refine g_getr (pc := 62) (dd d_Mod_pairOf 36 rfl) f_Mod_92 ob_MO rfl (mr_seconds hX) ?_
        refine g_iload_n (pc := 65) (dd d_Mod_pairOf 37 rfl) rfl ?_
        refine g_iald (pc := 66) (dd d_Mod_pairOf 38 rfl) ar_A_seconds (by first | assumption | (subst_vars; rw [vp_in_iff]; (try simp (decide := true) only [up_o, up_s, if_true, if_false] at t4 t5 ⊢); (try simp only [← Int32.toInt_inj, Int32.lt_iff_toInt_lt, Int32.le_iff_toInt_le, Int32.reduceToInt] at t4 t5 ⊢); first | omega | (simp only [Int32.toInt_add, Int32.toInt_sub, Int32.toInt_mul, Int32.reduceToInt, Int.bmod_def] at t4 t5 ⊢; (repeat' split) <;> omega))) ?_
        simp only [if_neg q5] at K49 ⊢
        exact K49
      · have t5 := q5
        try simp only [e1x, e0x, i10, thrP, thrN, Classical.not_not, not_and, not_or, not_true_eq_false, not_false_eq_true, true_and, and_true, and_self, or_false, or_true, false_or, true_or, eq_self] at t5
        refine g_aload_n (pc := 52) (dd d_Mod_pairOf 30 rfl) rfl ?_
        refine g_getr (pc := 53) (dd d_Mod_pairOf 31 rfl) f_Mod_89 ob_MO rfl (mr_firsts hX) ?_
        refine g_iload_n (pc := 56) (dd d_Mod_pairOf 32 rfl) rfl ?_
        refine g_iald (pc := 57) (dd d_Mod_pairOf 33 rfl) ar_A_firsts (by first | assumption | (subst_vars; rw [vp_in_iff]; (try simp (decide := true) only [up_o, up_s, if_true, if_false] at t4 t5 ⊢); (try simp only [← Int32.toInt_inj, Int32.lt_iff_toInt_lt, Int32.le_iff_toInt_le, Int32.reduceToInt] at t4 t5 ⊢); first | omega | (simp only [Int32.toInt_add, Int32.toInt_sub, Int32.toInt_mul, Int32.reduceToInt, Int.bmod_def] at t4 t5 ⊢; (repeat' split) <;> omega))) ?_
        refine g_goto (pc := 58) (tgt := 67) (dd d_Mod_pairOf 34 rfl) (by decide) ?_
        simp only [if_pos q5] at K49 ⊢
        exact K49
    subst hI1
    try simp only [if_pos q4] at hT ⊢
    exact g_iret (pc := 67) rfl (dd d_Mod_pairOf 39 rfl) hT
  · have t4 := q4
    try simp only [e1x, e0x, i10, thrP, thrN, Classical.not_not, not_and, not_or, not_true_eq_false, not_false_eq_true, true_and, and_true, and_self, or_false, or_true, false_or, true_or, eq_self] at t4
    refine g_iconst (pc := 46) (v := 0) (dd d_Mod_pairOf 26 rfl) (by decide) ?_
    subst hI1
    try simp only [if_neg q4] at hT ⊢
    exact g_iret (pc := 47) rfl (dd d_Mod_pairOf 27 rfl) hT
set_option maxRecDepth 20000 in
set_option maxHeartbeats 4000000 in
theorem ev_Mod_names {Δ : Dx} {X : Lx} (hX : MX Δ X) (I : Nat → Nat → Int32) (k : Int32) (hn : ∀ j, (I A_ruleOf j).toInt < 301) : Ev Δ 1 m_Mod_names [.ref (Δ.ba + MO), .int k] (I, X) ((if (if 0 < thr (if (if 0 ≤ k ∧ k ≤ 21 then 1 else 0 : Int32) = 0 then 1 else 0 : Int32) 0 then 1 else 0 : Int32) = 0 then some (.int (if 0 ≤ ((up I MO 0 (thr (if (if 0 ≤ k ∧ k ≤ 21 then 1 else 0 : Int32) = 0 then 1 else 0 : Int32) 0)) A_ruleOf k.toNatClampNeg : Int32) then ((up I MO 0 (thr (if (if 0 ≤ k ∧ k ≤ 21 then 1 else 0 : Int32) = 0 then 1 else 0 : Int32) 0)) A_named ((up I MO 0 (thr (if (if 0 ≤ k ∧ k ≤ 21 then 1 else 0 : Int32) = 0 then 1 else 0 : Int32) 0)) A_ruleOf k.toNatClampNeg : Int32).toNatClampNeg) else (-1))) else some (.int (0)))) ((up I MO 0 (thr (if (if 0 ≤ k ∧ k ≤ 21 then 1 else 0 : Int32) = 0 then 1 else 0 : Int32) 0)), X) := by
  refine ev_of (by decide) (Nat.le_of_ble_eq_true rfl) (fun Γ hk hR hT => ?_)
  refine g_aload_n (pc := 0) (dd d_Mod_names 0 rfl) rfl ?_
  refine g_iload_n (pc := 1) (dd d_Mod_names 1 rfl) rfl ?_
  refine g_iconst (pc := 2) (v := 0) (dd d_Mod_names 2 rfl) (by decide) ?_
  refine g_bipush (pc := 3) (v := 21) (dd d_Mod_names 3 rfl) (by decide) ?_
  refine g_callS (pc := 5) (dd d_Mod_names 4 rfl) s_Mod_243 (ev_Mod_in _ _ _ _) rfl (by rw [hk]; decide) (Nat.le_of_ble_eq_true rfl) ⟨Nat.zero_le _, Nat.zero_le _⟩ rfl ?_
  suffices K8 : GG Δ m_Mod_names Γ NN 0 0 (I, X) 16 [some (.ref (Δ.ba + MO)), some (.int (k))] [.int (if (if 0 ≤ k ∧ k ≤ 21 then 1 else 0 : Int32) = 0 then 1 else 0), .ref (Δ.ba + MO)] by
    refine g_ifne (pc := 8) (tgt := 15) (dd d_Mod_names 5 rfl) (by decide) (fun q1 => ?_) (fun q1 => ?_)
    · have t1 := q1
      try simp only [e1x, e0x, i10, thrP, thrN, Classical.not_not, not_and, not_or, not_true_eq_false, not_false_eq_true, true_and, and_true, and_self, or_false, or_true, false_or, true_or, eq_self] at t1
      refine g_iconst (pc := 15) (v := 0) (dd d_Mod_names 8 rfl) (by decide) ?_
      simp only [if_neg q1] at K8 ⊢
      exact K8
    · have t1 := q1
      try simp only [e1x, e0x, i10, thrP, thrN, Classical.not_not, not_and, not_or, not_true_eq_false, not_false_eq_true, true_and, and_true, and_self, or_false, or_true, false_or, true_or, eq_self] at t1
      refine g_iconst (pc := 11) (v := 1) (dd d_Mod_names 6 rfl) (by decide) ?_
      refine g_goto (pc := 12) (tgt := 16) (dd d_Mod_names 7 rfl) (by decide) ?_
      simp only [if_pos q1] at K8 ⊢
      exact K8
  refine g_iconst (pc := 16) (v := 0) (dd d_Mod_names 9 rfl) (by decide) ?_
  refine g_callV (pc := 17) (dd d_Mod_names 10 rfl) v_Mod_250 ob_MO rfl (ev_Mod_refuse hX _ _ _) rfl (by rw [hk]; decide) (Nat.le_of_ble_eq_true rfl) ⟨Nat.zero_le _, Nat.zero_le _⟩ rfl ?_
  obtain ⟨I1, hI1⟩ : ∃ z, z = up I MO 0 (thr (if (if 0 ≤ k ∧ k ≤ 21 then 1 else 0 : Int32) = 0 then 1 else 0 : Int32) 0) := ⟨_, rfl⟩
  rw [← hI1]
  refine g_ifeq (pc := 20) (tgt := 25) (dd d_Mod_names 11 rfl) (by decide) (fun q2 => ?_) (fun q2 => ?_)
  · have t2 := q2
    try simp only [e1x, e0x, i10, thrP, thrN, Classical.not_not, not_and, not_or, not_true_eq_false, not_false_eq_true, true_and, and_true, and_self, or_false, or_true, false_or, true_or, eq_self] at t2
    refine g_aload_n (pc := 25) (dd d_Mod_names 14 rfl) rfl ?_
    refine g_getr (pc := 26) (dd d_Mod_names 15 rfl) f_Mod_44 ob_MO rfl (mr_ruleOf hX) ?_
    refine g_iload_n (pc := 29) (dd d_Mod_names 16 rfl) rfl ?_
    refine g_iald (pc := 30) (dd d_Mod_names 17 rfl) ar_A_ruleOf (by first | assumption | (subst_vars; rw [vp_in_iff]; (try simp (decide := true) only [up_o, up_s, if_true, if_false] at t2 ⊢); (try simp only [← Int32.toInt_inj, Int32.lt_iff_toInt_lt, Int32.le_iff_toInt_le, Int32.reduceToInt] at t2 ⊢); first | omega | (simp only [Int32.toInt_add, Int32.toInt_sub, Int32.toInt_mul, Int32.reduceToInt, Int.bmod_def] at t2 ⊢; (repeat' split) <;> omega))) ?_
    suffices K31 : GG Δ m_Mod_names Γ NN 0 0 (I1, X) 49 [some (.ref (Δ.ba + MO)), some (.int (k))] [.int (if 0 ≤ (I1 A_ruleOf k.toNatClampNeg : Int32) then (I1 A_named (I1 A_ruleOf k.toNatClampNeg : Int32).toNatClampNeg) else (-1))] by
      refine g_ifge (pc := 31) (tgt := 38) (dd d_Mod_names 18 rfl) (by decide) (fun q3 => ?_) (fun q3 => ?_)
      · have t3 := q3
        try simp only [e1x, e0x, i10, thrP, thrN, Classical.not_not, not_and, not_or, not_true_eq_false, not_false_eq_true, true_and, and_true, and_self, or_false, or_true, false_or, true_or, eq_self] at t3
        refine g_aload_n (pc := 38) (dd d_Mod_names 21 rfl) rfl ?_
        refine g_getr (pc := 39) (dd d_Mod_names 22 rfl) f_Mod_47 ob_MO rfl (mr_named hX) ?_
        refine g_aload_n (pc := 42) (dd d_Mod_names 23 rfl) rfl ?_
        refine g_getr (pc := 43) (dd d_Mod_names 24 rfl) f_Mod_44 ob_MO rfl (mr_ruleOf hX) ?_
        refine g_iload_n (pc := 46) (dd d_Mod_names 25 rfl) rfl ?_
        refine g_iald (pc := 47) (dd d_Mod_names 26 rfl) ar_A_ruleOf (by first | assumption | (subst_vars; rw [vp_in_iff]; (try simp (decide := true) only [up_o, up_s, if_true, if_false] at t2 t3 ⊢); (try simp only [← Int32.toInt_inj, Int32.lt_iff_toInt_lt, Int32.le_iff_toInt_le, Int32.reduceToInt] at t2 t3 ⊢); first | omega | (simp only [Int32.toInt_add, Int32.toInt_sub, Int32.toInt_mul, Int32.reduceToInt, Int.bmod_def] at t2 t3 ⊢; (repeat' split) <;> omega))) ?_
        refine g_iald (pc := 48) (dd d_Mod_names 27 rfl) ar_A_named (by have hh := hn k.toNatClampNeg; subst_vars; rw [vp_in_iff]; simp (decide := true) only [up_o, Int32.lt_iff_toInt_lt, Int32.le_iff_toInt_le, Int32.reduceToInt] at t3 ⊢; omega) ?_
        simp only [if_pos q3] at K31 ⊢
        exact K31
      · have t3 := q3
        try simp only [e1x, e0x, i10, thrP, thrN, Classical.not_not, not_and, not_or, not_true_eq_false, not_false_eq_true, true_and, and_true, and_self, or_false, or_true, false_or, true_or, eq_self] at t3
        refine g_iconst (pc := 34) (v := (-1)) (dd d_Mod_names 19 rfl) (by decide) ?_
        refine g_goto (pc := 35) (tgt := 49) (dd d_Mod_names 20 rfl) (by decide) ?_
        simp only [if_neg q3] at K31 ⊢
        exact K31
    subst hI1
    try simp only [if_pos q2] at hT ⊢
    exact g_iret (pc := 49) rfl (dd d_Mod_names 28 rfl) hT
  · have t2 := q2
    try simp only [e1x, e0x, i10, thrP, thrN, Classical.not_not, not_and, not_or, not_true_eq_false, not_false_eq_true, true_and, and_true, and_self, or_false, or_true, false_or, true_or, eq_self] at t2
    refine g_iconst (pc := 23) (v := 0) (dd d_Mod_names 12 rfl) (by decide) ?_
    subst hI1
    try simp only [if_neg q2] at hT ⊢
    exact g_iret (pc := 24) rfl (dd d_Mod_names 13 rfl) hT
set_option maxRecDepth 20000 in
set_option maxHeartbeats 4000000 in
theorem ev_Mod_state {Δ : Dx} {X : Lx} (hX : MX Δ X) (I : Nat → Nat → Int32) (w : Int32) : Ev Δ 1 m_Mod_state [.ref (Δ.ba + MO), .int w] (I, X) ((if (if 0 < thr (if (if 0 ≤ w ∧ w ≤ 9 then 1 else 0 : Int32) = 0 then 1 else 0 : Int32) 0 then 1 else 0 : Int32) = 0 then (if w = 0 then some (.int ((up I MO 0 (thr (if (if 0 ≤ w ∧ w ≤ 9 then 1 else 0 : Int32) = 0 then 1 else 0 : Int32) 0)) MO 50)) else (if w = 1 then some (.int ((up I MO 0 (thr (if (if 0 ≤ w ∧ w ≤ 9 then 1 else 0 : Int32) = 0 then 1 else 0 : Int32) 0)) MO 48)) else (if w = 2 then some (.int ((up I MO 0 (thr (if (if 0 ≤ w ∧ w ≤ 9 then 1 else 0 : Int32) = 0 then 1 else 0 : Int32) 0)) MO 51)) else (if w = 3 then some (.int ((up I MO 0 (thr (if (if 0 ≤ w ∧ w ≤ 9 then 1 else 0 : Int32) = 0 then 1 else 0 : Int32) 0)) MO 53)) else (if w = 4 then some (.int ((up I MO 0 (thr (if (if 0 ≤ w ∧ w ≤ 9 then 1 else 0 : Int32) = 0 then 1 else 0 : Int32) 0)) MO 54)) else (if w = 5 then some (.int ((up I MO 0 (thr (if (if 0 ≤ w ∧ w ≤ 9 then 1 else 0 : Int32) = 0 then 1 else 0 : Int32) 0)) MO 45)) else (if w = 6 then some (.int ((up I MO 0 (thr (if (if 0 ≤ w ∧ w ≤ 9 then 1 else 0 : Int32) = 0 then 1 else 0 : Int32) 0)) MO 52)) else (if w = 7 then some (.int ((up I MO 0 (thr (if (if 0 ≤ w ∧ w ≤ 9 then 1 else 0 : Int32) = 0 then 1 else 0 : Int32) 0)) MO 55)) else (if w = 8 then some (.int ((up I MO 0 (thr (if (if 0 ≤ w ∧ w ≤ 9 then 1 else 0 : Int32) = 0 then 1 else 0 : Int32) 0)) MO 58)) else some (.int (if (16 : Int32) ≤ ((up I MO 0 (thr (if (if 0 ≤ w ∧ w ≤ 9 then 1 else 0 : Int32) = 0 then 1 else 0 : Int32) 0)) MO 63 : Int32) then 16 else ((up I MO 0 (thr (if (if 0 ≤ w ∧ w ≤ 9 then 1 else 0 : Int32) = 0 then 1 else 0 : Int32) 0)) MO 63)))))))))))) else some (.int (0)))) ((up I MO 0 (thr (if (if 0 ≤ w ∧ w ≤ 9 then 1 else 0 : Int32) = 0 then 1 else 0 : Int32) 0)), X) := by
  refine ev_of (by decide) (Nat.le_of_ble_eq_true rfl) (fun Γ hk hR hT => ?_)
  refine g_aload_n (pc := 0) (dd d_Mod_state 0 rfl) rfl ?_
  refine g_iload_n (pc := 1) (dd d_Mod_state 1 rfl) rfl ?_
  refine g_iconst (pc := 2) (v := 0) (dd d_Mod_state 2 rfl) (by decide) ?_
  refine g_bipush (pc := 3) (v := 9) (dd d_Mod_state 3 rfl) (by decide) ?_
  refine g_callS (pc := 5) (dd d_Mod_state 4 rfl) s_Mod_243 (ev_Mod_in _ _ _ _) rfl (by rw [hk]; decide) (Nat.le_of_ble_eq_true rfl) ⟨Nat.zero_le _, Nat.zero_le _⟩ rfl ?_
  suffices K8 : GG Δ m_Mod_state Γ NN 0 0 (I, X) 16 [some (.ref (Δ.ba + MO)), some (.int (w))] [.int (if (if 0 ≤ w ∧ w ≤ 9 then 1 else 0 : Int32) = 0 then 1 else 0), .ref (Δ.ba + MO)] by
    refine g_ifne (pc := 8) (tgt := 15) (dd d_Mod_state 5 rfl) (by decide) (fun q1 => ?_) (fun q1 => ?_)
    · have t1 := q1
      try simp only [e1x, e0x, i10, thrP, thrN, Classical.not_not, not_and, not_or, not_true_eq_false, not_false_eq_true, true_and, and_true, and_self, or_false, or_true, false_or, true_or, eq_self] at t1
      refine g_iconst (pc := 15) (v := 0) (dd d_Mod_state 8 rfl) (by decide) ?_
      simp only [if_neg q1] at K8 ⊢
      exact K8
    · have t1 := q1
      try simp only [e1x, e0x, i10, thrP, thrN, Classical.not_not, not_and, not_or, not_true_eq_false, not_false_eq_true, true_and, and_true, and_self, or_false, or_true, false_or, true_or, eq_self] at t1
      refine g_iconst (pc := 11) (v := 1) (dd d_Mod_state 6 rfl) (by decide) ?_
      refine g_goto (pc := 12) (tgt := 16) (dd d_Mod_state 7 rfl) (by decide) ?_
      simp only [if_pos q1] at K8 ⊢
      exact K8
  refine g_iconst (pc := 16) (v := 0) (dd d_Mod_state 9 rfl) (by decide) ?_
  refine g_callV (pc := 17) (dd d_Mod_state 10 rfl) v_Mod_250 ob_MO rfl (ev_Mod_refuse hX _ _ _) rfl (by rw [hk]; decide) (Nat.le_of_ble_eq_true rfl) ⟨Nat.zero_le _, Nat.zero_le _⟩ rfl ?_
  obtain ⟨I1, hI1⟩ : ∃ z, z = up I MO 0 (thr (if (if 0 ≤ w ∧ w ≤ 9 then 1 else 0 : Int32) = 0 then 1 else 0 : Int32) 0) := ⟨_, rfl⟩
  rw [← hI1]
  refine g_ifeq (pc := 20) (tgt := 25) (dd d_Mod_state 11 rfl) (by decide) (fun q2 => ?_) (fun q2 => ?_)
  · have t2 := q2
    try simp only [e1x, e0x, i10, thrP, thrN, Classical.not_not, not_and, not_or, not_true_eq_false, not_false_eq_true, true_and, and_true, and_self, or_false, or_true, false_or, true_or, eq_self] at t2
    refine g_iload_n (pc := 25) (dd d_Mod_state 14 rfl) rfl ?_
    refine g_tableC (pc := 26) (dd d_Mod_state 15 rfl) (fun i off ho w3 => ?_) (by decide) (fun w3 => ⟨121, by decide, ?_⟩)
    · rcases i with _ | _ | _ | _ | _ | _ | _ | _ | _ | i
      · obtain rfl : off = 50 := (Option.some.inj ho).symm
        refine ⟨76, by decide, ?_⟩
        replace w3 : w = 0 := Int32.toInt_inj.mp w3
        refine g_aload_n (pc := 76) (dd d_Mod_state 16 rfl) rfl ?_
        refine g_geti (pc := 77) (dd d_Mod_state 17 rfl) f_Mod_406 ob_MO rfl ?_
        subst hI1
        try simp only [if_pos q2, if_pos w3] at hT ⊢
        exact g_iret (pc := 80) rfl (dd d_Mod_state 18 rfl) hT
      · obtain rfl : off = 55 := (Option.some.inj ho).symm
        refine ⟨81, by decide, ?_⟩
        replace w3 : w = 1 := Int32.toInt_inj.mp w3
        have w3_0 : ¬ w = 0 := by rw [w3]; decide
        refine g_aload_n (pc := 81) (dd d_Mod_state 19 rfl) rfl ?_
        refine g_geti (pc := 82) (dd d_Mod_state 20 rfl) f_Mod_403 ob_MO rfl ?_
        subst hI1
        try simp only [if_pos q2, if_neg w3_0, if_pos w3] at hT ⊢
        exact g_iret (pc := 85) rfl (dd d_Mod_state 21 rfl) hT
      · obtain rfl : off = 60 := (Option.some.inj ho).symm
        refine ⟨86, by decide, ?_⟩
        replace w3 : w = 2 := Int32.toInt_inj.mp w3
        have w3_0 : ¬ w = 0 := by rw [w3]; decide
        have w3_1 : ¬ w = 1 := by rw [w3]; decide
        refine g_aload_n (pc := 86) (dd d_Mod_state 22 rfl) rfl ?_
        refine g_geti (pc := 87) (dd d_Mod_state 23 rfl) f_Mod_409 ob_MO rfl ?_
        subst hI1
        try simp only [if_pos q2, if_neg w3_0, if_neg w3_1, if_pos w3] at hT ⊢
        exact g_iret (pc := 90) rfl (dd d_Mod_state 24 rfl) hT
      · obtain rfl : off = 65 := (Option.some.inj ho).symm
        refine ⟨91, by decide, ?_⟩
        replace w3 : w = 3 := Int32.toInt_inj.mp w3
        have w3_0 : ¬ w = 0 := by rw [w3]; decide
        have w3_1 : ¬ w = 1 := by rw [w3]; decide
        have w3_2 : ¬ w = 2 := by rw [w3]; decide
        refine g_aload_n (pc := 91) (dd d_Mod_state 25 rfl) rfl ?_
        refine g_geti (pc := 92) (dd d_Mod_state 26 rfl) f_Mod_382 ob_MO rfl ?_
        subst hI1
        try simp only [if_pos q2, if_neg w3_0, if_neg w3_1, if_neg w3_2, if_pos w3] at hT ⊢
        exact g_iret (pc := 95) rfl (dd d_Mod_state 27 rfl) hT
      · obtain rfl : off = 70 := (Option.some.inj ho).symm
        refine ⟨96, by decide, ?_⟩
        replace w3 : w = 4 := Int32.toInt_inj.mp w3
        have w3_0 : ¬ w = 0 := by rw [w3]; decide
        have w3_1 : ¬ w = 1 := by rw [w3]; decide
        have w3_2 : ¬ w = 2 := by rw [w3]; decide
        have w3_3 : ¬ w = 3 := by rw [w3]; decide
        refine g_aload_n (pc := 96) (dd d_Mod_state 28 rfl) rfl ?_
        refine g_geti (pc := 97) (dd d_Mod_state 29 rfl) f_Mod_385 ob_MO rfl ?_
        subst hI1
        try simp only [if_pos q2, if_neg w3_0, if_neg w3_1, if_neg w3_2, if_neg w3_3, if_pos w3] at hT ⊢
        exact g_iret (pc := 100) rfl (dd d_Mod_state 30 rfl) hT
      · obtain rfl : off = 75 := (Option.some.inj ho).symm
        refine ⟨101, by decide, ?_⟩
        replace w3 : w = 5 := Int32.toInt_inj.mp w3
        have w3_0 : ¬ w = 0 := by rw [w3]; decide
        have w3_1 : ¬ w = 1 := by rw [w3]; decide
        have w3_2 : ¬ w = 2 := by rw [w3]; decide
        have w3_3 : ¬ w = 3 := by rw [w3]; decide
        have w3_4 : ¬ w = 4 := by rw [w3]; decide
        refine g_aload_n (pc := 101) (dd d_Mod_state 31 rfl) rfl ?_
        refine g_geti (pc := 102) (dd d_Mod_state 32 rfl) f_Mod_400 ob_MO rfl ?_
        subst hI1
        try simp only [if_pos q2, if_neg w3_0, if_neg w3_1, if_neg w3_2, if_neg w3_3, if_neg w3_4, if_pos w3] at hT ⊢
        exact g_iret (pc := 105) rfl (dd d_Mod_state 33 rfl) hT
      · obtain rfl : off = 80 := (Option.some.inj ho).symm
        refine ⟨106, by decide, ?_⟩
        replace w3 : w = 6 := Int32.toInt_inj.mp w3
        have w3_0 : ¬ w = 0 := by rw [w3]; decide
        have w3_1 : ¬ w = 1 := by rw [w3]; decide
        have w3_2 : ¬ w = 2 := by rw [w3]; decide
        have w3_3 : ¬ w = 3 := by rw [w3]; decide
        have w3_4 : ¬ w = 4 := by rw [w3]; decide
        have w3_5 : ¬ w = 5 := by rw [w3]; decide
        refine g_aload_n (pc := 106) (dd d_Mod_state 34 rfl) rfl ?_
        refine g_geti (pc := 107) (dd d_Mod_state 35 rfl) f_Mod_412 ob_MO rfl ?_
        subst hI1
        try simp only [if_pos q2, if_neg w3_0, if_neg w3_1, if_neg w3_2, if_neg w3_3, if_neg w3_4, if_neg w3_5, if_pos w3] at hT ⊢
        exact g_iret (pc := 110) rfl (dd d_Mod_state 36 rfl) hT
      · obtain rfl : off = 85 := (Option.some.inj ho).symm
        refine ⟨111, by decide, ?_⟩
        replace w3 : w = 7 := Int32.toInt_inj.mp w3
        have w3_0 : ¬ w = 0 := by rw [w3]; decide
        have w3_1 : ¬ w = 1 := by rw [w3]; decide
        have w3_2 : ¬ w = 2 := by rw [w3]; decide
        have w3_3 : ¬ w = 3 := by rw [w3]; decide
        have w3_4 : ¬ w = 4 := by rw [w3]; decide
        have w3_5 : ¬ w = 5 := by rw [w3]; decide
        have w3_6 : ¬ w = 6 := by rw [w3]; decide
        refine g_aload_n (pc := 111) (dd d_Mod_state 37 rfl) rfl ?_
        refine g_geti (pc := 112) (dd d_Mod_state 38 rfl) f_Mod_415 ob_MO rfl ?_
        subst hI1
        try simp only [if_pos q2, if_neg w3_0, if_neg w3_1, if_neg w3_2, if_neg w3_3, if_neg w3_4, if_neg w3_5, if_neg w3_6, if_pos w3] at hT ⊢
        exact g_iret (pc := 115) rfl (dd d_Mod_state 39 rfl) hT
      · obtain rfl : off = 90 := (Option.some.inj ho).symm
        refine ⟨116, by decide, ?_⟩
        replace w3 : w = 8 := Int32.toInt_inj.mp w3
        have w3_0 : ¬ w = 0 := by rw [w3]; decide
        have w3_1 : ¬ w = 1 := by rw [w3]; decide
        have w3_2 : ¬ w = 2 := by rw [w3]; decide
        have w3_3 : ¬ w = 3 := by rw [w3]; decide
        have w3_4 : ¬ w = 4 := by rw [w3]; decide
        have w3_5 : ¬ w = 5 := by rw [w3]; decide
        have w3_6 : ¬ w = 6 := by rw [w3]; decide
        have w3_7 : ¬ w = 7 := by rw [w3]; decide
        refine g_aload_n (pc := 116) (dd d_Mod_state 40 rfl) rfl ?_
        refine g_geti (pc := 117) (dd d_Mod_state 41 rfl) f_Mod_376 ob_MO rfl ?_
        subst hI1
        try simp only [if_pos q2, if_neg w3_0, if_neg w3_1, if_neg w3_2, if_neg w3_3, if_neg w3_4, if_neg w3_5, if_neg w3_6, if_neg w3_7, if_pos w3] at hT ⊢
        exact g_iret (pc := 120) rfl (dd d_Mod_state 42 rfl) hT
      · cases ho
    · skip
      replace w3 : w.toInt < 0 ∨ 8 < w.toInt := w3
      have w3_0 : ¬ w = 0 := fun e => by rw [e] at w3; revert w3; decide
      have w3_1 : ¬ w = 1 := fun e => by rw [e] at w3; revert w3; decide
      have w3_2 : ¬ w = 2 := fun e => by rw [e] at w3; revert w3; decide
      have w3_3 : ¬ w = 3 := fun e => by rw [e] at w3; revert w3; decide
      have w3_4 : ¬ w = 4 := fun e => by rw [e] at w3; revert w3; decide
      have w3_5 : ¬ w = 5 := fun e => by rw [e] at w3; revert w3; decide
      have w3_6 : ¬ w = 6 := fun e => by rw [e] at w3; revert w3; decide
      have w3_7 : ¬ w = 7 := fun e => by rw [e] at w3; revert w3; decide
      have w3_8 : ¬ w = 8 := fun e => by rw [e] at w3; revert w3; decide
      refine g_aload_n (pc := 121) (dd d_Mod_state 43 rfl) rfl ?_
      refine g_geti (pc := 122) (dd d_Mod_state 44 rfl) f_Mod_418 ob_MO rfl ?_
      refine g_bipush (pc := 125) (v := 16) (dd d_Mod_state 45 rfl) (by decide) ?_
      suffices K127 : GG Δ m_Mod_state Γ NN 0 0 (I1, X) 139 [some (.ref (Δ.ba + MO)), some (.int (w))] [.int (if (16 : Int32) ≤ (I1 MO 63 : Int32) then 16 else (I1 MO 63))] by
        refine g_icmpge (pc := 127) (tgt := 137) (dd d_Mod_state 46 rfl) (by decide) (fun q4 => ?_) (fun q4 => ?_)
        · have t4 := q4
          try simp only [e1x, e0x, i10, thrP, thrN, Classical.not_not, not_and, not_or, not_true_eq_false, not_false_eq_true, true_and, and_true, and_self, or_false, or_true, false_or, true_or, eq_self] at t4
          refine g_bipush (pc := 137) (v := 16) (dd d_Mod_state 50 rfl) (by decide) ?_
          simp only [if_pos q4] at K127 ⊢
          exact K127
        · have t4 := q4
          try simp only [e1x, e0x, i10, thrP, thrN, Classical.not_not, not_and, not_or, not_true_eq_false, not_false_eq_true, true_and, and_true, and_self, or_false, or_true, false_or, true_or, eq_self] at t4
          refine g_aload_n (pc := 130) (dd d_Mod_state 47 rfl) rfl ?_
          refine g_geti (pc := 131) (dd d_Mod_state 48 rfl) f_Mod_418 ob_MO rfl ?_
          refine g_goto (pc := 134) (tgt := 139) (dd d_Mod_state 49 rfl) (by decide) ?_
          simp only [if_neg q4] at K127 ⊢
          exact K127
      subst hI1
      try simp only [if_pos q2, if_neg w3_0, if_neg w3_1, if_neg w3_2, if_neg w3_3, if_neg w3_4, if_neg w3_5, if_neg w3_6, if_neg w3_7, if_neg w3_8] at hT ⊢
      exact g_iret (pc := 139) rfl (dd d_Mod_state 51 rfl) hT
  · have t2 := q2
    try simp only [e1x, e0x, i10, thrP, thrN, Classical.not_not, not_and, not_or, not_true_eq_false, not_false_eq_true, true_and, and_true, and_self, or_false, or_true, false_or, true_or, eq_self] at t2
    refine g_iconst (pc := 23) (v := 0) (dd d_Mod_state 12 rfl) (by decide) ?_
    subst hI1
    try simp only [if_neg q2] at hT ⊢
    exact g_iret (pc := 24) rfl (dd d_Mod_state 13 rfl) hT
set_option maxRecDepth 20000 in
set_option maxHeartbeats 4000000 in
theorem ev_Mod_between {Δ : Dx} {X : Lx} (hX : MX Δ X) (I : Nat → Nat → Int32) (lo hi : Int32) : Ev Δ 0 m_Mod_between [.ref (Δ.ba + MO), .int lo, .int hi] (I, X) (some (.int (if (I MO 75 : Int32) < lo then 0 else (if hi < (I MO 75 : Int32) then 0 else 1)))) (I, X) := by
  refine ev_of (by decide) (Nat.le_of_ble_eq_true rfl) (fun Γ hk hR hT => ?_)
  refine g_aload_n (pc := 0) (dd d_Mod_between 0 rfl) rfl ?_
  refine g_geti (pc := 1) (dd d_Mod_between 1 rfl) f_Mod_492 ob_MO rfl ?_
  refine g_iload_n (pc := 4) (dd d_Mod_between 2 rfl) rfl ?_
  suffices K5 : GG Δ m_Mod_between Γ NN 0 0 (I, X) 21 [some (.ref (Δ.ba + MO)), some (.int (lo)), some (.int (hi))] [.int (if (I MO 75 : Int32) < lo then 0 else (if hi < (I MO 75 : Int32) then 0 else 1))] by
    refine g_icmplt (pc := 5) (tgt := 20) (dd d_Mod_between 3 rfl) (by decide) (fun q1 => ?_) (fun q1 => ?_)
    · have t1 := q1
      try simp only [e1x, e0x, i10, thrP, thrN, Classical.not_not, not_and, not_or, not_true_eq_false, not_false_eq_true, true_and, and_true, and_self, or_false, or_true, false_or, true_or, eq_self] at t1
      refine g_iconst (pc := 20) (v := 0) (dd d_Mod_between 10 rfl) (by decide) ?_
      simp only [if_pos q1] at K5 ⊢
      exact K5
    · have t1 := q1
      try simp only [e1x, e0x, i10, thrP, thrN, Classical.not_not, not_and, not_or, not_true_eq_false, not_false_eq_true, true_and, and_true, and_self, or_false, or_true, false_or, true_or, eq_self] at t1
      refine g_aload_n (pc := 8) (dd d_Mod_between 4 rfl) rfl ?_
      refine g_geti (pc := 9) (dd d_Mod_between 5 rfl) f_Mod_492 ob_MO rfl ?_
      refine g_iload_n (pc := 12) (dd d_Mod_between 6 rfl) rfl ?_
      suffices K13 : GG Δ m_Mod_between Γ NN 0 0 (I, X) 21 [some (.ref (Δ.ba + MO)), some (.int (lo)), some (.int (hi))] [.int (if hi < (I MO 75 : Int32) then 0 else 1)] by
        refine g_icmpgt (pc := 13) (tgt := 20) (dd d_Mod_between 7 rfl) (by decide) (fun q2 => ?_) (fun q2 => ?_)
        · have t2 := q2
          try simp only [e1x, e0x, i10, thrP, thrN, Classical.not_not, not_and, not_or, not_true_eq_false, not_false_eq_true, true_and, and_true, and_self, or_false, or_true, false_or, true_or, eq_self] at t2
          refine g_iconst (pc := 20) (v := 0) (dd d_Mod_between 10 rfl) (by decide) ?_
          simp only [if_pos q2] at K13 ⊢
          exact K13
        · have t2 := q2
          try simp only [e1x, e0x, i10, thrP, thrN, Classical.not_not, not_and, not_or, not_true_eq_false, not_false_eq_true, true_and, and_true, and_self, or_false, or_true, false_or, true_or, eq_self] at t2
          refine g_iconst (pc := 16) (v := 1) (dd d_Mod_between 8 rfl) (by decide) ?_
          refine g_goto (pc := 17) (tgt := 21) (dd d_Mod_between 9 rfl) (by decide) ?_
          simp only [if_neg q2] at K13 ⊢
          exact K13
      simp only [if_neg q1] at K5 ⊢
      exact K5
  exact g_zret (pc := 21) rfl (by first | exact Or.inl rfl | exact Or.inr rfl | ((repeat' split) <;> first | exact Or.inl rfl | exact Or.inr rfl)) (dd d_Mod_between 11 rfl) hT
set_option maxRecDepth 20000 in
set_option maxHeartbeats 4000000 in
theorem ev_Mod_isOne {Δ : Dx} {X : Lx} (hX : MX Δ X) (I : Nat → Nat → Int32) (c : Int32) : Ev Δ 1 m_Mod_isOne [.int c] (I, X) (some (.int (if c = (33 : Int32) then 1 else (if c = (126 : Int32) then 1 else (if c = (301 : Int32) then 1 else (if (if 311 ≤ c ∧ c ≤ 313 then 1 else 0 : Int32) = 0 then 0 else 1)))))) (I, X) := by
  refine ev_of (by decide) (Nat.le_of_ble_eq_true rfl) (fun Γ hk hR hT => ?_)
  refine g_iload_n (pc := 0) (dd d_Mod_isOne 0 rfl) rfl ?_
  refine g_bipush (pc := 1) (v := 33) (dd d_Mod_isOne 1 rfl) (by decide) ?_
  suffices K3 : GG Δ m_Mod_isOne Γ NN 0 0 (I, X) 37 [some (.int (c))] [.int (if c = (33 : Int32) then 1 else (if c = (126 : Int32) then 1 else (if c = (301 : Int32) then 1 else (if (if 311 ≤ c ∧ c ≤ 313 then 1 else 0 : Int32) = 0 then 0 else 1))))] by
    refine g_icmpeq (pc := 3) (tgt := 32) (dd d_Mod_isOne 2 rfl) (by decide) (fun q1 => ?_) (fun q1 => ?_)
    · have t1 := q1
      try simp only [e1x, e0x, i10, thrP, thrN, Classical.not_not, not_and, not_or, not_true_eq_false, not_false_eq_true, true_and, and_true, and_self, or_false, or_true, false_or, true_or, eq_self] at t1
      refine g_iconst (pc := 32) (v := 1) (dd d_Mod_isOne 14 rfl) (by decide) ?_
      refine g_goto (pc := 33) (tgt := 37) (dd d_Mod_isOne 15 rfl) (by decide) ?_
      simp only [if_pos q1] at K3 ⊢
      exact K3
    · have t1 := q1
      try simp only [e1x, e0x, i10, thrP, thrN, Classical.not_not, not_and, not_or, not_true_eq_false, not_false_eq_true, true_and, and_true, and_self, or_false, or_true, false_or, true_or, eq_self] at t1
      refine g_iload_n (pc := 6) (dd d_Mod_isOne 3 rfl) rfl ?_
      refine g_bipush (pc := 7) (v := 126) (dd d_Mod_isOne 4 rfl) (by decide) ?_
      suffices K9 : GG Δ m_Mod_isOne Γ NN 0 0 (I, X) 37 [some (.int (c))] [.int (if c = (126 : Int32) then 1 else (if c = (301 : Int32) then 1 else (if (if 311 ≤ c ∧ c ≤ 313 then 1 else 0 : Int32) = 0 then 0 else 1)))] by
        refine g_icmpeq (pc := 9) (tgt := 32) (dd d_Mod_isOne 5 rfl) (by decide) (fun q2 => ?_) (fun q2 => ?_)
        · have t2 := q2
          try simp only [e1x, e0x, i10, thrP, thrN, Classical.not_not, not_and, not_or, not_true_eq_false, not_false_eq_true, true_and, and_true, and_self, or_false, or_true, false_or, true_or, eq_self] at t2
          refine g_iconst (pc := 32) (v := 1) (dd d_Mod_isOne 14 rfl) (by decide) ?_
          refine g_goto (pc := 33) (tgt := 37) (dd d_Mod_isOne 15 rfl) (by decide) ?_
          simp only [if_pos q2] at K9 ⊢
          exact K9
        · have t2 := q2
          try simp only [e1x, e0x, i10, thrP, thrN, Classical.not_not, not_and, not_or, not_true_eq_false, not_false_eq_true, true_and, and_true, and_self, or_false, or_true, false_or, true_or, eq_self] at t2
          refine g_iload_n (pc := 12) (dd d_Mod_isOne 6 rfl) rfl ?_
          refine g_sipush (pc := 13) (v := 301) (dd d_Mod_isOne 7 rfl) (by decide) ?_
          suffices K16 : GG Δ m_Mod_isOne Γ NN 0 0 (I, X) 37 [some (.int (c))] [.int (if c = (301 : Int32) then 1 else (if (if 311 ≤ c ∧ c ≤ 313 then 1 else 0 : Int32) = 0 then 0 else 1))] by
            refine g_icmpeq (pc := 16) (tgt := 32) (dd d_Mod_isOne 8 rfl) (by decide) (fun q3 => ?_) (fun q3 => ?_)
            · have t3 := q3
              try simp only [e1x, e0x, i10, thrP, thrN, Classical.not_not, not_and, not_or, not_true_eq_false, not_false_eq_true, true_and, and_true, and_self, or_false, or_true, false_or, true_or, eq_self] at t3
              refine g_iconst (pc := 32) (v := 1) (dd d_Mod_isOne 14 rfl) (by decide) ?_
              refine g_goto (pc := 33) (tgt := 37) (dd d_Mod_isOne 15 rfl) (by decide) ?_
              simp only [if_pos q3] at K16 ⊢
              exact K16
            · have t3 := q3
              try simp only [e1x, e0x, i10, thrP, thrN, Classical.not_not, not_and, not_or, not_true_eq_false, not_false_eq_true, true_and, and_true, and_self, or_false, or_true, false_or, true_or, eq_self] at t3
              refine g_iload_n (pc := 19) (dd d_Mod_isOne 9 rfl) rfl ?_
              refine g_sipush (pc := 20) (v := 311) (dd d_Mod_isOne 10 rfl) (by decide) ?_
              refine g_sipush (pc := 23) (v := 313) (dd d_Mod_isOne 11 rfl) (by decide) ?_
              refine g_callS (pc := 26) (dd d_Mod_isOne 12 rfl) s_Mod_243 (ev_Mod_in _ _ _ _) rfl (by rw [hk]; decide) (Nat.le_of_ble_eq_true rfl) ⟨Nat.zero_le _, Nat.zero_le _⟩ rfl ?_
              suffices K29 : GG Δ m_Mod_isOne Γ NN 0 0 (I, X) 37 [some (.int (c))] [.int (if (if 311 ≤ c ∧ c ≤ 313 then 1 else 0 : Int32) = 0 then 0 else 1)] by
                refine g_ifeq (pc := 29) (tgt := 36) (dd d_Mod_isOne 13 rfl) (by decide) (fun q4 => ?_) (fun q4 => ?_)
                · have t4 := q4
                  try simp only [e1x, e0x, i10, thrP, thrN, Classical.not_not, not_and, not_or, not_true_eq_false, not_false_eq_true, true_and, and_true, and_self, or_false, or_true, false_or, true_or, eq_self] at t4
                  refine g_iconst (pc := 36) (v := 0) (dd d_Mod_isOne 16 rfl) (by decide) ?_
                  simp only [if_pos q4] at K29 ⊢
                  exact K29
                · have t4 := q4
                  try simp only [e1x, e0x, i10, thrP, thrN, Classical.not_not, not_and, not_or, not_true_eq_false, not_false_eq_true, true_and, and_true, and_self, or_false, or_true, false_or, true_or, eq_self] at t4
                  refine g_iconst (pc := 32) (v := 1) (dd d_Mod_isOne 14 rfl) (by decide) ?_
                  refine g_goto (pc := 33) (tgt := 37) (dd d_Mod_isOne 15 rfl) (by decide) ?_
                  simp only [if_neg q4] at K29 ⊢
                  exact K29
              simp only [if_neg q3] at K16 ⊢
              exact K16
          simp only [if_neg q2] at K9 ⊢
          exact K9
      simp only [if_neg q1] at K3 ⊢
      exact K3
  exact g_zret (pc := 37) rfl (by first | exact Or.inl rfl | exact Or.inr rfl | ((repeat' split) <;> first | exact Or.inl rfl | exact Or.inr rfl)) (dd d_Mod_isOne 17 rfl) hT
set_option maxRecDepth 20000 in
set_option maxHeartbeats 4000000 in
theorem ev_Mod_isSign {Δ : Dx} {X : Lx} (hX : MX Δ X) (I : Nat → Nat → Int32) (c : Int32) : Ev Δ 0 m_Mod_isSign [.int c] (I, X) ((if c = 33 then some (.int (1)) else (if c = 38 then some (.int (1)) else (if c = 40 then some (.int (1)) else (if c = 41 then some (.int (1)) else (if c = 43 then some (.int (1)) else (if c = 44 then some (.int (1)) else (if c = 45 then some (.int (1)) else (if c = 58 then some (.int (1)) else (if c = 59 then some (.int (1)) else (if c = 60 then some (.int (1)) else (if c = 61 then some (.int (1)) else (if c = 63 then some (.int (1)) else (if c = 94 then some (.int (1)) else (if c = 124 then some (.int (1)) else (if c = 126 then some (.int (1)) else some (.int (0)))))))))))))))))) (I, X) := by
  refine ev_of (by decide) (Nat.le_of_ble_eq_true rfl) (fun Γ hk hR hT => ?_)
  refine g_iload_n (pc := 0) (dd d_Mod_isSign 0 rfl) rfl ?_
  refine g_lookupC (pc := 1) (dd d_Mod_isSign 1 rfl) (by decide) (List.forall_mem_cons.mpr ⟨fun w1 => ⟨132, by decide, ?_⟩, List.forall_mem_cons.mpr ⟨fun w1 => ⟨132, by decide, ?_⟩, List.forall_mem_cons.mpr ⟨fun w1 => ⟨132, by decide, ?_⟩, List.forall_mem_cons.mpr ⟨fun w1 => ⟨132, by decide, ?_⟩, List.forall_mem_cons.mpr ⟨fun w1 => ⟨132, by decide, ?_⟩, List.forall_mem_cons.mpr ⟨fun w1 => ⟨132, by decide, ?_⟩, List.forall_mem_cons.mpr ⟨fun w1 => ⟨132, by decide, ?_⟩, List.forall_mem_cons.mpr ⟨fun w1 => ⟨132, by decide, ?_⟩, List.forall_mem_cons.mpr ⟨fun w1 => ⟨132, by decide, ?_⟩, List.forall_mem_cons.mpr ⟨fun w1 => ⟨132, by decide, ?_⟩, List.forall_mem_cons.mpr ⟨fun w1 => ⟨132, by decide, ?_⟩, List.forall_mem_cons.mpr ⟨fun w1 => ⟨132, by decide, ?_⟩, List.forall_mem_cons.mpr ⟨fun w1 => ⟨132, by decide, ?_⟩, List.forall_mem_cons.mpr ⟨fun w1 => ⟨132, by decide, ?_⟩, List.forall_mem_cons.mpr ⟨fun w1 => ⟨132, by decide, ?_⟩, (fun _ h => absurd h List.not_mem_nil)⟩⟩⟩⟩⟩⟩⟩⟩⟩⟩⟩⟩⟩⟩⟩) (fun w1 => ⟨134, by decide, ?_⟩)
  · replace w1 : c = 33 := Int32.toInt_inj.mp w1
    refine g_iconst (pc := 132) (v := 1) (dd d_Mod_isSign 2 rfl) (by decide) ?_
    try simp only [if_pos w1] at hT ⊢
    exact g_zret (pc := 133) rfl (by first | exact Or.inl rfl | exact Or.inr rfl | ((repeat' split) <;> first | exact Or.inl rfl | exact Or.inr rfl)) (dd d_Mod_isSign 3 rfl) hT
  · replace w1 : c = 38 := Int32.toInt_inj.mp w1
    have w1_33 : ¬ c = 33 := by rw [w1]; decide
    refine g_iconst (pc := 132) (v := 1) (dd d_Mod_isSign 2 rfl) (by decide) ?_
    try simp only [if_neg w1_33, if_pos w1] at hT ⊢
    exact g_zret (pc := 133) rfl (by first | exact Or.inl rfl | exact Or.inr rfl | ((repeat' split) <;> first | exact Or.inl rfl | exact Or.inr rfl)) (dd d_Mod_isSign 3 rfl) hT
  · replace w1 : c = 40 := Int32.toInt_inj.mp w1
    have w1_33 : ¬ c = 33 := by rw [w1]; decide
    have w1_38 : ¬ c = 38 := by rw [w1]; decide
    refine g_iconst (pc := 132) (v := 1) (dd d_Mod_isSign 2 rfl) (by decide) ?_
    try simp only [if_neg w1_33, if_neg w1_38, if_pos w1] at hT ⊢
    exact g_zret (pc := 133) rfl (by first | exact Or.inl rfl | exact Or.inr rfl | ((repeat' split) <;> first | exact Or.inl rfl | exact Or.inr rfl)) (dd d_Mod_isSign 3 rfl) hT
  · replace w1 : c = 41 := Int32.toInt_inj.mp w1
    have w1_33 : ¬ c = 33 := by rw [w1]; decide
    have w1_38 : ¬ c = 38 := by rw [w1]; decide
    have w1_40 : ¬ c = 40 := by rw [w1]; decide
    refine g_iconst (pc := 132) (v := 1) (dd d_Mod_isSign 2 rfl) (by decide) ?_
    try simp only [if_neg w1_33, if_neg w1_38, if_neg w1_40, if_pos w1] at hT ⊢
    exact g_zret (pc := 133) rfl (by first | exact Or.inl rfl | exact Or.inr rfl | ((repeat' split) <;> first | exact Or.inl rfl | exact Or.inr rfl)) (dd d_Mod_isSign 3 rfl) hT
  · replace w1 : c = 43 := Int32.toInt_inj.mp w1
    have w1_33 : ¬ c = 33 := by rw [w1]; decide
    have w1_38 : ¬ c = 38 := by rw [w1]; decide
    have w1_40 : ¬ c = 40 := by rw [w1]; decide
    have w1_41 : ¬ c = 41 := by rw [w1]; decide
    refine g_iconst (pc := 132) (v := 1) (dd d_Mod_isSign 2 rfl) (by decide) ?_
    try simp only [if_neg w1_33, if_neg w1_38, if_neg w1_40, if_neg w1_41, if_pos w1] at hT ⊢
    exact g_zret (pc := 133) rfl (by first | exact Or.inl rfl | exact Or.inr rfl | ((repeat' split) <;> first | exact Or.inl rfl | exact Or.inr rfl)) (dd d_Mod_isSign 3 rfl) hT
  · replace w1 : c = 44 := Int32.toInt_inj.mp w1
    have w1_33 : ¬ c = 33 := by rw [w1]; decide
    have w1_38 : ¬ c = 38 := by rw [w1]; decide
    have w1_40 : ¬ c = 40 := by rw [w1]; decide
    have w1_41 : ¬ c = 41 := by rw [w1]; decide
    have w1_43 : ¬ c = 43 := by rw [w1]; decide
    refine g_iconst (pc := 132) (v := 1) (dd d_Mod_isSign 2 rfl) (by decide) ?_
    try simp only [if_neg w1_33, if_neg w1_38, if_neg w1_40, if_neg w1_41, if_neg w1_43, if_pos w1] at hT ⊢
    exact g_zret (pc := 133) rfl (by first | exact Or.inl rfl | exact Or.inr rfl | ((repeat' split) <;> first | exact Or.inl rfl | exact Or.inr rfl)) (dd d_Mod_isSign 3 rfl) hT
  · replace w1 : c = 45 := Int32.toInt_inj.mp w1
    have w1_33 : ¬ c = 33 := by rw [w1]; decide
    have w1_38 : ¬ c = 38 := by rw [w1]; decide
    have w1_40 : ¬ c = 40 := by rw [w1]; decide
    have w1_41 : ¬ c = 41 := by rw [w1]; decide
    have w1_43 : ¬ c = 43 := by rw [w1]; decide
    have w1_44 : ¬ c = 44 := by rw [w1]; decide
    refine g_iconst (pc := 132) (v := 1) (dd d_Mod_isSign 2 rfl) (by decide) ?_
    try simp only [if_neg w1_33, if_neg w1_38, if_neg w1_40, if_neg w1_41, if_neg w1_43, if_neg w1_44, if_pos w1] at hT ⊢
    exact g_zret (pc := 133) rfl (by first | exact Or.inl rfl | exact Or.inr rfl | ((repeat' split) <;> first | exact Or.inl rfl | exact Or.inr rfl)) (dd d_Mod_isSign 3 rfl) hT
  · replace w1 : c = 58 := Int32.toInt_inj.mp w1
    have w1_33 : ¬ c = 33 := by rw [w1]; decide
    have w1_38 : ¬ c = 38 := by rw [w1]; decide
    have w1_40 : ¬ c = 40 := by rw [w1]; decide
    have w1_41 : ¬ c = 41 := by rw [w1]; decide
    have w1_43 : ¬ c = 43 := by rw [w1]; decide
    have w1_44 : ¬ c = 44 := by rw [w1]; decide
    have w1_45 : ¬ c = 45 := by rw [w1]; decide
    refine g_iconst (pc := 132) (v := 1) (dd d_Mod_isSign 2 rfl) (by decide) ?_
    try simp only [if_neg w1_33, if_neg w1_38, if_neg w1_40, if_neg w1_41, if_neg w1_43, if_neg w1_44, if_neg w1_45, if_pos w1] at hT ⊢
    exact g_zret (pc := 133) rfl (by first | exact Or.inl rfl | exact Or.inr rfl | ((repeat' split) <;> first | exact Or.inl rfl | exact Or.inr rfl)) (dd d_Mod_isSign 3 rfl) hT
  · replace w1 : c = 59 := Int32.toInt_inj.mp w1
    have w1_33 : ¬ c = 33 := by rw [w1]; decide
    have w1_38 : ¬ c = 38 := by rw [w1]; decide
    have w1_40 : ¬ c = 40 := by rw [w1]; decide
    have w1_41 : ¬ c = 41 := by rw [w1]; decide
    have w1_43 : ¬ c = 43 := by rw [w1]; decide
    have w1_44 : ¬ c = 44 := by rw [w1]; decide
    have w1_45 : ¬ c = 45 := by rw [w1]; decide
    have w1_58 : ¬ c = 58 := by rw [w1]; decide
    refine g_iconst (pc := 132) (v := 1) (dd d_Mod_isSign 2 rfl) (by decide) ?_
    try simp only [if_neg w1_33, if_neg w1_38, if_neg w1_40, if_neg w1_41, if_neg w1_43, if_neg w1_44, if_neg w1_45, if_neg w1_58, if_pos w1] at hT ⊢
    exact g_zret (pc := 133) rfl (by first | exact Or.inl rfl | exact Or.inr rfl | ((repeat' split) <;> first | exact Or.inl rfl | exact Or.inr rfl)) (dd d_Mod_isSign 3 rfl) hT
  · replace w1 : c = 60 := Int32.toInt_inj.mp w1
    have w1_33 : ¬ c = 33 := by rw [w1]; decide
    have w1_38 : ¬ c = 38 := by rw [w1]; decide
    have w1_40 : ¬ c = 40 := by rw [w1]; decide
    have w1_41 : ¬ c = 41 := by rw [w1]; decide
    have w1_43 : ¬ c = 43 := by rw [w1]; decide
    have w1_44 : ¬ c = 44 := by rw [w1]; decide
    have w1_45 : ¬ c = 45 := by rw [w1]; decide
    have w1_58 : ¬ c = 58 := by rw [w1]; decide
    have w1_59 : ¬ c = 59 := by rw [w1]; decide
    refine g_iconst (pc := 132) (v := 1) (dd d_Mod_isSign 2 rfl) (by decide) ?_
    try simp only [if_neg w1_33, if_neg w1_38, if_neg w1_40, if_neg w1_41, if_neg w1_43, if_neg w1_44, if_neg w1_45, if_neg w1_58, if_neg w1_59, if_pos w1] at hT ⊢
    exact g_zret (pc := 133) rfl (by first | exact Or.inl rfl | exact Or.inr rfl | ((repeat' split) <;> first | exact Or.inl rfl | exact Or.inr rfl)) (dd d_Mod_isSign 3 rfl) hT
  · replace w1 : c = 61 := Int32.toInt_inj.mp w1
    have w1_33 : ¬ c = 33 := by rw [w1]; decide
    have w1_38 : ¬ c = 38 := by rw [w1]; decide
    have w1_40 : ¬ c = 40 := by rw [w1]; decide
    have w1_41 : ¬ c = 41 := by rw [w1]; decide
    have w1_43 : ¬ c = 43 := by rw [w1]; decide
    have w1_44 : ¬ c = 44 := by rw [w1]; decide
    have w1_45 : ¬ c = 45 := by rw [w1]; decide
    have w1_58 : ¬ c = 58 := by rw [w1]; decide
    have w1_59 : ¬ c = 59 := by rw [w1]; decide
    have w1_60 : ¬ c = 60 := by rw [w1]; decide
    refine g_iconst (pc := 132) (v := 1) (dd d_Mod_isSign 2 rfl) (by decide) ?_
    try simp only [if_neg w1_33, if_neg w1_38, if_neg w1_40, if_neg w1_41, if_neg w1_43, if_neg w1_44, if_neg w1_45, if_neg w1_58, if_neg w1_59, if_neg w1_60, if_pos w1] at hT ⊢
    exact g_zret (pc := 133) rfl (by first | exact Or.inl rfl | exact Or.inr rfl | ((repeat' split) <;> first | exact Or.inl rfl | exact Or.inr rfl)) (dd d_Mod_isSign 3 rfl) hT
  · replace w1 : c = 63 := Int32.toInt_inj.mp w1
    have w1_33 : ¬ c = 33 := by rw [w1]; decide
    have w1_38 : ¬ c = 38 := by rw [w1]; decide
    have w1_40 : ¬ c = 40 := by rw [w1]; decide
    have w1_41 : ¬ c = 41 := by rw [w1]; decide
    have w1_43 : ¬ c = 43 := by rw [w1]; decide
    have w1_44 : ¬ c = 44 := by rw [w1]; decide
    have w1_45 : ¬ c = 45 := by rw [w1]; decide
    have w1_58 : ¬ c = 58 := by rw [w1]; decide
    have w1_59 : ¬ c = 59 := by rw [w1]; decide
    have w1_60 : ¬ c = 60 := by rw [w1]; decide
    have w1_61 : ¬ c = 61 := by rw [w1]; decide
    refine g_iconst (pc := 132) (v := 1) (dd d_Mod_isSign 2 rfl) (by decide) ?_
    try simp only [if_neg w1_33, if_neg w1_38, if_neg w1_40, if_neg w1_41, if_neg w1_43, if_neg w1_44, if_neg w1_45, if_neg w1_58, if_neg w1_59, if_neg w1_60, if_neg w1_61, if_pos w1] at hT ⊢
    exact g_zret (pc := 133) rfl (by first | exact Or.inl rfl | exact Or.inr rfl | ((repeat' split) <;> first | exact Or.inl rfl | exact Or.inr rfl)) (dd d_Mod_isSign 3 rfl) hT
  · replace w1 : c = 94 := Int32.toInt_inj.mp w1
    have w1_33 : ¬ c = 33 := by rw [w1]; decide
    have w1_38 : ¬ c = 38 := by rw [w1]; decide
    have w1_40 : ¬ c = 40 := by rw [w1]; decide
    have w1_41 : ¬ c = 41 := by rw [w1]; decide
    have w1_43 : ¬ c = 43 := by rw [w1]; decide
    have w1_44 : ¬ c = 44 := by rw [w1]; decide
    have w1_45 : ¬ c = 45 := by rw [w1]; decide
    have w1_58 : ¬ c = 58 := by rw [w1]; decide
    have w1_59 : ¬ c = 59 := by rw [w1]; decide
    have w1_60 : ¬ c = 60 := by rw [w1]; decide
    have w1_61 : ¬ c = 61 := by rw [w1]; decide
    have w1_63 : ¬ c = 63 := by rw [w1]; decide
    refine g_iconst (pc := 132) (v := 1) (dd d_Mod_isSign 2 rfl) (by decide) ?_
    try simp only [if_neg w1_33, if_neg w1_38, if_neg w1_40, if_neg w1_41, if_neg w1_43, if_neg w1_44, if_neg w1_45, if_neg w1_58, if_neg w1_59, if_neg w1_60, if_neg w1_61, if_neg w1_63, if_pos w1] at hT ⊢
    exact g_zret (pc := 133) rfl (by first | exact Or.inl rfl | exact Or.inr rfl | ((repeat' split) <;> first | exact Or.inl rfl | exact Or.inr rfl)) (dd d_Mod_isSign 3 rfl) hT
  · replace w1 : c = 124 := Int32.toInt_inj.mp w1
    have w1_33 : ¬ c = 33 := by rw [w1]; decide
    have w1_38 : ¬ c = 38 := by rw [w1]; decide
    have w1_40 : ¬ c = 40 := by rw [w1]; decide
    have w1_41 : ¬ c = 41 := by rw [w1]; decide
    have w1_43 : ¬ c = 43 := by rw [w1]; decide
    have w1_44 : ¬ c = 44 := by rw [w1]; decide
    have w1_45 : ¬ c = 45 := by rw [w1]; decide
    have w1_58 : ¬ c = 58 := by rw [w1]; decide
    have w1_59 : ¬ c = 59 := by rw [w1]; decide
    have w1_60 : ¬ c = 60 := by rw [w1]; decide
    have w1_61 : ¬ c = 61 := by rw [w1]; decide
    have w1_63 : ¬ c = 63 := by rw [w1]; decide
    have w1_94 : ¬ c = 94 := by rw [w1]; decide
    refine g_iconst (pc := 132) (v := 1) (dd d_Mod_isSign 2 rfl) (by decide) ?_
    try simp only [if_neg w1_33, if_neg w1_38, if_neg w1_40, if_neg w1_41, if_neg w1_43, if_neg w1_44, if_neg w1_45, if_neg w1_58, if_neg w1_59, if_neg w1_60, if_neg w1_61, if_neg w1_63, if_neg w1_94, if_pos w1] at hT ⊢
    exact g_zret (pc := 133) rfl (by first | exact Or.inl rfl | exact Or.inr rfl | ((repeat' split) <;> first | exact Or.inl rfl | exact Or.inr rfl)) (dd d_Mod_isSign 3 rfl) hT
  · replace w1 : c = 126 := Int32.toInt_inj.mp w1
    have w1_33 : ¬ c = 33 := by rw [w1]; decide
    have w1_38 : ¬ c = 38 := by rw [w1]; decide
    have w1_40 : ¬ c = 40 := by rw [w1]; decide
    have w1_41 : ¬ c = 41 := by rw [w1]; decide
    have w1_43 : ¬ c = 43 := by rw [w1]; decide
    have w1_44 : ¬ c = 44 := by rw [w1]; decide
    have w1_45 : ¬ c = 45 := by rw [w1]; decide
    have w1_58 : ¬ c = 58 := by rw [w1]; decide
    have w1_59 : ¬ c = 59 := by rw [w1]; decide
    have w1_60 : ¬ c = 60 := by rw [w1]; decide
    have w1_61 : ¬ c = 61 := by rw [w1]; decide
    have w1_63 : ¬ c = 63 := by rw [w1]; decide
    have w1_94 : ¬ c = 94 := by rw [w1]; decide
    have w1_124 : ¬ c = 124 := by rw [w1]; decide
    refine g_iconst (pc := 132) (v := 1) (dd d_Mod_isSign 2 rfl) (by decide) ?_
    try simp only [if_neg w1_33, if_neg w1_38, if_neg w1_40, if_neg w1_41, if_neg w1_43, if_neg w1_44, if_neg w1_45, if_neg w1_58, if_neg w1_59, if_neg w1_60, if_neg w1_61, if_neg w1_63, if_neg w1_94, if_neg w1_124, if_pos w1] at hT ⊢
    exact g_zret (pc := 133) rfl (by first | exact Or.inl rfl | exact Or.inr rfl | ((repeat' split) <;> first | exact Or.inl rfl | exact Or.inr rfl)) (dd d_Mod_isSign 3 rfl) hT
  · skip
    have w1_33 : ¬ c = 33 := fun e => w1 (33, 131) (by decide) (by rw [e]; rfl)
    have w1_38 : ¬ c = 38 := fun e => w1 (38, 131) (by decide) (by rw [e]; rfl)
    have w1_40 : ¬ c = 40 := fun e => w1 (40, 131) (by decide) (by rw [e]; rfl)
    have w1_41 : ¬ c = 41 := fun e => w1 (41, 131) (by decide) (by rw [e]; rfl)
    have w1_43 : ¬ c = 43 := fun e => w1 (43, 131) (by decide) (by rw [e]; rfl)
    have w1_44 : ¬ c = 44 := fun e => w1 (44, 131) (by decide) (by rw [e]; rfl)
    have w1_45 : ¬ c = 45 := fun e => w1 (45, 131) (by decide) (by rw [e]; rfl)
    have w1_58 : ¬ c = 58 := fun e => w1 (58, 131) (by decide) (by rw [e]; rfl)
    have w1_59 : ¬ c = 59 := fun e => w1 (59, 131) (by decide) (by rw [e]; rfl)
    have w1_60 : ¬ c = 60 := fun e => w1 (60, 131) (by decide) (by rw [e]; rfl)
    have w1_61 : ¬ c = 61 := fun e => w1 (61, 131) (by decide) (by rw [e]; rfl)
    have w1_63 : ¬ c = 63 := fun e => w1 (63, 131) (by decide) (by rw [e]; rfl)
    have w1_94 : ¬ c = 94 := fun e => w1 (94, 131) (by decide) (by rw [e]; rfl)
    have w1_124 : ¬ c = 124 := fun e => w1 (124, 131) (by decide) (by rw [e]; rfl)
    have w1_126 : ¬ c = 126 := fun e => w1 (126, 131) (by decide) (by rw [e]; rfl)
    refine g_iconst (pc := 134) (v := 0) (dd d_Mod_isSign 4 rfl) (by decide) ?_
    try simp only [if_neg w1_33, if_neg w1_38, if_neg w1_40, if_neg w1_41, if_neg w1_43, if_neg w1_44, if_neg w1_45, if_neg w1_58, if_neg w1_59, if_neg w1_60, if_neg w1_61, if_neg w1_63, if_neg w1_94, if_neg w1_124, if_neg w1_126] at hT ⊢
    exact g_zret (pc := 135) rfl (by first | exact Or.inl rfl | exact Or.inr rfl | ((repeat' split) <;> first | exact Or.inl rfl | exact Or.inr rfl)) (dd d_Mod_isSign 5 rfl) hT
set_option maxRecDepth 20000 in
set_option maxHeartbeats 4000000 in
theorem ev_Mod_isSum {Δ : Dx} {X : Lx} (hX : MX Δ X) (I : Nat → Nat → Int32) (w : Int32) : Ev Δ 0 m_Mod_isSum [.ref (Δ.ba + MO), .int w] (I, X) (some (.int (if w = (124 : Int32) then 1 else (if w = (38 : Int32) then 1 else (if w = (94 : Int32) then 1 else (if w = (43 : Int32) then 1 else (if w = (45 : Int32) then 1 else 0))))))) (I, X) := by
  refine ev_of (by decide) (Nat.le_of_ble_eq_true rfl) (fun Γ hk hR hT => ?_)
  refine g_iload_n (pc := 0) (dd d_Mod_isSum 0 rfl) rfl ?_
  refine g_bipush (pc := 1) (v := 124) (dd d_Mod_isSum 1 rfl) (by decide) ?_
  suffices K3 : GG Δ m_Mod_isSum Γ NN 0 0 (I, X) 35 [some (.ref (Δ.ba + MO)), some (.int (w))] [.int (if w = (124 : Int32) then 1 else (if w = (38 : Int32) then 1 else (if w = (94 : Int32) then 1 else (if w = (43 : Int32) then 1 else (if w = (45 : Int32) then 1 else 0)))))] by
    refine g_icmpeq (pc := 3) (tgt := 30) (dd d_Mod_isSum 2 rfl) (by decide) (fun q1 => ?_) (fun q1 => ?_)
    · have t1 := q1
      try simp only [e1x, e0x, i10, thrP, thrN, Classical.not_not, not_and, not_or, not_true_eq_false, not_false_eq_true, true_and, and_true, and_self, or_false, or_true, false_or, true_or, eq_self] at t1
      refine g_iconst (pc := 30) (v := 1) (dd d_Mod_isSum 15 rfl) (by decide) ?_
      refine g_goto (pc := 31) (tgt := 35) (dd d_Mod_isSum 16 rfl) (by decide) ?_
      simp only [if_pos q1] at K3 ⊢
      exact K3
    · have t1 := q1
      try simp only [e1x, e0x, i10, thrP, thrN, Classical.not_not, not_and, not_or, not_true_eq_false, not_false_eq_true, true_and, and_true, and_self, or_false, or_true, false_or, true_or, eq_self] at t1
      refine g_iload_n (pc := 6) (dd d_Mod_isSum 3 rfl) rfl ?_
      refine g_bipush (pc := 7) (v := 38) (dd d_Mod_isSum 4 rfl) (by decide) ?_
      suffices K9 : GG Δ m_Mod_isSum Γ NN 0 0 (I, X) 35 [some (.ref (Δ.ba + MO)), some (.int (w))] [.int (if w = (38 : Int32) then 1 else (if w = (94 : Int32) then 1 else (if w = (43 : Int32) then 1 else (if w = (45 : Int32) then 1 else 0))))] by
        refine g_icmpeq (pc := 9) (tgt := 30) (dd d_Mod_isSum 5 rfl) (by decide) (fun q2 => ?_) (fun q2 => ?_)
        · have t2 := q2
          try simp only [e1x, e0x, i10, thrP, thrN, Classical.not_not, not_and, not_or, not_true_eq_false, not_false_eq_true, true_and, and_true, and_self, or_false, or_true, false_or, true_or, eq_self] at t2
          refine g_iconst (pc := 30) (v := 1) (dd d_Mod_isSum 15 rfl) (by decide) ?_
          refine g_goto (pc := 31) (tgt := 35) (dd d_Mod_isSum 16 rfl) (by decide) ?_
          simp only [if_pos q2] at K9 ⊢
          exact K9
        · have t2 := q2
          try simp only [e1x, e0x, i10, thrP, thrN, Classical.not_not, not_and, not_or, not_true_eq_false, not_false_eq_true, true_and, and_true, and_self, or_false, or_true, false_or, true_or, eq_self] at t2
          refine g_iload_n (pc := 12) (dd d_Mod_isSum 6 rfl) rfl ?_
          refine g_bipush (pc := 13) (v := 94) (dd d_Mod_isSum 7 rfl) (by decide) ?_
          suffices K15 : GG Δ m_Mod_isSum Γ NN 0 0 (I, X) 35 [some (.ref (Δ.ba + MO)), some (.int (w))] [.int (if w = (94 : Int32) then 1 else (if w = (43 : Int32) then 1 else (if w = (45 : Int32) then 1 else 0)))] by
            refine g_icmpeq (pc := 15) (tgt := 30) (dd d_Mod_isSum 8 rfl) (by decide) (fun q3 => ?_) (fun q3 => ?_)
            · have t3 := q3
              try simp only [e1x, e0x, i10, thrP, thrN, Classical.not_not, not_and, not_or, not_true_eq_false, not_false_eq_true, true_and, and_true, and_self, or_false, or_true, false_or, true_or, eq_self] at t3
              refine g_iconst (pc := 30) (v := 1) (dd d_Mod_isSum 15 rfl) (by decide) ?_
              refine g_goto (pc := 31) (tgt := 35) (dd d_Mod_isSum 16 rfl) (by decide) ?_
              simp only [if_pos q3] at K15 ⊢
              exact K15
            · have t3 := q3
              try simp only [e1x, e0x, i10, thrP, thrN, Classical.not_not, not_and, not_or, not_true_eq_false, not_false_eq_true, true_and, and_true, and_self, or_false, or_true, false_or, true_or, eq_self] at t3
              refine g_iload_n (pc := 18) (dd d_Mod_isSum 9 rfl) rfl ?_
              refine g_bipush (pc := 19) (v := 43) (dd d_Mod_isSum 10 rfl) (by decide) ?_
              suffices K21 : GG Δ m_Mod_isSum Γ NN 0 0 (I, X) 35 [some (.ref (Δ.ba + MO)), some (.int (w))] [.int (if w = (43 : Int32) then 1 else (if w = (45 : Int32) then 1 else 0))] by
                refine g_icmpeq (pc := 21) (tgt := 30) (dd d_Mod_isSum 11 rfl) (by decide) (fun q4 => ?_) (fun q4 => ?_)
                · have t4 := q4
                  try simp only [e1x, e0x, i10, thrP, thrN, Classical.not_not, not_and, not_or, not_true_eq_false, not_false_eq_true, true_and, and_true, and_self, or_false, or_true, false_or, true_or, eq_self] at t4
                  refine g_iconst (pc := 30) (v := 1) (dd d_Mod_isSum 15 rfl) (by decide) ?_
                  refine g_goto (pc := 31) (tgt := 35) (dd d_Mod_isSum 16 rfl) (by decide) ?_
                  simp only [if_pos q4] at K21 ⊢
                  exact K21
                · have t4 := q4
                  try simp only [e1x, e0x, i10, thrP, thrN, Classical.not_not, not_and, not_or, not_true_eq_false, not_false_eq_true, true_and, and_true, and_self, or_false, or_true, false_or, true_or, eq_self] at t4
                  refine g_iload_n (pc := 24) (dd d_Mod_isSum 12 rfl) rfl ?_
                  refine g_bipush (pc := 25) (v := 45) (dd d_Mod_isSum 13 rfl) (by decide) ?_
                  suffices K27 : GG Δ m_Mod_isSum Γ NN 0 0 (I, X) 35 [some (.ref (Δ.ba + MO)), some (.int (w))] [.int (if w = (45 : Int32) then 1 else 0)] by
                    refine g_icmpne (pc := 27) (tgt := 34) (dd d_Mod_isSum 14 rfl) (by decide) (fun q5 => ?_) (fun q5 => ?_)
                    · have t5 := q5
                      try simp only [e1x, e0x, i10, thrP, thrN, Classical.not_not, not_and, not_or, not_true_eq_false, not_false_eq_true, true_and, and_true, and_self, or_false, or_true, false_or, true_or, eq_self] at t5
                      refine g_iconst (pc := 34) (v := 0) (dd d_Mod_isSum 17 rfl) (by decide) ?_
                      simp only [if_neg q5] at K27 ⊢
                      exact K27
                    · have t5 := q5
                      try simp only [e1x, e0x, i10, thrP, thrN, Classical.not_not, not_and, not_or, not_true_eq_false, not_false_eq_true, true_and, and_true, and_self, or_false, or_true, false_or, true_or, eq_self] at t5
                      refine g_iconst (pc := 30) (v := 1) (dd d_Mod_isSum 15 rfl) (by decide) ?_
                      refine g_goto (pc := 31) (tgt := 35) (dd d_Mod_isSum 16 rfl) (by decide) ?_
                      simp only [if_pos q5] at K27 ⊢
                      exact K27
                  simp only [if_neg q4] at K21 ⊢
                  exact K21
              simp only [if_neg q3] at K15 ⊢
              exact K15
          simp only [if_neg q2] at K9 ⊢
          exact K9
      simp only [if_neg q1] at K3 ⊢
      exact K3
  exact g_zret (pc := 35) rfl (by first | exact Or.inl rfl | exact Or.inr rfl | ((repeat' split) <;> first | exact Or.inl rfl | exact Or.inr rfl)) (dd d_Mod_isSum 18 rfl) hT
set_option maxRecDepth 20000 in
set_option maxHeartbeats 4000000 in
theorem ev_Mod_isCompared {Δ : Dx} {X : Lx} (hX : MX Δ X) (I : Nat → Nat → Int32) (w : Int32) : Ev Δ 0 m_Mod_isCompared [.ref (Δ.ba + MO), .int w] (I, X) (some (.int (if w = (202 : Int32) then 1 else (if w = (203 : Int32) then 1 else (if w = (60 : Int32) then 1 else (if w = (204 : Int32) then 1 else 0)))))) (I, X) := by
  refine ev_of (by decide) (Nat.le_of_ble_eq_true rfl) (fun Γ hk hR hT => ?_)
  refine g_iload_n (pc := 0) (dd d_Mod_isCompared 0 rfl) rfl ?_
  refine g_sipush (pc := 1) (v := 202) (dd d_Mod_isCompared 1 rfl) (by decide) ?_
  suffices K4 : GG Δ m_Mod_isCompared Γ NN 0 0 (I, X) 32 [some (.ref (Δ.ba + MO)), some (.int (w))] [.int (if w = (202 : Int32) then 1 else (if w = (203 : Int32) then 1 else (if w = (60 : Int32) then 1 else (if w = (204 : Int32) then 1 else 0))))] by
    refine g_icmpeq (pc := 4) (tgt := 27) (dd d_Mod_isCompared 2 rfl) (by decide) (fun q1 => ?_) (fun q1 => ?_)
    · have t1 := q1
      try simp only [e1x, e0x, i10, thrP, thrN, Classical.not_not, not_and, not_or, not_true_eq_false, not_false_eq_true, true_and, and_true, and_self, or_false, or_true, false_or, true_or, eq_self] at t1
      refine g_iconst (pc := 27) (v := 1) (dd d_Mod_isCompared 12 rfl) (by decide) ?_
      refine g_goto (pc := 28) (tgt := 32) (dd d_Mod_isCompared 13 rfl) (by decide) ?_
      simp only [if_pos q1] at K4 ⊢
      exact K4
    · have t1 := q1
      try simp only [e1x, e0x, i10, thrP, thrN, Classical.not_not, not_and, not_or, not_true_eq_false, not_false_eq_true, true_and, and_true, and_self, or_false, or_true, false_or, true_or, eq_self] at t1
      refine g_iload_n (pc := 7) (dd d_Mod_isCompared 3 rfl) rfl ?_
      refine g_sipush (pc := 8) (v := 203) (dd d_Mod_isCompared 4 rfl) (by decide) ?_
      suffices K11 : GG Δ m_Mod_isCompared Γ NN 0 0 (I, X) 32 [some (.ref (Δ.ba + MO)), some (.int (w))] [.int (if w = (203 : Int32) then 1 else (if w = (60 : Int32) then 1 else (if w = (204 : Int32) then 1 else 0)))] by
        refine g_icmpeq (pc := 11) (tgt := 27) (dd d_Mod_isCompared 5 rfl) (by decide) (fun q2 => ?_) (fun q2 => ?_)
        · have t2 := q2
          try simp only [e1x, e0x, i10, thrP, thrN, Classical.not_not, not_and, not_or, not_true_eq_false, not_false_eq_true, true_and, and_true, and_self, or_false, or_true, false_or, true_or, eq_self] at t2
          refine g_iconst (pc := 27) (v := 1) (dd d_Mod_isCompared 12 rfl) (by decide) ?_
          refine g_goto (pc := 28) (tgt := 32) (dd d_Mod_isCompared 13 rfl) (by decide) ?_
          simp only [if_pos q2] at K11 ⊢
          exact K11
        · have t2 := q2
          try simp only [e1x, e0x, i10, thrP, thrN, Classical.not_not, not_and, not_or, not_true_eq_false, not_false_eq_true, true_and, and_true, and_self, or_false, or_true, false_or, true_or, eq_self] at t2
          refine g_iload_n (pc := 14) (dd d_Mod_isCompared 6 rfl) rfl ?_
          refine g_bipush (pc := 15) (v := 60) (dd d_Mod_isCompared 7 rfl) (by decide) ?_
          suffices K17 : GG Δ m_Mod_isCompared Γ NN 0 0 (I, X) 32 [some (.ref (Δ.ba + MO)), some (.int (w))] [.int (if w = (60 : Int32) then 1 else (if w = (204 : Int32) then 1 else 0))] by
            refine g_icmpeq (pc := 17) (tgt := 27) (dd d_Mod_isCompared 8 rfl) (by decide) (fun q3 => ?_) (fun q3 => ?_)
            · have t3 := q3
              try simp only [e1x, e0x, i10, thrP, thrN, Classical.not_not, not_and, not_or, not_true_eq_false, not_false_eq_true, true_and, and_true, and_self, or_false, or_true, false_or, true_or, eq_self] at t3
              refine g_iconst (pc := 27) (v := 1) (dd d_Mod_isCompared 12 rfl) (by decide) ?_
              refine g_goto (pc := 28) (tgt := 32) (dd d_Mod_isCompared 13 rfl) (by decide) ?_
              simp only [if_pos q3] at K17 ⊢
              exact K17
            · have t3 := q3
              try simp only [e1x, e0x, i10, thrP, thrN, Classical.not_not, not_and, not_or, not_true_eq_false, not_false_eq_true, true_and, and_true, and_self, or_false, or_true, false_or, true_or, eq_self] at t3
              refine g_iload_n (pc := 20) (dd d_Mod_isCompared 9 rfl) rfl ?_
              refine g_sipush (pc := 21) (v := 204) (dd d_Mod_isCompared 10 rfl) (by decide) ?_
              suffices K24 : GG Δ m_Mod_isCompared Γ NN 0 0 (I, X) 32 [some (.ref (Δ.ba + MO)), some (.int (w))] [.int (if w = (204 : Int32) then 1 else 0)] by
                refine g_icmpne (pc := 24) (tgt := 31) (dd d_Mod_isCompared 11 rfl) (by decide) (fun q4 => ?_) (fun q4 => ?_)
                · have t4 := q4
                  try simp only [e1x, e0x, i10, thrP, thrN, Classical.not_not, not_and, not_or, not_true_eq_false, not_false_eq_true, true_and, and_true, and_self, or_false, or_true, false_or, true_or, eq_self] at t4
                  refine g_iconst (pc := 31) (v := 0) (dd d_Mod_isCompared 14 rfl) (by decide) ?_
                  simp only [if_neg q4] at K24 ⊢
                  exact K24
                · have t4 := q4
                  try simp only [e1x, e0x, i10, thrP, thrN, Classical.not_not, not_and, not_or, not_true_eq_false, not_false_eq_true, true_and, and_true, and_self, or_false, or_true, false_or, true_or, eq_self] at t4
                  refine g_iconst (pc := 27) (v := 1) (dd d_Mod_isCompared 12 rfl) (by decide) ?_
                  refine g_goto (pc := 28) (tgt := 32) (dd d_Mod_isCompared 13 rfl) (by decide) ?_
                  simp only [if_pos q4] at K24 ⊢
                  exact K24
              simp only [if_neg q3] at K17 ⊢
              exact K17
          simp only [if_neg q2] at K11 ⊢
          exact K11
      simp only [if_neg q1] at K4 ⊢
      exact K4
  exact g_zret (pc := 32) rfl (by first | exact Or.inl rfl | exact Or.inr rfl | ((repeat' split) <;> first | exact Or.inl rfl | exact Or.inr rfl)) (dd d_Mod_isCompared 15 rfl) hT
set_option maxRecDepth 20000 in
set_option maxHeartbeats 4000000 in
theorem ev_Mod_isUnary {Δ : Dx} {X : Lx} (hX : MX Δ X) (I : Nat → Nat → Int32) (w : Int32) : Ev Δ 0 m_Mod_isUnary [.ref (Δ.ba + MO), .int w] (I, X) (some (.int (if w = (33 : Int32) then 1 else (if w = (126 : Int32) then 1 else (if w = (301 : Int32) then 1 else 0))))) (I, X) := by
  refine ev_of (by decide) (Nat.le_of_ble_eq_true rfl) (fun Γ hk hR hT => ?_)
  refine g_iload_n (pc := 0) (dd d_Mod_isUnary 0 rfl) rfl ?_
  refine g_bipush (pc := 1) (v := 33) (dd d_Mod_isUnary 1 rfl) (by decide) ?_
  suffices K3 : GG Δ m_Mod_isUnary Γ NN 0 0 (I, X) 24 [some (.ref (Δ.ba + MO)), some (.int (w))] [.int (if w = (33 : Int32) then 1 else (if w = (126 : Int32) then 1 else (if w = (301 : Int32) then 1 else 0)))] by
    refine g_icmpeq (pc := 3) (tgt := 19) (dd d_Mod_isUnary 2 rfl) (by decide) (fun q1 => ?_) (fun q1 => ?_)
    · have t1 := q1
      try simp only [e1x, e0x, i10, thrP, thrN, Classical.not_not, not_and, not_or, not_true_eq_false, not_false_eq_true, true_and, and_true, and_self, or_false, or_true, false_or, true_or, eq_self] at t1
      refine g_iconst (pc := 19) (v := 1) (dd d_Mod_isUnary 9 rfl) (by decide) ?_
      refine g_goto (pc := 20) (tgt := 24) (dd d_Mod_isUnary 10 rfl) (by decide) ?_
      simp only [if_pos q1] at K3 ⊢
      exact K3
    · have t1 := q1
      try simp only [e1x, e0x, i10, thrP, thrN, Classical.not_not, not_and, not_or, not_true_eq_false, not_false_eq_true, true_and, and_true, and_self, or_false, or_true, false_or, true_or, eq_self] at t1
      refine g_iload_n (pc := 6) (dd d_Mod_isUnary 3 rfl) rfl ?_
      refine g_bipush (pc := 7) (v := 126) (dd d_Mod_isUnary 4 rfl) (by decide) ?_
      suffices K9 : GG Δ m_Mod_isUnary Γ NN 0 0 (I, X) 24 [some (.ref (Δ.ba + MO)), some (.int (w))] [.int (if w = (126 : Int32) then 1 else (if w = (301 : Int32) then 1 else 0))] by
        refine g_icmpeq (pc := 9) (tgt := 19) (dd d_Mod_isUnary 5 rfl) (by decide) (fun q2 => ?_) (fun q2 => ?_)
        · have t2 := q2
          try simp only [e1x, e0x, i10, thrP, thrN, Classical.not_not, not_and, not_or, not_true_eq_false, not_false_eq_true, true_and, and_true, and_self, or_false, or_true, false_or, true_or, eq_self] at t2
          refine g_iconst (pc := 19) (v := 1) (dd d_Mod_isUnary 9 rfl) (by decide) ?_
          refine g_goto (pc := 20) (tgt := 24) (dd d_Mod_isUnary 10 rfl) (by decide) ?_
          simp only [if_pos q2] at K9 ⊢
          exact K9
        · have t2 := q2
          try simp only [e1x, e0x, i10, thrP, thrN, Classical.not_not, not_and, not_or, not_true_eq_false, not_false_eq_true, true_and, and_true, and_self, or_false, or_true, false_or, true_or, eq_self] at t2
          refine g_iload_n (pc := 12) (dd d_Mod_isUnary 6 rfl) rfl ?_
          refine g_sipush (pc := 13) (v := 301) (dd d_Mod_isUnary 7 rfl) (by decide) ?_
          suffices K16 : GG Δ m_Mod_isUnary Γ NN 0 0 (I, X) 24 [some (.ref (Δ.ba + MO)), some (.int (w))] [.int (if w = (301 : Int32) then 1 else 0)] by
            refine g_icmpne (pc := 16) (tgt := 23) (dd d_Mod_isUnary 8 rfl) (by decide) (fun q3 => ?_) (fun q3 => ?_)
            · have t3 := q3
              try simp only [e1x, e0x, i10, thrP, thrN, Classical.not_not, not_and, not_or, not_true_eq_false, not_false_eq_true, true_and, and_true, and_self, or_false, or_true, false_or, true_or, eq_self] at t3
              refine g_iconst (pc := 23) (v := 0) (dd d_Mod_isUnary 11 rfl) (by decide) ?_
              simp only [if_neg q3] at K16 ⊢
              exact K16
            · have t3 := q3
              try simp only [e1x, e0x, i10, thrP, thrN, Classical.not_not, not_and, not_or, not_true_eq_false, not_false_eq_true, true_and, and_true, and_self, or_false, or_true, false_or, true_or, eq_self] at t3
              refine g_iconst (pc := 19) (v := 1) (dd d_Mod_isUnary 9 rfl) (by decide) ?_
              refine g_goto (pc := 20) (tgt := 24) (dd d_Mod_isUnary 10 rfl) (by decide) ?_
              simp only [if_pos q3] at K16 ⊢
              exact K16
          simp only [if_neg q2] at K9 ⊢
          exact K9
      simp only [if_neg q1] at K3 ⊢
      exact K3
  exact g_zret (pc := 24) rfl (by first | exact Or.inl rfl | exact Or.inr rfl | ((repeat' split) <;> first | exact Or.inl rfl | exact Or.inr rfl)) (dd d_Mod_isUnary 12 rfl) hT
set_option maxRecDepth 20000 in
set_option maxHeartbeats 4000000 in
theorem ev_Mod_topOf {Δ : Dx} {X : Lx} (hX : MX Δ X) (I : Nat → Nat → Int32) (h290 : 0 ≤ (I MO 29).toInt) (h291 : (I MO 29).toInt ≤ 1000) : Ev Δ 0 m_Mod_topOf [.ref (Δ.ba + MO)] (I, X) (some (.int (if (I MO 29 : Int32) = 0 then (-1) else (I A_pile ((I MO 29) - (1) : Int32).toNatClampNeg)))) (I, X) := by
  refine ev_of (by decide) (Nat.le_of_ble_eq_true rfl) (fun Γ hk hR hT => ?_)
  refine g_aload_n (pc := 0) (dd d_Mod_topOf 0 rfl) rfl ?_
  refine g_geti (pc := 1) (dd d_Mod_topOf 1 rfl) f_Mod_298 ob_MO rfl ?_
  suffices K4 : GG Δ m_Mod_topOf Γ NN 0 0 (I, X) 22 [some (.ref (Δ.ba + MO))] [.int (if (I MO 29 : Int32) = 0 then (-1) else (I A_pile ((I MO 29) - (1) : Int32).toNatClampNeg))] by
    refine g_ifne (pc := 4) (tgt := 11) (dd d_Mod_topOf 2 rfl) (by decide) (fun q1 => ?_) (fun q1 => ?_)
    · have t1 := q1
      try simp only [e1x, e0x, i10, thrP, thrN, Classical.not_not, not_and, not_or, not_true_eq_false, not_false_eq_true, true_and, and_true, and_self, or_false, or_true, false_or, true_or, eq_self] at t1
      refine g_aload_n (pc := 11) (dd d_Mod_topOf 5 rfl) rfl ?_
      refine g_getr (pc := 12) (dd d_Mod_topOf 6 rfl) f_Mod_50 ob_MO rfl (mr_pile hX) ?_
      refine g_aload_n (pc := 15) (dd d_Mod_topOf 7 rfl) rfl ?_
      refine g_geti (pc := 16) (dd d_Mod_topOf 8 rfl) f_Mod_298 ob_MO rfl ?_
      refine g_iconst (pc := 19) (v := 1) (dd d_Mod_topOf 9 rfl) (by decide) ?_
      refine g_isub (pc := 20) (dd d_Mod_topOf 10 rfl) ?_
      refine g_iald (pc := 21) (dd d_Mod_topOf 11 rfl) ar_A_pile (by first | assumption | (subst_vars; rw [vp_in_iff]; (try simp (decide := true) only [up_o, up_s, if_true, if_false] at t1 ⊢); (try simp only [← Int32.toInt_inj, Int32.lt_iff_toInt_lt, Int32.le_iff_toInt_le, Int32.reduceToInt] at t1 ⊢); first | omega | (simp only [Int32.toInt_add, Int32.toInt_sub, Int32.toInt_mul, Int32.reduceToInt, Int.bmod_def] at t1 ⊢; (repeat' split) <;> omega))) ?_
      simp only [if_neg q1] at K4 ⊢
      exact K4
    · have t1 := q1
      try simp only [e1x, e0x, i10, thrP, thrN, Classical.not_not, not_and, not_or, not_true_eq_false, not_false_eq_true, true_and, and_true, and_self, or_false, or_true, false_or, true_or, eq_self] at t1
      refine g_iconst (pc := 7) (v := (-1)) (dd d_Mod_topOf 3 rfl) (by decide) ?_
      refine g_goto (pc := 8) (tgt := 22) (dd d_Mod_topOf 4 rfl) (by decide) ?_
      simp only [if_pos q1] at K4 ⊢
      exact K4
  exact g_iret (pc := 22) rfl (dd d_Mod_topOf 12 rfl) hT
set_option maxRecDepth 20000 in
set_option maxHeartbeats 4000000 in
theorem ev_Mod_emit {Δ : Dx} {X : Lx} (hX : MX Δ X) (I : Nat → Nat → Int32) (c v : Int32) (h150 : 0 ≤ (I MO 15).toInt) (h151 : (I MO 15).toInt ≤ 1999) : Ev Δ 0 m_Mod_emit [.ref (Δ.ba + MO), .int c, .int v] (I, X) (none) ((up (up (up I A_code0 (I MO 15 : Int32).toNatClampNeg (c)) A_codeValue ((up I A_code0 (I MO 15 : Int32).toNatClampNeg (c)) MO 15 : Int32).toNatClampNeg (v)) MO 15 (((up (up I A_code0 (I MO 15 : Int32).toNatClampNeg (c)) A_codeValue ((up I A_code0 (I MO 15 : Int32).toNatClampNeg (c)) MO 15 : Int32).toNatClampNeg (v)) MO 15) + (1))), X) := by
  refine ev_of (by decide) (Nat.le_of_ble_eq_true rfl) (fun Γ hk hR hT => ?_)
  refine g_aload_n (pc := 0) (dd d_Mod_emit 0 rfl) rfl ?_
  refine g_getr (pc := 1) (dd d_Mod_emit 1 rfl) f_Mod_20 ob_MO rfl (mr_code0 hX) ?_
  refine g_aload_n (pc := 4) (dd d_Mod_emit 2 rfl) rfl ?_
  refine g_geti (pc := 5) (dd d_Mod_emit 3 rfl) f_Mod_292 ob_MO rfl ?_
  refine g_iload_n (pc := 8) (dd d_Mod_emit 4 rfl) rfl ?_
  refine g_iastN (pc := 9) (dd d_Mod_emit 5 rfl) ar_A_code0 (by first | assumption | (subst_vars; rw [vp_in_iff]; (try simp (decide := true) only [up_o, up_s, if_true, if_false] at  ⊢); (try simp only [← Int32.toInt_inj, Int32.lt_iff_toInt_lt, Int32.le_iff_toInt_le, Int32.reduceToInt] at  ⊢); first | omega | (simp only [Int32.toInt_add, Int32.toInt_sub, Int32.toInt_mul, Int32.reduceToInt, Int.bmod_def] at  ⊢; (repeat' split) <;> omega))) (fun I1 hI1 => ?_)
  refine g_aload_n (pc := 10) (dd d_Mod_emit 6 rfl) rfl ?_
  refine g_getr (pc := 11) (dd d_Mod_emit 7 rfl) f_Mod_23 ob_MO rfl (mr_codeValue hX) ?_
  refine g_aload_n (pc := 14) (dd d_Mod_emit 8 rfl) rfl ?_
  refine g_geti (pc := 15) (dd d_Mod_emit 9 rfl) f_Mod_292 ob_MO rfl ?_
  refine g_iload_n (pc := 18) (dd d_Mod_emit 10 rfl) rfl ?_
  refine g_iastN (pc := 19) (dd d_Mod_emit 11 rfl) ar_A_codeValue (by first | assumption | (subst_vars; rw [vp_in_iff]; (try simp (decide := true) only [up_o, up_s, if_true, if_false] at  ⊢); (try simp only [← Int32.toInt_inj, Int32.lt_iff_toInt_lt, Int32.le_iff_toInt_le, Int32.reduceToInt] at  ⊢); first | omega | (simp only [Int32.toInt_add, Int32.toInt_sub, Int32.toInt_mul, Int32.reduceToInt, Int.bmod_def] at  ⊢; (repeat' split) <;> omega))) (fun I2 hI2 => ?_)
  refine g_aload_n (pc := 20) (dd d_Mod_emit 12 rfl) rfl ?_
  refine g_dup (pc := 21) (dd d_Mod_emit 13 rfl) rfl ?_
  refine g_geti (pc := 22) (dd d_Mod_emit 14 rfl) f_Mod_292 ob_MO rfl ?_
  refine g_iconst (pc := 25) (v := 1) (dd d_Mod_emit 15 rfl) (by decide) ?_
  refine g_iadd (pc := 26) (dd d_Mod_emit 16 rfl) ?_
  refine g_putiN (pc := 27) (dd d_Mod_emit 17 rfl) f_Mod_292 fm_Mod_15 ob_MO rfl (fun I3 hI3 => ?_)
  subst hI3 hI2 hI1
  exact g_vret (pc := 30) rfl (dd d_Mod_emit 18 rfl) hT
set_option maxRecDepth 20000 in
set_option maxHeartbeats 4000000 in
theorem ev_Mod_push {Δ : Dx} {X : Lx} (hX : MX Δ X) (I : Nat → Nat → Int32) (w p o : Int32) (h290 : 0 ≤ (I MO 29).toInt) (h291 : (I MO 29).toInt ≤ 999) : Ev Δ 1 m_Mod_push [.ref (Δ.ba + MO), .int w, .int p, .int o] (I, X) (none) (if o = 0 then ((up (up (up (up I MO 28 (if o = 0 then (I MO 28) else ((I MO 28) + (1)))) A_pile ((up I MO 28 (if o = 0 then (I MO 28) else ((I MO 28) + (1)))) MO 29 : Int32).toNatClampNeg (w)) A_pileAt ((up (up I MO 28 (if o = 0 then (I MO 28) else ((I MO 28) + (1)))) A_pile ((up I MO 28 (if o = 0 then (I MO 28) else ((I MO 28) + (1)))) MO 29 : Int32).toNatClampNeg (w)) MO 29 : Int32).toNatClampNeg (p)) MO 29 (((up (up (up I MO 28 (if o = 0 then (I MO 28) else ((I MO 28) + (1)))) A_pile ((up I MO 28 (if o = 0 then (I MO 28) else ((I MO 28) + (1)))) MO 29 : Int32).toNatClampNeg (w)) A_pileAt ((up (up I MO 28 (if o = 0 then (I MO 28) else ((I MO 28) + (1)))) A_pile ((up I MO 28 (if o = 0 then (I MO 28) else ((I MO 28) + (1)))) MO 29 : Int32).toNatClampNeg (w)) MO 29 : Int32).toNatClampNeg (p)) MO 29) + (1))), X) else (if (I MO 28 : Int32) = (10 : Int32) then ((mFail I), X) else ((up (up (up (up I MO 28 (if o = 0 then (I MO 28) else ((I MO 28) + (1)))) A_pile ((up I MO 28 (if o = 0 then (I MO 28) else ((I MO 28) + (1)))) MO 29 : Int32).toNatClampNeg (w)) A_pileAt ((up (up I MO 28 (if o = 0 then (I MO 28) else ((I MO 28) + (1)))) A_pile ((up I MO 28 (if o = 0 then (I MO 28) else ((I MO 28) + (1)))) MO 29 : Int32).toNatClampNeg (w)) MO 29 : Int32).toNatClampNeg (p)) MO 29 (((up (up (up I MO 28 (if o = 0 then (I MO 28) else ((I MO 28) + (1)))) A_pile ((up I MO 28 (if o = 0 then (I MO 28) else ((I MO 28) + (1)))) MO 29 : Int32).toNatClampNeg (w)) A_pileAt ((up (up I MO 28 (if o = 0 then (I MO 28) else ((I MO 28) + (1)))) A_pile ((up I MO 28 (if o = 0 then (I MO 28) else ((I MO 28) + (1)))) MO 29 : Int32).toNatClampNeg (w)) MO 29 : Int32).toNatClampNeg (p)) MO 29) + (1))), X))) := by
  refine ev_of (by decide) (Nat.le_of_ble_eq_true rfl) (fun Γ hk hR hT => ?_)
  refine g_iload_n (pc := 0) (dd d_Mod_push 0 rfl) rfl ?_
  refine g_ifeq (pc := 1) (tgt := 18) (dd d_Mod_push 1 rfl) (by decide) (fun q1 => ?_) (fun q1 => ?_)
  · have t1 := q1
    try simp only [e1x, e0x, i10, thrP, thrN, Classical.not_not, not_and, not_or, not_true_eq_false, not_false_eq_true, true_and, and_true, and_self, or_false, or_true, false_or, true_or, eq_self] at t1
    refine g_aload_n (pc := 18) (dd d_Mod_push 9 rfl) rfl ?_
    refine g_iload_n (pc := 19) (dd d_Mod_push 10 rfl) rfl ?_
    suffices K20 : GG Δ m_Mod_push Γ NN 0 0 (I, X) 36 [some (.ref (Δ.ba + MO)), some (.int (w)), some (.int (p)), some (.int (o))] [.int (if o = 0 then (I MO 28) else ((I MO 28) + (1))), .ref (Δ.ba + MO)] by
      refine g_ifeq (pc := 20) (tgt := 32) (dd d_Mod_push 11 rfl) (by decide) (fun q2 => ?_) (fun q2 => ?_)
      · have t2 := q2
        try simp only [e1x, e0x, i10, thrP, thrN, Classical.not_not, not_and, not_or, not_true_eq_false, not_false_eq_true, true_and, and_true, and_self, or_false, or_true, false_or, true_or, eq_self] at t2
        refine g_aload_n (pc := 32) (dd d_Mod_push 17 rfl) rfl ?_
        refine g_geti (pc := 33) (dd d_Mod_push 18 rfl) f_Mod_295 ob_MO rfl ?_
        simp only [if_pos q2] at K20 ⊢
        exact K20
      · have t2 := q2
        try simp only [e1x, e0x, i10, thrP, thrN, Classical.not_not, not_and, not_or, not_true_eq_false, not_false_eq_true, true_and, and_true, and_self, or_false, or_true, false_or, true_or, eq_self] at t2
        refine g_aload_n (pc := 23) (dd d_Mod_push 12 rfl) rfl ?_
        refine g_geti (pc := 24) (dd d_Mod_push 13 rfl) f_Mod_295 ob_MO rfl ?_
        refine g_iconst (pc := 27) (v := 1) (dd d_Mod_push 14 rfl) (by decide) ?_
        refine g_iadd (pc := 28) (dd d_Mod_push 15 rfl) ?_
        refine g_goto (pc := 29) (tgt := 36) (dd d_Mod_push 16 rfl) (by decide) ?_
        simp only [if_neg q2] at K20 ⊢
        exact K20
    refine g_putiN (pc := 36) (dd d_Mod_push 19 rfl) f_Mod_295 fm_Mod_28 ob_MO rfl (fun I1 hI1 => ?_)
    refine g_aload_n (pc := 39) (dd d_Mod_push 20 rfl) rfl ?_
    refine g_getr (pc := 40) (dd d_Mod_push 21 rfl) f_Mod_50 ob_MO rfl (mr_pile hX) ?_
    refine g_aload_n (pc := 43) (dd d_Mod_push 22 rfl) rfl ?_
    refine g_geti (pc := 44) (dd d_Mod_push 23 rfl) f_Mod_298 ob_MO rfl ?_
    refine g_iload_n (pc := 47) (dd d_Mod_push 24 rfl) rfl ?_
    refine g_iastN (pc := 48) (dd d_Mod_push 25 rfl) ar_A_pile (by first | assumption | (subst_vars; rw [vp_in_iff]; (try simp (decide := true) only [up_o, up_s, if_true, if_false] at t1 ⊢); (try simp only [← Int32.toInt_inj, Int32.lt_iff_toInt_lt, Int32.le_iff_toInt_le, Int32.reduceToInt] at t1 ⊢); first | omega | (simp only [Int32.toInt_add, Int32.toInt_sub, Int32.toInt_mul, Int32.reduceToInt, Int.bmod_def] at t1 ⊢; (repeat' split) <;> omega))) (fun I2 hI2 => ?_)
    refine g_aload_n (pc := 49) (dd d_Mod_push 26 rfl) rfl ?_
    refine g_getr (pc := 50) (dd d_Mod_push 27 rfl) f_Mod_53 ob_MO rfl (mr_pileAt hX) ?_
    refine g_aload_n (pc := 53) (dd d_Mod_push 28 rfl) rfl ?_
    refine g_geti (pc := 54) (dd d_Mod_push 29 rfl) f_Mod_298 ob_MO rfl ?_
    refine g_iload_n (pc := 57) (dd d_Mod_push 30 rfl) rfl ?_
    refine g_iastN (pc := 58) (dd d_Mod_push 31 rfl) ar_A_pileAt (by first | assumption | (subst_vars; rw [vp_in_iff]; (try simp (decide := true) only [up_o, up_s, if_true, if_false] at t1 ⊢); (try simp only [← Int32.toInt_inj, Int32.lt_iff_toInt_lt, Int32.le_iff_toInt_le, Int32.reduceToInt] at t1 ⊢); first | omega | (simp only [Int32.toInt_add, Int32.toInt_sub, Int32.toInt_mul, Int32.reduceToInt, Int.bmod_def] at t1 ⊢; (repeat' split) <;> omega))) (fun I3 hI3 => ?_)
    refine g_aload_n (pc := 59) (dd d_Mod_push 32 rfl) rfl ?_
    refine g_dup (pc := 60) (dd d_Mod_push 33 rfl) rfl ?_
    refine g_geti (pc := 61) (dd d_Mod_push 34 rfl) f_Mod_298 ob_MO rfl ?_
    refine g_iconst (pc := 64) (v := 1) (dd d_Mod_push 35 rfl) (by decide) ?_
    refine g_iadd (pc := 65) (dd d_Mod_push 36 rfl) ?_
    refine g_putiN (pc := 66) (dd d_Mod_push 37 rfl) f_Mod_298 fm_Mod_29 ob_MO rfl (fun I4 hI4 => ?_)
    subst hI4 hI3 hI2 hI1
    try simp only [if_pos q1] at hT ⊢
    exact g_vret (pc := 69) rfl (dd d_Mod_push 38 rfl) hT
  · have t1 := q1
    try simp only [e1x, e0x, i10, thrP, thrN, Classical.not_not, not_and, not_or, not_true_eq_false, not_false_eq_true, true_and, and_true, and_self, or_false, or_true, false_or, true_or, eq_self] at t1
    refine g_aload_n (pc := 4) (dd d_Mod_push 2 rfl) rfl ?_
    refine g_geti (pc := 5) (dd d_Mod_push 3 rfl) f_Mod_295 ob_MO rfl ?_
    refine g_bipush (pc := 8) (v := 10) (dd d_Mod_push 4 rfl) (by decide) ?_
    refine g_icmpne (pc := 10) (tgt := 18) (dd d_Mod_push 5 rfl) (by decide) (fun q3 => ?_) (fun q3 => ?_)
    · have t3 := q3
      try simp only [e1x, e0x, i10, thrP, thrN, Classical.not_not, not_and, not_or, not_true_eq_false, not_false_eq_true, true_and, and_true, and_self, or_false, or_true, false_or, true_or, eq_self] at t3
      refine g_aload_n (pc := 18) (dd d_Mod_push 9 rfl) rfl ?_
      refine g_iload_n (pc := 19) (dd d_Mod_push 10 rfl) rfl ?_
      suffices K20 : GG Δ m_Mod_push Γ NN 0 0 (I, X) 36 [some (.ref (Δ.ba + MO)), some (.int (w)), some (.int (p)), some (.int (o))] [.int (if o = 0 then (I MO 28) else ((I MO 28) + (1))), .ref (Δ.ba + MO)] by
        refine g_ifeq (pc := 20) (tgt := 32) (dd d_Mod_push 11 rfl) (by decide) (fun q4 => ?_) (fun q4 => ?_)
        · have t4 := q4
          try simp only [e1x, e0x, i10, thrP, thrN, Classical.not_not, not_and, not_or, not_true_eq_false, not_false_eq_true, true_and, and_true, and_self, or_false, or_true, false_or, true_or, eq_self] at t4
          refine g_aload_n (pc := 32) (dd d_Mod_push 17 rfl) rfl ?_
          refine g_geti (pc := 33) (dd d_Mod_push 18 rfl) f_Mod_295 ob_MO rfl ?_
          simp only [if_pos q4] at K20 ⊢
          exact K20
        · have t4 := q4
          try simp only [e1x, e0x, i10, thrP, thrN, Classical.not_not, not_and, not_or, not_true_eq_false, not_false_eq_true, true_and, and_true, and_self, or_false, or_true, false_or, true_or, eq_self] at t4
          refine g_aload_n (pc := 23) (dd d_Mod_push 12 rfl) rfl ?_
          refine g_geti (pc := 24) (dd d_Mod_push 13 rfl) f_Mod_295 ob_MO rfl ?_
          refine g_iconst (pc := 27) (v := 1) (dd d_Mod_push 14 rfl) (by decide) ?_
          refine g_iadd (pc := 28) (dd d_Mod_push 15 rfl) ?_
          refine g_goto (pc := 29) (tgt := 36) (dd d_Mod_push 16 rfl) (by decide) ?_
          simp only [if_neg q4] at K20 ⊢
          exact K20
      refine g_putiN (pc := 36) (dd d_Mod_push 19 rfl) f_Mod_295 fm_Mod_28 ob_MO rfl (fun I5 hI5 => ?_)
      refine g_aload_n (pc := 39) (dd d_Mod_push 20 rfl) rfl ?_
      refine g_getr (pc := 40) (dd d_Mod_push 21 rfl) f_Mod_50 ob_MO rfl (mr_pile hX) ?_
      refine g_aload_n (pc := 43) (dd d_Mod_push 22 rfl) rfl ?_
      refine g_geti (pc := 44) (dd d_Mod_push 23 rfl) f_Mod_298 ob_MO rfl ?_
      refine g_iload_n (pc := 47) (dd d_Mod_push 24 rfl) rfl ?_
      refine g_iastN (pc := 48) (dd d_Mod_push 25 rfl) ar_A_pile (by first | assumption | (subst_vars; rw [vp_in_iff]; (try simp (decide := true) only [up_o, up_s, if_true, if_false] at t1 t3 ⊢); (try simp only [← Int32.toInt_inj, Int32.lt_iff_toInt_lt, Int32.le_iff_toInt_le, Int32.reduceToInt] at t1 t3 ⊢); first | omega | (simp only [Int32.toInt_add, Int32.toInt_sub, Int32.toInt_mul, Int32.reduceToInt, Int.bmod_def] at t1 t3 ⊢; (repeat' split) <;> omega))) (fun I6 hI6 => ?_)
      refine g_aload_n (pc := 49) (dd d_Mod_push 26 rfl) rfl ?_
      refine g_getr (pc := 50) (dd d_Mod_push 27 rfl) f_Mod_53 ob_MO rfl (mr_pileAt hX) ?_
      refine g_aload_n (pc := 53) (dd d_Mod_push 28 rfl) rfl ?_
      refine g_geti (pc := 54) (dd d_Mod_push 29 rfl) f_Mod_298 ob_MO rfl ?_
      refine g_iload_n (pc := 57) (dd d_Mod_push 30 rfl) rfl ?_
      refine g_iastN (pc := 58) (dd d_Mod_push 31 rfl) ar_A_pileAt (by first | assumption | (subst_vars; rw [vp_in_iff]; (try simp (decide := true) only [up_o, up_s, if_true, if_false] at t1 t3 ⊢); (try simp only [← Int32.toInt_inj, Int32.lt_iff_toInt_lt, Int32.le_iff_toInt_le, Int32.reduceToInt] at t1 t3 ⊢); first | omega | (simp only [Int32.toInt_add, Int32.toInt_sub, Int32.toInt_mul, Int32.reduceToInt, Int.bmod_def] at t1 t3 ⊢; (repeat' split) <;> omega))) (fun I7 hI7 => ?_)
      refine g_aload_n (pc := 59) (dd d_Mod_push 32 rfl) rfl ?_
      refine g_dup (pc := 60) (dd d_Mod_push 33 rfl) rfl ?_
      refine g_geti (pc := 61) (dd d_Mod_push 34 rfl) f_Mod_298 ob_MO rfl ?_
      refine g_iconst (pc := 64) (v := 1) (dd d_Mod_push 35 rfl) (by decide) ?_
      refine g_iadd (pc := 65) (dd d_Mod_push 36 rfl) ?_
      refine g_putiN (pc := 66) (dd d_Mod_push 37 rfl) f_Mod_298 fm_Mod_29 ob_MO rfl (fun I8 hI8 => ?_)
      subst hI8 hI7 hI6 hI5
      try simp only [if_neg q1, if_neg q3] at hT ⊢
      exact g_vret (pc := 69) rfl (dd d_Mod_push 38 rfl) hT
    · have t3 := q3
      try simp only [e1x, e0x, i10, thrP, thrN, Classical.not_not, not_and, not_or, not_true_eq_false, not_false_eq_true, true_and, and_true, and_self, or_false, or_true, false_or, true_or, eq_self] at t3
      refine g_aload_n (pc := 13) (dd d_Mod_push 6 rfl) rfl ?_
      refine g_callV (pc := 14) (dd d_Mod_push 7 rfl) v_Mod_286 ob_MO rfl (ev_Mod_fail hX _) rfl (by rw [hk]; decide) (Nat.le_of_ble_eq_true rfl) ⟨Nat.zero_le _, Nat.zero_le _⟩ rfl ?_
      obtain ⟨I9, hI9⟩ : ∃ z, z = mFail I := ⟨_, rfl⟩
      rw [← hI9]
      subst hI9
      try simp only [if_neg q1, if_pos q3] at hT ⊢
      exact g_vret (pc := 17) rfl (dd d_Mod_push 8 rfl) hT
theorem pair_in {v q : Int32} (h1 : ¬ v < 1000000) (h2 : ¬ q ≤ v - 1000000) (hq : q.toInt ≤ 60) : vp_in (v - 1000000) 60 := by
  have b1 := Int32.toInt_lt v
  have b2 : (v - 1000000).toInt = v.toInt - 1000000 := by
    simp only [Int32.lt_iff_toInt_lt, Int32.reduceToInt] at h1
    rw [Int32.toInt_sub]
    simp only [Int32.reduceToInt]
    rw [Int.bmod_def]
    split <;> omega
  rw [vp_in_iff]
  simp only [Int32.lt_iff_toInt_lt, Int32.le_iff_toInt_le, Int32.reduceToInt, b2] at *
  omega
set_option maxRecDepth 20000 in
set_option maxHeartbeats 4000000 in
theorem ev_Mod_part {Δ : Dx} {X : Lx} (hX : MX Δ X) (I : Nat → Nat → Int32) (v f : Int32) (h550 : 0 ≤ (I MO 55).toInt) (h551 : (I MO 55).toInt ≤ 60) : Ev Δ 0 m_Mod_part [.ref (Δ.ba + MO), .int v, .int f] (I, X) (some (.int (if (if v < (1000000 : Int32) then 0 else (if (I MO 55 : Int32) ≤ ((v) - (1000000) : Int32) then 0 else 1) : Int32) = 0 then (if f = 0 then 0 else v) else (if f = 0 then (I A_seconds ((v) - (1000000) : Int32).toNatClampNeg) else (I A_firsts ((v) - (1000000) : Int32).toNatClampNeg))))) (I, X) := by
  refine ev_of (by decide) (Nat.le_of_ble_eq_true rfl) (fun Γ hk hR hT => ?_)
  refine g_iload_n (pc := 0) (dd d_Mod_part 0 rfl) rfl ?_
  refine g_ldcw (pc := 1) (dd d_Mod_part 1 rfl) c_Mod_513 ?_
  suffices K4 : GG Δ m_Mod_part Γ NN 0 0 (I, X) 24 [some (.ref (Δ.ba + MO)), some (.int (v)), some (.int (f)), none] [.int (if v < (1000000 : Int32) then 0 else (if (I MO 55 : Int32) ≤ ((v) - (1000000) : Int32) then 0 else 1))] by
    refine g_icmplt (pc := 4) (tgt := 23) (dd d_Mod_part 2 rfl) (by decide) (fun q1 => ?_) (fun q1 => ?_)
    · have t1 := q1
      try simp only [e1x, e0x, i10, thrP, thrN, Classical.not_not, not_and, not_or, not_true_eq_false, not_false_eq_true, true_and, and_true, and_self, or_false, or_true, false_or, true_or, eq_self] at t1
      refine g_iconst (pc := 23) (v := 0) (dd d_Mod_part 11 rfl) (by decide) ?_
      simp only [if_pos q1] at K4 ⊢
      exact K4
    · have t1 := q1
      try simp only [e1x, e0x, i10, thrP, thrN, Classical.not_not, not_and, not_or, not_true_eq_false, not_false_eq_true, true_and, and_true, and_self, or_false, or_true, false_or, true_or, eq_self] at t1
      refine g_iload_n (pc := 7) (dd d_Mod_part 3 rfl) rfl ?_
      refine g_ldcw (pc := 8) (dd d_Mod_part 4 rfl) c_Mod_513 ?_
      refine g_isub (pc := 11) (dd d_Mod_part 5 rfl) ?_
      refine g_aload_n (pc := 12) (dd d_Mod_part 6 rfl) rfl ?_
      refine g_geti (pc := 13) (dd d_Mod_part 7 rfl) f_Mod_415 ob_MO rfl ?_
      suffices K16 : GG Δ m_Mod_part Γ NN 0 0 (I, X) 24 [some (.ref (Δ.ba + MO)), some (.int (v)), some (.int (f)), none] [.int (if (I MO 55 : Int32) ≤ ((v) - (1000000) : Int32) then 0 else 1)] by
        refine g_icmpge (pc := 16) (tgt := 23) (dd d_Mod_part 8 rfl) (by decide) (fun q2 => ?_) (fun q2 => ?_)
        · have t2 := q2
          try simp only [e1x, e0x, i10, thrP, thrN, Classical.not_not, not_and, not_or, not_true_eq_false, not_false_eq_true, true_and, and_true, and_self, or_false, or_true, false_or, true_or, eq_self] at t2
          refine g_iconst (pc := 23) (v := 0) (dd d_Mod_part 11 rfl) (by decide) ?_
          simp only [if_pos q2] at K16 ⊢
          exact K16
        · have t2 := q2
          try simp only [e1x, e0x, i10, thrP, thrN, Classical.not_not, not_and, not_or, not_true_eq_false, not_false_eq_true, true_and, and_true, and_self, or_false, or_true, false_or, true_or, eq_self] at t2
          refine g_iconst (pc := 19) (v := 1) (dd d_Mod_part 9 rfl) (by decide) ?_
          refine g_goto (pc := 20) (tgt := 24) (dd d_Mod_part 10 rfl) (by decide) ?_
          simp only [if_neg q2] at K16 ⊢
          exact K16
      simp only [if_neg q1] at K4 ⊢
      exact K4
  refine g_istore_n (pc := 24) (dd d_Mod_part 12 rfl) (by decide) ?_
  refine g_iload_n (pc := 25) (dd d_Mod_part 13 rfl) rfl ?_
  suffices K26 : GG Δ m_Mod_part Γ NN 0 0 (I, X) 68 [some (.ref (Δ.ba + MO)), some (.int (v)), some (.int (f)), some (.int (if v < (1000000 : Int32) then 0 else (if (I MO 55 : Int32) ≤ ((v) - (1000000) : Int32) then 0 else 1)))] [.int (if (if v < (1000000 : Int32) then 0 else (if (I MO 55 : Int32) ≤ ((v) - (1000000) : Int32) then 0 else 1) : Int32) = 0 then (if f = 0 then 0 else v) else (if f = 0 then (I A_seconds ((v) - (1000000) : Int32).toNatClampNeg) else (I A_firsts ((v) - (1000000) : Int32).toNatClampNeg)))] by
    refine g_ifeq (pc := 26) (tgt := 59) (dd d_Mod_part 14 rfl) (by decide) (fun q3 => ?_) (fun q3 => ?_)
    · have t3 := q3
      try simp only [e1x, e0x, i10, thrP, thrN, Classical.not_not, not_and, not_or, not_true_eq_false, not_false_eq_true, true_and, and_true, and_self, or_false, or_true, false_or, true_or, eq_self] at t3
      refine g_iload_n (pc := 59) (dd d_Mod_part 31 rfl) rfl ?_
      suffices K60 : GG Δ m_Mod_part Γ NN 0 0 (I, X) 68 [some (.ref (Δ.ba + MO)), some (.int (v)), some (.int (f)), some (.int (if v < (1000000 : Int32) then 0 else (if (I MO 55 : Int32) ≤ ((v) - (1000000) : Int32) then 0 else 1)))] [.int (if f = 0 then 0 else v)] by
        refine g_ifeq (pc := 60) (tgt := 67) (dd d_Mod_part 32 rfl) (by decide) (fun q4 => ?_) (fun q4 => ?_)
        · have t4 := q4
          try simp only [e1x, e0x, i10, thrP, thrN, Classical.not_not, not_and, not_or, not_true_eq_false, not_false_eq_true, true_and, and_true, and_self, or_false, or_true, false_or, true_or, eq_self] at t4
          refine g_iconst (pc := 67) (v := 0) (dd d_Mod_part 35 rfl) (by decide) ?_
          simp only [if_pos q4] at K60 ⊢
          exact K60
        · have t4 := q4
          try simp only [e1x, e0x, i10, thrP, thrN, Classical.not_not, not_and, not_or, not_true_eq_false, not_false_eq_true, true_and, and_true, and_self, or_false, or_true, false_or, true_or, eq_self] at t4
          refine g_iload_n (pc := 63) (dd d_Mod_part 33 rfl) rfl ?_
          refine g_goto (pc := 64) (tgt := 68) (dd d_Mod_part 34 rfl) (by decide) ?_
          simp only [if_neg q4] at K60 ⊢
          exact K60
      simp only [if_pos q3] at K26 ⊢
      exact K26
    · have t3 := q3
      try simp only [e1x, e0x, i10, thrP, thrN, Classical.not_not, not_and, not_or, not_true_eq_false, not_false_eq_true, true_and, and_true, and_self, or_false, or_true, false_or, true_or, eq_self] at t3
      refine g_iload_n (pc := 29) (dd d_Mod_part 15 rfl) rfl ?_
      suffices K30 : GG Δ m_Mod_part Γ NN 0 0 (I, X) 68 [some (.ref (Δ.ba + MO)), some (.int (v)), some (.int (f)), some (.int (if v < (1000000 : Int32) then 0 else (if (I MO 55 : Int32) ≤ ((v) - (1000000) : Int32) then 0 else 1)))] [.int (if f = 0 then (I A_seconds ((v) - (1000000) : Int32).toNatClampNeg) else (I A_firsts ((v) - (1000000) : Int32).toNatClampNeg))] by
        refine g_ifeq (pc := 30) (tgt := 46) (dd d_Mod_part 16 rfl) (by decide) (fun q5 => ?_) (fun q5 => ?_)
        · have t5 := q5
          try simp only [e1x, e0x, i10, thrP, thrN, Classical.not_not, not_and, not_or, not_true_eq_false, not_false_eq_true, true_and, and_true, and_self, or_false, or_true, false_or, true_or, eq_self] at t5
          refine g_aload_n (pc := 46) (dd d_Mod_part 24 rfl) rfl ?_
          refine g_getr (pc := 47) (dd d_Mod_part 25 rfl) f_Mod_92 ob_MO rfl (mr_seconds hX) ?_
          refine g_iload_n (pc := 50) (dd d_Mod_part 26 rfl) rfl ?_
          refine g_ldcw (pc := 51) (dd d_Mod_part 27 rfl) c_Mod_513 ?_
          refine g_isub (pc := 54) (dd d_Mod_part 28 rfl) ?_
          refine g_iald (pc := 55) (dd d_Mod_part 29 rfl) ar_A_seconds (pair_in t3.1 t3.2 h551) ?_
          refine g_goto (pc := 56) (tgt := 68) (dd d_Mod_part 30 rfl) (by decide) ?_
          simp only [if_pos q5] at K30 ⊢
          exact K30
        · have t5 := q5
          try simp only [e1x, e0x, i10, thrP, thrN, Classical.not_not, not_and, not_or, not_true_eq_false, not_false_eq_true, true_and, and_true, and_self, or_false, or_true, false_or, true_or, eq_self] at t5
          refine g_aload_n (pc := 33) (dd d_Mod_part 17 rfl) rfl ?_
          refine g_getr (pc := 34) (dd d_Mod_part 18 rfl) f_Mod_89 ob_MO rfl (mr_firsts hX) ?_
          refine g_iload_n (pc := 37) (dd d_Mod_part 19 rfl) rfl ?_
          refine g_ldcw (pc := 38) (dd d_Mod_part 20 rfl) c_Mod_513 ?_
          refine g_isub (pc := 41) (dd d_Mod_part 21 rfl) ?_
          refine g_iald (pc := 42) (dd d_Mod_part 22 rfl) ar_A_firsts (pair_in t3.1 t3.2 h551) ?_
          refine g_goto (pc := 43) (tgt := 68) (dd d_Mod_part 23 rfl) (by decide) ?_
          simp only [if_neg q5] at K30 ⊢
          exact K30
      simp only [if_neg q3] at K26 ⊢
      exact K26
  exact g_iret (pc := 68) rfl (dd d_Mod_part 36 rfl) hT
set_option maxRecDepth 20000 in
set_option maxHeartbeats 4000000 in
theorem ev_Mod_result {Δ : Dx} {X : Lx} (hX : MX Δ X) (I : Nat → Nat → Int32) (ha : vp_in (I MO 76) 8) (hb : vp_in (I MO 77) 8) (hc : vp_in (I MO 78) 8) (hw : I MO 75 = 11 → vp_in (I MO 80) 96) : Ev Δ 0 m_Mod_result [.ref (Δ.ba + MO)] (I, X) ((if (I MO 75 : Int32) = 1 then some (.int (I MO 79)) else (if (I MO 75 : Int32) = 2 then some (.int (I A_registers (I MO 77 : Int32).toNatClampNeg)) else (if (I MO 75 : Int32) = 3 then some (.int ((I A_registers (I MO 77 : Int32).toNatClampNeg) + (I A_registers (I MO 78 : Int32).toNatClampNeg))) else (if (I MO 75 : Int32) = 4 then some (.int ((I A_registers (I MO 77 : Int32).toNatClampNeg) - (I A_registers (I MO 78 : Int32).toNatClampNeg))) else (if (I MO 75 : Int32) = 5 then some (.int ((I A_registers (I MO 77 : Int32).toNatClampNeg) * (I A_registers (I MO 78 : Int32).toNatClampNeg))) else (if (I MO 75 : Int32) = 6 then some (.int ((I A_registers (I MO 77 : Int32).toNatClampNeg) &&& (I A_registers (I MO 78 : Int32).toNatClampNeg))) else (if (I MO 75 : Int32) = 7 then some (.int ((I A_registers (I MO 77 : Int32).toNatClampNeg) ||| (I A_registers (I MO 78 : Int32).toNatClampNeg))) else (if (I MO 75 : Int32) = 8 then some (.int ((I A_registers (I MO 77 : Int32).toNatClampNeg) ^^^ (I A_registers (I MO 78 : Int32).toNatClampNeg))) else (if (I MO 75 : Int32) = 9 then some (.int (if (I A_registers (I MO 78 : Int32).toNatClampNeg : Int32) ≤ (I A_registers (I MO 77 : Int32).toNatClampNeg : Int32) then 0 else 1)) else (if (I MO 75 : Int32) = 10 then some (.int (if (I A_registers (I MO 77 : Int32).toNatClampNeg : Int32) = (I A_registers (I MO 78 : Int32).toNatClampNeg : Int32) then 1 else 0)) else (if (I MO 75 : Int32) = 11 then some (.int (I A_ints (I MO 80 : Int32).toNatClampNeg)) else (if (I MO 75 : Int32) = 12 then some (.int (I A_registers (I MO 76 : Int32).toNatClampNeg)) else (if (I MO 75 : Int32) = 13 then some (.int (I A_registers (I MO 76 : Int32).toNatClampNeg)) else (if (I MO 75 : Int32) = 14 then some (.int (I A_registers (I MO 76 : Int32).toNatClampNeg)) else (if (I MO 75 : Int32) = 15 then some (.int (I A_registers (I MO 76 : Int32).toNatClampNeg)) else (if (I MO 75 : Int32) = 16 then some (.int ((I MO 42) + (1))) else (if (I MO 75 : Int32) = 17 then some (.int (I A_registers (I MO 76 : Int32).toNatClampNeg)) else (if (I MO 75 : Int32) = 18 then some (.int (I A_inputValues (0 : Int32).toNatClampNeg)) else some (.int (I A_registers (I MO 76 : Int32).toNatClampNeg))))))))))))))))))))) (I, X) := by
  refine ev_of (by decide) (Nat.le_of_ble_eq_true rfl) (fun Γ hk hR hT => ?_)
  refine g_aload_n (pc := 0) (dd d_Mod_result 0 rfl) rfl ?_
  refine g_getr (pc := 1) (dd d_Mod_result 1 rfl) f_Mod_74 ob_MO rfl (mr_registers hX) ?_
  refine g_aload_n (pc := 4) (dd d_Mod_result 2 rfl) rfl ?_
  refine g_geti (pc := 5) (dd d_Mod_result 3 rfl) f_Mod_498 ob_MO rfl ?_
  refine g_iald (pc := 8) (dd d_Mod_result 4 rfl) ar_A_registers (by first | assumption | (subst_vars; rw [vp_in_iff]; (try simp (decide := true) only [up_o, up_s, if_true, if_false] at  ⊢); (try simp only [← Int32.toInt_inj, Int32.lt_iff_toInt_lt, Int32.le_iff_toInt_le, Int32.reduceToInt] at  ⊢); first | omega | (simp only [Int32.toInt_add, Int32.toInt_sub, Int32.toInt_mul, Int32.reduceToInt, Int.bmod_def] at  ⊢; (repeat' split) <;> omega))) ?_
  refine g_istore_n (pc := 9) (dd d_Mod_result 5 rfl) (by decide) ?_
  refine g_aload_n (pc := 10) (dd d_Mod_result 6 rfl) rfl ?_
  refine g_getr (pc := 11) (dd d_Mod_result 7 rfl) f_Mod_74 ob_MO rfl (mr_registers hX) ?_
  refine g_aload_n (pc := 14) (dd d_Mod_result 8 rfl) rfl ?_
  refine g_geti (pc := 15) (dd d_Mod_result 9 rfl) f_Mod_501 ob_MO rfl ?_
  refine g_iald (pc := 18) (dd d_Mod_result 10 rfl) ar_A_registers (by first | assumption | (subst_vars; rw [vp_in_iff]; (try simp (decide := true) only [up_o, up_s, if_true, if_false] at  ⊢); (try simp only [← Int32.toInt_inj, Int32.lt_iff_toInt_lt, Int32.le_iff_toInt_le, Int32.reduceToInt] at  ⊢); first | omega | (simp only [Int32.toInt_add, Int32.toInt_sub, Int32.toInt_mul, Int32.reduceToInt, Int.bmod_def] at  ⊢; (repeat' split) <;> omega))) ?_
  refine g_istore_n (pc := 19) (dd d_Mod_result 11 rfl) (by decide) ?_
  refine g_aload_n (pc := 20) (dd d_Mod_result 12 rfl) rfl ?_
  refine g_geti (pc := 21) (dd d_Mod_result 13 rfl) f_Mod_492 ob_MO rfl ?_
  refine g_tableC (pc := 24) (dd d_Mod_result 14 rfl) (fun i off ho w1 => ?_) (by decide) (fun w1 => ⟨189, by decide, ?_⟩)
  · rcases i with _ | _ | _ | _ | _ | _ | _ | _ | _ | _ | _ | _ | _ | _ | _ | _ | _ | _ | i
    · obtain rfl : off = 88 := (Option.some.inj ho).symm
      refine ⟨112, by decide, ?_⟩
      replace w1 : (I MO 75 : Int32) = 1 := Int32.toInt_inj.mp w1
      refine g_aload_n (pc := 112) (dd d_Mod_result 15 rfl) rfl ?_
      refine g_geti (pc := 113) (dd d_Mod_result 16 rfl) f_Mod_510 ob_MO rfl ?_
      try simp only [if_pos w1] at hT ⊢
      exact g_iret (pc := 116) rfl (dd d_Mod_result 17 rfl) hT
    · obtain rfl : off = 93 := (Option.some.inj ho).symm
      refine ⟨117, by decide, ?_⟩
      replace w1 : (I MO 75 : Int32) = 2 := Int32.toInt_inj.mp w1
      have w1_1 : ¬ (I MO 75 : Int32) = 1 := by rw [w1]; decide
      refine g_iload_n (pc := 117) (dd d_Mod_result 18 rfl) rfl ?_
      try simp only [if_neg w1_1, if_pos w1] at hT ⊢
      exact g_iret (pc := 118) rfl (dd d_Mod_result 19 rfl) hT
    · obtain rfl : off = 95 := (Option.some.inj ho).symm
      refine ⟨119, by decide, ?_⟩
      replace w1 : (I MO 75 : Int32) = 3 := Int32.toInt_inj.mp w1
      have w1_1 : ¬ (I MO 75 : Int32) = 1 := by rw [w1]; decide
      have w1_2 : ¬ (I MO 75 : Int32) = 2 := by rw [w1]; decide
      refine g_iload_n (pc := 119) (dd d_Mod_result 20 rfl) rfl ?_
      refine g_iload_n (pc := 120) (dd d_Mod_result 21 rfl) rfl ?_
      refine g_iadd (pc := 121) (dd d_Mod_result 22 rfl) ?_
      try simp only [if_neg w1_1, if_neg w1_2, if_pos w1] at hT ⊢
      exact g_iret (pc := 122) rfl (dd d_Mod_result 23 rfl) hT
    · obtain rfl : off = 99 := (Option.some.inj ho).symm
      refine ⟨123, by decide, ?_⟩
      replace w1 : (I MO 75 : Int32) = 4 := Int32.toInt_inj.mp w1
      have w1_1 : ¬ (I MO 75 : Int32) = 1 := by rw [w1]; decide
      have w1_2 : ¬ (I MO 75 : Int32) = 2 := by rw [w1]; decide
      have w1_3 : ¬ (I MO 75 : Int32) = 3 := by rw [w1]; decide
      refine g_iload_n (pc := 123) (dd d_Mod_result 24 rfl) rfl ?_
      refine g_iload_n (pc := 124) (dd d_Mod_result 25 rfl) rfl ?_
      refine g_isub (pc := 125) (dd d_Mod_result 26 rfl) ?_
      try simp only [if_neg w1_1, if_neg w1_2, if_neg w1_3, if_pos w1] at hT ⊢
      exact g_iret (pc := 126) rfl (dd d_Mod_result 27 rfl) hT
    · obtain rfl : off = 103 := (Option.some.inj ho).symm
      refine ⟨127, by decide, ?_⟩
      replace w1 : (I MO 75 : Int32) = 5 := Int32.toInt_inj.mp w1
      have w1_1 : ¬ (I MO 75 : Int32) = 1 := by rw [w1]; decide
      have w1_2 : ¬ (I MO 75 : Int32) = 2 := by rw [w1]; decide
      have w1_3 : ¬ (I MO 75 : Int32) = 3 := by rw [w1]; decide
      have w1_4 : ¬ (I MO 75 : Int32) = 4 := by rw [w1]; decide
      refine g_iload_n (pc := 127) (dd d_Mod_result 28 rfl) rfl ?_
      refine g_iload_n (pc := 128) (dd d_Mod_result 29 rfl) rfl ?_
      refine g_imul (pc := 129) (dd d_Mod_result 30 rfl) ?_
      try simp only [if_neg w1_1, if_neg w1_2, if_neg w1_3, if_neg w1_4, if_pos w1] at hT ⊢
      exact g_iret (pc := 130) rfl (dd d_Mod_result 31 rfl) hT
    · obtain rfl : off = 107 := (Option.some.inj ho).symm
      refine ⟨131, by decide, ?_⟩
      replace w1 : (I MO 75 : Int32) = 6 := Int32.toInt_inj.mp w1
      have w1_1 : ¬ (I MO 75 : Int32) = 1 := by rw [w1]; decide
      have w1_2 : ¬ (I MO 75 : Int32) = 2 := by rw [w1]; decide
      have w1_3 : ¬ (I MO 75 : Int32) = 3 := by rw [w1]; decide
      have w1_4 : ¬ (I MO 75 : Int32) = 4 := by rw [w1]; decide
      have w1_5 : ¬ (I MO 75 : Int32) = 5 := by rw [w1]; decide
      refine g_iload_n (pc := 131) (dd d_Mod_result 32 rfl) rfl ?_
      refine g_iload_n (pc := 132) (dd d_Mod_result 33 rfl) rfl ?_
      refine g_iand (pc := 133) (dd d_Mod_result 34 rfl) ?_
      try simp only [if_neg w1_1, if_neg w1_2, if_neg w1_3, if_neg w1_4, if_neg w1_5, if_pos w1] at hT ⊢
      exact g_iret (pc := 134) rfl (dd d_Mod_result 35 rfl) hT
    · obtain rfl : off = 111 := (Option.some.inj ho).symm
      refine ⟨135, by decide, ?_⟩
      replace w1 : (I MO 75 : Int32) = 7 := Int32.toInt_inj.mp w1
      have w1_1 : ¬ (I MO 75 : Int32) = 1 := by rw [w1]; decide
      have w1_2 : ¬ (I MO 75 : Int32) = 2 := by rw [w1]; decide
      have w1_3 : ¬ (I MO 75 : Int32) = 3 := by rw [w1]; decide
      have w1_4 : ¬ (I MO 75 : Int32) = 4 := by rw [w1]; decide
      have w1_5 : ¬ (I MO 75 : Int32) = 5 := by rw [w1]; decide
      have w1_6 : ¬ (I MO 75 : Int32) = 6 := by rw [w1]; decide
      refine g_iload_n (pc := 135) (dd d_Mod_result 36 rfl) rfl ?_
      refine g_iload_n (pc := 136) (dd d_Mod_result 37 rfl) rfl ?_
      refine g_ior (pc := 137) (dd d_Mod_result 38 rfl) ?_
      try simp only [if_neg w1_1, if_neg w1_2, if_neg w1_3, if_neg w1_4, if_neg w1_5, if_neg w1_6, if_pos w1] at hT ⊢
      exact g_iret (pc := 138) rfl (dd d_Mod_result 39 rfl) hT
    · obtain rfl : off = 115 := (Option.some.inj ho).symm
      refine ⟨139, by decide, ?_⟩
      replace w1 : (I MO 75 : Int32) = 8 := Int32.toInt_inj.mp w1
      have w1_1 : ¬ (I MO 75 : Int32) = 1 := by rw [w1]; decide
      have w1_2 : ¬ (I MO 75 : Int32) = 2 := by rw [w1]; decide
      have w1_3 : ¬ (I MO 75 : Int32) = 3 := by rw [w1]; decide
      have w1_4 : ¬ (I MO 75 : Int32) = 4 := by rw [w1]; decide
      have w1_5 : ¬ (I MO 75 : Int32) = 5 := by rw [w1]; decide
      have w1_6 : ¬ (I MO 75 : Int32) = 6 := by rw [w1]; decide
      have w1_7 : ¬ (I MO 75 : Int32) = 7 := by rw [w1]; decide
      refine g_iload_n (pc := 139) (dd d_Mod_result 40 rfl) rfl ?_
      refine g_iload_n (pc := 140) (dd d_Mod_result 41 rfl) rfl ?_
      refine g_ixor (pc := 141) (dd d_Mod_result 42 rfl) ?_
      try simp only [if_neg w1_1, if_neg w1_2, if_neg w1_3, if_neg w1_4, if_neg w1_5, if_neg w1_6, if_neg w1_7, if_pos w1] at hT ⊢
      exact g_iret (pc := 142) rfl (dd d_Mod_result 43 rfl) hT
    · obtain rfl : off = 119 := (Option.some.inj ho).symm
      refine ⟨143, by decide, ?_⟩
      replace w1 : (I MO 75 : Int32) = 9 := Int32.toInt_inj.mp w1
      have w1_1 : ¬ (I MO 75 : Int32) = 1 := by rw [w1]; decide
      have w1_2 : ¬ (I MO 75 : Int32) = 2 := by rw [w1]; decide
      have w1_3 : ¬ (I MO 75 : Int32) = 3 := by rw [w1]; decide
      have w1_4 : ¬ (I MO 75 : Int32) = 4 := by rw [w1]; decide
      have w1_5 : ¬ (I MO 75 : Int32) = 5 := by rw [w1]; decide
      have w1_6 : ¬ (I MO 75 : Int32) = 6 := by rw [w1]; decide
      have w1_7 : ¬ (I MO 75 : Int32) = 7 := by rw [w1]; decide
      have w1_8 : ¬ (I MO 75 : Int32) = 8 := by rw [w1]; decide
      refine g_iload_n (pc := 143) (dd d_Mod_result 44 rfl) rfl ?_
      refine g_iload_n (pc := 144) (dd d_Mod_result 45 rfl) rfl ?_
      suffices K145 : GG Δ m_Mod_result Γ NN 0 0 (I, X) 153 [some (.ref (Δ.ba + MO)), some (.int (I A_registers (I MO 77 : Int32).toNatClampNeg)), some (.int (I A_registers (I MO 78 : Int32).toNatClampNeg))] [.int (if (I A_registers (I MO 78 : Int32).toNatClampNeg : Int32) ≤ (I A_registers (I MO 77 : Int32).toNatClampNeg : Int32) then 0 else 1)] by
        refine g_icmpge (pc := 145) (tgt := 152) (dd d_Mod_result 46 rfl) (by decide) (fun q2 => ?_) (fun q2 => ?_)
        · have t2 := q2
          try simp only [e1x, e0x, i10, thrP, thrN, Classical.not_not, not_and, not_or, not_true_eq_false, not_false_eq_true, true_and, and_true, and_self, or_false, or_true, false_or, true_or, eq_self] at t2
          refine g_iconst (pc := 152) (v := 0) (dd d_Mod_result 49 rfl) (by decide) ?_
          simp only [if_pos q2] at K145 ⊢
          exact K145
        · have t2 := q2
          try simp only [e1x, e0x, i10, thrP, thrN, Classical.not_not, not_and, not_or, not_true_eq_false, not_false_eq_true, true_and, and_true, and_self, or_false, or_true, false_or, true_or, eq_self] at t2
          refine g_iconst (pc := 148) (v := 1) (dd d_Mod_result 47 rfl) (by decide) ?_
          refine g_goto (pc := 149) (tgt := 153) (dd d_Mod_result 48 rfl) (by decide) ?_
          simp only [if_neg q2] at K145 ⊢
          exact K145
      try simp only [if_neg w1_1, if_neg w1_2, if_neg w1_3, if_neg w1_4, if_neg w1_5, if_neg w1_6, if_neg w1_7, if_neg w1_8, if_pos w1] at hT ⊢
      exact g_iret (pc := 153) rfl (dd d_Mod_result 50 rfl) hT
    · obtain rfl : off = 130 := (Option.some.inj ho).symm
      refine ⟨154, by decide, ?_⟩
      replace w1 : (I MO 75 : Int32) = 10 := Int32.toInt_inj.mp w1
      have w1_1 : ¬ (I MO 75 : Int32) = 1 := by rw [w1]; decide
      have w1_2 : ¬ (I MO 75 : Int32) = 2 := by rw [w1]; decide
      have w1_3 : ¬ (I MO 75 : Int32) = 3 := by rw [w1]; decide
      have w1_4 : ¬ (I MO 75 : Int32) = 4 := by rw [w1]; decide
      have w1_5 : ¬ (I MO 75 : Int32) = 5 := by rw [w1]; decide
      have w1_6 : ¬ (I MO 75 : Int32) = 6 := by rw [w1]; decide
      have w1_7 : ¬ (I MO 75 : Int32) = 7 := by rw [w1]; decide
      have w1_8 : ¬ (I MO 75 : Int32) = 8 := by rw [w1]; decide
      have w1_9 : ¬ (I MO 75 : Int32) = 9 := by rw [w1]; decide
      refine g_iload_n (pc := 154) (dd d_Mod_result 51 rfl) rfl ?_
      refine g_iload_n (pc := 155) (dd d_Mod_result 52 rfl) rfl ?_
      suffices K156 : GG Δ m_Mod_result Γ NN 0 0 (I, X) 164 [some (.ref (Δ.ba + MO)), some (.int (I A_registers (I MO 77 : Int32).toNatClampNeg)), some (.int (I A_registers (I MO 78 : Int32).toNatClampNeg))] [.int (if (I A_registers (I MO 77 : Int32).toNatClampNeg : Int32) = (I A_registers (I MO 78 : Int32).toNatClampNeg : Int32) then 1 else 0)] by
        refine g_icmpne (pc := 156) (tgt := 163) (dd d_Mod_result 53 rfl) (by decide) (fun q3 => ?_) (fun q3 => ?_)
        · have t3 := q3
          try simp only [e1x, e0x, i10, thrP, thrN, Classical.not_not, not_and, not_or, not_true_eq_false, not_false_eq_true, true_and, and_true, and_self, or_false, or_true, false_or, true_or, eq_self] at t3
          refine g_iconst (pc := 163) (v := 0) (dd d_Mod_result 56 rfl) (by decide) ?_
          simp only [if_neg q3] at K156 ⊢
          exact K156
        · have t3 := q3
          try simp only [e1x, e0x, i10, thrP, thrN, Classical.not_not, not_and, not_or, not_true_eq_false, not_false_eq_true, true_and, and_true, and_self, or_false, or_true, false_or, true_or, eq_self] at t3
          refine g_iconst (pc := 159) (v := 1) (dd d_Mod_result 54 rfl) (by decide) ?_
          refine g_goto (pc := 160) (tgt := 164) (dd d_Mod_result 55 rfl) (by decide) ?_
          simp only [if_pos q3] at K156 ⊢
          exact K156
      try simp only [if_neg w1_1, if_neg w1_2, if_neg w1_3, if_neg w1_4, if_neg w1_5, if_neg w1_6, if_neg w1_7, if_neg w1_8, if_neg w1_9, if_pos w1] at hT ⊢
      exact g_iret (pc := 164) rfl (dd d_Mod_result 57 rfl) hT
    · obtain rfl : off = 141 := (Option.some.inj ho).symm
      refine ⟨165, by decide, ?_⟩
      replace w1 : (I MO 75 : Int32) = 11 := Int32.toInt_inj.mp w1
      have w1_1 : ¬ (I MO 75 : Int32) = 1 := by rw [w1]; decide
      have w1_2 : ¬ (I MO 75 : Int32) = 2 := by rw [w1]; decide
      have w1_3 : ¬ (I MO 75 : Int32) = 3 := by rw [w1]; decide
      have w1_4 : ¬ (I MO 75 : Int32) = 4 := by rw [w1]; decide
      have w1_5 : ¬ (I MO 75 : Int32) = 5 := by rw [w1]; decide
      have w1_6 : ¬ (I MO 75 : Int32) = 6 := by rw [w1]; decide
      have w1_7 : ¬ (I MO 75 : Int32) = 7 := by rw [w1]; decide
      have w1_8 : ¬ (I MO 75 : Int32) = 8 := by rw [w1]; decide
      have w1_9 : ¬ (I MO 75 : Int32) = 9 := by rw [w1]; decide
      have w1_10 : ¬ (I MO 75 : Int32) = 10 := by rw [w1]; decide
      refine g_aload_n (pc := 165) (dd d_Mod_result 58 rfl) rfl ?_
      refine g_getr (pc := 166) (dd d_Mod_result 59 rfl) f_Mod_65 ob_MO rfl (mr_ints hX) ?_
      refine g_aload_n (pc := 169) (dd d_Mod_result_1 0 rfl) rfl ?_
      refine g_geti (pc := 170) (dd d_Mod_result_1 1 rfl) f_Mod_507 ob_MO rfl ?_
      refine g_iald (pc := 173) (dd d_Mod_result_1 2 rfl) ar_A_ints (hw w1) ?_
      try simp only [if_neg w1_1, if_neg w1_2, if_neg w1_3, if_neg w1_4, if_neg w1_5, if_neg w1_6, if_neg w1_7, if_neg w1_8, if_neg w1_9, if_neg w1_10, if_pos w1] at hT ⊢
      exact g_iret (pc := 174) rfl (dd d_Mod_result_1 3 rfl) hT
    · obtain rfl : off = 165 := (Option.some.inj ho).symm
      refine ⟨189, by decide, ?_⟩
      replace w1 : (I MO 75 : Int32) = 12 := Int32.toInt_inj.mp w1
      have w1_1 : ¬ (I MO 75 : Int32) = 1 := by rw [w1]; decide
      have w1_2 : ¬ (I MO 75 : Int32) = 2 := by rw [w1]; decide
      have w1_3 : ¬ (I MO 75 : Int32) = 3 := by rw [w1]; decide
      have w1_4 : ¬ (I MO 75 : Int32) = 4 := by rw [w1]; decide
      have w1_5 : ¬ (I MO 75 : Int32) = 5 := by rw [w1]; decide
      have w1_6 : ¬ (I MO 75 : Int32) = 6 := by rw [w1]; decide
      have w1_7 : ¬ (I MO 75 : Int32) = 7 := by rw [w1]; decide
      have w1_8 : ¬ (I MO 75 : Int32) = 8 := by rw [w1]; decide
      have w1_9 : ¬ (I MO 75 : Int32) = 9 := by rw [w1]; decide
      have w1_10 : ¬ (I MO 75 : Int32) = 10 := by rw [w1]; decide
      have w1_11 : ¬ (I MO 75 : Int32) = 11 := by rw [w1]; decide
      refine g_aload_n (pc := 189) (dd d_Mod_result_1 14 rfl) rfl ?_
      refine g_getr (pc := 190) (dd d_Mod_result_1 15 rfl) f_Mod_74 ob_MO rfl (mr_registers hX) ?_
      refine g_aload_n (pc := 193) (dd d_Mod_result_1 16 rfl) rfl ?_
      refine g_geti (pc := 194) (dd d_Mod_result_1 17 rfl) f_Mod_495 ob_MO rfl ?_
      refine g_iald (pc := 197) (dd d_Mod_result_1 18 rfl) ar_A_registers (by first | assumption | (subst_vars; rw [vp_in_iff]; (try simp (decide := true) only [up_o, up_s, if_true, if_false] at  ⊢); (try simp only [← Int32.toInt_inj, Int32.lt_iff_toInt_lt, Int32.le_iff_toInt_le, Int32.reduceToInt] at  ⊢); first | omega | (simp only [Int32.toInt_add, Int32.toInt_sub, Int32.toInt_mul, Int32.reduceToInt, Int.bmod_def] at  ⊢; (repeat' split) <;> omega))) ?_
      try simp only [if_neg w1_1, if_neg w1_2, if_neg w1_3, if_neg w1_4, if_neg w1_5, if_neg w1_6, if_neg w1_7, if_neg w1_8, if_neg w1_9, if_neg w1_10, if_neg w1_11, if_pos w1] at hT ⊢
      exact g_iret (pc := 198) rfl (dd d_Mod_result_1 19 rfl) hT
    · obtain rfl : off = 165 := (Option.some.inj ho).symm
      refine ⟨189, by decide, ?_⟩
      replace w1 : (I MO 75 : Int32) = 13 := Int32.toInt_inj.mp w1
      have w1_1 : ¬ (I MO 75 : Int32) = 1 := by rw [w1]; decide
      have w1_2 : ¬ (I MO 75 : Int32) = 2 := by rw [w1]; decide
      have w1_3 : ¬ (I MO 75 : Int32) = 3 := by rw [w1]; decide
      have w1_4 : ¬ (I MO 75 : Int32) = 4 := by rw [w1]; decide
      have w1_5 : ¬ (I MO 75 : Int32) = 5 := by rw [w1]; decide
      have w1_6 : ¬ (I MO 75 : Int32) = 6 := by rw [w1]; decide
      have w1_7 : ¬ (I MO 75 : Int32) = 7 := by rw [w1]; decide
      have w1_8 : ¬ (I MO 75 : Int32) = 8 := by rw [w1]; decide
      have w1_9 : ¬ (I MO 75 : Int32) = 9 := by rw [w1]; decide
      have w1_10 : ¬ (I MO 75 : Int32) = 10 := by rw [w1]; decide
      have w1_11 : ¬ (I MO 75 : Int32) = 11 := by rw [w1]; decide
      have w1_12 : ¬ (I MO 75 : Int32) = 12 := by rw [w1]; decide
      refine g_aload_n (pc := 189) (dd d_Mod_result_1 14 rfl) rfl ?_
      refine g_getr (pc := 190) (dd d_Mod_result_1 15 rfl) f_Mod_74 ob_MO rfl (mr_registers hX) ?_
      refine g_aload_n (pc := 193) (dd d_Mod_result_1 16 rfl) rfl ?_
      refine g_geti (pc := 194) (dd d_Mod_result_1 17 rfl) f_Mod_495 ob_MO rfl ?_
      refine g_iald (pc := 197) (dd d_Mod_result_1 18 rfl) ar_A_registers (by first | assumption | (subst_vars; rw [vp_in_iff]; (try simp (decide := true) only [up_o, up_s, if_true, if_false] at  ⊢); (try simp only [← Int32.toInt_inj, Int32.lt_iff_toInt_lt, Int32.le_iff_toInt_le, Int32.reduceToInt] at  ⊢); first | omega | (simp only [Int32.toInt_add, Int32.toInt_sub, Int32.toInt_mul, Int32.reduceToInt, Int.bmod_def] at  ⊢; (repeat' split) <;> omega))) ?_
      try simp only [if_neg w1_1, if_neg w1_2, if_neg w1_3, if_neg w1_4, if_neg w1_5, if_neg w1_6, if_neg w1_7, if_neg w1_8, if_neg w1_9, if_neg w1_10, if_neg w1_11, if_neg w1_12, if_pos w1] at hT ⊢
      exact g_iret (pc := 198) rfl (dd d_Mod_result_1 19 rfl) hT
    · obtain rfl : off = 165 := (Option.some.inj ho).symm
      refine ⟨189, by decide, ?_⟩
      replace w1 : (I MO 75 : Int32) = 14 := Int32.toInt_inj.mp w1
      have w1_1 : ¬ (I MO 75 : Int32) = 1 := by rw [w1]; decide
      have w1_2 : ¬ (I MO 75 : Int32) = 2 := by rw [w1]; decide
      have w1_3 : ¬ (I MO 75 : Int32) = 3 := by rw [w1]; decide
      have w1_4 : ¬ (I MO 75 : Int32) = 4 := by rw [w1]; decide
      have w1_5 : ¬ (I MO 75 : Int32) = 5 := by rw [w1]; decide
      have w1_6 : ¬ (I MO 75 : Int32) = 6 := by rw [w1]; decide
      have w1_7 : ¬ (I MO 75 : Int32) = 7 := by rw [w1]; decide
      have w1_8 : ¬ (I MO 75 : Int32) = 8 := by rw [w1]; decide
      have w1_9 : ¬ (I MO 75 : Int32) = 9 := by rw [w1]; decide
      have w1_10 : ¬ (I MO 75 : Int32) = 10 := by rw [w1]; decide
      have w1_11 : ¬ (I MO 75 : Int32) = 11 := by rw [w1]; decide
      have w1_12 : ¬ (I MO 75 : Int32) = 12 := by rw [w1]; decide
      have w1_13 : ¬ (I MO 75 : Int32) = 13 := by rw [w1]; decide
      refine g_aload_n (pc := 189) (dd d_Mod_result_1 14 rfl) rfl ?_
      refine g_getr (pc := 190) (dd d_Mod_result_1 15 rfl) f_Mod_74 ob_MO rfl (mr_registers hX) ?_
      refine g_aload_n (pc := 193) (dd d_Mod_result_1 16 rfl) rfl ?_
      refine g_geti (pc := 194) (dd d_Mod_result_1 17 rfl) f_Mod_495 ob_MO rfl ?_
      refine g_iald (pc := 197) (dd d_Mod_result_1 18 rfl) ar_A_registers (by first | assumption | (subst_vars; rw [vp_in_iff]; (try simp (decide := true) only [up_o, up_s, if_true, if_false] at  ⊢); (try simp only [← Int32.toInt_inj, Int32.lt_iff_toInt_lt, Int32.le_iff_toInt_le, Int32.reduceToInt] at  ⊢); first | omega | (simp only [Int32.toInt_add, Int32.toInt_sub, Int32.toInt_mul, Int32.reduceToInt, Int.bmod_def] at  ⊢; (repeat' split) <;> omega))) ?_
      try simp only [if_neg w1_1, if_neg w1_2, if_neg w1_3, if_neg w1_4, if_neg w1_5, if_neg w1_6, if_neg w1_7, if_neg w1_8, if_neg w1_9, if_neg w1_10, if_neg w1_11, if_neg w1_12, if_neg w1_13, if_pos w1] at hT ⊢
      exact g_iret (pc := 198) rfl (dd d_Mod_result_1 19 rfl) hT
    · obtain rfl : off = 165 := (Option.some.inj ho).symm
      refine ⟨189, by decide, ?_⟩
      replace w1 : (I MO 75 : Int32) = 15 := Int32.toInt_inj.mp w1
      have w1_1 : ¬ (I MO 75 : Int32) = 1 := by rw [w1]; decide
      have w1_2 : ¬ (I MO 75 : Int32) = 2 := by rw [w1]; decide
      have w1_3 : ¬ (I MO 75 : Int32) = 3 := by rw [w1]; decide
      have w1_4 : ¬ (I MO 75 : Int32) = 4 := by rw [w1]; decide
      have w1_5 : ¬ (I MO 75 : Int32) = 5 := by rw [w1]; decide
      have w1_6 : ¬ (I MO 75 : Int32) = 6 := by rw [w1]; decide
      have w1_7 : ¬ (I MO 75 : Int32) = 7 := by rw [w1]; decide
      have w1_8 : ¬ (I MO 75 : Int32) = 8 := by rw [w1]; decide
      have w1_9 : ¬ (I MO 75 : Int32) = 9 := by rw [w1]; decide
      have w1_10 : ¬ (I MO 75 : Int32) = 10 := by rw [w1]; decide
      have w1_11 : ¬ (I MO 75 : Int32) = 11 := by rw [w1]; decide
      have w1_12 : ¬ (I MO 75 : Int32) = 12 := by rw [w1]; decide
      have w1_13 : ¬ (I MO 75 : Int32) = 13 := by rw [w1]; decide
      have w1_14 : ¬ (I MO 75 : Int32) = 14 := by rw [w1]; decide
      refine g_aload_n (pc := 189) (dd d_Mod_result_1 14 rfl) rfl ?_
      refine g_getr (pc := 190) (dd d_Mod_result_1 15 rfl) f_Mod_74 ob_MO rfl (mr_registers hX) ?_
      refine g_aload_n (pc := 193) (dd d_Mod_result_1 16 rfl) rfl ?_
      refine g_geti (pc := 194) (dd d_Mod_result_1 17 rfl) f_Mod_495 ob_MO rfl ?_
      refine g_iald (pc := 197) (dd d_Mod_result_1 18 rfl) ar_A_registers (by first | assumption | (subst_vars; rw [vp_in_iff]; (try simp (decide := true) only [up_o, up_s, if_true, if_false] at  ⊢); (try simp only [← Int32.toInt_inj, Int32.lt_iff_toInt_lt, Int32.le_iff_toInt_le, Int32.reduceToInt] at  ⊢); first | omega | (simp only [Int32.toInt_add, Int32.toInt_sub, Int32.toInt_mul, Int32.reduceToInt, Int.bmod_def] at  ⊢; (repeat' split) <;> omega))) ?_
      try simp only [if_neg w1_1, if_neg w1_2, if_neg w1_3, if_neg w1_4, if_neg w1_5, if_neg w1_6, if_neg w1_7, if_neg w1_8, if_neg w1_9, if_neg w1_10, if_neg w1_11, if_neg w1_12, if_neg w1_13, if_neg w1_14, if_pos w1] at hT ⊢
      exact g_iret (pc := 198) rfl (dd d_Mod_result_1 19 rfl) hT
    · obtain rfl : off = 151 := (Option.some.inj ho).symm
      refine ⟨175, by decide, ?_⟩
      replace w1 : (I MO 75 : Int32) = 16 := Int32.toInt_inj.mp w1
      have w1_1 : ¬ (I MO 75 : Int32) = 1 := by rw [w1]; decide
      have w1_2 : ¬ (I MO 75 : Int32) = 2 := by rw [w1]; decide
      have w1_3 : ¬ (I MO 75 : Int32) = 3 := by rw [w1]; decide
      have w1_4 : ¬ (I MO 75 : Int32) = 4 := by rw [w1]; decide
      have w1_5 : ¬ (I MO 75 : Int32) = 5 := by rw [w1]; decide
      have w1_6 : ¬ (I MO 75 : Int32) = 6 := by rw [w1]; decide
      have w1_7 : ¬ (I MO 75 : Int32) = 7 := by rw [w1]; decide
      have w1_8 : ¬ (I MO 75 : Int32) = 8 := by rw [w1]; decide
      have w1_9 : ¬ (I MO 75 : Int32) = 9 := by rw [w1]; decide
      have w1_10 : ¬ (I MO 75 : Int32) = 10 := by rw [w1]; decide
      have w1_11 : ¬ (I MO 75 : Int32) = 11 := by rw [w1]; decide
      have w1_12 : ¬ (I MO 75 : Int32) = 12 := by rw [w1]; decide
      have w1_13 : ¬ (I MO 75 : Int32) = 13 := by rw [w1]; decide
      have w1_14 : ¬ (I MO 75 : Int32) = 14 := by rw [w1]; decide
      have w1_15 : ¬ (I MO 75 : Int32) = 15 := by rw [w1]; decide
      refine g_aload_n (pc := 175) (dd d_Mod_result_1 4 rfl) rfl ?_
      refine g_geti (pc := 176) (dd d_Mod_result_1 5 rfl) f_Mod_391 ob_MO rfl ?_
      refine g_iconst (pc := 179) (v := 1) (dd d_Mod_result_1 6 rfl) (by decide) ?_
      refine g_iadd (pc := 180) (dd d_Mod_result_1 7 rfl) ?_
      try simp only [if_neg w1_1, if_neg w1_2, if_neg w1_3, if_neg w1_4, if_neg w1_5, if_neg w1_6, if_neg w1_7, if_neg w1_8, if_neg w1_9, if_neg w1_10, if_neg w1_11, if_neg w1_12, if_neg w1_13, if_neg w1_14, if_neg w1_15, if_pos w1] at hT ⊢
      exact g_iret (pc := 181) rfl (dd d_Mod_result_1 8 rfl) hT
    · obtain rfl : off = 165 := (Option.some.inj ho).symm
      refine ⟨189, by decide, ?_⟩
      replace w1 : (I MO 75 : Int32) = 17 := Int32.toInt_inj.mp w1
      have w1_1 : ¬ (I MO 75 : Int32) = 1 := by rw [w1]; decide
      have w1_2 : ¬ (I MO 75 : Int32) = 2 := by rw [w1]; decide
      have w1_3 : ¬ (I MO 75 : Int32) = 3 := by rw [w1]; decide
      have w1_4 : ¬ (I MO 75 : Int32) = 4 := by rw [w1]; decide
      have w1_5 : ¬ (I MO 75 : Int32) = 5 := by rw [w1]; decide
      have w1_6 : ¬ (I MO 75 : Int32) = 6 := by rw [w1]; decide
      have w1_7 : ¬ (I MO 75 : Int32) = 7 := by rw [w1]; decide
      have w1_8 : ¬ (I MO 75 : Int32) = 8 := by rw [w1]; decide
      have w1_9 : ¬ (I MO 75 : Int32) = 9 := by rw [w1]; decide
      have w1_10 : ¬ (I MO 75 : Int32) = 10 := by rw [w1]; decide
      have w1_11 : ¬ (I MO 75 : Int32) = 11 := by rw [w1]; decide
      have w1_12 : ¬ (I MO 75 : Int32) = 12 := by rw [w1]; decide
      have w1_13 : ¬ (I MO 75 : Int32) = 13 := by rw [w1]; decide
      have w1_14 : ¬ (I MO 75 : Int32) = 14 := by rw [w1]; decide
      have w1_15 : ¬ (I MO 75 : Int32) = 15 := by rw [w1]; decide
      have w1_16 : ¬ (I MO 75 : Int32) = 16 := by rw [w1]; decide
      refine g_aload_n (pc := 189) (dd d_Mod_result_1 14 rfl) rfl ?_
      refine g_getr (pc := 190) (dd d_Mod_result_1 15 rfl) f_Mod_74 ob_MO rfl (mr_registers hX) ?_
      refine g_aload_n (pc := 193) (dd d_Mod_result_1 16 rfl) rfl ?_
      refine g_geti (pc := 194) (dd d_Mod_result_1 17 rfl) f_Mod_495 ob_MO rfl ?_
      refine g_iald (pc := 197) (dd d_Mod_result_1 18 rfl) ar_A_registers (by first | assumption | (subst_vars; rw [vp_in_iff]; (try simp (decide := true) only [up_o, up_s, if_true, if_false] at  ⊢); (try simp only [← Int32.toInt_inj, Int32.lt_iff_toInt_lt, Int32.le_iff_toInt_le, Int32.reduceToInt] at  ⊢); first | omega | (simp only [Int32.toInt_add, Int32.toInt_sub, Int32.toInt_mul, Int32.reduceToInt, Int.bmod_def] at  ⊢; (repeat' split) <;> omega))) ?_
      try simp only [if_neg w1_1, if_neg w1_2, if_neg w1_3, if_neg w1_4, if_neg w1_5, if_neg w1_6, if_neg w1_7, if_neg w1_8, if_neg w1_9, if_neg w1_10, if_neg w1_11, if_neg w1_12, if_neg w1_13, if_neg w1_14, if_neg w1_15, if_neg w1_16, if_pos w1] at hT ⊢
      exact g_iret (pc := 198) rfl (dd d_Mod_result_1 19 rfl) hT
    · obtain rfl : off = 158 := (Option.some.inj ho).symm
      refine ⟨182, by decide, ?_⟩
      replace w1 : (I MO 75 : Int32) = 18 := Int32.toInt_inj.mp w1
      have w1_1 : ¬ (I MO 75 : Int32) = 1 := by rw [w1]; decide
      have w1_2 : ¬ (I MO 75 : Int32) = 2 := by rw [w1]; decide
      have w1_3 : ¬ (I MO 75 : Int32) = 3 := by rw [w1]; decide
      have w1_4 : ¬ (I MO 75 : Int32) = 4 := by rw [w1]; decide
      have w1_5 : ¬ (I MO 75 : Int32) = 5 := by rw [w1]; decide
      have w1_6 : ¬ (I MO 75 : Int32) = 6 := by rw [w1]; decide
      have w1_7 : ¬ (I MO 75 : Int32) = 7 := by rw [w1]; decide
      have w1_8 : ¬ (I MO 75 : Int32) = 8 := by rw [w1]; decide
      have w1_9 : ¬ (I MO 75 : Int32) = 9 := by rw [w1]; decide
      have w1_10 : ¬ (I MO 75 : Int32) = 10 := by rw [w1]; decide
      have w1_11 : ¬ (I MO 75 : Int32) = 11 := by rw [w1]; decide
      have w1_12 : ¬ (I MO 75 : Int32) = 12 := by rw [w1]; decide
      have w1_13 : ¬ (I MO 75 : Int32) = 13 := by rw [w1]; decide
      have w1_14 : ¬ (I MO 75 : Int32) = 14 := by rw [w1]; decide
      have w1_15 : ¬ (I MO 75 : Int32) = 15 := by rw [w1]; decide
      have w1_16 : ¬ (I MO 75 : Int32) = 16 := by rw [w1]; decide
      have w1_17 : ¬ (I MO 75 : Int32) = 17 := by rw [w1]; decide
      refine g_aload_n (pc := 182) (dd d_Mod_result_1 9 rfl) rfl ?_
      refine g_getr (pc := 183) (dd d_Mod_result_1 10 rfl) f_Mod_80 ob_MO rfl (mr_inputValues hX) ?_
      refine g_iconst (pc := 186) (v := 0) (dd d_Mod_result_1 11 rfl) (by decide) ?_
      refine g_iald (pc := 187) (dd d_Mod_result_1 12 rfl) ar_A_inputValues (by rw [vp_in_iff]; decide) ?_
      try simp only [if_neg w1_1, if_neg w1_2, if_neg w1_3, if_neg w1_4, if_neg w1_5, if_neg w1_6, if_neg w1_7, if_neg w1_8, if_neg w1_9, if_neg w1_10, if_neg w1_11, if_neg w1_12, if_neg w1_13, if_neg w1_14, if_neg w1_15, if_neg w1_16, if_neg w1_17, if_pos w1] at hT ⊢
      exact g_iret (pc := 188) rfl (dd d_Mod_result_1 13 rfl) hT
    · cases ho
  · skip
    replace w1 : ((I MO 75 : Int32)).toInt < 1 ∨ 18 < ((I MO 75 : Int32)).toInt := w1
    have w1_1 : ¬ (I MO 75 : Int32) = 1 := fun e => by rw [e] at w1; revert w1; decide
    have w1_2 : ¬ (I MO 75 : Int32) = 2 := fun e => by rw [e] at w1; revert w1; decide
    have w1_3 : ¬ (I MO 75 : Int32) = 3 := fun e => by rw [e] at w1; revert w1; decide
    have w1_4 : ¬ (I MO 75 : Int32) = 4 := fun e => by rw [e] at w1; revert w1; decide
    have w1_5 : ¬ (I MO 75 : Int32) = 5 := fun e => by rw [e] at w1; revert w1; decide
    have w1_6 : ¬ (I MO 75 : Int32) = 6 := fun e => by rw [e] at w1; revert w1; decide
    have w1_7 : ¬ (I MO 75 : Int32) = 7 := fun e => by rw [e] at w1; revert w1; decide
    have w1_8 : ¬ (I MO 75 : Int32) = 8 := fun e => by rw [e] at w1; revert w1; decide
    have w1_9 : ¬ (I MO 75 : Int32) = 9 := fun e => by rw [e] at w1; revert w1; decide
    have w1_10 : ¬ (I MO 75 : Int32) = 10 := fun e => by rw [e] at w1; revert w1; decide
    have w1_11 : ¬ (I MO 75 : Int32) = 11 := fun e => by rw [e] at w1; revert w1; decide
    have w1_12 : ¬ (I MO 75 : Int32) = 12 := fun e => by rw [e] at w1; revert w1; decide
    have w1_13 : ¬ (I MO 75 : Int32) = 13 := fun e => by rw [e] at w1; revert w1; decide
    have w1_14 : ¬ (I MO 75 : Int32) = 14 := fun e => by rw [e] at w1; revert w1; decide
    have w1_15 : ¬ (I MO 75 : Int32) = 15 := fun e => by rw [e] at w1; revert w1; decide
    have w1_16 : ¬ (I MO 75 : Int32) = 16 := fun e => by rw [e] at w1; revert w1; decide
    have w1_17 : ¬ (I MO 75 : Int32) = 17 := fun e => by rw [e] at w1; revert w1; decide
    have w1_18 : ¬ (I MO 75 : Int32) = 18 := fun e => by rw [e] at w1; revert w1; decide
    refine g_aload_n (pc := 189) (dd d_Mod_result_1 14 rfl) rfl ?_
    refine g_getr (pc := 190) (dd d_Mod_result_1 15 rfl) f_Mod_74 ob_MO rfl (mr_registers hX) ?_
    refine g_aload_n (pc := 193) (dd d_Mod_result_1 16 rfl) rfl ?_
    refine g_geti (pc := 194) (dd d_Mod_result_1 17 rfl) f_Mod_495 ob_MO rfl ?_
    refine g_iald (pc := 197) (dd d_Mod_result_1 18 rfl) ar_A_registers (by first | assumption | (subst_vars; rw [vp_in_iff]; (try simp (decide := true) only [up_o, up_s, if_true, if_false] at  ⊢); (try simp only [← Int32.toInt_inj, Int32.lt_iff_toInt_lt, Int32.le_iff_toInt_le, Int32.reduceToInt] at  ⊢); first | omega | (simp only [Int32.toInt_add, Int32.toInt_sub, Int32.toInt_mul, Int32.reduceToInt, Int.bmod_def] at  ⊢; (repeat' split) <;> omega))) ?_
    try simp only [if_neg w1_1, if_neg w1_2, if_neg w1_3, if_neg w1_4, if_neg w1_5, if_neg w1_6, if_neg w1_7, if_neg w1_8, if_neg w1_9, if_neg w1_10, if_neg w1_11, if_neg w1_12, if_neg w1_13, if_neg w1_14, if_neg w1_15, if_neg w1_16, if_neg w1_17, if_neg w1_18] at hT ⊢
    exact g_iret (pc := 198) rfl (dd d_Mod_result_1 19 rfl) hT
