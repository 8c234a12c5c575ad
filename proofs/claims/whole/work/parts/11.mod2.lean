set_option maxRecDepth 20000 in
set_option maxHeartbeats 4000000 in
theorem ev_Mod_isWord {Δ : Dx} {X : Lx} (I : Nat → Nat → Int32) (v : Int32) : Ev Δ 1 m_Mod_isWord [.int v] (I, X) (some (.int (if 0 ≤ v ∧ v ≤ 95 then 1 else 0))) (I, X) := by
  refine ev_of (by decide) (Nat.le_of_ble_eq_true rfl) (fun Γ hk hR hT => ?_)
  refine g_iload_n (pc := 0) (dd d_Mod_isWord 0 rfl) rfl ?_
  refine g_iconst (pc := 1) (v := 0) (dd d_Mod_isWord 1 rfl) (by decide) ?_
  refine g_bipush (pc := 2) (v := 95) (dd d_Mod_isWord 2 rfl) (by decide) ?_
  refine g_callS (pc := 4) (dd d_Mod_isWord 3 rfl) s_Mod_243 (ev_Mod_in _ _ _ _) rfl (by rw [hk]; decide) (Nat.le_of_ble_eq_true rfl) ⟨Nat.zero_le _, Nat.zero_le _⟩ rfl ?_
  refine g_zret (pc := 7) rfl (by first | exact Or.inl rfl | exact Or.inr rfl | ((repeat' split) <;> first | exact Or.inl rfl | exact Or.inr rfl)) (dd d_Mod_isWord 4 rfl) (Tg_eq hT ?_ ?_)
  all_goals first | rfl | (subst_vars; (try simp (decide := true) only [up_o, up_s, if_true, if_false] at *); first | done | rfl | ((repeat' split) <;> first | rfl | (exfalso; simp only [Int32.lt_iff_toInt_lt, Int32.le_iff_toInt_le, Int32.reduceToInt] at *; omega) | (simp_all; done)))
set_option maxRecDepth 20000 in
set_option maxHeartbeats 4000000 in
theorem ev_Mod_codeOf {Δ : Dx} {X : Lx} (hX : MX Δ X) (I : Nat → Nat → Int32) (k what : Int32) : Ev Δ 1 m_Mod_codeOf [.ref (Δ.ba + MO), .int k, .int what] (I, X) (some (.int (if (0 ≤ k ∧ k ≤ 63) ∧ (0 ≤ what ∧ what ≤ 1) then (if what = 0 then I A_code k.toNatClampNeg else I A_codeTags k.toNatClampNeg) else 0))) (up I MO 0 (if (0 ≤ k ∧ k ≤ 63) then (if (0 ≤ what ∧ what ≤ 1) then 0 else 2) else 1), X) := by
  refine ev_of (by decide) (Nat.le_of_ble_eq_true rfl) (fun Γ hk hR hT => ?_)
  refine g_iload_n (pc := 0) (dd d_Mod_codeOf 0 rfl) rfl ?_
  refine g_iconst (pc := 1) (v := 0) (dd d_Mod_codeOf 1 rfl) (by decide) ?_
  refine g_bipush (pc := 2) (v := 63) (dd d_Mod_codeOf 2 rfl) (by decide) ?_
  refine g_callS (pc := 4) (dd d_Mod_codeOf 3 rfl) s_Mod_243 (ev_Mod_in _ _ _ _) rfl (by rw [hk]; decide) (Nat.le_of_ble_eq_true rfl) ⟨Nat.zero_le _, Nat.zero_le _⟩ rfl ?_
  refine g_istore_n (pc := 7) (dd d_Mod_codeOf 4 rfl) (by decide) ?_
  refine g_aload_n (pc := 8) (dd d_Mod_codeOf 5 rfl) rfl ?_
  refine g_iload_n (pc := 9) (dd d_Mod_codeOf 6 rfl) rfl ?_
  suffices K10 : GG Δ m_Mod_codeOf Γ NN 0 0 (I, X) 18 [some (.ref (Δ.ba + MO)), some (.int (k)), some (.int (what)), some (.int (if 0 ≤ k ∧ k ≤ 63 then 1 else 0))] [.int (if (if 0 ≤ k ∧ k ≤ 63 then 1 else 0 : Int32) = 0 then 1 else 0), .ref (Δ.ba + MO)] by
    refine g_ifne (pc := 10) (tgt := 17) (dd d_Mod_codeOf 7 rfl) (by decide) (fun q1 => ?_) (fun q1 => ?_)
    · skip
      refine g_iconst (pc := 17) (v := 0) (dd d_Mod_codeOf 10 rfl) (by decide) ?_
      rw [if_neg q1] at K10
      exact K10
    · skip
      refine g_iconst (pc := 13) (v := 1) (dd d_Mod_codeOf 8 rfl) (by decide) ?_
      refine g_goto (pc := 14) (tgt := 18) (dd d_Mod_codeOf 9 rfl) (by decide) ?_
      rw [if_pos q1] at K10
      exact K10
  refine g_iload_n (pc := 18) (dd d_Mod_codeOf 11 rfl) rfl ?_
  suffices K19 : GG Δ m_Mod_codeOf Γ NN 0 0 (I, X) 36 [some (.ref (Δ.ba + MO)), some (.int (k)), some (.int (what)), some (.int (if 0 ≤ k ∧ k ≤ 63 then 1 else 0))] [.int (if (if 0 ≤ k ∧ k ≤ 63 then 1 else 0 : Int32) = 0 then 0 else (if (if 0 ≤ what ∧ what ≤ 1 then 1 else 0 : Int32) = 0 then 1 else 0)), .int (if (if 0 ≤ k ∧ k ≤ 63 then 1 else 0 : Int32) = 0 then 1 else 0), .ref (Δ.ba + MO)] by
    refine g_ifeq (pc := 19) (tgt := 35) (dd d_Mod_codeOf 12 rfl) (by decide) (fun q2 => ?_) (fun q2 => ?_)
    · skip
      refine g_iconst (pc := 35) (v := 0) (dd d_Mod_codeOf 20 rfl) (by decide) ?_
      rw [if_pos q2] at K19
      exact K19
    · skip
      refine g_iload_n (pc := 22) (dd d_Mod_codeOf 13 rfl) rfl ?_
      refine g_iconst (pc := 23) (v := 0) (dd d_Mod_codeOf 14 rfl) (by decide) ?_
      refine g_iconst (pc := 24) (v := 1) (dd d_Mod_codeOf 15 rfl) (by decide) ?_
      refine g_callS (pc := 25) (dd d_Mod_codeOf 16 rfl) s_Mod_243 (ev_Mod_in _ _ _ _) rfl (by rw [hk]; decide) (Nat.le_of_ble_eq_true rfl) ⟨Nat.zero_le _, Nat.zero_le _⟩ rfl ?_
      refine g_ifne (pc := 28) (tgt := 35) (dd d_Mod_codeOf 17 rfl) (by decide) (fun q3 => ?_) (fun q3 => ?_)
      · skip
        refine g_iconst (pc := 35) (v := 0) (dd d_Mod_codeOf 20 rfl) (by decide) ?_
        rw [if_neg q2, if_neg q3] at K19
        exact K19
      · skip
        refine g_iconst (pc := 31) (v := 1) (dd d_Mod_codeOf 18 rfl) (by decide) ?_
        refine g_goto (pc := 32) (tgt := 36) (dd d_Mod_codeOf 19 rfl) (by decide) ?_
        rw [if_neg q2, if_pos q3] at K19
        exact K19
  refine g_callV (pc := 36) (dd d_Mod_codeOf 21 rfl) v_Mod_250 ob_MO rfl (ev_Mod_refuse hX _ _ _) rfl (by rw [hk]; decide) (Nat.le_of_ble_eq_true rfl) ⟨Nat.zero_le _, Nat.zero_le _⟩ rfl ?_
  obtain ⟨I1, hI1⟩ : ∃ z, z = up I MO 0 (thr (if (if 0 ≤ k ∧ k ≤ 63 then 1 else 0 : Int32) = 0 then 1 else 0 : Int32) (if (if 0 ≤ k ∧ k ≤ 63 then 1 else 0 : Int32) = 0 then 0 else (if (if 0 ≤ what ∧ what ≤ 1 then 1 else 0 : Int32) = 0 then 1 else 0) : Int32)) := ⟨_, rfl⟩
  rw [← hI1]
  refine g_ifeq (pc := 39) (tgt := 44) (dd d_Mod_codeOf 22 rfl) (by decide) (fun h39 => ?_) (fun h39 => ?_)
  · try simp only [e1x, e0x, i10, thrP, thrN, Classical.not_not, not_and, not_or, not_true_eq_false, not_false_eq_true, true_and, and_true, and_self, or_false, or_true, false_or, true_or, eq_self] at h39
    refine g_iload_n (pc := 44) (dd d_Mod_codeOf 25 rfl) rfl ?_
    suffices K45 : GG Δ m_Mod_codeOf Γ NN 0 0 (I1, X) 63 [some (.ref (Δ.ba + MO)), some (.int (k)), some (.int (what)), some (.int (if 0 ≤ k ∧ k ≤ 63 then 1 else 0))] [.int (if what = 0 then (I1 A_code (k).toNatClampNeg) else (I1 A_codeTags (k).toNatClampNeg))] by
      refine g_ifne (pc := 45) (tgt := 57) (dd d_Mod_codeOf 26 rfl) (by decide) (fun q4 => ?_) (fun q4 => ?_)
      · skip
        refine g_aload_n (pc := 57) (dd d_Mod_codeOf 32 rfl) rfl ?_
        refine g_getr (pc := 58) (dd d_Mod_codeOf 33 rfl) f_Mod_62 ob_MO rfl (mr_codeTags hX) ?_
        refine g_iload_n (pc := 61) (dd d_Mod_codeOf 34 rfl) rfl ?_
        refine g_iald (pc := 62) (dd d_Mod_codeOf 35 rfl) ar_A_codeTags (by first | assumption | (subst_vars; rw [vp_in_iff]; (try simp (decide := true) only [up_o, up_s] at *); simp only [Int32.lt_iff_toInt_lt, Int32.le_iff_toInt_le, Int32.reduceToInt] at *; omega)) ?_
        rw [if_neg q4] at K45
        exact K45
      · skip
        refine g_aload_n (pc := 48) (dd d_Mod_codeOf 27 rfl) rfl ?_
        refine g_getr (pc := 49) (dd d_Mod_codeOf 28 rfl) f_Mod_59 ob_MO rfl (mr_code hX) ?_
        refine g_iload_n (pc := 52) (dd d_Mod_codeOf 29 rfl) rfl ?_
        refine g_iald (pc := 53) (dd d_Mod_codeOf 30 rfl) ar_A_code (by first | assumption | (subst_vars; rw [vp_in_iff]; (try simp (decide := true) only [up_o, up_s] at *); simp only [Int32.lt_iff_toInt_lt, Int32.le_iff_toInt_le, Int32.reduceToInt] at *; omega)) ?_
        refine g_goto (pc := 54) (tgt := 63) (dd d_Mod_codeOf 31 rfl) (by decide) ?_
        rw [if_pos q4] at K45
        exact K45
    refine g_iret (pc := 63) rfl (dd d_Mod_codeOf 36 rfl) (Tg_eq hT ?_ ?_)
    all_goals first | rfl | (subst_vars; (try simp (decide := true) only [thr, up_o, up_s, if_true, if_false] at *); first | done | rfl | ((repeat' split) <;> first | rfl | (exfalso; simp only [Int32.lt_iff_toInt_lt, Int32.le_iff_toInt_le, Int32.reduceToInt] at *; omega) | (simp_all; done)))
  · try simp only [e1x, e0x, i10, thrP, thrN, Classical.not_not, not_and, not_or, not_true_eq_false, not_false_eq_true, true_and, and_true, and_self, or_false, or_true, false_or, true_or, eq_self] at h39
    refine g_iconst (pc := 42) (v := 0) (dd d_Mod_codeOf 23 rfl) (by decide) ?_
    refine g_iret (pc := 43) rfl (dd d_Mod_codeOf 24 rfl) (Tg_eq hT ?_ ?_)
    all_goals first | rfl | (subst_vars; (try simp (decide := true) only [thr, up_o, up_s, if_true, if_false] at *); first | done | rfl | ((repeat' split) <;> first | rfl | (exfalso; simp only [Int32.lt_iff_toInt_lt, Int32.le_iff_toInt_le, Int32.reduceToInt] at *; omega) | (simp_all; done)))
set_option maxRecDepth 20000 in
set_option maxHeartbeats 4000000 in
theorem ev_Mod_code {Δ : Dx} {X : Lx} (hX : MX Δ X) (I : Nat → Nat → Int32) (k v t : Int32) : Ev Δ 1 m_Mod_code [.ref (Δ.ba + MO), .int k, .int v, .int t] (I, X) none ((if (0 ≤ k ∧ k ≤ 63) then up (up (up I MO 0 0) A_code k.toNatClampNeg v) A_codeTags k.toNatClampNeg t else up I MO 0 (if (0 ≤ k ∧ k ≤ 63) then 0 else 1)), X) := by
  refine ev_of (by decide) (Nat.le_of_ble_eq_true rfl) (fun Γ hk hR hT => ?_)
  refine g_aload_n (pc := 0) (dd d_Mod_code 0 rfl) rfl ?_
  refine g_iload_n (pc := 1) (dd d_Mod_code 1 rfl) rfl ?_
  refine g_iconst (pc := 2) (v := 0) (dd d_Mod_code 2 rfl) (by decide) ?_
  refine g_bipush (pc := 3) (v := 63) (dd d_Mod_code 3 rfl) (by decide) ?_
  refine g_callS (pc := 5) (dd d_Mod_code 4 rfl) s_Mod_243 (ev_Mod_in _ _ _ _) rfl (by rw [hk]; decide) (Nat.le_of_ble_eq_true rfl) ⟨Nat.zero_le _, Nat.zero_le _⟩ rfl ?_
  suffices K8 : GG Δ m_Mod_code Γ NN 0 0 (I, X) 16 [some (.ref (Δ.ba + MO)), some (.int (k)), some (.int (v)), some (.int (t))] [.int (if (if 0 ≤ k ∧ k ≤ 63 then 1 else 0 : Int32) = 0 then 1 else 0), .ref (Δ.ba + MO)] by
    refine g_ifne (pc := 8) (tgt := 15) (dd d_Mod_code 5 rfl) (by decide) (fun q1 => ?_) (fun q1 => ?_)
    · skip
      refine g_iconst (pc := 15) (v := 0) (dd d_Mod_code 8 rfl) (by decide) ?_
      rw [if_neg q1] at K8
      exact K8
    · skip
      refine g_iconst (pc := 11) (v := 1) (dd d_Mod_code 6 rfl) (by decide) ?_
      refine g_goto (pc := 12) (tgt := 16) (dd d_Mod_code 7 rfl) (by decide) ?_
      rw [if_pos q1] at K8
      exact K8
  refine g_iconst (pc := 16) (v := 0) (dd d_Mod_code 9 rfl) (by decide) ?_
  refine g_callV (pc := 17) (dd d_Mod_code 10 rfl) v_Mod_250 ob_MO rfl (ev_Mod_refuse hX _ _ _) rfl (by rw [hk]; decide) (Nat.le_of_ble_eq_true rfl) ⟨Nat.zero_le _, Nat.zero_le _⟩ rfl ?_
  obtain ⟨I1, hI1⟩ : ∃ z, z = up I MO 0 (thr (if (if 0 ≤ k ∧ k ≤ 63 then 1 else 0 : Int32) = 0 then 1 else 0 : Int32) 0) := ⟨_, rfl⟩
  rw [← hI1]
  refine g_ifne (pc := 20) (tgt := 37) (dd d_Mod_code 11 rfl) (by decide) (fun h20 => ?_) (fun h20 => ?_)
  · try simp only [e1x, e0x, i10, thrP, thrN, Classical.not_not, not_and, not_or, not_true_eq_false, not_false_eq_true, true_and, and_true, and_self, or_false, or_true, false_or, true_or, eq_self] at h20
    refine g_vret (pc := 37) rfl (dd d_Mod_code 22 rfl) (Tg_eq hT ?_ ?_)
    all_goals first | rfl | (subst_vars; (try simp (decide := true) only [thr, up_o, up_s, if_true, if_false] at *); first | done | rfl | ((repeat' split) <;> first | rfl | (exfalso; simp only [Int32.lt_iff_toInt_lt, Int32.le_iff_toInt_le, Int32.reduceToInt] at *; omega) | (simp_all; done)))
  · try simp only [e1x, e0x, i10, thrP, thrN, Classical.not_not, not_and, not_or, not_true_eq_false, not_false_eq_true, true_and, and_true, and_self, or_false, or_true, false_or, true_or, eq_self] at h20
    refine g_aload_n (pc := 23) (dd d_Mod_code 12 rfl) rfl ?_
    refine g_getr (pc := 24) (dd d_Mod_code 13 rfl) f_Mod_59 ob_MO rfl (mr_code hX) ?_
    refine g_iload_n (pc := 27) (dd d_Mod_code 14 rfl) rfl ?_
    refine g_iload_n (pc := 28) (dd d_Mod_code 15 rfl) rfl ?_
    refine g_iastN (pc := 29) (dd d_Mod_code 16 rfl) ar_A_code (by first | assumption | (subst_vars; rw [vp_in_iff]; (try simp (decide := true) only [up_o, up_s] at *); simp only [Int32.lt_iff_toInt_lt, Int32.le_iff_toInt_le, Int32.reduceToInt] at *; omega)) (fun I2 hI2 => ?_)
    refine g_aload_n (pc := 30) (dd d_Mod_code 17 rfl) rfl ?_
    refine g_getr (pc := 31) (dd d_Mod_code 18 rfl) f_Mod_62 ob_MO rfl (mr_codeTags hX) ?_
    refine g_iload_n (pc := 34) (dd d_Mod_code 19 rfl) rfl ?_
    refine g_iload_n (pc := 35) (dd d_Mod_code 20 rfl) rfl ?_
    refine g_iastN (pc := 36) (dd d_Mod_code 21 rfl) ar_A_codeTags (by first | assumption | (subst_vars; rw [vp_in_iff]; (try simp (decide := true) only [up_o, up_s] at *); simp only [Int32.lt_iff_toInt_lt, Int32.le_iff_toInt_le, Int32.reduceToInt] at *; omega)) (fun I3 hI3 => ?_)
    refine g_vret (pc := 37) rfl (dd d_Mod_code 22 rfl) (Tg_eq hT ?_ ?_)
    all_goals first | rfl | (subst_vars; (try simp (decide := true) only [thr, up_o, up_s, if_true, if_false] at *); first | done | rfl | ((repeat' split) <;> first | rfl | (exfalso; simp only [Int32.lt_iff_toInt_lt, Int32.le_iff_toInt_le, Int32.reduceToInt] at *; omega) | (simp_all; done)))
set_option maxRecDepth 20000 in
set_option maxHeartbeats 4000000 in
theorem ev_Mod_word {Δ : Dx} {X : Lx} (hX : MX Δ X) (I : Nat → Nat → Int32) (k v h o : Int32) : Ev Δ 2 m_Mod_word [.ref (Δ.ba + MO), .int k, .int v, .int h, .int o] (I, X) none ((if (0 ≤ k ∧ k ≤ 95) then up (up (up (up I MO 0 0) A_ints k.toNatClampNeg v) A_held k.toNatClampNeg h) A_owners k.toNatClampNeg o else up I MO 0 (if (0 ≤ k ∧ k ≤ 95) then 0 else 1)), X) := by
  refine ev_of (by decide) (Nat.le_of_ble_eq_true rfl) (fun Γ hk hR hT => ?_)
  refine g_aload_n (pc := 0) (dd d_Mod_word 0 rfl) rfl ?_
  refine g_iload_n (pc := 1) (dd d_Mod_word 1 rfl) rfl ?_
  refine g_callS (pc := 2) (dd d_Mod_word 2 rfl) s_Mod_421 (ev_Mod_isWord _ _) rfl (by rw [hk]; decide) (Nat.le_of_ble_eq_true rfl) ⟨Nat.zero_le _, Nat.zero_le _⟩ rfl ?_
  suffices K5 : GG Δ m_Mod_word Γ NN 0 0 (I, X) 13 [some (.ref (Δ.ba + MO)), some (.int (k)), some (.int (v)), some (.int (h)), some (.int (o))] [.int (if (if 0 ≤ k ∧ k ≤ 95 then 1 else 0 : Int32) = 0 then 1 else 0), .ref (Δ.ba + MO)] by
    refine g_ifne (pc := 5) (tgt := 12) (dd d_Mod_word 3 rfl) (by decide) (fun q1 => ?_) (fun q1 => ?_)
    · skip
      refine g_iconst (pc := 12) (v := 0) (dd d_Mod_word 6 rfl) (by decide) ?_
      rw [if_neg q1] at K5
      exact K5
    · skip
      refine g_iconst (pc := 8) (v := 1) (dd d_Mod_word 4 rfl) (by decide) ?_
      refine g_goto (pc := 9) (tgt := 13) (dd d_Mod_word 5 rfl) (by decide) ?_
      rw [if_pos q1] at K5
      exact K5
  refine g_iconst (pc := 13) (v := 0) (dd d_Mod_word 7 rfl) (by decide) ?_
  refine g_callV (pc := 14) (dd d_Mod_word 8 rfl) v_Mod_250 ob_MO rfl (ev_Mod_refuse hX _ _ _) rfl (by rw [hk]; decide) (Nat.le_of_ble_eq_true rfl) ⟨Nat.zero_le _, Nat.zero_le _⟩ rfl ?_
  obtain ⟨I1, hI1⟩ : ∃ z, z = up I MO 0 (thr (if (if 0 ≤ k ∧ k ≤ 95 then 1 else 0 : Int32) = 0 then 1 else 0 : Int32) 0) := ⟨_, rfl⟩
  rw [← hI1]
  refine g_ifne (pc := 17) (tgt := 42) (dd d_Mod_word 9 rfl) (by decide) (fun h17 => ?_) (fun h17 => ?_)
  · try simp only [e1x, e0x, i10, thrP, thrN, Classical.not_not, not_and, not_or, not_true_eq_false, not_false_eq_true, true_and, and_true, and_self, or_false, or_true, false_or, true_or, eq_self] at h17
    refine g_vret (pc := 42) rfl (dd d_Mod_word 25 rfl) (Tg_eq hT ?_ ?_)
    all_goals first | rfl | (subst_vars; (try simp (decide := true) only [thr, up_o, up_s, if_true, if_false] at *); first | done | rfl | ((repeat' split) <;> first | rfl | (exfalso; simp only [Int32.lt_iff_toInt_lt, Int32.le_iff_toInt_le, Int32.reduceToInt] at *; omega) | (simp_all; done)))
  · try simp only [e1x, e0x, i10, thrP, thrN, Classical.not_not, not_and, not_or, not_true_eq_false, not_false_eq_true, true_and, and_true, and_self, or_false, or_true, false_or, true_or, eq_self] at h17
    refine g_aload_n (pc := 20) (dd d_Mod_word 10 rfl) rfl ?_
    refine g_getr (pc := 21) (dd d_Mod_word 11 rfl) f_Mod_65 ob_MO rfl (mr_ints hX) ?_
    refine g_iload_n (pc := 24) (dd d_Mod_word 12 rfl) rfl ?_
    refine g_iload_n (pc := 25) (dd d_Mod_word 13 rfl) rfl ?_
    refine g_iastN (pc := 26) (dd d_Mod_word 14 rfl) ar_A_ints (by first | assumption | (subst_vars; rw [vp_in_iff]; (try simp (decide := true) only [up_o, up_s] at *); simp only [Int32.lt_iff_toInt_lt, Int32.le_iff_toInt_le, Int32.reduceToInt] at *; omega)) (fun I2 hI2 => ?_)
    refine g_aload_n (pc := 27) (dd d_Mod_word 15 rfl) rfl ?_
    refine g_getr (pc := 28) (dd d_Mod_word 16 rfl) f_Mod_68 ob_MO rfl (mr_held hX) ?_
    refine g_iload_n (pc := 31) (dd d_Mod_word 17 rfl) rfl ?_
    refine g_iload_n (pc := 32) (dd d_Mod_word 18 rfl) rfl ?_
    refine g_iastN (pc := 33) (dd d_Mod_word 19 rfl) ar_A_held (by first | assumption | (subst_vars; rw [vp_in_iff]; (try simp (decide := true) only [up_o, up_s] at *); simp only [Int32.lt_iff_toInt_lt, Int32.le_iff_toInt_le, Int32.reduceToInt] at *; omega)) (fun I3 hI3 => ?_)
    refine g_aload_n (pc := 34) (dd d_Mod_word 20 rfl) rfl ?_
    refine g_getr (pc := 35) (dd d_Mod_word 21 rfl) f_Mod_71 ob_MO rfl (mr_owners hX) ?_
    refine g_iload_n (pc := 38) (dd d_Mod_word 22 rfl) rfl ?_
    refine g_iload (pc := 39) (dd d_Mod_word 23 rfl) rfl ?_
    refine g_iastN (pc := 41) (dd d_Mod_word 24 rfl) ar_A_owners (by first | assumption | (subst_vars; rw [vp_in_iff]; (try simp (decide := true) only [up_o, up_s] at *); simp only [Int32.lt_iff_toInt_lt, Int32.le_iff_toInt_le, Int32.reduceToInt] at *; omega)) (fun I4 hI4 => ?_)
    refine g_vret (pc := 42) rfl (dd d_Mod_word 25 rfl) (Tg_eq hT ?_ ?_)
    all_goals first | rfl | (subst_vars; (try simp (decide := true) only [thr, up_o, up_s, if_true, if_false] at *); first | done | rfl | ((repeat' split) <;> first | rfl | (exfalso; simp only [Int32.lt_iff_toInt_lt, Int32.le_iff_toInt_le, Int32.reduceToInt] at *; omega) | (simp_all; done)))
set_option maxRecDepth 20000 in
set_option maxHeartbeats 4000000 in
theorem ev_Mod_wordOf {Δ : Dx} {X : Lx} (hX : MX Δ X) (I : Nat → Nat → Int32) (k what : Int32) : Ev Δ 2 m_Mod_wordOf [.ref (Δ.ba + MO), .int k, .int what] (I, X) (some (.int (if (0 ≤ k ∧ k ≤ 95) ∧ (0 ≤ what ∧ what ≤ 2) then (if what = 0 then I A_ints k.toNatClampNeg else if what = 1 then I A_held k.toNatClampNeg else I A_owners k.toNatClampNeg) else 0))) (up I MO 0 (if (0 ≤ k ∧ k ≤ 95) then (if (0 ≤ what ∧ what ≤ 2) then 0 else 2) else 1), X) := by
  refine ev_of (by decide) (Nat.le_of_ble_eq_true rfl) (fun Γ hk hR hT => ?_)
  refine g_aload_n (pc := 0) (dd d_Mod_wordOf 0 rfl) rfl ?_
  refine g_iload_n (pc := 1) (dd d_Mod_wordOf 1 rfl) rfl ?_
  refine g_callS (pc := 2) (dd d_Mod_wordOf 2 rfl) s_Mod_421 (ev_Mod_isWord _ _) rfl (by rw [hk]; decide) (Nat.le_of_ble_eq_true rfl) ⟨Nat.zero_le _, Nat.zero_le _⟩ rfl ?_
  suffices K5 : GG Δ m_Mod_wordOf Γ NN 0 0 (I, X) 13 [some (.ref (Δ.ba + MO)), some (.int (k)), some (.int (what))] [.int (if (if 0 ≤ k ∧ k ≤ 95 then 1 else 0 : Int32) = 0 then 1 else 0), .ref (Δ.ba + MO)] by
    refine g_ifne (pc := 5) (tgt := 12) (dd d_Mod_wordOf 3 rfl) (by decide) (fun q1 => ?_) (fun q1 => ?_)
    · skip
      refine g_iconst (pc := 12) (v := 0) (dd d_Mod_wordOf 6 rfl) (by decide) ?_
      rw [if_neg q1] at K5
      exact K5
    · skip
      refine g_iconst (pc := 8) (v := 1) (dd d_Mod_wordOf 4 rfl) (by decide) ?_
      refine g_goto (pc := 9) (tgt := 13) (dd d_Mod_wordOf 5 rfl) (by decide) ?_
      rw [if_pos q1] at K5
      exact K5
  refine g_iload_n (pc := 13) (dd d_Mod_wordOf 7 rfl) rfl ?_
  refine g_callS (pc := 14) (dd d_Mod_wordOf 8 rfl) s_Mod_421 (ev_Mod_isWord _ _) rfl (by rw [hk]; decide) (Nat.le_of_ble_eq_true rfl) ⟨Nat.zero_le _, Nat.zero_le _⟩ rfl ?_
  suffices K17 : GG Δ m_Mod_wordOf Γ NN 0 0 (I, X) 34 [some (.ref (Δ.ba + MO)), some (.int (k)), some (.int (what))] [.int (if (if 0 ≤ k ∧ k ≤ 95 then 1 else 0 : Int32) = 0 then 0 else (if (if 0 ≤ what ∧ what ≤ 2 then 1 else 0 : Int32) = 0 then 1 else 0)), .int (if (if 0 ≤ k ∧ k ≤ 95 then 1 else 0 : Int32) = 0 then 1 else 0), .ref (Δ.ba + MO)] by
    refine g_ifeq (pc := 17) (tgt := 33) (dd d_Mod_wordOf 9 rfl) (by decide) (fun q2 => ?_) (fun q2 => ?_)
    · skip
      refine g_iconst (pc := 33) (v := 0) (dd d_Mod_wordOf 17 rfl) (by decide) ?_
      rw [if_pos q2] at K17
      exact K17
    · skip
      refine g_iload_n (pc := 20) (dd d_Mod_wordOf 10 rfl) rfl ?_
      refine g_iconst (pc := 21) (v := 0) (dd d_Mod_wordOf 11 rfl) (by decide) ?_
      refine g_iconst (pc := 22) (v := 2) (dd d_Mod_wordOf 12 rfl) (by decide) ?_
      refine g_callS (pc := 23) (dd d_Mod_wordOf 13 rfl) s_Mod_243 (ev_Mod_in _ _ _ _) rfl (by rw [hk]; decide) (Nat.le_of_ble_eq_true rfl) ⟨Nat.zero_le _, Nat.zero_le _⟩ rfl ?_
      refine g_ifne (pc := 26) (tgt := 33) (dd d_Mod_wordOf 14 rfl) (by decide) (fun q3 => ?_) (fun q3 => ?_)
      · skip
        refine g_iconst (pc := 33) (v := 0) (dd d_Mod_wordOf 17 rfl) (by decide) ?_
        rw [if_neg q2, if_neg q3] at K17
        exact K17
      · skip
        refine g_iconst (pc := 29) (v := 1) (dd d_Mod_wordOf 15 rfl) (by decide) ?_
        refine g_goto (pc := 30) (tgt := 34) (dd d_Mod_wordOf 16 rfl) (by decide) ?_
        rw [if_neg q2, if_pos q3] at K17
        exact K17
  refine g_callV (pc := 34) (dd d_Mod_wordOf 18 rfl) v_Mod_250 ob_MO rfl (ev_Mod_refuse hX _ _ _) rfl (by rw [hk]; decide) (Nat.le_of_ble_eq_true rfl) ⟨Nat.zero_le _, Nat.zero_le _⟩ rfl ?_
  obtain ⟨I1, hI1⟩ : ∃ z, z = up I MO 0 (thr (if (if 0 ≤ k ∧ k ≤ 95 then 1 else 0 : Int32) = 0 then 1 else 0 : Int32) (if (if 0 ≤ k ∧ k ≤ 95 then 1 else 0 : Int32) = 0 then 0 else (if (if 0 ≤ what ∧ what ≤ 2 then 1 else 0 : Int32) = 0 then 1 else 0) : Int32)) := ⟨_, rfl⟩
  rw [← hI1]
  refine g_ifeq (pc := 37) (tgt := 42) (dd d_Mod_wordOf 19 rfl) (by decide) (fun h37 => ?_) (fun h37 => ?_)
  · try simp only [e1x, e0x, i10, thrP, thrN, Classical.not_not, not_and, not_or, not_true_eq_false, not_false_eq_true, true_and, and_true, and_self, or_false, or_true, false_or, true_or, eq_self] at h37
    refine g_iload_n (pc := 42) (dd d_Mod_wordOf 22 rfl) rfl ?_
    suffices K43 : GG Δ m_Mod_wordOf Γ NN 0 0 (I1, X) 75 [some (.ref (Δ.ba + MO)), some (.int (k)), some (.int (what))] [.int (if what = 0 then (I1 A_ints (k).toNatClampNeg) else (if what = (1 : Int32) then (I1 A_held (k).toNatClampNeg) else (I1 A_owners (k).toNatClampNeg)))] by
      refine g_ifne (pc := 43) (tgt := 55) (dd d_Mod_wordOf 23 rfl) (by decide) (fun q4 => ?_) (fun q4 => ?_)
      · skip
        refine g_iload_n (pc := 55) (dd d_Mod_wordOf 29 rfl) rfl ?_
        refine g_iconst (pc := 56) (v := 1) (dd d_Mod_wordOf 30 rfl) (by decide) ?_
        refine g_icmpne (pc := 57) (tgt := 69) (dd d_Mod_wordOf 31 rfl) (by decide) (fun q5 => ?_) (fun q5 => ?_)
        · skip
          refine g_aload_n (pc := 69) (dd d_Mod_wordOf 37 rfl) rfl ?_
          refine g_getr (pc := 70) (dd d_Mod_wordOf 38 rfl) f_Mod_71 ob_MO rfl (mr_owners hX) ?_
          refine g_iload_n (pc := 73) (dd d_Mod_wordOf 39 rfl) rfl ?_
          refine g_iald (pc := 74) (dd d_Mod_wordOf 40 rfl) ar_A_owners (by first | assumption | (subst_vars; rw [vp_in_iff]; (try simp (decide := true) only [up_o, up_s] at *); simp only [Int32.lt_iff_toInt_lt, Int32.le_iff_toInt_le, Int32.reduceToInt] at *; omega)) ?_
          rw [if_neg q4, if_neg q5] at K43
          exact K43
        · skip
          refine g_aload_n (pc := 60) (dd d_Mod_wordOf 32 rfl) rfl ?_
          refine g_getr (pc := 61) (dd d_Mod_wordOf 33 rfl) f_Mod_68 ob_MO rfl (mr_held hX) ?_
          refine g_iload_n (pc := 64) (dd d_Mod_wordOf 34 rfl) rfl ?_
          refine g_iald (pc := 65) (dd d_Mod_wordOf 35 rfl) ar_A_held (by first | assumption | (subst_vars; rw [vp_in_iff]; (try simp (decide := true) only [up_o, up_s] at *); simp only [Int32.lt_iff_toInt_lt, Int32.le_iff_toInt_le, Int32.reduceToInt] at *; omega)) ?_
          refine g_goto (pc := 66) (tgt := 75) (dd d_Mod_wordOf 36 rfl) (by decide) ?_
          rw [if_neg q4, if_pos q5] at K43
          exact K43
      · skip
        refine g_aload_n (pc := 46) (dd d_Mod_wordOf 24 rfl) rfl ?_
        refine g_getr (pc := 47) (dd d_Mod_wordOf 25 rfl) f_Mod_65 ob_MO rfl (mr_ints hX) ?_
        refine g_iload_n (pc := 50) (dd d_Mod_wordOf 26 rfl) rfl ?_
        refine g_iald (pc := 51) (dd d_Mod_wordOf 27 rfl) ar_A_ints (by first | assumption | (subst_vars; rw [vp_in_iff]; (try simp (decide := true) only [up_o, up_s] at *); simp only [Int32.lt_iff_toInt_lt, Int32.le_iff_toInt_le, Int32.reduceToInt] at *; omega)) ?_
        refine g_goto (pc := 52) (tgt := 75) (dd d_Mod_wordOf 28 rfl) (by decide) ?_
        rw [if_pos q4] at K43
        exact K43
    refine g_iret (pc := 75) rfl (dd d_Mod_wordOf 41 rfl) (Tg_eq hT ?_ ?_)
    all_goals first | rfl | (subst_vars; (try simp (decide := true) only [thr, up_o, up_s, if_true, if_false] at *); first | done | rfl | ((repeat' split) <;> first | rfl | (exfalso; simp only [Int32.lt_iff_toInt_lt, Int32.le_iff_toInt_le, Int32.reduceToInt] at *; omega) | (simp_all; done)))
  · try simp only [e1x, e0x, i10, thrP, thrN, Classical.not_not, not_and, not_or, not_true_eq_false, not_false_eq_true, true_and, and_true, and_self, or_false, or_true, false_or, true_or, eq_self] at h37
    refine g_iconst (pc := 40) (v := 0) (dd d_Mod_wordOf 20 rfl) (by decide) ?_
    refine g_iret (pc := 41) rfl (dd d_Mod_wordOf 21 rfl) (Tg_eq hT ?_ ?_)
    all_goals first | rfl | (subst_vars; (try simp (decide := true) only [thr, up_o, up_s, if_true, if_false] at *); first | done | rfl | ((repeat' split) <;> first | rfl | (exfalso; simp only [Int32.lt_iff_toInt_lt, Int32.le_iff_toInt_le, Int32.reduceToInt] at *; omega) | (simp_all; done)))
set_option maxRecDepth 20000 in
set_option maxHeartbeats 4000000 in
theorem ev_Mod_end {Δ : Dx} {X : Lx} (hX : MX Δ X) (I : Nat → Nat → Int32) (m : Int32) : Ev Δ 1 m_Mod_end [.ref (Δ.ba + MO), .int m] (I, X) none ((if (0 ≤ m ∧ m ≤ I MO 2) then up (up I MO 0 0) MO 2 m else up I MO 0 (if (0 ≤ m ∧ m ≤ I MO 2) then 0 else 1)), X) := by
  refine ev_of (by decide) (Nat.le_of_ble_eq_true rfl) (fun Γ hk hR hT => ?_)
  refine g_aload_n (pc := 0) (dd d_Mod_end 0 rfl) rfl ?_
  refine g_iload_n (pc := 1) (dd d_Mod_end 1 rfl) rfl ?_
  refine g_iconst (pc := 2) (v := 0) (dd d_Mod_end 2 rfl) (by decide) ?_
  refine g_aload_n (pc := 3) (dd d_Mod_end 3 rfl) rfl ?_
  refine g_geti (pc := 4) (dd d_Mod_end 4 rfl) f_Mod_247 ob_MO rfl ?_
  refine g_callS (pc := 7) (dd d_Mod_end 5 rfl) s_Mod_243 (ev_Mod_in _ _ _ _) rfl (by rw [hk]; decide) (Nat.le_of_ble_eq_true rfl) ⟨Nat.zero_le _, Nat.zero_le _⟩ rfl ?_
  suffices K10 : GG Δ m_Mod_end Γ NN 0 0 (I, X) 18 [some (.ref (Δ.ba + MO)), some (.int (m))] [.int (if (if 0 ≤ m ∧ m ≤ (I MO 2) then 1 else 0 : Int32) = 0 then 1 else 0), .ref (Δ.ba + MO)] by
    refine g_ifne (pc := 10) (tgt := 17) (dd d_Mod_end 6 rfl) (by decide) (fun q1 => ?_) (fun q1 => ?_)
    · skip
      refine g_iconst (pc := 17) (v := 0) (dd d_Mod_end 9 rfl) (by decide) ?_
      rw [if_neg q1] at K10
      exact K10
    · skip
      refine g_iconst (pc := 13) (v := 1) (dd d_Mod_end 7 rfl) (by decide) ?_
      refine g_goto (pc := 14) (tgt := 18) (dd d_Mod_end 8 rfl) (by decide) ?_
      rw [if_pos q1] at K10
      exact K10
  refine g_iconst (pc := 18) (v := 0) (dd d_Mod_end 10 rfl) (by decide) ?_
  refine g_callV (pc := 19) (dd d_Mod_end 11 rfl) v_Mod_250 ob_MO rfl (ev_Mod_refuse hX _ _ _) rfl (by rw [hk]; decide) (Nat.le_of_ble_eq_true rfl) ⟨Nat.zero_le _, Nat.zero_le _⟩ rfl ?_
  obtain ⟨I1, hI1⟩ : ∃ z, z = up I MO 0 (thr (if (if 0 ≤ m ∧ m ≤ (I MO 2) then 1 else 0 : Int32) = 0 then 1 else 0 : Int32) 0) := ⟨_, rfl⟩
  rw [← hI1]
  refine g_ifne (pc := 22) (tgt := 30) (dd d_Mod_end 12 rfl) (by decide) (fun h22 => ?_) (fun h22 => ?_)
  · try simp only [e1x, e0x, i10, thrP, thrN, Classical.not_not, not_and, not_or, not_true_eq_false, not_false_eq_true, true_and, and_true, and_self, or_false, or_true, false_or, true_or, eq_self] at h22
    refine g_vret (pc := 30) rfl (dd d_Mod_end 16 rfl) (Tg_eq hT ?_ ?_)
    all_goals first | rfl | (subst_vars; (try simp (decide := true) only [thr, up_o, up_s, if_true, if_false] at *); first | done | rfl | ((repeat' split) <;> first | rfl | (exfalso; simp only [Int32.lt_iff_toInt_lt, Int32.le_iff_toInt_le, Int32.reduceToInt] at *; omega) | (simp_all; done)))
  · try simp only [e1x, e0x, i10, thrP, thrN, Classical.not_not, not_and, not_or, not_true_eq_false, not_false_eq_true, true_and, and_true, and_self, or_false, or_true, false_or, true_or, eq_self] at h22
    refine g_aload_n (pc := 25) (dd d_Mod_end 13 rfl) rfl ?_
    refine g_iload_n (pc := 26) (dd d_Mod_end 14 rfl) rfl ?_
    refine g_putiN (pc := 27) (dd d_Mod_end 15 rfl) f_Mod_247 fm_Mod_2 ob_MO rfl (fun I2 hI2 => ?_)
    refine g_vret (pc := 30) rfl (dd d_Mod_end 16 rfl) (Tg_eq hT ?_ ?_)
    all_goals first | rfl | (subst_vars; (try simp (decide := true) only [thr, up_o, up_s, if_true, if_false] at *); first | done | rfl | ((repeat' split) <;> first | rfl | (exfalso; simp only [Int32.lt_iff_toInt_lt, Int32.le_iff_toInt_le, Int32.reduceToInt] at *; omega) | (simp_all; done)))
