set_option maxRecDepth 20000 in
set_option maxHeartbeats 4000000 in
theorem ev_Mod_in {Δ : Dx} {X : Lx} (I : Nat → Nat → Int32) (v lo hi : Int32) : Ev Δ 0 m_Mod_in [.int v, .int lo, .int hi] (I, X) (some (.int (if lo ≤ v ∧ v ≤ hi then 1 else 0))) (I, X) := by
  refine ev_of (by decide) (Nat.le_of_ble_eq_true rfl) (fun Γ hk hR hT => ?_)
  refine g_iload_n (pc := 0) (dd d_Mod_in 0 rfl) rfl ?_
  refine g_iload_n (pc := 1) (dd d_Mod_in 1 rfl) rfl ?_
  suffices K2 : GG Δ m_Mod_in Γ NN 0 0 (I, X) 15 [some (.int (v)), some (.int (lo)), some (.int (hi))] [.int (if v < lo then 0 else (if hi < v then 0 else 1))] by
    refine g_icmplt (pc := 2) (tgt := 14) (dd d_Mod_in 2 rfl) (by decide) (fun q1 => ?_) (fun q1 => ?_)
    · skip
      refine g_iconst (pc := 14) (v := 0) (dd d_Mod_in 8 rfl) (by decide) ?_
      rw [if_pos q1] at K2
      exact K2
    · skip
      refine g_iload_n (pc := 5) (dd d_Mod_in 3 rfl) rfl ?_
      refine g_iload_n (pc := 6) (dd d_Mod_in 4 rfl) rfl ?_
      refine g_icmpgt (pc := 7) (tgt := 14) (dd d_Mod_in 5 rfl) (by decide) (fun q2 => ?_) (fun q2 => ?_)
      · skip
        refine g_iconst (pc := 14) (v := 0) (dd d_Mod_in 8 rfl) (by decide) ?_
        rw [if_neg q1, if_pos q2] at K2
        exact K2
      · skip
        refine g_iconst (pc := 10) (v := 1) (dd d_Mod_in 6 rfl) (by decide) ?_
        refine g_goto (pc := 11) (tgt := 15) (dd d_Mod_in 7 rfl) (by decide) ?_
        rw [if_neg q1, if_neg q2] at K2
        exact K2
  refine g_zret (pc := 15) rfl (by first | exact Or.inl rfl | exact Or.inr rfl | ((repeat' split) <;> first | exact Or.inl rfl | exact Or.inr rfl)) (dd d_Mod_in 9 rfl) (Tg_eq hT ?_ ?_)
  all_goals first | rfl | (subst_vars; (try simp (decide := true) only [up_o, up_s, if_true, if_false] at *); first | done | rfl | ((repeat' split) <;> first | rfl | (exfalso; simp only [Int32.lt_iff_toInt_lt, Int32.le_iff_toInt_le, Int32.reduceToInt] at *; omega) | (simp_all; done)))
set_option maxRecDepth 20000 in
set_option maxHeartbeats 4000000 in
theorem ev_Mod_thrown {Δ : Dx} {X : Lx} (hX : MX Δ X) (I : Nat → Nat → Int32) : Ev Δ 0 m_Mod_thrown [.ref (Δ.ba + MO)] (I, X) (some (.int (I MO 0))) (I, X) := by
  refine ev_of (by decide) (Nat.le_of_ble_eq_true rfl) (fun Γ hk hR hT => ?_)
  refine g_aload_n (pc := 0) (dd d_Mod_thrown 0 rfl) rfl ?_
  refine g_geti (pc := 1) (dd d_Mod_thrown 1 rfl) f_Mod_240 ob_MO rfl ?_
  refine g_iret (pc := 4) rfl (dd d_Mod_thrown 2 rfl) (Tg_eq hT ?_ ?_)
  all_goals first | rfl | (subst_vars; (try simp (decide := true) only [up_o, up_s, if_true, if_false] at *); first | done | rfl | ((repeat' split) <;> first | rfl | (exfalso; simp only [Int32.lt_iff_toInt_lt, Int32.le_iff_toInt_le, Int32.reduceToInt] at *; omega) | (simp_all; done)))
/-- which refusal -/
def thr (x y : Int32) : Int32 := if x = 0 then if y = 0 then 0 else 2 else 1
set_option maxRecDepth 20000 in
set_option maxHeartbeats 4000000 in
theorem ev_Mod_refuse {Δ : Dx} {X : Lx} (hX : MX Δ X) (I : Nat → Nat → Int32) (x y : Int32) : Ev Δ 0 m_Mod_refuse [.ref (Δ.ba + MO), .int x, .int y] (I, X) (some (.int (if 0 < thr x y then 1 else 0))) (up I MO 0 (thr x y), X) := by
  refine ev_of (by decide) (Nat.le_of_ble_eq_true rfl) (fun Γ hk hR hT => ?_)
  refine g_aload_n (pc := 0) (dd d_Mod_refuse 0 rfl) rfl ?_
  refine g_iload_n (pc := 1) (dd d_Mod_refuse 1 rfl) rfl ?_
  suffices K2 : GG Δ m_Mod_refuse Γ NN 0 0 (I, X) 18 [some (.ref (Δ.ba + MO)), some (.int (x)), some (.int (y))] [.int (if x = 0 then (if y = 0 then 0 else 2) else 1), .ref (Δ.ba + MO)] by
    refine g_ifeq (pc := 2) (tgt := 9) (dd d_Mod_refuse 2 rfl) (by decide) (fun q1 => ?_) (fun q1 => ?_)
    · skip
      refine g_iload_n (pc := 9) (dd d_Mod_refuse 5 rfl) rfl ?_
      refine g_ifeq (pc := 10) (tgt := 17) (dd d_Mod_refuse 6 rfl) (by decide) (fun q2 => ?_) (fun q2 => ?_)
      · skip
        refine g_iconst (pc := 17) (v := 0) (dd d_Mod_refuse 9 rfl) (by decide) ?_
        rw [if_pos q1, if_pos q2] at K2
        exact K2
      · skip
        refine g_iconst (pc := 13) (v := 2) (dd d_Mod_refuse 7 rfl) (by decide) ?_
        refine g_goto (pc := 14) (tgt := 18) (dd d_Mod_refuse 8 rfl) (by decide) ?_
        rw [if_pos q1, if_neg q2] at K2
        exact K2
    · skip
      refine g_iconst (pc := 5) (v := 1) (dd d_Mod_refuse 3 rfl) (by decide) ?_
      refine g_goto (pc := 6) (tgt := 18) (dd d_Mod_refuse 4 rfl) (by decide) ?_
      rw [if_neg q1] at K2
      exact K2
  refine g_putiN (pc := 18) (dd d_Mod_refuse 10 rfl) f_Mod_240 fm_Mod_0 ob_MO rfl (fun I1 hI1 => ?_)
  refine g_aload_n (pc := 21) (dd d_Mod_refuse 11 rfl) rfl ?_
  refine g_geti (pc := 22) (dd d_Mod_refuse 12 rfl) f_Mod_240 ob_MO rfl ?_
  suffices K25 : GG Δ m_Mod_refuse Γ NN 0 0 (I1, X) 33 [some (.ref (Δ.ba + MO)), some (.int (x)), some (.int (y))] [.int (if (I1 MO 0 : Int32) ≤ 0 then 0 else 1)] by
    refine g_ifle (pc := 25) (tgt := 32) (dd d_Mod_refuse 13 rfl) (by decide) (fun q3 => ?_) (fun q3 => ?_)
    · skip
      refine g_iconst (pc := 32) (v := 0) (dd d_Mod_refuse 16 rfl) (by decide) ?_
      rw [if_pos q3] at K25
      exact K25
    · skip
      refine g_iconst (pc := 28) (v := 1) (dd d_Mod_refuse 14 rfl) (by decide) ?_
      refine g_goto (pc := 29) (tgt := 33) (dd d_Mod_refuse 15 rfl) (by decide) ?_
      rw [if_neg q3] at K25
      exact K25
  refine g_zret (pc := 33) rfl (by first | exact Or.inl rfl | exact Or.inr rfl | ((repeat' split) <;> first | exact Or.inl rfl | exact Or.inr rfl)) (dd d_Mod_refuse 17 rfl) (Tg_eq hT ?_ ?_)
  all_goals first | rfl | (subst_vars; (try simp (decide := true) only [thr, up_o, up_s, if_true, if_false] at *); first | done | rfl | ((repeat' split) <;> first | rfl | (exfalso; simp only [Int32.lt_iff_toInt_lt, Int32.le_iff_toInt_le, Int32.reduceToInt] at *; omega) | (simp_all; done)))
theorem thrP {x y : Int32} : (0 < thr x y) = ¬ (x = 0 ∧ y = 0) := by unfold thr; by_cases h : x = 0 <;> by_cases g : y = 0 <;> simp [h, g]
theorem thrN {x y : Int32} : (¬ 0 < thr x y) = (x = 0 ∧ y = 0) := by rw [thrP, Classical.not_not]
set_option maxRecDepth 20000 in
set_option maxHeartbeats 4000000 in
theorem ev_Mod_sign {Δ : Dx} {X : Lx} (hX : MX Δ X) (I : Nat → Nat → Int32) (p : Int32) (hp : 0 ≤ p) (hs : I MO 2 ≤ 900) : Ev Δ 0 m_Mod_sign [.ref (Δ.ba + MO), .int p] (I, X) (some (.int (if p < I MO 2 then I A_signs p.toNatClampNeg else 0))) (I, X) := by
  refine ev_of (by decide) (Nat.le_of_ble_eq_true rfl) (fun Γ hk hR hT => ?_)
  refine g_iload_n (pc := 0) (dd d_Mod_sign 0 rfl) rfl ?_
  refine g_aload_n (pc := 1) (dd d_Mod_sign 1 rfl) rfl ?_
  refine g_geti (pc := 2) (dd d_Mod_sign 2 rfl) f_Mod_247 ob_MO rfl ?_
  suffices K5 : GG Δ m_Mod_sign Γ NN 0 0 (I, X) 18 [some (.ref (Δ.ba + MO)), some (.int (p))] [.int (if (I MO 2 : Int32) ≤ p then 0 else (I A_signs (p).toNatClampNeg))] by
    refine g_icmpge (pc := 5) (tgt := 17) (dd d_Mod_sign 3 rfl) (by decide) (fun q1 => ?_) (fun q1 => ?_)
    · skip
      refine g_iconst (pc := 17) (v := 0) (dd d_Mod_sign 9 rfl) (by decide) ?_
      rw [if_pos q1] at K5
      exact K5
    · skip
      refine g_aload_n (pc := 8) (dd d_Mod_sign 4 rfl) rfl ?_
      refine g_getr (pc := 9) (dd d_Mod_sign 5 rfl) f_Mod_7 ob_MO rfl (mr_signs hX) ?_
      refine g_iload_n (pc := 12) (dd d_Mod_sign 6 rfl) rfl ?_
      refine g_iald (pc := 13) (dd d_Mod_sign 7 rfl) ar_A_signs (by first | assumption | (subst_vars; rw [vp_in_iff]; (try simp (decide := true) only [up_o, up_s] at *); simp only [Int32.lt_iff_toInt_lt, Int32.le_iff_toInt_le, Int32.reduceToInt] at *; omega)) ?_
      refine g_goto (pc := 14) (tgt := 18) (dd d_Mod_sign 8 rfl) (by decide) ?_
      rw [if_neg q1] at K5
      exact K5
  refine g_iret (pc := 18) rfl (dd d_Mod_sign 10 rfl) (Tg_eq hT ?_ ?_)
  all_goals first | rfl | (subst_vars; (try simp (decide := true) only [up_o, up_s, if_true, if_false] at *); first | done | rfl | ((repeat' split) <;> first | rfl | (exfalso; simp only [Int32.lt_iff_toInt_lt, Int32.le_iff_toInt_le, Int32.reduceToInt] at *; omega) | (simp_all; done)))
set_option maxRecDepth 20000 in
set_option maxHeartbeats 4000000 in
theorem ev_Mod_is {Δ : Dx} {X : Lx} (hX : MX Δ X) (I : Nat → Nat → Int32) (s : Int32) : Ev Δ 0 m_Mod_is [.ref (Δ.ba + MO), .int s] (I, X) (some (.int (if I MO 10 = 400 + s then 1 else 0))) (I, X) := by
  refine ev_of (by decide) (Nat.le_of_ble_eq_true rfl) (fun Γ hk hR hT => ?_)
  refine g_aload_n (pc := 0) (dd d_Mod_is 0 rfl) rfl ?_
  refine g_geti (pc := 1) (dd d_Mod_is 1 rfl) f_Mod_270 ob_MO rfl ?_
  refine g_sipush (pc := 4) (v := 400) (dd d_Mod_is 2 rfl) (by decide) ?_
  refine g_iload_n (pc := 7) (dd d_Mod_is 3 rfl) rfl ?_
  refine g_iadd (pc := 8) (dd d_Mod_is 4 rfl) ?_
  suffices K9 : GG Δ m_Mod_is Γ NN 0 0 (I, X) 17 [some (.ref (Δ.ba + MO)), some (.int (s))] [.int (if (I MO 10 : Int32) = ((400) + (s) : Int32) then 1 else 0)] by
    refine g_icmpne (pc := 9) (tgt := 16) (dd d_Mod_is 5 rfl) (by decide) (fun q1 => ?_) (fun q1 => ?_)
    · skip
      refine g_iconst (pc := 16) (v := 0) (dd d_Mod_is 8 rfl) (by decide) ?_
      rw [if_neg q1] at K9
      exact K9
    · skip
      refine g_iconst (pc := 12) (v := 1) (dd d_Mod_is 6 rfl) (by decide) ?_
      refine g_goto (pc := 13) (tgt := 17) (dd d_Mod_is 7 rfl) (by decide) ?_
      rw [if_pos q1] at K9
      exact K9
  refine g_zret (pc := 17) rfl (by first | exact Or.inl rfl | exact Or.inr rfl | ((repeat' split) <;> first | exact Or.inl rfl | exact Or.inr rfl)) (dd d_Mod_is 9 rfl) (Tg_eq hT ?_ ?_)
  all_goals first | rfl | (subst_vars; (try simp (decide := true) only [up_o, up_s, if_true, if_false] at *); first | done | rfl | ((repeat' split) <;> first | rfl | (exfalso; simp only [Int32.lt_iff_toInt_lt, Int32.le_iff_toInt_le, Int32.reduceToInt] at *; omega) | (simp_all; done)))
def mFail (I : Nat → Nat → Int32) : Nat → Nat → Int32 := up I MO 14 (if I MO 14 < 0 then I MO 12 else I MO 14)
set_option maxRecDepth 20000 in
set_option maxHeartbeats 4000000 in
theorem ev_Mod_fail {Δ : Dx} {X : Lx} (hX : MX Δ X) (I : Nat → Nat → Int32) : Ev Δ 0 m_Mod_fail [.ref (Δ.ba + MO)] (I, X) none (mFail I, X) := by
  refine ev_of (by decide) (Nat.le_of_ble_eq_true rfl) (fun Γ hk hR hT => ?_)
  refine g_aload_n (pc := 0) (dd d_Mod_fail 0 rfl) rfl ?_
  refine g_aload_n (pc := 1) (dd d_Mod_fail 1 rfl) rfl ?_
  refine g_geti (pc := 2) (dd d_Mod_fail 2 rfl) f_Mod_280 ob_MO rfl ?_
  suffices K5 : GG Δ m_Mod_fail Γ NN 0 0 (I, X) 19 [some (.ref (Δ.ba + MO))] [.int (if 0 ≤ (I MO 14 : Int32) then (I MO 14) else (I MO 12)), .ref (Δ.ba + MO)] by
    refine g_ifge (pc := 5) (tgt := 15) (dd d_Mod_fail 3 rfl) (by decide) (fun q1 => ?_) (fun q1 => ?_)
    · skip
      refine g_aload_n (pc := 15) (dd d_Mod_fail 7 rfl) rfl ?_
      refine g_geti (pc := 16) (dd d_Mod_fail 8 rfl) f_Mod_280 ob_MO rfl ?_
      rw [if_pos q1] at K5
      exact K5
    · skip
      refine g_aload_n (pc := 8) (dd d_Mod_fail 4 rfl) rfl ?_
      refine g_geti (pc := 9) (dd d_Mod_fail 5 rfl) f_Mod_263 ob_MO rfl ?_
      refine g_goto (pc := 12) (tgt := 19) (dd d_Mod_fail 6 rfl) (by decide) ?_
      rw [if_neg q1] at K5
      exact K5
  refine g_putiN (pc := 19) (dd d_Mod_fail 9 rfl) f_Mod_280 fm_Mod_14 ob_MO rfl (fun I1 hI1 => ?_)
  refine g_vret (pc := 22) rfl (dd d_Mod_fail 10 rfl) (Tg_eq hT ?_ ?_)
  all_goals first | rfl | (subst_vars; (try simp (decide := true) only [mFail, up_o, up_s, if_true, if_false] at *); first | done | rfl | ((repeat' split) <;> first | rfl | (exfalso; simp only [Int32.lt_iff_toInt_lt, Int32.le_iff_toInt_le, Int32.reduceToInt] at *; omega) | (simp_all; done)))
