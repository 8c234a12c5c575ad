/-! the class: each method a function, and its contract -/
def f_Stp_noteEntry (x1 : Nat) (x2 : Int32) (I : IM) : Option (IM) := lt (up I 39 (0 : Int32).toNatClampNeg (I 35 2)) fun I1 => lt (up I1 39 (1 : Int32).toNatClampNeg (I1 35 4)) fun I2 => lt (up I2 39 (2 : Int32).toNatClampNeg (I2 35 11)) fun I3 => lt (up I3 39 (3 : Int32).toNatClampNeg (I3 35 12)) fun I4 => lt (up I4 39 (4 : Int32).toNatClampNeg (I4 35 13)) fun I5 => lt (up I5 39 (5 : Int32).toNatClampNeg (x2)) fun I6 => Option.bind (f_Rng_add  (x1 + 17) 39 I6) fun v7 => some v7
set_option maxRecDepth 20000 in
set_option maxHeartbeats 4000000 in
theorem ef_Stp_noteEntry {Δ : Dx} {X : Lx} {rl hd ot pt it : Nat} (hX : EX Δ X rl hd ot pt it) {x1 : Nat} {x2 : Int32} (h_x1 : isMch x1) {I : IM}  {r : IM} (h : f_Stp_noteEntry x1 x2 I = some r) : Ev Δ (3) m_Stp_noteEntry [.ref (Δ.ba + 35), .ref (Δ.ba + x1), .int x2] (I, X) none (r, X) := by
  refine ev_of (by decide) (Nat.le_of_ble_eq_true rfl) (fun Γ hk hR hT => ?_)
  change GG Δ m_Stp_noteEntry Γ NN 0 0 (I, X) 0 [some (.ref (Δ.ba + 35)), some (.ref (Δ.ba + x1)), some (.int (x2))] []
  unfold f_Stp_noteEntry at h
  refine g_aload_n (pc := 0) (dd d_Stp_noteEntry 0 rfl) rfl ?_
  refine g_getr (pc := 1) (dd d_Stp_noteEntry 1 rfl) f_Stp_18 oc_Stp rfl (rx_Stp_1 hX) ?_
  refine g_iconst (pc := 4) (v := 0) (dd d_Stp_noteEntry 2 rfl) (by decide) ?_
  refine g_aload_n (pc := 5) (dd d_Stp_noteEntry 3 rfl) rfl ?_
  refine g_geti (pc := 6) (dd d_Stp_noteEntry 4 rfl) f_Stp_54 oc_Stp rfl ?_
  refine g_iastN (pc := 9) (dd d_Stp_noteEntry 5 rfl) ax_Stp_1 (by rw [vp_in_iff]; decide) (fun I1 hI1 => ?_)
  replace h := lt_e h hI1
  refine g_aload_n (pc := 10) (dd d_Stp_noteEntry 6 rfl) rfl ?_
  refine g_getr (pc := 11) (dd d_Stp_noteEntry 7 rfl) f_Stp_18 oc_Stp rfl (rx_Stp_1 hX) ?_
  refine g_iconst (pc := 14) (v := 1) (dd d_Stp_noteEntry 8 rfl) (by decide) ?_
  refine g_aload_n (pc := 15) (dd d_Stp_noteEntry 9 rfl) rfl ?_
  refine g_geti (pc := 16) (dd d_Stp_noteEntry 10 rfl) f_Stp_57 oc_Stp rfl ?_
  refine g_iastN (pc := 19) (dd d_Stp_noteEntry 11 rfl) ax_Stp_1 (by rw [vp_in_iff]; decide) (fun I2 hI2 => ?_)
  replace h := lt_e h hI2
  refine g_aload_n (pc := 20) (dd d_Stp_noteEntry 12 rfl) rfl ?_
  refine g_getr (pc := 21) (dd d_Stp_noteEntry 13 rfl) f_Stp_18 oc_Stp rfl (rx_Stp_1 hX) ?_
  refine g_iconst (pc := 24) (v := 2) (dd d_Stp_noteEntry 14 rfl) (by decide) ?_
  refine g_aload_n (pc := 25) (dd d_Stp_noteEntry 15 rfl) rfl ?_
  refine g_geti (pc := 26) (dd d_Stp_noteEntry 16 rfl) f_Stp_22 oc_Stp rfl ?_
  refine g_iastN (pc := 29) (dd d_Stp_noteEntry 17 rfl) ax_Stp_1 (by rw [vp_in_iff]; decide) (fun I3 hI3 => ?_)
  replace h := lt_e h hI3
  refine g_aload_n (pc := 30) (dd d_Stp_noteEntry 18 rfl) rfl ?_
  refine g_getr (pc := 31) (dd d_Stp_noteEntry 19 rfl) f_Stp_18 oc_Stp rfl (rx_Stp_1 hX) ?_
  refine g_iconst (pc := 34) (v := 3) (dd d_Stp_noteEntry 20 rfl) (by decide) ?_
  refine g_aload_n (pc := 35) (dd d_Stp_noteEntry 21 rfl) rfl ?_
  refine g_geti (pc := 36) (dd d_Stp_noteEntry 22 rfl) f_Stp_26 oc_Stp rfl ?_
  refine g_iastN (pc := 39) (dd d_Stp_noteEntry 23 rfl) ax_Stp_1 (by rw [vp_in_iff]; decide) (fun I4 hI4 => ?_)
  replace h := lt_e h hI4
  refine g_aload_n (pc := 40) (dd d_Stp_noteEntry 24 rfl) rfl ?_
  refine g_getr (pc := 41) (dd d_Stp_noteEntry 25 rfl) f_Stp_18 oc_Stp rfl (rx_Stp_1 hX) ?_
  refine g_iconst (pc := 44) (v := 4) (dd d_Stp_noteEntry 26 rfl) (by decide) ?_
  refine g_aload_n (pc := 45) (dd d_Stp_noteEntry 27 rfl) rfl ?_
  refine g_geti (pc := 46) (dd d_Stp_noteEntry 28 rfl) f_Stp_29 oc_Stp rfl ?_
  refine g_iastN (pc := 49) (dd d_Stp_noteEntry 29 rfl) ax_Stp_1 (by rw [vp_in_iff]; decide) (fun I5 hI5 => ?_)
  replace h := lt_e h hI5
  refine g_aload_n (pc := 50) (dd d_Stp_noteEntry 30 rfl) rfl ?_
  refine g_getr (pc := 51) (dd d_Stp_noteEntry 31 rfl) f_Stp_18 oc_Stp rfl (rx_Stp_1 hX) ?_
  refine g_iconst (pc := 54) (v := 5) (dd d_Stp_noteEntry 32 rfl) (by decide) ?_
  refine g_iload_n (pc := 55) (dd d_Stp_noteEntry 33 rfl) rfl ?_
  refine g_iastN (pc := 56) (dd d_Stp_noteEntry 34 rfl) ax_Stp_1 (by rw [vp_in_iff]; decide) (fun I6 hI6 => ?_)
  replace h := lt_e h hI6
  refine g_aload_n (pc := 57) (dd d_Stp_noteEntry 35 rfl) rfl ?_
  refine g_getr (pc := 58) (dd d_Stp_noteEntry 36 rfl) f_Stp_60 (oc_Mch h_x1) rfl (rx_Mch_18 hX h_x1) ?_
  refine g_aload_n (pc := 61) (dd d_Stp_noteEntry 37 rfl) rfl ?_
  refine g_getr (pc := 62) (dd d_Stp_noteEntry 38 rfl) f_Stp_18 oc_Stp rfl (rx_Stp_1 hX) ?_
  obtain ⟨v7, e8, h⟩ := bnd_e h
  refine g_callV (pc := 65) (dd d_Stp_noteEntry 39 rfl) v_Stp_64 (oc_Rng (ir_18 h_x1)) rfl (ef_Rng_add hX (ir_18 h_x1) (isA_of ax_Stp_1) e8) rfl (by omega) (Nat.le_of_ble_eq_true rfl) ⟨Nat.zero_le _, Nat.zero_le _⟩ rfl ?_
  cases h
  exact g_vret (pc := 68) rfl (dd d_Stp_noteEntry 40 rfl) hT
def b_Stp_attempt_90 (n : Nat) (x1 : Nat) (x2 : Nat)  (x3 : Int32) (x4 : Int32) (I : IM) : Option (Int32 × IM) := Option.bind (f_Stp_noteEntry  x1 x3 I) fun v16 => chk (x4 = 0 ∨ x4 = 1) <| some (x4, v16)
set_option maxRecDepth 20000 in
set_option maxHeartbeats 4000000 in
theorem gb_Stp_attempt_90 {Δ : Dx} {X : Lx} {rl hd ot pt it : Nat} (hX : EX Δ X rl hd ot pt it) {x1 : Nat} {x2 : Nat} (h_x1 : isMch x1) (h_x2 : isPol x2) {n : Nat} {Γ : Cx} (hk : Γ.k = 6) {r : Int32 × IM} (hT : Tg Δ Γ (some (.int r.1)) NN (r.2, X) 0 0)  {x3 : Int32} {x4 : Int32} {I : IM} (h : b_Stp_attempt_90 n x1 x2  x3 x4 I = some r) : GG Δ m_Stp_attempt Γ NN 0 0 (I, X) 90 [some (.ref (Δ.ba + 35)), some (.ref (Δ.ba + x1)), none, some (.int (x3)), some (.int (x4))] [] := by
  unfold b_Stp_attempt_90 at h
  refine g_aload_n (pc := 90) (dd d_Stp_attempt 53 rfl) rfl ?_
  refine g_aload_n (pc := 91) (dd d_Stp_attempt 54 rfl) rfl ?_
  refine g_iload_n (pc := 92) (dd d_Stp_attempt 55 rfl) rfl ?_
  obtain ⟨v16, e17, h⟩ := bnd_e h
  refine g_callV (pc := 93) (dd d_Stp_attempt 56 rfl) v_Stp_51 oc_Stp rfl (ef_Stp_noteEntry hX h_x1 e17) rfl (by omega) (Nat.le_of_ble_eq_true rfl) ⟨Nat.zero_le _, Nat.zero_le _⟩ rfl ?_
  refine g_iload (pc := 96) (dd d_Stp_attempt 57 rfl) rfl ?_
  obtain ⟨c18, h⟩ := chk_e h
  cases h
  exact g_zret (pc := 98) rfl c18 (dd d_Stp_attempt 58 rfl) hT
def b_Stp_attempt_68 (n : Nat) (x1 : Nat) (x2 : Nat)  (x3 : Int32) (x4 : Int32) (I : IM) : Option (Int32 × IM) := if (I 35 11 : Int32) = 0 then (b_Stp_attempt_90 n x1 x2  x3 x4 I) else (Option.bind (f_Stp_addCount  x1 (if x4 = 0 then 3 else 0) I) fun v14 => b_Stp_attempt_90 n x1 x2  x3 x4 v14)
set_option maxRecDepth 20000 in
set_option maxHeartbeats 4000000 in
theorem gb_Stp_attempt_68 {Δ : Dx} {X : Lx} {rl hd ot pt it : Nat} (hX : EX Δ X rl hd ot pt it) {x1 : Nat} {x2 : Nat} (h_x1 : isMch x1) (h_x2 : isPol x2) {n : Nat} {Γ : Cx} (hk : Γ.k = 6) {r : Int32 × IM} (hT : Tg Δ Γ (some (.int r.1)) NN (r.2, X) 0 0)  {x3 : Int32} {x4 : Int32} {I : IM} (h : b_Stp_attempt_68 n x1 x2  x3 x4 I = some r) : GG Δ m_Stp_attempt Γ NN 0 0 (I, X) 68 [some (.ref (Δ.ba + 35)), some (.ref (Δ.ba + x1)), none, some (.int (x3)), some (.int (x4))] [] := by
  unfold b_Stp_attempt_68 at h
  refine g_aload_n (pc := 68) (dd d_Stp_attempt 42 rfl) rfl ?_
  refine g_geti (pc := 69) (dd d_Stp_attempt 43 rfl) f_Stp_22 oc_Stp rfl ?_
  refine g_ifeq (pc := 72) (tgt := 90) (dd d_Stp_attempt 44 rfl) (by decide) (fun q12 => ?_) (fun q12 => ?_)
  · replace h := ite_t h q12
    exact gb_Stp_attempt_90 hX h_x1 h_x2 hk hT  h
  · replace h := ite_f h q12
    refine g_aload_n (pc := 75) (dd d_Stp_attempt 45 rfl) rfl ?_
    refine g_aload_n (pc := 76) (dd d_Stp_attempt 46 rfl) rfl ?_
    refine g_iload (pc := 77) (dd d_Stp_attempt 47 rfl) rfl ?_
    suffices K79 : ∀ z : Int32, z = (if x4 = 0 then 3 else 0 : Int32) → GG Δ m_Stp_attempt Γ NN 0 0 (I, X) 87 [some (.ref (Δ.ba + 35)), some (.ref (Δ.ba + x1)), none, some (.int (x3)), some (.int (x4))] [.int (z), .ref (Δ.ba + x1), .ref (Δ.ba + 35)] by
      refine g_ifeq (pc := 79) (tgt := 86) (dd d_Stp_attempt 48 rfl) (by decide) (fun q13 => ?_) (fun q13 => ?_)
      · skip
        refine g_iconst (pc := 86) (v := 3) (dd d_Stp_attempt 51 rfl) (by decide) ?_
        exact K79 _ (by rw [if_pos q13])
      · skip
        refine g_iconst (pc := 82) (v := 0) (dd d_Stp_attempt 49 rfl) (by decide) ?_
        refine g_goto (pc := 83) (tgt := 87) (dd d_Stp_attempt 50 rfl) (by decide) ?_
        exact K79 _ (by rw [if_neg q13])
    intro z hz
    subst hz
    obtain ⟨v14, e15, h⟩ := bnd_e h
    refine g_callV (pc := 87) (dd d_Stp_attempt 52 rfl) v_Stp_47 oc_Stp rfl (ef_Stp_addCount hX h_x1 e15) rfl (by omega) (Nat.le_of_ble_eq_true rfl) ⟨Nat.zero_le _, Nat.zero_le _⟩ rfl ?_
    exact gb_Stp_attempt_90 hX h_x1 h_x2 hk hT  h
def f_Stp_attempt (n : Nat) (x1 : Nat) (x2 : Nat) (I : IM) : Option (Int32 × IM) := lt (up I 35 11 (0)) fun I1 => lt (up I1 35 12 (0)) fun I2 => lt (up I2 35 13 (0)) fun I3 => Option.bind (f_Stp_tryOut n x1 x2 I3) fun v4 => lt (up v4.2 (x1 + 13) (0 : Int32).toNatClampNeg (v4.1)) fun I8 => if (if (v4.1 : Int32) = 0 then 1 else (if (v4.1 : Int32) = (1 : Int32) then 1 else 0) : Int32) = 0 then (b_Stp_attempt_68 n x1 x2  v4.1 (if (v4.1 : Int32) = 0 then 1 else (if (v4.1 : Int32) = (1 : Int32) then 1 else 0)) I8) else (lt (up I8 (x1 + 13) (2 : Int32).toNatClampNeg ((I8 (x1 + 13) (2 : Int32).toNatClampNeg) + 1)) fun I10 => lt (up I10 x1 1 (I10 35 3)) fun I11 => b_Stp_attempt_68 n x1 x2  v4.1 (if (v4.1 : Int32) = 0 then 1 else (if (v4.1 : Int32) = (1 : Int32) then 1 else 0)) I11)
set_option maxRecDepth 20000 in
set_option maxHeartbeats 4000000 in
theorem ef_Stp_attempt {Δ : Dx} {X : Lx} {rl hd ot pt it : Nat} (hX : EX Δ X rl hd ot pt it) {n : Nat} {x1 : Nat} {x2 : Nat} (h_x1 : isMch x1) (h_x2 : isPol x2) {I : IM}  {r : Int32 × IM} (h : f_Stp_attempt n x1 x2 I = some r) : Ev Δ (6) m_Stp_attempt [.ref (Δ.ba + 35), .ref (Δ.ba + x1), .ref (Δ.ba + x2)] (I, X) (some (.int r.1)) (r.2, X) := by
  refine ev_of (by decide) (Nat.le_of_ble_eq_true rfl) (fun Γ hk hR hT => ?_)
  change GG Δ m_Stp_attempt Γ NN 0 0 (I, X) 0 [some (.ref (Δ.ba + 35)), some (.ref (Δ.ba + x1)), some (.ref (Δ.ba + x2)), none, none] []
  unfold f_Stp_attempt at h
  refine g_aload_n (pc := 0) (dd d_Stp_attempt 0 rfl) rfl ?_
  refine g_iconst (pc := 1) (v := 0) (dd d_Stp_attempt 1 rfl) (by decide) ?_
  refine g_putiN (pc := 2) (dd d_Stp_attempt 2 rfl) f_Stp_22 fm_Stp_11 oc_Stp rfl (fun I1 hI1 => ?_)
  replace h := lt_e h hI1
  refine g_aload_n (pc := 5) (dd d_Stp_attempt 3 rfl) rfl ?_
  refine g_iconst (pc := 6) (v := 0) (dd d_Stp_attempt 4 rfl) (by decide) ?_
  refine g_putiN (pc := 7) (dd d_Stp_attempt 5 rfl) f_Stp_26 fm_Stp_12 oc_Stp rfl (fun I2 hI2 => ?_)
  replace h := lt_e h hI2
  refine g_aload_n (pc := 10) (dd d_Stp_attempt 6 rfl) rfl ?_
  refine g_iconst (pc := 11) (v := 0) (dd d_Stp_attempt 7 rfl) (by decide) ?_
  refine g_putiN (pc := 12) (dd d_Stp_attempt 8 rfl) f_Stp_29 fm_Stp_13 oc_Stp rfl (fun I3 hI3 => ?_)
  replace h := lt_e h hI3
  refine g_aload_n (pc := 15) (dd d_Stp_attempt 9 rfl) rfl ?_
  refine g_aload_n (pc := 16) (dd d_Stp_attempt 10 rfl) rfl ?_
  refine g_aload_n (pc := 17) (dd d_Stp_attempt 11 rfl) rfl ?_
  obtain ⟨v4, e5, h⟩ := bnd_e h
  refine g_callV (pc := 18) (dd d_Stp_attempt 12 rfl) v_Stp_32 oc_Stp rfl (ef_Stp_tryOut hX h_x1 h_x2 e5) rfl (by omega) (Nat.le_of_ble_eq_true rfl) ⟨Nat.zero_le _, Nat.zero_le _⟩ rfl ?_
  refine g_istore_n (pc := 21) (dd d_Stp_attempt 13 rfl) (by decide) ?_
  refine g_iload_n (pc := 22) (dd d_Stp_attempt 14 rfl) rfl ?_
  suffices K23 : ∀ z : Int32, z = (if (v4.1 : Int32) = 0 then 1 else (if (v4.1 : Int32) = (1 : Int32) then 1 else 0) : Int32) → GG Δ m_Stp_attempt Γ NN 0 0 (v4.2, X) 36 [some (.ref (Δ.ba + 35)), some (.ref (Δ.ba + x1)), some (.ref (Δ.ba + x2)), some (.int (v4.1)), none] [.int (z)] by
    refine g_ifeq (pc := 23) (tgt := 31) (dd d_Stp_attempt 15 rfl) (by decide) (fun q6 => ?_) (fun q6 => ?_)
    · skip
      refine g_iconst (pc := 31) (v := 1) (dd d_Stp_attempt 19 rfl) (by decide) ?_
      refine g_goto (pc := 32) (tgt := 36) (dd d_Stp_attempt 20 rfl) (by decide) ?_
      exact K23 _ (by rw [if_pos q6])
    · skip
      refine g_iload_n (pc := 26) (dd d_Stp_attempt 16 rfl) rfl ?_
      refine g_iconst (pc := 27) (v := 1) (dd d_Stp_attempt 17 rfl) (by decide) ?_
      refine g_icmpne (pc := 28) (tgt := 35) (dd d_Stp_attempt 18 rfl) (by decide) (fun q7 => ?_) (fun q7 => ?_)
      · skip
        refine g_iconst (pc := 35) (v := 0) (dd d_Stp_attempt 21 rfl) (by decide) ?_
        exact K23 _ (by rw [if_neg q6, if_neg q7])
      · skip
        refine g_iconst (pc := 31) (v := 1) (dd d_Stp_attempt 19 rfl) (by decide) ?_
        refine g_goto (pc := 32) (tgt := 36) (dd d_Stp_attempt 20 rfl) (by decide) ?_
        exact K23 _ (by rw [if_neg q6, if_pos q7])
  intro z hz
  subst hz
  refine g_istore (pc := 36) (dd d_Stp_attempt 22 rfl) (by decide) ?_
  refine g_aload_n (pc := 38) (dd d_Stp_attempt 23 rfl) rfl ?_
  refine g_getr (pc := 39) (dd d_Stp_attempt 24 rfl) f_Stp_36 (oc_Mch h_x1) rfl (rx_Mch_15 hX h_x1) ?_
  refine g_iconst (pc := 42) (v := 0) (dd d_Stp_attempt 25 rfl) (by decide) ?_
  refine g_iload_n (pc := 43) (dd d_Stp_attempt 26 rfl) rfl ?_
  refine g_iastN (pc := 44) (dd d_Stp_attempt 27 rfl) (ax_Mch_15 h_x1) (by rw [vp_in_iff]; decide) (fun I8 hI8 => ?_)
  replace h := lt_e h hI8
  refine g_iload (pc := 45) (dd d_Stp_attempt 28 rfl) rfl ?_
  refine g_ifeq (pc := 47) (tgt := 68) (dd d_Stp_attempt 29 rfl) (by decide) (fun q9 => ?_) (fun q9 => ?_)
  · replace h := ite_t h q9
    refine g_drop [2] ?_
    exact gb_Stp_attempt_68 hX h_x1 h_x2 hk hT  h
  · replace h := ite_f h q9
    refine g_aload_n (pc := 50) (dd d_Stp_attempt 30 rfl) rfl ?_
    refine g_getr (pc := 51) (dd d_Stp_attempt 31 rfl) f_Stp_36 (oc_Mch h_x1) rfl (rx_Mch_15 hX h_x1) ?_
    refine g_iconst (pc := 54) (v := 2) (dd d_Stp_attempt 32 rfl) (by decide) ?_
    refine g_dup2 (pc := 55) (dd d_Stp_attempt 33 rfl) rfl rfl ?_
    refine g_iald (pc := 56) (dd d_Stp_attempt 34 rfl) (ax_Mch_15 h_x1) (by rw [vp_in_iff]; decide) ?_
    refine g_iconst (pc := 57) (v := 1) (dd d_Stp_attempt 35 rfl) (by decide) ?_
    refine g_iadd (pc := 58) (dd d_Stp_attempt 36 rfl) ?_
    refine g_iastN (pc := 59) (dd d_Stp_attempt 37 rfl) (ax_Mch_15 h_x1) (by rw [vp_in_iff]; decide) (fun I10 hI10 => ?_)
    replace h := lt_e h hI10
    refine g_aload_n (pc := 60) (dd d_Stp_attempt 38 rfl) rfl ?_
    refine g_aload_n (pc := 61) (dd d_Stp_attempt 39 rfl) rfl ?_
    refine g_geti (pc := 62) (dd d_Stp_attempt 40 rfl) f_Stp_41 oc_Stp rfl ?_
    refine g_putiN (pc := 65) (dd d_Stp_attempt 41 rfl) f_Stp_44 fm_Mch_1 (oc_Mch h_x1) rfl (fun I11 hI11 => ?_)
    replace h := lt_e h hI11
    refine g_drop [2] ?_
    exact gb_Stp_attempt_68 hX h_x1 h_x2 hk hT  h
def b_Eng_run_11 (n : Nat) (rl : Nat) (hd : Nat)   (I : IM) : Option (Int32 × IM) := none
set_option maxRecDepth 20000 in
set_option maxHeartbeats 4000000 in
theorem gb_Eng_run_11 {Δ : Dx} {X : Lx} {rl hd ot pt it : Nat} (hX : EX Δ X rl hd ot pt it)   {n : Nat} {Γ : Cx} (hk : Γ.k = 7) {r : Int32 × IM} (hT : Tg Δ Γ (some (.int r.1)) NN (r.2, X) 0 0)   {I : IM} (h : b_Eng_run_11 n rl hd   I = some r) : GG Δ m_Eng_run Γ NN 0 0 (I, X) 11 [none, none, none, none] [] := by
  unfold b_Eng_run_11 at h
  cases h
def b_Eng_run_112 (n : Nat) (rl : Nat) (hd : Nat)  (x2 : Int32) (I : IM) : Option (Int32 × IM) := some (x2, I)
set_option maxRecDepth 20000 in
set_option maxHeartbeats 4000000 in
theorem gb_Eng_run_112 {Δ : Dx} {X : Lx} {rl hd ot pt it : Nat} (hX : EX Δ X rl hd ot pt it)   {n : Nat} {Γ : Cx} (hk : Γ.k = 7) {r : Int32 × IM} (hT : Tg Δ Γ (some (.int r.1)) NN (r.2, X) 0 0)  {x2 : Int32} {I : IM} (h : b_Eng_run_112 n rl hd  x2 I = some r) : GG Δ m_Eng_run Γ NN 0 0 (I, X) 112 [none, none, some (.int (x2)), none] [] := by
  unfold b_Eng_run_112 at h
  refine g_iload_n (pc := 112) (dd d_Eng_run 58 rfl) rfl ?_
  cases h
  exact g_iret (pc := 113) rfl (dd d_Eng_run 59 rfl) hT
def l_Eng_run_60 (n : Nat) (rl : Nat) (hd : Nat)  : Nat → Int32 → Int32 → Int32 → IM → Option (Int32 × IM)
  | 0, _, _, _, _ => none
  | f + 1, x1, x2, x3, I => if x1 ≤ x3 then (b_Eng_run_112 n rl hd  x2 I) else (Option.bind (f_Stp_attempt n hd rl I) fun v6 => if (v6.2 (hd + 13) (0 : Int32).toNatClampNeg : Int32) = 0 then ((l_Eng_run_60 n rl hd  f) x1 (x2 + (if (v6.1 : Int32) = 0 then 0 else 1 : Int32)) (x3 + 1) v6.2) else (b_Eng_run_112 n rl hd  (x2 + (if (v6.1 : Int32) = 0 then 0 else 1 : Int32)) v6.2))
set_option maxRecDepth 20000 in
set_option maxHeartbeats 4000000 in
theorem gl_Eng_run_60 {Δ : Dx} {X : Lx} {rl hd ot pt it : Nat} (hX : EX Δ X rl hd ot pt it)   {n : Nat} {Γ : Cx} (hk : Γ.k = 7) {r : Int32 × IM} (hT : Tg Δ Γ (some (.int r.1)) NN (r.2, X) 0 0)  : ∀ (f : Nat) (x1 : Int32) (x2 : Int32) (x3 : Int32) (I : IM), l_Eng_run_60 n rl hd  f x1 x2 x3 I = some r → GG Δ m_Eng_run Γ NN 0 0 (I, X) 60 [some (.ref (Δ.ba + 0)), some (.int (x1)), some (.int (x2)), some (.int (x3))] []
  | 0, _, _, _, _, h => by cases h
  | f + 1, x1, x2, x3, I, h => by
    have ih := gl_Eng_run_60 (n := n) hX hk hT  f
    rw [l_Eng_run_60] at h
    refine g_iload_n (pc := 60) (dd d_Eng_run 32 rfl) rfl ?_
    refine g_iload_n (pc := 61) (dd d_Eng_run 33 rfl) rfl ?_
    refine g_icmpge (pc := 62) (tgt := 112) (dd d_Eng_run 34 rfl) (by decide) (fun q5 => ?_) (fun q5 => ?_)
    · replace h := ite_t h q5
      refine g_drop [0, 1, 3] ?_
      exact gb_Eng_run_112 hX hk hT  h
    · replace h := ite_f h q5
      refine g_iload_n (pc := 65) (dd d_Eng_run 35 rfl) rfl ?_
      refine g_aload_n (pc := 66) (dd d_Eng_run 36 rfl) rfl ?_
      refine g_getr (pc := 67) (dd d_Eng_run 37 rfl) f_Eng_35 oc_Eng rfl (rx_Eng_3 hX) ?_
      refine g_aload_n (pc := 70) (dd d_Eng_run 38 rfl) rfl ?_
      refine g_getr (pc := 71) (dd d_Eng_run 39 rfl) f_Eng_66 oc_Eng rfl hX.r_hd ?_
      refine g_aload_n (pc := 74) (dd d_Eng_run 40 rfl) rfl ?_
      refine g_getr (pc := 75) (dd d_Eng_run 41 rfl) f_Eng_60 oc_Eng rfl hX.r_rl ?_
      obtain ⟨v6, e7, h⟩ := bnd_e h
      refine g_callV (pc := 78) (dd d_Eng_run 42 rfl) v_Eng_173 oc_Stp rfl (ef_Stp_attempt hX hX.i_hd hX.i_rl e7) rfl (by omega) (Nat.le_of_ble_eq_true rfl) ⟨Nat.zero_le _, Nat.zero_le _⟩ rfl ?_
      suffices K81 : ∀ z : Int32, z = (if (v6.1 : Int32) = 0 then 0 else 1 : Int32) → GG Δ m_Eng_run Γ NN 0 0 (v6.2, X) 89 [some (.ref (Δ.ba + 0)), some (.int (x1)), some (.int (x2)), some (.int (x3))] [.int (z), .int (x2)] by
        refine g_ifeq (pc := 81) (tgt := 88) (dd d_Eng_run 43 rfl) (by decide) (fun q8 => ?_) (fun q8 => ?_)
        · skip
          refine g_iconst (pc := 88) (v := 0) (dd d_Eng_run 46 rfl) (by decide) ?_
          exact K81 _ (by rw [if_pos q8])
        · skip
          refine g_iconst (pc := 84) (v := 1) (dd d_Eng_run 44 rfl) (by decide) ?_
          refine g_goto (pc := 85) (tgt := 89) (dd d_Eng_run 45 rfl) (by decide) ?_
          exact K81 _ (by rw [if_neg q8])
      intro z hz
      subst hz
      refine g_iadd (pc := 89) (dd d_Eng_run 47 rfl) ?_
      refine g_istore_n (pc := 90) (dd d_Eng_run 48 rfl) (by decide) ?_
      refine g_aload_n (pc := 91) (dd d_Eng_run 49 rfl) rfl ?_
      refine g_getr (pc := 92) (dd d_Eng_run 50 rfl) f_Eng_66 oc_Eng rfl hX.r_hd ?_
      refine g_getr (pc := 95) (dd d_Eng_run 51 rfl) f_Eng_158 (oc_Mch hX.i_hd) rfl (rx_Mch_15 hX hX.i_hd) ?_
      refine g_iconst (pc := 98) (v := 0) (dd d_Eng_run 52 rfl) (by decide) ?_
      refine g_iald (pc := 99) (dd d_Eng_run 53 rfl) (ax_Mch_15 hX.i_hd) (by rw [vp_in_iff]; decide) ?_
      refine g_ifeq (pc := 100) (tgt := 106) (dd d_Eng_run 54 rfl) (by decide) (fun q9 => ?_) (fun q9 => ?_)
      · replace h := ite_t h q9
        refine g_iincW (pc := 106) (w := 1) (dd d_Eng_run 56 rfl) rfl (by decide) (by decide) ?_
        refine g_goto (pc := 109) (tgt := 60) (dd d_Eng_run 57 rfl) (by decide) ?_
        exact ih _ _ _ _ h
      · replace h := ite_f h q9
        refine g_goto (pc := 103) (tgt := 112) (dd d_Eng_run 55 rfl) (by decide) ?_
        refine g_drop [0, 1, 3] ?_
        exact gb_Eng_run_112 hX hk hT  h
def b_Eng_run_56 (n : Nat) (rl : Nat) (hd : Nat)  (x1 : Int32) (I : IM) : Option (Int32 × IM) := l_Eng_run_60 n rl hd  n x1 0 0 I
set_option maxRecDepth 20000 in
set_option maxHeartbeats 4000000 in
theorem gb_Eng_run_56 {Δ : Dx} {X : Lx} {rl hd ot pt it : Nat} (hX : EX Δ X rl hd ot pt it)   {n : Nat} {Γ : Cx} (hk : Γ.k = 7) {r : Int32 × IM} (hT : Tg Δ Γ (some (.int r.1)) NN (r.2, X) 0 0)  {x1 : Int32} {I : IM} (h : b_Eng_run_56 n rl hd  x1 I = some r) : GG Δ m_Eng_run Γ NN 0 0 (I, X) 56 [some (.ref (Δ.ba + 0)), some (.int (x1)), none, none] [] := by
  unfold b_Eng_run_56 at h
  refine g_iconst (pc := 56) (v := 0) (dd d_Eng_run 28 rfl) (by decide) ?_
  refine g_istore_n (pc := 57) (dd d_Eng_run 29 rfl) (by decide) ?_
  refine g_iconst (pc := 58) (v := 0) (dd d_Eng_run 30 rfl) (by decide) ?_
  refine g_istore_n (pc := 59) (dd d_Eng_run 31 rfl) (by decide) ?_
  exact gl_Eng_run_60 hX hk hT  _ _ _ _ _ h
def f_Eng_run (n : Nat) (rl : Nat) (hd : Nat) (x1 : Int32) (I : IM) : Option (Int32 × IM) := if x1 < 0 then (b_Eng_run_11 n rl hd  I) else (if x1 ≤ (2000 : Int32) then (if (I (hd + 13) (0 : Int32).toNatClampNeg : Int32) = 0 then (b_Eng_run_56 n rl hd  x1 I) else (if (I (hd + 13) (0 : Int32).toNatClampNeg : Int32) = (5 : Int32) then (b_Eng_run_56 n rl hd  x1 I) else (none))) else (b_Eng_run_11 n rl hd  I))
set_option maxRecDepth 20000 in
set_option maxHeartbeats 4000000 in
theorem ef_Eng_run {Δ : Dx} {X : Lx} {rl hd ot pt it : Nat} (hX : EX Δ X rl hd ot pt it) {n : Nat} {x1 : Int32}  {I : IM}  {r : Int32 × IM} (h : f_Eng_run n rl hd x1 I = some r) : Ev Δ (7) m_Eng_run [.ref (Δ.ba + 0), .int x1] (I, X) (some (.int r.1)) (r.2, X) := by
  refine ev_of (by decide) (Nat.le_of_ble_eq_true rfl) (fun Γ hk hR hT => ?_)
  change GG Δ m_Eng_run Γ NN 0 0 (I, X) 0 [some (.ref (Δ.ba + 0)), some (.int (x1)), none, none] []
  unfold f_Eng_run at h
  refine g_iload_n (pc := 0) (dd d_Eng_run 0 rfl) rfl ?_
  refine g_iflt (pc := 1) (tgt := 11) (dd d_Eng_run 1 rfl) (by decide) (fun q1 => ?_) (fun q1 => ?_)
  · replace h := ite_t h q1
    refine g_drop [0, 1] ?_
    exact gb_Eng_run_11 hX hk hT  h
  · replace h := ite_f h q1
    refine g_iload_n (pc := 4) (dd d_Eng_run 2 rfl) rfl ?_
    refine g_sipush (pc := 5) (v := 2000) (dd d_Eng_run 3 rfl) (by decide) ?_
    refine g_icmple (pc := 8) (tgt := 21) (dd d_Eng_run 4 rfl) (by decide) (fun q2 => ?_) (fun q2 => ?_)
    · replace h := ite_t h q2
      refine g_aload_n (pc := 21) (dd d_Eng_run 10 rfl) rfl ?_
      refine g_getr (pc := 22) (dd d_Eng_run 11 rfl) f_Eng_66 oc_Eng rfl hX.r_hd ?_
      refine g_getr (pc := 25) (dd d_Eng_run 12 rfl) f_Eng_158 (oc_Mch hX.i_hd) rfl (rx_Mch_15 hX hX.i_hd) ?_
      refine g_iconst (pc := 28) (v := 0) (dd d_Eng_run 13 rfl) (by decide) ?_
      refine g_iald (pc := 29) (dd d_Eng_run 14 rfl) (ax_Mch_15 hX.i_hd) (by rw [vp_in_iff]; decide) ?_
      refine g_ifeq (pc := 30) (tgt := 56) (dd d_Eng_run 15 rfl) (by decide) (fun q3 => ?_) (fun q3 => ?_)
      · replace h := ite_t h q3
        exact gb_Eng_run_56 hX hk hT  h
      · replace h := ite_f h q3
        refine g_aload_n (pc := 33) (dd d_Eng_run 16 rfl) rfl ?_
        refine g_getr (pc := 34) (dd d_Eng_run 17 rfl) f_Eng_66 oc_Eng rfl hX.r_hd ?_
        refine g_getr (pc := 37) (dd d_Eng_run 18 rfl) f_Eng_158 (oc_Mch hX.i_hd) rfl (rx_Mch_15 hX hX.i_hd) ?_
        refine g_iconst (pc := 40) (v := 0) (dd d_Eng_run 19 rfl) (by decide) ?_
        refine g_iald (pc := 41) (dd d_Eng_run 20 rfl) (ax_Mch_15 hX.i_hd) (by rw [vp_in_iff]; decide) ?_
        refine g_iconst (pc := 42) (v := 5) (dd d_Eng_run 21 rfl) (by decide) ?_
        refine g_icmpeq (pc := 43) (tgt := 56) (dd d_Eng_run 22 rfl) (by decide) (fun q4 => ?_) (fun q4 => ?_)
        · replace h := ite_t h q4
          exact gb_Eng_run_56 hX hk hT  h
        · replace h := ite_f h q4
          cases h
    · replace h := ite_f h q2
      refine g_drop [0, 1] ?_
      exact gb_Eng_run_11 hX hk hT  h
def b_Eng_state_10 (hd : Nat) (I : IM)   : Option (Int32) := none
set_option maxRecDepth 20000 in
set_option maxHeartbeats 4000000 in
theorem gb_Eng_state_10 {Δ : Dx} {X : Lx} {rl hd ot pt it : Nat} (hX : EX Δ X rl hd ot pt it)   {I : IM} {Γ : Cx} (hk : Γ.k = 0) {r : Int32} (hT : Tg Δ Γ (some (.int r)) NN (I, X) 0 0)   (h : b_Eng_state_10 hd I   = some r) : GG Δ m_Eng_state Γ NN 0 0 (I, X) 10 [none, none] [] := by
  unfold b_Eng_state_10 at h
  cases h
def b_Eng_state_65 (hd : Nat) (I : IM)  (y0 : Int32) : Option (Int32) := some (y0)
set_option maxRecDepth 20000 in
set_option maxHeartbeats 4000000 in
theorem gb_Eng_state_65 {Δ : Dx} {X : Lx} {rl hd ot pt it : Nat} (hX : EX Δ X rl hd ot pt it)   {I : IM} {Γ : Cx} (hk : Γ.k = 0) {r : Int32} (hT : Tg Δ Γ (some (.int r)) NN (I, X) 0 0)  {y0 : Int32} (h : b_Eng_state_65 hd I  y0 = some r) : GG Δ m_Eng_state Γ NN 0 0 (I, X) 65 [none, none] [.int (y0)] := by
  unfold b_Eng_state_65 at h
  cases h
  exact g_iret (pc := 65) rfl (dd d_Eng_state 31 rfl) hT
def f_Eng_state (hd : Nat) (x1 : Int32) (I : IM) : Option (Int32) := if x1 < 0 then (b_Eng_state_10 hd I  ) else (if x1 ≤ (9 : Int32) then (if x1 = (8 : Int32) then (some (I (hd + 15) 0)) else (if x1 = (9 : Int32) then (b_Eng_state_65 hd I  (I (hd + 17) 0)) else (chk (inb x1 8) <| b_Eng_state_65 hd I  (I (hd + 13) x1.toNatClampNeg)))) else (b_Eng_state_10 hd I  ))
set_option maxRecDepth 20000 in
set_option maxHeartbeats 4000000 in
theorem ef_Eng_state {Δ : Dx} {X : Lx} {rl hd ot pt it : Nat} (hX : EX Δ X rl hd ot pt it) {x1 : Int32}  {I : IM}  {r : Int32} (h : f_Eng_state hd x1 I = some r) : Ev Δ (0) m_Eng_state [.ref (Δ.ba + 0), .int x1] (I, X) (some (.int r)) (I, X) := by
  refine ev_of (by decide) (Nat.le_of_ble_eq_true rfl) (fun Γ hk hR hT => ?_)
  change GG Δ m_Eng_state Γ NN 0 0 (I, X) 0 [some (.ref (Δ.ba + 0)), some (.int (x1))] []
  unfold f_Eng_state at h
  refine g_iload_n (pc := 0) (dd d_Eng_state 0 rfl) rfl ?_
  refine g_iflt (pc := 1) (tgt := 10) (dd d_Eng_state 1 rfl) (by decide) (fun q1 => ?_) (fun q1 => ?_)
  · replace h := ite_t h q1
    refine g_drop [0, 1] ?_
    exact gb_Eng_state_10 hX hk hT  h
  · replace h := ite_f h q1
    refine g_iload_n (pc := 4) (dd d_Eng_state 2 rfl) rfl ?_
    refine g_bipush (pc := 5) (v := 9) (dd d_Eng_state 3 rfl) (by decide) ?_
    refine g_icmple (pc := 7) (tgt := 20) (dd d_Eng_state 4 rfl) (by decide) (fun q2 => ?_) (fun q2 => ?_)
    · replace h := ite_t h q2
      refine g_iload_n (pc := 20) (dd d_Eng_state 10 rfl) rfl ?_
      refine g_bipush (pc := 21) (v := 8) (dd d_Eng_state 11 rfl) (by decide) ?_
      refine g_icmpne (pc := 23) (tgt := 37) (dd d_Eng_state 12 rfl) (by decide) (fun q3 => ?_) (fun q3 => ?_)
      · replace h := ite_f h q3
        refine g_iload_n (pc := 37) (dd d_Eng_state 18 rfl) rfl ?_
        refine g_bipush (pc := 38) (v := 9) (dd d_Eng_state 19 rfl) (by decide) ?_
        refine g_icmpne (pc := 40) (tgt := 56) (dd d_Eng_state 20 rfl) (by decide) (fun q4 => ?_) (fun q4 => ?_)
        · replace h := ite_f h q4
          refine g_aload_n (pc := 56) (dd d_Eng_state 26 rfl) rfl ?_
          refine g_getr (pc := 57) (dd d_Eng_state 27 rfl) f_Eng_66 oc_Eng rfl hX.r_hd ?_
          refine g_getr (pc := 60) (dd d_Eng_state 28 rfl) f_Eng_158 (oc_Mch hX.i_hd) rfl (rx_Mch_15 hX hX.i_hd) ?_
          refine g_iload_n (pc := 63) (dd d_Eng_state 29 rfl) rfl ?_
          obtain ⟨c5, h⟩ := chk_e h
          refine g_iald (pc := 64) (dd d_Eng_state 30 rfl) (ax_Mch_15 hX.i_hd) c5 ?_
          refine g_drop [0, 1] ?_
          exact gb_Eng_state_65 hX hk hT  h
        · replace h := ite_t h q4
          refine g_aload_n (pc := 43) (dd d_Eng_state 21 rfl) rfl ?_
          refine g_getr (pc := 44) (dd d_Eng_state 22 rfl) f_Eng_66 oc_Eng rfl hX.r_hd ?_
          refine g_getr (pc := 47) (dd d_Eng_state 23 rfl) f_Eng_188 (oc_Mch hX.i_hd) rfl (rx_Mch_18 hX hX.i_hd) ?_
          refine g_geti (pc := 50) (dd d_Eng_state 24 rfl) f_Eng_183 (oc_Rng (ir_18 hX.i_hd)) rfl ?_
          refine g_goto (pc := 53) (tgt := 65) (dd d_Eng_state 25 rfl) (by decide) ?_
          refine g_drop [0, 1] ?_
          exact gb_Eng_state_65 hX hk hT  h
      · replace h := ite_t h q3
        refine g_aload_n (pc := 26) (dd d_Eng_state 13 rfl) rfl ?_
        refine g_getr (pc := 27) (dd d_Eng_state 14 rfl) f_Eng_66 oc_Eng rfl hX.r_hd ?_
        refine g_getr (pc := 30) (dd d_Eng_state 15 rfl) f_Eng_179 (oc_Mch hX.i_hd) rfl (rx_Mch_17 hX hX.i_hd) ?_
        refine g_geti (pc := 33) (dd d_Eng_state 16 rfl) f_Eng_183 (oc_Rng (ir_17 hX.i_hd)) rfl ?_
        cases h
        exact g_iret (pc := 36) rfl (dd d_Eng_state 17 rfl) hT
    · replace h := ite_f h q2
      refine g_drop [0, 1] ?_
      exact gb_Eng_state_10 hX hk hT  h
def b_Eng_registerOf_10 (hd : Nat) (I : IM)   : Option (Int32) := none
set_option maxRecDepth 20000 in
set_option maxHeartbeats 4000000 in
theorem gb_Eng_registerOf_10 {Δ : Dx} {X : Lx} {rl hd ot pt it : Nat} (hX : EX Δ X rl hd ot pt it)   {I : IM} {Γ : Cx} (hk : Γ.k = 0) {r : Int32} (hT : Tg Δ Γ (some (.int r)) NN (I, X) 0 0)   (h : b_Eng_registerOf_10 hd I   = some r) : GG Δ m_Eng_registerOf Γ NN 0 0 (I, X) 10 [none, none, none] [] := by
  unfold b_Eng_registerOf_10 at h
  cases h
def b_Eng_registerOf_29 (hd : Nat) (I : IM)   : Option (Int32) := none
set_option maxRecDepth 20000 in
set_option maxHeartbeats 4000000 in
theorem gb_Eng_registerOf_29 {Δ : Dx} {X : Lx} {rl hd ot pt it : Nat} (hX : EX Δ X rl hd ot pt it)   {I : IM} {Γ : Cx} (hk : Γ.k = 0) {r : Int32} (hT : Tg Δ Γ (some (.int r)) NN (I, X) 0 0)   (h : b_Eng_registerOf_29 hd I   = some r) : GG Δ m_Eng_registerOf Γ NN 0 0 (I, X) 29 [none, none, none] [] := by
  unfold b_Eng_registerOf_29 at h
  cases h
def b_Eng_registerOf_64 (hd : Nat) (I : IM)  (y0 : Int32) : Option (Int32) := some (y0)
set_option maxRecDepth 20000 in
set_option maxHeartbeats 4000000 in
theorem gb_Eng_registerOf_64 {Δ : Dx} {X : Lx} {rl hd ot pt it : Nat} (hX : EX Δ X rl hd ot pt it)   {I : IM} {Γ : Cx} (hk : Γ.k = 0) {r : Int32} (hT : Tg Δ Γ (some (.int r)) NN (I, X) 0 0)  {y0 : Int32} (h : b_Eng_registerOf_64 hd I  y0 = some r) : GG Δ m_Eng_registerOf Γ NN 0 0 (I, X) 64 [none, none, none] [.int (y0)] := by
  unfold b_Eng_registerOf_64 at h
  cases h
  exact g_iret (pc := 64) rfl (dd d_Eng_registerOf 33 rfl) hT
def f_Eng_registerOf (hd : Nat) (x1 : Int32) (x2 : Int32) (I : IM) : Option (Int32) := if x1 < 0 then (b_Eng_registerOf_10 hd I  ) else (if x1 ≤ (8 : Int32) then (if x2 < 0 then (b_Eng_registerOf_29 hd I  ) else (if x2 ≤ (1 : Int32) then (if x2 = 0 then (chk (inb x1 9) <| b_Eng_registerOf_64 hd I  (I (hd + 6) x1.toNatClampNeg)) else (chk (inb x1 9) <| b_Eng_registerOf_64 hd I  (I (hd + 7) x1.toNatClampNeg))) else (b_Eng_registerOf_29 hd I  ))) else (b_Eng_registerOf_10 hd I  ))
set_option maxRecDepth 20000 in
set_option maxHeartbeats 4000000 in
theorem ef_Eng_registerOf {Δ : Dx} {X : Lx} {rl hd ot pt it : Nat} (hX : EX Δ X rl hd ot pt it) {x1 : Int32} {x2 : Int32}  {I : IM}  {r : Int32} (h : f_Eng_registerOf hd x1 x2 I = some r) : Ev Δ (0) m_Eng_registerOf [.ref (Δ.ba + 0), .int x1, .int x2] (I, X) (some (.int r)) (I, X) := by
  refine ev_of (by decide) (Nat.le_of_ble_eq_true rfl) (fun Γ hk hR hT => ?_)
  change GG Δ m_Eng_registerOf Γ NN 0 0 (I, X) 0 [some (.ref (Δ.ba + 0)), some (.int (x1)), some (.int (x2))] []
  unfold f_Eng_registerOf at h
  refine g_iload_n (pc := 0) (dd d_Eng_registerOf 0 rfl) rfl ?_
  refine g_iflt (pc := 1) (tgt := 10) (dd d_Eng_registerOf 1 rfl) (by decide) (fun q1 => ?_) (fun q1 => ?_)
  · replace h := ite_t h q1
    refine g_drop [0, 1, 2] ?_
    exact gb_Eng_registerOf_10 hX hk hT  h
  · replace h := ite_f h q1
    refine g_iload_n (pc := 4) (dd d_Eng_registerOf 2 rfl) rfl ?_
    refine g_bipush (pc := 5) (v := 8) (dd d_Eng_registerOf 3 rfl) (by decide) ?_
    refine g_icmple (pc := 7) (tgt := 20) (dd d_Eng_registerOf 4 rfl) (by decide) (fun q2 => ?_) (fun q2 => ?_)
    · replace h := ite_t h q2
      refine g_iload_n (pc := 20) (dd d_Eng_registerOf 10 rfl) rfl ?_
      refine g_iflt (pc := 21) (tgt := 29) (dd d_Eng_registerOf 11 rfl) (by decide) (fun q3 => ?_) (fun q3 => ?_)
      · replace h := ite_t h q3
        refine g_drop [0, 1, 2] ?_
        exact gb_Eng_registerOf_29 hX hk hT  h
      · replace h := ite_f h q3
        refine g_iload_n (pc := 24) (dd d_Eng_registerOf 12 rfl) rfl ?_
        refine g_iconst (pc := 25) (v := 1) (dd d_Eng_registerOf 13 rfl) (by decide) ?_
        refine g_icmple (pc := 26) (tgt := 39) (dd d_Eng_registerOf 14 rfl) (by decide) (fun q4 => ?_) (fun q4 => ?_)
        · replace h := ite_t h q4
          refine g_iload_n (pc := 39) (dd d_Eng_registerOf 20 rfl) rfl ?_
          refine g_ifne (pc := 40) (tgt := 55) (dd d_Eng_registerOf 21 rfl) (by decide) (fun q5 => ?_) (fun q5 => ?_)
          · replace h := ite_f h q5
            refine g_aload_n (pc := 55) (dd d_Eng_registerOf 28 rfl) rfl ?_
            refine g_getr (pc := 56) (dd d_Eng_registerOf 29 rfl) f_Eng_66 oc_Eng rfl hX.r_hd ?_
            refine g_getr (pc := 59) (dd d_Eng_registerOf 30 rfl) f_Eng_194 (oc_Mch hX.i_hd) rfl (rx_Mch_9 hX hX.i_hd) ?_
            refine g_iload_n (pc := 62) (dd d_Eng_registerOf 31 rfl) rfl ?_
            obtain ⟨c6, h⟩ := chk_e h
            refine g_iald (pc := 63) (dd d_Eng_registerOf 32 rfl) (ax_Mch_9 hX.i_hd) c6 ?_
            refine g_drop [0, 1, 2] ?_
            exact gb_Eng_registerOf_64 hX hk hT  h
          · replace h := ite_t h q5
            refine g_aload_n (pc := 43) (dd d_Eng_registerOf 22 rfl) rfl ?_
            refine g_getr (pc := 44) (dd d_Eng_registerOf 23 rfl) f_Eng_66 oc_Eng rfl hX.r_hd ?_
            refine g_getr (pc := 47) (dd d_Eng_registerOf 24 rfl) f_Eng_191 (oc_Mch hX.i_hd) rfl (rx_Mch_8 hX hX.i_hd) ?_
            refine g_iload_n (pc := 50) (dd d_Eng_registerOf 25 rfl) rfl ?_
            obtain ⟨c7, h⟩ := chk_e h
            refine g_iald (pc := 51) (dd d_Eng_registerOf 26 rfl) (ax_Mch_8 hX.i_hd) c7 ?_
            refine g_goto (pc := 52) (tgt := 64) (dd d_Eng_registerOf 27 rfl) (by decide) ?_
            refine g_drop [0, 1, 2] ?_
            exact gb_Eng_registerOf_64 hX hk hT  h
        · replace h := ite_f h q4
          refine g_drop [0, 1, 2] ?_
          exact gb_Eng_registerOf_29 hX hk hT  h
    · replace h := ite_f h q2
      refine g_drop [0, 1, 2] ?_
      exact gb_Eng_registerOf_10 hX hk hT  h
def b_Eng_wordOf_10 (hd : Nat) (I : IM)   : Option (Int32) := none
set_option maxRecDepth 20000 in
set_option maxHeartbeats 4000000 in
theorem gb_Eng_wordOf_10 {Δ : Dx} {X : Lx} {rl hd ot pt it : Nat} (hX : EX Δ X rl hd ot pt it)   {I : IM} {Γ : Cx} (hk : Γ.k = 0) {r : Int32} (hT : Tg Δ Γ (some (.int r)) NN (I, X) 0 0)   (h : b_Eng_wordOf_10 hd I   = some r) : GG Δ m_Eng_wordOf Γ NN 0 0 (I, X) 10 [none, none, none] [] := by
  unfold b_Eng_wordOf_10 at h
  cases h
def b_Eng_wordOf_29 (hd : Nat) (I : IM)   : Option (Int32) := none
set_option maxRecDepth 20000 in
set_option maxHeartbeats 4000000 in
theorem gb_Eng_wordOf_29 {Δ : Dx} {X : Lx} {rl hd ot pt it : Nat} (hX : EX Δ X rl hd ot pt it)   {I : IM} {Γ : Cx} (hk : Γ.k = 0) {r : Int32} (hT : Tg Δ Γ (some (.int r)) NN (I, X) 0 0)   (h : b_Eng_wordOf_29 hd I   = some r) : GG Δ m_Eng_wordOf Γ NN 0 0 (I, X) 29 [none, none, none] [] := by
  unfold b_Eng_wordOf_29 at h
  cases h
def b_Eng_wordOf_79 (hd : Nat) (I : IM)  (y0 : Int32) : Option (Int32) := some (y0)
set_option maxRecDepth 20000 in
set_option maxHeartbeats 4000000 in
theorem gb_Eng_wordOf_79 {Δ : Dx} {X : Lx} {rl hd ot pt it : Nat} (hX : EX Δ X rl hd ot pt it)   {I : IM} {Γ : Cx} (hk : Γ.k = 0) {r : Int32} (hT : Tg Δ Γ (some (.int r)) NN (I, X) 0 0)  {y0 : Int32} (h : b_Eng_wordOf_79 hd I  y0 = some r) : GG Δ m_Eng_wordOf Γ NN 0 0 (I, X) 79 [none, none, none] [.int (y0)] := by
  unfold b_Eng_wordOf_79 at h
  cases h
  exact g_iret (pc := 79) rfl (dd d_Eng_wordOf 42 rfl) hT
def f_Eng_wordOf (hd : Nat) (x1 : Int32) (x2 : Int32) (I : IM) : Option (Int32) := if x1 < 0 then (b_Eng_wordOf_10 hd I  ) else (if x1 < (96 : Int32) then (if x2 < 0 then (b_Eng_wordOf_29 hd I  ) else (if x2 ≤ (2 : Int32) then (if x2 = 0 then (chk (inb x1 96) <| some (I (hd + 3) x1.toNatClampNeg)) else (if x2 = (1 : Int32) then (chk (inb x1 96) <| b_Eng_wordOf_79 hd I  (I (hd + 4) x1.toNatClampNeg)) else (chk (inb x1 96) <| b_Eng_wordOf_79 hd I  (I (hd + 5) x1.toNatClampNeg)))) else (b_Eng_wordOf_29 hd I  ))) else (b_Eng_wordOf_10 hd I  ))
set_option maxRecDepth 20000 in
set_option maxHeartbeats 4000000 in
theorem ef_Eng_wordOf {Δ : Dx} {X : Lx} {rl hd ot pt it : Nat} (hX : EX Δ X rl hd ot pt it) {x1 : Int32} {x2 : Int32}  {I : IM}  {r : Int32} (h : f_Eng_wordOf hd x1 x2 I = some r) : Ev Δ (0) m_Eng_wordOf [.ref (Δ.ba + 0), .int x1, .int x2] (I, X) (some (.int r)) (I, X) := by
  refine ev_of (by decide) (Nat.le_of_ble_eq_true rfl) (fun Γ hk hR hT => ?_)
  change GG Δ m_Eng_wordOf Γ NN 0 0 (I, X) 0 [some (.ref (Δ.ba + 0)), some (.int (x1)), some (.int (x2))] []
  unfold f_Eng_wordOf at h
  refine g_iload_n (pc := 0) (dd d_Eng_wordOf 0 rfl) rfl ?_
  refine g_iflt (pc := 1) (tgt := 10) (dd d_Eng_wordOf 1 rfl) (by decide) (fun q1 => ?_) (fun q1 => ?_)
  · replace h := ite_t h q1
    refine g_drop [0, 1, 2] ?_
    exact gb_Eng_wordOf_10 hX hk hT  h
  · replace h := ite_f h q1
    refine g_iload_n (pc := 4) (dd d_Eng_wordOf 2 rfl) rfl ?_
    refine g_bipush (pc := 5) (v := 96) (dd d_Eng_wordOf 3 rfl) (by decide) ?_
    refine g_icmplt (pc := 7) (tgt := 20) (dd d_Eng_wordOf 4 rfl) (by decide) (fun q2 => ?_) (fun q2 => ?_)
    · replace h := ite_t h q2
      refine g_iload_n (pc := 20) (dd d_Eng_wordOf 10 rfl) rfl ?_
      refine g_iflt (pc := 21) (tgt := 29) (dd d_Eng_wordOf 11 rfl) (by decide) (fun q3 => ?_) (fun q3 => ?_)
      · replace h := ite_t h q3
        refine g_drop [0, 1, 2] ?_
        exact gb_Eng_wordOf_29 hX hk hT  h
      · replace h := ite_f h q3
        refine g_iload_n (pc := 24) (dd d_Eng_wordOf 12 rfl) rfl ?_
        refine g_iconst (pc := 25) (v := 2) (dd d_Eng_wordOf 13 rfl) (by decide) ?_
        refine g_icmple (pc := 26) (tgt := 39) (dd d_Eng_wordOf 14 rfl) (by decide) (fun q4 => ?_) (fun q4 => ?_)
        · replace h := ite_t h q4
          refine g_iload_n (pc := 39) (dd d_Eng_wordOf 20 rfl) rfl ?_
          refine g_ifne (pc := 40) (tgt := 53) (dd d_Eng_wordOf 21 rfl) (by decide) (fun q5 => ?_) (fun q5 => ?_)
          · replace h := ite_f h q5
            refine g_iload_n (pc := 53) (dd d_Eng_wordOf 28 rfl) rfl ?_
            refine g_iconst (pc := 54) (v := 1) (dd d_Eng_wordOf 29 rfl) (by decide) ?_
            refine g_icmpne (pc := 55) (tgt := 70) (dd d_Eng_wordOf 30 rfl) (by decide) (fun q6 => ?_) (fun q6 => ?_)
            · replace h := ite_f h q6
              refine g_aload_n (pc := 70) (dd d_Eng_wordOf 37 rfl) rfl ?_
              refine g_getr (pc := 71) (dd d_Eng_wordOf 38 rfl) f_Eng_66 oc_Eng rfl hX.r_hd ?_
              refine g_getr (pc := 74) (dd d_Eng_wordOf 39 rfl) f_Eng_205 (oc_Mch hX.i_hd) rfl (rx_Mch_7 hX hX.i_hd) ?_
              refine g_iload_n (pc := 77) (dd d_Eng_wordOf 40 rfl) rfl ?_
              obtain ⟨c7, h⟩ := chk_e h
              refine g_iald (pc := 78) (dd d_Eng_wordOf 41 rfl) (ax_Mch_7 hX.i_hd) c7 ?_
              refine g_drop [0, 1, 2] ?_
              exact gb_Eng_wordOf_79 hX hk hT  h
            · replace h := ite_t h q6
              refine g_aload_n (pc := 58) (dd d_Eng_wordOf 31 rfl) rfl ?_
              refine g_getr (pc := 59) (dd d_Eng_wordOf 32 rfl) f_Eng_66 oc_Eng rfl hX.r_hd ?_
              refine g_getr (pc := 62) (dd d_Eng_wordOf 33 rfl) f_Eng_202 (oc_Mch hX.i_hd) rfl (rx_Mch_6 hX hX.i_hd) ?_
              refine g_iload_n (pc := 65) (dd d_Eng_wordOf 34 rfl) rfl ?_
              obtain ⟨c8, h⟩ := chk_e h
              refine g_iald (pc := 66) (dd d_Eng_wordOf 35 rfl) (ax_Mch_6 hX.i_hd) c8 ?_
              refine g_goto (pc := 67) (tgt := 79) (dd d_Eng_wordOf 36 rfl) (by decide) ?_
              refine g_drop [0, 1, 2] ?_
              exact gb_Eng_wordOf_79 hX hk hT  h
          · replace h := ite_t h q5
            refine g_aload_n (pc := 43) (dd d_Eng_wordOf 22 rfl) rfl ?_
            refine g_getr (pc := 44) (dd d_Eng_wordOf 23 rfl) f_Eng_66 oc_Eng rfl hX.r_hd ?_
            refine g_getr (pc := 47) (dd d_Eng_wordOf 24 rfl) f_Eng_199 (oc_Mch hX.i_hd) rfl (rx_Mch_5 hX hX.i_hd) ?_
            refine g_iload_n (pc := 50) (dd d_Eng_wordOf 25 rfl) rfl ?_
            obtain ⟨c9, h⟩ := chk_e h
            refine g_iald (pc := 51) (dd d_Eng_wordOf 26 rfl) (ax_Mch_5 hX.i_hd) c9 ?_
            cases h
            exact g_iret (pc := 52) rfl (dd d_Eng_wordOf 27 rfl) hT
        · replace h := ite_f h q4
          refine g_drop [0, 1, 2] ?_
          exact gb_Eng_wordOf_29 hX hk hT  h
    · replace h := ite_f h q2
      refine g_drop [0, 1, 2] ?_
      exact gb_Eng_wordOf_10 hX hk hT  h
def f_Mch_keptOutputs (x0 : Nat) (I : IM) : Option (Int32) := some (minI (I (x0 + 13) (1 : Int32).toNatClampNeg) 40)
set_option maxRecDepth 20000 in
set_option maxHeartbeats 4000000 in
theorem ef_Mch_keptOutputs {Δ : Dx} {X : Lx} {rl hd ot pt it : Nat} (hX : EX Δ X rl hd ot pt it) {x0 : Nat} (h_x0 : isMch x0) {I : IM}  {r : Int32} (h : f_Mch_keptOutputs x0 I = some r) : Ev Δ (2) m_Mch_keptOutputs [.ref (Δ.ba + x0)] (I, X) (some (.int r)) (I, X) := by
  refine ev_of (by decide) (Nat.le_of_ble_eq_true rfl) (fun Γ hk hR hT => ?_)
  change GG Δ m_Mch_keptOutputs Γ NN 0 0 (I, X) 0 [some (.ref (Δ.ba + x0))] []
  unfold f_Mch_keptOutputs at h
  refine g_aload_n (pc := 0) (dd d_Mch_keptOutputs 0 rfl) rfl ?_
  refine g_getr (pc := 1) (dd d_Mch_keptOutputs 1 rfl) f_Mch_48 (oc_Mch h_x0) rfl (rx_Mch_15 hX h_x0) ?_
  refine g_iconst (pc := 4) (v := 1) (dd d_Mch_keptOutputs 2 rfl) (by decide) ?_
  refine g_iald (pc := 5) (dd d_Mch_keptOutputs 3 rfl) (ax_Mch_15 h_x0) (by rw [vp_in_iff]; decide) ?_
  refine g_bipush (pc := 6) (v := 40) (dd d_Mch_keptOutputs 4 rfl) (by decide) ?_
  refine g_mminI (pc := 8) (dd d_Mch_keptOutputs 5 rfl) n_Mch_103 (by omega) (Nat.le_of_ble_eq_true rfl) (Nat.zero_le _) (Nat.zero_le _) ?_
  cases h
  exact g_iret (pc := 11) rfl (dd d_Mch_keptOutputs 6 rfl) hT
def b_Eng_output_15 (hd : Nat) (I : IM)   : Option (Int32) := none
set_option maxRecDepth 20000 in
set_option maxHeartbeats 4000000 in
theorem gb_Eng_output_15 {Δ : Dx} {X : Lx} {rl hd ot pt it : Nat} (hX : EX Δ X rl hd ot pt it)   {I : IM} {Γ : Cx} (hk : Γ.k = 3) {r : Int32} (hT : Tg Δ Γ (some (.int r)) NN (I, X) 0 0)   (h : b_Eng_output_15 hd I   = some r) : GG Δ m_Eng_output Γ NN 0 0 (I, X) 15 [none, none] [] := by
  unfold b_Eng_output_15 at h
  cases h
def f_Eng_output (hd : Nat) (x1 : Int32) (I : IM) : Option (Int32) := if x1 < 0 then (b_Eng_output_15 hd I  ) else (Option.bind (f_Mch_keptOutputs  hd I) fun v2 => if x1 < v2 then (chk (inb x1 40) <| some (I (hd + 10) x1.toNatClampNeg)) else (b_Eng_output_15 hd I  ))
set_option maxRecDepth 20000 in
set_option maxHeartbeats 4000000 in
theorem ef_Eng_output {Δ : Dx} {X : Lx} {rl hd ot pt it : Nat} (hX : EX Δ X rl hd ot pt it) {x1 : Int32}  {I : IM}  {r : Int32} (h : f_Eng_output hd x1 I = some r) : Ev Δ (3) m_Eng_output [.ref (Δ.ba + 0), .int x1] (I, X) (some (.int r)) (I, X) := by
  refine ev_of (by decide) (Nat.le_of_ble_eq_true rfl) (fun Γ hk hR hT => ?_)
  change GG Δ m_Eng_output Γ NN 0 0 (I, X) 0 [some (.ref (Δ.ba + 0)), some (.int (x1))] []
  unfold f_Eng_output at h
  refine g_iload_n (pc := 0) (dd d_Eng_output 0 rfl) rfl ?_
  refine g_iflt (pc := 1) (tgt := 15) (dd d_Eng_output 1 rfl) (by decide) (fun q1 => ?_) (fun q1 => ?_)
  · replace h := ite_t h q1
    refine g_drop [0, 1] ?_
    exact gb_Eng_output_15 hX hk hT  h
  · replace h := ite_f h q1
    refine g_iload_n (pc := 4) (dd d_Eng_output 2 rfl) rfl ?_
    refine g_aload_n (pc := 5) (dd d_Eng_output 3 rfl) rfl ?_
    refine g_getr (pc := 6) (dd d_Eng_output 4 rfl) f_Eng_66 oc_Eng rfl hX.r_hd ?_
    obtain ⟨v2, e3, h⟩ := bnd_e h
    refine g_callV (pc := 9) (dd d_Eng_output 5 rfl) v_Eng_208 (oc_Mch hX.i_hd) rfl (ef_Mch_keptOutputs hX hX.i_hd e3) rfl (by omega) (Nat.le_of_ble_eq_true rfl) ⟨Nat.zero_le _, Nat.zero_le _⟩ rfl ?_
    refine g_icmplt (pc := 12) (tgt := 25) (dd d_Eng_output 6 rfl) (by decide) (fun q4 => ?_) (fun q4 => ?_)
    · replace h := ite_t h q4
      refine g_aload_n (pc := 25) (dd d_Eng_output 12 rfl) rfl ?_
      refine g_getr (pc := 26) (dd d_Eng_output 13 rfl) f_Eng_66 oc_Eng rfl hX.r_hd ?_
      refine g_getr (pc := 29) (dd d_Eng_output 14 rfl) f_Eng_213 (oc_Mch hX.i_hd) rfl (rx_Mch_12 hX hX.i_hd) ?_
      refine g_iload_n (pc := 32) (dd d_Eng_output 15 rfl) rfl ?_
      obtain ⟨c5, h⟩ := chk_e h
      refine g_iald (pc := 33) (dd d_Eng_output 16 rfl) (ax_Mch_12 hX.i_hd) c5 ?_
      cases h
      exact g_iret (pc := 34) rfl (dd d_Eng_output 17 rfl) hT
    · replace h := ite_f h q4
      refine g_drop [0, 1] ?_
      exact gb_Eng_output_15 hX hk hT  h
def b_Eng_pairOf_18 (hd : Nat) (I : IM)   : Option (Int32) := none
set_option maxRecDepth 20000 in
set_option maxHeartbeats 4000000 in
theorem gb_Eng_pairOf_18 {Δ : Dx} {X : Lx} {rl hd ot pt it : Nat} (hX : EX Δ X rl hd ot pt it)   {I : IM} {Γ : Cx} (hk : Γ.k = 0) {r : Int32} (hT : Tg Δ Γ (some (.int r)) NN (I, X) 0 0)   (h : b_Eng_pairOf_18 hd I   = some r) : GG Δ m_Eng_pairOf Γ NN 0 0 (I, X) 18 [none, none, none] [] := by
  unfold b_Eng_pairOf_18 at h
  cases h
def b_Eng_pairOf_37 (hd : Nat) (I : IM)   : Option (Int32) := none
set_option maxRecDepth 20000 in
set_option maxHeartbeats 4000000 in
theorem gb_Eng_pairOf_37 {Δ : Dx} {X : Lx} {rl hd ot pt it : Nat} (hX : EX Δ X rl hd ot pt it)   {I : IM} {Γ : Cx} (hk : Γ.k = 0) {r : Int32} (hT : Tg Δ Γ (some (.int r)) NN (I, X) 0 0)   (h : b_Eng_pairOf_37 hd I   = some r) : GG Δ m_Eng_pairOf Γ NN 0 0 (I, X) 37 [none, none, none] [] := by
  unfold b_Eng_pairOf_37 at h
  cases h
def b_Eng_pairOf_72 (hd : Nat) (I : IM)  (y0 : Int32) : Option (Int32) := some (y0)
set_option maxRecDepth 20000 in
set_option maxHeartbeats 4000000 in
theorem gb_Eng_pairOf_72 {Δ : Dx} {X : Lx} {rl hd ot pt it : Nat} (hX : EX Δ X rl hd ot pt it)   {I : IM} {Γ : Cx} (hk : Γ.k = 0) {r : Int32} (hT : Tg Δ Γ (some (.int r)) NN (I, X) 0 0)  {y0 : Int32} (h : b_Eng_pairOf_72 hd I  y0 = some r) : GG Δ m_Eng_pairOf Γ NN 0 0 (I, X) 72 [none, none, none] [.int (y0)] := by
  unfold b_Eng_pairOf_72 at h
  cases h
  exact g_iret (pc := 72) rfl (dd d_Eng_pairOf 37 rfl) hT
def f_Eng_pairOf (hd : Nat) (x1 : Int32) (x2 : Int32) (I : IM) : Option (Int32) := if x1 < 0 then (b_Eng_pairOf_18 hd I  ) else (if x1 < (I (hd + 13) (7 : Int32).toNatClampNeg : Int32) then (if x2 < 0 then (b_Eng_pairOf_37 hd I  ) else (if x2 ≤ (1 : Int32) then (if x2 = 0 then (chk (inb x1 60) <| b_Eng_pairOf_72 hd I  (I (hd + 11) x1.toNatClampNeg)) else (chk (inb x1 60) <| b_Eng_pairOf_72 hd I  (I (hd + 12) x1.toNatClampNeg))) else (b_Eng_pairOf_37 hd I  ))) else (b_Eng_pairOf_18 hd I  ))
set_option maxRecDepth 20000 in
set_option maxHeartbeats 4000000 in
theorem ef_Eng_pairOf {Δ : Dx} {X : Lx} {rl hd ot pt it : Nat} (hX : EX Δ X rl hd ot pt it) {x1 : Int32} {x2 : Int32}  {I : IM}  {r : Int32} (h : f_Eng_pairOf hd x1 x2 I = some r) : Ev Δ (0) m_Eng_pairOf [.ref (Δ.ba + 0), .int x1, .int x2] (I, X) (some (.int r)) (I, X) := by
  refine ev_of (by decide) (Nat.le_of_ble_eq_true rfl) (fun Γ hk hR hT => ?_)
  change GG Δ m_Eng_pairOf Γ NN 0 0 (I, X) 0 [some (.ref (Δ.ba + 0)), some (.int (x1)), some (.int (x2))] []
  unfold f_Eng_pairOf at h
  refine g_iload_n (pc := 0) (dd d_Eng_pairOf 0 rfl) rfl ?_
  refine g_iflt (pc := 1) (tgt := 18) (dd d_Eng_pairOf 1 rfl) (by decide) (fun q1 => ?_) (fun q1 => ?_)
  · replace h := ite_t h q1
    refine g_drop [0, 1, 2] ?_
    exact gb_Eng_pairOf_18 hX hk hT  h
  · replace h := ite_f h q1
    refine g_iload_n (pc := 4) (dd d_Eng_pairOf 2 rfl) rfl ?_
    refine g_aload_n (pc := 5) (dd d_Eng_pairOf 3 rfl) rfl ?_
    refine g_getr (pc := 6) (dd d_Eng_pairOf 4 rfl) f_Eng_66 oc_Eng rfl hX.r_hd ?_
    refine g_getr (pc := 9) (dd d_Eng_pairOf 5 rfl) f_Eng_158 (oc_Mch hX.i_hd) rfl (rx_Mch_15 hX hX.i_hd) ?_
    refine g_bipush (pc := 12) (v := 7) (dd d_Eng_pairOf 6 rfl) (by decide) ?_
    refine g_iald (pc := 14) (dd d_Eng_pairOf 7 rfl) (ax_Mch_15 hX.i_hd) (by rw [vp_in_iff]; decide) ?_
    refine g_icmplt (pc := 15) (tgt := 28) (dd d_Eng_pairOf 8 rfl) (by decide) (fun q2 => ?_) (fun q2 => ?_)
    · replace h := ite_t h q2
      refine g_iload_n (pc := 28) (dd d_Eng_pairOf 14 rfl) rfl ?_
      refine g_iflt (pc := 29) (tgt := 37) (dd d_Eng_pairOf 15 rfl) (by decide) (fun q3 => ?_) (fun q3 => ?_)
      · replace h := ite_t h q3
        refine g_drop [0, 1, 2] ?_
        exact gb_Eng_pairOf_37 hX hk hT  h
      · replace h := ite_f h q3
        refine g_iload_n (pc := 32) (dd d_Eng_pairOf 16 rfl) rfl ?_
        refine g_iconst (pc := 33) (v := 1) (dd d_Eng_pairOf 17 rfl) (by decide) ?_
        refine g_icmple (pc := 34) (tgt := 47) (dd d_Eng_pairOf 18 rfl) (by decide) (fun q4 => ?_) (fun q4 => ?_)
        · replace h := ite_t h q4
          refine g_iload_n (pc := 47) (dd d_Eng_pairOf 24 rfl) rfl ?_
          refine g_ifne (pc := 48) (tgt := 63) (dd d_Eng_pairOf 25 rfl) (by decide) (fun q5 => ?_) (fun q5 => ?_)
          · replace h := ite_f h q5
            refine g_aload_n (pc := 63) (dd d_Eng_pairOf 32 rfl) rfl ?_
            refine g_getr (pc := 64) (dd d_Eng_pairOf 33 rfl) f_Eng_66 oc_Eng rfl hX.r_hd ?_
            refine g_getr (pc := 67) (dd d_Eng_pairOf 34 rfl) f_Eng_221 (oc_Mch hX.i_hd) rfl (rx_Mch_14 hX hX.i_hd) ?_
            refine g_iload_n (pc := 70) (dd d_Eng_pairOf 35 rfl) rfl ?_
            obtain ⟨c6, h⟩ := chk_e h
            refine g_iald (pc := 71) (dd d_Eng_pairOf 36 rfl) (ax_Mch_14 hX.i_hd) c6 ?_
            refine g_drop [0, 1, 2] ?_
            exact gb_Eng_pairOf_72 hX hk hT  h
          · replace h := ite_t h q5
            refine g_aload_n (pc := 51) (dd d_Eng_pairOf 26 rfl) rfl ?_
            refine g_getr (pc := 52) (dd d_Eng_pairOf 27 rfl) f_Eng_66 oc_Eng rfl hX.r_hd ?_
            refine g_getr (pc := 55) (dd d_Eng_pairOf 28 rfl) f_Eng_218 (oc_Mch hX.i_hd) rfl (rx_Mch_13 hX hX.i_hd) ?_
            refine g_iload_n (pc := 58) (dd d_Eng_pairOf 29 rfl) rfl ?_
            obtain ⟨c7, h⟩ := chk_e h
            refine g_iald (pc := 59) (dd d_Eng_pairOf 30 rfl) (ax_Mch_13 hX.i_hd) c7 ?_
            refine g_goto (pc := 60) (tgt := 72) (dd d_Eng_pairOf 31 rfl) (by decide) ?_
            refine g_drop [0, 1, 2] ?_
            exact gb_Eng_pairOf_72 hX hk hT  h
        · replace h := ite_f h q4
          refine g_drop [0, 1, 2] ?_
          exact gb_Eng_pairOf_37 hX hk hT  h
    · replace h := ite_f h q2
      refine g_drop [0, 1, 2] ?_
      exact gb_Eng_pairOf_18 hX hk hT  h
def b_Eng_names_10 (rl : Nat) (I : IM)   : Option (Int32) := none
set_option maxRecDepth 20000 in
set_option maxHeartbeats 4000000 in
theorem gb_Eng_names_10 {Δ : Dx} {X : Lx} {rl hd ot pt it : Nat} (hX : EX Δ X rl hd ot pt it)   {I : IM} {Γ : Cx} (hk : Γ.k = 0) {r : Int32} (hT : Tg Δ Γ (some (.int r)) NN (I, X) 0 0)   (h : b_Eng_names_10 rl I   = some r) : GG Δ m_Eng_names Γ NN 0 0 (I, X) 10 [none, none] [] := by
  unfold b_Eng_names_10 at h
  cases h
def f_Eng_names (rl : Nat) (x1 : Int32) (I : IM) : Option (Int32) := if x1 < 0 then (b_Eng_names_10 rl I  ) else (if x1 < (22 : Int32) then (chk (inb x1 22) <| some (I (rl + 5) x1.toNatClampNeg)) else (b_Eng_names_10 rl I  ))
set_option maxRecDepth 20000 in
set_option maxHeartbeats 4000000 in
theorem ef_Eng_names {Δ : Dx} {X : Lx} {rl hd ot pt it : Nat} (hX : EX Δ X rl hd ot pt it) {x1 : Int32}  {I : IM}  {r : Int32} (h : f_Eng_names rl x1 I = some r) : Ev Δ (0) m_Eng_names [.ref (Δ.ba + 0), .int x1] (I, X) (some (.int r)) (I, X) := by
  refine ev_of (by decide) (Nat.le_of_ble_eq_true rfl) (fun Γ hk hR hT => ?_)
  change GG Δ m_Eng_names Γ NN 0 0 (I, X) 0 [some (.ref (Δ.ba + 0)), some (.int (x1))] []
  unfold f_Eng_names at h
  refine g_iload_n (pc := 0) (dd d_Eng_names 0 rfl) rfl ?_
  refine g_iflt (pc := 1) (tgt := 10) (dd d_Eng_names 1 rfl) (by decide) (fun q1 => ?_) (fun q1 => ?_)
  · replace h := ite_t h q1
    refine g_drop [0, 1] ?_
    exact gb_Eng_names_10 hX hk hT  h
  · replace h := ite_f h q1
    refine g_iload_n (pc := 4) (dd d_Eng_names 2 rfl) rfl ?_
    refine g_bipush (pc := 5) (v := 22) (dd d_Eng_names 3 rfl) (by decide) ?_
    refine g_icmplt (pc := 7) (tgt := 20) (dd d_Eng_names 4 rfl) (by decide) (fun q2 => ?_) (fun q2 => ?_)
    · replace h := ite_t h q2
      refine g_aload_n (pc := 20) (dd d_Eng_names 10 rfl) rfl ?_
      refine g_getr (pc := 21) (dd d_Eng_names 11 rfl) f_Eng_60 oc_Eng rfl hX.r_rl ?_
      refine g_getr (pc := 24) (dd d_Eng_names 12 rfl) f_Eng_226 (oc_Pol hX.i_rl) rfl (rx_Pol_5 hX hX.i_rl) ?_
      refine g_iload_n (pc := 27) (dd d_Eng_names 13 rfl) rfl ?_
      obtain ⟨c3, h⟩ := chk_e h
      refine g_iald (pc := 28) (dd d_Eng_names 14 rfl) (ax_Pol_5 hX.i_rl) c3 ?_
      cases h
      exact g_iret (pc := 29) rfl (dd d_Eng_names 15 rfl) hT
    · replace h := ite_f h q2
      refine g_drop [0, 1] ?_
      exact gb_Eng_names_10 hX hk hT  h
def f_Eng_blame (hd : Nat) (I : IM) : Option (Int32) := some (I hd 2)
set_option maxRecDepth 20000 in
set_option maxHeartbeats 4000000 in
theorem ef_Eng_blame {Δ : Dx} {X : Lx} {rl hd ot pt it : Nat} (hX : EX Δ X rl hd ot pt it)   {I : IM}  {r : Int32} (h : f_Eng_blame hd I = some r) : Ev Δ (0) m_Eng_blame [.ref (Δ.ba + 0)] (I, X) (some (.int r)) (I, X) := by
  refine ev_of (by decide) (Nat.le_of_ble_eq_true rfl) (fun Γ hk hR hT => ?_)
  change GG Δ m_Eng_blame Γ NN 0 0 (I, X) 0 [some (.ref (Δ.ba + 0))] []
  unfold f_Eng_blame at h
  refine g_aload_n (pc := 0) (dd d_Eng_blame 0 rfl) rfl ?_
  refine g_getr (pc := 1) (dd d_Eng_blame 1 rfl) f_Eng_66 oc_Eng rfl hX.r_hd ?_
  refine g_geti (pc := 4) (dd d_Eng_blame 2 rfl) f_Eng_229 (oc_Mch hX.i_hd) rfl ?_
  cases h
  exact g_iret (pc := 7) rfl (dd d_Eng_blame 3 rfl) hT
def b_Rng_cell_31 (x0 : Nat) (I : IM)  (y0 : Int32) : Option (Int32) := some (y0)
set_option maxRecDepth 20000 in
set_option maxHeartbeats 4000000 in
theorem gb_Rng_cell_31 {Δ : Dx} {X : Lx} {rl hd ot pt it : Nat} (hX : EX Δ X rl hd ot pt it) {x0 : Nat} (h_x0 : isRng x0) {I : IM} {Γ : Cx} (hk : Γ.k = 1) {r : Int32} (hT : Tg Δ Γ (some (.int r)) NN (I, X) 0 0)  {y0 : Int32} (h : b_Rng_cell_31 x0 I  y0 = some r) : GG Δ m_Rng_cell Γ NN 0 0 (I, X) 31 [none, none, none, none] [.int (y0)] := by
  unfold b_Rng_cell_31 at h
  cases h
  exact g_iret (pc := 31) rfl (dd d_Rng_cell 19 rfl) hT
def b_Rng_cell_30 (x0 : Nat) (I : IM)   : Option (Int32) := b_Rng_cell_31 x0 I  0
set_option maxRecDepth 20000 in
set_option maxHeartbeats 4000000 in
theorem gb_Rng_cell_30 {Δ : Dx} {X : Lx} {rl hd ot pt it : Nat} (hX : EX Δ X rl hd ot pt it) {x0 : Nat} (h_x0 : isRng x0) {I : IM} {Γ : Cx} (hk : Γ.k = 1) {r : Int32} (hT : Tg Δ Γ (some (.int r)) NN (I, X) 0 0)   (h : b_Rng_cell_30 x0 I   = some r) : GG Δ m_Rng_cell Γ NN 0 0 (I, X) 30 [none, none, none, none] [] := by
  unfold b_Rng_cell_30 at h
  refine g_iconst (pc := 30) (v := 0) (dd d_Rng_cell 18 rfl) (by decide) ?_
  exact gb_Rng_cell_31 hX h_x0 hk hT  h
def f_Rng_cell (x0 : Nat) (x1 : Int32) (x2 : Int32) (I : IM) : Option (Int32) := Option.bind (f_Rng_startOf  x0 x1 I) fun v1 => if (v1 + x2 : Int32) < 0 then (b_Rng_cell_30 x0 I  ) else (if (Int32.ofNat (lenA (x0 + 1)) : Int32) ≤ (v1 + x2 : Int32) then (b_Rng_cell_30 x0 I  ) else (chk (inb (v1 + x2) (lenA (x0 + 1))) <| b_Rng_cell_31 x0 I  (I (x0 + 1) (v1 + x2 : Int32).toNatClampNeg)))
set_option maxRecDepth 20000 in
set_option maxHeartbeats 4000000 in
theorem ef_Rng_cell {Δ : Dx} {X : Lx} {rl hd ot pt it : Nat} (hX : EX Δ X rl hd ot pt it) {x0 : Nat} {x1 : Int32} {x2 : Int32} (h_x0 : isRng x0) {I : IM}  {r : Int32} (h : f_Rng_cell x0 x1 x2 I = some r) : Ev Δ (1) m_Rng_cell [.ref (Δ.ba + x0), .int x1, .int x2] (I, X) (some (.int r)) (I, X) := by
  refine ev_of (by decide) (Nat.le_of_ble_eq_true rfl) (fun Γ hk hR hT => ?_)
  change GG Δ m_Rng_cell Γ NN 0 0 (I, X) 0 [some (.ref (Δ.ba + x0)), some (.int (x1)), some (.int (x2)), none] []
  unfold f_Rng_cell at h
  refine g_aload_n (pc := 0) (dd d_Rng_cell 0 rfl) rfl ?_
  refine g_iload_n (pc := 1) (dd d_Rng_cell 1 rfl) rfl ?_
  obtain ⟨v1, e2, h⟩ := bnd_e h
  refine g_callV (pc := 2) (dd d_Rng_cell 2 rfl) v_Rng_28 (oc_Rng h_x0) rfl (ef_Rng_startOf hX h_x0 e2) rfl (by omega) (Nat.le_of_ble_eq_true rfl) ⟨Nat.zero_le _, Nat.zero_le _⟩ rfl ?_
  refine g_iload_n (pc := 5) (dd d_Rng_cell 3 rfl) rfl ?_
  refine g_iadd (pc := 6) (dd d_Rng_cell 4 rfl) ?_
  refine g_istore_n (pc := 7) (dd d_Rng_cell 5 rfl) (by decide) ?_
  refine g_iload_n (pc := 8) (dd d_Rng_cell 6 rfl) rfl ?_
  refine g_iflt (pc := 9) (tgt := 30) (dd d_Rng_cell 7 rfl) (by decide) (fun q3 => ?_) (fun q3 => ?_)
  · replace h := ite_t h q3
    refine g_drop [0, 1, 2, 3] ?_
    exact gb_Rng_cell_30 hX h_x0 hk hT  h
  · replace h := ite_f h q3
    refine g_iload_n (pc := 12) (dd d_Rng_cell 8 rfl) rfl ?_
    refine g_aload_n (pc := 13) (dd d_Rng_cell 9 rfl) rfl ?_
    refine g_getr (pc := 14) (dd d_Rng_cell 10 rfl) f_Rng_18 (oc_Rng h_x0) rfl (rx_Rng_4 hX h_x0) ?_
    refine g_alen (pc := 17) (t := 0) (dd d_Rng_cell 11 rfl) (ax_Rng_4 h_x0) rfl rfl ?_
    refine g_icmpge (pc := 18) (tgt := 30) (dd d_Rng_cell 12 rfl) (by decide) (fun q4 => ?_) (fun q4 => ?_)
    · replace h := ite_t h q4
      refine g_drop [0, 1, 2, 3] ?_
      exact gb_Rng_cell_30 hX h_x0 hk hT  h
    · replace h := ite_f h q4
      refine g_aload_n (pc := 21) (dd d_Rng_cell 13 rfl) rfl ?_
      refine g_getr (pc := 22) (dd d_Rng_cell 14 rfl) f_Rng_18 (oc_Rng h_x0) rfl (rx_Rng_4 hX h_x0) ?_
      refine g_iload_n (pc := 25) (dd d_Rng_cell 15 rfl) rfl ?_
      obtain ⟨c5, h⟩ := chk_e h
      refine g_iald (pc := 26) (dd d_Rng_cell 16 rfl) (ax_Rng_4 h_x0) c5 ?_
      refine g_goto (pc := 27) (tgt := 31) (dd d_Rng_cell 17 rfl) (by decide) ?_
      refine g_drop [0, 1, 2, 3] ?_
      exact gb_Rng_cell_31 hX h_x0 hk hT  h
def b_Eng_journal_18 (hd : Nat) (I : IM)   : Option (Int32) := none
set_option maxRecDepth 20000 in
set_option maxHeartbeats 4000000 in
theorem gb_Eng_journal_18 {Δ : Dx} {X : Lx} {rl hd ot pt it : Nat} (hX : EX Δ X rl hd ot pt it)   {I : IM} {Γ : Cx} (hk : Γ.k = 2) {r : Int32} (hT : Tg Δ Γ (some (.int r)) NN (I, X) 0 0)   (h : b_Eng_journal_18 hd I   = some r) : GG Δ m_Eng_journal Γ NN 0 0 (I, X) 18 [none, none, none] [] := by
  unfold b_Eng_journal_18 at h
  cases h
def b_Eng_journal_38 (hd : Nat) (I : IM)   : Option (Int32) := none
set_option maxRecDepth 20000 in
set_option maxHeartbeats 4000000 in
theorem gb_Eng_journal_38 {Δ : Dx} {X : Lx} {rl hd ot pt it : Nat} (hX : EX Δ X rl hd ot pt it)   {I : IM} {Γ : Cx} (hk : Γ.k = 2) {r : Int32} (hT : Tg Δ Γ (some (.int r)) NN (I, X) 0 0)   (h : b_Eng_journal_38 hd I   = some r) : GG Δ m_Eng_journal Γ NN 0 0 (I, X) 38 [none, none, none] [] := by
  unfold b_Eng_journal_38 at h
  cases h
def f_Eng_journal (hd : Nat) (x1 : Int32) (x2 : Int32) (I : IM) : Option (Int32) := if x1 < 0 then (b_Eng_journal_18 hd I  ) else (if x1 < (I (hd + 17) 0 : Int32) then (if x2 < 0 then (b_Eng_journal_38 hd I  ) else (if x2 < (6 : Int32) then (Option.bind (f_Rng_cell  (hd + 17) (((I (hd + 17) 0) - 1) - x1) x2 I) fun v5 => some (v5)) else (b_Eng_journal_38 hd I  ))) else (b_Eng_journal_18 hd I  ))
set_option maxRecDepth 20000 in
set_option maxHeartbeats 4000000 in
theorem ef_Eng_journal {Δ : Dx} {X : Lx} {rl hd ot pt it : Nat} (hX : EX Δ X rl hd ot pt it) {x1 : Int32} {x2 : Int32}  {I : IM}  {r : Int32} (h : f_Eng_journal hd x1 x2 I = some r) : Ev Δ (2) m_Eng_journal [.ref (Δ.ba + 0), .int x1, .int x2] (I, X) (some (.int r)) (I, X) := by
  refine ev_of (by decide) (Nat.le_of_ble_eq_true rfl) (fun Γ hk hR hT => ?_)
  change GG Δ m_Eng_journal Γ NN 0 0 (I, X) 0 [some (.ref (Δ.ba + 0)), some (.int (x1)), some (.int (x2))] []
  unfold f_Eng_journal at h
  refine g_iload_n (pc := 0) (dd d_Eng_journal 0 rfl) rfl ?_
  refine g_iflt (pc := 1) (tgt := 18) (dd d_Eng_journal 1 rfl) (by decide) (fun q1 => ?_) (fun q1 => ?_)
  · replace h := ite_t h q1
    refine g_drop [0, 1, 2] ?_
    exact gb_Eng_journal_18 hX hk hT  h
  · replace h := ite_f h q1
    refine g_iload_n (pc := 4) (dd d_Eng_journal 2 rfl) rfl ?_
    refine g_aload_n (pc := 5) (dd d_Eng_journal 3 rfl) rfl ?_
    refine g_getr (pc := 6) (dd d_Eng_journal 4 rfl) f_Eng_66 oc_Eng rfl hX.r_hd ?_
    refine g_getr (pc := 9) (dd d_Eng_journal 5 rfl) f_Eng_188 (oc_Mch hX.i_hd) rfl (rx_Mch_18 hX hX.i_hd) ?_
    refine g_geti (pc := 12) (dd d_Eng_journal 6 rfl) f_Eng_183 (oc_Rng (ir_18 hX.i_hd)) rfl ?_
    refine g_icmplt (pc := 15) (tgt := 28) (dd d_Eng_journal 7 rfl) (by decide) (fun q2 => ?_) (fun q2 => ?_)
    · replace h := ite_t h q2
      refine g_iload_n (pc := 28) (dd d_Eng_journal 13 rfl) rfl ?_
      refine g_iflt (pc := 29) (tgt := 38) (dd d_Eng_journal 14 rfl) (by decide) (fun q3 => ?_) (fun q3 => ?_)
      · replace h := ite_t h q3
        refine g_drop [0, 1, 2] ?_
        exact gb_Eng_journal_38 hX hk hT  h
      · replace h := ite_f h q3
        refine g_iload_n (pc := 32) (dd d_Eng_journal 15 rfl) rfl ?_
        refine g_bipush (pc := 33) (v := 6) (dd d_Eng_journal 16 rfl) (by decide) ?_
        refine g_icmplt (pc := 35) (tgt := 48) (dd d_Eng_journal 17 rfl) (by decide) (fun q4 => ?_) (fun q4 => ?_)
        · replace h := ite_t h q4
          refine g_aload_n (pc := 48) (dd d_Eng_journal 23 rfl) rfl ?_
          refine g_getr (pc := 49) (dd d_Eng_journal 24 rfl) f_Eng_66 oc_Eng rfl hX.r_hd ?_
          refine g_getr (pc := 52) (dd d_Eng_journal 25 rfl) f_Eng_188 (oc_Mch hX.i_hd) rfl (rx_Mch_18 hX hX.i_hd) ?_
          refine g_aload_n (pc := 55) (dd d_Eng_journal 26 rfl) rfl ?_
          refine g_getr (pc := 56) (dd d_Eng_journal 27 rfl) f_Eng_66 oc_Eng rfl hX.r_hd ?_
          refine g_getr (pc := 59) (dd d_Eng_journal 28 rfl) f_Eng_188 (oc_Mch hX.i_hd) rfl (rx_Mch_18 hX hX.i_hd) ?_
          refine g_geti (pc := 62) (dd d_Eng_journal 29 rfl) f_Eng_183 (oc_Rng (ir_18 hX.i_hd)) rfl ?_
          refine g_iconst (pc := 65) (v := 1) (dd d_Eng_journal 30 rfl) (by decide) ?_
          refine g_isub (pc := 66) (dd d_Eng_journal 31 rfl) ?_
          refine g_iload_n (pc := 67) (dd d_Eng_journal 32 rfl) rfl ?_
          refine g_isub (pc := 68) (dd d_Eng_journal 33 rfl) ?_
          refine g_iload_n (pc := 69) (dd d_Eng_journal 34 rfl) rfl ?_
          obtain ⟨v5, e6, h⟩ := bnd_e h
          refine g_callV (pc := 70) (dd d_Eng_journal 35 rfl) v_Eng_236 (oc_Rng (ir_18 hX.i_hd)) rfl (ef_Rng_cell hX (ir_18 hX.i_hd) e6) rfl (by omega) (Nat.le_of_ble_eq_true rfl) ⟨Nat.zero_le _, Nat.zero_le _⟩ rfl ?_
          cases h
          exact g_iret (pc := 73) rfl (dd d_Eng_journal 36 rfl) hT
        · replace h := ite_f h q4
          refine g_drop [0, 1, 2] ?_
          exact gb_Eng_journal_38 hX hk hT  h
    · replace h := ite_f h q2
      refine g_drop [0, 1, 2] ?_
      exact gb_Eng_journal_18 hX hk hT  h
def b_Eng_count_19 (hd : Nat) (I : IM)   : Option (Int32) := none
set_option maxRecDepth 20000 in
set_option maxHeartbeats 4000000 in
theorem gb_Eng_count_19 {Δ : Dx} {X : Lx} {rl hd ot pt it : Nat} (hX : EX Δ X rl hd ot pt it)   {I : IM} {Γ : Cx} (hk : Γ.k = 0) {r : Int32} (hT : Tg Δ Γ (some (.int r)) NN (I, X) 0 0)   (h : b_Eng_count_19 hd I   = some r) : GG Δ m_Eng_count Γ NN 0 0 (I, X) 19 [none, none, none] [] := by
  unfold b_Eng_count_19 at h
  cases h
def f_Eng_count (hd : Nat) (x1 : Int32) (x2 : Int32) (I : IM) : Option (Int32) := if x1 < 0 then (b_Eng_count_19 hd I  ) else (if (22 : Int32) ≤ x1 then (b_Eng_count_19 hd I  ) else (if x2 < 0 then (b_Eng_count_19 hd I  ) else (if x2 < (4 : Int32) then (chk (inb ((x1 * 4) + x2) 88) <| some (I (hd + 14) ((x1 * 4) + x2 : Int32).toNatClampNeg)) else (b_Eng_count_19 hd I  ))))
set_option maxRecDepth 20000 in
set_option maxHeartbeats 4000000 in
theorem ef_Eng_count {Δ : Dx} {X : Lx} {rl hd ot pt it : Nat} (hX : EX Δ X rl hd ot pt it) {x1 : Int32} {x2 : Int32}  {I : IM}  {r : Int32} (h : f_Eng_count hd x1 x2 I = some r) : Ev Δ (0) m_Eng_count [.ref (Δ.ba + 0), .int x1, .int x2] (I, X) (some (.int r)) (I, X) := by
  refine ev_of (by decide) (Nat.le_of_ble_eq_true rfl) (fun Γ hk hR hT => ?_)
  change GG Δ m_Eng_count Γ NN 0 0 (I, X) 0 [some (.ref (Δ.ba + 0)), some (.int (x1)), some (.int (x2))] []
  unfold f_Eng_count at h
  refine g_iload_n (pc := 0) (dd d_Eng_count 0 rfl) rfl ?_
  refine g_iflt (pc := 1) (tgt := 19) (dd d_Eng_count 1 rfl) (by decide) (fun q1 => ?_) (fun q1 => ?_)
  · replace h := ite_t h q1
    refine g_drop [0, 1, 2] ?_
    exact gb_Eng_count_19 hX hk hT  h
  · replace h := ite_f h q1
    refine g_iload_n (pc := 4) (dd d_Eng_count 2 rfl) rfl ?_
    refine g_bipush (pc := 5) (v := 22) (dd d_Eng_count 3 rfl) (by decide) ?_
    refine g_icmpge (pc := 7) (tgt := 19) (dd d_Eng_count 4 rfl) (by decide) (fun q2 => ?_) (fun q2 => ?_)
    · replace h := ite_t h q2
      refine g_drop [0, 1, 2] ?_
      exact gb_Eng_count_19 hX hk hT  h
    · replace h := ite_f h q2
      refine g_iload_n (pc := 10) (dd d_Eng_count 5 rfl) rfl ?_
      refine g_iflt (pc := 11) (tgt := 19) (dd d_Eng_count 6 rfl) (by decide) (fun q3 => ?_) (fun q3 => ?_)
      · replace h := ite_t h q3
        refine g_drop [0, 1, 2] ?_
        exact gb_Eng_count_19 hX hk hT  h
      · replace h := ite_f h q3
        refine g_iload_n (pc := 14) (dd d_Eng_count 7 rfl) rfl ?_
        refine g_iconst (pc := 15) (v := 4) (dd d_Eng_count 8 rfl) (by decide) ?_
        refine g_icmplt (pc := 16) (tgt := 29) (dd d_Eng_count 9 rfl) (by decide) (fun q4 => ?_) (fun q4 => ?_)
        · replace h := ite_t h q4
          refine g_aload_n (pc := 29) (dd d_Eng_count 15 rfl) rfl ?_
          refine g_getr (pc := 30) (dd d_Eng_count 16 rfl) f_Eng_66 oc_Eng rfl hX.r_hd ?_
          refine g_getr (pc := 33) (dd d_Eng_count 17 rfl) f_Eng_242 (oc_Mch hX.i_hd) rfl (rx_Mch_16 hX hX.i_hd) ?_
          refine g_iload_n (pc := 36) (dd d_Eng_count 18 rfl) rfl ?_
          refine g_iconst (pc := 37) (v := 4) (dd d_Eng_count 19 rfl) (by decide) ?_
          refine g_imul (pc := 38) (dd d_Eng_count 20 rfl) ?_
          refine g_iload_n (pc := 39) (dd d_Eng_count 21 rfl) rfl ?_
          refine g_iadd (pc := 40) (dd d_Eng_count 22 rfl) ?_
          obtain ⟨c5, h⟩ := chk_e h
          refine g_iald (pc := 41) (dd d_Eng_count 23 rfl) (ax_Mch_16 hX.i_hd) c5 ?_
          cases h
          exact g_iret (pc := 42) rfl (dd d_Eng_count 24 rfl) hT
        · replace h := ite_f h q4
          refine g_drop [0, 1, 2] ?_
          exact gb_Eng_count_19 hX hk hT  h
def b_Eng_cacheOf_18 (hd : Nat) (I : IM)   : Option (Int32) := none
set_option maxRecDepth 20000 in
set_option maxHeartbeats 4000000 in
theorem gb_Eng_cacheOf_18 {Δ : Dx} {X : Lx} {rl hd ot pt it : Nat} (hX : EX Δ X rl hd ot pt it)   {I : IM} {Γ : Cx} (hk : Γ.k = 2) {r : Int32} (hT : Tg Δ Γ (some (.int r)) NN (I, X) 0 0)   (h : b_Eng_cacheOf_18 hd I   = some r) : GG Δ m_Eng_cacheOf Γ NN 0 0 (I, X) 18 [none, none, none] [] := by
  unfold b_Eng_cacheOf_18 at h
  cases h
def b_Eng_cacheOf_49 (hd : Nat) (I : IM)   : Option (Int32) := none
set_option maxRecDepth 20000 in
set_option maxHeartbeats 4000000 in
theorem gb_Eng_cacheOf_49 {Δ : Dx} {X : Lx} {rl hd ot pt it : Nat} (hX : EX Δ X rl hd ot pt it)   {I : IM} {Γ : Cx} (hk : Γ.k = 2) {r : Int32} (hT : Tg Δ Γ (some (.int r)) NN (I, X) 0 0)   (h : b_Eng_cacheOf_49 hd I   = some r) : GG Δ m_Eng_cacheOf Γ NN 0 0 (I, X) 49 [none, none, none] [] := by
  unfold b_Eng_cacheOf_49 at h
  cases h
def b_Eng_cacheOf_43 (hd : Nat) (I : IM)  (x1 : Int32) (x2 : Int32) : Option (Int32) := if x2 < (25 : Int32) then (Option.bind (f_Rng_cell  (hd + 15) x1 x2 I) fun v7 => some (v7)) else (b_Eng_cacheOf_49 hd I  )
set_option maxRecDepth 20000 in
set_option maxHeartbeats 4000000 in
theorem gb_Eng_cacheOf_43 {Δ : Dx} {X : Lx} {rl hd ot pt it : Nat} (hX : EX Δ X rl hd ot pt it)   {I : IM} {Γ : Cx} (hk : Γ.k = 2) {r : Int32} (hT : Tg Δ Γ (some (.int r)) NN (I, X) 0 0)  {x1 : Int32} {x2 : Int32} (h : b_Eng_cacheOf_43 hd I  x1 x2 = some r) : GG Δ m_Eng_cacheOf Γ NN 0 0 (I, X) 43 [some (.ref (Δ.ba + 0)), some (.int (x1)), some (.int (x2))] [] := by
  unfold b_Eng_cacheOf_43 at h
  refine g_iload_n (pc := 43) (dd d_Eng_cacheOf 21 rfl) rfl ?_
  refine g_bipush (pc := 44) (v := 25) (dd d_Eng_cacheOf 22 rfl) (by decide) ?_
  refine g_icmplt (pc := 46) (tgt := 59) (dd d_Eng_cacheOf 23 rfl) (by decide) (fun q6 => ?_) (fun q6 => ?_)
  · replace h := ite_t h q6
    refine g_aload_n (pc := 59) (dd d_Eng_cacheOf 29 rfl) rfl ?_
    refine g_getr (pc := 60) (dd d_Eng_cacheOf 30 rfl) f_Eng_66 oc_Eng rfl hX.r_hd ?_
    refine g_getr (pc := 63) (dd d_Eng_cacheOf 31 rfl) f_Eng_179 (oc_Mch hX.i_hd) rfl (rx_Mch_17 hX hX.i_hd) ?_
    refine g_iload_n (pc := 66) (dd d_Eng_cacheOf 32 rfl) rfl ?_
    refine g_iload_n (pc := 67) (dd d_Eng_cacheOf 33 rfl) rfl ?_
    obtain ⟨v7, e8, h⟩ := bnd_e h
    refine g_callV (pc := 68) (dd d_Eng_cacheOf 34 rfl) v_Eng_236 (oc_Rng (ir_17 hX.i_hd)) rfl (ef_Rng_cell hX (ir_17 hX.i_hd) e8) rfl (by omega) (Nat.le_of_ble_eq_true rfl) ⟨Nat.zero_le _, Nat.zero_le _⟩ rfl ?_
    cases h
    exact g_iret (pc := 71) rfl (dd d_Eng_cacheOf 35 rfl) hT
  · replace h := ite_f h q6
    refine g_drop [0, 1, 2] ?_
    exact gb_Eng_cacheOf_49 hX hk hT  h
def f_Eng_cacheOf (hd : Nat) (x1 : Int32) (x2 : Int32) (I : IM) : Option (Int32) := if x1 < 0 then (b_Eng_cacheOf_18 hd I  ) else (if x1 < (I (hd + 15) 0 : Int32) then (if x2 < 0 then (b_Eng_cacheOf_49 hd I  ) else (if x2 ≤ (4 : Int32) then (b_Eng_cacheOf_43 hd I  x1 x2) else (if x2 < (10 : Int32) then (b_Eng_cacheOf_49 hd I  ) else (b_Eng_cacheOf_43 hd I  x1 x2)))) else (b_Eng_cacheOf_18 hd I  ))
set_option maxRecDepth 20000 in
set_option maxHeartbeats 4000000 in
theorem ef_Eng_cacheOf {Δ : Dx} {X : Lx} {rl hd ot pt it : Nat} (hX : EX Δ X rl hd ot pt it) {x1 : Int32} {x2 : Int32}  {I : IM}  {r : Int32} (h : f_Eng_cacheOf hd x1 x2 I = some r) : Ev Δ (2) m_Eng_cacheOf [.ref (Δ.ba + 0), .int x1, .int x2] (I, X) (some (.int r)) (I, X) := by
  refine ev_of (by decide) (Nat.le_of_ble_eq_true rfl) (fun Γ hk hR hT => ?_)
  change GG Δ m_Eng_cacheOf Γ NN 0 0 (I, X) 0 [some (.ref (Δ.ba + 0)), some (.int (x1)), some (.int (x2))] []
  unfold f_Eng_cacheOf at h
  refine g_iload_n (pc := 0) (dd d_Eng_cacheOf 0 rfl) rfl ?_
  refine g_iflt (pc := 1) (tgt := 18) (dd d_Eng_cacheOf 1 rfl) (by decide) (fun q1 => ?_) (fun q1 => ?_)
  · replace h := ite_t h q1
    refine g_drop [0, 1, 2] ?_
    exact gb_Eng_cacheOf_18 hX hk hT  h
  · replace h := ite_f h q1
    refine g_iload_n (pc := 4) (dd d_Eng_cacheOf 2 rfl) rfl ?_
    refine g_aload_n (pc := 5) (dd d_Eng_cacheOf 3 rfl) rfl ?_
    refine g_getr (pc := 6) (dd d_Eng_cacheOf 4 rfl) f_Eng_66 oc_Eng rfl hX.r_hd ?_
    refine g_getr (pc := 9) (dd d_Eng_cacheOf 5 rfl) f_Eng_179 (oc_Mch hX.i_hd) rfl (rx_Mch_17 hX hX.i_hd) ?_
    refine g_geti (pc := 12) (dd d_Eng_cacheOf 6 rfl) f_Eng_183 (oc_Rng (ir_17 hX.i_hd)) rfl ?_
    refine g_icmplt (pc := 15) (tgt := 28) (dd d_Eng_cacheOf 7 rfl) (by decide) (fun q2 => ?_) (fun q2 => ?_)
    · replace h := ite_t h q2
      refine g_iload_n (pc := 28) (dd d_Eng_cacheOf 13 rfl) rfl ?_
      refine g_iflt (pc := 29) (tgt := 49) (dd d_Eng_cacheOf 14 rfl) (by decide) (fun q3 => ?_) (fun q3 => ?_)
      · replace h := ite_t h q3
        refine g_drop [0, 1, 2] ?_
        exact gb_Eng_cacheOf_49 hX hk hT  h
      · replace h := ite_f h q3
        refine g_iload_n (pc := 32) (dd d_Eng_cacheOf 15 rfl) rfl ?_
        refine g_iconst (pc := 33) (v := 4) (dd d_Eng_cacheOf 16 rfl) (by decide) ?_
        refine g_icmple (pc := 34) (tgt := 43) (dd d_Eng_cacheOf 17 rfl) (by decide) (fun q4 => ?_) (fun q4 => ?_)
        · replace h := ite_t h q4
          exact gb_Eng_cacheOf_43 hX hk hT  h
        · replace h := ite_f h q4
          refine g_iload_n (pc := 37) (dd d_Eng_cacheOf 18 rfl) rfl ?_
          refine g_bipush (pc := 38) (v := 10) (dd d_Eng_cacheOf 19 rfl) (by decide) ?_
          refine g_icmplt (pc := 40) (tgt := 49) (dd d_Eng_cacheOf 20 rfl) (by decide) (fun q5 => ?_) (fun q5 => ?_)
          · replace h := ite_t h q5
            refine g_drop [0, 1, 2] ?_
            exact gb_Eng_cacheOf_49 hX hk hT  h
          · replace h := ite_f h q5
            exact gb_Eng_cacheOf_43 hX hk hT  h
    · replace h := ite_f h q2
      refine g_drop [0, 1, 2] ?_
      exact gb_Eng_cacheOf_18 hX hk hT  h
def f_Eng_copyRow (x0 : Nat) (x1 : Nat) (I : IM) : Option (IM) := chk (¬ (minI (Int32.ofNat (lenA x0)) (Int32.ofNat (lenA x1)) : Int32) < 0) <| chk ((0 : Int32).toNatClampNeg + (minI (Int32.ofNat (lenA x0)) (Int32.ofNat (lenA x1)) : Int32).toNatClampNeg ≤ lenA x0) <| chk ((0 : Int32).toNatClampNeg + (minI (Int32.ofNat (lenA x0)) (Int32.ofNat (lenA x1)) : Int32).toNatClampNeg ≤ lenA x1) <| lt (cpy I x0 x1 (0 : Int32).toNatClampNeg (0 : Int32).toNatClampNeg (minI (Int32.ofNat (lenA x0)) (Int32.ofNat (lenA x1)) : Int32).toNatClampNeg) fun I1 => some I1
set_option maxRecDepth 20000 in
set_option maxHeartbeats 4000000 in
theorem ef_Eng_copyRow {Δ : Dx} {X : Lx} {rl hd ot pt it : Nat} (hX : EX Δ X rl hd ot pt it) {x0 : Nat} {x1 : Nat} (ha_x0 : isA x0) (ha_x1 : isA x1) {I : IM}  {r : IM} (h : f_Eng_copyRow x0 x1 I = some r) : Ev Δ (2) m_Eng_copyRow [.ref (Δ.ba + x0), .ref (Δ.ba + x1)] (I, X) none (r, X) := by
  refine ev_of (by decide) (Nat.le_of_ble_eq_true rfl) (fun Γ hk hR hT => ?_)
  change GG Δ m_Eng_copyRow Γ NN 0 0 (I, X) 0 [some (.ref (Δ.ba + x0)), some (.ref (Δ.ba + x1))] []
  unfold f_Eng_copyRow at h
  refine g_aload_n (pc := 0) (dd d_Eng_copyRow 0 rfl) rfl ?_
  refine g_iconst (pc := 1) (v := 0) (dd d_Eng_copyRow 1 rfl) (by decide) ?_
  refine g_aload_n (pc := 2) (dd d_Eng_copyRow 2 rfl) rfl ?_
  refine g_iconst (pc := 3) (v := 0) (dd d_Eng_copyRow 3 rfl) (by decide) ?_
  refine g_aload_n (pc := 4) (dd d_Eng_copyRow 4 rfl) rfl ?_
  refine g_alen (pc := 5) (t := 0) (dd d_Eng_copyRow 5 rfl) ha_x0 rfl rfl ?_
  refine g_aload_n (pc := 6) (dd d_Eng_copyRow 6 rfl) rfl ?_
  refine g_alen (pc := 7) (t := 0) (dd d_Eng_copyRow 7 rfl) ha_x1 rfl rfl ?_
  refine g_mminI (pc := 8) (dd d_Eng_copyRow 8 rfl) n_Eng_342 (by omega) (Nat.le_of_ble_eq_true rfl) (Nat.zero_le _) (Nat.zero_le _) ?_
  obtain ⟨c2, h⟩ := chk_e h
  obtain ⟨c3, h⟩ := chk_e h
  obtain ⟨c4, h⟩ := chk_e h
  refine g_copyN (pc := 11) (dd d_Eng_copyRow 9 rfl) n_Eng_347 (by omega) (Nat.le_of_ble_eq_true rfl) ha_x0 ha_x1 (by decide) (by decide) c2 c3 c4 (fun I1 hI1 => ?_)
  replace h := lt_e h hI1
  cases h
  exact g_vret (pc := 14) rfl (dd d_Eng_copyRow 10 rfl) hT
def f_Pol_become (x0 : Nat) (x1 : Nat) (I : IM) : Option (IM) := lt (up I x0 0 (I x1 0)) fun I1 => Option.bind (f_Eng_copyRow  (x1 + 1) (x0 + 1) I1) fun v2 => Option.bind (f_Eng_copyRow  (x1 + 2) (x0 + 2) v2) fun v4 => Option.bind (f_Eng_copyRow  (x1 + 3) (x0 + 3) v4) fun v6 => Option.bind (f_Eng_copyRow  (x1 + 4) (x0 + 4) v6) fun v8 => Option.bind (f_Eng_copyRow  (x1 + 5) (x0 + 5) v8) fun v10 => Option.bind (f_Eng_copyRow  (x1 + 6) (x0 + 6) v10) fun v12 => some v12
set_option maxRecDepth 20000 in
set_option maxHeartbeats 4000000 in
theorem ef_Pol_become {Δ : Dx} {X : Lx} {rl hd ot pt it : Nat} (hX : EX Δ X rl hd ot pt it) {x0 : Nat} {x1 : Nat} (h_x0 : isPol x0) (h_x1 : isPol x1) {I : IM}  {r : IM} (h : f_Pol_become x0 x1 I = some r) : Ev Δ (3) m_Pol_become [.ref (Δ.ba + x0), .ref (Δ.ba + x1)] (I, X) none (r, X) := by
  refine ev_of (by decide) (Nat.le_of_ble_eq_true rfl) (fun Γ hk hR hT => ?_)
  change GG Δ m_Pol_become Γ NN 0 0 (I, X) 0 [some (.ref (Δ.ba + x0)), some (.ref (Δ.ba + x1))] []
  unfold f_Pol_become at h
  refine g_aload_n (pc := 0) (dd d_Pol_become 0 rfl) rfl ?_
  refine g_aload_n (pc := 1) (dd d_Pol_become 1 rfl) rfl ?_
  refine g_geti (pc := 2) (dd d_Pol_become 2 rfl) f_Pol_36 (oc_Pol h_x1) rfl ?_
  refine g_putiN (pc := 5) (dd d_Pol_become 3 rfl) f_Pol_36 fm_Pol_0 (oc_Pol h_x0) rfl (fun I1 hI1 => ?_)
  replace h := lt_e h hI1
  refine g_aload_n (pc := 8) (dd d_Pol_become 4 rfl) rfl ?_
  refine g_getr (pc := 9) (dd d_Pol_become 5 rfl) f_Pol_9 (oc_Pol h_x1) rfl (rx_Pol_1 hX h_x1) ?_
  refine g_aload_n (pc := 12) (dd d_Pol_become 6 rfl) rfl ?_
  refine g_getr (pc := 13) (dd d_Pol_become 7 rfl) f_Pol_9 (oc_Pol h_x0) rfl (rx_Pol_1 hX h_x0) ?_
  obtain ⟨v2, e3, h⟩ := bnd_e h
  refine g_callSN (pc := 16) (dd d_Pol_become 8 rfl) s_Pol_45 (ef_Eng_copyRow hX (isA_of (ax_Pol_1 h_x1)) (isA_of (ax_Pol_1 h_x0)) e3) rfl (by omega) (Nat.le_of_ble_eq_true rfl) ⟨Nat.zero_le _, Nat.zero_le _⟩ rfl ?_
  refine g_aload_n (pc := 19) (dd d_Pol_become 9 rfl) rfl ?_
  refine g_getr (pc := 20) (dd d_Pol_become 10 rfl) f_Pol_15 (oc_Pol h_x1) rfl (rx_Pol_2 hX h_x1) ?_
  refine g_aload_n (pc := 23) (dd d_Pol_become 11 rfl) rfl ?_
  refine g_getr (pc := 24) (dd d_Pol_become 12 rfl) f_Pol_15 (oc_Pol h_x0) rfl (rx_Pol_2 hX h_x0) ?_
  obtain ⟨v4, e5, h⟩ := bnd_e h
  refine g_callSN (pc := 27) (dd d_Pol_become 13 rfl) s_Pol_45 (ef_Eng_copyRow hX (isA_of (ax_Pol_2 h_x1)) (isA_of (ax_Pol_2 h_x0)) e5) rfl (by omega) (Nat.le_of_ble_eq_true rfl) ⟨Nat.zero_le _, Nat.zero_le _⟩ rfl ?_
  refine g_aload_n (pc := 30) (dd d_Pol_become 14 rfl) rfl ?_
  refine g_getr (pc := 31) (dd d_Pol_become 15 rfl) f_Pol_18 (oc_Pol h_x1) rfl (rx_Pol_3 hX h_x1) ?_
  refine g_aload_n (pc := 34) (dd d_Pol_become 16 rfl) rfl ?_
  refine g_getr (pc := 35) (dd d_Pol_become 17 rfl) f_Pol_18 (oc_Pol h_x0) rfl (rx_Pol_3 hX h_x0) ?_
  obtain ⟨v6, e7, h⟩ := bnd_e h
  refine g_callSN (pc := 38) (dd d_Pol_become 18 rfl) s_Pol_45 (ef_Eng_copyRow hX (isA_of (ax_Pol_3 h_x1)) (isA_of (ax_Pol_3 h_x0)) e7) rfl (by omega) (Nat.le_of_ble_eq_true rfl) ⟨Nat.zero_le _, Nat.zero_le _⟩ rfl ?_
  refine g_aload_n (pc := 41) (dd d_Pol_become 19 rfl) rfl ?_
  refine g_getr (pc := 42) (dd d_Pol_become 20 rfl) f_Pol_21 (oc_Pol h_x1) rfl (rx_Pol_4 hX h_x1) ?_
  refine g_aload_n (pc := 45) (dd d_Pol_become 21 rfl) rfl ?_
  refine g_getr (pc := 46) (dd d_Pol_become 22 rfl) f_Pol_21 (oc_Pol h_x0) rfl (rx_Pol_4 hX h_x0) ?_
  obtain ⟨v8, e9, h⟩ := bnd_e h
  refine g_callSN (pc := 49) (dd d_Pol_become 23 rfl) s_Pol_45 (ef_Eng_copyRow hX (isA_of (ax_Pol_4 h_x1)) (isA_of (ax_Pol_4 h_x0)) e9) rfl (by omega) (Nat.le_of_ble_eq_true rfl) ⟨Nat.zero_le _, Nat.zero_le _⟩ rfl ?_
  refine g_aload_n (pc := 52) (dd d_Pol_become 24 rfl) rfl ?_
  refine g_getr (pc := 53) (dd d_Pol_become 25 rfl) f_Pol_24 (oc_Pol h_x1) rfl (rx_Pol_5 hX h_x1) ?_
  refine g_aload_n (pc := 56) (dd d_Pol_become 26 rfl) rfl ?_
  refine g_getr (pc := 57) (dd d_Pol_become 27 rfl) f_Pol_24 (oc_Pol h_x0) rfl (rx_Pol_5 hX h_x0) ?_
  obtain ⟨v10, e11, h⟩ := bnd_e h
  refine g_callSN (pc := 60) (dd d_Pol_become 28 rfl) s_Pol_45 (ef_Eng_copyRow hX (isA_of (ax_Pol_5 h_x1)) (isA_of (ax_Pol_5 h_x0)) e11) rfl (by omega) (Nat.le_of_ble_eq_true rfl) ⟨Nat.zero_le _, Nat.zero_le _⟩ rfl ?_
  refine g_aload_n (pc := 63) (dd d_Pol_become 29 rfl) rfl ?_
  refine g_getr (pc := 64) (dd d_Pol_become 30 rfl) f_Pol_27 (oc_Pol h_x1) rfl (rx_Pol_6 hX h_x1) ?_
  refine g_aload_n (pc := 67) (dd d_Pol_become 31 rfl) rfl ?_
  refine g_getr (pc := 68) (dd d_Pol_become 32 rfl) f_Pol_27 (oc_Pol h_x0) rfl (rx_Pol_6 hX h_x0) ?_
  obtain ⟨v12, e13, h⟩ := bnd_e h
  refine g_callSN (pc := 71) (dd d_Pol_become 33 rfl) s_Pol_45 (ef_Eng_copyRow hX (isA_of (ax_Pol_6 h_x1)) (isA_of (ax_Pol_6 h_x0)) e13) rfl (by omega) (Nat.le_of_ble_eq_true rfl) ⟨Nat.zero_le _, Nat.zero_le _⟩ rfl ?_
  cases h
  exact g_vret (pc := 74) rfl (dd d_Pol_become 34 rfl) hT
def f_Eng_keep (rl : Nat) (I : IM) : Option (IM) := Option.bind (f_Pol_become  48 rl I) fun v1 => some v1
set_option maxRecDepth 20000 in
set_option maxHeartbeats 4000000 in
theorem ef_Eng_keep {Δ : Dx} {X : Lx} {rl hd ot pt it : Nat} (hX : EX Δ X rl hd ot pt it)   {I : IM}  {r : IM} (h : f_Eng_keep rl I = some r) : Ev Δ (4) m_Eng_keep [.ref (Δ.ba + 0)] (I, X) none (r, X) := by
  refine ev_of (by decide) (Nat.le_of_ble_eq_true rfl) (fun Γ hk hR hT => ?_)
  change GG Δ m_Eng_keep Γ NN 0 0 (I, X) 0 [some (.ref (Δ.ba + 0))] []
  unfold f_Eng_keep at h
  refine g_aload_n (pc := 0) (dd d_Eng_keep 0 rfl) rfl ?_
  refine g_getr (pc := 1) (dd d_Eng_keep 1 rfl) f_Eng_49 oc_Eng rfl (rx_Eng_5 hX) ?_
  refine g_aload_n (pc := 4) (dd d_Eng_keep 2 rfl) rfl ?_
  refine g_getr (pc := 5) (dd d_Eng_keep 3 rfl) f_Eng_60 oc_Eng rfl hX.r_rl ?_
  obtain ⟨v1, e2, h⟩ := bnd_e h
  refine g_callV (pc := 8) (dd d_Eng_keep 4 rfl) v_Eng_249 (oc_Pol (by decide)) rfl (ef_Pol_become hX (by decide) hX.i_rl e2) rfl (by omega) (Nat.le_of_ble_eq_true rfl) ⟨Nat.zero_le _, Nat.zero_le _⟩ rfl ?_
  cases h
  exact g_vret (pc := 11) rfl (dd d_Eng_keep 5 rfl) hT
def b_Cmp_variedNames_16 (x0 : Nat) (x1 : Nat) (I : IM)   : Option (Int32) := some (0)
set_option maxRecDepth 20000 in
set_option maxHeartbeats 4000000 in
theorem gb_Cmp_variedNames_16 {Δ : Dx} {X : Lx} {rl hd ot pt it : Nat} (hX : EX Δ X rl hd ot pt it) {x0 : Nat} {x1 : Nat} (h_x0 : isPol x0) (h_x1 : isPol x1) {I : IM} {Γ : Cx} (hk : Γ.k = 1) {r : Int32} (hT : Tg Δ Γ (some (.int r)) NN (I, X) 0 0)   (h : b_Cmp_variedNames_16 x0 x1 I   = some r) : GG Δ m_Cmp_variedNames Γ NN 0 0 (I, X) 16 [none, none, none, none, none] [] := by
  unfold b_Cmp_variedNames_16 at h
  refine g_iconst (pc := 16) (v := 0) (dd d_Cmp_variedNames 8 rfl) (by decide) ?_
  cases h
  exact g_iret (pc := 17) rfl (dd d_Cmp_variedNames 9 rfl) hT
def b_Cmp_variedNames_75 (x0 : Nat) (x1 : Nat) (I : IM)  (x3 : Int32) : Option (Int32) := some (x3)
set_option maxRecDepth 20000 in
set_option maxHeartbeats 4000000 in
theorem gb_Cmp_variedNames_75 {Δ : Dx} {X : Lx} {rl hd ot pt it : Nat} (hX : EX Δ X rl hd ot pt it) {x0 : Nat} {x1 : Nat} (h_x0 : isPol x0) (h_x1 : isPol x1) {I : IM} {Γ : Cx} (hk : Γ.k = 1) {r : Int32} (hT : Tg Δ Γ (some (.int r)) NN (I, X) 0 0)  {x3 : Int32} (h : b_Cmp_variedNames_75 x0 x1 I  x3 = some r) : GG Δ m_Cmp_variedNames Γ NN 0 0 (I, X) 75 [none, none, none, some (.int (x3)), none] [] := by
  unfold b_Cmp_variedNames_75 at h
  refine g_iload_n (pc := 75) (dd d_Cmp_variedNames 48 rfl) rfl ?_
  cases h
  exact g_iret (pc := 76) rfl (dd d_Cmp_variedNames 49 rfl) hT
def b_Cmp_variedNames_62 (x0 : Nat) (x1 : Nat) (I : IM)  (x3 : Int32) (x4 : Int32) : Option (Int32) := if (x4 &&& 4 : Int32) = 0 then (b_Cmp_variedNames_75 x0 x1 I  x3) else (b_Cmp_variedNames_75 x0 x1 I  (x3 ||| 256))
set_option maxRecDepth 20000 in
set_option maxHeartbeats 4000000 in
theorem gb_Cmp_variedNames_62 {Δ : Dx} {X : Lx} {rl hd ot pt it : Nat} (hX : EX Δ X rl hd ot pt it) {x0 : Nat} {x1 : Nat} (h_x0 : isPol x0) (h_x1 : isPol x1) {I : IM} {Γ : Cx} (hk : Γ.k = 1) {r : Int32} (hT : Tg Δ Γ (some (.int r)) NN (I, X) 0 0)  {x3 : Int32} {x4 : Int32} (h : b_Cmp_variedNames_62 x0 x1 I  x3 x4 = some r) : GG Δ m_Cmp_variedNames Γ NN 0 0 (I, X) 62 [none, none, none, some (.int (x3)), some (.int (x4))] [] := by
  unfold b_Cmp_variedNames_62 at h
  refine g_iload (pc := 62) (dd d_Cmp_variedNames 40 rfl) rfl ?_
  refine g_iconst (pc := 64) (v := 4) (dd d_Cmp_variedNames 41 rfl) (by decide) ?_
  refine g_iand (pc := 65) (dd d_Cmp_variedNames 42 rfl) ?_
  refine g_ifeq (pc := 66) (tgt := 75) (dd d_Cmp_variedNames 43 rfl) (by decide) (fun q9 => ?_) (fun q9 => ?_)
  · replace h := ite_t h q9
    refine g_drop [4] ?_
    exact gb_Cmp_variedNames_75 hX h_x0 h_x1 hk hT  h
  · replace h := ite_f h q9
    refine g_iload_n (pc := 69) (dd d_Cmp_variedNames 44 rfl) rfl ?_
    refine g_sipush (pc := 70) (v := 256) (dd d_Cmp_variedNames 45 rfl) (by decide) ?_
    refine g_ior (pc := 73) (dd d_Cmp_variedNames 46 rfl) ?_
    refine g_istore_n (pc := 74) (dd d_Cmp_variedNames 47 rfl) (by decide) ?_
    refine g_drop [4] ?_
    exact gb_Cmp_variedNames_75 hX h_x0 h_x1 hk hT  h
def f_Cmp_variedNames (x0 : Nat) (x1 : Nat) (x2 : Int32) (I : IM) : Option (Int32) := Option.bind (f_Pol_hasRule  x0 x2 I) fun v1 => if v1 = 0 then (b_Cmp_variedNames_16 x0 x1 I  ) else (Option.bind (f_Pol_hasRule  x1 x2 I) fun v4 => if v4 = 0 then (b_Cmp_variedNames_16 x0 x1 I  ) else (chk (inb x2 22) <| if (((I (x0 + 6) x2.toNatClampNeg) ^^^ (I (x1 + 6) x2.toNatClampNeg)) &&& 2 : Int32) = 0 then (b_Cmp_variedNames_62 x0 x1 I  (((I (x0 + 5) x2.toNatClampNeg) ||| (I (x1 + 5) x2.toNatClampNeg)) &&& 32767) ((I (x0 + 6) x2.toNatClampNeg) ^^^ (I (x1 + 6) x2.toNatClampNeg))) else (b_Cmp_variedNames_62 x0 x1 I  ((((I (x0 + 5) x2.toNatClampNeg) ||| (I (x1 + 5) x2.toNatClampNeg)) &&& 32767) ||| 1) ((I (x0 + 6) x2.toNatClampNeg) ^^^ (I (x1 + 6) x2.toNatClampNeg)))))
set_option maxRecDepth 20000 in
set_option maxHeartbeats 4000000 in
theorem ef_Cmp_variedNames {Δ : Dx} {X : Lx} {rl hd ot pt it : Nat} (hX : EX Δ X rl hd ot pt it) {x0 : Nat} {x1 : Nat} {x2 : Int32} (h_x0 : isPol x0) (h_x1 : isPol x1) {I : IM}  {r : Int32} (h : f_Cmp_variedNames x0 x1 x2 I = some r) : Ev Δ (1) m_Cmp_variedNames [.ref (Δ.ba + x0), .ref (Δ.ba + x1), .int x2] (I, X) (some (.int r)) (I, X) := by
  refine ev_of (by decide) (Nat.le_of_ble_eq_true rfl) (fun Γ hk hR hT => ?_)
  change GG Δ m_Cmp_variedNames Γ NN 0 0 (I, X) 0 [some (.ref (Δ.ba + x0)), some (.ref (Δ.ba + x1)), some (.int (x2)), none, none] []
  unfold f_Cmp_variedNames at h
  refine g_aload_n (pc := 0) (dd d_Cmp_variedNames 0 rfl) rfl ?_
  refine g_iload_n (pc := 1) (dd d_Cmp_variedNames 1 rfl) rfl ?_
  obtain ⟨v1, e2, h⟩ := bnd_e h
  refine g_callV (pc := 2) (dd d_Cmp_variedNames 2 rfl) v_Cmp_25 (oc_Pol h_x0) rfl (ef_Pol_hasRule hX h_x0 e2) rfl (by omega) (Nat.le_of_ble_eq_true rfl) ⟨Nat.zero_le _, Nat.zero_le _⟩ rfl ?_
  refine g_ifeq (pc := 5) (tgt := 16) (dd d_Cmp_variedNames 3 rfl) (by decide) (fun q3 => ?_) (fun q3 => ?_)
  · replace h := ite_t h q3
    refine g_drop [0, 1, 2] ?_
    exact gb_Cmp_variedNames_16 hX h_x0 h_x1 hk hT  h
  · replace h := ite_f h q3
    refine g_aload_n (pc := 8) (dd d_Cmp_variedNames 4 rfl) rfl ?_
    refine g_iload_n (pc := 9) (dd d_Cmp_variedNames 5 rfl) rfl ?_
    obtain ⟨v4, e5, h⟩ := bnd_e h
    refine g_callV (pc := 10) (dd d_Cmp_variedNames 6 rfl) v_Cmp_25 (oc_Pol h_x1) rfl (ef_Pol_hasRule hX h_x1 e5) rfl (by omega) (Nat.le_of_ble_eq_true rfl) ⟨Nat.zero_le _, Nat.zero_le _⟩ rfl ?_
    refine g_ifne (pc := 13) (tgt := 18) (dd d_Cmp_variedNames 7 rfl) (by decide) (fun q6 => ?_) (fun q6 => ?_)
    · replace h := ite_f h q6
      refine g_aload_n (pc := 18) (dd d_Cmp_variedNames 10 rfl) rfl ?_
      refine g_getr (pc := 19) (dd d_Cmp_variedNames 11 rfl) f_Cmp_31 (oc_Pol h_x0) rfl (rx_Pol_5 hX h_x0) ?_
      refine g_iload_n (pc := 22) (dd d_Cmp_variedNames 12 rfl) rfl ?_
      obtain ⟨c7, h⟩ := chk_e h
      refine g_iald (pc := 23) (dd d_Cmp_variedNames 13 rfl) (ax_Pol_5 h_x0) c7 ?_
      refine g_aload_n (pc := 24) (dd d_Cmp_variedNames 14 rfl) rfl ?_
      refine g_getr (pc := 25) (dd d_Cmp_variedNames 15 rfl) f_Cmp_31 (oc_Pol h_x1) rfl (rx_Pol_5 hX h_x1) ?_
      refine g_iload_n (pc := 28) (dd d_Cmp_variedNames 16 rfl) rfl ?_
      refine g_iald (pc := 29) (dd d_Cmp_variedNames 17 rfl) (ax_Pol_5 h_x1) c7 ?_
      refine g_ior (pc := 30) (dd d_Cmp_variedNames 18 rfl) ?_
      refine g_sipush (pc := 31) (v := 32767) (dd d_Cmp_variedNames 19 rfl) (by decide) ?_
      refine g_iand (pc := 34) (dd d_Cmp_variedNames 20 rfl) ?_
      refine g_istore_n (pc := 35) (dd d_Cmp_variedNames 21 rfl) (by decide) ?_
      refine g_aload_n (pc := 36) (dd d_Cmp_variedNames 22 rfl) rfl ?_
      refine g_getr (pc := 37) (dd d_Cmp_variedNames 23 rfl) f_Cmp_34 (oc_Pol h_x0) rfl (rx_Pol_6 hX h_x0) ?_
      refine g_iload_n (pc := 40) (dd d_Cmp_variedNames 24 rfl) rfl ?_
      refine g_iald (pc := 41) (dd d_Cmp_variedNames 25 rfl) (ax_Pol_6 h_x0) c7 ?_
      refine g_aload_n (pc := 42) (dd d_Cmp_variedNames 26 rfl) rfl ?_
      refine g_getr (pc := 43) (dd d_Cmp_variedNames 27 rfl) f_Cmp_34 (oc_Pol h_x1) rfl (rx_Pol_6 hX h_x1) ?_
      refine g_iload_n (pc := 46) (dd d_Cmp_variedNames 28 rfl) rfl ?_
      refine g_iald (pc := 47) (dd d_Cmp_variedNames 29 rfl) (ax_Pol_6 h_x1) c7 ?_
      refine g_ixor (pc := 48) (dd d_Cmp_variedNames 30 rfl) ?_
      refine g_istore (pc := 49) (dd d_Cmp_variedNames 31 rfl) (by decide) ?_
      refine g_iload (pc := 51) (dd d_Cmp_variedNames 32 rfl) rfl ?_
      refine g_iconst (pc := 53) (v := 2) (dd d_Cmp_variedNames 33 rfl) (by decide) ?_
      refine g_iand (pc := 54) (dd d_Cmp_variedNames 34 rfl) ?_
      refine g_ifeq (pc := 55) (tgt := 62) (dd d_Cmp_variedNames 35 rfl) (by decide) (fun q8 => ?_) (fun q8 => ?_)
      · replace h := ite_t h q8
        refine g_drop [0, 1, 2] ?_
        exact gb_Cmp_variedNames_62 hX h_x0 h_x1 hk hT  h
      · replace h := ite_f h q8
        refine g_iload_n (pc := 58) (dd d_Cmp_variedNames 36 rfl) rfl ?_
        refine g_iconst (pc := 59) (v := 1) (dd d_Cmp_variedNames 37 rfl) (by decide) ?_
        refine g_ior (pc := 60) (dd d_Cmp_variedNames 38 rfl) ?_
        refine g_istore_n (pc := 61) (dd d_Cmp_variedNames 39 rfl) (by decide) ?_
        refine g_drop [0, 1, 2] ?_
        exact gb_Cmp_variedNames_62 hX h_x0 h_x1 hk hT  h
    · replace h := ite_t h q6
      refine g_drop [0, 1, 2] ?_
      exact gb_Cmp_variedNames_16 hX h_x0 h_x1 hk hT  h
def b_Cmp_casesOf_41 (n : Nat) (I : IM)  (x2 : Int32) : Option (Int32) := some (x2)
set_option maxRecDepth 20000 in
set_option maxHeartbeats 4000000 in
theorem gb_Cmp_casesOf_41 {Δ : Dx} {X : Lx} {rl hd ot pt it : Nat} (hX : EX Δ X rl hd ot pt it)   {n : Nat} {I : IM} {Γ : Cx} (hk : Γ.k = 0) {r : Int32} (hT : Tg Δ Γ (some (.int r)) NN (I, X) 0 0)  {x2 : Int32} (h : b_Cmp_casesOf_41 n I  x2 = some r) : GG Δ m_Cmp_casesOf Γ NN 0 0 (I, X) 41 [none, none, some (.int (x2)), none] [] := by
  unfold b_Cmp_casesOf_41 at h
  refine g_iload_n (pc := 41) (dd d_Cmp_casesOf 26 rfl) rfl ?_
  cases h
  exact g_iret (pc := 42) rfl (dd d_Cmp_casesOf 27 rfl) hT
def l_Cmp_casesOf_4 (n : Nat) (I : IM)  : Nat → Int32 → Int32 → Int32 → Int32 → Option (Int32)
  | 0, _, _, _, _ => none
  | f + 1, x0, x1, x2, x3 => if (15 : Int32) ≤ x3 then (b_Cmp_casesOf_41 n I  x2) else (if (4096 : Int32) < x2 then (b_Cmp_casesOf_41 n I  x2) else ((l_Cmp_casesOf_4 n I  f) x0 x1 (x2 * (if (((x0 : Int32) >>> ((x3 : Int32) &&& 31)) &&& 1 : Int32) = 0 then 1 else ((x1) + (1)) : Int32)) (x3 + 1)))
set_option maxRecDepth 20000 in
set_option maxHeartbeats 4000000 in
theorem gl_Cmp_casesOf_4 {Δ : Dx} {X : Lx} {rl hd ot pt it : Nat} (hX : EX Δ X rl hd ot pt it)   {n : Nat} {I : IM} {Γ : Cx} (hk : Γ.k = 0) {r : Int32} (hT : Tg Δ Γ (some (.int r)) NN (I, X) 0 0)  : ∀ (f : Nat) (x0 : Int32) (x1 : Int32) (x2 : Int32) (x3 : Int32), l_Cmp_casesOf_4 n I  f x0 x1 x2 x3 = some r → GG Δ m_Cmp_casesOf Γ NN 0 0 (I, X) 4 [some (.int (x0)), some (.int (x1)), some (.int (x2)), some (.int (x3))] []
  | 0, _, _, _, _, h => by cases h
  | f + 1, x0, x1, x2, x3, h => by
    have ih := gl_Cmp_casesOf_4 (n := n) hX hk hT  f
    rw [l_Cmp_casesOf_4] at h
    refine g_iload_n (pc := 4) (dd d_Cmp_casesOf 4 rfl) rfl ?_
    refine g_bipush (pc := 5) (v := 15) (dd d_Cmp_casesOf 5 rfl) (by decide) ?_
    refine g_icmpge (pc := 7) (tgt := 41) (dd d_Cmp_casesOf 6 rfl) (by decide) (fun q1 => ?_) (fun q1 => ?_)
    · replace h := ite_t h q1
      refine g_drop [0, 1, 3] ?_
      exact gb_Cmp_casesOf_41 hX hk hT  h
    · replace h := ite_f h q1
      refine g_iload_n (pc := 10) (dd d_Cmp_casesOf 7 rfl) rfl ?_
      refine g_sipush (pc := 11) (v := 4096) (dd d_Cmp_casesOf 8 rfl) (by decide) ?_
      refine g_icmpgt (pc := 14) (tgt := 41) (dd d_Cmp_casesOf 9 rfl) (by decide) (fun q2 => ?_) (fun q2 => ?_)
      · replace h := ite_t h q2
        refine g_drop [0, 1, 3] ?_
        exact gb_Cmp_casesOf_41 hX hk hT  h
      · replace h := ite_f h q2
        refine g_iload_n (pc := 17) (dd d_Cmp_casesOf 10 rfl) rfl ?_
        refine g_iload_n (pc := 18) (dd d_Cmp_casesOf 11 rfl) rfl ?_
        refine g_iload_n (pc := 19) (dd d_Cmp_casesOf 12 rfl) rfl ?_
        refine g_ishr (pc := 20) (dd d_Cmp_casesOf 13 rfl) ?_
        refine g_iconst (pc := 21) (v := 1) (dd d_Cmp_casesOf 14 rfl) (by decide) ?_
        refine g_iand (pc := 22) (dd d_Cmp_casesOf 15 rfl) ?_
        suffices K23 : ∀ z : Int32, z = (if (((x0 : Int32) >>> ((x3 : Int32) &&& 31)) &&& 1 : Int32) = 0 then 1 else ((x1) + (1)) : Int32) → GG Δ m_Cmp_casesOf Γ NN 0 0 (I, X) 33 [some (.int (x0)), some (.int (x1)), some (.int (x2)), some (.int (x3))] [.int (z), .int (x2)] by
          refine g_ifne (pc := 23) (tgt := 30) (dd d_Cmp_casesOf 16 rfl) (by decide) (fun q3 => ?_) (fun q3 => ?_)
          · skip
            refine g_iload_n (pc := 30) (dd d_Cmp_casesOf 19 rfl) rfl ?_
            refine g_iconst (pc := 31) (v := 1) (dd d_Cmp_casesOf 20 rfl) (by decide) ?_
            refine g_iadd (pc := 32) (dd d_Cmp_casesOf 21 rfl) ?_
            exact K23 _ (by rw [if_neg q3])
          · skip
            refine g_iconst (pc := 26) (v := 1) (dd d_Cmp_casesOf 17 rfl) (by decide) ?_
            refine g_goto (pc := 27) (tgt := 33) (dd d_Cmp_casesOf 18 rfl) (by decide) ?_
            exact K23 _ (by rw [if_pos q3])
        intro z hz
        subst hz
        refine g_imul (pc := 33) (dd d_Cmp_casesOf 22 rfl) ?_
        refine g_istore_n (pc := 34) (dd d_Cmp_casesOf 23 rfl) (by decide) ?_
        refine g_iincW (pc := 35) (w := 1) (dd d_Cmp_casesOf 24 rfl) rfl (by decide) (by decide) ?_
        refine g_goto (pc := 38) (tgt := 4) (dd d_Cmp_casesOf 25 rfl) (by decide) ?_
        exact ih _ _ _ _ h
def f_Cmp_casesOf (n : Nat) (x0 : Int32) (x1 : Int32) (I : IM) : Option (Int32) := l_Cmp_casesOf_4 n I  n x0 x1 1 0
set_option maxRecDepth 20000 in
set_option maxHeartbeats 4000000 in
theorem ef_Cmp_casesOf {Δ : Dx} {X : Lx} {rl hd ot pt it : Nat} (hX : EX Δ X rl hd ot pt it) {n : Nat} {x0 : Int32} {x1 : Int32}  {I : IM}  {r : Int32} (h : f_Cmp_casesOf n x0 x1 I = some r) : Ev Δ (0) m_Cmp_casesOf [.int x0, .int x1] (I, X) (some (.int r)) (I, X) := by
  refine ev_of (by decide) (Nat.le_of_ble_eq_true rfl) (fun Γ hk hR hT => ?_)
  change GG Δ m_Cmp_casesOf Γ NN 0 0 (I, X) 0 [some (.int (x0)), some (.int (x1)), none, none] []
  unfold f_Cmp_casesOf at h
  refine g_iconst (pc := 0) (v := 1) (dd d_Cmp_casesOf 0 rfl) (by decide) ?_
  refine g_istore_n (pc := 1) (dd d_Cmp_casesOf 1 rfl) (by decide) ?_
  refine g_iconst (pc := 2) (v := 0) (dd d_Cmp_casesOf 2 rfl) (by decide) ?_
  refine g_istore_n (pc := 3) (dd d_Cmp_casesOf 3 rfl) (by decide) ?_
  exact gl_Cmp_casesOf_4 hX hk hT  _ _ _ _ _ h
def f_Cmp_startCases (x1 : Int32) (x2 : Int32) (x3 : Int32) (I : IM) : Option (IM) := lt (up I 40 4 (x1)) fun I1 => lt (up I1 40 5 (x2)) fun I2 => lt (up I2 40 6 (x3)) fun I3 => lt (fil I3 41 15 (0)) fun I4 => some I4
set_option maxRecDepth 20000 in
set_option maxHeartbeats 4000000 in
theorem ef_Cmp_startCases {Δ : Dx} {X : Lx} {rl hd ot pt it : Nat} (hX : EX Δ X rl hd ot pt it) {x1 : Int32} {x2 : Int32} {x3 : Int32}  {I : IM}  {r : IM} (h : f_Cmp_startCases x1 x2 x3 I = some r) : Ev Δ (4) m_Cmp_startCases [.ref (Δ.ba + 40), .int x1, .int x2, .int x3] (I, X) none (r, X) := by
  refine ev_of (by decide) (Nat.le_of_ble_eq_true rfl) (fun Γ hk hR hT => ?_)
  change GG Δ m_Cmp_startCases Γ NN 0 0 (I, X) 0 [some (.ref (Δ.ba + 40)), some (.int (x1)), some (.int (x2)), some (.int (x3))] []
  unfold f_Cmp_startCases at h
  refine g_aload_n (pc := 0) (dd d_Cmp_startCases 0 rfl) rfl ?_
  refine g_iload_n (pc := 1) (dd d_Cmp_startCases 1 rfl) rfl ?_
  refine g_putiN (pc := 2) (dd d_Cmp_startCases 2 rfl) f_Cmp_37 fm_Cmp_4 oc_Cmp rfl (fun I1 hI1 => ?_)
  replace h := lt_e h hI1
  refine g_aload_n (pc := 5) (dd d_Cmp_startCases 3 rfl) rfl ?_
  refine g_iload_n (pc := 6) (dd d_Cmp_startCases 4 rfl) rfl ?_
  refine g_putiN (pc := 7) (dd d_Cmp_startCases 5 rfl) f_Cmp_41 fm_Cmp_5 oc_Cmp rfl (fun I2 hI2 => ?_)
  replace h := lt_e h hI2
  refine g_aload_n (pc := 10) (dd d_Cmp_startCases 6 rfl) rfl ?_
  refine g_iload_n (pc := 11) (dd d_Cmp_startCases 7 rfl) rfl ?_
  refine g_putiN (pc := 12) (dd d_Cmp_startCases 8 rfl) f_Cmp_44 fm_Cmp_6 oc_Cmp rfl (fun I3 hI3 => ?_)
  replace h := lt_e h hI3
  refine g_aload_n (pc := 15) (dd d_Cmp_startCases 9 rfl) rfl ?_
  refine g_getr (pc := 16) (dd d_Cmp_startCases 10 rfl) f_Cmp_9 oc_Cmp rfl (rx_Cmp_1 hX) ?_
  refine g_iconst (pc := 19) (v := 0) (dd d_Cmp_startCases 11 rfl) (by decide) ?_
  refine g_callS (pc := 20) (dd d_Cmp_startCases 12 rfl) s_Cmp_47 (ev_fill (N := 15) (0) ax_Cmp_1 (by decide)) rfl (by omega) (Nat.le_of_ble_eq_true rfl) ⟨Nat.zero_le _, Nat.zero_le _⟩ rfl ?_
  obtain ⟨I4, hI4⟩ : ∃ z, z = fil I3 41 15 (0) := ⟨_, rfl⟩
  rw [show fillI (I3, X) 41 15 (0) = (I4, X) from by rw [hI4]; rfl]
  replace h := lt_e h hI4
  cases h
  exact g_vret (pc := 23) rfl (dd d_Cmp_startCases 13 rfl) hT
def b_Cmp_fillUntold_34 (x0 : Nat)   (I : IM) : Option (IM) := some I
set_option maxRecDepth 20000 in
set_option maxHeartbeats 4000000 in
theorem gb_Cmp_fillUntold_34 {Δ : Dx} {X : Lx} {rl hd ot pt it : Nat} (hX : EX Δ X rl hd ot pt it) {x0 : Nat} (ha_x0 : isA x0)  {Γ : Cx} (hk : Γ.k = 0) {r : IM} (hT : Tg Δ Γ none NN (r, X) 0 0)   {I : IM} (h : b_Cmp_fillUntold_34 x0   I = some r) : GG Δ m_Cmp_fillUntold Γ NN 0 0 (I, X) 34 [none, none] [] := by
  unfold b_Cmp_fillUntold_34 at h
  cases h
  exact g_vret (pc := 34) rfl (dd d_Cmp_fillUntold 25 rfl) hT
def b_Cmp_fillUntold_21 (x0 : Nat)  (x1 : Int32) (I : IM) : Option (IM) := if (x1 &&& 4 : Int32) = 0 then (chk (inb 18 (lenA x0)) <| chk (inb 4 (lenA x0)) <| lt (up I x0 (4 : Int32).toNatClampNeg (I x0 (18 : Int32).toNatClampNeg)) fun I9 => b_Cmp_fillUntold_34 x0  I9) else (b_Cmp_fillUntold_34 x0  I)
set_option maxRecDepth 20000 in
set_option maxHeartbeats 4000000 in
theorem gb_Cmp_fillUntold_21 {Δ : Dx} {X : Lx} {rl hd ot pt it : Nat} (hX : EX Δ X rl hd ot pt it) {x0 : Nat} (ha_x0 : isA x0)  {Γ : Cx} (hk : Γ.k = 0) {r : IM} (hT : Tg Δ Γ none NN (r, X) 0 0)  {x1 : Int32} {I : IM} (h : b_Cmp_fillUntold_21 x0  x1 I = some r) : GG Δ m_Cmp_fillUntold Γ NN 0 0 (I, X) 21 [some (.ref (Δ.ba + x0)), some (.int (x1))] [] := by
  unfold b_Cmp_fillUntold_21 at h
  refine g_iload_n (pc := 21) (dd d_Cmp_fillUntold 15 rfl) rfl ?_
  refine g_iconst (pc := 22) (v := 4) (dd d_Cmp_fillUntold 16 rfl) (by decide) ?_
  refine g_iand (pc := 23) (dd d_Cmp_fillUntold 17 rfl) ?_
  refine g_ifne (pc := 24) (tgt := 34) (dd d_Cmp_fillUntold 18 rfl) (by decide) (fun q6 => ?_) (fun q6 => ?_)
  · replace h := ite_f h q6
    refine g_drop [0, 1] ?_
    exact gb_Cmp_fillUntold_34 hX ha_x0 hk hT  h
  · replace h := ite_t h q6
    refine g_aload_n (pc := 27) (dd d_Cmp_fillUntold 19 rfl) rfl ?_
    refine g_iconst (pc := 28) (v := 4) (dd d_Cmp_fillUntold 20 rfl) (by decide) ?_
    refine g_aload_n (pc := 29) (dd d_Cmp_fillUntold 21 rfl) rfl ?_
    refine g_bipush (pc := 30) (v := 18) (dd d_Cmp_fillUntold 22 rfl) (by decide) ?_
    obtain ⟨c7, h⟩ := chk_e h
    refine g_iald (pc := 32) (dd d_Cmp_fillUntold 23 rfl) ha_x0 c7 ?_
    obtain ⟨c8, h⟩ := chk_e h
    refine g_iastN (pc := 33) (dd d_Cmp_fillUntold 24 rfl) ha_x0 c8 (fun I9 hI9 => ?_)
    replace h := lt_e h hI9
    refine g_drop [0, 1] ?_
    exact gb_Cmp_fillUntold_34 hX ha_x0 hk hT  h
def f_Cmp_fillUntold (x0 : Nat) (x1 : Int32) (I : IM) : Option (IM) := if (25 : Int32) ≤ (Int32.ofNat (lenA x0) : Int32) then (if (x1 &&& 2 : Int32) = 0 then (chk (inb 10 (lenA x0)) <| chk (inb 3 (lenA x0)) <| lt (up I x0 (3 : Int32).toNatClampNeg (I x0 (10 : Int32).toNatClampNeg)) fun I5 => b_Cmp_fillUntold_21 x0  x1 I5) else (b_Cmp_fillUntold_21 x0  x1 I)) else (some I)
set_option maxRecDepth 20000 in
set_option maxHeartbeats 4000000 in
theorem ef_Cmp_fillUntold {Δ : Dx} {X : Lx} {rl hd ot pt it : Nat} (hX : EX Δ X rl hd ot pt it) {x0 : Nat} {x1 : Int32} (ha_x0 : isA x0) {I : IM}  {r : IM} (h : f_Cmp_fillUntold x0 x1 I = some r) : Ev Δ (0) m_Cmp_fillUntold [.ref (Δ.ba + x0), .int x1] (I, X) none (r, X) := by
  refine ev_of (by decide) (Nat.le_of_ble_eq_true rfl) (fun Γ hk hR hT => ?_)
  change GG Δ m_Cmp_fillUntold Γ NN 0 0 (I, X) 0 [some (.ref (Δ.ba + x0)), some (.int (x1))] []
  unfold f_Cmp_fillUntold at h
  refine g_aload_n (pc := 0) (dd d_Cmp_fillUntold 0 rfl) rfl ?_
  refine g_alen (pc := 1) (t := 0) (dd d_Cmp_fillUntold 1 rfl) ha_x0 rfl rfl ?_
  refine g_bipush (pc := 2) (v := 25) (dd d_Cmp_fillUntold 2 rfl) (by decide) ?_
  refine g_icmpge (pc := 4) (tgt := 8) (dd d_Cmp_fillUntold 3 rfl) (by decide) (fun q1 => ?_) (fun q1 => ?_)
  · replace h := ite_t h q1
    refine g_iload_n (pc := 8) (dd d_Cmp_fillUntold 5 rfl) rfl ?_
    refine g_iconst (pc := 9) (v := 2) (dd d_Cmp_fillUntold 6 rfl) (by decide) ?_
    refine g_iand (pc := 10) (dd d_Cmp_fillUntold 7 rfl) ?_
    refine g_ifne (pc := 11) (tgt := 21) (dd d_Cmp_fillUntold 8 rfl) (by decide) (fun q2 => ?_) (fun q2 => ?_)
    · replace h := ite_f h q2
      exact gb_Cmp_fillUntold_21 hX ha_x0 hk hT  h
    · replace h := ite_t h q2
      refine g_aload_n (pc := 14) (dd d_Cmp_fillUntold 9 rfl) rfl ?_
      refine g_iconst (pc := 15) (v := 3) (dd d_Cmp_fillUntold 10 rfl) (by decide) ?_
      refine g_aload_n (pc := 16) (dd d_Cmp_fillUntold 11 rfl) rfl ?_
      refine g_bipush (pc := 17) (v := 10) (dd d_Cmp_fillUntold 12 rfl) (by decide) ?_
      obtain ⟨c3, h⟩ := chk_e h
      refine g_iald (pc := 19) (dd d_Cmp_fillUntold 13 rfl) ha_x0 c3 ?_
      obtain ⟨c4, h⟩ := chk_e h
      refine g_iastN (pc := 20) (dd d_Cmp_fillUntold 14 rfl) ha_x0 c4 (fun I5 hI5 => ?_)
      replace h := lt_e h hI5
      exact gb_Cmp_fillUntold_21 hX ha_x0 hk hT  h
  · replace h := ite_f h q1
    cases h
    exact g_vret (pc := 7) rfl (dd d_Cmp_fillUntold 4 rfl) hT
def l_Cmp_answerUnlike_61 (n : Nat)  : Nat → Int32 → IM → Option (Int32 × IM)
  | 0, _, _ => none
  | f + 1, x3, I => if (4 : Int32) < x3 then (some (0, I)) else (chk (inb x3 25) <| if (I 43 x3.toNatClampNeg : Int32) = (I 46 x3.toNatClampNeg : Int32) then ((l_Cmp_answerUnlike_61 n  f) (x3 + 1) I) else (some (1, I)))
set_option maxRecDepth 20000 in
set_option maxHeartbeats 4000000 in
theorem gl_Cmp_answerUnlike_61 {Δ : Dx} {X : Lx} {rl hd ot pt it : Nat} (hX : EX Δ X rl hd ot pt it)   {n : Nat} {Γ : Cx} (hk : Γ.k = 1) {r : Int32 × IM} (hT : Tg Δ Γ (some (.int r.1)) NN (r.2, X) 0 0)  : ∀ (f : Nat) (x3 : Int32) (I : IM), l_Cmp_answerUnlike_61 n  f x3 I = some r → GG Δ m_Cmp_answerUnlike Γ NN 0 0 (I, X) 61 [some (.ref (Δ.ba + 40)), none, none, some (.int (x3))] []
  | 0, _, _, h => by cases h
  | f + 1, x3, I, h => by
    have ih := gl_Cmp_answerUnlike_61 (n := n) hX hk hT  f
    rw [l_Cmp_answerUnlike_61] at h
    refine g_iload_n (pc := 61) (dd d_Cmp_answerUnlike 33 rfl) rfl ?_
    refine g_iconst (pc := 62) (v := 4) (dd d_Cmp_answerUnlike 34 rfl) (by decide) ?_
    refine g_icmpgt (pc := 63) (tgt := 95) (dd d_Cmp_answerUnlike 35 rfl) (by decide) (fun q7 => ?_) (fun q7 => ?_)
    · replace h := ite_t h q7
      refine g_iconst (pc := 95) (v := 0) (dd d_Cmp_answerUnlike 51 rfl) (by decide) ?_
      cases h
      exact g_zret (pc := 96) rfl (by decide) (dd d_Cmp_answerUnlike 52 rfl) hT
    · replace h := ite_f h q7
      refine g_aload_n (pc := 66) (dd d_Cmp_answerUnlike 36 rfl) rfl ?_
      refine g_getr (pc := 67) (dd d_Cmp_answerUnlike 37 rfl) f_Cmp_18 oc_Cmp rfl (rx_Cmp_2 hX) ?_
      refine g_getr (pc := 70) (dd d_Cmp_answerUnlike 38 rfl) f_Cmp_57 (oc_Wrk (by decide)) rfl (rx_Wrk_0 (a := 42) hX (by decide)) ?_
      refine g_iload_n (pc := 73) (dd d_Cmp_answerUnlike 39 rfl) rfl ?_
      obtain ⟨c8, h⟩ := chk_e h
      refine g_iald (pc := 74) (dd d_Cmp_answerUnlike 40 rfl) (ax_Wrk_0 (a := 42) (by decide)) c8 ?_
      refine g_aload_n (pc := 75) (dd d_Cmp_answerUnlike 41 rfl) rfl ?_
      refine g_getr (pc := 76) (dd d_Cmp_answerUnlike 42 rfl) f_Cmp_22 oc_Cmp rfl (rx_Cmp_3 hX) ?_
      refine g_getr (pc := 79) (dd d_Cmp_answerUnlike 43 rfl) f_Cmp_57 (oc_Wrk (by decide)) rfl (rx_Wrk_0 (a := 45) hX (by decide)) ?_
      refine g_iload_n (pc := 82) (dd d_Cmp_answerUnlike 44 rfl) rfl ?_
      refine g_iald (pc := 83) (dd d_Cmp_answerUnlike 45 rfl) (ax_Wrk_0 (a := 45) (by decide)) c8 ?_
      refine g_icmpeq (pc := 84) (tgt := 89) (dd d_Cmp_answerUnlike 46 rfl) (by decide) (fun q9 => ?_) (fun q9 => ?_)
      · replace h := ite_t h q9
        refine g_iincW (pc := 89) (w := 1) (dd d_Cmp_answerUnlike 49 rfl) rfl (by decide) (by decide) ?_
        refine g_goto (pc := 92) (tgt := 61) (dd d_Cmp_answerUnlike 50 rfl) (by decide) ?_
        exact ih _ _ h
      · replace h := ite_f h q9
        refine g_iconst (pc := 87) (v := 1) (dd d_Cmp_answerUnlike 47 rfl) (by decide) ?_
        cases h
        exact g_zret (pc := 88) rfl (by decide) (dd d_Cmp_answerUnlike 48 rfl) hT
def f_Cmp_answerUnlike (n : Nat) (x1 : Int32) (x2 : Int32) (I : IM) : Option (Int32 × IM) := if (I 43 (1 : Int32).toNatClampNeg : Int32) = (I 46 (1 : Int32).toNatClampNeg : Int32) then (if (I 43 (1 : Int32).toNatClampNeg : Int32) = 0 then (Option.bind (f_Cmp_fillUntold  43 x1 I) fun v3 => Option.bind (f_Cmp_fillUntold  46 x2 v3) fun v5 => l_Cmp_answerUnlike_61 n  n 2 v5) else (some (0, I))) else (some (1, I))
set_option maxRecDepth 20000 in
set_option maxHeartbeats 4000000 in
theorem ef_Cmp_answerUnlike {Δ : Dx} {X : Lx} {rl hd ot pt it : Nat} (hX : EX Δ X rl hd ot pt it) {n : Nat} {x1 : Int32} {x2 : Int32}  {I : IM}  {r : Int32 × IM} (h : f_Cmp_answerUnlike n x1 x2 I = some r) : Ev Δ (1) m_Cmp_answerUnlike [.ref (Δ.ba + 40), .int x1, .int x2] (I, X) (some (.int r.1)) (r.2, X) := by
  refine ev_of (by decide) (Nat.le_of_ble_eq_true rfl) (fun Γ hk hR hT => ?_)
  change GG Δ m_Cmp_answerUnlike Γ NN 0 0 (I, X) 0 [some (.ref (Δ.ba + 40)), some (.int (x1)), some (.int (x2)), none] []
  unfold f_Cmp_answerUnlike at h
  refine g_aload_n (pc := 0) (dd d_Cmp_answerUnlike 0 rfl) rfl ?_
  refine g_getr (pc := 1) (dd d_Cmp_answerUnlike 1 rfl) f_Cmp_18 oc_Cmp rfl (rx_Cmp_2 hX) ?_
  refine g_getr (pc := 4) (dd d_Cmp_answerUnlike 2 rfl) f_Cmp_57 (oc_Wrk (by decide)) rfl (rx_Wrk_0 (a := 42) hX (by decide)) ?_
  refine g_iconst (pc := 7) (v := 1) (dd d_Cmp_answerUnlike 3 rfl) (by decide) ?_
  refine g_iald (pc := 8) (dd d_Cmp_answerUnlike 4 rfl) (ax_Wrk_0 (a := 42) (by decide)) (by rw [vp_in_iff]; decide) ?_
  refine g_aload_n (pc := 9) (dd d_Cmp_answerUnlike 5 rfl) rfl ?_
  refine g_getr (pc := 10) (dd d_Cmp_answerUnlike 6 rfl) f_Cmp_22 oc_Cmp rfl (rx_Cmp_3 hX) ?_
  refine g_getr (pc := 13) (dd d_Cmp_answerUnlike 7 rfl) f_Cmp_57 (oc_Wrk (by decide)) rfl (rx_Wrk_0 (a := 45) hX (by decide)) ?_
  refine g_iconst (pc := 16) (v := 1) (dd d_Cmp_answerUnlike 8 rfl) (by decide) ?_
  refine g_iald (pc := 17) (dd d_Cmp_answerUnlike 9 rfl) (ax_Wrk_0 (a := 45) (by decide)) (by rw [vp_in_iff]; decide) ?_
  refine g_icmpeq (pc := 18) (tgt := 23) (dd d_Cmp_answerUnlike 10 rfl) (by decide) (fun q1 => ?_) (fun q1 => ?_)
  · replace h := ite_t h q1
    refine g_aload_n (pc := 23) (dd d_Cmp_answerUnlike 13 rfl) rfl ?_
    refine g_getr (pc := 24) (dd d_Cmp_answerUnlike 14 rfl) f_Cmp_18 oc_Cmp rfl (rx_Cmp_2 hX) ?_
    refine g_getr (pc := 27) (dd d_Cmp_answerUnlike 15 rfl) f_Cmp_57 (oc_Wrk (by decide)) rfl (rx_Wrk_0 (a := 42) hX (by decide)) ?_
    refine g_iconst (pc := 30) (v := 1) (dd d_Cmp_answerUnlike 16 rfl) (by decide) ?_
    refine g_iald (pc := 31) (dd d_Cmp_answerUnlike 17 rfl) (ax_Wrk_0 (a := 42) (by decide)) (by rw [vp_in_iff]; decide) ?_
    refine g_ifeq (pc := 32) (tgt := 37) (dd d_Cmp_answerUnlike 18 rfl) (by decide) (fun q2 => ?_) (fun q2 => ?_)
    · replace h := ite_t h q2
      refine g_aload_n (pc := 37) (dd d_Cmp_answerUnlike 21 rfl) rfl ?_
      refine g_getr (pc := 38) (dd d_Cmp_answerUnlike 22 rfl) f_Cmp_18 oc_Cmp rfl (rx_Cmp_2 hX) ?_
      refine g_getr (pc := 41) (dd d_Cmp_answerUnlike 23 rfl) f_Cmp_57 (oc_Wrk (by decide)) rfl (rx_Wrk_0 (a := 42) hX (by decide)) ?_
      refine g_iload_n (pc := 44) (dd d_Cmp_answerUnlike 24 rfl) rfl ?_
      obtain ⟨v3, e4, h⟩ := bnd_e h
      refine g_callS (pc := 45) (dd d_Cmp_answerUnlike 25 rfl) s_Cmp_77 (ef_Cmp_fillUntold hX (isA_of (ax_Wrk_0 (a := 42) (by decide))) e4) rfl (by omega) (Nat.le_of_ble_eq_true rfl) ⟨Nat.zero_le _, Nat.zero_le _⟩ rfl ?_
      refine g_aload_n (pc := 48) (dd d_Cmp_answerUnlike 26 rfl) rfl ?_
      refine g_getr (pc := 49) (dd d_Cmp_answerUnlike 27 rfl) f_Cmp_22 oc_Cmp rfl (rx_Cmp_3 hX) ?_
      refine g_getr (pc := 52) (dd d_Cmp_answerUnlike 28 rfl) f_Cmp_57 (oc_Wrk (by decide)) rfl (rx_Wrk_0 (a := 45) hX (by decide)) ?_
      refine g_iload_n (pc := 55) (dd d_Cmp_answerUnlike 29 rfl) rfl ?_
      obtain ⟨v5, e6, h⟩ := bnd_e h
      refine g_callS (pc := 56) (dd d_Cmp_answerUnlike 30 rfl) s_Cmp_77 (ef_Cmp_fillUntold hX (isA_of (ax_Wrk_0 (a := 45) (by decide))) e6) rfl (by omega) (Nat.le_of_ble_eq_true rfl) ⟨Nat.zero_le _, Nat.zero_le _⟩ rfl ?_
      refine g_iconst (pc := 59) (v := 2) (dd d_Cmp_answerUnlike 31 rfl) (by decide) ?_
      refine g_istore_n (pc := 60) (dd d_Cmp_answerUnlike 32 rfl) (by decide) ?_
      refine g_drop [1, 2] ?_
      exact gl_Cmp_answerUnlike_61 hX hk hT  _ _ _ h
    · replace h := ite_f h q2
      refine g_iconst (pc := 35) (v := 0) (dd d_Cmp_answerUnlike 19 rfl) (by decide) ?_
      cases h
      exact g_zret (pc := 36) rfl (by decide) (dd d_Cmp_answerUnlike 20 rfl) hT
  · replace h := ite_f h q1
    refine g_iconst (pc := 21) (v := 1) (dd d_Cmp_answerUnlike 11 rfl) (by decide) ?_
    cases h
    exact g_zret (pc := 22) rfl (by decide) (dd d_Cmp_answerUnlike 12 rfl) hT
def b_Cmp_goToNextCase_49 (n : Nat) (H3 : Int32 → IM → Option (IM)) (x1 : Int32) (I : IM) : Option (IM) := H3 (x1 + (-1)) I
set_option maxRecDepth 20000 in
set_option maxHeartbeats 4000000 in
theorem gb_Cmp_goToNextCase_49 {Δ : Dx} {X : Lx} {rl hd ot pt it : Nat} (hX : EX Δ X rl hd ot pt it)   {n : Nat} {Γ : Cx} (hk : Γ.k = 0) {r : IM} (hT : Tg Δ Γ none NN (r, X) 0 0) {H3 : Int32 → IM → Option (IM)} (hH3 : ∀ (x1 : Int32) (I : IM), H3 x1 I = some r → GG Δ m_Cmp_goToNextCase Γ NN 0 0 (I, X) 3 [some (.ref (Δ.ba + 40)), some (.int (x1))] []) {x1 : Int32} {I : IM} (h : b_Cmp_goToNextCase_49 n H3 x1 I = some r) : GG Δ m_Cmp_goToNextCase Γ NN 0 0 (I, X) 49 [some (.ref (Δ.ba + 40)), some (.int (x1))] [] := by
  unfold b_Cmp_goToNextCase_49 at h
  refine g_iincW (pc := 49) (w := (-1)) (dd d_Cmp_goToNextCase 32 rfl) rfl (by decide) (by decide) ?_
  refine g_goto (pc := 52) (tgt := 3) (dd d_Cmp_goToNextCase 33 rfl) (by decide) ?_
  exact hH3 _ _ h
def l_Cmp_goToNextCase_3 (n : Nat)  : Nat → Int32 → IM → Option (IM)
  | 0, _, _ => none
  | f + 1, x1, I => if x1 < 0 then (some I) else (if (((I 40 4 : Int32) >>> ((x1 : Int32) &&& 31)) &&& 1 : Int32) = 0 then (b_Cmp_goToNextCase_49 n (l_Cmp_goToNextCase_3 n  f) x1 I) else (chk (inb x1 15) <| if (I 40 5 : Int32) ≤ (I 41 x1.toNatClampNeg : Int32) then (lt (up I 41 x1.toNatClampNeg (0)) fun I5 => b_Cmp_goToNextCase_49 n (l_Cmp_goToNextCase_3 n  f) x1 I5) else (lt (up I 41 x1.toNatClampNeg ((I 41 x1.toNatClampNeg) + 1)) fun I6 => some I6)))
set_option maxRecDepth 20000 in
set_option maxHeartbeats 4000000 in
theorem gl_Cmp_goToNextCase_3 {Δ : Dx} {X : Lx} {rl hd ot pt it : Nat} (hX : EX Δ X rl hd ot pt it)   {n : Nat} {Γ : Cx} (hk : Γ.k = 0) {r : IM} (hT : Tg Δ Γ none NN (r, X) 0 0)  : ∀ (f : Nat) (x1 : Int32) (I : IM), l_Cmp_goToNextCase_3 n  f x1 I = some r → GG Δ m_Cmp_goToNextCase Γ NN 0 0 (I, X) 3 [some (.ref (Δ.ba + 40)), some (.int (x1))] []
  | 0, _, _, h => by cases h
  | f + 1, x1, I, h => by
    have ih := gl_Cmp_goToNextCase_3 (n := n) hX hk hT  f
    rw [l_Cmp_goToNextCase_3] at h
    refine g_iload_n (pc := 3) (dd d_Cmp_goToNextCase 2 rfl) rfl ?_
    refine g_iflt (pc := 4) (tgt := 55) (dd d_Cmp_goToNextCase 3 rfl) (by decide) (fun q1 => ?_) (fun q1 => ?_)
    · replace h := ite_t h q1
      cases h
      exact g_vret (pc := 55) rfl (dd d_Cmp_goToNextCase 34 rfl) hT
    · replace h := ite_f h q1
      refine g_aload_n (pc := 7) (dd d_Cmp_goToNextCase 4 rfl) rfl ?_
      refine g_geti (pc := 8) (dd d_Cmp_goToNextCase 5 rfl) f_Cmp_37 oc_Cmp rfl ?_
      refine g_iload_n (pc := 11) (dd d_Cmp_goToNextCase 6 rfl) rfl ?_
      refine g_ishr (pc := 12) (dd d_Cmp_goToNextCase 7 rfl) ?_
      refine g_iconst (pc := 13) (v := 1) (dd d_Cmp_goToNextCase 8 rfl) (by decide) ?_
      refine g_iand (pc := 14) (dd d_Cmp_goToNextCase 9 rfl) ?_
      refine g_ifeq (pc := 15) (tgt := 49) (dd d_Cmp_goToNextCase 10 rfl) (by decide) (fun q2 => ?_) (fun q2 => ?_)
      · replace h := ite_t h q2
        exact gb_Cmp_goToNextCase_49 hX hk hT ih h
      · replace h := ite_f h q2
        refine g_aload_n (pc := 18) (dd d_Cmp_goToNextCase 11 rfl) rfl ?_
        refine g_getr (pc := 19) (dd d_Cmp_goToNextCase 12 rfl) f_Cmp_9 oc_Cmp rfl (rx_Cmp_1 hX) ?_
        refine g_iload_n (pc := 22) (dd d_Cmp_goToNextCase 13 rfl) rfl ?_
        obtain ⟨c3, h⟩ := chk_e h
        refine g_iald (pc := 23) (dd d_Cmp_goToNextCase 14 rfl) ax_Cmp_1 c3 ?_
        refine g_aload_n (pc := 24) (dd d_Cmp_goToNextCase 15 rfl) rfl ?_
        refine g_geti (pc := 25) (dd d_Cmp_goToNextCase 16 rfl) f_Cmp_41 oc_Cmp rfl ?_
        refine g_icmpge (pc := 28) (tgt := 42) (dd d_Cmp_goToNextCase 17 rfl) (by decide) (fun q4 => ?_) (fun q4 => ?_)
        · replace h := ite_t h q4
          refine g_aload_n (pc := 42) (dd d_Cmp_goToNextCase 27 rfl) rfl ?_
          refine g_getr (pc := 43) (dd d_Cmp_goToNextCase 28 rfl) f_Cmp_9 oc_Cmp rfl (rx_Cmp_1 hX) ?_
          refine g_iload_n (pc := 46) (dd d_Cmp_goToNextCase 29 rfl) rfl ?_
          refine g_iconst (pc := 47) (v := 0) (dd d_Cmp_goToNextCase 30 rfl) (by decide) ?_
          refine g_iastN (pc := 48) (dd d_Cmp_goToNextCase 31 rfl) ax_Cmp_1 c3 (fun I5 hI5 => ?_)
          replace h := lt_e h hI5
          exact gb_Cmp_goToNextCase_49 hX hk hT ih h
        · replace h := ite_f h q4
          refine g_aload_n (pc := 31) (dd d_Cmp_goToNextCase 18 rfl) rfl ?_
          refine g_getr (pc := 32) (dd d_Cmp_goToNextCase 19 rfl) f_Cmp_9 oc_Cmp rfl (rx_Cmp_1 hX) ?_
          refine g_iload_n (pc := 35) (dd d_Cmp_goToNextCase 20 rfl) rfl ?_
          refine g_dup2 (pc := 36) (dd d_Cmp_goToNextCase 21 rfl) rfl rfl ?_
          refine g_iald (pc := 37) (dd d_Cmp_goToNextCase 22 rfl) ax_Cmp_1 c3 ?_
          refine g_iconst (pc := 38) (v := 1) (dd d_Cmp_goToNextCase 23 rfl) (by decide) ?_
          refine g_iadd (pc := 39) (dd d_Cmp_goToNextCase 24 rfl) ?_
          refine g_iastN (pc := 40) (dd d_Cmp_goToNextCase 25 rfl) ax_Cmp_1 c3 (fun I6 hI6 => ?_)
          replace h := lt_e h hI6
          cases h
          exact g_vret (pc := 41) rfl (dd d_Cmp_goToNextCase 26 rfl) hT
def f_Cmp_goToNextCase (n : Nat) (I : IM) : Option (IM) := l_Cmp_goToNextCase_3 n  n 14 I
set_option maxRecDepth 20000 in
set_option maxHeartbeats 4000000 in
theorem ef_Cmp_goToNextCase {Δ : Dx} {X : Lx} {rl hd ot pt it : Nat} (hX : EX Δ X rl hd ot pt it) {n : Nat}  {I : IM}  {r : IM} (h : f_Cmp_goToNextCase n I = some r) : Ev Δ (0) m_Cmp_goToNextCase [.ref (Δ.ba + 40)] (I, X) none (r, X) := by
  refine ev_of (by decide) (Nat.le_of_ble_eq_true rfl) (fun Γ hk hR hT => ?_)
  change GG Δ m_Cmp_goToNextCase Γ NN 0 0 (I, X) 0 [some (.ref (Δ.ba + 40)), none] []
  unfold f_Cmp_goToNextCase at h
  refine g_bipush (pc := 0) (v := 14) (dd d_Cmp_goToNextCase 0 rfl) (by decide) ?_
  refine g_istore_n (pc := 2) (dd d_Cmp_goToNextCase 1 rfl) (by decide) ?_
  exact gl_Cmp_goToNextCase_3 hX hk hT  _ _ _ h
