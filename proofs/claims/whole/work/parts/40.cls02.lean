/-! the class: each method a function, and its contract -/
def b_Rng_fetch_47 (x0 : Nat) (x2 : Nat)   (I : IM) : Option (IM) := some I
set_option maxRecDepth 20000 in
set_option maxHeartbeats 4000000 in
theorem gb_Rng_fetch_47 {Δ : Dx} {X : Lx} {rl hd ot pt it : Nat} (hX : EX Δ X rl hd ot pt it) {x0 : Nat} {x2 : Nat} (h_x0 : isRng x0) (ha_x2 : isA x2)  {Γ : Cx} (hk : Γ.k = 2) {r : IM} (hT : Tg Δ Γ none NN (r, X) 0 0)   {I : IM} (h : b_Rng_fetch_47 x0 x2   I = some r) : GG Δ m_Rng_fetch Γ NN 0 0 (I, X) 47 [none, none, none, none] [] := by
  unfold b_Rng_fetch_47 at h
  cases h
  exact g_vret (pc := 47) rfl (dd d_Rng_fetch 27 rfl) hT
def f_Rng_fetch (x0 : Nat) (x1 : Int32) (x2 : Nat) (I : IM) : Option (IM) := Option.bind (f_Rng_startOf  x0 x1 I) fun v1 => if v1 < 0 then (b_Rng_fetch_47 x0 x2  I) else (if (Int32.ofNat (lenA (x0 + 1)) : Int32) < (v1 + (I x0 3) : Int32) then (b_Rng_fetch_47 x0 x2  I) else (if (Int32.ofNat (lenA x2) : Int32) < (I x0 3 : Int32) then (b_Rng_fetch_47 x0 x2  I) else (chk (¬ v1 < 0) <| chk (¬ (I x0 3 : Int32) < 0) <| chk (v1.toNatClampNeg + (I x0 3 : Int32).toNatClampNeg ≤ lenA (x0 + 1)) <| chk ((0 : Int32).toNatClampNeg + (I x0 3 : Int32).toNatClampNeg ≤ lenA x2) <| lt (cpy I (x0 + 1) x2 v1.toNatClampNeg (0 : Int32).toNatClampNeg (I x0 3 : Int32).toNatClampNeg) fun I6 => b_Rng_fetch_47 x0 x2  I6)))
set_option maxRecDepth 20000 in
set_option maxHeartbeats 4000000 in
theorem ef_Rng_fetch {Δ : Dx} {X : Lx} {rl hd ot pt it : Nat} (hX : EX Δ X rl hd ot pt it) {x0 : Nat} {x1 : Int32} {x2 : Nat} (h_x0 : isRng x0) (ha_x2 : isA x2) {I : IM}  {r : IM} (h : f_Rng_fetch x0 x1 x2 I = some r) : Ev Δ (2) m_Rng_fetch [.ref (Δ.ba + x0), .int x1, .ref (Δ.ba + x2)] (I, X) none (r, X) := by
  refine ev_of (by decide) (Nat.le_of_ble_eq_true rfl) (fun Γ hk hR hT => ?_)
  change GG Δ m_Rng_fetch Γ NN 0 0 (I, X) 0 [some (.ref (Δ.ba + x0)), some (.int (x1)), some (.ref (Δ.ba + x2)), none] []
  unfold f_Rng_fetch at h
  refine g_aload_n (pc := 0) (dd d_Rng_fetch 0 rfl) rfl ?_
  refine g_iload_n (pc := 1) (dd d_Rng_fetch 1 rfl) rfl ?_
  obtain ⟨v1, e2, h⟩ := bnd_e h
  refine g_callV (pc := 2) (dd d_Rng_fetch 2 rfl) v_Rng_28 (oc_Rng h_x0) rfl (ef_Rng_startOf hX h_x0 e2) rfl (by omega) (Nat.le_of_ble_eq_true rfl) ⟨Nat.zero_le _, Nat.zero_le _⟩ rfl ?_
  refine g_istore_n (pc := 5) (dd d_Rng_fetch 3 rfl) (by decide) ?_
  refine g_iload_n (pc := 6) (dd d_Rng_fetch 4 rfl) rfl ?_
  refine g_iflt (pc := 7) (tgt := 47) (dd d_Rng_fetch 5 rfl) (by decide) (fun q3 => ?_) (fun q3 => ?_)
  · replace h := ite_t h q3
    refine g_drop [0, 1, 2, 3] ?_
    exact gb_Rng_fetch_47 hX h_x0 ha_x2 hk hT  h
  · replace h := ite_f h q3
    refine g_iload_n (pc := 10) (dd d_Rng_fetch 6 rfl) rfl ?_
    refine g_aload_n (pc := 11) (dd d_Rng_fetch 7 rfl) rfl ?_
    refine g_geti (pc := 12) (dd d_Rng_fetch 8 rfl) f_Rng_15 (oc_Rng h_x0) rfl ?_
    refine g_iadd (pc := 15) (dd d_Rng_fetch 9 rfl) ?_
    refine g_aload_n (pc := 16) (dd d_Rng_fetch 10 rfl) rfl ?_
    refine g_getr (pc := 17) (dd d_Rng_fetch 11 rfl) f_Rng_18 (oc_Rng h_x0) rfl (rx_Rng_4 hX h_x0) ?_
    refine g_alen (pc := 20) (t := 0) (dd d_Rng_fetch 12 rfl) (ax_Rng_4 h_x0) rfl rfl ?_
    refine g_icmpgt (pc := 21) (tgt := 47) (dd d_Rng_fetch 13 rfl) (by decide) (fun q4 => ?_) (fun q4 => ?_)
    · replace h := ite_t h q4
      refine g_drop [0, 1, 2, 3] ?_
      exact gb_Rng_fetch_47 hX h_x0 ha_x2 hk hT  h
    · replace h := ite_f h q4
      refine g_aload_n (pc := 24) (dd d_Rng_fetch 14 rfl) rfl ?_
      refine g_alen (pc := 25) (t := 0) (dd d_Rng_fetch 15 rfl) ha_x2 rfl rfl ?_
      refine g_aload_n (pc := 26) (dd d_Rng_fetch 16 rfl) rfl ?_
      refine g_geti (pc := 27) (dd d_Rng_fetch 17 rfl) f_Rng_15 (oc_Rng h_x0) rfl ?_
      refine g_icmplt (pc := 30) (tgt := 47) (dd d_Rng_fetch 18 rfl) (by decide) (fun q5 => ?_) (fun q5 => ?_)
      · replace h := ite_t h q5
        refine g_drop [0, 1, 2, 3] ?_
        exact gb_Rng_fetch_47 hX h_x0 ha_x2 hk hT  h
      · replace h := ite_f h q5
        refine g_aload_n (pc := 33) (dd d_Rng_fetch 19 rfl) rfl ?_
        refine g_getr (pc := 34) (dd d_Rng_fetch 20 rfl) f_Rng_18 (oc_Rng h_x0) rfl (rx_Rng_4 hX h_x0) ?_
        refine g_iload_n (pc := 37) (dd d_Rng_fetch 21 rfl) rfl ?_
        refine g_aload_n (pc := 38) (dd d_Rng_fetch 22 rfl) rfl ?_
        refine g_iconst (pc := 39) (v := 0) (dd d_Rng_fetch 23 rfl) (by decide) ?_
        refine g_aload_n (pc := 40) (dd d_Rng_fetch 24 rfl) rfl ?_
        refine g_geti (pc := 41) (dd d_Rng_fetch 25 rfl) f_Rng_15 (oc_Rng h_x0) rfl ?_
        obtain ⟨c7, h⟩ := chk_e h
        obtain ⟨c8, h⟩ := chk_e h
        obtain ⟨c9, h⟩ := chk_e h
        obtain ⟨c10, h⟩ := chk_e h
        refine g_copyN (pc := 44) (dd d_Rng_fetch 26 rfl) n_Rng_32 (by omega) (Nat.le_of_ble_eq_true rfl) (ax_Rng_4 h_x0) ha_x2 c7 (by decide) c8 c9 c10 (fun I6 hI6 => ?_)
        replace h := lt_e h hI6
        refine g_drop [0, 1, 2, 3] ?_
        exact gb_Rng_fetch_47 hX h_x0 ha_x2 hk hT  h
def b_Stp_ask_132 (n : Nat) (x1 : Nat) (x2 : Nat)   (I : IM) : Option (IM) := some I
set_option maxRecDepth 20000 in
set_option maxHeartbeats 4000000 in
theorem gb_Stp_ask_132 {Δ : Dx} {X : Lx} {rl hd ot pt it : Nat} (hX : EX Δ X rl hd ot pt it) {x1 : Nat} {x2 : Nat} (h_x1 : isMch x1) (h_x2 : isPol x2) {n : Nat} {Γ : Cx} (hk : Γ.k = 4) {r : IM} (hT : Tg Δ Γ none NN (r, X) 0 0)   {I : IM} (h : b_Stp_ask_132 n x1 x2   I = some r) : GG Δ m_Stp_ask Γ NN 0 0 (I, X) 132 [none, none, none, none, none] [] := by
  unfold b_Stp_ask_132 at h
  cases h
  exact g_vret (pc := 132) rfl (dd d_Stp_ask_1 16 rfl) hT
def f_Stp_ask (n : Nat) (x1 : Nat) (x2 : Nat) (I : IM) : Option (IM) := Option.bind (f_Pol_mayBeCompared  x2 (I 35 4) I) fun v1 => if v1 = 0 then (lt (up I 35 11 (1)) fun I21 => Option.bind (f_Wrk_workOut n 36 x2 (I21 35 4) x1 I21) fun v22 => some v22) else (lt (up I (x1 + 13) (3 : Int32).toNatClampNeg ((I (x1 + 13) (3 : Int32).toNatClampNeg) + 1)) fun I4 => Option.bind (f_Stp_addCount  x1 1 I4) fun v5 => Option.bind (f_Rng_rowLike n (x1 + 15) 37 10 v5) fun v7 => if v7 = ((-1) : Int32) then (lt (up v5 35 11 (2)) fun I16 => Option.bind (f_Wrk_workOut n 36 x2 (I16 35 4) x1 I16) fun v17 => Option.bind (f_Rng_add  (x1 + 15) 37 v17) fun v19 => b_Stp_ask_132 n x1 x2  v19) else (lt (up v5 35 11 (3)) fun I10 => lt (up I10 (x1 + 13) (4 : Int32).toNatClampNeg ((I10 (x1 + 13) (4 : Int32).toNatClampNeg) + 1)) fun I11 => Option.bind (f_Stp_addCount  x1 2 I11) fun v12 => Option.bind (f_Rng_fetch  (x1 + 15) v7 37 v12) fun v14 => b_Stp_ask_132 n x1 x2  v14))
set_option maxRecDepth 20000 in
set_option maxHeartbeats 4000000 in
theorem ef_Stp_ask {Δ : Dx} {X : Lx} {rl hd ot pt it : Nat} (hX : EX Δ X rl hd ot pt it) {n : Nat} {x1 : Nat} {x2 : Nat} (h_x1 : isMch x1) (h_x2 : isPol x2) {I : IM}  {r : IM} (h : f_Stp_ask n x1 x2 I = some r) : Ev Δ (4) m_Stp_ask [.ref (Δ.ba + 35), .ref (Δ.ba + x1), .ref (Δ.ba + x2)] (I, X) none (r, X) := by
  refine ev_of (by decide) (Nat.le_of_ble_eq_true rfl) (fun Γ hk hR hT => ?_)
  change GG Δ m_Stp_ask Γ NN 0 0 (I, X) 0 [some (.ref (Δ.ba + 35)), some (.ref (Δ.ba + x1)), some (.ref (Δ.ba + x2)), none, none] []
  unfold f_Stp_ask at h
  refine g_aload_n (pc := 0) (dd d_Stp_ask 0 rfl) rfl ?_
  refine g_getr (pc := 1) (dd d_Stp_ask 1 rfl) f_Stp_12 oc_Stp rfl (rx_Stp_0 hX) ?_
  refine g_getr (pc := 4) (dd d_Stp_ask 2 rfl) f_Stp_102 (oc_Wrk (by decide)) rfl (rx_Wrk_0 (a := 36) hX (by decide)) ?_
  refine g_astore_n (pc := 7) (dd d_Stp_ask 3 rfl) (by decide) ?_
  refine g_aload_n (pc := 8) (dd d_Stp_ask 4 rfl) rfl ?_
  refine g_aload_n (pc := 9) (dd d_Stp_ask 5 rfl) rfl ?_
  refine g_geti (pc := 10) (dd d_Stp_ask 6 rfl) f_Stp_57 oc_Stp rfl ?_
  obtain ⟨v1, e2, h⟩ := bnd_e h
  refine g_callV (pc := 13) (dd d_Stp_ask 7 rfl) v_Stp_137 (oc_Pol h_x2) rfl (ef_Pol_mayBeCompared hX h_x2 e2) rfl (by omega) (Nat.le_of_ble_eq_true rfl) ⟨Nat.zero_le _, Nat.zero_le _⟩ rfl ?_
  refine g_ifne (pc := 16) (tgt := 38) (dd d_Stp_ask 8 rfl) (by decide) (fun q3 => ?_) (fun q3 => ?_)
  · replace h := ite_f h q3
    refine g_aload_n (pc := 38) (dd d_Stp_ask 20 rfl) rfl ?_
    refine g_getr (pc := 39) (dd d_Stp_ask 21 rfl) f_Stp_36 (oc_Mch h_x1) rfl (rx_Mch_15 hX h_x1) ?_
    refine g_iconst (pc := 42) (v := 3) (dd d_Stp_ask 22 rfl) (by decide) ?_
    refine g_dup2 (pc := 43) (dd d_Stp_ask 23 rfl) rfl rfl ?_
    refine g_iald (pc := 44) (dd d_Stp_ask 24 rfl) (ax_Mch_15 h_x1) (by rw [vp_in_iff]; decide) ?_
    refine g_iconst (pc := 45) (v := 1) (dd d_Stp_ask 25 rfl) (by decide) ?_
    refine g_iadd (pc := 46) (dd d_Stp_ask 26 rfl) ?_
    refine g_iastN (pc := 47) (dd d_Stp_ask 27 rfl) (ax_Mch_15 h_x1) (by rw [vp_in_iff]; decide) (fun I4 hI4 => ?_)
    replace h := lt_e h hI4
    refine g_aload_n (pc := 48) (dd d_Stp_ask 28 rfl) rfl ?_
    refine g_aload_n (pc := 49) (dd d_Stp_ask 29 rfl) rfl ?_
    refine g_iconst (pc := 50) (v := 1) (dd d_Stp_ask 30 rfl) (by decide) ?_
    obtain ⟨v5, e6, h⟩ := bnd_e h
    refine g_callV (pc := 51) (dd d_Stp_ask 31 rfl) v_Stp_47 oc_Stp rfl (ef_Stp_addCount hX h_x1 e6) rfl (by omega) (Nat.le_of_ble_eq_true rfl) ⟨Nat.zero_le _, Nat.zero_le _⟩ rfl ?_
    refine g_aload_n (pc := 54) (dd d_Stp_ask 32 rfl) rfl ?_
    refine g_getr (pc := 55) (dd d_Stp_ask 33 rfl) f_Stp_144 (oc_Mch h_x1) rfl (rx_Mch_17 hX h_x1) ?_
    refine g_aload_n (pc := 58) (dd d_Stp_ask 34 rfl) rfl ?_
    refine g_bipush (pc := 59) (v := 10) (dd d_Stp_ask 35 rfl) (by decide) ?_
    obtain ⟨v7, e8, h⟩ := bnd_e h
    refine g_callV (pc := 61) (dd d_Stp_ask 36 rfl) v_Stp_147 (oc_Rng (ir_17 h_x1)) rfl (ef_Rng_rowLike hX (ir_17 h_x1) (isA_of (ax_Wrk_0 (a := 36) (by decide))) e8) rfl (by omega) (Nat.le_of_ble_eq_true rfl) ⟨Nat.zero_le _, Nat.zero_le _⟩ rfl ?_
    refine g_istore (pc := 64) (dd d_Stp_ask 37 rfl) (by decide) ?_
    refine g_iload (pc := 66) (dd d_Stp_ask 38 rfl) rfl ?_
    refine g_iconst (pc := 68) (v := (-1)) (dd d_Stp_ask 39 rfl) (by decide) ?_
    refine g_icmpne (pc := 69) (tgt := 101) (dd d_Stp_ask 40 rfl) (by decide) (fun q9 => ?_) (fun q9 => ?_)
    · replace h := ite_f h q9
      refine g_aload_n (pc := 101) (dd d_Stp_ask 56 rfl) rfl ?_
      refine g_iconst (pc := 102) (v := 3) (dd d_Stp_ask 57 rfl) (by decide) ?_
      refine g_putiN (pc := 103) (dd d_Stp_ask 58 rfl) f_Stp_22 fm_Stp_11 oc_Stp rfl (fun I10 hI10 => ?_)
      replace h := lt_e h hI10
      refine g_aload_n (pc := 106) (dd d_Stp_ask 59 rfl) rfl ?_
      refine g_getr (pc := 107) (dd d_Stp_ask_1 0 rfl) f_Stp_36 (oc_Mch h_x1) rfl (rx_Mch_15 hX h_x1) ?_
      refine g_iconst (pc := 110) (v := 4) (dd d_Stp_ask_1 1 rfl) (by decide) ?_
      refine g_dup2 (pc := 111) (dd d_Stp_ask_1 2 rfl) rfl rfl ?_
      refine g_iald (pc := 112) (dd d_Stp_ask_1 3 rfl) (ax_Mch_15 h_x1) (by rw [vp_in_iff]; decide) ?_
      refine g_iconst (pc := 113) (v := 1) (dd d_Stp_ask_1 4 rfl) (by decide) ?_
      refine g_iadd (pc := 114) (dd d_Stp_ask_1 5 rfl) ?_
      refine g_iastN (pc := 115) (dd d_Stp_ask_1 6 rfl) (ax_Mch_15 h_x1) (by rw [vp_in_iff]; decide) (fun I11 hI11 => ?_)
      replace h := lt_e h hI11
      refine g_aload_n (pc := 116) (dd d_Stp_ask_1 7 rfl) rfl ?_
      refine g_aload_n (pc := 117) (dd d_Stp_ask_1 8 rfl) rfl ?_
      refine g_iconst (pc := 118) (v := 2) (dd d_Stp_ask_1 9 rfl) (by decide) ?_
      obtain ⟨v12, e13, h⟩ := bnd_e h
      refine g_callV (pc := 119) (dd d_Stp_ask_1 10 rfl) v_Stp_47 oc_Stp rfl (ef_Stp_addCount hX h_x1 e13) rfl (by omega) (Nat.le_of_ble_eq_true rfl) ⟨Nat.zero_le _, Nat.zero_le _⟩ rfl ?_
      refine g_aload_n (pc := 122) (dd d_Stp_ask_1 11 rfl) rfl ?_
      refine g_getr (pc := 123) (dd d_Stp_ask_1 12 rfl) f_Stp_144 (oc_Mch h_x1) rfl (rx_Mch_17 hX h_x1) ?_
      refine g_iload (pc := 126) (dd d_Stp_ask_1 13 rfl) rfl ?_
      refine g_aload_n (pc := 128) (dd d_Stp_ask_1 14 rfl) rfl ?_
      obtain ⟨v14, e15, h⟩ := bnd_e h
      refine g_callV (pc := 129) (dd d_Stp_ask_1 15 rfl) v_Stp_151 (oc_Rng (ir_17 h_x1)) rfl (ef_Rng_fetch hX (ir_17 h_x1) (isA_of (ax_Wrk_0 (a := 36) (by decide))) e15) rfl (by omega) (Nat.le_of_ble_eq_true rfl) ⟨Nat.zero_le _, Nat.zero_le _⟩ rfl ?_
      refine g_drop [0, 1, 2, 3, 4] ?_
      exact gb_Stp_ask_132 hX h_x1 h_x2 hk hT  h
    · replace h := ite_t h q9
      refine g_aload_n (pc := 72) (dd d_Stp_ask 41 rfl) rfl ?_
      refine g_iconst (pc := 73) (v := 2) (dd d_Stp_ask 42 rfl) (by decide) ?_
      refine g_putiN (pc := 74) (dd d_Stp_ask 43 rfl) f_Stp_22 fm_Stp_11 oc_Stp rfl (fun I16 hI16 => ?_)
      replace h := lt_e h hI16
      refine g_aload_n (pc := 77) (dd d_Stp_ask 44 rfl) rfl ?_
      refine g_getr (pc := 78) (dd d_Stp_ask 45 rfl) f_Stp_12 oc_Stp rfl (rx_Stp_0 hX) ?_
      refine g_aload_n (pc := 81) (dd d_Stp_ask 46 rfl) rfl ?_
      refine g_aload_n (pc := 82) (dd d_Stp_ask 47 rfl) rfl ?_
      refine g_geti (pc := 83) (dd d_Stp_ask 48 rfl) f_Stp_57 oc_Stp rfl ?_
      refine g_aload_n (pc := 86) (dd d_Stp_ask 49 rfl) rfl ?_
      obtain ⟨v17, e18, h⟩ := bnd_e h
      refine g_callV (pc := 87) (dd d_Stp_ask 50 rfl) v_Stp_140 (oc_Wrk (by decide)) rfl (ef_Wrk_workOut hX (by decide) h_x2 h_x1 e18) rfl (by omega) (Nat.le_of_ble_eq_true rfl) ⟨Nat.zero_le _, Nat.zero_le _⟩ rfl ?_
      refine g_aload_n (pc := 90) (dd d_Stp_ask 51 rfl) rfl ?_
      refine g_getr (pc := 91) (dd d_Stp_ask 52 rfl) f_Stp_144 (oc_Mch h_x1) rfl (rx_Mch_17 hX h_x1) ?_
      refine g_aload_n (pc := 94) (dd d_Stp_ask 53 rfl) rfl ?_
      obtain ⟨v19, e20, h⟩ := bnd_e h
      refine g_callV (pc := 95) (dd d_Stp_ask 54 rfl) v_Stp_64 (oc_Rng (ir_17 h_x1)) rfl (ef_Rng_add hX (ir_17 h_x1) (isA_of (ax_Wrk_0 (a := 36) (by decide))) e20) rfl (by omega) (Nat.le_of_ble_eq_true rfl) ⟨Nat.zero_le _, Nat.zero_le _⟩ rfl ?_
      refine g_goto (pc := 98) (tgt := 132) (dd d_Stp_ask 55 rfl) (by decide) ?_
      refine g_drop [0, 1, 2, 3, 4] ?_
      exact gb_Stp_ask_132 hX h_x1 h_x2 hk hT  h
  · replace h := ite_t h q3
    refine g_aload_n (pc := 19) (dd d_Stp_ask 9 rfl) rfl ?_
    refine g_iconst (pc := 20) (v := 1) (dd d_Stp_ask 10 rfl) (by decide) ?_
    refine g_putiN (pc := 21) (dd d_Stp_ask 11 rfl) f_Stp_22 fm_Stp_11 oc_Stp rfl (fun I21 hI21 => ?_)
    replace h := lt_e h hI21
    refine g_aload_n (pc := 24) (dd d_Stp_ask 12 rfl) rfl ?_
    refine g_getr (pc := 25) (dd d_Stp_ask 13 rfl) f_Stp_12 oc_Stp rfl (rx_Stp_0 hX) ?_
    refine g_aload_n (pc := 28) (dd d_Stp_ask 14 rfl) rfl ?_
    refine g_aload_n (pc := 29) (dd d_Stp_ask 15 rfl) rfl ?_
    refine g_geti (pc := 30) (dd d_Stp_ask 16 rfl) f_Stp_57 oc_Stp rfl ?_
    refine g_aload_n (pc := 33) (dd d_Stp_ask 17 rfl) rfl ?_
    obtain ⟨v22, e23, h⟩ := bnd_e h
    refine g_callV (pc := 34) (dd d_Stp_ask 18 rfl) v_Stp_140 (oc_Wrk (by decide)) rfl (ef_Wrk_workOut hX (by decide) h_x2 h_x1 e23) rfl (by omega) (Nat.le_of_ble_eq_true rfl) ⟨Nat.zero_le _, Nat.zero_le _⟩ rfl ?_
    cases h
    exact g_vret (pc := 37) rfl (dd d_Stp_ask 19 rfl) hT
def b_Mch_freePlace_11 (n : Nat) (x0 : Nat) (I : IM)   : Option (Int32) := some ((-1))
set_option maxRecDepth 20000 in
set_option maxHeartbeats 4000000 in
theorem gb_Mch_freePlace_11 {Δ : Dx} {X : Lx} {rl hd ot pt it : Nat} (hX : EX Δ X rl hd ot pt it) {x0 : Nat} (h_x0 : isMch x0) {n : Nat} {I : IM} {Γ : Cx} (hk : Γ.k = 0) {r : Int32} (hT : Tg Δ Γ (some (.int r)) NN (I, X) 0 0)   (h : b_Mch_freePlace_11 n x0 I   = some r) : GG Δ m_Mch_freePlace Γ NN 0 0 (I, X) 11 [none, none, none, none] [] := by
  unfold b_Mch_freePlace_11 at h
  refine g_iconst (pc := 11) (v := (-1)) (dd d_Mch_freePlace 6 rfl) (by decide) ?_
  cases h
  exact g_iret (pc := 12) rfl (dd d_Mch_freePlace 7 rfl) hT
def l_Mch_freePlace_17 (n : Nat) (x0 : Nat) (I : IM)  : Nat → Int32 → Int32 → Int32 → Option (Int32)
  | 0, _, _, _ => none
  | f + 1, x1, x2, x3 => if (96 : Int32) ≤ x3 then (some ((-1))) else (chk (inb x3 96) <| if (if (I (x0 + 5) x3.toNatClampNeg : Int32) = 0 then ((x2) + (1)) else 0 : Int32) = x1 then (some ((x3 - x1) + 1)) else ((l_Mch_freePlace_17 n x0 I  f) x1 (if (I (x0 + 5) x3.toNatClampNeg : Int32) = 0 then ((x2) + (1)) else 0) (x3 + 1)))
set_option maxRecDepth 20000 in
set_option maxHeartbeats 4000000 in
theorem gl_Mch_freePlace_17 {Δ : Dx} {X : Lx} {rl hd ot pt it : Nat} (hX : EX Δ X rl hd ot pt it) {x0 : Nat} (h_x0 : isMch x0) {n : Nat} {I : IM} {Γ : Cx} (hk : Γ.k = 0) {r : Int32} (hT : Tg Δ Γ (some (.int r)) NN (I, X) 0 0)  : ∀ (f : Nat) (x1 : Int32) (x2 : Int32) (x3 : Int32), l_Mch_freePlace_17 n x0 I  f x1 x2 x3 = some r → GG Δ m_Mch_freePlace Γ NN 0 0 (I, X) 17 [some (.ref (Δ.ba + x0)), some (.int (x1)), some (.int (x2)), some (.int (x3))] []
  | 0, _, _, _, h => by cases h
  | f + 1, x1, x2, x3, h => by
    have ih := gl_Mch_freePlace_17 (n := n) (x0 := x0) hX h_x0 hk hT  f
    rw [l_Mch_freePlace_17] at h
    refine g_iload_n (pc := 17) (dd d_Mch_freePlace 12 rfl) rfl ?_
    refine g_bipush (pc := 18) (v := 96) (dd d_Mch_freePlace 13 rfl) (by decide) ?_
    refine g_icmpge (pc := 20) (tgt := 57) (dd d_Mch_freePlace 14 rfl) (by decide) (fun q3 => ?_) (fun q3 => ?_)
    · replace h := ite_t h q3
      refine g_iconst (pc := 57) (v := (-1)) (dd d_Mch_freePlace 37 rfl) (by decide) ?_
      cases h
      exact g_iret (pc := 58) rfl (dd d_Mch_freePlace 38 rfl) hT
    · replace h := ite_f h q3
      refine g_aload_n (pc := 23) (dd d_Mch_freePlace 15 rfl) rfl ?_
      refine g_getr (pc := 24) (dd d_Mch_freePlace 16 rfl) f_Mch_24 (oc_Mch h_x0) rfl (rx_Mch_7 hX h_x0) ?_
      refine g_iload_n (pc := 27) (dd d_Mch_freePlace 17 rfl) rfl ?_
      obtain ⟨c4, h⟩ := chk_e h
      refine g_iald (pc := 28) (dd d_Mch_freePlace 18 rfl) (ax_Mch_7 h_x0) c4 ?_
      suffices K29 : ∀ z : Int32, z = (if (I (x0 + 5) x3.toNatClampNeg : Int32) = 0 then ((x2) + (1)) else 0 : Int32) → GG Δ m_Mch_freePlace Γ NN 0 0 (I, X) 39 [some (.ref (Δ.ba + x0)), some (.int (x1)), some (.int (x2)), some (.int (x3))] [.int (z)] by
        refine g_ifne (pc := 29) (tgt := 38) (dd d_Mch_freePlace 19 rfl) (by decide) (fun q5 => ?_) (fun q5 => ?_)
        · skip
          refine g_iconst (pc := 38) (v := 0) (dd d_Mch_freePlace 24 rfl) (by decide) ?_
          exact K29 _ (by rw [if_neg q5])
        · skip
          refine g_iload_n (pc := 32) (dd d_Mch_freePlace 20 rfl) rfl ?_
          refine g_iconst (pc := 33) (v := 1) (dd d_Mch_freePlace 21 rfl) (by decide) ?_
          refine g_iadd (pc := 34) (dd d_Mch_freePlace 22 rfl) ?_
          refine g_goto (pc := 35) (tgt := 39) (dd d_Mch_freePlace 23 rfl) (by decide) ?_
          exact K29 _ (by rw [if_pos q5])
      intro z hz
      subst hz
      refine g_istore_n (pc := 39) (dd d_Mch_freePlace 25 rfl) (by decide) ?_
      refine g_iload_n (pc := 40) (dd d_Mch_freePlace 26 rfl) rfl ?_
      refine g_iload_n (pc := 41) (dd d_Mch_freePlace 27 rfl) rfl ?_
      refine g_icmpne (pc := 42) (tgt := 51) (dd d_Mch_freePlace 28 rfl) (by decide) (fun q6 => ?_) (fun q6 => ?_)
      · replace h := ite_f h q6
        refine g_iincW (pc := 51) (w := 1) (dd d_Mch_freePlace 35 rfl) rfl (by decide) (by decide) ?_
        refine g_goto (pc := 54) (tgt := 17) (dd d_Mch_freePlace 36 rfl) (by decide) ?_
        exact ih _ _ _ h
      · replace h := ite_t h q6
        refine g_iload_n (pc := 45) (dd d_Mch_freePlace 29 rfl) rfl ?_
        refine g_iload_n (pc := 46) (dd d_Mch_freePlace 30 rfl) rfl ?_
        refine g_isub (pc := 47) (dd d_Mch_freePlace 31 rfl) ?_
        refine g_iconst (pc := 48) (v := 1) (dd d_Mch_freePlace 32 rfl) (by decide) ?_
        refine g_iadd (pc := 49) (dd d_Mch_freePlace 33 rfl) ?_
        cases h
        exact g_iret (pc := 50) rfl (dd d_Mch_freePlace 34 rfl) hT
def f_Mch_freePlace (n : Nat) (x0 : Nat) (x1 : Int32) (I : IM) : Option (Int32) := if x1 < (1 : Int32) then (b_Mch_freePlace_11 n x0 I  ) else (if x1 ≤ (16 : Int32) then (l_Mch_freePlace_17 n x0 I  n x1 0 0) else (b_Mch_freePlace_11 n x0 I  ))
set_option maxRecDepth 20000 in
set_option maxHeartbeats 4000000 in
theorem ef_Mch_freePlace {Δ : Dx} {X : Lx} {rl hd ot pt it : Nat} (hX : EX Δ X rl hd ot pt it) {n : Nat} {x0 : Nat} {x1 : Int32} (h_x0 : isMch x0) {I : IM}  {r : Int32} (h : f_Mch_freePlace n x0 x1 I = some r) : Ev Δ (0) m_Mch_freePlace [.ref (Δ.ba + x0), .int x1] (I, X) (some (.int r)) (I, X) := by
  refine ev_of (by decide) (Nat.le_of_ble_eq_true rfl) (fun Γ hk hR hT => ?_)
  change GG Δ m_Mch_freePlace Γ NN 0 0 (I, X) 0 [some (.ref (Δ.ba + x0)), some (.int (x1)), none, none] []
  unfold f_Mch_freePlace at h
  refine g_iload_n (pc := 0) (dd d_Mch_freePlace 0 rfl) rfl ?_
  refine g_iconst (pc := 1) (v := 1) (dd d_Mch_freePlace 1 rfl) (by decide) ?_
  refine g_icmplt (pc := 2) (tgt := 11) (dd d_Mch_freePlace 2 rfl) (by decide) (fun q1 => ?_) (fun q1 => ?_)
  · replace h := ite_t h q1
    refine g_drop [0, 1] ?_
    exact gb_Mch_freePlace_11 hX h_x0 hk hT  h
  · replace h := ite_f h q1
    refine g_iload_n (pc := 5) (dd d_Mch_freePlace 3 rfl) rfl ?_
    refine g_bipush (pc := 6) (v := 16) (dd d_Mch_freePlace 4 rfl) (by decide) ?_
    refine g_icmple (pc := 8) (tgt := 13) (dd d_Mch_freePlace 5 rfl) (by decide) (fun q2 => ?_) (fun q2 => ?_)
    · replace h := ite_t h q2
      refine g_iconst (pc := 13) (v := 0) (dd d_Mch_freePlace 8 rfl) (by decide) ?_
      refine g_istore_n (pc := 14) (dd d_Mch_freePlace 9 rfl) (by decide) ?_
      refine g_iconst (pc := 15) (v := 0) (dd d_Mch_freePlace 10 rfl) (by decide) ?_
      refine g_istore_n (pc := 16) (dd d_Mch_freePlace 11 rfl) (by decide) ?_
      exact gl_Mch_freePlace_17 hX h_x0 hk hT  _ _ _ _ h
    · replace h := ite_f h q2
      refine g_drop [0, 1] ?_
      exact gb_Mch_freePlace_11 hX h_x0 hk hT  h
def b_Stp_hindrance_40 (n : Nat) (x1 : Nat)   (I : IM) : Option (Int32 × IM) := if (I 35 4 : Int32) = (19 : Int32) then (chk (inb (I 35 6) 9) <| Option.bind (f_Mch_freePlace n x1 (I (x1 + 6) (I 35 6 : Int32).toNatClampNeg) I) fun v11 => lt (up I 35 10 (v11)) fun I13 => some (if (I13 35 10 : Int32) = ((-1) : Int32) then 4 else 0, I13)) else (some (0, I))
set_option maxRecDepth 20000 in
set_option maxHeartbeats 4000000 in
theorem gb_Stp_hindrance_40 {Δ : Dx} {X : Lx} {rl hd ot pt it : Nat} (hX : EX Δ X rl hd ot pt it) {x1 : Nat} (h_x1 : isMch x1) {n : Nat} {Γ : Cx} (hk : Γ.k = 1) {r : Int32 × IM} (hT : Tg Δ Γ (some (.int r.1)) NN (r.2, X) 0 0)   {I : IM} (h : b_Stp_hindrance_40 n x1   I = some r) : GG Δ m_Stp_hindrance Γ NN 0 0 (I, X) 40 [some (.ref (Δ.ba + 35)), some (.ref (Δ.ba + x1))] [] := by
  unfold b_Stp_hindrance_40 at h
  refine g_aload_n (pc := 40) (dd d_Stp_hindrance 21 rfl) rfl ?_
  refine g_geti (pc := 41) (dd d_Stp_hindrance 22 rfl) f_Stp_57 oc_Stp rfl ?_
  refine g_bipush (pc := 44) (v := 19) (dd d_Stp_hindrance 23 rfl) (by decide) ?_
  refine g_icmpne (pc := 46) (tgt := 80) (dd d_Stp_hindrance 24 rfl) (by decide) (fun q9 => ?_) (fun q9 => ?_)
  · replace h := ite_f h q9
    refine g_iconst (pc := 80) (v := 0) (dd d_Stp_hindrance 42 rfl) (by decide) ?_
    cases h
    exact g_iret (pc := 81) rfl (dd d_Stp_hindrance 43 rfl) hT
  · replace h := ite_t h q9
    refine g_aload_n (pc := 49) (dd d_Stp_hindrance 25 rfl) rfl ?_
    refine g_aload_n (pc := 50) (dd d_Stp_hindrance 26 rfl) rfl ?_
    refine g_aload_n (pc := 51) (dd d_Stp_hindrance 27 rfl) rfl ?_
    refine g_getr (pc := 52) (dd d_Stp_hindrance 28 rfl) f_Stp_73 (oc_Mch h_x1) rfl (rx_Mch_8 hX h_x1) ?_
    refine g_aload_n (pc := 55) (dd d_Stp_hindrance 29 rfl) rfl ?_
    refine g_geti (pc := 56) (dd d_Stp_hindrance 30 rfl) f_Stp_125 oc_Stp rfl ?_
    obtain ⟨c10, h⟩ := chk_e h
    refine g_iald (pc := 59) (dd d_Stp_hindrance 31 rfl) (ax_Mch_8 h_x1) c10 ?_
    obtain ⟨v11, e12, h⟩ := bnd_e h
    refine g_callV (pc := 60) (dd d_Stp_hindrance 32 rfl) v_Stp_185 (oc_Mch h_x1) rfl (ef_Mch_freePlace hX h_x1 e12) rfl (by omega) (Nat.le_of_ble_eq_true rfl) ⟨Nat.zero_le _, Nat.zero_le _⟩ rfl ?_
    refine g_putiN (pc := 63) (dd d_Stp_hindrance 33 rfl) f_Stp_189 fm_Stp_10 oc_Stp rfl (fun I13 hI13 => ?_)
    replace h := lt_e h hI13
    refine g_aload_n (pc := 66) (dd d_Stp_hindrance 34 rfl) rfl ?_
    refine g_geti (pc := 67) (dd d_Stp_hindrance 35 rfl) f_Stp_189 oc_Stp rfl ?_
    refine g_iconst (pc := 70) (v := (-1)) (dd d_Stp_hindrance 36 rfl) (by decide) ?_
    suffices K71 : ∀ z : Int32, z = (if (I13 35 10 : Int32) = ((-1) : Int32) then 4 else 0 : Int32) → GG Δ m_Stp_hindrance Γ NN 0 0 (I13, X) 79 [some (.ref (Δ.ba + 35)), some (.ref (Δ.ba + x1))] [.int (z)] by
      refine g_icmpne (pc := 71) (tgt := 78) (dd d_Stp_hindrance 37 rfl) (by decide) (fun q14 => ?_) (fun q14 => ?_)
      · skip
        refine g_iconst (pc := 78) (v := 0) (dd d_Stp_hindrance 40 rfl) (by decide) ?_
        exact K71 _ (by rw [if_neg q14])
      · skip
        refine g_iconst (pc := 74) (v := 4) (dd d_Stp_hindrance 38 rfl) (by decide) ?_
        refine g_goto (pc := 75) (tgt := 79) (dd d_Stp_hindrance 39 rfl) (by decide) ?_
        exact K71 _ (by rw [if_pos q14])
    intro z hz
    subst hz
    cases h
    exact g_iret (pc := 79) rfl (dd d_Stp_hindrance 41 rfl) hT
def b_Stp_hindrance_20 (n : Nat) (x1 : Nat)   (I : IM) : Option (Int32 × IM) := if (I 35 4 : Int32) = (18 : Int32) then (if (I (x1 + 13) (5 : Int32).toNatClampNeg : Int32) = 0 then (some (5, I)) else (b_Stp_hindrance_40 n x1  I)) else (b_Stp_hindrance_40 n x1  I)
set_option maxRecDepth 20000 in
set_option maxHeartbeats 4000000 in
theorem gb_Stp_hindrance_20 {Δ : Dx} {X : Lx} {rl hd ot pt it : Nat} (hX : EX Δ X rl hd ot pt it) {x1 : Nat} (h_x1 : isMch x1) {n : Nat} {Γ : Cx} (hk : Γ.k = 1) {r : Int32 × IM} (hT : Tg Δ Γ (some (.int r.1)) NN (r.2, X) 0 0)   {I : IM} (h : b_Stp_hindrance_20 n x1   I = some r) : GG Δ m_Stp_hindrance Γ NN 0 0 (I, X) 20 [some (.ref (Δ.ba + 35)), some (.ref (Δ.ba + x1))] [] := by
  unfold b_Stp_hindrance_20 at h
  refine g_aload_n (pc := 20) (dd d_Stp_hindrance 10 rfl) rfl ?_
  refine g_geti (pc := 21) (dd d_Stp_hindrance 11 rfl) f_Stp_57 oc_Stp rfl ?_
  refine g_bipush (pc := 24) (v := 18) (dd d_Stp_hindrance 12 rfl) (by decide) ?_
  refine g_icmpne (pc := 26) (tgt := 40) (dd d_Stp_hindrance 13 rfl) (by decide) (fun q7 => ?_) (fun q7 => ?_)
  · replace h := ite_f h q7
    exact gb_Stp_hindrance_40 hX h_x1 hk hT  h
  · replace h := ite_t h q7
    refine g_aload_n (pc := 29) (dd d_Stp_hindrance 14 rfl) rfl ?_
    refine g_getr (pc := 30) (dd d_Stp_hindrance 15 rfl) f_Stp_36 (oc_Mch h_x1) rfl (rx_Mch_15 hX h_x1) ?_
    refine g_iconst (pc := 33) (v := 5) (dd d_Stp_hindrance 16 rfl) (by decide) ?_
    refine g_iald (pc := 34) (dd d_Stp_hindrance 17 rfl) (ax_Mch_15 h_x1) (by rw [vp_in_iff]; decide) ?_
    refine g_ifne (pc := 35) (tgt := 40) (dd d_Stp_hindrance 18 rfl) (by decide) (fun q8 => ?_) (fun q8 => ?_)
    · replace h := ite_f h q8
      exact gb_Stp_hindrance_40 hX h_x1 hk hT  h
    · replace h := ite_t h q8
      refine g_iconst (pc := 38) (v := 5) (dd d_Stp_hindrance 19 rfl) (by decide) ?_
      cases h
      exact g_iret (pc := 39) rfl (dd d_Stp_hindrance 20 rfl) hT
def f_Stp_hindrance (n : Nat) (x1 : Nat) (I : IM) : Option (Int32 × IM) := Option.bind (f_Stp_reachesWord   I) fun v1 => if v1 = 0 then (b_Stp_hindrance_20 n x1  I) else (Option.bind (f_Mch_hasWord  x1 (I 35 9) I) fun v4 => if v4 = 0 then (some (2, I)) else (b_Stp_hindrance_20 n x1  I))
set_option maxRecDepth 20000 in
set_option maxHeartbeats 4000000 in
theorem ef_Stp_hindrance {Δ : Dx} {X : Lx} {rl hd ot pt it : Nat} (hX : EX Δ X rl hd ot pt it) {n : Nat} {x1 : Nat} (h_x1 : isMch x1) {I : IM}  {r : Int32 × IM} (h : f_Stp_hindrance n x1 I = some r) : Ev Δ (1) m_Stp_hindrance [.ref (Δ.ba + 35), .ref (Δ.ba + x1)] (I, X) (some (.int r.1)) (r.2, X) := by
  refine ev_of (by decide) (Nat.le_of_ble_eq_true rfl) (fun Γ hk hR hT => ?_)
  change GG Δ m_Stp_hindrance Γ NN 0 0 (I, X) 0 [some (.ref (Δ.ba + 35)), some (.ref (Δ.ba + x1))] []
  unfold f_Stp_hindrance at h
  refine g_aload_n (pc := 0) (dd d_Stp_hindrance 0 rfl) rfl ?_
  obtain ⟨v1, e2, h⟩ := bnd_e h
  refine g_callV (pc := 1) (dd d_Stp_hindrance 1 rfl) v_Stp_178 oc_Stp rfl (ef_Stp_reachesWord hX e2) rfl (by omega) (Nat.le_of_ble_eq_true rfl) ⟨Nat.zero_le _, Nat.zero_le _⟩ rfl ?_
  refine g_ifeq (pc := 4) (tgt := 20) (dd d_Stp_hindrance 2 rfl) (by decide) (fun q3 => ?_) (fun q3 => ?_)
  · replace h := ite_t h q3
    exact gb_Stp_hindrance_20 hX h_x1 hk hT  h
  · replace h := ite_f h q3
    refine g_aload_n (pc := 7) (dd d_Stp_hindrance 3 rfl) rfl ?_
    refine g_aload_n (pc := 8) (dd d_Stp_hindrance 4 rfl) rfl ?_
    refine g_geti (pc := 9) (dd d_Stp_hindrance 5 rfl) f_Stp_134 oc_Stp rfl ?_
    obtain ⟨v4, e5, h⟩ := bnd_e h
    refine g_callV (pc := 12) (dd d_Stp_hindrance 6 rfl) v_Stp_182 (oc_Mch h_x1) rfl (ef_Mch_hasWord hX h_x1 e5) rfl (by omega) (Nat.le_of_ble_eq_true rfl) ⟨Nat.zero_le _, Nat.zero_le _⟩ rfl ?_
    refine g_ifne (pc := 15) (tgt := 20) (dd d_Stp_hindrance 7 rfl) (by decide) (fun q6 => ?_) (fun q6 => ?_)
    · replace h := ite_f h q6
      exact gb_Stp_hindrance_20 hX h_x1 hk hT  h
    · replace h := ite_t h q6
      refine g_iconst (pc := 18) (v := 2) (dd d_Stp_hindrance 8 rfl) (by decide) ?_
      cases h
      exact g_iret (pc := 19) rfl (dd d_Stp_hindrance 9 rfl) hT
def b_Stp_settle_126 (x1 : Nat)   (I : IM) : Option (IM) := some I
set_option maxRecDepth 20000 in
set_option maxHeartbeats 4000000 in
theorem gb_Stp_settle_126 {Δ : Dx} {X : Lx} {rl hd ot pt it : Nat} (hX : EX Δ X rl hd ot pt it) {x1 : Nat} (h_x1 : isMch x1)  {Γ : Cx} (hk : Γ.k = 1) {r : IM} (hT : Tg Δ Γ none NN (r, X) 0 0)   {I : IM} (h : b_Stp_settle_126 x1   I = some r) : GG Δ m_Stp_settle Γ NN 0 0 (I, X) 126 [none, none, none, none] [] := by
  unfold b_Stp_settle_126 at h
  cases h
  exact g_vret (pc := 126) rfl (dd d_Stp_settle_1 9 rfl) hT
def b_Stp_settle_123 (x1 : Nat)  (y1 : Int32) (I : IM) : Option (IM) := lt (up I 35 14 (y1)) fun I14 => b_Stp_settle_126 x1  I14
set_option maxRecDepth 20000 in
set_option maxHeartbeats 4000000 in
theorem gb_Stp_settle_123 {Δ : Dx} {X : Lx} {rl hd ot pt it : Nat} (hX : EX Δ X rl hd ot pt it) {x1 : Nat} (h_x1 : isMch x1)  {Γ : Cx} (hk : Γ.k = 1) {r : IM} (hT : Tg Δ Γ none NN (r, X) 0 0)  {y1 : Int32} {I : IM} (h : b_Stp_settle_123 x1  y1 I = some r) : GG Δ m_Stp_settle Γ NN 0 0 (I, X) 123 [none, none, none, none] [.int (y1), .ref (Δ.ba + 35)] := by
  unfold b_Stp_settle_123 at h
  refine g_putiN (pc := 123) (dd d_Stp_settle_1 8 rfl) f_Stp_192 fm_Stp_14 oc_Stp rfl (fun I14 hI14 => ?_)
  replace h := lt_e h hI14
  exact gb_Stp_settle_126 hX h_x1 hk hT  h
def b_Stp_settle_122 (x1 : Nat)   (I : IM) : Option (IM) := b_Stp_settle_123 x1  0 I
set_option maxRecDepth 20000 in
set_option maxHeartbeats 4000000 in
theorem gb_Stp_settle_122 {Δ : Dx} {X : Lx} {rl hd ot pt it : Nat} (hX : EX Δ X rl hd ot pt it) {x1 : Nat} (h_x1 : isMch x1)  {Γ : Cx} (hk : Γ.k = 1) {r : IM} (hT : Tg Δ Γ none NN (r, X) 0 0)   {I : IM} (h : b_Stp_settle_122 x1   I = some r) : GG Δ m_Stp_settle Γ NN 0 0 (I, X) 122 [none, none, none, none] [.ref (Δ.ba + 35)] := by
  unfold b_Stp_settle_122 at h
  refine g_iconst (pc := 122) (v := 0) (dd d_Stp_settle_1 7 rfl) (by decide) ?_
  exact gb_Stp_settle_123 hX h_x1 hk hT  h
def b_Stp_settle_70 (x1 : Nat)  (x2 : Int32) (y1 : Int32) (I : IM) : Option (IM) := lt (up I 35 13 (y1)) fun I6 => if (x2 &&& 4 : Int32) = 0 then (if (I6 35 4 : Int32) = (12 : Int32) then (Option.bind (f_Mch_hasWord  x1 (I6 35 9) I6) fun v9 => if v9 = 0 then (b_Stp_settle_122 x1  I6) else (chk (inb (I6 35 9) 96) <| b_Stp_settle_123 x1  (I6 (x1 + 5) (I6 35 9 : Int32).toNatClampNeg) I6)) else (b_Stp_settle_122 x1  I6)) else (lt (up I6 35 14 (I6 37 (4 : Int32).toNatClampNeg)) fun I13 => b_Stp_settle_126 x1  I13)
set_option maxRecDepth 20000 in
set_option maxHeartbeats 4000000 in
theorem gb_Stp_settle_70 {Δ : Dx} {X : Lx} {rl hd ot pt it : Nat} (hX : EX Δ X rl hd ot pt it) {x1 : Nat} (h_x1 : isMch x1)  {Γ : Cx} (hk : Γ.k = 1) {r : IM} (hT : Tg Δ Γ none NN (r, X) 0 0)  {x2 : Int32} {y1 : Int32} {I : IM} (h : b_Stp_settle_70 x1  x2 y1 I = some r) : GG Δ m_Stp_settle Γ NN 0 0 (I, X) 70 [some (.ref (Δ.ba + 35)), some (.ref (Δ.ba + x1)), some (.int (x2)), some (.ref (Δ.ba + 37))] [.int (y1), .ref (Δ.ba + 35)] := by
  unfold b_Stp_settle_70 at h
  refine g_putiN (pc := 70) (dd d_Stp_settle 40 rfl) f_Stp_29 fm_Stp_13 oc_Stp rfl (fun I6 hI6 => ?_)
  replace h := lt_e h hI6
  refine g_iload_n (pc := 73) (dd d_Stp_settle 41 rfl) rfl ?_
  refine g_iconst (pc := 74) (v := 4) (dd d_Stp_settle 42 rfl) (by decide) ?_
  refine g_iand (pc := 75) (dd d_Stp_settle 43 rfl) ?_
  refine g_ifeq (pc := 76) (tgt := 89) (dd d_Stp_settle 44 rfl) (by decide) (fun q7 => ?_) (fun q7 => ?_)
  · replace h := ite_t h q7
    refine g_aload_n (pc := 89) (dd d_Stp_settle 51 rfl) rfl ?_
    refine g_aload_n (pc := 90) (dd d_Stp_settle 52 rfl) rfl ?_
    refine g_geti (pc := 91) (dd d_Stp_settle 53 rfl) f_Stp_57 oc_Stp rfl ?_
    refine g_bipush (pc := 94) (v := 12) (dd d_Stp_settle 54 rfl) (by decide) ?_
    refine g_icmpne (pc := 96) (tgt := 122) (dd d_Stp_settle 55 rfl) (by decide) (fun q8 => ?_) (fun q8 => ?_)
    · replace h := ite_f h q8
      refine g_drop [0, 1, 2, 3] ?_
      exact gb_Stp_settle_122 hX h_x1 hk hT  h
    · replace h := ite_t h q8
      refine g_aload_n (pc := 99) (dd d_Stp_settle 56 rfl) rfl ?_
      refine g_aload_n (pc := 100) (dd d_Stp_settle 57 rfl) rfl ?_
      refine g_geti (pc := 101) (dd d_Stp_settle 58 rfl) f_Stp_134 oc_Stp rfl ?_
      obtain ⟨v9, e10, h⟩ := bnd_e h
      refine g_callV (pc := 104) (dd d_Stp_settle 59 rfl) v_Stp_182 (oc_Mch h_x1) rfl (ef_Mch_hasWord hX h_x1 e10) rfl (by omega) (Nat.le_of_ble_eq_true rfl) ⟨Nat.zero_le _, Nat.zero_le _⟩ rfl ?_
      refine g_ifeq (pc := 107) (tgt := 122) (dd d_Stp_settle_1 0 rfl) (by decide) (fun q11 => ?_) (fun q11 => ?_)
      · replace h := ite_t h q11
        refine g_drop [0, 1, 2, 3] ?_
        exact gb_Stp_settle_122 hX h_x1 hk hT  h
      · replace h := ite_f h q11
        refine g_aload_n (pc := 110) (dd d_Stp_settle_1 1 rfl) rfl ?_
        refine g_getr (pc := 111) (dd d_Stp_settle_1 2 rfl) f_Stp_169 (oc_Mch h_x1) rfl (rx_Mch_7 hX h_x1) ?_
        refine g_aload_n (pc := 114) (dd d_Stp_settle_1 3 rfl) rfl ?_
        refine g_geti (pc := 115) (dd d_Stp_settle_1 4 rfl) f_Stp_134 oc_Stp rfl ?_
        obtain ⟨c12, h⟩ := chk_e h
        refine g_iald (pc := 118) (dd d_Stp_settle_1 5 rfl) (ax_Mch_7 h_x1) c12 ?_
        refine g_goto (pc := 119) (tgt := 123) (dd d_Stp_settle_1 6 rfl) (by decide) ?_
        refine g_drop [0, 1, 2, 3] ?_
        exact gb_Stp_settle_123 hX h_x1 hk hT  h
  · replace h := ite_f h q7
    refine g_aload_n (pc := 79) (dd d_Stp_settle 45 rfl) rfl ?_
    refine g_aload_n (pc := 80) (dd d_Stp_settle 46 rfl) rfl ?_
    refine g_iconst (pc := 81) (v := 4) (dd d_Stp_settle 47 rfl) (by decide) ?_
    refine g_iald (pc := 82) (dd d_Stp_settle 48 rfl) (ax_Wrk_0 (a := 36) (by decide)) (by rw [vp_in_iff]; decide) ?_
    refine g_putiN (pc := 83) (dd d_Stp_settle 49 rfl) f_Stp_192 fm_Stp_14 oc_Stp rfl (fun I13 hI13 => ?_)
    replace h := lt_e h hI13
    refine g_goto (pc := 86) (tgt := 126) (dd d_Stp_settle 50 rfl) (by decide) ?_
    refine g_drop [0, 1, 2, 3] ?_
    exact gb_Stp_settle_126 hX h_x1 hk hT  h
def b_Stp_settle_50 (x1 : Nat)  (x2 : Int32) (I : IM) : Option (IM) := if (x2 &&& 2 : Int32) = 0 then (b_Stp_settle_70 x1  x2 (I (x1 + 7) (8 : Int32).toNatClampNeg) I) else (b_Stp_settle_70 x1  x2 (I 37 (3 : Int32).toNatClampNeg) I)
set_option maxRecDepth 20000 in
set_option maxHeartbeats 4000000 in
theorem gb_Stp_settle_50 {Δ : Dx} {X : Lx} {rl hd ot pt it : Nat} (hX : EX Δ X rl hd ot pt it) {x1 : Nat} (h_x1 : isMch x1)  {Γ : Cx} (hk : Γ.k = 1) {r : IM} (hT : Tg Δ Γ none NN (r, X) 0 0)  {x2 : Int32} {I : IM} (h : b_Stp_settle_50 x1  x2 I = some r) : GG Δ m_Stp_settle Γ NN 0 0 (I, X) 50 [some (.ref (Δ.ba + 35)), some (.ref (Δ.ba + x1)), some (.int (x2)), some (.ref (Δ.ba + 37))] [] := by
  unfold b_Stp_settle_50 at h
  refine g_aload_n (pc := 50) (dd d_Stp_settle 27 rfl) rfl ?_
  refine g_iload_n (pc := 51) (dd d_Stp_settle 28 rfl) rfl ?_
  refine g_iconst (pc := 52) (v := 2) (dd d_Stp_settle 29 rfl) (by decide) ?_
  refine g_iand (pc := 53) (dd d_Stp_settle 30 rfl) ?_
  refine g_ifeq (pc := 54) (tgt := 63) (dd d_Stp_settle 31 rfl) (by decide) (fun q5 => ?_) (fun q5 => ?_)
  · replace h := ite_t h q5
    refine g_aload_n (pc := 63) (dd d_Stp_settle 36 rfl) rfl ?_
    refine g_getr (pc := 64) (dd d_Stp_settle 37 rfl) f_Stp_159 (oc_Mch h_x1) rfl (rx_Mch_9 hX h_x1) ?_
    refine g_bipush (pc := 67) (v := 8) (dd d_Stp_settle 38 rfl) (by decide) ?_
    refine g_iald (pc := 69) (dd d_Stp_settle 39 rfl) (ax_Mch_9 h_x1) (by rw [vp_in_iff]; decide) ?_
    exact gb_Stp_settle_70 hX h_x1 hk hT  h
  · replace h := ite_f h q5
    refine g_aload_n (pc := 57) (dd d_Stp_settle 32 rfl) rfl ?_
    refine g_iconst (pc := 58) (v := 3) (dd d_Stp_settle 33 rfl) (by decide) ?_
    refine g_iald (pc := 59) (dd d_Stp_settle 34 rfl) (ax_Wrk_0 (a := 36) (by decide)) (by rw [vp_in_iff]; decide) ?_
    refine g_goto (pc := 60) (tgt := 70) (dd d_Stp_settle 35 rfl) (by decide) ?_
    exact gb_Stp_settle_70 hX h_x1 hk hT  h
def b_Stp_settle_47 (x1 : Nat)  (x2 : Int32) (y1 : Int32) (I : IM) : Option (IM) := lt (up I 35 12 (y1)) fun I15 => b_Stp_settle_50 x1  x2 I15
set_option maxRecDepth 20000 in
set_option maxHeartbeats 4000000 in
theorem gb_Stp_settle_47 {Δ : Dx} {X : Lx} {rl hd ot pt it : Nat} (hX : EX Δ X rl hd ot pt it) {x1 : Nat} (h_x1 : isMch x1)  {Γ : Cx} (hk : Γ.k = 1) {r : IM} (hT : Tg Δ Γ none NN (r, X) 0 0)  {x2 : Int32} {y1 : Int32} {I : IM} (h : b_Stp_settle_47 x1  x2 y1 I = some r) : GG Δ m_Stp_settle Γ NN 0 0 (I, X) 47 [some (.ref (Δ.ba + 35)), some (.ref (Δ.ba + x1)), some (.int (x2)), some (.ref (Δ.ba + 37))] [.int (y1), .ref (Δ.ba + 35)] := by
  unfold b_Stp_settle_47 at h
  refine g_putiN (pc := 47) (dd d_Stp_settle 26 rfl) f_Stp_26 fm_Stp_12 oc_Stp rfl (fun I15 hI15 => ?_)
  replace h := lt_e h hI15
  exact gb_Stp_settle_50 hX h_x1 hk hT  h
def f_Stp_settle (x1 : Nat) (x2 : Int32) (I : IM) : Option (IM) := if (x2 &&& 1 : Int32) = 0 then (if (I 35 4 : Int32) = (21 : Int32) then (chk (inb (I 35 5) 9) <| b_Stp_settle_47 x1  x2 (I (x1 + 7) (I 35 5 : Int32).toNatClampNeg) I) else (b_Stp_settle_47 x1  x2 0 I)) else (lt (up I 35 12 (I 37 (2 : Int32).toNatClampNeg)) fun I4 => b_Stp_settle_50 x1  x2 I4)
set_option maxRecDepth 20000 in
set_option maxHeartbeats 4000000 in
theorem ef_Stp_settle {Δ : Dx} {X : Lx} {rl hd ot pt it : Nat} (hX : EX Δ X rl hd ot pt it) {x1 : Nat} {x2 : Int32} (h_x1 : isMch x1) {I : IM}  {r : IM} (h : f_Stp_settle x1 x2 I = some r) : Ev Δ (1) m_Stp_settle [.ref (Δ.ba + 35), .ref (Δ.ba + x1), .int x2] (I, X) none (r, X) := by
  refine ev_of (by decide) (Nat.le_of_ble_eq_true rfl) (fun Γ hk hR hT => ?_)
  change GG Δ m_Stp_settle Γ NN 0 0 (I, X) 0 [some (.ref (Δ.ba + 35)), some (.ref (Δ.ba + x1)), some (.int (x2)), none] []
  unfold f_Stp_settle at h
  refine g_aload_n (pc := 0) (dd d_Stp_settle 0 rfl) rfl ?_
  refine g_getr (pc := 1) (dd d_Stp_settle 1 rfl) f_Stp_12 oc_Stp rfl (rx_Stp_0 hX) ?_
  refine g_getr (pc := 4) (dd d_Stp_settle 2 rfl) f_Stp_102 (oc_Wrk (by decide)) rfl (rx_Wrk_0 (a := 36) hX (by decide)) ?_
  refine g_astore_n (pc := 7) (dd d_Stp_settle 3 rfl) (by decide) ?_
  refine g_iload_n (pc := 8) (dd d_Stp_settle 4 rfl) rfl ?_
  refine g_iconst (pc := 9) (v := 1) (dd d_Stp_settle 5 rfl) (by decide) ?_
  refine g_iand (pc := 10) (dd d_Stp_settle 6 rfl) ?_
  refine g_ifeq (pc := 11) (tgt := 24) (dd d_Stp_settle 7 rfl) (by decide) (fun q1 => ?_) (fun q1 => ?_)
  · replace h := ite_t h q1
    refine g_aload_n (pc := 24) (dd d_Stp_settle 14 rfl) rfl ?_
    refine g_aload_n (pc := 25) (dd d_Stp_settle 15 rfl) rfl ?_
    refine g_geti (pc := 26) (dd d_Stp_settle 16 rfl) f_Stp_57 oc_Stp rfl ?_
    refine g_bipush (pc := 29) (v := 21) (dd d_Stp_settle 17 rfl) (by decide) ?_
    refine g_icmpne (pc := 31) (tgt := 46) (dd d_Stp_settle 18 rfl) (by decide) (fun q2 => ?_) (fun q2 => ?_)
    · replace h := ite_f h q2
      refine g_iconst (pc := 46) (v := 0) (dd d_Stp_settle 25 rfl) (by decide) ?_
      exact gb_Stp_settle_47 hX h_x1 hk hT  h
    · replace h := ite_t h q2
      refine g_aload_n (pc := 34) (dd d_Stp_settle 19 rfl) rfl ?_
      refine g_getr (pc := 35) (dd d_Stp_settle 20 rfl) f_Stp_159 (oc_Mch h_x1) rfl (rx_Mch_9 hX h_x1) ?_
      refine g_aload_n (pc := 38) (dd d_Stp_settle 21 rfl) rfl ?_
      refine g_geti (pc := 39) (dd d_Stp_settle 22 rfl) f_Stp_122 oc_Stp rfl ?_
      obtain ⟨c3, h⟩ := chk_e h
      refine g_iald (pc := 42) (dd d_Stp_settle 23 rfl) (ax_Mch_9 h_x1) c3 ?_
      refine g_goto (pc := 43) (tgt := 47) (dd d_Stp_settle 24 rfl) (by decide) ?_
      exact gb_Stp_settle_47 hX h_x1 hk hT  h
  · replace h := ite_f h q1
    refine g_aload_n (pc := 14) (dd d_Stp_settle 8 rfl) rfl ?_
    refine g_aload_n (pc := 15) (dd d_Stp_settle 9 rfl) rfl ?_
    refine g_iconst (pc := 16) (v := 2) (dd d_Stp_settle 10 rfl) (by decide) ?_
    refine g_iald (pc := 17) (dd d_Stp_settle 11 rfl) (ax_Wrk_0 (a := 36) (by decide)) (by rw [vp_in_iff]; decide) ?_
    refine g_putiN (pc := 18) (dd d_Stp_settle 12 rfl) f_Stp_26 fm_Stp_12 oc_Stp rfl (fun I4 hI4 => ?_)
    replace h := lt_e h hI4
    refine g_goto (pc := 21) (tgt := 50) (dd d_Stp_settle 13 rfl) (by decide) ?_
    exact gb_Stp_settle_50 hX h_x1 hk hT  h
def b_Mch_putOut_24 (x0 : Nat)  (x2 : Int32) (I : IM) : Option (IM) := lt (up I (x0 + 13) (1 : Int32).toNatClampNeg (x2 + 1)) fun I5 => some I5
set_option maxRecDepth 20000 in
set_option maxHeartbeats 4000000 in
theorem gb_Mch_putOut_24 {Δ : Dx} {X : Lx} {rl hd ot pt it : Nat} (hX : EX Δ X rl hd ot pt it) {x0 : Nat} (h_x0 : isMch x0)  {Γ : Cx} (hk : Γ.k = 0) {r : IM} (hT : Tg Δ Γ none NN (r, X) 0 0)  {x2 : Int32} {I : IM} (h : b_Mch_putOut_24 x0  x2 I = some r) : GG Δ m_Mch_putOut Γ NN 0 0 (I, X) 24 [some (.ref (Δ.ba + x0)), none, some (.int (x2))] [] := by
  unfold b_Mch_putOut_24 at h
  refine g_aload_n (pc := 24) (dd d_Mch_putOut 15 rfl) rfl ?_
  refine g_getr (pc := 25) (dd d_Mch_putOut 16 rfl) f_Mch_48 (oc_Mch h_x0) rfl (rx_Mch_15 hX h_x0) ?_
  refine g_iconst (pc := 28) (v := 1) (dd d_Mch_putOut 17 rfl) (by decide) ?_
  refine g_iload_n (pc := 29) (dd d_Mch_putOut 18 rfl) rfl ?_
  refine g_iconst (pc := 30) (v := 1) (dd d_Mch_putOut 19 rfl) (by decide) ?_
  refine g_iadd (pc := 31) (dd d_Mch_putOut 20 rfl) ?_
  refine g_iastN (pc := 32) (dd d_Mch_putOut 21 rfl) (ax_Mch_15 h_x0) (by rw [vp_in_iff]; decide) (fun I5 hI5 => ?_)
  replace h := lt_e h hI5
  cases h
  exact g_vret (pc := 33) rfl (dd d_Mch_putOut 22 rfl) hT
def f_Mch_putOut (x0 : Nat) (x1 : Int32) (I : IM) : Option (IM) := if (I (x0 + 13) (1 : Int32).toNatClampNeg : Int32) < 0 then (b_Mch_putOut_24 x0  (I (x0 + 13) (1 : Int32).toNatClampNeg) I) else (if (40 : Int32) ≤ (I (x0 + 13) (1 : Int32).toNatClampNeg : Int32) then (b_Mch_putOut_24 x0  (I (x0 + 13) (1 : Int32).toNatClampNeg) I) else (chk (inb (I (x0 + 13) (1 : Int32).toNatClampNeg) 40) <| lt (up I (x0 + 10) (I (x0 + 13) (1 : Int32).toNatClampNeg : Int32).toNatClampNeg (x1)) fun I4 => b_Mch_putOut_24 x0  (I (x0 + 13) (1 : Int32).toNatClampNeg) I4))
set_option maxRecDepth 20000 in
set_option maxHeartbeats 4000000 in
theorem ef_Mch_putOut {Δ : Dx} {X : Lx} {rl hd ot pt it : Nat} (hX : EX Δ X rl hd ot pt it) {x0 : Nat} {x1 : Int32} (h_x0 : isMch x0) {I : IM}  {r : IM} (h : f_Mch_putOut x0 x1 I = some r) : Ev Δ (0) m_Mch_putOut [.ref (Δ.ba + x0), .int x1] (I, X) none (r, X) := by
  refine ev_of (by decide) (Nat.le_of_ble_eq_true rfl) (fun Γ hk hR hT => ?_)
  change GG Δ m_Mch_putOut Γ NN 0 0 (I, X) 0 [some (.ref (Δ.ba + x0)), some (.int (x1)), none] []
  unfold f_Mch_putOut at h
  refine g_aload_n (pc := 0) (dd d_Mch_putOut 0 rfl) rfl ?_
  refine g_getr (pc := 1) (dd d_Mch_putOut 1 rfl) f_Mch_48 (oc_Mch h_x0) rfl (rx_Mch_15 hX h_x0) ?_
  refine g_iconst (pc := 4) (v := 1) (dd d_Mch_putOut 2 rfl) (by decide) ?_
  refine g_iald (pc := 5) (dd d_Mch_putOut 3 rfl) (ax_Mch_15 h_x0) (by rw [vp_in_iff]; decide) ?_
  refine g_istore_n (pc := 6) (dd d_Mch_putOut 4 rfl) (by decide) ?_
  refine g_iload_n (pc := 7) (dd d_Mch_putOut 5 rfl) rfl ?_
  refine g_iflt (pc := 8) (tgt := 24) (dd d_Mch_putOut 6 rfl) (by decide) (fun q1 => ?_) (fun q1 => ?_)
  · replace h := ite_t h q1
    refine g_drop [1] ?_
    exact gb_Mch_putOut_24 hX h_x0 hk hT  h
  · replace h := ite_f h q1
    refine g_iload_n (pc := 11) (dd d_Mch_putOut 7 rfl) rfl ?_
    refine g_bipush (pc := 12) (v := 40) (dd d_Mch_putOut 8 rfl) (by decide) ?_
    refine g_icmpge (pc := 14) (tgt := 24) (dd d_Mch_putOut 9 rfl) (by decide) (fun q2 => ?_) (fun q2 => ?_)
    · replace h := ite_t h q2
      refine g_drop [1] ?_
      exact gb_Mch_putOut_24 hX h_x0 hk hT  h
    · replace h := ite_f h q2
      refine g_aload_n (pc := 17) (dd d_Mch_putOut 10 rfl) rfl ?_
      refine g_getr (pc := 18) (dd d_Mch_putOut 11 rfl) f_Mch_39 (oc_Mch h_x0) rfl (rx_Mch_12 hX h_x0) ?_
      refine g_iload_n (pc := 21) (dd d_Mch_putOut 12 rfl) rfl ?_
      refine g_iload_n (pc := 22) (dd d_Mch_putOut 13 rfl) rfl ?_
      obtain ⟨c3, h⟩ := chk_e h
      refine g_iastN (pc := 23) (dd d_Mch_putOut 14 rfl) (ax_Mch_12 h_x0) c3 (fun I4 hI4 => ?_)
      replace h := lt_e h hI4
      refine g_drop [1] ?_
      exact gb_Mch_putOut_24 hX h_x0 hk hT  h
def f_Mch_takeInput (x0 : Nat) (I : IM) : Option (Int32 × IM) := lt (cpy I (x0 + 8) (x0 + 8) (1 : Int32).toNatClampNeg (0 : Int32).toNatClampNeg (15 : Int32).toNatClampNeg) fun I1 => lt (cpy I1 (x0 + 9) (x0 + 9) (1 : Int32).toNatClampNeg (0 : Int32).toNatClampNeg (15 : Int32).toNatClampNeg) fun I2 => lt (up I2 (x0 + 13) (5 : Int32).toNatClampNeg ((I2 (x0 + 13) (5 : Int32).toNatClampNeg) - 1)) fun I3 => some (I (x0 + 8) (0 : Int32).toNatClampNeg, I3)
set_option maxRecDepth 20000 in
set_option maxHeartbeats 4000000 in
theorem ef_Mch_takeInput {Δ : Dx} {X : Lx} {rl hd ot pt it : Nat} (hX : EX Δ X rl hd ot pt it) {x0 : Nat} (h_x0 : isMch x0) {I : IM}  {r : Int32 × IM} (h : f_Mch_takeInput x0 I = some r) : Ev Δ (2) m_Mch_takeInput [.ref (Δ.ba + x0)] (I, X) (some (.int r.1)) (r.2, X) := by
  refine ev_of (by decide) (Nat.le_of_ble_eq_true rfl) (fun Γ hk hR hT => ?_)
  change GG Δ m_Mch_takeInput Γ NN 0 0 (I, X) 0 [some (.ref (Δ.ba + x0)), none] []
  unfold f_Mch_takeInput at h
  refine g_aload_n (pc := 0) (dd d_Mch_takeInput 0 rfl) rfl ?_
  refine g_getr (pc := 1) (dd d_Mch_takeInput 1 rfl) f_Mch_33 (oc_Mch h_x0) rfl (rx_Mch_10 hX h_x0) ?_
  refine g_iconst (pc := 4) (v := 0) (dd d_Mch_takeInput 2 rfl) (by decide) ?_
  refine g_iald (pc := 5) (dd d_Mch_takeInput 3 rfl) (ax_Mch_10 h_x0) (by rw [vp_in_iff]; decide) ?_
  refine g_istore_n (pc := 6) (dd d_Mch_takeInput 4 rfl) (by decide) ?_
  refine g_aload_n (pc := 7) (dd d_Mch_takeInput 5 rfl) rfl ?_
  refine g_getr (pc := 8) (dd d_Mch_takeInput 6 rfl) f_Mch_33 (oc_Mch h_x0) rfl (rx_Mch_10 hX h_x0) ?_
  refine g_iconst (pc := 11) (v := 1) (dd d_Mch_takeInput 7 rfl) (by decide) ?_
  refine g_aload_n (pc := 12) (dd d_Mch_takeInput 8 rfl) rfl ?_
  refine g_getr (pc := 13) (dd d_Mch_takeInput 9 rfl) f_Mch_33 (oc_Mch h_x0) rfl (rx_Mch_10 hX h_x0) ?_
  refine g_iconst (pc := 16) (v := 0) (dd d_Mch_takeInput 10 rfl) (by decide) ?_
  refine g_bipush (pc := 17) (v := 15) (dd d_Mch_takeInput 11 rfl) (by decide) ?_
  refine g_copyN (pc := 19) (dd d_Mch_takeInput 12 rfl) n_Mch_97 (by omega) (Nat.le_of_ble_eq_true rfl) (ax_Mch_10 h_x0) (ax_Mch_10 h_x0) (by decide) (by decide) (by decide) (by decide) (by decide) (fun I1 hI1 => ?_)
  replace h := lt_e h hI1
  refine g_aload_n (pc := 22) (dd d_Mch_takeInput 13 rfl) rfl ?_
  refine g_getr (pc := 23) (dd d_Mch_takeInput 14 rfl) f_Mch_36 (oc_Mch h_x0) rfl (rx_Mch_11 hX h_x0) ?_
  refine g_iconst (pc := 26) (v := 1) (dd d_Mch_takeInput 15 rfl) (by decide) ?_
  refine g_aload_n (pc := 27) (dd d_Mch_takeInput 16 rfl) rfl ?_
  refine g_getr (pc := 28) (dd d_Mch_takeInput 17 rfl) f_Mch_36 (oc_Mch h_x0) rfl (rx_Mch_11 hX h_x0) ?_
  refine g_iconst (pc := 31) (v := 0) (dd d_Mch_takeInput 18 rfl) (by decide) ?_
  refine g_bipush (pc := 32) (v := 15) (dd d_Mch_takeInput 19 rfl) (by decide) ?_
  refine g_copyN (pc := 34) (dd d_Mch_takeInput 20 rfl) n_Mch_97 (by omega) (Nat.le_of_ble_eq_true rfl) (ax_Mch_11 h_x0) (ax_Mch_11 h_x0) (by decide) (by decide) (by decide) (by decide) (by decide) (fun I2 hI2 => ?_)
  replace h := lt_e h hI2
  refine g_aload_n (pc := 37) (dd d_Mch_takeInput 21 rfl) rfl ?_
  refine g_getr (pc := 38) (dd d_Mch_takeInput 22 rfl) f_Mch_48 (oc_Mch h_x0) rfl (rx_Mch_15 hX h_x0) ?_
  refine g_iconst (pc := 41) (v := 5) (dd d_Mch_takeInput 23 rfl) (by decide) ?_
  refine g_dup2 (pc := 42) (dd d_Mch_takeInput 24 rfl) rfl rfl ?_
  refine g_iald (pc := 43) (dd d_Mch_takeInput 25 rfl) (ax_Mch_15 h_x0) (by rw [vp_in_iff]; decide) ?_
  refine g_iconst (pc := 44) (v := 1) (dd d_Mch_takeInput 26 rfl) (by decide) ?_
  refine g_isub (pc := 45) (dd d_Mch_takeInput 27 rfl) ?_
  refine g_iastN (pc := 46) (dd d_Mch_takeInput 28 rfl) (ax_Mch_15 h_x0) (by rw [vp_in_iff]; decide) (fun I3 hI3 => ?_)
  replace h := lt_e h hI3
  refine g_iload_n (pc := 47) (dd d_Mch_takeInput 29 rfl) rfl ?_
  cases h
  exact g_iret (pc := 48) rfl (dd d_Mch_takeInput 30 rfl) hT
def b_Mch_handOut_33 (n : Nat) (x0 : Nat)   (I : IM) : Option (IM) := some I
set_option maxRecDepth 20000 in
set_option maxHeartbeats 4000000 in
theorem gb_Mch_handOut_33 {Δ : Dx} {X : Lx} {rl hd ot pt it : Nat} (hX : EX Δ X rl hd ot pt it) {x0 : Nat} (h_x0 : isMch x0) {n : Nat} {Γ : Cx} (hk : Γ.k = 2) {r : IM} (hT : Tg Δ Γ none NN (r, X) 0 0)   {I : IM} (h : b_Mch_handOut_33 n x0   I = some r) : GG Δ m_Mch_handOut Γ NN 0 0 (I, X) 33 [none, none, none, none, none] [] := by
  unfold b_Mch_handOut_33 at h
  cases h
  exact g_vret (pc := 33) rfl (dd d_Mch_handOut 18 rfl) hT
def l_Mch_handOut_3 (n : Nat) (x0 : Nat)  : Nat → Int32 → Int32 → Int32 → Int32 → IM → Option (IM)
  | 0, _, _, _, _, _ => none
  | f + 1, x1, x2, x3, x4, I => if x2 ≤ x4 then (b_Mch_handOut_33 n x0  I) else (if (16 : Int32) ≤ x4 then (b_Mch_handOut_33 n x0  I) else (Option.bind (f_Mch_setWord  x0 (x1 + x4) 0 0 x3 I) fun v3 => (l_Mch_handOut_3 n x0  f) x1 x2 x3 (x4 + 1) v3))
set_option maxRecDepth 20000 in
set_option maxHeartbeats 4000000 in
theorem gl_Mch_handOut_3 {Δ : Dx} {X : Lx} {rl hd ot pt it : Nat} (hX : EX Δ X rl hd ot pt it) {x0 : Nat} (h_x0 : isMch x0) {n : Nat} {Γ : Cx} (hk : Γ.k = 2) {r : IM} (hT : Tg Δ Γ none NN (r, X) 0 0)  : ∀ (f : Nat) (x1 : Int32) (x2 : Int32) (x3 : Int32) (x4 : Int32) (I : IM), l_Mch_handOut_3 n x0  f x1 x2 x3 x4 I = some r → GG Δ m_Mch_handOut Γ NN 0 0 (I, X) 3 [some (.ref (Δ.ba + x0)), some (.int (x1)), some (.int (x2)), some (.int (x3)), some (.int (x4))] []
  | 0, _, _, _, _, _, h => by cases h
  | f + 1, x1, x2, x3, x4, I, h => by
    have ih := gl_Mch_handOut_3 (n := n) (x0 := x0) hX h_x0 hk hT  f
    rw [l_Mch_handOut_3] at h
    refine g_iload (pc := 3) (dd d_Mch_handOut 2 rfl) rfl ?_
    refine g_iload_n (pc := 5) (dd d_Mch_handOut 3 rfl) rfl ?_
    refine g_icmpge (pc := 6) (tgt := 33) (dd d_Mch_handOut 4 rfl) (by decide) (fun q1 => ?_) (fun q1 => ?_)
    · replace h := ite_t h q1
      refine g_drop [0, 1, 2, 3, 4] ?_
      exact gb_Mch_handOut_33 hX h_x0 hk hT  h
    · replace h := ite_f h q1
      refine g_iload (pc := 9) (dd d_Mch_handOut 5 rfl) rfl ?_
      refine g_bipush (pc := 11) (v := 16) (dd d_Mch_handOut 6 rfl) (by decide) ?_
      refine g_icmpge (pc := 13) (tgt := 33) (dd d_Mch_handOut 7 rfl) (by decide) (fun q2 => ?_) (fun q2 => ?_)
      · replace h := ite_t h q2
        refine g_drop [0, 1, 2, 3, 4] ?_
        exact gb_Mch_handOut_33 hX h_x0 hk hT  h
      · replace h := ite_f h q2
        refine g_aload_n (pc := 16) (dd d_Mch_handOut 8 rfl) rfl ?_
        refine g_iload_n (pc := 17) (dd d_Mch_handOut 9 rfl) rfl ?_
        refine g_iload (pc := 18) (dd d_Mch_handOut 10 rfl) rfl ?_
        refine g_iadd (pc := 20) (dd d_Mch_handOut 11 rfl) ?_
        refine g_iconst (pc := 21) (v := 0) (dd d_Mch_handOut 12 rfl) (by decide) ?_
        refine g_iconst (pc := 22) (v := 0) (dd d_Mch_handOut 13 rfl) (by decide) ?_
        refine g_iload_n (pc := 23) (dd d_Mch_handOut 14 rfl) rfl ?_
        obtain ⟨v3, e4, h⟩ := bnd_e h
        refine g_callV (pc := 24) (dd d_Mch_handOut 15 rfl) v_Mch_109 (oc_Mch h_x0) rfl (ef_Mch_setWord hX h_x0 e4) rfl (by omega) (Nat.le_of_ble_eq_true rfl) ⟨Nat.zero_le _, Nat.zero_le _⟩ rfl ?_
        refine g_iincW (pc := 27) (w := 1) (dd d_Mch_handOut 16 rfl) rfl (by decide) (by decide) ?_
        refine g_goto (pc := 30) (tgt := 3) (dd d_Mch_handOut 17 rfl) (by decide) ?_
        exact ih _ _ _ _ _ h
def f_Mch_handOut (n : Nat) (x0 : Nat) (x1 : Int32) (x2 : Int32) (x3 : Int32) (I : IM) : Option (IM) := l_Mch_handOut_3 n x0  n x1 x2 x3 0 I
set_option maxRecDepth 20000 in
set_option maxHeartbeats 4000000 in
theorem ef_Mch_handOut {Δ : Dx} {X : Lx} {rl hd ot pt it : Nat} (hX : EX Δ X rl hd ot pt it) {n : Nat} {x0 : Nat} {x1 : Int32} {x2 : Int32} {x3 : Int32} (h_x0 : isMch x0) {I : IM}  {r : IM} (h : f_Mch_handOut n x0 x1 x2 x3 I = some r) : Ev Δ (2) m_Mch_handOut [.ref (Δ.ba + x0), .int x1, .int x2, .int x3] (I, X) none (r, X) := by
  refine ev_of (by decide) (Nat.le_of_ble_eq_true rfl) (fun Γ hk hR hT => ?_)
  change GG Δ m_Mch_handOut Γ NN 0 0 (I, X) 0 [some (.ref (Δ.ba + x0)), some (.int (x1)), some (.int (x2)), some (.int (x3)), none] []
  unfold f_Mch_handOut at h
  refine g_iconst (pc := 0) (v := 0) (dd d_Mch_handOut 0 rfl) (by decide) ?_
  refine g_istore (pc := 1) (dd d_Mch_handOut 1 rfl) (by decide) ?_
  exact gl_Mch_handOut_3 hX h_x0 hk hT  _ _ _ _ _ _ h
def b_Mch_free_25 (n : Nat) (x0 : Nat) (H2 : Int32 → Int32 → IM → Option (IM)) (x1 : Int32) (x2 : Int32) (I : IM) : Option (IM) := H2 x1 (x2 + 1) I
set_option maxRecDepth 20000 in
set_option maxHeartbeats 4000000 in
theorem gb_Mch_free_25 {Δ : Dx} {X : Lx} {rl hd ot pt it : Nat} (hX : EX Δ X rl hd ot pt it) {x0 : Nat} (h_x0 : isMch x0) {n : Nat} {Γ : Cx} (hk : Γ.k = 0) {r : IM} (hT : Tg Δ Γ none NN (r, X) 0 0) {H2 : Int32 → Int32 → IM → Option (IM)} (hH2 : ∀ (x1 : Int32) (x2 : Int32) (I : IM), H2 x1 x2 I = some r → GG Δ m_Mch_free Γ NN 0 0 (I, X) 2 [some (.ref (Δ.ba + x0)), some (.int (x1)), some (.int (x2))] []) {x1 : Int32} {x2 : Int32} {I : IM} (h : b_Mch_free_25 n x0 H2 x1 x2 I = some r) : GG Δ m_Mch_free Γ NN 0 0 (I, X) 25 [some (.ref (Δ.ba + x0)), some (.int (x1)), some (.int (x2))] [] := by
  unfold b_Mch_free_25 at h
  refine g_iincW (pc := 25) (w := 1) (dd d_Mch_free 16 rfl) rfl (by decide) (by decide) ?_
  refine g_goto (pc := 28) (tgt := 2) (dd d_Mch_free 17 rfl) (by decide) ?_
  exact hH2 _ _ _ h
def l_Mch_free_2 (n : Nat) (x0 : Nat)  : Nat → Int32 → Int32 → IM → Option (IM)
  | 0, _, _, _ => none
  | f + 1, x1, x2, I => if (96 : Int32) ≤ x2 then (some I) else (chk (inb x2 96) <| if (I (x0 + 5) x2.toNatClampNeg : Int32) = x1 then (lt (up I (x0 + 5) x2.toNatClampNeg (0)) fun I4 => b_Mch_free_25 n x0 (l_Mch_free_2 n x0  f) x1 x2 I4) else (b_Mch_free_25 n x0 (l_Mch_free_2 n x0  f) x1 x2 I))
set_option maxRecDepth 20000 in
set_option maxHeartbeats 4000000 in
theorem gl_Mch_free_2 {Δ : Dx} {X : Lx} {rl hd ot pt it : Nat} (hX : EX Δ X rl hd ot pt it) {x0 : Nat} (h_x0 : isMch x0) {n : Nat} {Γ : Cx} (hk : Γ.k = 0) {r : IM} (hT : Tg Δ Γ none NN (r, X) 0 0)  : ∀ (f : Nat) (x1 : Int32) (x2 : Int32) (I : IM), l_Mch_free_2 n x0  f x1 x2 I = some r → GG Δ m_Mch_free Γ NN 0 0 (I, X) 2 [some (.ref (Δ.ba + x0)), some (.int (x1)), some (.int (x2))] []
  | 0, _, _, _, h => by cases h
  | f + 1, x1, x2, I, h => by
    have ih := gl_Mch_free_2 (n := n) (x0 := x0) hX h_x0 hk hT  f
    rw [l_Mch_free_2] at h
    refine g_iload_n (pc := 2) (dd d_Mch_free 2 rfl) rfl ?_
    refine g_bipush (pc := 3) (v := 96) (dd d_Mch_free 3 rfl) (by decide) ?_
    refine g_icmpge (pc := 5) (tgt := 31) (dd d_Mch_free 4 rfl) (by decide) (fun q1 => ?_) (fun q1 => ?_)
    · replace h := ite_t h q1
      cases h
      exact g_vret (pc := 31) rfl (dd d_Mch_free 18 rfl) hT
    · replace h := ite_f h q1
      refine g_aload_n (pc := 8) (dd d_Mch_free 5 rfl) rfl ?_
      refine g_getr (pc := 9) (dd d_Mch_free 6 rfl) f_Mch_24 (oc_Mch h_x0) rfl (rx_Mch_7 hX h_x0) ?_
      refine g_iload_n (pc := 12) (dd d_Mch_free 7 rfl) rfl ?_
      obtain ⟨c2, h⟩ := chk_e h
      refine g_iald (pc := 13) (dd d_Mch_free 8 rfl) (ax_Mch_7 h_x0) c2 ?_
      refine g_iload_n (pc := 14) (dd d_Mch_free 9 rfl) rfl ?_
      refine g_icmpne (pc := 15) (tgt := 25) (dd d_Mch_free 10 rfl) (by decide) (fun q3 => ?_) (fun q3 => ?_)
      · replace h := ite_f h q3
        exact gb_Mch_free_25 hX h_x0 hk hT ih h
      · replace h := ite_t h q3
        refine g_aload_n (pc := 18) (dd d_Mch_free 11 rfl) rfl ?_
        refine g_getr (pc := 19) (dd d_Mch_free 12 rfl) f_Mch_24 (oc_Mch h_x0) rfl (rx_Mch_7 hX h_x0) ?_
        refine g_iload_n (pc := 22) (dd d_Mch_free 13 rfl) rfl ?_
        refine g_iconst (pc := 23) (v := 0) (dd d_Mch_free 14 rfl) (by decide) ?_
        refine g_iastN (pc := 24) (dd d_Mch_free 15 rfl) (ax_Mch_7 h_x0) c2 (fun I4 hI4 => ?_)
        replace h := lt_e h hI4
        exact gb_Mch_free_25 hX h_x0 hk hT ih h
def f_Mch_free (n : Nat) (x0 : Nat) (x1 : Int32) (I : IM) : Option (IM) := l_Mch_free_2 n x0  n x1 0 I
set_option maxRecDepth 20000 in
set_option maxHeartbeats 4000000 in
theorem ef_Mch_free {Δ : Dx} {X : Lx} {rl hd ot pt it : Nat} (hX : EX Δ X rl hd ot pt it) {n : Nat} {x0 : Nat} {x1 : Int32} (h_x0 : isMch x0) {I : IM}  {r : IM} (h : f_Mch_free n x0 x1 I = some r) : Ev Δ (0) m_Mch_free [.ref (Δ.ba + x0), .int x1] (I, X) none (r, X) := by
  refine ev_of (by decide) (Nat.le_of_ble_eq_true rfl) (fun Γ hk hR hT => ?_)
  change GG Δ m_Mch_free Γ NN 0 0 (I, X) 0 [some (.ref (Δ.ba + x0)), some (.int (x1)), none] []
  unfold f_Mch_free at h
  refine g_iconst (pc := 0) (v := 0) (dd d_Mch_free 0 rfl) (by decide) ?_
  refine g_istore_n (pc := 1) (dd d_Mch_free 1 rfl) (by decide) ?_
  exact gl_Mch_free_2 hX h_x0 hk hT  _ _ _ _ h
def b_Stp_result_161 (x1 : Nat) (I : IM)  (y0 : Int32) : Option (Int32) := some (y0)
set_option maxRecDepth 20000 in
set_option maxHeartbeats 4000000 in
theorem gb_Stp_result_161 {Δ : Dx} {X : Lx} {rl hd ot pt it : Nat} (hX : EX Δ X rl hd ot pt it) {x1 : Nat} (h_x1 : isMch x1) {I : IM} {Γ : Cx} (hk : Γ.k = 1) {r : Int32} (hT : Tg Δ Γ (some (.int r)) NN (I, X) 0 0)  {y0 : Int32} (h : b_Stp_result_161 x1 I  y0 = some r) : GG Δ m_Stp_result Γ NN 0 0 (I, X) 161 [none, none, none, none] [.int (y0)] := by
  unfold b_Stp_result_161 at h
  cases h
  exact g_iret (pc := 161) rfl (dd d_Stp_result_1 10 rfl) hT
def f_Stp_result (x1 : Nat) (I : IM) : Option (Int32) := chk (inb (I 35 6) 9) <| chk (inb (I 35 7) 9) <| if (I 35 4 : Int32) = 1 then (some (I 35 8)) else (if (I 35 4 : Int32) = 2 then (some (I (x1 + 6) (I 35 6 : Int32).toNatClampNeg)) else (if (I 35 4 : Int32) = 3 then (some ((I (x1 + 6) (I 35 6 : Int32).toNatClampNeg) + (I (x1 + 6) (I 35 7 : Int32).toNatClampNeg))) else (if (I 35 4 : Int32) = 4 then (some ((I (x1 + 6) (I 35 6 : Int32).toNatClampNeg) - (I (x1 + 6) (I 35 7 : Int32).toNatClampNeg))) else (if (I 35 4 : Int32) = 5 then (some ((I (x1 + 6) (I 35 6 : Int32).toNatClampNeg) * (I (x1 + 6) (I 35 7 : Int32).toNatClampNeg))) else (if (I 35 4 : Int32) = 6 then (some ((I (x1 + 6) (I 35 6 : Int32).toNatClampNeg) &&& (I (x1 + 6) (I 35 7 : Int32).toNatClampNeg))) else (if (I 35 4 : Int32) = 7 then (some ((I (x1 + 6) (I 35 6 : Int32).toNatClampNeg) ||| (I (x1 + 6) (I 35 7 : Int32).toNatClampNeg))) else (if (I 35 4 : Int32) = 8 then (some ((I (x1 + 6) (I 35 6 : Int32).toNatClampNeg) ^^^ (I (x1 + 6) (I 35 7 : Int32).toNatClampNeg))) else (if (I 35 4 : Int32) = 9 then (some (if (I (x1 + 6) (I 35 7 : Int32).toNatClampNeg : Int32) ≤ (I (x1 + 6) (I 35 6 : Int32).toNatClampNeg : Int32) then 0 else 1)) else (if (I 35 4 : Int32) = 10 then (some (if (I (x1 + 6) (I 35 6 : Int32).toNatClampNeg : Int32) = (I (x1 + 6) (I 35 7 : Int32).toNatClampNeg : Int32) then 1 else 0)) else (if (I 35 4 : Int32) = 11 then (Option.bind (f_Mch_hasWord  x1 (I 35 9) I) fun v6 => if v6 = 0 then (b_Stp_result_161 x1 I  0) else (chk (inb (I 35 9) 96) <| b_Stp_result_161 x1 I  (I (x1 + 3) (I 35 9 : Int32).toNatClampNeg))) else (chk (inb (I 35 5) 9) <| some (I (x1 + 6) (I 35 5 : Int32).toNatClampNeg))))))))))))
set_option maxRecDepth 20000 in
set_option maxHeartbeats 4000000 in
theorem ef_Stp_result {Δ : Dx} {X : Lx} {rl hd ot pt it : Nat} (hX : EX Δ X rl hd ot pt it) {x1 : Nat} (h_x1 : isMch x1) {I : IM}  {r : Int32} (h : f_Stp_result x1 I = some r) : Ev Δ (1) m_Stp_result [.ref (Δ.ba + 35), .ref (Δ.ba + x1)] (I, X) (some (.int r)) (I, X) := by
  refine ev_of (by decide) (Nat.le_of_ble_eq_true rfl) (fun Γ hk hR hT => ?_)
  change GG Δ m_Stp_result Γ NN 0 0 (I, X) 0 [some (.ref (Δ.ba + 35)), some (.ref (Δ.ba + x1)), none, none] []
  unfold f_Stp_result at h
  refine g_aload_n (pc := 0) (dd d_Stp_result 0 rfl) rfl ?_
  refine g_getr (pc := 1) (dd d_Stp_result 1 rfl) f_Stp_73 (oc_Mch h_x1) rfl (rx_Mch_8 hX h_x1) ?_
  refine g_aload_n (pc := 4) (dd d_Stp_result 2 rfl) rfl ?_
  refine g_geti (pc := 5) (dd d_Stp_result 3 rfl) f_Stp_125 oc_Stp rfl ?_
  obtain ⟨c1, h⟩ := chk_e h
  refine g_iald (pc := 8) (dd d_Stp_result 4 rfl) (ax_Mch_8 h_x1) c1 ?_
  refine g_istore_n (pc := 9) (dd d_Stp_result 5 rfl) (by decide) ?_
  refine g_aload_n (pc := 10) (dd d_Stp_result 6 rfl) rfl ?_
  refine g_getr (pc := 11) (dd d_Stp_result 7 rfl) f_Stp_73 (oc_Mch h_x1) rfl (rx_Mch_8 hX h_x1) ?_
  refine g_aload_n (pc := 14) (dd d_Stp_result 8 rfl) rfl ?_
  refine g_geti (pc := 15) (dd d_Stp_result 9 rfl) f_Stp_128 oc_Stp rfl ?_
  obtain ⟨c2, h⟩ := chk_e h
  refine g_iald (pc := 18) (dd d_Stp_result 10 rfl) (ax_Mch_8 h_x1) c2 ?_
  refine g_istore_n (pc := 19) (dd d_Stp_result 11 rfl) (by decide) ?_
  refine g_aload_n (pc := 20) (dd d_Stp_result 12 rfl) rfl ?_
  refine g_geti (pc := 21) (dd d_Stp_result 13 rfl) f_Stp_57 oc_Stp rfl ?_
  refine g_tableC (pc := 24) (dd d_Stp_result 14 rfl) (fun i off ho w3 => ?_) (by decide) (fun w3 => ⟨162, by decide, ?_⟩)
  · rcases i with _ | _ | _ | _ | _ | _ | _ | _ | _ | _ | _ | i
    · obtain rfl : off = 60 := (Option.some.inj ho).symm
      refine ⟨84, by decide, ?_⟩
      replace w3 : (I 35 4 : Int32) = 1 := Int32.toInt_inj.mp w3
      replace h := ite_t h w3
      refine g_aload_n (pc := 84) (dd d_Stp_result 15 rfl) rfl ?_
      refine g_geti (pc := 85) (dd d_Stp_result 16 rfl) f_Stp_131 oc_Stp rfl ?_
      cases h
      exact g_iret (pc := 88) rfl (dd d_Stp_result 17 rfl) hT
    · obtain rfl : off = 65 := (Option.some.inj ho).symm
      refine ⟨89, by decide, ?_⟩
      replace w3 : (I 35 4 : Int32) = 2 := Int32.toInt_inj.mp w3
      replace h := ite_f h (by rw [w3]; decide)
      replace h := ite_t h w3
      refine g_iload_n (pc := 89) (dd d_Stp_result 18 rfl) rfl ?_
      cases h
      exact g_iret (pc := 90) rfl (dd d_Stp_result 19 rfl) hT
    · obtain rfl : off = 67 := (Option.some.inj ho).symm
      refine ⟨91, by decide, ?_⟩
      replace w3 : (I 35 4 : Int32) = 3 := Int32.toInt_inj.mp w3
      replace h := ite_f h (by rw [w3]; decide)
      replace h := ite_f h (by rw [w3]; decide)
      replace h := ite_t h w3
      refine g_iload_n (pc := 91) (dd d_Stp_result 20 rfl) rfl ?_
      refine g_iload_n (pc := 92) (dd d_Stp_result 21 rfl) rfl ?_
      refine g_iadd (pc := 93) (dd d_Stp_result 22 rfl) ?_
      cases h
      exact g_iret (pc := 94) rfl (dd d_Stp_result 23 rfl) hT
    · obtain rfl : off = 71 := (Option.some.inj ho).symm
      refine ⟨95, by decide, ?_⟩
      replace w3 : (I 35 4 : Int32) = 4 := Int32.toInt_inj.mp w3
      replace h := ite_f h (by rw [w3]; decide)
      replace h := ite_f h (by rw [w3]; decide)
      replace h := ite_f h (by rw [w3]; decide)
      replace h := ite_t h w3
      refine g_iload_n (pc := 95) (dd d_Stp_result 24 rfl) rfl ?_
      refine g_iload_n (pc := 96) (dd d_Stp_result 25 rfl) rfl ?_
      refine g_isub (pc := 97) (dd d_Stp_result 26 rfl) ?_
      cases h
      exact g_iret (pc := 98) rfl (dd d_Stp_result 27 rfl) hT
    · obtain rfl : off = 75 := (Option.some.inj ho).symm
      refine ⟨99, by decide, ?_⟩
      replace w3 : (I 35 4 : Int32) = 5 := Int32.toInt_inj.mp w3
      replace h := ite_f h (by rw [w3]; decide)
      replace h := ite_f h (by rw [w3]; decide)
      replace h := ite_f h (by rw [w3]; decide)
      replace h := ite_f h (by rw [w3]; decide)
      replace h := ite_t h w3
      refine g_iload_n (pc := 99) (dd d_Stp_result 28 rfl) rfl ?_
      refine g_iload_n (pc := 100) (dd d_Stp_result 29 rfl) rfl ?_
      refine g_imul (pc := 101) (dd d_Stp_result 30 rfl) ?_
      cases h
      exact g_iret (pc := 102) rfl (dd d_Stp_result 31 rfl) hT
    · obtain rfl : off = 79 := (Option.some.inj ho).symm
      refine ⟨103, by decide, ?_⟩
      replace w3 : (I 35 4 : Int32) = 6 := Int32.toInt_inj.mp w3
      replace h := ite_f h (by rw [w3]; decide)
      replace h := ite_f h (by rw [w3]; decide)
      replace h := ite_f h (by rw [w3]; decide)
      replace h := ite_f h (by rw [w3]; decide)
      replace h := ite_f h (by rw [w3]; decide)
      replace h := ite_t h w3
      refine g_iload_n (pc := 103) (dd d_Stp_result 32 rfl) rfl ?_
      refine g_iload_n (pc := 104) (dd d_Stp_result 33 rfl) rfl ?_
      refine g_iand (pc := 105) (dd d_Stp_result 34 rfl) ?_
      cases h
      exact g_iret (pc := 106) rfl (dd d_Stp_result 35 rfl) hT
    · obtain rfl : off = 83 := (Option.some.inj ho).symm
      refine ⟨107, by decide, ?_⟩
      replace w3 : (I 35 4 : Int32) = 7 := Int32.toInt_inj.mp w3
      replace h := ite_f h (by rw [w3]; decide)
      replace h := ite_f h (by rw [w3]; decide)
      replace h := ite_f h (by rw [w3]; decide)
      replace h := ite_f h (by rw [w3]; decide)
      replace h := ite_f h (by rw [w3]; decide)
      replace h := ite_f h (by rw [w3]; decide)
      replace h := ite_t h w3
      refine g_iload_n (pc := 107) (dd d_Stp_result 36 rfl) rfl ?_
      refine g_iload_n (pc := 108) (dd d_Stp_result 37 rfl) rfl ?_
      refine g_ior (pc := 109) (dd d_Stp_result 38 rfl) ?_
      cases h
      exact g_iret (pc := 110) rfl (dd d_Stp_result 39 rfl) hT
    · obtain rfl : off = 87 := (Option.some.inj ho).symm
      refine ⟨111, by decide, ?_⟩
      replace w3 : (I 35 4 : Int32) = 8 := Int32.toInt_inj.mp w3
      replace h := ite_f h (by rw [w3]; decide)
      replace h := ite_f h (by rw [w3]; decide)
      replace h := ite_f h (by rw [w3]; decide)
      replace h := ite_f h (by rw [w3]; decide)
      replace h := ite_f h (by rw [w3]; decide)
      replace h := ite_f h (by rw [w3]; decide)
      replace h := ite_f h (by rw [w3]; decide)
      replace h := ite_t h w3
      refine g_iload_n (pc := 111) (dd d_Stp_result 40 rfl) rfl ?_
      refine g_iload_n (pc := 112) (dd d_Stp_result 41 rfl) rfl ?_
      refine g_ixor (pc := 113) (dd d_Stp_result 42 rfl) ?_
      cases h
      exact g_iret (pc := 114) rfl (dd d_Stp_result 43 rfl) hT
    · obtain rfl : off = 91 := (Option.some.inj ho).symm
      refine ⟨115, by decide, ?_⟩
      replace w3 : (I 35 4 : Int32) = 9 := Int32.toInt_inj.mp w3
      replace h := ite_f h (by rw [w3]; decide)
      replace h := ite_f h (by rw [w3]; decide)
      replace h := ite_f h (by rw [w3]; decide)
      replace h := ite_f h (by rw [w3]; decide)
      replace h := ite_f h (by rw [w3]; decide)
      replace h := ite_f h (by rw [w3]; decide)
      replace h := ite_f h (by rw [w3]; decide)
      replace h := ite_f h (by rw [w3]; decide)
      replace h := ite_t h w3
      refine g_iload_n (pc := 115) (dd d_Stp_result 44 rfl) rfl ?_
      refine g_iload_n (pc := 116) (dd d_Stp_result 45 rfl) rfl ?_
      suffices K117 : ∀ z : Int32, z = (if (I (x1 + 6) (I 35 7 : Int32).toNatClampNeg : Int32) ≤ (I (x1 + 6) (I 35 6 : Int32).toNatClampNeg : Int32) then 0 else 1 : Int32) → GG Δ m_Stp_result Γ NN 0 0 (I, X) 125 [some (.ref (Δ.ba + 35)), some (.ref (Δ.ba + x1)), some (.int (I (x1 + 6) (I 35 6 : Int32).toNatClampNeg)), some (.int (I (x1 + 6) (I 35 7 : Int32).toNatClampNeg))] [.int (z)] by
        refine g_icmpge (pc := 117) (tgt := 124) (dd d_Stp_result 46 rfl) (by decide) (fun q4 => ?_) (fun q4 => ?_)
        · skip
          refine g_iconst (pc := 124) (v := 0) (dd d_Stp_result 49 rfl) (by decide) ?_
          exact K117 _ (by rw [if_pos q4])
        · skip
          refine g_iconst (pc := 120) (v := 1) (dd d_Stp_result 47 rfl) (by decide) ?_
          refine g_goto (pc := 121) (tgt := 125) (dd d_Stp_result 48 rfl) (by decide) ?_
          exact K117 _ (by rw [if_neg q4])
      intro z hz
      subst hz
      cases h
      exact g_iret (pc := 125) rfl (dd d_Stp_result 50 rfl) hT
    · obtain rfl : off = 102 := (Option.some.inj ho).symm
      refine ⟨126, by decide, ?_⟩
      replace w3 : (I 35 4 : Int32) = 10 := Int32.toInt_inj.mp w3
      replace h := ite_f h (by rw [w3]; decide)
      replace h := ite_f h (by rw [w3]; decide)
      replace h := ite_f h (by rw [w3]; decide)
      replace h := ite_f h (by rw [w3]; decide)
      replace h := ite_f h (by rw [w3]; decide)
      replace h := ite_f h (by rw [w3]; decide)
      replace h := ite_f h (by rw [w3]; decide)
      replace h := ite_f h (by rw [w3]; decide)
      replace h := ite_f h (by rw [w3]; decide)
      replace h := ite_t h w3
      refine g_iload_n (pc := 126) (dd d_Stp_result 51 rfl) rfl ?_
      refine g_iload_n (pc := 127) (dd d_Stp_result 52 rfl) rfl ?_
      suffices K128 : ∀ z : Int32, z = (if (I (x1 + 6) (I 35 6 : Int32).toNatClampNeg : Int32) = (I (x1 + 6) (I 35 7 : Int32).toNatClampNeg : Int32) then 1 else 0 : Int32) → GG Δ m_Stp_result Γ NN 0 0 (I, X) 136 [some (.ref (Δ.ba + 35)), some (.ref (Δ.ba + x1)), some (.int (I (x1 + 6) (I 35 6 : Int32).toNatClampNeg)), some (.int (I (x1 + 6) (I 35 7 : Int32).toNatClampNeg))] [.int (z)] by
        refine g_icmpne (pc := 128) (tgt := 135) (dd d_Stp_result 53 rfl) (by decide) (fun q5 => ?_) (fun q5 => ?_)
        · skip
          refine g_iconst (pc := 135) (v := 0) (dd d_Stp_result 56 rfl) (by decide) ?_
          exact K128 _ (by rw [if_neg q5])
        · skip
          refine g_iconst (pc := 131) (v := 1) (dd d_Stp_result 54 rfl) (by decide) ?_
          refine g_goto (pc := 132) (tgt := 136) (dd d_Stp_result 55 rfl) (by decide) ?_
          exact K128 _ (by rw [if_pos q5])
      intro z hz
      subst hz
      cases h
      exact g_iret (pc := 136) rfl (dd d_Stp_result 57 rfl) hT
    · obtain rfl : off = 113 := (Option.some.inj ho).symm
      refine ⟨137, by decide, ?_⟩
      replace w3 : (I 35 4 : Int32) = 11 := Int32.toInt_inj.mp w3
      replace h := ite_f h (by rw [w3]; decide)
      replace h := ite_f h (by rw [w3]; decide)
      replace h := ite_f h (by rw [w3]; decide)
      replace h := ite_f h (by rw [w3]; decide)
      replace h := ite_f h (by rw [w3]; decide)
      replace h := ite_f h (by rw [w3]; decide)
      replace h := ite_f h (by rw [w3]; decide)
      replace h := ite_f h (by rw [w3]; decide)
      replace h := ite_f h (by rw [w3]; decide)
      replace h := ite_f h (by rw [w3]; decide)
      replace h := ite_t h w3
      refine g_aload_n (pc := 137) (dd d_Stp_result 58 rfl) rfl ?_
      refine g_aload_n (pc := 138) (dd d_Stp_result 59 rfl) rfl ?_
      refine g_geti (pc := 139) (dd d_Stp_result_1 0 rfl) f_Stp_134 oc_Stp rfl ?_
      obtain ⟨v6, e7, h⟩ := bnd_e h
      refine g_callV (pc := 142) (dd d_Stp_result_1 1 rfl) v_Stp_182 (oc_Mch h_x1) rfl (ef_Mch_hasWord hX h_x1 e7) rfl (by omega) (Nat.le_of_ble_eq_true rfl) ⟨Nat.zero_le _, Nat.zero_le _⟩ rfl ?_
      refine g_ifeq (pc := 145) (tgt := 160) (dd d_Stp_result_1 2 rfl) (by decide) (fun q8 => ?_) (fun q8 => ?_)
      · replace h := ite_t h q8
        refine g_iconst (pc := 160) (v := 0) (dd d_Stp_result_1 9 rfl) (by decide) ?_
        refine g_drop [0, 1, 2, 3] ?_
        exact gb_Stp_result_161 hX h_x1 hk hT  h
      · replace h := ite_f h q8
        refine g_aload_n (pc := 148) (dd d_Stp_result_1 3 rfl) rfl ?_
        refine g_getr (pc := 149) (dd d_Stp_result_1 4 rfl) f_Stp_220 (oc_Mch h_x1) rfl (rx_Mch_5 hX h_x1) ?_
        refine g_aload_n (pc := 152) (dd d_Stp_result_1 5 rfl) rfl ?_
        refine g_geti (pc := 153) (dd d_Stp_result_1 6 rfl) f_Stp_134 oc_Stp rfl ?_
        obtain ⟨c9, h⟩ := chk_e h
        refine g_iald (pc := 156) (dd d_Stp_result_1 7 rfl) (ax_Mch_5 h_x1) c9 ?_
        refine g_goto (pc := 157) (tgt := 161) (dd d_Stp_result_1 8 rfl) (by decide) ?_
        refine g_drop [0, 1, 2, 3] ?_
        exact gb_Stp_result_161 hX h_x1 hk hT  h
    · cases ho
  · skip
    replace w3 : ((I 35 4 : Int32)).toInt < 1 ∨ 11 < ((I 35 4 : Int32)).toInt := w3
    replace h := ite_f h (fun e => by rw [e] at w3; revert w3; decide)
    replace h := ite_f h (fun e => by rw [e] at w3; revert w3; decide)
    replace h := ite_f h (fun e => by rw [e] at w3; revert w3; decide)
    replace h := ite_f h (fun e => by rw [e] at w3; revert w3; decide)
    replace h := ite_f h (fun e => by rw [e] at w3; revert w3; decide)
    replace h := ite_f h (fun e => by rw [e] at w3; revert w3; decide)
    replace h := ite_f h (fun e => by rw [e] at w3; revert w3; decide)
    replace h := ite_f h (fun e => by rw [e] at w3; revert w3; decide)
    replace h := ite_f h (fun e => by rw [e] at w3; revert w3; decide)
    replace h := ite_f h (fun e => by rw [e] at w3; revert w3; decide)
    replace h := ite_f h (fun e => by rw [e] at w3; revert w3; decide)
    refine g_aload_n (pc := 162) (dd d_Stp_result_1 11 rfl) rfl ?_
    refine g_getr (pc := 163) (dd d_Stp_result_1 12 rfl) f_Stp_73 (oc_Mch h_x1) rfl (rx_Mch_8 hX h_x1) ?_
    refine g_aload_n (pc := 166) (dd d_Stp_result_1 13 rfl) rfl ?_
    refine g_geti (pc := 167) (dd d_Stp_result_1 14 rfl) f_Stp_122 oc_Stp rfl ?_
    obtain ⟨c10, h⟩ := chk_e h
    refine g_iald (pc := 170) (dd d_Stp_result_1 15 rfl) (ax_Mch_8 h_x1) c10 ?_
    cases h
    exact g_iret (pc := 171) rfl (dd d_Stp_result_1 16 rfl) hT
def b_Stp_perform_317 (n : Nat) (x1 : Nat)  (x3 : Int32) (I : IM) : Option (IM) := Option.bind (f_Mch_setRegister  x1 8 x3 (I 35 13) I) fun v29 => some v29
set_option maxRecDepth 20000 in
set_option maxHeartbeats 4000000 in
theorem gb_Stp_perform_317 {Δ : Dx} {X : Lx} {rl hd ot pt it : Nat} (hX : EX Δ X rl hd ot pt it) {x1 : Nat} (h_x1 : isMch x1) {n : Nat} {Γ : Cx} (hk : Γ.k = 3) {r : IM} (hT : Tg Δ Γ none NN (r, X) 0 0)  {x3 : Int32} {I : IM} (h : b_Stp_perform_317 n x1  x3 I = some r) : GG Δ m_Stp_perform Γ NN 0 0 (I, X) 317 [some (.ref (Δ.ba + 35)), some (.ref (Δ.ba + x1)), none, some (.int (x3))] [] := by
  unfold b_Stp_perform_317 at h
  refine g_aload_n (pc := 317) (dd d_Stp_perform_1 57 rfl) rfl ?_
  refine g_bipush (pc := 318) (v := 8) (dd d_Stp_perform_1 58 rfl) (by decide) ?_
  refine g_iload_n (pc := 320) (dd d_Stp_perform_1 59 rfl) rfl ?_
  refine g_aload_n (pc := 321) (dd d_Stp_perform_2 0 rfl) rfl ?_
  refine g_geti (pc := 322) (dd d_Stp_perform_2 1 rfl) f_Stp_29 oc_Stp rfl ?_
  obtain ⟨v29, e30, h⟩ := bnd_e h
  refine g_callV (pc := 325) (dd d_Stp_perform_2 2 rfl) v_Stp_199 (oc_Mch h_x1) rfl (ef_Mch_setRegister hX h_x1 e30) rfl (by omega) (Nat.le_of_ble_eq_true rfl) ⟨Nat.zero_le _, Nat.zero_le _⟩ rfl ?_
  cases h
  exact g_vret (pc := 328) rfl (dd d_Stp_perform_2 3 rfl) hT
def b_Stp_perform_300 (n : Nat) (x1 : Nat)  (x3 : Int32) (I : IM) : Option (IM) := Option.bind (f_Stp_result  x1 I) fun v25 => Option.bind (f_Mch_setRegister  x1 (I 35 5) v25 (I 35 12) I) fun v27 => b_Stp_perform_317 n x1  x3 v27
set_option maxRecDepth 20000 in
set_option maxHeartbeats 4000000 in
theorem gb_Stp_perform_300 {Δ : Dx} {X : Lx} {rl hd ot pt it : Nat} (hX : EX Δ X rl hd ot pt it) {x1 : Nat} (h_x1 : isMch x1) {n : Nat} {Γ : Cx} (hk : Γ.k = 3) {r : IM} (hT : Tg Δ Γ none NN (r, X) 0 0)  {x3 : Int32} {I : IM} (h : b_Stp_perform_300 n x1  x3 I = some r) : GG Δ m_Stp_perform Γ NN 0 0 (I, X) 300 [some (.ref (Δ.ba + 35)), some (.ref (Δ.ba + x1)), none, some (.int (x3))] [] := by
  unfold b_Stp_perform_300 at h
  refine g_aload_n (pc := 300) (dd d_Stp_perform_1 48 rfl) rfl ?_
  refine g_aload_n (pc := 301) (dd d_Stp_perform_1 49 rfl) rfl ?_
  refine g_geti (pc := 302) (dd d_Stp_perform_1 50 rfl) f_Stp_122 oc_Stp rfl ?_
  refine g_aload_n (pc := 305) (dd d_Stp_perform_1 51 rfl) rfl ?_
  refine g_aload_n (pc := 306) (dd d_Stp_perform_1 52 rfl) rfl ?_
  obtain ⟨v25, e26, h⟩ := bnd_e h
  refine g_callV (pc := 307) (dd d_Stp_perform_1 53 rfl) v_Stp_217 oc_Stp rfl (ef_Stp_result hX h_x1 e26) rfl (by omega) (Nat.le_of_ble_eq_true rfl) ⟨Nat.zero_le _, Nat.zero_le _⟩ rfl ?_
  refine g_aload_n (pc := 310) (dd d_Stp_perform_1 54 rfl) rfl ?_
  refine g_geti (pc := 311) (dd d_Stp_perform_1 55 rfl) f_Stp_26 oc_Stp rfl ?_
  obtain ⟨v27, e28, h⟩ := bnd_e h
  refine g_callV (pc := 314) (dd d_Stp_perform_1 56 rfl) v_Stp_199 (oc_Mch h_x1) rfl (ef_Mch_setRegister hX h_x1 e28) rfl (by omega) (Nat.le_of_ble_eq_true rfl) ⟨Nat.zero_le _, Nat.zero_le _⟩ rfl ?_
  exact gb_Stp_perform_317 hX h_x1 hk hT  h
def f_Stp_perform (n : Nat) (x1 : Nat) (I : IM) : Option (IM) := if (I 35 4 : Int32) = 0 then (b_Stp_perform_317 n x1  (I 35 2) I) else (if (I 35 4 : Int32) = 1 then (b_Stp_perform_300 n x1  ((I 35 2) + 1) I) else (if (I 35 4 : Int32) = 2 then (b_Stp_perform_300 n x1  ((I 35 2) + 1) I) else (if (I 35 4 : Int32) = 3 then (b_Stp_perform_300 n x1  ((I 35 2) + 1) I) else (if (I 35 4 : Int32) = 4 then (b_Stp_perform_300 n x1  ((I 35 2) + 1) I) else (if (I 35 4 : Int32) = 5 then (b_Stp_perform_300 n x1  ((I 35 2) + 1) I) else (if (I 35 4 : Int32) = 6 then (b_Stp_perform_300 n x1  ((I 35 2) + 1) I) else (if (I 35 4 : Int32) = 7 then (b_Stp_perform_300 n x1  ((I 35 2) + 1) I) else (if (I 35 4 : Int32) = 8 then (b_Stp_perform_300 n x1  ((I 35 2) + 1) I) else (if (I 35 4 : Int32) = 9 then (b_Stp_perform_300 n x1  ((I 35 2) + 1) I) else (if (I 35 4 : Int32) = 10 then (b_Stp_perform_300 n x1  ((I 35 2) + 1) I) else (if (I 35 4 : Int32) = 11 then (b_Stp_perform_300 n x1  ((I 35 2) + 1) I) else (if (I 35 4 : Int32) = 12 then (chk (inb (I 35 5) 9) <| Option.bind (f_Mch_setWord  x1 (I 35 9) (I (x1 + 6) (I 35 5 : Int32).toNatClampNeg) (I 35 12) (I 35 14) I) fun v3 => b_Stp_perform_317 n x1  ((I 35 2) + 1) v3) else (if (I 35 4 : Int32) = 13 then (b_Stp_perform_317 n x1  (I 35 8) I) else (if (I 35 4 : Int32) = 14 then (chk (inb (I 35 5) 9) <| b_Stp_perform_317 n x1  (if (I (x1 + 6) (I 35 5 : Int32).toNatClampNeg : Int32) = 0 then ((I 35 2) + 1) else (I 35 8)) I) else (if (I 35 4 : Int32) = 15 then (chk (inb (I 35 6) 9) <| b_Stp_perform_317 n x1  (I (x1 + 6) (I 35 6 : Int32).toNatClampNeg) I) else (if (I 35 4 : Int32) = 16 then (Option.bind (f_Mch_setRegister  x1 (I 35 5) ((I 35 2) + 1) (I 35 12) I) fun v8 => b_Stp_perform_317 n x1  (v8 35 8) v8) else (if (I 35 4 : Int32) = 17 then (chk (inb (I 35 5) 9) <| Option.bind (f_Mch_putOut  x1 (I (x1 + 6) (I 35 5 : Int32).toNatClampNeg) I) fun v11 => b_Stp_perform_317 n x1  ((I 35 2) + 1) v11) else (if (I 35 4 : Int32) = 18 then (Option.bind (f_Mch_takeInput  x1 I) fun v13 => Option.bind (f_Mch_setRegister  x1 (I 35 5) v13.1 (v13.2 35 12) v13.2) fun v15 => b_Stp_perform_317 n x1  ((I 35 2) + 1) v15) else (if (I 35 4 : Int32) = 19 then (chk (inb (I 35 6) 9) <| Option.bind (f_Mch_handOut n x1 (I 35 10) (I (x1 + 6) (I 35 6 : Int32).toNatClampNeg) (I 35 14) I) fun v18 => lt (up v18 (x1 + 13) (6 : Int32).toNatClampNeg ((v18 (x1 + 13) (6 : Int32).toNatClampNeg) + 1)) fun I20 => Option.bind (f_Mch_setRegister  x1 (I20 35 5) (I20 35 10) (I20 35 12) I20) fun v21 => b_Stp_perform_317 n x1  ((I 35 2) + 1) v21) else (if (I 35 4 : Int32) = 20 then (Option.bind (f_Mch_free n x1 (I 35 14) I) fun v23 => b_Stp_perform_317 n x1  ((I 35 2) + 1) v23) else (b_Stp_perform_300 n x1  ((I 35 2) + 1) I)))))))))))))))))))))
set_option maxRecDepth 20000 in
set_option maxHeartbeats 4000000 in
theorem ef_Stp_perform {Δ : Dx} {X : Lx} {rl hd ot pt it : Nat} (hX : EX Δ X rl hd ot pt it) {n : Nat} {x1 : Nat} (h_x1 : isMch x1) {I : IM}  {r : IM} (h : f_Stp_perform n x1 I = some r) : Ev Δ (3) m_Stp_perform [.ref (Δ.ba + 35), .ref (Δ.ba + x1)] (I, X) none (r, X) := by
  refine ev_of (by decide) (Nat.le_of_ble_eq_true rfl) (fun Γ hk hR hT => ?_)
  change GG Δ m_Stp_perform Γ NN 0 0 (I, X) 0 [some (.ref (Δ.ba + 35)), some (.ref (Δ.ba + x1)), none, none] []
  unfold f_Stp_perform at h
  refine g_aload_n (pc := 0) (dd d_Stp_perform 0 rfl) rfl ?_
  refine g_getr (pc := 1) (dd d_Stp_perform 1 rfl) f_Stp_73 (oc_Mch h_x1) rfl (rx_Mch_8 hX h_x1) ?_
  refine g_astore_n (pc := 4) (dd d_Stp_perform 2 rfl) (by decide) ?_
  refine g_aload_n (pc := 5) (dd d_Stp_perform 3 rfl) rfl ?_
  refine g_geti (pc := 6) (dd d_Stp_perform 4 rfl) f_Stp_54 oc_Stp rfl ?_
  refine g_iconst (pc := 9) (v := 1) (dd d_Stp_perform 5 rfl) (by decide) ?_
  refine g_iadd (pc := 10) (dd d_Stp_perform 6 rfl) ?_
  refine g_istore_n (pc := 11) (dd d_Stp_perform 7 rfl) (by decide) ?_
  refine g_aload_n (pc := 12) (dd d_Stp_perform 8 rfl) rfl ?_
  refine g_geti (pc := 13) (dd d_Stp_perform 9 rfl) f_Stp_57 oc_Stp rfl ?_
  refine g_tableC (pc := 16) (dd d_Stp_perform 10 rfl) (fun i off ho w1 => ?_) (by decide) (fun w1 => ⟨300, by decide, ?_⟩)
  · rcases i with _ | _ | _ | _ | _ | _ | _ | _ | _ | _ | _ | _ | _ | _ | _ | _ | _ | _ | _ | _ | _ | i
    · obtain rfl : off = 100 := (Option.some.inj ho).symm
      refine ⟨116, by decide, ?_⟩
      replace w1 : (I 35 4 : Int32) = 0 := Int32.toInt_inj.mp w1
      replace h := ite_t h w1
      refine g_aload_n (pc := 116) (dd d_Stp_perform 11 rfl) rfl ?_
      refine g_geti (pc := 117) (dd d_Stp_perform 12 rfl) f_Stp_54 oc_Stp rfl ?_
      refine g_istore_n (pc := 120) (dd d_Stp_perform 13 rfl) (by decide) ?_
      refine g_goto (pc := 121) (tgt := 317) (dd d_Stp_perform 14 rfl) (by decide) ?_
      refine g_drop [2] ?_
      exact gb_Stp_perform_317 hX h_x1 hk hT  h
    · obtain rfl : off = 284 := (Option.some.inj ho).symm
      refine ⟨300, by decide, ?_⟩
      replace w1 : (I 35 4 : Int32) = 1 := Int32.toInt_inj.mp w1
      replace h := ite_f h (by rw [w1]; decide)
      replace h := ite_t h w1
      refine g_drop [2] ?_
      exact gb_Stp_perform_300 hX h_x1 hk hT  h
    · obtain rfl : off = 284 := (Option.some.inj ho).symm
      refine ⟨300, by decide, ?_⟩
      replace w1 : (I 35 4 : Int32) = 2 := Int32.toInt_inj.mp w1
      replace h := ite_f h (by rw [w1]; decide)
      replace h := ite_f h (by rw [w1]; decide)
      replace h := ite_t h w1
      refine g_drop [2] ?_
      exact gb_Stp_perform_300 hX h_x1 hk hT  h
    · obtain rfl : off = 284 := (Option.some.inj ho).symm
      refine ⟨300, by decide, ?_⟩
      replace w1 : (I 35 4 : Int32) = 3 := Int32.toInt_inj.mp w1
      replace h := ite_f h (by rw [w1]; decide)
      replace h := ite_f h (by rw [w1]; decide)
      replace h := ite_f h (by rw [w1]; decide)
      replace h := ite_t h w1
      refine g_drop [2] ?_
      exact gb_Stp_perform_300 hX h_x1 hk hT  h
    · obtain rfl : off = 284 := (Option.some.inj ho).symm
      refine ⟨300, by decide, ?_⟩
      replace w1 : (I 35 4 : Int32) = 4 := Int32.toInt_inj.mp w1
      replace h := ite_f h (by rw [w1]; decide)
      replace h := ite_f h (by rw [w1]; decide)
      replace h := ite_f h (by rw [w1]; decide)
      replace h := ite_f h (by rw [w1]; decide)
      replace h := ite_t h w1
      refine g_drop [2] ?_
      exact gb_Stp_perform_300 hX h_x1 hk hT  h
    · obtain rfl : off = 284 := (Option.some.inj ho).symm
      refine ⟨300, by decide, ?_⟩
      replace w1 : (I 35 4 : Int32) = 5 := Int32.toInt_inj.mp w1
      replace h := ite_f h (by rw [w1]; decide)
      replace h := ite_f h (by rw [w1]; decide)
      replace h := ite_f h (by rw [w1]; decide)
      replace h := ite_f h (by rw [w1]; decide)
      replace h := ite_f h (by rw [w1]; decide)
      replace h := ite_t h w1
      refine g_drop [2] ?_
      exact gb_Stp_perform_300 hX h_x1 hk hT  h
    · obtain rfl : off = 284 := (Option.some.inj ho).symm
      refine ⟨300, by decide, ?_⟩
      replace w1 : (I 35 4 : Int32) = 6 := Int32.toInt_inj.mp w1
      replace h := ite_f h (by rw [w1]; decide)
      replace h := ite_f h (by rw [w1]; decide)
      replace h := ite_f h (by rw [w1]; decide)
      replace h := ite_f h (by rw [w1]; decide)
      replace h := ite_f h (by rw [w1]; decide)
      replace h := ite_f h (by rw [w1]; decide)
      replace h := ite_t h w1
      refine g_drop [2] ?_
      exact gb_Stp_perform_300 hX h_x1 hk hT  h
    · obtain rfl : off = 284 := (Option.some.inj ho).symm
      refine ⟨300, by decide, ?_⟩
      replace w1 : (I 35 4 : Int32) = 7 := Int32.toInt_inj.mp w1
      replace h := ite_f h (by rw [w1]; decide)
      replace h := ite_f h (by rw [w1]; decide)
      replace h := ite_f h (by rw [w1]; decide)
      replace h := ite_f h (by rw [w1]; decide)
      replace h := ite_f h (by rw [w1]; decide)
      replace h := ite_f h (by rw [w1]; decide)
      replace h := ite_f h (by rw [w1]; decide)
      replace h := ite_t h w1
      refine g_drop [2] ?_
      exact gb_Stp_perform_300 hX h_x1 hk hT  h
    · obtain rfl : off = 284 := (Option.some.inj ho).symm
      refine ⟨300, by decide, ?_⟩
      replace w1 : (I 35 4 : Int32) = 8 := Int32.toInt_inj.mp w1
      replace h := ite_f h (by rw [w1]; decide)
      replace h := ite_f h (by rw [w1]; decide)
      replace h := ite_f h (by rw [w1]; decide)
      replace h := ite_f h (by rw [w1]; decide)
      replace h := ite_f h (by rw [w1]; decide)
      replace h := ite_f h (by rw [w1]; decide)
      replace h := ite_f h (by rw [w1]; decide)
      replace h := ite_f h (by rw [w1]; decide)
      replace h := ite_t h w1
      refine g_drop [2] ?_
      exact gb_Stp_perform_300 hX h_x1 hk hT  h
    · obtain rfl : off = 284 := (Option.some.inj ho).symm
      refine ⟨300, by decide, ?_⟩
      replace w1 : (I 35 4 : Int32) = 9 := Int32.toInt_inj.mp w1
      replace h := ite_f h (by rw [w1]; decide)
      replace h := ite_f h (by rw [w1]; decide)
      replace h := ite_f h (by rw [w1]; decide)
      replace h := ite_f h (by rw [w1]; decide)
      replace h := ite_f h (by rw [w1]; decide)
      replace h := ite_f h (by rw [w1]; decide)
      replace h := ite_f h (by rw [w1]; decide)
      replace h := ite_f h (by rw [w1]; decide)
      replace h := ite_f h (by rw [w1]; decide)
      replace h := ite_t h w1
      refine g_drop [2] ?_
      exact gb_Stp_perform_300 hX h_x1 hk hT  h
    · obtain rfl : off = 284 := (Option.some.inj ho).symm
      refine ⟨300, by decide, ?_⟩
      replace w1 : (I 35 4 : Int32) = 10 := Int32.toInt_inj.mp w1
      replace h := ite_f h (by rw [w1]; decide)
      replace h := ite_f h (by rw [w1]; decide)
      replace h := ite_f h (by rw [w1]; decide)
      replace h := ite_f h (by rw [w1]; decide)
      replace h := ite_f h (by rw [w1]; decide)
      replace h := ite_f h (by rw [w1]; decide)
      replace h := ite_f h (by rw [w1]; decide)
      replace h := ite_f h (by rw [w1]; decide)
      replace h := ite_f h (by rw [w1]; decide)
      replace h := ite_f h (by rw [w1]; decide)
      replace h := ite_t h w1
      refine g_drop [2] ?_
      exact gb_Stp_perform_300 hX h_x1 hk hT  h
    · obtain rfl : off = 284 := (Option.some.inj ho).symm
      refine ⟨300, by decide, ?_⟩
      replace w1 : (I 35 4 : Int32) = 11 := Int32.toInt_inj.mp w1
      replace h := ite_f h (by rw [w1]; decide)
      replace h := ite_f h (by rw [w1]; decide)
      replace h := ite_f h (by rw [w1]; decide)
      replace h := ite_f h (by rw [w1]; decide)
      replace h := ite_f h (by rw [w1]; decide)
      replace h := ite_f h (by rw [w1]; decide)
      replace h := ite_f h (by rw [w1]; decide)
      replace h := ite_f h (by rw [w1]; decide)
      replace h := ite_f h (by rw [w1]; decide)
      replace h := ite_f h (by rw [w1]; decide)
      replace h := ite_f h (by rw [w1]; decide)
      replace h := ite_t h w1
      refine g_drop [2] ?_
      exact gb_Stp_perform_300 hX h_x1 hk hT  h
    · obtain rfl : off = 108 := (Option.some.inj ho).symm
      refine ⟨124, by decide, ?_⟩
      replace w1 : (I 35 4 : Int32) = 12 := Int32.toInt_inj.mp w1
      replace h := ite_f h (by rw [w1]; decide)
      replace h := ite_f h (by rw [w1]; decide)
      replace h := ite_f h (by rw [w1]; decide)
      replace h := ite_f h (by rw [w1]; decide)
      replace h := ite_f h (by rw [w1]; decide)
      replace h := ite_f h (by rw [w1]; decide)
      replace h := ite_f h (by rw [w1]; decide)
      replace h := ite_f h (by rw [w1]; decide)
      replace h := ite_f h (by rw [w1]; decide)
      replace h := ite_f h (by rw [w1]; decide)
      replace h := ite_f h (by rw [w1]; decide)
      replace h := ite_f h (by rw [w1]; decide)
      replace h := ite_t h w1
      refine g_aload_n (pc := 124) (dd d_Stp_perform 15 rfl) rfl ?_
      refine g_aload_n (pc := 125) (dd d_Stp_perform 16 rfl) rfl ?_
      refine g_geti (pc := 126) (dd d_Stp_perform 17 rfl) f_Stp_134 oc_Stp rfl ?_
      refine g_aload_n (pc := 129) (dd d_Stp_perform 18 rfl) rfl ?_
      refine g_aload_n (pc := 130) (dd d_Stp_perform 19 rfl) rfl ?_
      refine g_geti (pc := 131) (dd d_Stp_perform 20 rfl) f_Stp_122 oc_Stp rfl ?_
      obtain ⟨c2, h⟩ := chk_e h
      refine g_iald (pc := 134) (dd d_Stp_perform 21 rfl) (ax_Mch_8 h_x1) c2 ?_
      refine g_aload_n (pc := 135) (dd d_Stp_perform 22 rfl) rfl ?_
      refine g_geti (pc := 136) (dd d_Stp_perform 23 rfl) f_Stp_26 oc_Stp rfl ?_
      refine g_aload_n (pc := 139) (dd d_Stp_perform 24 rfl) rfl ?_
      refine g_geti (pc := 140) (dd d_Stp_perform 25 rfl) f_Stp_192 oc_Stp rfl ?_
      obtain ⟨v3, e4, h⟩ := bnd_e h
      refine g_callV (pc := 143) (dd d_Stp_perform 26 rfl) v_Stp_195 (oc_Mch h_x1) rfl (ef_Mch_setWord hX h_x1 e4) rfl (by omega) (Nat.le_of_ble_eq_true rfl) ⟨Nat.zero_le _, Nat.zero_le _⟩ rfl ?_
      refine g_goto (pc := 146) (tgt := 317) (dd d_Stp_perform 27 rfl) (by decide) ?_
      refine g_drop [2] ?_
      exact gb_Stp_perform_317 hX h_x1 hk hT  h
    · obtain rfl : off = 133 := (Option.some.inj ho).symm
      refine ⟨149, by decide, ?_⟩
      replace w1 : (I 35 4 : Int32) = 13 := Int32.toInt_inj.mp w1
      replace h := ite_f h (by rw [w1]; decide)
      replace h := ite_f h (by rw [w1]; decide)
      replace h := ite_f h (by rw [w1]; decide)
      replace h := ite_f h (by rw [w1]; decide)
      replace h := ite_f h (by rw [w1]; decide)
      replace h := ite_f h (by rw [w1]; decide)
      replace h := ite_f h (by rw [w1]; decide)
      replace h := ite_f h (by rw [w1]; decide)
      replace h := ite_f h (by rw [w1]; decide)
      replace h := ite_f h (by rw [w1]; decide)
      replace h := ite_f h (by rw [w1]; decide)
      replace h := ite_f h (by rw [w1]; decide)
      replace h := ite_f h (by rw [w1]; decide)
      replace h := ite_t h w1
      refine g_aload_n (pc := 149) (dd d_Stp_perform 28 rfl) rfl ?_
      refine g_geti (pc := 150) (dd d_Stp_perform 29 rfl) f_Stp_131 oc_Stp rfl ?_
      refine g_istore_n (pc := 153) (dd d_Stp_perform 30 rfl) (by decide) ?_
      refine g_goto (pc := 154) (tgt := 317) (dd d_Stp_perform 31 rfl) (by decide) ?_
      refine g_drop [2] ?_
      exact gb_Stp_perform_317 hX h_x1 hk hT  h
    · obtain rfl : off = 141 := (Option.some.inj ho).symm
      refine ⟨157, by decide, ?_⟩
      replace w1 : (I 35 4 : Int32) = 14 := Int32.toInt_inj.mp w1
      replace h := ite_f h (by rw [w1]; decide)
      replace h := ite_f h (by rw [w1]; decide)
      replace h := ite_f h (by rw [w1]; decide)
      replace h := ite_f h (by rw [w1]; decide)
      replace h := ite_f h (by rw [w1]; decide)
      replace h := ite_f h (by rw [w1]; decide)
      replace h := ite_f h (by rw [w1]; decide)
      replace h := ite_f h (by rw [w1]; decide)
      replace h := ite_f h (by rw [w1]; decide)
      replace h := ite_f h (by rw [w1]; decide)
      replace h := ite_f h (by rw [w1]; decide)
      replace h := ite_f h (by rw [w1]; decide)
      replace h := ite_f h (by rw [w1]; decide)
      replace h := ite_f h (by rw [w1]; decide)
      replace h := ite_t h w1
      refine g_aload_n (pc := 157) (dd d_Stp_perform 32 rfl) rfl ?_
      refine g_aload_n (pc := 158) (dd d_Stp_perform 33 rfl) rfl ?_
      refine g_geti (pc := 159) (dd d_Stp_perform 34 rfl) f_Stp_122 oc_Stp rfl ?_
      obtain ⟨c5, h⟩ := chk_e h
      refine g_iald (pc := 162) (dd d_Stp_perform 35 rfl) (ax_Mch_8 h_x1) c5 ?_
      suffices K163 : ∀ z : Int32, z = (if (I (x1 + 6) (I 35 5 : Int32).toNatClampNeg : Int32) = 0 then ((I 35 2) + 1) else (I 35 8) : Int32) → GG Δ m_Stp_perform Γ NN 0 0 (I, X) 174 [some (.ref (Δ.ba + 35)), some (.ref (Δ.ba + x1)), some (.ref (Δ.ba + x1 + 6)), some (.int ((I 35 2) + 1))] [.int (z)] by
        refine g_ifeq (pc := 163) (tgt := 173) (dd d_Stp_perform 36 rfl) (by decide) (fun q6 => ?_) (fun q6 => ?_)
        · skip
          refine g_iload_n (pc := 173) (dd d_Stp_perform 40 rfl) rfl ?_
          exact K163 _ (by rw [if_pos q6])
        · skip
          refine g_aload_n (pc := 166) (dd d_Stp_perform 37 rfl) rfl ?_
          refine g_geti (pc := 167) (dd d_Stp_perform 38 rfl) f_Stp_131 oc_Stp rfl ?_
          refine g_goto (pc := 170) (tgt := 174) (dd d_Stp_perform 39 rfl) (by decide) ?_
          exact K163 _ (by rw [if_neg q6])
      intro z hz
      subst hz
      refine g_istore_n (pc := 174) (dd d_Stp_perform 41 rfl) (by decide) ?_
      refine g_goto (pc := 175) (tgt := 317) (dd d_Stp_perform 42 rfl) (by decide) ?_
      refine g_drop [2] ?_
      exact gb_Stp_perform_317 hX h_x1 hk hT  h
    · obtain rfl : off = 162 := (Option.some.inj ho).symm
      refine ⟨178, by decide, ?_⟩
      replace w1 : (I 35 4 : Int32) = 15 := Int32.toInt_inj.mp w1
      replace h := ite_f h (by rw [w1]; decide)
      replace h := ite_f h (by rw [w1]; decide)
      replace h := ite_f h (by rw [w1]; decide)
      replace h := ite_f h (by rw [w1]; decide)
      replace h := ite_f h (by rw [w1]; decide)
      replace h := ite_f h (by rw [w1]; decide)
      replace h := ite_f h (by rw [w1]; decide)
      replace h := ite_f h (by rw [w1]; decide)
      replace h := ite_f h (by rw [w1]; decide)
      replace h := ite_f h (by rw [w1]; decide)
      replace h := ite_f h (by rw [w1]; decide)
      replace h := ite_f h (by rw [w1]; decide)
      replace h := ite_f h (by rw [w1]; decide)
      replace h := ite_f h (by rw [w1]; decide)
      replace h := ite_f h (by rw [w1]; decide)
      replace h := ite_t h w1
      refine g_aload_n (pc := 178) (dd d_Stp_perform 43 rfl) rfl ?_
      refine g_aload_n (pc := 179) (dd d_Stp_perform 44 rfl) rfl ?_
      refine g_geti (pc := 180) (dd d_Stp_perform 45 rfl) f_Stp_125 oc_Stp rfl ?_
      obtain ⟨c7, h⟩ := chk_e h
      refine g_iald (pc := 183) (dd d_Stp_perform 46 rfl) (ax_Mch_8 h_x1) c7 ?_
      refine g_istore_n (pc := 184) (dd d_Stp_perform 47 rfl) (by decide) ?_
      refine g_goto (pc := 185) (tgt := 317) (dd d_Stp_perform 48 rfl) (by decide) ?_
      refine g_drop [2] ?_
      exact gb_Stp_perform_317 hX h_x1 hk hT  h
    · obtain rfl : off = 172 := (Option.some.inj ho).symm
      refine ⟨188, by decide, ?_⟩
      replace w1 : (I 35 4 : Int32) = 16 := Int32.toInt_inj.mp w1
      replace h := ite_f h (by rw [w1]; decide)
      replace h := ite_f h (by rw [w1]; decide)
      replace h := ite_f h (by rw [w1]; decide)
      replace h := ite_f h (by rw [w1]; decide)
      replace h := ite_f h (by rw [w1]; decide)
      replace h := ite_f h (by rw [w1]; decide)
      replace h := ite_f h (by rw [w1]; decide)
      replace h := ite_f h (by rw [w1]; decide)
      replace h := ite_f h (by rw [w1]; decide)
      replace h := ite_f h (by rw [w1]; decide)
      replace h := ite_f h (by rw [w1]; decide)
      replace h := ite_f h (by rw [w1]; decide)
      replace h := ite_f h (by rw [w1]; decide)
      replace h := ite_f h (by rw [w1]; decide)
      replace h := ite_f h (by rw [w1]; decide)
      replace h := ite_f h (by rw [w1]; decide)
      replace h := ite_t h w1
      refine g_aload_n (pc := 188) (dd d_Stp_perform 49 rfl) rfl ?_
      refine g_aload_n (pc := 189) (dd d_Stp_perform 50 rfl) rfl ?_
      refine g_geti (pc := 190) (dd d_Stp_perform 51 rfl) f_Stp_122 oc_Stp rfl ?_
      refine g_iload_n (pc := 193) (dd d_Stp_perform 52 rfl) rfl ?_
      refine g_aload_n (pc := 194) (dd d_Stp_perform 53 rfl) rfl ?_
      refine g_geti (pc := 195) (dd d_Stp_perform 54 rfl) f_Stp_26 oc_Stp rfl ?_
      obtain ⟨v8, e9, h⟩ := bnd_e h
      refine g_callV (pc := 198) (dd d_Stp_perform 55 rfl) v_Stp_199 (oc_Mch h_x1) rfl (ef_Mch_setRegister hX h_x1 e9) rfl (by omega) (Nat.le_of_ble_eq_true rfl) ⟨Nat.zero_le _, Nat.zero_le _⟩ rfl ?_
      refine g_aload_n (pc := 201) (dd d_Stp_perform 56 rfl) rfl ?_
      refine g_geti (pc := 202) (dd d_Stp_perform 57 rfl) f_Stp_131 oc_Stp rfl ?_
      refine g_istore_n (pc := 205) (dd d_Stp_perform 58 rfl) (by decide) ?_
      refine g_goto (pc := 206) (tgt := 317) (dd d_Stp_perform 59 rfl) (by decide) ?_
      refine g_drop [2] ?_
      exact gb_Stp_perform_317 hX h_x1 hk hT  h
    · obtain rfl : off = 193 := (Option.some.inj ho).symm
      refine ⟨209, by decide, ?_⟩
      replace w1 : (I 35 4 : Int32) = 17 := Int32.toInt_inj.mp w1
      replace h := ite_f h (by rw [w1]; decide)
      replace h := ite_f h (by rw [w1]; decide)
      replace h := ite_f h (by rw [w1]; decide)
      replace h := ite_f h (by rw [w1]; decide)
      replace h := ite_f h (by rw [w1]; decide)
      replace h := ite_f h (by rw [w1]; decide)
      replace h := ite_f h (by rw [w1]; decide)
      replace h := ite_f h (by rw [w1]; decide)
      replace h := ite_f h (by rw [w1]; decide)
      replace h := ite_f h (by rw [w1]; decide)
      replace h := ite_f h (by rw [w1]; decide)
      replace h := ite_f h (by rw [w1]; decide)
      replace h := ite_f h (by rw [w1]; decide)
      replace h := ite_f h (by rw [w1]; decide)
      replace h := ite_f h (by rw [w1]; decide)
      replace h := ite_f h (by rw [w1]; decide)
      replace h := ite_f h (by rw [w1]; decide)
      replace h := ite_t h w1
      refine g_aload_n (pc := 209) (dd d_Stp_perform_1 0 rfl) rfl ?_
      refine g_aload_n (pc := 210) (dd d_Stp_perform_1 1 rfl) rfl ?_
      refine g_aload_n (pc := 211) (dd d_Stp_perform_1 2 rfl) rfl ?_
      refine g_geti (pc := 212) (dd d_Stp_perform_1 3 rfl) f_Stp_122 oc_Stp rfl ?_
      obtain ⟨c10, h⟩ := chk_e h
      refine g_iald (pc := 215) (dd d_Stp_perform_1 4 rfl) (ax_Mch_8 h_x1) c10 ?_
      obtain ⟨v11, e12, h⟩ := bnd_e h
      refine g_callV (pc := 216) (dd d_Stp_perform_1 5 rfl) v_Stp_203 (oc_Mch h_x1) rfl (ef_Mch_putOut hX h_x1 e12) rfl (by omega) (Nat.le_of_ble_eq_true rfl) ⟨Nat.zero_le _, Nat.zero_le _⟩ rfl ?_
      refine g_goto (pc := 219) (tgt := 317) (dd d_Stp_perform_1 6 rfl) (by decide) ?_
      refine g_drop [2] ?_
      exact gb_Stp_perform_317 hX h_x1 hk hT  h
    · obtain rfl : off = 206 := (Option.some.inj ho).symm
      refine ⟨222, by decide, ?_⟩
      replace w1 : (I 35 4 : Int32) = 18 := Int32.toInt_inj.mp w1
      replace h := ite_f h (by rw [w1]; decide)
      replace h := ite_f h (by rw [w1]; decide)
      replace h := ite_f h (by rw [w1]; decide)
      replace h := ite_f h (by rw [w1]; decide)
      replace h := ite_f h (by rw [w1]; decide)
      replace h := ite_f h (by rw [w1]; decide)
      replace h := ite_f h (by rw [w1]; decide)
      replace h := ite_f h (by rw [w1]; decide)
      replace h := ite_f h (by rw [w1]; decide)
      replace h := ite_f h (by rw [w1]; decide)
      replace h := ite_f h (by rw [w1]; decide)
      replace h := ite_f h (by rw [w1]; decide)
      replace h := ite_f h (by rw [w1]; decide)
      replace h := ite_f h (by rw [w1]; decide)
      replace h := ite_f h (by rw [w1]; decide)
      replace h := ite_f h (by rw [w1]; decide)
      replace h := ite_f h (by rw [w1]; decide)
      replace h := ite_f h (by rw [w1]; decide)
      replace h := ite_t h w1
      refine g_aload_n (pc := 222) (dd d_Stp_perform_1 7 rfl) rfl ?_
      refine g_aload_n (pc := 223) (dd d_Stp_perform_1 8 rfl) rfl ?_
      refine g_geti (pc := 224) (dd d_Stp_perform_1 9 rfl) f_Stp_122 oc_Stp rfl ?_
      refine g_aload_n (pc := 227) (dd d_Stp_perform_1 10 rfl) rfl ?_
      obtain ⟨v13, e14, h⟩ := bnd_e h
      refine g_callV (pc := 228) (dd d_Stp_perform_1 11 rfl) v_Stp_207 (oc_Mch h_x1) rfl (ef_Mch_takeInput hX h_x1 e14) rfl (by omega) (Nat.le_of_ble_eq_true rfl) ⟨Nat.zero_le _, Nat.zero_le _⟩ rfl ?_
      refine g_aload_n (pc := 231) (dd d_Stp_perform_1 12 rfl) rfl ?_
      refine g_geti (pc := 232) (dd d_Stp_perform_1 13 rfl) f_Stp_26 oc_Stp rfl ?_
      obtain ⟨v15, e16, h⟩ := bnd_e h
      refine g_callV (pc := 235) (dd d_Stp_perform_1 14 rfl) v_Stp_199 (oc_Mch h_x1) rfl (ef_Mch_setRegister hX h_x1 e16) rfl (by omega) (Nat.le_of_ble_eq_true rfl) ⟨Nat.zero_le _, Nat.zero_le _⟩ rfl ?_
      refine g_goto (pc := 238) (tgt := 317) (dd d_Stp_perform_1 15 rfl) (by decide) ?_
      refine g_drop [2] ?_
      exact gb_Stp_perform_317 hX h_x1 hk hT  h
    · obtain rfl : off = 225 := (Option.some.inj ho).symm
      refine ⟨241, by decide, ?_⟩
      replace w1 : (I 35 4 : Int32) = 19 := Int32.toInt_inj.mp w1
      replace h := ite_f h (by rw [w1]; decide)
      replace h := ite_f h (by rw [w1]; decide)
      replace h := ite_f h (by rw [w1]; decide)
      replace h := ite_f h (by rw [w1]; decide)
      replace h := ite_f h (by rw [w1]; decide)
      replace h := ite_f h (by rw [w1]; decide)
      replace h := ite_f h (by rw [w1]; decide)
      replace h := ite_f h (by rw [w1]; decide)
      replace h := ite_f h (by rw [w1]; decide)
      replace h := ite_f h (by rw [w1]; decide)
      replace h := ite_f h (by rw [w1]; decide)
      replace h := ite_f h (by rw [w1]; decide)
      replace h := ite_f h (by rw [w1]; decide)
      replace h := ite_f h (by rw [w1]; decide)
      replace h := ite_f h (by rw [w1]; decide)
      replace h := ite_f h (by rw [w1]; decide)
      replace h := ite_f h (by rw [w1]; decide)
      replace h := ite_f h (by rw [w1]; decide)
      replace h := ite_f h (by rw [w1]; decide)
      replace h := ite_t h w1
      refine g_aload_n (pc := 241) (dd d_Stp_perform_1 16 rfl) rfl ?_
      refine g_aload_n (pc := 242) (dd d_Stp_perform_1 17 rfl) rfl ?_
      refine g_geti (pc := 243) (dd d_Stp_perform_1 18 rfl) f_Stp_189 oc_Stp rfl ?_
      refine g_aload_n (pc := 246) (dd d_Stp_perform_1 19 rfl) rfl ?_
      refine g_aload_n (pc := 247) (dd d_Stp_perform_1 20 rfl) rfl ?_
      refine g_geti (pc := 248) (dd d_Stp_perform_1 21 rfl) f_Stp_125 oc_Stp rfl ?_
      obtain ⟨c17, h⟩ := chk_e h
      refine g_iald (pc := 251) (dd d_Stp_perform_1 22 rfl) (ax_Mch_8 h_x1) c17 ?_
      refine g_aload_n (pc := 252) (dd d_Stp_perform_1 23 rfl) rfl ?_
      refine g_geti (pc := 253) (dd d_Stp_perform_1 24 rfl) f_Stp_192 oc_Stp rfl ?_
      obtain ⟨v18, e19, h⟩ := bnd_e h
      refine g_callV (pc := 256) (dd d_Stp_perform_1 25 rfl) v_Stp_211 (oc_Mch h_x1) rfl (ef_Mch_handOut hX h_x1 e19) rfl (by omega) (Nat.le_of_ble_eq_true rfl) ⟨Nat.zero_le _, Nat.zero_le _⟩ rfl ?_
      refine g_aload_n (pc := 259) (dd d_Stp_perform_1 26 rfl) rfl ?_
      refine g_getr (pc := 260) (dd d_Stp_perform_1 27 rfl) f_Stp_36 (oc_Mch h_x1) rfl (rx_Mch_15 hX h_x1) ?_
      refine g_bipush (pc := 263) (v := 6) (dd d_Stp_perform_1 28 rfl) (by decide) ?_
      refine g_dup2 (pc := 265) (dd d_Stp_perform_1 29 rfl) rfl rfl ?_
      refine g_iald (pc := 266) (dd d_Stp_perform_1 30 rfl) (ax_Mch_15 h_x1) (by rw [vp_in_iff]; decide) ?_
      refine g_iconst (pc := 267) (v := 1) (dd d_Stp_perform_1 31 rfl) (by decide) ?_
      refine g_iadd (pc := 268) (dd d_Stp_perform_1 32 rfl) ?_
      refine g_iastN (pc := 269) (dd d_Stp_perform_1 33 rfl) (ax_Mch_15 h_x1) (by rw [vp_in_iff]; decide) (fun I20 hI20 => ?_)
      replace h := lt_e h hI20
      refine g_aload_n (pc := 270) (dd d_Stp_perform_1 34 rfl) rfl ?_
      refine g_aload_n (pc := 271) (dd d_Stp_perform_1 35 rfl) rfl ?_
      refine g_geti (pc := 272) (dd d_Stp_perform_1 36 rfl) f_Stp_122 oc_Stp rfl ?_
      refine g_aload_n (pc := 275) (dd d_Stp_perform_1 37 rfl) rfl ?_
      refine g_geti (pc := 276) (dd d_Stp_perform_1 38 rfl) f_Stp_189 oc_Stp rfl ?_
      refine g_aload_n (pc := 279) (dd d_Stp_perform_1 39 rfl) rfl ?_
      refine g_geti (pc := 280) (dd d_Stp_perform_1 40 rfl) f_Stp_26 oc_Stp rfl ?_
      obtain ⟨v21, e22, h⟩ := bnd_e h
      refine g_callV (pc := 283) (dd d_Stp_perform_1 41 rfl) v_Stp_199 (oc_Mch h_x1) rfl (ef_Mch_setRegister hX h_x1 e22) rfl (by omega) (Nat.le_of_ble_eq_true rfl) ⟨Nat.zero_le _, Nat.zero_le _⟩ rfl ?_
      refine g_goto (pc := 286) (tgt := 317) (dd d_Stp_perform_1 42 rfl) (by decide) ?_
      refine g_drop [2] ?_
      exact gb_Stp_perform_317 hX h_x1 hk hT  h
    · obtain rfl : off = 273 := (Option.some.inj ho).symm
      refine ⟨289, by decide, ?_⟩
      replace w1 : (I 35 4 : Int32) = 20 := Int32.toInt_inj.mp w1
      replace h := ite_f h (by rw [w1]; decide)
      replace h := ite_f h (by rw [w1]; decide)
      replace h := ite_f h (by rw [w1]; decide)
      replace h := ite_f h (by rw [w1]; decide)
      replace h := ite_f h (by rw [w1]; decide)
      replace h := ite_f h (by rw [w1]; decide)
      replace h := ite_f h (by rw [w1]; decide)
      replace h := ite_f h (by rw [w1]; decide)
      replace h := ite_f h (by rw [w1]; decide)
      replace h := ite_f h (by rw [w1]; decide)
      replace h := ite_f h (by rw [w1]; decide)
      replace h := ite_f h (by rw [w1]; decide)
      replace h := ite_f h (by rw [w1]; decide)
      replace h := ite_f h (by rw [w1]; decide)
      replace h := ite_f h (by rw [w1]; decide)
      replace h := ite_f h (by rw [w1]; decide)
      replace h := ite_f h (by rw [w1]; decide)
      replace h := ite_f h (by rw [w1]; decide)
      replace h := ite_f h (by rw [w1]; decide)
      replace h := ite_f h (by rw [w1]; decide)
      replace h := ite_t h w1
      refine g_aload_n (pc := 289) (dd d_Stp_perform_1 43 rfl) rfl ?_
      refine g_aload_n (pc := 290) (dd d_Stp_perform_1 44 rfl) rfl ?_
      refine g_geti (pc := 291) (dd d_Stp_perform_1 45 rfl) f_Stp_192 oc_Stp rfl ?_
      obtain ⟨v23, e24, h⟩ := bnd_e h
      refine g_callV (pc := 294) (dd d_Stp_perform_1 46 rfl) v_Stp_214 (oc_Mch h_x1) rfl (ef_Mch_free hX h_x1 e24) rfl (by omega) (Nat.le_of_ble_eq_true rfl) ⟨Nat.zero_le _, Nat.zero_le _⟩ rfl ?_
      refine g_goto (pc := 297) (tgt := 317) (dd d_Stp_perform_1 47 rfl) (by decide) ?_
      refine g_drop [2] ?_
      exact gb_Stp_perform_317 hX h_x1 hk hT  h
    · cases ho
  · skip
    replace w1 : ((I 35 4 : Int32)).toInt < 0 ∨ 20 < ((I 35 4 : Int32)).toInt := w1
    replace h := ite_f h (fun e => by rw [e] at w1; revert w1; decide)
    replace h := ite_f h (fun e => by rw [e] at w1; revert w1; decide)
    replace h := ite_f h (fun e => by rw [e] at w1; revert w1; decide)
    replace h := ite_f h (fun e => by rw [e] at w1; revert w1; decide)
    replace h := ite_f h (fun e => by rw [e] at w1; revert w1; decide)
    replace h := ite_f h (fun e => by rw [e] at w1; revert w1; decide)
    replace h := ite_f h (fun e => by rw [e] at w1; revert w1; decide)
    replace h := ite_f h (fun e => by rw [e] at w1; revert w1; decide)
    replace h := ite_f h (fun e => by rw [e] at w1; revert w1; decide)
    replace h := ite_f h (fun e => by rw [e] at w1; revert w1; decide)
    replace h := ite_f h (fun e => by rw [e] at w1; revert w1; decide)
    replace h := ite_f h (fun e => by rw [e] at w1; revert w1; decide)
    replace h := ite_f h (fun e => by rw [e] at w1; revert w1; decide)
    replace h := ite_f h (fun e => by rw [e] at w1; revert w1; decide)
    replace h := ite_f h (fun e => by rw [e] at w1; revert w1; decide)
    replace h := ite_f h (fun e => by rw [e] at w1; revert w1; decide)
    replace h := ite_f h (fun e => by rw [e] at w1; revert w1; decide)
    replace h := ite_f h (fun e => by rw [e] at w1; revert w1; decide)
    replace h := ite_f h (fun e => by rw [e] at w1; revert w1; decide)
    replace h := ite_f h (fun e => by rw [e] at w1; revert w1; decide)
    replace h := ite_f h (fun e => by rw [e] at w1; revert w1; decide)
    refine g_drop [2] ?_
    exact gb_Stp_perform_300 hX h_x1 hk hT  h
def b_Stp_tryOut_32 (n : Nat) (x1 : Nat) (x2 : Nat)   (I : IM) : Option (Int32 × IM) := some (2, I)
set_option maxRecDepth 20000 in
set_option maxHeartbeats 4000000 in
theorem gb_Stp_tryOut_32 {Δ : Dx} {X : Lx} {rl hd ot pt it : Nat} (hX : EX Δ X rl hd ot pt it) {x1 : Nat} {x2 : Nat} (h_x1 : isMch x1) (h_x2 : isPol x2) {n : Nat} {Γ : Cx} (hk : Γ.k = 5) {r : Int32 × IM} (hT : Tg Δ Γ (some (.int r.1)) NN (r.2, X) 0 0)   {I : IM} (h : b_Stp_tryOut_32 n x1 x2   I = some r) : GG Δ m_Stp_tryOut Γ NN 0 0 (I, X) 32 [none, none, none, none] [] := by
  unfold b_Stp_tryOut_32 at h
  refine g_iconst (pc := 32) (v := 2) (dd d_Stp_tryOut 16 rfl) (by decide) ?_
  cases h
  exact g_iret (pc := 33) rfl (dd d_Stp_tryOut 17 rfl) hT
def b_Stp_tryOut_127 (n : Nat) (x1 : Nat) (x2 : Nat)  (x3 : Int32) (I : IM) : Option (Int32 × IM) := if x3 = 0 then (chk (inb (I 35 4) 22) <| Option.bind (f_Stp_settle  x1 (I (x2 + 6) (I 35 4 : Int32).toNatClampNeg) I) fun v24 => Option.bind (f_Stp_perform n x1 v24) fun v26 => some (if (v26 35 4 : Int32) = 0 then 1 else 0, v26)) else (some (x3, I))
set_option maxRecDepth 20000 in
set_option maxHeartbeats 4000000 in
theorem gb_Stp_tryOut_127 {Δ : Dx} {X : Lx} {rl hd ot pt it : Nat} (hX : EX Δ X rl hd ot pt it) {x1 : Nat} {x2 : Nat} (h_x1 : isMch x1) (h_x2 : isPol x2) {n : Nat} {Γ : Cx} (hk : Γ.k = 5) {r : Int32 × IM} (hT : Tg Δ Γ (some (.int r.1)) NN (r.2, X) 0 0)  {x3 : Int32} {I : IM} (h : b_Stp_tryOut_127 n x1 x2  x3 I = some r) : GG Δ m_Stp_tryOut Γ NN 0 0 (I, X) 127 [some (.ref (Δ.ba + 35)), some (.ref (Δ.ba + x1)), some (.ref (Δ.ba + x2)), some (.int (x3))] [] := by
  unfold b_Stp_tryOut_127 at h
  refine g_iload_n (pc := 127) (dd d_Stp_tryOut_1 11 rfl) rfl ?_
  refine g_ifeq (pc := 128) (tgt := 133) (dd d_Stp_tryOut_1 12 rfl) (by decide) (fun q22 => ?_) (fun q22 => ?_)
  · replace h := ite_t h q22
    refine g_aload_n (pc := 133) (dd d_Stp_tryOut_1 15 rfl) rfl ?_
    refine g_aload_n (pc := 134) (dd d_Stp_tryOut_1 16 rfl) rfl ?_
    refine g_aload_n (pc := 135) (dd d_Stp_tryOut_1 17 rfl) rfl ?_
    refine g_getr (pc := 136) (dd d_Stp_tryOut_1 18 rfl) f_Stp_112 (oc_Pol h_x2) rfl (rx_Pol_6 hX h_x2) ?_
    refine g_aload_n (pc := 139) (dd d_Stp_tryOut_1 19 rfl) rfl ?_
    refine g_geti (pc := 140) (dd d_Stp_tryOut_1 20 rfl) f_Stp_57 oc_Stp rfl ?_
    obtain ⟨c23, h⟩ := chk_e h
    refine g_iald (pc := 143) (dd d_Stp_tryOut_1 21 rfl) (ax_Pol_6 h_x2) c23 ?_
    obtain ⟨v24, e25, h⟩ := bnd_e h
    refine g_callV (pc := 144) (dd d_Stp_tryOut_1 22 rfl) v_Stp_115 oc_Stp rfl (ef_Stp_settle hX h_x1 e25) rfl (by omega) (Nat.le_of_ble_eq_true rfl) ⟨Nat.zero_le _, Nat.zero_le _⟩ rfl ?_
    refine g_aload_n (pc := 147) (dd d_Stp_tryOut_1 23 rfl) rfl ?_
    refine g_aload_n (pc := 148) (dd d_Stp_tryOut_1 24 rfl) rfl ?_
    obtain ⟨v26, e27, h⟩ := bnd_e h
    refine g_callV (pc := 149) (dd d_Stp_tryOut_1 25 rfl) v_Stp_118 oc_Stp rfl (ef_Stp_perform hX h_x1 e27) rfl (by omega) (Nat.le_of_ble_eq_true rfl) ⟨Nat.zero_le _, Nat.zero_le _⟩ rfl ?_
    refine g_aload_n (pc := 152) (dd d_Stp_tryOut_1 26 rfl) rfl ?_
    refine g_geti (pc := 153) (dd d_Stp_tryOut_1 27 rfl) f_Stp_57 oc_Stp rfl ?_
    suffices K156 : ∀ z : Int32, z = (if (v26 35 4 : Int32) = 0 then 1 else 0 : Int32) → GG Δ m_Stp_tryOut Γ NN 0 0 (v26, X) 164 [some (.ref (Δ.ba + 35)), some (.ref (Δ.ba + x1)), some (.ref (Δ.ba + x2)), some (.int (x3))] [.int (z)] by
      refine g_ifne (pc := 156) (tgt := 163) (dd d_Stp_tryOut_1 28 rfl) (by decide) (fun q28 => ?_) (fun q28 => ?_)
      · skip
        refine g_iconst (pc := 163) (v := 0) (dd d_Stp_tryOut_1 31 rfl) (by decide) ?_
        exact K156 _ (by rw [if_neg q28])
      · skip
        refine g_iconst (pc := 159) (v := 1) (dd d_Stp_tryOut_1 29 rfl) (by decide) ?_
        refine g_goto (pc := 160) (tgt := 164) (dd d_Stp_tryOut_1 30 rfl) (by decide) ?_
        exact K156 _ (by rw [if_pos q28])
    intro z hz
    subst hz
    cases h
    exact g_iret (pc := 164) rfl (dd d_Stp_tryOut_1 32 rfl) hT
  · replace h := ite_f h q22
    refine g_iload_n (pc := 131) (dd d_Stp_tryOut_1 13 rfl) rfl ?_
    cases h
    exact g_iret (pc := 132) rfl (dd d_Stp_tryOut_1 14 rfl) hT
def f_Stp_tryOut (n : Nat) (x1 : Nat) (x2 : Nat) (I : IM) : Option (Int32 × IM) := lt (up I 35 2 (I (x1 + 6) (8 : Int32).toNatClampNeg)) fun I1 => lt (up I1 35 4 ((-1))) fun I2 => if (I2 35 2 : Int32) < 0 then (b_Stp_tryOut_32 n x1 x2  I2) else (if (I2 35 2 : Int32) < (64 : Int32) then (chk (inb (I2 35 2) 64) <| Option.bind (f_Stp_decode  (I2 (x1 + 1) (I2 35 2 : Int32).toNatClampNeg) x1 I2) fun v6 => chk (inb (v6 35 2) 64) <| lt (up v6 35 3 (v6 (x1 + 2) (v6 35 2 : Int32).toNatClampNeg)) fun I9 => Option.bind (f_Pol_hasRule  x2 (I9 35 4) I9) fun v10 => if v10 = 0 then (some (2, I9)) else (chk (inb (I9 35 4) 22) <| Option.bind (f_Stp_fillQuestion n x1 (I9 (x2 + 5) (I9 35 4 : Int32).toNatClampNeg) I9) fun v14 => Option.bind (f_Stp_ask n x1 x2 v14) fun v16 => lt (up v16 x1 2 (v16 37 (5 : Int32).toNatClampNeg)) fun I18 => if (v16 37 (1 : Int32).toNatClampNeg : Int32) = 0 then (Option.bind (f_Stp_hindrance n x1 I18) fun v20 => b_Stp_tryOut_127 n x1 x2  v20.1 v20.2) else (b_Stp_tryOut_127 n x1 x2  (v16 37 (1 : Int32).toNatClampNeg) I18))) else (b_Stp_tryOut_32 n x1 x2  I2))
set_option maxRecDepth 20000 in
set_option maxHeartbeats 4000000 in
theorem ef_Stp_tryOut {Δ : Dx} {X : Lx} {rl hd ot pt it : Nat} (hX : EX Δ X rl hd ot pt it) {n : Nat} {x1 : Nat} {x2 : Nat} (h_x1 : isMch x1) (h_x2 : isPol x2) {I : IM}  {r : Int32 × IM} (h : f_Stp_tryOut n x1 x2 I = some r) : Ev Δ (5) m_Stp_tryOut [.ref (Δ.ba + 35), .ref (Δ.ba + x1), .ref (Δ.ba + x2)] (I, X) (some (.int r.1)) (r.2, X) := by
  refine ev_of (by decide) (Nat.le_of_ble_eq_true rfl) (fun Γ hk hR hT => ?_)
  change GG Δ m_Stp_tryOut Γ NN 0 0 (I, X) 0 [some (.ref (Δ.ba + 35)), some (.ref (Δ.ba + x1)), some (.ref (Δ.ba + x2)), none] []
  unfold f_Stp_tryOut at h
  refine g_aload_n (pc := 0) (dd d_Stp_tryOut 0 rfl) rfl ?_
  refine g_aload_n (pc := 1) (dd d_Stp_tryOut 1 rfl) rfl ?_
  refine g_getr (pc := 2) (dd d_Stp_tryOut 2 rfl) f_Stp_73 (oc_Mch h_x1) rfl (rx_Mch_8 hX h_x1) ?_
  refine g_bipush (pc := 5) (v := 8) (dd d_Stp_tryOut 3 rfl) (by decide) ?_
  refine g_iald (pc := 7) (dd d_Stp_tryOut 4 rfl) (ax_Mch_8 h_x1) (by rw [vp_in_iff]; decide) ?_
  refine g_putiN (pc := 8) (dd d_Stp_tryOut 5 rfl) f_Stp_54 fm_Stp_2 oc_Stp rfl (fun I1 hI1 => ?_)
  replace h := lt_e h hI1
  refine g_aload_n (pc := 11) (dd d_Stp_tryOut 6 rfl) rfl ?_
  refine g_iconst (pc := 12) (v := (-1)) (dd d_Stp_tryOut 7 rfl) (by decide) ?_
  refine g_putiN (pc := 13) (dd d_Stp_tryOut 8 rfl) f_Stp_57 fm_Stp_4 oc_Stp rfl (fun I2 hI2 => ?_)
  replace h := lt_e h hI2
  refine g_aload_n (pc := 16) (dd d_Stp_tryOut 9 rfl) rfl ?_
  refine g_geti (pc := 17) (dd d_Stp_tryOut 10 rfl) f_Stp_54 oc_Stp rfl ?_
  refine g_iflt (pc := 20) (tgt := 32) (dd d_Stp_tryOut 11 rfl) (by decide) (fun q3 => ?_) (fun q3 => ?_)
  · replace h := ite_t h q3
    refine g_drop [0, 1, 2] ?_
    exact gb_Stp_tryOut_32 hX h_x1 h_x2 hk hT  h
  · replace h := ite_f h q3
    refine g_aload_n (pc := 23) (dd d_Stp_tryOut 12 rfl) rfl ?_
    refine g_geti (pc := 24) (dd d_Stp_tryOut 13 rfl) f_Stp_54 oc_Stp rfl ?_
    refine g_bipush (pc := 27) (v := 64) (dd d_Stp_tryOut 14 rfl) (by decide) ?_
    refine g_icmplt (pc := 29) (tgt := 34) (dd d_Stp_tryOut 15 rfl) (by decide) (fun q4 => ?_) (fun q4 => ?_)
    · replace h := ite_t h q4
      refine g_aload_n (pc := 34) (dd d_Stp_tryOut 18 rfl) rfl ?_
      refine g_aload_n (pc := 35) (dd d_Stp_tryOut 19 rfl) rfl ?_
      refine g_getr (pc := 36) (dd d_Stp_tryOut 20 rfl) f_Stp_76 (oc_Mch h_x1) rfl (rx_Mch_3 hX h_x1) ?_
      refine g_aload_n (pc := 39) (dd d_Stp_tryOut 21 rfl) rfl ?_
      refine g_geti (pc := 40) (dd d_Stp_tryOut 22 rfl) f_Stp_54 oc_Stp rfl ?_
      obtain ⟨c5, h⟩ := chk_e h
      refine g_iald (pc := 43) (dd d_Stp_tryOut 23 rfl) (ax_Mch_3 h_x1) c5 ?_
      refine g_aload_n (pc := 44) (dd d_Stp_tryOut 24 rfl) rfl ?_
      obtain ⟨v6, e7, h⟩ := bnd_e h
      refine g_callV (pc := 45) (dd d_Stp_tryOut 25 rfl) v_Stp_79 oc_Stp rfl (ef_Stp_decode hX h_x1 e7) rfl (by omega) (Nat.le_of_ble_eq_true rfl) ⟨Nat.zero_le _, Nat.zero_le _⟩ rfl ?_
      refine g_aload_n (pc := 48) (dd d_Stp_tryOut 26 rfl) rfl ?_
      refine g_aload_n (pc := 49) (dd d_Stp_tryOut 27 rfl) rfl ?_
      refine g_getr (pc := 50) (dd d_Stp_tryOut 28 rfl) f_Stp_83 (oc_Mch h_x1) rfl (rx_Mch_4 hX h_x1) ?_
      refine g_aload_n (pc := 53) (dd d_Stp_tryOut 29 rfl) rfl ?_
      refine g_geti (pc := 54) (dd d_Stp_tryOut 30 rfl) f_Stp_54 oc_Stp rfl ?_
      obtain ⟨c8, h⟩ := chk_e h
      refine g_iald (pc := 57) (dd d_Stp_tryOut 31 rfl) (ax_Mch_4 h_x1) c8 ?_
      refine g_putiN (pc := 58) (dd d_Stp_tryOut 32 rfl) f_Stp_41 fm_Stp_3 oc_Stp rfl (fun I9 hI9 => ?_)
      replace h := lt_e h hI9
      refine g_aload_n (pc := 61) (dd d_Stp_tryOut 33 rfl) rfl ?_
      refine g_aload_n (pc := 62) (dd d_Stp_tryOut 34 rfl) rfl ?_
      refine g_geti (pc := 63) (dd d_Stp_tryOut 35 rfl) f_Stp_57 oc_Stp rfl ?_
      obtain ⟨v10, e11, h⟩ := bnd_e h
      refine g_callV (pc := 66) (dd d_Stp_tryOut 36 rfl) v_Stp_86 (oc_Pol h_x2) rfl (ef_Pol_hasRule hX h_x2 e11) rfl (by omega) (Nat.le_of_ble_eq_true rfl) ⟨Nat.zero_le _, Nat.zero_le _⟩ rfl ?_
      refine g_ifne (pc := 69) (tgt := 74) (dd d_Stp_tryOut 37 rfl) (by decide) (fun q12 => ?_) (fun q12 => ?_)
      · replace h := ite_f h q12
        refine g_aload_n (pc := 74) (dd d_Stp_tryOut 40 rfl) rfl ?_
        refine g_aload_n (pc := 75) (dd d_Stp_tryOut 41 rfl) rfl ?_
        refine g_aload_n (pc := 76) (dd d_Stp_tryOut 42 rfl) rfl ?_
        refine g_getr (pc := 77) (dd d_Stp_tryOut 43 rfl) f_Stp_92 (oc_Pol h_x2) rfl (rx_Pol_5 hX h_x2) ?_
        refine g_aload_n (pc := 80) (dd d_Stp_tryOut 44 rfl) rfl ?_
        refine g_geti (pc := 81) (dd d_Stp_tryOut 45 rfl) f_Stp_57 oc_Stp rfl ?_
        obtain ⟨c13, h⟩ := chk_e h
        refine g_iald (pc := 84) (dd d_Stp_tryOut 46 rfl) (ax_Pol_5 h_x2) c13 ?_
        obtain ⟨v14, e15, h⟩ := bnd_e h
        refine g_callV (pc := 85) (dd d_Stp_tryOut 47 rfl) v_Stp_95 oc_Stp rfl (ef_Stp_fillQuestion hX h_x1 e15) rfl (by omega) (Nat.le_of_ble_eq_true rfl) ⟨Nat.zero_le _, Nat.zero_le _⟩ rfl ?_
        refine g_aload_n (pc := 88) (dd d_Stp_tryOut 48 rfl) rfl ?_
        refine g_aload_n (pc := 89) (dd d_Stp_tryOut 49 rfl) rfl ?_
        refine g_aload_n (pc := 90) (dd d_Stp_tryOut 50 rfl) rfl ?_
        obtain ⟨v16, e17, h⟩ := bnd_e h
        refine g_callV (pc := 91) (dd d_Stp_tryOut 51 rfl) v_Stp_98 oc_Stp rfl (ef_Stp_ask hX h_x1 h_x2 e17) rfl (by omega) (Nat.le_of_ble_eq_true rfl) ⟨Nat.zero_le _, Nat.zero_le _⟩ rfl ?_
        refine g_aload_n (pc := 94) (dd d_Stp_tryOut 52 rfl) rfl ?_
        refine g_getr (pc := 95) (dd d_Stp_tryOut 53 rfl) f_Stp_12 oc_Stp rfl (rx_Stp_0 hX) ?_
        refine g_getr (pc := 98) (dd d_Stp_tryOut 54 rfl) f_Stp_102 (oc_Wrk (by decide)) rfl (rx_Wrk_0 (a := 36) hX (by decide)) ?_
        refine g_iconst (pc := 101) (v := 1) (dd d_Stp_tryOut 55 rfl) (by decide) ?_
        refine g_iald (pc := 102) (dd d_Stp_tryOut 56 rfl) (ax_Wrk_0 (a := 36) (by decide)) (by rw [vp_in_iff]; decide) ?_
        refine g_istore_n (pc := 103) (dd d_Stp_tryOut 57 rfl) (by decide) ?_
        refine g_aload_n (pc := 104) (dd d_Stp_tryOut 58 rfl) rfl ?_
        refine g_aload_n (pc := 105) (dd d_Stp_tryOut 59 rfl) rfl ?_
        refine g_getr (pc := 106) (dd d_Stp_tryOut_1 0 rfl) f_Stp_12 oc_Stp rfl (rx_Stp_0 hX) ?_
        refine g_getr (pc := 109) (dd d_Stp_tryOut_1 1 rfl) f_Stp_102 (oc_Wrk (by decide)) rfl (rx_Wrk_0 (a := 36) hX (by decide)) ?_
        refine g_iconst (pc := 112) (v := 5) (dd d_Stp_tryOut_1 2 rfl) (by decide) ?_
        refine g_iald (pc := 113) (dd d_Stp_tryOut_1 3 rfl) (ax_Wrk_0 (a := 36) (by decide)) (by rw [vp_in_iff]; decide) ?_
        refine g_putiN (pc := 114) (dd d_Stp_tryOut_1 4 rfl) f_Stp_105 fm_Mch_2 (oc_Mch h_x1) rfl (fun I18 hI18 => ?_)
        replace h := lt_e h hI18
        refine g_iload_n (pc := 117) (dd d_Stp_tryOut_1 5 rfl) rfl ?_
        refine g_ifne (pc := 118) (tgt := 127) (dd d_Stp_tryOut_1 6 rfl) (by decide) (fun q19 => ?_) (fun q19 => ?_)
        · replace h := ite_f h q19
          exact gb_Stp_tryOut_127 hX h_x1 h_x2 hk hT  h
        · replace h := ite_t h q19
          refine g_aload_n (pc := 121) (dd d_Stp_tryOut_1 7 rfl) rfl ?_
          refine g_aload_n (pc := 122) (dd d_Stp_tryOut_1 8 rfl) rfl ?_
          obtain ⟨v20, e21, h⟩ := bnd_e h
          refine g_callV (pc := 123) (dd d_Stp_tryOut_1 9 rfl) v_Stp_108 oc_Stp rfl (ef_Stp_hindrance hX h_x1 e21) rfl (by omega) (Nat.le_of_ble_eq_true rfl) ⟨Nat.zero_le _, Nat.zero_le _⟩ rfl ?_
          refine g_istore_n (pc := 126) (dd d_Stp_tryOut_1 10 rfl) (by decide) ?_
          exact gb_Stp_tryOut_127 hX h_x1 h_x2 hk hT  h
      · replace h := ite_t h q12
        refine g_iconst (pc := 72) (v := 2) (dd d_Stp_tryOut 38 rfl) (by decide) ?_
        cases h
        exact g_iret (pc := 73) rfl (dd d_Stp_tryOut 39 rfl) hT
    · replace h := ite_f h q4
      refine g_drop [0, 1, 2] ?_
      exact gb_Stp_tryOut_32 hX h_x1 h_x2 hk hT  h
