/-! the class: each method a function, and its contract -/
def b_Wrk_pop_19 (x0 : Nat)   (I : IM) : Option (Int32 × IM) := some (0, I)
set_option maxRecDepth 20000 in
set_option maxHeartbeats 4000000 in
theorem gb_Wrk_pop_19 {Δ : Dx} {X : Lx} {rl hd ot pt it : Nat} (hX : EX Δ X rl hd ot pt it) {x0 : Nat} (h_x0 : isWrk x0)  {Γ : Cx} (hk : Γ.k = 0) {r : Int32 × IM} (hT : Tg Δ Γ (some (.int r.1)) NN (r.2, X) 0 0)   {I : IM} (h : b_Wrk_pop_19 x0   I = some r) : GG Δ m_Wrk_pop Γ NN 0 0 (I, X) 19 [none] [] := by
  unfold b_Wrk_pop_19 at h
  refine g_iconst (pc := 19) (v := 0) (dd d_Wrk_pop 9 rfl) (by decide) ?_
  cases h
  exact g_iret (pc := 20) rfl (dd d_Wrk_pop 10 rfl) hT
def f_Wrk_pop (x0 : Nat) (I : IM) : Option (Int32 × IM) := if (I x0 2 : Int32) ≤ 0 then (b_Wrk_pop_19 x0  I) else (if (I x0 2 : Int32) ≤ (64 : Int32) then (lt (up I x0 2 ((I x0 2) - 1)) fun I3 => chk (inb (I3 x0 2) 64) <| some (I3 (x0 + 2) (I3 x0 2 : Int32).toNatClampNeg, I3)) else (b_Wrk_pop_19 x0  I))
set_option maxRecDepth 20000 in
set_option maxHeartbeats 4000000 in
theorem ef_Wrk_pop {Δ : Dx} {X : Lx} {rl hd ot pt it : Nat} (hX : EX Δ X rl hd ot pt it) {x0 : Nat} (h_x0 : isWrk x0) {I : IM}  {r : Int32 × IM} (h : f_Wrk_pop x0 I = some r) : Ev Δ (0) m_Wrk_pop [.ref (Δ.ba + x0)] (I, X) (some (.int r.1)) (r.2, X) := by
  refine ev_of (by decide) (Nat.le_of_ble_eq_true rfl) (fun Γ hk hR hT => ?_)
  change GG Δ m_Wrk_pop Γ NN 0 0 (I, X) 0 [some (.ref (Δ.ba + x0))] []
  unfold f_Wrk_pop at h
  refine g_aload_n (pc := 0) (dd d_Wrk_pop 0 rfl) rfl ?_
  refine g_geti (pc := 1) (dd d_Wrk_pop 1 rfl) f_Wrk_27 (oc_Wrk h_x0) rfl ?_
  refine g_ifle (pc := 4) (tgt := 19) (dd d_Wrk_pop 2 rfl) (by decide) (fun q1 => ?_) (fun q1 => ?_)
  · replace h := ite_t h q1
    refine g_drop [0] ?_
    exact gb_Wrk_pop_19 hX h_x0 hk hT  h
  · replace h := ite_f h q1
    refine g_aload_n (pc := 7) (dd d_Wrk_pop 3 rfl) rfl ?_
    refine g_geti (pc := 8) (dd d_Wrk_pop 4 rfl) f_Wrk_27 (oc_Wrk h_x0) rfl ?_
    refine g_aload_n (pc := 11) (dd d_Wrk_pop 5 rfl) rfl ?_
    refine g_getr (pc := 12) (dd d_Wrk_pop 6 rfl) f_Wrk_15 (oc_Wrk h_x0) rfl (rx_Wrk_1 hX h_x0) ?_
    refine g_alen (pc := 15) (t := 0) (v := 64) (dd d_Wrk_pop 7 rfl) (ax_Wrk_1 h_x0) rfl (by decide) ?_
    refine g_icmple (pc := 16) (tgt := 21) (dd d_Wrk_pop 8 rfl) (by decide) (fun q2 => ?_) (fun q2 => ?_)
    · replace h := ite_t h q2
      refine g_aload_n (pc := 21) (dd d_Wrk_pop 11 rfl) rfl ?_
      refine g_dup (pc := 22) (dd d_Wrk_pop 12 rfl) rfl ?_
      refine g_geti (pc := 23) (dd d_Wrk_pop 13 rfl) f_Wrk_27 (oc_Wrk h_x0) rfl ?_
      refine g_iconst (pc := 26) (v := 1) (dd d_Wrk_pop 14 rfl) (by decide) ?_
      refine g_isub (pc := 27) (dd d_Wrk_pop 15 rfl) ?_
      refine g_putiN (pc := 28) (dd d_Wrk_pop 16 rfl) f_Wrk_27 fm_Wrk_2 (oc_Wrk h_x0) rfl (fun I3 hI3 => ?_)
      replace h := lt_e h hI3
      refine g_aload_n (pc := 31) (dd d_Wrk_pop 17 rfl) rfl ?_
      refine g_getr (pc := 32) (dd d_Wrk_pop 18 rfl) f_Wrk_15 (oc_Wrk h_x0) rfl (rx_Wrk_1 hX h_x0) ?_
      refine g_aload_n (pc := 35) (dd d_Wrk_pop 19 rfl) rfl ?_
      refine g_geti (pc := 36) (dd d_Wrk_pop 20 rfl) f_Wrk_27 (oc_Wrk h_x0) rfl ?_
      obtain ⟨c4, h⟩ := chk_e h
      refine g_iald (pc := 39) (dd d_Wrk_pop 21 rfl) (ax_Wrk_1 h_x0) c4 ?_
      cases h
      exact g_iret (pc := 40) rfl (dd d_Wrk_pop 22 rfl) hT
    · replace h := ite_f h q2
      refine g_drop [0] ?_
      exact gb_Wrk_pop_19 hX h_x0 hk hT  h
def f_Wrk_endWith (n : Nat) (x0 : Nat) (x1 : Int32) (I : IM) : Option (IM) := Option.bind (f_Wrk_forgetAnswer n x0 I) fun v1 => lt (up v1 (x0 + 1) (1 : Int32).toNatClampNeg (x1)) fun I3 => some I3
set_option maxRecDepth 20000 in
set_option maxHeartbeats 4000000 in
theorem ef_Wrk_endWith {Δ : Dx} {X : Lx} {rl hd ot pt it : Nat} (hX : EX Δ X rl hd ot pt it) {n : Nat} {x0 : Nat} {x1 : Int32} (h_x0 : isWrk x0) {I : IM}  {r : IM} (h : f_Wrk_endWith n x0 x1 I = some r) : Ev Δ (1) m_Wrk_endWith [.ref (Δ.ba + x0), .int x1] (I, X) none (r, X) := by
  refine ev_of (by decide) (Nat.le_of_ble_eq_true rfl) (fun Γ hk hR hT => ?_)
  change GG Δ m_Wrk_endWith Γ NN 0 0 (I, X) 0 [some (.ref (Δ.ba + x0)), some (.int (x1))] []
  unfold f_Wrk_endWith at h
  refine g_aload_n (pc := 0) (dd d_Wrk_endWith 0 rfl) rfl ?_
  obtain ⟨v1, e2, h⟩ := bnd_e h
  refine g_callV (pc := 1) (dd d_Wrk_endWith 1 rfl) v_Wrk_18 (oc_Wrk h_x0) rfl (ef_Wrk_forgetAnswer hX h_x0 e2) rfl (by omega) (Nat.le_of_ble_eq_true rfl) ⟨Nat.zero_le _, Nat.zero_le _⟩ rfl ?_
  refine g_aload_n (pc := 4) (dd d_Wrk_endWith 2 rfl) rfl ?_
  refine g_getr (pc := 5) (dd d_Wrk_endWith 3 rfl) f_Wrk_9 (oc_Wrk h_x0) rfl (rx_Wrk_0 hX h_x0) ?_
  refine g_iconst (pc := 8) (v := 1) (dd d_Wrk_endWith 4 rfl) (by decide) ?_
  refine g_iload_n (pc := 9) (dd d_Wrk_endWith 5 rfl) rfl ?_
  refine g_iastN (pc := 10) (dd d_Wrk_endWith 6 rfl) (ax_Wrk_0 h_x0) (by rw [vp_in_iff]; decide) (fun I3 hI3 => ?_)
  replace h := lt_e h hI3
  cases h
  exact g_vret (pc := 11) rfl (dd d_Wrk_endWith 7 rfl) hT
def b_Wrk_conclude_78 (n : Nat) (x0 : Nat)   (I : IM) : Option (IM) := some I
set_option maxRecDepth 20000 in
set_option maxHeartbeats 4000000 in
theorem gb_Wrk_conclude_78 {Δ : Dx} {X : Lx} {rl hd ot pt it : Nat} (hX : EX Δ X rl hd ot pt it) {x0 : Nat} (h_x0 : isWrk x0) {n : Nat} {Γ : Cx} (hk : Γ.k = 2) {r : IM} (hT : Tg Δ Γ none NN (r, X) 0 0)   {I : IM} (h : b_Wrk_conclude_78 n x0   I = some r) : GG Δ m_Wrk_conclude Γ NN 0 0 (I, X) 78 [none, none, none, none] [] := by
  unfold b_Wrk_conclude_78 at h
  cases h
  exact g_vret (pc := 78) rfl (dd d_Wrk_conclude 33 rfl) hT
def f_Wrk_conclude (n : Nat) (x0 : Nat) (x1 : Int32) (x2 : Int32) (I : IM) : Option (IM) := Option.bind (f_Wrk_pop  x0 I) fun v1 => if x1 = 42 then (lt (up v1.2 (x0 + 1) (2 : Int32).toNatClampNeg (v1.1)) fun I4 => b_Wrk_conclude_78 n x0  I4) else (if x1 = 43 then (lt (up v1.2 (x0 + 1) (3 : Int32).toNatClampNeg (v1.1)) fun I5 => b_Wrk_conclude_78 n x0  I5) else (if x1 = 44 then (lt (up v1.2 (x0 + 1) (4 : Int32).toNatClampNeg (v1.1)) fun I6 => b_Wrk_conclude_78 n x0  I6) else (if (v1.1 : Int32) = 0 then (Option.bind (f_Wrk_endWith n x0 3 v1.2) fun v8 => lt (up v8 (x0 + 1) (5 : Int32).toNatClampNeg (x2)) fun I10 => b_Wrk_conclude_78 n x0  I10) else (b_Wrk_conclude_78 n x0  v1.2))))
set_option maxRecDepth 20000 in
set_option maxHeartbeats 4000000 in
theorem ef_Wrk_conclude {Δ : Dx} {X : Lx} {rl hd ot pt it : Nat} (hX : EX Δ X rl hd ot pt it) {n : Nat} {x0 : Nat} {x1 : Int32} {x2 : Int32} (h_x0 : isWrk x0) {I : IM}  {r : IM} (h : f_Wrk_conclude n x0 x1 x2 I = some r) : Ev Δ (2) m_Wrk_conclude [.ref (Δ.ba + x0), .int x1, .int x2] (I, X) none (r, X) := by
  refine ev_of (by decide) (Nat.le_of_ble_eq_true rfl) (fun Γ hk hR hT => ?_)
  change GG Δ m_Wrk_conclude Γ NN 0 0 (I, X) 0 [some (.ref (Δ.ba + x0)), some (.int (x1)), some (.int (x2)), none] []
  unfold f_Wrk_conclude at h
  refine g_aload_n (pc := 0) (dd d_Wrk_conclude 0 rfl) rfl ?_
  obtain ⟨v1, e2, h⟩ := bnd_e h
  refine g_callV (pc := 1) (dd d_Wrk_conclude 1 rfl) v_Wrk_52 (oc_Wrk h_x0) rfl (ef_Wrk_pop hX h_x0 e2) rfl (by omega) (Nat.le_of_ble_eq_true rfl) ⟨Nat.zero_le _, Nat.zero_le _⟩ rfl ?_
  refine g_istore_n (pc := 4) (dd d_Wrk_conclude 2 rfl) (by decide) ?_
  refine g_iload_n (pc := 5) (dd d_Wrk_conclude 3 rfl) rfl ?_
  refine g_tableC (pc := 6) (dd d_Wrk_conclude 4 rfl) (fun i off ho w3 => ?_) (by decide) (fun w3 => ⟨62, by decide, ?_⟩)
  · rcases i with _ | _ | _ | i
    · obtain rfl : off = 26 := (Option.some.inj ho).symm
      refine ⟨32, by decide, ?_⟩
      replace w3 : x1 = 42 := Int32.toInt_inj.mp w3
      replace h := ite_t h w3
      refine g_aload_n (pc := 32) (dd d_Wrk_conclude 5 rfl) rfl ?_
      refine g_getr (pc := 33) (dd d_Wrk_conclude 6 rfl) f_Wrk_9 (oc_Wrk h_x0) rfl (rx_Wrk_0 hX h_x0) ?_
      refine g_iconst (pc := 36) (v := 2) (dd d_Wrk_conclude 7 rfl) (by decide) ?_
      refine g_iload_n (pc := 37) (dd d_Wrk_conclude 8 rfl) rfl ?_
      refine g_iastN (pc := 38) (dd d_Wrk_conclude 9 rfl) (ax_Wrk_0 h_x0) (by rw [vp_in_iff]; decide) (fun I4 hI4 => ?_)
      replace h := lt_e h hI4
      refine g_goto (pc := 39) (tgt := 78) (dd d_Wrk_conclude 10 rfl) (by decide) ?_
      refine g_drop [0, 1, 2, 3] ?_
      exact gb_Wrk_conclude_78 hX h_x0 hk hT  h
    · obtain rfl : off = 36 := (Option.some.inj ho).symm
      refine ⟨42, by decide, ?_⟩
      replace w3 : x1 = 43 := Int32.toInt_inj.mp w3
      replace h := ite_f h (by rw [w3]; decide)
      replace h := ite_t h w3
      refine g_aload_n (pc := 42) (dd d_Wrk_conclude 11 rfl) rfl ?_
      refine g_getr (pc := 43) (dd d_Wrk_conclude 12 rfl) f_Wrk_9 (oc_Wrk h_x0) rfl (rx_Wrk_0 hX h_x0) ?_
      refine g_iconst (pc := 46) (v := 3) (dd d_Wrk_conclude 13 rfl) (by decide) ?_
      refine g_iload_n (pc := 47) (dd d_Wrk_conclude 14 rfl) rfl ?_
      refine g_iastN (pc := 48) (dd d_Wrk_conclude 15 rfl) (ax_Wrk_0 h_x0) (by rw [vp_in_iff]; decide) (fun I5 hI5 => ?_)
      replace h := lt_e h hI5
      refine g_goto (pc := 49) (tgt := 78) (dd d_Wrk_conclude 16 rfl) (by decide) ?_
      refine g_drop [0, 1, 2, 3] ?_
      exact gb_Wrk_conclude_78 hX h_x0 hk hT  h
    · obtain rfl : off = 46 := (Option.some.inj ho).symm
      refine ⟨52, by decide, ?_⟩
      replace w3 : x1 = 44 := Int32.toInt_inj.mp w3
      replace h := ite_f h (by rw [w3]; decide)
      replace h := ite_f h (by rw [w3]; decide)
      replace h := ite_t h w3
      refine g_aload_n (pc := 52) (dd d_Wrk_conclude 17 rfl) rfl ?_
      refine g_getr (pc := 53) (dd d_Wrk_conclude 18 rfl) f_Wrk_9 (oc_Wrk h_x0) rfl (rx_Wrk_0 hX h_x0) ?_
      refine g_iconst (pc := 56) (v := 4) (dd d_Wrk_conclude 19 rfl) (by decide) ?_
      refine g_iload_n (pc := 57) (dd d_Wrk_conclude 20 rfl) rfl ?_
      refine g_iastN (pc := 58) (dd d_Wrk_conclude 21 rfl) (ax_Wrk_0 h_x0) (by rw [vp_in_iff]; decide) (fun I6 hI6 => ?_)
      replace h := lt_e h hI6
      refine g_goto (pc := 59) (tgt := 78) (dd d_Wrk_conclude 22 rfl) (by decide) ?_
      refine g_drop [0, 1, 2, 3] ?_
      exact gb_Wrk_conclude_78 hX h_x0 hk hT  h
    · cases ho
  · skip
    replace w3 : x1.toInt < 42 ∨ 44 < x1.toInt := w3
    replace h := ite_f h (fun e => by rw [e] at w3; revert w3; decide)
    replace h := ite_f h (fun e => by rw [e] at w3; revert w3; decide)
    replace h := ite_f h (fun e => by rw [e] at w3; revert w3; decide)
    refine g_iload_n (pc := 62) (dd d_Wrk_conclude 23 rfl) rfl ?_
    refine g_ifne (pc := 63) (tgt := 78) (dd d_Wrk_conclude 24 rfl) (by decide) (fun q7 => ?_) (fun q7 => ?_)
    · replace h := ite_f h q7
      refine g_drop [0, 1, 2, 3] ?_
      exact gb_Wrk_conclude_78 hX h_x0 hk hT  h
    · replace h := ite_t h q7
      refine g_aload_n (pc := 66) (dd d_Wrk_conclude 25 rfl) rfl ?_
      refine g_iconst (pc := 67) (v := 3) (dd d_Wrk_conclude 26 rfl) (by decide) ?_
      obtain ⟨v8, e9, h⟩ := bnd_e h
      refine g_callV (pc := 68) (dd d_Wrk_conclude 27 rfl) v_Wrk_68 (oc_Wrk h_x0) rfl (ef_Wrk_endWith hX h_x0 e9) rfl (by omega) (Nat.le_of_ble_eq_true rfl) ⟨Nat.zero_le _, Nat.zero_le _⟩ rfl ?_
      refine g_aload_n (pc := 71) (dd d_Wrk_conclude 28 rfl) rfl ?_
      refine g_getr (pc := 72) (dd d_Wrk_conclude 29 rfl) f_Wrk_9 (oc_Wrk h_x0) rfl (rx_Wrk_0 hX h_x0) ?_
      refine g_iconst (pc := 75) (v := 5) (dd d_Wrk_conclude 30 rfl) (by decide) ?_
      refine g_iload_n (pc := 76) (dd d_Wrk_conclude 31 rfl) rfl ?_
      refine g_iastN (pc := 77) (dd d_Wrk_conclude 32 rfl) (ax_Wrk_0 h_x0) (by rw [vp_in_iff]; decide) (fun I10 hI10 => ?_)
      replace h := lt_e h hI10
      refine g_drop [0, 1, 2, 3] ?_
      exact gb_Wrk_conclude_78 hX h_x0 hk hT  h
def b_Mch_partOf_38 (x0 : Nat) (x2 : Nat) (I : IM)  (y0 : Int32) : Option (Int32) := some (y0)
set_option maxRecDepth 20000 in
set_option maxHeartbeats 4000000 in
theorem gb_Mch_partOf_38 {Δ : Dx} {X : Lx} {rl hd ot pt it : Nat} (hX : EX Δ X rl hd ot pt it) {x0 : Nat} {x2 : Nat} (h_x0 : isMch x0) (ha_x2 : isA x2) {I : IM} {Γ : Cx} (hk : Γ.k = 0) {r : Int32} (hT : Tg Δ Γ (some (.int r)) NN (I, X) 0 0)  {y0 : Int32} (h : b_Mch_partOf_38 x0 x2 I  y0 = some r) : GG Δ m_Mch_partOf Γ NN 0 0 (I, X) 38 [none, none, none, none, none] [.int (y0)] := by
  unfold b_Mch_partOf_38 at h
  cases h
  exact g_iret (pc := 38) rfl (dd d_Mch_partOf 21 rfl) hT
def b_Mch_partOf_37 (x0 : Nat) (x2 : Nat) (I : IM)  (x3 : Int32) : Option (Int32) := b_Mch_partOf_38 x0 x2 I  x3
set_option maxRecDepth 20000 in
set_option maxHeartbeats 4000000 in
theorem gb_Mch_partOf_37 {Δ : Dx} {X : Lx} {rl hd ot pt it : Nat} (hX : EX Δ X rl hd ot pt it) {x0 : Nat} {x2 : Nat} (h_x0 : isMch x0) (ha_x2 : isA x2) {I : IM} {Γ : Cx} (hk : Γ.k = 0) {r : Int32} (hT : Tg Δ Γ (some (.int r)) NN (I, X) 0 0)  {x3 : Int32} (h : b_Mch_partOf_37 x0 x2 I  x3 = some r) : GG Δ m_Mch_partOf Γ NN 0 0 (I, X) 37 [none, none, none, some (.int (x3)), none] [] := by
  unfold b_Mch_partOf_37 at h
  refine g_iload_n (pc := 37) (dd d_Mch_partOf 20 rfl) rfl ?_
  refine g_drop [3] ?_
  exact gb_Mch_partOf_38 hX h_x0 ha_x2 hk hT  h
def f_Mch_partOf (x0 : Nat) (x1 : Int32) (x2 : Nat) (x3 : Int32) (I : IM) : Option (Int32) := if (x1 - 1000000 : Int32) < 0 then (b_Mch_partOf_37 x0 x2 I  x3) else (if (I (x0 + 13) (7 : Int32).toNatClampNeg : Int32) ≤ (x1 - 1000000 : Int32) then (b_Mch_partOf_37 x0 x2 I  x3) else (if (Int32.ofNat (lenA x2) : Int32) ≤ (x1 - 1000000 : Int32) then (b_Mch_partOf_37 x0 x2 I  x3) else (chk (inb (x1 - 1000000) (lenA x2)) <| b_Mch_partOf_38 x0 x2 I  (I x2 (x1 - 1000000 : Int32).toNatClampNeg))))
set_option maxRecDepth 20000 in
set_option maxHeartbeats 4000000 in
theorem ef_Mch_partOf {Δ : Dx} {X : Lx} {rl hd ot pt it : Nat} (hX : EX Δ X rl hd ot pt it) {x0 : Nat} {x1 : Int32} {x2 : Nat} {x3 : Int32} (h_x0 : isMch x0) (ha_x2 : isA x2) {I : IM}  {r : Int32} (h : f_Mch_partOf x0 x1 x2 x3 I = some r) : Ev Δ (0) m_Mch_partOf [.ref (Δ.ba + x0), .int x1, .ref (Δ.ba + x2), .int x3] (I, X) (some (.int r)) (I, X) := by
  refine ev_of (by decide) (Nat.le_of_ble_eq_true rfl) (fun Γ hk hR hT => ?_)
  change GG Δ m_Mch_partOf Γ NN 0 0 (I, X) 0 [some (.ref (Δ.ba + x0)), some (.int (x1)), some (.ref (Δ.ba + x2)), some (.int (x3)), none] []
  unfold f_Mch_partOf at h
  refine g_iload_n (pc := 0) (dd d_Mch_partOf 0 rfl) rfl ?_
  refine g_ldc (pc := 1) (dd d_Mch_partOf 1 rfl) c_Mch_113 ?_
  refine g_isub (pc := 3) (dd d_Mch_partOf 2 rfl) ?_
  refine g_istore (pc := 4) (dd d_Mch_partOf 3 rfl) (by decide) ?_
  refine g_iload (pc := 6) (dd d_Mch_partOf 4 rfl) rfl ?_
  refine g_iflt (pc := 8) (tgt := 37) (dd d_Mch_partOf 5 rfl) (by decide) (fun q1 => ?_) (fun q1 => ?_)
  · replace h := ite_t h q1
    refine g_drop [0, 1, 2, 4] ?_
    exact gb_Mch_partOf_37 hX h_x0 ha_x2 hk hT  h
  · replace h := ite_f h q1
    refine g_iload (pc := 11) (dd d_Mch_partOf 6 rfl) rfl ?_
    refine g_aload_n (pc := 13) (dd d_Mch_partOf 7 rfl) rfl ?_
    refine g_getr (pc := 14) (dd d_Mch_partOf 8 rfl) f_Mch_48 (oc_Mch h_x0) rfl (rx_Mch_15 hX h_x0) ?_
    refine g_bipush (pc := 17) (v := 7) (dd d_Mch_partOf 9 rfl) (by decide) ?_
    refine g_iald (pc := 19) (dd d_Mch_partOf 10 rfl) (ax_Mch_15 h_x0) (by rw [vp_in_iff]; decide) ?_
    refine g_icmpge (pc := 20) (tgt := 37) (dd d_Mch_partOf 11 rfl) (by decide) (fun q2 => ?_) (fun q2 => ?_)
    · replace h := ite_t h q2
      refine g_drop [0, 1, 2, 4] ?_
      exact gb_Mch_partOf_37 hX h_x0 ha_x2 hk hT  h
    · replace h := ite_f h q2
      refine g_iload (pc := 23) (dd d_Mch_partOf 12 rfl) rfl ?_
      refine g_aload_n (pc := 25) (dd d_Mch_partOf 13 rfl) rfl ?_
      refine g_alen (pc := 26) (t := 0) (dd d_Mch_partOf 14 rfl) ha_x2 rfl rfl ?_
      refine g_icmpge (pc := 27) (tgt := 37) (dd d_Mch_partOf 15 rfl) (by decide) (fun q3 => ?_) (fun q3 => ?_)
      · replace h := ite_t h q3
        refine g_drop [0, 1, 2, 4] ?_
        exact gb_Mch_partOf_37 hX h_x0 ha_x2 hk hT  h
      · replace h := ite_f h q3
        refine g_aload_n (pc := 30) (dd d_Mch_partOf 16 rfl) rfl ?_
        refine g_iload (pc := 31) (dd d_Mch_partOf 17 rfl) rfl ?_
        obtain ⟨c4, h⟩ := chk_e h
        refine g_iald (pc := 33) (dd d_Mch_partOf 18 rfl) ha_x2 c4 ?_
        refine g_goto (pc := 34) (tgt := 38) (dd d_Mch_partOf 19 rfl) (by decide) ?_
        refine g_drop [0, 1, 2, 3, 4] ?_
        exact gb_Mch_partOf_38 hX h_x0 ha_x2 hk hT  h
def l_Mch_baseOf_2 (n : Nat) (x0 : Nat) (I : IM)  : Nat → Int32 → Int32 → Option (Int32)
  | 0, _, _ => none
  | f + 1, x1, x2 => if (96 : Int32) ≤ x2 then (some ((-1))) else (chk (inb x2 96) <| if (I (x0 + 5) x2.toNatClampNeg : Int32) = x1 then (some (x2)) else ((l_Mch_baseOf_2 n x0 I  f) x1 (x2 + 1)))
set_option maxRecDepth 20000 in
set_option maxHeartbeats 4000000 in
theorem gl_Mch_baseOf_2 {Δ : Dx} {X : Lx} {rl hd ot pt it : Nat} (hX : EX Δ X rl hd ot pt it) {x0 : Nat} (h_x0 : isMch x0) {n : Nat} {I : IM} {Γ : Cx} (hk : Γ.k = 0) {r : Int32} (hT : Tg Δ Γ (some (.int r)) NN (I, X) 0 0)  : ∀ (f : Nat) (x1 : Int32) (x2 : Int32), l_Mch_baseOf_2 n x0 I  f x1 x2 = some r → GG Δ m_Mch_baseOf Γ NN 0 0 (I, X) 2 [some (.ref (Δ.ba + x0)), some (.int (x1)), some (.int (x2))] []
  | 0, _, _, h => by cases h
  | f + 1, x1, x2, h => by
    have ih := gl_Mch_baseOf_2 (n := n) (x0 := x0) hX h_x0 hk hT  f
    rw [l_Mch_baseOf_2] at h
    refine g_iload_n (pc := 2) (dd d_Mch_baseOf 2 rfl) rfl ?_
    refine g_bipush (pc := 3) (v := 96) (dd d_Mch_baseOf 3 rfl) (by decide) ?_
    refine g_icmpge (pc := 5) (tgt := 26) (dd d_Mch_baseOf 4 rfl) (by decide) (fun q1 => ?_) (fun q1 => ?_)
    · replace h := ite_t h q1
      refine g_iconst (pc := 26) (v := (-1)) (dd d_Mch_baseOf 15 rfl) (by decide) ?_
      cases h
      exact g_iret (pc := 27) rfl (dd d_Mch_baseOf 16 rfl) hT
    · replace h := ite_f h q1
      refine g_aload_n (pc := 8) (dd d_Mch_baseOf 5 rfl) rfl ?_
      refine g_getr (pc := 9) (dd d_Mch_baseOf 6 rfl) f_Mch_24 (oc_Mch h_x0) rfl (rx_Mch_7 hX h_x0) ?_
      refine g_iload_n (pc := 12) (dd d_Mch_baseOf 7 rfl) rfl ?_
      obtain ⟨c2, h⟩ := chk_e h
      refine g_iald (pc := 13) (dd d_Mch_baseOf 8 rfl) (ax_Mch_7 h_x0) c2 ?_
      refine g_iload_n (pc := 14) (dd d_Mch_baseOf 9 rfl) rfl ?_
      refine g_icmpne (pc := 15) (tgt := 20) (dd d_Mch_baseOf 10 rfl) (by decide) (fun q3 => ?_) (fun q3 => ?_)
      · replace h := ite_f h q3
        refine g_iincW (pc := 20) (w := 1) (dd d_Mch_baseOf 13 rfl) rfl (by decide) (by decide) ?_
        refine g_goto (pc := 23) (tgt := 2) (dd d_Mch_baseOf 14 rfl) (by decide) ?_
        exact ih _ _ h
      · replace h := ite_t h q3
        refine g_iload_n (pc := 18) (dd d_Mch_baseOf 11 rfl) rfl ?_
        cases h
        exact g_iret (pc := 19) rfl (dd d_Mch_baseOf 12 rfl) hT
def f_Mch_baseOf (n : Nat) (x0 : Nat) (x1 : Int32) (I : IM) : Option (Int32) := l_Mch_baseOf_2 n x0 I  n x1 0
set_option maxRecDepth 20000 in
set_option maxHeartbeats 4000000 in
theorem ef_Mch_baseOf {Δ : Dx} {X : Lx} {rl hd ot pt it : Nat} (hX : EX Δ X rl hd ot pt it) {n : Nat} {x0 : Nat} {x1 : Int32} (h_x0 : isMch x0) {I : IM}  {r : Int32} (h : f_Mch_baseOf n x0 x1 I = some r) : Ev Δ (0) m_Mch_baseOf [.ref (Δ.ba + x0), .int x1] (I, X) (some (.int r)) (I, X) := by
  refine ev_of (by decide) (Nat.le_of_ble_eq_true rfl) (fun Γ hk hR hT => ?_)
  change GG Δ m_Mch_baseOf Γ NN 0 0 (I, X) 0 [some (.ref (Δ.ba + x0)), some (.int (x1)), none] []
  unfold f_Mch_baseOf at h
  refine g_iconst (pc := 0) (v := 0) (dd d_Mch_baseOf 0 rfl) (by decide) ?_
  refine g_istore_n (pc := 1) (dd d_Mch_baseOf 1 rfl) (by decide) ?_
  exact gl_Mch_baseOf_2 hX h_x0 hk hT  _ _ _ h
def b_Mch_pairWith_52 (n : Nat) (x0 : Nat) (H11 : Int32 → Int32 → Int32 → Int32 → IM → Option (Int32 × IM)) (x1 : Int32) (x2 : Int32) (x3 : Int32) (x4 : Int32) (I : IM) : Option (Int32 × IM) := H11 x1 x2 x3 (x4 + 1) I
set_option maxRecDepth 20000 in
set_option maxHeartbeats 4000000 in
theorem gb_Mch_pairWith_52 {Δ : Dx} {X : Lx} {rl hd ot pt it : Nat} (hX : EX Δ X rl hd ot pt it) {x0 : Nat} (h_x0 : isMch x0) {n : Nat} {Γ : Cx} (hk : Γ.k = 0) {r : Int32 × IM} (hT : Tg Δ Γ (some (.int r.1)) NN (r.2, X) 0 0) {H11 : Int32 → Int32 → Int32 → Int32 → IM → Option (Int32 × IM)} (hH11 : ∀ (x1 : Int32) (x2 : Int32) (x3 : Int32) (x4 : Int32) (I : IM), H11 x1 x2 x3 x4 I = some r → GG Δ m_Mch_pairWith Γ NN 0 0 (I, X) 11 [some (.ref (Δ.ba + x0)), some (.int (x1)), some (.int (x2)), some (.int (x3)), some (.int (x4))] []) {x1 : Int32} {x2 : Int32} {x3 : Int32} {x4 : Int32} {I : IM} (h : b_Mch_pairWith_52 n x0 H11 x1 x2 x3 x4 I = some r) : GG Δ m_Mch_pairWith Γ NN 0 0 (I, X) 52 [some (.ref (Δ.ba + x0)), some (.int (x1)), some (.int (x2)), some (.int (x3)), some (.int (x4))] [] := by
  unfold b_Mch_pairWith_52 at h
  refine g_iincW (pc := 52) (w := 1) (dd d_Mch_pairWith 29 rfl) rfl (by decide) (by decide) ?_
  refine g_goto (pc := 55) (tgt := 11) (dd d_Mch_pairWith 30 rfl) (by decide) ?_
  exact hH11 _ _ _ _ _ h
def b_Mch_pairWith_68 (n : Nat) (x0 : Nat)   (I : IM) : Option (Int32 × IM) := some ((-1), I)
set_option maxRecDepth 20000 in
set_option maxHeartbeats 4000000 in
theorem gb_Mch_pairWith_68 {Δ : Dx} {X : Lx} {rl hd ot pt it : Nat} (hX : EX Δ X rl hd ot pt it) {x0 : Nat} (h_x0 : isMch x0) {n : Nat} {Γ : Cx} (hk : Γ.k = 0) {r : Int32 × IM} (hT : Tg Δ Γ (some (.int r.1)) NN (r.2, X) 0 0)   {I : IM} (h : b_Mch_pairWith_68 n x0   I = some r) : GG Δ m_Mch_pairWith Γ NN 0 0 (I, X) 68 [none, none, none, none, none] [] := by
  unfold b_Mch_pairWith_68 at h
  refine g_iconst (pc := 68) (v := (-1)) (dd d_Mch_pairWith 36 rfl) (by decide) ?_
  cases h
  exact g_iret (pc := 69) rfl (dd d_Mch_pairWith 37 rfl) hT
def b_Mch_pairWith_58 (n : Nat) (x0 : Nat)  (x1 : Int32) (x2 : Int32) (x3 : Int32) (I : IM) : Option (Int32 × IM) := if x3 < 0 then (b_Mch_pairWith_68 n x0  I) else (if x3 < (60 : Int32) then (chk (inb x3 60) <| lt (up I (x0 + 11) x3.toNatClampNeg (x1)) fun I9 => lt (up I9 (x0 + 12) x3.toNatClampNeg (x2)) fun I10 => lt (up I10 (x0 + 13) (7 : Int32).toNatClampNeg (x3 + 1)) fun I11 => some (1000000 + x3, I11)) else (b_Mch_pairWith_68 n x0  I))
set_option maxRecDepth 20000 in
set_option maxHeartbeats 4000000 in
theorem gb_Mch_pairWith_58 {Δ : Dx} {X : Lx} {rl hd ot pt it : Nat} (hX : EX Δ X rl hd ot pt it) {x0 : Nat} (h_x0 : isMch x0) {n : Nat} {Γ : Cx} (hk : Γ.k = 0) {r : Int32 × IM} (hT : Tg Δ Γ (some (.int r.1)) NN (r.2, X) 0 0)  {x1 : Int32} {x2 : Int32} {x3 : Int32} {I : IM} (h : b_Mch_pairWith_58 n x0  x1 x2 x3 I = some r) : GG Δ m_Mch_pairWith Γ NN 0 0 (I, X) 58 [some (.ref (Δ.ba + x0)), some (.int (x1)), some (.int (x2)), some (.int (x3)), none] [] := by
  unfold b_Mch_pairWith_58 at h
  refine g_iload_n (pc := 58) (dd d_Mch_pairWith 31 rfl) rfl ?_
  refine g_iflt (pc := 59) (tgt := 68) (dd d_Mch_pairWith 32 rfl) (by decide) (fun q6 => ?_) (fun q6 => ?_)
  · replace h := ite_t h q6
    refine g_drop [0, 1, 2, 3] ?_
    exact gb_Mch_pairWith_68 hX h_x0 hk hT  h
  · replace h := ite_f h q6
    refine g_iload_n (pc := 62) (dd d_Mch_pairWith 33 rfl) rfl ?_
    refine g_bipush (pc := 63) (v := 60) (dd d_Mch_pairWith 34 rfl) (by decide) ?_
    refine g_icmplt (pc := 65) (tgt := 70) (dd d_Mch_pairWith 35 rfl) (by decide) (fun q7 => ?_) (fun q7 => ?_)
    · replace h := ite_t h q7
      refine g_aload_n (pc := 70) (dd d_Mch_pairWith 38 rfl) rfl ?_
      refine g_getr (pc := 71) (dd d_Mch_pairWith 39 rfl) f_Mch_42 (oc_Mch h_x0) rfl (rx_Mch_13 hX h_x0) ?_
      refine g_iload_n (pc := 74) (dd d_Mch_pairWith 40 rfl) rfl ?_
      refine g_iload_n (pc := 75) (dd d_Mch_pairWith 41 rfl) rfl ?_
      obtain ⟨c8, h⟩ := chk_e h
      refine g_iastN (pc := 76) (dd d_Mch_pairWith 42 rfl) (ax_Mch_13 h_x0) c8 (fun I9 hI9 => ?_)
      replace h := lt_e h hI9
      refine g_aload_n (pc := 77) (dd d_Mch_pairWith 43 rfl) rfl ?_
      refine g_getr (pc := 78) (dd d_Mch_pairWith 44 rfl) f_Mch_45 (oc_Mch h_x0) rfl (rx_Mch_14 hX h_x0) ?_
      refine g_iload_n (pc := 81) (dd d_Mch_pairWith 45 rfl) rfl ?_
      refine g_iload_n (pc := 82) (dd d_Mch_pairWith 46 rfl) rfl ?_
      refine g_iastN (pc := 83) (dd d_Mch_pairWith 47 rfl) (ax_Mch_14 h_x0) c8 (fun I10 hI10 => ?_)
      replace h := lt_e h hI10
      refine g_aload_n (pc := 84) (dd d_Mch_pairWith 48 rfl) rfl ?_
      refine g_getr (pc := 85) (dd d_Mch_pairWith 49 rfl) f_Mch_48 (oc_Mch h_x0) rfl (rx_Mch_15 hX h_x0) ?_
      refine g_bipush (pc := 88) (v := 7) (dd d_Mch_pairWith 50 rfl) (by decide) ?_
      refine g_iload_n (pc := 90) (dd d_Mch_pairWith 51 rfl) rfl ?_
      refine g_iconst (pc := 91) (v := 1) (dd d_Mch_pairWith 52 rfl) (by decide) ?_
      refine g_iadd (pc := 92) (dd d_Mch_pairWith 53 rfl) ?_
      refine g_iastN (pc := 93) (dd d_Mch_pairWith 54 rfl) (ax_Mch_15 h_x0) (by rw [vp_in_iff]; decide) (fun I11 hI11 => ?_)
      replace h := lt_e h hI11
      refine g_ldc (pc := 94) (dd d_Mch_pairWith 55 rfl) c_Mch_113 ?_
      refine g_iload_n (pc := 96) (dd d_Mch_pairWith 56 rfl) rfl ?_
      refine g_iadd (pc := 97) (dd d_Mch_pairWith 57 rfl) ?_
      cases h
      exact g_iret (pc := 98) rfl (dd d_Mch_pairWith 58 rfl) hT
    · replace h := ite_f h q7
      refine g_drop [0, 1, 2, 3] ?_
      exact gb_Mch_pairWith_68 hX h_x0 hk hT  h
def l_Mch_pairWith_11 (n : Nat) (x0 : Nat)  : Nat → Int32 → Int32 → Int32 → Int32 → IM → Option (Int32 × IM)
  | 0, _, _, _, _, _ => none
  | f + 1, x1, x2, x3, x4, I => if x3 ≤ x4 then (b_Mch_pairWith_58 n x0  x1 x2 x3 I) else (if (60 : Int32) ≤ x4 then (b_Mch_pairWith_58 n x0  x1 x2 x3 I) else (chk (inb x4 60) <| if (I (x0 + 11) x4.toNatClampNeg : Int32) = x1 then (if (I (x0 + 12) x4.toNatClampNeg : Int32) = x2 then (some (1000000 + x4, I)) else (b_Mch_pairWith_52 n x0 (l_Mch_pairWith_11 n x0  f) x1 x2 x3 x4 I)) else (b_Mch_pairWith_52 n x0 (l_Mch_pairWith_11 n x0  f) x1 x2 x3 x4 I)))
set_option maxRecDepth 20000 in
set_option maxHeartbeats 4000000 in
theorem gl_Mch_pairWith_11 {Δ : Dx} {X : Lx} {rl hd ot pt it : Nat} (hX : EX Δ X rl hd ot pt it) {x0 : Nat} (h_x0 : isMch x0) {n : Nat} {Γ : Cx} (hk : Γ.k = 0) {r : Int32 × IM} (hT : Tg Δ Γ (some (.int r.1)) NN (r.2, X) 0 0)  : ∀ (f : Nat) (x1 : Int32) (x2 : Int32) (x3 : Int32) (x4 : Int32) (I : IM), l_Mch_pairWith_11 n x0  f x1 x2 x3 x4 I = some r → GG Δ m_Mch_pairWith Γ NN 0 0 (I, X) 11 [some (.ref (Δ.ba + x0)), some (.int (x1)), some (.int (x2)), some (.int (x3)), some (.int (x4))] []
  | 0, _, _, _, _, _, h => by cases h
  | f + 1, x1, x2, x3, x4, I, h => by
    have ih := gl_Mch_pairWith_11 (n := n) (x0 := x0) hX h_x0 hk hT  f
    rw [l_Mch_pairWith_11] at h
    refine g_iload (pc := 11) (dd d_Mch_pairWith 7 rfl) rfl ?_
    refine g_iload_n (pc := 13) (dd d_Mch_pairWith 8 rfl) rfl ?_
    refine g_icmpge (pc := 14) (tgt := 58) (dd d_Mch_pairWith 9 rfl) (by decide) (fun q1 => ?_) (fun q1 => ?_)
    · replace h := ite_t h q1
      refine g_drop [4] ?_
      exact gb_Mch_pairWith_58 hX h_x0 hk hT  h
    · replace h := ite_f h q1
      refine g_iload (pc := 17) (dd d_Mch_pairWith 10 rfl) rfl ?_
      refine g_bipush (pc := 19) (v := 60) (dd d_Mch_pairWith 11 rfl) (by decide) ?_
      refine g_icmpge (pc := 21) (tgt := 58) (dd d_Mch_pairWith 12 rfl) (by decide) (fun q2 => ?_) (fun q2 => ?_)
      · replace h := ite_t h q2
        refine g_drop [4] ?_
        exact gb_Mch_pairWith_58 hX h_x0 hk hT  h
      · replace h := ite_f h q2
        refine g_aload_n (pc := 24) (dd d_Mch_pairWith 13 rfl) rfl ?_
        refine g_getr (pc := 25) (dd d_Mch_pairWith 14 rfl) f_Mch_42 (oc_Mch h_x0) rfl (rx_Mch_13 hX h_x0) ?_
        refine g_iload (pc := 28) (dd d_Mch_pairWith 15 rfl) rfl ?_
        obtain ⟨c3, h⟩ := chk_e h
        refine g_iald (pc := 30) (dd d_Mch_pairWith 16 rfl) (ax_Mch_13 h_x0) c3 ?_
        refine g_iload_n (pc := 31) (dd d_Mch_pairWith 17 rfl) rfl ?_
        refine g_icmpne (pc := 32) (tgt := 52) (dd d_Mch_pairWith 18 rfl) (by decide) (fun q4 => ?_) (fun q4 => ?_)
        · replace h := ite_f h q4
          exact gb_Mch_pairWith_52 hX h_x0 hk hT ih h
        · replace h := ite_t h q4
          refine g_aload_n (pc := 35) (dd d_Mch_pairWith 19 rfl) rfl ?_
          refine g_getr (pc := 36) (dd d_Mch_pairWith 20 rfl) f_Mch_45 (oc_Mch h_x0) rfl (rx_Mch_14 hX h_x0) ?_
          refine g_iload (pc := 39) (dd d_Mch_pairWith 21 rfl) rfl ?_
          refine g_iald (pc := 41) (dd d_Mch_pairWith 22 rfl) (ax_Mch_14 h_x0) c3 ?_
          refine g_iload_n (pc := 42) (dd d_Mch_pairWith 23 rfl) rfl ?_
          refine g_icmpne (pc := 43) (tgt := 52) (dd d_Mch_pairWith 24 rfl) (by decide) (fun q5 => ?_) (fun q5 => ?_)
          · replace h := ite_f h q5
            exact gb_Mch_pairWith_52 hX h_x0 hk hT ih h
          · replace h := ite_t h q5
            refine g_ldc (pc := 46) (dd d_Mch_pairWith 25 rfl) c_Mch_113 ?_
            refine g_iload (pc := 48) (dd d_Mch_pairWith 26 rfl) rfl ?_
            refine g_iadd (pc := 50) (dd d_Mch_pairWith 27 rfl) ?_
            cases h
            exact g_iret (pc := 51) rfl (dd d_Mch_pairWith 28 rfl) hT
def f_Mch_pairWith (n : Nat) (x0 : Nat) (x1 : Int32) (x2 : Int32) (I : IM) : Option (Int32 × IM) := l_Mch_pairWith_11 n x0  n x1 x2 (I (x0 + 13) (7 : Int32).toNatClampNeg) 0 I
set_option maxRecDepth 20000 in
set_option maxHeartbeats 4000000 in
theorem ef_Mch_pairWith {Δ : Dx} {X : Lx} {rl hd ot pt it : Nat} (hX : EX Δ X rl hd ot pt it) {n : Nat} {x0 : Nat} {x1 : Int32} {x2 : Int32} (h_x0 : isMch x0) {I : IM}  {r : Int32 × IM} (h : f_Mch_pairWith n x0 x1 x2 I = some r) : Ev Δ (0) m_Mch_pairWith [.ref (Δ.ba + x0), .int x1, .int x2] (I, X) (some (.int r.1)) (r.2, X) := by
  refine ev_of (by decide) (Nat.le_of_ble_eq_true rfl) (fun Γ hk hR hT => ?_)
  change GG Δ m_Mch_pairWith Γ NN 0 0 (I, X) 0 [some (.ref (Δ.ba + x0)), some (.int (x1)), some (.int (x2)), none, none] []
  unfold f_Mch_pairWith at h
  refine g_aload_n (pc := 0) (dd d_Mch_pairWith 0 rfl) rfl ?_
  refine g_getr (pc := 1) (dd d_Mch_pairWith 1 rfl) f_Mch_48 (oc_Mch h_x0) rfl (rx_Mch_15 hX h_x0) ?_
  refine g_bipush (pc := 4) (v := 7) (dd d_Mch_pairWith 2 rfl) (by decide) ?_
  refine g_iald (pc := 6) (dd d_Mch_pairWith 3 rfl) (ax_Mch_15 h_x0) (by rw [vp_in_iff]; decide) ?_
  refine g_istore_n (pc := 7) (dd d_Mch_pairWith 4 rfl) (by decide) ?_
  refine g_iconst (pc := 8) (v := 0) (dd d_Mch_pairWith 5 rfl) (by decide) ?_
  refine g_istore (pc := 9) (dd d_Mch_pairWith 6 rfl) (by decide) ?_
  exact gl_Mch_pairWith_11 hX h_x0 hk hT  _ _ _ _ _ _ h
def f_Wrk_combine (x0 : Int32) (x1 : Int32) (x2 : Int32) (I : IM) : Option (Int32) := if x0 = 166 then (some (x1 &&& x2)) else (if x0 = 171 then (some (x1 + x2)) else (if x0 = 173 then (some (x1 - x2)) else (if x0 = 188 then (some (if x2 ≤ x1 then 0 else 1)) else (if x0 = 222 then (some (x1 ^^^ x2)) else (if x0 = 252 then (some (x1 ||| x2)) else (if x0 = 289 then (some (if x1 = x2 then 0 else 1)) else (if x0 = 317 then (some (if x1 = x2 then 1 else 0)) else (some (if x2 < x1 then 0 else 1)))))))))
set_option maxRecDepth 20000 in
set_option maxHeartbeats 4000000 in
theorem ef_Wrk_combine {Δ : Dx} {X : Lx} {rl hd ot pt it : Nat} (hX : EX Δ X rl hd ot pt it) {x0 : Int32} {x1 : Int32} {x2 : Int32}  {I : IM}  {r : Int32} (h : f_Wrk_combine x0 x1 x2 I = some r) : Ev Δ (0) m_Wrk_combine [.int x0, .int x1, .int x2] (I, X) (some (.int r)) (I, X) := by
  refine ev_of (by decide) (Nat.le_of_ble_eq_true rfl) (fun Γ hk hR hT => ?_)
  change GG Δ m_Wrk_combine Γ NN 0 0 (I, X) 0 [some (.int (x0)), some (.int (x1)), some (.int (x2))] []
  unfold f_Wrk_combine at h
  refine g_iload_n (pc := 0) (dd d_Wrk_combine 0 rfl) rfl ?_
  refine g_lookupC (pc := 1) (dd d_Wrk_combine 1 rfl) (by decide) (List.forall_mem_cons.mpr ⟨fun w1 => ⟨80, by decide, ?_⟩, List.forall_mem_cons.mpr ⟨fun w1 => ⟨88, by decide, ?_⟩, List.forall_mem_cons.mpr ⟨fun w1 => ⟨92, by decide, ?_⟩, List.forall_mem_cons.mpr ⟨fun w1 => ⟨118, by decide, ?_⟩, List.forall_mem_cons.mpr ⟨fun w1 => ⟨84, by decide, ?_⟩, List.forall_mem_cons.mpr ⟨fun w1 => ⟨76, by decide, ?_⟩, List.forall_mem_cons.mpr ⟨fun w1 => ⟨107, by decide, ?_⟩, List.forall_mem_cons.mpr ⟨fun w1 => ⟨96, by decide, ?_⟩, (fun _ h => absurd h List.not_mem_nil)⟩⟩⟩⟩⟩⟩⟩⟩) (fun w1 => ⟨129, by decide, ?_⟩)
  · replace w1 : x0 = 166 := Int32.toInt_inj.mp w1
    replace h := ite_t h w1
    refine g_iload_n (pc := 80) (dd d_Wrk_combine 6 rfl) rfl ?_
    refine g_iload_n (pc := 81) (dd d_Wrk_combine 7 rfl) rfl ?_
    refine g_iand (pc := 82) (dd d_Wrk_combine 8 rfl) ?_
    cases h
    exact g_iret (pc := 83) rfl (dd d_Wrk_combine 9 rfl) hT
  · replace w1 : x0 = 171 := Int32.toInt_inj.mp w1
    replace h := ite_f h (by rw [w1]; decide)
    replace h := ite_t h w1
    refine g_iload_n (pc := 88) (dd d_Wrk_combine 14 rfl) rfl ?_
    refine g_iload_n (pc := 89) (dd d_Wrk_combine 15 rfl) rfl ?_
    refine g_iadd (pc := 90) (dd d_Wrk_combine 16 rfl) ?_
    cases h
    exact g_iret (pc := 91) rfl (dd d_Wrk_combine 17 rfl) hT
  · replace w1 : x0 = 173 := Int32.toInt_inj.mp w1
    replace h := ite_f h (by rw [w1]; decide)
    replace h := ite_f h (by rw [w1]; decide)
    replace h := ite_t h w1
    refine g_iload_n (pc := 92) (dd d_Wrk_combine 18 rfl) rfl ?_
    refine g_iload_n (pc := 93) (dd d_Wrk_combine 19 rfl) rfl ?_
    refine g_isub (pc := 94) (dd d_Wrk_combine 20 rfl) ?_
    cases h
    exact g_iret (pc := 95) rfl (dd d_Wrk_combine 21 rfl) hT
  · replace w1 : x0 = 188 := Int32.toInt_inj.mp w1
    replace h := ite_f h (by rw [w1]; decide)
    replace h := ite_f h (by rw [w1]; decide)
    replace h := ite_f h (by rw [w1]; decide)
    replace h := ite_t h w1
    refine g_iload_n (pc := 118) (dd d_Wrk_combine 36 rfl) rfl ?_
    refine g_iload_n (pc := 119) (dd d_Wrk_combine 37 rfl) rfl ?_
    suffices K120 : ∀ z : Int32, z = (if x2 ≤ x1 then 0 else 1 : Int32) → GG Δ m_Wrk_combine Γ NN 0 0 (I, X) 128 [some (.int (x0)), some (.int (x1)), some (.int (x2))] [.int (z)] by
      refine g_icmpge (pc := 120) (tgt := 127) (dd d_Wrk_combine 38 rfl) (by decide) (fun q2 => ?_) (fun q2 => ?_)
      · skip
        refine g_iconst (pc := 127) (v := 0) (dd d_Wrk_combine 41 rfl) (by decide) ?_
        exact K120 _ (by rw [if_pos q2])
      · skip
        refine g_iconst (pc := 123) (v := 1) (dd d_Wrk_combine 39 rfl) (by decide) ?_
        refine g_goto (pc := 124) (tgt := 128) (dd d_Wrk_combine 40 rfl) (by decide) ?_
        exact K120 _ (by rw [if_neg q2])
    intro z hz
    subst hz
    cases h
    exact g_iret (pc := 128) rfl (dd d_Wrk_combine 42 rfl) hT
  · replace w1 : x0 = 222 := Int32.toInt_inj.mp w1
    replace h := ite_f h (by rw [w1]; decide)
    replace h := ite_f h (by rw [w1]; decide)
    replace h := ite_f h (by rw [w1]; decide)
    replace h := ite_f h (by rw [w1]; decide)
    replace h := ite_t h w1
    refine g_iload_n (pc := 84) (dd d_Wrk_combine 10 rfl) rfl ?_
    refine g_iload_n (pc := 85) (dd d_Wrk_combine 11 rfl) rfl ?_
    refine g_ixor (pc := 86) (dd d_Wrk_combine 12 rfl) ?_
    cases h
    exact g_iret (pc := 87) rfl (dd d_Wrk_combine 13 rfl) hT
  · replace w1 : x0 = 252 := Int32.toInt_inj.mp w1
    replace h := ite_f h (by rw [w1]; decide)
    replace h := ite_f h (by rw [w1]; decide)
    replace h := ite_f h (by rw [w1]; decide)
    replace h := ite_f h (by rw [w1]; decide)
    replace h := ite_f h (by rw [w1]; decide)
    replace h := ite_t h w1
    refine g_iload_n (pc := 76) (dd d_Wrk_combine 2 rfl) rfl ?_
    refine g_iload_n (pc := 77) (dd d_Wrk_combine 3 rfl) rfl ?_
    refine g_ior (pc := 78) (dd d_Wrk_combine 4 rfl) ?_
    cases h
    exact g_iret (pc := 79) rfl (dd d_Wrk_combine 5 rfl) hT
  · replace w1 : x0 = 289 := Int32.toInt_inj.mp w1
    replace h := ite_f h (by rw [w1]; decide)
    replace h := ite_f h (by rw [w1]; decide)
    replace h := ite_f h (by rw [w1]; decide)
    replace h := ite_f h (by rw [w1]; decide)
    replace h := ite_f h (by rw [w1]; decide)
    replace h := ite_f h (by rw [w1]; decide)
    replace h := ite_t h w1
    refine g_iload_n (pc := 107) (dd d_Wrk_combine 29 rfl) rfl ?_
    refine g_iload_n (pc := 108) (dd d_Wrk_combine 30 rfl) rfl ?_
    suffices K109 : ∀ z : Int32, z = (if x1 = x2 then 0 else 1 : Int32) → GG Δ m_Wrk_combine Γ NN 0 0 (I, X) 117 [some (.int (x0)), some (.int (x1)), some (.int (x2))] [.int (z)] by
      refine g_icmpeq (pc := 109) (tgt := 116) (dd d_Wrk_combine 31 rfl) (by decide) (fun q3 => ?_) (fun q3 => ?_)
      · skip
        refine g_iconst (pc := 116) (v := 0) (dd d_Wrk_combine 34 rfl) (by decide) ?_
        exact K109 _ (by rw [if_pos q3])
      · skip
        refine g_iconst (pc := 112) (v := 1) (dd d_Wrk_combine 32 rfl) (by decide) ?_
        refine g_goto (pc := 113) (tgt := 117) (dd d_Wrk_combine 33 rfl) (by decide) ?_
        exact K109 _ (by rw [if_neg q3])
    intro z hz
    subst hz
    cases h
    exact g_iret (pc := 117) rfl (dd d_Wrk_combine 35 rfl) hT
  · replace w1 : x0 = 317 := Int32.toInt_inj.mp w1
    replace h := ite_f h (by rw [w1]; decide)
    replace h := ite_f h (by rw [w1]; decide)
    replace h := ite_f h (by rw [w1]; decide)
    replace h := ite_f h (by rw [w1]; decide)
    replace h := ite_f h (by rw [w1]; decide)
    replace h := ite_f h (by rw [w1]; decide)
    replace h := ite_f h (by rw [w1]; decide)
    replace h := ite_t h w1
    refine g_iload_n (pc := 96) (dd d_Wrk_combine 22 rfl) rfl ?_
    refine g_iload_n (pc := 97) (dd d_Wrk_combine 23 rfl) rfl ?_
    suffices K98 : ∀ z : Int32, z = (if x1 = x2 then 1 else 0 : Int32) → GG Δ m_Wrk_combine Γ NN 0 0 (I, X) 106 [some (.int (x0)), some (.int (x1)), some (.int (x2))] [.int (z)] by
      refine g_icmpne (pc := 98) (tgt := 105) (dd d_Wrk_combine 24 rfl) (by decide) (fun q4 => ?_) (fun q4 => ?_)
      · skip
        refine g_iconst (pc := 105) (v := 0) (dd d_Wrk_combine 27 rfl) (by decide) ?_
        exact K98 _ (by rw [if_neg q4])
      · skip
        refine g_iconst (pc := 101) (v := 1) (dd d_Wrk_combine 25 rfl) (by decide) ?_
        refine g_goto (pc := 102) (tgt := 106) (dd d_Wrk_combine 26 rfl) (by decide) ?_
        exact K98 _ (by rw [if_pos q4])
    intro z hz
    subst hz
    cases h
    exact g_iret (pc := 106) rfl (dd d_Wrk_combine 28 rfl) hT
  · skip
    replace h := ite_f h (fun e => w1 (166, 79) (by decide) (by rw [e]; rfl))
    replace h := ite_f h (fun e => w1 (171, 87) (by decide) (by rw [e]; rfl))
    replace h := ite_f h (fun e => w1 (173, 91) (by decide) (by rw [e]; rfl))
    replace h := ite_f h (fun e => w1 (188, 117) (by decide) (by rw [e]; rfl))
    replace h := ite_f h (fun e => w1 (222, 83) (by decide) (by rw [e]; rfl))
    replace h := ite_f h (fun e => w1 (252, 75) (by decide) (by rw [e]; rfl))
    replace h := ite_f h (fun e => w1 (289, 106) (by decide) (by rw [e]; rfl))
    replace h := ite_f h (fun e => w1 (317, 95) (by decide) (by rw [e]; rfl))
    refine g_iload_n (pc := 129) (dd d_Wrk_combine 43 rfl) rfl ?_
    refine g_iload_n (pc := 130) (dd d_Wrk_combine 44 rfl) rfl ?_
    suffices K131 : ∀ z : Int32, z = (if x2 < x1 then 0 else 1 : Int32) → GG Δ m_Wrk_combine Γ NN 0 0 (I, X) 139 [some (.int (x0)), some (.int (x1)), some (.int (x2))] [.int (z)] by
      refine g_icmpgt (pc := 131) (tgt := 138) (dd d_Wrk_combine 45 rfl) (by decide) (fun q5 => ?_) (fun q5 => ?_)
      · skip
        refine g_iconst (pc := 138) (v := 0) (dd d_Wrk_combine 48 rfl) (by decide) ?_
        exact K131 _ (by rw [if_pos q5])
      · skip
        refine g_iconst (pc := 134) (v := 1) (dd d_Wrk_combine 46 rfl) (by decide) ?_
        refine g_goto (pc := 135) (tgt := 139) (dd d_Wrk_combine 47 rfl) (by decide) ?_
        exact K131 _ (by rw [if_neg q5])
    intro z hz
    subst hz
    cases h
    exact g_iret (pc := 139) rfl (dd d_Wrk_combine 49 rfl) hT
def b_Wrk_valueOf_101 (n : Nat) (x0 : Nat) (x3 : Nat)  (y0 : Int32) (I : IM) : Option (Int32 × IM) := some (y0, I)
set_option maxRecDepth 20000 in
set_option maxHeartbeats 4000000 in
theorem gb_Wrk_valueOf_101 {Δ : Dx} {X : Lx} {rl hd ot pt it : Nat} (hX : EX Δ X rl hd ot pt it) {x0 : Nat} {x3 : Nat} (h_x0 : isWrk x0) (h_x3 : isMch x3) {n : Nat} {Γ : Cx} (hk : Γ.k = 1) {r : Int32 × IM} (hT : Tg Δ Γ (some (.int r.1)) NN (r.2, X) 0 0)  {y0 : Int32} {I : IM} (h : b_Wrk_valueOf_101 n x0 x3  y0 I = some r) : GG Δ m_Wrk_valueOf Γ NN 0 0 (I, X) 101 [none, none, none, none, none, none, none] [.int (y0)] := by
  unfold b_Wrk_valueOf_101 at h
  cases h
  exact g_iret (pc := 101) rfl (dd d_Wrk_valueOf 17 rfl) hT
def b_Wrk_valueOf_100 (n : Nat) (x0 : Nat) (x3 : Nat)   (I : IM) : Option (Int32 × IM) := b_Wrk_valueOf_101 n x0 x3  0 I
set_option maxRecDepth 20000 in
set_option maxHeartbeats 4000000 in
theorem gb_Wrk_valueOf_100 {Δ : Dx} {X : Lx} {rl hd ot pt it : Nat} (hX : EX Δ X rl hd ot pt it) {x0 : Nat} {x3 : Nat} (h_x0 : isWrk x0) (h_x3 : isMch x3) {n : Nat} {Γ : Cx} (hk : Γ.k = 1) {r : Int32 × IM} (hT : Tg Δ Γ (some (.int r.1)) NN (r.2, X) 0 0)   {I : IM} (h : b_Wrk_valueOf_100 n x0 x3   I = some r) : GG Δ m_Wrk_valueOf Γ NN 0 0 (I, X) 100 [none, none, none, none, none, none, none] [] := by
  unfold b_Wrk_valueOf_100 at h
  refine g_iconst (pc := 100) (v := 0) (dd d_Wrk_valueOf 16 rfl) (by decide) ?_
  exact gb_Wrk_valueOf_101 hX h_x0 h_x3 hk hT  h
def b_Wrk_valueOf_207 (n : Nat) (x0 : Nat) (x3 : Nat)  (y0 : Int32) (I : IM) : Option (Int32 × IM) := some (y0, I)
set_option maxRecDepth 20000 in
set_option maxHeartbeats 4000000 in
theorem gb_Wrk_valueOf_207 {Δ : Dx} {X : Lx} {rl hd ot pt it : Nat} (hX : EX Δ X rl hd ot pt it) {x0 : Nat} {x3 : Nat} (h_x0 : isWrk x0) (h_x3 : isMch x3) {n : Nat} {Γ : Cx} (hk : Γ.k = 1) {r : Int32 × IM} (hT : Tg Δ Γ (some (.int r.1)) NN (r.2, X) 0 0)  {y0 : Int32} {I : IM} (h : b_Wrk_valueOf_207 n x0 x3  y0 I = some r) : GG Δ m_Wrk_valueOf Γ NN 0 0 (I, X) 207 [none, none, none, none, none, none, none] [.int (y0)] := by
  unfold b_Wrk_valueOf_207 at h
  cases h
  exact g_iret (pc := 207) rfl (dd d_Wrk_valueOf_1 15 rfl) hT
def f_Wrk_valueOf (n : Nat) (x0 : Nat) (x1 : Int32) (x2 : Int32) (x3 : Nat) (I : IM) : Option (Int32 × IM) := if x1 = 38 then (Option.bind (f_Wrk_pop  x0 I) fun v2 => Option.bind (f_Mch_partOf  x3 v2.1 (x3 + 11) v2.1 v2.2) fun v4 => some (v4, v2.2)) else (if x1 = 39 then (Option.bind (f_Wrk_pop  x0 I) fun v6 => Option.bind (f_Mch_partOf  x3 v6.1 (x3 + 12) 0 v6.2) fun v8 => some (v8, v6.2)) else (if x1 = 40 then (Option.bind (f_Wrk_pop  x0 I) fun v10 => Option.bind (f_Mch_baseOf n x3 v10.1 v10.2) fun v12 => some (v12, v10.2)) else (if x1 = 101 then (some (x2, I)) else (if x1 = 103 then (if x2 < 0 then (b_Wrk_valueOf_100 n x0 x3  I) else (if (15 : Int32) ≤ x2 then (b_Wrk_valueOf_100 n x0 x3  I) else (chk (inb (10 + x2) 25) <| b_Wrk_valueOf_101 n x0 x3  (I (x0 + 1) (10 + x2 : Int32).toNatClampNeg) I))) else (if x1 = 104 then (Option.bind (f_Wrk_pop  x0 I) fun v17 => some (-(v17.1), v17.2)) else (if x1 = 161 then (Option.bind (f_Wrk_pop  x0 I) fun v19 => some (if (v19.1 : Int32) = 0 then 1 else 0, v19.2)) else (if x1 = 254 then (Option.bind (f_Wrk_pop  x0 I) fun v22 => some (v22.1 ^^^ (-1), v22.2)) else (Option.bind (f_Wrk_pop  x0 I) fun v24 => Option.bind (f_Wrk_pop  x0 v24.2) fun v26 => if x1 = (37 : Int32) then (Option.bind (f_Mch_pairWith n x3 v26.1 v24.1 v26.2) fun v31 => b_Wrk_valueOf_207 n x0 x3  v31.1 v31.2) else (Option.bind (f_Wrk_combine  x1 v26.1 v24.1 v26.2) fun v29 => b_Wrk_valueOf_207 n x0 x3  v29 v26.2)))))))))
set_option maxRecDepth 20000 in
set_option maxHeartbeats 4000000 in
theorem ef_Wrk_valueOf {Δ : Dx} {X : Lx} {rl hd ot pt it : Nat} (hX : EX Δ X rl hd ot pt it) {n : Nat} {x0 : Nat} {x1 : Int32} {x2 : Int32} {x3 : Nat} (h_x0 : isWrk x0) (h_x3 : isMch x3) {I : IM}  {r : Int32 × IM} (h : f_Wrk_valueOf n x0 x1 x2 x3 I = some r) : Ev Δ (1) m_Wrk_valueOf [.ref (Δ.ba + x0), .int x1, .int x2, .ref (Δ.ba + x3)] (I, X) (some (.int r.1)) (r.2, X) := by
  refine ev_of (by decide) (Nat.le_of_ble_eq_true rfl) (fun Γ hk hR hT => ?_)
  change GG Δ m_Wrk_valueOf Γ NN 0 0 (I, X) 0 [some (.ref (Δ.ba + x0)), some (.int (x1)), some (.int (x2)), some (.ref (Δ.ba + x3)), none, none, none] []
  unfold f_Wrk_valueOf at h
  refine g_iload_n (pc := 0) (dd d_Wrk_valueOf 0 rfl) rfl ?_
  refine g_lookupC (pc := 1) (dd d_Wrk_valueOf 1 rfl) (by decide) (List.forall_mem_cons.mpr ⟨fun w1 => ⟨128, by decide, ?_⟩, List.forall_mem_cons.mpr ⟨fun w1 => ⟨147, by decide, ?_⟩, List.forall_mem_cons.mpr ⟨fun w1 => ⟨161, by decide, ?_⟩, List.forall_mem_cons.mpr ⟨fun w1 => ⟨76, by decide, ?_⟩, List.forall_mem_cons.mpr ⟨fun w1 => ⟨78, by decide, ?_⟩, List.forall_mem_cons.mpr ⟨fun w1 => ⟨122, by decide, ?_⟩, List.forall_mem_cons.mpr ⟨fun w1 => ⟨102, by decide, ?_⟩, List.forall_mem_cons.mpr ⟨fun w1 => ⟨115, by decide, ?_⟩, (fun _ h => absurd h List.not_mem_nil)⟩⟩⟩⟩⟩⟩⟩⟩) (fun w1 => ⟨170, by decide, ?_⟩)
  · replace w1 : x1 = 38 := Int32.toInt_inj.mp w1
    replace h := ite_t h w1
    refine g_aload_n (pc := 128) (dd d_Wrk_valueOf 34 rfl) rfl ?_
    obtain ⟨v2, e3, h⟩ := bnd_e h
    refine g_callV (pc := 129) (dd d_Wrk_valueOf 35 rfl) v_Wrk_52 (oc_Wrk h_x0) rfl (ef_Wrk_pop hX h_x0 e3) rfl (by omega) (Nat.le_of_ble_eq_true rfl) ⟨Nat.zero_le _, Nat.zero_le _⟩ rfl ?_
    refine g_istore (pc := 132) (dd d_Wrk_valueOf 36 rfl) (by decide) ?_
    refine g_aload_n (pc := 134) (dd d_Wrk_valueOf 37 rfl) rfl ?_
    refine g_iload (pc := 135) (dd d_Wrk_valueOf 38 rfl) rfl ?_
    refine g_aload_n (pc := 137) (dd d_Wrk_valueOf 39 rfl) rfl ?_
    refine g_getr (pc := 138) (dd d_Wrk_valueOf 40 rfl) f_Wrk_71 (oc_Mch h_x3) rfl (rx_Mch_13 hX h_x3) ?_
    refine g_iload (pc := 141) (dd d_Wrk_valueOf 41 rfl) rfl ?_
    obtain ⟨v4, e5, h⟩ := bnd_e h
    refine g_callV (pc := 143) (dd d_Wrk_valueOf 42 rfl) v_Wrk_76 (oc_Mch h_x3) rfl (ef_Mch_partOf hX h_x3 (isA_of (ax_Mch_13 h_x3)) e5) rfl (by omega) (Nat.le_of_ble_eq_true rfl) ⟨Nat.zero_le _, Nat.zero_le _⟩ rfl ?_
    cases h
    exact g_iret (pc := 146) rfl (dd d_Wrk_valueOf 43 rfl) hT
  · replace w1 : x1 = 39 := Int32.toInt_inj.mp w1
    replace h := ite_f h (by rw [w1]; decide)
    replace h := ite_t h w1
    refine g_aload_n (pc := 147) (dd d_Wrk_valueOf 44 rfl) rfl ?_
    refine g_aload_n (pc := 148) (dd d_Wrk_valueOf 45 rfl) rfl ?_
    obtain ⟨v6, e7, h⟩ := bnd_e h
    refine g_callV (pc := 149) (dd d_Wrk_valueOf 46 rfl) v_Wrk_52 (oc_Wrk h_x0) rfl (ef_Wrk_pop hX h_x0 e7) rfl (by omega) (Nat.le_of_ble_eq_true rfl) ⟨Nat.zero_le _, Nat.zero_le _⟩ rfl ?_
    refine g_aload_n (pc := 152) (dd d_Wrk_valueOf 47 rfl) rfl ?_
    refine g_getr (pc := 153) (dd d_Wrk_valueOf 48 rfl) f_Wrk_80 (oc_Mch h_x3) rfl (rx_Mch_14 hX h_x3) ?_
    refine g_iconst (pc := 156) (v := 0) (dd d_Wrk_valueOf 49 rfl) (by decide) ?_
    obtain ⟨v8, e9, h⟩ := bnd_e h
    refine g_callV (pc := 157) (dd d_Wrk_valueOf 50 rfl) v_Wrk_76 (oc_Mch h_x3) rfl (ef_Mch_partOf hX h_x3 (isA_of (ax_Mch_14 h_x3)) e9) rfl (by omega) (Nat.le_of_ble_eq_true rfl) ⟨Nat.zero_le _, Nat.zero_le _⟩ rfl ?_
    cases h
    exact g_iret (pc := 160) rfl (dd d_Wrk_valueOf 51 rfl) hT
  · replace w1 : x1 = 40 := Int32.toInt_inj.mp w1
    replace h := ite_f h (by rw [w1]; decide)
    replace h := ite_f h (by rw [w1]; decide)
    replace h := ite_t h w1
    refine g_aload_n (pc := 161) (dd d_Wrk_valueOf 52 rfl) rfl ?_
    refine g_aload_n (pc := 162) (dd d_Wrk_valueOf 53 rfl) rfl ?_
    obtain ⟨v10, e11, h⟩ := bnd_e h
    refine g_callV (pc := 163) (dd d_Wrk_valueOf 54 rfl) v_Wrk_52 (oc_Wrk h_x0) rfl (ef_Wrk_pop hX h_x0 e11) rfl (by omega) (Nat.le_of_ble_eq_true rfl) ⟨Nat.zero_le _, Nat.zero_le _⟩ rfl ?_
    obtain ⟨v12, e13, h⟩ := bnd_e h
    refine g_callV (pc := 166) (dd d_Wrk_valueOf 55 rfl) v_Wrk_83 (oc_Mch h_x3) rfl (ef_Mch_baseOf hX h_x3 e13) rfl (by omega) (Nat.le_of_ble_eq_true rfl) ⟨Nat.zero_le _, Nat.zero_le _⟩ rfl ?_
    cases h
    exact g_iret (pc := 169) rfl (dd d_Wrk_valueOf 56 rfl) hT
  · replace w1 : x1 = 101 := Int32.toInt_inj.mp w1
    replace h := ite_f h (by rw [w1]; decide)
    replace h := ite_f h (by rw [w1]; decide)
    replace h := ite_f h (by rw [w1]; decide)
    replace h := ite_t h w1
    refine g_iload_n (pc := 76) (dd d_Wrk_valueOf 2 rfl) rfl ?_
    cases h
    exact g_iret (pc := 77) rfl (dd d_Wrk_valueOf 3 rfl) hT
  · replace w1 : x1 = 103 := Int32.toInt_inj.mp w1
    replace h := ite_f h (by rw [w1]; decide)
    replace h := ite_f h (by rw [w1]; decide)
    replace h := ite_f h (by rw [w1]; decide)
    replace h := ite_f h (by rw [w1]; decide)
    replace h := ite_t h w1
    refine g_iload_n (pc := 78) (dd d_Wrk_valueOf 4 rfl) rfl ?_
    refine g_iflt (pc := 79) (tgt := 100) (dd d_Wrk_valueOf 5 rfl) (by decide) (fun q14 => ?_) (fun q14 => ?_)
    · replace h := ite_t h q14
      refine g_drop [0, 1, 2, 3] ?_
      exact gb_Wrk_valueOf_100 hX h_x0 h_x3 hk hT  h
    · replace h := ite_f h q14
      refine g_iload_n (pc := 82) (dd d_Wrk_valueOf 6 rfl) rfl ?_
      refine g_bipush (pc := 83) (v := 15) (dd d_Wrk_valueOf 7 rfl) (by decide) ?_
      refine g_icmpge (pc := 85) (tgt := 100) (dd d_Wrk_valueOf 8 rfl) (by decide) (fun q15 => ?_) (fun q15 => ?_)
      · replace h := ite_t h q15
        refine g_drop [0, 1, 2, 3] ?_
        exact gb_Wrk_valueOf_100 hX h_x0 h_x3 hk hT  h
      · replace h := ite_f h q15
        refine g_aload_n (pc := 88) (dd d_Wrk_valueOf 9 rfl) rfl ?_
        refine g_getr (pc := 89) (dd d_Wrk_valueOf 10 rfl) f_Wrk_9 (oc_Wrk h_x0) rfl (rx_Wrk_0 hX h_x0) ?_
        refine g_bipush (pc := 92) (v := 10) (dd d_Wrk_valueOf 11 rfl) (by decide) ?_
        refine g_iload_n (pc := 94) (dd d_Wrk_valueOf 12 rfl) rfl ?_
        refine g_iadd (pc := 95) (dd d_Wrk_valueOf 13 rfl) ?_
        obtain ⟨c16, h⟩ := chk_e h
        refine g_iald (pc := 96) (dd d_Wrk_valueOf 14 rfl) (ax_Wrk_0 h_x0) c16 ?_
        refine g_goto (pc := 97) (tgt := 101) (dd d_Wrk_valueOf 15 rfl) (by decide) ?_
        refine g_drop [0, 1, 2, 3] ?_
        exact gb_Wrk_valueOf_101 hX h_x0 h_x3 hk hT  h
  · replace w1 : x1 = 104 := Int32.toInt_inj.mp w1
    replace h := ite_f h (by rw [w1]; decide)
    replace h := ite_f h (by rw [w1]; decide)
    replace h := ite_f h (by rw [w1]; decide)
    replace h := ite_f h (by rw [w1]; decide)
    replace h := ite_f h (by rw [w1]; decide)
    replace h := ite_t h w1
    refine g_aload_n (pc := 122) (dd d_Wrk_valueOf 30 rfl) rfl ?_
    obtain ⟨v17, e18, h⟩ := bnd_e h
    refine g_callV (pc := 123) (dd d_Wrk_valueOf 31 rfl) v_Wrk_52 (oc_Wrk h_x0) rfl (ef_Wrk_pop hX h_x0 e18) rfl (by omega) (Nat.le_of_ble_eq_true rfl) ⟨Nat.zero_le _, Nat.zero_le _⟩ rfl ?_
    refine g_ineg (pc := 126) (dd d_Wrk_valueOf 32 rfl) ?_
    cases h
    exact g_iret (pc := 127) rfl (dd d_Wrk_valueOf 33 rfl) hT
  · replace w1 : x1 = 161 := Int32.toInt_inj.mp w1
    replace h := ite_f h (by rw [w1]; decide)
    replace h := ite_f h (by rw [w1]; decide)
    replace h := ite_f h (by rw [w1]; decide)
    replace h := ite_f h (by rw [w1]; decide)
    replace h := ite_f h (by rw [w1]; decide)
    replace h := ite_f h (by rw [w1]; decide)
    replace h := ite_t h w1
    refine g_aload_n (pc := 102) (dd d_Wrk_valueOf 18 rfl) rfl ?_
    obtain ⟨v19, e20, h⟩ := bnd_e h
    refine g_callV (pc := 103) (dd d_Wrk_valueOf 19 rfl) v_Wrk_52 (oc_Wrk h_x0) rfl (ef_Wrk_pop hX h_x0 e20) rfl (by omega) (Nat.le_of_ble_eq_true rfl) ⟨Nat.zero_le _, Nat.zero_le _⟩ rfl ?_
    suffices K106 : ∀ z : Int32, z = (if (v19.1 : Int32) = 0 then 1 else 0 : Int32) → GG Δ m_Wrk_valueOf Γ NN 0 0 (v19.2, X) 114 [some (.ref (Δ.ba + x0)), some (.int (x1)), some (.int (x2)), some (.ref (Δ.ba + x3)), none, none, none] [.int (z)] by
      refine g_ifne (pc := 106) (tgt := 113) (dd d_Wrk_valueOf 20 rfl) (by decide) (fun q21 => ?_) (fun q21 => ?_)
      · skip
        refine g_iconst (pc := 113) (v := 0) (dd d_Wrk_valueOf 23 rfl) (by decide) ?_
        exact K106 _ (by rw [if_neg q21])
      · skip
        refine g_iconst (pc := 109) (v := 1) (dd d_Wrk_valueOf 21 rfl) (by decide) ?_
        refine g_goto (pc := 110) (tgt := 114) (dd d_Wrk_valueOf 22 rfl) (by decide) ?_
        exact K106 _ (by rw [if_pos q21])
    intro z hz
    subst hz
    cases h
    exact g_iret (pc := 114) rfl (dd d_Wrk_valueOf 24 rfl) hT
  · replace w1 : x1 = 254 := Int32.toInt_inj.mp w1
    replace h := ite_f h (by rw [w1]; decide)
    replace h := ite_f h (by rw [w1]; decide)
    replace h := ite_f h (by rw [w1]; decide)
    replace h := ite_f h (by rw [w1]; decide)
    replace h := ite_f h (by rw [w1]; decide)
    replace h := ite_f h (by rw [w1]; decide)
    replace h := ite_f h (by rw [w1]; decide)
    replace h := ite_t h w1
    refine g_aload_n (pc := 115) (dd d_Wrk_valueOf 25 rfl) rfl ?_
    obtain ⟨v22, e23, h⟩ := bnd_e h
    refine g_callV (pc := 116) (dd d_Wrk_valueOf 26 rfl) v_Wrk_52 (oc_Wrk h_x0) rfl (ef_Wrk_pop hX h_x0 e23) rfl (by omega) (Nat.le_of_ble_eq_true rfl) ⟨Nat.zero_le _, Nat.zero_le _⟩ rfl ?_
    refine g_iconst (pc := 119) (v := (-1)) (dd d_Wrk_valueOf 27 rfl) (by decide) ?_
    refine g_ixor (pc := 120) (dd d_Wrk_valueOf 28 rfl) ?_
    cases h
    exact g_iret (pc := 121) rfl (dd d_Wrk_valueOf 29 rfl) hT
  · skip
    replace h := ite_f h (fun e => w1 (38, 127) (by decide) (by rw [e]; rfl))
    replace h := ite_f h (fun e => w1 (39, 146) (by decide) (by rw [e]; rfl))
    replace h := ite_f h (fun e => w1 (40, 160) (by decide) (by rw [e]; rfl))
    replace h := ite_f h (fun e => w1 (101, 75) (by decide) (by rw [e]; rfl))
    replace h := ite_f h (fun e => w1 (103, 77) (by decide) (by rw [e]; rfl))
    replace h := ite_f h (fun e => w1 (104, 121) (by decide) (by rw [e]; rfl))
    replace h := ite_f h (fun e => w1 (161, 101) (by decide) (by rw [e]; rfl))
    replace h := ite_f h (fun e => w1 (254, 114) (by decide) (by rw [e]; rfl))
    refine g_aload_n (pc := 170) (dd d_Wrk_valueOf 57 rfl) rfl ?_
    obtain ⟨v24, e25, h⟩ := bnd_e h
    refine g_callV (pc := 171) (dd d_Wrk_valueOf 58 rfl) v_Wrk_52 (oc_Wrk h_x0) rfl (ef_Wrk_pop hX h_x0 e25) rfl (by omega) (Nat.le_of_ble_eq_true rfl) ⟨Nat.zero_le _, Nat.zero_le _⟩ rfl ?_
    refine g_istore (pc := 174) (dd d_Wrk_valueOf 59 rfl) (by decide) ?_
    refine g_aload_n (pc := 176) (dd d_Wrk_valueOf_1 0 rfl) rfl ?_
    obtain ⟨v26, e27, h⟩ := bnd_e h
    refine g_callV (pc := 177) (dd d_Wrk_valueOf_1 1 rfl) v_Wrk_52 (oc_Wrk h_x0) rfl (ef_Wrk_pop hX h_x0 e27) rfl (by omega) (Nat.le_of_ble_eq_true rfl) ⟨Nat.zero_le _, Nat.zero_le _⟩ rfl ?_
    refine g_istore (pc := 180) (dd d_Wrk_valueOf_1 2 rfl) (by decide) ?_
    refine g_iload_n (pc := 182) (dd d_Wrk_valueOf_1 3 rfl) rfl ?_
    refine g_bipush (pc := 183) (v := 37) (dd d_Wrk_valueOf_1 4 rfl) (by decide) ?_
    refine g_icmpne (pc := 185) (tgt := 199) (dd d_Wrk_valueOf_1 5 rfl) (by decide) (fun q28 => ?_) (fun q28 => ?_)
    · replace h := ite_f h q28
      refine g_iload_n (pc := 199) (dd d_Wrk_valueOf_1 11 rfl) rfl ?_
      refine g_iload (pc := 200) (dd d_Wrk_valueOf_1 12 rfl) rfl ?_
      refine g_iload (pc := 202) (dd d_Wrk_valueOf_1 13 rfl) rfl ?_
      obtain ⟨v29, e30, h⟩ := bnd_e h
      refine g_callS (pc := 204) (dd d_Wrk_valueOf_1 14 rfl) s_Wrk_90 (ef_Wrk_combine hX e30) rfl (by omega) (Nat.le_of_ble_eq_true rfl) ⟨Nat.zero_le _, Nat.zero_le _⟩ rfl ?_
      refine g_drop [0, 1, 2, 3, 5, 6] ?_
      exact gb_Wrk_valueOf_207 hX h_x0 h_x3 hk hT  h
    · replace h := ite_t h q28
      refine g_aload_n (pc := 188) (dd d_Wrk_valueOf_1 6 rfl) rfl ?_
      refine g_iload (pc := 189) (dd d_Wrk_valueOf_1 7 rfl) rfl ?_
      refine g_iload (pc := 191) (dd d_Wrk_valueOf_1 8 rfl) rfl ?_
      obtain ⟨v31, e32, h⟩ := bnd_e h
      refine g_callV (pc := 193) (dd d_Wrk_valueOf_1 9 rfl) v_Wrk_87 (oc_Mch h_x3) rfl (ef_Mch_pairWith hX h_x3 e32) rfl (by omega) (Nat.le_of_ble_eq_true rfl) ⟨Nat.zero_le _, Nat.zero_le _⟩ rfl ?_
      refine g_goto (pc := 196) (tgt := 207) (dd d_Wrk_valueOf_1 10 rfl) (by decide) ?_
      refine g_drop [0, 1, 2, 3, 5, 6] ?_
      exact gb_Wrk_valueOf_207 hX h_x0 h_x3 hk hT  h
def b_Wrk_push_39 (x0 : Nat)   (I : IM) : Option (IM) := some I
set_option maxRecDepth 20000 in
set_option maxHeartbeats 4000000 in
theorem gb_Wrk_push_39 {Δ : Dx} {X : Lx} {rl hd ot pt it : Nat} (hX : EX Δ X rl hd ot pt it) {x0 : Nat} (h_x0 : isWrk x0)  {Γ : Cx} (hk : Γ.k = 0) {r : IM} (hT : Tg Δ Γ none NN (r, X) 0 0)   {I : IM} (h : b_Wrk_push_39 x0   I = some r) : GG Δ m_Wrk_push Γ NN 0 0 (I, X) 39 [none, none] [] := by
  unfold b_Wrk_push_39 at h
  cases h
  exact g_vret (pc := 39) rfl (dd d_Wrk_push 21 rfl) hT
def f_Wrk_push (x0 : Nat) (x1 : Int32) (I : IM) : Option (IM) := if (I x0 2 : Int32) < 0 then (b_Wrk_push_39 x0  I) else (if (64 : Int32) ≤ (I x0 2 : Int32) then (b_Wrk_push_39 x0  I) else (chk (inb (I x0 2) 64) <| lt (up I (x0 + 2) (I x0 2 : Int32).toNatClampNeg (x1)) fun I4 => lt (up I4 x0 2 ((I4 x0 2) + 1)) fun I5 => b_Wrk_push_39 x0  I5))
set_option maxRecDepth 20000 in
set_option maxHeartbeats 4000000 in
theorem ef_Wrk_push {Δ : Dx} {X : Lx} {rl hd ot pt it : Nat} (hX : EX Δ X rl hd ot pt it) {x0 : Nat} {x1 : Int32} (h_x0 : isWrk x0) {I : IM}  {r : IM} (h : f_Wrk_push x0 x1 I = some r) : Ev Δ (0) m_Wrk_push [.ref (Δ.ba + x0), .int x1] (I, X) none (r, X) := by
  refine ev_of (by decide) (Nat.le_of_ble_eq_true rfl) (fun Γ hk hR hT => ?_)
  change GG Δ m_Wrk_push Γ NN 0 0 (I, X) 0 [some (.ref (Δ.ba + x0)), some (.int (x1))] []
  unfold f_Wrk_push at h
  refine g_aload_n (pc := 0) (dd d_Wrk_push 0 rfl) rfl ?_
  refine g_geti (pc := 1) (dd d_Wrk_push 1 rfl) f_Wrk_27 (oc_Wrk h_x0) rfl ?_
  refine g_iflt (pc := 4) (tgt := 39) (dd d_Wrk_push 2 rfl) (by decide) (fun q1 => ?_) (fun q1 => ?_)
  · replace h := ite_t h q1
    refine g_drop [0, 1] ?_
    exact gb_Wrk_push_39 hX h_x0 hk hT  h
  · replace h := ite_f h q1
    refine g_aload_n (pc := 7) (dd d_Wrk_push 3 rfl) rfl ?_
    refine g_geti (pc := 8) (dd d_Wrk_push 4 rfl) f_Wrk_27 (oc_Wrk h_x0) rfl ?_
    refine g_aload_n (pc := 11) (dd d_Wrk_push 5 rfl) rfl ?_
    refine g_getr (pc := 12) (dd d_Wrk_push 6 rfl) f_Wrk_15 (oc_Wrk h_x0) rfl (rx_Wrk_1 hX h_x0) ?_
    refine g_alen (pc := 15) (t := 0) (v := 64) (dd d_Wrk_push 7 rfl) (ax_Wrk_1 h_x0) rfl (by decide) ?_
    refine g_icmpge (pc := 16) (tgt := 39) (dd d_Wrk_push 8 rfl) (by decide) (fun q2 => ?_) (fun q2 => ?_)
    · replace h := ite_t h q2
      refine g_drop [0, 1] ?_
      exact gb_Wrk_push_39 hX h_x0 hk hT  h
    · replace h := ite_f h q2
      refine g_aload_n (pc := 19) (dd d_Wrk_push 9 rfl) rfl ?_
      refine g_getr (pc := 20) (dd d_Wrk_push 10 rfl) f_Wrk_15 (oc_Wrk h_x0) rfl (rx_Wrk_1 hX h_x0) ?_
      refine g_aload_n (pc := 23) (dd d_Wrk_push 11 rfl) rfl ?_
      refine g_geti (pc := 24) (dd d_Wrk_push 12 rfl) f_Wrk_27 (oc_Wrk h_x0) rfl ?_
      refine g_iload_n (pc := 27) (dd d_Wrk_push 13 rfl) rfl ?_
      obtain ⟨c3, h⟩ := chk_e h
      refine g_iastN (pc := 28) (dd d_Wrk_push 14 rfl) (ax_Wrk_1 h_x0) c3 (fun I4 hI4 => ?_)
      replace h := lt_e h hI4
      refine g_aload_n (pc := 29) (dd d_Wrk_push 15 rfl) rfl ?_
      refine g_dup (pc := 30) (dd d_Wrk_push 16 rfl) rfl ?_
      refine g_geti (pc := 31) (dd d_Wrk_push 17 rfl) f_Wrk_27 (oc_Wrk h_x0) rfl ?_
      refine g_iconst (pc := 34) (v := 1) (dd d_Wrk_push 18 rfl) (by decide) ?_
      refine g_iadd (pc := 35) (dd d_Wrk_push 19 rfl) ?_
      refine g_putiN (pc := 36) (dd d_Wrk_push 20 rfl) f_Wrk_27 fm_Wrk_2 (oc_Wrk h_x0) rfl (fun I5 hI5 => ?_)
      replace h := lt_e h hI5
      refine g_drop [0, 1] ?_
      exact gb_Wrk_push_39 hX h_x0 hk hT  h
def b_Wrk_workOut_193 (n : Nat) (x0 : Nat) (x1 : Nat) (x3 : Nat) (H46 : Int32 → Int32 → IM → Option (IM)) (x4 : Int32) (x5 : Int32) (I : IM) : Option (IM) := if (I (x0 + 1) (1 : Int32).toNatClampNeg : Int32) = 0 then (H46 x4 (x5 + 1) I) else (some I)
set_option maxRecDepth 20000 in
set_option maxHeartbeats 4000000 in
theorem gb_Wrk_workOut_193 {Δ : Dx} {X : Lx} {rl hd ot pt it : Nat} (hX : EX Δ X rl hd ot pt it) {x0 : Nat} {x1 : Nat} {x3 : Nat} (h_x0 : isWrk x0) (h_x1 : isPol x1) (h_x3 : isMch x3) {n : Nat} {Γ : Cx} (hk : Γ.k = 3) {r : IM} (hT : Tg Δ Γ none NN (r, X) 0 0) {H46 : Int32 → Int32 → IM → Option (IM)} (hH46 : ∀ (x4 : Int32) (x5 : Int32) (I : IM), H46 x4 x5 I = some r → GG Δ m_Wrk_workOut Γ NN 0 0 (I, X) 46 [some (.ref (Δ.ba + x0)), some (.ref (Δ.ba + x1)), none, some (.ref (Δ.ba + x3)), some (.int (x4)), some (.int (x5)), none, none, none] []) {x4 : Int32} {x5 : Int32} {I : IM} (h : b_Wrk_workOut_193 n x0 x1 x3 H46 x4 x5 I = some r) : GG Δ m_Wrk_workOut Γ NN 0 0 (I, X) 193 [some (.ref (Δ.ba + x0)), some (.ref (Δ.ba + x1)), none, some (.ref (Δ.ba + x3)), some (.int (x4)), some (.int (x5)), none, none, none] [] := by
  unfold b_Wrk_workOut_193 at h
  refine g_aload_n (pc := 193) (dd d_Wrk_workOut_1 35 rfl) rfl ?_
  refine g_getr (pc := 194) (dd d_Wrk_workOut_1 36 rfl) f_Wrk_9 (oc_Wrk h_x0) rfl (rx_Wrk_0 hX h_x0) ?_
  refine g_iconst (pc := 197) (v := 1) (dd d_Wrk_workOut_1 37 rfl) (by decide) ?_
  refine g_iald (pc := 198) (dd d_Wrk_workOut_1 38 rfl) (ax_Wrk_0 h_x0) (by rw [vp_in_iff]; decide) ?_
  refine g_ifeq (pc := 199) (tgt := 203) (dd d_Wrk_workOut_1 39 rfl) (by decide) (fun q16 => ?_) (fun q16 => ?_)
  · replace h := ite_t h q16
    refine g_iincW (pc := 203) (w := 1) (dd d_Wrk_workOut_1 41 rfl) rfl (by decide) (by decide) ?_
    refine g_goto (pc := 206) (tgt := 46) (dd d_Wrk_workOut_1 42 rfl) (by decide) ?_
    exact hH46 _ _ _ h
  · replace h := ite_f h q16
    cases h
    exact g_vret (pc := 202) rfl (dd d_Wrk_workOut_1 40 rfl) hT
def b_Wrk_workOut_128 (n : Nat) (x0 : Nat) (x1 : Nat) (x3 : Nat) (H46 : Int32 → Int32 → IM → Option (IM)) (x4 : Int32) (y0 : Int32) (I : IM) : Option (IM) := b_Wrk_workOut_193 n x0 x1 x3 H46 x4 y0 I
set_option maxRecDepth 20000 in
set_option maxHeartbeats 4000000 in
theorem gb_Wrk_workOut_128 {Δ : Dx} {X : Lx} {rl hd ot pt it : Nat} (hX : EX Δ X rl hd ot pt it) {x0 : Nat} {x1 : Nat} {x3 : Nat} (h_x0 : isWrk x0) (h_x1 : isPol x1) (h_x3 : isMch x3) {n : Nat} {Γ : Cx} (hk : Γ.k = 3) {r : IM} (hT : Tg Δ Γ none NN (r, X) 0 0) {H46 : Int32 → Int32 → IM → Option (IM)} (hH46 : ∀ (x4 : Int32) (x5 : Int32) (I : IM), H46 x4 x5 I = some r → GG Δ m_Wrk_workOut Γ NN 0 0 (I, X) 46 [some (.ref (Δ.ba + x0)), some (.ref (Δ.ba + x1)), none, some (.ref (Δ.ba + x3)), some (.int (x4)), some (.int (x5)), none, none, none] []) {x4 : Int32} {y0 : Int32} {I : IM} (h : b_Wrk_workOut_128 n x0 x1 x3 H46 x4 y0 I = some r) : GG Δ m_Wrk_workOut Γ NN 0 0 (I, X) 128 [some (.ref (Δ.ba + x0)), some (.ref (Δ.ba + x1)), none, some (.ref (Δ.ba + x3)), some (.int (x4)), none, none, none, none] [.int (y0)] := by
  unfold b_Wrk_workOut_128 at h
  refine g_istore (pc := 128) (dd d_Wrk_workOut_1 4 rfl) (by decide) ?_
  refine g_goto (pc := 130) (tgt := 193) (dd d_Wrk_workOut_1 5 rfl) (by decide) ?_
  exact gb_Wrk_workOut_193 hX h_x0 h_x1 h_x3 hk hT hH46 h
def b_Wrk_workOut_107 (n : Nat) (x0 : Nat) (x1 : Nat) (x3 : Nat) (H46 : Int32 → Int32 → IM → Option (IM)) (x4 : Int32) (x5 : Int32) (x7 : Int32) (y0 : Int32) (I : IM) : Option (IM) := if y0 = 0 then (b_Wrk_workOut_128 n x0 x1 x3 H46 x4 x5 I) else (b_Wrk_workOut_128 n x0 x1 x3 H46 x4 (maxI x5 (x7 - 1)) I)
set_option maxRecDepth 20000 in
set_option maxHeartbeats 4000000 in
theorem gb_Wrk_workOut_107 {Δ : Dx} {X : Lx} {rl hd ot pt it : Nat} (hX : EX Δ X rl hd ot pt it) {x0 : Nat} {x1 : Nat} {x3 : Nat} (h_x0 : isWrk x0) (h_x1 : isPol x1) (h_x3 : isMch x3) {n : Nat} {Γ : Cx} (hk : Γ.k = 3) {r : IM} (hT : Tg Δ Γ none NN (r, X) 0 0) {H46 : Int32 → Int32 → IM → Option (IM)} (hH46 : ∀ (x4 : Int32) (x5 : Int32) (I : IM), H46 x4 x5 I = some r → GG Δ m_Wrk_workOut Γ NN 0 0 (I, X) 46 [some (.ref (Δ.ba + x0)), some (.ref (Δ.ba + x1)), none, some (.ref (Δ.ba + x3)), some (.int (x4)), some (.int (x5)), none, none, none] []) {x4 : Int32} {x5 : Int32} {x7 : Int32} {y0 : Int32} {I : IM} (h : b_Wrk_workOut_107 n x0 x1 x3 H46 x4 x5 x7 y0 I = some r) : GG Δ m_Wrk_workOut Γ NN 0 0 (I, X) 107 [some (.ref (Δ.ba + x0)), some (.ref (Δ.ba + x1)), none, some (.ref (Δ.ba + x3)), some (.int (x4)), some (.int (x5)), none, some (.int (x7)), none] [.int (y0)] := by
  unfold b_Wrk_workOut_107 at h
  refine g_istore (pc := 107) (dd d_Wrk_workOut 54 rfl) (by decide) ?_
  refine g_iload (pc := 109) (dd d_Wrk_workOut 55 rfl) rfl ?_
  refine g_ifeq (pc := 111) (tgt := 126) (dd d_Wrk_workOut 56 rfl) (by decide) (fun q30 => ?_) (fun q30 => ?_)
  · replace h := ite_t h q30
    refine g_iload (pc := 126) (dd d_Wrk_workOut_1 3 rfl) rfl ?_
    refine g_drop [5, 7, 8] ?_
    exact gb_Wrk_workOut_128 hX h_x0 h_x1 h_x3 hk hT hH46 h
  · replace h := ite_f h q30
    refine g_iload (pc := 114) (dd d_Wrk_workOut 57 rfl) rfl ?_
    refine g_iload (pc := 116) (dd d_Wrk_workOut 58 rfl) rfl ?_
    refine g_iconst (pc := 118) (v := 1) (dd d_Wrk_workOut 59 rfl) (by decide) ?_
    refine g_isub (pc := 119) (dd d_Wrk_workOut_1 0 rfl) ?_
    refine g_mmax (pc := 120) (dd d_Wrk_workOut_1 1 rfl) n_Wrk_46 (by omega) (Nat.le_of_ble_eq_true rfl) (Nat.zero_le _) (Nat.zero_le _) ?_
    refine g_goto (pc := 123) (tgt := 128) (dd d_Wrk_workOut_1 2 rfl) (by decide) ?_
    refine g_drop [5, 7, 8] ?_
    exact gb_Wrk_workOut_128 hX h_x0 h_x1 h_x3 hk hT hH46 h
def b_Wrk_workOut_102 (n : Nat) (x0 : Nat) (x1 : Nat) (x3 : Nat) (H46 : Int32 → Int32 → IM → Option (IM)) (x4 : Int32) (x5 : Int32) (x7 : Int32) (I : IM) : Option (IM) := b_Wrk_workOut_107 n x0 x1 x3 H46 x4 x5 x7 1 I
set_option maxRecDepth 20000 in
set_option maxHeartbeats 4000000 in
theorem gb_Wrk_workOut_102 {Δ : Dx} {X : Lx} {rl hd ot pt it : Nat} (hX : EX Δ X rl hd ot pt it) {x0 : Nat} {x1 : Nat} {x3 : Nat} (h_x0 : isWrk x0) (h_x1 : isPol x1) (h_x3 : isMch x3) {n : Nat} {Γ : Cx} (hk : Γ.k = 3) {r : IM} (hT : Tg Δ Γ none NN (r, X) 0 0) {H46 : Int32 → Int32 → IM → Option (IM)} (hH46 : ∀ (x4 : Int32) (x5 : Int32) (I : IM), H46 x4 x5 I = some r → GG Δ m_Wrk_workOut Γ NN 0 0 (I, X) 46 [some (.ref (Δ.ba + x0)), some (.ref (Δ.ba + x1)), none, some (.ref (Δ.ba + x3)), some (.int (x4)), some (.int (x5)), none, none, none] []) {x4 : Int32} {x5 : Int32} {x7 : Int32} {I : IM} (h : b_Wrk_workOut_102 n x0 x1 x3 H46 x4 x5 x7 I = some r) : GG Δ m_Wrk_workOut Γ NN 0 0 (I, X) 102 [some (.ref (Δ.ba + x0)), some (.ref (Δ.ba + x1)), none, some (.ref (Δ.ba + x3)), some (.int (x4)), some (.int (x5)), none, some (.int (x7)), none] [] := by
  unfold b_Wrk_workOut_102 at h
  refine g_iconst (pc := 102) (v := 1) (dd d_Wrk_workOut 51 rfl) (by decide) ?_
  refine g_goto (pc := 103) (tgt := 107) (dd d_Wrk_workOut 52 rfl) (by decide) ?_
  exact gb_Wrk_workOut_107 hX h_x0 h_x1 h_x3 hk hT hH46 h
def b_Wrk_workOut_87 (n : Nat) (x0 : Nat) (x1 : Nat) (x3 : Nat) (H46 : Int32 → Int32 → IM → Option (IM)) (x4 : Int32) (x5 : Int32) (x6 : Int32) (x7 : Int32) (I : IM) : Option (IM) := if x6 = (186 : Int32) then (b_Wrk_workOut_102 n x0 x1 x3 H46 x4 x5 x7 I) else (Option.bind (f_Wrk_pop  x0 I) fun v26 => if (if (v26.1 : Int32) = 0 then 1 else 0 : Int32) = 0 then (b_Wrk_workOut_128 n x0 x1 x3 H46 x4 x5 v26.2) else (b_Wrk_workOut_128 n x0 x1 x3 H46 x4 (maxI x5 (x7 - 1)) v26.2))
set_option maxRecDepth 20000 in
set_option maxHeartbeats 4000000 in
theorem gb_Wrk_workOut_87 {Δ : Dx} {X : Lx} {rl hd ot pt it : Nat} (hX : EX Δ X rl hd ot pt it) {x0 : Nat} {x1 : Nat} {x3 : Nat} (h_x0 : isWrk x0) (h_x1 : isPol x1) (h_x3 : isMch x3) {n : Nat} {Γ : Cx} (hk : Γ.k = 3) {r : IM} (hT : Tg Δ Γ none NN (r, X) 0 0) {H46 : Int32 → Int32 → IM → Option (IM)} (hH46 : ∀ (x4 : Int32) (x5 : Int32) (I : IM), H46 x4 x5 I = some r → GG Δ m_Wrk_workOut Γ NN 0 0 (I, X) 46 [some (.ref (Δ.ba + x0)), some (.ref (Δ.ba + x1)), none, some (.ref (Δ.ba + x3)), some (.int (x4)), some (.int (x5)), none, none, none] []) {x4 : Int32} {x5 : Int32} {x6 : Int32} {x7 : Int32} {I : IM} (h : b_Wrk_workOut_87 n x0 x1 x3 H46 x4 x5 x6 x7 I = some r) : GG Δ m_Wrk_workOut Γ NN 0 0 (I, X) 87 [some (.ref (Δ.ba + x0)), some (.ref (Δ.ba + x1)), none, some (.ref (Δ.ba + x3)), some (.int (x4)), some (.int (x5)), some (.int (x6)), some (.int (x7)), none] [] := by
  unfold b_Wrk_workOut_87 at h
  refine g_iload (pc := 87) (dd d_Wrk_workOut 45 rfl) rfl ?_
  refine g_sipush (pc := 89) (v := 186) (dd d_Wrk_workOut 46 rfl) (by decide) ?_
  refine g_icmpeq (pc := 92) (tgt := 102) (dd d_Wrk_workOut 47 rfl) (by decide) (fun q25 => ?_) (fun q25 => ?_)
  · replace h := ite_t h q25
    refine g_drop [6] ?_
    exact gb_Wrk_workOut_102 hX h_x0 h_x1 h_x3 hk hT hH46 h
  · replace h := ite_f h q25
    refine g_aload_n (pc := 95) (dd d_Wrk_workOut 48 rfl) rfl ?_
    obtain ⟨v26, e27, h⟩ := bnd_e h
    refine g_callV (pc := 96) (dd d_Wrk_workOut 49 rfl) v_Wrk_52 (oc_Wrk h_x0) rfl (ef_Wrk_pop hX h_x0 e27) rfl (by omega) (Nat.le_of_ble_eq_true rfl) ⟨Nat.zero_le _, Nat.zero_le _⟩ rfl ?_
    suffices K99 : ∀ z : Int32, z = (if (v26.1 : Int32) = 0 then 1 else 0 : Int32) → GG Δ m_Wrk_workOut Γ NN 0 0 (v26.2, X) 107 [some (.ref (Δ.ba + x0)), some (.ref (Δ.ba + x1)), none, some (.ref (Δ.ba + x3)), some (.int (x4)), some (.int (x5)), some (.int (x6)), some (.int (x7)), none] [.int (z)] by
      refine g_ifne (pc := 99) (tgt := 106) (dd d_Wrk_workOut 50 rfl) (by decide) (fun q28 => ?_) (fun q28 => ?_)
      · skip
        refine g_iconst (pc := 106) (v := 0) (dd d_Wrk_workOut 53 rfl) (by decide) ?_
        exact K99 _ (by rw [if_neg q28])
      · skip
        refine g_iconst (pc := 102) (v := 1) (dd d_Wrk_workOut 51 rfl) (by decide) ?_
        refine g_goto (pc := 103) (tgt := 107) (dd d_Wrk_workOut 52 rfl) (by decide) ?_
        exact K99 _ (by rw [if_pos q28])
    intro z hz
    subst hz
    refine g_istore (pc := 107) (dd d_Wrk_workOut 54 rfl) (by decide) ?_
    refine g_iload (pc := 109) (dd d_Wrk_workOut 55 rfl) rfl ?_
    refine g_ifeq (pc := 111) (tgt := 126) (dd d_Wrk_workOut 56 rfl) (by decide) (fun q29 => ?_) (fun q29 => ?_)
    · replace h := ite_t h q29
      refine g_iload (pc := 126) (dd d_Wrk_workOut_1 3 rfl) rfl ?_
      refine g_drop [5, 6, 7, 8] ?_
      exact gb_Wrk_workOut_128 hX h_x0 h_x1 h_x3 hk hT hH46 h
    · replace h := ite_f h q29
      refine g_iload (pc := 114) (dd d_Wrk_workOut 57 rfl) rfl ?_
      refine g_iload (pc := 116) (dd d_Wrk_workOut 58 rfl) rfl ?_
      refine g_iconst (pc := 118) (v := 1) (dd d_Wrk_workOut 59 rfl) (by decide) ?_
      refine g_isub (pc := 119) (dd d_Wrk_workOut_1 0 rfl) ?_
      refine g_mmax (pc := 120) (dd d_Wrk_workOut_1 1 rfl) n_Wrk_46 (by omega) (Nat.le_of_ble_eq_true rfl) (Nat.zero_le _) (Nat.zero_le _) ?_
      refine g_goto (pc := 123) (tgt := 128) (dd d_Wrk_workOut_1 2 rfl) (by decide) ?_
      refine g_drop [5, 6, 7, 8] ?_
      exact gb_Wrk_workOut_128 hX h_x0 h_x1 h_x3 hk hT hH46 h
def b_Wrk_workOut_158 (n : Nat) (x0 : Nat) (x1 : Nat) (x3 : Nat) (H46 : Int32 → Int32 → IM → Option (IM)) (x4 : Int32) (x5 : Int32) (x6 : Int32) (x7 : Int32) (I : IM) : Option (IM) := Option.bind (f_Wrk_valueOf n x0 x6 x7 x3 I) fun v17 => Option.bind (f_Wrk_push  x0 v17.1 v17.2) fun v19 => if x6 = (37 : Int32) then (if (v17.1 : Int32) = ((-1) : Int32) then (Option.bind (f_Wrk_endWith n x0 4 v19) fun v23 => b_Wrk_workOut_193 n x0 x1 x3 H46 x4 x5 v23) else (b_Wrk_workOut_193 n x0 x1 x3 H46 x4 x5 v19)) else (b_Wrk_workOut_193 n x0 x1 x3 H46 x4 x5 v19)
set_option maxRecDepth 20000 in
set_option maxHeartbeats 4000000 in
theorem gb_Wrk_workOut_158 {Δ : Dx} {X : Lx} {rl hd ot pt it : Nat} (hX : EX Δ X rl hd ot pt it) {x0 : Nat} {x1 : Nat} {x3 : Nat} (h_x0 : isWrk x0) (h_x1 : isPol x1) (h_x3 : isMch x3) {n : Nat} {Γ : Cx} (hk : Γ.k = 3) {r : IM} (hT : Tg Δ Γ none NN (r, X) 0 0) {H46 : Int32 → Int32 → IM → Option (IM)} (hH46 : ∀ (x4 : Int32) (x5 : Int32) (I : IM), H46 x4 x5 I = some r → GG Δ m_Wrk_workOut Γ NN 0 0 (I, X) 46 [some (.ref (Δ.ba + x0)), some (.ref (Δ.ba + x1)), none, some (.ref (Δ.ba + x3)), some (.int (x4)), some (.int (x5)), none, none, none] []) {x4 : Int32} {x5 : Int32} {x6 : Int32} {x7 : Int32} {I : IM} (h : b_Wrk_workOut_158 n x0 x1 x3 H46 x4 x5 x6 x7 I = some r) : GG Δ m_Wrk_workOut Γ NN 0 0 (I, X) 158 [some (.ref (Δ.ba + x0)), some (.ref (Δ.ba + x1)), none, some (.ref (Δ.ba + x3)), some (.int (x4)), some (.int (x5)), some (.int (x6)), some (.int (x7)), none] [] := by
  unfold b_Wrk_workOut_158 at h
  refine g_aload_n (pc := 158) (dd d_Wrk_workOut_1 17 rfl) rfl ?_
  refine g_iload (pc := 159) (dd d_Wrk_workOut_1 18 rfl) rfl ?_
  refine g_iload (pc := 161) (dd d_Wrk_workOut_1 19 rfl) rfl ?_
  refine g_aload_n (pc := 163) (dd d_Wrk_workOut_1 20 rfl) rfl ?_
  obtain ⟨v17, e18, h⟩ := bnd_e h
  refine g_callV (pc := 164) (dd d_Wrk_workOut_1 21 rfl) v_Wrk_60 (oc_Wrk h_x0) rfl (ef_Wrk_valueOf hX h_x0 h_x3 e18) rfl (by omega) (Nat.le_of_ble_eq_true rfl) ⟨Nat.zero_le _, Nat.zero_le _⟩ rfl ?_
  refine g_istore (pc := 167) (dd d_Wrk_workOut_1 22 rfl) (by decide) ?_
  refine g_aload_n (pc := 169) (dd d_Wrk_workOut_1 23 rfl) rfl ?_
  refine g_iload (pc := 170) (dd d_Wrk_workOut_1 24 rfl) rfl ?_
  obtain ⟨v19, e20, h⟩ := bnd_e h
  refine g_callV (pc := 172) (dd d_Wrk_workOut_1 25 rfl) v_Wrk_64 (oc_Wrk h_x0) rfl (ef_Wrk_push hX h_x0 e20) rfl (by omega) (Nat.le_of_ble_eq_true rfl) ⟨Nat.zero_le _, Nat.zero_le _⟩ rfl ?_
  refine g_iload (pc := 175) (dd d_Wrk_workOut_1 26 rfl) rfl ?_
  refine g_bipush (pc := 177) (v := 37) (dd d_Wrk_workOut_1 27 rfl) (by decide) ?_
  refine g_icmpne (pc := 179) (tgt := 193) (dd d_Wrk_workOut_1 28 rfl) (by decide) (fun q21 => ?_) (fun q21 => ?_)
  · replace h := ite_f h q21
    refine g_drop [6, 7, 8] ?_
    exact gb_Wrk_workOut_193 hX h_x0 h_x1 h_x3 hk hT hH46 h
  · replace h := ite_t h q21
    refine g_iload (pc := 182) (dd d_Wrk_workOut_1 29 rfl) rfl ?_
    refine g_iconst (pc := 184) (v := (-1)) (dd d_Wrk_workOut_1 30 rfl) (by decide) ?_
    refine g_icmpne (pc := 185) (tgt := 193) (dd d_Wrk_workOut_1 31 rfl) (by decide) (fun q22 => ?_) (fun q22 => ?_)
    · replace h := ite_f h q22
      refine g_drop [6, 7, 8] ?_
      exact gb_Wrk_workOut_193 hX h_x0 h_x1 h_x3 hk hT hH46 h
    · replace h := ite_t h q22
      refine g_aload_n (pc := 188) (dd d_Wrk_workOut_1 32 rfl) rfl ?_
      refine g_iconst (pc := 189) (v := 4) (dd d_Wrk_workOut_1 33 rfl) (by decide) ?_
      obtain ⟨v23, e24, h⟩ := bnd_e h
      refine g_callV (pc := 190) (dd d_Wrk_workOut_1 34 rfl) v_Wrk_68 (oc_Wrk h_x0) rfl (ef_Wrk_endWith hX h_x0 e24) rfl (by omega) (Nat.le_of_ble_eq_true rfl) ⟨Nat.zero_le _, Nat.zero_le _⟩ rfl ?_
      refine g_drop [6, 7, 8] ?_
      exact gb_Wrk_workOut_193 hX h_x0 h_x1 h_x3 hk hT hH46 h
def l_Wrk_workOut_46 (n : Nat) (x0 : Nat) (x1 : Nat) (x3 : Nat)  : Nat → Int32 → Int32 → IM → Option (IM)
  | 0, _, _, _ => none
  | f + 1, x4, x5, I => if x4 ≤ x5 then (some I) else (chk (inb x5 900) <| if (I (x1 + 1) x5.toNatClampNeg : Int32) = (186 : Int32) then (b_Wrk_workOut_87 n x0 x1 x3 (l_Wrk_workOut_46 n x0 x1 x3  f) x4 x5 (I (x1 + 1) x5.toNatClampNeg) (I (x1 + 2) x5.toNatClampNeg) I) else (if (I (x1 + 1) x5.toNatClampNeg : Int32) = (191 : Int32) then (b_Wrk_workOut_87 n x0 x1 x3 (l_Wrk_workOut_46 n x0 x1 x3  f) x4 x5 (I (x1 + 1) x5.toNatClampNeg) (I (x1 + 2) x5.toNatClampNeg) I) else (if (I (x1 + 1) x5.toNatClampNeg : Int32) < (41 : Int32) then (b_Wrk_workOut_158 n x0 x1 x3 (l_Wrk_workOut_46 n x0 x1 x3  f) x4 x5 (I (x1 + 1) x5.toNatClampNeg) (I (x1 + 2) x5.toNatClampNeg) I) else (if (44 : Int32) < (I (x1 + 1) x5.toNatClampNeg : Int32) then (b_Wrk_workOut_158 n x0 x1 x3 (l_Wrk_workOut_46 n x0 x1 x3  f) x4 x5 (I (x1 + 1) x5.toNatClampNeg) (I (x1 + 2) x5.toNatClampNeg) I) else (Option.bind (f_Wrk_conclude n x0 (I (x1 + 1) x5.toNatClampNeg) (I (x1 + 2) x5.toNatClampNeg) I) fun v14 => b_Wrk_workOut_193 n x0 x1 x3 (l_Wrk_workOut_46 n x0 x1 x3  f) x4 x5 v14)))))
set_option maxRecDepth 20000 in
set_option maxHeartbeats 4000000 in
theorem gl_Wrk_workOut_46 {Δ : Dx} {X : Lx} {rl hd ot pt it : Nat} (hX : EX Δ X rl hd ot pt it) {x0 : Nat} {x1 : Nat} {x3 : Nat} (h_x0 : isWrk x0) (h_x1 : isPol x1) (h_x3 : isMch x3) {n : Nat} {Γ : Cx} (hk : Γ.k = 3) {r : IM} (hT : Tg Δ Γ none NN (r, X) 0 0)  : ∀ (f : Nat) (x4 : Int32) (x5 : Int32) (I : IM), l_Wrk_workOut_46 n x0 x1 x3  f x4 x5 I = some r → GG Δ m_Wrk_workOut Γ NN 0 0 (I, X) 46 [some (.ref (Δ.ba + x0)), some (.ref (Δ.ba + x1)), none, some (.ref (Δ.ba + x3)), some (.int (x4)), some (.int (x5)), none, none, none] []
  | 0, _, _, _, h => by cases h
  | f + 1, x4, x5, I, h => by
    have ih := gl_Wrk_workOut_46 (n := n) (x0 := x0) (x1 := x1) (x3 := x3) hX h_x0 h_x1 h_x3 hk hT  f
    rw [l_Wrk_workOut_46] at h
    refine g_iload (pc := 46) (dd d_Wrk_workOut 26 rfl) rfl ?_
    refine g_iload (pc := 48) (dd d_Wrk_workOut 27 rfl) rfl ?_
    refine g_icmpge (pc := 50) (tgt := 209) (dd d_Wrk_workOut 28 rfl) (by decide) (fun q8 => ?_) (fun q8 => ?_)
    · replace h := ite_t h q8
      cases h
      exact g_vret (pc := 209) rfl (dd d_Wrk_workOut_1 43 rfl) hT
    · replace h := ite_f h q8
      refine g_aload_n (pc := 53) (dd d_Wrk_workOut 29 rfl) rfl ?_
      refine g_getr (pc := 54) (dd d_Wrk_workOut 30 rfl) f_Wrk_34 (oc_Pol h_x1) rfl (rx_Pol_1 hX h_x1) ?_
      refine g_iload (pc := 57) (dd d_Wrk_workOut 31 rfl) rfl ?_
      obtain ⟨c9, h⟩ := chk_e h
      refine g_iald (pc := 59) (dd d_Wrk_workOut 32 rfl) (ax_Pol_1 h_x1) c9 ?_
      refine g_istore (pc := 60) (dd d_Wrk_workOut 33 rfl) (by decide) ?_
      refine g_aload_n (pc := 62) (dd d_Wrk_workOut 34 rfl) rfl ?_
      refine g_getr (pc := 63) (dd d_Wrk_workOut 35 rfl) f_Wrk_49 (oc_Pol h_x1) rfl (rx_Pol_2 hX h_x1) ?_
      refine g_iload (pc := 66) (dd d_Wrk_workOut 36 rfl) rfl ?_
      refine g_iald (pc := 68) (dd d_Wrk_workOut 37 rfl) (ax_Pol_2 h_x1) c9 ?_
      refine g_istore (pc := 69) (dd d_Wrk_workOut 38 rfl) (by decide) ?_
      refine g_iload (pc := 71) (dd d_Wrk_workOut 39 rfl) rfl ?_
      refine g_sipush (pc := 73) (v := 186) (dd d_Wrk_workOut 40 rfl) (by decide) ?_
      refine g_icmpeq (pc := 76) (tgt := 87) (dd d_Wrk_workOut 41 rfl) (by decide) (fun q10 => ?_) (fun q10 => ?_)
      · replace h := ite_t h q10
        exact gb_Wrk_workOut_87 hX h_x0 h_x1 h_x3 hk hT ih h
      · replace h := ite_f h q10
        refine g_iload (pc := 79) (dd d_Wrk_workOut 42 rfl) rfl ?_
        refine g_sipush (pc := 81) (v := 191) (dd d_Wrk_workOut 43 rfl) (by decide) ?_
        refine g_icmpne (pc := 84) (tgt := 133) (dd d_Wrk_workOut 44 rfl) (by decide) (fun q11 => ?_) (fun q11 => ?_)
        · replace h := ite_f h q11
          refine g_iload (pc := 133) (dd d_Wrk_workOut_1 6 rfl) rfl ?_
          refine g_bipush (pc := 135) (v := 41) (dd d_Wrk_workOut_1 7 rfl) (by decide) ?_
          refine g_icmplt (pc := 137) (tgt := 158) (dd d_Wrk_workOut_1 8 rfl) (by decide) (fun q12 => ?_) (fun q12 => ?_)
          · replace h := ite_t h q12
            exact gb_Wrk_workOut_158 hX h_x0 h_x1 h_x3 hk hT ih h
          · replace h := ite_f h q12
            refine g_iload (pc := 140) (dd d_Wrk_workOut_1 9 rfl) rfl ?_
            refine g_bipush (pc := 142) (v := 44) (dd d_Wrk_workOut_1 10 rfl) (by decide) ?_
            refine g_icmpgt (pc := 144) (tgt := 158) (dd d_Wrk_workOut_1 11 rfl) (by decide) (fun q13 => ?_) (fun q13 => ?_)
            · replace h := ite_t h q13
              exact gb_Wrk_workOut_158 hX h_x0 h_x1 h_x3 hk hT ih h
            · replace h := ite_f h q13
              refine g_aload_n (pc := 147) (dd d_Wrk_workOut_1 12 rfl) rfl ?_
              refine g_iload (pc := 148) (dd d_Wrk_workOut_1 13 rfl) rfl ?_
              refine g_iload (pc := 150) (dd d_Wrk_workOut_1 14 rfl) rfl ?_
              obtain ⟨v14, e15, h⟩ := bnd_e h
              refine g_callV (pc := 152) (dd d_Wrk_workOut_1 15 rfl) v_Wrk_56 (oc_Wrk h_x0) rfl (ef_Wrk_conclude hX h_x0 e15) rfl (by omega) (Nat.le_of_ble_eq_true rfl) ⟨Nat.zero_le _, Nat.zero_le _⟩ rfl ?_
              refine g_goto (pc := 155) (tgt := 193) (dd d_Wrk_workOut_1 16 rfl) (by decide) ?_
              refine g_drop [6, 7] ?_
              exact gb_Wrk_workOut_193 hX h_x0 h_x1 h_x3 hk hT ih h
        · replace h := ite_t h q11
          exact gb_Wrk_workOut_87 hX h_x0 h_x1 h_x3 hk hT ih h
def f_Wrk_workOut (n : Nat) (x0 : Nat) (x1 : Nat) (x2 : Int32) (x3 : Nat) (I : IM) : Option (IM) := Option.bind (f_Wrk_forgetAnswer n x0 I) fun v1 => Option.bind (f_Pol_hasRule  x1 x2 v1) fun v3 => if v3 = 0 then (some v1) else (lt (up v1 x0 2 (0)) fun I6 => chk (inb x2 22) <| l_Wrk_workOut_46 n x0 x1 x3  n (minI (I6 (x1 + 4) x2.toNatClampNeg) 900) (maxI (I6 (x1 + 3) x2.toNatClampNeg) 0) I6)
set_option maxRecDepth 20000 in
set_option maxHeartbeats 4000000 in
theorem ef_Wrk_workOut {Δ : Dx} {X : Lx} {rl hd ot pt it : Nat} (hX : EX Δ X rl hd ot pt it) {n : Nat} {x0 : Nat} {x1 : Nat} {x2 : Int32} {x3 : Nat} (h_x0 : isWrk x0) (h_x1 : isPol x1) (h_x3 : isMch x3) {I : IM}  {r : IM} (h : f_Wrk_workOut n x0 x1 x2 x3 I = some r) : Ev Δ (3) m_Wrk_workOut [.ref (Δ.ba + x0), .ref (Δ.ba + x1), .int x2, .ref (Δ.ba + x3)] (I, X) none (r, X) := by
  refine ev_of (by decide) (Nat.le_of_ble_eq_true rfl) (fun Γ hk hR hT => ?_)
  change GG Δ m_Wrk_workOut Γ NN 0 0 (I, X) 0 [some (.ref (Δ.ba + x0)), some (.ref (Δ.ba + x1)), some (.int (x2)), some (.ref (Δ.ba + x3)), none, none, none, none, none] []
  unfold f_Wrk_workOut at h
  refine g_aload_n (pc := 0) (dd d_Wrk_workOut 0 rfl) rfl ?_
  obtain ⟨v1, e2, h⟩ := bnd_e h
  refine g_callV (pc := 1) (dd d_Wrk_workOut 1 rfl) v_Wrk_18 (oc_Wrk h_x0) rfl (ef_Wrk_forgetAnswer hX h_x0 e2) rfl (by omega) (Nat.le_of_ble_eq_true rfl) ⟨Nat.zero_le _, Nat.zero_le _⟩ rfl ?_
  refine g_aload_n (pc := 4) (dd d_Wrk_workOut 2 rfl) rfl ?_
  refine g_iload_n (pc := 5) (dd d_Wrk_workOut 3 rfl) rfl ?_
  obtain ⟨v3, e4, h⟩ := bnd_e h
  refine g_callV (pc := 6) (dd d_Wrk_workOut 4 rfl) v_Wrk_21 (oc_Pol h_x1) rfl (ef_Pol_hasRule hX h_x1 e4) rfl (by omega) (Nat.le_of_ble_eq_true rfl) ⟨Nat.zero_le _, Nat.zero_le _⟩ rfl ?_
  refine g_ifne (pc := 9) (tgt := 13) (dd d_Wrk_workOut 5 rfl) (by decide) (fun q5 => ?_) (fun q5 => ?_)
  · replace h := ite_f h q5
    refine g_aload_n (pc := 13) (dd d_Wrk_workOut 7 rfl) rfl ?_
    refine g_iconst (pc := 14) (v := 0) (dd d_Wrk_workOut 8 rfl) (by decide) ?_
    refine g_putiN (pc := 15) (dd d_Wrk_workOut 9 rfl) f_Wrk_27 fm_Wrk_2 (oc_Wrk h_x0) rfl (fun I6 hI6 => ?_)
    replace h := lt_e h hI6
    refine g_aload_n (pc := 18) (dd d_Wrk_workOut 10 rfl) rfl ?_
    refine g_getr (pc := 19) (dd d_Wrk_workOut 11 rfl) f_Wrk_31 (oc_Pol h_x1) rfl (rx_Pol_4 hX h_x1) ?_
    refine g_iload_n (pc := 22) (dd d_Wrk_workOut 12 rfl) rfl ?_
    obtain ⟨c7, h⟩ := chk_e h
    refine g_iald (pc := 23) (dd d_Wrk_workOut 13 rfl) (ax_Pol_4 h_x1) c7 ?_
    refine g_aload_n (pc := 24) (dd d_Wrk_workOut 14 rfl) rfl ?_
    refine g_getr (pc := 25) (dd d_Wrk_workOut 15 rfl) f_Wrk_34 (oc_Pol h_x1) rfl (rx_Pol_1 hX h_x1) ?_
    refine g_alen (pc := 28) (t := 0) (v := 900) (dd d_Wrk_workOut 16 rfl) (ax_Pol_1 h_x1) rfl (by decide) ?_
    refine g_mminI (pc := 29) (dd d_Wrk_workOut 17 rfl) n_Wrk_37 (by omega) (Nat.le_of_ble_eq_true rfl) (Nat.zero_le _) (Nat.zero_le _) ?_
    refine g_istore (pc := 32) (dd d_Wrk_workOut 18 rfl) (by decide) ?_
    refine g_aload_n (pc := 34) (dd d_Wrk_workOut 19 rfl) rfl ?_
    refine g_getr (pc := 35) (dd d_Wrk_workOut 20 rfl) f_Wrk_43 (oc_Pol h_x1) rfl (rx_Pol_3 hX h_x1) ?_
    refine g_iload_n (pc := 38) (dd d_Wrk_workOut 21 rfl) rfl ?_
    refine g_iald (pc := 39) (dd d_Wrk_workOut 22 rfl) (ax_Pol_3 h_x1) c7 ?_
    refine g_iconst (pc := 40) (v := 0) (dd d_Wrk_workOut 23 rfl) (by decide) ?_
    refine g_mmax (pc := 41) (dd d_Wrk_workOut 24 rfl) n_Wrk_46 (by omega) (Nat.le_of_ble_eq_true rfl) (Nat.zero_le _) (Nat.zero_le _) ?_
    refine g_istore (pc := 44) (dd d_Wrk_workOut 25 rfl) (by decide) ?_
    refine g_drop [2] ?_
    exact gl_Wrk_workOut_46 hX h_x0 h_x1 h_x3 hk hT  _ _ _ _ h
  · replace h := ite_t h q5
    cases h
    exact g_vret (pc := 12) rfl (dd d_Wrk_workOut 6 rfl) hT
def b_Stp_addCount_33 (x1 : Nat)   (I : IM) : Option (IM) := some I
set_option maxRecDepth 20000 in
set_option maxHeartbeats 4000000 in
theorem gb_Stp_addCount_33 {Δ : Dx} {X : Lx} {rl hd ot pt it : Nat} (hX : EX Δ X rl hd ot pt it) {x1 : Nat} (h_x1 : isMch x1)  {Γ : Cx} (hk : Γ.k = 0) {r : IM} (hT : Tg Δ Γ none NN (r, X) 0 0)   {I : IM} (h : b_Stp_addCount_33 x1   I = some r) : GG Δ m_Stp_addCount Γ NN 0 0 (I, X) 33 [none, none, none] [] := by
  unfold b_Stp_addCount_33 at h
  cases h
  exact g_vret (pc := 33) rfl (dd d_Stp_addCount 20 rfl) hT
def f_Stp_addCount (x1 : Nat) (x2 : Int32) (I : IM) : Option (IM) := if (I 35 4 : Int32) < 0 then (b_Stp_addCount_33 x1  I) else (if (22 : Int32) ≤ (I 35 4 : Int32) then (b_Stp_addCount_33 x1  I) else (chk (inb (((I 35 4) * 4) + x2) 88) <| lt (up I (x1 + 14) (((I 35 4) * 4) + x2 : Int32).toNatClampNeg ((I (x1 + 14) (((I 35 4) * 4) + x2 : Int32).toNatClampNeg) + 1)) fun I4 => b_Stp_addCount_33 x1  I4))
set_option maxRecDepth 20000 in
set_option maxHeartbeats 4000000 in
theorem ef_Stp_addCount {Δ : Dx} {X : Lx} {rl hd ot pt it : Nat} (hX : EX Δ X rl hd ot pt it) {x1 : Nat} {x2 : Int32} (h_x1 : isMch x1) {I : IM}  {r : IM} (h : f_Stp_addCount x1 x2 I = some r) : Ev Δ (0) m_Stp_addCount [.ref (Δ.ba + 35), .ref (Δ.ba + x1), .int x2] (I, X) none (r, X) := by
  refine ev_of (by decide) (Nat.le_of_ble_eq_true rfl) (fun Γ hk hR hT => ?_)
  change GG Δ m_Stp_addCount Γ NN 0 0 (I, X) 0 [some (.ref (Δ.ba + 35)), some (.ref (Δ.ba + x1)), some (.int (x2))] []
  unfold f_Stp_addCount at h
  refine g_aload_n (pc := 0) (dd d_Stp_addCount 0 rfl) rfl ?_
  refine g_geti (pc := 1) (dd d_Stp_addCount 1 rfl) f_Stp_57 oc_Stp rfl ?_
  refine g_iflt (pc := 4) (tgt := 33) (dd d_Stp_addCount 2 rfl) (by decide) (fun q1 => ?_) (fun q1 => ?_)
  · replace h := ite_t h q1
    refine g_drop [0, 1, 2] ?_
    exact gb_Stp_addCount_33 hX h_x1 hk hT  h
  · replace h := ite_f h q1
    refine g_aload_n (pc := 7) (dd d_Stp_addCount 3 rfl) rfl ?_
    refine g_geti (pc := 8) (dd d_Stp_addCount 4 rfl) f_Stp_57 oc_Stp rfl ?_
    refine g_bipush (pc := 11) (v := 22) (dd d_Stp_addCount 5 rfl) (by decide) ?_
    refine g_icmpge (pc := 13) (tgt := 33) (dd d_Stp_addCount 6 rfl) (by decide) (fun q2 => ?_) (fun q2 => ?_)
    · replace h := ite_t h q2
      refine g_drop [0, 1, 2] ?_
      exact gb_Stp_addCount_33 hX h_x1 hk hT  h
    · replace h := ite_f h q2
      refine g_aload_n (pc := 16) (dd d_Stp_addCount 7 rfl) rfl ?_
      refine g_getr (pc := 17) (dd d_Stp_addCount 8 rfl) f_Stp_70 (oc_Mch h_x1) rfl (rx_Mch_16 hX h_x1) ?_
      refine g_aload_n (pc := 20) (dd d_Stp_addCount 9 rfl) rfl ?_
      refine g_geti (pc := 21) (dd d_Stp_addCount 10 rfl) f_Stp_57 oc_Stp rfl ?_
      refine g_iconst (pc := 24) (v := 4) (dd d_Stp_addCount 11 rfl) (by decide) ?_
      refine g_imul (pc := 25) (dd d_Stp_addCount 12 rfl) ?_
      refine g_iload_n (pc := 26) (dd d_Stp_addCount 13 rfl) rfl ?_
      refine g_iadd (pc := 27) (dd d_Stp_addCount 14 rfl) ?_
      refine g_dup2 (pc := 28) (dd d_Stp_addCount 15 rfl) rfl rfl ?_
      obtain ⟨c3, h⟩ := chk_e h
      refine g_iald (pc := 29) (dd d_Stp_addCount 16 rfl) (ax_Mch_16 h_x1) c3 ?_
      refine g_iconst (pc := 30) (v := 1) (dd d_Stp_addCount 17 rfl) (by decide) ?_
      refine g_iadd (pc := 31) (dd d_Stp_addCount 18 rfl) ?_
      refine g_iastN (pc := 32) (dd d_Stp_addCount 19 rfl) (ax_Mch_16 h_x1) c3 (fun I4 hI4 => ?_)
      replace h := lt_e h hI4
      refine g_drop [0, 1, 2] ?_
      exact gb_Stp_addCount_33 hX h_x1 hk hT  h
def f_Rng_startOf (x0 : Nat) (x1 : Int32) (I : IM) : Option (Int32) := some ((if (I x0 2 : Int32) ≤ ((I x0 1) + x1 : Int32) then (((I x0 1) + x1) - (I x0 2)) else ((I x0 1) + x1) : Int32) * (I x0 3))
set_option maxRecDepth 20000 in
set_option maxHeartbeats 4000000 in
theorem ef_Rng_startOf {Δ : Dx} {X : Lx} {rl hd ot pt it : Nat} (hX : EX Δ X rl hd ot pt it) {x0 : Nat} {x1 : Int32} (h_x0 : isRng x0) {I : IM}  {r : Int32} (h : f_Rng_startOf x0 x1 I = some r) : Ev Δ (0) m_Rng_startOf [.ref (Δ.ba + x0), .int x1] (I, X) (some (.int r)) (I, X) := by
  refine ev_of (by decide) (Nat.le_of_ble_eq_true rfl) (fun Γ hk hR hT => ?_)
  change GG Δ m_Rng_startOf Γ NN 0 0 (I, X) 0 [some (.ref (Δ.ba + x0)), some (.int (x1)), none] []
  unfold f_Rng_startOf at h
  refine g_aload_n (pc := 0) (dd d_Rng_startOf 0 rfl) rfl ?_
  refine g_geti (pc := 1) (dd d_Rng_startOf 1 rfl) f_Rng_25 (oc_Rng h_x0) rfl ?_
  refine g_iload_n (pc := 4) (dd d_Rng_startOf 2 rfl) rfl ?_
  refine g_iadd (pc := 5) (dd d_Rng_startOf 3 rfl) ?_
  refine g_istore_n (pc := 6) (dd d_Rng_startOf 4 rfl) (by decide) ?_
  refine g_iload_n (pc := 7) (dd d_Rng_startOf 5 rfl) rfl ?_
  refine g_aload_n (pc := 8) (dd d_Rng_startOf 6 rfl) rfl ?_
  refine g_geti (pc := 9) (dd d_Rng_startOf 7 rfl) f_Rng_9 (oc_Rng h_x0) rfl ?_
  suffices K12 : ∀ z : Int32, z = (if (I x0 2 : Int32) ≤ ((I x0 1) + x1 : Int32) then (((I x0 1) + x1) - (I x0 2)) else ((I x0 1) + x1) : Int32) → GG Δ m_Rng_startOf Γ NN 0 0 (I, X) 25 [some (.ref (Δ.ba + x0)), some (.int (x1)), some (.int ((I x0 1) + x1))] [.int (z)] by
    refine g_icmpge (pc := 12) (tgt := 19) (dd d_Rng_startOf 8 rfl) (by decide) (fun q1 => ?_) (fun q1 => ?_)
    · skip
      refine g_iload_n (pc := 19) (dd d_Rng_startOf 11 rfl) rfl ?_
      refine g_aload_n (pc := 20) (dd d_Rng_startOf 12 rfl) rfl ?_
      refine g_geti (pc := 21) (dd d_Rng_startOf 13 rfl) f_Rng_9 (oc_Rng h_x0) rfl ?_
      refine g_isub (pc := 24) (dd d_Rng_startOf 14 rfl) ?_
      exact K12 _ (by rw [if_pos q1])
    · skip
      refine g_iload_n (pc := 15) (dd d_Rng_startOf 9 rfl) rfl ?_
      refine g_goto (pc := 16) (tgt := 25) (dd d_Rng_startOf 10 rfl) (by decide) ?_
      exact K12 _ (by rw [if_neg q1])
  intro z hz
  subst hz
  refine g_aload_n (pc := 25) (dd d_Rng_startOf 15 rfl) rfl ?_
  refine g_geti (pc := 26) (dd d_Rng_startOf 16 rfl) f_Rng_15 (oc_Rng h_x0) rfl ?_
  refine g_imul (pc := 29) (dd d_Rng_startOf 17 rfl) ?_
  cases h
  exact g_iret (pc := 30) rfl (dd d_Rng_startOf 18 rfl) hT
def b_Rng_isLike_26 (n : Nat) (x0 : Nat) (x2 : Nat) (I : IM)   : Option (Int32) := some (0)
set_option maxRecDepth 20000 in
set_option maxHeartbeats 4000000 in
theorem gb_Rng_isLike_26 {Δ : Dx} {X : Lx} {rl hd ot pt it : Nat} (hX : EX Δ X rl hd ot pt it) {x0 : Nat} {x2 : Nat} (h_x0 : isRng x0) (ha_x2 : isA x2) {n : Nat} {I : IM} {Γ : Cx} (hk : Γ.k = 2) {r : Int32} (hT : Tg Δ Γ (some (.int r)) NN (I, X) 0 0)   (h : b_Rng_isLike_26 n x0 x2 I   = some r) : GG Δ m_Rng_isLike Γ NN 0 0 (I, X) 26 [none, none, none, none, none] [] := by
  unfold b_Rng_isLike_26 at h
  refine g_iconst (pc := 26) (v := 0) (dd d_Rng_isLike 16 rfl) (by decide) ?_
  cases h
  exact g_zret (pc := 27) rfl (by decide) (dd d_Rng_isLike 17 rfl) hT
def l_Rng_isLike_35 (n : Nat) (x0 : Nat) (x2 : Nat) (I : IM)  : Nat → Int32 → Int32 → Option (Int32)
  | 0, _, _ => none
  | f + 1, x1, x4 => if (I x0 3 : Int32) ≤ x4 then (some (1)) else (chk (inb (x1 + x4) (lenA (x0 + 1))) <| chk (inb x4 (lenA x2)) <| if (I (x0 + 1) (x1 + x4 : Int32).toNatClampNeg : Int32) = (I x2 x4.toNatClampNeg : Int32) then ((l_Rng_isLike_35 n x0 x2 I  f) x1 (x4 + 1)) else (some (0)))
set_option maxRecDepth 20000 in
set_option maxHeartbeats 4000000 in
theorem gl_Rng_isLike_35 {Δ : Dx} {X : Lx} {rl hd ot pt it : Nat} (hX : EX Δ X rl hd ot pt it) {x0 : Nat} {x2 : Nat} (h_x0 : isRng x0) (ha_x2 : isA x2) {n : Nat} {I : IM} {Γ : Cx} (hk : Γ.k = 2) {r : Int32} (hT : Tg Δ Γ (some (.int r)) NN (I, X) 0 0)  : ∀ (f : Nat) (x1 : Int32) (x4 : Int32), l_Rng_isLike_35 n x0 x2 I  f x1 x4 = some r → GG Δ m_Rng_isLike Γ NN 0 0 (I, X) 35 [some (.ref (Δ.ba + x0)), some (.int (x1)), some (.ref (Δ.ba + x2)), none, some (.int (x4))] []
  | 0, _, _, h => by cases h
  | f + 1, x1, x4, h => by
    have ih := gl_Rng_isLike_35 (n := n) (x0 := x0) (x2 := x2) hX h_x0 ha_x2 hk hT  f
    rw [l_Rng_isLike_35] at h
    refine g_iload (pc := 35) (dd d_Rng_isLike 22 rfl) rfl ?_
    refine g_aload_n (pc := 37) (dd d_Rng_isLike 23 rfl) rfl ?_
    refine g_geti (pc := 38) (dd d_Rng_isLike 24 rfl) f_Rng_15 (oc_Rng h_x0) rfl ?_
    refine g_icmpge (pc := 41) (tgt := 68) (dd d_Rng_isLike 25 rfl) (by decide) (fun q6 => ?_) (fun q6 => ?_)
    · replace h := ite_t h q6
      refine g_iconst (pc := 68) (v := 1) (dd d_Rng_isLike 40 rfl) (by decide) ?_
      cases h
      exact g_zret (pc := 69) rfl (by decide) (dd d_Rng_isLike 41 rfl) hT
    · replace h := ite_f h q6
      refine g_aload_n (pc := 44) (dd d_Rng_isLike 26 rfl) rfl ?_
      refine g_getr (pc := 45) (dd d_Rng_isLike 27 rfl) f_Rng_18 (oc_Rng h_x0) rfl (rx_Rng_4 hX h_x0) ?_
      refine g_iload_n (pc := 48) (dd d_Rng_isLike 28 rfl) rfl ?_
      refine g_iload (pc := 49) (dd d_Rng_isLike 29 rfl) rfl ?_
      refine g_iadd (pc := 51) (dd d_Rng_isLike 30 rfl) ?_
      obtain ⟨c7, h⟩ := chk_e h
      refine g_iald (pc := 52) (dd d_Rng_isLike 31 rfl) (ax_Rng_4 h_x0) c7 ?_
      refine g_aload_n (pc := 53) (dd d_Rng_isLike 32 rfl) rfl ?_
      refine g_iload (pc := 54) (dd d_Rng_isLike 33 rfl) rfl ?_
      obtain ⟨c8, h⟩ := chk_e h
      refine g_iald (pc := 56) (dd d_Rng_isLike 34 rfl) ha_x2 c8 ?_
      refine g_icmpeq (pc := 57) (tgt := 62) (dd d_Rng_isLike 35 rfl) (by decide) (fun q9 => ?_) (fun q9 => ?_)
      · replace h := ite_t h q9
        refine g_iincW (pc := 62) (w := 1) (dd d_Rng_isLike 38 rfl) rfl (by decide) (by decide) ?_
        refine g_goto (pc := 65) (tgt := 35) (dd d_Rng_isLike 39 rfl) (by decide) ?_
        exact ih _ _ h
      · replace h := ite_f h q9
        refine g_iconst (pc := 60) (v := 0) (dd d_Rng_isLike 36 rfl) (by decide) ?_
        cases h
        exact g_zret (pc := 61) rfl (by decide) (dd d_Rng_isLike 37 rfl) hT
def f_Rng_isLike (n : Nat) (x0 : Nat) (x1 : Int32) (x2 : Nat) (x3 : Int32) (I : IM) : Option (Int32) := if (Int32.ofNat (lenA x2) : Int32) < (I x0 3 : Int32) then (b_Rng_isLike_26 n x0 x2 I  ) else (if (Int32.ofNat (lenA x2) : Int32) = 0 then (b_Rng_isLike_26 n x0 x2 I  ) else (chk (inb x1 (lenA (x0 + 1))) <| chk (inb 0 (lenA x2)) <| if (I (x0 + 1) x1.toNatClampNeg : Int32) = (I x2 (0 : Int32).toNatClampNeg : Int32) then (l_Rng_isLike_35 n x0 x2 I  n x1 (maxI x3 0)) else (b_Rng_isLike_26 n x0 x2 I  )))
set_option maxRecDepth 20000 in
set_option maxHeartbeats 4000000 in
theorem ef_Rng_isLike {Δ : Dx} {X : Lx} {rl hd ot pt it : Nat} (hX : EX Δ X rl hd ot pt it) {n : Nat} {x0 : Nat} {x1 : Int32} {x2 : Nat} {x3 : Int32} (h_x0 : isRng x0) (ha_x2 : isA x2) {I : IM}  {r : Int32} (h : f_Rng_isLike n x0 x1 x2 x3 I = some r) : Ev Δ (2) m_Rng_isLike [.ref (Δ.ba + x0), .int x1, .ref (Δ.ba + x2), .int x3] (I, X) (some (.int r)) (I, X) := by
  refine ev_of (by decide) (Nat.le_of_ble_eq_true rfl) (fun Γ hk hR hT => ?_)
  change GG Δ m_Rng_isLike Γ NN 0 0 (I, X) 0 [some (.ref (Δ.ba + x0)), some (.int (x1)), some (.ref (Δ.ba + x2)), some (.int (x3)), none] []
  unfold f_Rng_isLike at h
  refine g_aload_n (pc := 0) (dd d_Rng_isLike 0 rfl) rfl ?_
  refine g_alen (pc := 1) (t := 0) (dd d_Rng_isLike 1 rfl) ha_x2 rfl rfl ?_
  refine g_aload_n (pc := 2) (dd d_Rng_isLike 2 rfl) rfl ?_
  refine g_geti (pc := 3) (dd d_Rng_isLike 3 rfl) f_Rng_15 (oc_Rng h_x0) rfl ?_
  refine g_icmplt (pc := 6) (tgt := 26) (dd d_Rng_isLike 4 rfl) (by decide) (fun q1 => ?_) (fun q1 => ?_)
  · replace h := ite_t h q1
    refine g_drop [0, 1, 2, 3] ?_
    exact gb_Rng_isLike_26 hX h_x0 ha_x2 hk hT  h
  · replace h := ite_f h q1
    refine g_aload_n (pc := 9) (dd d_Rng_isLike 5 rfl) rfl ?_
    refine g_alen (pc := 10) (t := 0) (dd d_Rng_isLike 6 rfl) ha_x2 rfl rfl ?_
    refine g_ifeq (pc := 11) (tgt := 26) (dd d_Rng_isLike 7 rfl) (by decide) (fun q2 => ?_) (fun q2 => ?_)
    · replace h := ite_t h q2
      refine g_drop [0, 1, 2, 3] ?_
      exact gb_Rng_isLike_26 hX h_x0 ha_x2 hk hT  h
    · replace h := ite_f h q2
      refine g_aload_n (pc := 14) (dd d_Rng_isLike 8 rfl) rfl ?_
      refine g_getr (pc := 15) (dd d_Rng_isLike 9 rfl) f_Rng_18 (oc_Rng h_x0) rfl (rx_Rng_4 hX h_x0) ?_
      refine g_iload_n (pc := 18) (dd d_Rng_isLike 10 rfl) rfl ?_
      obtain ⟨c3, h⟩ := chk_e h
      refine g_iald (pc := 19) (dd d_Rng_isLike 11 rfl) (ax_Rng_4 h_x0) c3 ?_
      refine g_aload_n (pc := 20) (dd d_Rng_isLike 12 rfl) rfl ?_
      refine g_iconst (pc := 21) (v := 0) (dd d_Rng_isLike 13 rfl) (by decide) ?_
      obtain ⟨c4, h⟩ := chk_e h
      refine g_iald (pc := 22) (dd d_Rng_isLike 14 rfl) ha_x2 c4 ?_
      refine g_icmpeq (pc := 23) (tgt := 28) (dd d_Rng_isLike 15 rfl) (by decide) (fun q5 => ?_) (fun q5 => ?_)
      · replace h := ite_t h q5
        refine g_iload_n (pc := 28) (dd d_Rng_isLike 18 rfl) rfl ?_
        refine g_iconst (pc := 29) (v := 0) (dd d_Rng_isLike 19 rfl) (by decide) ?_
        refine g_mmax (pc := 30) (dd d_Rng_isLike 20 rfl) n_Rng_46 (by omega) (Nat.le_of_ble_eq_true rfl) (Nat.zero_le _) (Nat.zero_le _) ?_
        refine g_istore (pc := 33) (dd d_Rng_isLike 21 rfl) (by decide) ?_
        refine g_drop [3] ?_
        exact gl_Rng_isLike_35 hX h_x0 ha_x2 hk hT  _ _ _ h
      · replace h := ite_f h q5
        refine g_drop [0, 1, 2, 3] ?_
        exact gb_Rng_isLike_26 hX h_x0 ha_x2 hk hT  h
def b_Rng_rowLike_50 (n : Nat) (x0 : Nat) (x1 : Nat) (I : IM) (H2 : Int32 → Int32 → Option (Int32)) (x2 : Int32) (x3 : Int32) : Option (Int32) := H2 x2 (x3 + 1)
set_option maxRecDepth 20000 in
set_option maxHeartbeats 4000000 in
theorem gb_Rng_rowLike_50 {Δ : Dx} {X : Lx} {rl hd ot pt it : Nat} (hX : EX Δ X rl hd ot pt it) {x0 : Nat} {x1 : Nat} (h_x0 : isRng x0) (ha_x1 : isA x1) {n : Nat} {I : IM} {Γ : Cx} (hk : Γ.k = 3) {r : Int32} (hT : Tg Δ Γ (some (.int r)) NN (I, X) 0 0) {H2 : Int32 → Int32 → Option (Int32)} (hH2 : ∀ (x2 : Int32) (x3 : Int32), H2 x2 x3 = some r → GG Δ m_Rng_rowLike Γ NN 0 0 (I, X) 2 [some (.ref (Δ.ba + x0)), some (.ref (Δ.ba + x1)), some (.int (x2)), some (.int (x3)), none] []) {x2 : Int32} {x3 : Int32} (h : b_Rng_rowLike_50 n x0 x1 I H2 x2 x3 = some r) : GG Δ m_Rng_rowLike Γ NN 0 0 (I, X) 50 [some (.ref (Δ.ba + x0)), some (.ref (Δ.ba + x1)), some (.int (x2)), some (.int (x3)), none] [] := by
  unfold b_Rng_rowLike_50 at h
  refine g_iincW (pc := 50) (w := 1) (dd d_Rng_rowLike 28 rfl) rfl (by decide) (by decide) ?_
  refine g_goto (pc := 53) (tgt := 2) (dd d_Rng_rowLike 29 rfl) (by decide) ?_
  exact hH2 _ _ h
def l_Rng_rowLike_2 (n : Nat) (x0 : Nat) (x1 : Nat) (I : IM)  : Nat → Int32 → Int32 → Option (Int32)
  | 0, _, _ => none
  | f + 1, x2, x3 => if (I x0 0 : Int32) ≤ x3 then (some ((-1))) else (Option.bind (f_Rng_startOf  x0 x3 I) fun v2 => if v2 < 0 then (b_Rng_rowLike_50 n x0 x1 I (l_Rng_rowLike_2 n x0 x1 I  f) x2 x3) else (if (Int32.ofNat (lenA (x0 + 1)) : Int32) < (v2 + (I x0 3) : Int32) then (b_Rng_rowLike_50 n x0 x1 I (l_Rng_rowLike_2 n x0 x1 I  f) x2 x3) else (Option.bind (f_Rng_isLike n x0 v2 x1 x2 I) fun v6 => if v6 = 0 then (b_Rng_rowLike_50 n x0 x1 I (l_Rng_rowLike_2 n x0 x1 I  f) x2 x3) else (some (x3)))))
set_option maxRecDepth 20000 in
set_option maxHeartbeats 4000000 in
theorem gl_Rng_rowLike_2 {Δ : Dx} {X : Lx} {rl hd ot pt it : Nat} (hX : EX Δ X rl hd ot pt it) {x0 : Nat} {x1 : Nat} (h_x0 : isRng x0) (ha_x1 : isA x1) {n : Nat} {I : IM} {Γ : Cx} (hk : Γ.k = 3) {r : Int32} (hT : Tg Δ Γ (some (.int r)) NN (I, X) 0 0)  : ∀ (f : Nat) (x2 : Int32) (x3 : Int32), l_Rng_rowLike_2 n x0 x1 I  f x2 x3 = some r → GG Δ m_Rng_rowLike Γ NN 0 0 (I, X) 2 [some (.ref (Δ.ba + x0)), some (.ref (Δ.ba + x1)), some (.int (x2)), some (.int (x3)), none] []
  | 0, _, _, h => by cases h
  | f + 1, x2, x3, h => by
    have ih := gl_Rng_rowLike_2 (n := n) (x0 := x0) (x1 := x1) hX h_x0 ha_x1 hk hT  f
    rw [l_Rng_rowLike_2] at h
    refine g_iload_n (pc := 2) (dd d_Rng_rowLike 2 rfl) rfl ?_
    refine g_aload_n (pc := 3) (dd d_Rng_rowLike 3 rfl) rfl ?_
    refine g_geti (pc := 4) (dd d_Rng_rowLike 4 rfl) f_Rng_22 (oc_Rng h_x0) rfl ?_
    refine g_icmpge (pc := 7) (tgt := 56) (dd d_Rng_rowLike 5 rfl) (by decide) (fun q1 => ?_) (fun q1 => ?_)
    · replace h := ite_t h q1
      refine g_iconst (pc := 56) (v := (-1)) (dd d_Rng_rowLike 30 rfl) (by decide) ?_
      cases h
      exact g_iret (pc := 57) rfl (dd d_Rng_rowLike 31 rfl) hT
    · replace h := ite_f h q1
      refine g_aload_n (pc := 10) (dd d_Rng_rowLike 6 rfl) rfl ?_
      refine g_iload_n (pc := 11) (dd d_Rng_rowLike 7 rfl) rfl ?_
      obtain ⟨v2, e3, h⟩ := bnd_e h
      refine g_callV (pc := 12) (dd d_Rng_rowLike 8 rfl) v_Rng_28 (oc_Rng h_x0) rfl (ef_Rng_startOf hX h_x0 e3) rfl (by omega) (Nat.le_of_ble_eq_true rfl) ⟨Nat.zero_le _, Nat.zero_le _⟩ rfl ?_
      refine g_istore (pc := 15) (dd d_Rng_rowLike 9 rfl) (by decide) ?_
      refine g_iload (pc := 17) (dd d_Rng_rowLike 10 rfl) rfl ?_
      refine g_iflt (pc := 19) (tgt := 50) (dd d_Rng_rowLike 11 rfl) (by decide) (fun q4 => ?_) (fun q4 => ?_)
      · replace h := ite_t h q4
        refine g_drop [4] ?_
        exact gb_Rng_rowLike_50 hX h_x0 ha_x1 hk hT ih h
      · replace h := ite_f h q4
        refine g_iload (pc := 22) (dd d_Rng_rowLike 12 rfl) rfl ?_
        refine g_aload_n (pc := 24) (dd d_Rng_rowLike 13 rfl) rfl ?_
        refine g_geti (pc := 25) (dd d_Rng_rowLike 14 rfl) f_Rng_15 (oc_Rng h_x0) rfl ?_
        refine g_iadd (pc := 28) (dd d_Rng_rowLike 15 rfl) ?_
        refine g_aload_n (pc := 29) (dd d_Rng_rowLike 16 rfl) rfl ?_
        refine g_getr (pc := 30) (dd d_Rng_rowLike 17 rfl) f_Rng_18 (oc_Rng h_x0) rfl (rx_Rng_4 hX h_x0) ?_
        refine g_alen (pc := 33) (t := 0) (dd d_Rng_rowLike 18 rfl) (ax_Rng_4 h_x0) rfl rfl ?_
        refine g_icmpgt (pc := 34) (tgt := 50) (dd d_Rng_rowLike 19 rfl) (by decide) (fun q5 => ?_) (fun q5 => ?_)
        · replace h := ite_t h q5
          refine g_drop [4] ?_
          exact gb_Rng_rowLike_50 hX h_x0 ha_x1 hk hT ih h
        · replace h := ite_f h q5
          refine g_aload_n (pc := 37) (dd d_Rng_rowLike 20 rfl) rfl ?_
          refine g_iload (pc := 38) (dd d_Rng_rowLike 21 rfl) rfl ?_
          refine g_aload_n (pc := 40) (dd d_Rng_rowLike 22 rfl) rfl ?_
          refine g_iload_n (pc := 41) (dd d_Rng_rowLike 23 rfl) rfl ?_
          obtain ⟨v6, e7, h⟩ := bnd_e h
          refine g_callV (pc := 42) (dd d_Rng_rowLike 24 rfl) v_Rng_38 (oc_Rng h_x0) rfl (ef_Rng_isLike hX h_x0 (isA_of ha_x1) e7) rfl (by omega) (Nat.le_of_ble_eq_true rfl) ⟨Nat.zero_le _, Nat.zero_le _⟩ rfl ?_
          refine g_ifeq (pc := 45) (tgt := 50) (dd d_Rng_rowLike 25 rfl) (by decide) (fun q8 => ?_) (fun q8 => ?_)
          · replace h := ite_t h q8
            refine g_drop [4] ?_
            exact gb_Rng_rowLike_50 hX h_x0 ha_x1 hk hT ih h
          · replace h := ite_f h q8
            refine g_iload_n (pc := 48) (dd d_Rng_rowLike 26 rfl) rfl ?_
            cases h
            exact g_iret (pc := 49) rfl (dd d_Rng_rowLike 27 rfl) hT
def f_Rng_rowLike (n : Nat) (x0 : Nat) (x1 : Nat) (x2 : Int32) (I : IM) : Option (Int32) := l_Rng_rowLike_2 n x0 x1 I  n x2 0
set_option maxRecDepth 20000 in
set_option maxHeartbeats 4000000 in
theorem ef_Rng_rowLike {Δ : Dx} {X : Lx} {rl hd ot pt it : Nat} (hX : EX Δ X rl hd ot pt it) {n : Nat} {x0 : Nat} {x1 : Nat} {x2 : Int32} (h_x0 : isRng x0) (ha_x1 : isA x1) {I : IM}  {r : Int32} (h : f_Rng_rowLike n x0 x1 x2 I = some r) : Ev Δ (3) m_Rng_rowLike [.ref (Δ.ba + x0), .ref (Δ.ba + x1), .int x2] (I, X) (some (.int r)) (I, X) := by
  refine ev_of (by decide) (Nat.le_of_ble_eq_true rfl) (fun Γ hk hR hT => ?_)
  change GG Δ m_Rng_rowLike Γ NN 0 0 (I, X) 0 [some (.ref (Δ.ba + x0)), some (.ref (Δ.ba + x1)), some (.int (x2)), none, none] []
  unfold f_Rng_rowLike at h
  refine g_iconst (pc := 0) (v := 0) (dd d_Rng_rowLike 0 rfl) (by decide) ?_
  refine g_istore_n (pc := 1) (dd d_Rng_rowLike 1 rfl) (by decide) ?_
  exact gl_Rng_rowLike_2 hX h_x0 ha_x1 hk hT  _ _ _ h
def b_Rng_add_103 (x0 : Nat) (x1 : Nat)   (I : IM) : Option (IM) := some I
set_option maxRecDepth 20000 in
set_option maxHeartbeats 4000000 in
theorem gb_Rng_add_103 {Δ : Dx} {X : Lx} {rl hd ot pt it : Nat} (hX : EX Δ X rl hd ot pt it) {x0 : Nat} {x1 : Nat} (h_x0 : isRng x0) (ha_x1 : isA x1)  {Γ : Cx} (hk : Γ.k = 2) {r : IM} (hT : Tg Δ Γ none NN (r, X) 0 0)   {I : IM} (h : b_Rng_add_103 x0 x1   I = some r) : GG Δ m_Rng_add Γ NN 0 0 (I, X) 103 [none, none, none] [] := by
  unfold b_Rng_add_103 at h
  cases h
  exact g_vret (pc := 103) rfl (dd d_Rng_add 57 rfl) hT
def b_Rng_add_51 (x0 : Nat) (x1 : Nat)   (I : IM) : Option (IM) := Option.bind (f_Rng_startOf  x0 ((I x0 0) - 1) I) fun v5 => if v5 < 0 then (b_Rng_add_103 x0 x1  I) else (if (Int32.ofNat (lenA (x0 + 1)) : Int32) < (v5 + (I x0 3) : Int32) then (b_Rng_add_103 x0 x1  I) else (if (Int32.ofNat (lenA x1) : Int32) < (I x0 3 : Int32) then (b_Rng_add_103 x0 x1  I) else (chk (¬ v5 < 0) <| chk (¬ (I x0 3 : Int32) < 0) <| chk ((0 : Int32).toNatClampNeg + (I x0 3 : Int32).toNatClampNeg ≤ lenA x1) <| chk (v5.toNatClampNeg + (I x0 3 : Int32).toNatClampNeg ≤ lenA (x0 + 1)) <| lt (cpy I x1 (x0 + 1) (0 : Int32).toNatClampNeg v5.toNatClampNeg (I x0 3 : Int32).toNatClampNeg) fun I10 => b_Rng_add_103 x0 x1  I10)))
set_option maxRecDepth 20000 in
set_option maxHeartbeats 4000000 in
theorem gb_Rng_add_51 {Δ : Dx} {X : Lx} {rl hd ot pt it : Nat} (hX : EX Δ X rl hd ot pt it) {x0 : Nat} {x1 : Nat} (h_x0 : isRng x0) (ha_x1 : isA x1)  {Γ : Cx} (hk : Γ.k = 2) {r : IM} (hT : Tg Δ Γ none NN (r, X) 0 0)   {I : IM} (h : b_Rng_add_51 x0 x1   I = some r) : GG Δ m_Rng_add Γ NN 0 0 (I, X) 51 [some (.ref (Δ.ba + x0)), some (.ref (Δ.ba + x1)), none] [] := by
  unfold b_Rng_add_51 at h
  refine g_aload_n (pc := 51) (dd d_Rng_add 27 rfl) rfl ?_
  refine g_aload_n (pc := 52) (dd d_Rng_add 28 rfl) rfl ?_
  refine g_geti (pc := 53) (dd d_Rng_add 29 rfl) f_Rng_22 (oc_Rng h_x0) rfl ?_
  refine g_iconst (pc := 56) (v := 1) (dd d_Rng_add 30 rfl) (by decide) ?_
  refine g_isub (pc := 57) (dd d_Rng_add 31 rfl) ?_
  obtain ⟨v5, e6, h⟩ := bnd_e h
  refine g_callV (pc := 58) (dd d_Rng_add 32 rfl) v_Rng_28 (oc_Rng h_x0) rfl (ef_Rng_startOf hX h_x0 e6) rfl (by omega) (Nat.le_of_ble_eq_true rfl) ⟨Nat.zero_le _, Nat.zero_le _⟩ rfl ?_
  refine g_istore_n (pc := 61) (dd d_Rng_add 33 rfl) (by decide) ?_
  refine g_iload_n (pc := 62) (dd d_Rng_add 34 rfl) rfl ?_
  refine g_iflt (pc := 63) (tgt := 103) (dd d_Rng_add 35 rfl) (by decide) (fun q7 => ?_) (fun q7 => ?_)
  · replace h := ite_t h q7
    refine g_drop [0, 1, 2] ?_
    exact gb_Rng_add_103 hX h_x0 ha_x1 hk hT  h
  · replace h := ite_f h q7
    refine g_iload_n (pc := 66) (dd d_Rng_add 36 rfl) rfl ?_
    refine g_aload_n (pc := 67) (dd d_Rng_add 37 rfl) rfl ?_
    refine g_geti (pc := 68) (dd d_Rng_add 38 rfl) f_Rng_15 (oc_Rng h_x0) rfl ?_
    refine g_iadd (pc := 71) (dd d_Rng_add 39 rfl) ?_
    refine g_aload_n (pc := 72) (dd d_Rng_add 40 rfl) rfl ?_
    refine g_getr (pc := 73) (dd d_Rng_add 41 rfl) f_Rng_18 (oc_Rng h_x0) rfl (rx_Rng_4 hX h_x0) ?_
    refine g_alen (pc := 76) (t := 0) (dd d_Rng_add 42 rfl) (ax_Rng_4 h_x0) rfl rfl ?_
    refine g_icmpgt (pc := 77) (tgt := 103) (dd d_Rng_add 43 rfl) (by decide) (fun q8 => ?_) (fun q8 => ?_)
    · replace h := ite_t h q8
      refine g_drop [0, 1, 2] ?_
      exact gb_Rng_add_103 hX h_x0 ha_x1 hk hT  h
    · replace h := ite_f h q8
      refine g_aload_n (pc := 80) (dd d_Rng_add 44 rfl) rfl ?_
      refine g_alen (pc := 81) (t := 0) (dd d_Rng_add 45 rfl) ha_x1 rfl rfl ?_
      refine g_aload_n (pc := 82) (dd d_Rng_add 46 rfl) rfl ?_
      refine g_geti (pc := 83) (dd d_Rng_add 47 rfl) f_Rng_15 (oc_Rng h_x0) rfl ?_
      refine g_icmplt (pc := 86) (tgt := 103) (dd d_Rng_add 48 rfl) (by decide) (fun q9 => ?_) (fun q9 => ?_)
      · replace h := ite_t h q9
        refine g_drop [0, 1, 2] ?_
        exact gb_Rng_add_103 hX h_x0 ha_x1 hk hT  h
      · replace h := ite_f h q9
        refine g_aload_n (pc := 89) (dd d_Rng_add 49 rfl) rfl ?_
        refine g_iconst (pc := 90) (v := 0) (dd d_Rng_add 50 rfl) (by decide) ?_
        refine g_aload_n (pc := 91) (dd d_Rng_add 51 rfl) rfl ?_
        refine g_getr (pc := 92) (dd d_Rng_add 52 rfl) f_Rng_18 (oc_Rng h_x0) rfl (rx_Rng_4 hX h_x0) ?_
        refine g_iload_n (pc := 95) (dd d_Rng_add 53 rfl) rfl ?_
        refine g_aload_n (pc := 96) (dd d_Rng_add 54 rfl) rfl ?_
        refine g_geti (pc := 97) (dd d_Rng_add 55 rfl) f_Rng_15 (oc_Rng h_x0) rfl ?_
        obtain ⟨c11, h⟩ := chk_e h
        obtain ⟨c12, h⟩ := chk_e h
        obtain ⟨c13, h⟩ := chk_e h
        obtain ⟨c14, h⟩ := chk_e h
        refine g_copyN (pc := 100) (dd d_Rng_add 56 rfl) n_Rng_32 (by omega) (Nat.le_of_ble_eq_true rfl) ha_x1 (ax_Rng_4 h_x0) (by decide) c11 c12 c13 c14 (fun I10 hI10 => ?_)
        replace h := lt_e h hI10
        refine g_drop [0, 1, 2] ?_
        exact gb_Rng_add_103 hX h_x0 ha_x1 hk hT  h
def f_Rng_add (x0 : Nat) (x1 : Nat) (I : IM) : Option (IM) := if (I x0 2 : Int32) ≤ (I x0 0 : Int32) then (lt (up I x0 1 (if (I x0 2 : Int32) ≤ ((I x0 1) + 1 : Int32) then 0 else ((I x0 1) + (1)))) fun I3 => b_Rng_add_51 x0 x1  I3) else (lt (up I x0 0 ((I x0 0) + 1)) fun I4 => b_Rng_add_51 x0 x1  I4)
set_option maxRecDepth 20000 in
set_option maxHeartbeats 4000000 in
theorem ef_Rng_add {Δ : Dx} {X : Lx} {rl hd ot pt it : Nat} (hX : EX Δ X rl hd ot pt it) {x0 : Nat} {x1 : Nat} (h_x0 : isRng x0) (ha_x1 : isA x1) {I : IM}  {r : IM} (h : f_Rng_add x0 x1 I = some r) : Ev Δ (2) m_Rng_add [.ref (Δ.ba + x0), .ref (Δ.ba + x1)] (I, X) none (r, X) := by
  refine ev_of (by decide) (Nat.le_of_ble_eq_true rfl) (fun Γ hk hR hT => ?_)
  change GG Δ m_Rng_add Γ NN 0 0 (I, X) 0 [some (.ref (Δ.ba + x0)), some (.ref (Δ.ba + x1)), none] []
  unfold f_Rng_add at h
  refine g_aload_n (pc := 0) (dd d_Rng_add 0 rfl) rfl ?_
  refine g_geti (pc := 1) (dd d_Rng_add 1 rfl) f_Rng_22 (oc_Rng h_x0) rfl ?_
  refine g_aload_n (pc := 4) (dd d_Rng_add 2 rfl) rfl ?_
  refine g_geti (pc := 5) (dd d_Rng_add 3 rfl) f_Rng_9 (oc_Rng h_x0) rfl ?_
  refine g_icmpge (pc := 8) (tgt := 24) (dd d_Rng_add 4 rfl) (by decide) (fun q1 => ?_) (fun q1 => ?_)
  · replace h := ite_t h q1
    refine g_aload_n (pc := 24) (dd d_Rng_add 12 rfl) rfl ?_
    refine g_aload_n (pc := 25) (dd d_Rng_add 13 rfl) rfl ?_
    refine g_geti (pc := 26) (dd d_Rng_add 14 rfl) f_Rng_25 (oc_Rng h_x0) rfl ?_
    refine g_iconst (pc := 29) (v := 1) (dd d_Rng_add 15 rfl) (by decide) ?_
    refine g_iadd (pc := 30) (dd d_Rng_add 16 rfl) ?_
    refine g_aload_n (pc := 31) (dd d_Rng_add 17 rfl) rfl ?_
    refine g_geti (pc := 32) (dd d_Rng_add 18 rfl) f_Rng_9 (oc_Rng h_x0) rfl ?_
    suffices K35 : ∀ z : Int32, z = (if (I x0 2 : Int32) ≤ ((I x0 1) + 1 : Int32) then 0 else ((I x0 1) + (1)) : Int32) → GG Δ m_Rng_add Γ NN 0 0 (I, X) 48 [some (.ref (Δ.ba + x0)), some (.ref (Δ.ba + x1)), none] [.int (z), .ref (Δ.ba + x0)] by
      refine g_icmpge (pc := 35) (tgt := 47) (dd d_Rng_add 19 rfl) (by decide) (fun q2 => ?_) (fun q2 => ?_)
      · skip
        refine g_iconst (pc := 47) (v := 0) (dd d_Rng_add 25 rfl) (by decide) ?_
        exact K35 _ (by rw [if_pos q2])
      · skip
        refine g_aload_n (pc := 38) (dd d_Rng_add 20 rfl) rfl ?_
        refine g_geti (pc := 39) (dd d_Rng_add 21 rfl) f_Rng_25 (oc_Rng h_x0) rfl ?_
        refine g_iconst (pc := 42) (v := 1) (dd d_Rng_add 22 rfl) (by decide) ?_
        refine g_iadd (pc := 43) (dd d_Rng_add 23 rfl) ?_
        refine g_goto (pc := 44) (tgt := 48) (dd d_Rng_add 24 rfl) (by decide) ?_
        exact K35 _ (by rw [if_neg q2])
    intro z hz
    subst hz
    refine g_putiN (pc := 48) (dd d_Rng_add 26 rfl) f_Rng_25 fm_Rng_1 (oc_Rng h_x0) rfl (fun I3 hI3 => ?_)
    replace h := lt_e h hI3
    exact gb_Rng_add_51 hX h_x0 ha_x1 hk hT  h
  · replace h := ite_f h q1
    refine g_aload_n (pc := 11) (dd d_Rng_add 5 rfl) rfl ?_
    refine g_dup (pc := 12) (dd d_Rng_add 6 rfl) rfl ?_
    refine g_geti (pc := 13) (dd d_Rng_add 7 rfl) f_Rng_22 (oc_Rng h_x0) rfl ?_
    refine g_iconst (pc := 16) (v := 1) (dd d_Rng_add 8 rfl) (by decide) ?_
    refine g_iadd (pc := 17) (dd d_Rng_add 9 rfl) ?_
    refine g_putiN (pc := 18) (dd d_Rng_add 10 rfl) f_Rng_22 fm_Rng_0 (oc_Rng h_x0) rfl (fun I4 hI4 => ?_)
    replace h := lt_e h hI4
    refine g_goto (pc := 21) (tgt := 51) (dd d_Rng_add 11 rfl) (by decide) ?_
    exact gb_Rng_add_51 hX h_x0 ha_x1 hk hT  h
