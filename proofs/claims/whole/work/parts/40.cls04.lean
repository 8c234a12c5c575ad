/-! the class: each method a function, and its contract -/
def l_Cmp_firstUnlikeCase_8 (n : Nat) (x1 : Nat) (x2 : Nat) (x4 : Nat)  : Nat → Int32 → Int32 → IM → Option (Int32 × IM)
  | 0, _, _, _ => none
  | f + 1, x3, x5, I => if (I 40 6 : Int32) ≤ x5 then (some ((-1), I)) else (lt (cpy I 41 43 (0 : Int32).toNatClampNeg (10 : Int32).toNatClampNeg (15 : Int32).toNatClampNeg) fun I3 => lt (cpy I3 41 46 (0 : Int32).toNatClampNeg (10 : Int32).toNatClampNeg (15 : Int32).toNatClampNeg) fun I4 => Option.bind (f_Wrk_workOut n 42 x1 x3 x4 I4) fun v5 => Option.bind (f_Wrk_workOut n 45 x2 x3 x4 v5) fun v7 => chk (inb x3 22) <| Option.bind (f_Cmp_answerUnlike n (v7 (x1 + 6) x3.toNatClampNeg) (v7 (x2 + 6) x3.toNatClampNeg) v7) fun v10 => if (v10.1 : Int32) = 0 then (Option.bind (f_Cmp_goToNextCase n  v10.2) fun v13 => (l_Cmp_firstUnlikeCase_8 n x1 x2 x4  f) x3 (x5 + 1) v13) else (lt (up v10.2 40 0 (1)) fun I15 => some (x5, I15)))
set_option maxRecDepth 20000 in
set_option maxHeartbeats 4000000 in
theorem gl_Cmp_firstUnlikeCase_8 {Δ : Dx} {X : Lx} {rl hd ot pt it : Nat} (hX : EX Δ X rl hd ot pt it) {x1 : Nat} {x2 : Nat} {x4 : Nat} (h_x1 : isPol x1) (h_x2 : isPol x2) (h_x4 : isMch x4) {n : Nat} {Γ : Cx} (hk : Γ.k = 4) {r : Int32 × IM} (hT : Tg Δ Γ (some (.int r.1)) NN (r.2, X) 0 0)  : ∀ (f : Nat) (x3 : Int32) (x5 : Int32) (I : IM), l_Cmp_firstUnlikeCase_8 n x1 x2 x4  f x3 x5 I = some r → GG Δ m_Cmp_firstUnlikeCase Γ NN 0 0 (I, X) 8 [some (.ref (Δ.ba + 40)), some (.ref (Δ.ba + x1)), some (.ref (Δ.ba + x2)), some (.int (x3)), some (.ref (Δ.ba + x4)), some (.int (x5))] []
  | 0, _, _, _, h => by cases h
  | f + 1, x3, x5, I, h => by
    have ih := gl_Cmp_firstUnlikeCase_8 (n := n) (x1 := x1) (x2 := x2) (x4 := x4) hX h_x1 h_x2 h_x4 hk hT  f
    rw [l_Cmp_firstUnlikeCase_8] at h
    refine g_iload (pc := 8) (dd d_Cmp_firstUnlikeCase 5 rfl) rfl ?_
    refine g_aload_n (pc := 10) (dd d_Cmp_firstUnlikeCase 6 rfl) rfl ?_
    refine g_geti (pc := 11) (dd d_Cmp_firstUnlikeCase 7 rfl) f_Cmp_44 oc_Cmp rfl ?_
    refine g_icmpge (pc := 14) (tgt := 114) (dd d_Cmp_firstUnlikeCase 8 rfl) (by decide) (fun q2 => ?_) (fun q2 => ?_)
    · replace h := ite_t h q2
      refine g_iconst (pc := 114) (v := (-1)) (dd d_Cmp_firstUnlikeCase 59 rfl) (by decide) ?_
      cases h
      exact g_iret (pc := 115) rfl (dd d_Cmp_firstUnlikeCase_1 0 rfl) hT
    · replace h := ite_f h q2
      refine g_aload_n (pc := 17) (dd d_Cmp_firstUnlikeCase 9 rfl) rfl ?_
      refine g_getr (pc := 18) (dd d_Cmp_firstUnlikeCase 10 rfl) f_Cmp_9 oc_Cmp rfl (rx_Cmp_1 hX) ?_
      refine g_iconst (pc := 21) (v := 0) (dd d_Cmp_firstUnlikeCase 11 rfl) (by decide) ?_
      refine g_aload_n (pc := 22) (dd d_Cmp_firstUnlikeCase 12 rfl) rfl ?_
      refine g_getr (pc := 23) (dd d_Cmp_firstUnlikeCase 13 rfl) f_Cmp_18 oc_Cmp rfl (rx_Cmp_2 hX) ?_
      refine g_getr (pc := 26) (dd d_Cmp_firstUnlikeCase 14 rfl) f_Cmp_57 (oc_Wrk (by decide)) rfl (rx_Wrk_0 (a := 42) hX (by decide)) ?_
      refine g_bipush (pc := 29) (v := 10) (dd d_Cmp_firstUnlikeCase 15 rfl) (by decide) ?_
      refine g_bipush (pc := 31) (v := 15) (dd d_Cmp_firstUnlikeCase 16 rfl) (by decide) ?_
      refine g_copyN (pc := 33) (dd d_Cmp_firstUnlikeCase 17 rfl) n_Cmp_60 (by omega) (Nat.le_of_ble_eq_true rfl) ax_Cmp_1 (ax_Wrk_0 (a := 42) (by decide)) (by decide) (by decide) (by decide) (by decide) (by decide) (fun I3 hI3 => ?_)
      replace h := lt_e h hI3
      refine g_aload_n (pc := 36) (dd d_Cmp_firstUnlikeCase 18 rfl) rfl ?_
      refine g_getr (pc := 37) (dd d_Cmp_firstUnlikeCase 19 rfl) f_Cmp_9 oc_Cmp rfl (rx_Cmp_1 hX) ?_
      refine g_iconst (pc := 40) (v := 0) (dd d_Cmp_firstUnlikeCase 20 rfl) (by decide) ?_
      refine g_aload_n (pc := 41) (dd d_Cmp_firstUnlikeCase 21 rfl) rfl ?_
      refine g_getr (pc := 42) (dd d_Cmp_firstUnlikeCase 22 rfl) f_Cmp_22 oc_Cmp rfl (rx_Cmp_3 hX) ?_
      refine g_getr (pc := 45) (dd d_Cmp_firstUnlikeCase 23 rfl) f_Cmp_57 (oc_Wrk (by decide)) rfl (rx_Wrk_0 (a := 45) hX (by decide)) ?_
      refine g_bipush (pc := 48) (v := 10) (dd d_Cmp_firstUnlikeCase 24 rfl) (by decide) ?_
      refine g_bipush (pc := 50) (v := 15) (dd d_Cmp_firstUnlikeCase 25 rfl) (by decide) ?_
      refine g_copyN (pc := 52) (dd d_Cmp_firstUnlikeCase 26 rfl) n_Cmp_60 (by omega) (Nat.le_of_ble_eq_true rfl) ax_Cmp_1 (ax_Wrk_0 (a := 45) (by decide)) (by decide) (by decide) (by decide) (by decide) (by decide) (fun I4 hI4 => ?_)
      replace h := lt_e h hI4
      refine g_aload_n (pc := 55) (dd d_Cmp_firstUnlikeCase 27 rfl) rfl ?_
      refine g_getr (pc := 56) (dd d_Cmp_firstUnlikeCase 28 rfl) f_Cmp_18 oc_Cmp rfl (rx_Cmp_2 hX) ?_
      refine g_aload_n (pc := 59) (dd d_Cmp_firstUnlikeCase 29 rfl) rfl ?_
      refine g_iload_n (pc := 60) (dd d_Cmp_firstUnlikeCase 30 rfl) rfl ?_
      refine g_aload (pc := 61) (dd d_Cmp_firstUnlikeCase 31 rfl) rfl ?_
      obtain ⟨v5, e6, h⟩ := bnd_e h
      refine g_callV (pc := 63) (dd d_Cmp_firstUnlikeCase 32 rfl) v_Cmp_66 (oc_Wrk (by decide)) rfl (ef_Wrk_workOut hX (by decide) h_x1 h_x4 e6) rfl (by omega) (Nat.le_of_ble_eq_true rfl) ⟨Nat.zero_le _, Nat.zero_le _⟩ rfl ?_
      refine g_aload_n (pc := 66) (dd d_Cmp_firstUnlikeCase 33 rfl) rfl ?_
      refine g_getr (pc := 67) (dd d_Cmp_firstUnlikeCase 34 rfl) f_Cmp_22 oc_Cmp rfl (rx_Cmp_3 hX) ?_
      refine g_aload_n (pc := 70) (dd d_Cmp_firstUnlikeCase 35 rfl) rfl ?_
      refine g_iload_n (pc := 71) (dd d_Cmp_firstUnlikeCase 36 rfl) rfl ?_
      refine g_aload (pc := 72) (dd d_Cmp_firstUnlikeCase 37 rfl) rfl ?_
      obtain ⟨v7, e8, h⟩ := bnd_e h
      refine g_callV (pc := 74) (dd d_Cmp_firstUnlikeCase 38 rfl) v_Cmp_66 (oc_Wrk (by decide)) rfl (ef_Wrk_workOut hX (by decide) h_x2 h_x4 e8) rfl (by omega) (Nat.le_of_ble_eq_true rfl) ⟨Nat.zero_le _, Nat.zero_le _⟩ rfl ?_
      refine g_aload_n (pc := 77) (dd d_Cmp_firstUnlikeCase 39 rfl) rfl ?_
      refine g_aload_n (pc := 78) (dd d_Cmp_firstUnlikeCase 40 rfl) rfl ?_
      refine g_getr (pc := 79) (dd d_Cmp_firstUnlikeCase 41 rfl) f_Cmp_34 (oc_Pol h_x1) rfl (rx_Pol_6 hX h_x1) ?_
      refine g_iload_n (pc := 82) (dd d_Cmp_firstUnlikeCase 42 rfl) rfl ?_
      obtain ⟨c9, h⟩ := chk_e h
      refine g_iald (pc := 83) (dd d_Cmp_firstUnlikeCase 43 rfl) (ax_Pol_6 h_x1) c9 ?_
      refine g_aload_n (pc := 84) (dd d_Cmp_firstUnlikeCase 44 rfl) rfl ?_
      refine g_getr (pc := 85) (dd d_Cmp_firstUnlikeCase 45 rfl) f_Cmp_34 (oc_Pol h_x2) rfl (rx_Pol_6 hX h_x2) ?_
      refine g_iload_n (pc := 88) (dd d_Cmp_firstUnlikeCase 46 rfl) rfl ?_
      refine g_iald (pc := 89) (dd d_Cmp_firstUnlikeCase 47 rfl) (ax_Pol_6 h_x2) c9 ?_
      obtain ⟨v10, e11, h⟩ := bnd_e h
      refine g_callV (pc := 90) (dd d_Cmp_firstUnlikeCase 48 rfl) v_Cmp_70 oc_Cmp rfl (ef_Cmp_answerUnlike hX e11) rfl (by omega) (Nat.le_of_ble_eq_true rfl) ⟨Nat.zero_le _, Nat.zero_le _⟩ rfl ?_
      refine g_ifeq (pc := 93) (tgt := 104) (dd d_Cmp_firstUnlikeCase 49 rfl) (by decide) (fun q12 => ?_) (fun q12 => ?_)
      · replace h := ite_t h q12
        refine g_aload_n (pc := 104) (dd d_Cmp_firstUnlikeCase 55 rfl) rfl ?_
        obtain ⟨v13, e14, h⟩ := bnd_e h
        refine g_callV (pc := 105) (dd d_Cmp_firstUnlikeCase 56 rfl) v_Cmp_74 oc_Cmp rfl (ef_Cmp_goToNextCase hX e14) rfl (by omega) (Nat.le_of_ble_eq_true rfl) ⟨Nat.zero_le _, Nat.zero_le _⟩ rfl ?_
        refine g_iincW (pc := 108) (w := 1) (dd d_Cmp_firstUnlikeCase 57 rfl) rfl (by decide) (by decide) ?_
        refine g_goto (pc := 111) (tgt := 8) (dd d_Cmp_firstUnlikeCase 58 rfl) (by decide) ?_
        exact ih _ _ _ h
      · replace h := ite_f h q12
        refine g_aload_n (pc := 96) (dd d_Cmp_firstUnlikeCase 50 rfl) rfl ?_
        refine g_iconst (pc := 97) (v := 1) (dd d_Cmp_firstUnlikeCase 51 rfl) (by decide) ?_
        refine g_putzN (pc := 98) (dd d_Cmp_firstUnlikeCase 52 rfl) f_Cmp_53 fm_Cmp_0 oc_Cmp rfl (by decide) (fun I15 hI15 => ?_)
        replace h := lt_e h hI15
        refine g_iload (pc := 101) (dd d_Cmp_firstUnlikeCase 53 rfl) rfl ?_
        cases h
        exact g_iret (pc := 103) rfl (dd d_Cmp_firstUnlikeCase 54 rfl) hT
def f_Cmp_firstUnlikeCase (n : Nat) (x1 : Nat) (x2 : Nat) (x3 : Int32) (x4 : Nat) (I : IM) : Option (Int32 × IM) := lt (up I 40 0 (0)) fun I1 => l_Cmp_firstUnlikeCase_8 n x1 x2 x4  n x3 0 I1
set_option maxRecDepth 20000 in
set_option maxHeartbeats 4000000 in
theorem ef_Cmp_firstUnlikeCase {Δ : Dx} {X : Lx} {rl hd ot pt it : Nat} (hX : EX Δ X rl hd ot pt it) {n : Nat} {x1 : Nat} {x2 : Nat} {x3 : Int32} {x4 : Nat} (h_x1 : isPol x1) (h_x2 : isPol x2) (h_x4 : isMch x4) {I : IM}  {r : Int32 × IM} (h : f_Cmp_firstUnlikeCase n x1 x2 x3 x4 I = some r) : Ev Δ (4) m_Cmp_firstUnlikeCase [.ref (Δ.ba + 40), .ref (Δ.ba + x1), .ref (Δ.ba + x2), .int x3, .ref (Δ.ba + x4)] (I, X) (some (.int r.1)) (r.2, X) := by
  refine ev_of (by decide) (Nat.le_of_ble_eq_true rfl) (fun Γ hk hR hT => ?_)
  change GG Δ m_Cmp_firstUnlikeCase Γ NN 0 0 (I, X) 0 [some (.ref (Δ.ba + 40)), some (.ref (Δ.ba + x1)), some (.ref (Δ.ba + x2)), some (.int (x3)), some (.ref (Δ.ba + x4)), none] []
  unfold f_Cmp_firstUnlikeCase at h
  refine g_aload_n (pc := 0) (dd d_Cmp_firstUnlikeCase 0 rfl) rfl ?_
  refine g_iconst (pc := 1) (v := 0) (dd d_Cmp_firstUnlikeCase 1 rfl) (by decide) ?_
  refine g_putzN (pc := 2) (dd d_Cmp_firstUnlikeCase 2 rfl) f_Cmp_53 fm_Cmp_0 oc_Cmp rfl (by decide) (fun I1 hI1 => ?_)
  replace h := lt_e h hI1
  refine g_iconst (pc := 5) (v := 0) (dd d_Cmp_firstUnlikeCase 3 rfl) (by decide) ?_
  refine g_istore (pc := 6) (dd d_Cmp_firstUnlikeCase 4 rfl) (by decide) ?_
  exact gl_Cmp_firstUnlikeCase_8 hX h_x1 h_x2 h_x4 hk hT  _ _ _ _ h
def b_Eng_differ_21 (n : Nat) (rl : Nat) (hd : Nat)   (I : IM) : Option (Int32 × IM) := none
set_option maxRecDepth 20000 in
set_option maxHeartbeats 4000000 in
theorem gb_Eng_differ_21 {Δ : Dx} {X : Lx} {rl hd ot pt it : Nat} (hX : EX Δ X rl hd ot pt it)   {n : Nat} {Γ : Cx} (hk : Γ.k = 5) {r : Int32 × IM} (hT : Tg Δ Γ (some (.int r.1)) NN (r.2, X) 0 0)   {I : IM} (h : b_Eng_differ_21 n rl hd   I = some r) : GG Δ m_Eng_differ Γ NN 0 0 (I, X) 21 [none, none, none, none, none] [] := by
  unfold b_Eng_differ_21 at h
  cases h
def b_Eng_differ_53 (n : Nat) (rl : Nat) (hd : Nat)   (I : IM) : Option (Int32 × IM) := none
set_option maxRecDepth 20000 in
set_option maxHeartbeats 4000000 in
theorem gb_Eng_differ_53 {Δ : Dx} {X : Lx} {rl hd ot pt it : Nat} (hX : EX Δ X rl hd ot pt it)   {n : Nat} {Γ : Cx} (hk : Γ.k = 5) {r : Int32 × IM} (hT : Tg Δ Γ (some (.int r.1)) NN (r.2, X) 0 0)   {I : IM} (h : b_Eng_differ_53 n rl hd   I = some r) : GG Δ m_Eng_differ Γ NN 0 0 (I, X) 53 [none, none, none, none, none] [] := by
  unfold b_Eng_differ_53 at h
  cases h
def f_Eng_differ (n : Nat) (rl : Nat) (hd : Nat) (x1 : Int32) (x2 : Int32) (I : IM) : Option (Int32 × IM) := if x1 < 0 then (b_Eng_differ_21 n rl hd  I) else (if (22 : Int32) ≤ x1 then (b_Eng_differ_21 n rl hd  I) else (if x2 < (1 : Int32) then (b_Eng_differ_21 n rl hd  I) else (if x2 ≤ (7 : Int32) then (Option.bind (f_Pol_mayBeCompared  rl x1 I) fun v5 => if v5 = 0 then (b_Eng_differ_53 n rl hd  I) else (Option.bind (f_Pol_mayBeCompared  48 x1 I) fun v8 => if v8 = 0 then (b_Eng_differ_53 n rl hd  I) else (Option.bind (f_Cmp_variedNames  rl 48 x1 I) fun v11 => Option.bind (f_Cmp_casesOf n v11 x2 I) fun v13 => if v13 ≤ (4096 : Int32) then (Option.bind (f_Cmp_startCases  v11 x2 v13 I) fun v16 => Option.bind (f_Cmp_firstUnlikeCase n rl 48 x1 hd v16) fun v18 => some (v18.1, v18.2)) else (none)))) else (b_Eng_differ_21 n rl hd  I))))
set_option maxRecDepth 20000 in
set_option maxHeartbeats 4000000 in
theorem ef_Eng_differ {Δ : Dx} {X : Lx} {rl hd ot pt it : Nat} (hX : EX Δ X rl hd ot pt it) {n : Nat} {x1 : Int32} {x2 : Int32}  {I : IM}  {r : Int32 × IM} (h : f_Eng_differ n rl hd x1 x2 I = some r) : Ev Δ (5) m_Eng_differ [.ref (Δ.ba + 0), .int x1, .int x2] (I, X) (some (.int r.1)) (r.2, X) := by
  refine ev_of (by decide) (Nat.le_of_ble_eq_true rfl) (fun Γ hk hR hT => ?_)
  change GG Δ m_Eng_differ Γ NN 0 0 (I, X) 0 [some (.ref (Δ.ba + 0)), some (.int (x1)), some (.int (x2)), none, none] []
  unfold f_Eng_differ at h
  refine g_iload_n (pc := 0) (dd d_Eng_differ 0 rfl) rfl ?_
  refine g_iflt (pc := 1) (tgt := 21) (dd d_Eng_differ 1 rfl) (by decide) (fun q1 => ?_) (fun q1 => ?_)
  · replace h := ite_t h q1
    refine g_drop [0, 1, 2] ?_
    exact gb_Eng_differ_21 hX hk hT  h
  · replace h := ite_f h q1
    refine g_iload_n (pc := 4) (dd d_Eng_differ 2 rfl) rfl ?_
    refine g_bipush (pc := 5) (v := 22) (dd d_Eng_differ 3 rfl) (by decide) ?_
    refine g_icmpge (pc := 7) (tgt := 21) (dd d_Eng_differ 4 rfl) (by decide) (fun q2 => ?_) (fun q2 => ?_)
    · replace h := ite_t h q2
      refine g_drop [0, 1, 2] ?_
      exact gb_Eng_differ_21 hX hk hT  h
    · replace h := ite_f h q2
      refine g_iload_n (pc := 10) (dd d_Eng_differ 5 rfl) rfl ?_
      refine g_iconst (pc := 11) (v := 1) (dd d_Eng_differ 6 rfl) (by decide) ?_
      refine g_icmplt (pc := 12) (tgt := 21) (dd d_Eng_differ 7 rfl) (by decide) (fun q3 => ?_) (fun q3 => ?_)
      · replace h := ite_t h q3
        refine g_drop [0, 1, 2] ?_
        exact gb_Eng_differ_21 hX hk hT  h
      · replace h := ite_f h q3
        refine g_iload_n (pc := 15) (dd d_Eng_differ 8 rfl) rfl ?_
        refine g_bipush (pc := 16) (v := 7) (dd d_Eng_differ 9 rfl) (by decide) ?_
        refine g_icmple (pc := 18) (tgt := 31) (dd d_Eng_differ 10 rfl) (by decide) (fun q4 => ?_) (fun q4 => ?_)
        · replace h := ite_t h q4
          refine g_aload_n (pc := 31) (dd d_Eng_differ 16 rfl) rfl ?_
          refine g_getr (pc := 32) (dd d_Eng_differ 17 rfl) f_Eng_60 oc_Eng rfl hX.r_rl ?_
          refine g_iload_n (pc := 35) (dd d_Eng_differ 18 rfl) rfl ?_
          obtain ⟨v5, e6, h⟩ := bnd_e h
          refine g_callV (pc := 36) (dd d_Eng_differ 19 rfl) v_Eng_255 (oc_Pol hX.i_rl) rfl (ef_Pol_mayBeCompared hX hX.i_rl e6) rfl (by omega) (Nat.le_of_ble_eq_true rfl) ⟨Nat.zero_le _, Nat.zero_le _⟩ rfl ?_
          refine g_ifeq (pc := 39) (tgt := 53) (dd d_Eng_differ 20 rfl) (by decide) (fun q7 => ?_) (fun q7 => ?_)
          · replace h := ite_t h q7
            refine g_drop [0, 1, 2] ?_
            exact gb_Eng_differ_53 hX hk hT  h
          · replace h := ite_f h q7
            refine g_aload_n (pc := 42) (dd d_Eng_differ 21 rfl) rfl ?_
            refine g_getr (pc := 43) (dd d_Eng_differ 22 rfl) f_Eng_49 oc_Eng rfl (rx_Eng_5 hX) ?_
            refine g_iload_n (pc := 46) (dd d_Eng_differ 23 rfl) rfl ?_
            obtain ⟨v8, e9, h⟩ := bnd_e h
            refine g_callV (pc := 47) (dd d_Eng_differ 24 rfl) v_Eng_255 (oc_Pol (by decide)) rfl (ef_Pol_mayBeCompared hX (by decide) e9) rfl (by omega) (Nat.le_of_ble_eq_true rfl) ⟨Nat.zero_le _, Nat.zero_le _⟩ rfl ?_
            refine g_ifne (pc := 50) (tgt := 64) (dd d_Eng_differ 25 rfl) (by decide) (fun q10 => ?_) (fun q10 => ?_)
            · replace h := ite_f h q10
              refine g_aload_n (pc := 64) (dd d_Eng_differ 31 rfl) rfl ?_
              refine g_getr (pc := 65) (dd d_Eng_differ 32 rfl) f_Eng_60 oc_Eng rfl hX.r_rl ?_
              refine g_aload_n (pc := 68) (dd d_Eng_differ 33 rfl) rfl ?_
              refine g_getr (pc := 69) (dd d_Eng_differ 34 rfl) f_Eng_49 oc_Eng rfl (rx_Eng_5 hX) ?_
              refine g_iload_n (pc := 72) (dd d_Eng_differ 35 rfl) rfl ?_
              obtain ⟨v11, e12, h⟩ := bnd_e h
              refine g_callS (pc := 73) (dd d_Eng_differ 36 rfl) s_Eng_260 (ef_Cmp_variedNames hX hX.i_rl (by decide) e12) rfl (by omega) (Nat.le_of_ble_eq_true rfl) ⟨Nat.zero_le _, Nat.zero_le _⟩ rfl ?_
              refine g_istore_n (pc := 76) (dd d_Eng_differ 37 rfl) (by decide) ?_
              refine g_iload_n (pc := 77) (dd d_Eng_differ 38 rfl) rfl ?_
              refine g_iload_n (pc := 78) (dd d_Eng_differ 39 rfl) rfl ?_
              obtain ⟨v13, e14, h⟩ := bnd_e h
              refine g_callS (pc := 79) (dd d_Eng_differ 40 rfl) s_Eng_264 (ef_Cmp_casesOf hX e14) rfl (by omega) (Nat.le_of_ble_eq_true rfl) ⟨Nat.zero_le _, Nat.zero_le _⟩ rfl ?_
              refine g_istore (pc := 82) (dd d_Eng_differ 41 rfl) (by decide) ?_
              refine g_iload (pc := 84) (dd d_Eng_differ 42 rfl) rfl ?_
              refine g_sipush (pc := 86) (v := 4096) (dd d_Eng_differ 43 rfl) (by decide) ?_
              refine g_icmple (pc := 89) (tgt := 103) (dd d_Eng_differ 44 rfl) (by decide) (fun q15 => ?_) (fun q15 => ?_)
              · replace h := ite_t h q15
                refine g_aload_n (pc := 103) (dd d_Eng_differ 50 rfl) rfl ?_
                refine g_getr (pc := 104) (dd d_Eng_differ 51 rfl) f_Eng_42 oc_Eng rfl (rx_Eng_4 hX) ?_
                refine g_iload_n (pc := 107) (dd d_Eng_differ 52 rfl) rfl ?_
                refine g_iload_n (pc := 108) (dd d_Eng_differ 53 rfl) rfl ?_
                refine g_iload (pc := 109) (dd d_Eng_differ 54 rfl) rfl ?_
                obtain ⟨v16, e17, h⟩ := bnd_e h
                refine g_callV (pc := 111) (dd d_Eng_differ 55 rfl) v_Eng_269 oc_Cmp rfl (ef_Cmp_startCases hX e17) rfl (by omega) (Nat.le_of_ble_eq_true rfl) ⟨Nat.zero_le _, Nat.zero_le _⟩ rfl ?_
                refine g_aload_n (pc := 114) (dd d_Eng_differ 56 rfl) rfl ?_
                refine g_getr (pc := 115) (dd d_Eng_differ 57 rfl) f_Eng_42 oc_Eng rfl (rx_Eng_4 hX) ?_
                refine g_aload_n (pc := 118) (dd d_Eng_differ 58 rfl) rfl ?_
                refine g_getr (pc := 119) (dd d_Eng_differ 59 rfl) f_Eng_60 oc_Eng rfl hX.r_rl ?_
                refine g_aload_n (pc := 122) (dd d_Eng_differ_1 0 rfl) rfl ?_
                refine g_getr (pc := 123) (dd d_Eng_differ_1 1 rfl) f_Eng_49 oc_Eng rfl (rx_Eng_5 hX) ?_
                refine g_iload_n (pc := 126) (dd d_Eng_differ_1 2 rfl) rfl ?_
                refine g_aload_n (pc := 127) (dd d_Eng_differ_1 3 rfl) rfl ?_
                refine g_getr (pc := 128) (dd d_Eng_differ_1 4 rfl) f_Eng_66 oc_Eng rfl hX.r_hd ?_
                obtain ⟨v18, e19, h⟩ := bnd_e h
                refine g_callV (pc := 131) (dd d_Eng_differ_1 5 rfl) v_Eng_272 oc_Cmp rfl (ef_Cmp_firstUnlikeCase hX hX.i_rl (by decide) hX.i_hd e19) rfl (by omega) (Nat.le_of_ble_eq_true rfl) ⟨Nat.zero_le _, Nat.zero_le _⟩ rfl ?_
                cases h
                exact g_iret (pc := 134) rfl (dd d_Eng_differ_1 6 rfl) hT
              · replace h := ite_f h q15
                cases h
            · replace h := ite_t h q10
              refine g_drop [0, 1, 2] ?_
              exact gb_Eng_differ_53 hX hk hT  h
        · replace h := ite_f h q4
          refine g_drop [0, 1, 2] ?_
          exact gb_Eng_differ_21 hX hk hT  h
def b_Eng_witness_10 (I : IM)   : Option (Int32) := none
set_option maxRecDepth 20000 in
set_option maxHeartbeats 4000000 in
theorem gb_Eng_witness_10 {Δ : Dx} {X : Lx} {rl hd ot pt it : Nat} (hX : EX Δ X rl hd ot pt it)   {I : IM} {Γ : Cx} (hk : Γ.k = 0) {r : Int32} (hT : Tg Δ Γ (some (.int r)) NN (I, X) 0 0)   (h : b_Eng_witness_10 I   = some r) : GG Δ m_Eng_witness Γ NN 0 0 (I, X) 10 [none, none] [] := by
  unfold b_Eng_witness_10 at h
  cases h
def f_Eng_witness (x1 : Int32) (I : IM) : Option (Int32) := if x1 < 0 then (b_Eng_witness_10 I  ) else (if x1 < (15 : Int32) then (if (I 40 0 : Int32) = 0 then (none) else (chk (inb x1 15) <| some (I 41 x1.toNatClampNeg))) else (b_Eng_witness_10 I  ))
set_option maxRecDepth 20000 in
set_option maxHeartbeats 4000000 in
theorem ef_Eng_witness {Δ : Dx} {X : Lx} {rl hd ot pt it : Nat} (hX : EX Δ X rl hd ot pt it) {x1 : Int32}  {I : IM}  {r : Int32} (h : f_Eng_witness x1 I = some r) : Ev Δ (0) m_Eng_witness [.ref (Δ.ba + 0), .int x1] (I, X) (some (.int r)) (I, X) := by
  refine ev_of (by decide) (Nat.le_of_ble_eq_true rfl) (fun Γ hk hR hT => ?_)
  change GG Δ m_Eng_witness Γ NN 0 0 (I, X) 0 [some (.ref (Δ.ba + 0)), some (.int (x1))] []
  unfold f_Eng_witness at h
  refine g_iload_n (pc := 0) (dd d_Eng_witness 0 rfl) rfl ?_
  refine g_iflt (pc := 1) (tgt := 10) (dd d_Eng_witness 1 rfl) (by decide) (fun q1 => ?_) (fun q1 => ?_)
  · replace h := ite_t h q1
    refine g_drop [0, 1] ?_
    exact gb_Eng_witness_10 hX hk hT  h
  · replace h := ite_f h q1
    refine g_iload_n (pc := 4) (dd d_Eng_witness 2 rfl) rfl ?_
    refine g_bipush (pc := 5) (v := 15) (dd d_Eng_witness 3 rfl) (by decide) ?_
    refine g_icmplt (pc := 7) (tgt := 21) (dd d_Eng_witness 4 rfl) (by decide) (fun q2 => ?_) (fun q2 => ?_)
    · replace h := ite_t h q2
      refine g_aload_n (pc := 21) (dd d_Eng_witness 10 rfl) rfl ?_
      refine g_getr (pc := 22) (dd d_Eng_witness 11 rfl) f_Eng_42 oc_Eng rfl (rx_Eng_4 hX) ?_
      refine g_geti (pc := 25) (dd d_Eng_witness 12 rfl) f_Eng_278 oc_Cmp rfl ?_
      refine g_ifne (pc := 28) (tgt := 42) (dd d_Eng_witness 13 rfl) (by decide) (fun q3 => ?_) (fun q3 => ?_)
      · replace h := ite_f h q3
        refine g_aload_n (pc := 42) (dd d_Eng_witness 19 rfl) rfl ?_
        refine g_getr (pc := 43) (dd d_Eng_witness 20 rfl) f_Eng_42 oc_Eng rfl (rx_Eng_4 hX) ?_
        refine g_getr (pc := 46) (dd d_Eng_witness 21 rfl) f_Eng_284 oc_Cmp rfl (rx_Cmp_1 hX) ?_
        refine g_iload_n (pc := 49) (dd d_Eng_witness 22 rfl) rfl ?_
        obtain ⟨c4, h⟩ := chk_e h
        refine g_iald (pc := 50) (dd d_Eng_witness 23 rfl) ax_Cmp_1 c4 ?_
        cases h
        exact g_iret (pc := 51) rfl (dd d_Eng_witness 24 rfl) hT
      · replace h := ite_t h q3
        cases h
    · replace h := ite_f h q2
      refine g_drop [0, 1] ?_
      exact gb_Eng_witness_10 hX hk hT  h
def f_Rng_become (x0 : Nat) (x1 : Nat) (I : IM) : Option (IM) := lt (up I x0 0 (I x1 0)) fun I1 => lt (up I1 x0 1 (I1 x1 1)) fun I2 => Option.bind (f_Eng_copyRow  (x1 + 1) (x0 + 1) I2) fun v3 => some v3
set_option maxRecDepth 20000 in
set_option maxHeartbeats 4000000 in
theorem ef_Rng_become {Δ : Dx} {X : Lx} {rl hd ot pt it : Nat} (hX : EX Δ X rl hd ot pt it) {x0 : Nat} {x1 : Nat} (h_x0 : isRng x0) (h_x1 : isRng x1) {I : IM}  {r : IM} (h : f_Rng_become x0 x1 I = some r) : Ev Δ (3) m_Rng_become [.ref (Δ.ba + x0), .ref (Δ.ba + x1)] (I, X) none (r, X) := by
  refine ev_of (by decide) (Nat.le_of_ble_eq_true rfl) (fun Γ hk hR hT => ?_)
  change GG Δ m_Rng_become Γ NN 0 0 (I, X) 0 [some (.ref (Δ.ba + x0)), some (.ref (Δ.ba + x1))] []
  unfold f_Rng_become at h
  refine g_aload_n (pc := 0) (dd d_Rng_become 0 rfl) rfl ?_
  refine g_aload_n (pc := 1) (dd d_Rng_become 1 rfl) rfl ?_
  refine g_geti (pc := 2) (dd d_Rng_become 2 rfl) f_Rng_22 (oc_Rng h_x1) rfl ?_
  refine g_putiN (pc := 5) (dd d_Rng_become 3 rfl) f_Rng_22 fm_Rng_0 (oc_Rng h_x0) rfl (fun I1 hI1 => ?_)
  replace h := lt_e h hI1
  refine g_aload_n (pc := 8) (dd d_Rng_become 4 rfl) rfl ?_
  refine g_aload_n (pc := 9) (dd d_Rng_become 5 rfl) rfl ?_
  refine g_geti (pc := 10) (dd d_Rng_become 6 rfl) f_Rng_25 (oc_Rng h_x1) rfl ?_
  refine g_putiN (pc := 13) (dd d_Rng_become 7 rfl) f_Rng_25 fm_Rng_1 (oc_Rng h_x0) rfl (fun I2 hI2 => ?_)
  replace h := lt_e h hI2
  refine g_aload_n (pc := 16) (dd d_Rng_become 8 rfl) rfl ?_
  refine g_getr (pc := 17) (dd d_Rng_become 9 rfl) f_Rng_18 (oc_Rng h_x1) rfl (rx_Rng_4 hX h_x1) ?_
  refine g_aload_n (pc := 20) (dd d_Rng_become 10 rfl) rfl ?_
  refine g_getr (pc := 21) (dd d_Rng_become 11 rfl) f_Rng_18 (oc_Rng h_x0) rfl (rx_Rng_4 hX h_x0) ?_
  obtain ⟨v3, e4, h⟩ := bnd_e h
  refine g_callSN (pc := 24) (dd d_Rng_become 12 rfl) s_Rng_42 (ef_Eng_copyRow hX (isA_of (ax_Rng_4 h_x1)) (isA_of (ax_Rng_4 h_x0)) e4) rfl (by omega) (Nat.le_of_ble_eq_true rfl) ⟨Nat.zero_le _, Nat.zero_le _⟩ rfl ?_
  cases h
  exact g_vret (pc := 27) rfl (dd d_Rng_become 13 rfl) hT
def f_Mch_become (x0 : Nat) (x1 : Nat) (I : IM) : Option (IM) := lt (up I x0 0 (I x1 0)) fun I1 => lt (up I1 x0 1 (I1 x1 1)) fun I2 => lt (up I2 x0 2 (I2 x1 2)) fun I3 => Option.bind (f_Eng_copyRow  (x1 + 1) (x0 + 1) I3) fun v4 => Option.bind (f_Eng_copyRow  (x1 + 2) (x0 + 2) v4) fun v6 => Option.bind (f_Eng_copyRow  (x1 + 3) (x0 + 3) v6) fun v8 => Option.bind (f_Eng_copyRow  (x1 + 4) (x0 + 4) v8) fun v10 => Option.bind (f_Eng_copyRow  (x1 + 5) (x0 + 5) v10) fun v12 => Option.bind (f_Eng_copyRow  (x1 + 6) (x0 + 6) v12) fun v14 => Option.bind (f_Eng_copyRow  (x1 + 7) (x0 + 7) v14) fun v16 => Option.bind (f_Eng_copyRow  (x1 + 8) (x0 + 8) v16) fun v18 => Option.bind (f_Eng_copyRow  (x1 + 9) (x0 + 9) v18) fun v20 => Option.bind (f_Eng_copyRow  (x1 + 10) (x0 + 10) v20) fun v22 => Option.bind (f_Eng_copyRow  (x1 + 11) (x0 + 11) v22) fun v24 => Option.bind (f_Eng_copyRow  (x1 + 12) (x0 + 12) v24) fun v26 => Option.bind (f_Eng_copyRow  (x1 + 13) (x0 + 13) v26) fun v28 => Option.bind (f_Eng_copyRow  (x1 + 14) (x0 + 14) v28) fun v30 => Option.bind (f_Rng_become  (x0 + 15) (x1 + 15) v30) fun v32 => Option.bind (f_Rng_become  (x0 + 17) (x1 + 17) v32) fun v34 => some v34
set_option maxRecDepth 20000 in
set_option maxHeartbeats 4000000 in
theorem ef_Mch_become {Δ : Dx} {X : Lx} {rl hd ot pt it : Nat} (hX : EX Δ X rl hd ot pt it) {x0 : Nat} {x1 : Nat} (h_x0 : isMch x0) (h_x1 : isMch x1) {I : IM}  {r : IM} (h : f_Mch_become x0 x1 I = some r) : Ev Δ (4) m_Mch_become [.ref (Δ.ba + x0), .ref (Δ.ba + x1)] (I, X) none (r, X) := by
  refine ev_of (by decide) (Nat.le_of_ble_eq_true rfl) (fun Γ hk hR hT => ?_)
  change GG Δ m_Mch_become Γ NN 0 0 (I, X) 0 [some (.ref (Δ.ba + x0)), some (.ref (Δ.ba + x1))] []
  unfold f_Mch_become at h
  refine g_aload_n (pc := 0) (dd d_Mch_become 0 rfl) rfl ?_
  refine g_aload_n (pc := 1) (dd d_Mch_become 1 rfl) rfl ?_
  refine g_geti (pc := 2) (dd d_Mch_become 2 rfl) f_Mch_73 (oc_Mch h_x1) rfl ?_
  refine g_putiN (pc := 5) (dd d_Mch_become 3 rfl) f_Mch_73 fm_Mch_0 (oc_Mch h_x0) rfl (fun I1 hI1 => ?_)
  replace h := lt_e h hI1
  refine g_aload_n (pc := 8) (dd d_Mch_become 4 rfl) rfl ?_
  refine g_aload_n (pc := 9) (dd d_Mch_become 5 rfl) rfl ?_
  refine g_geti (pc := 10) (dd d_Mch_become 6 rfl) f_Mch_66 (oc_Mch h_x1) rfl ?_
  refine g_putiN (pc := 13) (dd d_Mch_become 7 rfl) f_Mch_66 fm_Mch_1 (oc_Mch h_x0) rfl (fun I2 hI2 => ?_)
  replace h := lt_e h hI2
  refine g_aload_n (pc := 16) (dd d_Mch_become 8 rfl) rfl ?_
  refine g_aload_n (pc := 17) (dd d_Mch_become 9 rfl) rfl ?_
  refine g_geti (pc := 18) (dd d_Mch_become 10 rfl) f_Mch_70 (oc_Mch h_x1) rfl ?_
  refine g_putiN (pc := 21) (dd d_Mch_become 11 rfl) f_Mch_70 fm_Mch_2 (oc_Mch h_x0) rfl (fun I3 hI3 => ?_)
  replace h := lt_e h hI3
  refine g_aload_n (pc := 24) (dd d_Mch_become 12 rfl) rfl ?_
  refine g_getr (pc := 25) (dd d_Mch_become 13 rfl) f_Mch_9 (oc_Mch h_x1) rfl (rx_Mch_3 hX h_x1) ?_
  refine g_aload_n (pc := 28) (dd d_Mch_become 14 rfl) rfl ?_
  refine g_getr (pc := 29) (dd d_Mch_become 15 rfl) f_Mch_9 (oc_Mch h_x0) rfl (rx_Mch_3 hX h_x0) ?_
  obtain ⟨v4, e5, h⟩ := bnd_e h
  refine g_callSN (pc := 32) (dd d_Mch_become 16 rfl) s_Mch_85 (ef_Eng_copyRow hX (isA_of (ax_Mch_3 h_x1)) (isA_of (ax_Mch_3 h_x0)) e5) rfl (by omega) (Nat.le_of_ble_eq_true rfl) ⟨Nat.zero_le _, Nat.zero_le _⟩ rfl ?_
  refine g_aload_n (pc := 35) (dd d_Mch_become 17 rfl) rfl ?_
  refine g_getr (pc := 36) (dd d_Mch_become 18 rfl) f_Mch_15 (oc_Mch h_x1) rfl (rx_Mch_4 hX h_x1) ?_
  refine g_aload_n (pc := 39) (dd d_Mch_become 19 rfl) rfl ?_
  refine g_getr (pc := 40) (dd d_Mch_become 20 rfl) f_Mch_15 (oc_Mch h_x0) rfl (rx_Mch_4 hX h_x0) ?_
  obtain ⟨v6, e7, h⟩ := bnd_e h
  refine g_callSN (pc := 43) (dd d_Mch_become 21 rfl) s_Mch_85 (ef_Eng_copyRow hX (isA_of (ax_Mch_4 h_x1)) (isA_of (ax_Mch_4 h_x0)) e7) rfl (by omega) (Nat.le_of_ble_eq_true rfl) ⟨Nat.zero_le _, Nat.zero_le _⟩ rfl ?_
  refine g_aload_n (pc := 46) (dd d_Mch_become 22 rfl) rfl ?_
  refine g_getr (pc := 47) (dd d_Mch_become 23 rfl) f_Mch_18 (oc_Mch h_x1) rfl (rx_Mch_5 hX h_x1) ?_
  refine g_aload_n (pc := 50) (dd d_Mch_become 24 rfl) rfl ?_
  refine g_getr (pc := 51) (dd d_Mch_become 25 rfl) f_Mch_18 (oc_Mch h_x0) rfl (rx_Mch_5 hX h_x0) ?_
  obtain ⟨v8, e9, h⟩ := bnd_e h
  refine g_callSN (pc := 54) (dd d_Mch_become 26 rfl) s_Mch_85 (ef_Eng_copyRow hX (isA_of (ax_Mch_5 h_x1)) (isA_of (ax_Mch_5 h_x0)) e9) rfl (by omega) (Nat.le_of_ble_eq_true rfl) ⟨Nat.zero_le _, Nat.zero_le _⟩ rfl ?_
  refine g_aload_n (pc := 57) (dd d_Mch_become 27 rfl) rfl ?_
  refine g_getr (pc := 58) (dd d_Mch_become 28 rfl) f_Mch_21 (oc_Mch h_x1) rfl (rx_Mch_6 hX h_x1) ?_
  refine g_aload_n (pc := 61) (dd d_Mch_become 29 rfl) rfl ?_
  refine g_getr (pc := 62) (dd d_Mch_become 30 rfl) f_Mch_21 (oc_Mch h_x0) rfl (rx_Mch_6 hX h_x0) ?_
  obtain ⟨v10, e11, h⟩ := bnd_e h
  refine g_callSN (pc := 65) (dd d_Mch_become 31 rfl) s_Mch_85 (ef_Eng_copyRow hX (isA_of (ax_Mch_6 h_x1)) (isA_of (ax_Mch_6 h_x0)) e11) rfl (by omega) (Nat.le_of_ble_eq_true rfl) ⟨Nat.zero_le _, Nat.zero_le _⟩ rfl ?_
  refine g_aload_n (pc := 68) (dd d_Mch_become 32 rfl) rfl ?_
  refine g_getr (pc := 69) (dd d_Mch_become 33 rfl) f_Mch_24 (oc_Mch h_x1) rfl (rx_Mch_7 hX h_x1) ?_
  refine g_aload_n (pc := 72) (dd d_Mch_become 34 rfl) rfl ?_
  refine g_getr (pc := 73) (dd d_Mch_become 35 rfl) f_Mch_24 (oc_Mch h_x0) rfl (rx_Mch_7 hX h_x0) ?_
  obtain ⟨v12, e13, h⟩ := bnd_e h
  refine g_callSN (pc := 76) (dd d_Mch_become 36 rfl) s_Mch_85 (ef_Eng_copyRow hX (isA_of (ax_Mch_7 h_x1)) (isA_of (ax_Mch_7 h_x0)) e13) rfl (by omega) (Nat.le_of_ble_eq_true rfl) ⟨Nat.zero_le _, Nat.zero_le _⟩ rfl ?_
  refine g_aload_n (pc := 79) (dd d_Mch_become 37 rfl) rfl ?_
  refine g_getr (pc := 80) (dd d_Mch_become 38 rfl) f_Mch_27 (oc_Mch h_x1) rfl (rx_Mch_8 hX h_x1) ?_
  refine g_aload_n (pc := 83) (dd d_Mch_become 39 rfl) rfl ?_
  refine g_getr (pc := 84) (dd d_Mch_become 40 rfl) f_Mch_27 (oc_Mch h_x0) rfl (rx_Mch_8 hX h_x0) ?_
  obtain ⟨v14, e15, h⟩ := bnd_e h
  refine g_callSN (pc := 87) (dd d_Mch_become 41 rfl) s_Mch_85 (ef_Eng_copyRow hX (isA_of (ax_Mch_8 h_x1)) (isA_of (ax_Mch_8 h_x0)) e15) rfl (by omega) (Nat.le_of_ble_eq_true rfl) ⟨Nat.zero_le _, Nat.zero_le _⟩ rfl ?_
  refine g_aload_n (pc := 90) (dd d_Mch_become 42 rfl) rfl ?_
  refine g_getr (pc := 91) (dd d_Mch_become 43 rfl) f_Mch_30 (oc_Mch h_x1) rfl (rx_Mch_9 hX h_x1) ?_
  refine g_aload_n (pc := 94) (dd d_Mch_become 44 rfl) rfl ?_
  refine g_getr (pc := 95) (dd d_Mch_become 45 rfl) f_Mch_30 (oc_Mch h_x0) rfl (rx_Mch_9 hX h_x0) ?_
  obtain ⟨v16, e17, h⟩ := bnd_e h
  refine g_callSN (pc := 98) (dd d_Mch_become 46 rfl) s_Mch_85 (ef_Eng_copyRow hX (isA_of (ax_Mch_9 h_x1)) (isA_of (ax_Mch_9 h_x0)) e17) rfl (by omega) (Nat.le_of_ble_eq_true rfl) ⟨Nat.zero_le _, Nat.zero_le _⟩ rfl ?_
  refine g_aload_n (pc := 101) (dd d_Mch_become 47 rfl) rfl ?_
  refine g_getr (pc := 102) (dd d_Mch_become 48 rfl) f_Mch_33 (oc_Mch h_x1) rfl (rx_Mch_10 hX h_x1) ?_
  refine g_aload_n (pc := 105) (dd d_Mch_become 49 rfl) rfl ?_
  refine g_getr (pc := 106) (dd d_Mch_become 50 rfl) f_Mch_33 (oc_Mch h_x0) rfl (rx_Mch_10 hX h_x0) ?_
  obtain ⟨v18, e19, h⟩ := bnd_e h
  refine g_callSN (pc := 109) (dd d_Mch_become 51 rfl) s_Mch_85 (ef_Eng_copyRow hX (isA_of (ax_Mch_10 h_x1)) (isA_of (ax_Mch_10 h_x0)) e19) rfl (by omega) (Nat.le_of_ble_eq_true rfl) ⟨Nat.zero_le _, Nat.zero_le _⟩ rfl ?_
  refine g_aload_n (pc := 112) (dd d_Mch_become 52 rfl) rfl ?_
  refine g_getr (pc := 113) (dd d_Mch_become 53 rfl) f_Mch_36 (oc_Mch h_x1) rfl (rx_Mch_11 hX h_x1) ?_
  refine g_aload_n (pc := 116) (dd d_Mch_become 54 rfl) rfl ?_
  refine g_getr (pc := 117) (dd d_Mch_become 55 rfl) f_Mch_36 (oc_Mch h_x0) rfl (rx_Mch_11 hX h_x0) ?_
  obtain ⟨v20, e21, h⟩ := bnd_e h
  refine g_callSN (pc := 120) (dd d_Mch_become 56 rfl) s_Mch_85 (ef_Eng_copyRow hX (isA_of (ax_Mch_11 h_x1)) (isA_of (ax_Mch_11 h_x0)) e21) rfl (by omega) (Nat.le_of_ble_eq_true rfl) ⟨Nat.zero_le _, Nat.zero_le _⟩ rfl ?_
  refine g_aload_n (pc := 123) (dd d_Mch_become 57 rfl) rfl ?_
  refine g_getr (pc := 124) (dd d_Mch_become 58 rfl) f_Mch_39 (oc_Mch h_x1) rfl (rx_Mch_12 hX h_x1) ?_
  refine g_aload_n (pc := 127) (dd d_Mch_become 59 rfl) rfl ?_
  refine g_getr (pc := 128) (dd d_Mch_become_1 0 rfl) f_Mch_39 (oc_Mch h_x0) rfl (rx_Mch_12 hX h_x0) ?_
  obtain ⟨v22, e23, h⟩ := bnd_e h
  refine g_callSN (pc := 131) (dd d_Mch_become_1 1 rfl) s_Mch_85 (ef_Eng_copyRow hX (isA_of (ax_Mch_12 h_x1)) (isA_of (ax_Mch_12 h_x0)) e23) rfl (by omega) (Nat.le_of_ble_eq_true rfl) ⟨Nat.zero_le _, Nat.zero_le _⟩ rfl ?_
  refine g_aload_n (pc := 134) (dd d_Mch_become_1 2 rfl) rfl ?_
  refine g_getr (pc := 135) (dd d_Mch_become_1 3 rfl) f_Mch_42 (oc_Mch h_x1) rfl (rx_Mch_13 hX h_x1) ?_
  refine g_aload_n (pc := 138) (dd d_Mch_become_1 4 rfl) rfl ?_
  refine g_getr (pc := 139) (dd d_Mch_become_1 5 rfl) f_Mch_42 (oc_Mch h_x0) rfl (rx_Mch_13 hX h_x0) ?_
  obtain ⟨v24, e25, h⟩ := bnd_e h
  refine g_callSN (pc := 142) (dd d_Mch_become_1 6 rfl) s_Mch_85 (ef_Eng_copyRow hX (isA_of (ax_Mch_13 h_x1)) (isA_of (ax_Mch_13 h_x0)) e25) rfl (by omega) (Nat.le_of_ble_eq_true rfl) ⟨Nat.zero_le _, Nat.zero_le _⟩ rfl ?_
  refine g_aload_n (pc := 145) (dd d_Mch_become_1 7 rfl) rfl ?_
  refine g_getr (pc := 146) (dd d_Mch_become_1 8 rfl) f_Mch_45 (oc_Mch h_x1) rfl (rx_Mch_14 hX h_x1) ?_
  refine g_aload_n (pc := 149) (dd d_Mch_become_1 9 rfl) rfl ?_
  refine g_getr (pc := 150) (dd d_Mch_become_1 10 rfl) f_Mch_45 (oc_Mch h_x0) rfl (rx_Mch_14 hX h_x0) ?_
  obtain ⟨v26, e27, h⟩ := bnd_e h
  refine g_callSN (pc := 153) (dd d_Mch_become_1 11 rfl) s_Mch_85 (ef_Eng_copyRow hX (isA_of (ax_Mch_14 h_x1)) (isA_of (ax_Mch_14 h_x0)) e27) rfl (by omega) (Nat.le_of_ble_eq_true rfl) ⟨Nat.zero_le _, Nat.zero_le _⟩ rfl ?_
  refine g_aload_n (pc := 156) (dd d_Mch_become_1 12 rfl) rfl ?_
  refine g_getr (pc := 157) (dd d_Mch_become_1 13 rfl) f_Mch_48 (oc_Mch h_x1) rfl (rx_Mch_15 hX h_x1) ?_
  refine g_aload_n (pc := 160) (dd d_Mch_become_1 14 rfl) rfl ?_
  refine g_getr (pc := 161) (dd d_Mch_become_1 15 rfl) f_Mch_48 (oc_Mch h_x0) rfl (rx_Mch_15 hX h_x0) ?_
  obtain ⟨v28, e29, h⟩ := bnd_e h
  refine g_callSN (pc := 164) (dd d_Mch_become_1 16 rfl) s_Mch_85 (ef_Eng_copyRow hX (isA_of (ax_Mch_15 h_x1)) (isA_of (ax_Mch_15 h_x0)) e29) rfl (by omega) (Nat.le_of_ble_eq_true rfl) ⟨Nat.zero_le _, Nat.zero_le _⟩ rfl ?_
  refine g_aload_n (pc := 167) (dd d_Mch_become_1 17 rfl) rfl ?_
  refine g_getr (pc := 168) (dd d_Mch_become_1 18 rfl) f_Mch_51 (oc_Mch h_x1) rfl (rx_Mch_16 hX h_x1) ?_
  refine g_aload_n (pc := 171) (dd d_Mch_become_1 19 rfl) rfl ?_
  refine g_getr (pc := 172) (dd d_Mch_become_1 20 rfl) f_Mch_51 (oc_Mch h_x0) rfl (rx_Mch_16 hX h_x0) ?_
  obtain ⟨v30, e31, h⟩ := bnd_e h
  refine g_callSN (pc := 175) (dd d_Mch_become_1 21 rfl) s_Mch_85 (ef_Eng_copyRow hX (isA_of (ax_Mch_16 h_x1)) (isA_of (ax_Mch_16 h_x0)) e31) rfl (by omega) (Nat.le_of_ble_eq_true rfl) ⟨Nat.zero_le _, Nat.zero_le _⟩ rfl ?_
  refine g_aload_n (pc := 178) (dd d_Mch_become_1 22 rfl) rfl ?_
  refine g_getr (pc := 179) (dd d_Mch_become_1 23 rfl) f_Mch_59 (oc_Mch h_x0) rfl (rx_Mch_17 hX h_x0) ?_
  refine g_aload_n (pc := 182) (dd d_Mch_become_1 24 rfl) rfl ?_
  refine g_getr (pc := 183) (dd d_Mch_become_1 25 rfl) f_Mch_59 (oc_Mch h_x1) rfl (rx_Mch_17 hX h_x1) ?_
  obtain ⟨v32, e33, h⟩ := bnd_e h
  refine g_callV (pc := 186) (dd d_Mch_become_1 26 rfl) v_Mch_89 (oc_Rng (ir_17 h_x0)) rfl (ef_Rng_become hX (ir_17 h_x0) (ir_17 h_x1) e33) rfl (by omega) (Nat.le_of_ble_eq_true rfl) ⟨Nat.zero_le _, Nat.zero_le _⟩ rfl ?_
  refine g_aload_n (pc := 189) (dd d_Mch_become_1 27 rfl) rfl ?_
  refine g_getr (pc := 190) (dd d_Mch_become_1 28 rfl) f_Mch_63 (oc_Mch h_x0) rfl (rx_Mch_18 hX h_x0) ?_
  refine g_aload_n (pc := 193) (dd d_Mch_become_1 29 rfl) rfl ?_
  refine g_getr (pc := 194) (dd d_Mch_become_1 30 rfl) f_Mch_63 (oc_Mch h_x1) rfl (rx_Mch_18 hX h_x1) ?_
  obtain ⟨v34, e35, h⟩ := bnd_e h
  refine g_callV (pc := 197) (dd d_Mch_become_1 31 rfl) v_Mch_89 (oc_Rng (ir_18 h_x0)) rfl (ef_Rng_become hX (ir_18 h_x0) (ir_18 h_x1) e35) rfl (by omega) (Nat.le_of_ble_eq_true rfl) ⟨Nat.zero_le _, Nat.zero_le _⟩ rfl ?_
  cases h
  exact g_vret (pc := 200) rfl (dd d_Mch_become_1 32 rfl) hT
def f_Eng_twin (hd : Nat) (ot : Nat) (I : IM) : Option (IM) := Option.bind (f_Mch_become  ot hd I) fun v1 => some v1
set_option maxRecDepth 20000 in
set_option maxHeartbeats 4000000 in
theorem ef_Eng_twin {Δ : Dx} {X : Lx} {rl hd ot pt it : Nat} (hX : EX Δ X rl hd ot pt it)   {I : IM}  {r : IM} (h : f_Eng_twin hd ot I = some r) : Ev Δ (5) m_Eng_twin [.ref (Δ.ba + 0)] (I, X) none (r, X) := by
  refine ev_of (by decide) (Nat.le_of_ble_eq_true rfl) (fun Γ hk hR hT => ?_)
  change GG Δ m_Eng_twin Γ NN 0 0 (I, X) 0 [some (.ref (Δ.ba + 0))] []
  unfold f_Eng_twin at h
  refine g_aload_n (pc := 0) (dd d_Eng_twin 0 rfl) rfl ?_
  refine g_getr (pc := 1) (dd d_Eng_twin 1 rfl) f_Eng_70 oc_Eng rfl hX.r_ot ?_
  refine g_aload_n (pc := 4) (dd d_Eng_twin 2 rfl) rfl ?_
  refine g_getr (pc := 5) (dd d_Eng_twin 3 rfl) f_Eng_66 oc_Eng rfl hX.r_hd ?_
  obtain ⟨v1, e2, h⟩ := bnd_e h
  refine g_callV (pc := 8) (dd d_Eng_twin 4 rfl) v_Eng_287 (oc_Mch hX.i_ot) rfl (ef_Mch_become hX hX.i_ot hX.i_hd e2) rfl (by omega) (Nat.le_of_ble_eq_true rfl) ⟨Nat.zero_le _, Nat.zero_le _⟩ rfl ?_
  cases h
  exact g_vret (pc := 11) rfl (dd d_Eng_twin 5 rfl) hT
def b_Mch_unlikePlace_36 (n : Nat) (x0 : Nat) (x1 : Nat) (I : IM)   : Option (Int32) := some ((-1))
set_option maxRecDepth 20000 in
set_option maxHeartbeats 4000000 in
theorem gb_Mch_unlikePlace_36 {Δ : Dx} {X : Lx} {rl hd ot pt it : Nat} (hX : EX Δ X rl hd ot pt it) {x0 : Nat} {x1 : Nat} (ha_x0 : isA x0) (ha_x1 : isA x1) {n : Nat} {I : IM} {Γ : Cx} (hk : Γ.k = 0) {r : Int32} (hT : Tg Δ Γ (some (.int r)) NN (I, X) 0 0)   (h : b_Mch_unlikePlace_36 n x0 x1 I   = some r) : GG Δ m_Mch_unlikePlace Γ NN 0 0 (I, X) 36 [none, none, none, none] [] := by
  unfold b_Mch_unlikePlace_36 at h
  refine g_iconst (pc := 36) (v := (-1)) (dd d_Mch_unlikePlace 24 rfl) (by decide) ?_
  cases h
  exact g_iret (pc := 37) rfl (dd d_Mch_unlikePlace 25 rfl) hT
def l_Mch_unlikePlace_2 (n : Nat) (x0 : Nat) (x1 : Nat) (I : IM)  : Nat → Int32 → Int32 → Option (Int32)
  | 0, _, _ => none
  | f + 1, x2, x3 => if x2 ≤ x3 then (b_Mch_unlikePlace_36 n x0 x1 I  ) else (if (Int32.ofNat (lenA x0) : Int32) ≤ x3 then (b_Mch_unlikePlace_36 n x0 x1 I  ) else (if (Int32.ofNat (lenA x1) : Int32) ≤ x3 then (b_Mch_unlikePlace_36 n x0 x1 I  ) else (chk (inb x3 (lenA x0)) <| chk (inb x3 (lenA x1)) <| if (I x0 x3.toNatClampNeg : Int32) = (I x1 x3.toNatClampNeg : Int32) then ((l_Mch_unlikePlace_2 n x0 x1 I  f) x2 (x3 + 1)) else (some (x3)))))
set_option maxRecDepth 20000 in
set_option maxHeartbeats 4000000 in
theorem gl_Mch_unlikePlace_2 {Δ : Dx} {X : Lx} {rl hd ot pt it : Nat} (hX : EX Δ X rl hd ot pt it) {x0 : Nat} {x1 : Nat} (ha_x0 : isA x0) (ha_x1 : isA x1) {n : Nat} {I : IM} {Γ : Cx} (hk : Γ.k = 0) {r : Int32} (hT : Tg Δ Γ (some (.int r)) NN (I, X) 0 0)  : ∀ (f : Nat) (x2 : Int32) (x3 : Int32), l_Mch_unlikePlace_2 n x0 x1 I  f x2 x3 = some r → GG Δ m_Mch_unlikePlace Γ NN 0 0 (I, X) 2 [some (.ref (Δ.ba + x0)), some (.ref (Δ.ba + x1)), some (.int (x2)), some (.int (x3))] []
  | 0, _, _, h => by cases h
  | f + 1, x2, x3, h => by
    have ih := gl_Mch_unlikePlace_2 (n := n) (x0 := x0) (x1 := x1) hX ha_x0 ha_x1 hk hT  f
    rw [l_Mch_unlikePlace_2] at h
    refine g_iload_n (pc := 2) (dd d_Mch_unlikePlace 2 rfl) rfl ?_
    refine g_iload_n (pc := 3) (dd d_Mch_unlikePlace 3 rfl) rfl ?_
    refine g_icmpge (pc := 4) (tgt := 36) (dd d_Mch_unlikePlace 4 rfl) (by decide) (fun q1 => ?_) (fun q1 => ?_)
    · replace h := ite_t h q1
      refine g_drop [0, 1, 2, 3] ?_
      exact gb_Mch_unlikePlace_36 hX ha_x0 ha_x1 hk hT  h
    · replace h := ite_f h q1
      refine g_iload_n (pc := 7) (dd d_Mch_unlikePlace 5 rfl) rfl ?_
      refine g_aload_n (pc := 8) (dd d_Mch_unlikePlace 6 rfl) rfl ?_
      refine g_alen (pc := 9) (t := 0) (dd d_Mch_unlikePlace 7 rfl) ha_x0 rfl rfl ?_
      refine g_icmpge (pc := 10) (tgt := 36) (dd d_Mch_unlikePlace 8 rfl) (by decide) (fun q2 => ?_) (fun q2 => ?_)
      · replace h := ite_t h q2
        refine g_drop [0, 1, 2, 3] ?_
        exact gb_Mch_unlikePlace_36 hX ha_x0 ha_x1 hk hT  h
      · replace h := ite_f h q2
        refine g_iload_n (pc := 13) (dd d_Mch_unlikePlace 9 rfl) rfl ?_
        refine g_aload_n (pc := 14) (dd d_Mch_unlikePlace 10 rfl) rfl ?_
        refine g_alen (pc := 15) (t := 0) (dd d_Mch_unlikePlace 11 rfl) ha_x1 rfl rfl ?_
        refine g_icmpge (pc := 16) (tgt := 36) (dd d_Mch_unlikePlace 12 rfl) (by decide) (fun q3 => ?_) (fun q3 => ?_)
        · replace h := ite_t h q3
          refine g_drop [0, 1, 2, 3] ?_
          exact gb_Mch_unlikePlace_36 hX ha_x0 ha_x1 hk hT  h
        · replace h := ite_f h q3
          refine g_aload_n (pc := 19) (dd d_Mch_unlikePlace 13 rfl) rfl ?_
          refine g_iload_n (pc := 20) (dd d_Mch_unlikePlace 14 rfl) rfl ?_
          obtain ⟨c4, h⟩ := chk_e h
          refine g_iald (pc := 21) (dd d_Mch_unlikePlace 15 rfl) ha_x0 c4 ?_
          refine g_aload_n (pc := 22) (dd d_Mch_unlikePlace 16 rfl) rfl ?_
          refine g_iload_n (pc := 23) (dd d_Mch_unlikePlace 17 rfl) rfl ?_
          obtain ⟨c5, h⟩ := chk_e h
          refine g_iald (pc := 24) (dd d_Mch_unlikePlace 18 rfl) ha_x1 c5 ?_
          refine g_icmpeq (pc := 25) (tgt := 30) (dd d_Mch_unlikePlace 19 rfl) (by decide) (fun q6 => ?_) (fun q6 => ?_)
          · replace h := ite_t h q6
            refine g_iincW (pc := 30) (w := 1) (dd d_Mch_unlikePlace 22 rfl) rfl (by decide) (by decide) ?_
            refine g_goto (pc := 33) (tgt := 2) (dd d_Mch_unlikePlace 23 rfl) (by decide) ?_
            exact ih _ _ h
          · replace h := ite_f h q6
            refine g_iload_n (pc := 28) (dd d_Mch_unlikePlace 20 rfl) rfl ?_
            cases h
            exact g_iret (pc := 29) rfl (dd d_Mch_unlikePlace 21 rfl) hT
def f_Mch_unlikePlace (n : Nat) (x0 : Nat) (x1 : Nat) (x2 : Int32) (I : IM) : Option (Int32) := l_Mch_unlikePlace_2 n x0 x1 I  n x2 0
set_option maxRecDepth 20000 in
set_option maxHeartbeats 4000000 in
theorem ef_Mch_unlikePlace {Δ : Dx} {X : Lx} {rl hd ot pt it : Nat} (hX : EX Δ X rl hd ot pt it) {n : Nat} {x0 : Nat} {x1 : Nat} {x2 : Int32} (ha_x0 : isA x0) (ha_x1 : isA x1) {I : IM}  {r : Int32} (h : f_Mch_unlikePlace n x0 x1 x2 I = some r) : Ev Δ (0) m_Mch_unlikePlace [.ref (Δ.ba + x0), .ref (Δ.ba + x1), .int x2] (I, X) (some (.int r)) (I, X) := by
  refine ev_of (by decide) (Nat.le_of_ble_eq_true rfl) (fun Γ hk hR hT => ?_)
  change GG Δ m_Mch_unlikePlace Γ NN 0 0 (I, X) 0 [some (.ref (Δ.ba + x0)), some (.ref (Δ.ba + x1)), some (.int (x2)), none] []
  unfold f_Mch_unlikePlace at h
  refine g_iconst (pc := 0) (v := 0) (dd d_Mch_unlikePlace 0 rfl) (by decide) ?_
  refine g_istore_n (pc := 1) (dd d_Mch_unlikePlace 1 rfl) (by decide) ?_
  exact gl_Mch_unlikePlace_2 hX ha_x0 ha_x1 hk hT  _ _ _ h
def b_Mch_earlier_10 (I : IM)  (x0 : Int32) (x1 : Int32) : Option (Int32) := some (maxI x0 x1)
set_option maxRecDepth 20000 in
set_option maxHeartbeats 4000000 in
theorem gb_Mch_earlier_10 {Δ : Dx} {X : Lx} {rl hd ot pt it : Nat} (hX : EX Δ X rl hd ot pt it)   {I : IM} {Γ : Cx} (hk : Γ.k = 2) {r : Int32} (hT : Tg Δ Γ (some (.int r)) NN (I, X) 0 0)  {x0 : Int32} {x1 : Int32} (h : b_Mch_earlier_10 I  x0 x1 = some r) : GG Δ m_Mch_earlier Γ NN 0 0 (I, X) 10 [some (.int (x0)), some (.int (x1))] [] := by
  unfold b_Mch_earlier_10 at h
  refine g_iload_n (pc := 10) (dd d_Mch_earlier 6 rfl) rfl ?_
  refine g_iload_n (pc := 11) (dd d_Mch_earlier 7 rfl) rfl ?_
  refine g_mmax (pc := 12) (dd d_Mch_earlier 8 rfl) n_Mch_125 (by omega) (Nat.le_of_ble_eq_true rfl) (Nat.zero_le _) (Nat.zero_le _) ?_
  cases h
  exact g_iret (pc := 15) rfl (dd d_Mch_earlier 9 rfl) hT
def f_Mch_earlier (x0 : Int32) (x1 : Int32) (I : IM) : Option (Int32) := if x0 = ((-1) : Int32) then (b_Mch_earlier_10 I  x0 x1) else (if x1 = ((-1) : Int32) then (b_Mch_earlier_10 I  x0 x1) else (some (minI x0 x1)))
set_option maxRecDepth 20000 in
set_option maxHeartbeats 4000000 in
theorem ef_Mch_earlier {Δ : Dx} {X : Lx} {rl hd ot pt it : Nat} (hX : EX Δ X rl hd ot pt it) {x0 : Int32} {x1 : Int32}  {I : IM}  {r : Int32} (h : f_Mch_earlier x0 x1 I = some r) : Ev Δ (2) m_Mch_earlier [.int x0, .int x1] (I, X) (some (.int r)) (I, X) := by
  refine ev_of (by decide) (Nat.le_of_ble_eq_true rfl) (fun Γ hk hR hT => ?_)
  change GG Δ m_Mch_earlier Γ NN 0 0 (I, X) 0 [some (.int (x0)), some (.int (x1))] []
  unfold f_Mch_earlier at h
  refine g_iload_n (pc := 0) (dd d_Mch_earlier 0 rfl) rfl ?_
  refine g_iconst (pc := 1) (v := (-1)) (dd d_Mch_earlier 1 rfl) (by decide) ?_
  refine g_icmpeq (pc := 2) (tgt := 10) (dd d_Mch_earlier 2 rfl) (by decide) (fun q1 => ?_) (fun q1 => ?_)
  · replace h := ite_t h q1
    exact gb_Mch_earlier_10 hX hk hT  h
  · replace h := ite_f h q1
    refine g_iload_n (pc := 5) (dd d_Mch_earlier 3 rfl) rfl ?_
    refine g_iconst (pc := 6) (v := (-1)) (dd d_Mch_earlier 4 rfl) (by decide) ?_
    refine g_icmpne (pc := 7) (tgt := 16) (dd d_Mch_earlier 5 rfl) (by decide) (fun q2 => ?_) (fun q2 => ?_)
    · replace h := ite_f h q2
      refine g_iload_n (pc := 16) (dd d_Mch_earlier 10 rfl) rfl ?_
      refine g_iload_n (pc := 17) (dd d_Mch_earlier 11 rfl) rfl ?_
      refine g_mminI (pc := 18) (dd d_Mch_earlier 12 rfl) n_Mch_103 (by omega) (Nat.le_of_ble_eq_true rfl) (Nat.zero_le _) (Nat.zero_le _) ?_
      cases h
      exact g_iret (pc := 21) rfl (dd d_Mch_earlier 13 rfl) hT
    · replace h := ite_t h q2
      exact gb_Mch_earlier_10 hX hk hT  h
def f_Mch_unlikeCode (n : Nat) (x0 : Nat) (x1 : Nat) (I : IM) : Option (Int32) := Option.bind (f_Mch_unlikePlace n (x0 + 1) (x1 + 1) 64 I) fun v1 => Option.bind (f_Mch_unlikePlace n (x0 + 2) (x1 + 2) 64 I) fun v3 => Option.bind (f_Mch_earlier  v1 v3 I) fun v5 => some (v5)
set_option maxRecDepth 20000 in
set_option maxHeartbeats 4000000 in
theorem ef_Mch_unlikeCode {Δ : Dx} {X : Lx} {rl hd ot pt it : Nat} (hX : EX Δ X rl hd ot pt it) {n : Nat} {x0 : Nat} {x1 : Nat} (h_x0 : isMch x0) (h_x1 : isMch x1) {I : IM}  {r : Int32} (h : f_Mch_unlikeCode n x0 x1 I = some r) : Ev Δ (3) m_Mch_unlikeCode [.ref (Δ.ba + x0), .ref (Δ.ba + x1)] (I, X) (some (.int r)) (I, X) := by
  refine ev_of (by decide) (Nat.le_of_ble_eq_true rfl) (fun Γ hk hR hT => ?_)
  change GG Δ m_Mch_unlikeCode Γ NN 0 0 (I, X) 0 [some (.ref (Δ.ba + x0)), some (.ref (Δ.ba + x1))] []
  unfold f_Mch_unlikeCode at h
  refine g_aload_n (pc := 0) (dd d_Mch_unlikeCode 0 rfl) rfl ?_
  refine g_getr (pc := 1) (dd d_Mch_unlikeCode 1 rfl) f_Mch_9 (oc_Mch h_x0) rfl (rx_Mch_3 hX h_x0) ?_
  refine g_aload_n (pc := 4) (dd d_Mch_unlikeCode 2 rfl) rfl ?_
  refine g_getr (pc := 5) (dd d_Mch_unlikeCode 3 rfl) f_Mch_9 (oc_Mch h_x1) rfl (rx_Mch_3 hX h_x1) ?_
  refine g_bipush (pc := 8) (v := 64) (dd d_Mch_unlikeCode 4 rfl) (by decide) ?_
  obtain ⟨v1, e2, h⟩ := bnd_e h
  refine g_callS (pc := 10) (dd d_Mch_unlikeCode 5 rfl) s_Mch_114 (ef_Mch_unlikePlace hX (isA_of (ax_Mch_3 h_x0)) (isA_of (ax_Mch_3 h_x1)) e2) rfl (by omega) (Nat.le_of_ble_eq_true rfl) ⟨Nat.zero_le _, Nat.zero_le _⟩ rfl ?_
  refine g_aload_n (pc := 13) (dd d_Mch_unlikeCode 6 rfl) rfl ?_
  refine g_getr (pc := 14) (dd d_Mch_unlikeCode 7 rfl) f_Mch_15 (oc_Mch h_x0) rfl (rx_Mch_4 hX h_x0) ?_
  refine g_aload_n (pc := 17) (dd d_Mch_unlikeCode 8 rfl) rfl ?_
  refine g_getr (pc := 18) (dd d_Mch_unlikeCode 9 rfl) f_Mch_15 (oc_Mch h_x1) rfl (rx_Mch_4 hX h_x1) ?_
  refine g_bipush (pc := 21) (v := 64) (dd d_Mch_unlikeCode 10 rfl) (by decide) ?_
  obtain ⟨v3, e4, h⟩ := bnd_e h
  refine g_callS (pc := 23) (dd d_Mch_unlikeCode 11 rfl) s_Mch_114 (ef_Mch_unlikePlace hX (isA_of (ax_Mch_4 h_x0)) (isA_of (ax_Mch_4 h_x1)) e4) rfl (by omega) (Nat.le_of_ble_eq_true rfl) ⟨Nat.zero_le _, Nat.zero_le _⟩ rfl ?_
  obtain ⟨v5, e6, h⟩ := bnd_e h
  refine g_callS (pc := 26) (dd d_Mch_unlikeCode 12 rfl) s_Mch_118 (ef_Mch_earlier hX e6) rfl (by omega) (Nat.le_of_ble_eq_true rfl) ⟨Nat.zero_le _, Nat.zero_le _⟩ rfl ?_
  cases h
  exact g_iret (pc := 29) rfl (dd d_Mch_unlikeCode 13 rfl) hT
def f_Mch_unlikeWords (n : Nat) (x0 : Nat) (x1 : Nat) (I : IM) : Option (Int32) := Option.bind (f_Mch_unlikePlace n (x0 + 4) (x1 + 4) 96 I) fun v1 => Option.bind (f_Mch_unlikePlace n (x0 + 5) (x1 + 5) 96 I) fun v3 => Option.bind (f_Mch_earlier  v1 v3 I) fun v5 => Option.bind (f_Mch_unlikePlace n (x0 + 3) (x1 + 3) 96 I) fun v7 => Option.bind (f_Mch_earlier  v7 v5 I) fun v9 => some (v9)
set_option maxRecDepth 20000 in
set_option maxHeartbeats 4000000 in
theorem ef_Mch_unlikeWords {Δ : Dx} {X : Lx} {rl hd ot pt it : Nat} (hX : EX Δ X rl hd ot pt it) {n : Nat} {x0 : Nat} {x1 : Nat} (h_x0 : isMch x0) (h_x1 : isMch x1) {I : IM}  {r : Int32} (h : f_Mch_unlikeWords n x0 x1 I = some r) : Ev Δ (3) m_Mch_unlikeWords [.ref (Δ.ba + x0), .ref (Δ.ba + x1)] (I, X) (some (.int r)) (I, X) := by
  refine ev_of (by decide) (Nat.le_of_ble_eq_true rfl) (fun Γ hk hR hT => ?_)
  change GG Δ m_Mch_unlikeWords Γ NN 0 0 (I, X) 0 [some (.ref (Δ.ba + x0)), some (.ref (Δ.ba + x1)), none] []
  unfold f_Mch_unlikeWords at h
  refine g_aload_n (pc := 0) (dd d_Mch_unlikeWords 0 rfl) rfl ?_
  refine g_getr (pc := 1) (dd d_Mch_unlikeWords 1 rfl) f_Mch_21 (oc_Mch h_x0) rfl (rx_Mch_6 hX h_x0) ?_
  refine g_aload_n (pc := 4) (dd d_Mch_unlikeWords 2 rfl) rfl ?_
  refine g_getr (pc := 5) (dd d_Mch_unlikeWords 3 rfl) f_Mch_21 (oc_Mch h_x1) rfl (rx_Mch_6 hX h_x1) ?_
  refine g_bipush (pc := 8) (v := 96) (dd d_Mch_unlikeWords 4 rfl) (by decide) ?_
  obtain ⟨v1, e2, h⟩ := bnd_e h
  refine g_callS (pc := 10) (dd d_Mch_unlikeWords 5 rfl) s_Mch_114 (ef_Mch_unlikePlace hX (isA_of (ax_Mch_6 h_x0)) (isA_of (ax_Mch_6 h_x1)) e2) rfl (by omega) (Nat.le_of_ble_eq_true rfl) ⟨Nat.zero_le _, Nat.zero_le _⟩ rfl ?_
  refine g_aload_n (pc := 13) (dd d_Mch_unlikeWords 6 rfl) rfl ?_
  refine g_getr (pc := 14) (dd d_Mch_unlikeWords 7 rfl) f_Mch_24 (oc_Mch h_x0) rfl (rx_Mch_7 hX h_x0) ?_
  refine g_aload_n (pc := 17) (dd d_Mch_unlikeWords 8 rfl) rfl ?_
  refine g_getr (pc := 18) (dd d_Mch_unlikeWords 9 rfl) f_Mch_24 (oc_Mch h_x1) rfl (rx_Mch_7 hX h_x1) ?_
  refine g_bipush (pc := 21) (v := 96) (dd d_Mch_unlikeWords 10 rfl) (by decide) ?_
  obtain ⟨v3, e4, h⟩ := bnd_e h
  refine g_callS (pc := 23) (dd d_Mch_unlikeWords 11 rfl) s_Mch_114 (ef_Mch_unlikePlace hX (isA_of (ax_Mch_7 h_x0)) (isA_of (ax_Mch_7 h_x1)) e4) rfl (by omega) (Nat.le_of_ble_eq_true rfl) ⟨Nat.zero_le _, Nat.zero_le _⟩ rfl ?_
  obtain ⟨v5, e6, h⟩ := bnd_e h
  refine g_callS (pc := 26) (dd d_Mch_unlikeWords 12 rfl) s_Mch_118 (ef_Mch_earlier hX e6) rfl (by omega) (Nat.le_of_ble_eq_true rfl) ⟨Nat.zero_le _, Nat.zero_le _⟩ rfl ?_
  refine g_istore_n (pc := 29) (dd d_Mch_unlikeWords 13 rfl) (by decide) ?_
  refine g_aload_n (pc := 30) (dd d_Mch_unlikeWords 14 rfl) rfl ?_
  refine g_getr (pc := 31) (dd d_Mch_unlikeWords 15 rfl) f_Mch_18 (oc_Mch h_x0) rfl (rx_Mch_5 hX h_x0) ?_
  refine g_aload_n (pc := 34) (dd d_Mch_unlikeWords 16 rfl) rfl ?_
  refine g_getr (pc := 35) (dd d_Mch_unlikeWords 17 rfl) f_Mch_18 (oc_Mch h_x1) rfl (rx_Mch_5 hX h_x1) ?_
  refine g_bipush (pc := 38) (v := 96) (dd d_Mch_unlikeWords 18 rfl) (by decide) ?_
  obtain ⟨v7, e8, h⟩ := bnd_e h
  refine g_callS (pc := 40) (dd d_Mch_unlikeWords 19 rfl) s_Mch_114 (ef_Mch_unlikePlace hX (isA_of (ax_Mch_5 h_x0)) (isA_of (ax_Mch_5 h_x1)) e8) rfl (by omega) (Nat.le_of_ble_eq_true rfl) ⟨Nat.zero_le _, Nat.zero_le _⟩ rfl ?_
  refine g_iload_n (pc := 43) (dd d_Mch_unlikeWords 20 rfl) rfl ?_
  obtain ⟨v9, e10, h⟩ := bnd_e h
  refine g_callS (pc := 44) (dd d_Mch_unlikeWords 21 rfl) s_Mch_118 (ef_Mch_earlier hX e10) rfl (by omega) (Nat.le_of_ble_eq_true rfl) ⟨Nat.zero_le _, Nat.zero_le _⟩ rfl ?_
  cases h
  exact g_iret (pc := 47) rfl (dd d_Mch_unlikeWords 22 rfl) hT
def f_Mch_unlikeRegisters (n : Nat) (x0 : Nat) (x1 : Nat) (I : IM) : Option (Int32) := Option.bind (f_Mch_unlikePlace n (x0 + 7) (x1 + 7) 9 I) fun v1 => Option.bind (f_Mch_unlikePlace n (x0 + 6) (x1 + 6) 9 I) fun v3 => Option.bind (f_Mch_earlier  v3 v1 I) fun v5 => some (v5)
set_option maxRecDepth 20000 in
set_option maxHeartbeats 4000000 in
theorem ef_Mch_unlikeRegisters {Δ : Dx} {X : Lx} {rl hd ot pt it : Nat} (hX : EX Δ X rl hd ot pt it) {n : Nat} {x0 : Nat} {x1 : Nat} (h_x0 : isMch x0) (h_x1 : isMch x1) {I : IM}  {r : Int32} (h : f_Mch_unlikeRegisters n x0 x1 I = some r) : Ev Δ (3) m_Mch_unlikeRegisters [.ref (Δ.ba + x0), .ref (Δ.ba + x1)] (I, X) (some (.int r)) (I, X) := by
  refine ev_of (by decide) (Nat.le_of_ble_eq_true rfl) (fun Γ hk hR hT => ?_)
  change GG Δ m_Mch_unlikeRegisters Γ NN 0 0 (I, X) 0 [some (.ref (Δ.ba + x0)), some (.ref (Δ.ba + x1)), none] []
  unfold f_Mch_unlikeRegisters at h
  refine g_aload_n (pc := 0) (dd d_Mch_unlikeRegisters 0 rfl) rfl ?_
  refine g_getr (pc := 1) (dd d_Mch_unlikeRegisters 1 rfl) f_Mch_30 (oc_Mch h_x0) rfl (rx_Mch_9 hX h_x0) ?_
  refine g_aload_n (pc := 4) (dd d_Mch_unlikeRegisters 2 rfl) rfl ?_
  refine g_getr (pc := 5) (dd d_Mch_unlikeRegisters 3 rfl) f_Mch_30 (oc_Mch h_x1) rfl (rx_Mch_9 hX h_x1) ?_
  refine g_bipush (pc := 8) (v := 9) (dd d_Mch_unlikeRegisters 4 rfl) (by decide) ?_
  obtain ⟨v1, e2, h⟩ := bnd_e h
  refine g_callS (pc := 10) (dd d_Mch_unlikeRegisters 5 rfl) s_Mch_114 (ef_Mch_unlikePlace hX (isA_of (ax_Mch_9 h_x0)) (isA_of (ax_Mch_9 h_x1)) e2) rfl (by omega) (Nat.le_of_ble_eq_true rfl) ⟨Nat.zero_le _, Nat.zero_le _⟩ rfl ?_
  refine g_istore_n (pc := 13) (dd d_Mch_unlikeRegisters 6 rfl) (by decide) ?_
  refine g_aload_n (pc := 14) (dd d_Mch_unlikeRegisters 7 rfl) rfl ?_
  refine g_getr (pc := 15) (dd d_Mch_unlikeRegisters 8 rfl) f_Mch_27 (oc_Mch h_x0) rfl (rx_Mch_8 hX h_x0) ?_
  refine g_aload_n (pc := 18) (dd d_Mch_unlikeRegisters 9 rfl) rfl ?_
  refine g_getr (pc := 19) (dd d_Mch_unlikeRegisters 10 rfl) f_Mch_27 (oc_Mch h_x1) rfl (rx_Mch_8 hX h_x1) ?_
  refine g_bipush (pc := 22) (v := 9) (dd d_Mch_unlikeRegisters 11 rfl) (by decide) ?_
  obtain ⟨v3, e4, h⟩ := bnd_e h
  refine g_callS (pc := 24) (dd d_Mch_unlikeRegisters 12 rfl) s_Mch_114 (ef_Mch_unlikePlace hX (isA_of (ax_Mch_8 h_x0)) (isA_of (ax_Mch_8 h_x1)) e4) rfl (by omega) (Nat.le_of_ble_eq_true rfl) ⟨Nat.zero_le _, Nat.zero_le _⟩ rfl ?_
  refine g_iload_n (pc := 27) (dd d_Mch_unlikeRegisters 13 rfl) rfl ?_
  obtain ⟨v5, e6, h⟩ := bnd_e h
  refine g_callS (pc := 28) (dd d_Mch_unlikeRegisters 14 rfl) s_Mch_118 (ef_Mch_earlier hX e6) rfl (by omega) (Nat.le_of_ble_eq_true rfl) ⟨Nat.zero_le _, Nat.zero_le _⟩ rfl ?_
  cases h
  exact g_iret (pc := 31) rfl (dd d_Mch_unlikeRegisters 15 rfl) hT
def b_Mch_unlikeOutputs_43 (n : Nat) (x0 : Nat) (x1 : Nat) (I : IM)  (x3 : Int32) : Option (Int32) := some (x3)
set_option maxRecDepth 20000 in
set_option maxHeartbeats 4000000 in
theorem gb_Mch_unlikeOutputs_43 {Δ : Dx} {X : Lx} {rl hd ot pt it : Nat} (hX : EX Δ X rl hd ot pt it) {x0 : Nat} {x1 : Nat} (h_x0 : isMch x0) (h_x1 : isMch x1) {n : Nat} {I : IM} {Γ : Cx} (hk : Γ.k = 3) {r : Int32} (hT : Tg Δ Γ (some (.int r)) NN (I, X) 0 0)  {x3 : Int32} (h : b_Mch_unlikeOutputs_43 n x0 x1 I  x3 = some r) : GG Δ m_Mch_unlikeOutputs Γ NN 0 0 (I, X) 43 [none, none, none, some (.int (x3))] [] := by
  unfold b_Mch_unlikeOutputs_43 at h
  refine g_iload_n (pc := 43) (dd d_Mch_unlikeOutputs 23 rfl) rfl ?_
  cases h
  exact g_iret (pc := 44) rfl (dd d_Mch_unlikeOutputs 24 rfl) hT
def f_Mch_unlikeOutputs (n : Nat) (x0 : Nat) (x1 : Nat) (I : IM) : Option (Int32) := Option.bind (f_Mch_keptOutputs  x0 I) fun v1 => Option.bind (f_Mch_keptOutputs  x1 I) fun v3 => Option.bind (f_Mch_unlikePlace n (x0 + 10) (x1 + 10) (minI v1 v3) I) fun v5 => if v5 = ((-1) : Int32) then (Option.bind (f_Mch_keptOutputs  x0 I) fun v8 => Option.bind (f_Mch_keptOutputs  x1 I) fun v10 => if v8 = v10 then (b_Mch_unlikeOutputs_43 n x0 x1 I  v5) else (some (minI v1 v3))) else (b_Mch_unlikeOutputs_43 n x0 x1 I  v5)
set_option maxRecDepth 20000 in
set_option maxHeartbeats 4000000 in
theorem ef_Mch_unlikeOutputs {Δ : Dx} {X : Lx} {rl hd ot pt it : Nat} (hX : EX Δ X rl hd ot pt it) {n : Nat} {x0 : Nat} {x1 : Nat} (h_x0 : isMch x0) (h_x1 : isMch x1) {I : IM}  {r : Int32} (h : f_Mch_unlikeOutputs n x0 x1 I = some r) : Ev Δ (3) m_Mch_unlikeOutputs [.ref (Δ.ba + x0), .ref (Δ.ba + x1)] (I, X) (some (.int r)) (I, X) := by
  refine ev_of (by decide) (Nat.le_of_ble_eq_true rfl) (fun Γ hk hR hT => ?_)
  change GG Δ m_Mch_unlikeOutputs Γ NN 0 0 (I, X) 0 [some (.ref (Δ.ba + x0)), some (.ref (Δ.ba + x1)), none, none] []
  unfold f_Mch_unlikeOutputs at h
  refine g_aload_n (pc := 0) (dd d_Mch_unlikeOutputs 0 rfl) rfl ?_
  obtain ⟨v1, e2, h⟩ := bnd_e h
  refine g_callV (pc := 1) (dd d_Mch_unlikeOutputs 1 rfl) v_Mch_121 (oc_Mch h_x0) rfl (ef_Mch_keptOutputs hX h_x0 e2) rfl (by omega) (Nat.le_of_ble_eq_true rfl) ⟨Nat.zero_le _, Nat.zero_le _⟩ rfl ?_
  refine g_aload_n (pc := 4) (dd d_Mch_unlikeOutputs 2 rfl) rfl ?_
  obtain ⟨v3, e4, h⟩ := bnd_e h
  refine g_callV (pc := 5) (dd d_Mch_unlikeOutputs 3 rfl) v_Mch_121 (oc_Mch h_x1) rfl (ef_Mch_keptOutputs hX h_x1 e4) rfl (by omega) (Nat.le_of_ble_eq_true rfl) ⟨Nat.zero_le _, Nat.zero_le _⟩ rfl ?_
  refine g_mminI (pc := 8) (dd d_Mch_unlikeOutputs 4 rfl) n_Mch_103 (by omega) (Nat.le_of_ble_eq_true rfl) (Nat.zero_le _) (Nat.zero_le _) ?_
  refine g_istore_n (pc := 11) (dd d_Mch_unlikeOutputs 5 rfl) (by decide) ?_
  refine g_aload_n (pc := 12) (dd d_Mch_unlikeOutputs 6 rfl) rfl ?_
  refine g_getr (pc := 13) (dd d_Mch_unlikeOutputs 7 rfl) f_Mch_39 (oc_Mch h_x0) rfl (rx_Mch_12 hX h_x0) ?_
  refine g_aload_n (pc := 16) (dd d_Mch_unlikeOutputs 8 rfl) rfl ?_
  refine g_getr (pc := 17) (dd d_Mch_unlikeOutputs 9 rfl) f_Mch_39 (oc_Mch h_x1) rfl (rx_Mch_12 hX h_x1) ?_
  refine g_iload_n (pc := 20) (dd d_Mch_unlikeOutputs 10 rfl) rfl ?_
  obtain ⟨v5, e6, h⟩ := bnd_e h
  refine g_callS (pc := 21) (dd d_Mch_unlikeOutputs 11 rfl) s_Mch_114 (ef_Mch_unlikePlace hX (isA_of (ax_Mch_12 h_x0)) (isA_of (ax_Mch_12 h_x1)) e6) rfl (by omega) (Nat.le_of_ble_eq_true rfl) ⟨Nat.zero_le _, Nat.zero_le _⟩ rfl ?_
  refine g_istore_n (pc := 24) (dd d_Mch_unlikeOutputs 12 rfl) (by decide) ?_
  refine g_iload_n (pc := 25) (dd d_Mch_unlikeOutputs 13 rfl) rfl ?_
  refine g_iconst (pc := 26) (v := (-1)) (dd d_Mch_unlikeOutputs 14 rfl) (by decide) ?_
  refine g_icmpne (pc := 27) (tgt := 43) (dd d_Mch_unlikeOutputs 15 rfl) (by decide) (fun q7 => ?_) (fun q7 => ?_)
  · replace h := ite_f h q7
    refine g_drop [0, 1, 2] ?_
    exact gb_Mch_unlikeOutputs_43 hX h_x0 h_x1 hk hT  h
  · replace h := ite_t h q7
    refine g_aload_n (pc := 30) (dd d_Mch_unlikeOutputs 16 rfl) rfl ?_
    obtain ⟨v8, e9, h⟩ := bnd_e h
    refine g_callV (pc := 31) (dd d_Mch_unlikeOutputs 17 rfl) v_Mch_121 (oc_Mch h_x0) rfl (ef_Mch_keptOutputs hX h_x0 e9) rfl (by omega) (Nat.le_of_ble_eq_true rfl) ⟨Nat.zero_le _, Nat.zero_le _⟩ rfl ?_
    refine g_aload_n (pc := 34) (dd d_Mch_unlikeOutputs 18 rfl) rfl ?_
    obtain ⟨v10, e11, h⟩ := bnd_e h
    refine g_callV (pc := 35) (dd d_Mch_unlikeOutputs 19 rfl) v_Mch_121 (oc_Mch h_x1) rfl (ef_Mch_keptOutputs hX h_x1 e11) rfl (by omega) (Nat.le_of_ble_eq_true rfl) ⟨Nat.zero_le _, Nat.zero_le _⟩ rfl ?_
    refine g_icmpeq (pc := 38) (tgt := 43) (dd d_Mch_unlikeOutputs 20 rfl) (by decide) (fun q12 => ?_) (fun q12 => ?_)
    · replace h := ite_t h q12
      refine g_drop [0, 1, 2] ?_
      exact gb_Mch_unlikeOutputs_43 hX h_x0 h_x1 hk hT  h
    · replace h := ite_f h q12
      refine g_iload_n (pc := 41) (dd d_Mch_unlikeOutputs 21 rfl) rfl ?_
      cases h
      exact g_iret (pc := 42) rfl (dd d_Mch_unlikeOutputs 22 rfl) hT
def f_Eng_unlike (n : Nat) (hd : Nat) (ot : Nat) (x1 : Int32) (I : IM) : Option (Int32) := if x1 = 0 then (Option.bind (f_Mch_unlikeCode n hd ot I) fun v2 => some (v2)) else (if x1 = 1 then (Option.bind (f_Mch_unlikeWords n hd ot I) fun v4 => some (v4)) else (if x1 = 2 then (Option.bind (f_Mch_unlikeRegisters n hd ot I) fun v6 => some (v6)) else (if x1 = 3 then (Option.bind (f_Mch_unlikeOutputs n hd ot I) fun v8 => some (v8)) else (none))))
set_option maxRecDepth 20000 in
set_option maxHeartbeats 4000000 in
theorem ef_Eng_unlike {Δ : Dx} {X : Lx} {rl hd ot pt it : Nat} (hX : EX Δ X rl hd ot pt it) {n : Nat} {x1 : Int32}  {I : IM}  {r : Int32} (h : f_Eng_unlike n hd ot x1 I = some r) : Ev Δ (4) m_Eng_unlike [.ref (Δ.ba + 0), .int x1] (I, X) (some (.int r)) (I, X) := by
  refine ev_of (by decide) (Nat.le_of_ble_eq_true rfl) (fun Γ hk hR hT => ?_)
  change GG Δ m_Eng_unlike Γ NN 0 0 (I, X) 0 [some (.ref (Δ.ba + 0)), some (.int (x1))] []
  unfold f_Eng_unlike at h
  refine g_iload_n (pc := 0) (dd d_Eng_unlike 0 rfl) rfl ?_
  refine g_tableC (pc := 1) (dd d_Eng_unlike 1 rfl) (fun i off ho w1 => ?_) (by decide) (fun w1 => ⟨80, by decide, ?_⟩)
  · rcases i with _ | _ | _ | _ | i
    · obtain rfl : off = 31 := (Option.some.inj ho).symm
      refine ⟨32, by decide, ?_⟩
      replace w1 : x1 = 0 := Int32.toInt_inj.mp w1
      replace h := ite_t h w1
      refine g_aload_n (pc := 32) (dd d_Eng_unlike 2 rfl) rfl ?_
      refine g_getr (pc := 33) (dd d_Eng_unlike 3 rfl) f_Eng_66 oc_Eng rfl hX.r_hd ?_
      refine g_aload_n (pc := 36) (dd d_Eng_unlike 4 rfl) rfl ?_
      refine g_getr (pc := 37) (dd d_Eng_unlike 5 rfl) f_Eng_70 oc_Eng rfl hX.r_ot ?_
      obtain ⟨v2, e3, h⟩ := bnd_e h
      refine g_callV (pc := 40) (dd d_Eng_unlike 6 rfl) v_Eng_290 (oc_Mch hX.i_hd) rfl (ef_Mch_unlikeCode hX hX.i_hd hX.i_ot e3) rfl (by omega) (Nat.le_of_ble_eq_true rfl) ⟨Nat.zero_le _, Nat.zero_le _⟩ rfl ?_
      cases h
      exact g_iret (pc := 43) rfl (dd d_Eng_unlike 7 rfl) hT
    · obtain rfl : off = 43 := (Option.some.inj ho).symm
      refine ⟨44, by decide, ?_⟩
      replace w1 : x1 = 1 := Int32.toInt_inj.mp w1
      replace h := ite_f h (by rw [w1]; decide)
      replace h := ite_t h w1
      refine g_aload_n (pc := 44) (dd d_Eng_unlike 8 rfl) rfl ?_
      refine g_getr (pc := 45) (dd d_Eng_unlike 9 rfl) f_Eng_66 oc_Eng rfl hX.r_hd ?_
      refine g_aload_n (pc := 48) (dd d_Eng_unlike 10 rfl) rfl ?_
      refine g_getr (pc := 49) (dd d_Eng_unlike 11 rfl) f_Eng_70 oc_Eng rfl hX.r_ot ?_
      obtain ⟨v4, e5, h⟩ := bnd_e h
      refine g_callV (pc := 52) (dd d_Eng_unlike 12 rfl) v_Eng_294 (oc_Mch hX.i_hd) rfl (ef_Mch_unlikeWords hX hX.i_hd hX.i_ot e5) rfl (by omega) (Nat.le_of_ble_eq_true rfl) ⟨Nat.zero_le _, Nat.zero_le _⟩ rfl ?_
      cases h
      exact g_iret (pc := 55) rfl (dd d_Eng_unlike 13 rfl) hT
    · obtain rfl : off = 55 := (Option.some.inj ho).symm
      refine ⟨56, by decide, ?_⟩
      replace w1 : x1 = 2 := Int32.toInt_inj.mp w1
      replace h := ite_f h (by rw [w1]; decide)
      replace h := ite_f h (by rw [w1]; decide)
      replace h := ite_t h w1
      refine g_aload_n (pc := 56) (dd d_Eng_unlike 14 rfl) rfl ?_
      refine g_getr (pc := 57) (dd d_Eng_unlike 15 rfl) f_Eng_66 oc_Eng rfl hX.r_hd ?_
      refine g_aload_n (pc := 60) (dd d_Eng_unlike 16 rfl) rfl ?_
      refine g_getr (pc := 61) (dd d_Eng_unlike 17 rfl) f_Eng_70 oc_Eng rfl hX.r_ot ?_
      obtain ⟨v6, e7, h⟩ := bnd_e h
      refine g_callV (pc := 64) (dd d_Eng_unlike 18 rfl) v_Eng_297 (oc_Mch hX.i_hd) rfl (ef_Mch_unlikeRegisters hX hX.i_hd hX.i_ot e7) rfl (by omega) (Nat.le_of_ble_eq_true rfl) ⟨Nat.zero_le _, Nat.zero_le _⟩ rfl ?_
      cases h
      exact g_iret (pc := 67) rfl (dd d_Eng_unlike 19 rfl) hT
    · obtain rfl : off = 67 := (Option.some.inj ho).symm
      refine ⟨68, by decide, ?_⟩
      replace w1 : x1 = 3 := Int32.toInt_inj.mp w1
      replace h := ite_f h (by rw [w1]; decide)
      replace h := ite_f h (by rw [w1]; decide)
      replace h := ite_f h (by rw [w1]; decide)
      replace h := ite_t h w1
      refine g_aload_n (pc := 68) (dd d_Eng_unlike 20 rfl) rfl ?_
      refine g_getr (pc := 69) (dd d_Eng_unlike 21 rfl) f_Eng_66 oc_Eng rfl hX.r_hd ?_
      refine g_aload_n (pc := 72) (dd d_Eng_unlike 22 rfl) rfl ?_
      refine g_getr (pc := 73) (dd d_Eng_unlike 23 rfl) f_Eng_70 oc_Eng rfl hX.r_ot ?_
      obtain ⟨v8, e9, h⟩ := bnd_e h
      refine g_callV (pc := 76) (dd d_Eng_unlike 24 rfl) v_Eng_300 (oc_Mch hX.i_hd) rfl (ef_Mch_unlikeOutputs hX hX.i_hd hX.i_ot e9) rfl (by omega) (Nat.le_of_ble_eq_true rfl) ⟨Nat.zero_le _, Nat.zero_le _⟩ rfl ?_
      cases h
      exact g_iret (pc := 79) rfl (dd d_Eng_unlike 25 rfl) hT
    · cases ho
  · skip
    replace w1 : x1.toInt < 0 ∨ 3 < x1.toInt := w1
    replace h := ite_f h (fun e => by rw [e] at w1; revert w1; decide)
    replace h := ite_f h (fun e => by rw [e] at w1; revert w1; decide)
    replace h := ite_f h (fun e => by rw [e] at w1; revert w1; decide)
    replace h := ite_f h (fun e => by rw [e] at w1; revert w1; decide)
    cases h
def b_Rdr_skipBlanks_56 (n : Nat) (H2 : Int32 → IM → Option (IM)) (x1 : Int32) (I : IM) : Option (IM) := lt (up I 1 4 ((I 1 4) + 1)) fun I7 => H2 x1 I7
set_option maxRecDepth 20000 in
set_option maxHeartbeats 4000000 in
theorem gb_Rdr_skipBlanks_56 {Δ : Dx} {X : Lx} {rl hd ot pt it : Nat} (hX : EX Δ X rl hd ot pt it)   {n : Nat} {Γ : Cx} (hk : Γ.k = 0) {r : IM} (hT : Tg Δ Γ none NN (r, X) 0 0) {H2 : Int32 → IM → Option (IM)} (hH2 : ∀ (x1 : Int32) (I : IM), H2 x1 I = some r → GG Δ m_Rdr_skipBlanks Γ NN 0 0 (I, X) 2 [some (.ref (Δ.ba + 1)), some (.int (x1)), none] []) {x1 : Int32} {I : IM} (h : b_Rdr_skipBlanks_56 n H2 x1 I = some r) : GG Δ m_Rdr_skipBlanks Γ NN 0 0 (I, X) 56 [some (.ref (Δ.ba + 1)), some (.int (x1)), none] [] := by
  unfold b_Rdr_skipBlanks_56 at h
  refine g_aload_n (pc := 56) (dd d_Rdr_skipBlanks 31 rfl) rfl ?_
  refine g_dup (pc := 57) (dd d_Rdr_skipBlanks 32 rfl) rfl ?_
  refine g_geti (pc := 58) (dd d_Rdr_skipBlanks 33 rfl) f_Rdr_43 oc_Rdr rfl ?_
  refine g_iconst (pc := 61) (v := 1) (dd d_Rdr_skipBlanks 34 rfl) (by decide) ?_
  refine g_iadd (pc := 62) (dd d_Rdr_skipBlanks 35 rfl) ?_
  refine g_putiN (pc := 63) (dd d_Rdr_skipBlanks 36 rfl) f_Rdr_43 fm_Rdr_4 oc_Rdr rfl (fun I7 hI7 => ?_)
  replace h := lt_e h hI7
  refine g_goto (pc := 66) (tgt := 2) (dd d_Rdr_skipBlanks 37 rfl) (by decide) ?_
  exact hH2 _ _ h
def l_Rdr_skipBlanks_2 (n : Nat)  : Nat → Int32 → IM → Option (IM)
  | 0, _, _ => none
  | f + 1, x1, I => if (I 1 0 : Int32) ≤ (I 1 4 : Int32) then (some I) else (chk (inb (I 1 4) 900) <| if (I 2 (I 1 4 : Int32).toNatClampNeg : Int32) = (10 : Int32) then (b_Rdr_skipBlanks_56 n (l_Rdr_skipBlanks_2 n  f) 0 I) else (if (I 2 (I 1 4 : Int32).toNatClampNeg : Int32) = (35 : Int32) then (b_Rdr_skipBlanks_56 n (l_Rdr_skipBlanks_2 n  f) 1 I) else (if (I 2 (I 1 4 : Int32).toNatClampNeg : Int32) = (32 : Int32) then (b_Rdr_skipBlanks_56 n (l_Rdr_skipBlanks_2 n  f) x1 I) else (if x1 = 0 then (some I) else (b_Rdr_skipBlanks_56 n (l_Rdr_skipBlanks_2 n  f) x1 I)))))
set_option maxRecDepth 20000 in
set_option maxHeartbeats 4000000 in
theorem gl_Rdr_skipBlanks_2 {Δ : Dx} {X : Lx} {rl hd ot pt it : Nat} (hX : EX Δ X rl hd ot pt it)   {n : Nat} {Γ : Cx} (hk : Γ.k = 0) {r : IM} (hT : Tg Δ Γ none NN (r, X) 0 0)  : ∀ (f : Nat) (x1 : Int32) (I : IM), l_Rdr_skipBlanks_2 n  f x1 I = some r → GG Δ m_Rdr_skipBlanks Γ NN 0 0 (I, X) 2 [some (.ref (Δ.ba + 1)), some (.int (x1)), none] []
  | 0, _, _, h => by cases h
  | f + 1, x1, I, h => by
    have ih := gl_Rdr_skipBlanks_2 (n := n) hX hk hT  f
    rw [l_Rdr_skipBlanks_2] at h
    refine g_aload_n (pc := 2) (dd d_Rdr_skipBlanks 2 rfl) rfl ?_
    refine g_geti (pc := 3) (dd d_Rdr_skipBlanks 3 rfl) f_Rdr_43 oc_Rdr rfl ?_
    refine g_aload_n (pc := 6) (dd d_Rdr_skipBlanks 4 rfl) rfl ?_
    refine g_geti (pc := 7) (dd d_Rdr_skipBlanks 5 rfl) f_Rdr_39 oc_Rdr rfl ?_
    refine g_icmpge (pc := 10) (tgt := 69) (dd d_Rdr_skipBlanks 6 rfl) (by decide) (fun q1 => ?_) (fun q1 => ?_)
    · replace h := ite_t h q1
      cases h
      exact g_vret (pc := 69) rfl (dd d_Rdr_skipBlanks 38 rfl) hT
    · replace h := ite_f h q1
      refine g_aload_n (pc := 13) (dd d_Rdr_skipBlanks 7 rfl) rfl ?_
      refine g_getr (pc := 14) (dd d_Rdr_skipBlanks 8 rfl) f_Rdr_9 oc_Rdr rfl (rx_Rdr_6 hX) ?_
      refine g_aload_n (pc := 17) (dd d_Rdr_skipBlanks 9 rfl) rfl ?_
      refine g_geti (pc := 18) (dd d_Rdr_skipBlanks 10 rfl) f_Rdr_43 oc_Rdr rfl ?_
      obtain ⟨c2, h⟩ := chk_e h
      refine g_cald (pc := 21) (dd d_Rdr_skipBlanks 11 rfl) ax_Rdr_6 c2 ?_
      refine g_istore_n (pc := 22) (dd d_Rdr_skipBlanks 12 rfl) (by decide) ?_
      refine g_iload_n (pc := 23) (dd d_Rdr_skipBlanks 13 rfl) rfl ?_
      refine g_bipush (pc := 24) (v := 10) (dd d_Rdr_skipBlanks 14 rfl) (by decide) ?_
      refine g_icmpne (pc := 26) (tgt := 34) (dd d_Rdr_skipBlanks 15 rfl) (by decide) (fun q3 => ?_) (fun q3 => ?_)
      · replace h := ite_f h q3
        refine g_iload_n (pc := 34) (dd d_Rdr_skipBlanks 19 rfl) rfl ?_
        refine g_bipush (pc := 35) (v := 35) (dd d_Rdr_skipBlanks 20 rfl) (by decide) ?_
        refine g_icmpne (pc := 37) (tgt := 45) (dd d_Rdr_skipBlanks 21 rfl) (by decide) (fun q4 => ?_) (fun q4 => ?_)
        · replace h := ite_f h q4
          refine g_iload_n (pc := 45) (dd d_Rdr_skipBlanks 25 rfl) rfl ?_
          refine g_bipush (pc := 46) (v := 32) (dd d_Rdr_skipBlanks 26 rfl) (by decide) ?_
          refine g_icmpeq (pc := 48) (tgt := 56) (dd d_Rdr_skipBlanks 27 rfl) (by decide) (fun q5 => ?_) (fun q5 => ?_)
          · replace h := ite_t h q5
            refine g_drop [2] ?_
            exact gb_Rdr_skipBlanks_56 hX hk hT ih h
          · replace h := ite_f h q5
            refine g_iload_n (pc := 51) (dd d_Rdr_skipBlanks 28 rfl) rfl ?_
            refine g_ifne (pc := 52) (tgt := 56) (dd d_Rdr_skipBlanks 29 rfl) (by decide) (fun q6 => ?_) (fun q6 => ?_)
            · replace h := ite_f h q6
              refine g_drop [2] ?_
              exact gb_Rdr_skipBlanks_56 hX hk hT ih h
            · replace h := ite_t h q6
              cases h
              exact g_vret (pc := 55) rfl (dd d_Rdr_skipBlanks 30 rfl) hT
        · replace h := ite_t h q4
          refine g_iconst (pc := 40) (v := 1) (dd d_Rdr_skipBlanks 22 rfl) (by decide) ?_
          refine g_istore_n (pc := 41) (dd d_Rdr_skipBlanks 23 rfl) (by decide) ?_
          refine g_goto (pc := 42) (tgt := 56) (dd d_Rdr_skipBlanks 24 rfl) (by decide) ?_
          refine g_drop [2] ?_
          exact gb_Rdr_skipBlanks_56 hX hk hT ih h
      · replace h := ite_t h q3
        refine g_iconst (pc := 29) (v := 0) (dd d_Rdr_skipBlanks 16 rfl) (by decide) ?_
        refine g_istore_n (pc := 30) (dd d_Rdr_skipBlanks 17 rfl) (by decide) ?_
        refine g_goto (pc := 31) (tgt := 56) (dd d_Rdr_skipBlanks 18 rfl) (by decide) ?_
        refine g_drop [2] ?_
        exact gb_Rdr_skipBlanks_56 hX hk hT ih h
def f_Rdr_skipBlanks (n : Nat) (I : IM) : Option (IM) := l_Rdr_skipBlanks_2 n  n 0 I
set_option maxRecDepth 20000 in
set_option maxHeartbeats 4000000 in
theorem ef_Rdr_skipBlanks {Δ : Dx} {X : Lx} {rl hd ot pt it : Nat} (hX : EX Δ X rl hd ot pt it) {n : Nat}  {I : IM}  {r : IM} (h : f_Rdr_skipBlanks n I = some r) : Ev Δ (0) m_Rdr_skipBlanks [.ref (Δ.ba + 1)] (I, X) none (r, X) := by
  refine ev_of (by decide) (Nat.le_of_ble_eq_true rfl) (fun Γ hk hR hT => ?_)
  change GG Δ m_Rdr_skipBlanks Γ NN 0 0 (I, X) 0 [some (.ref (Δ.ba + 1)), none, none] []
  unfold f_Rdr_skipBlanks at h
  refine g_iconst (pc := 0) (v := 0) (dd d_Rdr_skipBlanks 0 rfl) (by decide) ?_
  refine g_istore_n (pc := 1) (dd d_Rdr_skipBlanks 1 rfl) (by decide) ?_
  exact gl_Rdr_skipBlanks_2 hX hk hT  _ _ _ h
def f_Rdr_isLetter (x0 : Int32) (I : IM) : Option (Int32) := some (if x0 < (97 : Int32) then 0 else (if (122 : Int32) < x0 then 0 else 1))
set_option maxRecDepth 20000 in
set_option maxHeartbeats 4000000 in
theorem ef_Rdr_isLetter {Δ : Dx} {X : Lx} {rl hd ot pt it : Nat} (hX : EX Δ X rl hd ot pt it) {x0 : Int32}  {I : IM}  {r : Int32} (h : f_Rdr_isLetter x0 I = some r) : Ev Δ (0) m_Rdr_isLetter [.int x0] (I, X) (some (.int r)) (I, X) := by
  refine ev_of (by decide) (Nat.le_of_ble_eq_true rfl) (fun Γ hk hR hT => ?_)
  change GG Δ m_Rdr_isLetter Γ NN 0 0 (I, X) 0 [some (.int (x0))] []
  unfold f_Rdr_isLetter at h
  refine g_iload_n (pc := 0) (dd d_Rdr_isLetter 0 rfl) rfl ?_
  refine g_bipush (pc := 1) (v := 97) (dd d_Rdr_isLetter 1 rfl) (by decide) ?_
  suffices K3 : ∀ z : Int32, z = (if x0 < (97 : Int32) then 0 else (if (122 : Int32) < x0 then 0 else 1) : Int32) → GG Δ m_Rdr_isLetter Γ NN 0 0 (I, X) 17 [some (.int (x0))] [.int (z)] by
    refine g_icmplt (pc := 3) (tgt := 16) (dd d_Rdr_isLetter 2 rfl) (by decide) (fun q1 => ?_) (fun q1 => ?_)
    · skip
      refine g_iconst (pc := 16) (v := 0) (dd d_Rdr_isLetter 8 rfl) (by decide) ?_
      exact K3 _ (by rw [if_pos q1])
    · skip
      refine g_iload_n (pc := 6) (dd d_Rdr_isLetter 3 rfl) rfl ?_
      refine g_bipush (pc := 7) (v := 122) (dd d_Rdr_isLetter 4 rfl) (by decide) ?_
      refine g_icmpgt (pc := 9) (tgt := 16) (dd d_Rdr_isLetter 5 rfl) (by decide) (fun q2 => ?_) (fun q2 => ?_)
      · skip
        refine g_iconst (pc := 16) (v := 0) (dd d_Rdr_isLetter 8 rfl) (by decide) ?_
        exact K3 _ (by rw [if_neg q1, if_pos q2])
      · skip
        refine g_iconst (pc := 12) (v := 1) (dd d_Rdr_isLetter 6 rfl) (by decide) ?_
        refine g_goto (pc := 13) (tgt := 17) (dd d_Rdr_isLetter 7 rfl) (by decide) ?_
        exact K3 _ (by rw [if_neg q1, if_neg q2])
  intro z hz
  subst hz
  cases h
  exact g_zret (pc := 17) rfl (by (repeat' split) <;> first | exact Or.inl rfl | exact Or.inr rfl) (dd d_Rdr_isLetter 9 rfl) hT
def f_Rdr_letterNumber (x0 : Int32) (I : IM) : Option (Int32) := some ((x0 - 97) + 1)
set_option maxRecDepth 20000 in
set_option maxHeartbeats 4000000 in
theorem ef_Rdr_letterNumber {Δ : Dx} {X : Lx} {rl hd ot pt it : Nat} (hX : EX Δ X rl hd ot pt it) {x0 : Int32}  {I : IM}  {r : Int32} (h : f_Rdr_letterNumber x0 I = some r) : Ev Δ (0) m_Rdr_letterNumber [.int x0] (I, X) (some (.int r)) (I, X) := by
  refine ev_of (by decide) (Nat.le_of_ble_eq_true rfl) (fun Γ hk hR hT => ?_)
  change GG Δ m_Rdr_letterNumber Γ NN 0 0 (I, X) 0 [some (.int (x0))] []
  unfold f_Rdr_letterNumber at h
  refine g_iload_n (pc := 0) (dd d_Rdr_letterNumber 0 rfl) rfl ?_
  refine g_bipush (pc := 1) (v := 97) (dd d_Rdr_letterNumber 1 rfl) (by decide) ?_
  refine g_isub (pc := 3) (dd d_Rdr_letterNumber 2 rfl) ?_
  refine g_iconst (pc := 4) (v := 1) (dd d_Rdr_letterNumber 3 rfl) (by decide) ?_
  refine g_iadd (pc := 5) (dd d_Rdr_letterNumber 4 rfl) ?_
  cases h
  exact g_iret (pc := 6) rfl (dd d_Rdr_letterNumber 5 rfl) hT
def b_Rdr_readWord_64 (n : Nat) (J : JM) (H7 : Int32 → Int64 → IM → Option (Int32 × IM)) (x1 : Int32) (x2 : Int64) (I : IM) : Option (Int32 × IM) := lt (up I 1 4 ((I 1 4) + 1)) fun I9 => H7 x1 x2 I9
set_option maxRecDepth 20000 in
set_option maxHeartbeats 4000000 in
theorem gb_Rdr_readWord_64 {Δ : Dx} {X : Lx} {rl hd ot pt it : Nat} (hX : EX Δ X rl hd ot pt it)   {n : Nat} {Γ : Cx} (hk : Γ.k = 1) {r : Int32 × IM} (hT : Tg Δ Γ (some (.int r.1)) NN (r.2, X) 0 0) {H7 : Int32 → Int64 → IM → Option (Int32 × IM)} (hH7 : ∀ (x1 : Int32) (x2 : Int64) (I : IM), H7 x1 x2 I = some r → GG Δ m_Rdr_readWord Γ NN 0 0 (I, X) 7 [some (.ref (Δ.ba + 1)), some (.int (x1)), some (.long (x2)), none, none] []) {x1 : Int32} {x2 : Int64} {I : IM} (h : b_Rdr_readWord_64 n X.1 H7 x1 x2 I = some r) : GG Δ m_Rdr_readWord Γ NN 0 0 (I, X) 64 [some (.ref (Δ.ba + 1)), some (.int (x1)), some (.long (x2)), none, none] [] := by
  unfold b_Rdr_readWord_64 at h
  refine g_aload_n (pc := 64) (dd d_Rdr_readWord 35 rfl) rfl ?_
  refine g_dup (pc := 65) (dd d_Rdr_readWord 36 rfl) rfl ?_
  refine g_geti (pc := 66) (dd d_Rdr_readWord 37 rfl) f_Rdr_43 oc_Rdr rfl ?_
  refine g_iconst (pc := 69) (v := 1) (dd d_Rdr_readWord 38 rfl) (by decide) ?_
  refine g_iadd (pc := 70) (dd d_Rdr_readWord 39 rfl) ?_
  refine g_putiN (pc := 71) (dd d_Rdr_readWord 40 rfl) f_Rdr_43 fm_Rdr_4 oc_Rdr rfl (fun I9 hI9 => ?_)
  replace h := lt_e h hI9
  refine g_goto (pc := 74) (tgt := 7) (dd d_Rdr_readWord 41 rfl) (by decide) ?_
  exact hH7 _ _ _ h
def l_Rdr_readWord_80 (n : Nat) (J : JM)  : Nat → Int64 → Int32 → IM → Option (Int32 × IM)
  | 0, _, _, _ => none
  | f + 1, x2, x4, I => if (50 : Int32) ≤ x4 then (some (102, I)) else (chk (inb x4 50) <| if (lg_cmp (J 6 x4.toNatClampNeg) (x2) : Int32) = 0 then (some (x4, I)) else ((l_Rdr_readWord_80 n J  f) x2 (x4 + 1) I))
set_option maxRecDepth 20000 in
set_option maxHeartbeats 4000000 in
theorem gl_Rdr_readWord_80 {Δ : Dx} {X : Lx} {rl hd ot pt it : Nat} (hX : EX Δ X rl hd ot pt it)   {n : Nat} {Γ : Cx} (hk : Γ.k = 1) {r : Int32 × IM} (hT : Tg Δ Γ (some (.int r.1)) NN (r.2, X) 0 0)  : ∀ (f : Nat) (x2 : Int64) (x4 : Int32) (I : IM), l_Rdr_readWord_80 n X.1  f x2 x4 I = some r → GG Δ m_Rdr_readWord Γ NN 0 0 (I, X) 80 [some (.ref (Δ.ba + 1)), none, some (.long (x2)), none, some (.int (x4))] []
  | 0, _, _, _, h => by cases h
  | f + 1, x2, x4, I, h => by
    have ih := gl_Rdr_readWord_80 (n := n) hX hk hT  f
    rw [l_Rdr_readWord_80] at h
    refine g_iload (pc := 80) (dd d_Rdr_readWord 44 rfl) rfl ?_
    refine g_aload_n (pc := 82) (dd d_Rdr_readWord 45 rfl) rfl ?_
    refine g_getr (pc := 83) (dd d_Rdr_readWord 46 rfl) f_Rdr_25 oc_Rdr rfl (rx_Rdr_10 hX) ?_
    refine g_alen (pc := 86) (t := 1) (v := 50) (dd d_Rdr_readWord 47 rfl) ax_Rdr_10 rfl (by decide) ?_
    refine g_icmpge (pc := 87) (tgt := 111) (dd d_Rdr_readWord 48 rfl) (by decide) (fun q10 => ?_) (fun q10 => ?_)
    · replace h := ite_t h q10
      refine g_bipush (pc := 111) (v := 102) (dd d_Rdr_readWord_1 0 rfl) (by decide) ?_
      cases h
      exact g_iret (pc := 113) rfl (dd d_Rdr_readWord_1 1 rfl) hT
    · replace h := ite_f h q10
      refine g_aload_n (pc := 90) (dd d_Rdr_readWord 49 rfl) rfl ?_
      refine g_getr (pc := 91) (dd d_Rdr_readWord 50 rfl) f_Rdr_25 oc_Rdr rfl (rx_Rdr_10 hX) ?_
      refine g_iload (pc := 94) (dd d_Rdr_readWord 51 rfl) rfl ?_
      obtain ⟨c11, h⟩ := chk_e h
      refine g_lald (pc := 96) (dd d_Rdr_readWord 52 rfl) ax_Rdr_10 c11 ?_
      refine g_lload_n (pc := 97) (dd d_Rdr_readWord 53 rfl) rfl ?_
      refine g_lcmp (pc := 98) (dd d_Rdr_readWord 54 rfl) ?_
      refine g_ifne (pc := 99) (tgt := 105) (dd d_Rdr_readWord 55 rfl) (by decide) (fun q12 => ?_) (fun q12 => ?_)
      · replace h := ite_f h q12
        refine g_iincW (pc := 105) (w := 1) (dd d_Rdr_readWord 58 rfl) rfl (by decide) (by decide) ?_
        refine g_goto (pc := 108) (tgt := 80) (dd d_Rdr_readWord 59 rfl) (by decide) ?_
        exact ih _ _ _ h
      · replace h := ite_t h q12
        refine g_iload (pc := 102) (dd d_Rdr_readWord 56 rfl) rfl ?_
        cases h
        exact g_iret (pc := 104) rfl (dd d_Rdr_readWord 57 rfl) hT
def b_Rdr_readWord_77 (n : Nat) (J : JM)  (x2 : Int64) (I : IM) : Option (Int32 × IM) := l_Rdr_readWord_80 n J  n x2 0 I
set_option maxRecDepth 20000 in
set_option maxHeartbeats 4000000 in
theorem gb_Rdr_readWord_77 {Δ : Dx} {X : Lx} {rl hd ot pt it : Nat} (hX : EX Δ X rl hd ot pt it)   {n : Nat} {Γ : Cx} (hk : Γ.k = 1) {r : Int32 × IM} (hT : Tg Δ Γ (some (.int r.1)) NN (r.2, X) 0 0)  {x2 : Int64} {I : IM} (h : b_Rdr_readWord_77 n X.1  x2 I = some r) : GG Δ m_Rdr_readWord Γ NN 0 0 (I, X) 77 [some (.ref (Δ.ba + 1)), none, some (.long (x2)), none, none] [] := by
  unfold b_Rdr_readWord_77 at h
  refine g_iconst (pc := 77) (v := 0) (dd d_Rdr_readWord 42 rfl) (by decide) ?_
  refine g_istore (pc := 78) (dd d_Rdr_readWord 43 rfl) (by decide) ?_
  exact gl_Rdr_readWord_80 hX hk hT  _ _ _ _ h
def l_Rdr_readWord_7 (n : Nat) (J : JM)  : Nat → Int32 → Int64 → IM → Option (Int32 × IM)
  | 0, _, _, _ => none
  | f + 1, x1, x2, I => if (I 1 0 : Int32) ≤ (I 1 4 : Int32) then (b_Rdr_readWord_77 n J  x2 I) else (chk (inb (I 1 4) 900) <| Option.bind (f_Rdr_isLetter  (I 2 (I 1 4 : Int32).toNatClampNeg) I) fun v3 => if v3 = 0 then (b_Rdr_readWord_77 n J  x2 I) else (if (8 : Int32) < ((I 1 4) - x1 : Int32) then (b_Rdr_readWord_64 n J (l_Rdr_readWord_7 n J  f) x1 x2 I) else (Option.bind (f_Rdr_letterNumber  (I 2 (I 1 4 : Int32).toNatClampNeg) I) fun v7 => b_Rdr_readWord_64 n J (l_Rdr_readWord_7 n J  f) x1 (((x2) * (32)) + ((v7).toInt64)) I)))
set_option maxRecDepth 20000 in
set_option maxHeartbeats 4000000 in
theorem gl_Rdr_readWord_7 {Δ : Dx} {X : Lx} {rl hd ot pt it : Nat} (hX : EX Δ X rl hd ot pt it)   {n : Nat} {Γ : Cx} (hk : Γ.k = 1) {r : Int32 × IM} (hT : Tg Δ Γ (some (.int r.1)) NN (r.2, X) 0 0)  : ∀ (f : Nat) (x1 : Int32) (x2 : Int64) (I : IM), l_Rdr_readWord_7 n X.1  f x1 x2 I = some r → GG Δ m_Rdr_readWord Γ NN 0 0 (I, X) 7 [some (.ref (Δ.ba + 1)), some (.int (x1)), some (.long (x2)), none, none] []
  | 0, _, _, _, h => by cases h
  | f + 1, x1, x2, I, h => by
    have ih := gl_Rdr_readWord_7 (n := n) hX hk hT  f
    rw [l_Rdr_readWord_7] at h
    refine g_aload_n (pc := 7) (dd d_Rdr_readWord 5 rfl) rfl ?_
    refine g_geti (pc := 8) (dd d_Rdr_readWord 6 rfl) f_Rdr_43 oc_Rdr rfl ?_
    refine g_aload_n (pc := 11) (dd d_Rdr_readWord 7 rfl) rfl ?_
    refine g_geti (pc := 12) (dd d_Rdr_readWord 8 rfl) f_Rdr_39 oc_Rdr rfl ?_
    refine g_icmpge (pc := 15) (tgt := 77) (dd d_Rdr_readWord 9 rfl) (by decide) (fun q1 => ?_) (fun q1 => ?_)
    · replace h := ite_t h q1
      refine g_drop [1] ?_
      exact gb_Rdr_readWord_77 hX hk hT  h
    · replace h := ite_f h q1
      refine g_aload_n (pc := 18) (dd d_Rdr_readWord 10 rfl) rfl ?_
      refine g_getr (pc := 19) (dd d_Rdr_readWord 11 rfl) f_Rdr_9 oc_Rdr rfl (rx_Rdr_6 hX) ?_
      refine g_aload_n (pc := 22) (dd d_Rdr_readWord 12 rfl) rfl ?_
      refine g_geti (pc := 23) (dd d_Rdr_readWord 13 rfl) f_Rdr_43 oc_Rdr rfl ?_
      obtain ⟨c2, h⟩ := chk_e h
      refine g_cald (pc := 26) (dd d_Rdr_readWord 14 rfl) ax_Rdr_6 c2 ?_
      obtain ⟨v3, e4, h⟩ := bnd_e h
      refine g_callS (pc := 27) (dd d_Rdr_readWord 15 rfl) s_Rdr_68 (ef_Rdr_isLetter hX e4) rfl (by omega) (Nat.le_of_ble_eq_true rfl) ⟨Nat.zero_le _, Nat.zero_le _⟩ rfl ?_
      refine g_ifeq (pc := 30) (tgt := 77) (dd d_Rdr_readWord 16 rfl) (by decide) (fun q5 => ?_) (fun q5 => ?_)
      · replace h := ite_t h q5
        refine g_drop [1] ?_
        exact gb_Rdr_readWord_77 hX hk hT  h
      · replace h := ite_f h q5
        refine g_aload_n (pc := 33) (dd d_Rdr_readWord 17 rfl) rfl ?_
        refine g_geti (pc := 34) (dd d_Rdr_readWord 18 rfl) f_Rdr_43 oc_Rdr rfl ?_
        refine g_iload_n (pc := 37) (dd d_Rdr_readWord 19 rfl) rfl ?_
        refine g_isub (pc := 38) (dd d_Rdr_readWord 20 rfl) ?_
        refine g_bipush (pc := 39) (v := 8) (dd d_Rdr_readWord 21 rfl) (by decide) ?_
        refine g_icmpgt (pc := 41) (tgt := 64) (dd d_Rdr_readWord 22 rfl) (by decide) (fun q6 => ?_) (fun q6 => ?_)
        · replace h := ite_t h q6
          exact gb_Rdr_readWord_64 hX hk hT ih h
        · replace h := ite_f h q6
          refine g_lload_n (pc := 44) (dd d_Rdr_readWord 23 rfl) rfl ?_
          refine g_ldc2 (pc := 45) (dd d_Rdr_readWord 24 rfl) c_Rdr_85 ?_
          refine g_lmul (pc := 48) (dd d_Rdr_readWord 25 rfl) ?_
          refine g_aload_n (pc := 49) (dd d_Rdr_readWord 26 rfl) rfl ?_
          refine g_getr (pc := 50) (dd d_Rdr_readWord 27 rfl) f_Rdr_9 oc_Rdr rfl (rx_Rdr_6 hX) ?_
          refine g_aload_n (pc := 53) (dd d_Rdr_readWord 28 rfl) rfl ?_
          refine g_geti (pc := 54) (dd d_Rdr_readWord 29 rfl) f_Rdr_43 oc_Rdr rfl ?_
          refine g_cald (pc := 57) (dd d_Rdr_readWord 30 rfl) ax_Rdr_6 c2 ?_
          obtain ⟨v7, e8, h⟩ := bnd_e h
          refine g_callS (pc := 58) (dd d_Rdr_readWord 31 rfl) s_Rdr_87 (ef_Rdr_letterNumber hX e8) rfl (by omega) (Nat.le_of_ble_eq_true rfl) ⟨Nat.zero_le _, Nat.zero_le _⟩ rfl ?_
          refine g_i2l (pc := 61) (dd d_Rdr_readWord 32 rfl) ?_
          refine g_ladd (pc := 62) (dd d_Rdr_readWord 33 rfl) ?_
          refine g_lstore_n (pc := 63) (dd d_Rdr_readWord 34 rfl) (by decide) ?_
          exact gb_Rdr_readWord_64 hX hk hT ih h
def f_Rdr_readWord (n : Nat) (J : JM) (I : IM) : Option (Int32 × IM) := l_Rdr_readWord_7 n J  n (I 1 4) 0 I
set_option maxRecDepth 20000 in
set_option maxHeartbeats 4000000 in
theorem ef_Rdr_readWord {Δ : Dx} {X : Lx} {rl hd ot pt it : Nat} (hX : EX Δ X rl hd ot pt it) {n : Nat}  {I : IM}  {r : Int32 × IM} (h : f_Rdr_readWord n X.1 I = some r) : Ev Δ (1) m_Rdr_readWord [.ref (Δ.ba + 1)] (I, X) (some (.int r.1)) (r.2, X) := by
  refine ev_of (by decide) (Nat.le_of_ble_eq_true rfl) (fun Γ hk hR hT => ?_)
  change GG Δ m_Rdr_readWord Γ NN 0 0 (I, X) 0 [some (.ref (Δ.ba + 1)), none, none, none, none] []
  unfold f_Rdr_readWord at h
  refine g_aload_n (pc := 0) (dd d_Rdr_readWord 0 rfl) rfl ?_
  refine g_geti (pc := 1) (dd d_Rdr_readWord 1 rfl) f_Rdr_43 oc_Rdr rfl ?_
  refine g_istore_n (pc := 4) (dd d_Rdr_readWord 2 rfl) (by decide) ?_
  refine g_lconst (pc := 5) (v := 0) (dd d_Rdr_readWord 3 rfl) (by decide) ?_
  refine g_lstore_n (pc := 6) (dd d_Rdr_readWord 4 rfl) (by decide) ?_
  exact gl_Rdr_readWord_7 hX hk hT  _ _ _ _ h
def f_Rdr_isDigit (x0 : Int32) (I : IM) : Option (Int32) := some (if x0 < (48 : Int32) then 0 else (if (57 : Int32) < x0 then 0 else 1))
set_option maxRecDepth 20000 in
set_option maxHeartbeats 4000000 in
theorem ef_Rdr_isDigit {Δ : Dx} {X : Lx} {rl hd ot pt it : Nat} (hX : EX Δ X rl hd ot pt it) {x0 : Int32}  {I : IM}  {r : Int32} (h : f_Rdr_isDigit x0 I = some r) : Ev Δ (0) m_Rdr_isDigit [.int x0] (I, X) (some (.int r)) (I, X) := by
  refine ev_of (by decide) (Nat.le_of_ble_eq_true rfl) (fun Γ hk hR hT => ?_)
  change GG Δ m_Rdr_isDigit Γ NN 0 0 (I, X) 0 [some (.int (x0))] []
  unfold f_Rdr_isDigit at h
  refine g_iload_n (pc := 0) (dd d_Rdr_isDigit 0 rfl) rfl ?_
  refine g_bipush (pc := 1) (v := 48) (dd d_Rdr_isDigit 1 rfl) (by decide) ?_
  suffices K3 : ∀ z : Int32, z = (if x0 < (48 : Int32) then 0 else (if (57 : Int32) < x0 then 0 else 1) : Int32) → GG Δ m_Rdr_isDigit Γ NN 0 0 (I, X) 17 [some (.int (x0))] [.int (z)] by
    refine g_icmplt (pc := 3) (tgt := 16) (dd d_Rdr_isDigit 2 rfl) (by decide) (fun q1 => ?_) (fun q1 => ?_)
    · skip
      refine g_iconst (pc := 16) (v := 0) (dd d_Rdr_isDigit 8 rfl) (by decide) ?_
      exact K3 _ (by rw [if_pos q1])
    · skip
      refine g_iload_n (pc := 6) (dd d_Rdr_isDigit 3 rfl) rfl ?_
      refine g_bipush (pc := 7) (v := 57) (dd d_Rdr_isDigit 4 rfl) (by decide) ?_
      refine g_icmpgt (pc := 9) (tgt := 16) (dd d_Rdr_isDigit 5 rfl) (by decide) (fun q2 => ?_) (fun q2 => ?_)
      · skip
        refine g_iconst (pc := 16) (v := 0) (dd d_Rdr_isDigit 8 rfl) (by decide) ?_
        exact K3 _ (by rw [if_neg q1, if_pos q2])
      · skip
        refine g_iconst (pc := 12) (v := 1) (dd d_Rdr_isDigit 6 rfl) (by decide) ?_
        refine g_goto (pc := 13) (tgt := 17) (dd d_Rdr_isDigit 7 rfl) (by decide) ?_
        exact K3 _ (by rw [if_neg q1, if_neg q2])
  intro z hz
  subst hz
  cases h
  exact g_zret (pc := 17) rfl (by (repeat' split) <;> first | exact Or.inl rfl | exact Or.inr rfl) (dd d_Rdr_isDigit 9 rfl) hT
def b_Rdr_readNumber_71 (n : Nat) (H10 : Int32 → IM → Option (Int32 × IM)) (x1 : Int32) (I : IM) : Option (Int32 × IM) := lt (up I 1 4 ((I 1 4) + 1)) fun I9 => H10 x1 I9
set_option maxRecDepth 20000 in
set_option maxHeartbeats 4000000 in
theorem gb_Rdr_readNumber_71 {Δ : Dx} {X : Lx} {rl hd ot pt it : Nat} (hX : EX Δ X rl hd ot pt it)   {n : Nat} {Γ : Cx} (hk : Γ.k = 1) {r : Int32 × IM} (hT : Tg Δ Γ (some (.int r.1)) NN (r.2, X) 0 0) {H10 : Int32 → IM → Option (Int32 × IM)} (hH10 : ∀ (x1 : Int32) (I : IM), H10 x1 I = some r → GG Δ m_Rdr_readNumber Γ NN 0 0 (I, X) 10 [some (.ref (Δ.ba + 1)), some (.int (x1))] []) {x1 : Int32} {I : IM} (h : b_Rdr_readNumber_71 n H10 x1 I = some r) : GG Δ m_Rdr_readNumber Γ NN 0 0 (I, X) 71 [some (.ref (Δ.ba + 1)), some (.int (x1))] [] := by
  unfold b_Rdr_readNumber_71 at h
  refine g_aload_n (pc := 71) (dd d_Rdr_readNumber 38 rfl) rfl ?_
  refine g_dup (pc := 72) (dd d_Rdr_readNumber 39 rfl) rfl ?_
  refine g_geti (pc := 73) (dd d_Rdr_readNumber 40 rfl) f_Rdr_43 oc_Rdr rfl ?_
  refine g_iconst (pc := 76) (v := 1) (dd d_Rdr_readNumber 41 rfl) (by decide) ?_
  refine g_iadd (pc := 77) (dd d_Rdr_readNumber 42 rfl) ?_
  refine g_putiN (pc := 78) (dd d_Rdr_readNumber 43 rfl) f_Rdr_43 fm_Rdr_4 oc_Rdr rfl (fun I9 hI9 => ?_)
  replace h := lt_e h hI9
  refine g_goto (pc := 81) (tgt := 10) (dd d_Rdr_readNumber 44 rfl) (by decide) ?_
  exact hH10 _ _ h
def b_Rdr_readNumber_84 (n : Nat)  (x1 : Int32) (I : IM) : Option (Int32 × IM) := some (if ((I 1 4) - x1 : Int32) ≤ (7 : Int32) then 101 else 102, I)
set_option maxRecDepth 20000 in
set_option maxHeartbeats 4000000 in
theorem gb_Rdr_readNumber_84 {Δ : Dx} {X : Lx} {rl hd ot pt it : Nat} (hX : EX Δ X rl hd ot pt it)   {n : Nat} {Γ : Cx} (hk : Γ.k = 1) {r : Int32 × IM} (hT : Tg Δ Γ (some (.int r.1)) NN (r.2, X) 0 0)  {x1 : Int32} {I : IM} (h : b_Rdr_readNumber_84 n  x1 I = some r) : GG Δ m_Rdr_readNumber Γ NN 0 0 (I, X) 84 [some (.ref (Δ.ba + 1)), some (.int (x1))] [] := by
  unfold b_Rdr_readNumber_84 at h
  refine g_aload_n (pc := 84) (dd d_Rdr_readNumber 45 rfl) rfl ?_
  refine g_geti (pc := 85) (dd d_Rdr_readNumber 46 rfl) f_Rdr_43 oc_Rdr rfl ?_
  refine g_iload_n (pc := 88) (dd d_Rdr_readNumber 47 rfl) rfl ?_
  refine g_isub (pc := 89) (dd d_Rdr_readNumber 48 rfl) ?_
  refine g_bipush (pc := 90) (v := 7) (dd d_Rdr_readNumber 49 rfl) (by decide) ?_
  suffices K92 : ∀ z : Int32, z = (if ((I 1 4) - x1 : Int32) ≤ (7 : Int32) then 101 else 102 : Int32) → GG Δ m_Rdr_readNumber Γ NN 0 0 (I, X) 102 [some (.ref (Δ.ba + 1)), some (.int (x1))] [.int (z)] by
    refine g_icmple (pc := 92) (tgt := 100) (dd d_Rdr_readNumber 50 rfl) (by decide) (fun q10 => ?_) (fun q10 => ?_)
    · skip
      refine g_bipush (pc := 100) (v := 101) (dd d_Rdr_readNumber 53 rfl) (by decide) ?_
      exact K92 _ (by rw [if_pos q10])
    · skip
      refine g_bipush (pc := 95) (v := 102) (dd d_Rdr_readNumber 51 rfl) (by decide) ?_
      refine g_goto (pc := 97) (tgt := 102) (dd d_Rdr_readNumber 52 rfl) (by decide) ?_
      exact K92 _ (by rw [if_neg q10])
  intro z hz
  subst hz
  cases h
  exact g_iret (pc := 102) rfl (dd d_Rdr_readNumber 54 rfl) hT
def l_Rdr_readNumber_10 (n : Nat)  : Nat → Int32 → IM → Option (Int32 × IM)
  | 0, _, _ => none
  | f + 1, x1, I => if (I 1 0 : Int32) ≤ (I 1 4 : Int32) then (b_Rdr_readNumber_84 n  x1 I) else (chk (inb (I 1 4) 900) <| Option.bind (f_Rdr_isDigit  (I 2 (I 1 4 : Int32).toNatClampNeg) I) fun v4 => if v4 = 0 then (b_Rdr_readNumber_84 n  x1 I) else (if (7 : Int32) ≤ ((I 1 4) - x1 : Int32) then (b_Rdr_readNumber_71 n (l_Rdr_readNumber_10 n  f) x1 I) else (lt (up I 1 3 (((I 1 3) * 10) + ((I 2 (I 1 4 : Int32).toNatClampNeg) - 48))) fun I8 => b_Rdr_readNumber_71 n (l_Rdr_readNumber_10 n  f) x1 I8)))
set_option maxRecDepth 20000 in
set_option maxHeartbeats 4000000 in
theorem gl_Rdr_readNumber_10 {Δ : Dx} {X : Lx} {rl hd ot pt it : Nat} (hX : EX Δ X rl hd ot pt it)   {n : Nat} {Γ : Cx} (hk : Γ.k = 1) {r : Int32 × IM} (hT : Tg Δ Γ (some (.int r.1)) NN (r.2, X) 0 0)  : ∀ (f : Nat) (x1 : Int32) (I : IM), l_Rdr_readNumber_10 n  f x1 I = some r → GG Δ m_Rdr_readNumber Γ NN 0 0 (I, X) 10 [some (.ref (Δ.ba + 1)), some (.int (x1))] []
  | 0, _, _, h => by cases h
  | f + 1, x1, I, h => by
    have ih := gl_Rdr_readNumber_10 (n := n) hX hk hT  f
    rw [l_Rdr_readNumber_10] at h
    refine g_aload_n (pc := 10) (dd d_Rdr_readNumber 6 rfl) rfl ?_
    refine g_geti (pc := 11) (dd d_Rdr_readNumber 7 rfl) f_Rdr_43 oc_Rdr rfl ?_
    refine g_aload_n (pc := 14) (dd d_Rdr_readNumber 8 rfl) rfl ?_
    refine g_geti (pc := 15) (dd d_Rdr_readNumber 9 rfl) f_Rdr_39 oc_Rdr rfl ?_
    refine g_icmpge (pc := 18) (tgt := 84) (dd d_Rdr_readNumber 10 rfl) (by decide) (fun q2 => ?_) (fun q2 => ?_)
    · replace h := ite_t h q2
      exact gb_Rdr_readNumber_84 hX hk hT  h
    · replace h := ite_f h q2
      refine g_aload_n (pc := 21) (dd d_Rdr_readNumber 11 rfl) rfl ?_
      refine g_getr (pc := 22) (dd d_Rdr_readNumber 12 rfl) f_Rdr_9 oc_Rdr rfl (rx_Rdr_6 hX) ?_
      refine g_aload_n (pc := 25) (dd d_Rdr_readNumber 13 rfl) rfl ?_
      refine g_geti (pc := 26) (dd d_Rdr_readNumber 14 rfl) f_Rdr_43 oc_Rdr rfl ?_
      obtain ⟨c3, h⟩ := chk_e h
      refine g_cald (pc := 29) (dd d_Rdr_readNumber 15 rfl) ax_Rdr_6 c3 ?_
      obtain ⟨v4, e5, h⟩ := bnd_e h
      refine g_callS (pc := 30) (dd d_Rdr_readNumber 16 rfl) s_Rdr_75 (ef_Rdr_isDigit hX e5) rfl (by omega) (Nat.le_of_ble_eq_true rfl) ⟨Nat.zero_le _, Nat.zero_le _⟩ rfl ?_
      refine g_ifeq (pc := 33) (tgt := 84) (dd d_Rdr_readNumber 17 rfl) (by decide) (fun q6 => ?_) (fun q6 => ?_)
      · replace h := ite_t h q6
        exact gb_Rdr_readNumber_84 hX hk hT  h
      · replace h := ite_f h q6
        refine g_aload_n (pc := 36) (dd d_Rdr_readNumber 18 rfl) rfl ?_
        refine g_geti (pc := 37) (dd d_Rdr_readNumber 19 rfl) f_Rdr_43 oc_Rdr rfl ?_
        refine g_iload_n (pc := 40) (dd d_Rdr_readNumber 20 rfl) rfl ?_
        refine g_isub (pc := 41) (dd d_Rdr_readNumber 21 rfl) ?_
        refine g_bipush (pc := 42) (v := 7) (dd d_Rdr_readNumber 22 rfl) (by decide) ?_
        refine g_icmpge (pc := 44) (tgt := 71) (dd d_Rdr_readNumber 23 rfl) (by decide) (fun q7 => ?_) (fun q7 => ?_)
        · replace h := ite_t h q7
          exact gb_Rdr_readNumber_71 hX hk hT ih h
        · replace h := ite_f h q7
          refine g_aload_n (pc := 47) (dd d_Rdr_readNumber 24 rfl) rfl ?_
          refine g_aload_n (pc := 48) (dd d_Rdr_readNumber 25 rfl) rfl ?_
          refine g_geti (pc := 49) (dd d_Rdr_readNumber 26 rfl) f_Rdr_53 oc_Rdr rfl ?_
          refine g_bipush (pc := 52) (v := 10) (dd d_Rdr_readNumber 27 rfl) (by decide) ?_
          refine g_imul (pc := 54) (dd d_Rdr_readNumber 28 rfl) ?_
          refine g_aload_n (pc := 55) (dd d_Rdr_readNumber 29 rfl) rfl ?_
          refine g_getr (pc := 56) (dd d_Rdr_readNumber 30 rfl) f_Rdr_9 oc_Rdr rfl (rx_Rdr_6 hX) ?_
          refine g_aload_n (pc := 59) (dd d_Rdr_readNumber 31 rfl) rfl ?_
          refine g_geti (pc := 60) (dd d_Rdr_readNumber 32 rfl) f_Rdr_43 oc_Rdr rfl ?_
          refine g_cald (pc := 63) (dd d_Rdr_readNumber 33 rfl) ax_Rdr_6 c3 ?_
          refine g_bipush (pc := 64) (v := 48) (dd d_Rdr_readNumber 34 rfl) (by decide) ?_
          refine g_isub (pc := 66) (dd d_Rdr_readNumber 35 rfl) ?_
          refine g_iadd (pc := 67) (dd d_Rdr_readNumber 36 rfl) ?_
          refine g_putiN (pc := 68) (dd d_Rdr_readNumber 37 rfl) f_Rdr_53 fm_Rdr_3 oc_Rdr rfl (fun I8 hI8 => ?_)
          replace h := lt_e h hI8
          exact gb_Rdr_readNumber_71 hX hk hT ih h
def f_Rdr_readNumber (n : Nat) (I : IM) : Option (Int32 × IM) := lt (up I 1 3 (0)) fun I1 => l_Rdr_readNumber_10 n  n (I 1 4) I1
set_option maxRecDepth 20000 in
set_option maxHeartbeats 4000000 in
theorem ef_Rdr_readNumber {Δ : Dx} {X : Lx} {rl hd ot pt it : Nat} (hX : EX Δ X rl hd ot pt it) {n : Nat}  {I : IM}  {r : Int32 × IM} (h : f_Rdr_readNumber n I = some r) : Ev Δ (1) m_Rdr_readNumber [.ref (Δ.ba + 1)] (I, X) (some (.int r.1)) (r.2, X) := by
  refine ev_of (by decide) (Nat.le_of_ble_eq_true rfl) (fun Γ hk hR hT => ?_)
  change GG Δ m_Rdr_readNumber Γ NN 0 0 (I, X) 0 [some (.ref (Δ.ba + 1)), none] []
  unfold f_Rdr_readNumber at h
  refine g_aload_n (pc := 0) (dd d_Rdr_readNumber 0 rfl) rfl ?_
  refine g_geti (pc := 1) (dd d_Rdr_readNumber 1 rfl) f_Rdr_43 oc_Rdr rfl ?_
  refine g_istore_n (pc := 4) (dd d_Rdr_readNumber 2 rfl) (by decide) ?_
  refine g_aload_n (pc := 5) (dd d_Rdr_readNumber 3 rfl) rfl ?_
  refine g_iconst (pc := 6) (v := 0) (dd d_Rdr_readNumber 4 rfl) (by decide) ?_
  refine g_putiN (pc := 7) (dd d_Rdr_readNumber 5 rfl) f_Rdr_53 fm_Rdr_3 oc_Rdr rfl (fun I1 hI1 => ?_)
  replace h := lt_e h hI1
  exact gl_Rdr_readNumber_10 hX hk hT  _ _ _ h
def b_Rdr_readSign_79   (x1 : Int32) (I : IM) : Option (Int32 × IM) := chk (¬ x1 < 0) <| chk (¬ (255 : Int32) < x1) <| some (if (ixL bs_sg (x1).toInt8.toInt32 0 : Int32) < 0 then 102 else ((128) + (x1)), I)
set_option maxRecDepth 20000 in
set_option maxHeartbeats 4000000 in
theorem gb_Rdr_readSign_79 {Δ : Dx} {X : Lx} {rl hd ot pt it : Nat} (hX : EX Δ X rl hd ot pt it)    {Γ : Cx} (hk : Γ.k = 5) {r : Int32 × IM} (hT : Tg Δ Γ (some (.int r.1)) NN (r.2, X) 0 0)  {x1 : Int32} {I : IM} (h : b_Rdr_readSign_79   x1 I = some r) : GG Δ m_Rdr_readSign Γ NN 0 0 (I, X) 79 [none, some (.int (x1)), none] [] := by
  unfold b_Rdr_readSign_79 at h
  refine g_ldcS (pc := 79) (dd d_Rdr_readSign 43 rfl) sr_sg sf_sg_0 ?_
  refine g_iload_n (pc := 81) (dd d_Rdr_readSign 44 rfl) rfl ?_
  obtain ⟨c10, h⟩ := chk_e h
  obtain ⟨c11, h⟩ := chk_e h
  refine g_callStr (pc := 82) (dd d_Rdr_readSign 45 rfl) v_Rdr_92 (sg_sg hX.kx) (ev_Str_indexOf c10 c11 (by decide) (sg_sg hX.kx)) rfl (by omega) (Nat.le_of_ble_eq_true rfl) ⟨Nat.zero_le _, Nat.zero_le _⟩ rfl ?_
  suffices K85 : ∀ z : Int32, z = (if (ixL bs_sg (x1).toInt8.toInt32 0 : Int32) < 0 then 102 else ((128) + (x1)) : Int32) → GG Δ m_Rdr_readSign Γ NN 0 0 (I, X) 98 [none, some (.int (x1)), none] [.int (z)] by
    refine g_iflt (pc := 85) (tgt := 96) (dd d_Rdr_readSign 46 rfl) (by decide) (fun q12 => ?_) (fun q12 => ?_)
    · skip
      refine g_bipush (pc := 96) (v := 102) (dd d_Rdr_readSign 51 rfl) (by decide) ?_
      exact K85 _ (by rw [if_pos q12])
    · skip
      refine g_sipush (pc := 88) (v := 128) (dd d_Rdr_readSign 47 rfl) (by decide) ?_
      refine g_iload_n (pc := 91) (dd d_Rdr_readSign 48 rfl) rfl ?_
      refine g_iadd (pc := 92) (dd d_Rdr_readSign 49 rfl) ?_
      refine g_goto (pc := 93) (tgt := 98) (dd d_Rdr_readSign 50 rfl) (by decide) ?_
      exact K85 _ (by rw [if_neg q12])
  intro z hz
  subst hz
  cases h
  exact g_iret (pc := 98) rfl (dd d_Rdr_readSign 52 rfl) hT
def f_Rdr_readSign (x1 : Int32) (I : IM) : Option (Int32 × IM) := lt (up I 1 4 ((I 1 4) + 1)) fun I1 => if (if x1 = (61 : Int32) then 1 else (if x1 = (33 : Int32) then 1 else (if x1 = (60 : Int32) then 1 else 0)) : Int32) = 0 then (b_Rdr_readSign_79   x1 I1) else (if (I1 1 0 : Int32) ≤ (I1 1 4 : Int32) then (b_Rdr_readSign_79   x1 I1) else (chk (inb (I1 1 4) 900) <| if (I1 2 (I1 1 4 : Int32).toNatClampNeg : Int32) = (61 : Int32) then (lt (up I1 1 4 ((I1 1 4) + 1)) fun I9 => some (256 + x1, I9)) else (b_Rdr_readSign_79   x1 I1)))
set_option maxRecDepth 20000 in
set_option maxHeartbeats 4000000 in
theorem ef_Rdr_readSign {Δ : Dx} {X : Lx} {rl hd ot pt it : Nat} (hX : EX Δ X rl hd ot pt it) {x1 : Int32}  {I : IM}  {r : Int32 × IM} (h : f_Rdr_readSign x1 I = some r) : Ev Δ (5) m_Rdr_readSign [.ref (Δ.ba + 1), .int x1] (I, X) (some (.int r.1)) (r.2, X) := by
  refine ev_of (by decide) (Nat.le_of_ble_eq_true rfl) (fun Γ hk hR hT => ?_)
  change GG Δ m_Rdr_readSign Γ NN 0 0 (I, X) 0 [some (.ref (Δ.ba + 1)), some (.int (x1)), none] []
  unfold f_Rdr_readSign at h
  refine g_aload_n (pc := 0) (dd d_Rdr_readSign 0 rfl) rfl ?_
  refine g_dup (pc := 1) (dd d_Rdr_readSign 1 rfl) rfl ?_
  refine g_geti (pc := 2) (dd d_Rdr_readSign 2 rfl) f_Rdr_43 oc_Rdr rfl ?_
  refine g_iconst (pc := 5) (v := 1) (dd d_Rdr_readSign 3 rfl) (by decide) ?_
  refine g_iadd (pc := 6) (dd d_Rdr_readSign 4 rfl) ?_
  refine g_putiN (pc := 7) (dd d_Rdr_readSign 5 rfl) f_Rdr_43 fm_Rdr_4 oc_Rdr rfl (fun I1 hI1 => ?_)
  replace h := lt_e h hI1
  refine g_iload_n (pc := 10) (dd d_Rdr_readSign 6 rfl) rfl ?_
  refine g_bipush (pc := 11) (v := 61) (dd d_Rdr_readSign 7 rfl) (by decide) ?_
  suffices K13 : ∀ z : Int32, z = (if x1 = (61 : Int32) then 1 else (if x1 = (33 : Int32) then 1 else (if x1 = (60 : Int32) then 1 else 0)) : Int32) → GG Δ m_Rdr_readSign Γ NN 0 0 (I1, X) 33 [some (.ref (Δ.ba + 1)), some (.int (x1)), none] [.int (z)] by
    refine g_icmpeq (pc := 13) (tgt := 28) (dd d_Rdr_readSign 8 rfl) (by decide) (fun q2 => ?_) (fun q2 => ?_)
    · skip
      refine g_iconst (pc := 28) (v := 1) (dd d_Rdr_readSign 15 rfl) (by decide) ?_
      refine g_goto (pc := 29) (tgt := 33) (dd d_Rdr_readSign 16 rfl) (by decide) ?_
      exact K13 _ (by rw [if_pos q2])
    · skip
      refine g_iload_n (pc := 16) (dd d_Rdr_readSign 9 rfl) rfl ?_
      refine g_bipush (pc := 17) (v := 33) (dd d_Rdr_readSign 10 rfl) (by decide) ?_
      refine g_icmpeq (pc := 19) (tgt := 28) (dd d_Rdr_readSign 11 rfl) (by decide) (fun q3 => ?_) (fun q3 => ?_)
      · skip
        refine g_iconst (pc := 28) (v := 1) (dd d_Rdr_readSign 15 rfl) (by decide) ?_
        refine g_goto (pc := 29) (tgt := 33) (dd d_Rdr_readSign 16 rfl) (by decide) ?_
        exact K13 _ (by rw [if_neg q2, if_pos q3])
      · skip
        refine g_iload_n (pc := 22) (dd d_Rdr_readSign 12 rfl) rfl ?_
        refine g_bipush (pc := 23) (v := 60) (dd d_Rdr_readSign 13 rfl) (by decide) ?_
        refine g_icmpne (pc := 25) (tgt := 32) (dd d_Rdr_readSign 14 rfl) (by decide) (fun q4 => ?_) (fun q4 => ?_)
        · skip
          refine g_iconst (pc := 32) (v := 0) (dd d_Rdr_readSign 17 rfl) (by decide) ?_
          exact K13 _ (by rw [if_neg q2, if_neg q3, if_neg q4])
        · skip
          refine g_iconst (pc := 28) (v := 1) (dd d_Rdr_readSign 15 rfl) (by decide) ?_
          refine g_goto (pc := 29) (tgt := 33) (dd d_Rdr_readSign 16 rfl) (by decide) ?_
          exact K13 _ (by rw [if_neg q2, if_neg q3, if_pos q4])
  intro z hz
  subst hz
  refine g_istore_n (pc := 33) (dd d_Rdr_readSign 18 rfl) (by decide) ?_
  refine g_iload_n (pc := 34) (dd d_Rdr_readSign 19 rfl) rfl ?_
  refine g_ifeq (pc := 35) (tgt := 79) (dd d_Rdr_readSign 20 rfl) (by decide) (fun q5 => ?_) (fun q5 => ?_)
  · replace h := ite_t h q5
    refine g_drop [0, 2] ?_
    exact gb_Rdr_readSign_79 hX hk hT  h
  · replace h := ite_f h q5
    refine g_aload_n (pc := 38) (dd d_Rdr_readSign 21 rfl) rfl ?_
    refine g_geti (pc := 39) (dd d_Rdr_readSign 22 rfl) f_Rdr_43 oc_Rdr rfl ?_
    refine g_aload_n (pc := 42) (dd d_Rdr_readSign 23 rfl) rfl ?_
    refine g_geti (pc := 43) (dd d_Rdr_readSign 24 rfl) f_Rdr_39 oc_Rdr rfl ?_
    refine g_icmpge (pc := 46) (tgt := 79) (dd d_Rdr_readSign 25 rfl) (by decide) (fun q6 => ?_) (fun q6 => ?_)
    · replace h := ite_t h q6
      refine g_drop [0, 2] ?_
      exact gb_Rdr_readSign_79 hX hk hT  h
    · replace h := ite_f h q6
      refine g_aload_n (pc := 49) (dd d_Rdr_readSign 26 rfl) rfl ?_
      refine g_getr (pc := 50) (dd d_Rdr_readSign 27 rfl) f_Rdr_9 oc_Rdr rfl (rx_Rdr_6 hX) ?_
      refine g_aload_n (pc := 53) (dd d_Rdr_readSign 28 rfl) rfl ?_
      refine g_geti (pc := 54) (dd d_Rdr_readSign 29 rfl) f_Rdr_43 oc_Rdr rfl ?_
      obtain ⟨c7, h⟩ := chk_e h
      refine g_cald (pc := 57) (dd d_Rdr_readSign 30 rfl) ax_Rdr_6 c7 ?_
      refine g_bipush (pc := 58) (v := 61) (dd d_Rdr_readSign 31 rfl) (by decide) ?_
      refine g_icmpne (pc := 60) (tgt := 79) (dd d_Rdr_readSign 32 rfl) (by decide) (fun q8 => ?_) (fun q8 => ?_)
      · replace h := ite_f h q8
        refine g_drop [0, 2] ?_
        exact gb_Rdr_readSign_79 hX hk hT  h
      · replace h := ite_t h q8
        refine g_aload_n (pc := 63) (dd d_Rdr_readSign 33 rfl) rfl ?_
        refine g_dup (pc := 64) (dd d_Rdr_readSign 34 rfl) rfl ?_
        refine g_geti (pc := 65) (dd d_Rdr_readSign 35 rfl) f_Rdr_43 oc_Rdr rfl ?_
        refine g_iconst (pc := 68) (v := 1) (dd d_Rdr_readSign 36 rfl) (by decide) ?_
        refine g_iadd (pc := 69) (dd d_Rdr_readSign 37 rfl) ?_
        refine g_putiN (pc := 70) (dd d_Rdr_readSign 38 rfl) f_Rdr_43 fm_Rdr_4 oc_Rdr rfl (fun I9 hI9 => ?_)
        replace h := lt_e h hI9
        refine g_sipush (pc := 73) (v := 256) (dd d_Rdr_readSign 39 rfl) (by decide) ?_
        refine g_iload_n (pc := 76) (dd d_Rdr_readSign 40 rfl) rfl ?_
        refine g_iadd (pc := 77) (dd d_Rdr_readSign 41 rfl) ?_
        cases h
        exact g_iret (pc := 78) rfl (dd d_Rdr_readSign 42 rfl) hT
def b_Rdr_readToken_18 (n : Nat) (J : JM)   (I : IM) : Option (Int32 × IM) := some (100, I)
set_option maxRecDepth 20000 in
set_option maxHeartbeats 4000000 in
theorem gb_Rdr_readToken_18 {Δ : Dx} {X : Lx} {rl hd ot pt it : Nat} (hX : EX Δ X rl hd ot pt it)   {n : Nat} {Γ : Cx} (hk : Γ.k = 6) {r : Int32 × IM} (hT : Tg Δ Γ (some (.int r.1)) NN (r.2, X) 0 0)   {I : IM} (h : b_Rdr_readToken_18 n X.1   I = some r) : GG Δ m_Rdr_readToken Γ NN 0 0 (I, X) 18 [none, none] [] := by
  unfold b_Rdr_readToken_18 at h
  refine g_bipush (pc := 18) (v := 100) (dd d_Rdr_readToken 8 rfl) (by decide) ?_
  cases h
  exact g_iret (pc := 20) rfl (dd d_Rdr_readToken 9 rfl) hT
def b_Rdr_readToken_62 (n : Nat) (J : JM)  (y0 : Int32) (I : IM) : Option (Int32 × IM) := some (y0, I)
set_option maxRecDepth 20000 in
set_option maxHeartbeats 4000000 in
theorem gb_Rdr_readToken_62 {Δ : Dx} {X : Lx} {rl hd ot pt it : Nat} (hX : EX Δ X rl hd ot pt it)   {n : Nat} {Γ : Cx} (hk : Γ.k = 6) {r : Int32 × IM} (hT : Tg Δ Γ (some (.int r.1)) NN (r.2, X) 0 0)  {y0 : Int32} {I : IM} (h : b_Rdr_readToken_62 n X.1  y0 I = some r) : GG Δ m_Rdr_readToken Γ NN 0 0 (I, X) 62 [none, none] [.int (y0)] := by
  unfold b_Rdr_readToken_62 at h
  cases h
  exact g_iret (pc := 62) rfl (dd d_Rdr_readToken 31 rfl) hT
def f_Rdr_readToken (n : Nat) (J : JM) (I : IM) : Option (Int32 × IM) := if (I 1 4 : Int32) < 0 then (b_Rdr_readToken_18 n J  I) else (if (I 1 4 : Int32) < (I 1 0 : Int32) then (chk (inb (I 1 4) 900) <| Option.bind (f_Rdr_isLetter  (I 2 (I 1 4 : Int32).toNatClampNeg) I) fun v4 => if v4 = 0 then (Option.bind (f_Rdr_isDigit  (I 2 (I 1 4 : Int32).toNatClampNeg) I) fun v7 => if v7 = 0 then (Option.bind (f_Rdr_readSign  (I 2 (I 1 4 : Int32).toNatClampNeg) I) fun v10 => b_Rdr_readToken_62 n J  v10.1 v10.2) else (Option.bind (f_Rdr_readNumber n  I) fun v12 => b_Rdr_readToken_62 n J  v12.1 v12.2)) else (Option.bind (f_Rdr_readWord n J I) fun v14 => some (v14.1, v14.2))) else (b_Rdr_readToken_18 n J  I))
set_option maxRecDepth 20000 in
set_option maxHeartbeats 4000000 in
theorem ef_Rdr_readToken {Δ : Dx} {X : Lx} {rl hd ot pt it : Nat} (hX : EX Δ X rl hd ot pt it) {n : Nat}  {I : IM}  {r : Int32 × IM} (h : f_Rdr_readToken n X.1 I = some r) : Ev Δ (6) m_Rdr_readToken [.ref (Δ.ba + 1)] (I, X) (some (.int r.1)) (r.2, X) := by
  refine ev_of (by decide) (Nat.le_of_ble_eq_true rfl) (fun Γ hk hR hT => ?_)
  change GG Δ m_Rdr_readToken Γ NN 0 0 (I, X) 0 [some (.ref (Δ.ba + 1)), none] []
  unfold f_Rdr_readToken at h
  refine g_aload_n (pc := 0) (dd d_Rdr_readToken 0 rfl) rfl ?_
  refine g_geti (pc := 1) (dd d_Rdr_readToken 1 rfl) f_Rdr_43 oc_Rdr rfl ?_
  refine g_iflt (pc := 4) (tgt := 18) (dd d_Rdr_readToken 2 rfl) (by decide) (fun q1 => ?_) (fun q1 => ?_)
  · replace h := ite_t h q1
    refine g_drop [0] ?_
    exact gb_Rdr_readToken_18 hX hk hT  h
  · replace h := ite_f h q1
    refine g_aload_n (pc := 7) (dd d_Rdr_readToken 3 rfl) rfl ?_
    refine g_geti (pc := 8) (dd d_Rdr_readToken 4 rfl) f_Rdr_43 oc_Rdr rfl ?_
    refine g_aload_n (pc := 11) (dd d_Rdr_readToken 5 rfl) rfl ?_
    refine g_geti (pc := 12) (dd d_Rdr_readToken 6 rfl) f_Rdr_39 oc_Rdr rfl ?_
    refine g_icmplt (pc := 15) (tgt := 21) (dd d_Rdr_readToken 7 rfl) (by decide) (fun q2 => ?_) (fun q2 => ?_)
    · replace h := ite_t h q2
      refine g_aload_n (pc := 21) (dd d_Rdr_readToken 10 rfl) rfl ?_
      refine g_getr (pc := 22) (dd d_Rdr_readToken 11 rfl) f_Rdr_9 oc_Rdr rfl (rx_Rdr_6 hX) ?_
      refine g_aload_n (pc := 25) (dd d_Rdr_readToken 12 rfl) rfl ?_
      refine g_geti (pc := 26) (dd d_Rdr_readToken 13 rfl) f_Rdr_43 oc_Rdr rfl ?_
      obtain ⟨c3, h⟩ := chk_e h
      refine g_cald (pc := 29) (dd d_Rdr_readToken 14 rfl) ax_Rdr_6 c3 ?_
      refine g_istore_n (pc := 30) (dd d_Rdr_readToken 15 rfl) (by decide) ?_
      refine g_iload_n (pc := 31) (dd d_Rdr_readToken 16 rfl) rfl ?_
      obtain ⟨v4, e5, h⟩ := bnd_e h
      refine g_callS (pc := 32) (dd d_Rdr_readToken 17 rfl) s_Rdr_68 (ef_Rdr_isLetter hX e5) rfl (by omega) (Nat.le_of_ble_eq_true rfl) ⟨Nat.zero_le _, Nat.zero_le _⟩ rfl ?_
      refine g_ifeq (pc := 35) (tgt := 43) (dd d_Rdr_readToken 18 rfl) (by decide) (fun q6 => ?_) (fun q6 => ?_)
      · replace h := ite_t h q6
        refine g_iload_n (pc := 43) (dd d_Rdr_readToken 22 rfl) rfl ?_
        obtain ⟨v7, e8, h⟩ := bnd_e h
        refine g_callS (pc := 44) (dd d_Rdr_readToken 23 rfl) s_Rdr_75 (ef_Rdr_isDigit hX e8) rfl (by omega) (Nat.le_of_ble_eq_true rfl) ⟨Nat.zero_le _, Nat.zero_le _⟩ rfl ?_
        refine g_ifeq (pc := 47) (tgt := 57) (dd d_Rdr_readToken 24 rfl) (by decide) (fun q9 => ?_) (fun q9 => ?_)
        · replace h := ite_t h q9
          refine g_aload_n (pc := 57) (dd d_Rdr_readToken 28 rfl) rfl ?_
          refine g_iload_n (pc := 58) (dd d_Rdr_readToken 29 rfl) rfl ?_
          obtain ⟨v10, e11, h⟩ := bnd_e h
          refine g_callV (pc := 59) (dd d_Rdr_readToken 30 rfl) v_Rdr_81 oc_Rdr rfl (ef_Rdr_readSign hX e11) rfl (by omega) (Nat.le_of_ble_eq_true rfl) ⟨Nat.zero_le _, Nat.zero_le _⟩ rfl ?_
          refine g_drop [0, 1] ?_
          exact gb_Rdr_readToken_62 hX hk hT  h
        · replace h := ite_f h q9
          refine g_aload_n (pc := 50) (dd d_Rdr_readToken 25 rfl) rfl ?_
          obtain ⟨v12, e13, h⟩ := bnd_e h
          refine g_callV (pc := 51) (dd d_Rdr_readToken 26 rfl) v_Rdr_78 oc_Rdr rfl (ef_Rdr_readNumber hX e13) rfl (by omega) (Nat.le_of_ble_eq_true rfl) ⟨Nat.zero_le _, Nat.zero_le _⟩ rfl ?_
          refine g_goto (pc := 54) (tgt := 62) (dd d_Rdr_readToken 27 rfl) (by decide) ?_
          refine g_drop [0, 1] ?_
          exact gb_Rdr_readToken_62 hX hk hT  h
      · replace h := ite_f h q6
        refine g_aload_n (pc := 38) (dd d_Rdr_readToken 19 rfl) rfl ?_
        obtain ⟨v14, e15, h⟩ := bnd_e h
        refine g_callV (pc := 39) (dd d_Rdr_readToken 20 rfl) v_Rdr_72 oc_Rdr rfl (ef_Rdr_readWord hX e15) rfl (by omega) (Nat.le_of_ble_eq_true rfl) ⟨Nat.zero_le _, Nat.zero_le _⟩ rfl ?_
        cases h
        exact g_iret (pc := 42) rfl (dd d_Rdr_readToken 21 rfl) hT
    · replace h := ite_f h q2
      refine g_drop [0] ?_
      exact gb_Rdr_readToken_18 hX hk hT  h
def b_Rdr_advance_25    (I : IM) : Option (IM) := some I
set_option maxRecDepth 20000 in
set_option maxHeartbeats 4000000 in
theorem gb_Rdr_advance_25 {Δ : Dx} {X : Lx} {rl hd ot pt it : Nat} (hX : EX Δ X rl hd ot pt it)    {Γ : Cx} (hk : Γ.k = 0) {r : IM} (hT : Tg Δ Γ none NN (r, X) 0 0)   {I : IM} (h : b_Rdr_advance_25    I = some r) : GG Δ m_Rdr_advance Γ NN 0 0 (I, X) 25 [none] [] := by
  unfold b_Rdr_advance_25 at h
  cases h
  exact g_vret (pc := 25) rfl (dd d_Rdr_advance 11 rfl) hT
def b_Rdr_advance_94    (I : IM) : Option (IM) := some I
set_option maxRecDepth 20000 in
set_option maxHeartbeats 4000000 in
theorem gb_Rdr_advance_94 {Δ : Dx} {X : Lx} {rl hd ot pt it : Nat} (hX : EX Δ X rl hd ot pt it)    {Γ : Cx} (hk : Γ.k = 0) {r : IM} (hT : Tg Δ Γ none NN (r, X) 0 0)   {I : IM} (h : b_Rdr_advance_94    I = some r) : GG Δ m_Rdr_advance Γ NN 0 0 (I, X) 94 [none] [] := by
  unfold b_Rdr_advance_94 at h
  cases h
  exact g_vret (pc := 94) rfl (dd d_Rdr_advance 48 rfl) hT
def b_Rdr_advance_26    (I : IM) : Option (IM) := lt (up I 1 5 ((I 1 5) + 1)) fun I4 => if (I4 1 5 : Int32) < 0 then (b_Rdr_advance_94   I4) else (if (901 : Int32) ≤ (I4 1 5 : Int32) then (b_Rdr_advance_94   I4) else (chk (inb (I4 1 5) 901) <| lt (up I4 1 1 (I4 3 (I4 1 5 : Int32).toNatClampNeg)) fun I8 => chk (inb (I8 1 5) 901) <| lt (up I8 1 2 (I8 4 (I8 1 5 : Int32).toNatClampNeg)) fun I10 => chk (inb (I10 1 5) 901) <| lt (up I10 1 3 (I10 5 (I10 1 5 : Int32).toNatClampNeg)) fun I12 => b_Rdr_advance_94   I12))
set_option maxRecDepth 20000 in
set_option maxHeartbeats 4000000 in
theorem gb_Rdr_advance_26 {Δ : Dx} {X : Lx} {rl hd ot pt it : Nat} (hX : EX Δ X rl hd ot pt it)    {Γ : Cx} (hk : Γ.k = 0) {r : IM} (hT : Tg Δ Γ none NN (r, X) 0 0)   {I : IM} (h : b_Rdr_advance_26    I = some r) : GG Δ m_Rdr_advance Γ NN 0 0 (I, X) 26 [some (.ref (Δ.ba + 1))] [] := by
  unfold b_Rdr_advance_26 at h
  refine g_aload_n (pc := 26) (dd d_Rdr_advance 12 rfl) rfl ?_
  refine g_dup (pc := 27) (dd d_Rdr_advance 13 rfl) rfl ?_
  refine g_geti (pc := 28) (dd d_Rdr_advance 14 rfl) f_Rdr_56 oc_Rdr rfl ?_
  refine g_iconst (pc := 31) (v := 1) (dd d_Rdr_advance 15 rfl) (by decide) ?_
  refine g_iadd (pc := 32) (dd d_Rdr_advance 16 rfl) ?_
  refine g_putiN (pc := 33) (dd d_Rdr_advance 17 rfl) f_Rdr_56 fm_Rdr_5 oc_Rdr rfl (fun I4 hI4 => ?_)
  replace h := lt_e h hI4
  refine g_aload_n (pc := 36) (dd d_Rdr_advance 18 rfl) rfl ?_
  refine g_geti (pc := 37) (dd d_Rdr_advance 19 rfl) f_Rdr_56 oc_Rdr rfl ?_
  refine g_iflt (pc := 40) (tgt := 94) (dd d_Rdr_advance 20 rfl) (by decide) (fun q5 => ?_) (fun q5 => ?_)
  · replace h := ite_t h q5
    refine g_drop [0] ?_
    exact gb_Rdr_advance_94 hX hk hT  h
  · replace h := ite_f h q5
    refine g_aload_n (pc := 43) (dd d_Rdr_advance 21 rfl) rfl ?_
    refine g_geti (pc := 44) (dd d_Rdr_advance 22 rfl) f_Rdr_56 oc_Rdr rfl ?_
    refine g_aload_n (pc := 47) (dd d_Rdr_advance 23 rfl) rfl ?_
    refine g_getr (pc := 48) (dd d_Rdr_advance 24 rfl) f_Rdr_15 oc_Rdr rfl (rx_Rdr_7 hX) ?_
    refine g_alen (pc := 51) (t := 0) (v := 901) (dd d_Rdr_advance 25 rfl) ax_Rdr_7 rfl (by decide) ?_
    refine g_icmpge (pc := 52) (tgt := 94) (dd d_Rdr_advance 26 rfl) (by decide) (fun q6 => ?_) (fun q6 => ?_)
    · replace h := ite_t h q6
      refine g_drop [0] ?_
      exact gb_Rdr_advance_94 hX hk hT  h
    · replace h := ite_f h q6
      refine g_aload_n (pc := 55) (dd d_Rdr_advance 27 rfl) rfl ?_
      refine g_aload_n (pc := 56) (dd d_Rdr_advance 28 rfl) rfl ?_
      refine g_getr (pc := 57) (dd d_Rdr_advance 29 rfl) f_Rdr_15 oc_Rdr rfl (rx_Rdr_7 hX) ?_
      refine g_aload_n (pc := 60) (dd d_Rdr_advance 30 rfl) rfl ?_
      refine g_geti (pc := 61) (dd d_Rdr_advance 31 rfl) f_Rdr_56 oc_Rdr rfl ?_
      obtain ⟨c7, h⟩ := chk_e h
      refine g_iald (pc := 64) (dd d_Rdr_advance 32 rfl) ax_Rdr_7 c7 ?_
      refine g_putiN (pc := 65) (dd d_Rdr_advance 33 rfl) f_Rdr_62 fm_Rdr_1 oc_Rdr rfl (fun I8 hI8 => ?_)
      replace h := lt_e h hI8
      refine g_aload_n (pc := 68) (dd d_Rdr_advance 34 rfl) rfl ?_
      refine g_aload_n (pc := 69) (dd d_Rdr_advance 35 rfl) rfl ?_
      refine g_getr (pc := 70) (dd d_Rdr_advance 36 rfl) f_Rdr_19 oc_Rdr rfl (rx_Rdr_8 hX) ?_
      refine g_aload_n (pc := 73) (dd d_Rdr_advance 37 rfl) rfl ?_
      refine g_geti (pc := 74) (dd d_Rdr_advance 38 rfl) f_Rdr_56 oc_Rdr rfl ?_
      obtain ⟨c9, h⟩ := chk_e h
      refine g_iald (pc := 77) (dd d_Rdr_advance 39 rfl) ax_Rdr_8 c9 ?_
      refine g_putiN (pc := 78) (dd d_Rdr_advance 40 rfl) f_Rdr_65 fm_Rdr_2 oc_Rdr rfl (fun I10 hI10 => ?_)
      replace h := lt_e h hI10
      refine g_aload_n (pc := 81) (dd d_Rdr_advance 41 rfl) rfl ?_
      refine g_aload_n (pc := 82) (dd d_Rdr_advance 42 rfl) rfl ?_
      refine g_getr (pc := 83) (dd d_Rdr_advance 43 rfl) f_Rdr_22 oc_Rdr rfl (rx_Rdr_9 hX) ?_
      refine g_aload_n (pc := 86) (dd d_Rdr_advance 44 rfl) rfl ?_
      refine g_geti (pc := 87) (dd d_Rdr_advance 45 rfl) f_Rdr_56 oc_Rdr rfl ?_
      obtain ⟨c11, h⟩ := chk_e h
      refine g_iald (pc := 90) (dd d_Rdr_advance 46 rfl) ax_Rdr_9 c11 ?_
      refine g_putiN (pc := 91) (dd d_Rdr_advance 47 rfl) f_Rdr_53 fm_Rdr_3 oc_Rdr rfl (fun I12 hI12 => ?_)
      replace h := lt_e h hI12
      refine g_drop [0] ?_
      exact gb_Rdr_advance_94 hX hk hT  h
def f_Rdr_advance  (I : IM) : Option (IM) := if (I 1 5 : Int32) < 0 then (b_Rdr_advance_26   I) else (if (I 1 1 : Int32) = (100 : Int32) then (b_Rdr_advance_25   I) else (if (I 1 1 : Int32) = (102 : Int32) then (b_Rdr_advance_25   I) else (b_Rdr_advance_26   I)))
set_option maxRecDepth 20000 in
set_option maxHeartbeats 4000000 in
theorem ef_Rdr_advance {Δ : Dx} {X : Lx} {rl hd ot pt it : Nat} (hX : EX Δ X rl hd ot pt it)   {I : IM}  {r : IM} (h : f_Rdr_advance  I = some r) : Ev Δ (0) m_Rdr_advance [.ref (Δ.ba + 1)] (I, X) none (r, X) := by
  refine ev_of (by decide) (Nat.le_of_ble_eq_true rfl) (fun Γ hk hR hT => ?_)
  change GG Δ m_Rdr_advance Γ NN 0 0 (I, X) 0 [some (.ref (Δ.ba + 1))] []
  unfold f_Rdr_advance at h
  refine g_aload_n (pc := 0) (dd d_Rdr_advance 0 rfl) rfl ?_
  refine g_geti (pc := 1) (dd d_Rdr_advance 1 rfl) f_Rdr_56 oc_Rdr rfl ?_
  refine g_iflt (pc := 4) (tgt := 26) (dd d_Rdr_advance 2 rfl) (by decide) (fun q1 => ?_) (fun q1 => ?_)
  · replace h := ite_t h q1
    exact gb_Rdr_advance_26 hX hk hT  h
  · replace h := ite_f h q1
    refine g_aload_n (pc := 7) (dd d_Rdr_advance 3 rfl) rfl ?_
    refine g_geti (pc := 8) (dd d_Rdr_advance 4 rfl) f_Rdr_62 oc_Rdr rfl ?_
    refine g_bipush (pc := 11) (v := 100) (dd d_Rdr_advance 5 rfl) (by decide) ?_
    refine g_icmpeq (pc := 13) (tgt := 25) (dd d_Rdr_advance 6 rfl) (by decide) (fun q2 => ?_) (fun q2 => ?_)
    · replace h := ite_t h q2
      refine g_drop [0] ?_
      exact gb_Rdr_advance_25 hX hk hT  h
    · replace h := ite_f h q2
      refine g_aload_n (pc := 16) (dd d_Rdr_advance 7 rfl) rfl ?_
      refine g_geti (pc := 17) (dd d_Rdr_advance 8 rfl) f_Rdr_62 oc_Rdr rfl ?_
      refine g_bipush (pc := 20) (v := 102) (dd d_Rdr_advance 9 rfl) (by decide) ?_
      refine g_icmpne (pc := 22) (tgt := 26) (dd d_Rdr_advance 10 rfl) (by decide) (fun q3 => ?_) (fun q3 => ?_)
      · replace h := ite_f h q3
        exact gb_Rdr_advance_26 hX hk hT  h
      · replace h := ite_t h q3
        refine g_drop [0] ?_
        exact gb_Rdr_advance_25 hX hk hT  h
