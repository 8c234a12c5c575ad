/-! the class: each method a function, and its contract -/
def b_Rdr_startOver_81 (n : Nat) (J : JM)   (I : IM) : Option (IM) := lt (up I 1 5 ((-1))) fun I13 => Option.bind (f_Rdr_advance   I13) fun v14 => some v14
set_option maxRecDepth 20000 in
set_option maxHeartbeats 4000000 in
theorem gb_Rdr_startOver_81 {Δ : Dx} {X : Lx} {rl hd ot pt it : Nat} (hX : EX Δ X rl hd ot pt it)   {n : Nat} {Γ : Cx} (hk : Γ.k = 7) {r : IM} (hT : Tg Δ Γ none NN (r, X) 0 0)   {I : IM} (h : b_Rdr_startOver_81 n X.1   I = some r) : GG Δ m_Rdr_startOver Γ NN 0 0 (I, X) 81 [some (.ref (Δ.ba + 1)), none] [] := by
  unfold b_Rdr_startOver_81 at h
  refine g_aload_n (pc := 81) (dd d_Rdr_startOver 45 rfl) rfl ?_
  refine g_iconst (pc := 82) (v := (-1)) (dd d_Rdr_startOver 46 rfl) (by decide) ?_
  refine g_putiN (pc := 83) (dd d_Rdr_startOver 47 rfl) f_Rdr_56 fm_Rdr_5 oc_Rdr rfl (fun I13 hI13 => ?_)
  replace h := lt_e h hI13
  refine g_aload_n (pc := 86) (dd d_Rdr_startOver 48 rfl) rfl ?_
  obtain ⟨v14, e15, h⟩ := bnd_e h
  refine g_callV (pc := 87) (dd d_Rdr_startOver 49 rfl) v_Rdr_59 oc_Rdr rfl (ef_Rdr_advance hX e15) rfl (by omega) (Nat.le_of_ble_eq_true rfl) ⟨Nat.zero_le _, Nat.zero_le _⟩ rfl ?_
  cases h
  exact g_vret (pc := 90) rfl (dd d_Rdr_startOver 50 rfl) hT
def l_Rdr_startOver_7 (n : Nat) (J : JM)  : Nat → Int32 → IM → Option (IM)
  | 0, _, _ => none
  | f + 1, x1, I => if (901 : Int32) ≤ x1 then (b_Rdr_startOver_81 n J  I) else (Option.bind (f_Rdr_skipBlanks n  I) fun v3 => chk (inb x1 901) <| lt (up v3 4 x1.toNatClampNeg (v3 1 4)) fun I6 => Option.bind (f_Rdr_readToken n J I6) fun v7 => lt (up v7.2 3 x1.toNatClampNeg (v7.1)) fun I9 => lt (up I9 5 x1.toNatClampNeg (I9 1 3)) fun I10 => if (I10 3 x1.toNatClampNeg : Int32) = (100 : Int32) then (b_Rdr_startOver_81 n J  I10) else (if (I10 3 x1.toNatClampNeg : Int32) = (102 : Int32) then (b_Rdr_startOver_81 n J  I10) else ((l_Rdr_startOver_7 n J  f) (x1 + 1) I10)))
set_option maxRecDepth 20000 in
set_option maxHeartbeats 4000000 in
theorem gl_Rdr_startOver_7 {Δ : Dx} {X : Lx} {rl hd ot pt it : Nat} (hX : EX Δ X rl hd ot pt it)   {n : Nat} {Γ : Cx} (hk : Γ.k = 7) {r : IM} (hT : Tg Δ Γ none NN (r, X) 0 0)  : ∀ (f : Nat) (x1 : Int32) (I : IM), l_Rdr_startOver_7 n X.1  f x1 I = some r → GG Δ m_Rdr_startOver Γ NN 0 0 (I, X) 7 [some (.ref (Δ.ba + 1)), some (.int (x1))] []
  | 0, _, _, h => by cases h
  | f + 1, x1, I, h => by
    have ih := gl_Rdr_startOver_7 (n := n) hX hk hT  f
    rw [l_Rdr_startOver_7] at h
    refine g_iload_n (pc := 7) (dd d_Rdr_startOver 5 rfl) rfl ?_
    refine g_aload_n (pc := 8) (dd d_Rdr_startOver 6 rfl) rfl ?_
    refine g_getr (pc := 9) (dd d_Rdr_startOver 7 rfl) f_Rdr_15 oc_Rdr rfl (rx_Rdr_7 hX) ?_
    refine g_alen (pc := 12) (t := 0) (v := 901) (dd d_Rdr_startOver 8 rfl) ax_Rdr_7 rfl (by decide) ?_
    refine g_icmpge (pc := 13) (tgt := 81) (dd d_Rdr_startOver 9 rfl) (by decide) (fun q2 => ?_) (fun q2 => ?_)
    · replace h := ite_t h q2
      refine g_drop [1] ?_
      exact gb_Rdr_startOver_81 hX hk hT  h
    · replace h := ite_f h q2
      refine g_aload_n (pc := 16) (dd d_Rdr_startOver 10 rfl) rfl ?_
      obtain ⟨v3, e4, h⟩ := bnd_e h
      refine g_callV (pc := 17) (dd d_Rdr_startOver 11 rfl) v_Rdr_46 oc_Rdr rfl (ef_Rdr_skipBlanks hX e4) rfl (by omega) (Nat.le_of_ble_eq_true rfl) ⟨Nat.zero_le _, Nat.zero_le _⟩ rfl ?_
      refine g_aload_n (pc := 20) (dd d_Rdr_startOver 12 rfl) rfl ?_
      refine g_getr (pc := 21) (dd d_Rdr_startOver 13 rfl) f_Rdr_19 oc_Rdr rfl (rx_Rdr_8 hX) ?_
      refine g_iload_n (pc := 24) (dd d_Rdr_startOver 14 rfl) rfl ?_
      refine g_aload_n (pc := 25) (dd d_Rdr_startOver 15 rfl) rfl ?_
      refine g_geti (pc := 26) (dd d_Rdr_startOver 16 rfl) f_Rdr_43 oc_Rdr rfl ?_
      obtain ⟨c5, h⟩ := chk_e h
      refine g_iastN (pc := 29) (dd d_Rdr_startOver 17 rfl) ax_Rdr_8 c5 (fun I6 hI6 => ?_)
      replace h := lt_e h hI6
      refine g_aload_n (pc := 30) (dd d_Rdr_startOver 18 rfl) rfl ?_
      refine g_getr (pc := 31) (dd d_Rdr_startOver 19 rfl) f_Rdr_15 oc_Rdr rfl (rx_Rdr_7 hX) ?_
      refine g_iload_n (pc := 34) (dd d_Rdr_startOver 20 rfl) rfl ?_
      refine g_aload_n (pc := 35) (dd d_Rdr_startOver 21 rfl) rfl ?_
      obtain ⟨v7, e8, h⟩ := bnd_e h
      refine g_callV (pc := 36) (dd d_Rdr_startOver 22 rfl) v_Rdr_49 oc_Rdr rfl (ef_Rdr_readToken hX e8) rfl (by omega) (Nat.le_of_ble_eq_true rfl) ⟨Nat.zero_le _, Nat.zero_le _⟩ rfl ?_
      refine g_iastN (pc := 39) (dd d_Rdr_startOver 23 rfl) ax_Rdr_7 c5 (fun I9 hI9 => ?_)
      replace h := lt_e h hI9
      refine g_aload_n (pc := 40) (dd d_Rdr_startOver 24 rfl) rfl ?_
      refine g_getr (pc := 41) (dd d_Rdr_startOver 25 rfl) f_Rdr_22 oc_Rdr rfl (rx_Rdr_9 hX) ?_
      refine g_iload_n (pc := 44) (dd d_Rdr_startOver 26 rfl) rfl ?_
      refine g_aload_n (pc := 45) (dd d_Rdr_startOver 27 rfl) rfl ?_
      refine g_geti (pc := 46) (dd d_Rdr_startOver 28 rfl) f_Rdr_53 oc_Rdr rfl ?_
      refine g_iastN (pc := 49) (dd d_Rdr_startOver 29 rfl) ax_Rdr_9 c5 (fun I10 hI10 => ?_)
      replace h := lt_e h hI10
      refine g_aload_n (pc := 50) (dd d_Rdr_startOver 30 rfl) rfl ?_
      refine g_getr (pc := 51) (dd d_Rdr_startOver 31 rfl) f_Rdr_15 oc_Rdr rfl (rx_Rdr_7 hX) ?_
      refine g_iload_n (pc := 54) (dd d_Rdr_startOver 32 rfl) rfl ?_
      refine g_iald (pc := 55) (dd d_Rdr_startOver 33 rfl) ax_Rdr_7 c5 ?_
      refine g_bipush (pc := 56) (v := 100) (dd d_Rdr_startOver 34 rfl) (by decide) ?_
      refine g_icmpeq (pc := 58) (tgt := 81) (dd d_Rdr_startOver 35 rfl) (by decide) (fun q11 => ?_) (fun q11 => ?_)
      · replace h := ite_t h q11
        refine g_drop [1] ?_
        exact gb_Rdr_startOver_81 hX hk hT  h
      · replace h := ite_f h q11
        refine g_aload_n (pc := 61) (dd d_Rdr_startOver 36 rfl) rfl ?_
        refine g_getr (pc := 62) (dd d_Rdr_startOver 37 rfl) f_Rdr_15 oc_Rdr rfl (rx_Rdr_7 hX) ?_
        refine g_iload_n (pc := 65) (dd d_Rdr_startOver 38 rfl) rfl ?_
        refine g_iald (pc := 66) (dd d_Rdr_startOver 39 rfl) ax_Rdr_7 c5 ?_
        refine g_bipush (pc := 67) (v := 102) (dd d_Rdr_startOver 40 rfl) (by decide) ?_
        refine g_icmpne (pc := 69) (tgt := 75) (dd d_Rdr_startOver 41 rfl) (by decide) (fun q12 => ?_) (fun q12 => ?_)
        · replace h := ite_f h q12
          refine g_iincW (pc := 75) (w := 1) (dd d_Rdr_startOver 43 rfl) rfl (by decide) (by decide) ?_
          refine g_goto (pc := 78) (tgt := 7) (dd d_Rdr_startOver 44 rfl) (by decide) ?_
          exact ih _ _ h
        · replace h := ite_t h q12
          refine g_goto (pc := 72) (tgt := 81) (dd d_Rdr_startOver 42 rfl) (by decide) ?_
          refine g_drop [1] ?_
          exact gb_Rdr_startOver_81 hX hk hT  h
def f_Rdr_startOver (n : Nat) (J : JM) (I : IM) : Option (IM) := lt (up I 1 4 (0)) fun I1 => l_Rdr_startOver_7 n J  n 0 I1
set_option maxRecDepth 20000 in
set_option maxHeartbeats 4000000 in
theorem ef_Rdr_startOver {Δ : Dx} {X : Lx} {rl hd ot pt it : Nat} (hX : EX Δ X rl hd ot pt it) {n : Nat}  {I : IM}  {r : IM} (h : f_Rdr_startOver n X.1 I = some r) : Ev Δ (7) m_Rdr_startOver [.ref (Δ.ba + 1)] (I, X) none (r, X) := by
  refine ev_of (by decide) (Nat.le_of_ble_eq_true rfl) (fun Γ hk hR hT => ?_)
  change GG Δ m_Rdr_startOver Γ NN 0 0 (I, X) 0 [some (.ref (Δ.ba + 1)), none] []
  unfold f_Rdr_startOver at h
  refine g_aload_n (pc := 0) (dd d_Rdr_startOver 0 rfl) rfl ?_
  refine g_iconst (pc := 1) (v := 0) (dd d_Rdr_startOver 1 rfl) (by decide) ?_
  refine g_putiN (pc := 2) (dd d_Rdr_startOver 2 rfl) f_Rdr_43 fm_Rdr_4 oc_Rdr rfl (fun I1 hI1 => ?_)
  replace h := lt_e h hI1
  refine g_iconst (pc := 5) (v := 0) (dd d_Rdr_startOver 3 rfl) (by decide) ?_
  refine g_istore_n (pc := 6) (dd d_Rdr_startOver 4 rfl) (by decide) ?_
  exact gl_Rdr_startOver_7 hX hk hT  _ _ _ h
def b_Img_readNumber_101   (x3 : Int32) (I : IM) : Option (Int32 × IM) := lt (up I 15 4 (x3)) fun I13 => some (0, I13)
set_option maxRecDepth 20000 in
set_option maxHeartbeats 4000000 in
theorem gb_Img_readNumber_101 {Δ : Dx} {X : Lx} {rl hd ot pt it : Nat} (hX : EX Δ X rl hd ot pt it)    {Γ : Cx} (hk : Γ.k = 1) {r : Int32 × IM} (hT : Tg Δ Γ (some (.int r.1)) NN (r.2, X) 0 0)  {x3 : Int32} {I : IM} (h : b_Img_readNumber_101   x3 I = some r) : GG Δ m_Img_readNumber Γ NN 0 0 (I, X) 101 [some (.ref (Δ.ba + 15)), none, none, some (.int (x3)), none] [] := by
  unfold b_Img_readNumber_101 at h
  refine g_aload_n (pc := 101) (dd d_Img_readNumber 47 rfl) rfl ?_
  refine g_iload_n (pc := 102) (dd d_Img_readNumber 48 rfl) rfl ?_
  refine g_putiN (pc := 103) (dd d_Img_readNumber 49 rfl) f_Img_30 fm_Img_4 oc_Img rfl (fun I13 hI13 => ?_)
  replace h := lt_e h hI13
  refine g_iconst (pc := 106) (v := 0) (dd d_Img_readNumber 50 rfl) (by decide) ?_
  cases h
  exact g_zret (pc := 107) rfl (by decide) (dd d_Img_readNumber 51 rfl) hT
def b_Img_readNumber_82   (x1 : Int32) (x2 : Int32) (x3 : Int32) (y1 : Int32) (I : IM) : Option (Int32 × IM) := lt (up I 15 3 (y1)) fun I8 => if (I8 15 3 : Int32) < x1 then (b_Img_readNumber_101   x3 I8) else (if (I8 15 3 : Int32) ≤ x2 then (Option.bind (f_Rdr_advance   I8) fun v11 => some (1, v11)) else (b_Img_readNumber_101   x3 I8))
set_option maxRecDepth 20000 in
set_option maxHeartbeats 4000000 in
theorem gb_Img_readNumber_82 {Δ : Dx} {X : Lx} {rl hd ot pt it : Nat} (hX : EX Δ X rl hd ot pt it)    {Γ : Cx} (hk : Γ.k = 1) {r : Int32 × IM} (hT : Tg Δ Γ (some (.int r.1)) NN (r.2, X) 0 0)  {x1 : Int32} {x2 : Int32} {x3 : Int32} {y1 : Int32} {I : IM} (h : b_Img_readNumber_82   x1 x2 x3 y1 I = some r) : GG Δ m_Img_readNumber Γ NN 0 0 (I, X) 82 [some (.ref (Δ.ba + 15)), some (.int (x1)), some (.int (x2)), some (.int (x3)), none] [.int (y1), .ref (Δ.ba + 15)] := by
  unfold b_Img_readNumber_82 at h
  refine g_putiN (pc := 82) (dd d_Img_readNumber 38 rfl) f_Img_61 fm_Img_3 oc_Img rfl (fun I8 hI8 => ?_)
  replace h := lt_e h hI8
  refine g_aload_n (pc := 85) (dd d_Img_readNumber 39 rfl) rfl ?_
  refine g_geti (pc := 86) (dd d_Img_readNumber 40 rfl) f_Img_61 oc_Img rfl ?_
  refine g_iload_n (pc := 89) (dd d_Img_readNumber 41 rfl) rfl ?_
  refine g_icmplt (pc := 90) (tgt := 101) (dd d_Img_readNumber 42 rfl) (by decide) (fun q9 => ?_) (fun q9 => ?_)
  · replace h := ite_t h q9
    refine g_drop [1, 2] ?_
    exact gb_Img_readNumber_101 hX hk hT  h
  · replace h := ite_f h q9
    refine g_aload_n (pc := 93) (dd d_Img_readNumber 43 rfl) rfl ?_
    refine g_geti (pc := 94) (dd d_Img_readNumber 44 rfl) f_Img_61 oc_Img rfl ?_
    refine g_iload_n (pc := 97) (dd d_Img_readNumber 45 rfl) rfl ?_
    refine g_icmple (pc := 98) (tgt := 108) (dd d_Img_readNumber 46 rfl) (by decide) (fun q10 => ?_) (fun q10 => ?_)
    · replace h := ite_t h q10
      refine g_aload_n (pc := 108) (dd d_Img_readNumber 52 rfl) rfl ?_
      refine g_getr (pc := 109) (dd d_Img_readNumber 53 rfl) f_Img_9 oc_Img rfl (rx_Img_0 hX) ?_
      obtain ⟨v11, e12, h⟩ := bnd_e h
      refine g_callV (pc := 112) (dd d_Img_readNumber 54 rfl) v_Img_55 oc_Rdr rfl (ef_Rdr_advance hX e12) rfl (by omega) (Nat.le_of_ble_eq_true rfl) ⟨Nat.zero_le _, Nat.zero_le _⟩ rfl ?_
      refine g_iconst (pc := 115) (v := 1) (dd d_Img_readNumber 55 rfl) (by decide) ?_
      cases h
      exact g_zret (pc := 116) rfl (by decide) (dd d_Img_readNumber 56 rfl) hT
    · replace h := ite_f h q10
      refine g_drop [1, 2] ?_
      exact gb_Img_readNumber_101 hX hk hT  h
def b_Img_readNumber_44   (x1 : Int32) (x2 : Int32) (x3 : Int32) (x4 : Int32) (I : IM) : Option (Int32 × IM) := if (I 1 1 : Int32) = (101 : Int32) then (if x4 = 0 then (b_Img_readNumber_82   x1 x2 x3 (I 1 3) I) else (b_Img_readNumber_82   x1 x2 x3 (-(I 1 3)) I)) else (some (0, I))
set_option maxRecDepth 20000 in
set_option maxHeartbeats 4000000 in
theorem gb_Img_readNumber_44 {Δ : Dx} {X : Lx} {rl hd ot pt it : Nat} (hX : EX Δ X rl hd ot pt it)    {Γ : Cx} (hk : Γ.k = 1) {r : Int32 × IM} (hT : Tg Δ Γ (some (.int r.1)) NN (r.2, X) 0 0)  {x1 : Int32} {x2 : Int32} {x3 : Int32} {x4 : Int32} {I : IM} (h : b_Img_readNumber_44   x1 x2 x3 x4 I = some r) : GG Δ m_Img_readNumber Γ NN 0 0 (I, X) 44 [some (.ref (Δ.ba + 15)), some (.int (x1)), some (.int (x2)), some (.int (x3)), some (.int (x4))] [] := by
  unfold b_Img_readNumber_44 at h
  refine g_aload_n (pc := 44) (dd d_Img_readNumber 20 rfl) rfl ?_
  refine g_getr (pc := 45) (dd d_Img_readNumber 21 rfl) f_Img_9 oc_Img rfl (rx_Img_0 hX) ?_
  refine g_geti (pc := 48) (dd d_Img_readNumber 22 rfl) f_Img_38 oc_Rdr rfl ?_
  refine g_bipush (pc := 51) (v := 101) (dd d_Img_readNumber 23 rfl) (by decide) ?_
  refine g_icmpeq (pc := 53) (tgt := 58) (dd d_Img_readNumber 24 rfl) (by decide) (fun q6 => ?_) (fun q6 => ?_)
  · replace h := ite_t h q6
    refine g_aload_n (pc := 58) (dd d_Img_readNumber 27 rfl) rfl ?_
    refine g_iload (pc := 59) (dd d_Img_readNumber 28 rfl) rfl ?_
    refine g_ifeq (pc := 61) (tgt := 75) (dd d_Img_readNumber 29 rfl) (by decide) (fun q7 => ?_) (fun q7 => ?_)
    · replace h := ite_t h q7
      refine g_aload_n (pc := 75) (dd d_Img_readNumber 35 rfl) rfl ?_
      refine g_getr (pc := 76) (dd d_Img_readNumber 36 rfl) f_Img_9 oc_Img rfl (rx_Img_0 hX) ?_
      refine g_geti (pc := 79) (dd d_Img_readNumber 37 rfl) f_Img_120 oc_Rdr rfl ?_
      refine g_drop [4] ?_
      exact gb_Img_readNumber_82 hX hk hT  h
    · replace h := ite_f h q7
      refine g_aload_n (pc := 64) (dd d_Img_readNumber 30 rfl) rfl ?_
      refine g_getr (pc := 65) (dd d_Img_readNumber 31 rfl) f_Img_9 oc_Img rfl (rx_Img_0 hX) ?_
      refine g_geti (pc := 68) (dd d_Img_readNumber 32 rfl) f_Img_120 oc_Rdr rfl ?_
      refine g_ineg (pc := 71) (dd d_Img_readNumber 33 rfl) ?_
      refine g_goto (pc := 72) (tgt := 82) (dd d_Img_readNumber 34 rfl) (by decide) ?_
      refine g_drop [4] ?_
      exact gb_Img_readNumber_82 hX hk hT  h
  · replace h := ite_f h q6
    refine g_iconst (pc := 56) (v := 0) (dd d_Img_readNumber 25 rfl) (by decide) ?_
    cases h
    exact g_zret (pc := 57) rfl (by decide) (dd d_Img_readNumber 26 rfl) hT
def b_Img_readNumber_30   (x1 : Int32) (x2 : Int32) (x3 : Int32) (y0 : Int32) (I : IM) : Option (Int32 × IM) := if y0 = 0 then (b_Img_readNumber_44   x1 x2 x3 y0 I) else (Option.bind (f_Rdr_advance   I) fun v15 => b_Img_readNumber_44   x1 x2 x3 y0 v15)
set_option maxRecDepth 20000 in
set_option maxHeartbeats 4000000 in
theorem gb_Img_readNumber_30 {Δ : Dx} {X : Lx} {rl hd ot pt it : Nat} (hX : EX Δ X rl hd ot pt it)    {Γ : Cx} (hk : Γ.k = 1) {r : Int32 × IM} (hT : Tg Δ Γ (some (.int r.1)) NN (r.2, X) 0 0)  {x1 : Int32} {x2 : Int32} {x3 : Int32} {y0 : Int32} {I : IM} (h : b_Img_readNumber_30   x1 x2 x3 y0 I = some r) : GG Δ m_Img_readNumber Γ NN 0 0 (I, X) 30 [some (.ref (Δ.ba + 15)), some (.int (x1)), some (.int (x2)), some (.int (x3)), none] [.int (y0)] := by
  unfold b_Img_readNumber_30 at h
  refine g_istore (pc := 30) (dd d_Img_readNumber 14 rfl) (by decide) ?_
  refine g_iload (pc := 32) (dd d_Img_readNumber 15 rfl) rfl ?_
  refine g_ifeq (pc := 34) (tgt := 44) (dd d_Img_readNumber 16 rfl) (by decide) (fun q14 => ?_) (fun q14 => ?_)
  · replace h := ite_t h q14
    exact gb_Img_readNumber_44 hX hk hT  h
  · replace h := ite_f h q14
    refine g_aload_n (pc := 37) (dd d_Img_readNumber 17 rfl) rfl ?_
    refine g_getr (pc := 38) (dd d_Img_readNumber 18 rfl) f_Img_9 oc_Img rfl (rx_Img_0 hX) ?_
    obtain ⟨v15, e16, h⟩ := bnd_e h
    refine g_callV (pc := 41) (dd d_Img_readNumber 19 rfl) v_Img_55 oc_Rdr rfl (ef_Rdr_advance hX e16) rfl (by omega) (Nat.le_of_ble_eq_true rfl) ⟨Nat.zero_le _, Nat.zero_le _⟩ rfl ?_
    exact gb_Img_readNumber_44 hX hk hT  h
def b_Img_readNumber_29   (x1 : Int32) (x2 : Int32) (x3 : Int32) (I : IM) : Option (Int32 × IM) := b_Img_readNumber_30   x1 x2 x3 0 I
set_option maxRecDepth 20000 in
set_option maxHeartbeats 4000000 in
theorem gb_Img_readNumber_29 {Δ : Dx} {X : Lx} {rl hd ot pt it : Nat} (hX : EX Δ X rl hd ot pt it)    {Γ : Cx} (hk : Γ.k = 1) {r : Int32 × IM} (hT : Tg Δ Γ (some (.int r.1)) NN (r.2, X) 0 0)  {x1 : Int32} {x2 : Int32} {x3 : Int32} {I : IM} (h : b_Img_readNumber_29   x1 x2 x3 I = some r) : GG Δ m_Img_readNumber Γ NN 0 0 (I, X) 29 [some (.ref (Δ.ba + 15)), some (.int (x1)), some (.int (x2)), some (.int (x3)), none] [] := by
  unfold b_Img_readNumber_29 at h
  refine g_iconst (pc := 29) (v := 0) (dd d_Img_readNumber 13 rfl) (by decide) ?_
  exact gb_Img_readNumber_30 hX hk hT  h
def f_Img_readNumber (x1 : Int32) (x2 : Int32) (I : IM) : Option (Int32 × IM) := if 0 ≤ x1 then (b_Img_readNumber_29   x1 x2 (I 1 2) I) else (if (if (I 1 1 : Int32) = (173 : Int32) then 1 else 0 : Int32) = 0 then (b_Img_readNumber_44   x1 x2 (I 1 2) (if (I 1 1 : Int32) = (173 : Int32) then 1 else 0) I) else (Option.bind (f_Rdr_advance   I) fun v4 => b_Img_readNumber_44   x1 x2 (I 1 2) (if (I 1 1 : Int32) = (173 : Int32) then 1 else 0) v4))
set_option maxRecDepth 20000 in
set_option maxHeartbeats 4000000 in
theorem ef_Img_readNumber {Δ : Dx} {X : Lx} {rl hd ot pt it : Nat} (hX : EX Δ X rl hd ot pt it) {x1 : Int32} {x2 : Int32}  {I : IM}  {r : Int32 × IM} (h : f_Img_readNumber x1 x2 I = some r) : Ev Δ (1) m_Img_readNumber [.ref (Δ.ba + 15), .int x1, .int x2] (I, X) (some (.int r.1)) (r.2, X) := by
  refine ev_of (by decide) (Nat.le_of_ble_eq_true rfl) (fun Γ hk hR hT => ?_)
  change GG Δ m_Img_readNumber Γ NN 0 0 (I, X) 0 [some (.ref (Δ.ba + 15)), some (.int (x1)), some (.int (x2)), none, none] []
  unfold f_Img_readNumber at h
  refine g_aload_n (pc := 0) (dd d_Img_readNumber 0 rfl) rfl ?_
  refine g_getr (pc := 1) (dd d_Img_readNumber 1 rfl) f_Img_9 oc_Img rfl (rx_Img_0 hX) ?_
  refine g_geti (pc := 4) (dd d_Img_readNumber 2 rfl) f_Img_52 oc_Rdr rfl ?_
  refine g_istore_n (pc := 7) (dd d_Img_readNumber 3 rfl) (by decide) ?_
  refine g_iload_n (pc := 8) (dd d_Img_readNumber 4 rfl) rfl ?_
  refine g_ifge (pc := 9) (tgt := 29) (dd d_Img_readNumber 5 rfl) (by decide) (fun q1 => ?_) (fun q1 => ?_)
  · replace h := ite_t h q1
    exact gb_Img_readNumber_29 hX hk hT  h
  · replace h := ite_f h q1
    refine g_aload_n (pc := 12) (dd d_Img_readNumber 6 rfl) rfl ?_
    refine g_getr (pc := 13) (dd d_Img_readNumber 7 rfl) f_Img_9 oc_Img rfl (rx_Img_0 hX) ?_
    refine g_geti (pc := 16) (dd d_Img_readNumber 8 rfl) f_Img_38 oc_Rdr rfl ?_
    refine g_sipush (pc := 19) (v := 173) (dd d_Img_readNumber 9 rfl) (by decide) ?_
    suffices K22 : ∀ z : Int32, z = (if (I 1 1 : Int32) = (173 : Int32) then 1 else 0 : Int32) → GG Δ m_Img_readNumber Γ NN 0 0 (I, X) 30 [some (.ref (Δ.ba + 15)), some (.int (x1)), some (.int (x2)), some (.int (I 1 2)), none] [.int (z)] by
      refine g_icmpne (pc := 22) (tgt := 29) (dd d_Img_readNumber 10 rfl) (by decide) (fun q2 => ?_) (fun q2 => ?_)
      · skip
        refine g_iconst (pc := 29) (v := 0) (dd d_Img_readNumber 13 rfl) (by decide) ?_
        exact K22 _ (by rw [if_neg q2])
      · skip
        refine g_iconst (pc := 25) (v := 1) (dd d_Img_readNumber 11 rfl) (by decide) ?_
        refine g_goto (pc := 26) (tgt := 30) (dd d_Img_readNumber 12 rfl) (by decide) ?_
        exact K22 _ (by rw [if_pos q2])
    intro z hz
    subst hz
    refine g_istore (pc := 30) (dd d_Img_readNumber 14 rfl) (by decide) ?_
    refine g_iload (pc := 32) (dd d_Img_readNumber 15 rfl) rfl ?_
    refine g_ifeq (pc := 34) (tgt := 44) (dd d_Img_readNumber 16 rfl) (by decide) (fun q3 => ?_) (fun q3 => ?_)
    · replace h := ite_t h q3
      exact gb_Img_readNumber_44 hX hk hT  h
    · replace h := ite_f h q3
      refine g_aload_n (pc := 37) (dd d_Img_readNumber 17 rfl) rfl ?_
      refine g_getr (pc := 38) (dd d_Img_readNumber 18 rfl) f_Img_9 oc_Img rfl (rx_Img_0 hX) ?_
      obtain ⟨v4, e5, h⟩ := bnd_e h
      refine g_callV (pc := 41) (dd d_Img_readNumber 19 rfl) v_Img_55 oc_Rdr rfl (ef_Rdr_advance hX e5) rfl (by omega) (Nat.le_of_ble_eq_true rfl) ⟨Nat.zero_le _, Nat.zero_le _⟩ rfl ?_
      exact gb_Img_readNumber_44 hX hk hT  h
def f_Img_readAny  (I : IM) : Option (Int32 × IM) := Option.bind (f_Img_readNumber  (-9999999) 9999999 I) fun v1 => chk ((v1.1 : Int32) = 0 ∨ (v1.1 : Int32) = 1) <| some (v1.1, v1.2)
set_option maxRecDepth 20000 in
set_option maxHeartbeats 4000000 in
theorem ef_Img_readAny {Δ : Dx} {X : Lx} {rl hd ot pt it : Nat} (hX : EX Δ X rl hd ot pt it)   {I : IM}  {r : Int32 × IM} (h : f_Img_readAny  I = some r) : Ev Δ (2) m_Img_readAny [.ref (Δ.ba + 15)] (I, X) (some (.int r.1)) (r.2, X) := by
  refine ev_of (by decide) (Nat.le_of_ble_eq_true rfl) (fun Γ hk hR hT => ?_)
  change GG Δ m_Img_readAny Γ NN 0 0 (I, X) 0 [some (.ref (Δ.ba + 15))] []
  unfold f_Img_readAny at h
  refine g_aload_n (pc := 0) (dd d_Img_readAny 0 rfl) rfl ?_
  refine g_ldc (pc := 1) (dd d_Img_readAny 1 rfl) c_Img_100 ?_
  refine g_ldc (pc := 3) (dd d_Img_readAny 2 rfl) c_Img_101 ?_
  obtain ⟨v1, e2, h⟩ := bnd_e h
  refine g_callV (pc := 5) (dd d_Img_readAny 3 rfl) v_Img_82 oc_Img rfl (ef_Img_readNumber hX e2) rfl (by omega) (Nat.le_of_ble_eq_true rfl) ⟨Nat.zero_le _, Nat.zero_le _⟩ rfl ?_
  obtain ⟨c3, h⟩ := chk_e h
  cases h
  exact g_zret (pc := 8) rfl c3 (dd d_Img_readAny 4 rfl) hT
def f_Rdr_take (x1 : Int32) (I : IM) : Option (Int32 × IM) := if (I 1 1 : Int32) = x1 then (Option.bind (f_Rdr_advance   I) fun v2 => some (1, v2)) else (some (0, I))
set_option maxRecDepth 20000 in
set_option maxHeartbeats 4000000 in
theorem ef_Rdr_take {Δ : Dx} {X : Lx} {rl hd ot pt it : Nat} (hX : EX Δ X rl hd ot pt it) {x1 : Int32}  {I : IM}  {r : Int32 × IM} (h : f_Rdr_take x1 I = some r) : Ev Δ (1) m_Rdr_take [.ref (Δ.ba + 1), .int x1] (I, X) (some (.int r.1)) (r.2, X) := by
  refine ev_of (by decide) (Nat.le_of_ble_eq_true rfl) (fun Γ hk hR hT => ?_)
  change GG Δ m_Rdr_take Γ NN 0 0 (I, X) 0 [some (.ref (Δ.ba + 1)), some (.int (x1))] []
  unfold f_Rdr_take at h
  refine g_aload_n (pc := 0) (dd d_Rdr_take 0 rfl) rfl ?_
  refine g_geti (pc := 1) (dd d_Rdr_take 1 rfl) f_Rdr_62 oc_Rdr rfl ?_
  refine g_iload_n (pc := 4) (dd d_Rdr_take 2 rfl) rfl ?_
  refine g_icmpeq (pc := 5) (tgt := 10) (dd d_Rdr_take 3 rfl) (by decide) (fun q1 => ?_) (fun q1 => ?_)
  · replace h := ite_t h q1
    refine g_aload_n (pc := 10) (dd d_Rdr_take 6 rfl) rfl ?_
    obtain ⟨v2, e3, h⟩ := bnd_e h
    refine g_callV (pc := 11) (dd d_Rdr_take 7 rfl) v_Rdr_59 oc_Rdr rfl (ef_Rdr_advance hX e3) rfl (by omega) (Nat.le_of_ble_eq_true rfl) ⟨Nat.zero_le _, Nat.zero_le _⟩ rfl ?_
    refine g_iconst (pc := 14) (v := 1) (dd d_Rdr_take 8 rfl) (by decide) ?_
    cases h
    exact g_zret (pc := 15) rfl (by decide) (dd d_Rdr_take 9 rfl) hT
  · replace h := ite_f h q1
    refine g_iconst (pc := 8) (v := 0) (dd d_Rdr_take 4 rfl) (by decide) ?_
    cases h
    exact g_zret (pc := 9) rfl (by decide) (dd d_Rdr_take 5 rfl) hT
def f_Img_readClear (it : Nat) (I : IM) : Option (Int32 × IM) := Option.bind (f_Rdr_advance   I) fun v1 => Option.bind (f_Img_readAny   v1) fun v3 => if (v3.1 : Int32) = 0 then (some (0, v3.2)) else (lt (up v3.2 it 0 (v3.2 15 3)) fun I6 => Option.bind (f_Rdr_take  187 I6) fun v7 => chk ((v7.1 : Int32) = 0 ∨ (v7.1 : Int32) = 1) <| some (v7.1, v7.2))
set_option maxRecDepth 20000 in
set_option maxHeartbeats 4000000 in
theorem ef_Img_readClear {Δ : Dx} {X : Lx} {rl hd ot pt it : Nat} (hX : EX Δ X rl hd ot pt it)   {I : IM}  {r : Int32 × IM} (h : f_Img_readClear it I = some r) : Ev Δ (3) m_Img_readClear [.ref (Δ.ba + 15)] (I, X) (some (.int r.1)) (r.2, X) := by
  refine ev_of (by decide) (Nat.le_of_ble_eq_true rfl) (fun Γ hk hR hT => ?_)
  change GG Δ m_Img_readClear Γ NN 0 0 (I, X) 0 [some (.ref (Δ.ba + 15))] []
  unfold f_Img_readClear at h
  refine g_aload_n (pc := 0) (dd d_Img_readClear 0 rfl) rfl ?_
  refine g_getr (pc := 1) (dd d_Img_readClear 1 rfl) f_Img_9 oc_Img rfl (rx_Img_0 hX) ?_
  obtain ⟨v1, e2, h⟩ := bnd_e h
  refine g_callV (pc := 4) (dd d_Img_readClear 2 rfl) v_Img_55 oc_Rdr rfl (ef_Rdr_advance hX e2) rfl (by omega) (Nat.le_of_ble_eq_true rfl) ⟨Nat.zero_le _, Nat.zero_le _⟩ rfl ?_
  refine g_aload_n (pc := 7) (dd d_Img_readClear 3 rfl) rfl ?_
  obtain ⟨v3, e4, h⟩ := bnd_e h
  refine g_callV (pc := 8) (dd d_Img_readClear 4 rfl) v_Img_58 oc_Img rfl (ef_Img_readAny hX e4) rfl (by omega) (Nat.le_of_ble_eq_true rfl) ⟨Nat.zero_le _, Nat.zero_le _⟩ rfl ?_
  refine g_ifne (pc := 11) (tgt := 16) (dd d_Img_readClear 5 rfl) (by decide) (fun q5 => ?_) (fun q5 => ?_)
  · replace h := ite_f h q5
    refine g_aload_n (pc := 16) (dd d_Img_readClear 8 rfl) rfl ?_
    refine g_getr (pc := 17) (dd d_Img_readClear 9 rfl) f_Img_18 oc_Img rfl hX.r_it ?_
    refine g_aload_n (pc := 20) (dd d_Img_readClear 10 rfl) rfl ?_
    refine g_geti (pc := 21) (dd d_Img_readClear 11 rfl) f_Img_61 oc_Img rfl ?_
    refine g_putiN (pc := 24) (dd d_Img_readClear 12 rfl) f_Img_64 fm_Mch_0 (oc_Mch hX.i_it) rfl (fun I6 hI6 => ?_)
    replace h := lt_e h hI6
    refine g_aload_n (pc := 27) (dd d_Img_readClear 13 rfl) rfl ?_
    refine g_getr (pc := 28) (dd d_Img_readClear 14 rfl) f_Img_9 oc_Img rfl (rx_Img_0 hX) ?_
    refine g_sipush (pc := 31) (v := 187) (dd d_Img_readClear 15 rfl) (by decide) ?_
    obtain ⟨v7, e8, h⟩ := bnd_e h
    refine g_callV (pc := 34) (dd d_Img_readClear 16 rfl) v_Img_48 oc_Rdr rfl (ef_Rdr_take hX e8) rfl (by omega) (Nat.le_of_ble_eq_true rfl) ⟨Nat.zero_le _, Nat.zero_le _⟩ rfl ?_
    obtain ⟨c9, h⟩ := chk_e h
    cases h
    exact g_zret (pc := 37) rfl c9 (dd d_Img_readClear 17 rfl) hT
  · replace h := ite_t h q5
    refine g_iconst (pc := 14) (v := 0) (dd d_Img_readClear 6 rfl) (by decide) ?_
    cases h
    exact g_zret (pc := 15) rfl (by decide) (dd d_Img_readClear 7 rfl) hT
def f_Img_fieldBit (x0 : Int32) (I : IM) : Option (Int32) := if x0 = 23 then (some (1)) else (if x0 = 24 then (some (2)) else (if x0 = 25 then (some (4)) else (if x0 = 32 then (some (8)) else (if x0 = 42 then (some (16)) else (some (0))))))
set_option maxRecDepth 20000 in
set_option maxHeartbeats 4000000 in
theorem ef_Img_fieldBit {Δ : Dx} {X : Lx} {rl hd ot pt it : Nat} (hX : EX Δ X rl hd ot pt it) {x0 : Int32}  {I : IM}  {r : Int32} (h : f_Img_fieldBit x0 I = some r) : Ev Δ (0) m_Img_fieldBit [.int x0] (I, X) (some (.int r)) (I, X) := by
  refine ev_of (by decide) (Nat.le_of_ble_eq_true rfl) (fun Γ hk hR hT => ?_)
  change GG Δ m_Img_fieldBit Γ NN 0 0 (I, X) 0 [some (.int (x0))] []
  unfold f_Img_fieldBit at h
  refine g_iload_n (pc := 0) (dd d_Img_fieldBit 0 rfl) rfl ?_
  refine g_lookupC (pc := 1) (dd d_Img_fieldBit 1 rfl) (by decide) (List.forall_mem_cons.mpr ⟨fun w1 => ⟨52, by decide, ?_⟩, List.forall_mem_cons.mpr ⟨fun w1 => ⟨54, by decide, ?_⟩, List.forall_mem_cons.mpr ⟨fun w1 => ⟨56, by decide, ?_⟩, List.forall_mem_cons.mpr ⟨fun w1 => ⟨58, by decide, ?_⟩, List.forall_mem_cons.mpr ⟨fun w1 => ⟨61, by decide, ?_⟩, (fun _ h => absurd h List.not_mem_nil)⟩⟩⟩⟩⟩) (fun w1 => ⟨64, by decide, ?_⟩)
  · replace w1 : x0 = 23 := Int32.toInt_inj.mp w1
    replace h := ite_t h w1
    refine g_iconst (pc := 52) (v := 1) (dd d_Img_fieldBit 2 rfl) (by decide) ?_
    cases h
    exact g_iret (pc := 53) rfl (dd d_Img_fieldBit 3 rfl) hT
  · replace w1 : x0 = 24 := Int32.toInt_inj.mp w1
    replace h := ite_f h (by rw [w1]; decide)
    replace h := ite_t h w1
    refine g_iconst (pc := 54) (v := 2) (dd d_Img_fieldBit 4 rfl) (by decide) ?_
    cases h
    exact g_iret (pc := 55) rfl (dd d_Img_fieldBit 5 rfl) hT
  · replace w1 : x0 = 25 := Int32.toInt_inj.mp w1
    replace h := ite_f h (by rw [w1]; decide)
    replace h := ite_f h (by rw [w1]; decide)
    replace h := ite_t h w1
    refine g_iconst (pc := 56) (v := 4) (dd d_Img_fieldBit 6 rfl) (by decide) ?_
    cases h
    exact g_iret (pc := 57) rfl (dd d_Img_fieldBit 7 rfl) hT
  · replace w1 : x0 = 32 := Int32.toInt_inj.mp w1
    replace h := ite_f h (by rw [w1]; decide)
    replace h := ite_f h (by rw [w1]; decide)
    replace h := ite_f h (by rw [w1]; decide)
    replace h := ite_t h w1
    refine g_bipush (pc := 58) (v := 8) (dd d_Img_fieldBit 8 rfl) (by decide) ?_
    cases h
    exact g_iret (pc := 60) rfl (dd d_Img_fieldBit 9 rfl) hT
  · replace w1 : x0 = 42 := Int32.toInt_inj.mp w1
    replace h := ite_f h (by rw [w1]; decide)
    replace h := ite_f h (by rw [w1]; decide)
    replace h := ite_f h (by rw [w1]; decide)
    replace h := ite_f h (by rw [w1]; decide)
    replace h := ite_t h w1
    refine g_bipush (pc := 61) (v := 16) (dd d_Img_fieldBit 10 rfl) (by decide) ?_
    cases h
    exact g_iret (pc := 63) rfl (dd d_Img_fieldBit 11 rfl) hT
  · skip
    replace h := ite_f h (fun e => w1 (23, 51) (by decide) (by rw [e]; rfl))
    replace h := ite_f h (fun e => w1 (24, 53) (by decide) (by rw [e]; rfl))
    replace h := ite_f h (fun e => w1 (25, 55) (by decide) (by rw [e]; rfl))
    replace h := ite_f h (fun e => w1 (32, 57) (by decide) (by rw [e]; rfl))
    replace h := ite_f h (fun e => w1 (42, 60) (by decide) (by rw [e]; rfl))
    refine g_iconst (pc := 64) (v := 0) (dd d_Img_fieldBit 12 rfl) (by decide) ?_
    cases h
    exact g_iret (pc := 65) rfl (dd d_Img_fieldBit 13 rfl) hT
def f_Img_readFieldNumber (x1 : Int32) (I : IM) : Option (Int32 × IM) := if x1 = (42 : Int32) then (Option.bind (f_Img_readNumber  (-9999999) 9999999 I) fun v9 => chk ((v9.1 : Int32) = 0 ∨ (v9.1 : Int32) = 1) <| some (v9.1, v9.2)) else (if x1 = (32 : Int32) then (Option.bind (f_Img_readNumber  (-32768) 32767 I) fun v6 => chk ((v6.1 : Int32) = 0 ∨ (v6.1 : Int32) = 1) <| some (v6.1, v6.2)) else (Option.bind (f_Img_readNumber  0 7 I) fun v3 => chk ((v3.1 : Int32) = 0 ∨ (v3.1 : Int32) = 1) <| some (v3.1, v3.2)))
set_option maxRecDepth 20000 in
set_option maxHeartbeats 4000000 in
theorem ef_Img_readFieldNumber {Δ : Dx} {X : Lx} {rl hd ot pt it : Nat} (hX : EX Δ X rl hd ot pt it) {x1 : Int32}  {I : IM}  {r : Int32 × IM} (h : f_Img_readFieldNumber x1 I = some r) : Ev Δ (2) m_Img_readFieldNumber [.ref (Δ.ba + 15), .int x1] (I, X) (some (.int r.1)) (r.2, X) := by
  refine ev_of (by decide) (Nat.le_of_ble_eq_true rfl) (fun Γ hk hR hT => ?_)
  change GG Δ m_Img_readFieldNumber Γ NN 0 0 (I, X) 0 [some (.ref (Δ.ba + 15)), some (.int (x1))] []
  unfold f_Img_readFieldNumber at h
  refine g_iload_n (pc := 0) (dd d_Img_readFieldNumber 0 rfl) rfl ?_
  refine g_bipush (pc := 1) (v := 42) (dd d_Img_readFieldNumber 1 rfl) (by decide) ?_
  refine g_icmpne (pc := 3) (tgt := 15) (dd d_Img_readFieldNumber 2 rfl) (by decide) (fun q1 => ?_) (fun q1 => ?_)
  · replace h := ite_f h q1
    refine g_iload_n (pc := 15) (dd d_Img_readFieldNumber 8 rfl) rfl ?_
    refine g_bipush (pc := 16) (v := 32) (dd d_Img_readFieldNumber 9 rfl) (by decide) ?_
    refine g_icmpne (pc := 18) (tgt := 32) (dd d_Img_readFieldNumber 10 rfl) (by decide) (fun q2 => ?_) (fun q2 => ?_)
    · replace h := ite_f h q2
      refine g_aload_n (pc := 32) (dd d_Img_readFieldNumber 16 rfl) rfl ?_
      refine g_iconst (pc := 33) (v := 0) (dd d_Img_readFieldNumber 17 rfl) (by decide) ?_
      refine g_bipush (pc := 34) (v := 7) (dd d_Img_readFieldNumber 18 rfl) (by decide) ?_
      obtain ⟨v3, e4, h⟩ := bnd_e h
      refine g_callV (pc := 36) (dd d_Img_readFieldNumber 19 rfl) v_Img_82 oc_Img rfl (ef_Img_readNumber hX e4) rfl (by omega) (Nat.le_of_ble_eq_true rfl) ⟨Nat.zero_le _, Nat.zero_le _⟩ rfl ?_
      obtain ⟨c5, h⟩ := chk_e h
      cases h
      exact g_zret (pc := 39) rfl c5 (dd d_Img_readFieldNumber 20 rfl) hT
    · replace h := ite_t h q2
      refine g_aload_n (pc := 21) (dd d_Img_readFieldNumber 11 rfl) rfl ?_
      refine g_sipush (pc := 22) (v := (-32768)) (dd d_Img_readFieldNumber 12 rfl) (by decide) ?_
      refine g_sipush (pc := 25) (v := 32767) (dd d_Img_readFieldNumber 13 rfl) (by decide) ?_
      obtain ⟨v6, e7, h⟩ := bnd_e h
      refine g_callV (pc := 28) (dd d_Img_readFieldNumber 14 rfl) v_Img_82 oc_Img rfl (ef_Img_readNumber hX e7) rfl (by omega) (Nat.le_of_ble_eq_true rfl) ⟨Nat.zero_le _, Nat.zero_le _⟩ rfl ?_
      obtain ⟨c8, h⟩ := chk_e h
      cases h
      exact g_zret (pc := 31) rfl c8 (dd d_Img_readFieldNumber 15 rfl) hT
  · replace h := ite_t h q1
    refine g_aload_n (pc := 6) (dd d_Img_readFieldNumber 3 rfl) rfl ?_
    refine g_ldc (pc := 7) (dd d_Img_readFieldNumber 4 rfl) c_Img_100 ?_
    refine g_ldc (pc := 9) (dd d_Img_readFieldNumber 5 rfl) c_Img_101 ?_
    obtain ⟨v9, e10, h⟩ := bnd_e h
    refine g_callV (pc := 11) (dd d_Img_readFieldNumber 6 rfl) v_Img_82 oc_Img rfl (ef_Img_readNumber hX e10) rfl (by omega) (Nat.le_of_ble_eq_true rfl) ⟨Nat.zero_le _, Nat.zero_le _⟩ rfl ?_
    obtain ⟨c11, h⟩ := chk_e h
    cases h
    exact g_zret (pc := 14) rfl c11 (dd d_Img_readFieldNumber 7 rfl) hT
def f_Img_fieldShift (x0 : Int32) (I : IM) : Option (Int32) := if x0 = 23 then (some (5)) else (if x0 = 24 then (some (8)) else (if x0 = 25 then (some (11)) else (some (16))))
set_option maxRecDepth 20000 in
set_option maxHeartbeats 4000000 in
theorem ef_Img_fieldShift {Δ : Dx} {X : Lx} {rl hd ot pt it : Nat} (hX : EX Δ X rl hd ot pt it) {x0 : Int32}  {I : IM}  {r : Int32} (h : f_Img_fieldShift x0 I = some r) : Ev Δ (0) m_Img_fieldShift [.int x0] (I, X) (some (.int r)) (I, X) := by
  refine ev_of (by decide) (Nat.le_of_ble_eq_true rfl) (fun Γ hk hR hT => ?_)
  change GG Δ m_Img_fieldShift Γ NN 0 0 (I, X) 0 [some (.int (x0))] []
  unfold f_Img_fieldShift at h
  refine g_iload_n (pc := 0) (dd d_Img_fieldShift 0 rfl) rfl ?_
  refine g_tableC (pc := 1) (dd d_Img_fieldShift 1 rfl) (fun i off ho w1 => ?_) (by decide) (fun w1 => ⟨36, by decide, ?_⟩)
  · rcases i with _ | _ | _ | i
    · obtain rfl : off = 27 := (Option.some.inj ho).symm
      refine ⟨28, by decide, ?_⟩
      replace w1 : x0 = 23 := Int32.toInt_inj.mp w1
      replace h := ite_t h w1
      refine g_iconst (pc := 28) (v := 5) (dd d_Img_fieldShift 2 rfl) (by decide) ?_
      cases h
      exact g_iret (pc := 29) rfl (dd d_Img_fieldShift 3 rfl) hT
    · obtain rfl : off = 29 := (Option.some.inj ho).symm
      refine ⟨30, by decide, ?_⟩
      replace w1 : x0 = 24 := Int32.toInt_inj.mp w1
      replace h := ite_f h (by rw [w1]; decide)
      replace h := ite_t h w1
      refine g_bipush (pc := 30) (v := 8) (dd d_Img_fieldShift 4 rfl) (by decide) ?_
      cases h
      exact g_iret (pc := 32) rfl (dd d_Img_fieldShift 5 rfl) hT
    · obtain rfl : off = 32 := (Option.some.inj ho).symm
      refine ⟨33, by decide, ?_⟩
      replace w1 : x0 = 25 := Int32.toInt_inj.mp w1
      replace h := ite_f h (by rw [w1]; decide)
      replace h := ite_f h (by rw [w1]; decide)
      replace h := ite_t h w1
      refine g_bipush (pc := 33) (v := 11) (dd d_Img_fieldShift 6 rfl) (by decide) ?_
      cases h
      exact g_iret (pc := 35) rfl (dd d_Img_fieldShift 7 rfl) hT
    · cases ho
  · skip
    replace w1 : x0.toInt < 23 ∨ 25 < x0.toInt := w1
    replace h := ite_f h (fun e => by rw [e] at w1; revert w1; decide)
    replace h := ite_f h (fun e => by rw [e] at w1; revert w1; decide)
    replace h := ite_f h (fun e => by rw [e] at w1; revert w1; decide)
    refine g_bipush (pc := 36) (v := 16) (dd d_Img_fieldShift 8 rfl) (by decide) ?_
    cases h
    exact g_iret (pc := 38) rfl (dd d_Img_fieldShift 9 rfl) hT
def b_Img_readInstruction_16 (n : Nat) (it : Nat)   (I : IM) : Option (Int32 × IM) := some (0, I)
set_option maxRecDepth 20000 in
set_option maxHeartbeats 4000000 in
theorem gb_Img_readInstruction_16 {Δ : Dx} {X : Lx} {rl hd ot pt it : Nat} (hX : EX Δ X rl hd ot pt it)   {n : Nat} {Γ : Cx} (hk : Γ.k = 3) {r : Int32 × IM} (hT : Tg Δ Γ (some (.int r.1)) NN (r.2, X) 0 0)   {I : IM} (h : b_Img_readInstruction_16 n it   I = some r) : GG Δ m_Img_readInstruction Γ NN 0 0 (I, X) 16 [none, none, none, none, none, none, none, none] [] := by
  unfold b_Img_readInstruction_16 at h
  refine g_iconst (pc := 16) (v := 0) (dd d_Img_readInstruction 7 rfl) (by decide) ?_
  cases h
  exact g_zret (pc := 17) rfl (by decide) (dd d_Img_readInstruction 8 rfl) hT
def b_Img_readInstruction_128 (n : Nat) (it : Nat) (H35 : Int32 → Int32 → Int32 → Int32 → IM → Option (Int32 × IM)) (x2 : Int32) (x3 : Int32) (x4 : Int32) (x5 : Int32) (I : IM) : Option (Int32 × IM) := H35 x2 x3 x4 (x5 + 1) I
set_option maxRecDepth 20000 in
set_option maxHeartbeats 4000000 in
theorem gb_Img_readInstruction_128 {Δ : Dx} {X : Lx} {rl hd ot pt it : Nat} (hX : EX Δ X rl hd ot pt it)   {n : Nat} {Γ : Cx} (hk : Γ.k = 3) {r : Int32 × IM} (hT : Tg Δ Γ (some (.int r.1)) NN (r.2, X) 0 0) {H35 : Int32 → Int32 → Int32 → Int32 → IM → Option (Int32 × IM)} (hH35 : ∀ (x2 : Int32) (x3 : Int32) (x4 : Int32) (x5 : Int32) (I : IM), H35 x2 x3 x4 x5 I = some r → GG Δ m_Img_readInstruction Γ NN 0 0 (I, X) 35 [some (.ref (Δ.ba + 15)), none, some (.int (x2)), some (.int (x3)), some (.int (x4)), some (.int (x5)), none, none] []) {x2 : Int32} {x3 : Int32} {x4 : Int32} {x5 : Int32} {I : IM} (h : b_Img_readInstruction_128 n it H35 x2 x3 x4 x5 I = some r) : GG Δ m_Img_readInstruction Γ NN 0 0 (I, X) 128 [some (.ref (Δ.ba + 15)), none, some (.int (x2)), some (.int (x3)), some (.int (x4)), some (.int (x5)), none, none] [] := by
  unfold b_Img_readInstruction_128 at h
  refine g_iincW (pc := 128) (w := 1) (dd d_Img_readInstruction_1 5 rfl) rfl (by decide) (by decide) ?_
  refine g_goto (pc := 131) (tgt := 35) (dd d_Img_readInstruction_1 6 rfl) (by decide) ?_
  exact hH35 _ _ _ _ _ h
def b_Img_readInstruction_134 (n : Nat) (it : Nat)  (x2 : Int32) (x3 : Int32) (I : IM) : Option (Int32 × IM) := Option.bind (f_Mch_setCode  it (I 15 2) x2 x3 I) fun v18 => lt (up v18 15 2 ((v18 15 2) + 1)) fun I20 => some (1, I20)
set_option maxRecDepth 20000 in
set_option maxHeartbeats 4000000 in
theorem gb_Img_readInstruction_134 {Δ : Dx} {X : Lx} {rl hd ot pt it : Nat} (hX : EX Δ X rl hd ot pt it)   {n : Nat} {Γ : Cx} (hk : Γ.k = 3) {r : Int32 × IM} (hT : Tg Δ Γ (some (.int r.1)) NN (r.2, X) 0 0)  {x2 : Int32} {x3 : Int32} {I : IM} (h : b_Img_readInstruction_134 n it  x2 x3 I = some r) : GG Δ m_Img_readInstruction Γ NN 0 0 (I, X) 134 [some (.ref (Δ.ba + 15)), none, some (.int (x2)), some (.int (x3)), none, none, none, none] [] := by
  unfold b_Img_readInstruction_134 at h
  refine g_aload_n (pc := 134) (dd d_Img_readInstruction_1 7 rfl) rfl ?_
  refine g_getr (pc := 135) (dd d_Img_readInstruction_1 8 rfl) f_Img_18 oc_Img rfl hX.r_it ?_
  refine g_aload_n (pc := 138) (dd d_Img_readInstruction_1 9 rfl) rfl ?_
  refine g_geti (pc := 139) (dd d_Img_readInstruction_1 10 rfl) f_Img_26 oc_Img rfl ?_
  refine g_iload_n (pc := 142) (dd d_Img_readInstruction_1 11 rfl) rfl ?_
  refine g_iload_n (pc := 143) (dd d_Img_readInstruction_1 12 rfl) rfl ?_
  obtain ⟨v18, e19, h⟩ := bnd_e h
  refine g_callV (pc := 144) (dd d_Img_readInstruction_1 13 rfl) v_Img_96 (oc_Mch hX.i_it) rfl (ef_Mch_setCode hX hX.i_it e19) rfl (by omega) (Nat.le_of_ble_eq_true rfl) ⟨Nat.zero_le _, Nat.zero_le _⟩ rfl ?_
  refine g_aload_n (pc := 147) (dd d_Img_readInstruction_1 14 rfl) rfl ?_
  refine g_dup (pc := 148) (dd d_Img_readInstruction_1 15 rfl) rfl ?_
  refine g_geti (pc := 149) (dd d_Img_readInstruction_1 16 rfl) f_Img_26 oc_Img rfl ?_
  refine g_iconst (pc := 152) (v := 1) (dd d_Img_readInstruction_1 17 rfl) (by decide) ?_
  refine g_iadd (pc := 153) (dd d_Img_readInstruction_1 18 rfl) ?_
  refine g_putiN (pc := 154) (dd d_Img_readInstruction_1 19 rfl) f_Img_26 fm_Img_2 oc_Img rfl (fun I20 hI20 => ?_)
  replace h := lt_e h hI20
  refine g_iconst (pc := 157) (v := 1) (dd d_Img_readInstruction_1 20 rfl) (by decide) ?_
  cases h
  exact g_zret (pc := 158) rfl (by decide) (dd d_Img_readInstruction_1 21 rfl) hT
def l_Img_readInstruction_35 (n : Nat) (it : Nat)  : Nat → Int32 → Int32 → Int32 → Int32 → IM → Option (Int32 × IM)
  | 0, _, _, _, _, _ => none
  | f + 1, x2, x3, x4, x5, I => if (900 : Int32) ≤ x5 then (b_Img_readInstruction_134 n it  x2 x3 I) else (Option.bind (f_Img_fieldBit  (I 1 1) I) fun v6 => if v6 = 0 then (b_Img_readInstruction_134 n it  x2 x3 I) else (if (x4 &&& v6 : Int32) = 0 then (Option.bind (f_Rdr_advance   I) fun v10 => Option.bind (f_Img_readFieldNumber  (I 1 1) v10) fun v12 => if (v12.1 : Int32) = 0 then (some (0, v12.2)) else (if (I 1 1 : Int32) = (42 : Int32) then (b_Img_readInstruction_128 n it (l_Img_readInstruction_35 n it  f) x2 (v12.2 15 3) (x4 ||| v6) x5 v12.2) else (Option.bind (f_Img_fieldShift  (I 1 1) v12.2) fun v16 => b_Img_readInstruction_128 n it (l_Img_readInstruction_35 n it  f) (x2 ||| ((v12.2 15 3 : Int32) <<< ((v16 : Int32) &&& 31))) x3 (x4 ||| v6) x5 v12.2))) else (b_Img_readInstruction_134 n it  x2 x3 I)))
set_option maxRecDepth 20000 in
set_option maxHeartbeats 4000000 in
theorem gl_Img_readInstruction_35 {Δ : Dx} {X : Lx} {rl hd ot pt it : Nat} (hX : EX Δ X rl hd ot pt it)   {n : Nat} {Γ : Cx} (hk : Γ.k = 3) {r : Int32 × IM} (hT : Tg Δ Γ (some (.int r.1)) NN (r.2, X) 0 0)  : ∀ (f : Nat) (x2 : Int32) (x3 : Int32) (x4 : Int32) (x5 : Int32) (I : IM), l_Img_readInstruction_35 n it  f x2 x3 x4 x5 I = some r → GG Δ m_Img_readInstruction Γ NN 0 0 (I, X) 35 [some (.ref (Δ.ba + 15)), none, some (.int (x2)), some (.int (x3)), some (.int (x4)), some (.int (x5)), none, none] []
  | 0, _, _, _, _, _, h => by cases h
  | f + 1, x2, x3, x4, x5, I, h => by
    have ih := gl_Img_readInstruction_35 (n := n) hX hk hT  f
    rw [l_Img_readInstruction_35] at h
    refine g_iload (pc := 35) (dd d_Img_readInstruction 20 rfl) rfl ?_
    refine g_sipush (pc := 37) (v := 900) (dd d_Img_readInstruction 21 rfl) (by decide) ?_
    refine g_icmpge (pc := 40) (tgt := 134) (dd d_Img_readInstruction 22 rfl) (by decide) (fun q5 => ?_) (fun q5 => ?_)
    · replace h := ite_t h q5
      refine g_drop [4, 5] ?_
      exact gb_Img_readInstruction_134 hX hk hT  h
    · replace h := ite_f h q5
      refine g_aload_n (pc := 43) (dd d_Img_readInstruction 23 rfl) rfl ?_
      refine g_getr (pc := 44) (dd d_Img_readInstruction 24 rfl) f_Img_9 oc_Img rfl (rx_Img_0 hX) ?_
      refine g_geti (pc := 47) (dd d_Img_readInstruction 25 rfl) f_Img_38 oc_Rdr rfl ?_
      refine g_istore (pc := 50) (dd d_Img_readInstruction 26 rfl) (by decide) ?_
      refine g_iload (pc := 52) (dd d_Img_readInstruction 27 rfl) rfl ?_
      obtain ⟨v6, e7, h⟩ := bnd_e h
      refine g_callS (pc := 54) (dd d_Img_readInstruction 28 rfl) s_Img_86 (ef_Img_fieldBit hX e7) rfl (by omega) (Nat.le_of_ble_eq_true rfl) ⟨Nat.zero_le _, Nat.zero_le _⟩ rfl ?_
      refine g_istore (pc := 57) (dd d_Img_readInstruction 29 rfl) (by decide) ?_
      refine g_iload (pc := 59) (dd d_Img_readInstruction 30 rfl) rfl ?_
      refine g_ifeq (pc := 61) (tgt := 134) (dd d_Img_readInstruction 31 rfl) (by decide) (fun q8 => ?_) (fun q8 => ?_)
      · replace h := ite_t h q8
        refine g_drop [4, 5, 6, 7] ?_
        exact gb_Img_readInstruction_134 hX hk hT  h
      · replace h := ite_f h q8
        refine g_iload (pc := 64) (dd d_Img_readInstruction 32 rfl) rfl ?_
        refine g_iload (pc := 66) (dd d_Img_readInstruction 33 rfl) rfl ?_
        refine g_iand (pc := 68) (dd d_Img_readInstruction 34 rfl) ?_
        refine g_ifeq (pc := 69) (tgt := 75) (dd d_Img_readInstruction 35 rfl) (by decide) (fun q9 => ?_) (fun q9 => ?_)
        · replace h := ite_t h q9
          refine g_iload (pc := 75) (dd d_Img_readInstruction 37 rfl) rfl ?_
          refine g_iload (pc := 77) (dd d_Img_readInstruction 38 rfl) rfl ?_
          refine g_ior (pc := 79) (dd d_Img_readInstruction 39 rfl) ?_
          refine g_istore (pc := 80) (dd d_Img_readInstruction 40 rfl) (by decide) ?_
          refine g_aload_n (pc := 82) (dd d_Img_readInstruction 41 rfl) rfl ?_
          refine g_getr (pc := 83) (dd d_Img_readInstruction 42 rfl) f_Img_9 oc_Img rfl (rx_Img_0 hX) ?_
          obtain ⟨v10, e11, h⟩ := bnd_e h
          refine g_callV (pc := 86) (dd d_Img_readInstruction 43 rfl) v_Img_55 oc_Rdr rfl (ef_Rdr_advance hX e11) rfl (by omega) (Nat.le_of_ble_eq_true rfl) ⟨Nat.zero_le _, Nat.zero_le _⟩ rfl ?_
          refine g_aload_n (pc := 89) (dd d_Img_readInstruction 44 rfl) rfl ?_
          refine g_iload (pc := 90) (dd d_Img_readInstruction 45 rfl) rfl ?_
          obtain ⟨v12, e13, h⟩ := bnd_e h
          refine g_callV (pc := 92) (dd d_Img_readInstruction 46 rfl) v_Img_90 oc_Img rfl (ef_Img_readFieldNumber hX e13) rfl (by omega) (Nat.le_of_ble_eq_true rfl) ⟨Nat.zero_le _, Nat.zero_le _⟩ rfl ?_
          refine g_ifne (pc := 95) (tgt := 100) (dd d_Img_readInstruction 47 rfl) (by decide) (fun q14 => ?_) (fun q14 => ?_)
          · replace h := ite_f h q14
            refine g_iload (pc := 100) (dd d_Img_readInstruction 50 rfl) rfl ?_
            refine g_bipush (pc := 102) (v := 42) (dd d_Img_readInstruction 51 rfl) (by decide) ?_
            refine g_icmpne (pc := 104) (tgt := 115) (dd d_Img_readInstruction 52 rfl) (by decide) (fun q15 => ?_) (fun q15 => ?_)
            · replace h := ite_f h q15
              refine g_iload_n (pc := 115) (dd d_Img_readInstruction 57 rfl) rfl ?_
              refine g_aload_n (pc := 116) (dd d_Img_readInstruction 58 rfl) rfl ?_
              refine g_geti (pc := 117) (dd d_Img_readInstruction 59 rfl) f_Img_61 oc_Img rfl ?_
              refine g_iload (pc := 120) (dd d_Img_readInstruction_1 0 rfl) rfl ?_
              obtain ⟨v16, e17, h⟩ := bnd_e h
              refine g_callS (pc := 122) (dd d_Img_readInstruction_1 1 rfl) s_Img_93 (ef_Img_fieldShift hX e17) rfl (by omega) (Nat.le_of_ble_eq_true rfl) ⟨Nat.zero_le _, Nat.zero_le _⟩ rfl ?_
              refine g_ishl (pc := 125) (dd d_Img_readInstruction_1 2 rfl) ?_
              refine g_ior (pc := 126) (dd d_Img_readInstruction_1 3 rfl) ?_
              refine g_istore_n (pc := 127) (dd d_Img_readInstruction_1 4 rfl) (by decide) ?_
              refine g_drop [6, 7] ?_
              exact gb_Img_readInstruction_128 hX hk hT ih h
            · replace h := ite_t h q15
              refine g_aload_n (pc := 107) (dd d_Img_readInstruction 53 rfl) rfl ?_
              refine g_geti (pc := 108) (dd d_Img_readInstruction 54 rfl) f_Img_61 oc_Img rfl ?_
              refine g_istore_n (pc := 111) (dd d_Img_readInstruction 55 rfl) (by decide) ?_
              refine g_goto (pc := 112) (tgt := 128) (dd d_Img_readInstruction 56 rfl) (by decide) ?_
              refine g_drop [6, 7] ?_
              exact gb_Img_readInstruction_128 hX hk hT ih h
          · replace h := ite_t h q14
            refine g_iconst (pc := 98) (v := 0) (dd d_Img_readInstruction 48 rfl) (by decide) ?_
            cases h
            exact g_zret (pc := 99) rfl (by decide) (dd d_Img_readInstruction 49 rfl) hT
        · replace h := ite_f h q9
          refine g_goto (pc := 72) (tgt := 134) (dd d_Img_readInstruction 36 rfl) (by decide) ?_
          refine g_drop [4, 5, 6, 7] ?_
          exact gb_Img_readInstruction_134 hX hk hT  h
def f_Img_readInstruction (n : Nat) (it : Nat) (x1 : Int32) (I : IM) : Option (Int32 × IM) := if (I 15 2 : Int32) < 0 then (b_Img_readInstruction_16 n it  I) else (if (I 15 2 : Int32) < (64 : Int32) then (Option.bind (f_Rdr_advance   I) fun v3 => l_Img_readInstruction_35 n it  n x1 0 0 0 v3) else (b_Img_readInstruction_16 n it  I))
set_option maxRecDepth 20000 in
set_option maxHeartbeats 4000000 in
theorem ef_Img_readInstruction {Δ : Dx} {X : Lx} {rl hd ot pt it : Nat} (hX : EX Δ X rl hd ot pt it) {n : Nat} {x1 : Int32}  {I : IM}  {r : Int32 × IM} (h : f_Img_readInstruction n it x1 I = some r) : Ev Δ (3) m_Img_readInstruction [.ref (Δ.ba + 15), .int x1] (I, X) (some (.int r.1)) (r.2, X) := by
  refine ev_of (by decide) (Nat.le_of_ble_eq_true rfl) (fun Γ hk hR hT => ?_)
  change GG Δ m_Img_readInstruction Γ NN 0 0 (I, X) 0 [some (.ref (Δ.ba + 15)), some (.int (x1)), none, none, none, none, none, none] []
  unfold f_Img_readInstruction at h
  refine g_aload_n (pc := 0) (dd d_Img_readInstruction 0 rfl) rfl ?_
  refine g_geti (pc := 1) (dd d_Img_readInstruction 1 rfl) f_Img_26 oc_Img rfl ?_
  refine g_iflt (pc := 4) (tgt := 16) (dd d_Img_readInstruction 2 rfl) (by decide) (fun q1 => ?_) (fun q1 => ?_)
  · replace h := ite_t h q1
    refine g_drop [0, 1] ?_
    exact gb_Img_readInstruction_16 hX hk hT  h
  · replace h := ite_f h q1
    refine g_aload_n (pc := 7) (dd d_Img_readInstruction 3 rfl) rfl ?_
    refine g_geti (pc := 8) (dd d_Img_readInstruction 4 rfl) f_Img_26 oc_Img rfl ?_
    refine g_bipush (pc := 11) (v := 64) (dd d_Img_readInstruction 5 rfl) (by decide) ?_
    refine g_icmplt (pc := 13) (tgt := 18) (dd d_Img_readInstruction 6 rfl) (by decide) (fun q2 => ?_) (fun q2 => ?_)
    · replace h := ite_t h q2
      refine g_aload_n (pc := 18) (dd d_Img_readInstruction 9 rfl) rfl ?_
      refine g_getr (pc := 19) (dd d_Img_readInstruction 10 rfl) f_Img_9 oc_Img rfl (rx_Img_0 hX) ?_
      obtain ⟨v3, e4, h⟩ := bnd_e h
      refine g_callV (pc := 22) (dd d_Img_readInstruction 11 rfl) v_Img_55 oc_Rdr rfl (ef_Rdr_advance hX e4) rfl (by omega) (Nat.le_of_ble_eq_true rfl) ⟨Nat.zero_le _, Nat.zero_le _⟩ rfl ?_
      refine g_iload_n (pc := 25) (dd d_Img_readInstruction 12 rfl) rfl ?_
      refine g_istore_n (pc := 26) (dd d_Img_readInstruction 13 rfl) (by decide) ?_
      refine g_iconst (pc := 27) (v := 0) (dd d_Img_readInstruction 14 rfl) (by decide) ?_
      refine g_istore_n (pc := 28) (dd d_Img_readInstruction 15 rfl) (by decide) ?_
      refine g_iconst (pc := 29) (v := 0) (dd d_Img_readInstruction 16 rfl) (by decide) ?_
      refine g_istore (pc := 30) (dd d_Img_readInstruction 17 rfl) (by decide) ?_
      refine g_iconst (pc := 32) (v := 0) (dd d_Img_readInstruction 18 rfl) (by decide) ?_
      refine g_istore (pc := 33) (dd d_Img_readInstruction 19 rfl) (by decide) ?_
      refine g_drop [1] ?_
      exact gl_Img_readInstruction_35 hX hk hT  _ _ _ _ _ _ h
    · replace h := ite_f h q2
      refine g_drop [0, 1] ?_
      exact gb_Img_readInstruction_16 hX hk hT  h
def f_Img_readAt  (I : IM) : Option (Int32 × IM) := Option.bind (f_Rdr_advance   I) fun v1 => Option.bind (f_Img_readNumber  0 63 v1) fun v3 => if (v3.1 : Int32) = 0 then (some (0, v3.2)) else (lt (up v3.2 15 2 (v3.2 15 3)) fun I6 => some (1, I6))
set_option maxRecDepth 20000 in
set_option maxHeartbeats 4000000 in
theorem ef_Img_readAt {Δ : Dx} {X : Lx} {rl hd ot pt it : Nat} (hX : EX Δ X rl hd ot pt it)   {I : IM}  {r : Int32 × IM} (h : f_Img_readAt  I = some r) : Ev Δ (2) m_Img_readAt [.ref (Δ.ba + 15)] (I, X) (some (.int r.1)) (r.2, X) := by
  refine ev_of (by decide) (Nat.le_of_ble_eq_true rfl) (fun Γ hk hR hT => ?_)
  change GG Δ m_Img_readAt Γ NN 0 0 (I, X) 0 [some (.ref (Δ.ba + 15))] []
  unfold f_Img_readAt at h
  refine g_aload_n (pc := 0) (dd d_Img_readAt 0 rfl) rfl ?_
  refine g_getr (pc := 1) (dd d_Img_readAt 1 rfl) f_Img_9 oc_Img rfl (rx_Img_0 hX) ?_
  obtain ⟨v1, e2, h⟩ := bnd_e h
  refine g_callV (pc := 4) (dd d_Img_readAt 2 rfl) v_Img_55 oc_Rdr rfl (ef_Rdr_advance hX e2) rfl (by omega) (Nat.le_of_ble_eq_true rfl) ⟨Nat.zero_le _, Nat.zero_le _⟩ rfl ?_
  refine g_aload_n (pc := 7) (dd d_Img_readAt 3 rfl) rfl ?_
  refine g_iconst (pc := 8) (v := 0) (dd d_Img_readAt 4 rfl) (by decide) ?_
  refine g_bipush (pc := 9) (v := 63) (dd d_Img_readAt 5 rfl) (by decide) ?_
  obtain ⟨v3, e4, h⟩ := bnd_e h
  refine g_callV (pc := 11) (dd d_Img_readAt 6 rfl) v_Img_82 oc_Img rfl (ef_Img_readNumber hX e4) rfl (by omega) (Nat.le_of_ble_eq_true rfl) ⟨Nat.zero_le _, Nat.zero_le _⟩ rfl ?_
  refine g_ifne (pc := 14) (tgt := 19) (dd d_Img_readAt 7 rfl) (by decide) (fun q5 => ?_) (fun q5 => ?_)
  · replace h := ite_f h q5
    refine g_aload_n (pc := 19) (dd d_Img_readAt 10 rfl) rfl ?_
    refine g_aload_n (pc := 20) (dd d_Img_readAt 11 rfl) rfl ?_
    refine g_geti (pc := 21) (dd d_Img_readAt 12 rfl) f_Img_61 oc_Img rfl ?_
    refine g_putiN (pc := 24) (dd d_Img_readAt 13 rfl) f_Img_26 fm_Img_2 oc_Img rfl (fun I6 hI6 => ?_)
    replace h := lt_e h hI6
    refine g_iconst (pc := 27) (v := 1) (dd d_Img_readAt 14 rfl) (by decide) ?_
    cases h
    exact g_zret (pc := 28) rfl (by decide) (dd d_Img_readAt 15 rfl) hT
  · replace h := ite_t h q5
    refine g_iconst (pc := 17) (v := 0) (dd d_Img_readAt 8 rfl) (by decide) ?_
    cases h
    exact g_zret (pc := 18) rfl (by decide) (dd d_Img_readAt 9 rfl) hT
def f_Img_readOptional (x1 : Int32) (I : IM) : Option (Int32 × IM) := lt (up I 15 3 (0)) fun I1 => if (I1 1 1 : Int32) = x1 then (Option.bind (f_Rdr_advance   I1) fun v3 => Option.bind (f_Img_readNumber  (-9999999) 9999999 v3) fun v5 => chk ((v5.1 : Int32) = 0 ∨ (v5.1 : Int32) = 1) <| some (v5.1, v5.2)) else (some (1, I1))
set_option maxRecDepth 20000 in
set_option maxHeartbeats 4000000 in
theorem ef_Img_readOptional {Δ : Dx} {X : Lx} {rl hd ot pt it : Nat} (hX : EX Δ X rl hd ot pt it) {x1 : Int32}  {I : IM}  {r : Int32 × IM} (h : f_Img_readOptional x1 I = some r) : Ev Δ (2) m_Img_readOptional [.ref (Δ.ba + 15), .int x1] (I, X) (some (.int r.1)) (r.2, X) := by
  refine ev_of (by decide) (Nat.le_of_ble_eq_true rfl) (fun Γ hk hR hT => ?_)
  change GG Δ m_Img_readOptional Γ NN 0 0 (I, X) 0 [some (.ref (Δ.ba + 15)), some (.int (x1))] []
  unfold f_Img_readOptional at h
  refine g_aload_n (pc := 0) (dd d_Img_readOptional 0 rfl) rfl ?_
  refine g_iconst (pc := 1) (v := 0) (dd d_Img_readOptional 1 rfl) (by decide) ?_
  refine g_putiN (pc := 2) (dd d_Img_readOptional 2 rfl) f_Img_61 fm_Img_3 oc_Img rfl (fun I1 hI1 => ?_)
  replace h := lt_e h hI1
  refine g_aload_n (pc := 5) (dd d_Img_readOptional 3 rfl) rfl ?_
  refine g_getr (pc := 6) (dd d_Img_readOptional 4 rfl) f_Img_9 oc_Img rfl (rx_Img_0 hX) ?_
  refine g_geti (pc := 9) (dd d_Img_readOptional 5 rfl) f_Img_38 oc_Rdr rfl ?_
  refine g_iload_n (pc := 12) (dd d_Img_readOptional 6 rfl) rfl ?_
  refine g_icmpeq (pc := 13) (tgt := 18) (dd d_Img_readOptional 7 rfl) (by decide) (fun q2 => ?_) (fun q2 => ?_)
  · replace h := ite_t h q2
    refine g_aload_n (pc := 18) (dd d_Img_readOptional 10 rfl) rfl ?_
    refine g_getr (pc := 19) (dd d_Img_readOptional 11 rfl) f_Img_9 oc_Img rfl (rx_Img_0 hX) ?_
    obtain ⟨v3, e4, h⟩ := bnd_e h
    refine g_callV (pc := 22) (dd d_Img_readOptional 12 rfl) v_Img_55 oc_Rdr rfl (ef_Rdr_advance hX e4) rfl (by omega) (Nat.le_of_ble_eq_true rfl) ⟨Nat.zero_le _, Nat.zero_le _⟩ rfl ?_
    refine g_aload_n (pc := 25) (dd d_Img_readOptional 13 rfl) rfl ?_
    refine g_ldc (pc := 26) (dd d_Img_readOptional 14 rfl) c_Img_100 ?_
    refine g_ldc (pc := 28) (dd d_Img_readOptional 15 rfl) c_Img_101 ?_
    obtain ⟨v5, e6, h⟩ := bnd_e h
    refine g_callV (pc := 30) (dd d_Img_readOptional 16 rfl) v_Img_82 oc_Img rfl (ef_Img_readNumber hX e6) rfl (by omega) (Nat.le_of_ble_eq_true rfl) ⟨Nat.zero_le _, Nat.zero_le _⟩ rfl ?_
    obtain ⟨c7, h⟩ := chk_e h
    cases h
    exact g_zret (pc := 33) rfl c7 (dd d_Img_readOptional 17 rfl) hT
  · replace h := ite_f h q2
    refine g_iconst (pc := 16) (v := 1) (dd d_Img_readOptional 8 rfl) (by decide) ?_
    cases h
    exact g_zret (pc := 17) rfl (by decide) (dd d_Img_readOptional 9 rfl) hT
def f_Img_readWordLine (it : Nat) (I : IM) : Option (Int32 × IM) := Option.bind (f_Rdr_advance   I) fun v1 => Option.bind (f_Img_readNumber  0 95 v1) fun v3 => if (v3.1 : Int32) = 0 then (some (0, v3.2)) else (Option.bind (f_Img_readAny   v3.2) fun v6 => if (v6.1 : Int32) = 0 then (some (0, v6.2)) else (Option.bind (f_Img_readOptional  49 v6.2) fun v9 => if (v9.1 : Int32) = 0 then (some (0, v9.2)) else (Option.bind (f_Img_readOptional  44 v9.2) fun v12 => if (v12.1 : Int32) = 0 then (some (0, v12.2)) else (Option.bind (f_Mch_setWord  it (v3.2 15 3) (v6.2 15 3) (v9.2 15 3) (v12.2 15 3) v12.2) fun v15 => some (1, v15)))))
set_option maxRecDepth 20000 in
set_option maxHeartbeats 4000000 in
theorem ef_Img_readWordLine {Δ : Dx} {X : Lx} {rl hd ot pt it : Nat} (hX : EX Δ X rl hd ot pt it)   {I : IM}  {r : Int32 × IM} (h : f_Img_readWordLine it I = some r) : Ev Δ (3) m_Img_readWordLine [.ref (Δ.ba + 15)] (I, X) (some (.int r.1)) (r.2, X) := by
  refine ev_of (by decide) (Nat.le_of_ble_eq_true rfl) (fun Γ hk hR hT => ?_)
  change GG Δ m_Img_readWordLine Γ NN 0 0 (I, X) 0 [some (.ref (Δ.ba + 15)), none, none, none] []
  unfold f_Img_readWordLine at h
  refine g_aload_n (pc := 0) (dd d_Img_readWordLine 0 rfl) rfl ?_
  refine g_getr (pc := 1) (dd d_Img_readWordLine 1 rfl) f_Img_9 oc_Img rfl (rx_Img_0 hX) ?_
  obtain ⟨v1, e2, h⟩ := bnd_e h
  refine g_callV (pc := 4) (dd d_Img_readWordLine 2 rfl) v_Img_55 oc_Rdr rfl (ef_Rdr_advance hX e2) rfl (by omega) (Nat.le_of_ble_eq_true rfl) ⟨Nat.zero_le _, Nat.zero_le _⟩ rfl ?_
  refine g_aload_n (pc := 7) (dd d_Img_readWordLine 3 rfl) rfl ?_
  refine g_iconst (pc := 8) (v := 0) (dd d_Img_readWordLine 4 rfl) (by decide) ?_
  refine g_bipush (pc := 9) (v := 95) (dd d_Img_readWordLine 5 rfl) (by decide) ?_
  obtain ⟨v3, e4, h⟩ := bnd_e h
  refine g_callV (pc := 11) (dd d_Img_readWordLine 6 rfl) v_Img_82 oc_Img rfl (ef_Img_readNumber hX e4) rfl (by omega) (Nat.le_of_ble_eq_true rfl) ⟨Nat.zero_le _, Nat.zero_le _⟩ rfl ?_
  refine g_ifne (pc := 14) (tgt := 19) (dd d_Img_readWordLine 7 rfl) (by decide) (fun q5 => ?_) (fun q5 => ?_)
  · replace h := ite_f h q5
    refine g_aload_n (pc := 19) (dd d_Img_readWordLine 10 rfl) rfl ?_
    refine g_geti (pc := 20) (dd d_Img_readWordLine 11 rfl) f_Img_61 oc_Img rfl ?_
    refine g_istore_n (pc := 23) (dd d_Img_readWordLine 12 rfl) (by decide) ?_
    refine g_aload_n (pc := 24) (dd d_Img_readWordLine 13 rfl) rfl ?_
    obtain ⟨v6, e7, h⟩ := bnd_e h
    refine g_callV (pc := 25) (dd d_Img_readWordLine 14 rfl) v_Img_58 oc_Img rfl (ef_Img_readAny hX e7) rfl (by omega) (Nat.le_of_ble_eq_true rfl) ⟨Nat.zero_le _, Nat.zero_le _⟩ rfl ?_
    refine g_ifne (pc := 28) (tgt := 33) (dd d_Img_readWordLine 15 rfl) (by decide) (fun q8 => ?_) (fun q8 => ?_)
    · replace h := ite_f h q8
      refine g_aload_n (pc := 33) (dd d_Img_readWordLine 18 rfl) rfl ?_
      refine g_geti (pc := 34) (dd d_Img_readWordLine 19 rfl) f_Img_61 oc_Img rfl ?_
      refine g_istore_n (pc := 37) (dd d_Img_readWordLine 20 rfl) (by decide) ?_
      refine g_aload_n (pc := 38) (dd d_Img_readWordLine 21 rfl) rfl ?_
      refine g_bipush (pc := 39) (v := 49) (dd d_Img_readWordLine 22 rfl) (by decide) ?_
      obtain ⟨v9, e10, h⟩ := bnd_e h
      refine g_callV (pc := 41) (dd d_Img_readWordLine 23 rfl) v_Img_102 oc_Img rfl (ef_Img_readOptional hX e10) rfl (by omega) (Nat.le_of_ble_eq_true rfl) ⟨Nat.zero_le _, Nat.zero_le _⟩ rfl ?_
      refine g_ifne (pc := 44) (tgt := 49) (dd d_Img_readWordLine 24 rfl) (by decide) (fun q11 => ?_) (fun q11 => ?_)
      · replace h := ite_f h q11
        refine g_aload_n (pc := 49) (dd d_Img_readWordLine 27 rfl) rfl ?_
        refine g_geti (pc := 50) (dd d_Img_readWordLine 28 rfl) f_Img_61 oc_Img rfl ?_
        refine g_istore_n (pc := 53) (dd d_Img_readWordLine 29 rfl) (by decide) ?_
        refine g_aload_n (pc := 54) (dd d_Img_readWordLine 30 rfl) rfl ?_
        refine g_bipush (pc := 55) (v := 44) (dd d_Img_readWordLine 31 rfl) (by decide) ?_
        obtain ⟨v12, e13, h⟩ := bnd_e h
        refine g_callV (pc := 57) (dd d_Img_readWordLine 32 rfl) v_Img_102 oc_Img rfl (ef_Img_readOptional hX e13) rfl (by omega) (Nat.le_of_ble_eq_true rfl) ⟨Nat.zero_le _, Nat.zero_le _⟩ rfl ?_
        refine g_ifne (pc := 60) (tgt := 65) (dd d_Img_readWordLine 33 rfl) (by decide) (fun q14 => ?_) (fun q14 => ?_)
        · replace h := ite_f h q14
          refine g_aload_n (pc := 65) (dd d_Img_readWordLine 36 rfl) rfl ?_
          refine g_getr (pc := 66) (dd d_Img_readWordLine 37 rfl) f_Img_18 oc_Img rfl hX.r_it ?_
          refine g_iload_n (pc := 69) (dd d_Img_readWordLine 38 rfl) rfl ?_
          refine g_iload_n (pc := 70) (dd d_Img_readWordLine 39 rfl) rfl ?_
          refine g_iload_n (pc := 71) (dd d_Img_readWordLine 40 rfl) rfl ?_
          refine g_aload_n (pc := 72) (dd d_Img_readWordLine 41 rfl) rfl ?_
          refine g_geti (pc := 73) (dd d_Img_readWordLine 42 rfl) f_Img_61 oc_Img rfl ?_
          obtain ⟨v15, e16, h⟩ := bnd_e h
          refine g_callV (pc := 76) (dd d_Img_readWordLine 43 rfl) v_Img_105 (oc_Mch hX.i_it) rfl (ef_Mch_setWord hX hX.i_it e16) rfl (by omega) (Nat.le_of_ble_eq_true rfl) ⟨Nat.zero_le _, Nat.zero_le _⟩ rfl ?_
          refine g_iconst (pc := 79) (v := 1) (dd d_Img_readWordLine 44 rfl) (by decide) ?_
          cases h
          exact g_zret (pc := 80) rfl (by decide) (dd d_Img_readWordLine 45 rfl) hT
        · replace h := ite_t h q14
          refine g_iconst (pc := 63) (v := 0) (dd d_Img_readWordLine 34 rfl) (by decide) ?_
          cases h
          exact g_zret (pc := 64) rfl (by decide) (dd d_Img_readWordLine 35 rfl) hT
      · replace h := ite_t h q11
        refine g_iconst (pc := 47) (v := 0) (dd d_Img_readWordLine 25 rfl) (by decide) ?_
        cases h
        exact g_zret (pc := 48) rfl (by decide) (dd d_Img_readWordLine 26 rfl) hT
    · replace h := ite_t h q8
      refine g_iconst (pc := 31) (v := 0) (dd d_Img_readWordLine 16 rfl) (by decide) ?_
      cases h
      exact g_zret (pc := 32) rfl (by decide) (dd d_Img_readWordLine 17 rfl) hT
  · replace h := ite_t h q5
    refine g_iconst (pc := 17) (v := 0) (dd d_Img_readWordLine 8 rfl) (by decide) ?_
    cases h
    exact g_zret (pc := 18) rfl (by decide) (dd d_Img_readWordLine 9 rfl) hT
def f_Img_readRegister (it : Nat) (I : IM) : Option (Int32 × IM) := Option.bind (f_Rdr_advance   I) fun v1 => Option.bind (f_Img_readNumber  0 8 v1) fun v3 => if (v3.1 : Int32) = 0 then (some (0, v3.2)) else (Option.bind (f_Img_readAny   v3.2) fun v6 => if (v6.1 : Int32) = 0 then (some (0, v6.2)) else (Option.bind (f_Img_readOptional  42 v6.2) fun v9 => if (v9.1 : Int32) = 0 then (some (0, v9.2)) else (Option.bind (f_Mch_setRegister  it (v3.2 15 3) (v6.2 15 3) (v9.2 15 3) v9.2) fun v12 => some (1, v12))))
set_option maxRecDepth 20000 in
set_option maxHeartbeats 4000000 in
theorem ef_Img_readRegister {Δ : Dx} {X : Lx} {rl hd ot pt it : Nat} (hX : EX Δ X rl hd ot pt it)   {I : IM}  {r : Int32 × IM} (h : f_Img_readRegister it I = some r) : Ev Δ (3) m_Img_readRegister [.ref (Δ.ba + 15)] (I, X) (some (.int r.1)) (r.2, X) := by
  refine ev_of (by decide) (Nat.le_of_ble_eq_true rfl) (fun Γ hk hR hT => ?_)
  change GG Δ m_Img_readRegister Γ NN 0 0 (I, X) 0 [some (.ref (Δ.ba + 15)), none, none] []
  unfold f_Img_readRegister at h
  refine g_aload_n (pc := 0) (dd d_Img_readRegister 0 rfl) rfl ?_
  refine g_getr (pc := 1) (dd d_Img_readRegister 1 rfl) f_Img_9 oc_Img rfl (rx_Img_0 hX) ?_
  obtain ⟨v1, e2, h⟩ := bnd_e h
  refine g_callV (pc := 4) (dd d_Img_readRegister 2 rfl) v_Img_55 oc_Rdr rfl (ef_Rdr_advance hX e2) rfl (by omega) (Nat.le_of_ble_eq_true rfl) ⟨Nat.zero_le _, Nat.zero_le _⟩ rfl ?_
  refine g_aload_n (pc := 7) (dd d_Img_readRegister 3 rfl) rfl ?_
  refine g_iconst (pc := 8) (v := 0) (dd d_Img_readRegister 4 rfl) (by decide) ?_
  refine g_bipush (pc := 9) (v := 8) (dd d_Img_readRegister 5 rfl) (by decide) ?_
  obtain ⟨v3, e4, h⟩ := bnd_e h
  refine g_callV (pc := 11) (dd d_Img_readRegister 6 rfl) v_Img_82 oc_Img rfl (ef_Img_readNumber hX e4) rfl (by omega) (Nat.le_of_ble_eq_true rfl) ⟨Nat.zero_le _, Nat.zero_le _⟩ rfl ?_
  refine g_ifne (pc := 14) (tgt := 19) (dd d_Img_readRegister 7 rfl) (by decide) (fun q5 => ?_) (fun q5 => ?_)
  · replace h := ite_f h q5
    refine g_aload_n (pc := 19) (dd d_Img_readRegister 10 rfl) rfl ?_
    refine g_geti (pc := 20) (dd d_Img_readRegister 11 rfl) f_Img_61 oc_Img rfl ?_
    refine g_istore_n (pc := 23) (dd d_Img_readRegister 12 rfl) (by decide) ?_
    refine g_aload_n (pc := 24) (dd d_Img_readRegister 13 rfl) rfl ?_
    obtain ⟨v6, e7, h⟩ := bnd_e h
    refine g_callV (pc := 25) (dd d_Img_readRegister 14 rfl) v_Img_58 oc_Img rfl (ef_Img_readAny hX e7) rfl (by omega) (Nat.le_of_ble_eq_true rfl) ⟨Nat.zero_le _, Nat.zero_le _⟩ rfl ?_
    refine g_ifne (pc := 28) (tgt := 33) (dd d_Img_readRegister 15 rfl) (by decide) (fun q8 => ?_) (fun q8 => ?_)
    · replace h := ite_f h q8
      refine g_aload_n (pc := 33) (dd d_Img_readRegister 18 rfl) rfl ?_
      refine g_geti (pc := 34) (dd d_Img_readRegister 19 rfl) f_Img_61 oc_Img rfl ?_
      refine g_istore_n (pc := 37) (dd d_Img_readRegister 20 rfl) (by decide) ?_
      refine g_aload_n (pc := 38) (dd d_Img_readRegister 21 rfl) rfl ?_
      refine g_bipush (pc := 39) (v := 42) (dd d_Img_readRegister 22 rfl) (by decide) ?_
      obtain ⟨v9, e10, h⟩ := bnd_e h
      refine g_callV (pc := 41) (dd d_Img_readRegister 23 rfl) v_Img_102 oc_Img rfl (ef_Img_readOptional hX e10) rfl (by omega) (Nat.le_of_ble_eq_true rfl) ⟨Nat.zero_le _, Nat.zero_le _⟩ rfl ?_
      refine g_ifne (pc := 44) (tgt := 49) (dd d_Img_readRegister 24 rfl) (by decide) (fun q11 => ?_) (fun q11 => ?_)
      · replace h := ite_f h q11
        refine g_aload_n (pc := 49) (dd d_Img_readRegister 27 rfl) rfl ?_
        refine g_getr (pc := 50) (dd d_Img_readRegister 28 rfl) f_Img_18 oc_Img rfl hX.r_it ?_
        refine g_iload_n (pc := 53) (dd d_Img_readRegister 29 rfl) rfl ?_
        refine g_iload_n (pc := 54) (dd d_Img_readRegister 30 rfl) rfl ?_
        refine g_aload_n (pc := 55) (dd d_Img_readRegister 31 rfl) rfl ?_
        refine g_geti (pc := 56) (dd d_Img_readRegister 32 rfl) f_Img_61 oc_Img rfl ?_
        obtain ⟨v12, e13, h⟩ := bnd_e h
        refine g_callV (pc := 59) (dd d_Img_readRegister 33 rfl) v_Img_109 (oc_Mch hX.i_it) rfl (ef_Mch_setRegister hX hX.i_it e13) rfl (by omega) (Nat.le_of_ble_eq_true rfl) ⟨Nat.zero_le _, Nat.zero_le _⟩ rfl ?_
        refine g_iconst (pc := 62) (v := 1) (dd d_Img_readRegister 34 rfl) (by decide) ?_
        cases h
        exact g_zret (pc := 63) rfl (by decide) (dd d_Img_readRegister 35 rfl) hT
      · replace h := ite_t h q11
        refine g_iconst (pc := 47) (v := 0) (dd d_Img_readRegister 25 rfl) (by decide) ?_
        cases h
        exact g_zret (pc := 48) rfl (by decide) (dd d_Img_readRegister 26 rfl) hT
    · replace h := ite_t h q8
      refine g_iconst (pc := 31) (v := 0) (dd d_Img_readRegister 16 rfl) (by decide) ?_
      cases h
      exact g_zret (pc := 32) rfl (by decide) (dd d_Img_readRegister 17 rfl) hT
  · replace h := ite_t h q5
    refine g_iconst (pc := 17) (v := 0) (dd d_Img_readRegister 8 rfl) (by decide) ?_
    cases h
    exact g_zret (pc := 18) rfl (by decide) (dd d_Img_readRegister 9 rfl) hT
def f_Img_readInput (it : Nat) (I : IM) : Option (Int32 × IM) := if (I (it + 13) (5 : Int32).toNatClampNeg : Int32) < (16 : Int32) then (Option.bind (f_Rdr_advance   I) fun v2 => Option.bind (f_Img_readAny   v2) fun v4 => if (v4.1 : Int32) = 0 then (some (0, v4.2)) else (Option.bind (f_Img_readOptional  42 v4.2) fun v7 => if (v7.1 : Int32) = 0 then (some (0, v7.2)) else (Option.bind (f_Mch_addInput  it (v4.2 15 3) (v7.2 15 3) v7.2) fun v10 => some (1, v10)))) else (some (0, I))
set_option maxRecDepth 20000 in
set_option maxHeartbeats 4000000 in
theorem ef_Img_readInput {Δ : Dx} {X : Lx} {rl hd ot pt it : Nat} (hX : EX Δ X rl hd ot pt it)   {I : IM}  {r : Int32 × IM} (h : f_Img_readInput it I = some r) : Ev Δ (3) m_Img_readInput [.ref (Δ.ba + 15)] (I, X) (some (.int r.1)) (r.2, X) := by
  refine ev_of (by decide) (Nat.le_of_ble_eq_true rfl) (fun Γ hk hR hT => ?_)
  change GG Δ m_Img_readInput Γ NN 0 0 (I, X) 0 [some (.ref (Δ.ba + 15)), none] []
  unfold f_Img_readInput at h
  refine g_aload_n (pc := 0) (dd d_Img_readInput 0 rfl) rfl ?_
  refine g_getr (pc := 1) (dd d_Img_readInput 1 rfl) f_Img_18 oc_Img rfl hX.r_it ?_
  refine g_getr (pc := 4) (dd d_Img_readInput 2 rfl) f_Img_112 (oc_Mch hX.i_it) rfl (rx_Mch_15 hX hX.i_it) ?_
  refine g_iconst (pc := 7) (v := 5) (dd d_Img_readInput 3 rfl) (by decide) ?_
  refine g_iald (pc := 8) (dd d_Img_readInput 4 rfl) (ax_Mch_15 hX.i_it) (by rw [vp_in_iff]; decide) ?_
  refine g_bipush (pc := 9) (v := 16) (dd d_Img_readInput 5 rfl) (by decide) ?_
  refine g_icmplt (pc := 11) (tgt := 16) (dd d_Img_readInput 6 rfl) (by decide) (fun q1 => ?_) (fun q1 => ?_)
  · replace h := ite_t h q1
    refine g_aload_n (pc := 16) (dd d_Img_readInput 9 rfl) rfl ?_
    refine g_getr (pc := 17) (dd d_Img_readInput 10 rfl) f_Img_9 oc_Img rfl (rx_Img_0 hX) ?_
    obtain ⟨v2, e3, h⟩ := bnd_e h
    refine g_callV (pc := 20) (dd d_Img_readInput 11 rfl) v_Img_55 oc_Rdr rfl (ef_Rdr_advance hX e3) rfl (by omega) (Nat.le_of_ble_eq_true rfl) ⟨Nat.zero_le _, Nat.zero_le _⟩ rfl ?_
    refine g_aload_n (pc := 23) (dd d_Img_readInput 12 rfl) rfl ?_
    obtain ⟨v4, e5, h⟩ := bnd_e h
    refine g_callV (pc := 24) (dd d_Img_readInput 13 rfl) v_Img_58 oc_Img rfl (ef_Img_readAny hX e5) rfl (by omega) (Nat.le_of_ble_eq_true rfl) ⟨Nat.zero_le _, Nat.zero_le _⟩ rfl ?_
    refine g_ifne (pc := 27) (tgt := 32) (dd d_Img_readInput 14 rfl) (by decide) (fun q6 => ?_) (fun q6 => ?_)
    · replace h := ite_f h q6
      refine g_aload_n (pc := 32) (dd d_Img_readInput 17 rfl) rfl ?_
      refine g_geti (pc := 33) (dd d_Img_readInput 18 rfl) f_Img_61 oc_Img rfl ?_
      refine g_istore_n (pc := 36) (dd d_Img_readInput 19 rfl) (by decide) ?_
      refine g_aload_n (pc := 37) (dd d_Img_readInput 20 rfl) rfl ?_
      refine g_bipush (pc := 38) (v := 42) (dd d_Img_readInput 21 rfl) (by decide) ?_
      obtain ⟨v7, e8, h⟩ := bnd_e h
      refine g_callV (pc := 40) (dd d_Img_readInput 22 rfl) v_Img_102 oc_Img rfl (ef_Img_readOptional hX e8) rfl (by omega) (Nat.le_of_ble_eq_true rfl) ⟨Nat.zero_le _, Nat.zero_le _⟩ rfl ?_
      refine g_ifne (pc := 43) (tgt := 48) (dd d_Img_readInput 23 rfl) (by decide) (fun q9 => ?_) (fun q9 => ?_)
      · replace h := ite_f h q9
        refine g_aload_n (pc := 48) (dd d_Img_readInput 26 rfl) rfl ?_
        refine g_getr (pc := 49) (dd d_Img_readInput 27 rfl) f_Img_18 oc_Img rfl hX.r_it ?_
        refine g_iload_n (pc := 52) (dd d_Img_readInput 28 rfl) rfl ?_
        refine g_aload_n (pc := 53) (dd d_Img_readInput 29 rfl) rfl ?_
        refine g_geti (pc := 54) (dd d_Img_readInput 30 rfl) f_Img_61 oc_Img rfl ?_
        obtain ⟨v10, e11, h⟩ := bnd_e h
        refine g_callV (pc := 57) (dd d_Img_readInput 31 rfl) v_Img_116 (oc_Mch hX.i_it) rfl (ef_Mch_addInput hX hX.i_it e11) rfl (by omega) (Nat.le_of_ble_eq_true rfl) ⟨Nat.zero_le _, Nat.zero_le _⟩ rfl ?_
        refine g_iconst (pc := 60) (v := 1) (dd d_Img_readInput 32 rfl) (by decide) ?_
        cases h
        exact g_zret (pc := 61) rfl (by decide) (dd d_Img_readInput 33 rfl) hT
      · replace h := ite_t h q9
        refine g_iconst (pc := 46) (v := 0) (dd d_Img_readInput 24 rfl) (by decide) ?_
        cases h
        exact g_zret (pc := 47) rfl (by decide) (dd d_Img_readInput 25 rfl) hT
    · replace h := ite_t h q6
      refine g_iconst (pc := 30) (v := 0) (dd d_Img_readInput 15 rfl) (by decide) ?_
      cases h
      exact g_zret (pc := 31) rfl (by decide) (dd d_Img_readInput 16 rfl) hT
  · replace h := ite_f h q1
    refine g_iconst (pc := 14) (v := 0) (dd d_Img_readInput 7 rfl) (by decide) ?_
    cases h
    exact g_zret (pc := 15) rfl (by decide) (dd d_Img_readInput 8 rfl) hT
def f_Img_readLine (n : Nat) (it : Nat) (I : IM) : Option (Int32 × IM) := if (22 : Int32) ≤ (I 1 1 : Int32) then (if (I 1 1 : Int32) = 45 then (Option.bind (f_Img_readAt   I) fun v3 => chk ((v3.1 : Int32) = 0 ∨ (v3.1 : Int32) = 1) <| some (v3.1, v3.2)) else (if (I 1 1 : Int32) = 46 then (Option.bind (f_Img_readWordLine  it I) fun v6 => chk ((v6.1 : Int32) = 0 ∨ (v6.1 : Int32) = 1) <| some (v6.1, v6.2)) else (if (I 1 1 : Int32) = 47 then (Option.bind (f_Img_readRegister  it I) fun v9 => chk ((v9.1 : Int32) = 0 ∨ (v9.1 : Int32) = 1) <| some (v9.1, v9.2)) else (if (I 1 1 : Int32) = 48 then (Option.bind (f_Img_readInput  it I) fun v12 => chk ((v12.1 : Int32) = 0 ∨ (v12.1 : Int32) = 1) <| some (v12.1, v12.2)) else (some (0, I)))))) else (Option.bind (f_Img_readInstruction n it (I 1 1) I) fun v15 => chk ((v15.1 : Int32) = 0 ∨ (v15.1 : Int32) = 1) <| some (v15.1, v15.2))
set_option maxRecDepth 20000 in
set_option maxHeartbeats 4000000 in
theorem ef_Img_readLine {Δ : Dx} {X : Lx} {rl hd ot pt it : Nat} (hX : EX Δ X rl hd ot pt it) {n : Nat}  {I : IM}  {r : Int32 × IM} (h : f_Img_readLine n it I = some r) : Ev Δ (4) m_Img_readLine [.ref (Δ.ba + 15)] (I, X) (some (.int r.1)) (r.2, X) := by
  refine ev_of (by decide) (Nat.le_of_ble_eq_true rfl) (fun Γ hk hR hT => ?_)
  change GG Δ m_Img_readLine Γ NN 0 0 (I, X) 0 [some (.ref (Δ.ba + 15)), none] []
  unfold f_Img_readLine at h
  refine g_aload_n (pc := 0) (dd d_Img_readLine 0 rfl) rfl ?_
  refine g_getr (pc := 1) (dd d_Img_readLine 1 rfl) f_Img_9 oc_Img rfl (rx_Img_0 hX) ?_
  refine g_geti (pc := 4) (dd d_Img_readLine 2 rfl) f_Img_38 oc_Rdr rfl ?_
  refine g_istore_n (pc := 7) (dd d_Img_readLine 3 rfl) (by decide) ?_
  refine g_iload_n (pc := 8) (dd d_Img_readLine 4 rfl) rfl ?_
  refine g_bipush (pc := 9) (v := 22) (dd d_Img_readLine 5 rfl) (by decide) ?_
  refine g_icmpge (pc := 11) (tgt := 20) (dd d_Img_readLine 6 rfl) (by decide) (fun q1 => ?_) (fun q1 => ?_)
  · replace h := ite_t h q1
    refine g_iload_n (pc := 20) (dd d_Img_readLine 11 rfl) rfl ?_
    refine g_tableC (pc := 21) (dd d_Img_readLine 12 rfl) (fun i off ho w2 => ?_) (by decide) (fun w2 => ⟨72, by decide, ?_⟩)
    · rcases i with _ | _ | _ | _ | i
      · obtain rfl : off = 31 := (Option.some.inj ho).symm
        refine ⟨52, by decide, ?_⟩
        replace w2 : (I 1 1 : Int32) = 45 := Int32.toInt_inj.mp w2
        replace h := ite_t h w2
        refine g_aload_n (pc := 52) (dd d_Img_readLine 13 rfl) rfl ?_
        obtain ⟨v3, e4, h⟩ := bnd_e h
        refine g_callV (pc := 53) (dd d_Img_readLine 14 rfl) v_Img_70 oc_Img rfl (ef_Img_readAt hX e4) rfl (by omega) (Nat.le_of_ble_eq_true rfl) ⟨Nat.zero_le _, Nat.zero_le _⟩ rfl ?_
        obtain ⟨c5, h⟩ := chk_e h
        cases h
        exact g_zret (pc := 56) rfl c5 (dd d_Img_readLine 15 rfl) hT
      · obtain rfl : off = 36 := (Option.some.inj ho).symm
        refine ⟨57, by decide, ?_⟩
        replace w2 : (I 1 1 : Int32) = 46 := Int32.toInt_inj.mp w2
        replace h := ite_f h (by rw [w2]; decide)
        replace h := ite_t h w2
        refine g_aload_n (pc := 57) (dd d_Img_readLine 16 rfl) rfl ?_
        obtain ⟨v6, e7, h⟩ := bnd_e h
        refine g_callV (pc := 58) (dd d_Img_readLine 17 rfl) v_Img_73 oc_Img rfl (ef_Img_readWordLine hX e7) rfl (by omega) (Nat.le_of_ble_eq_true rfl) ⟨Nat.zero_le _, Nat.zero_le _⟩ rfl ?_
        obtain ⟨c8, h⟩ := chk_e h
        cases h
        exact g_zret (pc := 61) rfl c8 (dd d_Img_readLine 18 rfl) hT
      · obtain rfl : off = 41 := (Option.some.inj ho).symm
        refine ⟨62, by decide, ?_⟩
        replace w2 : (I 1 1 : Int32) = 47 := Int32.toInt_inj.mp w2
        replace h := ite_f h (by rw [w2]; decide)
        replace h := ite_f h (by rw [w2]; decide)
        replace h := ite_t h w2
        refine g_aload_n (pc := 62) (dd d_Img_readLine 19 rfl) rfl ?_
        obtain ⟨v9, e10, h⟩ := bnd_e h
        refine g_callV (pc := 63) (dd d_Img_readLine 20 rfl) v_Img_76 oc_Img rfl (ef_Img_readRegister hX e10) rfl (by omega) (Nat.le_of_ble_eq_true rfl) ⟨Nat.zero_le _, Nat.zero_le _⟩ rfl ?_
        obtain ⟨c11, h⟩ := chk_e h
        cases h
        exact g_zret (pc := 66) rfl c11 (dd d_Img_readLine 21 rfl) hT
      · obtain rfl : off = 46 := (Option.some.inj ho).symm
        refine ⟨67, by decide, ?_⟩
        replace w2 : (I 1 1 : Int32) = 48 := Int32.toInt_inj.mp w2
        replace h := ite_f h (by rw [w2]; decide)
        replace h := ite_f h (by rw [w2]; decide)
        replace h := ite_f h (by rw [w2]; decide)
        replace h := ite_t h w2
        refine g_aload_n (pc := 67) (dd d_Img_readLine 22 rfl) rfl ?_
        obtain ⟨v12, e13, h⟩ := bnd_e h
        refine g_callV (pc := 68) (dd d_Img_readLine 23 rfl) v_Img_79 oc_Img rfl (ef_Img_readInput hX e13) rfl (by omega) (Nat.le_of_ble_eq_true rfl) ⟨Nat.zero_le _, Nat.zero_le _⟩ rfl ?_
        obtain ⟨c14, h⟩ := chk_e h
        cases h
        exact g_zret (pc := 71) rfl c14 (dd d_Img_readLine 24 rfl) hT
      · cases ho
    · skip
      replace w2 : ((I 1 1 : Int32)).toInt < 45 ∨ 48 < ((I 1 1 : Int32)).toInt := w2
      replace h := ite_f h (fun e => by rw [e] at w2; revert w2; decide)
      replace h := ite_f h (fun e => by rw [e] at w2; revert w2; decide)
      replace h := ite_f h (fun e => by rw [e] at w2; revert w2; decide)
      replace h := ite_f h (fun e => by rw [e] at w2; revert w2; decide)
      refine g_iconst (pc := 72) (v := 0) (dd d_Img_readLine 25 rfl) (by decide) ?_
      cases h
      exact g_zret (pc := 73) rfl (by decide) (dd d_Img_readLine 26 rfl) hT
  · replace h := ite_f h q1
    refine g_aload_n (pc := 14) (dd d_Img_readLine 7 rfl) rfl ?_
    refine g_iload_n (pc := 15) (dd d_Img_readLine 8 rfl) rfl ?_
    obtain ⟨v15, e16, h⟩ := bnd_e h
    refine g_callV (pc := 16) (dd d_Img_readLine 9 rfl) v_Img_67 oc_Img rfl (ef_Img_readInstruction hX e16) rfl (by omega) (Nat.le_of_ble_eq_true rfl) ⟨Nat.zero_le _, Nat.zero_le _⟩ rfl ?_
    obtain ⟨c17, h⟩ := chk_e h
    cases h
    exact g_zret (pc := 19) rfl c17 (dd d_Img_readLine 10 rfl) hT
def b_Img_read_100 (n : Nat) (it : Nat) (J : JM) (H52 : Int32 → Int32 → IM → Option (Int32 × IM)) (x2 : Int32) (y0 : Int32) (I : IM) : Option (Int32 × IM) := H52 y0 (x2 + 1) I
set_option maxRecDepth 20000 in
set_option maxHeartbeats 4000000 in
theorem gb_Img_read_100 {Δ : Dx} {X : Lx} {rl hd ot pt it : Nat} (hX : EX Δ X rl hd ot pt it)   {n : Nat} {Γ : Cx} (hk : Γ.k = 8) {r : Int32 × IM} (hT : Tg Δ Γ (some (.int r.1)) NN (r.2, X) 0 0) {H52 : Int32 → Int32 → IM → Option (Int32 × IM)} (hH52 : ∀ (x1 : Int32) (x2 : Int32) (I : IM), H52 x1 x2 I = some r → GG Δ m_Img_read Γ NN 0 0 (I, X) 52 [some (.ref (Δ.ba + 15)), some (.int (x1)), some (.int (x2))] []) {x2 : Int32} {y0 : Int32} {I : IM} (h : b_Img_read_100 n it X.1 H52 x2 y0 I = some r) : GG Δ m_Img_read Γ NN 0 0 (I, X) 100 [some (.ref (Δ.ba + 15)), none, some (.int (x2))] [.int (y0)] := by
  unfold b_Img_read_100 at h
  refine g_istore_n (pc := 100) (dd d_Img_read 48 rfl) (by decide) ?_
  refine g_iincW (pc := 101) (w := 1) (dd d_Img_read 49 rfl) rfl (by decide) (by decide) ?_
  refine g_goto (pc := 104) (tgt := 52) (dd d_Img_read 50 rfl) (by decide) ?_
  exact hH52 _ _ _ h
def b_Img_read_99 (n : Nat) (it : Nat) (J : JM) (H52 : Int32 → Int32 → IM → Option (Int32 × IM)) (x2 : Int32) (I : IM) : Option (Int32 × IM) := b_Img_read_100 n it J H52 x2 0 I
set_option maxRecDepth 20000 in
set_option maxHeartbeats 4000000 in
theorem gb_Img_read_99 {Δ : Dx} {X : Lx} {rl hd ot pt it : Nat} (hX : EX Δ X rl hd ot pt it)   {n : Nat} {Γ : Cx} (hk : Γ.k = 8) {r : Int32 × IM} (hT : Tg Δ Γ (some (.int r.1)) NN (r.2, X) 0 0) {H52 : Int32 → Int32 → IM → Option (Int32 × IM)} (hH52 : ∀ (x1 : Int32) (x2 : Int32) (I : IM), H52 x1 x2 I = some r → GG Δ m_Img_read Γ NN 0 0 (I, X) 52 [some (.ref (Δ.ba + 15)), some (.int (x1)), some (.int (x2))] []) {x2 : Int32} {I : IM} (h : b_Img_read_99 n it X.1 H52 x2 I = some r) : GG Δ m_Img_read Γ NN 0 0 (I, X) 99 [some (.ref (Δ.ba + 15)), none, some (.int (x2))] [] := by
  unfold b_Img_read_99 at h
  refine g_iconst (pc := 99) (v := 0) (dd d_Img_read 47 rfl) (by decide) ?_
  exact gb_Img_read_100 hX hk hT hH52 h
def b_Img_read_147 (n : Nat) (it : Nat) (J : JM)  (y0 : Int32) (I : IM) : Option (Int32 × IM) := some (y0, I)
set_option maxRecDepth 20000 in
set_option maxHeartbeats 4000000 in
theorem gb_Img_read_147 {Δ : Dx} {X : Lx} {rl hd ot pt it : Nat} (hX : EX Δ X rl hd ot pt it)   {n : Nat} {Γ : Cx} (hk : Γ.k = 8) {r : Int32 × IM} (hT : Tg Δ Γ (some (.int r.1)) NN (r.2, X) 0 0)  {y0 : Int32} {I : IM} (h : b_Img_read_147 n it X.1  y0 I = some r) : GG Δ m_Img_read Γ NN 0 0 (I, X) 147 [none, none, none] [.int (y0)] := by
  unfold b_Img_read_147 at h
  cases h
  exact g_iret (pc := 147) rfl (dd d_Img_read_1 10 rfl) hT
def b_Img_read_125 (n : Nat) (it : Nat) (J : JM)   (I : IM) : Option (Int32 × IM) := if (I 15 4 : Int32) = ((-1) : Int32) then (b_Img_read_147 n it J  (I 1 2) I) else (b_Img_read_147 n it J  (I 15 4) I)
set_option maxRecDepth 20000 in
set_option maxHeartbeats 4000000 in
theorem gb_Img_read_125 {Δ : Dx} {X : Lx} {rl hd ot pt it : Nat} (hX : EX Δ X rl hd ot pt it)   {n : Nat} {Γ : Cx} (hk : Γ.k = 8) {r : Int32 × IM} (hT : Tg Δ Γ (some (.int r.1)) NN (r.2, X) 0 0)   {I : IM} (h : b_Img_read_125 n it X.1   I = some r) : GG Δ m_Img_read Γ NN 0 0 (I, X) 125 [some (.ref (Δ.ba + 15)), none, none] [] := by
  unfold b_Img_read_125 at h
  refine g_aload_n (pc := 125) (dd d_Img_read_1 0 rfl) rfl ?_
  refine g_geti (pc := 126) (dd d_Img_read_1 1 rfl) f_Img_30 oc_Img rfl ?_
  refine g_iconst (pc := 129) (v := (-1)) (dd d_Img_read_1 2 rfl) (by decide) ?_
  refine g_icmpne (pc := 130) (tgt := 143) (dd d_Img_read_1 3 rfl) (by decide) (fun q22 => ?_) (fun q22 => ?_)
  · replace h := ite_f h q22
    refine g_aload_n (pc := 143) (dd d_Img_read_1 8 rfl) rfl ?_
    refine g_geti (pc := 144) (dd d_Img_read_1 9 rfl) f_Img_30 oc_Img rfl ?_
    refine g_drop [0] ?_
    exact gb_Img_read_147 hX hk hT  h
  · replace h := ite_t h q22
    refine g_aload_n (pc := 133) (dd d_Img_read_1 4 rfl) rfl ?_
    refine g_getr (pc := 134) (dd d_Img_read_1 5 rfl) f_Img_9 oc_Img rfl (rx_Img_0 hX) ?_
    refine g_geti (pc := 137) (dd d_Img_read_1 6 rfl) f_Img_52 oc_Rdr rfl ?_
    refine g_goto (pc := 140) (tgt := 147) (dd d_Img_read_1 7 rfl) (by decide) ?_
    refine g_drop [0] ?_
    exact gb_Img_read_147 hX hk hT  h
def b_Img_read_107 (n : Nat) (it : Nat) (J : JM)  (x1 : Int32) (I : IM) : Option (Int32 × IM) := if x1 = 0 then (b_Img_read_125 n it J  I) else (if (I 1 1 : Int32) = (100 : Int32) then (some ((-1), I)) else (b_Img_read_125 n it J  I))
set_option maxRecDepth 20000 in
set_option maxHeartbeats 4000000 in
theorem gb_Img_read_107 {Δ : Dx} {X : Lx} {rl hd ot pt it : Nat} (hX : EX Δ X rl hd ot pt it)   {n : Nat} {Γ : Cx} (hk : Γ.k = 8) {r : Int32 × IM} (hT : Tg Δ Γ (some (.int r.1)) NN (r.2, X) 0 0)  {x1 : Int32} {I : IM} (h : b_Img_read_107 n it X.1  x1 I = some r) : GG Δ m_Img_read Γ NN 0 0 (I, X) 107 [some (.ref (Δ.ba + 15)), some (.int (x1)), none] [] := by
  unfold b_Img_read_107 at h
  refine g_iload_n (pc := 107) (dd d_Img_read 51 rfl) rfl ?_
  refine g_ifeq (pc := 108) (tgt := 125) (dd d_Img_read 52 rfl) (by decide) (fun q20 => ?_) (fun q20 => ?_)
  · replace h := ite_t h q20
    refine g_drop [1] ?_
    exact gb_Img_read_125 hX hk hT  h
  · replace h := ite_f h q20
    refine g_aload_n (pc := 111) (dd d_Img_read 53 rfl) rfl ?_
    refine g_getr (pc := 112) (dd d_Img_read 54 rfl) f_Img_9 oc_Img rfl (rx_Img_0 hX) ?_
    refine g_geti (pc := 115) (dd d_Img_read 55 rfl) f_Img_38 oc_Rdr rfl ?_
    refine g_bipush (pc := 118) (v := 100) (dd d_Img_read 56 rfl) (by decide) ?_
    refine g_icmpne (pc := 120) (tgt := 125) (dd d_Img_read 57 rfl) (by decide) (fun q21 => ?_) (fun q21 => ?_)
    · replace h := ite_f h q21
      refine g_drop [1] ?_
      exact gb_Img_read_125 hX hk hT  h
    · replace h := ite_t h q21
      refine g_iconst (pc := 123) (v := (-1)) (dd d_Img_read 58 rfl) (by decide) ?_
      cases h
      exact g_iret (pc := 124) rfl (dd d_Img_read 59 rfl) hT
def l_Img_read_52 (n : Nat) (it : Nat) (J : JM)  : Nat → Int32 → Int32 → IM → Option (Int32 × IM)
  | 0, _, _, _ => none
  | f + 1, x1, x2, I => if (900 : Int32) ≤ x2 then (b_Img_read_107 n it J  x1 I) else (if x1 = 0 then (b_Img_read_107 n it J  x1 I) else (if (I 1 1 : Int32) = (100 : Int32) then (b_Img_read_107 n it J  x1 I) else (Option.bind (f_Img_readLine n it I) fun v14 => if (v14.1 : Int32) = 0 then (b_Img_read_99 n it J (l_Img_read_52 n it J  f) x2 v14.2) else (Option.bind (f_Rdr_take  187 v14.2) fun v17 => (l_Img_read_52 n it J  f) (if (v17.1 : Int32) = 0 then 0 else 1) (x2 + 1) v17.2))))
set_option maxRecDepth 20000 in
set_option maxHeartbeats 4000000 in
theorem gl_Img_read_52 {Δ : Dx} {X : Lx} {rl hd ot pt it : Nat} (hX : EX Δ X rl hd ot pt it)   {n : Nat} {Γ : Cx} (hk : Γ.k = 8) {r : Int32 × IM} (hT : Tg Δ Γ (some (.int r.1)) NN (r.2, X) 0 0)  : ∀ (f : Nat) (x1 : Int32) (x2 : Int32) (I : IM), l_Img_read_52 n it X.1  f x1 x2 I = some r → GG Δ m_Img_read Γ NN 0 0 (I, X) 52 [some (.ref (Δ.ba + 15)), some (.int (x1)), some (.int (x2))] []
  | 0, _, _, _, h => by cases h
  | f + 1, x1, x2, I, h => by
    have ih := gl_Img_read_52 (n := n) hX hk hT  f
    rw [l_Img_read_52] at h
    refine g_iload_n (pc := 52) (dd d_Img_read 27 rfl) rfl ?_
    refine g_sipush (pc := 53) (v := 900) (dd d_Img_read 28 rfl) (by decide) ?_
    refine g_icmpge (pc := 56) (tgt := 107) (dd d_Img_read 29 rfl) (by decide) (fun q11 => ?_) (fun q11 => ?_)
    · replace h := ite_t h q11
      refine g_drop [2] ?_
      exact gb_Img_read_107 hX hk hT  h
    · replace h := ite_f h q11
      refine g_iload_n (pc := 59) (dd d_Img_read 30 rfl) rfl ?_
      refine g_ifeq (pc := 60) (tgt := 107) (dd d_Img_read 31 rfl) (by decide) (fun q12 => ?_) (fun q12 => ?_)
      · replace h := ite_t h q12
        refine g_drop [2] ?_
        exact gb_Img_read_107 hX hk hT  h
      · replace h := ite_f h q12
        refine g_aload_n (pc := 63) (dd d_Img_read 32 rfl) rfl ?_
        refine g_getr (pc := 64) (dd d_Img_read 33 rfl) f_Img_9 oc_Img rfl (rx_Img_0 hX) ?_
        refine g_geti (pc := 67) (dd d_Img_read 34 rfl) f_Img_38 oc_Rdr rfl ?_
        refine g_bipush (pc := 70) (v := 100) (dd d_Img_read 35 rfl) (by decide) ?_
        refine g_icmpeq (pc := 72) (tgt := 107) (dd d_Img_read 36 rfl) (by decide) (fun q13 => ?_) (fun q13 => ?_)
        · replace h := ite_t h q13
          refine g_drop [2] ?_
          exact gb_Img_read_107 hX hk hT  h
        · replace h := ite_f h q13
          refine g_aload_n (pc := 75) (dd d_Img_read 37 rfl) rfl ?_
          obtain ⟨v14, e15, h⟩ := bnd_e h
          refine g_callV (pc := 76) (dd d_Img_read 38 rfl) v_Img_45 oc_Img rfl (ef_Img_readLine hX e15) rfl (by omega) (Nat.le_of_ble_eq_true rfl) ⟨Nat.zero_le _, Nat.zero_le _⟩ rfl ?_
          refine g_ifeq (pc := 79) (tgt := 99) (dd d_Img_read 39 rfl) (by decide) (fun q16 => ?_) (fun q16 => ?_)
          · replace h := ite_t h q16
            refine g_drop [1] ?_
            exact gb_Img_read_99 hX hk hT ih h
          · replace h := ite_f h q16
            refine g_aload_n (pc := 82) (dd d_Img_read 40 rfl) rfl ?_
            refine g_getr (pc := 83) (dd d_Img_read 41 rfl) f_Img_9 oc_Img rfl (rx_Img_0 hX) ?_
            refine g_sipush (pc := 86) (v := 187) (dd d_Img_read 42 rfl) (by decide) ?_
            obtain ⟨v17, e18, h⟩ := bnd_e h
            refine g_callV (pc := 89) (dd d_Img_read 43 rfl) v_Img_48 oc_Rdr rfl (ef_Rdr_take hX e18) rfl (by omega) (Nat.le_of_ble_eq_true rfl) ⟨Nat.zero_le _, Nat.zero_le _⟩ rfl ?_
            suffices K92 : ∀ z : Int32, z = (if (v17.1 : Int32) = 0 then 0 else 1 : Int32) → GG Δ m_Img_read Γ NN 0 0 (v17.2, X) 100 [some (.ref (Δ.ba + 15)), some (.int (x1)), some (.int (x2))] [.int (z)] by
              refine g_ifeq (pc := 92) (tgt := 99) (dd d_Img_read 44 rfl) (by decide) (fun q19 => ?_) (fun q19 => ?_)
              · skip
                refine g_iconst (pc := 99) (v := 0) (dd d_Img_read 47 rfl) (by decide) ?_
                exact K92 _ (by rw [if_pos q19])
              · skip
                refine g_iconst (pc := 95) (v := 1) (dd d_Img_read 45 rfl) (by decide) ?_
                refine g_goto (pc := 96) (tgt := 100) (dd d_Img_read 46 rfl) (by decide) ?_
                exact K92 _ (by rw [if_neg q19])
            intro z hz
            subst hz
            refine g_istore_n (pc := 100) (dd d_Img_read 48 rfl) (by decide) ?_
            refine g_iincW (pc := 101) (w := 1) (dd d_Img_read 49 rfl) rfl (by decide) (by decide) ?_
            refine g_goto (pc := 104) (tgt := 52) (dd d_Img_read 50 rfl) (by decide) ?_
            exact ih _ _ _ h
def b_Img_read_49 (n : Nat) (it : Nat) (J : JM)  (y0 : Int32) (I : IM) : Option (Int32 × IM) := l_Img_read_52 n it J  n y0 0 I
set_option maxRecDepth 20000 in
set_option maxHeartbeats 4000000 in
theorem gb_Img_read_49 {Δ : Dx} {X : Lx} {rl hd ot pt it : Nat} (hX : EX Δ X rl hd ot pt it)   {n : Nat} {Γ : Cx} (hk : Γ.k = 8) {r : Int32 × IM} (hT : Tg Δ Γ (some (.int r.1)) NN (r.2, X) 0 0)  {y0 : Int32} {I : IM} (h : b_Img_read_49 n it X.1  y0 I = some r) : GG Δ m_Img_read Γ NN 0 0 (I, X) 49 [some (.ref (Δ.ba + 15)), none, none] [.int (y0)] := by
  unfold b_Img_read_49 at h
  refine g_istore_n (pc := 49) (dd d_Img_read 24 rfl) (by decide) ?_
  refine g_iconst (pc := 50) (v := 0) (dd d_Img_read 25 rfl) (by decide) ?_
  refine g_istore_n (pc := 51) (dd d_Img_read 26 rfl) (by decide) ?_
  exact gl_Img_read_52 hX hk hT  _ _ _ _ h
def b_Img_read_44 (n : Nat) (it : Nat) (J : JM)   (I : IM) : Option (Int32 × IM) := b_Img_read_49 n it J  1 I
set_option maxRecDepth 20000 in
set_option maxHeartbeats 4000000 in
theorem gb_Img_read_44 {Δ : Dx} {X : Lx} {rl hd ot pt it : Nat} (hX : EX Δ X rl hd ot pt it)   {n : Nat} {Γ : Cx} (hk : Γ.k = 8) {r : Int32 × IM} (hT : Tg Δ Γ (some (.int r.1)) NN (r.2, X) 0 0)   {I : IM} (h : b_Img_read_44 n it X.1   I = some r) : GG Δ m_Img_read Γ NN 0 0 (I, X) 44 [some (.ref (Δ.ba + 15)), none, none] [] := by
  unfold b_Img_read_44 at h
  refine g_iconst (pc := 44) (v := 1) (dd d_Img_read 21 rfl) (by decide) ?_
  refine g_goto (pc := 45) (tgt := 49) (dd d_Img_read 22 rfl) (by decide) ?_
  exact gb_Img_read_49 hX hk hT  h
def f_Img_read (n : Nat) (it : Nat) (J : JM) (I : IM) : Option (Int32 × IM) := Option.bind (f_Mch_restart  it 0 I) fun v1 => lt (up v1 15 2 (0)) fun I3 => lt (up I3 15 4 ((-1))) fun I4 => Option.bind (f_Rdr_startOver n J I4) fun v5 => if (v5 1 1 : Int32) = (35 : Int32) then (Option.bind (f_Img_readClear  it v5) fun v8 => l_Img_read_52 n it J  n (if (v8.1 : Int32) = 0 then 0 else 1) 0 v8.2) else (b_Img_read_44 n it J  v5)
set_option maxRecDepth 20000 in
set_option maxHeartbeats 4000000 in
theorem ef_Img_read {Δ : Dx} {X : Lx} {rl hd ot pt it : Nat} (hX : EX Δ X rl hd ot pt it) {n : Nat}  {I : IM}  {r : Int32 × IM} (h : f_Img_read n it X.1 I = some r) : Ev Δ (8) m_Img_read [.ref (Δ.ba + 15)] (I, X) (some (.int r.1)) (r.2, X) := by
  refine ev_of (by decide) (Nat.le_of_ble_eq_true rfl) (fun Γ hk hR hT => ?_)
  change GG Δ m_Img_read Γ NN 0 0 (I, X) 0 [some (.ref (Δ.ba + 15)), none, none] []
  unfold f_Img_read at h
  refine g_aload_n (pc := 0) (dd d_Img_read 0 rfl) rfl ?_
  refine g_getr (pc := 1) (dd d_Img_read 1 rfl) f_Img_18 oc_Img rfl hX.r_it ?_
  refine g_iconst (pc := 4) (v := 0) (dd d_Img_read 2 rfl) (by decide) ?_
  obtain ⟨v1, e2, h⟩ := bnd_e h
  refine g_callV (pc := 5) (dd d_Img_read 3 rfl) v_Img_22 (oc_Mch hX.i_it) rfl (ef_Mch_restart hX hX.i_it e2) rfl (by omega) (Nat.le_of_ble_eq_true rfl) ⟨Nat.zero_le _, Nat.zero_le _⟩ rfl ?_
  refine g_aload_n (pc := 8) (dd d_Img_read 4 rfl) rfl ?_
  refine g_iconst (pc := 9) (v := 0) (dd d_Img_read 5 rfl) (by decide) ?_
  refine g_putiN (pc := 10) (dd d_Img_read 6 rfl) f_Img_26 fm_Img_2 oc_Img rfl (fun I3 hI3 => ?_)
  replace h := lt_e h hI3
  refine g_aload_n (pc := 13) (dd d_Img_read 7 rfl) rfl ?_
  refine g_iconst (pc := 14) (v := (-1)) (dd d_Img_read 8 rfl) (by decide) ?_
  refine g_putiN (pc := 15) (dd d_Img_read 9 rfl) f_Img_30 fm_Img_4 oc_Img rfl (fun I4 hI4 => ?_)
  replace h := lt_e h hI4
  refine g_aload_n (pc := 18) (dd d_Img_read 10 rfl) rfl ?_
  refine g_getr (pc := 19) (dd d_Img_read 11 rfl) f_Img_9 oc_Img rfl (rx_Img_0 hX) ?_
  obtain ⟨v5, e6, h⟩ := bnd_e h
  refine g_callV (pc := 22) (dd d_Img_read 12 rfl) v_Img_33 oc_Rdr rfl (ef_Rdr_startOver hX e6) rfl (by omega) (Nat.le_of_ble_eq_true rfl) ⟨Nat.zero_le _, Nat.zero_le _⟩ rfl ?_
  refine g_aload_n (pc := 25) (dd d_Img_read 13 rfl) rfl ?_
  refine g_getr (pc := 26) (dd d_Img_read 14 rfl) f_Img_9 oc_Img rfl (rx_Img_0 hX) ?_
  refine g_geti (pc := 29) (dd d_Img_read 15 rfl) f_Img_38 oc_Rdr rfl ?_
  refine g_bipush (pc := 32) (v := 35) (dd d_Img_read 16 rfl) (by decide) ?_
  refine g_icmpne (pc := 34) (tgt := 44) (dd d_Img_read 17 rfl) (by decide) (fun q7 => ?_) (fun q7 => ?_)
  · replace h := ite_f h q7
    exact gb_Img_read_44 hX hk hT  h
  · replace h := ite_t h q7
    refine g_aload_n (pc := 37) (dd d_Img_read 18 rfl) rfl ?_
    obtain ⟨v8, e9, h⟩ := bnd_e h
    refine g_callV (pc := 38) (dd d_Img_read 19 rfl) v_Img_41 oc_Img rfl (ef_Img_readClear hX e9) rfl (by omega) (Nat.le_of_ble_eq_true rfl) ⟨Nat.zero_le _, Nat.zero_le _⟩ rfl ?_
    suffices K41 : ∀ z : Int32, z = (if (v8.1 : Int32) = 0 then 0 else 1 : Int32) → GG Δ m_Img_read Γ NN 0 0 (v8.2, X) 49 [some (.ref (Δ.ba + 15)), none, none] [.int (z)] by
      refine g_ifeq (pc := 41) (tgt := 48) (dd d_Img_read 20 rfl) (by decide) (fun q10 => ?_) (fun q10 => ?_)
      · skip
        refine g_iconst (pc := 48) (v := 0) (dd d_Img_read 23 rfl) (by decide) ?_
        exact K41 _ (by rw [if_pos q10])
      · skip
        refine g_iconst (pc := 44) (v := 1) (dd d_Img_read 21 rfl) (by decide) ?_
        refine g_goto (pc := 45) (tgt := 49) (dd d_Img_read 22 rfl) (by decide) ?_
        exact K41 _ (by rw [if_neg q10])
    intro z hz
    subst hz
    refine g_istore_n (pc := 49) (dd d_Img_read 24 rfl) (by decide) ?_
    refine g_iconst (pc := 50) (v := 0) (dd d_Img_read 25 rfl) (by decide) ?_
    refine g_istore_n (pc := 51) (dd d_Img_read 26 rfl) (by decide) ?_
    exact gl_Img_read_52 hX hk hT  _ _ _ _ h
def f_Mch_forgetAnswers (x0 : Nat) (I : IM) : Option (IM) := Option.bind (f_Rng_empty  (x0 + 15) I) fun v1 => lt (up v1 (x0 + 13) (3 : Int32).toNatClampNeg (0)) fun I3 => lt (up I3 (x0 + 13) (4 : Int32).toNatClampNeg (0)) fun I4 => some I4
set_option maxRecDepth 20000 in
set_option maxHeartbeats 4000000 in
theorem ef_Mch_forgetAnswers {Δ : Dx} {X : Lx} {rl hd ot pt it : Nat} (hX : EX Δ X rl hd ot pt it) {x0 : Nat} (h_x0 : isMch x0) {I : IM}  {r : IM} (h : f_Mch_forgetAnswers x0 I = some r) : Ev Δ (1) m_Mch_forgetAnswers [.ref (Δ.ba + x0)] (I, X) none (r, X) := by
  refine ev_of (by decide) (Nat.le_of_ble_eq_true rfl) (fun Γ hk hR hT => ?_)
  change GG Δ m_Mch_forgetAnswers Γ NN 0 0 (I, X) 0 [some (.ref (Δ.ba + x0))] []
  unfold f_Mch_forgetAnswers at h
  refine g_aload_n (pc := 0) (dd d_Mch_forgetAnswers 0 rfl) rfl ?_
  refine g_getr (pc := 1) (dd d_Mch_forgetAnswers 1 rfl) f_Mch_59 (oc_Mch h_x0) rfl (rx_Mch_17 hX h_x0) ?_
  obtain ⟨v1, e2, h⟩ := bnd_e h
  refine g_callV (pc := 4) (dd d_Mch_forgetAnswers 2 rfl) v_Mch_82 (oc_Rng (ir_17 h_x0)) rfl (ef_Rng_empty hX (ir_17 h_x0) e2) rfl (by omega) (Nat.le_of_ble_eq_true rfl) ⟨Nat.zero_le _, Nat.zero_le _⟩ rfl ?_
  refine g_aload_n (pc := 7) (dd d_Mch_forgetAnswers 3 rfl) rfl ?_
  refine g_getr (pc := 8) (dd d_Mch_forgetAnswers 4 rfl) f_Mch_48 (oc_Mch h_x0) rfl (rx_Mch_15 hX h_x0) ?_
  refine g_iconst (pc := 11) (v := 3) (dd d_Mch_forgetAnswers 5 rfl) (by decide) ?_
  refine g_iconst (pc := 12) (v := 0) (dd d_Mch_forgetAnswers 6 rfl) (by decide) ?_
  refine g_iastN (pc := 13) (dd d_Mch_forgetAnswers 7 rfl) (ax_Mch_15 h_x0) (by rw [vp_in_iff]; decide) (fun I3 hI3 => ?_)
  replace h := lt_e h hI3
  refine g_aload_n (pc := 14) (dd d_Mch_forgetAnswers 8 rfl) rfl ?_
  refine g_getr (pc := 15) (dd d_Mch_forgetAnswers 9 rfl) f_Mch_48 (oc_Mch h_x0) rfl (rx_Mch_15 hX h_x0) ?_
  refine g_iconst (pc := 18) (v := 4) (dd d_Mch_forgetAnswers 10 rfl) (by decide) ?_
  refine g_iconst (pc := 19) (v := 0) (dd d_Mch_forgetAnswers 11 rfl) (by decide) ?_
  refine g_iastN (pc := 20) (dd d_Mch_forgetAnswers 12 rfl) (ax_Mch_15 h_x0) (by rw [vp_in_iff]; decide) (fun I4 hI4 => ?_)
  replace h := lt_e h hI4
  cases h
  exact g_vret (pc := 21) rfl (dd d_Mch_forgetAnswers 13 rfl) hT
def f_Pol_empty (x0 : Nat) (I : IM) : Option (IM) := lt (up I x0 0 (0)) fun I1 => lt (fil I1 (x0 + 5) 22 ((-1))) fun I2 => some I2
set_option maxRecDepth 20000 in
set_option maxHeartbeats 4000000 in
theorem ef_Pol_empty {Δ : Dx} {X : Lx} {rl hd ot pt it : Nat} (hX : EX Δ X rl hd ot pt it) {x0 : Nat} (h_x0 : isPol x0) {I : IM}  {r : IM} (h : f_Pol_empty x0 I = some r) : Ev Δ (4) m_Pol_empty [.ref (Δ.ba + x0)] (I, X) none (r, X) := by
  refine ev_of (by decide) (Nat.le_of_ble_eq_true rfl) (fun Γ hk hR hT => ?_)
  change GG Δ m_Pol_empty Γ NN 0 0 (I, X) 0 [some (.ref (Δ.ba + x0))] []
  unfold f_Pol_empty at h
  refine g_aload_n (pc := 0) (dd d_Pol_empty 0 rfl) rfl ?_
  refine g_iconst (pc := 1) (v := 0) (dd d_Pol_empty 1 rfl) (by decide) ?_
  refine g_putiN (pc := 2) (dd d_Pol_empty 2 rfl) f_Pol_36 fm_Pol_0 (oc_Pol h_x0) rfl (fun I1 hI1 => ?_)
  replace h := lt_e h hI1
  refine g_aload_n (pc := 5) (dd d_Pol_empty 3 rfl) rfl ?_
  refine g_getr (pc := 6) (dd d_Pol_empty 4 rfl) f_Pol_24 (oc_Pol h_x0) rfl (rx_Pol_5 hX h_x0) ?_
  refine g_iconst (pc := 9) (v := (-1)) (dd d_Pol_empty 5 rfl) (by decide) ?_
  refine g_callS (pc := 10) (dd d_Pol_empty 6 rfl) s_Pol_30 (ev_fill (N := 22) ((-1)) (ax_Pol_5 h_x0) (by decide)) rfl (by omega) (Nat.le_of_ble_eq_true rfl) ⟨Nat.zero_le _, Nat.zero_le _⟩ rfl ?_
  obtain ⟨I2, hI2⟩ : ∃ z, z = fil I1 (x0 + 5) 22 ((-1)) := ⟨_, rfl⟩
  rw [show fillI (I1, X) (x0 + 5) 22 ((-1)) = (I2, X) from by rw [hI2]; rfl]
  replace h := lt_e h hI2
  cases h
  exact g_vret (pc := 13) rfl (dd d_Pol_empty 7 rfl) hT
def b_Pol_append_31 (x0 : Nat)   (I : IM) : Option (Int32 × IM) := some ((-1), I)
set_option maxRecDepth 20000 in
set_option maxHeartbeats 4000000 in
theorem gb_Pol_append_31 {Δ : Dx} {X : Lx} {rl hd ot pt it : Nat} (hX : EX Δ X rl hd ot pt it) {x0 : Nat} (h_x0 : isPol x0)  {Γ : Cx} (hk : Γ.k = 0) {r : Int32 × IM} (hT : Tg Δ Γ (some (.int r.1)) NN (r.2, X) 0 0)   {I : IM} (h : b_Pol_append_31 x0   I = some r) : GG Δ m_Pol_append Γ NN 0 0 (I, X) 31 [none, none, none] [] := by
  unfold b_Pol_append_31 at h
  refine g_iconst (pc := 31) (v := (-1)) (dd d_Pol_append 15 rfl) (by decide) ?_
  cases h
  exact g_iret (pc := 32) rfl (dd d_Pol_append 16 rfl) hT
def f_Pol_append (x0 : Nat) (x1 : Int32) (x2 : Int32) (I : IM) : Option (Int32 × IM) := if (I x0 0 : Int32) < 0 then (b_Pol_append_31 x0  I) else (if (900 : Int32) ≤ (I x0 0 : Int32) then (b_Pol_append_31 x0  I) else (if (I x0 0 : Int32) < (900 : Int32) then (chk (inb (I x0 0) 900) <| lt (up I (x0 + 1) (I x0 0 : Int32).toNatClampNeg (x1)) fun I5 => chk (inb (I5 x0 0) 900) <| lt (up I5 (x0 + 2) (I5 x0 0 : Int32).toNatClampNeg (x2)) fun I7 => lt (up I7 x0 0 ((I7 x0 0) + 1)) fun I8 => some ((I8 x0 0) - 1, I8)) else (b_Pol_append_31 x0  I)))
set_option maxRecDepth 20000 in
set_option maxHeartbeats 4000000 in
theorem ef_Pol_append {Δ : Dx} {X : Lx} {rl hd ot pt it : Nat} (hX : EX Δ X rl hd ot pt it) {x0 : Nat} {x1 : Int32} {x2 : Int32} (h_x0 : isPol x0) {I : IM}  {r : Int32 × IM} (h : f_Pol_append x0 x1 x2 I = some r) : Ev Δ (0) m_Pol_append [.ref (Δ.ba + x0), .int x1, .int x2] (I, X) (some (.int r.1)) (r.2, X) := by
  refine ev_of (by decide) (Nat.le_of_ble_eq_true rfl) (fun Γ hk hR hT => ?_)
  change GG Δ m_Pol_append Γ NN 0 0 (I, X) 0 [some (.ref (Δ.ba + x0)), some (.int (x1)), some (.int (x2))] []
  unfold f_Pol_append at h
  refine g_aload_n (pc := 0) (dd d_Pol_append 0 rfl) rfl ?_
  refine g_geti (pc := 1) (dd d_Pol_append 1 rfl) f_Pol_36 (oc_Pol h_x0) rfl ?_
  refine g_iflt (pc := 4) (tgt := 31) (dd d_Pol_append 2 rfl) (by decide) (fun q1 => ?_) (fun q1 => ?_)
  · replace h := ite_t h q1
    refine g_drop [0, 1, 2] ?_
    exact gb_Pol_append_31 hX h_x0 hk hT  h
  · replace h := ite_f h q1
    refine g_aload_n (pc := 7) (dd d_Pol_append 3 rfl) rfl ?_
    refine g_geti (pc := 8) (dd d_Pol_append 4 rfl) f_Pol_36 (oc_Pol h_x0) rfl ?_
    refine g_aload_n (pc := 11) (dd d_Pol_append 5 rfl) rfl ?_
    refine g_getr (pc := 12) (dd d_Pol_append 6 rfl) f_Pol_9 (oc_Pol h_x0) rfl (rx_Pol_1 hX h_x0) ?_
    refine g_alen (pc := 15) (t := 0) (v := 900) (dd d_Pol_append 7 rfl) (ax_Pol_1 h_x0) rfl (by decide) ?_
    refine g_icmpge (pc := 16) (tgt := 31) (dd d_Pol_append 8 rfl) (by decide) (fun q2 => ?_) (fun q2 => ?_)
    · replace h := ite_t h q2
      refine g_drop [0, 1, 2] ?_
      exact gb_Pol_append_31 hX h_x0 hk hT  h
    · replace h := ite_f h q2
      refine g_aload_n (pc := 19) (dd d_Pol_append 9 rfl) rfl ?_
      refine g_geti (pc := 20) (dd d_Pol_append 10 rfl) f_Pol_36 (oc_Pol h_x0) rfl ?_
      refine g_aload_n (pc := 23) (dd d_Pol_append 11 rfl) rfl ?_
      refine g_getr (pc := 24) (dd d_Pol_append 12 rfl) f_Pol_15 (oc_Pol h_x0) rfl (rx_Pol_2 hX h_x0) ?_
      refine g_alen (pc := 27) (t := 0) (v := 900) (dd d_Pol_append 13 rfl) (ax_Pol_2 h_x0) rfl (by decide) ?_
      refine g_icmplt (pc := 28) (tgt := 33) (dd d_Pol_append 14 rfl) (by decide) (fun q3 => ?_) (fun q3 => ?_)
      · replace h := ite_t h q3
        refine g_aload_n (pc := 33) (dd d_Pol_append 17 rfl) rfl ?_
        refine g_getr (pc := 34) (dd d_Pol_append 18 rfl) f_Pol_9 (oc_Pol h_x0) rfl (rx_Pol_1 hX h_x0) ?_
        refine g_aload_n (pc := 37) (dd d_Pol_append 19 rfl) rfl ?_
        refine g_geti (pc := 38) (dd d_Pol_append 20 rfl) f_Pol_36 (oc_Pol h_x0) rfl ?_
        refine g_iload_n (pc := 41) (dd d_Pol_append 21 rfl) rfl ?_
        obtain ⟨c4, h⟩ := chk_e h
        refine g_iastN (pc := 42) (dd d_Pol_append 22 rfl) (ax_Pol_1 h_x0) c4 (fun I5 hI5 => ?_)
        replace h := lt_e h hI5
        refine g_aload_n (pc := 43) (dd d_Pol_append 23 rfl) rfl ?_
        refine g_getr (pc := 44) (dd d_Pol_append 24 rfl) f_Pol_15 (oc_Pol h_x0) rfl (rx_Pol_2 hX h_x0) ?_
        refine g_aload_n (pc := 47) (dd d_Pol_append 25 rfl) rfl ?_
        refine g_geti (pc := 48) (dd d_Pol_append 26 rfl) f_Pol_36 (oc_Pol h_x0) rfl ?_
        refine g_iload_n (pc := 51) (dd d_Pol_append 27 rfl) rfl ?_
        obtain ⟨c6, h⟩ := chk_e h
        refine g_iastN (pc := 52) (dd d_Pol_append 28 rfl) (ax_Pol_2 h_x0) c6 (fun I7 hI7 => ?_)
        replace h := lt_e h hI7
        refine g_aload_n (pc := 53) (dd d_Pol_append 29 rfl) rfl ?_
        refine g_dup (pc := 54) (dd d_Pol_append 30 rfl) rfl ?_
        refine g_geti (pc := 55) (dd d_Pol_append 31 rfl) f_Pol_36 (oc_Pol h_x0) rfl ?_
        refine g_iconst (pc := 58) (v := 1) (dd d_Pol_append 32 rfl) (by decide) ?_
        refine g_iadd (pc := 59) (dd d_Pol_append 33 rfl) ?_
        refine g_putiN (pc := 60) (dd d_Pol_append 34 rfl) f_Pol_36 fm_Pol_0 (oc_Pol h_x0) rfl (fun I8 hI8 => ?_)
        replace h := lt_e h hI8
        refine g_aload_n (pc := 63) (dd d_Pol_append 35 rfl) rfl ?_
        refine g_geti (pc := 64) (dd d_Pol_append 36 rfl) f_Pol_36 (oc_Pol h_x0) rfl ?_
        refine g_iconst (pc := 67) (v := 1) (dd d_Pol_append 37 rfl) (by decide) ?_
        refine g_isub (pc := 68) (dd d_Pol_append 38 rfl) ?_
        cases h
        exact g_iret (pc := 69) rfl (dd d_Pol_append 39 rfl) hT
      · replace h := ite_f h q3
        refine g_drop [0, 1, 2] ?_
        exact gb_Pol_append_31 hX h_x0 hk hT  h
def b_Pol_landHere_23 (x0 : Nat)   (I : IM) : Option (IM) := some I
set_option maxRecDepth 20000 in
set_option maxHeartbeats 4000000 in
theorem gb_Pol_landHere_23 {Δ : Dx} {X : Lx} {rl hd ot pt it : Nat} (hX : EX Δ X rl hd ot pt it) {x0 : Nat} (h_x0 : isPol x0)  {Γ : Cx} (hk : Γ.k = 0) {r : IM} (hT : Tg Δ Γ none NN (r, X) 0 0)   {I : IM} (h : b_Pol_landHere_23 x0   I = some r) : GG Δ m_Pol_landHere Γ NN 0 0 (I, X) 23 [none, none] [] := by
  unfold b_Pol_landHere_23 at h
  cases h
  exact g_vret (pc := 23) rfl (dd d_Pol_landHere 13 rfl) hT
def f_Pol_landHere (x0 : Nat) (x1 : Int32) (I : IM) : Option (IM) := if x1 < 0 then (b_Pol_landHere_23 x0  I) else (if (900 : Int32) ≤ x1 then (b_Pol_landHere_23 x0  I) else (chk (inb x1 900) <| lt (up I (x0 + 2) x1.toNatClampNeg (I x0 0)) fun I4 => b_Pol_landHere_23 x0  I4))
set_option maxRecDepth 20000 in
set_option maxHeartbeats 4000000 in
theorem ef_Pol_landHere {Δ : Dx} {X : Lx} {rl hd ot pt it : Nat} (hX : EX Δ X rl hd ot pt it) {x0 : Nat} {x1 : Int32} (h_x0 : isPol x0) {I : IM}  {r : IM} (h : f_Pol_landHere x0 x1 I = some r) : Ev Δ (0) m_Pol_landHere [.ref (Δ.ba + x0), .int x1] (I, X) none (r, X) := by
  refine ev_of (by decide) (Nat.le_of_ble_eq_true rfl) (fun Γ hk hR hT => ?_)
  change GG Δ m_Pol_landHere Γ NN 0 0 (I, X) 0 [some (.ref (Δ.ba + x0)), some (.int (x1))] []
  unfold f_Pol_landHere at h
  refine g_iload_n (pc := 0) (dd d_Pol_landHere 0 rfl) rfl ?_
  refine g_iflt (pc := 1) (tgt := 23) (dd d_Pol_landHere 1 rfl) (by decide) (fun q1 => ?_) (fun q1 => ?_)
  · replace h := ite_t h q1
    refine g_drop [0, 1] ?_
    exact gb_Pol_landHere_23 hX h_x0 hk hT  h
  · replace h := ite_f h q1
    refine g_iload_n (pc := 4) (dd d_Pol_landHere 2 rfl) rfl ?_
    refine g_aload_n (pc := 5) (dd d_Pol_landHere 3 rfl) rfl ?_
    refine g_getr (pc := 6) (dd d_Pol_landHere 4 rfl) f_Pol_15 (oc_Pol h_x0) rfl (rx_Pol_2 hX h_x0) ?_
    refine g_alen (pc := 9) (t := 0) (v := 900) (dd d_Pol_landHere 5 rfl) (ax_Pol_2 h_x0) rfl (by decide) ?_
    refine g_icmpge (pc := 10) (tgt := 23) (dd d_Pol_landHere 6 rfl) (by decide) (fun q2 => ?_) (fun q2 => ?_)
    · replace h := ite_t h q2
      refine g_drop [0, 1] ?_
      exact gb_Pol_landHere_23 hX h_x0 hk hT  h
    · replace h := ite_f h q2
      refine g_aload_n (pc := 13) (dd d_Pol_landHere 7 rfl) rfl ?_
      refine g_getr (pc := 14) (dd d_Pol_landHere 8 rfl) f_Pol_15 (oc_Pol h_x0) rfl (rx_Pol_2 hX h_x0) ?_
      refine g_iload_n (pc := 17) (dd d_Pol_landHere 9 rfl) rfl ?_
      refine g_aload_n (pc := 18) (dd d_Pol_landHere 10 rfl) rfl ?_
      refine g_geti (pc := 19) (dd d_Pol_landHere 11 rfl) f_Pol_36 (oc_Pol h_x0) rfl ?_
      obtain ⟨c3, h⟩ := chk_e h
      refine g_iastN (pc := 22) (dd d_Pol_landHere 12 rfl) (ax_Pol_2 h_x0) c3 (fun I4 hI4 => ?_)
      replace h := lt_e h hI4
      refine g_drop [0, 1] ?_
      exact gb_Pol_landHere_23 hX h_x0 hk hT  h
def b_Pol_addRule_55 (n : Nat) (x0 : Nat) (H3 : Int32 → Int32 → Int32 → Int32 → Int32 → IM → Option (IM)) (x1 : Int32) (x2 : Int32) (x3 : Int32) (x4 : Int32) (x5 : Int32) (I : IM) : Option (IM) := H3 x1 x2 x3 x4 (x5 + 1) I
set_option maxRecDepth 20000 in
set_option maxHeartbeats 4000000 in
theorem gb_Pol_addRule_55 {Δ : Dx} {X : Lx} {rl hd ot pt it : Nat} (hX : EX Δ X rl hd ot pt it) {x0 : Nat} (h_x0 : isPol x0) {n : Nat} {Γ : Cx} (hk : Γ.k = 0) {r : IM} (hT : Tg Δ Γ none NN (r, X) 0 0) {H3 : Int32 → Int32 → Int32 → Int32 → Int32 → IM → Option (IM)} (hH3 : ∀ (x1 : Int32) (x2 : Int32) (x3 : Int32) (x4 : Int32) (x5 : Int32) (I : IM), H3 x1 x2 x3 x4 x5 I = some r → GG Δ m_Pol_addRule Γ NN 0 0 (I, X) 3 [some (.ref (Δ.ba + x0)), some (.int (x1)), some (.int (x2)), some (.int (x3)), some (.int (x4)), some (.int (x5))] []) {x1 : Int32} {x2 : Int32} {x3 : Int32} {x4 : Int32} {x5 : Int32} {I : IM} (h : b_Pol_addRule_55 n x0 H3 x1 x2 x3 x4 x5 I = some r) : GG Δ m_Pol_addRule Γ NN 0 0 (I, X) 55 [some (.ref (Δ.ba + x0)), some (.int (x1)), some (.int (x2)), some (.int (x3)), some (.int (x4)), some (.int (x5))] [] := by
  unfold b_Pol_addRule_55 at h
  refine g_iincW (pc := 55) (w := 1) (dd d_Pol_addRule 32 rfl) rfl (by decide) (by decide) ?_
  refine g_goto (pc := 58) (tgt := 3) (dd d_Pol_addRule 33 rfl) (by decide) ?_
  exact hH3 _ _ _ _ _ _ h
def l_Pol_addRule_3 (n : Nat) (x0 : Nat)  : Nat → Int32 → Int32 → Int32 → Int32 → Int32 → IM → Option (IM)
  | 0, _, _, _, _, _, _ => none
  | f + 1, x1, x2, x3, x4, x5, I => if (22 : Int32) ≤ x5 then (some I) else (if (((x1 : Int32) >>> ((x5 : Int32) &&& 31)) &&& 1 : Int32) = 0 then (b_Pol_addRule_55 n x0 (l_Pol_addRule_3 n x0  f) x1 x2 x3 x4 x5 I) else (chk (inb x5 22) <| lt (up I (x0 + 3) x5.toNatClampNeg (x2)) fun I4 => lt (up I4 (x0 + 4) x5.toNatClampNeg (I4 x0 0)) fun I5 => lt (up I5 (x0 + 5) x5.toNatClampNeg (x3)) fun I6 => lt (up I6 (x0 + 6) x5.toNatClampNeg (x4)) fun I7 => b_Pol_addRule_55 n x0 (l_Pol_addRule_3 n x0  f) x1 x2 x3 x4 x5 I7))
set_option maxRecDepth 20000 in
set_option maxHeartbeats 4000000 in
theorem gl_Pol_addRule_3 {Δ : Dx} {X : Lx} {rl hd ot pt it : Nat} (hX : EX Δ X rl hd ot pt it) {x0 : Nat} (h_x0 : isPol x0) {n : Nat} {Γ : Cx} (hk : Γ.k = 0) {r : IM} (hT : Tg Δ Γ none NN (r, X) 0 0)  : ∀ (f : Nat) (x1 : Int32) (x2 : Int32) (x3 : Int32) (x4 : Int32) (x5 : Int32) (I : IM), l_Pol_addRule_3 n x0  f x1 x2 x3 x4 x5 I = some r → GG Δ m_Pol_addRule Γ NN 0 0 (I, X) 3 [some (.ref (Δ.ba + x0)), some (.int (x1)), some (.int (x2)), some (.int (x3)), some (.int (x4)), some (.int (x5))] []
  | 0, _, _, _, _, _, _, h => by cases h
  | f + 1, x1, x2, x3, x4, x5, I, h => by
    have ih := gl_Pol_addRule_3 (n := n) (x0 := x0) hX h_x0 hk hT  f
    rw [l_Pol_addRule_3] at h
    refine g_iload (pc := 3) (dd d_Pol_addRule 2 rfl) rfl ?_
    refine g_bipush (pc := 5) (v := 22) (dd d_Pol_addRule 3 rfl) (by decide) ?_
    refine g_icmpge (pc := 7) (tgt := 61) (dd d_Pol_addRule 4 rfl) (by decide) (fun q1 => ?_) (fun q1 => ?_)
    · replace h := ite_t h q1
      cases h
      exact g_vret (pc := 61) rfl (dd d_Pol_addRule 34 rfl) hT
    · replace h := ite_f h q1
      refine g_iload_n (pc := 10) (dd d_Pol_addRule 5 rfl) rfl ?_
      refine g_iload (pc := 11) (dd d_Pol_addRule 6 rfl) rfl ?_
      refine g_ishr (pc := 13) (dd d_Pol_addRule 7 rfl) ?_
      refine g_iconst (pc := 14) (v := 1) (dd d_Pol_addRule 8 rfl) (by decide) ?_
      refine g_iand (pc := 15) (dd d_Pol_addRule 9 rfl) ?_
      refine g_ifeq (pc := 16) (tgt := 55) (dd d_Pol_addRule 10 rfl) (by decide) (fun q2 => ?_) (fun q2 => ?_)
      · replace h := ite_t h q2
        exact gb_Pol_addRule_55 hX h_x0 hk hT ih h
      · replace h := ite_f h q2
        refine g_aload_n (pc := 19) (dd d_Pol_addRule 11 rfl) rfl ?_
        refine g_getr (pc := 20) (dd d_Pol_addRule 12 rfl) f_Pol_18 (oc_Pol h_x0) rfl (rx_Pol_3 hX h_x0) ?_
        refine g_iload (pc := 23) (dd d_Pol_addRule 13 rfl) rfl ?_
        refine g_iload_n (pc := 25) (dd d_Pol_addRule 14 rfl) rfl ?_
        obtain ⟨c3, h⟩ := chk_e h
        refine g_iastN (pc := 26) (dd d_Pol_addRule 15 rfl) (ax_Pol_3 h_x0) c3 (fun I4 hI4 => ?_)
        replace h := lt_e h hI4
        refine g_aload_n (pc := 27) (dd d_Pol_addRule 16 rfl) rfl ?_
        refine g_getr (pc := 28) (dd d_Pol_addRule 17 rfl) f_Pol_21 (oc_Pol h_x0) rfl (rx_Pol_4 hX h_x0) ?_
        refine g_iload (pc := 31) (dd d_Pol_addRule 18 rfl) rfl ?_
        refine g_aload_n (pc := 33) (dd d_Pol_addRule 19 rfl) rfl ?_
        refine g_geti (pc := 34) (dd d_Pol_addRule 20 rfl) f_Pol_36 (oc_Pol h_x0) rfl ?_
        refine g_iastN (pc := 37) (dd d_Pol_addRule 21 rfl) (ax_Pol_4 h_x0) c3 (fun I5 hI5 => ?_)
        replace h := lt_e h hI5
        refine g_aload_n (pc := 38) (dd d_Pol_addRule 22 rfl) rfl ?_
        refine g_getr (pc := 39) (dd d_Pol_addRule 23 rfl) f_Pol_24 (oc_Pol h_x0) rfl (rx_Pol_5 hX h_x0) ?_
        refine g_iload (pc := 42) (dd d_Pol_addRule 24 rfl) rfl ?_
        refine g_iload_n (pc := 44) (dd d_Pol_addRule 25 rfl) rfl ?_
        refine g_iastN (pc := 45) (dd d_Pol_addRule 26 rfl) (ax_Pol_5 h_x0) c3 (fun I6 hI6 => ?_)
        replace h := lt_e h hI6
        refine g_aload_n (pc := 46) (dd d_Pol_addRule 27 rfl) rfl ?_
        refine g_getr (pc := 47) (dd d_Pol_addRule 28 rfl) f_Pol_27 (oc_Pol h_x0) rfl (rx_Pol_6 hX h_x0) ?_
        refine g_iload (pc := 50) (dd d_Pol_addRule 29 rfl) rfl ?_
        refine g_iload (pc := 52) (dd d_Pol_addRule 30 rfl) rfl ?_
        refine g_iastN (pc := 54) (dd d_Pol_addRule 31 rfl) (ax_Pol_6 h_x0) c3 (fun I7 hI7 => ?_)
        replace h := lt_e h hI7
        exact gb_Pol_addRule_55 hX h_x0 hk hT ih h
def f_Pol_addRule (n : Nat) (x0 : Nat) (x1 : Int32) (x2 : Int32) (x3 : Int32) (x4 : Int32) (I : IM) : Option (IM) := l_Pol_addRule_3 n x0  n x1 x2 x3 x4 0 I
set_option maxRecDepth 20000 in
set_option maxHeartbeats 4000000 in
theorem ef_Pol_addRule {Δ : Dx} {X : Lx} {rl hd ot pt it : Nat} (hX : EX Δ X rl hd ot pt it) {n : Nat} {x0 : Nat} {x1 : Int32} {x2 : Int32} {x3 : Int32} {x4 : Int32} (h_x0 : isPol x0) {I : IM}  {r : IM} (h : f_Pol_addRule n x0 x1 x2 x3 x4 I = some r) : Ev Δ (0) m_Pol_addRule [.ref (Δ.ba + x0), .int x1, .int x2, .int x3, .int x4] (I, X) none (r, X) := by
  refine ev_of (by decide) (Nat.le_of_ble_eq_true rfl) (fun Γ hk hR hT => ?_)
  change GG Δ m_Pol_addRule Γ NN 0 0 (I, X) 0 [some (.ref (Δ.ba + x0)), some (.int (x1)), some (.int (x2)), some (.int (x3)), some (.int (x4)), none] []
  unfold f_Pol_addRule at h
  refine g_iconst (pc := 0) (v := 0) (dd d_Pol_addRule 0 rfl) (by decide) ?_
  refine g_istore (pc := 1) (dd d_Pol_addRule 1 rfl) (by decide) ?_
  exact gl_Pol_addRule_3 hX h_x0 hk hT  _ _ _ _ _ _ _ h
