/-! the class: each method a function, and its contract -/
def b_Prd_readKinds_33 (n : Nat)   (I : IM) : Option (Int32 × IM) := some (0, I)
set_option maxRecDepth 20000 in
set_option maxHeartbeats 4000000 in
theorem gb_Prd_readKinds_33 {Δ : Dx} {X : Lx} {rl hd ot pt it : Nat} (hX : EX Δ X rl hd ot pt it)   {n : Nat} {Γ : Cx} (hk : Γ.k = 1) {r : Int32 × IM} (hT : Tg Δ Γ (some (.int r.1)) NN (r.2, X) 0 0)   {I : IM} (h : b_Prd_readKinds_33 n   I = some r) : GG Δ m_Prd_readKinds Γ NN 0 0 (I, X) 33 [none, none, none] [] := by
  unfold b_Prd_readKinds_33 at h
  refine g_iconst (pc := 33) (v := 0) (dd d_Prd_readKinds 19 rfl) (by decide) ?_
  cases h
  exact g_zret (pc := 34) rfl (by decide) (dd d_Prd_readKinds 20 rfl) hT
def l_Prd_readKinds_2 (n : Nat)  : Nat → Int32 → IM → Option (Int32 × IM)
  | 0, _, _ => none
  | f + 1, x1, I => if (22 : Int32) ≤ x1 then (some (0, I)) else (if (22 : Int32) ≤ (I 1 1 : Int32) then (b_Prd_readKinds_33 n  I) else (if (((I 7 2 : Int32) >>> ((I 1 1 : Int32) &&& 31)) &&& 1 : Int32) = 0 then (lt (up I 7 2 ((I 7 2) ||| ((1 : Int32) <<< ((I 1 1 : Int32) &&& 31)))) fun I4 => Option.bind (f_Rdr_advance   I4) fun v5 => if (v5 1 1 : Int32) = (172 : Int32) then (Option.bind (f_Rdr_advance   v5) fun v8 => (l_Prd_readKinds_2 n  f) (x1 + 1) v8) else (some (1, v5))) else (b_Prd_readKinds_33 n  I)))
set_option maxRecDepth 20000 in
set_option maxHeartbeats 4000000 in
theorem gl_Prd_readKinds_2 {Δ : Dx} {X : Lx} {rl hd ot pt it : Nat} (hX : EX Δ X rl hd ot pt it)   {n : Nat} {Γ : Cx} (hk : Γ.k = 1) {r : Int32 × IM} (hT : Tg Δ Γ (some (.int r.1)) NN (r.2, X) 0 0)  : ∀ (f : Nat) (x1 : Int32) (I : IM), l_Prd_readKinds_2 n  f x1 I = some r → GG Δ m_Prd_readKinds Γ NN 0 0 (I, X) 2 [some (.ref (Δ.ba + 7)), some (.int (x1)), none] []
  | 0, _, _, h => by cases h
  | f + 1, x1, I, h => by
    have ih := gl_Prd_readKinds_2 (n := n) hX hk hT  f
    rw [l_Prd_readKinds_2] at h
    refine g_iload_n (pc := 2) (dd d_Prd_readKinds 2 rfl) rfl ?_
    refine g_bipush (pc := 3) (v := 22) (dd d_Prd_readKinds 3 rfl) (by decide) ?_
    refine g_icmpge (pc := 5) (tgt := 82) (dd d_Prd_readKinds 4 rfl) (by decide) (fun q1 => ?_) (fun q1 => ?_)
    · replace h := ite_t h q1
      refine g_iconst (pc := 82) (v := 0) (dd d_Prd_readKinds 44 rfl) (by decide) ?_
      cases h
      exact g_zret (pc := 83) rfl (by decide) (dd d_Prd_readKinds 45 rfl) hT
    · replace h := ite_f h q1
      refine g_aload_n (pc := 8) (dd d_Prd_readKinds 5 rfl) rfl ?_
      refine g_getr (pc := 9) (dd d_Prd_readKinds 6 rfl) f_Prd_9 oc_Prd rfl (rx_Prd_0 hX) ?_
      refine g_geti (pc := 12) (dd d_Prd_readKinds 7 rfl) f_Prd_34 oc_Rdr rfl ?_
      refine g_istore_n (pc := 15) (dd d_Prd_readKinds 8 rfl) (by decide) ?_
      refine g_iload_n (pc := 16) (dd d_Prd_readKinds 9 rfl) rfl ?_
      refine g_bipush (pc := 17) (v := 22) (dd d_Prd_readKinds 10 rfl) (by decide) ?_
      refine g_icmpge (pc := 19) (tgt := 33) (dd d_Prd_readKinds 11 rfl) (by decide) (fun q2 => ?_) (fun q2 => ?_)
      · replace h := ite_t h q2
        refine g_drop [0, 1, 2] ?_
        exact gb_Prd_readKinds_33 hX hk hT  h
      · replace h := ite_f h q2
        refine g_aload_n (pc := 22) (dd d_Prd_readKinds 12 rfl) rfl ?_
        refine g_geti (pc := 23) (dd d_Prd_readKinds 13 rfl) f_Prd_25 oc_Prd rfl ?_
        refine g_iload_n (pc := 26) (dd d_Prd_readKinds 14 rfl) rfl ?_
        refine g_ishr (pc := 27) (dd d_Prd_readKinds 15 rfl) ?_
        refine g_iconst (pc := 28) (v := 1) (dd d_Prd_readKinds 16 rfl) (by decide) ?_
        refine g_iand (pc := 29) (dd d_Prd_readKinds 17 rfl) ?_
        refine g_ifeq (pc := 30) (tgt := 35) (dd d_Prd_readKinds 18 rfl) (by decide) (fun q3 => ?_) (fun q3 => ?_)
        · replace h := ite_t h q3
          refine g_aload_n (pc := 35) (dd d_Prd_readKinds 21 rfl) rfl ?_
          refine g_dup (pc := 36) (dd d_Prd_readKinds 22 rfl) rfl ?_
          refine g_geti (pc := 37) (dd d_Prd_readKinds 23 rfl) f_Prd_25 oc_Prd rfl ?_
          refine g_iconst (pc := 40) (v := 1) (dd d_Prd_readKinds 24 rfl) (by decide) ?_
          refine g_iload_n (pc := 41) (dd d_Prd_readKinds 25 rfl) rfl ?_
          refine g_ishl (pc := 42) (dd d_Prd_readKinds 26 rfl) ?_
          refine g_ior (pc := 43) (dd d_Prd_readKinds 27 rfl) ?_
          refine g_putiN (pc := 44) (dd d_Prd_readKinds 28 rfl) f_Prd_25 fm_Prd_2 oc_Prd rfl (fun I4 hI4 => ?_)
          replace h := lt_e h hI4
          refine g_aload_n (pc := 47) (dd d_Prd_readKinds 29 rfl) rfl ?_
          refine g_getr (pc := 48) (dd d_Prd_readKinds 30 rfl) f_Prd_9 oc_Prd rfl (rx_Prd_0 hX) ?_
          obtain ⟨v5, e6, h⟩ := bnd_e h
          refine g_callV (pc := 51) (dd d_Prd_readKinds 31 rfl) v_Prd_67 oc_Rdr rfl (ef_Rdr_advance hX e6) rfl (by omega) (Nat.le_of_ble_eq_true rfl) ⟨Nat.zero_le _, Nat.zero_le _⟩ rfl ?_
          refine g_aload_n (pc := 54) (dd d_Prd_readKinds 32 rfl) rfl ?_
          refine g_getr (pc := 55) (dd d_Prd_readKinds 33 rfl) f_Prd_9 oc_Prd rfl (rx_Prd_0 hX) ?_
          refine g_geti (pc := 58) (dd d_Prd_readKinds 34 rfl) f_Prd_34 oc_Rdr rfl ?_
          refine g_sipush (pc := 61) (v := 172) (dd d_Prd_readKinds 35 rfl) (by decide) ?_
          refine g_icmpeq (pc := 64) (tgt := 69) (dd d_Prd_readKinds 36 rfl) (by decide) (fun q7 => ?_) (fun q7 => ?_)
          · replace h := ite_t h q7
            refine g_aload_n (pc := 69) (dd d_Prd_readKinds 39 rfl) rfl ?_
            refine g_getr (pc := 70) (dd d_Prd_readKinds 40 rfl) f_Prd_9 oc_Prd rfl (rx_Prd_0 hX) ?_
            obtain ⟨v8, e9, h⟩ := bnd_e h
            refine g_callV (pc := 73) (dd d_Prd_readKinds 41 rfl) v_Prd_67 oc_Rdr rfl (ef_Rdr_advance hX e9) rfl (by omega) (Nat.le_of_ble_eq_true rfl) ⟨Nat.zero_le _, Nat.zero_le _⟩ rfl ?_
            refine g_iincW (pc := 76) (w := 1) (dd d_Prd_readKinds 42 rfl) rfl (by decide) (by decide) ?_
            refine g_goto (pc := 79) (tgt := 2) (dd d_Prd_readKinds 43 rfl) (by decide) ?_
            refine g_drop [2] ?_
            exact ih _ _ h
          · replace h := ite_f h q7
            refine g_iconst (pc := 67) (v := 1) (dd d_Prd_readKinds 37 rfl) (by decide) ?_
            cases h
            exact g_zret (pc := 68) rfl (by decide) (dd d_Prd_readKinds 38 rfl) hT
        · replace h := ite_f h q3
          refine g_drop [0, 1, 2] ?_
          exact gb_Prd_readKinds_33 hX hk hT  h
def f_Prd_readKinds (n : Nat) (I : IM) : Option (Int32 × IM) := l_Prd_readKinds_2 n  n 0 I
set_option maxRecDepth 20000 in
set_option maxHeartbeats 4000000 in
theorem ef_Prd_readKinds {Δ : Dx} {X : Lx} {rl hd ot pt it : Nat} (hX : EX Δ X rl hd ot pt it) {n : Nat}  {I : IM}  {r : Int32 × IM} (h : f_Prd_readKinds n I = some r) : Ev Δ (1) m_Prd_readKinds [.ref (Δ.ba + 7)] (I, X) (some (.int r.1)) (r.2, X) := by
  refine ev_of (by decide) (Nat.le_of_ble_eq_true rfl) (fun Γ hk hR hT => ?_)
  change GG Δ m_Prd_readKinds Γ NN 0 0 (I, X) 0 [some (.ref (Δ.ba + 7)), none, none] []
  unfold f_Prd_readKinds at h
  refine g_iconst (pc := 0) (v := 0) (dd d_Prd_readKinds 0 rfl) (by decide) ?_
  refine g_istore_n (pc := 1) (dd d_Prd_readKinds 1 rfl) (by decide) ?_
  exact gl_Prd_readKinds_2 hX hk hT  _ _ _ h
def f_Prd_isSumSign (x0 : Int32) (I : IM) : Option (Int32) := some (if x0 = (252 : Int32) then 1 else (if x0 = (166 : Int32) then 1 else (if x0 = (222 : Int32) then 1 else (if x0 = (171 : Int32) then 1 else (if x0 = (173 : Int32) then 1 else 0)))))
set_option maxRecDepth 20000 in
set_option maxHeartbeats 4000000 in
theorem ef_Prd_isSumSign {Δ : Dx} {X : Lx} {rl hd ot pt it : Nat} (hX : EX Δ X rl hd ot pt it) {x0 : Int32}  {I : IM}  {r : Int32} (h : f_Prd_isSumSign x0 I = some r) : Ev Δ (0) m_Prd_isSumSign [.int x0] (I, X) (some (.int r)) (I, X) := by
  refine ev_of (by decide) (Nat.le_of_ble_eq_true rfl) (fun Γ hk hR hT => ?_)
  change GG Δ m_Prd_isSumSign Γ NN 0 0 (I, X) 0 [some (.int (x0))] []
  unfold f_Prd_isSumSign at h
  refine g_iload_n (pc := 0) (dd d_Prd_isSumSign 0 rfl) rfl ?_
  refine g_sipush (pc := 1) (v := 252) (dd d_Prd_isSumSign 1 rfl) (by decide) ?_
  suffices K4 : ∀ z : Int32, z = (if x0 = (252 : Int32) then 1 else (if x0 = (166 : Int32) then 1 else (if x0 = (222 : Int32) then 1 else (if x0 = (171 : Int32) then 1 else (if x0 = (173 : Int32) then 1 else 0)))) : Int32) → GG Δ m_Prd_isSumSign Γ NN 0 0 (I, X) 40 [some (.int (x0))] [.int (z)] by
    refine g_icmpeq (pc := 4) (tgt := 35) (dd d_Prd_isSumSign 2 rfl) (by decide) (fun q1 => ?_) (fun q1 => ?_)
    · skip
      refine g_iconst (pc := 35) (v := 1) (dd d_Prd_isSumSign 15 rfl) (by decide) ?_
      refine g_goto (pc := 36) (tgt := 40) (dd d_Prd_isSumSign 16 rfl) (by decide) ?_
      exact K4 _ (by rw [if_pos q1])
    · skip
      refine g_iload_n (pc := 7) (dd d_Prd_isSumSign 3 rfl) rfl ?_
      refine g_sipush (pc := 8) (v := 166) (dd d_Prd_isSumSign 4 rfl) (by decide) ?_
      refine g_icmpeq (pc := 11) (tgt := 35) (dd d_Prd_isSumSign 5 rfl) (by decide) (fun q2 => ?_) (fun q2 => ?_)
      · skip
        refine g_iconst (pc := 35) (v := 1) (dd d_Prd_isSumSign 15 rfl) (by decide) ?_
        refine g_goto (pc := 36) (tgt := 40) (dd d_Prd_isSumSign 16 rfl) (by decide) ?_
        exact K4 _ (by rw [if_neg q1, if_pos q2])
      · skip
        refine g_iload_n (pc := 14) (dd d_Prd_isSumSign 6 rfl) rfl ?_
        refine g_sipush (pc := 15) (v := 222) (dd d_Prd_isSumSign 7 rfl) (by decide) ?_
        refine g_icmpeq (pc := 18) (tgt := 35) (dd d_Prd_isSumSign 8 rfl) (by decide) (fun q3 => ?_) (fun q3 => ?_)
        · skip
          refine g_iconst (pc := 35) (v := 1) (dd d_Prd_isSumSign 15 rfl) (by decide) ?_
          refine g_goto (pc := 36) (tgt := 40) (dd d_Prd_isSumSign 16 rfl) (by decide) ?_
          exact K4 _ (by rw [if_neg q1, if_neg q2, if_pos q3])
        · skip
          refine g_iload_n (pc := 21) (dd d_Prd_isSumSign 9 rfl) rfl ?_
          refine g_sipush (pc := 22) (v := 171) (dd d_Prd_isSumSign 10 rfl) (by decide) ?_
          refine g_icmpeq (pc := 25) (tgt := 35) (dd d_Prd_isSumSign 11 rfl) (by decide) (fun q4 => ?_) (fun q4 => ?_)
          · skip
            refine g_iconst (pc := 35) (v := 1) (dd d_Prd_isSumSign 15 rfl) (by decide) ?_
            refine g_goto (pc := 36) (tgt := 40) (dd d_Prd_isSumSign 16 rfl) (by decide) ?_
            exact K4 _ (by rw [if_neg q1, if_neg q2, if_neg q3, if_pos q4])
          · skip
            refine g_iload_n (pc := 28) (dd d_Prd_isSumSign 12 rfl) rfl ?_
            refine g_sipush (pc := 29) (v := 173) (dd d_Prd_isSumSign 13 rfl) (by decide) ?_
            refine g_icmpne (pc := 32) (tgt := 39) (dd d_Prd_isSumSign 14 rfl) (by decide) (fun q5 => ?_) (fun q5 => ?_)
            · skip
              refine g_iconst (pc := 39) (v := 0) (dd d_Prd_isSumSign 17 rfl) (by decide) ?_
              exact K4 _ (by rw [if_neg q1, if_neg q2, if_neg q3, if_neg q4, if_neg q5])
            · skip
              refine g_iconst (pc := 35) (v := 1) (dd d_Prd_isSumSign 15 rfl) (by decide) ?_
              refine g_goto (pc := 36) (tgt := 40) (dd d_Prd_isSumSign 16 rfl) (by decide) ?_
              exact K4 _ (by rw [if_neg q1, if_neg q2, if_neg q3, if_neg q4, if_pos q5])
  intro z hz
  subst hz
  cases h
  exact g_zret (pc := 40) rfl (by (repeat' split) <;> first | exact Or.inl rfl | exact Or.inr rfl) (dd d_Prd_isSumSign 18 rfl) hT
