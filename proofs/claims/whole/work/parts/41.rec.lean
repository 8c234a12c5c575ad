/-! the policy's expressions: recursive methods; a function for those that go deeper is handed in -/
abbrev RF : Type := Int32 → IM → Option (Int32 × IM)
def OkE (Δ : Dx) (X : Lx) (k : Nat) (mi : MI) (E : RF) : Prop := ∀ (x : Int32) (I : IM) (r : Int32 × IM), E x I = some r → Ev Δ k mi [.ref (Δ.ba + 7), .int x] (I, X) (some (.int r.1)) (r.2, X)
def f_Prd_readTurned (pt : Nat) (E T : RF) (x1 : Int32) (x2 : Int32) (I : IM) : Option (Int32 × IM) := if x2 < (10 : Int32) then (Option.bind (f_Rdr_advance   I) fun v2 => Option.bind (T  (x2 + 1) v2) fun v4 => if (v4.1 : Int32) = 0 then (some (0, v4.2)) else (Option.bind (f_Pol_append  pt (if x1 = (173 : Int32) then 104 else x1) 0 v4.2) fun v8 => some (1, v8.2))) else (some (0, I))
set_option maxRecDepth 20000 in
set_option maxHeartbeats 4000000 in
theorem ef_Prd_readTurned {Δ : Dx} {X : Lx} {rl hd ot pt it : Nat} (hX : EX Δ X rl hd ot pt it) {l lE lT : Nat} (hB : 5 ≤ l) (hlE : lE ≤ l) (hlT : lT ≤ l) {E T : RF} (hE : OkE Δ X lE m_Prd_readExpression E) (hT0 : OkE Δ X lT m_Prd_readTerm T) {x1 : Int32} {x2 : Int32}  {I : IM}  {r : Int32 × IM} (h : f_Prd_readTurned pt E T x1 x2 I = some r) : Ev Δ (l + 1) m_Prd_readTurned [.ref (Δ.ba + 7), .int x1, .int x2] (I, X) (some (.int r.1)) (r.2, X) := by
  refine ev_of (by decide) (Nat.le_of_ble_eq_true rfl) (fun Γ hk hR hT => ?_)
  change GG Δ m_Prd_readTurned Γ NN 0 0 (I, X) 0 [some (.ref (Δ.ba + 7)), some (.int (x1)), some (.int (x2))] []
  unfold f_Prd_readTurned at h
  refine g_iload_n (pc := 0) (dd d_Prd_readTurned 0 rfl) rfl ?_
  refine g_bipush (pc := 1) (v := 10) (dd d_Prd_readTurned 1 rfl) (by decide) ?_
  refine g_icmplt (pc := 3) (tgt := 8) (dd d_Prd_readTurned 2 rfl) (by decide) (fun q1 => ?_) (fun q1 => ?_)
  · replace h := ite_t h q1
    refine g_aload_n (pc := 8) (dd d_Prd_readTurned 5 rfl) rfl ?_
    refine g_getr (pc := 9) (dd d_Prd_readTurned 6 rfl) f_Prd_9 oc_Prd rfl (rx_Prd_0 hX) ?_
    obtain ⟨v2, e3, h⟩ := bnd_e h
    refine g_callV (pc := 12) (dd d_Prd_readTurned 7 rfl) v_Prd_67 oc_Rdr rfl (ef_Rdr_advance hX e3) rfl (by omega) (Nat.le_of_ble_eq_true rfl) ⟨Nat.zero_le _, Nat.zero_le _⟩ rfl ?_
    refine g_aload_n (pc := 15) (dd d_Prd_readTurned 8 rfl) rfl ?_
    refine g_iload_n (pc := 16) (dd d_Prd_readTurned 9 rfl) rfl ?_
    refine g_iconst (pc := 17) (v := 1) (dd d_Prd_readTurned 10 rfl) (by decide) ?_
    refine g_iadd (pc := 18) (dd d_Prd_readTurned 11 rfl) ?_
    obtain ⟨v4, e5, h⟩ := bnd_e h
    refine g_callV (pc := 19) (dd d_Prd_readTurned 12 rfl) v_Prd_87 oc_Prd rfl (hT0 _ _ _ e5) rfl (by omega) (Nat.le_of_ble_eq_true rfl) ⟨Nat.zero_le _, Nat.zero_le _⟩ rfl ?_
    refine g_ifne (pc := 22) (tgt := 27) (dd d_Prd_readTurned 13 rfl) (by decide) (fun q6 => ?_) (fun q6 => ?_)
    · replace h := ite_f h q6
      refine g_aload_n (pc := 27) (dd d_Prd_readTurned 16 rfl) rfl ?_
      refine g_getr (pc := 28) (dd d_Prd_readTurned 17 rfl) f_Prd_18 oc_Prd rfl hX.r_pt ?_
      refine g_iload_n (pc := 31) (dd d_Prd_readTurned 18 rfl) rfl ?_
      refine g_sipush (pc := 32) (v := 173) (dd d_Prd_readTurned 19 rfl) (by decide) ?_
      suffices K35 : ∀ z : Int32, z = (if x1 = (173 : Int32) then 104 else x1 : Int32) → GG Δ m_Prd_readTurned Γ NN 0 0 (v4.2, X) 44 [some (.ref (Δ.ba + 7)), some (.int (x1)), some (.int (x2))] [.int (z), .ref (Δ.ba + pt)] by
        refine g_icmpne (pc := 35) (tgt := 43) (dd d_Prd_readTurned 20 rfl) (by decide) (fun q7 => ?_) (fun q7 => ?_)
        · skip
          refine g_iload_n (pc := 43) (dd d_Prd_readTurned 23 rfl) rfl ?_
          exact K35 _ (by rw [if_neg q7])
        · skip
          refine g_bipush (pc := 38) (v := 104) (dd d_Prd_readTurned 21 rfl) (by decide) ?_
          refine g_goto (pc := 40) (tgt := 44) (dd d_Prd_readTurned 22 rfl) (by decide) ?_
          exact K35 _ (by rw [if_pos q7])
      intro z hz
      subst hz
      refine g_iconst (pc := 44) (v := 0) (dd d_Prd_readTurned 24 rfl) (by decide) ?_
      obtain ⟨v8, e9, h⟩ := bnd_e h
      refine g_callV (pc := 45) (dd d_Prd_readTurned 25 rfl) v_Prd_73 (oc_Pol hX.i_pt) rfl (ef_Pol_append hX hX.i_pt e9) rfl (by omega) (Nat.le_of_ble_eq_true rfl) ⟨Nat.zero_le _, Nat.zero_le _⟩ rfl ?_
      refine g_pop (pc := 48) (dd d_Prd_readTurned 26 rfl) rfl ?_
      refine g_iconst (pc := 49) (v := 1) (dd d_Prd_readTurned 27 rfl) (by decide) ?_
      cases h
      exact g_zret (pc := 50) rfl (by decide) (dd d_Prd_readTurned 28 rfl) hT
    · replace h := ite_t h q6
      refine g_iconst (pc := 25) (v := 0) (dd d_Prd_readTurned 14 rfl) (by decide) ?_
      cases h
      exact g_zret (pc := 26) rfl (by decide) (dd d_Prd_readTurned 15 rfl) hT
  · replace h := ite_f h q1
    refine g_iconst (pc := 6) (v := 0) (dd d_Prd_readTurned 3 rfl) (by decide) ?_
    cases h
    exact g_zret (pc := 7) rfl (by decide) (dd d_Prd_readTurned 4 rfl) hT
def b_Prd_readBracket_19 (pt : Nat) (E T : RF)   (I : IM) : Option (Int32 × IM) := some (0, I)
set_option maxRecDepth 20000 in
set_option maxHeartbeats 4000000 in
theorem gb_Prd_readBracket_19 {Δ : Dx} {X : Lx} {rl hd ot pt it : Nat} (hX : EX Δ X rl hd ot pt it) {l lE lT : Nat} (hB : 5 ≤ l) (hlE : lE ≤ l) (hlT : lT ≤ l) {E T : RF} (hE : OkE Δ X lE m_Prd_readExpression E) (hT0 : OkE Δ X lT m_Prd_readTerm T)    {Γ : Cx} (hk : Γ.k = l + 1) {r : Int32 × IM} (hT : Tg Δ Γ (some (.int r.1)) NN (r.2, X) 0 0)   {I : IM} (h : b_Prd_readBracket_19 pt E T   I = some r) : GG Δ m_Prd_readBracket Γ NN 0 0 (I, X) 19 [none, none, none] [] := by
  unfold b_Prd_readBracket_19 at h
  refine g_iconst (pc := 19) (v := 0) (dd d_Prd_readBracket 8 rfl) (by decide) ?_
  cases h
  exact g_zret (pc := 20) rfl (by decide) (dd d_Prd_readBracket 9 rfl) hT
def b_Prd_readBracket_67 (pt : Nat) (E T : RF)   (I : IM) : Option (Int32 × IM) := some (0, I)
set_option maxRecDepth 20000 in
set_option maxHeartbeats 4000000 in
theorem gb_Prd_readBracket_67 {Δ : Dx} {X : Lx} {rl hd ot pt it : Nat} (hX : EX Δ X rl hd ot pt it) {l lE lT : Nat} (hB : 5 ≤ l) (hlE : lE ≤ l) (hlT : lT ≤ l) {E T : RF} (hE : OkE Δ X lE m_Prd_readExpression E) (hT0 : OkE Δ X lT m_Prd_readTerm T)    {Γ : Cx} (hk : Γ.k = l + 1) {r : Int32 × IM} (hT : Tg Δ Γ (some (.int r.1)) NN (r.2, X) 0 0)   {I : IM} (h : b_Prd_readBracket_67 pt E T   I = some r) : GG Δ m_Prd_readBracket Γ NN 0 0 (I, X) 67 [none, none, none] [] := by
  unfold b_Prd_readBracket_67 at h
  refine g_iconst (pc := 67) (v := 0) (dd d_Prd_readBracket 34 rfl) (by decide) ?_
  cases h
  exact g_zret (pc := 68) rfl (by decide) (dd d_Prd_readBracket 35 rfl) hT
def b_Prd_readBracket_69 (pt : Nat) (E T : RF)   (I : IM) : Option (Int32 × IM) := Option.bind (f_Rdr_take  169 I) fun v15 => chk ((v15.1 : Int32) = 0 ∨ (v15.1 : Int32) = 1) <| some (v15.1, v15.2)
set_option maxRecDepth 20000 in
set_option maxHeartbeats 4000000 in
theorem gb_Prd_readBracket_69 {Δ : Dx} {X : Lx} {rl hd ot pt it : Nat} (hX : EX Δ X rl hd ot pt it) {l lE lT : Nat} (hB : 5 ≤ l) (hlE : lE ≤ l) (hlT : lT ≤ l) {E T : RF} (hE : OkE Δ X lE m_Prd_readExpression E) (hT0 : OkE Δ X lT m_Prd_readTerm T)    {Γ : Cx} (hk : Γ.k = l + 1) {r : Int32 × IM} (hT : Tg Δ Γ (some (.int r.1)) NN (r.2, X) 0 0)   {I : IM} (h : b_Prd_readBracket_69 pt E T   I = some r) : GG Δ m_Prd_readBracket Γ NN 0 0 (I, X) 69 [some (.ref (Δ.ba + 7)), none, none] [] := by
  unfold b_Prd_readBracket_69 at h
  refine g_aload_n (pc := 69) (dd d_Prd_readBracket 36 rfl) rfl ?_
  refine g_getr (pc := 70) (dd d_Prd_readBracket 37 rfl) f_Prd_9 oc_Prd rfl (rx_Prd_0 hX) ?_
  refine g_sipush (pc := 73) (v := 169) (dd d_Prd_readBracket 38 rfl) (by decide) ?_
  obtain ⟨v15, e16, h⟩ := bnd_e h
  refine g_callV (pc := 76) (dd d_Prd_readBracket 39 rfl) v_Prd_47 oc_Rdr rfl (ef_Rdr_take hX e16) rfl (by omega) (Nat.le_of_ble_eq_true rfl) ⟨Nat.zero_le _, Nat.zero_le _⟩ rfl ?_
  obtain ⟨c17, h⟩ := chk_e h
  cases h
  exact g_zret (pc := 79) rfl c17 (dd d_Prd_readBracket 40 rfl) hT
def f_Prd_readBracket (pt : Nat) (E T : RF) (x1 : Int32) (x2 : Int32) (I : IM) : Option (Int32 × IM) := if (I 1 1 : Int32) = (168 : Int32) then (if x1 < (10 : Int32) then (Option.bind (f_Rdr_advance   I) fun v3 => Option.bind (E  (x1 + 1) v3) fun v5 => if (v5.1 : Int32) = 0 then (some (0, v5.2)) else (if x2 = 0 then (b_Prd_readBracket_69 pt E T  v5.2) else (Option.bind (f_Rdr_take  172 v5.2) fun v9 => if (v9.1 : Int32) = 0 then (b_Prd_readBracket_67 pt E T  v9.2) else (Option.bind (E  (x1 + 1) v9.2) fun v12 => if (v12.1 : Int32) = 0 then (b_Prd_readBracket_67 pt E T  v12.2) else (b_Prd_readBracket_69 pt E T  v12.2))))) else (b_Prd_readBracket_19 pt E T  I)) else (b_Prd_readBracket_19 pt E T  I)
set_option maxRecDepth 20000 in
set_option maxHeartbeats 4000000 in
theorem ef_Prd_readBracket {Δ : Dx} {X : Lx} {rl hd ot pt it : Nat} (hX : EX Δ X rl hd ot pt it) {l lE lT : Nat} (hB : 5 ≤ l) (hlE : lE ≤ l) (hlT : lT ≤ l) {E T : RF} (hE : OkE Δ X lE m_Prd_readExpression E) (hT0 : OkE Δ X lT m_Prd_readTerm T) {x1 : Int32} {x2 : Int32}  {I : IM}  {r : Int32 × IM} (h : f_Prd_readBracket pt E T x1 x2 I = some r) : Ev Δ (l + 1) m_Prd_readBracket [.ref (Δ.ba + 7), .int x1, .int x2] (I, X) (some (.int r.1)) (r.2, X) := by
  refine ev_of (by decide) (Nat.le_of_ble_eq_true rfl) (fun Γ hk hR hT => ?_)
  change GG Δ m_Prd_readBracket Γ NN 0 0 (I, X) 0 [some (.ref (Δ.ba + 7)), some (.int (x1)), some (.int (x2))] []
  unfold f_Prd_readBracket at h
  refine g_aload_n (pc := 0) (dd d_Prd_readBracket 0 rfl) rfl ?_
  refine g_getr (pc := 1) (dd d_Prd_readBracket 1 rfl) f_Prd_9 oc_Prd rfl (rx_Prd_0 hX) ?_
  refine g_geti (pc := 4) (dd d_Prd_readBracket 2 rfl) f_Prd_34 oc_Rdr rfl ?_
  refine g_sipush (pc := 7) (v := 168) (dd d_Prd_readBracket 3 rfl) (by decide) ?_
  refine g_icmpne (pc := 10) (tgt := 19) (dd d_Prd_readBracket 4 rfl) (by decide) (fun q1 => ?_) (fun q1 => ?_)
  · replace h := ite_f h q1
    refine g_drop [0, 1, 2] ?_
    exact gb_Prd_readBracket_19 hX hB hlE hlT hE hT0 hk hT  h
  · replace h := ite_t h q1
    refine g_iload_n (pc := 13) (dd d_Prd_readBracket 5 rfl) rfl ?_
    refine g_bipush (pc := 14) (v := 10) (dd d_Prd_readBracket 6 rfl) (by decide) ?_
    refine g_icmplt (pc := 16) (tgt := 21) (dd d_Prd_readBracket 7 rfl) (by decide) (fun q2 => ?_) (fun q2 => ?_)
    · replace h := ite_t h q2
      refine g_aload_n (pc := 21) (dd d_Prd_readBracket 10 rfl) rfl ?_
      refine g_getr (pc := 22) (dd d_Prd_readBracket 11 rfl) f_Prd_9 oc_Prd rfl (rx_Prd_0 hX) ?_
      obtain ⟨v3, e4, h⟩ := bnd_e h
      refine g_callV (pc := 25) (dd d_Prd_readBracket 12 rfl) v_Prd_67 oc_Rdr rfl (ef_Rdr_advance hX e4) rfl (by omega) (Nat.le_of_ble_eq_true rfl) ⟨Nat.zero_le _, Nat.zero_le _⟩ rfl ?_
      refine g_aload_n (pc := 28) (dd d_Prd_readBracket 13 rfl) rfl ?_
      refine g_iload_n (pc := 29) (dd d_Prd_readBracket 14 rfl) rfl ?_
      refine g_iconst (pc := 30) (v := 1) (dd d_Prd_readBracket 15 rfl) (by decide) ?_
      refine g_iadd (pc := 31) (dd d_Prd_readBracket 16 rfl) ?_
      obtain ⟨v5, e6, h⟩ := bnd_e h
      refine g_callV (pc := 32) (dd d_Prd_readBracket 17 rfl) v_Prd_70 oc_Prd rfl (hE _ _ _ e6) rfl (by omega) (Nat.le_of_ble_eq_true rfl) ⟨Nat.zero_le _, Nat.zero_le _⟩ rfl ?_
      refine g_ifne (pc := 35) (tgt := 40) (dd d_Prd_readBracket 18 rfl) (by decide) (fun q7 => ?_) (fun q7 => ?_)
      · replace h := ite_f h q7
        refine g_iload_n (pc := 40) (dd d_Prd_readBracket 21 rfl) rfl ?_
        refine g_ifeq (pc := 41) (tgt := 69) (dd d_Prd_readBracket 22 rfl) (by decide) (fun q8 => ?_) (fun q8 => ?_)
        · replace h := ite_t h q8
          refine g_drop [1, 2] ?_
          exact gb_Prd_readBracket_69 hX hB hlE hlT hE hT0 hk hT  h
        · replace h := ite_f h q8
          refine g_aload_n (pc := 44) (dd d_Prd_readBracket 23 rfl) rfl ?_
          refine g_getr (pc := 45) (dd d_Prd_readBracket 24 rfl) f_Prd_9 oc_Prd rfl (rx_Prd_0 hX) ?_
          refine g_sipush (pc := 48) (v := 172) (dd d_Prd_readBracket 25 rfl) (by decide) ?_
          obtain ⟨v9, e10, h⟩ := bnd_e h
          refine g_callV (pc := 51) (dd d_Prd_readBracket 26 rfl) v_Prd_47 oc_Rdr rfl (ef_Rdr_take hX e10) rfl (by omega) (Nat.le_of_ble_eq_true rfl) ⟨Nat.zero_le _, Nat.zero_le _⟩ rfl ?_
          refine g_ifeq (pc := 54) (tgt := 67) (dd d_Prd_readBracket 27 rfl) (by decide) (fun q11 => ?_) (fun q11 => ?_)
          · replace h := ite_t h q11
            refine g_drop [0, 1, 2] ?_
            exact gb_Prd_readBracket_67 hX hB hlE hlT hE hT0 hk hT  h
          · replace h := ite_f h q11
            refine g_aload_n (pc := 57) (dd d_Prd_readBracket 28 rfl) rfl ?_
            refine g_iload_n (pc := 58) (dd d_Prd_readBracket 29 rfl) rfl ?_
            refine g_iconst (pc := 59) (v := 1) (dd d_Prd_readBracket 30 rfl) (by decide) ?_
            refine g_iadd (pc := 60) (dd d_Prd_readBracket 31 rfl) ?_
            obtain ⟨v12, e13, h⟩ := bnd_e h
            refine g_callV (pc := 61) (dd d_Prd_readBracket 32 rfl) v_Prd_70 oc_Prd rfl (hE _ _ _ e13) rfl (by omega) (Nat.le_of_ble_eq_true rfl) ⟨Nat.zero_le _, Nat.zero_le _⟩ rfl ?_
            refine g_ifne (pc := 64) (tgt := 69) (dd d_Prd_readBracket 33 rfl) (by decide) (fun q14 => ?_) (fun q14 => ?_)
            · replace h := ite_f h q14
              refine g_drop [1, 2] ?_
              exact gb_Prd_readBracket_69 hX hB hlE hlT hE hT0 hk hT  h
            · replace h := ite_t h q14
              refine g_drop [0, 1, 2] ?_
              exact gb_Prd_readBracket_67 hX hB hlE hlT hE hT0 hk hT  h
      · replace h := ite_t h q7
        refine g_iconst (pc := 38) (v := 0) (dd d_Prd_readBracket 19 rfl) (by decide) ?_
        cases h
        exact g_zret (pc := 39) rfl (by decide) (dd d_Prd_readBracket 20 rfl) hT
    · replace h := ite_f h q2
      refine g_drop [0, 1, 2] ?_
      exact gb_Prd_readBracket_19 hX hB hlE hlT hE hT0 hk hT  h
def b_Prd_readCall_75 (pt : Nat) (E T : RF)   (I : IM) : Option (Int32 × IM) := some (1, I)
set_option maxRecDepth 20000 in
set_option maxHeartbeats 4000000 in
theorem gb_Prd_readCall_75 {Δ : Dx} {X : Lx} {rl hd ot pt it : Nat} (hX : EX Δ X rl hd ot pt it) {l lE lT : Nat} (hB : 5 ≤ l) (hlE : lE ≤ l) (hlT : lT ≤ l) {E T : RF} (hE : OkE Δ X lE m_Prd_readExpression E) (hT0 : OkE Δ X lT m_Prd_readTerm T)    {Γ : Cx} (hk : Γ.k = l + 2) {r : Int32 × IM} (hT : Tg Δ Γ (some (.int r.1)) NN (r.2, X) 0 0)   {I : IM} (h : b_Prd_readCall_75 pt E T   I = some r) : GG Δ m_Prd_readCall Γ NN 0 0 (I, X) 75 [none, none, none] [] := by
  unfold b_Prd_readCall_75 at h
  refine g_iconst (pc := 75) (v := 1) (dd d_Prd_readCall 40 rfl) (by decide) ?_
  cases h
  exact g_zret (pc := 76) rfl (by decide) (dd d_Prd_readCall 41 rfl) hT
def f_Prd_readCall (pt : Nat) (E T : RF) (x1 : Int32) (x2 : Int32) (I : IM) : Option (Int32 × IM) := Option.bind (f_Rdr_advance   I) fun v1 => Option.bind (f_Prd_readBracket  pt E T x2 (if x1 = (37 : Int32) then 1 else 0) v1) fun v4 => if (v4.1 : Int32) = 0 then (some (0, v4.2)) else (Option.bind (f_Pol_append  pt x1 0 v4.2) fun v7 => if x1 = (37 : Int32) then (lt (up v7.2 7 3 ((v7.2 7 3) ||| 32768)) fun I12 => b_Prd_readCall_75 pt E T  I12) else (if x1 = (40 : Int32) then (lt (up v7.2 7 3 ((v7.2 7 3) ||| 65536)) fun I11 => b_Prd_readCall_75 pt E T  I11) else (b_Prd_readCall_75 pt E T  v7.2)))
set_option maxRecDepth 20000 in
set_option maxHeartbeats 4000000 in
theorem ef_Prd_readCall {Δ : Dx} {X : Lx} {rl hd ot pt it : Nat} (hX : EX Δ X rl hd ot pt it) {l lE lT : Nat} (hB : 5 ≤ l) (hlE : lE ≤ l) (hlT : lT ≤ l) {E T : RF} (hE : OkE Δ X lE m_Prd_readExpression E) (hT0 : OkE Δ X lT m_Prd_readTerm T) {x1 : Int32} {x2 : Int32}  {I : IM}  {r : Int32 × IM} (h : f_Prd_readCall pt E T x1 x2 I = some r) : Ev Δ (l + 2) m_Prd_readCall [.ref (Δ.ba + 7), .int x1, .int x2] (I, X) (some (.int r.1)) (r.2, X) := by
  refine ev_of (by decide) (Nat.le_of_ble_eq_true rfl) (fun Γ hk hR hT => ?_)
  change GG Δ m_Prd_readCall Γ NN 0 0 (I, X) 0 [some (.ref (Δ.ba + 7)), some (.int (x1)), some (.int (x2))] []
  unfold f_Prd_readCall at h
  refine g_aload_n (pc := 0) (dd d_Prd_readCall 0 rfl) rfl ?_
  refine g_getr (pc := 1) (dd d_Prd_readCall 1 rfl) f_Prd_9 oc_Prd rfl (rx_Prd_0 hX) ?_
  obtain ⟨v1, e2, h⟩ := bnd_e h
  refine g_callV (pc := 4) (dd d_Prd_readCall 2 rfl) v_Prd_67 oc_Rdr rfl (ef_Rdr_advance hX e2) rfl (by omega) (Nat.le_of_ble_eq_true rfl) ⟨Nat.zero_le _, Nat.zero_le _⟩ rfl ?_
  refine g_aload_n (pc := 7) (dd d_Prd_readCall 3 rfl) rfl ?_
  refine g_iload_n (pc := 8) (dd d_Prd_readCall 4 rfl) rfl ?_
  refine g_iload_n (pc := 9) (dd d_Prd_readCall 5 rfl) rfl ?_
  refine g_bipush (pc := 10) (v := 37) (dd d_Prd_readCall 6 rfl) (by decide) ?_
  suffices K12 : ∀ z : Int32, z = (if x1 = (37 : Int32) then 1 else 0 : Int32) → GG Δ m_Prd_readCall Γ NN 0 0 (v1, X) 20 [some (.ref (Δ.ba + 7)), some (.int (x1)), some (.int (x2))] [.int (z), .int (x2), .ref (Δ.ba + 7)] by
    refine g_icmpne (pc := 12) (tgt := 19) (dd d_Prd_readCall 7 rfl) (by decide) (fun q3 => ?_) (fun q3 => ?_)
    · skip
      refine g_iconst (pc := 19) (v := 0) (dd d_Prd_readCall 10 rfl) (by decide) ?_
      exact K12 _ (by rw [if_neg q3])
    · skip
      refine g_iconst (pc := 15) (v := 1) (dd d_Prd_readCall 8 rfl) (by decide) ?_
      refine g_goto (pc := 16) (tgt := 20) (dd d_Prd_readCall 9 rfl) (by decide) ?_
      exact K12 _ (by rw [if_pos q3])
  intro z hz
  subst hz
  obtain ⟨v4, e5, h⟩ := bnd_e h
  refine g_callV (pc := 20) (dd d_Prd_readCall 11 rfl) v_Prd_97 oc_Prd rfl (ef_Prd_readBracket hX hB hlE hlT hE hT0 e5) rfl (by omega) (Nat.le_of_ble_eq_true rfl) ⟨Nat.zero_le _, Nat.zero_le _⟩ rfl ?_
  refine g_ifne (pc := 23) (tgt := 28) (dd d_Prd_readCall 12 rfl) (by decide) (fun q6 => ?_) (fun q6 => ?_)
  · replace h := ite_f h q6
    refine g_aload_n (pc := 28) (dd d_Prd_readCall 15 rfl) rfl ?_
    refine g_getr (pc := 29) (dd d_Prd_readCall 16 rfl) f_Prd_18 oc_Prd rfl hX.r_pt ?_
    refine g_iload_n (pc := 32) (dd d_Prd_readCall 17 rfl) rfl ?_
    refine g_iconst (pc := 33) (v := 0) (dd d_Prd_readCall 18 rfl) (by decide) ?_
    obtain ⟨v7, e8, h⟩ := bnd_e h
    refine g_callV (pc := 34) (dd d_Prd_readCall 19 rfl) v_Prd_73 (oc_Pol hX.i_pt) rfl (ef_Pol_append hX hX.i_pt e8) rfl (by omega) (Nat.le_of_ble_eq_true rfl) ⟨Nat.zero_le _, Nat.zero_le _⟩ rfl ?_
    refine g_pop (pc := 37) (dd d_Prd_readCall 20 rfl) rfl ?_
    refine g_iload_n (pc := 38) (dd d_Prd_readCall 21 rfl) rfl ?_
    refine g_bipush (pc := 39) (v := 37) (dd d_Prd_readCall 22 rfl) (by decide) ?_
    refine g_icmpne (pc := 41) (tgt := 58) (dd d_Prd_readCall 23 rfl) (by decide) (fun q9 => ?_) (fun q9 => ?_)
    · replace h := ite_f h q9
      refine g_iload_n (pc := 58) (dd d_Prd_readCall 31 rfl) rfl ?_
      refine g_bipush (pc := 59) (v := 40) (dd d_Prd_readCall 32 rfl) (by decide) ?_
      refine g_icmpne (pc := 61) (tgt := 75) (dd d_Prd_readCall 33 rfl) (by decide) (fun q10 => ?_) (fun q10 => ?_)
      · replace h := ite_f h q10
        refine g_drop [0, 1, 2] ?_
        exact gb_Prd_readCall_75 hX hB hlE hlT hE hT0 hk hT  h
      · replace h := ite_t h q10
        refine g_aload_n (pc := 64) (dd d_Prd_readCall 34 rfl) rfl ?_
        refine g_dup (pc := 65) (dd d_Prd_readCall 35 rfl) rfl ?_
        refine g_geti (pc := 66) (dd d_Prd_readCall 36 rfl) f_Prd_54 oc_Prd rfl ?_
        refine g_ldc (pc := 69) (dd d_Prd_readCall 37 rfl) c_Prd_108 ?_
        refine g_ior (pc := 71) (dd d_Prd_readCall 38 rfl) ?_
        refine g_putiN (pc := 72) (dd d_Prd_readCall 39 rfl) f_Prd_54 fm_Prd_3 oc_Prd rfl (fun I11 hI11 => ?_)
        replace h := lt_e h hI11
        refine g_drop [0, 1, 2] ?_
        exact gb_Prd_readCall_75 hX hB hlE hlT hE hT0 hk hT  h
    · replace h := ite_t h q9
      refine g_aload_n (pc := 44) (dd d_Prd_readCall 24 rfl) rfl ?_
      refine g_dup (pc := 45) (dd d_Prd_readCall 25 rfl) rfl ?_
      refine g_geti (pc := 46) (dd d_Prd_readCall 26 rfl) f_Prd_54 oc_Prd rfl ?_
      refine g_ldc (pc := 49) (dd d_Prd_readCall 27 rfl) c_Prd_107 ?_
      refine g_ior (pc := 51) (dd d_Prd_readCall 28 rfl) ?_
      refine g_putiN (pc := 52) (dd d_Prd_readCall 29 rfl) f_Prd_54 fm_Prd_3 oc_Prd rfl (fun I12 hI12 => ?_)
      replace h := lt_e h hI12
      refine g_goto (pc := 55) (tgt := 75) (dd d_Prd_readCall 30 rfl) (by decide) ?_
      refine g_drop [0, 1, 2] ?_
      exact gb_Prd_readCall_75 hX hB hlE hlT hE hT0 hk hT  h
  · replace h := ite_t h q6
    refine g_iconst (pc := 26) (v := 0) (dd d_Prd_readCall 13 rfl) (by decide) ?_
    cases h
    exact g_zret (pc := 27) rfl (by decide) (dd d_Prd_readCall 14 rfl) hT
def b_Prd_readTerm_29 (pt : Nat) (E T : RF)  (x1 : Int32) (x2 : Int32) (I : IM) : Option (Int32 × IM) := Option.bind (f_Prd_readTurned  pt E T x2 x1 I) fun v23 => chk ((v23.1 : Int32) = 0 ∨ (v23.1 : Int32) = 1) <| some (v23.1, v23.2)
set_option maxRecDepth 20000 in
set_option maxHeartbeats 4000000 in
theorem gb_Prd_readTerm_29 {Δ : Dx} {X : Lx} {rl hd ot pt it : Nat} (hX : EX Δ X rl hd ot pt it) {l lE lT : Nat} (hB : 5 ≤ l) (hlE : lE ≤ l) (hlT : lT ≤ l) {E T : RF} (hE : OkE Δ X lE m_Prd_readExpression E) (hT0 : OkE Δ X lT m_Prd_readTerm T)    {Γ : Cx} (hk : Γ.k = l + 3) {r : Int32 × IM} (hT : Tg Δ Γ (some (.int r.1)) NN (r.2, X) 0 0)  {x1 : Int32} {x2 : Int32} {I : IM} (h : b_Prd_readTerm_29 pt E T  x1 x2 I = some r) : GG Δ m_Prd_readTerm Γ NN 0 0 (I, X) 29 [some (.ref (Δ.ba + 7)), some (.int (x1)), some (.int (x2))] [] := by
  unfold b_Prd_readTerm_29 at h
  refine g_aload_n (pc := 29) (dd d_Prd_readTerm 13 rfl) rfl ?_
  refine g_iload_n (pc := 30) (dd d_Prd_readTerm 14 rfl) rfl ?_
  refine g_iload_n (pc := 31) (dd d_Prd_readTerm 15 rfl) rfl ?_
  obtain ⟨v23, e24, h⟩ := bnd_e h
  refine g_callV (pc := 32) (dd d_Prd_readTerm 16 rfl) v_Prd_93 oc_Prd rfl (ef_Prd_readTurned hX hB hlE hlT hE hT0 e24) rfl (by omega) (Nat.le_of_ble_eq_true rfl) ⟨Nat.zero_le _, Nat.zero_le _⟩ rfl ?_
  obtain ⟨c25, h⟩ := chk_e h
  cases h
  exact g_zret (pc := 35) rfl c25 (dd d_Prd_readTerm 17 rfl) hT
def b_Prd_readTerm_139 (pt : Nat) (E T : RF)   (I : IM) : Option (Int32 × IM) := some (0, I)
set_option maxRecDepth 20000 in
set_option maxHeartbeats 4000000 in
theorem gb_Prd_readTerm_139 {Δ : Dx} {X : Lx} {rl hd ot pt it : Nat} (hX : EX Δ X rl hd ot pt it) {l lE lT : Nat} (hB : 5 ≤ l) (hlE : lE ≤ l) (hlT : lT ≤ l) {E T : RF} (hE : OkE Δ X lE m_Prd_readExpression E) (hT0 : OkE Δ X lT m_Prd_readTerm T)    {Γ : Cx} (hk : Γ.k = l + 3) {r : Int32 × IM} (hT : Tg Δ Γ (some (.int r.1)) NN (r.2, X) 0 0)   {I : IM} (h : b_Prd_readTerm_139 pt E T   I = some r) : GG Δ m_Prd_readTerm Γ NN 0 0 (I, X) 139 [none, none, none] [] := by
  unfold b_Prd_readTerm_139 at h
  refine g_iconst (pc := 139) (v := 0) (dd d_Prd_readTerm_1 14 rfl) (by decide) ?_
  cases h
  exact g_zret (pc := 140) rfl (by decide) (dd d_Prd_readTerm_1 15 rfl) hT
def b_Prd_readTerm_141 (pt : Nat) (E T : RF)   (I : IM) : Option (Int32 × IM) := Option.bind (f_Rdr_advance   I) fun v21 => some (1, v21)
set_option maxRecDepth 20000 in
set_option maxHeartbeats 4000000 in
theorem gb_Prd_readTerm_141 {Δ : Dx} {X : Lx} {rl hd ot pt it : Nat} (hX : EX Δ X rl hd ot pt it) {l lE lT : Nat} (hB : 5 ≤ l) (hlE : lE ≤ l) (hlT : lT ≤ l) {E T : RF} (hE : OkE Δ X lE m_Prd_readExpression E) (hT0 : OkE Δ X lT m_Prd_readTerm T)    {Γ : Cx} (hk : Γ.k = l + 3) {r : Int32 × IM} (hT : Tg Δ Γ (some (.int r.1)) NN (r.2, X) 0 0)   {I : IM} (h : b_Prd_readTerm_141 pt E T   I = some r) : GG Δ m_Prd_readTerm Γ NN 0 0 (I, X) 141 [some (.ref (Δ.ba + 7)), none, none] [] := by
  unfold b_Prd_readTerm_141 at h
  refine g_aload_n (pc := 141) (dd d_Prd_readTerm_1 16 rfl) rfl ?_
  refine g_getr (pc := 142) (dd d_Prd_readTerm_1 17 rfl) f_Prd_9 oc_Prd rfl (rx_Prd_0 hX) ?_
  obtain ⟨v21, e22, h⟩ := bnd_e h
  refine g_callV (pc := 145) (dd d_Prd_readTerm_1 18 rfl) v_Prd_67 oc_Rdr rfl (ef_Rdr_advance hX e22) rfl (by omega) (Nat.le_of_ble_eq_true rfl) ⟨Nat.zero_le _, Nat.zero_le _⟩ rfl ?_
  refine g_iconst (pc := 148) (v := 1) (dd d_Prd_readTerm_1 19 rfl) (by decide) ?_
  cases h
  exact g_zret (pc := 149) rfl (by decide) (dd d_Prd_readTerm_1 20 rfl) hT
def b_Prd_readTerm_69 (pt : Nat) (E T : RF)  (x2 : Int32) (I : IM) : Option (Int32 × IM) := if x2 = (101 : Int32) then (Option.bind (f_Pol_append  pt 101 (I 1 3) I) fun v19 => b_Prd_readTerm_141 pt E T  v19.2) else (if x2 < (22 : Int32) then (b_Prd_readTerm_139 pt E T  I) else (if (37 : Int32) ≤ x2 then (b_Prd_readTerm_139 pt E T  I) else (Option.bind (f_Pol_append  pt 103 (x2 - 22) I) fun v16 => lt (up v16.2 7 3 ((v16.2 7 3) ||| ((1 : Int32) <<< ((x2 - 22 : Int32) &&& 31)))) fun I18 => b_Prd_readTerm_141 pt E T  I18)))
set_option maxRecDepth 20000 in
set_option maxHeartbeats 4000000 in
theorem gb_Prd_readTerm_69 {Δ : Dx} {X : Lx} {rl hd ot pt it : Nat} (hX : EX Δ X rl hd ot pt it) {l lE lT : Nat} (hB : 5 ≤ l) (hlE : lE ≤ l) (hlT : lT ≤ l) {E T : RF} (hE : OkE Δ X lE m_Prd_readExpression E) (hT0 : OkE Δ X lT m_Prd_readTerm T)    {Γ : Cx} (hk : Γ.k = l + 3) {r : Int32 × IM} (hT : Tg Δ Γ (some (.int r.1)) NN (r.2, X) 0 0)  {x2 : Int32} {I : IM} (h : b_Prd_readTerm_69 pt E T  x2 I = some r) : GG Δ m_Prd_readTerm Γ NN 0 0 (I, X) 69 [some (.ref (Δ.ba + 7)), none, some (.int (x2))] [] := by
  unfold b_Prd_readTerm_69 at h
  refine g_iload_n (pc := 69) (dd d_Prd_readTerm 37 rfl) rfl ?_
  refine g_bipush (pc := 70) (v := 101) (dd d_Prd_readTerm 38 rfl) (by decide) ?_
  refine g_icmpne (pc := 72) (tgt := 95) (dd d_Prd_readTerm 39 rfl) (by decide) (fun q13 => ?_) (fun q13 => ?_)
  · replace h := ite_f h q13
    refine g_iload_n (pc := 95) (dd d_Prd_readTerm 49 rfl) rfl ?_
    refine g_bipush (pc := 96) (v := 22) (dd d_Prd_readTerm 50 rfl) (by decide) ?_
    refine g_icmplt (pc := 98) (tgt := 139) (dd d_Prd_readTerm 51 rfl) (by decide) (fun q14 => ?_) (fun q14 => ?_)
    · replace h := ite_t h q14
      refine g_drop [0, 2] ?_
      exact gb_Prd_readTerm_139 hX hB hlE hlT hE hT0 hk hT  h
    · replace h := ite_f h q14
      refine g_iload_n (pc := 101) (dd d_Prd_readTerm 52 rfl) rfl ?_
      refine g_bipush (pc := 102) (v := 37) (dd d_Prd_readTerm 53 rfl) (by decide) ?_
      refine g_icmpge (pc := 104) (tgt := 139) (dd d_Prd_readTerm 54 rfl) (by decide) (fun q15 => ?_) (fun q15 => ?_)
      · replace h := ite_t h q15
        refine g_drop [0, 2] ?_
        exact gb_Prd_readTerm_139 hX hB hlE hlT hE hT0 hk hT  h
      · replace h := ite_f h q15
        refine g_aload_n (pc := 107) (dd d_Prd_readTerm 55 rfl) rfl ?_
        refine g_getr (pc := 108) (dd d_Prd_readTerm 56 rfl) f_Prd_18 oc_Prd rfl hX.r_pt ?_
        refine g_bipush (pc := 111) (v := 103) (dd d_Prd_readTerm 57 rfl) (by decide) ?_
        refine g_iload_n (pc := 113) (dd d_Prd_readTerm 58 rfl) rfl ?_
        refine g_bipush (pc := 114) (v := 22) (dd d_Prd_readTerm 59 rfl) (by decide) ?_
        refine g_isub (pc := 116) (dd d_Prd_readTerm_1 0 rfl) ?_
        obtain ⟨v16, e17, h⟩ := bnd_e h
        refine g_callV (pc := 117) (dd d_Prd_readTerm_1 1 rfl) v_Prd_73 (oc_Pol hX.i_pt) rfl (ef_Pol_append hX hX.i_pt e17) rfl (by omega) (Nat.le_of_ble_eq_true rfl) ⟨Nat.zero_le _, Nat.zero_le _⟩ rfl ?_
        refine g_pop (pc := 120) (dd d_Prd_readTerm_1 2 rfl) rfl ?_
        refine g_aload_n (pc := 121) (dd d_Prd_readTerm_1 3 rfl) rfl ?_
        refine g_dup (pc := 122) (dd d_Prd_readTerm_1 4 rfl) rfl ?_
        refine g_geti (pc := 123) (dd d_Prd_readTerm_1 5 rfl) f_Prd_54 oc_Prd rfl ?_
        refine g_iconst (pc := 126) (v := 1) (dd d_Prd_readTerm_1 6 rfl) (by decide) ?_
        refine g_iload_n (pc := 127) (dd d_Prd_readTerm_1 7 rfl) rfl ?_
        refine g_bipush (pc := 128) (v := 22) (dd d_Prd_readTerm_1 8 rfl) (by decide) ?_
        refine g_isub (pc := 130) (dd d_Prd_readTerm_1 9 rfl) ?_
        refine g_ishl (pc := 131) (dd d_Prd_readTerm_1 10 rfl) ?_
        refine g_ior (pc := 132) (dd d_Prd_readTerm_1 11 rfl) ?_
        refine g_putiN (pc := 133) (dd d_Prd_readTerm_1 12 rfl) f_Prd_54 fm_Prd_3 oc_Prd rfl (fun I18 hI18 => ?_)
        replace h := lt_e h hI18
        refine g_goto (pc := 136) (tgt := 141) (dd d_Prd_readTerm_1 13 rfl) (by decide) ?_
        refine g_drop [2] ?_
        exact gb_Prd_readTerm_141 hX hB hlE hlT hE hT0 hk hT  h
  · replace h := ite_t h q13
    refine g_aload_n (pc := 75) (dd d_Prd_readTerm 40 rfl) rfl ?_
    refine g_getr (pc := 76) (dd d_Prd_readTerm 41 rfl) f_Prd_18 oc_Prd rfl hX.r_pt ?_
    refine g_bipush (pc := 79) (v := 101) (dd d_Prd_readTerm 42 rfl) (by decide) ?_
    refine g_aload_n (pc := 81) (dd d_Prd_readTerm 43 rfl) rfl ?_
    refine g_getr (pc := 82) (dd d_Prd_readTerm 44 rfl) f_Prd_9 oc_Prd rfl (rx_Prd_0 hX) ?_
    refine g_geti (pc := 85) (dd d_Prd_readTerm 45 rfl) f_Prd_104 oc_Rdr rfl ?_
    obtain ⟨v19, e20, h⟩ := bnd_e h
    refine g_callV (pc := 88) (dd d_Prd_readTerm 46 rfl) v_Prd_73 (oc_Pol hX.i_pt) rfl (ef_Pol_append hX hX.i_pt e20) rfl (by omega) (Nat.le_of_ble_eq_true rfl) ⟨Nat.zero_le _, Nat.zero_le _⟩ rfl ?_
    refine g_pop (pc := 91) (dd d_Prd_readTerm 47 rfl) rfl ?_
    refine g_goto (pc := 92) (tgt := 141) (dd d_Prd_readTerm 48 rfl) (by decide) ?_
    refine g_drop [2] ?_
    exact gb_Prd_readTerm_141 hX hB hlE hlT hE hT0 hk hT  h
def f_Prd_readTerm (pt : Nat) (E T : RF) (x1 : Int32) (I : IM) : Option (Int32 × IM) := if (I 1 1 : Int32) = (161 : Int32) then (b_Prd_readTerm_29 pt E T  x1 (I 1 1) I) else (if (I 1 1 : Int32) = (254 : Int32) then (b_Prd_readTerm_29 pt E T  x1 (I 1 1) I) else (if (I 1 1 : Int32) = (173 : Int32) then (b_Prd_readTerm_29 pt E T  x1 (I 1 1) I) else (if (I 1 1 : Int32) = (168 : Int32) then (Option.bind (f_Prd_readBracket  pt E T x1 0 I) fun v10 => chk ((v10.1 : Int32) = 0 ∨ (v10.1 : Int32) = 1) <| some (v10.1, v10.2)) else (if (I 1 1 : Int32) < (37 : Int32) then (b_Prd_readTerm_69 pt E T  (I 1 1) I) else (if (40 : Int32) < (I 1 1 : Int32) then (b_Prd_readTerm_69 pt E T  (I 1 1) I) else (Option.bind (f_Prd_readCall  pt E T (I 1 1) x1 I) fun v7 => chk ((v7.1 : Int32) = 0 ∨ (v7.1 : Int32) = 1) <| some (v7.1, v7.2)))))))
set_option maxRecDepth 20000 in
set_option maxHeartbeats 4000000 in
theorem ef_Prd_readTerm {Δ : Dx} {X : Lx} {rl hd ot pt it : Nat} (hX : EX Δ X rl hd ot pt it) {l lE lT : Nat} (hB : 5 ≤ l) (hlE : lE ≤ l) (hlT : lT ≤ l) {E T : RF} (hE : OkE Δ X lE m_Prd_readExpression E) (hT0 : OkE Δ X lT m_Prd_readTerm T) {x1 : Int32}  {I : IM}  {r : Int32 × IM} (h : f_Prd_readTerm pt E T x1 I = some r) : Ev Δ (l + 3) m_Prd_readTerm [.ref (Δ.ba + 7), .int x1] (I, X) (some (.int r.1)) (r.2, X) := by
  refine ev_of (by decide) (Nat.le_of_ble_eq_true rfl) (fun Γ hk hR hT => ?_)
  change GG Δ m_Prd_readTerm Γ NN 0 0 (I, X) 0 [some (.ref (Δ.ba + 7)), some (.int (x1)), none] []
  unfold f_Prd_readTerm at h
  refine g_aload_n (pc := 0) (dd d_Prd_readTerm 0 rfl) rfl ?_
  refine g_getr (pc := 1) (dd d_Prd_readTerm 1 rfl) f_Prd_9 oc_Prd rfl (rx_Prd_0 hX) ?_
  refine g_geti (pc := 4) (dd d_Prd_readTerm 2 rfl) f_Prd_34 oc_Rdr rfl ?_
  refine g_istore_n (pc := 7) (dd d_Prd_readTerm 3 rfl) (by decide) ?_
  refine g_iload_n (pc := 8) (dd d_Prd_readTerm 4 rfl) rfl ?_
  refine g_sipush (pc := 9) (v := 161) (dd d_Prd_readTerm 5 rfl) (by decide) ?_
  refine g_icmpeq (pc := 12) (tgt := 29) (dd d_Prd_readTerm 6 rfl) (by decide) (fun q1 => ?_) (fun q1 => ?_)
  · replace h := ite_t h q1
    exact gb_Prd_readTerm_29 hX hB hlE hlT hE hT0 hk hT  h
  · replace h := ite_f h q1
    refine g_iload_n (pc := 15) (dd d_Prd_readTerm 7 rfl) rfl ?_
    refine g_sipush (pc := 16) (v := 254) (dd d_Prd_readTerm 8 rfl) (by decide) ?_
    refine g_icmpeq (pc := 19) (tgt := 29) (dd d_Prd_readTerm 9 rfl) (by decide) (fun q2 => ?_) (fun q2 => ?_)
    · replace h := ite_t h q2
      exact gb_Prd_readTerm_29 hX hB hlE hlT hE hT0 hk hT  h
    · replace h := ite_f h q2
      refine g_iload_n (pc := 22) (dd d_Prd_readTerm 10 rfl) rfl ?_
      refine g_sipush (pc := 23) (v := 173) (dd d_Prd_readTerm 11 rfl) (by decide) ?_
      refine g_icmpne (pc := 26) (tgt := 36) (dd d_Prd_readTerm 12 rfl) (by decide) (fun q3 => ?_) (fun q3 => ?_)
      · replace h := ite_f h q3
        refine g_iload_n (pc := 36) (dd d_Prd_readTerm 18 rfl) rfl ?_
        refine g_sipush (pc := 37) (v := 168) (dd d_Prd_readTerm 19 rfl) (by decide) ?_
        refine g_icmpne (pc := 40) (tgt := 50) (dd d_Prd_readTerm 20 rfl) (by decide) (fun q4 => ?_) (fun q4 => ?_)
        · replace h := ite_f h q4
          refine g_iload_n (pc := 50) (dd d_Prd_readTerm 26 rfl) rfl ?_
          refine g_bipush (pc := 51) (v := 37) (dd d_Prd_readTerm 27 rfl) (by decide) ?_
          refine g_icmplt (pc := 53) (tgt := 69) (dd d_Prd_readTerm 28 rfl) (by decide) (fun q5 => ?_) (fun q5 => ?_)
          · replace h := ite_t h q5
            refine g_drop [1] ?_
            exact gb_Prd_readTerm_69 hX hB hlE hlT hE hT0 hk hT  h
          · replace h := ite_f h q5
            refine g_iload_n (pc := 56) (dd d_Prd_readTerm 29 rfl) rfl ?_
            refine g_bipush (pc := 57) (v := 40) (dd d_Prd_readTerm 30 rfl) (by decide) ?_
            refine g_icmpgt (pc := 59) (tgt := 69) (dd d_Prd_readTerm 31 rfl) (by decide) (fun q6 => ?_) (fun q6 => ?_)
            · replace h := ite_t h q6
              refine g_drop [1] ?_
              exact gb_Prd_readTerm_69 hX hB hlE hlT hE hT0 hk hT  h
            · replace h := ite_f h q6
              refine g_aload_n (pc := 62) (dd d_Prd_readTerm 32 rfl) rfl ?_
              refine g_iload_n (pc := 63) (dd d_Prd_readTerm 33 rfl) rfl ?_
              refine g_iload_n (pc := 64) (dd d_Prd_readTerm 34 rfl) rfl ?_
              obtain ⟨v7, e8, h⟩ := bnd_e h
              refine g_callV (pc := 65) (dd d_Prd_readTerm 35 rfl) v_Prd_101 oc_Prd rfl (ef_Prd_readCall hX hB hlE hlT hE hT0 e8) rfl (by omega) (Nat.le_of_ble_eq_true rfl) ⟨Nat.zero_le _, Nat.zero_le _⟩ rfl ?_
              obtain ⟨c9, h⟩ := chk_e h
              cases h
              exact g_zret (pc := 68) rfl c9 (dd d_Prd_readTerm 36 rfl) hT
        · replace h := ite_t h q4
          refine g_aload_n (pc := 43) (dd d_Prd_readTerm 21 rfl) rfl ?_
          refine g_iload_n (pc := 44) (dd d_Prd_readTerm 22 rfl) rfl ?_
          refine g_iconst (pc := 45) (v := 0) (dd d_Prd_readTerm 23 rfl) (by decide) ?_
          obtain ⟨v10, e11, h⟩ := bnd_e h
          refine g_callV (pc := 46) (dd d_Prd_readTerm 24 rfl) v_Prd_97 oc_Prd rfl (ef_Prd_readBracket hX hB hlE hlT hE hT0 e11) rfl (by omega) (Nat.le_of_ble_eq_true rfl) ⟨Nat.zero_le _, Nat.zero_le _⟩ rfl ?_
          obtain ⟨c12, h⟩ := chk_e h
          cases h
          exact g_zret (pc := 49) rfl c12 (dd d_Prd_readTerm 25 rfl) hT
      · replace h := ite_t h q3
        exact gb_Prd_readTerm_29 hX hB hlE hlT hE hT0 hk hT  h
def b_Prd_readSum_73 (n : Nat) (pt : Nat) (E T : RF)   (I : IM) : Option (Int32 × IM) := some (1, I)
set_option maxRecDepth 20000 in
set_option maxHeartbeats 4000000 in
theorem gb_Prd_readSum_73 {Δ : Dx} {X : Lx} {rl hd ot pt it : Nat} (hX : EX Δ X rl hd ot pt it) {l lE lT : Nat} (hB : 5 ≤ l) (hlE : lE ≤ l) (hlT : lT ≤ l) {E T : RF} (hE : OkE Δ X lE m_Prd_readExpression E) (hT0 : OkE Δ X lT m_Prd_readTerm T)   {n : Nat} {Γ : Cx} (hk : Γ.k = l + 4) {r : Int32 × IM} (hT : Tg Δ Γ (some (.int r.1)) NN (r.2, X) 0 0)   {I : IM} (h : b_Prd_readSum_73 n pt E T   I = some r) : GG Δ m_Prd_readSum Γ NN 0 0 (I, X) 73 [none, none, none, none] [] := by
  unfold b_Prd_readSum_73 at h
  refine g_iconst (pc := 73) (v := 1) (dd d_Prd_readSum 37 rfl) (by decide) ?_
  cases h
  exact g_zret (pc := 74) rfl (by decide) (dd d_Prd_readSum 38 rfl) hT
def l_Prd_readSum_12 (n : Nat) (pt : Nat) (E T : RF)  : Nat → Int32 → Int32 → IM → Option (Int32 × IM)
  | 0, _, _, _ => none
  | f + 1, x1, x2, I => if (900 : Int32) ≤ x2 then (b_Prd_readSum_73 n pt E T  I) else (Option.bind (f_Prd_isSumSign  (I 1 1) I) fun v5 => if v5 = 0 then (b_Prd_readSum_73 n pt E T  I) else (Option.bind (f_Rdr_advance   I) fun v8 => Option.bind (f_Prd_readTerm  pt E T x1 v8) fun v10 => if (v10.1 : Int32) = 0 then (some (0, v10.2)) else (Option.bind (f_Pol_append  pt (I 1 1) 0 v10.2) fun v13 => (l_Prd_readSum_12 n pt E T  f) x1 (x2 + 1) v13.2)))
set_option maxRecDepth 20000 in
set_option maxHeartbeats 4000000 in
theorem gl_Prd_readSum_12 {Δ : Dx} {X : Lx} {rl hd ot pt it : Nat} (hX : EX Δ X rl hd ot pt it) {l lE lT : Nat} (hB : 5 ≤ l) (hlE : lE ≤ l) (hlT : lT ≤ l) {E T : RF} (hE : OkE Δ X lE m_Prd_readExpression E) (hT0 : OkE Δ X lT m_Prd_readTerm T)   {n : Nat} {Γ : Cx} (hk : Γ.k = l + 4) {r : Int32 × IM} (hT : Tg Δ Γ (some (.int r.1)) NN (r.2, X) 0 0)  : ∀ (f : Nat) (x1 : Int32) (x2 : Int32) (I : IM), l_Prd_readSum_12 n pt E T  f x1 x2 I = some r → GG Δ m_Prd_readSum Γ NN 0 0 (I, X) 12 [some (.ref (Δ.ba + 7)), some (.int (x1)), some (.int (x2)), none] []
  | 0, _, _, _, h => by cases h
  | f + 1, x1, x2, I, h => by
    have ih := gl_Prd_readSum_12 (n := n) hX hB hlE hlT hE hT0 hk hT  f
    rw [l_Prd_readSum_12] at h
    refine g_iload_n (pc := 12) (dd d_Prd_readSum 8 rfl) rfl ?_
    refine g_sipush (pc := 13) (v := 900) (dd d_Prd_readSum 9 rfl) (by decide) ?_
    refine g_icmpge (pc := 16) (tgt := 73) (dd d_Prd_readSum 10 rfl) (by decide) (fun q4 => ?_) (fun q4 => ?_)
    · replace h := ite_t h q4
      refine g_drop [0, 1, 2] ?_
      exact gb_Prd_readSum_73 hX hB hlE hlT hE hT0 hk hT  h
    · replace h := ite_f h q4
      refine g_aload_n (pc := 19) (dd d_Prd_readSum 11 rfl) rfl ?_
      refine g_getr (pc := 20) (dd d_Prd_readSum 12 rfl) f_Prd_9 oc_Prd rfl (rx_Prd_0 hX) ?_
      refine g_geti (pc := 23) (dd d_Prd_readSum 13 rfl) f_Prd_34 oc_Rdr rfl ?_
      obtain ⟨v5, e6, h⟩ := bnd_e h
      refine g_callS (pc := 26) (dd d_Prd_readSum 14 rfl) s_Prd_90 (ef_Prd_isSumSign hX e6) rfl (by omega) (Nat.le_of_ble_eq_true rfl) ⟨Nat.zero_le _, Nat.zero_le _⟩ rfl ?_
      refine g_ifeq (pc := 29) (tgt := 73) (dd d_Prd_readSum 15 rfl) (by decide) (fun q7 => ?_) (fun q7 => ?_)
      · replace h := ite_t h q7
        refine g_drop [0, 1, 2] ?_
        exact gb_Prd_readSum_73 hX hB hlE hlT hE hT0 hk hT  h
      · replace h := ite_f h q7
        refine g_aload_n (pc := 32) (dd d_Prd_readSum 16 rfl) rfl ?_
        refine g_getr (pc := 33) (dd d_Prd_readSum 17 rfl) f_Prd_9 oc_Prd rfl (rx_Prd_0 hX) ?_
        refine g_geti (pc := 36) (dd d_Prd_readSum 18 rfl) f_Prd_34 oc_Rdr rfl ?_
        refine g_istore_n (pc := 39) (dd d_Prd_readSum 19 rfl) (by decide) ?_
        refine g_aload_n (pc := 40) (dd d_Prd_readSum 20 rfl) rfl ?_
        refine g_getr (pc := 41) (dd d_Prd_readSum 21 rfl) f_Prd_9 oc_Prd rfl (rx_Prd_0 hX) ?_
        obtain ⟨v8, e9, h⟩ := bnd_e h
        refine g_callV (pc := 44) (dd d_Prd_readSum 22 rfl) v_Prd_67 oc_Rdr rfl (ef_Rdr_advance hX e9) rfl (by omega) (Nat.le_of_ble_eq_true rfl) ⟨Nat.zero_le _, Nat.zero_le _⟩ rfl ?_
        refine g_aload_n (pc := 47) (dd d_Prd_readSum 23 rfl) rfl ?_
        refine g_iload_n (pc := 48) (dd d_Prd_readSum 24 rfl) rfl ?_
        obtain ⟨v10, e11, h⟩ := bnd_e h
        refine g_callV (pc := 49) (dd d_Prd_readSum 25 rfl) v_Prd_87 oc_Prd rfl (ef_Prd_readTerm hX hB hlE hlT hE hT0 e11) rfl (by omega) (Nat.le_of_ble_eq_true rfl) ⟨Nat.zero_le _, Nat.zero_le _⟩ rfl ?_
        refine g_ifne (pc := 52) (tgt := 57) (dd d_Prd_readSum 26 rfl) (by decide) (fun q12 => ?_) (fun q12 => ?_)
        · replace h := ite_f h q12
          refine g_aload_n (pc := 57) (dd d_Prd_readSum 29 rfl) rfl ?_
          refine g_getr (pc := 58) (dd d_Prd_readSum 30 rfl) f_Prd_18 oc_Prd rfl hX.r_pt ?_
          refine g_iload_n (pc := 61) (dd d_Prd_readSum 31 rfl) rfl ?_
          refine g_iconst (pc := 62) (v := 0) (dd d_Prd_readSum 32 rfl) (by decide) ?_
          obtain ⟨v13, e14, h⟩ := bnd_e h
          refine g_callV (pc := 63) (dd d_Prd_readSum 33 rfl) v_Prd_73 (oc_Pol hX.i_pt) rfl (ef_Pol_append hX hX.i_pt e14) rfl (by omega) (Nat.le_of_ble_eq_true rfl) ⟨Nat.zero_le _, Nat.zero_le _⟩ rfl ?_
          refine g_pop (pc := 66) (dd d_Prd_readSum 34 rfl) rfl ?_
          refine g_iincW (pc := 67) (w := 1) (dd d_Prd_readSum 35 rfl) rfl (by decide) (by decide) ?_
          refine g_goto (pc := 70) (tgt := 12) (dd d_Prd_readSum 36 rfl) (by decide) ?_
          refine g_drop [3] ?_
          exact ih _ _ _ h
        · replace h := ite_t h q12
          refine g_iconst (pc := 55) (v := 0) (dd d_Prd_readSum 27 rfl) (by decide) ?_
          cases h
          exact g_zret (pc := 56) rfl (by decide) (dd d_Prd_readSum 28 rfl) hT
def f_Prd_readSum (n : Nat) (pt : Nat) (E T : RF) (x1 : Int32) (I : IM) : Option (Int32 × IM) := Option.bind (f_Prd_readTerm  pt E T x1 I) fun v1 => if (v1.1 : Int32) = 0 then (some (0, v1.2)) else (l_Prd_readSum_12 n pt E T  n x1 0 v1.2)
set_option maxRecDepth 20000 in
set_option maxHeartbeats 4000000 in
theorem ef_Prd_readSum {Δ : Dx} {X : Lx} {rl hd ot pt it : Nat} (hX : EX Δ X rl hd ot pt it) {l lE lT : Nat} (hB : 5 ≤ l) (hlE : lE ≤ l) (hlT : lT ≤ l) {E T : RF} (hE : OkE Δ X lE m_Prd_readExpression E) (hT0 : OkE Δ X lT m_Prd_readTerm T) {n : Nat} {x1 : Int32}  {I : IM}  {r : Int32 × IM} (h : f_Prd_readSum n pt E T x1 I = some r) : Ev Δ (l + 4) m_Prd_readSum [.ref (Δ.ba + 7), .int x1] (I, X) (some (.int r.1)) (r.2, X) := by
  refine ev_of (by decide) (Nat.le_of_ble_eq_true rfl) (fun Γ hk hR hT => ?_)
  change GG Δ m_Prd_readSum Γ NN 0 0 (I, X) 0 [some (.ref (Δ.ba + 7)), some (.int (x1)), none, none] []
  unfold f_Prd_readSum at h
  refine g_aload_n (pc := 0) (dd d_Prd_readSum 0 rfl) rfl ?_
  refine g_iload_n (pc := 1) (dd d_Prd_readSum 1 rfl) rfl ?_
  obtain ⟨v1, e2, h⟩ := bnd_e h
  refine g_callV (pc := 2) (dd d_Prd_readSum 2 rfl) v_Prd_87 oc_Prd rfl (ef_Prd_readTerm hX hB hlE hlT hE hT0 e2) rfl (by omega) (Nat.le_of_ble_eq_true rfl) ⟨Nat.zero_le _, Nat.zero_le _⟩ rfl ?_
  refine g_ifne (pc := 5) (tgt := 10) (dd d_Prd_readSum 3 rfl) (by decide) (fun q3 => ?_) (fun q3 => ?_)
  · replace h := ite_f h q3
    refine g_iconst (pc := 10) (v := 0) (dd d_Prd_readSum 6 rfl) (by decide) ?_
    refine g_istore_n (pc := 11) (dd d_Prd_readSum 7 rfl) (by decide) ?_
    exact gl_Prd_readSum_12 hX hB hlE hlT hE hT0 hk hT  _ _ _ _ h
  · replace h := ite_t h q3
    refine g_iconst (pc := 8) (v := 0) (dd d_Prd_readSum 4 rfl) (by decide) ?_
    cases h
    exact g_zret (pc := 9) rfl (by decide) (dd d_Prd_readSum 5 rfl) hT
def b_Prd_readParts_48 (n : Nat) (pt : Nat) (E T : RF)  (x1 : Int32) (x2 : Int32) (I : IM) : Option (Int32 × IM) := Option.bind (f_Rdr_advance   I) fun v8 => Option.bind (f_Prd_readSum n pt E T x1 v8) fun v10 => if (v10.1 : Int32) = 0 then (some (0, v10.2)) else (Option.bind (f_Pol_append  pt x2 0 v10.2) fun v13 => some (1, v13.2))
set_option maxRecDepth 20000 in
set_option maxHeartbeats 4000000 in
theorem gb_Prd_readParts_48 {Δ : Dx} {X : Lx} {rl hd ot pt it : Nat} (hX : EX Δ X rl hd ot pt it) {l lE lT : Nat} (hB : 5 ≤ l) (hlE : lE ≤ l) (hlT : lT ≤ l) {E T : RF} (hE : OkE Δ X lE m_Prd_readExpression E) (hT0 : OkE Δ X lT m_Prd_readTerm T)   {n : Nat} {Γ : Cx} (hk : Γ.k = l + 5) {r : Int32 × IM} (hT : Tg Δ Γ (some (.int r.1)) NN (r.2, X) 0 0)  {x1 : Int32} {x2 : Int32} {I : IM} (h : b_Prd_readParts_48 n pt E T  x1 x2 I = some r) : GG Δ m_Prd_readParts Γ NN 0 0 (I, X) 48 [some (.ref (Δ.ba + 7)), some (.int (x1)), some (.int (x2))] [] := by
  unfold b_Prd_readParts_48 at h
  refine g_aload_n (pc := 48) (dd d_Prd_readParts 24 rfl) rfl ?_
  refine g_getr (pc := 49) (dd d_Prd_readParts 25 rfl) f_Prd_9 oc_Prd rfl (rx_Prd_0 hX) ?_
  obtain ⟨v8, e9, h⟩ := bnd_e h
  refine g_callV (pc := 52) (dd d_Prd_readParts 26 rfl) v_Prd_67 oc_Rdr rfl (ef_Rdr_advance hX e9) rfl (by omega) (Nat.le_of_ble_eq_true rfl) ⟨Nat.zero_le _, Nat.zero_le _⟩ rfl ?_
  refine g_aload_n (pc := 55) (dd d_Prd_readParts 27 rfl) rfl ?_
  refine g_iload_n (pc := 56) (dd d_Prd_readParts 28 rfl) rfl ?_
  obtain ⟨v10, e11, h⟩ := bnd_e h
  refine g_callV (pc := 57) (dd d_Prd_readParts 29 rfl) v_Prd_84 oc_Prd rfl (ef_Prd_readSum hX hB hlE hlT hE hT0 e11) rfl (by omega) (Nat.le_of_ble_eq_true rfl) ⟨Nat.zero_le _, Nat.zero_le _⟩ rfl ?_
  refine g_ifne (pc := 60) (tgt := 65) (dd d_Prd_readParts 30 rfl) (by decide) (fun q12 => ?_) (fun q12 => ?_)
  · replace h := ite_f h q12
    refine g_aload_n (pc := 65) (dd d_Prd_readParts 33 rfl) rfl ?_
    refine g_getr (pc := 66) (dd d_Prd_readParts 34 rfl) f_Prd_18 oc_Prd rfl hX.r_pt ?_
    refine g_iload_n (pc := 69) (dd d_Prd_readParts 35 rfl) rfl ?_
    refine g_iconst (pc := 70) (v := 0) (dd d_Prd_readParts 36 rfl) (by decide) ?_
    obtain ⟨v13, e14, h⟩ := bnd_e h
    refine g_callV (pc := 71) (dd d_Prd_readParts 37 rfl) v_Prd_73 (oc_Pol hX.i_pt) rfl (ef_Pol_append hX hX.i_pt e14) rfl (by omega) (Nat.le_of_ble_eq_true rfl) ⟨Nat.zero_le _, Nat.zero_le _⟩ rfl ?_
    refine g_pop (pc := 74) (dd d_Prd_readParts 38 rfl) rfl ?_
    refine g_iconst (pc := 75) (v := 1) (dd d_Prd_readParts 39 rfl) (by decide) ?_
    cases h
    exact g_zret (pc := 76) rfl (by decide) (dd d_Prd_readParts 40 rfl) hT
  · replace h := ite_t h q12
    refine g_iconst (pc := 63) (v := 0) (dd d_Prd_readParts 31 rfl) (by decide) ?_
    cases h
    exact g_zret (pc := 64) rfl (by decide) (dd d_Prd_readParts 32 rfl) hT
def f_Prd_readParts (n : Nat) (pt : Nat) (E T : RF) (x1 : Int32) (I : IM) : Option (Int32 × IM) := Option.bind (f_Prd_readSum n pt E T x1 I) fun v1 => if (v1.1 : Int32) = 0 then (some (0, v1.2)) else (if (v1.2 1 1 : Int32) = (317 : Int32) then (b_Prd_readParts_48 n pt E T  x1 (v1.2 1 1) v1.2) else (if (v1.2 1 1 : Int32) = (289 : Int32) then (b_Prd_readParts_48 n pt E T  x1 (v1.2 1 1) v1.2) else (if (v1.2 1 1 : Int32) = (188 : Int32) then (b_Prd_readParts_48 n pt E T  x1 (v1.2 1 1) v1.2) else (if (v1.2 1 1 : Int32) = (316 : Int32) then (b_Prd_readParts_48 n pt E T  x1 (v1.2 1 1) v1.2) else (some (1, v1.2))))))
set_option maxRecDepth 20000 in
set_option maxHeartbeats 4000000 in
theorem ef_Prd_readParts {Δ : Dx} {X : Lx} {rl hd ot pt it : Nat} (hX : EX Δ X rl hd ot pt it) {l lE lT : Nat} (hB : 5 ≤ l) (hlE : lE ≤ l) (hlT : lT ≤ l) {E T : RF} (hE : OkE Δ X lE m_Prd_readExpression E) (hT0 : OkE Δ X lT m_Prd_readTerm T) {n : Nat} {x1 : Int32}  {I : IM}  {r : Int32 × IM} (h : f_Prd_readParts n pt E T x1 I = some r) : Ev Δ (l + 5) m_Prd_readParts [.ref (Δ.ba + 7), .int x1] (I, X) (some (.int r.1)) (r.2, X) := by
  refine ev_of (by decide) (Nat.le_of_ble_eq_true rfl) (fun Γ hk hR hT => ?_)
  change GG Δ m_Prd_readParts Γ NN 0 0 (I, X) 0 [some (.ref (Δ.ba + 7)), some (.int (x1)), none] []
  unfold f_Prd_readParts at h
  refine g_aload_n (pc := 0) (dd d_Prd_readParts 0 rfl) rfl ?_
  refine g_iload_n (pc := 1) (dd d_Prd_readParts 1 rfl) rfl ?_
  obtain ⟨v1, e2, h⟩ := bnd_e h
  refine g_callV (pc := 2) (dd d_Prd_readParts 2 rfl) v_Prd_84 oc_Prd rfl (ef_Prd_readSum hX hB hlE hlT hE hT0 e2) rfl (by omega) (Nat.le_of_ble_eq_true rfl) ⟨Nat.zero_le _, Nat.zero_le _⟩ rfl ?_
  refine g_ifne (pc := 5) (tgt := 10) (dd d_Prd_readParts 3 rfl) (by decide) (fun q3 => ?_) (fun q3 => ?_)
  · replace h := ite_f h q3
    refine g_aload_n (pc := 10) (dd d_Prd_readParts 6 rfl) rfl ?_
    refine g_getr (pc := 11) (dd d_Prd_readParts 7 rfl) f_Prd_9 oc_Prd rfl (rx_Prd_0 hX) ?_
    refine g_geti (pc := 14) (dd d_Prd_readParts 8 rfl) f_Prd_34 oc_Rdr rfl ?_
    refine g_istore_n (pc := 17) (dd d_Prd_readParts 9 rfl) (by decide) ?_
    refine g_iload_n (pc := 18) (dd d_Prd_readParts 10 rfl) rfl ?_
    refine g_sipush (pc := 19) (v := 317) (dd d_Prd_readParts 11 rfl) (by decide) ?_
    refine g_icmpeq (pc := 22) (tgt := 48) (dd d_Prd_readParts 12 rfl) (by decide) (fun q4 => ?_) (fun q4 => ?_)
    · replace h := ite_t h q4
      exact gb_Prd_readParts_48 hX hB hlE hlT hE hT0 hk hT  h
    · replace h := ite_f h q4
      refine g_iload_n (pc := 25) (dd d_Prd_readParts 13 rfl) rfl ?_
      refine g_sipush (pc := 26) (v := 289) (dd d_Prd_readParts 14 rfl) (by decide) ?_
      refine g_icmpeq (pc := 29) (tgt := 48) (dd d_Prd_readParts 15 rfl) (by decide) (fun q5 => ?_) (fun q5 => ?_)
      · replace h := ite_t h q5
        exact gb_Prd_readParts_48 hX hB hlE hlT hE hT0 hk hT  h
      · replace h := ite_f h q5
        refine g_iload_n (pc := 32) (dd d_Prd_readParts 16 rfl) rfl ?_
        refine g_sipush (pc := 33) (v := 188) (dd d_Prd_readParts 17 rfl) (by decide) ?_
        refine g_icmpeq (pc := 36) (tgt := 48) (dd d_Prd_readParts 18 rfl) (by decide) (fun q6 => ?_) (fun q6 => ?_)
        · replace h := ite_t h q6
          exact gb_Prd_readParts_48 hX hB hlE hlT hE hT0 hk hT  h
        · replace h := ite_f h q6
          refine g_iload_n (pc := 39) (dd d_Prd_readParts 19 rfl) rfl ?_
          refine g_sipush (pc := 40) (v := 316) (dd d_Prd_readParts 20 rfl) (by decide) ?_
          refine g_icmpeq (pc := 43) (tgt := 48) (dd d_Prd_readParts 21 rfl) (by decide) (fun q7 => ?_) (fun q7 => ?_)
          · replace h := ite_t h q7
            exact gb_Prd_readParts_48 hX hB hlE hlT hE hT0 hk hT  h
          · replace h := ite_f h q7
            refine g_iconst (pc := 46) (v := 1) (dd d_Prd_readParts 22 rfl) (by decide) ?_
            cases h
            exact g_zret (pc := 47) rfl (by decide) (dd d_Prd_readParts 23 rfl) hT
  · replace h := ite_t h q3
    refine g_iconst (pc := 8) (v := 0) (dd d_Prd_readParts 4 rfl) (by decide) ?_
    cases h
    exact g_zret (pc := 9) rfl (by decide) (dd d_Prd_readParts 5 rfl) hT
def b_Prd_readExpression_75 (n : Nat) (pt : Nat) (E T : RF)   (I : IM) : Option (Int32 × IM) := some (0, I)
set_option maxRecDepth 20000 in
set_option maxHeartbeats 4000000 in
theorem gb_Prd_readExpression_75 {Δ : Dx} {X : Lx} {rl hd ot pt it : Nat} (hX : EX Δ X rl hd ot pt it) {l lE lT : Nat} (hB : 5 ≤ l) (hlE : lE ≤ l) (hlT : lT ≤ l) {E T : RF} (hE : OkE Δ X lE m_Prd_readExpression E) (hT0 : OkE Δ X lT m_Prd_readTerm T)   {n : Nat} {Γ : Cx} (hk : Γ.k = l + 6) {r : Int32 × IM} (hT : Tg Δ Γ (some (.int r.1)) NN (r.2, X) 0 0)   {I : IM} (h : b_Prd_readExpression_75 n pt E T   I = some r) : GG Δ m_Prd_readExpression Γ NN 0 0 (I, X) 75 [none, none, none, none] [] := by
  unfold b_Prd_readExpression_75 at h
  refine g_iconst (pc := 75) (v := 0) (dd d_Prd_readExpression 38 rfl) (by decide) ?_
  cases h
  exact g_zret (pc := 76) rfl (by decide) (dd d_Prd_readExpression 39 rfl) hT
def f_Prd_readExpression (n : Nat) (pt : Nat) (E T : RF) (x1 : Int32) (I : IM) : Option (Int32 × IM) := Option.bind (f_Prd_readParts n pt E T x1 I) fun v1 => if (v1.1 : Int32) = 0 then (some (0, v1.2)) else (if (v1.2 1 1 : Int32) = (191 : Int32) then (if x1 < (10 : Int32) then (Option.bind (f_Rdr_advance   v1.2) fun v6 => Option.bind (f_Pol_append  pt 191 0 v6) fun v8 => Option.bind (E  (x1 + 1) v8.2) fun v10 => if (v10.1 : Int32) = 0 then (b_Prd_readExpression_75 n pt E T  v10.2) else (Option.bind (f_Rdr_take  186 v10.2) fun v13 => if (v13.1 : Int32) = 0 then (b_Prd_readExpression_75 n pt E T  v13.2) else (Option.bind (f_Pol_append  pt 186 0 v13.2) fun v16 => Option.bind (f_Pol_landHere  pt v8.1 v16.2) fun v18 => Option.bind (E  (x1 + 1) v18) fun v20 => if (v20.1 : Int32) = 0 then (some (0, v20.2)) else (Option.bind (f_Pol_landHere  pt v16.1 v20.2) fun v23 => some (1, v23))))) else (some (0, v1.2))) else (some (1, v1.2)))
set_option maxRecDepth 20000 in
set_option maxHeartbeats 4000000 in
theorem ef_Prd_readExpression {Δ : Dx} {X : Lx} {rl hd ot pt it : Nat} (hX : EX Δ X rl hd ot pt it) {l lE lT : Nat} (hB : 5 ≤ l) (hlE : lE ≤ l) (hlT : lT ≤ l) {E T : RF} (hE : OkE Δ X lE m_Prd_readExpression E) (hT0 : OkE Δ X lT m_Prd_readTerm T) {n : Nat} {x1 : Int32}  {I : IM}  {r : Int32 × IM} (h : f_Prd_readExpression n pt E T x1 I = some r) : Ev Δ (l + 6) m_Prd_readExpression [.ref (Δ.ba + 7), .int x1] (I, X) (some (.int r.1)) (r.2, X) := by
  refine ev_of (by decide) (Nat.le_of_ble_eq_true rfl) (fun Γ hk hR hT => ?_)
  change GG Δ m_Prd_readExpression Γ NN 0 0 (I, X) 0 [some (.ref (Δ.ba + 7)), some (.int (x1)), none, none] []
  unfold f_Prd_readExpression at h
  refine g_aload_n (pc := 0) (dd d_Prd_readExpression 0 rfl) rfl ?_
  refine g_iload_n (pc := 1) (dd d_Prd_readExpression 1 rfl) rfl ?_
  obtain ⟨v1, e2, h⟩ := bnd_e h
  refine g_callV (pc := 2) (dd d_Prd_readExpression 2 rfl) v_Prd_77 oc_Prd rfl (ef_Prd_readParts hX hB hlE hlT hE hT0 e2) rfl (by omega) (Nat.le_of_ble_eq_true rfl) ⟨Nat.zero_le _, Nat.zero_le _⟩ rfl ?_
  refine g_ifne (pc := 5) (tgt := 10) (dd d_Prd_readExpression 3 rfl) (by decide) (fun q3 => ?_) (fun q3 => ?_)
  · replace h := ite_f h q3
    refine g_aload_n (pc := 10) (dd d_Prd_readExpression 6 rfl) rfl ?_
    refine g_getr (pc := 11) (dd d_Prd_readExpression 7 rfl) f_Prd_9 oc_Prd rfl (rx_Prd_0 hX) ?_
    refine g_geti (pc := 14) (dd d_Prd_readExpression 8 rfl) f_Prd_34 oc_Rdr rfl ?_
    refine g_sipush (pc := 17) (v := 191) (dd d_Prd_readExpression 9 rfl) (by decide) ?_
    refine g_icmpeq (pc := 20) (tgt := 25) (dd d_Prd_readExpression 10 rfl) (by decide) (fun q4 => ?_) (fun q4 => ?_)
    · replace h := ite_t h q4
      refine g_iload_n (pc := 25) (dd d_Prd_readExpression 13 rfl) rfl ?_
      refine g_bipush (pc := 26) (v := 10) (dd d_Prd_readExpression 14 rfl) (by decide) ?_
      refine g_icmplt (pc := 28) (tgt := 33) (dd d_Prd_readExpression 15 rfl) (by decide) (fun q5 => ?_) (fun q5 => ?_)
      · replace h := ite_t h q5
        refine g_aload_n (pc := 33) (dd d_Prd_readExpression 18 rfl) rfl ?_
        refine g_getr (pc := 34) (dd d_Prd_readExpression 19 rfl) f_Prd_9 oc_Prd rfl (rx_Prd_0 hX) ?_
        obtain ⟨v6, e7, h⟩ := bnd_e h
        refine g_callV (pc := 37) (dd d_Prd_readExpression 20 rfl) v_Prd_67 oc_Rdr rfl (ef_Rdr_advance hX e7) rfl (by omega) (Nat.le_of_ble_eq_true rfl) ⟨Nat.zero_le _, Nat.zero_le _⟩ rfl ?_
        refine g_aload_n (pc := 40) (dd d_Prd_readExpression 21 rfl) rfl ?_
        refine g_getr (pc := 41) (dd d_Prd_readExpression 22 rfl) f_Prd_18 oc_Prd rfl hX.r_pt ?_
        refine g_sipush (pc := 44) (v := 191) (dd d_Prd_readExpression 23 rfl) (by decide) ?_
        refine g_iconst (pc := 47) (v := 0) (dd d_Prd_readExpression 24 rfl) (by decide) ?_
        obtain ⟨v8, e9, h⟩ := bnd_e h
        refine g_callV (pc := 48) (dd d_Prd_readExpression 25 rfl) v_Prd_73 (oc_Pol hX.i_pt) rfl (ef_Pol_append hX hX.i_pt e9) rfl (by omega) (Nat.le_of_ble_eq_true rfl) ⟨Nat.zero_le _, Nat.zero_le _⟩ rfl ?_
        refine g_istore_n (pc := 51) (dd d_Prd_readExpression 26 rfl) (by decide) ?_
        refine g_aload_n (pc := 52) (dd d_Prd_readExpression 27 rfl) rfl ?_
        refine g_iload_n (pc := 53) (dd d_Prd_readExpression 28 rfl) rfl ?_
        refine g_iconst (pc := 54) (v := 1) (dd d_Prd_readExpression 29 rfl) (by decide) ?_
        refine g_iadd (pc := 55) (dd d_Prd_readExpression 30 rfl) ?_
        obtain ⟨v10, e11, h⟩ := bnd_e h
        refine g_callV (pc := 56) (dd d_Prd_readExpression 31 rfl) v_Prd_70 oc_Prd rfl (hE _ _ _ e11) rfl (by omega) (Nat.le_of_ble_eq_true rfl) ⟨Nat.zero_le _, Nat.zero_le _⟩ rfl ?_
        refine g_ifeq (pc := 59) (tgt := 75) (dd d_Prd_readExpression 32 rfl) (by decide) (fun q12 => ?_) (fun q12 => ?_)
        · replace h := ite_t h q12
          refine g_drop [0, 1, 2] ?_
          exact gb_Prd_readExpression_75 hX hB hlE hlT hE hT0 hk hT  h
        · replace h := ite_f h q12
          refine g_aload_n (pc := 62) (dd d_Prd_readExpression 33 rfl) rfl ?_
          refine g_getr (pc := 63) (dd d_Prd_readExpression 34 rfl) f_Prd_9 oc_Prd rfl (rx_Prd_0 hX) ?_
          refine g_sipush (pc := 66) (v := 186) (dd d_Prd_readExpression 35 rfl) (by decide) ?_
          obtain ⟨v13, e14, h⟩ := bnd_e h
          refine g_callV (pc := 69) (dd d_Prd_readExpression 36 rfl) v_Prd_47 oc_Rdr rfl (ef_Rdr_take hX e14) rfl (by omega) (Nat.le_of_ble_eq_true rfl) ⟨Nat.zero_le _, Nat.zero_le _⟩ rfl ?_
          refine g_ifne (pc := 72) (tgt := 77) (dd d_Prd_readExpression 37 rfl) (by decide) (fun q15 => ?_) (fun q15 => ?_)
          · replace h := ite_f h q15
            refine g_aload_n (pc := 77) (dd d_Prd_readExpression 40 rfl) rfl ?_
            refine g_getr (pc := 78) (dd d_Prd_readExpression 41 rfl) f_Prd_18 oc_Prd rfl hX.r_pt ?_
            refine g_sipush (pc := 81) (v := 186) (dd d_Prd_readExpression 42 rfl) (by decide) ?_
            refine g_iconst (pc := 84) (v := 0) (dd d_Prd_readExpression 43 rfl) (by decide) ?_
            obtain ⟨v16, e17, h⟩ := bnd_e h
            refine g_callV (pc := 85) (dd d_Prd_readExpression 44 rfl) v_Prd_73 (oc_Pol hX.i_pt) rfl (ef_Pol_append hX hX.i_pt e17) rfl (by omega) (Nat.le_of_ble_eq_true rfl) ⟨Nat.zero_le _, Nat.zero_le _⟩ rfl ?_
            refine g_istore_n (pc := 88) (dd d_Prd_readExpression 45 rfl) (by decide) ?_
            refine g_aload_n (pc := 89) (dd d_Prd_readExpression 46 rfl) rfl ?_
            refine g_getr (pc := 90) (dd d_Prd_readExpression 47 rfl) f_Prd_18 oc_Prd rfl hX.r_pt ?_
            refine g_iload_n (pc := 93) (dd d_Prd_readExpression 48 rfl) rfl ?_
            obtain ⟨v18, e19, h⟩ := bnd_e h
            refine g_callV (pc := 94) (dd d_Prd_readExpression 49 rfl) v_Prd_80 (oc_Pol hX.i_pt) rfl (ef_Pol_landHere hX hX.i_pt e19) rfl (by omega) (Nat.le_of_ble_eq_true rfl) ⟨Nat.zero_le _, Nat.zero_le _⟩ rfl ?_
            refine g_aload_n (pc := 97) (dd d_Prd_readExpression 50 rfl) rfl ?_
            refine g_iload_n (pc := 98) (dd d_Prd_readExpression 51 rfl) rfl ?_
            refine g_iconst (pc := 99) (v := 1) (dd d_Prd_readExpression 52 rfl) (by decide) ?_
            refine g_iadd (pc := 100) (dd d_Prd_readExpression 53 rfl) ?_
            obtain ⟨v20, e21, h⟩ := bnd_e h
            refine g_callV (pc := 101) (dd d_Prd_readExpression 54 rfl) v_Prd_70 oc_Prd rfl (hE _ _ _ e21) rfl (by omega) (Nat.le_of_ble_eq_true rfl) ⟨Nat.zero_le _, Nat.zero_le _⟩ rfl ?_
            refine g_ifne (pc := 104) (tgt := 109) (dd d_Prd_readExpression 55 rfl) (by decide) (fun q22 => ?_) (fun q22 => ?_)
            · replace h := ite_f h q22
              refine g_aload_n (pc := 109) (dd d_Prd_readExpression 58 rfl) rfl ?_
              refine g_getr (pc := 110) (dd d_Prd_readExpression 59 rfl) f_Prd_18 oc_Prd rfl hX.r_pt ?_
              refine g_iload_n (pc := 113) (dd d_Prd_readExpression_1 0 rfl) rfl ?_
              obtain ⟨v23, e24, h⟩ := bnd_e h
              refine g_callV (pc := 114) (dd d_Prd_readExpression_1 1 rfl) v_Prd_80 (oc_Pol hX.i_pt) rfl (ef_Pol_landHere hX hX.i_pt e24) rfl (by omega) (Nat.le_of_ble_eq_true rfl) ⟨Nat.zero_le _, Nat.zero_le _⟩ rfl ?_
              refine g_iconst (pc := 117) (v := 1) (dd d_Prd_readExpression_1 2 rfl) (by decide) ?_
              cases h
              exact g_zret (pc := 118) rfl (by decide) (dd d_Prd_readExpression_1 3 rfl) hT
            · replace h := ite_t h q22
              refine g_iconst (pc := 107) (v := 0) (dd d_Prd_readExpression 56 rfl) (by decide) ?_
              cases h
              exact g_zret (pc := 108) rfl (by decide) (dd d_Prd_readExpression 57 rfl) hT
          · replace h := ite_t h q15
            refine g_drop [0, 1, 2] ?_
            exact gb_Prd_readExpression_75 hX hB hlE hlT hE hT0 hk hT  h
      · replace h := ite_f h q5
        refine g_iconst (pc := 31) (v := 0) (dd d_Prd_readExpression 16 rfl) (by decide) ?_
        cases h
        exact g_zret (pc := 32) rfl (by decide) (dd d_Prd_readExpression 17 rfl) hT
    · replace h := ite_f h q4
      refine g_iconst (pc := 23) (v := 1) (dd d_Prd_readExpression 11 rfl) (by decide) ?_
      cases h
      exact g_zret (pc := 24) rfl (by decide) (dd d_Prd_readExpression 12 rfl) hT
  · replace h := ite_t h q3
    refine g_iconst (pc := 8) (v := 0) (dd d_Prd_readExpression 4 rfl) (by decide) ?_
    cases h
    exact g_zret (pc := 9) rfl (by decide) (dd d_Prd_readExpression 5 rfl) hT
def recP (n pt : Nat) : Nat → RF × RF
  | 0 => (fun _ _ => none, fun _ _ => none)
  | d + 1 => (f_Prd_readExpression n pt (recP n pt d).1 (recP n pt d).2, f_Prd_readTerm pt (recP n pt d).1 (recP n pt d).2)
theorem ok_recP {Δ : Dx} {X : Lx} {rl hd ot pt it : Nat} (hX : EX Δ X rl hd ot pt it) (n : Nat) : ∀ d : Nat, OkE Δ X (5 + 6 * d) m_Prd_readExpression (recP n pt d).1 ∧ ∃ lT, lT ≤ 5 + 6 * d ∧ OkE Δ X lT m_Prd_readTerm (recP n pt d).2
  | 0 => ⟨(fun _ _ _ h => by cases h), 0, by omega, (fun _ _ _ h => by cases h)⟩
  | d + 1 => by
    obtain ⟨hE, lT, hlT, hT0⟩ := ok_recP hX n d
    refine ⟨fun x I r h => ?_, 5 + 6 * d + 3, by omega, fun x I r h => ?_⟩
    · exact ef_Prd_readExpression hX (l := 5 + 6 * d) (by omega) (Nat.le_refl _) hlT hE hT0 h
    · exact ef_Prd_readTerm hX (l := 5 + 6 * d) (by omega) (Nat.le_refl _) hlT hE hT0 h
def f_Prd_rdE (n pt : Nat) (x1 : Int32) (I : IM) : Option (Int32 × IM) := (recP n pt 11).1 x1 I
theorem ef_Prd_rdE {Δ : Dx} {X : Lx} {rl hd ot pt it : Nat} (hX : EX Δ X rl hd ot pt it) {n : Nat} {x1 : Int32} {I : IM} {r : Int32 × IM} (h : f_Prd_rdE n pt x1 I = some r) : Ev Δ 71 m_Prd_readExpression [.ref (Δ.ba + 7), .int x1] (I, X) (some (.int r.1)) (r.2, X) := (ok_recP hX n 11).1 x1 I r h
def b_Prd_readStatement_28 (n : Nat) (pt : Nat)   (I : IM) : Option (Int32 × IM) := some (0, I)
set_option maxRecDepth 20000 in
set_option maxHeartbeats 4000000 in
theorem gb_Prd_readStatement_28 {Δ : Dx} {X : Lx} {rl hd ot pt it : Nat} (hX : EX Δ X rl hd ot pt it)   {n : Nat} {Γ : Cx} (hk : Γ.k = 72) {r : Int32 × IM} (hT : Tg Δ Γ (some (.int r.1)) NN (r.2, X) 0 0)   {I : IM} (h : b_Prd_readStatement_28 n pt   I = some r) : GG Δ m_Prd_readStatement Γ NN 0 0 (I, X) 28 [none, none, none, none] [] := by
  unfold b_Prd_readStatement_28 at h
  refine g_iconst (pc := 28) (v := 0) (dd d_Prd_readStatement 14 rfl) (by decide) ?_
  cases h
  exact g_zret (pc := 29) rfl (by decide) (dd d_Prd_readStatement 15 rfl) hT
def b_Prd_readStatement_92 (n : Nat) (pt : Nat)  (x1 : Int32) (x2 : Int32) (I : IM) : Option (Int32 × IM) := Option.bind (f_Prd_rdE n pt 0 I) fun v12 => if (v12.1 : Int32) = 0 then (some (0, v12.2)) else (Option.bind (f_Pol_append  pt x1 x2 v12.2) fun v15 => Option.bind (f_Rdr_take  187 v15.2) fun v17 => chk ((v17.1 : Int32) = 0 ∨ (v17.1 : Int32) = 1) <| some (v17.1, v17.2))
set_option maxRecDepth 20000 in
set_option maxHeartbeats 4000000 in
theorem gb_Prd_readStatement_92 {Δ : Dx} {X : Lx} {rl hd ot pt it : Nat} (hX : EX Δ X rl hd ot pt it)   {n : Nat} {Γ : Cx} (hk : Γ.k = 72) {r : Int32 × IM} (hT : Tg Δ Γ (some (.int r.1)) NN (r.2, X) 0 0)  {x1 : Int32} {x2 : Int32} {I : IM} (h : b_Prd_readStatement_92 n pt  x1 x2 I = some r) : GG Δ m_Prd_readStatement Γ NN 0 0 (I, X) 92 [some (.ref (Δ.ba + 7)), some (.int (x1)), some (.int (x2)), none] [] := by
  unfold b_Prd_readStatement_92 at h
  refine g_aload_n (pc := 92) (dd d_Prd_readStatement 51 rfl) rfl ?_
  refine g_iconst (pc := 93) (v := 0) (dd d_Prd_readStatement 52 rfl) (by decide) ?_
  obtain ⟨v12, e13, h⟩ := bnd_e h
  refine g_callV (pc := 94) (dd d_Prd_readStatement 53 rfl) v_Prd_70 oc_Prd rfl (ef_Prd_rdE hX e13) rfl (by omega) (Nat.le_of_ble_eq_true rfl) ⟨Nat.zero_le _, Nat.zero_le _⟩ rfl ?_
  refine g_ifne (pc := 97) (tgt := 102) (dd d_Prd_readStatement 54 rfl) (by decide) (fun q14 => ?_) (fun q14 => ?_)
  · replace h := ite_f h q14
    refine g_aload_n (pc := 102) (dd d_Prd_readStatement 57 rfl) rfl ?_
    refine g_getr (pc := 103) (dd d_Prd_readStatement 58 rfl) f_Prd_18 oc_Prd rfl hX.r_pt ?_
    refine g_iload_n (pc := 106) (dd d_Prd_readStatement 59 rfl) rfl ?_
    refine g_iload_n (pc := 107) (dd d_Prd_readStatement_1 0 rfl) rfl ?_
    obtain ⟨v15, e16, h⟩ := bnd_e h
    refine g_callV (pc := 108) (dd d_Prd_readStatement_1 1 rfl) v_Prd_73 (oc_Pol hX.i_pt) rfl (ef_Pol_append hX hX.i_pt e16) rfl (by omega) (Nat.le_of_ble_eq_true rfl) ⟨Nat.zero_le _, Nat.zero_le _⟩ rfl ?_
    refine g_pop (pc := 111) (dd d_Prd_readStatement_1 2 rfl) rfl ?_
    refine g_aload_n (pc := 112) (dd d_Prd_readStatement_1 3 rfl) rfl ?_
    refine g_getr (pc := 113) (dd d_Prd_readStatement_1 4 rfl) f_Prd_9 oc_Prd rfl (rx_Prd_0 hX) ?_
    refine g_sipush (pc := 116) (v := 187) (dd d_Prd_readStatement_1 5 rfl) (by decide) ?_
    obtain ⟨v17, e18, h⟩ := bnd_e h
    refine g_callV (pc := 119) (dd d_Prd_readStatement_1 6 rfl) v_Prd_47 oc_Rdr rfl (ef_Rdr_take hX e18) rfl (by omega) (Nat.le_of_ble_eq_true rfl) ⟨Nat.zero_le _, Nat.zero_le _⟩ rfl ?_
    obtain ⟨c19, h⟩ := chk_e h
    cases h
    exact g_zret (pc := 122) rfl c19 (dd d_Prd_readStatement_1 7 rfl) hT
  · replace h := ite_t h q14
    refine g_iconst (pc := 100) (v := 0) (dd d_Prd_readStatement 55 rfl) (by decide) ?_
    cases h
    exact g_zret (pc := 101) rfl (by decide) (dd d_Prd_readStatement 56 rfl) hT
def b_Prd_readStatement_64 (n : Nat) (pt : Nat)  (x1 : Int32) (x2 : Int32) (I : IM) : Option (Int32 × IM) := Option.bind (f_Rdr_advance   I) fun v6 => if x1 = (41 : Int32) then (b_Prd_readStatement_92 n pt  x1 x2 v6) else (Option.bind (f_Rdr_take  189 v6) fun v9 => if (v9.1 : Int32) = 0 then (some (0, v9.2)) else (b_Prd_readStatement_92 n pt  x1 x2 v9.2))
set_option maxRecDepth 20000 in
set_option maxHeartbeats 4000000 in
theorem gb_Prd_readStatement_64 {Δ : Dx} {X : Lx} {rl hd ot pt it : Nat} (hX : EX Δ X rl hd ot pt it)   {n : Nat} {Γ : Cx} (hk : Γ.k = 72) {r : Int32 × IM} (hT : Tg Δ Γ (some (.int r.1)) NN (r.2, X) 0 0)  {x1 : Int32} {x2 : Int32} {I : IM} (h : b_Prd_readStatement_64 n pt  x1 x2 I = some r) : GG Δ m_Prd_readStatement Γ NN 0 0 (I, X) 64 [some (.ref (Δ.ba + 7)), some (.int (x1)), some (.int (x2)), none] [] := by
  unfold b_Prd_readStatement_64 at h
  refine g_aload_n (pc := 64) (dd d_Prd_readStatement 38 rfl) rfl ?_
  refine g_getr (pc := 65) (dd d_Prd_readStatement 39 rfl) f_Prd_9 oc_Prd rfl (rx_Prd_0 hX) ?_
  obtain ⟨v6, e7, h⟩ := bnd_e h
  refine g_callV (pc := 68) (dd d_Prd_readStatement 40 rfl) v_Prd_67 oc_Rdr rfl (ef_Rdr_advance hX e7) rfl (by omega) (Nat.le_of_ble_eq_true rfl) ⟨Nat.zero_le _, Nat.zero_le _⟩ rfl ?_
  refine g_iload_n (pc := 71) (dd d_Prd_readStatement 41 rfl) rfl ?_
  refine g_bipush (pc := 72) (v := 41) (dd d_Prd_readStatement 42 rfl) (by decide) ?_
  refine g_icmpeq (pc := 74) (tgt := 92) (dd d_Prd_readStatement 43 rfl) (by decide) (fun q8 => ?_) (fun q8 => ?_)
  · replace h := ite_t h q8
    exact gb_Prd_readStatement_92 hX hk hT  h
  · replace h := ite_f h q8
    refine g_aload_n (pc := 77) (dd d_Prd_readStatement 44 rfl) rfl ?_
    refine g_getr (pc := 78) (dd d_Prd_readStatement 45 rfl) f_Prd_9 oc_Prd rfl (rx_Prd_0 hX) ?_
    refine g_sipush (pc := 81) (v := 189) (dd d_Prd_readStatement 46 rfl) (by decide) ?_
    obtain ⟨v9, e10, h⟩ := bnd_e h
    refine g_callV (pc := 84) (dd d_Prd_readStatement 47 rfl) v_Prd_47 oc_Rdr rfl (ef_Rdr_take hX e10) rfl (by omega) (Nat.le_of_ble_eq_true rfl) ⟨Nat.zero_le _, Nat.zero_le _⟩ rfl ?_
    refine g_ifne (pc := 87) (tgt := 92) (dd d_Prd_readStatement 48 rfl) (by decide) (fun q11 => ?_) (fun q11 => ?_)
    · replace h := ite_f h q11
      exact gb_Prd_readStatement_92 hX hk hT  h
    · replace h := ite_t h q11
      refine g_iconst (pc := 90) (v := 0) (dd d_Prd_readStatement 49 rfl) (by decide) ?_
      cases h
      exact g_zret (pc := 91) rfl (by decide) (dd d_Prd_readStatement 50 rfl) hT
def f_Prd_readStatement (n : Nat) (pt : Nat) (I : IM) : Option (Int32 × IM) := if (I 1 1 : Int32) < (41 : Int32) then (b_Prd_readStatement_28 n pt  I) else (if (I 1 1 : Int32) ≤ (44 : Int32) then (if (I 1 1 : Int32) = (41 : Int32) then (b_Prd_readStatement_64 n pt  (I 1 1) (I 1 2) I) else (if ((I 7 4) &&& ((1 : Int32) <<< (((I 1 1) - 42 : Int32) &&& 31)) : Int32) = 0 then (lt (up I 7 4 ((I 7 4) ||| ((1 : Int32) <<< (((I 1 1) - 42 : Int32) &&& 31)))) fun I5 => b_Prd_readStatement_64 n pt  (I 1 1) (I 1 2) I5) else (some (0, I)))) else (b_Prd_readStatement_28 n pt  I))
set_option maxRecDepth 20000 in
set_option maxHeartbeats 4000000 in
theorem ef_Prd_readStatement {Δ : Dx} {X : Lx} {rl hd ot pt it : Nat} (hX : EX Δ X rl hd ot pt it) {n : Nat}  {I : IM}  {r : Int32 × IM} (h : f_Prd_readStatement n pt I = some r) : Ev Δ (72) m_Prd_readStatement [.ref (Δ.ba + 7)] (I, X) (some (.int r.1)) (r.2, X) := by
  refine ev_of (by decide) (Nat.le_of_ble_eq_true rfl) (fun Γ hk hR hT => ?_)
  change GG Δ m_Prd_readStatement Γ NN 0 0 (I, X) 0 [some (.ref (Δ.ba + 7)), none, none, none] []
  unfold f_Prd_readStatement at h
  refine g_aload_n (pc := 0) (dd d_Prd_readStatement 0 rfl) rfl ?_
  refine g_getr (pc := 1) (dd d_Prd_readStatement 1 rfl) f_Prd_9 oc_Prd rfl (rx_Prd_0 hX) ?_
  refine g_geti (pc := 4) (dd d_Prd_readStatement 2 rfl) f_Prd_34 oc_Rdr rfl ?_
  refine g_istore_n (pc := 7) (dd d_Prd_readStatement 3 rfl) (by decide) ?_
  refine g_aload_n (pc := 8) (dd d_Prd_readStatement 4 rfl) rfl ?_
  refine g_getr (pc := 9) (dd d_Prd_readStatement 5 rfl) f_Prd_9 oc_Prd rfl (rx_Prd_0 hX) ?_
  refine g_geti (pc := 12) (dd d_Prd_readStatement 6 rfl) f_Prd_41 oc_Rdr rfl ?_
  refine g_istore_n (pc := 15) (dd d_Prd_readStatement 7 rfl) (by decide) ?_
  refine g_iload_n (pc := 16) (dd d_Prd_readStatement 8 rfl) rfl ?_
  refine g_bipush (pc := 17) (v := 41) (dd d_Prd_readStatement 9 rfl) (by decide) ?_
  refine g_icmplt (pc := 19) (tgt := 28) (dd d_Prd_readStatement 10 rfl) (by decide) (fun q1 => ?_) (fun q1 => ?_)
  · replace h := ite_t h q1
    refine g_drop [0, 1, 2] ?_
    exact gb_Prd_readStatement_28 hX hk hT  h
  · replace h := ite_f h q1
    refine g_iload_n (pc := 22) (dd d_Prd_readStatement 11 rfl) rfl ?_
    refine g_bipush (pc := 23) (v := 44) (dd d_Prd_readStatement 12 rfl) (by decide) ?_
    refine g_icmple (pc := 25) (tgt := 30) (dd d_Prd_readStatement 13 rfl) (by decide) (fun q2 => ?_) (fun q2 => ?_)
    · replace h := ite_t h q2
      refine g_iload_n (pc := 30) (dd d_Prd_readStatement 16 rfl) rfl ?_
      refine g_bipush (pc := 31) (v := 41) (dd d_Prd_readStatement 17 rfl) (by decide) ?_
      refine g_icmpeq (pc := 33) (tgt := 64) (dd d_Prd_readStatement 18 rfl) (by decide) (fun q3 => ?_) (fun q3 => ?_)
      · replace h := ite_t h q3
        exact gb_Prd_readStatement_64 hX hk hT  h
      · replace h := ite_f h q3
        refine g_iconst (pc := 36) (v := 1) (dd d_Prd_readStatement 19 rfl) (by decide) ?_
        refine g_iload_n (pc := 37) (dd d_Prd_readStatement 20 rfl) rfl ?_
        refine g_bipush (pc := 38) (v := 42) (dd d_Prd_readStatement 21 rfl) (by decide) ?_
        refine g_isub (pc := 40) (dd d_Prd_readStatement 22 rfl) ?_
        refine g_ishl (pc := 41) (dd d_Prd_readStatement 23 rfl) ?_
        refine g_istore_n (pc := 42) (dd d_Prd_readStatement 24 rfl) (by decide) ?_
        refine g_aload_n (pc := 43) (dd d_Prd_readStatement 25 rfl) rfl ?_
        refine g_geti (pc := 44) (dd d_Prd_readStatement 26 rfl) f_Prd_57 oc_Prd rfl ?_
        refine g_iload_n (pc := 47) (dd d_Prd_readStatement 27 rfl) rfl ?_
        refine g_iand (pc := 48) (dd d_Prd_readStatement 28 rfl) ?_
        refine g_ifeq (pc := 49) (tgt := 54) (dd d_Prd_readStatement 29 rfl) (by decide) (fun q4 => ?_) (fun q4 => ?_)
        · replace h := ite_t h q4
          refine g_aload_n (pc := 54) (dd d_Prd_readStatement 32 rfl) rfl ?_
          refine g_dup (pc := 55) (dd d_Prd_readStatement 33 rfl) rfl ?_
          refine g_geti (pc := 56) (dd d_Prd_readStatement 34 rfl) f_Prd_57 oc_Prd rfl ?_
          refine g_iload_n (pc := 59) (dd d_Prd_readStatement 35 rfl) rfl ?_
          refine g_ior (pc := 60) (dd d_Prd_readStatement 36 rfl) ?_
          refine g_putiN (pc := 61) (dd d_Prd_readStatement 37 rfl) f_Prd_57 fm_Prd_4 oc_Prd rfl (fun I5 hI5 => ?_)
          replace h := lt_e h hI5
          refine g_drop [3] ?_
          exact gb_Prd_readStatement_64 hX hk hT  h
        · replace h := ite_f h q4
          refine g_iconst (pc := 52) (v := 0) (dd d_Prd_readStatement 30 rfl) (by decide) ?_
          cases h
          exact g_zret (pc := 53) rfl (by decide) (dd d_Prd_readStatement 31 rfl) hT
    · replace h := ite_f h q2
      refine g_drop [0, 1, 2] ?_
      exact gb_Prd_readStatement_28 hX hk hT  h
def b_Prd_readRule_25 (n : Nat) (pt : Nat)   (I : IM) : Option (Int32 × IM) := some (0, I)
set_option maxRecDepth 20000 in
set_option maxHeartbeats 4000000 in
theorem gb_Prd_readRule_25 {Δ : Dx} {X : Lx} {rl hd ot pt it : Nat} (hX : EX Δ X rl hd ot pt it)   {n : Nat} {Γ : Cx} (hk : Γ.k = 73) {r : Int32 × IM} (hT : Tg Δ Γ (some (.int r.1)) NN (r.2, X) 0 0)   {I : IM} (h : b_Prd_readRule_25 n pt   I = some r) : GG Δ m_Prd_readRule Γ NN 0 0 (I, X) 25 [none, none, none, none] [] := by
  unfold b_Prd_readRule_25 at h
  refine g_iconst (pc := 25) (v := 0) (dd d_Prd_readRule 11 rfl) (by decide) ?_
  cases h
  exact g_zret (pc := 26) rfl (by decide) (dd d_Prd_readRule 12 rfl) hT
def b_Prd_readRule_93 (n : Nat) (pt : Nat)  (x1 : Int32) (x2 : Int32) (I : IM) : Option (Int32 × IM) := Option.bind (f_Pol_addRule n pt ((I 7 2) &&& (x1 ^^^ (-1))) x2 (I 7 3) (I 7 4) I) fun v15 => some (1, v15)
set_option maxRecDepth 20000 in
set_option maxHeartbeats 4000000 in
theorem gb_Prd_readRule_93 {Δ : Dx} {X : Lx} {rl hd ot pt it : Nat} (hX : EX Δ X rl hd ot pt it)   {n : Nat} {Γ : Cx} (hk : Γ.k = 73) {r : Int32 × IM} (hT : Tg Δ Γ (some (.int r.1)) NN (r.2, X) 0 0)  {x1 : Int32} {x2 : Int32} {I : IM} (h : b_Prd_readRule_93 n pt  x1 x2 I = some r) : GG Δ m_Prd_readRule Γ NN 0 0 (I, X) 93 [some (.ref (Δ.ba + 7)), some (.int (x1)), some (.int (x2)), none] [] := by
  unfold b_Prd_readRule_93 at h
  refine g_aload_n (pc := 93) (dd d_Prd_readRule 45 rfl) rfl ?_
  refine g_getr (pc := 94) (dd d_Prd_readRule 46 rfl) f_Prd_18 oc_Prd rfl hX.r_pt ?_
  refine g_aload_n (pc := 97) (dd d_Prd_readRule 47 rfl) rfl ?_
  refine g_geti (pc := 98) (dd d_Prd_readRule 48 rfl) f_Prd_25 oc_Prd rfl ?_
  refine g_iload_n (pc := 101) (dd d_Prd_readRule 49 rfl) rfl ?_
  refine g_iconst (pc := 102) (v := (-1)) (dd d_Prd_readRule 50 rfl) (by decide) ?_
  refine g_ixor (pc := 103) (dd d_Prd_readRule 51 rfl) ?_
  refine g_iand (pc := 104) (dd d_Prd_readRule 52 rfl) ?_
  refine g_iload_n (pc := 105) (dd d_Prd_readRule 53 rfl) rfl ?_
  refine g_aload_n (pc := 106) (dd d_Prd_readRule 54 rfl) rfl ?_
  refine g_geti (pc := 107) (dd d_Prd_readRule 55 rfl) f_Prd_54 oc_Prd rfl ?_
  refine g_aload_n (pc := 110) (dd d_Prd_readRule 56 rfl) rfl ?_
  refine g_geti (pc := 111) (dd d_Prd_readRule 57 rfl) f_Prd_57 oc_Prd rfl ?_
  obtain ⟨v15, e16, h⟩ := bnd_e h
  refine g_callV (pc := 114) (dd d_Prd_readRule 58 rfl) v_Prd_63 (oc_Pol hX.i_pt) rfl (ef_Pol_addRule hX hX.i_pt e16) rfl (by omega) (Nat.le_of_ble_eq_true rfl) ⟨Nat.zero_le _, Nat.zero_le _⟩ rfl ?_
  refine g_iconst (pc := 117) (v := 1) (dd d_Prd_readRule 59 rfl) (by decide) ?_
  cases h
  exact g_zret (pc := 118) rfl (by decide) (dd d_Prd_readRule_1 0 rfl) hT
def l_Prd_readRule_47 (n : Nat) (pt : Nat)  : Nat → Int32 → Int32 → Int32 → IM → Option (Int32 × IM)
  | 0, _, _, _, _ => none
  | f + 1, x1, x2, x3, I => if (900 : Int32) ≤ x3 then (b_Prd_readRule_93 n pt  x1 x2 I) else (if (I 1 1 : Int32) < (22 : Int32) then (b_Prd_readRule_93 n pt  x1 x2 I) else (if (I 1 1 : Int32) = (100 : Int32) then (b_Prd_readRule_93 n pt  x1 x2 I) else (Option.bind (f_Prd_readStatement n pt I) fun v12 => if (v12.1 : Int32) = 0 then (some (0, v12.2)) else ((l_Prd_readRule_47 n pt  f) x1 x2 (x3 + 1) v12.2))))
set_option maxRecDepth 20000 in
set_option maxHeartbeats 4000000 in
theorem gl_Prd_readRule_47 {Δ : Dx} {X : Lx} {rl hd ot pt it : Nat} (hX : EX Δ X rl hd ot pt it)   {n : Nat} {Γ : Cx} (hk : Γ.k = 73) {r : Int32 × IM} (hT : Tg Δ Γ (some (.int r.1)) NN (r.2, X) 0 0)  : ∀ (f : Nat) (x1 : Int32) (x2 : Int32) (x3 : Int32) (I : IM), l_Prd_readRule_47 n pt  f x1 x2 x3 I = some r → GG Δ m_Prd_readRule Γ NN 0 0 (I, X) 47 [some (.ref (Δ.ba + 7)), some (.int (x1)), some (.int (x2)), some (.int (x3))] []
  | 0, _, _, _, _, h => by cases h
  | f + 1, x1, x2, x3, I, h => by
    have ih := gl_Prd_readRule_47 (n := n) hX hk hT  f
    rw [l_Prd_readRule_47] at h
    refine g_iload_n (pc := 47) (dd d_Prd_readRule 25 rfl) rfl ?_
    refine g_sipush (pc := 48) (v := 900) (dd d_Prd_readRule 26 rfl) (by decide) ?_
    refine g_icmpge (pc := 51) (tgt := 93) (dd d_Prd_readRule 27 rfl) (by decide) (fun q9 => ?_) (fun q9 => ?_)
    · replace h := ite_t h q9
      refine g_drop [3] ?_
      exact gb_Prd_readRule_93 hX hk hT  h
    · replace h := ite_f h q9
      refine g_aload_n (pc := 54) (dd d_Prd_readRule 28 rfl) rfl ?_
      refine g_getr (pc := 55) (dd d_Prd_readRule 29 rfl) f_Prd_9 oc_Prd rfl (rx_Prd_0 hX) ?_
      refine g_geti (pc := 58) (dd d_Prd_readRule 30 rfl) f_Prd_34 oc_Rdr rfl ?_
      refine g_bipush (pc := 61) (v := 22) (dd d_Prd_readRule 31 rfl) (by decide) ?_
      refine g_icmplt (pc := 63) (tgt := 93) (dd d_Prd_readRule 32 rfl) (by decide) (fun q10 => ?_) (fun q10 => ?_)
      · replace h := ite_t h q10
        refine g_drop [3] ?_
        exact gb_Prd_readRule_93 hX hk hT  h
      · replace h := ite_f h q10
        refine g_aload_n (pc := 66) (dd d_Prd_readRule 33 rfl) rfl ?_
        refine g_getr (pc := 67) (dd d_Prd_readRule 34 rfl) f_Prd_9 oc_Prd rfl (rx_Prd_0 hX) ?_
        refine g_geti (pc := 70) (dd d_Prd_readRule 35 rfl) f_Prd_34 oc_Rdr rfl ?_
        refine g_bipush (pc := 73) (v := 100) (dd d_Prd_readRule 36 rfl) (by decide) ?_
        refine g_icmpeq (pc := 75) (tgt := 93) (dd d_Prd_readRule 37 rfl) (by decide) (fun q11 => ?_) (fun q11 => ?_)
        · replace h := ite_t h q11
          refine g_drop [3] ?_
          exact gb_Prd_readRule_93 hX hk hT  h
        · replace h := ite_f h q11
          refine g_aload_n (pc := 78) (dd d_Prd_readRule 38 rfl) rfl ?_
          obtain ⟨v12, e13, h⟩ := bnd_e h
          refine g_callV (pc := 79) (dd d_Prd_readRule 39 rfl) v_Prd_60 oc_Prd rfl (ef_Prd_readStatement hX e13) rfl (by omega) (Nat.le_of_ble_eq_true rfl) ⟨Nat.zero_le _, Nat.zero_le _⟩ rfl ?_
          refine g_ifne (pc := 82) (tgt := 87) (dd d_Prd_readRule 40 rfl) (by decide) (fun q14 => ?_) (fun q14 => ?_)
          · replace h := ite_f h q14
            refine g_iincW (pc := 87) (w := 1) (dd d_Prd_readRule 43 rfl) rfl (by decide) (by decide) ?_
            refine g_goto (pc := 90) (tgt := 47) (dd d_Prd_readRule 44 rfl) (by decide) ?_
            exact ih _ _ _ _ h
          · replace h := ite_t h q14
            refine g_iconst (pc := 85) (v := 0) (dd d_Prd_readRule 41 rfl) (by decide) ?_
            cases h
            exact g_zret (pc := 86) rfl (by decide) (dd d_Prd_readRule 42 rfl) hT
def f_Prd_readRule (n : Nat) (pt : Nat) (I : IM) : Option (Int32 × IM) := Option.bind (f_Prd_readKinds n  I) fun v1 => if (v1.1 : Int32) = 0 then (b_Prd_readRule_25 n pt  v1.2) else (Option.bind (f_Rdr_take  186 v1.2) fun v4 => if (v4.1 : Int32) = 0 then (b_Prd_readRule_25 n pt  v4.2) else (lt (up v4.2 7 3 (0)) fun I7 => lt (up I7 7 4 (0)) fun I8 => l_Prd_readRule_47 n pt  n (I 7 2) (v4.2 pt 0) 0 I8))
set_option maxRecDepth 20000 in
set_option maxHeartbeats 4000000 in
theorem ef_Prd_readRule {Δ : Dx} {X : Lx} {rl hd ot pt it : Nat} (hX : EX Δ X rl hd ot pt it) {n : Nat}  {I : IM}  {r : Int32 × IM} (h : f_Prd_readRule n pt I = some r) : Ev Δ (73) m_Prd_readRule [.ref (Δ.ba + 7)] (I, X) (some (.int r.1)) (r.2, X) := by
  refine ev_of (by decide) (Nat.le_of_ble_eq_true rfl) (fun Γ hk hR hT => ?_)
  change GG Δ m_Prd_readRule Γ NN 0 0 (I, X) 0 [some (.ref (Δ.ba + 7)), none, none, none] []
  unfold f_Prd_readRule at h
  refine g_aload_n (pc := 0) (dd d_Prd_readRule 0 rfl) rfl ?_
  refine g_geti (pc := 1) (dd d_Prd_readRule 1 rfl) f_Prd_25 oc_Prd rfl ?_
  refine g_istore_n (pc := 4) (dd d_Prd_readRule 2 rfl) (by decide) ?_
  refine g_aload_n (pc := 5) (dd d_Prd_readRule 3 rfl) rfl ?_
  obtain ⟨v1, e2, h⟩ := bnd_e h
  refine g_callV (pc := 6) (dd d_Prd_readRule 4 rfl) v_Prd_44 oc_Prd rfl (ef_Prd_readKinds hX e2) rfl (by omega) (Nat.le_of_ble_eq_true rfl) ⟨Nat.zero_le _, Nat.zero_le _⟩ rfl ?_
  refine g_ifeq (pc := 9) (tgt := 25) (dd d_Prd_readRule 5 rfl) (by decide) (fun q3 => ?_) (fun q3 => ?_)
  · replace h := ite_t h q3
    refine g_drop [0, 1] ?_
    exact gb_Prd_readRule_25 hX hk hT  h
  · replace h := ite_f h q3
    refine g_aload_n (pc := 12) (dd d_Prd_readRule 6 rfl) rfl ?_
    refine g_getr (pc := 13) (dd d_Prd_readRule 7 rfl) f_Prd_9 oc_Prd rfl (rx_Prd_0 hX) ?_
    refine g_sipush (pc := 16) (v := 186) (dd d_Prd_readRule 8 rfl) (by decide) ?_
    obtain ⟨v4, e5, h⟩ := bnd_e h
    refine g_callV (pc := 19) (dd d_Prd_readRule 9 rfl) v_Prd_47 oc_Rdr rfl (ef_Rdr_take hX e5) rfl (by omega) (Nat.le_of_ble_eq_true rfl) ⟨Nat.zero_le _, Nat.zero_le _⟩ rfl ?_
    refine g_ifne (pc := 22) (tgt := 27) (dd d_Prd_readRule 10 rfl) (by decide) (fun q6 => ?_) (fun q6 => ?_)
    · replace h := ite_f h q6
      refine g_aload_n (pc := 27) (dd d_Prd_readRule 13 rfl) rfl ?_
      refine g_getr (pc := 28) (dd d_Prd_readRule 14 rfl) f_Prd_18 oc_Prd rfl hX.r_pt ?_
      refine g_geti (pc := 31) (dd d_Prd_readRule 15 rfl) f_Prd_51 (oc_Pol hX.i_pt) rfl ?_
      refine g_istore_n (pc := 34) (dd d_Prd_readRule 16 rfl) (by decide) ?_
      refine g_aload_n (pc := 35) (dd d_Prd_readRule 17 rfl) rfl ?_
      refine g_iconst (pc := 36) (v := 0) (dd d_Prd_readRule 18 rfl) (by decide) ?_
      refine g_putiN (pc := 37) (dd d_Prd_readRule 19 rfl) f_Prd_54 fm_Prd_3 oc_Prd rfl (fun I7 hI7 => ?_)
      replace h := lt_e h hI7
      refine g_aload_n (pc := 40) (dd d_Prd_readRule 20 rfl) rfl ?_
      refine g_iconst (pc := 41) (v := 0) (dd d_Prd_readRule 21 rfl) (by decide) ?_
      refine g_putiN (pc := 42) (dd d_Prd_readRule 22 rfl) f_Prd_57 fm_Prd_4 oc_Prd rfl (fun I8 hI8 => ?_)
      replace h := lt_e h hI8
      refine g_iconst (pc := 45) (v := 0) (dd d_Prd_readRule 23 rfl) (by decide) ?_
      refine g_istore_n (pc := 46) (dd d_Prd_readRule 24 rfl) (by decide) ?_
      exact gl_Prd_readRule_47 hX hk hT  _ _ _ _ _ h
    · replace h := ite_t h q6
      refine g_drop [0, 1] ?_
      exact gb_Prd_readRule_25 hX hk hT  h
def b_Prd_read_83 (n : Nat) (pt : Nat) (J : JM)  (y0 : Int32) (I : IM) : Option (Int32 × IM) := some (y0, I)
set_option maxRecDepth 20000 in
set_option maxHeartbeats 4000000 in
theorem gb_Prd_read_83 {Δ : Dx} {X : Lx} {rl hd ot pt it : Nat} (hX : EX Δ X rl hd ot pt it)   {n : Nat} {Γ : Cx} (hk : Γ.k = 74) {r : Int32 × IM} (hT : Tg Δ Γ (some (.int r.1)) NN (r.2, X) 0 0)  {y0 : Int32} {I : IM} (h : b_Prd_read_83 n pt X.1  y0 I = some r) : GG Δ m_Prd_read Γ NN 0 0 (I, X) 83 [none, none] [.int (y0)] := by
  unfold b_Prd_read_83 at h
  cases h
  exact g_iret (pc := 83) rfl (dd d_Prd_read 38 rfl) hT
def b_Prd_read_60 (n : Nat) (pt : Nat) (J : JM)   (I : IM) : Option (Int32 × IM) := if (I 1 1 : Int32) = (100 : Int32) then (b_Prd_read_83 n pt J  (-1) I) else (b_Prd_read_83 n pt J  (I 1 2) I)
set_option maxRecDepth 20000 in
set_option maxHeartbeats 4000000 in
theorem gb_Prd_read_60 {Δ : Dx} {X : Lx} {rl hd ot pt it : Nat} (hX : EX Δ X rl hd ot pt it)   {n : Nat} {Γ : Cx} (hk : Γ.k = 74) {r : Int32 × IM} (hT : Tg Δ Γ (some (.int r.1)) NN (r.2, X) 0 0)   {I : IM} (h : b_Prd_read_60 n pt X.1   I = some r) : GG Δ m_Prd_read Γ NN 0 0 (I, X) 60 [some (.ref (Δ.ba + 7)), none] [] := by
  unfold b_Prd_read_60 at h
  refine g_aload_n (pc := 60) (dd d_Prd_read 28 rfl) rfl ?_
  refine g_getr (pc := 61) (dd d_Prd_read 29 rfl) f_Prd_9 oc_Prd rfl (rx_Prd_0 hX) ?_
  refine g_geti (pc := 64) (dd d_Prd_read 30 rfl) f_Prd_34 oc_Rdr rfl ?_
  refine g_bipush (pc := 67) (v := 100) (dd d_Prd_read 31 rfl) (by decide) ?_
  refine g_icmpne (pc := 69) (tgt := 76) (dd d_Prd_read 32 rfl) (by decide) (fun q11 => ?_) (fun q11 => ?_)
  · replace h := ite_f h q11
    refine g_aload_n (pc := 76) (dd d_Prd_read 35 rfl) rfl ?_
    refine g_getr (pc := 77) (dd d_Prd_read 36 rfl) f_Prd_9 oc_Prd rfl (rx_Prd_0 hX) ?_
    refine g_geti (pc := 80) (dd d_Prd_read 37 rfl) f_Prd_41 oc_Rdr rfl ?_
    refine g_drop [0] ?_
    exact gb_Prd_read_83 hX hk hT  h
  · replace h := ite_t h q11
    refine g_iconst (pc := 72) (v := (-1)) (dd d_Prd_read 33 rfl) (by decide) ?_
    refine g_goto (pc := 73) (tgt := 83) (dd d_Prd_read 34 rfl) (by decide) ?_
    refine g_drop [0] ?_
    exact gb_Prd_read_83 hX hk hT  h
def l_Prd_read_21 (n : Nat) (pt : Nat) (J : JM)  : Nat → Int32 → IM → Option (Int32 × IM)
  | 0, _, _ => none
  | f + 1, x1, I => if (22 : Int32) < x1 then (b_Prd_read_60 n pt J  I) else (if (I 1 1 : Int32) = (100 : Int32) then (b_Prd_read_60 n pt J  I) else (Option.bind (f_Prd_readRule n pt I) fun v8 => if (v8.1 : Int32) = 0 then (some (v8.2 1 2, v8.2)) else ((l_Prd_read_21 n pt J  f) (x1 + 1) v8.2)))
set_option maxRecDepth 20000 in
set_option maxHeartbeats 4000000 in
theorem gl_Prd_read_21 {Δ : Dx} {X : Lx} {rl hd ot pt it : Nat} (hX : EX Δ X rl hd ot pt it)   {n : Nat} {Γ : Cx} (hk : Γ.k = 74) {r : Int32 × IM} (hT : Tg Δ Γ (some (.int r.1)) NN (r.2, X) 0 0)  : ∀ (f : Nat) (x1 : Int32) (I : IM), l_Prd_read_21 n pt X.1  f x1 I = some r → GG Δ m_Prd_read Γ NN 0 0 (I, X) 21 [some (.ref (Δ.ba + 7)), some (.int (x1))] []
  | 0, _, _, h => by cases h
  | f + 1, x1, I, h => by
    have ih := gl_Prd_read_21 (n := n) hX hk hT  f
    rw [l_Prd_read_21] at h
    refine g_iload_n (pc := 21) (dd d_Prd_read 11 rfl) rfl ?_
    refine g_bipush (pc := 22) (v := 22) (dd d_Prd_read 12 rfl) (by decide) ?_
    refine g_icmpgt (pc := 24) (tgt := 60) (dd d_Prd_read 13 rfl) (by decide) (fun q6 => ?_) (fun q6 => ?_)
    · replace h := ite_t h q6
      refine g_drop [1] ?_
      exact gb_Prd_read_60 hX hk hT  h
    · replace h := ite_f h q6
      refine g_aload_n (pc := 27) (dd d_Prd_read 14 rfl) rfl ?_
      refine g_getr (pc := 28) (dd d_Prd_read 15 rfl) f_Prd_9 oc_Prd rfl (rx_Prd_0 hX) ?_
      refine g_geti (pc := 31) (dd d_Prd_read 16 rfl) f_Prd_34 oc_Rdr rfl ?_
      refine g_bipush (pc := 34) (v := 100) (dd d_Prd_read 17 rfl) (by decide) ?_
      refine g_icmpeq (pc := 36) (tgt := 60) (dd d_Prd_read 18 rfl) (by decide) (fun q7 => ?_) (fun q7 => ?_)
      · replace h := ite_t h q7
        refine g_drop [1] ?_
        exact gb_Prd_read_60 hX hk hT  h
      · replace h := ite_f h q7
        refine g_aload_n (pc := 39) (dd d_Prd_read 19 rfl) rfl ?_
        obtain ⟨v8, e9, h⟩ := bnd_e h
        refine g_callV (pc := 40) (dd d_Prd_read 20 rfl) v_Prd_37 oc_Prd rfl (ef_Prd_readRule hX e9) rfl (by omega) (Nat.le_of_ble_eq_true rfl) ⟨Nat.zero_le _, Nat.zero_le _⟩ rfl ?_
        refine g_ifne (pc := 43) (tgt := 54) (dd d_Prd_read 21 rfl) (by decide) (fun q10 => ?_) (fun q10 => ?_)
        · replace h := ite_f h q10
          refine g_iincW (pc := 54) (w := 1) (dd d_Prd_read 26 rfl) rfl (by decide) (by decide) ?_
          refine g_goto (pc := 57) (tgt := 21) (dd d_Prd_read 27 rfl) (by decide) ?_
          exact ih _ _ h
        · replace h := ite_t h q10
          refine g_aload_n (pc := 46) (dd d_Prd_read 22 rfl) rfl ?_
          refine g_getr (pc := 47) (dd d_Prd_read 23 rfl) f_Prd_9 oc_Prd rfl (rx_Prd_0 hX) ?_
          refine g_geti (pc := 50) (dd d_Prd_read 24 rfl) f_Prd_41 oc_Rdr rfl ?_
          cases h
          exact g_iret (pc := 53) rfl (dd d_Prd_read 25 rfl) hT
def f_Prd_read (n : Nat) (pt : Nat) (J : JM) (I : IM) : Option (Int32 × IM) := Option.bind (f_Pol_empty  pt I) fun v1 => lt (up v1 7 2 (0)) fun I3 => Option.bind (f_Rdr_startOver n J I3) fun v4 => l_Prd_read_21 n pt J  n 0 v4
set_option maxRecDepth 20000 in
set_option maxHeartbeats 4000000 in
theorem ef_Prd_read {Δ : Dx} {X : Lx} {rl hd ot pt it : Nat} (hX : EX Δ X rl hd ot pt it) {n : Nat}  {I : IM}  {r : Int32 × IM} (h : f_Prd_read n pt X.1 I = some r) : Ev Δ (74) m_Prd_read [.ref (Δ.ba + 7)] (I, X) (some (.int r.1)) (r.2, X) := by
  refine ev_of (by decide) (Nat.le_of_ble_eq_true rfl) (fun Γ hk hR hT => ?_)
  change GG Δ m_Prd_read Γ NN 0 0 (I, X) 0 [some (.ref (Δ.ba + 7)), none] []
  unfold f_Prd_read at h
  refine g_aload_n (pc := 0) (dd d_Prd_read 0 rfl) rfl ?_
  refine g_getr (pc := 1) (dd d_Prd_read 1 rfl) f_Prd_18 oc_Prd rfl hX.r_pt ?_
  obtain ⟨v1, e2, h⟩ := bnd_e h
  refine g_callV (pc := 4) (dd d_Prd_read 2 rfl) v_Prd_22 (oc_Pol hX.i_pt) rfl (ef_Pol_empty hX hX.i_pt e2) rfl (by omega) (Nat.le_of_ble_eq_true rfl) ⟨Nat.zero_le _, Nat.zero_le _⟩ rfl ?_
  refine g_aload_n (pc := 7) (dd d_Prd_read 3 rfl) rfl ?_
  refine g_iconst (pc := 8) (v := 0) (dd d_Prd_read 4 rfl) (by decide) ?_
  refine g_putiN (pc := 9) (dd d_Prd_read 5 rfl) f_Prd_25 fm_Prd_2 oc_Prd rfl (fun I3 hI3 => ?_)
  replace h := lt_e h hI3
  refine g_aload_n (pc := 12) (dd d_Prd_read 6 rfl) rfl ?_
  refine g_getr (pc := 13) (dd d_Prd_read 7 rfl) f_Prd_9 oc_Prd rfl (rx_Prd_0 hX) ?_
  obtain ⟨v4, e5, h⟩ := bnd_e h
  refine g_callV (pc := 16) (dd d_Prd_read 8 rfl) v_Prd_29 oc_Rdr rfl (ef_Rdr_startOver hX e5) rfl (by omega) (Nat.le_of_ble_eq_true rfl) ⟨Nat.zero_le _, Nat.zero_le _⟩ rfl ?_
  refine g_iconst (pc := 19) (v := 0) (dd d_Prd_read 9 rfl) (by decide) ?_
  refine g_istore_n (pc := 20) (dd d_Prd_read 10 rfl) (by decide) ?_
  exact gl_Prd_read_21 hX hk hT  _ _ _ h
