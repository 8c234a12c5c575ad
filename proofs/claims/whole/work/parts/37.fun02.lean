/-! the reference: each method a function, and its contract -/
def b_Mod_heads_38 (n : Nat) (J : JM)   (I : IM) : Option (IM) := Option.bind (f_Mod_fail   I) fun v16 => some v16
set_option maxRecDepth 20000 in
set_option maxHeartbeats 4000000 in
theorem gb_Mod_heads_38 {Δ : Dx} {X : Lx} (hX : MX Δ X)   {n : Nat} {Γ : Cx} (hk : Γ.k = 4) {r : IM} (hT : Tg Δ Γ none NN (r, X) 0 0)   {I : IM} (h : b_Mod_heads_38 n X.1   I = some r) : GG Δ m_Mod_heads Γ NN 0 0 (I, X) 38 [some (.ref (Δ.ba + MO)), none] [] := by
  unfold b_Mod_heads_38 at h
  refine g_aload_n (pc := 38) (dd d_Mod_heads 19 rfl) rfl ?_
  obtain ⟨v16, e17, h⟩ := bnd_e h
  refine g_callV (pc := 39) (dd d_Mod_heads 20 rfl) v_Mod_286 ob_MO rfl (ef_Mod_fail hX e17) rfl (by rw [hk]; decide) (Nat.le_of_ble_eq_true rfl) ⟨Nat.zero_le _, Nat.zero_le _⟩ rfl ?_
  cases h
  exact g_vret (pc := 42) rfl (dd d_Mod_heads 21 rfl) hT
def b_Mod_heads_78 (n : Nat) (J : JM)   (I : IM) : Option (IM) := Option.bind (f_Mod_need n J 58 I) fun v18 => some v18
set_option maxRecDepth 20000 in
set_option maxHeartbeats 4000000 in
theorem gb_Mod_heads_78 {Δ : Dx} {X : Lx} (hX : MX Δ X)   {n : Nat} {Γ : Cx} (hk : Γ.k = 4) {r : IM} (hT : Tg Δ Γ none NN (r, X) 0 0)   {I : IM} (h : b_Mod_heads_78 n X.1   I = some r) : GG Δ m_Mod_heads Γ NN 0 0 (I, X) 78 [some (.ref (Δ.ba + MO)), none] [] := by
  unfold b_Mod_heads_78 at h
  refine g_aload_n (pc := 78) (dd d_Mod_heads 40 rfl) rfl ?_
  refine g_bipush (pc := 79) (v := 58) (dd d_Mod_heads 41 rfl) (by decide) ?_
  obtain ⟨v18, e19, h⟩ := bnd_e h
  refine g_callV (pc := 81) (dd d_Mod_heads 42 rfl) v_Mod_352 ob_MO rfl (ef_Mod_need hX e19) rfl (by rw [hk]; decide) (Nat.le_of_ble_eq_true rfl) ⟨Nat.zero_le _, Nat.zero_le _⟩ rfl ?_
  cases h
  exact g_vret (pc := 84) rfl (dd d_Mod_heads 43 rfl) hT
def l_Mod_heads_2 (n : Nat) (J : JM)  : Nat → Int32 → IM → Option (IM)
  | 0, _, _ => none
  | f + 1, x1, I => if x1 = 0 then (b_Mod_heads_78 n J  I) else (if 0 ≤ (I MO 14 : Int32) then (b_Mod_heads_78 n J  I) else (Option.bind (f_Mod_in  (I MO 10) 0 21 I) fun v3 => if v3 = 0 then (b_Mod_heads_38 n J  I) else (chk (inb (I MO 10) 44) <| if (I A_ruleOf (I MO 10 : Int32).toNatClampNeg : Int32) < 0 then (lt (up I A_ruleOf (I MO 10 : Int32).toNatClampNeg (I MO 23)) fun I8 => Option.bind (f_Mod_advance n J I8) fun v9 => Option.bind (f_Mod_is  44 v9) fun v11 => if v11 = 0 then ((l_Mod_heads_2 n J  f) v11 v9) else (Option.bind (f_Mod_advance n J v9) fun v14 => (l_Mod_heads_2 n J  f) v11 v14)) else (b_Mod_heads_38 n J  I))))
set_option maxRecDepth 20000 in
set_option maxHeartbeats 4000000 in
theorem gl_Mod_heads_2 {Δ : Dx} {X : Lx} (hX : MX Δ X)   {n : Nat} {Γ : Cx} (hk : Γ.k = 4) {r : IM} (hT : Tg Δ Γ none NN (r, X) 0 0)  : ∀ (f : Nat) (x1 : Int32) (I : IM), l_Mod_heads_2 n X.1  f x1 I = some r → GG Δ m_Mod_heads Γ NN 0 0 (I, X) 2 [some (.ref (Δ.ba + MO)), some (.int (x1))] []
  | 0, _, _, h => by cases h
  | f + 1, x1, I, h => by
    have ih := gl_Mod_heads_2 (n := n) hX hk hT  f
    rw [l_Mod_heads_2] at h
    refine g_iload_n (pc := 2) (dd d_Mod_heads 2 rfl) rfl ?_
    refine g_ifeq (pc := 3) (tgt := 78) (dd d_Mod_heads 3 rfl) (by decide) (fun q1 => ?_) (fun q1 => ?_)
    · replace h := ite_t h q1
      refine g_drop [1] ?_
      exact gb_Mod_heads_78 hX hk hT  h
    · replace h := ite_f h q1
      refine g_aload_n (pc := 6) (dd d_Mod_heads 4 rfl) rfl ?_
      refine g_geti (pc := 7) (dd d_Mod_heads 5 rfl) f_Mod_280 ob_MO rfl ?_
      refine g_ifge (pc := 10) (tgt := 78) (dd d_Mod_heads 6 rfl) (by decide) (fun q2 => ?_) (fun q2 => ?_)
      · replace h := ite_t h q2
        refine g_drop [1] ?_
        exact gb_Mod_heads_78 hX hk hT  h
      · replace h := ite_f h q2
        refine g_aload_n (pc := 13) (dd d_Mod_heads 7 rfl) rfl ?_
        refine g_geti (pc := 14) (dd d_Mod_heads 8 rfl) f_Mod_270 ob_MO rfl ?_
        refine g_iconst (pc := 17) (v := 0) (dd d_Mod_heads 9 rfl) (by decide) ?_
        refine g_bipush (pc := 18) (v := 21) (dd d_Mod_heads 10 rfl) (by decide) ?_
        obtain ⟨v3, e4, h⟩ := bnd_e h
        refine g_callS (pc := 20) (dd d_Mod_heads 11 rfl) s_Mod_243 (ef_Mod_in hX e4) rfl (by rw [hk]; decide) (Nat.le_of_ble_eq_true rfl) ⟨Nat.zero_le _, Nat.zero_le _⟩ rfl ?_
        refine g_ifeq (pc := 23) (tgt := 38) (dd d_Mod_heads 12 rfl) (by decide) (fun q5 => ?_) (fun q5 => ?_)
        · replace h := ite_t h q5
          refine g_drop [1] ?_
          exact gb_Mod_heads_38 hX hk hT  h
        · replace h := ite_f h q5
          refine g_aload_n (pc := 26) (dd d_Mod_heads 13 rfl) rfl ?_
          refine g_getr (pc := 27) (dd d_Mod_heads 14 rfl) f_Mod_44 ob_MO rfl (mr_ruleOf hX) ?_
          refine g_aload_n (pc := 30) (dd d_Mod_heads 15 rfl) rfl ?_
          refine g_geti (pc := 31) (dd d_Mod_heads 16 rfl) f_Mod_270 ob_MO rfl ?_
          obtain ⟨c6, h⟩ := chk_e h
          refine g_iald (pc := 34) (dd d_Mod_heads 17 rfl) ar_A_ruleOf c6 ?_
          refine g_iflt (pc := 35) (tgt := 43) (dd d_Mod_heads 18 rfl) (by decide) (fun q7 => ?_) (fun q7 => ?_)
          · replace h := ite_t h q7
            refine g_aload_n (pc := 43) (dd d_Mod_heads 22 rfl) rfl ?_
            refine g_getr (pc := 44) (dd d_Mod_heads 23 rfl) f_Mod_44 ob_MO rfl (mr_ruleOf hX) ?_
            refine g_aload_n (pc := 47) (dd d_Mod_heads 24 rfl) rfl ?_
            refine g_geti (pc := 48) (dd d_Mod_heads 25 rfl) f_Mod_270 ob_MO rfl ?_
            refine g_aload_n (pc := 51) (dd d_Mod_heads 26 rfl) rfl ?_
            refine g_geti (pc := 52) (dd d_Mod_heads 27 rfl) f_Mod_331 ob_MO rfl ?_
            refine g_iastN (pc := 55) (dd d_Mod_heads 28 rfl) ar_A_ruleOf c6 (fun I8 hI8 => ?_)
            replace h := lt_e h hI8
            refine g_aload_n (pc := 56) (dd d_Mod_heads 29 rfl) rfl ?_
            obtain ⟨v9, e10, h⟩ := bnd_e h
            refine g_callV (pc := 57) (dd d_Mod_heads 30 rfl) v_Mod_289 ob_MO rfl (ef_Mod_advance hX e10) rfl (by rw [hk]; decide) (Nat.le_of_ble_eq_true rfl) ⟨Nat.zero_le _, Nat.zero_le _⟩ rfl ?_
            refine g_aload_n (pc := 60) (dd d_Mod_heads 31 rfl) rfl ?_
            refine g_bipush (pc := 61) (v := 44) (dd d_Mod_heads 32 rfl) (by decide) ?_
            obtain ⟨v11, e12, h⟩ := bnd_e h
            refine g_callV (pc := 63) (dd d_Mod_heads 33 rfl) v_Mod_283 ob_MO rfl (ef_Mod_is hX e12) rfl (by rw [hk]; decide) (Nat.le_of_ble_eq_true rfl) ⟨Nat.zero_le _, Nat.zero_le _⟩ rfl ?_
            refine g_istore_n (pc := 66) (dd d_Mod_heads 34 rfl) (by decide) ?_
            refine g_iload_n (pc := 67) (dd d_Mod_heads 35 rfl) rfl ?_
            refine g_ifeq (pc := 68) (tgt := 2) (dd d_Mod_heads 36 rfl) (by decide) (fun q13 => ?_) (fun q13 => ?_)
            · replace h := ite_t h q13
              exact ih _ _ h
            · replace h := ite_f h q13
              refine g_aload_n (pc := 71) (dd d_Mod_heads 37 rfl) rfl ?_
              obtain ⟨v14, e15, h⟩ := bnd_e h
              refine g_callV (pc := 72) (dd d_Mod_heads 38 rfl) v_Mod_289 ob_MO rfl (ef_Mod_advance hX e15) rfl (by rw [hk]; decide) (Nat.le_of_ble_eq_true rfl) ⟨Nat.zero_le _, Nat.zero_le _⟩ rfl ?_
              refine g_goto (pc := 75) (tgt := 2) (dd d_Mod_heads 39 rfl) (by decide) ?_
              exact ih _ _ h
          · replace h := ite_f h q7
            refine g_drop [1] ?_
            exact gb_Mod_heads_38 hX hk hT  h
def f_Mod_heads (n : Nat) (J : JM) (I : IM) : Option (IM) := l_Mod_heads_2 n J  n 1 I
set_option maxRecDepth 20000 in
set_option maxHeartbeats 4000000 in
theorem ef_Mod_heads {Δ : Dx} {X : Lx} (hX : MX Δ X) {n : Nat}  {I : IM}  {r : IM} (h : f_Mod_heads n X.1 I = some r) : Ev Δ 4 m_Mod_heads [.ref (Δ.ba + MO)] (I, X) none (r, X) := by
  refine ev_of (by decide) (Nat.le_of_ble_eq_true rfl) (fun Γ hk hR hT => ?_)
  change GG Δ m_Mod_heads Γ NN 0 0 (I, X) 0 [some (.ref (Δ.ba + MO)), none] []
  unfold f_Mod_heads at h
  refine g_iconst (pc := 0) (v := 1) (dd d_Mod_heads 0 rfl) (by decide) ?_
  refine g_istore_n (pc := 1) (dd d_Mod_heads 1 rfl) (by decide) ?_
  exact gl_Mod_heads_2 hX hk hT  _ _ _ h
def f_Mod_tokenIsEnd  (I : IM) : Option (Int32) := some (if (I MO 10 : Int32) = (199 : Int32) then 1 else 0)
set_option maxRecDepth 20000 in
set_option maxHeartbeats 4000000 in
theorem ef_Mod_tokenIsEnd {Δ : Dx} {X : Lx} (hX : MX Δ X)   {I : IM}  {r : Int32} (h : f_Mod_tokenIsEnd  I = some r) : Ev Δ 0 m_Mod_tokenIsEnd [.ref (Δ.ba + MO)] (I, X) (some (.int r)) (I, X) := by
  refine ev_of (by decide) (Nat.le_of_ble_eq_true rfl) (fun Γ hk hR hT => ?_)
  change GG Δ m_Mod_tokenIsEnd Γ NN 0 0 (I, X) 0 [some (.ref (Δ.ba + MO))] []
  unfold f_Mod_tokenIsEnd at h
  refine g_aload_n (pc := 0) (dd d_Mod_tokenIsEnd 0 rfl) rfl ?_
  refine g_geti (pc := 1) (dd d_Mod_tokenIsEnd 1 rfl) f_Mod_270 ob_MO rfl ?_
  refine g_sipush (pc := 4) (v := 199) (dd d_Mod_tokenIsEnd 2 rfl) (by decide) ?_
  suffices K7 : ∀ z : Int32, z = (if (I MO 10 : Int32) = (199 : Int32) then 1 else 0 : Int32) → GG Δ m_Mod_tokenIsEnd Γ NN 0 0 (I, X) 15 [some (.ref (Δ.ba + MO))] [.int (z)] by
    refine g_icmpne (pc := 7) (tgt := 14) (dd d_Mod_tokenIsEnd 3 rfl) (by decide) (fun q1 => ?_) (fun q1 => ?_)
    · skip
      refine g_iconst (pc := 14) (v := 0) (dd d_Mod_tokenIsEnd 6 rfl) (by decide) ?_
      exact K7 _ (by rw [if_neg q1])
    · skip
      refine g_iconst (pc := 10) (v := 1) (dd d_Mod_tokenIsEnd 4 rfl) (by decide) ?_
      refine g_goto (pc := 11) (tgt := 15) (dd d_Mod_tokenIsEnd 5 rfl) (by decide) ?_
      exact K7 _ (by rw [if_pos q1])
  intro z hz
  subst hz
  cases h
  exact g_zret (pc := 15) rfl (by (repeat' split) <;> first | exact Or.inl rfl | exact Or.inr rfl) (dd d_Mod_tokenIsEnd 7 rfl) hT
def b_Mod_readPolicy_160 (n : Nat) (J : JM) (H50 : IM → Option (IM))  (I : IM) : Option (IM) := chk (inb (I MO 23) 602) <| lt (up I A_ruleTo (I MO 23 : Int32).toNatClampNeg (I MO 18)) fun I34 => lt (up I34 MO 23 ((I34 MO 23) + 1)) fun I35 => H50 I35
set_option maxRecDepth 20000 in
set_option maxHeartbeats 4000000 in
theorem gb_Mod_readPolicy_160 {Δ : Dx} {X : Lx} (hX : MX Δ X)   {n : Nat} {Γ : Cx} (hk : Γ.k = 7) {r : IM} (hT : Tg Δ Γ none NN (r, X) 0 0) {H50 : IM → Option (IM)} (hH50 : ∀  (I : IM), H50  I = some r → GG Δ m_Mod_readPolicy Γ NN 0 0 (I, X) 50 [some (.ref (Δ.ba + MO)), none, none] [])  {I : IM} (h : b_Mod_readPolicy_160 n X.1 H50  I = some r) : GG Δ m_Mod_readPolicy Γ NN 0 0 (I, X) 160 [some (.ref (Δ.ba + MO)), none, none] [] := by
  unfold b_Mod_readPolicy_160 at h
  refine g_aload_n (pc := 160) (dd d_Mod_readPolicy_1 27 rfl) rfl ?_
  refine g_getr (pc := 161) (dd d_Mod_readPolicy_1 28 rfl) f_Mod_41 ob_MO rfl (mr_ruleTo hX) ?_
  refine g_aload_n (pc := 164) (dd d_Mod_readPolicy_1 29 rfl) rfl ?_
  refine g_geti (pc := 165) (dd d_Mod_readPolicy_1 30 rfl) f_Mod_331 ob_MO rfl ?_
  refine g_aload_n (pc := 168) (dd d_Mod_readPolicy_1 31 rfl) rfl ?_
  refine g_geti (pc := 169) (dd d_Mod_readPolicy_1 32 rfl) f_Mod_349 ob_MO rfl ?_
  obtain ⟨c33, h⟩ := chk_e h
  refine g_iastN (pc := 172) (dd d_Mod_readPolicy_1 33 rfl) ar_A_ruleTo c33 (fun I34 hI34 => ?_)
  replace h := lt_e h hI34
  refine g_aload_n (pc := 173) (dd d_Mod_readPolicy_1 34 rfl) rfl ?_
  refine g_dup (pc := 174) (dd d_Mod_readPolicy_1 35 rfl) rfl ?_
  refine g_geti (pc := 175) (dd d_Mod_readPolicy_1 36 rfl) f_Mod_331 ob_MO rfl ?_
  refine g_iconst (pc := 178) (v := 1) (dd d_Mod_readPolicy_1 37 rfl) (by decide) ?_
  refine g_iadd (pc := 179) (dd d_Mod_readPolicy_1 38 rfl) ?_
  refine g_putiN (pc := 180) (dd d_Mod_readPolicy_1 39 rfl) f_Mod_331 fm_Mod_23 ob_MO rfl (fun I35 hI35 => ?_)
  replace h := lt_e h hI35
  refine g_goto (pc := 183) (tgt := 50) (dd d_Mod_readPolicy_1 40 rfl) (by decide) ?_
  exact hH50 _ h
def l_Mod_readPolicy_93 (n : Nat) (J : JM) (H50 : IM → Option (IM)) : Nat → Int32 → IM → Option (IM)
  | 0, _, _ => none
  | f + 1, x1, I => if 0 ≤ (I MO 14 : Int32) then (b_Mod_readPolicy_160 n J H50 I) else (Option.bind (f_Mod_tokenIsEnd   I) fun v22 => if v22 = 0 then (Option.bind (f_Mod_in  (I MO 10) 0 21 I) fun v25 => if v25 = 0 then (Option.bind (f_Mod_in  (I MO 10) 50 53 I) fun v28 => Option.bind (f_Mod_statement n J x1 I) fun v31 => (l_Mod_readPolicy_93 n J H50 f) (x1 ||| (if v28 = 0 then 0 else ((1 : Int32) <<< (((I MO 10) - (50) : Int32) &&& 31)) : Int32)) v31) else (b_Mod_readPolicy_160 n J H50 I)) else (b_Mod_readPolicy_160 n J H50 I))
set_option maxRecDepth 20000 in
set_option maxHeartbeats 4000000 in
theorem gl_Mod_readPolicy_93 {Δ : Dx} {X : Lx} (hX : MX Δ X)   {n : Nat} {Γ : Cx} (hk : Γ.k = 7) {r : IM} (hT : Tg Δ Γ none NN (r, X) 0 0) {H50 : IM → Option (IM)} (hH50 : ∀  (I : IM), H50  I = some r → GG Δ m_Mod_readPolicy Γ NN 0 0 (I, X) 50 [some (.ref (Δ.ba + MO)), none, none] []) : ∀ (f : Nat) (x1 : Int32) (I : IM), l_Mod_readPolicy_93 n X.1 H50 f x1 I = some r → GG Δ m_Mod_readPolicy Γ NN 0 0 (I, X) 93 [some (.ref (Δ.ba + MO)), some (.int (x1)), none] []
  | 0, _, _, h => by cases h
  | f + 1, x1, I, h => by
    have ih := gl_Mod_readPolicy_93 (n := n) hX hk hT hH50 f
    rw [l_Mod_readPolicy_93] at h
    refine g_aload_n (pc := 93) (dd d_Mod_readPolicy 52 rfl) rfl ?_
    refine g_geti (pc := 94) (dd d_Mod_readPolicy 53 rfl) f_Mod_280 ob_MO rfl ?_
    refine g_ifge (pc := 97) (tgt := 160) (dd d_Mod_readPolicy 54 rfl) (by decide) (fun q21 => ?_) (fun q21 => ?_)
    · replace h := ite_t h q21
      refine g_drop [1] ?_
      exact gb_Mod_readPolicy_160 hX hk hT hH50 h
    · replace h := ite_f h q21
      refine g_aload_n (pc := 100) (dd d_Mod_readPolicy 55 rfl) rfl ?_
      obtain ⟨v22, e23, h⟩ := bnd_e h
      refine g_callV (pc := 101) (dd d_Mod_readPolicy 56 rfl) v_Mod_358 ob_MO rfl (ef_Mod_tokenIsEnd hX e23) rfl (by rw [hk]; decide) (Nat.le_of_ble_eq_true rfl) ⟨Nat.zero_le _, Nat.zero_le _⟩ rfl ?_
      refine g_ifne (pc := 104) (tgt := 160) (dd d_Mod_readPolicy 57 rfl) (by decide) (fun q24 => ?_) (fun q24 => ?_)
      · replace h := ite_f h q24
        refine g_drop [1] ?_
        exact gb_Mod_readPolicy_160 hX hk hT hH50 h
      · replace h := ite_t h q24
        refine g_aload_n (pc := 107) (dd d_Mod_readPolicy 58 rfl) rfl ?_
        refine g_geti (pc := 108) (dd d_Mod_readPolicy 59 rfl) f_Mod_270 ob_MO rfl ?_
        refine g_iconst (pc := 111) (v := 0) (dd d_Mod_readPolicy_1 0 rfl) (by decide) ?_
        refine g_bipush (pc := 112) (v := 21) (dd d_Mod_readPolicy_1 1 rfl) (by decide) ?_
        obtain ⟨v25, e26, h⟩ := bnd_e h
        refine g_callS (pc := 114) (dd d_Mod_readPolicy_1 2 rfl) s_Mod_243 (ef_Mod_in hX e26) rfl (by rw [hk]; decide) (Nat.le_of_ble_eq_true rfl) ⟨Nat.zero_le _, Nat.zero_le _⟩ rfl ?_
        refine g_ifne (pc := 117) (tgt := 160) (dd d_Mod_readPolicy_1 3 rfl) (by decide) (fun q27 => ?_) (fun q27 => ?_)
        · replace h := ite_f h q27
          refine g_drop [1] ?_
          exact gb_Mod_readPolicy_160 hX hk hT hH50 h
        · replace h := ite_t h q27
          refine g_aload_n (pc := 120) (dd d_Mod_readPolicy_1 4 rfl) rfl ?_
          refine g_geti (pc := 121) (dd d_Mod_readPolicy_1 5 rfl) f_Mod_270 ob_MO rfl ?_
          refine g_bipush (pc := 124) (v := 50) (dd d_Mod_readPolicy_1 6 rfl) (by decide) ?_
          refine g_bipush (pc := 126) (v := 53) (dd d_Mod_readPolicy_1 7 rfl) (by decide) ?_
          obtain ⟨v28, e29, h⟩ := bnd_e h
          refine g_callS (pc := 128) (dd d_Mod_readPolicy_1 8 rfl) s_Mod_243 (ef_Mod_in hX e29) rfl (by rw [hk]; decide) (Nat.le_of_ble_eq_true rfl) ⟨Nat.zero_le _, Nat.zero_le _⟩ rfl ?_
          suffices K131 : ∀ z : Int32, z = (if v28 = 0 then 0 else ((1 : Int32) <<< (((I MO 10) - (50) : Int32) &&& 31)) : Int32) → GG Δ m_Mod_readPolicy Γ NN 0 0 (I, X) 147 [some (.ref (Δ.ba + MO)), some (.int (x1)), none] [.int (z)] by
            refine g_ifeq (pc := 131) (tgt := 146) (dd d_Mod_readPolicy_1 9 rfl) (by decide) (fun q30 => ?_) (fun q30 => ?_)
            · skip
              refine g_iconst (pc := 146) (v := 0) (dd d_Mod_readPolicy_1 17 rfl) (by decide) ?_
              exact K131 _ (by rw [if_pos q30])
            · skip
              refine g_iconst (pc := 134) (v := 1) (dd d_Mod_readPolicy_1 10 rfl) (by decide) ?_
              refine g_aload_n (pc := 135) (dd d_Mod_readPolicy_1 11 rfl) rfl ?_
              refine g_geti (pc := 136) (dd d_Mod_readPolicy_1 12 rfl) f_Mod_270 ob_MO rfl ?_
              refine g_bipush (pc := 139) (v := 50) (dd d_Mod_readPolicy_1 13 rfl) (by decide) ?_
              refine g_isub (pc := 141) (dd d_Mod_readPolicy_1 14 rfl) ?_
              refine g_ishl (pc := 142) (dd d_Mod_readPolicy_1 15 rfl) ?_
              refine g_goto (pc := 143) (tgt := 147) (dd d_Mod_readPolicy_1 16 rfl) (by decide) ?_
              exact K131 _ (by rw [if_neg q30])
          intro z hz
          subst hz
          refine g_istore_n (pc := 147) (dd d_Mod_readPolicy_1 18 rfl) (by decide) ?_
          refine g_aload_n (pc := 148) (dd d_Mod_readPolicy_1 19 rfl) rfl ?_
          refine g_iload_n (pc := 149) (dd d_Mod_readPolicy_1 20 rfl) rfl ?_
          obtain ⟨v31, e32, h⟩ := bnd_e h
          refine g_callV (pc := 150) (dd d_Mod_readPolicy_1 21 rfl) v_Mod_364 ob_MO rfl (ef_Mod_statement hX e32) rfl (by rw [hk]; decide) (Nat.le_of_ble_eq_true rfl) ⟨Nat.zero_le _, Nat.zero_le _⟩ rfl ?_
          refine g_iload_n (pc := 153) (dd d_Mod_readPolicy_1 22 rfl) rfl ?_
          refine g_iload_n (pc := 154) (dd d_Mod_readPolicy_1 23 rfl) rfl ?_
          refine g_ior (pc := 155) (dd d_Mod_readPolicy_1 24 rfl) ?_
          refine g_istore_n (pc := 156) (dd d_Mod_readPolicy_1 25 rfl) (by decide) ?_
          refine g_goto (pc := 157) (tgt := 93) (dd d_Mod_readPolicy_1 26 rfl) (by decide) ?_
          refine g_drop [2] ?_
          exact ih _ _ h
def b_Mod_readPolicy_186 (n : Nat) (J : JM)   (I : IM) : Option (IM) := some I
set_option maxRecDepth 20000 in
set_option maxHeartbeats 4000000 in
theorem gb_Mod_readPolicy_186 {Δ : Dx} {X : Lx} (hX : MX Δ X)   {n : Nat} {Γ : Cx} (hk : Γ.k = 7) {r : IM} (hT : Tg Δ Γ none NN (r, X) 0 0)   {I : IM} (h : b_Mod_readPolicy_186 n X.1   I = some r) : GG Δ m_Mod_readPolicy Γ NN 0 0 (I, X) 186 [none, none, none] [] := by
  unfold b_Mod_readPolicy_186 at h
  cases h
  exact g_vret (pc := 186) rfl (dd d_Mod_readPolicy_1 41 rfl) hT
def l_Mod_readPolicy_50 (n : Nat) (J : JM)  : Nat → IM → Option (IM)
  | 0, _ => none
  | f + 1, I => if 0 ≤ (I MO 14 : Int32) then (b_Mod_readPolicy_186 n J  I) else (Option.bind (f_Mod_tokenIsEnd   I) fun v12 => if v12 = 0 then (chk (inb (I MO 23) 602) <| lt (up I A_named (I MO 23 : Int32).toNatClampNeg (0)) fun I16 => chk (inb (I16 MO 23) 602) <| lt (up I16 A_ruleFrom (I16 MO 23 : Int32).toNatClampNeg (I16 MO 18)) fun I18 => Option.bind (f_Mod_heads n J I18) fun v19 => l_Mod_readPolicy_93 n J (l_Mod_readPolicy_50 n J  f) n 0 v19) else (b_Mod_readPolicy_186 n J  I))
set_option maxRecDepth 20000 in
set_option maxHeartbeats 4000000 in
theorem gl_Mod_readPolicy_50 {Δ : Dx} {X : Lx} (hX : MX Δ X)   {n : Nat} {Γ : Cx} (hk : Γ.k = 7) {r : IM} (hT : Tg Δ Γ none NN (r, X) 0 0)  : ∀ (f : Nat)  (I : IM), l_Mod_readPolicy_50 n X.1  f  I = some r → GG Δ m_Mod_readPolicy Γ NN 0 0 (I, X) 50 [some (.ref (Δ.ba + MO)), none, none] []
  | 0, _, h => by cases h
  | f + 1, I, h => by
    have ih := gl_Mod_readPolicy_50 (n := n) hX hk hT  f
    rw [l_Mod_readPolicy_50] at h
    refine g_aload_n (pc := 50) (dd d_Mod_readPolicy 29 rfl) rfl ?_
    refine g_geti (pc := 51) (dd d_Mod_readPolicy 30 rfl) f_Mod_280 ob_MO rfl ?_
    refine g_ifge (pc := 54) (tgt := 186) (dd d_Mod_readPolicy 31 rfl) (by decide) (fun q11 => ?_) (fun q11 => ?_)
    · replace h := ite_t h q11
      refine g_drop [0] ?_
      exact gb_Mod_readPolicy_186 hX hk hT  h
    · replace h := ite_f h q11
      refine g_aload_n (pc := 57) (dd d_Mod_readPolicy 32 rfl) rfl ?_
      obtain ⟨v12, e13, h⟩ := bnd_e h
      refine g_callV (pc := 58) (dd d_Mod_readPolicy 33 rfl) v_Mod_358 ob_MO rfl (ef_Mod_tokenIsEnd hX e13) rfl (by rw [hk]; decide) (Nat.le_of_ble_eq_true rfl) ⟨Nat.zero_le _, Nat.zero_le _⟩ rfl ?_
      refine g_ifne (pc := 61) (tgt := 186) (dd d_Mod_readPolicy 34 rfl) (by decide) (fun q14 => ?_) (fun q14 => ?_)
      · replace h := ite_f h q14
        refine g_drop [0] ?_
        exact gb_Mod_readPolicy_186 hX hk hT  h
      · replace h := ite_t h q14
        refine g_aload_n (pc := 64) (dd d_Mod_readPolicy 35 rfl) rfl ?_
        refine g_getr (pc := 65) (dd d_Mod_readPolicy 36 rfl) f_Mod_47 ob_MO rfl (mr_named hX) ?_
        refine g_aload_n (pc := 68) (dd d_Mod_readPolicy 37 rfl) rfl ?_
        refine g_geti (pc := 69) (dd d_Mod_readPolicy 38 rfl) f_Mod_331 ob_MO rfl ?_
        refine g_iconst (pc := 72) (v := 0) (dd d_Mod_readPolicy 39 rfl) (by decide) ?_
        obtain ⟨c15, h⟩ := chk_e h
        refine g_iastN (pc := 73) (dd d_Mod_readPolicy 40 rfl) ar_A_named c15 (fun I16 hI16 => ?_)
        replace h := lt_e h hI16
        refine g_aload_n (pc := 74) (dd d_Mod_readPolicy 41 rfl) rfl ?_
        refine g_getr (pc := 75) (dd d_Mod_readPolicy 42 rfl) f_Mod_38 ob_MO rfl (mr_ruleFrom hX) ?_
        refine g_aload_n (pc := 78) (dd d_Mod_readPolicy 43 rfl) rfl ?_
        refine g_geti (pc := 79) (dd d_Mod_readPolicy 44 rfl) f_Mod_331 ob_MO rfl ?_
        refine g_aload_n (pc := 82) (dd d_Mod_readPolicy 45 rfl) rfl ?_
        refine g_geti (pc := 83) (dd d_Mod_readPolicy 46 rfl) f_Mod_349 ob_MO rfl ?_
        obtain ⟨c17, h⟩ := chk_e h
        refine g_iastN (pc := 86) (dd d_Mod_readPolicy 47 rfl) ar_A_ruleFrom c17 (fun I18 hI18 => ?_)
        replace h := lt_e h hI18
        refine g_aload_n (pc := 87) (dd d_Mod_readPolicy 48 rfl) rfl ?_
        obtain ⟨v19, e20, h⟩ := bnd_e h
        refine g_callV (pc := 88) (dd d_Mod_readPolicy 49 rfl) v_Mod_361 ob_MO rfl (ef_Mod_heads hX e20) rfl (by rw [hk]; decide) (Nat.le_of_ble_eq_true rfl) ⟨Nat.zero_le _, Nat.zero_le _⟩ rfl ?_
        refine g_iconst (pc := 91) (v := 0) (dd d_Mod_readPolicy 50 rfl) (by decide) ?_
        refine g_istore_n (pc := 92) (dd d_Mod_readPolicy 51 rfl) (by decide) ?_
        exact gl_Mod_readPolicy_93 hX hk hT ih _ _ _ h
def l_Mod_readPolicy_27 (n : Nat) (J : JM)  : Nat → Int32 → IM → Option (IM)
  | 0, _, _ => none
  | f + 1, x1, I => if (22 : Int32) ≤ x1 then (Option.bind (f_Mod_advance n J I) fun v7 => l_Mod_readPolicy_50 n J  n v7) else (chk (inb x1 44) <| lt (up I A_ruleOf x1.toNatClampNeg ((-1))) fun I10 => (l_Mod_readPolicy_27 n J  f) (x1 + 1) I10)
set_option maxRecDepth 20000 in
set_option maxHeartbeats 4000000 in
theorem gl_Mod_readPolicy_27 {Δ : Dx} {X : Lx} (hX : MX Δ X)   {n : Nat} {Γ : Cx} (hk : Γ.k = 7) {r : IM} (hT : Tg Δ Γ none NN (r, X) 0 0)  : ∀ (f : Nat) (x1 : Int32) (I : IM), l_Mod_readPolicy_27 n X.1  f x1 I = some r → GG Δ m_Mod_readPolicy Γ NN 0 0 (I, X) 27 [some (.ref (Δ.ba + MO)), some (.int (x1)), none] []
  | 0, _, _, h => by cases h
  | f + 1, x1, I, h => by
    have ih := gl_Mod_readPolicy_27 (n := n) hX hk hT  f
    rw [l_Mod_readPolicy_27] at h
    refine g_iload_n (pc := 27) (dd d_Mod_readPolicy 17 rfl) rfl ?_
    refine g_bipush (pc := 28) (v := 22) (dd d_Mod_readPolicy 18 rfl) (by decide) ?_
    refine g_icmpge (pc := 30) (tgt := 46) (dd d_Mod_readPolicy 19 rfl) (by decide) (fun q6 => ?_) (fun q6 => ?_)
    · replace h := ite_t h q6
      refine g_aload_n (pc := 46) (dd d_Mod_readPolicy 27 rfl) rfl ?_
      obtain ⟨v7, e8, h⟩ := bnd_e h
      refine g_callV (pc := 47) (dd d_Mod_readPolicy 28 rfl) v_Mod_289 ob_MO rfl (ef_Mod_advance hX e8) rfl (by rw [hk]; decide) (Nat.le_of_ble_eq_true rfl) ⟨Nat.zero_le _, Nat.zero_le _⟩ rfl ?_
      refine g_drop [1] ?_
      exact gl_Mod_readPolicy_50 hX hk hT  _ _ h
    · replace h := ite_f h q6
      refine g_aload_n (pc := 33) (dd d_Mod_readPolicy 20 rfl) rfl ?_
      refine g_getr (pc := 34) (dd d_Mod_readPolicy 21 rfl) f_Mod_44 ob_MO rfl (mr_ruleOf hX) ?_
      refine g_iload_n (pc := 37) (dd d_Mod_readPolicy 22 rfl) rfl ?_
      refine g_iconst (pc := 38) (v := (-1)) (dd d_Mod_readPolicy 23 rfl) (by decide) ?_
      obtain ⟨c9, h⟩ := chk_e h
      refine g_iastN (pc := 39) (dd d_Mod_readPolicy 24 rfl) ar_A_ruleOf c9 (fun I10 hI10 => ?_)
      replace h := lt_e h hI10
      refine g_iincW (pc := 40) (w := 1) (dd d_Mod_readPolicy 25 rfl) rfl (by decide) (by decide) ?_
      refine g_goto (pc := 43) (tgt := 27) (dd d_Mod_readPolicy 26 rfl) (by decide) ?_
      exact ih _ _ h
def f_Mod_readPolicy (n : Nat) (J : JM) (I : IM) : Option (IM) := lt (up I MO 14 ((-1))) fun I1 => lt (up I1 MO 13 (0)) fun I2 => lt (up I2 MO 15 (0)) fun I3 => lt (up I3 MO 18 (0)) fun I4 => lt (up I4 MO 23 (0)) fun I5 => l_Mod_readPolicy_27 n J  n 0 I5
set_option maxRecDepth 20000 in
set_option maxHeartbeats 4000000 in
theorem ef_Mod_readPolicy {Δ : Dx} {X : Lx} (hX : MX Δ X) {n : Nat}  {I : IM}  {r : IM} (h : f_Mod_readPolicy n X.1 I = some r) : Ev Δ 7 m_Mod_readPolicy [.ref (Δ.ba + MO)] (I, X) none (r, X) := by
  refine ev_of (by decide) (Nat.le_of_ble_eq_true rfl) (fun Γ hk hR hT => ?_)
  change GG Δ m_Mod_readPolicy Γ NN 0 0 (I, X) 0 [some (.ref (Δ.ba + MO)), none, none] []
  unfold f_Mod_readPolicy at h
  refine g_aload_n (pc := 0) (dd d_Mod_readPolicy 0 rfl) rfl ?_
  refine g_iconst (pc := 1) (v := (-1)) (dd d_Mod_readPolicy 1 rfl) (by decide) ?_
  refine g_putiN (pc := 2) (dd d_Mod_readPolicy 2 rfl) f_Mod_280 fm_Mod_14 ob_MO rfl (fun I1 hI1 => ?_)
  replace h := lt_e h hI1
  refine g_aload_n (pc := 5) (dd d_Mod_readPolicy 3 rfl) rfl ?_
  refine g_iconst (pc := 6) (v := 0) (dd d_Mod_readPolicy 4 rfl) (by decide) ?_
  refine g_putiN (pc := 7) (dd d_Mod_readPolicy 5 rfl) f_Mod_260 fm_Mod_13 ob_MO rfl (fun I2 hI2 => ?_)
  replace h := lt_e h hI2
  refine g_aload_n (pc := 10) (dd d_Mod_readPolicy 6 rfl) rfl ?_
  refine g_iconst (pc := 11) (v := 0) (dd d_Mod_readPolicy 7 rfl) (by decide) ?_
  refine g_putiN (pc := 12) (dd d_Mod_readPolicy 8 rfl) f_Mod_292 fm_Mod_15 ob_MO rfl (fun I3 hI3 => ?_)
  replace h := lt_e h hI3
  refine g_aload_n (pc := 15) (dd d_Mod_readPolicy 9 rfl) rfl ?_
  refine g_iconst (pc := 16) (v := 0) (dd d_Mod_readPolicy 10 rfl) (by decide) ?_
  refine g_putiN (pc := 17) (dd d_Mod_readPolicy 11 rfl) f_Mod_349 fm_Mod_18 ob_MO rfl (fun I4 hI4 => ?_)
  replace h := lt_e h hI4
  refine g_aload_n (pc := 20) (dd d_Mod_readPolicy 12 rfl) rfl ?_
  refine g_iconst (pc := 21) (v := 0) (dd d_Mod_readPolicy 13 rfl) (by decide) ?_
  refine g_putiN (pc := 22) (dd d_Mod_readPolicy 14 rfl) f_Mod_331 fm_Mod_23 ob_MO rfl (fun I5 hI5 => ?_)
  replace h := lt_e h hI5
  refine g_iconst (pc := 25) (v := 0) (dd d_Mod_readPolicy 15 rfl) (by decide) ?_
  refine g_istore_n (pc := 26) (dd d_Mod_readPolicy 16 rfl) (by decide) ?_
  exact gl_Mod_readPolicy_27 hX hk hT  _ _ _ h
def l_Mod_swapTexts_2 (n : Nat)  : Nat → Int32 → IM → Option (IM)
  | 0, _, _ => none
  | f + 1, x1, I => if (900 : Int32) ≤ x1 then (lt (up I MO 2 (I MO 32)) fun I2 => lt (up I2 MO 32 (I MO 2)) fun I3 => some I3) else (chk (inb x1 900) <| lt (up I A_signs x1.toNatClampNeg (I A_kept x1.toNatClampNeg)) fun I5 => lt (up I5 A_kept x1.toNatClampNeg (I A_signs x1.toNatClampNeg)) fun I6 => (l_Mod_swapTexts_2 n  f) (x1 + 1) I6)
set_option maxRecDepth 20000 in
set_option maxHeartbeats 4000000 in
theorem gl_Mod_swapTexts_2 {Δ : Dx} {X : Lx} (hX : MX Δ X)   {n : Nat} {Γ : Cx} (hk : Γ.k = 0) {r : IM} (hT : Tg Δ Γ none NN (r, X) 0 0)  : ∀ (f : Nat) (x1 : Int32) (I : IM), l_Mod_swapTexts_2 n  f x1 I = some r → GG Δ m_Mod_swapTexts Γ NN 0 0 (I, X) 2 [some (.ref (Δ.ba + MO)), some (.int (x1)), none] []
  | 0, _, _, h => by cases h
  | f + 1, x1, I, h => by
    have ih := gl_Mod_swapTexts_2 (n := n) hX hk hT  f
    rw [l_Mod_swapTexts_2] at h
    refine g_iload_n (pc := 2) (dd d_Mod_swapTexts 2 rfl) rfl ?_
    refine g_sipush (pc := 3) (v := 900) (dd d_Mod_swapTexts 3 rfl) (by decide) ?_
    refine g_icmpge (pc := 6) (tgt := 41) (dd d_Mod_swapTexts 4 rfl) (by decide) (fun q1 => ?_) (fun q1 => ?_)
    · replace h := ite_t h q1
      refine g_aload_n (pc := 41) (dd d_Mod_swapTexts 25 rfl) rfl ?_
      refine g_geti (pc := 42) (dd d_Mod_swapTexts 26 rfl) f_Mod_247 ob_MO rfl ?_
      refine g_istore_n (pc := 45) (dd d_Mod_swapTexts 27 rfl) (by decide) ?_
      refine g_aload_n (pc := 46) (dd d_Mod_swapTexts 28 rfl) rfl ?_
      refine g_aload_n (pc := 47) (dd d_Mod_swapTexts 29 rfl) rfl ?_
      refine g_geti (pc := 48) (dd d_Mod_swapTexts 30 rfl) f_Mod_367 ob_MO rfl ?_
      refine g_putiN (pc := 51) (dd d_Mod_swapTexts 31 rfl) f_Mod_247 fm_Mod_2 ob_MO rfl (fun I2 hI2 => ?_)
      replace h := lt_e h hI2
      refine g_aload_n (pc := 54) (dd d_Mod_swapTexts 32 rfl) rfl ?_
      refine g_iload_n (pc := 55) (dd d_Mod_swapTexts 33 rfl) rfl ?_
      refine g_putiN (pc := 56) (dd d_Mod_swapTexts 34 rfl) f_Mod_367 fm_Mod_32 ob_MO rfl (fun I3 hI3 => ?_)
      replace h := lt_e h hI3
      cases h
      exact g_vret (pc := 59) rfl (dd d_Mod_swapTexts 35 rfl) hT
    · replace h := ite_f h q1
      refine g_aload_n (pc := 9) (dd d_Mod_swapTexts 5 rfl) rfl ?_
      refine g_getr (pc := 10) (dd d_Mod_swapTexts 6 rfl) f_Mod_7 ob_MO rfl (mr_signs hX) ?_
      refine g_iload_n (pc := 13) (dd d_Mod_swapTexts 7 rfl) rfl ?_
      obtain ⟨c4, h⟩ := chk_e h
      refine g_iald (pc := 14) (dd d_Mod_swapTexts 8 rfl) ar_A_signs c4 ?_
      refine g_istore_n (pc := 15) (dd d_Mod_swapTexts 9 rfl) (by decide) ?_
      refine g_aload_n (pc := 16) (dd d_Mod_swapTexts 10 rfl) rfl ?_
      refine g_getr (pc := 17) (dd d_Mod_swapTexts 11 rfl) f_Mod_7 ob_MO rfl (mr_signs hX) ?_
      refine g_iload_n (pc := 20) (dd d_Mod_swapTexts 12 rfl) rfl ?_
      refine g_aload_n (pc := 21) (dd d_Mod_swapTexts 13 rfl) rfl ?_
      refine g_getr (pc := 22) (dd d_Mod_swapTexts 14 rfl) f_Mod_56 ob_MO rfl (mr_kept hX) ?_
      refine g_iload_n (pc := 25) (dd d_Mod_swapTexts 15 rfl) rfl ?_
      refine g_iald (pc := 26) (dd d_Mod_swapTexts 16 rfl) ar_A_kept c4 ?_
      refine g_iastN (pc := 27) (dd d_Mod_swapTexts 17 rfl) ar_A_signs c4 (fun I5 hI5 => ?_)
      replace h := lt_e h hI5
      refine g_aload_n (pc := 28) (dd d_Mod_swapTexts 18 rfl) rfl ?_
      refine g_getr (pc := 29) (dd d_Mod_swapTexts 19 rfl) f_Mod_56 ob_MO rfl (mr_kept hX) ?_
      refine g_iload_n (pc := 32) (dd d_Mod_swapTexts 20 rfl) rfl ?_
      refine g_iload_n (pc := 33) (dd d_Mod_swapTexts 21 rfl) rfl ?_
      refine g_iastN (pc := 34) (dd d_Mod_swapTexts 22 rfl) ar_A_kept c4 (fun I6 hI6 => ?_)
      replace h := lt_e h hI6
      refine g_iincW (pc := 35) (w := 1) (dd d_Mod_swapTexts 23 rfl) rfl (by decide) (by decide) ?_
      refine g_goto (pc := 38) (tgt := 2) (dd d_Mod_swapTexts 24 rfl) (by decide) ?_
      refine g_drop [2] ?_
      exact ih _ _ h
def f_Mod_swapTexts (n : Nat) (I : IM) : Option (IM) := l_Mod_swapTexts_2 n  n 0 I
set_option maxRecDepth 20000 in
set_option maxHeartbeats 4000000 in
theorem ef_Mod_swapTexts {Δ : Dx} {X : Lx} (hX : MX Δ X) {n : Nat}  {I : IM}  {r : IM} (h : f_Mod_swapTexts n I = some r) : Ev Δ 0 m_Mod_swapTexts [.ref (Δ.ba + MO)] (I, X) none (r, X) := by
  refine ev_of (by decide) (Nat.le_of_ble_eq_true rfl) (fun Γ hk hR hT => ?_)
  change GG Δ m_Mod_swapTexts Γ NN 0 0 (I, X) 0 [some (.ref (Δ.ba + MO)), none, none] []
  unfold f_Mod_swapTexts at h
  refine g_iconst (pc := 0) (v := 0) (dd d_Mod_swapTexts 0 rfl) (by decide) ?_
  refine g_istore_n (pc := 1) (dd d_Mod_swapTexts 1 rfl) (by decide) ?_
  exact gl_Mod_swapTexts_2 hX hk hT  _ _ _ h
def b_Mod_policy_135 (n : Nat) (J : JM) (H90 : Int32 → IM → Option (Int32 × IM)) (x2 : Int32) (y2 : Int32) (y1 : Int32) (I : IM) : Option (Int32 × IM) := chk (inb y1 996) <| lt (up I A_other y1.toNatClampNeg (y2)) fun I26 => H90 (x2 + 1) I26
set_option maxRecDepth 20000 in
set_option maxHeartbeats 4000000 in
theorem gb_Mod_policy_135 {Δ : Dx} {X : Lx} (hX : MX Δ X)   {n : Nat} {Γ : Cx} (hk : Γ.k = 8) {r : Int32 × IM} (hT : Tg Δ Γ (some (.int r.1)) NN (r.2, X) 0 0) {H90 : Int32 → IM → Option (Int32 × IM)} (hH90 : ∀ (x2 : Int32) (I : IM), H90 x2 I = some r → GG Δ m_Mod_policy Γ NN 0 0 (I, X) 90 [some (.ref (Δ.ba + MO)), none, some (.int (x2))] []) {x2 : Int32} {y2 : Int32} {y1 : Int32} {I : IM} (h : b_Mod_policy_135 n X.1 H90 x2 y2 y1 I = some r) : GG Δ m_Mod_policy Γ NN 0 0 (I, X) 135 [some (.ref (Δ.ba + MO)), none, some (.int (x2))] [.int (y2), .int (y1), .ref (Δ.ba + A_other)] := by
  unfold b_Mod_policy_135 at h
  obtain ⟨c25, h⟩ := chk_e h
  refine g_iastN (pc := 135) (dd d_Mod_policy_1 15 rfl) ar_A_other c25 (fun I26 hI26 => ?_)
  replace h := lt_e h hI26
  refine g_iincW (pc := 136) (w := 1) (dd d_Mod_policy_1 16 rfl) rfl (by decide) (by decide) ?_
  refine g_goto (pc := 139) (tgt := 90) (dd d_Mod_policy_1 17 rfl) (by decide) ?_
  exact hH90 _ _ h
def b_Mod_policy_125 (n : Nat) (J : JM) (H90 : Int32 → IM → Option (Int32 × IM)) (x2 : Int32) (y1 : Int32) (I : IM) : Option (Int32 × IM) := b_Mod_policy_135 n J H90 x2 0 y1 I
set_option maxRecDepth 20000 in
set_option maxHeartbeats 4000000 in
theorem gb_Mod_policy_125 {Δ : Dx} {X : Lx} (hX : MX Δ X)   {n : Nat} {Γ : Cx} (hk : Γ.k = 8) {r : Int32 × IM} (hT : Tg Δ Γ (some (.int r.1)) NN (r.2, X) 0 0) {H90 : Int32 → IM → Option (Int32 × IM)} (hH90 : ∀ (x2 : Int32) (I : IM), H90 x2 I = some r → GG Δ m_Mod_policy Γ NN 0 0 (I, X) 90 [some (.ref (Δ.ba + MO)), none, some (.int (x2))] []) {x2 : Int32} {y1 : Int32} {I : IM} (h : b_Mod_policy_125 n X.1 H90 x2 y1 I = some r) : GG Δ m_Mod_policy Γ NN 0 0 (I, X) 125 [some (.ref (Δ.ba + MO)), none, some (.int (x2))] [.int (y1), .ref (Δ.ba + A_other)] := by
  unfold b_Mod_policy_125 at h
  refine g_iconst (pc := 125) (v := 0) (dd d_Mod_policy_1 9 rfl) (by decide) ?_
  refine g_goto (pc := 126) (tgt := 135) (dd d_Mod_policy_1 10 rfl) (by decide) ?_
  exact gb_Mod_policy_135 hX hk hT hH90 h
def l_Mod_policy_90 (n : Nat) (J : JM)  : Nat → Int32 → IM → Option (Int32 × IM)
  | 0, _, _ => none
  | f + 1, x2, I => if (16 : Int32) ≤ x2 then (some ((-1), I)) else (if x2 = (9 : Int32) then (b_Mod_policy_125 n J (l_Mod_policy_90 n J  f) x2 x2 I) else (if x2 = (10 : Int32) then (b_Mod_policy_125 n J (l_Mod_policy_90 n J  f) x2 x2 I) else (if x2 = (12 : Int32) then (b_Mod_policy_125 n J (l_Mod_policy_90 n J  f) x2 x2 I) else (if x2 = (13 : Int32) then (b_Mod_policy_125 n J (l_Mod_policy_90 n J  f) x2 x2 I) else (chk (inb x2 996) <| b_Mod_policy_135 n J (l_Mod_policy_90 n J  f) x2 (I A_other x2.toNatClampNeg) x2 I)))))
set_option maxRecDepth 20000 in
set_option maxHeartbeats 4000000 in
theorem gl_Mod_policy_90 {Δ : Dx} {X : Lx} (hX : MX Δ X)   {n : Nat} {Γ : Cx} (hk : Γ.k = 8) {r : Int32 × IM} (hT : Tg Δ Γ (some (.int r.1)) NN (r.2, X) 0 0)  : ∀ (f : Nat) (x2 : Int32) (I : IM), l_Mod_policy_90 n X.1  f x2 I = some r → GG Δ m_Mod_policy Γ NN 0 0 (I, X) 90 [some (.ref (Δ.ba + MO)), none, some (.int (x2))] []
  | 0, _, _, h => by cases h
  | f + 1, x2, I, h => by
    have ih := gl_Mod_policy_90 (n := n) hX hk hT  f
    rw [l_Mod_policy_90] at h
    refine g_iload_n (pc := 90) (dd d_Mod_policy 51 rfl) rfl ?_
    refine g_bipush (pc := 91) (v := 16) (dd d_Mod_policy 52 rfl) (by decide) ?_
    refine g_icmpge (pc := 93) (tgt := 142) (dd d_Mod_policy 53 rfl) (by decide) (fun q19 => ?_) (fun q19 => ?_)
    · replace h := ite_t h q19
      refine g_iconst (pc := 142) (v := (-1)) (dd d_Mod_policy_1 18 rfl) (by decide) ?_
      cases h
      exact g_iret (pc := 143) rfl (dd d_Mod_policy_1 19 rfl) hT
    · replace h := ite_f h q19
      refine g_aload_n (pc := 96) (dd d_Mod_policy 54 rfl) rfl ?_
      refine g_getr (pc := 97) (dd d_Mod_policy 55 rfl) f_Mod_126 ob_MO rfl (mr_other hX) ?_
      refine g_iload_n (pc := 100) (dd d_Mod_policy 56 rfl) rfl ?_
      refine g_iload_n (pc := 101) (dd d_Mod_policy 57 rfl) rfl ?_
      refine g_bipush (pc := 102) (v := 9) (dd d_Mod_policy 58 rfl) (by decide) ?_
      refine g_icmpeq (pc := 104) (tgt := 125) (dd d_Mod_policy 59 rfl) (by decide) (fun q20 => ?_) (fun q20 => ?_)
      · replace h := ite_t h q20
        exact gb_Mod_policy_125 hX hk hT ih h
      · replace h := ite_f h q20
        refine g_iload_n (pc := 107) (dd d_Mod_policy_1 0 rfl) rfl ?_
        refine g_bipush (pc := 108) (v := 10) (dd d_Mod_policy_1 1 rfl) (by decide) ?_
        refine g_icmpeq (pc := 110) (tgt := 125) (dd d_Mod_policy_1 2 rfl) (by decide) (fun q21 => ?_) (fun q21 => ?_)
        · replace h := ite_t h q21
          exact gb_Mod_policy_125 hX hk hT ih h
        · replace h := ite_f h q21
          refine g_iload_n (pc := 113) (dd d_Mod_policy_1 3 rfl) rfl ?_
          refine g_bipush (pc := 114) (v := 12) (dd d_Mod_policy_1 4 rfl) (by decide) ?_
          refine g_icmpeq (pc := 116) (tgt := 125) (dd d_Mod_policy_1 5 rfl) (by decide) (fun q22 => ?_) (fun q22 => ?_)
          · replace h := ite_t h q22
            exact gb_Mod_policy_125 hX hk hT ih h
          · replace h := ite_f h q22
            refine g_iload_n (pc := 119) (dd d_Mod_policy_1 6 rfl) rfl ?_
            refine g_bipush (pc := 120) (v := 13) (dd d_Mod_policy_1 7 rfl) (by decide) ?_
            refine g_icmpne (pc := 122) (tgt := 129) (dd d_Mod_policy_1 8 rfl) (by decide) (fun q23 => ?_) (fun q23 => ?_)
            · replace h := ite_f h q23
              refine g_aload_n (pc := 129) (dd d_Mod_policy_1 11 rfl) rfl ?_
              refine g_getr (pc := 130) (dd d_Mod_policy_1 12 rfl) f_Mod_126 ob_MO rfl (mr_other hX) ?_
              refine g_iload_n (pc := 133) (dd d_Mod_policy_1 13 rfl) rfl ?_
              obtain ⟨c24, h⟩ := chk_e h
              refine g_iald (pc := 134) (dd d_Mod_policy_1 14 rfl) ar_A_other c24 ?_
              exact gb_Mod_policy_135 hX hk hT ih h
            · replace h := ite_t h q23
              exact gb_Mod_policy_125 hX hk hT ih h
def l_Mod_policy_34 (n : Nat) (J : JM)  : Nat → Int32 → IM → Option (Int32 × IM)
  | 0, _, _ => none
  | f + 1, x2, I => if (900 : Int32) ≤ x2 then (lt (up I MO 32 (I MO 2)) fun I12 => lt (up I12 MO 58 (0)) fun I13 => lt (up I13 MO 59 (0)) fun I14 => lt (up I14 MO 53 (0)) fun I15 => lt (up I15 MO 54 (0)) fun I16 => l_Mod_policy_90 n J  n 9 I16) else (chk (inb x2 900) <| lt (up I A_kept x2.toNatClampNeg (I A_signs x2.toNatClampNeg)) fun I18 => (l_Mod_policy_34 n J  f) (x2 + 1) I18)
set_option maxRecDepth 20000 in
set_option maxHeartbeats 4000000 in
theorem gl_Mod_policy_34 {Δ : Dx} {X : Lx} (hX : MX Δ X)   {n : Nat} {Γ : Cx} (hk : Γ.k = 8) {r : Int32 × IM} (hT : Tg Δ Γ (some (.int r.1)) NN (r.2, X) 0 0)  : ∀ (f : Nat) (x2 : Int32) (I : IM), l_Mod_policy_34 n X.1  f x2 I = some r → GG Δ m_Mod_policy Γ NN 0 0 (I, X) 34 [some (.ref (Δ.ba + MO)), none, some (.int (x2))] []
  | 0, _, _, h => by cases h
  | f + 1, x2, I, h => by
    have ih := gl_Mod_policy_34 (n := n) hX hk hT  f
    rw [l_Mod_policy_34] at h
    refine g_iload_n (pc := 34) (dd d_Mod_policy 20 rfl) rfl ?_
    refine g_sipush (pc := 35) (v := 900) (dd d_Mod_policy 21 rfl) (by decide) ?_
    refine g_icmpge (pc := 38) (tgt := 59) (dd d_Mod_policy 22 rfl) (by decide) (fun q11 => ?_) (fun q11 => ?_)
    · replace h := ite_t h q11
      refine g_aload_n (pc := 59) (dd d_Mod_policy 33 rfl) rfl ?_
      refine g_aload_n (pc := 60) (dd d_Mod_policy 34 rfl) rfl ?_
      refine g_geti (pc := 61) (dd d_Mod_policy 35 rfl) f_Mod_247 ob_MO rfl ?_
      refine g_putiN (pc := 64) (dd d_Mod_policy 36 rfl) f_Mod_367 fm_Mod_32 ob_MO rfl (fun I12 hI12 => ?_)
      replace h := lt_e h hI12
      refine g_aload_n (pc := 67) (dd d_Mod_policy 37 rfl) rfl ?_
      refine g_iconst (pc := 68) (v := 0) (dd d_Mod_policy 38 rfl) (by decide) ?_
      refine g_putiN (pc := 69) (dd d_Mod_policy 39 rfl) f_Mod_376 fm_Mod_58 ob_MO rfl (fun I13 hI13 => ?_)
      replace h := lt_e h hI13
      refine g_aload_n (pc := 72) (dd d_Mod_policy 40 rfl) rfl ?_
      refine g_iconst (pc := 73) (v := 0) (dd d_Mod_policy 41 rfl) (by decide) ?_
      refine g_putiN (pc := 74) (dd d_Mod_policy 42 rfl) f_Mod_379 fm_Mod_59 ob_MO rfl (fun I14 hI14 => ?_)
      replace h := lt_e h hI14
      refine g_aload_n (pc := 77) (dd d_Mod_policy 43 rfl) rfl ?_
      refine g_iconst (pc := 78) (v := 0) (dd d_Mod_policy 44 rfl) (by decide) ?_
      refine g_putiN (pc := 79) (dd d_Mod_policy 45 rfl) f_Mod_382 fm_Mod_53 ob_MO rfl (fun I15 hI15 => ?_)
      replace h := lt_e h hI15
      refine g_aload_n (pc := 82) (dd d_Mod_policy 46 rfl) rfl ?_
      refine g_iconst (pc := 83) (v := 0) (dd d_Mod_policy 47 rfl) (by decide) ?_
      refine g_putiN (pc := 84) (dd d_Mod_policy 48 rfl) f_Mod_385 fm_Mod_54 ob_MO rfl (fun I16 hI16 => ?_)
      replace h := lt_e h hI16
      refine g_bipush (pc := 87) (v := 9) (dd d_Mod_policy 49 rfl) (by decide) ?_
      refine g_istore_n (pc := 89) (dd d_Mod_policy 50 rfl) (by decide) ?_
      exact gl_Mod_policy_90 hX hk hT  _ _ _ h
    · replace h := ite_f h q11
      refine g_aload_n (pc := 41) (dd d_Mod_policy 23 rfl) rfl ?_
      refine g_getr (pc := 42) (dd d_Mod_policy 24 rfl) f_Mod_56 ob_MO rfl (mr_kept hX) ?_
      refine g_iload_n (pc := 45) (dd d_Mod_policy 25 rfl) rfl ?_
      refine g_aload_n (pc := 46) (dd d_Mod_policy 26 rfl) rfl ?_
      refine g_getr (pc := 47) (dd d_Mod_policy 27 rfl) f_Mod_7 ob_MO rfl (mr_signs hX) ?_
      refine g_iload_n (pc := 50) (dd d_Mod_policy 28 rfl) rfl ?_
      obtain ⟨c17, h⟩ := chk_e h
      refine g_iald (pc := 51) (dd d_Mod_policy 29 rfl) ar_A_signs c17 ?_
      refine g_iastN (pc := 52) (dd d_Mod_policy 30 rfl) ar_A_kept c17 (fun I18 hI18 => ?_)
      replace h := lt_e h hI18
      refine g_iincW (pc := 53) (w := 1) (dd d_Mod_policy 31 rfl) rfl (by decide) (by decide) ?_
      refine g_goto (pc := 56) (tgt := 34) (dd d_Mod_policy 32 rfl) (by decide) ?_
      exact ih _ _ h
def f_Mod_policy (n : Nat) (J : JM) (I : IM) : Option (Int32 × IM) := lt (up I MO 0 (0)) fun I1 => Option.bind (f_Mod_readPolicy n J I1) fun v2 => if (v2 MO 14 : Int32) < 0 then (l_Mod_policy_34 n J  n 0 v2) else (Option.bind (f_Mod_swapTexts n  v2) fun v5 => Option.bind (f_Mod_readPolicy n J v5) fun v7 => Option.bind (f_Mod_swapTexts n  v7) fun v9 => some (v2 MO 14, v9))
set_option maxRecDepth 20000 in
set_option maxHeartbeats 4000000 in
theorem ef_Mod_policy {Δ : Dx} {X : Lx} (hX : MX Δ X) {n : Nat}  {I : IM}  {r : Int32 × IM} (h : f_Mod_policy n X.1 I = some r) : Ev Δ 8 m_Mod_policy [.ref (Δ.ba + MO)] (I, X) (some (.int r.1)) (r.2, X) := by
  refine ev_of (by decide) (Nat.le_of_ble_eq_true rfl) (fun Γ hk hR hT => ?_)
  change GG Δ m_Mod_policy Γ NN 0 0 (I, X) 0 [some (.ref (Δ.ba + MO)), none, none] []
  unfold f_Mod_policy at h
  refine g_aload_n (pc := 0) (dd d_Mod_policy 0 rfl) rfl ?_
  refine g_iconst (pc := 1) (v := 0) (dd d_Mod_policy 1 rfl) (by decide) ?_
  refine g_putiN (pc := 2) (dd d_Mod_policy 2 rfl) f_Mod_240 fm_Mod_0 ob_MO rfl (fun I1 hI1 => ?_)
  replace h := lt_e h hI1
  refine g_aload_n (pc := 5) (dd d_Mod_policy 3 rfl) rfl ?_
  obtain ⟨v2, e3, h⟩ := bnd_e h
  refine g_callV (pc := 6) (dd d_Mod_policy 4 rfl) v_Mod_370 ob_MO rfl (ef_Mod_readPolicy hX e3) rfl (by rw [hk]; decide) (Nat.le_of_ble_eq_true rfl) ⟨Nat.zero_le _, Nat.zero_le _⟩ rfl ?_
  refine g_aload_n (pc := 9) (dd d_Mod_policy 5 rfl) rfl ?_
  refine g_geti (pc := 10) (dd d_Mod_policy 6 rfl) f_Mod_280 ob_MO rfl ?_
  refine g_istore_n (pc := 13) (dd d_Mod_policy 7 rfl) (by decide) ?_
  refine g_iload_n (pc := 14) (dd d_Mod_policy 8 rfl) rfl ?_
  refine g_iflt (pc := 15) (tgt := 32) (dd d_Mod_policy 9 rfl) (by decide) (fun q4 => ?_) (fun q4 => ?_)
  · replace h := ite_t h q4
    refine g_iconst (pc := 32) (v := 0) (dd d_Mod_policy 18 rfl) (by decide) ?_
    refine g_istore_n (pc := 33) (dd d_Mod_policy 19 rfl) (by decide) ?_
    refine g_drop [1] ?_
    exact gl_Mod_policy_34 hX hk hT  _ _ _ h
  · replace h := ite_f h q4
    refine g_aload_n (pc := 18) (dd d_Mod_policy 10 rfl) rfl ?_
    obtain ⟨v5, e6, h⟩ := bnd_e h
    refine g_callV (pc := 19) (dd d_Mod_policy 11 rfl) v_Mod_373 ob_MO rfl (ef_Mod_swapTexts hX e6) rfl (by rw [hk]; decide) (Nat.le_of_ble_eq_true rfl) ⟨Nat.zero_le _, Nat.zero_le _⟩ rfl ?_
    refine g_aload_n (pc := 22) (dd d_Mod_policy 12 rfl) rfl ?_
    obtain ⟨v7, e8, h⟩ := bnd_e h
    refine g_callV (pc := 23) (dd d_Mod_policy 13 rfl) v_Mod_370 ob_MO rfl (ef_Mod_readPolicy hX e8) rfl (by rw [hk]; decide) (Nat.le_of_ble_eq_true rfl) ⟨Nat.zero_le _, Nat.zero_le _⟩ rfl ?_
    refine g_aload_n (pc := 26) (dd d_Mod_policy 14 rfl) rfl ?_
    obtain ⟨v9, e10, h⟩ := bnd_e h
    refine g_callV (pc := 27) (dd d_Mod_policy 15 rfl) v_Mod_373 ob_MO rfl (ef_Mod_swapTexts hX e10) rfl (by rw [hk]; decide) (Nat.le_of_ble_eq_true rfl) ⟨Nat.zero_le _, Nat.zero_le _⟩ rfl ?_
    refine g_iload_n (pc := 30) (dd d_Mod_policy 16 rfl) rfl ?_
    cases h
    exact g_iret (pc := 31) rfl (dd d_Mod_policy 17 rfl) hT
def b_Mod_names_49   (y0 : Int32) (I : IM) : Option (Int32 × IM) := some (y0, I)
set_option maxRecDepth 20000 in
set_option maxHeartbeats 4000000 in
theorem gb_Mod_names_49 {Δ : Dx} {X : Lx} (hX : MX Δ X)    {Γ : Cx} (hk : Γ.k = 1) {r : Int32 × IM} (hT : Tg Δ Γ (some (.int r.1)) NN (r.2, X) 0 0)  {y0 : Int32} {I : IM} (h : b_Mod_names_49   y0 I = some r) : GG Δ m_Mod_names Γ NN 0 0 (I, X) 49 [none, none] [.int (y0)] := by
  unfold b_Mod_names_49 at h
  cases h
  exact g_iret (pc := 49) rfl (dd d_Mod_names 28 rfl) hT
def f_Mod_names (x1 : Int32) (I : IM) : Option (Int32 × IM) := Option.bind (f_Mod_in  x1 0 21 I) fun v1 => Option.bind (f_Mod_refuse  (if v1 = 0 then 1 else 0) 0 I) fun v4 => if (v4.1 : Int32) = 0 then (chk (inb x1 44) <| if 0 ≤ (v4.2 A_ruleOf x1.toNatClampNeg : Int32) then (chk (inb (v4.2 A_ruleOf x1.toNatClampNeg) 602) <| b_Mod_names_49   (v4.2 A_named (v4.2 A_ruleOf x1.toNatClampNeg : Int32).toNatClampNeg) v4.2) else (b_Mod_names_49   (-1) v4.2)) else (some (0, v4.2))
set_option maxRecDepth 20000 in
set_option maxHeartbeats 4000000 in
theorem ef_Mod_names {Δ : Dx} {X : Lx} (hX : MX Δ X) {x1 : Int32}  {I : IM}  {r : Int32 × IM} (h : f_Mod_names x1 I = some r) : Ev Δ 1 m_Mod_names [.ref (Δ.ba + MO), .int x1] (I, X) (some (.int r.1)) (r.2, X) := by
  refine ev_of (by decide) (Nat.le_of_ble_eq_true rfl) (fun Γ hk hR hT => ?_)
  change GG Δ m_Mod_names Γ NN 0 0 (I, X) 0 [some (.ref (Δ.ba + MO)), some (.int (x1))] []
  unfold f_Mod_names at h
  refine g_aload_n (pc := 0) (dd d_Mod_names 0 rfl) rfl ?_
  refine g_iload_n (pc := 1) (dd d_Mod_names 1 rfl) rfl ?_
  refine g_iconst (pc := 2) (v := 0) (dd d_Mod_names 2 rfl) (by decide) ?_
  refine g_bipush (pc := 3) (v := 21) (dd d_Mod_names 3 rfl) (by decide) ?_
  obtain ⟨v1, e2, h⟩ := bnd_e h
  refine g_callS (pc := 5) (dd d_Mod_names 4 rfl) s_Mod_243 (ef_Mod_in hX e2) rfl (by rw [hk]; decide) (Nat.le_of_ble_eq_true rfl) ⟨Nat.zero_le _, Nat.zero_le _⟩ rfl ?_
  suffices K8 : ∀ z : Int32, z = (if v1 = 0 then 1 else 0 : Int32) → GG Δ m_Mod_names Γ NN 0 0 (I, X) 16 [some (.ref (Δ.ba + MO)), some (.int (x1))] [.int (z), .ref (Δ.ba + MO)] by
    refine g_ifne (pc := 8) (tgt := 15) (dd d_Mod_names 5 rfl) (by decide) (fun q3 => ?_) (fun q3 => ?_)
    · skip
      refine g_iconst (pc := 15) (v := 0) (dd d_Mod_names 8 rfl) (by decide) ?_
      exact K8 _ (by rw [if_neg q3])
    · skip
      refine g_iconst (pc := 11) (v := 1) (dd d_Mod_names 6 rfl) (by decide) ?_
      refine g_goto (pc := 12) (tgt := 16) (dd d_Mod_names 7 rfl) (by decide) ?_
      exact K8 _ (by rw [if_pos q3])
  intro z hz
  subst hz
  refine g_iconst (pc := 16) (v := 0) (dd d_Mod_names 9 rfl) (by decide) ?_
  obtain ⟨v4, e5, h⟩ := bnd_e h
  refine g_callV (pc := 17) (dd d_Mod_names 10 rfl) v_Mod_250 ob_MO rfl (ef_Mod_refuse hX e5) rfl (by rw [hk]; decide) (Nat.le_of_ble_eq_true rfl) ⟨Nat.zero_le _, Nat.zero_le _⟩ rfl ?_
  refine g_ifeq (pc := 20) (tgt := 25) (dd d_Mod_names 11 rfl) (by decide) (fun q6 => ?_) (fun q6 => ?_)
  · replace h := ite_t h q6
    refine g_aload_n (pc := 25) (dd d_Mod_names 14 rfl) rfl ?_
    refine g_getr (pc := 26) (dd d_Mod_names 15 rfl) f_Mod_44 ob_MO rfl (mr_ruleOf hX) ?_
    refine g_iload_n (pc := 29) (dd d_Mod_names 16 rfl) rfl ?_
    obtain ⟨c7, h⟩ := chk_e h
    refine g_iald (pc := 30) (dd d_Mod_names 17 rfl) ar_A_ruleOf c7 ?_
    refine g_ifge (pc := 31) (tgt := 38) (dd d_Mod_names 18 rfl) (by decide) (fun q8 => ?_) (fun q8 => ?_)
    · replace h := ite_t h q8
      refine g_aload_n (pc := 38) (dd d_Mod_names 21 rfl) rfl ?_
      refine g_getr (pc := 39) (dd d_Mod_names 22 rfl) f_Mod_47 ob_MO rfl (mr_named hX) ?_
      refine g_aload_n (pc := 42) (dd d_Mod_names 23 rfl) rfl ?_
      refine g_getr (pc := 43) (dd d_Mod_names 24 rfl) f_Mod_44 ob_MO rfl (mr_ruleOf hX) ?_
      refine g_iload_n (pc := 46) (dd d_Mod_names 25 rfl) rfl ?_
      refine g_iald (pc := 47) (dd d_Mod_names 26 rfl) ar_A_ruleOf c7 ?_
      obtain ⟨c9, h⟩ := chk_e h
      refine g_iald (pc := 48) (dd d_Mod_names 27 rfl) ar_A_named c9 ?_
      refine g_drop [0, 1] ?_
      exact gb_Mod_names_49 hX hk hT  h
    · replace h := ite_f h q8
      refine g_iconst (pc := 34) (v := (-1)) (dd d_Mod_names 19 rfl) (by decide) ?_
      refine g_goto (pc := 35) (tgt := 49) (dd d_Mod_names 20 rfl) (by decide) ?_
      refine g_drop [0, 1] ?_
      exact gb_Mod_names_49 hX hk hT  h
  · replace h := ite_f h q6
    refine g_iconst (pc := 23) (v := 0) (dd d_Mod_names 12 rfl) (by decide) ?_
    cases h
    exact g_iret (pc := 24) rfl (dd d_Mod_names 13 rfl) hT
def l_Mod_setUp_173 (n : Nat)  : Nat → Int32 → IM → Option (IM)
  | 0, _, _ => none
  | f + 1, x2, I => if (88 : Int32) ≤ x2 then (some I) else (chk (inb x2 88) <| lt (up I A_counts x2.toNatClampNeg (0)) fun I32 => (l_Mod_setUp_173 n  f) (x2 + 1) I32)
set_option maxRecDepth 20000 in
set_option maxHeartbeats 4000000 in
theorem gl_Mod_setUp_173 {Δ : Dx} {X : Lx} (hX : MX Δ X)   {n : Nat} {Γ : Cx} (hk : Γ.k = 0) {r : IM} (hT : Tg Δ Γ none NN (r, X) 0 0)  : ∀ (f : Nat) (x2 : Int32) (I : IM), l_Mod_setUp_173 n  f x2 I = some r → GG Δ m_Mod_setUp Γ NN 0 0 (I, X) 173 [some (.ref (Δ.ba + MO)), none, some (.int (x2))] []
  | 0, _, _, h => by cases h
  | f + 1, x2, I, h => by
    have ih := gl_Mod_setUp_173 (n := n) hX hk hT  f
    rw [l_Mod_setUp_173] at h
    refine g_iload_n (pc := 173) (dd d_Mod_setUp_1 46 rfl) rfl ?_
    refine g_bipush (pc := 174) (v := 88) (dd d_Mod_setUp_1 47 rfl) (by decide) ?_
    refine g_icmpge (pc := 176) (tgt := 192) (dd d_Mod_setUp_1 48 rfl) (by decide) (fun q30 => ?_) (fun q30 => ?_)
    · replace h := ite_t h q30
      cases h
      exact g_vret (pc := 192) rfl (dd d_Mod_setUp_1 56 rfl) hT
    · replace h := ite_f h q30
      refine g_aload_n (pc := 179) (dd d_Mod_setUp_1 49 rfl) rfl ?_
      refine g_getr (pc := 180) (dd d_Mod_setUp_1 50 rfl) f_Mod_107 ob_MO rfl (mr_counts hX) ?_
      refine g_iload_n (pc := 183) (dd d_Mod_setUp_1 51 rfl) rfl ?_
      refine g_iconst (pc := 184) (v := 0) (dd d_Mod_setUp_1 52 rfl) (by decide) ?_
      obtain ⟨c31, h⟩ := chk_e h
      refine g_iastN (pc := 185) (dd d_Mod_setUp_1 53 rfl) ar_A_counts c31 (fun I32 hI32 => ?_)
      replace h := lt_e h hI32
      refine g_iincW (pc := 186) (w := 1) (dd d_Mod_setUp_1 54 rfl) rfl (by decide) (by decide) ?_
      refine g_goto (pc := 189) (tgt := 173) (dd d_Mod_setUp_1 55 rfl) (by decide) ?_
      exact ih _ _ h
def l_Mod_setUp_70 (n : Nat)  : Nat → Int32 → IM → Option (IM)
  | 0, _, _ => none
  | f + 1, x2, I => if (8 : Int32) ≤ x2 then (lt (up I MO 42 (0)) fun I12 => lt (up I12 MO 43 (0)) fun I13 => lt (up I13 MO 44 ((-1))) fun I14 => lt (up I14 MO 45 (0)) fun I15 => lt (up I15 MO 48 (0)) fun I16 => lt (up I16 MO 50 (0)) fun I17 => lt (up I17 MO 51 (0)) fun I18 => lt (up I18 MO 52 (0)) fun I19 => lt (up I19 MO 53 (0)) fun I20 => lt (up I20 MO 54 (0)) fun I21 => lt (up I21 MO 55 (0)) fun I22 => lt (up I22 MO 58 (0)) fun I23 => lt (up I23 MO 59 (0)) fun I24 => lt (up I24 MO 63 (0)) fun I25 => lt (up I25 MO 66 ((-1))) fun I26 => l_Mod_setUp_173 n  n 0 I26) else (chk (inb x2 8) <| lt (up I A_registers x2.toNatClampNeg (0)) fun I28 => lt (up I28 A_registerTags x2.toNatClampNeg (0)) fun I29 => (l_Mod_setUp_70 n  f) (x2 + 1) I29)
set_option maxRecDepth 20000 in
set_option maxHeartbeats 4000000 in
theorem gl_Mod_setUp_70 {Δ : Dx} {X : Lx} (hX : MX Δ X)   {n : Nat} {Γ : Cx} (hk : Γ.k = 0) {r : IM} (hT : Tg Δ Γ none NN (r, X) 0 0)  : ∀ (f : Nat) (x2 : Int32) (I : IM), l_Mod_setUp_70 n  f x2 I = some r → GG Δ m_Mod_setUp Γ NN 0 0 (I, X) 70 [some (.ref (Δ.ba + MO)), none, some (.int (x2))] []
  | 0, _, _, h => by cases h
  | f + 1, x2, I, h => by
    have ih := gl_Mod_setUp_70 (n := n) hX hk hT  f
    rw [l_Mod_setUp_70] at h
    refine g_iload_n (pc := 70) (dd d_Mod_setUp 44 rfl) rfl ?_
    refine g_bipush (pc := 71) (v := 8) (dd d_Mod_setUp 45 rfl) (by decide) ?_
    refine g_icmpge (pc := 73) (tgt := 96) (dd d_Mod_setUp 46 rfl) (by decide) (fun q11 => ?_) (fun q11 => ?_)
    · replace h := ite_t h q11
      refine g_aload_n (pc := 96) (dd d_Mod_setUp 59 rfl) rfl ?_
      refine g_iconst (pc := 97) (v := 0) (dd d_Mod_setUp_1 0 rfl) (by decide) ?_
      refine g_putiN (pc := 98) (dd d_Mod_setUp_1 1 rfl) f_Mod_391 fm_Mod_42 ob_MO rfl (fun I12 hI12 => ?_)
      replace h := lt_e h hI12
      refine g_aload_n (pc := 101) (dd d_Mod_setUp_1 2 rfl) rfl ?_
      refine g_iconst (pc := 102) (v := 0) (dd d_Mod_setUp_1 3 rfl) (by decide) ?_
      refine g_putiN (pc := 103) (dd d_Mod_setUp_1 4 rfl) f_Mod_394 fm_Mod_43 ob_MO rfl (fun I13 hI13 => ?_)
      replace h := lt_e h hI13
      refine g_aload_n (pc := 106) (dd d_Mod_setUp_1 5 rfl) rfl ?_
      refine g_iconst (pc := 107) (v := (-1)) (dd d_Mod_setUp_1 6 rfl) (by decide) ?_
      refine g_putiN (pc := 108) (dd d_Mod_setUp_1 7 rfl) f_Mod_397 fm_Mod_44 ob_MO rfl (fun I14 hI14 => ?_)
      replace h := lt_e h hI14
      refine g_aload_n (pc := 111) (dd d_Mod_setUp_1 8 rfl) rfl ?_
      refine g_iconst (pc := 112) (v := 0) (dd d_Mod_setUp_1 9 rfl) (by decide) ?_
      refine g_putiN (pc := 113) (dd d_Mod_setUp_1 10 rfl) f_Mod_400 fm_Mod_45 ob_MO rfl (fun I15 hI15 => ?_)
      replace h := lt_e h hI15
      refine g_aload_n (pc := 116) (dd d_Mod_setUp_1 11 rfl) rfl ?_
      refine g_iconst (pc := 117) (v := 0) (dd d_Mod_setUp_1 12 rfl) (by decide) ?_
      refine g_putiN (pc := 118) (dd d_Mod_setUp_1 13 rfl) f_Mod_403 fm_Mod_48 ob_MO rfl (fun I16 hI16 => ?_)
      replace h := lt_e h hI16
      refine g_aload_n (pc := 121) (dd d_Mod_setUp_1 14 rfl) rfl ?_
      refine g_iconst (pc := 122) (v := 0) (dd d_Mod_setUp_1 15 rfl) (by decide) ?_
      refine g_putiN (pc := 123) (dd d_Mod_setUp_1 16 rfl) f_Mod_406 fm_Mod_50 ob_MO rfl (fun I17 hI17 => ?_)
      replace h := lt_e h hI17
      refine g_aload_n (pc := 126) (dd d_Mod_setUp_1 17 rfl) rfl ?_
      refine g_iconst (pc := 127) (v := 0) (dd d_Mod_setUp_1 18 rfl) (by decide) ?_
      refine g_putiN (pc := 128) (dd d_Mod_setUp_1 19 rfl) f_Mod_409 fm_Mod_51 ob_MO rfl (fun I18 hI18 => ?_)
      replace h := lt_e h hI18
      refine g_aload_n (pc := 131) (dd d_Mod_setUp_1 20 rfl) rfl ?_
      refine g_iconst (pc := 132) (v := 0) (dd d_Mod_setUp_1 21 rfl) (by decide) ?_
      refine g_putiN (pc := 133) (dd d_Mod_setUp_1 22 rfl) f_Mod_412 fm_Mod_52 ob_MO rfl (fun I19 hI19 => ?_)
      replace h := lt_e h hI19
      refine g_aload_n (pc := 136) (dd d_Mod_setUp_1 23 rfl) rfl ?_
      refine g_iconst (pc := 137) (v := 0) (dd d_Mod_setUp_1 24 rfl) (by decide) ?_
      refine g_putiN (pc := 138) (dd d_Mod_setUp_1 25 rfl) f_Mod_382 fm_Mod_53 ob_MO rfl (fun I20 hI20 => ?_)
      replace h := lt_e h hI20
      refine g_aload_n (pc := 141) (dd d_Mod_setUp_1 26 rfl) rfl ?_
      refine g_iconst (pc := 142) (v := 0) (dd d_Mod_setUp_1 27 rfl) (by decide) ?_
      refine g_putiN (pc := 143) (dd d_Mod_setUp_1 28 rfl) f_Mod_385 fm_Mod_54 ob_MO rfl (fun I21 hI21 => ?_)
      replace h := lt_e h hI21
      refine g_aload_n (pc := 146) (dd d_Mod_setUp_1 29 rfl) rfl ?_
      refine g_iconst (pc := 147) (v := 0) (dd d_Mod_setUp_1 30 rfl) (by decide) ?_
      refine g_putiN (pc := 148) (dd d_Mod_setUp_1 31 rfl) f_Mod_415 fm_Mod_55 ob_MO rfl (fun I22 hI22 => ?_)
      replace h := lt_e h hI22
      refine g_aload_n (pc := 151) (dd d_Mod_setUp_1 32 rfl) rfl ?_
      refine g_iconst (pc := 152) (v := 0) (dd d_Mod_setUp_1 33 rfl) (by decide) ?_
      refine g_putiN (pc := 153) (dd d_Mod_setUp_1 34 rfl) f_Mod_376 fm_Mod_58 ob_MO rfl (fun I23 hI23 => ?_)
      replace h := lt_e h hI23
      refine g_aload_n (pc := 156) (dd d_Mod_setUp_1 35 rfl) rfl ?_
      refine g_iconst (pc := 157) (v := 0) (dd d_Mod_setUp_1 36 rfl) (by decide) ?_
      refine g_putiN (pc := 158) (dd d_Mod_setUp_1 37 rfl) f_Mod_379 fm_Mod_59 ob_MO rfl (fun I24 hI24 => ?_)
      replace h := lt_e h hI24
      refine g_aload_n (pc := 161) (dd d_Mod_setUp_1 38 rfl) rfl ?_
      refine g_iconst (pc := 162) (v := 0) (dd d_Mod_setUp_1 39 rfl) (by decide) ?_
      refine g_putiN (pc := 163) (dd d_Mod_setUp_1 40 rfl) f_Mod_418 fm_Mod_63 ob_MO rfl (fun I25 hI25 => ?_)
      replace h := lt_e h hI25
      refine g_aload_n (pc := 166) (dd d_Mod_setUp_1 41 rfl) rfl ?_
      refine g_iconst (pc := 167) (v := (-1)) (dd d_Mod_setUp_1 42 rfl) (by decide) ?_
      refine g_putiN (pc := 168) (dd d_Mod_setUp_1 43 rfl) f_Mod_110 fm_Mod_66 ob_MO rfl (fun I26 hI26 => ?_)
      replace h := lt_e h hI26
      refine g_iconst (pc := 171) (v := 0) (dd d_Mod_setUp_1 44 rfl) (by decide) ?_
      refine g_istore_n (pc := 172) (dd d_Mod_setUp_1 45 rfl) (by decide) ?_
      exact gl_Mod_setUp_173 hX hk hT  _ _ _ h
    · replace h := ite_f h q11
      refine g_aload_n (pc := 76) (dd d_Mod_setUp 47 rfl) rfl ?_
      refine g_getr (pc := 77) (dd d_Mod_setUp 48 rfl) f_Mod_74 ob_MO rfl (mr_registers hX) ?_
      refine g_iload_n (pc := 80) (dd d_Mod_setUp 49 rfl) rfl ?_
      refine g_iconst (pc := 81) (v := 0) (dd d_Mod_setUp 50 rfl) (by decide) ?_
      obtain ⟨c27, h⟩ := chk_e h
      refine g_iastN (pc := 82) (dd d_Mod_setUp 51 rfl) ar_A_registers c27 (fun I28 hI28 => ?_)
      replace h := lt_e h hI28
      refine g_aload_n (pc := 83) (dd d_Mod_setUp 52 rfl) rfl ?_
      refine g_getr (pc := 84) (dd d_Mod_setUp 53 rfl) f_Mod_77 ob_MO rfl (mr_registerTags hX) ?_
      refine g_iload_n (pc := 87) (dd d_Mod_setUp 54 rfl) rfl ?_
      refine g_iconst (pc := 88) (v := 0) (dd d_Mod_setUp 55 rfl) (by decide) ?_
      refine g_iastN (pc := 89) (dd d_Mod_setUp 56 rfl) ar_A_registerTags c27 (fun I29 hI29 => ?_)
      replace h := lt_e h hI29
      refine g_iincW (pc := 90) (w := 1) (dd d_Mod_setUp 57 rfl) rfl (by decide) (by decide) ?_
      refine g_goto (pc := 93) (tgt := 70) (dd d_Mod_setUp 58 rfl) (by decide) ?_
      exact ih _ _ h
def l_Mod_setUp_35 (n : Nat)  : Nat → Int32 → IM → Option (IM)
  | 0, _, _ => none
  | f + 1, x2, I => if (96 : Int32) ≤ x2 then (l_Mod_setUp_70 n  n 0 I) else (chk (inb x2 96) <| lt (up I A_ints x2.toNatClampNeg (0)) fun I8 => lt (up I8 A_held x2.toNatClampNeg (0)) fun I9 => lt (up I9 A_owners x2.toNatClampNeg (0)) fun I10 => (l_Mod_setUp_35 n  f) (x2 + 1) I10)
set_option maxRecDepth 20000 in
set_option maxHeartbeats 4000000 in
theorem gl_Mod_setUp_35 {Δ : Dx} {X : Lx} (hX : MX Δ X)   {n : Nat} {Γ : Cx} (hk : Γ.k = 0) {r : IM} (hT : Tg Δ Γ none NN (r, X) 0 0)  : ∀ (f : Nat) (x2 : Int32) (I : IM), l_Mod_setUp_35 n  f x2 I = some r → GG Δ m_Mod_setUp Γ NN 0 0 (I, X) 35 [some (.ref (Δ.ba + MO)), none, some (.int (x2))] []
  | 0, _, _, h => by cases h
  | f + 1, x2, I, h => by
    have ih := gl_Mod_setUp_35 (n := n) hX hk hT  f
    rw [l_Mod_setUp_35] at h
    refine g_iload_n (pc := 35) (dd d_Mod_setUp 22 rfl) rfl ?_
    refine g_bipush (pc := 36) (v := 96) (dd d_Mod_setUp 23 rfl) (by decide) ?_
    refine g_icmpge (pc := 38) (tgt := 68) (dd d_Mod_setUp 24 rfl) (by decide) (fun q6 => ?_) (fun q6 => ?_)
    · replace h := ite_t h q6
      refine g_iconst (pc := 68) (v := 0) (dd d_Mod_setUp 42 rfl) (by decide) ?_
      refine g_istore_n (pc := 69) (dd d_Mod_setUp 43 rfl) (by decide) ?_
      exact gl_Mod_setUp_70 hX hk hT  _ _ _ h
    · replace h := ite_f h q6
      refine g_aload_n (pc := 41) (dd d_Mod_setUp 25 rfl) rfl ?_
      refine g_getr (pc := 42) (dd d_Mod_setUp 26 rfl) f_Mod_65 ob_MO rfl (mr_ints hX) ?_
      refine g_iload_n (pc := 45) (dd d_Mod_setUp 27 rfl) rfl ?_
      refine g_iconst (pc := 46) (v := 0) (dd d_Mod_setUp 28 rfl) (by decide) ?_
      obtain ⟨c7, h⟩ := chk_e h
      refine g_iastN (pc := 47) (dd d_Mod_setUp 29 rfl) ar_A_ints c7 (fun I8 hI8 => ?_)
      replace h := lt_e h hI8
      refine g_aload_n (pc := 48) (dd d_Mod_setUp 30 rfl) rfl ?_
      refine g_getr (pc := 49) (dd d_Mod_setUp 31 rfl) f_Mod_68 ob_MO rfl (mr_held hX) ?_
      refine g_iload_n (pc := 52) (dd d_Mod_setUp 32 rfl) rfl ?_
      refine g_iconst (pc := 53) (v := 0) (dd d_Mod_setUp 33 rfl) (by decide) ?_
      refine g_iastN (pc := 54) (dd d_Mod_setUp 34 rfl) ar_A_held c7 (fun I9 hI9 => ?_)
      replace h := lt_e h hI9
      refine g_aload_n (pc := 55) (dd d_Mod_setUp 35 rfl) rfl ?_
      refine g_getr (pc := 56) (dd d_Mod_setUp 36 rfl) f_Mod_71 ob_MO rfl (mr_owners hX) ?_
      refine g_iload_n (pc := 59) (dd d_Mod_setUp 37 rfl) rfl ?_
      refine g_iconst (pc := 60) (v := 0) (dd d_Mod_setUp 38 rfl) (by decide) ?_
      refine g_iastN (pc := 61) (dd d_Mod_setUp 39 rfl) ar_A_owners c7 (fun I10 hI10 => ?_)
      replace h := lt_e h hI10
      refine g_iincW (pc := 62) (w := 1) (dd d_Mod_setUp 40 rfl) rfl (by decide) (by decide) ?_
      refine g_goto (pc := 65) (tgt := 35) (dd d_Mod_setUp 41 rfl) (by decide) ?_
      exact ih _ _ h
def l_Mod_setUp_7 (n : Nat)  : Nat → Int32 → IM → Option (IM)
  | 0, _, _ => none
  | f + 1, x2, I => if (64 : Int32) ≤ x2 then (l_Mod_setUp_35 n  n 0 I) else (chk (inb x2 64) <| lt (up I A_code x2.toNatClampNeg (0)) fun I4 => lt (up I4 A_codeTags x2.toNatClampNeg (0)) fun I5 => (l_Mod_setUp_7 n  f) (x2 + 1) I5)
set_option maxRecDepth 20000 in
set_option maxHeartbeats 4000000 in
theorem gl_Mod_setUp_7 {Δ : Dx} {X : Lx} (hX : MX Δ X)   {n : Nat} {Γ : Cx} (hk : Γ.k = 0) {r : IM} (hT : Tg Δ Γ none NN (r, X) 0 0)  : ∀ (f : Nat) (x2 : Int32) (I : IM), l_Mod_setUp_7 n  f x2 I = some r → GG Δ m_Mod_setUp Γ NN 0 0 (I, X) 7 [some (.ref (Δ.ba + MO)), none, some (.int (x2))] []
  | 0, _, _, h => by cases h
  | f + 1, x2, I, h => by
    have ih := gl_Mod_setUp_7 (n := n) hX hk hT  f
    rw [l_Mod_setUp_7] at h
    refine g_iload_n (pc := 7) (dd d_Mod_setUp 5 rfl) rfl ?_
    refine g_bipush (pc := 8) (v := 64) (dd d_Mod_setUp 6 rfl) (by decide) ?_
    refine g_icmpge (pc := 10) (tgt := 33) (dd d_Mod_setUp 7 rfl) (by decide) (fun q2 => ?_) (fun q2 => ?_)
    · replace h := ite_t h q2
      refine g_iconst (pc := 33) (v := 0) (dd d_Mod_setUp 20 rfl) (by decide) ?_
      refine g_istore_n (pc := 34) (dd d_Mod_setUp 21 rfl) (by decide) ?_
      exact gl_Mod_setUp_35 hX hk hT  _ _ _ h
    · replace h := ite_f h q2
      refine g_aload_n (pc := 13) (dd d_Mod_setUp 8 rfl) rfl ?_
      refine g_getr (pc := 14) (dd d_Mod_setUp 9 rfl) f_Mod_59 ob_MO rfl (mr_code hX) ?_
      refine g_iload_n (pc := 17) (dd d_Mod_setUp 10 rfl) rfl ?_
      refine g_iconst (pc := 18) (v := 0) (dd d_Mod_setUp 11 rfl) (by decide) ?_
      obtain ⟨c3, h⟩ := chk_e h
      refine g_iastN (pc := 19) (dd d_Mod_setUp 12 rfl) ar_A_code c3 (fun I4 hI4 => ?_)
      replace h := lt_e h hI4
      refine g_aload_n (pc := 20) (dd d_Mod_setUp 13 rfl) rfl ?_
      refine g_getr (pc := 21) (dd d_Mod_setUp 14 rfl) f_Mod_62 ob_MO rfl (mr_codeTags hX) ?_
      refine g_iload_n (pc := 24) (dd d_Mod_setUp 15 rfl) rfl ?_
      refine g_iconst (pc := 25) (v := 0) (dd d_Mod_setUp 16 rfl) (by decide) ?_
      refine g_iastN (pc := 26) (dd d_Mod_setUp 17 rfl) ar_A_codeTags c3 (fun I5 hI5 => ?_)
      replace h := lt_e h hI5
      refine g_iincW (pc := 27) (w := 1) (dd d_Mod_setUp 18 rfl) rfl (by decide) (by decide) ?_
      refine g_goto (pc := 30) (tgt := 7) (dd d_Mod_setUp 19 rfl) (by decide) ?_
      exact ih _ _ h
def f_Mod_setUp (n : Nat) (x1 : Int32) (I : IM) : Option (IM) := lt (up I MO 34 (x1)) fun I1 => l_Mod_setUp_7 n  n 0 I1
set_option maxRecDepth 20000 in
set_option maxHeartbeats 4000000 in
theorem ef_Mod_setUp {Δ : Dx} {X : Lx} (hX : MX Δ X) {n : Nat} {x1 : Int32}  {I : IM}  {r : IM} (h : f_Mod_setUp n x1 I = some r) : Ev Δ 0 m_Mod_setUp [.ref (Δ.ba + MO), .int x1] (I, X) none (r, X) := by
  refine ev_of (by decide) (Nat.le_of_ble_eq_true rfl) (fun Γ hk hR hT => ?_)
  change GG Δ m_Mod_setUp Γ NN 0 0 (I, X) 0 [some (.ref (Δ.ba + MO)), some (.int (x1)), none] []
  unfold f_Mod_setUp at h
  refine g_aload_n (pc := 0) (dd d_Mod_setUp 0 rfl) rfl ?_
  refine g_iload_n (pc := 1) (dd d_Mod_setUp 1 rfl) rfl ?_
  refine g_putiN (pc := 2) (dd d_Mod_setUp 2 rfl) f_Mod_388 fm_Mod_34 ob_MO rfl (fun I1 hI1 => ?_)
  replace h := lt_e h hI1
  refine g_iconst (pc := 5) (v := 0) (dd d_Mod_setUp 3 rfl) (by decide) ?_
  refine g_istore_n (pc := 6) (dd d_Mod_setUp 4 rfl) (by decide) ?_
  refine g_drop [1] ?_
  exact gl_Mod_setUp_7 hX hk hT  _ _ _ h
def f_Mod_begin (n : Nat) (x1 : Int32) (I : IM) : Option (IM) := lt (up I MO 0 (0)) fun I1 => Option.bind (f_Mod_setUp n x1 I1) fun v2 => some v2
set_option maxRecDepth 20000 in
set_option maxHeartbeats 4000000 in
theorem ef_Mod_begin {Δ : Dx} {X : Lx} (hX : MX Δ X) {n : Nat} {x1 : Int32}  {I : IM}  {r : IM} (h : f_Mod_begin n x1 I = some r) : Ev Δ 1 m_Mod_begin [.ref (Δ.ba + MO), .int x1] (I, X) none (r, X) := by
  refine ev_of (by decide) (Nat.le_of_ble_eq_true rfl) (fun Γ hk hR hT => ?_)
  change GG Δ m_Mod_begin Γ NN 0 0 (I, X) 0 [some (.ref (Δ.ba + MO)), some (.int (x1))] []
  unfold f_Mod_begin at h
  refine g_aload_n (pc := 0) (dd d_Mod_begin 0 rfl) rfl ?_
  refine g_iconst (pc := 1) (v := 0) (dd d_Mod_begin 1 rfl) (by decide) ?_
  refine g_putiN (pc := 2) (dd d_Mod_begin 2 rfl) f_Mod_240 fm_Mod_0 ob_MO rfl (fun I1 hI1 => ?_)
  replace h := lt_e h hI1
  refine g_aload_n (pc := 5) (dd d_Mod_begin 3 rfl) rfl ?_
  refine g_iload_n (pc := 6) (dd d_Mod_begin 4 rfl) rfl ?_
  obtain ⟨v2, e3, h⟩ := bnd_e h
  refine g_callV (pc := 7) (dd d_Mod_begin 5 rfl) v_Mod_232 ob_MO rfl (ef_Mod_setUp hX e3) rfl (by rw [hk]; decide) (Nat.le_of_ble_eq_true rfl) ⟨Nat.zero_le _, Nat.zero_le _⟩ rfl ?_
  cases h
  exact g_vret (pc := 10) rfl (dd d_Mod_begin 6 rfl) hT
def b_Mod_code_37    (I : IM) : Option (IM) := some I
set_option maxRecDepth 20000 in
set_option maxHeartbeats 4000000 in
theorem gb_Mod_code_37 {Δ : Dx} {X : Lx} (hX : MX Δ X)    {Γ : Cx} (hk : Γ.k = 1) {r : IM} (hT : Tg Δ Γ none NN (r, X) 0 0)   {I : IM} (h : b_Mod_code_37    I = some r) : GG Δ m_Mod_code Γ NN 0 0 (I, X) 37 [none, none, none, none] [] := by
  unfold b_Mod_code_37 at h
  cases h
  exact g_vret (pc := 37) rfl (dd d_Mod_code 22 rfl) hT
def f_Mod_code (x1 : Int32) (x2 : Int32) (x3 : Int32) (I : IM) : Option (IM) := Option.bind (f_Mod_in  x1 0 63 I) fun v1 => Option.bind (f_Mod_refuse  (if v1 = 0 then 1 else 0) 0 I) fun v4 => if (v4.1 : Int32) = 0 then (chk (inb x1 64) <| lt (up v4.2 A_code x1.toNatClampNeg (x2)) fun I8 => lt (up I8 A_codeTags x1.toNatClampNeg (x3)) fun I9 => b_Mod_code_37   I9) else (b_Mod_code_37   v4.2)
set_option maxRecDepth 20000 in
set_option maxHeartbeats 4000000 in
theorem ef_Mod_code {Δ : Dx} {X : Lx} (hX : MX Δ X) {x1 : Int32} {x2 : Int32} {x3 : Int32}  {I : IM}  {r : IM} (h : f_Mod_code x1 x2 x3 I = some r) : Ev Δ 1 m_Mod_code [.ref (Δ.ba + MO), .int x1, .int x2, .int x3] (I, X) none (r, X) := by
  refine ev_of (by decide) (Nat.le_of_ble_eq_true rfl) (fun Γ hk hR hT => ?_)
  change GG Δ m_Mod_code Γ NN 0 0 (I, X) 0 [some (.ref (Δ.ba + MO)), some (.int (x1)), some (.int (x2)), some (.int (x3))] []
  unfold f_Mod_code at h
  refine g_aload_n (pc := 0) (dd d_Mod_code 0 rfl) rfl ?_
  refine g_iload_n (pc := 1) (dd d_Mod_code 1 rfl) rfl ?_
  refine g_iconst (pc := 2) (v := 0) (dd d_Mod_code 2 rfl) (by decide) ?_
  refine g_bipush (pc := 3) (v := 63) (dd d_Mod_code 3 rfl) (by decide) ?_
  obtain ⟨v1, e2, h⟩ := bnd_e h
  refine g_callS (pc := 5) (dd d_Mod_code 4 rfl) s_Mod_243 (ef_Mod_in hX e2) rfl (by rw [hk]; decide) (Nat.le_of_ble_eq_true rfl) ⟨Nat.zero_le _, Nat.zero_le _⟩ rfl ?_
  suffices K8 : ∀ z : Int32, z = (if v1 = 0 then 1 else 0 : Int32) → GG Δ m_Mod_code Γ NN 0 0 (I, X) 16 [some (.ref (Δ.ba + MO)), some (.int (x1)), some (.int (x2)), some (.int (x3))] [.int (z), .ref (Δ.ba + MO)] by
    refine g_ifne (pc := 8) (tgt := 15) (dd d_Mod_code 5 rfl) (by decide) (fun q3 => ?_) (fun q3 => ?_)
    · skip
      refine g_iconst (pc := 15) (v := 0) (dd d_Mod_code 8 rfl) (by decide) ?_
      exact K8 _ (by rw [if_neg q3])
    · skip
      refine g_iconst (pc := 11) (v := 1) (dd d_Mod_code 6 rfl) (by decide) ?_
      refine g_goto (pc := 12) (tgt := 16) (dd d_Mod_code 7 rfl) (by decide) ?_
      exact K8 _ (by rw [if_pos q3])
  intro z hz
  subst hz
  refine g_iconst (pc := 16) (v := 0) (dd d_Mod_code 9 rfl) (by decide) ?_
  obtain ⟨v4, e5, h⟩ := bnd_e h
  refine g_callV (pc := 17) (dd d_Mod_code 10 rfl) v_Mod_250 ob_MO rfl (ef_Mod_refuse hX e5) rfl (by rw [hk]; decide) (Nat.le_of_ble_eq_true rfl) ⟨Nat.zero_le _, Nat.zero_le _⟩ rfl ?_
  refine g_ifne (pc := 20) (tgt := 37) (dd d_Mod_code 11 rfl) (by decide) (fun q6 => ?_) (fun q6 => ?_)
  · replace h := ite_f h q6
    refine g_drop [0, 1, 2, 3] ?_
    exact gb_Mod_code_37 hX hk hT  h
  · replace h := ite_t h q6
    refine g_aload_n (pc := 23) (dd d_Mod_code 12 rfl) rfl ?_
    refine g_getr (pc := 24) (dd d_Mod_code 13 rfl) f_Mod_59 ob_MO rfl (mr_code hX) ?_
    refine g_iload_n (pc := 27) (dd d_Mod_code 14 rfl) rfl ?_
    refine g_iload_n (pc := 28) (dd d_Mod_code 15 rfl) rfl ?_
    obtain ⟨c7, h⟩ := chk_e h
    refine g_iastN (pc := 29) (dd d_Mod_code 16 rfl) ar_A_code c7 (fun I8 hI8 => ?_)
    replace h := lt_e h hI8
    refine g_aload_n (pc := 30) (dd d_Mod_code 17 rfl) rfl ?_
    refine g_getr (pc := 31) (dd d_Mod_code 18 rfl) f_Mod_62 ob_MO rfl (mr_codeTags hX) ?_
    refine g_iload_n (pc := 34) (dd d_Mod_code 19 rfl) rfl ?_
    refine g_iload_n (pc := 35) (dd d_Mod_code 20 rfl) rfl ?_
    refine g_iastN (pc := 36) (dd d_Mod_code 21 rfl) ar_A_codeTags c7 (fun I9 hI9 => ?_)
    replace h := lt_e h hI9
    refine g_drop [0, 1, 2, 3] ?_
    exact gb_Mod_code_37 hX hk hT  h
def f_Mod_isWord (x0 : Int32) (I : IM) : Option (Int32) := Option.bind (f_Mod_in  x0 0 95 I) fun v1 => chk (v1 = 0 ∨ v1 = 1) <| some (v1)
set_option maxRecDepth 20000 in
set_option maxHeartbeats 4000000 in
theorem ef_Mod_isWord {Δ : Dx} {X : Lx} (hX : MX Δ X) {x0 : Int32}  {I : IM}  {r : Int32} (h : f_Mod_isWord x0 I = some r) : Ev Δ 1 m_Mod_isWord [.int x0] (I, X) (some (.int r)) (I, X) := by
  refine ev_of (by decide) (Nat.le_of_ble_eq_true rfl) (fun Γ hk hR hT => ?_)
  change GG Δ m_Mod_isWord Γ NN 0 0 (I, X) 0 [some (.int (x0))] []
  unfold f_Mod_isWord at h
  refine g_iload_n (pc := 0) (dd d_Mod_isWord 0 rfl) rfl ?_
  refine g_iconst (pc := 1) (v := 0) (dd d_Mod_isWord 1 rfl) (by decide) ?_
  refine g_bipush (pc := 2) (v := 95) (dd d_Mod_isWord 2 rfl) (by decide) ?_
  obtain ⟨v1, e2, h⟩ := bnd_e h
  refine g_callS (pc := 4) (dd d_Mod_isWord 3 rfl) s_Mod_243 (ef_Mod_in hX e2) rfl (by rw [hk]; decide) (Nat.le_of_ble_eq_true rfl) ⟨Nat.zero_le _, Nat.zero_le _⟩ rfl ?_
  obtain ⟨c3, h⟩ := chk_e h
  cases h
  exact g_zret (pc := 7) rfl c3 (dd d_Mod_isWord 4 rfl) hT
def b_Mod_word_42    (I : IM) : Option (IM) := some I
set_option maxRecDepth 20000 in
set_option maxHeartbeats 4000000 in
theorem gb_Mod_word_42 {Δ : Dx} {X : Lx} (hX : MX Δ X)    {Γ : Cx} (hk : Γ.k = 2) {r : IM} (hT : Tg Δ Γ none NN (r, X) 0 0)   {I : IM} (h : b_Mod_word_42    I = some r) : GG Δ m_Mod_word Γ NN 0 0 (I, X) 42 [none, none, none, none, none] [] := by
  unfold b_Mod_word_42 at h
  cases h
  exact g_vret (pc := 42) rfl (dd d_Mod_word 25 rfl) hT
def f_Mod_word (x1 : Int32) (x2 : Int32) (x3 : Int32) (x4 : Int32) (I : IM) : Option (IM) := Option.bind (f_Mod_isWord  x1 I) fun v1 => Option.bind (f_Mod_refuse  (if v1 = 0 then 1 else 0) 0 I) fun v4 => if (v4.1 : Int32) = 0 then (chk (inb x1 96) <| lt (up v4.2 A_ints x1.toNatClampNeg (x2)) fun I8 => lt (up I8 A_held x1.toNatClampNeg (x3)) fun I9 => lt (up I9 A_owners x1.toNatClampNeg (x4)) fun I10 => b_Mod_word_42   I10) else (b_Mod_word_42   v4.2)
set_option maxRecDepth 20000 in
set_option maxHeartbeats 4000000 in
theorem ef_Mod_word {Δ : Dx} {X : Lx} (hX : MX Δ X) {x1 : Int32} {x2 : Int32} {x3 : Int32} {x4 : Int32}  {I : IM}  {r : IM} (h : f_Mod_word x1 x2 x3 x4 I = some r) : Ev Δ 2 m_Mod_word [.ref (Δ.ba + MO), .int x1, .int x2, .int x3, .int x4] (I, X) none (r, X) := by
  refine ev_of (by decide) (Nat.le_of_ble_eq_true rfl) (fun Γ hk hR hT => ?_)
  change GG Δ m_Mod_word Γ NN 0 0 (I, X) 0 [some (.ref (Δ.ba + MO)), some (.int (x1)), some (.int (x2)), some (.int (x3)), some (.int (x4))] []
  unfold f_Mod_word at h
  refine g_aload_n (pc := 0) (dd d_Mod_word 0 rfl) rfl ?_
  refine g_iload_n (pc := 1) (dd d_Mod_word 1 rfl) rfl ?_
  obtain ⟨v1, e2, h⟩ := bnd_e h
  refine g_callS (pc := 2) (dd d_Mod_word 2 rfl) s_Mod_421 (ef_Mod_isWord hX e2) rfl (by rw [hk]; decide) (Nat.le_of_ble_eq_true rfl) ⟨Nat.zero_le _, Nat.zero_le _⟩ rfl ?_
  suffices K5 : ∀ z : Int32, z = (if v1 = 0 then 1 else 0 : Int32) → GG Δ m_Mod_word Γ NN 0 0 (I, X) 13 [some (.ref (Δ.ba + MO)), some (.int (x1)), some (.int (x2)), some (.int (x3)), some (.int (x4))] [.int (z), .ref (Δ.ba + MO)] by
    refine g_ifne (pc := 5) (tgt := 12) (dd d_Mod_word 3 rfl) (by decide) (fun q3 => ?_) (fun q3 => ?_)
    · skip
      refine g_iconst (pc := 12) (v := 0) (dd d_Mod_word 6 rfl) (by decide) ?_
      exact K5 _ (by rw [if_neg q3])
    · skip
      refine g_iconst (pc := 8) (v := 1) (dd d_Mod_word 4 rfl) (by decide) ?_
      refine g_goto (pc := 9) (tgt := 13) (dd d_Mod_word 5 rfl) (by decide) ?_
      exact K5 _ (by rw [if_pos q3])
  intro z hz
  subst hz
  refine g_iconst (pc := 13) (v := 0) (dd d_Mod_word 7 rfl) (by decide) ?_
  obtain ⟨v4, e5, h⟩ := bnd_e h
  refine g_callV (pc := 14) (dd d_Mod_word 8 rfl) v_Mod_250 ob_MO rfl (ef_Mod_refuse hX e5) rfl (by rw [hk]; decide) (Nat.le_of_ble_eq_true rfl) ⟨Nat.zero_le _, Nat.zero_le _⟩ rfl ?_
  refine g_ifne (pc := 17) (tgt := 42) (dd d_Mod_word 9 rfl) (by decide) (fun q6 => ?_) (fun q6 => ?_)
  · replace h := ite_f h q6
    refine g_drop [0, 1, 2, 3, 4] ?_
    exact gb_Mod_word_42 hX hk hT  h
  · replace h := ite_t h q6
    refine g_aload_n (pc := 20) (dd d_Mod_word 10 rfl) rfl ?_
    refine g_getr (pc := 21) (dd d_Mod_word 11 rfl) f_Mod_65 ob_MO rfl (mr_ints hX) ?_
    refine g_iload_n (pc := 24) (dd d_Mod_word 12 rfl) rfl ?_
    refine g_iload_n (pc := 25) (dd d_Mod_word 13 rfl) rfl ?_
    obtain ⟨c7, h⟩ := chk_e h
    refine g_iastN (pc := 26) (dd d_Mod_word 14 rfl) ar_A_ints c7 (fun I8 hI8 => ?_)
    replace h := lt_e h hI8
    refine g_aload_n (pc := 27) (dd d_Mod_word 15 rfl) rfl ?_
    refine g_getr (pc := 28) (dd d_Mod_word 16 rfl) f_Mod_68 ob_MO rfl (mr_held hX) ?_
    refine g_iload_n (pc := 31) (dd d_Mod_word 17 rfl) rfl ?_
    refine g_iload_n (pc := 32) (dd d_Mod_word 18 rfl) rfl ?_
    refine g_iastN (pc := 33) (dd d_Mod_word 19 rfl) ar_A_held c7 (fun I9 hI9 => ?_)
    replace h := lt_e h hI9
    refine g_aload_n (pc := 34) (dd d_Mod_word 20 rfl) rfl ?_
    refine g_getr (pc := 35) (dd d_Mod_word 21 rfl) f_Mod_71 ob_MO rfl (mr_owners hX) ?_
    refine g_iload_n (pc := 38) (dd d_Mod_word 22 rfl) rfl ?_
    refine g_iload (pc := 39) (dd d_Mod_word 23 rfl) rfl ?_
    refine g_iastN (pc := 41) (dd d_Mod_word 24 rfl) ar_A_owners c7 (fun I10 hI10 => ?_)
    replace h := lt_e h hI10
    refine g_drop [0, 1, 2, 3, 4] ?_
    exact gb_Mod_word_42 hX hk hT  h
def b_Mod_register_57    (I : IM) : Option (IM) := some I
set_option maxRecDepth 20000 in
set_option maxHeartbeats 4000000 in
theorem gb_Mod_register_57 {Δ : Dx} {X : Lx} (hX : MX Δ X)    {Γ : Cx} (hk : Γ.k = 1) {r : IM} (hT : Tg Δ Γ none NN (r, X) 0 0)   {I : IM} (h : b_Mod_register_57    I = some r) : GG Δ m_Mod_register Γ NN 0 0 (I, X) 57 [none, none, none, none] [] := by
  unfold b_Mod_register_57 at h
  cases h
  exact g_vret (pc := 57) rfl (dd d_Mod_register 33 rfl) hT
def f_Mod_register (x1 : Int32) (x2 : Int32) (x3 : Int32) (I : IM) : Option (IM) := Option.bind (f_Mod_in  x1 0 8 I) fun v1 => Option.bind (f_Mod_refuse  (if v1 = 0 then 1 else 0) 0 I) fun v4 => if (v4.1 : Int32) = 0 then (if x1 = (8 : Int32) then (lt (up v4.2 MO 42 (x2)) fun I11 => lt (up I11 MO 43 (x3)) fun I12 => b_Mod_register_57   I12) else (chk (inb x1 8) <| lt (up v4.2 A_registers x1.toNatClampNeg (x2)) fun I9 => lt (up I9 A_registerTags x1.toNatClampNeg (x3)) fun I10 => b_Mod_register_57   I10)) else (some v4.2)
set_option maxRecDepth 20000 in
set_option maxHeartbeats 4000000 in
theorem ef_Mod_register {Δ : Dx} {X : Lx} (hX : MX Δ X) {x1 : Int32} {x2 : Int32} {x3 : Int32}  {I : IM}  {r : IM} (h : f_Mod_register x1 x2 x3 I = some r) : Ev Δ 1 m_Mod_register [.ref (Δ.ba + MO), .int x1, .int x2, .int x3] (I, X) none (r, X) := by
  refine ev_of (by decide) (Nat.le_of_ble_eq_true rfl) (fun Γ hk hR hT => ?_)
  change GG Δ m_Mod_register Γ NN 0 0 (I, X) 0 [some (.ref (Δ.ba + MO)), some (.int (x1)), some (.int (x2)), some (.int (x3))] []
  unfold f_Mod_register at h
  refine g_aload_n (pc := 0) (dd d_Mod_register 0 rfl) rfl ?_
  refine g_iload_n (pc := 1) (dd d_Mod_register 1 rfl) rfl ?_
  refine g_iconst (pc := 2) (v := 0) (dd d_Mod_register 2 rfl) (by decide) ?_
  refine g_bipush (pc := 3) (v := 8) (dd d_Mod_register 3 rfl) (by decide) ?_
  obtain ⟨v1, e2, h⟩ := bnd_e h
  refine g_callS (pc := 5) (dd d_Mod_register 4 rfl) s_Mod_243 (ef_Mod_in hX e2) rfl (by rw [hk]; decide) (Nat.le_of_ble_eq_true rfl) ⟨Nat.zero_le _, Nat.zero_le _⟩ rfl ?_
  suffices K8 : ∀ z : Int32, z = (if v1 = 0 then 1 else 0 : Int32) → GG Δ m_Mod_register Γ NN 0 0 (I, X) 16 [some (.ref (Δ.ba + MO)), some (.int (x1)), some (.int (x2)), some (.int (x3))] [.int (z), .ref (Δ.ba + MO)] by
    refine g_ifne (pc := 8) (tgt := 15) (dd d_Mod_register 5 rfl) (by decide) (fun q3 => ?_) (fun q3 => ?_)
    · skip
      refine g_iconst (pc := 15) (v := 0) (dd d_Mod_register 8 rfl) (by decide) ?_
      exact K8 _ (by rw [if_neg q3])
    · skip
      refine g_iconst (pc := 11) (v := 1) (dd d_Mod_register 6 rfl) (by decide) ?_
      refine g_goto (pc := 12) (tgt := 16) (dd d_Mod_register 7 rfl) (by decide) ?_
      exact K8 _ (by rw [if_pos q3])
  intro z hz
  subst hz
  refine g_iconst (pc := 16) (v := 0) (dd d_Mod_register 9 rfl) (by decide) ?_
  obtain ⟨v4, e5, h⟩ := bnd_e h
  refine g_callV (pc := 17) (dd d_Mod_register 10 rfl) v_Mod_250 ob_MO rfl (ef_Mod_refuse hX e5) rfl (by rw [hk]; decide) (Nat.le_of_ble_eq_true rfl) ⟨Nat.zero_le _, Nat.zero_le _⟩ rfl ?_
  refine g_ifeq (pc := 20) (tgt := 24) (dd d_Mod_register 11 rfl) (by decide) (fun q6 => ?_) (fun q6 => ?_)
  · replace h := ite_t h q6
    refine g_iload_n (pc := 24) (dd d_Mod_register 13 rfl) rfl ?_
    refine g_bipush (pc := 25) (v := 8) (dd d_Mod_register 14 rfl) (by decide) ?_
    refine g_icmpne (pc := 27) (tgt := 43) (dd d_Mod_register 15 rfl) (by decide) (fun q7 => ?_) (fun q7 => ?_)
    · replace h := ite_f h q7
      refine g_aload_n (pc := 43) (dd d_Mod_register 23 rfl) rfl ?_
      refine g_getr (pc := 44) (dd d_Mod_register 24 rfl) f_Mod_74 ob_MO rfl (mr_registers hX) ?_
      refine g_iload_n (pc := 47) (dd d_Mod_register 25 rfl) rfl ?_
      refine g_iload_n (pc := 48) (dd d_Mod_register 26 rfl) rfl ?_
      obtain ⟨c8, h⟩ := chk_e h
      refine g_iastN (pc := 49) (dd d_Mod_register 27 rfl) ar_A_registers c8 (fun I9 hI9 => ?_)
      replace h := lt_e h hI9
      refine g_aload_n (pc := 50) (dd d_Mod_register 28 rfl) rfl ?_
      refine g_getr (pc := 51) (dd d_Mod_register 29 rfl) f_Mod_77 ob_MO rfl (mr_registerTags hX) ?_
      refine g_iload_n (pc := 54) (dd d_Mod_register 30 rfl) rfl ?_
      refine g_iload_n (pc := 55) (dd d_Mod_register 31 rfl) rfl ?_
      refine g_iastN (pc := 56) (dd d_Mod_register 32 rfl) ar_A_registerTags c8 (fun I10 hI10 => ?_)
      replace h := lt_e h hI10
      refine g_drop [0, 1, 2, 3] ?_
      exact gb_Mod_register_57 hX hk hT  h
    · replace h := ite_t h q7
      refine g_aload_n (pc := 30) (dd d_Mod_register 16 rfl) rfl ?_
      refine g_iload_n (pc := 31) (dd d_Mod_register 17 rfl) rfl ?_
      refine g_putiN (pc := 32) (dd d_Mod_register 18 rfl) f_Mod_391 fm_Mod_42 ob_MO rfl (fun I11 hI11 => ?_)
      replace h := lt_e h hI11
      refine g_aload_n (pc := 35) (dd d_Mod_register 19 rfl) rfl ?_
      refine g_iload_n (pc := 36) (dd d_Mod_register 20 rfl) rfl ?_
      refine g_putiN (pc := 37) (dd d_Mod_register 21 rfl) f_Mod_394 fm_Mod_43 ob_MO rfl (fun I12 hI12 => ?_)
      replace h := lt_e h hI12
      refine g_goto (pc := 40) (tgt := 57) (dd d_Mod_register 22 rfl) (by decide) ?_
      refine g_drop [0, 1, 2, 3] ?_
      exact gb_Mod_register_57 hX hk hT  h
  · replace h := ite_f h q6
    cases h
    exact g_vret (pc := 23) rfl (dd d_Mod_register 12 rfl) hT
def f_Mod_input (x1 : Int32) (x2 : Int32) (I : IM) : Option (Int32 × IM) := Option.bind (f_Mod_refuse  (if (I MO 45 : Int32) = (16 : Int32) then 1 else 0) 0 I) fun v2 => if (v2.1 : Int32) = 0 then (chk (inb (v2.2 MO 45) 16) <| lt (up v2.2 A_inputValues (v2.2 MO 45 : Int32).toNatClampNeg (x1)) fun I6 => chk (inb (I6 MO 45) 16) <| lt (up I6 A_inputTags (I6 MO 45 : Int32).toNatClampNeg (x2)) fun I8 => lt (up I8 MO 45 ((I8 MO 45) + 1)) fun I9 => some (I9 MO 45, I9)) else (some (0, v2.2))
set_option maxRecDepth 20000 in
set_option maxHeartbeats 4000000 in
theorem ef_Mod_input {Δ : Dx} {X : Lx} (hX : MX Δ X) {x1 : Int32} {x2 : Int32}  {I : IM}  {r : Int32 × IM} (h : f_Mod_input x1 x2 I = some r) : Ev Δ 1 m_Mod_input [.ref (Δ.ba + MO), .int x1, .int x2] (I, X) (some (.int r.1)) (r.2, X) := by
  refine ev_of (by decide) (Nat.le_of_ble_eq_true rfl) (fun Γ hk hR hT => ?_)
  change GG Δ m_Mod_input Γ NN 0 0 (I, X) 0 [some (.ref (Δ.ba + MO)), some (.int (x1)), some (.int (x2))] []
  unfold f_Mod_input at h
  refine g_aload_n (pc := 0) (dd d_Mod_input 0 rfl) rfl ?_
  refine g_aload_n (pc := 1) (dd d_Mod_input 1 rfl) rfl ?_
  refine g_geti (pc := 2) (dd d_Mod_input 2 rfl) f_Mod_400 ob_MO rfl ?_
  refine g_bipush (pc := 5) (v := 16) (dd d_Mod_input 3 rfl) (by decide) ?_
  suffices K7 : ∀ z : Int32, z = (if (I MO 45 : Int32) = (16 : Int32) then 1 else 0 : Int32) → GG Δ m_Mod_input Γ NN 0 0 (I, X) 15 [some (.ref (Δ.ba + MO)), some (.int (x1)), some (.int (x2))] [.int (z), .ref (Δ.ba + MO)] by
    refine g_icmpne (pc := 7) (tgt := 14) (dd d_Mod_input 4 rfl) (by decide) (fun q1 => ?_) (fun q1 => ?_)
    · skip
      refine g_iconst (pc := 14) (v := 0) (dd d_Mod_input 7 rfl) (by decide) ?_
      exact K7 _ (by rw [if_neg q1])
    · skip
      refine g_iconst (pc := 10) (v := 1) (dd d_Mod_input 5 rfl) (by decide) ?_
      refine g_goto (pc := 11) (tgt := 15) (dd d_Mod_input 6 rfl) (by decide) ?_
      exact K7 _ (by rw [if_pos q1])
  intro z hz
  subst hz
  refine g_iconst (pc := 15) (v := 0) (dd d_Mod_input 8 rfl) (by decide) ?_
  obtain ⟨v2, e3, h⟩ := bnd_e h
  refine g_callV (pc := 16) (dd d_Mod_input 9 rfl) v_Mod_250 ob_MO rfl (ef_Mod_refuse hX e3) rfl (by rw [hk]; decide) (Nat.le_of_ble_eq_true rfl) ⟨Nat.zero_le _, Nat.zero_le _⟩ rfl ?_
  refine g_ifeq (pc := 19) (tgt := 24) (dd d_Mod_input 10 rfl) (by decide) (fun q4 => ?_) (fun q4 => ?_)
  · replace h := ite_t h q4
    refine g_aload_n (pc := 24) (dd d_Mod_input 13 rfl) rfl ?_
    refine g_getr (pc := 25) (dd d_Mod_input 14 rfl) f_Mod_80 ob_MO rfl (mr_inputValues hX) ?_
    refine g_aload_n (pc := 28) (dd d_Mod_input 15 rfl) rfl ?_
    refine g_geti (pc := 29) (dd d_Mod_input 16 rfl) f_Mod_400 ob_MO rfl ?_
    refine g_iload_n (pc := 32) (dd d_Mod_input 17 rfl) rfl ?_
    obtain ⟨c5, h⟩ := chk_e h
    refine g_iastN (pc := 33) (dd d_Mod_input 18 rfl) ar_A_inputValues c5 (fun I6 hI6 => ?_)
    replace h := lt_e h hI6
    refine g_aload_n (pc := 34) (dd d_Mod_input 19 rfl) rfl ?_
    refine g_getr (pc := 35) (dd d_Mod_input 20 rfl) f_Mod_83 ob_MO rfl (mr_inputTags hX) ?_
    refine g_aload_n (pc := 38) (dd d_Mod_input 21 rfl) rfl ?_
    refine g_geti (pc := 39) (dd d_Mod_input 22 rfl) f_Mod_400 ob_MO rfl ?_
    refine g_iload_n (pc := 42) (dd d_Mod_input 23 rfl) rfl ?_
    obtain ⟨c7, h⟩ := chk_e h
    refine g_iastN (pc := 43) (dd d_Mod_input 24 rfl) ar_A_inputTags c7 (fun I8 hI8 => ?_)
    replace h := lt_e h hI8
    refine g_aload_n (pc := 44) (dd d_Mod_input 25 rfl) rfl ?_
    refine g_dup (pc := 45) (dd d_Mod_input 26 rfl) rfl ?_
    refine g_geti (pc := 46) (dd d_Mod_input 27 rfl) f_Mod_400 ob_MO rfl ?_
    refine g_iconst (pc := 49) (v := 1) (dd d_Mod_input 28 rfl) (by decide) ?_
    refine g_iadd (pc := 50) (dd d_Mod_input 29 rfl) ?_
    refine g_putiN (pc := 51) (dd d_Mod_input 30 rfl) f_Mod_400 fm_Mod_45 ob_MO rfl (fun I9 hI9 => ?_)
    replace h := lt_e h hI9
    refine g_aload_n (pc := 54) (dd d_Mod_input 31 rfl) rfl ?_
    refine g_geti (pc := 55) (dd d_Mod_input 32 rfl) f_Mod_400 ob_MO rfl ?_
    cases h
    exact g_iret (pc := 58) rfl (dd d_Mod_input 33 rfl) hT
  · replace h := ite_f h q4
    refine g_iconst (pc := 22) (v := 0) (dd d_Mod_input 11 rfl) (by decide) ?_
    cases h
    exact g_iret (pc := 23) rfl (dd d_Mod_input 12 rfl) hT
def b_Mod_takeNumber_98 (n : Nat) (J : JM)  (x6 : Int32) (I : IM) : Option (IM) := lt (up I MO 7 (x6)) fun I18 => Option.bind (f_Mod_step n J I18) fun v19 => some v19
set_option maxRecDepth 20000 in
set_option maxHeartbeats 4000000 in
theorem gb_Mod_takeNumber_98 {Δ : Dx} {X : Lx} (hX : MX Δ X)   {n : Nat} {Γ : Cx} (hk : Γ.k = 4) {r : IM} (hT : Tg Δ Γ none NN (r, X) 0 0)  {x6 : Int32} {I : IM} (h : b_Mod_takeNumber_98 n X.1  x6 I = some r) : GG Δ m_Mod_takeNumber Γ NN 0 0 (I, X) 98 [some (.ref (Δ.ba + MO)), none, none, none, none, none, some (.int (x6))] [] := by
  unfold b_Mod_takeNumber_98 at h
  refine g_aload_n (pc := 98) (dd d_Mod_takeNumber 46 rfl) rfl ?_
  refine g_iload (pc := 99) (dd d_Mod_takeNumber 47 rfl) rfl ?_
  refine g_putiN (pc := 101) (dd d_Mod_takeNumber 48 rfl) f_Mod_424 fm_Mod_7 ob_MO rfl (fun I18 hI18 => ?_)
  replace h := lt_e h hI18
  refine g_aload_n (pc := 104) (dd d_Mod_takeNumber 49 rfl) rfl ?_
  obtain ⟨v19, e20, h⟩ := bnd_e h
  refine g_callV (pc := 105) (dd d_Mod_takeNumber 50 rfl) v_Mod_328 ob_MO rfl (ef_Mod_step hX e20) rfl (by rw [hk]; decide) (Nat.le_of_ble_eq_true rfl) ⟨Nat.zero_le _, Nat.zero_le _⟩ rfl ?_
  cases h
  exact g_vret (pc := 108) rfl (dd d_Mod_takeNumber 51 rfl) hT
def b_Mod_takeNumber_56 (n : Nat) (J : JM)  (x1 : Int32) (x2 : Int32) (x4 : Int32) (x5 : Int32) (I : IM) : Option (IM) := if 0 ≤ (I MO 14 : Int32) then (b_Mod_takeNumber_98 n J  (if x5 = 0 then (I MO 11) else (-(I MO 11))) I) else (Option.bind (f_Mod_in  (if x5 = 0 then (I MO 11) else (-(I MO 11))) x1 x2 I) fun v14 => if v14 = 0 then (lt (up I MO 14 (x4)) fun I17 => b_Mod_takeNumber_98 n J  (if x5 = 0 then (I MO 11) else (-(I MO 11))) I17) else (b_Mod_takeNumber_98 n J  (if x5 = 0 then (I MO 11) else (-(I MO 11))) I))
set_option maxRecDepth 20000 in
set_option maxHeartbeats 4000000 in
theorem gb_Mod_takeNumber_56 {Δ : Dx} {X : Lx} (hX : MX Δ X)   {n : Nat} {Γ : Cx} (hk : Γ.k = 4) {r : IM} (hT : Tg Δ Γ none NN (r, X) 0 0)  {x1 : Int32} {x2 : Int32} {x4 : Int32} {x5 : Int32} {I : IM} (h : b_Mod_takeNumber_56 n X.1  x1 x2 x4 x5 I = some r) : GG Δ m_Mod_takeNumber Γ NN 0 0 (I, X) 56 [some (.ref (Δ.ba + MO)), some (.int (x1)), some (.int (x2)), none, some (.int (x4)), some (.int (x5)), none] [] := by
  unfold b_Mod_takeNumber_56 at h
  refine g_iload (pc := 56) (dd d_Mod_takeNumber 26 rfl) rfl ?_
  suffices K58 : ∀ z : Int32, z = (if x5 = 0 then (I MO 11) else (-(I MO 11)) : Int32) → GG Δ m_Mod_takeNumber Γ NN 0 0 (I, X) 73 [some (.ref (Δ.ba + MO)), some (.int (x1)), some (.int (x2)), none, some (.int (x4)), some (.int (x5)), none] [.int (z)] by
    refine g_ifeq (pc := 58) (tgt := 69) (dd d_Mod_takeNumber 27 rfl) (by decide) (fun q12 => ?_) (fun q12 => ?_)
    · skip
      refine g_aload_n (pc := 69) (dd d_Mod_takeNumber 32 rfl) rfl ?_
      refine g_geti (pc := 70) (dd d_Mod_takeNumber 33 rfl) f_Mod_273 ob_MO rfl ?_
      exact K58 _ (by rw [if_pos q12])
    · skip
      refine g_aload_n (pc := 61) (dd d_Mod_takeNumber 28 rfl) rfl ?_
      refine g_geti (pc := 62) (dd d_Mod_takeNumber 29 rfl) f_Mod_273 ob_MO rfl ?_
      refine g_ineg (pc := 65) (dd d_Mod_takeNumber 30 rfl) ?_
      refine g_goto (pc := 66) (tgt := 73) (dd d_Mod_takeNumber 31 rfl) (by decide) ?_
      exact K58 _ (by rw [if_neg q12])
  intro z hz
  subst hz
  refine g_istore (pc := 73) (dd d_Mod_takeNumber 34 rfl) (by decide) ?_
  refine g_aload_n (pc := 75) (dd d_Mod_takeNumber 35 rfl) rfl ?_
  refine g_geti (pc := 76) (dd d_Mod_takeNumber 36 rfl) f_Mod_280 ob_MO rfl ?_
  refine g_ifge (pc := 79) (tgt := 98) (dd d_Mod_takeNumber 37 rfl) (by decide) (fun q13 => ?_) (fun q13 => ?_)
  · replace h := ite_t h q13
    refine g_drop [1, 2, 4, 5] ?_
    exact gb_Mod_takeNumber_98 hX hk hT  h
  · replace h := ite_f h q13
    refine g_iload (pc := 82) (dd d_Mod_takeNumber 38 rfl) rfl ?_
    refine g_iload_n (pc := 84) (dd d_Mod_takeNumber 39 rfl) rfl ?_
    refine g_iload_n (pc := 85) (dd d_Mod_takeNumber 40 rfl) rfl ?_
    obtain ⟨v14, e15, h⟩ := bnd_e h
    refine g_callS (pc := 86) (dd d_Mod_takeNumber 41 rfl) s_Mod_243 (ef_Mod_in hX e15) rfl (by rw [hk]; decide) (Nat.le_of_ble_eq_true rfl) ⟨Nat.zero_le _, Nat.zero_le _⟩ rfl ?_
    refine g_ifne (pc := 89) (tgt := 98) (dd d_Mod_takeNumber 42 rfl) (by decide) (fun q16 => ?_) (fun q16 => ?_)
    · replace h := ite_f h q16
      refine g_drop [1, 2, 4, 5] ?_
      exact gb_Mod_takeNumber_98 hX hk hT  h
    · replace h := ite_t h q16
      refine g_aload_n (pc := 92) (dd d_Mod_takeNumber 43 rfl) rfl ?_
      refine g_iload (pc := 93) (dd d_Mod_takeNumber 44 rfl) rfl ?_
      refine g_putiN (pc := 95) (dd d_Mod_takeNumber 45 rfl) f_Mod_280 fm_Mod_14 ob_MO rfl (fun I17 hI17 => ?_)
      replace h := lt_e h hI17
      refine g_drop [1, 2, 4, 5] ?_
      exact gb_Mod_takeNumber_98 hX hk hT  h
def b_Mod_takeNumber_35 (n : Nat) (J : JM)  (x1 : Int32) (x2 : Int32) (x4 : Int32) (x5 : Int32) (I : IM) : Option (IM) := if 0 ≤ (I MO 14 : Int32) then (b_Mod_takeNumber_56 n J  x1 x2 x4 x5 I) else (if (I MO 10 : Int32) = (200 : Int32) then (b_Mod_takeNumber_56 n J  x1 x2 x4 x5 I) else (Option.bind (f_Mod_fail   I) fun v10 => b_Mod_takeNumber_56 n J  x1 x2 x4 x5 v10))
set_option maxRecDepth 20000 in
set_option maxHeartbeats 4000000 in
theorem gb_Mod_takeNumber_35 {Δ : Dx} {X : Lx} (hX : MX Δ X)   {n : Nat} {Γ : Cx} (hk : Γ.k = 4) {r : IM} (hT : Tg Δ Γ none NN (r, X) 0 0)  {x1 : Int32} {x2 : Int32} {x4 : Int32} {x5 : Int32} {I : IM} (h : b_Mod_takeNumber_35 n X.1  x1 x2 x4 x5 I = some r) : GG Δ m_Mod_takeNumber Γ NN 0 0 (I, X) 35 [some (.ref (Δ.ba + MO)), some (.int (x1)), some (.int (x2)), none, some (.int (x4)), some (.int (x5)), none] [] := by
  unfold b_Mod_takeNumber_35 at h
  refine g_aload_n (pc := 35) (dd d_Mod_takeNumber 17 rfl) rfl ?_
  refine g_geti (pc := 36) (dd d_Mod_takeNumber 18 rfl) f_Mod_280 ob_MO rfl ?_
  refine g_ifge (pc := 39) (tgt := 56) (dd d_Mod_takeNumber 19 rfl) (by decide) (fun q8 => ?_) (fun q8 => ?_)
  · replace h := ite_t h q8
    exact gb_Mod_takeNumber_56 hX hk hT  h
  · replace h := ite_f h q8
    refine g_aload_n (pc := 42) (dd d_Mod_takeNumber 20 rfl) rfl ?_
    refine g_geti (pc := 43) (dd d_Mod_takeNumber 21 rfl) f_Mod_270 ob_MO rfl ?_
    refine g_sipush (pc := 46) (v := 200) (dd d_Mod_takeNumber 22 rfl) (by decide) ?_
    refine g_icmpeq (pc := 49) (tgt := 56) (dd d_Mod_takeNumber 23 rfl) (by decide) (fun q9 => ?_) (fun q9 => ?_)
    · replace h := ite_t h q9
      exact gb_Mod_takeNumber_56 hX hk hT  h
    · replace h := ite_f h q9
      refine g_aload_n (pc := 52) (dd d_Mod_takeNumber 24 rfl) rfl ?_
      obtain ⟨v10, e11, h⟩ := bnd_e h
      refine g_callV (pc := 53) (dd d_Mod_takeNumber 25 rfl) v_Mod_286 ob_MO rfl (ef_Mod_fail hX e11) rfl (by rw [hk]; decide) (Nat.le_of_ble_eq_true rfl) ⟨Nat.zero_le _, Nat.zero_le _⟩ rfl ?_
      exact gb_Mod_takeNumber_56 hX hk hT  h
def b_Mod_takeNumber_24 (n : Nat) (J : JM)  (x1 : Int32) (x2 : Int32) (x4 : Int32) (y0 : Int32) (I : IM) : Option (IM) := if y0 = 0 then (b_Mod_takeNumber_35 n J  x1 x2 x4 y0 I) else (Option.bind (f_Mod_step n J I) fun v22 => b_Mod_takeNumber_35 n J  x1 x2 x4 y0 v22)
set_option maxRecDepth 20000 in
set_option maxHeartbeats 4000000 in
theorem gb_Mod_takeNumber_24 {Δ : Dx} {X : Lx} (hX : MX Δ X)   {n : Nat} {Γ : Cx} (hk : Γ.k = 4) {r : IM} (hT : Tg Δ Γ none NN (r, X) 0 0)  {x1 : Int32} {x2 : Int32} {x4 : Int32} {y0 : Int32} {I : IM} (h : b_Mod_takeNumber_24 n X.1  x1 x2 x4 y0 I = some r) : GG Δ m_Mod_takeNumber Γ NN 0 0 (I, X) 24 [some (.ref (Δ.ba + MO)), some (.int (x1)), some (.int (x2)), none, some (.int (x4)), none, none] [.int (y0)] := by
  unfold b_Mod_takeNumber_24 at h
  refine g_istore (pc := 24) (dd d_Mod_takeNumber 12 rfl) (by decide) ?_
  refine g_iload (pc := 26) (dd d_Mod_takeNumber 13 rfl) rfl ?_
  refine g_ifeq (pc := 28) (tgt := 35) (dd d_Mod_takeNumber 14 rfl) (by decide) (fun q21 => ?_) (fun q21 => ?_)
  · replace h := ite_t h q21
    exact gb_Mod_takeNumber_35 hX hk hT  h
  · replace h := ite_f h q21
    refine g_aload_n (pc := 31) (dd d_Mod_takeNumber 15 rfl) rfl ?_
    obtain ⟨v22, e23, h⟩ := bnd_e h
    refine g_callV (pc := 32) (dd d_Mod_takeNumber 16 rfl) v_Mod_328 ob_MO rfl (ef_Mod_step hX e23) rfl (by rw [hk]; decide) (Nat.le_of_ble_eq_true rfl) ⟨Nat.zero_le _, Nat.zero_le _⟩ rfl ?_
    exact gb_Mod_takeNumber_35 hX hk hT  h
def b_Mod_takeNumber_23 (n : Nat) (J : JM)  (x1 : Int32) (x2 : Int32) (x4 : Int32) (I : IM) : Option (IM) := b_Mod_takeNumber_24 n J  x1 x2 x4 0 I
set_option maxRecDepth 20000 in
set_option maxHeartbeats 4000000 in
theorem gb_Mod_takeNumber_23 {Δ : Dx} {X : Lx} (hX : MX Δ X)   {n : Nat} {Γ : Cx} (hk : Γ.k = 4) {r : IM} (hT : Tg Δ Γ none NN (r, X) 0 0)  {x1 : Int32} {x2 : Int32} {x4 : Int32} {I : IM} (h : b_Mod_takeNumber_23 n X.1  x1 x2 x4 I = some r) : GG Δ m_Mod_takeNumber Γ NN 0 0 (I, X) 23 [some (.ref (Δ.ba + MO)), some (.int (x1)), some (.int (x2)), none, some (.int (x4)), none, none] [] := by
  unfold b_Mod_takeNumber_23 at h
  refine g_iconst (pc := 23) (v := 0) (dd d_Mod_takeNumber 11 rfl) (by decide) ?_
  exact gb_Mod_takeNumber_24 hX hk hT  h
def f_Mod_takeNumber (n : Nat) (J : JM) (x1 : Int32) (x2 : Int32) (x3 : Int32) (I : IM) : Option (IM) := if x3 = 0 then (b_Mod_takeNumber_23 n J  x1 x2 (I MO 12) I) else (Option.bind (f_Mod_is  45 I) fun v2 => if (if v2 = 0 then 0 else 1 : Int32) = 0 then (b_Mod_takeNumber_35 n J  x1 x2 (I MO 12) (if v2 = 0 then 0 else 1) I) else (Option.bind (f_Mod_step n J I) fun v6 => b_Mod_takeNumber_35 n J  x1 x2 (I MO 12) (if v2 = 0 then 0 else 1) v6))
set_option maxRecDepth 20000 in
set_option maxHeartbeats 4000000 in
theorem ef_Mod_takeNumber {Δ : Dx} {X : Lx} (hX : MX Δ X) {n : Nat} {x1 : Int32} {x2 : Int32} {x3 : Int32}  {I : IM}  {r : IM} (h : f_Mod_takeNumber n X.1 x1 x2 x3 I = some r) : Ev Δ 4 m_Mod_takeNumber [.ref (Δ.ba + MO), .int x1, .int x2, .int x3] (I, X) none (r, X) := by
  refine ev_of (by decide) (Nat.le_of_ble_eq_true rfl) (fun Γ hk hR hT => ?_)
  change GG Δ m_Mod_takeNumber Γ NN 0 0 (I, X) 0 [some (.ref (Δ.ba + MO)), some (.int (x1)), some (.int (x2)), some (.int (x3)), none, none, none] []
  unfold f_Mod_takeNumber at h
  refine g_aload_n (pc := 0) (dd d_Mod_takeNumber 0 rfl) rfl ?_
  refine g_geti (pc := 1) (dd d_Mod_takeNumber 1 rfl) f_Mod_263 ob_MO rfl ?_
  refine g_istore (pc := 4) (dd d_Mod_takeNumber 2 rfl) (by decide) ?_
  refine g_iload_n (pc := 6) (dd d_Mod_takeNumber 3 rfl) rfl ?_
  refine g_ifeq (pc := 7) (tgt := 23) (dd d_Mod_takeNumber 4 rfl) (by decide) (fun q1 => ?_) (fun q1 => ?_)
  · replace h := ite_t h q1
    refine g_drop [3] ?_
    exact gb_Mod_takeNumber_23 hX hk hT  h
  · replace h := ite_f h q1
    refine g_aload_n (pc := 10) (dd d_Mod_takeNumber 5 rfl) rfl ?_
    refine g_bipush (pc := 11) (v := 45) (dd d_Mod_takeNumber 6 rfl) (by decide) ?_
    obtain ⟨v2, e3, h⟩ := bnd_e h
    refine g_callV (pc := 13) (dd d_Mod_takeNumber 7 rfl) v_Mod_283 ob_MO rfl (ef_Mod_is hX e3) rfl (by rw [hk]; decide) (Nat.le_of_ble_eq_true rfl) ⟨Nat.zero_le _, Nat.zero_le _⟩ rfl ?_
    suffices K16 : ∀ z : Int32, z = (if v2 = 0 then 0 else 1 : Int32) → GG Δ m_Mod_takeNumber Γ NN 0 0 (I, X) 24 [some (.ref (Δ.ba + MO)), some (.int (x1)), some (.int (x2)), some (.int (x3)), some (.int (I MO 12)), none, none] [.int (z)] by
      refine g_ifeq (pc := 16) (tgt := 23) (dd d_Mod_takeNumber 8 rfl) (by decide) (fun q4 => ?_) (fun q4 => ?_)
      · skip
        refine g_iconst (pc := 23) (v := 0) (dd d_Mod_takeNumber 11 rfl) (by decide) ?_
        exact K16 _ (by rw [if_pos q4])
      · skip
        refine g_iconst (pc := 19) (v := 1) (dd d_Mod_takeNumber 9 rfl) (by decide) ?_
        refine g_goto (pc := 20) (tgt := 24) (dd d_Mod_takeNumber 10 rfl) (by decide) ?_
        exact K16 _ (by rw [if_neg q4])
    intro z hz
    subst hz
    refine g_istore (pc := 24) (dd d_Mod_takeNumber 12 rfl) (by decide) ?_
    refine g_iload (pc := 26) (dd d_Mod_takeNumber 13 rfl) rfl ?_
    refine g_ifeq (pc := 28) (tgt := 35) (dd d_Mod_takeNumber 14 rfl) (by decide) (fun q5 => ?_) (fun q5 => ?_)
    · replace h := ite_t h q5
      refine g_drop [3] ?_
      exact gb_Mod_takeNumber_35 hX hk hT  h
    · replace h := ite_f h q5
      refine g_aload_n (pc := 31) (dd d_Mod_takeNumber 15 rfl) rfl ?_
      obtain ⟨v6, e7, h⟩ := bnd_e h
      refine g_callV (pc := 32) (dd d_Mod_takeNumber 16 rfl) v_Mod_328 ob_MO rfl (ef_Mod_step hX e7) rfl (by rw [hk]; decide) (Nat.le_of_ble_eq_true rfl) ⟨Nat.zero_le _, Nat.zero_le _⟩ rfl ?_
      refine g_drop [3] ?_
      exact gb_Mod_takeNumber_35 hX hk hT  h
def f_Mod_takeAny (n : Nat) (J : JM) (I : IM) : Option (IM) := Option.bind (f_Mod_takeNumber n J (-9999999) 9999999 1 I) fun v1 => some v1
set_option maxRecDepth 20000 in
set_option maxHeartbeats 4000000 in
theorem ef_Mod_takeAny {Δ : Dx} {X : Lx} (hX : MX Δ X) {n : Nat}  {I : IM}  {r : IM} (h : f_Mod_takeAny n X.1 I = some r) : Ev Δ 5 m_Mod_takeAny [.ref (Δ.ba + MO)] (I, X) none (r, X) := by
  refine ev_of (by decide) (Nat.le_of_ble_eq_true rfl) (fun Γ hk hR hT => ?_)
  change GG Δ m_Mod_takeAny Γ NN 0 0 (I, X) 0 [some (.ref (Δ.ba + MO))] []
  unfold f_Mod_takeAny at h
  refine g_aload_n (pc := 0) (dd d_Mod_takeAny 0 rfl) rfl ?_
  refine g_ldcw (pc := 1) (dd d_Mod_takeAny 1 rfl) c_Mod_427 ?_
  refine g_ldcw (pc := 4) (dd d_Mod_takeAny 2 rfl) c_Mod_428 ?_
  refine g_iconst (pc := 7) (v := 1) (dd d_Mod_takeAny 3 rfl) (by decide) ?_
  obtain ⟨v1, e2, h⟩ := bnd_e h
  refine g_callV (pc := 8) (dd d_Mod_takeAny 4 rfl) v_Mod_429 ob_MO rfl (ef_Mod_takeNumber hX e2) rfl (by rw [hk]; decide) (Nat.le_of_ble_eq_true rfl) ⟨Nat.zero_le _, Nat.zero_le _⟩ rfl ?_
  cases h
  exact g_vret (pc := 11) rfl (dd d_Mod_takeAny 5 rfl) hT
def b_Mod_takeAfter_15 (n : Nat) (J : JM)   (I : IM) : Option (Int32 × IM) := some (0, I)
set_option maxRecDepth 20000 in
set_option maxHeartbeats 4000000 in
theorem gb_Mod_takeAfter_15 {Δ : Dx} {X : Lx} (hX : MX Δ X)   {n : Nat} {Γ : Cx} (hk : Γ.k = 6) {r : Int32 × IM} (hT : Tg Δ Γ (some (.int r.1)) NN (r.2, X) 0 0)   {I : IM} (h : b_Mod_takeAfter_15 n X.1   I = some r) : GG Δ m_Mod_takeAfter Γ NN 0 0 (I, X) 15 [none, none] [] := by
  unfold b_Mod_takeAfter_15 at h
  refine g_iconst (pc := 15) (v := 0) (dd d_Mod_takeAfter 7 rfl) (by decide) ?_
  cases h
  exact g_iret (pc := 16) rfl (dd d_Mod_takeAfter 8 rfl) hT
def f_Mod_takeAfter (n : Nat) (J : JM) (x1 : Int32) (I : IM) : Option (Int32 × IM) := if 0 ≤ (I MO 14 : Int32) then (b_Mod_takeAfter_15 n J  I) else (if (I MO 10 : Int32) = x1 then (Option.bind (f_Mod_step n J I) fun v3 => Option.bind (f_Mod_takeAny n J v3) fun v5 => some (v5 MO 7, v5)) else (b_Mod_takeAfter_15 n J  I))
set_option maxRecDepth 20000 in
set_option maxHeartbeats 4000000 in
theorem ef_Mod_takeAfter {Δ : Dx} {X : Lx} (hX : MX Δ X) {n : Nat} {x1 : Int32}  {I : IM}  {r : Int32 × IM} (h : f_Mod_takeAfter n X.1 x1 I = some r) : Ev Δ 6 m_Mod_takeAfter [.ref (Δ.ba + MO), .int x1] (I, X) (some (.int r.1)) (r.2, X) := by
  refine ev_of (by decide) (Nat.le_of_ble_eq_true rfl) (fun Γ hk hR hT => ?_)
  change GG Δ m_Mod_takeAfter Γ NN 0 0 (I, X) 0 [some (.ref (Δ.ba + MO)), some (.int (x1))] []
  unfold f_Mod_takeAfter at h
  refine g_aload_n (pc := 0) (dd d_Mod_takeAfter 0 rfl) rfl ?_
  refine g_geti (pc := 1) (dd d_Mod_takeAfter 1 rfl) f_Mod_280 ob_MO rfl ?_
  refine g_ifge (pc := 4) (tgt := 15) (dd d_Mod_takeAfter 2 rfl) (by decide) (fun q1 => ?_) (fun q1 => ?_)
  · replace h := ite_t h q1
    refine g_drop [0, 1] ?_
    exact gb_Mod_takeAfter_15 hX hk hT  h
  · replace h := ite_f h q1
    refine g_aload_n (pc := 7) (dd d_Mod_takeAfter 3 rfl) rfl ?_
    refine g_geti (pc := 8) (dd d_Mod_takeAfter 4 rfl) f_Mod_270 ob_MO rfl ?_
    refine g_iload_n (pc := 11) (dd d_Mod_takeAfter 5 rfl) rfl ?_
    refine g_icmpeq (pc := 12) (tgt := 17) (dd d_Mod_takeAfter 6 rfl) (by decide) (fun q2 => ?_) (fun q2 => ?_)
    · replace h := ite_t h q2
      refine g_aload_n (pc := 17) (dd d_Mod_takeAfter 9 rfl) rfl ?_
      obtain ⟨v3, e4, h⟩ := bnd_e h
      refine g_callV (pc := 18) (dd d_Mod_takeAfter 10 rfl) v_Mod_328 ob_MO rfl (ef_Mod_step hX e4) rfl (by rw [hk]; decide) (Nat.le_of_ble_eq_true rfl) ⟨Nat.zero_le _, Nat.zero_le _⟩ rfl ?_
      refine g_aload_n (pc := 21) (dd d_Mod_takeAfter 11 rfl) rfl ?_
      obtain ⟨v5, e6, h⟩ := bnd_e h
      refine g_callV (pc := 22) (dd d_Mod_takeAfter 12 rfl) v_Mod_432 ob_MO rfl (ef_Mod_takeAny hX e6) rfl (by rw [hk]; decide) (Nat.le_of_ble_eq_true rfl) ⟨Nat.zero_le _, Nat.zero_le _⟩ rfl ?_
      refine g_aload_n (pc := 25) (dd d_Mod_takeAfter 13 rfl) rfl ?_
      refine g_geti (pc := 26) (dd d_Mod_takeAfter 14 rfl) f_Mod_424 ob_MO rfl ?_
      cases h
      exact g_iret (pc := 29) rfl (dd d_Mod_takeAfter 15 rfl) hT
    · replace h := ite_f h q2
      refine g_drop [0, 1] ?_
      exact gb_Mod_takeAfter_15 hX hk hT  h
def b_Mod_instructionLine_281 (n : Nat) (J : JM) (H30 : Int32 → Int32 → Int32 → Int32 → IM → Option (IM)) (x1 : Int32) (x2 : Int32) (x3 : Int32) (x4 : Int32) (I : IM) : Option (IM) := H30 x1 x2 x3 x4 I
set_option maxRecDepth 20000 in
set_option maxHeartbeats 4000000 in
theorem gb_Mod_instructionLine_281 {Δ : Dx} {X : Lx} (hX : MX Δ X)   {n : Nat} {Γ : Cx} (hk : Γ.k = 5) {r : IM} (hT : Tg Δ Γ none NN (r, X) 0 0) {H30 : Int32 → Int32 → Int32 → Int32 → IM → Option (IM)} (hH30 : ∀ (x1 : Int32) (x2 : Int32) (x3 : Int32) (x4 : Int32) (I : IM), H30 x1 x2 x3 x4 I = some r → GG Δ m_Mod_instructionLine Γ NN 0 0 (I, X) 30 [some (.ref (Δ.ba + MO)), some (.int (x1)), some (.int (x2)), some (.int (x3)), some (.int (x4)), none] []) {x1 : Int32} {x2 : Int32} {x3 : Int32} {x4 : Int32} {I : IM} (h : b_Mod_instructionLine_281 n X.1 H30 x1 x2 x3 x4 I = some r) : GG Δ m_Mod_instructionLine Γ NN 0 0 (I, X) 281 [some (.ref (Δ.ba + MO)), some (.int (x1)), some (.int (x2)), some (.int (x3)), some (.int (x4)), none] [] := by
  unfold b_Mod_instructionLine_281 at h
  refine g_goto (pc := 281) (tgt := 30) (dd d_Mod_instructionLine_2 26 rfl) (by decide) ?_
  exact hH30 _ _ _ _ _ h
def b_Mod_instructionLine_210 (n : Nat) (J : JM) (H30 : Int32 → Int32 → Int32 → Int32 → IM → Option (IM)) (x1 : Int32) (x2 : Int32) (x3 : Int32) (x4 : Int32) (x5 : Int32) (y2 : Int32) (y1 : Int32) (I : IM) : Option (IM) := Option.bind (f_Mod_takeNumber n J y1 y2 (if x5 ≤ (2 : Int32) then 0 else 1) I) fun v30 => b_Mod_instructionLine_281 n J H30 (if (3 : Int32) ≤ x5 then (if x5 = (3 : Int32) then ((x1) ||| ((v30 MO 7 : Int32) <<< ((16 : Int32) &&& 31))) else x1) else ((x1) ||| ((v30 MO 7 : Int32) <<< (((5) + ((3) * (x5)) : Int32) &&& 31)))) (if x5 = (4 : Int32) then (v30 MO 7) else x2) x3 x4 v30
set_option maxRecDepth 20000 in
set_option maxHeartbeats 4000000 in
theorem gb_Mod_instructionLine_210 {Δ : Dx} {X : Lx} (hX : MX Δ X)   {n : Nat} {Γ : Cx} (hk : Γ.k = 5) {r : IM} (hT : Tg Δ Γ none NN (r, X) 0 0) {H30 : Int32 → Int32 → Int32 → Int32 → IM → Option (IM)} (hH30 : ∀ (x1 : Int32) (x2 : Int32) (x3 : Int32) (x4 : Int32) (I : IM), H30 x1 x2 x3 x4 I = some r → GG Δ m_Mod_instructionLine Γ NN 0 0 (I, X) 30 [some (.ref (Δ.ba + MO)), some (.int (x1)), some (.int (x2)), some (.int (x3)), some (.int (x4)), none] []) {x1 : Int32} {x2 : Int32} {x3 : Int32} {x4 : Int32} {x5 : Int32} {y2 : Int32} {y1 : Int32} {I : IM} (h : b_Mod_instructionLine_210 n X.1 H30 x1 x2 x3 x4 x5 y2 y1 I = some r) : GG Δ m_Mod_instructionLine Γ NN 0 0 (I, X) 210 [some (.ref (Δ.ba + MO)), some (.int (x1)), some (.int (x2)), some (.int (x3)), some (.int (x4)), some (.int (x5))] [.int (y2), .int (y1), .ref (Δ.ba + MO)] := by
  unfold b_Mod_instructionLine_210 at h
  refine g_iload (pc := 210) (dd d_Mod_instructionLine_1 45 rfl) rfl ?_
  refine g_iconst (pc := 212) (v := 2) (dd d_Mod_instructionLine_1 46 rfl) (by decide) ?_
  suffices K213 : ∀ z : Int32, z = (if x5 ≤ (2 : Int32) then 0 else 1 : Int32) → GG Δ m_Mod_instructionLine Γ NN 0 0 (I, X) 221 [some (.ref (Δ.ba + MO)), some (.int (x1)), some (.int (x2)), some (.int (x3)), some (.int (x4)), some (.int (x5))] [.int (z), .int (y2), .int (y1), .ref (Δ.ba + MO)] by
    refine g_icmple (pc := 213) (tgt := 220) (dd d_Mod_instructionLine_1 47 rfl) (by decide) (fun q29 => ?_) (fun q29 => ?_)
    · skip
      refine g_iconst (pc := 220) (v := 0) (dd d_Mod_instructionLine_1 50 rfl) (by decide) ?_
      exact K213 _ (by rw [if_pos q29])
    · skip
      refine g_iconst (pc := 216) (v := 1) (dd d_Mod_instructionLine_1 48 rfl) (by decide) ?_
      refine g_goto (pc := 217) (tgt := 221) (dd d_Mod_instructionLine_1 49 rfl) (by decide) ?_
      exact K213 _ (by rw [if_neg q29])
  intro z hz
  subst hz
  obtain ⟨v30, e31, h⟩ := bnd_e h
  refine g_callV (pc := 221) (dd d_Mod_instructionLine_1 51 rfl) v_Mod_429 ob_MO rfl (ef_Mod_takeNumber hX e31) rfl (by rw [hk]; decide) (Nat.le_of_ble_eq_true rfl) ⟨Nat.zero_le _, Nat.zero_le _⟩ rfl ?_
  refine g_iload (pc := 224) (dd d_Mod_instructionLine_1 52 rfl) rfl ?_
  refine g_iconst (pc := 226) (v := 3) (dd d_Mod_instructionLine_1 53 rfl) (by decide) ?_
  suffices K227 : ∀ z : Int32, z = (if (3 : Int32) ≤ x5 then (if x5 = (3 : Int32) then ((x1) ||| ((v30 MO 7 : Int32) <<< ((16 : Int32) &&& 31))) else x1) else ((x1) ||| ((v30 MO 7 : Int32) <<< (((5) + ((3) * (x5)) : Int32) &&& 31))) : Int32) → GG Δ m_Mod_instructionLine Γ NN 0 0 (v30, X) 265 [some (.ref (Δ.ba + MO)), some (.int (x1)), some (.int (x2)), some (.int (x3)), some (.int (x4)), some (.int (x5))] [.int (z)] by
    refine g_icmpge (pc := 227) (tgt := 246) (dd d_Mod_instructionLine_1 54 rfl) (by decide) (fun q32 => ?_) (fun q32 => ?_)
    · skip
      refine g_iload (pc := 246) (dd d_Mod_instructionLine_2 6 rfl) rfl ?_
      refine g_iconst (pc := 248) (v := 3) (dd d_Mod_instructionLine_2 7 rfl) (by decide) ?_
      refine g_icmpne (pc := 249) (tgt := 264) (dd d_Mod_instructionLine_2 8 rfl) (by decide) (fun q33 => ?_) (fun q33 => ?_)
      · skip
        refine g_iload_n (pc := 264) (dd d_Mod_instructionLine_2 16 rfl) rfl ?_
        exact K227 _ (by rw [if_pos q32, if_neg q33])
      · skip
        refine g_iload_n (pc := 252) (dd d_Mod_instructionLine_2 9 rfl) rfl ?_
        refine g_aload_n (pc := 253) (dd d_Mod_instructionLine_2 10 rfl) rfl ?_
        refine g_geti (pc := 254) (dd d_Mod_instructionLine_2 11 rfl) f_Mod_424 ob_MO rfl ?_
        refine g_bipush (pc := 257) (v := 16) (dd d_Mod_instructionLine_2 12 rfl) (by decide) ?_
        refine g_ishl (pc := 259) (dd d_Mod_instructionLine_2 13 rfl) ?_
        refine g_ior (pc := 260) (dd d_Mod_instructionLine_2 14 rfl) ?_
        refine g_goto (pc := 261) (tgt := 265) (dd d_Mod_instructionLine_2 15 rfl) (by decide) ?_
        exact K227 _ (by rw [if_pos q32, if_pos q33])
    · skip
      refine g_iload_n (pc := 230) (dd d_Mod_instructionLine_1 55 rfl) rfl ?_
      refine g_aload_n (pc := 231) (dd d_Mod_instructionLine_1 56 rfl) rfl ?_
      refine g_geti (pc := 232) (dd d_Mod_instructionLine_1 57 rfl) f_Mod_424 ob_MO rfl ?_
      refine g_iconst (pc := 235) (v := 5) (dd d_Mod_instructionLine_1 58 rfl) (by decide) ?_
      refine g_iconst (pc := 236) (v := 3) (dd d_Mod_instructionLine_1 59 rfl) (by decide) ?_
      refine g_iload (pc := 237) (dd d_Mod_instructionLine_2 0 rfl) rfl ?_
      refine g_imul (pc := 239) (dd d_Mod_instructionLine_2 1 rfl) ?_
      refine g_iadd (pc := 240) (dd d_Mod_instructionLine_2 2 rfl) ?_
      refine g_ishl (pc := 241) (dd d_Mod_instructionLine_2 3 rfl) ?_
      refine g_ior (pc := 242) (dd d_Mod_instructionLine_2 4 rfl) ?_
      refine g_goto (pc := 243) (tgt := 265) (dd d_Mod_instructionLine_2 5 rfl) (by decide) ?_
      exact K227 _ (by rw [if_neg q32])
  intro z hz
  subst hz
  refine g_istore_n (pc := 265) (dd d_Mod_instructionLine_2 17 rfl) (by decide) ?_
  refine g_iload (pc := 266) (dd d_Mod_instructionLine_2 18 rfl) rfl ?_
  refine g_iconst (pc := 268) (v := 4) (dd d_Mod_instructionLine_2 19 rfl) (by decide) ?_
  suffices K269 : ∀ z : Int32, z = (if x5 = (4 : Int32) then (v30 MO 7) else x2 : Int32) → GG Δ m_Mod_instructionLine Γ NN 0 0 (v30, X) 280 [some (.ref (Δ.ba + MO)), some (.int (if (3 : Int32) ≤ x5 then (if x5 = (3 : Int32) then ((x1) ||| ((v30 MO 7 : Int32) <<< ((16 : Int32) &&& 31))) else x1) else ((x1) ||| ((v30 MO 7 : Int32) <<< (((5) + ((3) * (x5)) : Int32) &&& 31))))), some (.int (x2)), some (.int (x3)), some (.int (x4)), some (.int (x5))] [.int (z)] by
    refine g_icmpne (pc := 269) (tgt := 279) (dd d_Mod_instructionLine_2 20 rfl) (by decide) (fun q34 => ?_) (fun q34 => ?_)
    · skip
      refine g_iload_n (pc := 279) (dd d_Mod_instructionLine_2 24 rfl) rfl ?_
      exact K269 _ (by rw [if_neg q34])
    · skip
      refine g_aload_n (pc := 272) (dd d_Mod_instructionLine_2 21 rfl) rfl ?_
      refine g_geti (pc := 273) (dd d_Mod_instructionLine_2 22 rfl) f_Mod_424 ob_MO rfl ?_
      refine g_goto (pc := 276) (tgt := 280) (dd d_Mod_instructionLine_2 23 rfl) (by decide) ?_
      exact K269 _ (by rw [if_pos q34])
  intro z hz
  subst hz
  refine g_istore_n (pc := 280) (dd d_Mod_instructionLine_2 25 rfl) (by decide) ?_
  refine g_drop [5] ?_
  exact gb_Mod_instructionLine_281 hX hk hT hH30 h
def b_Mod_instructionLine_184 (n : Nat) (J : JM) (H30 : Int32 → Int32 → Int32 → Int32 → IM → Option (IM)) (x1 : Int32) (x2 : Int32) (x3 : Int32) (x4 : Int32) (x5 : Int32) (y1 : Int32) (I : IM) : Option (IM) := if (3 : Int32) ≤ x5 then (if x5 = (3 : Int32) then (b_Mod_instructionLine_210 n J H30 x1 x2 x3 x4 x5 32767 y1 I) else (b_Mod_instructionLine_210 n J H30 x1 x2 x3 x4 x5 9999999 y1 I)) else (b_Mod_instructionLine_210 n J H30 x1 x2 x3 x4 x5 7 y1 I)
set_option maxRecDepth 20000 in
set_option maxHeartbeats 4000000 in
theorem gb_Mod_instructionLine_184 {Δ : Dx} {X : Lx} (hX : MX Δ X)   {n : Nat} {Γ : Cx} (hk : Γ.k = 5) {r : IM} (hT : Tg Δ Γ none NN (r, X) 0 0) {H30 : Int32 → Int32 → Int32 → Int32 → IM → Option (IM)} (hH30 : ∀ (x1 : Int32) (x2 : Int32) (x3 : Int32) (x4 : Int32) (I : IM), H30 x1 x2 x3 x4 I = some r → GG Δ m_Mod_instructionLine Γ NN 0 0 (I, X) 30 [some (.ref (Δ.ba + MO)), some (.int (x1)), some (.int (x2)), some (.int (x3)), some (.int (x4)), none] []) {x1 : Int32} {x2 : Int32} {x3 : Int32} {x4 : Int32} {x5 : Int32} {y1 : Int32} {I : IM} (h : b_Mod_instructionLine_184 n X.1 H30 x1 x2 x3 x4 x5 y1 I = some r) : GG Δ m_Mod_instructionLine Γ NN 0 0 (I, X) 184 [some (.ref (Δ.ba + MO)), some (.int (x1)), some (.int (x2)), some (.int (x3)), some (.int (x4)), some (.int (x5))] [.int (y1), .ref (Δ.ba + MO)] := by
  unfold b_Mod_instructionLine_184 at h
  refine g_iload (pc := 184) (dd d_Mod_instructionLine_1 34 rfl) rfl ?_
  refine g_iconst (pc := 186) (v := 3) (dd d_Mod_instructionLine_1 35 rfl) (by decide) ?_
  refine g_icmpge (pc := 187) (tgt := 195) (dd d_Mod_instructionLine_1 36 rfl) (by decide) (fun q27 => ?_) (fun q27 => ?_)
  · replace h := ite_t h q27
    refine g_iload (pc := 195) (dd d_Mod_instructionLine_1 39 rfl) rfl ?_
    refine g_iconst (pc := 197) (v := 3) (dd d_Mod_instructionLine_1 40 rfl) (by decide) ?_
    refine g_icmpne (pc := 198) (tgt := 207) (dd d_Mod_instructionLine_1 41 rfl) (by decide) (fun q28 => ?_) (fun q28 => ?_)
    · replace h := ite_f h q28
      refine g_ldcw (pc := 207) (dd d_Mod_instructionLine_1 44 rfl) c_Mod_428 ?_
      exact gb_Mod_instructionLine_210 hX hk hT hH30 h
    · replace h := ite_t h q28
      refine g_sipush (pc := 201) (v := 32767) (dd d_Mod_instructionLine_1 42 rfl) (by decide) ?_
      refine g_goto (pc := 204) (tgt := 210) (dd d_Mod_instructionLine_1 43 rfl) (by decide) ?_
      exact gb_Mod_instructionLine_210 hX hk hT hH30 h
  · replace h := ite_f h q27
    refine g_bipush (pc := 190) (v := 7) (dd d_Mod_instructionLine_1 37 rfl) (by decide) ?_
    refine g_goto (pc := 192) (tgt := 210) (dd d_Mod_instructionLine_1 38 rfl) (by decide) ?_
    exact gb_Mod_instructionLine_210 hX hk hT hH30 h
def b_Mod_instructionLine_135 (n : Nat) (J : JM) (H30 : Int32 → Int32 → Int32 → Int32 → IM → Option (IM)) (x1 : Int32) (x2 : Int32) (x3 : Int32) (x4 : Int32) (x5 : Int32) (I : IM) : Option (IM) := if x4 = 0 then (b_Mod_instructionLine_281 n J H30 x1 x2 x3 x4 I) else (if 0 ≤ (I MO 14 : Int32) then (b_Mod_instructionLine_281 n J H30 x1 x2 x3 x4 I) else (Option.bind (f_Mod_step n J I) fun v23 => if (3 : Int32) ≤ x5 then (if x5 = (3 : Int32) then (b_Mod_instructionLine_184 n J H30 x1 x2 (x3 ||| ((1 : Int32) <<< ((x5 : Int32) &&& 31))) x4 x5 (-32768) v23) else (b_Mod_instructionLine_184 n J H30 x1 x2 (x3 ||| ((1 : Int32) <<< ((x5 : Int32) &&& 31))) x4 x5 (-9999999) v23)) else (b_Mod_instructionLine_184 n J H30 x1 x2 (x3 ||| ((1 : Int32) <<< ((x5 : Int32) &&& 31))) x4 x5 0 v23)))
set_option maxRecDepth 20000 in
set_option maxHeartbeats 4000000 in
theorem gb_Mod_instructionLine_135 {Δ : Dx} {X : Lx} (hX : MX Δ X)   {n : Nat} {Γ : Cx} (hk : Γ.k = 5) {r : IM} (hT : Tg Δ Γ none NN (r, X) 0 0) {H30 : Int32 → Int32 → Int32 → Int32 → IM → Option (IM)} (hH30 : ∀ (x1 : Int32) (x2 : Int32) (x3 : Int32) (x4 : Int32) (I : IM), H30 x1 x2 x3 x4 I = some r → GG Δ m_Mod_instructionLine Γ NN 0 0 (I, X) 30 [some (.ref (Δ.ba + MO)), some (.int (x1)), some (.int (x2)), some (.int (x3)), some (.int (x4)), none] []) {x1 : Int32} {x2 : Int32} {x3 : Int32} {x4 : Int32} {x5 : Int32} {I : IM} (h : b_Mod_instructionLine_135 n X.1 H30 x1 x2 x3 x4 x5 I = some r) : GG Δ m_Mod_instructionLine Γ NN 0 0 (I, X) 135 [some (.ref (Δ.ba + MO)), some (.int (x1)), some (.int (x2)), some (.int (x3)), some (.int (x4)), some (.int (x5))] [] := by
  unfold b_Mod_instructionLine_135 at h
  refine g_iload (pc := 135) (dd d_Mod_instructionLine_1 9 rfl) rfl ?_
  refine g_ifeq (pc := 137) (tgt := 281) (dd d_Mod_instructionLine_1 10 rfl) (by decide) (fun q21 => ?_) (fun q21 => ?_)
  · replace h := ite_t h q21
    refine g_drop [5] ?_
    exact gb_Mod_instructionLine_281 hX hk hT hH30 h
  · replace h := ite_f h q21
    refine g_aload_n (pc := 140) (dd d_Mod_instructionLine_1 11 rfl) rfl ?_
    refine g_geti (pc := 141) (dd d_Mod_instructionLine_1 12 rfl) f_Mod_280 ob_MO rfl ?_
    refine g_ifge (pc := 144) (tgt := 281) (dd d_Mod_instructionLine_1 13 rfl) (by decide) (fun q22 => ?_) (fun q22 => ?_)
    · replace h := ite_t h q22
      refine g_drop [5] ?_
      exact gb_Mod_instructionLine_281 hX hk hT hH30 h
    · replace h := ite_f h q22
      refine g_iload_n (pc := 147) (dd d_Mod_instructionLine_1 14 rfl) rfl ?_
      refine g_iconst (pc := 148) (v := 1) (dd d_Mod_instructionLine_1 15 rfl) (by decide) ?_
      refine g_iload (pc := 149) (dd d_Mod_instructionLine_1 16 rfl) rfl ?_
      refine g_ishl (pc := 151) (dd d_Mod_instructionLine_1 17 rfl) ?_
      refine g_ior (pc := 152) (dd d_Mod_instructionLine_1 18 rfl) ?_
      refine g_istore_n (pc := 153) (dd d_Mod_instructionLine_1 19 rfl) (by decide) ?_
      refine g_aload_n (pc := 154) (dd d_Mod_instructionLine_1 20 rfl) rfl ?_
      obtain ⟨v23, e24, h⟩ := bnd_e h
      refine g_callV (pc := 155) (dd d_Mod_instructionLine_1 21 rfl) v_Mod_328 ob_MO rfl (ef_Mod_step hX e24) rfl (by rw [hk]; decide) (Nat.le_of_ble_eq_true rfl) ⟨Nat.zero_le _, Nat.zero_le _⟩ rfl ?_
      refine g_aload_n (pc := 158) (dd d_Mod_instructionLine_1 22 rfl) rfl ?_
      refine g_iload (pc := 159) (dd d_Mod_instructionLine_1 23 rfl) rfl ?_
      refine g_iconst (pc := 161) (v := 3) (dd d_Mod_instructionLine_1 24 rfl) (by decide) ?_
      refine g_icmpge (pc := 162) (tgt := 169) (dd d_Mod_instructionLine_1 25 rfl) (by decide) (fun q25 => ?_) (fun q25 => ?_)
      · replace h := ite_t h q25
        refine g_iload (pc := 169) (dd d_Mod_instructionLine_1 28 rfl) rfl ?_
        refine g_iconst (pc := 171) (v := 3) (dd d_Mod_instructionLine_1 29 rfl) (by decide) ?_
        refine g_icmpne (pc := 172) (tgt := 181) (dd d_Mod_instructionLine_1 30 rfl) (by decide) (fun q26 => ?_) (fun q26 => ?_)
        · replace h := ite_f h q26
          refine g_ldcw (pc := 181) (dd d_Mod_instructionLine_1 33 rfl) c_Mod_427 ?_
          exact gb_Mod_instructionLine_184 hX hk hT hH30 h
        · replace h := ite_t h q26
          refine g_sipush (pc := 175) (v := (-32768)) (dd d_Mod_instructionLine_1 31 rfl) (by decide) ?_
          refine g_goto (pc := 178) (tgt := 184) (dd d_Mod_instructionLine_1 32 rfl) (by decide) ?_
          exact gb_Mod_instructionLine_184 hX hk hT hH30 h
      · replace h := ite_f h q25
        refine g_iconst (pc := 165) (v := 0) (dd d_Mod_instructionLine_1 26 rfl) (by decide) ?_
        refine g_goto (pc := 166) (tgt := 184) (dd d_Mod_instructionLine_1 27 rfl) (by decide) ?_
        exact gb_Mod_instructionLine_184 hX hk hT hH30 h
def b_Mod_instructionLine_114 (n : Nat) (J : JM) (H30 : Int32 → Int32 → Int32 → Int32 → IM → Option (IM)) (x1 : Int32) (x2 : Int32) (x3 : Int32) (x5 : Int32) (y0 : Int32) (I : IM) : Option (IM) := if y0 = 0 then (b_Mod_instructionLine_135 n J H30 x1 x2 x3 y0 x5 I) else (if (((x3 : Int32) >>> ((x5 : Int32) &&& 31)) &&& 1 : Int32) = (1 : Int32) then (Option.bind (f_Mod_fail   I) fun v37 => b_Mod_instructionLine_135 n J H30 x1 x2 x3 y0 x5 v37) else (b_Mod_instructionLine_135 n J H30 x1 x2 x3 y0 x5 I))
set_option maxRecDepth 20000 in
set_option maxHeartbeats 4000000 in
theorem gb_Mod_instructionLine_114 {Δ : Dx} {X : Lx} (hX : MX Δ X)   {n : Nat} {Γ : Cx} (hk : Γ.k = 5) {r : IM} (hT : Tg Δ Γ none NN (r, X) 0 0) {H30 : Int32 → Int32 → Int32 → Int32 → IM → Option (IM)} (hH30 : ∀ (x1 : Int32) (x2 : Int32) (x3 : Int32) (x4 : Int32) (I : IM), H30 x1 x2 x3 x4 I = some r → GG Δ m_Mod_instructionLine Γ NN 0 0 (I, X) 30 [some (.ref (Δ.ba + MO)), some (.int (x1)), some (.int (x2)), some (.int (x3)), some (.int (x4)), none] []) {x1 : Int32} {x2 : Int32} {x3 : Int32} {x5 : Int32} {y0 : Int32} {I : IM} (h : b_Mod_instructionLine_114 n X.1 H30 x1 x2 x3 x5 y0 I = some r) : GG Δ m_Mod_instructionLine Γ NN 0 0 (I, X) 114 [some (.ref (Δ.ba + MO)), some (.int (x1)), some (.int (x2)), some (.int (x3)), none, some (.int (x5))] [.int (y0)] := by
  unfold b_Mod_instructionLine_114 at h
  refine g_istore (pc := 114) (dd d_Mod_instructionLine 57 rfl) (by decide) ?_
  refine g_iload (pc := 116) (dd d_Mod_instructionLine 58 rfl) rfl ?_
  refine g_ifeq (pc := 118) (tgt := 135) (dd d_Mod_instructionLine 59 rfl) (by decide) (fun q35 => ?_) (fun q35 => ?_)
  · replace h := ite_t h q35
    exact gb_Mod_instructionLine_135 hX hk hT hH30 h
  · replace h := ite_f h q35
    refine g_iload_n (pc := 121) (dd d_Mod_instructionLine_1 0 rfl) rfl ?_
    refine g_iload (pc := 122) (dd d_Mod_instructionLine_1 1 rfl) rfl ?_
    refine g_ishr (pc := 124) (dd d_Mod_instructionLine_1 2 rfl) ?_
    refine g_iconst (pc := 125) (v := 1) (dd d_Mod_instructionLine_1 3 rfl) (by decide) ?_
    refine g_iand (pc := 126) (dd d_Mod_instructionLine_1 4 rfl) ?_
    refine g_iconst (pc := 127) (v := 1) (dd d_Mod_instructionLine_1 5 rfl) (by decide) ?_
    refine g_icmpne (pc := 128) (tgt := 135) (dd d_Mod_instructionLine_1 6 rfl) (by decide) (fun q36 => ?_) (fun q36 => ?_)
    · replace h := ite_f h q36
      exact gb_Mod_instructionLine_135 hX hk hT hH30 h
    · replace h := ite_t h q36
      refine g_aload_n (pc := 131) (dd d_Mod_instructionLine_1 7 rfl) rfl ?_
      obtain ⟨v37, e38, h⟩ := bnd_e h
      refine g_callV (pc := 132) (dd d_Mod_instructionLine_1 8 rfl) v_Mod_286 ob_MO rfl (ef_Mod_fail hX e38) rfl (by rw [hk]; decide) (Nat.le_of_ble_eq_true rfl) ⟨Nat.zero_le _, Nat.zero_le _⟩ rfl ?_
      exact gb_Mod_instructionLine_135 hX hk hT hH30 h
def b_Mod_instructionLine_113 (n : Nat) (J : JM) (H30 : Int32 → Int32 → Int32 → Int32 → IM → Option (IM)) (x1 : Int32) (x2 : Int32) (x3 : Int32) (x5 : Int32) (I : IM) : Option (IM) := b_Mod_instructionLine_114 n J H30 x1 x2 x3 x5 0 I
set_option maxRecDepth 20000 in
set_option maxHeartbeats 4000000 in
theorem gb_Mod_instructionLine_113 {Δ : Dx} {X : Lx} (hX : MX Δ X)   {n : Nat} {Γ : Cx} (hk : Γ.k = 5) {r : IM} (hT : Tg Δ Γ none NN (r, X) 0 0) {H30 : Int32 → Int32 → Int32 → Int32 → IM → Option (IM)} (hH30 : ∀ (x1 : Int32) (x2 : Int32) (x3 : Int32) (x4 : Int32) (I : IM), H30 x1 x2 x3 x4 I = some r → GG Δ m_Mod_instructionLine Γ NN 0 0 (I, X) 30 [some (.ref (Δ.ba + MO)), some (.int (x1)), some (.int (x2)), some (.int (x3)), some (.int (x4)), none] []) {x1 : Int32} {x2 : Int32} {x3 : Int32} {x5 : Int32} {I : IM} (h : b_Mod_instructionLine_113 n X.1 H30 x1 x2 x3 x5 I = some r) : GG Δ m_Mod_instructionLine Γ NN 0 0 (I, X) 113 [some (.ref (Δ.ba + MO)), some (.int (x1)), some (.int (x2)), some (.int (x3)), none, some (.int (x5))] [] := by
  unfold b_Mod_instructionLine_113 at h
  refine g_iconst (pc := 113) (v := 0) (dd d_Mod_instructionLine 56 rfl) (by decide) ?_
  exact gb_Mod_instructionLine_114 hX hk hT hH30 h
def b_Mod_instructionLine_311 (n : Nat) (J : JM)   (I : IM) : Option (IM) := lt (up I MO 4 ((I MO 4) + 1)) fun I44 => some I44
set_option maxRecDepth 20000 in
set_option maxHeartbeats 4000000 in
theorem gb_Mod_instructionLine_311 {Δ : Dx} {X : Lx} (hX : MX Δ X)   {n : Nat} {Γ : Cx} (hk : Γ.k = 5) {r : IM} (hT : Tg Δ Γ none NN (r, X) 0 0)   {I : IM} (h : b_Mod_instructionLine_311 n X.1   I = some r) : GG Δ m_Mod_instructionLine Γ NN 0 0 (I, X) 311 [some (.ref (Δ.ba + MO)), none, none, none, none, none] [] := by
  unfold b_Mod_instructionLine_311 at h
  refine g_aload_n (pc := 311) (dd d_Mod_instructionLine_2 42 rfl) rfl ?_
  refine g_dup (pc := 312) (dd d_Mod_instructionLine_2 43 rfl) rfl ?_
  refine g_geti (pc := 313) (dd d_Mod_instructionLine_2 44 rfl) f_Mod_435 ob_MO rfl ?_
  refine g_iconst (pc := 316) (v := 1) (dd d_Mod_instructionLine_2 45 rfl) (by decide) ?_
  refine g_iadd (pc := 317) (dd d_Mod_instructionLine_2 46 rfl) ?_
  refine g_putiN (pc := 318) (dd d_Mod_instructionLine_2 47 rfl) f_Mod_435 fm_Mod_4 ob_MO rfl (fun I44 hI44 => ?_)
  replace h := lt_e h hI44
  cases h
  exact g_vret (pc := 321) rfl (dd d_Mod_instructionLine_2 48 rfl) hT
def b_Mod_instructionLine_284 (n : Nat) (J : JM)  (x1 : Int32) (x2 : Int32) (I : IM) : Option (IM) := if (I MO 6 : Int32) = 0 then (b_Mod_instructionLine_311 n J  I) else (chk (inb (I MO 4) 64) <| lt (up I A_code (I MO 4 : Int32).toNatClampNeg (x1)) fun I41 => chk (inb (I41 MO 4) 64) <| lt (up I41 A_codeTags (I41 MO 4 : Int32).toNatClampNeg (x2)) fun I43 => b_Mod_instructionLine_311 n J  I43)
set_option maxRecDepth 20000 in
set_option maxHeartbeats 4000000 in
theorem gb_Mod_instructionLine_284 {Δ : Dx} {X : Lx} (hX : MX Δ X)   {n : Nat} {Γ : Cx} (hk : Γ.k = 5) {r : IM} (hT : Tg Δ Γ none NN (r, X) 0 0)  {x1 : Int32} {x2 : Int32} {I : IM} (h : b_Mod_instructionLine_284 n X.1  x1 x2 I = some r) : GG Δ m_Mod_instructionLine Γ NN 0 0 (I, X) 284 [some (.ref (Δ.ba + MO)), some (.int (x1)), some (.int (x2)), none, none, none] [] := by
  unfold b_Mod_instructionLine_284 at h
  refine g_aload_n (pc := 284) (dd d_Mod_instructionLine_2 27 rfl) rfl ?_
  refine g_geti (pc := 285) (dd d_Mod_instructionLine_2 28 rfl) f_Mod_438 ob_MO rfl ?_
  refine g_ifeq (pc := 288) (tgt := 311) (dd d_Mod_instructionLine_2 29 rfl) (by decide) (fun q39 => ?_) (fun q39 => ?_)
  · replace h := ite_t h q39
    refine g_drop [1, 2] ?_
    exact gb_Mod_instructionLine_311 hX hk hT  h
  · replace h := ite_f h q39
    refine g_aload_n (pc := 291) (dd d_Mod_instructionLine_2 30 rfl) rfl ?_
    refine g_getr (pc := 292) (dd d_Mod_instructionLine_2 31 rfl) f_Mod_59 ob_MO rfl (mr_code hX) ?_
    refine g_aload_n (pc := 295) (dd d_Mod_instructionLine_2 32 rfl) rfl ?_
    refine g_geti (pc := 296) (dd d_Mod_instructionLine_2 33 rfl) f_Mod_435 ob_MO rfl ?_
    refine g_iload_n (pc := 299) (dd d_Mod_instructionLine_2 34 rfl) rfl ?_
    obtain ⟨c40, h⟩ := chk_e h
    refine g_iastN (pc := 300) (dd d_Mod_instructionLine_2 35 rfl) ar_A_code c40 (fun I41 hI41 => ?_)
    replace h := lt_e h hI41
    refine g_aload_n (pc := 301) (dd d_Mod_instructionLine_2 36 rfl) rfl ?_
    refine g_getr (pc := 302) (dd d_Mod_instructionLine_2 37 rfl) f_Mod_62 ob_MO rfl (mr_codeTags hX) ?_
    refine g_aload_n (pc := 305) (dd d_Mod_instructionLine_2 38 rfl) rfl ?_
    refine g_geti (pc := 306) (dd d_Mod_instructionLine_2 39 rfl) f_Mod_435 ob_MO rfl ?_
    refine g_iload_n (pc := 309) (dd d_Mod_instructionLine_2 40 rfl) rfl ?_
    obtain ⟨c42, h⟩ := chk_e h
    refine g_iastN (pc := 310) (dd d_Mod_instructionLine_2 41 rfl) ar_A_codeTags c42 (fun I43 hI43 => ?_)
    replace h := lt_e h hI43
    refine g_drop [1, 2] ?_
    exact gb_Mod_instructionLine_311 hX hk hT  h
def l_Mod_instructionLine_30 (n : Nat) (J : JM)  : Nat → Int32 → Int32 → Int32 → Int32 → IM → Option (IM)
  | 0, _, _, _, _, _ => none
  | f + 1, x1, x2, x3, x4, I => if x4 = 0 then (b_Mod_instructionLine_284 n J  x1 x2 I) else (if 0 ≤ (I MO 14 : Int32) then (b_Mod_instructionLine_284 n J  x1 x2 I) else (Option.bind (f_Mod_in  (I MO 10) 31 33 I) fun v8 => if (if v8 = 0 then (if (I MO 10 : Int32) = (40 : Int32) then 3 else (if (I MO 10 : Int32) = (51 : Int32) then 4 else (-1))) else ((I MO 10) - (31)) : Int32) < 0 then (b_Mod_instructionLine_113 n J (l_Mod_instructionLine_30 n J  f) x1 x2 x3 (if v8 = 0 then (if (I MO 10 : Int32) = (40 : Int32) then 3 else (if (I MO 10 : Int32) = (51 : Int32) then 4 else (-1))) else ((I MO 10) - (31))) I) else (Option.bind (f_Mod_is  59 I) fun v14 => if (if v14 = 0 then 1 else 0 : Int32) = 0 then (b_Mod_instructionLine_135 n J (l_Mod_instructionLine_30 n J  f) x1 x2 x3 (if v14 = 0 then 1 else 0) (if v8 = 0 then (if (I MO 10 : Int32) = (40 : Int32) then 3 else (if (I MO 10 : Int32) = (51 : Int32) then 4 else (-1))) else ((I MO 10) - (31))) I) else (if (((x3 : Int32) >>> ((if v8 = 0 then (if (I MO 10 : Int32) = (40 : Int32) then 3 else (if (I MO 10 : Int32) = (51 : Int32) then 4 else (-1))) else ((I MO 10) - (31)) : Int32) &&& 31)) &&& 1 : Int32) = (1 : Int32) then (Option.bind (f_Mod_fail   I) fun v19 => b_Mod_instructionLine_135 n J (l_Mod_instructionLine_30 n J  f) x1 x2 x3 (if v14 = 0 then 1 else 0) (if v8 = 0 then (if (I MO 10 : Int32) = (40 : Int32) then 3 else (if (I MO 10 : Int32) = (51 : Int32) then 4 else (-1))) else ((I MO 10) - (31))) v19) else (b_Mod_instructionLine_135 n J (l_Mod_instructionLine_30 n J  f) x1 x2 x3 (if v14 = 0 then 1 else 0) (if v8 = 0 then (if (I MO 10 : Int32) = (40 : Int32) then 3 else (if (I MO 10 : Int32) = (51 : Int32) then 4 else (-1))) else ((I MO 10) - (31))) I)))))
set_option maxRecDepth 20000 in
set_option maxHeartbeats 4000000 in
theorem gl_Mod_instructionLine_30 {Δ : Dx} {X : Lx} (hX : MX Δ X)   {n : Nat} {Γ : Cx} (hk : Γ.k = 5) {r : IM} (hT : Tg Δ Γ none NN (r, X) 0 0)  : ∀ (f : Nat) (x1 : Int32) (x2 : Int32) (x3 : Int32) (x4 : Int32) (I : IM), l_Mod_instructionLine_30 n X.1  f x1 x2 x3 x4 I = some r → GG Δ m_Mod_instructionLine Γ NN 0 0 (I, X) 30 [some (.ref (Δ.ba + MO)), some (.int (x1)), some (.int (x2)), some (.int (x3)), some (.int (x4)), none] []
  | 0, _, _, _, _, _, h => by cases h
  | f + 1, x1, x2, x3, x4, I, h => by
    have ih := gl_Mod_instructionLine_30 (n := n) hX hk hT  f
    rw [l_Mod_instructionLine_30] at h
    refine g_iload (pc := 30) (dd d_Mod_instructionLine 18 rfl) rfl ?_
    refine g_ifeq (pc := 32) (tgt := 284) (dd d_Mod_instructionLine 19 rfl) (by decide) (fun q6 => ?_) (fun q6 => ?_)
    · replace h := ite_t h q6
      refine g_drop [3, 4] ?_
      exact gb_Mod_instructionLine_284 hX hk hT  h
    · replace h := ite_f h q6
      refine g_aload_n (pc := 35) (dd d_Mod_instructionLine 20 rfl) rfl ?_
      refine g_geti (pc := 36) (dd d_Mod_instructionLine 21 rfl) f_Mod_280 ob_MO rfl ?_
      refine g_ifge (pc := 39) (tgt := 284) (dd d_Mod_instructionLine 22 rfl) (by decide) (fun q7 => ?_) (fun q7 => ?_)
      · replace h := ite_t h q7
        refine g_drop [3, 4] ?_
        exact gb_Mod_instructionLine_284 hX hk hT  h
      · replace h := ite_f h q7
        refine g_aload_n (pc := 42) (dd d_Mod_instructionLine 23 rfl) rfl ?_
        refine g_geti (pc := 43) (dd d_Mod_instructionLine 24 rfl) f_Mod_270 ob_MO rfl ?_
        refine g_bipush (pc := 46) (v := 31) (dd d_Mod_instructionLine 25 rfl) (by decide) ?_
        refine g_bipush (pc := 48) (v := 33) (dd d_Mod_instructionLine 26 rfl) (by decide) ?_
        obtain ⟨v8, e9, h⟩ := bnd_e h
        refine g_callS (pc := 50) (dd d_Mod_instructionLine 27 rfl) s_Mod_243 (ef_Mod_in hX e9) rfl (by rw [hk]; decide) (Nat.le_of_ble_eq_true rfl) ⟨Nat.zero_le _, Nat.zero_le _⟩ rfl ?_
        suffices K53 : ∀ z : Int32, z = (if v8 = 0 then (if (I MO 10 : Int32) = (40 : Int32) then 3 else (if (I MO 10 : Int32) = (51 : Int32) then 4 else (-1))) else ((I MO 10) - (31)) : Int32) → GG Δ m_Mod_instructionLine Γ NN 0 0 (I, X) 93 [some (.ref (Δ.ba + MO)), some (.int (x1)), some (.int (x2)), some (.int (x3)), some (.int (x4)), none] [.int (z)] by
          refine g_ifeq (pc := 53) (tgt := 66) (dd d_Mod_instructionLine 28 rfl) (by decide) (fun q10 => ?_) (fun q10 => ?_)
          · skip
            refine g_aload_n (pc := 66) (dd d_Mod_instructionLine 34 rfl) rfl ?_
            refine g_geti (pc := 67) (dd d_Mod_instructionLine 35 rfl) f_Mod_270 ob_MO rfl ?_
            refine g_bipush (pc := 70) (v := 40) (dd d_Mod_instructionLine 36 rfl) (by decide) ?_
            refine g_icmpne (pc := 72) (tgt := 79) (dd d_Mod_instructionLine 37 rfl) (by decide) (fun q11 => ?_) (fun q11 => ?_)
            · skip
              refine g_aload_n (pc := 79) (dd d_Mod_instructionLine 40 rfl) rfl ?_
              refine g_geti (pc := 80) (dd d_Mod_instructionLine 41 rfl) f_Mod_270 ob_MO rfl ?_
              refine g_bipush (pc := 83) (v := 51) (dd d_Mod_instructionLine 42 rfl) (by decide) ?_
              refine g_icmpne (pc := 85) (tgt := 92) (dd d_Mod_instructionLine 43 rfl) (by decide) (fun q12 => ?_) (fun q12 => ?_)
              · skip
                refine g_iconst (pc := 92) (v := (-1)) (dd d_Mod_instructionLine 46 rfl) (by decide) ?_
                exact K53 _ (by rw [if_pos q10, if_neg q11, if_neg q12])
              · skip
                refine g_iconst (pc := 88) (v := 4) (dd d_Mod_instructionLine 44 rfl) (by decide) ?_
                refine g_goto (pc := 89) (tgt := 93) (dd d_Mod_instructionLine 45 rfl) (by decide) ?_
                exact K53 _ (by rw [if_pos q10, if_neg q11, if_pos q12])
            · skip
              refine g_iconst (pc := 75) (v := 3) (dd d_Mod_instructionLine 38 rfl) (by decide) ?_
              refine g_goto (pc := 76) (tgt := 93) (dd d_Mod_instructionLine 39 rfl) (by decide) ?_
              exact K53 _ (by rw [if_pos q10, if_pos q11])
          · skip
            refine g_aload_n (pc := 56) (dd d_Mod_instructionLine 29 rfl) rfl ?_
            refine g_geti (pc := 57) (dd d_Mod_instructionLine 30 rfl) f_Mod_270 ob_MO rfl ?_
            refine g_bipush (pc := 60) (v := 31) (dd d_Mod_instructionLine 31 rfl) (by decide) ?_
            refine g_isub (pc := 62) (dd d_Mod_instructionLine 32 rfl) ?_
            refine g_goto (pc := 63) (tgt := 93) (dd d_Mod_instructionLine 33 rfl) (by decide) ?_
            exact K53 _ (by rw [if_neg q10])
        intro z hz
        subst hz
        refine g_istore (pc := 93) (dd d_Mod_instructionLine 47 rfl) (by decide) ?_
        refine g_iload (pc := 95) (dd d_Mod_instructionLine 48 rfl) rfl ?_
        refine g_iflt (pc := 97) (tgt := 113) (dd d_Mod_instructionLine 49 rfl) (by decide) (fun q13 => ?_) (fun q13 => ?_)
        · replace h := ite_t h q13
          refine g_drop [4] ?_
          exact gb_Mod_instructionLine_113 hX hk hT ih h
        · replace h := ite_f h q13
          refine g_aload_n (pc := 100) (dd d_Mod_instructionLine 50 rfl) rfl ?_
          refine g_bipush (pc := 101) (v := 59) (dd d_Mod_instructionLine 51 rfl) (by decide) ?_
          obtain ⟨v14, e15, h⟩ := bnd_e h
          refine g_callV (pc := 103) (dd d_Mod_instructionLine 52 rfl) v_Mod_283 ob_MO rfl (ef_Mod_is hX e15) rfl (by rw [hk]; decide) (Nat.le_of_ble_eq_true rfl) ⟨Nat.zero_le _, Nat.zero_le _⟩ rfl ?_
          suffices K106 : ∀ z : Int32, z = (if v14 = 0 then 1 else 0 : Int32) → GG Δ m_Mod_instructionLine Γ NN 0 0 (I, X) 114 [some (.ref (Δ.ba + MO)), some (.int (x1)), some (.int (x2)), some (.int (x3)), some (.int (x4)), some (.int (if v8 = 0 then (if (I MO 10 : Int32) = (40 : Int32) then 3 else (if (I MO 10 : Int32) = (51 : Int32) then 4 else (-1))) else ((I MO 10) - (31))))] [.int (z)] by
            refine g_ifne (pc := 106) (tgt := 113) (dd d_Mod_instructionLine 53 rfl) (by decide) (fun q16 => ?_) (fun q16 => ?_)
            · skip
              refine g_iconst (pc := 113) (v := 0) (dd d_Mod_instructionLine 56 rfl) (by decide) ?_
              exact K106 _ (by rw [if_neg q16])
            · skip
              refine g_iconst (pc := 109) (v := 1) (dd d_Mod_instructionLine 54 rfl) (by decide) ?_
              refine g_goto (pc := 110) (tgt := 114) (dd d_Mod_instructionLine 55 rfl) (by decide) ?_
              exact K106 _ (by rw [if_pos q16])
          intro z hz
          subst hz
          refine g_istore (pc := 114) (dd d_Mod_instructionLine 57 rfl) (by decide) ?_
          refine g_iload (pc := 116) (dd d_Mod_instructionLine 58 rfl) rfl ?_
          refine g_ifeq (pc := 118) (tgt := 135) (dd d_Mod_instructionLine 59 rfl) (by decide) (fun q17 => ?_) (fun q17 => ?_)
          · replace h := ite_t h q17
            exact gb_Mod_instructionLine_135 hX hk hT ih h
          · replace h := ite_f h q17
            refine g_iload_n (pc := 121) (dd d_Mod_instructionLine_1 0 rfl) rfl ?_
            refine g_iload (pc := 122) (dd d_Mod_instructionLine_1 1 rfl) rfl ?_
            refine g_ishr (pc := 124) (dd d_Mod_instructionLine_1 2 rfl) ?_
            refine g_iconst (pc := 125) (v := 1) (dd d_Mod_instructionLine_1 3 rfl) (by decide) ?_
            refine g_iand (pc := 126) (dd d_Mod_instructionLine_1 4 rfl) ?_
            refine g_iconst (pc := 127) (v := 1) (dd d_Mod_instructionLine_1 5 rfl) (by decide) ?_
            refine g_icmpne (pc := 128) (tgt := 135) (dd d_Mod_instructionLine_1 6 rfl) (by decide) (fun q18 => ?_) (fun q18 => ?_)
            · replace h := ite_f h q18
              exact gb_Mod_instructionLine_135 hX hk hT ih h
            · replace h := ite_t h q18
              refine g_aload_n (pc := 131) (dd d_Mod_instructionLine_1 7 rfl) rfl ?_
              obtain ⟨v19, e20, h⟩ := bnd_e h
              refine g_callV (pc := 132) (dd d_Mod_instructionLine_1 8 rfl) v_Mod_286 ob_MO rfl (ef_Mod_fail hX e20) rfl (by rw [hk]; decide) (Nat.le_of_ble_eq_true rfl) ⟨Nat.zero_le _, Nat.zero_le _⟩ rfl ?_
              exact gb_Mod_instructionLine_135 hX hk hT ih h
def f_Mod_instructionLine (n : Nat) (J : JM) (I : IM) : Option (IM) := if (I MO 4 : Int32) < (64 : Int32) then (Option.bind (f_Mod_step n J I) fun v2 => l_Mod_instructionLine_30 n J  n (I MO 10) 0 0 1 v2) else (Option.bind (f_Mod_fail   I) fun v4 => some v4)
set_option maxRecDepth 20000 in
set_option maxHeartbeats 4000000 in
theorem ef_Mod_instructionLine {Δ : Dx} {X : Lx} (hX : MX Δ X) {n : Nat}  {I : IM}  {r : IM} (h : f_Mod_instructionLine n X.1 I = some r) : Ev Δ 5 m_Mod_instructionLine [.ref (Δ.ba + MO)] (I, X) none (r, X) := by
  refine ev_of (by decide) (Nat.le_of_ble_eq_true rfl) (fun Γ hk hR hT => ?_)
  change GG Δ m_Mod_instructionLine Γ NN 0 0 (I, X) 0 [some (.ref (Δ.ba + MO)), none, none, none, none, none] []
  unfold f_Mod_instructionLine at h
  refine g_aload_n (pc := 0) (dd d_Mod_instructionLine 0 rfl) rfl ?_
  refine g_geti (pc := 1) (dd d_Mod_instructionLine 1 rfl) f_Mod_435 ob_MO rfl ?_
  refine g_bipush (pc := 4) (v := 64) (dd d_Mod_instructionLine 2 rfl) (by decide) ?_
  refine g_icmplt (pc := 6) (tgt := 14) (dd d_Mod_instructionLine 3 rfl) (by decide) (fun q1 => ?_) (fun q1 => ?_)
  · replace h := ite_t h q1
    refine g_aload_n (pc := 14) (dd d_Mod_instructionLine 7 rfl) rfl ?_
    refine g_geti (pc := 15) (dd d_Mod_instructionLine 8 rfl) f_Mod_270 ob_MO rfl ?_
    refine g_istore_n (pc := 18) (dd d_Mod_instructionLine 9 rfl) (by decide) ?_
    refine g_iconst (pc := 19) (v := 0) (dd d_Mod_instructionLine 10 rfl) (by decide) ?_
    refine g_istore_n (pc := 20) (dd d_Mod_instructionLine 11 rfl) (by decide) ?_
    refine g_iconst (pc := 21) (v := 0) (dd d_Mod_instructionLine 12 rfl) (by decide) ?_
    refine g_istore_n (pc := 22) (dd d_Mod_instructionLine 13 rfl) (by decide) ?_
    refine g_aload_n (pc := 23) (dd d_Mod_instructionLine 14 rfl) rfl ?_
    obtain ⟨v2, e3, h⟩ := bnd_e h
    refine g_callV (pc := 24) (dd d_Mod_instructionLine 15 rfl) v_Mod_328 ob_MO rfl (ef_Mod_step hX e3) rfl (by rw [hk]; decide) (Nat.le_of_ble_eq_true rfl) ⟨Nat.zero_le _, Nat.zero_le _⟩ rfl ?_
    refine g_iconst (pc := 27) (v := 1) (dd d_Mod_instructionLine 16 rfl) (by decide) ?_
    refine g_istore (pc := 28) (dd d_Mod_instructionLine 17 rfl) (by decide) ?_
    exact gl_Mod_instructionLine_30 hX hk hT  _ _ _ _ _ _ h
  · replace h := ite_f h q1
    refine g_aload_n (pc := 9) (dd d_Mod_instructionLine 4 rfl) rfl ?_
    obtain ⟨v4, e5, h⟩ := bnd_e h
    refine g_callV (pc := 10) (dd d_Mod_instructionLine 5 rfl) v_Mod_286 ob_MO rfl (ef_Mod_fail hX e5) rfl (by rw [hk]; decide) (Nat.le_of_ble_eq_true rfl) ⟨Nat.zero_le _, Nat.zero_le _⟩ rfl ?_
    cases h
    exact g_vret (pc := 13) rfl (dd d_Mod_instructionLine 6 rfl) hT
