/-! the reference: each method a function, and its contract -/
def b_Mod_topOf_22 (I : IM)  (y0 : Int32) : Option (Int32) := some (y0)
set_option maxRecDepth 20000 in
set_option maxHeartbeats 4000000 in
theorem gb_Mod_topOf_22 {Δ : Dx} {X : Lx} (hX : MX Δ X)   {I : IM} {Γ : Cx} (hk : Γ.k = 0) {r : Int32} (hT : Tg Δ Γ (some (.int r)) NN (I, X) 0 0)  {y0 : Int32} (h : b_Mod_topOf_22 I  y0 = some r) : GG Δ m_Mod_topOf Γ NN 0 0 (I, X) 22 [none] [.int (y0)] := by
  unfold b_Mod_topOf_22 at h
  cases h
  exact g_iret (pc := 22) rfl (dd d_Mod_topOf 12 rfl) hT
def f_Mod_topOf  (I : IM) : Option (Int32) := if (I MO 29 : Int32) = 0 then (b_Mod_topOf_22 I  (-1)) else (chk (inb ((I MO 29) - 1) 1000) <| b_Mod_topOf_22 I  (I A_pile ((I MO 29) - 1 : Int32).toNatClampNeg))
set_option maxRecDepth 20000 in
set_option maxHeartbeats 4000000 in
theorem ef_Mod_topOf {Δ : Dx} {X : Lx} (hX : MX Δ X)   {I : IM}  {r : Int32} (h : f_Mod_topOf  I = some r) : Ev Δ 0 m_Mod_topOf [.ref (Δ.ba + MO)] (I, X) (some (.int r)) (I, X) := by
  refine ev_of (by decide) (Nat.le_of_ble_eq_true rfl) (fun Γ hk hR hT => ?_)
  change GG Δ m_Mod_topOf Γ NN 0 0 (I, X) 0 [some (.ref (Δ.ba + MO))] []
  unfold f_Mod_topOf at h
  refine g_aload_n (pc := 0) (dd d_Mod_topOf 0 rfl) rfl ?_
  refine g_geti (pc := 1) (dd d_Mod_topOf 1 rfl) f_Mod_298 ob_MO rfl ?_
  refine g_ifne (pc := 4) (tgt := 11) (dd d_Mod_topOf 2 rfl) (by decide) (fun q1 => ?_) (fun q1 => ?_)
  · replace h := ite_f h q1
    refine g_aload_n (pc := 11) (dd d_Mod_topOf 5 rfl) rfl ?_
    refine g_getr (pc := 12) (dd d_Mod_topOf 6 rfl) f_Mod_50 ob_MO rfl (mr_pile hX) ?_
    refine g_aload_n (pc := 15) (dd d_Mod_topOf 7 rfl) rfl ?_
    refine g_geti (pc := 16) (dd d_Mod_topOf 8 rfl) f_Mod_298 ob_MO rfl ?_
    refine g_iconst (pc := 19) (v := 1) (dd d_Mod_topOf 9 rfl) (by decide) ?_
    refine g_isub (pc := 20) (dd d_Mod_topOf 10 rfl) ?_
    obtain ⟨c2, h⟩ := chk_e h
    refine g_iald (pc := 21) (dd d_Mod_topOf 11 rfl) ar_A_pile c2 ?_
    refine g_drop [0] ?_
    exact gb_Mod_topOf_22 hX hk hT  h
  · replace h := ite_t h q1
    refine g_iconst (pc := 7) (v := (-1)) (dd d_Mod_topOf 3 rfl) (by decide) ?_
    refine g_goto (pc := 8) (tgt := 22) (dd d_Mod_topOf 4 rfl) (by decide) ?_
    refine g_drop [0] ?_
    exact gb_Mod_topOf_22 hX hk hT  h
def f_Mod_isSum (x1 : Int32) (I : IM) : Option (Int32) := some (if x1 = (124 : Int32) then 1 else (if x1 = (38 : Int32) then 1 else (if x1 = (94 : Int32) then 1 else (if x1 = (43 : Int32) then 1 else (if x1 = (45 : Int32) then 1 else 0)))))
set_option maxRecDepth 20000 in
set_option maxHeartbeats 4000000 in
theorem ef_Mod_isSum {Δ : Dx} {X : Lx} (hX : MX Δ X) {x1 : Int32}  {I : IM}  {r : Int32} (h : f_Mod_isSum x1 I = some r) : Ev Δ 0 m_Mod_isSum [.ref (Δ.ba + MO), .int x1] (I, X) (some (.int r)) (I, X) := by
  refine ev_of (by decide) (Nat.le_of_ble_eq_true rfl) (fun Γ hk hR hT => ?_)
  change GG Δ m_Mod_isSum Γ NN 0 0 (I, X) 0 [some (.ref (Δ.ba + MO)), some (.int (x1))] []
  unfold f_Mod_isSum at h
  refine g_iload_n (pc := 0) (dd d_Mod_isSum 0 rfl) rfl ?_
  refine g_bipush (pc := 1) (v := 124) (dd d_Mod_isSum 1 rfl) (by decide) ?_
  suffices K3 : ∀ z : Int32, z = (if x1 = (124 : Int32) then 1 else (if x1 = (38 : Int32) then 1 else (if x1 = (94 : Int32) then 1 else (if x1 = (43 : Int32) then 1 else (if x1 = (45 : Int32) then 1 else 0)))) : Int32) → GG Δ m_Mod_isSum Γ NN 0 0 (I, X) 35 [some (.ref (Δ.ba + MO)), some (.int (x1))] [.int (z)] by
    refine g_icmpeq (pc := 3) (tgt := 30) (dd d_Mod_isSum 2 rfl) (by decide) (fun q1 => ?_) (fun q1 => ?_)
    · skip
      refine g_iconst (pc := 30) (v := 1) (dd d_Mod_isSum 15 rfl) (by decide) ?_
      refine g_goto (pc := 31) (tgt := 35) (dd d_Mod_isSum 16 rfl) (by decide) ?_
      exact K3 _ (by rw [if_pos q1])
    · skip
      refine g_iload_n (pc := 6) (dd d_Mod_isSum 3 rfl) rfl ?_
      refine g_bipush (pc := 7) (v := 38) (dd d_Mod_isSum 4 rfl) (by decide) ?_
      refine g_icmpeq (pc := 9) (tgt := 30) (dd d_Mod_isSum 5 rfl) (by decide) (fun q2 => ?_) (fun q2 => ?_)
      · skip
        refine g_iconst (pc := 30) (v := 1) (dd d_Mod_isSum 15 rfl) (by decide) ?_
        refine g_goto (pc := 31) (tgt := 35) (dd d_Mod_isSum 16 rfl) (by decide) ?_
        exact K3 _ (by rw [if_neg q1, if_pos q2])
      · skip
        refine g_iload_n (pc := 12) (dd d_Mod_isSum 6 rfl) rfl ?_
        refine g_bipush (pc := 13) (v := 94) (dd d_Mod_isSum 7 rfl) (by decide) ?_
        refine g_icmpeq (pc := 15) (tgt := 30) (dd d_Mod_isSum 8 rfl) (by decide) (fun q3 => ?_) (fun q3 => ?_)
        · skip
          refine g_iconst (pc := 30) (v := 1) (dd d_Mod_isSum 15 rfl) (by decide) ?_
          refine g_goto (pc := 31) (tgt := 35) (dd d_Mod_isSum 16 rfl) (by decide) ?_
          exact K3 _ (by rw [if_neg q1, if_neg q2, if_pos q3])
        · skip
          refine g_iload_n (pc := 18) (dd d_Mod_isSum 9 rfl) rfl ?_
          refine g_bipush (pc := 19) (v := 43) (dd d_Mod_isSum 10 rfl) (by decide) ?_
          refine g_icmpeq (pc := 21) (tgt := 30) (dd d_Mod_isSum 11 rfl) (by decide) (fun q4 => ?_) (fun q4 => ?_)
          · skip
            refine g_iconst (pc := 30) (v := 1) (dd d_Mod_isSum 15 rfl) (by decide) ?_
            refine g_goto (pc := 31) (tgt := 35) (dd d_Mod_isSum 16 rfl) (by decide) ?_
            exact K3 _ (by rw [if_neg q1, if_neg q2, if_neg q3, if_pos q4])
          · skip
            refine g_iload_n (pc := 24) (dd d_Mod_isSum 12 rfl) rfl ?_
            refine g_bipush (pc := 25) (v := 45) (dd d_Mod_isSum 13 rfl) (by decide) ?_
            refine g_icmpne (pc := 27) (tgt := 34) (dd d_Mod_isSum 14 rfl) (by decide) (fun q5 => ?_) (fun q5 => ?_)
            · skip
              refine g_iconst (pc := 34) (v := 0) (dd d_Mod_isSum 17 rfl) (by decide) ?_
              exact K3 _ (by rw [if_neg q1, if_neg q2, if_neg q3, if_neg q4, if_neg q5])
            · skip
              refine g_iconst (pc := 30) (v := 1) (dd d_Mod_isSum 15 rfl) (by decide) ?_
              refine g_goto (pc := 31) (tgt := 35) (dd d_Mod_isSum 16 rfl) (by decide) ?_
              exact K3 _ (by rw [if_neg q1, if_neg q2, if_neg q3, if_neg q4, if_pos q5])
  intro z hz
  subst hz
  cases h
  exact g_zret (pc := 35) rfl (by (repeat' split) <;> first | exact Or.inl rfl | exact Or.inr rfl) (dd d_Mod_isSum 18 rfl) hT
def f_Mod_isCompared (x1 : Int32) (I : IM) : Option (Int32) := some (if x1 = (202 : Int32) then 1 else (if x1 = (203 : Int32) then 1 else (if x1 = (60 : Int32) then 1 else (if x1 = (204 : Int32) then 1 else 0))))
set_option maxRecDepth 20000 in
set_option maxHeartbeats 4000000 in
theorem ef_Mod_isCompared {Δ : Dx} {X : Lx} (hX : MX Δ X) {x1 : Int32}  {I : IM}  {r : Int32} (h : f_Mod_isCompared x1 I = some r) : Ev Δ 0 m_Mod_isCompared [.ref (Δ.ba + MO), .int x1] (I, X) (some (.int r)) (I, X) := by
  refine ev_of (by decide) (Nat.le_of_ble_eq_true rfl) (fun Γ hk hR hT => ?_)
  change GG Δ m_Mod_isCompared Γ NN 0 0 (I, X) 0 [some (.ref (Δ.ba + MO)), some (.int (x1))] []
  unfold f_Mod_isCompared at h
  refine g_iload_n (pc := 0) (dd d_Mod_isCompared 0 rfl) rfl ?_
  refine g_sipush (pc := 1) (v := 202) (dd d_Mod_isCompared 1 rfl) (by decide) ?_
  suffices K4 : ∀ z : Int32, z = (if x1 = (202 : Int32) then 1 else (if x1 = (203 : Int32) then 1 else (if x1 = (60 : Int32) then 1 else (if x1 = (204 : Int32) then 1 else 0))) : Int32) → GG Δ m_Mod_isCompared Γ NN 0 0 (I, X) 32 [some (.ref (Δ.ba + MO)), some (.int (x1))] [.int (z)] by
    refine g_icmpeq (pc := 4) (tgt := 27) (dd d_Mod_isCompared 2 rfl) (by decide) (fun q1 => ?_) (fun q1 => ?_)
    · skip
      refine g_iconst (pc := 27) (v := 1) (dd d_Mod_isCompared 12 rfl) (by decide) ?_
      refine g_goto (pc := 28) (tgt := 32) (dd d_Mod_isCompared 13 rfl) (by decide) ?_
      exact K4 _ (by rw [if_pos q1])
    · skip
      refine g_iload_n (pc := 7) (dd d_Mod_isCompared 3 rfl) rfl ?_
      refine g_sipush (pc := 8) (v := 203) (dd d_Mod_isCompared 4 rfl) (by decide) ?_
      refine g_icmpeq (pc := 11) (tgt := 27) (dd d_Mod_isCompared 5 rfl) (by decide) (fun q2 => ?_) (fun q2 => ?_)
      · skip
        refine g_iconst (pc := 27) (v := 1) (dd d_Mod_isCompared 12 rfl) (by decide) ?_
        refine g_goto (pc := 28) (tgt := 32) (dd d_Mod_isCompared 13 rfl) (by decide) ?_
        exact K4 _ (by rw [if_neg q1, if_pos q2])
      · skip
        refine g_iload_n (pc := 14) (dd d_Mod_isCompared 6 rfl) rfl ?_
        refine g_bipush (pc := 15) (v := 60) (dd d_Mod_isCompared 7 rfl) (by decide) ?_
        refine g_icmpeq (pc := 17) (tgt := 27) (dd d_Mod_isCompared 8 rfl) (by decide) (fun q3 => ?_) (fun q3 => ?_)
        · skip
          refine g_iconst (pc := 27) (v := 1) (dd d_Mod_isCompared 12 rfl) (by decide) ?_
          refine g_goto (pc := 28) (tgt := 32) (dd d_Mod_isCompared 13 rfl) (by decide) ?_
          exact K4 _ (by rw [if_neg q1, if_neg q2, if_pos q3])
        · skip
          refine g_iload_n (pc := 20) (dd d_Mod_isCompared 9 rfl) rfl ?_
          refine g_sipush (pc := 21) (v := 204) (dd d_Mod_isCompared 10 rfl) (by decide) ?_
          refine g_icmpne (pc := 24) (tgt := 31) (dd d_Mod_isCompared 11 rfl) (by decide) (fun q4 => ?_) (fun q4 => ?_)
          · skip
            refine g_iconst (pc := 31) (v := 0) (dd d_Mod_isCompared 14 rfl) (by decide) ?_
            exact K4 _ (by rw [if_neg q1, if_neg q2, if_neg q3, if_neg q4])
          · skip
            refine g_iconst (pc := 27) (v := 1) (dd d_Mod_isCompared 12 rfl) (by decide) ?_
            refine g_goto (pc := 28) (tgt := 32) (dd d_Mod_isCompared 13 rfl) (by decide) ?_
            exact K4 _ (by rw [if_neg q1, if_neg q2, if_neg q3, if_pos q4])
  intro z hz
  subst hz
  cases h
  exact g_zret (pc := 32) rfl (by (repeat' split) <;> first | exact Or.inl rfl | exact Or.inr rfl) (dd d_Mod_isCompared 15 rfl) hT
def f_Mod_isUnary (x1 : Int32) (I : IM) : Option (Int32) := some (if x1 = (33 : Int32) then 1 else (if x1 = (126 : Int32) then 1 else (if x1 = (301 : Int32) then 1 else 0)))
set_option maxRecDepth 20000 in
set_option maxHeartbeats 4000000 in
theorem ef_Mod_isUnary {Δ : Dx} {X : Lx} (hX : MX Δ X) {x1 : Int32}  {I : IM}  {r : Int32} (h : f_Mod_isUnary x1 I = some r) : Ev Δ 0 m_Mod_isUnary [.ref (Δ.ba + MO), .int x1] (I, X) (some (.int r)) (I, X) := by
  refine ev_of (by decide) (Nat.le_of_ble_eq_true rfl) (fun Γ hk hR hT => ?_)
  change GG Δ m_Mod_isUnary Γ NN 0 0 (I, X) 0 [some (.ref (Δ.ba + MO)), some (.int (x1))] []
  unfold f_Mod_isUnary at h
  refine g_iload_n (pc := 0) (dd d_Mod_isUnary 0 rfl) rfl ?_
  refine g_bipush (pc := 1) (v := 33) (dd d_Mod_isUnary 1 rfl) (by decide) ?_
  suffices K3 : ∀ z : Int32, z = (if x1 = (33 : Int32) then 1 else (if x1 = (126 : Int32) then 1 else (if x1 = (301 : Int32) then 1 else 0)) : Int32) → GG Δ m_Mod_isUnary Γ NN 0 0 (I, X) 24 [some (.ref (Δ.ba + MO)), some (.int (x1))] [.int (z)] by
    refine g_icmpeq (pc := 3) (tgt := 19) (dd d_Mod_isUnary 2 rfl) (by decide) (fun q1 => ?_) (fun q1 => ?_)
    · skip
      refine g_iconst (pc := 19) (v := 1) (dd d_Mod_isUnary 9 rfl) (by decide) ?_
      refine g_goto (pc := 20) (tgt := 24) (dd d_Mod_isUnary 10 rfl) (by decide) ?_
      exact K3 _ (by rw [if_pos q1])
    · skip
      refine g_iload_n (pc := 6) (dd d_Mod_isUnary 3 rfl) rfl ?_
      refine g_bipush (pc := 7) (v := 126) (dd d_Mod_isUnary 4 rfl) (by decide) ?_
      refine g_icmpeq (pc := 9) (tgt := 19) (dd d_Mod_isUnary 5 rfl) (by decide) (fun q2 => ?_) (fun q2 => ?_)
      · skip
        refine g_iconst (pc := 19) (v := 1) (dd d_Mod_isUnary 9 rfl) (by decide) ?_
        refine g_goto (pc := 20) (tgt := 24) (dd d_Mod_isUnary 10 rfl) (by decide) ?_
        exact K3 _ (by rw [if_neg q1, if_pos q2])
      · skip
        refine g_iload_n (pc := 12) (dd d_Mod_isUnary 6 rfl) rfl ?_
        refine g_sipush (pc := 13) (v := 301) (dd d_Mod_isUnary 7 rfl) (by decide) ?_
        refine g_icmpne (pc := 16) (tgt := 23) (dd d_Mod_isUnary 8 rfl) (by decide) (fun q3 => ?_) (fun q3 => ?_)
        · skip
          refine g_iconst (pc := 23) (v := 0) (dd d_Mod_isUnary 11 rfl) (by decide) ?_
          exact K3 _ (by rw [if_neg q1, if_neg q2, if_neg q3])
        · skip
          refine g_iconst (pc := 19) (v := 1) (dd d_Mod_isUnary 9 rfl) (by decide) ?_
          refine g_goto (pc := 20) (tgt := 24) (dd d_Mod_isUnary 10 rfl) (by decide) ?_
          exact K3 _ (by rw [if_neg q1, if_neg q2, if_pos q3])
  intro z hz
  subst hz
  cases h
  exact g_zret (pc := 24) rfl (by (repeat' split) <;> first | exact Or.inl rfl | exact Or.inr rfl) (dd d_Mod_isUnary 12 rfl) hT
def b_Mod_whole_55 (n : Nat)   (I : IM) : Option (IM) := some I
set_option maxRecDepth 20000 in
set_option maxHeartbeats 4000000 in
theorem gb_Mod_whole_55 {Δ : Dx} {X : Lx} (hX : MX Δ X)   {n : Nat} {Γ : Cx} (hk : Γ.k = 1) {r : IM} (hT : Tg Δ Γ none NN (r, X) 0 0)   {I : IM} (h : b_Mod_whole_55 n   I = some r) : GG Δ m_Mod_whole Γ NN 0 0 (I, X) 55 [none] [] := by
  unfold b_Mod_whole_55 at h
  cases h
  exact g_vret (pc := 55) rfl (dd d_Mod_whole 29 rfl) hT
def l_Mod_whole_0 (n : Nat)  : Nat → IM → Option (IM)
  | 0, _ => none
  | f + 1, I => if (I MO 29 : Int32) ≤ 0 then (b_Mod_whole_55 n  I) else (Option.bind (f_Mod_topOf   I) fun v2 => Option.bind (f_Mod_isUnary  v2 I) fun v4 => if v4 = 0 then (b_Mod_whole_55 n  I) else (lt (up I MO 29 ((I MO 29) - 1)) fun I7 => lt (up I7 MO 28 ((I7 MO 28) - 1)) fun I8 => chk (inb (I8 MO 29) 1000) <| Option.bind (f_Mod_emit  (I8 A_pile (I8 MO 29 : Int32).toNatClampNeg) 0 I8) fun v10 => (l_Mod_whole_0 n  f) v10))
set_option maxRecDepth 20000 in
set_option maxHeartbeats 4000000 in
theorem gl_Mod_whole_0 {Δ : Dx} {X : Lx} (hX : MX Δ X)   {n : Nat} {Γ : Cx} (hk : Γ.k = 1) {r : IM} (hT : Tg Δ Γ none NN (r, X) 0 0)  : ∀ (f : Nat)  (I : IM), l_Mod_whole_0 n  f  I = some r → GG Δ m_Mod_whole Γ NN 0 0 (I, X) 0 [some (.ref (Δ.ba + MO))] []
  | 0, _, h => by cases h
  | f + 1, I, h => by
    have ih := gl_Mod_whole_0 (n := n) hX hk hT  f
    rw [l_Mod_whole_0] at h
    refine g_aload_n (pc := 0) (dd d_Mod_whole 0 rfl) rfl ?_
    refine g_geti (pc := 1) (dd d_Mod_whole 1 rfl) f_Mod_298 ob_MO rfl ?_
    refine g_ifle (pc := 4) (tgt := 55) (dd d_Mod_whole 2 rfl) (by decide) (fun q1 => ?_) (fun q1 => ?_)
    · replace h := ite_t h q1
      refine g_drop [0] ?_
      exact gb_Mod_whole_55 hX hk hT  h
    · replace h := ite_f h q1
      refine g_aload_n (pc := 7) (dd d_Mod_whole 3 rfl) rfl ?_
      refine g_aload_n (pc := 8) (dd d_Mod_whole 4 rfl) rfl ?_
      obtain ⟨v2, e3, h⟩ := bnd_e h
      refine g_callV (pc := 9) (dd d_Mod_whole 5 rfl) v_Mod_301 ob_MO rfl (ef_Mod_topOf hX e3) rfl (by rw [hk]; decide) (Nat.le_of_ble_eq_true rfl) ⟨Nat.zero_le _, Nat.zero_le _⟩ rfl ?_
      obtain ⟨v4, e5, h⟩ := bnd_e h
      refine g_callV (pc := 12) (dd d_Mod_whole 6 rfl) v_Mod_305 ob_MO rfl (ef_Mod_isUnary hX e5) rfl (by rw [hk]; decide) (Nat.le_of_ble_eq_true rfl) ⟨Nat.zero_le _, Nat.zero_le _⟩ rfl ?_
      refine g_ifeq (pc := 15) (tgt := 55) (dd d_Mod_whole 7 rfl) (by decide) (fun q6 => ?_) (fun q6 => ?_)
      · replace h := ite_t h q6
        refine g_drop [0] ?_
        exact gb_Mod_whole_55 hX hk hT  h
      · replace h := ite_f h q6
        refine g_aload_n (pc := 18) (dd d_Mod_whole 8 rfl) rfl ?_
        refine g_dup (pc := 19) (dd d_Mod_whole 9 rfl) rfl ?_
        refine g_geti (pc := 20) (dd d_Mod_whole 10 rfl) f_Mod_298 ob_MO rfl ?_
        refine g_iconst (pc := 23) (v := 1) (dd d_Mod_whole 11 rfl) (by decide) ?_
        refine g_isub (pc := 24) (dd d_Mod_whole 12 rfl) ?_
        refine g_putiN (pc := 25) (dd d_Mod_whole 13 rfl) f_Mod_298 fm_Mod_29 ob_MO rfl (fun I7 hI7 => ?_)
        replace h := lt_e h hI7
        refine g_aload_n (pc := 28) (dd d_Mod_whole 14 rfl) rfl ?_
        refine g_dup (pc := 29) (dd d_Mod_whole 15 rfl) rfl ?_
        refine g_geti (pc := 30) (dd d_Mod_whole 16 rfl) f_Mod_295 ob_MO rfl ?_
        refine g_iconst (pc := 33) (v := 1) (dd d_Mod_whole 17 rfl) (by decide) ?_
        refine g_isub (pc := 34) (dd d_Mod_whole 18 rfl) ?_
        refine g_putiN (pc := 35) (dd d_Mod_whole 19 rfl) f_Mod_295 fm_Mod_28 ob_MO rfl (fun I8 hI8 => ?_)
        replace h := lt_e h hI8
        refine g_aload_n (pc := 38) (dd d_Mod_whole 20 rfl) rfl ?_
        refine g_aload_n (pc := 39) (dd d_Mod_whole 21 rfl) rfl ?_
        refine g_getr (pc := 40) (dd d_Mod_whole 22 rfl) f_Mod_50 ob_MO rfl (mr_pile hX) ?_
        refine g_aload_n (pc := 43) (dd d_Mod_whole 23 rfl) rfl ?_
        refine g_geti (pc := 44) (dd d_Mod_whole 24 rfl) f_Mod_298 ob_MO rfl ?_
        obtain ⟨c9, h⟩ := chk_e h
        refine g_iald (pc := 47) (dd d_Mod_whole 25 rfl) ar_A_pile c9 ?_
        refine g_iconst (pc := 48) (v := 0) (dd d_Mod_whole 26 rfl) (by decide) ?_
        obtain ⟨v10, e11, h⟩ := bnd_e h
        refine g_callV (pc := 49) (dd d_Mod_whole 27 rfl) v_Mod_308 ob_MO rfl (ef_Mod_emit hX e11) rfl (by rw [hk]; decide) (Nat.le_of_ble_eq_true rfl) ⟨Nat.zero_le _, Nat.zero_le _⟩ rfl ?_
        refine g_goto (pc := 52) (tgt := 0) (dd d_Mod_whole 28 rfl) (by decide) ?_
        exact ih _ h
def f_Mod_whole (n : Nat) (I : IM) : Option (IM) := l_Mod_whole_0 n  n I
set_option maxRecDepth 20000 in
set_option maxHeartbeats 4000000 in
theorem ef_Mod_whole {Δ : Dx} {X : Lx} (hX : MX Δ X) {n : Nat}  {I : IM}  {r : IM} (h : f_Mod_whole n I = some r) : Ev Δ 1 m_Mod_whole [.ref (Δ.ba + MO)] (I, X) none (r, X) := by
  refine ev_of (by decide) (Nat.le_of_ble_eq_true rfl) (fun Γ hk hR hT => ?_)
  change GG Δ m_Mod_whole Γ NN 0 0 (I, X) 0 [some (.ref (Δ.ba + MO))] []
  unfold f_Mod_whole at h
  exact gl_Mod_whole_0 hX hk hT  _ _ h
def b_Mod_endSum_35    (I : IM) : Option (IM) := some I
set_option maxRecDepth 20000 in
set_option maxHeartbeats 4000000 in
theorem gb_Mod_endSum_35 {Δ : Dx} {X : Lx} (hX : MX Δ X)    {Γ : Cx} (hk : Γ.k = 1) {r : IM} (hT : Tg Δ Γ none NN (r, X) 0 0)   {I : IM} (h : b_Mod_endSum_35    I = some r) : GG Δ m_Mod_endSum Γ NN 0 0 (I, X) 35 [none] [] := by
  unfold b_Mod_endSum_35 at h
  cases h
  exact g_vret (pc := 35) rfl (dd d_Mod_endSum 19 rfl) hT
def f_Mod_endSum  (I : IM) : Option (IM) := Option.bind (f_Mod_topOf   I) fun v1 => Option.bind (f_Mod_isSum  v1 I) fun v3 => if v3 = 0 then (b_Mod_endSum_35   I) else (lt (up I MO 29 ((I MO 29) - 1)) fun I6 => chk (inb (I6 MO 29) 1000) <| Option.bind (f_Mod_emit  (I6 A_pile (I6 MO 29 : Int32).toNatClampNeg) 0 I6) fun v8 => b_Mod_endSum_35   v8)
set_option maxRecDepth 20000 in
set_option maxHeartbeats 4000000 in
theorem ef_Mod_endSum {Δ : Dx} {X : Lx} (hX : MX Δ X)   {I : IM}  {r : IM} (h : f_Mod_endSum  I = some r) : Ev Δ 1 m_Mod_endSum [.ref (Δ.ba + MO)] (I, X) none (r, X) := by
  refine ev_of (by decide) (Nat.le_of_ble_eq_true rfl) (fun Γ hk hR hT => ?_)
  change GG Δ m_Mod_endSum Γ NN 0 0 (I, X) 0 [some (.ref (Δ.ba + MO))] []
  unfold f_Mod_endSum at h
  refine g_aload_n (pc := 0) (dd d_Mod_endSum 0 rfl) rfl ?_
  refine g_aload_n (pc := 1) (dd d_Mod_endSum 1 rfl) rfl ?_
  obtain ⟨v1, e2, h⟩ := bnd_e h
  refine g_callV (pc := 2) (dd d_Mod_endSum 2 rfl) v_Mod_301 ob_MO rfl (ef_Mod_topOf hX e2) rfl (by rw [hk]; decide) (Nat.le_of_ble_eq_true rfl) ⟨Nat.zero_le _, Nat.zero_le _⟩ rfl ?_
  obtain ⟨v3, e4, h⟩ := bnd_e h
  refine g_callV (pc := 5) (dd d_Mod_endSum 3 rfl) v_Mod_312 ob_MO rfl (ef_Mod_isSum hX e4) rfl (by rw [hk]; decide) (Nat.le_of_ble_eq_true rfl) ⟨Nat.zero_le _, Nat.zero_le _⟩ rfl ?_
  refine g_ifeq (pc := 8) (tgt := 35) (dd d_Mod_endSum 4 rfl) (by decide) (fun q5 => ?_) (fun q5 => ?_)
  · replace h := ite_t h q5
    refine g_drop [0] ?_
    exact gb_Mod_endSum_35 hX hk hT  h
  · replace h := ite_f h q5
    refine g_aload_n (pc := 11) (dd d_Mod_endSum 5 rfl) rfl ?_
    refine g_dup (pc := 12) (dd d_Mod_endSum 6 rfl) rfl ?_
    refine g_geti (pc := 13) (dd d_Mod_endSum 7 rfl) f_Mod_298 ob_MO rfl ?_
    refine g_iconst (pc := 16) (v := 1) (dd d_Mod_endSum 8 rfl) (by decide) ?_
    refine g_isub (pc := 17) (dd d_Mod_endSum 9 rfl) ?_
    refine g_putiN (pc := 18) (dd d_Mod_endSum 10 rfl) f_Mod_298 fm_Mod_29 ob_MO rfl (fun I6 hI6 => ?_)
    replace h := lt_e h hI6
    refine g_aload_n (pc := 21) (dd d_Mod_endSum 11 rfl) rfl ?_
    refine g_aload_n (pc := 22) (dd d_Mod_endSum 12 rfl) rfl ?_
    refine g_getr (pc := 23) (dd d_Mod_endSum 13 rfl) f_Mod_50 ob_MO rfl (mr_pile hX) ?_
    refine g_aload_n (pc := 26) (dd d_Mod_endSum 14 rfl) rfl ?_
    refine g_geti (pc := 27) (dd d_Mod_endSum 15 rfl) f_Mod_298 ob_MO rfl ?_
    obtain ⟨c7, h⟩ := chk_e h
    refine g_iald (pc := 30) (dd d_Mod_endSum 16 rfl) ar_A_pile c7 ?_
    refine g_iconst (pc := 31) (v := 0) (dd d_Mod_endSum 17 rfl) (by decide) ?_
    obtain ⟨v8, e9, h⟩ := bnd_e h
    refine g_callV (pc := 32) (dd d_Mod_endSum 18 rfl) v_Mod_308 ob_MO rfl (ef_Mod_emit hX e9) rfl (by rw [hk]; decide) (Nat.le_of_ble_eq_true rfl) ⟨Nat.zero_le _, Nat.zero_le _⟩ rfl ?_
    refine g_drop [0] ?_
    exact gb_Mod_endSum_35 hX hk hT  h
def b_Mod_endParts_39    (I : IM) : Option (IM) := some I
set_option maxRecDepth 20000 in
set_option maxHeartbeats 4000000 in
theorem gb_Mod_endParts_39 {Δ : Dx} {X : Lx} (hX : MX Δ X)    {Γ : Cx} (hk : Γ.k = 2) {r : IM} (hT : Tg Δ Γ none NN (r, X) 0 0)   {I : IM} (h : b_Mod_endParts_39    I = some r) : GG Δ m_Mod_endParts Γ NN 0 0 (I, X) 39 [none] [] := by
  unfold b_Mod_endParts_39 at h
  cases h
  exact g_vret (pc := 39) rfl (dd d_Mod_endParts 21 rfl) hT
def f_Mod_endParts  (I : IM) : Option (IM) := Option.bind (f_Mod_endSum   I) fun v1 => Option.bind (f_Mod_topOf   v1) fun v3 => Option.bind (f_Mod_isCompared  v3 v1) fun v5 => if v5 = 0 then (b_Mod_endParts_39   v1) else (lt (up v1 MO 29 ((v1 MO 29) - 1)) fun I8 => chk (inb (I8 MO 29) 1000) <| Option.bind (f_Mod_emit  (I8 A_pile (I8 MO 29 : Int32).toNatClampNeg) 0 I8) fun v10 => b_Mod_endParts_39   v10)
set_option maxRecDepth 20000 in
set_option maxHeartbeats 4000000 in
theorem ef_Mod_endParts {Δ : Dx} {X : Lx} (hX : MX Δ X)   {I : IM}  {r : IM} (h : f_Mod_endParts  I = some r) : Ev Δ 2 m_Mod_endParts [.ref (Δ.ba + MO)] (I, X) none (r, X) := by
  refine ev_of (by decide) (Nat.le_of_ble_eq_true rfl) (fun Γ hk hR hT => ?_)
  change GG Δ m_Mod_endParts Γ NN 0 0 (I, X) 0 [some (.ref (Δ.ba + MO))] []
  unfold f_Mod_endParts at h
  refine g_aload_n (pc := 0) (dd d_Mod_endParts 0 rfl) rfl ?_
  obtain ⟨v1, e2, h⟩ := bnd_e h
  refine g_callV (pc := 1) (dd d_Mod_endParts 1 rfl) v_Mod_315 ob_MO rfl (ef_Mod_endSum hX e2) rfl (by rw [hk]; decide) (Nat.le_of_ble_eq_true rfl) ⟨Nat.zero_le _, Nat.zero_le _⟩ rfl ?_
  refine g_aload_n (pc := 4) (dd d_Mod_endParts 2 rfl) rfl ?_
  refine g_aload_n (pc := 5) (dd d_Mod_endParts 3 rfl) rfl ?_
  obtain ⟨v3, e4, h⟩ := bnd_e h
  refine g_callV (pc := 6) (dd d_Mod_endParts 4 rfl) v_Mod_301 ob_MO rfl (ef_Mod_topOf hX e4) rfl (by rw [hk]; decide) (Nat.le_of_ble_eq_true rfl) ⟨Nat.zero_le _, Nat.zero_le _⟩ rfl ?_
  obtain ⟨v5, e6, h⟩ := bnd_e h
  refine g_callV (pc := 9) (dd d_Mod_endParts 5 rfl) v_Mod_318 ob_MO rfl (ef_Mod_isCompared hX e6) rfl (by rw [hk]; decide) (Nat.le_of_ble_eq_true rfl) ⟨Nat.zero_le _, Nat.zero_le _⟩ rfl ?_
  refine g_ifeq (pc := 12) (tgt := 39) (dd d_Mod_endParts 6 rfl) (by decide) (fun q7 => ?_) (fun q7 => ?_)
  · replace h := ite_t h q7
    refine g_drop [0] ?_
    exact gb_Mod_endParts_39 hX hk hT  h
  · replace h := ite_f h q7
    refine g_aload_n (pc := 15) (dd d_Mod_endParts 7 rfl) rfl ?_
    refine g_dup (pc := 16) (dd d_Mod_endParts 8 rfl) rfl ?_
    refine g_geti (pc := 17) (dd d_Mod_endParts 9 rfl) f_Mod_298 ob_MO rfl ?_
    refine g_iconst (pc := 20) (v := 1) (dd d_Mod_endParts 10 rfl) (by decide) ?_
    refine g_isub (pc := 21) (dd d_Mod_endParts 11 rfl) ?_
    refine g_putiN (pc := 22) (dd d_Mod_endParts 12 rfl) f_Mod_298 fm_Mod_29 ob_MO rfl (fun I8 hI8 => ?_)
    replace h := lt_e h hI8
    refine g_aload_n (pc := 25) (dd d_Mod_endParts 13 rfl) rfl ?_
    refine g_aload_n (pc := 26) (dd d_Mod_endParts 14 rfl) rfl ?_
    refine g_getr (pc := 27) (dd d_Mod_endParts 15 rfl) f_Mod_50 ob_MO rfl (mr_pile hX) ?_
    refine g_aload_n (pc := 30) (dd d_Mod_endParts 16 rfl) rfl ?_
    refine g_geti (pc := 31) (dd d_Mod_endParts 17 rfl) f_Mod_298 ob_MO rfl ?_
    obtain ⟨c9, h⟩ := chk_e h
    refine g_iald (pc := 34) (dd d_Mod_endParts 18 rfl) ar_A_pile c9 ?_
    refine g_iconst (pc := 35) (v := 0) (dd d_Mod_endParts 19 rfl) (by decide) ?_
    obtain ⟨v10, e11, h⟩ := bnd_e h
    refine g_callV (pc := 36) (dd d_Mod_endParts 20 rfl) v_Mod_308 ob_MO rfl (ef_Mod_emit hX e11) rfl (by rw [hk]; decide) (Nat.le_of_ble_eq_true rfl) ⟨Nat.zero_le _, Nat.zero_le _⟩ rfl ?_
    refine g_drop [0] ?_
    exact gb_Mod_endParts_39 hX hk hT  h
def l_Mod_endExpression_4 (n : Nat)  : Nat → IM → Option (IM)
  | 0, _ => none
  | f + 1, I => Option.bind (f_Mod_topOf   I) fun v3 => if v3 = (58 : Int32) then (lt (up I MO 29 ((I MO 29) - 1)) fun I6 => lt (up I6 MO 28 ((I6 MO 28) - 1)) fun I7 => chk (inb (I7 MO 29) 1000) <| chk (inb (I7 A_pileAt (I7 MO 29 : Int32).toNatClampNeg) 2000) <| lt (up I7 A_codeValue (I7 A_pileAt (I7 MO 29 : Int32).toNatClampNeg : Int32).toNatClampNeg (I7 MO 15)) fun I10 => (l_Mod_endExpression_4 n  f) I10) else (some I)
set_option maxRecDepth 20000 in
set_option maxHeartbeats 4000000 in
theorem gl_Mod_endExpression_4 {Δ : Dx} {X : Lx} (hX : MX Δ X)   {n : Nat} {Γ : Cx} (hk : Γ.k = 3) {r : IM} (hT : Tg Δ Γ none NN (r, X) 0 0)  : ∀ (f : Nat)  (I : IM), l_Mod_endExpression_4 n  f  I = some r → GG Δ m_Mod_endExpression Γ NN 0 0 (I, X) 4 [some (.ref (Δ.ba + MO))] []
  | 0, _, h => by cases h
  | f + 1, I, h => by
    have ih := gl_Mod_endExpression_4 (n := n) hX hk hT  f
    rw [l_Mod_endExpression_4] at h
    refine g_aload_n (pc := 4) (dd d_Mod_endExpression 2 rfl) rfl ?_
    obtain ⟨v3, e4, h⟩ := bnd_e h
    refine g_callV (pc := 5) (dd d_Mod_endExpression 3 rfl) v_Mod_301 ob_MO rfl (ef_Mod_topOf hX e4) rfl (by rw [hk]; decide) (Nat.le_of_ble_eq_true rfl) ⟨Nat.zero_le _, Nat.zero_le _⟩ rfl ?_
    refine g_bipush (pc := 8) (v := 58) (dd d_Mod_endExpression 4 rfl) (by decide) ?_
    refine g_icmpne (pc := 10) (tgt := 54) (dd d_Mod_endExpression 5 rfl) (by decide) (fun q5 => ?_) (fun q5 => ?_)
    · replace h := ite_f h q5
      cases h
      exact g_vret (pc := 54) rfl (dd d_Mod_endExpression 29 rfl) hT
    · replace h := ite_t h q5
      refine g_aload_n (pc := 13) (dd d_Mod_endExpression 6 rfl) rfl ?_
      refine g_dup (pc := 14) (dd d_Mod_endExpression 7 rfl) rfl ?_
      refine g_geti (pc := 15) (dd d_Mod_endExpression 8 rfl) f_Mod_298 ob_MO rfl ?_
      refine g_iconst (pc := 18) (v := 1) (dd d_Mod_endExpression 9 rfl) (by decide) ?_
      refine g_isub (pc := 19) (dd d_Mod_endExpression 10 rfl) ?_
      refine g_putiN (pc := 20) (dd d_Mod_endExpression 11 rfl) f_Mod_298 fm_Mod_29 ob_MO rfl (fun I6 hI6 => ?_)
      replace h := lt_e h hI6
      refine g_aload_n (pc := 23) (dd d_Mod_endExpression 12 rfl) rfl ?_
      refine g_dup (pc := 24) (dd d_Mod_endExpression 13 rfl) rfl ?_
      refine g_geti (pc := 25) (dd d_Mod_endExpression 14 rfl) f_Mod_295 ob_MO rfl ?_
      refine g_iconst (pc := 28) (v := 1) (dd d_Mod_endExpression 15 rfl) (by decide) ?_
      refine g_isub (pc := 29) (dd d_Mod_endExpression 16 rfl) ?_
      refine g_putiN (pc := 30) (dd d_Mod_endExpression 17 rfl) f_Mod_295 fm_Mod_28 ob_MO rfl (fun I7 hI7 => ?_)
      replace h := lt_e h hI7
      refine g_aload_n (pc := 33) (dd d_Mod_endExpression 18 rfl) rfl ?_
      refine g_getr (pc := 34) (dd d_Mod_endExpression 19 rfl) f_Mod_23 ob_MO rfl (mr_codeValue hX) ?_
      refine g_aload_n (pc := 37) (dd d_Mod_endExpression 20 rfl) rfl ?_
      refine g_getr (pc := 38) (dd d_Mod_endExpression 21 rfl) f_Mod_53 ob_MO rfl (mr_pileAt hX) ?_
      refine g_aload_n (pc := 41) (dd d_Mod_endExpression 22 rfl) rfl ?_
      refine g_geti (pc := 42) (dd d_Mod_endExpression 23 rfl) f_Mod_298 ob_MO rfl ?_
      obtain ⟨c8, h⟩ := chk_e h
      refine g_iald (pc := 45) (dd d_Mod_endExpression 24 rfl) ar_A_pileAt c8 ?_
      refine g_aload_n (pc := 46) (dd d_Mod_endExpression 25 rfl) rfl ?_
      refine g_geti (pc := 47) (dd d_Mod_endExpression 26 rfl) f_Mod_292 ob_MO rfl ?_
      obtain ⟨c9, h⟩ := chk_e h
      refine g_iastN (pc := 50) (dd d_Mod_endExpression 27 rfl) ar_A_codeValue c9 (fun I10 hI10 => ?_)
      replace h := lt_e h hI10
      refine g_goto (pc := 51) (tgt := 4) (dd d_Mod_endExpression 28 rfl) (by decide) ?_
      exact ih _ h
def f_Mod_endExpression (n : Nat) (I : IM) : Option (IM) := Option.bind (f_Mod_endParts   I) fun v1 => l_Mod_endExpression_4 n  n v1
set_option maxRecDepth 20000 in
set_option maxHeartbeats 4000000 in
theorem ef_Mod_endExpression {Δ : Dx} {X : Lx} (hX : MX Δ X) {n : Nat}  {I : IM}  {r : IM} (h : f_Mod_endExpression n I = some r) : Ev Δ 3 m_Mod_endExpression [.ref (Δ.ba + MO)] (I, X) none (r, X) := by
  refine ev_of (by decide) (Nat.le_of_ble_eq_true rfl) (fun Γ hk hR hT => ?_)
  change GG Δ m_Mod_endExpression Γ NN 0 0 (I, X) 0 [some (.ref (Δ.ba + MO))] []
  unfold f_Mod_endExpression at h
  refine g_aload_n (pc := 0) (dd d_Mod_endExpression 0 rfl) rfl ?_
  obtain ⟨v1, e2, h⟩ := bnd_e h
  refine g_callV (pc := 1) (dd d_Mod_endExpression 1 rfl) v_Mod_321 ob_MO rfl (ef_Mod_endParts hX e2) rfl (by rw [hk]; decide) (Nat.le_of_ble_eq_true rfl) ⟨Nat.zero_le _, Nat.zero_le _⟩ rfl ?_
  exact gl_Mod_endExpression_4 hX hk hT  _ _ h
def b_Mod_step_11 (n : Nat) (J : JM)   (I : IM) : Option (IM) := some I
set_option maxRecDepth 20000 in
set_option maxHeartbeats 4000000 in
theorem gb_Mod_step_11 {Δ : Dx} {X : Lx} (hX : MX Δ X)   {n : Nat} {Γ : Cx} (hk : Γ.k = 3) {r : IM} (hT : Tg Δ Γ none NN (r, X) 0 0)   {I : IM} (h : b_Mod_step_11 n X.1   I = some r) : GG Δ m_Mod_step Γ NN 0 0 (I, X) 11 [none] [] := by
  unfold b_Mod_step_11 at h
  cases h
  exact g_vret (pc := 11) rfl (dd d_Mod_step 5 rfl) hT
def f_Mod_step (n : Nat) (J : JM) (I : IM) : Option (IM) := if 0 ≤ (I MO 14 : Int32) then (b_Mod_step_11 n J  I) else (Option.bind (f_Mod_advance n J I) fun v2 => b_Mod_step_11 n J  v2)
set_option maxRecDepth 20000 in
set_option maxHeartbeats 4000000 in
theorem ef_Mod_step {Δ : Dx} {X : Lx} (hX : MX Δ X) {n : Nat}  {I : IM}  {r : IM} (h : f_Mod_step n X.1 I = some r) : Ev Δ 3 m_Mod_step [.ref (Δ.ba + MO)] (I, X) none (r, X) := by
  refine ev_of (by decide) (Nat.le_of_ble_eq_true rfl) (fun Γ hk hR hT => ?_)
  change GG Δ m_Mod_step Γ NN 0 0 (I, X) 0 [some (.ref (Δ.ba + MO))] []
  unfold f_Mod_step at h
  refine g_aload_n (pc := 0) (dd d_Mod_step 0 rfl) rfl ?_
  refine g_geti (pc := 1) (dd d_Mod_step 1 rfl) f_Mod_280 ob_MO rfl ?_
  refine g_ifge (pc := 4) (tgt := 11) (dd d_Mod_step 2 rfl) (by decide) (fun q1 => ?_) (fun q1 => ?_)
  · replace h := ite_t h q1
    refine g_drop [0] ?_
    exact gb_Mod_step_11 hX hk hT  h
  · replace h := ite_f h q1
    refine g_aload_n (pc := 7) (dd d_Mod_step 3 rfl) rfl ?_
    obtain ⟨v2, e3, h⟩ := bnd_e h
    refine g_callV (pc := 8) (dd d_Mod_step 4 rfl) v_Mod_289 ob_MO rfl (ef_Mod_advance hX e3) rfl (by rw [hk]; decide) (Nat.le_of_ble_eq_true rfl) ⟨Nat.zero_le _, Nat.zero_le _⟩ rfl ?_
    refine g_drop [0] ?_
    exact gb_Mod_step_11 hX hk hT  h
def b_Mod_operand_27 (n : Nat) (J : JM)   (I : IM) : Option (Int32 × IM) := Option.bind (f_Mod_is  45 I) fun v49 => Option.bind (f_Mod_push  (if v49 = 0 then ((I MO 10) - (400)) else 301) 0 1 I) fun v52 => Option.bind (f_Mod_step n J v52) fun v54 => some (1, v54)
set_option maxRecDepth 20000 in
set_option maxHeartbeats 4000000 in
theorem gb_Mod_operand_27 {Δ : Dx} {X : Lx} (hX : MX Δ X)   {n : Nat} {Γ : Cx} (hk : Γ.k = 4) {r : Int32 × IM} (hT : Tg Δ Γ (some (.int r.1)) NN (r.2, X) 0 0)   {I : IM} (h : b_Mod_operand_27 n X.1   I = some r) : GG Δ m_Mod_operand Γ NN 0 0 (I, X) 27 [some (.ref (Δ.ba + MO)), none] [] := by
  unfold b_Mod_operand_27 at h
  refine g_aload_n (pc := 27) (dd d_Mod_operand 12 rfl) rfl ?_
  refine g_aload_n (pc := 28) (dd d_Mod_operand 13 rfl) rfl ?_
  refine g_bipush (pc := 29) (v := 45) (dd d_Mod_operand 14 rfl) (by decide) ?_
  obtain ⟨v49, e50, h⟩ := bnd_e h
  refine g_callV (pc := 31) (dd d_Mod_operand 15 rfl) v_Mod_283 ob_MO rfl (ef_Mod_is hX e50) rfl (by rw [hk]; decide) (Nat.le_of_ble_eq_true rfl) ⟨Nat.zero_le _, Nat.zero_le _⟩ rfl ?_
  suffices K34 : ∀ z : Int32, z = (if v49 = 0 then ((I MO 10) - (400)) else 301 : Int32) → GG Δ m_Mod_operand Γ NN 0 0 (I, X) 51 [some (.ref (Δ.ba + MO)), none] [.int (z), .ref (Δ.ba + MO)] by
    refine g_ifeq (pc := 34) (tgt := 43) (dd d_Mod_operand 16 rfl) (by decide) (fun q51 => ?_) (fun q51 => ?_)
    · skip
      refine g_aload_n (pc := 43) (dd d_Mod_operand 19 rfl) rfl ?_
      refine g_geti (pc := 44) (dd d_Mod_operand 20 rfl) f_Mod_270 ob_MO rfl ?_
      refine g_sipush (pc := 47) (v := 400) (dd d_Mod_operand 21 rfl) (by decide) ?_
      refine g_isub (pc := 50) (dd d_Mod_operand 22 rfl) ?_
      exact K34 _ (by rw [if_pos q51])
    · skip
      refine g_sipush (pc := 37) (v := 301) (dd d_Mod_operand 17 rfl) (by decide) ?_
      refine g_goto (pc := 40) (tgt := 51) (dd d_Mod_operand 18 rfl) (by decide) ?_
      exact K34 _ (by rw [if_neg q51])
  intro z hz
  subst hz
  refine g_iconst (pc := 51) (v := 0) (dd d_Mod_operand 23 rfl) (by decide) ?_
  refine g_iconst (pc := 52) (v := 1) (dd d_Mod_operand 24 rfl) (by decide) ?_
  obtain ⟨v52, e53, h⟩ := bnd_e h
  refine g_callV (pc := 53) (dd d_Mod_operand 25 rfl) v_Mod_324 ob_MO rfl (ef_Mod_push hX e53) rfl (by rw [hk]; decide) (Nat.le_of_ble_eq_true rfl) ⟨Nat.zero_le _, Nat.zero_le _⟩ rfl ?_
  refine g_aload_n (pc := 56) (dd d_Mod_operand 26 rfl) rfl ?_
  obtain ⟨v54, e55, h⟩ := bnd_e h
  refine g_callV (pc := 57) (dd d_Mod_operand 27 rfl) v_Mod_328 ob_MO rfl (ef_Mod_step hX e55) rfl (by rw [hk]; decide) (Nat.le_of_ble_eq_true rfl) ⟨Nat.zero_le _, Nat.zero_le _⟩ rfl ?_
  refine g_iconst (pc := 60) (v := 1) (dd d_Mod_operand 28 rfl) (by decide) ?_
  cases h
  exact g_zret (pc := 61) rfl (by decide) (dd d_Mod_operand 29 rfl) hT
def b_Mod_operand_146 (n : Nat) (J : JM)   (I : IM) : Option (Int32 × IM) := Option.bind (f_Mod_step n J I) fun v43 => some (1, v43)
set_option maxRecDepth 20000 in
set_option maxHeartbeats 4000000 in
theorem gb_Mod_operand_146 {Δ : Dx} {X : Lx} (hX : MX Δ X)   {n : Nat} {Γ : Cx} (hk : Γ.k = 4) {r : Int32 × IM} (hT : Tg Δ Γ (some (.int r.1)) NN (r.2, X) 0 0)   {I : IM} (h : b_Mod_operand_146 n X.1   I = some r) : GG Δ m_Mod_operand Γ NN 0 0 (I, X) 146 [some (.ref (Δ.ba + MO)), none] [] := by
  unfold b_Mod_operand_146 at h
  refine g_aload_n (pc := 146) (dd d_Mod_operand_1 13 rfl) rfl ?_
  obtain ⟨v43, e44, h⟩ := bnd_e h
  refine g_callV (pc := 147) (dd d_Mod_operand_1 14 rfl) v_Mod_328 ob_MO rfl (ef_Mod_step hX e44) rfl (by rw [hk]; decide) (Nat.le_of_ble_eq_true rfl) ⟨Nat.zero_le _, Nat.zero_le _⟩ rfl ?_
  refine g_iconst (pc := 150) (v := 1) (dd d_Mod_operand_1 15 rfl) (by decide) ?_
  cases h
  exact g_zret (pc := 151) rfl (by decide) (dd d_Mod_operand_1 16 rfl) hT
def b_Mod_operand_128 (n : Nat) (J : JM)  (x1 : Int32) (I : IM) : Option (Int32 × IM) := if 0 ≤ (I MO 14 : Int32) then (b_Mod_operand_146 n J  I) else (Option.bind (f_Mod_push  (700 + x1) 0 1 I) fun v41 => b_Mod_operand_146 n J  v41)
set_option maxRecDepth 20000 in
set_option maxHeartbeats 4000000 in
theorem gb_Mod_operand_128 {Δ : Dx} {X : Lx} (hX : MX Δ X)   {n : Nat} {Γ : Cx} (hk : Γ.k = 4) {r : Int32 × IM} (hT : Tg Δ Γ (some (.int r.1)) NN (r.2, X) 0 0)  {x1 : Int32} {I : IM} (h : b_Mod_operand_128 n X.1  x1 I = some r) : GG Δ m_Mod_operand Γ NN 0 0 (I, X) 128 [some (.ref (Δ.ba + MO)), some (.int (x1))] [] := by
  unfold b_Mod_operand_128 at h
  refine g_aload_n (pc := 128) (dd d_Mod_operand_1 3 rfl) rfl ?_
  refine g_geti (pc := 129) (dd d_Mod_operand_1 4 rfl) f_Mod_280 ob_MO rfl ?_
  refine g_ifge (pc := 132) (tgt := 146) (dd d_Mod_operand_1 5 rfl) (by decide) (fun q40 => ?_) (fun q40 => ?_)
  · replace h := ite_t h q40
    refine g_drop [1] ?_
    exact gb_Mod_operand_146 hX hk hT  h
  · replace h := ite_f h q40
    refine g_aload_n (pc := 135) (dd d_Mod_operand_1 6 rfl) rfl ?_
    refine g_sipush (pc := 136) (v := 700) (dd d_Mod_operand_1 7 rfl) (by decide) ?_
    refine g_iload_n (pc := 139) (dd d_Mod_operand_1 8 rfl) rfl ?_
    refine g_iadd (pc := 140) (dd d_Mod_operand_1 9 rfl) ?_
    refine g_iconst (pc := 141) (v := 0) (dd d_Mod_operand_1 10 rfl) (by decide) ?_
    refine g_iconst (pc := 142) (v := 1) (dd d_Mod_operand_1 11 rfl) (by decide) ?_
    obtain ⟨v41, e42, h⟩ := bnd_e h
    refine g_callV (pc := 143) (dd d_Mod_operand_1 12 rfl) v_Mod_324 ob_MO rfl (ef_Mod_push hX e42) rfl (by rw [hk]; decide) (Nat.le_of_ble_eq_true rfl) ⟨Nat.zero_le _, Nat.zero_le _⟩ rfl ?_
    refine g_drop [1] ?_
    exact gb_Mod_operand_146 hX hk hT  h
def b_Mod_operand_243 (n : Nat) (J : JM)   (I : IM) : Option (Int32 × IM) := Option.bind (f_Mod_step n J I) fun v45 => Option.bind (f_Mod_whole n  v45) fun v47 => some (0, v47)
set_option maxRecDepth 20000 in
set_option maxHeartbeats 4000000 in
theorem gb_Mod_operand_243 {Δ : Dx} {X : Lx} (hX : MX Δ X)   {n : Nat} {Γ : Cx} (hk : Γ.k = 4) {r : Int32 × IM} (hT : Tg Δ Γ (some (.int r.1)) NN (r.2, X) 0 0)   {I : IM} (h : b_Mod_operand_243 n X.1   I = some r) : GG Δ m_Mod_operand Γ NN 0 0 (I, X) 243 [some (.ref (Δ.ba + MO)), none] [] := by
  unfold b_Mod_operand_243 at h
  refine g_aload_n (pc := 243) (dd d_Mod_operand_2 4 rfl) rfl ?_
  obtain ⟨v45, e46, h⟩ := bnd_e h
  refine g_callV (pc := 244) (dd d_Mod_operand_2 5 rfl) v_Mod_328 ob_MO rfl (ef_Mod_step hX e46) rfl (by rw [hk]; decide) (Nat.le_of_ble_eq_true rfl) ⟨Nat.zero_le _, Nat.zero_le _⟩ rfl ?_
  refine g_aload_n (pc := 247) (dd d_Mod_operand_2 6 rfl) rfl ?_
  obtain ⟨v47, e48, h⟩ := bnd_e h
  refine g_callV (pc := 248) (dd d_Mod_operand_2 7 rfl) v_Mod_334 ob_MO rfl (ef_Mod_whole hX e48) rfl (by rw [hk]; decide) (Nat.le_of_ble_eq_true rfl) ⟨Nat.zero_le _, Nat.zero_le _⟩ rfl ?_
  refine g_iconst (pc := 251) (v := 0) (dd d_Mod_operand_2 8 rfl) (by decide) ?_
  cases h
  exact g_zret (pc := 252) rfl (by decide) (dd d_Mod_operand_2 9 rfl) hT
def f_Mod_operand (n : Nat) (J : JM) (I : IM) : Option (Int32 × IM) := Option.bind (f_Mod_is  33 I) fun v1 => if v1 = 0 then (Option.bind (f_Mod_is  126 I) fun v4 => if v4 = 0 then (Option.bind (f_Mod_is  45 I) fun v7 => if v7 = 0 then (Option.bind (f_Mod_is  40 I) fun v10 => if v10 = 0 then (Option.bind (f_Mod_in  (I MO 10) 60 63 I) fun v13 => if v13 = 0 then (if (I MO 10 : Int32) = (200 : Int32) then (Option.bind (f_Mod_emit  300 (I MO 11) I) fun v26 => b_Mod_operand_243 n J  v26) else (Option.bind (f_Mod_in  (I MO 10) 30 44 I) fun v17 => if v17 = 0 then (Option.bind (f_Mod_fail   I) fun v20 => some (1, v20)) else (Option.bind (f_Mod_emit  ((500 + (I MO 10)) - 30) 0 I) fun v22 => chk (inb (v22 MO 23) 602) <| lt (up v22 A_named (v22 MO 23 : Int32).toNatClampNeg ((v22 A_named (v22 MO 23 : Int32).toNatClampNeg) ||| ((1 : Int32) <<< (((v22 MO 10) - 30 : Int32) &&& 31)))) fun I25 => b_Mod_operand_243 n J  I25))) else (Option.bind (f_Mod_step n J I) fun v28 => if 0 ≤ (v28 MO 14 : Int32) then (b_Mod_operand_128 n J  (I MO 10) v28) else (Option.bind (f_Mod_is  40 v28) fun v31 => if v31 = 0 then (Option.bind (f_Mod_fail   v28) fun v34 => b_Mod_operand_128 n J  (I MO 10) v34) else (b_Mod_operand_128 n J  (I MO 10) v28)))) else (Option.bind (f_Mod_push  40 0 1 I) fun v36 => Option.bind (f_Mod_step n J v36) fun v38 => some (1, v38))) else (b_Mod_operand_27 n J  I)) else (b_Mod_operand_27 n J  I)) else (b_Mod_operand_27 n J  I)
set_option maxRecDepth 20000 in
set_option maxHeartbeats 4000000 in
theorem ef_Mod_operand {Δ : Dx} {X : Lx} (hX : MX Δ X) {n : Nat}  {I : IM}  {r : Int32 × IM} (h : f_Mod_operand n X.1 I = some r) : Ev Δ 4 m_Mod_operand [.ref (Δ.ba + MO)] (I, X) (some (.int r.1)) (r.2, X) := by
  refine ev_of (by decide) (Nat.le_of_ble_eq_true rfl) (fun Γ hk hR hT => ?_)
  change GG Δ m_Mod_operand Γ NN 0 0 (I, X) 0 [some (.ref (Δ.ba + MO)), none] []
  unfold f_Mod_operand at h
  refine g_aload_n (pc := 0) (dd d_Mod_operand 0 rfl) rfl ?_
  refine g_bipush (pc := 1) (v := 33) (dd d_Mod_operand 1 rfl) (by decide) ?_
  obtain ⟨v1, e2, h⟩ := bnd_e h
  refine g_callV (pc := 3) (dd d_Mod_operand 2 rfl) v_Mod_283 ob_MO rfl (ef_Mod_is hX e2) rfl (by rw [hk]; decide) (Nat.le_of_ble_eq_true rfl) ⟨Nat.zero_le _, Nat.zero_le _⟩ rfl ?_
  refine g_ifne (pc := 6) (tgt := 27) (dd d_Mod_operand 3 rfl) (by decide) (fun q3 => ?_) (fun q3 => ?_)
  · replace h := ite_f h q3
    exact gb_Mod_operand_27 hX hk hT  h
  · replace h := ite_t h q3
    refine g_aload_n (pc := 9) (dd d_Mod_operand 4 rfl) rfl ?_
    refine g_bipush (pc := 10) (v := 126) (dd d_Mod_operand 5 rfl) (by decide) ?_
    obtain ⟨v4, e5, h⟩ := bnd_e h
    refine g_callV (pc := 12) (dd d_Mod_operand 6 rfl) v_Mod_283 ob_MO rfl (ef_Mod_is hX e5) rfl (by rw [hk]; decide) (Nat.le_of_ble_eq_true rfl) ⟨Nat.zero_le _, Nat.zero_le _⟩ rfl ?_
    refine g_ifne (pc := 15) (tgt := 27) (dd d_Mod_operand 7 rfl) (by decide) (fun q6 => ?_) (fun q6 => ?_)
    · replace h := ite_f h q6
      exact gb_Mod_operand_27 hX hk hT  h
    · replace h := ite_t h q6
      refine g_aload_n (pc := 18) (dd d_Mod_operand 8 rfl) rfl ?_
      refine g_bipush (pc := 19) (v := 45) (dd d_Mod_operand 9 rfl) (by decide) ?_
      obtain ⟨v7, e8, h⟩ := bnd_e h
      refine g_callV (pc := 21) (dd d_Mod_operand 10 rfl) v_Mod_283 ob_MO rfl (ef_Mod_is hX e8) rfl (by rw [hk]; decide) (Nat.le_of_ble_eq_true rfl) ⟨Nat.zero_le _, Nat.zero_le _⟩ rfl ?_
      refine g_ifeq (pc := 24) (tgt := 62) (dd d_Mod_operand 11 rfl) (by decide) (fun q9 => ?_) (fun q9 => ?_)
      · replace h := ite_t h q9
        refine g_aload_n (pc := 62) (dd d_Mod_operand 30 rfl) rfl ?_
        refine g_bipush (pc := 63) (v := 40) (dd d_Mod_operand 31 rfl) (by decide) ?_
        obtain ⟨v10, e11, h⟩ := bnd_e h
        refine g_callV (pc := 65) (dd d_Mod_operand 32 rfl) v_Mod_283 ob_MO rfl (ef_Mod_is hX e11) rfl (by rw [hk]; decide) (Nat.le_of_ble_eq_true rfl) ⟨Nat.zero_le _, Nat.zero_le _⟩ rfl ?_
        refine g_ifeq (pc := 68) (tgt := 85) (dd d_Mod_operand 33 rfl) (by decide) (fun q12 => ?_) (fun q12 => ?_)
        · replace h := ite_t h q12
          refine g_aload_n (pc := 85) (dd d_Mod_operand 43 rfl) rfl ?_
          refine g_geti (pc := 86) (dd d_Mod_operand 44 rfl) f_Mod_270 ob_MO rfl ?_
          refine g_bipush (pc := 89) (v := 60) (dd d_Mod_operand 45 rfl) (by decide) ?_
          refine g_bipush (pc := 91) (v := 63) (dd d_Mod_operand 46 rfl) (by decide) ?_
          obtain ⟨v13, e14, h⟩ := bnd_e h
          refine g_callS (pc := 93) (dd d_Mod_operand 47 rfl) s_Mod_243 (ef_Mod_in hX e14) rfl (by rw [hk]; decide) (Nat.le_of_ble_eq_true rfl) ⟨Nat.zero_le _, Nat.zero_le _⟩ rfl ?_
          refine g_ifeq (pc := 96) (tgt := 152) (dd d_Mod_operand 48 rfl) (by decide) (fun q15 => ?_) (fun q15 => ?_)
          · replace h := ite_t h q15
            refine g_aload_n (pc := 152) (dd d_Mod_operand_1 17 rfl) rfl ?_
            refine g_geti (pc := 153) (dd d_Mod_operand_1 18 rfl) f_Mod_270 ob_MO rfl ?_
            refine g_sipush (pc := 156) (v := 200) (dd d_Mod_operand_1 19 rfl) (by decide) ?_
            refine g_icmpne (pc := 159) (tgt := 176) (dd d_Mod_operand_1 20 rfl) (by decide) (fun q16 => ?_) (fun q16 => ?_)
            · replace h := ite_f h q16
              refine g_aload_n (pc := 176) (dd d_Mod_operand_1 27 rfl) rfl ?_
              refine g_geti (pc := 177) (dd d_Mod_operand_1 28 rfl) f_Mod_270 ob_MO rfl ?_
              refine g_bipush (pc := 180) (v := 30) (dd d_Mod_operand_1 29 rfl) (by decide) ?_
              refine g_bipush (pc := 182) (v := 44) (dd d_Mod_operand_1 30 rfl) (by decide) ?_
              obtain ⟨v17, e18, h⟩ := bnd_e h
              refine g_callS (pc := 184) (dd d_Mod_operand_1 31 rfl) s_Mod_243 (ef_Mod_in hX e18) rfl (by rw [hk]; decide) (Nat.le_of_ble_eq_true rfl) ⟨Nat.zero_le _, Nat.zero_le _⟩ rfl ?_
              refine g_ifeq (pc := 187) (tgt := 237) (dd d_Mod_operand_1 32 rfl) (by decide) (fun q19 => ?_) (fun q19 => ?_)
              · replace h := ite_t h q19
                refine g_aload_n (pc := 237) (dd d_Mod_operand_2 0 rfl) rfl ?_
                obtain ⟨v20, e21, h⟩ := bnd_e h
                refine g_callV (pc := 238) (dd d_Mod_operand_2 1 rfl) v_Mod_286 ob_MO rfl (ef_Mod_fail hX e21) rfl (by rw [hk]; decide) (Nat.le_of_ble_eq_true rfl) ⟨Nat.zero_le _, Nat.zero_le _⟩ rfl ?_
                refine g_iconst (pc := 241) (v := 1) (dd d_Mod_operand_2 2 rfl) (by decide) ?_
                cases h
                exact g_zret (pc := 242) rfl (by decide) (dd d_Mod_operand_2 3 rfl) hT
              · replace h := ite_f h q19
                refine g_aload_n (pc := 190) (dd d_Mod_operand_1 33 rfl) rfl ?_
                refine g_sipush (pc := 191) (v := 500) (dd d_Mod_operand_1 34 rfl) (by decide) ?_
                refine g_aload_n (pc := 194) (dd d_Mod_operand_1 35 rfl) rfl ?_
                refine g_geti (pc := 195) (dd d_Mod_operand_1 36 rfl) f_Mod_270 ob_MO rfl ?_
                refine g_iadd (pc := 198) (dd d_Mod_operand_1 37 rfl) ?_
                refine g_bipush (pc := 199) (v := 30) (dd d_Mod_operand_1 38 rfl) (by decide) ?_
                refine g_isub (pc := 201) (dd d_Mod_operand_1 39 rfl) ?_
                refine g_iconst (pc := 202) (v := 0) (dd d_Mod_operand_1 40 rfl) (by decide) ?_
                obtain ⟨v22, e23, h⟩ := bnd_e h
                refine g_callV (pc := 203) (dd d_Mod_operand_1 41 rfl) v_Mod_308 ob_MO rfl (ef_Mod_emit hX e23) rfl (by rw [hk]; decide) (Nat.le_of_ble_eq_true rfl) ⟨Nat.zero_le _, Nat.zero_le _⟩ rfl ?_
                refine g_aload_n (pc := 206) (dd d_Mod_operand_1 42 rfl) rfl ?_
                refine g_getr (pc := 207) (dd d_Mod_operand_1 43 rfl) f_Mod_47 ob_MO rfl (mr_named hX) ?_
                refine g_aload_n (pc := 210) (dd d_Mod_operand_1 44 rfl) rfl ?_
                refine g_geti (pc := 211) (dd d_Mod_operand_1 45 rfl) f_Mod_331 ob_MO rfl ?_
                refine g_aload_n (pc := 214) (dd d_Mod_operand_1 46 rfl) rfl ?_
                refine g_getr (pc := 215) (dd d_Mod_operand_1 47 rfl) f_Mod_47 ob_MO rfl (mr_named hX) ?_
                refine g_aload_n (pc := 218) (dd d_Mod_operand_1 48 rfl) rfl ?_
                refine g_geti (pc := 219) (dd d_Mod_operand_1 49 rfl) f_Mod_331 ob_MO rfl ?_
                obtain ⟨c24, h⟩ := chk_e h
                refine g_iald (pc := 222) (dd d_Mod_operand_1 50 rfl) ar_A_named c24 ?_
                refine g_iconst (pc := 223) (v := 1) (dd d_Mod_operand_1 51 rfl) (by decide) ?_
                refine g_aload_n (pc := 224) (dd d_Mod_operand_1 52 rfl) rfl ?_
                refine g_geti (pc := 225) (dd d_Mod_operand_1 53 rfl) f_Mod_270 ob_MO rfl ?_
                refine g_bipush (pc := 228) (v := 30) (dd d_Mod_operand_1 54 rfl) (by decide) ?_
                refine g_isub (pc := 230) (dd d_Mod_operand_1 55 rfl) ?_
                refine g_ishl (pc := 231) (dd d_Mod_operand_1 56 rfl) ?_
                refine g_ior (pc := 232) (dd d_Mod_operand_1 57 rfl) ?_
                refine g_iastN (pc := 233) (dd d_Mod_operand_1 58 rfl) ar_A_named c24 (fun I25 hI25 => ?_)
                replace h := lt_e h hI25
                refine g_goto (pc := 234) (tgt := 243) (dd d_Mod_operand_1 59 rfl) (by decide) ?_
                exact gb_Mod_operand_243 hX hk hT  h
            · replace h := ite_t h q16
              refine g_aload_n (pc := 162) (dd d_Mod_operand_1 21 rfl) rfl ?_
              refine g_sipush (pc := 163) (v := 300) (dd d_Mod_operand_1 22 rfl) (by decide) ?_
              refine g_aload_n (pc := 166) (dd d_Mod_operand_1 23 rfl) rfl ?_
              refine g_geti (pc := 167) (dd d_Mod_operand_1 24 rfl) f_Mod_273 ob_MO rfl ?_
              obtain ⟨v26, e27, h⟩ := bnd_e h
              refine g_callV (pc := 170) (dd d_Mod_operand_1 25 rfl) v_Mod_308 ob_MO rfl (ef_Mod_emit hX e27) rfl (by rw [hk]; decide) (Nat.le_of_ble_eq_true rfl) ⟨Nat.zero_le _, Nat.zero_le _⟩ rfl ?_
              refine g_goto (pc := 173) (tgt := 243) (dd d_Mod_operand_1 26 rfl) (by decide) ?_
              exact gb_Mod_operand_243 hX hk hT  h
          · replace h := ite_f h q15
            refine g_aload_n (pc := 99) (dd d_Mod_operand 49 rfl) rfl ?_
            refine g_geti (pc := 100) (dd d_Mod_operand 50 rfl) f_Mod_270 ob_MO rfl ?_
            refine g_istore_n (pc := 103) (dd d_Mod_operand 51 rfl) (by decide) ?_
            refine g_aload_n (pc := 104) (dd d_Mod_operand 52 rfl) rfl ?_
            obtain ⟨v28, e29, h⟩ := bnd_e h
            refine g_callV (pc := 105) (dd d_Mod_operand 53 rfl) v_Mod_328 ob_MO rfl (ef_Mod_step hX e29) rfl (by rw [hk]; decide) (Nat.le_of_ble_eq_true rfl) ⟨Nat.zero_le _, Nat.zero_le _⟩ rfl ?_
            refine g_aload_n (pc := 108) (dd d_Mod_operand 54 rfl) rfl ?_
            refine g_geti (pc := 109) (dd d_Mod_operand 55 rfl) f_Mod_280 ob_MO rfl ?_
            refine g_ifge (pc := 112) (tgt := 128) (dd d_Mod_operand 56 rfl) (by decide) (fun q30 => ?_) (fun q30 => ?_)
            · replace h := ite_t h q30
              exact gb_Mod_operand_128 hX hk hT  h
            · replace h := ite_f h q30
              refine g_aload_n (pc := 115) (dd d_Mod_operand 57 rfl) rfl ?_
              refine g_bipush (pc := 116) (v := 40) (dd d_Mod_operand 58 rfl) (by decide) ?_
              obtain ⟨v31, e32, h⟩ := bnd_e h
              refine g_callV (pc := 118) (dd d_Mod_operand 59 rfl) v_Mod_283 ob_MO rfl (ef_Mod_is hX e32) rfl (by rw [hk]; decide) (Nat.le_of_ble_eq_true rfl) ⟨Nat.zero_le _, Nat.zero_le _⟩ rfl ?_
              refine g_ifne (pc := 121) (tgt := 128) (dd d_Mod_operand_1 0 rfl) (by decide) (fun q33 => ?_) (fun q33 => ?_)
              · replace h := ite_f h q33
                exact gb_Mod_operand_128 hX hk hT  h
              · replace h := ite_t h q33
                refine g_aload_n (pc := 124) (dd d_Mod_operand_1 1 rfl) rfl ?_
                obtain ⟨v34, e35, h⟩ := bnd_e h
                refine g_callV (pc := 125) (dd d_Mod_operand_1 2 rfl) v_Mod_286 ob_MO rfl (ef_Mod_fail hX e35) rfl (by rw [hk]; decide) (Nat.le_of_ble_eq_true rfl) ⟨Nat.zero_le _, Nat.zero_le _⟩ rfl ?_
                exact gb_Mod_operand_128 hX hk hT  h
        · replace h := ite_f h q12
          refine g_aload_n (pc := 71) (dd d_Mod_operand 34 rfl) rfl ?_
          refine g_bipush (pc := 72) (v := 40) (dd d_Mod_operand 35 rfl) (by decide) ?_
          refine g_iconst (pc := 74) (v := 0) (dd d_Mod_operand 36 rfl) (by decide) ?_
          refine g_iconst (pc := 75) (v := 1) (dd d_Mod_operand 37 rfl) (by decide) ?_
          obtain ⟨v36, e37, h⟩ := bnd_e h
          refine g_callV (pc := 76) (dd d_Mod_operand 38 rfl) v_Mod_324 ob_MO rfl (ef_Mod_push hX e37) rfl (by rw [hk]; decide) (Nat.le_of_ble_eq_true rfl) ⟨Nat.zero_le _, Nat.zero_le _⟩ rfl ?_
          refine g_aload_n (pc := 79) (dd d_Mod_operand 39 rfl) rfl ?_
          obtain ⟨v38, e39, h⟩ := bnd_e h
          refine g_callV (pc := 80) (dd d_Mod_operand 40 rfl) v_Mod_328 ob_MO rfl (ef_Mod_step hX e39) rfl (by rw [hk]; decide) (Nat.le_of_ble_eq_true rfl) ⟨Nat.zero_le _, Nat.zero_le _⟩ rfl ?_
          refine g_iconst (pc := 83) (v := 1) (dd d_Mod_operand 41 rfl) (by decide) ?_
          cases h
          exact g_zret (pc := 84) rfl (by decide) (dd d_Mod_operand 42 rfl) hT
      · replace h := ite_f h q9
        exact gb_Mod_operand_27 hX hk hT  h
def b_Mod_operator_70 (n : Nat) (J : JM)  (x1 : Int32) (I : IM) : Option (Int32 × IM) := Option.bind (f_Mod_endSum   I) fun v83 => Option.bind (f_Mod_topOf   v83) fun v85 => Option.bind (f_Mod_isCompared  v85 v83) fun v87 => if v87 = 0 then (Option.bind (f_Mod_push  (if x1 = (60 : Int32) then 60 else (v83 MO 10)) 0 0 v83) fun v91 => Option.bind (f_Mod_step n J v91) fun v93 => some (1, v93)) else (Option.bind (f_Mod_fail   v83) fun v95 => some (0, v95))
set_option maxRecDepth 20000 in
set_option maxHeartbeats 4000000 in
theorem gb_Mod_operator_70 {Δ : Dx} {X : Lx} (hX : MX Δ X)   {n : Nat} {Γ : Cx} (hk : Γ.k = 4) {r : Int32 × IM} (hT : Tg Δ Γ (some (.int r.1)) NN (r.2, X) 0 0)  {x1 : Int32} {I : IM} (h : b_Mod_operator_70 n X.1  x1 I = some r) : GG Δ m_Mod_operator Γ NN 0 0 (I, X) 70 [some (.ref (Δ.ba + MO)), some (.int (x1)), none, none] [] := by
  unfold b_Mod_operator_70 at h
  refine g_aload_n (pc := 70) (dd d_Mod_operator 35 rfl) rfl ?_
  obtain ⟨v83, e84, h⟩ := bnd_e h
  refine g_callV (pc := 71) (dd d_Mod_operator 36 rfl) v_Mod_315 ob_MO rfl (ef_Mod_endSum hX e84) rfl (by rw [hk]; decide) (Nat.le_of_ble_eq_true rfl) ⟨Nat.zero_le _, Nat.zero_le _⟩ rfl ?_
  refine g_aload_n (pc := 74) (dd d_Mod_operator 37 rfl) rfl ?_
  refine g_aload_n (pc := 75) (dd d_Mod_operator 38 rfl) rfl ?_
  obtain ⟨v85, e86, h⟩ := bnd_e h
  refine g_callV (pc := 76) (dd d_Mod_operator 39 rfl) v_Mod_301 ob_MO rfl (ef_Mod_topOf hX e86) rfl (by rw [hk]; decide) (Nat.le_of_ble_eq_true rfl) ⟨Nat.zero_le _, Nat.zero_le _⟩ rfl ?_
  obtain ⟨v87, e88, h⟩ := bnd_e h
  refine g_callV (pc := 79) (dd d_Mod_operator 40 rfl) v_Mod_318 ob_MO rfl (ef_Mod_isCompared hX e88) rfl (by rw [hk]; decide) (Nat.le_of_ble_eq_true rfl) ⟨Nat.zero_le _, Nat.zero_le _⟩ rfl ?_
  refine g_ifeq (pc := 82) (tgt := 91) (dd d_Mod_operator 41 rfl) (by decide) (fun q89 => ?_) (fun q89 => ?_)
  · replace h := ite_t h q89
    refine g_aload_n (pc := 91) (dd d_Mod_operator 46 rfl) rfl ?_
    refine g_iload_n (pc := 92) (dd d_Mod_operator 47 rfl) rfl ?_
    refine g_bipush (pc := 93) (v := 60) (dd d_Mod_operator 48 rfl) (by decide) ?_
    suffices K95 : ∀ z : Int32, z = (if x1 = (60 : Int32) then 60 else (v83 MO 10) : Int32) → GG Δ m_Mod_operator Γ NN 0 0 (v83, X) 107 [some (.ref (Δ.ba + MO)), some (.int (x1)), none, none] [.int (z), .ref (Δ.ba + MO)] by
      refine g_icmpne (pc := 95) (tgt := 103) (dd d_Mod_operator 49 rfl) (by decide) (fun q90 => ?_) (fun q90 => ?_)
      · skip
        refine g_aload_n (pc := 103) (dd d_Mod_operator 52 rfl) rfl ?_
        refine g_geti (pc := 104) (dd d_Mod_operator 53 rfl) f_Mod_270 ob_MO rfl ?_
        exact K95 _ (by rw [if_neg q90])
      · skip
        refine g_bipush (pc := 98) (v := 60) (dd d_Mod_operator 50 rfl) (by decide) ?_
        refine g_goto (pc := 100) (tgt := 107) (dd d_Mod_operator 51 rfl) (by decide) ?_
        exact K95 _ (by rw [if_pos q90])
    intro z hz
    subst hz
    refine g_iconst (pc := 107) (v := 0) (dd d_Mod_operator 54 rfl) (by decide) ?_
    refine g_iconst (pc := 108) (v := 0) (dd d_Mod_operator 55 rfl) (by decide) ?_
    obtain ⟨v91, e92, h⟩ := bnd_e h
    refine g_callV (pc := 109) (dd d_Mod_operator 56 rfl) v_Mod_324 ob_MO rfl (ef_Mod_push hX e92) rfl (by rw [hk]; decide) (Nat.le_of_ble_eq_true rfl) ⟨Nat.zero_le _, Nat.zero_le _⟩ rfl ?_
    refine g_aload_n (pc := 112) (dd d_Mod_operator 57 rfl) rfl ?_
    obtain ⟨v93, e94, h⟩ := bnd_e h
    refine g_callV (pc := 113) (dd d_Mod_operator 58 rfl) v_Mod_328 ob_MO rfl (ef_Mod_step hX e94) rfl (by rw [hk]; decide) (Nat.le_of_ble_eq_true rfl) ⟨Nat.zero_le _, Nat.zero_le _⟩ rfl ?_
    refine g_iconst (pc := 116) (v := 1) (dd d_Mod_operator 59 rfl) (by decide) ?_
    cases h
    exact g_iret (pc := 117) rfl (dd d_Mod_operator_1 0 rfl) hT
  · replace h := ite_f h q89
    refine g_aload_n (pc := 85) (dd d_Mod_operator 42 rfl) rfl ?_
    obtain ⟨v95, e96, h⟩ := bnd_e h
    refine g_callV (pc := 86) (dd d_Mod_operator 43 rfl) v_Mod_286 ob_MO rfl (ef_Mod_fail hX e96) rfl (by rw [hk]; decide) (Nat.le_of_ble_eq_true rfl) ⟨Nat.zero_le _, Nat.zero_le _⟩ rfl ?_
    refine g_iconst (pc := 89) (v := 0) (dd d_Mod_operator 44 rfl) (by decide) ?_
    cases h
    exact g_iret (pc := 90) rfl (dd d_Mod_operator 45 rfl) hT
def b_Mod_operator_415 (n : Nat) (J : JM)   (I : IM) : Option (Int32 × IM) := Option.bind (f_Mod_step n J I) fun v64 => Option.bind (f_Mod_whole n  v64) fun v66 => some (2, v66)
set_option maxRecDepth 20000 in
set_option maxHeartbeats 4000000 in
theorem gb_Mod_operator_415 {Δ : Dx} {X : Lx} (hX : MX Δ X)   {n : Nat} {Γ : Cx} (hk : Γ.k = 4) {r : Int32 × IM} (hT : Tg Δ Γ (some (.int r.1)) NN (r.2, X) 0 0)   {I : IM} (h : b_Mod_operator_415 n X.1   I = some r) : GG Δ m_Mod_operator Γ NN 0 0 (I, X) 415 [some (.ref (Δ.ba + MO)), none, none, none] [] := by
  unfold b_Mod_operator_415 at h
  refine g_aload_n (pc := 415) (dd d_Mod_operator_3 40 rfl) rfl ?_
  obtain ⟨v64, e65, h⟩ := bnd_e h
  refine g_callV (pc := 416) (dd d_Mod_operator_3 41 rfl) v_Mod_328 ob_MO rfl (ef_Mod_step hX e65) rfl (by rw [hk]; decide) (Nat.le_of_ble_eq_true rfl) ⟨Nat.zero_le _, Nat.zero_le _⟩ rfl ?_
  refine g_aload_n (pc := 419) (dd d_Mod_operator_3 42 rfl) rfl ?_
  obtain ⟨v66, e67, h⟩ := bnd_e h
  refine g_callV (pc := 420) (dd d_Mod_operator_3 43 rfl) v_Mod_334 ob_MO rfl (ef_Mod_whole hX e67) rfl (by rw [hk]; decide) (Nat.le_of_ble_eq_true rfl) ⟨Nat.zero_le _, Nat.zero_le _⟩ rfl ?_
  refine g_iconst (pc := 423) (v := 2) (dd d_Mod_operator_3 44 rfl) (by decide) ?_
  cases h
  exact g_iret (pc := 424) rfl (dd d_Mod_operator_3 45 rfl) hT
def b_Mod_operator_413 (n : Nat) (J : JM)  (y3 : Int32) (y2 : Int32) (y1 : Int32) (I : IM) : Option (Int32 × IM) := chk (inb y1 602) <| lt (up I A_named y1.toNatClampNeg (y2 ||| y3)) fun I63 => b_Mod_operator_415 n J  I63
set_option maxRecDepth 20000 in
set_option maxHeartbeats 4000000 in
theorem gb_Mod_operator_413 {Δ : Dx} {X : Lx} (hX : MX Δ X)   {n : Nat} {Γ : Cx} (hk : Γ.k = 4) {r : Int32 × IM} (hT : Tg Δ Γ (some (.int r.1)) NN (r.2, X) 0 0)  {y3 : Int32} {y2 : Int32} {y1 : Int32} {I : IM} (h : b_Mod_operator_413 n X.1  y3 y2 y1 I = some r) : GG Δ m_Mod_operator Γ NN 0 0 (I, X) 413 [some (.ref (Δ.ba + MO)), none, none, none] [.int (y3), .int (y2), .int (y1), .ref (Δ.ba + A_named)] := by
  unfold b_Mod_operator_413 at h
  refine g_ior (pc := 413) (dd d_Mod_operator_3 38 rfl) ?_
  obtain ⟨c62, h⟩ := chk_e h
  refine g_iastN (pc := 414) (dd d_Mod_operator_3 39 rfl) ar_A_named c62 (fun I63 hI63 => ?_)
  replace h := lt_e h hI63
  exact gb_Mod_operator_415 hX hk hT  h
def b_Mod_operator_442 (n : Nat) (J : JM)   (I : IM) : Option (Int32 × IM) := some (0, I)
set_option maxRecDepth 20000 in
set_option maxHeartbeats 4000000 in
theorem gb_Mod_operator_442 {Δ : Dx} {X : Lx} (hX : MX Δ X)   {n : Nat} {Γ : Cx} (hk : Γ.k = 4) {r : Int32 × IM} (hT : Tg Δ Γ (some (.int r.1)) NN (r.2, X) 0 0)   {I : IM} (h : b_Mod_operator_442 n X.1   I = some r) : GG Δ m_Mod_operator Γ NN 0 0 (I, X) 442 [none, none, none, none] [] := by
  unfold b_Mod_operator_442 at h
  refine g_iconst (pc := 442) (v := 0) (dd d_Mod_operator_3 54 rfl) (by decide) ?_
  cases h
  exact g_iret (pc := 443) rfl (dd d_Mod_operator_3 55 rfl) hT
def b_Mod_operator_438 (n : Nat) (J : JM)   (I : IM) : Option (Int32 × IM) := Option.bind (f_Mod_fail   I) fun v70 => b_Mod_operator_442 n J  v70
set_option maxRecDepth 20000 in
set_option maxHeartbeats 4000000 in
theorem gb_Mod_operator_438 {Δ : Dx} {X : Lx} (hX : MX Δ X)   {n : Nat} {Γ : Cx} (hk : Γ.k = 4) {r : Int32 × IM} (hT : Tg Δ Γ (some (.int r.1)) NN (r.2, X) 0 0)   {I : IM} (h : b_Mod_operator_438 n X.1   I = some r) : GG Δ m_Mod_operator Γ NN 0 0 (I, X) 438 [some (.ref (Δ.ba + MO)), none, none, none] [] := by
  unfold b_Mod_operator_438 at h
  refine g_aload_n (pc := 438) (dd d_Mod_operator_3 52 rfl) rfl ?_
  obtain ⟨v70, e71, h⟩ := bnd_e h
  refine g_callV (pc := 439) (dd d_Mod_operator_3 53 rfl) v_Mod_286 ob_MO rfl (ef_Mod_fail hX e71) rfl (by rw [hk]; decide) (Nat.le_of_ble_eq_true rfl) ⟨Nat.zero_le _, Nat.zero_le _⟩ rfl ?_
  refine g_drop [0] ?_
  exact gb_Mod_operator_442 hX hk hT  h
def b_Mod_operator_425 (n : Nat) (J : JM)  (x1 : Int32) (I : IM) : Option (Int32 × IM) := if 0 < (I MO 29 : Int32) then (b_Mod_operator_438 n J  I) else (if x1 = (59 : Int32) then (b_Mod_operator_442 n J  I) else (b_Mod_operator_438 n J  I))
set_option maxRecDepth 20000 in
set_option maxHeartbeats 4000000 in
theorem gb_Mod_operator_425 {Δ : Dx} {X : Lx} (hX : MX Δ X)   {n : Nat} {Γ : Cx} (hk : Γ.k = 4) {r : Int32 × IM} (hT : Tg Δ Γ (some (.int r.1)) NN (r.2, X) 0 0)  {x1 : Int32} {I : IM} (h : b_Mod_operator_425 n X.1  x1 I = some r) : GG Δ m_Mod_operator Γ NN 0 0 (I, X) 425 [some (.ref (Δ.ba + MO)), some (.int (x1)), none, none] [] := by
  unfold b_Mod_operator_425 at h
  refine g_aload_n (pc := 425) (dd d_Mod_operator_3 46 rfl) rfl ?_
  refine g_geti (pc := 426) (dd d_Mod_operator_3 47 rfl) f_Mod_298 ob_MO rfl ?_
  refine g_ifgt (pc := 429) (tgt := 438) (dd d_Mod_operator_3 48 rfl) (by decide) (fun q68 => ?_) (fun q68 => ?_)
  · replace h := ite_t h q68
    refine g_drop [1] ?_
    exact gb_Mod_operator_438 hX hk hT  h
  · replace h := ite_f h q68
    refine g_iload_n (pc := 432) (dd d_Mod_operator_3 49 rfl) rfl ?_
    refine g_bipush (pc := 433) (v := 59) (dd d_Mod_operator_3 50 rfl) (by decide) ?_
    refine g_icmpeq (pc := 435) (tgt := 442) (dd d_Mod_operator_3 51 rfl) (by decide) (fun q69 => ?_) (fun q69 => ?_)
    · replace h := ite_t h q69
      refine g_drop [0, 1] ?_
      exact gb_Mod_operator_442 hX hk hT  h
    · replace h := ite_f h q69
      refine g_drop [1] ?_
      exact gb_Mod_operator_438 hX hk hT  h
def b_Mod_operator_302 (n : Nat) (J : JM)  (x1 : Int32) (x2 : Int32) (y0 : Int32) (I : IM) : Option (Int32 × IM) := if x1 = (41 : Int32) then (if y0 = 0 then (b_Mod_operator_425 n J  x1 I) else (lt (up I MO 29 ((I MO 29) - 1)) fun I74 => lt (up I74 MO 28 ((I74 MO 28) - 1)) fun I75 => if x2 = (40 : Int32) then (b_Mod_operator_415 n J  I75) else (Option.bind (f_Mod_emit  (if x2 ≤ (1000 : Int32) then ((((310) + (x2)) - (700)) - (60)) else 310) 0 I75) fun v78 => chk (inb (v78 MO 23) 602) <| if x2 ≤ (1000 : Int32) then (if x2 = (763 : Int32) then (b_Mod_operator_413 n J  65536 (v78 A_named (v78 MO 23 : Int32).toNatClampNeg) (v78 MO 23) v78) else (b_Mod_operator_413 n J  0 (v78 A_named (v78 MO 23 : Int32).toNatClampNeg) (v78 MO 23) v78)) else (b_Mod_operator_413 n J  32768 (v78 A_named (v78 MO 23 : Int32).toNatClampNeg) (v78 MO 23) v78)))) else (b_Mod_operator_425 n J  x1 I)
set_option maxRecDepth 20000 in
set_option maxHeartbeats 4000000 in
theorem gb_Mod_operator_302 {Δ : Dx} {X : Lx} (hX : MX Δ X)   {n : Nat} {Γ : Cx} (hk : Γ.k = 4) {r : Int32 × IM} (hT : Tg Δ Γ (some (.int r.1)) NN (r.2, X) 0 0)  {x1 : Int32} {x2 : Int32} {y0 : Int32} {I : IM} (h : b_Mod_operator_302 n X.1  x1 x2 y0 I = some r) : GG Δ m_Mod_operator Γ NN 0 0 (I, X) 302 [some (.ref (Δ.ba + MO)), some (.int (x1)), some (.int (x2)), none] [.int (y0)] := by
  unfold b_Mod_operator_302 at h
  refine g_istore_n (pc := 302) (dd d_Mod_operator_2 42 rfl) (by decide) ?_
  refine g_iload_n (pc := 303) (dd d_Mod_operator_2 43 rfl) rfl ?_
  refine g_bipush (pc := 304) (v := 41) (dd d_Mod_operator_2 44 rfl) (by decide) ?_
  refine g_icmpne (pc := 306) (tgt := 425) (dd d_Mod_operator_2 45 rfl) (by decide) (fun q72 => ?_) (fun q72 => ?_)
  · replace h := ite_f h q72
    refine g_drop [2, 3] ?_
    exact gb_Mod_operator_425 hX hk hT  h
  · replace h := ite_t h q72
    refine g_iload_n (pc := 309) (dd d_Mod_operator_2 46 rfl) rfl ?_
    refine g_ifeq (pc := 310) (tgt := 425) (dd d_Mod_operator_2 47 rfl) (by decide) (fun q73 => ?_) (fun q73 => ?_)
    · replace h := ite_t h q73
      refine g_drop [2, 3] ?_
      exact gb_Mod_operator_425 hX hk hT  h
    · replace h := ite_f h q73
      refine g_aload_n (pc := 313) (dd d_Mod_operator_2 48 rfl) rfl ?_
      refine g_dup (pc := 314) (dd d_Mod_operator_2 49 rfl) rfl ?_
      refine g_geti (pc := 315) (dd d_Mod_operator_2 50 rfl) f_Mod_298 ob_MO rfl ?_
      refine g_iconst (pc := 318) (v := 1) (dd d_Mod_operator_2 51 rfl) (by decide) ?_
      refine g_isub (pc := 319) (dd d_Mod_operator_2 52 rfl) ?_
      refine g_putiN (pc := 320) (dd d_Mod_operator_2 53 rfl) f_Mod_298 fm_Mod_29 ob_MO rfl (fun I74 hI74 => ?_)
      replace h := lt_e h hI74
      refine g_aload_n (pc := 323) (dd d_Mod_operator_2 54 rfl) rfl ?_
      refine g_dup (pc := 324) (dd d_Mod_operator_2 55 rfl) rfl ?_
      refine g_geti (pc := 325) (dd d_Mod_operator_2 56 rfl) f_Mod_295 ob_MO rfl ?_
      refine g_iconst (pc := 328) (v := 1) (dd d_Mod_operator_2 57 rfl) (by decide) ?_
      refine g_isub (pc := 329) (dd d_Mod_operator_2 58 rfl) ?_
      refine g_putiN (pc := 330) (dd d_Mod_operator_2 59 rfl) f_Mod_295 fm_Mod_28 ob_MO rfl (fun I75 hI75 => ?_)
      replace h := lt_e h hI75
      refine g_iload_n (pc := 333) (dd d_Mod_operator_3 0 rfl) rfl ?_
      refine g_bipush (pc := 334) (v := 40) (dd d_Mod_operator_3 1 rfl) (by decide) ?_
      refine g_icmpeq (pc := 336) (tgt := 415) (dd d_Mod_operator_3 2 rfl) (by decide) (fun q76 => ?_) (fun q76 => ?_)
      · replace h := ite_t h q76
        refine g_drop [1, 2, 3] ?_
        exact gb_Mod_operator_415 hX hk hT  h
      · replace h := ite_f h q76
        refine g_aload_n (pc := 339) (dd d_Mod_operator_3 3 rfl) rfl ?_
        refine g_iload_n (pc := 340) (dd d_Mod_operator_3 4 rfl) rfl ?_
        refine g_sipush (pc := 341) (v := 1000) (dd d_Mod_operator_3 5 rfl) (by decide) ?_
        suffices K344 : ∀ z : Int32, z = (if x2 ≤ (1000 : Int32) then ((((310) + (x2)) - (700)) - (60)) else 310 : Int32) → GG Δ m_Mod_operator Γ NN 0 0 (I75, X) 365 [some (.ref (Δ.ba + MO)), some (.int (x1)), some (.int (x2)), some (.int (y0))] [.int (z), .ref (Δ.ba + MO)] by
          refine g_icmple (pc := 344) (tgt := 353) (dd d_Mod_operator_3 6 rfl) (by decide) (fun q77 => ?_) (fun q77 => ?_)
          · skip
            refine g_sipush (pc := 353) (v := 310) (dd d_Mod_operator_3 9 rfl) (by decide) ?_
            refine g_iload_n (pc := 356) (dd d_Mod_operator_3 10 rfl) rfl ?_
            refine g_iadd (pc := 357) (dd d_Mod_operator_3 11 rfl) ?_
            refine g_sipush (pc := 358) (v := 700) (dd d_Mod_operator_3 12 rfl) (by decide) ?_
            refine g_isub (pc := 361) (dd d_Mod_operator_3 13 rfl) ?_
            refine g_bipush (pc := 362) (v := 60) (dd d_Mod_operator_3 14 rfl) (by decide) ?_
            refine g_isub (pc := 364) (dd d_Mod_operator_3 15 rfl) ?_
            exact K344 _ (by rw [if_pos q77])
          · skip
            refine g_sipush (pc := 347) (v := 310) (dd d_Mod_operator_3 7 rfl) (by decide) ?_
            refine g_goto (pc := 350) (tgt := 365) (dd d_Mod_operator_3 8 rfl) (by decide) ?_
            exact K344 _ (by rw [if_neg q77])
        intro z hz
        subst hz
        refine g_iconst (pc := 365) (v := 0) (dd d_Mod_operator_3 16 rfl) (by decide) ?_
        obtain ⟨v78, e79, h⟩ := bnd_e h
        refine g_callV (pc := 366) (dd d_Mod_operator_3 17 rfl) v_Mod_308 ob_MO rfl (ef_Mod_emit hX e79) rfl (by rw [hk]; decide) (Nat.le_of_ble_eq_true rfl) ⟨Nat.zero_le _, Nat.zero_le _⟩ rfl ?_
        refine g_aload_n (pc := 369) (dd d_Mod_operator_3 18 rfl) rfl ?_
        refine g_getr (pc := 370) (dd d_Mod_operator_3 19 rfl) f_Mod_47 ob_MO rfl (mr_named hX) ?_
        refine g_aload_n (pc := 373) (dd d_Mod_operator_3 20 rfl) rfl ?_
        refine g_geti (pc := 374) (dd d_Mod_operator_3 21 rfl) f_Mod_331 ob_MO rfl ?_
        refine g_aload_n (pc := 377) (dd d_Mod_operator_3 22 rfl) rfl ?_
        refine g_getr (pc := 378) (dd d_Mod_operator_3 23 rfl) f_Mod_47 ob_MO rfl (mr_named hX) ?_
        refine g_aload_n (pc := 381) (dd d_Mod_operator_3 24 rfl) rfl ?_
        refine g_geti (pc := 382) (dd d_Mod_operator_3 25 rfl) f_Mod_331 ob_MO rfl ?_
        obtain ⟨c80, h⟩ := chk_e h
        refine g_iald (pc := 385) (dd d_Mod_operator_3 26 rfl) ar_A_named c80 ?_
        refine g_iload_n (pc := 386) (dd d_Mod_operator_3 27 rfl) rfl ?_
        refine g_sipush (pc := 387) (v := 1000) (dd d_Mod_operator_3 28 rfl) (by decide) ?_
        refine g_icmple (pc := 390) (tgt := 399) (dd d_Mod_operator_3 29 rfl) (by decide) (fun q81 => ?_) (fun q81 => ?_)
        · replace h := ite_t h q81
          refine g_iload_n (pc := 399) (dd d_Mod_operator_3 32 rfl) rfl ?_
          refine g_sipush (pc := 400) (v := 763) (dd d_Mod_operator_3 33 rfl) (by decide) ?_
          refine g_icmpne (pc := 403) (tgt := 412) (dd d_Mod_operator_3 34 rfl) (by decide) (fun q82 => ?_) (fun q82 => ?_)
          · replace h := ite_f h q82
            refine g_iconst (pc := 412) (v := 0) (dd d_Mod_operator_3 37 rfl) (by decide) ?_
            refine g_drop [1, 2, 3] ?_
            exact gb_Mod_operator_413 hX hk hT  h
          · replace h := ite_t h q82
            refine g_ldcw (pc := 406) (dd d_Mod_operator_3 35 rfl) c_Mod_341 ?_
            refine g_goto (pc := 409) (tgt := 413) (dd d_Mod_operator_3 36 rfl) (by decide) ?_
            refine g_drop [1, 2, 3] ?_
            exact gb_Mod_operator_413 hX hk hT  h
        · replace h := ite_f h q81
          refine g_ldcw (pc := 393) (dd d_Mod_operator_3 30 rfl) c_Mod_340 ?_
          refine g_goto (pc := 396) (tgt := 413) (dd d_Mod_operator_3 31 rfl) (by decide) ?_
          refine g_drop [1, 2, 3] ?_
          exact gb_Mod_operator_413 hX hk hT  h
def b_Mod_operator_297 (n : Nat) (J : JM)  (x1 : Int32) (x2 : Int32) (I : IM) : Option (Int32 × IM) := b_Mod_operator_302 n J  x1 x2 1 I
set_option maxRecDepth 20000 in
set_option maxHeartbeats 4000000 in
theorem gb_Mod_operator_297 {Δ : Dx} {X : Lx} (hX : MX Δ X)   {n : Nat} {Γ : Cx} (hk : Γ.k = 4) {r : Int32 × IM} (hT : Tg Δ Γ (some (.int r.1)) NN (r.2, X) 0 0)  {x1 : Int32} {x2 : Int32} {I : IM} (h : b_Mod_operator_297 n X.1  x1 x2 I = some r) : GG Δ m_Mod_operator Γ NN 0 0 (I, X) 297 [some (.ref (Δ.ba + MO)), some (.int (x1)), some (.int (x2)), none] [] := by
  unfold b_Mod_operator_297 at h
  refine g_iconst (pc := 297) (v := 1) (dd d_Mod_operator_2 39 rfl) (by decide) ?_
  refine g_goto (pc := 298) (tgt := 302) (dd d_Mod_operator_2 40 rfl) (by decide) ?_
  exact gb_Mod_operator_302 hX hk hT  h
def b_Mod_operator_271 (n : Nat) (J : JM)  (x1 : Int32) (x2 : Int32) (I : IM) : Option (Int32 × IM) := if x2 = (40 : Int32) then (b_Mod_operator_297 n J  x1 x2 I) else (if x2 = (1060 : Int32) then (b_Mod_operator_297 n J  x1 x2 I) else (Option.bind (f_Mod_in  x2 761 763 I) fun v48 => if x1 = (41 : Int32) then (if (if v48 = 0 then 0 else 1 : Int32) = 0 then (b_Mod_operator_425 n J  x1 I) else (lt (up I MO 29 ((I MO 29) - 1)) fun I53 => lt (up I53 MO 28 ((I53 MO 28) - 1)) fun I54 => if x2 = (40 : Int32) then (b_Mod_operator_415 n J  I54) else (Option.bind (f_Mod_emit  (if x2 ≤ (1000 : Int32) then ((((310) + (x2)) - (700)) - (60)) else 310) 0 I54) fun v57 => chk (inb (v57 MO 23) 602) <| if x2 ≤ (1000 : Int32) then (if x2 = (763 : Int32) then (b_Mod_operator_413 n J  65536 (v57 A_named (v57 MO 23 : Int32).toNatClampNeg) (v57 MO 23) v57) else (b_Mod_operator_413 n J  0 (v57 A_named (v57 MO 23 : Int32).toNatClampNeg) (v57 MO 23) v57)) else (b_Mod_operator_413 n J  32768 (v57 A_named (v57 MO 23 : Int32).toNatClampNeg) (v57 MO 23) v57)))) else (b_Mod_operator_425 n J  x1 I)))
set_option maxRecDepth 20000 in
set_option maxHeartbeats 4000000 in
theorem gb_Mod_operator_271 {Δ : Dx} {X : Lx} (hX : MX Δ X)   {n : Nat} {Γ : Cx} (hk : Γ.k = 4) {r : Int32 × IM} (hT : Tg Δ Γ (some (.int r.1)) NN (r.2, X) 0 0)  {x1 : Int32} {x2 : Int32} {I : IM} (h : b_Mod_operator_271 n X.1  x1 x2 I = some r) : GG Δ m_Mod_operator Γ NN 0 0 (I, X) 271 [some (.ref (Δ.ba + MO)), some (.int (x1)), some (.int (x2)), none] [] := by
  unfold b_Mod_operator_271 at h
  refine g_iload_n (pc := 271) (dd d_Mod_operator_2 28 rfl) rfl ?_
  refine g_bipush (pc := 272) (v := 40) (dd d_Mod_operator_2 29 rfl) (by decide) ?_
  refine g_icmpeq (pc := 274) (tgt := 297) (dd d_Mod_operator_2 30 rfl) (by decide) (fun q46 => ?_) (fun q46 => ?_)
  · replace h := ite_t h q46
    exact gb_Mod_operator_297 hX hk hT  h
  · replace h := ite_f h q46
    refine g_iload_n (pc := 277) (dd d_Mod_operator_2 31 rfl) rfl ?_
    refine g_sipush (pc := 278) (v := 1060) (dd d_Mod_operator_2 32 rfl) (by decide) ?_
    refine g_icmpeq (pc := 281) (tgt := 297) (dd d_Mod_operator_2 33 rfl) (by decide) (fun q47 => ?_) (fun q47 => ?_)
    · replace h := ite_t h q47
      exact gb_Mod_operator_297 hX hk hT  h
    · replace h := ite_f h q47
      refine g_iload_n (pc := 284) (dd d_Mod_operator_2 34 rfl) rfl ?_
      refine g_sipush (pc := 285) (v := 761) (dd d_Mod_operator_2 35 rfl) (by decide) ?_
      refine g_sipush (pc := 288) (v := 763) (dd d_Mod_operator_2 36 rfl) (by decide) ?_
      obtain ⟨v48, e49, h⟩ := bnd_e h
      refine g_callS (pc := 291) (dd d_Mod_operator_2 37 rfl) s_Mod_243 (ef_Mod_in hX e49) rfl (by rw [hk]; decide) (Nat.le_of_ble_eq_true rfl) ⟨Nat.zero_le _, Nat.zero_le _⟩ rfl ?_
      suffices K294 : ∀ z : Int32, z = (if v48 = 0 then 0 else 1 : Int32) → GG Δ m_Mod_operator Γ NN 0 0 (I, X) 302 [some (.ref (Δ.ba + MO)), some (.int (x1)), some (.int (x2)), none] [.int (z)] by
        refine g_ifeq (pc := 294) (tgt := 301) (dd d_Mod_operator_2 38 rfl) (by decide) (fun q50 => ?_) (fun q50 => ?_)
        · skip
          refine g_iconst (pc := 301) (v := 0) (dd d_Mod_operator_2 41 rfl) (by decide) ?_
          exact K294 _ (by rw [if_pos q50])
        · skip
          refine g_iconst (pc := 297) (v := 1) (dd d_Mod_operator_2 39 rfl) (by decide) ?_
          refine g_goto (pc := 298) (tgt := 302) (dd d_Mod_operator_2 40 rfl) (by decide) ?_
          exact K294 _ (by rw [if_neg q50])
      intro z hz
      subst hz
      refine g_istore_n (pc := 302) (dd d_Mod_operator_2 42 rfl) (by decide) ?_
      refine g_iload_n (pc := 303) (dd d_Mod_operator_2 43 rfl) rfl ?_
      refine g_bipush (pc := 304) (v := 41) (dd d_Mod_operator_2 44 rfl) (by decide) ?_
      refine g_icmpne (pc := 306) (tgt := 425) (dd d_Mod_operator_2 45 rfl) (by decide) (fun q51 => ?_) (fun q51 => ?_)
      · replace h := ite_f h q51
        refine g_drop [2, 3] ?_
        exact gb_Mod_operator_425 hX hk hT  h
      · replace h := ite_t h q51
        refine g_iload_n (pc := 309) (dd d_Mod_operator_2 46 rfl) rfl ?_
        refine g_ifeq (pc := 310) (tgt := 425) (dd d_Mod_operator_2 47 rfl) (by decide) (fun q52 => ?_) (fun q52 => ?_)
        · replace h := ite_t h q52
          refine g_drop [2, 3] ?_
          exact gb_Mod_operator_425 hX hk hT  h
        · replace h := ite_f h q52
          refine g_aload_n (pc := 313) (dd d_Mod_operator_2 48 rfl) rfl ?_
          refine g_dup (pc := 314) (dd d_Mod_operator_2 49 rfl) rfl ?_
          refine g_geti (pc := 315) (dd d_Mod_operator_2 50 rfl) f_Mod_298 ob_MO rfl ?_
          refine g_iconst (pc := 318) (v := 1) (dd d_Mod_operator_2 51 rfl) (by decide) ?_
          refine g_isub (pc := 319) (dd d_Mod_operator_2 52 rfl) ?_
          refine g_putiN (pc := 320) (dd d_Mod_operator_2 53 rfl) f_Mod_298 fm_Mod_29 ob_MO rfl (fun I53 hI53 => ?_)
          replace h := lt_e h hI53
          refine g_aload_n (pc := 323) (dd d_Mod_operator_2 54 rfl) rfl ?_
          refine g_dup (pc := 324) (dd d_Mod_operator_2 55 rfl) rfl ?_
          refine g_geti (pc := 325) (dd d_Mod_operator_2 56 rfl) f_Mod_295 ob_MO rfl ?_
          refine g_iconst (pc := 328) (v := 1) (dd d_Mod_operator_2 57 rfl) (by decide) ?_
          refine g_isub (pc := 329) (dd d_Mod_operator_2 58 rfl) ?_
          refine g_putiN (pc := 330) (dd d_Mod_operator_2 59 rfl) f_Mod_295 fm_Mod_28 ob_MO rfl (fun I54 hI54 => ?_)
          replace h := lt_e h hI54
          refine g_iload_n (pc := 333) (dd d_Mod_operator_3 0 rfl) rfl ?_
          refine g_bipush (pc := 334) (v := 40) (dd d_Mod_operator_3 1 rfl) (by decide) ?_
          refine g_icmpeq (pc := 336) (tgt := 415) (dd d_Mod_operator_3 2 rfl) (by decide) (fun q55 => ?_) (fun q55 => ?_)
          · replace h := ite_t h q55
            refine g_drop [1, 2, 3] ?_
            exact gb_Mod_operator_415 hX hk hT  h
          · replace h := ite_f h q55
            refine g_aload_n (pc := 339) (dd d_Mod_operator_3 3 rfl) rfl ?_
            refine g_iload_n (pc := 340) (dd d_Mod_operator_3 4 rfl) rfl ?_
            refine g_sipush (pc := 341) (v := 1000) (dd d_Mod_operator_3 5 rfl) (by decide) ?_
            suffices K344 : ∀ z : Int32, z = (if x2 ≤ (1000 : Int32) then ((((310) + (x2)) - (700)) - (60)) else 310 : Int32) → GG Δ m_Mod_operator Γ NN 0 0 (I54, X) 365 [some (.ref (Δ.ba + MO)), some (.int (x1)), some (.int (x2)), some (.int (if v48 = 0 then 0 else 1))] [.int (z), .ref (Δ.ba + MO)] by
              refine g_icmple (pc := 344) (tgt := 353) (dd d_Mod_operator_3 6 rfl) (by decide) (fun q56 => ?_) (fun q56 => ?_)
              · skip
                refine g_sipush (pc := 353) (v := 310) (dd d_Mod_operator_3 9 rfl) (by decide) ?_
                refine g_iload_n (pc := 356) (dd d_Mod_operator_3 10 rfl) rfl ?_
                refine g_iadd (pc := 357) (dd d_Mod_operator_3 11 rfl) ?_
                refine g_sipush (pc := 358) (v := 700) (dd d_Mod_operator_3 12 rfl) (by decide) ?_
                refine g_isub (pc := 361) (dd d_Mod_operator_3 13 rfl) ?_
                refine g_bipush (pc := 362) (v := 60) (dd d_Mod_operator_3 14 rfl) (by decide) ?_
                refine g_isub (pc := 364) (dd d_Mod_operator_3 15 rfl) ?_
                exact K344 _ (by rw [if_pos q56])
              · skip
                refine g_sipush (pc := 347) (v := 310) (dd d_Mod_operator_3 7 rfl) (by decide) ?_
                refine g_goto (pc := 350) (tgt := 365) (dd d_Mod_operator_3 8 rfl) (by decide) ?_
                exact K344 _ (by rw [if_neg q56])
            intro z hz
            subst hz
            refine g_iconst (pc := 365) (v := 0) (dd d_Mod_operator_3 16 rfl) (by decide) ?_
            obtain ⟨v57, e58, h⟩ := bnd_e h
            refine g_callV (pc := 366) (dd d_Mod_operator_3 17 rfl) v_Mod_308 ob_MO rfl (ef_Mod_emit hX e58) rfl (by rw [hk]; decide) (Nat.le_of_ble_eq_true rfl) ⟨Nat.zero_le _, Nat.zero_le _⟩ rfl ?_
            refine g_aload_n (pc := 369) (dd d_Mod_operator_3 18 rfl) rfl ?_
            refine g_getr (pc := 370) (dd d_Mod_operator_3 19 rfl) f_Mod_47 ob_MO rfl (mr_named hX) ?_
            refine g_aload_n (pc := 373) (dd d_Mod_operator_3 20 rfl) rfl ?_
            refine g_geti (pc := 374) (dd d_Mod_operator_3 21 rfl) f_Mod_331 ob_MO rfl ?_
            refine g_aload_n (pc := 377) (dd d_Mod_operator_3 22 rfl) rfl ?_
            refine g_getr (pc := 378) (dd d_Mod_operator_3 23 rfl) f_Mod_47 ob_MO rfl (mr_named hX) ?_
            refine g_aload_n (pc := 381) (dd d_Mod_operator_3 24 rfl) rfl ?_
            refine g_geti (pc := 382) (dd d_Mod_operator_3 25 rfl) f_Mod_331 ob_MO rfl ?_
            obtain ⟨c59, h⟩ := chk_e h
            refine g_iald (pc := 385) (dd d_Mod_operator_3 26 rfl) ar_A_named c59 ?_
            refine g_iload_n (pc := 386) (dd d_Mod_operator_3 27 rfl) rfl ?_
            refine g_sipush (pc := 387) (v := 1000) (dd d_Mod_operator_3 28 rfl) (by decide) ?_
            refine g_icmple (pc := 390) (tgt := 399) (dd d_Mod_operator_3 29 rfl) (by decide) (fun q60 => ?_) (fun q60 => ?_)
            · replace h := ite_t h q60
              refine g_iload_n (pc := 399) (dd d_Mod_operator_3 32 rfl) rfl ?_
              refine g_sipush (pc := 400) (v := 763) (dd d_Mod_operator_3 33 rfl) (by decide) ?_
              refine g_icmpne (pc := 403) (tgt := 412) (dd d_Mod_operator_3 34 rfl) (by decide) (fun q61 => ?_) (fun q61 => ?_)
              · replace h := ite_f h q61
                refine g_iconst (pc := 412) (v := 0) (dd d_Mod_operator_3 37 rfl) (by decide) ?_
                refine g_drop [1, 2, 3] ?_
                exact gb_Mod_operator_413 hX hk hT  h
              · replace h := ite_t h q61
                refine g_ldcw (pc := 406) (dd d_Mod_operator_3 35 rfl) c_Mod_341 ?_
                refine g_goto (pc := 409) (tgt := 413) (dd d_Mod_operator_3 36 rfl) (by decide) ?_
                refine g_drop [1, 2, 3] ?_
                exact gb_Mod_operator_413 hX hk hT  h
            · replace h := ite_f h q60
              refine g_ldcw (pc := 393) (dd d_Mod_operator_3 30 rfl) c_Mod_340 ?_
              refine g_goto (pc := 396) (tgt := 413) (dd d_Mod_operator_3 31 rfl) (by decide) ?_
              refine g_drop [1, 2, 3] ?_
              exact gb_Mod_operator_413 hX hk hT  h
def b_Mod_operator_238 (n : Nat) (J : JM)  (x1 : Int32) (x2 : Int32) (I : IM) : Option (Int32 × IM) := if x1 = (44 : Int32) then (if x2 = (760 : Int32) then (chk (inb ((I MO 29) - 1) 1000) <| lt (up I A_pile ((I MO 29) - 1 : Int32).toNatClampNeg (1060)) fun I43 => Option.bind (f_Mod_step n J I43) fun v44 => some (1, v44)) else (b_Mod_operator_271 n J  x1 x2 I)) else (b_Mod_operator_271 n J  x1 x2 I)
set_option maxRecDepth 20000 in
set_option maxHeartbeats 4000000 in
theorem gb_Mod_operator_238 {Δ : Dx} {X : Lx} (hX : MX Δ X)   {n : Nat} {Γ : Cx} (hk : Γ.k = 4) {r : Int32 × IM} (hT : Tg Δ Γ (some (.int r.1)) NN (r.2, X) 0 0)  {x1 : Int32} {x2 : Int32} {I : IM} (h : b_Mod_operator_238 n X.1  x1 x2 I = some r) : GG Δ m_Mod_operator Γ NN 0 0 (I, X) 238 [some (.ref (Δ.ba + MO)), some (.int (x1)), some (.int (x2)), none] [] := by
  unfold b_Mod_operator_238 at h
  refine g_iload_n (pc := 238) (dd d_Mod_operator_2 10 rfl) rfl ?_
  refine g_bipush (pc := 239) (v := 44) (dd d_Mod_operator_2 11 rfl) (by decide) ?_
  refine g_icmpne (pc := 241) (tgt := 271) (dd d_Mod_operator_2 12 rfl) (by decide) (fun q40 => ?_) (fun q40 => ?_)
  · replace h := ite_f h q40
    exact gb_Mod_operator_271 hX hk hT  h
  · replace h := ite_t h q40
    refine g_iload_n (pc := 244) (dd d_Mod_operator_2 13 rfl) rfl ?_
    refine g_sipush (pc := 245) (v := 760) (dd d_Mod_operator_2 14 rfl) (by decide) ?_
    refine g_icmpne (pc := 248) (tgt := 271) (dd d_Mod_operator_2 15 rfl) (by decide) (fun q41 => ?_) (fun q41 => ?_)
    · replace h := ite_f h q41
      exact gb_Mod_operator_271 hX hk hT  h
    · replace h := ite_t h q41
      refine g_aload_n (pc := 251) (dd d_Mod_operator_2 16 rfl) rfl ?_
      refine g_getr (pc := 252) (dd d_Mod_operator_2 17 rfl) f_Mod_50 ob_MO rfl (mr_pile hX) ?_
      refine g_aload_n (pc := 255) (dd d_Mod_operator_2 18 rfl) rfl ?_
      refine g_geti (pc := 256) (dd d_Mod_operator_2 19 rfl) f_Mod_298 ob_MO rfl ?_
      refine g_iconst (pc := 259) (v := 1) (dd d_Mod_operator_2 20 rfl) (by decide) ?_
      refine g_isub (pc := 260) (dd d_Mod_operator_2 21 rfl) ?_
      refine g_sipush (pc := 261) (v := 1060) (dd d_Mod_operator_2 22 rfl) (by decide) ?_
      obtain ⟨c42, h⟩ := chk_e h
      refine g_iastN (pc := 264) (dd d_Mod_operator_2 23 rfl) ar_A_pile c42 (fun I43 hI43 => ?_)
      replace h := lt_e h hI43
      refine g_aload_n (pc := 265) (dd d_Mod_operator_2 24 rfl) rfl ?_
      obtain ⟨v44, e45, h⟩ := bnd_e h
      refine g_callV (pc := 266) (dd d_Mod_operator_2 25 rfl) v_Mod_328 ob_MO rfl (ef_Mod_step hX e45) rfl (by rw [hk]; decide) (Nat.le_of_ble_eq_true rfl) ⟨Nat.zero_le _, Nat.zero_le _⟩ rfl ?_
      refine g_iconst (pc := 269) (v := 1) (dd d_Mod_operator_2 26 rfl) (by decide) ?_
      cases h
      exact g_iret (pc := 270) rfl (dd d_Mod_operator_2 27 rfl) hT
def f_Mod_operator (n : Nat) (J : JM) (I : IM) : Option (Int32 × IM) := Option.bind (f_Mod_isSum  ((I MO 10) - 400) I) fun v1 => if v1 = 0 then (if (I MO 10 : Int32) = (202 : Int32) then (b_Mod_operator_70 n J  ((I MO 10) - 400) I) else (if (I MO 10 : Int32) = (203 : Int32) then (b_Mod_operator_70 n J  ((I MO 10) - 400) I) else (if (I MO 10 : Int32) = (204 : Int32) then (b_Mod_operator_70 n J  ((I MO 10) - 400) I) else (if ((I MO 10) - 400 : Int32) = (60 : Int32) then (b_Mod_operator_70 n J  ((I MO 10) - 400) I) else (if ((I MO 10) - 400 : Int32) = (63 : Int32) then (Option.bind (f_Mod_endParts   I) fun v26 => Option.bind (f_Mod_push  63 (v26 MO 15) 1 v26) fun v28 => Option.bind (f_Mod_emit  303 0 v28) fun v30 => Option.bind (f_Mod_step n J v30) fun v32 => some (1, v32)) else (Option.bind (f_Mod_endExpression n  I) fun v9 => Option.bind (f_Mod_topOf   v9) fun v11 => if ((I MO 10) - 400 : Int32) = (58 : Int32) then (if v11 = (63 : Int32) then (chk (inb ((v9 MO 29) - 1) 1000) <| chk (inb (v9 A_pileAt ((v9 MO 29) - 1 : Int32).toNatClampNeg) 2000) <| lt (up v9 A_codeValue (v9 A_pileAt ((v9 MO 29) - 1 : Int32).toNatClampNeg : Int32).toNatClampNeg ((v9 MO 15) + 1)) fun I17 => chk (inb ((I17 MO 29) - 1) 1000) <| lt (up I17 A_pile ((I17 MO 29) - 1 : Int32).toNatClampNeg (58)) fun I19 => chk (inb ((I19 MO 29) - 1) 1000) <| lt (up I19 A_pileAt ((I19 MO 29) - 1 : Int32).toNatClampNeg (I19 MO 15)) fun I21 => Option.bind (f_Mod_emit  302 0 I21) fun v22 => Option.bind (f_Mod_step n J v22) fun v24 => some (1, v24)) else (b_Mod_operator_238 n J  ((I MO 10) - 400) v11 v9)) else (b_Mod_operator_238 n J  ((I MO 10) - 400) v11 v9))))))) else (Option.bind (f_Mod_endSum   I) fun v34 => Option.bind (f_Mod_push  ((I MO 10) - 400) 0 0 v34) fun v36 => Option.bind (f_Mod_step n J v36) fun v38 => some (1, v38))
set_option maxRecDepth 20000 in
set_option maxHeartbeats 4000000 in
theorem ef_Mod_operator {Δ : Dx} {X : Lx} (hX : MX Δ X) {n : Nat}  {I : IM}  {r : Int32 × IM} (h : f_Mod_operator n X.1 I = some r) : Ev Δ 4 m_Mod_operator [.ref (Δ.ba + MO)] (I, X) (some (.int r.1)) (r.2, X) := by
  refine ev_of (by decide) (Nat.le_of_ble_eq_true rfl) (fun Γ hk hR hT => ?_)
  change GG Δ m_Mod_operator Γ NN 0 0 (I, X) 0 [some (.ref (Δ.ba + MO)), none, none, none] []
  unfold f_Mod_operator at h
  refine g_aload_n (pc := 0) (dd d_Mod_operator 0 rfl) rfl ?_
  refine g_geti (pc := 1) (dd d_Mod_operator 1 rfl) f_Mod_270 ob_MO rfl ?_
  refine g_sipush (pc := 4) (v := 400) (dd d_Mod_operator 2 rfl) (by decide) ?_
  refine g_isub (pc := 7) (dd d_Mod_operator 3 rfl) ?_
  refine g_istore_n (pc := 8) (dd d_Mod_operator 4 rfl) (by decide) ?_
  refine g_aload_n (pc := 9) (dd d_Mod_operator 5 rfl) rfl ?_
  refine g_iload_n (pc := 10) (dd d_Mod_operator 6 rfl) rfl ?_
  obtain ⟨v1, e2, h⟩ := bnd_e h
  refine g_callV (pc := 11) (dd d_Mod_operator 7 rfl) v_Mod_312 ob_MO rfl (ef_Mod_isSum hX e2) rfl (by rw [hk]; decide) (Nat.le_of_ble_eq_true rfl) ⟨Nat.zero_le _, Nat.zero_le _⟩ rfl ?_
  refine g_ifeq (pc := 14) (tgt := 34) (dd d_Mod_operator 8 rfl) (by decide) (fun q3 => ?_) (fun q3 => ?_)
  · replace h := ite_t h q3
    refine g_aload_n (pc := 34) (dd d_Mod_operator 20 rfl) rfl ?_
    refine g_geti (pc := 35) (dd d_Mod_operator 21 rfl) f_Mod_270 ob_MO rfl ?_
    refine g_sipush (pc := 38) (v := 202) (dd d_Mod_operator 22 rfl) (by decide) ?_
    refine g_icmpeq (pc := 41) (tgt := 70) (dd d_Mod_operator 23 rfl) (by decide) (fun q4 => ?_) (fun q4 => ?_)
    · replace h := ite_t h q4
      exact gb_Mod_operator_70 hX hk hT  h
    · replace h := ite_f h q4
      refine g_aload_n (pc := 44) (dd d_Mod_operator 24 rfl) rfl ?_
      refine g_geti (pc := 45) (dd d_Mod_operator 25 rfl) f_Mod_270 ob_MO rfl ?_
      refine g_sipush (pc := 48) (v := 203) (dd d_Mod_operator 26 rfl) (by decide) ?_
      refine g_icmpeq (pc := 51) (tgt := 70) (dd d_Mod_operator 27 rfl) (by decide) (fun q5 => ?_) (fun q5 => ?_)
      · replace h := ite_t h q5
        exact gb_Mod_operator_70 hX hk hT  h
      · replace h := ite_f h q5
        refine g_aload_n (pc := 54) (dd d_Mod_operator 28 rfl) rfl ?_
        refine g_geti (pc := 55) (dd d_Mod_operator 29 rfl) f_Mod_270 ob_MO rfl ?_
        refine g_sipush (pc := 58) (v := 204) (dd d_Mod_operator 30 rfl) (by decide) ?_
        refine g_icmpeq (pc := 61) (tgt := 70) (dd d_Mod_operator 31 rfl) (by decide) (fun q6 => ?_) (fun q6 => ?_)
        · replace h := ite_t h q6
          exact gb_Mod_operator_70 hX hk hT  h
        · replace h := ite_f h q6
          refine g_iload_n (pc := 64) (dd d_Mod_operator 32 rfl) rfl ?_
          refine g_bipush (pc := 65) (v := 60) (dd d_Mod_operator 33 rfl) (by decide) ?_
          refine g_icmpne (pc := 67) (tgt := 118) (dd d_Mod_operator 34 rfl) (by decide) (fun q7 => ?_) (fun q7 => ?_)
          · replace h := ite_f h q7
            refine g_iload_n (pc := 118) (dd d_Mod_operator_1 1 rfl) rfl ?_
            refine g_bipush (pc := 119) (v := 63) (dd d_Mod_operator_1 2 rfl) (by decide) ?_
            refine g_icmpne (pc := 121) (tgt := 153) (dd d_Mod_operator_1 3 rfl) (by decide) (fun q8 => ?_) (fun q8 => ?_)
            · replace h := ite_f h q8
              refine g_aload_n (pc := 153) (dd d_Mod_operator_1 20 rfl) rfl ?_
              obtain ⟨v9, e10, h⟩ := bnd_e h
              refine g_callV (pc := 154) (dd d_Mod_operator_1 21 rfl) v_Mod_337 ob_MO rfl (ef_Mod_endExpression hX e10) rfl (by rw [hk]; decide) (Nat.le_of_ble_eq_true rfl) ⟨Nat.zero_le _, Nat.zero_le _⟩ rfl ?_
              refine g_aload_n (pc := 157) (dd d_Mod_operator_1 22 rfl) rfl ?_
              obtain ⟨v11, e12, h⟩ := bnd_e h
              refine g_callV (pc := 158) (dd d_Mod_operator_1 23 rfl) v_Mod_301 ob_MO rfl (ef_Mod_topOf hX e12) rfl (by rw [hk]; decide) (Nat.le_of_ble_eq_true rfl) ⟨Nat.zero_le _, Nat.zero_le _⟩ rfl ?_
              refine g_istore_n (pc := 161) (dd d_Mod_operator_1 24 rfl) (by decide) ?_
              refine g_iload_n (pc := 162) (dd d_Mod_operator_1 25 rfl) rfl ?_
              refine g_bipush (pc := 163) (v := 58) (dd d_Mod_operator_1 26 rfl) (by decide) ?_
              refine g_icmpne (pc := 165) (tgt := 238) (dd d_Mod_operator_1 27 rfl) (by decide) (fun q13 => ?_) (fun q13 => ?_)
              · replace h := ite_f h q13
                exact gb_Mod_operator_238 hX hk hT  h
              · replace h := ite_t h q13
                refine g_iload_n (pc := 168) (dd d_Mod_operator_1 28 rfl) rfl ?_
                refine g_bipush (pc := 169) (v := 63) (dd d_Mod_operator_1 29 rfl) (by decide) ?_
                refine g_icmpne (pc := 171) (tgt := 238) (dd d_Mod_operator_1 30 rfl) (by decide) (fun q14 => ?_) (fun q14 => ?_)
                · replace h := ite_f h q14
                  exact gb_Mod_operator_238 hX hk hT  h
                · replace h := ite_t h q14
                  refine g_aload_n (pc := 174) (dd d_Mod_operator_1 31 rfl) rfl ?_
                  refine g_getr (pc := 175) (dd d_Mod_operator_1 32 rfl) f_Mod_23 ob_MO rfl (mr_codeValue hX) ?_
                  refine g_aload_n (pc := 178) (dd d_Mod_operator_1 33 rfl) rfl ?_
                  refine g_getr (pc := 179) (dd d_Mod_operator_1 34 rfl) f_Mod_53 ob_MO rfl (mr_pileAt hX) ?_
                  refine g_aload_n (pc := 182) (dd d_Mod_operator_1 35 rfl) rfl ?_
                  refine g_geti (pc := 183) (dd d_Mod_operator_1 36 rfl) f_Mod_298 ob_MO rfl ?_
                  refine g_iconst (pc := 186) (v := 1) (dd d_Mod_operator_1 37 rfl) (by decide) ?_
                  refine g_isub (pc := 187) (dd d_Mod_operator_1 38 rfl) ?_
                  obtain ⟨c15, h⟩ := chk_e h
                  refine g_iald (pc := 188) (dd d_Mod_operator_1 39 rfl) ar_A_pileAt c15 ?_
                  refine g_aload_n (pc := 189) (dd d_Mod_operator_1 40 rfl) rfl ?_
                  refine g_geti (pc := 190) (dd d_Mod_operator_1 41 rfl) f_Mod_292 ob_MO rfl ?_
                  refine g_iconst (pc := 193) (v := 1) (dd d_Mod_operator_1 42 rfl) (by decide) ?_
                  refine g_iadd (pc := 194) (dd d_Mod_operator_1 43 rfl) ?_
                  obtain ⟨c16, h⟩ := chk_e h
                  refine g_iastN (pc := 195) (dd d_Mod_operator_1 44 rfl) ar_A_codeValue c16 (fun I17 hI17 => ?_)
                  replace h := lt_e h hI17
                  refine g_aload_n (pc := 196) (dd d_Mod_operator_1 45 rfl) rfl ?_
                  refine g_getr (pc := 197) (dd d_Mod_operator_1 46 rfl) f_Mod_50 ob_MO rfl (mr_pile hX) ?_
                  refine g_aload_n (pc := 200) (dd d_Mod_operator_1 47 rfl) rfl ?_
                  refine g_geti (pc := 201) (dd d_Mod_operator_1 48 rfl) f_Mod_298 ob_MO rfl ?_
                  refine g_iconst (pc := 204) (v := 1) (dd d_Mod_operator_1 49 rfl) (by decide) ?_
                  refine g_isub (pc := 205) (dd d_Mod_operator_1 50 rfl) ?_
                  refine g_bipush (pc := 206) (v := 58) (dd d_Mod_operator_1 51 rfl) (by decide) ?_
                  obtain ⟨c18, h⟩ := chk_e h
                  refine g_iastN (pc := 208) (dd d_Mod_operator_1 52 rfl) ar_A_pile c18 (fun I19 hI19 => ?_)
                  replace h := lt_e h hI19
                  refine g_aload_n (pc := 209) (dd d_Mod_operator_1 53 rfl) rfl ?_
                  refine g_getr (pc := 210) (dd d_Mod_operator_1 54 rfl) f_Mod_53 ob_MO rfl (mr_pileAt hX) ?_
                  refine g_aload_n (pc := 213) (dd d_Mod_operator_1 55 rfl) rfl ?_
                  refine g_geti (pc := 214) (dd d_Mod_operator_1 56 rfl) f_Mod_298 ob_MO rfl ?_
                  refine g_iconst (pc := 217) (v := 1) (dd d_Mod_operator_1 57 rfl) (by decide) ?_
                  refine g_isub (pc := 218) (dd d_Mod_operator_1 58 rfl) ?_
                  refine g_aload_n (pc := 219) (dd d_Mod_operator_1 59 rfl) rfl ?_
                  refine g_geti (pc := 220) (dd d_Mod_operator_2 0 rfl) f_Mod_292 ob_MO rfl ?_
                  obtain ⟨c20, h⟩ := chk_e h
                  refine g_iastN (pc := 223) (dd d_Mod_operator_2 1 rfl) ar_A_pileAt c20 (fun I21 hI21 => ?_)
                  replace h := lt_e h hI21
                  refine g_aload_n (pc := 224) (dd d_Mod_operator_2 2 rfl) rfl ?_
                  refine g_sipush (pc := 225) (v := 302) (dd d_Mod_operator_2 3 rfl) (by decide) ?_
                  refine g_iconst (pc := 228) (v := 0) (dd d_Mod_operator_2 4 rfl) (by decide) ?_
                  obtain ⟨v22, e23, h⟩ := bnd_e h
                  refine g_callV (pc := 229) (dd d_Mod_operator_2 5 rfl) v_Mod_308 ob_MO rfl (ef_Mod_emit hX e23) rfl (by rw [hk]; decide) (Nat.le_of_ble_eq_true rfl) ⟨Nat.zero_le _, Nat.zero_le _⟩ rfl ?_
                  refine g_aload_n (pc := 232) (dd d_Mod_operator_2 6 rfl) rfl ?_
                  obtain ⟨v24, e25, h⟩ := bnd_e h
                  refine g_callV (pc := 233) (dd d_Mod_operator_2 7 rfl) v_Mod_328 ob_MO rfl (ef_Mod_step hX e25) rfl (by rw [hk]; decide) (Nat.le_of_ble_eq_true rfl) ⟨Nat.zero_le _, Nat.zero_le _⟩ rfl ?_
                  refine g_iconst (pc := 236) (v := 1) (dd d_Mod_operator_2 8 rfl) (by decide) ?_
                  cases h
                  exact g_iret (pc := 237) rfl (dd d_Mod_operator_2 9 rfl) hT
            · replace h := ite_t h q8
              refine g_aload_n (pc := 124) (dd d_Mod_operator_1 4 rfl) rfl ?_
              obtain ⟨v26, e27, h⟩ := bnd_e h
              refine g_callV (pc := 125) (dd d_Mod_operator_1 5 rfl) v_Mod_321 ob_MO rfl (ef_Mod_endParts hX e27) rfl (by rw [hk]; decide) (Nat.le_of_ble_eq_true rfl) ⟨Nat.zero_le _, Nat.zero_le _⟩ rfl ?_
              refine g_aload_n (pc := 128) (dd d_Mod_operator_1 6 rfl) rfl ?_
              refine g_bipush (pc := 129) (v := 63) (dd d_Mod_operator_1 7 rfl) (by decide) ?_
              refine g_aload_n (pc := 131) (dd d_Mod_operator_1 8 rfl) rfl ?_
              refine g_geti (pc := 132) (dd d_Mod_operator_1 9 rfl) f_Mod_292 ob_MO rfl ?_
              refine g_iconst (pc := 135) (v := 1) (dd d_Mod_operator_1 10 rfl) (by decide) ?_
              obtain ⟨v28, e29, h⟩ := bnd_e h
              refine g_callV (pc := 136) (dd d_Mod_operator_1 11 rfl) v_Mod_324 ob_MO rfl (ef_Mod_push hX e29) rfl (by rw [hk]; decide) (Nat.le_of_ble_eq_true rfl) ⟨Nat.zero_le _, Nat.zero_le _⟩ rfl ?_
              refine g_aload_n (pc := 139) (dd d_Mod_operator_1 12 rfl) rfl ?_
              refine g_sipush (pc := 140) (v := 303) (dd d_Mod_operator_1 13 rfl) (by decide) ?_
              refine g_iconst (pc := 143) (v := 0) (dd d_Mod_operator_1 14 rfl) (by decide) ?_
              obtain ⟨v30, e31, h⟩ := bnd_e h
              refine g_callV (pc := 144) (dd d_Mod_operator_1 15 rfl) v_Mod_308 ob_MO rfl (ef_Mod_emit hX e31) rfl (by rw [hk]; decide) (Nat.le_of_ble_eq_true rfl) ⟨Nat.zero_le _, Nat.zero_le _⟩ rfl ?_
              refine g_aload_n (pc := 147) (dd d_Mod_operator_1 16 rfl) rfl ?_
              obtain ⟨v32, e33, h⟩ := bnd_e h
              refine g_callV (pc := 148) (dd d_Mod_operator_1 17 rfl) v_Mod_328 ob_MO rfl (ef_Mod_step hX e33) rfl (by rw [hk]; decide) (Nat.le_of_ble_eq_true rfl) ⟨Nat.zero_le _, Nat.zero_le _⟩ rfl ?_
              refine g_iconst (pc := 151) (v := 1) (dd d_Mod_operator_1 18 rfl) (by decide) ?_
              cases h
              exact g_iret (pc := 152) rfl (dd d_Mod_operator_1 19 rfl) hT
          · replace h := ite_t h q7
            exact gb_Mod_operator_70 hX hk hT  h
  · replace h := ite_f h q3
    refine g_aload_n (pc := 17) (dd d_Mod_operator 9 rfl) rfl ?_
    obtain ⟨v34, e35, h⟩ := bnd_e h
    refine g_callV (pc := 18) (dd d_Mod_operator 10 rfl) v_Mod_315 ob_MO rfl (ef_Mod_endSum hX e35) rfl (by rw [hk]; decide) (Nat.le_of_ble_eq_true rfl) ⟨Nat.zero_le _, Nat.zero_le _⟩ rfl ?_
    refine g_aload_n (pc := 21) (dd d_Mod_operator 11 rfl) rfl ?_
    refine g_iload_n (pc := 22) (dd d_Mod_operator 12 rfl) rfl ?_
    refine g_iconst (pc := 23) (v := 0) (dd d_Mod_operator 13 rfl) (by decide) ?_
    refine g_iconst (pc := 24) (v := 0) (dd d_Mod_operator 14 rfl) (by decide) ?_
    obtain ⟨v36, e37, h⟩ := bnd_e h
    refine g_callV (pc := 25) (dd d_Mod_operator 15 rfl) v_Mod_324 ob_MO rfl (ef_Mod_push hX e37) rfl (by rw [hk]; decide) (Nat.le_of_ble_eq_true rfl) ⟨Nat.zero_le _, Nat.zero_le _⟩ rfl ?_
    refine g_aload_n (pc := 28) (dd d_Mod_operator 16 rfl) rfl ?_
    obtain ⟨v38, e39, h⟩ := bnd_e h
    refine g_callV (pc := 29) (dd d_Mod_operator 17 rfl) v_Mod_328 ob_MO rfl (ef_Mod_step hX e39) rfl (by rw [hk]; decide) (Nat.le_of_ble_eq_true rfl) ⟨Nat.zero_le _, Nat.zero_le _⟩ rfl ?_
    refine g_iconst (pc := 32) (v := 1) (dd d_Mod_operator 18 rfl) (by decide) ?_
    cases h
    exact g_iret (pc := 33) rfl (dd d_Mod_operator 19 rfl) hT
def b_Mod_expression_52 (n : Nat) (J : JM)   (I : IM) : Option (IM) := some I
set_option maxRecDepth 20000 in
set_option maxHeartbeats 4000000 in
theorem gb_Mod_expression_52 {Δ : Dx} {X : Lx} (hX : MX Δ X)   {n : Nat} {Γ : Cx} (hk : Γ.k = 5) {r : IM} (hT : Tg Δ Γ none NN (r, X) 0 0)   {I : IM} (h : b_Mod_expression_52 n X.1   I = some r) : GG Δ m_Mod_expression Γ NN 0 0 (I, X) 52 [none, none] [] := by
  unfold b_Mod_expression_52 at h
  cases h
  exact g_vret (pc := 52) rfl (dd d_Mod_expression 28 rfl) hT
def l_Mod_expression_12 (n : Nat) (J : JM)  : Nat → Int32 → IM → Option (IM)
  | 0, _, _ => none
  | f + 1, x1, I => if x1 ≤ 0 then (b_Mod_expression_52 n J  I) else (if 0 ≤ (I MO 14 : Int32) then (b_Mod_expression_52 n J  I) else (if x1 = (1 : Int32) then (Option.bind (f_Mod_operand n J I) fun v8 => (l_Mod_expression_12 n J  f) (if (v8.1 : Int32) = 0 then 2 else 1) v8.2) else (Option.bind (f_Mod_operator n J I) fun v6 => (l_Mod_expression_12 n J  f) v6.1 v6.2)))
set_option maxRecDepth 20000 in
set_option maxHeartbeats 4000000 in
theorem gl_Mod_expression_12 {Δ : Dx} {X : Lx} (hX : MX Δ X)   {n : Nat} {Γ : Cx} (hk : Γ.k = 5) {r : IM} (hT : Tg Δ Γ none NN (r, X) 0 0)  : ∀ (f : Nat) (x1 : Int32) (I : IM), l_Mod_expression_12 n X.1  f x1 I = some r → GG Δ m_Mod_expression Γ NN 0 0 (I, X) 12 [some (.ref (Δ.ba + MO)), some (.int (x1))] []
  | 0, _, _, h => by cases h
  | f + 1, x1, I, h => by
    have ih := gl_Mod_expression_12 (n := n) hX hk hT  f
    rw [l_Mod_expression_12] at h
    refine g_iload_n (pc := 12) (dd d_Mod_expression 8 rfl) rfl ?_
    refine g_ifle (pc := 13) (tgt := 52) (dd d_Mod_expression 9 rfl) (by decide) (fun q3 => ?_) (fun q3 => ?_)
    · replace h := ite_t h q3
      refine g_drop [0, 1] ?_
      exact gb_Mod_expression_52 hX hk hT  h
    · replace h := ite_f h q3
      refine g_aload_n (pc := 16) (dd d_Mod_expression 10 rfl) rfl ?_
      refine g_geti (pc := 17) (dd d_Mod_expression 11 rfl) f_Mod_280 ob_MO rfl ?_
      refine g_ifge (pc := 20) (tgt := 52) (dd d_Mod_expression 12 rfl) (by decide) (fun q4 => ?_) (fun q4 => ?_)
      · replace h := ite_t h q4
        refine g_drop [0, 1] ?_
        exact gb_Mod_expression_52 hX hk hT  h
      · replace h := ite_f h q4
        refine g_iload_n (pc := 23) (dd d_Mod_expression 13 rfl) rfl ?_
        refine g_iconst (pc := 24) (v := 1) (dd d_Mod_expression 14 rfl) (by decide) ?_
        refine g_icmpne (pc := 25) (tgt := 44) (dd d_Mod_expression 15 rfl) (by decide) (fun q5 => ?_) (fun q5 => ?_)
        · replace h := ite_f h q5
          refine g_aload_n (pc := 44) (dd d_Mod_expression 24 rfl) rfl ?_
          obtain ⟨v6, e7, h⟩ := bnd_e h
          refine g_callV (pc := 45) (dd d_Mod_expression 25 rfl) v_Mod_346 ob_MO rfl (ef_Mod_operator hX e7) rfl (by rw [hk]; decide) (Nat.le_of_ble_eq_true rfl) ⟨Nat.zero_le _, Nat.zero_le _⟩ rfl ?_
          refine g_istore_n (pc := 48) (dd d_Mod_expression 26 rfl) (by decide) ?_
          refine g_goto (pc := 49) (tgt := 12) (dd d_Mod_expression 27 rfl) (by decide) ?_
          exact ih _ _ h
        · replace h := ite_t h q5
          refine g_aload_n (pc := 28) (dd d_Mod_expression 16 rfl) rfl ?_
          obtain ⟨v8, e9, h⟩ := bnd_e h
          refine g_callV (pc := 29) (dd d_Mod_expression 17 rfl) v_Mod_342 ob_MO rfl (ef_Mod_operand hX e9) rfl (by rw [hk]; decide) (Nat.le_of_ble_eq_true rfl) ⟨Nat.zero_le _, Nat.zero_le _⟩ rfl ?_
          suffices K32 : ∀ z : Int32, z = (if (v8.1 : Int32) = 0 then 2 else 1 : Int32) → GG Δ m_Mod_expression Γ NN 0 0 (v8.2, X) 40 [some (.ref (Δ.ba + MO)), some (.int (x1))] [.int (z)] by
            refine g_ifeq (pc := 32) (tgt := 39) (dd d_Mod_expression 18 rfl) (by decide) (fun q10 => ?_) (fun q10 => ?_)
            · skip
              refine g_iconst (pc := 39) (v := 2) (dd d_Mod_expression 21 rfl) (by decide) ?_
              exact K32 _ (by rw [if_pos q10])
            · skip
              refine g_iconst (pc := 35) (v := 1) (dd d_Mod_expression 19 rfl) (by decide) ?_
              refine g_goto (pc := 36) (tgt := 40) (dd d_Mod_expression 20 rfl) (by decide) ?_
              exact K32 _ (by rw [if_neg q10])
          intro z hz
          subst hz
          refine g_istore_n (pc := 40) (dd d_Mod_expression 22 rfl) (by decide) ?_
          refine g_goto (pc := 41) (tgt := 12) (dd d_Mod_expression 23 rfl) (by decide) ?_
          exact ih _ _ h
def f_Mod_expression (n : Nat) (J : JM) (I : IM) : Option (IM) := lt (up I MO 29 (0)) fun I1 => lt (up I1 MO 28 (0)) fun I2 => l_Mod_expression_12 n J  n 1 I2
set_option maxRecDepth 20000 in
set_option maxHeartbeats 4000000 in
theorem ef_Mod_expression {Δ : Dx} {X : Lx} (hX : MX Δ X) {n : Nat}  {I : IM}  {r : IM} (h : f_Mod_expression n X.1 I = some r) : Ev Δ 5 m_Mod_expression [.ref (Δ.ba + MO)] (I, X) none (r, X) := by
  refine ev_of (by decide) (Nat.le_of_ble_eq_true rfl) (fun Γ hk hR hT => ?_)
  change GG Δ m_Mod_expression Γ NN 0 0 (I, X) 0 [some (.ref (Δ.ba + MO)), none] []
  unfold f_Mod_expression at h
  refine g_aload_n (pc := 0) (dd d_Mod_expression 0 rfl) rfl ?_
  refine g_iconst (pc := 1) (v := 0) (dd d_Mod_expression 1 rfl) (by decide) ?_
  refine g_putiN (pc := 2) (dd d_Mod_expression 2 rfl) f_Mod_298 fm_Mod_29 ob_MO rfl (fun I1 hI1 => ?_)
  replace h := lt_e h hI1
  refine g_aload_n (pc := 5) (dd d_Mod_expression 3 rfl) rfl ?_
  refine g_iconst (pc := 6) (v := 0) (dd d_Mod_expression 4 rfl) (by decide) ?_
  refine g_putiN (pc := 7) (dd d_Mod_expression 5 rfl) f_Mod_295 fm_Mod_28 ob_MO rfl (fun I2 hI2 => ?_)
  replace h := lt_e h hI2
  refine g_iconst (pc := 10) (v := 1) (dd d_Mod_expression 6 rfl) (by decide) ?_
  refine g_istore_n (pc := 11) (dd d_Mod_expression 7 rfl) (by decide) ?_
  exact gl_Mod_expression_12 hX hk hT  _ _ _ h
def b_Mod_statement_34 (n : Nat) (J : JM)   (I : IM) : Option (IM) := Option.bind (f_Mod_fail   I) fun v25 => some v25
set_option maxRecDepth 20000 in
set_option maxHeartbeats 4000000 in
theorem gb_Mod_statement_34 {Δ : Dx} {X : Lx} (hX : MX Δ X)   {n : Nat} {Γ : Cx} (hk : Γ.k = 6) {r : IM} (hT : Tg Δ Γ none NN (r, X) 0 0)   {I : IM} (h : b_Mod_statement_34 n X.1   I = some r) : GG Δ m_Mod_statement Γ NN 0 0 (I, X) 34 [some (.ref (Δ.ba + MO)), none, none] [] := by
  unfold b_Mod_statement_34 at h
  refine g_aload_n (pc := 34) (dd d_Mod_statement 20 rfl) rfl ?_
  obtain ⟨v25, e26, h⟩ := bnd_e h
  refine g_callV (pc := 35) (dd d_Mod_statement 21 rfl) v_Mod_286 ob_MO rfl (ef_Mod_fail hX e26) rfl (by rw [hk]; decide) (Nat.le_of_ble_eq_true rfl) ⟨Nat.zero_le _, Nat.zero_le _⟩ rfl ?_
  cases h
  exact g_vret (pc := 38) rfl (dd d_Mod_statement 22 rfl) hT
def b_Mod_statement_102 (n : Nat) (J : JM)   (I : IM) : Option (IM) := Option.bind (f_Mod_need n J 59 I) fun v20 => chk (inb (v20 MO 18) 600) <| lt (up v20 A_statementTo (v20 MO 18 : Int32).toNatClampNeg (v20 MO 15)) fun I23 => lt (up I23 MO 18 ((I23 MO 18) + 1)) fun I24 => some I24
set_option maxRecDepth 20000 in
set_option maxHeartbeats 4000000 in
theorem gb_Mod_statement_102 {Δ : Dx} {X : Lx} (hX : MX Δ X)   {n : Nat} {Γ : Cx} (hk : Γ.k = 6) {r : IM} (hT : Tg Δ Γ none NN (r, X) 0 0)   {I : IM} (h : b_Mod_statement_102 n X.1   I = some r) : GG Δ m_Mod_statement Γ NN 0 0 (I, X) 102 [some (.ref (Δ.ba + MO)), none, none] [] := by
  unfold b_Mod_statement_102 at h
  refine g_aload_n (pc := 102) (dd d_Mod_statement 56 rfl) rfl ?_
  refine g_bipush (pc := 103) (v := 59) (dd d_Mod_statement 57 rfl) (by decide) ?_
  obtain ⟨v20, e21, h⟩ := bnd_e h
  refine g_callV (pc := 105) (dd d_Mod_statement 58 rfl) v_Mod_352 ob_MO rfl (ef_Mod_need hX e21) rfl (by rw [hk]; decide) (Nat.le_of_ble_eq_true rfl) ⟨Nat.zero_le _, Nat.zero_le _⟩ rfl ?_
  refine g_aload_n (pc := 108) (dd d_Mod_statement 59 rfl) rfl ?_
  refine g_getr (pc := 109) (dd d_Mod_statement_1 0 rfl) f_Mod_35 ob_MO rfl (mr_statementTo hX) ?_
  refine g_aload_n (pc := 112) (dd d_Mod_statement_1 1 rfl) rfl ?_
  refine g_geti (pc := 113) (dd d_Mod_statement_1 2 rfl) f_Mod_349 ob_MO rfl ?_
  refine g_aload_n (pc := 116) (dd d_Mod_statement_1 3 rfl) rfl ?_
  refine g_geti (pc := 117) (dd d_Mod_statement_1 4 rfl) f_Mod_292 ob_MO rfl ?_
  obtain ⟨c22, h⟩ := chk_e h
  refine g_iastN (pc := 120) (dd d_Mod_statement_1 5 rfl) ar_A_statementTo c22 (fun I23 hI23 => ?_)
  replace h := lt_e h hI23
  refine g_aload_n (pc := 121) (dd d_Mod_statement_1 6 rfl) rfl ?_
  refine g_dup (pc := 122) (dd d_Mod_statement_1 7 rfl) rfl ?_
  refine g_geti (pc := 123) (dd d_Mod_statement_1 8 rfl) f_Mod_349 ob_MO rfl ?_
  refine g_iconst (pc := 126) (v := 1) (dd d_Mod_statement_1 9 rfl) (by decide) ?_
  refine g_iadd (pc := 127) (dd d_Mod_statement_1 10 rfl) ?_
  refine g_putiN (pc := 128) (dd d_Mod_statement_1 11 rfl) f_Mod_349 fm_Mod_18 ob_MO rfl (fun I24 hI24 => ?_)
  replace h := lt_e h hI24
  cases h
  exact g_vret (pc := 131) rfl (dd d_Mod_statement_1 12 rfl) hT
def b_Mod_statement_91 (n : Nat) (J : JM)   (I : IM) : Option (IM) := if 0 ≤ (I MO 14 : Int32) then (b_Mod_statement_102 n J  I) else (Option.bind (f_Mod_expression n J I) fun v18 => b_Mod_statement_102 n J  v18)
set_option maxRecDepth 20000 in
set_option maxHeartbeats 4000000 in
theorem gb_Mod_statement_91 {Δ : Dx} {X : Lx} (hX : MX Δ X)   {n : Nat} {Γ : Cx} (hk : Γ.k = 6) {r : IM} (hT : Tg Δ Γ none NN (r, X) 0 0)   {I : IM} (h : b_Mod_statement_91 n X.1   I = some r) : GG Δ m_Mod_statement Γ NN 0 0 (I, X) 91 [some (.ref (Δ.ba + MO)), none, none] [] := by
  unfold b_Mod_statement_91 at h
  refine g_aload_n (pc := 91) (dd d_Mod_statement 51 rfl) rfl ?_
  refine g_geti (pc := 92) (dd d_Mod_statement 52 rfl) f_Mod_280 ob_MO rfl ?_
  refine g_ifge (pc := 95) (tgt := 102) (dd d_Mod_statement 53 rfl) (by decide) (fun q17 => ?_) (fun q17 => ?_)
  · replace h := ite_t h q17
    exact gb_Mod_statement_102 hX hk hT  h
  · replace h := ite_f h q17
    refine g_aload_n (pc := 98) (dd d_Mod_statement 54 rfl) rfl ?_
    obtain ⟨v18, e19, h⟩ := bnd_e h
    refine g_callV (pc := 99) (dd d_Mod_statement 55 rfl) v_Mod_355 ob_MO rfl (ef_Mod_expression hX e19) rfl (by rw [hk]; decide) (Nat.le_of_ble_eq_true rfl) ⟨Nat.zero_le _, Nat.zero_le _⟩ rfl ?_
    exact gb_Mod_statement_102 hX hk hT  h
def b_Mod_statement_39 (n : Nat) (J : JM)  (x2 : Int32) (I : IM) : Option (IM) := chk (inb (I MO 18) 600) <| lt (up I A_statementKind (I MO 18 : Int32).toNatClampNeg (x2)) fun I7 => chk (inb (I7 MO 18) 300) <| lt (up I7 A_statementAt (I7 MO 18 : Int32).toNatClampNeg (I7 MO 12)) fun I9 => chk (inb (I9 MO 18) 600) <| lt (up I9 A_statementFrom (I9 MO 18 : Int32).toNatClampNeg (I9 MO 15)) fun I11 => Option.bind (f_Mod_advance n J I11) fun v12 => if x2 ≤ (50 : Int32) then (b_Mod_statement_91 n J  v12) else (Option.bind (f_Mod_need n J 61 v12) fun v15 => b_Mod_statement_91 n J  v15)
set_option maxRecDepth 20000 in
set_option maxHeartbeats 4000000 in
theorem gb_Mod_statement_39 {Δ : Dx} {X : Lx} (hX : MX Δ X)   {n : Nat} {Γ : Cx} (hk : Γ.k = 6) {r : IM} (hT : Tg Δ Γ none NN (r, X) 0 0)  {x2 : Int32} {I : IM} (h : b_Mod_statement_39 n X.1  x2 I = some r) : GG Δ m_Mod_statement Γ NN 0 0 (I, X) 39 [some (.ref (Δ.ba + MO)), none, some (.int (x2))] [] := by
  unfold b_Mod_statement_39 at h
  refine g_aload_n (pc := 39) (dd d_Mod_statement 23 rfl) rfl ?_
  refine g_getr (pc := 40) (dd d_Mod_statement 24 rfl) f_Mod_26 ob_MO rfl (mr_statementKind hX) ?_
  refine g_aload_n (pc := 43) (dd d_Mod_statement 25 rfl) rfl ?_
  refine g_geti (pc := 44) (dd d_Mod_statement 26 rfl) f_Mod_349 ob_MO rfl ?_
  refine g_iload_n (pc := 47) (dd d_Mod_statement 27 rfl) rfl ?_
  obtain ⟨c6, h⟩ := chk_e h
  refine g_iastN (pc := 48) (dd d_Mod_statement 28 rfl) ar_A_statementKind c6 (fun I7 hI7 => ?_)
  replace h := lt_e h hI7
  refine g_aload_n (pc := 49) (dd d_Mod_statement 29 rfl) rfl ?_
  refine g_getr (pc := 50) (dd d_Mod_statement 30 rfl) f_Mod_29 ob_MO rfl (mr_statementAt hX) ?_
  refine g_aload_n (pc := 53) (dd d_Mod_statement 31 rfl) rfl ?_
  refine g_geti (pc := 54) (dd d_Mod_statement 32 rfl) f_Mod_349 ob_MO rfl ?_
  refine g_aload_n (pc := 57) (dd d_Mod_statement 33 rfl) rfl ?_
  refine g_geti (pc := 58) (dd d_Mod_statement 34 rfl) f_Mod_263 ob_MO rfl ?_
  obtain ⟨c8, h⟩ := chk_e h
  refine g_iastN (pc := 61) (dd d_Mod_statement 35 rfl) ar_A_statementAt c8 (fun I9 hI9 => ?_)
  replace h := lt_e h hI9
  refine g_aload_n (pc := 62) (dd d_Mod_statement 36 rfl) rfl ?_
  refine g_getr (pc := 63) (dd d_Mod_statement 37 rfl) f_Mod_32 ob_MO rfl (mr_statementFrom hX) ?_
  refine g_aload_n (pc := 66) (dd d_Mod_statement 38 rfl) rfl ?_
  refine g_geti (pc := 67) (dd d_Mod_statement 39 rfl) f_Mod_349 ob_MO rfl ?_
  refine g_aload_n (pc := 70) (dd d_Mod_statement 40 rfl) rfl ?_
  refine g_geti (pc := 71) (dd d_Mod_statement 41 rfl) f_Mod_292 ob_MO rfl ?_
  obtain ⟨c10, h⟩ := chk_e h
  refine g_iastN (pc := 74) (dd d_Mod_statement 42 rfl) ar_A_statementFrom c10 (fun I11 hI11 => ?_)
  replace h := lt_e h hI11
  refine g_aload_n (pc := 75) (dd d_Mod_statement 43 rfl) rfl ?_
  obtain ⟨v12, e13, h⟩ := bnd_e h
  refine g_callV (pc := 76) (dd d_Mod_statement 44 rfl) v_Mod_289 ob_MO rfl (ef_Mod_advance hX e13) rfl (by rw [hk]; decide) (Nat.le_of_ble_eq_true rfl) ⟨Nat.zero_le _, Nat.zero_le _⟩ rfl ?_
  refine g_iload_n (pc := 79) (dd d_Mod_statement 45 rfl) rfl ?_
  refine g_bipush (pc := 80) (v := 50) (dd d_Mod_statement 46 rfl) (by decide) ?_
  refine g_icmple (pc := 82) (tgt := 91) (dd d_Mod_statement 47 rfl) (by decide) (fun q14 => ?_) (fun q14 => ?_)
  · replace h := ite_t h q14
    refine g_drop [2] ?_
    exact gb_Mod_statement_91 hX hk hT  h
  · replace h := ite_f h q14
    refine g_aload_n (pc := 85) (dd d_Mod_statement 48 rfl) rfl ?_
    refine g_bipush (pc := 86) (v := 61) (dd d_Mod_statement 49 rfl) (by decide) ?_
    obtain ⟨v15, e16, h⟩ := bnd_e h
    refine g_callV (pc := 88) (dd d_Mod_statement 50 rfl) v_Mod_352 ob_MO rfl (ef_Mod_need hX e16) rfl (by rw [hk]; decide) (Nat.le_of_ble_eq_true rfl) ⟨Nat.zero_le _, Nat.zero_le _⟩ rfl ?_
    refine g_drop [2] ?_
    exact gb_Mod_statement_91 hX hk hT  h
def f_Mod_statement (n : Nat) (J : JM) (x1 : Int32) (I : IM) : Option (IM) := Option.bind (f_Mod_in  (I MO 10) 50 53 I) fun v1 => if v1 = 0 then (b_Mod_statement_34 n J  I) else (if (I MO 10 : Int32) ≤ (50 : Int32) then (b_Mod_statement_39 n J  (I MO 10) I) else (if (((x1 : Int32) >>> (((I MO 10) - 50 : Int32) &&& 31)) &&& 1 : Int32) = (1 : Int32) then (b_Mod_statement_34 n J  I) else (b_Mod_statement_39 n J  (I MO 10) I)))
set_option maxRecDepth 20000 in
set_option maxHeartbeats 4000000 in
theorem ef_Mod_statement {Δ : Dx} {X : Lx} (hX : MX Δ X) {n : Nat} {x1 : Int32}  {I : IM}  {r : IM} (h : f_Mod_statement n X.1 x1 I = some r) : Ev Δ 6 m_Mod_statement [.ref (Δ.ba + MO), .int x1] (I, X) none (r, X) := by
  refine ev_of (by decide) (Nat.le_of_ble_eq_true rfl) (fun Γ hk hR hT => ?_)
  change GG Δ m_Mod_statement Γ NN 0 0 (I, X) 0 [some (.ref (Δ.ba + MO)), some (.int (x1)), none] []
  unfold f_Mod_statement at h
  refine g_aload_n (pc := 0) (dd d_Mod_statement 0 rfl) rfl ?_
  refine g_geti (pc := 1) (dd d_Mod_statement 1 rfl) f_Mod_270 ob_MO rfl ?_
  refine g_istore_n (pc := 4) (dd d_Mod_statement 2 rfl) (by decide) ?_
  refine g_iload_n (pc := 5) (dd d_Mod_statement 3 rfl) rfl ?_
  refine g_bipush (pc := 6) (v := 50) (dd d_Mod_statement 4 rfl) (by decide) ?_
  refine g_bipush (pc := 8) (v := 53) (dd d_Mod_statement 5 rfl) (by decide) ?_
  obtain ⟨v1, e2, h⟩ := bnd_e h
  refine g_callS (pc := 10) (dd d_Mod_statement 6 rfl) s_Mod_243 (ef_Mod_in hX e2) rfl (by rw [hk]; decide) (Nat.le_of_ble_eq_true rfl) ⟨Nat.zero_le _, Nat.zero_le _⟩ rfl ?_
  refine g_ifeq (pc := 13) (tgt := 34) (dd d_Mod_statement 7 rfl) (by decide) (fun q3 => ?_) (fun q3 => ?_)
  · replace h := ite_t h q3
    refine g_drop [1, 2] ?_
    exact gb_Mod_statement_34 hX hk hT  h
  · replace h := ite_f h q3
    refine g_iload_n (pc := 16) (dd d_Mod_statement 8 rfl) rfl ?_
    refine g_bipush (pc := 17) (v := 50) (dd d_Mod_statement 9 rfl) (by decide) ?_
    refine g_icmple (pc := 19) (tgt := 39) (dd d_Mod_statement 10 rfl) (by decide) (fun q4 => ?_) (fun q4 => ?_)
    · replace h := ite_t h q4
      refine g_drop [1] ?_
      exact gb_Mod_statement_39 hX hk hT  h
    · replace h := ite_f h q4
      refine g_iload_n (pc := 22) (dd d_Mod_statement 11 rfl) rfl ?_
      refine g_iload_n (pc := 23) (dd d_Mod_statement 12 rfl) rfl ?_
      refine g_bipush (pc := 24) (v := 50) (dd d_Mod_statement 13 rfl) (by decide) ?_
      refine g_isub (pc := 26) (dd d_Mod_statement 14 rfl) ?_
      refine g_ishr (pc := 27) (dd d_Mod_statement 15 rfl) ?_
      refine g_iconst (pc := 28) (v := 1) (dd d_Mod_statement 16 rfl) (by decide) ?_
      refine g_iand (pc := 29) (dd d_Mod_statement 17 rfl) ?_
      refine g_iconst (pc := 30) (v := 1) (dd d_Mod_statement 18 rfl) (by decide) ?_
      refine g_icmpne (pc := 31) (tgt := 39) (dd d_Mod_statement 19 rfl) (by decide) (fun q5 => ?_) (fun q5 => ?_)
      · replace h := ite_f h q5
        refine g_drop [1] ?_
        exact gb_Mod_statement_39 hX hk hT  h
      · replace h := ite_t h q5
        refine g_drop [1, 2] ?_
        exact gb_Mod_statement_34 hX hk hT  h
