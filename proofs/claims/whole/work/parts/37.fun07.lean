/-! the reference: each method a function, and its contract -/
def f_Mod_namesOf (n : Nat) (x1 : Int32) (x2 : Int32) (I : IM) : Option (Int32) := chk (inb x1 602) <| chk (inb x2 602) <| Option.bind (f_Mod_tells n x1 52 I) fun v3 => Option.bind (f_Mod_tells n x2 52 I) fun v5 => Option.bind (f_Mod_tells n x1 53 I) fun v8 => Option.bind (f_Mod_tells n x2 53 I) fun v10 => some (if v8 = v10 then (if v3 = v5 then (((I A_named x1.toNatClampNeg) ||| (I A_named x2.toNatClampNeg)) &&& 32767) else ((((I A_named x1.toNatClampNeg) ||| (I A_named x2.toNatClampNeg)) &&& 32767) ||| (1))) else ((if v3 = v5 then (((I A_named x1.toNatClampNeg) ||| (I A_named x2.toNatClampNeg)) &&& 32767) else ((((I A_named x1.toNatClampNeg) ||| (I A_named x2.toNatClampNeg)) &&& 32767) ||| (1))) ||| (256)))
set_option maxRecDepth 20000 in
set_option maxHeartbeats 4000000 in
theorem ef_Mod_namesOf {Δ : Dx} {X : Lx} (hX : MX Δ X) {n : Nat} {x1 : Int32} {x2 : Int32}  {I : IM}  {r : Int32} (h : f_Mod_namesOf n x1 x2 I = some r) : Ev Δ 1 m_Mod_namesOf [.ref (Δ.ba + MO), .int x1, .int x2] (I, X) (some (.int r)) (I, X) := by
  refine ev_of (by decide) (Nat.le_of_ble_eq_true rfl) (fun Γ hk hR hT => ?_)
  change GG Δ m_Mod_namesOf Γ NN 0 0 (I, X) 0 [some (.ref (Δ.ba + MO)), some (.int (x1)), some (.int (x2)), none] []
  unfold f_Mod_namesOf at h
  refine g_aload_n (pc := 0) (dd d_Mod_namesOf 0 rfl) rfl ?_
  refine g_getr (pc := 1) (dd d_Mod_namesOf 1 rfl) f_Mod_47 ob_MO rfl (mr_named hX) ?_
  refine g_iload_n (pc := 4) (dd d_Mod_namesOf 2 rfl) rfl ?_
  obtain ⟨c1, h⟩ := chk_e h
  refine g_iald (pc := 5) (dd d_Mod_namesOf 3 rfl) ar_A_named c1 ?_
  refine g_aload_n (pc := 6) (dd d_Mod_namesOf 4 rfl) rfl ?_
  refine g_getr (pc := 7) (dd d_Mod_namesOf 5 rfl) f_Mod_47 ob_MO rfl (mr_named hX) ?_
  refine g_iload_n (pc := 10) (dd d_Mod_namesOf 6 rfl) rfl ?_
  obtain ⟨c2, h⟩ := chk_e h
  refine g_iald (pc := 11) (dd d_Mod_namesOf 7 rfl) ar_A_named c2 ?_
  refine g_ior (pc := 12) (dd d_Mod_namesOf 8 rfl) ?_
  refine g_sipush (pc := 13) (v := 32767) (dd d_Mod_namesOf 9 rfl) (by decide) ?_
  refine g_iand (pc := 16) (dd d_Mod_namesOf 10 rfl) ?_
  refine g_istore_n (pc := 17) (dd d_Mod_namesOf 11 rfl) (by decide) ?_
  refine g_aload_n (pc := 18) (dd d_Mod_namesOf 12 rfl) rfl ?_
  refine g_iload_n (pc := 19) (dd d_Mod_namesOf 13 rfl) rfl ?_
  refine g_bipush (pc := 20) (v := 52) (dd d_Mod_namesOf 14 rfl) (by decide) ?_
  obtain ⟨v3, e4, h⟩ := bnd_e h
  refine g_callV (pc := 22) (dd d_Mod_namesOf 15 rfl) v_Mod_564 ob_MO rfl (ef_Mod_tells hX e4) rfl (by rw [hk]; decide) (Nat.le_of_ble_eq_true rfl) ⟨Nat.zero_le _, Nat.zero_le _⟩ rfl ?_
  refine g_aload_n (pc := 25) (dd d_Mod_namesOf 16 rfl) rfl ?_
  refine g_iload_n (pc := 26) (dd d_Mod_namesOf 17 rfl) rfl ?_
  refine g_bipush (pc := 27) (v := 52) (dd d_Mod_namesOf 18 rfl) (by decide) ?_
  obtain ⟨v5, e6, h⟩ := bnd_e h
  refine g_callV (pc := 29) (dd d_Mod_namesOf 19 rfl) v_Mod_564 ob_MO rfl (ef_Mod_tells hX e6) rfl (by rw [hk]; decide) (Nat.le_of_ble_eq_true rfl) ⟨Nat.zero_le _, Nat.zero_le _⟩ rfl ?_
  suffices K32 : ∀ z : Int32, z = (if v3 = v5 then (((I A_named x1.toNatClampNeg) ||| (I A_named x2.toNatClampNeg)) &&& 32767) else ((((I A_named x1.toNatClampNeg) ||| (I A_named x2.toNatClampNeg)) &&& 32767) ||| (1)) : Int32) → GG Δ m_Mod_namesOf Γ NN 0 0 (I, X) 42 [some (.ref (Δ.ba + MO)), some (.int (x1)), some (.int (x2)), some (.int (((I A_named x1.toNatClampNeg) ||| (I A_named x2.toNatClampNeg)) &&& 32767))] [.int (z)] by
    refine g_icmpeq (pc := 32) (tgt := 41) (dd d_Mod_namesOf 20 rfl) (by decide) (fun q7 => ?_) (fun q7 => ?_)
    · skip
      refine g_iload_n (pc := 41) (dd d_Mod_namesOf 25 rfl) rfl ?_
      exact K32 _ (by rw [if_pos q7])
    · skip
      refine g_iload_n (pc := 35) (dd d_Mod_namesOf 21 rfl) rfl ?_
      refine g_iconst (pc := 36) (v := 1) (dd d_Mod_namesOf 22 rfl) (by decide) ?_
      refine g_ior (pc := 37) (dd d_Mod_namesOf 23 rfl) ?_
      refine g_goto (pc := 38) (tgt := 42) (dd d_Mod_namesOf 24 rfl) (by decide) ?_
      exact K32 _ (by rw [if_neg q7])
  intro z hz
  subst hz
  refine g_istore_n (pc := 42) (dd d_Mod_namesOf 26 rfl) (by decide) ?_
  refine g_aload_n (pc := 43) (dd d_Mod_namesOf 27 rfl) rfl ?_
  refine g_iload_n (pc := 44) (dd d_Mod_namesOf 28 rfl) rfl ?_
  refine g_bipush (pc := 45) (v := 53) (dd d_Mod_namesOf 29 rfl) (by decide) ?_
  obtain ⟨v8, e9, h⟩ := bnd_e h
  refine g_callV (pc := 47) (dd d_Mod_namesOf 30 rfl) v_Mod_564 ob_MO rfl (ef_Mod_tells hX e9) rfl (by rw [hk]; decide) (Nat.le_of_ble_eq_true rfl) ⟨Nat.zero_le _, Nat.zero_le _⟩ rfl ?_
  refine g_aload_n (pc := 50) (dd d_Mod_namesOf 31 rfl) rfl ?_
  refine g_iload_n (pc := 51) (dd d_Mod_namesOf 32 rfl) rfl ?_
  refine g_bipush (pc := 52) (v := 53) (dd d_Mod_namesOf 33 rfl) (by decide) ?_
  obtain ⟨v10, e11, h⟩ := bnd_e h
  refine g_callV (pc := 54) (dd d_Mod_namesOf 34 rfl) v_Mod_564 ob_MO rfl (ef_Mod_tells hX e11) rfl (by rw [hk]; decide) (Nat.le_of_ble_eq_true rfl) ⟨Nat.zero_le _, Nat.zero_le _⟩ rfl ?_
  suffices K57 : ∀ z : Int32, z = (if v8 = v10 then (if v3 = v5 then (((I A_named x1.toNatClampNeg) ||| (I A_named x2.toNatClampNeg)) &&& 32767) else ((((I A_named x1.toNatClampNeg) ||| (I A_named x2.toNatClampNeg)) &&& 32767) ||| (1))) else ((if v3 = v5 then (((I A_named x1.toNatClampNeg) ||| (I A_named x2.toNatClampNeg)) &&& 32767) else ((((I A_named x1.toNatClampNeg) ||| (I A_named x2.toNatClampNeg)) &&& 32767) ||| (1))) ||| (256)) : Int32) → GG Δ m_Mod_namesOf Γ NN 0 0 (I, X) 69 [some (.ref (Δ.ba + MO)), some (.int (x1)), some (.int (x2)), some (.int (if v3 = v5 then (((I A_named x1.toNatClampNeg) ||| (I A_named x2.toNatClampNeg)) &&& 32767) else ((((I A_named x1.toNatClampNeg) ||| (I A_named x2.toNatClampNeg)) &&& 32767) ||| (1))))] [.int (z)] by
    refine g_icmpeq (pc := 57) (tgt := 68) (dd d_Mod_namesOf 35 rfl) (by decide) (fun q12 => ?_) (fun q12 => ?_)
    · skip
      refine g_iload_n (pc := 68) (dd d_Mod_namesOf 40 rfl) rfl ?_
      exact K57 _ (by rw [if_pos q12])
    · skip
      refine g_iload_n (pc := 60) (dd d_Mod_namesOf 36 rfl) rfl ?_
      refine g_sipush (pc := 61) (v := 256) (dd d_Mod_namesOf 37 rfl) (by decide) ?_
      refine g_ior (pc := 64) (dd d_Mod_namesOf 38 rfl) ?_
      refine g_goto (pc := 65) (tgt := 69) (dd d_Mod_namesOf 39 rfl) (by decide) ?_
      exact K57 _ (by rw [if_neg q12])
  intro z hz
  subst hz
  cases h
  exact g_iret (pc := 69) rfl (dd d_Mod_namesOf 41 rfl) hT
def b_Mod_setCase_67 (n : Nat) (H7 : Int32 → Int32 → Int32 → Int32 → IM → Option (IM)) (x2 : Int32) (x3 : Int32) (x5 : Int32) (y0 : Int32) (I : IM) : Option (IM) := H7 x2 x3 y0 (x5 + (-1)) I
set_option maxRecDepth 20000 in
set_option maxHeartbeats 4000000 in
theorem gb_Mod_setCase_67 {Δ : Dx} {X : Lx} (hX : MX Δ X)   {n : Nat} {Γ : Cx} (hk : Γ.k = 0) {r : IM} (hT : Tg Δ Γ none NN (r, X) 0 0) {H7 : Int32 → Int32 → Int32 → Int32 → IM → Option (IM)} (hH7 : ∀ (x2 : Int32) (x3 : Int32) (x4 : Int32) (x5 : Int32) (I : IM), H7 x2 x3 x4 x5 I = some r → GG Δ m_Mod_setCase Γ NN 0 0 (I, X) 7 [some (.ref (Δ.ba + MO)), none, some (.int (x2)), some (.int (x3)), some (.int (x4)), some (.int (x5)), none] []) {x2 : Int32} {x3 : Int32} {x5 : Int32} {y0 : Int32} {I : IM} (h : b_Mod_setCase_67 n H7 x2 x3 x5 y0 I = some r) : GG Δ m_Mod_setCase Γ NN 0 0 (I, X) 67 [some (.ref (Δ.ba + MO)), none, some (.int (x2)), some (.int (x3)), none, some (.int (x5)), none] [.int (y0)] := by
  unfold b_Mod_setCase_67 at h
  refine g_istore (pc := 67) (dd d_Mod_setCase 39 rfl) (by decide) ?_
  refine g_iincW (pc := 69) (w := (-1)) (dd d_Mod_setCase 40 rfl) rfl (by decide) (by decide) ?_
  refine g_goto (pc := 72) (tgt := 7) (dd d_Mod_setCase 41 rfl) (by decide) ?_
  exact hH7 _ _ _ _ _ h
def b_Mod_setCase_50 (n : Nat) (H7 : Int32 → Int32 → Int32 → Int32 → IM → Option (IM)) (x2 : Int32) (x3 : Int32) (x4 : Int32) (x5 : Int32) (x6 : Int32) (y2 : Int32) (y1 : Int32) (I : IM) : Option (IM) := chk (inb y1 15) <| lt (up I A_caseValue y1.toNatClampNeg (y2)) fun I6 => if x6 = 0 then (b_Mod_setCase_67 n H7 x2 x3 x5 x4 I6) else (chk (¬ (x3 + 1 : Int32) = 0) <| b_Mod_setCase_67 n H7 x2 x3 x5 ((x4) / (x3 + 1)) I6)
set_option maxRecDepth 20000 in
set_option maxHeartbeats 4000000 in
theorem gb_Mod_setCase_50 {Δ : Dx} {X : Lx} (hX : MX Δ X)   {n : Nat} {Γ : Cx} (hk : Γ.k = 0) {r : IM} (hT : Tg Δ Γ none NN (r, X) 0 0) {H7 : Int32 → Int32 → Int32 → Int32 → IM → Option (IM)} (hH7 : ∀ (x2 : Int32) (x3 : Int32) (x4 : Int32) (x5 : Int32) (I : IM), H7 x2 x3 x4 x5 I = some r → GG Δ m_Mod_setCase Γ NN 0 0 (I, X) 7 [some (.ref (Δ.ba + MO)), none, some (.int (x2)), some (.int (x3)), some (.int (x4)), some (.int (x5)), none] []) {x2 : Int32} {x3 : Int32} {x4 : Int32} {x5 : Int32} {x6 : Int32} {y2 : Int32} {y1 : Int32} {I : IM} (h : b_Mod_setCase_50 n H7 x2 x3 x4 x5 x6 y2 y1 I = some r) : GG Δ m_Mod_setCase Γ NN 0 0 (I, X) 50 [some (.ref (Δ.ba + MO)), none, some (.int (x2)), some (.int (x3)), some (.int (x4)), some (.int (x5)), some (.int (x6))] [.int (y2), .int (y1), .ref (Δ.ba + A_caseValue)] := by
  unfold b_Mod_setCase_50 at h
  obtain ⟨c5, h⟩ := chk_e h
  refine g_iastN (pc := 50) (dd d_Mod_setCase 29 rfl) ar_A_caseValue c5 (fun I6 hI6 => ?_)
  replace h := lt_e h hI6
  refine g_iload (pc := 51) (dd d_Mod_setCase 30 rfl) rfl ?_
  refine g_ifeq (pc := 53) (tgt := 65) (dd d_Mod_setCase 31 rfl) (by decide) (fun q7 => ?_) (fun q7 => ?_)
  · replace h := ite_t h q7
    refine g_iload (pc := 65) (dd d_Mod_setCase 38 rfl) rfl ?_
    refine g_drop [4, 6] ?_
    exact gb_Mod_setCase_67 hX hk hT hH7 h
  · replace h := ite_f h q7
    refine g_iload (pc := 56) (dd d_Mod_setCase 32 rfl) rfl ?_
    refine g_iload_n (pc := 58) (dd d_Mod_setCase 33 rfl) rfl ?_
    refine g_iconst (pc := 59) (v := 1) (dd d_Mod_setCase 34 rfl) (by decide) ?_
    refine g_iadd (pc := 60) (dd d_Mod_setCase 35 rfl) ?_
    obtain ⟨c8, h⟩ := chk_e h
    refine g_idiv (pc := 61) (dd d_Mod_setCase 36 rfl) c8 ?_
    refine g_goto (pc := 62) (tgt := 67) (dd d_Mod_setCase 37 rfl) (by decide) ?_
    refine g_drop [4, 6] ?_
    exact gb_Mod_setCase_67 hX hk hT hH7 h
def l_Mod_setCase_7 (n : Nat)  : Nat → Int32 → Int32 → Int32 → Int32 → IM → Option (IM)
  | 0, _, _, _, _, _ => none
  | f + 1, x2, x3, x4, x5, I => if x5 < 0 then (some I) else (if (if (((x2 : Int32) >>> ((x5 : Int32) &&& 31)) &&& 1 : Int32) = (1 : Int32) then 1 else 0 : Int32) = 0 then (b_Mod_setCase_50 n (l_Mod_setCase_7 n  f) x2 x3 x4 x5 (if (((x2 : Int32) >>> ((x5 : Int32) &&& 31)) &&& 1 : Int32) = (1 : Int32) then 1 else 0) 0 x5 I) else (chk (¬ (x3 + 1 : Int32) = 0) <| b_Mod_setCase_50 n (l_Mod_setCase_7 n  f) x2 x3 x4 x5 (if (((x2 : Int32) >>> ((x5 : Int32) &&& 31)) &&& 1 : Int32) = (1 : Int32) then 1 else 0) ((x4) - (x4) / (x3 + 1) * (x3 + 1)) x5 I))
set_option maxRecDepth 20000 in
set_option maxHeartbeats 4000000 in
theorem gl_Mod_setCase_7 {Δ : Dx} {X : Lx} (hX : MX Δ X)   {n : Nat} {Γ : Cx} (hk : Γ.k = 0) {r : IM} (hT : Tg Δ Γ none NN (r, X) 0 0)  : ∀ (f : Nat) (x2 : Int32) (x3 : Int32) (x4 : Int32) (x5 : Int32) (I : IM), l_Mod_setCase_7 n  f x2 x3 x4 x5 I = some r → GG Δ m_Mod_setCase Γ NN 0 0 (I, X) 7 [some (.ref (Δ.ba + MO)), none, some (.int (x2)), some (.int (x3)), some (.int (x4)), some (.int (x5)), none] []
  | 0, _, _, _, _, _, h => by cases h
  | f + 1, x2, x3, x4, x5, I, h => by
    have ih := gl_Mod_setCase_7 (n := n) hX hk hT  f
    rw [l_Mod_setCase_7] at h
    refine g_iload (pc := 7) (dd d_Mod_setCase 4 rfl) rfl ?_
    refine g_iflt (pc := 9) (tgt := 75) (dd d_Mod_setCase 5 rfl) (by decide) (fun q1 => ?_) (fun q1 => ?_)
    · replace h := ite_t h q1
      cases h
      exact g_vret (pc := 75) rfl (dd d_Mod_setCase 42 rfl) hT
    · replace h := ite_f h q1
      refine g_iload_n (pc := 12) (dd d_Mod_setCase 6 rfl) rfl ?_
      refine g_iload (pc := 13) (dd d_Mod_setCase 7 rfl) rfl ?_
      refine g_ishr (pc := 15) (dd d_Mod_setCase 8 rfl) ?_
      refine g_iconst (pc := 16) (v := 1) (dd d_Mod_setCase 9 rfl) (by decide) ?_
      refine g_iand (pc := 17) (dd d_Mod_setCase 10 rfl) ?_
      refine g_iconst (pc := 18) (v := 1) (dd d_Mod_setCase 11 rfl) (by decide) ?_
      suffices K19 : ∀ z : Int32, z = (if (((x2 : Int32) >>> ((x5 : Int32) &&& 31)) &&& 1 : Int32) = (1 : Int32) then 1 else 0 : Int32) → GG Δ m_Mod_setCase Γ NN 0 0 (I, X) 27 [some (.ref (Δ.ba + MO)), none, some (.int (x2)), some (.int (x3)), some (.int (x4)), some (.int (x5)), none] [.int (z)] by
        refine g_icmpne (pc := 19) (tgt := 26) (dd d_Mod_setCase 12 rfl) (by decide) (fun q2 => ?_) (fun q2 => ?_)
        · skip
          refine g_iconst (pc := 26) (v := 0) (dd d_Mod_setCase 15 rfl) (by decide) ?_
          exact K19 _ (by rw [if_neg q2])
        · skip
          refine g_iconst (pc := 22) (v := 1) (dd d_Mod_setCase 13 rfl) (by decide) ?_
          refine g_goto (pc := 23) (tgt := 27) (dd d_Mod_setCase 14 rfl) (by decide) ?_
          exact K19 _ (by rw [if_pos q2])
      intro z hz
      subst hz
      refine g_istore (pc := 27) (dd d_Mod_setCase 16 rfl) (by decide) ?_
      refine g_aload_n (pc := 29) (dd d_Mod_setCase 17 rfl) rfl ?_
      refine g_getr (pc := 30) (dd d_Mod_setCase 18 rfl) f_Mod_117 ob_MO rfl (mr_caseValue hX) ?_
      refine g_iload (pc := 33) (dd d_Mod_setCase 19 rfl) rfl ?_
      refine g_iload (pc := 35) (dd d_Mod_setCase 20 rfl) rfl ?_
      refine g_ifeq (pc := 37) (tgt := 49) (dd d_Mod_setCase 21 rfl) (by decide) (fun q3 => ?_) (fun q3 => ?_)
      · replace h := ite_t h q3
        refine g_iconst (pc := 49) (v := 0) (dd d_Mod_setCase 28 rfl) (by decide) ?_
        exact gb_Mod_setCase_50 hX hk hT ih h
      · replace h := ite_f h q3
        refine g_iload (pc := 40) (dd d_Mod_setCase 22 rfl) rfl ?_
        refine g_iload_n (pc := 42) (dd d_Mod_setCase 23 rfl) rfl ?_
        refine g_iconst (pc := 43) (v := 1) (dd d_Mod_setCase 24 rfl) (by decide) ?_
        refine g_iadd (pc := 44) (dd d_Mod_setCase 25 rfl) ?_
        obtain ⟨c4, h⟩ := chk_e h
        refine g_irem (pc := 45) (dd d_Mod_setCase 26 rfl) c4 ?_
        refine g_goto (pc := 46) (tgt := 50) (dd d_Mod_setCase 27 rfl) (by decide) ?_
        exact gb_Mod_setCase_50 hX hk hT ih h
def f_Mod_setCase (n : Nat) (x1 : Int32) (x2 : Int32) (x3 : Int32) (I : IM) : Option (IM) := l_Mod_setCase_7 n  n x2 x3 x1 14 I
set_option maxRecDepth 20000 in
set_option maxHeartbeats 4000000 in
theorem ef_Mod_setCase {Δ : Dx} {X : Lx} (hX : MX Δ X) {n : Nat} {x1 : Int32} {x2 : Int32} {x3 : Int32}  {I : IM}  {r : IM} (h : f_Mod_setCase n x1 x2 x3 I = some r) : Ev Δ 0 m_Mod_setCase [.ref (Δ.ba + MO), .int x1, .int x2, .int x3] (I, X) none (r, X) := by
  refine ev_of (by decide) (Nat.le_of_ble_eq_true rfl) (fun Γ hk hR hT => ?_)
  change GG Δ m_Mod_setCase Γ NN 0 0 (I, X) 0 [some (.ref (Δ.ba + MO)), some (.int (x1)), some (.int (x2)), some (.int (x3)), none, none, none] []
  unfold f_Mod_setCase at h
  refine g_iload_n (pc := 0) (dd d_Mod_setCase 0 rfl) rfl ?_
  refine g_istore (pc := 1) (dd d_Mod_setCase 1 rfl) (by decide) ?_
  refine g_bipush (pc := 3) (v := 14) (dd d_Mod_setCase 2 rfl) (by decide) ?_
  refine g_istore (pc := 5) (dd d_Mod_setCase 3 rfl) (by decide) ?_
  refine g_drop [1] ?_
  exact gl_Mod_setCase_7 hX hk hT  _ _ _ _ _ _ h
def f_Mod_answerUnlike (n : Nat) (x1 : Int32) (x2 : Int32) (I : IM) : Option (Int32 × IM) := lt (up I MO 69 (1)) fun I1 => Option.bind (f_Mod_rule n x1 I1) fun v2 => Option.bind (f_Mod_rule n x2 v2) fun v5 => lt (up v5 MO 69 (0)) fun I7 => some (if (if (v2 MO 82 : Int32) = (3 : Int32) then 1 else 0 : Int32) = (if (I7 MO 82 : Int32) = (3 : Int32) then 1 else 0 : Int32) then (if (if (v2 MO 82 : Int32) = (3 : Int32) then 1 else 0 : Int32) = 0 then (if (I7 MO 83 : Int32) = (v2 MO 83 : Int32) then (if (I7 MO 84 : Int32) = (v2 MO 84 : Int32) then (if (I7 MO 85 : Int32) = (v2 MO 85 : Int32) then 0 else 1) else 1) else 1) else 0) else 1, I7)
set_option maxRecDepth 20000 in
set_option maxHeartbeats 4000000 in
theorem ef_Mod_answerUnlike {Δ : Dx} {X : Lx} (hX : MX Δ X) {n : Nat} {x1 : Int32} {x2 : Int32}  {I : IM}  {r : Int32 × IM} (h : f_Mod_answerUnlike n x1 x2 I = some r) : Ev Δ 5 m_Mod_answerUnlike [.ref (Δ.ba + MO), .int x1, .int x2] (I, X) (some (.int r.1)) (r.2, X) := by
  refine ev_of (by decide) (Nat.le_of_ble_eq_true rfl) (fun Γ hk hR hT => ?_)
  change GG Δ m_Mod_answerUnlike Γ NN 0 0 (I, X) 0 [some (.ref (Δ.ba + MO)), some (.int (x1)), some (.int (x2)), none, none, none, none, none] []
  unfold f_Mod_answerUnlike at h
  refine g_aload_n (pc := 0) (dd d_Mod_answerUnlike 0 rfl) rfl ?_
  refine g_iconst (pc := 1) (v := 1) (dd d_Mod_answerUnlike 1 rfl) (by decide) ?_
  refine g_putzN (pc := 2) (dd d_Mod_answerUnlike 2 rfl) f_Mod_489 fm_Mod_69 ob_MO rfl (by decide) (fun I1 hI1 => ?_)
  replace h := lt_e h hI1
  refine g_aload_n (pc := 5) (dd d_Mod_answerUnlike 3 rfl) rfl ?_
  refine g_iload_n (pc := 6) (dd d_Mod_answerUnlike 4 rfl) rfl ?_
  obtain ⟨v2, e3, h⟩ := bnd_e h
  refine g_callV (pc := 7) (dd d_Mod_answerUnlike 5 rfl) v_Mod_561 ob_MO rfl (ef_Mod_rule hX e3) rfl (by rw [hk]; decide) (Nat.le_of_ble_eq_true rfl) ⟨Nat.zero_le _, Nat.zero_le _⟩ rfl ?_
  refine g_aload_n (pc := 10) (dd d_Mod_answerUnlike 6 rfl) rfl ?_
  refine g_geti (pc := 11) (dd d_Mod_answerUnlike 7 rfl) f_Mod_514 ob_MO rfl ?_
  refine g_iconst (pc := 14) (v := 3) (dd d_Mod_answerUnlike 8 rfl) (by decide) ?_
  suffices K15 : ∀ z : Int32, z = (if (v2 MO 82 : Int32) = (3 : Int32) then 1 else 0 : Int32) → GG Δ m_Mod_answerUnlike Γ NN 0 0 (v2, X) 23 [some (.ref (Δ.ba + MO)), some (.int (x1)), some (.int (x2)), none, none, none, none, none] [.int (z)] by
    refine g_icmpne (pc := 15) (tgt := 22) (dd d_Mod_answerUnlike 9 rfl) (by decide) (fun q4 => ?_) (fun q4 => ?_)
    · skip
      refine g_iconst (pc := 22) (v := 0) (dd d_Mod_answerUnlike 12 rfl) (by decide) ?_
      exact K15 _ (by rw [if_neg q4])
    · skip
      refine g_iconst (pc := 18) (v := 1) (dd d_Mod_answerUnlike 10 rfl) (by decide) ?_
      refine g_goto (pc := 19) (tgt := 23) (dd d_Mod_answerUnlike 11 rfl) (by decide) ?_
      exact K15 _ (by rw [if_pos q4])
  intro z hz
  subst hz
  refine g_istore_n (pc := 23) (dd d_Mod_answerUnlike 13 rfl) (by decide) ?_
  refine g_aload_n (pc := 24) (dd d_Mod_answerUnlike 14 rfl) rfl ?_
  refine g_geti (pc := 25) (dd d_Mod_answerUnlike 15 rfl) f_Mod_546 ob_MO rfl ?_
  refine g_istore (pc := 28) (dd d_Mod_answerUnlike 16 rfl) (by decide) ?_
  refine g_aload_n (pc := 30) (dd d_Mod_answerUnlike 17 rfl) rfl ?_
  refine g_geti (pc := 31) (dd d_Mod_answerUnlike 18 rfl) f_Mod_549 ob_MO rfl ?_
  refine g_istore (pc := 34) (dd d_Mod_answerUnlike 19 rfl) (by decide) ?_
  refine g_aload_n (pc := 36) (dd d_Mod_answerUnlike 20 rfl) rfl ?_
  refine g_geti (pc := 37) (dd d_Mod_answerUnlike 21 rfl) f_Mod_552 ob_MO rfl ?_
  refine g_istore (pc := 40) (dd d_Mod_answerUnlike 22 rfl) (by decide) ?_
  refine g_aload_n (pc := 42) (dd d_Mod_answerUnlike 23 rfl) rfl ?_
  refine g_iload_n (pc := 43) (dd d_Mod_answerUnlike 24 rfl) rfl ?_
  obtain ⟨v5, e6, h⟩ := bnd_e h
  refine g_callV (pc := 44) (dd d_Mod_answerUnlike 25 rfl) v_Mod_561 ob_MO rfl (ef_Mod_rule hX e6) rfl (by rw [hk]; decide) (Nat.le_of_ble_eq_true rfl) ⟨Nat.zero_le _, Nat.zero_le _⟩ rfl ?_
  refine g_aload_n (pc := 47) (dd d_Mod_answerUnlike 26 rfl) rfl ?_
  refine g_iconst (pc := 48) (v := 0) (dd d_Mod_answerUnlike 27 rfl) (by decide) ?_
  refine g_putzN (pc := 49) (dd d_Mod_answerUnlike 28 rfl) f_Mod_489 fm_Mod_69 ob_MO rfl (by decide) (fun I7 hI7 => ?_)
  replace h := lt_e h hI7
  refine g_aload_n (pc := 52) (dd d_Mod_answerUnlike 29 rfl) rfl ?_
  refine g_geti (pc := 53) (dd d_Mod_answerUnlike 30 rfl) f_Mod_514 ob_MO rfl ?_
  refine g_iconst (pc := 56) (v := 3) (dd d_Mod_answerUnlike 31 rfl) (by decide) ?_
  suffices K57 : ∀ z : Int32, z = (if (I7 MO 82 : Int32) = (3 : Int32) then 1 else 0 : Int32) → GG Δ m_Mod_answerUnlike Γ NN 0 0 (I7, X) 65 [some (.ref (Δ.ba + MO)), some (.int (x1)), some (.int (x2)), some (.int (if (v2 MO 82 : Int32) = (3 : Int32) then 1 else 0)), some (.int (v2 MO 83)), some (.int (v2 MO 84)), some (.int (v2 MO 85)), none] [.int (z)] by
    refine g_icmpne (pc := 57) (tgt := 64) (dd d_Mod_answerUnlike 32 rfl) (by decide) (fun q8 => ?_) (fun q8 => ?_)
    · skip
      refine g_iconst (pc := 64) (v := 0) (dd d_Mod_answerUnlike 35 rfl) (by decide) ?_
      exact K57 _ (by rw [if_neg q8])
    · skip
      refine g_iconst (pc := 60) (v := 1) (dd d_Mod_answerUnlike 33 rfl) (by decide) ?_
      refine g_goto (pc := 61) (tgt := 65) (dd d_Mod_answerUnlike 34 rfl) (by decide) ?_
      exact K57 _ (by rw [if_pos q8])
  intro z hz
  subst hz
  refine g_istore (pc := 65) (dd d_Mod_answerUnlike 36 rfl) (by decide) ?_
  refine g_iload_n (pc := 67) (dd d_Mod_answerUnlike 37 rfl) rfl ?_
  refine g_iload (pc := 68) (dd d_Mod_answerUnlike 38 rfl) rfl ?_
  suffices K70 : ∀ z : Int32, z = (if (if (v2 MO 82 : Int32) = (3 : Int32) then 1 else 0 : Int32) = (if (I7 MO 82 : Int32) = (3 : Int32) then 1 else 0 : Int32) then (if (if (v2 MO 82 : Int32) = (3 : Int32) then 1 else 0 : Int32) = 0 then (if (I7 MO 83 : Int32) = (v2 MO 83 : Int32) then (if (I7 MO 84 : Int32) = (v2 MO 84 : Int32) then (if (I7 MO 85 : Int32) = (v2 MO 85 : Int32) then 0 else 1) else 1) else 1) else 0) else 1 : Int32) → GG Δ m_Mod_answerUnlike Γ NN 0 0 (I7, X) 109 [some (.ref (Δ.ba + MO)), some (.int (x1)), some (.int (x2)), some (.int (if (v2 MO 82 : Int32) = (3 : Int32) then 1 else 0)), some (.int (v2 MO 83)), some (.int (v2 MO 84)), some (.int (v2 MO 85)), some (.int (if (I7 MO 82 : Int32) = (3 : Int32) then 1 else 0))] [.int (z)] by
    refine g_icmpne (pc := 70) (tgt := 104) (dd d_Mod_answerUnlike 39 rfl) (by decide) (fun q9 => ?_) (fun q9 => ?_)
    · skip
      refine g_iconst (pc := 104) (v := 1) (dd d_Mod_answerUnlike 54 rfl) (by decide) ?_
      refine g_goto (pc := 105) (tgt := 109) (dd d_Mod_answerUnlike 55 rfl) (by decide) ?_
      exact K70 _ (by rw [if_neg q9])
    · skip
      refine g_iload_n (pc := 73) (dd d_Mod_answerUnlike 40 rfl) rfl ?_
      refine g_ifne (pc := 74) (tgt := 108) (dd d_Mod_answerUnlike 41 rfl) (by decide) (fun q10 => ?_) (fun q10 => ?_)
      · skip
        refine g_iconst (pc := 108) (v := 0) (dd d_Mod_answerUnlike 56 rfl) (by decide) ?_
        exact K70 _ (by rw [if_pos q9, if_neg q10])
      · skip
        refine g_aload_n (pc := 77) (dd d_Mod_answerUnlike 42 rfl) rfl ?_
        refine g_geti (pc := 78) (dd d_Mod_answerUnlike 43 rfl) f_Mod_546 ob_MO rfl ?_
        refine g_iload (pc := 81) (dd d_Mod_answerUnlike 44 rfl) rfl ?_
        refine g_icmpne (pc := 83) (tgt := 104) (dd d_Mod_answerUnlike 45 rfl) (by decide) (fun q11 => ?_) (fun q11 => ?_)
        · skip
          refine g_iconst (pc := 104) (v := 1) (dd d_Mod_answerUnlike 54 rfl) (by decide) ?_
          refine g_goto (pc := 105) (tgt := 109) (dd d_Mod_answerUnlike 55 rfl) (by decide) ?_
          exact K70 _ (by rw [if_pos q9, if_pos q10, if_neg q11])
        · skip
          refine g_aload_n (pc := 86) (dd d_Mod_answerUnlike 46 rfl) rfl ?_
          refine g_geti (pc := 87) (dd d_Mod_answerUnlike 47 rfl) f_Mod_549 ob_MO rfl ?_
          refine g_iload (pc := 90) (dd d_Mod_answerUnlike 48 rfl) rfl ?_
          refine g_icmpne (pc := 92) (tgt := 104) (dd d_Mod_answerUnlike 49 rfl) (by decide) (fun q12 => ?_) (fun q12 => ?_)
          · skip
            refine g_iconst (pc := 104) (v := 1) (dd d_Mod_answerUnlike 54 rfl) (by decide) ?_
            refine g_goto (pc := 105) (tgt := 109) (dd d_Mod_answerUnlike 55 rfl) (by decide) ?_
            exact K70 _ (by rw [if_pos q9, if_pos q10, if_pos q11, if_neg q12])
          · skip
            refine g_aload_n (pc := 95) (dd d_Mod_answerUnlike 50 rfl) rfl ?_
            refine g_geti (pc := 96) (dd d_Mod_answerUnlike 51 rfl) f_Mod_552 ob_MO rfl ?_
            refine g_iload (pc := 99) (dd d_Mod_answerUnlike 52 rfl) rfl ?_
            refine g_icmpeq (pc := 101) (tgt := 108) (dd d_Mod_answerUnlike 53 rfl) (by decide) (fun q13 => ?_) (fun q13 => ?_)
            · skip
              refine g_iconst (pc := 108) (v := 0) (dd d_Mod_answerUnlike 56 rfl) (by decide) ?_
              exact K70 _ (by rw [if_pos q9, if_pos q10, if_pos q11, if_pos q12, if_pos q13])
            · skip
              refine g_iconst (pc := 104) (v := 1) (dd d_Mod_answerUnlike 54 rfl) (by decide) ?_
              refine g_goto (pc := 105) (tgt := 109) (dd d_Mod_answerUnlike 55 rfl) (by decide) ?_
              exact K70 _ (by rw [if_pos q9, if_pos q10, if_pos q11, if_pos q12, if_neg q13])
  intro z hz
  subst hz
  cases h
  exact g_zret (pc := 109) rfl (by (repeat' split) <;> first | exact Or.inl rfl | exact Or.inr rfl) (dd d_Mod_answerUnlike 57 rfl) hT
def l_Mod_differ_250 (n : Nat)  : Nat → Int32 → Int32 → IM → Option (Int32 × IM)
  | 0, _, _, _ => none
  | f + 1, x9, x10, I => if (15 : Int32) ≤ x10 then (some (x9, I)) else (chk (inb x10 15) <| lt (up I A_witness x10.toNatClampNeg (I A_caseValue x10.toNatClampNeg)) fun I39 => (l_Mod_differ_250 n  f) x9 (x10 + 1) I39)
set_option maxRecDepth 20000 in
set_option maxHeartbeats 4000000 in
theorem gl_Mod_differ_250 {Δ : Dx} {X : Lx} (hX : MX Δ X)   {n : Nat} {Γ : Cx} (hk : Γ.k = 6) {r : Int32 × IM} (hT : Tg Δ Γ (some (.int r.1)) NN (r.2, X) 0 0)  : ∀ (f : Nat) (x9 : Int32) (x10 : Int32) (I : IM), l_Mod_differ_250 n  f x9 x10 I = some r → GG Δ m_Mod_differ Γ NN 0 0 (I, X) 250 [some (.ref (Δ.ba + MO)), none, none, none, none, none, none, none, none, some (.int (x9)), some (.int (x10))] []
  | 0, _, _, _, h => by cases h
  | f + 1, x9, x10, I, h => by
    have ih := gl_Mod_differ_250 (n := n) hX hk hT  f
    rw [l_Mod_differ_250] at h
    refine g_iload (pc := 250) (dd d_Mod_differ_2 13 rfl) rfl ?_
    refine g_bipush (pc := 252) (v := 15) (dd d_Mod_differ_2 14 rfl) (by decide) ?_
    refine g_icmpge (pc := 254) (tgt := 277) (dd d_Mod_differ_2 15 rfl) (by decide) (fun q37 => ?_) (fun q37 => ?_)
    · replace h := ite_t h q37
      refine g_iload (pc := 277) (dd d_Mod_differ_2 26 rfl) rfl ?_
      cases h
      exact g_iret (pc := 279) rfl (dd d_Mod_differ_2 27 rfl) hT
    · replace h := ite_f h q37
      refine g_aload_n (pc := 257) (dd d_Mod_differ_2 16 rfl) rfl ?_
      refine g_getr (pc := 258) (dd d_Mod_differ_2 17 rfl) f_Mod_120 ob_MO rfl (mr_witness hX) ?_
      refine g_iload (pc := 261) (dd d_Mod_differ_2 18 rfl) rfl ?_
      refine g_aload_n (pc := 263) (dd d_Mod_differ_2 19 rfl) rfl ?_
      refine g_getr (pc := 264) (dd d_Mod_differ_2 20 rfl) f_Mod_117 ob_MO rfl (mr_caseValue hX) ?_
      refine g_iload (pc := 267) (dd d_Mod_differ_2 21 rfl) rfl ?_
      obtain ⟨c38, h⟩ := chk_e h
      refine g_iald (pc := 269) (dd d_Mod_differ_2 22 rfl) ar_A_caseValue c38 ?_
      refine g_iastN (pc := 270) (dd d_Mod_differ_2 23 rfl) ar_A_witness c38 (fun I39 hI39 => ?_)
      replace h := lt_e h hI39
      refine g_iincW (pc := 271) (w := 1) (dd d_Mod_differ_2 24 rfl) rfl (by decide) (by decide) ?_
      refine g_goto (pc := 274) (tgt := 250) (dd d_Mod_differ_2 25 rfl) (by decide) ?_
      exact ih _ _ _ h
def l_Mod_differ_215 (n : Nat)  : Nat → Int32 → Int32 → Int32 → Int32 → Int32 → Int32 → IM → Option (Int32 × IM)
  | 0, _, _, _, _, _, _, _ => none
  | f + 1, x2, x4, x5, x7, x8, x9, I => if x8 ≤ x9 then (some ((-1), I)) else (Option.bind (f_Mod_setCase n x9 x7 x2 I) fun v31 => Option.bind (f_Mod_answerUnlike n x4 x5 v31) fun v33 => if (v33.1 : Int32) = 0 then ((l_Mod_differ_215 n  f) x2 x4 x5 x7 x8 (x9 + 1) v33.2) else (lt (up v33.2 MO 71 (1)) fun I36 => l_Mod_differ_250 n  n x9 0 I36))
set_option maxRecDepth 20000 in
set_option maxHeartbeats 4000000 in
theorem gl_Mod_differ_215 {Δ : Dx} {X : Lx} (hX : MX Δ X)   {n : Nat} {Γ : Cx} (hk : Γ.k = 6) {r : Int32 × IM} (hT : Tg Δ Γ (some (.int r.1)) NN (r.2, X) 0 0)  : ∀ (f : Nat) (x2 : Int32) (x4 : Int32) (x5 : Int32) (x7 : Int32) (x8 : Int32) (x9 : Int32) (I : IM), l_Mod_differ_215 n  f x2 x4 x5 x7 x8 x9 I = some r → GG Δ m_Mod_differ Γ NN 0 0 (I, X) 215 [some (.ref (Δ.ba + MO)), none, some (.int (x2)), none, some (.int (x4)), some (.int (x5)), none, some (.int (x7)), some (.int (x8)), some (.int (x9)), none] []
  | 0, _, _, _, _, _, _, _, h => by cases h
  | f + 1, x2, x4, x5, x7, x8, x9, I, h => by
    have ih := gl_Mod_differ_215 (n := n) hX hk hT  f
    rw [l_Mod_differ_215] at h
    refine g_iload (pc := 215) (dd d_Mod_differ_1 55 rfl) rfl ?_
    refine g_iload (pc := 217) (dd d_Mod_differ_1 56 rfl) rfl ?_
    refine g_icmpge (pc := 219) (tgt := 286) (dd d_Mod_differ_1 57 rfl) (by decide) (fun q30 => ?_) (fun q30 => ?_)
    · replace h := ite_t h q30
      refine g_iconst (pc := 286) (v := (-1)) (dd d_Mod_differ_2 30 rfl) (by decide) ?_
      cases h
      exact g_iret (pc := 287) rfl (dd d_Mod_differ_2 31 rfl) hT
    · replace h := ite_f h q30
      refine g_aload_n (pc := 222) (dd d_Mod_differ_1 58 rfl) rfl ?_
      refine g_iload (pc := 223) (dd d_Mod_differ_1 59 rfl) rfl ?_
      refine g_iload (pc := 225) (dd d_Mod_differ_2 0 rfl) rfl ?_
      refine g_iload_n (pc := 227) (dd d_Mod_differ_2 1 rfl) rfl ?_
      obtain ⟨v31, e32, h⟩ := bnd_e h
      refine g_callV (pc := 228) (dd d_Mod_differ_2 2 rfl) v_Mod_605 ob_MO rfl (ef_Mod_setCase hX e32) rfl (by rw [hk]; decide) (Nat.le_of_ble_eq_true rfl) ⟨Nat.zero_le _, Nat.zero_le _⟩ rfl ?_
      refine g_aload_n (pc := 231) (dd d_Mod_differ_2 3 rfl) rfl ?_
      refine g_iload (pc := 232) (dd d_Mod_differ_2 4 rfl) rfl ?_
      refine g_iload (pc := 234) (dd d_Mod_differ_2 5 rfl) rfl ?_
      obtain ⟨v33, e34, h⟩ := bnd_e h
      refine g_callV (pc := 236) (dd d_Mod_differ_2 6 rfl) v_Mod_609 ob_MO rfl (ef_Mod_answerUnlike hX e34) rfl (by rw [hk]; decide) (Nat.le_of_ble_eq_true rfl) ⟨Nat.zero_le _, Nat.zero_le _⟩ rfl ?_
      refine g_ifeq (pc := 239) (tgt := 280) (dd d_Mod_differ_2 7 rfl) (by decide) (fun q35 => ?_) (fun q35 => ?_)
      · replace h := ite_t h q35
        refine g_iincW (pc := 280) (w := 1) (dd d_Mod_differ_2 28 rfl) rfl (by decide) (by decide) ?_
        refine g_goto (pc := 283) (tgt := 215) (dd d_Mod_differ_2 29 rfl) (by decide) ?_
        exact ih _ _ _ _ _ _ _ h
      · replace h := ite_f h q35
        refine g_aload_n (pc := 242) (dd d_Mod_differ_2 8 rfl) rfl ?_
        refine g_iconst (pc := 243) (v := 1) (dd d_Mod_differ_2 9 rfl) (by decide) ?_
        refine g_putzN (pc := 244) (dd d_Mod_differ_2 10 rfl) f_Mod_602 fm_Mod_71 ob_MO rfl (by decide) (fun I36 hI36 => ?_)
        replace h := lt_e h hI36
        refine g_iconst (pc := 247) (v := 0) (dd d_Mod_differ_2 11 rfl) (by decide) ?_
        refine g_istore (pc := 248) (dd d_Mod_differ_2 12 rfl) (by decide) ?_
        refine g_drop [2, 4, 5, 7, 8] ?_
        exact gl_Mod_differ_250 hX hk hT  _ _ _ _ h
def b_Mod_differ_192 (n : Nat)  (x2 : Int32) (x4 : Int32) (x5 : Int32) (x7 : Int32) (x8 : Int32) (I : IM) : Option (Int32 × IM) := if x8 ≤ (4096 : Int32) then (lt (up I MO 71 (0)) fun I28 => l_Mod_differ_215 n  n x2 x4 x5 x7 x8 0 I28) else (lt (up I MO 0 (3)) fun I29 => some (0, I29))
set_option maxRecDepth 20000 in
set_option maxHeartbeats 4000000 in
theorem gb_Mod_differ_192 {Δ : Dx} {X : Lx} (hX : MX Δ X)   {n : Nat} {Γ : Cx} (hk : Γ.k = 6) {r : Int32 × IM} (hT : Tg Δ Γ (some (.int r.1)) NN (r.2, X) 0 0)  {x2 : Int32} {x4 : Int32} {x5 : Int32} {x7 : Int32} {x8 : Int32} {I : IM} (h : b_Mod_differ_192 n  x2 x4 x5 x7 x8 I = some r) : GG Δ m_Mod_differ Γ NN 0 0 (I, X) 192 [some (.ref (Δ.ba + MO)), none, some (.int (x2)), none, some (.int (x4)), some (.int (x5)), none, some (.int (x7)), some (.int (x8)), none, none] [] := by
  unfold b_Mod_differ_192 at h
  refine g_iload (pc := 192) (dd d_Mod_differ_1 42 rfl) rfl ?_
  refine g_sipush (pc := 194) (v := 4096) (dd d_Mod_differ_1 43 rfl) (by decide) ?_
  refine g_icmple (pc := 197) (tgt := 207) (dd d_Mod_differ_1 44 rfl) (by decide) (fun q27 => ?_) (fun q27 => ?_)
  · replace h := ite_t h q27
    refine g_aload_n (pc := 207) (dd d_Mod_differ_1 50 rfl) rfl ?_
    refine g_iconst (pc := 208) (v := 0) (dd d_Mod_differ_1 51 rfl) (by decide) ?_
    refine g_putzN (pc := 209) (dd d_Mod_differ_1 52 rfl) f_Mod_602 fm_Mod_71 ob_MO rfl (by decide) (fun I28 hI28 => ?_)
    replace h := lt_e h hI28
    refine g_iconst (pc := 212) (v := 0) (dd d_Mod_differ_1 53 rfl) (by decide) ?_
    refine g_istore (pc := 213) (dd d_Mod_differ_1 54 rfl) (by decide) ?_
    exact gl_Mod_differ_215 hX hk hT  _ _ _ _ _ _ _ _ h
  · replace h := ite_f h q27
    refine g_aload_n (pc := 200) (dd d_Mod_differ_1 45 rfl) rfl ?_
    refine g_iconst (pc := 201) (v := 3) (dd d_Mod_differ_1 46 rfl) (by decide) ?_
    refine g_putiN (pc := 202) (dd d_Mod_differ_1 47 rfl) f_Mod_240 fm_Mod_0 ob_MO rfl (fun I29 hI29 => ?_)
    replace h := lt_e h hI29
    refine g_iconst (pc := 205) (v := 0) (dd d_Mod_differ_1 48 rfl) (by decide) ?_
    cases h
    exact g_iret (pc := 206) rfl (dd d_Mod_differ_1 49 rfl) hT
def l_Mod_differ_147 (n : Nat)  : Nat → Int32 → Int32 → Int32 → Int32 → Int32 → Int32 → IM → Option (Int32 × IM)
  | 0, _, _, _, _, _, _, _ => none
  | f + 1, x2, x4, x5, x7, x8, x9, I => if (15 : Int32) ≤ x9 then (b_Mod_differ_192 n  x2 x4 x5 x7 x8 I) else (if (4096 : Int32) < x8 then (b_Mod_differ_192 n  x2 x4 x5 x7 x8 I) else ((l_Mod_differ_147 n  f) x2 x4 x5 x7 (if (((x7 : Int32) >>> ((x9 : Int32) &&& 31)) &&& 1 : Int32) = (1 : Int32) then ((x8) * ((x2) + (1))) else x8) (x9 + 1) I))
set_option maxRecDepth 20000 in
set_option maxHeartbeats 4000000 in
theorem gl_Mod_differ_147 {Δ : Dx} {X : Lx} (hX : MX Δ X)   {n : Nat} {Γ : Cx} (hk : Γ.k = 6) {r : Int32 × IM} (hT : Tg Δ Γ (some (.int r.1)) NN (r.2, X) 0 0)  : ∀ (f : Nat) (x2 : Int32) (x4 : Int32) (x5 : Int32) (x7 : Int32) (x8 : Int32) (x9 : Int32) (I : IM), l_Mod_differ_147 n  f x2 x4 x5 x7 x8 x9 I = some r → GG Δ m_Mod_differ Γ NN 0 0 (I, X) 147 [some (.ref (Δ.ba + MO)), none, some (.int (x2)), none, some (.int (x4)), some (.int (x5)), none, some (.int (x7)), some (.int (x8)), some (.int (x9)), none] []
  | 0, _, _, _, _, _, _, _, h => by cases h
  | f + 1, x2, x4, x5, x7, x8, x9, I, h => by
    have ih := gl_Mod_differ_147 (n := n) hX hk hT  f
    rw [l_Mod_differ_147] at h
    refine g_iload (pc := 147) (dd d_Mod_differ_1 19 rfl) rfl ?_
    refine g_bipush (pc := 149) (v := 15) (dd d_Mod_differ_1 20 rfl) (by decide) ?_
    refine g_icmpge (pc := 151) (tgt := 192) (dd d_Mod_differ_1 21 rfl) (by decide) (fun q24 => ?_) (fun q24 => ?_)
    · replace h := ite_t h q24
      refine g_drop [9] ?_
      exact gb_Mod_differ_192 hX hk hT  h
    · replace h := ite_f h q24
      refine g_iload (pc := 154) (dd d_Mod_differ_1 22 rfl) rfl ?_
      refine g_sipush (pc := 156) (v := 4096) (dd d_Mod_differ_1 23 rfl) (by decide) ?_
      refine g_icmpgt (pc := 159) (tgt := 192) (dd d_Mod_differ_1 24 rfl) (by decide) (fun q25 => ?_) (fun q25 => ?_)
      · replace h := ite_t h q25
        refine g_drop [9] ?_
        exact gb_Mod_differ_192 hX hk hT  h
      · replace h := ite_f h q25
        refine g_iload (pc := 162) (dd d_Mod_differ_1 25 rfl) rfl ?_
        refine g_iload (pc := 164) (dd d_Mod_differ_1 26 rfl) rfl ?_
        refine g_ishr (pc := 166) (dd d_Mod_differ_1 27 rfl) ?_
        refine g_iconst (pc := 167) (v := 1) (dd d_Mod_differ_1 28 rfl) (by decide) ?_
        refine g_iand (pc := 168) (dd d_Mod_differ_1 29 rfl) ?_
        refine g_iconst (pc := 169) (v := 1) (dd d_Mod_differ_1 30 rfl) (by decide) ?_
        suffices K170 : ∀ z : Int32, z = (if (((x7 : Int32) >>> ((x9 : Int32) &&& 31)) &&& 1 : Int32) = (1 : Int32) then ((x8) * ((x2) + (1))) else x8 : Int32) → GG Δ m_Mod_differ Γ NN 0 0 (I, X) 184 [some (.ref (Δ.ba + MO)), none, some (.int (x2)), none, some (.int (x4)), some (.int (x5)), none, some (.int (x7)), some (.int (x8)), some (.int (x9)), none] [.int (z)] by
          refine g_icmpne (pc := 170) (tgt := 182) (dd d_Mod_differ_1 31 rfl) (by decide) (fun q26 => ?_) (fun q26 => ?_)
          · skip
            refine g_iload (pc := 182) (dd d_Mod_differ_1 38 rfl) rfl ?_
            exact K170 _ (by rw [if_neg q26])
          · skip
            refine g_iload (pc := 173) (dd d_Mod_differ_1 32 rfl) rfl ?_
            refine g_iload_n (pc := 175) (dd d_Mod_differ_1 33 rfl) rfl ?_
            refine g_iconst (pc := 176) (v := 1) (dd d_Mod_differ_1 34 rfl) (by decide) ?_
            refine g_iadd (pc := 177) (dd d_Mod_differ_1 35 rfl) ?_
            refine g_imul (pc := 178) (dd d_Mod_differ_1 36 rfl) ?_
            refine g_goto (pc := 179) (tgt := 184) (dd d_Mod_differ_1 37 rfl) (by decide) ?_
            exact K170 _ (by rw [if_pos q26])
        intro z hz
        subst hz
        refine g_istore (pc := 184) (dd d_Mod_differ_1 39 rfl) (by decide) ?_
        refine g_iincW (pc := 186) (w := 1) (dd d_Mod_differ_1 40 rfl) rfl (by decide) (by decide) ?_
        refine g_goto (pc := 189) (tgt := 147) (dd d_Mod_differ_1 41 rfl) (by decide) ?_
        exact ih _ _ _ _ _ _ _ h
def b_Mod_differ_97 (n : Nat)  (x2 : Int32) (x3 : Int32) (x4 : Int32) (x5 : Int32) (y0 : Int32) (I : IM) : Option (Int32 × IM) := Option.bind (f_Mod_refuse  (if x3 = 0 then 1 else 0) (if x3 = 0 then 0 else (if y0 = 0 then 1 else 0)) I) fun v43 => if (v43.1 : Int32) = 0 then (Option.bind (f_Mod_namesOf n x4 x5 v43.2) fun v46 => l_Mod_differ_147 n  n x2 x4 x5 v46 1 0 v43.2) else (some (0, v43.2))
set_option maxRecDepth 20000 in
set_option maxHeartbeats 4000000 in
theorem gb_Mod_differ_97 {Δ : Dx} {X : Lx} (hX : MX Δ X)   {n : Nat} {Γ : Cx} (hk : Γ.k = 6) {r : Int32 × IM} (hT : Tg Δ Γ (some (.int r.1)) NN (r.2, X) 0 0)  {x2 : Int32} {x3 : Int32} {x4 : Int32} {x5 : Int32} {y0 : Int32} {I : IM} (h : b_Mod_differ_97 n  x2 x3 x4 x5 y0 I = some r) : GG Δ m_Mod_differ Γ NN 0 0 (I, X) 97 [some (.ref (Δ.ba + MO)), none, some (.int (x2)), some (.int (x3)), some (.int (x4)), some (.int (x5)), none, none, none, none, none] [.int (y0)] := by
  unfold b_Mod_differ_97 at h
  refine g_istore (pc := 97) (dd d_Mod_differ 52 rfl) (by decide) ?_
  refine g_aload_n (pc := 99) (dd d_Mod_differ 53 rfl) rfl ?_
  refine g_iload_n (pc := 100) (dd d_Mod_differ 54 rfl) rfl ?_
  suffices K101 : ∀ z : Int32, z = (if x3 = 0 then 1 else 0 : Int32) → GG Δ m_Mod_differ Γ NN 0 0 (I, X) 109 [some (.ref (Δ.ba + MO)), none, some (.int (x2)), some (.int (x3)), some (.int (x4)), some (.int (x5)), some (.int (y0)), none, none, none, none] [.int (z), .ref (Δ.ba + MO)] by
    refine g_ifne (pc := 101) (tgt := 108) (dd d_Mod_differ 55 rfl) (by decide) (fun q40 => ?_) (fun q40 => ?_)
    · skip
      refine g_iconst (pc := 108) (v := 0) (dd d_Mod_differ 58 rfl) (by decide) ?_
      exact K101 _ (by rw [if_neg q40])
    · skip
      refine g_iconst (pc := 104) (v := 1) (dd d_Mod_differ 56 rfl) (by decide) ?_
      refine g_goto (pc := 105) (tgt := 109) (dd d_Mod_differ 57 rfl) (by decide) ?_
      exact K101 _ (by rw [if_pos q40])
  intro z hz
  subst hz
  refine g_iload_n (pc := 109) (dd d_Mod_differ 59 rfl) rfl ?_
  suffices K110 : ∀ z : Int32, z = (if x3 = 0 then 0 else (if y0 = 0 then 1 else 0) : Int32) → GG Δ m_Mod_differ Γ NN 0 0 (I, X) 123 [some (.ref (Δ.ba + MO)), none, some (.int (x2)), some (.int (x3)), some (.int (x4)), some (.int (x5)), some (.int (y0)), none, none, none, none] [.int (z), .int (if x3 = 0 then 1 else 0), .ref (Δ.ba + MO)] by
    refine g_ifeq (pc := 110) (tgt := 122) (dd d_Mod_differ_1 0 rfl) (by decide) (fun q41 => ?_) (fun q41 => ?_)
    · skip
      refine g_iconst (pc := 122) (v := 0) (dd d_Mod_differ_1 5 rfl) (by decide) ?_
      exact K110 _ (by rw [if_pos q41])
    · skip
      refine g_iload (pc := 113) (dd d_Mod_differ_1 1 rfl) rfl ?_
      refine g_ifne (pc := 115) (tgt := 122) (dd d_Mod_differ_1 2 rfl) (by decide) (fun q42 => ?_) (fun q42 => ?_)
      · skip
        refine g_iconst (pc := 122) (v := 0) (dd d_Mod_differ_1 5 rfl) (by decide) ?_
        exact K110 _ (by rw [if_neg q41, if_neg q42])
      · skip
        refine g_iconst (pc := 118) (v := 1) (dd d_Mod_differ_1 3 rfl) (by decide) ?_
        refine g_goto (pc := 119) (tgt := 123) (dd d_Mod_differ_1 4 rfl) (by decide) ?_
        exact K110 _ (by rw [if_neg q41, if_pos q42])
  intro z hz
  subst hz
  obtain ⟨v43, e44, h⟩ := bnd_e h
  refine g_callV (pc := 123) (dd d_Mod_differ_1 6 rfl) v_Mod_250 ob_MO rfl (ef_Mod_refuse hX e44) rfl (by rw [hk]; decide) (Nat.le_of_ble_eq_true rfl) ⟨Nat.zero_le _, Nat.zero_le _⟩ rfl ?_
  refine g_ifeq (pc := 126) (tgt := 131) (dd d_Mod_differ_1 7 rfl) (by decide) (fun q45 => ?_) (fun q45 => ?_)
  · replace h := ite_t h q45
    refine g_aload_n (pc := 131) (dd d_Mod_differ_1 10 rfl) rfl ?_
    refine g_iload (pc := 132) (dd d_Mod_differ_1 11 rfl) rfl ?_
    refine g_iload (pc := 134) (dd d_Mod_differ_1 12 rfl) rfl ?_
    obtain ⟨v46, e47, h⟩ := bnd_e h
    refine g_callV (pc := 136) (dd d_Mod_differ_1 13 rfl) v_Mod_599 ob_MO rfl (ef_Mod_namesOf hX e47) rfl (by rw [hk]; decide) (Nat.le_of_ble_eq_true rfl) ⟨Nat.zero_le _, Nat.zero_le _⟩ rfl ?_
    refine g_istore (pc := 139) (dd d_Mod_differ_1 14 rfl) (by decide) ?_
    refine g_iconst (pc := 141) (v := 1) (dd d_Mod_differ_1 15 rfl) (by decide) ?_
    refine g_istore (pc := 142) (dd d_Mod_differ_1 16 rfl) (by decide) ?_
    refine g_iconst (pc := 144) (v := 0) (dd d_Mod_differ_1 17 rfl) (by decide) ?_
    refine g_istore (pc := 145) (dd d_Mod_differ_1 18 rfl) (by decide) ?_
    refine g_drop [3, 6] ?_
    exact gl_Mod_differ_147 hX hk hT  _ _ _ _ _ _ _ _ h
  · replace h := ite_f h q45
    refine g_iconst (pc := 129) (v := 0) (dd d_Mod_differ_1 8 rfl) (by decide) ?_
    cases h
    exact g_iret (pc := 130) rfl (dd d_Mod_differ_1 9 rfl) hT
def b_Mod_differ_96 (n : Nat)  (x2 : Int32) (x3 : Int32) (x4 : Int32) (x5 : Int32) (I : IM) : Option (Int32 × IM) := b_Mod_differ_97 n  x2 x3 x4 x5 0 I
set_option maxRecDepth 20000 in
set_option maxHeartbeats 4000000 in
theorem gb_Mod_differ_96 {Δ : Dx} {X : Lx} (hX : MX Δ X)   {n : Nat} {Γ : Cx} (hk : Γ.k = 6) {r : Int32 × IM} (hT : Tg Δ Γ (some (.int r.1)) NN (r.2, X) 0 0)  {x2 : Int32} {x3 : Int32} {x4 : Int32} {x5 : Int32} {I : IM} (h : b_Mod_differ_96 n  x2 x3 x4 x5 I = some r) : GG Δ m_Mod_differ Γ NN 0 0 (I, X) 96 [some (.ref (Δ.ba + MO)), none, some (.int (x2)), some (.int (x3)), some (.int (x4)), some (.int (x5)), none, none, none, none, none] [] := by
  unfold b_Mod_differ_96 at h
  refine g_iconst (pc := 96) (v := 0) (dd d_Mod_differ 51 rfl) (by decide) ?_
  exact gb_Mod_differ_97 hX hk hT  h
def b_Mod_differ_59 (n : Nat)  (x2 : Int32) (x3 : Int32) (x4 : Int32) (y0 : Int32) (I : IM) : Option (Int32 × IM) := if x4 < 0 then (b_Mod_differ_96 n  x2 x3 x4 y0 I) else (if y0 < 0 then (b_Mod_differ_96 n  x2 x3 x4 y0 I) else (chk (inb x4 602) <| chk (inb y0 602) <| Option.bind (f_Mod_refuse  (if x3 = 0 then 1 else 0) (if x3 = 0 then 0 else (if (if (32768 : Int32) ≤ ((I A_named x4.toNatClampNeg) ||| (I A_named y0.toNatClampNeg) : Int32) then 0 else 1 : Int32) = 0 then 1 else 0)) I) fun v19 => if (v19.1 : Int32) = 0 then (Option.bind (f_Mod_namesOf n x4 y0 v19.2) fun v22 => l_Mod_differ_147 n  n x2 x4 y0 v22 1 0 v19.2) else (some (0, v19.2))))
set_option maxRecDepth 20000 in
set_option maxHeartbeats 4000000 in
theorem gb_Mod_differ_59 {Δ : Dx} {X : Lx} (hX : MX Δ X)   {n : Nat} {Γ : Cx} (hk : Γ.k = 6) {r : Int32 × IM} (hT : Tg Δ Γ (some (.int r.1)) NN (r.2, X) 0 0)  {x2 : Int32} {x3 : Int32} {x4 : Int32} {y0 : Int32} {I : IM} (h : b_Mod_differ_59 n  x2 x3 x4 y0 I = some r) : GG Δ m_Mod_differ Γ NN 0 0 (I, X) 59 [some (.ref (Δ.ba + MO)), none, some (.int (x2)), some (.int (x3)), some (.int (x4)), none, none, none, none, none, none] [.int (y0)] := by
  unfold b_Mod_differ_59 at h
  refine g_istore (pc := 59) (dd d_Mod_differ 33 rfl) (by decide) ?_
  refine g_iload (pc := 61) (dd d_Mod_differ 34 rfl) rfl ?_
  refine g_iflt (pc := 63) (tgt := 96) (dd d_Mod_differ 35 rfl) (by decide) (fun q11 => ?_) (fun q11 => ?_)
  · replace h := ite_t h q11
    exact gb_Mod_differ_96 hX hk hT  h
  · replace h := ite_f h q11
    refine g_iload (pc := 66) (dd d_Mod_differ 36 rfl) rfl ?_
    refine g_iflt (pc := 68) (tgt := 96) (dd d_Mod_differ 37 rfl) (by decide) (fun q12 => ?_) (fun q12 => ?_)
    · replace h := ite_t h q12
      exact gb_Mod_differ_96 hX hk hT  h
    · replace h := ite_f h q12
      refine g_aload_n (pc := 71) (dd d_Mod_differ 38 rfl) rfl ?_
      refine g_getr (pc := 72) (dd d_Mod_differ 39 rfl) f_Mod_47 ob_MO rfl (mr_named hX) ?_
      refine g_iload (pc := 75) (dd d_Mod_differ 40 rfl) rfl ?_
      obtain ⟨c13, h⟩ := chk_e h
      refine g_iald (pc := 77) (dd d_Mod_differ 41 rfl) ar_A_named c13 ?_
      refine g_aload_n (pc := 78) (dd d_Mod_differ 42 rfl) rfl ?_
      refine g_getr (pc := 79) (dd d_Mod_differ 43 rfl) f_Mod_47 ob_MO rfl (mr_named hX) ?_
      refine g_iload (pc := 82) (dd d_Mod_differ 44 rfl) rfl ?_
      obtain ⟨c14, h⟩ := chk_e h
      refine g_iald (pc := 84) (dd d_Mod_differ 45 rfl) ar_A_named c14 ?_
      refine g_ior (pc := 85) (dd d_Mod_differ 46 rfl) ?_
      refine g_ldcw (pc := 86) (dd d_Mod_differ 47 rfl) c_Mod_340 ?_
      suffices K89 : ∀ z : Int32, z = (if (32768 : Int32) ≤ ((I A_named x4.toNatClampNeg) ||| (I A_named y0.toNatClampNeg) : Int32) then 0 else 1 : Int32) → GG Δ m_Mod_differ Γ NN 0 0 (I, X) 97 [some (.ref (Δ.ba + MO)), none, some (.int (x2)), some (.int (x3)), some (.int (x4)), some (.int (y0)), none, none, none, none, none] [.int (z)] by
        refine g_icmpge (pc := 89) (tgt := 96) (dd d_Mod_differ 48 rfl) (by decide) (fun q15 => ?_) (fun q15 => ?_)
        · skip
          refine g_iconst (pc := 96) (v := 0) (dd d_Mod_differ 51 rfl) (by decide) ?_
          exact K89 _ (by rw [if_pos q15])
        · skip
          refine g_iconst (pc := 92) (v := 1) (dd d_Mod_differ 49 rfl) (by decide) ?_
          refine g_goto (pc := 93) (tgt := 97) (dd d_Mod_differ 50 rfl) (by decide) ?_
          exact K89 _ (by rw [if_neg q15])
      intro z hz
      subst hz
      refine g_istore (pc := 97) (dd d_Mod_differ 52 rfl) (by decide) ?_
      refine g_aload_n (pc := 99) (dd d_Mod_differ 53 rfl) rfl ?_
      refine g_iload_n (pc := 100) (dd d_Mod_differ 54 rfl) rfl ?_
      suffices K101 : ∀ z : Int32, z = (if x3 = 0 then 1 else 0 : Int32) → GG Δ m_Mod_differ Γ NN 0 0 (I, X) 109 [some (.ref (Δ.ba + MO)), none, some (.int (x2)), some (.int (x3)), some (.int (x4)), some (.int (y0)), some (.int (if (32768 : Int32) ≤ ((I A_named x4.toNatClampNeg) ||| (I A_named y0.toNatClampNeg) : Int32) then 0 else 1)), none, none, none, none] [.int (z), .ref (Δ.ba + MO)] by
        refine g_ifne (pc := 101) (tgt := 108) (dd d_Mod_differ 55 rfl) (by decide) (fun q16 => ?_) (fun q16 => ?_)
        · skip
          refine g_iconst (pc := 108) (v := 0) (dd d_Mod_differ 58 rfl) (by decide) ?_
          exact K101 _ (by rw [if_neg q16])
        · skip
          refine g_iconst (pc := 104) (v := 1) (dd d_Mod_differ 56 rfl) (by decide) ?_
          refine g_goto (pc := 105) (tgt := 109) (dd d_Mod_differ 57 rfl) (by decide) ?_
          exact K101 _ (by rw [if_pos q16])
      intro z hz
      subst hz
      refine g_iload_n (pc := 109) (dd d_Mod_differ 59 rfl) rfl ?_
      suffices K110 : ∀ z : Int32, z = (if x3 = 0 then 0 else (if (if (32768 : Int32) ≤ ((I A_named x4.toNatClampNeg) ||| (I A_named y0.toNatClampNeg) : Int32) then 0 else 1 : Int32) = 0 then 1 else 0) : Int32) → GG Δ m_Mod_differ Γ NN 0 0 (I, X) 123 [some (.ref (Δ.ba + MO)), none, some (.int (x2)), some (.int (x3)), some (.int (x4)), some (.int (y0)), some (.int (if (32768 : Int32) ≤ ((I A_named x4.toNatClampNeg) ||| (I A_named y0.toNatClampNeg) : Int32) then 0 else 1)), none, none, none, none] [.int (z), .int (if x3 = 0 then 1 else 0), .ref (Δ.ba + MO)] by
        refine g_ifeq (pc := 110) (tgt := 122) (dd d_Mod_differ_1 0 rfl) (by decide) (fun q17 => ?_) (fun q17 => ?_)
        · skip
          refine g_iconst (pc := 122) (v := 0) (dd d_Mod_differ_1 5 rfl) (by decide) ?_
          exact K110 _ (by rw [if_pos q17])
        · skip
          refine g_iload (pc := 113) (dd d_Mod_differ_1 1 rfl) rfl ?_
          refine g_ifne (pc := 115) (tgt := 122) (dd d_Mod_differ_1 2 rfl) (by decide) (fun q18 => ?_) (fun q18 => ?_)
          · skip
            refine g_iconst (pc := 122) (v := 0) (dd d_Mod_differ_1 5 rfl) (by decide) ?_
            exact K110 _ (by rw [if_neg q17, if_neg q18])
          · skip
            refine g_iconst (pc := 118) (v := 1) (dd d_Mod_differ_1 3 rfl) (by decide) ?_
            refine g_goto (pc := 119) (tgt := 123) (dd d_Mod_differ_1 4 rfl) (by decide) ?_
            exact K110 _ (by rw [if_neg q17, if_pos q18])
      intro z hz
      subst hz
      obtain ⟨v19, e20, h⟩ := bnd_e h
      refine g_callV (pc := 123) (dd d_Mod_differ_1 6 rfl) v_Mod_250 ob_MO rfl (ef_Mod_refuse hX e20) rfl (by rw [hk]; decide) (Nat.le_of_ble_eq_true rfl) ⟨Nat.zero_le _, Nat.zero_le _⟩ rfl ?_
      refine g_ifeq (pc := 126) (tgt := 131) (dd d_Mod_differ_1 7 rfl) (by decide) (fun q21 => ?_) (fun q21 => ?_)
      · replace h := ite_t h q21
        refine g_aload_n (pc := 131) (dd d_Mod_differ_1 10 rfl) rfl ?_
        refine g_iload (pc := 132) (dd d_Mod_differ_1 11 rfl) rfl ?_
        refine g_iload (pc := 134) (dd d_Mod_differ_1 12 rfl) rfl ?_
        obtain ⟨v22, e23, h⟩ := bnd_e h
        refine g_callV (pc := 136) (dd d_Mod_differ_1 13 rfl) v_Mod_599 ob_MO rfl (ef_Mod_namesOf hX e23) rfl (by rw [hk]; decide) (Nat.le_of_ble_eq_true rfl) ⟨Nat.zero_le _, Nat.zero_le _⟩ rfl ?_
        refine g_istore (pc := 139) (dd d_Mod_differ_1 14 rfl) (by decide) ?_
        refine g_iconst (pc := 141) (v := 1) (dd d_Mod_differ_1 15 rfl) (by decide) ?_
        refine g_istore (pc := 142) (dd d_Mod_differ_1 16 rfl) (by decide) ?_
        refine g_iconst (pc := 144) (v := 0) (dd d_Mod_differ_1 17 rfl) (by decide) ?_
        refine g_istore (pc := 145) (dd d_Mod_differ_1 18 rfl) (by decide) ?_
        refine g_drop [3, 6] ?_
        exact gl_Mod_differ_147 hX hk hT  _ _ _ _ _ _ _ _ h
      · replace h := ite_f h q21
        refine g_iconst (pc := 129) (v := 0) (dd d_Mod_differ_1 8 rfl) (by decide) ?_
        cases h
        exact g_iret (pc := 130) rfl (dd d_Mod_differ_1 9 rfl) hT
def b_Mod_differ_40 (n : Nat)  (x1 : Int32) (x2 : Int32) (x3 : Int32) (y0 : Int32) (I : IM) : Option (Int32 × IM) := if x3 = 0 then (b_Mod_differ_59 n  x2 x3 y0 (-1) I) else (chk (inb (22 + x1) 44) <| b_Mod_differ_59 n  x2 x3 y0 (I A_ruleOf (22 + x1 : Int32).toNatClampNeg) I)
set_option maxRecDepth 20000 in
set_option maxHeartbeats 4000000 in
theorem gb_Mod_differ_40 {Δ : Dx} {X : Lx} (hX : MX Δ X)   {n : Nat} {Γ : Cx} (hk : Γ.k = 6) {r : Int32 × IM} (hT : Tg Δ Γ (some (.int r.1)) NN (r.2, X) 0 0)  {x1 : Int32} {x2 : Int32} {x3 : Int32} {y0 : Int32} {I : IM} (h : b_Mod_differ_40 n  x1 x2 x3 y0 I = some r) : GG Δ m_Mod_differ Γ NN 0 0 (I, X) 40 [some (.ref (Δ.ba + MO)), some (.int (x1)), some (.int (x2)), some (.int (x3)), none, none, none, none, none, none, none] [.int (y0)] := by
  unfold b_Mod_differ_40 at h
  refine g_istore (pc := 40) (dd d_Mod_differ 22 rfl) (by decide) ?_
  refine g_iload_n (pc := 42) (dd d_Mod_differ 23 rfl) rfl ?_
  refine g_ifeq (pc := 43) (tgt := 58) (dd d_Mod_differ 24 rfl) (by decide) (fun q9 => ?_) (fun q9 => ?_)
  · replace h := ite_t h q9
    refine g_iconst (pc := 58) (v := (-1)) (dd d_Mod_differ 32 rfl) (by decide) ?_
    refine g_drop [1] ?_
    exact gb_Mod_differ_59 hX hk hT  h
  · replace h := ite_f h q9
    refine g_aload_n (pc := 46) (dd d_Mod_differ 25 rfl) rfl ?_
    refine g_getr (pc := 47) (dd d_Mod_differ 26 rfl) f_Mod_44 ob_MO rfl (mr_ruleOf hX) ?_
    refine g_bipush (pc := 50) (v := 22) (dd d_Mod_differ 27 rfl) (by decide) ?_
    refine g_iload_n (pc := 52) (dd d_Mod_differ 28 rfl) rfl ?_
    refine g_iadd (pc := 53) (dd d_Mod_differ 29 rfl) ?_
    obtain ⟨c10, h⟩ := chk_e h
    refine g_iald (pc := 54) (dd d_Mod_differ 30 rfl) ar_A_ruleOf c10 ?_
    refine g_goto (pc := 55) (tgt := 59) (dd d_Mod_differ 31 rfl) (by decide) ?_
    refine g_drop [1] ?_
    exact gb_Mod_differ_59 hX hk hT  h
def b_Mod_differ_25 (n : Nat)  (x1 : Int32) (x2 : Int32) (y0 : Int32) (I : IM) : Option (Int32 × IM) := if y0 = 0 then (b_Mod_differ_40 n  x1 x2 y0 (-1) I) else (chk (inb x1 44) <| b_Mod_differ_40 n  x1 x2 y0 (I A_ruleOf x1.toNatClampNeg) I)
set_option maxRecDepth 20000 in
set_option maxHeartbeats 4000000 in
theorem gb_Mod_differ_25 {Δ : Dx} {X : Lx} (hX : MX Δ X)   {n : Nat} {Γ : Cx} (hk : Γ.k = 6) {r : Int32 × IM} (hT : Tg Δ Γ (some (.int r.1)) NN (r.2, X) 0 0)  {x1 : Int32} {x2 : Int32} {y0 : Int32} {I : IM} (h : b_Mod_differ_25 n  x1 x2 y0 I = some r) : GG Δ m_Mod_differ Γ NN 0 0 (I, X) 25 [some (.ref (Δ.ba + MO)), some (.int (x1)), some (.int (x2)), none, none, none, none, none, none, none, none] [.int (y0)] := by
  unfold b_Mod_differ_25 at h
  refine g_istore_n (pc := 25) (dd d_Mod_differ 13 rfl) (by decide) ?_
  refine g_iload_n (pc := 26) (dd d_Mod_differ 14 rfl) rfl ?_
  refine g_ifeq (pc := 27) (tgt := 39) (dd d_Mod_differ 15 rfl) (by decide) (fun q48 => ?_) (fun q48 => ?_)
  · replace h := ite_t h q48
    refine g_iconst (pc := 39) (v := (-1)) (dd d_Mod_differ 21 rfl) (by decide) ?_
    exact gb_Mod_differ_40 hX hk hT  h
  · replace h := ite_f h q48
    refine g_aload_n (pc := 30) (dd d_Mod_differ 16 rfl) rfl ?_
    refine g_getr (pc := 31) (dd d_Mod_differ 17 rfl) f_Mod_44 ob_MO rfl (mr_ruleOf hX) ?_
    refine g_iload_n (pc := 34) (dd d_Mod_differ 18 rfl) rfl ?_
    obtain ⟨c49, h⟩ := chk_e h
    refine g_iald (pc := 35) (dd d_Mod_differ 19 rfl) ar_A_ruleOf c49 ?_
    refine g_goto (pc := 36) (tgt := 40) (dd d_Mod_differ 20 rfl) (by decide) ?_
    exact gb_Mod_differ_40 hX hk hT  h
def b_Mod_differ_24 (n : Nat)  (x1 : Int32) (x2 : Int32) (I : IM) : Option (Int32 × IM) := b_Mod_differ_25 n  x1 x2 0 I
set_option maxRecDepth 20000 in
set_option maxHeartbeats 4000000 in
theorem gb_Mod_differ_24 {Δ : Dx} {X : Lx} (hX : MX Δ X)   {n : Nat} {Γ : Cx} (hk : Γ.k = 6) {r : Int32 × IM} (hT : Tg Δ Γ (some (.int r.1)) NN (r.2, X) 0 0)  {x1 : Int32} {x2 : Int32} {I : IM} (h : b_Mod_differ_24 n  x1 x2 I = some r) : GG Δ m_Mod_differ Γ NN 0 0 (I, X) 24 [some (.ref (Δ.ba + MO)), some (.int (x1)), some (.int (x2)), none, none, none, none, none, none, none, none] [] := by
  unfold b_Mod_differ_24 at h
  refine g_iconst (pc := 24) (v := 0) (dd d_Mod_differ 12 rfl) (by decide) ?_
  exact gb_Mod_differ_25 hX hk hT  h
def f_Mod_differ (n : Nat) (x1 : Int32) (x2 : Int32) (I : IM) : Option (Int32 × IM) := Option.bind (f_Mod_in  x1 0 21 I) fun v1 => if v1 = 0 then (b_Mod_differ_24 n  x1 x2 I) else (Option.bind (f_Mod_in  x2 1 7 I) fun v4 => if (if v4 = 0 then 0 else 1 : Int32) = 0 then (b_Mod_differ_40 n  x1 x2 (if v4 = 0 then 0 else 1) (-1) I) else (chk (inb x1 44) <| b_Mod_differ_40 n  x1 x2 (if v4 = 0 then 0 else 1) (I A_ruleOf x1.toNatClampNeg) I))
set_option maxRecDepth 20000 in
set_option maxHeartbeats 4000000 in
theorem ef_Mod_differ {Δ : Dx} {X : Lx} (hX : MX Δ X) {n : Nat} {x1 : Int32} {x2 : Int32}  {I : IM}  {r : Int32 × IM} (h : f_Mod_differ n x1 x2 I = some r) : Ev Δ 6 m_Mod_differ [.ref (Δ.ba + MO), .int x1, .int x2] (I, X) (some (.int r.1)) (r.2, X) := by
  refine ev_of (by decide) (Nat.le_of_ble_eq_true rfl) (fun Γ hk hR hT => ?_)
  change GG Δ m_Mod_differ Γ NN 0 0 (I, X) 0 [some (.ref (Δ.ba + MO)), some (.int (x1)), some (.int (x2)), none, none, none, none, none, none, none, none] []
  unfold f_Mod_differ at h
  refine g_iload_n (pc := 0) (dd d_Mod_differ 0 rfl) rfl ?_
  refine g_iconst (pc := 1) (v := 0) (dd d_Mod_differ 1 rfl) (by decide) ?_
  refine g_bipush (pc := 2) (v := 21) (dd d_Mod_differ 2 rfl) (by decide) ?_
  obtain ⟨v1, e2, h⟩ := bnd_e h
  refine g_callS (pc := 4) (dd d_Mod_differ 3 rfl) s_Mod_243 (ef_Mod_in hX e2) rfl (by rw [hk]; decide) (Nat.le_of_ble_eq_true rfl) ⟨Nat.zero_le _, Nat.zero_le _⟩ rfl ?_
  refine g_ifeq (pc := 7) (tgt := 24) (dd d_Mod_differ 4 rfl) (by decide) (fun q3 => ?_) (fun q3 => ?_)
  · replace h := ite_t h q3
    exact gb_Mod_differ_24 hX hk hT  h
  · replace h := ite_f h q3
    refine g_iload_n (pc := 10) (dd d_Mod_differ 5 rfl) rfl ?_
    refine g_iconst (pc := 11) (v := 1) (dd d_Mod_differ 6 rfl) (by decide) ?_
    refine g_bipush (pc := 12) (v := 7) (dd d_Mod_differ 7 rfl) (by decide) ?_
    obtain ⟨v4, e5, h⟩ := bnd_e h
    refine g_callS (pc := 14) (dd d_Mod_differ 8 rfl) s_Mod_243 (ef_Mod_in hX e5) rfl (by rw [hk]; decide) (Nat.le_of_ble_eq_true rfl) ⟨Nat.zero_le _, Nat.zero_le _⟩ rfl ?_
    suffices K17 : ∀ z : Int32, z = (if v4 = 0 then 0 else 1 : Int32) → GG Δ m_Mod_differ Γ NN 0 0 (I, X) 25 [some (.ref (Δ.ba + MO)), some (.int (x1)), some (.int (x2)), none, none, none, none, none, none, none, none] [.int (z)] by
      refine g_ifeq (pc := 17) (tgt := 24) (dd d_Mod_differ 9 rfl) (by decide) (fun q6 => ?_) (fun q6 => ?_)
      · skip
        refine g_iconst (pc := 24) (v := 0) (dd d_Mod_differ 12 rfl) (by decide) ?_
        exact K17 _ (by rw [if_pos q6])
      · skip
        refine g_iconst (pc := 20) (v := 1) (dd d_Mod_differ 10 rfl) (by decide) ?_
        refine g_goto (pc := 21) (tgt := 25) (dd d_Mod_differ 11 rfl) (by decide) ?_
        exact K17 _ (by rw [if_neg q6])
    intro z hz
    subst hz
    refine g_istore_n (pc := 25) (dd d_Mod_differ 13 rfl) (by decide) ?_
    refine g_iload_n (pc := 26) (dd d_Mod_differ 14 rfl) rfl ?_
    refine g_ifeq (pc := 27) (tgt := 39) (dd d_Mod_differ 15 rfl) (by decide) (fun q7 => ?_) (fun q7 => ?_)
    · replace h := ite_t h q7
      refine g_iconst (pc := 39) (v := (-1)) (dd d_Mod_differ 21 rfl) (by decide) ?_
      exact gb_Mod_differ_40 hX hk hT  h
    · replace h := ite_f h q7
      refine g_aload_n (pc := 30) (dd d_Mod_differ 16 rfl) rfl ?_
      refine g_getr (pc := 31) (dd d_Mod_differ 17 rfl) f_Mod_44 ob_MO rfl (mr_ruleOf hX) ?_
      refine g_iload_n (pc := 34) (dd d_Mod_differ 18 rfl) rfl ?_
      obtain ⟨c8, h⟩ := chk_e h
      refine g_iald (pc := 35) (dd d_Mod_differ 19 rfl) ar_A_ruleOf c8 ?_
      refine g_goto (pc := 36) (tgt := 40) (dd d_Mod_differ 20 rfl) (by decide) ?_
      exact gb_Mod_differ_40 hX hk hT  h
def f_Mod_witness (x1 : Int32) (I : IM) : Option (Int32 × IM) := Option.bind (f_Mod_in  x1 0 14 I) fun v1 => Option.bind (f_Mod_refuse  (if v1 = 0 then 1 else 0) (if v1 = 0 then 0 else (if (I MO 71 : Int32) = 0 then 1 else 0)) I) fun v6 => if (v6.1 : Int32) = 0 then (chk (inb x1 15) <| some (v6.2 A_witness x1.toNatClampNeg, v6.2)) else (some (0, v6.2))
set_option maxRecDepth 20000 in
set_option maxHeartbeats 4000000 in
theorem ef_Mod_witness {Δ : Dx} {X : Lx} (hX : MX Δ X) {x1 : Int32}  {I : IM}  {r : Int32 × IM} (h : f_Mod_witness x1 I = some r) : Ev Δ 1 m_Mod_witness [.ref (Δ.ba + MO), .int x1] (I, X) (some (.int r.1)) (r.2, X) := by
  refine ev_of (by decide) (Nat.le_of_ble_eq_true rfl) (fun Γ hk hR hT => ?_)
  change GG Δ m_Mod_witness Γ NN 0 0 (I, X) 0 [some (.ref (Δ.ba + MO)), some (.int (x1)), none] []
  unfold f_Mod_witness at h
  refine g_iload_n (pc := 0) (dd d_Mod_witness 0 rfl) rfl ?_
  refine g_iconst (pc := 1) (v := 0) (dd d_Mod_witness 1 rfl) (by decide) ?_
  refine g_bipush (pc := 2) (v := 14) (dd d_Mod_witness 2 rfl) (by decide) ?_
  obtain ⟨v1, e2, h⟩ := bnd_e h
  refine g_callS (pc := 4) (dd d_Mod_witness 3 rfl) s_Mod_243 (ef_Mod_in hX e2) rfl (by rw [hk]; decide) (Nat.le_of_ble_eq_true rfl) ⟨Nat.zero_le _, Nat.zero_le _⟩ rfl ?_
  refine g_istore_n (pc := 7) (dd d_Mod_witness 4 rfl) (by decide) ?_
  refine g_aload_n (pc := 8) (dd d_Mod_witness 5 rfl) rfl ?_
  refine g_iload_n (pc := 9) (dd d_Mod_witness 6 rfl) rfl ?_
  suffices K10 : ∀ z : Int32, z = (if v1 = 0 then 1 else 0 : Int32) → GG Δ m_Mod_witness Γ NN 0 0 (I, X) 18 [some (.ref (Δ.ba + MO)), some (.int (x1)), some (.int (v1))] [.int (z), .ref (Δ.ba + MO)] by
    refine g_ifne (pc := 10) (tgt := 17) (dd d_Mod_witness 7 rfl) (by decide) (fun q3 => ?_) (fun q3 => ?_)
    · skip
      refine g_iconst (pc := 17) (v := 0) (dd d_Mod_witness 10 rfl) (by decide) ?_
      exact K10 _ (by rw [if_neg q3])
    · skip
      refine g_iconst (pc := 13) (v := 1) (dd d_Mod_witness 8 rfl) (by decide) ?_
      refine g_goto (pc := 14) (tgt := 18) (dd d_Mod_witness 9 rfl) (by decide) ?_
      exact K10 _ (by rw [if_pos q3])
  intro z hz
  subst hz
  refine g_iload_n (pc := 18) (dd d_Mod_witness 11 rfl) rfl ?_
  suffices K19 : ∀ z : Int32, z = (if v1 = 0 then 0 else (if (I MO 71 : Int32) = 0 then 1 else 0) : Int32) → GG Δ m_Mod_witness Γ NN 0 0 (I, X) 34 [some (.ref (Δ.ba + MO)), some (.int (x1)), some (.int (v1))] [.int (z), .int (if v1 = 0 then 1 else 0), .ref (Δ.ba + MO)] by
    refine g_ifeq (pc := 19) (tgt := 33) (dd d_Mod_witness 12 rfl) (by decide) (fun q4 => ?_) (fun q4 => ?_)
    · skip
      refine g_iconst (pc := 33) (v := 0) (dd d_Mod_witness 18 rfl) (by decide) ?_
      exact K19 _ (by rw [if_pos q4])
    · skip
      refine g_aload_n (pc := 22) (dd d_Mod_witness 13 rfl) rfl ?_
      refine g_geti (pc := 23) (dd d_Mod_witness 14 rfl) f_Mod_602 ob_MO rfl ?_
      refine g_ifne (pc := 26) (tgt := 33) (dd d_Mod_witness 15 rfl) (by decide) (fun q5 => ?_) (fun q5 => ?_)
      · skip
        refine g_iconst (pc := 33) (v := 0) (dd d_Mod_witness 18 rfl) (by decide) ?_
        exact K19 _ (by rw [if_neg q4, if_neg q5])
      · skip
        refine g_iconst (pc := 29) (v := 1) (dd d_Mod_witness 16 rfl) (by decide) ?_
        refine g_goto (pc := 30) (tgt := 34) (dd d_Mod_witness 17 rfl) (by decide) ?_
        exact K19 _ (by rw [if_neg q4, if_pos q5])
  intro z hz
  subst hz
  obtain ⟨v6, e7, h⟩ := bnd_e h
  refine g_callV (pc := 34) (dd d_Mod_witness 19 rfl) v_Mod_250 ob_MO rfl (ef_Mod_refuse hX e7) rfl (by rw [hk]; decide) (Nat.le_of_ble_eq_true rfl) ⟨Nat.zero_le _, Nat.zero_le _⟩ rfl ?_
  refine g_ifeq (pc := 37) (tgt := 42) (dd d_Mod_witness 20 rfl) (by decide) (fun q8 => ?_) (fun q8 => ?_)
  · replace h := ite_t h q8
    refine g_aload_n (pc := 42) (dd d_Mod_witness 23 rfl) rfl ?_
    refine g_getr (pc := 43) (dd d_Mod_witness 24 rfl) f_Mod_120 ob_MO rfl (mr_witness hX) ?_
    refine g_iload_n (pc := 46) (dd d_Mod_witness 25 rfl) rfl ?_
    obtain ⟨c9, h⟩ := chk_e h
    refine g_iald (pc := 47) (dd d_Mod_witness 26 rfl) ar_A_witness c9 ?_
    cases h
    exact g_iret (pc := 48) rfl (dd d_Mod_witness 27 rfl) hT
  · replace h := ite_f h q8
    refine g_iconst (pc := 40) (v := 0) (dd d_Mod_witness 21 rfl) (by decide) ?_
    cases h
    exact g_iret (pc := 41) rfl (dd d_Mod_witness 22 rfl) hT
def b_Mod_moveRow_50 (n : Nat) (x1 : Nat) (H3 : Int32 → Int32 → Int32 → Int32 → IM → Option (IM)) (x2 : Int32) (x3 : Int32) (x4 : Int32) (x5 : Int32) (y2 : Int32) (y1 : Int32) (I : IM) : Option (IM) := chk (inb y1 (lenA x1)) <| lt (up I x1 y1.toNatClampNeg (y2)) fun I7 => H3 x2 x3 x4 (x5 + 1) I7
set_option maxRecDepth 20000 in
set_option maxHeartbeats 4000000 in
theorem gb_Mod_moveRow_50 {Δ : Dx} {X : Lx} (hX : MX Δ X) {x1 : Nat} (ha_x1 : isA x1) {n : Nat} {Γ : Cx} (hk : Γ.k = 0) {r : IM} (hT : Tg Δ Γ none NN (r, X) 0 0) {H3 : Int32 → Int32 → Int32 → Int32 → IM → Option (IM)} (hH3 : ∀ (x2 : Int32) (x3 : Int32) (x4 : Int32) (x5 : Int32) (I : IM), H3 x2 x3 x4 x5 I = some r → GG Δ m_Mod_moveRow Γ NN 0 0 (I, X) 3 [some (.ref (Δ.ba + MO)), some (.ref (Δ.ba + x1)), some (.int (x2)), some (.int (x3)), some (.int (x4)), some (.int (x5)), none] []) {x2 : Int32} {x3 : Int32} {x4 : Int32} {x5 : Int32} {y2 : Int32} {y1 : Int32} {I : IM} (h : b_Mod_moveRow_50 n x1 H3 x2 x3 x4 x5 y2 y1 I = some r) : GG Δ m_Mod_moveRow Γ NN 0 0 (I, X) 50 [some (.ref (Δ.ba + MO)), some (.ref (Δ.ba + x1)), some (.int (x2)), some (.int (x3)), some (.int (x4)), some (.int (x5)), none] [.int (y2), .int (y1), .ref (Δ.ba + x1)] := by
  unfold b_Mod_moveRow_50 at h
  obtain ⟨c6, h⟩ := chk_e h
  refine g_iastN (pc := 50) (dd d_Mod_moveRow 30 rfl) ha_x1 c6 (fun I7 hI7 => ?_)
  replace h := lt_e h hI7
  refine g_iincW (pc := 51) (w := 1) (dd d_Mod_moveRow 31 rfl) rfl (by decide) (by decide) ?_
  refine g_goto (pc := 54) (tgt := 3) (dd d_Mod_moveRow 32 rfl) (by decide) ?_
  exact hH3 _ _ _ _ _ h
def l_Mod_moveRow_3 (n : Nat) (x1 : Nat)  : Nat → Int32 → Int32 → Int32 → Int32 → IM → Option (IM)
  | 0, _, _, _, _, _ => none
  | f + 1, x2, x3, x4, x5, I => if x2 ≤ x5 then (some I) else (chk (inb (x3 + x5) 996) <| chk (inb x5 (lenA x1)) <| lt (up I A_other (x3 + x5 : Int32).toNatClampNeg (I x1 x5.toNatClampNeg)) fun I4 => if x4 = 0 then (b_Mod_moveRow_50 n x1 (l_Mod_moveRow_3 n x1  f) x2 x3 x4 x5 (I4 x1 x5.toNatClampNeg) x5 I4) else (b_Mod_moveRow_50 n x1 (l_Mod_moveRow_3 n x1  f) x2 x3 x4 x5 (I A_other (x3 + x5 : Int32).toNatClampNeg) x5 I4))
set_option maxRecDepth 20000 in
set_option maxHeartbeats 4000000 in
theorem gl_Mod_moveRow_3 {Δ : Dx} {X : Lx} (hX : MX Δ X) {x1 : Nat} (ha_x1 : isA x1) {n : Nat} {Γ : Cx} (hk : Γ.k = 0) {r : IM} (hT : Tg Δ Γ none NN (r, X) 0 0)  : ∀ (f : Nat) (x2 : Int32) (x3 : Int32) (x4 : Int32) (x5 : Int32) (I : IM), l_Mod_moveRow_3 n x1  f x2 x3 x4 x5 I = some r → GG Δ m_Mod_moveRow Γ NN 0 0 (I, X) 3 [some (.ref (Δ.ba + MO)), some (.ref (Δ.ba + x1)), some (.int (x2)), some (.int (x3)), some (.int (x4)), some (.int (x5)), none] []
  | 0, _, _, _, _, _, h => by cases h
  | f + 1, x2, x3, x4, x5, I, h => by
    have ih := gl_Mod_moveRow_3 (n := n) (x1 := x1) hX ha_x1 hk hT  f
    rw [l_Mod_moveRow_3] at h
    refine g_iload (pc := 3) (dd d_Mod_moveRow 2 rfl) rfl ?_
    refine g_iload_n (pc := 5) (dd d_Mod_moveRow 3 rfl) rfl ?_
    refine g_icmpge (pc := 6) (tgt := 57) (dd d_Mod_moveRow 4 rfl) (by decide) (fun q1 => ?_) (fun q1 => ?_)
    · replace h := ite_t h q1
      cases h
      exact g_vret (pc := 57) rfl (dd d_Mod_moveRow 33 rfl) hT
    · replace h := ite_f h q1
      refine g_aload_n (pc := 9) (dd d_Mod_moveRow 5 rfl) rfl ?_
      refine g_getr (pc := 10) (dd d_Mod_moveRow 6 rfl) f_Mod_126 ob_MO rfl (mr_other hX) ?_
      refine g_iload_n (pc := 13) (dd d_Mod_moveRow 7 rfl) rfl ?_
      refine g_iload (pc := 14) (dd d_Mod_moveRow 8 rfl) rfl ?_
      refine g_iadd (pc := 16) (dd d_Mod_moveRow 9 rfl) ?_
      obtain ⟨c2, h⟩ := chk_e h
      refine g_iald (pc := 17) (dd d_Mod_moveRow 10 rfl) ar_A_other c2 ?_
      refine g_istore (pc := 18) (dd d_Mod_moveRow 11 rfl) (by decide) ?_
      refine g_aload_n (pc := 20) (dd d_Mod_moveRow 12 rfl) rfl ?_
      refine g_getr (pc := 21) (dd d_Mod_moveRow 13 rfl) f_Mod_126 ob_MO rfl (mr_other hX) ?_
      refine g_iload_n (pc := 24) (dd d_Mod_moveRow 14 rfl) rfl ?_
      refine g_iload (pc := 25) (dd d_Mod_moveRow 15 rfl) rfl ?_
      refine g_iadd (pc := 27) (dd d_Mod_moveRow 16 rfl) ?_
      refine g_aload_n (pc := 28) (dd d_Mod_moveRow 17 rfl) rfl ?_
      refine g_iload (pc := 29) (dd d_Mod_moveRow 18 rfl) rfl ?_
      obtain ⟨c3, h⟩ := chk_e h
      refine g_iald (pc := 31) (dd d_Mod_moveRow 19 rfl) ha_x1 c3 ?_
      refine g_iastN (pc := 32) (dd d_Mod_moveRow 20 rfl) ar_A_other c2 (fun I4 hI4 => ?_)
      replace h := lt_e h hI4
      refine g_aload_n (pc := 33) (dd d_Mod_moveRow 21 rfl) rfl ?_
      refine g_iload (pc := 34) (dd d_Mod_moveRow 22 rfl) rfl ?_
      refine g_iload (pc := 36) (dd d_Mod_moveRow 23 rfl) rfl ?_
      refine g_ifeq (pc := 38) (tgt := 46) (dd d_Mod_moveRow 24 rfl) (by decide) (fun q5 => ?_) (fun q5 => ?_)
      · replace h := ite_t h q5
        refine g_aload_n (pc := 46) (dd d_Mod_moveRow 27 rfl) rfl ?_
        refine g_iload (pc := 47) (dd d_Mod_moveRow 28 rfl) rfl ?_
        refine g_iald (pc := 49) (dd d_Mod_moveRow 29 rfl) ha_x1 c3 ?_
        refine g_drop [6] ?_
        exact gb_Mod_moveRow_50 hX ha_x1 hk hT ih h
      · replace h := ite_f h q5
        refine g_iload (pc := 41) (dd d_Mod_moveRow 25 rfl) rfl ?_
        refine g_goto (pc := 43) (tgt := 50) (dd d_Mod_moveRow 26 rfl) (by decide) ?_
        refine g_drop [6] ?_
        exact gb_Mod_moveRow_50 hX ha_x1 hk hT ih h
def f_Mod_moveRow (n : Nat) (x1 : Nat) (x2 : Int32) (x3 : Int32) (x4 : Int32) (I : IM) : Option (IM) := l_Mod_moveRow_3 n x1  n x2 x3 x4 0 I
set_option maxRecDepth 20000 in
set_option maxHeartbeats 4000000 in
theorem ef_Mod_moveRow {Δ : Dx} {X : Lx} (hX : MX Δ X) {n : Nat} {x1 : Nat} {x2 : Int32} {x3 : Int32} {x4 : Int32} (ha_x1 : isA x1) {I : IM}  {r : IM} (h : f_Mod_moveRow n x1 x2 x3 x4 I = some r) : Ev Δ 0 m_Mod_moveRow [.ref (Δ.ba + MO), .ref (Δ.ba + x1), .int x2, .int x3, .int x4] (I, X) none (r, X) := by
  refine ev_of (by decide) (Nat.le_of_ble_eq_true rfl) (fun Γ hk hR hT => ?_)
  change GG Δ m_Mod_moveRow Γ NN 0 0 (I, X) 0 [some (.ref (Δ.ba + MO)), some (.ref (Δ.ba + x1)), some (.int (x2)), some (.int (x3)), some (.int (x4)), none, none] []
  unfold f_Mod_moveRow at h
  refine g_iconst (pc := 0) (v := 0) (dd d_Mod_moveRow 0 rfl) (by decide) ?_
  refine g_istore (pc := 1) (dd d_Mod_moveRow 1 rfl) (by decide) ?_
  exact gl_Mod_moveRow_3 hX ha_x1 hk hT  _ _ _ _ _ _ h
def f_Mod_moveAll (n : Nat) (x1 : Int32) (I : IM) : Option (IM) := lt (up I A_scalars (0 : Int32).toNatClampNeg (I MO 34)) fun I1 => lt (up I1 A_scalars (1 : Int32).toNatClampNeg (I1 MO 42)) fun I2 => lt (up I2 A_scalars (2 : Int32).toNatClampNeg (I2 MO 43)) fun I3 => lt (up I3 A_scalars (3 : Int32).toNatClampNeg (I3 MO 44)) fun I4 => lt (up I4 A_scalars (4 : Int32).toNatClampNeg (I4 MO 45)) fun I5 => lt (up I5 A_scalars (5 : Int32).toNatClampNeg (I5 MO 48)) fun I6 => lt (up I6 A_scalars (6 : Int32).toNatClampNeg (I6 MO 50)) fun I7 => lt (up I7 A_scalars (7 : Int32).toNatClampNeg (I7 MO 51)) fun I8 => lt (up I8 A_scalars (8 : Int32).toNatClampNeg (I8 MO 52)) fun I9 => lt (up I9 A_scalars (9 : Int32).toNatClampNeg (I9 MO 53)) fun I10 => lt (up I10 A_scalars (10 : Int32).toNatClampNeg (I10 MO 54)) fun I11 => lt (up I11 A_scalars (11 : Int32).toNatClampNeg (I11 MO 55)) fun I12 => lt (up I12 A_scalars (12 : Int32).toNatClampNeg (I12 MO 58)) fun I13 => lt (up I13 A_scalars (13 : Int32).toNatClampNeg (I13 MO 59)) fun I14 => lt (up I14 A_scalars (14 : Int32).toNatClampNeg (I14 MO 63)) fun I15 => lt (up I15 A_scalars (15 : Int32).toNatClampNeg (I15 MO 66)) fun I16 => Option.bind (f_Mod_moveRow n A_scalars 16 0 x1 I16) fun v17 => lt (up v17 MO 34 (v17 A_scalars (0 : Int32).toNatClampNeg)) fun I19 => lt (up I19 MO 42 (I19 A_scalars (1 : Int32).toNatClampNeg)) fun I20 => lt (up I20 MO 43 (I20 A_scalars (2 : Int32).toNatClampNeg)) fun I21 => lt (up I21 MO 44 (I21 A_scalars (3 : Int32).toNatClampNeg)) fun I22 => lt (up I22 MO 45 (I22 A_scalars (4 : Int32).toNatClampNeg)) fun I23 => lt (up I23 MO 48 (I23 A_scalars (5 : Int32).toNatClampNeg)) fun I24 => lt (up I24 MO 50 (I24 A_scalars (6 : Int32).toNatClampNeg)) fun I25 => lt (up I25 MO 51 (I25 A_scalars (7 : Int32).toNatClampNeg)) fun I26 => lt (up I26 MO 52 (I26 A_scalars (8 : Int32).toNatClampNeg)) fun I27 => lt (up I27 MO 53 (I27 A_scalars (9 : Int32).toNatClampNeg)) fun I28 => lt (up I28 MO 54 (I28 A_scalars (10 : Int32).toNatClampNeg)) fun I29 => lt (up I29 MO 55 (I29 A_scalars (11 : Int32).toNatClampNeg)) fun I30 => lt (up I30 MO 58 (I30 A_scalars (12 : Int32).toNatClampNeg)) fun I31 => lt (up I31 MO 59 (I31 A_scalars (13 : Int32).toNatClampNeg)) fun I32 => lt (up I32 MO 63 (I32 A_scalars (14 : Int32).toNatClampNeg)) fun I33 => lt (up I33 MO 66 (I33 A_scalars (15 : Int32).toNatClampNeg)) fun I34 => Option.bind (f_Mod_moveRow n A_code 64 20 x1 I34) fun v35 => Option.bind (f_Mod_moveRow n A_codeTags 64 84 x1 v35) fun v37 => Option.bind (f_Mod_moveRow n A_ints 96 148 x1 v37) fun v39 => Option.bind (f_Mod_moveRow n A_held 96 244 x1 v39) fun v41 => Option.bind (f_Mod_moveRow n A_owners 96 340 x1 v41) fun v43 => Option.bind (f_Mod_moveRow n A_registers 8 436 x1 v43) fun v45 => Option.bind (f_Mod_moveRow n A_registerTags 8 444 x1 v45) fun v47 => Option.bind (f_Mod_moveRow n A_inputValues 16 452 x1 v47) fun v49 => Option.bind (f_Mod_moveRow n A_inputTags 16 468 x1 v49) fun v51 => Option.bind (f_Mod_moveRow n A_output 40 484 x1 v51) fun v53 => Option.bind (f_Mod_moveRow n A_firsts 60 524 x1 v53) fun v55 => Option.bind (f_Mod_moveRow n A_seconds 60 584 x1 v55) fun v57 => Option.bind (f_Mod_moveRow n A_cache 128 644 x1 v57) fun v59 => Option.bind (f_Mod_moveRow n A_answers 40 772 x1 v59) fun v61 => Option.bind (f_Mod_moveRow n A_entries 96 812 x1 v61) fun v63 => Option.bind (f_Mod_moveRow n A_counts 88 908 x1 v63) fun v65 => some v65
set_option maxRecDepth 20000 in
set_option maxHeartbeats 4000000 in
theorem ef_Mod_moveAll {Δ : Dx} {X : Lx} (hX : MX Δ X) {n : Nat} {x1 : Int32}  {I : IM}  {r : IM} (h : f_Mod_moveAll n x1 I = some r) : Ev Δ 1 m_Mod_moveAll [.ref (Δ.ba + MO), .int x1] (I, X) none (r, X) := by
  refine ev_of (by decide) (Nat.le_of_ble_eq_true rfl) (fun Γ hk hR hT => ?_)
  change GG Δ m_Mod_moveAll Γ NN 0 0 (I, X) 0 [some (.ref (Δ.ba + MO)), some (.int (x1))] []
  unfold f_Mod_moveAll at h
  refine g_aload_n (pc := 0) (dd d_Mod_moveAll 0 rfl) rfl ?_
  refine g_getr (pc := 1) (dd d_Mod_moveAll 1 rfl) f_Mod_123 ob_MO rfl (mr_scalars hX) ?_
  refine g_iconst (pc := 4) (v := 0) (dd d_Mod_moveAll 2 rfl) (by decide) ?_
  refine g_aload_n (pc := 5) (dd d_Mod_moveAll 3 rfl) rfl ?_
  refine g_geti (pc := 6) (dd d_Mod_moveAll 4 rfl) f_Mod_388 ob_MO rfl ?_
  refine g_iastN (pc := 9) (dd d_Mod_moveAll 5 rfl) ar_A_scalars (by rw [vp_in_iff]; decide) (fun I1 hI1 => ?_)
  replace h := lt_e h hI1
  refine g_aload_n (pc := 10) (dd d_Mod_moveAll 6 rfl) rfl ?_
  refine g_getr (pc := 11) (dd d_Mod_moveAll 7 rfl) f_Mod_123 ob_MO rfl (mr_scalars hX) ?_
  refine g_iconst (pc := 14) (v := 1) (dd d_Mod_moveAll 8 rfl) (by decide) ?_
  refine g_aload_n (pc := 15) (dd d_Mod_moveAll 9 rfl) rfl ?_
  refine g_geti (pc := 16) (dd d_Mod_moveAll 10 rfl) f_Mod_391 ob_MO rfl ?_
  refine g_iastN (pc := 19) (dd d_Mod_moveAll 11 rfl) ar_A_scalars (by rw [vp_in_iff]; decide) (fun I2 hI2 => ?_)
  replace h := lt_e h hI2
  refine g_aload_n (pc := 20) (dd d_Mod_moveAll 12 rfl) rfl ?_
  refine g_getr (pc := 21) (dd d_Mod_moveAll 13 rfl) f_Mod_123 ob_MO rfl (mr_scalars hX) ?_
  refine g_iconst (pc := 24) (v := 2) (dd d_Mod_moveAll 14 rfl) (by decide) ?_
  refine g_aload_n (pc := 25) (dd d_Mod_moveAll 15 rfl) rfl ?_
  refine g_geti (pc := 26) (dd d_Mod_moveAll 16 rfl) f_Mod_394 ob_MO rfl ?_
  refine g_iastN (pc := 29) (dd d_Mod_moveAll 17 rfl) ar_A_scalars (by rw [vp_in_iff]; decide) (fun I3 hI3 => ?_)
  replace h := lt_e h hI3
  refine g_aload_n (pc := 30) (dd d_Mod_moveAll 18 rfl) rfl ?_
  refine g_getr (pc := 31) (dd d_Mod_moveAll 19 rfl) f_Mod_123 ob_MO rfl (mr_scalars hX) ?_
  refine g_iconst (pc := 34) (v := 3) (dd d_Mod_moveAll 20 rfl) (by decide) ?_
  refine g_aload_n (pc := 35) (dd d_Mod_moveAll 21 rfl) rfl ?_
  refine g_geti (pc := 36) (dd d_Mod_moveAll 22 rfl) f_Mod_397 ob_MO rfl ?_
  refine g_iastN (pc := 39) (dd d_Mod_moveAll 23 rfl) ar_A_scalars (by rw [vp_in_iff]; decide) (fun I4 hI4 => ?_)
  replace h := lt_e h hI4
  refine g_aload_n (pc := 40) (dd d_Mod_moveAll 24 rfl) rfl ?_
  refine g_getr (pc := 41) (dd d_Mod_moveAll 25 rfl) f_Mod_123 ob_MO rfl (mr_scalars hX) ?_
  refine g_iconst (pc := 44) (v := 4) (dd d_Mod_moveAll 26 rfl) (by decide) ?_
  refine g_aload_n (pc := 45) (dd d_Mod_moveAll 27 rfl) rfl ?_
  refine g_geti (pc := 46) (dd d_Mod_moveAll 28 rfl) f_Mod_400 ob_MO rfl ?_
  refine g_iastN (pc := 49) (dd d_Mod_moveAll 29 rfl) ar_A_scalars (by rw [vp_in_iff]; decide) (fun I5 hI5 => ?_)
  replace h := lt_e h hI5
  refine g_aload_n (pc := 50) (dd d_Mod_moveAll 30 rfl) rfl ?_
  refine g_getr (pc := 51) (dd d_Mod_moveAll 31 rfl) f_Mod_123 ob_MO rfl (mr_scalars hX) ?_
  refine g_iconst (pc := 54) (v := 5) (dd d_Mod_moveAll 32 rfl) (by decide) ?_
  refine g_aload_n (pc := 55) (dd d_Mod_moveAll 33 rfl) rfl ?_
  refine g_geti (pc := 56) (dd d_Mod_moveAll 34 rfl) f_Mod_403 ob_MO rfl ?_
  refine g_iastN (pc := 59) (dd d_Mod_moveAll 35 rfl) ar_A_scalars (by rw [vp_in_iff]; decide) (fun I6 hI6 => ?_)
  replace h := lt_e h hI6
  refine g_aload_n (pc := 60) (dd d_Mod_moveAll 36 rfl) rfl ?_
  refine g_getr (pc := 61) (dd d_Mod_moveAll 37 rfl) f_Mod_123 ob_MO rfl (mr_scalars hX) ?_
  refine g_bipush (pc := 64) (v := 6) (dd d_Mod_moveAll 38 rfl) (by decide) ?_
  refine g_aload_n (pc := 66) (dd d_Mod_moveAll 39 rfl) rfl ?_
  refine g_geti (pc := 67) (dd d_Mod_moveAll 40 rfl) f_Mod_406 ob_MO rfl ?_
  refine g_iastN (pc := 70) (dd d_Mod_moveAll 41 rfl) ar_A_scalars (by rw [vp_in_iff]; decide) (fun I7 hI7 => ?_)
  replace h := lt_e h hI7
  refine g_aload_n (pc := 71) (dd d_Mod_moveAll 42 rfl) rfl ?_
  refine g_getr (pc := 72) (dd d_Mod_moveAll 43 rfl) f_Mod_123 ob_MO rfl (mr_scalars hX) ?_
  refine g_bipush (pc := 75) (v := 7) (dd d_Mod_moveAll 44 rfl) (by decide) ?_
  refine g_aload_n (pc := 77) (dd d_Mod_moveAll 45 rfl) rfl ?_
  refine g_geti (pc := 78) (dd d_Mod_moveAll 46 rfl) f_Mod_409 ob_MO rfl ?_
  refine g_iastN (pc := 81) (dd d_Mod_moveAll 47 rfl) ar_A_scalars (by rw [vp_in_iff]; decide) (fun I8 hI8 => ?_)
  replace h := lt_e h hI8
  refine g_aload_n (pc := 82) (dd d_Mod_moveAll 48 rfl) rfl ?_
  refine g_getr (pc := 83) (dd d_Mod_moveAll 49 rfl) f_Mod_123 ob_MO rfl (mr_scalars hX) ?_
  refine g_bipush (pc := 86) (v := 8) (dd d_Mod_moveAll 50 rfl) (by decide) ?_
  refine g_aload_n (pc := 88) (dd d_Mod_moveAll 51 rfl) rfl ?_
  refine g_geti (pc := 89) (dd d_Mod_moveAll 52 rfl) f_Mod_412 ob_MO rfl ?_
  refine g_iastN (pc := 92) (dd d_Mod_moveAll 53 rfl) ar_A_scalars (by rw [vp_in_iff]; decide) (fun I9 hI9 => ?_)
  replace h := lt_e h hI9
  refine g_aload_n (pc := 93) (dd d_Mod_moveAll 54 rfl) rfl ?_
  refine g_getr (pc := 94) (dd d_Mod_moveAll 55 rfl) f_Mod_123 ob_MO rfl (mr_scalars hX) ?_
  refine g_bipush (pc := 97) (v := 9) (dd d_Mod_moveAll 56 rfl) (by decide) ?_
  refine g_aload_n (pc := 99) (dd d_Mod_moveAll 57 rfl) rfl ?_
  refine g_geti (pc := 100) (dd d_Mod_moveAll 58 rfl) f_Mod_382 ob_MO rfl ?_
  refine g_iastN (pc := 103) (dd d_Mod_moveAll 59 rfl) ar_A_scalars (by rw [vp_in_iff]; decide) (fun I10 hI10 => ?_)
  replace h := lt_e h hI10
  refine g_aload_n (pc := 104) (dd d_Mod_moveAll_1 0 rfl) rfl ?_
  refine g_getr (pc := 105) (dd d_Mod_moveAll_1 1 rfl) f_Mod_123 ob_MO rfl (mr_scalars hX) ?_
  refine g_bipush (pc := 108) (v := 10) (dd d_Mod_moveAll_1 2 rfl) (by decide) ?_
  refine g_aload_n (pc := 110) (dd d_Mod_moveAll_1 3 rfl) rfl ?_
  refine g_geti (pc := 111) (dd d_Mod_moveAll_1 4 rfl) f_Mod_385 ob_MO rfl ?_
  refine g_iastN (pc := 114) (dd d_Mod_moveAll_1 5 rfl) ar_A_scalars (by rw [vp_in_iff]; decide) (fun I11 hI11 => ?_)
  replace h := lt_e h hI11
  refine g_aload_n (pc := 115) (dd d_Mod_moveAll_1 6 rfl) rfl ?_
  refine g_getr (pc := 116) (dd d_Mod_moveAll_1 7 rfl) f_Mod_123 ob_MO rfl (mr_scalars hX) ?_
  refine g_bipush (pc := 119) (v := 11) (dd d_Mod_moveAll_1 8 rfl) (by decide) ?_
  refine g_aload_n (pc := 121) (dd d_Mod_moveAll_1 9 rfl) rfl ?_
  refine g_geti (pc := 122) (dd d_Mod_moveAll_1 10 rfl) f_Mod_415 ob_MO rfl ?_
  refine g_iastN (pc := 125) (dd d_Mod_moveAll_1 11 rfl) ar_A_scalars (by rw [vp_in_iff]; decide) (fun I12 hI12 => ?_)
  replace h := lt_e h hI12
  refine g_aload_n (pc := 126) (dd d_Mod_moveAll_1 12 rfl) rfl ?_
  refine g_getr (pc := 127) (dd d_Mod_moveAll_1 13 rfl) f_Mod_123 ob_MO rfl (mr_scalars hX) ?_
  refine g_bipush (pc := 130) (v := 12) (dd d_Mod_moveAll_1 14 rfl) (by decide) ?_
  refine g_aload_n (pc := 132) (dd d_Mod_moveAll_1 15 rfl) rfl ?_
  refine g_geti (pc := 133) (dd d_Mod_moveAll_1 16 rfl) f_Mod_376 ob_MO rfl ?_
  refine g_iastN (pc := 136) (dd d_Mod_moveAll_1 17 rfl) ar_A_scalars (by rw [vp_in_iff]; decide) (fun I13 hI13 => ?_)
  replace h := lt_e h hI13
  refine g_aload_n (pc := 137) (dd d_Mod_moveAll_1 18 rfl) rfl ?_
  refine g_getr (pc := 138) (dd d_Mod_moveAll_1 19 rfl) f_Mod_123 ob_MO rfl (mr_scalars hX) ?_
  refine g_bipush (pc := 141) (v := 13) (dd d_Mod_moveAll_1 20 rfl) (by decide) ?_
  refine g_aload_n (pc := 143) (dd d_Mod_moveAll_1 21 rfl) rfl ?_
  refine g_geti (pc := 144) (dd d_Mod_moveAll_1 22 rfl) f_Mod_379 ob_MO rfl ?_
  refine g_iastN (pc := 147) (dd d_Mod_moveAll_1 23 rfl) ar_A_scalars (by rw [vp_in_iff]; decide) (fun I14 hI14 => ?_)
  replace h := lt_e h hI14
  refine g_aload_n (pc := 148) (dd d_Mod_moveAll_1 24 rfl) rfl ?_
  refine g_getr (pc := 149) (dd d_Mod_moveAll_1 25 rfl) f_Mod_123 ob_MO rfl (mr_scalars hX) ?_
  refine g_bipush (pc := 152) (v := 14) (dd d_Mod_moveAll_1 26 rfl) (by decide) ?_
  refine g_aload_n (pc := 154) (dd d_Mod_moveAll_1 27 rfl) rfl ?_
  refine g_geti (pc := 155) (dd d_Mod_moveAll_1 28 rfl) f_Mod_418 ob_MO rfl ?_
  refine g_iastN (pc := 158) (dd d_Mod_moveAll_1 29 rfl) ar_A_scalars (by rw [vp_in_iff]; decide) (fun I15 hI15 => ?_)
  replace h := lt_e h hI15
  refine g_aload_n (pc := 159) (dd d_Mod_moveAll_1 30 rfl) rfl ?_
  refine g_getr (pc := 160) (dd d_Mod_moveAll_1 31 rfl) f_Mod_123 ob_MO rfl (mr_scalars hX) ?_
  refine g_bipush (pc := 163) (v := 15) (dd d_Mod_moveAll_1 32 rfl) (by decide) ?_
  refine g_aload_n (pc := 165) (dd d_Mod_moveAll_1 33 rfl) rfl ?_
  refine g_geti (pc := 166) (dd d_Mod_moveAll_1 34 rfl) f_Mod_110 ob_MO rfl ?_
  refine g_iastN (pc := 169) (dd d_Mod_moveAll_1 35 rfl) ar_A_scalars (by rw [vp_in_iff]; decide) (fun I16 hI16 => ?_)
  replace h := lt_e h hI16
  refine g_aload_n (pc := 170) (dd d_Mod_moveAll_1 36 rfl) rfl ?_
  refine g_aload_n (pc := 171) (dd d_Mod_moveAll_1 37 rfl) rfl ?_
  refine g_getr (pc := 172) (dd d_Mod_moveAll_1 38 rfl) f_Mod_123 ob_MO rfl (mr_scalars hX) ?_
  refine g_bipush (pc := 175) (v := 16) (dd d_Mod_moveAll_1 39 rfl) (by decide) ?_
  refine g_iconst (pc := 177) (v := 0) (dd d_Mod_moveAll_1 40 rfl) (by decide) ?_
  refine g_iload_n (pc := 178) (dd d_Mod_moveAll_1 41 rfl) rfl ?_
  obtain ⟨v17, e18, h⟩ := bnd_e h
  refine g_callV (pc := 179) (dd d_Mod_moveAll_1 42 rfl) v_Mod_612 ob_MO rfl (ef_Mod_moveRow hX ⟨by decide, rfl⟩ e18) rfl (by rw [hk]; decide) (Nat.le_of_ble_eq_true rfl) ⟨Nat.zero_le _, Nat.zero_le _⟩ rfl ?_
  refine g_aload_n (pc := 182) (dd d_Mod_moveAll_1 43 rfl) rfl ?_
  refine g_aload_n (pc := 183) (dd d_Mod_moveAll_1 44 rfl) rfl ?_
  refine g_getr (pc := 184) (dd d_Mod_moveAll_1 45 rfl) f_Mod_123 ob_MO rfl (mr_scalars hX) ?_
  refine g_iconst (pc := 187) (v := 0) (dd d_Mod_moveAll_1 46 rfl) (by decide) ?_
  refine g_iald (pc := 188) (dd d_Mod_moveAll_1 47 rfl) ar_A_scalars (by rw [vp_in_iff]; decide) ?_
  refine g_putiN (pc := 189) (dd d_Mod_moveAll_1 48 rfl) f_Mod_388 fm_Mod_34 ob_MO rfl (fun I19 hI19 => ?_)
  replace h := lt_e h hI19
  refine g_aload_n (pc := 192) (dd d_Mod_moveAll_1 49 rfl) rfl ?_
  refine g_aload_n (pc := 193) (dd d_Mod_moveAll_1 50 rfl) rfl ?_
  refine g_getr (pc := 194) (dd d_Mod_moveAll_1 51 rfl) f_Mod_123 ob_MO rfl (mr_scalars hX) ?_
  refine g_iconst (pc := 197) (v := 1) (dd d_Mod_moveAll_1 52 rfl) (by decide) ?_
  refine g_iald (pc := 198) (dd d_Mod_moveAll_1 53 rfl) ar_A_scalars (by rw [vp_in_iff]; decide) ?_
  refine g_putiN (pc := 199) (dd d_Mod_moveAll_1 54 rfl) f_Mod_391 fm_Mod_42 ob_MO rfl (fun I20 hI20 => ?_)
  replace h := lt_e h hI20
  refine g_aload_n (pc := 202) (dd d_Mod_moveAll_1 55 rfl) rfl ?_
  refine g_aload_n (pc := 203) (dd d_Mod_moveAll_1 56 rfl) rfl ?_
  refine g_getr (pc := 204) (dd d_Mod_moveAll_1 57 rfl) f_Mod_123 ob_MO rfl (mr_scalars hX) ?_
  refine g_iconst (pc := 207) (v := 2) (dd d_Mod_moveAll_1 58 rfl) (by decide) ?_
  refine g_iald (pc := 208) (dd d_Mod_moveAll_1 59 rfl) ar_A_scalars (by rw [vp_in_iff]; decide) ?_
  refine g_putiN (pc := 209) (dd d_Mod_moveAll_2 0 rfl) f_Mod_394 fm_Mod_43 ob_MO rfl (fun I21 hI21 => ?_)
  replace h := lt_e h hI21
  refine g_aload_n (pc := 212) (dd d_Mod_moveAll_2 1 rfl) rfl ?_
  refine g_aload_n (pc := 213) (dd d_Mod_moveAll_2 2 rfl) rfl ?_
  refine g_getr (pc := 214) (dd d_Mod_moveAll_2 3 rfl) f_Mod_123 ob_MO rfl (mr_scalars hX) ?_
  refine g_iconst (pc := 217) (v := 3) (dd d_Mod_moveAll_2 4 rfl) (by decide) ?_
  refine g_iald (pc := 218) (dd d_Mod_moveAll_2 5 rfl) ar_A_scalars (by rw [vp_in_iff]; decide) ?_
  refine g_putiN (pc := 219) (dd d_Mod_moveAll_2 6 rfl) f_Mod_397 fm_Mod_44 ob_MO rfl (fun I22 hI22 => ?_)
  replace h := lt_e h hI22
  refine g_aload_n (pc := 222) (dd d_Mod_moveAll_2 7 rfl) rfl ?_
  refine g_aload_n (pc := 223) (dd d_Mod_moveAll_2 8 rfl) rfl ?_
  refine g_getr (pc := 224) (dd d_Mod_moveAll_2 9 rfl) f_Mod_123 ob_MO rfl (mr_scalars hX) ?_
  refine g_iconst (pc := 227) (v := 4) (dd d_Mod_moveAll_2 10 rfl) (by decide) ?_
  refine g_iald (pc := 228) (dd d_Mod_moveAll_2 11 rfl) ar_A_scalars (by rw [vp_in_iff]; decide) ?_
  refine g_putiN (pc := 229) (dd d_Mod_moveAll_2 12 rfl) f_Mod_400 fm_Mod_45 ob_MO rfl (fun I23 hI23 => ?_)
  replace h := lt_e h hI23
  refine g_aload_n (pc := 232) (dd d_Mod_moveAll_2 13 rfl) rfl ?_
  refine g_aload_n (pc := 233) (dd d_Mod_moveAll_2 14 rfl) rfl ?_
  refine g_getr (pc := 234) (dd d_Mod_moveAll_2 15 rfl) f_Mod_123 ob_MO rfl (mr_scalars hX) ?_
  refine g_iconst (pc := 237) (v := 5) (dd d_Mod_moveAll_2 16 rfl) (by decide) ?_
  refine g_iald (pc := 238) (dd d_Mod_moveAll_2 17 rfl) ar_A_scalars (by rw [vp_in_iff]; decide) ?_
  refine g_putiN (pc := 239) (dd d_Mod_moveAll_2 18 rfl) f_Mod_403 fm_Mod_48 ob_MO rfl (fun I24 hI24 => ?_)
  replace h := lt_e h hI24
  refine g_aload_n (pc := 242) (dd d_Mod_moveAll_2 19 rfl) rfl ?_
  refine g_aload_n (pc := 243) (dd d_Mod_moveAll_2 20 rfl) rfl ?_
  refine g_getr (pc := 244) (dd d_Mod_moveAll_2 21 rfl) f_Mod_123 ob_MO rfl (mr_scalars hX) ?_
  refine g_bipush (pc := 247) (v := 6) (dd d_Mod_moveAll_2 22 rfl) (by decide) ?_
  refine g_iald (pc := 249) (dd d_Mod_moveAll_2 23 rfl) ar_A_scalars (by rw [vp_in_iff]; decide) ?_
  refine g_putiN (pc := 250) (dd d_Mod_moveAll_2 24 rfl) f_Mod_406 fm_Mod_50 ob_MO rfl (fun I25 hI25 => ?_)
  replace h := lt_e h hI25
  refine g_aload_n (pc := 253) (dd d_Mod_moveAll_2 25 rfl) rfl ?_
  refine g_aload_n (pc := 254) (dd d_Mod_moveAll_2 26 rfl) rfl ?_
  refine g_getr (pc := 255) (dd d_Mod_moveAll_2 27 rfl) f_Mod_123 ob_MO rfl (mr_scalars hX) ?_
  refine g_bipush (pc := 258) (v := 7) (dd d_Mod_moveAll_2 28 rfl) (by decide) ?_
  refine g_iald (pc := 260) (dd d_Mod_moveAll_2 29 rfl) ar_A_scalars (by rw [vp_in_iff]; decide) ?_
  refine g_putiN (pc := 261) (dd d_Mod_moveAll_2 30 rfl) f_Mod_409 fm_Mod_51 ob_MO rfl (fun I26 hI26 => ?_)
  replace h := lt_e h hI26
  refine g_aload_n (pc := 264) (dd d_Mod_moveAll_2 31 rfl) rfl ?_
  refine g_aload_n (pc := 265) (dd d_Mod_moveAll_2 32 rfl) rfl ?_
  refine g_getr (pc := 266) (dd d_Mod_moveAll_2 33 rfl) f_Mod_123 ob_MO rfl (mr_scalars hX) ?_
  refine g_bipush (pc := 269) (v := 8) (dd d_Mod_moveAll_2 34 rfl) (by decide) ?_
  refine g_iald (pc := 271) (dd d_Mod_moveAll_2 35 rfl) ar_A_scalars (by rw [vp_in_iff]; decide) ?_
  refine g_putiN (pc := 272) (dd d_Mod_moveAll_2 36 rfl) f_Mod_412 fm_Mod_52 ob_MO rfl (fun I27 hI27 => ?_)
  replace h := lt_e h hI27
  refine g_aload_n (pc := 275) (dd d_Mod_moveAll_2 37 rfl) rfl ?_
  refine g_aload_n (pc := 276) (dd d_Mod_moveAll_2 38 rfl) rfl ?_
  refine g_getr (pc := 277) (dd d_Mod_moveAll_2 39 rfl) f_Mod_123 ob_MO rfl (mr_scalars hX) ?_
  refine g_bipush (pc := 280) (v := 9) (dd d_Mod_moveAll_2 40 rfl) (by decide) ?_
  refine g_iald (pc := 282) (dd d_Mod_moveAll_2 41 rfl) ar_A_scalars (by rw [vp_in_iff]; decide) ?_
  refine g_putiN (pc := 283) (dd d_Mod_moveAll_2 42 rfl) f_Mod_382 fm_Mod_53 ob_MO rfl (fun I28 hI28 => ?_)
  replace h := lt_e h hI28
  refine g_aload_n (pc := 286) (dd d_Mod_moveAll_2 43 rfl) rfl ?_
  refine g_aload_n (pc := 287) (dd d_Mod_moveAll_2 44 rfl) rfl ?_
  refine g_getr (pc := 288) (dd d_Mod_moveAll_2 45 rfl) f_Mod_123 ob_MO rfl (mr_scalars hX) ?_
  refine g_bipush (pc := 291) (v := 10) (dd d_Mod_moveAll_2 46 rfl) (by decide) ?_
  refine g_iald (pc := 293) (dd d_Mod_moveAll_2 47 rfl) ar_A_scalars (by rw [vp_in_iff]; decide) ?_
  refine g_putiN (pc := 294) (dd d_Mod_moveAll_2 48 rfl) f_Mod_385 fm_Mod_54 ob_MO rfl (fun I29 hI29 => ?_)
  replace h := lt_e h hI29
  refine g_aload_n (pc := 297) (dd d_Mod_moveAll_2 49 rfl) rfl ?_
  refine g_aload_n (pc := 298) (dd d_Mod_moveAll_2 50 rfl) rfl ?_
  refine g_getr (pc := 299) (dd d_Mod_moveAll_2 51 rfl) f_Mod_123 ob_MO rfl (mr_scalars hX) ?_
  refine g_bipush (pc := 302) (v := 11) (dd d_Mod_moveAll_2 52 rfl) (by decide) ?_
  refine g_iald (pc := 304) (dd d_Mod_moveAll_2 53 rfl) ar_A_scalars (by rw [vp_in_iff]; decide) ?_
  refine g_putiN (pc := 305) (dd d_Mod_moveAll_2 54 rfl) f_Mod_415 fm_Mod_55 ob_MO rfl (fun I30 hI30 => ?_)
  replace h := lt_e h hI30
  refine g_aload_n (pc := 308) (dd d_Mod_moveAll_2 55 rfl) rfl ?_
  refine g_aload_n (pc := 309) (dd d_Mod_moveAll_2 56 rfl) rfl ?_
  refine g_getr (pc := 310) (dd d_Mod_moveAll_2 57 rfl) f_Mod_123 ob_MO rfl (mr_scalars hX) ?_
  refine g_bipush (pc := 313) (v := 12) (dd d_Mod_moveAll_2 58 rfl) (by decide) ?_
  refine g_iald (pc := 315) (dd d_Mod_moveAll_2 59 rfl) ar_A_scalars (by rw [vp_in_iff]; decide) ?_
  refine g_putiN (pc := 316) (dd d_Mod_moveAll_3 0 rfl) f_Mod_376 fm_Mod_58 ob_MO rfl (fun I31 hI31 => ?_)
  replace h := lt_e h hI31
  refine g_aload_n (pc := 319) (dd d_Mod_moveAll_3 1 rfl) rfl ?_
  refine g_aload_n (pc := 320) (dd d_Mod_moveAll_3 2 rfl) rfl ?_
  refine g_getr (pc := 321) (dd d_Mod_moveAll_3 3 rfl) f_Mod_123 ob_MO rfl (mr_scalars hX) ?_
  refine g_bipush (pc := 324) (v := 13) (dd d_Mod_moveAll_3 4 rfl) (by decide) ?_
  refine g_iald (pc := 326) (dd d_Mod_moveAll_3 5 rfl) ar_A_scalars (by rw [vp_in_iff]; decide) ?_
  refine g_putiN (pc := 327) (dd d_Mod_moveAll_3 6 rfl) f_Mod_379 fm_Mod_59 ob_MO rfl (fun I32 hI32 => ?_)
  replace h := lt_e h hI32
  refine g_aload_n (pc := 330) (dd d_Mod_moveAll_3 7 rfl) rfl ?_
  refine g_aload_n (pc := 331) (dd d_Mod_moveAll_3 8 rfl) rfl ?_
  refine g_getr (pc := 332) (dd d_Mod_moveAll_3 9 rfl) f_Mod_123 ob_MO rfl (mr_scalars hX) ?_
  refine g_bipush (pc := 335) (v := 14) (dd d_Mod_moveAll_3 10 rfl) (by decide) ?_
  refine g_iald (pc := 337) (dd d_Mod_moveAll_3 11 rfl) ar_A_scalars (by rw [vp_in_iff]; decide) ?_
  refine g_putiN (pc := 338) (dd d_Mod_moveAll_3 12 rfl) f_Mod_418 fm_Mod_63 ob_MO rfl (fun I33 hI33 => ?_)
  replace h := lt_e h hI33
  refine g_aload_n (pc := 341) (dd d_Mod_moveAll_3 13 rfl) rfl ?_
  refine g_aload_n (pc := 342) (dd d_Mod_moveAll_3 14 rfl) rfl ?_
  refine g_getr (pc := 343) (dd d_Mod_moveAll_3 15 rfl) f_Mod_123 ob_MO rfl (mr_scalars hX) ?_
  refine g_bipush (pc := 346) (v := 15) (dd d_Mod_moveAll_3 16 rfl) (by decide) ?_
  refine g_iald (pc := 348) (dd d_Mod_moveAll_3 17 rfl) ar_A_scalars (by rw [vp_in_iff]; decide) ?_
  refine g_putiN (pc := 349) (dd d_Mod_moveAll_3 18 rfl) f_Mod_110 fm_Mod_66 ob_MO rfl (fun I34 hI34 => ?_)
  replace h := lt_e h hI34
  refine g_aload_n (pc := 352) (dd d_Mod_moveAll_3 19 rfl) rfl ?_
  refine g_aload_n (pc := 353) (dd d_Mod_moveAll_3 20 rfl) rfl ?_
  refine g_getr (pc := 354) (dd d_Mod_moveAll_3 21 rfl) f_Mod_59 ob_MO rfl (mr_code hX) ?_
  refine g_bipush (pc := 357) (v := 64) (dd d_Mod_moveAll_3 22 rfl) (by decide) ?_
  refine g_bipush (pc := 359) (v := 20) (dd d_Mod_moveAll_3 23 rfl) (by decide) ?_
  refine g_iload_n (pc := 361) (dd d_Mod_moveAll_3 24 rfl) rfl ?_
  obtain ⟨v35, e36, h⟩ := bnd_e h
  refine g_callV (pc := 362) (dd d_Mod_moveAll_3 25 rfl) v_Mod_612 ob_MO rfl (ef_Mod_moveRow hX ⟨by decide, rfl⟩ e36) rfl (by rw [hk]; decide) (Nat.le_of_ble_eq_true rfl) ⟨Nat.zero_le _, Nat.zero_le _⟩ rfl ?_
  refine g_aload_n (pc := 365) (dd d_Mod_moveAll_3 26 rfl) rfl ?_
  refine g_aload_n (pc := 366) (dd d_Mod_moveAll_3 27 rfl) rfl ?_
  refine g_getr (pc := 367) (dd d_Mod_moveAll_3 28 rfl) f_Mod_62 ob_MO rfl (mr_codeTags hX) ?_
  refine g_bipush (pc := 370) (v := 64) (dd d_Mod_moveAll_3 29 rfl) (by decide) ?_
  refine g_bipush (pc := 372) (v := 84) (dd d_Mod_moveAll_3 30 rfl) (by decide) ?_
  refine g_iload_n (pc := 374) (dd d_Mod_moveAll_3 31 rfl) rfl ?_
  obtain ⟨v37, e38, h⟩ := bnd_e h
  refine g_callV (pc := 375) (dd d_Mod_moveAll_3 32 rfl) v_Mod_612 ob_MO rfl (ef_Mod_moveRow hX ⟨by decide, rfl⟩ e38) rfl (by rw [hk]; decide) (Nat.le_of_ble_eq_true rfl) ⟨Nat.zero_le _, Nat.zero_le _⟩ rfl ?_
  refine g_aload_n (pc := 378) (dd d_Mod_moveAll_3 33 rfl) rfl ?_
  refine g_aload_n (pc := 379) (dd d_Mod_moveAll_3 34 rfl) rfl ?_
  refine g_getr (pc := 380) (dd d_Mod_moveAll_3 35 rfl) f_Mod_65 ob_MO rfl (mr_ints hX) ?_
  refine g_bipush (pc := 383) (v := 96) (dd d_Mod_moveAll_3 36 rfl) (by decide) ?_
  refine g_sipush (pc := 385) (v := 148) (dd d_Mod_moveAll_3 37 rfl) (by decide) ?_
  refine g_iload_n (pc := 388) (dd d_Mod_moveAll_3 38 rfl) rfl ?_
  obtain ⟨v39, e40, h⟩ := bnd_e h
  refine g_callV (pc := 389) (dd d_Mod_moveAll_3 39 rfl) v_Mod_612 ob_MO rfl (ef_Mod_moveRow hX ⟨by decide, rfl⟩ e40) rfl (by rw [hk]; decide) (Nat.le_of_ble_eq_true rfl) ⟨Nat.zero_le _, Nat.zero_le _⟩ rfl ?_
  refine g_aload_n (pc := 392) (dd d_Mod_moveAll_3 40 rfl) rfl ?_
  refine g_aload_n (pc := 393) (dd d_Mod_moveAll_3 41 rfl) rfl ?_
  refine g_getr (pc := 394) (dd d_Mod_moveAll_3 42 rfl) f_Mod_68 ob_MO rfl (mr_held hX) ?_
  refine g_bipush (pc := 397) (v := 96) (dd d_Mod_moveAll_3 43 rfl) (by decide) ?_
  refine g_sipush (pc := 399) (v := 244) (dd d_Mod_moveAll_3 44 rfl) (by decide) ?_
  refine g_iload_n (pc := 402) (dd d_Mod_moveAll_3 45 rfl) rfl ?_
  obtain ⟨v41, e42, h⟩ := bnd_e h
  refine g_callV (pc := 403) (dd d_Mod_moveAll_3 46 rfl) v_Mod_612 ob_MO rfl (ef_Mod_moveRow hX ⟨by decide, rfl⟩ e42) rfl (by rw [hk]; decide) (Nat.le_of_ble_eq_true rfl) ⟨Nat.zero_le _, Nat.zero_le _⟩ rfl ?_
  refine g_aload_n (pc := 406) (dd d_Mod_moveAll_3 47 rfl) rfl ?_
  refine g_aload_n (pc := 407) (dd d_Mod_moveAll_3 48 rfl) rfl ?_
  refine g_getr (pc := 408) (dd d_Mod_moveAll_3 49 rfl) f_Mod_71 ob_MO rfl (mr_owners hX) ?_
  refine g_bipush (pc := 411) (v := 96) (dd d_Mod_moveAll_3 50 rfl) (by decide) ?_
  refine g_sipush (pc := 413) (v := 340) (dd d_Mod_moveAll_3 51 rfl) (by decide) ?_
  refine g_iload_n (pc := 416) (dd d_Mod_moveAll_3 52 rfl) rfl ?_
  obtain ⟨v43, e44, h⟩ := bnd_e h
  refine g_callV (pc := 417) (dd d_Mod_moveAll_3 53 rfl) v_Mod_612 ob_MO rfl (ef_Mod_moveRow hX ⟨by decide, rfl⟩ e44) rfl (by rw [hk]; decide) (Nat.le_of_ble_eq_true rfl) ⟨Nat.zero_le _, Nat.zero_le _⟩ rfl ?_
  refine g_aload_n (pc := 420) (dd d_Mod_moveAll_3 54 rfl) rfl ?_
  refine g_aload_n (pc := 421) (dd d_Mod_moveAll_3 55 rfl) rfl ?_
  refine g_getr (pc := 422) (dd d_Mod_moveAll_3 56 rfl) f_Mod_74 ob_MO rfl (mr_registers hX) ?_
  refine g_bipush (pc := 425) (v := 8) (dd d_Mod_moveAll_3 57 rfl) (by decide) ?_
  refine g_sipush (pc := 427) (v := 436) (dd d_Mod_moveAll_3 58 rfl) (by decide) ?_
  refine g_iload_n (pc := 430) (dd d_Mod_moveAll_3 59 rfl) rfl ?_
  obtain ⟨v45, e46, h⟩ := bnd_e h
  refine g_callV (pc := 431) (dd d_Mod_moveAll_4 0 rfl) v_Mod_612 ob_MO rfl (ef_Mod_moveRow hX ⟨by decide, rfl⟩ e46) rfl (by rw [hk]; decide) (Nat.le_of_ble_eq_true rfl) ⟨Nat.zero_le _, Nat.zero_le _⟩ rfl ?_
  refine g_aload_n (pc := 434) (dd d_Mod_moveAll_4 1 rfl) rfl ?_
  refine g_aload_n (pc := 435) (dd d_Mod_moveAll_4 2 rfl) rfl ?_
  refine g_getr (pc := 436) (dd d_Mod_moveAll_4 3 rfl) f_Mod_77 ob_MO rfl (mr_registerTags hX) ?_
  refine g_bipush (pc := 439) (v := 8) (dd d_Mod_moveAll_4 4 rfl) (by decide) ?_
  refine g_sipush (pc := 441) (v := 444) (dd d_Mod_moveAll_4 5 rfl) (by decide) ?_
  refine g_iload_n (pc := 444) (dd d_Mod_moveAll_4 6 rfl) rfl ?_
  obtain ⟨v47, e48, h⟩ := bnd_e h
  refine g_callV (pc := 445) (dd d_Mod_moveAll_4 7 rfl) v_Mod_612 ob_MO rfl (ef_Mod_moveRow hX ⟨by decide, rfl⟩ e48) rfl (by rw [hk]; decide) (Nat.le_of_ble_eq_true rfl) ⟨Nat.zero_le _, Nat.zero_le _⟩ rfl ?_
  refine g_aload_n (pc := 448) (dd d_Mod_moveAll_4 8 rfl) rfl ?_
  refine g_aload_n (pc := 449) (dd d_Mod_moveAll_4 9 rfl) rfl ?_
  refine g_getr (pc := 450) (dd d_Mod_moveAll_4 10 rfl) f_Mod_80 ob_MO rfl (mr_inputValues hX) ?_
  refine g_bipush (pc := 453) (v := 16) (dd d_Mod_moveAll_4 11 rfl) (by decide) ?_
  refine g_sipush (pc := 455) (v := 452) (dd d_Mod_moveAll_4 12 rfl) (by decide) ?_
  refine g_iload_n (pc := 458) (dd d_Mod_moveAll_4 13 rfl) rfl ?_
  obtain ⟨v49, e50, h⟩ := bnd_e h
  refine g_callV (pc := 459) (dd d_Mod_moveAll_4 14 rfl) v_Mod_612 ob_MO rfl (ef_Mod_moveRow hX ⟨by decide, rfl⟩ e50) rfl (by rw [hk]; decide) (Nat.le_of_ble_eq_true rfl) ⟨Nat.zero_le _, Nat.zero_le _⟩ rfl ?_
  refine g_aload_n (pc := 462) (dd d_Mod_moveAll_4 15 rfl) rfl ?_
  refine g_aload_n (pc := 463) (dd d_Mod_moveAll_4 16 rfl) rfl ?_
  refine g_getr (pc := 464) (dd d_Mod_moveAll_4 17 rfl) f_Mod_83 ob_MO rfl (mr_inputTags hX) ?_
  refine g_bipush (pc := 467) (v := 16) (dd d_Mod_moveAll_4 18 rfl) (by decide) ?_
  refine g_sipush (pc := 469) (v := 468) (dd d_Mod_moveAll_4 19 rfl) (by decide) ?_
  refine g_iload_n (pc := 472) (dd d_Mod_moveAll_4 20 rfl) rfl ?_
  obtain ⟨v51, e52, h⟩ := bnd_e h
  refine g_callV (pc := 473) (dd d_Mod_moveAll_4 21 rfl) v_Mod_612 ob_MO rfl (ef_Mod_moveRow hX ⟨by decide, rfl⟩ e52) rfl (by rw [hk]; decide) (Nat.le_of_ble_eq_true rfl) ⟨Nat.zero_le _, Nat.zero_le _⟩ rfl ?_
  refine g_aload_n (pc := 476) (dd d_Mod_moveAll_4 22 rfl) rfl ?_
  refine g_aload_n (pc := 477) (dd d_Mod_moveAll_4 23 rfl) rfl ?_
  refine g_getr (pc := 478) (dd d_Mod_moveAll_4 24 rfl) f_Mod_86 ob_MO rfl (mr_output hX) ?_
  refine g_bipush (pc := 481) (v := 40) (dd d_Mod_moveAll_4 25 rfl) (by decide) ?_
  refine g_sipush (pc := 483) (v := 484) (dd d_Mod_moveAll_4 26 rfl) (by decide) ?_
  refine g_iload_n (pc := 486) (dd d_Mod_moveAll_4 27 rfl) rfl ?_
  obtain ⟨v53, e54, h⟩ := bnd_e h
  refine g_callV (pc := 487) (dd d_Mod_moveAll_4 28 rfl) v_Mod_612 ob_MO rfl (ef_Mod_moveRow hX ⟨by decide, rfl⟩ e54) rfl (by rw [hk]; decide) (Nat.le_of_ble_eq_true rfl) ⟨Nat.zero_le _, Nat.zero_le _⟩ rfl ?_
  refine g_aload_n (pc := 490) (dd d_Mod_moveAll_4 29 rfl) rfl ?_
  refine g_aload_n (pc := 491) (dd d_Mod_moveAll_4 30 rfl) rfl ?_
  refine g_getr (pc := 492) (dd d_Mod_moveAll_4 31 rfl) f_Mod_89 ob_MO rfl (mr_firsts hX) ?_
  refine g_bipush (pc := 495) (v := 60) (dd d_Mod_moveAll_4 32 rfl) (by decide) ?_
  refine g_sipush (pc := 497) (v := 524) (dd d_Mod_moveAll_4 33 rfl) (by decide) ?_
  refine g_iload_n (pc := 500) (dd d_Mod_moveAll_4 34 rfl) rfl ?_
  obtain ⟨v55, e56, h⟩ := bnd_e h
  refine g_callV (pc := 501) (dd d_Mod_moveAll_4 35 rfl) v_Mod_612 ob_MO rfl (ef_Mod_moveRow hX ⟨by decide, rfl⟩ e56) rfl (by rw [hk]; decide) (Nat.le_of_ble_eq_true rfl) ⟨Nat.zero_le _, Nat.zero_le _⟩ rfl ?_
  refine g_aload_n (pc := 504) (dd d_Mod_moveAll_4 36 rfl) rfl ?_
  refine g_aload_n (pc := 505) (dd d_Mod_moveAll_4 37 rfl) rfl ?_
  refine g_getr (pc := 506) (dd d_Mod_moveAll_4 38 rfl) f_Mod_92 ob_MO rfl (mr_seconds hX) ?_
  refine g_bipush (pc := 509) (v := 60) (dd d_Mod_moveAll_4 39 rfl) (by decide) ?_
  refine g_sipush (pc := 511) (v := 584) (dd d_Mod_moveAll_4 40 rfl) (by decide) ?_
  refine g_iload_n (pc := 514) (dd d_Mod_moveAll_4 41 rfl) rfl ?_
  obtain ⟨v57, e58, h⟩ := bnd_e h
  refine g_callV (pc := 515) (dd d_Mod_moveAll_4 42 rfl) v_Mod_612 ob_MO rfl (ef_Mod_moveRow hX ⟨by decide, rfl⟩ e58) rfl (by rw [hk]; decide) (Nat.le_of_ble_eq_true rfl) ⟨Nat.zero_le _, Nat.zero_le _⟩ rfl ?_
  refine g_aload_n (pc := 518) (dd d_Mod_moveAll_4 43 rfl) rfl ?_
  refine g_aload_n (pc := 519) (dd d_Mod_moveAll_4 44 rfl) rfl ?_
  refine g_getr (pc := 520) (dd d_Mod_moveAll_4 45 rfl) f_Mod_95 ob_MO rfl (mr_cache hX) ?_
  refine g_sipush (pc := 523) (v := 128) (dd d_Mod_moveAll_4 46 rfl) (by decide) ?_
  refine g_sipush (pc := 526) (v := 644) (dd d_Mod_moveAll_4 47 rfl) (by decide) ?_
  refine g_iload_n (pc := 529) (dd d_Mod_moveAll_4 48 rfl) rfl ?_
  obtain ⟨v59, e60, h⟩ := bnd_e h
  refine g_callV (pc := 530) (dd d_Mod_moveAll_4 49 rfl) v_Mod_612 ob_MO rfl (ef_Mod_moveRow hX ⟨by decide, rfl⟩ e60) rfl (by rw [hk]; decide) (Nat.le_of_ble_eq_true rfl) ⟨Nat.zero_le _, Nat.zero_le _⟩ rfl ?_
  refine g_aload_n (pc := 533) (dd d_Mod_moveAll_4 50 rfl) rfl ?_
  refine g_aload_n (pc := 534) (dd d_Mod_moveAll_4 51 rfl) rfl ?_
  refine g_getr (pc := 535) (dd d_Mod_moveAll_4 52 rfl) f_Mod_98 ob_MO rfl (mr_answers hX) ?_
  refine g_bipush (pc := 538) (v := 40) (dd d_Mod_moveAll_4 53 rfl) (by decide) ?_
  refine g_sipush (pc := 540) (v := 772) (dd d_Mod_moveAll_4 54 rfl) (by decide) ?_
  refine g_iload_n (pc := 543) (dd d_Mod_moveAll_4 55 rfl) rfl ?_
  obtain ⟨v61, e62, h⟩ := bnd_e h
  refine g_callV (pc := 544) (dd d_Mod_moveAll_4 56 rfl) v_Mod_612 ob_MO rfl (ef_Mod_moveRow hX ⟨by decide, rfl⟩ e62) rfl (by rw [hk]; decide) (Nat.le_of_ble_eq_true rfl) ⟨Nat.zero_le _, Nat.zero_le _⟩ rfl ?_
  refine g_aload_n (pc := 547) (dd d_Mod_moveAll_4 57 rfl) rfl ?_
  refine g_aload_n (pc := 548) (dd d_Mod_moveAll_4 58 rfl) rfl ?_
  refine g_getr (pc := 549) (dd d_Mod_moveAll_4 59 rfl) f_Mod_104 ob_MO rfl (mr_entries hX) ?_
  refine g_bipush (pc := 552) (v := 96) (dd d_Mod_moveAll_5 0 rfl) (by decide) ?_
  refine g_sipush (pc := 554) (v := 812) (dd d_Mod_moveAll_5 1 rfl) (by decide) ?_
  refine g_iload_n (pc := 557) (dd d_Mod_moveAll_5 2 rfl) rfl ?_
  obtain ⟨v63, e64, h⟩ := bnd_e h
  refine g_callV (pc := 558) (dd d_Mod_moveAll_5 3 rfl) v_Mod_612 ob_MO rfl (ef_Mod_moveRow hX ⟨by decide, rfl⟩ e64) rfl (by rw [hk]; decide) (Nat.le_of_ble_eq_true rfl) ⟨Nat.zero_le _, Nat.zero_le _⟩ rfl ?_
  refine g_aload_n (pc := 561) (dd d_Mod_moveAll_5 4 rfl) rfl ?_
  refine g_aload_n (pc := 562) (dd d_Mod_moveAll_5 5 rfl) rfl ?_
  refine g_getr (pc := 563) (dd d_Mod_moveAll_5 6 rfl) f_Mod_107 ob_MO rfl (mr_counts hX) ?_
  refine g_bipush (pc := 566) (v := 88) (dd d_Mod_moveAll_5 7 rfl) (by decide) ?_
  refine g_sipush (pc := 568) (v := 908) (dd d_Mod_moveAll_5 8 rfl) (by decide) ?_
  refine g_iload_n (pc := 571) (dd d_Mod_moveAll_5 9 rfl) rfl ?_
  obtain ⟨v65, e66, h⟩ := bnd_e h
  refine g_callV (pc := 572) (dd d_Mod_moveAll_5 10 rfl) v_Mod_612 ob_MO rfl (ef_Mod_moveRow hX ⟨by decide, rfl⟩ e66) rfl (by rw [hk]; decide) (Nat.le_of_ble_eq_true rfl) ⟨Nat.zero_le _, Nat.zero_le _⟩ rfl ?_
  cases h
  exact g_vret (pc := 575) rfl (dd d_Mod_moveAll_5 11 rfl) hT
def f_Mod_twin (n : Nat) (I : IM) : Option (IM) := lt (up I MO 0 (0)) fun I1 => Option.bind (f_Mod_moveAll n 0 I1) fun v2 => some v2
set_option maxRecDepth 20000 in
set_option maxHeartbeats 4000000 in
theorem ef_Mod_twin {Δ : Dx} {X : Lx} (hX : MX Δ X) {n : Nat}  {I : IM}  {r : IM} (h : f_Mod_twin n I = some r) : Ev Δ 2 m_Mod_twin [.ref (Δ.ba + MO)] (I, X) none (r, X) := by
  refine ev_of (by decide) (Nat.le_of_ble_eq_true rfl) (fun Γ hk hR hT => ?_)
  change GG Δ m_Mod_twin Γ NN 0 0 (I, X) 0 [some (.ref (Δ.ba + MO))] []
  unfold f_Mod_twin at h
  refine g_aload_n (pc := 0) (dd d_Mod_twin 0 rfl) rfl ?_
  refine g_iconst (pc := 1) (v := 0) (dd d_Mod_twin 1 rfl) (by decide) ?_
  refine g_putiN (pc := 2) (dd d_Mod_twin 2 rfl) f_Mod_240 fm_Mod_0 ob_MO rfl (fun I1 hI1 => ?_)
  replace h := lt_e h hI1
  refine g_aload_n (pc := 5) (dd d_Mod_twin 3 rfl) rfl ?_
  refine g_iconst (pc := 6) (v := 0) (dd d_Mod_twin 4 rfl) (by decide) ?_
  obtain ⟨v2, e3, h⟩ := bnd_e h
  refine g_callV (pc := 7) (dd d_Mod_twin 5 rfl) v_Mod_236 ob_MO rfl (ef_Mod_moveAll hX e3) rfl (by rw [hk]; decide) (Nat.le_of_ble_eq_true rfl) ⟨Nat.zero_le _, Nat.zero_le _⟩ rfl ?_
  cases h
  exact g_vret (pc := 10) rfl (dd d_Mod_twin 6 rfl) hT
def f_Mod_swap (n : Nat) (I : IM) : Option (IM) := lt (up I MO 0 (0)) fun I1 => Option.bind (f_Mod_moveAll n 1 I1) fun v2 => some v2
set_option maxRecDepth 20000 in
set_option maxHeartbeats 4000000 in
theorem ef_Mod_swap {Δ : Dx} {X : Lx} (hX : MX Δ X) {n : Nat}  {I : IM}  {r : IM} (h : f_Mod_swap n I = some r) : Ev Δ 2 m_Mod_swap [.ref (Δ.ba + MO)] (I, X) none (r, X) := by
  refine ev_of (by decide) (Nat.le_of_ble_eq_true rfl) (fun Γ hk hR hT => ?_)
  change GG Δ m_Mod_swap Γ NN 0 0 (I, X) 0 [some (.ref (Δ.ba + MO))] []
  unfold f_Mod_swap at h
  refine g_aload_n (pc := 0) (dd d_Mod_swap 0 rfl) rfl ?_
  refine g_iconst (pc := 1) (v := 0) (dd d_Mod_swap 1 rfl) (by decide) ?_
  refine g_putiN (pc := 2) (dd d_Mod_swap 2 rfl) f_Mod_240 fm_Mod_0 ob_MO rfl (fun I1 hI1 => ?_)
  replace h := lt_e h hI1
  refine g_aload_n (pc := 5) (dd d_Mod_swap 3 rfl) rfl ?_
  refine g_iconst (pc := 6) (v := 1) (dd d_Mod_swap 4 rfl) (by decide) ?_
  obtain ⟨v2, e3, h⟩ := bnd_e h
  refine g_callV (pc := 7) (dd d_Mod_swap 5 rfl) v_Mod_236 ob_MO rfl (ef_Mod_moveAll hX e3) rfl (by rw [hk]; decide) (Nat.le_of_ble_eq_true rfl) ⟨Nat.zero_le _, Nat.zero_le _⟩ rfl ?_
  cases h
  exact g_vret (pc := 10) rfl (dd d_Mod_swap 6 rfl) hT
def l_Mod_firstUnlike_9 (n : Nat) (x1 : Nat) (I : IM)  : Nat → Int32 → Int32 → Int32 → Option (Int32)
  | 0, _, _, _ => none
  | f + 1, x3, x5, x6 => if x6 < 0 then (some (x5)) else (chk (inb x6 (lenA x1)) <| chk (inb (x3 + x6) 996) <| (l_Mod_firstUnlike_9 n x1 I  f) x3 (if (I x1 x6.toNatClampNeg : Int32) = (I A_other (x3 + x6 : Int32).toNatClampNeg : Int32) then x5 else (if x5 < 0 then x6 else (if x5 ≤ x6 then x5 else x6))) (x6 + (-1)))
set_option maxRecDepth 20000 in
set_option maxHeartbeats 4000000 in
theorem gl_Mod_firstUnlike_9 {Δ : Dx} {X : Lx} (hX : MX Δ X) {x1 : Nat} (ha_x1 : isA x1) {n : Nat} {I : IM} {Γ : Cx} (hk : Γ.k = 0) {r : Int32} (hT : Tg Δ Γ (some (.int r)) NN (I, X) 0 0)  : ∀ (f : Nat) (x3 : Int32) (x5 : Int32) (x6 : Int32), l_Mod_firstUnlike_9 n x1 I  f x3 x5 x6 = some r → GG Δ m_Mod_firstUnlike Γ NN 0 0 (I, X) 9 [some (.ref (Δ.ba + MO)), some (.ref (Δ.ba + x1)), none, some (.int (x3)), none, some (.int (x5)), some (.int (x6))] []
  | 0, _, _, _, h => by cases h
  | f + 1, x3, x5, x6, h => by
    have ih := gl_Mod_firstUnlike_9 (n := n) (x1 := x1) hX ha_x1 hk hT  f
    rw [l_Mod_firstUnlike_9] at h
    refine g_iload (pc := 9) (dd d_Mod_firstUnlike 6 rfl) rfl ?_
    refine g_iflt (pc := 11) (tgt := 57) (dd d_Mod_firstUnlike 7 rfl) (by decide) (fun q1 => ?_) (fun q1 => ?_)
    · replace h := ite_t h q1
      refine g_iload (pc := 57) (dd d_Mod_firstUnlike 29 rfl) rfl ?_
      cases h
      exact g_iret (pc := 59) rfl (dd d_Mod_firstUnlike 30 rfl) hT
    · replace h := ite_f h q1
      refine g_aload_n (pc := 14) (dd d_Mod_firstUnlike 8 rfl) rfl ?_
      refine g_iload (pc := 15) (dd d_Mod_firstUnlike 9 rfl) rfl ?_
      obtain ⟨c2, h⟩ := chk_e h
      refine g_iald (pc := 17) (dd d_Mod_firstUnlike 10 rfl) ha_x1 c2 ?_
      refine g_aload_n (pc := 18) (dd d_Mod_firstUnlike 11 rfl) rfl ?_
      refine g_getr (pc := 19) (dd d_Mod_firstUnlike 12 rfl) f_Mod_126 ob_MO rfl (mr_other hX) ?_
      refine g_iload_n (pc := 22) (dd d_Mod_firstUnlike 13 rfl) rfl ?_
      refine g_iload (pc := 23) (dd d_Mod_firstUnlike 14 rfl) rfl ?_
      refine g_iadd (pc := 25) (dd d_Mod_firstUnlike 15 rfl) ?_
      obtain ⟨c3, h⟩ := chk_e h
      refine g_iald (pc := 26) (dd d_Mod_firstUnlike 16 rfl) ar_A_other c3 ?_
      suffices K27 : ∀ z : Int32, z = (if (I x1 x6.toNatClampNeg : Int32) = (I A_other (x3 + x6 : Int32).toNatClampNeg : Int32) then x5 else (if x5 < 0 then x6 else (if x5 ≤ x6 then x5 else x6)) : Int32) → GG Δ m_Mod_firstUnlike Γ NN 0 0 (I, X) 49 [some (.ref (Δ.ba + MO)), some (.ref (Δ.ba + x1)), none, some (.int (x3)), none, some (.int (x5)), some (.int (x6))] [.int (z)] by
        refine g_icmpeq (pc := 27) (tgt := 47) (dd d_Mod_firstUnlike 17 rfl) (by decide) (fun q4 => ?_) (fun q4 => ?_)
        · skip
          refine g_iload (pc := 47) (dd d_Mod_firstUnlike 25 rfl) rfl ?_
          exact K27 _ (by rw [if_pos q4])
        · skip
          refine g_iload (pc := 30) (dd d_Mod_firstUnlike 18 rfl) rfl ?_
          refine g_iflt (pc := 32) (tgt := 42) (dd d_Mod_firstUnlike 19 rfl) (by decide) (fun q5 => ?_) (fun q5 => ?_)
          · skip
            refine g_iload (pc := 42) (dd d_Mod_firstUnlike 23 rfl) rfl ?_
            refine g_goto (pc := 44) (tgt := 49) (dd d_Mod_firstUnlike 24 rfl) (by decide) ?_
            exact K27 _ (by rw [if_neg q4, if_pos q5])
          · skip
            refine g_iload (pc := 35) (dd d_Mod_firstUnlike 20 rfl) rfl ?_
            refine g_iload (pc := 37) (dd d_Mod_firstUnlike 21 rfl) rfl ?_
            refine g_icmpge (pc := 39) (tgt := 47) (dd d_Mod_firstUnlike 22 rfl) (by decide) (fun q6 => ?_) (fun q6 => ?_)
            · skip
              refine g_iload (pc := 47) (dd d_Mod_firstUnlike 25 rfl) rfl ?_
              exact K27 _ (by rw [if_neg q4, if_neg q5, if_pos q6])
            · skip
              refine g_iload (pc := 42) (dd d_Mod_firstUnlike 23 rfl) rfl ?_
              refine g_goto (pc := 44) (tgt := 49) (dd d_Mod_firstUnlike 24 rfl) (by decide) ?_
              exact K27 _ (by rw [if_neg q4, if_neg q5, if_neg q6])
      intro z hz
      subst hz
      refine g_istore (pc := 49) (dd d_Mod_firstUnlike 26 rfl) (by decide) ?_
      refine g_iincW (pc := 51) (w := (-1)) (dd d_Mod_firstUnlike 27 rfl) rfl (by decide) (by decide) ?_
      refine g_goto (pc := 54) (tgt := 9) (dd d_Mod_firstUnlike 28 rfl) (by decide) ?_
      exact ih _ _ _ h
def f_Mod_firstUnlike (n : Nat) (x1 : Nat) (x2 : Int32) (x3 : Int32) (x4 : Int32) (I : IM) : Option (Int32) := l_Mod_firstUnlike_9 n x1 I  n x3 x4 (x2 - 1)
set_option maxRecDepth 20000 in
set_option maxHeartbeats 4000000 in
theorem ef_Mod_firstUnlike {Δ : Dx} {X : Lx} (hX : MX Δ X) {n : Nat} {x1 : Nat} {x2 : Int32} {x3 : Int32} {x4 : Int32} (ha_x1 : isA x1) {I : IM}  {r : Int32} (h : f_Mod_firstUnlike n x1 x2 x3 x4 I = some r) : Ev Δ 0 m_Mod_firstUnlike [.ref (Δ.ba + MO), .ref (Δ.ba + x1), .int x2, .int x3, .int x4] (I, X) (some (.int r)) (I, X) := by
  refine ev_of (by decide) (Nat.le_of_ble_eq_true rfl) (fun Γ hk hR hT => ?_)
  change GG Δ m_Mod_firstUnlike Γ NN 0 0 (I, X) 0 [some (.ref (Δ.ba + MO)), some (.ref (Δ.ba + x1)), some (.int (x2)), some (.int (x3)), some (.int (x4)), none, none] []
  unfold f_Mod_firstUnlike at h
  refine g_iload (pc := 0) (dd d_Mod_firstUnlike 0 rfl) rfl ?_
  refine g_istore (pc := 2) (dd d_Mod_firstUnlike 1 rfl) (by decide) ?_
  refine g_iload_n (pc := 4) (dd d_Mod_firstUnlike 2 rfl) rfl ?_
  refine g_iconst (pc := 5) (v := 1) (dd d_Mod_firstUnlike 3 rfl) (by decide) ?_
  refine g_isub (pc := 6) (dd d_Mod_firstUnlike 4 rfl) ?_
  refine g_istore (pc := 7) (dd d_Mod_firstUnlike 5 rfl) (by decide) ?_
  refine g_drop [2, 4] ?_
  exact gl_Mod_firstUnlike_9 hX ha_x1 hk hT  _ _ _ _ h
def b_Mod_unlike_169 (n : Nat)  (y0 : Int32) (I : IM) : Option (Int32 × IM) := some (y0, I)
set_option maxRecDepth 20000 in
set_option maxHeartbeats 4000000 in
theorem gb_Mod_unlike_169 {Δ : Dx} {X : Lx} (hX : MX Δ X)   {n : Nat} {Γ : Cx} (hk : Γ.k = 1) {r : Int32 × IM} (hT : Tg Δ Γ (some (.int r.1)) NN (r.2, X) 0 0)  {y0 : Int32} {I : IM} (h : b_Mod_unlike_169 n  y0 I = some r) : GG Δ m_Mod_unlike Γ NN 0 0 (I, X) 169 [none, none, none, none, none, none] [.int (y0)] := by
  unfold b_Mod_unlike_169 at h
  cases h
  exact g_iret (pc := 169) rfl (dd d_Mod_unlike_1 29 rfl) hT
def b_Mod_unlike_163 (n : Nat)   (I : IM) : Option (Int32 × IM) := b_Mod_unlike_169 n  8 I
set_option maxRecDepth 20000 in
set_option maxHeartbeats 4000000 in
theorem gb_Mod_unlike_163 {Δ : Dx} {X : Lx} (hX : MX Δ X)   {n : Nat} {Γ : Cx} (hk : Γ.k = 1) {r : Int32 × IM} (hT : Tg Δ Γ (some (.int r.1)) NN (r.2, X) 0 0)   {I : IM} (h : b_Mod_unlike_163 n   I = some r) : GG Δ m_Mod_unlike Γ NN 0 0 (I, X) 163 [none, none, none, none, none, none] [] := by
  unfold b_Mod_unlike_163 at h
  refine g_bipush (pc := 163) (v := 8) (dd d_Mod_unlike_1 26 rfl) (by decide) ?_
  refine g_goto (pc := 165) (tgt := 169) (dd d_Mod_unlike_1 27 rfl) (by decide) ?_
  exact gb_Mod_unlike_169 hX hk hT  h
def b_Mod_unlike_168 (n : Nat)  (x2 : Int32) (I : IM) : Option (Int32 × IM) := b_Mod_unlike_169 n  x2 I
set_option maxRecDepth 20000 in
set_option maxHeartbeats 4000000 in
theorem gb_Mod_unlike_168 {Δ : Dx} {X : Lx} (hX : MX Δ X)   {n : Nat} {Γ : Cx} (hk : Γ.k = 1) {r : Int32 × IM} (hT : Tg Δ Γ (some (.int r.1)) NN (r.2, X) 0 0)  {x2 : Int32} {I : IM} (h : b_Mod_unlike_168 n  x2 I = some r) : GG Δ m_Mod_unlike Γ NN 0 0 (I, X) 168 [none, none, some (.int (x2)), none, none, none] [] := by
  unfold b_Mod_unlike_168 at h
  refine g_iload_n (pc := 168) (dd d_Mod_unlike_1 28 rfl) rfl ?_
  refine g_drop [2] ?_
  exact gb_Mod_unlike_169 hX hk hT  h
def b_Mod_unlike_211 (n : Nat)  (x2 : Int32) (y0 : Int32) (I : IM) : Option (Int32 × IM) := Option.bind (f_Mod_firstUnlike n A_output (if y0 ≤ x2 then y0 else x2) 484 (-1) I) fun v30 => some (if 0 ≤ v30 then v30 else (if x2 = y0 then v30 else (if y0 ≤ x2 then y0 else x2)), I)
set_option maxRecDepth 20000 in
set_option maxHeartbeats 4000000 in
theorem gb_Mod_unlike_211 {Δ : Dx} {X : Lx} (hX : MX Δ X)   {n : Nat} {Γ : Cx} (hk : Γ.k = 1) {r : Int32 × IM} (hT : Tg Δ Γ (some (.int r.1)) NN (r.2, X) 0 0)  {x2 : Int32} {y0 : Int32} {I : IM} (h : b_Mod_unlike_211 n  x2 y0 I = some r) : GG Δ m_Mod_unlike Γ NN 0 0 (I, X) 211 [some (.ref (Δ.ba + MO)), none, some (.int (x2)), none, none, none] [.int (y0)] := by
  unfold b_Mod_unlike_211 at h
  refine g_istore_n (pc := 211) (dd d_Mod_unlike_1 51 rfl) (by decide) ?_
  refine g_iload_n (pc := 212) (dd d_Mod_unlike_1 52 rfl) rfl ?_
  refine g_iload_n (pc := 213) (dd d_Mod_unlike_1 53 rfl) rfl ?_
  suffices K214 : ∀ z : Int32, z = (if y0 ≤ x2 then y0 else x2 : Int32) → GG Δ m_Mod_unlike Γ NN 0 0 (I, X) 222 [some (.ref (Δ.ba + MO)), none, some (.int (x2)), some (.int (y0)), none, none] [.int (z)] by
    refine g_icmpge (pc := 214) (tgt := 221) (dd d_Mod_unlike_1 54 rfl) (by decide) (fun q29 => ?_) (fun q29 => ?_)
    · skip
      refine g_iload_n (pc := 221) (dd d_Mod_unlike_1 57 rfl) rfl ?_
      exact K214 _ (by rw [if_pos q29])
    · skip
      refine g_iload_n (pc := 217) (dd d_Mod_unlike_1 55 rfl) rfl ?_
      refine g_goto (pc := 218) (tgt := 222) (dd d_Mod_unlike_1 56 rfl) (by decide) ?_
      exact K214 _ (by rw [if_neg q29])
  intro z hz
  subst hz
  refine g_istore (pc := 222) (dd d_Mod_unlike_1 58 rfl) (by decide) ?_
  refine g_aload_n (pc := 224) (dd d_Mod_unlike_1 59 rfl) rfl ?_
  refine g_aload_n (pc := 225) (dd d_Mod_unlike_2 0 rfl) rfl ?_
  refine g_getr (pc := 226) (dd d_Mod_unlike_2 1 rfl) f_Mod_86 ob_MO rfl (mr_output hX) ?_
  refine g_iload (pc := 229) (dd d_Mod_unlike_2 2 rfl) rfl ?_
  refine g_sipush (pc := 231) (v := 484) (dd d_Mod_unlike_2 3 rfl) (by decide) ?_
  refine g_iconst (pc := 234) (v := (-1)) (dd d_Mod_unlike_2 4 rfl) (by decide) ?_
  obtain ⟨v30, e31, h⟩ := bnd_e h
  refine g_callV (pc := 235) (dd d_Mod_unlike_2 5 rfl) v_Mod_616 ob_MO rfl (ef_Mod_firstUnlike hX ⟨by decide, rfl⟩ e31) rfl (by rw [hk]; decide) (Nat.le_of_ble_eq_true rfl) ⟨Nat.zero_le _, Nat.zero_le _⟩ rfl ?_
  refine g_istore (pc := 238) (dd d_Mod_unlike_2 6 rfl) (by decide) ?_
  refine g_iload (pc := 240) (dd d_Mod_unlike_2 7 rfl) rfl ?_
  suffices K242 : ∀ z : Int32, z = (if 0 ≤ v30 then v30 else (if x2 = y0 then v30 else (if y0 ≤ x2 then y0 else x2)) : Int32) → GG Δ m_Mod_unlike Γ NN 0 0 (I, X) 257 [some (.ref (Δ.ba + MO)), none, some (.int (x2)), some (.int (y0)), some (.int (if y0 ≤ x2 then y0 else x2)), some (.int (v30))] [.int (z)] by
    refine g_ifge (pc := 242) (tgt := 255) (dd d_Mod_unlike_2 8 rfl) (by decide) (fun q32 => ?_) (fun q32 => ?_)
    · skip
      refine g_iload (pc := 255) (dd d_Mod_unlike_2 14 rfl) rfl ?_
      exact K242 _ (by rw [if_pos q32])
    · skip
      refine g_iload_n (pc := 245) (dd d_Mod_unlike_2 9 rfl) rfl ?_
      refine g_iload_n (pc := 246) (dd d_Mod_unlike_2 10 rfl) rfl ?_
      refine g_icmpeq (pc := 247) (tgt := 255) (dd d_Mod_unlike_2 11 rfl) (by decide) (fun q33 => ?_) (fun q33 => ?_)
      · skip
        refine g_iload (pc := 255) (dd d_Mod_unlike_2 14 rfl) rfl ?_
        exact K242 _ (by rw [if_neg q32, if_pos q33])
      · skip
        refine g_iload (pc := 250) (dd d_Mod_unlike_2 12 rfl) rfl ?_
        refine g_goto (pc := 252) (tgt := 257) (dd d_Mod_unlike_2 13 rfl) (by decide) ?_
        exact K242 _ (by rw [if_neg q32, if_neg q33])
  intro z hz
  subst hz
  cases h
  exact g_iret (pc := 257) rfl (dd d_Mod_unlike_2 15 rfl) hT
def f_Mod_unlike (n : Nat) (x1 : Int32) (I : IM) : Option (Int32 × IM) := Option.bind (f_Mod_in  x1 0 3 I) fun v1 => Option.bind (f_Mod_refuse  (if v1 = 0 then 1 else 0) 0 I) fun v4 => if (v4.1 : Int32) = 0 then (if x1 = 0 then (Option.bind (f_Mod_firstUnlike n A_code 64 20 (-1) v4.2) fun v25 => Option.bind (f_Mod_firstUnlike n A_codeTags 64 84 v25 v4.2) fun v27 => some (v27, v4.2)) else (if x1 = (1 : Int32) then (Option.bind (f_Mod_firstUnlike n A_ints 96 148 (-1) v4.2) fun v19 => Option.bind (f_Mod_firstUnlike n A_held 96 244 v19 v4.2) fun v21 => Option.bind (f_Mod_firstUnlike n A_owners 96 340 v21 v4.2) fun v23 => some (v23, v4.2)) else (if x1 = (2 : Int32) then (Option.bind (f_Mod_firstUnlike n A_registers 8 436 (-1) v4.2) fun v12 => Option.bind (f_Mod_firstUnlike n A_registerTags 8 444 v12 v4.2) fun v14 => if 0 ≤ v14 then (b_Mod_unlike_168 n  v14 v4.2) else (if (v4.2 MO 42 : Int32) = (v4.2 A_other (1 : Int32).toNatClampNeg : Int32) then (some (if (v4.2 MO 43 : Int32) = (v4.2 A_other (2 : Int32).toNatClampNeg : Int32) then v14 else 8, v4.2)) else (b_Mod_unlike_163 n  v4.2))) else (if (40 : Int32) ≤ (v4.2 A_other (5 : Int32).toNatClampNeg : Int32) then (b_Mod_unlike_211 n  (if (40 : Int32) ≤ (v4.2 MO 48 : Int32) then 40 else (v4.2 MO 48)) 40 v4.2) else (b_Mod_unlike_211 n  (if (40 : Int32) ≤ (v4.2 MO 48 : Int32) then 40 else (v4.2 MO 48)) (v4.2 A_other (5 : Int32).toNatClampNeg) v4.2))))) else (some (0, v4.2))
set_option maxRecDepth 20000 in
set_option maxHeartbeats 4000000 in
theorem ef_Mod_unlike {Δ : Dx} {X : Lx} (hX : MX Δ X) {n : Nat} {x1 : Int32}  {I : IM}  {r : Int32 × IM} (h : f_Mod_unlike n x1 I = some r) : Ev Δ 1 m_Mod_unlike [.ref (Δ.ba + MO), .int x1] (I, X) (some (.int r.1)) (r.2, X) := by
  refine ev_of (by decide) (Nat.le_of_ble_eq_true rfl) (fun Γ hk hR hT => ?_)
  change GG Δ m_Mod_unlike Γ NN 0 0 (I, X) 0 [some (.ref (Δ.ba + MO)), some (.int (x1)), none, none, none, none] []
  unfold f_Mod_unlike at h
  refine g_aload_n (pc := 0) (dd d_Mod_unlike 0 rfl) rfl ?_
  refine g_iload_n (pc := 1) (dd d_Mod_unlike 1 rfl) rfl ?_
  refine g_iconst (pc := 2) (v := 0) (dd d_Mod_unlike 2 rfl) (by decide) ?_
  refine g_iconst (pc := 3) (v := 3) (dd d_Mod_unlike 3 rfl) (by decide) ?_
  obtain ⟨v1, e2, h⟩ := bnd_e h
  refine g_callS (pc := 4) (dd d_Mod_unlike 4 rfl) s_Mod_243 (ef_Mod_in hX e2) rfl (by rw [hk]; decide) (Nat.le_of_ble_eq_true rfl) ⟨Nat.zero_le _, Nat.zero_le _⟩ rfl ?_
  suffices K7 : ∀ z : Int32, z = (if v1 = 0 then 1 else 0 : Int32) → GG Δ m_Mod_unlike Γ NN 0 0 (I, X) 15 [some (.ref (Δ.ba + MO)), some (.int (x1)), none, none, none, none] [.int (z), .ref (Δ.ba + MO)] by
    refine g_ifne (pc := 7) (tgt := 14) (dd d_Mod_unlike 5 rfl) (by decide) (fun q3 => ?_) (fun q3 => ?_)
    · skip
      refine g_iconst (pc := 14) (v := 0) (dd d_Mod_unlike 8 rfl) (by decide) ?_
      exact K7 _ (by rw [if_neg q3])
    · skip
      refine g_iconst (pc := 10) (v := 1) (dd d_Mod_unlike 6 rfl) (by decide) ?_
      refine g_goto (pc := 11) (tgt := 15) (dd d_Mod_unlike 7 rfl) (by decide) ?_
      exact K7 _ (by rw [if_pos q3])
  intro z hz
  subst hz
  refine g_iconst (pc := 15) (v := 0) (dd d_Mod_unlike 9 rfl) (by decide) ?_
  obtain ⟨v4, e5, h⟩ := bnd_e h
  refine g_callV (pc := 16) (dd d_Mod_unlike 10 rfl) v_Mod_250 ob_MO rfl (ef_Mod_refuse hX e5) rfl (by rw [hk]; decide) (Nat.le_of_ble_eq_true rfl) ⟨Nat.zero_le _, Nat.zero_le _⟩ rfl ?_
  refine g_ifeq (pc := 19) (tgt := 24) (dd d_Mod_unlike 11 rfl) (by decide) (fun q6 => ?_) (fun q6 => ?_)
  · replace h := ite_t h q6
    refine g_iload_n (pc := 24) (dd d_Mod_unlike 14 rfl) rfl ?_
    refine g_ifne (pc := 25) (tgt := 54) (dd d_Mod_unlike 15 rfl) (by decide) (fun q7 => ?_) (fun q7 => ?_)
    · replace h := ite_f h q7
      refine g_iload_n (pc := 54) (dd d_Mod_unlike 30 rfl) rfl ?_
      refine g_iconst (pc := 55) (v := 1) (dd d_Mod_unlike 31 rfl) (by decide) ?_
      refine g_icmpne (pc := 56) (tgt := 100) (dd d_Mod_unlike 32 rfl) (by decide) (fun q8 => ?_) (fun q8 => ?_)
      · replace h := ite_f h q8
        refine g_iload_n (pc := 100) (dd d_Mod_unlike 53 rfl) rfl ?_
        refine g_iconst (pc := 101) (v := 2) (dd d_Mod_unlike 54 rfl) (by decide) ?_
        refine g_icmpne (pc := 102) (tgt := 170) (dd d_Mod_unlike 55 rfl) (by decide) (fun q9 => ?_) (fun q9 => ?_)
        · replace h := ite_f h q9
          refine g_aload_n (pc := 170) (dd d_Mod_unlike_1 30 rfl) rfl ?_
          refine g_geti (pc := 171) (dd d_Mod_unlike_1 31 rfl) f_Mod_403 ob_MO rfl ?_
          refine g_bipush (pc := 174) (v := 40) (dd d_Mod_unlike_1 32 rfl) (by decide) ?_
          suffices K176 : ∀ z : Int32, z = (if (40 : Int32) ≤ (v4.2 MO 48 : Int32) then 40 else (v4.2 MO 48) : Int32) → GG Δ m_Mod_unlike Γ NN 0 0 (v4.2, X) 188 [some (.ref (Δ.ba + MO)), some (.int (x1)), none, none, none, none] [.int (z)] by
            refine g_icmpge (pc := 176) (tgt := 186) (dd d_Mod_unlike_1 33 rfl) (by decide) (fun q10 => ?_) (fun q10 => ?_)
            · skip
              refine g_bipush (pc := 186) (v := 40) (dd d_Mod_unlike_1 37 rfl) (by decide) ?_
              exact K176 _ (by rw [if_pos q10])
            · skip
              refine g_aload_n (pc := 179) (dd d_Mod_unlike_1 34 rfl) rfl ?_
              refine g_geti (pc := 180) (dd d_Mod_unlike_1 35 rfl) f_Mod_403 ob_MO rfl ?_
              refine g_goto (pc := 183) (tgt := 188) (dd d_Mod_unlike_1 36 rfl) (by decide) ?_
              exact K176 _ (by rw [if_neg q10])
          intro z hz
          subst hz
          refine g_istore_n (pc := 188) (dd d_Mod_unlike_1 38 rfl) (by decide) ?_
          refine g_aload_n (pc := 189) (dd d_Mod_unlike_1 39 rfl) rfl ?_
          refine g_getr (pc := 190) (dd d_Mod_unlike_1 40 rfl) f_Mod_126 ob_MO rfl (mr_other hX) ?_
          refine g_iconst (pc := 193) (v := 5) (dd d_Mod_unlike_1 41 rfl) (by decide) ?_
          refine g_iald (pc := 194) (dd d_Mod_unlike_1 42 rfl) ar_A_other (by rw [vp_in_iff]; decide) ?_
          refine g_bipush (pc := 195) (v := 40) (dd d_Mod_unlike_1 43 rfl) (by decide) ?_
          refine g_icmpge (pc := 197) (tgt := 209) (dd d_Mod_unlike_1 44 rfl) (by decide) (fun q11 => ?_) (fun q11 => ?_)
          · replace h := ite_t h q11
            refine g_bipush (pc := 209) (v := 40) (dd d_Mod_unlike_1 50 rfl) (by decide) ?_
            refine g_drop [1] ?_
            exact gb_Mod_unlike_211 hX hk hT  h
          · replace h := ite_f h q11
            refine g_aload_n (pc := 200) (dd d_Mod_unlike_1 45 rfl) rfl ?_
            refine g_getr (pc := 201) (dd d_Mod_unlike_1 46 rfl) f_Mod_126 ob_MO rfl (mr_other hX) ?_
            refine g_iconst (pc := 204) (v := 5) (dd d_Mod_unlike_1 47 rfl) (by decide) ?_
            refine g_iald (pc := 205) (dd d_Mod_unlike_1 48 rfl) ar_A_other (by rw [vp_in_iff]; decide) ?_
            refine g_goto (pc := 206) (tgt := 211) (dd d_Mod_unlike_1 49 rfl) (by decide) ?_
            refine g_drop [1] ?_
            exact gb_Mod_unlike_211 hX hk hT  h
        · replace h := ite_t h q9
          refine g_aload_n (pc := 105) (dd d_Mod_unlike 56 rfl) rfl ?_
          refine g_aload_n (pc := 106) (dd d_Mod_unlike 57 rfl) rfl ?_
          refine g_getr (pc := 107) (dd d_Mod_unlike 58 rfl) f_Mod_77 ob_MO rfl (mr_registerTags hX) ?_
          refine g_bipush (pc := 110) (v := 8) (dd d_Mod_unlike 59 rfl) (by decide) ?_
          refine g_sipush (pc := 112) (v := 444) (dd d_Mod_unlike_1 0 rfl) (by decide) ?_
          refine g_aload_n (pc := 115) (dd d_Mod_unlike_1 1 rfl) rfl ?_
          refine g_aload_n (pc := 116) (dd d_Mod_unlike_1 2 rfl) rfl ?_
          refine g_getr (pc := 117) (dd d_Mod_unlike_1 3 rfl) f_Mod_74 ob_MO rfl (mr_registers hX) ?_
          refine g_bipush (pc := 120) (v := 8) (dd d_Mod_unlike_1 4 rfl) (by decide) ?_
          refine g_sipush (pc := 122) (v := 436) (dd d_Mod_unlike_1 5 rfl) (by decide) ?_
          refine g_iconst (pc := 125) (v := (-1)) (dd d_Mod_unlike_1 6 rfl) (by decide) ?_
          obtain ⟨v12, e13, h⟩ := bnd_e h
          refine g_callV (pc := 126) (dd d_Mod_unlike_1 7 rfl) v_Mod_616 ob_MO rfl (ef_Mod_firstUnlike hX ⟨by decide, rfl⟩ e13) rfl (by rw [hk]; decide) (Nat.le_of_ble_eq_true rfl) ⟨Nat.zero_le _, Nat.zero_le _⟩ rfl ?_
          obtain ⟨v14, e15, h⟩ := bnd_e h
          refine g_callV (pc := 129) (dd d_Mod_unlike_1 8 rfl) v_Mod_616 ob_MO rfl (ef_Mod_firstUnlike hX ⟨by decide, rfl⟩ e15) rfl (by rw [hk]; decide) (Nat.le_of_ble_eq_true rfl) ⟨Nat.zero_le _, Nat.zero_le _⟩ rfl ?_
          refine g_istore_n (pc := 132) (dd d_Mod_unlike_1 9 rfl) (by decide) ?_
          refine g_iload_n (pc := 133) (dd d_Mod_unlike_1 10 rfl) rfl ?_
          refine g_ifge (pc := 134) (tgt := 168) (dd d_Mod_unlike_1 11 rfl) (by decide) (fun q16 => ?_) (fun q16 => ?_)
          · replace h := ite_t h q16
            refine g_drop [0, 1] ?_
            exact gb_Mod_unlike_168 hX hk hT  h
          · replace h := ite_f h q16
            refine g_aload_n (pc := 137) (dd d_Mod_unlike_1 12 rfl) rfl ?_
            refine g_geti (pc := 138) (dd d_Mod_unlike_1 13 rfl) f_Mod_391 ob_MO rfl ?_
            refine g_aload_n (pc := 141) (dd d_Mod_unlike_1 14 rfl) rfl ?_
            refine g_getr (pc := 142) (dd d_Mod_unlike_1 15 rfl) f_Mod_126 ob_MO rfl (mr_other hX) ?_
            refine g_iconst (pc := 145) (v := 1) (dd d_Mod_unlike_1 16 rfl) (by decide) ?_
            refine g_iald (pc := 146) (dd d_Mod_unlike_1 17 rfl) ar_A_other (by rw [vp_in_iff]; decide) ?_
            refine g_icmpne (pc := 147) (tgt := 163) (dd d_Mod_unlike_1 18 rfl) (by decide) (fun q17 => ?_) (fun q17 => ?_)
            · replace h := ite_f h q17
              refine g_drop [0, 1, 2] ?_
              exact gb_Mod_unlike_163 hX hk hT  h
            · replace h := ite_t h q17
              refine g_aload_n (pc := 150) (dd d_Mod_unlike_1 19 rfl) rfl ?_
              refine g_geti (pc := 151) (dd d_Mod_unlike_1 20 rfl) f_Mod_394 ob_MO rfl ?_
              refine g_aload_n (pc := 154) (dd d_Mod_unlike_1 21 rfl) rfl ?_
              refine g_getr (pc := 155) (dd d_Mod_unlike_1 22 rfl) f_Mod_126 ob_MO rfl (mr_other hX) ?_
              refine g_iconst (pc := 158) (v := 2) (dd d_Mod_unlike_1 23 rfl) (by decide) ?_
              refine g_iald (pc := 159) (dd d_Mod_unlike_1 24 rfl) ar_A_other (by rw [vp_in_iff]; decide) ?_
              suffices K160 : ∀ z : Int32, z = (if (v4.2 MO 43 : Int32) = (v4.2 A_other (2 : Int32).toNatClampNeg : Int32) then v14 else 8 : Int32) → GG Δ m_Mod_unlike Γ NN 0 0 (v4.2, X) 169 [some (.ref (Δ.ba + MO)), some (.int (x1)), some (.int (v14)), none, none, none] [.int (z)] by
                refine g_icmpeq (pc := 160) (tgt := 168) (dd d_Mod_unlike_1 25 rfl) (by decide) (fun q18 => ?_) (fun q18 => ?_)
                · skip
                  refine g_iload_n (pc := 168) (dd d_Mod_unlike_1 28 rfl) rfl ?_
                  exact K160 _ (by rw [if_pos q18])
                · skip
                  refine g_bipush (pc := 163) (v := 8) (dd d_Mod_unlike_1 26 rfl) (by decide) ?_
                  refine g_goto (pc := 165) (tgt := 169) (dd d_Mod_unlike_1 27 rfl) (by decide) ?_
                  exact K160 _ (by rw [if_neg q18])
              intro z hz
              subst hz
              cases h
              exact g_iret (pc := 169) rfl (dd d_Mod_unlike_1 29 rfl) hT
      · replace h := ite_t h q8
        refine g_aload_n (pc := 59) (dd d_Mod_unlike 33 rfl) rfl ?_
        refine g_aload_n (pc := 60) (dd d_Mod_unlike 34 rfl) rfl ?_
        refine g_getr (pc := 61) (dd d_Mod_unlike 35 rfl) f_Mod_71 ob_MO rfl (mr_owners hX) ?_
        refine g_bipush (pc := 64) (v := 96) (dd d_Mod_unlike 36 rfl) (by decide) ?_
        refine g_sipush (pc := 66) (v := 340) (dd d_Mod_unlike 37 rfl) (by decide) ?_
        refine g_aload_n (pc := 69) (dd d_Mod_unlike 38 rfl) rfl ?_
        refine g_aload_n (pc := 70) (dd d_Mod_unlike 39 rfl) rfl ?_
        refine g_getr (pc := 71) (dd d_Mod_unlike 40 rfl) f_Mod_68 ob_MO rfl (mr_held hX) ?_
        refine g_bipush (pc := 74) (v := 96) (dd d_Mod_unlike 41 rfl) (by decide) ?_
        refine g_sipush (pc := 76) (v := 244) (dd d_Mod_unlike 42 rfl) (by decide) ?_
        refine g_aload_n (pc := 79) (dd d_Mod_unlike 43 rfl) rfl ?_
        refine g_aload_n (pc := 80) (dd d_Mod_unlike 44 rfl) rfl ?_
        refine g_getr (pc := 81) (dd d_Mod_unlike 45 rfl) f_Mod_65 ob_MO rfl (mr_ints hX) ?_
        refine g_bipush (pc := 84) (v := 96) (dd d_Mod_unlike 46 rfl) (by decide) ?_
        refine g_sipush (pc := 86) (v := 148) (dd d_Mod_unlike 47 rfl) (by decide) ?_
        refine g_iconst (pc := 89) (v := (-1)) (dd d_Mod_unlike 48 rfl) (by decide) ?_
        obtain ⟨v19, e20, h⟩ := bnd_e h
        refine g_callV (pc := 90) (dd d_Mod_unlike 49 rfl) v_Mod_616 ob_MO rfl (ef_Mod_firstUnlike hX ⟨by decide, rfl⟩ e20) rfl (by rw [hk]; decide) (Nat.le_of_ble_eq_true rfl) ⟨Nat.zero_le _, Nat.zero_le _⟩ rfl ?_
        obtain ⟨v21, e22, h⟩ := bnd_e h
        refine g_callV (pc := 93) (dd d_Mod_unlike 50 rfl) v_Mod_616 ob_MO rfl (ef_Mod_firstUnlike hX ⟨by decide, rfl⟩ e22) rfl (by rw [hk]; decide) (Nat.le_of_ble_eq_true rfl) ⟨Nat.zero_le _, Nat.zero_le _⟩ rfl ?_
        obtain ⟨v23, e24, h⟩ := bnd_e h
        refine g_callV (pc := 96) (dd d_Mod_unlike 51 rfl) v_Mod_616 ob_MO rfl (ef_Mod_firstUnlike hX ⟨by decide, rfl⟩ e24) rfl (by rw [hk]; decide) (Nat.le_of_ble_eq_true rfl) ⟨Nat.zero_le _, Nat.zero_le _⟩ rfl ?_
        cases h
        exact g_iret (pc := 99) rfl (dd d_Mod_unlike 52 rfl) hT
    · replace h := ite_t h q7
      refine g_aload_n (pc := 28) (dd d_Mod_unlike 16 rfl) rfl ?_
      refine g_aload_n (pc := 29) (dd d_Mod_unlike 17 rfl) rfl ?_
      refine g_getr (pc := 30) (dd d_Mod_unlike 18 rfl) f_Mod_62 ob_MO rfl (mr_codeTags hX) ?_
      refine g_bipush (pc := 33) (v := 64) (dd d_Mod_unlike 19 rfl) (by decide) ?_
      refine g_bipush (pc := 35) (v := 84) (dd d_Mod_unlike 20 rfl) (by decide) ?_
      refine g_aload_n (pc := 37) (dd d_Mod_unlike 21 rfl) rfl ?_
      refine g_aload_n (pc := 38) (dd d_Mod_unlike 22 rfl) rfl ?_
      refine g_getr (pc := 39) (dd d_Mod_unlike 23 rfl) f_Mod_59 ob_MO rfl (mr_code hX) ?_
      refine g_bipush (pc := 42) (v := 64) (dd d_Mod_unlike 24 rfl) (by decide) ?_
      refine g_bipush (pc := 44) (v := 20) (dd d_Mod_unlike 25 rfl) (by decide) ?_
      refine g_iconst (pc := 46) (v := (-1)) (dd d_Mod_unlike 26 rfl) (by decide) ?_
      obtain ⟨v25, e26, h⟩ := bnd_e h
      refine g_callV (pc := 47) (dd d_Mod_unlike 27 rfl) v_Mod_616 ob_MO rfl (ef_Mod_firstUnlike hX ⟨by decide, rfl⟩ e26) rfl (by rw [hk]; decide) (Nat.le_of_ble_eq_true rfl) ⟨Nat.zero_le _, Nat.zero_le _⟩ rfl ?_
      obtain ⟨v27, e28, h⟩ := bnd_e h
      refine g_callV (pc := 50) (dd d_Mod_unlike 28 rfl) v_Mod_616 ob_MO rfl (ef_Mod_firstUnlike hX ⟨by decide, rfl⟩ e28) rfl (by rw [hk]; decide) (Nat.le_of_ble_eq_true rfl) ⟨Nat.zero_le _, Nat.zero_le _⟩ rfl ?_
      cases h
      exact g_iret (pc := 53) rfl (dd d_Mod_unlike 29 rfl) hT
  · replace h := ite_f h q6
    refine g_iconst (pc := 22) (v := 0) (dd d_Mod_unlike 12 rfl) (by decide) ?_
    cases h
    exact g_iret (pc := 23) rfl (dd d_Mod_unlike 13 rfl) hT
