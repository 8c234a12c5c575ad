/-! the reference: each method a function, and its contract -/
def b_Mod_wordLine_77 (n : Nat) (J : JM)   (I : IM) : Option (IM) := some I
set_option maxRecDepth 20000 in
set_option maxHeartbeats 4000000 in
theorem gb_Mod_wordLine_77 {Δ : Dx} {X : Lx} (hX : MX Δ X)   {n : Nat} {Γ : Cx} (hk : Γ.k = 7) {r : IM} (hT : Tg Δ Γ none NN (r, X) 0 0)   {I : IM} (h : b_Mod_wordLine_77 n X.1   I = some r) : GG Δ m_Mod_wordLine Γ NN 0 0 (I, X) 77 [none, none, none, none, none] [] := by
  unfold b_Mod_wordLine_77 at h
  cases h
  exact g_vret (pc := 77) rfl (dd d_Mod_wordLine 44 rfl) hT
def b_Mod_wordLine_28 (n : Nat) (J : JM)  (x1 : Int32) (I : IM) : Option (IM) := Option.bind (f_Mod_takeAfter n J 66 I) fun v8 => Option.bind (f_Mod_takeAfter n J 53 v8.2) fun v10 => if (v10.2 MO 6 : Int32) = 0 then (b_Mod_wordLine_77 n J  v10.2) else (chk (inb x1 96) <| lt (up v10.2 A_ints x1.toNatClampNeg (I MO 7)) fun I14 => lt (up I14 A_held x1.toNatClampNeg (v8.1)) fun I15 => lt (up I15 A_owners x1.toNatClampNeg (v10.1)) fun I16 => b_Mod_wordLine_77 n J  I16)
set_option maxRecDepth 20000 in
set_option maxHeartbeats 4000000 in
theorem gb_Mod_wordLine_28 {Δ : Dx} {X : Lx} (hX : MX Δ X)   {n : Nat} {Γ : Cx} (hk : Γ.k = 7) {r : IM} (hT : Tg Δ Γ none NN (r, X) 0 0)  {x1 : Int32} {I : IM} (h : b_Mod_wordLine_28 n X.1  x1 I = some r) : GG Δ m_Mod_wordLine Γ NN 0 0 (I, X) 28 [some (.ref (Δ.ba + MO)), some (.int (x1)), none, none, none] [] := by
  unfold b_Mod_wordLine_28 at h
  refine g_aload_n (pc := 28) (dd d_Mod_wordLine 15 rfl) rfl ?_
  refine g_geti (pc := 29) (dd d_Mod_wordLine 16 rfl) f_Mod_424 ob_MO rfl ?_
  refine g_istore_n (pc := 32) (dd d_Mod_wordLine 17 rfl) (by decide) ?_
  refine g_aload_n (pc := 33) (dd d_Mod_wordLine 18 rfl) rfl ?_
  refine g_bipush (pc := 34) (v := 66) (dd d_Mod_wordLine 19 rfl) (by decide) ?_
  obtain ⟨v8, e9, h⟩ := bnd_e h
  refine g_callV (pc := 36) (dd d_Mod_wordLine 20 rfl) v_Mod_442 ob_MO rfl (ef_Mod_takeAfter hX e9) rfl (by rw [hk]; decide) (Nat.le_of_ble_eq_true rfl) ⟨Nat.zero_le _, Nat.zero_le _⟩ rfl ?_
  refine g_istore_n (pc := 39) (dd d_Mod_wordLine 21 rfl) (by decide) ?_
  refine g_aload_n (pc := 40) (dd d_Mod_wordLine 22 rfl) rfl ?_
  refine g_bipush (pc := 41) (v := 53) (dd d_Mod_wordLine 23 rfl) (by decide) ?_
  obtain ⟨v10, e11, h⟩ := bnd_e h
  refine g_callV (pc := 43) (dd d_Mod_wordLine 24 rfl) v_Mod_442 ob_MO rfl (ef_Mod_takeAfter hX e11) rfl (by rw [hk]; decide) (Nat.le_of_ble_eq_true rfl) ⟨Nat.zero_le _, Nat.zero_le _⟩ rfl ?_
  refine g_istore (pc := 46) (dd d_Mod_wordLine 25 rfl) (by decide) ?_
  refine g_aload_n (pc := 48) (dd d_Mod_wordLine 26 rfl) rfl ?_
  refine g_geti (pc := 49) (dd d_Mod_wordLine 27 rfl) f_Mod_438 ob_MO rfl ?_
  refine g_ifeq (pc := 52) (tgt := 77) (dd d_Mod_wordLine 28 rfl) (by decide) (fun q12 => ?_) (fun q12 => ?_)
  · replace h := ite_t h q12
    refine g_drop [0, 1, 2, 3, 4] ?_
    exact gb_Mod_wordLine_77 hX hk hT  h
  · replace h := ite_f h q12
    refine g_aload_n (pc := 55) (dd d_Mod_wordLine 29 rfl) rfl ?_
    refine g_getr (pc := 56) (dd d_Mod_wordLine 30 rfl) f_Mod_65 ob_MO rfl (mr_ints hX) ?_
    refine g_iload_n (pc := 59) (dd d_Mod_wordLine 31 rfl) rfl ?_
    refine g_iload_n (pc := 60) (dd d_Mod_wordLine 32 rfl) rfl ?_
    obtain ⟨c13, h⟩ := chk_e h
    refine g_iastN (pc := 61) (dd d_Mod_wordLine 33 rfl) ar_A_ints c13 (fun I14 hI14 => ?_)
    replace h := lt_e h hI14
    refine g_aload_n (pc := 62) (dd d_Mod_wordLine 34 rfl) rfl ?_
    refine g_getr (pc := 63) (dd d_Mod_wordLine 35 rfl) f_Mod_68 ob_MO rfl (mr_held hX) ?_
    refine g_iload_n (pc := 66) (dd d_Mod_wordLine 36 rfl) rfl ?_
    refine g_iload_n (pc := 67) (dd d_Mod_wordLine 37 rfl) rfl ?_
    refine g_iastN (pc := 68) (dd d_Mod_wordLine 38 rfl) ar_A_held c13 (fun I15 hI15 => ?_)
    replace h := lt_e h hI15
    refine g_aload_n (pc := 69) (dd d_Mod_wordLine 39 rfl) rfl ?_
    refine g_getr (pc := 70) (dd d_Mod_wordLine 40 rfl) f_Mod_71 ob_MO rfl (mr_owners hX) ?_
    refine g_iload_n (pc := 73) (dd d_Mod_wordLine 41 rfl) rfl ?_
    refine g_iload (pc := 74) (dd d_Mod_wordLine 42 rfl) rfl ?_
    refine g_iastN (pc := 76) (dd d_Mod_wordLine 43 rfl) ar_A_owners c13 (fun I16 hI16 => ?_)
    replace h := lt_e h hI16
    refine g_drop [0, 1, 2, 3, 4] ?_
    exact gb_Mod_wordLine_77 hX hk hT  h
def f_Mod_wordLine (n : Nat) (J : JM) (I : IM) : Option (IM) := Option.bind (f_Mod_step n J I) fun v1 => Option.bind (f_Mod_takeNumber n J 0 95 0 v1) fun v3 => if 0 ≤ (v3 MO 14 : Int32) then (b_Mod_wordLine_28 n J  (v3 MO 7) v3) else (Option.bind (f_Mod_takeAny n J v3) fun v6 => b_Mod_wordLine_28 n J  (v3 MO 7) v6)
set_option maxRecDepth 20000 in
set_option maxHeartbeats 4000000 in
theorem ef_Mod_wordLine {Δ : Dx} {X : Lx} (hX : MX Δ X) {n : Nat}  {I : IM}  {r : IM} (h : f_Mod_wordLine n X.1 I = some r) : Ev Δ 7 m_Mod_wordLine [.ref (Δ.ba + MO)] (I, X) none (r, X) := by
  refine ev_of (by decide) (Nat.le_of_ble_eq_true rfl) (fun Γ hk hR hT => ?_)
  change GG Δ m_Mod_wordLine Γ NN 0 0 (I, X) 0 [some (.ref (Δ.ba + MO)), none, none, none, none] []
  unfold f_Mod_wordLine at h
  refine g_aload_n (pc := 0) (dd d_Mod_wordLine 0 rfl) rfl ?_
  obtain ⟨v1, e2, h⟩ := bnd_e h
  refine g_callV (pc := 1) (dd d_Mod_wordLine 1 rfl) v_Mod_328 ob_MO rfl (ef_Mod_step hX e2) rfl (by rw [hk]; decide) (Nat.le_of_ble_eq_true rfl) ⟨Nat.zero_le _, Nat.zero_le _⟩ rfl ?_
  refine g_aload_n (pc := 4) (dd d_Mod_wordLine 2 rfl) rfl ?_
  refine g_iconst (pc := 5) (v := 0) (dd d_Mod_wordLine 3 rfl) (by decide) ?_
  refine g_bipush (pc := 6) (v := 95) (dd d_Mod_wordLine 4 rfl) (by decide) ?_
  refine g_iconst (pc := 8) (v := 0) (dd d_Mod_wordLine 5 rfl) (by decide) ?_
  obtain ⟨v3, e4, h⟩ := bnd_e h
  refine g_callV (pc := 9) (dd d_Mod_wordLine 6 rfl) v_Mod_429 ob_MO rfl (ef_Mod_takeNumber hX e4) rfl (by rw [hk]; decide) (Nat.le_of_ble_eq_true rfl) ⟨Nat.zero_le _, Nat.zero_le _⟩ rfl ?_
  refine g_aload_n (pc := 12) (dd d_Mod_wordLine 7 rfl) rfl ?_
  refine g_geti (pc := 13) (dd d_Mod_wordLine 8 rfl) f_Mod_424 ob_MO rfl ?_
  refine g_istore_n (pc := 16) (dd d_Mod_wordLine 9 rfl) (by decide) ?_
  refine g_aload_n (pc := 17) (dd d_Mod_wordLine 10 rfl) rfl ?_
  refine g_geti (pc := 18) (dd d_Mod_wordLine 11 rfl) f_Mod_280 ob_MO rfl ?_
  refine g_ifge (pc := 21) (tgt := 28) (dd d_Mod_wordLine 12 rfl) (by decide) (fun q5 => ?_) (fun q5 => ?_)
  · replace h := ite_t h q5
    exact gb_Mod_wordLine_28 hX hk hT  h
  · replace h := ite_f h q5
    refine g_aload_n (pc := 24) (dd d_Mod_wordLine 13 rfl) rfl ?_
    obtain ⟨v6, e7, h⟩ := bnd_e h
    refine g_callV (pc := 25) (dd d_Mod_wordLine 14 rfl) v_Mod_432 ob_MO rfl (ef_Mod_takeAny hX e7) rfl (by rw [hk]; decide) (Nat.le_of_ble_eq_true rfl) ⟨Nat.zero_le _, Nat.zero_le _⟩ rfl ?_
    exact gb_Mod_wordLine_28 hX hk hT  h
def b_Mod_registerLine_87 (n : Nat) (J : JM)   (I : IM) : Option (IM) := some I
set_option maxRecDepth 20000 in
set_option maxHeartbeats 4000000 in
theorem gb_Mod_registerLine_87 {Δ : Dx} {X : Lx} (hX : MX Δ X)   {n : Nat} {Γ : Cx} (hk : Γ.k = 7) {r : IM} (hT : Tg Δ Γ none NN (r, X) 0 0)   {I : IM} (h : b_Mod_registerLine_87 n X.1   I = some r) : GG Δ m_Mod_registerLine Γ NN 0 0 (I, X) 87 [none, none, none, none] [] := by
  unfold b_Mod_registerLine_87 at h
  cases h
  exact g_vret (pc := 87) rfl (dd d_Mod_registerLine 48 rfl) hT
def b_Mod_registerLine_66 (n : Nat) (J : JM)  (x1 : Int32) (x2 : Int32) (x3 : Int32) (I : IM) : Option (IM) := if (I MO 6 : Int32) = 0 then (b_Mod_registerLine_87 n J  I) else (chk (inb x1 8) <| lt (up I A_registers x1.toNatClampNeg (x2)) fun I16 => lt (up I16 A_registerTags x1.toNatClampNeg (x3)) fun I17 => b_Mod_registerLine_87 n J  I17)
set_option maxRecDepth 20000 in
set_option maxHeartbeats 4000000 in
theorem gb_Mod_registerLine_66 {Δ : Dx} {X : Lx} (hX : MX Δ X)   {n : Nat} {Γ : Cx} (hk : Γ.k = 7) {r : IM} (hT : Tg Δ Γ none NN (r, X) 0 0)  {x1 : Int32} {x2 : Int32} {x3 : Int32} {I : IM} (h : b_Mod_registerLine_66 n X.1  x1 x2 x3 I = some r) : GG Δ m_Mod_registerLine Γ NN 0 0 (I, X) 66 [some (.ref (Δ.ba + MO)), some (.int (x1)), some (.int (x2)), some (.int (x3))] [] := by
  unfold b_Mod_registerLine_66 at h
  refine g_aload_n (pc := 66) (dd d_Mod_registerLine 35 rfl) rfl ?_
  refine g_geti (pc := 67) (dd d_Mod_registerLine 36 rfl) f_Mod_438 ob_MO rfl ?_
  refine g_ifeq (pc := 70) (tgt := 87) (dd d_Mod_registerLine 37 rfl) (by decide) (fun q14 => ?_) (fun q14 => ?_)
  · replace h := ite_t h q14
    refine g_drop [0, 1, 2, 3] ?_
    exact gb_Mod_registerLine_87 hX hk hT  h
  · replace h := ite_f h q14
    refine g_aload_n (pc := 73) (dd d_Mod_registerLine 38 rfl) rfl ?_
    refine g_getr (pc := 74) (dd d_Mod_registerLine 39 rfl) f_Mod_74 ob_MO rfl (mr_registers hX) ?_
    refine g_iload_n (pc := 77) (dd d_Mod_registerLine 40 rfl) rfl ?_
    refine g_iload_n (pc := 78) (dd d_Mod_registerLine 41 rfl) rfl ?_
    obtain ⟨c15, h⟩ := chk_e h
    refine g_iastN (pc := 79) (dd d_Mod_registerLine 42 rfl) ar_A_registers c15 (fun I16 hI16 => ?_)
    replace h := lt_e h hI16
    refine g_aload_n (pc := 80) (dd d_Mod_registerLine 43 rfl) rfl ?_
    refine g_getr (pc := 81) (dd d_Mod_registerLine 44 rfl) f_Mod_77 ob_MO rfl (mr_registerTags hX) ?_
    refine g_iload_n (pc := 84) (dd d_Mod_registerLine 45 rfl) rfl ?_
    refine g_iload_n (pc := 85) (dd d_Mod_registerLine 46 rfl) rfl ?_
    refine g_iastN (pc := 86) (dd d_Mod_registerLine 47 rfl) ar_A_registerTags c15 (fun I17 hI17 => ?_)
    replace h := lt_e h hI17
    refine g_drop [0, 1, 2, 3] ?_
    exact gb_Mod_registerLine_87 hX hk hT  h
def b_Mod_registerLine_28 (n : Nat) (J : JM)  (x1 : Int32) (I : IM) : Option (IM) := Option.bind (f_Mod_takeAfter n J 51 I) fun v8 => if (v8.2 MO 6 : Int32) = 0 then (b_Mod_registerLine_66 n J  x1 (I MO 7) v8.1 v8.2) else (if x1 = (8 : Int32) then (lt (up v8.2 MO 42 (I MO 7)) fun I12 => lt (up I12 MO 43 (v8.1)) fun I13 => b_Mod_registerLine_87 n J  I13) else (b_Mod_registerLine_66 n J  x1 (I MO 7) v8.1 v8.2))
set_option maxRecDepth 20000 in
set_option maxHeartbeats 4000000 in
theorem gb_Mod_registerLine_28 {Δ : Dx} {X : Lx} (hX : MX Δ X)   {n : Nat} {Γ : Cx} (hk : Γ.k = 7) {r : IM} (hT : Tg Δ Γ none NN (r, X) 0 0)  {x1 : Int32} {I : IM} (h : b_Mod_registerLine_28 n X.1  x1 I = some r) : GG Δ m_Mod_registerLine Γ NN 0 0 (I, X) 28 [some (.ref (Δ.ba + MO)), some (.int (x1)), none, none] [] := by
  unfold b_Mod_registerLine_28 at h
  refine g_aload_n (pc := 28) (dd d_Mod_registerLine 15 rfl) rfl ?_
  refine g_geti (pc := 29) (dd d_Mod_registerLine 16 rfl) f_Mod_424 ob_MO rfl ?_
  refine g_istore_n (pc := 32) (dd d_Mod_registerLine 17 rfl) (by decide) ?_
  refine g_aload_n (pc := 33) (dd d_Mod_registerLine 18 rfl) rfl ?_
  refine g_bipush (pc := 34) (v := 51) (dd d_Mod_registerLine 19 rfl) (by decide) ?_
  obtain ⟨v8, e9, h⟩ := bnd_e h
  refine g_callV (pc := 36) (dd d_Mod_registerLine 20 rfl) v_Mod_442 ob_MO rfl (ef_Mod_takeAfter hX e9) rfl (by rw [hk]; decide) (Nat.le_of_ble_eq_true rfl) ⟨Nat.zero_le _, Nat.zero_le _⟩ rfl ?_
  refine g_istore_n (pc := 39) (dd d_Mod_registerLine 21 rfl) (by decide) ?_
  refine g_aload_n (pc := 40) (dd d_Mod_registerLine 22 rfl) rfl ?_
  refine g_geti (pc := 41) (dd d_Mod_registerLine 23 rfl) f_Mod_438 ob_MO rfl ?_
  refine g_ifeq (pc := 44) (tgt := 66) (dd d_Mod_registerLine 24 rfl) (by decide) (fun q10 => ?_) (fun q10 => ?_)
  · replace h := ite_t h q10
    exact gb_Mod_registerLine_66 hX hk hT  h
  · replace h := ite_f h q10
    refine g_iload_n (pc := 47) (dd d_Mod_registerLine 25 rfl) rfl ?_
    refine g_bipush (pc := 48) (v := 8) (dd d_Mod_registerLine 26 rfl) (by decide) ?_
    refine g_icmpne (pc := 50) (tgt := 66) (dd d_Mod_registerLine 27 rfl) (by decide) (fun q11 => ?_) (fun q11 => ?_)
    · replace h := ite_f h q11
      exact gb_Mod_registerLine_66 hX hk hT  h
    · replace h := ite_t h q11
      refine g_aload_n (pc := 53) (dd d_Mod_registerLine 28 rfl) rfl ?_
      refine g_iload_n (pc := 54) (dd d_Mod_registerLine 29 rfl) rfl ?_
      refine g_putiN (pc := 55) (dd d_Mod_registerLine 30 rfl) f_Mod_391 fm_Mod_42 ob_MO rfl (fun I12 hI12 => ?_)
      replace h := lt_e h hI12
      refine g_aload_n (pc := 58) (dd d_Mod_registerLine 31 rfl) rfl ?_
      refine g_iload_n (pc := 59) (dd d_Mod_registerLine 32 rfl) rfl ?_
      refine g_putiN (pc := 60) (dd d_Mod_registerLine 33 rfl) f_Mod_394 fm_Mod_43 ob_MO rfl (fun I13 hI13 => ?_)
      replace h := lt_e h hI13
      refine g_goto (pc := 63) (tgt := 87) (dd d_Mod_registerLine 34 rfl) (by decide) ?_
      refine g_drop [0, 1, 2, 3] ?_
      exact gb_Mod_registerLine_87 hX hk hT  h
def f_Mod_registerLine (n : Nat) (J : JM) (I : IM) : Option (IM) := Option.bind (f_Mod_step n J I) fun v1 => Option.bind (f_Mod_takeNumber n J 0 8 0 v1) fun v3 => if 0 ≤ (v3 MO 14 : Int32) then (b_Mod_registerLine_28 n J  (v3 MO 7) v3) else (Option.bind (f_Mod_takeAny n J v3) fun v6 => b_Mod_registerLine_28 n J  (v3 MO 7) v6)
set_option maxRecDepth 20000 in
set_option maxHeartbeats 4000000 in
theorem ef_Mod_registerLine {Δ : Dx} {X : Lx} (hX : MX Δ X) {n : Nat}  {I : IM}  {r : IM} (h : f_Mod_registerLine n X.1 I = some r) : Ev Δ 7 m_Mod_registerLine [.ref (Δ.ba + MO)] (I, X) none (r, X) := by
  refine ev_of (by decide) (Nat.le_of_ble_eq_true rfl) (fun Γ hk hR hT => ?_)
  change GG Δ m_Mod_registerLine Γ NN 0 0 (I, X) 0 [some (.ref (Δ.ba + MO)), none, none, none] []
  unfold f_Mod_registerLine at h
  refine g_aload_n (pc := 0) (dd d_Mod_registerLine 0 rfl) rfl ?_
  obtain ⟨v1, e2, h⟩ := bnd_e h
  refine g_callV (pc := 1) (dd d_Mod_registerLine 1 rfl) v_Mod_328 ob_MO rfl (ef_Mod_step hX e2) rfl (by rw [hk]; decide) (Nat.le_of_ble_eq_true rfl) ⟨Nat.zero_le _, Nat.zero_le _⟩ rfl ?_
  refine g_aload_n (pc := 4) (dd d_Mod_registerLine 2 rfl) rfl ?_
  refine g_iconst (pc := 5) (v := 0) (dd d_Mod_registerLine 3 rfl) (by decide) ?_
  refine g_bipush (pc := 6) (v := 8) (dd d_Mod_registerLine 4 rfl) (by decide) ?_
  refine g_iconst (pc := 8) (v := 0) (dd d_Mod_registerLine 5 rfl) (by decide) ?_
  obtain ⟨v3, e4, h⟩ := bnd_e h
  refine g_callV (pc := 9) (dd d_Mod_registerLine 6 rfl) v_Mod_429 ob_MO rfl (ef_Mod_takeNumber hX e4) rfl (by rw [hk]; decide) (Nat.le_of_ble_eq_true rfl) ⟨Nat.zero_le _, Nat.zero_le _⟩ rfl ?_
  refine g_aload_n (pc := 12) (dd d_Mod_registerLine 7 rfl) rfl ?_
  refine g_geti (pc := 13) (dd d_Mod_registerLine 8 rfl) f_Mod_424 ob_MO rfl ?_
  refine g_istore_n (pc := 16) (dd d_Mod_registerLine 9 rfl) (by decide) ?_
  refine g_aload_n (pc := 17) (dd d_Mod_registerLine 10 rfl) rfl ?_
  refine g_geti (pc := 18) (dd d_Mod_registerLine 11 rfl) f_Mod_280 ob_MO rfl ?_
  refine g_ifge (pc := 21) (tgt := 28) (dd d_Mod_registerLine 12 rfl) (by decide) (fun q5 => ?_) (fun q5 => ?_)
  · replace h := ite_t h q5
    exact gb_Mod_registerLine_28 hX hk hT  h
  · replace h := ite_f h q5
    refine g_aload_n (pc := 24) (dd d_Mod_registerLine 13 rfl) rfl ?_
    obtain ⟨v6, e7, h⟩ := bnd_e h
    refine g_callV (pc := 25) (dd d_Mod_registerLine 14 rfl) v_Mod_432 ob_MO rfl (ef_Mod_takeAny hX e7) rfl (by rw [hk]; decide) (Nat.le_of_ble_eq_true rfl) ⟨Nat.zero_le _, Nat.zero_le _⟩ rfl ?_
    exact gb_Mod_registerLine_28 hX hk hT  h
def b_Mod_inputLine_81 (n : Nat) (J : JM)   (I : IM) : Option (IM) := some I
set_option maxRecDepth 20000 in
set_option maxHeartbeats 4000000 in
theorem gb_Mod_inputLine_81 {Δ : Dx} {X : Lx} (hX : MX Δ X)   {n : Nat} {Γ : Cx} (hk : Γ.k = 7) {r : IM} (hT : Tg Δ Γ none NN (r, X) 0 0)   {I : IM} (h : b_Mod_inputLine_81 n X.1   I = some r) : GG Δ m_Mod_inputLine Γ NN 0 0 (I, X) 81 [none, none, none] [] := by
  unfold b_Mod_inputLine_81 at h
  cases h
  exact g_vret (pc := 81) rfl (dd d_Mod_inputLine 45 rfl) hT
def f_Mod_inputLine (n : Nat) (J : JM) (I : IM) : Option (IM) := if (I MO 5 : Int32) = (16 : Int32) then (Option.bind (f_Mod_fail   I) fun v15 => some v15) else (lt (up I MO 5 ((I MO 5) + 1)) fun I2 => Option.bind (f_Mod_step n J I2) fun v3 => Option.bind (f_Mod_takeAny n J v3) fun v5 => Option.bind (f_Mod_takeAfter n J 51 v5) fun v7 => if (v7.2 MO 6 : Int32) = 0 then (b_Mod_inputLine_81 n J  v7.2) else (chk (inb (v7.2 MO 45) 16) <| lt (up v7.2 A_inputValues (v7.2 MO 45 : Int32).toNatClampNeg (v5 MO 7)) fun I11 => chk (inb (I11 MO 45) 16) <| lt (up I11 A_inputTags (I11 MO 45 : Int32).toNatClampNeg (v7.1)) fun I13 => lt (up I13 MO 45 ((I13 MO 45) + 1)) fun I14 => b_Mod_inputLine_81 n J  I14))
set_option maxRecDepth 20000 in
set_option maxHeartbeats 4000000 in
theorem ef_Mod_inputLine {Δ : Dx} {X : Lx} (hX : MX Δ X) {n : Nat}  {I : IM}  {r : IM} (h : f_Mod_inputLine n X.1 I = some r) : Ev Δ 7 m_Mod_inputLine [.ref (Δ.ba + MO)] (I, X) none (r, X) := by
  refine ev_of (by decide) (Nat.le_of_ble_eq_true rfl) (fun Γ hk hR hT => ?_)
  change GG Δ m_Mod_inputLine Γ NN 0 0 (I, X) 0 [some (.ref (Δ.ba + MO)), none, none] []
  unfold f_Mod_inputLine at h
  refine g_aload_n (pc := 0) (dd d_Mod_inputLine 0 rfl) rfl ?_
  refine g_geti (pc := 1) (dd d_Mod_inputLine 1 rfl) f_Mod_445 ob_MO rfl ?_
  refine g_bipush (pc := 4) (v := 16) (dd d_Mod_inputLine 2 rfl) (by decide) ?_
  refine g_icmpne (pc := 6) (tgt := 14) (dd d_Mod_inputLine 3 rfl) (by decide) (fun q1 => ?_) (fun q1 => ?_)
  · replace h := ite_f h q1
    refine g_aload_n (pc := 14) (dd d_Mod_inputLine 7 rfl) rfl ?_
    refine g_dup (pc := 15) (dd d_Mod_inputLine 8 rfl) rfl ?_
    refine g_geti (pc := 16) (dd d_Mod_inputLine 9 rfl) f_Mod_445 ob_MO rfl ?_
    refine g_iconst (pc := 19) (v := 1) (dd d_Mod_inputLine 10 rfl) (by decide) ?_
    refine g_iadd (pc := 20) (dd d_Mod_inputLine 11 rfl) ?_
    refine g_putiN (pc := 21) (dd d_Mod_inputLine 12 rfl) f_Mod_445 fm_Mod_5 ob_MO rfl (fun I2 hI2 => ?_)
    replace h := lt_e h hI2
    refine g_aload_n (pc := 24) (dd d_Mod_inputLine 13 rfl) rfl ?_
    obtain ⟨v3, e4, h⟩ := bnd_e h
    refine g_callV (pc := 25) (dd d_Mod_inputLine 14 rfl) v_Mod_328 ob_MO rfl (ef_Mod_step hX e4) rfl (by rw [hk]; decide) (Nat.le_of_ble_eq_true rfl) ⟨Nat.zero_le _, Nat.zero_le _⟩ rfl ?_
    refine g_aload_n (pc := 28) (dd d_Mod_inputLine 15 rfl) rfl ?_
    obtain ⟨v5, e6, h⟩ := bnd_e h
    refine g_callV (pc := 29) (dd d_Mod_inputLine 16 rfl) v_Mod_432 ob_MO rfl (ef_Mod_takeAny hX e6) rfl (by rw [hk]; decide) (Nat.le_of_ble_eq_true rfl) ⟨Nat.zero_le _, Nat.zero_le _⟩ rfl ?_
    refine g_aload_n (pc := 32) (dd d_Mod_inputLine 17 rfl) rfl ?_
    refine g_geti (pc := 33) (dd d_Mod_inputLine 18 rfl) f_Mod_424 ob_MO rfl ?_
    refine g_istore_n (pc := 36) (dd d_Mod_inputLine 19 rfl) (by decide) ?_
    refine g_aload_n (pc := 37) (dd d_Mod_inputLine 20 rfl) rfl ?_
    refine g_bipush (pc := 38) (v := 51) (dd d_Mod_inputLine 21 rfl) (by decide) ?_
    obtain ⟨v7, e8, h⟩ := bnd_e h
    refine g_callV (pc := 40) (dd d_Mod_inputLine 22 rfl) v_Mod_442 ob_MO rfl (ef_Mod_takeAfter hX e8) rfl (by rw [hk]; decide) (Nat.le_of_ble_eq_true rfl) ⟨Nat.zero_le _, Nat.zero_le _⟩ rfl ?_
    refine g_istore_n (pc := 43) (dd d_Mod_inputLine 23 rfl) (by decide) ?_
    refine g_aload_n (pc := 44) (dd d_Mod_inputLine 24 rfl) rfl ?_
    refine g_geti (pc := 45) (dd d_Mod_inputLine 25 rfl) f_Mod_438 ob_MO rfl ?_
    refine g_ifeq (pc := 48) (tgt := 81) (dd d_Mod_inputLine 26 rfl) (by decide) (fun q9 => ?_) (fun q9 => ?_)
    · replace h := ite_t h q9
      refine g_drop [0, 1, 2] ?_
      exact gb_Mod_inputLine_81 hX hk hT  h
    · replace h := ite_f h q9
      refine g_aload_n (pc := 51) (dd d_Mod_inputLine 27 rfl) rfl ?_
      refine g_getr (pc := 52) (dd d_Mod_inputLine 28 rfl) f_Mod_80 ob_MO rfl (mr_inputValues hX) ?_
      refine g_aload_n (pc := 55) (dd d_Mod_inputLine 29 rfl) rfl ?_
      refine g_geti (pc := 56) (dd d_Mod_inputLine 30 rfl) f_Mod_400 ob_MO rfl ?_
      refine g_iload_n (pc := 59) (dd d_Mod_inputLine 31 rfl) rfl ?_
      obtain ⟨c10, h⟩ := chk_e h
      refine g_iastN (pc := 60) (dd d_Mod_inputLine 32 rfl) ar_A_inputValues c10 (fun I11 hI11 => ?_)
      replace h := lt_e h hI11
      refine g_aload_n (pc := 61) (dd d_Mod_inputLine 33 rfl) rfl ?_
      refine g_getr (pc := 62) (dd d_Mod_inputLine 34 rfl) f_Mod_83 ob_MO rfl (mr_inputTags hX) ?_
      refine g_aload_n (pc := 65) (dd d_Mod_inputLine 35 rfl) rfl ?_
      refine g_geti (pc := 66) (dd d_Mod_inputLine 36 rfl) f_Mod_400 ob_MO rfl ?_
      refine g_iload_n (pc := 69) (dd d_Mod_inputLine 37 rfl) rfl ?_
      obtain ⟨c12, h⟩ := chk_e h
      refine g_iastN (pc := 70) (dd d_Mod_inputLine 38 rfl) ar_A_inputTags c12 (fun I13 hI13 => ?_)
      replace h := lt_e h hI13
      refine g_aload_n (pc := 71) (dd d_Mod_inputLine 39 rfl) rfl ?_
      refine g_dup (pc := 72) (dd d_Mod_inputLine 40 rfl) rfl ?_
      refine g_geti (pc := 73) (dd d_Mod_inputLine 41 rfl) f_Mod_400 ob_MO rfl ?_
      refine g_iconst (pc := 76) (v := 1) (dd d_Mod_inputLine 42 rfl) (by decide) ?_
      refine g_iadd (pc := 77) (dd d_Mod_inputLine 43 rfl) ?_
      refine g_putiN (pc := 78) (dd d_Mod_inputLine 44 rfl) f_Mod_400 fm_Mod_45 ob_MO rfl (fun I14 hI14 => ?_)
      replace h := lt_e h hI14
      refine g_drop [0, 1, 2] ?_
      exact gb_Mod_inputLine_81 hX hk hT  h
  · replace h := ite_t h q1
    refine g_aload_n (pc := 9) (dd d_Mod_inputLine 4 rfl) rfl ?_
    obtain ⟨v15, e16, h⟩ := bnd_e h
    refine g_callV (pc := 10) (dd d_Mod_inputLine 5 rfl) v_Mod_286 ob_MO rfl (ef_Mod_fail hX e16) rfl (by rw [hk]; decide) (Nat.le_of_ble_eq_true rfl) ⟨Nat.zero_le _, Nat.zero_le _⟩ rfl ?_
    cases h
    exact g_vret (pc := 13) rfl (dd d_Mod_inputLine 6 rfl) hT
def b_Mod_readImage_188 (n : Nat) (J : JM) (H31 : Int32 → IM → Option (IM))  (I : IM) : Option (IM) := Option.bind (f_Mod_need n J 59 I) fun v21 => H31 0 v21
set_option maxRecDepth 20000 in
set_option maxHeartbeats 4000000 in
theorem gb_Mod_readImage_188 {Δ : Dx} {X : Lx} (hX : MX Δ X)   {n : Nat} {Γ : Cx} (hk : Γ.k = 8) {r : IM} (hT : Tg Δ Γ none NN (r, X) 0 0) {H31 : Int32 → IM → Option (IM)} (hH31 : ∀ (x2 : Int32) (I : IM), H31 x2 I = some r → GG Δ m_Mod_readImage Γ NN 0 0 (I, X) 31 [some (.ref (Δ.ba + MO)), none, some (.int (x2))] [])  {I : IM} (h : b_Mod_readImage_188 n X.1 H31  I = some r) : GG Δ m_Mod_readImage Γ NN 0 0 (I, X) 188 [some (.ref (Δ.ba + MO)), none, none] [] := by
  unfold b_Mod_readImage_188 at h
  refine g_aload_n (pc := 188) (dd d_Mod_readImage_1 31 rfl) rfl ?_
  refine g_bipush (pc := 189) (v := 59) (dd d_Mod_readImage_1 32 rfl) (by decide) ?_
  obtain ⟨v21, e22, h⟩ := bnd_e h
  refine g_callV (pc := 191) (dd d_Mod_readImage_1 33 rfl) v_Mod_352 ob_MO rfl (ef_Mod_need hX e22) rfl (by rw [hk]; decide) (Nat.le_of_ble_eq_true rfl) ⟨Nat.zero_le _, Nat.zero_le _⟩ rfl ?_
  refine g_iconst (pc := 194) (v := 0) (dd d_Mod_readImage_1 34 rfl) (by decide) ?_
  refine g_istore_n (pc := 195) (dd d_Mod_readImage_1 35 rfl) (by decide) ?_
  refine g_goto (pc := 196) (tgt := 31) (dd d_Mod_readImage_1 36 rfl) (by decide) ?_
  exact hH31 _ _ h
def b_Mod_readImage_84 (n : Nat) (J : JM) (H31 : Int32 → IM → Option (IM))  (I : IM) : Option (IM) := if (I MO 10 : Int32) = (64 : Int32) then (Option.bind (f_Mod_step n J I) fun v40 => Option.bind (f_Mod_takeNumber n J 0 63 0 v40) fun v42 => lt (up v42 MO 4 (v42 MO 7)) fun I44 => b_Mod_readImage_188 n J H31 I44) else (if (I MO 10 : Int32) = (65 : Int32) then (Option.bind (f_Mod_wordLine n J I) fun v38 => b_Mod_readImage_188 n J H31 v38) else (if (I MO 10 : Int32) = (67 : Int32) then (Option.bind (f_Mod_registerLine n J I) fun v36 => b_Mod_readImage_188 n J H31 v36) else (if (I MO 10 : Int32) = (68 : Int32) then (Option.bind (f_Mod_inputLine n J I) fun v34 => b_Mod_readImage_188 n J H31 v34) else (Option.bind (f_Mod_in  (I MO 10) 0 21 I) fun v27 => if v27 = 0 then (Option.bind (f_Mod_fail   I) fun v30 => b_Mod_readImage_188 n J H31 v30) else (Option.bind (f_Mod_instructionLine n J I) fun v32 => b_Mod_readImage_188 n J H31 v32)))))
set_option maxRecDepth 20000 in
set_option maxHeartbeats 4000000 in
theorem gb_Mod_readImage_84 {Δ : Dx} {X : Lx} (hX : MX Δ X)   {n : Nat} {Γ : Cx} (hk : Γ.k = 8) {r : IM} (hT : Tg Δ Γ none NN (r, X) 0 0) {H31 : Int32 → IM → Option (IM)} (hH31 : ∀ (x2 : Int32) (I : IM), H31 x2 I = some r → GG Δ m_Mod_readImage Γ NN 0 0 (I, X) 31 [some (.ref (Δ.ba + MO)), none, some (.int (x2))] [])  {I : IM} (h : b_Mod_readImage_84 n X.1 H31  I = some r) : GG Δ m_Mod_readImage Γ NN 0 0 (I, X) 84 [some (.ref (Δ.ba + MO)), none, none] [] := by
  unfold b_Mod_readImage_84 at h
  refine g_aload_n (pc := 84) (dd d_Mod_readImage 43 rfl) rfl ?_
  refine g_geti (pc := 85) (dd d_Mod_readImage 44 rfl) f_Mod_270 ob_MO rfl ?_
  refine g_bipush (pc := 88) (v := 64) (dd d_Mod_readImage 45 rfl) (by decide) ?_
  refine g_icmpne (pc := 90) (tgt := 116) (dd d_Mod_readImage 46 rfl) (by decide) (fun q23 => ?_) (fun q23 => ?_)
  · replace h := ite_f h q23
    refine g_aload_n (pc := 116) (dd d_Mod_readImage 59 rfl) rfl ?_
    refine g_geti (pc := 117) (dd d_Mod_readImage_1 0 rfl) f_Mod_270 ob_MO rfl ?_
    refine g_bipush (pc := 120) (v := 65) (dd d_Mod_readImage_1 1 rfl) (by decide) ?_
    refine g_icmpne (pc := 122) (tgt := 132) (dd d_Mod_readImage_1 2 rfl) (by decide) (fun q24 => ?_) (fun q24 => ?_)
    · replace h := ite_f h q24
      refine g_aload_n (pc := 132) (dd d_Mod_readImage_1 6 rfl) rfl ?_
      refine g_geti (pc := 133) (dd d_Mod_readImage_1 7 rfl) f_Mod_270 ob_MO rfl ?_
      refine g_bipush (pc := 136) (v := 67) (dd d_Mod_readImage_1 8 rfl) (by decide) ?_
      refine g_icmpne (pc := 138) (tgt := 148) (dd d_Mod_readImage_1 9 rfl) (by decide) (fun q25 => ?_) (fun q25 => ?_)
      · replace h := ite_f h q25
        refine g_aload_n (pc := 148) (dd d_Mod_readImage_1 13 rfl) rfl ?_
        refine g_geti (pc := 149) (dd d_Mod_readImage_1 14 rfl) f_Mod_270 ob_MO rfl ?_
        refine g_bipush (pc := 152) (v := 68) (dd d_Mod_readImage_1 15 rfl) (by decide) ?_
        refine g_icmpne (pc := 154) (tgt := 164) (dd d_Mod_readImage_1 16 rfl) (by decide) (fun q26 => ?_) (fun q26 => ?_)
        · replace h := ite_f h q26
          refine g_aload_n (pc := 164) (dd d_Mod_readImage_1 20 rfl) rfl ?_
          refine g_geti (pc := 165) (dd d_Mod_readImage_1 21 rfl) f_Mod_270 ob_MO rfl ?_
          refine g_iconst (pc := 168) (v := 0) (dd d_Mod_readImage_1 22 rfl) (by decide) ?_
          refine g_bipush (pc := 169) (v := 21) (dd d_Mod_readImage_1 23 rfl) (by decide) ?_
          obtain ⟨v27, e28, h⟩ := bnd_e h
          refine g_callS (pc := 171) (dd d_Mod_readImage_1 24 rfl) s_Mod_243 (ef_Mod_in hX e28) rfl (by rw [hk]; decide) (Nat.le_of_ble_eq_true rfl) ⟨Nat.zero_le _, Nat.zero_le _⟩ rfl ?_
          refine g_ifeq (pc := 174) (tgt := 184) (dd d_Mod_readImage_1 25 rfl) (by decide) (fun q29 => ?_) (fun q29 => ?_)
          · replace h := ite_t h q29
            refine g_aload_n (pc := 184) (dd d_Mod_readImage_1 29 rfl) rfl ?_
            obtain ⟨v30, e31, h⟩ := bnd_e h
            refine g_callV (pc := 185) (dd d_Mod_readImage_1 30 rfl) v_Mod_286 ob_MO rfl (ef_Mod_fail hX e31) rfl (by rw [hk]; decide) (Nat.le_of_ble_eq_true rfl) ⟨Nat.zero_le _, Nat.zero_le _⟩ rfl ?_
            exact gb_Mod_readImage_188 hX hk hT hH31 h
          · replace h := ite_f h q29
            refine g_aload_n (pc := 177) (dd d_Mod_readImage_1 26 rfl) rfl ?_
            obtain ⟨v32, e33, h⟩ := bnd_e h
            refine g_callV (pc := 178) (dd d_Mod_readImage_1 27 rfl) v_Mod_457 ob_MO rfl (ef_Mod_instructionLine hX e33) rfl (by rw [hk]; decide) (Nat.le_of_ble_eq_true rfl) ⟨Nat.zero_le _, Nat.zero_le _⟩ rfl ?_
            refine g_goto (pc := 181) (tgt := 188) (dd d_Mod_readImage_1 28 rfl) (by decide) ?_
            exact gb_Mod_readImage_188 hX hk hT hH31 h
        · replace h := ite_t h q26
          refine g_aload_n (pc := 157) (dd d_Mod_readImage_1 17 rfl) rfl ?_
          obtain ⟨v34, e35, h⟩ := bnd_e h
          refine g_callV (pc := 158) (dd d_Mod_readImage_1 18 rfl) v_Mod_454 ob_MO rfl (ef_Mod_inputLine hX e35) rfl (by rw [hk]; decide) (Nat.le_of_ble_eq_true rfl) ⟨Nat.zero_le _, Nat.zero_le _⟩ rfl ?_
          refine g_goto (pc := 161) (tgt := 188) (dd d_Mod_readImage_1 19 rfl) (by decide) ?_
          exact gb_Mod_readImage_188 hX hk hT hH31 h
      · replace h := ite_t h q25
        refine g_aload_n (pc := 141) (dd d_Mod_readImage_1 10 rfl) rfl ?_
        obtain ⟨v36, e37, h⟩ := bnd_e h
        refine g_callV (pc := 142) (dd d_Mod_readImage_1 11 rfl) v_Mod_451 ob_MO rfl (ef_Mod_registerLine hX e37) rfl (by rw [hk]; decide) (Nat.le_of_ble_eq_true rfl) ⟨Nat.zero_le _, Nat.zero_le _⟩ rfl ?_
        refine g_goto (pc := 145) (tgt := 188) (dd d_Mod_readImage_1 12 rfl) (by decide) ?_
        exact gb_Mod_readImage_188 hX hk hT hH31 h
    · replace h := ite_t h q24
      refine g_aload_n (pc := 125) (dd d_Mod_readImage_1 3 rfl) rfl ?_
      obtain ⟨v38, e39, h⟩ := bnd_e h
      refine g_callV (pc := 126) (dd d_Mod_readImage_1 4 rfl) v_Mod_448 ob_MO rfl (ef_Mod_wordLine hX e39) rfl (by rw [hk]; decide) (Nat.le_of_ble_eq_true rfl) ⟨Nat.zero_le _, Nat.zero_le _⟩ rfl ?_
      refine g_goto (pc := 129) (tgt := 188) (dd d_Mod_readImage_1 5 rfl) (by decide) ?_
      exact gb_Mod_readImage_188 hX hk hT hH31 h
  · replace h := ite_t h q23
    refine g_aload_n (pc := 93) (dd d_Mod_readImage 47 rfl) rfl ?_
    obtain ⟨v40, e41, h⟩ := bnd_e h
    refine g_callV (pc := 94) (dd d_Mod_readImage 48 rfl) v_Mod_328 ob_MO rfl (ef_Mod_step hX e41) rfl (by rw [hk]; decide) (Nat.le_of_ble_eq_true rfl) ⟨Nat.zero_le _, Nat.zero_le _⟩ rfl ?_
    refine g_aload_n (pc := 97) (dd d_Mod_readImage 49 rfl) rfl ?_
    refine g_iconst (pc := 98) (v := 0) (dd d_Mod_readImage 50 rfl) (by decide) ?_
    refine g_bipush (pc := 99) (v := 63) (dd d_Mod_readImage 51 rfl) (by decide) ?_
    refine g_iconst (pc := 101) (v := 0) (dd d_Mod_readImage 52 rfl) (by decide) ?_
    obtain ⟨v42, e43, h⟩ := bnd_e h
    refine g_callV (pc := 102) (dd d_Mod_readImage 53 rfl) v_Mod_429 ob_MO rfl (ef_Mod_takeNumber hX e43) rfl (by rw [hk]; decide) (Nat.le_of_ble_eq_true rfl) ⟨Nat.zero_le _, Nat.zero_le _⟩ rfl ?_
    refine g_aload_n (pc := 105) (dd d_Mod_readImage 54 rfl) rfl ?_
    refine g_aload_n (pc := 106) (dd d_Mod_readImage 55 rfl) rfl ?_
    refine g_geti (pc := 107) (dd d_Mod_readImage 56 rfl) f_Mod_424 ob_MO rfl ?_
    refine g_putiN (pc := 110) (dd d_Mod_readImage 57 rfl) f_Mod_435 fm_Mod_4 ob_MO rfl (fun I44 hI44 => ?_)
    replace h := lt_e h hI44
    refine g_goto (pc := 113) (tgt := 188) (dd d_Mod_readImage 58 rfl) (by decide) ?_
    exact gb_Mod_readImage_188 hX hk hT hH31 h
def b_Mod_readImage_199 (n : Nat) (J : JM)   (I : IM) : Option (IM) := some I
set_option maxRecDepth 20000 in
set_option maxHeartbeats 4000000 in
theorem gb_Mod_readImage_199 {Δ : Dx} {X : Lx} (hX : MX Δ X)   {n : Nat} {Γ : Cx} (hk : Γ.k = 8) {r : IM} (hT : Tg Δ Γ none NN (r, X) 0 0)   {I : IM} (h : b_Mod_readImage_199 n X.1   I = some r) : GG Δ m_Mod_readImage Γ NN 0 0 (I, X) 199 [none, none, none] [] := by
  unfold b_Mod_readImage_199 at h
  cases h
  exact g_vret (pc := 199) rfl (dd d_Mod_readImage_1 37 rfl) hT
def l_Mod_readImage_31 (n : Nat) (J : JM)  : Nat → Int32 → IM → Option (IM)
  | 0, _, _ => none
  | f + 1, x2, I => if 0 ≤ (I MO 14 : Int32) then (b_Mod_readImage_199 n J  I) else (Option.bind (f_Mod_tokenIsEnd   I) fun v10 => if v10 = 0 then (if x2 = 0 then (b_Mod_readImage_84 n J (l_Mod_readImage_31 n J  f) I) else (if (I MO 10 : Int32) = (43 : Int32) then (Option.bind (f_Mod_step n J I) fun v15 => Option.bind (f_Mod_takeAny n J v15) fun v17 => if (v17 MO 6 : Int32) = 0 then (b_Mod_readImage_188 n J (l_Mod_readImage_31 n J  f) v17) else (lt (up v17 MO 34 (v17 MO 7)) fun I20 => b_Mod_readImage_188 n J (l_Mod_readImage_31 n J  f) I20)) else (b_Mod_readImage_84 n J (l_Mod_readImage_31 n J  f) I))) else (b_Mod_readImage_199 n J  I))
set_option maxRecDepth 20000 in
set_option maxHeartbeats 4000000 in
theorem gl_Mod_readImage_31 {Δ : Dx} {X : Lx} (hX : MX Δ X)   {n : Nat} {Γ : Cx} (hk : Γ.k = 8) {r : IM} (hT : Tg Δ Γ none NN (r, X) 0 0)  : ∀ (f : Nat) (x2 : Int32) (I : IM), l_Mod_readImage_31 n X.1  f x2 I = some r → GG Δ m_Mod_readImage Γ NN 0 0 (I, X) 31 [some (.ref (Δ.ba + MO)), none, some (.int (x2))] []
  | 0, _, _, h => by cases h
  | f + 1, x2, I, h => by
    have ih := gl_Mod_readImage_31 (n := n) hX hk hT  f
    rw [l_Mod_readImage_31] at h
    refine g_aload_n (pc := 31) (dd d_Mod_readImage 19 rfl) rfl ?_
    refine g_geti (pc := 32) (dd d_Mod_readImage 20 rfl) f_Mod_280 ob_MO rfl ?_
    refine g_ifge (pc := 35) (tgt := 199) (dd d_Mod_readImage 21 rfl) (by decide) (fun q9 => ?_) (fun q9 => ?_)
    · replace h := ite_t h q9
      refine g_drop [0, 2] ?_
      exact gb_Mod_readImage_199 hX hk hT  h
    · replace h := ite_f h q9
      refine g_aload_n (pc := 38) (dd d_Mod_readImage 22 rfl) rfl ?_
      obtain ⟨v10, e11, h⟩ := bnd_e h
      refine g_callV (pc := 39) (dd d_Mod_readImage 23 rfl) v_Mod_358 ob_MO rfl (ef_Mod_tokenIsEnd hX e11) rfl (by rw [hk]; decide) (Nat.le_of_ble_eq_true rfl) ⟨Nat.zero_le _, Nat.zero_le _⟩ rfl ?_
      refine g_ifne (pc := 42) (tgt := 199) (dd d_Mod_readImage 24 rfl) (by decide) (fun q12 => ?_) (fun q12 => ?_)
      · replace h := ite_f h q12
        refine g_drop [0, 2] ?_
        exact gb_Mod_readImage_199 hX hk hT  h
      · replace h := ite_t h q12
        refine g_iload_n (pc := 45) (dd d_Mod_readImage 25 rfl) rfl ?_
        refine g_ifeq (pc := 46) (tgt := 84) (dd d_Mod_readImage 26 rfl) (by decide) (fun q13 => ?_) (fun q13 => ?_)
        · replace h := ite_t h q13
          refine g_drop [2] ?_
          exact gb_Mod_readImage_84 hX hk hT ih h
        · replace h := ite_f h q13
          refine g_aload_n (pc := 49) (dd d_Mod_readImage 27 rfl) rfl ?_
          refine g_geti (pc := 50) (dd d_Mod_readImage 28 rfl) f_Mod_270 ob_MO rfl ?_
          refine g_bipush (pc := 53) (v := 43) (dd d_Mod_readImage 29 rfl) (by decide) ?_
          refine g_icmpne (pc := 55) (tgt := 84) (dd d_Mod_readImage 30 rfl) (by decide) (fun q14 => ?_) (fun q14 => ?_)
          · replace h := ite_f h q14
            refine g_drop [2] ?_
            exact gb_Mod_readImage_84 hX hk hT ih h
          · replace h := ite_t h q14
            refine g_aload_n (pc := 58) (dd d_Mod_readImage 31 rfl) rfl ?_
            obtain ⟨v15, e16, h⟩ := bnd_e h
            refine g_callV (pc := 59) (dd d_Mod_readImage 32 rfl) v_Mod_328 ob_MO rfl (ef_Mod_step hX e16) rfl (by rw [hk]; decide) (Nat.le_of_ble_eq_true rfl) ⟨Nat.zero_le _, Nat.zero_le _⟩ rfl ?_
            refine g_aload_n (pc := 62) (dd d_Mod_readImage 33 rfl) rfl ?_
            obtain ⟨v17, e18, h⟩ := bnd_e h
            refine g_callV (pc := 63) (dd d_Mod_readImage 34 rfl) v_Mod_432 ob_MO rfl (ef_Mod_takeAny hX e18) rfl (by rw [hk]; decide) (Nat.le_of_ble_eq_true rfl) ⟨Nat.zero_le _, Nat.zero_le _⟩ rfl ?_
            refine g_aload_n (pc := 66) (dd d_Mod_readImage 35 rfl) rfl ?_
            refine g_geti (pc := 67) (dd d_Mod_readImage 36 rfl) f_Mod_438 ob_MO rfl ?_
            refine g_ifeq (pc := 70) (tgt := 188) (dd d_Mod_readImage 37 rfl) (by decide) (fun q19 => ?_) (fun q19 => ?_)
            · replace h := ite_t h q19
              refine g_drop [2] ?_
              exact gb_Mod_readImage_188 hX hk hT ih h
            · replace h := ite_f h q19
              refine g_aload_n (pc := 73) (dd d_Mod_readImage 38 rfl) rfl ?_
              refine g_aload_n (pc := 74) (dd d_Mod_readImage 39 rfl) rfl ?_
              refine g_geti (pc := 75) (dd d_Mod_readImage 40 rfl) f_Mod_424 ob_MO rfl ?_
              refine g_putiN (pc := 78) (dd d_Mod_readImage 41 rfl) f_Mod_388 fm_Mod_34 ob_MO rfl (fun I20 hI20 => ?_)
              replace h := lt_e h hI20
              refine g_goto (pc := 81) (tgt := 188) (dd d_Mod_readImage 42 rfl) (by decide) ?_
              refine g_drop [2] ?_
              exact gb_Mod_readImage_188 hX hk hT ih h
def f_Mod_readImage (n : Nat) (J : JM) (x1 : Int32) (I : IM) : Option (IM) := chk (x1 = 0 ∨ x1 = 1) <| lt (up I MO 6 (x1)) fun I1 => lt (up I1 MO 14 ((-1))) fun I3 => lt (up I3 MO 13 (0)) fun I4 => lt (up I4 MO 4 (0)) fun I5 => lt (up I5 MO 5 (0)) fun I6 => Option.bind (f_Mod_advance n J I6) fun v7 => l_Mod_readImage_31 n J  n 1 v7
set_option maxRecDepth 20000 in
set_option maxHeartbeats 4000000 in
theorem ef_Mod_readImage {Δ : Dx} {X : Lx} (hX : MX Δ X) {n : Nat} {x1 : Int32}  {I : IM}  {r : IM} (h : f_Mod_readImage n X.1 x1 I = some r) : Ev Δ 8 m_Mod_readImage [.ref (Δ.ba + MO), .int x1] (I, X) none (r, X) := by
  refine ev_of (by decide) (Nat.le_of_ble_eq_true rfl) (fun Γ hk hR hT => ?_)
  change GG Δ m_Mod_readImage Γ NN 0 0 (I, X) 0 [some (.ref (Δ.ba + MO)), some (.int (x1)), none] []
  unfold f_Mod_readImage at h
  refine g_aload_n (pc := 0) (dd d_Mod_readImage 0 rfl) rfl ?_
  refine g_iload_n (pc := 1) (dd d_Mod_readImage 1 rfl) rfl ?_
  obtain ⟨c2, h⟩ := chk_e h
  refine g_putzN (pc := 2) (dd d_Mod_readImage 2 rfl) f_Mod_438 fm_Mod_6 ob_MO rfl c2 (fun I1 hI1 => ?_)
  replace h := lt_e h hI1
  refine g_aload_n (pc := 5) (dd d_Mod_readImage 3 rfl) rfl ?_
  refine g_iconst (pc := 6) (v := (-1)) (dd d_Mod_readImage 4 rfl) (by decide) ?_
  refine g_putiN (pc := 7) (dd d_Mod_readImage 5 rfl) f_Mod_280 fm_Mod_14 ob_MO rfl (fun I3 hI3 => ?_)
  replace h := lt_e h hI3
  refine g_aload_n (pc := 10) (dd d_Mod_readImage 6 rfl) rfl ?_
  refine g_iconst (pc := 11) (v := 0) (dd d_Mod_readImage 7 rfl) (by decide) ?_
  refine g_putiN (pc := 12) (dd d_Mod_readImage 8 rfl) f_Mod_260 fm_Mod_13 ob_MO rfl (fun I4 hI4 => ?_)
  replace h := lt_e h hI4
  refine g_aload_n (pc := 15) (dd d_Mod_readImage 9 rfl) rfl ?_
  refine g_iconst (pc := 16) (v := 0) (dd d_Mod_readImage 10 rfl) (by decide) ?_
  refine g_putiN (pc := 17) (dd d_Mod_readImage 11 rfl) f_Mod_435 fm_Mod_4 ob_MO rfl (fun I5 hI5 => ?_)
  replace h := lt_e h hI5
  refine g_aload_n (pc := 20) (dd d_Mod_readImage 12 rfl) rfl ?_
  refine g_iconst (pc := 21) (v := 0) (dd d_Mod_readImage 13 rfl) (by decide) ?_
  refine g_putiN (pc := 22) (dd d_Mod_readImage 14 rfl) f_Mod_445 fm_Mod_5 ob_MO rfl (fun I6 hI6 => ?_)
  replace h := lt_e h hI6
  refine g_aload_n (pc := 25) (dd d_Mod_readImage 15 rfl) rfl ?_
  obtain ⟨v7, e8, h⟩ := bnd_e h
  refine g_callV (pc := 26) (dd d_Mod_readImage 16 rfl) v_Mod_289 ob_MO rfl (ef_Mod_advance hX e8) rfl (by rw [hk]; decide) (Nat.le_of_ble_eq_true rfl) ⟨Nat.zero_le _, Nat.zero_le _⟩ rfl ?_
  refine g_iconst (pc := 29) (v := 1) (dd d_Mod_readImage 17 rfl) (by decide) ?_
  refine g_istore_n (pc := 30) (dd d_Mod_readImage 18 rfl) (by decide) ?_
  refine g_drop [1] ?_
  exact gl_Mod_readImage_31 hX hk hT  _ _ _ h
def f_Mod_image (n : Nat) (J : JM) (I : IM) : Option (Int32 × IM) := lt (up I MO 0 (0)) fun I1 => Option.bind (f_Mod_readImage n J 0 I1) fun v2 => if (v2 MO 14 : Int32) < 0 then (Option.bind (f_Mod_setUp n 0 v2) fun v5 => Option.bind (f_Mod_readImage n J 1 v5) fun v7 => some ((-1), v7)) else (some (v2 MO 14, v2))
set_option maxRecDepth 20000 in
set_option maxHeartbeats 4000000 in
theorem ef_Mod_image {Δ : Dx} {X : Lx} (hX : MX Δ X) {n : Nat}  {I : IM}  {r : Int32 × IM} (h : f_Mod_image n X.1 I = some r) : Ev Δ 9 m_Mod_image [.ref (Δ.ba + MO)] (I, X) (some (.int r.1)) (r.2, X) := by
  refine ev_of (by decide) (Nat.le_of_ble_eq_true rfl) (fun Γ hk hR hT => ?_)
  change GG Δ m_Mod_image Γ NN 0 0 (I, X) 0 [some (.ref (Δ.ba + MO))] []
  unfold f_Mod_image at h
  refine g_aload_n (pc := 0) (dd d_Mod_image 0 rfl) rfl ?_
  refine g_iconst (pc := 1) (v := 0) (dd d_Mod_image 1 rfl) (by decide) ?_
  refine g_putiN (pc := 2) (dd d_Mod_image 2 rfl) f_Mod_240 fm_Mod_0 ob_MO rfl (fun I1 hI1 => ?_)
  replace h := lt_e h hI1
  refine g_aload_n (pc := 5) (dd d_Mod_image 3 rfl) rfl ?_
  refine g_iconst (pc := 6) (v := 0) (dd d_Mod_image 4 rfl) (by decide) ?_
  obtain ⟨v2, e3, h⟩ := bnd_e h
  refine g_callV (pc := 7) (dd d_Mod_image 5 rfl) v_Mod_460 ob_MO rfl (ef_Mod_readImage hX e3) rfl (by rw [hk]; decide) (Nat.le_of_ble_eq_true rfl) ⟨Nat.zero_le _, Nat.zero_le _⟩ rfl ?_
  refine g_aload_n (pc := 10) (dd d_Mod_image 6 rfl) rfl ?_
  refine g_geti (pc := 11) (dd d_Mod_image 7 rfl) f_Mod_280 ob_MO rfl ?_
  refine g_iflt (pc := 14) (tgt := 22) (dd d_Mod_image 8 rfl) (by decide) (fun q4 => ?_) (fun q4 => ?_)
  · replace h := ite_t h q4
    refine g_aload_n (pc := 22) (dd d_Mod_image 12 rfl) rfl ?_
    refine g_iconst (pc := 23) (v := 0) (dd d_Mod_image 13 rfl) (by decide) ?_
    obtain ⟨v5, e6, h⟩ := bnd_e h
    refine g_callV (pc := 24) (dd d_Mod_image 14 rfl) v_Mod_232 ob_MO rfl (ef_Mod_setUp hX e6) rfl (by rw [hk]; decide) (Nat.le_of_ble_eq_true rfl) ⟨Nat.zero_le _, Nat.zero_le _⟩ rfl ?_
    refine g_aload_n (pc := 27) (dd d_Mod_image 15 rfl) rfl ?_
    refine g_iconst (pc := 28) (v := 1) (dd d_Mod_image 16 rfl) (by decide) ?_
    obtain ⟨v7, e8, h⟩ := bnd_e h
    refine g_callV (pc := 29) (dd d_Mod_image 17 rfl) v_Mod_460 ob_MO rfl (ef_Mod_readImage hX e8) rfl (by rw [hk]; decide) (Nat.le_of_ble_eq_true rfl) ⟨Nat.zero_le _, Nat.zero_le _⟩ rfl ?_
    refine g_iconst (pc := 32) (v := (-1)) (dd d_Mod_image 18 rfl) (by decide) ?_
    cases h
    exact g_iret (pc := 33) rfl (dd d_Mod_image 19 rfl) hT
  · replace h := ite_f h q4
    refine g_aload_n (pc := 17) (dd d_Mod_image 9 rfl) rfl ?_
    refine g_geti (pc := 18) (dd d_Mod_image 10 rfl) f_Mod_280 ob_MO rfl ?_
    cases h
    exact g_iret (pc := 21) rfl (dd d_Mod_image 11 rfl) hT
def f_Mod_say (x1 : Int64) (I : IM) : Option (IM) := chk (inb (I MO 8) 100) <| lt (up I A_list (I MO 8 : Int32).toNatClampNeg ((x1).toInt32)) fun I2 => lt (up I2 MO 8 ((I2 MO 8) + 1)) fun I3 => some I3
set_option maxRecDepth 20000 in
set_option maxHeartbeats 4000000 in
theorem ef_Mod_say {Δ : Dx} {X : Lx} (hX : MX Δ X) {x1 : Int64}  {I : IM}  {r : IM} (h : f_Mod_say x1 I = some r) : Ev Δ 0 m_Mod_say [.ref (Δ.ba + MO), .long x1] (I, X) none (r, X) := by
  refine ev_of (by decide) (Nat.le_of_ble_eq_true rfl) (fun Γ hk hR hT => ?_)
  change GG Δ m_Mod_say Γ NN 0 0 (I, X) 0 [some (.ref (Δ.ba + MO)), some (.long (x1)), none] []
  unfold f_Mod_say at h
  refine g_aload_n (pc := 0) (dd d_Mod_say 0 rfl) rfl ?_
  refine g_getr (pc := 1) (dd d_Mod_say 1 rfl) f_Mod_17 ob_MO rfl (mr_list hX) ?_
  refine g_aload_n (pc := 4) (dd d_Mod_say 2 rfl) rfl ?_
  refine g_geti (pc := 5) (dd d_Mod_say 3 rfl) f_Mod_463 ob_MO rfl ?_
  refine g_lload_n (pc := 8) (dd d_Mod_say 4 rfl) rfl ?_
  refine g_l2i (pc := 9) (dd d_Mod_say 5 rfl) ?_
  obtain ⟨c1, h⟩ := chk_e h
  refine g_iastN (pc := 10) (dd d_Mod_say 6 rfl) ar_A_list c1 (fun I2 hI2 => ?_)
  replace h := lt_e h hI2
  refine g_aload_n (pc := 11) (dd d_Mod_say 7 rfl) rfl ?_
  refine g_dup (pc := 12) (dd d_Mod_say 8 rfl) rfl ?_
  refine g_geti (pc := 13) (dd d_Mod_say 9 rfl) f_Mod_463 ob_MO rfl ?_
  refine g_iconst (pc := 16) (v := 1) (dd d_Mod_say 10 rfl) (by decide) ?_
  refine g_iadd (pc := 17) (dd d_Mod_say 11 rfl) ?_
  refine g_putiN (pc := 18) (dd d_Mod_say 12 rfl) f_Mod_463 fm_Mod_8 ob_MO rfl (fun I3 hI3 => ?_)
  replace h := lt_e h hI3
  cases h
  exact g_vret (pc := 21) rfl (dd d_Mod_say 13 rfl) hT
def l_Mod_sayWord_21 (n : Nat) (J : JM)  : Nat → Int64 → IM → Option (IM)
  | 0, _, _ => none
  | f + 1, x2, I => if (lg_cmp (x2) (0) : Int32) ≤ 0 then (some I) else (Option.bind (f_Mod_say  ((96) + ((x2) &&& (31))) I) fun v6 => (l_Mod_sayWord_21 n J  f) ((x2) >>> ((5).toInt64 &&& 63)) v6)
set_option maxRecDepth 20000 in
set_option maxHeartbeats 4000000 in
theorem gl_Mod_sayWord_21 {Δ : Dx} {X : Lx} (hX : MX Δ X)   {n : Nat} {Γ : Cx} (hk : Γ.k = 1) {r : IM} (hT : Tg Δ Γ none NN (r, X) 0 0)  : ∀ (f : Nat) (x2 : Int64) (I : IM), l_Mod_sayWord_21 n X.1  f x2 I = some r → GG Δ m_Mod_sayWord Γ NN 0 0 (I, X) 21 [some (.ref (Δ.ba + MO)), none, some (.long (x2)), none] []
  | 0, _, _, h => by cases h
  | f + 1, x2, I, h => by
    have ih := gl_Mod_sayWord_21 (n := n) hX hk hT  f
    rw [l_Mod_sayWord_21] at h
    refine g_lload_n (pc := 21) (dd d_Mod_sayWord 11 rfl) rfl ?_
    refine g_lconst (pc := 22) (v := 0) (dd d_Mod_sayWord 12 rfl) (by decide) ?_
    refine g_lcmp (pc := 23) (dd d_Mod_sayWord 13 rfl) ?_
    refine g_ifle (pc := 24) (tgt := 47) (dd d_Mod_sayWord 14 rfl) (by decide) (fun q5 => ?_) (fun q5 => ?_)
    · replace h := ite_t h q5
      cases h
      exact g_vret (pc := 47) rfl (dd d_Mod_sayWord 27 rfl) hT
    · replace h := ite_f h q5
      refine g_aload_n (pc := 27) (dd d_Mod_sayWord 15 rfl) rfl ?_
      refine g_ldc2 (pc := 28) (dd d_Mod_sayWord 16 rfl) c_Mod_472 ?_
      refine g_lload_n (pc := 31) (dd d_Mod_sayWord 17 rfl) rfl ?_
      refine g_ldc2 (pc := 32) (dd d_Mod_sayWord 18 rfl) c_Mod_258 ?_
      refine g_land (pc := 35) (dd d_Mod_sayWord 19 rfl) ?_
      refine g_ladd (pc := 36) (dd d_Mod_sayWord 20 rfl) ?_
      obtain ⟨v6, e7, h⟩ := bnd_e h
      refine g_callV (pc := 37) (dd d_Mod_sayWord 21 rfl) v_Mod_468 ob_MO rfl (ef_Mod_say hX e7) rfl (by rw [hk]; decide) (Nat.le_of_ble_eq_true rfl) ⟨Nat.zero_le _, Nat.zero_le _⟩ rfl ?_
      refine g_lload_n (pc := 40) (dd d_Mod_sayWord 22 rfl) rfl ?_
      refine g_iconst (pc := 41) (v := 5) (dd d_Mod_sayWord 23 rfl) (by decide) ?_
      refine g_lshr (pc := 42) (dd d_Mod_sayWord 24 rfl) ?_
      refine g_lstore_n (pc := 43) (dd d_Mod_sayWord 25 rfl) (by decide) ?_
      refine g_goto (pc := 44) (tgt := 21) (dd d_Mod_sayWord 26 rfl) (by decide) ?_
      exact ih _ _ h
def b_Mod_sayWord_14 (n : Nat) (J : JM)  (x1 : Int32) (I : IM) : Option (IM) := chk (inb x1 70) <| l_Mod_sayWord_21 n J  n (J A_words x1.toNatClampNeg) I
set_option maxRecDepth 20000 in
set_option maxHeartbeats 4000000 in
theorem gb_Mod_sayWord_14 {Δ : Dx} {X : Lx} (hX : MX Δ X)   {n : Nat} {Γ : Cx} (hk : Γ.k = 1) {r : IM} (hT : Tg Δ Γ none NN (r, X) 0 0)  {x1 : Int32} {I : IM} (h : b_Mod_sayWord_14 n X.1  x1 I = some r) : GG Δ m_Mod_sayWord Γ NN 0 0 (I, X) 14 [some (.ref (Δ.ba + MO)), some (.int (x1)), none, none] [] := by
  unfold b_Mod_sayWord_14 at h
  refine g_aload_n (pc := 14) (dd d_Mod_sayWord 6 rfl) rfl ?_
  refine g_getr (pc := 15) (dd d_Mod_sayWord 7 rfl) f_Mod_13 ob_MO rfl (mr_words hX) ?_
  refine g_iload_n (pc := 18) (dd d_Mod_sayWord 8 rfl) rfl ?_
  obtain ⟨c4, h⟩ := chk_e h
  refine g_lald (pc := 19) (dd d_Mod_sayWord 9 rfl) ar_A_words c4 ?_
  refine g_lstore_n (pc := 20) (dd d_Mod_sayWord 10 rfl) (by decide) ?_
  refine g_drop [1] ?_
  exact gl_Mod_sayWord_21 hX hk hT  _ _ _ h
def f_Mod_sayWord (n : Nat) (J : JM) (x1 : Int32) (I : IM) : Option (IM) := if (I MO 8 : Int32) ≤ 0 then (b_Mod_sayWord_14 n J  x1 I) else (Option.bind (f_Mod_say  32 I) fun v2 => b_Mod_sayWord_14 n J  x1 v2)
set_option maxRecDepth 20000 in
set_option maxHeartbeats 4000000 in
theorem ef_Mod_sayWord {Δ : Dx} {X : Lx} (hX : MX Δ X) {n : Nat} {x1 : Int32}  {I : IM}  {r : IM} (h : f_Mod_sayWord n X.1 x1 I = some r) : Ev Δ 1 m_Mod_sayWord [.ref (Δ.ba + MO), .int x1] (I, X) none (r, X) := by
  refine ev_of (by decide) (Nat.le_of_ble_eq_true rfl) (fun Γ hk hR hT => ?_)
  change GG Δ m_Mod_sayWord Γ NN 0 0 (I, X) 0 [some (.ref (Δ.ba + MO)), some (.int (x1)), none, none] []
  unfold f_Mod_sayWord at h
  refine g_aload_n (pc := 0) (dd d_Mod_sayWord 0 rfl) rfl ?_
  refine g_geti (pc := 1) (dd d_Mod_sayWord 1 rfl) f_Mod_463 ob_MO rfl ?_
  refine g_ifle (pc := 4) (tgt := 14) (dd d_Mod_sayWord 2 rfl) (by decide) (fun q1 => ?_) (fun q1 => ?_)
  · replace h := ite_t h q1
    exact gb_Mod_sayWord_14 hX hk hT  h
  · replace h := ite_f h q1
    refine g_aload_n (pc := 7) (dd d_Mod_sayWord 3 rfl) rfl ?_
    refine g_ldc2 (pc := 8) (dd d_Mod_sayWord 4 rfl) c_Mod_466 ?_
    obtain ⟨v2, e3, h⟩ := bnd_e h
    refine g_callV (pc := 11) (dd d_Mod_sayWord 5 rfl) v_Mod_468 ob_MO rfl (ef_Mod_say hX e3) rfl (by rw [hk]; decide) (Nat.le_of_ble_eq_true rfl) ⟨Nat.zero_le _, Nat.zero_le _⟩ rfl ?_
    exact gb_Mod_sayWord_14 hX hk hT  h
def l_Mod_sayNumber_56 (n : Nat)  : Nat → Int64 → Int64 → IM → Option (IM)
  | 0, _, _, _ => none
  | f + 1, x2, x4, I => if (lg_cmp (x4) (0) : Int32) ≤ 0 then (some I) else (chk (¬ (x4 : Int64) = 0) <| Option.bind (f_Mod_say  ((48) + (((x2) / (x4)) - ((x2) / (x4)) / (10) * (10))) I) fun v11 => (l_Mod_sayNumber_56 n  f) x2 ((x4) / (10)) v11)
set_option maxRecDepth 20000 in
set_option maxHeartbeats 4000000 in
theorem gl_Mod_sayNumber_56 {Δ : Dx} {X : Lx} (hX : MX Δ X)   {n : Nat} {Γ : Cx} (hk : Γ.k = 1) {r : IM} (hT : Tg Δ Γ none NN (r, X) 0 0)  : ∀ (f : Nat) (x2 : Int64) (x4 : Int64) (I : IM), l_Mod_sayNumber_56 n  f x2 x4 I = some r → GG Δ m_Mod_sayNumber Γ NN 0 0 (I, X) 56 [some (.ref (Δ.ba + MO)), none, some (.long (x2)), none, some (.long (x4)), none] []
  | 0, _, _, _, h => by cases h
  | f + 1, x2, x4, I, h => by
    have ih := gl_Mod_sayNumber_56 (n := n) hX hk hT  f
    rw [l_Mod_sayNumber_56] at h
    refine g_lload (pc := 56) (dd d_Mod_sayNumber 30 rfl) rfl ?_
    refine g_lconst (pc := 58) (v := 0) (dd d_Mod_sayNumber 31 rfl) (by decide) ?_
    refine g_lcmp (pc := 59) (dd d_Mod_sayNumber 32 rfl) ?_
    refine g_ifle (pc := 60) (tgt := 90) (dd d_Mod_sayNumber 33 rfl) (by decide) (fun q9 => ?_) (fun q9 => ?_)
    · replace h := ite_t h q9
      cases h
      exact g_vret (pc := 90) rfl (dd d_Mod_sayNumber 48 rfl) hT
    · replace h := ite_f h q9
      refine g_aload_n (pc := 63) (dd d_Mod_sayNumber 34 rfl) rfl ?_
      refine g_ldc2 (pc := 64) (dd d_Mod_sayNumber 35 rfl) c_Mod_478 ?_
      refine g_lload_n (pc := 67) (dd d_Mod_sayNumber 36 rfl) rfl ?_
      refine g_lload (pc := 68) (dd d_Mod_sayNumber 37 rfl) rfl ?_
      obtain ⟨c10, h⟩ := chk_e h
      refine g_ldiv (pc := 70) (dd d_Mod_sayNumber 38 rfl) c10 ?_
      refine g_ldc2 (pc := 71) (dd d_Mod_sayNumber 39 rfl) c_Mod_476 ?_
      refine g_lrem (pc := 74) (dd d_Mod_sayNumber 40 rfl) (by decide) ?_
      refine g_ladd (pc := 75) (dd d_Mod_sayNumber 41 rfl) ?_
      obtain ⟨v11, e12, h⟩ := bnd_e h
      refine g_callV (pc := 76) (dd d_Mod_sayNumber 42 rfl) v_Mod_468 ob_MO rfl (ef_Mod_say hX e12) rfl (by rw [hk]; decide) (Nat.le_of_ble_eq_true rfl) ⟨Nat.zero_le _, Nat.zero_le _⟩ rfl ?_
      refine g_lload (pc := 79) (dd d_Mod_sayNumber 43 rfl) rfl ?_
      refine g_ldc2 (pc := 81) (dd d_Mod_sayNumber 44 rfl) c_Mod_476 ?_
      refine g_ldiv (pc := 84) (dd d_Mod_sayNumber 45 rfl) (by decide) ?_
      refine g_lstore (pc := 85) (dd d_Mod_sayNumber 46 rfl) (by decide) ?_
      refine g_goto (pc := 87) (tgt := 56) (dd d_Mod_sayNumber 47 rfl) (by decide) ?_
      exact ih _ _ _ h
def l_Mod_sayNumber_34 (n : Nat)  : Nat → Int64 → Int64 → IM → Option (IM)
  | 0, _, _, _ => none
  | f + 1, x2, x4, I => chk (¬ (x4 : Int64) = 0) <| if (lg_cmp ((x2) / (x4)) (9) : Int32) ≤ 0 then (l_Mod_sayNumber_56 n  n x2 x4 I) else ((l_Mod_sayNumber_34 n  f) x2 ((10) * (x4)) I)
set_option maxRecDepth 20000 in
set_option maxHeartbeats 4000000 in
theorem gl_Mod_sayNumber_34 {Δ : Dx} {X : Lx} (hX : MX Δ X)   {n : Nat} {Γ : Cx} (hk : Γ.k = 1) {r : IM} (hT : Tg Δ Γ none NN (r, X) 0 0)  : ∀ (f : Nat) (x2 : Int64) (x4 : Int64) (I : IM), l_Mod_sayNumber_34 n  f x2 x4 I = some r → GG Δ m_Mod_sayNumber Γ NN 0 0 (I, X) 34 [some (.ref (Δ.ba + MO)), none, some (.long (x2)), none, some (.long (x4)), none] []
  | 0, _, _, _, h => by cases h
  | f + 1, x2, x4, I, h => by
    have ih := gl_Mod_sayNumber_34 (n := n) hX hk hT  f
    rw [l_Mod_sayNumber_34] at h
    refine g_lload_n (pc := 34) (dd d_Mod_sayNumber 19 rfl) rfl ?_
    refine g_lload (pc := 35) (dd d_Mod_sayNumber 20 rfl) rfl ?_
    obtain ⟨c7, h⟩ := chk_e h
    refine g_ldiv (pc := 37) (dd d_Mod_sayNumber 21 rfl) c7 ?_
    refine g_ldc2 (pc := 38) (dd d_Mod_sayNumber 22 rfl) c_Mod_192 ?_
    refine g_lcmp (pc := 41) (dd d_Mod_sayNumber 23 rfl) ?_
    refine g_ifle (pc := 42) (tgt := 56) (dd d_Mod_sayNumber 24 rfl) (by decide) (fun q8 => ?_) (fun q8 => ?_)
    · replace h := ite_t h q8
      exact gl_Mod_sayNumber_56 hX hk hT  _ _ _ _ h
    · replace h := ite_f h q8
      refine g_ldc2 (pc := 45) (dd d_Mod_sayNumber 25 rfl) c_Mod_476 ?_
      refine g_lload (pc := 48) (dd d_Mod_sayNumber 26 rfl) rfl ?_
      refine g_lmul (pc := 50) (dd d_Mod_sayNumber 27 rfl) ?_
      refine g_lstore (pc := 51) (dd d_Mod_sayNumber 28 rfl) (by decide) ?_
      refine g_goto (pc := 53) (tgt := 34) (dd d_Mod_sayNumber 29 rfl) (by decide) ?_
      exact ih _ _ _ h
def b_Mod_sayNumber_30 (n : Nat)  (y0 : Int64) (I : IM) : Option (IM) := l_Mod_sayNumber_34 n  n y0 1 I
set_option maxRecDepth 20000 in
set_option maxHeartbeats 4000000 in
theorem gb_Mod_sayNumber_30 {Δ : Dx} {X : Lx} (hX : MX Δ X)   {n : Nat} {Γ : Cx} (hk : Γ.k = 1) {r : IM} (hT : Tg Δ Γ none NN (r, X) 0 0)  {y0 : Int64} {I : IM} (h : b_Mod_sayNumber_30 n  y0 I = some r) : GG Δ m_Mod_sayNumber Γ NN 0 0 (I, X) 30 [some (.ref (Δ.ba + MO)), none, none, none, none, none] [.long (y0)] := by
  unfold b_Mod_sayNumber_30 at h
  refine g_lstore_n (pc := 30) (dd d_Mod_sayNumber 16 rfl) (by decide) ?_
  refine g_lconst (pc := 31) (v := 1) (dd d_Mod_sayNumber 17 rfl) (by decide) ?_
  refine g_lstore (pc := 32) (dd d_Mod_sayNumber 18 rfl) (by decide) ?_
  exact gl_Mod_sayNumber_34 hX hk hT  _ _ _ _ h
def b_Mod_sayNumber_18 (n : Nat)  (x1 : Int32) (I : IM) : Option (IM) := if 0 ≤ x1 then (b_Mod_sayNumber_30 n  ((x1).toInt64) I) else (b_Mod_sayNumber_30 n  (-((x1).toInt64)) I)
set_option maxRecDepth 20000 in
set_option maxHeartbeats 4000000 in
theorem gb_Mod_sayNumber_18 {Δ : Dx} {X : Lx} (hX : MX Δ X)   {n : Nat} {Γ : Cx} (hk : Γ.k = 1) {r : IM} (hT : Tg Δ Γ none NN (r, X) 0 0)  {x1 : Int32} {I : IM} (h : b_Mod_sayNumber_18 n  x1 I = some r) : GG Δ m_Mod_sayNumber Γ NN 0 0 (I, X) 18 [some (.ref (Δ.ba + MO)), some (.int (x1)), none, none, none, none] [] := by
  unfold b_Mod_sayNumber_18 at h
  refine g_iload_n (pc := 18) (dd d_Mod_sayNumber 8 rfl) rfl ?_
  refine g_ifge (pc := 19) (tgt := 28) (dd d_Mod_sayNumber 9 rfl) (by decide) (fun q6 => ?_) (fun q6 => ?_)
  · replace h := ite_t h q6
    refine g_iload_n (pc := 28) (dd d_Mod_sayNumber 14 rfl) rfl ?_
    refine g_i2l (pc := 29) (dd d_Mod_sayNumber 15 rfl) ?_
    refine g_drop [1] ?_
    exact gb_Mod_sayNumber_30 hX hk hT  h
  · replace h := ite_f h q6
    refine g_iload_n (pc := 22) (dd d_Mod_sayNumber 10 rfl) rfl ?_
    refine g_i2l (pc := 23) (dd d_Mod_sayNumber 11 rfl) ?_
    refine g_lneg (pc := 24) (dd d_Mod_sayNumber 12 rfl) ?_
    refine g_goto (pc := 25) (tgt := 30) (dd d_Mod_sayNumber 13 rfl) (by decide) ?_
    refine g_drop [1] ?_
    exact gb_Mod_sayNumber_30 hX hk hT  h
def f_Mod_sayNumber (n : Nat) (x1 : Int32) (I : IM) : Option (IM) := Option.bind (f_Mod_say  32 I) fun v1 => if 0 ≤ x1 then (b_Mod_sayNumber_18 n  x1 v1) else (Option.bind (f_Mod_say  45 v1) fun v4 => b_Mod_sayNumber_18 n  x1 v4)
set_option maxRecDepth 20000 in
set_option maxHeartbeats 4000000 in
theorem ef_Mod_sayNumber {Δ : Dx} {X : Lx} (hX : MX Δ X) {n : Nat} {x1 : Int32}  {I : IM}  {r : IM} (h : f_Mod_sayNumber n x1 I = some r) : Ev Δ 1 m_Mod_sayNumber [.ref (Δ.ba + MO), .int x1] (I, X) none (r, X) := by
  refine ev_of (by decide) (Nat.le_of_ble_eq_true rfl) (fun Γ hk hR hT => ?_)
  change GG Δ m_Mod_sayNumber Γ NN 0 0 (I, X) 0 [some (.ref (Δ.ba + MO)), some (.int (x1)), none, none, none, none] []
  unfold f_Mod_sayNumber at h
  refine g_aload_n (pc := 0) (dd d_Mod_sayNumber 0 rfl) rfl ?_
  refine g_ldc2 (pc := 1) (dd d_Mod_sayNumber 1 rfl) c_Mod_466 ?_
  obtain ⟨v1, e2, h⟩ := bnd_e h
  refine g_callV (pc := 4) (dd d_Mod_sayNumber 2 rfl) v_Mod_468 ob_MO rfl (ef_Mod_say hX e2) rfl (by rw [hk]; decide) (Nat.le_of_ble_eq_true rfl) ⟨Nat.zero_le _, Nat.zero_le _⟩ rfl ?_
  refine g_iload_n (pc := 7) (dd d_Mod_sayNumber 3 rfl) rfl ?_
  refine g_ifge (pc := 8) (tgt := 18) (dd d_Mod_sayNumber 4 rfl) (by decide) (fun q3 => ?_) (fun q3 => ?_)
  · replace h := ite_t h q3
    exact gb_Mod_sayNumber_18 hX hk hT  h
  · replace h := ite_f h q3
    refine g_aload_n (pc := 11) (dd d_Mod_sayNumber 5 rfl) rfl ?_
    refine g_ldc2 (pc := 12) (dd d_Mod_sayNumber 6 rfl) c_Mod_474 ?_
    obtain ⟨v4, e5, h⟩ := bnd_e h
    refine g_callV (pc := 15) (dd d_Mod_sayNumber 7 rfl) v_Mod_468 ob_MO rfl (ef_Mod_say hX e5) rfl (by rw [hk]; decide) (Nat.le_of_ble_eq_true rfl) ⟨Nat.zero_le _, Nat.zero_le _⟩ rfl ?_
    exact gb_Mod_sayNumber_18 hX hk hT  h
def b_Mod_sayPart_14 (n : Nat) (J : JM)   (I : IM) : Option (IM) := some I
set_option maxRecDepth 20000 in
set_option maxHeartbeats 4000000 in
theorem gb_Mod_sayPart_14 {Δ : Dx} {X : Lx} (hX : MX Δ X)   {n : Nat} {Γ : Cx} (hk : Γ.k = 2) {r : IM} (hT : Tg Δ Γ none NN (r, X) 0 0)   {I : IM} (h : b_Mod_sayPart_14 n X.1   I = some r) : GG Δ m_Mod_sayPart Γ NN 0 0 (I, X) 14 [none, none, none] [] := by
  unfold b_Mod_sayPart_14 at h
  cases h
  exact g_vret (pc := 14) rfl (dd d_Mod_sayPart 8 rfl) hT
def f_Mod_sayPart (n : Nat) (J : JM) (x1 : Int32) (x2 : Int32) (I : IM) : Option (IM) := if x2 = 0 then (b_Mod_sayPart_14 n J  I) else (Option.bind (f_Mod_sayWord n J x1 I) fun v2 => Option.bind (f_Mod_sayNumber n x2 v2) fun v4 => b_Mod_sayPart_14 n J  v4)
set_option maxRecDepth 20000 in
set_option maxHeartbeats 4000000 in
theorem ef_Mod_sayPart {Δ : Dx} {X : Lx} (hX : MX Δ X) {n : Nat} {x1 : Int32} {x2 : Int32}  {I : IM}  {r : IM} (h : f_Mod_sayPart n X.1 x1 x2 I = some r) : Ev Δ 2 m_Mod_sayPart [.ref (Δ.ba + MO), .int x1, .int x2] (I, X) none (r, X) := by
  refine ev_of (by decide) (Nat.le_of_ble_eq_true rfl) (fun Γ hk hR hT => ?_)
  change GG Δ m_Mod_sayPart Γ NN 0 0 (I, X) 0 [some (.ref (Δ.ba + MO)), some (.int (x1)), some (.int (x2))] []
  unfold f_Mod_sayPart at h
  refine g_iload_n (pc := 0) (dd d_Mod_sayPart 0 rfl) rfl ?_
  refine g_ifeq (pc := 1) (tgt := 14) (dd d_Mod_sayPart 1 rfl) (by decide) (fun q1 => ?_) (fun q1 => ?_)
  · replace h := ite_t h q1
    refine g_drop [0, 1, 2] ?_
    exact gb_Mod_sayPart_14 hX hk hT  h
  · replace h := ite_f h q1
    refine g_aload_n (pc := 4) (dd d_Mod_sayPart 2 rfl) rfl ?_
    refine g_iload_n (pc := 5) (dd d_Mod_sayPart 3 rfl) rfl ?_
    obtain ⟨v2, e3, h⟩ := bnd_e h
    refine g_callV (pc := 6) (dd d_Mod_sayPart 4 rfl) v_Mod_480 ob_MO rfl (ef_Mod_sayWord hX e3) rfl (by rw [hk]; decide) (Nat.le_of_ble_eq_true rfl) ⟨Nat.zero_le _, Nat.zero_le _⟩ rfl ?_
    refine g_aload_n (pc := 9) (dd d_Mod_sayPart 5 rfl) rfl ?_
    refine g_iload_n (pc := 10) (dd d_Mod_sayPart 6 rfl) rfl ?_
    obtain ⟨v4, e5, h⟩ := bnd_e h
    refine g_callV (pc := 11) (dd d_Mod_sayPart 7 rfl) v_Mod_483 ob_MO rfl (ef_Mod_sayNumber hX e5) rfl (by rw [hk]; decide) (Nat.le_of_ble_eq_true rfl) ⟨Nat.zero_le _, Nat.zero_le _⟩ rfl ?_
    refine g_drop [0, 1, 2] ?_
    exact gb_Mod_sayPart_14 hX hk hT  h
def b_Mod_listing_153 (n : Nat) (J : JM)  (y0 : Int32) (I : IM) : Option (Int32 × IM) := some (y0, I)
set_option maxRecDepth 20000 in
set_option maxHeartbeats 4000000 in
theorem gb_Mod_listing_153 {Δ : Dx} {X : Lx} (hX : MX Δ X)   {n : Nat} {Γ : Cx} (hk : Γ.k = 3) {r : Int32 × IM} (hT : Tg Δ Γ (some (.int r.1)) NN (r.2, X) 0 0)  {y0 : Int32} {I : IM} (h : b_Mod_listing_153 n X.1  y0 I = some r) : GG Δ m_Mod_listing Γ NN 0 0 (I, X) 153 [none, none, none, none] [.int (y0)] := by
  unfold b_Mod_listing_153 at h
  cases h
  exact g_iret (pc := 153) rfl (dd d_Mod_listing_1 30 rfl) hT
def b_Mod_listing_75 (n : Nat) (J : JM)  (x1 : Int32) (x2 : Int32) (x3 : Int32) (I : IM) : Option (Int32 × IM) := Option.bind (f_Mod_sayPart n J 31 (((x3 : Int32) >>> ((5 : Int32) &&& 31)) &&& 7) I) fun v17 => Option.bind (f_Mod_sayPart n J 32 (((x3 : Int32) >>> ((8 : Int32) &&& 31)) &&& 7) v17) fun v19 => Option.bind (f_Mod_sayPart n J 33 (((x3 : Int32) >>> ((11 : Int32) &&& 31)) &&& 7) v19) fun v21 => Option.bind (f_Mod_sayPart n J 40 ((x3 : Int32) >>> ((16 : Int32) &&& 31)) v21) fun v23 => chk (inb x1 64) <| Option.bind (f_Mod_sayPart n J 51 (v23 A_codeTags x1.toNatClampNeg) v23) fun v26 => if (v26 MO 8 : Int32) ≤ x2 then (b_Mod_listing_153 n J  (-1) v26) else (chk (inb x2 100) <| b_Mod_listing_153 n J  (v26 A_list x2.toNatClampNeg) v26)
set_option maxRecDepth 20000 in
set_option maxHeartbeats 4000000 in
theorem gb_Mod_listing_75 {Δ : Dx} {X : Lx} (hX : MX Δ X)   {n : Nat} {Γ : Cx} (hk : Γ.k = 3) {r : Int32 × IM} (hT : Tg Δ Γ (some (.int r.1)) NN (r.2, X) 0 0)  {x1 : Int32} {x2 : Int32} {x3 : Int32} {I : IM} (h : b_Mod_listing_75 n X.1  x1 x2 x3 I = some r) : GG Δ m_Mod_listing Γ NN 0 0 (I, X) 75 [some (.ref (Δ.ba + MO)), some (.int (x1)), some (.int (x2)), some (.int (x3))] [] := by
  unfold b_Mod_listing_75 at h
  refine g_aload_n (pc := 75) (dd d_Mod_listing 43 rfl) rfl ?_
  refine g_bipush (pc := 76) (v := 31) (dd d_Mod_listing 44 rfl) (by decide) ?_
  refine g_iload_n (pc := 78) (dd d_Mod_listing 45 rfl) rfl ?_
  refine g_iconst (pc := 79) (v := 5) (dd d_Mod_listing 46 rfl) (by decide) ?_
  refine g_ishr (pc := 80) (dd d_Mod_listing 47 rfl) ?_
  refine g_bipush (pc := 81) (v := 7) (dd d_Mod_listing 48 rfl) (by decide) ?_
  refine g_iand (pc := 83) (dd d_Mod_listing 49 rfl) ?_
  obtain ⟨v17, e18, h⟩ := bnd_e h
  refine g_callV (pc := 84) (dd d_Mod_listing 50 rfl) v_Mod_486 ob_MO rfl (ef_Mod_sayPart hX e18) rfl (by rw [hk]; decide) (Nat.le_of_ble_eq_true rfl) ⟨Nat.zero_le _, Nat.zero_le _⟩ rfl ?_
  refine g_aload_n (pc := 87) (dd d_Mod_listing 51 rfl) rfl ?_
  refine g_bipush (pc := 88) (v := 32) (dd d_Mod_listing 52 rfl) (by decide) ?_
  refine g_iload_n (pc := 90) (dd d_Mod_listing 53 rfl) rfl ?_
  refine g_bipush (pc := 91) (v := 8) (dd d_Mod_listing 54 rfl) (by decide) ?_
  refine g_ishr (pc := 93) (dd d_Mod_listing 55 rfl) ?_
  refine g_bipush (pc := 94) (v := 7) (dd d_Mod_listing 56 rfl) (by decide) ?_
  refine g_iand (pc := 96) (dd d_Mod_listing 57 rfl) ?_
  obtain ⟨v19, e20, h⟩ := bnd_e h
  refine g_callV (pc := 97) (dd d_Mod_listing 58 rfl) v_Mod_486 ob_MO rfl (ef_Mod_sayPart hX e20) rfl (by rw [hk]; decide) (Nat.le_of_ble_eq_true rfl) ⟨Nat.zero_le _, Nat.zero_le _⟩ rfl ?_
  refine g_aload_n (pc := 100) (dd d_Mod_listing 59 rfl) rfl ?_
  refine g_bipush (pc := 101) (v := 33) (dd d_Mod_listing_1 0 rfl) (by decide) ?_
  refine g_iload_n (pc := 103) (dd d_Mod_listing_1 1 rfl) rfl ?_
  refine g_bipush (pc := 104) (v := 11) (dd d_Mod_listing_1 2 rfl) (by decide) ?_
  refine g_ishr (pc := 106) (dd d_Mod_listing_1 3 rfl) ?_
  refine g_bipush (pc := 107) (v := 7) (dd d_Mod_listing_1 4 rfl) (by decide) ?_
  refine g_iand (pc := 109) (dd d_Mod_listing_1 5 rfl) ?_
  obtain ⟨v21, e22, h⟩ := bnd_e h
  refine g_callV (pc := 110) (dd d_Mod_listing_1 6 rfl) v_Mod_486 ob_MO rfl (ef_Mod_sayPart hX e22) rfl (by rw [hk]; decide) (Nat.le_of_ble_eq_true rfl) ⟨Nat.zero_le _, Nat.zero_le _⟩ rfl ?_
  refine g_aload_n (pc := 113) (dd d_Mod_listing_1 7 rfl) rfl ?_
  refine g_bipush (pc := 114) (v := 40) (dd d_Mod_listing_1 8 rfl) (by decide) ?_
  refine g_iload_n (pc := 116) (dd d_Mod_listing_1 9 rfl) rfl ?_
  refine g_bipush (pc := 117) (v := 16) (dd d_Mod_listing_1 10 rfl) (by decide) ?_
  refine g_ishr (pc := 119) (dd d_Mod_listing_1 11 rfl) ?_
  obtain ⟨v23, e24, h⟩ := bnd_e h
  refine g_callV (pc := 120) (dd d_Mod_listing_1 12 rfl) v_Mod_486 ob_MO rfl (ef_Mod_sayPart hX e24) rfl (by rw [hk]; decide) (Nat.le_of_ble_eq_true rfl) ⟨Nat.zero_le _, Nat.zero_le _⟩ rfl ?_
  refine g_aload_n (pc := 123) (dd d_Mod_listing_1 13 rfl) rfl ?_
  refine g_bipush (pc := 124) (v := 51) (dd d_Mod_listing_1 14 rfl) (by decide) ?_
  refine g_aload_n (pc := 126) (dd d_Mod_listing_1 15 rfl) rfl ?_
  refine g_getr (pc := 127) (dd d_Mod_listing_1 16 rfl) f_Mod_62 ob_MO rfl (mr_codeTags hX) ?_
  refine g_iload_n (pc := 130) (dd d_Mod_listing_1 17 rfl) rfl ?_
  obtain ⟨c25, h⟩ := chk_e h
  refine g_iald (pc := 131) (dd d_Mod_listing_1 18 rfl) ar_A_codeTags c25 ?_
  obtain ⟨v26, e27, h⟩ := bnd_e h
  refine g_callV (pc := 132) (dd d_Mod_listing_1 19 rfl) v_Mod_486 ob_MO rfl (ef_Mod_sayPart hX e27) rfl (by rw [hk]; decide) (Nat.le_of_ble_eq_true rfl) ⟨Nat.zero_le _, Nat.zero_le _⟩ rfl ?_
  refine g_iload_n (pc := 135) (dd d_Mod_listing_1 20 rfl) rfl ?_
  refine g_aload_n (pc := 136) (dd d_Mod_listing_1 21 rfl) rfl ?_
  refine g_geti (pc := 137) (dd d_Mod_listing_1 22 rfl) f_Mod_463 ob_MO rfl ?_
  refine g_icmpge (pc := 140) (tgt := 152) (dd d_Mod_listing_1 23 rfl) (by decide) (fun q28 => ?_) (fun q28 => ?_)
  · replace h := ite_t h q28
    refine g_iconst (pc := 152) (v := (-1)) (dd d_Mod_listing_1 29 rfl) (by decide) ?_
    refine g_drop [0, 1, 2, 3] ?_
    exact gb_Mod_listing_153 hX hk hT  h
  · replace h := ite_f h q28
    refine g_aload_n (pc := 143) (dd d_Mod_listing_1 24 rfl) rfl ?_
    refine g_getr (pc := 144) (dd d_Mod_listing_1 25 rfl) f_Mod_17 ob_MO rfl (mr_list hX) ?_
    refine g_iload_n (pc := 147) (dd d_Mod_listing_1 26 rfl) rfl ?_
    obtain ⟨c29, h⟩ := chk_e h
    refine g_iald (pc := 148) (dd d_Mod_listing_1 27 rfl) ar_A_list c29 ?_
    refine g_goto (pc := 149) (tgt := 153) (dd d_Mod_listing_1 28 rfl) (by decide) ?_
    refine g_drop [0, 1, 2, 3] ?_
    exact gb_Mod_listing_153 hX hk hT  h
def f_Mod_listing (n : Nat) (J : JM) (x1 : Int32) (x2 : Int32) (I : IM) : Option (Int32 × IM) := Option.bind (f_Mod_in  x1 0 63 I) fun v1 => Option.bind (f_Mod_refuse  (if v1 = 0 then 1 else (if 0 ≤ x2 then 0 else 1)) 0 I) fun v5 => if (v5.1 : Int32) = 0 then (chk (inb x1 64) <| lt (up v5.2 MO 8 (0)) fun I9 => if (22 : Int32) ≤ ((v5.2 A_code x1.toNatClampNeg) &&& 31 : Int32) then (Option.bind (f_Mod_sayWord n J 69 I9) fun v11 => Option.bind (f_Mod_sayNumber n ((v5.2 A_code x1.toNatClampNeg) &&& 31) v11) fun v13 => b_Mod_listing_75 n J  x1 x2 (v5.2 A_code x1.toNatClampNeg) v13) else (Option.bind (f_Mod_sayWord n J ((v5.2 A_code x1.toNatClampNeg) &&& 31) I9) fun v15 => b_Mod_listing_75 n J  x1 x2 (v5.2 A_code x1.toNatClampNeg) v15)) else (some (0, v5.2))
set_option maxRecDepth 20000 in
set_option maxHeartbeats 4000000 in
theorem ef_Mod_listing {Δ : Dx} {X : Lx} (hX : MX Δ X) {n : Nat} {x1 : Int32} {x2 : Int32}  {I : IM}  {r : Int32 × IM} (h : f_Mod_listing n X.1 x1 x2 I = some r) : Ev Δ 3 m_Mod_listing [.ref (Δ.ba + MO), .int x1, .int x2] (I, X) (some (.int r.1)) (r.2, X) := by
  refine ev_of (by decide) (Nat.le_of_ble_eq_true rfl) (fun Γ hk hR hT => ?_)
  change GG Δ m_Mod_listing Γ NN 0 0 (I, X) 0 [some (.ref (Δ.ba + MO)), some (.int (x1)), some (.int (x2)), none] []
  unfold f_Mod_listing at h
  refine g_aload_n (pc := 0) (dd d_Mod_listing 0 rfl) rfl ?_
  refine g_iload_n (pc := 1) (dd d_Mod_listing 1 rfl) rfl ?_
  refine g_iconst (pc := 2) (v := 0) (dd d_Mod_listing 2 rfl) (by decide) ?_
  refine g_bipush (pc := 3) (v := 63) (dd d_Mod_listing 3 rfl) (by decide) ?_
  obtain ⟨v1, e2, h⟩ := bnd_e h
  refine g_callS (pc := 5) (dd d_Mod_listing 4 rfl) s_Mod_243 (ef_Mod_in hX e2) rfl (by rw [hk]; decide) (Nat.le_of_ble_eq_true rfl) ⟨Nat.zero_le _, Nat.zero_le _⟩ rfl ?_
  suffices K8 : ∀ z : Int32, z = (if v1 = 0 then 1 else (if 0 ≤ x2 then 0 else 1) : Int32) → GG Δ m_Mod_listing Γ NN 0 0 (I, X) 20 [some (.ref (Δ.ba + MO)), some (.int (x1)), some (.int (x2)), none] [.int (z), .ref (Δ.ba + MO)] by
    refine g_ifeq (pc := 8) (tgt := 15) (dd d_Mod_listing 5 rfl) (by decide) (fun q3 => ?_) (fun q3 => ?_)
    · skip
      refine g_iconst (pc := 15) (v := 1) (dd d_Mod_listing 8 rfl) (by decide) ?_
      refine g_goto (pc := 16) (tgt := 20) (dd d_Mod_listing 9 rfl) (by decide) ?_
      exact K8 _ (by rw [if_pos q3])
    · skip
      refine g_iload_n (pc := 11) (dd d_Mod_listing 6 rfl) rfl ?_
      refine g_ifge (pc := 12) (tgt := 19) (dd d_Mod_listing 7 rfl) (by decide) (fun q4 => ?_) (fun q4 => ?_)
      · skip
        refine g_iconst (pc := 19) (v := 0) (dd d_Mod_listing 10 rfl) (by decide) ?_
        exact K8 _ (by rw [if_neg q3, if_pos q4])
      · skip
        refine g_iconst (pc := 15) (v := 1) (dd d_Mod_listing 8 rfl) (by decide) ?_
        refine g_goto (pc := 16) (tgt := 20) (dd d_Mod_listing 9 rfl) (by decide) ?_
        exact K8 _ (by rw [if_neg q3, if_neg q4])
  intro z hz
  subst hz
  refine g_iconst (pc := 20) (v := 0) (dd d_Mod_listing 11 rfl) (by decide) ?_
  obtain ⟨v5, e6, h⟩ := bnd_e h
  refine g_callV (pc := 21) (dd d_Mod_listing 12 rfl) v_Mod_250 ob_MO rfl (ef_Mod_refuse hX e6) rfl (by rw [hk]; decide) (Nat.le_of_ble_eq_true rfl) ⟨Nat.zero_le _, Nat.zero_le _⟩ rfl ?_
  refine g_ifeq (pc := 24) (tgt := 29) (dd d_Mod_listing 13 rfl) (by decide) (fun q7 => ?_) (fun q7 => ?_)
  · replace h := ite_t h q7
    refine g_aload_n (pc := 29) (dd d_Mod_listing 16 rfl) rfl ?_
    refine g_getr (pc := 30) (dd d_Mod_listing 17 rfl) f_Mod_59 ob_MO rfl (mr_code hX) ?_
    refine g_iload_n (pc := 33) (dd d_Mod_listing 18 rfl) rfl ?_
    obtain ⟨c8, h⟩ := chk_e h
    refine g_iald (pc := 34) (dd d_Mod_listing 19 rfl) ar_A_code c8 ?_
    refine g_istore_n (pc := 35) (dd d_Mod_listing 20 rfl) (by decide) ?_
    refine g_aload_n (pc := 36) (dd d_Mod_listing 21 rfl) rfl ?_
    refine g_iconst (pc := 37) (v := 0) (dd d_Mod_listing 22 rfl) (by decide) ?_
    refine g_putiN (pc := 38) (dd d_Mod_listing 23 rfl) f_Mod_463 fm_Mod_8 ob_MO rfl (fun I9 hI9 => ?_)
    replace h := lt_e h hI9
    refine g_iload_n (pc := 41) (dd d_Mod_listing 24 rfl) rfl ?_
    refine g_bipush (pc := 42) (v := 31) (dd d_Mod_listing 25 rfl) (by decide) ?_
    refine g_iand (pc := 44) (dd d_Mod_listing 26 rfl) ?_
    refine g_bipush (pc := 45) (v := 22) (dd d_Mod_listing 27 rfl) (by decide) ?_
    refine g_icmpge (pc := 47) (tgt := 61) (dd d_Mod_listing 28 rfl) (by decide) (fun q10 => ?_) (fun q10 => ?_)
    · replace h := ite_t h q10
      refine g_aload_n (pc := 61) (dd d_Mod_listing 35 rfl) rfl ?_
      refine g_bipush (pc := 62) (v := 69) (dd d_Mod_listing 36 rfl) (by decide) ?_
      obtain ⟨v11, e12, h⟩ := bnd_e h
      refine g_callV (pc := 64) (dd d_Mod_listing 37 rfl) v_Mod_480 ob_MO rfl (ef_Mod_sayWord hX e12) rfl (by rw [hk]; decide) (Nat.le_of_ble_eq_true rfl) ⟨Nat.zero_le _, Nat.zero_le _⟩ rfl ?_
      refine g_aload_n (pc := 67) (dd d_Mod_listing 38 rfl) rfl ?_
      refine g_iload_n (pc := 68) (dd d_Mod_listing 39 rfl) rfl ?_
      refine g_bipush (pc := 69) (v := 31) (dd d_Mod_listing 40 rfl) (by decide) ?_
      refine g_iand (pc := 71) (dd d_Mod_listing 41 rfl) ?_
      obtain ⟨v13, e14, h⟩ := bnd_e h
      refine g_callV (pc := 72) (dd d_Mod_listing 42 rfl) v_Mod_483 ob_MO rfl (ef_Mod_sayNumber hX e14) rfl (by rw [hk]; decide) (Nat.le_of_ble_eq_true rfl) ⟨Nat.zero_le _, Nat.zero_le _⟩ rfl ?_
      exact gb_Mod_listing_75 hX hk hT  h
    · replace h := ite_f h q10
      refine g_aload_n (pc := 50) (dd d_Mod_listing 29 rfl) rfl ?_
      refine g_iload_n (pc := 51) (dd d_Mod_listing 30 rfl) rfl ?_
      refine g_bipush (pc := 52) (v := 31) (dd d_Mod_listing 31 rfl) (by decide) ?_
      refine g_iand (pc := 54) (dd d_Mod_listing 32 rfl) ?_
      obtain ⟨v15, e16, h⟩ := bnd_e h
      refine g_callV (pc := 55) (dd d_Mod_listing 33 rfl) v_Mod_480 ob_MO rfl (ef_Mod_sayWord hX e16) rfl (by rw [hk]; decide) (Nat.le_of_ble_eq_true rfl) ⟨Nat.zero_le _, Nat.zero_le _⟩ rfl ?_
      refine g_goto (pc := 58) (tgt := 75) (dd d_Mod_listing 34 rfl) (by decide) ?_
      exact gb_Mod_listing_75 hX hk hT  h
  · replace h := ite_f h q7
    refine g_iconst (pc := 27) (v := 0) (dd d_Mod_listing 14 rfl) (by decide) ?_
    cases h
    exact g_iret (pc := 28) rfl (dd d_Mod_listing 15 rfl) hT
def b_Mod_codeOf_63   (y0 : Int32) (I : IM) : Option (Int32 × IM) := some (y0, I)
set_option maxRecDepth 20000 in
set_option maxHeartbeats 4000000 in
theorem gb_Mod_codeOf_63 {Δ : Dx} {X : Lx} (hX : MX Δ X)    {Γ : Cx} (hk : Γ.k = 1) {r : Int32 × IM} (hT : Tg Δ Γ (some (.int r.1)) NN (r.2, X) 0 0)  {y0 : Int32} {I : IM} (h : b_Mod_codeOf_63   y0 I = some r) : GG Δ m_Mod_codeOf Γ NN 0 0 (I, X) 63 [none, none, none, none] [.int (y0)] := by
  unfold b_Mod_codeOf_63 at h
  cases h
  exact g_iret (pc := 63) rfl (dd d_Mod_codeOf 36 rfl) hT
def b_Mod_codeOf_36   (x1 : Int32) (x2 : Int32) (y2 : Int32) (y1 : Int32) (I : IM) : Option (Int32 × IM) := Option.bind (f_Mod_refuse  y1 y2 I) fun v14 => if (v14.1 : Int32) = 0 then (if x2 = 0 then (chk (inb x1 64) <| b_Mod_codeOf_63   (v14.2 A_code x1.toNatClampNeg) v14.2) else (chk (inb x1 64) <| b_Mod_codeOf_63   (v14.2 A_codeTags x1.toNatClampNeg) v14.2)) else (some (0, v14.2))
set_option maxRecDepth 20000 in
set_option maxHeartbeats 4000000 in
theorem gb_Mod_codeOf_36 {Δ : Dx} {X : Lx} (hX : MX Δ X)    {Γ : Cx} (hk : Γ.k = 1) {r : Int32 × IM} (hT : Tg Δ Γ (some (.int r.1)) NN (r.2, X) 0 0)  {x1 : Int32} {x2 : Int32} {y2 : Int32} {y1 : Int32} {I : IM} (h : b_Mod_codeOf_36   x1 x2 y2 y1 I = some r) : GG Δ m_Mod_codeOf Γ NN 0 0 (I, X) 36 [some (.ref (Δ.ba + MO)), some (.int (x1)), some (.int (x2)), none] [.int (y2), .int (y1), .ref (Δ.ba + MO)] := by
  unfold b_Mod_codeOf_36 at h
  obtain ⟨v14, e15, h⟩ := bnd_e h
  refine g_callV (pc := 36) (dd d_Mod_codeOf 21 rfl) v_Mod_250 ob_MO rfl (ef_Mod_refuse hX e15) rfl (by rw [hk]; decide) (Nat.le_of_ble_eq_true rfl) ⟨Nat.zero_le _, Nat.zero_le _⟩ rfl ?_
  refine g_ifeq (pc := 39) (tgt := 44) (dd d_Mod_codeOf 22 rfl) (by decide) (fun q16 => ?_) (fun q16 => ?_)
  · replace h := ite_t h q16
    refine g_iload_n (pc := 44) (dd d_Mod_codeOf 25 rfl) rfl ?_
    refine g_ifne (pc := 45) (tgt := 57) (dd d_Mod_codeOf 26 rfl) (by decide) (fun q17 => ?_) (fun q17 => ?_)
    · replace h := ite_f h q17
      refine g_aload_n (pc := 57) (dd d_Mod_codeOf 32 rfl) rfl ?_
      refine g_getr (pc := 58) (dd d_Mod_codeOf 33 rfl) f_Mod_62 ob_MO rfl (mr_codeTags hX) ?_
      refine g_iload_n (pc := 61) (dd d_Mod_codeOf 34 rfl) rfl ?_
      obtain ⟨c18, h⟩ := chk_e h
      refine g_iald (pc := 62) (dd d_Mod_codeOf 35 rfl) ar_A_codeTags c18 ?_
      refine g_drop [0, 1, 2] ?_
      exact gb_Mod_codeOf_63 hX hk hT  h
    · replace h := ite_t h q17
      refine g_aload_n (pc := 48) (dd d_Mod_codeOf 27 rfl) rfl ?_
      refine g_getr (pc := 49) (dd d_Mod_codeOf 28 rfl) f_Mod_59 ob_MO rfl (mr_code hX) ?_
      refine g_iload_n (pc := 52) (dd d_Mod_codeOf 29 rfl) rfl ?_
      obtain ⟨c19, h⟩ := chk_e h
      refine g_iald (pc := 53) (dd d_Mod_codeOf 30 rfl) ar_A_code c19 ?_
      refine g_goto (pc := 54) (tgt := 63) (dd d_Mod_codeOf 31 rfl) (by decide) ?_
      refine g_drop [0, 1, 2] ?_
      exact gb_Mod_codeOf_63 hX hk hT  h
  · replace h := ite_f h q16
    refine g_iconst (pc := 42) (v := 0) (dd d_Mod_codeOf 23 rfl) (by decide) ?_
    cases h
    exact g_iret (pc := 43) rfl (dd d_Mod_codeOf 24 rfl) hT
def b_Mod_codeOf_35   (x1 : Int32) (x2 : Int32) (y1 : Int32) (I : IM) : Option (Int32 × IM) := b_Mod_codeOf_36   x1 x2 0 y1 I
set_option maxRecDepth 20000 in
set_option maxHeartbeats 4000000 in
theorem gb_Mod_codeOf_35 {Δ : Dx} {X : Lx} (hX : MX Δ X)    {Γ : Cx} (hk : Γ.k = 1) {r : Int32 × IM} (hT : Tg Δ Γ (some (.int r.1)) NN (r.2, X) 0 0)  {x1 : Int32} {x2 : Int32} {y1 : Int32} {I : IM} (h : b_Mod_codeOf_35   x1 x2 y1 I = some r) : GG Δ m_Mod_codeOf Γ NN 0 0 (I, X) 35 [some (.ref (Δ.ba + MO)), some (.int (x1)), some (.int (x2)), none] [.int (y1), .ref (Δ.ba + MO)] := by
  unfold b_Mod_codeOf_35 at h
  refine g_iconst (pc := 35) (v := 0) (dd d_Mod_codeOf 20 rfl) (by decide) ?_
  exact gb_Mod_codeOf_36 hX hk hT  h
def f_Mod_codeOf (x1 : Int32) (x2 : Int32) (I : IM) : Option (Int32 × IM) := Option.bind (f_Mod_in  x1 0 63 I) fun v1 => if v1 = 0 then (b_Mod_codeOf_35   x1 x2 (if v1 = 0 then 1 else 0) I) else (Option.bind (f_Mod_in  x2 0 1 I) fun v5 => Option.bind (f_Mod_refuse  (if v1 = 0 then 1 else 0) (if v5 = 0 then 1 else 0) I) fun v8 => if (v8.1 : Int32) = 0 then (if x2 = 0 then (chk (inb x1 64) <| b_Mod_codeOf_63   (v8.2 A_code x1.toNatClampNeg) v8.2) else (chk (inb x1 64) <| b_Mod_codeOf_63   (v8.2 A_codeTags x1.toNatClampNeg) v8.2)) else (some (0, v8.2)))
set_option maxRecDepth 20000 in
set_option maxHeartbeats 4000000 in
theorem ef_Mod_codeOf {Δ : Dx} {X : Lx} (hX : MX Δ X) {x1 : Int32} {x2 : Int32}  {I : IM}  {r : Int32 × IM} (h : f_Mod_codeOf x1 x2 I = some r) : Ev Δ 1 m_Mod_codeOf [.ref (Δ.ba + MO), .int x1, .int x2] (I, X) (some (.int r.1)) (r.2, X) := by
  refine ev_of (by decide) (Nat.le_of_ble_eq_true rfl) (fun Γ hk hR hT => ?_)
  change GG Δ m_Mod_codeOf Γ NN 0 0 (I, X) 0 [some (.ref (Δ.ba + MO)), some (.int (x1)), some (.int (x2)), none] []
  unfold f_Mod_codeOf at h
  refine g_iload_n (pc := 0) (dd d_Mod_codeOf 0 rfl) rfl ?_
  refine g_iconst (pc := 1) (v := 0) (dd d_Mod_codeOf 1 rfl) (by decide) ?_
  refine g_bipush (pc := 2) (v := 63) (dd d_Mod_codeOf 2 rfl) (by decide) ?_
  obtain ⟨v1, e2, h⟩ := bnd_e h
  refine g_callS (pc := 4) (dd d_Mod_codeOf 3 rfl) s_Mod_243 (ef_Mod_in hX e2) rfl (by rw [hk]; decide) (Nat.le_of_ble_eq_true rfl) ⟨Nat.zero_le _, Nat.zero_le _⟩ rfl ?_
  refine g_istore_n (pc := 7) (dd d_Mod_codeOf 4 rfl) (by decide) ?_
  refine g_aload_n (pc := 8) (dd d_Mod_codeOf 5 rfl) rfl ?_
  refine g_iload_n (pc := 9) (dd d_Mod_codeOf 6 rfl) rfl ?_
  suffices K10 : ∀ z : Int32, z = (if v1 = 0 then 1 else 0 : Int32) → GG Δ m_Mod_codeOf Γ NN 0 0 (I, X) 18 [some (.ref (Δ.ba + MO)), some (.int (x1)), some (.int (x2)), some (.int (v1))] [.int (z), .ref (Δ.ba + MO)] by
    refine g_ifne (pc := 10) (tgt := 17) (dd d_Mod_codeOf 7 rfl) (by decide) (fun q3 => ?_) (fun q3 => ?_)
    · skip
      refine g_iconst (pc := 17) (v := 0) (dd d_Mod_codeOf 10 rfl) (by decide) ?_
      exact K10 _ (by rw [if_neg q3])
    · skip
      refine g_iconst (pc := 13) (v := 1) (dd d_Mod_codeOf 8 rfl) (by decide) ?_
      refine g_goto (pc := 14) (tgt := 18) (dd d_Mod_codeOf 9 rfl) (by decide) ?_
      exact K10 _ (by rw [if_pos q3])
  intro z hz
  subst hz
  refine g_iload_n (pc := 18) (dd d_Mod_codeOf 11 rfl) rfl ?_
  refine g_ifeq (pc := 19) (tgt := 35) (dd d_Mod_codeOf 12 rfl) (by decide) (fun q4 => ?_) (fun q4 => ?_)
  · replace h := ite_t h q4
    refine g_drop [3] ?_
    exact gb_Mod_codeOf_35 hX hk hT  h
  · replace h := ite_f h q4
    refine g_iload_n (pc := 22) (dd d_Mod_codeOf 13 rfl) rfl ?_
    refine g_iconst (pc := 23) (v := 0) (dd d_Mod_codeOf 14 rfl) (by decide) ?_
    refine g_iconst (pc := 24) (v := 1) (dd d_Mod_codeOf 15 rfl) (by decide) ?_
    obtain ⟨v5, e6, h⟩ := bnd_e h
    refine g_callS (pc := 25) (dd d_Mod_codeOf 16 rfl) s_Mod_243 (ef_Mod_in hX e6) rfl (by rw [hk]; decide) (Nat.le_of_ble_eq_true rfl) ⟨Nat.zero_le _, Nat.zero_le _⟩ rfl ?_
    suffices K28 : ∀ z : Int32, z = (if v5 = 0 then 1 else 0 : Int32) → GG Δ m_Mod_codeOf Γ NN 0 0 (I, X) 36 [some (.ref (Δ.ba + MO)), some (.int (x1)), some (.int (x2)), some (.int (v1))] [.int (z), .int (if v1 = 0 then 1 else 0), .ref (Δ.ba + MO)] by
      refine g_ifne (pc := 28) (tgt := 35) (dd d_Mod_codeOf 17 rfl) (by decide) (fun q7 => ?_) (fun q7 => ?_)
      · skip
        refine g_iconst (pc := 35) (v := 0) (dd d_Mod_codeOf 20 rfl) (by decide) ?_
        exact K28 _ (by rw [if_neg q7])
      · skip
        refine g_iconst (pc := 31) (v := 1) (dd d_Mod_codeOf 18 rfl) (by decide) ?_
        refine g_goto (pc := 32) (tgt := 36) (dd d_Mod_codeOf 19 rfl) (by decide) ?_
        exact K28 _ (by rw [if_pos q7])
    intro z hz
    subst hz
    obtain ⟨v8, e9, h⟩ := bnd_e h
    refine g_callV (pc := 36) (dd d_Mod_codeOf 21 rfl) v_Mod_250 ob_MO rfl (ef_Mod_refuse hX e9) rfl (by rw [hk]; decide) (Nat.le_of_ble_eq_true rfl) ⟨Nat.zero_le _, Nat.zero_le _⟩ rfl ?_
    refine g_ifeq (pc := 39) (tgt := 44) (dd d_Mod_codeOf 22 rfl) (by decide) (fun q10 => ?_) (fun q10 => ?_)
    · replace h := ite_t h q10
      refine g_iload_n (pc := 44) (dd d_Mod_codeOf 25 rfl) rfl ?_
      refine g_ifne (pc := 45) (tgt := 57) (dd d_Mod_codeOf 26 rfl) (by decide) (fun q11 => ?_) (fun q11 => ?_)
      · replace h := ite_f h q11
        refine g_aload_n (pc := 57) (dd d_Mod_codeOf 32 rfl) rfl ?_
        refine g_getr (pc := 58) (dd d_Mod_codeOf 33 rfl) f_Mod_62 ob_MO rfl (mr_codeTags hX) ?_
        refine g_iload_n (pc := 61) (dd d_Mod_codeOf 34 rfl) rfl ?_
        obtain ⟨c12, h⟩ := chk_e h
        refine g_iald (pc := 62) (dd d_Mod_codeOf 35 rfl) ar_A_codeTags c12 ?_
        refine g_drop [0, 1, 2, 3] ?_
        exact gb_Mod_codeOf_63 hX hk hT  h
      · replace h := ite_t h q11
        refine g_aload_n (pc := 48) (dd d_Mod_codeOf 27 rfl) rfl ?_
        refine g_getr (pc := 49) (dd d_Mod_codeOf 28 rfl) f_Mod_59 ob_MO rfl (mr_code hX) ?_
        refine g_iload_n (pc := 52) (dd d_Mod_codeOf 29 rfl) rfl ?_
        obtain ⟨c13, h⟩ := chk_e h
        refine g_iald (pc := 53) (dd d_Mod_codeOf 30 rfl) ar_A_code c13 ?_
        refine g_goto (pc := 54) (tgt := 63) (dd d_Mod_codeOf 31 rfl) (by decide) ?_
        refine g_drop [0, 1, 2, 3] ?_
        exact gb_Mod_codeOf_63 hX hk hT  h
    · replace h := ite_f h q10
      refine g_iconst (pc := 42) (v := 0) (dd d_Mod_codeOf 23 rfl) (by decide) ?_
      cases h
      exact g_iret (pc := 43) rfl (dd d_Mod_codeOf 24 rfl) hT
def b_Mod_nameValue_202 (I : IM)  (y0 : Int32) : Option (Int32) := some (y0)
set_option maxRecDepth 20000 in
set_option maxHeartbeats 4000000 in
theorem gb_Mod_nameValue_202 {Δ : Dx} {X : Lx} (hX : MX Δ X)   {I : IM} {Γ : Cx} (hk : Γ.k = 0) {r : Int32} (hT : Tg Δ Γ (some (.int r)) NN (I, X) 0 0)  {y0 : Int32} (h : b_Mod_nameValue_202 I  y0 = some r) : GG Δ m_Mod_nameValue Γ NN 0 0 (I, X) 202 [none, none, none] [.int (y0)] := by
  unfold b_Mod_nameValue_202 at h
  cases h
  exact g_iret (pc := 202) rfl (dd d_Mod_nameValue_1 15 rfl) hT
def b_Mod_nameValue_232 (I : IM)  (y0 : Int32) : Option (Int32) := some (y0)
set_option maxRecDepth 20000 in
set_option maxHeartbeats 4000000 in
theorem gb_Mod_nameValue_232 {Δ : Dx} {X : Lx} (hX : MX Δ X)   {I : IM} {Γ : Cx} (hk : Γ.k = 0) {r : Int32} (hT : Tg Δ Γ (some (.int r)) NN (I, X) 0 0)  {y0 : Int32} (h : b_Mod_nameValue_232 I  y0 = some r) : GG Δ m_Mod_nameValue Γ NN 0 0 (I, X) 232 [none, none, none] [.int (y0)] := by
  unfold b_Mod_nameValue_232 at h
  cases h
  exact g_iret (pc := 232) rfl (dd d_Mod_nameValue_1 30 rfl) hT
def b_Mod_nameValue_259 (I : IM)  (y0 : Int32) : Option (Int32) := some (y0)
set_option maxRecDepth 20000 in
set_option maxHeartbeats 4000000 in
theorem gb_Mod_nameValue_259 {Δ : Dx} {X : Lx} (hX : MX Δ X)   {I : IM} {Γ : Cx} (hk : Γ.k = 0) {r : Int32} (hT : Tg Δ Γ (some (.int r)) NN (I, X) 0 0)  {y0 : Int32} (h : b_Mod_nameValue_259 I  y0 = some r) : GG Δ m_Mod_nameValue Γ NN 0 0 (I, X) 259 [none, none, none] [.int (y0)] := by
  unfold b_Mod_nameValue_259 at h
  cases h
  exact g_iret (pc := 259) rfl (dd d_Mod_nameValue_1 44 rfl) hT
def b_Mod_nameValue_258 (I : IM)   : Option (Int32) := b_Mod_nameValue_259 I  0
set_option maxRecDepth 20000 in
set_option maxHeartbeats 4000000 in
theorem gb_Mod_nameValue_258 {Δ : Dx} {X : Lx} (hX : MX Δ X)   {I : IM} {Γ : Cx} (hk : Γ.k = 0) {r : Int32} (hT : Tg Δ Γ (some (.int r)) NN (I, X) 0 0)   (h : b_Mod_nameValue_258 I   = some r) : GG Δ m_Mod_nameValue Γ NN 0 0 (I, X) 258 [none, none, none] [] := by
  unfold b_Mod_nameValue_258 at h
  refine g_iconst (pc := 258) (v := 0) (dd d_Mod_nameValue_1 43 rfl) (by decide) ?_
  exact gb_Mod_nameValue_259 hX hk hT  h
def f_Mod_nameValue (x1 : Int32) (I : IM) : Option (Int32) := if (I MO 69 : Int32) = 0 then (if x1 = 0 then (some (I MO 43)) else (if x1 = 1 then (chk (inb (I MO 76) 8) <| some (I A_registerTags (I MO 76 : Int32).toNatClampNeg)) else (if x1 = 2 then (chk (inb (I MO 77) 8) <| some (I A_registerTags (I MO 77 : Int32).toNatClampNeg)) else (if x1 = 3 then (chk (inb (I MO 78) 8) <| some (I A_registerTags (I MO 78 : Int32).toNatClampNeg)) else (if x1 = 4 then (chk (inb (I MO 76) 8) <| some (I A_registers (I MO 76 : Int32).toNatClampNeg)) else (if x1 = 5 then (chk (inb (I MO 77) 8) <| some (I A_registers (I MO 77 : Int32).toNatClampNeg)) else (if x1 = 6 then (chk (inb (I MO 78) 8) <| some (I A_registers (I MO 78 : Int32).toNatClampNeg)) else (if x1 = 7 then (if (if (I MO 75 : Int32) = (11 : Int32) then 1 else (if (I MO 75 : Int32) = (12 : Int32) then 1 else 0) : Int32) = 0 then (b_Mod_nameValue_202 I  0) else (if (I MO 81 : Int32) = 0 then (b_Mod_nameValue_202 I  (-2)) else (chk (inb (I MO 80) 96) <| b_Mod_nameValue_202 I  (I A_held (I MO 80 : Int32).toNatClampNeg)))) else (if x1 = 8 then (if (if (I MO 75 : Int32) = (11 : Int32) then 1 else (if (I MO 75 : Int32) = (12 : Int32) then 1 else 0) : Int32) = 0 then (b_Mod_nameValue_232 I  0) else (if (I MO 81 : Int32) = 0 then (b_Mod_nameValue_232 I  (-2)) else (chk (inb (I MO 80) 96) <| b_Mod_nameValue_232 I  (I A_owners (I MO 80 : Int32).toNatClampNeg)))) else (if x1 = 9 then (if (I MO 75 : Int32) = (18 : Int32) then (if (I MO 45 : Int32) ≤ 0 then (b_Mod_nameValue_258 I  ) else (b_Mod_nameValue_259 I  (I A_inputTags (0 : Int32).toNatClampNeg))) else (b_Mod_nameValue_258 I  )) else (if x1 = 10 then (some (I MO 79)) else (if x1 = 11 then (chk (inb (I MO 42) 64) <| some (I A_codeTags (I MO 42 : Int32).toNatClampNeg)) else (if x1 = 12 then (some (I MO 44)) else (if x1 = 13 then (some (I MO 34)) else (some ((I MO 52) + 2)))))))))))))))) else (chk (inb x1 15) <| some (I A_caseValue x1.toNatClampNeg))
set_option maxRecDepth 20000 in
set_option maxHeartbeats 4000000 in
theorem ef_Mod_nameValue {Δ : Dx} {X : Lx} (hX : MX Δ X) {x1 : Int32}  {I : IM}  {r : Int32} (h : f_Mod_nameValue x1 I = some r) : Ev Δ 0 m_Mod_nameValue [.ref (Δ.ba + MO), .int x1] (I, X) (some (.int r)) (I, X) := by
  refine ev_of (by decide) (Nat.le_of_ble_eq_true rfl) (fun Γ hk hR hT => ?_)
  change GG Δ m_Mod_nameValue Γ NN 0 0 (I, X) 0 [some (.ref (Δ.ba + MO)), some (.int (x1)), none] []
  unfold f_Mod_nameValue at h
  refine g_aload_n (pc := 0) (dd d_Mod_nameValue 0 rfl) rfl ?_
  refine g_geti (pc := 1) (dd d_Mod_nameValue 1 rfl) f_Mod_489 ob_MO rfl ?_
  refine g_ifeq (pc := 4) (tgt := 14) (dd d_Mod_nameValue 2 rfl) (by decide) (fun q1 => ?_) (fun q1 => ?_)
  · replace h := ite_t h q1
    refine g_aload_n (pc := 14) (dd d_Mod_nameValue 8 rfl) rfl ?_
    refine g_geti (pc := 15) (dd d_Mod_nameValue 9 rfl) f_Mod_492 ob_MO rfl ?_
    refine g_bipush (pc := 18) (v := 11) (dd d_Mod_nameValue 10 rfl) (by decide) ?_
    suffices K20 : ∀ z : Int32, z = (if (I MO 75 : Int32) = (11 : Int32) then 1 else (if (I MO 75 : Int32) = (12 : Int32) then 1 else 0) : Int32) → GG Δ m_Mod_nameValue Γ NN 0 0 (I, X) 37 [some (.ref (Δ.ba + MO)), some (.int (x1)), none] [.int (z)] by
      refine g_icmpeq (pc := 20) (tgt := 32) (dd d_Mod_nameValue 11 rfl) (by decide) (fun q2 => ?_) (fun q2 => ?_)
      · skip
        refine g_iconst (pc := 32) (v := 1) (dd d_Mod_nameValue 16 rfl) (by decide) ?_
        refine g_goto (pc := 33) (tgt := 37) (dd d_Mod_nameValue 17 rfl) (by decide) ?_
        exact K20 _ (by rw [if_pos q2])
      · skip
        refine g_aload_n (pc := 23) (dd d_Mod_nameValue 12 rfl) rfl ?_
        refine g_geti (pc := 24) (dd d_Mod_nameValue 13 rfl) f_Mod_492 ob_MO rfl ?_
        refine g_bipush (pc := 27) (v := 12) (dd d_Mod_nameValue 14 rfl) (by decide) ?_
        refine g_icmpne (pc := 29) (tgt := 36) (dd d_Mod_nameValue 15 rfl) (by decide) (fun q3 => ?_) (fun q3 => ?_)
        · skip
          refine g_iconst (pc := 36) (v := 0) (dd d_Mod_nameValue 18 rfl) (by decide) ?_
          exact K20 _ (by rw [if_neg q2, if_neg q3])
        · skip
          refine g_iconst (pc := 32) (v := 1) (dd d_Mod_nameValue 16 rfl) (by decide) ?_
          refine g_goto (pc := 33) (tgt := 37) (dd d_Mod_nameValue 17 rfl) (by decide) ?_
          exact K20 _ (by rw [if_neg q2, if_pos q3])
    intro z hz
    subst hz
    refine g_istore_n (pc := 37) (dd d_Mod_nameValue 19 rfl) (by decide) ?_
    refine g_iload_n (pc := 38) (dd d_Mod_nameValue 20 rfl) rfl ?_
    refine g_tableC (pc := 39) (dd d_Mod_nameValue 21 rfl) (fun i off ho w4 => ?_) (by decide) (fun w4 => ⟨285, by decide, ?_⟩)
    · rcases i with _ | _ | _ | _ | _ | _ | _ | _ | _ | _ | _ | _ | _ | _ | i
      · obtain rfl : off = 69 := (Option.some.inj ho).symm
        refine ⟨108, by decide, ?_⟩
        replace w4 : x1 = 0 := Int32.toInt_inj.mp w4
        replace h := ite_t h w4
        refine g_aload_n (pc := 108) (dd d_Mod_nameValue 22 rfl) rfl ?_
        refine g_geti (pc := 109) (dd d_Mod_nameValue 23 rfl) f_Mod_394 ob_MO rfl ?_
        cases h
        exact g_iret (pc := 112) rfl (dd d_Mod_nameValue 24 rfl) hT
      · obtain rfl : off = 74 := (Option.some.inj ho).symm
        refine ⟨113, by decide, ?_⟩
        replace w4 : x1 = 1 := Int32.toInt_inj.mp w4
        replace h := ite_f h (by rw [w4]; decide)
        replace h := ite_t h w4
        refine g_aload_n (pc := 113) (dd d_Mod_nameValue 25 rfl) rfl ?_
        refine g_getr (pc := 114) (dd d_Mod_nameValue 26 rfl) f_Mod_77 ob_MO rfl (mr_registerTags hX) ?_
        refine g_aload_n (pc := 117) (dd d_Mod_nameValue 27 rfl) rfl ?_
        refine g_geti (pc := 118) (dd d_Mod_nameValue 28 rfl) f_Mod_495 ob_MO rfl ?_
        obtain ⟨c5, h⟩ := chk_e h
        refine g_iald (pc := 121) (dd d_Mod_nameValue 29 rfl) ar_A_registerTags c5 ?_
        cases h
        exact g_iret (pc := 122) rfl (dd d_Mod_nameValue 30 rfl) hT
      · obtain rfl : off = 84 := (Option.some.inj ho).symm
        refine ⟨123, by decide, ?_⟩
        replace w4 : x1 = 2 := Int32.toInt_inj.mp w4
        replace h := ite_f h (by rw [w4]; decide)
        replace h := ite_f h (by rw [w4]; decide)
        replace h := ite_t h w4
        refine g_aload_n (pc := 123) (dd d_Mod_nameValue 31 rfl) rfl ?_
        refine g_getr (pc := 124) (dd d_Mod_nameValue 32 rfl) f_Mod_77 ob_MO rfl (mr_registerTags hX) ?_
        refine g_aload_n (pc := 127) (dd d_Mod_nameValue 33 rfl) rfl ?_
        refine g_geti (pc := 128) (dd d_Mod_nameValue 34 rfl) f_Mod_498 ob_MO rfl ?_
        obtain ⟨c6, h⟩ := chk_e h
        refine g_iald (pc := 131) (dd d_Mod_nameValue 35 rfl) ar_A_registerTags c6 ?_
        cases h
        exact g_iret (pc := 132) rfl (dd d_Mod_nameValue 36 rfl) hT
      · obtain rfl : off = 94 := (Option.some.inj ho).symm
        refine ⟨133, by decide, ?_⟩
        replace w4 : x1 = 3 := Int32.toInt_inj.mp w4
        replace h := ite_f h (by rw [w4]; decide)
        replace h := ite_f h (by rw [w4]; decide)
        replace h := ite_f h (by rw [w4]; decide)
        replace h := ite_t h w4
        refine g_aload_n (pc := 133) (dd d_Mod_nameValue 37 rfl) rfl ?_
        refine g_getr (pc := 134) (dd d_Mod_nameValue 38 rfl) f_Mod_77 ob_MO rfl (mr_registerTags hX) ?_
        refine g_aload_n (pc := 137) (dd d_Mod_nameValue 39 rfl) rfl ?_
        refine g_geti (pc := 138) (dd d_Mod_nameValue 40 rfl) f_Mod_501 ob_MO rfl ?_
        obtain ⟨c7, h⟩ := chk_e h
        refine g_iald (pc := 141) (dd d_Mod_nameValue 41 rfl) ar_A_registerTags c7 ?_
        cases h
        exact g_iret (pc := 142) rfl (dd d_Mod_nameValue 42 rfl) hT
      · obtain rfl : off = 104 := (Option.some.inj ho).symm
        refine ⟨143, by decide, ?_⟩
        replace w4 : x1 = 4 := Int32.toInt_inj.mp w4
        replace h := ite_f h (by rw [w4]; decide)
        replace h := ite_f h (by rw [w4]; decide)
        replace h := ite_f h (by rw [w4]; decide)
        replace h := ite_f h (by rw [w4]; decide)
        replace h := ite_t h w4
        refine g_aload_n (pc := 143) (dd d_Mod_nameValue 43 rfl) rfl ?_
        refine g_getr (pc := 144) (dd d_Mod_nameValue 44 rfl) f_Mod_74 ob_MO rfl (mr_registers hX) ?_
        refine g_aload_n (pc := 147) (dd d_Mod_nameValue 45 rfl) rfl ?_
        refine g_geti (pc := 148) (dd d_Mod_nameValue 46 rfl) f_Mod_495 ob_MO rfl ?_
        obtain ⟨c8, h⟩ := chk_e h
        refine g_iald (pc := 151) (dd d_Mod_nameValue 47 rfl) ar_A_registers c8 ?_
        cases h
        exact g_iret (pc := 152) rfl (dd d_Mod_nameValue 48 rfl) hT
      · obtain rfl : off = 114 := (Option.some.inj ho).symm
        refine ⟨153, by decide, ?_⟩
        replace w4 : x1 = 5 := Int32.toInt_inj.mp w4
        replace h := ite_f h (by rw [w4]; decide)
        replace h := ite_f h (by rw [w4]; decide)
        replace h := ite_f h (by rw [w4]; decide)
        replace h := ite_f h (by rw [w4]; decide)
        replace h := ite_f h (by rw [w4]; decide)
        replace h := ite_t h w4
        refine g_aload_n (pc := 153) (dd d_Mod_nameValue 49 rfl) rfl ?_
        refine g_getr (pc := 154) (dd d_Mod_nameValue 50 rfl) f_Mod_74 ob_MO rfl (mr_registers hX) ?_
        refine g_aload_n (pc := 157) (dd d_Mod_nameValue 51 rfl) rfl ?_
        refine g_geti (pc := 158) (dd d_Mod_nameValue 52 rfl) f_Mod_498 ob_MO rfl ?_
        obtain ⟨c9, h⟩ := chk_e h
        refine g_iald (pc := 161) (dd d_Mod_nameValue 53 rfl) ar_A_registers c9 ?_
        cases h
        exact g_iret (pc := 162) rfl (dd d_Mod_nameValue 54 rfl) hT
      · obtain rfl : off = 124 := (Option.some.inj ho).symm
        refine ⟨163, by decide, ?_⟩
        replace w4 : x1 = 6 := Int32.toInt_inj.mp w4
        replace h := ite_f h (by rw [w4]; decide)
        replace h := ite_f h (by rw [w4]; decide)
        replace h := ite_f h (by rw [w4]; decide)
        replace h := ite_f h (by rw [w4]; decide)
        replace h := ite_f h (by rw [w4]; decide)
        replace h := ite_f h (by rw [w4]; decide)
        replace h := ite_t h w4
        refine g_aload_n (pc := 163) (dd d_Mod_nameValue 55 rfl) rfl ?_
        refine g_getr (pc := 164) (dd d_Mod_nameValue 56 rfl) f_Mod_74 ob_MO rfl (mr_registers hX) ?_
        refine g_aload_n (pc := 167) (dd d_Mod_nameValue 57 rfl) rfl ?_
        refine g_geti (pc := 168) (dd d_Mod_nameValue 58 rfl) f_Mod_501 ob_MO rfl ?_
        obtain ⟨c10, h⟩ := chk_e h
        refine g_iald (pc := 171) (dd d_Mod_nameValue 59 rfl) ar_A_registers c10 ?_
        cases h
        exact g_iret (pc := 172) rfl (dd d_Mod_nameValue_1 0 rfl) hT
      · obtain rfl : off = 134 := (Option.some.inj ho).symm
        refine ⟨173, by decide, ?_⟩
        replace w4 : x1 = 7 := Int32.toInt_inj.mp w4
        replace h := ite_f h (by rw [w4]; decide)
        replace h := ite_f h (by rw [w4]; decide)
        replace h := ite_f h (by rw [w4]; decide)
        replace h := ite_f h (by rw [w4]; decide)
        replace h := ite_f h (by rw [w4]; decide)
        replace h := ite_f h (by rw [w4]; decide)
        replace h := ite_f h (by rw [w4]; decide)
        replace h := ite_t h w4
        refine g_iload_n (pc := 173) (dd d_Mod_nameValue_1 1 rfl) rfl ?_
        refine g_ifne (pc := 174) (tgt := 181) (dd d_Mod_nameValue_1 2 rfl) (by decide) (fun q11 => ?_) (fun q11 => ?_)
        · replace h := ite_f h q11
          refine g_aload_n (pc := 181) (dd d_Mod_nameValue_1 5 rfl) rfl ?_
          refine g_geti (pc := 182) (dd d_Mod_nameValue_1 6 rfl) f_Mod_504 ob_MO rfl ?_
          refine g_ifeq (pc := 185) (tgt := 200) (dd d_Mod_nameValue_1 7 rfl) (by decide) (fun q12 => ?_) (fun q12 => ?_)
          · replace h := ite_t h q12
            refine g_bipush (pc := 200) (v := (-2)) (dd d_Mod_nameValue_1 14 rfl) (by decide) ?_
            refine g_drop [0, 1, 2] ?_
            exact gb_Mod_nameValue_202 hX hk hT  h
          · replace h := ite_f h q12
            refine g_aload_n (pc := 188) (dd d_Mod_nameValue_1 8 rfl) rfl ?_
            refine g_getr (pc := 189) (dd d_Mod_nameValue_1 9 rfl) f_Mod_68 ob_MO rfl (mr_held hX) ?_
            refine g_aload_n (pc := 192) (dd d_Mod_nameValue_1 10 rfl) rfl ?_
            refine g_geti (pc := 193) (dd d_Mod_nameValue_1 11 rfl) f_Mod_507 ob_MO rfl ?_
            obtain ⟨c13, h⟩ := chk_e h
            refine g_iald (pc := 196) (dd d_Mod_nameValue_1 12 rfl) ar_A_held c13 ?_
            refine g_goto (pc := 197) (tgt := 202) (dd d_Mod_nameValue_1 13 rfl) (by decide) ?_
            refine g_drop [0, 1, 2] ?_
            exact gb_Mod_nameValue_202 hX hk hT  h
        · replace h := ite_t h q11
          refine g_iconst (pc := 177) (v := 0) (dd d_Mod_nameValue_1 3 rfl) (by decide) ?_
          refine g_goto (pc := 178) (tgt := 202) (dd d_Mod_nameValue_1 4 rfl) (by decide) ?_
          refine g_drop [0, 1, 2] ?_
          exact gb_Mod_nameValue_202 hX hk hT  h
      · obtain rfl : off = 164 := (Option.some.inj ho).symm
        refine ⟨203, by decide, ?_⟩
        replace w4 : x1 = 8 := Int32.toInt_inj.mp w4
        replace h := ite_f h (by rw [w4]; decide)
        replace h := ite_f h (by rw [w4]; decide)
        replace h := ite_f h (by rw [w4]; decide)
        replace h := ite_f h (by rw [w4]; decide)
        replace h := ite_f h (by rw [w4]; decide)
        replace h := ite_f h (by rw [w4]; decide)
        replace h := ite_f h (by rw [w4]; decide)
        replace h := ite_f h (by rw [w4]; decide)
        replace h := ite_t h w4
        refine g_iload_n (pc := 203) (dd d_Mod_nameValue_1 16 rfl) rfl ?_
        refine g_ifne (pc := 204) (tgt := 211) (dd d_Mod_nameValue_1 17 rfl) (by decide) (fun q14 => ?_) (fun q14 => ?_)
        · replace h := ite_f h q14
          refine g_aload_n (pc := 211) (dd d_Mod_nameValue_1 20 rfl) rfl ?_
          refine g_geti (pc := 212) (dd d_Mod_nameValue_1 21 rfl) f_Mod_504 ob_MO rfl ?_
          refine g_ifeq (pc := 215) (tgt := 230) (dd d_Mod_nameValue_1 22 rfl) (by decide) (fun q15 => ?_) (fun q15 => ?_)
          · replace h := ite_t h q15
            refine g_bipush (pc := 230) (v := (-2)) (dd d_Mod_nameValue_1 29 rfl) (by decide) ?_
            refine g_drop [0, 1, 2] ?_
            exact gb_Mod_nameValue_232 hX hk hT  h
          · replace h := ite_f h q15
            refine g_aload_n (pc := 218) (dd d_Mod_nameValue_1 23 rfl) rfl ?_
            refine g_getr (pc := 219) (dd d_Mod_nameValue_1 24 rfl) f_Mod_71 ob_MO rfl (mr_owners hX) ?_
            refine g_aload_n (pc := 222) (dd d_Mod_nameValue_1 25 rfl) rfl ?_
            refine g_geti (pc := 223) (dd d_Mod_nameValue_1 26 rfl) f_Mod_507 ob_MO rfl ?_
            obtain ⟨c16, h⟩ := chk_e h
            refine g_iald (pc := 226) (dd d_Mod_nameValue_1 27 rfl) ar_A_owners c16 ?_
            refine g_goto (pc := 227) (tgt := 232) (dd d_Mod_nameValue_1 28 rfl) (by decide) ?_
            refine g_drop [0, 1, 2] ?_
            exact gb_Mod_nameValue_232 hX hk hT  h
        · replace h := ite_t h q14
          refine g_iconst (pc := 207) (v := 0) (dd d_Mod_nameValue_1 18 rfl) (by decide) ?_
          refine g_goto (pc := 208) (tgt := 232) (dd d_Mod_nameValue_1 19 rfl) (by decide) ?_
          refine g_drop [0, 1, 2] ?_
          exact gb_Mod_nameValue_232 hX hk hT  h
      · obtain rfl : off = 194 := (Option.some.inj ho).symm
        refine ⟨233, by decide, ?_⟩
        replace w4 : x1 = 9 := Int32.toInt_inj.mp w4
        replace h := ite_f h (by rw [w4]; decide)
        replace h := ite_f h (by rw [w4]; decide)
        replace h := ite_f h (by rw [w4]; decide)
        replace h := ite_f h (by rw [w4]; decide)
        replace h := ite_f h (by rw [w4]; decide)
        replace h := ite_f h (by rw [w4]; decide)
        replace h := ite_f h (by rw [w4]; decide)
        replace h := ite_f h (by rw [w4]; decide)
        replace h := ite_f h (by rw [w4]; decide)
        replace h := ite_t h w4
        refine g_aload_n (pc := 233) (dd d_Mod_nameValue_1 31 rfl) rfl ?_
        refine g_geti (pc := 234) (dd d_Mod_nameValue_1 32 rfl) f_Mod_492 ob_MO rfl ?_
        refine g_bipush (pc := 237) (v := 18) (dd d_Mod_nameValue_1 33 rfl) (by decide) ?_
        refine g_icmpne (pc := 239) (tgt := 258) (dd d_Mod_nameValue_1 34 rfl) (by decide) (fun q17 => ?_) (fun q17 => ?_)
        · replace h := ite_f h q17
          refine g_drop [0, 1, 2] ?_
          exact gb_Mod_nameValue_258 hX hk hT  h
        · replace h := ite_t h q17
          refine g_aload_n (pc := 242) (dd d_Mod_nameValue_1 35 rfl) rfl ?_
          refine g_geti (pc := 243) (dd d_Mod_nameValue_1 36 rfl) f_Mod_400 ob_MO rfl ?_
          refine g_ifle (pc := 246) (tgt := 258) (dd d_Mod_nameValue_1 37 rfl) (by decide) (fun q18 => ?_) (fun q18 => ?_)
          · replace h := ite_t h q18
            refine g_drop [0, 1, 2] ?_
            exact gb_Mod_nameValue_258 hX hk hT  h
          · replace h := ite_f h q18
            refine g_aload_n (pc := 249) (dd d_Mod_nameValue_1 38 rfl) rfl ?_
            refine g_getr (pc := 250) (dd d_Mod_nameValue_1 39 rfl) f_Mod_83 ob_MO rfl (mr_inputTags hX) ?_
            refine g_iconst (pc := 253) (v := 0) (dd d_Mod_nameValue_1 40 rfl) (by decide) ?_
            refine g_iald (pc := 254) (dd d_Mod_nameValue_1 41 rfl) ar_A_inputTags (by rw [vp_in_iff]; decide) ?_
            refine g_goto (pc := 255) (tgt := 259) (dd d_Mod_nameValue_1 42 rfl) (by decide) ?_
            refine g_drop [0, 1, 2] ?_
            exact gb_Mod_nameValue_259 hX hk hT  h
      · obtain rfl : off = 221 := (Option.some.inj ho).symm
        refine ⟨260, by decide, ?_⟩
        replace w4 : x1 = 10 := Int32.toInt_inj.mp w4
        replace h := ite_f h (by rw [w4]; decide)
        replace h := ite_f h (by rw [w4]; decide)
        replace h := ite_f h (by rw [w4]; decide)
        replace h := ite_f h (by rw [w4]; decide)
        replace h := ite_f h (by rw [w4]; decide)
        replace h := ite_f h (by rw [w4]; decide)
        replace h := ite_f h (by rw [w4]; decide)
        replace h := ite_f h (by rw [w4]; decide)
        replace h := ite_f h (by rw [w4]; decide)
        replace h := ite_f h (by rw [w4]; decide)
        replace h := ite_t h w4
        refine g_aload_n (pc := 260) (dd d_Mod_nameValue_1 45 rfl) rfl ?_
        refine g_geti (pc := 261) (dd d_Mod_nameValue_1 46 rfl) f_Mod_510 ob_MO rfl ?_
        cases h
        exact g_iret (pc := 264) rfl (dd d_Mod_nameValue_1 47 rfl) hT
      · obtain rfl : off = 226 := (Option.some.inj ho).symm
        refine ⟨265, by decide, ?_⟩
        replace w4 : x1 = 11 := Int32.toInt_inj.mp w4
        replace h := ite_f h (by rw [w4]; decide)
        replace h := ite_f h (by rw [w4]; decide)
        replace h := ite_f h (by rw [w4]; decide)
        replace h := ite_f h (by rw [w4]; decide)
        replace h := ite_f h (by rw [w4]; decide)
        replace h := ite_f h (by rw [w4]; decide)
        replace h := ite_f h (by rw [w4]; decide)
        replace h := ite_f h (by rw [w4]; decide)
        replace h := ite_f h (by rw [w4]; decide)
        replace h := ite_f h (by rw [w4]; decide)
        replace h := ite_f h (by rw [w4]; decide)
        replace h := ite_t h w4
        refine g_aload_n (pc := 265) (dd d_Mod_nameValue_1 48 rfl) rfl ?_
        refine g_getr (pc := 266) (dd d_Mod_nameValue_1 49 rfl) f_Mod_62 ob_MO rfl (mr_codeTags hX) ?_
        refine g_aload_n (pc := 269) (dd d_Mod_nameValue_1 50 rfl) rfl ?_
        refine g_geti (pc := 270) (dd d_Mod_nameValue_1 51 rfl) f_Mod_391 ob_MO rfl ?_
        obtain ⟨c19, h⟩ := chk_e h
        refine g_iald (pc := 273) (dd d_Mod_nameValue_1 52 rfl) ar_A_codeTags c19 ?_
        cases h
        exact g_iret (pc := 274) rfl (dd d_Mod_nameValue_1 53 rfl) hT
      · obtain rfl : off = 236 := (Option.some.inj ho).symm
        refine ⟨275, by decide, ?_⟩
        replace w4 : x1 = 12 := Int32.toInt_inj.mp w4
        replace h := ite_f h (by rw [w4]; decide)
        replace h := ite_f h (by rw [w4]; decide)
        replace h := ite_f h (by rw [w4]; decide)
        replace h := ite_f h (by rw [w4]; decide)
        replace h := ite_f h (by rw [w4]; decide)
        replace h := ite_f h (by rw [w4]; decide)
        replace h := ite_f h (by rw [w4]; decide)
        replace h := ite_f h (by rw [w4]; decide)
        replace h := ite_f h (by rw [w4]; decide)
        replace h := ite_f h (by rw [w4]; decide)
        replace h := ite_f h (by rw [w4]; decide)
        replace h := ite_f h (by rw [w4]; decide)
        replace h := ite_t h w4
        refine g_aload_n (pc := 275) (dd d_Mod_nameValue_1 54 rfl) rfl ?_
        refine g_geti (pc := 276) (dd d_Mod_nameValue_1 55 rfl) f_Mod_397 ob_MO rfl ?_
        cases h
        exact g_iret (pc := 279) rfl (dd d_Mod_nameValue_1 56 rfl) hT
      · obtain rfl : off = 241 := (Option.some.inj ho).symm
        refine ⟨280, by decide, ?_⟩
        replace w4 : x1 = 13 := Int32.toInt_inj.mp w4
        replace h := ite_f h (by rw [w4]; decide)
        replace h := ite_f h (by rw [w4]; decide)
        replace h := ite_f h (by rw [w4]; decide)
        replace h := ite_f h (by rw [w4]; decide)
        replace h := ite_f h (by rw [w4]; decide)
        replace h := ite_f h (by rw [w4]; decide)
        replace h := ite_f h (by rw [w4]; decide)
        replace h := ite_f h (by rw [w4]; decide)
        replace h := ite_f h (by rw [w4]; decide)
        replace h := ite_f h (by rw [w4]; decide)
        replace h := ite_f h (by rw [w4]; decide)
        replace h := ite_f h (by rw [w4]; decide)
        replace h := ite_f h (by rw [w4]; decide)
        replace h := ite_t h w4
        refine g_aload_n (pc := 280) (dd d_Mod_nameValue_1 57 rfl) rfl ?_
        refine g_geti (pc := 281) (dd d_Mod_nameValue_1 58 rfl) f_Mod_388 ob_MO rfl ?_
        cases h
        exact g_iret (pc := 284) rfl (dd d_Mod_nameValue_1 59 rfl) hT
      · cases ho
    · skip
      replace w4 : x1.toInt < 0 ∨ 13 < x1.toInt := w4
      replace h := ite_f h (fun e => by rw [e] at w4; revert w4; decide)
      replace h := ite_f h (fun e => by rw [e] at w4; revert w4; decide)
      replace h := ite_f h (fun e => by rw [e] at w4; revert w4; decide)
      replace h := ite_f h (fun e => by rw [e] at w4; revert w4; decide)
      replace h := ite_f h (fun e => by rw [e] at w4; revert w4; decide)
      replace h := ite_f h (fun e => by rw [e] at w4; revert w4; decide)
      replace h := ite_f h (fun e => by rw [e] at w4; revert w4; decide)
      replace h := ite_f h (fun e => by rw [e] at w4; revert w4; decide)
      replace h := ite_f h (fun e => by rw [e] at w4; revert w4; decide)
      replace h := ite_f h (fun e => by rw [e] at w4; revert w4; decide)
      replace h := ite_f h (fun e => by rw [e] at w4; revert w4; decide)
      replace h := ite_f h (fun e => by rw [e] at w4; revert w4; decide)
      replace h := ite_f h (fun e => by rw [e] at w4; revert w4; decide)
      replace h := ite_f h (fun e => by rw [e] at w4; revert w4; decide)
      refine g_aload_n (pc := 285) (dd d_Mod_nameValue_2 0 rfl) rfl ?_
      refine g_geti (pc := 286) (dd d_Mod_nameValue_2 1 rfl) f_Mod_412 ob_MO rfl ?_
      refine g_iconst (pc := 289) (v := 2) (dd d_Mod_nameValue_2 2 rfl) (by decide) ?_
      refine g_iadd (pc := 290) (dd d_Mod_nameValue_2 3 rfl) ?_
      cases h
      exact g_iret (pc := 291) rfl (dd d_Mod_nameValue_2 4 rfl) hT
  · replace h := ite_f h q1
    refine g_aload_n (pc := 7) (dd d_Mod_nameValue 3 rfl) rfl ?_
    refine g_getr (pc := 8) (dd d_Mod_nameValue 4 rfl) f_Mod_117 ob_MO rfl (mr_caseValue hX) ?_
    refine g_iload_n (pc := 11) (dd d_Mod_nameValue 5 rfl) rfl ?_
    obtain ⟨c20, h⟩ := chk_e h
    refine g_iald (pc := 12) (dd d_Mod_nameValue 6 rfl) ar_A_caseValue c20 ?_
    cases h
    exact g_iret (pc := 13) rfl (dd d_Mod_nameValue 7 rfl) hT
def l_Mod_baseOf_5 (n : Nat) (I : IM)  : Nat → Int32 → Int32 → Int32 → Option (Int32)
  | 0, _, _, _ => none
  | f + 1, x1, x2, x3 => if x3 < 0 then (some (x2)) else (chk (inb x3 96) <| (l_Mod_baseOf_5 n I  f) x1 (if (I A_owners x3.toNatClampNeg : Int32) = x1 then x3 else x2) (x3 + (-1)))
set_option maxRecDepth 20000 in
set_option maxHeartbeats 4000000 in
theorem gl_Mod_baseOf_5 {Δ : Dx} {X : Lx} (hX : MX Δ X)   {n : Nat} {I : IM} {Γ : Cx} (hk : Γ.k = 0) {r : Int32} (hT : Tg Δ Γ (some (.int r)) NN (I, X) 0 0)  : ∀ (f : Nat) (x1 : Int32) (x2 : Int32) (x3 : Int32), l_Mod_baseOf_5 n I  f x1 x2 x3 = some r → GG Δ m_Mod_baseOf Γ NN 0 0 (I, X) 5 [some (.ref (Δ.ba + MO)), some (.int (x1)), some (.int (x2)), some (.int (x3))] []
  | 0, _, _, _, h => by cases h
  | f + 1, x1, x2, x3, h => by
    have ih := gl_Mod_baseOf_5 (n := n) hX hk hT  f
    rw [l_Mod_baseOf_5] at h
    refine g_iload_n (pc := 5) (dd d_Mod_baseOf 4 rfl) rfl ?_
    refine g_iflt (pc := 6) (tgt := 31) (dd d_Mod_baseOf 5 rfl) (by decide) (fun q1 => ?_) (fun q1 => ?_)
    · replace h := ite_t h q1
      refine g_iload_n (pc := 31) (dd d_Mod_baseOf 18 rfl) rfl ?_
      cases h
      exact g_iret (pc := 32) rfl (dd d_Mod_baseOf 19 rfl) hT
    · replace h := ite_f h q1
      refine g_aload_n (pc := 9) (dd d_Mod_baseOf 6 rfl) rfl ?_
      refine g_getr (pc := 10) (dd d_Mod_baseOf 7 rfl) f_Mod_71 ob_MO rfl (mr_owners hX) ?_
      refine g_iload_n (pc := 13) (dd d_Mod_baseOf 8 rfl) rfl ?_
      obtain ⟨c2, h⟩ := chk_e h
      refine g_iald (pc := 14) (dd d_Mod_baseOf 9 rfl) ar_A_owners c2 ?_
      refine g_iload_n (pc := 15) (dd d_Mod_baseOf 10 rfl) rfl ?_
      suffices K16 : ∀ z : Int32, z = (if (I A_owners x3.toNatClampNeg : Int32) = x1 then x3 else x2 : Int32) → GG Δ m_Mod_baseOf Γ NN 0 0 (I, X) 24 [some (.ref (Δ.ba + MO)), some (.int (x1)), some (.int (x2)), some (.int (x3))] [.int (z)] by
        refine g_icmpne (pc := 16) (tgt := 23) (dd d_Mod_baseOf 11 rfl) (by decide) (fun q3 => ?_) (fun q3 => ?_)
        · skip
          refine g_iload_n (pc := 23) (dd d_Mod_baseOf 14 rfl) rfl ?_
          exact K16 _ (by rw [if_neg q3])
        · skip
          refine g_iload_n (pc := 19) (dd d_Mod_baseOf 12 rfl) rfl ?_
          refine g_goto (pc := 20) (tgt := 24) (dd d_Mod_baseOf 13 rfl) (by decide) ?_
          exact K16 _ (by rw [if_pos q3])
      intro z hz
      subst hz
      refine g_istore_n (pc := 24) (dd d_Mod_baseOf 15 rfl) (by decide) ?_
      refine g_iincW (pc := 25) (w := (-1)) (dd d_Mod_baseOf 16 rfl) rfl (by decide) (by decide) ?_
      refine g_goto (pc := 28) (tgt := 5) (dd d_Mod_baseOf 17 rfl) (by decide) ?_
      exact ih _ _ _ h
def f_Mod_baseOf (n : Nat) (x1 : Int32) (I : IM) : Option (Int32) := l_Mod_baseOf_5 n I  n x1 (-1) 95
set_option maxRecDepth 20000 in
set_option maxHeartbeats 4000000 in
theorem ef_Mod_baseOf {Δ : Dx} {X : Lx} (hX : MX Δ X) {n : Nat} {x1 : Int32}  {I : IM}  {r : Int32} (h : f_Mod_baseOf n x1 I = some r) : Ev Δ 0 m_Mod_baseOf [.ref (Δ.ba + MO), .int x1] (I, X) (some (.int r)) (I, X) := by
  refine ev_of (by decide) (Nat.le_of_ble_eq_true rfl) (fun Γ hk hR hT => ?_)
  change GG Δ m_Mod_baseOf Γ NN 0 0 (I, X) 0 [some (.ref (Δ.ba + MO)), some (.int (x1)), none, none] []
  unfold f_Mod_baseOf at h
  refine g_iconst (pc := 0) (v := (-1)) (dd d_Mod_baseOf 0 rfl) (by decide) ?_
  refine g_istore_n (pc := 1) (dd d_Mod_baseOf 1 rfl) (by decide) ?_
  refine g_bipush (pc := 2) (v := 95) (dd d_Mod_baseOf 2 rfl) (by decide) ?_
  refine g_istore_n (pc := 4) (dd d_Mod_baseOf 3 rfl) (by decide) ?_
  exact gl_Mod_baseOf_5 hX hk hT  _ _ _ _ h
def b_Mod_pairNumber_36 (n : Nat) (H2 : Int32 → Int32 → Int32 → IM → Option (Int32 × IM)) (x1 : Int32) (x2 : Int32) (x3 : Int32) (I : IM) : Option (Int32 × IM) := H2 x1 x2 (x3 + 1) I
set_option maxRecDepth 20000 in
set_option maxHeartbeats 4000000 in
theorem gb_Mod_pairNumber_36 {Δ : Dx} {X : Lx} (hX : MX Δ X)   {n : Nat} {Γ : Cx} (hk : Γ.k = 0) {r : Int32 × IM} (hT : Tg Δ Γ (some (.int r.1)) NN (r.2, X) 0 0) {H2 : Int32 → Int32 → Int32 → IM → Option (Int32 × IM)} (hH2 : ∀ (x1 : Int32) (x2 : Int32) (x3 : Int32) (I : IM), H2 x1 x2 x3 I = some r → GG Δ m_Mod_pairNumber Γ NN 0 0 (I, X) 2 [some (.ref (Δ.ba + MO)), some (.int (x1)), some (.int (x2)), some (.int (x3))] []) {x1 : Int32} {x2 : Int32} {x3 : Int32} {I : IM} (h : b_Mod_pairNumber_36 n H2 x1 x2 x3 I = some r) : GG Δ m_Mod_pairNumber Γ NN 0 0 (I, X) 36 [some (.ref (Δ.ba + MO)), some (.int (x1)), some (.int (x2)), some (.int (x3))] [] := by
  unfold b_Mod_pairNumber_36 at h
  refine g_iincW (pc := 36) (w := 1) (dd d_Mod_pairNumber 22 rfl) rfl (by decide) (by decide) ?_
  refine g_goto (pc := 39) (tgt := 2) (dd d_Mod_pairNumber 23 rfl) (by decide) ?_
  exact hH2 _ _ _ _ h
def l_Mod_pairNumber_2 (n : Nat)  : Nat → Int32 → Int32 → Int32 → IM → Option (Int32 × IM)
  | 0, _, _, _, _ => none
  | f + 1, x1, x2, x3, I => if (I MO 55 : Int32) ≤ x3 then (if (I MO 55 : Int32) = (60 : Int32) then (lt (up I MO 82 (4)) fun I8 => some (0, I8)) else (chk (inb (I MO 55) 60) <| lt (up I A_firsts (I MO 55 : Int32).toNatClampNeg (x1)) fun I4 => chk (inb (I4 MO 55) 60) <| lt (up I4 A_seconds (I4 MO 55 : Int32).toNatClampNeg (x2)) fun I6 => lt (up I6 MO 55 ((I6 MO 55) + 1)) fun I7 => some ((1000000 + (I7 MO 55)) - 1, I7))) else (chk (inb x3 60) <| if (I A_firsts x3.toNatClampNeg : Int32) = x1 then (if (I A_seconds x3.toNatClampNeg : Int32) = x2 then (some (1000000 + x3, I)) else (b_Mod_pairNumber_36 n (l_Mod_pairNumber_2 n  f) x1 x2 x3 I)) else (b_Mod_pairNumber_36 n (l_Mod_pairNumber_2 n  f) x1 x2 x3 I))
set_option maxRecDepth 20000 in
set_option maxHeartbeats 4000000 in
theorem gl_Mod_pairNumber_2 {Δ : Dx} {X : Lx} (hX : MX Δ X)   {n : Nat} {Γ : Cx} (hk : Γ.k = 0) {r : Int32 × IM} (hT : Tg Δ Γ (some (.int r.1)) NN (r.2, X) 0 0)  : ∀ (f : Nat) (x1 : Int32) (x2 : Int32) (x3 : Int32) (I : IM), l_Mod_pairNumber_2 n  f x1 x2 x3 I = some r → GG Δ m_Mod_pairNumber Γ NN 0 0 (I, X) 2 [some (.ref (Δ.ba + MO)), some (.int (x1)), some (.int (x2)), some (.int (x3))] []
  | 0, _, _, _, _, h => by cases h
  | f + 1, x1, x2, x3, I, h => by
    have ih := gl_Mod_pairNumber_2 (n := n) hX hk hT  f
    rw [l_Mod_pairNumber_2] at h
    refine g_iload_n (pc := 2) (dd d_Mod_pairNumber 2 rfl) rfl ?_
    refine g_aload_n (pc := 3) (dd d_Mod_pairNumber 3 rfl) rfl ?_
    refine g_geti (pc := 4) (dd d_Mod_pairNumber 4 rfl) f_Mod_415 ob_MO rfl ?_
    refine g_icmpge (pc := 7) (tgt := 42) (dd d_Mod_pairNumber 5 rfl) (by decide) (fun q1 => ?_) (fun q1 => ?_)
    · replace h := ite_t h q1
      refine g_aload_n (pc := 42) (dd d_Mod_pairNumber 24 rfl) rfl ?_
      refine g_geti (pc := 43) (dd d_Mod_pairNumber 25 rfl) f_Mod_415 ob_MO rfl ?_
      refine g_bipush (pc := 46) (v := 60) (dd d_Mod_pairNumber 26 rfl) (by decide) ?_
      refine g_icmpne (pc := 48) (tgt := 58) (dd d_Mod_pairNumber 27 rfl) (by decide) (fun q2 => ?_) (fun q2 => ?_)
      · replace h := ite_f h q2
        refine g_aload_n (pc := 58) (dd d_Mod_pairNumber 33 rfl) rfl ?_
        refine g_getr (pc := 59) (dd d_Mod_pairNumber 34 rfl) f_Mod_89 ob_MO rfl (mr_firsts hX) ?_
        refine g_aload_n (pc := 62) (dd d_Mod_pairNumber 35 rfl) rfl ?_
        refine g_geti (pc := 63) (dd d_Mod_pairNumber 36 rfl) f_Mod_415 ob_MO rfl ?_
        refine g_iload_n (pc := 66) (dd d_Mod_pairNumber 37 rfl) rfl ?_
        obtain ⟨c3, h⟩ := chk_e h
        refine g_iastN (pc := 67) (dd d_Mod_pairNumber 38 rfl) ar_A_firsts c3 (fun I4 hI4 => ?_)
        replace h := lt_e h hI4
        refine g_aload_n (pc := 68) (dd d_Mod_pairNumber 39 rfl) rfl ?_
        refine g_getr (pc := 69) (dd d_Mod_pairNumber 40 rfl) f_Mod_92 ob_MO rfl (mr_seconds hX) ?_
        refine g_aload_n (pc := 72) (dd d_Mod_pairNumber 41 rfl) rfl ?_
        refine g_geti (pc := 73) (dd d_Mod_pairNumber 42 rfl) f_Mod_415 ob_MO rfl ?_
        refine g_iload_n (pc := 76) (dd d_Mod_pairNumber 43 rfl) rfl ?_
        obtain ⟨c5, h⟩ := chk_e h
        refine g_iastN (pc := 77) (dd d_Mod_pairNumber 44 rfl) ar_A_seconds c5 (fun I6 hI6 => ?_)
        replace h := lt_e h hI6
        refine g_aload_n (pc := 78) (dd d_Mod_pairNumber 45 rfl) rfl ?_
        refine g_dup (pc := 79) (dd d_Mod_pairNumber 46 rfl) rfl ?_
        refine g_geti (pc := 80) (dd d_Mod_pairNumber 47 rfl) f_Mod_415 ob_MO rfl ?_
        refine g_iconst (pc := 83) (v := 1) (dd d_Mod_pairNumber 48 rfl) (by decide) ?_
        refine g_iadd (pc := 84) (dd d_Mod_pairNumber 49 rfl) ?_
        refine g_putiN (pc := 85) (dd d_Mod_pairNumber 50 rfl) f_Mod_415 fm_Mod_55 ob_MO rfl (fun I7 hI7 => ?_)
        replace h := lt_e h hI7
        refine g_ldcw (pc := 88) (dd d_Mod_pairNumber 51 rfl) c_Mod_513 ?_
        refine g_aload_n (pc := 91) (dd d_Mod_pairNumber 52 rfl) rfl ?_
        refine g_geti (pc := 92) (dd d_Mod_pairNumber 53 rfl) f_Mod_415 ob_MO rfl ?_
        refine g_iadd (pc := 95) (dd d_Mod_pairNumber 54 rfl) ?_
        refine g_iconst (pc := 96) (v := 1) (dd d_Mod_pairNumber 55 rfl) (by decide) ?_
        refine g_isub (pc := 97) (dd d_Mod_pairNumber 56 rfl) ?_
        cases h
        exact g_iret (pc := 98) rfl (dd d_Mod_pairNumber 57 rfl) hT
      · replace h := ite_t h q2
        refine g_aload_n (pc := 51) (dd d_Mod_pairNumber 28 rfl) rfl ?_
        refine g_iconst (pc := 52) (v := 4) (dd d_Mod_pairNumber 29 rfl) (by decide) ?_
        refine g_putiN (pc := 53) (dd d_Mod_pairNumber 30 rfl) f_Mod_514 fm_Mod_82 ob_MO rfl (fun I8 hI8 => ?_)
        replace h := lt_e h hI8
        refine g_iconst (pc := 56) (v := 0) (dd d_Mod_pairNumber 31 rfl) (by decide) ?_
        cases h
        exact g_iret (pc := 57) rfl (dd d_Mod_pairNumber 32 rfl) hT
    · replace h := ite_f h q1
      refine g_aload_n (pc := 10) (dd d_Mod_pairNumber 6 rfl) rfl ?_
      refine g_getr (pc := 11) (dd d_Mod_pairNumber 7 rfl) f_Mod_89 ob_MO rfl (mr_firsts hX) ?_
      refine g_iload_n (pc := 14) (dd d_Mod_pairNumber 8 rfl) rfl ?_
      obtain ⟨c9, h⟩ := chk_e h
      refine g_iald (pc := 15) (dd d_Mod_pairNumber 9 rfl) ar_A_firsts c9 ?_
      refine g_iload_n (pc := 16) (dd d_Mod_pairNumber 10 rfl) rfl ?_
      refine g_icmpne (pc := 17) (tgt := 36) (dd d_Mod_pairNumber 11 rfl) (by decide) (fun q10 => ?_) (fun q10 => ?_)
      · replace h := ite_f h q10
        exact gb_Mod_pairNumber_36 hX hk hT ih h
      · replace h := ite_t h q10
        refine g_aload_n (pc := 20) (dd d_Mod_pairNumber 12 rfl) rfl ?_
        refine g_getr (pc := 21) (dd d_Mod_pairNumber 13 rfl) f_Mod_92 ob_MO rfl (mr_seconds hX) ?_
        refine g_iload_n (pc := 24) (dd d_Mod_pairNumber 14 rfl) rfl ?_
        refine g_iald (pc := 25) (dd d_Mod_pairNumber 15 rfl) ar_A_seconds c9 ?_
        refine g_iload_n (pc := 26) (dd d_Mod_pairNumber 16 rfl) rfl ?_
        refine g_icmpne (pc := 27) (tgt := 36) (dd d_Mod_pairNumber 17 rfl) (by decide) (fun q11 => ?_) (fun q11 => ?_)
        · replace h := ite_f h q11
          exact gb_Mod_pairNumber_36 hX hk hT ih h
        · replace h := ite_t h q11
          refine g_ldcw (pc := 30) (dd d_Mod_pairNumber 18 rfl) c_Mod_513 ?_
          refine g_iload_n (pc := 33) (dd d_Mod_pairNumber 19 rfl) rfl ?_
          refine g_iadd (pc := 34) (dd d_Mod_pairNumber 20 rfl) ?_
          cases h
          exact g_iret (pc := 35) rfl (dd d_Mod_pairNumber 21 rfl) hT
def f_Mod_pairNumber (n : Nat) (x1 : Int32) (x2 : Int32) (I : IM) : Option (Int32 × IM) := l_Mod_pairNumber_2 n  n x1 x2 0 I
set_option maxRecDepth 20000 in
set_option maxHeartbeats 4000000 in
theorem ef_Mod_pairNumber {Δ : Dx} {X : Lx} (hX : MX Δ X) {n : Nat} {x1 : Int32} {x2 : Int32}  {I : IM}  {r : Int32 × IM} (h : f_Mod_pairNumber n x1 x2 I = some r) : Ev Δ 0 m_Mod_pairNumber [.ref (Δ.ba + MO), .int x1, .int x2] (I, X) (some (.int r.1)) (r.2, X) := by
  refine ev_of (by decide) (Nat.le_of_ble_eq_true rfl) (fun Γ hk hR hT => ?_)
  change GG Δ m_Mod_pairNumber Γ NN 0 0 (I, X) 0 [some (.ref (Δ.ba + MO)), some (.int (x1)), some (.int (x2)), none] []
  unfold f_Mod_pairNumber at h
  refine g_iconst (pc := 0) (v := 0) (dd d_Mod_pairNumber 0 rfl) (by decide) ?_
  refine g_istore_n (pc := 1) (dd d_Mod_pairNumber 1 rfl) (by decide) ?_
  exact gl_Mod_pairNumber_2 hX hk hT  _ _ _ _ _ h
