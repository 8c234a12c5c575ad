/-! the reference: each method a function, and its contract -/
def b_Mod_run_93 (n : Nat)  (x2 : Int32) (I : IM) : Option (Int32 × IM) := some (x2, I)
set_option maxRecDepth 20000 in
set_option maxHeartbeats 4000000 in
theorem gb_Mod_run_93 {Δ : Dx} {X : Lx} (hX : MX Δ X)   {n : Nat} {Γ : Cx} (hk : Γ.k = 7) {r : Int32 × IM} (hT : Tg Δ Γ (some (.int r.1)) NN (r.2, X) 0 0)  {x2 : Int32} {I : IM} (h : b_Mod_run_93 n  x2 I = some r) : GG Δ m_Mod_run Γ NN 0 0 (I, X) 93 [none, none, some (.int (x2))] [] := by
  unfold b_Mod_run_93 at h
  refine g_iload_n (pc := 93) (dd d_Mod_run 49 rfl) rfl ?_
  cases h
  exact g_iret (pc := 94) rfl (dd d_Mod_run 50 rfl) hT
def l_Mod_run_63 (n : Nat)  : Nat → Int32 → Int32 → IM → Option (Int32 × IM)
  | 0, _, _, _ => none
  | f + 1, x1, x2, I => if x1 ≤ x2 then (b_Mod_run_93 n  x2 I) else (if (I MO 50 : Int32) = 0 then (Option.bind (f_Mod_instruct n  I) fun v13 => (l_Mod_run_63 n  f) x1 (if (v13.1 : Int32) = 0 then x2 else ((x2) + (1))) v13.2) else (b_Mod_run_93 n  x2 I))
set_option maxRecDepth 20000 in
set_option maxHeartbeats 4000000 in
theorem gl_Mod_run_63 {Δ : Dx} {X : Lx} (hX : MX Δ X)   {n : Nat} {Γ : Cx} (hk : Γ.k = 7) {r : Int32 × IM} (hT : Tg Δ Γ (some (.int r.1)) NN (r.2, X) 0 0)  : ∀ (f : Nat) (x1 : Int32) (x2 : Int32) (I : IM), l_Mod_run_63 n  f x1 x2 I = some r → GG Δ m_Mod_run Γ NN 0 0 (I, X) 63 [some (.ref (Δ.ba + MO)), some (.int (x1)), some (.int (x2))] []
  | 0, _, _, _, h => by cases h
  | f + 1, x1, x2, I, h => by
    have ih := gl_Mod_run_63 (n := n) hX hk hT  f
    rw [l_Mod_run_63] at h
    refine g_iload_n (pc := 63) (dd d_Mod_run 33 rfl) rfl ?_
    refine g_iload_n (pc := 64) (dd d_Mod_run 34 rfl) rfl ?_
    refine g_icmpge (pc := 65) (tgt := 93) (dd d_Mod_run 35 rfl) (by decide) (fun q11 => ?_) (fun q11 => ?_)
    · replace h := ite_t h q11
      refine g_drop [0, 1] ?_
      exact gb_Mod_run_93 hX hk hT  h
    · replace h := ite_f h q11
      refine g_aload_n (pc := 68) (dd d_Mod_run 36 rfl) rfl ?_
      refine g_geti (pc := 69) (dd d_Mod_run 37 rfl) f_Mod_406 ob_MO rfl ?_
      refine g_ifne (pc := 72) (tgt := 93) (dd d_Mod_run 38 rfl) (by decide) (fun q12 => ?_) (fun q12 => ?_)
      · replace h := ite_f h q12
        refine g_drop [0, 1] ?_
        exact gb_Mod_run_93 hX hk hT  h
      · replace h := ite_t h q12
        refine g_aload_n (pc := 75) (dd d_Mod_run 39 rfl) rfl ?_
        obtain ⟨v13, e14, h⟩ := bnd_e h
        refine g_callV (pc := 76) (dd d_Mod_run 40 rfl) v_Mod_596 ob_MO rfl (ef_Mod_instruct hX e14) rfl (by rw [hk]; decide) (Nat.le_of_ble_eq_true rfl) ⟨Nat.zero_le _, Nat.zero_le _⟩ rfl ?_
        suffices K79 : ∀ z : Int32, z = (if (v13.1 : Int32) = 0 then x2 else ((x2) + (1)) : Int32) → GG Δ m_Mod_run Γ NN 0 0 (v13.2, X) 89 [some (.ref (Δ.ba + MO)), some (.int (x1)), some (.int (x2))] [.int (z)] by
          refine g_ifeq (pc := 79) (tgt := 88) (dd d_Mod_run 41 rfl) (by decide) (fun q15 => ?_) (fun q15 => ?_)
          · skip
            refine g_iload_n (pc := 88) (dd d_Mod_run 46 rfl) rfl ?_
            exact K79 _ (by rw [if_pos q15])
          · skip
            refine g_iload_n (pc := 82) (dd d_Mod_run 42 rfl) rfl ?_
            refine g_iconst (pc := 83) (v := 1) (dd d_Mod_run 43 rfl) (by decide) ?_
            refine g_iadd (pc := 84) (dd d_Mod_run 44 rfl) ?_
            refine g_goto (pc := 85) (tgt := 89) (dd d_Mod_run 45 rfl) (by decide) ?_
            exact K79 _ (by rw [if_neg q15])
        intro z hz
        subst hz
        refine g_istore_n (pc := 89) (dd d_Mod_run 47 rfl) (by decide) ?_
        refine g_goto (pc := 90) (tgt := 63) (dd d_Mod_run 48 rfl) (by decide) ?_
        exact ih _ _ _ h
def f_Mod_run (n : Nat) (x1 : Int32) (I : IM) : Option (Int32 × IM) := Option.bind (f_Mod_in  x1 0 2000 I) fun v1 => Option.bind (f_Mod_refuse  (if v1 = 0 then 1 else 0) (if (I MO 50 : Int32) = 0 then 0 else (if (I MO 50 : Int32) = (5 : Int32) then 0 else 1)) I) fun v6 => if (v6.1 : Int32) = 0 then (lt (up v6.2 MO 50 (if x1 ≤ 0 then (v6.2 MO 50) else 0)) fun I10 => l_Mod_run_63 n  n x1 0 I10) else (some (0, v6.2))
set_option maxRecDepth 20000 in
set_option maxHeartbeats 4000000 in
theorem ef_Mod_run {Δ : Dx} {X : Lx} (hX : MX Δ X) {n : Nat} {x1 : Int32}  {I : IM}  {r : Int32 × IM} (h : f_Mod_run n x1 I = some r) : Ev Δ 7 m_Mod_run [.ref (Δ.ba + MO), .int x1] (I, X) (some (.int r.1)) (r.2, X) := by
  refine ev_of (by decide) (Nat.le_of_ble_eq_true rfl) (fun Γ hk hR hT => ?_)
  change GG Δ m_Mod_run Γ NN 0 0 (I, X) 0 [some (.ref (Δ.ba + MO)), some (.int (x1)), none] []
  unfold f_Mod_run at h
  refine g_aload_n (pc := 0) (dd d_Mod_run 0 rfl) rfl ?_
  refine g_iload_n (pc := 1) (dd d_Mod_run 1 rfl) rfl ?_
  refine g_iconst (pc := 2) (v := 0) (dd d_Mod_run 2 rfl) (by decide) ?_
  refine g_sipush (pc := 3) (v := 2000) (dd d_Mod_run 3 rfl) (by decide) ?_
  obtain ⟨v1, e2, h⟩ := bnd_e h
  refine g_callS (pc := 6) (dd d_Mod_run 4 rfl) s_Mod_243 (ef_Mod_in hX e2) rfl (by rw [hk]; decide) (Nat.le_of_ble_eq_true rfl) ⟨Nat.zero_le _, Nat.zero_le _⟩ rfl ?_
  suffices K9 : ∀ z : Int32, z = (if v1 = 0 then 1 else 0 : Int32) → GG Δ m_Mod_run Γ NN 0 0 (I, X) 17 [some (.ref (Δ.ba + MO)), some (.int (x1)), none] [.int (z), .ref (Δ.ba + MO)] by
    refine g_ifne (pc := 9) (tgt := 16) (dd d_Mod_run 5 rfl) (by decide) (fun q3 => ?_) (fun q3 => ?_)
    · skip
      refine g_iconst (pc := 16) (v := 0) (dd d_Mod_run 8 rfl) (by decide) ?_
      exact K9 _ (by rw [if_neg q3])
    · skip
      refine g_iconst (pc := 12) (v := 1) (dd d_Mod_run 6 rfl) (by decide) ?_
      refine g_goto (pc := 13) (tgt := 17) (dd d_Mod_run 7 rfl) (by decide) ?_
      exact K9 _ (by rw [if_pos q3])
  intro z hz
  subst hz
  refine g_aload_n (pc := 17) (dd d_Mod_run 9 rfl) rfl ?_
  refine g_geti (pc := 18) (dd d_Mod_run 10 rfl) f_Mod_406 ob_MO rfl ?_
  suffices K21 : ∀ z : Int32, z = (if (I MO 50 : Int32) = 0 then 0 else (if (I MO 50 : Int32) = (5 : Int32) then 0 else 1) : Int32) → GG Δ m_Mod_run Γ NN 0 0 (I, X) 37 [some (.ref (Δ.ba + MO)), some (.int (x1)), none] [.int (z), .int (if v1 = 0 then 1 else 0), .ref (Δ.ba + MO)] by
    refine g_ifeq (pc := 21) (tgt := 36) (dd d_Mod_run 11 rfl) (by decide) (fun q4 => ?_) (fun q4 => ?_)
    · skip
      refine g_iconst (pc := 36) (v := 0) (dd d_Mod_run 18 rfl) (by decide) ?_
      exact K21 _ (by rw [if_pos q4])
    · skip
      refine g_aload_n (pc := 24) (dd d_Mod_run 12 rfl) rfl ?_
      refine g_geti (pc := 25) (dd d_Mod_run 13 rfl) f_Mod_406 ob_MO rfl ?_
      refine g_iconst (pc := 28) (v := 5) (dd d_Mod_run 14 rfl) (by decide) ?_
      refine g_icmpeq (pc := 29) (tgt := 36) (dd d_Mod_run 15 rfl) (by decide) (fun q5 => ?_) (fun q5 => ?_)
      · skip
        refine g_iconst (pc := 36) (v := 0) (dd d_Mod_run 18 rfl) (by decide) ?_
        exact K21 _ (by rw [if_neg q4, if_pos q5])
      · skip
        refine g_iconst (pc := 32) (v := 1) (dd d_Mod_run 16 rfl) (by decide) ?_
        refine g_goto (pc := 33) (tgt := 37) (dd d_Mod_run 17 rfl) (by decide) ?_
        exact K21 _ (by rw [if_neg q4, if_neg q5])
  intro z hz
  subst hz
  obtain ⟨v6, e7, h⟩ := bnd_e h
  refine g_callV (pc := 37) (dd d_Mod_run 19 rfl) v_Mod_250 ob_MO rfl (ef_Mod_refuse hX e7) rfl (by rw [hk]; decide) (Nat.le_of_ble_eq_true rfl) ⟨Nat.zero_le _, Nat.zero_le _⟩ rfl ?_
  refine g_ifeq (pc := 40) (tgt := 45) (dd d_Mod_run 20 rfl) (by decide) (fun q8 => ?_) (fun q8 => ?_)
  · replace h := ite_t h q8
    refine g_iconst (pc := 45) (v := 0) (dd d_Mod_run 23 rfl) (by decide) ?_
    refine g_istore_n (pc := 46) (dd d_Mod_run 24 rfl) (by decide) ?_
    refine g_aload_n (pc := 47) (dd d_Mod_run 25 rfl) rfl ?_
    refine g_iload_n (pc := 48) (dd d_Mod_run 26 rfl) rfl ?_
    suffices K49 : ∀ z : Int32, z = (if x1 ≤ 0 then (v6.2 MO 50) else 0 : Int32) → GG Δ m_Mod_run Γ NN 0 0 (v6.2, X) 60 [some (.ref (Δ.ba + MO)), some (.int (x1)), some (.int (0))] [.int (z), .ref (Δ.ba + MO)] by
      refine g_ifle (pc := 49) (tgt := 56) (dd d_Mod_run 27 rfl) (by decide) (fun q9 => ?_) (fun q9 => ?_)
      · skip
        refine g_aload_n (pc := 56) (dd d_Mod_run 30 rfl) rfl ?_
        refine g_geti (pc := 57) (dd d_Mod_run 31 rfl) f_Mod_406 ob_MO rfl ?_
        exact K49 _ (by rw [if_pos q9])
      · skip
        refine g_iconst (pc := 52) (v := 0) (dd d_Mod_run 28 rfl) (by decide) ?_
        refine g_goto (pc := 53) (tgt := 60) (dd d_Mod_run 29 rfl) (by decide) ?_
        exact K49 _ (by rw [if_neg q9])
    intro z hz
    subst hz
    refine g_putiN (pc := 60) (dd d_Mod_run 32 rfl) f_Mod_406 fm_Mod_50 ob_MO rfl (fun I10 hI10 => ?_)
    replace h := lt_e h hI10
    exact gl_Mod_run_63 hX hk hT  _ _ _ _ h
  · replace h := ite_f h q8
    refine g_iconst (pc := 43) (v := 0) (dd d_Mod_run 21 rfl) (by decide) ?_
    cases h
    exact g_iret (pc := 44) rfl (dd d_Mod_run 22 rfl) hT
def f_Mod_state (x1 : Int32) (I : IM) : Option (Int32 × IM) := Option.bind (f_Mod_in  x1 0 9 I) fun v1 => Option.bind (f_Mod_refuse  (if v1 = 0 then 1 else 0) 0 I) fun v4 => if (v4.1 : Int32) = 0 then (if x1 = 0 then (some (v4.2 MO 50, v4.2)) else (if x1 = 1 then (some (v4.2 MO 48, v4.2)) else (if x1 = 2 then (some (v4.2 MO 51, v4.2)) else (if x1 = 3 then (some (v4.2 MO 53, v4.2)) else (if x1 = 4 then (some (v4.2 MO 54, v4.2)) else (if x1 = 5 then (some (v4.2 MO 45, v4.2)) else (if x1 = 6 then (some (v4.2 MO 52, v4.2)) else (if x1 = 7 then (some (v4.2 MO 55, v4.2)) else (if x1 = 8 then (some (v4.2 MO 58, v4.2)) else (some (if (16 : Int32) ≤ (v4.2 MO 63 : Int32) then 16 else (v4.2 MO 63), v4.2))))))))))) else (some (0, v4.2))
set_option maxRecDepth 20000 in
set_option maxHeartbeats 4000000 in
theorem ef_Mod_state {Δ : Dx} {X : Lx} (hX : MX Δ X) {x1 : Int32}  {I : IM}  {r : Int32 × IM} (h : f_Mod_state x1 I = some r) : Ev Δ 1 m_Mod_state [.ref (Δ.ba + MO), .int x1] (I, X) (some (.int r.1)) (r.2, X) := by
  refine ev_of (by decide) (Nat.le_of_ble_eq_true rfl) (fun Γ hk hR hT => ?_)
  change GG Δ m_Mod_state Γ NN 0 0 (I, X) 0 [some (.ref (Δ.ba + MO)), some (.int (x1))] []
  unfold f_Mod_state at h
  refine g_aload_n (pc := 0) (dd d_Mod_state 0 rfl) rfl ?_
  refine g_iload_n (pc := 1) (dd d_Mod_state 1 rfl) rfl ?_
  refine g_iconst (pc := 2) (v := 0) (dd d_Mod_state 2 rfl) (by decide) ?_
  refine g_bipush (pc := 3) (v := 9) (dd d_Mod_state 3 rfl) (by decide) ?_
  obtain ⟨v1, e2, h⟩ := bnd_e h
  refine g_callS (pc := 5) (dd d_Mod_state 4 rfl) s_Mod_243 (ef_Mod_in hX e2) rfl (by rw [hk]; decide) (Nat.le_of_ble_eq_true rfl) ⟨Nat.zero_le _, Nat.zero_le _⟩ rfl ?_
  suffices K8 : ∀ z : Int32, z = (if v1 = 0 then 1 else 0 : Int32) → GG Δ m_Mod_state Γ NN 0 0 (I, X) 16 [some (.ref (Δ.ba + MO)), some (.int (x1))] [.int (z), .ref (Δ.ba + MO)] by
    refine g_ifne (pc := 8) (tgt := 15) (dd d_Mod_state 5 rfl) (by decide) (fun q3 => ?_) (fun q3 => ?_)
    · skip
      refine g_iconst (pc := 15) (v := 0) (dd d_Mod_state 8 rfl) (by decide) ?_
      exact K8 _ (by rw [if_neg q3])
    · skip
      refine g_iconst (pc := 11) (v := 1) (dd d_Mod_state 6 rfl) (by decide) ?_
      refine g_goto (pc := 12) (tgt := 16) (dd d_Mod_state 7 rfl) (by decide) ?_
      exact K8 _ (by rw [if_pos q3])
  intro z hz
  subst hz
  refine g_iconst (pc := 16) (v := 0) (dd d_Mod_state 9 rfl) (by decide) ?_
  obtain ⟨v4, e5, h⟩ := bnd_e h
  refine g_callV (pc := 17) (dd d_Mod_state 10 rfl) v_Mod_250 ob_MO rfl (ef_Mod_refuse hX e5) rfl (by rw [hk]; decide) (Nat.le_of_ble_eq_true rfl) ⟨Nat.zero_le _, Nat.zero_le _⟩ rfl ?_
  refine g_ifeq (pc := 20) (tgt := 25) (dd d_Mod_state 11 rfl) (by decide) (fun q6 => ?_) (fun q6 => ?_)
  · replace h := ite_t h q6
    refine g_iload_n (pc := 25) (dd d_Mod_state 14 rfl) rfl ?_
    refine g_tableC (pc := 26) (dd d_Mod_state 15 rfl) (fun i off ho w7 => ?_) (by decide) (fun w7 => ⟨121, by decide, ?_⟩)
    · rcases i with _ | _ | _ | _ | _ | _ | _ | _ | _ | i
      · obtain rfl : off = 50 := (Option.some.inj ho).symm
        refine ⟨76, by decide, ?_⟩
        replace w7 : x1 = 0 := Int32.toInt_inj.mp w7
        replace h := ite_t h w7
        refine g_aload_n (pc := 76) (dd d_Mod_state 16 rfl) rfl ?_
        refine g_geti (pc := 77) (dd d_Mod_state 17 rfl) f_Mod_406 ob_MO rfl ?_
        cases h
        exact g_iret (pc := 80) rfl (dd d_Mod_state 18 rfl) hT
      · obtain rfl : off = 55 := (Option.some.inj ho).symm
        refine ⟨81, by decide, ?_⟩
        replace w7 : x1 = 1 := Int32.toInt_inj.mp w7
        replace h := ite_f h (by rw [w7]; decide)
        replace h := ite_t h w7
        refine g_aload_n (pc := 81) (dd d_Mod_state 19 rfl) rfl ?_
        refine g_geti (pc := 82) (dd d_Mod_state 20 rfl) f_Mod_403 ob_MO rfl ?_
        cases h
        exact g_iret (pc := 85) rfl (dd d_Mod_state 21 rfl) hT
      · obtain rfl : off = 60 := (Option.some.inj ho).symm
        refine ⟨86, by decide, ?_⟩
        replace w7 : x1 = 2 := Int32.toInt_inj.mp w7
        replace h := ite_f h (by rw [w7]; decide)
        replace h := ite_f h (by rw [w7]; decide)
        replace h := ite_t h w7
        refine g_aload_n (pc := 86) (dd d_Mod_state 22 rfl) rfl ?_
        refine g_geti (pc := 87) (dd d_Mod_state 23 rfl) f_Mod_409 ob_MO rfl ?_
        cases h
        exact g_iret (pc := 90) rfl (dd d_Mod_state 24 rfl) hT
      · obtain rfl : off = 65 := (Option.some.inj ho).symm
        refine ⟨91, by decide, ?_⟩
        replace w7 : x1 = 3 := Int32.toInt_inj.mp w7
        replace h := ite_f h (by rw [w7]; decide)
        replace h := ite_f h (by rw [w7]; decide)
        replace h := ite_f h (by rw [w7]; decide)
        replace h := ite_t h w7
        refine g_aload_n (pc := 91) (dd d_Mod_state 25 rfl) rfl ?_
        refine g_geti (pc := 92) (dd d_Mod_state 26 rfl) f_Mod_382 ob_MO rfl ?_
        cases h
        exact g_iret (pc := 95) rfl (dd d_Mod_state 27 rfl) hT
      · obtain rfl : off = 70 := (Option.some.inj ho).symm
        refine ⟨96, by decide, ?_⟩
        replace w7 : x1 = 4 := Int32.toInt_inj.mp w7
        replace h := ite_f h (by rw [w7]; decide)
        replace h := ite_f h (by rw [w7]; decide)
        replace h := ite_f h (by rw [w7]; decide)
        replace h := ite_f h (by rw [w7]; decide)
        replace h := ite_t h w7
        refine g_aload_n (pc := 96) (dd d_Mod_state 28 rfl) rfl ?_
        refine g_geti (pc := 97) (dd d_Mod_state 29 rfl) f_Mod_385 ob_MO rfl ?_
        cases h
        exact g_iret (pc := 100) rfl (dd d_Mod_state 30 rfl) hT
      · obtain rfl : off = 75 := (Option.some.inj ho).symm
        refine ⟨101, by decide, ?_⟩
        replace w7 : x1 = 5 := Int32.toInt_inj.mp w7
        replace h := ite_f h (by rw [w7]; decide)
        replace h := ite_f h (by rw [w7]; decide)
        replace h := ite_f h (by rw [w7]; decide)
        replace h := ite_f h (by rw [w7]; decide)
        replace h := ite_f h (by rw [w7]; decide)
        replace h := ite_t h w7
        refine g_aload_n (pc := 101) (dd d_Mod_state 31 rfl) rfl ?_
        refine g_geti (pc := 102) (dd d_Mod_state 32 rfl) f_Mod_400 ob_MO rfl ?_
        cases h
        exact g_iret (pc := 105) rfl (dd d_Mod_state 33 rfl) hT
      · obtain rfl : off = 80 := (Option.some.inj ho).symm
        refine ⟨106, by decide, ?_⟩
        replace w7 : x1 = 6 := Int32.toInt_inj.mp w7
        replace h := ite_f h (by rw [w7]; decide)
        replace h := ite_f h (by rw [w7]; decide)
        replace h := ite_f h (by rw [w7]; decide)
        replace h := ite_f h (by rw [w7]; decide)
        replace h := ite_f h (by rw [w7]; decide)
        replace h := ite_f h (by rw [w7]; decide)
        replace h := ite_t h w7
        refine g_aload_n (pc := 106) (dd d_Mod_state 34 rfl) rfl ?_
        refine g_geti (pc := 107) (dd d_Mod_state 35 rfl) f_Mod_412 ob_MO rfl ?_
        cases h
        exact g_iret (pc := 110) rfl (dd d_Mod_state 36 rfl) hT
      · obtain rfl : off = 85 := (Option.some.inj ho).symm
        refine ⟨111, by decide, ?_⟩
        replace w7 : x1 = 7 := Int32.toInt_inj.mp w7
        replace h := ite_f h (by rw [w7]; decide)
        replace h := ite_f h (by rw [w7]; decide)
        replace h := ite_f h (by rw [w7]; decide)
        replace h := ite_f h (by rw [w7]; decide)
        replace h := ite_f h (by rw [w7]; decide)
        replace h := ite_f h (by rw [w7]; decide)
        replace h := ite_f h (by rw [w7]; decide)
        replace h := ite_t h w7
        refine g_aload_n (pc := 111) (dd d_Mod_state 37 rfl) rfl ?_
        refine g_geti (pc := 112) (dd d_Mod_state 38 rfl) f_Mod_415 ob_MO rfl ?_
        cases h
        exact g_iret (pc := 115) rfl (dd d_Mod_state 39 rfl) hT
      · obtain rfl : off = 90 := (Option.some.inj ho).symm
        refine ⟨116, by decide, ?_⟩
        replace w7 : x1 = 8 := Int32.toInt_inj.mp w7
        replace h := ite_f h (by rw [w7]; decide)
        replace h := ite_f h (by rw [w7]; decide)
        replace h := ite_f h (by rw [w7]; decide)
        replace h := ite_f h (by rw [w7]; decide)
        replace h := ite_f h (by rw [w7]; decide)
        replace h := ite_f h (by rw [w7]; decide)
        replace h := ite_f h (by rw [w7]; decide)
        replace h := ite_f h (by rw [w7]; decide)
        replace h := ite_t h w7
        refine g_aload_n (pc := 116) (dd d_Mod_state 40 rfl) rfl ?_
        refine g_geti (pc := 117) (dd d_Mod_state 41 rfl) f_Mod_376 ob_MO rfl ?_
        cases h
        exact g_iret (pc := 120) rfl (dd d_Mod_state 42 rfl) hT
      · cases ho
    · skip
      replace w7 : x1.toInt < 0 ∨ 8 < x1.toInt := w7
      replace h := ite_f h (fun e => by rw [e] at w7; revert w7; decide)
      replace h := ite_f h (fun e => by rw [e] at w7; revert w7; decide)
      replace h := ite_f h (fun e => by rw [e] at w7; revert w7; decide)
      replace h := ite_f h (fun e => by rw [e] at w7; revert w7; decide)
      replace h := ite_f h (fun e => by rw [e] at w7; revert w7; decide)
      replace h := ite_f h (fun e => by rw [e] at w7; revert w7; decide)
      replace h := ite_f h (fun e => by rw [e] at w7; revert w7; decide)
      replace h := ite_f h (fun e => by rw [e] at w7; revert w7; decide)
      replace h := ite_f h (fun e => by rw [e] at w7; revert w7; decide)
      refine g_aload_n (pc := 121) (dd d_Mod_state 43 rfl) rfl ?_
      refine g_geti (pc := 122) (dd d_Mod_state 44 rfl) f_Mod_418 ob_MO rfl ?_
      refine g_bipush (pc := 125) (v := 16) (dd d_Mod_state 45 rfl) (by decide) ?_
      suffices K127 : ∀ z : Int32, z = (if (16 : Int32) ≤ (v4.2 MO 63 : Int32) then 16 else (v4.2 MO 63) : Int32) → GG Δ m_Mod_state Γ NN 0 0 (v4.2, X) 139 [some (.ref (Δ.ba + MO)), some (.int (x1))] [.int (z)] by
        refine g_icmpge (pc := 127) (tgt := 137) (dd d_Mod_state 46 rfl) (by decide) (fun q8 => ?_) (fun q8 => ?_)
        · skip
          refine g_bipush (pc := 137) (v := 16) (dd d_Mod_state 50 rfl) (by decide) ?_
          exact K127 _ (by rw [if_pos q8])
        · skip
          refine g_aload_n (pc := 130) (dd d_Mod_state 47 rfl) rfl ?_
          refine g_geti (pc := 131) (dd d_Mod_state 48 rfl) f_Mod_418 ob_MO rfl ?_
          refine g_goto (pc := 134) (tgt := 139) (dd d_Mod_state 49 rfl) (by decide) ?_
          exact K127 _ (by rw [if_neg q8])
      intro z hz
      subst hz
      cases h
      exact g_iret (pc := 139) rfl (dd d_Mod_state 51 rfl) hT
  · replace h := ite_f h q6
    refine g_iconst (pc := 23) (v := 0) (dd d_Mod_state 12 rfl) (by decide) ?_
    cases h
    exact g_iret (pc := 24) rfl (dd d_Mod_state 13 rfl) hT
def b_Mod_registerOf_87   (y0 : Int32) (I : IM) : Option (Int32 × IM) := some (y0, I)
set_option maxRecDepth 20000 in
set_option maxHeartbeats 4000000 in
theorem gb_Mod_registerOf_87 {Δ : Dx} {X : Lx} (hX : MX Δ X)    {Γ : Cx} (hk : Γ.k = 1) {r : Int32 × IM} (hT : Tg Δ Γ (some (.int r.1)) NN (r.2, X) 0 0)  {y0 : Int32} {I : IM} (h : b_Mod_registerOf_87   y0 I = some r) : GG Δ m_Mod_registerOf Γ NN 0 0 (I, X) 87 [none, none, none, none] [.int (y0)] := by
  unfold b_Mod_registerOf_87 at h
  cases h
  exact g_iret (pc := 87) rfl (dd d_Mod_registerOf 47 rfl) hT
def b_Mod_registerOf_36   (x1 : Int32) (x2 : Int32) (y2 : Int32) (y1 : Int32) (I : IM) : Option (Int32 × IM) := Option.bind (f_Mod_refuse  y1 y2 I) fun v16 => if (v16.1 : Int32) = 0 then (if x1 = (8 : Int32) then (some (if x2 = 0 then (v16.2 MO 42) else (v16.2 MO 43), v16.2)) else (if x2 = 0 then (chk (inb x1 8) <| b_Mod_registerOf_87   (v16.2 A_registers x1.toNatClampNeg) v16.2) else (chk (inb x1 8) <| b_Mod_registerOf_87   (v16.2 A_registerTags x1.toNatClampNeg) v16.2))) else (some (0, v16.2))
set_option maxRecDepth 20000 in
set_option maxHeartbeats 4000000 in
theorem gb_Mod_registerOf_36 {Δ : Dx} {X : Lx} (hX : MX Δ X)    {Γ : Cx} (hk : Γ.k = 1) {r : Int32 × IM} (hT : Tg Δ Γ (some (.int r.1)) NN (r.2, X) 0 0)  {x1 : Int32} {x2 : Int32} {y2 : Int32} {y1 : Int32} {I : IM} (h : b_Mod_registerOf_36   x1 x2 y2 y1 I = some r) : GG Δ m_Mod_registerOf Γ NN 0 0 (I, X) 36 [some (.ref (Δ.ba + MO)), some (.int (x1)), some (.int (x2)), none] [.int (y2), .int (y1), .ref (Δ.ba + MO)] := by
  unfold b_Mod_registerOf_36 at h
  obtain ⟨v16, e17, h⟩ := bnd_e h
  refine g_callV (pc := 36) (dd d_Mod_registerOf 21 rfl) v_Mod_250 ob_MO rfl (ef_Mod_refuse hX e17) rfl (by rw [hk]; decide) (Nat.le_of_ble_eq_true rfl) ⟨Nat.zero_le _, Nat.zero_le _⟩ rfl ?_
  refine g_ifeq (pc := 39) (tgt := 44) (dd d_Mod_registerOf 22 rfl) (by decide) (fun q18 => ?_) (fun q18 => ?_)
  · replace h := ite_t h q18
    refine g_iload_n (pc := 44) (dd d_Mod_registerOf 25 rfl) rfl ?_
    refine g_bipush (pc := 45) (v := 8) (dd d_Mod_registerOf 26 rfl) (by decide) ?_
    refine g_icmpne (pc := 47) (tgt := 68) (dd d_Mod_registerOf 27 rfl) (by decide) (fun q19 => ?_) (fun q19 => ?_)
    · replace h := ite_f h q19
      refine g_iload_n (pc := 68) (dd d_Mod_registerOf 36 rfl) rfl ?_
      refine g_ifne (pc := 69) (tgt := 81) (dd d_Mod_registerOf 37 rfl) (by decide) (fun q20 => ?_) (fun q20 => ?_)
      · replace h := ite_f h q20
        refine g_aload_n (pc := 81) (dd d_Mod_registerOf 43 rfl) rfl ?_
        refine g_getr (pc := 82) (dd d_Mod_registerOf 44 rfl) f_Mod_77 ob_MO rfl (mr_registerTags hX) ?_
        refine g_iload_n (pc := 85) (dd d_Mod_registerOf 45 rfl) rfl ?_
        obtain ⟨c21, h⟩ := chk_e h
        refine g_iald (pc := 86) (dd d_Mod_registerOf 46 rfl) ar_A_registerTags c21 ?_
        refine g_drop [0, 1, 2] ?_
        exact gb_Mod_registerOf_87 hX hk hT  h
      · replace h := ite_t h q20
        refine g_aload_n (pc := 72) (dd d_Mod_registerOf 38 rfl) rfl ?_
        refine g_getr (pc := 73) (dd d_Mod_registerOf 39 rfl) f_Mod_74 ob_MO rfl (mr_registers hX) ?_
        refine g_iload_n (pc := 76) (dd d_Mod_registerOf 40 rfl) rfl ?_
        obtain ⟨c22, h⟩ := chk_e h
        refine g_iald (pc := 77) (dd d_Mod_registerOf 41 rfl) ar_A_registers c22 ?_
        refine g_goto (pc := 78) (tgt := 87) (dd d_Mod_registerOf 42 rfl) (by decide) ?_
        refine g_drop [0, 1, 2] ?_
        exact gb_Mod_registerOf_87 hX hk hT  h
    · replace h := ite_t h q19
      refine g_iload_n (pc := 50) (dd d_Mod_registerOf 28 rfl) rfl ?_
      suffices K51 : ∀ z : Int32, z = (if x2 = 0 then (v16.2 MO 42) else (v16.2 MO 43) : Int32) → GG Δ m_Mod_registerOf Γ NN 0 0 (v16.2, X) 87 [some (.ref (Δ.ba + MO)), some (.int (x1)), some (.int (x2)), none] [.int (z)] by
        refine g_ifne (pc := 51) (tgt := 61) (dd d_Mod_registerOf 29 rfl) (by decide) (fun q23 => ?_) (fun q23 => ?_)
        · skip
          refine g_aload_n (pc := 61) (dd d_Mod_registerOf 33 rfl) rfl ?_
          refine g_geti (pc := 62) (dd d_Mod_registerOf 34 rfl) f_Mod_394 ob_MO rfl ?_
          refine g_goto (pc := 65) (tgt := 87) (dd d_Mod_registerOf 35 rfl) (by decide) ?_
          exact K51 _ (by rw [if_neg q23])
        · skip
          refine g_aload_n (pc := 54) (dd d_Mod_registerOf 30 rfl) rfl ?_
          refine g_geti (pc := 55) (dd d_Mod_registerOf 31 rfl) f_Mod_391 ob_MO rfl ?_
          refine g_goto (pc := 58) (tgt := 87) (dd d_Mod_registerOf 32 rfl) (by decide) ?_
          exact K51 _ (by rw [if_pos q23])
      intro z hz
      subst hz
      cases h
      exact g_iret (pc := 87) rfl (dd d_Mod_registerOf 47 rfl) hT
  · replace h := ite_f h q18
    refine g_iconst (pc := 42) (v := 0) (dd d_Mod_registerOf 23 rfl) (by decide) ?_
    cases h
    exact g_iret (pc := 43) rfl (dd d_Mod_registerOf 24 rfl) hT
def b_Mod_registerOf_35   (x1 : Int32) (x2 : Int32) (y1 : Int32) (I : IM) : Option (Int32 × IM) := b_Mod_registerOf_36   x1 x2 0 y1 I
set_option maxRecDepth 20000 in
set_option maxHeartbeats 4000000 in
theorem gb_Mod_registerOf_35 {Δ : Dx} {X : Lx} (hX : MX Δ X)    {Γ : Cx} (hk : Γ.k = 1) {r : Int32 × IM} (hT : Tg Δ Γ (some (.int r.1)) NN (r.2, X) 0 0)  {x1 : Int32} {x2 : Int32} {y1 : Int32} {I : IM} (h : b_Mod_registerOf_35   x1 x2 y1 I = some r) : GG Δ m_Mod_registerOf Γ NN 0 0 (I, X) 35 [some (.ref (Δ.ba + MO)), some (.int (x1)), some (.int (x2)), none] [.int (y1), .ref (Δ.ba + MO)] := by
  unfold b_Mod_registerOf_35 at h
  refine g_iconst (pc := 35) (v := 0) (dd d_Mod_registerOf 20 rfl) (by decide) ?_
  exact gb_Mod_registerOf_36 hX hk hT  h
def f_Mod_registerOf (x1 : Int32) (x2 : Int32) (I : IM) : Option (Int32 × IM) := Option.bind (f_Mod_in  x1 0 8 I) fun v1 => if v1 = 0 then (b_Mod_registerOf_35   x1 x2 (if v1 = 0 then 1 else 0) I) else (Option.bind (f_Mod_in  x2 0 1 I) fun v5 => Option.bind (f_Mod_refuse  (if v1 = 0 then 1 else 0) (if v5 = 0 then 1 else 0) I) fun v8 => if (v8.1 : Int32) = 0 then (if x1 = (8 : Int32) then (some (if x2 = 0 then (v8.2 MO 42) else (v8.2 MO 43), v8.2)) else (if x2 = 0 then (chk (inb x1 8) <| b_Mod_registerOf_87   (v8.2 A_registers x1.toNatClampNeg) v8.2) else (chk (inb x1 8) <| b_Mod_registerOf_87   (v8.2 A_registerTags x1.toNatClampNeg) v8.2))) else (some (0, v8.2)))
set_option maxRecDepth 20000 in
set_option maxHeartbeats 4000000 in
theorem ef_Mod_registerOf {Δ : Dx} {X : Lx} (hX : MX Δ X) {x1 : Int32} {x2 : Int32}  {I : IM}  {r : Int32 × IM} (h : f_Mod_registerOf x1 x2 I = some r) : Ev Δ 1 m_Mod_registerOf [.ref (Δ.ba + MO), .int x1, .int x2] (I, X) (some (.int r.1)) (r.2, X) := by
  refine ev_of (by decide) (Nat.le_of_ble_eq_true rfl) (fun Γ hk hR hT => ?_)
  change GG Δ m_Mod_registerOf Γ NN 0 0 (I, X) 0 [some (.ref (Δ.ba + MO)), some (.int (x1)), some (.int (x2)), none] []
  unfold f_Mod_registerOf at h
  refine g_iload_n (pc := 0) (dd d_Mod_registerOf 0 rfl) rfl ?_
  refine g_iconst (pc := 1) (v := 0) (dd d_Mod_registerOf 1 rfl) (by decide) ?_
  refine g_bipush (pc := 2) (v := 8) (dd d_Mod_registerOf 2 rfl) (by decide) ?_
  obtain ⟨v1, e2, h⟩ := bnd_e h
  refine g_callS (pc := 4) (dd d_Mod_registerOf 3 rfl) s_Mod_243 (ef_Mod_in hX e2) rfl (by rw [hk]; decide) (Nat.le_of_ble_eq_true rfl) ⟨Nat.zero_le _, Nat.zero_le _⟩ rfl ?_
  refine g_istore_n (pc := 7) (dd d_Mod_registerOf 4 rfl) (by decide) ?_
  refine g_aload_n (pc := 8) (dd d_Mod_registerOf 5 rfl) rfl ?_
  refine g_iload_n (pc := 9) (dd d_Mod_registerOf 6 rfl) rfl ?_
  suffices K10 : ∀ z : Int32, z = (if v1 = 0 then 1 else 0 : Int32) → GG Δ m_Mod_registerOf Γ NN 0 0 (I, X) 18 [some (.ref (Δ.ba + MO)), some (.int (x1)), some (.int (x2)), some (.int (v1))] [.int (z), .ref (Δ.ba + MO)] by
    refine g_ifne (pc := 10) (tgt := 17) (dd d_Mod_registerOf 7 rfl) (by decide) (fun q3 => ?_) (fun q3 => ?_)
    · skip
      refine g_iconst (pc := 17) (v := 0) (dd d_Mod_registerOf 10 rfl) (by decide) ?_
      exact K10 _ (by rw [if_neg q3])
    · skip
      refine g_iconst (pc := 13) (v := 1) (dd d_Mod_registerOf 8 rfl) (by decide) ?_
      refine g_goto (pc := 14) (tgt := 18) (dd d_Mod_registerOf 9 rfl) (by decide) ?_
      exact K10 _ (by rw [if_pos q3])
  intro z hz
  subst hz
  refine g_iload_n (pc := 18) (dd d_Mod_registerOf 11 rfl) rfl ?_
  refine g_ifeq (pc := 19) (tgt := 35) (dd d_Mod_registerOf 12 rfl) (by decide) (fun q4 => ?_) (fun q4 => ?_)
  · replace h := ite_t h q4
    refine g_drop [3] ?_
    exact gb_Mod_registerOf_35 hX hk hT  h
  · replace h := ite_f h q4
    refine g_iload_n (pc := 22) (dd d_Mod_registerOf 13 rfl) rfl ?_
    refine g_iconst (pc := 23) (v := 0) (dd d_Mod_registerOf 14 rfl) (by decide) ?_
    refine g_iconst (pc := 24) (v := 1) (dd d_Mod_registerOf 15 rfl) (by decide) ?_
    obtain ⟨v5, e6, h⟩ := bnd_e h
    refine g_callS (pc := 25) (dd d_Mod_registerOf 16 rfl) s_Mod_243 (ef_Mod_in hX e6) rfl (by rw [hk]; decide) (Nat.le_of_ble_eq_true rfl) ⟨Nat.zero_le _, Nat.zero_le _⟩ rfl ?_
    suffices K28 : ∀ z : Int32, z = (if v5 = 0 then 1 else 0 : Int32) → GG Δ m_Mod_registerOf Γ NN 0 0 (I, X) 36 [some (.ref (Δ.ba + MO)), some (.int (x1)), some (.int (x2)), some (.int (v1))] [.int (z), .int (if v1 = 0 then 1 else 0), .ref (Δ.ba + MO)] by
      refine g_ifne (pc := 28) (tgt := 35) (dd d_Mod_registerOf 17 rfl) (by decide) (fun q7 => ?_) (fun q7 => ?_)
      · skip
        refine g_iconst (pc := 35) (v := 0) (dd d_Mod_registerOf 20 rfl) (by decide) ?_
        exact K28 _ (by rw [if_neg q7])
      · skip
        refine g_iconst (pc := 31) (v := 1) (dd d_Mod_registerOf 18 rfl) (by decide) ?_
        refine g_goto (pc := 32) (tgt := 36) (dd d_Mod_registerOf 19 rfl) (by decide) ?_
        exact K28 _ (by rw [if_pos q7])
    intro z hz
    subst hz
    obtain ⟨v8, e9, h⟩ := bnd_e h
    refine g_callV (pc := 36) (dd d_Mod_registerOf 21 rfl) v_Mod_250 ob_MO rfl (ef_Mod_refuse hX e9) rfl (by rw [hk]; decide) (Nat.le_of_ble_eq_true rfl) ⟨Nat.zero_le _, Nat.zero_le _⟩ rfl ?_
    refine g_ifeq (pc := 39) (tgt := 44) (dd d_Mod_registerOf 22 rfl) (by decide) (fun q10 => ?_) (fun q10 => ?_)
    · replace h := ite_t h q10
      refine g_iload_n (pc := 44) (dd d_Mod_registerOf 25 rfl) rfl ?_
      refine g_bipush (pc := 45) (v := 8) (dd d_Mod_registerOf 26 rfl) (by decide) ?_
      refine g_icmpne (pc := 47) (tgt := 68) (dd d_Mod_registerOf 27 rfl) (by decide) (fun q11 => ?_) (fun q11 => ?_)
      · replace h := ite_f h q11
        refine g_iload_n (pc := 68) (dd d_Mod_registerOf 36 rfl) rfl ?_
        refine g_ifne (pc := 69) (tgt := 81) (dd d_Mod_registerOf 37 rfl) (by decide) (fun q12 => ?_) (fun q12 => ?_)
        · replace h := ite_f h q12
          refine g_aload_n (pc := 81) (dd d_Mod_registerOf 43 rfl) rfl ?_
          refine g_getr (pc := 82) (dd d_Mod_registerOf 44 rfl) f_Mod_77 ob_MO rfl (mr_registerTags hX) ?_
          refine g_iload_n (pc := 85) (dd d_Mod_registerOf 45 rfl) rfl ?_
          obtain ⟨c13, h⟩ := chk_e h
          refine g_iald (pc := 86) (dd d_Mod_registerOf 46 rfl) ar_A_registerTags c13 ?_
          refine g_drop [0, 1, 2, 3] ?_
          exact gb_Mod_registerOf_87 hX hk hT  h
        · replace h := ite_t h q12
          refine g_aload_n (pc := 72) (dd d_Mod_registerOf 38 rfl) rfl ?_
          refine g_getr (pc := 73) (dd d_Mod_registerOf 39 rfl) f_Mod_74 ob_MO rfl (mr_registers hX) ?_
          refine g_iload_n (pc := 76) (dd d_Mod_registerOf 40 rfl) rfl ?_
          obtain ⟨c14, h⟩ := chk_e h
          refine g_iald (pc := 77) (dd d_Mod_registerOf 41 rfl) ar_A_registers c14 ?_
          refine g_goto (pc := 78) (tgt := 87) (dd d_Mod_registerOf 42 rfl) (by decide) ?_
          refine g_drop [0, 1, 2, 3] ?_
          exact gb_Mod_registerOf_87 hX hk hT  h
      · replace h := ite_t h q11
        refine g_iload_n (pc := 50) (dd d_Mod_registerOf 28 rfl) rfl ?_
        suffices K51 : ∀ z : Int32, z = (if x2 = 0 then (v8.2 MO 42) else (v8.2 MO 43) : Int32) → GG Δ m_Mod_registerOf Γ NN 0 0 (v8.2, X) 87 [some (.ref (Δ.ba + MO)), some (.int (x1)), some (.int (x2)), some (.int (v1))] [.int (z)] by
          refine g_ifne (pc := 51) (tgt := 61) (dd d_Mod_registerOf 29 rfl) (by decide) (fun q15 => ?_) (fun q15 => ?_)
          · skip
            refine g_aload_n (pc := 61) (dd d_Mod_registerOf 33 rfl) rfl ?_
            refine g_geti (pc := 62) (dd d_Mod_registerOf 34 rfl) f_Mod_394 ob_MO rfl ?_
            refine g_goto (pc := 65) (tgt := 87) (dd d_Mod_registerOf 35 rfl) (by decide) ?_
            exact K51 _ (by rw [if_neg q15])
          · skip
            refine g_aload_n (pc := 54) (dd d_Mod_registerOf 30 rfl) rfl ?_
            refine g_geti (pc := 55) (dd d_Mod_registerOf 31 rfl) f_Mod_391 ob_MO rfl ?_
            refine g_goto (pc := 58) (tgt := 87) (dd d_Mod_registerOf 32 rfl) (by decide) ?_
            exact K51 _ (by rw [if_pos q15])
        intro z hz
        subst hz
        cases h
        exact g_iret (pc := 87) rfl (dd d_Mod_registerOf 47 rfl) hT
    · replace h := ite_f h q10
      refine g_iconst (pc := 42) (v := 0) (dd d_Mod_registerOf 23 rfl) (by decide) ?_
      cases h
      exact g_iret (pc := 43) rfl (dd d_Mod_registerOf 24 rfl) hT
def b_Mod_wordOf_75   (y0 : Int32) (I : IM) : Option (Int32 × IM) := some (y0, I)
set_option maxRecDepth 20000 in
set_option maxHeartbeats 4000000 in
theorem gb_Mod_wordOf_75 {Δ : Dx} {X : Lx} (hX : MX Δ X)    {Γ : Cx} (hk : Γ.k = 2) {r : Int32 × IM} (hT : Tg Δ Γ (some (.int r.1)) NN (r.2, X) 0 0)  {y0 : Int32} {I : IM} (h : b_Mod_wordOf_75   y0 I = some r) : GG Δ m_Mod_wordOf Γ NN 0 0 (I, X) 75 [none, none, none] [.int (y0)] := by
  unfold b_Mod_wordOf_75 at h
  cases h
  exact g_iret (pc := 75) rfl (dd d_Mod_wordOf 41 rfl) hT
def b_Mod_wordOf_34   (x1 : Int32) (x2 : Int32) (y2 : Int32) (y1 : Int32) (I : IM) : Option (Int32 × IM) := Option.bind (f_Mod_refuse  y1 y2 I) fun v18 => if (v18.1 : Int32) = 0 then (if x2 = 0 then (chk (inb x1 96) <| b_Mod_wordOf_75   (v18.2 A_ints x1.toNatClampNeg) v18.2) else (if x2 = (1 : Int32) then (chk (inb x1 96) <| b_Mod_wordOf_75   (v18.2 A_held x1.toNatClampNeg) v18.2) else (chk (inb x1 96) <| b_Mod_wordOf_75   (v18.2 A_owners x1.toNatClampNeg) v18.2))) else (some (0, v18.2))
set_option maxRecDepth 20000 in
set_option maxHeartbeats 4000000 in
theorem gb_Mod_wordOf_34 {Δ : Dx} {X : Lx} (hX : MX Δ X)    {Γ : Cx} (hk : Γ.k = 2) {r : Int32 × IM} (hT : Tg Δ Γ (some (.int r.1)) NN (r.2, X) 0 0)  {x1 : Int32} {x2 : Int32} {y2 : Int32} {y1 : Int32} {I : IM} (h : b_Mod_wordOf_34   x1 x2 y2 y1 I = some r) : GG Δ m_Mod_wordOf Γ NN 0 0 (I, X) 34 [some (.ref (Δ.ba + MO)), some (.int (x1)), some (.int (x2))] [.int (y2), .int (y1), .ref (Δ.ba + MO)] := by
  unfold b_Mod_wordOf_34 at h
  obtain ⟨v18, e19, h⟩ := bnd_e h
  refine g_callV (pc := 34) (dd d_Mod_wordOf 18 rfl) v_Mod_250 ob_MO rfl (ef_Mod_refuse hX e19) rfl (by rw [hk]; decide) (Nat.le_of_ble_eq_true rfl) ⟨Nat.zero_le _, Nat.zero_le _⟩ rfl ?_
  refine g_ifeq (pc := 37) (tgt := 42) (dd d_Mod_wordOf 19 rfl) (by decide) (fun q20 => ?_) (fun q20 => ?_)
  · replace h := ite_t h q20
    refine g_iload_n (pc := 42) (dd d_Mod_wordOf 22 rfl) rfl ?_
    refine g_ifne (pc := 43) (tgt := 55) (dd d_Mod_wordOf 23 rfl) (by decide) (fun q21 => ?_) (fun q21 => ?_)
    · replace h := ite_f h q21
      refine g_iload_n (pc := 55) (dd d_Mod_wordOf 29 rfl) rfl ?_
      refine g_iconst (pc := 56) (v := 1) (dd d_Mod_wordOf 30 rfl) (by decide) ?_
      refine g_icmpne (pc := 57) (tgt := 69) (dd d_Mod_wordOf 31 rfl) (by decide) (fun q22 => ?_) (fun q22 => ?_)
      · replace h := ite_f h q22
        refine g_aload_n (pc := 69) (dd d_Mod_wordOf 37 rfl) rfl ?_
        refine g_getr (pc := 70) (dd d_Mod_wordOf 38 rfl) f_Mod_71 ob_MO rfl (mr_owners hX) ?_
        refine g_iload_n (pc := 73) (dd d_Mod_wordOf 39 rfl) rfl ?_
        obtain ⟨c23, h⟩ := chk_e h
        refine g_iald (pc := 74) (dd d_Mod_wordOf 40 rfl) ar_A_owners c23 ?_
        refine g_drop [0, 1, 2] ?_
        exact gb_Mod_wordOf_75 hX hk hT  h
      · replace h := ite_t h q22
        refine g_aload_n (pc := 60) (dd d_Mod_wordOf 32 rfl) rfl ?_
        refine g_getr (pc := 61) (dd d_Mod_wordOf 33 rfl) f_Mod_68 ob_MO rfl (mr_held hX) ?_
        refine g_iload_n (pc := 64) (dd d_Mod_wordOf 34 rfl) rfl ?_
        obtain ⟨c24, h⟩ := chk_e h
        refine g_iald (pc := 65) (dd d_Mod_wordOf 35 rfl) ar_A_held c24 ?_
        refine g_goto (pc := 66) (tgt := 75) (dd d_Mod_wordOf 36 rfl) (by decide) ?_
        refine g_drop [0, 1, 2] ?_
        exact gb_Mod_wordOf_75 hX hk hT  h
    · replace h := ite_t h q21
      refine g_aload_n (pc := 46) (dd d_Mod_wordOf 24 rfl) rfl ?_
      refine g_getr (pc := 47) (dd d_Mod_wordOf 25 rfl) f_Mod_65 ob_MO rfl (mr_ints hX) ?_
      refine g_iload_n (pc := 50) (dd d_Mod_wordOf 26 rfl) rfl ?_
      obtain ⟨c25, h⟩ := chk_e h
      refine g_iald (pc := 51) (dd d_Mod_wordOf 27 rfl) ar_A_ints c25 ?_
      refine g_goto (pc := 52) (tgt := 75) (dd d_Mod_wordOf 28 rfl) (by decide) ?_
      refine g_drop [0, 1, 2] ?_
      exact gb_Mod_wordOf_75 hX hk hT  h
  · replace h := ite_f h q20
    refine g_iconst (pc := 40) (v := 0) (dd d_Mod_wordOf 20 rfl) (by decide) ?_
    cases h
    exact g_iret (pc := 41) rfl (dd d_Mod_wordOf 21 rfl) hT
def b_Mod_wordOf_33   (x1 : Int32) (x2 : Int32) (y1 : Int32) (I : IM) : Option (Int32 × IM) := b_Mod_wordOf_34   x1 x2 0 y1 I
set_option maxRecDepth 20000 in
set_option maxHeartbeats 4000000 in
theorem gb_Mod_wordOf_33 {Δ : Dx} {X : Lx} (hX : MX Δ X)    {Γ : Cx} (hk : Γ.k = 2) {r : Int32 × IM} (hT : Tg Δ Γ (some (.int r.1)) NN (r.2, X) 0 0)  {x1 : Int32} {x2 : Int32} {y1 : Int32} {I : IM} (h : b_Mod_wordOf_33   x1 x2 y1 I = some r) : GG Δ m_Mod_wordOf Γ NN 0 0 (I, X) 33 [some (.ref (Δ.ba + MO)), some (.int (x1)), some (.int (x2))] [.int (y1), .ref (Δ.ba + MO)] := by
  unfold b_Mod_wordOf_33 at h
  refine g_iconst (pc := 33) (v := 0) (dd d_Mod_wordOf 17 rfl) (by decide) ?_
  exact gb_Mod_wordOf_34 hX hk hT  h
def f_Mod_wordOf (x1 : Int32) (x2 : Int32) (I : IM) : Option (Int32 × IM) := Option.bind (f_Mod_isWord  x1 I) fun v1 => Option.bind (f_Mod_isWord  x1 I) fun v4 => if v4 = 0 then (b_Mod_wordOf_33   x1 x2 (if v1 = 0 then 1 else 0) I) else (Option.bind (f_Mod_in  x2 0 2 I) fun v7 => Option.bind (f_Mod_refuse  (if v1 = 0 then 1 else 0) (if v7 = 0 then 1 else 0) I) fun v10 => if (v10.1 : Int32) = 0 then (if x2 = 0 then (chk (inb x1 96) <| b_Mod_wordOf_75   (v10.2 A_ints x1.toNatClampNeg) v10.2) else (if x2 = (1 : Int32) then (chk (inb x1 96) <| b_Mod_wordOf_75   (v10.2 A_held x1.toNatClampNeg) v10.2) else (chk (inb x1 96) <| b_Mod_wordOf_75   (v10.2 A_owners x1.toNatClampNeg) v10.2))) else (some (0, v10.2)))
set_option maxRecDepth 20000 in
set_option maxHeartbeats 4000000 in
theorem ef_Mod_wordOf {Δ : Dx} {X : Lx} (hX : MX Δ X) {x1 : Int32} {x2 : Int32}  {I : IM}  {r : Int32 × IM} (h : f_Mod_wordOf x1 x2 I = some r) : Ev Δ 2 m_Mod_wordOf [.ref (Δ.ba + MO), .int x1, .int x2] (I, X) (some (.int r.1)) (r.2, X) := by
  refine ev_of (by decide) (Nat.le_of_ble_eq_true rfl) (fun Γ hk hR hT => ?_)
  change GG Δ m_Mod_wordOf Γ NN 0 0 (I, X) 0 [some (.ref (Δ.ba + MO)), some (.int (x1)), some (.int (x2))] []
  unfold f_Mod_wordOf at h
  refine g_aload_n (pc := 0) (dd d_Mod_wordOf 0 rfl) rfl ?_
  refine g_iload_n (pc := 1) (dd d_Mod_wordOf 1 rfl) rfl ?_
  obtain ⟨v1, e2, h⟩ := bnd_e h
  refine g_callS (pc := 2) (dd d_Mod_wordOf 2 rfl) s_Mod_421 (ef_Mod_isWord hX e2) rfl (by rw [hk]; decide) (Nat.le_of_ble_eq_true rfl) ⟨Nat.zero_le _, Nat.zero_le _⟩ rfl ?_
  suffices K5 : ∀ z : Int32, z = (if v1 = 0 then 1 else 0 : Int32) → GG Δ m_Mod_wordOf Γ NN 0 0 (I, X) 13 [some (.ref (Δ.ba + MO)), some (.int (x1)), some (.int (x2))] [.int (z), .ref (Δ.ba + MO)] by
    refine g_ifne (pc := 5) (tgt := 12) (dd d_Mod_wordOf 3 rfl) (by decide) (fun q3 => ?_) (fun q3 => ?_)
    · skip
      refine g_iconst (pc := 12) (v := 0) (dd d_Mod_wordOf 6 rfl) (by decide) ?_
      exact K5 _ (by rw [if_neg q3])
    · skip
      refine g_iconst (pc := 8) (v := 1) (dd d_Mod_wordOf 4 rfl) (by decide) ?_
      refine g_goto (pc := 9) (tgt := 13) (dd d_Mod_wordOf 5 rfl) (by decide) ?_
      exact K5 _ (by rw [if_pos q3])
  intro z hz
  subst hz
  refine g_iload_n (pc := 13) (dd d_Mod_wordOf 7 rfl) rfl ?_
  obtain ⟨v4, e5, h⟩ := bnd_e h
  refine g_callS (pc := 14) (dd d_Mod_wordOf 8 rfl) s_Mod_421 (ef_Mod_isWord hX e5) rfl (by rw [hk]; decide) (Nat.le_of_ble_eq_true rfl) ⟨Nat.zero_le _, Nat.zero_le _⟩ rfl ?_
  refine g_ifeq (pc := 17) (tgt := 33) (dd d_Mod_wordOf 9 rfl) (by decide) (fun q6 => ?_) (fun q6 => ?_)
  · replace h := ite_t h q6
    exact gb_Mod_wordOf_33 hX hk hT  h
  · replace h := ite_f h q6
    refine g_iload_n (pc := 20) (dd d_Mod_wordOf 10 rfl) rfl ?_
    refine g_iconst (pc := 21) (v := 0) (dd d_Mod_wordOf 11 rfl) (by decide) ?_
    refine g_iconst (pc := 22) (v := 2) (dd d_Mod_wordOf 12 rfl) (by decide) ?_
    obtain ⟨v7, e8, h⟩ := bnd_e h
    refine g_callS (pc := 23) (dd d_Mod_wordOf 13 rfl) s_Mod_243 (ef_Mod_in hX e8) rfl (by rw [hk]; decide) (Nat.le_of_ble_eq_true rfl) ⟨Nat.zero_le _, Nat.zero_le _⟩ rfl ?_
    suffices K26 : ∀ z : Int32, z = (if v7 = 0 then 1 else 0 : Int32) → GG Δ m_Mod_wordOf Γ NN 0 0 (I, X) 34 [some (.ref (Δ.ba + MO)), some (.int (x1)), some (.int (x2))] [.int (z), .int (if v1 = 0 then 1 else 0), .ref (Δ.ba + MO)] by
      refine g_ifne (pc := 26) (tgt := 33) (dd d_Mod_wordOf 14 rfl) (by decide) (fun q9 => ?_) (fun q9 => ?_)
      · skip
        refine g_iconst (pc := 33) (v := 0) (dd d_Mod_wordOf 17 rfl) (by decide) ?_
        exact K26 _ (by rw [if_neg q9])
      · skip
        refine g_iconst (pc := 29) (v := 1) (dd d_Mod_wordOf 15 rfl) (by decide) ?_
        refine g_goto (pc := 30) (tgt := 34) (dd d_Mod_wordOf 16 rfl) (by decide) ?_
        exact K26 _ (by rw [if_pos q9])
    intro z hz
    subst hz
    obtain ⟨v10, e11, h⟩ := bnd_e h
    refine g_callV (pc := 34) (dd d_Mod_wordOf 18 rfl) v_Mod_250 ob_MO rfl (ef_Mod_refuse hX e11) rfl (by rw [hk]; decide) (Nat.le_of_ble_eq_true rfl) ⟨Nat.zero_le _, Nat.zero_le _⟩ rfl ?_
    refine g_ifeq (pc := 37) (tgt := 42) (dd d_Mod_wordOf 19 rfl) (by decide) (fun q12 => ?_) (fun q12 => ?_)
    · replace h := ite_t h q12
      refine g_iload_n (pc := 42) (dd d_Mod_wordOf 22 rfl) rfl ?_
      refine g_ifne (pc := 43) (tgt := 55) (dd d_Mod_wordOf 23 rfl) (by decide) (fun q13 => ?_) (fun q13 => ?_)
      · replace h := ite_f h q13
        refine g_iload_n (pc := 55) (dd d_Mod_wordOf 29 rfl) rfl ?_
        refine g_iconst (pc := 56) (v := 1) (dd d_Mod_wordOf 30 rfl) (by decide) ?_
        refine g_icmpne (pc := 57) (tgt := 69) (dd d_Mod_wordOf 31 rfl) (by decide) (fun q14 => ?_) (fun q14 => ?_)
        · replace h := ite_f h q14
          refine g_aload_n (pc := 69) (dd d_Mod_wordOf 37 rfl) rfl ?_
          refine g_getr (pc := 70) (dd d_Mod_wordOf 38 rfl) f_Mod_71 ob_MO rfl (mr_owners hX) ?_
          refine g_iload_n (pc := 73) (dd d_Mod_wordOf 39 rfl) rfl ?_
          obtain ⟨c15, h⟩ := chk_e h
          refine g_iald (pc := 74) (dd d_Mod_wordOf 40 rfl) ar_A_owners c15 ?_
          refine g_drop [0, 1, 2] ?_
          exact gb_Mod_wordOf_75 hX hk hT  h
        · replace h := ite_t h q14
          refine g_aload_n (pc := 60) (dd d_Mod_wordOf 32 rfl) rfl ?_
          refine g_getr (pc := 61) (dd d_Mod_wordOf 33 rfl) f_Mod_68 ob_MO rfl (mr_held hX) ?_
          refine g_iload_n (pc := 64) (dd d_Mod_wordOf 34 rfl) rfl ?_
          obtain ⟨c16, h⟩ := chk_e h
          refine g_iald (pc := 65) (dd d_Mod_wordOf 35 rfl) ar_A_held c16 ?_
          refine g_goto (pc := 66) (tgt := 75) (dd d_Mod_wordOf 36 rfl) (by decide) ?_
          refine g_drop [0, 1, 2] ?_
          exact gb_Mod_wordOf_75 hX hk hT  h
      · replace h := ite_t h q13
        refine g_aload_n (pc := 46) (dd d_Mod_wordOf 24 rfl) rfl ?_
        refine g_getr (pc := 47) (dd d_Mod_wordOf 25 rfl) f_Mod_65 ob_MO rfl (mr_ints hX) ?_
        refine g_iload_n (pc := 50) (dd d_Mod_wordOf 26 rfl) rfl ?_
        obtain ⟨c17, h⟩ := chk_e h
        refine g_iald (pc := 51) (dd d_Mod_wordOf 27 rfl) ar_A_ints c17 ?_
        refine g_goto (pc := 52) (tgt := 75) (dd d_Mod_wordOf 28 rfl) (by decide) ?_
        refine g_drop [0, 1, 2] ?_
        exact gb_Mod_wordOf_75 hX hk hT  h
    · replace h := ite_f h q12
      refine g_iconst (pc := 40) (v := 0) (dd d_Mod_wordOf 20 rfl) (by decide) ?_
      cases h
      exact g_iret (pc := 41) rfl (dd d_Mod_wordOf 21 rfl) hT
def b_Mod_output_51   (y0 : Int32) (I : IM) : Option (Int32 × IM) := some (y0, I)
set_option maxRecDepth 20000 in
set_option maxHeartbeats 4000000 in
theorem gb_Mod_output_51 {Δ : Dx} {X : Lx} (hX : MX Δ X)    {Γ : Cx} (hk : Γ.k = 1) {r : Int32 × IM} (hT : Tg Δ Γ (some (.int r.1)) NN (r.2, X) 0 0)  {y0 : Int32} {I : IM} (h : b_Mod_output_51   y0 I = some r) : GG Δ m_Mod_output Γ NN 0 0 (I, X) 51 [none, none] [.int (y0)] := by
  unfold b_Mod_output_51 at h
  cases h
  exact g_iret (pc := 51) rfl (dd d_Mod_output 27 rfl) hT
def f_Mod_output (x1 : Int32) (I : IM) : Option (Int32 × IM) := Option.bind (f_Mod_in  x1 0 ((if (40 : Int32) ≤ (I MO 48 : Int32) then 40 else (I MO 48) : Int32) - 1) I) fun v2 => Option.bind (f_Mod_refuse  (if v2 = 0 then 1 else 0) 0 I) fun v5 => if (v5.1 : Int32) = 0 then (chk (inb x1 40) <| b_Mod_output_51   (v5.2 A_output x1.toNatClampNeg) v5.2) else (b_Mod_output_51   0 v5.2)
set_option maxRecDepth 20000 in
set_option maxHeartbeats 4000000 in
theorem ef_Mod_output {Δ : Dx} {X : Lx} (hX : MX Δ X) {x1 : Int32}  {I : IM}  {r : Int32 × IM} (h : f_Mod_output x1 I = some r) : Ev Δ 1 m_Mod_output [.ref (Δ.ba + MO), .int x1] (I, X) (some (.int r.1)) (r.2, X) := by
  refine ev_of (by decide) (Nat.le_of_ble_eq_true rfl) (fun Γ hk hR hT => ?_)
  change GG Δ m_Mod_output Γ NN 0 0 (I, X) 0 [some (.ref (Δ.ba + MO)), some (.int (x1))] []
  unfold f_Mod_output at h
  refine g_aload_n (pc := 0) (dd d_Mod_output 0 rfl) rfl ?_
  refine g_iload_n (pc := 1) (dd d_Mod_output 1 rfl) rfl ?_
  refine g_iconst (pc := 2) (v := 0) (dd d_Mod_output 2 rfl) (by decide) ?_
  refine g_aload_n (pc := 3) (dd d_Mod_output 3 rfl) rfl ?_
  refine g_geti (pc := 4) (dd d_Mod_output 4 rfl) f_Mod_403 ob_MO rfl ?_
  refine g_bipush (pc := 7) (v := 40) (dd d_Mod_output 5 rfl) (by decide) ?_
  suffices K9 : ∀ z : Int32, z = (if (40 : Int32) ≤ (I MO 48 : Int32) then 40 else (I MO 48) : Int32) → GG Δ m_Mod_output Γ NN 0 0 (I, X) 21 [some (.ref (Δ.ba + MO)), some (.int (x1))] [.int (z), .int (0), .int (x1), .ref (Δ.ba + MO)] by
    refine g_icmpge (pc := 9) (tgt := 19) (dd d_Mod_output 6 rfl) (by decide) (fun q1 => ?_) (fun q1 => ?_)
    · skip
      refine g_bipush (pc := 19) (v := 40) (dd d_Mod_output 10 rfl) (by decide) ?_
      exact K9 _ (by rw [if_pos q1])
    · skip
      refine g_aload_n (pc := 12) (dd d_Mod_output 7 rfl) rfl ?_
      refine g_geti (pc := 13) (dd d_Mod_output 8 rfl) f_Mod_403 ob_MO rfl ?_
      refine g_goto (pc := 16) (tgt := 21) (dd d_Mod_output 9 rfl) (by decide) ?_
      exact K9 _ (by rw [if_neg q1])
  intro z hz
  subst hz
  refine g_iconst (pc := 21) (v := 1) (dd d_Mod_output 11 rfl) (by decide) ?_
  refine g_isub (pc := 22) (dd d_Mod_output 12 rfl) ?_
  obtain ⟨v2, e3, h⟩ := bnd_e h
  refine g_callS (pc := 23) (dd d_Mod_output 13 rfl) s_Mod_243 (ef_Mod_in hX e3) rfl (by rw [hk]; decide) (Nat.le_of_ble_eq_true rfl) ⟨Nat.zero_le _, Nat.zero_le _⟩ rfl ?_
  suffices K26 : ∀ z : Int32, z = (if v2 = 0 then 1 else 0 : Int32) → GG Δ m_Mod_output Γ NN 0 0 (I, X) 34 [some (.ref (Δ.ba + MO)), some (.int (x1))] [.int (z), .ref (Δ.ba + MO)] by
    refine g_ifne (pc := 26) (tgt := 33) (dd d_Mod_output 14 rfl) (by decide) (fun q4 => ?_) (fun q4 => ?_)
    · skip
      refine g_iconst (pc := 33) (v := 0) (dd d_Mod_output 17 rfl) (by decide) ?_
      exact K26 _ (by rw [if_neg q4])
    · skip
      refine g_iconst (pc := 29) (v := 1) (dd d_Mod_output 15 rfl) (by decide) ?_
      refine g_goto (pc := 30) (tgt := 34) (dd d_Mod_output 16 rfl) (by decide) ?_
      exact K26 _ (by rw [if_pos q4])
  intro z hz
  subst hz
  refine g_iconst (pc := 34) (v := 0) (dd d_Mod_output 18 rfl) (by decide) ?_
  obtain ⟨v5, e6, h⟩ := bnd_e h
  refine g_callV (pc := 35) (dd d_Mod_output 19 rfl) v_Mod_250 ob_MO rfl (ef_Mod_refuse hX e6) rfl (by rw [hk]; decide) (Nat.le_of_ble_eq_true rfl) ⟨Nat.zero_le _, Nat.zero_le _⟩ rfl ?_
  refine g_ifeq (pc := 38) (tgt := 45) (dd d_Mod_output 20 rfl) (by decide) (fun q7 => ?_) (fun q7 => ?_)
  · replace h := ite_t h q7
    refine g_aload_n (pc := 45) (dd d_Mod_output 23 rfl) rfl ?_
    refine g_getr (pc := 46) (dd d_Mod_output 24 rfl) f_Mod_86 ob_MO rfl (mr_output hX) ?_
    refine g_iload_n (pc := 49) (dd d_Mod_output 25 rfl) rfl ?_
    obtain ⟨c8, h⟩ := chk_e h
    refine g_iald (pc := 50) (dd d_Mod_output 26 rfl) ar_A_output c8 ?_
    refine g_drop [0, 1] ?_
    exact gb_Mod_output_51 hX hk hT  h
  · replace h := ite_f h q7
    refine g_iconst (pc := 41) (v := 0) (dd d_Mod_output 21 rfl) (by decide) ?_
    refine g_goto (pc := 42) (tgt := 51) (dd d_Mod_output 22 rfl) (by decide) ?_
    refine g_drop [0, 1] ?_
    exact gb_Mod_output_51 hX hk hT  h
def b_Mod_pairOf_67   (y0 : Int32) (I : IM) : Option (Int32 × IM) := some (y0, I)
set_option maxRecDepth 20000 in
set_option maxHeartbeats 4000000 in
theorem gb_Mod_pairOf_67 {Δ : Dx} {X : Lx} (hX : MX Δ X)    {Γ : Cx} (hk : Γ.k = 1) {r : Int32 × IM} (hT : Tg Δ Γ (some (.int r.1)) NN (r.2, X) 0 0)  {y0 : Int32} {I : IM} (h : b_Mod_pairOf_67   y0 I = some r) : GG Δ m_Mod_pairOf Γ NN 0 0 (I, X) 67 [none, none, none, none] [.int (y0)] := by
  unfold b_Mod_pairOf_67 at h
  cases h
  exact g_iret (pc := 67) rfl (dd d_Mod_pairOf 39 rfl) hT
def b_Mod_pairOf_40   (x1 : Int32) (x2 : Int32) (y2 : Int32) (y1 : Int32) (I : IM) : Option (Int32 × IM) := Option.bind (f_Mod_refuse  y1 y2 I) fun v14 => if (v14.1 : Int32) = 0 then (if x2 = 0 then (chk (inb x1 60) <| b_Mod_pairOf_67   (v14.2 A_firsts x1.toNatClampNeg) v14.2) else (chk (inb x1 60) <| b_Mod_pairOf_67   (v14.2 A_seconds x1.toNatClampNeg) v14.2)) else (some (0, v14.2))
set_option maxRecDepth 20000 in
set_option maxHeartbeats 4000000 in
theorem gb_Mod_pairOf_40 {Δ : Dx} {X : Lx} (hX : MX Δ X)    {Γ : Cx} (hk : Γ.k = 1) {r : Int32 × IM} (hT : Tg Δ Γ (some (.int r.1)) NN (r.2, X) 0 0)  {x1 : Int32} {x2 : Int32} {y2 : Int32} {y1 : Int32} {I : IM} (h : b_Mod_pairOf_40   x1 x2 y2 y1 I = some r) : GG Δ m_Mod_pairOf Γ NN 0 0 (I, X) 40 [some (.ref (Δ.ba + MO)), some (.int (x1)), some (.int (x2)), none] [.int (y2), .int (y1), .ref (Δ.ba + MO)] := by
  unfold b_Mod_pairOf_40 at h
  obtain ⟨v14, e15, h⟩ := bnd_e h
  refine g_callV (pc := 40) (dd d_Mod_pairOf 24 rfl) v_Mod_250 ob_MO rfl (ef_Mod_refuse hX e15) rfl (by rw [hk]; decide) (Nat.le_of_ble_eq_true rfl) ⟨Nat.zero_le _, Nat.zero_le _⟩ rfl ?_
  refine g_ifeq (pc := 43) (tgt := 48) (dd d_Mod_pairOf 25 rfl) (by decide) (fun q16 => ?_) (fun q16 => ?_)
  · replace h := ite_t h q16
    refine g_iload_n (pc := 48) (dd d_Mod_pairOf 28 rfl) rfl ?_
    refine g_ifne (pc := 49) (tgt := 61) (dd d_Mod_pairOf 29 rfl) (by decide) (fun q17 => ?_) (fun q17 => ?_)
    · replace h := ite_f h q17
      refine g_aload_n (pc := 61) (dd d_Mod_pairOf 35 rfl) rfl ?_
      refine g_getr (pc := 62) (dd d_Mod_pairOf 36 rfl) f_Mod_92 ob_MO rfl (mr_seconds hX) ?_
      refine g_iload_n (pc := 65) (dd d_Mod_pairOf 37 rfl) rfl ?_
      obtain ⟨c18, h⟩ := chk_e h
      refine g_iald (pc := 66) (dd d_Mod_pairOf 38 rfl) ar_A_seconds c18 ?_
      refine g_drop [0, 1, 2] ?_
      exact gb_Mod_pairOf_67 hX hk hT  h
    · replace h := ite_t h q17
      refine g_aload_n (pc := 52) (dd d_Mod_pairOf 30 rfl) rfl ?_
      refine g_getr (pc := 53) (dd d_Mod_pairOf 31 rfl) f_Mod_89 ob_MO rfl (mr_firsts hX) ?_
      refine g_iload_n (pc := 56) (dd d_Mod_pairOf 32 rfl) rfl ?_
      obtain ⟨c19, h⟩ := chk_e h
      refine g_iald (pc := 57) (dd d_Mod_pairOf 33 rfl) ar_A_firsts c19 ?_
      refine g_goto (pc := 58) (tgt := 67) (dd d_Mod_pairOf 34 rfl) (by decide) ?_
      refine g_drop [0, 1, 2] ?_
      exact gb_Mod_pairOf_67 hX hk hT  h
  · replace h := ite_f h q16
    refine g_iconst (pc := 46) (v := 0) (dd d_Mod_pairOf 26 rfl) (by decide) ?_
    cases h
    exact g_iret (pc := 47) rfl (dd d_Mod_pairOf 27 rfl) hT
def b_Mod_pairOf_39   (x1 : Int32) (x2 : Int32) (y1 : Int32) (I : IM) : Option (Int32 × IM) := b_Mod_pairOf_40   x1 x2 0 y1 I
set_option maxRecDepth 20000 in
set_option maxHeartbeats 4000000 in
theorem gb_Mod_pairOf_39 {Δ : Dx} {X : Lx} (hX : MX Δ X)    {Γ : Cx} (hk : Γ.k = 1) {r : Int32 × IM} (hT : Tg Δ Γ (some (.int r.1)) NN (r.2, X) 0 0)  {x1 : Int32} {x2 : Int32} {y1 : Int32} {I : IM} (h : b_Mod_pairOf_39   x1 x2 y1 I = some r) : GG Δ m_Mod_pairOf Γ NN 0 0 (I, X) 39 [some (.ref (Δ.ba + MO)), some (.int (x1)), some (.int (x2)), none] [.int (y1), .ref (Δ.ba + MO)] := by
  unfold b_Mod_pairOf_39 at h
  refine g_iconst (pc := 39) (v := 0) (dd d_Mod_pairOf 23 rfl) (by decide) ?_
  exact gb_Mod_pairOf_40 hX hk hT  h
def f_Mod_pairOf (x1 : Int32) (x2 : Int32) (I : IM) : Option (Int32 × IM) := Option.bind (f_Mod_in  x1 0 ((I MO 55) - 1) I) fun v1 => if v1 = 0 then (b_Mod_pairOf_39   x1 x2 (if v1 = 0 then 1 else 0) I) else (Option.bind (f_Mod_in  x2 0 1 I) fun v5 => Option.bind (f_Mod_refuse  (if v1 = 0 then 1 else 0) (if v5 = 0 then 1 else 0) I) fun v8 => if (v8.1 : Int32) = 0 then (if x2 = 0 then (chk (inb x1 60) <| b_Mod_pairOf_67   (v8.2 A_firsts x1.toNatClampNeg) v8.2) else (chk (inb x1 60) <| b_Mod_pairOf_67   (v8.2 A_seconds x1.toNatClampNeg) v8.2)) else (some (0, v8.2)))
set_option maxRecDepth 20000 in
set_option maxHeartbeats 4000000 in
theorem ef_Mod_pairOf {Δ : Dx} {X : Lx} (hX : MX Δ X) {x1 : Int32} {x2 : Int32}  {I : IM}  {r : Int32 × IM} (h : f_Mod_pairOf x1 x2 I = some r) : Ev Δ 1 m_Mod_pairOf [.ref (Δ.ba + MO), .int x1, .int x2] (I, X) (some (.int r.1)) (r.2, X) := by
  refine ev_of (by decide) (Nat.le_of_ble_eq_true rfl) (fun Γ hk hR hT => ?_)
  change GG Δ m_Mod_pairOf Γ NN 0 0 (I, X) 0 [some (.ref (Δ.ba + MO)), some (.int (x1)), some (.int (x2)), none] []
  unfold f_Mod_pairOf at h
  refine g_iload_n (pc := 0) (dd d_Mod_pairOf 0 rfl) rfl ?_
  refine g_iconst (pc := 1) (v := 0) (dd d_Mod_pairOf 1 rfl) (by decide) ?_
  refine g_aload_n (pc := 2) (dd d_Mod_pairOf 2 rfl) rfl ?_
  refine g_geti (pc := 3) (dd d_Mod_pairOf 3 rfl) f_Mod_415 ob_MO rfl ?_
  refine g_iconst (pc := 6) (v := 1) (dd d_Mod_pairOf 4 rfl) (by decide) ?_
  refine g_isub (pc := 7) (dd d_Mod_pairOf 5 rfl) ?_
  obtain ⟨v1, e2, h⟩ := bnd_e h
  refine g_callS (pc := 8) (dd d_Mod_pairOf 6 rfl) s_Mod_243 (ef_Mod_in hX e2) rfl (by rw [hk]; decide) (Nat.le_of_ble_eq_true rfl) ⟨Nat.zero_le _, Nat.zero_le _⟩ rfl ?_
  refine g_istore_n (pc := 11) (dd d_Mod_pairOf 7 rfl) (by decide) ?_
  refine g_aload_n (pc := 12) (dd d_Mod_pairOf 8 rfl) rfl ?_
  refine g_iload_n (pc := 13) (dd d_Mod_pairOf 9 rfl) rfl ?_
  suffices K14 : ∀ z : Int32, z = (if v1 = 0 then 1 else 0 : Int32) → GG Δ m_Mod_pairOf Γ NN 0 0 (I, X) 22 [some (.ref (Δ.ba + MO)), some (.int (x1)), some (.int (x2)), some (.int (v1))] [.int (z), .ref (Δ.ba + MO)] by
    refine g_ifne (pc := 14) (tgt := 21) (dd d_Mod_pairOf 10 rfl) (by decide) (fun q3 => ?_) (fun q3 => ?_)
    · skip
      refine g_iconst (pc := 21) (v := 0) (dd d_Mod_pairOf 13 rfl) (by decide) ?_
      exact K14 _ (by rw [if_neg q3])
    · skip
      refine g_iconst (pc := 17) (v := 1) (dd d_Mod_pairOf 11 rfl) (by decide) ?_
      refine g_goto (pc := 18) (tgt := 22) (dd d_Mod_pairOf 12 rfl) (by decide) ?_
      exact K14 _ (by rw [if_pos q3])
  intro z hz
  subst hz
  refine g_iload_n (pc := 22) (dd d_Mod_pairOf 14 rfl) rfl ?_
  refine g_ifeq (pc := 23) (tgt := 39) (dd d_Mod_pairOf 15 rfl) (by decide) (fun q4 => ?_) (fun q4 => ?_)
  · replace h := ite_t h q4
    refine g_drop [3] ?_
    exact gb_Mod_pairOf_39 hX hk hT  h
  · replace h := ite_f h q4
    refine g_iload_n (pc := 26) (dd d_Mod_pairOf 16 rfl) rfl ?_
    refine g_iconst (pc := 27) (v := 0) (dd d_Mod_pairOf 17 rfl) (by decide) ?_
    refine g_iconst (pc := 28) (v := 1) (dd d_Mod_pairOf 18 rfl) (by decide) ?_
    obtain ⟨v5, e6, h⟩ := bnd_e h
    refine g_callS (pc := 29) (dd d_Mod_pairOf 19 rfl) s_Mod_243 (ef_Mod_in hX e6) rfl (by rw [hk]; decide) (Nat.le_of_ble_eq_true rfl) ⟨Nat.zero_le _, Nat.zero_le _⟩ rfl ?_
    suffices K32 : ∀ z : Int32, z = (if v5 = 0 then 1 else 0 : Int32) → GG Δ m_Mod_pairOf Γ NN 0 0 (I, X) 40 [some (.ref (Δ.ba + MO)), some (.int (x1)), some (.int (x2)), some (.int (v1))] [.int (z), .int (if v1 = 0 then 1 else 0), .ref (Δ.ba + MO)] by
      refine g_ifne (pc := 32) (tgt := 39) (dd d_Mod_pairOf 20 rfl) (by decide) (fun q7 => ?_) (fun q7 => ?_)
      · skip
        refine g_iconst (pc := 39) (v := 0) (dd d_Mod_pairOf 23 rfl) (by decide) ?_
        exact K32 _ (by rw [if_neg q7])
      · skip
        refine g_iconst (pc := 35) (v := 1) (dd d_Mod_pairOf 21 rfl) (by decide) ?_
        refine g_goto (pc := 36) (tgt := 40) (dd d_Mod_pairOf 22 rfl) (by decide) ?_
        exact K32 _ (by rw [if_pos q7])
    intro z hz
    subst hz
    obtain ⟨v8, e9, h⟩ := bnd_e h
    refine g_callV (pc := 40) (dd d_Mod_pairOf 24 rfl) v_Mod_250 ob_MO rfl (ef_Mod_refuse hX e9) rfl (by rw [hk]; decide) (Nat.le_of_ble_eq_true rfl) ⟨Nat.zero_le _, Nat.zero_le _⟩ rfl ?_
    refine g_ifeq (pc := 43) (tgt := 48) (dd d_Mod_pairOf 25 rfl) (by decide) (fun q10 => ?_) (fun q10 => ?_)
    · replace h := ite_t h q10
      refine g_iload_n (pc := 48) (dd d_Mod_pairOf 28 rfl) rfl ?_
      refine g_ifne (pc := 49) (tgt := 61) (dd d_Mod_pairOf 29 rfl) (by decide) (fun q11 => ?_) (fun q11 => ?_)
      · replace h := ite_f h q11
        refine g_aload_n (pc := 61) (dd d_Mod_pairOf 35 rfl) rfl ?_
        refine g_getr (pc := 62) (dd d_Mod_pairOf 36 rfl) f_Mod_92 ob_MO rfl (mr_seconds hX) ?_
        refine g_iload_n (pc := 65) (dd d_Mod_pairOf 37 rfl) rfl ?_
        obtain ⟨c12, h⟩ := chk_e h
        refine g_iald (pc := 66) (dd d_Mod_pairOf 38 rfl) ar_A_seconds c12 ?_
        refine g_drop [0, 1, 2, 3] ?_
        exact gb_Mod_pairOf_67 hX hk hT  h
      · replace h := ite_t h q11
        refine g_aload_n (pc := 52) (dd d_Mod_pairOf 30 rfl) rfl ?_
        refine g_getr (pc := 53) (dd d_Mod_pairOf 31 rfl) f_Mod_89 ob_MO rfl (mr_firsts hX) ?_
        refine g_iload_n (pc := 56) (dd d_Mod_pairOf 32 rfl) rfl ?_
        obtain ⟨c13, h⟩ := chk_e h
        refine g_iald (pc := 57) (dd d_Mod_pairOf 33 rfl) ar_A_firsts c13 ?_
        refine g_goto (pc := 58) (tgt := 67) (dd d_Mod_pairOf 34 rfl) (by decide) ?_
        refine g_drop [0, 1, 2, 3] ?_
        exact gb_Mod_pairOf_67 hX hk hT  h
    · replace h := ite_f h q10
      refine g_iconst (pc := 46) (v := 0) (dd d_Mod_pairOf 26 rfl) (by decide) ?_
      cases h
      exact g_iret (pc := 47) rfl (dd d_Mod_pairOf 27 rfl) hT
def f_Mod_blame  (I : IM) : Option (Int32 × IM) := lt (up I MO 0 (0)) fun I1 => some (if (I1 MO 50 : Int32) = (3 : Int32) then (I1 MO 66) else (-1), I1)
set_option maxRecDepth 20000 in
set_option maxHeartbeats 4000000 in
theorem ef_Mod_blame {Δ : Dx} {X : Lx} (hX : MX Δ X)   {I : IM}  {r : Int32 × IM} (h : f_Mod_blame  I = some r) : Ev Δ 0 m_Mod_blame [.ref (Δ.ba + MO)] (I, X) (some (.int r.1)) (r.2, X) := by
  refine ev_of (by decide) (Nat.le_of_ble_eq_true rfl) (fun Γ hk hR hT => ?_)
  change GG Δ m_Mod_blame Γ NN 0 0 (I, X) 0 [some (.ref (Δ.ba + MO))] []
  unfold f_Mod_blame at h
  refine g_aload_n (pc := 0) (dd d_Mod_blame 0 rfl) rfl ?_
  refine g_iconst (pc := 1) (v := 0) (dd d_Mod_blame 1 rfl) (by decide) ?_
  refine g_putiN (pc := 2) (dd d_Mod_blame 2 rfl) f_Mod_240 fm_Mod_0 ob_MO rfl (fun I1 hI1 => ?_)
  replace h := lt_e h hI1
  refine g_aload_n (pc := 5) (dd d_Mod_blame 3 rfl) rfl ?_
  refine g_geti (pc := 6) (dd d_Mod_blame 4 rfl) f_Mod_406 ob_MO rfl ?_
  refine g_iconst (pc := 9) (v := 3) (dd d_Mod_blame 5 rfl) (by decide) ?_
  suffices K10 : ∀ z : Int32, z = (if (I1 MO 50 : Int32) = (3 : Int32) then (I1 MO 66) else (-1) : Int32) → GG Δ m_Mod_blame Γ NN 0 0 (I1, X) 21 [some (.ref (Δ.ba + MO))] [.int (z)] by
    refine g_icmpne (pc := 10) (tgt := 20) (dd d_Mod_blame 6 rfl) (by decide) (fun q2 => ?_) (fun q2 => ?_)
    · skip
      refine g_iconst (pc := 20) (v := (-1)) (dd d_Mod_blame 10 rfl) (by decide) ?_
      exact K10 _ (by rw [if_neg q2])
    · skip
      refine g_aload_n (pc := 13) (dd d_Mod_blame 7 rfl) rfl ?_
      refine g_geti (pc := 14) (dd d_Mod_blame 8 rfl) f_Mod_110 ob_MO rfl ?_
      refine g_goto (pc := 17) (tgt := 21) (dd d_Mod_blame 9 rfl) (by decide) ?_
      exact K10 _ (by rw [if_pos q2])
  intro z hz
  subst hz
  cases h
  exact g_iret (pc := 21) rfl (dd d_Mod_blame 11 rfl) hT
def b_Mod_journal_54   (x1 : Int32) (x2 : Int32) (y2 : Int32) (y1 : Int32) (I : IM) : Option (Int32 × IM) := Option.bind (f_Mod_refuse  y1 y2 I) fun v13 => if (v13.1 : Int32) = 0 then (chk (inb ((6 * ((((v13.2 MO 63) - 1) - x1) - (((v13.2 MO 63) - 1) - x1) / (16) * (16))) + x2) 96) <| some (v13.2 A_entries ((6 * ((((v13.2 MO 63) - 1) - x1) - (((v13.2 MO 63) - 1) - x1) / (16) * (16))) + x2 : Int32).toNatClampNeg, v13.2)) else (some (0, v13.2))
set_option maxRecDepth 20000 in
set_option maxHeartbeats 4000000 in
theorem gb_Mod_journal_54 {Δ : Dx} {X : Lx} (hX : MX Δ X)    {Γ : Cx} (hk : Γ.k = 1) {r : Int32 × IM} (hT : Tg Δ Γ (some (.int r.1)) NN (r.2, X) 0 0)  {x1 : Int32} {x2 : Int32} {y2 : Int32} {y1 : Int32} {I : IM} (h : b_Mod_journal_54   x1 x2 y2 y1 I = some r) : GG Δ m_Mod_journal Γ NN 0 0 (I, X) 54 [some (.ref (Δ.ba + MO)), some (.int (x1)), some (.int (x2)), none] [.int (y2), .int (y1), .ref (Δ.ba + MO)] := by
  unfold b_Mod_journal_54 at h
  obtain ⟨v13, e14, h⟩ := bnd_e h
  refine g_callV (pc := 54) (dd d_Mod_journal 30 rfl) v_Mod_250 ob_MO rfl (ef_Mod_refuse hX e14) rfl (by rw [hk]; decide) (Nat.le_of_ble_eq_true rfl) ⟨Nat.zero_le _, Nat.zero_le _⟩ rfl ?_
  refine g_ifeq (pc := 57) (tgt := 62) (dd d_Mod_journal 31 rfl) (by decide) (fun q15 => ?_) (fun q15 => ?_)
  · replace h := ite_t h q15
    refine g_aload_n (pc := 62) (dd d_Mod_journal 34 rfl) rfl ?_
    refine g_getr (pc := 63) (dd d_Mod_journal 35 rfl) f_Mod_104 ob_MO rfl (mr_entries hX) ?_
    refine g_bipush (pc := 66) (v := 6) (dd d_Mod_journal 36 rfl) (by decide) ?_
    refine g_aload_n (pc := 68) (dd d_Mod_journal 37 rfl) rfl ?_
    refine g_geti (pc := 69) (dd d_Mod_journal 38 rfl) f_Mod_418 ob_MO rfl ?_
    refine g_iconst (pc := 72) (v := 1) (dd d_Mod_journal 39 rfl) (by decide) ?_
    refine g_isub (pc := 73) (dd d_Mod_journal 40 rfl) ?_
    refine g_iload_n (pc := 74) (dd d_Mod_journal 41 rfl) rfl ?_
    refine g_isub (pc := 75) (dd d_Mod_journal 42 rfl) ?_
    refine g_bipush (pc := 76) (v := 16) (dd d_Mod_journal 43 rfl) (by decide) ?_
    refine g_irem (pc := 78) (dd d_Mod_journal 44 rfl) (by decide) ?_
    refine g_imul (pc := 79) (dd d_Mod_journal 45 rfl) ?_
    refine g_iload_n (pc := 80) (dd d_Mod_journal 46 rfl) rfl ?_
    refine g_iadd (pc := 81) (dd d_Mod_journal 47 rfl) ?_
    obtain ⟨c16, h⟩ := chk_e h
    refine g_iald (pc := 82) (dd d_Mod_journal 48 rfl) ar_A_entries c16 ?_
    cases h
    exact g_iret (pc := 83) rfl (dd d_Mod_journal 49 rfl) hT
  · replace h := ite_f h q15
    refine g_iconst (pc := 60) (v := 0) (dd d_Mod_journal 32 rfl) (by decide) ?_
    cases h
    exact g_iret (pc := 61) rfl (dd d_Mod_journal 33 rfl) hT
def b_Mod_journal_53   (x1 : Int32) (x2 : Int32) (y1 : Int32) (I : IM) : Option (Int32 × IM) := b_Mod_journal_54   x1 x2 0 y1 I
set_option maxRecDepth 20000 in
set_option maxHeartbeats 4000000 in
theorem gb_Mod_journal_53 {Δ : Dx} {X : Lx} (hX : MX Δ X)    {Γ : Cx} (hk : Γ.k = 1) {r : Int32 × IM} (hT : Tg Δ Γ (some (.int r.1)) NN (r.2, X) 0 0)  {x1 : Int32} {x2 : Int32} {y1 : Int32} {I : IM} (h : b_Mod_journal_53   x1 x2 y1 I = some r) : GG Δ m_Mod_journal Γ NN 0 0 (I, X) 53 [some (.ref (Δ.ba + MO)), some (.int (x1)), some (.int (x2)), none] [.int (y1), .ref (Δ.ba + MO)] := by
  unfold b_Mod_journal_53 at h
  refine g_iconst (pc := 53) (v := 0) (dd d_Mod_journal 29 rfl) (by decide) ?_
  exact gb_Mod_journal_54 hX hk hT  h
def f_Mod_journal (x1 : Int32) (x2 : Int32) (I : IM) : Option (Int32 × IM) := Option.bind (f_Mod_in  x1 0 ((if (16 : Int32) ≤ (I MO 63 : Int32) then 16 else (I MO 63) : Int32) - 1) I) fun v2 => if v2 = 0 then (b_Mod_journal_53   x1 x2 (if v2 = 0 then 1 else 0) I) else (Option.bind (f_Mod_in  x2 0 5 I) fun v6 => Option.bind (f_Mod_refuse  (if v2 = 0 then 1 else 0) (if v6 = 0 then 1 else 0) I) fun v9 => if (v9.1 : Int32) = 0 then (chk (inb ((6 * ((((v9.2 MO 63) - 1) - x1) - (((v9.2 MO 63) - 1) - x1) / (16) * (16))) + x2) 96) <| some (v9.2 A_entries ((6 * ((((v9.2 MO 63) - 1) - x1) - (((v9.2 MO 63) - 1) - x1) / (16) * (16))) + x2 : Int32).toNatClampNeg, v9.2)) else (some (0, v9.2)))
set_option maxRecDepth 20000 in
set_option maxHeartbeats 4000000 in
theorem ef_Mod_journal {Δ : Dx} {X : Lx} (hX : MX Δ X) {x1 : Int32} {x2 : Int32}  {I : IM}  {r : Int32 × IM} (h : f_Mod_journal x1 x2 I = some r) : Ev Δ 1 m_Mod_journal [.ref (Δ.ba + MO), .int x1, .int x2] (I, X) (some (.int r.1)) (r.2, X) := by
  refine ev_of (by decide) (Nat.le_of_ble_eq_true rfl) (fun Γ hk hR hT => ?_)
  change GG Δ m_Mod_journal Γ NN 0 0 (I, X) 0 [some (.ref (Δ.ba + MO)), some (.int (x1)), some (.int (x2)), none] []
  unfold f_Mod_journal at h
  refine g_iload_n (pc := 0) (dd d_Mod_journal 0 rfl) rfl ?_
  refine g_iconst (pc := 1) (v := 0) (dd d_Mod_journal 1 rfl) (by decide) ?_
  refine g_aload_n (pc := 2) (dd d_Mod_journal 2 rfl) rfl ?_
  refine g_geti (pc := 3) (dd d_Mod_journal 3 rfl) f_Mod_418 ob_MO rfl ?_
  refine g_bipush (pc := 6) (v := 16) (dd d_Mod_journal 4 rfl) (by decide) ?_
  suffices K8 : ∀ z : Int32, z = (if (16 : Int32) ≤ (I MO 63 : Int32) then 16 else (I MO 63) : Int32) → GG Δ m_Mod_journal Γ NN 0 0 (I, X) 20 [some (.ref (Δ.ba + MO)), some (.int (x1)), some (.int (x2)), none] [.int (z), .int (0), .int (x1)] by
    refine g_icmpge (pc := 8) (tgt := 18) (dd d_Mod_journal 5 rfl) (by decide) (fun q1 => ?_) (fun q1 => ?_)
    · skip
      refine g_bipush (pc := 18) (v := 16) (dd d_Mod_journal 9 rfl) (by decide) ?_
      exact K8 _ (by rw [if_pos q1])
    · skip
      refine g_aload_n (pc := 11) (dd d_Mod_journal 6 rfl) rfl ?_
      refine g_geti (pc := 12) (dd d_Mod_journal 7 rfl) f_Mod_418 ob_MO rfl ?_
      refine g_goto (pc := 15) (tgt := 20) (dd d_Mod_journal 8 rfl) (by decide) ?_
      exact K8 _ (by rw [if_neg q1])
  intro z hz
  subst hz
  refine g_iconst (pc := 20) (v := 1) (dd d_Mod_journal 10 rfl) (by decide) ?_
  refine g_isub (pc := 21) (dd d_Mod_journal 11 rfl) ?_
  obtain ⟨v2, e3, h⟩ := bnd_e h
  refine g_callS (pc := 22) (dd d_Mod_journal 12 rfl) s_Mod_243 (ef_Mod_in hX e3) rfl (by rw [hk]; decide) (Nat.le_of_ble_eq_true rfl) ⟨Nat.zero_le _, Nat.zero_le _⟩ rfl ?_
  refine g_istore_n (pc := 25) (dd d_Mod_journal 13 rfl) (by decide) ?_
  refine g_aload_n (pc := 26) (dd d_Mod_journal 14 rfl) rfl ?_
  refine g_iload_n (pc := 27) (dd d_Mod_journal 15 rfl) rfl ?_
  suffices K28 : ∀ z : Int32, z = (if v2 = 0 then 1 else 0 : Int32) → GG Δ m_Mod_journal Γ NN 0 0 (I, X) 36 [some (.ref (Δ.ba + MO)), some (.int (x1)), some (.int (x2)), some (.int (v2))] [.int (z), .ref (Δ.ba + MO)] by
    refine g_ifne (pc := 28) (tgt := 35) (dd d_Mod_journal 16 rfl) (by decide) (fun q4 => ?_) (fun q4 => ?_)
    · skip
      refine g_iconst (pc := 35) (v := 0) (dd d_Mod_journal 19 rfl) (by decide) ?_
      exact K28 _ (by rw [if_neg q4])
    · skip
      refine g_iconst (pc := 31) (v := 1) (dd d_Mod_journal 17 rfl) (by decide) ?_
      refine g_goto (pc := 32) (tgt := 36) (dd d_Mod_journal 18 rfl) (by decide) ?_
      exact K28 _ (by rw [if_pos q4])
  intro z hz
  subst hz
  refine g_iload_n (pc := 36) (dd d_Mod_journal 20 rfl) rfl ?_
  refine g_ifeq (pc := 37) (tgt := 53) (dd d_Mod_journal 21 rfl) (by decide) (fun q5 => ?_) (fun q5 => ?_)
  · replace h := ite_t h q5
    refine g_drop [3] ?_
    exact gb_Mod_journal_53 hX hk hT  h
  · replace h := ite_f h q5
    refine g_iload_n (pc := 40) (dd d_Mod_journal 22 rfl) rfl ?_
    refine g_iconst (pc := 41) (v := 0) (dd d_Mod_journal 23 rfl) (by decide) ?_
    refine g_iconst (pc := 42) (v := 5) (dd d_Mod_journal 24 rfl) (by decide) ?_
    obtain ⟨v6, e7, h⟩ := bnd_e h
    refine g_callS (pc := 43) (dd d_Mod_journal 25 rfl) s_Mod_243 (ef_Mod_in hX e7) rfl (by rw [hk]; decide) (Nat.le_of_ble_eq_true rfl) ⟨Nat.zero_le _, Nat.zero_le _⟩ rfl ?_
    suffices K46 : ∀ z : Int32, z = (if v6 = 0 then 1 else 0 : Int32) → GG Δ m_Mod_journal Γ NN 0 0 (I, X) 54 [some (.ref (Δ.ba + MO)), some (.int (x1)), some (.int (x2)), some (.int (v2))] [.int (z), .int (if v2 = 0 then 1 else 0), .ref (Δ.ba + MO)] by
      refine g_ifne (pc := 46) (tgt := 53) (dd d_Mod_journal 26 rfl) (by decide) (fun q8 => ?_) (fun q8 => ?_)
      · skip
        refine g_iconst (pc := 53) (v := 0) (dd d_Mod_journal 29 rfl) (by decide) ?_
        exact K46 _ (by rw [if_neg q8])
      · skip
        refine g_iconst (pc := 49) (v := 1) (dd d_Mod_journal 27 rfl) (by decide) ?_
        refine g_goto (pc := 50) (tgt := 54) (dd d_Mod_journal 28 rfl) (by decide) ?_
        exact K46 _ (by rw [if_pos q8])
    intro z hz
    subst hz
    obtain ⟨v9, e10, h⟩ := bnd_e h
    refine g_callV (pc := 54) (dd d_Mod_journal 30 rfl) v_Mod_250 ob_MO rfl (ef_Mod_refuse hX e10) rfl (by rw [hk]; decide) (Nat.le_of_ble_eq_true rfl) ⟨Nat.zero_le _, Nat.zero_le _⟩ rfl ?_
    refine g_ifeq (pc := 57) (tgt := 62) (dd d_Mod_journal 31 rfl) (by decide) (fun q11 => ?_) (fun q11 => ?_)
    · replace h := ite_t h q11
      refine g_aload_n (pc := 62) (dd d_Mod_journal 34 rfl) rfl ?_
      refine g_getr (pc := 63) (dd d_Mod_journal 35 rfl) f_Mod_104 ob_MO rfl (mr_entries hX) ?_
      refine g_bipush (pc := 66) (v := 6) (dd d_Mod_journal 36 rfl) (by decide) ?_
      refine g_aload_n (pc := 68) (dd d_Mod_journal 37 rfl) rfl ?_
      refine g_geti (pc := 69) (dd d_Mod_journal 38 rfl) f_Mod_418 ob_MO rfl ?_
      refine g_iconst (pc := 72) (v := 1) (dd d_Mod_journal 39 rfl) (by decide) ?_
      refine g_isub (pc := 73) (dd d_Mod_journal 40 rfl) ?_
      refine g_iload_n (pc := 74) (dd d_Mod_journal 41 rfl) rfl ?_
      refine g_isub (pc := 75) (dd d_Mod_journal 42 rfl) ?_
      refine g_bipush (pc := 76) (v := 16) (dd d_Mod_journal 43 rfl) (by decide) ?_
      refine g_irem (pc := 78) (dd d_Mod_journal 44 rfl) (by decide) ?_
      refine g_imul (pc := 79) (dd d_Mod_journal 45 rfl) ?_
      refine g_iload_n (pc := 80) (dd d_Mod_journal 46 rfl) rfl ?_
      refine g_iadd (pc := 81) (dd d_Mod_journal 47 rfl) ?_
      obtain ⟨c12, h⟩ := chk_e h
      refine g_iald (pc := 82) (dd d_Mod_journal 48 rfl) ar_A_entries c12 ?_
      cases h
      exact g_iret (pc := 83) rfl (dd d_Mod_journal 49 rfl) hT
    · replace h := ite_f h q11
      refine g_iconst (pc := 60) (v := 0) (dd d_Mod_journal 32 rfl) (by decide) ?_
      cases h
      exact g_iret (pc := 61) rfl (dd d_Mod_journal 33 rfl) hT
def b_Mod_count_25   (x1 : Int32) (x2 : Int32) (y1 : Int32) (I : IM) : Option (Int32 × IM) := Option.bind (f_Mod_refuse  y1 0 I) fun v11 => if (v11.1 : Int32) = 0 then (chk (inb ((4 * x1) + x2) 88) <| some (v11.2 A_counts ((4 * x1) + x2 : Int32).toNatClampNeg, v11.2)) else (some (0, v11.2))
set_option maxRecDepth 20000 in
set_option maxHeartbeats 4000000 in
theorem gb_Mod_count_25 {Δ : Dx} {X : Lx} (hX : MX Δ X)    {Γ : Cx} (hk : Γ.k = 1) {r : Int32 × IM} (hT : Tg Δ Γ (some (.int r.1)) NN (r.2, X) 0 0)  {x1 : Int32} {x2 : Int32} {y1 : Int32} {I : IM} (h : b_Mod_count_25   x1 x2 y1 I = some r) : GG Δ m_Mod_count Γ NN 0 0 (I, X) 25 [some (.ref (Δ.ba + MO)), some (.int (x1)), some (.int (x2))] [.int (y1), .ref (Δ.ba + MO)] := by
  unfold b_Mod_count_25 at h
  refine g_iconst (pc := 25) (v := 0) (dd d_Mod_count 14 rfl) (by decide) ?_
  obtain ⟨v11, e12, h⟩ := bnd_e h
  refine g_callV (pc := 26) (dd d_Mod_count 15 rfl) v_Mod_250 ob_MO rfl (ef_Mod_refuse hX e12) rfl (by rw [hk]; decide) (Nat.le_of_ble_eq_true rfl) ⟨Nat.zero_le _, Nat.zero_le _⟩ rfl ?_
  refine g_ifeq (pc := 29) (tgt := 34) (dd d_Mod_count 16 rfl) (by decide) (fun q13 => ?_) (fun q13 => ?_)
  · replace h := ite_t h q13
    refine g_aload_n (pc := 34) (dd d_Mod_count 19 rfl) rfl ?_
    refine g_getr (pc := 35) (dd d_Mod_count 20 rfl) f_Mod_107 ob_MO rfl (mr_counts hX) ?_
    refine g_iconst (pc := 38) (v := 4) (dd d_Mod_count 21 rfl) (by decide) ?_
    refine g_iload_n (pc := 39) (dd d_Mod_count 22 rfl) rfl ?_
    refine g_imul (pc := 40) (dd d_Mod_count 23 rfl) ?_
    refine g_iload_n (pc := 41) (dd d_Mod_count 24 rfl) rfl ?_
    refine g_iadd (pc := 42) (dd d_Mod_count 25 rfl) ?_
    obtain ⟨c14, h⟩ := chk_e h
    refine g_iald (pc := 43) (dd d_Mod_count 26 rfl) ar_A_counts c14 ?_
    cases h
    exact g_iret (pc := 44) rfl (dd d_Mod_count 27 rfl) hT
  · replace h := ite_f h q13
    refine g_iconst (pc := 32) (v := 0) (dd d_Mod_count 17 rfl) (by decide) ?_
    cases h
    exact g_iret (pc := 33) rfl (dd d_Mod_count 18 rfl) hT
def b_Mod_count_20   (x1 : Int32) (x2 : Int32) (I : IM) : Option (Int32 × IM) := b_Mod_count_25   x1 x2 1 I
set_option maxRecDepth 20000 in
set_option maxHeartbeats 4000000 in
theorem gb_Mod_count_20 {Δ : Dx} {X : Lx} (hX : MX Δ X)    {Γ : Cx} (hk : Γ.k = 1) {r : Int32 × IM} (hT : Tg Δ Γ (some (.int r.1)) NN (r.2, X) 0 0)  {x1 : Int32} {x2 : Int32} {I : IM} (h : b_Mod_count_20   x1 x2 I = some r) : GG Δ m_Mod_count Γ NN 0 0 (I, X) 20 [some (.ref (Δ.ba + MO)), some (.int (x1)), some (.int (x2))] [.ref (Δ.ba + MO)] := by
  unfold b_Mod_count_20 at h
  refine g_iconst (pc := 20) (v := 1) (dd d_Mod_count 11 rfl) (by decide) ?_
  refine g_goto (pc := 21) (tgt := 25) (dd d_Mod_count 12 rfl) (by decide) ?_
  exact gb_Mod_count_25 hX hk hT  h
def f_Mod_count (x1 : Int32) (x2 : Int32) (I : IM) : Option (Int32 × IM) := Option.bind (f_Mod_in  x1 0 21 I) fun v1 => if v1 = 0 then (b_Mod_count_20   x1 x2 I) else (Option.bind (f_Mod_in  x2 0 3 I) fun v4 => Option.bind (f_Mod_refuse  (if v4 = 0 then 1 else 0) 0 I) fun v7 => if (v7.1 : Int32) = 0 then (chk (inb ((4 * x1) + x2) 88) <| some (v7.2 A_counts ((4 * x1) + x2 : Int32).toNatClampNeg, v7.2)) else (some (0, v7.2)))
set_option maxRecDepth 20000 in
set_option maxHeartbeats 4000000 in
theorem ef_Mod_count {Δ : Dx} {X : Lx} (hX : MX Δ X) {x1 : Int32} {x2 : Int32}  {I : IM}  {r : Int32 × IM} (h : f_Mod_count x1 x2 I = some r) : Ev Δ 1 m_Mod_count [.ref (Δ.ba + MO), .int x1, .int x2] (I, X) (some (.int r.1)) (r.2, X) := by
  refine ev_of (by decide) (Nat.le_of_ble_eq_true rfl) (fun Γ hk hR hT => ?_)
  change GG Δ m_Mod_count Γ NN 0 0 (I, X) 0 [some (.ref (Δ.ba + MO)), some (.int (x1)), some (.int (x2))] []
  unfold f_Mod_count at h
  refine g_aload_n (pc := 0) (dd d_Mod_count 0 rfl) rfl ?_
  refine g_iload_n (pc := 1) (dd d_Mod_count 1 rfl) rfl ?_
  refine g_iconst (pc := 2) (v := 0) (dd d_Mod_count 2 rfl) (by decide) ?_
  refine g_bipush (pc := 3) (v := 21) (dd d_Mod_count 3 rfl) (by decide) ?_
  obtain ⟨v1, e2, h⟩ := bnd_e h
  refine g_callS (pc := 5) (dd d_Mod_count 4 rfl) s_Mod_243 (ef_Mod_in hX e2) rfl (by rw [hk]; decide) (Nat.le_of_ble_eq_true rfl) ⟨Nat.zero_le _, Nat.zero_le _⟩ rfl ?_
  refine g_ifeq (pc := 8) (tgt := 20) (dd d_Mod_count 5 rfl) (by decide) (fun q3 => ?_) (fun q3 => ?_)
  · replace h := ite_t h q3
    exact gb_Mod_count_20 hX hk hT  h
  · replace h := ite_f h q3
    refine g_iload_n (pc := 11) (dd d_Mod_count 6 rfl) rfl ?_
    refine g_iconst (pc := 12) (v := 0) (dd d_Mod_count 7 rfl) (by decide) ?_
    refine g_iconst (pc := 13) (v := 3) (dd d_Mod_count 8 rfl) (by decide) ?_
    obtain ⟨v4, e5, h⟩ := bnd_e h
    refine g_callS (pc := 14) (dd d_Mod_count 9 rfl) s_Mod_243 (ef_Mod_in hX e5) rfl (by rw [hk]; decide) (Nat.le_of_ble_eq_true rfl) ⟨Nat.zero_le _, Nat.zero_le _⟩ rfl ?_
    suffices K17 : ∀ z : Int32, z = (if v4 = 0 then 1 else 0 : Int32) → GG Δ m_Mod_count Γ NN 0 0 (I, X) 25 [some (.ref (Δ.ba + MO)), some (.int (x1)), some (.int (x2))] [.int (z), .ref (Δ.ba + MO)] by
      refine g_ifne (pc := 17) (tgt := 24) (dd d_Mod_count 10 rfl) (by decide) (fun q6 => ?_) (fun q6 => ?_)
      · skip
        refine g_iconst (pc := 24) (v := 0) (dd d_Mod_count 13 rfl) (by decide) ?_
        exact K17 _ (by rw [if_neg q6])
      · skip
        refine g_iconst (pc := 20) (v := 1) (dd d_Mod_count 11 rfl) (by decide) ?_
        refine g_goto (pc := 21) (tgt := 25) (dd d_Mod_count 12 rfl) (by decide) ?_
        exact K17 _ (by rw [if_pos q6])
    intro z hz
    subst hz
    refine g_iconst (pc := 25) (v := 0) (dd d_Mod_count 14 rfl) (by decide) ?_
    obtain ⟨v7, e8, h⟩ := bnd_e h
    refine g_callV (pc := 26) (dd d_Mod_count 15 rfl) v_Mod_250 ob_MO rfl (ef_Mod_refuse hX e8) rfl (by rw [hk]; decide) (Nat.le_of_ble_eq_true rfl) ⟨Nat.zero_le _, Nat.zero_le _⟩ rfl ?_
    refine g_ifeq (pc := 29) (tgt := 34) (dd d_Mod_count 16 rfl) (by decide) (fun q9 => ?_) (fun q9 => ?_)
    · replace h := ite_t h q9
      refine g_aload_n (pc := 34) (dd d_Mod_count 19 rfl) rfl ?_
      refine g_getr (pc := 35) (dd d_Mod_count 20 rfl) f_Mod_107 ob_MO rfl (mr_counts hX) ?_
      refine g_iconst (pc := 38) (v := 4) (dd d_Mod_count 21 rfl) (by decide) ?_
      refine g_iload_n (pc := 39) (dd d_Mod_count 22 rfl) rfl ?_
      refine g_imul (pc := 40) (dd d_Mod_count 23 rfl) ?_
      refine g_iload_n (pc := 41) (dd d_Mod_count 24 rfl) rfl ?_
      refine g_iadd (pc := 42) (dd d_Mod_count 25 rfl) ?_
      obtain ⟨c10, h⟩ := chk_e h
      refine g_iald (pc := 43) (dd d_Mod_count 26 rfl) ar_A_counts c10 ?_
      cases h
      exact g_iret (pc := 44) rfl (dd d_Mod_count 27 rfl) hT
    · replace h := ite_f h q9
      refine g_iconst (pc := 32) (v := 0) (dd d_Mod_count 17 rfl) (by decide) ?_
      cases h
      exact g_iret (pc := 33) rfl (dd d_Mod_count 18 rfl) hT
def b_Mod_cacheOf_206 (n : Nat)  (y0 : Int32) (I : IM) : Option (Int32 × IM) := some (y0, I)
set_option maxRecDepth 20000 in
set_option maxHeartbeats 4000000 in
theorem gb_Mod_cacheOf_206 {Δ : Dx} {X : Lx} (hX : MX Δ X)   {n : Nat} {Γ : Cx} (hk : Γ.k = 1) {r : Int32 × IM} (hT : Tg Δ Γ (some (.int r.1)) NN (r.2, X) 0 0)  {y0 : Int32} {I : IM} (h : b_Mod_cacheOf_206 n  y0 I = some r) : GG Δ m_Mod_cacheOf Γ NN 0 0 (I, X) 206 [none, none, none, none, none, none] [.int (y0)] := by
  unfold b_Mod_cacheOf_206 at h
  cases h
  exact g_iret (pc := 206) rfl (dd d_Mod_cacheOf_2 1 rfl) hT
def b_Mod_cacheOf_205 (n : Nat)   (I : IM) : Option (Int32 × IM) := b_Mod_cacheOf_206 n  0 I
set_option maxRecDepth 20000 in
set_option maxHeartbeats 4000000 in
theorem gb_Mod_cacheOf_205 {Δ : Dx} {X : Lx} (hX : MX Δ X)   {n : Nat} {Γ : Cx} (hk : Γ.k = 1) {r : Int32 × IM} (hT : Tg Δ Γ (some (.int r.1)) NN (r.2, X) 0 0)   {I : IM} (h : b_Mod_cacheOf_205 n   I = some r) : GG Δ m_Mod_cacheOf Γ NN 0 0 (I, X) 205 [none, none, none, none, none, none] [] := by
  unfold b_Mod_cacheOf_205 at h
  refine g_iconst (pc := 205) (v := 0) (dd d_Mod_cacheOf_2 0 rfl) (by decide) ?_
  exact gb_Mod_cacheOf_206 hX hk hT  h
def b_Mod_cacheOf_81 (n : Nat)  (x2 : Int32) (y0 : Int32) (I : IM) : Option (Int32 × IM) := if x2 = 0 then (chk (inb (16 * y0) 128) <| some (I A_cache (16 * y0 : Int32).toNatClampNeg, I)) else (if x2 ≤ (9 : Int32) then (chk (inb (5 * y0) 40) <| if x2 = (1 : Int32) then (some (if (if (I A_answers (5 * y0 : Int32).toNatClampNeg : Int32) = (3 : Int32) then 1 else 0 : Int32) = 0 then 0 else 3, I)) else (if (if (I A_answers (5 * y0 : Int32).toNatClampNeg : Int32) = (3 : Int32) then 1 else 0 : Int32) = 0 then (chk (inb (16 * y0) 128) <| chk (inb (I A_cache (16 * y0 : Int32).toNatClampNeg) 44) <| Option.bind (f_Mod_tells n (I A_ruleOf (I A_cache (16 * y0 : Int32).toNatClampNeg : Int32).toNatClampNeg) ((51 + x2) - 2) I) fun v23 => if v23 = 0 then (b_Mod_cacheOf_205 n  I) else (chk (inb (((5 * y0) + x2) - 1) 40) <| b_Mod_cacheOf_206 n  (I A_answers (((5 * y0) + x2) - 1 : Int32).toNatClampNeg) I)) else (b_Mod_cacheOf_205 n  I))) else (chk (inb (((16 * y0) + x2) - 9) 128) <| some (I A_cache (((16 * y0) + x2) - 9 : Int32).toNatClampNeg, I)))
set_option maxRecDepth 20000 in
set_option maxHeartbeats 4000000 in
theorem gb_Mod_cacheOf_81 {Δ : Dx} {X : Lx} (hX : MX Δ X)   {n : Nat} {Γ : Cx} (hk : Γ.k = 1) {r : Int32 × IM} (hT : Tg Δ Γ (some (.int r.1)) NN (r.2, X) 0 0)  {x2 : Int32} {y0 : Int32} {I : IM} (h : b_Mod_cacheOf_81 n  x2 y0 I = some r) : GG Δ m_Mod_cacheOf Γ NN 0 0 (I, X) 81 [some (.ref (Δ.ba + MO)), none, some (.int (x2)), none, none, none] [.int (y0)] := by
  unfold b_Mod_cacheOf_81 at h
  refine g_istore (pc := 81) (dd d_Mod_cacheOf 45 rfl) (by decide) ?_
  refine g_iload_n (pc := 83) (dd d_Mod_cacheOf 46 rfl) rfl ?_
  refine g_ifne (pc := 84) (tgt := 98) (dd d_Mod_cacheOf 47 rfl) (by decide) (fun q15 => ?_) (fun q15 => ?_)
  · replace h := ite_f h q15
    refine g_iload_n (pc := 98) (dd d_Mod_cacheOf 55 rfl) rfl ?_
    refine g_bipush (pc := 99) (v := 9) (dd d_Mod_cacheOf 56 rfl) (by decide) ?_
    refine g_icmple (pc := 101) (tgt := 120) (dd d_Mod_cacheOf 57 rfl) (by decide) (fun q16 => ?_) (fun q16 => ?_)
    · replace h := ite_t h q16
      refine g_aload_n (pc := 120) (dd d_Mod_cacheOf_1 9 rfl) rfl ?_
      refine g_getr (pc := 121) (dd d_Mod_cacheOf_1 10 rfl) f_Mod_98 ob_MO rfl (mr_answers hX) ?_
      refine g_iconst (pc := 124) (v := 5) (dd d_Mod_cacheOf_1 11 rfl) (by decide) ?_
      refine g_iload (pc := 125) (dd d_Mod_cacheOf_1 12 rfl) rfl ?_
      refine g_imul (pc := 127) (dd d_Mod_cacheOf_1 13 rfl) ?_
      obtain ⟨c17, h⟩ := chk_e h
      refine g_iald (pc := 128) (dd d_Mod_cacheOf_1 14 rfl) ar_A_answers c17 ?_
      refine g_iconst (pc := 129) (v := 3) (dd d_Mod_cacheOf_1 15 rfl) (by decide) ?_
      suffices K130 : ∀ z : Int32, z = (if (I A_answers (5 * y0 : Int32).toNatClampNeg : Int32) = (3 : Int32) then 1 else 0 : Int32) → GG Δ m_Mod_cacheOf Γ NN 0 0 (I, X) 138 [some (.ref (Δ.ba + MO)), none, some (.int (x2)), none, some (.int (y0)), none] [.int (z)] by
        refine g_icmpne (pc := 130) (tgt := 137) (dd d_Mod_cacheOf_1 16 rfl) (by decide) (fun q18 => ?_) (fun q18 => ?_)
        · skip
          refine g_iconst (pc := 137) (v := 0) (dd d_Mod_cacheOf_1 19 rfl) (by decide) ?_
          exact K130 _ (by rw [if_neg q18])
        · skip
          refine g_iconst (pc := 133) (v := 1) (dd d_Mod_cacheOf_1 17 rfl) (by decide) ?_
          refine g_goto (pc := 134) (tgt := 138) (dd d_Mod_cacheOf_1 18 rfl) (by decide) ?_
          exact K130 _ (by rw [if_pos q18])
      intro z hz
      subst hz
      refine g_istore (pc := 138) (dd d_Mod_cacheOf_1 20 rfl) (by decide) ?_
      refine g_iload_n (pc := 140) (dd d_Mod_cacheOf_1 21 rfl) rfl ?_
      refine g_iconst (pc := 141) (v := 1) (dd d_Mod_cacheOf_1 22 rfl) (by decide) ?_
      refine g_icmpne (pc := 142) (tgt := 156) (dd d_Mod_cacheOf_1 23 rfl) (by decide) (fun q19 => ?_) (fun q19 => ?_)
      · replace h := ite_f h q19
        refine g_iload (pc := 156) (dd d_Mod_cacheOf_1 30 rfl) rfl ?_
        refine g_ifne (pc := 158) (tgt := 205) (dd d_Mod_cacheOf_1 31 rfl) (by decide) (fun q20 => ?_) (fun q20 => ?_)
        · replace h := ite_f h q20
          refine g_drop [0, 2, 4, 5] ?_
          exact gb_Mod_cacheOf_205 hX hk hT  h
        · replace h := ite_t h q20
          refine g_aload_n (pc := 161) (dd d_Mod_cacheOf_1 32 rfl) rfl ?_
          refine g_aload_n (pc := 162) (dd d_Mod_cacheOf_1 33 rfl) rfl ?_
          refine g_getr (pc := 163) (dd d_Mod_cacheOf_1 34 rfl) f_Mod_44 ob_MO rfl (mr_ruleOf hX) ?_
          refine g_aload_n (pc := 166) (dd d_Mod_cacheOf_1 35 rfl) rfl ?_
          refine g_getr (pc := 167) (dd d_Mod_cacheOf_1 36 rfl) f_Mod_95 ob_MO rfl (mr_cache hX) ?_
          refine g_bipush (pc := 170) (v := 16) (dd d_Mod_cacheOf_1 37 rfl) (by decide) ?_
          refine g_iload (pc := 172) (dd d_Mod_cacheOf_1 38 rfl) rfl ?_
          refine g_imul (pc := 174) (dd d_Mod_cacheOf_1 39 rfl) ?_
          obtain ⟨c21, h⟩ := chk_e h
          refine g_iald (pc := 175) (dd d_Mod_cacheOf_1 40 rfl) ar_A_cache c21 ?_
          obtain ⟨c22, h⟩ := chk_e h
          refine g_iald (pc := 176) (dd d_Mod_cacheOf_1 41 rfl) ar_A_ruleOf c22 ?_
          refine g_bipush (pc := 177) (v := 51) (dd d_Mod_cacheOf_1 42 rfl) (by decide) ?_
          refine g_iload_n (pc := 179) (dd d_Mod_cacheOf_1 43 rfl) rfl ?_
          refine g_iadd (pc := 180) (dd d_Mod_cacheOf_1 44 rfl) ?_
          refine g_iconst (pc := 181) (v := 2) (dd d_Mod_cacheOf_1 45 rfl) (by decide) ?_
          refine g_isub (pc := 182) (dd d_Mod_cacheOf_1 46 rfl) ?_
          obtain ⟨v23, e24, h⟩ := bnd_e h
          refine g_callV (pc := 183) (dd d_Mod_cacheOf_1 47 rfl) v_Mod_564 ob_MO rfl (ef_Mod_tells hX e24) rfl (by rw [hk]; decide) (Nat.le_of_ble_eq_true rfl) ⟨Nat.zero_le _, Nat.zero_le _⟩ rfl ?_
          refine g_ifeq (pc := 186) (tgt := 205) (dd d_Mod_cacheOf_1 48 rfl) (by decide) (fun q25 => ?_) (fun q25 => ?_)
          · replace h := ite_t h q25
            refine g_drop [0, 2, 4, 5] ?_
            exact gb_Mod_cacheOf_205 hX hk hT  h
          · replace h := ite_f h q25
            refine g_aload_n (pc := 189) (dd d_Mod_cacheOf_1 49 rfl) rfl ?_
            refine g_getr (pc := 190) (dd d_Mod_cacheOf_1 50 rfl) f_Mod_98 ob_MO rfl (mr_answers hX) ?_
            refine g_iconst (pc := 193) (v := 5) (dd d_Mod_cacheOf_1 51 rfl) (by decide) ?_
            refine g_iload (pc := 194) (dd d_Mod_cacheOf_1 52 rfl) rfl ?_
            refine g_imul (pc := 196) (dd d_Mod_cacheOf_1 53 rfl) ?_
            refine g_iload_n (pc := 197) (dd d_Mod_cacheOf_1 54 rfl) rfl ?_
            refine g_iadd (pc := 198) (dd d_Mod_cacheOf_1 55 rfl) ?_
            refine g_iconst (pc := 199) (v := 1) (dd d_Mod_cacheOf_1 56 rfl) (by decide) ?_
            refine g_isub (pc := 200) (dd d_Mod_cacheOf_1 57 rfl) ?_
            obtain ⟨c26, h⟩ := chk_e h
            refine g_iald (pc := 201) (dd d_Mod_cacheOf_1 58 rfl) ar_A_answers c26 ?_
            refine g_goto (pc := 202) (tgt := 206) (dd d_Mod_cacheOf_1 59 rfl) (by decide) ?_
            refine g_drop [0, 2, 4, 5] ?_
            exact gb_Mod_cacheOf_206 hX hk hT  h
      · replace h := ite_t h q19
        refine g_iload (pc := 145) (dd d_Mod_cacheOf_1 24 rfl) rfl ?_
        suffices K147 : ∀ z : Int32, z = (if (if (I A_answers (5 * y0 : Int32).toNatClampNeg : Int32) = (3 : Int32) then 1 else 0 : Int32) = 0 then 0 else 3 : Int32) → GG Δ m_Mod_cacheOf Γ NN 0 0 (I, X) 155 [some (.ref (Δ.ba + MO)), none, some (.int (x2)), none, some (.int (y0)), some (.int (if (I A_answers (5 * y0 : Int32).toNatClampNeg : Int32) = (3 : Int32) then 1 else 0))] [.int (z)] by
          refine g_ifeq (pc := 147) (tgt := 154) (dd d_Mod_cacheOf_1 25 rfl) (by decide) (fun q27 => ?_) (fun q27 => ?_)
          · skip
            refine g_iconst (pc := 154) (v := 0) (dd d_Mod_cacheOf_1 28 rfl) (by decide) ?_
            exact K147 _ (by rw [if_pos q27])
          · skip
            refine g_iconst (pc := 150) (v := 3) (dd d_Mod_cacheOf_1 26 rfl) (by decide) ?_
            refine g_goto (pc := 151) (tgt := 155) (dd d_Mod_cacheOf_1 27 rfl) (by decide) ?_
            exact K147 _ (by rw [if_neg q27])
        intro z hz
        subst hz
        cases h
        exact g_iret (pc := 155) rfl (dd d_Mod_cacheOf_1 29 rfl) hT
    · replace h := ite_f h q16
      refine g_aload_n (pc := 104) (dd d_Mod_cacheOf 58 rfl) rfl ?_
      refine g_getr (pc := 105) (dd d_Mod_cacheOf 59 rfl) f_Mod_95 ob_MO rfl (mr_cache hX) ?_
      refine g_bipush (pc := 108) (v := 16) (dd d_Mod_cacheOf_1 0 rfl) (by decide) ?_
      refine g_iload (pc := 110) (dd d_Mod_cacheOf_1 1 rfl) rfl ?_
      refine g_imul (pc := 112) (dd d_Mod_cacheOf_1 2 rfl) ?_
      refine g_iload_n (pc := 113) (dd d_Mod_cacheOf_1 3 rfl) rfl ?_
      refine g_iadd (pc := 114) (dd d_Mod_cacheOf_1 4 rfl) ?_
      refine g_bipush (pc := 115) (v := 9) (dd d_Mod_cacheOf_1 5 rfl) (by decide) ?_
      refine g_isub (pc := 117) (dd d_Mod_cacheOf_1 6 rfl) ?_
      obtain ⟨c28, h⟩ := chk_e h
      refine g_iald (pc := 118) (dd d_Mod_cacheOf_1 7 rfl) ar_A_cache c28 ?_
      cases h
      exact g_iret (pc := 119) rfl (dd d_Mod_cacheOf_1 8 rfl) hT
  · replace h := ite_t h q15
    refine g_aload_n (pc := 87) (dd d_Mod_cacheOf 48 rfl) rfl ?_
    refine g_getr (pc := 88) (dd d_Mod_cacheOf 49 rfl) f_Mod_95 ob_MO rfl (mr_cache hX) ?_
    refine g_bipush (pc := 91) (v := 16) (dd d_Mod_cacheOf 50 rfl) (by decide) ?_
    refine g_iload (pc := 93) (dd d_Mod_cacheOf 51 rfl) rfl ?_
    refine g_imul (pc := 95) (dd d_Mod_cacheOf 52 rfl) ?_
    obtain ⟨c29, h⟩ := chk_e h
    refine g_iald (pc := 96) (dd d_Mod_cacheOf 53 rfl) ar_A_cache c29 ?_
    cases h
    exact g_iret (pc := 97) rfl (dd d_Mod_cacheOf 54 rfl) hT
def b_Mod_cacheOf_51 (n : Nat)  (x1 : Int32) (x2 : Int32) (y2 : Int32) (y1 : Int32) (I : IM) : Option (Int32 × IM) := Option.bind (f_Mod_refuse  y1 y2 I) fun v30 => if (v30.1 : Int32) = 0 then (if (8 : Int32) ≤ (v30.2 MO 58 : Int32) then (b_Mod_cacheOf_81 n  x2 (((v30.2 MO 59) + x1) - ((v30.2 MO 59) + x1) / (8) * (8)) v30.2) else (b_Mod_cacheOf_81 n  x2 x1 v30.2)) else (some (0, v30.2))
set_option maxRecDepth 20000 in
set_option maxHeartbeats 4000000 in
theorem gb_Mod_cacheOf_51 {Δ : Dx} {X : Lx} (hX : MX Δ X)   {n : Nat} {Γ : Cx} (hk : Γ.k = 1) {r : Int32 × IM} (hT : Tg Δ Γ (some (.int r.1)) NN (r.2, X) 0 0)  {x1 : Int32} {x2 : Int32} {y2 : Int32} {y1 : Int32} {I : IM} (h : b_Mod_cacheOf_51 n  x1 x2 y2 y1 I = some r) : GG Δ m_Mod_cacheOf Γ NN 0 0 (I, X) 51 [some (.ref (Δ.ba + MO)), some (.int (x1)), some (.int (x2)), none, none, none] [.int (y2), .int (y1), .ref (Δ.ba + MO)] := by
  unfold b_Mod_cacheOf_51 at h
  obtain ⟨v30, e31, h⟩ := bnd_e h
  refine g_callV (pc := 51) (dd d_Mod_cacheOf 29 rfl) v_Mod_250 ob_MO rfl (ef_Mod_refuse hX e31) rfl (by rw [hk]; decide) (Nat.le_of_ble_eq_true rfl) ⟨Nat.zero_le _, Nat.zero_le _⟩ rfl ?_
  refine g_ifeq (pc := 54) (tgt := 59) (dd d_Mod_cacheOf 30 rfl) (by decide) (fun q32 => ?_) (fun q32 => ?_)
  · replace h := ite_t h q32
    refine g_aload_n (pc := 59) (dd d_Mod_cacheOf 33 rfl) rfl ?_
    refine g_geti (pc := 60) (dd d_Mod_cacheOf 34 rfl) f_Mod_376 ob_MO rfl ?_
    refine g_bipush (pc := 63) (v := 8) (dd d_Mod_cacheOf 35 rfl) (by decide) ?_
    refine g_icmpge (pc := 65) (tgt := 72) (dd d_Mod_cacheOf 36 rfl) (by decide) (fun q33 => ?_) (fun q33 => ?_)
    · replace h := ite_t h q33
      refine g_aload_n (pc := 72) (dd d_Mod_cacheOf 39 rfl) rfl ?_
      refine g_geti (pc := 73) (dd d_Mod_cacheOf 40 rfl) f_Mod_379 ob_MO rfl ?_
      refine g_iload_n (pc := 76) (dd d_Mod_cacheOf 41 rfl) rfl ?_
      refine g_iadd (pc := 77) (dd d_Mod_cacheOf 42 rfl) ?_
      refine g_bipush (pc := 78) (v := 8) (dd d_Mod_cacheOf 43 rfl) (by decide) ?_
      refine g_irem (pc := 80) (dd d_Mod_cacheOf 44 rfl) (by decide) ?_
      refine g_drop [1] ?_
      exact gb_Mod_cacheOf_81 hX hk hT  h
    · replace h := ite_f h q33
      refine g_iload_n (pc := 68) (dd d_Mod_cacheOf 37 rfl) rfl ?_
      refine g_goto (pc := 69) (tgt := 81) (dd d_Mod_cacheOf 38 rfl) (by decide) ?_
      refine g_drop [1] ?_
      exact gb_Mod_cacheOf_81 hX hk hT  h
  · replace h := ite_f h q32
    refine g_iconst (pc := 57) (v := 0) (dd d_Mod_cacheOf 31 rfl) (by decide) ?_
    cases h
    exact g_iret (pc := 58) rfl (dd d_Mod_cacheOf 32 rfl) hT
def b_Mod_cacheOf_50 (n : Nat)  (x1 : Int32) (x2 : Int32) (y1 : Int32) (I : IM) : Option (Int32 × IM) := b_Mod_cacheOf_51 n  x1 x2 0 y1 I
set_option maxRecDepth 20000 in
set_option maxHeartbeats 4000000 in
theorem gb_Mod_cacheOf_50 {Δ : Dx} {X : Lx} (hX : MX Δ X)   {n : Nat} {Γ : Cx} (hk : Γ.k = 1) {r : Int32 × IM} (hT : Tg Δ Γ (some (.int r.1)) NN (r.2, X) 0 0)  {x1 : Int32} {x2 : Int32} {y1 : Int32} {I : IM} (h : b_Mod_cacheOf_50 n  x1 x2 y1 I = some r) : GG Δ m_Mod_cacheOf Γ NN 0 0 (I, X) 50 [some (.ref (Δ.ba + MO)), some (.int (x1)), some (.int (x2)), none, none, none] [.int (y1), .ref (Δ.ba + MO)] := by
  unfold b_Mod_cacheOf_50 at h
  refine g_iconst (pc := 50) (v := 0) (dd d_Mod_cacheOf 28 rfl) (by decide) ?_
  exact gb_Mod_cacheOf_51 hX hk hT  h
def f_Mod_cacheOf (n : Nat) (x1 : Int32) (x2 : Int32) (I : IM) : Option (Int32 × IM) := Option.bind (f_Mod_in  x1 0 ((I MO 58) - 1) I) fun v1 => if v1 = 0 then (b_Mod_cacheOf_50 n  x1 x2 (if v1 = 0 then 1 else 0) I) else (Option.bind (f_Mod_in  x2 0 4 I) fun v5 => if v5 = 0 then (Option.bind (f_Mod_in  x2 10 24 I) fun v8 => Option.bind (f_Mod_refuse  (if v1 = 0 then 1 else 0) (if v8 = 0 then 1 else 0) I) fun v11 => if (v11.1 : Int32) = 0 then (if (8 : Int32) ≤ (v11.2 MO 58 : Int32) then (b_Mod_cacheOf_81 n  x2 (((v11.2 MO 59) + x1) - ((v11.2 MO 59) + x1) / (8) * (8)) v11.2) else (b_Mod_cacheOf_81 n  x2 x1 v11.2)) else (some (0, v11.2))) else (b_Mod_cacheOf_50 n  x1 x2 (if v1 = 0 then 1 else 0) I))
set_option maxRecDepth 20000 in
set_option maxHeartbeats 4000000 in
theorem ef_Mod_cacheOf {Δ : Dx} {X : Lx} (hX : MX Δ X) {n : Nat} {x1 : Int32} {x2 : Int32}  {I : IM}  {r : Int32 × IM} (h : f_Mod_cacheOf n x1 x2 I = some r) : Ev Δ 1 m_Mod_cacheOf [.ref (Δ.ba + MO), .int x1, .int x2] (I, X) (some (.int r.1)) (r.2, X) := by
  refine ev_of (by decide) (Nat.le_of_ble_eq_true rfl) (fun Γ hk hR hT => ?_)
  change GG Δ m_Mod_cacheOf Γ NN 0 0 (I, X) 0 [some (.ref (Δ.ba + MO)), some (.int (x1)), some (.int (x2)), none, none, none] []
  unfold f_Mod_cacheOf at h
  refine g_iload_n (pc := 0) (dd d_Mod_cacheOf 0 rfl) rfl ?_
  refine g_iconst (pc := 1) (v := 0) (dd d_Mod_cacheOf 1 rfl) (by decide) ?_
  refine g_aload_n (pc := 2) (dd d_Mod_cacheOf 2 rfl) rfl ?_
  refine g_geti (pc := 3) (dd d_Mod_cacheOf 3 rfl) f_Mod_376 ob_MO rfl ?_
  refine g_iconst (pc := 6) (v := 1) (dd d_Mod_cacheOf 4 rfl) (by decide) ?_
  refine g_isub (pc := 7) (dd d_Mod_cacheOf 5 rfl) ?_
  obtain ⟨v1, e2, h⟩ := bnd_e h
  refine g_callS (pc := 8) (dd d_Mod_cacheOf 6 rfl) s_Mod_243 (ef_Mod_in hX e2) rfl (by rw [hk]; decide) (Nat.le_of_ble_eq_true rfl) ⟨Nat.zero_le _, Nat.zero_le _⟩ rfl ?_
  refine g_istore_n (pc := 11) (dd d_Mod_cacheOf 7 rfl) (by decide) ?_
  refine g_aload_n (pc := 12) (dd d_Mod_cacheOf 8 rfl) rfl ?_
  refine g_iload_n (pc := 13) (dd d_Mod_cacheOf 9 rfl) rfl ?_
  suffices K14 : ∀ z : Int32, z = (if v1 = 0 then 1 else 0 : Int32) → GG Δ m_Mod_cacheOf Γ NN 0 0 (I, X) 22 [some (.ref (Δ.ba + MO)), some (.int (x1)), some (.int (x2)), some (.int (v1)), none, none] [.int (z), .ref (Δ.ba + MO)] by
    refine g_ifne (pc := 14) (tgt := 21) (dd d_Mod_cacheOf 10 rfl) (by decide) (fun q3 => ?_) (fun q3 => ?_)
    · skip
      refine g_iconst (pc := 21) (v := 0) (dd d_Mod_cacheOf 13 rfl) (by decide) ?_
      exact K14 _ (by rw [if_neg q3])
    · skip
      refine g_iconst (pc := 17) (v := 1) (dd d_Mod_cacheOf 11 rfl) (by decide) ?_
      refine g_goto (pc := 18) (tgt := 22) (dd d_Mod_cacheOf 12 rfl) (by decide) ?_
      exact K14 _ (by rw [if_pos q3])
  intro z hz
  subst hz
  refine g_iload_n (pc := 22) (dd d_Mod_cacheOf 14 rfl) rfl ?_
  refine g_ifeq (pc := 23) (tgt := 50) (dd d_Mod_cacheOf 15 rfl) (by decide) (fun q4 => ?_) (fun q4 => ?_)
  · replace h := ite_t h q4
    refine g_drop [3] ?_
    exact gb_Mod_cacheOf_50 hX hk hT  h
  · replace h := ite_f h q4
    refine g_iload_n (pc := 26) (dd d_Mod_cacheOf 16 rfl) rfl ?_
    refine g_iconst (pc := 27) (v := 0) (dd d_Mod_cacheOf 17 rfl) (by decide) ?_
    refine g_iconst (pc := 28) (v := 4) (dd d_Mod_cacheOf 18 rfl) (by decide) ?_
    obtain ⟨v5, e6, h⟩ := bnd_e h
    refine g_callS (pc := 29) (dd d_Mod_cacheOf 19 rfl) s_Mod_243 (ef_Mod_in hX e6) rfl (by rw [hk]; decide) (Nat.le_of_ble_eq_true rfl) ⟨Nat.zero_le _, Nat.zero_le _⟩ rfl ?_
    refine g_ifne (pc := 32) (tgt := 50) (dd d_Mod_cacheOf 20 rfl) (by decide) (fun q7 => ?_) (fun q7 => ?_)
    · replace h := ite_f h q7
      refine g_drop [3] ?_
      exact gb_Mod_cacheOf_50 hX hk hT  h
    · replace h := ite_t h q7
      refine g_iload_n (pc := 35) (dd d_Mod_cacheOf 21 rfl) rfl ?_
      refine g_bipush (pc := 36) (v := 10) (dd d_Mod_cacheOf 22 rfl) (by decide) ?_
      refine g_bipush (pc := 38) (v := 24) (dd d_Mod_cacheOf 23 rfl) (by decide) ?_
      obtain ⟨v8, e9, h⟩ := bnd_e h
      refine g_callS (pc := 40) (dd d_Mod_cacheOf 24 rfl) s_Mod_243 (ef_Mod_in hX e9) rfl (by rw [hk]; decide) (Nat.le_of_ble_eq_true rfl) ⟨Nat.zero_le _, Nat.zero_le _⟩ rfl ?_
      suffices K43 : ∀ z : Int32, z = (if v8 = 0 then 1 else 0 : Int32) → GG Δ m_Mod_cacheOf Γ NN 0 0 (I, X) 51 [some (.ref (Δ.ba + MO)), some (.int (x1)), some (.int (x2)), some (.int (v1)), none, none] [.int (z), .int (if v1 = 0 then 1 else 0), .ref (Δ.ba + MO)] by
        refine g_ifne (pc := 43) (tgt := 50) (dd d_Mod_cacheOf 25 rfl) (by decide) (fun q10 => ?_) (fun q10 => ?_)
        · skip
          refine g_iconst (pc := 50) (v := 0) (dd d_Mod_cacheOf 28 rfl) (by decide) ?_
          exact K43 _ (by rw [if_neg q10])
        · skip
          refine g_iconst (pc := 46) (v := 1) (dd d_Mod_cacheOf 26 rfl) (by decide) ?_
          refine g_goto (pc := 47) (tgt := 51) (dd d_Mod_cacheOf 27 rfl) (by decide) ?_
          exact K43 _ (by rw [if_pos q10])
      intro z hz
      subst hz
      obtain ⟨v11, e12, h⟩ := bnd_e h
      refine g_callV (pc := 51) (dd d_Mod_cacheOf 29 rfl) v_Mod_250 ob_MO rfl (ef_Mod_refuse hX e12) rfl (by rw [hk]; decide) (Nat.le_of_ble_eq_true rfl) ⟨Nat.zero_le _, Nat.zero_le _⟩ rfl ?_
      refine g_ifeq (pc := 54) (tgt := 59) (dd d_Mod_cacheOf 30 rfl) (by decide) (fun q13 => ?_) (fun q13 => ?_)
      · replace h := ite_t h q13
        refine g_aload_n (pc := 59) (dd d_Mod_cacheOf 33 rfl) rfl ?_
        refine g_geti (pc := 60) (dd d_Mod_cacheOf 34 rfl) f_Mod_376 ob_MO rfl ?_
        refine g_bipush (pc := 63) (v := 8) (dd d_Mod_cacheOf 35 rfl) (by decide) ?_
        refine g_icmpge (pc := 65) (tgt := 72) (dd d_Mod_cacheOf 36 rfl) (by decide) (fun q14 => ?_) (fun q14 => ?_)
        · replace h := ite_t h q14
          refine g_aload_n (pc := 72) (dd d_Mod_cacheOf 39 rfl) rfl ?_
          refine g_geti (pc := 73) (dd d_Mod_cacheOf 40 rfl) f_Mod_379 ob_MO rfl ?_
          refine g_iload_n (pc := 76) (dd d_Mod_cacheOf 41 rfl) rfl ?_
          refine g_iadd (pc := 77) (dd d_Mod_cacheOf 42 rfl) ?_
          refine g_bipush (pc := 78) (v := 8) (dd d_Mod_cacheOf 43 rfl) (by decide) ?_
          refine g_irem (pc := 80) (dd d_Mod_cacheOf 44 rfl) (by decide) ?_
          refine g_drop [1, 3] ?_
          exact gb_Mod_cacheOf_81 hX hk hT  h
        · replace h := ite_f h q14
          refine g_iload_n (pc := 68) (dd d_Mod_cacheOf 37 rfl) rfl ?_
          refine g_goto (pc := 69) (tgt := 81) (dd d_Mod_cacheOf 38 rfl) (by decide) ?_
          refine g_drop [1, 3] ?_
          exact gb_Mod_cacheOf_81 hX hk hT  h
      · replace h := ite_f h q13
        refine g_iconst (pc := 57) (v := 0) (dd d_Mod_cacheOf 31 rfl) (by decide) ?_
        cases h
        exact g_iret (pc := 58) rfl (dd d_Mod_cacheOf 32 rfl) hT
def b_Mod_keep_83 (n : Nat) (H7 : Int32 → IM → Option (IM)) (x1 : Int32) (y2 : Int32) (y1 : Int32) (I : IM) : Option (IM) := chk (inb y1 2000) <| lt (up I A_codeValue y1.toNatClampNeg (y2)) fun I9 => H7 (x1 + 1) I9
set_option maxRecDepth 20000 in
set_option maxHeartbeats 4000000 in
theorem gb_Mod_keep_83 {Δ : Dx} {X : Lx} (hX : MX Δ X)   {n : Nat} {Γ : Cx} (hk : Γ.k = 0) {r : IM} (hT : Tg Δ Γ none NN (r, X) 0 0) {H7 : Int32 → IM → Option (IM)} (hH7 : ∀ (x1 : Int32) (I : IM), H7 x1 I = some r → GG Δ m_Mod_keep Γ NN 0 0 (I, X) 7 [some (.ref (Δ.ba + MO)), some (.int (x1))] []) {x1 : Int32} {y2 : Int32} {y1 : Int32} {I : IM} (h : b_Mod_keep_83 n H7 x1 y2 y1 I = some r) : GG Δ m_Mod_keep Γ NN 0 0 (I, X) 83 [some (.ref (Δ.ba + MO)), some (.int (x1))] [.int (y2), .int (y1), .ref (Δ.ba + A_codeValue)] := by
  unfold b_Mod_keep_83 at h
  obtain ⟨c8, h⟩ := chk_e h
  refine g_iastN (pc := 83) (dd d_Mod_keep 47 rfl) ar_A_codeValue c8 (fun I9 hI9 => ?_)
  replace h := lt_e h hI9
  refine g_iincW (pc := 84) (w := 1) (dd d_Mod_keep 48 rfl) rfl (by decide) (by decide) ?_
  refine g_goto (pc := 87) (tgt := 7) (dd d_Mod_keep 49 rfl) (by decide) ?_
  exact hH7 _ _ h
def b_Mod_keep_64 (n : Nat) (H7 : Int32 → IM → Option (IM)) (x1 : Int32) (y1 : Int32) (I : IM) : Option (IM) := chk (inb x1 2000) <| b_Mod_keep_83 n H7 x1 ((I A_codeValue x1.toNatClampNeg) + 1000) y1 I
set_option maxRecDepth 20000 in
set_option maxHeartbeats 4000000 in
theorem gb_Mod_keep_64 {Δ : Dx} {X : Lx} (hX : MX Δ X)   {n : Nat} {Γ : Cx} (hk : Γ.k = 0) {r : IM} (hT : Tg Δ Γ none NN (r, X) 0 0) {H7 : Int32 → IM → Option (IM)} (hH7 : ∀ (x1 : Int32) (I : IM), H7 x1 I = some r → GG Δ m_Mod_keep Γ NN 0 0 (I, X) 7 [some (.ref (Δ.ba + MO)), some (.int (x1))] []) {x1 : Int32} {y1 : Int32} {I : IM} (h : b_Mod_keep_64 n H7 x1 y1 I = some r) : GG Δ m_Mod_keep Γ NN 0 0 (I, X) 64 [some (.ref (Δ.ba + MO)), some (.int (x1))] [.int (y1), .ref (Δ.ba + A_codeValue)] := by
  unfold b_Mod_keep_64 at h
  refine g_aload_n (pc := 64) (dd d_Mod_keep 36 rfl) rfl ?_
  refine g_getr (pc := 65) (dd d_Mod_keep 37 rfl) f_Mod_23 ob_MO rfl (mr_codeValue hX) ?_
  refine g_iload_n (pc := 68) (dd d_Mod_keep 38 rfl) rfl ?_
  obtain ⟨c10, h⟩ := chk_e h
  refine g_iald (pc := 69) (dd d_Mod_keep 39 rfl) ar_A_codeValue c10 ?_
  refine g_sipush (pc := 70) (v := 1000) (dd d_Mod_keep 40 rfl) (by decide) ?_
  refine g_iadd (pc := 73) (dd d_Mod_keep 41 rfl) ?_
  refine g_goto (pc := 74) (tgt := 83) (dd d_Mod_keep 42 rfl) (by decide) ?_
  exact gb_Mod_keep_83 hX hk hT hH7 h
def b_Mod_keep_273 (n : Nat) (H236 : Int32 → IM → Option (IM)) (x1 : Int32) (y2 : Int32) (y1 : Int32) (I : IM) : Option (IM) := chk (inb y1 44) <| lt (up I A_ruleOf y1.toNatClampNeg (y2)) fun I27 => H236 (x1 + 1) I27
set_option maxRecDepth 20000 in
set_option maxHeartbeats 4000000 in
theorem gb_Mod_keep_273 {Δ : Dx} {X : Lx} (hX : MX Δ X)   {n : Nat} {Γ : Cx} (hk : Γ.k = 0) {r : IM} (hT : Tg Δ Γ none NN (r, X) 0 0) {H236 : Int32 → IM → Option (IM)} (hH236 : ∀ (x1 : Int32) (I : IM), H236 x1 I = some r → GG Δ m_Mod_keep Γ NN 0 0 (I, X) 236 [some (.ref (Δ.ba + MO)), some (.int (x1))] []) {x1 : Int32} {y2 : Int32} {y1 : Int32} {I : IM} (h : b_Mod_keep_273 n H236 x1 y2 y1 I = some r) : GG Δ m_Mod_keep Γ NN 0 0 (I, X) 273 [some (.ref (Δ.ba + MO)), some (.int (x1))] [.int (y2), .int (y1), .ref (Δ.ba + A_ruleOf)] := by
  unfold b_Mod_keep_273 at h
  obtain ⟨c26, h⟩ := chk_e h
  refine g_iastN (pc := 273) (dd d_Mod_keep_2 37 rfl) ar_A_ruleOf c26 (fun I27 hI27 => ?_)
  replace h := lt_e h hI27
  refine g_iincW (pc := 274) (w := 1) (dd d_Mod_keep_2 38 rfl) rfl (by decide) (by decide) ?_
  refine g_goto (pc := 277) (tgt := 236) (dd d_Mod_keep_2 39 rfl) (by decide) ?_
  exact hH236 _ _ h
def l_Mod_keep_236 (n : Nat)  : Nat → Int32 → IM → Option (IM)
  | 0, _, _ => none
  | f + 1, x1, I => if (22 : Int32) ≤ x1 then (some I) else (chk (inb x1 44) <| if 0 ≤ (I A_ruleOf x1.toNatClampNeg : Int32) then (b_Mod_keep_273 n (l_Mod_keep_236 n  f) x1 ((I A_ruleOf x1.toNatClampNeg) + 301) (22 + x1) I) else (b_Mod_keep_273 n (l_Mod_keep_236 n  f) x1 (-1) (22 + x1) I))
set_option maxRecDepth 20000 in
set_option maxHeartbeats 4000000 in
theorem gl_Mod_keep_236 {Δ : Dx} {X : Lx} (hX : MX Δ X)   {n : Nat} {Γ : Cx} (hk : Γ.k = 0) {r : IM} (hT : Tg Δ Γ none NN (r, X) 0 0)  : ∀ (f : Nat) (x1 : Int32) (I : IM), l_Mod_keep_236 n  f x1 I = some r → GG Δ m_Mod_keep Γ NN 0 0 (I, X) 236 [some (.ref (Δ.ba + MO)), some (.int (x1))] []
  | 0, _, _, h => by cases h
  | f + 1, x1, I, h => by
    have ih := gl_Mod_keep_236 (n := n) hX hk hT  f
    rw [l_Mod_keep_236] at h
    refine g_iload_n (pc := 236) (dd d_Mod_keep_2 16 rfl) rfl ?_
    refine g_bipush (pc := 237) (v := 22) (dd d_Mod_keep_2 17 rfl) (by decide) ?_
    refine g_icmpge (pc := 239) (tgt := 280) (dd d_Mod_keep_2 18 rfl) (by decide) (fun q23 => ?_) (fun q23 => ?_)
    · replace h := ite_t h q23
      cases h
      exact g_vret (pc := 280) rfl (dd d_Mod_keep_2 40 rfl) hT
    · replace h := ite_f h q23
      refine g_aload_n (pc := 242) (dd d_Mod_keep_2 19 rfl) rfl ?_
      refine g_getr (pc := 243) (dd d_Mod_keep_2 20 rfl) f_Mod_44 ob_MO rfl (mr_ruleOf hX) ?_
      refine g_bipush (pc := 246) (v := 22) (dd d_Mod_keep_2 21 rfl) (by decide) ?_
      refine g_iload_n (pc := 248) (dd d_Mod_keep_2 22 rfl) rfl ?_
      refine g_iadd (pc := 249) (dd d_Mod_keep_2 23 rfl) ?_
      refine g_aload_n (pc := 250) (dd d_Mod_keep_2 24 rfl) rfl ?_
      refine g_getr (pc := 251) (dd d_Mod_keep_2 25 rfl) f_Mod_44 ob_MO rfl (mr_ruleOf hX) ?_
      refine g_iload_n (pc := 254) (dd d_Mod_keep_2 26 rfl) rfl ?_
      obtain ⟨c24, h⟩ := chk_e h
      refine g_iald (pc := 255) (dd d_Mod_keep_2 27 rfl) ar_A_ruleOf c24 ?_
      refine g_ifge (pc := 256) (tgt := 263) (dd d_Mod_keep_2 28 rfl) (by decide) (fun q25 => ?_) (fun q25 => ?_)
      · replace h := ite_t h q25
        refine g_aload_n (pc := 263) (dd d_Mod_keep_2 31 rfl) rfl ?_
        refine g_getr (pc := 264) (dd d_Mod_keep_2 32 rfl) f_Mod_44 ob_MO rfl (mr_ruleOf hX) ?_
        refine g_iload_n (pc := 267) (dd d_Mod_keep_2 33 rfl) rfl ?_
        refine g_iald (pc := 268) (dd d_Mod_keep_2 34 rfl) ar_A_ruleOf c24 ?_
        refine g_sipush (pc := 269) (v := 301) (dd d_Mod_keep_2 35 rfl) (by decide) ?_
        refine g_iadd (pc := 272) (dd d_Mod_keep_2 36 rfl) ?_
        exact gb_Mod_keep_273 hX hk hT ih h
      · replace h := ite_f h q25
        refine g_iconst (pc := 259) (v := (-1)) (dd d_Mod_keep_2 29 rfl) (by decide) ?_
        refine g_goto (pc := 260) (tgt := 273) (dd d_Mod_keep_2 30 rfl) (by decide) ?_
        exact gb_Mod_keep_273 hX hk hT ih h
def l_Mod_keep_164 (n : Nat)  : Nat → Int32 → IM → Option (IM)
  | 0, _, _ => none
  | f + 1, x1, I => if (I MO 23 : Int32) ≤ x1 then (l_Mod_keep_236 n  n 0 I) else (chk (inb x1 602) <| chk (inb (301 + x1) 602) <| lt (up I A_ruleFrom (301 + x1 : Int32).toNatClampNeg ((I A_ruleFrom x1.toNatClampNeg) + 300)) fun I20 => lt (up I20 A_ruleTo (301 + x1 : Int32).toNatClampNeg ((I20 A_ruleTo x1.toNatClampNeg) + 300)) fun I21 => lt (up I21 A_named (301 + x1 : Int32).toNatClampNeg (I21 A_named x1.toNatClampNeg)) fun I22 => (l_Mod_keep_164 n  f) (x1 + 1) I22)
set_option maxRecDepth 20000 in
set_option maxHeartbeats 4000000 in
theorem gl_Mod_keep_164 {Δ : Dx} {X : Lx} (hX : MX Δ X)   {n : Nat} {Γ : Cx} (hk : Γ.k = 0) {r : IM} (hT : Tg Δ Γ none NN (r, X) 0 0)  : ∀ (f : Nat) (x1 : Int32) (I : IM), l_Mod_keep_164 n  f x1 I = some r → GG Δ m_Mod_keep Γ NN 0 0 (I, X) 164 [some (.ref (Δ.ba + MO)), some (.int (x1))] []
  | 0, _, _, h => by cases h
  | f + 1, x1, I, h => by
    have ih := gl_Mod_keep_164 (n := n) hX hk hT  f
    rw [l_Mod_keep_164] at h
    refine g_iload_n (pc := 164) (dd d_Mod_keep_1 34 rfl) rfl ?_
    refine g_aload_n (pc := 165) (dd d_Mod_keep_1 35 rfl) rfl ?_
    refine g_geti (pc := 166) (dd d_Mod_keep_1 36 rfl) f_Mod_331 ob_MO rfl ?_
    refine g_icmpge (pc := 169) (tgt := 234) (dd d_Mod_keep_1 37 rfl) (by decide) (fun q17 => ?_) (fun q17 => ?_)
    · replace h := ite_t h q17
      refine g_iconst (pc := 234) (v := 0) (dd d_Mod_keep_2 14 rfl) (by decide) ?_
      refine g_istore_n (pc := 235) (dd d_Mod_keep_2 15 rfl) (by decide) ?_
      exact gl_Mod_keep_236 hX hk hT  _ _ _ h
    · replace h := ite_f h q17
      refine g_aload_n (pc := 172) (dd d_Mod_keep_1 38 rfl) rfl ?_
      refine g_getr (pc := 173) (dd d_Mod_keep_1 39 rfl) f_Mod_38 ob_MO rfl (mr_ruleFrom hX) ?_
      refine g_sipush (pc := 176) (v := 301) (dd d_Mod_keep_1 40 rfl) (by decide) ?_
      refine g_iload_n (pc := 179) (dd d_Mod_keep_1 41 rfl) rfl ?_
      refine g_iadd (pc := 180) (dd d_Mod_keep_1 42 rfl) ?_
      refine g_aload_n (pc := 181) (dd d_Mod_keep_1 43 rfl) rfl ?_
      refine g_getr (pc := 182) (dd d_Mod_keep_1 44 rfl) f_Mod_38 ob_MO rfl (mr_ruleFrom hX) ?_
      refine g_iload_n (pc := 185) (dd d_Mod_keep_1 45 rfl) rfl ?_
      obtain ⟨c18, h⟩ := chk_e h
      refine g_iald (pc := 186) (dd d_Mod_keep_1 46 rfl) ar_A_ruleFrom c18 ?_
      refine g_sipush (pc := 187) (v := 300) (dd d_Mod_keep_1 47 rfl) (by decide) ?_
      refine g_iadd (pc := 190) (dd d_Mod_keep_1 48 rfl) ?_
      obtain ⟨c19, h⟩ := chk_e h
      refine g_iastN (pc := 191) (dd d_Mod_keep_1 49 rfl) ar_A_ruleFrom c19 (fun I20 hI20 => ?_)
      replace h := lt_e h hI20
      refine g_aload_n (pc := 192) (dd d_Mod_keep_1 50 rfl) rfl ?_
      refine g_getr (pc := 193) (dd d_Mod_keep_1 51 rfl) f_Mod_41 ob_MO rfl (mr_ruleTo hX) ?_
      refine g_sipush (pc := 196) (v := 301) (dd d_Mod_keep_1 52 rfl) (by decide) ?_
      refine g_iload_n (pc := 199) (dd d_Mod_keep_1 53 rfl) rfl ?_
      refine g_iadd (pc := 200) (dd d_Mod_keep_1 54 rfl) ?_
      refine g_aload_n (pc := 201) (dd d_Mod_keep_1 55 rfl) rfl ?_
      refine g_getr (pc := 202) (dd d_Mod_keep_1 56 rfl) f_Mod_41 ob_MO rfl (mr_ruleTo hX) ?_
      refine g_iload_n (pc := 205) (dd d_Mod_keep_1 57 rfl) rfl ?_
      refine g_iald (pc := 206) (dd d_Mod_keep_1 58 rfl) ar_A_ruleTo c18 ?_
      refine g_sipush (pc := 207) (v := 300) (dd d_Mod_keep_1 59 rfl) (by decide) ?_
      refine g_iadd (pc := 210) (dd d_Mod_keep_2 0 rfl) ?_
      refine g_iastN (pc := 211) (dd d_Mod_keep_2 1 rfl) ar_A_ruleTo c19 (fun I21 hI21 => ?_)
      replace h := lt_e h hI21
      refine g_aload_n (pc := 212) (dd d_Mod_keep_2 2 rfl) rfl ?_
      refine g_getr (pc := 213) (dd d_Mod_keep_2 3 rfl) f_Mod_47 ob_MO rfl (mr_named hX) ?_
      refine g_sipush (pc := 216) (v := 301) (dd d_Mod_keep_2 4 rfl) (by decide) ?_
      refine g_iload_n (pc := 219) (dd d_Mod_keep_2 5 rfl) rfl ?_
      refine g_iadd (pc := 220) (dd d_Mod_keep_2 6 rfl) ?_
      refine g_aload_n (pc := 221) (dd d_Mod_keep_2 7 rfl) rfl ?_
      refine g_getr (pc := 222) (dd d_Mod_keep_2 8 rfl) f_Mod_47 ob_MO rfl (mr_named hX) ?_
      refine g_iload_n (pc := 225) (dd d_Mod_keep_2 9 rfl) rfl ?_
      refine g_iald (pc := 226) (dd d_Mod_keep_2 10 rfl) ar_A_named c18 ?_
      refine g_iastN (pc := 227) (dd d_Mod_keep_2 11 rfl) ar_A_named c19 (fun I22 hI22 => ?_)
      replace h := lt_e h hI22
      refine g_iincW (pc := 228) (w := 1) (dd d_Mod_keep_2 12 rfl) rfl (by decide) (by decide) ?_
      refine g_goto (pc := 231) (tgt := 164) (dd d_Mod_keep_2 13 rfl) (by decide) ?_
      exact ih _ _ h
def l_Mod_keep_92 (n : Nat)  : Nat → Int32 → IM → Option (IM)
  | 0, _, _ => none
  | f + 1, x1, I => if (I MO 18 : Int32) ≤ x1 then (l_Mod_keep_164 n  n 0 I) else (chk (inb x1 600) <| chk (inb (300 + x1) 600) <| lt (up I A_statementKind (300 + x1 : Int32).toNatClampNeg (I A_statementKind x1.toNatClampNeg)) fun I14 => lt (up I14 A_statementFrom (300 + x1 : Int32).toNatClampNeg ((I14 A_statementFrom x1.toNatClampNeg) + 1000)) fun I15 => lt (up I15 A_statementTo (300 + x1 : Int32).toNatClampNeg ((I15 A_statementTo x1.toNatClampNeg) + 1000)) fun I16 => (l_Mod_keep_92 n  f) (x1 + 1) I16)
set_option maxRecDepth 20000 in
set_option maxHeartbeats 4000000 in
theorem gl_Mod_keep_92 {Δ : Dx} {X : Lx} (hX : MX Δ X)   {n : Nat} {Γ : Cx} (hk : Γ.k = 0) {r : IM} (hT : Tg Δ Γ none NN (r, X) 0 0)  : ∀ (f : Nat) (x1 : Int32) (I : IM), l_Mod_keep_92 n  f x1 I = some r → GG Δ m_Mod_keep Γ NN 0 0 (I, X) 92 [some (.ref (Δ.ba + MO)), some (.int (x1))] []
  | 0, _, _, h => by cases h
  | f + 1, x1, I, h => by
    have ih := gl_Mod_keep_92 (n := n) hX hk hT  f
    rw [l_Mod_keep_92] at h
    refine g_iload_n (pc := 92) (dd d_Mod_keep 52 rfl) rfl ?_
    refine g_aload_n (pc := 93) (dd d_Mod_keep 53 rfl) rfl ?_
    refine g_geti (pc := 94) (dd d_Mod_keep 54 rfl) f_Mod_349 ob_MO rfl ?_
    refine g_icmpge (pc := 97) (tgt := 162) (dd d_Mod_keep 55 rfl) (by decide) (fun q11 => ?_) (fun q11 => ?_)
    · replace h := ite_t h q11
      refine g_iconst (pc := 162) (v := 0) (dd d_Mod_keep_1 32 rfl) (by decide) ?_
      refine g_istore_n (pc := 163) (dd d_Mod_keep_1 33 rfl) (by decide) ?_
      exact gl_Mod_keep_164 hX hk hT  _ _ _ h
    · replace h := ite_f h q11
      refine g_aload_n (pc := 100) (dd d_Mod_keep 56 rfl) rfl ?_
      refine g_getr (pc := 101) (dd d_Mod_keep 57 rfl) f_Mod_26 ob_MO rfl (mr_statementKind hX) ?_
      refine g_sipush (pc := 104) (v := 300) (dd d_Mod_keep 58 rfl) (by decide) ?_
      refine g_iload_n (pc := 107) (dd d_Mod_keep 59 rfl) rfl ?_
      refine g_iadd (pc := 108) (dd d_Mod_keep_1 0 rfl) ?_
      refine g_aload_n (pc := 109) (dd d_Mod_keep_1 1 rfl) rfl ?_
      refine g_getr (pc := 110) (dd d_Mod_keep_1 2 rfl) f_Mod_26 ob_MO rfl (mr_statementKind hX) ?_
      refine g_iload_n (pc := 113) (dd d_Mod_keep_1 3 rfl) rfl ?_
      obtain ⟨c12, h⟩ := chk_e h
      refine g_iald (pc := 114) (dd d_Mod_keep_1 4 rfl) ar_A_statementKind c12 ?_
      obtain ⟨c13, h⟩ := chk_e h
      refine g_iastN (pc := 115) (dd d_Mod_keep_1 5 rfl) ar_A_statementKind c13 (fun I14 hI14 => ?_)
      replace h := lt_e h hI14
      refine g_aload_n (pc := 116) (dd d_Mod_keep_1 6 rfl) rfl ?_
      refine g_getr (pc := 117) (dd d_Mod_keep_1 7 rfl) f_Mod_32 ob_MO rfl (mr_statementFrom hX) ?_
      refine g_sipush (pc := 120) (v := 300) (dd d_Mod_keep_1 8 rfl) (by decide) ?_
      refine g_iload_n (pc := 123) (dd d_Mod_keep_1 9 rfl) rfl ?_
      refine g_iadd (pc := 124) (dd d_Mod_keep_1 10 rfl) ?_
      refine g_aload_n (pc := 125) (dd d_Mod_keep_1 11 rfl) rfl ?_
      refine g_getr (pc := 126) (dd d_Mod_keep_1 12 rfl) f_Mod_32 ob_MO rfl (mr_statementFrom hX) ?_
      refine g_iload_n (pc := 129) (dd d_Mod_keep_1 13 rfl) rfl ?_
      refine g_iald (pc := 130) (dd d_Mod_keep_1 14 rfl) ar_A_statementFrom c12 ?_
      refine g_sipush (pc := 131) (v := 1000) (dd d_Mod_keep_1 15 rfl) (by decide) ?_
      refine g_iadd (pc := 134) (dd d_Mod_keep_1 16 rfl) ?_
      refine g_iastN (pc := 135) (dd d_Mod_keep_1 17 rfl) ar_A_statementFrom c13 (fun I15 hI15 => ?_)
      replace h := lt_e h hI15
      refine g_aload_n (pc := 136) (dd d_Mod_keep_1 18 rfl) rfl ?_
      refine g_getr (pc := 137) (dd d_Mod_keep_1 19 rfl) f_Mod_35 ob_MO rfl (mr_statementTo hX) ?_
      refine g_sipush (pc := 140) (v := 300) (dd d_Mod_keep_1 20 rfl) (by decide) ?_
      refine g_iload_n (pc := 143) (dd d_Mod_keep_1 21 rfl) rfl ?_
      refine g_iadd (pc := 144) (dd d_Mod_keep_1 22 rfl) ?_
      refine g_aload_n (pc := 145) (dd d_Mod_keep_1 23 rfl) rfl ?_
      refine g_getr (pc := 146) (dd d_Mod_keep_1 24 rfl) f_Mod_35 ob_MO rfl (mr_statementTo hX) ?_
      refine g_iload_n (pc := 149) (dd d_Mod_keep_1 25 rfl) rfl ?_
      refine g_iald (pc := 150) (dd d_Mod_keep_1 26 rfl) ar_A_statementTo c12 ?_
      refine g_sipush (pc := 151) (v := 1000) (dd d_Mod_keep_1 27 rfl) (by decide) ?_
      refine g_iadd (pc := 154) (dd d_Mod_keep_1 28 rfl) ?_
      refine g_iastN (pc := 155) (dd d_Mod_keep_1 29 rfl) ar_A_statementTo c13 (fun I16 hI16 => ?_)
      replace h := lt_e h hI16
      refine g_iincW (pc := 156) (w := 1) (dd d_Mod_keep_1 30 rfl) rfl (by decide) (by decide) ?_
      refine g_goto (pc := 159) (tgt := 92) (dd d_Mod_keep_1 31 rfl) (by decide) ?_
      exact ih _ _ h
def l_Mod_keep_7 (n : Nat)  : Nat → Int32 → IM → Option (IM)
  | 0, _, _ => none
  | f + 1, x1, I => if (I MO 15 : Int32) ≤ x1 then (l_Mod_keep_92 n  n 0 I) else (chk (inb x1 2000) <| chk (inb (1000 + x1) 2000) <| lt (up I A_code0 (1000 + x1 : Int32).toNatClampNeg (I A_code0 x1.toNatClampNeg)) fun I5 => if (I5 A_code0 x1.toNatClampNeg : Int32) = (303 : Int32) then (b_Mod_keep_64 n (l_Mod_keep_7 n  f) x1 (1000 + x1) I5) else (if (I5 A_code0 x1.toNatClampNeg : Int32) = (302 : Int32) then (b_Mod_keep_64 n (l_Mod_keep_7 n  f) x1 (1000 + x1) I5) else (b_Mod_keep_83 n (l_Mod_keep_7 n  f) x1 (I5 A_codeValue x1.toNatClampNeg) (1000 + x1) I5)))
set_option maxRecDepth 20000 in
set_option maxHeartbeats 4000000 in
theorem gl_Mod_keep_7 {Δ : Dx} {X : Lx} (hX : MX Δ X)   {n : Nat} {Γ : Cx} (hk : Γ.k = 0) {r : IM} (hT : Tg Δ Γ none NN (r, X) 0 0)  : ∀ (f : Nat) (x1 : Int32) (I : IM), l_Mod_keep_7 n  f x1 I = some r → GG Δ m_Mod_keep Γ NN 0 0 (I, X) 7 [some (.ref (Δ.ba + MO)), some (.int (x1))] []
  | 0, _, _, h => by cases h
  | f + 1, x1, I, h => by
    have ih := gl_Mod_keep_7 (n := n) hX hk hT  f
    rw [l_Mod_keep_7] at h
    refine g_iload_n (pc := 7) (dd d_Mod_keep 5 rfl) rfl ?_
    refine g_aload_n (pc := 8) (dd d_Mod_keep 6 rfl) rfl ?_
    refine g_geti (pc := 9) (dd d_Mod_keep 7 rfl) f_Mod_292 ob_MO rfl ?_
    refine g_icmpge (pc := 12) (tgt := 90) (dd d_Mod_keep 8 rfl) (by decide) (fun q2 => ?_) (fun q2 => ?_)
    · replace h := ite_t h q2
      refine g_iconst (pc := 90) (v := 0) (dd d_Mod_keep 50 rfl) (by decide) ?_
      refine g_istore_n (pc := 91) (dd d_Mod_keep 51 rfl) (by decide) ?_
      exact gl_Mod_keep_92 hX hk hT  _ _ _ h
    · replace h := ite_f h q2
      refine g_aload_n (pc := 15) (dd d_Mod_keep 9 rfl) rfl ?_
      refine g_getr (pc := 16) (dd d_Mod_keep 10 rfl) f_Mod_20 ob_MO rfl (mr_code0 hX) ?_
      refine g_sipush (pc := 19) (v := 1000) (dd d_Mod_keep 11 rfl) (by decide) ?_
      refine g_iload_n (pc := 22) (dd d_Mod_keep 12 rfl) rfl ?_
      refine g_iadd (pc := 23) (dd d_Mod_keep 13 rfl) ?_
      refine g_aload_n (pc := 24) (dd d_Mod_keep 14 rfl) rfl ?_
      refine g_getr (pc := 25) (dd d_Mod_keep 15 rfl) f_Mod_20 ob_MO rfl (mr_code0 hX) ?_
      refine g_iload_n (pc := 28) (dd d_Mod_keep 16 rfl) rfl ?_
      obtain ⟨c3, h⟩ := chk_e h
      refine g_iald (pc := 29) (dd d_Mod_keep 17 rfl) ar_A_code0 c3 ?_
      obtain ⟨c4, h⟩ := chk_e h
      refine g_iastN (pc := 30) (dd d_Mod_keep 18 rfl) ar_A_code0 c4 (fun I5 hI5 => ?_)
      replace h := lt_e h hI5
      refine g_aload_n (pc := 31) (dd d_Mod_keep 19 rfl) rfl ?_
      refine g_getr (pc := 32) (dd d_Mod_keep 20 rfl) f_Mod_23 ob_MO rfl (mr_codeValue hX) ?_
      refine g_sipush (pc := 35) (v := 1000) (dd d_Mod_keep 21 rfl) (by decide) ?_
      refine g_iload_n (pc := 38) (dd d_Mod_keep 22 rfl) rfl ?_
      refine g_iadd (pc := 39) (dd d_Mod_keep 23 rfl) ?_
      refine g_aload_n (pc := 40) (dd d_Mod_keep 24 rfl) rfl ?_
      refine g_getr (pc := 41) (dd d_Mod_keep 25 rfl) f_Mod_20 ob_MO rfl (mr_code0 hX) ?_
      refine g_iload_n (pc := 44) (dd d_Mod_keep 26 rfl) rfl ?_
      refine g_iald (pc := 45) (dd d_Mod_keep 27 rfl) ar_A_code0 c3 ?_
      refine g_sipush (pc := 46) (v := 303) (dd d_Mod_keep 28 rfl) (by decide) ?_
      refine g_icmpeq (pc := 49) (tgt := 64) (dd d_Mod_keep 29 rfl) (by decide) (fun q6 => ?_) (fun q6 => ?_)
      · replace h := ite_t h q6
        exact gb_Mod_keep_64 hX hk hT ih h
      · replace h := ite_f h q6
        refine g_aload_n (pc := 52) (dd d_Mod_keep 30 rfl) rfl ?_
        refine g_getr (pc := 53) (dd d_Mod_keep 31 rfl) f_Mod_20 ob_MO rfl (mr_code0 hX) ?_
        refine g_iload_n (pc := 56) (dd d_Mod_keep 32 rfl) rfl ?_
        refine g_iald (pc := 57) (dd d_Mod_keep 33 rfl) ar_A_code0 c3 ?_
        refine g_sipush (pc := 58) (v := 302) (dd d_Mod_keep 34 rfl) (by decide) ?_
        refine g_icmpne (pc := 61) (tgt := 77) (dd d_Mod_keep 35 rfl) (by decide) (fun q7 => ?_) (fun q7 => ?_)
        · replace h := ite_f h q7
          refine g_aload_n (pc := 77) (dd d_Mod_keep 43 rfl) rfl ?_
          refine g_getr (pc := 78) (dd d_Mod_keep 44 rfl) f_Mod_23 ob_MO rfl (mr_codeValue hX) ?_
          refine g_iload_n (pc := 81) (dd d_Mod_keep 45 rfl) rfl ?_
          refine g_iald (pc := 82) (dd d_Mod_keep 46 rfl) ar_A_codeValue c3 ?_
          exact gb_Mod_keep_83 hX hk hT ih h
        · replace h := ite_t h q7
          exact gb_Mod_keep_64 hX hk hT ih h
def f_Mod_keep (n : Nat) (I : IM) : Option (IM) := lt (up I MO 0 (0)) fun I1 => l_Mod_keep_7 n  n 0 I1
set_option maxRecDepth 20000 in
set_option maxHeartbeats 4000000 in
theorem ef_Mod_keep {Δ : Dx} {X : Lx} (hX : MX Δ X) {n : Nat}  {I : IM}  {r : IM} (h : f_Mod_keep n I = some r) : Ev Δ 0 m_Mod_keep [.ref (Δ.ba + MO)] (I, X) none (r, X) := by
  refine ev_of (by decide) (Nat.le_of_ble_eq_true rfl) (fun Γ hk hR hT => ?_)
  change GG Δ m_Mod_keep Γ NN 0 0 (I, X) 0 [some (.ref (Δ.ba + MO)), none] []
  unfold f_Mod_keep at h
  refine g_aload_n (pc := 0) (dd d_Mod_keep 0 rfl) rfl ?_
  refine g_iconst (pc := 1) (v := 0) (dd d_Mod_keep 1 rfl) (by decide) ?_
  refine g_putiN (pc := 2) (dd d_Mod_keep 2 rfl) f_Mod_240 fm_Mod_0 ob_MO rfl (fun I1 hI1 => ?_)
  replace h := lt_e h hI1
  refine g_iconst (pc := 5) (v := 0) (dd d_Mod_keep 3 rfl) (by decide) ?_
  refine g_istore_n (pc := 6) (dd d_Mod_keep 4 rfl) (by decide) ?_
  exact gl_Mod_keep_7 hX hk hT  _ _ _ h
